section
-- ===== PART A: goes FIRST, ahead of the names: the tables' words, and 'selects' of the private methods out of them =====
/-- a private method of a class that the tables say can be made, by its rows of tables_1 -/
def lw_okq (q : MethodName × Nat) : Prop := (q.1.cls ≠ "java/lang/invoke/MethodHandle" ∧ q.1.cls ≠ "java/lang/invoke/VarHandle") ∧ Cond.instantiable q.1.cls q.2 ∈ tables_1 ∧ Cond.privateMethod q.1 ∈ tables_1 ∧ Cond.instanceMethod q.1 ∈ tables_1
theorem lw_p0 : lw_okq (⟨"BallDrops$Line", "open", "(II)V"⟩, 4) := ⟨⟨by decide +kernel, by decide +kernel⟩, List.mem_of_getElem? (i := 17) (by decide +kernel), List.mem_of_getElem? (i := 43) (by decide +kernel), List.mem_of_getElem? (i := 44) (by decide +kernel)⟩
theorem lw_p1 : lw_okq (⟨"BallDrops$Line", "copyFrom", "(LBallDrops$Line;)V"⟩, 4) := ⟨⟨by decide +kernel, by decide +kernel⟩, List.mem_of_getElem? (i := 17) (by decide +kernel), List.mem_of_getElem? (i := 157) (by decide +kernel), List.mem_of_getElem? (i := 158) (by decide +kernel)⟩
theorem lw_p2 : lw_okq (⟨"BallDrops$Line", "cut", "(III)V"⟩, 4) := ⟨⟨by decide +kernel, by decide +kernel⟩, List.mem_of_getElem? (i := 17) (by decide +kernel), List.mem_of_getElem? (i := 164) (by decide +kernel), List.mem_of_getElem? (i := 165) (by decide +kernel)⟩
theorem lw_p3 : lw_okq (⟨"BallDrops$Line", "narrow", "()Z"⟩, 4) := ⟨⟨by decide +kernel, by decide +kernel⟩, List.mem_of_getElem? (i := 17) (by decide +kernel), List.mem_of_getElem? (i := 174) (by decide +kernel), List.mem_of_getElem? (i := 175) (by decide +kernel)⟩
theorem lw_p4 : lw_okq (⟨"BallDrops$Line", "narrowGain", "()V"⟩, 4) := ⟨⟨by decide +kernel, by decide +kernel⟩, List.mem_of_getElem? (i := 17) (by decide +kernel), List.mem_of_getElem? (i := 178) (by decide +kernel), List.mem_of_getElem? (i := 179) (by decide +kernel)⟩
theorem lw_p5 : lw_okq (⟨"BallDrops$Line", "narrowDays", "()V"⟩, 4) := ⟨⟨by decide +kernel, by decide +kernel⟩, List.mem_of_getElem? (i := 17) (by decide +kernel), List.mem_of_getElem? (i := 189) (by decide +kernel), List.mem_of_getElem? (i := 190) (by decide +kernel)⟩
theorem lw_p6 : lw_okq (⟨"BallDrops", "leastLate", "(I)I"⟩, 16) := ⟨⟨by decide +kernel, by decide +kernel⟩, List.mem_of_getElem? (i := 9) (by decide +kernel), List.mem_of_getElem? (i := 236) (by decide +kernel), List.mem_of_getElem? (i := 237) (by decide +kernel)⟩
theorem lw_p7 : lw_okq (⟨"BallDrops", "middleOff", "(I)I"⟩, 16) := ⟨⟨by decide +kernel, by decide +kernel⟩, List.mem_of_getElem? (i := 9) (by decide +kernel), List.mem_of_getElem? (i := 240) (by decide +kernel), List.mem_of_getElem? (i := 241) (by decide +kernel)⟩
theorem lw_p8 : lw_okq (⟨"BallDrops", "greatestLate", "(I)I"⟩, 16) := ⟨⟨by decide +kernel, by decide +kernel⟩, List.mem_of_getElem? (i := 9) (by decide +kernel), List.mem_of_getElem? (i := 244) (by decide +kernel), List.mem_of_getElem? (i := 245) (by decide +kernel)⟩
theorem lw_p9 : lw_okq (⟨"BallDrops", "noClock", "(II)Z"⟩, 16) := ⟨⟨by decide +kernel, by decide +kernel⟩, List.mem_of_getElem? (i := 9) (by decide +kernel), List.mem_of_getElem? (i := 256) (by decide +kernel), List.mem_of_getElem? (i := 257) (by decide +kernel)⟩
theorem lw_p10 : lw_okq (⟨"BallDrops", "noShip", "(I)Z"⟩, 16) := ⟨⟨by decide +kernel, by decide +kernel⟩, List.mem_of_getElem? (i := 9) (by decide +kernel), List.mem_of_getElem? (i := 260) (by decide +kernel), List.mem_of_getElem? (i := 261) (by decide +kernel)⟩
theorem lw_p11 : lw_okq (⟨"BallDrops$Ship", "note", "(IIZII)I"⟩, 11) := ⟨⟨by decide +kernel, by decide +kernel⟩, List.mem_of_getElem? (i := 46) (by decide +kernel), List.mem_of_getElem? (i := 270) (by decide +kernel), List.mem_of_getElem? (i := 271) (by decide +kernel)⟩
theorem lw_p12 : lw_okq (⟨"BallDrops", "learn", "(LBallDrops$Ship;I)Z"⟩, 16) := ⟨⟨by decide +kernel, by decide +kernel⟩, List.mem_of_getElem? (i := 9) (by decide +kernel), List.mem_of_getElem? (i := 298) (by decide +kernel), List.mem_of_getElem? (i := 299) (by decide +kernel)⟩
theorem lw_p13 : lw_okq (⟨"BallDrops", "learnBut", "(LBallDrops$Ship;IIII)Z"⟩, 16) := ⟨⟨by decide +kernel, by decide +kernel⟩, List.mem_of_getElem? (i := 9) (by decide +kernel), List.mem_of_getElem? (i := 302) (by decide +kernel), List.mem_of_getElem? (i := 303) (by decide +kernel)⟩
theorem lw_p14 : lw_okq (⟨"BallDrops", "counts", "(LBallDrops$Ship;I)Z"⟩, 16) := ⟨⟨by decide +kernel, by decide +kernel⟩, List.mem_of_getElem? (i := 9) (by decide +kernel), List.mem_of_getElem? (i := 306) (by decide +kernel), List.mem_of_getElem? (i := 307) (by decide +kernel)⟩
theorem lw_p15 : lw_okq (⟨"BallDrops", "addHeat", "(I)V"⟩, 16) := ⟨⟨by decide +kernel, by decide +kernel⟩, List.mem_of_getElem? (i := 9) (by decide +kernel), List.mem_of_getElem? (i := 310) (by decide +kernel), List.mem_of_getElem? (i := 311) (by decide +kernel)⟩
def lw_privs_1 : List (MethodName × Nat) := [(⟨"BallDrops$Line", "open", "(II)V"⟩, 4), (⟨"BallDrops$Line", "copyFrom", "(LBallDrops$Line;)V"⟩, 4), (⟨"BallDrops$Line", "cut", "(III)V"⟩, 4), (⟨"BallDrops$Line", "narrow", "()Z"⟩, 4), (⟨"BallDrops$Line", "narrowGain", "()V"⟩, 4), (⟨"BallDrops$Line", "narrowDays", "()V"⟩, 4), (⟨"BallDrops", "leastLate", "(I)I"⟩, 16), (⟨"BallDrops", "middleOff", "(I)I"⟩, 16), (⟨"BallDrops", "greatestLate", "(I)I"⟩, 16), (⟨"BallDrops", "noClock", "(II)Z"⟩, 16), (⟨"BallDrops", "noShip", "(I)Z"⟩, 16), (⟨"BallDrops$Ship", "note", "(IIZII)I"⟩, 11), (⟨"BallDrops", "learn", "(LBallDrops$Ship;I)Z"⟩, 16), (⟨"BallDrops", "learnBut", "(LBallDrops$Ship;IIII)Z"⟩, 16), (⟨"BallDrops", "counts", "(LBallDrops$Ship;I)Z"⟩, 16), (⟨"BallDrops", "addHeat", "(I)V"⟩, 16)]
theorem lw_r1 : ∀ q ∈ lw_privs_1, lw_okq q := List.forall_mem_cons.mpr ⟨lw_p0, List.forall_mem_cons.mpr ⟨lw_p1, List.forall_mem_cons.mpr ⟨lw_p2, List.forall_mem_cons.mpr ⟨lw_p3, List.forall_mem_cons.mpr ⟨lw_p4, List.forall_mem_cons.mpr ⟨lw_p5, List.forall_mem_cons.mpr ⟨lw_p6, List.forall_mem_cons.mpr ⟨lw_p7, List.forall_mem_cons.mpr ⟨lw_p8, List.forall_mem_cons.mpr ⟨lw_p9, List.forall_mem_cons.mpr ⟨lw_p10, List.forall_mem_cons.mpr ⟨lw_p11, List.forall_mem_cons.mpr ⟨lw_p12, List.forall_mem_cons.mpr ⟨lw_p13, List.forall_mem_cons.mpr ⟨lw_p14, List.forall_mem_cons.mpr ⟨lw_p15, fun _ h => absurd h List.not_mem_nil⟩⟩⟩⟩⟩⟩⟩⟩⟩⟩⟩⟩⟩⟩⟩⟩
theorem lw_p16 : lw_okq (⟨"BallDrops", "leastMiles", "(II)I"⟩, 16) := ⟨⟨by decide +kernel, by decide +kernel⟩, List.mem_of_getElem? (i := 9) (by decide +kernel), List.mem_of_getElem? (i := 327) (by decide +kernel), List.mem_of_getElem? (i := 328) (by decide +kernel)⟩
theorem lw_p17 : lw_okq (⟨"BallDrops", "greatestMiles", "(II)I"⟩, 16) := ⟨⟨by decide +kernel, by decide +kernel⟩, List.mem_of_getElem? (i := 9) (by decide +kernel), List.mem_of_getElem? (i := 331) (by decide +kernel), List.mem_of_getElem? (i := 332) (by decide +kernel)⟩
theorem lw_p18 : lw_okq (⟨"BallDrops", "findPlaces", "(LBallDrops$Ship;)V"⟩, 16) := ⟨⟨by decide +kernel, by decide +kernel⟩, List.mem_of_getElem? (i := 9) (by decide +kernel), List.mem_of_getElem? (i := 344) (by decide +kernel), List.mem_of_getElem? (i := 345) (by decide +kernel)⟩
theorem lw_p19 : lw_okq (⟨"BallDrops", "weigh", "(LBallDrops$Ship;I)I"⟩, 16) := ⟨⟨by decide +kernel, by decide +kernel⟩, List.mem_of_getElem? (i := 9) (by decide +kernel), List.mem_of_getElem? (i := 350) (by decide +kernel), List.mem_of_getElem? (i := 351) (by decide +kernel)⟩
theorem lw_p20 : lw_okq (⟨"BallDrops", "leastShared", "(I)I"⟩, 16) := ⟨⟨by decide +kernel, by decide +kernel⟩, List.mem_of_getElem? (i := 9) (by decide +kernel), List.mem_of_getElem? (i := 354) (by decide +kernel), List.mem_of_getElem? (i := 355) (by decide +kernel)⟩
theorem lw_p21 : lw_okq (⟨"BallDrops", "greatestShared", "(I)I"⟩, 16) := ⟨⟨by decide +kernel, by decide +kernel⟩, List.mem_of_getElem? (i := 9) (by decide +kernel), List.mem_of_getElem? (i := 359) (by decide +kernel), List.mem_of_getElem? (i := 360) (by decide +kernel)⟩
theorem lw_p22 : lw_okq (⟨"BallDrops", "heaviest", "(LBallDrops$Ship;)I"⟩, 16) := ⟨⟨by decide +kernel, by decide +kernel⟩, List.mem_of_getElem? (i := 9) (by decide +kernel), List.mem_of_getElem? (i := 377) (by decide +kernel), List.mem_of_getElem? (i := 378) (by decide +kernel)⟩
theorem lw_p23 : lw_okq (⟨"BallDrops", "countSuspects", "(I)I"⟩, 16) := ⟨⟨by decide +kernel, by decide +kernel⟩, List.mem_of_getElem? (i := 9) (by decide +kernel), List.mem_of_getElem? (i := 395) (by decide +kernel), List.mem_of_getElem? (i := 396) (by decide +kernel)⟩
theorem lw_p24 : lw_okq (⟨"BallDrops", "isSetOn", "(LBallDrops$Ship;II)Z"⟩, 16) := ⟨⟨by decide +kernel, by decide +kernel⟩, List.mem_of_getElem? (i := 9) (by decide +kernel), List.mem_of_getElem? (i := 399) (by decide +kernel), List.mem_of_getElem? (i := 400) (by decide +kernel)⟩
theorem lw_p25 : lw_okq (⟨"BallDrops", "firstFittingSlip", "(III)I"⟩, 16) := ⟨⟨by decide +kernel, by decide +kernel⟩, List.mem_of_getElem? (i := 9) (by decide +kernel), List.mem_of_getElem? (i := 411) (by decide +kernel), List.mem_of_getElem? (i := 412) (by decide +kernel)⟩
theorem lw_p26 : lw_okq (⟨"BallDrops", "bearsSlip", "(LBallDrops$Ship;III)Z"⟩, 16) := ⟨⟨by decide +kernel, by decide +kernel⟩, List.mem_of_getElem? (i := 9) (by decide +kernel), List.mem_of_getElem? (i := 415) (by decide +kernel), List.mem_of_getElem? (i := 416) (by decide +kernel)⟩
theorem lw_p27 : lw_okq (⟨"BallDrops", "isTold", "(LBallDrops$Ship;I)Z"⟩, 16) := ⟨⟨by decide +kernel, by decide +kernel⟩, List.mem_of_getElem? (i := 9) (by decide +kernel), List.mem_of_getElem? (i := 424) (by decide +kernel), List.mem_of_getElem? (i := 425) (by decide +kernel)⟩
theorem lw_p28 : lw_okq (⟨"BallDropsModel", "layOffs", "()Z"⟩, 36) := ⟨⟨by decide +kernel, by decide +kernel⟩, List.mem_of_getElem? (i := 440) (by decide +kernel), List.mem_of_getElem? (i := 448) (by decide +kernel), List.mem_of_getElem? (i := 449) (by decide +kernel)⟩
theorem lw_p29 : lw_okq (⟨"BallDropsModel", "start", "(II)V"⟩, 36) := ⟨⟨by decide +kernel, by decide +kernel⟩, List.mem_of_getElem? (i := 440) (by decide +kernel), List.mem_of_getElem? (i := 452) (by decide +kernel), List.mem_of_getElem? (i := 453) (by decide +kernel)⟩
theorem lw_p30 : lw_okq (⟨"BallDropsModel", "within", "(III)V"⟩, 36) := ⟨⟨by decide +kernel, by decide +kernel⟩, List.mem_of_getElem? (i := 440) (by decide +kernel), List.mem_of_getElem? (i := 456) (by decide +kernel), List.mem_of_getElem? (i := 457) (by decide +kernel)⟩
theorem lw_p31 : lw_okq (⟨"BallDropsModel", "narrow", "()Z"⟩, 36) := ⟨⟨by decide +kernel, by decide +kernel⟩, List.mem_of_getElem? (i := 440) (by decide +kernel), List.mem_of_getElem? (i := 460) (by decide +kernel), List.mem_of_getElem? (i := 461) (by decide +kernel)⟩
def lw_privs_2 : List (MethodName × Nat) := [(⟨"BallDrops", "leastMiles", "(II)I"⟩, 16), (⟨"BallDrops", "greatestMiles", "(II)I"⟩, 16), (⟨"BallDrops", "findPlaces", "(LBallDrops$Ship;)V"⟩, 16), (⟨"BallDrops", "weigh", "(LBallDrops$Ship;I)I"⟩, 16), (⟨"BallDrops", "leastShared", "(I)I"⟩, 16), (⟨"BallDrops", "greatestShared", "(I)I"⟩, 16), (⟨"BallDrops", "heaviest", "(LBallDrops$Ship;)I"⟩, 16), (⟨"BallDrops", "countSuspects", "(I)I"⟩, 16), (⟨"BallDrops", "isSetOn", "(LBallDrops$Ship;II)Z"⟩, 16), (⟨"BallDrops", "firstFittingSlip", "(III)I"⟩, 16), (⟨"BallDrops", "bearsSlip", "(LBallDrops$Ship;III)Z"⟩, 16), (⟨"BallDrops", "isTold", "(LBallDrops$Ship;I)Z"⟩, 16), (⟨"BallDropsModel", "layOffs", "()Z"⟩, 36), (⟨"BallDropsModel", "start", "(II)V"⟩, 36), (⟨"BallDropsModel", "within", "(III)V"⟩, 36), (⟨"BallDropsModel", "narrow", "()Z"⟩, 36)]
theorem lw_r2 : ∀ q ∈ lw_privs_2, lw_okq q := List.forall_mem_cons.mpr ⟨lw_p16, List.forall_mem_cons.mpr ⟨lw_p17, List.forall_mem_cons.mpr ⟨lw_p18, List.forall_mem_cons.mpr ⟨lw_p19, List.forall_mem_cons.mpr ⟨lw_p20, List.forall_mem_cons.mpr ⟨lw_p21, List.forall_mem_cons.mpr ⟨lw_p22, List.forall_mem_cons.mpr ⟨lw_p23, List.forall_mem_cons.mpr ⟨lw_p24, List.forall_mem_cons.mpr ⟨lw_p25, List.forall_mem_cons.mpr ⟨lw_p26, List.forall_mem_cons.mpr ⟨lw_p27, List.forall_mem_cons.mpr ⟨lw_p28, List.forall_mem_cons.mpr ⟨lw_p29, List.forall_mem_cons.mpr ⟨lw_p30, List.forall_mem_cons.mpr ⟨lw_p31, fun _ h => absurd h List.not_mem_nil⟩⟩⟩⟩⟩⟩⟩⟩⟩⟩⟩⟩⟩⟩⟩⟩
theorem lw_p32 : lw_okq (⟨"BallDropsModel", "isLeft", "()Z"⟩, 36) := ⟨⟨by decide +kernel, by decide +kernel⟩, List.mem_of_getElem? (i := 440) (by decide +kernel), List.mem_of_getElem? (i := 464) (by decide +kernel), List.mem_of_getElem? (i := 465) (by decide +kernel)⟩
theorem lw_p33 : lw_okq (⟨"BallDropsModel", "lateOf", "(II)I"⟩, 36) := ⟨⟨by decide +kernel, by decide +kernel⟩, List.mem_of_getElem? (i := 440) (by decide +kernel), List.mem_of_getElem? (i := 626) (by decide +kernel), List.mem_of_getElem? (i := 627) (by decide +kernel)⟩
theorem lw_p34 : lw_okq (⟨"BallDropsModel", "isOne", "(III)Z"⟩, 36) := ⟨⟨by decide +kernel, by decide +kernel⟩, List.mem_of_getElem? (i := 440) (by decide +kernel), List.mem_of_getElem? (i := 638) (by decide +kernel), List.mem_of_getElem? (i := 639) (by decide +kernel)⟩
theorem lw_p35 : lw_okq (⟨"BallDropsModel", "isShip", "(I)Z"⟩, 36) := ⟨⟨by decide +kernel, by decide +kernel⟩, List.mem_of_getElem? (i := 440) (by decide +kernel), List.mem_of_getElem? (i := 642) (by decide +kernel), List.mem_of_getElem? (i := 643) (by decide +kernel)⟩
theorem lw_p36 : lw_okq (⟨"BallDropsModel", "mark", "(IIIIII)I"⟩, 36) := ⟨⟨by decide +kernel, by decide +kernel⟩, List.mem_of_getElem? (i := 440) (by decide +kernel), List.mem_of_getElem? (i := 649) (by decide +kernel), List.mem_of_getElem? (i := 650) (by decide +kernel)⟩
theorem lw_p37 : lw_okq (⟨"BallDropsModel", "lay", "(II)Z"⟩, 36) := ⟨⟨by decide +kernel, by decide +kernel⟩, List.mem_of_getElem? (i := 440) (by decide +kernel), List.mem_of_getElem? (i := 677) (by decide +kernel), List.mem_of_getElem? (i := 678) (by decide +kernel)⟩
theorem lw_p38 : lw_okq (⟨"BallDropsModel", "doesCount", "(II)Z"⟩, 36) := ⟨⟨by decide +kernel, by decide +kernel⟩, List.mem_of_getElem? (i := 440) (by decide +kernel), List.mem_of_getElem? (i := 681) (by decide +kernel), List.mem_of_getElem? (i := 682) (by decide +kernel)⟩
theorem lw_p39 : lw_okq (⟨"BallDropsModel", "placeOf", "(III)I"⟩, 36) := ⟨⟨by decide +kernel, by decide +kernel⟩, List.mem_of_getElem? (i := 440) (by decide +kernel), List.mem_of_getElem? (i := 698) (by decide +kernel), List.mem_of_getElem? (i := 699) (by decide +kernel)⟩
theorem lw_p40 : lw_okq (⟨"BallDropsModel", "layPlaces", "(I)V"⟩, 36) := ⟨⟨by decide +kernel, by decide +kernel⟩, List.mem_of_getElem? (i := 440) (by decide +kernel), List.mem_of_getElem? (i := 710) (by decide +kernel), List.mem_of_getElem? (i := 711) (by decide +kernel)⟩
theorem lw_p41 : lw_okq (⟨"BallDropsModel", "weightOf", "(II)I"⟩, 36) := ⟨⟨by decide +kernel, by decide +kernel⟩, List.mem_of_getElem? (i := 440) (by decide +kernel), List.mem_of_getElem? (i := 714) (by decide +kernel), List.mem_of_getElem? (i := 715) (by decide +kernel)⟩
theorem lw_p42 : lw_okq (⟨"BallDropsModel", "agrees", "(I)Z"⟩, 36) := ⟨⟨by decide +kernel, by decide +kernel⟩, List.mem_of_getElem? (i := 440) (by decide +kernel), List.mem_of_getElem? (i := 718) (by decide +kernel), List.mem_of_getElem? (i := 719) (by decide +kernel)⟩
theorem lw_p43 : lw_okq (⟨"BallDropsModel", "bestOf", "(I)I"⟩, 36) := ⟨⟨by decide +kernel, by decide +kernel⟩, List.mem_of_getElem? (i := 440) (by decide +kernel), List.mem_of_getElem? (i := 734) (by decide +kernel), List.mem_of_getElem? (i := 735) (by decide +kernel)⟩
theorem lw_p44 : lw_okq (⟨"BallDropsModel", "suspects", "(I)I"⟩, 36) := ⟨⟨by decide +kernel, by decide +kernel⟩, List.mem_of_getElem? (i := 440) (by decide +kernel), List.mem_of_getElem? (i := 749) (by decide +kernel), List.mem_of_getElem? (i := 750) (by decide +kernel)⟩
theorem lw_p45 : lw_okq (⟨"BallDropsModel", "allGo", "(I)Z"⟩, 36) := ⟨⟨by decide +kernel, by decide +kernel⟩, List.mem_of_getElem? (i := 440) (by decide +kernel), List.mem_of_getElem? (i := 762) (by decide +kernel), List.mem_of_getElem? (i := 763) (by decide +kernel)⟩
theorem lw_p46 : lw_okq (⟨"BallDropsModel", "isSetBy", "(III)Z"⟩, 36) := ⟨⟨by decide +kernel, by decide +kernel⟩, List.mem_of_getElem? (i := 440) (by decide +kernel), List.mem_of_getElem? (i := 766) (by decide +kernel), List.mem_of_getElem? (i := 767) (by decide +kernel)⟩
theorem lw_p47 : lw_okq (⟨"BallDropsModel", "isMarked", "(II)Z"⟩, 36) := ⟨⟨by decide +kernel, by decide +kernel⟩, List.mem_of_getElem? (i := 440) (by decide +kernel), List.mem_of_getElem? (i := 774) (by decide +kernel), List.mem_of_getElem? (i := 775) (by decide +kernel)⟩
def lw_privs_3 : List (MethodName × Nat) := [(⟨"BallDropsModel", "isLeft", "()Z"⟩, 36), (⟨"BallDropsModel", "lateOf", "(II)I"⟩, 36), (⟨"BallDropsModel", "isOne", "(III)Z"⟩, 36), (⟨"BallDropsModel", "isShip", "(I)Z"⟩, 36), (⟨"BallDropsModel", "mark", "(IIIIII)I"⟩, 36), (⟨"BallDropsModel", "lay", "(II)Z"⟩, 36), (⟨"BallDropsModel", "doesCount", "(II)Z"⟩, 36), (⟨"BallDropsModel", "placeOf", "(III)I"⟩, 36), (⟨"BallDropsModel", "layPlaces", "(I)V"⟩, 36), (⟨"BallDropsModel", "weightOf", "(II)I"⟩, 36), (⟨"BallDropsModel", "agrees", "(I)Z"⟩, 36), (⟨"BallDropsModel", "bestOf", "(I)I"⟩, 36), (⟨"BallDropsModel", "suspects", "(I)I"⟩, 36), (⟨"BallDropsModel", "allGo", "(I)Z"⟩, 36), (⟨"BallDropsModel", "isSetBy", "(III)Z"⟩, 36), (⟨"BallDropsModel", "isMarked", "(II)Z"⟩, 36)]
theorem lw_r3 : ∀ q ∈ lw_privs_3, lw_okq q := List.forall_mem_cons.mpr ⟨lw_p32, List.forall_mem_cons.mpr ⟨lw_p33, List.forall_mem_cons.mpr ⟨lw_p34, List.forall_mem_cons.mpr ⟨lw_p35, List.forall_mem_cons.mpr ⟨lw_p36, List.forall_mem_cons.mpr ⟨lw_p37, List.forall_mem_cons.mpr ⟨lw_p38, List.forall_mem_cons.mpr ⟨lw_p39, List.forall_mem_cons.mpr ⟨lw_p40, List.forall_mem_cons.mpr ⟨lw_p41, List.forall_mem_cons.mpr ⟨lw_p42, List.forall_mem_cons.mpr ⟨lw_p43, List.forall_mem_cons.mpr ⟨lw_p44, List.forall_mem_cons.mpr ⟨lw_p45, List.forall_mem_cons.mpr ⟨lw_p46, List.forall_mem_cons.mpr ⟨lw_p47, fun _ h => absurd h List.not_mem_nil⟩⟩⟩⟩⟩⟩⟩⟩⟩⟩⟩⟩⟩⟩⟩⟩
def lw_privs : List (MethodName × Nat) := lw_privs_1 ++ (lw_privs_2 ++ (lw_privs_3))
def lw_tbl : List Cond := k2_sels lw_privs ++ tables_1
theorem lw_privs_ok : ∀ q ∈ lw_privs, lw_okq q := by
  show ∀ q ∈ lw_privs_1 ++ (lw_privs_2 ++ (lw_privs_3)), lw_okq q
  exact List.forall_mem_append.mpr ⟨lw_r1, List.forall_mem_append.mpr ⟨lw_r2, lw_r3⟩⟩
end
section
def RX0 : String := "BallDrops$Line"
def TX0 : u_T := fun k => match k with
  | 0 => ("BallDrops$Line", "least", "[I", true)
  | 1 => ("BallDrops$Line", "greatest", "[I", true)
  | 2 => ("BallDrops$Line", "leastGain", "I", false)
  | _ => ("BallDrops$Line", "greatestGain", "I", false)
def tyX0 : Nat → FieldType := fun k => match k with
  | 0 => .array .int
  | 1 => .array .int
  | 2 => .int
  | _ => .int
abbrev wsX00 : List Cond := u_ws RX0 TX0 4
theorem nmX0 : ∀ a, a < 4 → ∀ b, b < 4 → a ≠ b → (TX0 a).2.1 ≠ (TX0 b).2.1 := by decide +kernel
theorem tyX0_ok : ∀ k, k < 4 → parseFieldDescriptor (TX0 k).2.2.1 = some (tyX0 k) := by decide +kernel
abbrev cX0_init : ByteArray := prog_2_method_1_code
def yX0_init : MethodName := ⟨RX0, "<init>", "()V"⟩
abbrev cX0_open : ByteArray := prog_2_method_2_code
def yX0_open : MethodName := ⟨RX0, "open", "(II)V"⟩
abbrev cX0_copyFrom : ByteArray := prog_2_method_3_code
def yX0_copyFrom : MethodName := ⟨RX0, "copyFrom", "(LBallDrops$Line;)V"⟩
abbrev cX0_cut : ByteArray := prog_2_method_4_code
def yX0_cut : MethodName := ⟨RX0, "cut", "(III)V"⟩
abbrev cX0_narrow : ByteArray := prog_2_method_5_code
def yX0_narrow : MethodName := ⟨RX0, "narrow", "()Z"⟩
abbrev cX0_narrowGain : ByteArray := prog_2_method_6_code
def yX0_narrowGain : MethodName := ⟨RX0, "narrowGain", "()V"⟩
abbrev cX0_narrowDays : ByteArray := prog_2_method_7_code
def yX0_narrowDays : MethodName := ⟨RX0, "narrowDays", "()V"⟩
def RX1 : String := "BallDrops$Ship"
def TX1 : u_T := fun k => match k with
  | 0 => ("BallDrops$Ship", "clockOf", "[I", true)
  | 1 => ("BallDrops$Ship", "dayOf", "[I", true)
  | 2 => ("BallDrops$Ship", "byBall", "[Z", true)
  | 3 => ("BallDrops$Ship", "from", "[I", true)
  | 4 => ("BallDrops$Ship", "to", "[I", true)
  | 5 => ("BallDrops$Ship", "heat", "[I", true)
  | 6 => ("BallDrops$Ship", "fault", "[I", true)
  | 7 => ("BallDrops$Ship", "read", "[I", true)
  | 8 => ("BallDrops$Ship", "notes", "I", false)
  | 9 => ("BallDrops$Ship", "flagsSeen", "I", false)
  | _ => ("BallDrops$Ship", "readDay", "I", false)
def tyX1 : Nat → FieldType := fun k => match k with
  | 0 => .array .int
  | 1 => .array .int
  | 2 => .array .boolean
  | 3 => .array .int
  | 4 => .array .int
  | 5 => .array .int
  | 6 => .array .int
  | 7 => .array .int
  | 8 => .int
  | 9 => .int
  | _ => .int
abbrev wsX10 : List Cond := u_ws RX1 TX1 11
theorem nmX1 : ∀ a, a < 11 → ∀ b, b < 11 → a ≠ b → (TX1 a).2.1 ≠ (TX1 b).2.1 := by decide +kernel
theorem tyX1_ok : ∀ k, k < 11 → parseFieldDescriptor (TX1 k).2.2.1 = some (tyX1 k) := by decide +kernel
abbrev cX1_init : ByteArray := prog_3_method_1_code
def yX1_init : MethodName := ⟨RX1, "<init>", "()V"⟩
abbrev cX1_note : ByteArray := prog_3_method_2_code
def yX1_note : MethodName := ⟨RX1, "note", "(IIZII)I"⟩
def RX2 : String := "BallDrops"
def TX2 : u_T := fun k => match k with
  | 0 => ("BallDrops", "offs", "LBallDrops$Line;", true)
  | 1 => ("BallDrops", "trial", "LBallDrops$Line;", true)
  | 2 => ("BallDrops", "known", "LBallDrops$Line;", true)
  | 3 => ("BallDrops", "slowLeast", "[I", true)
  | 4 => ("BallDrops", "slowGreatest", "[I", true)
  | 5 => ("BallDrops", "slips", "[I", true)
  | 6 => ("BallDrops", "warmths", "[I", true)
  | 7 => ("BallDrops", "ships", "[LBallDrops$Ship;", true)
  | 8 => ("BallDrops", "portLeast", "[I", true)
  | 9 => ("BallDrops", "portGreatest", "[I", true)
  | 10 => ("BallDrops", "placeLeast", "[I", true)
  | 11 => ("BallDrops", "placeGreatest", "[I", true)
  | 12 => ("BallDrops", "stars", "I", false)
  | 13 => ("BallDrops", "starCare", "I", false)
  | 14 => ("BallDrops", "takenBack", "I", false)
  | _ => ("BallDrops", "shipCount", "I", false)
def tyX2 : Nat → FieldType := fun k => match k with
  | 0 => .object "BallDrops$Line"
  | 1 => .object "BallDrops$Line"
  | 2 => .object "BallDrops$Line"
  | 3 => .array .int
  | 4 => .array .int
  | 5 => .array .int
  | 6 => .array .int
  | 7 => .array (.object "BallDrops$Ship")
  | 8 => .array .int
  | 9 => .array .int
  | 10 => .array .int
  | 11 => .array .int
  | 12 => .int
  | 13 => .int
  | 14 => .int
  | _ => .int
abbrev wsX20 : List Cond := u_ws RX2 TX2 16
theorem nmX2 : ∀ a, a < 16 → ∀ b, b < 16 → a ≠ b → (TX2 a).2.1 ≠ (TX2 b).2.1 := by decide +kernel
theorem tyX2_ok : ∀ k, k < 16 → parseFieldDescriptor (TX2 k).2.2.1 = some (tyX2 k) := by decide +kernel
abbrev cX2_init : ByteArray := prog_1_method_1_code
def yX2_init : MethodName := ⟨RX2, "<init>", "()V"⟩
abbrev cX2_star : ByteArray := prog_1_method_2_code
def yX2_star : MethodName := ⟨RX2, "star", "(II)I"⟩
abbrev cX2_care : ByteArray := prog_1_method_3_code
def yX2_care : MethodName := ⟨RX2, "care", "(I)I"⟩
abbrev cX2_off : ByteArray := prog_1_method_4_code
def yX2_off : MethodName := ⟨RX2, "off", "(II)I"⟩
abbrev cX2_rate : ByteArray := prog_1_method_5_code
def yX2_rate : MethodName := ⟨RX2, "rate", "(I)I"⟩
abbrev cX2_slow : ByteArray := prog_1_method_6_code
def yX2_slow : MethodName := ⟨RX2, "slow", "(III)I"⟩
abbrev cX2_slip : ByteArray := prog_1_method_7_code
def yX2_slip : MethodName := ⟨RX2, "slip", "(II)I"⟩
abbrev cX2_back : ByteArray := prog_1_method_8_code
def yX2_back : MethodName := ⟨RX2, "back", "(IZ)I"⟩
abbrev cX2_late : ByteArray := prog_1_method_9_code
def yX2_late : MethodName := ⟨RX2, "late", "(II)I"⟩
abbrev cX2_ship : ByteArray := prog_1_method_10_code
def yX2_ship : MethodName := ⟨RX2, "ship", "()I"⟩
abbrev cX2_set : ByteArray := prog_1_method_11_code
def yX2_set : MethodName := ⟨RX2, "set", "(IIIIII)I"⟩
abbrev cX2_meet : ByteArray := prog_1_method_12_code
def yX2_meet : MethodName := ⟨RX2, "meet", "(IIIII)I"⟩
abbrev cX2_strike : ByteArray := prog_1_method_13_code
def yX2_strike : MethodName := ⟨RX2, "strike", "(I)I"⟩
abbrev cX2_saw : ByteArray := prog_1_method_14_code
def yX2_saw : MethodName := ⟨RX2, "saw", "(IIZ)I"⟩
abbrev cX2_clock : ByteArray := prog_1_method_15_code
def yX2_clock : MethodName := ⟨RX2, "clock", "(IIII)I"⟩
abbrev cX2_warm : ByteArray := prog_1_method_16_code
def yX2_warm : MethodName := ⟨RX2, "warm", "(II)I"⟩
abbrev cX2_jumped : ByteArray := prog_1_method_17_code
def yX2_jumped : MethodName := ⟨RX2, "jumped", "(II)I"⟩
abbrev cX2_ahead : ByteArray := prog_1_method_18_code
def yX2_ahead : MethodName := ⟨RX2, "ahead", "(IIII)I"⟩
abbrev cX2_gains : ByteArray := prog_1_method_19_code
def yX2_gains : MethodName := ⟨RX2, "gains", "(III)I"⟩
abbrev cX2_place : ByteArray := prog_1_method_20_code
def yX2_place : MethodName := ⟨RX2, "place", "(IIIII)I"⟩
abbrev cX2_reads : ByteArray := prog_1_method_21_code
def yX2_reads : MethodName := ⟨RX2, "reads", "(IIIII)I"⟩
abbrev cX2_weight : ByteArray := prog_1_method_22_code
def yX2_weight : MethodName := ⟨RX2, "weight", "(II)I"⟩
abbrev cX2_odds : ByteArray := prog_1_method_23_code
def yX2_odds : MethodName := ⟨RX2, "odds", "(III)J"⟩
abbrev cX2_best : ByteArray := prog_1_method_24_code
def yX2_best : MethodName := ⟨RX2, "best", "(I)I"⟩
abbrev cX2_landfall : ByteArray := prog_1_method_25_code
def yX2_landfall : MethodName := ⟨RX2, "landfall", "(II)I"⟩
abbrev cX2_suspect : ByteArray := prog_1_method_26_code
def yX2_suspect : MethodName := ⟨RX2, "suspect", "(I)I"⟩
abbrev cX2_worst : ByteArray := prog_1_method_27_code
def yX2_worst : MethodName := ⟨RX2, "worst", "(I)I"⟩
abbrev cX2_slipped : ByteArray := prog_1_method_28_code
def yX2_slipped : MethodName := ⟨RX2, "slipped", "(II)I"⟩
abbrev cX2_ask : ByteArray := prog_1_method_29_code
def yX2_ask : MethodName := ⟨RX2, "ask", "(I)I"⟩
abbrev cX2_carry : ByteArray := prog_1_method_30_code
def yX2_carry : MethodName := ⟨RX2, "carry", "(IIIII)I"⟩
abbrev cX2_port : ByteArray := prog_1_method_31_code
def yX2_port : MethodName := ⟨RX2, "port", "(II)I"⟩
abbrev cX2_told : ByteArray := prog_1_method_32_code
def yX2_told : MethodName := ⟨RX2, "told", "(I)I"⟩
abbrev cX2_outside : ByteArray := prog_1_method_33_code
def yX2_outside : MethodName := ⟨RX2, "outside", "(III)Z"⟩
abbrev cX2_beyond : ByteArray := prog_1_method_34_code
def yX2_beyond : MethodName := ⟨RX2, "beyond", "(II)Z"⟩
abbrev cX2_noDay : ByteArray := prog_1_method_35_code
def yX2_noDay : MethodName := ⟨RX2, "noDay", "(I)Z"⟩
abbrev cX2_noEnd : ByteArray := prog_1_method_36_code
def yX2_noEnd : MethodName := ⟨RX2, "noEnd", "(I)Z"⟩
abbrev cX2_noShip : ByteArray := prog_1_method_37_code
def yX2_noShip : MethodName := ⟨RX2, "noShip", "(I)Z"⟩
abbrev cX2_noClock : ByteArray := prog_1_method_38_code
def yX2_noClock : MethodName := ⟨RX2, "noClock", "(II)Z"⟩
abbrev cX2_bitOf : ByteArray := prog_1_method_39_code
def yX2_bitOf : MethodName := ⟨RX2, "bitOf", "(II)I"⟩
abbrev cX2_withBit : ByteArray := prog_1_method_40_code
def yX2_withBit : MethodName := ⟨RX2, "withBit", "(IIZ)I"⟩
abbrev cX2_cutUp : ByteArray := prog_1_method_41_code
def yX2_cutUp : MethodName := ⟨RX2, "cutUp", "(II)I"⟩
abbrev cX2_greatestDivisor : ByteArray := prog_1_method_42_code
def yX2_greatestDivisor : MethodName := ⟨RX2, "greatestDivisor", "(II)I"⟩
abbrev cX2_middleOff : ByteArray := prog_1_method_43_code
def yX2_middleOff : MethodName := ⟨RX2, "middleOff", "(I)I"⟩
abbrev cX2_leastLate : ByteArray := prog_1_method_44_code
def yX2_leastLate : MethodName := ⟨RX2, "leastLate", "(I)I"⟩
abbrev cX2_greatestLate : ByteArray := prog_1_method_45_code
def yX2_greatestLate : MethodName := ⟨RX2, "greatestLate", "(I)I"⟩
abbrev cX2_soonestNoted : ByteArray := prog_1_method_46_code
def yX2_soonestNoted : MethodName := ⟨RX2, "soonestNoted", "(II)I"⟩
abbrev cX2_latestNoted : ByteArray := prog_1_method_47_code
def yX2_latestNoted : MethodName := ⟨RX2, "latestNoted", "(II)I"⟩
abbrev cX2_counts : ByteArray := prog_1_method_48_code
def yX2_counts : MethodName := ⟨RX2, "counts", "(LBallDrops$Ship;I)Z"⟩
abbrev cX2_isTold : ByteArray := prog_1_method_49_code
def yX2_isTold : MethodName := ⟨RX2, "isTold", "(LBallDrops$Ship;I)Z"⟩
abbrev cX2_isSetOn : ByteArray := prog_1_method_50_code
def yX2_isSetOn : MethodName := ⟨RX2, "isSetOn", "(LBallDrops$Ship;II)Z"⟩
abbrev cX2_learn : ByteArray := prog_1_method_51_code
def yX2_learn : MethodName := ⟨RX2, "learn", "(LBallDrops$Ship;I)Z"⟩
abbrev cX2_learnBut : ByteArray := prog_1_method_52_code
def yX2_learnBut : MethodName := ⟨RX2, "learnBut", "(LBallDrops$Ship;IIII)Z"⟩
abbrev cX2_addHeat : ByteArray := prog_1_method_53_code
def yX2_addHeat : MethodName := ⟨RX2, "addHeat", "(I)V"⟩
abbrev cX2_leastMiles : ByteArray := prog_1_method_54_code
def yX2_leastMiles : MethodName := ⟨RX2, "leastMiles", "(II)I"⟩
abbrev cX2_greatestMiles : ByteArray := prog_1_method_55_code
def yX2_greatestMiles : MethodName := ⟨RX2, "greatestMiles", "(II)I"⟩
abbrev cX2_findPlaces : ByteArray := prog_1_method_56_code
def yX2_findPlaces : MethodName := ⟨RX2, "findPlaces", "(LBallDrops$Ship;)V"⟩
abbrev cX2_leastShared : ByteArray := prog_1_method_57_code
def yX2_leastShared : MethodName := ⟨RX2, "leastShared", "(I)I"⟩
abbrev cX2_greatestShared : ByteArray := prog_1_method_58_code
def yX2_greatestShared : MethodName := ⟨RX2, "greatestShared", "(I)I"⟩
abbrev cX2_weigh : ByteArray := prog_1_method_59_code
def yX2_weigh : MethodName := ⟨RX2, "weigh", "(LBallDrops$Ship;I)I"⟩
abbrev cX2_heaviest : ByteArray := prog_1_method_60_code
def yX2_heaviest : MethodName := ⟨RX2, "heaviest", "(LBallDrops$Ship;)I"⟩
abbrev cX2_countSuspects : ByteArray := prog_1_method_61_code
def yX2_countSuspects : MethodName := ⟨RX2, "countSuspects", "(I)I"⟩
abbrev cX2_firstFittingSlip : ByteArray := prog_1_method_62_code
def yX2_firstFittingSlip : MethodName := ⟨RX2, "firstFittingSlip", "(III)I"⟩
abbrev cX2_bearsSlip : ByteArray := prog_1_method_63_code
def yX2_bearsSlip : MethodName := ⟨RX2, "bearsSlip", "(LBallDrops$Ship;III)Z"⟩
def RX3 : String := "BallDropsModel"
def TX3 : u_T := fun k => match k with
  | 0 => ("BallDropsModel", "stars", "I", false)
  | 1 => ("BallDropsModel", "starDay", "[I", true)
  | 2 => ("BallDropsModel", "starOff", "[I", true)
  | 3 => ("BallDropsModel", "starCare", "[I", true)
  | 4 => ("BallDropsModel", "care", "I", false)
  | 5 => ("BallDropsModel", "offLow", "[I", true)
  | 6 => ("BallDropsModel", "offHigh", "[I", true)
  | 7 => ("BallDropsModel", "slowLow", "[I", true)
  | 8 => ("BallDropsModel", "slowHigh", "[I", true)
  | 9 => ("BallDropsModel", "slips", "[I", true)
  | 10 => ("BallDropsModel", "isBack", "[Z", true)
  | 11 => ("BallDropsModel", "warmth", "[I", true)
  | 12 => ("BallDropsModel", "ships", "I", false)
  | 13 => ("BallDropsModel", "marks", "[I", true)
  | 14 => ("BallDropsModel", "markClock", "[I", true)
  | 15 => ("BallDropsModel", "markDay", "[I", true)
  | 16 => ("BallDropsModel", "markHow", "[I", true)
  | 17 => ("BallDropsModel", "markBy", "[I", true)
  | 18 => ("BallDropsModel", "markShows", "[I", true)
  | 19 => ("BallDropsModel", "sawFlag", "[Z", true)
  | 20 => ("BallDropsModel", "heat", "[I", true)
  | 21 => ("BallDropsModel", "fault", "[I", true)
  | 22 => ("BallDropsModel", "readDay", "[I", true)
  | 23 => ("BallDropsModel", "readAt", "[I", true)
  | 24 => ("BallDropsModel", "portLow", "[I", true)
  | 25 => ("BallDropsModel", "portHigh", "[I", true)
  | 26 => ("BallDropsModel", "low", "[I", true)
  | 27 => ("BallDropsModel", "high", "[I", true)
  | 28 => ("BallDropsModel", "gained", "[I", true)
  | 29 => ("BallDropsModel", "changed", "Z", false)
  | 30 => ("BallDropsModel", "without", "I", false)
  | 31 => ("BallDropsModel", "from", "[I", true)
  | 32 => ("BallDropsModel", "to", "[I", true)
  | 33 => ("BallDropsModel", "goes", "[Z", true)
  | 34 => ("BallDropsModel", "least", "I", false)
  | _ => ("BallDropsModel", "greatest", "I", false)
def tyX3 : Nat → FieldType := fun k => match k with
  | 0 => .int
  | 1 => .array .int
  | 2 => .array .int
  | 3 => .array .int
  | 4 => .int
  | 5 => .array .int
  | 6 => .array .int
  | 7 => .array .int
  | 8 => .array .int
  | 9 => .array .int
  | 10 => .array .boolean
  | 11 => .array .int
  | 12 => .int
  | 13 => .array .int
  | 14 => .array .int
  | 15 => .array .int
  | 16 => .array .int
  | 17 => .array .int
  | 18 => .array .int
  | 19 => .array .boolean
  | 20 => .array .int
  | 21 => .array .int
  | 22 => .array .int
  | 23 => .array .int
  | 24 => .array .int
  | 25 => .array .int
  | 26 => .array .int
  | 27 => .array .int
  | 28 => .array .int
  | 29 => .boolean
  | 30 => .int
  | 31 => .array .int
  | 32 => .array .int
  | 33 => .array .boolean
  | 34 => .int
  | _ => .int
abbrev wsX30 : List Cond := u_ws RX3 TX3 36
theorem nmX3 : ∀ a, a < 36 → ∀ b, b < 36 → a ≠ b → (TX3 a).2.1 ≠ (TX3 b).2.1 := by decide +kernel
theorem tyX3_ok : ∀ k, k < 36 → parseFieldDescriptor (TX3 k).2.2.1 = some (tyX3 k) := by decide +kernel
abbrev cX3_init : ByteArray := prog_5_method_1_code
def yX3_init : MethodName := ⟨RX3, "<init>", "()V"⟩
abbrev cX3_in : ByteArray := prog_5_method_2_code
def yX3_in : MethodName := ⟨RX3, "in", "(III)Z"⟩
abbrev cX3_isDay : ByteArray := prog_5_method_3_code
def yX3_isDay : MethodName := ⟨RX3, "isDay", "(I)Z"⟩
abbrev cX3_isEnd : ByteArray := prog_5_method_4_code
def yX3_isEnd : MethodName := ⟨RX3, "isEnd", "(I)Z"⟩
abbrev cX3_isShip : ByteArray := prog_5_method_5_code
def yX3_isShip : MethodName := ⟨RX3, "isShip", "(I)Z"⟩
abbrev cX3_isClock : ByteArray := prog_5_method_6_code
def yX3_isClock : MethodName := ⟨RX3, "isClock", "(I)Z"⟩
abbrev cX3_down : ByteArray := prog_5_method_7_code
def yX3_down : MethodName := ⟨RX3, "down", "(II)I"⟩
abbrev cX3_up : ByteArray := prog_5_method_8_code
def yX3_up : MethodName := ⟨RX3, "up", "(II)I"⟩
abbrev cX3_within : ByteArray := prog_5_method_9_code
def yX3_within : MethodName := ⟨RX3, "within", "(III)V"⟩
abbrev cX3_isLeft : ByteArray := prog_5_method_10_code
def yX3_isLeft : MethodName := ⟨RX3, "isLeft", "()Z"⟩
abbrev cX3_narrow : ByteArray := prog_5_method_11_code
def yX3_narrow : MethodName := ⟨RX3, "narrow", "()Z"⟩
abbrev cX3_start : ByteArray := prog_5_method_12_code
def yX3_start : MethodName := ⟨RX3, "start", "(II)V"⟩
abbrev cX3_layOffs : ByteArray := prog_5_method_13_code
def yX3_layOffs : MethodName := ⟨RX3, "layOffs", "()Z"⟩
abbrev cX3_star : ByteArray := prog_5_method_14_code
def yX3_star : MethodName := ⟨RX3, "star", "(II)I"⟩
abbrev cX3_care : ByteArray := prog_5_method_15_code
def yX3_care : MethodName := ⟨RX3, "care", "(I)I"⟩
abbrev cX3_off : ByteArray := prog_5_method_16_code
def yX3_off : MethodName := ⟨RX3, "off", "(II)I"⟩
abbrev cX3_rate : ByteArray := prog_5_method_17_code
def yX3_rate : MethodName := ⟨RX3, "rate", "(I)I"⟩
abbrev cX3_slow : ByteArray := prog_5_method_18_code
def yX3_slow : MethodName := ⟨RX3, "slow", "(III)I"⟩
abbrev cX3_slip : ByteArray := prog_5_method_19_code
def yX3_slip : MethodName := ⟨RX3, "slip", "(II)I"⟩
abbrev cX3_back : ByteArray := prog_5_method_20_code
def yX3_back : MethodName := ⟨RX3, "back", "(IZ)I"⟩
abbrev cX3_lateOf : ByteArray := prog_5_method_21_code
def yX3_lateOf : MethodName := ⟨RX3, "lateOf", "(II)I"⟩
abbrev cX3_late : ByteArray := prog_5_method_22_code
def yX3_late : MethodName := ⟨RX3, "late", "(II)I"⟩
abbrev cX3_ship : ByteArray := prog_5_method_23_code
def yX3_ship : MethodName := ⟨RX3, "ship", "()I"⟩
abbrev cX3_mark : ByteArray := prog_5_method_24_code
def yX3_mark : MethodName := ⟨RX3, "mark", "(IIIIII)I"⟩
abbrev cX3_isOne : ByteArray := prog_5_method_25_code
def yX3_isOne : MethodName := ⟨RX3, "isOne", "(III)Z"⟩
abbrev cX3_set : ByteArray := prog_5_method_26_code
def yX3_set : MethodName := ⟨RX3, "set", "(IIIIII)I"⟩
abbrev cX3_meet : ByteArray := prog_5_method_27_code
def yX3_meet : MethodName := ⟨RX3, "meet", "(IIIII)I"⟩
abbrev cX3_strike : ByteArray := prog_5_method_28_code
def yX3_strike : MethodName := ⟨RX3, "strike", "(I)I"⟩
abbrev cX3_saw : ByteArray := prog_5_method_29_code
def yX3_saw : MethodName := ⟨RX3, "saw", "(IIZ)I"⟩
abbrev cX3_clock : ByteArray := prog_5_method_30_code
def yX3_clock : MethodName := ⟨RX3, "clock", "(IIII)I"⟩
abbrev cX3_warm : ByteArray := prog_5_method_31_code
def yX3_warm : MethodName := ⟨RX3, "warm", "(II)I"⟩
abbrev cX3_doesCount : ByteArray := prog_5_method_32_code
def yX3_doesCount : MethodName := ⟨RX3, "doesCount", "(II)Z"⟩
abbrev cX3_lay : ByteArray := prog_5_method_33_code
def yX3_lay : MethodName := ⟨RX3, "lay", "(II)Z"⟩
abbrev cX3_jumped : ByteArray := prog_5_method_34_code
def yX3_jumped : MethodName := ⟨RX3, "jumped", "(II)I"⟩
abbrev cX3_ahead : ByteArray := prog_5_method_35_code
def yX3_ahead : MethodName := ⟨RX3, "ahead", "(IIII)I"⟩
abbrev cX3_gains : ByteArray := prog_5_method_36_code
def yX3_gains : MethodName := ⟨RX3, "gains", "(III)I"⟩
abbrev cX3_placeOf : ByteArray := prog_5_method_37_code
def yX3_placeOf : MethodName := ⟨RX3, "placeOf", "(III)I"⟩
abbrev cX3_place : ByteArray := prog_5_method_38_code
def yX3_place : MethodName := ⟨RX3, "place", "(IIIII)I"⟩
abbrev cX3_reads : ByteArray := prog_5_method_39_code
def yX3_reads : MethodName := ⟨RX3, "reads", "(IIIII)I"⟩
abbrev cX3_layPlaces : ByteArray := prog_5_method_40_code
def yX3_layPlaces : MethodName := ⟨RX3, "layPlaces", "(I)V"⟩
abbrev cX3_agrees : ByteArray := prog_5_method_41_code
def yX3_agrees : MethodName := ⟨RX3, "agrees", "(I)Z"⟩
abbrev cX3_weightOf : ByteArray := prog_5_method_42_code
def yX3_weightOf : MethodName := ⟨RX3, "weightOf", "(II)I"⟩
abbrev cX3_weight : ByteArray := prog_5_method_43_code
def yX3_weight : MethodName := ⟨RX3, "weight", "(II)I"⟩
abbrev cX3_odds : ByteArray := prog_5_method_44_code
def yX3_odds : MethodName := ⟨RX3, "odds", "(III)J"⟩
abbrev cX3_bits : ByteArray := prog_5_method_45_code
def yX3_bits : MethodName := ⟨RX3, "bits", "(I)I"⟩
abbrev cX3_bestOf : ByteArray := prog_5_method_46_code
def yX3_bestOf : MethodName := ⟨RX3, "bestOf", "(I)I"⟩
abbrev cX3_best : ByteArray := prog_5_method_47_code
def yX3_best : MethodName := ⟨RX3, "best", "(I)I"⟩
abbrev cX3_landfall : ByteArray := prog_5_method_48_code
def yX3_landfall : MethodName := ⟨RX3, "landfall", "(II)I"⟩
abbrev cX3_suspects : ByteArray := prog_5_method_49_code
def yX3_suspects : MethodName := ⟨RX3, "suspects", "(I)I"⟩
abbrev cX3_suspect : ByteArray := prog_5_method_50_code
def yX3_suspect : MethodName := ⟨RX3, "suspect", "(I)I"⟩
abbrev cX3_worst : ByteArray := prog_5_method_51_code
def yX3_worst : MethodName := ⟨RX3, "worst", "(I)I"⟩
abbrev cX3_isSetBy : ByteArray := prog_5_method_52_code
def yX3_isSetBy : MethodName := ⟨RX3, "isSetBy", "(III)Z"⟩
abbrev cX3_allGo : ByteArray := prog_5_method_53_code
def yX3_allGo : MethodName := ⟨RX3, "allGo", "(I)Z"⟩
abbrev cX3_slipped : ByteArray := prog_5_method_54_code
def yX3_slipped : MethodName := ⟨RX3, "slipped", "(II)I"⟩
abbrev cX3_isMarked : ByteArray := prog_5_method_55_code
def yX3_isMarked : MethodName := ⟨RX3, "isMarked", "(II)Z"⟩
abbrev cX3_ask : ByteArray := prog_5_method_56_code
def yX3_ask : MethodName := ⟨RX3, "ask", "(I)I"⟩
abbrev cX3_carry : ByteArray := prog_5_method_57_code
def yX3_carry : MethodName := ⟨RX3, "carry", "(IIIII)I"⟩
abbrev cX3_port : ByteArray := prog_5_method_58_code
def yX3_port : MethodName := ⟨RX3, "port", "(II)I"⟩
abbrev cX3_told : ByteArray := prog_5_method_59_code
def yX3_told : MethodName := ⟨RX3, "told", "(I)I"⟩
def RJ6 : String := "java/lang/Integer"
def TJ6 : u_T := fun k => match k with
  | _ => ("", "", "", false)
def tyJ6 : Nat → FieldType := fun k => match k with
  | _ => .int
abbrev wsJ60 : List Cond := u_ws RJ6 TJ6 0
theorem nmJ6 : ∀ a, a < 0 → ∀ b, b < 0 → a ≠ b → (TJ6 a).2.1 ≠ (TJ6 b).2.1 := by decide +kernel
theorem tyJ6_ok : ∀ k, k < 0 → parseFieldDescriptor (TJ6 k).2.2.1 = some (tyJ6 k) := by decide +kernel
abbrev cJ6_bitCount_0f7a4 : ByteArray := prog_6_method_49_code
def yJ6_bitCount_0f7a4 : MethodName := ⟨RJ6, "bitCount", "(I)I"⟩
def RJ9 : String := "java/lang/Math"
def TJ9 : u_T := fun k => match k with
  | _ => ("", "", "", false)
def tyJ9 : Nat → FieldType := fun k => match k with
  | _ => .int
abbrev wsJ90 : List Cond := u_ws RJ9 TJ9 0
theorem nmJ9 : ∀ a, a < 0 → ∀ b, b < 0 → a ≠ b → (TJ9 a).2.1 ≠ (TJ9 b).2.1 := by decide +kernel
theorem tyJ9_ok : ∀ k, k < 0 → parseFieldDescriptor (TJ9 k).2.2.1 = some (tyJ9 k) := by decide +kernel
abbrev cJ9_floorDiv_7cf53 : ByteArray := prog_7_method_47_code
def yJ9_floorDiv_7cf53 : MethodName := ⟨RJ9, "floorDiv", "(II)I"⟩
abbrev cJ9_max_7cf53 : ByteArray := prog_7_method_65_code
def yJ9_max_7cf53 : MethodName := ⟨RJ9, "max", "(II)I"⟩
abbrev cJ9_min_7cf53 : ByteArray := prog_7_method_69_code
def yJ9_min_7cf53 : MethodName := ⟨RJ9, "min", "(II)I"⟩
def RJ10 : String := "java/lang/System"
def TJ10 : u_T := fun k => match k with
  | _ => ("", "", "", false)
def tyJ10 : Nat → FieldType := fun k => match k with
  | _ => .int
abbrev wsJ100 : List Cond := u_ws RJ10 TJ10 0
theorem nmJ10 : ∀ a, a < 0 → ∀ b, b < 0 → a ≠ b → (TJ10 a).2.1 ≠ (TJ10 b).2.1 := by decide +kernel
theorem tyJ10_ok : ∀ k, k < 0 → parseFieldDescriptor (TJ10 k).2.2.1 = some (tyJ10 k) := by decide +kernel
def RL : String := "BallDropsLaw"
abbrev cL_law : ByteArray := code
def yL_law : MethodName := ⟨RL, "law", "([I)Z"⟩
abbrev vwCl : List vw_C := [(RX0, TX0, 4), (RX1, TX1, 11), (RX2, TX2, 16), (RX3, TX3, 36)]
end
section
theorem dX0_init_0 : decode cX0_init 0 = .ok (.aload_n 0, 1) := by decide +kernel
theorem dX0_init_1 : decode cX0_init 1 = .ok (.invokespecial 3, 3) := by decide +kernel
theorem dX0_init_4 : decode cX0_init 4 = .ok (.aload_n 0, 1) := by decide +kernel
theorem dX0_init_5 : decode cX0_init 5 = .ok (.bipush 20, 2) := by decide +kernel
theorem dX0_init_7 : decode cX0_init 7 = .ok (.newarray .int, 2) := by decide +kernel
theorem dX0_init_9 : decode cX0_init 9 = .ok (.putfield 9, 3) := by decide +kernel
theorem dX0_init_12 : decode cX0_init 12 = .ok (.aload_n 0, 1) := by decide +kernel
theorem dX0_init_13 : decode cX0_init 13 = .ok (.bipush 20, 2) := by decide +kernel
theorem dX0_init_15 : decode cX0_init 15 = .ok (.newarray .int, 2) := by decide +kernel
theorem dX0_init_17 : decode cX0_init 17 = .ok (.putfield 15, 3) := by decide +kernel
theorem dX0_init_20 : decode cX0_init 20 = .ok (.return_, 1) := by decide +kernel
theorem dX0_open_0 : decode cX0_open 0 = .ok (.iconst 0, 1) := by decide +kernel
theorem dX0_open_1 : decode cX0_open 1 = .ok (.istore_n 3, 1) := by decide +kernel
theorem dX0_open_2 : decode cX0_open 2 = .ok (.iload_n 3, 1) := by decide +kernel
theorem dX0_open_3 : decode cX0_open 3 = .ok (.bipush 20, 2) := by decide +kernel
theorem dX0_open_5 : decode cX0_open 5 = .ok (.if_icmp .ge 24, 3) := by decide +kernel
theorem dX0_open_8 : decode cX0_open 8 = .ok (.aload_n 0, 1) := by decide +kernel
theorem dX0_open_9 : decode cX0_open 9 = .ok (.getfield 9, 3) := by decide +kernel
theorem dX0_open_12 : decode cX0_open 12 = .ok (.iload_n 3, 1) := by decide +kernel
theorem dX0_open_13 : decode cX0_open 13 = .ok (.iload_n 1, 1) := by decide +kernel
theorem dX0_open_14 : decode cX0_open 14 = .ok (.ineg, 1) := by decide +kernel
theorem dX0_open_15 : decode cX0_open 15 = .ok (.iastore, 1) := by decide +kernel
theorem dX0_open_16 : decode cX0_open 16 = .ok (.aload_n 0, 1) := by decide +kernel
theorem dX0_open_17 : decode cX0_open 17 = .ok (.getfield 15, 3) := by decide +kernel
theorem dX0_open_20 : decode cX0_open 20 = .ok (.iload_n 3, 1) := by decide +kernel
theorem dX0_open_21 : decode cX0_open 21 = .ok (.iload_n 1, 1) := by decide +kernel
theorem dX0_open_22 : decode cX0_open 22 = .ok (.iastore, 1) := by decide +kernel
theorem dX0_open_23 : decode cX0_open 23 = .ok (.iinc 3 1, 3) := by decide +kernel
theorem dX0_open_26 : decode cX0_open 26 = .ok (.goto (-24), 3) := by decide +kernel
theorem dX0_open_29 : decode cX0_open 29 = .ok (.aload_n 0, 1) := by decide +kernel
theorem dX0_open_30 : decode cX0_open 30 = .ok (.iload_n 2, 1) := by decide +kernel
theorem dX0_open_31 : decode cX0_open 31 = .ok (.ineg, 1) := by decide +kernel
theorem dX0_open_32 : decode cX0_open 32 = .ok (.putfield 18, 3) := by decide +kernel
theorem dX0_open_35 : decode cX0_open 35 = .ok (.aload_n 0, 1) := by decide +kernel
theorem dX0_open_36 : decode cX0_open 36 = .ok (.iload_n 2, 1) := by decide +kernel
theorem dX0_open_37 : decode cX0_open 37 = .ok (.putfield 22, 3) := by decide +kernel
theorem dX0_open_40 : decode cX0_open 40 = .ok (.return_, 1) := by decide +kernel
theorem dX0_copyFrom_0 : decode cX0_copyFrom 0 = .ok (.aload_n 1, 1) := by decide +kernel
theorem dX0_copyFrom_1 : decode cX0_copyFrom 1 = .ok (.getfield 9, 3) := by decide +kernel
theorem dX0_copyFrom_4 : decode cX0_copyFrom 4 = .ok (.iconst 0, 1) := by decide +kernel
theorem dX0_copyFrom_5 : decode cX0_copyFrom 5 = .ok (.aload_n 0, 1) := by decide +kernel
theorem dX0_copyFrom_6 : decode cX0_copyFrom 6 = .ok (.getfield 9, 3) := by decide +kernel
theorem dX0_copyFrom_9 : decode cX0_copyFrom 9 = .ok (.iconst 0, 1) := by decide +kernel
theorem dX0_copyFrom_10 : decode cX0_copyFrom 10 = .ok (.bipush 20, 2) := by decide +kernel
theorem dX0_copyFrom_12 : decode cX0_copyFrom 12 = .ok (.invokestatic 25, 3) := by decide +kernel
theorem dX0_copyFrom_15 : decode cX0_copyFrom 15 = .ok (.aload_n 1, 1) := by decide +kernel
theorem dX0_copyFrom_16 : decode cX0_copyFrom 16 = .ok (.getfield 15, 3) := by decide +kernel
theorem dX0_copyFrom_19 : decode cX0_copyFrom 19 = .ok (.iconst 0, 1) := by decide +kernel
theorem dX0_copyFrom_20 : decode cX0_copyFrom 20 = .ok (.aload_n 0, 1) := by decide +kernel
theorem dX0_copyFrom_21 : decode cX0_copyFrom 21 = .ok (.getfield 15, 3) := by decide +kernel
theorem dX0_copyFrom_24 : decode cX0_copyFrom 24 = .ok (.iconst 0, 1) := by decide +kernel
theorem dX0_copyFrom_25 : decode cX0_copyFrom 25 = .ok (.bipush 20, 2) := by decide +kernel
theorem dX0_copyFrom_27 : decode cX0_copyFrom 27 = .ok (.invokestatic 25, 3) := by decide +kernel
theorem dX0_copyFrom_30 : decode cX0_copyFrom 30 = .ok (.aload_n 0, 1) := by decide +kernel
theorem dX0_copyFrom_31 : decode cX0_copyFrom 31 = .ok (.aload_n 1, 1) := by decide +kernel
theorem dX0_copyFrom_32 : decode cX0_copyFrom 32 = .ok (.getfield 18, 3) := by decide +kernel
theorem dX0_copyFrom_35 : decode cX0_copyFrom 35 = .ok (.putfield 18, 3) := by decide +kernel
theorem dX0_copyFrom_38 : decode cX0_copyFrom 38 = .ok (.aload_n 0, 1) := by decide +kernel
theorem dX0_copyFrom_39 : decode cX0_copyFrom 39 = .ok (.aload_n 1, 1) := by decide +kernel
theorem dX0_copyFrom_40 : decode cX0_copyFrom 40 = .ok (.getfield 22, 3) := by decide +kernel
theorem dX0_copyFrom_43 : decode cX0_copyFrom 43 = .ok (.putfield 22, 3) := by decide +kernel
theorem dX0_copyFrom_46 : decode cX0_copyFrom 46 = .ok (.return_, 1) := by decide +kernel
theorem dX0_cut_0 : decode cX0_cut 0 = .ok (.aload_n 0, 1) := by decide +kernel
theorem dX0_cut_1 : decode cX0_cut 1 = .ok (.getfield 9, 3) := by decide +kernel
theorem dX0_cut_4 : decode cX0_cut 4 = .ok (.iload_n 1, 1) := by decide +kernel
theorem dX0_cut_5 : decode cX0_cut 5 = .ok (.aload_n 0, 1) := by decide +kernel
theorem dX0_cut_6 : decode cX0_cut 6 = .ok (.getfield 9, 3) := by decide +kernel
theorem dX0_cut_9 : decode cX0_cut 9 = .ok (.iload_n 1, 1) := by decide +kernel
theorem dX0_cut_10 : decode cX0_cut 10 = .ok (.iaload, 1) := by decide +kernel
theorem dX0_cut_11 : decode cX0_cut 11 = .ok (.iload_n 2, 1) := by decide +kernel
theorem dX0_cut_12 : decode cX0_cut 12 = .ok (.invokestatic 31, 3) := by decide +kernel
theorem dX0_cut_15 : decode cX0_cut 15 = .ok (.iastore, 1) := by decide +kernel
theorem dX0_cut_16 : decode cX0_cut 16 = .ok (.aload_n 0, 1) := by decide +kernel
theorem dX0_cut_17 : decode cX0_cut 17 = .ok (.getfield 15, 3) := by decide +kernel
theorem dX0_cut_20 : decode cX0_cut 20 = .ok (.iload_n 1, 1) := by decide +kernel
theorem dX0_cut_21 : decode cX0_cut 21 = .ok (.aload_n 0, 1) := by decide +kernel
theorem dX0_cut_22 : decode cX0_cut 22 = .ok (.getfield 15, 3) := by decide +kernel
theorem dX0_cut_25 : decode cX0_cut 25 = .ok (.iload_n 1, 1) := by decide +kernel
theorem dX0_cut_26 : decode cX0_cut 26 = .ok (.iaload, 1) := by decide +kernel
theorem dX0_cut_27 : decode cX0_cut 27 = .ok (.iload_n 3, 1) := by decide +kernel
theorem dX0_cut_28 : decode cX0_cut 28 = .ok (.invokestatic 37, 3) := by decide +kernel
theorem dX0_cut_31 : decode cX0_cut 31 = .ok (.iastore, 1) := by decide +kernel
theorem dX0_cut_32 : decode cX0_cut 32 = .ok (.return_, 1) := by decide +kernel
theorem dX0_narrow_0 : decode cX0_narrow 0 = .ok (.iconst 0, 1) := by decide +kernel
theorem dX0_narrow_1 : decode cX0_narrow 1 = .ok (.istore_n 1, 1) := by decide +kernel
theorem dX0_narrow_2 : decode cX0_narrow 2 = .ok (.iload_n 1, 1) := by decide +kernel
theorem dX0_narrow_3 : decode cX0_narrow 3 = .ok (.bipush 20, 2) := by decide +kernel
theorem dX0_narrow_5 : decode cX0_narrow 5 = .ok (.if_icmp .ge 26, 3) := by decide +kernel
theorem dX0_narrow_8 : decode cX0_narrow 8 = .ok (.aload_n 0, 1) := by decide +kernel
theorem dX0_narrow_9 : decode cX0_narrow 9 = .ok (.getfield 9, 3) := by decide +kernel
theorem dX0_narrow_12 : decode cX0_narrow 12 = .ok (.iload_n 1, 1) := by decide +kernel
theorem dX0_narrow_13 : decode cX0_narrow 13 = .ok (.iaload, 1) := by decide +kernel
theorem dX0_narrow_14 : decode cX0_narrow 14 = .ok (.aload_n 0, 1) := by decide +kernel
theorem dX0_narrow_15 : decode cX0_narrow 15 = .ok (.getfield 15, 3) := by decide +kernel
theorem dX0_narrow_18 : decode cX0_narrow 18 = .ok (.iload_n 1, 1) := by decide +kernel
theorem dX0_narrow_19 : decode cX0_narrow 19 = .ok (.iaload, 1) := by decide +kernel
theorem dX0_narrow_20 : decode cX0_narrow 20 = .ok (.if_icmp .le 5, 3) := by decide +kernel
theorem dX0_narrow_23 : decode cX0_narrow 23 = .ok (.iconst 0, 1) := by decide +kernel
theorem dX0_narrow_24 : decode cX0_narrow 24 = .ok (.ireturn, 1) := by decide +kernel
theorem dX0_narrow_25 : decode cX0_narrow 25 = .ok (.iinc 1 1, 3) := by decide +kernel
theorem dX0_narrow_28 : decode cX0_narrow 28 = .ok (.goto (-26), 3) := by decide +kernel
theorem dX0_narrow_31 : decode cX0_narrow 31 = .ok (.aload_n 0, 1) := by decide +kernel
theorem dX0_narrow_32 : decode cX0_narrow 32 = .ok (.invokevirtual 40, 3) := by decide +kernel
theorem dX0_narrow_35 : decode cX0_narrow 35 = .ok (.aload_n 0, 1) := by decide +kernel
theorem dX0_narrow_36 : decode cX0_narrow 36 = .ok (.getfield 18, 3) := by decide +kernel
theorem dX0_narrow_39 : decode cX0_narrow 39 = .ok (.aload_n 0, 1) := by decide +kernel
theorem dX0_narrow_40 : decode cX0_narrow 40 = .ok (.getfield 22, 3) := by decide +kernel
theorem dX0_narrow_43 : decode cX0_narrow 43 = .ok (.if_icmp .le 5, 3) := by decide +kernel
theorem dX0_narrow_46 : decode cX0_narrow 46 = .ok (.iconst 0, 1) := by decide +kernel
theorem dX0_narrow_47 : decode cX0_narrow 47 = .ok (.ireturn, 1) := by decide +kernel
theorem dX0_narrow_48 : decode cX0_narrow 48 = .ok (.aload_n 0, 1) := by decide +kernel
theorem dX0_narrow_49 : decode cX0_narrow 49 = .ok (.invokevirtual 43, 3) := by decide +kernel
theorem dX0_narrow_52 : decode cX0_narrow 52 = .ok (.iconst 1, 1) := by decide +kernel
theorem dX0_narrow_53 : decode cX0_narrow 53 = .ok (.ireturn, 1) := by decide +kernel
theorem dX0_narrowGain_0 : decode cX0_narrowGain 0 = .ok (.iconst 0, 1) := by decide +kernel
theorem dX0_narrowGain_1 : decode cX0_narrowGain 1 = .ok (.istore_n 1, 1) := by decide +kernel
theorem dX0_narrowGain_2 : decode cX0_narrowGain 2 = .ok (.iload_n 1, 1) := by decide +kernel
theorem dX0_narrowGain_3 : decode cX0_narrowGain 3 = .ok (.bipush 20, 2) := by decide +kernel
theorem dX0_narrowGain_5 : decode cX0_narrowGain 5 = .ok (.if_icmp .ge 101, 3) := by decide +kernel
theorem dX0_narrowGain_8 : decode cX0_narrowGain 8 = .ok (.iload_n 1, 1) := by decide +kernel
theorem dX0_narrowGain_9 : decode cX0_narrowGain 9 = .ok (.iconst 1, 1) := by decide +kernel
theorem dX0_narrowGain_10 : decode cX0_narrowGain 10 = .ok (.iadd, 1) := by decide +kernel
theorem dX0_narrowGain_11 : decode cX0_narrowGain 11 = .ok (.istore_n 2, 1) := by decide +kernel
theorem dX0_narrowGain_12 : decode cX0_narrowGain 12 = .ok (.iload_n 2, 1) := by decide +kernel
theorem dX0_narrowGain_13 : decode cX0_narrowGain 13 = .ok (.bipush 20, 2) := by decide +kernel
theorem dX0_narrowGain_15 : decode cX0_narrowGain 15 = .ok (.if_icmp .ge 85, 3) := by decide +kernel
theorem dX0_narrowGain_18 : decode cX0_narrowGain 18 = .ok (.iload_n 2, 1) := by decide +kernel
theorem dX0_narrowGain_19 : decode cX0_narrowGain 19 = .ok (.iload_n 1, 1) := by decide +kernel
theorem dX0_narrowGain_20 : decode cX0_narrowGain 20 = .ok (.isub, 1) := by decide +kernel
theorem dX0_narrowGain_21 : decode cX0_narrowGain 21 = .ok (.istore_n 3, 1) := by decide +kernel
theorem dX0_narrowGain_22 : decode cX0_narrowGain 22 = .ok (.aload_n 0, 1) := by decide +kernel
theorem dX0_narrowGain_23 : decode cX0_narrowGain 23 = .ok (.getfield 9, 3) := by decide +kernel
theorem dX0_narrowGain_26 : decode cX0_narrowGain 26 = .ok (.iload_n 2, 1) := by decide +kernel
theorem dX0_narrowGain_27 : decode cX0_narrowGain 27 = .ok (.iaload, 1) := by decide +kernel
theorem dX0_narrowGain_28 : decode cX0_narrowGain 28 = .ok (.aload_n 0, 1) := by decide +kernel
theorem dX0_narrowGain_29 : decode cX0_narrowGain 29 = .ok (.getfield 15, 3) := by decide +kernel
theorem dX0_narrowGain_32 : decode cX0_narrowGain 32 = .ok (.iload_n 1, 1) := by decide +kernel
theorem dX0_narrowGain_33 : decode cX0_narrowGain 33 = .ok (.iaload, 1) := by decide +kernel
theorem dX0_narrowGain_34 : decode cX0_narrowGain 34 = .ok (.isub, 1) := by decide +kernel
theorem dX0_narrowGain_35 : decode cX0_narrowGain 35 = .ok (.istore 4, 2) := by decide +kernel
theorem dX0_narrowGain_37 : decode cX0_narrowGain 37 = .ok (.aload_n 0, 1) := by decide +kernel
theorem dX0_narrowGain_38 : decode cX0_narrowGain 38 = .ok (.getfield 15, 3) := by decide +kernel
theorem dX0_narrowGain_41 : decode cX0_narrowGain 41 = .ok (.iload_n 2, 1) := by decide +kernel
theorem dX0_narrowGain_42 : decode cX0_narrowGain 42 = .ok (.iaload, 1) := by decide +kernel
theorem dX0_narrowGain_43 : decode cX0_narrowGain 43 = .ok (.aload_n 0, 1) := by decide +kernel
theorem dX0_narrowGain_44 : decode cX0_narrowGain 44 = .ok (.getfield 9, 3) := by decide +kernel
theorem dX0_narrowGain_47 : decode cX0_narrowGain 47 = .ok (.iload_n 1, 1) := by decide +kernel
theorem dX0_narrowGain_48 : decode cX0_narrowGain 48 = .ok (.iaload, 1) := by decide +kernel
theorem dX0_narrowGain_49 : decode cX0_narrowGain 49 = .ok (.isub, 1) := by decide +kernel
theorem dX0_narrowGain_50 : decode cX0_narrowGain 50 = .ok (.istore 5, 2) := by decide +kernel
theorem dX0_narrowGain_52 : decode cX0_narrowGain 52 = .ok (.iload 4, 2) := by decide +kernel
theorem dX0_narrowGain_54 : decode cX0_narrowGain 54 = .ok (.aload_n 0, 1) := by decide +kernel
theorem dX0_narrowGain_55 : decode cX0_narrowGain 55 = .ok (.getfield 18, 3) := by decide +kernel
theorem dX0_narrowGain_58 : decode cX0_narrowGain 58 = .ok (.iload_n 3, 1) := by decide +kernel
theorem dX0_narrowGain_59 : decode cX0_narrowGain 59 = .ok (.imul, 1) := by decide +kernel
theorem dX0_narrowGain_60 : decode cX0_narrowGain 60 = .ok (.if_icmp .le 13, 3) := by decide +kernel
theorem dX0_narrowGain_63 : decode cX0_narrowGain 63 = .ok (.aload_n 0, 1) := by decide +kernel
theorem dX0_narrowGain_64 : decode cX0_narrowGain 64 = .ok (.iload 4, 2) := by decide +kernel
theorem dX0_narrowGain_66 : decode cX0_narrowGain 66 = .ok (.iload_n 3, 1) := by decide +kernel
theorem dX0_narrowGain_67 : decode cX0_narrowGain 67 = .ok (.invokestatic 46, 3) := by decide +kernel
theorem dX0_narrowGain_70 : decode cX0_narrowGain 70 = .ok (.putfield 18, 3) := by decide +kernel
theorem dX0_narrowGain_73 : decode cX0_narrowGain 73 = .ok (.iload 5, 2) := by decide +kernel
theorem dX0_narrowGain_75 : decode cX0_narrowGain 75 = .ok (.aload_n 0, 1) := by decide +kernel
theorem dX0_narrowGain_76 : decode cX0_narrowGain 76 = .ok (.getfield 22, 3) := by decide +kernel
theorem dX0_narrowGain_79 : decode cX0_narrowGain 79 = .ok (.iload_n 3, 1) := by decide +kernel
theorem dX0_narrowGain_80 : decode cX0_narrowGain 80 = .ok (.imul, 1) := by decide +kernel
theorem dX0_narrowGain_81 : decode cX0_narrowGain 81 = .ok (.if_icmp .ge 13, 3) := by decide +kernel
theorem dX0_narrowGain_84 : decode cX0_narrowGain 84 = .ok (.aload_n 0, 1) := by decide +kernel
theorem dX0_narrowGain_85 : decode cX0_narrowGain 85 = .ok (.iload 5, 2) := by decide +kernel
theorem dX0_narrowGain_87 : decode cX0_narrowGain 87 = .ok (.iload_n 3, 1) := by decide +kernel
theorem dX0_narrowGain_88 : decode cX0_narrowGain 88 = .ok (.invokestatic 49, 3) := by decide +kernel
theorem dX0_narrowGain_91 : decode cX0_narrowGain 91 = .ok (.putfield 22, 3) := by decide +kernel
theorem dX0_narrowGain_94 : decode cX0_narrowGain 94 = .ok (.iinc 2 1, 3) := by decide +kernel
theorem dX0_narrowGain_97 : decode cX0_narrowGain 97 = .ok (.goto (-85), 3) := by decide +kernel
theorem dX0_narrowGain_100 : decode cX0_narrowGain 100 = .ok (.iinc 1 1, 3) := by decide +kernel
theorem dX0_narrowGain_103 : decode cX0_narrowGain 103 = .ok (.goto (-101), 3) := by decide +kernel
theorem dX0_narrowGain_106 : decode cX0_narrowGain 106 = .ok (.return_, 1) := by decide +kernel
theorem dX0_narrowDays_0 : decode cX0_narrowDays 0 = .ok (.iconst 1, 1) := by decide +kernel
theorem dX0_narrowDays_1 : decode cX0_narrowDays 1 = .ok (.istore_n 1, 1) := by decide +kernel
theorem dX0_narrowDays_2 : decode cX0_narrowDays 2 = .ok (.iload_n 1, 1) := by decide +kernel
theorem dX0_narrowDays_3 : decode cX0_narrowDays 3 = .ok (.bipush 20, 2) := by decide +kernel
theorem dX0_narrowDays_5 : decode cX0_narrowDays 5 = .ok (.if_icmp .ge 40, 3) := by decide +kernel
theorem dX0_narrowDays_8 : decode cX0_narrowDays 8 = .ok (.aload_n 0, 1) := by decide +kernel
theorem dX0_narrowDays_9 : decode cX0_narrowDays 9 = .ok (.iload_n 1, 1) := by decide +kernel
theorem dX0_narrowDays_10 : decode cX0_narrowDays 10 = .ok (.aload_n 0, 1) := by decide +kernel
theorem dX0_narrowDays_11 : decode cX0_narrowDays 11 = .ok (.getfield 9, 3) := by decide +kernel
theorem dX0_narrowDays_14 : decode cX0_narrowDays 14 = .ok (.iload_n 1, 1) := by decide +kernel
theorem dX0_narrowDays_15 : decode cX0_narrowDays 15 = .ok (.iconst 1, 1) := by decide +kernel
theorem dX0_narrowDays_16 : decode cX0_narrowDays 16 = .ok (.isub, 1) := by decide +kernel
theorem dX0_narrowDays_17 : decode cX0_narrowDays 17 = .ok (.iaload, 1) := by decide +kernel
theorem dX0_narrowDays_18 : decode cX0_narrowDays 18 = .ok (.aload_n 0, 1) := by decide +kernel
theorem dX0_narrowDays_19 : decode cX0_narrowDays 19 = .ok (.getfield 18, 3) := by decide +kernel
theorem dX0_narrowDays_22 : decode cX0_narrowDays 22 = .ok (.iadd, 1) := by decide +kernel
theorem dX0_narrowDays_23 : decode cX0_narrowDays 23 = .ok (.aload_n 0, 1) := by decide +kernel
theorem dX0_narrowDays_24 : decode cX0_narrowDays 24 = .ok (.getfield 15, 3) := by decide +kernel
theorem dX0_narrowDays_27 : decode cX0_narrowDays 27 = .ok (.iload_n 1, 1) := by decide +kernel
theorem dX0_narrowDays_28 : decode cX0_narrowDays 28 = .ok (.iconst 1, 1) := by decide +kernel
theorem dX0_narrowDays_29 : decode cX0_narrowDays 29 = .ok (.isub, 1) := by decide +kernel
theorem dX0_narrowDays_30 : decode cX0_narrowDays 30 = .ok (.iaload, 1) := by decide +kernel
theorem dX0_narrowDays_31 : decode cX0_narrowDays 31 = .ok (.aload_n 0, 1) := by decide +kernel
theorem dX0_narrowDays_32 : decode cX0_narrowDays 32 = .ok (.getfield 22, 3) := by decide +kernel
theorem dX0_narrowDays_35 : decode cX0_narrowDays 35 = .ok (.iadd, 1) := by decide +kernel
theorem dX0_narrowDays_36 : decode cX0_narrowDays 36 = .ok (.invokevirtual 52, 3) := by decide +kernel
theorem dX0_narrowDays_39 : decode cX0_narrowDays 39 = .ok (.iinc 1 1, 3) := by decide +kernel
theorem dX0_narrowDays_42 : decode cX0_narrowDays 42 = .ok (.goto (-40), 3) := by decide +kernel
theorem dX0_narrowDays_45 : decode cX0_narrowDays 45 = .ok (.bipush 18, 2) := by decide +kernel
theorem dX0_narrowDays_47 : decode cX0_narrowDays 47 = .ok (.istore_n 1, 1) := by decide +kernel
theorem dX0_narrowDays_48 : decode cX0_narrowDays 48 = .ok (.iload_n 1, 1) := by decide +kernel
theorem dX0_narrowDays_49 : decode cX0_narrowDays 49 = .ok (.ifCond .lt 40, 3) := by decide +kernel
theorem dX0_narrowDays_52 : decode cX0_narrowDays 52 = .ok (.aload_n 0, 1) := by decide +kernel
theorem dX0_narrowDays_53 : decode cX0_narrowDays 53 = .ok (.iload_n 1, 1) := by decide +kernel
theorem dX0_narrowDays_54 : decode cX0_narrowDays 54 = .ok (.aload_n 0, 1) := by decide +kernel
theorem dX0_narrowDays_55 : decode cX0_narrowDays 55 = .ok (.getfield 9, 3) := by decide +kernel
theorem dX0_narrowDays_58 : decode cX0_narrowDays 58 = .ok (.iload_n 1, 1) := by decide +kernel
theorem dX0_narrowDays_59 : decode cX0_narrowDays 59 = .ok (.iconst 1, 1) := by decide +kernel
theorem dX0_narrowDays_60 : decode cX0_narrowDays 60 = .ok (.iadd, 1) := by decide +kernel
theorem dX0_narrowDays_61 : decode cX0_narrowDays 61 = .ok (.iaload, 1) := by decide +kernel
theorem dX0_narrowDays_62 : decode cX0_narrowDays 62 = .ok (.aload_n 0, 1) := by decide +kernel
theorem dX0_narrowDays_63 : decode cX0_narrowDays 63 = .ok (.getfield 22, 3) := by decide +kernel
theorem dX0_narrowDays_66 : decode cX0_narrowDays 66 = .ok (.isub, 1) := by decide +kernel
theorem dX0_narrowDays_67 : decode cX0_narrowDays 67 = .ok (.aload_n 0, 1) := by decide +kernel
theorem dX0_narrowDays_68 : decode cX0_narrowDays 68 = .ok (.getfield 15, 3) := by decide +kernel
theorem dX0_narrowDays_71 : decode cX0_narrowDays 71 = .ok (.iload_n 1, 1) := by decide +kernel
theorem dX0_narrowDays_72 : decode cX0_narrowDays 72 = .ok (.iconst 1, 1) := by decide +kernel
theorem dX0_narrowDays_73 : decode cX0_narrowDays 73 = .ok (.iadd, 1) := by decide +kernel
theorem dX0_narrowDays_74 : decode cX0_narrowDays 74 = .ok (.iaload, 1) := by decide +kernel
theorem dX0_narrowDays_75 : decode cX0_narrowDays 75 = .ok (.aload_n 0, 1) := by decide +kernel
theorem dX0_narrowDays_76 : decode cX0_narrowDays 76 = .ok (.getfield 18, 3) := by decide +kernel
theorem dX0_narrowDays_79 : decode cX0_narrowDays 79 = .ok (.isub, 1) := by decide +kernel
theorem dX0_narrowDays_80 : decode cX0_narrowDays 80 = .ok (.invokevirtual 52, 3) := by decide +kernel
theorem dX0_narrowDays_83 : decode cX0_narrowDays 83 = .ok (.iinc 1 (-1), 3) := by decide +kernel
theorem dX0_narrowDays_86 : decode cX0_narrowDays 86 = .ok (.goto (-38), 3) := by decide +kernel
theorem dX0_narrowDays_89 : decode cX0_narrowDays 89 = .ok (.return_, 1) := by decide +kernel
theorem dX1_init_0 : decode cX1_init 0 = .ok (.aload_n 0, 1) := by decide +kernel
theorem dX1_init_1 : decode cX1_init 1 = .ok (.invokespecial 3, 3) := by decide +kernel
theorem dX1_init_4 : decode cX1_init 4 = .ok (.aload_n 0, 1) := by decide +kernel
theorem dX1_init_5 : decode cX1_init 5 = .ok (.bipush 12, 2) := by decide +kernel
theorem dX1_init_7 : decode cX1_init 7 = .ok (.newarray .int, 2) := by decide +kernel
theorem dX1_init_9 : decode cX1_init 9 = .ok (.putfield 9, 3) := by decide +kernel
theorem dX1_init_12 : decode cX1_init 12 = .ok (.aload_n 0, 1) := by decide +kernel
theorem dX1_init_13 : decode cX1_init 13 = .ok (.bipush 12, 2) := by decide +kernel
theorem dX1_init_15 : decode cX1_init 15 = .ok (.newarray .int, 2) := by decide +kernel
theorem dX1_init_17 : decode cX1_init 17 = .ok (.putfield 15, 3) := by decide +kernel
theorem dX1_init_20 : decode cX1_init 20 = .ok (.aload_n 0, 1) := by decide +kernel
theorem dX1_init_21 : decode cX1_init 21 = .ok (.bipush 12, 2) := by decide +kernel
theorem dX1_init_23 : decode cX1_init 23 = .ok (.newarray .boolean, 2) := by decide +kernel
theorem dX1_init_25 : decode cX1_init 25 = .ok (.putfield 18, 3) := by decide +kernel
theorem dX1_init_28 : decode cX1_init 28 = .ok (.aload_n 0, 1) := by decide +kernel
theorem dX1_init_29 : decode cX1_init 29 = .ok (.bipush 12, 2) := by decide +kernel
theorem dX1_init_31 : decode cX1_init 31 = .ok (.newarray .int, 2) := by decide +kernel
theorem dX1_init_33 : decode cX1_init 33 = .ok (.putfield 22, 3) := by decide +kernel
theorem dX1_init_36 : decode cX1_init 36 = .ok (.aload_n 0, 1) := by decide +kernel
theorem dX1_init_37 : decode cX1_init 37 = .ok (.bipush 12, 2) := by decide +kernel
theorem dX1_init_39 : decode cX1_init 39 = .ok (.newarray .int, 2) := by decide +kernel
theorem dX1_init_41 : decode cX1_init 41 = .ok (.putfield 25, 3) := by decide +kernel
theorem dX1_init_44 : decode cX1_init 44 = .ok (.aload_n 0, 1) := by decide +kernel
theorem dX1_init_45 : decode cX1_init 45 = .ok (.iconst 3, 1) := by decide +kernel
theorem dX1_init_46 : decode cX1_init 46 = .ok (.newarray .int, 2) := by decide +kernel
theorem dX1_init_48 : decode cX1_init 48 = .ok (.putfield 28, 3) := by decide +kernel
theorem dX1_init_51 : decode cX1_init 51 = .ok (.aload_n 0, 1) := by decide +kernel
theorem dX1_init_52 : decode cX1_init 52 = .ok (.iconst 3, 1) := by decide +kernel
theorem dX1_init_53 : decode cX1_init 53 = .ok (.newarray .int, 2) := by decide +kernel
theorem dX1_init_55 : decode cX1_init 55 = .ok (.putfield 31, 3) := by decide +kernel
theorem dX1_init_58 : decode cX1_init 58 = .ok (.aload_n 0, 1) := by decide +kernel
theorem dX1_init_59 : decode cX1_init 59 = .ok (.iconst 3, 1) := by decide +kernel
theorem dX1_init_60 : decode cX1_init 60 = .ok (.newarray .int, 2) := by decide +kernel
theorem dX1_init_62 : decode cX1_init 62 = .ok (.putfield 34, 3) := by decide +kernel
theorem dX1_init_65 : decode cX1_init 65 = .ok (.iconst 0, 1) := by decide +kernel
theorem dX1_init_66 : decode cX1_init 66 = .ok (.istore_n 1, 1) := by decide +kernel
theorem dX1_init_67 : decode cX1_init 67 = .ok (.iload_n 1, 1) := by decide +kernel
theorem dX1_init_68 : decode cX1_init 68 = .ok (.iconst 3, 1) := by decide +kernel
theorem dX1_init_69 : decode cX1_init 69 = .ok (.if_icmp .ge 16, 3) := by decide +kernel
theorem dX1_init_72 : decode cX1_init 72 = .ok (.aload_n 0, 1) := by decide +kernel
theorem dX1_init_73 : decode cX1_init 73 = .ok (.getfield 31, 3) := by decide +kernel
theorem dX1_init_76 : decode cX1_init 76 = .ok (.iload_n 1, 1) := by decide +kernel
theorem dX1_init_77 : decode cX1_init 77 = .ok (.iconst 1, 1) := by decide +kernel
theorem dX1_init_78 : decode cX1_init 78 = .ok (.iastore, 1) := by decide +kernel
theorem dX1_init_79 : decode cX1_init 79 = .ok (.iinc 1 1, 3) := by decide +kernel
theorem dX1_init_82 : decode cX1_init 82 = .ok (.goto (-15), 3) := by decide +kernel
theorem dX1_init_85 : decode cX1_init 85 = .ok (.return_, 1) := by decide +kernel
theorem dX1_note_0 : decode cX1_note 0 = .ok (.aload_n 0, 1) := by decide +kernel
theorem dX1_note_1 : decode cX1_note 1 = .ok (.getfield 37, 3) := by decide +kernel
theorem dX1_note_4 : decode cX1_note 4 = .ok (.bipush 12, 2) := by decide +kernel
theorem dX1_note_6 : decode cX1_note 6 = .ok (.if_icmp .lt 6, 3) := by decide +kernel
theorem dX1_note_9 : decode cX1_note 9 = .ok (.bipush (-4), 2) := by decide +kernel
theorem dX1_note_11 : decode cX1_note 11 = .ok (.ireturn, 1) := by decide +kernel
theorem dX1_note_12 : decode cX1_note 12 = .ok (.aload_n 0, 1) := by decide +kernel
theorem dX1_note_13 : decode cX1_note 13 = .ok (.getfield 9, 3) := by decide +kernel
theorem dX1_note_16 : decode cX1_note 16 = .ok (.aload_n 0, 1) := by decide +kernel
theorem dX1_note_17 : decode cX1_note 17 = .ok (.getfield 37, 3) := by decide +kernel
theorem dX1_note_20 : decode cX1_note 20 = .ok (.iload_n 1, 1) := by decide +kernel
theorem dX1_note_21 : decode cX1_note 21 = .ok (.iastore, 1) := by decide +kernel
theorem dX1_note_22 : decode cX1_note 22 = .ok (.aload_n 0, 1) := by decide +kernel
theorem dX1_note_23 : decode cX1_note 23 = .ok (.getfield 15, 3) := by decide +kernel
theorem dX1_note_26 : decode cX1_note 26 = .ok (.aload_n 0, 1) := by decide +kernel
theorem dX1_note_27 : decode cX1_note 27 = .ok (.getfield 37, 3) := by decide +kernel
theorem dX1_note_30 : decode cX1_note 30 = .ok (.iload_n 2, 1) := by decide +kernel
theorem dX1_note_31 : decode cX1_note 31 = .ok (.iastore, 1) := by decide +kernel
theorem dX1_note_32 : decode cX1_note 32 = .ok (.aload_n 0, 1) := by decide +kernel
theorem dX1_note_33 : decode cX1_note 33 = .ok (.getfield 18, 3) := by decide +kernel
theorem dX1_note_36 : decode cX1_note 36 = .ok (.aload_n 0, 1) := by decide +kernel
theorem dX1_note_37 : decode cX1_note 37 = .ok (.getfield 37, 3) := by decide +kernel
theorem dX1_note_40 : decode cX1_note 40 = .ok (.iload_n 3, 1) := by decide +kernel
theorem dX1_note_41 : decode cX1_note 41 = .ok (.bastore, 1) := by decide +kernel
theorem dX1_note_42 : decode cX1_note 42 = .ok (.aload_n 0, 1) := by decide +kernel
theorem dX1_note_43 : decode cX1_note 43 = .ok (.getfield 22, 3) := by decide +kernel
theorem dX1_note_46 : decode cX1_note 46 = .ok (.aload_n 0, 1) := by decide +kernel
theorem dX1_note_47 : decode cX1_note 47 = .ok (.getfield 37, 3) := by decide +kernel
theorem dX1_note_50 : decode cX1_note 50 = .ok (.iload 4, 2) := by decide +kernel
theorem dX1_note_52 : decode cX1_note 52 = .ok (.iastore, 1) := by decide +kernel
theorem dX1_note_53 : decode cX1_note 53 = .ok (.aload_n 0, 1) := by decide +kernel
theorem dX1_note_54 : decode cX1_note 54 = .ok (.getfield 25, 3) := by decide +kernel
theorem dX1_note_57 : decode cX1_note 57 = .ok (.aload_n 0, 1) := by decide +kernel
theorem dX1_note_58 : decode cX1_note 58 = .ok (.getfield 37, 3) := by decide +kernel
theorem dX1_note_61 : decode cX1_note 61 = .ok (.iload 5, 2) := by decide +kernel
theorem dX1_note_63 : decode cX1_note 63 = .ok (.iastore, 1) := by decide +kernel
theorem dX1_note_64 : decode cX1_note 64 = .ok (.aload_n 0, 1) := by decide +kernel
theorem dX1_note_65 : decode cX1_note 65 = .ok (.dup, 1) := by decide +kernel
theorem dX1_note_66 : decode cX1_note 66 = .ok (.getfield 37, 3) := by decide +kernel
theorem dX1_note_69 : decode cX1_note 69 = .ok (.iconst 1, 1) := by decide +kernel
theorem dX1_note_70 : decode cX1_note 70 = .ok (.iadd, 1) := by decide +kernel
theorem dX1_note_71 : decode cX1_note 71 = .ok (.putfield 37, 3) := by decide +kernel
theorem dX1_note_74 : decode cX1_note 74 = .ok (.aload_n 0, 1) := by decide +kernel
theorem dX1_note_75 : decode cX1_note 75 = .ok (.getfield 37, 3) := by decide +kernel
theorem dX1_note_78 : decode cX1_note 78 = .ok (.ireturn, 1) := by decide +kernel
theorem dX2_init_0 : decode cX2_init 0 = .ok (.aload_n 0, 1) := by decide +kernel
theorem dX2_init_1 : decode cX2_init 1 = .ok (.invokespecial 1, 3) := by decide +kernel
theorem dX2_init_4 : decode cX2_init 4 = .ok (.aload_n 0, 1) := by decide +kernel
theorem dX2_init_5 : decode cX2_init 5 = .ok (.new 7, 3) := by decide +kernel
theorem dX2_init_8 : decode cX2_init 8 = .ok (.dup, 1) := by decide +kernel
theorem dX2_init_9 : decode cX2_init 9 = .ok (.invokespecial 9, 3) := by decide +kernel
theorem dX2_init_12 : decode cX2_init 12 = .ok (.putfield 10, 3) := by decide +kernel
theorem dX2_init_15 : decode cX2_init 15 = .ok (.aload_n 0, 1) := by decide +kernel
theorem dX2_init_16 : decode cX2_init 16 = .ok (.new 7, 3) := by decide +kernel
theorem dX2_init_19 : decode cX2_init 19 = .ok (.dup, 1) := by decide +kernel
theorem dX2_init_20 : decode cX2_init 20 = .ok (.invokespecial 9, 3) := by decide +kernel
theorem dX2_init_23 : decode cX2_init 23 = .ok (.putfield 16, 3) := by decide +kernel
theorem dX2_init_26 : decode cX2_init 26 = .ok (.aload_n 0, 1) := by decide +kernel
theorem dX2_init_27 : decode cX2_init 27 = .ok (.new 7, 3) := by decide +kernel
theorem dX2_init_30 : decode cX2_init 30 = .ok (.dup, 1) := by decide +kernel
theorem dX2_init_31 : decode cX2_init 31 = .ok (.invokespecial 9, 3) := by decide +kernel
theorem dX2_init_34 : decode cX2_init 34 = .ok (.putfield 19, 3) := by decide +kernel
theorem dX2_init_37 : decode cX2_init 37 = .ok (.aload_n 0, 1) := by decide +kernel
theorem dX2_init_38 : decode cX2_init 38 = .ok (.iconst 2, 1) := by decide +kernel
theorem dX2_init_39 : decode cX2_init 39 = .ok (.newarray .int, 2) := by decide +kernel
theorem dX2_init_41 : decode cX2_init 41 = .ok (.putfield 22, 3) := by decide +kernel
theorem dX2_init_44 : decode cX2_init 44 = .ok (.aload_n 0, 1) := by decide +kernel
theorem dX2_init_45 : decode cX2_init 45 = .ok (.iconst 2, 1) := by decide +kernel
theorem dX2_init_46 : decode cX2_init 46 = .ok (.newarray .int, 2) := by decide +kernel
theorem dX2_init_48 : decode cX2_init 48 = .ok (.putfield 26, 3) := by decide +kernel
theorem dX2_init_51 : decode cX2_init 51 = .ok (.aload_n 0, 1) := by decide +kernel
theorem dX2_init_52 : decode cX2_init 52 = .ok (.bipush 20, 2) := by decide +kernel
theorem dX2_init_54 : decode cX2_init 54 = .ok (.newarray .int, 2) := by decide +kernel
theorem dX2_init_56 : decode cX2_init 56 = .ok (.putfield 29, 3) := by decide +kernel
theorem dX2_init_59 : decode cX2_init 59 = .ok (.aload_n 0, 1) := by decide +kernel
theorem dX2_init_60 : decode cX2_init 60 = .ok (.bipush 20, 2) := by decide +kernel
theorem dX2_init_62 : decode cX2_init 62 = .ok (.newarray .int, 2) := by decide +kernel
theorem dX2_init_64 : decode cX2_init 64 = .ok (.putfield 32, 3) := by decide +kernel
theorem dX2_init_67 : decode cX2_init 67 = .ok (.aload_n 0, 1) := by decide +kernel
theorem dX2_init_68 : decode cX2_init 68 = .ok (.iconst 4, 1) := by decide +kernel
theorem dX2_init_69 : decode cX2_init 69 = .ok (.anewarray 35, 3) := by decide +kernel
theorem dX2_init_72 : decode cX2_init 72 = .ok (.putfield 37, 3) := by decide +kernel
theorem dX2_init_75 : decode cX2_init 75 = .ok (.aload_n 0, 1) := by decide +kernel
theorem dX2_init_76 : decode cX2_init 76 = .ok (.iconst 4, 1) := by decide +kernel
theorem dX2_init_77 : decode cX2_init 77 = .ok (.newarray .int, 2) := by decide +kernel
theorem dX2_init_79 : decode cX2_init 79 = .ok (.putfield 41, 3) := by decide +kernel
theorem dX2_init_82 : decode cX2_init 82 = .ok (.aload_n 0, 1) := by decide +kernel
theorem dX2_init_83 : decode cX2_init 83 = .ok (.iconst 4, 1) := by decide +kernel
theorem dX2_init_84 : decode cX2_init 84 = .ok (.newarray .int, 2) := by decide +kernel
theorem dX2_init_86 : decode cX2_init 86 = .ok (.putfield 44, 3) := by decide +kernel
theorem dX2_init_89 : decode cX2_init 89 = .ok (.aload_n 0, 1) := by decide +kernel
theorem dX2_init_90 : decode cX2_init 90 = .ok (.iconst 3, 1) := by decide +kernel
theorem dX2_init_91 : decode cX2_init 91 = .ok (.newarray .int, 2) := by decide +kernel
theorem dX2_init_93 : decode cX2_init 93 = .ok (.putfield 47, 3) := by decide +kernel
theorem dX2_init_96 : decode cX2_init 96 = .ok (.aload_n 0, 1) := by decide +kernel
theorem dX2_init_97 : decode cX2_init 97 = .ok (.iconst 3, 1) := by decide +kernel
theorem dX2_init_98 : decode cX2_init 98 = .ok (.newarray .int, 2) := by decide +kernel
theorem dX2_init_100 : decode cX2_init 100 = .ok (.putfield 50, 3) := by decide +kernel
theorem dX2_init_103 : decode cX2_init 103 = .ok (.aload_n 0, 1) := by decide +kernel
theorem dX2_init_104 : decode cX2_init 104 = .ok (.iconst 2, 1) := by decide +kernel
theorem dX2_init_105 : decode cX2_init 105 = .ok (.putfield 53, 3) := by decide +kernel
theorem dX2_init_108 : decode cX2_init 108 = .ok (.aload_n 0, 1) := by decide +kernel
theorem dX2_init_109 : decode cX2_init 109 = .ok (.getfield 10, 3) := by decide +kernel
theorem dX2_init_112 : decode cX2_init 112 = .ok (.sipush 600, 3) := by decide +kernel
theorem dX2_init_115 : decode cX2_init 115 = .ok (.bipush 20, 2) := by decide +kernel
theorem dX2_init_117 : decode cX2_init 117 = .ok (.invokevirtual 57, 3) := by decide +kernel
theorem dX2_init_120 : decode cX2_init 120 = .ok (.iconst 0, 1) := by decide +kernel
theorem dX2_init_121 : decode cX2_init 121 = .ok (.istore_n 1, 1) := by decide +kernel
theorem dX2_init_122 : decode cX2_init 122 = .ok (.iload_n 1, 1) := by decide +kernel
theorem dX2_init_123 : decode cX2_init 123 = .ok (.bipush 20, 2) := by decide +kernel
theorem dX2_init_125 : decode cX2_init 125 = .ok (.if_icmp .ge 16, 3) := by decide +kernel
theorem dX2_init_128 : decode cX2_init 128 = .ok (.aload_n 0, 1) := by decide +kernel
theorem dX2_init_129 : decode cX2_init 129 = .ok (.getfield 32, 3) := by decide +kernel
theorem dX2_init_132 : decode cX2_init 132 = .ok (.iload_n 1, 1) := by decide +kernel
theorem dX2_init_133 : decode cX2_init 133 = .ok (.iconst 5, 1) := by decide +kernel
theorem dX2_init_134 : decode cX2_init 134 = .ok (.iastore, 1) := by decide +kernel
theorem dX2_init_135 : decode cX2_init 135 = .ok (.iinc 1 1, 3) := by decide +kernel
theorem dX2_init_138 : decode cX2_init 138 = .ok (.goto (-16), 3) := by decide +kernel
theorem dX2_init_141 : decode cX2_init 141 = .ok (.iconst 0, 1) := by decide +kernel
theorem dX2_init_142 : decode cX2_init 142 = .ok (.istore_n 1, 1) := by decide +kernel
theorem dX2_init_143 : decode cX2_init 143 = .ok (.iload_n 1, 1) := by decide +kernel
theorem dX2_init_144 : decode cX2_init 144 = .ok (.iconst 4, 1) := by decide +kernel
theorem dX2_init_145 : decode cX2_init 145 = .ok (.if_icmp .ge 22, 3) := by decide +kernel
theorem dX2_init_148 : decode cX2_init 148 = .ok (.aload_n 0, 1) := by decide +kernel
theorem dX2_init_149 : decode cX2_init 149 = .ok (.getfield 37, 3) := by decide +kernel
theorem dX2_init_152 : decode cX2_init 152 = .ok (.iload_n 1, 1) := by decide +kernel
theorem dX2_init_153 : decode cX2_init 153 = .ok (.new 35, 3) := by decide +kernel
theorem dX2_init_156 : decode cX2_init 156 = .ok (.dup, 1) := by decide +kernel
theorem dX2_init_157 : decode cX2_init 157 = .ok (.invokespecial 61, 3) := by decide +kernel
theorem dX2_init_160 : decode cX2_init 160 = .ok (.aastore, 1) := by decide +kernel
theorem dX2_init_161 : decode cX2_init 161 = .ok (.iinc 1 1, 3) := by decide +kernel
theorem dX2_init_164 : decode cX2_init 164 = .ok (.goto (-21), 3) := by decide +kernel
theorem dX2_init_167 : decode cX2_init 167 = .ok (.iconst 0, 1) := by decide +kernel
theorem dX2_init_168 : decode cX2_init 168 = .ok (.istore_n 1, 1) := by decide +kernel
theorem dX2_init_169 : decode cX2_init 169 = .ok (.iload_n 1, 1) := by decide +kernel
theorem dX2_init_170 : decode cX2_init 170 = .ok (.iconst 4, 1) := by decide +kernel
theorem dX2_init_171 : decode cX2_init 171 = .ok (.if_icmp .ge 25, 3) := by decide +kernel
theorem dX2_init_174 : decode cX2_init 174 = .ok (.aload_n 0, 1) := by decide +kernel
theorem dX2_init_175 : decode cX2_init 175 = .ok (.getfield 41, 3) := by decide +kernel
theorem dX2_init_178 : decode cX2_init 178 = .ok (.iload_n 1, 1) := by decide +kernel
theorem dX2_init_179 : decode cX2_init 179 = .ok (.ldc 62, 2) := by decide +kernel
theorem dX2_init_181 : decode cX2_init 181 = .ok (.iastore, 1) := by decide +kernel
theorem dX2_init_182 : decode cX2_init 182 = .ok (.aload_n 0, 1) := by decide +kernel
theorem dX2_init_183 : decode cX2_init 183 = .ok (.getfield 44, 3) := by decide +kernel
theorem dX2_init_186 : decode cX2_init 186 = .ok (.iload_n 1, 1) := by decide +kernel
theorem dX2_init_187 : decode cX2_init 187 = .ok (.ldc 63, 2) := by decide +kernel
theorem dX2_init_189 : decode cX2_init 189 = .ok (.iastore, 1) := by decide +kernel
theorem dX2_init_190 : decode cX2_init 190 = .ok (.iinc 1 1, 3) := by decide +kernel
theorem dX2_init_193 : decode cX2_init 193 = .ok (.goto (-24), 3) := by decide +kernel
theorem dX2_init_196 : decode cX2_init 196 = .ok (.return_, 1) := by decide +kernel
theorem dX2_star_0 : decode cX2_star 0 = .ok (.iload_n 1, 1) := by decide +kernel
theorem dX2_star_1 : decode cX2_star 1 = .ok (.invokestatic 64, 3) := by decide +kernel
theorem dX2_star_4 : decode cX2_star 4 = .ok (.ifCond .eq 5, 3) := by decide +kernel
theorem dX2_star_7 : decode cX2_star 7 = .ok (.iconst (-1), 1) := by decide +kernel
theorem dX2_star_8 : decode cX2_star 8 = .ok (.ireturn, 1) := by decide +kernel
theorem dX2_star_9 : decode cX2_star 9 = .ok (.iload_n 2, 1) := by decide +kernel
theorem dX2_star_10 : decode cX2_star 10 = .ok (.sipush 600, 3) := by decide +kernel
theorem dX2_star_13 : decode cX2_star 13 = .ok (.invokestatic 68, 3) := by decide +kernel
theorem dX2_star_16 : decode cX2_star 16 = .ok (.ifCond .eq 6, 3) := by decide +kernel
theorem dX2_star_19 : decode cX2_star 19 = .ok (.bipush (-2), 2) := by decide +kernel
theorem dX2_star_21 : decode cX2_star 21 = .ok (.ireturn, 1) := by decide +kernel
theorem dX2_star_22 : decode cX2_star 22 = .ok (.aload_n 0, 1) := by decide +kernel
theorem dX2_star_23 : decode cX2_star 23 = .ok (.getfield 72, 3) := by decide +kernel
theorem dX2_star_26 : decode cX2_star 26 = .ok (.bipush 20, 2) := by decide +kernel
theorem dX2_star_28 : decode cX2_star 28 = .ok (.if_icmp .lt 6, 3) := by decide +kernel
theorem dX2_star_31 : decode cX2_star 31 = .ok (.bipush (-4), 2) := by decide +kernel
theorem dX2_star_33 : decode cX2_star 33 = .ok (.ireturn, 1) := by decide +kernel
theorem dX2_star_34 : decode cX2_star 34 = .ok (.aload_n 0, 1) := by decide +kernel
theorem dX2_star_35 : decode cX2_star 35 = .ok (.getfield 16, 3) := by decide +kernel
theorem dX2_star_38 : decode cX2_star 38 = .ok (.aload_n 0, 1) := by decide +kernel
theorem dX2_star_39 : decode cX2_star 39 = .ok (.getfield 10, 3) := by decide +kernel
theorem dX2_star_42 : decode cX2_star 42 = .ok (.invokevirtual 75, 3) := by decide +kernel
theorem dX2_star_45 : decode cX2_star 45 = .ok (.aload_n 0, 1) := by decide +kernel
theorem dX2_star_46 : decode cX2_star 46 = .ok (.getfield 16, 3) := by decide +kernel
theorem dX2_star_49 : decode cX2_star 49 = .ok (.iload_n 1, 1) := by decide +kernel
theorem dX2_star_50 : decode cX2_star 50 = .ok (.iload_n 2, 1) := by decide +kernel
theorem dX2_star_51 : decode cX2_star 51 = .ok (.aload_n 0, 1) := by decide +kernel
theorem dX2_star_52 : decode cX2_star 52 = .ok (.getfield 53, 3) := by decide +kernel
theorem dX2_star_55 : decode cX2_star 55 = .ok (.isub, 1) := by decide +kernel
theorem dX2_star_56 : decode cX2_star 56 = .ok (.iload_n 2, 1) := by decide +kernel
theorem dX2_star_57 : decode cX2_star 57 = .ok (.aload_n 0, 1) := by decide +kernel
theorem dX2_star_58 : decode cX2_star 58 = .ok (.getfield 53, 3) := by decide +kernel
theorem dX2_star_61 : decode cX2_star 61 = .ok (.iadd, 1) := by decide +kernel
theorem dX2_star_62 : decode cX2_star 62 = .ok (.invokevirtual 79, 3) := by decide +kernel
theorem dX2_star_65 : decode cX2_star 65 = .ok (.aload_n 0, 1) := by decide +kernel
theorem dX2_star_66 : decode cX2_star 66 = .ok (.getfield 16, 3) := by decide +kernel
theorem dX2_star_69 : decode cX2_star 69 = .ok (.invokevirtual 83, 3) := by decide +kernel
theorem dX2_star_72 : decode cX2_star 72 = .ok (.ifCond .ne 6, 3) := by decide +kernel
theorem dX2_star_75 : decode cX2_star 75 = .ok (.bipush (-5), 2) := by decide +kernel
theorem dX2_star_77 : decode cX2_star 77 = .ok (.ireturn, 1) := by decide +kernel
theorem dX2_star_78 : decode cX2_star 78 = .ok (.aload_n 0, 1) := by decide +kernel
theorem dX2_star_79 : decode cX2_star 79 = .ok (.getfield 10, 3) := by decide +kernel
theorem dX2_star_82 : decode cX2_star 82 = .ok (.aload_n 0, 1) := by decide +kernel
theorem dX2_star_83 : decode cX2_star 83 = .ok (.getfield 16, 3) := by decide +kernel
theorem dX2_star_86 : decode cX2_star 86 = .ok (.invokevirtual 75, 3) := by decide +kernel
theorem dX2_star_89 : decode cX2_star 89 = .ok (.aload_n 0, 1) := by decide +kernel
theorem dX2_star_90 : decode cX2_star 90 = .ok (.dup, 1) := by decide +kernel
theorem dX2_star_91 : decode cX2_star 91 = .ok (.getfield 72, 3) := by decide +kernel
theorem dX2_star_94 : decode cX2_star 94 = .ok (.iconst 1, 1) := by decide +kernel
theorem dX2_star_95 : decode cX2_star 95 = .ok (.iadd, 1) := by decide +kernel
theorem dX2_star_96 : decode cX2_star 96 = .ok (.putfield 72, 3) := by decide +kernel
theorem dX2_star_99 : decode cX2_star 99 = .ok (.aload_n 0, 1) := by decide +kernel
theorem dX2_star_100 : decode cX2_star 100 = .ok (.getfield 72, 3) := by decide +kernel
theorem dX2_star_103 : decode cX2_star 103 = .ok (.ireturn, 1) := by decide +kernel
theorem dX2_care_0 : decode cX2_care 0 = .ok (.iload_n 1, 1) := by decide +kernel
theorem dX2_care_1 : decode cX2_care 1 = .ok (.iconst 0, 1) := by decide +kernel
theorem dX2_care_2 : decode cX2_care 2 = .ok (.bipush 9, 2) := by decide +kernel
theorem dX2_care_4 : decode cX2_care 4 = .ok (.invokestatic 87, 3) := by decide +kernel
theorem dX2_care_7 : decode cX2_care 7 = .ok (.ifCond .eq 6, 3) := by decide +kernel
theorem dX2_care_10 : decode cX2_care 10 = .ok (.bipush (-2), 2) := by decide +kernel
theorem dX2_care_12 : decode cX2_care 12 = .ok (.ireturn, 1) := by decide +kernel
theorem dX2_care_13 : decode cX2_care 13 = .ok (.aload_n 0, 1) := by decide +kernel
theorem dX2_care_14 : decode cX2_care 14 = .ok (.getfield 53, 3) := by decide +kernel
theorem dX2_care_17 : decode cX2_care 17 = .ok (.istore_n 2, 1) := by decide +kernel
theorem dX2_care_18 : decode cX2_care 18 = .ok (.aload_n 0, 1) := by decide +kernel
theorem dX2_care_19 : decode cX2_care 19 = .ok (.iload_n 1, 1) := by decide +kernel
theorem dX2_care_20 : decode cX2_care 20 = .ok (.putfield 53, 3) := by decide +kernel
theorem dX2_care_23 : decode cX2_care 23 = .ok (.iload_n 2, 1) := by decide +kernel
theorem dX2_care_24 : decode cX2_care 24 = .ok (.ireturn, 1) := by decide +kernel
theorem dX2_off_0 : decode cX2_off 0 = .ok (.iload_n 1, 1) := by decide +kernel
theorem dX2_off_1 : decode cX2_off 1 = .ok (.invokestatic 64, 3) := by decide +kernel
theorem dX2_off_4 : decode cX2_off 4 = .ok (.ifCond .eq 6, 3) := by decide +kernel
theorem dX2_off_7 : decode cX2_off 7 = .ok (.ldc 91, 2) := by decide +kernel
theorem dX2_off_9 : decode cX2_off 9 = .ok (.ireturn, 1) := by decide +kernel
theorem dX2_off_10 : decode cX2_off 10 = .ok (.iload_n 2, 1) := by decide +kernel
theorem dX2_off_11 : decode cX2_off 11 = .ok (.invokestatic 92, 3) := by decide +kernel
theorem dX2_off_14 : decode cX2_off 14 = .ok (.ifCond .eq 6, 3) := by decide +kernel
theorem dX2_off_17 : decode cX2_off 17 = .ok (.ldc 95, 2) := by decide +kernel
theorem dX2_off_19 : decode cX2_off 19 = .ok (.ireturn, 1) := by decide +kernel
theorem dX2_off_20 : decode cX2_off 20 = .ok (.iload_n 2, 1) := by decide +kernel
theorem dX2_off_21 : decode cX2_off 21 = .ok (.ifCond .ne 15, 3) := by decide +kernel
theorem dX2_off_24 : decode cX2_off 24 = .ok (.aload_n 0, 1) := by decide +kernel
theorem dX2_off_25 : decode cX2_off 25 = .ok (.getfield 10, 3) := by decide +kernel
theorem dX2_off_28 : decode cX2_off 28 = .ok (.getfield 96, 3) := by decide +kernel
theorem dX2_off_31 : decode cX2_off 31 = .ok (.iload_n 1, 1) := by decide +kernel
theorem dX2_off_32 : decode cX2_off 32 = .ok (.iaload, 1) := by decide +kernel
theorem dX2_off_33 : decode cX2_off 33 = .ok (.goto 12, 3) := by decide +kernel
theorem dX2_off_36 : decode cX2_off 36 = .ok (.aload_n 0, 1) := by decide +kernel
theorem dX2_off_37 : decode cX2_off 37 = .ok (.getfield 10, 3) := by decide +kernel
theorem dX2_off_40 : decode cX2_off 40 = .ok (.getfield 99, 3) := by decide +kernel
theorem dX2_off_43 : decode cX2_off 43 = .ok (.iload_n 1, 1) := by decide +kernel
theorem dX2_off_44 : decode cX2_off 44 = .ok (.iaload, 1) := by decide +kernel
theorem dX2_off_45 : decode cX2_off 45 = .ok (.ireturn, 1) := by decide +kernel
theorem dX2_rate_0 : decode cX2_rate 0 = .ok (.iload_n 1, 1) := by decide +kernel
theorem dX2_rate_1 : decode cX2_rate 1 = .ok (.invokestatic 92, 3) := by decide +kernel
theorem dX2_rate_4 : decode cX2_rate 4 = .ok (.ifCond .eq 6, 3) := by decide +kernel
theorem dX2_rate_7 : decode cX2_rate 7 = .ok (.ldc 95, 2) := by decide +kernel
theorem dX2_rate_9 : decode cX2_rate 9 = .ok (.ireturn, 1) := by decide +kernel
theorem dX2_rate_10 : decode cX2_rate 10 = .ok (.iload_n 1, 1) := by decide +kernel
theorem dX2_rate_11 : decode cX2_rate 11 = .ok (.ifCond .ne 13, 3) := by decide +kernel
theorem dX2_rate_14 : decode cX2_rate 14 = .ok (.aload_n 0, 1) := by decide +kernel
theorem dX2_rate_15 : decode cX2_rate 15 = .ok (.getfield 10, 3) := by decide +kernel
theorem dX2_rate_18 : decode cX2_rate 18 = .ok (.getfield 102, 3) := by decide +kernel
theorem dX2_rate_21 : decode cX2_rate 21 = .ok (.goto 10, 3) := by decide +kernel
theorem dX2_rate_24 : decode cX2_rate 24 = .ok (.aload_n 0, 1) := by decide +kernel
theorem dX2_rate_25 : decode cX2_rate 25 = .ok (.getfield 10, 3) := by decide +kernel
theorem dX2_rate_28 : decode cX2_rate 28 = .ok (.getfield 105, 3) := by decide +kernel
theorem dX2_rate_31 : decode cX2_rate 31 = .ok (.ireturn, 1) := by decide +kernel
theorem dX2_slow_0 : decode cX2_slow 0 = .ok (.iload_n 1, 1) := by decide +kernel
theorem dX2_slow_1 : decode cX2_slow 1 = .ok (.iconst 0, 1) := by decide +kernel
theorem dX2_slow_2 : decode cX2_slow 2 = .ok (.iconst 1, 1) := by decide +kernel
theorem dX2_slow_3 : decode cX2_slow 3 = .ok (.invokestatic 87, 3) := by decide +kernel
theorem dX2_slow_6 : decode cX2_slow 6 = .ok (.ifCond .ne 23, 3) := by decide +kernel
theorem dX2_slow_9 : decode cX2_slow 9 = .ok (.iload_n 2, 1) := by decide +kernel
theorem dX2_slow_10 : decode cX2_slow 10 = .ok (.iconst 0, 1) := by decide +kernel
theorem dX2_slow_11 : decode cX2_slow 11 = .ok (.bipush 50, 2) := by decide +kernel
theorem dX2_slow_13 : decode cX2_slow 13 = .ok (.invokestatic 87, 3) := by decide +kernel
theorem dX2_slow_16 : decode cX2_slow 16 = .ok (.ifCond .ne 13, 3) := by decide +kernel
theorem dX2_slow_19 : decode cX2_slow 19 = .ok (.iload_n 3, 1) := by decide +kernel
theorem dX2_slow_20 : decode cX2_slow 20 = .ok (.iload_n 2, 1) := by decide +kernel
theorem dX2_slow_21 : decode cX2_slow 21 = .ok (.bipush 50, 2) := by decide +kernel
theorem dX2_slow_23 : decode cX2_slow 23 = .ok (.invokestatic 87, 3) := by decide +kernel
theorem dX2_slow_26 : decode cX2_slow 26 = .ok (.ifCond .eq 6, 3) := by decide +kernel
theorem dX2_slow_29 : decode cX2_slow 29 = .ok (.bipush (-2), 2) := by decide +kernel
theorem dX2_slow_31 : decode cX2_slow 31 = .ok (.ireturn, 1) := by decide +kernel
theorem dX2_slow_32 : decode cX2_slow 32 = .ok (.bipush 100, 2) := by decide +kernel
theorem dX2_slow_34 : decode cX2_slow 34 = .ok (.aload_n 0, 1) := by decide +kernel
theorem dX2_slow_35 : decode cX2_slow 35 = .ok (.getfield 22, 3) := by decide +kernel
theorem dX2_slow_38 : decode cX2_slow 38 = .ok (.iload_n 1, 1) := by decide +kernel
theorem dX2_slow_39 : decode cX2_slow 39 = .ok (.iaload, 1) := by decide +kernel
theorem dX2_slow_40 : decode cX2_slow 40 = .ok (.imul, 1) := by decide +kernel
theorem dX2_slow_41 : decode cX2_slow 41 = .ok (.aload_n 0, 1) := by decide +kernel
theorem dX2_slow_42 : decode cX2_slow 42 = .ok (.getfield 26, 3) := by decide +kernel
theorem dX2_slow_45 : decode cX2_slow 45 = .ok (.iload_n 1, 1) := by decide +kernel
theorem dX2_slow_46 : decode cX2_slow 46 = .ok (.iaload, 1) := by decide +kernel
theorem dX2_slow_47 : decode cX2_slow 47 = .ok (.iadd, 1) := by decide +kernel
theorem dX2_slow_48 : decode cX2_slow 48 = .ok (.istore 4, 2) := by decide +kernel
theorem dX2_slow_50 : decode cX2_slow 50 = .ok (.aload_n 0, 1) := by decide +kernel
theorem dX2_slow_51 : decode cX2_slow 51 = .ok (.getfield 22, 3) := by decide +kernel
theorem dX2_slow_54 : decode cX2_slow 54 = .ok (.iload_n 1, 1) := by decide +kernel
theorem dX2_slow_55 : decode cX2_slow 55 = .ok (.iload_n 2, 1) := by decide +kernel
theorem dX2_slow_56 : decode cX2_slow 56 = .ok (.iastore, 1) := by decide +kernel
theorem dX2_slow_57 : decode cX2_slow 57 = .ok (.aload_n 0, 1) := by decide +kernel
theorem dX2_slow_58 : decode cX2_slow 58 = .ok (.getfield 26, 3) := by decide +kernel
theorem dX2_slow_61 : decode cX2_slow 61 = .ok (.iload_n 1, 1) := by decide +kernel
theorem dX2_slow_62 : decode cX2_slow 62 = .ok (.iload_n 3, 1) := by decide +kernel
theorem dX2_slow_63 : decode cX2_slow 63 = .ok (.iastore, 1) := by decide +kernel
theorem dX2_slow_64 : decode cX2_slow 64 = .ok (.iload 4, 2) := by decide +kernel
theorem dX2_slow_66 : decode cX2_slow 66 = .ok (.ireturn, 1) := by decide +kernel
theorem dX2_slip_0 : decode cX2_slip 0 = .ok (.iload_n 1, 1) := by decide +kernel
theorem dX2_slip_1 : decode cX2_slip 1 = .ok (.invokestatic 64, 3) := by decide +kernel
theorem dX2_slip_4 : decode cX2_slip 4 = .ok (.ifCond .eq 6, 3) := by decide +kernel
theorem dX2_slip_7 : decode cX2_slip 7 = .ok (.ldc 91, 2) := by decide +kernel
theorem dX2_slip_9 : decode cX2_slip 9 = .ok (.ireturn, 1) := by decide +kernel
theorem dX2_slip_10 : decode cX2_slip 10 = .ok (.iload_n 2, 1) := by decide +kernel
theorem dX2_slip_11 : decode cX2_slip 11 = .ok (.bipush 60, 2) := by decide +kernel
theorem dX2_slip_13 : decode cX2_slip 13 = .ok (.invokestatic 68, 3) := by decide +kernel
theorem dX2_slip_16 : decode cX2_slip 16 = .ok (.ifCond .eq 6, 3) := by decide +kernel
theorem dX2_slip_19 : decode cX2_slip 19 = .ok (.ldc 95, 2) := by decide +kernel
theorem dX2_slip_21 : decode cX2_slip 21 = .ok (.ireturn, 1) := by decide +kernel
theorem dX2_slip_22 : decode cX2_slip 22 = .ok (.aload_n 0, 1) := by decide +kernel
theorem dX2_slip_23 : decode cX2_slip 23 = .ok (.getfield 29, 3) := by decide +kernel
theorem dX2_slip_26 : decode cX2_slip 26 = .ok (.iload_n 1, 1) := by decide +kernel
theorem dX2_slip_27 : decode cX2_slip 27 = .ok (.iaload, 1) := by decide +kernel
theorem dX2_slip_28 : decode cX2_slip 28 = .ok (.istore_n 3, 1) := by decide +kernel
theorem dX2_slip_29 : decode cX2_slip 29 = .ok (.aload_n 0, 1) := by decide +kernel
theorem dX2_slip_30 : decode cX2_slip 30 = .ok (.getfield 29, 3) := by decide +kernel
theorem dX2_slip_33 : decode cX2_slip 33 = .ok (.iload_n 1, 1) := by decide +kernel
theorem dX2_slip_34 : decode cX2_slip 34 = .ok (.iload_n 2, 1) := by decide +kernel
theorem dX2_slip_35 : decode cX2_slip 35 = .ok (.iastore, 1) := by decide +kernel
theorem dX2_slip_36 : decode cX2_slip 36 = .ok (.iload_n 3, 1) := by decide +kernel
theorem dX2_slip_37 : decode cX2_slip 37 = .ok (.ireturn, 1) := by decide +kernel
theorem dX2_back_0 : decode cX2_back 0 = .ok (.iload_n 1, 1) := by decide +kernel
theorem dX2_back_1 : decode cX2_back 1 = .ok (.invokestatic 64, 3) := by decide +kernel
theorem dX2_back_4 : decode cX2_back 4 = .ok (.ifCond .eq 5, 3) := by decide +kernel
theorem dX2_back_7 : decode cX2_back 7 = .ok (.iconst (-1), 1) := by decide +kernel
theorem dX2_back_8 : decode cX2_back 8 = .ok (.ireturn, 1) := by decide +kernel
theorem dX2_back_9 : decode cX2_back 9 = .ok (.aload_n 0, 1) := by decide +kernel
theorem dX2_back_10 : decode cX2_back 10 = .ok (.getfield 108, 3) := by decide +kernel
theorem dX2_back_13 : decode cX2_back 13 = .ok (.iload_n 1, 1) := by decide +kernel
theorem dX2_back_14 : decode cX2_back 14 = .ok (.invokestatic 111, 3) := by decide +kernel
theorem dX2_back_17 : decode cX2_back 17 = .ok (.istore_n 3, 1) := by decide +kernel
theorem dX2_back_18 : decode cX2_back 18 = .ok (.aload_n 0, 1) := by decide +kernel
theorem dX2_back_19 : decode cX2_back 19 = .ok (.aload_n 0, 1) := by decide +kernel
theorem dX2_back_20 : decode cX2_back 20 = .ok (.getfield 108, 3) := by decide +kernel
theorem dX2_back_23 : decode cX2_back 23 = .ok (.iload_n 1, 1) := by decide +kernel
theorem dX2_back_24 : decode cX2_back 24 = .ok (.iload_n 2, 1) := by decide +kernel
theorem dX2_back_25 : decode cX2_back 25 = .ok (.invokestatic 115, 3) := by decide +kernel
theorem dX2_back_28 : decode cX2_back 28 = .ok (.putfield 108, 3) := by decide +kernel
theorem dX2_back_31 : decode cX2_back 31 = .ok (.iload_n 3, 1) := by decide +kernel
theorem dX2_back_32 : decode cX2_back 32 = .ok (.ireturn, 1) := by decide +kernel
theorem dX2_late_0 : decode cX2_late 0 = .ok (.iload_n 1, 1) := by decide +kernel
theorem dX2_late_1 : decode cX2_late 1 = .ok (.invokestatic 64, 3) := by decide +kernel
theorem dX2_late_4 : decode cX2_late 4 = .ok (.ifCond .eq 6, 3) := by decide +kernel
theorem dX2_late_7 : decode cX2_late 7 = .ok (.ldc 91, 2) := by decide +kernel
theorem dX2_late_9 : decode cX2_late 9 = .ok (.ireturn, 1) := by decide +kernel
theorem dX2_late_10 : decode cX2_late 10 = .ok (.iload_n 2, 1) := by decide +kernel
theorem dX2_late_11 : decode cX2_late 11 = .ok (.invokestatic 92, 3) := by decide +kernel
theorem dX2_late_14 : decode cX2_late 14 = .ok (.ifCond .eq 6, 3) := by decide +kernel
theorem dX2_late_17 : decode cX2_late 17 = .ok (.ldc 95, 2) := by decide +kernel
theorem dX2_late_19 : decode cX2_late 19 = .ok (.ireturn, 1) := by decide +kernel
theorem dX2_late_20 : decode cX2_late 20 = .ok (.iload_n 2, 1) := by decide +kernel
theorem dX2_late_21 : decode cX2_late 21 = .ok (.ifCond .ne 11, 3) := by decide +kernel
theorem dX2_late_24 : decode cX2_late 24 = .ok (.aload_n 0, 1) := by decide +kernel
theorem dX2_late_25 : decode cX2_late 25 = .ok (.iload_n 1, 1) := by decide +kernel
theorem dX2_late_26 : decode cX2_late 26 = .ok (.invokevirtual 119, 3) := by decide +kernel
theorem dX2_late_29 : decode cX2_late 29 = .ok (.goto 8, 3) := by decide +kernel
theorem dX2_late_32 : decode cX2_late 32 = .ok (.aload_n 0, 1) := by decide +kernel
theorem dX2_late_33 : decode cX2_late 33 = .ok (.iload_n 1, 1) := by decide +kernel
theorem dX2_late_34 : decode cX2_late 34 = .ok (.invokevirtual 123, 3) := by decide +kernel
theorem dX2_late_37 : decode cX2_late 37 = .ok (.ireturn, 1) := by decide +kernel
theorem dX2_ship_0 : decode cX2_ship 0 = .ok (.aload_n 0, 1) := by decide +kernel
theorem dX2_ship_1 : decode cX2_ship 1 = .ok (.getfield 126, 3) := by decide +kernel
theorem dX2_ship_4 : decode cX2_ship 4 = .ok (.iconst 4, 1) := by decide +kernel
theorem dX2_ship_5 : decode cX2_ship 5 = .ok (.if_icmp .lt 6, 3) := by decide +kernel
theorem dX2_ship_8 : decode cX2_ship 8 = .ok (.bipush (-4), 2) := by decide +kernel
theorem dX2_ship_10 : decode cX2_ship 10 = .ok (.ireturn, 1) := by decide +kernel
theorem dX2_ship_11 : decode cX2_ship 11 = .ok (.aload_n 0, 1) := by decide +kernel
theorem dX2_ship_12 : decode cX2_ship 12 = .ok (.dup, 1) := by decide +kernel
theorem dX2_ship_13 : decode cX2_ship 13 = .ok (.getfield 126, 3) := by decide +kernel
theorem dX2_ship_16 : decode cX2_ship 16 = .ok (.iconst 1, 1) := by decide +kernel
theorem dX2_ship_17 : decode cX2_ship 17 = .ok (.iadd, 1) := by decide +kernel
theorem dX2_ship_18 : decode cX2_ship 18 = .ok (.putfield 126, 3) := by decide +kernel
theorem dX2_ship_21 : decode cX2_ship 21 = .ok (.aload_n 0, 1) := by decide +kernel
theorem dX2_ship_22 : decode cX2_ship 22 = .ok (.getfield 126, 3) := by decide +kernel
theorem dX2_ship_25 : decode cX2_ship 25 = .ok (.iconst 1, 1) := by decide +kernel
theorem dX2_ship_26 : decode cX2_ship 26 = .ok (.isub, 1) := by decide +kernel
theorem dX2_ship_27 : decode cX2_ship 27 = .ok (.ireturn, 1) := by decide +kernel
theorem dX2_set_0 : decode cX2_set 0 = .ok (.aload_n 0, 1) := by decide +kernel
theorem dX2_set_1 : decode cX2_set 1 = .ok (.iload_n 1, 1) := by decide +kernel
theorem dX2_set_2 : decode cX2_set 2 = .ok (.iload_n 2, 1) := by decide +kernel
theorem dX2_set_3 : decode cX2_set 3 = .ok (.invokevirtual 129, 3) := by decide +kernel
theorem dX2_set_6 : decode cX2_set 6 = .ok (.ifCond .ne 10, 3) := by decide +kernel
theorem dX2_set_9 : decode cX2_set 9 = .ok (.iload_n 3, 1) := by decide +kernel
theorem dX2_set_10 : decode cX2_set 10 = .ok (.invokestatic 64, 3) := by decide +kernel
theorem dX2_set_13 : decode cX2_set 13 = .ok (.ifCond .eq 5, 3) := by decide +kernel
theorem dX2_set_16 : decode cX2_set 16 = .ok (.iconst (-1), 1) := by decide +kernel
theorem dX2_set_17 : decode cX2_set 17 = .ok (.ireturn, 1) := by decide +kernel
theorem dX2_set_18 : decode cX2_set 18 = .ok (.iload 4, 2) := by decide +kernel
theorem dX2_set_20 : decode cX2_set 20 = .ok (.iconst 0, 1) := by decide +kernel
theorem dX2_set_21 : decode cX2_set 21 = .ok (.iconst 2, 1) := by decide +kernel
theorem dX2_set_22 : decode cX2_set 22 = .ok (.invokestatic 87, 3) := by decide +kernel
theorem dX2_set_25 : decode cX2_set 25 = .ok (.ifCond .ne 35, 3) := by decide +kernel
theorem dX2_set_28 : decode cX2_set 28 = .ok (.iload 5, 2) := by decide +kernel
theorem dX2_set_30 : decode cX2_set 30 = .ok (.iconst 0, 1) := by decide +kernel
theorem dX2_set_31 : decode cX2_set 31 = .ok (.iload 4, 2) := by decide +kernel
theorem dX2_set_33 : decode cX2_set 33 = .ok (.iconst 2, 1) := by decide +kernel
theorem dX2_set_34 : decode cX2_set 34 = .ok (.if_icmp .ne 8, 3) := by decide +kernel
theorem dX2_set_37 : decode cX2_set 37 = .ok (.bipush 30, 2) := by decide +kernel
theorem dX2_set_39 : decode cX2_set 39 = .ok (.goto 4, 3) := by decide +kernel
theorem dX2_set_42 : decode cX2_set 42 = .ok (.iconst 0, 1) := by decide +kernel
theorem dX2_set_43 : decode cX2_set 43 = .ok (.invokestatic 87, 3) := by decide +kernel
theorem dX2_set_46 : decode cX2_set 46 = .ok (.ifCond .ne 14, 3) := by decide +kernel
theorem dX2_set_49 : decode cX2_set 49 = .ok (.iload 6, 2) := by decide +kernel
theorem dX2_set_51 : decode cX2_set 51 = .ok (.sipush 9999, 3) := by decide +kernel
theorem dX2_set_54 : decode cX2_set 54 = .ok (.invokestatic 68, 3) := by decide +kernel
theorem dX2_set_57 : decode cX2_set 57 = .ok (.ifCond .eq 6, 3) := by decide +kernel
theorem dX2_set_60 : decode cX2_set 60 = .ok (.bipush (-2), 2) := by decide +kernel
theorem dX2_set_62 : decode cX2_set 62 = .ok (.ireturn, 1) := by decide +kernel
theorem dX2_set_63 : decode cX2_set 63 = .ok (.aload_n 0, 1) := by decide +kernel
theorem dX2_set_64 : decode cX2_set 64 = .ok (.getfield 37, 3) := by decide +kernel
theorem dX2_set_67 : decode cX2_set 67 = .ok (.iload_n 1, 1) := by decide +kernel
theorem dX2_set_68 : decode cX2_set 68 = .ok (.aaload, 1) := by decide +kernel
theorem dX2_set_69 : decode cX2_set 69 = .ok (.iload_n 2, 1) := by decide +kernel
theorem dX2_set_70 : decode cX2_set 70 = .ok (.iload_n 3, 1) := by decide +kernel
theorem dX2_set_71 : decode cX2_set 71 = .ok (.iconst 1, 1) := by decide +kernel
theorem dX2_set_72 : decode cX2_set 72 = .ok (.iload 6, 2) := by decide +kernel
theorem dX2_set_74 : decode cX2_set 74 = .ok (.iload 4, 2) := by decide +kernel
theorem dX2_set_76 : decode cX2_set 76 = .ok (.iload 5, 2) := by decide +kernel
theorem dX2_set_78 : decode cX2_set 78 = .ok (.invokestatic 132, 3) := by decide +kernel
theorem dX2_set_81 : decode cX2_set 81 = .ok (.isub, 1) := by decide +kernel
theorem dX2_set_82 : decode cX2_set 82 = .ok (.iload 6, 2) := by decide +kernel
theorem dX2_set_84 : decode cX2_set 84 = .ok (.iload 4, 2) := by decide +kernel
theorem dX2_set_86 : decode cX2_set 86 = .ok (.iload 5, 2) := by decide +kernel
theorem dX2_set_88 : decode cX2_set 88 = .ok (.invokestatic 135, 3) := by decide +kernel
theorem dX2_set_91 : decode cX2_set 91 = .ok (.isub, 1) := by decide +kernel
theorem dX2_set_92 : decode cX2_set 92 = .ok (.invokevirtual 138, 3) := by decide +kernel
theorem dX2_set_95 : decode cX2_set 95 = .ok (.ireturn, 1) := by decide +kernel
theorem dX2_meet_0 : decode cX2_meet 0 = .ok (.aload_n 0, 1) := by decide +kernel
theorem dX2_meet_1 : decode cX2_meet 1 = .ok (.iload_n 1, 1) := by decide +kernel
theorem dX2_meet_2 : decode cX2_meet 2 = .ok (.iload_n 2, 1) := by decide +kernel
theorem dX2_meet_3 : decode cX2_meet 3 = .ok (.invokevirtual 129, 3) := by decide +kernel
theorem dX2_meet_6 : decode cX2_meet 6 = .ok (.ifCond .ne 10, 3) := by decide +kernel
theorem dX2_meet_9 : decode cX2_meet 9 = .ok (.iload_n 3, 1) := by decide +kernel
theorem dX2_meet_10 : decode cX2_meet 10 = .ok (.invokestatic 64, 3) := by decide +kernel
theorem dX2_meet_13 : decode cX2_meet 13 = .ok (.ifCond .eq 5, 3) := by decide +kernel
theorem dX2_meet_16 : decode cX2_meet 16 = .ok (.iconst (-1), 1) := by decide +kernel
theorem dX2_meet_17 : decode cX2_meet 17 = .ok (.ireturn, 1) := by decide +kernel
theorem dX2_meet_18 : decode cX2_meet 18 = .ok (.iload 4, 2) := by decide +kernel
theorem dX2_meet_20 : decode cX2_meet 20 = .ok (.ldc 63, 2) := by decide +kernel
theorem dX2_meet_22 : decode cX2_meet 22 = .ok (.invokestatic 68, 3) := by decide +kernel
theorem dX2_meet_25 : decode cX2_meet 25 = .ok (.ifCond .ne 14, 3) := by decide +kernel
theorem dX2_meet_28 : decode cX2_meet 28 = .ok (.iload 5, 2) := by decide +kernel
theorem dX2_meet_30 : decode cX2_meet 30 = .ok (.sipush 9999, 3) := by decide +kernel
theorem dX2_meet_33 : decode cX2_meet 33 = .ok (.invokestatic 68, 3) := by decide +kernel
theorem dX2_meet_36 : decode cX2_meet 36 = .ok (.ifCond .eq 6, 3) := by decide +kernel
theorem dX2_meet_39 : decode cX2_meet 39 = .ok (.bipush (-2), 2) := by decide +kernel
theorem dX2_meet_41 : decode cX2_meet 41 = .ok (.ireturn, 1) := by decide +kernel
theorem dX2_meet_42 : decode cX2_meet 42 = .ok (.iload 4, 2) := by decide +kernel
theorem dX2_meet_44 : decode cX2_meet 44 = .ok (.iconst 4, 1) := by decide +kernel
theorem dX2_meet_45 : decode cX2_meet 45 = .ok (.iload 5, 2) := by decide +kernel
theorem dX2_meet_47 : decode cX2_meet 47 = .ok (.imul, 1) := by decide +kernel
theorem dX2_meet_48 : decode cX2_meet 48 = .ok (.isub, 1) := by decide +kernel
theorem dX2_meet_49 : decode cX2_meet 49 = .ok (.istore 6, 2) := by decide +kernel
theorem dX2_meet_51 : decode cX2_meet 51 = .ok (.aload_n 0, 1) := by decide +kernel
theorem dX2_meet_52 : decode cX2_meet 52 = .ok (.getfield 37, 3) := by decide +kernel
theorem dX2_meet_55 : decode cX2_meet 55 = .ok (.iload_n 1, 1) := by decide +kernel
theorem dX2_meet_56 : decode cX2_meet 56 = .ok (.aaload, 1) := by decide +kernel
theorem dX2_meet_57 : decode cX2_meet 57 = .ok (.iload_n 2, 1) := by decide +kernel
theorem dX2_meet_58 : decode cX2_meet 58 = .ok (.iload_n 3, 1) := by decide +kernel
theorem dX2_meet_59 : decode cX2_meet 59 = .ok (.iconst 0, 1) := by decide +kernel
theorem dX2_meet_60 : decode cX2_meet 60 = .ok (.iload 6, 2) := by decide +kernel
theorem dX2_meet_62 : decode cX2_meet 62 = .ok (.iconst 4, 1) := by decide +kernel
theorem dX2_meet_63 : decode cX2_meet 63 = .ok (.isub, 1) := by decide +kernel
theorem dX2_meet_64 : decode cX2_meet 64 = .ok (.iload 6, 2) := by decide +kernel
theorem dX2_meet_66 : decode cX2_meet 66 = .ok (.iconst 4, 1) := by decide +kernel
theorem dX2_meet_67 : decode cX2_meet 67 = .ok (.iadd, 1) := by decide +kernel
theorem dX2_meet_68 : decode cX2_meet 68 = .ok (.invokevirtual 138, 3) := by decide +kernel
theorem dX2_meet_71 : decode cX2_meet 71 = .ok (.ireturn, 1) := by decide +kernel
theorem dX2_strike_0 : decode cX2_strike 0 = .ok (.aload_n 0, 1) := by decide +kernel
theorem dX2_strike_1 : decode cX2_strike 1 = .ok (.iload_n 1, 1) := by decide +kernel
theorem dX2_strike_2 : decode cX2_strike 2 = .ok (.invokevirtual 142, 3) := by decide +kernel
theorem dX2_strike_5 : decode cX2_strike 5 = .ok (.ifCond .eq 5, 3) := by decide +kernel
theorem dX2_strike_8 : decode cX2_strike 8 = .ok (.iconst (-1), 1) := by decide +kernel
theorem dX2_strike_9 : decode cX2_strike 9 = .ok (.ireturn, 1) := by decide +kernel
theorem dX2_strike_10 : decode cX2_strike 10 = .ok (.aload_n 0, 1) := by decide +kernel
theorem dX2_strike_11 : decode cX2_strike 11 = .ok (.getfield 37, 3) := by decide +kernel
theorem dX2_strike_14 : decode cX2_strike 14 = .ok (.iload_n 1, 1) := by decide +kernel
theorem dX2_strike_15 : decode cX2_strike 15 = .ok (.aaload, 1) := by decide +kernel
theorem dX2_strike_16 : decode cX2_strike 16 = .ok (.astore_n 2, 1) := by decide +kernel
theorem dX2_strike_17 : decode cX2_strike 17 = .ok (.aload_n 2, 1) := by decide +kernel
theorem dX2_strike_18 : decode cX2_strike 18 = .ok (.getfield 145, 3) := by decide +kernel
theorem dX2_strike_21 : decode cX2_strike 21 = .ok (.ifCond .gt 6, 3) := by decide +kernel
theorem dX2_strike_24 : decode cX2_strike 24 = .ok (.bipush (-5), 2) := by decide +kernel
theorem dX2_strike_26 : decode cX2_strike 26 = .ok (.ireturn, 1) := by decide +kernel
theorem dX2_strike_27 : decode cX2_strike 27 = .ok (.aload_n 2, 1) := by decide +kernel
theorem dX2_strike_28 : decode cX2_strike 28 = .ok (.dup, 1) := by decide +kernel
theorem dX2_strike_29 : decode cX2_strike 29 = .ok (.getfield 145, 3) := by decide +kernel
theorem dX2_strike_32 : decode cX2_strike 32 = .ok (.iconst 1, 1) := by decide +kernel
theorem dX2_strike_33 : decode cX2_strike 33 = .ok (.isub, 1) := by decide +kernel
theorem dX2_strike_34 : decode cX2_strike 34 = .ok (.putfield 145, 3) := by decide +kernel
theorem dX2_strike_37 : decode cX2_strike 37 = .ok (.aload_n 2, 1) := by decide +kernel
theorem dX2_strike_38 : decode cX2_strike 38 = .ok (.getfield 145, 3) := by decide +kernel
theorem dX2_strike_41 : decode cX2_strike 41 = .ok (.ireturn, 1) := by decide +kernel
theorem dX2_saw_0 : decode cX2_saw 0 = .ok (.aload_n 0, 1) := by decide +kernel
theorem dX2_saw_1 : decode cX2_saw 1 = .ok (.iload_n 1, 1) := by decide +kernel
theorem dX2_saw_2 : decode cX2_saw 2 = .ok (.invokevirtual 142, 3) := by decide +kernel
theorem dX2_saw_5 : decode cX2_saw 5 = .ok (.ifCond .ne 10, 3) := by decide +kernel
theorem dX2_saw_8 : decode cX2_saw 8 = .ok (.iload_n 2, 1) := by decide +kernel
theorem dX2_saw_9 : decode cX2_saw 9 = .ok (.invokestatic 64, 3) := by decide +kernel
theorem dX2_saw_12 : decode cX2_saw 12 = .ok (.ifCond .eq 5, 3) := by decide +kernel
theorem dX2_saw_15 : decode cX2_saw 15 = .ok (.iconst (-1), 1) := by decide +kernel
theorem dX2_saw_16 : decode cX2_saw 16 = .ok (.ireturn, 1) := by decide +kernel
theorem dX2_saw_17 : decode cX2_saw 17 = .ok (.aload_n 0, 1) := by decide +kernel
theorem dX2_saw_18 : decode cX2_saw 18 = .ok (.getfield 37, 3) := by decide +kernel
theorem dX2_saw_21 : decode cX2_saw 21 = .ok (.iload_n 1, 1) := by decide +kernel
theorem dX2_saw_22 : decode cX2_saw 22 = .ok (.aaload, 1) := by decide +kernel
theorem dX2_saw_23 : decode cX2_saw 23 = .ok (.astore 4, 2) := by decide +kernel
theorem dX2_saw_25 : decode cX2_saw 25 = .ok (.aload 4, 2) := by decide +kernel
theorem dX2_saw_27 : decode cX2_saw 27 = .ok (.getfield 148, 3) := by decide +kernel
theorem dX2_saw_30 : decode cX2_saw 30 = .ok (.iload_n 2, 1) := by decide +kernel
theorem dX2_saw_31 : decode cX2_saw 31 = .ok (.invokestatic 111, 3) := by decide +kernel
theorem dX2_saw_34 : decode cX2_saw 34 = .ok (.istore 5, 2) := by decide +kernel
theorem dX2_saw_36 : decode cX2_saw 36 = .ok (.aload 4, 2) := by decide +kernel
theorem dX2_saw_38 : decode cX2_saw 38 = .ok (.aload 4, 2) := by decide +kernel
theorem dX2_saw_40 : decode cX2_saw 40 = .ok (.getfield 148, 3) := by decide +kernel
theorem dX2_saw_43 : decode cX2_saw 43 = .ok (.iload_n 2, 1) := by decide +kernel
theorem dX2_saw_44 : decode cX2_saw 44 = .ok (.iload_n 3, 1) := by decide +kernel
theorem dX2_saw_45 : decode cX2_saw 45 = .ok (.invokestatic 115, 3) := by decide +kernel
theorem dX2_saw_48 : decode cX2_saw 48 = .ok (.putfield 148, 3) := by decide +kernel
theorem dX2_saw_51 : decode cX2_saw 51 = .ok (.iload 5, 2) := by decide +kernel
theorem dX2_saw_53 : decode cX2_saw 53 = .ok (.ireturn, 1) := by decide +kernel
theorem dX2_clock_0 : decode cX2_clock 0 = .ok (.aload_n 0, 1) := by decide +kernel
theorem dX2_clock_1 : decode cX2_clock 1 = .ok (.iload_n 1, 1) := by decide +kernel
theorem dX2_clock_2 : decode cX2_clock 2 = .ok (.iload_n 2, 1) := by decide +kernel
theorem dX2_clock_3 : decode cX2_clock 3 = .ok (.invokevirtual 129, 3) := by decide +kernel
theorem dX2_clock_6 : decode cX2_clock 6 = .ok (.ifCond .eq 5, 3) := by decide +kernel
theorem dX2_clock_9 : decode cX2_clock 9 = .ok (.iconst (-1), 1) := by decide +kernel
theorem dX2_clock_10 : decode cX2_clock 10 = .ok (.ireturn, 1) := by decide +kernel
theorem dX2_clock_11 : decode cX2_clock 11 = .ok (.iload_n 3, 1) := by decide +kernel
theorem dX2_clock_12 : decode cX2_clock 12 = .ok (.iconst 0, 1) := by decide +kernel
theorem dX2_clock_13 : decode cX2_clock 13 = .ok (.iconst 1, 1) := by decide +kernel
theorem dX2_clock_14 : decode cX2_clock 14 = .ok (.invokestatic 87, 3) := by decide +kernel
theorem dX2_clock_17 : decode cX2_clock 17 = .ok (.ifCond .ne 31, 3) := by decide +kernel
theorem dX2_clock_20 : decode cX2_clock 20 = .ok (.iload_n 3, 1) := by decide +kernel
theorem dX2_clock_21 : decode cX2_clock 21 = .ok (.ifCond .ne 16, 3) := by decide +kernel
theorem dX2_clock_24 : decode cX2_clock 24 = .ok (.iload 4, 2) := by decide +kernel
theorem dX2_clock_26 : decode cX2_clock 26 = .ok (.iconst 0, 1) := by decide +kernel
theorem dX2_clock_27 : decode cX2_clock 27 = .ok (.iconst 5, 1) := by decide +kernel
theorem dX2_clock_28 : decode cX2_clock 28 = .ok (.invokestatic 87, 3) := by decide +kernel
theorem dX2_clock_31 : decode cX2_clock 31 = .ok (.ifCond .eq 20, 3) := by decide +kernel
theorem dX2_clock_34 : decode cX2_clock 34 = .ok (.goto 14, 3) := by decide +kernel
theorem dX2_clock_37 : decode cX2_clock 37 = .ok (.iload 4, 2) := by decide +kernel
theorem dX2_clock_39 : decode cX2_clock 39 = .ok (.iconst 1, 1) := by decide +kernel
theorem dX2_clock_40 : decode cX2_clock 40 = .ok (.bipush 9, 2) := by decide +kernel
theorem dX2_clock_42 : decode cX2_clock 42 = .ok (.invokestatic 87, 3) := by decide +kernel
theorem dX2_clock_45 : decode cX2_clock 45 = .ok (.ifCond .eq 6, 3) := by decide +kernel
theorem dX2_clock_48 : decode cX2_clock 48 = .ok (.bipush (-2), 2) := by decide +kernel
theorem dX2_clock_50 : decode cX2_clock 50 = .ok (.ireturn, 1) := by decide +kernel
theorem dX2_clock_51 : decode cX2_clock 51 = .ok (.iload_n 3, 1) := by decide +kernel
theorem dX2_clock_52 : decode cX2_clock 52 = .ok (.ifCond .ne 15, 3) := by decide +kernel
theorem dX2_clock_55 : decode cX2_clock 55 = .ok (.aload_n 0, 1) := by decide +kernel
theorem dX2_clock_56 : decode cX2_clock 56 = .ok (.getfield 37, 3) := by decide +kernel
theorem dX2_clock_59 : decode cX2_clock 59 = .ok (.iload_n 1, 1) := by decide +kernel
theorem dX2_clock_60 : decode cX2_clock 60 = .ok (.aaload, 1) := by decide +kernel
theorem dX2_clock_61 : decode cX2_clock 61 = .ok (.getfield 151, 3) := by decide +kernel
theorem dX2_clock_64 : decode cX2_clock 64 = .ok (.goto 12, 3) := by decide +kernel
theorem dX2_clock_67 : decode cX2_clock 67 = .ok (.aload_n 0, 1) := by decide +kernel
theorem dX2_clock_68 : decode cX2_clock 68 = .ok (.getfield 37, 3) := by decide +kernel
theorem dX2_clock_71 : decode cX2_clock 71 = .ok (.iload_n 1, 1) := by decide +kernel
theorem dX2_clock_72 : decode cX2_clock 72 = .ok (.aaload, 1) := by decide +kernel
theorem dX2_clock_73 : decode cX2_clock 73 = .ok (.getfield 154, 3) := by decide +kernel
theorem dX2_clock_76 : decode cX2_clock 76 = .ok (.astore 5, 2) := by decide +kernel
theorem dX2_clock_78 : decode cX2_clock 78 = .ok (.aload 5, 2) := by decide +kernel
theorem dX2_clock_80 : decode cX2_clock 80 = .ok (.iload_n 2, 1) := by decide +kernel
theorem dX2_clock_81 : decode cX2_clock 81 = .ok (.iaload, 1) := by decide +kernel
theorem dX2_clock_82 : decode cX2_clock 82 = .ok (.istore 6, 2) := by decide +kernel
theorem dX2_clock_84 : decode cX2_clock 84 = .ok (.aload 5, 2) := by decide +kernel
theorem dX2_clock_86 : decode cX2_clock 86 = .ok (.iload_n 2, 1) := by decide +kernel
theorem dX2_clock_87 : decode cX2_clock 87 = .ok (.iload 4, 2) := by decide +kernel
theorem dX2_clock_89 : decode cX2_clock 89 = .ok (.iastore, 1) := by decide +kernel
theorem dX2_clock_90 : decode cX2_clock 90 = .ok (.iload 6, 2) := by decide +kernel
theorem dX2_clock_92 : decode cX2_clock 92 = .ok (.ireturn, 1) := by decide +kernel
theorem dX2_warm_0 : decode cX2_warm 0 = .ok (.iload_n 1, 1) := by decide +kernel
theorem dX2_warm_1 : decode cX2_warm 1 = .ok (.invokestatic 64, 3) := by decide +kernel
theorem dX2_warm_4 : decode cX2_warm 4 = .ok (.ifCond .eq 5, 3) := by decide +kernel
theorem dX2_warm_7 : decode cX2_warm 7 = .ok (.iconst (-1), 1) := by decide +kernel
theorem dX2_warm_8 : decode cX2_warm 8 = .ok (.ireturn, 1) := by decide +kernel
theorem dX2_warm_9 : decode cX2_warm 9 = .ok (.iload_n 2, 1) := by decide +kernel
theorem dX2_warm_10 : decode cX2_warm 10 = .ok (.iconst 0, 1) := by decide +kernel
theorem dX2_warm_11 : decode cX2_warm 11 = .ok (.bipush 9, 2) := by decide +kernel
theorem dX2_warm_13 : decode cX2_warm 13 = .ok (.invokestatic 87, 3) := by decide +kernel
theorem dX2_warm_16 : decode cX2_warm 16 = .ok (.ifCond .eq 6, 3) := by decide +kernel
theorem dX2_warm_19 : decode cX2_warm 19 = .ok (.bipush (-2), 2) := by decide +kernel
theorem dX2_warm_21 : decode cX2_warm 21 = .ok (.ireturn, 1) := by decide +kernel
theorem dX2_warm_22 : decode cX2_warm 22 = .ok (.aload_n 0, 1) := by decide +kernel
theorem dX2_warm_23 : decode cX2_warm 23 = .ok (.getfield 32, 3) := by decide +kernel
theorem dX2_warm_26 : decode cX2_warm 26 = .ok (.iload_n 1, 1) := by decide +kernel
theorem dX2_warm_27 : decode cX2_warm 27 = .ok (.iaload, 1) := by decide +kernel
theorem dX2_warm_28 : decode cX2_warm 28 = .ok (.istore_n 3, 1) := by decide +kernel
theorem dX2_warm_29 : decode cX2_warm 29 = .ok (.aload_n 0, 1) := by decide +kernel
theorem dX2_warm_30 : decode cX2_warm 30 = .ok (.getfield 32, 3) := by decide +kernel
theorem dX2_warm_33 : decode cX2_warm 33 = .ok (.iload_n 1, 1) := by decide +kernel
theorem dX2_warm_34 : decode cX2_warm 34 = .ok (.iload_n 2, 1) := by decide +kernel
theorem dX2_warm_35 : decode cX2_warm 35 = .ok (.iastore, 1) := by decide +kernel
theorem dX2_warm_36 : decode cX2_warm 36 = .ok (.iload_n 3, 1) := by decide +kernel
theorem dX2_warm_37 : decode cX2_warm 37 = .ok (.ireturn, 1) := by decide +kernel
theorem dX2_jumped_0 : decode cX2_jumped 0 = .ok (.aload_n 0, 1) := by decide +kernel
theorem dX2_jumped_1 : decode cX2_jumped 1 = .ok (.iload_n 1, 1) := by decide +kernel
theorem dX2_jumped_2 : decode cX2_jumped 2 = .ok (.iload_n 2, 1) := by decide +kernel
theorem dX2_jumped_3 : decode cX2_jumped 3 = .ok (.invokevirtual 129, 3) := by decide +kernel
theorem dX2_jumped_6 : decode cX2_jumped 6 = .ok (.ifCond .eq 5, 3) := by decide +kernel
theorem dX2_jumped_9 : decode cX2_jumped 9 = .ok (.iconst (-1), 1) := by decide +kernel
theorem dX2_jumped_10 : decode cX2_jumped 10 = .ok (.ireturn, 1) := by decide +kernel
theorem dX2_jumped_11 : decode cX2_jumped 11 = .ok (.aload_n 0, 1) := by decide +kernel
theorem dX2_jumped_12 : decode cX2_jumped 12 = .ok (.aload_n 0, 1) := by decide +kernel
theorem dX2_jumped_13 : decode cX2_jumped 13 = .ok (.getfield 37, 3) := by decide +kernel
theorem dX2_jumped_16 : decode cX2_jumped 16 = .ok (.iload_n 1, 1) := by decide +kernel
theorem dX2_jumped_17 : decode cX2_jumped 17 = .ok (.aaload, 1) := by decide +kernel
theorem dX2_jumped_18 : decode cX2_jumped 18 = .ok (.iload_n 2, 1) := by decide +kernel
theorem dX2_jumped_19 : decode cX2_jumped 19 = .ok (.invokevirtual 157, 3) := by decide +kernel
theorem dX2_jumped_22 : decode cX2_jumped 22 = .ok (.ifCond .eq 7, 3) := by decide +kernel
theorem dX2_jumped_25 : decode cX2_jumped 25 = .ok (.iconst 0, 1) := by decide +kernel
theorem dX2_jumped_26 : decode cX2_jumped 26 = .ok (.goto 4, 3) := by decide +kernel
theorem dX2_jumped_29 : decode cX2_jumped 29 = .ok (.iconst 1, 1) := by decide +kernel
theorem dX2_jumped_30 : decode cX2_jumped 30 = .ok (.ireturn, 1) := by decide +kernel
theorem dX2_ahead_0 : decode cX2_ahead 0 = .ok (.aload_n 0, 1) := by decide +kernel
theorem dX2_ahead_1 : decode cX2_ahead 1 = .ok (.iload_n 1, 1) := by decide +kernel
theorem dX2_ahead_2 : decode cX2_ahead 2 = .ok (.iload_n 2, 1) := by decide +kernel
theorem dX2_ahead_3 : decode cX2_ahead 3 = .ok (.invokevirtual 129, 3) := by decide +kernel
theorem dX2_ahead_6 : decode cX2_ahead 6 = .ok (.ifCond .ne 10, 3) := by decide +kernel
theorem dX2_ahead_9 : decode cX2_ahead 9 = .ok (.iload_n 3, 1) := by decide +kernel
theorem dX2_ahead_10 : decode cX2_ahead 10 = .ok (.invokestatic 64, 3) := by decide +kernel
theorem dX2_ahead_13 : decode cX2_ahead 13 = .ok (.ifCond .eq 6, 3) := by decide +kernel
theorem dX2_ahead_16 : decode cX2_ahead 16 = .ok (.ldc 91, 2) := by decide +kernel
theorem dX2_ahead_18 : decode cX2_ahead 18 = .ok (.ireturn, 1) := by decide +kernel
theorem dX2_ahead_19 : decode cX2_ahead 19 = .ok (.iload 4, 2) := by decide +kernel
theorem dX2_ahead_21 : decode cX2_ahead 21 = .ok (.invokestatic 92, 3) := by decide +kernel
theorem dX2_ahead_24 : decode cX2_ahead 24 = .ok (.ifCond .eq 6, 3) := by decide +kernel
theorem dX2_ahead_27 : decode cX2_ahead 27 = .ok (.ldc 95, 2) := by decide +kernel
theorem dX2_ahead_29 : decode cX2_ahead 29 = .ok (.ireturn, 1) := by decide +kernel
theorem dX2_ahead_30 : decode cX2_ahead 30 = .ok (.aload_n 0, 1) := by decide +kernel
theorem dX2_ahead_31 : decode cX2_ahead 31 = .ok (.aload_n 0, 1) := by decide +kernel
theorem dX2_ahead_32 : decode cX2_ahead 32 = .ok (.getfield 37, 3) := by decide +kernel
theorem dX2_ahead_35 : decode cX2_ahead 35 = .ok (.iload_n 1, 1) := by decide +kernel
theorem dX2_ahead_36 : decode cX2_ahead 36 = .ok (.aaload, 1) := by decide +kernel
theorem dX2_ahead_37 : decode cX2_ahead 37 = .ok (.iload_n 2, 1) := by decide +kernel
theorem dX2_ahead_38 : decode cX2_ahead 38 = .ok (.invokevirtual 157, 3) := by decide +kernel
theorem dX2_ahead_41 : decode cX2_ahead 41 = .ok (.ifCond .ne 6, 3) := by decide +kernel
theorem dX2_ahead_44 : decode cX2_ahead 44 = .ok (.ldc 161, 2) := by decide +kernel
theorem dX2_ahead_46 : decode cX2_ahead 46 = .ok (.ireturn, 1) := by decide +kernel
theorem dX2_ahead_47 : decode cX2_ahead 47 = .ok (.iload 4, 2) := by decide +kernel
theorem dX2_ahead_49 : decode cX2_ahead 49 = .ok (.ifCond .ne 15, 3) := by decide +kernel
theorem dX2_ahead_52 : decode cX2_ahead 52 = .ok (.aload_n 0, 1) := by decide +kernel
theorem dX2_ahead_53 : decode cX2_ahead 53 = .ok (.getfield 19, 3) := by decide +kernel
theorem dX2_ahead_56 : decode cX2_ahead 56 = .ok (.getfield 96, 3) := by decide +kernel
theorem dX2_ahead_59 : decode cX2_ahead 59 = .ok (.iload_n 3, 1) := by decide +kernel
theorem dX2_ahead_60 : decode cX2_ahead 60 = .ok (.iaload, 1) := by decide +kernel
theorem dX2_ahead_61 : decode cX2_ahead 61 = .ok (.goto 12, 3) := by decide +kernel
theorem dX2_ahead_64 : decode cX2_ahead 64 = .ok (.aload_n 0, 1) := by decide +kernel
theorem dX2_ahead_65 : decode cX2_ahead 65 = .ok (.getfield 19, 3) := by decide +kernel
theorem dX2_ahead_68 : decode cX2_ahead 68 = .ok (.getfield 99, 3) := by decide +kernel
theorem dX2_ahead_71 : decode cX2_ahead 71 = .ok (.iload_n 3, 1) := by decide +kernel
theorem dX2_ahead_72 : decode cX2_ahead 72 = .ok (.iaload, 1) := by decide +kernel
theorem dX2_ahead_73 : decode cX2_ahead 73 = .ok (.ireturn, 1) := by decide +kernel
theorem dX2_gains_0 : decode cX2_gains 0 = .ok (.aload_n 0, 1) := by decide +kernel
theorem dX2_gains_1 : decode cX2_gains 1 = .ok (.iload_n 1, 1) := by decide +kernel
theorem dX2_gains_2 : decode cX2_gains 2 = .ok (.iload_n 2, 1) := by decide +kernel
theorem dX2_gains_3 : decode cX2_gains 3 = .ok (.invokevirtual 129, 3) := by decide +kernel
theorem dX2_gains_6 : decode cX2_gains 6 = .ok (.ifCond .eq 6, 3) := by decide +kernel
theorem dX2_gains_9 : decode cX2_gains 9 = .ok (.ldc 91, 2) := by decide +kernel
theorem dX2_gains_11 : decode cX2_gains 11 = .ok (.ireturn, 1) := by decide +kernel
theorem dX2_gains_12 : decode cX2_gains 12 = .ok (.iload_n 3, 1) := by decide +kernel
theorem dX2_gains_13 : decode cX2_gains 13 = .ok (.invokestatic 92, 3) := by decide +kernel
theorem dX2_gains_16 : decode cX2_gains 16 = .ok (.ifCond .eq 6, 3) := by decide +kernel
theorem dX2_gains_19 : decode cX2_gains 19 = .ok (.ldc 95, 2) := by decide +kernel
theorem dX2_gains_21 : decode cX2_gains 21 = .ok (.ireturn, 1) := by decide +kernel
theorem dX2_gains_22 : decode cX2_gains 22 = .ok (.aload_n 0, 1) := by decide +kernel
theorem dX2_gains_23 : decode cX2_gains 23 = .ok (.aload_n 0, 1) := by decide +kernel
theorem dX2_gains_24 : decode cX2_gains 24 = .ok (.getfield 37, 3) := by decide +kernel
theorem dX2_gains_27 : decode cX2_gains 27 = .ok (.iload_n 1, 1) := by decide +kernel
theorem dX2_gains_28 : decode cX2_gains 28 = .ok (.aaload, 1) := by decide +kernel
theorem dX2_gains_29 : decode cX2_gains 29 = .ok (.iload_n 2, 1) := by decide +kernel
theorem dX2_gains_30 : decode cX2_gains 30 = .ok (.invokevirtual 157, 3) := by decide +kernel
theorem dX2_gains_33 : decode cX2_gains 33 = .ok (.ifCond .ne 6, 3) := by decide +kernel
theorem dX2_gains_36 : decode cX2_gains 36 = .ok (.ldc 161, 2) := by decide +kernel
theorem dX2_gains_38 : decode cX2_gains 38 = .ok (.ireturn, 1) := by decide +kernel
theorem dX2_gains_39 : decode cX2_gains 39 = .ok (.iload_n 3, 1) := by decide +kernel
theorem dX2_gains_40 : decode cX2_gains 40 = .ok (.ifCond .ne 13, 3) := by decide +kernel
theorem dX2_gains_43 : decode cX2_gains 43 = .ok (.aload_n 0, 1) := by decide +kernel
theorem dX2_gains_44 : decode cX2_gains 44 = .ok (.getfield 19, 3) := by decide +kernel
theorem dX2_gains_47 : decode cX2_gains 47 = .ok (.getfield 102, 3) := by decide +kernel
theorem dX2_gains_50 : decode cX2_gains 50 = .ok (.goto 10, 3) := by decide +kernel
theorem dX2_gains_53 : decode cX2_gains 53 = .ok (.aload_n 0, 1) := by decide +kernel
theorem dX2_gains_54 : decode cX2_gains 54 = .ok (.getfield 19, 3) := by decide +kernel
theorem dX2_gains_57 : decode cX2_gains 57 = .ok (.getfield 105, 3) := by decide +kernel
theorem dX2_gains_60 : decode cX2_gains 60 = .ok (.ireturn, 1) := by decide +kernel
theorem dX2_place_0 : decode cX2_place 0 = .ok (.aload_n 0, 1) := by decide +kernel
theorem dX2_place_1 : decode cX2_place 1 = .ok (.iload_n 1, 1) := by decide +kernel
theorem dX2_place_2 : decode cX2_place 2 = .ok (.iload_n 2, 1) := by decide +kernel
theorem dX2_place_3 : decode cX2_place 3 = .ok (.invokevirtual 129, 3) := by decide +kernel
theorem dX2_place_6 : decode cX2_place 6 = .ok (.ifCond .ne 10, 3) := by decide +kernel
theorem dX2_place_9 : decode cX2_place 9 = .ok (.iload_n 3, 1) := by decide +kernel
theorem dX2_place_10 : decode cX2_place 10 = .ok (.invokestatic 64, 3) := by decide +kernel
theorem dX2_place_13 : decode cX2_place 13 = .ok (.ifCond .eq 6, 3) := by decide +kernel
theorem dX2_place_16 : decode cX2_place 16 = .ok (.ldc 91, 2) := by decide +kernel
theorem dX2_place_18 : decode cX2_place 18 = .ok (.ireturn, 1) := by decide +kernel
theorem dX2_place_19 : decode cX2_place 19 = .ok (.iload 5, 2) := by decide +kernel
theorem dX2_place_21 : decode cX2_place 21 = .ok (.invokestatic 92, 3) := by decide +kernel
theorem dX2_place_24 : decode cX2_place 24 = .ok (.ifCond .ne 13, 3) := by decide +kernel
theorem dX2_place_27 : decode cX2_place 27 = .ok (.iload 4, 2) := by decide +kernel
theorem dX2_place_29 : decode cX2_place 29 = .ok (.ldc 63, 2) := by decide +kernel
theorem dX2_place_31 : decode cX2_place 31 = .ok (.invokestatic 68, 3) := by decide +kernel
theorem dX2_place_34 : decode cX2_place 34 = .ok (.ifCond .eq 6, 3) := by decide +kernel
theorem dX2_place_37 : decode cX2_place 37 = .ok (.ldc 95, 2) := by decide +kernel
theorem dX2_place_39 : decode cX2_place 39 = .ok (.ireturn, 1) := by decide +kernel
theorem dX2_place_40 : decode cX2_place 40 = .ok (.aload_n 0, 1) := by decide +kernel
theorem dX2_place_41 : decode cX2_place 41 = .ok (.aload_n 0, 1) := by decide +kernel
theorem dX2_place_42 : decode cX2_place 42 = .ok (.getfield 37, 3) := by decide +kernel
theorem dX2_place_45 : decode cX2_place 45 = .ok (.iload_n 1, 1) := by decide +kernel
theorem dX2_place_46 : decode cX2_place 46 = .ok (.aaload, 1) := by decide +kernel
theorem dX2_place_47 : decode cX2_place 47 = .ok (.iload_n 2, 1) := by decide +kernel
theorem dX2_place_48 : decode cX2_place 48 = .ok (.invokevirtual 157, 3) := by decide +kernel
theorem dX2_place_51 : decode cX2_place 51 = .ok (.ifCond .ne 6, 3) := by decide +kernel
theorem dX2_place_54 : decode cX2_place 54 = .ok (.ldc 161, 2) := by decide +kernel
theorem dX2_place_56 : decode cX2_place 56 = .ok (.ireturn, 1) := by decide +kernel
theorem dX2_place_57 : decode cX2_place 57 = .ok (.iload 5, 2) := by decide +kernel
theorem dX2_place_59 : decode cX2_place 59 = .ok (.ifCond .ne 13, 3) := by decide +kernel
theorem dX2_place_62 : decode cX2_place 62 = .ok (.aload_n 0, 1) := by decide +kernel
theorem dX2_place_63 : decode cX2_place 63 = .ok (.iload 4, 2) := by decide +kernel
theorem dX2_place_65 : decode cX2_place 65 = .ok (.iload_n 3, 1) := by decide +kernel
theorem dX2_place_66 : decode cX2_place 66 = .ok (.invokevirtual 162, 3) := by decide +kernel
theorem dX2_place_69 : decode cX2_place 69 = .ok (.goto 10, 3) := by decide +kernel
theorem dX2_place_72 : decode cX2_place 72 = .ok (.aload_n 0, 1) := by decide +kernel
theorem dX2_place_73 : decode cX2_place 73 = .ok (.iload 4, 2) := by decide +kernel
theorem dX2_place_75 : decode cX2_place 75 = .ok (.iload_n 3, 1) := by decide +kernel
theorem dX2_place_76 : decode cX2_place 76 = .ok (.invokevirtual 165, 3) := by decide +kernel
theorem dX2_place_79 : decode cX2_place 79 = .ok (.ireturn, 1) := by decide +kernel
theorem dX2_reads_0 : decode cX2_reads 0 = .ok (.aload_n 0, 1) := by decide +kernel
theorem dX2_reads_1 : decode cX2_reads 1 = .ok (.iload_n 1, 1) := by decide +kernel
theorem dX2_reads_2 : decode cX2_reads 2 = .ok (.invokevirtual 142, 3) := by decide +kernel
theorem dX2_reads_5 : decode cX2_reads 5 = .ok (.ifCond .ne 10, 3) := by decide +kernel
theorem dX2_reads_8 : decode cX2_reads 8 = .ok (.iload_n 2, 1) := by decide +kernel
theorem dX2_reads_9 : decode cX2_reads 9 = .ok (.invokestatic 64, 3) := by decide +kernel
theorem dX2_reads_12 : decode cX2_reads 12 = .ok (.ifCond .eq 5, 3) := by decide +kernel
theorem dX2_reads_15 : decode cX2_reads 15 = .ok (.iconst (-1), 1) := by decide +kernel
theorem dX2_reads_16 : decode cX2_reads 16 = .ok (.ireturn, 1) := by decide +kernel
theorem dX2_reads_17 : decode cX2_reads 17 = .ok (.iload_n 3, 1) := by decide +kernel
theorem dX2_reads_18 : decode cX2_reads 18 = .ok (.ldc 63, 2) := by decide +kernel
theorem dX2_reads_20 : decode cX2_reads 20 = .ok (.invokestatic 68, 3) := by decide +kernel
theorem dX2_reads_23 : decode cX2_reads 23 = .ok (.ifCond .ne 23, 3) := by decide +kernel
theorem dX2_reads_26 : decode cX2_reads 26 = .ok (.iload 4, 2) := by decide +kernel
theorem dX2_reads_28 : decode cX2_reads 28 = .ok (.ldc 63, 2) := by decide +kernel
theorem dX2_reads_30 : decode cX2_reads 30 = .ok (.invokestatic 68, 3) := by decide +kernel
theorem dX2_reads_33 : decode cX2_reads 33 = .ok (.ifCond .ne 13, 3) := by decide +kernel
theorem dX2_reads_36 : decode cX2_reads 36 = .ok (.iload 5, 2) := by decide +kernel
theorem dX2_reads_38 : decode cX2_reads 38 = .ok (.ldc 63, 2) := by decide +kernel
theorem dX2_reads_40 : decode cX2_reads 40 = .ok (.invokestatic 68, 3) := by decide +kernel
theorem dX2_reads_43 : decode cX2_reads 43 = .ok (.ifCond .eq 6, 3) := by decide +kernel
theorem dX2_reads_46 : decode cX2_reads 46 = .ok (.bipush (-2), 2) := by decide +kernel
theorem dX2_reads_48 : decode cX2_reads 48 = .ok (.ireturn, 1) := by decide +kernel
theorem dX2_reads_49 : decode cX2_reads 49 = .ok (.aload_n 0, 1) := by decide +kernel
theorem dX2_reads_50 : decode cX2_reads 50 = .ok (.getfield 37, 3) := by decide +kernel
theorem dX2_reads_53 : decode cX2_reads 53 = .ok (.iload_n 1, 1) := by decide +kernel
theorem dX2_reads_54 : decode cX2_reads 54 = .ok (.aaload, 1) := by decide +kernel
theorem dX2_reads_55 : decode cX2_reads 55 = .ok (.astore 6, 2) := by decide +kernel
theorem dX2_reads_57 : decode cX2_reads 57 = .ok (.aload 6, 2) := by decide +kernel
theorem dX2_reads_59 : decode cX2_reads 59 = .ok (.iload_n 2, 1) := by decide +kernel
theorem dX2_reads_60 : decode cX2_reads 60 = .ok (.putfield 168, 3) := by decide +kernel
theorem dX2_reads_63 : decode cX2_reads 63 = .ok (.aload 6, 2) := by decide +kernel
theorem dX2_reads_65 : decode cX2_reads 65 = .ok (.getfield 171, 3) := by decide +kernel
theorem dX2_reads_68 : decode cX2_reads 68 = .ok (.iconst 0, 1) := by decide +kernel
theorem dX2_reads_69 : decode cX2_reads 69 = .ok (.iload_n 3, 1) := by decide +kernel
theorem dX2_reads_70 : decode cX2_reads 70 = .ok (.iastore, 1) := by decide +kernel
theorem dX2_reads_71 : decode cX2_reads 71 = .ok (.aload 6, 2) := by decide +kernel
theorem dX2_reads_73 : decode cX2_reads 73 = .ok (.getfield 171, 3) := by decide +kernel
theorem dX2_reads_76 : decode cX2_reads 76 = .ok (.iconst 1, 1) := by decide +kernel
theorem dX2_reads_77 : decode cX2_reads 77 = .ok (.iload 4, 2) := by decide +kernel
theorem dX2_reads_79 : decode cX2_reads 79 = .ok (.iastore, 1) := by decide +kernel
theorem dX2_reads_80 : decode cX2_reads 80 = .ok (.aload 6, 2) := by decide +kernel
theorem dX2_reads_82 : decode cX2_reads 82 = .ok (.getfield 171, 3) := by decide +kernel
theorem dX2_reads_85 : decode cX2_reads 85 = .ok (.iconst 2, 1) := by decide +kernel
theorem dX2_reads_86 : decode cX2_reads 86 = .ok (.iload 5, 2) := by decide +kernel
theorem dX2_reads_88 : decode cX2_reads 88 = .ok (.iastore, 1) := by decide +kernel
theorem dX2_reads_89 : decode cX2_reads 89 = .ok (.iconst 1, 1) := by decide +kernel
theorem dX2_reads_90 : decode cX2_reads 90 = .ok (.ireturn, 1) := by decide +kernel
theorem dX2_weight_0 : decode cX2_weight 0 = .ok (.aload_n 0, 1) := by decide +kernel
theorem dX2_weight_1 : decode cX2_weight 1 = .ok (.iload_n 1, 1) := by decide +kernel
theorem dX2_weight_2 : decode cX2_weight 2 = .ok (.invokevirtual 142, 3) := by decide +kernel
theorem dX2_weight_5 : decode cX2_weight 5 = .ok (.ifCond .eq 5, 3) := by decide +kernel
theorem dX2_weight_8 : decode cX2_weight 8 = .ok (.iconst (-1), 1) := by decide +kernel
theorem dX2_weight_9 : decode cX2_weight 9 = .ok (.ireturn, 1) := by decide +kernel
theorem dX2_weight_10 : decode cX2_weight 10 = .ok (.iload_n 2, 1) := by decide +kernel
theorem dX2_weight_11 : decode cX2_weight 11 = .ok (.iconst 0, 1) := by decide +kernel
theorem dX2_weight_12 : decode cX2_weight 12 = .ok (.bipush 7, 2) := by decide +kernel
theorem dX2_weight_14 : decode cX2_weight 14 = .ok (.invokestatic 87, 3) := by decide +kernel
theorem dX2_weight_17 : decode cX2_weight 17 = .ok (.ifCond .eq 6, 3) := by decide +kernel
theorem dX2_weight_20 : decode cX2_weight 20 = .ok (.bipush (-2), 2) := by decide +kernel
theorem dX2_weight_22 : decode cX2_weight 22 = .ok (.ireturn, 1) := by decide +kernel
theorem dX2_weight_23 : decode cX2_weight 23 = .ok (.aload_n 0, 1) := by decide +kernel
theorem dX2_weight_24 : decode cX2_weight 24 = .ok (.aload_n 0, 1) := by decide +kernel
theorem dX2_weight_25 : decode cX2_weight 25 = .ok (.getfield 37, 3) := by decide +kernel
theorem dX2_weight_28 : decode cX2_weight 28 = .ok (.iload_n 1, 1) := by decide +kernel
theorem dX2_weight_29 : decode cX2_weight 29 = .ok (.aaload, 1) := by decide +kernel
theorem dX2_weight_30 : decode cX2_weight 30 = .ok (.invokevirtual 174, 3) := by decide +kernel
theorem dX2_weight_33 : decode cX2_weight 33 = .ok (.aload_n 0, 1) := by decide +kernel
theorem dX2_weight_34 : decode cX2_weight 34 = .ok (.aload_n 0, 1) := by decide +kernel
theorem dX2_weight_35 : decode cX2_weight 35 = .ok (.getfield 37, 3) := by decide +kernel
theorem dX2_weight_38 : decode cX2_weight 38 = .ok (.iload_n 1, 1) := by decide +kernel
theorem dX2_weight_39 : decode cX2_weight 39 = .ok (.aaload, 1) := by decide +kernel
theorem dX2_weight_40 : decode cX2_weight 40 = .ok (.iload_n 2, 1) := by decide +kernel
theorem dX2_weight_41 : decode cX2_weight 41 = .ok (.invokevirtual 178, 3) := by decide +kernel
theorem dX2_weight_44 : decode cX2_weight 44 = .ok (.ireturn, 1) := by decide +kernel
theorem dX2_odds_0 : decode cX2_odds 0 = .ok (.aload_n 0, 1) := by decide +kernel
theorem dX2_odds_1 : decode cX2_odds 1 = .ok (.iload_n 1, 1) := by decide +kernel
theorem dX2_odds_2 : decode cX2_odds 2 = .ok (.invokevirtual 142, 3) := by decide +kernel
theorem dX2_odds_5 : decode cX2_odds 5 = .ok (.ifCond .eq 7, 3) := by decide +kernel
theorem dX2_odds_8 : decode cX2_odds 8 = .ok (.ldc2_w 182, 3) := by decide +kernel
theorem dX2_odds_11 : decode cX2_odds 11 = .ok (.lreturn, 1) := by decide +kernel
theorem dX2_odds_12 : decode cX2_odds 12 = .ok (.iload_n 2, 1) := by decide +kernel
theorem dX2_odds_13 : decode cX2_odds 13 = .ok (.iconst 0, 1) := by decide +kernel
theorem dX2_odds_14 : decode cX2_odds 14 = .ok (.bipush 7, 2) := by decide +kernel
theorem dX2_odds_16 : decode cX2_odds 16 = .ok (.invokestatic 87, 3) := by decide +kernel
theorem dX2_odds_19 : decode cX2_odds 19 = .ok (.ifCond .ne 12, 3) := by decide +kernel
theorem dX2_odds_22 : decode cX2_odds 22 = .ok (.iload_n 3, 1) := by decide +kernel
theorem dX2_odds_23 : decode cX2_odds 23 = .ok (.iconst 0, 1) := by decide +kernel
theorem dX2_odds_24 : decode cX2_odds 24 = .ok (.iconst 1, 1) := by decide +kernel
theorem dX2_odds_25 : decode cX2_odds 25 = .ok (.invokestatic 87, 3) := by decide +kernel
theorem dX2_odds_28 : decode cX2_odds 28 = .ok (.ifCond .eq 7, 3) := by decide +kernel
theorem dX2_odds_31 : decode cX2_odds 31 = .ok (.ldc2_w 184, 3) := by decide +kernel
theorem dX2_odds_34 : decode cX2_odds 34 = .ok (.lreturn, 1) := by decide +kernel
theorem dX2_odds_35 : decode cX2_odds 35 = .ok (.aload_n 0, 1) := by decide +kernel
theorem dX2_odds_36 : decode cX2_odds 36 = .ok (.aload_n 0, 1) := by decide +kernel
theorem dX2_odds_37 : decode cX2_odds 37 = .ok (.getfield 37, 3) := by decide +kernel
theorem dX2_odds_40 : decode cX2_odds 40 = .ok (.iload_n 1, 1) := by decide +kernel
theorem dX2_odds_41 : decode cX2_odds 41 = .ok (.aaload, 1) := by decide +kernel
theorem dX2_odds_42 : decode cX2_odds 42 = .ok (.invokevirtual 174, 3) := by decide +kernel
theorem dX2_odds_45 : decode cX2_odds 45 = .ok (.aload_n 0, 1) := by decide +kernel
theorem dX2_odds_46 : decode cX2_odds 46 = .ok (.aload_n 0, 1) := by decide +kernel
theorem dX2_odds_47 : decode cX2_odds 47 = .ok (.getfield 37, 3) := by decide +kernel
theorem dX2_odds_50 : decode cX2_odds 50 = .ok (.iload_n 1, 1) := by decide +kernel
theorem dX2_odds_51 : decode cX2_odds 51 = .ok (.aaload, 1) := by decide +kernel
theorem dX2_odds_52 : decode cX2_odds 52 = .ok (.iload_n 2, 1) := by decide +kernel
theorem dX2_odds_53 : decode cX2_odds 53 = .ok (.invokevirtual 178, 3) := by decide +kernel
theorem dX2_odds_56 : decode cX2_odds 56 = .ok (.istore 4, 2) := by decide +kernel
theorem dX2_odds_58 : decode cX2_odds 58 = .ok (.iconst 0, 1) := by decide +kernel
theorem dX2_odds_59 : decode cX2_odds 59 = .ok (.istore 5, 2) := by decide +kernel
theorem dX2_odds_61 : decode cX2_odds 61 = .ok (.iconst 0, 1) := by decide +kernel
theorem dX2_odds_62 : decode cX2_odds 62 = .ok (.istore 6, 2) := by decide +kernel
theorem dX2_odds_64 : decode cX2_odds 64 = .ok (.iload 6, 2) := by decide +kernel
theorem dX2_odds_66 : decode cX2_odds 66 = .ok (.bipush 8, 2) := by decide +kernel
theorem dX2_odds_68 : decode cX2_odds 68 = .ok (.if_icmp .ge 26, 3) := by decide +kernel
theorem dX2_odds_71 : decode cX2_odds 71 = .ok (.iload 5, 2) := by decide +kernel
theorem dX2_odds_73 : decode cX2_odds 73 = .ok (.aload_n 0, 1) := by decide +kernel
theorem dX2_odds_74 : decode cX2_odds 74 = .ok (.aload_n 0, 1) := by decide +kernel
theorem dX2_odds_75 : decode cX2_odds 75 = .ok (.getfield 37, 3) := by decide +kernel
theorem dX2_odds_78 : decode cX2_odds 78 = .ok (.iload_n 1, 1) := by decide +kernel
theorem dX2_odds_79 : decode cX2_odds 79 = .ok (.aaload, 1) := by decide +kernel
theorem dX2_odds_80 : decode cX2_odds 80 = .ok (.iload 6, 2) := by decide +kernel
theorem dX2_odds_82 : decode cX2_odds 82 = .ok (.invokevirtual 178, 3) := by decide +kernel
theorem dX2_odds_85 : decode cX2_odds 85 = .ok (.iadd, 1) := by decide +kernel
theorem dX2_odds_86 : decode cX2_odds 86 = .ok (.istore 5, 2) := by decide +kernel
theorem dX2_odds_88 : decode cX2_odds 88 = .ok (.iinc 6 1, 3) := by decide +kernel
theorem dX2_odds_91 : decode cX2_odds 91 = .ok (.goto (-27), 3) := by decide +kernel
theorem dX2_odds_94 : decode cX2_odds 94 = .ok (.iload 4, 2) := by decide +kernel
theorem dX2_odds_96 : decode cX2_odds 96 = .ok (.iload 5, 2) := by decide +kernel
theorem dX2_odds_98 : decode cX2_odds 98 = .ok (.invokestatic 186, 3) := by decide +kernel
theorem dX2_odds_101 : decode cX2_odds 101 = .ok (.istore 6, 2) := by decide +kernel
theorem dX2_odds_103 : decode cX2_odds 103 = .ok (.iload_n 3, 1) := by decide +kernel
theorem dX2_odds_104 : decode cX2_odds 104 = .ok (.ifCond .ne 12, 3) := by decide +kernel
theorem dX2_odds_107 : decode cX2_odds 107 = .ok (.iload 4, 2) := by decide +kernel
theorem dX2_odds_109 : decode cX2_odds 109 = .ok (.iload 6, 2) := by decide +kernel
theorem dX2_odds_111 : decode cX2_odds 111 = .ok (.idiv, 1) := by decide +kernel
theorem dX2_odds_112 : decode cX2_odds 112 = .ok (.i2l, 1) := by decide +kernel
theorem dX2_odds_113 : decode cX2_odds 113 = .ok (.goto 9, 3) := by decide +kernel
theorem dX2_odds_116 : decode cX2_odds 116 = .ok (.iload 5, 2) := by decide +kernel
theorem dX2_odds_118 : decode cX2_odds 118 = .ok (.iload 6, 2) := by decide +kernel
theorem dX2_odds_120 : decode cX2_odds 120 = .ok (.idiv, 1) := by decide +kernel
theorem dX2_odds_121 : decode cX2_odds 121 = .ok (.i2l, 1) := by decide +kernel
theorem dX2_odds_122 : decode cX2_odds 122 = .ok (.lreturn, 1) := by decide +kernel
theorem dX2_best_0 : decode cX2_best 0 = .ok (.aload_n 0, 1) := by decide +kernel
theorem dX2_best_1 : decode cX2_best 1 = .ok (.iload_n 1, 1) := by decide +kernel
theorem dX2_best_2 : decode cX2_best 2 = .ok (.invokevirtual 142, 3) := by decide +kernel
theorem dX2_best_5 : decode cX2_best 5 = .ok (.ifCond .eq 5, 3) := by decide +kernel
theorem dX2_best_8 : decode cX2_best 8 = .ok (.iconst (-1), 1) := by decide +kernel
theorem dX2_best_9 : decode cX2_best 9 = .ok (.ireturn, 1) := by decide +kernel
theorem dX2_best_10 : decode cX2_best 10 = .ok (.aload_n 0, 1) := by decide +kernel
theorem dX2_best_11 : decode cX2_best 11 = .ok (.aload_n 0, 1) := by decide +kernel
theorem dX2_best_12 : decode cX2_best 12 = .ok (.getfield 37, 3) := by decide +kernel
theorem dX2_best_15 : decode cX2_best 15 = .ok (.iload_n 1, 1) := by decide +kernel
theorem dX2_best_16 : decode cX2_best 16 = .ok (.aaload, 1) := by decide +kernel
theorem dX2_best_17 : decode cX2_best 17 = .ok (.invokevirtual 174, 3) := by decide +kernel
theorem dX2_best_20 : decode cX2_best 20 = .ok (.aload_n 0, 1) := by decide +kernel
theorem dX2_best_21 : decode cX2_best 21 = .ok (.aload_n 0, 1) := by decide +kernel
theorem dX2_best_22 : decode cX2_best 22 = .ok (.getfield 37, 3) := by decide +kernel
theorem dX2_best_25 : decode cX2_best 25 = .ok (.iload_n 1, 1) := by decide +kernel
theorem dX2_best_26 : decode cX2_best 26 = .ok (.aaload, 1) := by decide +kernel
theorem dX2_best_27 : decode cX2_best 27 = .ok (.invokevirtual 189, 3) := by decide +kernel
theorem dX2_best_30 : decode cX2_best 30 = .ok (.ireturn, 1) := by decide +kernel
theorem dX2_landfall_0 : decode cX2_landfall 0 = .ok (.aload_n 0, 1) := by decide +kernel
theorem dX2_landfall_1 : decode cX2_landfall 1 = .ok (.iload_n 1, 1) := by decide +kernel
theorem dX2_landfall_2 : decode cX2_landfall 2 = .ok (.invokevirtual 142, 3) := by decide +kernel
theorem dX2_landfall_5 : decode cX2_landfall 5 = .ok (.ifCond .eq 6, 3) := by decide +kernel
theorem dX2_landfall_8 : decode cX2_landfall 8 = .ok (.ldc 91, 2) := by decide +kernel
theorem dX2_landfall_10 : decode cX2_landfall 10 = .ok (.ireturn, 1) := by decide +kernel
theorem dX2_landfall_11 : decode cX2_landfall 11 = .ok (.iload_n 2, 1) := by decide +kernel
theorem dX2_landfall_12 : decode cX2_landfall 12 = .ok (.invokestatic 92, 3) := by decide +kernel
theorem dX2_landfall_15 : decode cX2_landfall 15 = .ok (.ifCond .eq 6, 3) := by decide +kernel
theorem dX2_landfall_18 : decode cX2_landfall 18 = .ok (.ldc 95, 2) := by decide +kernel
theorem dX2_landfall_20 : decode cX2_landfall 20 = .ok (.ireturn, 1) := by decide +kernel
theorem dX2_landfall_21 : decode cX2_landfall 21 = .ok (.aload_n 0, 1) := by decide +kernel
theorem dX2_landfall_22 : decode cX2_landfall 22 = .ok (.aload_n 0, 1) := by decide +kernel
theorem dX2_landfall_23 : decode cX2_landfall 23 = .ok (.getfield 37, 3) := by decide +kernel
theorem dX2_landfall_26 : decode cX2_landfall 26 = .ok (.iload_n 1, 1) := by decide +kernel
theorem dX2_landfall_27 : decode cX2_landfall 27 = .ok (.aaload, 1) := by decide +kernel
theorem dX2_landfall_28 : decode cX2_landfall 28 = .ok (.invokevirtual 174, 3) := by decide +kernel
theorem dX2_landfall_31 : decode cX2_landfall 31 = .ok (.aload_n 0, 1) := by decide +kernel
theorem dX2_landfall_32 : decode cX2_landfall 32 = .ok (.aload_n 0, 1) := by decide +kernel
theorem dX2_landfall_33 : decode cX2_landfall 33 = .ok (.getfield 37, 3) := by decide +kernel
theorem dX2_landfall_36 : decode cX2_landfall 36 = .ok (.iload_n 1, 1) := by decide +kernel
theorem dX2_landfall_37 : decode cX2_landfall 37 = .ok (.aaload, 1) := by decide +kernel
theorem dX2_landfall_38 : decode cX2_landfall 38 = .ok (.invokevirtual 189, 3) := by decide +kernel
theorem dX2_landfall_41 : decode cX2_landfall 41 = .ok (.istore_n 3, 1) := by decide +kernel
theorem dX2_landfall_42 : decode cX2_landfall 42 = .ok (.iload_n 3, 1) := by decide +kernel
theorem dX2_landfall_43 : decode cX2_landfall 43 = .ok (.ifCond .ne 6, 3) := by decide +kernel
theorem dX2_landfall_46 : decode cX2_landfall 46 = .ok (.ldc 161, 2) := by decide +kernel
theorem dX2_landfall_48 : decode cX2_landfall 48 = .ok (.ireturn, 1) := by decide +kernel
theorem dX2_landfall_49 : decode cX2_landfall 49 = .ok (.iload_n 2, 1) := by decide +kernel
theorem dX2_landfall_50 : decode cX2_landfall 50 = .ok (.ifCond .ne 11, 3) := by decide +kernel
theorem dX2_landfall_53 : decode cX2_landfall 53 = .ok (.aload_n 0, 1) := by decide +kernel
theorem dX2_landfall_54 : decode cX2_landfall 54 = .ok (.iload_n 3, 1) := by decide +kernel
theorem dX2_landfall_55 : decode cX2_landfall 55 = .ok (.invokevirtual 193, 3) := by decide +kernel
theorem dX2_landfall_58 : decode cX2_landfall 58 = .ok (.goto 8, 3) := by decide +kernel
theorem dX2_landfall_61 : decode cX2_landfall 61 = .ok (.aload_n 0, 1) := by decide +kernel
theorem dX2_landfall_62 : decode cX2_landfall 62 = .ok (.iload_n 3, 1) := by decide +kernel
theorem dX2_landfall_63 : decode cX2_landfall 63 = .ok (.invokevirtual 196, 3) := by decide +kernel
theorem dX2_landfall_66 : decode cX2_landfall 66 = .ok (.ireturn, 1) := by decide +kernel
theorem dX2_suspect_0 : decode cX2_suspect 0 = .ok (.iload_n 1, 1) := by decide +kernel
theorem dX2_suspect_1 : decode cX2_suspect 1 = .ok (.invokestatic 64, 3) := by decide +kernel
theorem dX2_suspect_4 : decode cX2_suspect 4 = .ok (.ifCond .eq 5, 3) := by decide +kernel
theorem dX2_suspect_7 : decode cX2_suspect 7 = .ok (.iconst (-1), 1) := by decide +kernel
theorem dX2_suspect_8 : decode cX2_suspect 8 = .ok (.ireturn, 1) := by decide +kernel
theorem dX2_suspect_9 : decode cX2_suspect 9 = .ok (.aload_n 0, 1) := by decide +kernel
theorem dX2_suspect_10 : decode cX2_suspect 10 = .ok (.iload_n 1, 1) := by decide +kernel
theorem dX2_suspect_11 : decode cX2_suspect 11 = .ok (.invokevirtual 199, 3) := by decide +kernel
theorem dX2_suspect_14 : decode cX2_suspect 14 = .ok (.ireturn, 1) := by decide +kernel
theorem dX2_worst_0 : decode cX2_worst 0 = .ok (.iload_n 1, 1) := by decide +kernel
theorem dX2_worst_1 : decode cX2_worst 1 = .ok (.iconst 0, 1) := by decide +kernel
theorem dX2_worst_2 : decode cX2_worst 2 = .ok (.iconst 1, 1) := by decide +kernel
theorem dX2_worst_3 : decode cX2_worst 3 = .ok (.invokestatic 87, 3) := by decide +kernel
theorem dX2_worst_6 : decode cX2_worst 6 = .ok (.ifCond .eq 6, 3) := by decide +kernel
theorem dX2_worst_9 : decode cX2_worst 9 = .ok (.bipush (-2), 2) := by decide +kernel
theorem dX2_worst_11 : decode cX2_worst 11 = .ok (.ireturn, 1) := by decide +kernel
theorem dX2_worst_12 : decode cX2_worst 12 = .ok (.iconst 0, 1) := by decide +kernel
theorem dX2_worst_13 : decode cX2_worst 13 = .ok (.istore_n 2, 1) := by decide +kernel
theorem dX2_worst_14 : decode cX2_worst 14 = .ok (.iconst 0, 1) := by decide +kernel
theorem dX2_worst_15 : decode cX2_worst 15 = .ok (.istore_n 3, 1) := by decide +kernel
theorem dX2_worst_16 : decode cX2_worst 16 = .ok (.iconst 0, 1) := by decide +kernel
theorem dX2_worst_17 : decode cX2_worst 17 = .ok (.istore 4, 2) := by decide +kernel
theorem dX2_worst_19 : decode cX2_worst 19 = .ok (.iload 4, 2) := by decide +kernel
theorem dX2_worst_21 : decode cX2_worst 21 = .ok (.bipush 20, 2) := by decide +kernel
theorem dX2_worst_23 : decode cX2_worst 23 = .ok (.if_icmp .ge 29, 3) := by decide +kernel
theorem dX2_worst_26 : decode cX2_worst 26 = .ok (.aload_n 0, 1) := by decide +kernel
theorem dX2_worst_27 : decode cX2_worst 27 = .ok (.iload 4, 2) := by decide +kernel
theorem dX2_worst_29 : decode cX2_worst 29 = .ok (.invokevirtual 199, 3) := by decide +kernel
theorem dX2_worst_32 : decode cX2_worst 32 = .ok (.istore 5, 2) := by decide +kernel
theorem dX2_worst_34 : decode cX2_worst 34 = .ok (.iload 5, 2) := by decide +kernel
theorem dX2_worst_36 : decode cX2_worst 36 = .ok (.iload_n 3, 1) := by decide +kernel
theorem dX2_worst_37 : decode cX2_worst 37 = .ok (.if_icmp .le 9, 3) := by decide +kernel
theorem dX2_worst_40 : decode cX2_worst 40 = .ok (.iload 5, 2) := by decide +kernel
theorem dX2_worst_42 : decode cX2_worst 42 = .ok (.istore_n 3, 1) := by decide +kernel
theorem dX2_worst_43 : decode cX2_worst 43 = .ok (.iload 4, 2) := by decide +kernel
theorem dX2_worst_45 : decode cX2_worst 45 = .ok (.istore_n 2, 1) := by decide +kernel
theorem dX2_worst_46 : decode cX2_worst 46 = .ok (.iinc 4 1, 3) := by decide +kernel
theorem dX2_worst_49 : decode cX2_worst 49 = .ok (.goto (-30), 3) := by decide +kernel
theorem dX2_worst_52 : decode cX2_worst 52 = .ok (.iload_n 1, 1) := by decide +kernel
theorem dX2_worst_53 : decode cX2_worst 53 = .ok (.ifCond .ne 7, 3) := by decide +kernel
theorem dX2_worst_56 : decode cX2_worst 56 = .ok (.iload_n 2, 1) := by decide +kernel
theorem dX2_worst_57 : decode cX2_worst 57 = .ok (.goto 4, 3) := by decide +kernel
theorem dX2_worst_60 : decode cX2_worst 60 = .ok (.iload_n 3, 1) := by decide +kernel
theorem dX2_worst_61 : decode cX2_worst 61 = .ok (.ireturn, 1) := by decide +kernel
theorem dX2_slipped_0 : decode cX2_slipped 0 = .ok (.iload_n 1, 1) := by decide +kernel
theorem dX2_slipped_1 : decode cX2_slipped 1 = .ok (.invokestatic 64, 3) := by decide +kernel
theorem dX2_slipped_4 : decode cX2_slipped 4 = .ok (.ifCond .eq 6, 3) := by decide +kernel
theorem dX2_slipped_7 : decode cX2_slipped 7 = .ok (.ldc 91, 2) := by decide +kernel
theorem dX2_slipped_9 : decode cX2_slipped 9 = .ok (.ireturn, 1) := by decide +kernel
theorem dX2_slipped_10 : decode cX2_slipped 10 = .ok (.iload_n 2, 1) := by decide +kernel
theorem dX2_slipped_11 : decode cX2_slipped 11 = .ok (.invokestatic 92, 3) := by decide +kernel
theorem dX2_slipped_14 : decode cX2_slipped 14 = .ok (.ifCond .eq 6, 3) := by decide +kernel
theorem dX2_slipped_17 : decode cX2_slipped 17 = .ok (.ldc 95, 2) := by decide +kernel
theorem dX2_slipped_19 : decode cX2_slipped 19 = .ok (.ireturn, 1) := by decide +kernel
theorem dX2_slipped_20 : decode cX2_slipped 20 = .ok (.iload_n 2, 1) := by decide +kernel
theorem dX2_slipped_21 : decode cX2_slipped 21 = .ok (.ifCond .ne 14, 3) := by decide +kernel
theorem dX2_slipped_24 : decode cX2_slipped 24 = .ok (.aload_n 0, 1) := by decide +kernel
theorem dX2_slipped_25 : decode cX2_slipped 25 = .ok (.iload_n 1, 1) := by decide +kernel
theorem dX2_slipped_26 : decode cX2_slipped 26 = .ok (.bipush (-60), 2) := by decide +kernel
theorem dX2_slipped_28 : decode cX2_slipped 28 = .ok (.iconst 1, 1) := by decide +kernel
theorem dX2_slipped_29 : decode cX2_slipped 29 = .ok (.invokevirtual 202, 3) := by decide +kernel
theorem dX2_slipped_32 : decode cX2_slipped 32 = .ok (.goto 11, 3) := by decide +kernel
theorem dX2_slipped_35 : decode cX2_slipped 35 = .ok (.aload_n 0, 1) := by decide +kernel
theorem dX2_slipped_36 : decode cX2_slipped 36 = .ok (.iload_n 1, 1) := by decide +kernel
theorem dX2_slipped_37 : decode cX2_slipped 37 = .ok (.bipush 60, 2) := by decide +kernel
theorem dX2_slipped_39 : decode cX2_slipped 39 = .ok (.iconst (-1), 1) := by decide +kernel
theorem dX2_slipped_40 : decode cX2_slipped 40 = .ok (.invokevirtual 202, 3) := by decide +kernel
theorem dX2_slipped_43 : decode cX2_slipped 43 = .ok (.istore_n 3, 1) := by decide +kernel
theorem dX2_slipped_44 : decode cX2_slipped 44 = .ok (.iload_n 3, 1) := by decide +kernel
theorem dX2_slipped_45 : decode cX2_slipped 45 = .ok (.bipush 60, 2) := by decide +kernel
theorem dX2_slipped_47 : decode cX2_slipped 47 = .ok (.invokestatic 68, 3) := by decide +kernel
theorem dX2_slipped_50 : decode cX2_slipped 50 = .ok (.ifCond .eq 8, 3) := by decide +kernel
theorem dX2_slipped_53 : decode cX2_slipped 53 = .ok (.ldc 206, 2) := by decide +kernel
theorem dX2_slipped_55 : decode cX2_slipped 55 = .ok (.goto 4, 3) := by decide +kernel
theorem dX2_slipped_58 : decode cX2_slipped 58 = .ok (.iload_n 3, 1) := by decide +kernel
theorem dX2_slipped_59 : decode cX2_slipped 59 = .ok (.ireturn, 1) := by decide +kernel
theorem dX2_ask_0 : decode cX2_ask 0 = .ok (.iload_n 1, 1) := by decide +kernel
theorem dX2_ask_1 : decode cX2_ask 1 = .ok (.invokestatic 64, 3) := by decide +kernel
theorem dX2_ask_4 : decode cX2_ask 4 = .ok (.ifCond .eq 5, 3) := by decide +kernel
theorem dX2_ask_7 : decode cX2_ask 7 = .ok (.iconst (-1), 1) := by decide +kernel
theorem dX2_ask_8 : decode cX2_ask 8 = .ok (.ireturn, 1) := by decide +kernel
theorem dX2_ask_9 : decode cX2_ask 9 = .ok (.bipush (-6), 2) := by decide +kernel
theorem dX2_ask_11 : decode cX2_ask 11 = .ok (.istore_n 2, 1) := by decide +kernel
theorem dX2_ask_12 : decode cX2_ask 12 = .ok (.iconst 0, 1) := by decide +kernel
theorem dX2_ask_13 : decode cX2_ask 13 = .ok (.istore_n 3, 1) := by decide +kernel
theorem dX2_ask_14 : decode cX2_ask 14 = .ok (.iconst 0, 1) := by decide +kernel
theorem dX2_ask_15 : decode cX2_ask 15 = .ok (.istore 4, 2) := by decide +kernel
theorem dX2_ask_17 : decode cX2_ask 17 = .ok (.iload 4, 2) := by decide +kernel
theorem dX2_ask_19 : decode cX2_ask 19 = .ok (.aload_n 0, 1) := by decide +kernel
theorem dX2_ask_20 : decode cX2_ask 20 = .ok (.getfield 126, 3) := by decide +kernel
theorem dX2_ask_23 : decode cX2_ask 23 = .ok (.if_icmp .ge 101, 3) := by decide +kernel
theorem dX2_ask_26 : decode cX2_ask 26 = .ok (.iconst 0, 1) := by decide +kernel
theorem dX2_ask_27 : decode cX2_ask 27 = .ok (.istore 5, 2) := by decide +kernel
theorem dX2_ask_29 : decode cX2_ask 29 = .ok (.iload 5, 2) := by decide +kernel
theorem dX2_ask_31 : decode cX2_ask 31 = .ok (.iconst 3, 1) := by decide +kernel
theorem dX2_ask_32 : decode cX2_ask 32 = .ok (.if_icmp .ge 86, 3) := by decide +kernel
theorem dX2_ask_35 : decode cX2_ask 35 = .ok (.aload_n 0, 1) := by decide +kernel
theorem dX2_ask_36 : decode cX2_ask 36 = .ok (.aload_n 0, 1) := by decide +kernel
theorem dX2_ask_37 : decode cX2_ask 37 = .ok (.getfield 37, 3) := by decide +kernel
theorem dX2_ask_40 : decode cX2_ask 40 = .ok (.iload 4, 2) := by decide +kernel
theorem dX2_ask_42 : decode cX2_ask 42 = .ok (.aaload, 1) := by decide +kernel
theorem dX2_ask_43 : decode cX2_ask 43 = .ok (.iload 5, 2) := by decide +kernel
theorem dX2_ask_45 : decode cX2_ask 45 = .ok (.invokevirtual 207, 3) := by decide +kernel
theorem dX2_ask_48 : decode cX2_ask 48 = .ok (.ifCond .eq 64, 3) := by decide +kernel
theorem dX2_ask_51 : decode cX2_ask 51 = .ok (.aload_n 0, 1) := by decide +kernel
theorem dX2_ask_52 : decode cX2_ask 52 = .ok (.aload_n 0, 1) := by decide +kernel
theorem dX2_ask_53 : decode cX2_ask 53 = .ok (.getfield 37, 3) := by decide +kernel
theorem dX2_ask_56 : decode cX2_ask 56 = .ok (.iload 4, 2) := by decide +kernel
theorem dX2_ask_58 : decode cX2_ask 58 = .ok (.aaload, 1) := by decide +kernel
theorem dX2_ask_59 : decode cX2_ask 59 = .ok (.iload 5, 2) := by decide +kernel
theorem dX2_ask_61 : decode cX2_ask 61 = .ok (.invokevirtual 157, 3) := by decide +kernel
theorem dX2_ask_64 : decode cX2_ask 64 = .ok (.ifCond .eq 48, 3) := by decide +kernel
theorem dX2_ask_67 : decode cX2_ask 67 = .ok (.aload_n 0, 1) := by decide +kernel
theorem dX2_ask_68 : decode cX2_ask 68 = .ok (.getfield 19, 3) := by decide +kernel
theorem dX2_ask_71 : decode cX2_ask 71 = .ok (.getfield 99, 3) := by decide +kernel
theorem dX2_ask_74 : decode cX2_ask 74 = .ok (.iload_n 1, 1) := by decide +kernel
theorem dX2_ask_75 : decode cX2_ask 75 = .ok (.iaload, 1) := by decide +kernel
theorem dX2_ask_76 : decode cX2_ask 76 = .ok (.aload_n 0, 1) := by decide +kernel
theorem dX2_ask_77 : decode cX2_ask 77 = .ok (.getfield 19, 3) := by decide +kernel
theorem dX2_ask_80 : decode cX2_ask 80 = .ok (.getfield 96, 3) := by decide +kernel
theorem dX2_ask_83 : decode cX2_ask 83 = .ok (.iload_n 1, 1) := by decide +kernel
theorem dX2_ask_84 : decode cX2_ask 84 = .ok (.iaload, 1) := by decide +kernel
theorem dX2_ask_85 : decode cX2_ask 85 = .ok (.isub, 1) := by decide +kernel
theorem dX2_ask_86 : decode cX2_ask 86 = .ok (.istore 6, 2) := by decide +kernel
theorem dX2_ask_88 : decode cX2_ask 88 = .ok (.iload_n 2, 1) := by decide +kernel
theorem dX2_ask_89 : decode cX2_ask 89 = .ok (.bipush (-6), 2) := by decide +kernel
theorem dX2_ask_91 : decode cX2_ask 91 = .ok (.if_icmp .eq 9, 3) := by decide +kernel
theorem dX2_ask_94 : decode cX2_ask 94 = .ok (.iload 6, 2) := by decide +kernel
theorem dX2_ask_96 : decode cX2_ask 96 = .ok (.iload_n 3, 1) := by decide +kernel
theorem dX2_ask_97 : decode cX2_ask 97 = .ok (.if_icmp .ge 15, 3) := by decide +kernel
theorem dX2_ask_100 : decode cX2_ask 100 = .ok (.bipush 10, 2) := by decide +kernel
theorem dX2_ask_102 : decode cX2_ask 102 = .ok (.iload 4, 2) := by decide +kernel
theorem dX2_ask_104 : decode cX2_ask 104 = .ok (.imul, 1) := by decide +kernel
theorem dX2_ask_105 : decode cX2_ask 105 = .ok (.iload 5, 2) := by decide +kernel
theorem dX2_ask_107 : decode cX2_ask 107 = .ok (.iadd, 1) := by decide +kernel
theorem dX2_ask_108 : decode cX2_ask 108 = .ok (.istore_n 2, 1) := by decide +kernel
theorem dX2_ask_109 : decode cX2_ask 109 = .ok (.iload 6, 2) := by decide +kernel
theorem dX2_ask_111 : decode cX2_ask 111 = .ok (.istore_n 3, 1) := by decide +kernel
theorem dX2_ask_112 : decode cX2_ask 112 = .ok (.iinc 5 1, 3) := by decide +kernel
theorem dX2_ask_115 : decode cX2_ask 115 = .ok (.goto (-86), 3) := by decide +kernel
theorem dX2_ask_118 : decode cX2_ask 118 = .ok (.iinc 4 1, 3) := by decide +kernel
theorem dX2_ask_121 : decode cX2_ask 121 = .ok (.goto (-104), 3) := by decide +kernel
theorem dX2_ask_124 : decode cX2_ask 124 = .ok (.iload_n 2, 1) := by decide +kernel
theorem dX2_ask_125 : decode cX2_ask 125 = .ok (.ireturn, 1) := by decide +kernel
theorem dX2_carry_0 : decode cX2_carry 0 = .ok (.iload_n 1, 1) := by decide +kernel
theorem dX2_carry_1 : decode cX2_carry 1 = .ok (.iconst 0, 1) := by decide +kernel
theorem dX2_carry_2 : decode cX2_carry 2 = .ok (.iconst 3, 1) := by decide +kernel
theorem dX2_carry_3 : decode cX2_carry 3 = .ok (.invokestatic 87, 3) := by decide +kernel
theorem dX2_carry_6 : decode cX2_carry 6 = .ok (.ifCond .ne 20, 3) := by decide +kernel
theorem dX2_carry_9 : decode cX2_carry 9 = .ok (.aload_n 0, 1) := by decide +kernel
theorem dX2_carry_10 : decode cX2_carry 10 = .ok (.iload_n 2, 1) := by decide +kernel
theorem dX2_carry_11 : decode cX2_carry 11 = .ok (.iload_n 3, 1) := by decide +kernel
theorem dX2_carry_12 : decode cX2_carry 12 = .ok (.invokevirtual 129, 3) := by decide +kernel
theorem dX2_carry_15 : decode cX2_carry 15 = .ok (.ifCond .ne 11, 3) := by decide +kernel
theorem dX2_carry_18 : decode cX2_carry 18 = .ok (.iload 4, 2) := by decide +kernel
theorem dX2_carry_20 : decode cX2_carry 20 = .ok (.invokestatic 64, 3) := by decide +kernel
theorem dX2_carry_23 : decode cX2_carry 23 = .ok (.ifCond .eq 5, 3) := by decide +kernel
theorem dX2_carry_26 : decode cX2_carry 26 = .ok (.iconst (-1), 1) := by decide +kernel
theorem dX2_carry_27 : decode cX2_carry 27 = .ok (.ireturn, 1) := by decide +kernel
theorem dX2_carry_28 : decode cX2_carry 28 = .ok (.iload 5, 2) := by decide +kernel
theorem dX2_carry_30 : decode cX2_carry 30 = .ok (.sipush 9999, 3) := by decide +kernel
theorem dX2_carry_33 : decode cX2_carry 33 = .ok (.invokestatic 68, 3) := by decide +kernel
theorem dX2_carry_36 : decode cX2_carry 36 = .ok (.ifCond .eq 6, 3) := by decide +kernel
theorem dX2_carry_39 : decode cX2_carry 39 = .ok (.bipush (-2), 2) := by decide +kernel
theorem dX2_carry_41 : decode cX2_carry 41 = .ok (.ireturn, 1) := by decide +kernel
theorem dX2_carry_42 : decode cX2_carry 42 = .ok (.aload_n 0, 1) := by decide +kernel
theorem dX2_carry_43 : decode cX2_carry 43 = .ok (.aload_n 0, 1) := by decide +kernel
theorem dX2_carry_44 : decode cX2_carry 44 = .ok (.getfield 37, 3) := by decide +kernel
theorem dX2_carry_47 : decode cX2_carry 47 = .ok (.iload_n 2, 1) := by decide +kernel
theorem dX2_carry_48 : decode cX2_carry 48 = .ok (.aaload, 1) := by decide +kernel
theorem dX2_carry_49 : decode cX2_carry 49 = .ok (.iload_n 3, 1) := by decide +kernel
theorem dX2_carry_50 : decode cX2_carry 50 = .ok (.invokevirtual 157, 3) := by decide +kernel
theorem dX2_carry_53 : decode cX2_carry 53 = .ok (.ifCond .ne 6, 3) := by decide +kernel
theorem dX2_carry_56 : decode cX2_carry 56 = .ok (.bipush (-3), 2) := by decide +kernel
theorem dX2_carry_58 : decode cX2_carry 58 = .ok (.ireturn, 1) := by decide +kernel
theorem dX2_carry_59 : decode cX2_carry 59 = .ok (.aload_n 0, 1) := by decide +kernel
theorem dX2_carry_60 : decode cX2_carry 60 = .ok (.getfield 41, 3) := by decide +kernel
theorem dX2_carry_63 : decode cX2_carry 63 = .ok (.iload_n 1, 1) := by decide +kernel
theorem dX2_carry_64 : decode cX2_carry 64 = .ok (.iaload, 1) := by decide +kernel
theorem dX2_carry_65 : decode cX2_carry 65 = .ok (.iload 5, 2) := by decide +kernel
theorem dX2_carry_67 : decode cX2_carry 67 = .ok (.aload_n 0, 1) := by decide +kernel
theorem dX2_carry_68 : decode cX2_carry 68 = .ok (.getfield 19, 3) := by decide +kernel
theorem dX2_carry_71 : decode cX2_carry 71 = .ok (.getfield 99, 3) := by decide +kernel
theorem dX2_carry_74 : decode cX2_carry 74 = .ok (.iload 4, 2) := by decide +kernel
theorem dX2_carry_76 : decode cX2_carry 76 = .ok (.iaload, 1) := by decide +kernel
theorem dX2_carry_77 : decode cX2_carry 77 = .ok (.isub, 1) := by decide +kernel
theorem dX2_carry_78 : decode cX2_carry 78 = .ok (.iconst 2, 1) := by decide +kernel
theorem dX2_carry_79 : decode cX2_carry 79 = .ok (.isub, 1) := by decide +kernel
theorem dX2_carry_80 : decode cX2_carry 80 = .ok (.invokestatic 210, 3) := by decide +kernel
theorem dX2_carry_83 : decode cX2_carry 83 = .ok (.istore 6, 2) := by decide +kernel
theorem dX2_carry_85 : decode cX2_carry 85 = .ok (.aload_n 0, 1) := by decide +kernel
theorem dX2_carry_86 : decode cX2_carry 86 = .ok (.getfield 44, 3) := by decide +kernel
theorem dX2_carry_89 : decode cX2_carry 89 = .ok (.iload_n 1, 1) := by decide +kernel
theorem dX2_carry_90 : decode cX2_carry 90 = .ok (.iaload, 1) := by decide +kernel
theorem dX2_carry_91 : decode cX2_carry 91 = .ok (.iload 5, 2) := by decide +kernel
theorem dX2_carry_93 : decode cX2_carry 93 = .ok (.aload_n 0, 1) := by decide +kernel
theorem dX2_carry_94 : decode cX2_carry 94 = .ok (.getfield 19, 3) := by decide +kernel
theorem dX2_carry_97 : decode cX2_carry 97 = .ok (.getfield 96, 3) := by decide +kernel
theorem dX2_carry_100 : decode cX2_carry 100 = .ok (.iload 4, 2) := by decide +kernel
theorem dX2_carry_102 : decode cX2_carry 102 = .ok (.iaload, 1) := by decide +kernel
theorem dX2_carry_103 : decode cX2_carry 103 = .ok (.isub, 1) := by decide +kernel
theorem dX2_carry_104 : decode cX2_carry 104 = .ok (.iconst 2, 1) := by decide +kernel
theorem dX2_carry_105 : decode cX2_carry 105 = .ok (.iadd, 1) := by decide +kernel
theorem dX2_carry_106 : decode cX2_carry 106 = .ok (.invokestatic 215, 3) := by decide +kernel
theorem dX2_carry_109 : decode cX2_carry 109 = .ok (.istore 7, 2) := by decide +kernel
theorem dX2_carry_111 : decode cX2_carry 111 = .ok (.iload 6, 2) := by decide +kernel
theorem dX2_carry_113 : decode cX2_carry 113 = .ok (.iload 7, 2) := by decide +kernel
theorem dX2_carry_115 : decode cX2_carry 115 = .ok (.if_icmp .le 6, 3) := by decide +kernel
theorem dX2_carry_118 : decode cX2_carry 118 = .ok (.bipush (-5), 2) := by decide +kernel
theorem dX2_carry_120 : decode cX2_carry 120 = .ok (.ireturn, 1) := by decide +kernel
theorem dX2_carry_121 : decode cX2_carry 121 = .ok (.aload_n 0, 1) := by decide +kernel
theorem dX2_carry_122 : decode cX2_carry 122 = .ok (.getfield 41, 3) := by decide +kernel
theorem dX2_carry_125 : decode cX2_carry 125 = .ok (.iload_n 1, 1) := by decide +kernel
theorem dX2_carry_126 : decode cX2_carry 126 = .ok (.iload 6, 2) := by decide +kernel
theorem dX2_carry_128 : decode cX2_carry 128 = .ok (.iastore, 1) := by decide +kernel
theorem dX2_carry_129 : decode cX2_carry 129 = .ok (.aload_n 0, 1) := by decide +kernel
theorem dX2_carry_130 : decode cX2_carry 130 = .ok (.getfield 44, 3) := by decide +kernel
theorem dX2_carry_133 : decode cX2_carry 133 = .ok (.iload_n 1, 1) := by decide +kernel
theorem dX2_carry_134 : decode cX2_carry 134 = .ok (.iload 7, 2) := by decide +kernel
theorem dX2_carry_136 : decode cX2_carry 136 = .ok (.iastore, 1) := by decide +kernel
theorem dX2_carry_137 : decode cX2_carry 137 = .ok (.iconst 1, 1) := by decide +kernel
theorem dX2_carry_138 : decode cX2_carry 138 = .ok (.ireturn, 1) := by decide +kernel
theorem dX2_port_0 : decode cX2_port 0 = .ok (.iload_n 1, 1) := by decide +kernel
theorem dX2_port_1 : decode cX2_port 1 = .ok (.iconst 0, 1) := by decide +kernel
theorem dX2_port_2 : decode cX2_port 2 = .ok (.iconst 3, 1) := by decide +kernel
theorem dX2_port_3 : decode cX2_port 3 = .ok (.invokestatic 87, 3) := by decide +kernel
theorem dX2_port_6 : decode cX2_port 6 = .ok (.ifCond .eq 6, 3) := by decide +kernel
theorem dX2_port_9 : decode cX2_port 9 = .ok (.ldc 91, 2) := by decide +kernel
theorem dX2_port_11 : decode cX2_port 11 = .ok (.ireturn, 1) := by decide +kernel
theorem dX2_port_12 : decode cX2_port 12 = .ok (.iload_n 2, 1) := by decide +kernel
theorem dX2_port_13 : decode cX2_port 13 = .ok (.invokestatic 92, 3) := by decide +kernel
theorem dX2_port_16 : decode cX2_port 16 = .ok (.ifCond .eq 6, 3) := by decide +kernel
theorem dX2_port_19 : decode cX2_port 19 = .ok (.ldc 95, 2) := by decide +kernel
theorem dX2_port_21 : decode cX2_port 21 = .ok (.ireturn, 1) := by decide +kernel
theorem dX2_port_22 : decode cX2_port 22 = .ok (.iload_n 2, 1) := by decide +kernel
theorem dX2_port_23 : decode cX2_port 23 = .ok (.ifCond .ne 12, 3) := by decide +kernel
theorem dX2_port_26 : decode cX2_port 26 = .ok (.aload_n 0, 1) := by decide +kernel
theorem dX2_port_27 : decode cX2_port 27 = .ok (.getfield 41, 3) := by decide +kernel
theorem dX2_port_30 : decode cX2_port 30 = .ok (.iload_n 1, 1) := by decide +kernel
theorem dX2_port_31 : decode cX2_port 31 = .ok (.iaload, 1) := by decide +kernel
theorem dX2_port_32 : decode cX2_port 32 = .ok (.goto 9, 3) := by decide +kernel
theorem dX2_port_35 : decode cX2_port 35 = .ok (.aload_n 0, 1) := by decide +kernel
theorem dX2_port_36 : decode cX2_port 36 = .ok (.getfield 44, 3) := by decide +kernel
theorem dX2_port_39 : decode cX2_port 39 = .ok (.iload_n 1, 1) := by decide +kernel
theorem dX2_port_40 : decode cX2_port 40 = .ok (.iaload, 1) := by decide +kernel
theorem dX2_port_41 : decode cX2_port 41 = .ok (.ireturn, 1) := by decide +kernel
theorem dX2_told_0 : decode cX2_told 0 = .ok (.iload_n 1, 1) := by decide +kernel
theorem dX2_told_1 : decode cX2_told 1 = .ok (.tableswitch 94 0 7 #[47, 52, 57, 62, 67, 67, 67, 67], 47) := by decide +kernel
theorem dX2_told_48 : decode cX2_told 48 = .ok (.aload_n 0, 1) := by decide +kernel
theorem dX2_told_49 : decode cX2_told 49 = .ok (.getfield 72, 3) := by decide +kernel
theorem dX2_told_52 : decode cX2_told 52 = .ok (.ireturn, 1) := by decide +kernel
theorem dX2_told_53 : decode cX2_told 53 = .ok (.aload_n 0, 1) := by decide +kernel
theorem dX2_told_54 : decode cX2_told 54 = .ok (.getfield 126, 3) := by decide +kernel
theorem dX2_told_57 : decode cX2_told 57 = .ok (.ireturn, 1) := by decide +kernel
theorem dX2_told_58 : decode cX2_told 58 = .ok (.aload_n 0, 1) := by decide +kernel
theorem dX2_told_59 : decode cX2_told 59 = .ok (.getfield 53, 3) := by decide +kernel
theorem dX2_told_62 : decode cX2_told 62 = .ok (.ireturn, 1) := by decide +kernel
theorem dX2_told_63 : decode cX2_told 63 = .ok (.aload_n 0, 1) := by decide +kernel
theorem dX2_told_64 : decode cX2_told 64 = .ok (.getfield 108, 3) := by decide +kernel
theorem dX2_told_67 : decode cX2_told 67 = .ok (.ireturn, 1) := by decide +kernel
theorem dX2_told_68 : decode cX2_told 68 = .ok (.aload_n 0, 1) := by decide +kernel
theorem dX2_told_69 : decode cX2_told 69 = .ok (.iload_n 1, 1) := by decide +kernel
theorem dX2_told_70 : decode cX2_told 70 = .ok (.iconst 4, 1) := by decide +kernel
theorem dX2_told_71 : decode cX2_told 71 = .ok (.isub, 1) := by decide +kernel
theorem dX2_told_72 : decode cX2_told 72 = .ok (.invokevirtual 142, 3) := by decide +kernel
theorem dX2_told_75 : decode cX2_told 75 = .ok (.ifCond .eq 8, 3) := by decide +kernel
theorem dX2_told_78 : decode cX2_told 78 = .ok (.bipush (-6), 2) := by decide +kernel
theorem dX2_told_80 : decode cX2_told 80 = .ok (.goto 14, 3) := by decide +kernel
theorem dX2_told_83 : decode cX2_told 83 = .ok (.aload_n 0, 1) := by decide +kernel
theorem dX2_told_84 : decode cX2_told 84 = .ok (.getfield 37, 3) := by decide +kernel
theorem dX2_told_87 : decode cX2_told 87 = .ok (.iload_n 1, 1) := by decide +kernel
theorem dX2_told_88 : decode cX2_told 88 = .ok (.iconst 4, 1) := by decide +kernel
theorem dX2_told_89 : decode cX2_told 89 = .ok (.isub, 1) := by decide +kernel
theorem dX2_told_90 : decode cX2_told 90 = .ok (.aaload, 1) := by decide +kernel
theorem dX2_told_91 : decode cX2_told 91 = .ok (.getfield 145, 3) := by decide +kernel
theorem dX2_told_94 : decode cX2_told 94 = .ok (.ireturn, 1) := by decide +kernel
theorem dX2_told_95 : decode cX2_told 95 = .ok (.bipush (-2), 2) := by decide +kernel
theorem dX2_told_97 : decode cX2_told 97 = .ok (.ireturn, 1) := by decide +kernel
theorem dX2_outside_0 : decode cX2_outside 0 = .ok (.iload_n 0, 1) := by decide +kernel
theorem dX2_outside_1 : decode cX2_outside 1 = .ok (.iload_n 1, 1) := by decide +kernel
theorem dX2_outside_2 : decode cX2_outside 2 = .ok (.if_icmp .lt 8, 3) := by decide +kernel
theorem dX2_outside_5 : decode cX2_outside 5 = .ok (.iload_n 0, 1) := by decide +kernel
theorem dX2_outside_6 : decode cX2_outside 6 = .ok (.iload_n 2, 1) := by decide +kernel
theorem dX2_outside_7 : decode cX2_outside 7 = .ok (.if_icmp .le 7, 3) := by decide +kernel
theorem dX2_outside_10 : decode cX2_outside 10 = .ok (.iconst 1, 1) := by decide +kernel
theorem dX2_outside_11 : decode cX2_outside 11 = .ok (.goto 4, 3) := by decide +kernel
theorem dX2_outside_14 : decode cX2_outside 14 = .ok (.iconst 0, 1) := by decide +kernel
theorem dX2_outside_15 : decode cX2_outside 15 = .ok (.ireturn, 1) := by decide +kernel
theorem dX2_beyond_0 : decode cX2_beyond 0 = .ok (.iload_n 0, 1) := by decide +kernel
theorem dX2_beyond_1 : decode cX2_beyond 1 = .ok (.iload_n 1, 1) := by decide +kernel
theorem dX2_beyond_2 : decode cX2_beyond 2 = .ok (.ineg, 1) := by decide +kernel
theorem dX2_beyond_3 : decode cX2_beyond 3 = .ok (.if_icmp .lt 8, 3) := by decide +kernel
theorem dX2_beyond_6 : decode cX2_beyond 6 = .ok (.iload_n 0, 1) := by decide +kernel
theorem dX2_beyond_7 : decode cX2_beyond 7 = .ok (.iload_n 1, 1) := by decide +kernel
theorem dX2_beyond_8 : decode cX2_beyond 8 = .ok (.if_icmp .le 7, 3) := by decide +kernel
theorem dX2_beyond_11 : decode cX2_beyond 11 = .ok (.iconst 1, 1) := by decide +kernel
theorem dX2_beyond_12 : decode cX2_beyond 12 = .ok (.goto 4, 3) := by decide +kernel
theorem dX2_beyond_15 : decode cX2_beyond 15 = .ok (.iconst 0, 1) := by decide +kernel
theorem dX2_beyond_16 : decode cX2_beyond 16 = .ok (.ireturn, 1) := by decide +kernel
theorem dX2_noDay_0 : decode cX2_noDay 0 = .ok (.iload_n 0, 1) := by decide +kernel
theorem dX2_noDay_1 : decode cX2_noDay 1 = .ok (.ifCond .lt 9, 3) := by decide +kernel
theorem dX2_noDay_4 : decode cX2_noDay 4 = .ok (.iload_n 0, 1) := by decide +kernel
theorem dX2_noDay_5 : decode cX2_noDay 5 = .ok (.bipush 20, 2) := by decide +kernel
theorem dX2_noDay_7 : decode cX2_noDay 7 = .ok (.if_icmp .lt 7, 3) := by decide +kernel
theorem dX2_noDay_10 : decode cX2_noDay 10 = .ok (.iconst 1, 1) := by decide +kernel
theorem dX2_noDay_11 : decode cX2_noDay 11 = .ok (.goto 4, 3) := by decide +kernel
theorem dX2_noDay_14 : decode cX2_noDay 14 = .ok (.iconst 0, 1) := by decide +kernel
theorem dX2_noDay_15 : decode cX2_noDay 15 = .ok (.ireturn, 1) := by decide +kernel
theorem dX2_noEnd_0 : decode cX2_noEnd 0 = .ok (.iload_n 0, 1) := by decide +kernel
theorem dX2_noEnd_1 : decode cX2_noEnd 1 = .ok (.ifCond .eq 12, 3) := by decide +kernel
theorem dX2_noEnd_4 : decode cX2_noEnd 4 = .ok (.iload_n 0, 1) := by decide +kernel
theorem dX2_noEnd_5 : decode cX2_noEnd 5 = .ok (.iconst 1, 1) := by decide +kernel
theorem dX2_noEnd_6 : decode cX2_noEnd 6 = .ok (.if_icmp .eq 7, 3) := by decide +kernel
theorem dX2_noEnd_9 : decode cX2_noEnd 9 = .ok (.iconst 1, 1) := by decide +kernel
theorem dX2_noEnd_10 : decode cX2_noEnd 10 = .ok (.goto 4, 3) := by decide +kernel
theorem dX2_noEnd_13 : decode cX2_noEnd 13 = .ok (.iconst 0, 1) := by decide +kernel
theorem dX2_noEnd_14 : decode cX2_noEnd 14 = .ok (.ireturn, 1) := by decide +kernel
theorem dX2_noShip_0 : decode cX2_noShip 0 = .ok (.iload_n 1, 1) := by decide +kernel
theorem dX2_noShip_1 : decode cX2_noShip 1 = .ok (.ifCond .lt 11, 3) := by decide +kernel
theorem dX2_noShip_4 : decode cX2_noShip 4 = .ok (.iload_n 1, 1) := by decide +kernel
theorem dX2_noShip_5 : decode cX2_noShip 5 = .ok (.aload_n 0, 1) := by decide +kernel
theorem dX2_noShip_6 : decode cX2_noShip 6 = .ok (.getfield 126, 3) := by decide +kernel
theorem dX2_noShip_9 : decode cX2_noShip 9 = .ok (.if_icmp .lt 7, 3) := by decide +kernel
theorem dX2_noShip_12 : decode cX2_noShip 12 = .ok (.iconst 1, 1) := by decide +kernel
theorem dX2_noShip_13 : decode cX2_noShip 13 = .ok (.goto 4, 3) := by decide +kernel
theorem dX2_noShip_16 : decode cX2_noShip 16 = .ok (.iconst 0, 1) := by decide +kernel
theorem dX2_noShip_17 : decode cX2_noShip 17 = .ok (.ireturn, 1) := by decide +kernel
theorem dX2_noClock_0 : decode cX2_noClock 0 = .ok (.aload_n 0, 1) := by decide +kernel
theorem dX2_noClock_1 : decode cX2_noClock 1 = .ok (.iload_n 1, 1) := by decide +kernel
theorem dX2_noClock_2 : decode cX2_noClock 2 = .ok (.invokevirtual 142, 3) := by decide +kernel
theorem dX2_noClock_5 : decode cX2_noClock 5 = .ok (.ifCond .ne 12, 3) := by decide +kernel
theorem dX2_noClock_8 : decode cX2_noClock 8 = .ok (.iload_n 2, 1) := by decide +kernel
theorem dX2_noClock_9 : decode cX2_noClock 9 = .ok (.ifCond .lt 8, 3) := by decide +kernel
theorem dX2_noClock_12 : decode cX2_noClock 12 = .ok (.iload_n 2, 1) := by decide +kernel
theorem dX2_noClock_13 : decode cX2_noClock 13 = .ok (.iconst 3, 1) := by decide +kernel
theorem dX2_noClock_14 : decode cX2_noClock 14 = .ok (.if_icmp .lt 7, 3) := by decide +kernel
theorem dX2_noClock_17 : decode cX2_noClock 17 = .ok (.iconst 1, 1) := by decide +kernel
theorem dX2_noClock_18 : decode cX2_noClock 18 = .ok (.goto 4, 3) := by decide +kernel
theorem dX2_noClock_21 : decode cX2_noClock 21 = .ok (.iconst 0, 1) := by decide +kernel
theorem dX2_noClock_22 : decode cX2_noClock 22 = .ok (.ireturn, 1) := by decide +kernel
theorem dX2_bitOf_0 : decode cX2_bitOf 0 = .ok (.iload_n 0, 1) := by decide +kernel
theorem dX2_bitOf_1 : decode cX2_bitOf 1 = .ok (.iload_n 1, 1) := by decide +kernel
theorem dX2_bitOf_2 : decode cX2_bitOf 2 = .ok (.ishr, 1) := by decide +kernel
theorem dX2_bitOf_3 : decode cX2_bitOf 3 = .ok (.iconst 1, 1) := by decide +kernel
theorem dX2_bitOf_4 : decode cX2_bitOf 4 = .ok (.iand, 1) := by decide +kernel
theorem dX2_bitOf_5 : decode cX2_bitOf 5 = .ok (.ireturn, 1) := by decide +kernel
theorem dX2_withBit_0 : decode cX2_withBit 0 = .ok (.iload_n 2, 1) := by decide +kernel
theorem dX2_withBit_1 : decode cX2_withBit 1 = .ok (.ifCond .eq 11, 3) := by decide +kernel
theorem dX2_withBit_4 : decode cX2_withBit 4 = .ok (.iload_n 0, 1) := by decide +kernel
theorem dX2_withBit_5 : decode cX2_withBit 5 = .ok (.iconst 1, 1) := by decide +kernel
theorem dX2_withBit_6 : decode cX2_withBit 6 = .ok (.iload_n 1, 1) := by decide +kernel
theorem dX2_withBit_7 : decode cX2_withBit 7 = .ok (.ishl, 1) := by decide +kernel
theorem dX2_withBit_8 : decode cX2_withBit 8 = .ok (.ior, 1) := by decide +kernel
theorem dX2_withBit_9 : decode cX2_withBit 9 = .ok (.goto 10, 3) := by decide +kernel
theorem dX2_withBit_12 : decode cX2_withBit 12 = .ok (.iload_n 0, 1) := by decide +kernel
theorem dX2_withBit_13 : decode cX2_withBit 13 = .ok (.iconst 1, 1) := by decide +kernel
theorem dX2_withBit_14 : decode cX2_withBit 14 = .ok (.iload_n 1, 1) := by decide +kernel
theorem dX2_withBit_15 : decode cX2_withBit 15 = .ok (.ishl, 1) := by decide +kernel
theorem dX2_withBit_16 : decode cX2_withBit 16 = .ok (.iconst (-1), 1) := by decide +kernel
theorem dX2_withBit_17 : decode cX2_withBit 17 = .ok (.ixor, 1) := by decide +kernel
theorem dX2_withBit_18 : decode cX2_withBit 18 = .ok (.iand, 1) := by decide +kernel
theorem dX2_withBit_19 : decode cX2_withBit 19 = .ok (.ireturn, 1) := by decide +kernel
theorem dX2_cutUp_0 : decode cX2_cutUp 0 = .ok (.iload_n 0, 1) := by decide +kernel
theorem dX2_cutUp_1 : decode cX2_cutUp 1 = .ok (.ineg, 1) := by decide +kernel
theorem dX2_cutUp_2 : decode cX2_cutUp 2 = .ok (.iload_n 1, 1) := by decide +kernel
theorem dX2_cutUp_3 : decode cX2_cutUp 3 = .ok (.invokestatic 218, 3) := by decide +kernel
theorem dX2_cutUp_6 : decode cX2_cutUp 6 = .ok (.ineg, 1) := by decide +kernel
theorem dX2_cutUp_7 : decode cX2_cutUp 7 = .ok (.ireturn, 1) := by decide +kernel
theorem dX2_greatestDivisor_0 : decode cX2_greatestDivisor 0 = .ok (.iload_n 0, 1) := by decide +kernel
theorem dX2_greatestDivisor_1 : decode cX2_greatestDivisor 1 = .ok (.istore_n 2, 1) := by decide +kernel
theorem dX2_greatestDivisor_2 : decode cX2_greatestDivisor 2 = .ok (.iload_n 1, 1) := by decide +kernel
theorem dX2_greatestDivisor_3 : decode cX2_greatestDivisor 3 = .ok (.istore_n 3, 1) := by decide +kernel
theorem dX2_greatestDivisor_4 : decode cX2_greatestDivisor 4 = .ok (.iconst 0, 1) := by decide +kernel
theorem dX2_greatestDivisor_5 : decode cX2_greatestDivisor 5 = .ok (.istore 4, 2) := by decide +kernel
theorem dX2_greatestDivisor_7 : decode cX2_greatestDivisor 7 = .ok (.iload 4, 2) := by decide +kernel
theorem dX2_greatestDivisor_9 : decode cX2_greatestDivisor 9 = .ok (.bipush 100, 2) := by decide +kernel
theorem dX2_greatestDivisor_11 : decode cX2_greatestDivisor 11 = .ok (.if_icmp .ge 23, 3) := by decide +kernel
theorem dX2_greatestDivisor_14 : decode cX2_greatestDivisor 14 = .ok (.iload_n 3, 1) := by decide +kernel
theorem dX2_greatestDivisor_15 : decode cX2_greatestDivisor 15 = .ok (.ifCond .eq 19, 3) := by decide +kernel
theorem dX2_greatestDivisor_18 : decode cX2_greatestDivisor 18 = .ok (.iload_n 2, 1) := by decide +kernel
theorem dX2_greatestDivisor_19 : decode cX2_greatestDivisor 19 = .ok (.iload_n 3, 1) := by decide +kernel
theorem dX2_greatestDivisor_20 : decode cX2_greatestDivisor 20 = .ok (.irem, 1) := by decide +kernel
theorem dX2_greatestDivisor_21 : decode cX2_greatestDivisor 21 = .ok (.istore 5, 2) := by decide +kernel
theorem dX2_greatestDivisor_23 : decode cX2_greatestDivisor 23 = .ok (.iload_n 3, 1) := by decide +kernel
theorem dX2_greatestDivisor_24 : decode cX2_greatestDivisor 24 = .ok (.istore_n 2, 1) := by decide +kernel
theorem dX2_greatestDivisor_25 : decode cX2_greatestDivisor 25 = .ok (.iload 5, 2) := by decide +kernel
theorem dX2_greatestDivisor_27 : decode cX2_greatestDivisor 27 = .ok (.istore_n 3, 1) := by decide +kernel
theorem dX2_greatestDivisor_28 : decode cX2_greatestDivisor 28 = .ok (.iinc 4 1, 3) := by decide +kernel
theorem dX2_greatestDivisor_31 : decode cX2_greatestDivisor 31 = .ok (.goto (-24), 3) := by decide +kernel
theorem dX2_greatestDivisor_34 : decode cX2_greatestDivisor 34 = .ok (.iconst 1, 1) := by decide +kernel
theorem dX2_greatestDivisor_35 : decode cX2_greatestDivisor 35 = .ok (.iload_n 2, 1) := by decide +kernel
theorem dX2_greatestDivisor_36 : decode cX2_greatestDivisor 36 = .ok (.invokestatic 210, 3) := by decide +kernel
theorem dX2_greatestDivisor_39 : decode cX2_greatestDivisor 39 = .ok (.ireturn, 1) := by decide +kernel
theorem dX2_middleOff_0 : decode cX2_middleOff 0 = .ok (.aload_n 0, 1) := by decide +kernel
theorem dX2_middleOff_1 : decode cX2_middleOff 1 = .ok (.getfield 10, 3) := by decide +kernel
theorem dX2_middleOff_4 : decode cX2_middleOff 4 = .ok (.getfield 96, 3) := by decide +kernel
theorem dX2_middleOff_7 : decode cX2_middleOff 7 = .ok (.iload_n 1, 1) := by decide +kernel
theorem dX2_middleOff_8 : decode cX2_middleOff 8 = .ok (.iaload, 1) := by decide +kernel
theorem dX2_middleOff_9 : decode cX2_middleOff 9 = .ok (.aload_n 0, 1) := by decide +kernel
theorem dX2_middleOff_10 : decode cX2_middleOff 10 = .ok (.getfield 10, 3) := by decide +kernel
theorem dX2_middleOff_13 : decode cX2_middleOff 13 = .ok (.getfield 99, 3) := by decide +kernel
theorem dX2_middleOff_16 : decode cX2_middleOff 16 = .ok (.iload_n 1, 1) := by decide +kernel
theorem dX2_middleOff_17 : decode cX2_middleOff 17 = .ok (.iaload, 1) := by decide +kernel
theorem dX2_middleOff_18 : decode cX2_middleOff 18 = .ok (.iadd, 1) := by decide +kernel
theorem dX2_middleOff_19 : decode cX2_middleOff 19 = .ok (.iconst 2, 1) := by decide +kernel
theorem dX2_middleOff_20 : decode cX2_middleOff 20 = .ok (.invokestatic 218, 3) := by decide +kernel
theorem dX2_middleOff_23 : decode cX2_middleOff 23 = .ok (.ireturn, 1) := by decide +kernel
theorem dX2_leastLate_0 : decode cX2_leastLate 0 = .ok (.aload_n 0, 1) := by decide +kernel
theorem dX2_leastLate_1 : decode cX2_leastLate 1 = .ok (.iload_n 1, 1) := by decide +kernel
theorem dX2_leastLate_2 : decode cX2_leastLate 2 = .ok (.invokevirtual 221, 3) := by decide +kernel
theorem dX2_leastLate_5 : decode cX2_leastLate 5 = .ok (.aload_n 0, 1) := by decide +kernel
theorem dX2_leastLate_6 : decode cX2_leastLate 6 = .ok (.getfield 10, 3) := by decide +kernel
theorem dX2_leastLate_9 : decode cX2_leastLate 9 = .ok (.getfield 99, 3) := by decide +kernel
theorem dX2_leastLate_12 : decode cX2_leastLate 12 = .ok (.iload_n 1, 1) := by decide +kernel
theorem dX2_leastLate_13 : decode cX2_leastLate 13 = .ok (.iaload, 1) := by decide +kernel
theorem dX2_leastLate_14 : decode cX2_leastLate 14 = .ok (.isub, 1) := by decide +kernel
theorem dX2_leastLate_15 : decode cX2_leastLate 15 = .ok (.aload_n 0, 1) := by decide +kernel
theorem dX2_leastLate_16 : decode cX2_leastLate 16 = .ok (.getfield 22, 3) := by decide +kernel
theorem dX2_leastLate_19 : decode cX2_leastLate 19 = .ok (.iconst 0, 1) := by decide +kernel
theorem dX2_leastLate_20 : decode cX2_leastLate 20 = .ok (.iaload, 1) := by decide +kernel
theorem dX2_leastLate_21 : decode cX2_leastLate 21 = .ok (.iadd, 1) := by decide +kernel
theorem dX2_leastLate_22 : decode cX2_leastLate 22 = .ok (.aload_n 0, 1) := by decide +kernel
theorem dX2_leastLate_23 : decode cX2_leastLate 23 = .ok (.getfield 22, 3) := by decide +kernel
theorem dX2_leastLate_26 : decode cX2_leastLate 26 = .ok (.iconst 1, 1) := by decide +kernel
theorem dX2_leastLate_27 : decode cX2_leastLate 27 = .ok (.iaload, 1) := by decide +kernel
theorem dX2_leastLate_28 : decode cX2_leastLate 28 = .ok (.iadd, 1) := by decide +kernel
theorem dX2_leastLate_29 : decode cX2_leastLate 29 = .ok (.aload_n 0, 1) := by decide +kernel
theorem dX2_leastLate_30 : decode cX2_leastLate 30 = .ok (.getfield 29, 3) := by decide +kernel
theorem dX2_leastLate_33 : decode cX2_leastLate 33 = .ok (.iload_n 1, 1) := by decide +kernel
theorem dX2_leastLate_34 : decode cX2_leastLate 34 = .ok (.iaload, 1) := by decide +kernel
theorem dX2_leastLate_35 : decode cX2_leastLate 35 = .ok (.iadd, 1) := by decide +kernel
theorem dX2_leastLate_36 : decode cX2_leastLate 36 = .ok (.ireturn, 1) := by decide +kernel
theorem dX2_greatestLate_0 : decode cX2_greatestLate 0 = .ok (.aload_n 0, 1) := by decide +kernel
theorem dX2_greatestLate_1 : decode cX2_greatestLate 1 = .ok (.iload_n 1, 1) := by decide +kernel
theorem dX2_greatestLate_2 : decode cX2_greatestLate 2 = .ok (.invokevirtual 221, 3) := by decide +kernel
theorem dX2_greatestLate_5 : decode cX2_greatestLate 5 = .ok (.aload_n 0, 1) := by decide +kernel
theorem dX2_greatestLate_6 : decode cX2_greatestLate 6 = .ok (.getfield 10, 3) := by decide +kernel
theorem dX2_greatestLate_9 : decode cX2_greatestLate 9 = .ok (.getfield 96, 3) := by decide +kernel
theorem dX2_greatestLate_12 : decode cX2_greatestLate 12 = .ok (.iload_n 1, 1) := by decide +kernel
theorem dX2_greatestLate_13 : decode cX2_greatestLate 13 = .ok (.iaload, 1) := by decide +kernel
theorem dX2_greatestLate_14 : decode cX2_greatestLate 14 = .ok (.isub, 1) := by decide +kernel
theorem dX2_greatestLate_15 : decode cX2_greatestLate 15 = .ok (.aload_n 0, 1) := by decide +kernel
theorem dX2_greatestLate_16 : decode cX2_greatestLate 16 = .ok (.getfield 26, 3) := by decide +kernel
theorem dX2_greatestLate_19 : decode cX2_greatestLate 19 = .ok (.iconst 0, 1) := by decide +kernel
theorem dX2_greatestLate_20 : decode cX2_greatestLate 20 = .ok (.iaload, 1) := by decide +kernel
theorem dX2_greatestLate_21 : decode cX2_greatestLate 21 = .ok (.iadd, 1) := by decide +kernel
theorem dX2_greatestLate_22 : decode cX2_greatestLate 22 = .ok (.aload_n 0, 1) := by decide +kernel
theorem dX2_greatestLate_23 : decode cX2_greatestLate 23 = .ok (.getfield 26, 3) := by decide +kernel
theorem dX2_greatestLate_26 : decode cX2_greatestLate 26 = .ok (.iconst 1, 1) := by decide +kernel
theorem dX2_greatestLate_27 : decode cX2_greatestLate 27 = .ok (.iaload, 1) := by decide +kernel
theorem dX2_greatestLate_28 : decode cX2_greatestLate 28 = .ok (.iadd, 1) := by decide +kernel
theorem dX2_greatestLate_29 : decode cX2_greatestLate 29 = .ok (.aload_n 0, 1) := by decide +kernel
theorem dX2_greatestLate_30 : decode cX2_greatestLate 30 = .ok (.getfield 29, 3) := by decide +kernel
theorem dX2_greatestLate_33 : decode cX2_greatestLate 33 = .ok (.iload_n 1, 1) := by decide +kernel
theorem dX2_greatestLate_34 : decode cX2_greatestLate 34 = .ok (.iaload, 1) := by decide +kernel
theorem dX2_greatestLate_35 : decode cX2_greatestLate 35 = .ok (.iadd, 1) := by decide +kernel
theorem dX2_greatestLate_36 : decode cX2_greatestLate 36 = .ok (.ireturn, 1) := by decide +kernel
theorem dX2_soonestNoted_0 : decode cX2_soonestNoted 0 = .ok (.iload_n 0, 1) := by decide +kernel
theorem dX2_soonestNoted_1 : decode cX2_soonestNoted 1 = .ok (.iconst 2, 1) := by decide +kernel
theorem dX2_soonestNoted_2 : decode cX2_soonestNoted 2 = .ok (.if_icmp .ne 9, 3) := by decide +kernel
theorem dX2_soonestNoted_5 : decode cX2_soonestNoted 5 = .ok (.iconst 5, 1) := by decide +kernel
theorem dX2_soonestNoted_6 : decode cX2_soonestNoted 6 = .ok (.iload_n 1, 1) := by decide +kernel
theorem dX2_soonestNoted_7 : decode cX2_soonestNoted 7 = .ok (.imul, 1) := by decide +kernel
theorem dX2_soonestNoted_8 : decode cX2_soonestNoted 8 = .ok (.iconst 3, 1) := by decide +kernel
theorem dX2_soonestNoted_9 : decode cX2_soonestNoted 9 = .ok (.isub, 1) := by decide +kernel
theorem dX2_soonestNoted_10 : decode cX2_soonestNoted 10 = .ok (.ireturn, 1) := by decide +kernel
theorem dX2_soonestNoted_11 : decode cX2_soonestNoted 11 = .ok (.iload_n 0, 1) := by decide +kernel
theorem dX2_soonestNoted_12 : decode cX2_soonestNoted 12 = .ok (.iconst 1, 1) := by decide +kernel
theorem dX2_soonestNoted_13 : decode cX2_soonestNoted 13 = .ok (.if_icmp .ne 7, 3) := by decide +kernel
theorem dX2_soonestNoted_16 : decode cX2_soonestNoted 16 = .ok (.iconst (-1), 1) := by decide +kernel
theorem dX2_soonestNoted_17 : decode cX2_soonestNoted 17 = .ok (.goto 5, 3) := by decide +kernel
theorem dX2_soonestNoted_20 : decode cX2_soonestNoted 20 = .ok (.bipush (-2), 2) := by decide +kernel
theorem dX2_soonestNoted_22 : decode cX2_soonestNoted 22 = .ok (.ireturn, 1) := by decide +kernel
theorem dX2_latestNoted_0 : decode cX2_latestNoted 0 = .ok (.iload_n 0, 1) := by decide +kernel
theorem dX2_latestNoted_1 : decode cX2_latestNoted 1 = .ok (.iconst 2, 1) := by decide +kernel
theorem dX2_latestNoted_2 : decode cX2_latestNoted 2 = .ok (.if_icmp .ne 10, 3) := by decide +kernel
theorem dX2_latestNoted_5 : decode cX2_latestNoted 5 = .ok (.bipush 7, 2) := by decide +kernel
theorem dX2_latestNoted_7 : decode cX2_latestNoted 7 = .ok (.iload_n 1, 1) := by decide +kernel
theorem dX2_latestNoted_8 : decode cX2_latestNoted 8 = .ok (.imul, 1) := by decide +kernel
theorem dX2_latestNoted_9 : decode cX2_latestNoted 9 = .ok (.iconst 3, 1) := by decide +kernel
theorem dX2_latestNoted_10 : decode cX2_latestNoted 10 = .ok (.iadd, 1) := by decide +kernel
theorem dX2_latestNoted_11 : decode cX2_latestNoted 11 = .ok (.ireturn, 1) := by decide +kernel
theorem dX2_latestNoted_12 : decode cX2_latestNoted 12 = .ok (.iload_n 0, 1) := by decide +kernel
theorem dX2_latestNoted_13 : decode cX2_latestNoted 13 = .ok (.iconst 1, 1) := by decide +kernel
theorem dX2_latestNoted_14 : decode cX2_latestNoted 14 = .ok (.if_icmp .ne 7, 3) := by decide +kernel
theorem dX2_latestNoted_17 : decode cX2_latestNoted 17 = .ok (.iconst 1, 1) := by decide +kernel
theorem dX2_latestNoted_18 : decode cX2_latestNoted 18 = .ok (.goto 4, 3) := by decide +kernel
theorem dX2_latestNoted_21 : decode cX2_latestNoted 21 = .ok (.iconst 2, 1) := by decide +kernel
theorem dX2_latestNoted_22 : decode cX2_latestNoted 22 = .ok (.ireturn, 1) := by decide +kernel
theorem dX2_counts_0 : decode cX2_counts 0 = .ok (.aload_n 1, 1) := by decide +kernel
theorem dX2_counts_1 : decode cX2_counts 1 = .ok (.getfield 224, 3) := by decide +kernel
theorem dX2_counts_4 : decode cX2_counts 4 = .ok (.iload_n 2, 1) := by decide +kernel
theorem dX2_counts_5 : decode cX2_counts 5 = .ok (.baload, 1) := by decide +kernel
theorem dX2_counts_6 : decode cX2_counts 6 = .ok (.ifCond .eq 24, 3) := by decide +kernel
theorem dX2_counts_9 : decode cX2_counts 9 = .ok (.aload_n 0, 1) := by decide +kernel
theorem dX2_counts_10 : decode cX2_counts 10 = .ok (.getfield 108, 3) := by decide +kernel
theorem dX2_counts_13 : decode cX2_counts 13 = .ok (.aload_n 1, 1) := by decide +kernel
theorem dX2_counts_14 : decode cX2_counts 14 = .ok (.getfield 148, 3) := by decide +kernel
theorem dX2_counts_17 : decode cX2_counts 17 = .ok (.iand, 1) := by decide +kernel
theorem dX2_counts_18 : decode cX2_counts 18 = .ok (.iconst 1, 1) := by decide +kernel
theorem dX2_counts_19 : decode cX2_counts 19 = .ok (.aload_n 1, 1) := by decide +kernel
theorem dX2_counts_20 : decode cX2_counts 20 = .ok (.getfield 228, 3) := by decide +kernel
theorem dX2_counts_23 : decode cX2_counts 23 = .ok (.iload_n 2, 1) := by decide +kernel
theorem dX2_counts_24 : decode cX2_counts 24 = .ok (.iaload, 1) := by decide +kernel
theorem dX2_counts_25 : decode cX2_counts 25 = .ok (.ishl, 1) := by decide +kernel
theorem dX2_counts_26 : decode cX2_counts 26 = .ok (.iand, 1) := by decide +kernel
theorem dX2_counts_27 : decode cX2_counts 27 = .ok (.ifCond .ne 7, 3) := by decide +kernel
theorem dX2_counts_30 : decode cX2_counts 30 = .ok (.iconst 1, 1) := by decide +kernel
theorem dX2_counts_31 : decode cX2_counts 31 = .ok (.goto 4, 3) := by decide +kernel
theorem dX2_counts_34 : decode cX2_counts 34 = .ok (.iconst 0, 1) := by decide +kernel
theorem dX2_counts_35 : decode cX2_counts 35 = .ok (.ireturn, 1) := by decide +kernel
theorem dX2_isTold_0 : decode cX2_isTold 0 = .ok (.iconst 0, 1) := by decide +kernel
theorem dX2_isTold_1 : decode cX2_isTold 1 = .ok (.istore_n 3, 1) := by decide +kernel
theorem dX2_isTold_2 : decode cX2_isTold 2 = .ok (.iload_n 3, 1) := by decide +kernel
theorem dX2_isTold_3 : decode cX2_isTold 3 = .ok (.aload_n 1, 1) := by decide +kernel
theorem dX2_isTold_4 : decode cX2_isTold 4 = .ok (.getfield 145, 3) := by decide +kernel
theorem dX2_isTold_7 : decode cX2_isTold 7 = .ok (.if_icmp .ge 30, 3) := by decide +kernel
theorem dX2_isTold_10 : decode cX2_isTold 10 = .ok (.aload_n 1, 1) := by decide +kernel
theorem dX2_isTold_11 : decode cX2_isTold 11 = .ok (.getfield 231, 3) := by decide +kernel
theorem dX2_isTold_14 : decode cX2_isTold 14 = .ok (.iload_n 3, 1) := by decide +kernel
theorem dX2_isTold_15 : decode cX2_isTold 15 = .ok (.iaload, 1) := by decide +kernel
theorem dX2_isTold_16 : decode cX2_isTold 16 = .ok (.iload_n 2, 1) := by decide +kernel
theorem dX2_isTold_17 : decode cX2_isTold 17 = .ok (.if_icmp .ne 14, 3) := by decide +kernel
theorem dX2_isTold_20 : decode cX2_isTold 20 = .ok (.aload_n 0, 1) := by decide +kernel
theorem dX2_isTold_21 : decode cX2_isTold 21 = .ok (.aload_n 1, 1) := by decide +kernel
theorem dX2_isTold_22 : decode cX2_isTold 22 = .ok (.iload_n 3, 1) := by decide +kernel
theorem dX2_isTold_23 : decode cX2_isTold 23 = .ok (.invokevirtual 234, 3) := by decide +kernel
theorem dX2_isTold_26 : decode cX2_isTold 26 = .ok (.ifCond .eq 5, 3) := by decide +kernel
theorem dX2_isTold_29 : decode cX2_isTold 29 = .ok (.iconst 1, 1) := by decide +kernel
theorem dX2_isTold_30 : decode cX2_isTold 30 = .ok (.ireturn, 1) := by decide +kernel
theorem dX2_isTold_31 : decode cX2_isTold 31 = .ok (.iinc 3 1, 3) := by decide +kernel
theorem dX2_isTold_34 : decode cX2_isTold 34 = .ok (.goto (-32), 3) := by decide +kernel
theorem dX2_isTold_37 : decode cX2_isTold 37 = .ok (.iconst 0, 1) := by decide +kernel
theorem dX2_isTold_38 : decode cX2_isTold 38 = .ok (.ireturn, 1) := by decide +kernel
theorem dX2_isSetOn_0 : decode cX2_isSetOn 0 = .ok (.iconst 0, 1) := by decide +kernel
theorem dX2_isSetOn_1 : decode cX2_isSetOn 1 = .ok (.istore 4, 2) := by decide +kernel
theorem dX2_isSetOn_3 : decode cX2_isSetOn 3 = .ok (.iload 4, 2) := by decide +kernel
theorem dX2_isSetOn_5 : decode cX2_isSetOn 5 = .ok (.aload_n 1, 1) := by decide +kernel
theorem dX2_isSetOn_6 : decode cX2_isSetOn 6 = .ok (.getfield 145, 3) := by decide +kernel
theorem dX2_isSetOn_9 : decode cX2_isSetOn 9 = .ok (.if_icmp .ge 53, 3) := by decide +kernel
theorem dX2_isSetOn_12 : decode cX2_isSetOn 12 = .ok (.aload_n 1, 1) := by decide +kernel
theorem dX2_isSetOn_13 : decode cX2_isSetOn 13 = .ok (.getfield 231, 3) := by decide +kernel
theorem dX2_isSetOn_16 : decode cX2_isSetOn 16 = .ok (.iload 4, 2) := by decide +kernel
theorem dX2_isSetOn_18 : decode cX2_isSetOn 18 = .ok (.iaload, 1) := by decide +kernel
theorem dX2_isSetOn_19 : decode cX2_isSetOn 19 = .ok (.iload_n 2, 1) := by decide +kernel
theorem dX2_isSetOn_20 : decode cX2_isSetOn 20 = .ok (.if_icmp .ne 36, 3) := by decide +kernel
theorem dX2_isSetOn_23 : decode cX2_isSetOn 23 = .ok (.aload_n 1, 1) := by decide +kernel
theorem dX2_isSetOn_24 : decode cX2_isSetOn 24 = .ok (.getfield 224, 3) := by decide +kernel
theorem dX2_isSetOn_27 : decode cX2_isSetOn 27 = .ok (.iload 4, 2) := by decide +kernel
theorem dX2_isSetOn_29 : decode cX2_isSetOn 29 = .ok (.baload, 1) := by decide +kernel
theorem dX2_isSetOn_30 : decode cX2_isSetOn 30 = .ok (.ifCond .eq 26, 3) := by decide +kernel
theorem dX2_isSetOn_33 : decode cX2_isSetOn 33 = .ok (.aload_n 1, 1) := by decide +kernel
theorem dX2_isSetOn_34 : decode cX2_isSetOn 34 = .ok (.getfield 228, 3) := by decide +kernel
theorem dX2_isSetOn_37 : decode cX2_isSetOn 37 = .ok (.iload 4, 2) := by decide +kernel
theorem dX2_isSetOn_39 : decode cX2_isSetOn 39 = .ok (.iaload, 1) := by decide +kernel
theorem dX2_isSetOn_40 : decode cX2_isSetOn 40 = .ok (.iload_n 3, 1) := by decide +kernel
theorem dX2_isSetOn_41 : decode cX2_isSetOn 41 = .ok (.if_icmp .ne 15, 3) := by decide +kernel
theorem dX2_isSetOn_44 : decode cX2_isSetOn 44 = .ok (.aload_n 0, 1) := by decide +kernel
theorem dX2_isSetOn_45 : decode cX2_isSetOn 45 = .ok (.aload_n 1, 1) := by decide +kernel
theorem dX2_isSetOn_46 : decode cX2_isSetOn 46 = .ok (.iload 4, 2) := by decide +kernel
theorem dX2_isSetOn_48 : decode cX2_isSetOn 48 = .ok (.invokevirtual 234, 3) := by decide +kernel
theorem dX2_isSetOn_51 : decode cX2_isSetOn 51 = .ok (.ifCond .eq 5, 3) := by decide +kernel
theorem dX2_isSetOn_54 : decode cX2_isSetOn 54 = .ok (.iconst 1, 1) := by decide +kernel
theorem dX2_isSetOn_55 : decode cX2_isSetOn 55 = .ok (.ireturn, 1) := by decide +kernel
theorem dX2_isSetOn_56 : decode cX2_isSetOn 56 = .ok (.iinc 4 1, 3) := by decide +kernel
theorem dX2_isSetOn_59 : decode cX2_isSetOn 59 = .ok (.goto (-56), 3) := by decide +kernel
theorem dX2_isSetOn_62 : decode cX2_isSetOn 62 = .ok (.iconst 0, 1) := by decide +kernel
theorem dX2_isSetOn_63 : decode cX2_isSetOn 63 = .ok (.ireturn, 1) := by decide +kernel
theorem dX2_learn_0 : decode cX2_learn 0 = .ok (.aload_n 0, 1) := by decide +kernel
theorem dX2_learn_1 : decode cX2_learn 1 = .ok (.aload_n 1, 1) := by decide +kernel
theorem dX2_learn_2 : decode cX2_learn 2 = .ok (.iload_n 2, 1) := by decide +kernel
theorem dX2_learn_3 : decode cX2_learn 3 = .ok (.iconst (-1), 1) := by decide +kernel
theorem dX2_learn_4 : decode cX2_learn 4 = .ok (.iconst (-1), 1) := by decide +kernel
theorem dX2_learn_5 : decode cX2_learn 5 = .ok (.iconst 0, 1) := by decide +kernel
theorem dX2_learn_6 : decode cX2_learn 6 = .ok (.invokevirtual 237, 3) := by decide +kernel
theorem dX2_learn_9 : decode cX2_learn 9 = .ok (.ireturn, 1) := by decide +kernel
theorem dX2_learnBut_0 : decode cX2_learnBut 0 = .ok (.aload_n 0, 1) := by decide +kernel
theorem dX2_learnBut_1 : decode cX2_learnBut 1 = .ok (.getfield 19, 3) := by decide +kernel
theorem dX2_learnBut_4 : decode cX2_learnBut 4 = .ok (.ldc 63, 2) := by decide +kernel
theorem dX2_learnBut_6 : decode cX2_learnBut 6 = .ok (.bipush 99, 2) := by decide +kernel
theorem dX2_learnBut_8 : decode cX2_learnBut 8 = .ok (.invokevirtual 57, 3) := by decide +kernel
theorem dX2_learnBut_11 : decode cX2_learnBut 11 = .ok (.iconst 0, 1) := by decide +kernel
theorem dX2_learnBut_12 : decode cX2_learnBut 12 = .ok (.istore 6, 2) := by decide +kernel
theorem dX2_learnBut_14 : decode cX2_learnBut 14 = .ok (.iload 6, 2) := by decide +kernel
theorem dX2_learnBut_16 : decode cX2_learnBut 16 = .ok (.aload_n 1, 1) := by decide +kernel
theorem dX2_learnBut_17 : decode cX2_learnBut 17 = .ok (.getfield 145, 3) := by decide +kernel
theorem dX2_learnBut_20 : decode cX2_learnBut 20 = .ok (.if_icmp .ge 139, 3) := by decide +kernel
theorem dX2_learnBut_23 : decode cX2_learnBut 23 = .ok (.aload_n 1, 1) := by decide +kernel
theorem dX2_learnBut_24 : decode cX2_learnBut 24 = .ok (.getfield 231, 3) := by decide +kernel
theorem dX2_learnBut_27 : decode cX2_learnBut 27 = .ok (.iload 6, 2) := by decide +kernel
theorem dX2_learnBut_29 : decode cX2_learnBut 29 = .ok (.iaload, 1) := by decide +kernel
theorem dX2_learnBut_30 : decode cX2_learnBut 30 = .ok (.iload_n 2, 1) := by decide +kernel
theorem dX2_learnBut_31 : decode cX2_learnBut 31 = .ok (.if_icmp .ne 122, 3) := by decide +kernel
theorem dX2_learnBut_34 : decode cX2_learnBut 34 = .ok (.aload_n 0, 1) := by decide +kernel
theorem dX2_learnBut_35 : decode cX2_learnBut 35 = .ok (.aload_n 1, 1) := by decide +kernel
theorem dX2_learnBut_36 : decode cX2_learnBut 36 = .ok (.iload 6, 2) := by decide +kernel
theorem dX2_learnBut_38 : decode cX2_learnBut 38 = .ok (.invokevirtual 234, 3) := by decide +kernel
theorem dX2_learnBut_41 : decode cX2_learnBut 41 = .ok (.ifCond .eq 112, 3) := by decide +kernel
theorem dX2_learnBut_44 : decode cX2_learnBut 44 = .ok (.aload_n 1, 1) := by decide +kernel
theorem dX2_learnBut_45 : decode cX2_learnBut 45 = .ok (.getfield 228, 3) := by decide +kernel
theorem dX2_learnBut_48 : decode cX2_learnBut 48 = .ok (.iload 6, 2) := by decide +kernel
theorem dX2_learnBut_50 : decode cX2_learnBut 50 = .ok (.iaload, 1) := by decide +kernel
theorem dX2_learnBut_51 : decode cX2_learnBut 51 = .ok (.istore 7, 2) := by decide +kernel
theorem dX2_learnBut_53 : decode cX2_learnBut 53 = .ok (.aload_n 1, 1) := by decide +kernel
theorem dX2_learnBut_54 : decode cX2_learnBut 54 = .ok (.getfield 224, 3) := by decide +kernel
theorem dX2_learnBut_57 : decode cX2_learnBut 57 = .ok (.iload 6, 2) := by decide +kernel
theorem dX2_learnBut_59 : decode cX2_learnBut 59 = .ok (.baload, 1) := by decide +kernel
theorem dX2_learnBut_60 : decode cX2_learnBut 60 = .ok (.ifCond .ne 29, 3) := by decide +kernel
theorem dX2_learnBut_63 : decode cX2_learnBut 63 = .ok (.aload_n 0, 1) := by decide +kernel
theorem dX2_learnBut_64 : decode cX2_learnBut 64 = .ok (.getfield 19, 3) := by decide +kernel
theorem dX2_learnBut_67 : decode cX2_learnBut 67 = .ok (.iload 7, 2) := by decide +kernel
theorem dX2_learnBut_69 : decode cX2_learnBut 69 = .ok (.aload_n 1, 1) := by decide +kernel
theorem dX2_learnBut_70 : decode cX2_learnBut 70 = .ok (.getfield 241, 3) := by decide +kernel
theorem dX2_learnBut_73 : decode cX2_learnBut 73 = .ok (.iload 6, 2) := by decide +kernel
theorem dX2_learnBut_75 : decode cX2_learnBut 75 = .ok (.iaload, 1) := by decide +kernel
theorem dX2_learnBut_76 : decode cX2_learnBut 76 = .ok (.aload_n 1, 1) := by decide +kernel
theorem dX2_learnBut_77 : decode cX2_learnBut 77 = .ok (.getfield 244, 3) := by decide +kernel
theorem dX2_learnBut_80 : decode cX2_learnBut 80 = .ok (.iload 6, 2) := by decide +kernel
theorem dX2_learnBut_82 : decode cX2_learnBut 82 = .ok (.iaload, 1) := by decide +kernel
theorem dX2_learnBut_83 : decode cX2_learnBut 83 = .ok (.invokevirtual 79, 3) := by decide +kernel
theorem dX2_learnBut_86 : decode cX2_learnBut 86 = .ok (.goto 67, 3) := by decide +kernel
theorem dX2_learnBut_89 : decode cX2_learnBut 89 = .ok (.iload 7, 2) := by decide +kernel
theorem dX2_learnBut_91 : decode cX2_learnBut 91 = .ok (.iload_n 3, 1) := by decide +kernel
theorem dX2_learnBut_92 : decode cX2_learnBut 92 = .ok (.if_icmp .eq 61, 3) := by decide +kernel
theorem dX2_learnBut_95 : decode cX2_learnBut 95 = .ok (.iload 7, 2) := by decide +kernel
theorem dX2_learnBut_97 : decode cX2_learnBut 97 = .ok (.iload 4, 2) := by decide +kernel
theorem dX2_learnBut_99 : decode cX2_learnBut 99 = .ok (.if_icmp .ne 8, 3) := by decide +kernel
theorem dX2_learnBut_102 : decode cX2_learnBut 102 = .ok (.iload 5, 2) := by decide +kernel
theorem dX2_learnBut_104 : decode cX2_learnBut 104 = .ok (.goto 4, 3) := by decide +kernel
theorem dX2_learnBut_107 : decode cX2_learnBut 107 = .ok (.iconst 0, 1) := by decide +kernel
theorem dX2_learnBut_108 : decode cX2_learnBut 108 = .ok (.istore 8, 2) := by decide +kernel
theorem dX2_learnBut_110 : decode cX2_learnBut 110 = .ok (.aload_n 0, 1) := by decide +kernel
theorem dX2_learnBut_111 : decode cX2_learnBut 111 = .ok (.getfield 19, 3) := by decide +kernel
theorem dX2_learnBut_114 : decode cX2_learnBut 114 = .ok (.iload 7, 2) := by decide +kernel
theorem dX2_learnBut_116 : decode cX2_learnBut 116 = .ok (.aload_n 1, 1) := by decide +kernel
theorem dX2_learnBut_117 : decode cX2_learnBut 117 = .ok (.getfield 241, 3) := by decide +kernel
theorem dX2_learnBut_120 : decode cX2_learnBut 120 = .ok (.iload 6, 2) := by decide +kernel
theorem dX2_learnBut_122 : decode cX2_learnBut 122 = .ok (.iaload, 1) := by decide +kernel
theorem dX2_learnBut_123 : decode cX2_learnBut 123 = .ok (.aload_n 0, 1) := by decide +kernel
theorem dX2_learnBut_124 : decode cX2_learnBut 124 = .ok (.iload 7, 2) := by decide +kernel
theorem dX2_learnBut_126 : decode cX2_learnBut 126 = .ok (.invokevirtual 123, 3) := by decide +kernel
theorem dX2_learnBut_129 : decode cX2_learnBut 129 = .ok (.isub, 1) := by decide +kernel
theorem dX2_learnBut_130 : decode cX2_learnBut 130 = .ok (.iload 8, 2) := by decide +kernel
theorem dX2_learnBut_132 : decode cX2_learnBut 132 = .ok (.isub, 1) := by decide +kernel
theorem dX2_learnBut_133 : decode cX2_learnBut 133 = .ok (.aload_n 1, 1) := by decide +kernel
theorem dX2_learnBut_134 : decode cX2_learnBut 134 = .ok (.getfield 244, 3) := by decide +kernel
theorem dX2_learnBut_137 : decode cX2_learnBut 137 = .ok (.iload 6, 2) := by decide +kernel
theorem dX2_learnBut_139 : decode cX2_learnBut 139 = .ok (.iaload, 1) := by decide +kernel
theorem dX2_learnBut_140 : decode cX2_learnBut 140 = .ok (.aload_n 0, 1) := by decide +kernel
theorem dX2_learnBut_141 : decode cX2_learnBut 141 = .ok (.iload 7, 2) := by decide +kernel
theorem dX2_learnBut_143 : decode cX2_learnBut 143 = .ok (.invokevirtual 119, 3) := by decide +kernel
theorem dX2_learnBut_146 : decode cX2_learnBut 146 = .ok (.isub, 1) := by decide +kernel
theorem dX2_learnBut_147 : decode cX2_learnBut 147 = .ok (.iload 8, 2) := by decide +kernel
theorem dX2_learnBut_149 : decode cX2_learnBut 149 = .ok (.isub, 1) := by decide +kernel
theorem dX2_learnBut_150 : decode cX2_learnBut 150 = .ok (.invokevirtual 79, 3) := by decide +kernel
theorem dX2_learnBut_153 : decode cX2_learnBut 153 = .ok (.iinc 6 1, 3) := by decide +kernel
theorem dX2_learnBut_156 : decode cX2_learnBut 156 = .ok (.goto (-142), 3) := by decide +kernel
theorem dX2_learnBut_159 : decode cX2_learnBut 159 = .ok (.aload_n 0, 1) := by decide +kernel
theorem dX2_learnBut_160 : decode cX2_learnBut 160 = .ok (.aload_n 1, 1) := by decide +kernel
theorem dX2_learnBut_161 : decode cX2_learnBut 161 = .ok (.getfield 151, 3) := by decide +kernel
theorem dX2_learnBut_164 : decode cX2_learnBut 164 = .ok (.iload_n 2, 1) := by decide +kernel
theorem dX2_learnBut_165 : decode cX2_learnBut 165 = .ok (.iaload, 1) := by decide +kernel
theorem dX2_learnBut_166 : decode cX2_learnBut 166 = .ok (.ineg, 1) := by decide +kernel
theorem dX2_learnBut_167 : decode cX2_learnBut 167 = .ok (.invokevirtual 247, 3) := by decide +kernel
theorem dX2_learnBut_170 : decode cX2_learnBut 170 = .ok (.aload_n 0, 1) := by decide +kernel
theorem dX2_learnBut_171 : decode cX2_learnBut 171 = .ok (.getfield 19, 3) := by decide +kernel
theorem dX2_learnBut_174 : decode cX2_learnBut 174 = .ok (.invokevirtual 83, 3) := by decide +kernel
theorem dX2_learnBut_177 : decode cX2_learnBut 177 = .ok (.istore 6, 2) := by decide +kernel
theorem dX2_learnBut_179 : decode cX2_learnBut 179 = .ok (.aload_n 0, 1) := by decide +kernel
theorem dX2_learnBut_180 : decode cX2_learnBut 180 = .ok (.aload_n 1, 1) := by decide +kernel
theorem dX2_learnBut_181 : decode cX2_learnBut 181 = .ok (.getfield 151, 3) := by decide +kernel
theorem dX2_learnBut_184 : decode cX2_learnBut 184 = .ok (.iload_n 2, 1) := by decide +kernel
theorem dX2_learnBut_185 : decode cX2_learnBut 185 = .ok (.iaload, 1) := by decide +kernel
theorem dX2_learnBut_186 : decode cX2_learnBut 186 = .ok (.invokevirtual 247, 3) := by decide +kernel
theorem dX2_learnBut_189 : decode cX2_learnBut 189 = .ok (.iload 6, 2) := by decide +kernel
theorem dX2_learnBut_191 : decode cX2_learnBut 191 = .ok (.ireturn, 1) := by decide +kernel
theorem dX2_addHeat_0 : decode cX2_addHeat 0 = .ok (.iconst 0, 1) := by decide +kernel
theorem dX2_addHeat_1 : decode cX2_addHeat 1 = .ok (.istore_n 2, 1) := by decide +kernel
theorem dX2_addHeat_2 : decode cX2_addHeat 2 = .ok (.iconst 0, 1) := by decide +kernel
theorem dX2_addHeat_3 : decode cX2_addHeat 3 = .ok (.istore_n 3, 1) := by decide +kernel
theorem dX2_addHeat_4 : decode cX2_addHeat 4 = .ok (.iload_n 3, 1) := by decide +kernel
theorem dX2_addHeat_5 : decode cX2_addHeat 5 = .ok (.bipush 20, 2) := by decide +kernel
theorem dX2_addHeat_7 : decode cX2_addHeat 7 = .ok (.if_icmp .ge 48, 3) := by decide +kernel
theorem dX2_addHeat_10 : decode cX2_addHeat 10 = .ok (.aload_n 0, 1) := by decide +kernel
theorem dX2_addHeat_11 : decode cX2_addHeat 11 = .ok (.getfield 19, 3) := by decide +kernel
theorem dX2_addHeat_14 : decode cX2_addHeat 14 = .ok (.getfield 96, 3) := by decide +kernel
theorem dX2_addHeat_17 : decode cX2_addHeat 17 = .ok (.iload_n 3, 1) := by decide +kernel
theorem dX2_addHeat_18 : decode cX2_addHeat 18 = .ok (.dup2, 1) := by decide +kernel
theorem dX2_addHeat_19 : decode cX2_addHeat 19 = .ok (.iaload, 1) := by decide +kernel
theorem dX2_addHeat_20 : decode cX2_addHeat 20 = .ok (.iload_n 2, 1) := by decide +kernel
theorem dX2_addHeat_21 : decode cX2_addHeat 21 = .ok (.iadd, 1) := by decide +kernel
theorem dX2_addHeat_22 : decode cX2_addHeat 22 = .ok (.iastore, 1) := by decide +kernel
theorem dX2_addHeat_23 : decode cX2_addHeat 23 = .ok (.aload_n 0, 1) := by decide +kernel
theorem dX2_addHeat_24 : decode cX2_addHeat 24 = .ok (.getfield 19, 3) := by decide +kernel
theorem dX2_addHeat_27 : decode cX2_addHeat 27 = .ok (.getfield 99, 3) := by decide +kernel
theorem dX2_addHeat_30 : decode cX2_addHeat 30 = .ok (.iload_n 3, 1) := by decide +kernel
theorem dX2_addHeat_31 : decode cX2_addHeat 31 = .ok (.dup2, 1) := by decide +kernel
theorem dX2_addHeat_32 : decode cX2_addHeat 32 = .ok (.iaload, 1) := by decide +kernel
theorem dX2_addHeat_33 : decode cX2_addHeat 33 = .ok (.iload_n 2, 1) := by decide +kernel
theorem dX2_addHeat_34 : decode cX2_addHeat 34 = .ok (.iadd, 1) := by decide +kernel
theorem dX2_addHeat_35 : decode cX2_addHeat 35 = .ok (.iastore, 1) := by decide +kernel
theorem dX2_addHeat_36 : decode cX2_addHeat 36 = .ok (.iload_n 2, 1) := by decide +kernel
theorem dX2_addHeat_37 : decode cX2_addHeat 37 = .ok (.iload_n 1, 1) := by decide +kernel
theorem dX2_addHeat_38 : decode cX2_addHeat 38 = .ok (.aload_n 0, 1) := by decide +kernel
theorem dX2_addHeat_39 : decode cX2_addHeat 39 = .ok (.getfield 32, 3) := by decide +kernel
theorem dX2_addHeat_42 : decode cX2_addHeat 42 = .ok (.iload_n 3, 1) := by decide +kernel
theorem dX2_addHeat_43 : decode cX2_addHeat 43 = .ok (.iaload, 1) := by decide +kernel
theorem dX2_addHeat_44 : decode cX2_addHeat 44 = .ok (.iconst 5, 1) := by decide +kernel
theorem dX2_addHeat_45 : decode cX2_addHeat 45 = .ok (.isub, 1) := by decide +kernel
theorem dX2_addHeat_46 : decode cX2_addHeat 46 = .ok (.imul, 1) := by decide +kernel
theorem dX2_addHeat_47 : decode cX2_addHeat 47 = .ok (.iadd, 1) := by decide +kernel
theorem dX2_addHeat_48 : decode cX2_addHeat 48 = .ok (.istore_n 2, 1) := by decide +kernel
theorem dX2_addHeat_49 : decode cX2_addHeat 49 = .ok (.iinc 3 1, 3) := by decide +kernel
theorem dX2_addHeat_52 : decode cX2_addHeat 52 = .ok (.goto (-48), 3) := by decide +kernel
theorem dX2_addHeat_55 : decode cX2_addHeat 55 = .ok (.return_, 1) := by decide +kernel
theorem dX2_leastMiles_0 : decode cX2_leastMiles 0 = .ok (.iload_n 1, 1) := by decide +kernel
theorem dX2_leastMiles_1 : decode cX2_leastMiles 1 = .ok (.aload_n 0, 1) := by decide +kernel
theorem dX2_leastMiles_2 : decode cX2_leastMiles 2 = .ok (.getfield 19, 3) := by decide +kernel
theorem dX2_leastMiles_5 : decode cX2_leastMiles 5 = .ok (.getfield 99, 3) := by decide +kernel
theorem dX2_leastMiles_8 : decode cX2_leastMiles 8 = .ok (.iload_n 2, 1) := by decide +kernel
theorem dX2_leastMiles_9 : decode cX2_leastMiles 9 = .ok (.iaload, 1) := by decide +kernel
theorem dX2_leastMiles_10 : decode cX2_leastMiles 10 = .ok (.isub, 1) := by decide +kernel
theorem dX2_leastMiles_11 : decode cX2_leastMiles 11 = .ok (.iconst 4, 1) := by decide +kernel
theorem dX2_leastMiles_12 : decode cX2_leastMiles 12 = .ok (.invokestatic 218, 3) := by decide +kernel
theorem dX2_leastMiles_15 : decode cX2_leastMiles 15 = .ok (.ireturn, 1) := by decide +kernel
theorem dX2_greatestMiles_0 : decode cX2_greatestMiles 0 = .ok (.iload_n 1, 1) := by decide +kernel
theorem dX2_greatestMiles_1 : decode cX2_greatestMiles 1 = .ok (.aload_n 0, 1) := by decide +kernel
theorem dX2_greatestMiles_2 : decode cX2_greatestMiles 2 = .ok (.getfield 19, 3) := by decide +kernel
theorem dX2_greatestMiles_5 : decode cX2_greatestMiles 5 = .ok (.getfield 96, 3) := by decide +kernel
theorem dX2_greatestMiles_8 : decode cX2_greatestMiles 8 = .ok (.iload_n 2, 1) := by decide +kernel
theorem dX2_greatestMiles_9 : decode cX2_greatestMiles 9 = .ok (.iaload, 1) := by decide +kernel
theorem dX2_greatestMiles_10 : decode cX2_greatestMiles 10 = .ok (.isub, 1) := by decide +kernel
theorem dX2_greatestMiles_11 : decode cX2_greatestMiles 11 = .ok (.iconst 4, 1) := by decide +kernel
theorem dX2_greatestMiles_12 : decode cX2_greatestMiles 12 = .ok (.invokestatic 251, 3) := by decide +kernel
theorem dX2_greatestMiles_15 : decode cX2_greatestMiles 15 = .ok (.ireturn, 1) := by decide +kernel
theorem dX2_findPlaces_0 : decode cX2_findPlaces 0 = .ok (.iconst 0, 1) := by decide +kernel
theorem dX2_findPlaces_1 : decode cX2_findPlaces 1 = .ok (.istore_n 2, 1) := by decide +kernel
theorem dX2_findPlaces_2 : decode cX2_findPlaces 2 = .ok (.iload_n 2, 1) := by decide +kernel
theorem dX2_findPlaces_3 : decode cX2_findPlaces 3 = .ok (.iconst 3, 1) := by decide +kernel
theorem dX2_findPlaces_4 : decode cX2_findPlaces 4 = .ok (.if_icmp .ge 77, 3) := by decide +kernel
theorem dX2_findPlaces_7 : decode cX2_findPlaces 7 = .ok (.aload_n 0, 1) := by decide +kernel
theorem dX2_findPlaces_8 : decode cX2_findPlaces 8 = .ok (.aload_n 1, 1) := by decide +kernel
theorem dX2_findPlaces_9 : decode cX2_findPlaces 9 = .ok (.iload_n 2, 1) := by decide +kernel
theorem dX2_findPlaces_10 : decode cX2_findPlaces 10 = .ok (.invokevirtual 157, 3) := by decide +kernel
theorem dX2_findPlaces_13 : decode cX2_findPlaces 13 = .ok (.ifCond .eq 46, 3) := by decide +kernel
theorem dX2_findPlaces_16 : decode cX2_findPlaces 16 = .ok (.aload_n 0, 1) := by decide +kernel
theorem dX2_findPlaces_17 : decode cX2_findPlaces 17 = .ok (.getfield 47, 3) := by decide +kernel
theorem dX2_findPlaces_20 : decode cX2_findPlaces 20 = .ok (.iload_n 2, 1) := by decide +kernel
theorem dX2_findPlaces_21 : decode cX2_findPlaces 21 = .ok (.aload_n 0, 1) := by decide +kernel
theorem dX2_findPlaces_22 : decode cX2_findPlaces 22 = .ok (.aload_n 1, 1) := by decide +kernel
theorem dX2_findPlaces_23 : decode cX2_findPlaces 23 = .ok (.getfield 171, 3) := by decide +kernel
theorem dX2_findPlaces_26 : decode cX2_findPlaces 26 = .ok (.iload_n 2, 1) := by decide +kernel
theorem dX2_findPlaces_27 : decode cX2_findPlaces 27 = .ok (.iaload, 1) := by decide +kernel
theorem dX2_findPlaces_28 : decode cX2_findPlaces 28 = .ok (.aload_n 1, 1) := by decide +kernel
theorem dX2_findPlaces_29 : decode cX2_findPlaces 29 = .ok (.getfield 168, 3) := by decide +kernel
theorem dX2_findPlaces_32 : decode cX2_findPlaces 32 = .ok (.invokevirtual 162, 3) := by decide +kernel
theorem dX2_findPlaces_35 : decode cX2_findPlaces 35 = .ok (.iastore, 1) := by decide +kernel
theorem dX2_findPlaces_36 : decode cX2_findPlaces 36 = .ok (.aload_n 0, 1) := by decide +kernel
theorem dX2_findPlaces_37 : decode cX2_findPlaces 37 = .ok (.getfield 50, 3) := by decide +kernel
theorem dX2_findPlaces_40 : decode cX2_findPlaces 40 = .ok (.iload_n 2, 1) := by decide +kernel
theorem dX2_findPlaces_41 : decode cX2_findPlaces 41 = .ok (.aload_n 0, 1) := by decide +kernel
theorem dX2_findPlaces_42 : decode cX2_findPlaces 42 = .ok (.aload_n 1, 1) := by decide +kernel
theorem dX2_findPlaces_43 : decode cX2_findPlaces 43 = .ok (.getfield 171, 3) := by decide +kernel
theorem dX2_findPlaces_46 : decode cX2_findPlaces 46 = .ok (.iload_n 2, 1) := by decide +kernel
theorem dX2_findPlaces_47 : decode cX2_findPlaces 47 = .ok (.iaload, 1) := by decide +kernel
theorem dX2_findPlaces_48 : decode cX2_findPlaces 48 = .ok (.aload_n 1, 1) := by decide +kernel
theorem dX2_findPlaces_49 : decode cX2_findPlaces 49 = .ok (.getfield 168, 3) := by decide +kernel
theorem dX2_findPlaces_52 : decode cX2_findPlaces 52 = .ok (.invokevirtual 165, 3) := by decide +kernel
theorem dX2_findPlaces_55 : decode cX2_findPlaces 55 = .ok (.iastore, 1) := by decide +kernel
theorem dX2_findPlaces_56 : decode cX2_findPlaces 56 = .ok (.goto 19, 3) := by decide +kernel
theorem dX2_findPlaces_59 : decode cX2_findPlaces 59 = .ok (.aload_n 0, 1) := by decide +kernel
theorem dX2_findPlaces_60 : decode cX2_findPlaces 60 = .ok (.getfield 47, 3) := by decide +kernel
theorem dX2_findPlaces_63 : decode cX2_findPlaces 63 = .ok (.iload_n 2, 1) := by decide +kernel
theorem dX2_findPlaces_64 : decode cX2_findPlaces 64 = .ok (.ldc 254, 2) := by decide +kernel
theorem dX2_findPlaces_66 : decode cX2_findPlaces 66 = .ok (.iastore, 1) := by decide +kernel
theorem dX2_findPlaces_67 : decode cX2_findPlaces 67 = .ok (.aload_n 0, 1) := by decide +kernel
theorem dX2_findPlaces_68 : decode cX2_findPlaces 68 = .ok (.getfield 50, 3) := by decide +kernel
theorem dX2_findPlaces_71 : decode cX2_findPlaces 71 = .ok (.iload_n 2, 1) := by decide +kernel
theorem dX2_findPlaces_72 : decode cX2_findPlaces 72 = .ok (.ldc 255, 2) := by decide +kernel
theorem dX2_findPlaces_74 : decode cX2_findPlaces 74 = .ok (.iastore, 1) := by decide +kernel
theorem dX2_findPlaces_75 : decode cX2_findPlaces 75 = .ok (.iinc 2 1, 3) := by decide +kernel
theorem dX2_findPlaces_78 : decode cX2_findPlaces 78 = .ok (.goto (-76), 3) := by decide +kernel
theorem dX2_findPlaces_81 : decode cX2_findPlaces 81 = .ok (.return_, 1) := by decide +kernel
theorem dX2_leastShared_0 : decode cX2_leastShared 0 = .ok (.ldc 255, 2) := by decide +kernel
theorem dX2_leastShared_2 : decode cX2_leastShared 2 = .ok (.istore_n 2, 1) := by decide +kernel
theorem dX2_leastShared_3 : decode cX2_leastShared 3 = .ok (.iconst 0, 1) := by decide +kernel
theorem dX2_leastShared_4 : decode cX2_leastShared 4 = .ok (.istore_n 3, 1) := by decide +kernel
theorem dX2_leastShared_5 : decode cX2_leastShared 5 = .ok (.iload_n 3, 1) := by decide +kernel
theorem dX2_leastShared_6 : decode cX2_leastShared 6 = .ok (.iconst 3, 1) := by decide +kernel
theorem dX2_leastShared_7 : decode cX2_leastShared 7 = .ok (.if_icmp .ge 29, 3) := by decide +kernel
theorem dX2_leastShared_10 : decode cX2_leastShared 10 = .ok (.iload_n 1, 1) := by decide +kernel
theorem dX2_leastShared_11 : decode cX2_leastShared 11 = .ok (.iload_n 3, 1) := by decide +kernel
theorem dX2_leastShared_12 : decode cX2_leastShared 12 = .ok (.invokestatic 111, 3) := by decide +kernel
theorem dX2_leastShared_15 : decode cX2_leastShared 15 = .ok (.iconst 1, 1) := by decide +kernel
theorem dX2_leastShared_16 : decode cX2_leastShared 16 = .ok (.if_icmp .ne 14, 3) := by decide +kernel
theorem dX2_leastShared_19 : decode cX2_leastShared 19 = .ok (.iload_n 2, 1) := by decide +kernel
theorem dX2_leastShared_20 : decode cX2_leastShared 20 = .ok (.aload_n 0, 1) := by decide +kernel
theorem dX2_leastShared_21 : decode cX2_leastShared 21 = .ok (.getfield 47, 3) := by decide +kernel
theorem dX2_leastShared_24 : decode cX2_leastShared 24 = .ok (.iload_n 3, 1) := by decide +kernel
theorem dX2_leastShared_25 : decode cX2_leastShared 25 = .ok (.iaload, 1) := by decide +kernel
theorem dX2_leastShared_26 : decode cX2_leastShared 26 = .ok (.invokestatic 210, 3) := by decide +kernel
theorem dX2_leastShared_29 : decode cX2_leastShared 29 = .ok (.istore_n 2, 1) := by decide +kernel
theorem dX2_leastShared_30 : decode cX2_leastShared 30 = .ok (.iinc 3 1, 3) := by decide +kernel
theorem dX2_leastShared_33 : decode cX2_leastShared 33 = .ok (.goto (-28), 3) := by decide +kernel
theorem dX2_leastShared_36 : decode cX2_leastShared 36 = .ok (.iload_n 2, 1) := by decide +kernel
theorem dX2_leastShared_37 : decode cX2_leastShared 37 = .ok (.ireturn, 1) := by decide +kernel
theorem dX2_greatestShared_0 : decode cX2_greatestShared 0 = .ok (.ldc 254, 2) := by decide +kernel
theorem dX2_greatestShared_2 : decode cX2_greatestShared 2 = .ok (.istore_n 2, 1) := by decide +kernel
theorem dX2_greatestShared_3 : decode cX2_greatestShared 3 = .ok (.iconst 0, 1) := by decide +kernel
theorem dX2_greatestShared_4 : decode cX2_greatestShared 4 = .ok (.istore_n 3, 1) := by decide +kernel
theorem dX2_greatestShared_5 : decode cX2_greatestShared 5 = .ok (.iload_n 3, 1) := by decide +kernel
theorem dX2_greatestShared_6 : decode cX2_greatestShared 6 = .ok (.iconst 3, 1) := by decide +kernel
theorem dX2_greatestShared_7 : decode cX2_greatestShared 7 = .ok (.if_icmp .ge 29, 3) := by decide +kernel
theorem dX2_greatestShared_10 : decode cX2_greatestShared 10 = .ok (.iload_n 1, 1) := by decide +kernel
theorem dX2_greatestShared_11 : decode cX2_greatestShared 11 = .ok (.iload_n 3, 1) := by decide +kernel
theorem dX2_greatestShared_12 : decode cX2_greatestShared 12 = .ok (.invokestatic 111, 3) := by decide +kernel
theorem dX2_greatestShared_15 : decode cX2_greatestShared 15 = .ok (.iconst 1, 1) := by decide +kernel
theorem dX2_greatestShared_16 : decode cX2_greatestShared 16 = .ok (.if_icmp .ne 14, 3) := by decide +kernel
theorem dX2_greatestShared_19 : decode cX2_greatestShared 19 = .ok (.iload_n 2, 1) := by decide +kernel
theorem dX2_greatestShared_20 : decode cX2_greatestShared 20 = .ok (.aload_n 0, 1) := by decide +kernel
theorem dX2_greatestShared_21 : decode cX2_greatestShared 21 = .ok (.getfield 50, 3) := by decide +kernel
theorem dX2_greatestShared_24 : decode cX2_greatestShared 24 = .ok (.iload_n 3, 1) := by decide +kernel
theorem dX2_greatestShared_25 : decode cX2_greatestShared 25 = .ok (.iaload, 1) := by decide +kernel
theorem dX2_greatestShared_26 : decode cX2_greatestShared 26 = .ok (.invokestatic 215, 3) := by decide +kernel
theorem dX2_greatestShared_29 : decode cX2_greatestShared 29 = .ok (.istore_n 2, 1) := by decide +kernel
theorem dX2_greatestShared_30 : decode cX2_greatestShared 30 = .ok (.iinc 3 1, 3) := by decide +kernel
theorem dX2_greatestShared_33 : decode cX2_greatestShared 33 = .ok (.goto (-28), 3) := by decide +kernel
theorem dX2_greatestShared_36 : decode cX2_greatestShared 36 = .ok (.iload_n 2, 1) := by decide +kernel
theorem dX2_greatestShared_37 : decode cX2_greatestShared 37 = .ok (.ireturn, 1) := by decide +kernel
theorem dX2_weigh_0 : decode cX2_weigh 0 = .ok (.aload_n 0, 1) := by decide +kernel
theorem dX2_weigh_1 : decode cX2_weigh 1 = .ok (.iload_n 2, 1) := by decide +kernel
theorem dX2_weigh_2 : decode cX2_weigh 2 = .ok (.invokevirtual 193, 3) := by decide +kernel
theorem dX2_weigh_5 : decode cX2_weigh 5 = .ok (.aload_n 0, 1) := by decide +kernel
theorem dX2_weigh_6 : decode cX2_weigh 6 = .ok (.iload_n 2, 1) := by decide +kernel
theorem dX2_weigh_7 : decode cX2_weigh 7 = .ok (.invokevirtual 196, 3) := by decide +kernel
theorem dX2_weigh_10 : decode cX2_weigh 10 = .ok (.if_icmp .le 5, 3) := by decide +kernel
theorem dX2_weigh_13 : decode cX2_weigh 13 = .ok (.iconst 0, 1) := by decide +kernel
theorem dX2_weigh_14 : decode cX2_weigh 14 = .ok (.ireturn, 1) := by decide +kernel
theorem dX2_weigh_15 : decode cX2_weigh 15 = .ok (.iconst 1, 1) := by decide +kernel
theorem dX2_weigh_16 : decode cX2_weigh 16 = .ok (.istore_n 3, 1) := by decide +kernel
theorem dX2_weigh_17 : decode cX2_weigh 17 = .ok (.iconst 0, 1) := by decide +kernel
theorem dX2_weigh_18 : decode cX2_weigh 18 = .ok (.istore 4, 2) := by decide +kernel
theorem dX2_weigh_20 : decode cX2_weigh 20 = .ok (.iload 4, 2) := by decide +kernel
theorem dX2_weigh_22 : decode cX2_weigh 22 = .ok (.iconst 3, 1) := by decide +kernel
theorem dX2_weigh_23 : decode cX2_weigh 23 = .ok (.if_icmp .ge 42, 3) := by decide +kernel
theorem dX2_weigh_26 : decode cX2_weigh 26 = .ok (.iload_n 3, 1) := by decide +kernel
theorem dX2_weigh_27 : decode cX2_weigh 27 = .ok (.iload_n 2, 1) := by decide +kernel
theorem dX2_weigh_28 : decode cX2_weigh 28 = .ok (.iload 4, 2) := by decide +kernel
theorem dX2_weigh_30 : decode cX2_weigh 30 = .ok (.invokestatic 111, 3) := by decide +kernel
theorem dX2_weigh_33 : decode cX2_weigh 33 = .ok (.iconst 1, 1) := by decide +kernel
theorem dX2_weigh_34 : decode cX2_weigh 34 = .ok (.if_icmp .ne 16, 3) := by decide +kernel
theorem dX2_weigh_37 : decode cX2_weigh 37 = .ok (.bipush 10, 2) := by decide +kernel
theorem dX2_weigh_39 : decode cX2_weigh 39 = .ok (.aload_n 1, 1) := by decide +kernel
theorem dX2_weigh_40 : decode cX2_weigh 40 = .ok (.getfield 154, 3) := by decide +kernel
theorem dX2_weigh_43 : decode cX2_weigh 43 = .ok (.iload 4, 2) := by decide +kernel
theorem dX2_weigh_45 : decode cX2_weigh 45 = .ok (.iaload, 1) := by decide +kernel
theorem dX2_weigh_46 : decode cX2_weigh 46 = .ok (.isub, 1) := by decide +kernel
theorem dX2_weigh_47 : decode cX2_weigh 47 = .ok (.goto 10, 3) := by decide +kernel
theorem dX2_weigh_50 : decode cX2_weigh 50 = .ok (.aload_n 1, 1) := by decide +kernel
theorem dX2_weigh_51 : decode cX2_weigh 51 = .ok (.getfield 154, 3) := by decide +kernel
theorem dX2_weigh_54 : decode cX2_weigh 54 = .ok (.iload 4, 2) := by decide +kernel
theorem dX2_weigh_56 : decode cX2_weigh 56 = .ok (.iaload, 1) := by decide +kernel
theorem dX2_weigh_57 : decode cX2_weigh 57 = .ok (.imul, 1) := by decide +kernel
theorem dX2_weigh_58 : decode cX2_weigh 58 = .ok (.istore_n 3, 1) := by decide +kernel
theorem dX2_weigh_59 : decode cX2_weigh 59 = .ok (.iinc 4 1, 3) := by decide +kernel
theorem dX2_weigh_62 : decode cX2_weigh 62 = .ok (.goto (-42), 3) := by decide +kernel
theorem dX2_weigh_65 : decode cX2_weigh 65 = .ok (.iload_n 3, 1) := by decide +kernel
theorem dX2_weigh_66 : decode cX2_weigh 66 = .ok (.ireturn, 1) := by decide +kernel
theorem dX2_heaviest_0 : decode cX2_heaviest 0 = .ok (.iconst 0, 1) := by decide +kernel
theorem dX2_heaviest_1 : decode cX2_heaviest 1 = .ok (.istore_n 2, 1) := by decide +kernel
theorem dX2_heaviest_2 : decode cX2_heaviest 2 = .ok (.aload_n 0, 1) := by decide +kernel
theorem dX2_heaviest_3 : decode cX2_heaviest 3 = .ok (.aload_n 1, 1) := by decide +kernel
theorem dX2_heaviest_4 : decode cX2_heaviest 4 = .ok (.iconst 0, 1) := by decide +kernel
theorem dX2_heaviest_5 : decode cX2_heaviest 5 = .ok (.invokevirtual 178, 3) := by decide +kernel
theorem dX2_heaviest_8 : decode cX2_heaviest 8 = .ok (.istore_n 3, 1) := by decide +kernel
theorem dX2_heaviest_9 : decode cX2_heaviest 9 = .ok (.iconst 1, 1) := by decide +kernel
theorem dX2_heaviest_10 : decode cX2_heaviest 10 = .ok (.istore 4, 2) := by decide +kernel
theorem dX2_heaviest_12 : decode cX2_heaviest 12 = .ok (.iload 4, 2) := by decide +kernel
theorem dX2_heaviest_14 : decode cX2_heaviest 14 = .ok (.bipush 8, 2) := by decide +kernel
theorem dX2_heaviest_16 : decode cX2_heaviest 16 = .ok (.if_icmp .ge 48, 3) := by decide +kernel
theorem dX2_heaviest_19 : decode cX2_heaviest 19 = .ok (.aload_n 0, 1) := by decide +kernel
theorem dX2_heaviest_20 : decode cX2_heaviest 20 = .ok (.aload_n 1, 1) := by decide +kernel
theorem dX2_heaviest_21 : decode cX2_heaviest 21 = .ok (.iload 4, 2) := by decide +kernel
theorem dX2_heaviest_23 : decode cX2_heaviest 23 = .ok (.invokevirtual 178, 3) := by decide +kernel
theorem dX2_heaviest_26 : decode cX2_heaviest 26 = .ok (.istore 5, 2) := by decide +kernel
theorem dX2_heaviest_28 : decode cX2_heaviest 28 = .ok (.iload 5, 2) := by decide +kernel
theorem dX2_heaviest_30 : decode cX2_heaviest 30 = .ok (.iload_n 3, 1) := by decide +kernel
theorem dX2_heaviest_31 : decode cX2_heaviest 31 = .ok (.if_icmp .gt 21, 3) := by decide +kernel
theorem dX2_heaviest_34 : decode cX2_heaviest 34 = .ok (.iload 5, 2) := by decide +kernel
theorem dX2_heaviest_36 : decode cX2_heaviest 36 = .ok (.iload_n 3, 1) := by decide +kernel
theorem dX2_heaviest_37 : decode cX2_heaviest 37 = .ok (.if_icmp .ne 21, 3) := by decide +kernel
theorem dX2_heaviest_40 : decode cX2_heaviest 40 = .ok (.iload 4, 2) := by decide +kernel
theorem dX2_heaviest_42 : decode cX2_heaviest 42 = .ok (.invokestatic 256, 3) := by decide +kernel
theorem dX2_heaviest_45 : decode cX2_heaviest 45 = .ok (.iload_n 2, 1) := by decide +kernel
theorem dX2_heaviest_46 : decode cX2_heaviest 46 = .ok (.invokestatic 256, 3) := by decide +kernel
theorem dX2_heaviest_49 : decode cX2_heaviest 49 = .ok (.if_icmp .le 9, 3) := by decide +kernel
theorem dX2_heaviest_52 : decode cX2_heaviest 52 = .ok (.iload 4, 2) := by decide +kernel
theorem dX2_heaviest_54 : decode cX2_heaviest 54 = .ok (.istore_n 2, 1) := by decide +kernel
theorem dX2_heaviest_55 : decode cX2_heaviest 55 = .ok (.iload 5, 2) := by decide +kernel
theorem dX2_heaviest_57 : decode cX2_heaviest 57 = .ok (.istore_n 3, 1) := by decide +kernel
theorem dX2_heaviest_58 : decode cX2_heaviest 58 = .ok (.iinc 4 1, 3) := by decide +kernel
theorem dX2_heaviest_61 : decode cX2_heaviest 61 = .ok (.goto (-49), 3) := by decide +kernel
theorem dX2_heaviest_64 : decode cX2_heaviest 64 = .ok (.iload_n 2, 1) := by decide +kernel
theorem dX2_heaviest_65 : decode cX2_heaviest 65 = .ok (.ireturn, 1) := by decide +kernel
theorem dX2_countSuspects_0 : decode cX2_countSuspects 0 = .ok (.iconst 0, 1) := by decide +kernel
theorem dX2_countSuspects_1 : decode cX2_countSuspects 1 = .ok (.istore_n 2, 1) := by decide +kernel
theorem dX2_countSuspects_2 : decode cX2_countSuspects 2 = .ok (.iconst 0, 1) := by decide +kernel
theorem dX2_countSuspects_3 : decode cX2_countSuspects 3 = .ok (.istore_n 3, 1) := by decide +kernel
theorem dX2_countSuspects_4 : decode cX2_countSuspects 4 = .ok (.iload_n 3, 1) := by decide +kernel
theorem dX2_countSuspects_5 : decode cX2_countSuspects 5 = .ok (.aload_n 0, 1) := by decide +kernel
theorem dX2_countSuspects_6 : decode cX2_countSuspects 6 = .ok (.getfield 126, 3) := by decide +kernel
theorem dX2_countSuspects_9 : decode cX2_countSuspects 9 = .ok (.if_icmp .ge 76, 3) := by decide +kernel
theorem dX2_countSuspects_12 : decode cX2_countSuspects 12 = .ok (.iconst 0, 1) := by decide +kernel
theorem dX2_countSuspects_13 : decode cX2_countSuspects 13 = .ok (.istore 4, 2) := by decide +kernel
theorem dX2_countSuspects_15 : decode cX2_countSuspects 15 = .ok (.iload 4, 2) := by decide +kernel
theorem dX2_countSuspects_17 : decode cX2_countSuspects 17 = .ok (.iconst 3, 1) := by decide +kernel
theorem dX2_countSuspects_18 : decode cX2_countSuspects 18 = .ok (.if_icmp .ge 61, 3) := by decide +kernel
theorem dX2_countSuspects_21 : decode cX2_countSuspects 21 = .ok (.aload_n 0, 1) := by decide +kernel
theorem dX2_countSuspects_22 : decode cX2_countSuspects 22 = .ok (.aload_n 0, 1) := by decide +kernel
theorem dX2_countSuspects_23 : decode cX2_countSuspects 23 = .ok (.getfield 37, 3) := by decide +kernel
theorem dX2_countSuspects_26 : decode cX2_countSuspects 26 = .ok (.iload_n 3, 1) := by decide +kernel
theorem dX2_countSuspects_27 : decode cX2_countSuspects 27 = .ok (.aaload, 1) := by decide +kernel
theorem dX2_countSuspects_28 : decode cX2_countSuspects 28 = .ok (.iload 4, 2) := by decide +kernel
theorem dX2_countSuspects_30 : decode cX2_countSuspects 30 = .ok (.iload_n 1, 1) := by decide +kernel
theorem dX2_countSuspects_31 : decode cX2_countSuspects 31 = .ok (.invokevirtual 261, 3) := by decide +kernel
theorem dX2_countSuspects_34 : decode cX2_countSuspects 34 = .ok (.ifCond .eq 39, 3) := by decide +kernel
theorem dX2_countSuspects_37 : decode cX2_countSuspects 37 = .ok (.aload_n 0, 1) := by decide +kernel
theorem dX2_countSuspects_38 : decode cX2_countSuspects 38 = .ok (.aload_n 0, 1) := by decide +kernel
theorem dX2_countSuspects_39 : decode cX2_countSuspects 39 = .ok (.getfield 37, 3) := by decide +kernel
theorem dX2_countSuspects_42 : decode cX2_countSuspects 42 = .ok (.iload_n 3, 1) := by decide +kernel
theorem dX2_countSuspects_43 : decode cX2_countSuspects 43 = .ok (.aaload, 1) := by decide +kernel
theorem dX2_countSuspects_44 : decode cX2_countSuspects 44 = .ok (.iload 4, 2) := by decide +kernel
theorem dX2_countSuspects_46 : decode cX2_countSuspects 46 = .ok (.invokevirtual 157, 3) := by decide +kernel
theorem dX2_countSuspects_49 : decode cX2_countSuspects 49 = .ok (.ifCond .ne 24, 3) := by decide +kernel
theorem dX2_countSuspects_52 : decode cX2_countSuspects 52 = .ok (.aload_n 0, 1) := by decide +kernel
theorem dX2_countSuspects_53 : decode cX2_countSuspects 53 = .ok (.aload_n 0, 1) := by decide +kernel
theorem dX2_countSuspects_54 : decode cX2_countSuspects 54 = .ok (.getfield 37, 3) := by decide +kernel
theorem dX2_countSuspects_57 : decode cX2_countSuspects 57 = .ok (.iload_n 3, 1) := by decide +kernel
theorem dX2_countSuspects_58 : decode cX2_countSuspects 58 = .ok (.aaload, 1) := by decide +kernel
theorem dX2_countSuspects_59 : decode cX2_countSuspects 59 = .ok (.iload 4, 2) := by decide +kernel
theorem dX2_countSuspects_61 : decode cX2_countSuspects 61 = .ok (.iload_n 1, 1) := by decide +kernel
theorem dX2_countSuspects_62 : decode cX2_countSuspects 62 = .ok (.iconst (-1), 1) := by decide +kernel
theorem dX2_countSuspects_63 : decode cX2_countSuspects 63 = .ok (.iconst 0, 1) := by decide +kernel
theorem dX2_countSuspects_64 : decode cX2_countSuspects 64 = .ok (.invokevirtual 237, 3) := by decide +kernel
theorem dX2_countSuspects_67 : decode cX2_countSuspects 67 = .ok (.ifCond .eq 6, 3) := by decide +kernel
theorem dX2_countSuspects_70 : decode cX2_countSuspects 70 = .ok (.iinc 2 1, 3) := by decide +kernel
theorem dX2_countSuspects_73 : decode cX2_countSuspects 73 = .ok (.iinc 4 1, 3) := by decide +kernel
theorem dX2_countSuspects_76 : decode cX2_countSuspects 76 = .ok (.goto (-61), 3) := by decide +kernel
theorem dX2_countSuspects_79 : decode cX2_countSuspects 79 = .ok (.iinc 3 1, 3) := by decide +kernel
theorem dX2_countSuspects_82 : decode cX2_countSuspects 82 = .ok (.goto (-78), 3) := by decide +kernel
theorem dX2_countSuspects_85 : decode cX2_countSuspects 85 = .ok (.iload_n 2, 1) := by decide +kernel
theorem dX2_countSuspects_86 : decode cX2_countSuspects 86 = .ok (.ireturn, 1) := by decide +kernel
theorem dX2_firstFittingSlip_0 : decode cX2_firstFittingSlip 0 = .ok (.aload_n 0, 1) := by decide +kernel
theorem dX2_firstFittingSlip_1 : decode cX2_firstFittingSlip 1 = .ok (.getfield 126, 3) := by decide +kernel
theorem dX2_firstFittingSlip_4 : decode cX2_firstFittingSlip 4 = .ok (.iconst 3, 1) := by decide +kernel
theorem dX2_firstFittingSlip_5 : decode cX2_firstFittingSlip 5 = .ok (.imul, 1) := by decide +kernel
theorem dX2_firstFittingSlip_6 : decode cX2_firstFittingSlip 6 = .ok (.istore 4, 2) := by decide +kernel
theorem dX2_firstFittingSlip_8 : decode cX2_firstFittingSlip 8 = .ok (.iload_n 2, 1) := by decide +kernel
theorem dX2_firstFittingSlip_9 : decode cX2_firstFittingSlip 9 = .ok (.istore 5, 2) := by decide +kernel
theorem dX2_firstFittingSlip_11 : decode cX2_firstFittingSlip 11 = .ok (.iconst 0, 1) := by decide +kernel
theorem dX2_firstFittingSlip_12 : decode cX2_firstFittingSlip 12 = .ok (.istore 6, 2) := by decide +kernel
theorem dX2_firstFittingSlip_14 : decode cX2_firstFittingSlip 14 = .ok (.iconst 0, 1) := by decide +kernel
theorem dX2_firstFittingSlip_15 : decode cX2_firstFittingSlip 15 = .ok (.istore 7, 2) := by decide +kernel
theorem dX2_firstFittingSlip_17 : decode cX2_firstFittingSlip 17 = .ok (.iconst 0, 1) := by decide +kernel
theorem dX2_firstFittingSlip_18 : decode cX2_firstFittingSlip 18 = .ok (.istore 8, 2) := by decide +kernel
theorem dX2_firstFittingSlip_20 : decode cX2_firstFittingSlip 20 = .ok (.iload 8, 2) := by decide +kernel
theorem dX2_firstFittingSlip_22 : decode cX2_firstFittingSlip 22 = .ok (.ldc 254, 2) := by decide +kernel
theorem dX2_firstFittingSlip_24 : decode cX2_firstFittingSlip 24 = .ok (.if_icmp .ge 73, 3) := by decide +kernel
theorem dX2_firstFittingSlip_27 : decode cX2_firstFittingSlip 27 = .ok (.iload 7, 2) := by decide +kernel
theorem dX2_firstFittingSlip_29 : decode cX2_firstFittingSlip 29 = .ok (.iload 4, 2) := by decide +kernel
theorem dX2_firstFittingSlip_31 : decode cX2_firstFittingSlip 31 = .ok (.if_icmp .ge 66, 3) := by decide +kernel
theorem dX2_firstFittingSlip_34 : decode cX2_firstFittingSlip 34 = .ok (.iload 5, 2) := by decide +kernel
theorem dX2_firstFittingSlip_36 : decode cX2_firstFittingSlip 36 = .ok (.bipush 60, 2) := by decide +kernel
theorem dX2_firstFittingSlip_38 : decode cX2_firstFittingSlip 38 = .ok (.invokestatic 68, 3) := by decide +kernel
theorem dX2_firstFittingSlip_41 : decode cX2_firstFittingSlip 41 = .ok (.ifCond .ne 56, 3) := by decide +kernel
theorem dX2_firstFittingSlip_44 : decode cX2_firstFittingSlip 44 = .ok (.aload_n 0, 1) := by decide +kernel
theorem dX2_firstFittingSlip_45 : decode cX2_firstFittingSlip 45 = .ok (.aload_n 0, 1) := by decide +kernel
theorem dX2_firstFittingSlip_46 : decode cX2_firstFittingSlip 46 = .ok (.getfield 37, 3) := by decide +kernel
theorem dX2_firstFittingSlip_49 : decode cX2_firstFittingSlip 49 = .ok (.iload 6, 2) := by decide +kernel
theorem dX2_firstFittingSlip_51 : decode cX2_firstFittingSlip 51 = .ok (.iconst 3, 1) := by decide +kernel
theorem dX2_firstFittingSlip_52 : decode cX2_firstFittingSlip 52 = .ok (.idiv, 1) := by decide +kernel
theorem dX2_firstFittingSlip_53 : decode cX2_firstFittingSlip 53 = .ok (.aaload, 1) := by decide +kernel
theorem dX2_firstFittingSlip_54 : decode cX2_firstFittingSlip 54 = .ok (.iload 6, 2) := by decide +kernel
theorem dX2_firstFittingSlip_56 : decode cX2_firstFittingSlip 56 = .ok (.iconst 3, 1) := by decide +kernel
theorem dX2_firstFittingSlip_57 : decode cX2_firstFittingSlip 57 = .ok (.irem, 1) := by decide +kernel
theorem dX2_firstFittingSlip_58 : decode cX2_firstFittingSlip 58 = .ok (.iload_n 1, 1) := by decide +kernel
theorem dX2_firstFittingSlip_59 : decode cX2_firstFittingSlip 59 = .ok (.iload 5, 2) := by decide +kernel
theorem dX2_firstFittingSlip_61 : decode cX2_firstFittingSlip 61 = .ok (.invokevirtual 265, 3) := by decide +kernel
theorem dX2_firstFittingSlip_64 : decode cX2_firstFittingSlip 64 = .ok (.ifCond .eq 18, 3) := by decide +kernel
theorem dX2_firstFittingSlip_67 : decode cX2_firstFittingSlip 67 = .ok (.iinc 7 1, 3) := by decide +kernel
theorem dX2_firstFittingSlip_70 : decode cX2_firstFittingSlip 70 = .ok (.iload 6, 2) := by decide +kernel
theorem dX2_firstFittingSlip_72 : decode cX2_firstFittingSlip 72 = .ok (.iconst 1, 1) := by decide +kernel
theorem dX2_firstFittingSlip_73 : decode cX2_firstFittingSlip 73 = .ok (.iadd, 1) := by decide +kernel
theorem dX2_firstFittingSlip_74 : decode cX2_firstFittingSlip 74 = .ok (.iload 4, 2) := by decide +kernel
theorem dX2_firstFittingSlip_76 : decode cX2_firstFittingSlip 76 = .ok (.irem, 1) := by decide +kernel
theorem dX2_firstFittingSlip_77 : decode cX2_firstFittingSlip 77 = .ok (.istore 6, 2) := by decide +kernel
theorem dX2_firstFittingSlip_79 : decode cX2_firstFittingSlip 79 = .ok (.goto 12, 3) := by decide +kernel
theorem dX2_firstFittingSlip_82 : decode cX2_firstFittingSlip 82 = .ok (.iconst 0, 1) := by decide +kernel
theorem dX2_firstFittingSlip_83 : decode cX2_firstFittingSlip 83 = .ok (.istore 7, 2) := by decide +kernel
theorem dX2_firstFittingSlip_85 : decode cX2_firstFittingSlip 85 = .ok (.iload 5, 2) := by decide +kernel
theorem dX2_firstFittingSlip_87 : decode cX2_firstFittingSlip 87 = .ok (.iload_n 3, 1) := by decide +kernel
theorem dX2_firstFittingSlip_88 : decode cX2_firstFittingSlip 88 = .ok (.iadd, 1) := by decide +kernel
theorem dX2_firstFittingSlip_89 : decode cX2_firstFittingSlip 89 = .ok (.istore 5, 2) := by decide +kernel
theorem dX2_firstFittingSlip_91 : decode cX2_firstFittingSlip 91 = .ok (.iinc 8 1, 3) := by decide +kernel
theorem dX2_firstFittingSlip_94 : decode cX2_firstFittingSlip 94 = .ok (.goto (-74), 3) := by decide +kernel
theorem dX2_firstFittingSlip_97 : decode cX2_firstFittingSlip 97 = .ok (.iload 5, 2) := by decide +kernel
theorem dX2_firstFittingSlip_99 : decode cX2_firstFittingSlip 99 = .ok (.ireturn, 1) := by decide +kernel
theorem dX2_bearsSlip_0 : decode cX2_bearsSlip 0 = .ok (.aload_n 0, 1) := by decide +kernel
theorem dX2_bearsSlip_1 : decode cX2_bearsSlip 1 = .ok (.aload_n 1, 1) := by decide +kernel
theorem dX2_bearsSlip_2 : decode cX2_bearsSlip 2 = .ok (.iload_n 2, 1) := by decide +kernel
theorem dX2_bearsSlip_3 : decode cX2_bearsSlip 3 = .ok (.iload_n 3, 1) := by decide +kernel
theorem dX2_bearsSlip_4 : decode cX2_bearsSlip 4 = .ok (.invokevirtual 261, 3) := by decide +kernel
theorem dX2_bearsSlip_7 : decode cX2_bearsSlip 7 = .ok (.ifCond .eq 23, 3) := by decide +kernel
theorem dX2_bearsSlip_10 : decode cX2_bearsSlip 10 = .ok (.aload_n 0, 1) := by decide +kernel
theorem dX2_bearsSlip_11 : decode cX2_bearsSlip 11 = .ok (.aload_n 1, 1) := by decide +kernel
theorem dX2_bearsSlip_12 : decode cX2_bearsSlip 12 = .ok (.iload_n 2, 1) := by decide +kernel
theorem dX2_bearsSlip_13 : decode cX2_bearsSlip 13 = .ok (.iconst (-1), 1) := by decide +kernel
theorem dX2_bearsSlip_14 : decode cX2_bearsSlip 14 = .ok (.iload_n 3, 1) := by decide +kernel
theorem dX2_bearsSlip_15 : decode cX2_bearsSlip 15 = .ok (.iload 4, 2) := by decide +kernel
theorem dX2_bearsSlip_17 : decode cX2_bearsSlip 17 = .ok (.aload_n 0, 1) := by decide +kernel
theorem dX2_bearsSlip_18 : decode cX2_bearsSlip 18 = .ok (.getfield 29, 3) := by decide +kernel
theorem dX2_bearsSlip_21 : decode cX2_bearsSlip 21 = .ok (.iload_n 3, 1) := by decide +kernel
theorem dX2_bearsSlip_22 : decode cX2_bearsSlip 22 = .ok (.iaload, 1) := by decide +kernel
theorem dX2_bearsSlip_23 : decode cX2_bearsSlip 23 = .ok (.isub, 1) := by decide +kernel
theorem dX2_bearsSlip_24 : decode cX2_bearsSlip 24 = .ok (.invokevirtual 237, 3) := by decide +kernel
theorem dX2_bearsSlip_27 : decode cX2_bearsSlip 27 = .ok (.ifCond .eq 7, 3) := by decide +kernel
theorem dX2_bearsSlip_30 : decode cX2_bearsSlip 30 = .ok (.iconst 1, 1) := by decide +kernel
theorem dX2_bearsSlip_31 : decode cX2_bearsSlip 31 = .ok (.goto 4, 3) := by decide +kernel
theorem dX2_bearsSlip_34 : decode cX2_bearsSlip 34 = .ok (.iconst 0, 1) := by decide +kernel
theorem dX2_bearsSlip_35 : decode cX2_bearsSlip 35 = .ok (.ireturn, 1) := by decide +kernel
theorem dJ6_bitCount_0f7a4_0 : decode cJ6_bitCount_0f7a4 0 = .ok (.iload_n 0, 1) := by decide +kernel
theorem dJ6_bitCount_0f7a4_1 : decode cJ6_bitCount_0f7a4 1 = .ok (.iload_n 0, 1) := by decide +kernel
theorem dJ6_bitCount_0f7a4_2 : decode cJ6_bitCount_0f7a4 2 = .ok (.iconst 1, 1) := by decide +kernel
theorem dJ6_bitCount_0f7a4_3 : decode cJ6_bitCount_0f7a4 3 = .ok (.iushr, 1) := by decide +kernel
theorem dJ6_bitCount_0f7a4_4 : decode cJ6_bitCount_0f7a4 4 = .ok (.ldc_w 265, 3) := by decide +kernel
theorem dJ6_bitCount_0f7a4_7 : decode cJ6_bitCount_0f7a4 7 = .ok (.iand, 1) := by decide +kernel
theorem dJ6_bitCount_0f7a4_8 : decode cJ6_bitCount_0f7a4 8 = .ok (.isub, 1) := by decide +kernel
theorem dJ6_bitCount_0f7a4_9 : decode cJ6_bitCount_0f7a4 9 = .ok (.istore_n 0, 1) := by decide +kernel
theorem dJ6_bitCount_0f7a4_10 : decode cJ6_bitCount_0f7a4 10 = .ok (.iload_n 0, 1) := by decide +kernel
theorem dJ6_bitCount_0f7a4_11 : decode cJ6_bitCount_0f7a4 11 = .ok (.ldc_w 266, 3) := by decide +kernel
theorem dJ6_bitCount_0f7a4_14 : decode cJ6_bitCount_0f7a4 14 = .ok (.iand, 1) := by decide +kernel
theorem dJ6_bitCount_0f7a4_15 : decode cJ6_bitCount_0f7a4 15 = .ok (.iload_n 0, 1) := by decide +kernel
theorem dJ6_bitCount_0f7a4_16 : decode cJ6_bitCount_0f7a4 16 = .ok (.iconst 2, 1) := by decide +kernel
theorem dJ6_bitCount_0f7a4_17 : decode cJ6_bitCount_0f7a4 17 = .ok (.iushr, 1) := by decide +kernel
theorem dJ6_bitCount_0f7a4_18 : decode cJ6_bitCount_0f7a4 18 = .ok (.ldc_w 266, 3) := by decide +kernel
theorem dJ6_bitCount_0f7a4_21 : decode cJ6_bitCount_0f7a4 21 = .ok (.iand, 1) := by decide +kernel
theorem dJ6_bitCount_0f7a4_22 : decode cJ6_bitCount_0f7a4 22 = .ok (.iadd, 1) := by decide +kernel
theorem dJ6_bitCount_0f7a4_23 : decode cJ6_bitCount_0f7a4 23 = .ok (.istore_n 0, 1) := by decide +kernel
theorem dJ6_bitCount_0f7a4_24 : decode cJ6_bitCount_0f7a4 24 = .ok (.iload_n 0, 1) := by decide +kernel
theorem dJ6_bitCount_0f7a4_25 : decode cJ6_bitCount_0f7a4 25 = .ok (.iload_n 0, 1) := by decide +kernel
theorem dJ6_bitCount_0f7a4_26 : decode cJ6_bitCount_0f7a4 26 = .ok (.iconst 4, 1) := by decide +kernel
theorem dJ6_bitCount_0f7a4_27 : decode cJ6_bitCount_0f7a4 27 = .ok (.iushr, 1) := by decide +kernel
theorem dJ6_bitCount_0f7a4_28 : decode cJ6_bitCount_0f7a4 28 = .ok (.iadd, 1) := by decide +kernel
theorem dJ6_bitCount_0f7a4_29 : decode cJ6_bitCount_0f7a4 29 = .ok (.ldc_w 267, 3) := by decide +kernel
theorem dJ6_bitCount_0f7a4_32 : decode cJ6_bitCount_0f7a4 32 = .ok (.iand, 1) := by decide +kernel
theorem dJ6_bitCount_0f7a4_33 : decode cJ6_bitCount_0f7a4 33 = .ok (.istore_n 0, 1) := by decide +kernel
theorem dJ6_bitCount_0f7a4_34 : decode cJ6_bitCount_0f7a4 34 = .ok (.iload_n 0, 1) := by decide +kernel
theorem dJ6_bitCount_0f7a4_35 : decode cJ6_bitCount_0f7a4 35 = .ok (.iload_n 0, 1) := by decide +kernel
theorem dJ6_bitCount_0f7a4_36 : decode cJ6_bitCount_0f7a4 36 = .ok (.bipush 8, 2) := by decide +kernel
theorem dJ6_bitCount_0f7a4_38 : decode cJ6_bitCount_0f7a4 38 = .ok (.iushr, 1) := by decide +kernel
theorem dJ6_bitCount_0f7a4_39 : decode cJ6_bitCount_0f7a4 39 = .ok (.iadd, 1) := by decide +kernel
theorem dJ6_bitCount_0f7a4_40 : decode cJ6_bitCount_0f7a4 40 = .ok (.istore_n 0, 1) := by decide +kernel
theorem dJ6_bitCount_0f7a4_41 : decode cJ6_bitCount_0f7a4 41 = .ok (.iload_n 0, 1) := by decide +kernel
theorem dJ6_bitCount_0f7a4_42 : decode cJ6_bitCount_0f7a4 42 = .ok (.iload_n 0, 1) := by decide +kernel
theorem dJ6_bitCount_0f7a4_43 : decode cJ6_bitCount_0f7a4 43 = .ok (.bipush 16, 2) := by decide +kernel
theorem dJ6_bitCount_0f7a4_45 : decode cJ6_bitCount_0f7a4 45 = .ok (.iushr, 1) := by decide +kernel
theorem dJ6_bitCount_0f7a4_46 : decode cJ6_bitCount_0f7a4 46 = .ok (.iadd, 1) := by decide +kernel
theorem dJ6_bitCount_0f7a4_47 : decode cJ6_bitCount_0f7a4 47 = .ok (.istore_n 0, 1) := by decide +kernel
theorem dJ6_bitCount_0f7a4_48 : decode cJ6_bitCount_0f7a4 48 = .ok (.iload_n 0, 1) := by decide +kernel
theorem dJ6_bitCount_0f7a4_49 : decode cJ6_bitCount_0f7a4 49 = .ok (.bipush 63, 2) := by decide +kernel
theorem dJ6_bitCount_0f7a4_51 : decode cJ6_bitCount_0f7a4 51 = .ok (.iand, 1) := by decide +kernel
theorem dJ6_bitCount_0f7a4_52 : decode cJ6_bitCount_0f7a4 52 = .ok (.ireturn, 1) := by decide +kernel
theorem dJ9_floorDiv_7cf53_0 : decode cJ9_floorDiv_7cf53 0 = .ok (.iload_n 0, 1) := by decide +kernel
theorem dJ9_floorDiv_7cf53_1 : decode cJ9_floorDiv_7cf53 1 = .ok (.iload_n 1, 1) := by decide +kernel
theorem dJ9_floorDiv_7cf53_2 : decode cJ9_floorDiv_7cf53 2 = .ok (.idiv, 1) := by decide +kernel
theorem dJ9_floorDiv_7cf53_3 : decode cJ9_floorDiv_7cf53 3 = .ok (.istore_n 2, 1) := by decide +kernel
theorem dJ9_floorDiv_7cf53_4 : decode cJ9_floorDiv_7cf53 4 = .ok (.iload_n 0, 1) := by decide +kernel
theorem dJ9_floorDiv_7cf53_5 : decode cJ9_floorDiv_7cf53 5 = .ok (.iload_n 1, 1) := by decide +kernel
theorem dJ9_floorDiv_7cf53_6 : decode cJ9_floorDiv_7cf53 6 = .ok (.ixor, 1) := by decide +kernel
theorem dJ9_floorDiv_7cf53_7 : decode cJ9_floorDiv_7cf53 7 = .ok (.ifCond .ge 14, 3) := by decide +kernel
theorem dJ9_floorDiv_7cf53_10 : decode cJ9_floorDiv_7cf53 10 = .ok (.iload_n 2, 1) := by decide +kernel
theorem dJ9_floorDiv_7cf53_11 : decode cJ9_floorDiv_7cf53 11 = .ok (.iload_n 1, 1) := by decide +kernel
theorem dJ9_floorDiv_7cf53_12 : decode cJ9_floorDiv_7cf53 12 = .ok (.imul, 1) := by decide +kernel
theorem dJ9_floorDiv_7cf53_13 : decode cJ9_floorDiv_7cf53 13 = .ok (.iload_n 0, 1) := by decide +kernel
theorem dJ9_floorDiv_7cf53_14 : decode cJ9_floorDiv_7cf53 14 = .ok (.if_icmp .eq 7, 3) := by decide +kernel
theorem dJ9_floorDiv_7cf53_17 : decode cJ9_floorDiv_7cf53 17 = .ok (.iload_n 2, 1) := by decide +kernel
theorem dJ9_floorDiv_7cf53_18 : decode cJ9_floorDiv_7cf53 18 = .ok (.iconst 1, 1) := by decide +kernel
theorem dJ9_floorDiv_7cf53_19 : decode cJ9_floorDiv_7cf53 19 = .ok (.isub, 1) := by decide +kernel
theorem dJ9_floorDiv_7cf53_20 : decode cJ9_floorDiv_7cf53 20 = .ok (.ireturn, 1) := by decide +kernel
theorem dJ9_floorDiv_7cf53_21 : decode cJ9_floorDiv_7cf53 21 = .ok (.iload_n 2, 1) := by decide +kernel
theorem dJ9_floorDiv_7cf53_22 : decode cJ9_floorDiv_7cf53 22 = .ok (.ireturn, 1) := by decide +kernel
theorem dJ9_max_7cf53_0 : decode cJ9_max_7cf53 0 = .ok (.iload_n 0, 1) := by decide +kernel
theorem dJ9_max_7cf53_1 : decode cJ9_max_7cf53 1 = .ok (.iload_n 1, 1) := by decide +kernel
theorem dJ9_max_7cf53_2 : decode cJ9_max_7cf53 2 = .ok (.if_icmp .lt 7, 3) := by decide +kernel
theorem dJ9_max_7cf53_5 : decode cJ9_max_7cf53 5 = .ok (.iload_n 0, 1) := by decide +kernel
theorem dJ9_max_7cf53_6 : decode cJ9_max_7cf53 6 = .ok (.goto 4, 3) := by decide +kernel
theorem dJ9_max_7cf53_9 : decode cJ9_max_7cf53 9 = .ok (.iload_n 1, 1) := by decide +kernel
theorem dJ9_max_7cf53_10 : decode cJ9_max_7cf53 10 = .ok (.ireturn, 1) := by decide +kernel
theorem dJ9_min_7cf53_0 : decode cJ9_min_7cf53 0 = .ok (.iload_n 0, 1) := by decide +kernel
theorem dJ9_min_7cf53_1 : decode cJ9_min_7cf53 1 = .ok (.iload_n 1, 1) := by decide +kernel
theorem dJ9_min_7cf53_2 : decode cJ9_min_7cf53 2 = .ok (.if_icmp .gt 7, 3) := by decide +kernel
theorem dJ9_min_7cf53_5 : decode cJ9_min_7cf53 5 = .ok (.iload_n 0, 1) := by decide +kernel
theorem dJ9_min_7cf53_6 : decode cJ9_min_7cf53 6 = .ok (.goto 4, 3) := by decide +kernel
theorem dJ9_min_7cf53_9 : decode cJ9_min_7cf53 9 = .ok (.iload_n 1, 1) := by decide +kernel
theorem dJ9_min_7cf53_10 : decode cJ9_min_7cf53 10 = .ok (.ireturn, 1) := by decide +kernel
end
section
theorem dX3_init_0 : decode cX3_init 0 = .ok (.aload_n 0, 1) := by decide +kernel
theorem dX3_init_1 : decode cX3_init 1 = .ok (.invokespecial 1, 3) := by decide +kernel
theorem dX3_init_4 : decode cX3_init 4 = .ok (.aload_n 0, 1) := by decide +kernel
theorem dX3_init_5 : decode cX3_init 5 = .ok (.bipush 21, 2) := by decide +kernel
theorem dX3_init_7 : decode cX3_init 7 = .ok (.newarray .int, 2) := by decide +kernel
theorem dX3_init_9 : decode cX3_init 9 = .ok (.putfield 7, 3) := by decide +kernel
theorem dX3_init_12 : decode cX3_init 12 = .ok (.aload_n 0, 1) := by decide +kernel
theorem dX3_init_13 : decode cX3_init 13 = .ok (.bipush 21, 2) := by decide +kernel
theorem dX3_init_15 : decode cX3_init 15 = .ok (.newarray .int, 2) := by decide +kernel
theorem dX3_init_17 : decode cX3_init 17 = .ok (.putfield 13, 3) := by decide +kernel
theorem dX3_init_20 : decode cX3_init 20 = .ok (.aload_n 0, 1) := by decide +kernel
theorem dX3_init_21 : decode cX3_init 21 = .ok (.bipush 21, 2) := by decide +kernel
theorem dX3_init_23 : decode cX3_init 23 = .ok (.newarray .int, 2) := by decide +kernel
theorem dX3_init_25 : decode cX3_init 25 = .ok (.putfield 16, 3) := by decide +kernel
theorem dX3_init_28 : decode cX3_init 28 = .ok (.aload_n 0, 1) := by decide +kernel
theorem dX3_init_29 : decode cX3_init 29 = .ok (.iconst 2, 1) := by decide +kernel
theorem dX3_init_30 : decode cX3_init 30 = .ok (.putfield 19, 3) := by decide +kernel
theorem dX3_init_33 : decode cX3_init 33 = .ok (.aload_n 0, 1) := by decide +kernel
theorem dX3_init_34 : decode cX3_init 34 = .ok (.bipush 21, 2) := by decide +kernel
theorem dX3_init_36 : decode cX3_init 36 = .ok (.newarray .int, 2) := by decide +kernel
theorem dX3_init_38 : decode cX3_init 38 = .ok (.putfield 23, 3) := by decide +kernel
theorem dX3_init_41 : decode cX3_init 41 = .ok (.aload_n 0, 1) := by decide +kernel
theorem dX3_init_42 : decode cX3_init 42 = .ok (.bipush 21, 2) := by decide +kernel
theorem dX3_init_44 : decode cX3_init 44 = .ok (.newarray .int, 2) := by decide +kernel
theorem dX3_init_46 : decode cX3_init 46 = .ok (.putfield 26, 3) := by decide +kernel
theorem dX3_init_49 : decode cX3_init 49 = .ok (.aload_n 0, 1) := by decide +kernel
theorem dX3_init_50 : decode cX3_init 50 = .ok (.iconst 2, 1) := by decide +kernel
theorem dX3_init_51 : decode cX3_init 51 = .ok (.newarray .int, 2) := by decide +kernel
theorem dX3_init_53 : decode cX3_init 53 = .ok (.putfield 29, 3) := by decide +kernel
theorem dX3_init_56 : decode cX3_init 56 = .ok (.aload_n 0, 1) := by decide +kernel
theorem dX3_init_57 : decode cX3_init 57 = .ok (.iconst 2, 1) := by decide +kernel
theorem dX3_init_58 : decode cX3_init 58 = .ok (.newarray .int, 2) := by decide +kernel
theorem dX3_init_60 : decode cX3_init 60 = .ok (.putfield 32, 3) := by decide +kernel
theorem dX3_init_63 : decode cX3_init 63 = .ok (.aload_n 0, 1) := by decide +kernel
theorem dX3_init_64 : decode cX3_init 64 = .ok (.bipush 20, 2) := by decide +kernel
theorem dX3_init_66 : decode cX3_init 66 = .ok (.newarray .int, 2) := by decide +kernel
theorem dX3_init_68 : decode cX3_init 68 = .ok (.putfield 35, 3) := by decide +kernel
theorem dX3_init_71 : decode cX3_init 71 = .ok (.aload_n 0, 1) := by decide +kernel
theorem dX3_init_72 : decode cX3_init 72 = .ok (.bipush 20, 2) := by decide +kernel
theorem dX3_init_74 : decode cX3_init 74 = .ok (.newarray .boolean, 2) := by decide +kernel
theorem dX3_init_76 : decode cX3_init 76 = .ok (.putfield 38, 3) := by decide +kernel
theorem dX3_init_79 : decode cX3_init 79 = .ok (.aload_n 0, 1) := by decide +kernel
theorem dX3_init_80 : decode cX3_init 80 = .ok (.bipush 20, 2) := by decide +kernel
theorem dX3_init_82 : decode cX3_init 82 = .ok (.newarray .int, 2) := by decide +kernel
theorem dX3_init_84 : decode cX3_init 84 = .ok (.putfield 42, 3) := by decide +kernel
theorem dX3_init_87 : decode cX3_init 87 = .ok (.aload_n 0, 1) := by decide +kernel
theorem dX3_init_88 : decode cX3_init 88 = .ok (.iconst 4, 1) := by decide +kernel
theorem dX3_init_89 : decode cX3_init 89 = .ok (.newarray .int, 2) := by decide +kernel
theorem dX3_init_91 : decode cX3_init 91 = .ok (.putfield 45, 3) := by decide +kernel
theorem dX3_init_94 : decode cX3_init 94 = .ok (.aload_n 0, 1) := by decide +kernel
theorem dX3_init_95 : decode cX3_init 95 = .ok (.bipush 48, 2) := by decide +kernel
theorem dX3_init_97 : decode cX3_init 97 = .ok (.newarray .int, 2) := by decide +kernel
theorem dX3_init_99 : decode cX3_init 99 = .ok (.putfield 48, 3) := by decide +kernel
theorem dX3_init_102 : decode cX3_init 102 = .ok (.aload_n 0, 1) := by decide +kernel
theorem dX3_init_103 : decode cX3_init 103 = .ok (.bipush 48, 2) := by decide +kernel
theorem dX3_init_105 : decode cX3_init 105 = .ok (.newarray .int, 2) := by decide +kernel
theorem dX3_init_107 : decode cX3_init 107 = .ok (.putfield 51, 3) := by decide +kernel
theorem dX3_init_110 : decode cX3_init 110 = .ok (.aload_n 0, 1) := by decide +kernel
theorem dX3_init_111 : decode cX3_init 111 = .ok (.bipush 48, 2) := by decide +kernel
theorem dX3_init_113 : decode cX3_init 113 = .ok (.newarray .int, 2) := by decide +kernel
theorem dX3_init_115 : decode cX3_init 115 = .ok (.putfield 54, 3) := by decide +kernel
theorem dX3_init_118 : decode cX3_init 118 = .ok (.aload_n 0, 1) := by decide +kernel
theorem dX3_init_119 : decode cX3_init 119 = .ok (.bipush 48, 2) := by decide +kernel
theorem dX3_init_121 : decode cX3_init 121 = .ok (.newarray .int, 2) := by decide +kernel
theorem dX3_init_123 : decode cX3_init 123 = .ok (.putfield 57, 3) := by decide +kernel
theorem dX3_init_126 : decode cX3_init 126 = .ok (.aload_n 0, 1) := by decide +kernel
theorem dX3_init_127 : decode cX3_init 127 = .ok (.bipush 48, 2) := by decide +kernel
theorem dX3_init_129 : decode cX3_init 129 = .ok (.newarray .int, 2) := by decide +kernel
theorem dX3_init_131 : decode cX3_init 131 = .ok (.putfield 60, 3) := by decide +kernel
theorem dX3_init_134 : decode cX3_init 134 = .ok (.aload_n 0, 1) := by decide +kernel
theorem dX3_init_135 : decode cX3_init 135 = .ok (.bipush 80, 2) := by decide +kernel
theorem dX3_init_137 : decode cX3_init 137 = .ok (.newarray .boolean, 2) := by decide +kernel
theorem dX3_init_139 : decode cX3_init 139 = .ok (.putfield 63, 3) := by decide +kernel
theorem dX3_init_142 : decode cX3_init 142 = .ok (.aload_n 0, 1) := by decide +kernel
theorem dX3_init_143 : decode cX3_init 143 = .ok (.bipush 12, 2) := by decide +kernel
theorem dX3_init_145 : decode cX3_init 145 = .ok (.newarray .int, 2) := by decide +kernel
theorem dX3_init_147 : decode cX3_init 147 = .ok (.putfield 66, 3) := by decide +kernel
theorem dX3_init_150 : decode cX3_init 150 = .ok (.aload_n 0, 1) := by decide +kernel
theorem dX3_init_151 : decode cX3_init 151 = .ok (.bipush 12, 2) := by decide +kernel
theorem dX3_init_153 : decode cX3_init 153 = .ok (.newarray .int, 2) := by decide +kernel
theorem dX3_init_155 : decode cX3_init 155 = .ok (.putfield 69, 3) := by decide +kernel
theorem dX3_init_158 : decode cX3_init 158 = .ok (.aload_n 0, 1) := by decide +kernel
theorem dX3_init_159 : decode cX3_init 159 = .ok (.iconst 4, 1) := by decide +kernel
theorem dX3_init_160 : decode cX3_init 160 = .ok (.newarray .int, 2) := by decide +kernel
theorem dX3_init_162 : decode cX3_init 162 = .ok (.putfield 72, 3) := by decide +kernel
theorem dX3_init_165 : decode cX3_init 165 = .ok (.aload_n 0, 1) := by decide +kernel
theorem dX3_init_166 : decode cX3_init 166 = .ok (.bipush 12, 2) := by decide +kernel
theorem dX3_init_168 : decode cX3_init 168 = .ok (.newarray .int, 2) := by decide +kernel
theorem dX3_init_170 : decode cX3_init 170 = .ok (.putfield 75, 3) := by decide +kernel
theorem dX3_init_173 : decode cX3_init 173 = .ok (.aload_n 0, 1) := by decide +kernel
theorem dX3_init_174 : decode cX3_init 174 = .ok (.iconst 4, 1) := by decide +kernel
theorem dX3_init_175 : decode cX3_init 175 = .ok (.newarray .int, 2) := by decide +kernel
theorem dX3_init_177 : decode cX3_init 177 = .ok (.putfield 78, 3) := by decide +kernel
theorem dX3_init_180 : decode cX3_init 180 = .ok (.aload_n 0, 1) := by decide +kernel
theorem dX3_init_181 : decode cX3_init 181 = .ok (.iconst 4, 1) := by decide +kernel
theorem dX3_init_182 : decode cX3_init 182 = .ok (.newarray .int, 2) := by decide +kernel
theorem dX3_init_184 : decode cX3_init 184 = .ok (.putfield 81, 3) := by decide +kernel
theorem dX3_init_187 : decode cX3_init 187 = .ok (.aload_n 0, 1) := by decide +kernel
theorem dX3_init_188 : decode cX3_init 188 = .ok (.bipush 21, 2) := by decide +kernel
theorem dX3_init_190 : decode cX3_init 190 = .ok (.newarray .int, 2) := by decide +kernel
theorem dX3_init_192 : decode cX3_init 192 = .ok (.putfield 84, 3) := by decide +kernel
theorem dX3_init_195 : decode cX3_init 195 = .ok (.aload_n 0, 1) := by decide +kernel
theorem dX3_init_196 : decode cX3_init 196 = .ok (.bipush 21, 2) := by decide +kernel
theorem dX3_init_198 : decode cX3_init 198 = .ok (.newarray .int, 2) := by decide +kernel
theorem dX3_init_200 : decode cX3_init 200 = .ok (.putfield 87, 3) := by decide +kernel
theorem dX3_init_203 : decode cX3_init 203 = .ok (.aload_n 0, 1) := by decide +kernel
theorem dX3_init_204 : decode cX3_init 204 = .ok (.bipush 20, 2) := by decide +kernel
theorem dX3_init_206 : decode cX3_init 206 = .ok (.newarray .int, 2) := by decide +kernel
theorem dX3_init_208 : decode cX3_init 208 = .ok (.putfield 90, 3) := by decide +kernel
theorem dX3_init_211 : decode cX3_init 211 = .ok (.aload_n 0, 1) := by decide +kernel
theorem dX3_init_212 : decode cX3_init 212 = .ok (.bipush (-6), 2) := by decide +kernel
theorem dX3_init_214 : decode cX3_init 214 = .ok (.putfield 93, 3) := by decide +kernel
theorem dX3_init_217 : decode cX3_init 217 = .ok (.aload_n 0, 1) := by decide +kernel
theorem dX3_init_218 : decode cX3_init 218 = .ok (.iconst 3, 1) := by decide +kernel
theorem dX3_init_219 : decode cX3_init 219 = .ok (.newarray .int, 2) := by decide +kernel
theorem dX3_init_221 : decode cX3_init 221 = .ok (.putfield 96, 3) := by decide +kernel
theorem dX3_init_224 : decode cX3_init 224 = .ok (.aload_n 0, 1) := by decide +kernel
theorem dX3_init_225 : decode cX3_init 225 = .ok (.iconst 3, 1) := by decide +kernel
theorem dX3_init_226 : decode cX3_init 226 = .ok (.newarray .int, 2) := by decide +kernel
theorem dX3_init_228 : decode cX3_init 228 = .ok (.putfield 99, 3) := by decide +kernel
theorem dX3_init_231 : decode cX3_init 231 = .ok (.aload_n 0, 1) := by decide +kernel
theorem dX3_init_232 : decode cX3_init 232 = .ok (.iconst 3, 1) := by decide +kernel
theorem dX3_init_233 : decode cX3_init 233 = .ok (.newarray .boolean, 2) := by decide +kernel
theorem dX3_init_235 : decode cX3_init 235 = .ok (.putfield 102, 3) := by decide +kernel
theorem dX3_init_238 : decode cX3_init 238 = .ok (.iconst 0, 1) := by decide +kernel
theorem dX3_init_239 : decode cX3_init 239 = .ok (.istore_n 1, 1) := by decide +kernel
theorem dX3_init_240 : decode cX3_init 240 = .ok (.iload_n 1, 1) := by decide +kernel
theorem dX3_init_241 : decode cX3_init 241 = .ok (.bipush 20, 2) := by decide +kernel
theorem dX3_init_243 : decode cX3_init 243 = .ok (.if_icmp .ge 16, 3) := by decide +kernel
theorem dX3_init_246 : decode cX3_init 246 = .ok (.aload_n 0, 1) := by decide +kernel
theorem dX3_init_247 : decode cX3_init 247 = .ok (.getfield 42, 3) := by decide +kernel
theorem dX3_init_250 : decode cX3_init 250 = .ok (.iload_n 1, 1) := by decide +kernel
theorem dX3_init_251 : decode cX3_init 251 = .ok (.iconst 5, 1) := by decide +kernel
theorem dX3_init_252 : decode cX3_init 252 = .ok (.iastore, 1) := by decide +kernel
theorem dX3_init_253 : decode cX3_init 253 = .ok (.iinc 1 1, 3) := by decide +kernel
theorem dX3_init_256 : decode cX3_init 256 = .ok (.goto (-16), 3) := by decide +kernel
theorem dX3_init_259 : decode cX3_init 259 = .ok (.iconst 0, 1) := by decide +kernel
theorem dX3_init_260 : decode cX3_init 260 = .ok (.istore_n 1, 1) := by decide +kernel
theorem dX3_init_261 : decode cX3_init 261 = .ok (.iload_n 1, 1) := by decide +kernel
theorem dX3_init_262 : decode cX3_init 262 = .ok (.bipush 12, 2) := by decide +kernel
theorem dX3_init_264 : decode cX3_init 264 = .ok (.if_icmp .ge 16, 3) := by decide +kernel
theorem dX3_init_267 : decode cX3_init 267 = .ok (.aload_n 0, 1) := by decide +kernel
theorem dX3_init_268 : decode cX3_init 268 = .ok (.getfield 69, 3) := by decide +kernel
theorem dX3_init_271 : decode cX3_init 271 = .ok (.iload_n 1, 1) := by decide +kernel
theorem dX3_init_272 : decode cX3_init 272 = .ok (.iconst 1, 1) := by decide +kernel
theorem dX3_init_273 : decode cX3_init 273 = .ok (.iastore, 1) := by decide +kernel
theorem dX3_init_274 : decode cX3_init 274 = .ok (.iinc 1 1, 3) := by decide +kernel
theorem dX3_init_277 : decode cX3_init 277 = .ok (.goto (-16), 3) := by decide +kernel
theorem dX3_init_280 : decode cX3_init 280 = .ok (.iconst 0, 1) := by decide +kernel
theorem dX3_init_281 : decode cX3_init 281 = .ok (.istore_n 1, 1) := by decide +kernel
theorem dX3_init_282 : decode cX3_init 282 = .ok (.iload_n 1, 1) := by decide +kernel
theorem dX3_init_283 : decode cX3_init 283 = .ok (.iconst 4, 1) := by decide +kernel
theorem dX3_init_284 : decode cX3_init 284 = .ok (.if_icmp .ge 25, 3) := by decide +kernel
theorem dX3_init_287 : decode cX3_init 287 = .ok (.aload_n 0, 1) := by decide +kernel
theorem dX3_init_288 : decode cX3_init 288 = .ok (.getfield 78, 3) := by decide +kernel
theorem dX3_init_291 : decode cX3_init 291 = .ok (.iload_n 1, 1) := by decide +kernel
theorem dX3_init_292 : decode cX3_init 292 = .ok (.ldc 105, 2) := by decide +kernel
theorem dX3_init_294 : decode cX3_init 294 = .ok (.iastore, 1) := by decide +kernel
theorem dX3_init_295 : decode cX3_init 295 = .ok (.aload_n 0, 1) := by decide +kernel
theorem dX3_init_296 : decode cX3_init 296 = .ok (.getfield 81, 3) := by decide +kernel
theorem dX3_init_299 : decode cX3_init 299 = .ok (.iload_n 1, 1) := by decide +kernel
theorem dX3_init_300 : decode cX3_init 300 = .ok (.ldc 106, 2) := by decide +kernel
theorem dX3_init_302 : decode cX3_init 302 = .ok (.iastore, 1) := by decide +kernel
theorem dX3_init_303 : decode cX3_init 303 = .ok (.iinc 1 1, 3) := by decide +kernel
theorem dX3_init_306 : decode cX3_init 306 = .ok (.goto (-24), 3) := by decide +kernel
theorem dX3_init_309 : decode cX3_init 309 = .ok (.aload_n 0, 1) := by decide +kernel
theorem dX3_init_310 : decode cX3_init 310 = .ok (.invokevirtual 107, 3) := by decide +kernel
theorem dX3_init_313 : decode cX3_init 313 = .ok (.pop, 1) := by decide +kernel
theorem dX3_init_314 : decode cX3_init 314 = .ok (.return_, 1) := by decide +kernel
theorem dX3_in_0 : decode cX3_in 0 = .ok (.iload_n 0, 1) := by decide +kernel
theorem dX3_in_1 : decode cX3_in 1 = .ok (.iload_n 1, 1) := by decide +kernel
theorem dX3_in_2 : decode cX3_in 2 = .ok (.if_icmp .lt 12, 3) := by decide +kernel
theorem dX3_in_5 : decode cX3_in 5 = .ok (.iload_n 0, 1) := by decide +kernel
theorem dX3_in_6 : decode cX3_in 6 = .ok (.iload_n 2, 1) := by decide +kernel
theorem dX3_in_7 : decode cX3_in 7 = .ok (.if_icmp .gt 7, 3) := by decide +kernel
theorem dX3_in_10 : decode cX3_in 10 = .ok (.iconst 1, 1) := by decide +kernel
theorem dX3_in_11 : decode cX3_in 11 = .ok (.goto 4, 3) := by decide +kernel
theorem dX3_in_14 : decode cX3_in 14 = .ok (.iconst 0, 1) := by decide +kernel
theorem dX3_in_15 : decode cX3_in 15 = .ok (.ireturn, 1) := by decide +kernel
theorem dX3_isDay_0 : decode cX3_isDay 0 = .ok (.iload_n 0, 1) := by decide +kernel
theorem dX3_isDay_1 : decode cX3_isDay 1 = .ok (.iconst 0, 1) := by decide +kernel
theorem dX3_isDay_2 : decode cX3_isDay 2 = .ok (.bipush 19, 2) := by decide +kernel
theorem dX3_isDay_4 : decode cX3_isDay 4 = .ok (.invokestatic 111, 3) := by decide +kernel
theorem dX3_isDay_7 : decode cX3_isDay 7 = .ok (.ireturn, 1) := by decide +kernel
theorem dX3_isEnd_0 : decode cX3_isEnd 0 = .ok (.iload_n 0, 1) := by decide +kernel
theorem dX3_isEnd_1 : decode cX3_isEnd 1 = .ok (.iconst 0, 1) := by decide +kernel
theorem dX3_isEnd_2 : decode cX3_isEnd 2 = .ok (.iconst 1, 1) := by decide +kernel
theorem dX3_isEnd_3 : decode cX3_isEnd 3 = .ok (.invokestatic 111, 3) := by decide +kernel
theorem dX3_isEnd_6 : decode cX3_isEnd 6 = .ok (.ireturn, 1) := by decide +kernel
theorem dX3_isShip_0 : decode cX3_isShip 0 = .ok (.iload_n 1, 1) := by decide +kernel
theorem dX3_isShip_1 : decode cX3_isShip 1 = .ok (.iconst 0, 1) := by decide +kernel
theorem dX3_isShip_2 : decode cX3_isShip 2 = .ok (.aload_n 0, 1) := by decide +kernel
theorem dX3_isShip_3 : decode cX3_isShip 3 = .ok (.getfield 115, 3) := by decide +kernel
theorem dX3_isShip_6 : decode cX3_isShip 6 = .ok (.iconst 1, 1) := by decide +kernel
theorem dX3_isShip_7 : decode cX3_isShip 7 = .ok (.isub, 1) := by decide +kernel
theorem dX3_isShip_8 : decode cX3_isShip 8 = .ok (.invokestatic 111, 3) := by decide +kernel
theorem dX3_isShip_11 : decode cX3_isShip 11 = .ok (.ireturn, 1) := by decide +kernel
theorem dX3_isClock_0 : decode cX3_isClock 0 = .ok (.iload_n 0, 1) := by decide +kernel
theorem dX3_isClock_1 : decode cX3_isClock 1 = .ok (.iconst 0, 1) := by decide +kernel
theorem dX3_isClock_2 : decode cX3_isClock 2 = .ok (.iconst 2, 1) := by decide +kernel
theorem dX3_isClock_3 : decode cX3_isClock 3 = .ok (.invokestatic 111, 3) := by decide +kernel
theorem dX3_isClock_6 : decode cX3_isClock 6 = .ok (.ireturn, 1) := by decide +kernel
theorem dX3_down_0 : decode cX3_down 0 = .ok (.iload_n 0, 1) := by decide +kernel
theorem dX3_down_1 : decode cX3_down 1 = .ok (.iload_n 1, 1) := by decide +kernel
theorem dX3_down_2 : decode cX3_down 2 = .ok (.idiv, 1) := by decide +kernel
theorem dX3_down_3 : decode cX3_down 3 = .ok (.istore_n 2, 1) := by decide +kernel
theorem dX3_down_4 : decode cX3_down 4 = .ok (.iload_n 2, 1) := by decide +kernel
theorem dX3_down_5 : decode cX3_down 5 = .ok (.iload_n 1, 1) := by decide +kernel
theorem dX3_down_6 : decode cX3_down 6 = .ok (.imul, 1) := by decide +kernel
theorem dX3_down_7 : decode cX3_down 7 = .ok (.iload_n 0, 1) := by decide +kernel
theorem dX3_down_8 : decode cX3_down 8 = .ok (.if_icmp .le 9, 3) := by decide +kernel
theorem dX3_down_11 : decode cX3_down 11 = .ok (.iload_n 2, 1) := by decide +kernel
theorem dX3_down_12 : decode cX3_down 12 = .ok (.iconst 1, 1) := by decide +kernel
theorem dX3_down_13 : decode cX3_down 13 = .ok (.isub, 1) := by decide +kernel
theorem dX3_down_14 : decode cX3_down 14 = .ok (.goto 4, 3) := by decide +kernel
theorem dX3_down_17 : decode cX3_down 17 = .ok (.iload_n 2, 1) := by decide +kernel
theorem dX3_down_18 : decode cX3_down 18 = .ok (.ireturn, 1) := by decide +kernel
theorem dX3_up_0 : decode cX3_up 0 = .ok (.iload_n 0, 1) := by decide +kernel
theorem dX3_up_1 : decode cX3_up 1 = .ok (.ineg, 1) := by decide +kernel
theorem dX3_up_2 : decode cX3_up 2 = .ok (.iload_n 1, 1) := by decide +kernel
theorem dX3_up_3 : decode cX3_up 3 = .ok (.invokestatic 118, 3) := by decide +kernel
theorem dX3_up_6 : decode cX3_up 6 = .ok (.ineg, 1) := by decide +kernel
theorem dX3_up_7 : decode cX3_up 7 = .ok (.ireturn, 1) := by decide +kernel
theorem dX3_within_0 : decode cX3_within 0 = .ok (.iload_n 2, 1) := by decide +kernel
theorem dX3_within_1 : decode cX3_within 1 = .ok (.aload_n 0, 1) := by decide +kernel
theorem dX3_within_2 : decode cX3_within 2 = .ok (.getfield 84, 3) := by decide +kernel
theorem dX3_within_5 : decode cX3_within 5 = .ok (.iload_n 1, 1) := by decide +kernel
theorem dX3_within_6 : decode cX3_within 6 = .ok (.iaload, 1) := by decide +kernel
theorem dX3_within_7 : decode cX3_within 7 = .ok (.if_icmp .le 15, 3) := by decide +kernel
theorem dX3_within_10 : decode cX3_within 10 = .ok (.aload_n 0, 1) := by decide +kernel
theorem dX3_within_11 : decode cX3_within 11 = .ok (.getfield 84, 3) := by decide +kernel
theorem dX3_within_14 : decode cX3_within 14 = .ok (.iload_n 1, 1) := by decide +kernel
theorem dX3_within_15 : decode cX3_within 15 = .ok (.iload_n 2, 1) := by decide +kernel
theorem dX3_within_16 : decode cX3_within 16 = .ok (.iastore, 1) := by decide +kernel
theorem dX3_within_17 : decode cX3_within 17 = .ok (.aload_n 0, 1) := by decide +kernel
theorem dX3_within_18 : decode cX3_within 18 = .ok (.iconst 1, 1) := by decide +kernel
theorem dX3_within_19 : decode cX3_within 19 = .ok (.putfield 122, 3) := by decide +kernel
theorem dX3_within_22 : decode cX3_within 22 = .ok (.iload_n 3, 1) := by decide +kernel
theorem dX3_within_23 : decode cX3_within 23 = .ok (.aload_n 0, 1) := by decide +kernel
theorem dX3_within_24 : decode cX3_within 24 = .ok (.getfield 87, 3) := by decide +kernel
theorem dX3_within_27 : decode cX3_within 27 = .ok (.iload_n 1, 1) := by decide +kernel
theorem dX3_within_28 : decode cX3_within 28 = .ok (.iaload, 1) := by decide +kernel
theorem dX3_within_29 : decode cX3_within 29 = .ok (.if_icmp .ge 15, 3) := by decide +kernel
theorem dX3_within_32 : decode cX3_within 32 = .ok (.aload_n 0, 1) := by decide +kernel
theorem dX3_within_33 : decode cX3_within 33 = .ok (.getfield 87, 3) := by decide +kernel
theorem dX3_within_36 : decode cX3_within 36 = .ok (.iload_n 1, 1) := by decide +kernel
theorem dX3_within_37 : decode cX3_within 37 = .ok (.iload_n 3, 1) := by decide +kernel
theorem dX3_within_38 : decode cX3_within 38 = .ok (.iastore, 1) := by decide +kernel
theorem dX3_within_39 : decode cX3_within 39 = .ok (.aload_n 0, 1) := by decide +kernel
theorem dX3_within_40 : decode cX3_within 40 = .ok (.iconst 1, 1) := by decide +kernel
theorem dX3_within_41 : decode cX3_within 41 = .ok (.putfield 122, 3) := by decide +kernel
theorem dX3_within_44 : decode cX3_within 44 = .ok (.return_, 1) := by decide +kernel
theorem dX3_isLeft_0 : decode cX3_isLeft 0 = .ok (.iconst 0, 1) := by decide +kernel
theorem dX3_isLeft_1 : decode cX3_isLeft 1 = .ok (.istore_n 1, 1) := by decide +kernel
theorem dX3_isLeft_2 : decode cX3_isLeft 2 = .ok (.iload_n 1, 1) := by decide +kernel
theorem dX3_isLeft_3 : decode cX3_isLeft 3 = .ok (.bipush 21, 2) := by decide +kernel
theorem dX3_isLeft_5 : decode cX3_isLeft 5 = .ok (.if_icmp .ge 26, 3) := by decide +kernel
theorem dX3_isLeft_8 : decode cX3_isLeft 8 = .ok (.aload_n 0, 1) := by decide +kernel
theorem dX3_isLeft_9 : decode cX3_isLeft 9 = .ok (.getfield 84, 3) := by decide +kernel
theorem dX3_isLeft_12 : decode cX3_isLeft 12 = .ok (.iload_n 1, 1) := by decide +kernel
theorem dX3_isLeft_13 : decode cX3_isLeft 13 = .ok (.iaload, 1) := by decide +kernel
theorem dX3_isLeft_14 : decode cX3_isLeft 14 = .ok (.aload_n 0, 1) := by decide +kernel
theorem dX3_isLeft_15 : decode cX3_isLeft 15 = .ok (.getfield 87, 3) := by decide +kernel
theorem dX3_isLeft_18 : decode cX3_isLeft 18 = .ok (.iload_n 1, 1) := by decide +kernel
theorem dX3_isLeft_19 : decode cX3_isLeft 19 = .ok (.iaload, 1) := by decide +kernel
theorem dX3_isLeft_20 : decode cX3_isLeft 20 = .ok (.if_icmp .le 5, 3) := by decide +kernel
theorem dX3_isLeft_23 : decode cX3_isLeft 23 = .ok (.iconst 0, 1) := by decide +kernel
theorem dX3_isLeft_24 : decode cX3_isLeft 24 = .ok (.ireturn, 1) := by decide +kernel
theorem dX3_isLeft_25 : decode cX3_isLeft 25 = .ok (.iinc 1 1, 3) := by decide +kernel
theorem dX3_isLeft_28 : decode cX3_isLeft 28 = .ok (.goto (-26), 3) := by decide +kernel
theorem dX3_isLeft_31 : decode cX3_isLeft 31 = .ok (.iconst 1, 1) := by decide +kernel
theorem dX3_isLeft_32 : decode cX3_isLeft 32 = .ok (.ireturn, 1) := by decide +kernel
theorem dX3_narrow_0 : decode cX3_narrow 0 = .ok (.aload_n 0, 1) := by decide +kernel
theorem dX3_narrow_1 : decode cX3_narrow 1 = .ok (.iconst 1, 1) := by decide +kernel
theorem dX3_narrow_2 : decode cX3_narrow 2 = .ok (.putfield 122, 3) := by decide +kernel
theorem dX3_narrow_5 : decode cX3_narrow 5 = .ok (.aload_n 0, 1) := by decide +kernel
theorem dX3_narrow_6 : decode cX3_narrow 6 = .ok (.getfield 122, 3) := by decide +kernel
theorem dX3_narrow_9 : decode cX3_narrow 9 = .ok (.ifCond .eq 199, 3) := by decide +kernel
theorem dX3_narrow_12 : decode cX3_narrow 12 = .ok (.aload_n 0, 1) := by decide +kernel
theorem dX3_narrow_13 : decode cX3_narrow 13 = .ok (.invokevirtual 126, 3) := by decide +kernel
theorem dX3_narrow_16 : decode cX3_narrow 16 = .ok (.ifCond .eq 192, 3) := by decide +kernel
theorem dX3_narrow_19 : decode cX3_narrow 19 = .ok (.aload_n 0, 1) := by decide +kernel
theorem dX3_narrow_20 : decode cX3_narrow 20 = .ok (.iconst 0, 1) := by decide +kernel
theorem dX3_narrow_21 : decode cX3_narrow 21 = .ok (.putfield 122, 3) := by decide +kernel
theorem dX3_narrow_24 : decode cX3_narrow 24 = .ok (.iconst 0, 1) := by decide +kernel
theorem dX3_narrow_25 : decode cX3_narrow 25 = .ok (.istore_n 1, 1) := by decide +kernel
theorem dX3_narrow_26 : decode cX3_narrow 26 = .ok (.iload_n 1, 1) := by decide +kernel
theorem dX3_narrow_27 : decode cX3_narrow 27 = .ok (.bipush 20, 2) := by decide +kernel
theorem dX3_narrow_29 : decode cX3_narrow 29 = .ok (.if_icmp .ge 176, 3) := by decide +kernel
theorem dX3_narrow_32 : decode cX3_narrow 32 = .ok (.iload_n 1, 1) := by decide +kernel
theorem dX3_narrow_33 : decode cX3_narrow 33 = .ok (.iconst 1, 1) := by decide +kernel
theorem dX3_narrow_34 : decode cX3_narrow 34 = .ok (.iadd, 1) := by decide +kernel
theorem dX3_narrow_35 : decode cX3_narrow 35 = .ok (.istore_n 2, 1) := by decide +kernel
theorem dX3_narrow_36 : decode cX3_narrow 36 = .ok (.iload_n 2, 1) := by decide +kernel
theorem dX3_narrow_37 : decode cX3_narrow 37 = .ok (.bipush 20, 2) := by decide +kernel
theorem dX3_narrow_39 : decode cX3_narrow 39 = .ok (.if_icmp .ge 160, 3) := by decide +kernel
theorem dX3_narrow_42 : decode cX3_narrow 42 = .ok (.iload_n 2, 1) := by decide +kernel
theorem dX3_narrow_43 : decode cX3_narrow 43 = .ok (.iload_n 1, 1) := by decide +kernel
theorem dX3_narrow_44 : decode cX3_narrow 44 = .ok (.isub, 1) := by decide +kernel
theorem dX3_narrow_45 : decode cX3_narrow 45 = .ok (.istore_n 3, 1) := by decide +kernel
theorem dX3_narrow_46 : decode cX3_narrow 46 = .ok (.aload_n 0, 1) := by decide +kernel
theorem dX3_narrow_47 : decode cX3_narrow 47 = .ok (.getfield 90, 3) := by decide +kernel
theorem dX3_narrow_50 : decode cX3_narrow 50 = .ok (.iload_n 2, 1) := by decide +kernel
theorem dX3_narrow_51 : decode cX3_narrow 51 = .ok (.iaload, 1) := by decide +kernel
theorem dX3_narrow_52 : decode cX3_narrow 52 = .ok (.aload_n 0, 1) := by decide +kernel
theorem dX3_narrow_53 : decode cX3_narrow 53 = .ok (.getfield 90, 3) := by decide +kernel
theorem dX3_narrow_56 : decode cX3_narrow 56 = .ok (.iload_n 1, 1) := by decide +kernel
theorem dX3_narrow_57 : decode cX3_narrow 57 = .ok (.iaload, 1) := by decide +kernel
theorem dX3_narrow_58 : decode cX3_narrow 58 = .ok (.isub, 1) := by decide +kernel
theorem dX3_narrow_59 : decode cX3_narrow 59 = .ok (.istore 4, 2) := by decide +kernel
theorem dX3_narrow_61 : decode cX3_narrow 61 = .ok (.aload_n 0, 1) := by decide +kernel
theorem dX3_narrow_62 : decode cX3_narrow 62 = .ok (.iload_n 2, 1) := by decide +kernel
theorem dX3_narrow_63 : decode cX3_narrow 63 = .ok (.aload_n 0, 1) := by decide +kernel
theorem dX3_narrow_64 : decode cX3_narrow 64 = .ok (.getfield 84, 3) := by decide +kernel
theorem dX3_narrow_67 : decode cX3_narrow 67 = .ok (.iload_n 1, 1) := by decide +kernel
theorem dX3_narrow_68 : decode cX3_narrow 68 = .ok (.iaload, 1) := by decide +kernel
theorem dX3_narrow_69 : decode cX3_narrow 69 = .ok (.iload_n 3, 1) := by decide +kernel
theorem dX3_narrow_70 : decode cX3_narrow 70 = .ok (.aload_n 0, 1) := by decide +kernel
theorem dX3_narrow_71 : decode cX3_narrow 71 = .ok (.getfield 84, 3) := by decide +kernel
theorem dX3_narrow_74 : decode cX3_narrow 74 = .ok (.bipush 20, 2) := by decide +kernel
theorem dX3_narrow_76 : decode cX3_narrow 76 = .ok (.iaload, 1) := by decide +kernel
theorem dX3_narrow_77 : decode cX3_narrow 77 = .ok (.imul, 1) := by decide +kernel
theorem dX3_narrow_78 : decode cX3_narrow 78 = .ok (.iadd, 1) := by decide +kernel
theorem dX3_narrow_79 : decode cX3_narrow 79 = .ok (.iload 4, 2) := by decide +kernel
theorem dX3_narrow_81 : decode cX3_narrow 81 = .ok (.iadd, 1) := by decide +kernel
theorem dX3_narrow_82 : decode cX3_narrow 82 = .ok (.aload_n 0, 1) := by decide +kernel
theorem dX3_narrow_83 : decode cX3_narrow 83 = .ok (.getfield 87, 3) := by decide +kernel
theorem dX3_narrow_86 : decode cX3_narrow 86 = .ok (.iload_n 1, 1) := by decide +kernel
theorem dX3_narrow_87 : decode cX3_narrow 87 = .ok (.iaload, 1) := by decide +kernel
theorem dX3_narrow_88 : decode cX3_narrow 88 = .ok (.iload_n 3, 1) := by decide +kernel
theorem dX3_narrow_89 : decode cX3_narrow 89 = .ok (.aload_n 0, 1) := by decide +kernel
theorem dX3_narrow_90 : decode cX3_narrow 90 = .ok (.getfield 87, 3) := by decide +kernel
theorem dX3_narrow_93 : decode cX3_narrow 93 = .ok (.bipush 20, 2) := by decide +kernel
theorem dX3_narrow_95 : decode cX3_narrow 95 = .ok (.iaload, 1) := by decide +kernel
theorem dX3_narrow_96 : decode cX3_narrow 96 = .ok (.imul, 1) := by decide +kernel
theorem dX3_narrow_97 : decode cX3_narrow 97 = .ok (.iadd, 1) := by decide +kernel
theorem dX3_narrow_98 : decode cX3_narrow 98 = .ok (.iload 4, 2) := by decide +kernel
theorem dX3_narrow_100 : decode cX3_narrow 100 = .ok (.iadd, 1) := by decide +kernel
theorem dX3_narrow_101 : decode cX3_narrow 101 = .ok (.invokevirtual 129, 3) := by decide +kernel
theorem dX3_narrow_104 : decode cX3_narrow 104 = .ok (.aload_n 0, 1) := by decide +kernel
theorem dX3_narrow_105 : decode cX3_narrow 105 = .ok (.iload_n 1, 1) := by decide +kernel
theorem dX3_narrow_106 : decode cX3_narrow 106 = .ok (.aload_n 0, 1) := by decide +kernel
theorem dX3_narrow_107 : decode cX3_narrow 107 = .ok (.getfield 84, 3) := by decide +kernel
theorem dX3_narrow_110 : decode cX3_narrow 110 = .ok (.iload_n 2, 1) := by decide +kernel
theorem dX3_narrow_111 : decode cX3_narrow 111 = .ok (.iaload, 1) := by decide +kernel
theorem dX3_narrow_112 : decode cX3_narrow 112 = .ok (.iload_n 3, 1) := by decide +kernel
theorem dX3_narrow_113 : decode cX3_narrow 113 = .ok (.aload_n 0, 1) := by decide +kernel
theorem dX3_narrow_114 : decode cX3_narrow 114 = .ok (.getfield 87, 3) := by decide +kernel
theorem dX3_narrow_117 : decode cX3_narrow 117 = .ok (.bipush 20, 2) := by decide +kernel
theorem dX3_narrow_119 : decode cX3_narrow 119 = .ok (.iaload, 1) := by decide +kernel
theorem dX3_narrow_120 : decode cX3_narrow 120 = .ok (.imul, 1) := by decide +kernel
theorem dX3_narrow_121 : decode cX3_narrow 121 = .ok (.isub, 1) := by decide +kernel
theorem dX3_narrow_122 : decode cX3_narrow 122 = .ok (.iload 4, 2) := by decide +kernel
theorem dX3_narrow_124 : decode cX3_narrow 124 = .ok (.isub, 1) := by decide +kernel
theorem dX3_narrow_125 : decode cX3_narrow 125 = .ok (.aload_n 0, 1) := by decide +kernel
theorem dX3_narrow_126 : decode cX3_narrow 126 = .ok (.getfield 87, 3) := by decide +kernel
theorem dX3_narrow_129 : decode cX3_narrow 129 = .ok (.iload_n 2, 1) := by decide +kernel
theorem dX3_narrow_130 : decode cX3_narrow 130 = .ok (.iaload, 1) := by decide +kernel
theorem dX3_narrow_131 : decode cX3_narrow 131 = .ok (.iload_n 3, 1) := by decide +kernel
theorem dX3_narrow_132 : decode cX3_narrow 132 = .ok (.aload_n 0, 1) := by decide +kernel
theorem dX3_narrow_133 : decode cX3_narrow 133 = .ok (.getfield 84, 3) := by decide +kernel
theorem dX3_narrow_136 : decode cX3_narrow 136 = .ok (.bipush 20, 2) := by decide +kernel
theorem dX3_narrow_138 : decode cX3_narrow 138 = .ok (.iaload, 1) := by decide +kernel
theorem dX3_narrow_139 : decode cX3_narrow 139 = .ok (.imul, 1) := by decide +kernel
theorem dX3_narrow_140 : decode cX3_narrow 140 = .ok (.isub, 1) := by decide +kernel
theorem dX3_narrow_141 : decode cX3_narrow 141 = .ok (.iload 4, 2) := by decide +kernel
theorem dX3_narrow_143 : decode cX3_narrow 143 = .ok (.isub, 1) := by decide +kernel
theorem dX3_narrow_144 : decode cX3_narrow 144 = .ok (.invokevirtual 129, 3) := by decide +kernel
theorem dX3_narrow_147 : decode cX3_narrow 147 = .ok (.aload_n 0, 1) := by decide +kernel
theorem dX3_narrow_148 : decode cX3_narrow 148 = .ok (.bipush 20, 2) := by decide +kernel
theorem dX3_narrow_150 : decode cX3_narrow 150 = .ok (.aload_n 0, 1) := by decide +kernel
theorem dX3_narrow_151 : decode cX3_narrow 151 = .ok (.getfield 84, 3) := by decide +kernel
theorem dX3_narrow_154 : decode cX3_narrow 154 = .ok (.iload_n 2, 1) := by decide +kernel
theorem dX3_narrow_155 : decode cX3_narrow 155 = .ok (.iaload, 1) := by decide +kernel
theorem dX3_narrow_156 : decode cX3_narrow 156 = .ok (.aload_n 0, 1) := by decide +kernel
theorem dX3_narrow_157 : decode cX3_narrow 157 = .ok (.getfield 87, 3) := by decide +kernel
theorem dX3_narrow_160 : decode cX3_narrow 160 = .ok (.iload_n 1, 1) := by decide +kernel
theorem dX3_narrow_161 : decode cX3_narrow 161 = .ok (.iaload, 1) := by decide +kernel
theorem dX3_narrow_162 : decode cX3_narrow 162 = .ok (.isub, 1) := by decide +kernel
theorem dX3_narrow_163 : decode cX3_narrow 163 = .ok (.iload 4, 2) := by decide +kernel
theorem dX3_narrow_165 : decode cX3_narrow 165 = .ok (.isub, 1) := by decide +kernel
theorem dX3_narrow_166 : decode cX3_narrow 166 = .ok (.iload_n 3, 1) := by decide +kernel
theorem dX3_narrow_167 : decode cX3_narrow 167 = .ok (.invokestatic 133, 3) := by decide +kernel
theorem dX3_narrow_170 : decode cX3_narrow 170 = .ok (.aload_n 0, 1) := by decide +kernel
theorem dX3_narrow_171 : decode cX3_narrow 171 = .ok (.getfield 87, 3) := by decide +kernel
theorem dX3_narrow_174 : decode cX3_narrow 174 = .ok (.iload_n 2, 1) := by decide +kernel
theorem dX3_narrow_175 : decode cX3_narrow 175 = .ok (.iaload, 1) := by decide +kernel
theorem dX3_narrow_176 : decode cX3_narrow 176 = .ok (.aload_n 0, 1) := by decide +kernel
theorem dX3_narrow_177 : decode cX3_narrow 177 = .ok (.getfield 84, 3) := by decide +kernel
theorem dX3_narrow_180 : decode cX3_narrow 180 = .ok (.iload_n 1, 1) := by decide +kernel
theorem dX3_narrow_181 : decode cX3_narrow 181 = .ok (.iaload, 1) := by decide +kernel
theorem dX3_narrow_182 : decode cX3_narrow 182 = .ok (.isub, 1) := by decide +kernel
theorem dX3_narrow_183 : decode cX3_narrow 183 = .ok (.iload 4, 2) := by decide +kernel
theorem dX3_narrow_185 : decode cX3_narrow 185 = .ok (.isub, 1) := by decide +kernel
theorem dX3_narrow_186 : decode cX3_narrow 186 = .ok (.iload_n 3, 1) := by decide +kernel
theorem dX3_narrow_187 : decode cX3_narrow 187 = .ok (.invokestatic 118, 3) := by decide +kernel
theorem dX3_narrow_190 : decode cX3_narrow 190 = .ok (.invokevirtual 129, 3) := by decide +kernel
theorem dX3_narrow_193 : decode cX3_narrow 193 = .ok (.iinc 2 1, 3) := by decide +kernel
theorem dX3_narrow_196 : decode cX3_narrow 196 = .ok (.goto (-160), 3) := by decide +kernel
theorem dX3_narrow_199 : decode cX3_narrow 199 = .ok (.iinc 1 1, 3) := by decide +kernel
theorem dX3_narrow_202 : decode cX3_narrow 202 = .ok (.goto (-176), 3) := by decide +kernel
theorem dX3_narrow_205 : decode cX3_narrow 205 = .ok (.goto (-200), 3) := by decide +kernel
theorem dX3_narrow_208 : decode cX3_narrow 208 = .ok (.aload_n 0, 1) := by decide +kernel
theorem dX3_narrow_209 : decode cX3_narrow 209 = .ok (.invokevirtual 126, 3) := by decide +kernel
theorem dX3_narrow_212 : decode cX3_narrow 212 = .ok (.ireturn, 1) := by decide +kernel
theorem dX3_start_0 : decode cX3_start 0 = .ok (.iconst 0, 1) := by decide +kernel
theorem dX3_start_1 : decode cX3_start 1 = .ok (.istore_n 3, 1) := by decide +kernel
theorem dX3_start_2 : decode cX3_start 2 = .ok (.iload_n 3, 1) := by decide +kernel
theorem dX3_start_3 : decode cX3_start 3 = .ok (.bipush 21, 2) := by decide +kernel
theorem dX3_start_5 : decode cX3_start 5 = .ok (.if_icmp .ge 45, 3) := by decide +kernel
theorem dX3_start_8 : decode cX3_start 8 = .ok (.aload_n 0, 1) := by decide +kernel
theorem dX3_start_9 : decode cX3_start 9 = .ok (.getfield 84, 3) := by decide +kernel
theorem dX3_start_12 : decode cX3_start 12 = .ok (.iload_n 3, 1) := by decide +kernel
theorem dX3_start_13 : decode cX3_start 13 = .ok (.iload_n 3, 1) := by decide +kernel
theorem dX3_start_14 : decode cX3_start 14 = .ok (.bipush 20, 2) := by decide +kernel
theorem dX3_start_16 : decode cX3_start 16 = .ok (.if_icmp .ne 8, 3) := by decide +kernel
theorem dX3_start_19 : decode cX3_start 19 = .ok (.iload_n 2, 1) := by decide +kernel
theorem dX3_start_20 : decode cX3_start 20 = .ok (.ineg, 1) := by decide +kernel
theorem dX3_start_21 : decode cX3_start 21 = .ok (.goto 5, 3) := by decide +kernel
theorem dX3_start_24 : decode cX3_start 24 = .ok (.iload_n 1, 1) := by decide +kernel
theorem dX3_start_25 : decode cX3_start 25 = .ok (.ineg, 1) := by decide +kernel
theorem dX3_start_26 : decode cX3_start 26 = .ok (.iastore, 1) := by decide +kernel
theorem dX3_start_27 : decode cX3_start 27 = .ok (.aload_n 0, 1) := by decide +kernel
theorem dX3_start_28 : decode cX3_start 28 = .ok (.getfield 87, 3) := by decide +kernel
theorem dX3_start_31 : decode cX3_start 31 = .ok (.iload_n 3, 1) := by decide +kernel
theorem dX3_start_32 : decode cX3_start 32 = .ok (.iload_n 3, 1) := by decide +kernel
theorem dX3_start_33 : decode cX3_start 33 = .ok (.bipush 20, 2) := by decide +kernel
theorem dX3_start_35 : decode cX3_start 35 = .ok (.if_icmp .ne 7, 3) := by decide +kernel
theorem dX3_start_38 : decode cX3_start 38 = .ok (.iload_n 2, 1) := by decide +kernel
theorem dX3_start_39 : decode cX3_start 39 = .ok (.goto 4, 3) := by decide +kernel
theorem dX3_start_42 : decode cX3_start 42 = .ok (.iload_n 1, 1) := by decide +kernel
theorem dX3_start_43 : decode cX3_start 43 = .ok (.iastore, 1) := by decide +kernel
theorem dX3_start_44 : decode cX3_start 44 = .ok (.iinc 3 1, 3) := by decide +kernel
theorem dX3_start_47 : decode cX3_start 47 = .ok (.goto (-45), 3) := by decide +kernel
theorem dX3_start_50 : decode cX3_start 50 = .ok (.return_, 1) := by decide +kernel
theorem dX3_layOffs_0 : decode cX3_layOffs 0 = .ok (.aload_n 0, 1) := by decide +kernel
theorem dX3_layOffs_1 : decode cX3_layOffs 1 = .ok (.sipush 600, 3) := by decide +kernel
theorem dX3_layOffs_4 : decode cX3_layOffs 4 = .ok (.bipush 20, 2) := by decide +kernel
theorem dX3_layOffs_6 : decode cX3_layOffs 6 = .ok (.invokevirtual 136, 3) := by decide +kernel
theorem dX3_layOffs_9 : decode cX3_layOffs 9 = .ok (.iconst 0, 1) := by decide +kernel
theorem dX3_layOffs_10 : decode cX3_layOffs 10 = .ok (.istore_n 1, 1) := by decide +kernel
theorem dX3_layOffs_11 : decode cX3_layOffs 11 = .ok (.iload_n 1, 1) := by decide +kernel
theorem dX3_layOffs_12 : decode cX3_layOffs 12 = .ok (.bipush 20, 2) := by decide +kernel
theorem dX3_layOffs_14 : decode cX3_layOffs 14 = .ok (.if_icmp .ge 16, 3) := by decide +kernel
theorem dX3_layOffs_17 : decode cX3_layOffs 17 = .ok (.aload_n 0, 1) := by decide +kernel
theorem dX3_layOffs_18 : decode cX3_layOffs 18 = .ok (.getfield 90, 3) := by decide +kernel
theorem dX3_layOffs_21 : decode cX3_layOffs 21 = .ok (.iload_n 1, 1) := by decide +kernel
theorem dX3_layOffs_22 : decode cX3_layOffs 22 = .ok (.iconst 0, 1) := by decide +kernel
theorem dX3_layOffs_23 : decode cX3_layOffs 23 = .ok (.iastore, 1) := by decide +kernel
theorem dX3_layOffs_24 : decode cX3_layOffs 24 = .ok (.iinc 1 1, 3) := by decide +kernel
theorem dX3_layOffs_27 : decode cX3_layOffs 27 = .ok (.goto (-16), 3) := by decide +kernel
theorem dX3_layOffs_30 : decode cX3_layOffs 30 = .ok (.iconst 0, 1) := by decide +kernel
theorem dX3_layOffs_31 : decode cX3_layOffs 31 = .ok (.istore_n 1, 1) := by decide +kernel
theorem dX3_layOffs_32 : decode cX3_layOffs 32 = .ok (.iload_n 1, 1) := by decide +kernel
theorem dX3_layOffs_33 : decode cX3_layOffs 33 = .ok (.aload_n 0, 1) := by decide +kernel
theorem dX3_layOffs_34 : decode cX3_layOffs 34 = .ok (.getfield 140, 3) := by decide +kernel
theorem dX3_layOffs_37 : decode cX3_layOffs 37 = .ok (.if_icmp .ge 45, 3) := by decide +kernel
theorem dX3_layOffs_40 : decode cX3_layOffs 40 = .ok (.aload_n 0, 1) := by decide +kernel
theorem dX3_layOffs_41 : decode cX3_layOffs 41 = .ok (.aload_n 0, 1) := by decide +kernel
theorem dX3_layOffs_42 : decode cX3_layOffs 42 = .ok (.getfield 7, 3) := by decide +kernel
theorem dX3_layOffs_45 : decode cX3_layOffs 45 = .ok (.iload_n 1, 1) := by decide +kernel
theorem dX3_layOffs_46 : decode cX3_layOffs 46 = .ok (.iaload, 1) := by decide +kernel
theorem dX3_layOffs_47 : decode cX3_layOffs 47 = .ok (.aload_n 0, 1) := by decide +kernel
theorem dX3_layOffs_48 : decode cX3_layOffs 48 = .ok (.getfield 13, 3) := by decide +kernel
theorem dX3_layOffs_51 : decode cX3_layOffs 51 = .ok (.iload_n 1, 1) := by decide +kernel
theorem dX3_layOffs_52 : decode cX3_layOffs 52 = .ok (.iaload, 1) := by decide +kernel
theorem dX3_layOffs_53 : decode cX3_layOffs 53 = .ok (.aload_n 0, 1) := by decide +kernel
theorem dX3_layOffs_54 : decode cX3_layOffs 54 = .ok (.getfield 16, 3) := by decide +kernel
theorem dX3_layOffs_57 : decode cX3_layOffs 57 = .ok (.iload_n 1, 1) := by decide +kernel
theorem dX3_layOffs_58 : decode cX3_layOffs 58 = .ok (.iaload, 1) := by decide +kernel
theorem dX3_layOffs_59 : decode cX3_layOffs 59 = .ok (.isub, 1) := by decide +kernel
theorem dX3_layOffs_60 : decode cX3_layOffs 60 = .ok (.aload_n 0, 1) := by decide +kernel
theorem dX3_layOffs_61 : decode cX3_layOffs 61 = .ok (.getfield 13, 3) := by decide +kernel
theorem dX3_layOffs_64 : decode cX3_layOffs 64 = .ok (.iload_n 1, 1) := by decide +kernel
theorem dX3_layOffs_65 : decode cX3_layOffs 65 = .ok (.iaload, 1) := by decide +kernel
theorem dX3_layOffs_66 : decode cX3_layOffs 66 = .ok (.aload_n 0, 1) := by decide +kernel
theorem dX3_layOffs_67 : decode cX3_layOffs 67 = .ok (.getfield 16, 3) := by decide +kernel
theorem dX3_layOffs_70 : decode cX3_layOffs 70 = .ok (.iload_n 1, 1) := by decide +kernel
theorem dX3_layOffs_71 : decode cX3_layOffs 71 = .ok (.iaload, 1) := by decide +kernel
theorem dX3_layOffs_72 : decode cX3_layOffs 72 = .ok (.iadd, 1) := by decide +kernel
theorem dX3_layOffs_73 : decode cX3_layOffs 73 = .ok (.invokevirtual 129, 3) := by decide +kernel
theorem dX3_layOffs_76 : decode cX3_layOffs 76 = .ok (.iinc 1 1, 3) := by decide +kernel
theorem dX3_layOffs_79 : decode cX3_layOffs 79 = .ok (.goto (-47), 3) := by decide +kernel
theorem dX3_layOffs_82 : decode cX3_layOffs 82 = .ok (.aload_n 0, 1) := by decide +kernel
theorem dX3_layOffs_83 : decode cX3_layOffs 83 = .ok (.invokevirtual 143, 3) := by decide +kernel
theorem dX3_layOffs_86 : decode cX3_layOffs 86 = .ok (.istore_n 1, 1) := by decide +kernel
theorem dX3_layOffs_87 : decode cX3_layOffs 87 = .ok (.iconst 0, 1) := by decide +kernel
theorem dX3_layOffs_88 : decode cX3_layOffs 88 = .ok (.istore_n 2, 1) := by decide +kernel
theorem dX3_layOffs_89 : decode cX3_layOffs 89 = .ok (.iload_n 2, 1) := by decide +kernel
theorem dX3_layOffs_90 : decode cX3_layOffs 90 = .ok (.bipush 21, 2) := by decide +kernel
theorem dX3_layOffs_92 : decode cX3_layOffs 92 = .ok (.if_icmp .ge 37, 3) := by decide +kernel
theorem dX3_layOffs_95 : decode cX3_layOffs 95 = .ok (.iload_n 1, 1) := by decide +kernel
theorem dX3_layOffs_96 : decode cX3_layOffs 96 = .ok (.ifCond .eq 33, 3) := by decide +kernel
theorem dX3_layOffs_99 : decode cX3_layOffs 99 = .ok (.aload_n 0, 1) := by decide +kernel
theorem dX3_layOffs_100 : decode cX3_layOffs 100 = .ok (.getfield 23, 3) := by decide +kernel
theorem dX3_layOffs_103 : decode cX3_layOffs 103 = .ok (.iload_n 2, 1) := by decide +kernel
theorem dX3_layOffs_104 : decode cX3_layOffs 104 = .ok (.aload_n 0, 1) := by decide +kernel
theorem dX3_layOffs_105 : decode cX3_layOffs 105 = .ok (.getfield 84, 3) := by decide +kernel
theorem dX3_layOffs_108 : decode cX3_layOffs 108 = .ok (.iload_n 2, 1) := by decide +kernel
theorem dX3_layOffs_109 : decode cX3_layOffs 109 = .ok (.iaload, 1) := by decide +kernel
theorem dX3_layOffs_110 : decode cX3_layOffs 110 = .ok (.iastore, 1) := by decide +kernel
theorem dX3_layOffs_111 : decode cX3_layOffs 111 = .ok (.aload_n 0, 1) := by decide +kernel
theorem dX3_layOffs_112 : decode cX3_layOffs 112 = .ok (.getfield 26, 3) := by decide +kernel
theorem dX3_layOffs_115 : decode cX3_layOffs 115 = .ok (.iload_n 2, 1) := by decide +kernel
theorem dX3_layOffs_116 : decode cX3_layOffs 116 = .ok (.aload_n 0, 1) := by decide +kernel
theorem dX3_layOffs_117 : decode cX3_layOffs 117 = .ok (.getfield 87, 3) := by decide +kernel
theorem dX3_layOffs_120 : decode cX3_layOffs 120 = .ok (.iload_n 2, 1) := by decide +kernel
theorem dX3_layOffs_121 : decode cX3_layOffs 121 = .ok (.iaload, 1) := by decide +kernel
theorem dX3_layOffs_122 : decode cX3_layOffs 122 = .ok (.iastore, 1) := by decide +kernel
theorem dX3_layOffs_123 : decode cX3_layOffs 123 = .ok (.iinc 2 1, 3) := by decide +kernel
theorem dX3_layOffs_126 : decode cX3_layOffs 126 = .ok (.goto (-37), 3) := by decide +kernel
theorem dX3_layOffs_129 : decode cX3_layOffs 129 = .ok (.iload_n 1, 1) := by decide +kernel
theorem dX3_layOffs_130 : decode cX3_layOffs 130 = .ok (.ireturn, 1) := by decide +kernel
theorem dX3_star_0 : decode cX3_star 0 = .ok (.iload_n 1, 1) := by decide +kernel
theorem dX3_star_1 : decode cX3_star 1 = .ok (.invokestatic 146, 3) := by decide +kernel
theorem dX3_star_4 : decode cX3_star 4 = .ok (.ifCond .ne 5, 3) := by decide +kernel
theorem dX3_star_7 : decode cX3_star 7 = .ok (.iconst (-1), 1) := by decide +kernel
theorem dX3_star_8 : decode cX3_star 8 = .ok (.ireturn, 1) := by decide +kernel
theorem dX3_star_9 : decode cX3_star 9 = .ok (.iload_n 2, 1) := by decide +kernel
theorem dX3_star_10 : decode cX3_star 10 = .ok (.sipush (-600), 3) := by decide +kernel
theorem dX3_star_13 : decode cX3_star 13 = .ok (.sipush 600, 3) := by decide +kernel
theorem dX3_star_16 : decode cX3_star 16 = .ok (.invokestatic 111, 3) := by decide +kernel
theorem dX3_star_19 : decode cX3_star 19 = .ok (.ifCond .ne 6, 3) := by decide +kernel
theorem dX3_star_22 : decode cX3_star 22 = .ok (.bipush (-2), 2) := by decide +kernel
theorem dX3_star_24 : decode cX3_star 24 = .ok (.ireturn, 1) := by decide +kernel
theorem dX3_star_25 : decode cX3_star 25 = .ok (.aload_n 0, 1) := by decide +kernel
theorem dX3_star_26 : decode cX3_star 26 = .ok (.getfield 140, 3) := by decide +kernel
theorem dX3_star_29 : decode cX3_star 29 = .ok (.bipush 20, 2) := by decide +kernel
theorem dX3_star_31 : decode cX3_star 31 = .ok (.if_icmp .ne 6, 3) := by decide +kernel
theorem dX3_star_34 : decode cX3_star 34 = .ok (.bipush (-4), 2) := by decide +kernel
theorem dX3_star_36 : decode cX3_star 36 = .ok (.ireturn, 1) := by decide +kernel
theorem dX3_star_37 : decode cX3_star 37 = .ok (.aload_n 0, 1) := by decide +kernel
theorem dX3_star_38 : decode cX3_star 38 = .ok (.getfield 7, 3) := by decide +kernel
theorem dX3_star_41 : decode cX3_star 41 = .ok (.aload_n 0, 1) := by decide +kernel
theorem dX3_star_42 : decode cX3_star 42 = .ok (.getfield 140, 3) := by decide +kernel
theorem dX3_star_45 : decode cX3_star 45 = .ok (.iload_n 1, 1) := by decide +kernel
theorem dX3_star_46 : decode cX3_star 46 = .ok (.iastore, 1) := by decide +kernel
theorem dX3_star_47 : decode cX3_star 47 = .ok (.aload_n 0, 1) := by decide +kernel
theorem dX3_star_48 : decode cX3_star 48 = .ok (.getfield 13, 3) := by decide +kernel
theorem dX3_star_51 : decode cX3_star 51 = .ok (.aload_n 0, 1) := by decide +kernel
theorem dX3_star_52 : decode cX3_star 52 = .ok (.getfield 140, 3) := by decide +kernel
theorem dX3_star_55 : decode cX3_star 55 = .ok (.iload_n 2, 1) := by decide +kernel
theorem dX3_star_56 : decode cX3_star 56 = .ok (.iastore, 1) := by decide +kernel
theorem dX3_star_57 : decode cX3_star 57 = .ok (.aload_n 0, 1) := by decide +kernel
theorem dX3_star_58 : decode cX3_star 58 = .ok (.getfield 16, 3) := by decide +kernel
theorem dX3_star_61 : decode cX3_star 61 = .ok (.aload_n 0, 1) := by decide +kernel
theorem dX3_star_62 : decode cX3_star 62 = .ok (.getfield 140, 3) := by decide +kernel
theorem dX3_star_65 : decode cX3_star 65 = .ok (.aload_n 0, 1) := by decide +kernel
theorem dX3_star_66 : decode cX3_star 66 = .ok (.getfield 19, 3) := by decide +kernel
theorem dX3_star_69 : decode cX3_star 69 = .ok (.iastore, 1) := by decide +kernel
theorem dX3_star_70 : decode cX3_star 70 = .ok (.aload_n 0, 1) := by decide +kernel
theorem dX3_star_71 : decode cX3_star 71 = .ok (.dup, 1) := by decide +kernel
theorem dX3_star_72 : decode cX3_star 72 = .ok (.getfield 140, 3) := by decide +kernel
theorem dX3_star_75 : decode cX3_star 75 = .ok (.iconst 1, 1) := by decide +kernel
theorem dX3_star_76 : decode cX3_star 76 = .ok (.iadd, 1) := by decide +kernel
theorem dX3_star_77 : decode cX3_star 77 = .ok (.putfield 140, 3) := by decide +kernel
theorem dX3_star_80 : decode cX3_star 80 = .ok (.aload_n 0, 1) := by decide +kernel
theorem dX3_star_81 : decode cX3_star 81 = .ok (.invokevirtual 107, 3) := by decide +kernel
theorem dX3_star_84 : decode cX3_star 84 = .ok (.ifCond .eq 8, 3) := by decide +kernel
theorem dX3_star_87 : decode cX3_star 87 = .ok (.aload_n 0, 1) := by decide +kernel
theorem dX3_star_88 : decode cX3_star 88 = .ok (.getfield 140, 3) := by decide +kernel
theorem dX3_star_91 : decode cX3_star 91 = .ok (.ireturn, 1) := by decide +kernel
theorem dX3_star_92 : decode cX3_star 92 = .ok (.aload_n 0, 1) := by decide +kernel
theorem dX3_star_93 : decode cX3_star 93 = .ok (.dup, 1) := by decide +kernel
theorem dX3_star_94 : decode cX3_star 94 = .ok (.getfield 140, 3) := by decide +kernel
theorem dX3_star_97 : decode cX3_star 97 = .ok (.iconst 1, 1) := by decide +kernel
theorem dX3_star_98 : decode cX3_star 98 = .ok (.isub, 1) := by decide +kernel
theorem dX3_star_99 : decode cX3_star 99 = .ok (.putfield 140, 3) := by decide +kernel
theorem dX3_star_102 : decode cX3_star 102 = .ok (.aload_n 0, 1) := by decide +kernel
theorem dX3_star_103 : decode cX3_star 103 = .ok (.invokevirtual 107, 3) := by decide +kernel
theorem dX3_star_106 : decode cX3_star 106 = .ok (.pop, 1) := by decide +kernel
theorem dX3_star_107 : decode cX3_star 107 = .ok (.bipush (-5), 2) := by decide +kernel
theorem dX3_star_109 : decode cX3_star 109 = .ok (.ireturn, 1) := by decide +kernel
theorem dX3_care_0 : decode cX3_care 0 = .ok (.iload_n 1, 1) := by decide +kernel
theorem dX3_care_1 : decode cX3_care 1 = .ok (.iconst 0, 1) := by decide +kernel
theorem dX3_care_2 : decode cX3_care 2 = .ok (.bipush 9, 2) := by decide +kernel
theorem dX3_care_4 : decode cX3_care 4 = .ok (.invokestatic 111, 3) := by decide +kernel
theorem dX3_care_7 : decode cX3_care 7 = .ok (.ifCond .ne 6, 3) := by decide +kernel
theorem dX3_care_10 : decode cX3_care 10 = .ok (.bipush (-2), 2) := by decide +kernel
theorem dX3_care_12 : decode cX3_care 12 = .ok (.ireturn, 1) := by decide +kernel
theorem dX3_care_13 : decode cX3_care 13 = .ok (.aload_n 0, 1) := by decide +kernel
theorem dX3_care_14 : decode cX3_care 14 = .ok (.getfield 19, 3) := by decide +kernel
theorem dX3_care_17 : decode cX3_care 17 = .ok (.istore_n 2, 1) := by decide +kernel
theorem dX3_care_18 : decode cX3_care 18 = .ok (.aload_n 0, 1) := by decide +kernel
theorem dX3_care_19 : decode cX3_care 19 = .ok (.iload_n 1, 1) := by decide +kernel
theorem dX3_care_20 : decode cX3_care 20 = .ok (.putfield 19, 3) := by decide +kernel
theorem dX3_care_23 : decode cX3_care 23 = .ok (.iload_n 2, 1) := by decide +kernel
theorem dX3_care_24 : decode cX3_care 24 = .ok (.ireturn, 1) := by decide +kernel
theorem dX3_off_0 : decode cX3_off 0 = .ok (.iload_n 1, 1) := by decide +kernel
theorem dX3_off_1 : decode cX3_off 1 = .ok (.invokestatic 146, 3) := by decide +kernel
theorem dX3_off_4 : decode cX3_off 4 = .ok (.ifCond .ne 6, 3) := by decide +kernel
theorem dX3_off_7 : decode cX3_off 7 = .ok (.ldc 150, 2) := by decide +kernel
theorem dX3_off_9 : decode cX3_off 9 = .ok (.ireturn, 1) := by decide +kernel
theorem dX3_off_10 : decode cX3_off 10 = .ok (.iload_n 2, 1) := by decide +kernel
theorem dX3_off_11 : decode cX3_off 11 = .ok (.invokestatic 151, 3) := by decide +kernel
theorem dX3_off_14 : decode cX3_off 14 = .ok (.ifCond .ne 8, 3) := by decide +kernel
theorem dX3_off_17 : decode cX3_off 17 = .ok (.ldc 154, 2) := by decide +kernel
theorem dX3_off_19 : decode cX3_off 19 = .ok (.goto 22, 3) := by decide +kernel
theorem dX3_off_22 : decode cX3_off 22 = .ok (.iload_n 2, 1) := by decide +kernel
theorem dX3_off_23 : decode cX3_off 23 = .ok (.ifCond .ne 12, 3) := by decide +kernel
theorem dX3_off_26 : decode cX3_off 26 = .ok (.aload_n 0, 1) := by decide +kernel
theorem dX3_off_27 : decode cX3_off 27 = .ok (.getfield 23, 3) := by decide +kernel
theorem dX3_off_30 : decode cX3_off 30 = .ok (.iload_n 1, 1) := by decide +kernel
theorem dX3_off_31 : decode cX3_off 31 = .ok (.iaload, 1) := by decide +kernel
theorem dX3_off_32 : decode cX3_off 32 = .ok (.goto 9, 3) := by decide +kernel
theorem dX3_off_35 : decode cX3_off 35 = .ok (.aload_n 0, 1) := by decide +kernel
theorem dX3_off_36 : decode cX3_off 36 = .ok (.getfield 26, 3) := by decide +kernel
theorem dX3_off_39 : decode cX3_off 39 = .ok (.iload_n 1, 1) := by decide +kernel
theorem dX3_off_40 : decode cX3_off 40 = .ok (.iaload, 1) := by decide +kernel
theorem dX3_off_41 : decode cX3_off 41 = .ok (.ireturn, 1) := by decide +kernel
theorem dX3_rate_0 : decode cX3_rate 0 = .ok (.iload_n 1, 1) := by decide +kernel
theorem dX3_rate_1 : decode cX3_rate 1 = .ok (.invokestatic 151, 3) := by decide +kernel
theorem dX3_rate_4 : decode cX3_rate 4 = .ok (.ifCond .ne 8, 3) := by decide +kernel
theorem dX3_rate_7 : decode cX3_rate 7 = .ok (.ldc 154, 2) := by decide +kernel
theorem dX3_rate_9 : decode cX3_rate 9 = .ok (.goto 24, 3) := by decide +kernel
theorem dX3_rate_12 : decode cX3_rate 12 = .ok (.iload_n 1, 1) := by decide +kernel
theorem dX3_rate_13 : decode cX3_rate 13 = .ok (.ifCond .ne 13, 3) := by decide +kernel
theorem dX3_rate_16 : decode cX3_rate 16 = .ok (.aload_n 0, 1) := by decide +kernel
theorem dX3_rate_17 : decode cX3_rate 17 = .ok (.getfield 23, 3) := by decide +kernel
theorem dX3_rate_20 : decode cX3_rate 20 = .ok (.bipush 20, 2) := by decide +kernel
theorem dX3_rate_22 : decode cX3_rate 22 = .ok (.iaload, 1) := by decide +kernel
theorem dX3_rate_23 : decode cX3_rate 23 = .ok (.goto 10, 3) := by decide +kernel
theorem dX3_rate_26 : decode cX3_rate 26 = .ok (.aload_n 0, 1) := by decide +kernel
theorem dX3_rate_27 : decode cX3_rate 27 = .ok (.getfield 26, 3) := by decide +kernel
theorem dX3_rate_30 : decode cX3_rate 30 = .ok (.bipush 20, 2) := by decide +kernel
theorem dX3_rate_32 : decode cX3_rate 32 = .ok (.iaload, 1) := by decide +kernel
theorem dX3_rate_33 : decode cX3_rate 33 = .ok (.ireturn, 1) := by decide +kernel
theorem dX3_slow_0 : decode cX3_slow 0 = .ok (.iload_n 1, 1) := by decide +kernel
theorem dX3_slow_1 : decode cX3_slow 1 = .ok (.iconst 0, 1) := by decide +kernel
theorem dX3_slow_2 : decode cX3_slow 2 = .ok (.iconst 1, 1) := by decide +kernel
theorem dX3_slow_3 : decode cX3_slow 3 = .ok (.invokestatic 111, 3) := by decide +kernel
theorem dX3_slow_6 : decode cX3_slow 6 = .ok (.ifCond .eq 23, 3) := by decide +kernel
theorem dX3_slow_9 : decode cX3_slow 9 = .ok (.iload_n 2, 1) := by decide +kernel
theorem dX3_slow_10 : decode cX3_slow 10 = .ok (.iconst 0, 1) := by decide +kernel
theorem dX3_slow_11 : decode cX3_slow 11 = .ok (.bipush 50, 2) := by decide +kernel
theorem dX3_slow_13 : decode cX3_slow 13 = .ok (.invokestatic 111, 3) := by decide +kernel
theorem dX3_slow_16 : decode cX3_slow 16 = .ok (.ifCond .eq 13, 3) := by decide +kernel
theorem dX3_slow_19 : decode cX3_slow 19 = .ok (.iload_n 3, 1) := by decide +kernel
theorem dX3_slow_20 : decode cX3_slow 20 = .ok (.iload_n 2, 1) := by decide +kernel
theorem dX3_slow_21 : decode cX3_slow 21 = .ok (.bipush 50, 2) := by decide +kernel
theorem dX3_slow_23 : decode cX3_slow 23 = .ok (.invokestatic 111, 3) := by decide +kernel
theorem dX3_slow_26 : decode cX3_slow 26 = .ok (.ifCond .ne 6, 3) := by decide +kernel
theorem dX3_slow_29 : decode cX3_slow 29 = .ok (.bipush (-2), 2) := by decide +kernel
theorem dX3_slow_31 : decode cX3_slow 31 = .ok (.ireturn, 1) := by decide +kernel
theorem dX3_slow_32 : decode cX3_slow 32 = .ok (.bipush 100, 2) := by decide +kernel
theorem dX3_slow_34 : decode cX3_slow 34 = .ok (.aload_n 0, 1) := by decide +kernel
theorem dX3_slow_35 : decode cX3_slow 35 = .ok (.getfield 29, 3) := by decide +kernel
theorem dX3_slow_38 : decode cX3_slow 38 = .ok (.iload_n 1, 1) := by decide +kernel
theorem dX3_slow_39 : decode cX3_slow 39 = .ok (.iaload, 1) := by decide +kernel
theorem dX3_slow_40 : decode cX3_slow 40 = .ok (.imul, 1) := by decide +kernel
theorem dX3_slow_41 : decode cX3_slow 41 = .ok (.aload_n 0, 1) := by decide +kernel
theorem dX3_slow_42 : decode cX3_slow 42 = .ok (.getfield 32, 3) := by decide +kernel
theorem dX3_slow_45 : decode cX3_slow 45 = .ok (.iload_n 1, 1) := by decide +kernel
theorem dX3_slow_46 : decode cX3_slow 46 = .ok (.iaload, 1) := by decide +kernel
theorem dX3_slow_47 : decode cX3_slow 47 = .ok (.iadd, 1) := by decide +kernel
theorem dX3_slow_48 : decode cX3_slow 48 = .ok (.istore 4, 2) := by decide +kernel
theorem dX3_slow_50 : decode cX3_slow 50 = .ok (.aload_n 0, 1) := by decide +kernel
theorem dX3_slow_51 : decode cX3_slow 51 = .ok (.getfield 29, 3) := by decide +kernel
theorem dX3_slow_54 : decode cX3_slow 54 = .ok (.iload_n 1, 1) := by decide +kernel
theorem dX3_slow_55 : decode cX3_slow 55 = .ok (.iload_n 2, 1) := by decide +kernel
theorem dX3_slow_56 : decode cX3_slow 56 = .ok (.iastore, 1) := by decide +kernel
theorem dX3_slow_57 : decode cX3_slow 57 = .ok (.aload_n 0, 1) := by decide +kernel
theorem dX3_slow_58 : decode cX3_slow 58 = .ok (.getfield 32, 3) := by decide +kernel
theorem dX3_slow_61 : decode cX3_slow 61 = .ok (.iload_n 1, 1) := by decide +kernel
theorem dX3_slow_62 : decode cX3_slow 62 = .ok (.iload_n 3, 1) := by decide +kernel
theorem dX3_slow_63 : decode cX3_slow 63 = .ok (.iastore, 1) := by decide +kernel
theorem dX3_slow_64 : decode cX3_slow 64 = .ok (.iload 4, 2) := by decide +kernel
theorem dX3_slow_66 : decode cX3_slow 66 = .ok (.ireturn, 1) := by decide +kernel
theorem dX3_slip_0 : decode cX3_slip 0 = .ok (.iload_n 1, 1) := by decide +kernel
theorem dX3_slip_1 : decode cX3_slip 1 = .ok (.invokestatic 146, 3) := by decide +kernel
theorem dX3_slip_4 : decode cX3_slip 4 = .ok (.ifCond .ne 6, 3) := by decide +kernel
theorem dX3_slip_7 : decode cX3_slip 7 = .ok (.ldc 150, 2) := by decide +kernel
theorem dX3_slip_9 : decode cX3_slip 9 = .ok (.ireturn, 1) := by decide +kernel
theorem dX3_slip_10 : decode cX3_slip 10 = .ok (.iload_n 2, 1) := by decide +kernel
theorem dX3_slip_11 : decode cX3_slip 11 = .ok (.bipush (-60), 2) := by decide +kernel
theorem dX3_slip_13 : decode cX3_slip 13 = .ok (.bipush 60, 2) := by decide +kernel
theorem dX3_slip_15 : decode cX3_slip 15 = .ok (.invokestatic 111, 3) := by decide +kernel
theorem dX3_slip_18 : decode cX3_slip 18 = .ok (.ifCond .ne 6, 3) := by decide +kernel
theorem dX3_slip_21 : decode cX3_slip 21 = .ok (.ldc 154, 2) := by decide +kernel
theorem dX3_slip_23 : decode cX3_slip 23 = .ok (.ireturn, 1) := by decide +kernel
theorem dX3_slip_24 : decode cX3_slip 24 = .ok (.aload_n 0, 1) := by decide +kernel
theorem dX3_slip_25 : decode cX3_slip 25 = .ok (.getfield 35, 3) := by decide +kernel
theorem dX3_slip_28 : decode cX3_slip 28 = .ok (.iload_n 1, 1) := by decide +kernel
theorem dX3_slip_29 : decode cX3_slip 29 = .ok (.iaload, 1) := by decide +kernel
theorem dX3_slip_30 : decode cX3_slip 30 = .ok (.istore_n 3, 1) := by decide +kernel
theorem dX3_slip_31 : decode cX3_slip 31 = .ok (.aload_n 0, 1) := by decide +kernel
theorem dX3_slip_32 : decode cX3_slip 32 = .ok (.getfield 35, 3) := by decide +kernel
theorem dX3_slip_35 : decode cX3_slip 35 = .ok (.iload_n 1, 1) := by decide +kernel
theorem dX3_slip_36 : decode cX3_slip 36 = .ok (.iload_n 2, 1) := by decide +kernel
theorem dX3_slip_37 : decode cX3_slip 37 = .ok (.iastore, 1) := by decide +kernel
theorem dX3_slip_38 : decode cX3_slip 38 = .ok (.iload_n 3, 1) := by decide +kernel
theorem dX3_slip_39 : decode cX3_slip 39 = .ok (.ireturn, 1) := by decide +kernel
theorem dX3_back_0 : decode cX3_back 0 = .ok (.iload_n 1, 1) := by decide +kernel
theorem dX3_back_1 : decode cX3_back 1 = .ok (.invokestatic 146, 3) := by decide +kernel
theorem dX3_back_4 : decode cX3_back 4 = .ok (.ifCond .ne 5, 3) := by decide +kernel
theorem dX3_back_7 : decode cX3_back 7 = .ok (.iconst (-1), 1) := by decide +kernel
theorem dX3_back_8 : decode cX3_back 8 = .ok (.ireturn, 1) := by decide +kernel
theorem dX3_back_9 : decode cX3_back 9 = .ok (.aload_n 0, 1) := by decide +kernel
theorem dX3_back_10 : decode cX3_back 10 = .ok (.getfield 38, 3) := by decide +kernel
theorem dX3_back_13 : decode cX3_back 13 = .ok (.iload_n 1, 1) := by decide +kernel
theorem dX3_back_14 : decode cX3_back 14 = .ok (.baload, 1) := by decide +kernel
theorem dX3_back_15 : decode cX3_back 15 = .ok (.ifCond .eq 7, 3) := by decide +kernel
theorem dX3_back_18 : decode cX3_back 18 = .ok (.iconst 1, 1) := by decide +kernel
theorem dX3_back_19 : decode cX3_back 19 = .ok (.goto 4, 3) := by decide +kernel
theorem dX3_back_22 : decode cX3_back 22 = .ok (.iconst 0, 1) := by decide +kernel
theorem dX3_back_23 : decode cX3_back 23 = .ok (.istore_n 3, 1) := by decide +kernel
theorem dX3_back_24 : decode cX3_back 24 = .ok (.aload_n 0, 1) := by decide +kernel
theorem dX3_back_25 : decode cX3_back 25 = .ok (.getfield 38, 3) := by decide +kernel
theorem dX3_back_28 : decode cX3_back 28 = .ok (.iload_n 1, 1) := by decide +kernel
theorem dX3_back_29 : decode cX3_back 29 = .ok (.iload_n 2, 1) := by decide +kernel
theorem dX3_back_30 : decode cX3_back 30 = .ok (.bastore, 1) := by decide +kernel
theorem dX3_back_31 : decode cX3_back 31 = .ok (.iload_n 3, 1) := by decide +kernel
theorem dX3_back_32 : decode cX3_back 32 = .ok (.ireturn, 1) := by decide +kernel
theorem dX3_lateOf_0 : decode cX3_lateOf 0 = .ok (.aload_n 0, 1) := by decide +kernel
theorem dX3_lateOf_1 : decode cX3_lateOf 1 = .ok (.getfield 23, 3) := by decide +kernel
theorem dX3_lateOf_4 : decode cX3_lateOf 4 = .ok (.iload_n 1, 1) := by decide +kernel
theorem dX3_lateOf_5 : decode cX3_lateOf 5 = .ok (.iaload, 1) := by decide +kernel
theorem dX3_lateOf_6 : decode cX3_lateOf 6 = .ok (.aload_n 0, 1) := by decide +kernel
theorem dX3_lateOf_7 : decode cX3_lateOf 7 = .ok (.getfield 26, 3) := by decide +kernel
theorem dX3_lateOf_10 : decode cX3_lateOf 10 = .ok (.iload_n 1, 1) := by decide +kernel
theorem dX3_lateOf_11 : decode cX3_lateOf 11 = .ok (.iaload, 1) := by decide +kernel
theorem dX3_lateOf_12 : decode cX3_lateOf 12 = .ok (.iadd, 1) := by decide +kernel
theorem dX3_lateOf_13 : decode cX3_lateOf 13 = .ok (.iconst 2, 1) := by decide +kernel
theorem dX3_lateOf_14 : decode cX3_lateOf 14 = .ok (.invokestatic 118, 3) := by decide +kernel
theorem dX3_lateOf_17 : decode cX3_lateOf 17 = .ok (.istore_n 3, 1) := by decide +kernel
theorem dX3_lateOf_18 : decode cX3_lateOf 18 = .ok (.iload_n 2, 1) := by decide +kernel
theorem dX3_lateOf_19 : decode cX3_lateOf 19 = .ok (.ifCond .ne 26, 3) := by decide +kernel
theorem dX3_lateOf_22 : decode cX3_lateOf 22 = .ok (.aload_n 0, 1) := by decide +kernel
theorem dX3_lateOf_23 : decode cX3_lateOf 23 = .ok (.getfield 29, 3) := by decide +kernel
theorem dX3_lateOf_26 : decode cX3_lateOf 26 = .ok (.iconst 0, 1) := by decide +kernel
theorem dX3_lateOf_27 : decode cX3_lateOf 27 = .ok (.iaload, 1) := by decide +kernel
theorem dX3_lateOf_28 : decode cX3_lateOf 28 = .ok (.aload_n 0, 1) := by decide +kernel
theorem dX3_lateOf_29 : decode cX3_lateOf 29 = .ok (.getfield 29, 3) := by decide +kernel
theorem dX3_lateOf_32 : decode cX3_lateOf 32 = .ok (.iconst 1, 1) := by decide +kernel
theorem dX3_lateOf_33 : decode cX3_lateOf 33 = .ok (.iaload, 1) := by decide +kernel
theorem dX3_lateOf_34 : decode cX3_lateOf 34 = .ok (.iadd, 1) := by decide +kernel
theorem dX3_lateOf_35 : decode cX3_lateOf 35 = .ok (.aload_n 0, 1) := by decide +kernel
theorem dX3_lateOf_36 : decode cX3_lateOf 36 = .ok (.getfield 26, 3) := by decide +kernel
theorem dX3_lateOf_39 : decode cX3_lateOf 39 = .ok (.iload_n 1, 1) := by decide +kernel
theorem dX3_lateOf_40 : decode cX3_lateOf 40 = .ok (.iaload, 1) := by decide +kernel
theorem dX3_lateOf_41 : decode cX3_lateOf 41 = .ok (.isub, 1) := by decide +kernel
theorem dX3_lateOf_42 : decode cX3_lateOf 42 = .ok (.goto 23, 3) := by decide +kernel
theorem dX3_lateOf_45 : decode cX3_lateOf 45 = .ok (.aload_n 0, 1) := by decide +kernel
theorem dX3_lateOf_46 : decode cX3_lateOf 46 = .ok (.getfield 32, 3) := by decide +kernel
theorem dX3_lateOf_49 : decode cX3_lateOf 49 = .ok (.iconst 0, 1) := by decide +kernel
theorem dX3_lateOf_50 : decode cX3_lateOf 50 = .ok (.iaload, 1) := by decide +kernel
theorem dX3_lateOf_51 : decode cX3_lateOf 51 = .ok (.aload_n 0, 1) := by decide +kernel
theorem dX3_lateOf_52 : decode cX3_lateOf 52 = .ok (.getfield 32, 3) := by decide +kernel
theorem dX3_lateOf_55 : decode cX3_lateOf 55 = .ok (.iconst 1, 1) := by decide +kernel
theorem dX3_lateOf_56 : decode cX3_lateOf 56 = .ok (.iaload, 1) := by decide +kernel
theorem dX3_lateOf_57 : decode cX3_lateOf 57 = .ok (.iadd, 1) := by decide +kernel
theorem dX3_lateOf_58 : decode cX3_lateOf 58 = .ok (.aload_n 0, 1) := by decide +kernel
theorem dX3_lateOf_59 : decode cX3_lateOf 59 = .ok (.getfield 23, 3) := by decide +kernel
theorem dX3_lateOf_62 : decode cX3_lateOf 62 = .ok (.iload_n 1, 1) := by decide +kernel
theorem dX3_lateOf_63 : decode cX3_lateOf 63 = .ok (.iaload, 1) := by decide +kernel
theorem dX3_lateOf_64 : decode cX3_lateOf 64 = .ok (.isub, 1) := by decide +kernel
theorem dX3_lateOf_65 : decode cX3_lateOf 65 = .ok (.istore 4, 2) := by decide +kernel
theorem dX3_lateOf_67 : decode cX3_lateOf 67 = .ok (.iload_n 3, 1) := by decide +kernel
theorem dX3_lateOf_68 : decode cX3_lateOf 68 = .ok (.iload 4, 2) := by decide +kernel
theorem dX3_lateOf_70 : decode cX3_lateOf 70 = .ok (.iadd, 1) := by decide +kernel
theorem dX3_lateOf_71 : decode cX3_lateOf 71 = .ok (.aload_n 0, 1) := by decide +kernel
theorem dX3_lateOf_72 : decode cX3_lateOf 72 = .ok (.getfield 35, 3) := by decide +kernel
theorem dX3_lateOf_75 : decode cX3_lateOf 75 = .ok (.iload_n 1, 1) := by decide +kernel
theorem dX3_lateOf_76 : decode cX3_lateOf 76 = .ok (.iaload, 1) := by decide +kernel
theorem dX3_lateOf_77 : decode cX3_lateOf 77 = .ok (.iadd, 1) := by decide +kernel
theorem dX3_lateOf_78 : decode cX3_lateOf 78 = .ok (.ireturn, 1) := by decide +kernel
theorem dX3_late_0 : decode cX3_late 0 = .ok (.iload_n 1, 1) := by decide +kernel
theorem dX3_late_1 : decode cX3_late 1 = .ok (.invokestatic 146, 3) := by decide +kernel
theorem dX3_late_4 : decode cX3_late 4 = .ok (.ifCond .ne 6, 3) := by decide +kernel
theorem dX3_late_7 : decode cX3_late 7 = .ok (.ldc 150, 2) := by decide +kernel
theorem dX3_late_9 : decode cX3_late 9 = .ok (.ireturn, 1) := by decide +kernel
theorem dX3_late_10 : decode cX3_late 10 = .ok (.iload_n 2, 1) := by decide +kernel
theorem dX3_late_11 : decode cX3_late 11 = .ok (.invokestatic 151, 3) := by decide +kernel
theorem dX3_late_14 : decode cX3_late 14 = .ok (.ifCond .eq 12, 3) := by decide +kernel
theorem dX3_late_17 : decode cX3_late 17 = .ok (.aload_n 0, 1) := by decide +kernel
theorem dX3_late_18 : decode cX3_late 18 = .ok (.iload_n 1, 1) := by decide +kernel
theorem dX3_late_19 : decode cX3_late 19 = .ok (.iload_n 2, 1) := by decide +kernel
theorem dX3_late_20 : decode cX3_late 20 = .ok (.invokevirtual 155, 3) := by decide +kernel
theorem dX3_late_23 : decode cX3_late 23 = .ok (.goto 5, 3) := by decide +kernel
theorem dX3_late_26 : decode cX3_late 26 = .ok (.ldc 154, 2) := by decide +kernel
theorem dX3_late_28 : decode cX3_late 28 = .ok (.ireturn, 1) := by decide +kernel
theorem dX3_ship_0 : decode cX3_ship 0 = .ok (.aload_n 0, 1) := by decide +kernel
theorem dX3_ship_1 : decode cX3_ship 1 = .ok (.getfield 115, 3) := by decide +kernel
theorem dX3_ship_4 : decode cX3_ship 4 = .ok (.iconst 4, 1) := by decide +kernel
theorem dX3_ship_5 : decode cX3_ship 5 = .ok (.if_icmp .ne 6, 3) := by decide +kernel
theorem dX3_ship_8 : decode cX3_ship 8 = .ok (.bipush (-4), 2) := by decide +kernel
theorem dX3_ship_10 : decode cX3_ship 10 = .ok (.ireturn, 1) := by decide +kernel
theorem dX3_ship_11 : decode cX3_ship 11 = .ok (.aload_n 0, 1) := by decide +kernel
theorem dX3_ship_12 : decode cX3_ship 12 = .ok (.getfield 45, 3) := by decide +kernel
theorem dX3_ship_15 : decode cX3_ship 15 = .ok (.aload_n 0, 1) := by decide +kernel
theorem dX3_ship_16 : decode cX3_ship 16 = .ok (.getfield 115, 3) := by decide +kernel
theorem dX3_ship_19 : decode cX3_ship 19 = .ok (.iconst 0, 1) := by decide +kernel
theorem dX3_ship_20 : decode cX3_ship 20 = .ok (.iastore, 1) := by decide +kernel
theorem dX3_ship_21 : decode cX3_ship 21 = .ok (.aload_n 0, 1) := by decide +kernel
theorem dX3_ship_22 : decode cX3_ship 22 = .ok (.dup, 1) := by decide +kernel
theorem dX3_ship_23 : decode cX3_ship 23 = .ok (.getfield 115, 3) := by decide +kernel
theorem dX3_ship_26 : decode cX3_ship 26 = .ok (.iconst 1, 1) := by decide +kernel
theorem dX3_ship_27 : decode cX3_ship 27 = .ok (.iadd, 1) := by decide +kernel
theorem dX3_ship_28 : decode cX3_ship 28 = .ok (.putfield 115, 3) := by decide +kernel
theorem dX3_ship_31 : decode cX3_ship 31 = .ok (.aload_n 0, 1) := by decide +kernel
theorem dX3_ship_32 : decode cX3_ship 32 = .ok (.getfield 115, 3) := by decide +kernel
theorem dX3_ship_35 : decode cX3_ship 35 = .ok (.iconst 1, 1) := by decide +kernel
theorem dX3_ship_36 : decode cX3_ship 36 = .ok (.isub, 1) := by decide +kernel
theorem dX3_ship_37 : decode cX3_ship 37 = .ok (.ireturn, 1) := by decide +kernel
theorem dX3_mark_0 : decode cX3_mark 0 = .ok (.aload_n 0, 1) := by decide +kernel
theorem dX3_mark_1 : decode cX3_mark 1 = .ok (.getfield 45, 3) := by decide +kernel
theorem dX3_mark_4 : decode cX3_mark 4 = .ok (.iload_n 1, 1) := by decide +kernel
theorem dX3_mark_5 : decode cX3_mark 5 = .ok (.iaload, 1) := by decide +kernel
theorem dX3_mark_6 : decode cX3_mark 6 = .ok (.bipush 12, 2) := by decide +kernel
theorem dX3_mark_8 : decode cX3_mark 8 = .ok (.if_icmp .ne 6, 3) := by decide +kernel
theorem dX3_mark_11 : decode cX3_mark 11 = .ok (.bipush (-4), 2) := by decide +kernel
theorem dX3_mark_13 : decode cX3_mark 13 = .ok (.ireturn, 1) := by decide +kernel
theorem dX3_mark_14 : decode cX3_mark 14 = .ok (.bipush 12, 2) := by decide +kernel
theorem dX3_mark_16 : decode cX3_mark 16 = .ok (.iload_n 1, 1) := by decide +kernel
theorem dX3_mark_17 : decode cX3_mark 17 = .ok (.imul, 1) := by decide +kernel
theorem dX3_mark_18 : decode cX3_mark 18 = .ok (.aload_n 0, 1) := by decide +kernel
theorem dX3_mark_19 : decode cX3_mark 19 = .ok (.getfield 45, 3) := by decide +kernel
theorem dX3_mark_22 : decode cX3_mark 22 = .ok (.iload_n 1, 1) := by decide +kernel
theorem dX3_mark_23 : decode cX3_mark 23 = .ok (.iaload, 1) := by decide +kernel
theorem dX3_mark_24 : decode cX3_mark 24 = .ok (.iadd, 1) := by decide +kernel
theorem dX3_mark_25 : decode cX3_mark 25 = .ok (.istore 7, 2) := by decide +kernel
theorem dX3_mark_27 : decode cX3_mark 27 = .ok (.aload_n 0, 1) := by decide +kernel
theorem dX3_mark_28 : decode cX3_mark 28 = .ok (.getfield 48, 3) := by decide +kernel
theorem dX3_mark_31 : decode cX3_mark 31 = .ok (.iload 7, 2) := by decide +kernel
theorem dX3_mark_33 : decode cX3_mark 33 = .ok (.iload_n 2, 1) := by decide +kernel
theorem dX3_mark_34 : decode cX3_mark 34 = .ok (.iastore, 1) := by decide +kernel
theorem dX3_mark_35 : decode cX3_mark 35 = .ok (.aload_n 0, 1) := by decide +kernel
theorem dX3_mark_36 : decode cX3_mark 36 = .ok (.getfield 51, 3) := by decide +kernel
theorem dX3_mark_39 : decode cX3_mark 39 = .ok (.iload 7, 2) := by decide +kernel
theorem dX3_mark_41 : decode cX3_mark 41 = .ok (.iload_n 3, 1) := by decide +kernel
theorem dX3_mark_42 : decode cX3_mark 42 = .ok (.iastore, 1) := by decide +kernel
theorem dX3_mark_43 : decode cX3_mark 43 = .ok (.aload_n 0, 1) := by decide +kernel
theorem dX3_mark_44 : decode cX3_mark 44 = .ok (.getfield 54, 3) := by decide +kernel
theorem dX3_mark_47 : decode cX3_mark 47 = .ok (.iload 7, 2) := by decide +kernel
theorem dX3_mark_49 : decode cX3_mark 49 = .ok (.iload 4, 2) := by decide +kernel
theorem dX3_mark_51 : decode cX3_mark 51 = .ok (.iastore, 1) := by decide +kernel
theorem dX3_mark_52 : decode cX3_mark 52 = .ok (.aload_n 0, 1) := by decide +kernel
theorem dX3_mark_53 : decode cX3_mark 53 = .ok (.getfield 57, 3) := by decide +kernel
theorem dX3_mark_56 : decode cX3_mark 56 = .ok (.iload 7, 2) := by decide +kernel
theorem dX3_mark_58 : decode cX3_mark 58 = .ok (.iload 5, 2) := by decide +kernel
theorem dX3_mark_60 : decode cX3_mark 60 = .ok (.iastore, 1) := by decide +kernel
theorem dX3_mark_61 : decode cX3_mark 61 = .ok (.aload_n 0, 1) := by decide +kernel
theorem dX3_mark_62 : decode cX3_mark 62 = .ok (.getfield 60, 3) := by decide +kernel
theorem dX3_mark_65 : decode cX3_mark 65 = .ok (.iload 7, 2) := by decide +kernel
theorem dX3_mark_67 : decode cX3_mark 67 = .ok (.iload 6, 2) := by decide +kernel
theorem dX3_mark_69 : decode cX3_mark 69 = .ok (.iastore, 1) := by decide +kernel
theorem dX3_mark_70 : decode cX3_mark 70 = .ok (.aload_n 0, 1) := by decide +kernel
theorem dX3_mark_71 : decode cX3_mark 71 = .ok (.getfield 45, 3) := by decide +kernel
theorem dX3_mark_74 : decode cX3_mark 74 = .ok (.iload_n 1, 1) := by decide +kernel
theorem dX3_mark_75 : decode cX3_mark 75 = .ok (.dup2, 1) := by decide +kernel
theorem dX3_mark_76 : decode cX3_mark 76 = .ok (.iaload, 1) := by decide +kernel
theorem dX3_mark_77 : decode cX3_mark 77 = .ok (.iconst 1, 1) := by decide +kernel
theorem dX3_mark_78 : decode cX3_mark 78 = .ok (.iadd, 1) := by decide +kernel
theorem dX3_mark_79 : decode cX3_mark 79 = .ok (.iastore, 1) := by decide +kernel
theorem dX3_mark_80 : decode cX3_mark 80 = .ok (.aload_n 0, 1) := by decide +kernel
theorem dX3_mark_81 : decode cX3_mark 81 = .ok (.getfield 45, 3) := by decide +kernel
theorem dX3_mark_84 : decode cX3_mark 84 = .ok (.iload_n 1, 1) := by decide +kernel
theorem dX3_mark_85 : decode cX3_mark 85 = .ok (.iaload, 1) := by decide +kernel
theorem dX3_mark_86 : decode cX3_mark 86 = .ok (.ireturn, 1) := by decide +kernel
theorem dX3_isOne_0 : decode cX3_isOne 0 = .ok (.aload_n 0, 1) := by decide +kernel
theorem dX3_isOne_1 : decode cX3_isOne 1 = .ok (.iload_n 1, 1) := by decide +kernel
theorem dX3_isOne_2 : decode cX3_isOne 2 = .ok (.invokevirtual 158, 3) := by decide +kernel
theorem dX3_isOne_5 : decode cX3_isOne 5 = .ok (.ifCond .eq 21, 3) := by decide +kernel
theorem dX3_isOne_8 : decode cX3_isOne 8 = .ok (.iload_n 2, 1) := by decide +kernel
theorem dX3_isOne_9 : decode cX3_isOne 9 = .ok (.invokestatic 161, 3) := by decide +kernel
theorem dX3_isOne_12 : decode cX3_isOne 12 = .ok (.ifCond .eq 14, 3) := by decide +kernel
theorem dX3_isOne_15 : decode cX3_isOne 15 = .ok (.iload_n 3, 1) := by decide +kernel
theorem dX3_isOne_16 : decode cX3_isOne 16 = .ok (.invokestatic 146, 3) := by decide +kernel
theorem dX3_isOne_19 : decode cX3_isOne 19 = .ok (.ifCond .eq 7, 3) := by decide +kernel
theorem dX3_isOne_22 : decode cX3_isOne 22 = .ok (.iconst 1, 1) := by decide +kernel
theorem dX3_isOne_23 : decode cX3_isOne 23 = .ok (.goto 4, 3) := by decide +kernel
theorem dX3_isOne_26 : decode cX3_isOne 26 = .ok (.iconst 0, 1) := by decide +kernel
theorem dX3_isOne_27 : decode cX3_isOne 27 = .ok (.ireturn, 1) := by decide +kernel
theorem dX3_set_0 : decode cX3_set 0 = .ok (.aload_n 0, 1) := by decide +kernel
theorem dX3_set_1 : decode cX3_set 1 = .ok (.iload_n 1, 1) := by decide +kernel
theorem dX3_set_2 : decode cX3_set 2 = .ok (.iload_n 2, 1) := by decide +kernel
theorem dX3_set_3 : decode cX3_set 3 = .ok (.iload_n 3, 1) := by decide +kernel
theorem dX3_set_4 : decode cX3_set 4 = .ok (.invokevirtual 164, 3) := by decide +kernel
theorem dX3_set_7 : decode cX3_set 7 = .ok (.ifCond .ne 5, 3) := by decide +kernel
theorem dX3_set_10 : decode cX3_set 10 = .ok (.iconst (-1), 1) := by decide +kernel
theorem dX3_set_11 : decode cX3_set 11 = .ok (.ireturn, 1) := by decide +kernel
theorem dX3_set_12 : decode cX3_set 12 = .ok (.iload 4, 2) := by decide +kernel
theorem dX3_set_14 : decode cX3_set 14 = .ok (.iconst 0, 1) := by decide +kernel
theorem dX3_set_15 : decode cX3_set 15 = .ok (.iconst 2, 1) := by decide +kernel
theorem dX3_set_16 : decode cX3_set 16 = .ok (.invokestatic 111, 3) := by decide +kernel
theorem dX3_set_19 : decode cX3_set 19 = .ok (.ifCond .eq 38, 3) := by decide +kernel
theorem dX3_set_22 : decode cX3_set 22 = .ok (.iload 5, 2) := by decide +kernel
theorem dX3_set_24 : decode cX3_set 24 = .ok (.iconst 0, 1) := by decide +kernel
theorem dX3_set_25 : decode cX3_set 25 = .ok (.iload 4, 2) := by decide +kernel
theorem dX3_set_27 : decode cX3_set 27 = .ok (.iconst 2, 1) := by decide +kernel
theorem dX3_set_28 : decode cX3_set 28 = .ok (.if_icmp .ne 8, 3) := by decide +kernel
theorem dX3_set_31 : decode cX3_set 31 = .ok (.bipush 30, 2) := by decide +kernel
theorem dX3_set_33 : decode cX3_set 33 = .ok (.goto 4, 3) := by decide +kernel
theorem dX3_set_36 : decode cX3_set 36 = .ok (.iconst 0, 1) := by decide +kernel
theorem dX3_set_37 : decode cX3_set 37 = .ok (.invokestatic 111, 3) := by decide +kernel
theorem dX3_set_40 : decode cX3_set 40 = .ok (.ifCond .eq 17, 3) := by decide +kernel
theorem dX3_set_43 : decode cX3_set 43 = .ok (.iload 6, 2) := by decide +kernel
theorem dX3_set_45 : decode cX3_set 45 = .ok (.sipush (-9999), 3) := by decide +kernel
theorem dX3_set_48 : decode cX3_set 48 = .ok (.sipush 9999, 3) := by decide +kernel
theorem dX3_set_51 : decode cX3_set 51 = .ok (.invokestatic 111, 3) := by decide +kernel
theorem dX3_set_54 : decode cX3_set 54 = .ok (.ifCond .ne 6, 3) := by decide +kernel
theorem dX3_set_57 : decode cX3_set 57 = .ok (.bipush (-2), 2) := by decide +kernel
theorem dX3_set_59 : decode cX3_set 59 = .ok (.ireturn, 1) := by decide +kernel
theorem dX3_set_60 : decode cX3_set 60 = .ok (.aload_n 0, 1) := by decide +kernel
theorem dX3_set_61 : decode cX3_set 61 = .ok (.iload_n 1, 1) := by decide +kernel
theorem dX3_set_62 : decode cX3_set 62 = .ok (.iload_n 2, 1) := by decide +kernel
theorem dX3_set_63 : decode cX3_set 63 = .ok (.iload_n 3, 1) := by decide +kernel
theorem dX3_set_64 : decode cX3_set 64 = .ok (.iload 4, 2) := by decide +kernel
theorem dX3_set_66 : decode cX3_set 66 = .ok (.iload 5, 2) := by decide +kernel
theorem dX3_set_68 : decode cX3_set 68 = .ok (.iload 6, 2) := by decide +kernel
theorem dX3_set_70 : decode cX3_set 70 = .ok (.invokevirtual 167, 3) := by decide +kernel
theorem dX3_set_73 : decode cX3_set 73 = .ok (.ireturn, 1) := by decide +kernel
theorem dX3_meet_0 : decode cX3_meet 0 = .ok (.aload_n 0, 1) := by decide +kernel
theorem dX3_meet_1 : decode cX3_meet 1 = .ok (.iload_n 1, 1) := by decide +kernel
theorem dX3_meet_2 : decode cX3_meet 2 = .ok (.iload_n 2, 1) := by decide +kernel
theorem dX3_meet_3 : decode cX3_meet 3 = .ok (.iload_n 3, 1) := by decide +kernel
theorem dX3_meet_4 : decode cX3_meet 4 = .ok (.invokevirtual 164, 3) := by decide +kernel
theorem dX3_meet_7 : decode cX3_meet 7 = .ok (.ifCond .ne 5, 3) := by decide +kernel
theorem dX3_meet_10 : decode cX3_meet 10 = .ok (.iconst (-1), 1) := by decide +kernel
theorem dX3_meet_11 : decode cX3_meet 11 = .ok (.ireturn, 1) := by decide +kernel
theorem dX3_meet_12 : decode cX3_meet 12 = .ok (.iload 4, 2) := by decide +kernel
theorem dX3_meet_14 : decode cX3_meet 14 = .ok (.ldc 105, 2) := by decide +kernel
theorem dX3_meet_16 : decode cX3_meet 16 = .ok (.ldc 106, 2) := by decide +kernel
theorem dX3_meet_18 : decode cX3_meet 18 = .ok (.invokestatic 111, 3) := by decide +kernel
theorem dX3_meet_21 : decode cX3_meet 21 = .ok (.ifCond .eq 17, 3) := by decide +kernel
theorem dX3_meet_24 : decode cX3_meet 24 = .ok (.iload 5, 2) := by decide +kernel
theorem dX3_meet_26 : decode cX3_meet 26 = .ok (.sipush (-9999), 3) := by decide +kernel
theorem dX3_meet_29 : decode cX3_meet 29 = .ok (.sipush 9999, 3) := by decide +kernel
theorem dX3_meet_32 : decode cX3_meet 32 = .ok (.invokestatic 111, 3) := by decide +kernel
theorem dX3_meet_35 : decode cX3_meet 35 = .ok (.ifCond .ne 6, 3) := by decide +kernel
theorem dX3_meet_38 : decode cX3_meet 38 = .ok (.bipush (-2), 2) := by decide +kernel
theorem dX3_meet_40 : decode cX3_meet 40 = .ok (.ireturn, 1) := by decide +kernel
theorem dX3_meet_41 : decode cX3_meet 41 = .ok (.aload_n 0, 1) := by decide +kernel
theorem dX3_meet_42 : decode cX3_meet 42 = .ok (.iload_n 1, 1) := by decide +kernel
theorem dX3_meet_43 : decode cX3_meet 43 = .ok (.iload_n 2, 1) := by decide +kernel
theorem dX3_meet_44 : decode cX3_meet 44 = .ok (.iload_n 3, 1) := by decide +kernel
theorem dX3_meet_45 : decode cX3_meet 45 = .ok (.iconst 3, 1) := by decide +kernel
theorem dX3_meet_46 : decode cX3_meet 46 = .ok (.iload 5, 2) := by decide +kernel
theorem dX3_meet_48 : decode cX3_meet 48 = .ok (.iload 4, 2) := by decide +kernel
theorem dX3_meet_50 : decode cX3_meet 50 = .ok (.invokevirtual 167, 3) := by decide +kernel
theorem dX3_meet_53 : decode cX3_meet 53 = .ok (.ireturn, 1) := by decide +kernel
theorem dX3_strike_0 : decode cX3_strike 0 = .ok (.aload_n 0, 1) := by decide +kernel
theorem dX3_strike_1 : decode cX3_strike 1 = .ok (.iload_n 1, 1) := by decide +kernel
theorem dX3_strike_2 : decode cX3_strike 2 = .ok (.invokevirtual 158, 3) := by decide +kernel
theorem dX3_strike_5 : decode cX3_strike 5 = .ok (.ifCond .ne 5, 3) := by decide +kernel
theorem dX3_strike_8 : decode cX3_strike 8 = .ok (.iconst (-1), 1) := by decide +kernel
theorem dX3_strike_9 : decode cX3_strike 9 = .ok (.ireturn, 1) := by decide +kernel
theorem dX3_strike_10 : decode cX3_strike 10 = .ok (.aload_n 0, 1) := by decide +kernel
theorem dX3_strike_11 : decode cX3_strike 11 = .ok (.getfield 45, 3) := by decide +kernel
theorem dX3_strike_14 : decode cX3_strike 14 = .ok (.iload_n 1, 1) := by decide +kernel
theorem dX3_strike_15 : decode cX3_strike 15 = .ok (.iaload, 1) := by decide +kernel
theorem dX3_strike_16 : decode cX3_strike 16 = .ok (.ifCond .ne 6, 3) := by decide +kernel
theorem dX3_strike_19 : decode cX3_strike 19 = .ok (.bipush (-5), 2) := by decide +kernel
theorem dX3_strike_21 : decode cX3_strike 21 = .ok (.ireturn, 1) := by decide +kernel
theorem dX3_strike_22 : decode cX3_strike 22 = .ok (.aload_n 0, 1) := by decide +kernel
theorem dX3_strike_23 : decode cX3_strike 23 = .ok (.getfield 45, 3) := by decide +kernel
theorem dX3_strike_26 : decode cX3_strike 26 = .ok (.iload_n 1, 1) := by decide +kernel
theorem dX3_strike_27 : decode cX3_strike 27 = .ok (.dup2, 1) := by decide +kernel
theorem dX3_strike_28 : decode cX3_strike 28 = .ok (.iaload, 1) := by decide +kernel
theorem dX3_strike_29 : decode cX3_strike 29 = .ok (.iconst 1, 1) := by decide +kernel
theorem dX3_strike_30 : decode cX3_strike 30 = .ok (.isub, 1) := by decide +kernel
theorem dX3_strike_31 : decode cX3_strike 31 = .ok (.iastore, 1) := by decide +kernel
theorem dX3_strike_32 : decode cX3_strike 32 = .ok (.aload_n 0, 1) := by decide +kernel
theorem dX3_strike_33 : decode cX3_strike 33 = .ok (.getfield 45, 3) := by decide +kernel
theorem dX3_strike_36 : decode cX3_strike 36 = .ok (.iload_n 1, 1) := by decide +kernel
theorem dX3_strike_37 : decode cX3_strike 37 = .ok (.iaload, 1) := by decide +kernel
theorem dX3_strike_38 : decode cX3_strike 38 = .ok (.ireturn, 1) := by decide +kernel
theorem dX3_saw_0 : decode cX3_saw 0 = .ok (.aload_n 0, 1) := by decide +kernel
theorem dX3_saw_1 : decode cX3_saw 1 = .ok (.iload_n 1, 1) := by decide +kernel
theorem dX3_saw_2 : decode cX3_saw 2 = .ok (.invokevirtual 158, 3) := by decide +kernel
theorem dX3_saw_5 : decode cX3_saw 5 = .ok (.ifCond .eq 10, 3) := by decide +kernel
theorem dX3_saw_8 : decode cX3_saw 8 = .ok (.iload_n 2, 1) := by decide +kernel
theorem dX3_saw_9 : decode cX3_saw 9 = .ok (.invokestatic 146, 3) := by decide +kernel
theorem dX3_saw_12 : decode cX3_saw 12 = .ok (.ifCond .ne 5, 3) := by decide +kernel
theorem dX3_saw_15 : decode cX3_saw 15 = .ok (.iconst (-1), 1) := by decide +kernel
theorem dX3_saw_16 : decode cX3_saw 16 = .ok (.ireturn, 1) := by decide +kernel
theorem dX3_saw_17 : decode cX3_saw 17 = .ok (.aload_n 0, 1) := by decide +kernel
theorem dX3_saw_18 : decode cX3_saw 18 = .ok (.getfield 63, 3) := by decide +kernel
theorem dX3_saw_21 : decode cX3_saw 21 = .ok (.bipush 20, 2) := by decide +kernel
theorem dX3_saw_23 : decode cX3_saw 23 = .ok (.iload_n 1, 1) := by decide +kernel
theorem dX3_saw_24 : decode cX3_saw 24 = .ok (.imul, 1) := by decide +kernel
theorem dX3_saw_25 : decode cX3_saw 25 = .ok (.iload_n 2, 1) := by decide +kernel
theorem dX3_saw_26 : decode cX3_saw 26 = .ok (.iadd, 1) := by decide +kernel
theorem dX3_saw_27 : decode cX3_saw 27 = .ok (.baload, 1) := by decide +kernel
theorem dX3_saw_28 : decode cX3_saw 28 = .ok (.ifCond .eq 7, 3) := by decide +kernel
theorem dX3_saw_31 : decode cX3_saw 31 = .ok (.iconst 1, 1) := by decide +kernel
theorem dX3_saw_32 : decode cX3_saw 32 = .ok (.goto 4, 3) := by decide +kernel
theorem dX3_saw_35 : decode cX3_saw 35 = .ok (.iconst 0, 1) := by decide +kernel
theorem dX3_saw_36 : decode cX3_saw 36 = .ok (.istore 4, 2) := by decide +kernel
theorem dX3_saw_38 : decode cX3_saw 38 = .ok (.aload_n 0, 1) := by decide +kernel
theorem dX3_saw_39 : decode cX3_saw 39 = .ok (.getfield 63, 3) := by decide +kernel
theorem dX3_saw_42 : decode cX3_saw 42 = .ok (.bipush 20, 2) := by decide +kernel
theorem dX3_saw_44 : decode cX3_saw 44 = .ok (.iload_n 1, 1) := by decide +kernel
theorem dX3_saw_45 : decode cX3_saw 45 = .ok (.imul, 1) := by decide +kernel
theorem dX3_saw_46 : decode cX3_saw 46 = .ok (.iload_n 2, 1) := by decide +kernel
theorem dX3_saw_47 : decode cX3_saw 47 = .ok (.iadd, 1) := by decide +kernel
theorem dX3_saw_48 : decode cX3_saw 48 = .ok (.iload_n 3, 1) := by decide +kernel
theorem dX3_saw_49 : decode cX3_saw 49 = .ok (.bastore, 1) := by decide +kernel
theorem dX3_saw_50 : decode cX3_saw 50 = .ok (.iload 4, 2) := by decide +kernel
theorem dX3_saw_52 : decode cX3_saw 52 = .ok (.ireturn, 1) := by decide +kernel
theorem dX3_clock_0 : decode cX3_clock 0 = .ok (.aload_n 0, 1) := by decide +kernel
theorem dX3_clock_1 : decode cX3_clock 1 = .ok (.iload_n 1, 1) := by decide +kernel
theorem dX3_clock_2 : decode cX3_clock 2 = .ok (.invokevirtual 158, 3) := by decide +kernel
theorem dX3_clock_5 : decode cX3_clock 5 = .ok (.ifCond .eq 10, 3) := by decide +kernel
theorem dX3_clock_8 : decode cX3_clock 8 = .ok (.iload_n 2, 1) := by decide +kernel
theorem dX3_clock_9 : decode cX3_clock 9 = .ok (.invokestatic 161, 3) := by decide +kernel
theorem dX3_clock_12 : decode cX3_clock 12 = .ok (.ifCond .ne 5, 3) := by decide +kernel
theorem dX3_clock_15 : decode cX3_clock 15 = .ok (.iconst (-1), 1) := by decide +kernel
theorem dX3_clock_16 : decode cX3_clock 16 = .ok (.ireturn, 1) := by decide +kernel
theorem dX3_clock_17 : decode cX3_clock 17 = .ok (.iload_n 3, 1) := by decide +kernel
theorem dX3_clock_18 : decode cX3_clock 18 = .ok (.iconst 0, 1) := by decide +kernel
theorem dX3_clock_19 : decode cX3_clock 19 = .ok (.iconst 1, 1) := by decide +kernel
theorem dX3_clock_20 : decode cX3_clock 20 = .ok (.invokestatic 111, 3) := by decide +kernel
theorem dX3_clock_23 : decode cX3_clock 23 = .ok (.ifCond .eq 22, 3) := by decide +kernel
theorem dX3_clock_26 : decode cX3_clock 26 = .ok (.iload 4, 2) := by decide +kernel
theorem dX3_clock_28 : decode cX3_clock 28 = .ok (.iload_n 3, 1) := by decide +kernel
theorem dX3_clock_29 : decode cX3_clock 29 = .ok (.iload_n 3, 1) := by decide +kernel
theorem dX3_clock_30 : decode cX3_clock 30 = .ok (.ifCond .ne 7, 3) := by decide +kernel
theorem dX3_clock_33 : decode cX3_clock 33 = .ok (.iconst 5, 1) := by decide +kernel
theorem dX3_clock_34 : decode cX3_clock 34 = .ok (.goto 5, 3) := by decide +kernel
theorem dX3_clock_37 : decode cX3_clock 37 = .ok (.bipush 9, 2) := by decide +kernel
theorem dX3_clock_39 : decode cX3_clock 39 = .ok (.invokestatic 111, 3) := by decide +kernel
theorem dX3_clock_42 : decode cX3_clock 42 = .ok (.ifCond .ne 6, 3) := by decide +kernel
theorem dX3_clock_45 : decode cX3_clock 45 = .ok (.bipush (-2), 2) := by decide +kernel
theorem dX3_clock_47 : decode cX3_clock 47 = .ok (.ireturn, 1) := by decide +kernel
theorem dX3_clock_48 : decode cX3_clock 48 = .ok (.iconst 3, 1) := by decide +kernel
theorem dX3_clock_49 : decode cX3_clock 49 = .ok (.iload_n 1, 1) := by decide +kernel
theorem dX3_clock_50 : decode cX3_clock 50 = .ok (.imul, 1) := by decide +kernel
theorem dX3_clock_51 : decode cX3_clock 51 = .ok (.iload_n 2, 1) := by decide +kernel
theorem dX3_clock_52 : decode cX3_clock 52 = .ok (.iadd, 1) := by decide +kernel
theorem dX3_clock_53 : decode cX3_clock 53 = .ok (.istore 5, 2) := by decide +kernel
theorem dX3_clock_55 : decode cX3_clock 55 = .ok (.iload_n 3, 1) := by decide +kernel
theorem dX3_clock_56 : decode cX3_clock 56 = .ok (.ifCond .ne 13, 3) := by decide +kernel
theorem dX3_clock_59 : decode cX3_clock 59 = .ok (.aload_n 0, 1) := by decide +kernel
theorem dX3_clock_60 : decode cX3_clock 60 = .ok (.getfield 66, 3) := by decide +kernel
theorem dX3_clock_63 : decode cX3_clock 63 = .ok (.iload 5, 2) := by decide +kernel
theorem dX3_clock_65 : decode cX3_clock 65 = .ok (.iaload, 1) := by decide +kernel
theorem dX3_clock_66 : decode cX3_clock 66 = .ok (.goto 10, 3) := by decide +kernel
theorem dX3_clock_69 : decode cX3_clock 69 = .ok (.aload_n 0, 1) := by decide +kernel
theorem dX3_clock_70 : decode cX3_clock 70 = .ok (.getfield 69, 3) := by decide +kernel
theorem dX3_clock_73 : decode cX3_clock 73 = .ok (.iload 5, 2) := by decide +kernel
theorem dX3_clock_75 : decode cX3_clock 75 = .ok (.iaload, 1) := by decide +kernel
theorem dX3_clock_76 : decode cX3_clock 76 = .ok (.istore 6, 2) := by decide +kernel
theorem dX3_clock_78 : decode cX3_clock 78 = .ok (.iload_n 3, 1) := by decide +kernel
theorem dX3_clock_79 : decode cX3_clock 79 = .ok (.ifCond .ne 15, 3) := by decide +kernel
theorem dX3_clock_82 : decode cX3_clock 82 = .ok (.aload_n 0, 1) := by decide +kernel
theorem dX3_clock_83 : decode cX3_clock 83 = .ok (.getfield 66, 3) := by decide +kernel
theorem dX3_clock_86 : decode cX3_clock 86 = .ok (.iload 5, 2) := by decide +kernel
theorem dX3_clock_88 : decode cX3_clock 88 = .ok (.iload 4, 2) := by decide +kernel
theorem dX3_clock_90 : decode cX3_clock 90 = .ok (.iastore, 1) := by decide +kernel
theorem dX3_clock_91 : decode cX3_clock 91 = .ok (.goto 12, 3) := by decide +kernel
theorem dX3_clock_94 : decode cX3_clock 94 = .ok (.aload_n 0, 1) := by decide +kernel
theorem dX3_clock_95 : decode cX3_clock 95 = .ok (.getfield 69, 3) := by decide +kernel
theorem dX3_clock_98 : decode cX3_clock 98 = .ok (.iload 5, 2) := by decide +kernel
theorem dX3_clock_100 : decode cX3_clock 100 = .ok (.iload 4, 2) := by decide +kernel
theorem dX3_clock_102 : decode cX3_clock 102 = .ok (.iastore, 1) := by decide +kernel
theorem dX3_clock_103 : decode cX3_clock 103 = .ok (.iload 6, 2) := by decide +kernel
theorem dX3_clock_105 : decode cX3_clock 105 = .ok (.ireturn, 1) := by decide +kernel
theorem dX3_warm_0 : decode cX3_warm 0 = .ok (.iload_n 1, 1) := by decide +kernel
theorem dX3_warm_1 : decode cX3_warm 1 = .ok (.invokestatic 146, 3) := by decide +kernel
theorem dX3_warm_4 : decode cX3_warm 4 = .ok (.ifCond .ne 5, 3) := by decide +kernel
theorem dX3_warm_7 : decode cX3_warm 7 = .ok (.iconst (-1), 1) := by decide +kernel
theorem dX3_warm_8 : decode cX3_warm 8 = .ok (.ireturn, 1) := by decide +kernel
theorem dX3_warm_9 : decode cX3_warm 9 = .ok (.iload_n 2, 1) := by decide +kernel
theorem dX3_warm_10 : decode cX3_warm 10 = .ok (.iconst 0, 1) := by decide +kernel
theorem dX3_warm_11 : decode cX3_warm 11 = .ok (.bipush 9, 2) := by decide +kernel
theorem dX3_warm_13 : decode cX3_warm 13 = .ok (.invokestatic 111, 3) := by decide +kernel
theorem dX3_warm_16 : decode cX3_warm 16 = .ok (.ifCond .ne 6, 3) := by decide +kernel
theorem dX3_warm_19 : decode cX3_warm 19 = .ok (.bipush (-2), 2) := by decide +kernel
theorem dX3_warm_21 : decode cX3_warm 21 = .ok (.ireturn, 1) := by decide +kernel
theorem dX3_warm_22 : decode cX3_warm 22 = .ok (.aload_n 0, 1) := by decide +kernel
theorem dX3_warm_23 : decode cX3_warm 23 = .ok (.getfield 42, 3) := by decide +kernel
theorem dX3_warm_26 : decode cX3_warm 26 = .ok (.iload_n 1, 1) := by decide +kernel
theorem dX3_warm_27 : decode cX3_warm 27 = .ok (.iaload, 1) := by decide +kernel
theorem dX3_warm_28 : decode cX3_warm 28 = .ok (.istore_n 3, 1) := by decide +kernel
theorem dX3_warm_29 : decode cX3_warm 29 = .ok (.aload_n 0, 1) := by decide +kernel
theorem dX3_warm_30 : decode cX3_warm 30 = .ok (.getfield 42, 3) := by decide +kernel
theorem dX3_warm_33 : decode cX3_warm 33 = .ok (.iload_n 1, 1) := by decide +kernel
theorem dX3_warm_34 : decode cX3_warm 34 = .ok (.iload_n 2, 1) := by decide +kernel
theorem dX3_warm_35 : decode cX3_warm 35 = .ok (.iastore, 1) := by decide +kernel
theorem dX3_warm_36 : decode cX3_warm 36 = .ok (.iload_n 3, 1) := by decide +kernel
theorem dX3_warm_37 : decode cX3_warm 37 = .ok (.ireturn, 1) := by decide +kernel
theorem dX3_doesCount_0 : decode cX3_doesCount 0 = .ok (.aload_n 0, 1) := by decide +kernel
theorem dX3_doesCount_1 : decode cX3_doesCount 1 = .ok (.getfield 51, 3) := by decide +kernel
theorem dX3_doesCount_4 : decode cX3_doesCount 4 = .ok (.iload_n 2, 1) := by decide +kernel
theorem dX3_doesCount_5 : decode cX3_doesCount 5 = .ok (.iaload, 1) := by decide +kernel
theorem dX3_doesCount_6 : decode cX3_doesCount 6 = .ok (.istore_n 3, 1) := by decide +kernel
theorem dX3_doesCount_7 : decode cX3_doesCount 7 = .ok (.aload_n 0, 1) := by decide +kernel
theorem dX3_doesCount_8 : decode cX3_doesCount 8 = .ok (.getfield 54, 3) := by decide +kernel
theorem dX3_doesCount_11 : decode cX3_doesCount 11 = .ok (.iload_n 2, 1) := by decide +kernel
theorem dX3_doesCount_12 : decode cX3_doesCount 12 = .ok (.iaload, 1) := by decide +kernel
theorem dX3_doesCount_13 : decode cX3_doesCount 13 = .ok (.iconst 3, 1) := by decide +kernel
theorem dX3_doesCount_14 : decode cX3_doesCount 14 = .ok (.if_icmp .eq 34, 3) := by decide +kernel
theorem dX3_doesCount_17 : decode cX3_doesCount 17 = .ok (.iload_n 3, 1) := by decide +kernel
theorem dX3_doesCount_18 : decode cX3_doesCount 18 = .ok (.aload_n 0, 1) := by decide +kernel
theorem dX3_doesCount_19 : decode cX3_doesCount 19 = .ok (.getfield 93, 3) := by decide +kernel
theorem dX3_doesCount_22 : decode cX3_doesCount 22 = .ok (.if_icmp .eq 30, 3) := by decide +kernel
theorem dX3_doesCount_25 : decode cX3_doesCount 25 = .ok (.aload_n 0, 1) := by decide +kernel
theorem dX3_doesCount_26 : decode cX3_doesCount 26 = .ok (.getfield 38, 3) := by decide +kernel
theorem dX3_doesCount_29 : decode cX3_doesCount 29 = .ok (.iload_n 3, 1) := by decide +kernel
theorem dX3_doesCount_30 : decode cX3_doesCount 30 = .ok (.baload, 1) := by decide +kernel
theorem dX3_doesCount_31 : decode cX3_doesCount 31 = .ok (.ifCond .eq 17, 3) := by decide +kernel
theorem dX3_doesCount_34 : decode cX3_doesCount 34 = .ok (.aload_n 0, 1) := by decide +kernel
theorem dX3_doesCount_35 : decode cX3_doesCount 35 = .ok (.getfield 63, 3) := by decide +kernel
theorem dX3_doesCount_38 : decode cX3_doesCount 38 = .ok (.bipush 20, 2) := by decide +kernel
theorem dX3_doesCount_40 : decode cX3_doesCount 40 = .ok (.iload_n 1, 1) := by decide +kernel
theorem dX3_doesCount_41 : decode cX3_doesCount 41 = .ok (.imul, 1) := by decide +kernel
theorem dX3_doesCount_42 : decode cX3_doesCount 42 = .ok (.iload_n 3, 1) := by decide +kernel
theorem dX3_doesCount_43 : decode cX3_doesCount 43 = .ok (.iadd, 1) := by decide +kernel
theorem dX3_doesCount_44 : decode cX3_doesCount 44 = .ok (.baload, 1) := by decide +kernel
theorem dX3_doesCount_45 : decode cX3_doesCount 45 = .ok (.ifCond .ne 7, 3) := by decide +kernel
theorem dX3_doesCount_48 : decode cX3_doesCount 48 = .ok (.iconst 1, 1) := by decide +kernel
theorem dX3_doesCount_49 : decode cX3_doesCount 49 = .ok (.goto 4, 3) := by decide +kernel
theorem dX3_doesCount_52 : decode cX3_doesCount 52 = .ok (.iconst 0, 1) := by decide +kernel
theorem dX3_doesCount_53 : decode cX3_doesCount 53 = .ok (.ireturn, 1) := by decide +kernel
theorem dX3_lay_0 : decode cX3_lay 0 = .ok (.aload_n 0, 1) := by decide +kernel
theorem dX3_lay_1 : decode cX3_lay 1 = .ok (.ldc 106, 2) := by decide +kernel
theorem dX3_lay_3 : decode cX3_lay 3 = .ok (.bipush 99, 2) := by decide +kernel
theorem dX3_lay_5 : decode cX3_lay 5 = .ok (.invokevirtual 136, 3) := by decide +kernel
theorem dX3_lay_8 : decode cX3_lay 8 = .ok (.iconst 1, 1) := by decide +kernel
theorem dX3_lay_9 : decode cX3_lay 9 = .ok (.istore_n 3, 1) := by decide +kernel
theorem dX3_lay_10 : decode cX3_lay 10 = .ok (.iload_n 3, 1) := by decide +kernel
theorem dX3_lay_11 : decode cX3_lay 11 = .ok (.bipush 20, 2) := by decide +kernel
theorem dX3_lay_13 : decode cX3_lay 13 = .ok (.if_icmp .ge 45, 3) := by decide +kernel
theorem dX3_lay_16 : decode cX3_lay 16 = .ok (.aload_n 0, 1) := by decide +kernel
theorem dX3_lay_17 : decode cX3_lay 17 = .ok (.getfield 90, 3) := by decide +kernel
theorem dX3_lay_20 : decode cX3_lay 20 = .ok (.iload_n 3, 1) := by decide +kernel
theorem dX3_lay_21 : decode cX3_lay 21 = .ok (.aload_n 0, 1) := by decide +kernel
theorem dX3_lay_22 : decode cX3_lay 22 = .ok (.getfield 90, 3) := by decide +kernel
theorem dX3_lay_25 : decode cX3_lay 25 = .ok (.iload_n 3, 1) := by decide +kernel
theorem dX3_lay_26 : decode cX3_lay 26 = .ok (.iconst 1, 1) := by decide +kernel
theorem dX3_lay_27 : decode cX3_lay 27 = .ok (.isub, 1) := by decide +kernel
theorem dX3_lay_28 : decode cX3_lay 28 = .ok (.iaload, 1) := by decide +kernel
theorem dX3_lay_29 : decode cX3_lay 29 = .ok (.aload_n 0, 1) := by decide +kernel
theorem dX3_lay_30 : decode cX3_lay 30 = .ok (.getfield 66, 3) := by decide +kernel
theorem dX3_lay_33 : decode cX3_lay 33 = .ok (.iconst 3, 1) := by decide +kernel
theorem dX3_lay_34 : decode cX3_lay 34 = .ok (.iload_n 1, 1) := by decide +kernel
theorem dX3_lay_35 : decode cX3_lay 35 = .ok (.imul, 1) := by decide +kernel
theorem dX3_lay_36 : decode cX3_lay 36 = .ok (.iload_n 2, 1) := by decide +kernel
theorem dX3_lay_37 : decode cX3_lay 37 = .ok (.iadd, 1) := by decide +kernel
theorem dX3_lay_38 : decode cX3_lay 38 = .ok (.iaload, 1) := by decide +kernel
theorem dX3_lay_39 : decode cX3_lay 39 = .ok (.aload_n 0, 1) := by decide +kernel
theorem dX3_lay_40 : decode cX3_lay 40 = .ok (.getfield 42, 3) := by decide +kernel
theorem dX3_lay_43 : decode cX3_lay 43 = .ok (.iload_n 3, 1) := by decide +kernel
theorem dX3_lay_44 : decode cX3_lay 44 = .ok (.iconst 1, 1) := by decide +kernel
theorem dX3_lay_45 : decode cX3_lay 45 = .ok (.isub, 1) := by decide +kernel
theorem dX3_lay_46 : decode cX3_lay 46 = .ok (.iaload, 1) := by decide +kernel
theorem dX3_lay_47 : decode cX3_lay 47 = .ok (.iconst 5, 1) := by decide +kernel
theorem dX3_lay_48 : decode cX3_lay 48 = .ok (.isub, 1) := by decide +kernel
theorem dX3_lay_49 : decode cX3_lay 49 = .ok (.imul, 1) := by decide +kernel
theorem dX3_lay_50 : decode cX3_lay 50 = .ok (.iadd, 1) := by decide +kernel
theorem dX3_lay_51 : decode cX3_lay 51 = .ok (.iastore, 1) := by decide +kernel
theorem dX3_lay_52 : decode cX3_lay 52 = .ok (.iinc 3 1, 3) := by decide +kernel
theorem dX3_lay_55 : decode cX3_lay 55 = .ok (.goto (-45), 3) := by decide +kernel
theorem dX3_lay_58 : decode cX3_lay 58 = .ok (.iconst 0, 1) := by decide +kernel
theorem dX3_lay_59 : decode cX3_lay 59 = .ok (.istore_n 3, 1) := by decide +kernel
theorem dX3_lay_60 : decode cX3_lay 60 = .ok (.iload_n 3, 1) := by decide +kernel
theorem dX3_lay_61 : decode cX3_lay 61 = .ok (.aload_n 0, 1) := by decide +kernel
theorem dX3_lay_62 : decode cX3_lay 62 = .ok (.getfield 45, 3) := by decide +kernel
theorem dX3_lay_65 : decode cX3_lay 65 = .ok (.iload_n 1, 1) := by decide +kernel
theorem dX3_lay_66 : decode cX3_lay 66 = .ok (.iaload, 1) := by decide +kernel
theorem dX3_lay_67 : decode cX3_lay 67 = .ok (.if_icmp .ge 206, 3) := by decide +kernel
theorem dX3_lay_70 : decode cX3_lay 70 = .ok (.bipush 12, 2) := by decide +kernel
theorem dX3_lay_72 : decode cX3_lay 72 = .ok (.iload_n 1, 1) := by decide +kernel
theorem dX3_lay_73 : decode cX3_lay 73 = .ok (.imul, 1) := by decide +kernel
theorem dX3_lay_74 : decode cX3_lay 74 = .ok (.iload_n 3, 1) := by decide +kernel
theorem dX3_lay_75 : decode cX3_lay 75 = .ok (.iadd, 1) := by decide +kernel
theorem dX3_lay_76 : decode cX3_lay 76 = .ok (.istore 4, 2) := by decide +kernel
theorem dX3_lay_78 : decode cX3_lay 78 = .ok (.aload_n 0, 1) := by decide +kernel
theorem dX3_lay_79 : decode cX3_lay 79 = .ok (.getfield 48, 3) := by decide +kernel
theorem dX3_lay_82 : decode cX3_lay 82 = .ok (.iload 4, 2) := by decide +kernel
theorem dX3_lay_84 : decode cX3_lay 84 = .ok (.iaload, 1) := by decide +kernel
theorem dX3_lay_85 : decode cX3_lay 85 = .ok (.iload_n 2, 1) := by decide +kernel
theorem dX3_lay_86 : decode cX3_lay 86 = .ok (.if_icmp .ne 181, 3) := by decide +kernel
theorem dX3_lay_89 : decode cX3_lay 89 = .ok (.aload_n 0, 1) := by decide +kernel
theorem dX3_lay_90 : decode cX3_lay 90 = .ok (.iload_n 1, 1) := by decide +kernel
theorem dX3_lay_91 : decode cX3_lay 91 = .ok (.iload 4, 2) := by decide +kernel
theorem dX3_lay_93 : decode cX3_lay 93 = .ok (.invokevirtual 171, 3) := by decide +kernel
theorem dX3_lay_96 : decode cX3_lay 96 = .ok (.ifCond .eq 171, 3) := by decide +kernel
theorem dX3_lay_99 : decode cX3_lay 99 = .ok (.aload_n 0, 1) := by decide +kernel
theorem dX3_lay_100 : decode cX3_lay 100 = .ok (.getfield 51, 3) := by decide +kernel
theorem dX3_lay_103 : decode cX3_lay 103 = .ok (.iload 4, 2) := by decide +kernel
theorem dX3_lay_105 : decode cX3_lay 105 = .ok (.iaload, 1) := by decide +kernel
theorem dX3_lay_106 : decode cX3_lay 106 = .ok (.istore 5, 2) := by decide +kernel
theorem dX3_lay_108 : decode cX3_lay 108 = .ok (.aload_n 0, 1) := by decide +kernel
theorem dX3_lay_109 : decode cX3_lay 109 = .ok (.getfield 57, 3) := by decide +kernel
theorem dX3_lay_112 : decode cX3_lay 112 = .ok (.iload 4, 2) := by decide +kernel
theorem dX3_lay_114 : decode cX3_lay 114 = .ok (.iaload, 1) := by decide +kernel
theorem dX3_lay_115 : decode cX3_lay 115 = .ok (.istore 6, 2) := by decide +kernel
theorem dX3_lay_117 : decode cX3_lay 117 = .ok (.aload_n 0, 1) := by decide +kernel
theorem dX3_lay_118 : decode cX3_lay 118 = .ok (.getfield 54, 3) := by decide +kernel
theorem dX3_lay_121 : decode cX3_lay 121 = .ok (.iload 4, 2) := by decide +kernel
theorem dX3_lay_123 : decode cX3_lay 123 = .ok (.iaload, 1) := by decide +kernel
theorem dX3_lay_124 : decode cX3_lay 124 = .ok (.istore 7, 2) := by decide +kernel
theorem dX3_lay_126 : decode cX3_lay 126 = .ok (.iload 7, 2) := by decide +kernel
theorem dX3_lay_128 : decode cX3_lay 128 = .ok (.iconst 3, 1) := by decide +kernel
theorem dX3_lay_129 : decode cX3_lay 129 = .ok (.if_icmp .ne 40, 3) := by decide +kernel
theorem dX3_lay_132 : decode cX3_lay 132 = .ok (.aload_n 0, 1) := by decide +kernel
theorem dX3_lay_133 : decode cX3_lay 133 = .ok (.iload 5, 2) := by decide +kernel
theorem dX3_lay_135 : decode cX3_lay 135 = .ok (.aload_n 0, 1) := by decide +kernel
theorem dX3_lay_136 : decode cX3_lay 136 = .ok (.getfield 60, 3) := by decide +kernel
theorem dX3_lay_139 : decode cX3_lay 139 = .ok (.iload 4, 2) := by decide +kernel
theorem dX3_lay_141 : decode cX3_lay 141 = .ok (.iaload, 1) := by decide +kernel
theorem dX3_lay_142 : decode cX3_lay 142 = .ok (.iconst 4, 1) := by decide +kernel
theorem dX3_lay_143 : decode cX3_lay 143 = .ok (.iload 6, 2) := by decide +kernel
theorem dX3_lay_145 : decode cX3_lay 145 = .ok (.imul, 1) := by decide +kernel
theorem dX3_lay_146 : decode cX3_lay 146 = .ok (.isub, 1) := by decide +kernel
theorem dX3_lay_147 : decode cX3_lay 147 = .ok (.iconst 4, 1) := by decide +kernel
theorem dX3_lay_148 : decode cX3_lay 148 = .ok (.isub, 1) := by decide +kernel
theorem dX3_lay_149 : decode cX3_lay 149 = .ok (.aload_n 0, 1) := by decide +kernel
theorem dX3_lay_150 : decode cX3_lay 150 = .ok (.getfield 60, 3) := by decide +kernel
theorem dX3_lay_153 : decode cX3_lay 153 = .ok (.iload 4, 2) := by decide +kernel
theorem dX3_lay_155 : decode cX3_lay 155 = .ok (.iaload, 1) := by decide +kernel
theorem dX3_lay_156 : decode cX3_lay 156 = .ok (.iconst 4, 1) := by decide +kernel
theorem dX3_lay_157 : decode cX3_lay 157 = .ok (.iload 6, 2) := by decide +kernel
theorem dX3_lay_159 : decode cX3_lay 159 = .ok (.imul, 1) := by decide +kernel
theorem dX3_lay_160 : decode cX3_lay 160 = .ok (.isub, 1) := by decide +kernel
theorem dX3_lay_161 : decode cX3_lay 161 = .ok (.iconst 4, 1) := by decide +kernel
theorem dX3_lay_162 : decode cX3_lay 162 = .ok (.iadd, 1) := by decide +kernel
theorem dX3_lay_163 : decode cX3_lay 163 = .ok (.invokevirtual 129, 3) := by decide +kernel
theorem dX3_lay_166 : decode cX3_lay 166 = .ok (.goto 101, 3) := by decide +kernel
theorem dX3_lay_169 : decode cX3_lay 169 = .ok (.iload 7, 2) := by decide +kernel
theorem dX3_lay_171 : decode cX3_lay 171 = .ok (.ifCond .ne 8, 3) := by decide +kernel
theorem dX3_lay_174 : decode cX3_lay 174 = .ok (.bipush (-2), 2) := by decide +kernel
theorem dX3_lay_176 : decode cX3_lay 176 = .ok (.goto 19, 3) := by decide +kernel
theorem dX3_lay_179 : decode cX3_lay 179 = .ok (.iload 7, 2) := by decide +kernel
theorem dX3_lay_181 : decode cX3_lay 181 = .ok (.iconst 1, 1) := by decide +kernel
theorem dX3_lay_182 : decode cX3_lay 182 = .ok (.if_icmp .ne 7, 3) := by decide +kernel
theorem dX3_lay_185 : decode cX3_lay 185 = .ok (.iconst (-1), 1) := by decide +kernel
theorem dX3_lay_186 : decode cX3_lay 186 = .ok (.goto 9, 3) := by decide +kernel
theorem dX3_lay_189 : decode cX3_lay 189 = .ok (.iconst 5, 1) := by decide +kernel
theorem dX3_lay_190 : decode cX3_lay 190 = .ok (.iload 6, 2) := by decide +kernel
theorem dX3_lay_192 : decode cX3_lay 192 = .ok (.imul, 1) := by decide +kernel
theorem dX3_lay_193 : decode cX3_lay 193 = .ok (.iconst 3, 1) := by decide +kernel
theorem dX3_lay_194 : decode cX3_lay 194 = .ok (.isub, 1) := by decide +kernel
theorem dX3_lay_195 : decode cX3_lay 195 = .ok (.istore 8, 2) := by decide +kernel
theorem dX3_lay_197 : decode cX3_lay 197 = .ok (.iload 7, 2) := by decide +kernel
theorem dX3_lay_199 : decode cX3_lay 199 = .ok (.ifCond .ne 7, 3) := by decide +kernel
theorem dX3_lay_202 : decode cX3_lay 202 = .ok (.iconst 2, 1) := by decide +kernel
theorem dX3_lay_203 : decode cX3_lay 203 = .ok (.goto 20, 3) := by decide +kernel
theorem dX3_lay_206 : decode cX3_lay 206 = .ok (.iload 7, 2) := by decide +kernel
theorem dX3_lay_208 : decode cX3_lay 208 = .ok (.iconst 1, 1) := by decide +kernel
theorem dX3_lay_209 : decode cX3_lay 209 = .ok (.if_icmp .ne 7, 3) := by decide +kernel
theorem dX3_lay_212 : decode cX3_lay 212 = .ok (.iconst 1, 1) := by decide +kernel
theorem dX3_lay_213 : decode cX3_lay 213 = .ok (.goto 10, 3) := by decide +kernel
theorem dX3_lay_216 : decode cX3_lay 216 = .ok (.bipush 7, 2) := by decide +kernel
theorem dX3_lay_218 : decode cX3_lay 218 = .ok (.iload 6, 2) := by decide +kernel
theorem dX3_lay_220 : decode cX3_lay 220 = .ok (.imul, 1) := by decide +kernel
theorem dX3_lay_221 : decode cX3_lay 221 = .ok (.iconst 3, 1) := by decide +kernel
theorem dX3_lay_222 : decode cX3_lay 222 = .ok (.iadd, 1) := by decide +kernel
theorem dX3_lay_223 : decode cX3_lay 223 = .ok (.istore 9, 2) := by decide +kernel
theorem dX3_lay_225 : decode cX3_lay 225 = .ok (.aload_n 0, 1) := by decide +kernel
theorem dX3_lay_226 : decode cX3_lay 226 = .ok (.iload 5, 2) := by decide +kernel
theorem dX3_lay_228 : decode cX3_lay 228 = .ok (.aload_n 0, 1) := by decide +kernel
theorem dX3_lay_229 : decode cX3_lay 229 = .ok (.getfield 60, 3) := by decide +kernel
theorem dX3_lay_232 : decode cX3_lay 232 = .ok (.iload 4, 2) := by decide +kernel
theorem dX3_lay_234 : decode cX3_lay 234 = .ok (.iaload, 1) := by decide +kernel
theorem dX3_lay_235 : decode cX3_lay 235 = .ok (.aload_n 0, 1) := by decide +kernel
theorem dX3_lay_236 : decode cX3_lay 236 = .ok (.iload 5, 2) := by decide +kernel
theorem dX3_lay_238 : decode cX3_lay 238 = .ok (.iconst 1, 1) := by decide +kernel
theorem dX3_lay_239 : decode cX3_lay 239 = .ok (.invokevirtual 155, 3) := by decide +kernel
theorem dX3_lay_242 : decode cX3_lay 242 = .ok (.isub, 1) := by decide +kernel
theorem dX3_lay_243 : decode cX3_lay 243 = .ok (.iload 9, 2) := by decide +kernel
theorem dX3_lay_245 : decode cX3_lay 245 = .ok (.isub, 1) := by decide +kernel
theorem dX3_lay_246 : decode cX3_lay 246 = .ok (.aload_n 0, 1) := by decide +kernel
theorem dX3_lay_247 : decode cX3_lay 247 = .ok (.getfield 60, 3) := by decide +kernel
theorem dX3_lay_250 : decode cX3_lay 250 = .ok (.iload 4, 2) := by decide +kernel
theorem dX3_lay_252 : decode cX3_lay 252 = .ok (.iaload, 1) := by decide +kernel
theorem dX3_lay_253 : decode cX3_lay 253 = .ok (.aload_n 0, 1) := by decide +kernel
theorem dX3_lay_254 : decode cX3_lay 254 = .ok (.iload 5, 2) := by decide +kernel
theorem dX3_lay_256 : decode cX3_lay 256 = .ok (.iconst 0, 1) := by decide +kernel
theorem dX3_lay_257 : decode cX3_lay 257 = .ok (.invokevirtual 155, 3) := by decide +kernel
theorem dX3_lay_260 : decode cX3_lay 260 = .ok (.isub, 1) := by decide +kernel
theorem dX3_lay_261 : decode cX3_lay 261 = .ok (.iload 8, 2) := by decide +kernel
theorem dX3_lay_263 : decode cX3_lay 263 = .ok (.isub, 1) := by decide +kernel
theorem dX3_lay_264 : decode cX3_lay 264 = .ok (.invokevirtual 129, 3) := by decide +kernel
theorem dX3_lay_267 : decode cX3_lay 267 = .ok (.iinc 3 1, 3) := by decide +kernel
theorem dX3_lay_270 : decode cX3_lay 270 = .ok (.goto (-210), 3) := by decide +kernel
theorem dX3_lay_273 : decode cX3_lay 273 = .ok (.aload_n 0, 1) := by decide +kernel
theorem dX3_lay_274 : decode cX3_lay 274 = .ok (.invokevirtual 143, 3) := by decide +kernel
theorem dX3_lay_277 : decode cX3_lay 277 = .ok (.ireturn, 1) := by decide +kernel
theorem dX3_jumped_0 : decode cX3_jumped 0 = .ok (.aload_n 0, 1) := by decide +kernel
theorem dX3_jumped_1 : decode cX3_jumped 1 = .ok (.iload_n 1, 1) := by decide +kernel
theorem dX3_jumped_2 : decode cX3_jumped 2 = .ok (.invokevirtual 158, 3) := by decide +kernel
theorem dX3_jumped_5 : decode cX3_jumped 5 = .ok (.ifCond .eq 10, 3) := by decide +kernel
theorem dX3_jumped_8 : decode cX3_jumped 8 = .ok (.iload_n 2, 1) := by decide +kernel
theorem dX3_jumped_9 : decode cX3_jumped 9 = .ok (.invokestatic 161, 3) := by decide +kernel
theorem dX3_jumped_12 : decode cX3_jumped 12 = .ok (.ifCond .ne 5, 3) := by decide +kernel
theorem dX3_jumped_15 : decode cX3_jumped 15 = .ok (.iconst (-1), 1) := by decide +kernel
theorem dX3_jumped_16 : decode cX3_jumped 16 = .ok (.ireturn, 1) := by decide +kernel
theorem dX3_jumped_17 : decode cX3_jumped 17 = .ok (.aload_n 0, 1) := by decide +kernel
theorem dX3_jumped_18 : decode cX3_jumped 18 = .ok (.iload_n 1, 1) := by decide +kernel
theorem dX3_jumped_19 : decode cX3_jumped 19 = .ok (.iload_n 2, 1) := by decide +kernel
theorem dX3_jumped_20 : decode cX3_jumped 20 = .ok (.invokevirtual 175, 3) := by decide +kernel
theorem dX3_jumped_23 : decode cX3_jumped 23 = .ok (.ifCond .eq 7, 3) := by decide +kernel
theorem dX3_jumped_26 : decode cX3_jumped 26 = .ok (.iconst 0, 1) := by decide +kernel
theorem dX3_jumped_27 : decode cX3_jumped 27 = .ok (.goto 4, 3) := by decide +kernel
theorem dX3_jumped_30 : decode cX3_jumped 30 = .ok (.iconst 1, 1) := by decide +kernel
theorem dX3_jumped_31 : decode cX3_jumped 31 = .ok (.ireturn, 1) := by decide +kernel
theorem dX3_ahead_0 : decode cX3_ahead 0 = .ok (.aload_n 0, 1) := by decide +kernel
theorem dX3_ahead_1 : decode cX3_ahead 1 = .ok (.iload_n 1, 1) := by decide +kernel
theorem dX3_ahead_2 : decode cX3_ahead 2 = .ok (.iload_n 2, 1) := by decide +kernel
theorem dX3_ahead_3 : decode cX3_ahead 3 = .ok (.iload_n 3, 1) := by decide +kernel
theorem dX3_ahead_4 : decode cX3_ahead 4 = .ok (.invokevirtual 164, 3) := by decide +kernel
theorem dX3_ahead_7 : decode cX3_ahead 7 = .ok (.ifCond .ne 6, 3) := by decide +kernel
theorem dX3_ahead_10 : decode cX3_ahead 10 = .ok (.ldc 150, 2) := by decide +kernel
theorem dX3_ahead_12 : decode cX3_ahead 12 = .ok (.ireturn, 1) := by decide +kernel
theorem dX3_ahead_13 : decode cX3_ahead 13 = .ok (.iload 4, 2) := by decide +kernel
theorem dX3_ahead_15 : decode cX3_ahead 15 = .ok (.invokestatic 151, 3) := by decide +kernel
theorem dX3_ahead_18 : decode cX3_ahead 18 = .ok (.ifCond .ne 6, 3) := by decide +kernel
theorem dX3_ahead_21 : decode cX3_ahead 21 = .ok (.ldc 154, 2) := by decide +kernel
theorem dX3_ahead_23 : decode cX3_ahead 23 = .ok (.ireturn, 1) := by decide +kernel
theorem dX3_ahead_24 : decode cX3_ahead 24 = .ok (.aload_n 0, 1) := by decide +kernel
theorem dX3_ahead_25 : decode cX3_ahead 25 = .ok (.iload_n 1, 1) := by decide +kernel
theorem dX3_ahead_26 : decode cX3_ahead 26 = .ok (.iload_n 2, 1) := by decide +kernel
theorem dX3_ahead_27 : decode cX3_ahead 27 = .ok (.invokevirtual 175, 3) := by decide +kernel
theorem dX3_ahead_30 : decode cX3_ahead 30 = .ok (.ifCond .ne 8, 3) := by decide +kernel
theorem dX3_ahead_33 : decode cX3_ahead 33 = .ok (.ldc 178, 2) := by decide +kernel
theorem dX3_ahead_35 : decode cX3_ahead 35 = .ok (.goto 23, 3) := by decide +kernel
theorem dX3_ahead_38 : decode cX3_ahead 38 = .ok (.iload 4, 2) := by decide +kernel
theorem dX3_ahead_40 : decode cX3_ahead 40 = .ok (.ifCond .ne 12, 3) := by decide +kernel
theorem dX3_ahead_43 : decode cX3_ahead 43 = .ok (.aload_n 0, 1) := by decide +kernel
theorem dX3_ahead_44 : decode cX3_ahead 44 = .ok (.getfield 84, 3) := by decide +kernel
theorem dX3_ahead_47 : decode cX3_ahead 47 = .ok (.iload_n 3, 1) := by decide +kernel
theorem dX3_ahead_48 : decode cX3_ahead 48 = .ok (.iaload, 1) := by decide +kernel
theorem dX3_ahead_49 : decode cX3_ahead 49 = .ok (.goto 9, 3) := by decide +kernel
theorem dX3_ahead_52 : decode cX3_ahead 52 = .ok (.aload_n 0, 1) := by decide +kernel
theorem dX3_ahead_53 : decode cX3_ahead 53 = .ok (.getfield 87, 3) := by decide +kernel
theorem dX3_ahead_56 : decode cX3_ahead 56 = .ok (.iload_n 3, 1) := by decide +kernel
theorem dX3_ahead_57 : decode cX3_ahead 57 = .ok (.iaload, 1) := by decide +kernel
theorem dX3_ahead_58 : decode cX3_ahead 58 = .ok (.ireturn, 1) := by decide +kernel
theorem dX3_gains_0 : decode cX3_gains 0 = .ok (.aload_n 0, 1) := by decide +kernel
theorem dX3_gains_1 : decode cX3_gains 1 = .ok (.iload_n 1, 1) := by decide +kernel
theorem dX3_gains_2 : decode cX3_gains 2 = .ok (.invokevirtual 158, 3) := by decide +kernel
theorem dX3_gains_5 : decode cX3_gains 5 = .ok (.ifCond .eq 10, 3) := by decide +kernel
theorem dX3_gains_8 : decode cX3_gains 8 = .ok (.iload_n 2, 1) := by decide +kernel
theorem dX3_gains_9 : decode cX3_gains 9 = .ok (.invokestatic 161, 3) := by decide +kernel
theorem dX3_gains_12 : decode cX3_gains 12 = .ok (.ifCond .ne 6, 3) := by decide +kernel
theorem dX3_gains_15 : decode cX3_gains 15 = .ok (.ldc 150, 2) := by decide +kernel
theorem dX3_gains_17 : decode cX3_gains 17 = .ok (.ireturn, 1) := by decide +kernel
theorem dX3_gains_18 : decode cX3_gains 18 = .ok (.iload_n 3, 1) := by decide +kernel
theorem dX3_gains_19 : decode cX3_gains 19 = .ok (.invokestatic 151, 3) := by decide +kernel
theorem dX3_gains_22 : decode cX3_gains 22 = .ok (.ifCond .ne 6, 3) := by decide +kernel
theorem dX3_gains_25 : decode cX3_gains 25 = .ok (.ldc 154, 2) := by decide +kernel
theorem dX3_gains_27 : decode cX3_gains 27 = .ok (.ireturn, 1) := by decide +kernel
theorem dX3_gains_28 : decode cX3_gains 28 = .ok (.aload_n 0, 1) := by decide +kernel
theorem dX3_gains_29 : decode cX3_gains 29 = .ok (.iload_n 1, 1) := by decide +kernel
theorem dX3_gains_30 : decode cX3_gains 30 = .ok (.iload_n 2, 1) := by decide +kernel
theorem dX3_gains_31 : decode cX3_gains 31 = .ok (.invokevirtual 175, 3) := by decide +kernel
theorem dX3_gains_34 : decode cX3_gains 34 = .ok (.ifCond .ne 8, 3) := by decide +kernel
theorem dX3_gains_37 : decode cX3_gains 37 = .ok (.ldc 178, 2) := by decide +kernel
theorem dX3_gains_39 : decode cX3_gains 39 = .ok (.goto 24, 3) := by decide +kernel
theorem dX3_gains_42 : decode cX3_gains 42 = .ok (.iload_n 3, 1) := by decide +kernel
theorem dX3_gains_43 : decode cX3_gains 43 = .ok (.ifCond .ne 13, 3) := by decide +kernel
theorem dX3_gains_46 : decode cX3_gains 46 = .ok (.aload_n 0, 1) := by decide +kernel
theorem dX3_gains_47 : decode cX3_gains 47 = .ok (.getfield 84, 3) := by decide +kernel
theorem dX3_gains_50 : decode cX3_gains 50 = .ok (.bipush 20, 2) := by decide +kernel
theorem dX3_gains_52 : decode cX3_gains 52 = .ok (.iaload, 1) := by decide +kernel
theorem dX3_gains_53 : decode cX3_gains 53 = .ok (.goto 10, 3) := by decide +kernel
theorem dX3_gains_56 : decode cX3_gains 56 = .ok (.aload_n 0, 1) := by decide +kernel
theorem dX3_gains_57 : decode cX3_gains 57 = .ok (.getfield 87, 3) := by decide +kernel
theorem dX3_gains_60 : decode cX3_gains 60 = .ok (.bipush 20, 2) := by decide +kernel
theorem dX3_gains_62 : decode cX3_gains 62 = .ok (.iaload, 1) := by decide +kernel
theorem dX3_gains_63 : decode cX3_gains 63 = .ok (.ireturn, 1) := by decide +kernel
theorem dX3_placeOf_0 : decode cX3_placeOf 0 = .ok (.iload_n 3, 1) := by decide +kernel
theorem dX3_placeOf_1 : decode cX3_placeOf 1 = .ok (.ifCond .ne 18, 3) := by decide +kernel
theorem dX3_placeOf_4 : decode cX3_placeOf 4 = .ok (.iload_n 2, 1) := by decide +kernel
theorem dX3_placeOf_5 : decode cX3_placeOf 5 = .ok (.aload_n 0, 1) := by decide +kernel
theorem dX3_placeOf_6 : decode cX3_placeOf 6 = .ok (.getfield 87, 3) := by decide +kernel
theorem dX3_placeOf_9 : decode cX3_placeOf 9 = .ok (.iload_n 1, 1) := by decide +kernel
theorem dX3_placeOf_10 : decode cX3_placeOf 10 = .ok (.iaload, 1) := by decide +kernel
theorem dX3_placeOf_11 : decode cX3_placeOf 11 = .ok (.isub, 1) := by decide +kernel
theorem dX3_placeOf_12 : decode cX3_placeOf 12 = .ok (.iconst 4, 1) := by decide +kernel
theorem dX3_placeOf_13 : decode cX3_placeOf 13 = .ok (.invokestatic 118, 3) := by decide +kernel
theorem dX3_placeOf_16 : decode cX3_placeOf 16 = .ok (.goto 15, 3) := by decide +kernel
theorem dX3_placeOf_19 : decode cX3_placeOf 19 = .ok (.iload_n 2, 1) := by decide +kernel
theorem dX3_placeOf_20 : decode cX3_placeOf 20 = .ok (.aload_n 0, 1) := by decide +kernel
theorem dX3_placeOf_21 : decode cX3_placeOf 21 = .ok (.getfield 84, 3) := by decide +kernel
theorem dX3_placeOf_24 : decode cX3_placeOf 24 = .ok (.iload_n 1, 1) := by decide +kernel
theorem dX3_placeOf_25 : decode cX3_placeOf 25 = .ok (.iaload, 1) := by decide +kernel
theorem dX3_placeOf_26 : decode cX3_placeOf 26 = .ok (.isub, 1) := by decide +kernel
theorem dX3_placeOf_27 : decode cX3_placeOf 27 = .ok (.iconst 4, 1) := by decide +kernel
theorem dX3_placeOf_28 : decode cX3_placeOf 28 = .ok (.invokestatic 133, 3) := by decide +kernel
theorem dX3_placeOf_31 : decode cX3_placeOf 31 = .ok (.ireturn, 1) := by decide +kernel
theorem dX3_place_0 : decode cX3_place 0 = .ok (.aload_n 0, 1) := by decide +kernel
theorem dX3_place_1 : decode cX3_place 1 = .ok (.iload_n 1, 1) := by decide +kernel
theorem dX3_place_2 : decode cX3_place 2 = .ok (.iload_n 2, 1) := by decide +kernel
theorem dX3_place_3 : decode cX3_place 3 = .ok (.iload_n 3, 1) := by decide +kernel
theorem dX3_place_4 : decode cX3_place 4 = .ok (.invokevirtual 164, 3) := by decide +kernel
theorem dX3_place_7 : decode cX3_place 7 = .ok (.ifCond .ne 6, 3) := by decide +kernel
theorem dX3_place_10 : decode cX3_place 10 = .ok (.ldc 150, 2) := by decide +kernel
theorem dX3_place_12 : decode cX3_place 12 = .ok (.ireturn, 1) := by decide +kernel
theorem dX3_place_13 : decode cX3_place 13 = .ok (.iload 4, 2) := by decide +kernel
theorem dX3_place_15 : decode cX3_place 15 = .ok (.ldc 105, 2) := by decide +kernel
theorem dX3_place_17 : decode cX3_place 17 = .ok (.ldc 106, 2) := by decide +kernel
theorem dX3_place_19 : decode cX3_place 19 = .ok (.invokestatic 111, 3) := by decide +kernel
theorem dX3_place_22 : decode cX3_place 22 = .ok (.ifCond .eq 11, 3) := by decide +kernel
theorem dX3_place_25 : decode cX3_place 25 = .ok (.iload 5, 2) := by decide +kernel
theorem dX3_place_27 : decode cX3_place 27 = .ok (.invokestatic 151, 3) := by decide +kernel
theorem dX3_place_30 : decode cX3_place 30 = .ok (.ifCond .ne 6, 3) := by decide +kernel
theorem dX3_place_33 : decode cX3_place 33 = .ok (.ldc 154, 2) := by decide +kernel
theorem dX3_place_35 : decode cX3_place 35 = .ok (.ireturn, 1) := by decide +kernel
theorem dX3_place_36 : decode cX3_place 36 = .ok (.aload_n 0, 1) := by decide +kernel
theorem dX3_place_37 : decode cX3_place 37 = .ok (.iload_n 1, 1) := by decide +kernel
theorem dX3_place_38 : decode cX3_place 38 = .ok (.iload_n 2, 1) := by decide +kernel
theorem dX3_place_39 : decode cX3_place 39 = .ok (.invokevirtual 175, 3) := by decide +kernel
theorem dX3_place_42 : decode cX3_place 42 = .ok (.ifCond .eq 15, 3) := by decide +kernel
theorem dX3_place_45 : decode cX3_place 45 = .ok (.aload_n 0, 1) := by decide +kernel
theorem dX3_place_46 : decode cX3_place 46 = .ok (.iload_n 3, 1) := by decide +kernel
theorem dX3_place_47 : decode cX3_place 47 = .ok (.iload 4, 2) := by decide +kernel
theorem dX3_place_49 : decode cX3_place 49 = .ok (.iload 5, 2) := by decide +kernel
theorem dX3_place_51 : decode cX3_place 51 = .ok (.invokevirtual 179, 3) := by decide +kernel
theorem dX3_place_54 : decode cX3_place 54 = .ok (.goto 5, 3) := by decide +kernel
theorem dX3_place_57 : decode cX3_place 57 = .ok (.ldc 178, 2) := by decide +kernel
theorem dX3_place_59 : decode cX3_place 59 = .ok (.ireturn, 1) := by decide +kernel
theorem dX3_reads_0 : decode cX3_reads 0 = .ok (.aload_n 0, 1) := by decide +kernel
theorem dX3_reads_1 : decode cX3_reads 1 = .ok (.iload_n 1, 1) := by decide +kernel
theorem dX3_reads_2 : decode cX3_reads 2 = .ok (.invokevirtual 158, 3) := by decide +kernel
theorem dX3_reads_5 : decode cX3_reads 5 = .ok (.ifCond .eq 10, 3) := by decide +kernel
theorem dX3_reads_8 : decode cX3_reads 8 = .ok (.iload_n 2, 1) := by decide +kernel
theorem dX3_reads_9 : decode cX3_reads 9 = .ok (.invokestatic 146, 3) := by decide +kernel
theorem dX3_reads_12 : decode cX3_reads 12 = .ok (.ifCond .ne 5, 3) := by decide +kernel
theorem dX3_reads_15 : decode cX3_reads 15 = .ok (.iconst (-1), 1) := by decide +kernel
theorem dX3_reads_16 : decode cX3_reads 16 = .ok (.ireturn, 1) := by decide +kernel
theorem dX3_reads_17 : decode cX3_reads 17 = .ok (.iload_n 3, 1) := by decide +kernel
theorem dX3_reads_18 : decode cX3_reads 18 = .ok (.ldc 105, 2) := by decide +kernel
theorem dX3_reads_20 : decode cX3_reads 20 = .ok (.ldc 106, 2) := by decide +kernel
theorem dX3_reads_22 : decode cX3_reads 22 = .ok (.invokestatic 111, 3) := by decide +kernel
theorem dX3_reads_25 : decode cX3_reads 25 = .ok (.ifCond .eq 27, 3) := by decide +kernel
theorem dX3_reads_28 : decode cX3_reads 28 = .ok (.iload 4, 2) := by decide +kernel
theorem dX3_reads_30 : decode cX3_reads 30 = .ok (.ldc 105, 2) := by decide +kernel
theorem dX3_reads_32 : decode cX3_reads 32 = .ok (.ldc 106, 2) := by decide +kernel
theorem dX3_reads_34 : decode cX3_reads 34 = .ok (.invokestatic 111, 3) := by decide +kernel
theorem dX3_reads_37 : decode cX3_reads 37 = .ok (.ifCond .eq 15, 3) := by decide +kernel
theorem dX3_reads_40 : decode cX3_reads 40 = .ok (.iload 5, 2) := by decide +kernel
theorem dX3_reads_42 : decode cX3_reads 42 = .ok (.ldc 105, 2) := by decide +kernel
theorem dX3_reads_44 : decode cX3_reads 44 = .ok (.ldc 106, 2) := by decide +kernel
theorem dX3_reads_46 : decode cX3_reads 46 = .ok (.invokestatic 111, 3) := by decide +kernel
theorem dX3_reads_49 : decode cX3_reads 49 = .ok (.ifCond .ne 6, 3) := by decide +kernel
theorem dX3_reads_52 : decode cX3_reads 52 = .ok (.bipush (-2), 2) := by decide +kernel
theorem dX3_reads_54 : decode cX3_reads 54 = .ok (.ireturn, 1) := by decide +kernel
theorem dX3_reads_55 : decode cX3_reads 55 = .ok (.aload_n 0, 1) := by decide +kernel
theorem dX3_reads_56 : decode cX3_reads 56 = .ok (.getfield 72, 3) := by decide +kernel
theorem dX3_reads_59 : decode cX3_reads 59 = .ok (.iload_n 1, 1) := by decide +kernel
theorem dX3_reads_60 : decode cX3_reads 60 = .ok (.iload_n 2, 1) := by decide +kernel
theorem dX3_reads_61 : decode cX3_reads 61 = .ok (.iastore, 1) := by decide +kernel
theorem dX3_reads_62 : decode cX3_reads 62 = .ok (.aload_n 0, 1) := by decide +kernel
theorem dX3_reads_63 : decode cX3_reads 63 = .ok (.getfield 75, 3) := by decide +kernel
theorem dX3_reads_66 : decode cX3_reads 66 = .ok (.iconst 3, 1) := by decide +kernel
theorem dX3_reads_67 : decode cX3_reads 67 = .ok (.iload_n 1, 1) := by decide +kernel
theorem dX3_reads_68 : decode cX3_reads 68 = .ok (.imul, 1) := by decide +kernel
theorem dX3_reads_69 : decode cX3_reads 69 = .ok (.iload_n 3, 1) := by decide +kernel
theorem dX3_reads_70 : decode cX3_reads 70 = .ok (.iastore, 1) := by decide +kernel
theorem dX3_reads_71 : decode cX3_reads 71 = .ok (.aload_n 0, 1) := by decide +kernel
theorem dX3_reads_72 : decode cX3_reads 72 = .ok (.getfield 75, 3) := by decide +kernel
theorem dX3_reads_75 : decode cX3_reads 75 = .ok (.iconst 3, 1) := by decide +kernel
theorem dX3_reads_76 : decode cX3_reads 76 = .ok (.iload_n 1, 1) := by decide +kernel
theorem dX3_reads_77 : decode cX3_reads 77 = .ok (.imul, 1) := by decide +kernel
theorem dX3_reads_78 : decode cX3_reads 78 = .ok (.iconst 1, 1) := by decide +kernel
theorem dX3_reads_79 : decode cX3_reads 79 = .ok (.iadd, 1) := by decide +kernel
theorem dX3_reads_80 : decode cX3_reads 80 = .ok (.iload 4, 2) := by decide +kernel
theorem dX3_reads_82 : decode cX3_reads 82 = .ok (.iastore, 1) := by decide +kernel
theorem dX3_reads_83 : decode cX3_reads 83 = .ok (.aload_n 0, 1) := by decide +kernel
theorem dX3_reads_84 : decode cX3_reads 84 = .ok (.getfield 75, 3) := by decide +kernel
theorem dX3_reads_87 : decode cX3_reads 87 = .ok (.iconst 3, 1) := by decide +kernel
theorem dX3_reads_88 : decode cX3_reads 88 = .ok (.iload_n 1, 1) := by decide +kernel
theorem dX3_reads_89 : decode cX3_reads 89 = .ok (.imul, 1) := by decide +kernel
theorem dX3_reads_90 : decode cX3_reads 90 = .ok (.iconst 2, 1) := by decide +kernel
theorem dX3_reads_91 : decode cX3_reads 91 = .ok (.iadd, 1) := by decide +kernel
theorem dX3_reads_92 : decode cX3_reads 92 = .ok (.iload 5, 2) := by decide +kernel
theorem dX3_reads_94 : decode cX3_reads 94 = .ok (.iastore, 1) := by decide +kernel
theorem dX3_reads_95 : decode cX3_reads 95 = .ok (.iconst 1, 1) := by decide +kernel
theorem dX3_reads_96 : decode cX3_reads 96 = .ok (.ireturn, 1) := by decide +kernel
theorem dX3_layPlaces_0 : decode cX3_layPlaces 0 = .ok (.iconst 0, 1) := by decide +kernel
theorem dX3_layPlaces_1 : decode cX3_layPlaces 1 = .ok (.istore_n 2, 1) := by decide +kernel
theorem dX3_layPlaces_2 : decode cX3_layPlaces 2 = .ok (.iload_n 2, 1) := by decide +kernel
theorem dX3_layPlaces_3 : decode cX3_layPlaces 3 = .ok (.iconst 3, 1) := by decide +kernel
theorem dX3_layPlaces_4 : decode cX3_layPlaces 4 = .ok (.if_icmp .ge 75, 3) := by decide +kernel
theorem dX3_layPlaces_7 : decode cX3_layPlaces 7 = .ok (.aload_n 0, 1) := by decide +kernel
theorem dX3_layPlaces_8 : decode cX3_layPlaces 8 = .ok (.getfield 102, 3) := by decide +kernel
theorem dX3_layPlaces_11 : decode cX3_layPlaces 11 = .ok (.iload_n 2, 1) := by decide +kernel
theorem dX3_layPlaces_12 : decode cX3_layPlaces 12 = .ok (.aload_n 0, 1) := by decide +kernel
theorem dX3_layPlaces_13 : decode cX3_layPlaces 13 = .ok (.iload_n 1, 1) := by decide +kernel
theorem dX3_layPlaces_14 : decode cX3_layPlaces 14 = .ok (.iload_n 2, 1) := by decide +kernel
theorem dX3_layPlaces_15 : decode cX3_layPlaces 15 = .ok (.invokevirtual 175, 3) := by decide +kernel
theorem dX3_layPlaces_18 : decode cX3_layPlaces 18 = .ok (.bastore, 1) := by decide +kernel
theorem dX3_layPlaces_19 : decode cX3_layPlaces 19 = .ok (.aload_n 0, 1) := by decide +kernel
theorem dX3_layPlaces_20 : decode cX3_layPlaces 20 = .ok (.getfield 96, 3) := by decide +kernel
theorem dX3_layPlaces_23 : decode cX3_layPlaces 23 = .ok (.iload_n 2, 1) := by decide +kernel
theorem dX3_layPlaces_24 : decode cX3_layPlaces 24 = .ok (.aload_n 0, 1) := by decide +kernel
theorem dX3_layPlaces_25 : decode cX3_layPlaces 25 = .ok (.aload_n 0, 1) := by decide +kernel
theorem dX3_layPlaces_26 : decode cX3_layPlaces 26 = .ok (.getfield 72, 3) := by decide +kernel
theorem dX3_layPlaces_29 : decode cX3_layPlaces 29 = .ok (.iload_n 1, 1) := by decide +kernel
theorem dX3_layPlaces_30 : decode cX3_layPlaces 30 = .ok (.iaload, 1) := by decide +kernel
theorem dX3_layPlaces_31 : decode cX3_layPlaces 31 = .ok (.aload_n 0, 1) := by decide +kernel
theorem dX3_layPlaces_32 : decode cX3_layPlaces 32 = .ok (.getfield 75, 3) := by decide +kernel
theorem dX3_layPlaces_35 : decode cX3_layPlaces 35 = .ok (.iconst 3, 1) := by decide +kernel
theorem dX3_layPlaces_36 : decode cX3_layPlaces 36 = .ok (.iload_n 1, 1) := by decide +kernel
theorem dX3_layPlaces_37 : decode cX3_layPlaces 37 = .ok (.imul, 1) := by decide +kernel
theorem dX3_layPlaces_38 : decode cX3_layPlaces 38 = .ok (.iload_n 2, 1) := by decide +kernel
theorem dX3_layPlaces_39 : decode cX3_layPlaces 39 = .ok (.iadd, 1) := by decide +kernel
theorem dX3_layPlaces_40 : decode cX3_layPlaces 40 = .ok (.iaload, 1) := by decide +kernel
theorem dX3_layPlaces_41 : decode cX3_layPlaces 41 = .ok (.iconst 0, 1) := by decide +kernel
theorem dX3_layPlaces_42 : decode cX3_layPlaces 42 = .ok (.invokevirtual 179, 3) := by decide +kernel
theorem dX3_layPlaces_45 : decode cX3_layPlaces 45 = .ok (.iastore, 1) := by decide +kernel
theorem dX3_layPlaces_46 : decode cX3_layPlaces 46 = .ok (.aload_n 0, 1) := by decide +kernel
theorem dX3_layPlaces_47 : decode cX3_layPlaces 47 = .ok (.getfield 99, 3) := by decide +kernel
theorem dX3_layPlaces_50 : decode cX3_layPlaces 50 = .ok (.iload_n 2, 1) := by decide +kernel
theorem dX3_layPlaces_51 : decode cX3_layPlaces 51 = .ok (.aload_n 0, 1) := by decide +kernel
theorem dX3_layPlaces_52 : decode cX3_layPlaces 52 = .ok (.aload_n 0, 1) := by decide +kernel
theorem dX3_layPlaces_53 : decode cX3_layPlaces 53 = .ok (.getfield 72, 3) := by decide +kernel
theorem dX3_layPlaces_56 : decode cX3_layPlaces 56 = .ok (.iload_n 1, 1) := by decide +kernel
theorem dX3_layPlaces_57 : decode cX3_layPlaces 57 = .ok (.iaload, 1) := by decide +kernel
theorem dX3_layPlaces_58 : decode cX3_layPlaces 58 = .ok (.aload_n 0, 1) := by decide +kernel
theorem dX3_layPlaces_59 : decode cX3_layPlaces 59 = .ok (.getfield 75, 3) := by decide +kernel
theorem dX3_layPlaces_62 : decode cX3_layPlaces 62 = .ok (.iconst 3, 1) := by decide +kernel
theorem dX3_layPlaces_63 : decode cX3_layPlaces 63 = .ok (.iload_n 1, 1) := by decide +kernel
theorem dX3_layPlaces_64 : decode cX3_layPlaces 64 = .ok (.imul, 1) := by decide +kernel
theorem dX3_layPlaces_65 : decode cX3_layPlaces 65 = .ok (.iload_n 2, 1) := by decide +kernel
theorem dX3_layPlaces_66 : decode cX3_layPlaces 66 = .ok (.iadd, 1) := by decide +kernel
theorem dX3_layPlaces_67 : decode cX3_layPlaces 67 = .ok (.iaload, 1) := by decide +kernel
theorem dX3_layPlaces_68 : decode cX3_layPlaces 68 = .ok (.iconst 1, 1) := by decide +kernel
theorem dX3_layPlaces_69 : decode cX3_layPlaces 69 = .ok (.invokevirtual 179, 3) := by decide +kernel
theorem dX3_layPlaces_72 : decode cX3_layPlaces 72 = .ok (.iastore, 1) := by decide +kernel
theorem dX3_layPlaces_73 : decode cX3_layPlaces 73 = .ok (.iinc 2 1, 3) := by decide +kernel
theorem dX3_layPlaces_76 : decode cX3_layPlaces 76 = .ok (.goto (-74), 3) := by decide +kernel
theorem dX3_layPlaces_79 : decode cX3_layPlaces 79 = .ok (.return_, 1) := by decide +kernel
theorem dX3_agrees_0 : decode cX3_agrees 0 = .ok (.aload_n 0, 1) := by decide +kernel
theorem dX3_agrees_1 : decode cX3_agrees 1 = .ok (.ldc 183, 2) := by decide +kernel
theorem dX3_agrees_3 : decode cX3_agrees 3 = .ok (.putfield 184, 3) := by decide +kernel
theorem dX3_agrees_6 : decode cX3_agrees 6 = .ok (.aload_n 0, 1) := by decide +kernel
theorem dX3_agrees_7 : decode cX3_agrees 7 = .ok (.ldc 187, 2) := by decide +kernel
theorem dX3_agrees_9 : decode cX3_agrees 9 = .ok (.putfield 188, 3) := by decide +kernel
theorem dX3_agrees_12 : decode cX3_agrees 12 = .ok (.iconst 1, 1) := by decide +kernel
theorem dX3_agrees_13 : decode cX3_agrees 13 = .ok (.istore_n 2, 1) := by decide +kernel
theorem dX3_agrees_14 : decode cX3_agrees 14 = .ok (.iconst 0, 1) := by decide +kernel
theorem dX3_agrees_15 : decode cX3_agrees 15 = .ok (.istore_n 3, 1) := by decide +kernel
theorem dX3_agrees_16 : decode cX3_agrees 16 = .ok (.iload_n 3, 1) := by decide +kernel
theorem dX3_agrees_17 : decode cX3_agrees 17 = .ok (.iconst 3, 1) := by decide +kernel
theorem dX3_agrees_18 : decode cX3_agrees 18 = .ok (.if_icmp .ge 97, 3) := by decide +kernel
theorem dX3_agrees_21 : decode cX3_agrees 21 = .ok (.iload_n 1, 1) := by decide +kernel
theorem dX3_agrees_22 : decode cX3_agrees 22 = .ok (.iload_n 3, 1) := by decide +kernel
theorem dX3_agrees_23 : decode cX3_agrees 23 = .ok (.ishr, 1) := by decide +kernel
theorem dX3_agrees_24 : decode cX3_agrees 24 = .ok (.iconst 1, 1) := by decide +kernel
theorem dX3_agrees_25 : decode cX3_agrees 25 = .ok (.iand, 1) := by decide +kernel
theorem dX3_agrees_26 : decode cX3_agrees 26 = .ok (.iconst 1, 1) := by decide +kernel
theorem dX3_agrees_27 : decode cX3_agrees 27 = .ok (.if_icmp .ne 82, 3) := by decide +kernel
theorem dX3_agrees_30 : decode cX3_agrees 30 = .ok (.iload_n 2, 1) := by decide +kernel
theorem dX3_agrees_31 : decode cX3_agrees 31 = .ok (.ifCond .eq 16, 3) := by decide +kernel
theorem dX3_agrees_34 : decode cX3_agrees 34 = .ok (.aload_n 0, 1) := by decide +kernel
theorem dX3_agrees_35 : decode cX3_agrees 35 = .ok (.getfield 102, 3) := by decide +kernel
theorem dX3_agrees_38 : decode cX3_agrees 38 = .ok (.iload_n 3, 1) := by decide +kernel
theorem dX3_agrees_39 : decode cX3_agrees 39 = .ok (.baload, 1) := by decide +kernel
theorem dX3_agrees_40 : decode cX3_agrees 40 = .ok (.ifCond .eq 7, 3) := by decide +kernel
theorem dX3_agrees_43 : decode cX3_agrees 43 = .ok (.iconst 1, 1) := by decide +kernel
theorem dX3_agrees_44 : decode cX3_agrees 44 = .ok (.goto 4, 3) := by decide +kernel
theorem dX3_agrees_47 : decode cX3_agrees 47 = .ok (.iconst 0, 1) := by decide +kernel
theorem dX3_agrees_48 : decode cX3_agrees 48 = .ok (.istore_n 2, 1) := by decide +kernel
theorem dX3_agrees_49 : decode cX3_agrees 49 = .ok (.aload_n 0, 1) := by decide +kernel
theorem dX3_agrees_50 : decode cX3_agrees 50 = .ok (.aload_n 0, 1) := by decide +kernel
theorem dX3_agrees_51 : decode cX3_agrees 51 = .ok (.getfield 96, 3) := by decide +kernel
theorem dX3_agrees_54 : decode cX3_agrees 54 = .ok (.iload_n 3, 1) := by decide +kernel
theorem dX3_agrees_55 : decode cX3_agrees 55 = .ok (.iaload, 1) := by decide +kernel
theorem dX3_agrees_56 : decode cX3_agrees 56 = .ok (.aload_n 0, 1) := by decide +kernel
theorem dX3_agrees_57 : decode cX3_agrees 57 = .ok (.getfield 184, 3) := by decide +kernel
theorem dX3_agrees_60 : decode cX3_agrees 60 = .ok (.if_icmp .le 12, 3) := by decide +kernel
theorem dX3_agrees_63 : decode cX3_agrees 63 = .ok (.aload_n 0, 1) := by decide +kernel
theorem dX3_agrees_64 : decode cX3_agrees 64 = .ok (.getfield 96, 3) := by decide +kernel
theorem dX3_agrees_67 : decode cX3_agrees 67 = .ok (.iload_n 3, 1) := by decide +kernel
theorem dX3_agrees_68 : decode cX3_agrees 68 = .ok (.iaload, 1) := by decide +kernel
theorem dX3_agrees_69 : decode cX3_agrees 69 = .ok (.goto 7, 3) := by decide +kernel
theorem dX3_agrees_72 : decode cX3_agrees 72 = .ok (.aload_n 0, 1) := by decide +kernel
theorem dX3_agrees_73 : decode cX3_agrees 73 = .ok (.getfield 184, 3) := by decide +kernel
theorem dX3_agrees_76 : decode cX3_agrees 76 = .ok (.putfield 184, 3) := by decide +kernel
theorem dX3_agrees_79 : decode cX3_agrees 79 = .ok (.aload_n 0, 1) := by decide +kernel
theorem dX3_agrees_80 : decode cX3_agrees 80 = .ok (.aload_n 0, 1) := by decide +kernel
theorem dX3_agrees_81 : decode cX3_agrees 81 = .ok (.getfield 99, 3) := by decide +kernel
theorem dX3_agrees_84 : decode cX3_agrees 84 = .ok (.iload_n 3, 1) := by decide +kernel
theorem dX3_agrees_85 : decode cX3_agrees 85 = .ok (.iaload, 1) := by decide +kernel
theorem dX3_agrees_86 : decode cX3_agrees 86 = .ok (.aload_n 0, 1) := by decide +kernel
theorem dX3_agrees_87 : decode cX3_agrees 87 = .ok (.getfield 188, 3) := by decide +kernel
theorem dX3_agrees_90 : decode cX3_agrees 90 = .ok (.if_icmp .ge 12, 3) := by decide +kernel
theorem dX3_agrees_93 : decode cX3_agrees 93 = .ok (.aload_n 0, 1) := by decide +kernel
theorem dX3_agrees_94 : decode cX3_agrees 94 = .ok (.getfield 99, 3) := by decide +kernel
theorem dX3_agrees_97 : decode cX3_agrees 97 = .ok (.iload_n 3, 1) := by decide +kernel
theorem dX3_agrees_98 : decode cX3_agrees 98 = .ok (.iaload, 1) := by decide +kernel
theorem dX3_agrees_99 : decode cX3_agrees 99 = .ok (.goto 7, 3) := by decide +kernel
theorem dX3_agrees_102 : decode cX3_agrees 102 = .ok (.aload_n 0, 1) := by decide +kernel
theorem dX3_agrees_103 : decode cX3_agrees 103 = .ok (.getfield 188, 3) := by decide +kernel
theorem dX3_agrees_106 : decode cX3_agrees 106 = .ok (.putfield 188, 3) := by decide +kernel
theorem dX3_agrees_109 : decode cX3_agrees 109 = .ok (.iinc 3 1, 3) := by decide +kernel
theorem dX3_agrees_112 : decode cX3_agrees 112 = .ok (.goto (-96), 3) := by decide +kernel
theorem dX3_agrees_115 : decode cX3_agrees 115 = .ok (.iload_n 2, 1) := by decide +kernel
theorem dX3_agrees_116 : decode cX3_agrees 116 = .ok (.ifCond .eq 18, 3) := by decide +kernel
theorem dX3_agrees_119 : decode cX3_agrees 119 = .ok (.aload_n 0, 1) := by decide +kernel
theorem dX3_agrees_120 : decode cX3_agrees 120 = .ok (.getfield 184, 3) := by decide +kernel
theorem dX3_agrees_123 : decode cX3_agrees 123 = .ok (.aload_n 0, 1) := by decide +kernel
theorem dX3_agrees_124 : decode cX3_agrees 124 = .ok (.getfield 188, 3) := by decide +kernel
theorem dX3_agrees_127 : decode cX3_agrees 127 = .ok (.if_icmp .gt 7, 3) := by decide +kernel
theorem dX3_agrees_130 : decode cX3_agrees 130 = .ok (.iconst 1, 1) := by decide +kernel
theorem dX3_agrees_131 : decode cX3_agrees 131 = .ok (.goto 4, 3) := by decide +kernel
theorem dX3_agrees_134 : decode cX3_agrees 134 = .ok (.iconst 0, 1) := by decide +kernel
theorem dX3_agrees_135 : decode cX3_agrees 135 = .ok (.ireturn, 1) := by decide +kernel
theorem dX3_weightOf_0 : decode cX3_weightOf 0 = .ok (.aload_n 0, 1) := by decide +kernel
theorem dX3_weightOf_1 : decode cX3_weightOf 1 = .ok (.iload_n 2, 1) := by decide +kernel
theorem dX3_weightOf_2 : decode cX3_weightOf 2 = .ok (.invokevirtual 191, 3) := by decide +kernel
theorem dX3_weightOf_5 : decode cX3_weightOf 5 = .ok (.ifCond .ne 5, 3) := by decide +kernel
theorem dX3_weightOf_8 : decode cX3_weightOf 8 = .ok (.iconst 0, 1) := by decide +kernel
theorem dX3_weightOf_9 : decode cX3_weightOf 9 = .ok (.ireturn, 1) := by decide +kernel
theorem dX3_weightOf_10 : decode cX3_weightOf 10 = .ok (.iconst 1, 1) := by decide +kernel
theorem dX3_weightOf_11 : decode cX3_weightOf 11 = .ok (.istore_n 3, 1) := by decide +kernel
theorem dX3_weightOf_12 : decode cX3_weightOf 12 = .ok (.iconst 0, 1) := by decide +kernel
theorem dX3_weightOf_13 : decode cX3_weightOf 13 = .ok (.istore 4, 2) := by decide +kernel
theorem dX3_weightOf_15 : decode cX3_weightOf 15 = .ok (.iload 4, 2) := by decide +kernel
theorem dX3_weightOf_17 : decode cX3_weightOf 17 = .ok (.iconst 3, 1) := by decide +kernel
theorem dX3_weightOf_18 : decode cX3_weightOf 18 = .ok (.if_icmp .ge 45, 3) := by decide +kernel
theorem dX3_weightOf_21 : decode cX3_weightOf 21 = .ok (.aload_n 0, 1) := by decide +kernel
theorem dX3_weightOf_22 : decode cX3_weightOf 22 = .ok (.getfield 69, 3) := by decide +kernel
theorem dX3_weightOf_25 : decode cX3_weightOf 25 = .ok (.iconst 3, 1) := by decide +kernel
theorem dX3_weightOf_26 : decode cX3_weightOf 26 = .ok (.iload_n 1, 1) := by decide +kernel
theorem dX3_weightOf_27 : decode cX3_weightOf 27 = .ok (.imul, 1) := by decide +kernel
theorem dX3_weightOf_28 : decode cX3_weightOf 28 = .ok (.iload 4, 2) := by decide +kernel
theorem dX3_weightOf_30 : decode cX3_weightOf 30 = .ok (.iadd, 1) := by decide +kernel
theorem dX3_weightOf_31 : decode cX3_weightOf 31 = .ok (.iaload, 1) := by decide +kernel
theorem dX3_weightOf_32 : decode cX3_weightOf 32 = .ok (.istore 5, 2) := by decide +kernel
theorem dX3_weightOf_34 : decode cX3_weightOf 34 = .ok (.iload_n 3, 1) := by decide +kernel
theorem dX3_weightOf_35 : decode cX3_weightOf 35 = .ok (.iload_n 2, 1) := by decide +kernel
theorem dX3_weightOf_36 : decode cX3_weightOf 36 = .ok (.iload 4, 2) := by decide +kernel
theorem dX3_weightOf_38 : decode cX3_weightOf 38 = .ok (.ishr, 1) := by decide +kernel
theorem dX3_weightOf_39 : decode cX3_weightOf 39 = .ok (.iconst 1, 1) := by decide +kernel
theorem dX3_weightOf_40 : decode cX3_weightOf 40 = .ok (.iand, 1) := by decide +kernel
theorem dX3_weightOf_41 : decode cX3_weightOf 41 = .ok (.iconst 1, 1) := by decide +kernel
theorem dX3_weightOf_42 : decode cX3_weightOf 42 = .ok (.if_icmp .ne 11, 3) := by decide +kernel
theorem dX3_weightOf_45 : decode cX3_weightOf 45 = .ok (.bipush 10, 2) := by decide +kernel
theorem dX3_weightOf_47 : decode cX3_weightOf 47 = .ok (.iload 5, 2) := by decide +kernel
theorem dX3_weightOf_49 : decode cX3_weightOf 49 = .ok (.isub, 1) := by decide +kernel
theorem dX3_weightOf_50 : decode cX3_weightOf 50 = .ok (.goto 5, 3) := by decide +kernel
theorem dX3_weightOf_53 : decode cX3_weightOf 53 = .ok (.iload 5, 2) := by decide +kernel
theorem dX3_weightOf_55 : decode cX3_weightOf 55 = .ok (.imul, 1) := by decide +kernel
theorem dX3_weightOf_56 : decode cX3_weightOf 56 = .ok (.istore_n 3, 1) := by decide +kernel
theorem dX3_weightOf_57 : decode cX3_weightOf 57 = .ok (.iinc 4 1, 3) := by decide +kernel
theorem dX3_weightOf_60 : decode cX3_weightOf 60 = .ok (.goto (-45), 3) := by decide +kernel
theorem dX3_weightOf_63 : decode cX3_weightOf 63 = .ok (.iload_n 3, 1) := by decide +kernel
theorem dX3_weightOf_64 : decode cX3_weightOf 64 = .ok (.ireturn, 1) := by decide +kernel
theorem dX3_weight_0 : decode cX3_weight 0 = .ok (.aload_n 0, 1) := by decide +kernel
theorem dX3_weight_1 : decode cX3_weight 1 = .ok (.iload_n 1, 1) := by decide +kernel
theorem dX3_weight_2 : decode cX3_weight 2 = .ok (.invokevirtual 158, 3) := by decide +kernel
theorem dX3_weight_5 : decode cX3_weight 5 = .ok (.ifCond .ne 5, 3) := by decide +kernel
theorem dX3_weight_8 : decode cX3_weight 8 = .ok (.iconst (-1), 1) := by decide +kernel
theorem dX3_weight_9 : decode cX3_weight 9 = .ok (.ireturn, 1) := by decide +kernel
theorem dX3_weight_10 : decode cX3_weight 10 = .ok (.iload_n 2, 1) := by decide +kernel
theorem dX3_weight_11 : decode cX3_weight 11 = .ok (.iconst 0, 1) := by decide +kernel
theorem dX3_weight_12 : decode cX3_weight 12 = .ok (.bipush 7, 2) := by decide +kernel
theorem dX3_weight_14 : decode cX3_weight 14 = .ok (.invokestatic 111, 3) := by decide +kernel
theorem dX3_weight_17 : decode cX3_weight 17 = .ok (.ifCond .ne 6, 3) := by decide +kernel
theorem dX3_weight_20 : decode cX3_weight 20 = .ok (.bipush (-2), 2) := by decide +kernel
theorem dX3_weight_22 : decode cX3_weight 22 = .ok (.ireturn, 1) := by decide +kernel
theorem dX3_weight_23 : decode cX3_weight 23 = .ok (.aload_n 0, 1) := by decide +kernel
theorem dX3_weight_24 : decode cX3_weight 24 = .ok (.iload_n 1, 1) := by decide +kernel
theorem dX3_weight_25 : decode cX3_weight 25 = .ok (.invokevirtual 194, 3) := by decide +kernel
theorem dX3_weight_28 : decode cX3_weight 28 = .ok (.aload_n 0, 1) := by decide +kernel
theorem dX3_weight_29 : decode cX3_weight 29 = .ok (.iload_n 1, 1) := by decide +kernel
theorem dX3_weight_30 : decode cX3_weight 30 = .ok (.iload_n 2, 1) := by decide +kernel
theorem dX3_weight_31 : decode cX3_weight 31 = .ok (.invokevirtual 198, 3) := by decide +kernel
theorem dX3_weight_34 : decode cX3_weight 34 = .ok (.ireturn, 1) := by decide +kernel
theorem dX3_odds_0 : decode cX3_odds 0 = .ok (.aload_n 0, 1) := by decide +kernel
theorem dX3_odds_1 : decode cX3_odds 1 = .ok (.iload_n 1, 1) := by decide +kernel
theorem dX3_odds_2 : decode cX3_odds 2 = .ok (.invokevirtual 158, 3) := by decide +kernel
theorem dX3_odds_5 : decode cX3_odds 5 = .ok (.ifCond .ne 7, 3) := by decide +kernel
theorem dX3_odds_8 : decode cX3_odds 8 = .ok (.ldc2_w 201, 3) := by decide +kernel
theorem dX3_odds_11 : decode cX3_odds 11 = .ok (.lreturn, 1) := by decide +kernel
theorem dX3_odds_12 : decode cX3_odds 12 = .ok (.iload_n 2, 1) := by decide +kernel
theorem dX3_odds_13 : decode cX3_odds 13 = .ok (.iconst 0, 1) := by decide +kernel
theorem dX3_odds_14 : decode cX3_odds 14 = .ok (.bipush 7, 2) := by decide +kernel
theorem dX3_odds_16 : decode cX3_odds 16 = .ok (.invokestatic 111, 3) := by decide +kernel
theorem dX3_odds_19 : decode cX3_odds 19 = .ok (.ifCond .eq 10, 3) := by decide +kernel
theorem dX3_odds_22 : decode cX3_odds 22 = .ok (.iload_n 3, 1) := by decide +kernel
theorem dX3_odds_23 : decode cX3_odds 23 = .ok (.invokestatic 151, 3) := by decide +kernel
theorem dX3_odds_26 : decode cX3_odds 26 = .ok (.ifCond .ne 7, 3) := by decide +kernel
theorem dX3_odds_29 : decode cX3_odds 29 = .ok (.ldc2_w 203, 3) := by decide +kernel
theorem dX3_odds_32 : decode cX3_odds 32 = .ok (.lreturn, 1) := by decide +kernel
theorem dX3_odds_33 : decode cX3_odds 33 = .ok (.aload_n 0, 1) := by decide +kernel
theorem dX3_odds_34 : decode cX3_odds 34 = .ok (.iload_n 1, 1) := by decide +kernel
theorem dX3_odds_35 : decode cX3_odds 35 = .ok (.invokevirtual 194, 3) := by decide +kernel
theorem dX3_odds_38 : decode cX3_odds 38 = .ok (.lconst 0, 1) := by decide +kernel
theorem dX3_odds_39 : decode cX3_odds 39 = .ok (.lstore 4, 2) := by decide +kernel
theorem dX3_odds_41 : decode cX3_odds 41 = .ok (.iconst 0, 1) := by decide +kernel
theorem dX3_odds_42 : decode cX3_odds 42 = .ok (.istore 6, 2) := by decide +kernel
theorem dX3_odds_44 : decode cX3_odds 44 = .ok (.iload 6, 2) := by decide +kernel
theorem dX3_odds_46 : decode cX3_odds 46 = .ok (.bipush 8, 2) := by decide +kernel
theorem dX3_odds_48 : decode cX3_odds 48 = .ok (.if_icmp .ge 22, 3) := by decide +kernel
theorem dX3_odds_51 : decode cX3_odds 51 = .ok (.lload 4, 2) := by decide +kernel
theorem dX3_odds_53 : decode cX3_odds 53 = .ok (.aload_n 0, 1) := by decide +kernel
theorem dX3_odds_54 : decode cX3_odds 54 = .ok (.iload_n 1, 1) := by decide +kernel
theorem dX3_odds_55 : decode cX3_odds 55 = .ok (.iload 6, 2) := by decide +kernel
theorem dX3_odds_57 : decode cX3_odds 57 = .ok (.invokevirtual 198, 3) := by decide +kernel
theorem dX3_odds_60 : decode cX3_odds 60 = .ok (.i2l, 1) := by decide +kernel
theorem dX3_odds_61 : decode cX3_odds 61 = .ok (.ladd, 1) := by decide +kernel
theorem dX3_odds_62 : decode cX3_odds 62 = .ok (.lstore 4, 2) := by decide +kernel
theorem dX3_odds_64 : decode cX3_odds 64 = .ok (.iinc 6 1, 3) := by decide +kernel
theorem dX3_odds_67 : decode cX3_odds 67 = .ok (.goto (-23), 3) := by decide +kernel
theorem dX3_odds_70 : decode cX3_odds 70 = .ok (.aload_n 0, 1) := by decide +kernel
theorem dX3_odds_71 : decode cX3_odds 71 = .ok (.iload_n 1, 1) := by decide +kernel
theorem dX3_odds_72 : decode cX3_odds 72 = .ok (.iload_n 2, 1) := by decide +kernel
theorem dX3_odds_73 : decode cX3_odds 73 = .ok (.invokevirtual 198, 3) := by decide +kernel
theorem dX3_odds_76 : decode cX3_odds 76 = .ok (.i2l, 1) := by decide +kernel
theorem dX3_odds_77 : decode cX3_odds 77 = .ok (.lstore 6, 2) := by decide +kernel
theorem dX3_odds_79 : decode cX3_odds 79 = .ok (.lload 6, 2) := by decide +kernel
theorem dX3_odds_81 : decode cX3_odds 81 = .ok (.lstore 8, 2) := by decide +kernel
theorem dX3_odds_83 : decode cX3_odds 83 = .ok (.lload 4, 2) := by decide +kernel
theorem dX3_odds_85 : decode cX3_odds 85 = .ok (.lstore 10, 2) := by decide +kernel
theorem dX3_odds_87 : decode cX3_odds 87 = .ok (.lload 10, 2) := by decide +kernel
theorem dX3_odds_89 : decode cX3_odds 89 = .ok (.lconst 0, 1) := by decide +kernel
theorem dX3_odds_90 : decode cX3_odds 90 = .ok (.lcmp, 1) := by decide +kernel
theorem dX3_odds_91 : decode cX3_odds 91 = .ok (.ifCond .eq 21, 3) := by decide +kernel
theorem dX3_odds_94 : decode cX3_odds 94 = .ok (.lload 8, 2) := by decide +kernel
theorem dX3_odds_96 : decode cX3_odds 96 = .ok (.lload 10, 2) := by decide +kernel
theorem dX3_odds_98 : decode cX3_odds 98 = .ok (.lrem, 1) := by decide +kernel
theorem dX3_odds_99 : decode cX3_odds 99 = .ok (.lstore 12, 2) := by decide +kernel
theorem dX3_odds_101 : decode cX3_odds 101 = .ok (.lload 10, 2) := by decide +kernel
theorem dX3_odds_103 : decode cX3_odds 103 = .ok (.lstore 8, 2) := by decide +kernel
theorem dX3_odds_105 : decode cX3_odds 105 = .ok (.lload 12, 2) := by decide +kernel
theorem dX3_odds_107 : decode cX3_odds 107 = .ok (.lstore 10, 2) := by decide +kernel
theorem dX3_odds_109 : decode cX3_odds 109 = .ok (.goto (-22), 3) := by decide +kernel
theorem dX3_odds_112 : decode cX3_odds 112 = .ok (.iload_n 3, 1) := by decide +kernel
theorem dX3_odds_113 : decode cX3_odds 113 = .ok (.ifCond .ne 11, 3) := by decide +kernel
theorem dX3_odds_116 : decode cX3_odds 116 = .ok (.lload 6, 2) := by decide +kernel
theorem dX3_odds_118 : decode cX3_odds 118 = .ok (.lload 8, 2) := by decide +kernel
theorem dX3_odds_120 : decode cX3_odds 120 = .ok (.ldiv, 1) := by decide +kernel
theorem dX3_odds_121 : decode cX3_odds 121 = .ok (.goto 8, 3) := by decide +kernel
theorem dX3_odds_124 : decode cX3_odds 124 = .ok (.lload 4, 2) := by decide +kernel
theorem dX3_odds_126 : decode cX3_odds 126 = .ok (.lload 8, 2) := by decide +kernel
theorem dX3_odds_128 : decode cX3_odds 128 = .ok (.ldiv, 1) := by decide +kernel
theorem dX3_odds_129 : decode cX3_odds 129 = .ok (.lreturn, 1) := by decide +kernel
theorem dX3_bits_0 : decode cX3_bits 0 = .ok (.iload_n 0, 1) := by decide +kernel
theorem dX3_bits_1 : decode cX3_bits 1 = .ok (.iconst 1, 1) := by decide +kernel
theorem dX3_bits_2 : decode cX3_bits 2 = .ok (.iand, 1) := by decide +kernel
theorem dX3_bits_3 : decode cX3_bits 3 = .ok (.iload_n 0, 1) := by decide +kernel
theorem dX3_bits_4 : decode cX3_bits 4 = .ok (.iconst 1, 1) := by decide +kernel
theorem dX3_bits_5 : decode cX3_bits 5 = .ok (.ishr, 1) := by decide +kernel
theorem dX3_bits_6 : decode cX3_bits 6 = .ok (.iconst 1, 1) := by decide +kernel
theorem dX3_bits_7 : decode cX3_bits 7 = .ok (.iand, 1) := by decide +kernel
theorem dX3_bits_8 : decode cX3_bits 8 = .ok (.iadd, 1) := by decide +kernel
theorem dX3_bits_9 : decode cX3_bits 9 = .ok (.iload_n 0, 1) := by decide +kernel
theorem dX3_bits_10 : decode cX3_bits 10 = .ok (.iconst 2, 1) := by decide +kernel
theorem dX3_bits_11 : decode cX3_bits 11 = .ok (.ishr, 1) := by decide +kernel
theorem dX3_bits_12 : decode cX3_bits 12 = .ok (.iconst 1, 1) := by decide +kernel
theorem dX3_bits_13 : decode cX3_bits 13 = .ok (.iand, 1) := by decide +kernel
theorem dX3_bits_14 : decode cX3_bits 14 = .ok (.iadd, 1) := by decide +kernel
theorem dX3_bits_15 : decode cX3_bits 15 = .ok (.ireturn, 1) := by decide +kernel
theorem dX3_bestOf_0 : decode cX3_bestOf 0 = .ok (.aload_n 0, 1) := by decide +kernel
theorem dX3_bestOf_1 : decode cX3_bestOf 1 = .ok (.iload_n 1, 1) := by decide +kernel
theorem dX3_bestOf_2 : decode cX3_bestOf 2 = .ok (.invokevirtual 194, 3) := by decide +kernel
theorem dX3_bestOf_5 : decode cX3_bestOf 5 = .ok (.iconst 0, 1) := by decide +kernel
theorem dX3_bestOf_6 : decode cX3_bestOf 6 = .ok (.istore_n 2, 1) := by decide +kernel
theorem dX3_bestOf_7 : decode cX3_bestOf 7 = .ok (.iconst 1, 1) := by decide +kernel
theorem dX3_bestOf_8 : decode cX3_bestOf 8 = .ok (.istore_n 3, 1) := by decide +kernel
theorem dX3_bestOf_9 : decode cX3_bestOf 9 = .ok (.iload_n 3, 1) := by decide +kernel
theorem dX3_bestOf_10 : decode cX3_bestOf 10 = .ok (.bipush 8, 2) := by decide +kernel
theorem dX3_bestOf_12 : decode cX3_bestOf 12 = .ok (.if_icmp .ge 51, 3) := by decide +kernel
theorem dX3_bestOf_15 : decode cX3_bestOf 15 = .ok (.aload_n 0, 1) := by decide +kernel
theorem dX3_bestOf_16 : decode cX3_bestOf 16 = .ok (.iload_n 1, 1) := by decide +kernel
theorem dX3_bestOf_17 : decode cX3_bestOf 17 = .ok (.iload_n 3, 1) := by decide +kernel
theorem dX3_bestOf_18 : decode cX3_bestOf 18 = .ok (.invokevirtual 198, 3) := by decide +kernel
theorem dX3_bestOf_21 : decode cX3_bestOf 21 = .ok (.aload_n 0, 1) := by decide +kernel
theorem dX3_bestOf_22 : decode cX3_bestOf 22 = .ok (.iload_n 1, 1) := by decide +kernel
theorem dX3_bestOf_23 : decode cX3_bestOf 23 = .ok (.iload_n 2, 1) := by decide +kernel
theorem dX3_bestOf_24 : decode cX3_bestOf 24 = .ok (.invokevirtual 198, 3) := by decide +kernel
theorem dX3_bestOf_27 : decode cX3_bestOf 27 = .ok (.isub, 1) := by decide +kernel
theorem dX3_bestOf_28 : decode cX3_bestOf 28 = .ok (.istore 4, 2) := by decide +kernel
theorem dX3_bestOf_30 : decode cX3_bestOf 30 = .ok (.iload 4, 2) := by decide +kernel
theorem dX3_bestOf_32 : decode cX3_bestOf 32 = .ok (.ifCond .gt 19, 3) := by decide +kernel
theorem dX3_bestOf_35 : decode cX3_bestOf 35 = .ok (.iload 4, 2) := by decide +kernel
theorem dX3_bestOf_37 : decode cX3_bestOf 37 = .ok (.ifCond .ne 18, 3) := by decide +kernel
theorem dX3_bestOf_40 : decode cX3_bestOf 40 = .ok (.iload_n 3, 1) := by decide +kernel
theorem dX3_bestOf_41 : decode cX3_bestOf 41 = .ok (.invokestatic 205, 3) := by decide +kernel
theorem dX3_bestOf_44 : decode cX3_bestOf 44 = .ok (.iload_n 2, 1) := by decide +kernel
theorem dX3_bestOf_45 : decode cX3_bestOf 45 = .ok (.invokestatic 205, 3) := by decide +kernel
theorem dX3_bestOf_48 : decode cX3_bestOf 48 = .ok (.if_icmp .le 7, 3) := by decide +kernel
theorem dX3_bestOf_51 : decode cX3_bestOf 51 = .ok (.iload_n 3, 1) := by decide +kernel
theorem dX3_bestOf_52 : decode cX3_bestOf 52 = .ok (.goto 4, 3) := by decide +kernel
theorem dX3_bestOf_55 : decode cX3_bestOf 55 = .ok (.iload_n 2, 1) := by decide +kernel
theorem dX3_bestOf_56 : decode cX3_bestOf 56 = .ok (.istore_n 2, 1) := by decide +kernel
theorem dX3_bestOf_57 : decode cX3_bestOf 57 = .ok (.iinc 3 1, 3) := by decide +kernel
theorem dX3_bestOf_60 : decode cX3_bestOf 60 = .ok (.goto (-51), 3) := by decide +kernel
theorem dX3_bestOf_63 : decode cX3_bestOf 63 = .ok (.iload_n 2, 1) := by decide +kernel
theorem dX3_bestOf_64 : decode cX3_bestOf 64 = .ok (.ireturn, 1) := by decide +kernel
theorem dX3_best_0 : decode cX3_best 0 = .ok (.aload_n 0, 1) := by decide +kernel
theorem dX3_best_1 : decode cX3_best 1 = .ok (.iload_n 1, 1) := by decide +kernel
theorem dX3_best_2 : decode cX3_best 2 = .ok (.invokevirtual 158, 3) := by decide +kernel
theorem dX3_best_5 : decode cX3_best 5 = .ok (.ifCond .eq 11, 3) := by decide +kernel
theorem dX3_best_8 : decode cX3_best 8 = .ok (.aload_n 0, 1) := by decide +kernel
theorem dX3_best_9 : decode cX3_best 9 = .ok (.iload_n 1, 1) := by decide +kernel
theorem dX3_best_10 : decode cX3_best 10 = .ok (.invokevirtual 209, 3) := by decide +kernel
theorem dX3_best_13 : decode cX3_best 13 = .ok (.goto 4, 3) := by decide +kernel
theorem dX3_best_16 : decode cX3_best 16 = .ok (.iconst (-1), 1) := by decide +kernel
theorem dX3_best_17 : decode cX3_best 17 = .ok (.ireturn, 1) := by decide +kernel
theorem dX3_landfall_0 : decode cX3_landfall 0 = .ok (.aload_n 0, 1) := by decide +kernel
theorem dX3_landfall_1 : decode cX3_landfall 1 = .ok (.iload_n 1, 1) := by decide +kernel
theorem dX3_landfall_2 : decode cX3_landfall 2 = .ok (.invokevirtual 158, 3) := by decide +kernel
theorem dX3_landfall_5 : decode cX3_landfall 5 = .ok (.ifCond .ne 6, 3) := by decide +kernel
theorem dX3_landfall_8 : decode cX3_landfall 8 = .ok (.ldc 150, 2) := by decide +kernel
theorem dX3_landfall_10 : decode cX3_landfall 10 = .ok (.ireturn, 1) := by decide +kernel
theorem dX3_landfall_11 : decode cX3_landfall 11 = .ok (.iload_n 2, 1) := by decide +kernel
theorem dX3_landfall_12 : decode cX3_landfall 12 = .ok (.invokestatic 151, 3) := by decide +kernel
theorem dX3_landfall_15 : decode cX3_landfall 15 = .ok (.ifCond .ne 6, 3) := by decide +kernel
theorem dX3_landfall_18 : decode cX3_landfall 18 = .ok (.ldc 154, 2) := by decide +kernel
theorem dX3_landfall_20 : decode cX3_landfall 20 = .ok (.ireturn, 1) := by decide +kernel
theorem dX3_landfall_21 : decode cX3_landfall 21 = .ok (.aload_n 0, 1) := by decide +kernel
theorem dX3_landfall_22 : decode cX3_landfall 22 = .ok (.iload_n 1, 1) := by decide +kernel
theorem dX3_landfall_23 : decode cX3_landfall 23 = .ok (.invokevirtual 209, 3) := by decide +kernel
theorem dX3_landfall_26 : decode cX3_landfall 26 = .ok (.istore_n 3, 1) := by decide +kernel
theorem dX3_landfall_27 : decode cX3_landfall 27 = .ok (.iload_n 3, 1) := by decide +kernel
theorem dX3_landfall_28 : decode cX3_landfall 28 = .ok (.ifCond .ne 6, 3) := by decide +kernel
theorem dX3_landfall_31 : decode cX3_landfall 31 = .ok (.ldc 178, 2) := by decide +kernel
theorem dX3_landfall_33 : decode cX3_landfall 33 = .ok (.ireturn, 1) := by decide +kernel
theorem dX3_landfall_34 : decode cX3_landfall 34 = .ok (.aload_n 0, 1) := by decide +kernel
theorem dX3_landfall_35 : decode cX3_landfall 35 = .ok (.iload_n 3, 1) := by decide +kernel
theorem dX3_landfall_36 : decode cX3_landfall 36 = .ok (.invokevirtual 191, 3) := by decide +kernel
theorem dX3_landfall_39 : decode cX3_landfall 39 = .ok (.pop, 1) := by decide +kernel
theorem dX3_landfall_40 : decode cX3_landfall 40 = .ok (.iload_n 2, 1) := by decide +kernel
theorem dX3_landfall_41 : decode cX3_landfall 41 = .ok (.ifCond .ne 10, 3) := by decide +kernel
theorem dX3_landfall_44 : decode cX3_landfall 44 = .ok (.aload_n 0, 1) := by decide +kernel
theorem dX3_landfall_45 : decode cX3_landfall 45 = .ok (.getfield 184, 3) := by decide +kernel
theorem dX3_landfall_48 : decode cX3_landfall 48 = .ok (.goto 7, 3) := by decide +kernel
theorem dX3_landfall_51 : decode cX3_landfall 51 = .ok (.aload_n 0, 1) := by decide +kernel
theorem dX3_landfall_52 : decode cX3_landfall 52 = .ok (.getfield 188, 3) := by decide +kernel
theorem dX3_landfall_55 : decode cX3_landfall 55 = .ok (.ireturn, 1) := by decide +kernel
theorem dX3_suspects_0 : decode cX3_suspects 0 = .ok (.iconst 0, 1) := by decide +kernel
theorem dX3_suspects_1 : decode cX3_suspects 1 = .ok (.istore_n 2, 1) := by decide +kernel
theorem dX3_suspects_2 : decode cX3_suspects 2 = .ok (.iconst 0, 1) := by decide +kernel
theorem dX3_suspects_3 : decode cX3_suspects 3 = .ok (.istore_n 3, 1) := by decide +kernel
theorem dX3_suspects_4 : decode cX3_suspects 4 = .ok (.iload_n 3, 1) := by decide +kernel
theorem dX3_suspects_5 : decode cX3_suspects 5 = .ok (.aload_n 0, 1) := by decide +kernel
theorem dX3_suspects_6 : decode cX3_suspects 6 = .ok (.getfield 115, 3) := by decide +kernel
theorem dX3_suspects_9 : decode cX3_suspects 9 = .ok (.if_icmp .ge 63, 3) := by decide +kernel
theorem dX3_suspects_12 : decode cX3_suspects 12 = .ok (.iconst 0, 1) := by decide +kernel
theorem dX3_suspects_13 : decode cX3_suspects 13 = .ok (.istore 4, 2) := by decide +kernel
theorem dX3_suspects_15 : decode cX3_suspects 15 = .ok (.iload 4, 2) := by decide +kernel
theorem dX3_suspects_17 : decode cX3_suspects 17 = .ok (.iconst 3, 1) := by decide +kernel
theorem dX3_suspects_18 : decode cX3_suspects 18 = .ok (.if_icmp .ge 48, 3) := by decide +kernel
theorem dX3_suspects_21 : decode cX3_suspects 21 = .ok (.aload_n 0, 1) := by decide +kernel
theorem dX3_suspects_22 : decode cX3_suspects 22 = .ok (.iload_n 3, 1) := by decide +kernel
theorem dX3_suspects_23 : decode cX3_suspects 23 = .ok (.iload 4, 2) := by decide +kernel
theorem dX3_suspects_25 : decode cX3_suspects 25 = .ok (.invokevirtual 175, 3) := by decide +kernel
theorem dX3_suspects_28 : decode cX3_suspects 28 = .ok (.ifCond .ne 32, 3) := by decide +kernel
theorem dX3_suspects_31 : decode cX3_suspects 31 = .ok (.aload_n 0, 1) := by decide +kernel
theorem dX3_suspects_32 : decode cX3_suspects 32 = .ok (.iload_n 1, 1) := by decide +kernel
theorem dX3_suspects_33 : decode cX3_suspects 33 = .ok (.putfield 93, 3) := by decide +kernel
theorem dX3_suspects_36 : decode cX3_suspects 36 = .ok (.iload_n 2, 1) := by decide +kernel
theorem dX3_suspects_37 : decode cX3_suspects 37 = .ok (.aload_n 0, 1) := by decide +kernel
theorem dX3_suspects_38 : decode cX3_suspects 38 = .ok (.iload_n 3, 1) := by decide +kernel
theorem dX3_suspects_39 : decode cX3_suspects 39 = .ok (.iload 4, 2) := by decide +kernel
theorem dX3_suspects_41 : decode cX3_suspects 41 = .ok (.invokevirtual 175, 3) := by decide +kernel
theorem dX3_suspects_44 : decode cX3_suspects 44 = .ok (.ifCond .eq 7, 3) := by decide +kernel
theorem dX3_suspects_47 : decode cX3_suspects 47 = .ok (.iconst 1, 1) := by decide +kernel
theorem dX3_suspects_48 : decode cX3_suspects 48 = .ok (.goto 4, 3) := by decide +kernel
theorem dX3_suspects_51 : decode cX3_suspects 51 = .ok (.iconst 0, 1) := by decide +kernel
theorem dX3_suspects_52 : decode cX3_suspects 52 = .ok (.iadd, 1) := by decide +kernel
theorem dX3_suspects_53 : decode cX3_suspects 53 = .ok (.istore_n 2, 1) := by decide +kernel
theorem dX3_suspects_54 : decode cX3_suspects 54 = .ok (.aload_n 0, 1) := by decide +kernel
theorem dX3_suspects_55 : decode cX3_suspects 55 = .ok (.bipush (-6), 2) := by decide +kernel
theorem dX3_suspects_57 : decode cX3_suspects 57 = .ok (.putfield 93, 3) := by decide +kernel
theorem dX3_suspects_60 : decode cX3_suspects 60 = .ok (.iinc 4 1, 3) := by decide +kernel
theorem dX3_suspects_63 : decode cX3_suspects 63 = .ok (.goto (-48), 3) := by decide +kernel
theorem dX3_suspects_66 : decode cX3_suspects 66 = .ok (.iinc 3 1, 3) := by decide +kernel
theorem dX3_suspects_69 : decode cX3_suspects 69 = .ok (.goto (-65), 3) := by decide +kernel
theorem dX3_suspects_72 : decode cX3_suspects 72 = .ok (.iload_n 2, 1) := by decide +kernel
theorem dX3_suspects_73 : decode cX3_suspects 73 = .ok (.ireturn, 1) := by decide +kernel
theorem dX3_suspect_0 : decode cX3_suspect 0 = .ok (.iload_n 1, 1) := by decide +kernel
theorem dX3_suspect_1 : decode cX3_suspect 1 = .ok (.invokestatic 146, 3) := by decide +kernel
theorem dX3_suspect_4 : decode cX3_suspect 4 = .ok (.ifCond .eq 11, 3) := by decide +kernel
theorem dX3_suspect_7 : decode cX3_suspect 7 = .ok (.aload_n 0, 1) := by decide +kernel
theorem dX3_suspect_8 : decode cX3_suspect 8 = .ok (.iload_n 1, 1) := by decide +kernel
theorem dX3_suspect_9 : decode cX3_suspect 9 = .ok (.invokevirtual 212, 3) := by decide +kernel
theorem dX3_suspect_12 : decode cX3_suspect 12 = .ok (.goto 4, 3) := by decide +kernel
theorem dX3_suspect_15 : decode cX3_suspect 15 = .ok (.iconst (-1), 1) := by decide +kernel
theorem dX3_suspect_16 : decode cX3_suspect 16 = .ok (.ireturn, 1) := by decide +kernel
theorem dX3_worst_0 : decode cX3_worst 0 = .ok (.iload_n 1, 1) := by decide +kernel
theorem dX3_worst_1 : decode cX3_worst 1 = .ok (.iconst 0, 1) := by decide +kernel
theorem dX3_worst_2 : decode cX3_worst 2 = .ok (.iconst 1, 1) := by decide +kernel
theorem dX3_worst_3 : decode cX3_worst 3 = .ok (.invokestatic 111, 3) := by decide +kernel
theorem dX3_worst_6 : decode cX3_worst 6 = .ok (.ifCond .ne 6, 3) := by decide +kernel
theorem dX3_worst_9 : decode cX3_worst 9 = .ok (.bipush (-2), 2) := by decide +kernel
theorem dX3_worst_11 : decode cX3_worst 11 = .ok (.ireturn, 1) := by decide +kernel
theorem dX3_worst_12 : decode cX3_worst 12 = .ok (.iconst 0, 1) := by decide +kernel
theorem dX3_worst_13 : decode cX3_worst 13 = .ok (.istore_n 2, 1) := by decide +kernel
theorem dX3_worst_14 : decode cX3_worst 14 = .ok (.iconst (-1), 1) := by decide +kernel
theorem dX3_worst_15 : decode cX3_worst 15 = .ok (.istore_n 3, 1) := by decide +kernel
theorem dX3_worst_16 : decode cX3_worst 16 = .ok (.iconst 0, 1) := by decide +kernel
theorem dX3_worst_17 : decode cX3_worst 17 = .ok (.istore 4, 2) := by decide +kernel
theorem dX3_worst_19 : decode cX3_worst 19 = .ok (.iload 4, 2) := by decide +kernel
theorem dX3_worst_21 : decode cX3_worst 21 = .ok (.bipush 20, 2) := by decide +kernel
theorem dX3_worst_23 : decode cX3_worst 23 = .ok (.if_icmp .ge 43, 3) := by decide +kernel
theorem dX3_worst_26 : decode cX3_worst 26 = .ok (.aload_n 0, 1) := by decide +kernel
theorem dX3_worst_27 : decode cX3_worst 27 = .ok (.iload 4, 2) := by decide +kernel
theorem dX3_worst_29 : decode cX3_worst 29 = .ok (.invokevirtual 212, 3) := by decide +kernel
theorem dX3_worst_32 : decode cX3_worst 32 = .ok (.istore 5, 2) := by decide +kernel
theorem dX3_worst_34 : decode cX3_worst 34 = .ok (.iload 5, 2) := by decide +kernel
theorem dX3_worst_36 : decode cX3_worst 36 = .ok (.iload_n 3, 1) := by decide +kernel
theorem dX3_worst_37 : decode cX3_worst 37 = .ok (.if_icmp .le 8, 3) := by decide +kernel
theorem dX3_worst_40 : decode cX3_worst 40 = .ok (.iload 4, 2) := by decide +kernel
theorem dX3_worst_42 : decode cX3_worst 42 = .ok (.goto 4, 3) := by decide +kernel
theorem dX3_worst_45 : decode cX3_worst 45 = .ok (.iload_n 2, 1) := by decide +kernel
theorem dX3_worst_46 : decode cX3_worst 46 = .ok (.istore_n 2, 1) := by decide +kernel
theorem dX3_worst_47 : decode cX3_worst 47 = .ok (.iload 5, 2) := by decide +kernel
theorem dX3_worst_49 : decode cX3_worst 49 = .ok (.iload_n 3, 1) := by decide +kernel
theorem dX3_worst_50 : decode cX3_worst 50 = .ok (.if_icmp .le 8, 3) := by decide +kernel
theorem dX3_worst_53 : decode cX3_worst 53 = .ok (.iload 5, 2) := by decide +kernel
theorem dX3_worst_55 : decode cX3_worst 55 = .ok (.goto 4, 3) := by decide +kernel
theorem dX3_worst_58 : decode cX3_worst 58 = .ok (.iload_n 3, 1) := by decide +kernel
theorem dX3_worst_59 : decode cX3_worst 59 = .ok (.istore_n 3, 1) := by decide +kernel
theorem dX3_worst_60 : decode cX3_worst 60 = .ok (.iinc 4 1, 3) := by decide +kernel
theorem dX3_worst_63 : decode cX3_worst 63 = .ok (.goto (-44), 3) := by decide +kernel
theorem dX3_worst_66 : decode cX3_worst 66 = .ok (.iload_n 1, 1) := by decide +kernel
theorem dX3_worst_67 : decode cX3_worst 67 = .ok (.ifCond .ne 7, 3) := by decide +kernel
theorem dX3_worst_70 : decode cX3_worst 70 = .ok (.iload_n 2, 1) := by decide +kernel
theorem dX3_worst_71 : decode cX3_worst 71 = .ok (.goto 4, 3) := by decide +kernel
theorem dX3_worst_74 : decode cX3_worst 74 = .ok (.iload_n 3, 1) := by decide +kernel
theorem dX3_worst_75 : decode cX3_worst 75 = .ok (.ireturn, 1) := by decide +kernel
theorem dX3_isSetBy_0 : decode cX3_isSetBy 0 = .ok (.iconst 0, 1) := by decide +kernel
theorem dX3_isSetBy_1 : decode cX3_isSetBy 1 = .ok (.istore 4, 2) := by decide +kernel
theorem dX3_isSetBy_3 : decode cX3_isSetBy 3 = .ok (.iconst 0, 1) := by decide +kernel
theorem dX3_isSetBy_4 : decode cX3_isSetBy 4 = .ok (.istore 5, 2) := by decide +kernel
theorem dX3_isSetBy_6 : decode cX3_isSetBy 6 = .ok (.iload 5, 2) := by decide +kernel
theorem dX3_isSetBy_8 : decode cX3_isSetBy 8 = .ok (.aload_n 0, 1) := by decide +kernel
theorem dX3_isSetBy_9 : decode cX3_isSetBy 9 = .ok (.getfield 45, 3) := by decide +kernel
theorem dX3_isSetBy_12 : decode cX3_isSetBy 12 = .ok (.iload_n 1, 1) := by decide +kernel
theorem dX3_isSetBy_13 : decode cX3_isSetBy 13 = .ok (.iaload, 1) := by decide +kernel
theorem dX3_isSetBy_14 : decode cX3_isSetBy 14 = .ok (.if_icmp .ge 73, 3) := by decide +kernel
theorem dX3_isSetBy_17 : decode cX3_isSetBy 17 = .ok (.bipush 12, 2) := by decide +kernel
theorem dX3_isSetBy_19 : decode cX3_isSetBy 19 = .ok (.iload_n 1, 1) := by decide +kernel
theorem dX3_isSetBy_20 : decode cX3_isSetBy 20 = .ok (.imul, 1) := by decide +kernel
theorem dX3_isSetBy_21 : decode cX3_isSetBy 21 = .ok (.iload 5, 2) := by decide +kernel
theorem dX3_isSetBy_23 : decode cX3_isSetBy 23 = .ok (.iadd, 1) := by decide +kernel
theorem dX3_isSetBy_24 : decode cX3_isSetBy 24 = .ok (.istore 6, 2) := by decide +kernel
theorem dX3_isSetBy_26 : decode cX3_isSetBy 26 = .ok (.iload 4, 2) := by decide +kernel
theorem dX3_isSetBy_28 : decode cX3_isSetBy 28 = .ok (.ifCond .ne 46, 3) := by decide +kernel
theorem dX3_isSetBy_31 : decode cX3_isSetBy 31 = .ok (.aload_n 0, 1) := by decide +kernel
theorem dX3_isSetBy_32 : decode cX3_isSetBy 32 = .ok (.getfield 48, 3) := by decide +kernel
theorem dX3_isSetBy_35 : decode cX3_isSetBy 35 = .ok (.iload 6, 2) := by decide +kernel
theorem dX3_isSetBy_37 : decode cX3_isSetBy 37 = .ok (.iaload, 1) := by decide +kernel
theorem dX3_isSetBy_38 : decode cX3_isSetBy 38 = .ok (.iload_n 2, 1) := by decide +kernel
theorem dX3_isSetBy_39 : decode cX3_isSetBy 39 = .ok (.if_icmp .ne 39, 3) := by decide +kernel
theorem dX3_isSetBy_42 : decode cX3_isSetBy 42 = .ok (.aload_n 0, 1) := by decide +kernel
theorem dX3_isSetBy_43 : decode cX3_isSetBy 43 = .ok (.getfield 54, 3) := by decide +kernel
theorem dX3_isSetBy_46 : decode cX3_isSetBy 46 = .ok (.iload 6, 2) := by decide +kernel
theorem dX3_isSetBy_48 : decode cX3_isSetBy 48 = .ok (.iaload, 1) := by decide +kernel
theorem dX3_isSetBy_49 : decode cX3_isSetBy 49 = .ok (.iconst 3, 1) := by decide +kernel
theorem dX3_isSetBy_50 : decode cX3_isSetBy 50 = .ok (.if_icmp .ge 28, 3) := by decide +kernel
theorem dX3_isSetBy_53 : decode cX3_isSetBy 53 = .ok (.aload_n 0, 1) := by decide +kernel
theorem dX3_isSetBy_54 : decode cX3_isSetBy 54 = .ok (.getfield 51, 3) := by decide +kernel
theorem dX3_isSetBy_57 : decode cX3_isSetBy 57 = .ok (.iload 6, 2) := by decide +kernel
theorem dX3_isSetBy_59 : decode cX3_isSetBy 59 = .ok (.iaload, 1) := by decide +kernel
theorem dX3_isSetBy_60 : decode cX3_isSetBy 60 = .ok (.iload_n 3, 1) := by decide +kernel
theorem dX3_isSetBy_61 : decode cX3_isSetBy 61 = .ok (.if_icmp .ne 17, 3) := by decide +kernel
theorem dX3_isSetBy_64 : decode cX3_isSetBy 64 = .ok (.aload_n 0, 1) := by decide +kernel
theorem dX3_isSetBy_65 : decode cX3_isSetBy 65 = .ok (.iload_n 1, 1) := by decide +kernel
theorem dX3_isSetBy_66 : decode cX3_isSetBy 66 = .ok (.iload 6, 2) := by decide +kernel
theorem dX3_isSetBy_68 : decode cX3_isSetBy 68 = .ok (.invokevirtual 171, 3) := by decide +kernel
theorem dX3_isSetBy_71 : decode cX3_isSetBy 71 = .ok (.ifCond .eq 7, 3) := by decide +kernel
theorem dX3_isSetBy_74 : decode cX3_isSetBy 74 = .ok (.iconst 1, 1) := by decide +kernel
theorem dX3_isSetBy_75 : decode cX3_isSetBy 75 = .ok (.goto 4, 3) := by decide +kernel
theorem dX3_isSetBy_78 : decode cX3_isSetBy 78 = .ok (.iconst 0, 1) := by decide +kernel
theorem dX3_isSetBy_79 : decode cX3_isSetBy 79 = .ok (.istore 4, 2) := by decide +kernel
theorem dX3_isSetBy_81 : decode cX3_isSetBy 81 = .ok (.iinc 5 1, 3) := by decide +kernel
theorem dX3_isSetBy_84 : decode cX3_isSetBy 84 = .ok (.goto (-78), 3) := by decide +kernel
theorem dX3_isSetBy_87 : decode cX3_isSetBy 87 = .ok (.iload 4, 2) := by decide +kernel
theorem dX3_isSetBy_89 : decode cX3_isSetBy 89 = .ok (.ireturn, 1) := by decide +kernel
theorem dX3_allGo_0 : decode cX3_allGo 0 = .ok (.iconst 0, 1) := by decide +kernel
theorem dX3_allGo_1 : decode cX3_allGo 1 = .ok (.istore_n 2, 1) := by decide +kernel
theorem dX3_allGo_2 : decode cX3_allGo 2 = .ok (.iload_n 2, 1) := by decide +kernel
theorem dX3_allGo_3 : decode cX3_allGo 3 = .ok (.aload_n 0, 1) := by decide +kernel
theorem dX3_allGo_4 : decode cX3_allGo 4 = .ok (.getfield 115, 3) := by decide +kernel
theorem dX3_allGo_7 : decode cX3_allGo 7 = .ok (.if_icmp .ge 43, 3) := by decide +kernel
theorem dX3_allGo_10 : decode cX3_allGo 10 = .ok (.iconst 0, 1) := by decide +kernel
theorem dX3_allGo_11 : decode cX3_allGo 11 = .ok (.istore_n 3, 1) := by decide +kernel
theorem dX3_allGo_12 : decode cX3_allGo 12 = .ok (.iload_n 3, 1) := by decide +kernel
theorem dX3_allGo_13 : decode cX3_allGo 13 = .ok (.iconst 3, 1) := by decide +kernel
theorem dX3_allGo_14 : decode cX3_allGo 14 = .ok (.if_icmp .ge 30, 3) := by decide +kernel
theorem dX3_allGo_17 : decode cX3_allGo 17 = .ok (.aload_n 0, 1) := by decide +kernel
theorem dX3_allGo_18 : decode cX3_allGo 18 = .ok (.iload_n 2, 1) := by decide +kernel
theorem dX3_allGo_19 : decode cX3_allGo 19 = .ok (.iload_n 3, 1) := by decide +kernel
theorem dX3_allGo_20 : decode cX3_allGo 20 = .ok (.iload_n 1, 1) := by decide +kernel
theorem dX3_allGo_21 : decode cX3_allGo 21 = .ok (.invokevirtual 215, 3) := by decide +kernel
theorem dX3_allGo_24 : decode cX3_allGo 24 = .ok (.ifCond .eq 14, 3) := by decide +kernel
theorem dX3_allGo_27 : decode cX3_allGo 27 = .ok (.aload_n 0, 1) := by decide +kernel
theorem dX3_allGo_28 : decode cX3_allGo 28 = .ok (.iload_n 2, 1) := by decide +kernel
theorem dX3_allGo_29 : decode cX3_allGo 29 = .ok (.iload_n 3, 1) := by decide +kernel
theorem dX3_allGo_30 : decode cX3_allGo 30 = .ok (.invokevirtual 175, 3) := by decide +kernel
theorem dX3_allGo_33 : decode cX3_allGo 33 = .ok (.ifCond .ne 5, 3) := by decide +kernel
theorem dX3_allGo_36 : decode cX3_allGo 36 = .ok (.iconst 0, 1) := by decide +kernel
theorem dX3_allGo_37 : decode cX3_allGo 37 = .ok (.ireturn, 1) := by decide +kernel
theorem dX3_allGo_38 : decode cX3_allGo 38 = .ok (.iinc 3 1, 3) := by decide +kernel
theorem dX3_allGo_41 : decode cX3_allGo 41 = .ok (.goto (-29), 3) := by decide +kernel
theorem dX3_allGo_44 : decode cX3_allGo 44 = .ok (.iinc 2 1, 3) := by decide +kernel
theorem dX3_allGo_47 : decode cX3_allGo 47 = .ok (.goto (-45), 3) := by decide +kernel
theorem dX3_allGo_50 : decode cX3_allGo 50 = .ok (.iconst 1, 1) := by decide +kernel
theorem dX3_allGo_51 : decode cX3_allGo 51 = .ok (.ireturn, 1) := by decide +kernel
theorem dX3_slipped_0 : decode cX3_slipped 0 = .ok (.iload_n 1, 1) := by decide +kernel
theorem dX3_slipped_1 : decode cX3_slipped 1 = .ok (.invokestatic 146, 3) := by decide +kernel
theorem dX3_slipped_4 : decode cX3_slipped 4 = .ok (.ifCond .ne 6, 3) := by decide +kernel
theorem dX3_slipped_7 : decode cX3_slipped 7 = .ok (.ldc 150, 2) := by decide +kernel
theorem dX3_slipped_9 : decode cX3_slipped 9 = .ok (.ireturn, 1) := by decide +kernel
theorem dX3_slipped_10 : decode cX3_slipped 10 = .ok (.iload_n 2, 1) := by decide +kernel
theorem dX3_slipped_11 : decode cX3_slipped 11 = .ok (.invokestatic 151, 3) := by decide +kernel
theorem dX3_slipped_14 : decode cX3_slipped 14 = .ok (.ifCond .ne 6, 3) := by decide +kernel
theorem dX3_slipped_17 : decode cX3_slipped 17 = .ok (.ldc 154, 2) := by decide +kernel
theorem dX3_slipped_19 : decode cX3_slipped 19 = .ok (.ireturn, 1) := by decide +kernel
theorem dX3_slipped_20 : decode cX3_slipped 20 = .ok (.aload_n 0, 1) := by decide +kernel
theorem dX3_slipped_21 : decode cX3_slipped 21 = .ok (.getfield 35, 3) := by decide +kernel
theorem dX3_slipped_24 : decode cX3_slipped 24 = .ok (.iload_n 1, 1) := by decide +kernel
theorem dX3_slipped_25 : decode cX3_slipped 25 = .ok (.iaload, 1) := by decide +kernel
theorem dX3_slipped_26 : decode cX3_slipped 26 = .ok (.istore_n 3, 1) := by decide +kernel
theorem dX3_slipped_27 : decode cX3_slipped 27 = .ok (.ldc 218, 2) := by decide +kernel
theorem dX3_slipped_29 : decode cX3_slipped 29 = .ok (.istore 4, 2) := by decide +kernel
theorem dX3_slipped_31 : decode cX3_slipped 31 = .ok (.iconst 0, 1) := by decide +kernel
theorem dX3_slipped_32 : decode cX3_slipped 32 = .ok (.istore 5, 2) := by decide +kernel
theorem dX3_slipped_34 : decode cX3_slipped 34 = .ok (.iload 5, 2) := by decide +kernel
theorem dX3_slipped_36 : decode cX3_slipped 36 = .ok (.bipush 121, 2) := by decide +kernel
theorem dX3_slipped_38 : decode cX3_slipped 38 = .ok (.if_icmp .ge 60, 3) := by decide +kernel
theorem dX3_slipped_41 : decode cX3_slipped 41 = .ok (.iload 4, 2) := by decide +kernel
theorem dX3_slipped_43 : decode cX3_slipped 43 = .ok (.ldc 218, 2) := by decide +kernel
theorem dX3_slipped_45 : decode cX3_slipped 45 = .ok (.if_icmp .ne 53, 3) := by decide +kernel
theorem dX3_slipped_48 : decode cX3_slipped 48 = .ok (.iload_n 2, 1) := by decide +kernel
theorem dX3_slipped_49 : decode cX3_slipped 49 = .ok (.ifCond .ne 11, 3) := by decide +kernel
theorem dX3_slipped_52 : decode cX3_slipped 52 = .ok (.iload 5, 2) := by decide +kernel
theorem dX3_slipped_54 : decode cX3_slipped 54 = .ok (.bipush 60, 2) := by decide +kernel
theorem dX3_slipped_56 : decode cX3_slipped 56 = .ok (.isub, 1) := by decide +kernel
theorem dX3_slipped_57 : decode cX3_slipped 57 = .ok (.goto 8, 3) := by decide +kernel
theorem dX3_slipped_60 : decode cX3_slipped 60 = .ok (.bipush 60, 2) := by decide +kernel
theorem dX3_slipped_62 : decode cX3_slipped 62 = .ok (.iload 5, 2) := by decide +kernel
theorem dX3_slipped_64 : decode cX3_slipped 64 = .ok (.isub, 1) := by decide +kernel
theorem dX3_slipped_65 : decode cX3_slipped 65 = .ok (.istore 6, 2) := by decide +kernel
theorem dX3_slipped_67 : decode cX3_slipped 67 = .ok (.aload_n 0, 1) := by decide +kernel
theorem dX3_slipped_68 : decode cX3_slipped 68 = .ok (.getfield 35, 3) := by decide +kernel
theorem dX3_slipped_71 : decode cX3_slipped 71 = .ok (.iload_n 1, 1) := by decide +kernel
theorem dX3_slipped_72 : decode cX3_slipped 72 = .ok (.iload 6, 2) := by decide +kernel
theorem dX3_slipped_74 : decode cX3_slipped 74 = .ok (.iastore, 1) := by decide +kernel
theorem dX3_slipped_75 : decode cX3_slipped 75 = .ok (.aload_n 0, 1) := by decide +kernel
theorem dX3_slipped_76 : decode cX3_slipped 76 = .ok (.iload_n 1, 1) := by decide +kernel
theorem dX3_slipped_77 : decode cX3_slipped 77 = .ok (.invokevirtual 219, 3) := by decide +kernel
theorem dX3_slipped_80 : decode cX3_slipped 80 = .ok (.ifCond .eq 8, 3) := by decide +kernel
theorem dX3_slipped_83 : decode cX3_slipped 83 = .ok (.iload 6, 2) := by decide +kernel
theorem dX3_slipped_85 : decode cX3_slipped 85 = .ok (.goto 5, 3) := by decide +kernel
theorem dX3_slipped_88 : decode cX3_slipped 88 = .ok (.iload 4, 2) := by decide +kernel
theorem dX3_slipped_90 : decode cX3_slipped 90 = .ok (.istore 4, 2) := by decide +kernel
theorem dX3_slipped_92 : decode cX3_slipped 92 = .ok (.iinc 5 1, 3) := by decide +kernel
theorem dX3_slipped_95 : decode cX3_slipped 95 = .ok (.goto (-61), 3) := by decide +kernel
theorem dX3_slipped_98 : decode cX3_slipped 98 = .ok (.aload_n 0, 1) := by decide +kernel
theorem dX3_slipped_99 : decode cX3_slipped 99 = .ok (.getfield 35, 3) := by decide +kernel
theorem dX3_slipped_102 : decode cX3_slipped 102 = .ok (.iload_n 1, 1) := by decide +kernel
theorem dX3_slipped_103 : decode cX3_slipped 103 = .ok (.iload_n 3, 1) := by decide +kernel
theorem dX3_slipped_104 : decode cX3_slipped 104 = .ok (.iastore, 1) := by decide +kernel
theorem dX3_slipped_105 : decode cX3_slipped 105 = .ok (.iload 4, 2) := by decide +kernel
theorem dX3_slipped_107 : decode cX3_slipped 107 = .ok (.ireturn, 1) := by decide +kernel
theorem dX3_isMarked_0 : decode cX3_isMarked 0 = .ok (.iconst 0, 1) := by decide +kernel
theorem dX3_isMarked_1 : decode cX3_isMarked 1 = .ok (.istore_n 3, 1) := by decide +kernel
theorem dX3_isMarked_2 : decode cX3_isMarked 2 = .ok (.iconst 0, 1) := by decide +kernel
theorem dX3_isMarked_3 : decode cX3_isMarked 3 = .ok (.istore 4, 2) := by decide +kernel
theorem dX3_isMarked_5 : decode cX3_isMarked 5 = .ok (.iload 4, 2) := by decide +kernel
theorem dX3_isMarked_7 : decode cX3_isMarked 7 = .ok (.aload_n 0, 1) := by decide +kernel
theorem dX3_isMarked_8 : decode cX3_isMarked 8 = .ok (.getfield 45, 3) := by decide +kernel
theorem dX3_isMarked_11 : decode cX3_isMarked 11 = .ok (.iload_n 1, 1) := by decide +kernel
theorem dX3_isMarked_12 : decode cX3_isMarked 12 = .ok (.iaload, 1) := by decide +kernel
theorem dX3_isMarked_13 : decode cX3_isMarked 13 = .ok (.if_icmp .ge 49, 3) := by decide +kernel
theorem dX3_isMarked_16 : decode cX3_isMarked 16 = .ok (.bipush 12, 2) := by decide +kernel
theorem dX3_isMarked_18 : decode cX3_isMarked 18 = .ok (.iload_n 1, 1) := by decide +kernel
theorem dX3_isMarked_19 : decode cX3_isMarked 19 = .ok (.imul, 1) := by decide +kernel
theorem dX3_isMarked_20 : decode cX3_isMarked 20 = .ok (.iload 4, 2) := by decide +kernel
theorem dX3_isMarked_22 : decode cX3_isMarked 22 = .ok (.iadd, 1) := by decide +kernel
theorem dX3_isMarked_23 : decode cX3_isMarked 23 = .ok (.istore 5, 2) := by decide +kernel
theorem dX3_isMarked_25 : decode cX3_isMarked 25 = .ok (.iload_n 3, 1) := by decide +kernel
theorem dX3_isMarked_26 : decode cX3_isMarked 26 = .ok (.ifCond .ne 24, 3) := by decide +kernel
theorem dX3_isMarked_29 : decode cX3_isMarked 29 = .ok (.aload_n 0, 1) := by decide +kernel
theorem dX3_isMarked_30 : decode cX3_isMarked 30 = .ok (.getfield 48, 3) := by decide +kernel
theorem dX3_isMarked_33 : decode cX3_isMarked 33 = .ok (.iload 5, 2) := by decide +kernel
theorem dX3_isMarked_35 : decode cX3_isMarked 35 = .ok (.iaload, 1) := by decide +kernel
theorem dX3_isMarked_36 : decode cX3_isMarked 36 = .ok (.iload_n 2, 1) := by decide +kernel
theorem dX3_isMarked_37 : decode cX3_isMarked 37 = .ok (.if_icmp .ne 17, 3) := by decide +kernel
theorem dX3_isMarked_40 : decode cX3_isMarked 40 = .ok (.aload_n 0, 1) := by decide +kernel
theorem dX3_isMarked_41 : decode cX3_isMarked 41 = .ok (.iload_n 1, 1) := by decide +kernel
theorem dX3_isMarked_42 : decode cX3_isMarked 42 = .ok (.iload 5, 2) := by decide +kernel
theorem dX3_isMarked_44 : decode cX3_isMarked 44 = .ok (.invokevirtual 171, 3) := by decide +kernel
theorem dX3_isMarked_47 : decode cX3_isMarked 47 = .ok (.ifCond .eq 7, 3) := by decide +kernel
theorem dX3_isMarked_50 : decode cX3_isMarked 50 = .ok (.iconst 1, 1) := by decide +kernel
theorem dX3_isMarked_51 : decode cX3_isMarked 51 = .ok (.goto 4, 3) := by decide +kernel
theorem dX3_isMarked_54 : decode cX3_isMarked 54 = .ok (.iconst 0, 1) := by decide +kernel
theorem dX3_isMarked_55 : decode cX3_isMarked 55 = .ok (.istore_n 3, 1) := by decide +kernel
theorem dX3_isMarked_56 : decode cX3_isMarked 56 = .ok (.iinc 4 1, 3) := by decide +kernel
theorem dX3_isMarked_59 : decode cX3_isMarked 59 = .ok (.goto (-54), 3) := by decide +kernel
theorem dX3_isMarked_62 : decode cX3_isMarked 62 = .ok (.iload_n 3, 1) := by decide +kernel
theorem dX3_isMarked_63 : decode cX3_isMarked 63 = .ok (.ireturn, 1) := by decide +kernel
theorem dX3_ask_0 : decode cX3_ask 0 = .ok (.iload_n 1, 1) := by decide +kernel
theorem dX3_ask_1 : decode cX3_ask 1 = .ok (.invokestatic 146, 3) := by decide +kernel
theorem dX3_ask_4 : decode cX3_ask 4 = .ok (.ifCond .ne 5, 3) := by decide +kernel
theorem dX3_ask_7 : decode cX3_ask 7 = .ok (.iconst (-1), 1) := by decide +kernel
theorem dX3_ask_8 : decode cX3_ask 8 = .ok (.ireturn, 1) := by decide +kernel
theorem dX3_ask_9 : decode cX3_ask 9 = .ok (.bipush (-6), 2) := by decide +kernel
theorem dX3_ask_11 : decode cX3_ask 11 = .ok (.istore_n 2, 1) := by decide +kernel
theorem dX3_ask_12 : decode cX3_ask 12 = .ok (.iconst 0, 1) := by decide +kernel
theorem dX3_ask_13 : decode cX3_ask 13 = .ok (.istore_n 3, 1) := by decide +kernel
theorem dX3_ask_14 : decode cX3_ask 14 = .ok (.iconst 0, 1) := by decide +kernel
theorem dX3_ask_15 : decode cX3_ask 15 = .ok (.istore 4, 2) := by decide +kernel
theorem dX3_ask_17 : decode cX3_ask 17 = .ok (.iload 4, 2) := by decide +kernel
theorem dX3_ask_19 : decode cX3_ask 19 = .ok (.aload_n 0, 1) := by decide +kernel
theorem dX3_ask_20 : decode cX3_ask 20 = .ok (.getfield 115, 3) := by decide +kernel
theorem dX3_ask_23 : decode cX3_ask 23 = .ok (.if_icmp .ge 90, 3) := by decide +kernel
theorem dX3_ask_26 : decode cX3_ask 26 = .ok (.iconst 0, 1) := by decide +kernel
theorem dX3_ask_27 : decode cX3_ask 27 = .ok (.istore 5, 2) := by decide +kernel
theorem dX3_ask_29 : decode cX3_ask 29 = .ok (.iload 5, 2) := by decide +kernel
theorem dX3_ask_31 : decode cX3_ask 31 = .ok (.iconst 3, 1) := by decide +kernel
theorem dX3_ask_32 : decode cX3_ask 32 = .ok (.if_icmp .ge 75, 3) := by decide +kernel
theorem dX3_ask_35 : decode cX3_ask 35 = .ok (.aload_n 0, 1) := by decide +kernel
theorem dX3_ask_36 : decode cX3_ask 36 = .ok (.iload 4, 2) := by decide +kernel
theorem dX3_ask_38 : decode cX3_ask 38 = .ok (.iload 5, 2) := by decide +kernel
theorem dX3_ask_40 : decode cX3_ask 40 = .ok (.invokevirtual 222, 3) := by decide +kernel
theorem dX3_ask_43 : decode cX3_ask 43 = .ok (.ifCond .eq 58, 3) := by decide +kernel
theorem dX3_ask_46 : decode cX3_ask 46 = .ok (.aload_n 0, 1) := by decide +kernel
theorem dX3_ask_47 : decode cX3_ask 47 = .ok (.iload 4, 2) := by decide +kernel
theorem dX3_ask_49 : decode cX3_ask 49 = .ok (.iload 5, 2) := by decide +kernel
theorem dX3_ask_51 : decode cX3_ask 51 = .ok (.invokevirtual 175, 3) := by decide +kernel
theorem dX3_ask_54 : decode cX3_ask 54 = .ok (.ifCond .eq 47, 3) := by decide +kernel
theorem dX3_ask_57 : decode cX3_ask 57 = .ok (.iload_n 2, 1) := by decide +kernel
theorem dX3_ask_58 : decode cX3_ask 58 = .ok (.ifCond .lt 20, 3) := by decide +kernel
theorem dX3_ask_61 : decode cX3_ask 61 = .ok (.aload_n 0, 1) := by decide +kernel
theorem dX3_ask_62 : decode cX3_ask 62 = .ok (.getfield 87, 3) := by decide +kernel
theorem dX3_ask_65 : decode cX3_ask 65 = .ok (.iload_n 1, 1) := by decide +kernel
theorem dX3_ask_66 : decode cX3_ask 66 = .ok (.iaload, 1) := by decide +kernel
theorem dX3_ask_67 : decode cX3_ask 67 = .ok (.aload_n 0, 1) := by decide +kernel
theorem dX3_ask_68 : decode cX3_ask 68 = .ok (.getfield 84, 3) := by decide +kernel
theorem dX3_ask_71 : decode cX3_ask 71 = .ok (.iload_n 1, 1) := by decide +kernel
theorem dX3_ask_72 : decode cX3_ask 72 = .ok (.iaload, 1) := by decide +kernel
theorem dX3_ask_73 : decode cX3_ask 73 = .ok (.isub, 1) := by decide +kernel
theorem dX3_ask_74 : decode cX3_ask 74 = .ok (.iload_n 3, 1) := by decide +kernel
theorem dX3_ask_75 : decode cX3_ask 75 = .ok (.if_icmp .ge 26, 3) := by decide +kernel
theorem dX3_ask_78 : decode cX3_ask 78 = .ok (.bipush 10, 2) := by decide +kernel
theorem dX3_ask_80 : decode cX3_ask 80 = .ok (.iload 4, 2) := by decide +kernel
theorem dX3_ask_82 : decode cX3_ask 82 = .ok (.imul, 1) := by decide +kernel
theorem dX3_ask_83 : decode cX3_ask 83 = .ok (.iload 5, 2) := by decide +kernel
theorem dX3_ask_85 : decode cX3_ask 85 = .ok (.iadd, 1) := by decide +kernel
theorem dX3_ask_86 : decode cX3_ask 86 = .ok (.istore_n 2, 1) := by decide +kernel
theorem dX3_ask_87 : decode cX3_ask 87 = .ok (.aload_n 0, 1) := by decide +kernel
theorem dX3_ask_88 : decode cX3_ask 88 = .ok (.getfield 87, 3) := by decide +kernel
theorem dX3_ask_91 : decode cX3_ask 91 = .ok (.iload_n 1, 1) := by decide +kernel
theorem dX3_ask_92 : decode cX3_ask 92 = .ok (.iaload, 1) := by decide +kernel
theorem dX3_ask_93 : decode cX3_ask 93 = .ok (.aload_n 0, 1) := by decide +kernel
theorem dX3_ask_94 : decode cX3_ask 94 = .ok (.getfield 84, 3) := by decide +kernel
theorem dX3_ask_97 : decode cX3_ask 97 = .ok (.iload_n 1, 1) := by decide +kernel
theorem dX3_ask_98 : decode cX3_ask 98 = .ok (.iaload, 1) := by decide +kernel
theorem dX3_ask_99 : decode cX3_ask 99 = .ok (.isub, 1) := by decide +kernel
theorem dX3_ask_100 : decode cX3_ask 100 = .ok (.istore_n 3, 1) := by decide +kernel
theorem dX3_ask_101 : decode cX3_ask 101 = .ok (.iinc 5 1, 3) := by decide +kernel
theorem dX3_ask_104 : decode cX3_ask 104 = .ok (.goto (-75), 3) := by decide +kernel
theorem dX3_ask_107 : decode cX3_ask 107 = .ok (.iinc 4 1, 3) := by decide +kernel
theorem dX3_ask_110 : decode cX3_ask 110 = .ok (.goto (-93), 3) := by decide +kernel
theorem dX3_ask_113 : decode cX3_ask 113 = .ok (.iload_n 2, 1) := by decide +kernel
theorem dX3_ask_114 : decode cX3_ask 114 = .ok (.ireturn, 1) := by decide +kernel
theorem dX3_carry_0 : decode cX3_carry 0 = .ok (.iload_n 1, 1) := by decide +kernel
theorem dX3_carry_1 : decode cX3_carry 1 = .ok (.iconst 0, 1) := by decide +kernel
theorem dX3_carry_2 : decode cX3_carry 2 = .ok (.iconst 3, 1) := by decide +kernel
theorem dX3_carry_3 : decode cX3_carry 3 = .ok (.invokestatic 111, 3) := by decide +kernel
theorem dX3_carry_6 : decode cX3_carry 6 = .ok (.ifCond .eq 14, 3) := by decide +kernel
theorem dX3_carry_9 : decode cX3_carry 9 = .ok (.aload_n 0, 1) := by decide +kernel
theorem dX3_carry_10 : decode cX3_carry 10 = .ok (.iload_n 2, 1) := by decide +kernel
theorem dX3_carry_11 : decode cX3_carry 11 = .ok (.iload_n 3, 1) := by decide +kernel
theorem dX3_carry_12 : decode cX3_carry 12 = .ok (.iload 4, 2) := by decide +kernel
theorem dX3_carry_14 : decode cX3_carry 14 = .ok (.invokevirtual 164, 3) := by decide +kernel
theorem dX3_carry_17 : decode cX3_carry 17 = .ok (.ifCond .ne 5, 3) := by decide +kernel
theorem dX3_carry_20 : decode cX3_carry 20 = .ok (.iconst (-1), 1) := by decide +kernel
theorem dX3_carry_21 : decode cX3_carry 21 = .ok (.ireturn, 1) := by decide +kernel
theorem dX3_carry_22 : decode cX3_carry 22 = .ok (.iload 5, 2) := by decide +kernel
theorem dX3_carry_24 : decode cX3_carry 24 = .ok (.sipush (-9999), 3) := by decide +kernel
theorem dX3_carry_27 : decode cX3_carry 27 = .ok (.sipush 9999, 3) := by decide +kernel
theorem dX3_carry_30 : decode cX3_carry 30 = .ok (.invokestatic 111, 3) := by decide +kernel
theorem dX3_carry_33 : decode cX3_carry 33 = .ok (.ifCond .ne 6, 3) := by decide +kernel
theorem dX3_carry_36 : decode cX3_carry 36 = .ok (.bipush (-2), 2) := by decide +kernel
theorem dX3_carry_38 : decode cX3_carry 38 = .ok (.ireturn, 1) := by decide +kernel
theorem dX3_carry_39 : decode cX3_carry 39 = .ok (.aload_n 0, 1) := by decide +kernel
theorem dX3_carry_40 : decode cX3_carry 40 = .ok (.iload_n 2, 1) := by decide +kernel
theorem dX3_carry_41 : decode cX3_carry 41 = .ok (.iload_n 3, 1) := by decide +kernel
theorem dX3_carry_42 : decode cX3_carry 42 = .ok (.invokevirtual 175, 3) := by decide +kernel
theorem dX3_carry_45 : decode cX3_carry 45 = .ok (.ifCond .ne 6, 3) := by decide +kernel
theorem dX3_carry_48 : decode cX3_carry 48 = .ok (.bipush (-3), 2) := by decide +kernel
theorem dX3_carry_50 : decode cX3_carry 50 = .ok (.ireturn, 1) := by decide +kernel
theorem dX3_carry_51 : decode cX3_carry 51 = .ok (.iload 5, 2) := by decide +kernel
theorem dX3_carry_53 : decode cX3_carry 53 = .ok (.aload_n 0, 1) := by decide +kernel
theorem dX3_carry_54 : decode cX3_carry 54 = .ok (.getfield 87, 3) := by decide +kernel
theorem dX3_carry_57 : decode cX3_carry 57 = .ok (.iload 4, 2) := by decide +kernel
theorem dX3_carry_59 : decode cX3_carry 59 = .ok (.iaload, 1) := by decide +kernel
theorem dX3_carry_60 : decode cX3_carry 60 = .ok (.isub, 1) := by decide +kernel
theorem dX3_carry_61 : decode cX3_carry 61 = .ok (.iconst 2, 1) := by decide +kernel
theorem dX3_carry_62 : decode cX3_carry 62 = .ok (.isub, 1) := by decide +kernel
theorem dX3_carry_63 : decode cX3_carry 63 = .ok (.istore 6, 2) := by decide +kernel
theorem dX3_carry_65 : decode cX3_carry 65 = .ok (.iload 5, 2) := by decide +kernel
theorem dX3_carry_67 : decode cX3_carry 67 = .ok (.aload_n 0, 1) := by decide +kernel
theorem dX3_carry_68 : decode cX3_carry 68 = .ok (.getfield 84, 3) := by decide +kernel
theorem dX3_carry_71 : decode cX3_carry 71 = .ok (.iload 4, 2) := by decide +kernel
theorem dX3_carry_73 : decode cX3_carry 73 = .ok (.iaload, 1) := by decide +kernel
theorem dX3_carry_74 : decode cX3_carry 74 = .ok (.isub, 1) := by decide +kernel
theorem dX3_carry_75 : decode cX3_carry 75 = .ok (.iconst 2, 1) := by decide +kernel
theorem dX3_carry_76 : decode cX3_carry 76 = .ok (.iadd, 1) := by decide +kernel
theorem dX3_carry_77 : decode cX3_carry 77 = .ok (.istore 7, 2) := by decide +kernel
theorem dX3_carry_79 : decode cX3_carry 79 = .ok (.iload 6, 2) := by decide +kernel
theorem dX3_carry_81 : decode cX3_carry 81 = .ok (.aload_n 0, 1) := by decide +kernel
theorem dX3_carry_82 : decode cX3_carry 82 = .ok (.getfield 78, 3) := by decide +kernel
theorem dX3_carry_85 : decode cX3_carry 85 = .ok (.iload_n 1, 1) := by decide +kernel
theorem dX3_carry_86 : decode cX3_carry 86 = .ok (.iaload, 1) := by decide +kernel
theorem dX3_carry_87 : decode cX3_carry 87 = .ok (.if_icmp .le 8, 3) := by decide +kernel
theorem dX3_carry_90 : decode cX3_carry 90 = .ok (.iload 6, 2) := by decide +kernel
theorem dX3_carry_92 : decode cX3_carry 92 = .ok (.goto 9, 3) := by decide +kernel
theorem dX3_carry_95 : decode cX3_carry 95 = .ok (.aload_n 0, 1) := by decide +kernel
theorem dX3_carry_96 : decode cX3_carry 96 = .ok (.getfield 78, 3) := by decide +kernel
theorem dX3_carry_99 : decode cX3_carry 99 = .ok (.iload_n 1, 1) := by decide +kernel
theorem dX3_carry_100 : decode cX3_carry 100 = .ok (.iaload, 1) := by decide +kernel
theorem dX3_carry_101 : decode cX3_carry 101 = .ok (.istore 6, 2) := by decide +kernel
theorem dX3_carry_103 : decode cX3_carry 103 = .ok (.iload 7, 2) := by decide +kernel
theorem dX3_carry_105 : decode cX3_carry 105 = .ok (.aload_n 0, 1) := by decide +kernel
theorem dX3_carry_106 : decode cX3_carry 106 = .ok (.getfield 81, 3) := by decide +kernel
theorem dX3_carry_109 : decode cX3_carry 109 = .ok (.iload_n 1, 1) := by decide +kernel
theorem dX3_carry_110 : decode cX3_carry 110 = .ok (.iaload, 1) := by decide +kernel
theorem dX3_carry_111 : decode cX3_carry 111 = .ok (.if_icmp .ge 8, 3) := by decide +kernel
theorem dX3_carry_114 : decode cX3_carry 114 = .ok (.iload 7, 2) := by decide +kernel
theorem dX3_carry_116 : decode cX3_carry 116 = .ok (.goto 9, 3) := by decide +kernel
theorem dX3_carry_119 : decode cX3_carry 119 = .ok (.aload_n 0, 1) := by decide +kernel
theorem dX3_carry_120 : decode cX3_carry 120 = .ok (.getfield 81, 3) := by decide +kernel
theorem dX3_carry_123 : decode cX3_carry 123 = .ok (.iload_n 1, 1) := by decide +kernel
theorem dX3_carry_124 : decode cX3_carry 124 = .ok (.iaload, 1) := by decide +kernel
theorem dX3_carry_125 : decode cX3_carry 125 = .ok (.istore 7, 2) := by decide +kernel
theorem dX3_carry_127 : decode cX3_carry 127 = .ok (.iload 6, 2) := by decide +kernel
theorem dX3_carry_129 : decode cX3_carry 129 = .ok (.iload 7, 2) := by decide +kernel
theorem dX3_carry_131 : decode cX3_carry 131 = .ok (.if_icmp .le 6, 3) := by decide +kernel
theorem dX3_carry_134 : decode cX3_carry 134 = .ok (.bipush (-5), 2) := by decide +kernel
theorem dX3_carry_136 : decode cX3_carry 136 = .ok (.ireturn, 1) := by decide +kernel
theorem dX3_carry_137 : decode cX3_carry 137 = .ok (.aload_n 0, 1) := by decide +kernel
theorem dX3_carry_138 : decode cX3_carry 138 = .ok (.getfield 78, 3) := by decide +kernel
theorem dX3_carry_141 : decode cX3_carry 141 = .ok (.iload_n 1, 1) := by decide +kernel
theorem dX3_carry_142 : decode cX3_carry 142 = .ok (.iload 6, 2) := by decide +kernel
theorem dX3_carry_144 : decode cX3_carry 144 = .ok (.iastore, 1) := by decide +kernel
theorem dX3_carry_145 : decode cX3_carry 145 = .ok (.aload_n 0, 1) := by decide +kernel
theorem dX3_carry_146 : decode cX3_carry 146 = .ok (.getfield 81, 3) := by decide +kernel
theorem dX3_carry_149 : decode cX3_carry 149 = .ok (.iload_n 1, 1) := by decide +kernel
theorem dX3_carry_150 : decode cX3_carry 150 = .ok (.iload 7, 2) := by decide +kernel
theorem dX3_carry_152 : decode cX3_carry 152 = .ok (.iastore, 1) := by decide +kernel
theorem dX3_carry_153 : decode cX3_carry 153 = .ok (.iconst 1, 1) := by decide +kernel
theorem dX3_carry_154 : decode cX3_carry 154 = .ok (.ireturn, 1) := by decide +kernel
theorem dX3_port_0 : decode cX3_port 0 = .ok (.iload_n 1, 1) := by decide +kernel
theorem dX3_port_1 : decode cX3_port 1 = .ok (.iconst 0, 1) := by decide +kernel
theorem dX3_port_2 : decode cX3_port 2 = .ok (.iconst 3, 1) := by decide +kernel
theorem dX3_port_3 : decode cX3_port 3 = .ok (.invokestatic 111, 3) := by decide +kernel
theorem dX3_port_6 : decode cX3_port 6 = .ok (.ifCond .ne 6, 3) := by decide +kernel
theorem dX3_port_9 : decode cX3_port 9 = .ok (.ldc 150, 2) := by decide +kernel
theorem dX3_port_11 : decode cX3_port 11 = .ok (.ireturn, 1) := by decide +kernel
theorem dX3_port_12 : decode cX3_port 12 = .ok (.iload_n 2, 1) := by decide +kernel
theorem dX3_port_13 : decode cX3_port 13 = .ok (.invokestatic 151, 3) := by decide +kernel
theorem dX3_port_16 : decode cX3_port 16 = .ok (.ifCond .ne 8, 3) := by decide +kernel
theorem dX3_port_19 : decode cX3_port 19 = .ok (.ldc 154, 2) := by decide +kernel
theorem dX3_port_21 : decode cX3_port 21 = .ok (.goto 22, 3) := by decide +kernel
theorem dX3_port_24 : decode cX3_port 24 = .ok (.iload_n 2, 1) := by decide +kernel
theorem dX3_port_25 : decode cX3_port 25 = .ok (.ifCond .ne 12, 3) := by decide +kernel
theorem dX3_port_28 : decode cX3_port 28 = .ok (.aload_n 0, 1) := by decide +kernel
theorem dX3_port_29 : decode cX3_port 29 = .ok (.getfield 78, 3) := by decide +kernel
theorem dX3_port_32 : decode cX3_port 32 = .ok (.iload_n 1, 1) := by decide +kernel
theorem dX3_port_33 : decode cX3_port 33 = .ok (.iaload, 1) := by decide +kernel
theorem dX3_port_34 : decode cX3_port 34 = .ok (.goto 9, 3) := by decide +kernel
theorem dX3_port_37 : decode cX3_port 37 = .ok (.aload_n 0, 1) := by decide +kernel
theorem dX3_port_38 : decode cX3_port 38 = .ok (.getfield 81, 3) := by decide +kernel
theorem dX3_port_41 : decode cX3_port 41 = .ok (.iload_n 1, 1) := by decide +kernel
theorem dX3_port_42 : decode cX3_port 42 = .ok (.iaload, 1) := by decide +kernel
theorem dX3_port_43 : decode cX3_port 43 = .ok (.ireturn, 1) := by decide +kernel
theorem dX3_told_0 : decode cX3_told 0 = .ok (.iconst 0, 1) := by decide +kernel
theorem dX3_told_1 : decode cX3_told 1 = .ok (.istore_n 2, 1) := by decide +kernel
theorem dX3_told_2 : decode cX3_told 2 = .ok (.iconst 0, 1) := by decide +kernel
theorem dX3_told_3 : decode cX3_told 3 = .ok (.istore_n 3, 1) := by decide +kernel
theorem dX3_told_4 : decode cX3_told 4 = .ok (.iload_n 3, 1) := by decide +kernel
theorem dX3_told_5 : decode cX3_told 5 = .ok (.bipush 20, 2) := by decide +kernel
theorem dX3_told_7 : decode cX3_told 7 = .ok (.if_icmp .ge 28, 3) := by decide +kernel
theorem dX3_told_10 : decode cX3_told 10 = .ok (.iload_n 2, 1) := by decide +kernel
theorem dX3_told_11 : decode cX3_told 11 = .ok (.aload_n 0, 1) := by decide +kernel
theorem dX3_told_12 : decode cX3_told 12 = .ok (.getfield 38, 3) := by decide +kernel
theorem dX3_told_15 : decode cX3_told 15 = .ok (.iload_n 3, 1) := by decide +kernel
theorem dX3_told_16 : decode cX3_told 16 = .ok (.baload, 1) := by decide +kernel
theorem dX3_told_17 : decode cX3_told 17 = .ok (.ifCond .eq 9, 3) := by decide +kernel
theorem dX3_told_20 : decode cX3_told 20 = .ok (.iconst 1, 1) := by decide +kernel
theorem dX3_told_21 : decode cX3_told 21 = .ok (.iload_n 3, 1) := by decide +kernel
theorem dX3_told_22 : decode cX3_told 22 = .ok (.ishl, 1) := by decide +kernel
theorem dX3_told_23 : decode cX3_told 23 = .ok (.goto 4, 3) := by decide +kernel
theorem dX3_told_26 : decode cX3_told 26 = .ok (.iconst 0, 1) := by decide +kernel
theorem dX3_told_27 : decode cX3_told 27 = .ok (.ior, 1) := by decide +kernel
theorem dX3_told_28 : decode cX3_told 28 = .ok (.istore_n 2, 1) := by decide +kernel
theorem dX3_told_29 : decode cX3_told 29 = .ok (.iinc 3 1, 3) := by decide +kernel
theorem dX3_told_32 : decode cX3_told 32 = .ok (.goto (-28), 3) := by decide +kernel
theorem dX3_told_35 : decode cX3_told 35 = .ok (.iload_n 1, 1) := by decide +kernel
theorem dX3_told_36 : decode cX3_told 36 = .ok (.iconst 4, 1) := by decide +kernel
theorem dX3_told_37 : decode cX3_told 37 = .ok (.bipush 7, 2) := by decide +kernel
theorem dX3_told_39 : decode cX3_told 39 = .ok (.invokestatic 111, 3) := by decide +kernel
theorem dX3_told_42 : decode cX3_told 42 = .ok (.ifCond .eq 27, 3) := by decide +kernel
theorem dX3_told_45 : decode cX3_told 45 = .ok (.aload_n 0, 1) := by decide +kernel
theorem dX3_told_46 : decode cX3_told 46 = .ok (.iload_n 1, 1) := by decide +kernel
theorem dX3_told_47 : decode cX3_told 47 = .ok (.iconst 4, 1) := by decide +kernel
theorem dX3_told_48 : decode cX3_told 48 = .ok (.isub, 1) := by decide +kernel
theorem dX3_told_49 : decode cX3_told 49 = .ok (.invokevirtual 158, 3) := by decide +kernel
theorem dX3_told_52 : decode cX3_told 52 = .ok (.ifCond .eq 14, 3) := by decide +kernel
theorem dX3_told_55 : decode cX3_told 55 = .ok (.aload_n 0, 1) := by decide +kernel
theorem dX3_told_56 : decode cX3_told 56 = .ok (.getfield 45, 3) := by decide +kernel
theorem dX3_told_59 : decode cX3_told 59 = .ok (.iload_n 1, 1) := by decide +kernel
theorem dX3_told_60 : decode cX3_told 60 = .ok (.iconst 4, 1) := by decide +kernel
theorem dX3_told_61 : decode cX3_told 61 = .ok (.isub, 1) := by decide +kernel
theorem dX3_told_62 : decode cX3_told 62 = .ok (.iaload, 1) := by decide +kernel
theorem dX3_told_63 : decode cX3_told 63 = .ok (.goto 5, 3) := by decide +kernel
theorem dX3_told_66 : decode cX3_told 66 = .ok (.bipush (-6), 2) := by decide +kernel
theorem dX3_told_68 : decode cX3_told 68 = .ok (.ireturn, 1) := by decide +kernel
theorem dX3_told_69 : decode cX3_told 69 = .ok (.iload_n 1, 1) := by decide +kernel
theorem dX3_told_70 : decode cX3_told 70 = .ok (.ifCond .ne 10, 3) := by decide +kernel
theorem dX3_told_73 : decode cX3_told 73 = .ok (.aload_n 0, 1) := by decide +kernel
theorem dX3_told_74 : decode cX3_told 74 = .ok (.getfield 140, 3) := by decide +kernel
theorem dX3_told_77 : decode cX3_told 77 = .ok (.goto 38, 3) := by decide +kernel
theorem dX3_told_80 : decode cX3_told 80 = .ok (.iload_n 1, 1) := by decide +kernel
theorem dX3_told_81 : decode cX3_told 81 = .ok (.iconst 1, 1) := by decide +kernel
theorem dX3_told_82 : decode cX3_told 82 = .ok (.if_icmp .ne 10, 3) := by decide +kernel
theorem dX3_told_85 : decode cX3_told 85 = .ok (.aload_n 0, 1) := by decide +kernel
theorem dX3_told_86 : decode cX3_told 86 = .ok (.getfield 115, 3) := by decide +kernel
theorem dX3_told_89 : decode cX3_told 89 = .ok (.goto 26, 3) := by decide +kernel
theorem dX3_told_92 : decode cX3_told 92 = .ok (.iload_n 1, 1) := by decide +kernel
theorem dX3_told_93 : decode cX3_told 93 = .ok (.iconst 2, 1) := by decide +kernel
theorem dX3_told_94 : decode cX3_told 94 = .ok (.if_icmp .ne 10, 3) := by decide +kernel
theorem dX3_told_97 : decode cX3_told 97 = .ok (.aload_n 0, 1) := by decide +kernel
theorem dX3_told_98 : decode cX3_told 98 = .ok (.getfield 19, 3) := by decide +kernel
theorem dX3_told_101 : decode cX3_told 101 = .ok (.goto 14, 3) := by decide +kernel
theorem dX3_told_104 : decode cX3_told 104 = .ok (.iload_n 1, 1) := by decide +kernel
theorem dX3_told_105 : decode cX3_told 105 = .ok (.iconst 3, 1) := by decide +kernel
theorem dX3_told_106 : decode cX3_told 106 = .ok (.if_icmp .ne 7, 3) := by decide +kernel
theorem dX3_told_109 : decode cX3_told 109 = .ok (.iload_n 2, 1) := by decide +kernel
theorem dX3_told_110 : decode cX3_told 110 = .ok (.goto 5, 3) := by decide +kernel
theorem dX3_told_113 : decode cX3_told 113 = .ok (.bipush (-2), 2) := by decide +kernel
theorem dX3_told_115 : decode cX3_told 115 = .ok (.ireturn, 1) := by decide +kernel
end
section
theorem dL_law_0 : decode cL_law 0 = .ok (.new 7, 3) := by decide +kernel
theorem dL_law_3 : decode cL_law 3 = .ok (.dup, 1) := by decide +kernel
theorem dL_law_4 : decode cL_law 4 = .ok (.invokespecial 9, 3) := by decide +kernel
theorem dL_law_7 : decode cL_law 7 = .ok (.astore_n 1, 1) := by decide +kernel
theorem dL_law_8 : decode cL_law 8 = .ok (.new 10, 3) := by decide +kernel
theorem dL_law_11 : decode cL_law 11 = .ok (.dup, 1) := by decide +kernel
theorem dL_law_12 : decode cL_law 12 = .ok (.invokespecial 12, 3) := by decide +kernel
theorem dL_law_15 : decode cL_law 15 = .ok (.astore_n 2, 1) := by decide +kernel
theorem dL_law_16 : decode cL_law 16 = .ok (.iconst 0, 1) := by decide +kernel
theorem dL_law_17 : decode cL_law 17 = .ok (.istore_n 3, 1) := by decide +kernel
theorem dL_law_18 : decode cL_law 18 = .ok (.iload_n 3, 1) := by decide +kernel
theorem dL_law_19 : decode cL_law 19 = .ok (.aload_n 0, 1) := by decide +kernel
theorem dL_law_20 : decode cL_law 20 = .ok (.arraylength, 1) := by decide +kernel
theorem dL_law_21 : decode cL_law 21 = .ok (.bipush 7, 2) := by decide +kernel
theorem dL_law_23 : decode cL_law 23 = .ok (.isub, 1) := by decide +kernel
theorem dL_law_24 : decode cL_law 24 = .ok (.if_icmp .gt 1352, 3) := by decide +kernel
theorem dL_law_27 : decode cL_law 27 = .ok (.aload_n 0, 1) := by decide +kernel
theorem dL_law_28 : decode cL_law 28 = .ok (.iload_n 3, 1) := by decide +kernel
theorem dL_law_29 : decode cL_law 29 = .ok (.iaload, 1) := by decide +kernel
theorem dL_law_30 : decode cL_law 30 = .ok (.bipush 31, 2) := by decide +kernel
theorem dL_law_32 : decode cL_law 32 = .ok (.iand, 1) := by decide +kernel
theorem dL_law_33 : decode cL_law 33 = .ok (.tableswitch 1337 0 30 #[139, 172, 195, 228, 251, 294, 327, 376, 409, 422, 497, 560, 583, 642, 695, 728, 761, 814, 857, 920, 983, 1016, 1060, 1083, 1116, 1139, 1162, 1195, 1218, 1281, 1314], 139) := by decide +kernel
theorem dL_law_172 : decode cL_law 172 = .ok (.aload_n 1, 1) := by decide +kernel
theorem dL_law_173 : decode cL_law 173 = .ok (.aload_n 0, 1) := by decide +kernel
theorem dL_law_174 : decode cL_law 174 = .ok (.iload_n 3, 1) := by decide +kernel
theorem dL_law_175 : decode cL_law 175 = .ok (.iconst 1, 1) := by decide +kernel
theorem dL_law_176 : decode cL_law 176 = .ok (.iadd, 1) := by decide +kernel
theorem dL_law_177 : decode cL_law 177 = .ok (.iaload, 1) := by decide +kernel
theorem dL_law_178 : decode cL_law 178 = .ok (.aload_n 0, 1) := by decide +kernel
theorem dL_law_179 : decode cL_law 179 = .ok (.iload_n 3, 1) := by decide +kernel
theorem dL_law_180 : decode cL_law 180 = .ok (.iconst 2, 1) := by decide +kernel
theorem dL_law_181 : decode cL_law 181 = .ok (.iadd, 1) := by decide +kernel
theorem dL_law_182 : decode cL_law 182 = .ok (.iaload, 1) := by decide +kernel
theorem dL_law_183 : decode cL_law 183 = .ok (.invokevirtual 13, 3) := by decide +kernel
theorem dL_law_186 : decode cL_law 186 = .ok (.aload_n 2, 1) := by decide +kernel
theorem dL_law_187 : decode cL_law 187 = .ok (.aload_n 0, 1) := by decide +kernel
theorem dL_law_188 : decode cL_law 188 = .ok (.iload_n 3, 1) := by decide +kernel
theorem dL_law_189 : decode cL_law 189 = .ok (.iconst 1, 1) := by decide +kernel
theorem dL_law_190 : decode cL_law 190 = .ok (.iadd, 1) := by decide +kernel
theorem dL_law_191 : decode cL_law 191 = .ok (.iaload, 1) := by decide +kernel
theorem dL_law_192 : decode cL_law 192 = .ok (.aload_n 0, 1) := by decide +kernel
theorem dL_law_193 : decode cL_law 193 = .ok (.iload_n 3, 1) := by decide +kernel
theorem dL_law_194 : decode cL_law 194 = .ok (.iconst 2, 1) := by decide +kernel
theorem dL_law_195 : decode cL_law 195 = .ok (.iadd, 1) := by decide +kernel
theorem dL_law_196 : decode cL_law 196 = .ok (.iaload, 1) := by decide +kernel
theorem dL_law_197 : decode cL_law 197 = .ok (.invokevirtual 17, 3) := by decide +kernel
theorem dL_law_200 : decode cL_law 200 = .ok (.if_icmp .eq 1170, 3) := by decide +kernel
theorem dL_law_203 : decode cL_law 203 = .ok (.iconst 0, 1) := by decide +kernel
theorem dL_law_204 : decode cL_law 204 = .ok (.ireturn, 1) := by decide +kernel
theorem dL_law_205 : decode cL_law 205 = .ok (.aload_n 1, 1) := by decide +kernel
theorem dL_law_206 : decode cL_law 206 = .ok (.aload_n 0, 1) := by decide +kernel
theorem dL_law_207 : decode cL_law 207 = .ok (.iload_n 3, 1) := by decide +kernel
theorem dL_law_208 : decode cL_law 208 = .ok (.iconst 1, 1) := by decide +kernel
theorem dL_law_209 : decode cL_law 209 = .ok (.iadd, 1) := by decide +kernel
theorem dL_law_210 : decode cL_law 210 = .ok (.iaload, 1) := by decide +kernel
theorem dL_law_211 : decode cL_law 211 = .ok (.invokevirtual 18, 3) := by decide +kernel
theorem dL_law_214 : decode cL_law 214 = .ok (.aload_n 2, 1) := by decide +kernel
theorem dL_law_215 : decode cL_law 215 = .ok (.aload_n 0, 1) := by decide +kernel
theorem dL_law_216 : decode cL_law 216 = .ok (.iload_n 3, 1) := by decide +kernel
theorem dL_law_217 : decode cL_law 217 = .ok (.iconst 1, 1) := by decide +kernel
theorem dL_law_218 : decode cL_law 218 = .ok (.iadd, 1) := by decide +kernel
theorem dL_law_219 : decode cL_law 219 = .ok (.iaload, 1) := by decide +kernel
theorem dL_law_220 : decode cL_law 220 = .ok (.invokevirtual 22, 3) := by decide +kernel
theorem dL_law_223 : decode cL_law 223 = .ok (.if_icmp .eq 1147, 3) := by decide +kernel
theorem dL_law_226 : decode cL_law 226 = .ok (.iconst 0, 1) := by decide +kernel
theorem dL_law_227 : decode cL_law 227 = .ok (.ireturn, 1) := by decide +kernel
theorem dL_law_228 : decode cL_law 228 = .ok (.aload_n 1, 1) := by decide +kernel
theorem dL_law_229 : decode cL_law 229 = .ok (.aload_n 0, 1) := by decide +kernel
theorem dL_law_230 : decode cL_law 230 = .ok (.iload_n 3, 1) := by decide +kernel
theorem dL_law_231 : decode cL_law 231 = .ok (.iconst 1, 1) := by decide +kernel
theorem dL_law_232 : decode cL_law 232 = .ok (.iadd, 1) := by decide +kernel
theorem dL_law_233 : decode cL_law 233 = .ok (.iaload, 1) := by decide +kernel
theorem dL_law_234 : decode cL_law 234 = .ok (.aload_n 0, 1) := by decide +kernel
theorem dL_law_235 : decode cL_law 235 = .ok (.iload_n 3, 1) := by decide +kernel
theorem dL_law_236 : decode cL_law 236 = .ok (.iconst 2, 1) := by decide +kernel
theorem dL_law_237 : decode cL_law 237 = .ok (.iadd, 1) := by decide +kernel
theorem dL_law_238 : decode cL_law 238 = .ok (.iaload, 1) := by decide +kernel
theorem dL_law_239 : decode cL_law 239 = .ok (.invokevirtual 23, 3) := by decide +kernel
theorem dL_law_242 : decode cL_law 242 = .ok (.aload_n 2, 1) := by decide +kernel
theorem dL_law_243 : decode cL_law 243 = .ok (.aload_n 0, 1) := by decide +kernel
theorem dL_law_244 : decode cL_law 244 = .ok (.iload_n 3, 1) := by decide +kernel
theorem dL_law_245 : decode cL_law 245 = .ok (.iconst 1, 1) := by decide +kernel
theorem dL_law_246 : decode cL_law 246 = .ok (.iadd, 1) := by decide +kernel
theorem dL_law_247 : decode cL_law 247 = .ok (.iaload, 1) := by decide +kernel
theorem dL_law_248 : decode cL_law 248 = .ok (.aload_n 0, 1) := by decide +kernel
theorem dL_law_249 : decode cL_law 249 = .ok (.iload_n 3, 1) := by decide +kernel
theorem dL_law_250 : decode cL_law 250 = .ok (.iconst 2, 1) := by decide +kernel
theorem dL_law_251 : decode cL_law 251 = .ok (.iadd, 1) := by decide +kernel
theorem dL_law_252 : decode cL_law 252 = .ok (.iaload, 1) := by decide +kernel
theorem dL_law_253 : decode cL_law 253 = .ok (.invokevirtual 26, 3) := by decide +kernel
theorem dL_law_256 : decode cL_law 256 = .ok (.if_icmp .eq 1114, 3) := by decide +kernel
theorem dL_law_259 : decode cL_law 259 = .ok (.iconst 0, 1) := by decide +kernel
theorem dL_law_260 : decode cL_law 260 = .ok (.ireturn, 1) := by decide +kernel
theorem dL_law_261 : decode cL_law 261 = .ok (.aload_n 1, 1) := by decide +kernel
theorem dL_law_262 : decode cL_law 262 = .ok (.aload_n 0, 1) := by decide +kernel
theorem dL_law_263 : decode cL_law 263 = .ok (.iload_n 3, 1) := by decide +kernel
theorem dL_law_264 : decode cL_law 264 = .ok (.iconst 1, 1) := by decide +kernel
theorem dL_law_265 : decode cL_law 265 = .ok (.iadd, 1) := by decide +kernel
theorem dL_law_266 : decode cL_law 266 = .ok (.iaload, 1) := by decide +kernel
theorem dL_law_267 : decode cL_law 267 = .ok (.invokevirtual 27, 3) := by decide +kernel
theorem dL_law_270 : decode cL_law 270 = .ok (.aload_n 2, 1) := by decide +kernel
theorem dL_law_271 : decode cL_law 271 = .ok (.aload_n 0, 1) := by decide +kernel
theorem dL_law_272 : decode cL_law 272 = .ok (.iload_n 3, 1) := by decide +kernel
theorem dL_law_273 : decode cL_law 273 = .ok (.iconst 1, 1) := by decide +kernel
theorem dL_law_274 : decode cL_law 274 = .ok (.iadd, 1) := by decide +kernel
theorem dL_law_275 : decode cL_law 275 = .ok (.iaload, 1) := by decide +kernel
theorem dL_law_276 : decode cL_law 276 = .ok (.invokevirtual 30, 3) := by decide +kernel
theorem dL_law_279 : decode cL_law 279 = .ok (.if_icmp .eq 1091, 3) := by decide +kernel
theorem dL_law_282 : decode cL_law 282 = .ok (.iconst 0, 1) := by decide +kernel
theorem dL_law_283 : decode cL_law 283 = .ok (.ireturn, 1) := by decide +kernel
theorem dL_law_284 : decode cL_law 284 = .ok (.aload_n 1, 1) := by decide +kernel
theorem dL_law_285 : decode cL_law 285 = .ok (.aload_n 0, 1) := by decide +kernel
theorem dL_law_286 : decode cL_law 286 = .ok (.iload_n 3, 1) := by decide +kernel
theorem dL_law_287 : decode cL_law 287 = .ok (.iconst 1, 1) := by decide +kernel
theorem dL_law_288 : decode cL_law 288 = .ok (.iadd, 1) := by decide +kernel
theorem dL_law_289 : decode cL_law 289 = .ok (.iaload, 1) := by decide +kernel
theorem dL_law_290 : decode cL_law 290 = .ok (.aload_n 0, 1) := by decide +kernel
theorem dL_law_291 : decode cL_law 291 = .ok (.iload_n 3, 1) := by decide +kernel
theorem dL_law_292 : decode cL_law 292 = .ok (.iconst 2, 1) := by decide +kernel
theorem dL_law_293 : decode cL_law 293 = .ok (.iadd, 1) := by decide +kernel
theorem dL_law_294 : decode cL_law 294 = .ok (.iaload, 1) := by decide +kernel
theorem dL_law_295 : decode cL_law 295 = .ok (.aload_n 0, 1) := by decide +kernel
theorem dL_law_296 : decode cL_law 296 = .ok (.iload_n 3, 1) := by decide +kernel
theorem dL_law_297 : decode cL_law 297 = .ok (.iconst 3, 1) := by decide +kernel
theorem dL_law_298 : decode cL_law 298 = .ok (.iadd, 1) := by decide +kernel
theorem dL_law_299 : decode cL_law 299 = .ok (.iaload, 1) := by decide +kernel
theorem dL_law_300 : decode cL_law 300 = .ok (.invokevirtual 31, 3) := by decide +kernel
theorem dL_law_303 : decode cL_law 303 = .ok (.aload_n 2, 1) := by decide +kernel
theorem dL_law_304 : decode cL_law 304 = .ok (.aload_n 0, 1) := by decide +kernel
theorem dL_law_305 : decode cL_law 305 = .ok (.iload_n 3, 1) := by decide +kernel
theorem dL_law_306 : decode cL_law 306 = .ok (.iconst 1, 1) := by decide +kernel
theorem dL_law_307 : decode cL_law 307 = .ok (.iadd, 1) := by decide +kernel
theorem dL_law_308 : decode cL_law 308 = .ok (.iaload, 1) := by decide +kernel
theorem dL_law_309 : decode cL_law 309 = .ok (.aload_n 0, 1) := by decide +kernel
theorem dL_law_310 : decode cL_law 310 = .ok (.iload_n 3, 1) := by decide +kernel
theorem dL_law_311 : decode cL_law 311 = .ok (.iconst 2, 1) := by decide +kernel
theorem dL_law_312 : decode cL_law 312 = .ok (.iadd, 1) := by decide +kernel
theorem dL_law_313 : decode cL_law 313 = .ok (.iaload, 1) := by decide +kernel
theorem dL_law_314 : decode cL_law 314 = .ok (.aload_n 0, 1) := by decide +kernel
theorem dL_law_315 : decode cL_law 315 = .ok (.iload_n 3, 1) := by decide +kernel
theorem dL_law_316 : decode cL_law 316 = .ok (.iconst 3, 1) := by decide +kernel
theorem dL_law_317 : decode cL_law 317 = .ok (.iadd, 1) := by decide +kernel
theorem dL_law_318 : decode cL_law 318 = .ok (.iaload, 1) := by decide +kernel
theorem dL_law_319 : decode cL_law 319 = .ok (.invokevirtual 35, 3) := by decide +kernel
theorem dL_law_322 : decode cL_law 322 = .ok (.if_icmp .eq 1048, 3) := by decide +kernel
theorem dL_law_325 : decode cL_law 325 = .ok (.iconst 0, 1) := by decide +kernel
theorem dL_law_326 : decode cL_law 326 = .ok (.ireturn, 1) := by decide +kernel
theorem dL_law_327 : decode cL_law 327 = .ok (.aload_n 1, 1) := by decide +kernel
theorem dL_law_328 : decode cL_law 328 = .ok (.aload_n 0, 1) := by decide +kernel
theorem dL_law_329 : decode cL_law 329 = .ok (.iload_n 3, 1) := by decide +kernel
theorem dL_law_330 : decode cL_law 330 = .ok (.iconst 1, 1) := by decide +kernel
theorem dL_law_331 : decode cL_law 331 = .ok (.iadd, 1) := by decide +kernel
theorem dL_law_332 : decode cL_law 332 = .ok (.iaload, 1) := by decide +kernel
theorem dL_law_333 : decode cL_law 333 = .ok (.aload_n 0, 1) := by decide +kernel
theorem dL_law_334 : decode cL_law 334 = .ok (.iload_n 3, 1) := by decide +kernel
theorem dL_law_335 : decode cL_law 335 = .ok (.iconst 2, 1) := by decide +kernel
theorem dL_law_336 : decode cL_law 336 = .ok (.iadd, 1) := by decide +kernel
theorem dL_law_337 : decode cL_law 337 = .ok (.iaload, 1) := by decide +kernel
theorem dL_law_338 : decode cL_law 338 = .ok (.invokevirtual 36, 3) := by decide +kernel
theorem dL_law_341 : decode cL_law 341 = .ok (.aload_n 2, 1) := by decide +kernel
theorem dL_law_342 : decode cL_law 342 = .ok (.aload_n 0, 1) := by decide +kernel
theorem dL_law_343 : decode cL_law 343 = .ok (.iload_n 3, 1) := by decide +kernel
theorem dL_law_344 : decode cL_law 344 = .ok (.iconst 1, 1) := by decide +kernel
theorem dL_law_345 : decode cL_law 345 = .ok (.iadd, 1) := by decide +kernel
theorem dL_law_346 : decode cL_law 346 = .ok (.iaload, 1) := by decide +kernel
theorem dL_law_347 : decode cL_law 347 = .ok (.aload_n 0, 1) := by decide +kernel
theorem dL_law_348 : decode cL_law 348 = .ok (.iload_n 3, 1) := by decide +kernel
theorem dL_law_349 : decode cL_law 349 = .ok (.iconst 2, 1) := by decide +kernel
theorem dL_law_350 : decode cL_law 350 = .ok (.iadd, 1) := by decide +kernel
theorem dL_law_351 : decode cL_law 351 = .ok (.iaload, 1) := by decide +kernel
theorem dL_law_352 : decode cL_law 352 = .ok (.invokevirtual 39, 3) := by decide +kernel
theorem dL_law_355 : decode cL_law 355 = .ok (.if_icmp .eq 1015, 3) := by decide +kernel
theorem dL_law_358 : decode cL_law 358 = .ok (.iconst 0, 1) := by decide +kernel
theorem dL_law_359 : decode cL_law 359 = .ok (.ireturn, 1) := by decide +kernel
theorem dL_law_360 : decode cL_law 360 = .ok (.aload_n 1, 1) := by decide +kernel
theorem dL_law_361 : decode cL_law 361 = .ok (.aload_n 0, 1) := by decide +kernel
theorem dL_law_362 : decode cL_law 362 = .ok (.iload_n 3, 1) := by decide +kernel
theorem dL_law_363 : decode cL_law 363 = .ok (.iconst 1, 1) := by decide +kernel
theorem dL_law_364 : decode cL_law 364 = .ok (.iadd, 1) := by decide +kernel
theorem dL_law_365 : decode cL_law 365 = .ok (.iaload, 1) := by decide +kernel
theorem dL_law_366 : decode cL_law 366 = .ok (.aload_n 0, 1) := by decide +kernel
theorem dL_law_367 : decode cL_law 367 = .ok (.iload_n 3, 1) := by decide +kernel
theorem dL_law_368 : decode cL_law 368 = .ok (.iconst 2, 1) := by decide +kernel
theorem dL_law_369 : decode cL_law 369 = .ok (.iadd, 1) := by decide +kernel
theorem dL_law_370 : decode cL_law 370 = .ok (.iaload, 1) := by decide +kernel
theorem dL_law_371 : decode cL_law 371 = .ok (.ifCond .eq 7, 3) := by decide +kernel
theorem dL_law_374 : decode cL_law 374 = .ok (.iconst 1, 1) := by decide +kernel
theorem dL_law_375 : decode cL_law 375 = .ok (.goto 4, 3) := by decide +kernel
theorem dL_law_378 : decode cL_law 378 = .ok (.iconst 0, 1) := by decide +kernel
theorem dL_law_379 : decode cL_law 379 = .ok (.invokevirtual 40, 3) := by decide +kernel
theorem dL_law_382 : decode cL_law 382 = .ok (.aload_n 2, 1) := by decide +kernel
theorem dL_law_383 : decode cL_law 383 = .ok (.aload_n 0, 1) := by decide +kernel
theorem dL_law_384 : decode cL_law 384 = .ok (.iload_n 3, 1) := by decide +kernel
theorem dL_law_385 : decode cL_law 385 = .ok (.iconst 1, 1) := by decide +kernel
theorem dL_law_386 : decode cL_law 386 = .ok (.iadd, 1) := by decide +kernel
theorem dL_law_387 : decode cL_law 387 = .ok (.iaload, 1) := by decide +kernel
theorem dL_law_388 : decode cL_law 388 = .ok (.aload_n 0, 1) := by decide +kernel
theorem dL_law_389 : decode cL_law 389 = .ok (.iload_n 3, 1) := by decide +kernel
theorem dL_law_390 : decode cL_law 390 = .ok (.iconst 2, 1) := by decide +kernel
theorem dL_law_391 : decode cL_law 391 = .ok (.iadd, 1) := by decide +kernel
theorem dL_law_392 : decode cL_law 392 = .ok (.iaload, 1) := by decide +kernel
theorem dL_law_393 : decode cL_law 393 = .ok (.ifCond .eq 7, 3) := by decide +kernel
theorem dL_law_396 : decode cL_law 396 = .ok (.iconst 1, 1) := by decide +kernel
theorem dL_law_397 : decode cL_law 397 = .ok (.goto 4, 3) := by decide +kernel
theorem dL_law_400 : decode cL_law 400 = .ok (.iconst 0, 1) := by decide +kernel
theorem dL_law_401 : decode cL_law 401 = .ok (.invokevirtual 44, 3) := by decide +kernel
theorem dL_law_404 : decode cL_law 404 = .ok (.if_icmp .eq 966, 3) := by decide +kernel
theorem dL_law_407 : decode cL_law 407 = .ok (.iconst 0, 1) := by decide +kernel
theorem dL_law_408 : decode cL_law 408 = .ok (.ireturn, 1) := by decide +kernel
theorem dL_law_409 : decode cL_law 409 = .ok (.aload_n 1, 1) := by decide +kernel
theorem dL_law_410 : decode cL_law 410 = .ok (.aload_n 0, 1) := by decide +kernel
theorem dL_law_411 : decode cL_law 411 = .ok (.iload_n 3, 1) := by decide +kernel
theorem dL_law_412 : decode cL_law 412 = .ok (.iconst 1, 1) := by decide +kernel
theorem dL_law_413 : decode cL_law 413 = .ok (.iadd, 1) := by decide +kernel
theorem dL_law_414 : decode cL_law 414 = .ok (.iaload, 1) := by decide +kernel
theorem dL_law_415 : decode cL_law 415 = .ok (.aload_n 0, 1) := by decide +kernel
theorem dL_law_416 : decode cL_law 416 = .ok (.iload_n 3, 1) := by decide +kernel
theorem dL_law_417 : decode cL_law 417 = .ok (.iconst 2, 1) := by decide +kernel
theorem dL_law_418 : decode cL_law 418 = .ok (.iadd, 1) := by decide +kernel
theorem dL_law_419 : decode cL_law 419 = .ok (.iaload, 1) := by decide +kernel
theorem dL_law_420 : decode cL_law 420 = .ok (.invokevirtual 45, 3) := by decide +kernel
theorem dL_law_423 : decode cL_law 423 = .ok (.aload_n 2, 1) := by decide +kernel
theorem dL_law_424 : decode cL_law 424 = .ok (.aload_n 0, 1) := by decide +kernel
theorem dL_law_425 : decode cL_law 425 = .ok (.iload_n 3, 1) := by decide +kernel
theorem dL_law_426 : decode cL_law 426 = .ok (.iconst 1, 1) := by decide +kernel
theorem dL_law_427 : decode cL_law 427 = .ok (.iadd, 1) := by decide +kernel
theorem dL_law_428 : decode cL_law 428 = .ok (.iaload, 1) := by decide +kernel
theorem dL_law_429 : decode cL_law 429 = .ok (.aload_n 0, 1) := by decide +kernel
theorem dL_law_430 : decode cL_law 430 = .ok (.iload_n 3, 1) := by decide +kernel
theorem dL_law_431 : decode cL_law 431 = .ok (.iconst 2, 1) := by decide +kernel
theorem dL_law_432 : decode cL_law 432 = .ok (.iadd, 1) := by decide +kernel
theorem dL_law_433 : decode cL_law 433 = .ok (.iaload, 1) := by decide +kernel
theorem dL_law_434 : decode cL_law 434 = .ok (.invokevirtual 48, 3) := by decide +kernel
theorem dL_law_437 : decode cL_law 437 = .ok (.if_icmp .eq 933, 3) := by decide +kernel
theorem dL_law_440 : decode cL_law 440 = .ok (.iconst 0, 1) := by decide +kernel
theorem dL_law_441 : decode cL_law 441 = .ok (.ireturn, 1) := by decide +kernel
theorem dL_law_442 : decode cL_law 442 = .ok (.aload_n 1, 1) := by decide +kernel
theorem dL_law_443 : decode cL_law 443 = .ok (.invokevirtual 49, 3) := by decide +kernel
theorem dL_law_446 : decode cL_law 446 = .ok (.aload_n 2, 1) := by decide +kernel
theorem dL_law_447 : decode cL_law 447 = .ok (.invokevirtual 53, 3) := by decide +kernel
theorem dL_law_450 : decode cL_law 450 = .ok (.if_icmp .eq 920, 3) := by decide +kernel
theorem dL_law_453 : decode cL_law 453 = .ok (.iconst 0, 1) := by decide +kernel
theorem dL_law_454 : decode cL_law 454 = .ok (.ireturn, 1) := by decide +kernel
theorem dL_law_455 : decode cL_law 455 = .ok (.aload_n 1, 1) := by decide +kernel
theorem dL_law_456 : decode cL_law 456 = .ok (.aload_n 0, 1) := by decide +kernel
theorem dL_law_457 : decode cL_law 457 = .ok (.iload_n 3, 1) := by decide +kernel
theorem dL_law_458 : decode cL_law 458 = .ok (.iconst 1, 1) := by decide +kernel
theorem dL_law_459 : decode cL_law 459 = .ok (.iadd, 1) := by decide +kernel
theorem dL_law_460 : decode cL_law 460 = .ok (.iaload, 1) := by decide +kernel
theorem dL_law_461 : decode cL_law 461 = .ok (.aload_n 0, 1) := by decide +kernel
theorem dL_law_462 : decode cL_law 462 = .ok (.iload_n 3, 1) := by decide +kernel
theorem dL_law_463 : decode cL_law 463 = .ok (.iconst 2, 1) := by decide +kernel
theorem dL_law_464 : decode cL_law 464 = .ok (.iadd, 1) := by decide +kernel
theorem dL_law_465 : decode cL_law 465 = .ok (.iaload, 1) := by decide +kernel
theorem dL_law_466 : decode cL_law 466 = .ok (.aload_n 0, 1) := by decide +kernel
theorem dL_law_467 : decode cL_law 467 = .ok (.iload_n 3, 1) := by decide +kernel
theorem dL_law_468 : decode cL_law 468 = .ok (.iconst 3, 1) := by decide +kernel
theorem dL_law_469 : decode cL_law 469 = .ok (.iadd, 1) := by decide +kernel
theorem dL_law_470 : decode cL_law 470 = .ok (.iaload, 1) := by decide +kernel
theorem dL_law_471 : decode cL_law 471 = .ok (.aload_n 0, 1) := by decide +kernel
theorem dL_law_472 : decode cL_law 472 = .ok (.iload_n 3, 1) := by decide +kernel
theorem dL_law_473 : decode cL_law 473 = .ok (.iconst 4, 1) := by decide +kernel
theorem dL_law_474 : decode cL_law 474 = .ok (.iadd, 1) := by decide +kernel
theorem dL_law_475 : decode cL_law 475 = .ok (.iaload, 1) := by decide +kernel
theorem dL_law_476 : decode cL_law 476 = .ok (.aload_n 0, 1) := by decide +kernel
theorem dL_law_477 : decode cL_law 477 = .ok (.iload_n 3, 1) := by decide +kernel
theorem dL_law_478 : decode cL_law 478 = .ok (.iconst 5, 1) := by decide +kernel
theorem dL_law_479 : decode cL_law 479 = .ok (.iadd, 1) := by decide +kernel
theorem dL_law_480 : decode cL_law 480 = .ok (.iaload, 1) := by decide +kernel
theorem dL_law_481 : decode cL_law 481 = .ok (.aload_n 0, 1) := by decide +kernel
theorem dL_law_482 : decode cL_law 482 = .ok (.iload_n 3, 1) := by decide +kernel
theorem dL_law_483 : decode cL_law 483 = .ok (.bipush 6, 2) := by decide +kernel
theorem dL_law_485 : decode cL_law 485 = .ok (.iadd, 1) := by decide +kernel
theorem dL_law_486 : decode cL_law 486 = .ok (.iaload, 1) := by decide +kernel
theorem dL_law_487 : decode cL_law 487 = .ok (.invokevirtual 54, 3) := by decide +kernel
theorem dL_law_490 : decode cL_law 490 = .ok (.aload_n 2, 1) := by decide +kernel
theorem dL_law_491 : decode cL_law 491 = .ok (.aload_n 0, 1) := by decide +kernel
theorem dL_law_492 : decode cL_law 492 = .ok (.iload_n 3, 1) := by decide +kernel
theorem dL_law_493 : decode cL_law 493 = .ok (.iconst 1, 1) := by decide +kernel
theorem dL_law_494 : decode cL_law 494 = .ok (.iadd, 1) := by decide +kernel
theorem dL_law_495 : decode cL_law 495 = .ok (.iaload, 1) := by decide +kernel
theorem dL_law_496 : decode cL_law 496 = .ok (.aload_n 0, 1) := by decide +kernel
theorem dL_law_497 : decode cL_law 497 = .ok (.iload_n 3, 1) := by decide +kernel
theorem dL_law_498 : decode cL_law 498 = .ok (.iconst 2, 1) := by decide +kernel
theorem dL_law_499 : decode cL_law 499 = .ok (.iadd, 1) := by decide +kernel
theorem dL_law_500 : decode cL_law 500 = .ok (.iaload, 1) := by decide +kernel
theorem dL_law_501 : decode cL_law 501 = .ok (.aload_n 0, 1) := by decide +kernel
theorem dL_law_502 : decode cL_law 502 = .ok (.iload_n 3, 1) := by decide +kernel
theorem dL_law_503 : decode cL_law 503 = .ok (.iconst 3, 1) := by decide +kernel
theorem dL_law_504 : decode cL_law 504 = .ok (.iadd, 1) := by decide +kernel
theorem dL_law_505 : decode cL_law 505 = .ok (.iaload, 1) := by decide +kernel
theorem dL_law_506 : decode cL_law 506 = .ok (.aload_n 0, 1) := by decide +kernel
theorem dL_law_507 : decode cL_law 507 = .ok (.iload_n 3, 1) := by decide +kernel
theorem dL_law_508 : decode cL_law 508 = .ok (.iconst 4, 1) := by decide +kernel
theorem dL_law_509 : decode cL_law 509 = .ok (.iadd, 1) := by decide +kernel
theorem dL_law_510 : decode cL_law 510 = .ok (.iaload, 1) := by decide +kernel
theorem dL_law_511 : decode cL_law 511 = .ok (.aload_n 0, 1) := by decide +kernel
theorem dL_law_512 : decode cL_law 512 = .ok (.iload_n 3, 1) := by decide +kernel
theorem dL_law_513 : decode cL_law 513 = .ok (.iconst 5, 1) := by decide +kernel
theorem dL_law_514 : decode cL_law 514 = .ok (.iadd, 1) := by decide +kernel
theorem dL_law_515 : decode cL_law 515 = .ok (.iaload, 1) := by decide +kernel
theorem dL_law_516 : decode cL_law 516 = .ok (.aload_n 0, 1) := by decide +kernel
theorem dL_law_517 : decode cL_law 517 = .ok (.iload_n 3, 1) := by decide +kernel
theorem dL_law_518 : decode cL_law 518 = .ok (.bipush 6, 2) := by decide +kernel
theorem dL_law_520 : decode cL_law 520 = .ok (.iadd, 1) := by decide +kernel
theorem dL_law_521 : decode cL_law 521 = .ok (.iaload, 1) := by decide +kernel
theorem dL_law_522 : decode cL_law 522 = .ok (.invokevirtual 58, 3) := by decide +kernel
theorem dL_law_525 : decode cL_law 525 = .ok (.if_icmp .eq 845, 3) := by decide +kernel
theorem dL_law_528 : decode cL_law 528 = .ok (.iconst 0, 1) := by decide +kernel
theorem dL_law_529 : decode cL_law 529 = .ok (.ireturn, 1) := by decide +kernel
theorem dL_law_530 : decode cL_law 530 = .ok (.aload_n 1, 1) := by decide +kernel
theorem dL_law_531 : decode cL_law 531 = .ok (.aload_n 0, 1) := by decide +kernel
theorem dL_law_532 : decode cL_law 532 = .ok (.iload_n 3, 1) := by decide +kernel
theorem dL_law_533 : decode cL_law 533 = .ok (.iconst 1, 1) := by decide +kernel
theorem dL_law_534 : decode cL_law 534 = .ok (.iadd, 1) := by decide +kernel
theorem dL_law_535 : decode cL_law 535 = .ok (.iaload, 1) := by decide +kernel
theorem dL_law_536 : decode cL_law 536 = .ok (.aload_n 0, 1) := by decide +kernel
theorem dL_law_537 : decode cL_law 537 = .ok (.iload_n 3, 1) := by decide +kernel
theorem dL_law_538 : decode cL_law 538 = .ok (.iconst 2, 1) := by decide +kernel
theorem dL_law_539 : decode cL_law 539 = .ok (.iadd, 1) := by decide +kernel
theorem dL_law_540 : decode cL_law 540 = .ok (.iaload, 1) := by decide +kernel
theorem dL_law_541 : decode cL_law 541 = .ok (.aload_n 0, 1) := by decide +kernel
theorem dL_law_542 : decode cL_law 542 = .ok (.iload_n 3, 1) := by decide +kernel
theorem dL_law_543 : decode cL_law 543 = .ok (.iconst 3, 1) := by decide +kernel
theorem dL_law_544 : decode cL_law 544 = .ok (.iadd, 1) := by decide +kernel
theorem dL_law_545 : decode cL_law 545 = .ok (.iaload, 1) := by decide +kernel
theorem dL_law_546 : decode cL_law 546 = .ok (.aload_n 0, 1) := by decide +kernel
theorem dL_law_547 : decode cL_law 547 = .ok (.iload_n 3, 1) := by decide +kernel
theorem dL_law_548 : decode cL_law 548 = .ok (.iconst 4, 1) := by decide +kernel
theorem dL_law_549 : decode cL_law 549 = .ok (.iadd, 1) := by decide +kernel
theorem dL_law_550 : decode cL_law 550 = .ok (.iaload, 1) := by decide +kernel
theorem dL_law_551 : decode cL_law 551 = .ok (.aload_n 0, 1) := by decide +kernel
theorem dL_law_552 : decode cL_law 552 = .ok (.iload_n 3, 1) := by decide +kernel
theorem dL_law_553 : decode cL_law 553 = .ok (.iconst 5, 1) := by decide +kernel
theorem dL_law_554 : decode cL_law 554 = .ok (.iadd, 1) := by decide +kernel
theorem dL_law_555 : decode cL_law 555 = .ok (.iaload, 1) := by decide +kernel
theorem dL_law_556 : decode cL_law 556 = .ok (.invokevirtual 59, 3) := by decide +kernel
theorem dL_law_559 : decode cL_law 559 = .ok (.aload_n 2, 1) := by decide +kernel
theorem dL_law_560 : decode cL_law 560 = .ok (.aload_n 0, 1) := by decide +kernel
theorem dL_law_561 : decode cL_law 561 = .ok (.iload_n 3, 1) := by decide +kernel
theorem dL_law_562 : decode cL_law 562 = .ok (.iconst 1, 1) := by decide +kernel
theorem dL_law_563 : decode cL_law 563 = .ok (.iadd, 1) := by decide +kernel
theorem dL_law_564 : decode cL_law 564 = .ok (.iaload, 1) := by decide +kernel
theorem dL_law_565 : decode cL_law 565 = .ok (.aload_n 0, 1) := by decide +kernel
theorem dL_law_566 : decode cL_law 566 = .ok (.iload_n 3, 1) := by decide +kernel
theorem dL_law_567 : decode cL_law 567 = .ok (.iconst 2, 1) := by decide +kernel
theorem dL_law_568 : decode cL_law 568 = .ok (.iadd, 1) := by decide +kernel
theorem dL_law_569 : decode cL_law 569 = .ok (.iaload, 1) := by decide +kernel
theorem dL_law_570 : decode cL_law 570 = .ok (.aload_n 0, 1) := by decide +kernel
theorem dL_law_571 : decode cL_law 571 = .ok (.iload_n 3, 1) := by decide +kernel
theorem dL_law_572 : decode cL_law 572 = .ok (.iconst 3, 1) := by decide +kernel
theorem dL_law_573 : decode cL_law 573 = .ok (.iadd, 1) := by decide +kernel
theorem dL_law_574 : decode cL_law 574 = .ok (.iaload, 1) := by decide +kernel
theorem dL_law_575 : decode cL_law 575 = .ok (.aload_n 0, 1) := by decide +kernel
theorem dL_law_576 : decode cL_law 576 = .ok (.iload_n 3, 1) := by decide +kernel
theorem dL_law_577 : decode cL_law 577 = .ok (.iconst 4, 1) := by decide +kernel
theorem dL_law_578 : decode cL_law 578 = .ok (.iadd, 1) := by decide +kernel
theorem dL_law_579 : decode cL_law 579 = .ok (.iaload, 1) := by decide +kernel
theorem dL_law_580 : decode cL_law 580 = .ok (.aload_n 0, 1) := by decide +kernel
theorem dL_law_581 : decode cL_law 581 = .ok (.iload_n 3, 1) := by decide +kernel
theorem dL_law_582 : decode cL_law 582 = .ok (.iconst 5, 1) := by decide +kernel
theorem dL_law_583 : decode cL_law 583 = .ok (.iadd, 1) := by decide +kernel
theorem dL_law_584 : decode cL_law 584 = .ok (.iaload, 1) := by decide +kernel
theorem dL_law_585 : decode cL_law 585 = .ok (.invokevirtual 63, 3) := by decide +kernel
theorem dL_law_588 : decode cL_law 588 = .ok (.if_icmp .eq 782, 3) := by decide +kernel
theorem dL_law_591 : decode cL_law 591 = .ok (.iconst 0, 1) := by decide +kernel
theorem dL_law_592 : decode cL_law 592 = .ok (.ireturn, 1) := by decide +kernel
theorem dL_law_593 : decode cL_law 593 = .ok (.aload_n 1, 1) := by decide +kernel
theorem dL_law_594 : decode cL_law 594 = .ok (.aload_n 0, 1) := by decide +kernel
theorem dL_law_595 : decode cL_law 595 = .ok (.iload_n 3, 1) := by decide +kernel
theorem dL_law_596 : decode cL_law 596 = .ok (.iconst 1, 1) := by decide +kernel
theorem dL_law_597 : decode cL_law 597 = .ok (.iadd, 1) := by decide +kernel
theorem dL_law_598 : decode cL_law 598 = .ok (.iaload, 1) := by decide +kernel
theorem dL_law_599 : decode cL_law 599 = .ok (.invokevirtual 64, 3) := by decide +kernel
theorem dL_law_602 : decode cL_law 602 = .ok (.aload_n 2, 1) := by decide +kernel
theorem dL_law_603 : decode cL_law 603 = .ok (.aload_n 0, 1) := by decide +kernel
theorem dL_law_604 : decode cL_law 604 = .ok (.iload_n 3, 1) := by decide +kernel
theorem dL_law_605 : decode cL_law 605 = .ok (.iconst 1, 1) := by decide +kernel
theorem dL_law_606 : decode cL_law 606 = .ok (.iadd, 1) := by decide +kernel
theorem dL_law_607 : decode cL_law 607 = .ok (.iaload, 1) := by decide +kernel
theorem dL_law_608 : decode cL_law 608 = .ok (.invokevirtual 67, 3) := by decide +kernel
theorem dL_law_611 : decode cL_law 611 = .ok (.if_icmp .eq 759, 3) := by decide +kernel
theorem dL_law_614 : decode cL_law 614 = .ok (.iconst 0, 1) := by decide +kernel
theorem dL_law_615 : decode cL_law 615 = .ok (.ireturn, 1) := by decide +kernel
theorem dL_law_616 : decode cL_law 616 = .ok (.aload_n 1, 1) := by decide +kernel
theorem dL_law_617 : decode cL_law 617 = .ok (.aload_n 0, 1) := by decide +kernel
theorem dL_law_618 : decode cL_law 618 = .ok (.iload_n 3, 1) := by decide +kernel
theorem dL_law_619 : decode cL_law 619 = .ok (.iconst 1, 1) := by decide +kernel
theorem dL_law_620 : decode cL_law 620 = .ok (.iadd, 1) := by decide +kernel
theorem dL_law_621 : decode cL_law 621 = .ok (.iaload, 1) := by decide +kernel
theorem dL_law_622 : decode cL_law 622 = .ok (.aload_n 0, 1) := by decide +kernel
theorem dL_law_623 : decode cL_law 623 = .ok (.iload_n 3, 1) := by decide +kernel
theorem dL_law_624 : decode cL_law 624 = .ok (.iconst 2, 1) := by decide +kernel
theorem dL_law_625 : decode cL_law 625 = .ok (.iadd, 1) := by decide +kernel
theorem dL_law_626 : decode cL_law 626 = .ok (.iaload, 1) := by decide +kernel
theorem dL_law_627 : decode cL_law 627 = .ok (.aload_n 0, 1) := by decide +kernel
theorem dL_law_628 : decode cL_law 628 = .ok (.iload_n 3, 1) := by decide +kernel
theorem dL_law_629 : decode cL_law 629 = .ok (.iconst 3, 1) := by decide +kernel
theorem dL_law_630 : decode cL_law 630 = .ok (.iadd, 1) := by decide +kernel
theorem dL_law_631 : decode cL_law 631 = .ok (.iaload, 1) := by decide +kernel
theorem dL_law_632 : decode cL_law 632 = .ok (.ifCond .eq 7, 3) := by decide +kernel
theorem dL_law_635 : decode cL_law 635 = .ok (.iconst 1, 1) := by decide +kernel
theorem dL_law_636 : decode cL_law 636 = .ok (.goto 4, 3) := by decide +kernel
theorem dL_law_639 : decode cL_law 639 = .ok (.iconst 0, 1) := by decide +kernel
theorem dL_law_640 : decode cL_law 640 = .ok (.invokevirtual 68, 3) := by decide +kernel
theorem dL_law_643 : decode cL_law 643 = .ok (.aload_n 2, 1) := by decide +kernel
theorem dL_law_644 : decode cL_law 644 = .ok (.aload_n 0, 1) := by decide +kernel
theorem dL_law_645 : decode cL_law 645 = .ok (.iload_n 3, 1) := by decide +kernel
theorem dL_law_646 : decode cL_law 646 = .ok (.iconst 1, 1) := by decide +kernel
theorem dL_law_647 : decode cL_law 647 = .ok (.iadd, 1) := by decide +kernel
theorem dL_law_648 : decode cL_law 648 = .ok (.iaload, 1) := by decide +kernel
theorem dL_law_649 : decode cL_law 649 = .ok (.aload_n 0, 1) := by decide +kernel
theorem dL_law_650 : decode cL_law 650 = .ok (.iload_n 3, 1) := by decide +kernel
theorem dL_law_651 : decode cL_law 651 = .ok (.iconst 2, 1) := by decide +kernel
theorem dL_law_652 : decode cL_law 652 = .ok (.iadd, 1) := by decide +kernel
theorem dL_law_653 : decode cL_law 653 = .ok (.iaload, 1) := by decide +kernel
theorem dL_law_654 : decode cL_law 654 = .ok (.aload_n 0, 1) := by decide +kernel
theorem dL_law_655 : decode cL_law 655 = .ok (.iload_n 3, 1) := by decide +kernel
theorem dL_law_656 : decode cL_law 656 = .ok (.iconst 3, 1) := by decide +kernel
theorem dL_law_657 : decode cL_law 657 = .ok (.iadd, 1) := by decide +kernel
theorem dL_law_658 : decode cL_law 658 = .ok (.iaload, 1) := by decide +kernel
theorem dL_law_659 : decode cL_law 659 = .ok (.ifCond .eq 7, 3) := by decide +kernel
theorem dL_law_662 : decode cL_law 662 = .ok (.iconst 1, 1) := by decide +kernel
theorem dL_law_663 : decode cL_law 663 = .ok (.goto 4, 3) := by decide +kernel
theorem dL_law_666 : decode cL_law 666 = .ok (.iconst 0, 1) := by decide +kernel
theorem dL_law_667 : decode cL_law 667 = .ok (.invokevirtual 72, 3) := by decide +kernel
theorem dL_law_670 : decode cL_law 670 = .ok (.if_icmp .eq 700, 3) := by decide +kernel
theorem dL_law_673 : decode cL_law 673 = .ok (.iconst 0, 1) := by decide +kernel
theorem dL_law_674 : decode cL_law 674 = .ok (.ireturn, 1) := by decide +kernel
theorem dL_law_675 : decode cL_law 675 = .ok (.aload_n 1, 1) := by decide +kernel
theorem dL_law_676 : decode cL_law 676 = .ok (.aload_n 0, 1) := by decide +kernel
theorem dL_law_677 : decode cL_law 677 = .ok (.iload_n 3, 1) := by decide +kernel
theorem dL_law_678 : decode cL_law 678 = .ok (.iconst 1, 1) := by decide +kernel
theorem dL_law_679 : decode cL_law 679 = .ok (.iadd, 1) := by decide +kernel
theorem dL_law_680 : decode cL_law 680 = .ok (.iaload, 1) := by decide +kernel
theorem dL_law_681 : decode cL_law 681 = .ok (.aload_n 0, 1) := by decide +kernel
theorem dL_law_682 : decode cL_law 682 = .ok (.iload_n 3, 1) := by decide +kernel
theorem dL_law_683 : decode cL_law 683 = .ok (.iconst 2, 1) := by decide +kernel
theorem dL_law_684 : decode cL_law 684 = .ok (.iadd, 1) := by decide +kernel
theorem dL_law_685 : decode cL_law 685 = .ok (.iaload, 1) := by decide +kernel
theorem dL_law_686 : decode cL_law 686 = .ok (.aload_n 0, 1) := by decide +kernel
theorem dL_law_687 : decode cL_law 687 = .ok (.iload_n 3, 1) := by decide +kernel
theorem dL_law_688 : decode cL_law 688 = .ok (.iconst 3, 1) := by decide +kernel
theorem dL_law_689 : decode cL_law 689 = .ok (.iadd, 1) := by decide +kernel
theorem dL_law_690 : decode cL_law 690 = .ok (.iaload, 1) := by decide +kernel
theorem dL_law_691 : decode cL_law 691 = .ok (.aload_n 0, 1) := by decide +kernel
theorem dL_law_692 : decode cL_law 692 = .ok (.iload_n 3, 1) := by decide +kernel
theorem dL_law_693 : decode cL_law 693 = .ok (.iconst 4, 1) := by decide +kernel
theorem dL_law_694 : decode cL_law 694 = .ok (.iadd, 1) := by decide +kernel
theorem dL_law_695 : decode cL_law 695 = .ok (.iaload, 1) := by decide +kernel
theorem dL_law_696 : decode cL_law 696 = .ok (.invokevirtual 73, 3) := by decide +kernel
theorem dL_law_699 : decode cL_law 699 = .ok (.aload_n 2, 1) := by decide +kernel
theorem dL_law_700 : decode cL_law 700 = .ok (.aload_n 0, 1) := by decide +kernel
theorem dL_law_701 : decode cL_law 701 = .ok (.iload_n 3, 1) := by decide +kernel
theorem dL_law_702 : decode cL_law 702 = .ok (.iconst 1, 1) := by decide +kernel
theorem dL_law_703 : decode cL_law 703 = .ok (.iadd, 1) := by decide +kernel
theorem dL_law_704 : decode cL_law 704 = .ok (.iaload, 1) := by decide +kernel
theorem dL_law_705 : decode cL_law 705 = .ok (.aload_n 0, 1) := by decide +kernel
theorem dL_law_706 : decode cL_law 706 = .ok (.iload_n 3, 1) := by decide +kernel
theorem dL_law_707 : decode cL_law 707 = .ok (.iconst 2, 1) := by decide +kernel
theorem dL_law_708 : decode cL_law 708 = .ok (.iadd, 1) := by decide +kernel
theorem dL_law_709 : decode cL_law 709 = .ok (.iaload, 1) := by decide +kernel
theorem dL_law_710 : decode cL_law 710 = .ok (.aload_n 0, 1) := by decide +kernel
theorem dL_law_711 : decode cL_law 711 = .ok (.iload_n 3, 1) := by decide +kernel
theorem dL_law_712 : decode cL_law 712 = .ok (.iconst 3, 1) := by decide +kernel
theorem dL_law_713 : decode cL_law 713 = .ok (.iadd, 1) := by decide +kernel
theorem dL_law_714 : decode cL_law 714 = .ok (.iaload, 1) := by decide +kernel
theorem dL_law_715 : decode cL_law 715 = .ok (.aload_n 0, 1) := by decide +kernel
theorem dL_law_716 : decode cL_law 716 = .ok (.iload_n 3, 1) := by decide +kernel
theorem dL_law_717 : decode cL_law 717 = .ok (.iconst 4, 1) := by decide +kernel
theorem dL_law_718 : decode cL_law 718 = .ok (.iadd, 1) := by decide +kernel
theorem dL_law_719 : decode cL_law 719 = .ok (.iaload, 1) := by decide +kernel
theorem dL_law_720 : decode cL_law 720 = .ok (.invokevirtual 77, 3) := by decide +kernel
theorem dL_law_723 : decode cL_law 723 = .ok (.if_icmp .eq 647, 3) := by decide +kernel
theorem dL_law_726 : decode cL_law 726 = .ok (.iconst 0, 1) := by decide +kernel
theorem dL_law_727 : decode cL_law 727 = .ok (.ireturn, 1) := by decide +kernel
theorem dL_law_728 : decode cL_law 728 = .ok (.aload_n 1, 1) := by decide +kernel
theorem dL_law_729 : decode cL_law 729 = .ok (.aload_n 0, 1) := by decide +kernel
theorem dL_law_730 : decode cL_law 730 = .ok (.iload_n 3, 1) := by decide +kernel
theorem dL_law_731 : decode cL_law 731 = .ok (.iconst 1, 1) := by decide +kernel
theorem dL_law_732 : decode cL_law 732 = .ok (.iadd, 1) := by decide +kernel
theorem dL_law_733 : decode cL_law 733 = .ok (.iaload, 1) := by decide +kernel
theorem dL_law_734 : decode cL_law 734 = .ok (.aload_n 0, 1) := by decide +kernel
theorem dL_law_735 : decode cL_law 735 = .ok (.iload_n 3, 1) := by decide +kernel
theorem dL_law_736 : decode cL_law 736 = .ok (.iconst 2, 1) := by decide +kernel
theorem dL_law_737 : decode cL_law 737 = .ok (.iadd, 1) := by decide +kernel
theorem dL_law_738 : decode cL_law 738 = .ok (.iaload, 1) := by decide +kernel
theorem dL_law_739 : decode cL_law 739 = .ok (.invokevirtual 78, 3) := by decide +kernel
theorem dL_law_742 : decode cL_law 742 = .ok (.aload_n 2, 1) := by decide +kernel
theorem dL_law_743 : decode cL_law 743 = .ok (.aload_n 0, 1) := by decide +kernel
theorem dL_law_744 : decode cL_law 744 = .ok (.iload_n 3, 1) := by decide +kernel
theorem dL_law_745 : decode cL_law 745 = .ok (.iconst 1, 1) := by decide +kernel
theorem dL_law_746 : decode cL_law 746 = .ok (.iadd, 1) := by decide +kernel
theorem dL_law_747 : decode cL_law 747 = .ok (.iaload, 1) := by decide +kernel
theorem dL_law_748 : decode cL_law 748 = .ok (.aload_n 0, 1) := by decide +kernel
theorem dL_law_749 : decode cL_law 749 = .ok (.iload_n 3, 1) := by decide +kernel
theorem dL_law_750 : decode cL_law 750 = .ok (.iconst 2, 1) := by decide +kernel
theorem dL_law_751 : decode cL_law 751 = .ok (.iadd, 1) := by decide +kernel
theorem dL_law_752 : decode cL_law 752 = .ok (.iaload, 1) := by decide +kernel
theorem dL_law_753 : decode cL_law 753 = .ok (.invokevirtual 81, 3) := by decide +kernel
theorem dL_law_756 : decode cL_law 756 = .ok (.if_icmp .eq 614, 3) := by decide +kernel
theorem dL_law_759 : decode cL_law 759 = .ok (.iconst 0, 1) := by decide +kernel
theorem dL_law_760 : decode cL_law 760 = .ok (.ireturn, 1) := by decide +kernel
theorem dL_law_761 : decode cL_law 761 = .ok (.aload_n 1, 1) := by decide +kernel
theorem dL_law_762 : decode cL_law 762 = .ok (.aload_n 0, 1) := by decide +kernel
theorem dL_law_763 : decode cL_law 763 = .ok (.iload_n 3, 1) := by decide +kernel
theorem dL_law_764 : decode cL_law 764 = .ok (.iconst 1, 1) := by decide +kernel
theorem dL_law_765 : decode cL_law 765 = .ok (.iadd, 1) := by decide +kernel
theorem dL_law_766 : decode cL_law 766 = .ok (.iaload, 1) := by decide +kernel
theorem dL_law_767 : decode cL_law 767 = .ok (.aload_n 0, 1) := by decide +kernel
theorem dL_law_768 : decode cL_law 768 = .ok (.iload_n 3, 1) := by decide +kernel
theorem dL_law_769 : decode cL_law 769 = .ok (.iconst 2, 1) := by decide +kernel
theorem dL_law_770 : decode cL_law 770 = .ok (.iadd, 1) := by decide +kernel
theorem dL_law_771 : decode cL_law 771 = .ok (.iaload, 1) := by decide +kernel
theorem dL_law_772 : decode cL_law 772 = .ok (.invokevirtual 82, 3) := by decide +kernel
theorem dL_law_775 : decode cL_law 775 = .ok (.aload_n 2, 1) := by decide +kernel
theorem dL_law_776 : decode cL_law 776 = .ok (.aload_n 0, 1) := by decide +kernel
theorem dL_law_777 : decode cL_law 777 = .ok (.iload_n 3, 1) := by decide +kernel
theorem dL_law_778 : decode cL_law 778 = .ok (.iconst 1, 1) := by decide +kernel
theorem dL_law_779 : decode cL_law 779 = .ok (.iadd, 1) := by decide +kernel
theorem dL_law_780 : decode cL_law 780 = .ok (.iaload, 1) := by decide +kernel
theorem dL_law_781 : decode cL_law 781 = .ok (.aload_n 0, 1) := by decide +kernel
theorem dL_law_782 : decode cL_law 782 = .ok (.iload_n 3, 1) := by decide +kernel
theorem dL_law_783 : decode cL_law 783 = .ok (.iconst 2, 1) := by decide +kernel
theorem dL_law_784 : decode cL_law 784 = .ok (.iadd, 1) := by decide +kernel
theorem dL_law_785 : decode cL_law 785 = .ok (.iaload, 1) := by decide +kernel
theorem dL_law_786 : decode cL_law 786 = .ok (.invokevirtual 85, 3) := by decide +kernel
theorem dL_law_789 : decode cL_law 789 = .ok (.if_icmp .eq 581, 3) := by decide +kernel
theorem dL_law_792 : decode cL_law 792 = .ok (.iconst 0, 1) := by decide +kernel
theorem dL_law_793 : decode cL_law 793 = .ok (.ireturn, 1) := by decide +kernel
theorem dL_law_794 : decode cL_law 794 = .ok (.aload_n 1, 1) := by decide +kernel
theorem dL_law_795 : decode cL_law 795 = .ok (.aload_n 0, 1) := by decide +kernel
theorem dL_law_796 : decode cL_law 796 = .ok (.iload_n 3, 1) := by decide +kernel
theorem dL_law_797 : decode cL_law 797 = .ok (.iconst 1, 1) := by decide +kernel
theorem dL_law_798 : decode cL_law 798 = .ok (.iadd, 1) := by decide +kernel
theorem dL_law_799 : decode cL_law 799 = .ok (.iaload, 1) := by decide +kernel
theorem dL_law_800 : decode cL_law 800 = .ok (.aload_n 0, 1) := by decide +kernel
theorem dL_law_801 : decode cL_law 801 = .ok (.iload_n 3, 1) := by decide +kernel
theorem dL_law_802 : decode cL_law 802 = .ok (.iconst 2, 1) := by decide +kernel
theorem dL_law_803 : decode cL_law 803 = .ok (.iadd, 1) := by decide +kernel
theorem dL_law_804 : decode cL_law 804 = .ok (.iaload, 1) := by decide +kernel
theorem dL_law_805 : decode cL_law 805 = .ok (.aload_n 0, 1) := by decide +kernel
theorem dL_law_806 : decode cL_law 806 = .ok (.iload_n 3, 1) := by decide +kernel
theorem dL_law_807 : decode cL_law 807 = .ok (.iconst 3, 1) := by decide +kernel
theorem dL_law_808 : decode cL_law 808 = .ok (.iadd, 1) := by decide +kernel
theorem dL_law_809 : decode cL_law 809 = .ok (.iaload, 1) := by decide +kernel
theorem dL_law_810 : decode cL_law 810 = .ok (.aload_n 0, 1) := by decide +kernel
theorem dL_law_811 : decode cL_law 811 = .ok (.iload_n 3, 1) := by decide +kernel
theorem dL_law_812 : decode cL_law 812 = .ok (.iconst 4, 1) := by decide +kernel
theorem dL_law_813 : decode cL_law 813 = .ok (.iadd, 1) := by decide +kernel
theorem dL_law_814 : decode cL_law 814 = .ok (.iaload, 1) := by decide +kernel
theorem dL_law_815 : decode cL_law 815 = .ok (.invokevirtual 86, 3) := by decide +kernel
theorem dL_law_818 : decode cL_law 818 = .ok (.aload_n 2, 1) := by decide +kernel
theorem dL_law_819 : decode cL_law 819 = .ok (.aload_n 0, 1) := by decide +kernel
theorem dL_law_820 : decode cL_law 820 = .ok (.iload_n 3, 1) := by decide +kernel
theorem dL_law_821 : decode cL_law 821 = .ok (.iconst 1, 1) := by decide +kernel
theorem dL_law_822 : decode cL_law 822 = .ok (.iadd, 1) := by decide +kernel
theorem dL_law_823 : decode cL_law 823 = .ok (.iaload, 1) := by decide +kernel
theorem dL_law_824 : decode cL_law 824 = .ok (.aload_n 0, 1) := by decide +kernel
theorem dL_law_825 : decode cL_law 825 = .ok (.iload_n 3, 1) := by decide +kernel
theorem dL_law_826 : decode cL_law 826 = .ok (.iconst 2, 1) := by decide +kernel
theorem dL_law_827 : decode cL_law 827 = .ok (.iadd, 1) := by decide +kernel
theorem dL_law_828 : decode cL_law 828 = .ok (.iaload, 1) := by decide +kernel
theorem dL_law_829 : decode cL_law 829 = .ok (.aload_n 0, 1) := by decide +kernel
theorem dL_law_830 : decode cL_law 830 = .ok (.iload_n 3, 1) := by decide +kernel
theorem dL_law_831 : decode cL_law 831 = .ok (.iconst 3, 1) := by decide +kernel
theorem dL_law_832 : decode cL_law 832 = .ok (.iadd, 1) := by decide +kernel
theorem dL_law_833 : decode cL_law 833 = .ok (.iaload, 1) := by decide +kernel
theorem dL_law_834 : decode cL_law 834 = .ok (.aload_n 0, 1) := by decide +kernel
theorem dL_law_835 : decode cL_law 835 = .ok (.iload_n 3, 1) := by decide +kernel
theorem dL_law_836 : decode cL_law 836 = .ok (.iconst 4, 1) := by decide +kernel
theorem dL_law_837 : decode cL_law 837 = .ok (.iadd, 1) := by decide +kernel
theorem dL_law_838 : decode cL_law 838 = .ok (.iaload, 1) := by decide +kernel
theorem dL_law_839 : decode cL_law 839 = .ok (.invokevirtual 89, 3) := by decide +kernel
theorem dL_law_842 : decode cL_law 842 = .ok (.if_icmp .eq 528, 3) := by decide +kernel
theorem dL_law_845 : decode cL_law 845 = .ok (.iconst 0, 1) := by decide +kernel
theorem dL_law_846 : decode cL_law 846 = .ok (.ireturn, 1) := by decide +kernel
theorem dL_law_847 : decode cL_law 847 = .ok (.aload_n 1, 1) := by decide +kernel
theorem dL_law_848 : decode cL_law 848 = .ok (.aload_n 0, 1) := by decide +kernel
theorem dL_law_849 : decode cL_law 849 = .ok (.iload_n 3, 1) := by decide +kernel
theorem dL_law_850 : decode cL_law 850 = .ok (.iconst 1, 1) := by decide +kernel
theorem dL_law_851 : decode cL_law 851 = .ok (.iadd, 1) := by decide +kernel
theorem dL_law_852 : decode cL_law 852 = .ok (.iaload, 1) := by decide +kernel
theorem dL_law_853 : decode cL_law 853 = .ok (.aload_n 0, 1) := by decide +kernel
theorem dL_law_854 : decode cL_law 854 = .ok (.iload_n 3, 1) := by decide +kernel
theorem dL_law_855 : decode cL_law 855 = .ok (.iconst 2, 1) := by decide +kernel
theorem dL_law_856 : decode cL_law 856 = .ok (.iadd, 1) := by decide +kernel
theorem dL_law_857 : decode cL_law 857 = .ok (.iaload, 1) := by decide +kernel
theorem dL_law_858 : decode cL_law 858 = .ok (.aload_n 0, 1) := by decide +kernel
theorem dL_law_859 : decode cL_law 859 = .ok (.iload_n 3, 1) := by decide +kernel
theorem dL_law_860 : decode cL_law 860 = .ok (.iconst 3, 1) := by decide +kernel
theorem dL_law_861 : decode cL_law 861 = .ok (.iadd, 1) := by decide +kernel
theorem dL_law_862 : decode cL_law 862 = .ok (.iaload, 1) := by decide +kernel
theorem dL_law_863 : decode cL_law 863 = .ok (.invokevirtual 90, 3) := by decide +kernel
theorem dL_law_866 : decode cL_law 866 = .ok (.aload_n 2, 1) := by decide +kernel
theorem dL_law_867 : decode cL_law 867 = .ok (.aload_n 0, 1) := by decide +kernel
theorem dL_law_868 : decode cL_law 868 = .ok (.iload_n 3, 1) := by decide +kernel
theorem dL_law_869 : decode cL_law 869 = .ok (.iconst 1, 1) := by decide +kernel
theorem dL_law_870 : decode cL_law 870 = .ok (.iadd, 1) := by decide +kernel
theorem dL_law_871 : decode cL_law 871 = .ok (.iaload, 1) := by decide +kernel
theorem dL_law_872 : decode cL_law 872 = .ok (.aload_n 0, 1) := by decide +kernel
theorem dL_law_873 : decode cL_law 873 = .ok (.iload_n 3, 1) := by decide +kernel
theorem dL_law_874 : decode cL_law 874 = .ok (.iconst 2, 1) := by decide +kernel
theorem dL_law_875 : decode cL_law 875 = .ok (.iadd, 1) := by decide +kernel
theorem dL_law_876 : decode cL_law 876 = .ok (.iaload, 1) := by decide +kernel
theorem dL_law_877 : decode cL_law 877 = .ok (.aload_n 0, 1) := by decide +kernel
theorem dL_law_878 : decode cL_law 878 = .ok (.iload_n 3, 1) := by decide +kernel
theorem dL_law_879 : decode cL_law 879 = .ok (.iconst 3, 1) := by decide +kernel
theorem dL_law_880 : decode cL_law 880 = .ok (.iadd, 1) := by decide +kernel
theorem dL_law_881 : decode cL_law 881 = .ok (.iaload, 1) := by decide +kernel
theorem dL_law_882 : decode cL_law 882 = .ok (.invokevirtual 93, 3) := by decide +kernel
theorem dL_law_885 : decode cL_law 885 = .ok (.if_icmp .eq 485, 3) := by decide +kernel
theorem dL_law_888 : decode cL_law 888 = .ok (.iconst 0, 1) := by decide +kernel
theorem dL_law_889 : decode cL_law 889 = .ok (.ireturn, 1) := by decide +kernel
theorem dL_law_890 : decode cL_law 890 = .ok (.aload_n 1, 1) := by decide +kernel
theorem dL_law_891 : decode cL_law 891 = .ok (.aload_n 0, 1) := by decide +kernel
theorem dL_law_892 : decode cL_law 892 = .ok (.iload_n 3, 1) := by decide +kernel
theorem dL_law_893 : decode cL_law 893 = .ok (.iconst 1, 1) := by decide +kernel
theorem dL_law_894 : decode cL_law 894 = .ok (.iadd, 1) := by decide +kernel
theorem dL_law_895 : decode cL_law 895 = .ok (.iaload, 1) := by decide +kernel
theorem dL_law_896 : decode cL_law 896 = .ok (.aload_n 0, 1) := by decide +kernel
theorem dL_law_897 : decode cL_law 897 = .ok (.iload_n 3, 1) := by decide +kernel
theorem dL_law_898 : decode cL_law 898 = .ok (.iconst 2, 1) := by decide +kernel
theorem dL_law_899 : decode cL_law 899 = .ok (.iadd, 1) := by decide +kernel
theorem dL_law_900 : decode cL_law 900 = .ok (.iaload, 1) := by decide +kernel
theorem dL_law_901 : decode cL_law 901 = .ok (.aload_n 0, 1) := by decide +kernel
theorem dL_law_902 : decode cL_law 902 = .ok (.iload_n 3, 1) := by decide +kernel
theorem dL_law_903 : decode cL_law 903 = .ok (.iconst 3, 1) := by decide +kernel
theorem dL_law_904 : decode cL_law 904 = .ok (.iadd, 1) := by decide +kernel
theorem dL_law_905 : decode cL_law 905 = .ok (.iaload, 1) := by decide +kernel
theorem dL_law_906 : decode cL_law 906 = .ok (.aload_n 0, 1) := by decide +kernel
theorem dL_law_907 : decode cL_law 907 = .ok (.iload_n 3, 1) := by decide +kernel
theorem dL_law_908 : decode cL_law 908 = .ok (.iconst 4, 1) := by decide +kernel
theorem dL_law_909 : decode cL_law 909 = .ok (.iadd, 1) := by decide +kernel
theorem dL_law_910 : decode cL_law 910 = .ok (.iaload, 1) := by decide +kernel
theorem dL_law_911 : decode cL_law 911 = .ok (.aload_n 0, 1) := by decide +kernel
theorem dL_law_912 : decode cL_law 912 = .ok (.iload_n 3, 1) := by decide +kernel
theorem dL_law_913 : decode cL_law 913 = .ok (.iconst 5, 1) := by decide +kernel
theorem dL_law_914 : decode cL_law 914 = .ok (.iadd, 1) := by decide +kernel
theorem dL_law_915 : decode cL_law 915 = .ok (.iaload, 1) := by decide +kernel
theorem dL_law_916 : decode cL_law 916 = .ok (.invokevirtual 94, 3) := by decide +kernel
theorem dL_law_919 : decode cL_law 919 = .ok (.aload_n 2, 1) := by decide +kernel
theorem dL_law_920 : decode cL_law 920 = .ok (.aload_n 0, 1) := by decide +kernel
theorem dL_law_921 : decode cL_law 921 = .ok (.iload_n 3, 1) := by decide +kernel
theorem dL_law_922 : decode cL_law 922 = .ok (.iconst 1, 1) := by decide +kernel
theorem dL_law_923 : decode cL_law 923 = .ok (.iadd, 1) := by decide +kernel
theorem dL_law_924 : decode cL_law 924 = .ok (.iaload, 1) := by decide +kernel
theorem dL_law_925 : decode cL_law 925 = .ok (.aload_n 0, 1) := by decide +kernel
theorem dL_law_926 : decode cL_law 926 = .ok (.iload_n 3, 1) := by decide +kernel
theorem dL_law_927 : decode cL_law 927 = .ok (.iconst 2, 1) := by decide +kernel
theorem dL_law_928 : decode cL_law 928 = .ok (.iadd, 1) := by decide +kernel
theorem dL_law_929 : decode cL_law 929 = .ok (.iaload, 1) := by decide +kernel
theorem dL_law_930 : decode cL_law 930 = .ok (.aload_n 0, 1) := by decide +kernel
theorem dL_law_931 : decode cL_law 931 = .ok (.iload_n 3, 1) := by decide +kernel
theorem dL_law_932 : decode cL_law 932 = .ok (.iconst 3, 1) := by decide +kernel
theorem dL_law_933 : decode cL_law 933 = .ok (.iadd, 1) := by decide +kernel
theorem dL_law_934 : decode cL_law 934 = .ok (.iaload, 1) := by decide +kernel
theorem dL_law_935 : decode cL_law 935 = .ok (.aload_n 0, 1) := by decide +kernel
theorem dL_law_936 : decode cL_law 936 = .ok (.iload_n 3, 1) := by decide +kernel
theorem dL_law_937 : decode cL_law 937 = .ok (.iconst 4, 1) := by decide +kernel
theorem dL_law_938 : decode cL_law 938 = .ok (.iadd, 1) := by decide +kernel
theorem dL_law_939 : decode cL_law 939 = .ok (.iaload, 1) := by decide +kernel
theorem dL_law_940 : decode cL_law 940 = .ok (.aload_n 0, 1) := by decide +kernel
theorem dL_law_941 : decode cL_law 941 = .ok (.iload_n 3, 1) := by decide +kernel
theorem dL_law_942 : decode cL_law 942 = .ok (.iconst 5, 1) := by decide +kernel
theorem dL_law_943 : decode cL_law 943 = .ok (.iadd, 1) := by decide +kernel
theorem dL_law_944 : decode cL_law 944 = .ok (.iaload, 1) := by decide +kernel
theorem dL_law_945 : decode cL_law 945 = .ok (.invokevirtual 97, 3) := by decide +kernel
theorem dL_law_948 : decode cL_law 948 = .ok (.if_icmp .eq 422, 3) := by decide +kernel
theorem dL_law_951 : decode cL_law 951 = .ok (.iconst 0, 1) := by decide +kernel
theorem dL_law_952 : decode cL_law 952 = .ok (.ireturn, 1) := by decide +kernel
theorem dL_law_953 : decode cL_law 953 = .ok (.aload_n 1, 1) := by decide +kernel
theorem dL_law_954 : decode cL_law 954 = .ok (.aload_n 0, 1) := by decide +kernel
theorem dL_law_955 : decode cL_law 955 = .ok (.iload_n 3, 1) := by decide +kernel
theorem dL_law_956 : decode cL_law 956 = .ok (.iconst 1, 1) := by decide +kernel
theorem dL_law_957 : decode cL_law 957 = .ok (.iadd, 1) := by decide +kernel
theorem dL_law_958 : decode cL_law 958 = .ok (.iaload, 1) := by decide +kernel
theorem dL_law_959 : decode cL_law 959 = .ok (.aload_n 0, 1) := by decide +kernel
theorem dL_law_960 : decode cL_law 960 = .ok (.iload_n 3, 1) := by decide +kernel
theorem dL_law_961 : decode cL_law 961 = .ok (.iconst 2, 1) := by decide +kernel
theorem dL_law_962 : decode cL_law 962 = .ok (.iadd, 1) := by decide +kernel
theorem dL_law_963 : decode cL_law 963 = .ok (.iaload, 1) := by decide +kernel
theorem dL_law_964 : decode cL_law 964 = .ok (.aload_n 0, 1) := by decide +kernel
theorem dL_law_965 : decode cL_law 965 = .ok (.iload_n 3, 1) := by decide +kernel
theorem dL_law_966 : decode cL_law 966 = .ok (.iconst 3, 1) := by decide +kernel
theorem dL_law_967 : decode cL_law 967 = .ok (.iadd, 1) := by decide +kernel
theorem dL_law_968 : decode cL_law 968 = .ok (.iaload, 1) := by decide +kernel
theorem dL_law_969 : decode cL_law 969 = .ok (.aload_n 0, 1) := by decide +kernel
theorem dL_law_970 : decode cL_law 970 = .ok (.iload_n 3, 1) := by decide +kernel
theorem dL_law_971 : decode cL_law 971 = .ok (.iconst 4, 1) := by decide +kernel
theorem dL_law_972 : decode cL_law 972 = .ok (.iadd, 1) := by decide +kernel
theorem dL_law_973 : decode cL_law 973 = .ok (.iaload, 1) := by decide +kernel
theorem dL_law_974 : decode cL_law 974 = .ok (.aload_n 0, 1) := by decide +kernel
theorem dL_law_975 : decode cL_law 975 = .ok (.iload_n 3, 1) := by decide +kernel
theorem dL_law_976 : decode cL_law 976 = .ok (.iconst 5, 1) := by decide +kernel
theorem dL_law_977 : decode cL_law 977 = .ok (.iadd, 1) := by decide +kernel
theorem dL_law_978 : decode cL_law 978 = .ok (.iaload, 1) := by decide +kernel
theorem dL_law_979 : decode cL_law 979 = .ok (.invokevirtual 98, 3) := by decide +kernel
theorem dL_law_982 : decode cL_law 982 = .ok (.aload_n 2, 1) := by decide +kernel
theorem dL_law_983 : decode cL_law 983 = .ok (.aload_n 0, 1) := by decide +kernel
theorem dL_law_984 : decode cL_law 984 = .ok (.iload_n 3, 1) := by decide +kernel
theorem dL_law_985 : decode cL_law 985 = .ok (.iconst 1, 1) := by decide +kernel
theorem dL_law_986 : decode cL_law 986 = .ok (.iadd, 1) := by decide +kernel
theorem dL_law_987 : decode cL_law 987 = .ok (.iaload, 1) := by decide +kernel
theorem dL_law_988 : decode cL_law 988 = .ok (.aload_n 0, 1) := by decide +kernel
theorem dL_law_989 : decode cL_law 989 = .ok (.iload_n 3, 1) := by decide +kernel
theorem dL_law_990 : decode cL_law 990 = .ok (.iconst 2, 1) := by decide +kernel
theorem dL_law_991 : decode cL_law 991 = .ok (.iadd, 1) := by decide +kernel
theorem dL_law_992 : decode cL_law 992 = .ok (.iaload, 1) := by decide +kernel
theorem dL_law_993 : decode cL_law 993 = .ok (.aload_n 0, 1) := by decide +kernel
theorem dL_law_994 : decode cL_law 994 = .ok (.iload_n 3, 1) := by decide +kernel
theorem dL_law_995 : decode cL_law 995 = .ok (.iconst 3, 1) := by decide +kernel
theorem dL_law_996 : decode cL_law 996 = .ok (.iadd, 1) := by decide +kernel
theorem dL_law_997 : decode cL_law 997 = .ok (.iaload, 1) := by decide +kernel
theorem dL_law_998 : decode cL_law 998 = .ok (.aload_n 0, 1) := by decide +kernel
theorem dL_law_999 : decode cL_law 999 = .ok (.iload_n 3, 1) := by decide +kernel
theorem dL_law_1000 : decode cL_law 1000 = .ok (.iconst 4, 1) := by decide +kernel
theorem dL_law_1001 : decode cL_law 1001 = .ok (.iadd, 1) := by decide +kernel
theorem dL_law_1002 : decode cL_law 1002 = .ok (.iaload, 1) := by decide +kernel
theorem dL_law_1003 : decode cL_law 1003 = .ok (.aload_n 0, 1) := by decide +kernel
theorem dL_law_1004 : decode cL_law 1004 = .ok (.iload_n 3, 1) := by decide +kernel
theorem dL_law_1005 : decode cL_law 1005 = .ok (.iconst 5, 1) := by decide +kernel
theorem dL_law_1006 : decode cL_law 1006 = .ok (.iadd, 1) := by decide +kernel
theorem dL_law_1007 : decode cL_law 1007 = .ok (.iaload, 1) := by decide +kernel
theorem dL_law_1008 : decode cL_law 1008 = .ok (.invokevirtual 101, 3) := by decide +kernel
theorem dL_law_1011 : decode cL_law 1011 = .ok (.if_icmp .eq 359, 3) := by decide +kernel
theorem dL_law_1014 : decode cL_law 1014 = .ok (.iconst 0, 1) := by decide +kernel
theorem dL_law_1015 : decode cL_law 1015 = .ok (.ireturn, 1) := by decide +kernel
theorem dL_law_1016 : decode cL_law 1016 = .ok (.aload_n 1, 1) := by decide +kernel
theorem dL_law_1017 : decode cL_law 1017 = .ok (.aload_n 0, 1) := by decide +kernel
theorem dL_law_1018 : decode cL_law 1018 = .ok (.iload_n 3, 1) := by decide +kernel
theorem dL_law_1019 : decode cL_law 1019 = .ok (.iconst 1, 1) := by decide +kernel
theorem dL_law_1020 : decode cL_law 1020 = .ok (.iadd, 1) := by decide +kernel
theorem dL_law_1021 : decode cL_law 1021 = .ok (.iaload, 1) := by decide +kernel
theorem dL_law_1022 : decode cL_law 1022 = .ok (.aload_n 0, 1) := by decide +kernel
theorem dL_law_1023 : decode cL_law 1023 = .ok (.iload_n 3, 1) := by decide +kernel
theorem dL_law_1024 : decode cL_law 1024 = .ok (.iconst 2, 1) := by decide +kernel
theorem dL_law_1025 : decode cL_law 1025 = .ok (.iadd, 1) := by decide +kernel
theorem dL_law_1026 : decode cL_law 1026 = .ok (.iaload, 1) := by decide +kernel
theorem dL_law_1027 : decode cL_law 1027 = .ok (.invokevirtual 102, 3) := by decide +kernel
theorem dL_law_1030 : decode cL_law 1030 = .ok (.aload_n 2, 1) := by decide +kernel
theorem dL_law_1031 : decode cL_law 1031 = .ok (.aload_n 0, 1) := by decide +kernel
theorem dL_law_1032 : decode cL_law 1032 = .ok (.iload_n 3, 1) := by decide +kernel
theorem dL_law_1033 : decode cL_law 1033 = .ok (.iconst 1, 1) := by decide +kernel
theorem dL_law_1034 : decode cL_law 1034 = .ok (.iadd, 1) := by decide +kernel
theorem dL_law_1035 : decode cL_law 1035 = .ok (.iaload, 1) := by decide +kernel
theorem dL_law_1036 : decode cL_law 1036 = .ok (.aload_n 0, 1) := by decide +kernel
theorem dL_law_1037 : decode cL_law 1037 = .ok (.iload_n 3, 1) := by decide +kernel
theorem dL_law_1038 : decode cL_law 1038 = .ok (.iconst 2, 1) := by decide +kernel
theorem dL_law_1039 : decode cL_law 1039 = .ok (.iadd, 1) := by decide +kernel
theorem dL_law_1040 : decode cL_law 1040 = .ok (.iaload, 1) := by decide +kernel
theorem dL_law_1041 : decode cL_law 1041 = .ok (.invokevirtual 105, 3) := by decide +kernel
theorem dL_law_1044 : decode cL_law 1044 = .ok (.if_icmp .eq 326, 3) := by decide +kernel
theorem dL_law_1047 : decode cL_law 1047 = .ok (.iconst 0, 1) := by decide +kernel
theorem dL_law_1048 : decode cL_law 1048 = .ok (.ireturn, 1) := by decide +kernel
theorem dL_law_1049 : decode cL_law 1049 = .ok (.aload_n 1, 1) := by decide +kernel
theorem dL_law_1050 : decode cL_law 1050 = .ok (.aload_n 0, 1) := by decide +kernel
theorem dL_law_1051 : decode cL_law 1051 = .ok (.iload_n 3, 1) := by decide +kernel
theorem dL_law_1052 : decode cL_law 1052 = .ok (.iconst 1, 1) := by decide +kernel
theorem dL_law_1053 : decode cL_law 1053 = .ok (.iadd, 1) := by decide +kernel
theorem dL_law_1054 : decode cL_law 1054 = .ok (.iaload, 1) := by decide +kernel
theorem dL_law_1055 : decode cL_law 1055 = .ok (.aload_n 0, 1) := by decide +kernel
theorem dL_law_1056 : decode cL_law 1056 = .ok (.iload_n 3, 1) := by decide +kernel
theorem dL_law_1057 : decode cL_law 1057 = .ok (.iconst 2, 1) := by decide +kernel
theorem dL_law_1058 : decode cL_law 1058 = .ok (.iadd, 1) := by decide +kernel
theorem dL_law_1059 : decode cL_law 1059 = .ok (.iaload, 1) := by decide +kernel
theorem dL_law_1060 : decode cL_law 1060 = .ok (.aload_n 0, 1) := by decide +kernel
theorem dL_law_1061 : decode cL_law 1061 = .ok (.iload_n 3, 1) := by decide +kernel
theorem dL_law_1062 : decode cL_law 1062 = .ok (.iconst 3, 1) := by decide +kernel
theorem dL_law_1063 : decode cL_law 1063 = .ok (.iadd, 1) := by decide +kernel
theorem dL_law_1064 : decode cL_law 1064 = .ok (.iaload, 1) := by decide +kernel
theorem dL_law_1065 : decode cL_law 1065 = .ok (.invokevirtual 106, 3) := by decide +kernel
theorem dL_law_1068 : decode cL_law 1068 = .ok (.aload_n 2, 1) := by decide +kernel
theorem dL_law_1069 : decode cL_law 1069 = .ok (.aload_n 0, 1) := by decide +kernel
theorem dL_law_1070 : decode cL_law 1070 = .ok (.iload_n 3, 1) := by decide +kernel
theorem dL_law_1071 : decode cL_law 1071 = .ok (.iconst 1, 1) := by decide +kernel
theorem dL_law_1072 : decode cL_law 1072 = .ok (.iadd, 1) := by decide +kernel
theorem dL_law_1073 : decode cL_law 1073 = .ok (.iaload, 1) := by decide +kernel
theorem dL_law_1074 : decode cL_law 1074 = .ok (.aload_n 0, 1) := by decide +kernel
theorem dL_law_1075 : decode cL_law 1075 = .ok (.iload_n 3, 1) := by decide +kernel
theorem dL_law_1076 : decode cL_law 1076 = .ok (.iconst 2, 1) := by decide +kernel
theorem dL_law_1077 : decode cL_law 1077 = .ok (.iadd, 1) := by decide +kernel
theorem dL_law_1078 : decode cL_law 1078 = .ok (.iaload, 1) := by decide +kernel
theorem dL_law_1079 : decode cL_law 1079 = .ok (.aload_n 0, 1) := by decide +kernel
theorem dL_law_1080 : decode cL_law 1080 = .ok (.iload_n 3, 1) := by decide +kernel
theorem dL_law_1081 : decode cL_law 1081 = .ok (.iconst 3, 1) := by decide +kernel
theorem dL_law_1082 : decode cL_law 1082 = .ok (.iadd, 1) := by decide +kernel
theorem dL_law_1083 : decode cL_law 1083 = .ok (.iaload, 1) := by decide +kernel
theorem dL_law_1084 : decode cL_law 1084 = .ok (.invokevirtual 110, 3) := by decide +kernel
theorem dL_law_1087 : decode cL_law 1087 = .ok (.lcmp, 1) := by decide +kernel
theorem dL_law_1088 : decode cL_law 1088 = .ok (.ifCond .eq 282, 3) := by decide +kernel
theorem dL_law_1091 : decode cL_law 1091 = .ok (.iconst 0, 1) := by decide +kernel
theorem dL_law_1092 : decode cL_law 1092 = .ok (.ireturn, 1) := by decide +kernel
theorem dL_law_1093 : decode cL_law 1093 = .ok (.aload_n 1, 1) := by decide +kernel
theorem dL_law_1094 : decode cL_law 1094 = .ok (.aload_n 0, 1) := by decide +kernel
theorem dL_law_1095 : decode cL_law 1095 = .ok (.iload_n 3, 1) := by decide +kernel
theorem dL_law_1096 : decode cL_law 1096 = .ok (.iconst 1, 1) := by decide +kernel
theorem dL_law_1097 : decode cL_law 1097 = .ok (.iadd, 1) := by decide +kernel
theorem dL_law_1098 : decode cL_law 1098 = .ok (.iaload, 1) := by decide +kernel
theorem dL_law_1099 : decode cL_law 1099 = .ok (.invokevirtual 111, 3) := by decide +kernel
theorem dL_law_1102 : decode cL_law 1102 = .ok (.aload_n 2, 1) := by decide +kernel
theorem dL_law_1103 : decode cL_law 1103 = .ok (.aload_n 0, 1) := by decide +kernel
theorem dL_law_1104 : decode cL_law 1104 = .ok (.iload_n 3, 1) := by decide +kernel
theorem dL_law_1105 : decode cL_law 1105 = .ok (.iconst 1, 1) := by decide +kernel
theorem dL_law_1106 : decode cL_law 1106 = .ok (.iadd, 1) := by decide +kernel
theorem dL_law_1107 : decode cL_law 1107 = .ok (.iaload, 1) := by decide +kernel
theorem dL_law_1108 : decode cL_law 1108 = .ok (.invokevirtual 114, 3) := by decide +kernel
theorem dL_law_1111 : decode cL_law 1111 = .ok (.if_icmp .eq 259, 3) := by decide +kernel
theorem dL_law_1114 : decode cL_law 1114 = .ok (.iconst 0, 1) := by decide +kernel
theorem dL_law_1115 : decode cL_law 1115 = .ok (.ireturn, 1) := by decide +kernel
theorem dL_law_1116 : decode cL_law 1116 = .ok (.aload_n 1, 1) := by decide +kernel
theorem dL_law_1117 : decode cL_law 1117 = .ok (.aload_n 0, 1) := by decide +kernel
theorem dL_law_1118 : decode cL_law 1118 = .ok (.iload_n 3, 1) := by decide +kernel
theorem dL_law_1119 : decode cL_law 1119 = .ok (.iconst 1, 1) := by decide +kernel
theorem dL_law_1120 : decode cL_law 1120 = .ok (.iadd, 1) := by decide +kernel
theorem dL_law_1121 : decode cL_law 1121 = .ok (.iaload, 1) := by decide +kernel
theorem dL_law_1122 : decode cL_law 1122 = .ok (.aload_n 0, 1) := by decide +kernel
theorem dL_law_1123 : decode cL_law 1123 = .ok (.iload_n 3, 1) := by decide +kernel
theorem dL_law_1124 : decode cL_law 1124 = .ok (.iconst 2, 1) := by decide +kernel
theorem dL_law_1125 : decode cL_law 1125 = .ok (.iadd, 1) := by decide +kernel
theorem dL_law_1126 : decode cL_law 1126 = .ok (.iaload, 1) := by decide +kernel
theorem dL_law_1127 : decode cL_law 1127 = .ok (.invokevirtual 115, 3) := by decide +kernel
theorem dL_law_1130 : decode cL_law 1130 = .ok (.aload_n 2, 1) := by decide +kernel
theorem dL_law_1131 : decode cL_law 1131 = .ok (.aload_n 0, 1) := by decide +kernel
theorem dL_law_1132 : decode cL_law 1132 = .ok (.iload_n 3, 1) := by decide +kernel
theorem dL_law_1133 : decode cL_law 1133 = .ok (.iconst 1, 1) := by decide +kernel
theorem dL_law_1134 : decode cL_law 1134 = .ok (.iadd, 1) := by decide +kernel
theorem dL_law_1135 : decode cL_law 1135 = .ok (.iaload, 1) := by decide +kernel
theorem dL_law_1136 : decode cL_law 1136 = .ok (.aload_n 0, 1) := by decide +kernel
theorem dL_law_1137 : decode cL_law 1137 = .ok (.iload_n 3, 1) := by decide +kernel
theorem dL_law_1138 : decode cL_law 1138 = .ok (.iconst 2, 1) := by decide +kernel
theorem dL_law_1139 : decode cL_law 1139 = .ok (.iadd, 1) := by decide +kernel
theorem dL_law_1140 : decode cL_law 1140 = .ok (.iaload, 1) := by decide +kernel
theorem dL_law_1141 : decode cL_law 1141 = .ok (.invokevirtual 118, 3) := by decide +kernel
theorem dL_law_1144 : decode cL_law 1144 = .ok (.if_icmp .eq 226, 3) := by decide +kernel
theorem dL_law_1147 : decode cL_law 1147 = .ok (.iconst 0, 1) := by decide +kernel
theorem dL_law_1148 : decode cL_law 1148 = .ok (.ireturn, 1) := by decide +kernel
theorem dL_law_1149 : decode cL_law 1149 = .ok (.aload_n 1, 1) := by decide +kernel
theorem dL_law_1150 : decode cL_law 1150 = .ok (.aload_n 0, 1) := by decide +kernel
theorem dL_law_1151 : decode cL_law 1151 = .ok (.iload_n 3, 1) := by decide +kernel
theorem dL_law_1152 : decode cL_law 1152 = .ok (.iconst 1, 1) := by decide +kernel
theorem dL_law_1153 : decode cL_law 1153 = .ok (.iadd, 1) := by decide +kernel
theorem dL_law_1154 : decode cL_law 1154 = .ok (.iaload, 1) := by decide +kernel
theorem dL_law_1155 : decode cL_law 1155 = .ok (.invokevirtual 119, 3) := by decide +kernel
theorem dL_law_1158 : decode cL_law 1158 = .ok (.aload_n 2, 1) := by decide +kernel
theorem dL_law_1159 : decode cL_law 1159 = .ok (.aload_n 0, 1) := by decide +kernel
theorem dL_law_1160 : decode cL_law 1160 = .ok (.iload_n 3, 1) := by decide +kernel
theorem dL_law_1161 : decode cL_law 1161 = .ok (.iconst 1, 1) := by decide +kernel
theorem dL_law_1162 : decode cL_law 1162 = .ok (.iadd, 1) := by decide +kernel
theorem dL_law_1163 : decode cL_law 1163 = .ok (.iaload, 1) := by decide +kernel
theorem dL_law_1164 : decode cL_law 1164 = .ok (.invokevirtual 122, 3) := by decide +kernel
theorem dL_law_1167 : decode cL_law 1167 = .ok (.if_icmp .eq 203, 3) := by decide +kernel
theorem dL_law_1170 : decode cL_law 1170 = .ok (.iconst 0, 1) := by decide +kernel
theorem dL_law_1171 : decode cL_law 1171 = .ok (.ireturn, 1) := by decide +kernel
theorem dL_law_1172 : decode cL_law 1172 = .ok (.aload_n 1, 1) := by decide +kernel
theorem dL_law_1173 : decode cL_law 1173 = .ok (.aload_n 0, 1) := by decide +kernel
theorem dL_law_1174 : decode cL_law 1174 = .ok (.iload_n 3, 1) := by decide +kernel
theorem dL_law_1175 : decode cL_law 1175 = .ok (.iconst 1, 1) := by decide +kernel
theorem dL_law_1176 : decode cL_law 1176 = .ok (.iadd, 1) := by decide +kernel
theorem dL_law_1177 : decode cL_law 1177 = .ok (.iaload, 1) := by decide +kernel
theorem dL_law_1178 : decode cL_law 1178 = .ok (.invokevirtual 123, 3) := by decide +kernel
theorem dL_law_1181 : decode cL_law 1181 = .ok (.aload_n 2, 1) := by decide +kernel
theorem dL_law_1182 : decode cL_law 1182 = .ok (.aload_n 0, 1) := by decide +kernel
theorem dL_law_1183 : decode cL_law 1183 = .ok (.iload_n 3, 1) := by decide +kernel
theorem dL_law_1184 : decode cL_law 1184 = .ok (.iconst 1, 1) := by decide +kernel
theorem dL_law_1185 : decode cL_law 1185 = .ok (.iadd, 1) := by decide +kernel
theorem dL_law_1186 : decode cL_law 1186 = .ok (.iaload, 1) := by decide +kernel
theorem dL_law_1187 : decode cL_law 1187 = .ok (.invokevirtual 126, 3) := by decide +kernel
theorem dL_law_1190 : decode cL_law 1190 = .ok (.if_icmp .eq 180, 3) := by decide +kernel
theorem dL_law_1193 : decode cL_law 1193 = .ok (.iconst 0, 1) := by decide +kernel
theorem dL_law_1194 : decode cL_law 1194 = .ok (.ireturn, 1) := by decide +kernel
theorem dL_law_1195 : decode cL_law 1195 = .ok (.aload_n 1, 1) := by decide +kernel
theorem dL_law_1196 : decode cL_law 1196 = .ok (.aload_n 0, 1) := by decide +kernel
theorem dL_law_1197 : decode cL_law 1197 = .ok (.iload_n 3, 1) := by decide +kernel
theorem dL_law_1198 : decode cL_law 1198 = .ok (.iconst 1, 1) := by decide +kernel
theorem dL_law_1199 : decode cL_law 1199 = .ok (.iadd, 1) := by decide +kernel
theorem dL_law_1200 : decode cL_law 1200 = .ok (.iaload, 1) := by decide +kernel
theorem dL_law_1201 : decode cL_law 1201 = .ok (.aload_n 0, 1) := by decide +kernel
theorem dL_law_1202 : decode cL_law 1202 = .ok (.iload_n 3, 1) := by decide +kernel
theorem dL_law_1203 : decode cL_law 1203 = .ok (.iconst 2, 1) := by decide +kernel
theorem dL_law_1204 : decode cL_law 1204 = .ok (.iadd, 1) := by decide +kernel
theorem dL_law_1205 : decode cL_law 1205 = .ok (.iaload, 1) := by decide +kernel
theorem dL_law_1206 : decode cL_law 1206 = .ok (.invokevirtual 127, 3) := by decide +kernel
theorem dL_law_1209 : decode cL_law 1209 = .ok (.aload_n 2, 1) := by decide +kernel
theorem dL_law_1210 : decode cL_law 1210 = .ok (.aload_n 0, 1) := by decide +kernel
theorem dL_law_1211 : decode cL_law 1211 = .ok (.iload_n 3, 1) := by decide +kernel
theorem dL_law_1212 : decode cL_law 1212 = .ok (.iconst 1, 1) := by decide +kernel
theorem dL_law_1213 : decode cL_law 1213 = .ok (.iadd, 1) := by decide +kernel
theorem dL_law_1214 : decode cL_law 1214 = .ok (.iaload, 1) := by decide +kernel
theorem dL_law_1215 : decode cL_law 1215 = .ok (.aload_n 0, 1) := by decide +kernel
theorem dL_law_1216 : decode cL_law 1216 = .ok (.iload_n 3, 1) := by decide +kernel
theorem dL_law_1217 : decode cL_law 1217 = .ok (.iconst 2, 1) := by decide +kernel
theorem dL_law_1218 : decode cL_law 1218 = .ok (.iadd, 1) := by decide +kernel
theorem dL_law_1219 : decode cL_law 1219 = .ok (.iaload, 1) := by decide +kernel
theorem dL_law_1220 : decode cL_law 1220 = .ok (.invokevirtual 130, 3) := by decide +kernel
theorem dL_law_1223 : decode cL_law 1223 = .ok (.if_icmp .eq 147, 3) := by decide +kernel
theorem dL_law_1226 : decode cL_law 1226 = .ok (.iconst 0, 1) := by decide +kernel
theorem dL_law_1227 : decode cL_law 1227 = .ok (.ireturn, 1) := by decide +kernel
theorem dL_law_1228 : decode cL_law 1228 = .ok (.aload_n 1, 1) := by decide +kernel
theorem dL_law_1229 : decode cL_law 1229 = .ok (.aload_n 0, 1) := by decide +kernel
theorem dL_law_1230 : decode cL_law 1230 = .ok (.iload_n 3, 1) := by decide +kernel
theorem dL_law_1231 : decode cL_law 1231 = .ok (.iconst 1, 1) := by decide +kernel
theorem dL_law_1232 : decode cL_law 1232 = .ok (.iadd, 1) := by decide +kernel
theorem dL_law_1233 : decode cL_law 1233 = .ok (.iaload, 1) := by decide +kernel
theorem dL_law_1234 : decode cL_law 1234 = .ok (.invokevirtual 131, 3) := by decide +kernel
theorem dL_law_1237 : decode cL_law 1237 = .ok (.aload_n 2, 1) := by decide +kernel
theorem dL_law_1238 : decode cL_law 1238 = .ok (.aload_n 0, 1) := by decide +kernel
theorem dL_law_1239 : decode cL_law 1239 = .ok (.iload_n 3, 1) := by decide +kernel
theorem dL_law_1240 : decode cL_law 1240 = .ok (.iconst 1, 1) := by decide +kernel
theorem dL_law_1241 : decode cL_law 1241 = .ok (.iadd, 1) := by decide +kernel
theorem dL_law_1242 : decode cL_law 1242 = .ok (.iaload, 1) := by decide +kernel
theorem dL_law_1243 : decode cL_law 1243 = .ok (.invokevirtual 134, 3) := by decide +kernel
theorem dL_law_1246 : decode cL_law 1246 = .ok (.if_icmp .eq 124, 3) := by decide +kernel
theorem dL_law_1249 : decode cL_law 1249 = .ok (.iconst 0, 1) := by decide +kernel
theorem dL_law_1250 : decode cL_law 1250 = .ok (.ireturn, 1) := by decide +kernel
theorem dL_law_1251 : decode cL_law 1251 = .ok (.aload_n 1, 1) := by decide +kernel
theorem dL_law_1252 : decode cL_law 1252 = .ok (.aload_n 0, 1) := by decide +kernel
theorem dL_law_1253 : decode cL_law 1253 = .ok (.iload_n 3, 1) := by decide +kernel
theorem dL_law_1254 : decode cL_law 1254 = .ok (.iconst 1, 1) := by decide +kernel
theorem dL_law_1255 : decode cL_law 1255 = .ok (.iadd, 1) := by decide +kernel
theorem dL_law_1256 : decode cL_law 1256 = .ok (.iaload, 1) := by decide +kernel
theorem dL_law_1257 : decode cL_law 1257 = .ok (.aload_n 0, 1) := by decide +kernel
theorem dL_law_1258 : decode cL_law 1258 = .ok (.iload_n 3, 1) := by decide +kernel
theorem dL_law_1259 : decode cL_law 1259 = .ok (.iconst 2, 1) := by decide +kernel
theorem dL_law_1260 : decode cL_law 1260 = .ok (.iadd, 1) := by decide +kernel
theorem dL_law_1261 : decode cL_law 1261 = .ok (.iaload, 1) := by decide +kernel
theorem dL_law_1262 : decode cL_law 1262 = .ok (.aload_n 0, 1) := by decide +kernel
theorem dL_law_1263 : decode cL_law 1263 = .ok (.iload_n 3, 1) := by decide +kernel
theorem dL_law_1264 : decode cL_law 1264 = .ok (.iconst 3, 1) := by decide +kernel
theorem dL_law_1265 : decode cL_law 1265 = .ok (.iadd, 1) := by decide +kernel
theorem dL_law_1266 : decode cL_law 1266 = .ok (.iaload, 1) := by decide +kernel
theorem dL_law_1267 : decode cL_law 1267 = .ok (.aload_n 0, 1) := by decide +kernel
theorem dL_law_1268 : decode cL_law 1268 = .ok (.iload_n 3, 1) := by decide +kernel
theorem dL_law_1269 : decode cL_law 1269 = .ok (.iconst 4, 1) := by decide +kernel
theorem dL_law_1270 : decode cL_law 1270 = .ok (.iadd, 1) := by decide +kernel
theorem dL_law_1271 : decode cL_law 1271 = .ok (.iaload, 1) := by decide +kernel
theorem dL_law_1272 : decode cL_law 1272 = .ok (.aload_n 0, 1) := by decide +kernel
theorem dL_law_1273 : decode cL_law 1273 = .ok (.iload_n 3, 1) := by decide +kernel
theorem dL_law_1274 : decode cL_law 1274 = .ok (.iconst 5, 1) := by decide +kernel
theorem dL_law_1275 : decode cL_law 1275 = .ok (.iadd, 1) := by decide +kernel
theorem dL_law_1276 : decode cL_law 1276 = .ok (.iaload, 1) := by decide +kernel
theorem dL_law_1277 : decode cL_law 1277 = .ok (.invokevirtual 135, 3) := by decide +kernel
theorem dL_law_1280 : decode cL_law 1280 = .ok (.aload_n 2, 1) := by decide +kernel
theorem dL_law_1281 : decode cL_law 1281 = .ok (.aload_n 0, 1) := by decide +kernel
theorem dL_law_1282 : decode cL_law 1282 = .ok (.iload_n 3, 1) := by decide +kernel
theorem dL_law_1283 : decode cL_law 1283 = .ok (.iconst 1, 1) := by decide +kernel
theorem dL_law_1284 : decode cL_law 1284 = .ok (.iadd, 1) := by decide +kernel
theorem dL_law_1285 : decode cL_law 1285 = .ok (.iaload, 1) := by decide +kernel
theorem dL_law_1286 : decode cL_law 1286 = .ok (.aload_n 0, 1) := by decide +kernel
theorem dL_law_1287 : decode cL_law 1287 = .ok (.iload_n 3, 1) := by decide +kernel
theorem dL_law_1288 : decode cL_law 1288 = .ok (.iconst 2, 1) := by decide +kernel
theorem dL_law_1289 : decode cL_law 1289 = .ok (.iadd, 1) := by decide +kernel
theorem dL_law_1290 : decode cL_law 1290 = .ok (.iaload, 1) := by decide +kernel
theorem dL_law_1291 : decode cL_law 1291 = .ok (.aload_n 0, 1) := by decide +kernel
theorem dL_law_1292 : decode cL_law 1292 = .ok (.iload_n 3, 1) := by decide +kernel
theorem dL_law_1293 : decode cL_law 1293 = .ok (.iconst 3, 1) := by decide +kernel
theorem dL_law_1294 : decode cL_law 1294 = .ok (.iadd, 1) := by decide +kernel
theorem dL_law_1295 : decode cL_law 1295 = .ok (.iaload, 1) := by decide +kernel
theorem dL_law_1296 : decode cL_law 1296 = .ok (.aload_n 0, 1) := by decide +kernel
theorem dL_law_1297 : decode cL_law 1297 = .ok (.iload_n 3, 1) := by decide +kernel
theorem dL_law_1298 : decode cL_law 1298 = .ok (.iconst 4, 1) := by decide +kernel
theorem dL_law_1299 : decode cL_law 1299 = .ok (.iadd, 1) := by decide +kernel
theorem dL_law_1300 : decode cL_law 1300 = .ok (.iaload, 1) := by decide +kernel
theorem dL_law_1301 : decode cL_law 1301 = .ok (.aload_n 0, 1) := by decide +kernel
theorem dL_law_1302 : decode cL_law 1302 = .ok (.iload_n 3, 1) := by decide +kernel
theorem dL_law_1303 : decode cL_law 1303 = .ok (.iconst 5, 1) := by decide +kernel
theorem dL_law_1304 : decode cL_law 1304 = .ok (.iadd, 1) := by decide +kernel
theorem dL_law_1305 : decode cL_law 1305 = .ok (.iaload, 1) := by decide +kernel
theorem dL_law_1306 : decode cL_law 1306 = .ok (.invokevirtual 138, 3) := by decide +kernel
theorem dL_law_1309 : decode cL_law 1309 = .ok (.if_icmp .eq 61, 3) := by decide +kernel
theorem dL_law_1312 : decode cL_law 1312 = .ok (.iconst 0, 1) := by decide +kernel
theorem dL_law_1313 : decode cL_law 1313 = .ok (.ireturn, 1) := by decide +kernel
theorem dL_law_1314 : decode cL_law 1314 = .ok (.aload_n 1, 1) := by decide +kernel
theorem dL_law_1315 : decode cL_law 1315 = .ok (.aload_n 0, 1) := by decide +kernel
theorem dL_law_1316 : decode cL_law 1316 = .ok (.iload_n 3, 1) := by decide +kernel
theorem dL_law_1317 : decode cL_law 1317 = .ok (.iconst 1, 1) := by decide +kernel
theorem dL_law_1318 : decode cL_law 1318 = .ok (.iadd, 1) := by decide +kernel
theorem dL_law_1319 : decode cL_law 1319 = .ok (.iaload, 1) := by decide +kernel
theorem dL_law_1320 : decode cL_law 1320 = .ok (.aload_n 0, 1) := by decide +kernel
theorem dL_law_1321 : decode cL_law 1321 = .ok (.iload_n 3, 1) := by decide +kernel
theorem dL_law_1322 : decode cL_law 1322 = .ok (.iconst 2, 1) := by decide +kernel
theorem dL_law_1323 : decode cL_law 1323 = .ok (.iadd, 1) := by decide +kernel
theorem dL_law_1324 : decode cL_law 1324 = .ok (.iaload, 1) := by decide +kernel
theorem dL_law_1325 : decode cL_law 1325 = .ok (.invokevirtual 139, 3) := by decide +kernel
theorem dL_law_1328 : decode cL_law 1328 = .ok (.aload_n 2, 1) := by decide +kernel
theorem dL_law_1329 : decode cL_law 1329 = .ok (.aload_n 0, 1) := by decide +kernel
theorem dL_law_1330 : decode cL_law 1330 = .ok (.iload_n 3, 1) := by decide +kernel
theorem dL_law_1331 : decode cL_law 1331 = .ok (.iconst 1, 1) := by decide +kernel
theorem dL_law_1332 : decode cL_law 1332 = .ok (.iadd, 1) := by decide +kernel
theorem dL_law_1333 : decode cL_law 1333 = .ok (.iaload, 1) := by decide +kernel
theorem dL_law_1334 : decode cL_law 1334 = .ok (.aload_n 0, 1) := by decide +kernel
theorem dL_law_1335 : decode cL_law 1335 = .ok (.iload_n 3, 1) := by decide +kernel
theorem dL_law_1336 : decode cL_law 1336 = .ok (.iconst 2, 1) := by decide +kernel
theorem dL_law_1337 : decode cL_law 1337 = .ok (.iadd, 1) := by decide +kernel
theorem dL_law_1338 : decode cL_law 1338 = .ok (.iaload, 1) := by decide +kernel
theorem dL_law_1339 : decode cL_law 1339 = .ok (.invokevirtual 142, 3) := by decide +kernel
theorem dL_law_1342 : decode cL_law 1342 = .ok (.if_icmp .eq 28, 3) := by decide +kernel
theorem dL_law_1345 : decode cL_law 1345 = .ok (.iconst 0, 1) := by decide +kernel
theorem dL_law_1346 : decode cL_law 1346 = .ok (.ireturn, 1) := by decide +kernel
theorem dL_law_1347 : decode cL_law 1347 = .ok (.aload_n 1, 1) := by decide +kernel
theorem dL_law_1348 : decode cL_law 1348 = .ok (.aload_n 0, 1) := by decide +kernel
theorem dL_law_1349 : decode cL_law 1349 = .ok (.iload_n 3, 1) := by decide +kernel
theorem dL_law_1350 : decode cL_law 1350 = .ok (.iconst 1, 1) := by decide +kernel
theorem dL_law_1351 : decode cL_law 1351 = .ok (.iadd, 1) := by decide +kernel
theorem dL_law_1352 : decode cL_law 1352 = .ok (.iaload, 1) := by decide +kernel
theorem dL_law_1353 : decode cL_law 1353 = .ok (.invokevirtual 143, 3) := by decide +kernel
theorem dL_law_1356 : decode cL_law 1356 = .ok (.aload_n 2, 1) := by decide +kernel
theorem dL_law_1357 : decode cL_law 1357 = .ok (.aload_n 0, 1) := by decide +kernel
theorem dL_law_1358 : decode cL_law 1358 = .ok (.iload_n 3, 1) := by decide +kernel
theorem dL_law_1359 : decode cL_law 1359 = .ok (.iconst 1, 1) := by decide +kernel
theorem dL_law_1360 : decode cL_law 1360 = .ok (.iadd, 1) := by decide +kernel
theorem dL_law_1361 : decode cL_law 1361 = .ok (.iaload, 1) := by decide +kernel
theorem dL_law_1362 : decode cL_law 1362 = .ok (.invokevirtual 146, 3) := by decide +kernel
theorem dL_law_1365 : decode cL_law 1365 = .ok (.if_icmp .eq 5, 3) := by decide +kernel
theorem dL_law_1368 : decode cL_law 1368 = .ok (.iconst 0, 1) := by decide +kernel
theorem dL_law_1369 : decode cL_law 1369 = .ok (.ireturn, 1) := by decide +kernel
theorem dL_law_1370 : decode cL_law 1370 = .ok (.iinc 3 7, 3) := by decide +kernel
theorem dL_law_1373 : decode cL_law 1373 = .ok (.goto (-1355), 3) := by decide +kernel
theorem dL_law_1376 : decode cL_law 1376 = .ok (.iconst 1, 1) := by decide +kernel
theorem dL_law_1377 : decode cL_law 1377 = .ok (.ireturn, 1) := by decide +kernel
end
section
/-! the state of both objects as numbers: σ role place. Roles 0..54: BallDrops and what it holds; 55..84: the reference -/
abbrev bd_S : Type := Nat → Nat → Int32
def bd_sr (σ : bd_S) (r : Nat) (f : Nat → Int32) : bd_S := fun q => if q = r then f else σ q
def bd_st (σ : bd_S) (r k : Nat) (v : Int32) : bd_S := bd_sr σ r (upd (σ r) k v)
theorem bd_sr_self (σ : bd_S) (r : Nat) (f : Nat → Int32) : bd_sr σ r f r = f := if_pos rfl
theorem bd_sr_ne (σ : bd_S) {r q : Nat} (f : Nat → Int32) (h : q ≠ r) : bd_sr σ r f q = σ q := if_neg h
/-! programs: what a method does to the numbers; none: a place outside its row, a division by 0, no end in time -/
def bd_lt {α β : Type} (x : β) (k : β → Option α) : Option α := k x
def bd_rd {α : Type} (σ : bd_S) (r : Nat) (i : Int32) (m : Nat) (k : Int32 → Option α) : Option α := if i < 0 ∨ m ≤ i.toNatClampNeg then none else k (σ r i.toNatClampNeg)
def bd_wr {α : Type} (σ : bd_S) (r : Nat) (i : Int32) (m : Nat) (v : Int32) (k : bd_S → Option α) : Option α := if i < 0 ∨ m ≤ i.toNatClampNeg then none else k (bd_st σ r i.toNatClampNeg v)
def bd_rs {α : Type} (i : Int32) (k : Nat → Option α) : Option α := if i < 0 ∨ 4 ≤ i.toNatClampNeg then none else k (19 + 9 * i.toNatClampNeg)
def bd_dv {α : Type} (x y : Int32) (k : Int32 → Option α) : Option α := if y = 0 then none else k (x / y)
def bd_rm {α : Type} (x y : Int32) (k : Int32 → Option α) : Option α := if y = 0 then none else k (x - x / y * y)
def bd_dvl {α : Type} (x y : Int64) (k : Int64 → Option α) : Option α := if y = 0 then none else k (x / y)
def bd_rml {α : Type} (x y : Int64) (k : Int64 → Option α) : Option α := if y = 0 then none else k (x - x / y * y)
def bd_zr (v : Int32) (σ : bd_S) : Option (Int32 × bd_S) := if v = 0 ∨ v = 1 then some (v, σ) else none
def bd_b {α β : Type} (x : Option (β × bd_S)) (k : β → bd_S → Option α) : Option α := x.elim none (fun p => k p.1 p.2)
def bd_cp {α : Type} (σ : bd_S) (r1 : Nat) (sp : Int32) (r2 : Nat) (dp n : Int32) (m : Nat) (k : bd_S → Option α) : Option α := if sp < 0 ∨ dp < 0 ∨ n < 0 ∨ m < sp.toNatClampNeg + n.toNatClampNeg ∨ m < dp.toNatClampNeg + n.toNatClampNeg then none else k (bd_sr σ r2 (va_cpy (σ r1) (σ r2) sp.toNatClampNeg dp.toNatClampNeg n.toNatClampNeg))
theorem bd_b_some {α β : Type} {x : Option (β × bd_S)} {k : β → bd_S → Option α} {y : α} (h : bd_b x k = some y) : ∃ r σ', x = some (r, σ') ∧ k r σ' = some y := by
  cases x with
  | none => cases h
  | some p => exact ⟨p.1, p.2, rfl, h⟩
/-- kinds: 0 Line, 1 Ship, 2 BallDrops, 3 BallDropsModel, 4 ints, 5 booleans, 6 ships -/
def bd_kl : List (Nat × Nat) := [(2, 0), (0, 0), (4, 20), (4, 20), (0, 0), (4, 20), (4, 20), (0, 0), (4, 20), (4, 20), (4, 2), (4, 2), (4, 20), (4, 20), (6, 4), (4, 4), (4, 4), (4, 3), (4, 3),
  (1, 0), (4, 12), (4, 12), (5, 12), (4, 12), (4, 12), (4, 3), (4, 3), (4, 3), (1, 0), (4, 12), (4, 12), (5, 12), (4, 12), (4, 12), (4, 3), (4, 3), (4, 3), (1, 0), (4, 12), (4, 12), (5, 12), (4, 12), (4, 12), (4, 3), (4, 3), (4, 3), (1, 0), (4, 12), (4, 12), (5, 12), (4, 12), (4, 12), (4, 3), (4, 3), (4, 3),
  (3, 0), (4, 21), (4, 21), (4, 21), (4, 21), (4, 21), (4, 2), (4, 2), (4, 20), (5, 20), (4, 20), (4, 4), (4, 48), (4, 48), (4, 48), (4, 48), (4, 48), (5, 80), (4, 12), (4, 12), (4, 4), (4, 12), (4, 4), (4, 4), (4, 21), (4, 21), (4, 20), (4, 3), (4, 3), (5, 3)]
def bd_kd (r : Nat) : Nat × Nat := bd_kl.getD r (9, 0)
def bd_isL (r : Nat) : Prop := r = 1 ∨ r = 4 ∨ r = 7
def bd_isS (r : Nat) : Prop := r = 19 ∨ r = 28 ∨ r = 37 ∨ r = 46
/-- what stands fixed: classes, arrays' classes, addresses by role, what may change, how many roles there are, how many ships -/
abbrev bd_E : Type := va_G × (ClassId × ClassId × ClassId) × (Nat → Nat) × (Nat → Prop) × Nat × Nat
abbrev bd_D (E : bd_E) : va_G := E.1
abbrev bd_cI (E : bd_E) : ClassId := E.2.1.1
abbrev bd_cZ (E : bd_E) : ClassId := E.2.1.2.1
abbrev bd_cO (E : bd_E) : ClassId := E.2.1.2.2
abbrev bd_ad (E : bd_E) : Nat → Nat := E.2.2.1
abbrev bd_A (E : bd_E) : Nat → Prop := E.2.2.2.1
abbrev bd_N (E : bd_E) : Nat := E.2.2.2.2.1
abbrev bd_nS (E : bd_E) : Nat := E.2.2.2.2.2
def bd_fs (E : bd_E) (f : Nat → Int32) (r c : Nat) : List Value := if c = 0 then [.ref (bd_ad E (r + 1)), .ref (bd_ad E (r + 2)), .int (f 2), .int (f 3)]
  else if c = 1 then [.ref (bd_ad E (r + 1)), .ref (bd_ad E (r + 2)), .ref (bd_ad E (r + 3)), .ref (bd_ad E (r + 4)), .ref (bd_ad E (r + 5)), .ref (bd_ad E (r + 6)), .ref (bd_ad E (r + 7)), .ref (bd_ad E (r + 8)), .int (f 8), .int (f 9), .int (f 10)]
  else if c = 2 then [.ref (bd_ad E (r + 1)), .ref (bd_ad E (r + 4)), .ref (bd_ad E (r + 7)), .ref (bd_ad E (r + 10)), .ref (bd_ad E (r + 11)), .ref (bd_ad E (r + 12)), .ref (bd_ad E (r + 13)), .ref (bd_ad E (r + 14)), .ref (bd_ad E (r + 15)), .ref (bd_ad E (r + 16)), .ref (bd_ad E (r + 17)), .ref (bd_ad E (r + 18)), .int (f 12), .int (f 13), .int (f 14), .int (f 15)]
  else [.int (f 0), .ref (bd_ad E (r + 1)), .ref (bd_ad E (r + 2)), .ref (bd_ad E (r + 3)), .int (f 4), .ref (bd_ad E (r + 4)), .ref (bd_ad E (r + 5)), .ref (bd_ad E (r + 6)), .ref (bd_ad E (r + 7)), .ref (bd_ad E (r + 8)), .ref (bd_ad E (r + 9)), .ref (bd_ad E (r + 10)), .int (f 12), .ref (bd_ad E (r + 11)), .ref (bd_ad E (r + 12)), .ref (bd_ad E (r + 13)), .ref (bd_ad E (r + 14)), .ref (bd_ad E (r + 15)), .ref (bd_ad E (r + 16)), .ref (bd_ad E (r + 17)), .ref (bd_ad E (r + 18)), .ref (bd_ad E (r + 19)), .ref (bd_ad E (r + 20)), .ref (bd_ad E (r + 21)), .ref (bd_ad E (r + 22)), .ref (bd_ad E (r + 23)), .ref (bd_ad E (r + 24)), .ref (bd_ad E (r + 25)), .ref (bd_ad E (r + 26)), .int (f 29), .int (f 30), .ref (bd_ad E (r + 27)), .ref (bd_ad E (r + 28)), .ref (bd_ad E (r + 29)), .int (f 34), .int (f 35)]
def bd_ce (E : bd_E) (f : Nat → Int32) (r : Nat) (k : Nat × Nat) : va_E := if k.1 = 4 then .inl (bd_cI E, k.2, .inl f) else if k.1 = 5 then .inl (bd_cZ E, k.2, .inl f)
  else if k.1 = 6 then .inl (bd_cO E, 4, .inr (.inr (.inr (.inr (fun j => if j < bd_nS E then some (bd_ad E (19 + 9 * j)) else none)))))
  else .inr (k.1, bd_fs E f r k.1)
def bd_cell (E : bd_E) (σ : bd_S) (r : Nat) : va_E := bd_ce E (σ r) r (bd_kd r)
def bd_w (E : bd_E) (σ : bd_S) : va_W := (List.range (bd_N E)).map (fun r => (bd_ad E r, bd_cell E σ r))
theorem bd_w_get (E : bd_E) (σ : bd_S) {r : Nat} (h : r < bd_N E) : (bd_w E σ)[r]? = some (bd_ad E r, bd_cell E σ r) := by simp [bd_w, h]
theorem bd_w_at (E : bd_E) (σ : bd_S) {r : Nat} (h : r < bd_N E) {k : Nat × Nat} (hk : bd_kd r = k) : (bd_w E σ)[r]? = some (bd_ad E r, bd_ce E (σ r) r k) := by subst hk; exact bd_w_get E σ h
theorem bd_w_set (E : bd_E) (σ : bd_S) (f : Nat → Int32) {r : Nat} (h : r < bd_N E) : (bd_w E σ).set r (bd_ad E r, bd_cell E (bd_sr σ r f) r) = bd_w E (bd_sr σ r f) := by
  refine List.ext_getElem? (fun j => ?_)
  rw [List.getElem?_set]
  have hl : (bd_w E σ).length = bd_N E := by simp [bd_w]
  by_cases hj : r = j
  · subst hj
    rw [if_pos rfl, hl, if_pos h, bd_w_get E _ h]
  · rw [if_neg hj]
    simp only [bd_w, List.getElem?_map]
    cases hq : (List.range (bd_N E))[j]? with
    | none => rfl
    | some q =>
      have hqj : j = q := by
        have h2 := List.getElem?_eq_some_iff.mp hq
        obtain ⟨h3, h4⟩ := h2
        rw [List.getElem_range] at h4
        exact h4
      subst hqj
      simp only [Option.map_some, bd_cell, bd_sr_ne σ f (Ne.symm hj)]
def bd_ok (E : bd_E) (n : Nat) : Prop := (∀ i j, i < bd_N E → j < bd_N E → bd_ad E i = bd_ad E j → i = j) ∧ (∀ i, i < bd_N E → bd_A E (bd_ad E i)) ∧ n ≤ bd_N E ∧ (10 < n → bd_nS E = 4)
theorem bd_ok.mono {E : bd_E} {n k : Nat} (h : bd_ok E n) (hk : k ≤ n) : bd_ok E k := ⟨h.1, h.2.1, Nat.le_trans hk h.2.2.1, fun q => h.2.2.2 (Nat.lt_of_lt_of_le q hk)⟩
theorem bd_ok.dis {E : bd_E} {n : Nat} (h : bd_ok E n) (σ : bd_S) : va_D (bd_A E) (bd_w E σ) := by
  have key : ∀ (i : Nat) (p : Nat × va_E), (bd_w E σ)[i]? = some p → i < bd_N E ∧ p.1 = bd_ad E i := by
    intro i p hi
    have h1 : i < bd_N E := by
      have h2 := (List.getElem?_eq_some_iff.mp hi).1
      simpa [bd_w] using h2
    rw [bd_w_get E σ h1] at hi
    cases hi
    exact ⟨h1, rfl⟩
  refine ⟨fun i j p q hi hj hpq => ?_, fun k q hk => ?_⟩
  · obtain ⟨a1, a2⟩ := key i p hi
    obtain ⟨b1, b2⟩ := key j q hj
    exact h.1 i j a1 b1 (by rw [← a2, ← b2]; exact hpq)
  · obtain ⟨a1, a2⟩ := key k q hk
    rw [a2]
    exact h.2.1 k a1
abbrev bd_tys (E : bd_E) : List (ClassId × FieldType) := [(bd_cI E, .int), (bd_cZ E, .boolean), (bd_cO E, .object "BallDrops$Ship")]
/-! the tables' words, kept through every call -/
def bd_T (U : State) : Prop := ∀ w ∈ lw_tbl, goodWord w = true → ∀ a : Array Value, w.before a U = true
def bd_isN : Cond → Bool
  | .fieldLinkNest _ _ _ _ _ _ => true
  | .methodLinkNest _ _ _ _ => true
  | _ => false
def bd_Nw (U : State) : Prop := ∀ w ∈ lw_tbl, bd_isN w = true → va_Nw w U
theorem bd_T.warm {s U : State} (h : bd_T s) (hW : s.WarmedH U.vm) : bd_T U := fun w hm hg a => word_at hW (good_of_word hg) (h w hm hg a)
theorem bd_Nw.warm {s U : State} (h : bd_Nw s) (hW : s.WarmedH U.vm) : bd_Nw U := by
  intro w hm hg
  have hz := h w hm hg
  cases w <;> first | exact va_Nw.warmF hW hz | exact va_Nw.warmM hW hz | cases hg
theorem bd_Nw.same {s U : State} (h : bd_Nw s) (hv : s.vm = U.vm) : bd_Nw U := by
  intro w hm hg
  have hz := h w hm hg
  refine va_Nw.same ?_ hv hz
  cases w <;> first | rfl | cases hg
def bd_in (w : Cond) : Prop := w ∈ lw_tbl ∧ goodWord w = true
theorem bd_T.at {s : State} (h : bd_T s) {w : Cond} (hw : bd_in w) (a : Array Value) : w.before a s = true := h w hw.1 hw.2 a
def bd_inN (w : Cond) : Prop := w ∈ lw_tbl ∧ bd_isN w = true ∧ w.onTables = true
theorem bd_Nw.at {s : State} (h : bd_Nw s) {w : Cond} (hw : bd_inN w) (a : Array Value) : w.before a s = true := va_Nw.use hw.2.2 (h w hw.1 hw.2.1)
/-! contracts -/
def bd_Pre (E : bd_E) (av : List Value) (σ : bd_S) : Array Value → State → Prop := va_Pc av (fun U => va_P (bd_D E) vwCl (bd_w E σ) U.heap ∧ va_K (bd_D E) vwCl (bd_tys E) U ∧ bd_T U ∧ bd_Nw U)
theorem bd_Pre.blind (E : bd_E) (av : List Value) (σ : bd_S) : FrameBlind (bd_Pre E av σ) := fun a U g mk q => by
  obtain ⟨h0, hP, hK, hT, hN⟩ := q
  exact ⟨h0, hP, va_K.moved (u := U) (U := U.calling g mk a) (Vm.Alike.refl U.vm) hK, hT.warm (U := U.calling g mk a) (State.WarmedH.refl U), hN.same rfl⟩
def bd_Qi (E : bd_E) (o : Int32 × bd_S) : Array Value → State → Outcome → State → Prop := va_Qi (fun (r : Int32) (_ : Unit) => r = o.1) (fun _ t => va_P (bd_D E) vwCl (bd_w E o.2) t.heap) (bd_A E)
def bd_Ql (E : bd_E) (o : Int64 × bd_S) : Array Value → State → Outcome → State → Prop := va_Ql (fun (r : Int64) (_ : Unit) => r = o.1) (fun _ t => va_P (bd_D E) vwCl (bd_w E o.2) t.heap) (bd_A E)
def bd_Qv (E : bd_E) (o : Unit × bd_S) : Array Value → State → Outcome → State → Prop := va_Qv (fun (_ : Unit) => True) (fun _ t => va_P (bd_D E) vwCl (bd_w E o.2) t.heap) (bd_A E)
/-- a method's contract: where its program answers, it returns so -/
def bd_M {α : Type} (Qc : bd_E → α → Array Value → State → Outcome → State → Prop) (l : Launch) (y : MethodName) (cc : ByteArray) (mL : Nat) (ret : Option FieldType) (fr lo : Nat) (E : bd_E) (av : List Value) (σ : bd_S) (f : Option α) : Prop :=
  ∀ out : α, f = some out → Met l y [.code y cc mL ret] { frames := fr, cells := 0, slots := 0, locals := lo } (bd_Pre E av σ) (Qc E out) 0 0 (bd_A E)
/-! the judgement in a method's body -/
abbrev bd_G : Type := Program × Launch × Env × Room × State × MethodId × Array Value × List Frame × Method × Code × (State → Prop) × bd_E
abbrev g_p (G : bd_G) : Program := G.1
abbrev g_l (G : bd_G) : Launch := G.2.1
abbrev g_e (G : bd_G) : Env := G.2.2.1
abbrev g_R (G : bd_G) : Room := G.2.2.2.1
abbrev g_s (G : bd_G) : State := G.2.2.2.2.1
abbrev g_m (G : bd_G) : MethodId := G.2.2.2.2.2.1
abbrev g_a (G : bd_G) : Array Value := G.2.2.2.2.2.2.1
abbrev g_b (G : bd_G) : List Frame := G.2.2.2.2.2.2.2.1
abbrev g_M (G : bd_G) : Method := G.2.2.2.2.2.2.2.2.1
abbrev g_c (G : bd_G) : Code := G.2.2.2.2.2.2.2.2.2.1
abbrev g_Q (G : bd_G) : State → Prop := G.2.2.2.2.2.2.2.2.2.2.1
abbrev g_E (G : bd_G) : bd_E := G.2.2.2.2.2.2.2.2.2.2.2
def bd_WL (G : bd_G) (σ : bd_S) (pc : Nat) (lv : List (Nat × Value)) (st : List Value) : Prop :=
  ∀ (H : Heap) (locs : List Loc) (ls : Array Slot), va_P (bd_D (g_E G)) vwCl (bd_w (g_E G) σ) H → va_S (bd_A (g_E G)) (g_s G).heap H locs → lv_has ls (g_c G).maxLocals lv → W (g_p G) (g_l G) (g_e G) (g_R G) (g_s G) (g_m G) (g_a G) (g_b G) (g_M G) (g_c G) H locs 0 0 (g_Q G) (F0 (g_m G) pc ls st)
def bd_OK (G : bd_G) (cc : ByteArray) (nL : Nat) (own : String) (n fr lo : Nat) (rt : Option FieldType) : Prop :=
  (g_p G).tables.exec = Jvm.exec ∧ (g_c G).code = cc ∧ (g_c G).maxLocals = nL ∧ (g_s G).vm.findClass own = some (g_m G).cls ∧ va_K (bd_D (g_E G)) vwCl (bd_tys (g_E G)) (g_s G) ∧ bd_T (g_s G) ∧ bd_Nw (g_s G) ∧ (g_M G).locks = false ∧ bd_ok (g_E G) n ∧ fr ≤ (g_R G).frames ∧ lo ≤ (g_R G).locals ∧ (g_M G).sig.returnType = rt
def bd_WF {α : Type} (G : bd_G) (out : α) (F : Option α) (σ : bd_S) (pc : Nat) (lv : List (Nat × Value)) (st : List Value) : Prop := F = some out → bd_WL G σ pc lv st
def bd_ends {α : Type} (Qc : bd_E → α → Array Value → State → Outcome → State → Prop) (G : bd_G) (out : α) : Prop := g_Q G = MQ (g_b G) (Qc (g_E G) out) (g_a G) (g_s G) 0 0 (bd_A (g_E G))
section BDO
variable {G : bd_G} {cc : ByteArray} {nL : Nat} {own : String} {n fr lo : Nat} {rt : Option FieldType}
theorem bd_OK.hx (h : bd_OK G cc nL own n fr lo rt) : (g_p G).tables.exec = Jvm.exec := h.1
theorem bd_OK.hb (h : bd_OK G cc nL own n fr lo rt) : (g_c G).code = cc := h.2.1
theorem bd_OK.hml (h : bd_OK G cc nL own n fr lo rt) : (g_c G).maxLocals = nL := h.2.2.1
theorem bd_OK.hown (h : bd_OK G cc nL own n fr lo rt) : (g_s G).vm.findClass own = some (g_m G).cls := h.2.2.2.1
theorem bd_OK.hK (h : bd_OK G cc nL own n fr lo rt) : va_K (bd_D (g_E G)) vwCl (bd_tys (g_E G)) (g_s G) := h.2.2.2.2.1
theorem bd_OK.hT (h : bd_OK G cc nL own n fr lo rt) : bd_T (g_s G) := h.2.2.2.2.2.1
theorem bd_OK.hN (h : bd_OK G cc nL own n fr lo rt) : bd_Nw (g_s G) := h.2.2.2.2.2.2.1
theorem bd_OK.hlk (h : bd_OK G cc nL own n fr lo rt) : (g_M G).locks = false := h.2.2.2.2.2.2.2.1
theorem bd_OK.hE (h : bd_OK G cc nL own n fr lo rt) : bd_ok (g_E G) n := h.2.2.2.2.2.2.2.2.1
theorem bd_OK.hfr (h : bd_OK G cc nL own n fr lo rt) : fr ≤ (g_R G).frames := h.2.2.2.2.2.2.2.2.2.1
theorem bd_OK.hlo (h : bd_OK G cc nL own n fr lo rt) : lo ≤ (g_R G).locals := h.2.2.2.2.2.2.2.2.2.2.1
theorem bd_OK.hr (h : bd_OK G cc nL own n fr lo rt) : (g_M G).sig.returnType = rt := h.2.2.2.2.2.2.2.2.2.2.2
end BDO
/-- a contract out of a walk of the body -/
theorem bd_open {α : Type} (Qc : bd_E → α → Array Value → State → Outcome → State → Prop) {l : Launch} {y : MethodName} {cc : ByteArray} {mL : Nat} {ret : Option FieldType} {fr lo : Nat} {E : bd_E} {av : List Value} {σ : bd_S} {f : Option α} {n : Nat} (hy : plainName y.cls = true) (hE : bd_ok E n) (hle : (lg_sl av).length ≤ mL)
    (h : ∀ (G : bd_G) (out : α), bd_OK G cc mL y.cls n fr lo ret → g_E G = E → g_l G = l → bd_ends Qc G out → bd_WF G out f σ 0 (lv_args 0 av) []) : bd_M Qc l y cc mL ret fr lo E av σ f := by
  intro out hout
  refine Met.ofW (cc := cc) (maxL := mL) (ret := ret) hy rfl ?_
  intro p e s m args below meth c s₁ B hml hv
  obtain ⟨rfl, hP, hK, hT, hN⟩ := hv
  have hown : s.vm.findClass y.cls = some m.cls := findClass_of_methodNamed B.named
  have hl := lv_entry av (n := mL) hle
  rw [lg_entry_eq]
  rw [← hml] at hl
  have h1 := h (p, l, e, { frames := fr, cells := 0, slots := 0, locals := lo }, s, m, av.toArray, below, meth, c, MQ below (Qc E out) av.toArray s 0 0 (bd_A E), E) out
    ⟨B.exec, B.bytes, hml, hown, hK, hT, hN, B.notSynchronized, hE, Nat.le_refl _, Nat.le_refl _, B.returns⟩ rfl rfl rfl hout s.heap [] _ hP va_S.rf hl
  rw [hml] at h1
  exact h1

section BDR
variable {G : bd_G} {cc : ByteArray} {nL : Nat} {own : String} {n fr lo : Nat} {rt : Option FieldType} {α : Type} {out : α} {F F1 F2 : Option α} {σ : bd_S} {pc : Nat} {lv lr : List (Nat × Value)} {st : List Value}
theorem rr_iconst (hG : bd_OK G cc nL own n fr lo rt) {c : Int} {v : Int32} (hd : decode cc pc = .ok (.iconst c, 1)) (hv : Int32.ofInt c = v) (kk : bd_WF G out F σ (pc + 1) lv (.int v :: st)) : bd_WF G out F σ pc lv st :=
  fun hF H locs ls hP hS hl => lv_iconst hG.hx hG.hb hd hv (kk hF H locs ls hP hS hl)
theorem rr_bipush (hG : bd_OK G cc nL own n fr lo rt) {c : Int} {v : Int32} (hd : decode cc pc = .ok (.bipush c, 2)) (hv : (Int8.ofInt c).toInt32 = v) (kk : bd_WF G out F σ (pc + 2) lv (.int v :: st)) : bd_WF G out F σ pc lv st :=
  fun hF H locs ls hP hS hl => lv_bipush hG.hx hG.hb hd hv (kk hF H locs ls hP hS hl)
theorem rr_sipush (hG : bd_OK G cc nL own n fr lo rt) {c : Int} {v : Int32} (hd : decode cc pc = .ok (.sipush c, 3)) (hv : (Int16.ofInt c).toInt32 = v) (kk : bd_WF G out F σ (pc + 3) lv (.int v :: st)) : bd_WF G out F σ pc lv st :=
  fun hF H locs ls hP hS hl => lv_sipush hG.hx hG.hb hd hv (kk hF H locs ls hP hS hl)
theorem rr_lconst (hG : bd_OK G cc nL own n fr lo rt) {c : Fin 2} {v : Int64} (hd : decode cc pc = .ok (.lconst c, 1)) (hv : Int64.ofNat (c : Nat) = v) (kk : bd_WF G out F σ (pc + 1) lv (.long v :: st)) : bd_WF G out F σ pc lv st :=
  fun hF H locs ls hP hS hl => lv_lconst hG.hx hG.hb hd hv (kk hF H locs ls hP hS hl)
theorem rr_ldc (hG : bd_OK G cc nL own n fr lo rt) {v : Int32} {idx : Nat} (hc : bd_in (.constant own idx v)) (hd : decode cc pc = .ok (.ldc idx, 2)) (kk : bd_WF G out F σ (pc + 2) lv (.int v :: st)) : bd_WF G out F σ pc lv st :=
  fun hF H locs ls hP hS hl => lv_ldc hG.hx hG.hb hG.hown (hG.hT.at hc _) hd (kk hF H locs ls hP hS hl)
theorem rr_ldcw (hG : bd_OK G cc nL own n fr lo rt) {v : Int32} {idx : Nat} (hc : bd_in (.constant own idx v)) (hd : decode cc pc = .ok (.ldc_w idx, 3)) (kk : bd_WF G out F σ (pc + 3) lv (.int v :: st)) : bd_WF G out F σ pc lv st :=
  fun hF H locs ls hP hS hl => lv_ldcw hG.hx hG.hb hG.hown (hG.hT.at hc _) hd (kk hF H locs ls hP hS hl)
theorem rr_ldc2 (hG : bd_OK G cc nL own n fr lo rt) {v : Int64} {idx : Nat} (hc : bd_in (.constantLong own idx v)) (hd : decode cc pc = .ok (.ldc2_w idx, 3)) (kk : bd_WF G out F σ (pc + 3) lv (.long v :: st)) : bd_WF G out F σ pc lv st :=
  fun hF H locs ls hP hS hl => lv_ldc2 hG.hx hG.hb hG.hown (hG.hT.at hc _) hd (kk hF H locs ls hP hS hl)
theorem rr_iload_n (hG : bd_OK G cc nL own n fr lo rt) {k : Fin 4} {i : Nat} {x : Int32} (hd : decode cc pc = .ok (.iload_n k, 1)) (hi : (k : Nat) = i) (j : Nat) (hj : lv[j]? = some (i, .int x)) (kk : bd_WF G out F σ (pc + 1) lv (.int x :: st)) : bd_WF G out F σ pc lv st :=
  fun hF H locs ls hP hS hl => lv_iload_n hG.hx hG.hb hd hi (lv_at hl j hj) (kk hF H locs ls hP hS hl)
theorem rr_iload (hG : bd_OK G cc nL own n fr lo rt) {i : Nat} {x : Int32} (hd : decode cc pc = .ok (.iload i, 2)) (j : Nat) (hj : lv[j]? = some (i, .int x)) (kk : bd_WF G out F σ (pc + 2) lv (.int x :: st)) : bd_WF G out F σ pc lv st :=
  fun hF H locs ls hP hS hl => lv_iload hG.hx hG.hb hd (lv_at hl j hj) (kk hF H locs ls hP hS hl)
theorem rr_lload_n (hG : bd_OK G cc nL own n fr lo rt) {k : Fin 4} {i : Nat} {x : Int64} (hd : decode cc pc = .ok (.lload_n k, 1)) (hi : (k : Nat) = i) (j : Nat) (hj : lv[j]? = some (i, .long x)) (kk : bd_WF G out F σ (pc + 1) lv (.long x :: st)) : bd_WF G out F σ pc lv st :=
  fun hF H locs ls hP hS hl => lv_lload_n hG.hx hG.hb hd hi (lv_at hl j hj) (kk hF H locs ls hP hS hl)
theorem rr_lload (hG : bd_OK G cc nL own n fr lo rt) {i : Nat} {x : Int64} (hd : decode cc pc = .ok (.lload i, 2)) (j : Nat) (hj : lv[j]? = some (i, .long x)) (kk : bd_WF G out F σ (pc + 2) lv (.long x :: st)) : bd_WF G out F σ pc lv st :=
  fun hF H locs ls hP hS hl => lv_lload hG.hx hG.hb hd (lv_at hl j hj) (kk hF H locs ls hP hS hl)
theorem rr_aload_n (hG : bd_OK G cc nL own n fr lo rt) {k : Fin 4} {i : Nat} {x : Nat} (hd : decode cc pc = .ok (.aload_n k, 1)) (hi : (k : Nat) = i) (j : Nat) (hj : lv[j]? = some (i, .ref x)) (kk : bd_WF G out F σ (pc + 1) lv (.ref x :: st)) : bd_WF G out F σ pc lv st :=
  fun hF H locs ls hP hS hl => lv_aload_n hG.hx hG.hb hd hi (lv_at hl j hj) (kk hF H locs ls hP hS hl)
theorem rr_aload (hG : bd_OK G cc nL own n fr lo rt) {i : Nat} {x : Nat} (hd : decode cc pc = .ok (.aload i, 2)) (j : Nat) (hj : lv[j]? = some (i, .ref x)) (kk : bd_WF G out F σ (pc + 2) lv (.ref x :: st)) : bd_WF G out F σ pc lv st :=
  fun hF H locs ls hP hS hl => lv_aload hG.hx hG.hb hd (lv_at hl j hj) (kk hF H locs ls hP hS hl)
theorem rr_istore_n (hG : bd_OK G cc nL own n fr lo rt) {k : Fin 4} {i : Nat} {x : Int32} (hd : decode cc pc = .ok (.istore_n k, 1)) (hi : (k : Nat) = i) (hn : i < nL) (hf : lv.filter (fun q => !(q.1 == i) && !(q.1 + 1 == i && q.2.category == 2)) = lr) (kk : bd_WF G out F σ (pc + 1) ((i, .int x) :: lr) st) : bd_WF G out F σ pc lv (.int x :: st) :=
  fun hF H locs ls hP hS hl => lv_istore_n hG.hx hG.hb hd hi hl (by rw [hG.hml]; exact hn) (congrArg (fun z => (i, Value.int x) :: z) hf) (fun ls2 hl2 => kk hF H locs ls2 hP hS hl2)
theorem rr_istore (hG : bd_OK G cc nL own n fr lo rt) {i : Nat} {x : Int32} (hd : decode cc pc = .ok (.istore i, 2)) (hn : i < nL) (hf : lv.filter (fun q => !(q.1 == i) && !(q.1 + 1 == i && q.2.category == 2)) = lr) (kk : bd_WF G out F σ (pc + 2) ((i, .int x) :: lr) st) : bd_WF G out F σ pc lv (.int x :: st) :=
  fun hF H locs ls hP hS hl => lv_istore hG.hx hG.hb hd hl (by rw [hG.hml]; exact hn) (congrArg (fun z => (i, Value.int x) :: z) hf) (fun ls2 hl2 => kk hF H locs ls2 hP hS hl2)
theorem rr_lstore_n (hG : bd_OK G cc nL own n fr lo rt) {k : Fin 4} {i : Nat} {x : Int64} (hd : decode cc pc = .ok (.lstore_n k, 1)) (hi : (k : Nat) = i) (hn : i + 1 < nL) (hf : lv.filter (fun q => !(q.1 == i) && (!(q.1 == i + 1) && !(q.1 + 1 == i && q.2.category == 2))) = lr) (kk : bd_WF G out F σ (pc + 1) ((i, .long x) :: lr) st) : bd_WF G out F σ pc lv (.long x :: st) :=
  fun hF H locs ls hP hS hl => lv_lstore_n hG.hx hG.hb hd hi hl (by rw [hG.hml]; exact hn) (congrArg (fun z => (i, Value.long x) :: z) hf) (fun ls2 hl2 => kk hF H locs ls2 hP hS hl2)
theorem rr_lstore (hG : bd_OK G cc nL own n fr lo rt) {i : Nat} {x : Int64} (hd : decode cc pc = .ok (.lstore i, 2)) (hn : i + 1 < nL) (hf : lv.filter (fun q => !(q.1 == i) && (!(q.1 == i + 1) && !(q.1 + 1 == i && q.2.category == 2))) = lr) (kk : bd_WF G out F σ (pc + 2) ((i, .long x) :: lr) st) : bd_WF G out F σ pc lv (.long x :: st) :=
  fun hF H locs ls hP hS hl => lv_lstore hG.hx hG.hb hd hl (by rw [hG.hml]; exact hn) (congrArg (fun z => (i, Value.long x) :: z) hf) (fun ls2 hl2 => kk hF H locs ls2 hP hS hl2)
theorem rr_astore_n (hG : bd_OK G cc nL own n fr lo rt) {k : Fin 4} {i : Nat} {x : Nat} (hd : decode cc pc = .ok (.astore_n k, 1)) (hi : (k : Nat) = i) (hn : i < nL) (hf : lv.filter (fun q => !(q.1 == i) && !(q.1 + 1 == i && q.2.category == 2)) = lr) (kk : bd_WF G out F σ (pc + 1) ((i, .ref x) :: lr) st) : bd_WF G out F σ pc lv (.ref x :: st) :=
  fun hF H locs ls hP hS hl => lv_astore_n hG.hx hG.hb hd hi hl (by rw [hG.hml]; exact hn) (congrArg (fun z => (i, Value.ref x) :: z) hf) (fun ls2 hl2 => kk hF H locs ls2 hP hS hl2)
theorem rr_astore (hG : bd_OK G cc nL own n fr lo rt) {i : Nat} {x : Nat} (hd : decode cc pc = .ok (.astore i, 2)) (hn : i < nL) (hf : lv.filter (fun q => !(q.1 == i) && !(q.1 + 1 == i && q.2.category == 2)) = lr) (kk : bd_WF G out F σ (pc + 2) ((i, .ref x) :: lr) st) : bd_WF G out F σ pc lv (.ref x :: st) :=
  fun hF H locs ls hP hS hl => lv_astore hG.hx hG.hb hd hl (by rw [hG.hml]; exact hn) (congrArg (fun z => (i, Value.ref x) :: z) hf) (fun ls2 hl2 => kk hF H locs ls2 hP hS hl2)
theorem rr_iinc (hG : bd_OK G cc nL own n fr lo rt) {i : Nat} {c : Int} {x v : Int32} {k : Int32 → Option α} (hd : decode cc pc = .ok (.iinc i c, 3)) (j : Nat) (hj : lv[j]? = some (i, .int x)) (hv : Int32.ofInt c = v) (hn : i < nL) (hf : lv.filter (fun q => !(q.1 == i) && !(q.1 + 1 == i && q.2.category == 2)) = lr) (kk : ∀ z, bd_WF G out (k z) σ (pc + 3) ((i, .int z) :: lr) st) : bd_WF G out (bd_lt (x + v) k) σ pc lv st :=
  fun hF H locs ls hP hS hl => lv_iinc hG.hx hG.hb hd hl hj (by rw [hv]) (by rw [hG.hml]; exact hn) (congrArg (fun z => (i, Value.int (x + v)) :: z) hf) (fun ls2 hl2 => kk _ hF H locs ls2 hP hS hl2)
theorem rr_iadd (hG : bd_OK G cc nL own n fr lo rt) {x y : Int32} {k : Int32 → Option α} (hd : decode cc pc = .ok (.iadd, 1)) (kk : ∀ z, bd_WF G out (k z) σ (pc + 1) lv (.int z :: st)) : bd_WF G out (bd_lt (x + y) k) σ pc lv (.int y :: .int x :: st) :=
  fun hF H locs ls hP hS hl => lv_iadd hG.hx hG.hb hd (kk _ hF H locs ls hP hS hl)
theorem rr_isub (hG : bd_OK G cc nL own n fr lo rt) {x y : Int32} {k : Int32 → Option α} (hd : decode cc pc = .ok (.isub, 1)) (kk : ∀ z, bd_WF G out (k z) σ (pc + 1) lv (.int z :: st)) : bd_WF G out (bd_lt (x - y) k) σ pc lv (.int y :: .int x :: st) :=
  fun hF H locs ls hP hS hl => lv_isub hG.hx hG.hb hd (kk _ hF H locs ls hP hS hl)
theorem rr_imul (hG : bd_OK G cc nL own n fr lo rt) {x y : Int32} {k : Int32 → Option α} (hd : decode cc pc = .ok (.imul, 1)) (kk : ∀ z, bd_WF G out (k z) σ (pc + 1) lv (.int z :: st)) : bd_WF G out (bd_lt (x * y) k) σ pc lv (.int y :: .int x :: st) :=
  fun hF H locs ls hP hS hl => lv_imul hG.hx hG.hb hd (kk _ hF H locs ls hP hS hl)
theorem rr_iand (hG : bd_OK G cc nL own n fr lo rt) {x y : Int32} {k : Int32 → Option α} (hd : decode cc pc = .ok (.iand, 1)) (kk : ∀ z, bd_WF G out (k z) σ (pc + 1) lv (.int z :: st)) : bd_WF G out (bd_lt (x &&& y) k) σ pc lv (.int y :: .int x :: st) :=
  fun hF H locs ls hP hS hl => lv_iand hG.hx hG.hb hd (kk _ hF H locs ls hP hS hl)
theorem rr_ior (hG : bd_OK G cc nL own n fr lo rt) {x y : Int32} {k : Int32 → Option α} (hd : decode cc pc = .ok (.ior, 1)) (kk : ∀ z, bd_WF G out (k z) σ (pc + 1) lv (.int z :: st)) : bd_WF G out (bd_lt (x ||| y) k) σ pc lv (.int y :: .int x :: st) :=
  fun hF H locs ls hP hS hl => lv_ior hG.hx hG.hb hd (kk _ hF H locs ls hP hS hl)
theorem rr_ixor (hG : bd_OK G cc nL own n fr lo rt) {x y : Int32} {k : Int32 → Option α} (hd : decode cc pc = .ok (.ixor, 1)) (kk : ∀ z, bd_WF G out (k z) σ (pc + 1) lv (.int z :: st)) : bd_WF G out (bd_lt (x ^^^ y) k) σ pc lv (.int y :: .int x :: st) :=
  fun hF H locs ls hP hS hl => lv_ixor hG.hx hG.hb hd (kk _ hF H locs ls hP hS hl)
theorem rr_ishl (hG : bd_OK G cc nL own n fr lo rt) {x y : Int32} {k : Int32 → Option α} (hd : decode cc pc = .ok (.ishl, 1)) (kk : ∀ z, bd_WF G out (k z) σ (pc + 1) lv (.int z :: st)) : bd_WF G out (bd_lt (x <<< (y &&& 31)) k) σ pc lv (.int y :: .int x :: st) :=
  fun hF H locs ls hP hS hl => lv_ishl hG.hx hG.hb hd (kk _ hF H locs ls hP hS hl)
theorem rr_ishr (hG : bd_OK G cc nL own n fr lo rt) {x y : Int32} {k : Int32 → Option α} (hd : decode cc pc = .ok (.ishr, 1)) (kk : ∀ z, bd_WF G out (k z) σ (pc + 1) lv (.int z :: st)) : bd_WF G out (bd_lt (x >>> (y &&& 31)) k) σ pc lv (.int y :: .int x :: st) :=
  fun hF H locs ls hP hS hl => lv_ishr hG.hx hG.hb hd (kk _ hF H locs ls hP hS hl)
theorem rr_iushr (hG : bd_OK G cc nL own n fr lo rt) {x y : Int32} {k : Int32 → Option α} (hd : decode cc pc = .ok (.iushr, 1)) (kk : ∀ z, bd_WF G out (k z) σ (pc + 1) lv (.int z :: st)) : bd_WF G out (bd_lt ((x.toUInt32 >>> (y.toUInt32 &&& Int32.toUInt32 31)).toInt32) k) σ pc lv (.int y :: .int x :: st) :=
  fun hF H locs ls hP hS hl => lv_iushr hG.hx hG.hb hd rfl (kk _ hF H locs ls hP hS hl)
theorem rr_ladd (hG : bd_OK G cc nL own n fr lo rt) {x y : Int64} {k : Int64 → Option α} (hd : decode cc pc = .ok (.ladd, 1)) (kk : ∀ z, bd_WF G out (k z) σ (pc + 1) lv (.long z :: st)) : bd_WF G out (bd_lt (x + y) k) σ pc lv (.long y :: .long x :: st) :=
  fun hF H locs ls hP hS hl => lv_ladd hG.hx hG.hb hd (kk _ hF H locs ls hP hS hl)
theorem rr_lsub (hG : bd_OK G cc nL own n fr lo rt) {x y : Int64} {k : Int64 → Option α} (hd : decode cc pc = .ok (.lsub, 1)) (kk : ∀ z, bd_WF G out (k z) σ (pc + 1) lv (.long z :: st)) : bd_WF G out (bd_lt (x - y) k) σ pc lv (.long y :: .long x :: st) :=
  fun hF H locs ls hP hS hl => lv_lsub hG.hx hG.hb hd (kk _ hF H locs ls hP hS hl)
theorem rr_lmul (hG : bd_OK G cc nL own n fr lo rt) {x y : Int64} {k : Int64 → Option α} (hd : decode cc pc = .ok (.lmul, 1)) (kk : ∀ z, bd_WF G out (k z) σ (pc + 1) lv (.long z :: st)) : bd_WF G out (bd_lt (x * y) k) σ pc lv (.long y :: .long x :: st) :=
  fun hF H locs ls hP hS hl => lv_lmul hG.hx hG.hb hd (kk _ hF H locs ls hP hS hl)
theorem rr_lcmp (hG : bd_OK G cc nL own n fr lo rt) {x y : Int64} {k : Int32 → Option α} (hd : decode cc pc = .ok (.lcmp, 1)) (kk : ∀ z, bd_WF G out (k z) σ (pc + 1) lv (.int z :: st)) : bd_WF G out (bd_lt (lg_cmp x y) k) σ pc lv (.long y :: .long x :: st) :=
  fun hF H locs ls hP hS hl => W.lcmp hG.hx hG.hb hd (kk _ hF H locs ls hP hS hl)
theorem rr_ineg (hG : bd_OK G cc nL own n fr lo rt) {x : Int32} {k : Int32 → Option α} (hd : decode cc pc = .ok (.ineg, 1)) (kk : ∀ z, bd_WF G out (k z) σ (pc + 1) lv (.int z :: st)) : bd_WF G out (bd_lt (-x) k) σ pc lv (.int x :: st) :=
  fun hF H locs ls hP hS hl => lv_ineg hG.hx hG.hb hd (kk _ hF H locs ls hP hS hl)
theorem rr_i2l (hG : bd_OK G cc nL own n fr lo rt) {x : Int32} {k : Int64 → Option α} (hd : decode cc pc = .ok (.i2l, 1)) (kk : ∀ z, bd_WF G out (k z) σ (pc + 1) lv (.long z :: st)) : bd_WF G out (bd_lt (x.toInt64) k) σ pc lv (.int x :: st) :=
  fun hF H locs ls hP hS hl => lv_i2l hG.hx hG.hb hd rfl (kk _ hF H locs ls hP hS hl)
theorem rr_idiv (hG : bd_OK G cc nL own n fr lo rt) {x y : Int32} {k : Int32 → Option α} (hd : decode cc pc = .ok (.idiv, 1)) (kk : ∀ z, bd_WF G out (k z) σ (pc + 1) lv (.int z :: st)) : bd_WF G out (bd_dv x y k) σ pc lv (.int y :: .int x :: st) := by
  intro hF H locs ls hP hS hl
  unfold bd_dv at hF
  split at hF
  · cases hF
  · rename_i hne
    exact lv_idiv hG.hx hG.hb hd hne (kk _ hF H locs ls hP hS hl)
theorem rr_irem (hG : bd_OK G cc nL own n fr lo rt) {x y : Int32} {k : Int32 → Option α} (hd : decode cc pc = .ok (.irem, 1)) (kk : ∀ z, bd_WF G out (k z) σ (pc + 1) lv (.int z :: st)) : bd_WF G out (bd_rm x y k) σ pc lv (.int y :: .int x :: st) := by
  intro hF H locs ls hP hS hl
  unfold bd_rm at hF
  split at hF
  · cases hF
  · rename_i hne
    exact lv_irem hG.hx hG.hb hd hne (kk _ hF H locs ls hP hS hl)
theorem rr_ldiv (hG : bd_OK G cc nL own n fr lo rt) {x y : Int64} {k : Int64 → Option α} (hd : decode cc pc = .ok (.ldiv, 1)) (kk : ∀ z, bd_WF G out (k z) σ (pc + 1) lv (.long z :: st)) : bd_WF G out (bd_dvl x y k) σ pc lv (.long y :: .long x :: st) := by
  intro hF H locs ls hP hS hl
  unfold bd_dvl at hF
  split at hF
  · cases hF
  · rename_i hne
    exact lv_ldiv hG.hx hG.hb hd hne (kk _ hF H locs ls hP hS hl)
theorem rr_lrem (hG : bd_OK G cc nL own n fr lo rt) {x y : Int64} {k : Int64 → Option α} (hd : decode cc pc = .ok (.lrem, 1)) (kk : ∀ z, bd_WF G out (k z) σ (pc + 1) lv (.long z :: st)) : bd_WF G out (bd_rml x y k) σ pc lv (.long y :: .long x :: st) := by
  intro hF H locs ls hP hS hl
  unfold bd_rml at hF
  split at hF
  · cases hF
  · rename_i hne
    exact lv_lrem hG.hx hG.hb hd hne (kk _ hF H locs ls hP hS hl)
theorem rr_dup (hG : bd_OK G cc nL own n fr lo rt) {v : Value} (hd : decode cc pc = .ok (.dup, 1)) (hv : v.category = 1) (kk : bd_WF G out F σ (pc + 1) lv (v :: v :: st)) : bd_WF G out F σ pc lv (v :: st) :=
  fun hF H locs ls hP hS hl => lv_dup hG.hx hG.hb hd hv (kk hF H locs ls hP hS hl)
theorem rr_pop (hG : bd_OK G cc nL own n fr lo rt) {v : Value} (hd : decode cc pc = .ok (.pop, 1)) (hv : v.category = 1) (kk : bd_WF G out F σ (pc + 1) lv st) : bd_WF G out F σ pc lv (v :: st) :=
  fun hF H locs ls hP hS hl => lv_pop hG.hx hG.hb hd hv (kk hF H locs ls hP hS hl)
theorem rr_dup2 (hG : bd_OK G cc nL own n fr lo rt) {v u : Value} (hd : decode cc pc = .ok (.dup2, 1)) (hv : v.category = 1) (hu : u.category = 1) (kk : bd_WF G out F σ (pc + 1) lv (v :: u :: v :: u :: st)) : bd_WF G out F σ pc lv (v :: u :: st) :=
  fun hF H locs ls hP hS hl => lv_dup2_11 hG.hx hG.hb hd hv hu (kk hF H locs ls hP hS hl)
theorem rr_dup_x1 (hG : bd_OK G cc nL own n fr lo rt) {v u : Value} (hd : decode cc pc = .ok (.dup_x1, 1)) (hv : v.category = 1) (hu : u.category = 1) (kk : bd_WF G out F σ (pc + 1) lv (v :: u :: v :: st)) : bd_WF G out F σ pc lv (v :: u :: st) :=
  fun hF H locs ls hP hS hl => lv_dup_x1 hG.hx hG.hb hd hv hu (kk hF H locs ls hP hS hl)
theorem rr_goto (hG : bd_OK G cc nL own n fr lo rt) {off : Int} {tgt : Nat} (hd : decode cc pc = .ok (.goto off, 3)) (ht : (pc : Int) + off = (tgt : Int)) (kk : bd_WF G out F σ tgt lv st) : bd_WF G out F σ pc lv st :=
  fun hF H locs ls hP hS hl => lv_goto hG.hx hG.hb hd ht (kk hF H locs ls hP hS hl)
theorem rr_if_eq (hG : bd_OK G cc nL own n fr lo rt) {x : Int32} {off : Int} (tgt : Nat) (hd : decode cc pc = .ok (.ifCond .eq off, 3)) (ht : (pc : Int) + off = (tgt : Int)) (k1 : bd_WF G out F1 σ tgt lv st) (k2 : bd_WF G out F2 σ (pc + 3) lv st) : bd_WF G out (if x = 0 then F1 else F2) σ pc lv (.int x :: st) := by
  intro hF H locs ls hP hS hl
  refine lv_if_eq hG.hx hG.hb hd ht (fun q => ?_) (fun q => ?_)
  · rw [if_pos q] at hF; exact k1 hF H locs ls hP hS hl
  · rw [if_neg q] at hF; exact k2 hF H locs ls hP hS hl
theorem rr_if_lt (hG : bd_OK G cc nL own n fr lo rt) {x : Int32} {off : Int} (tgt : Nat) (hd : decode cc pc = .ok (.ifCond .lt off, 3)) (ht : (pc : Int) + off = (tgt : Int)) (k1 : bd_WF G out F1 σ tgt lv st) (k2 : bd_WF G out F2 σ (pc + 3) lv st) : bd_WF G out (if x < 0 then F1 else F2) σ pc lv (.int x :: st) := by
  intro hF H locs ls hP hS hl
  refine lv_if_lt hG.hx hG.hb hd ht (fun q => ?_) (fun q => ?_)
  · rw [if_pos q] at hF; exact k1 hF H locs ls hP hS hl
  · rw [if_neg q] at hF; exact k2 hF H locs ls hP hS hl
theorem rr_if_ge (hG : bd_OK G cc nL own n fr lo rt) {x : Int32} {off : Int} (tgt : Nat) (hd : decode cc pc = .ok (.ifCond .ge off, 3)) (ht : (pc : Int) + off = (tgt : Int)) (k1 : bd_WF G out F1 σ tgt lv st) (k2 : bd_WF G out F2 σ (pc + 3) lv st) : bd_WF G out (if 0 ≤ x then F1 else F2) σ pc lv (.int x :: st) := by
  intro hF H locs ls hP hS hl
  refine lv_if_ge hG.hx hG.hb hd ht (fun q => ?_) (fun q => ?_)
  · rw [if_pos q] at hF; exact k1 hF H locs ls hP hS hl
  · rw [if_neg q] at hF; exact k2 hF H locs ls hP hS hl
theorem rr_if_gt (hG : bd_OK G cc nL own n fr lo rt) {x : Int32} {off : Int} (tgt : Nat) (hd : decode cc pc = .ok (.ifCond .gt off, 3)) (ht : (pc : Int) + off = (tgt : Int)) (k1 : bd_WF G out F1 σ tgt lv st) (k2 : bd_WF G out F2 σ (pc + 3) lv st) : bd_WF G out (if 0 < x then F1 else F2) σ pc lv (.int x :: st) := by
  intro hF H locs ls hP hS hl
  refine lv_if_gt hG.hx hG.hb hd ht (fun q => ?_) (fun q => ?_)
  · rw [if_pos q] at hF; exact k1 hF H locs ls hP hS hl
  · rw [if_neg q] at hF; exact k2 hF H locs ls hP hS hl
theorem rr_if_le (hG : bd_OK G cc nL own n fr lo rt) {x : Int32} {off : Int} (tgt : Nat) (hd : decode cc pc = .ok (.ifCond .le off, 3)) (ht : (pc : Int) + off = (tgt : Int)) (k1 : bd_WF G out F1 σ tgt lv st) (k2 : bd_WF G out F2 σ (pc + 3) lv st) : bd_WF G out (if x ≤ 0 then F1 else F2) σ pc lv (.int x :: st) := by
  intro hF H locs ls hP hS hl
  refine lv_if_le hG.hx hG.hb hd ht (fun q => ?_) (fun q => ?_)
  · rw [if_pos q] at hF; exact k1 hF H locs ls hP hS hl
  · rw [if_neg q] at hF; exact k2 hF H locs ls hP hS hl
theorem rr_icmp_eq (hG : bd_OK G cc nL own n fr lo rt) {x y : Int32} {off : Int} (tgt : Nat) (hd : decode cc pc = .ok (.if_icmp .eq off, 3)) (ht : (pc : Int) + off = (tgt : Int)) (k1 : bd_WF G out F1 σ tgt lv st) (k2 : bd_WF G out F2 σ (pc + 3) lv st) : bd_WF G out (if x = y then F1 else F2) σ pc lv (.int y :: .int x :: st) := by
  intro hF H locs ls hP hS hl
  refine lv_icmp_eq hG.hx hG.hb hd ht (fun q => ?_) (fun q => ?_)
  · rw [if_pos q] at hF; exact k1 hF H locs ls hP hS hl
  · rw [if_neg q] at hF; exact k2 hF H locs ls hP hS hl
theorem rr_icmp_lt (hG : bd_OK G cc nL own n fr lo rt) {x y : Int32} {off : Int} (tgt : Nat) (hd : decode cc pc = .ok (.if_icmp .lt off, 3)) (ht : (pc : Int) + off = (tgt : Int)) (k1 : bd_WF G out F1 σ tgt lv st) (k2 : bd_WF G out F2 σ (pc + 3) lv st) : bd_WF G out (if x < y then F1 else F2) σ pc lv (.int y :: .int x :: st) := by
  intro hF H locs ls hP hS hl
  refine lv_icmp_lt hG.hx hG.hb hd ht (fun q => ?_) (fun q => ?_)
  · rw [if_pos q] at hF; exact k1 hF H locs ls hP hS hl
  · rw [if_neg q] at hF; exact k2 hF H locs ls hP hS hl
theorem rr_icmp_ge (hG : bd_OK G cc nL own n fr lo rt) {x y : Int32} {off : Int} (tgt : Nat) (hd : decode cc pc = .ok (.if_icmp .ge off, 3)) (ht : (pc : Int) + off = (tgt : Int)) (k1 : bd_WF G out F1 σ tgt lv st) (k2 : bd_WF G out F2 σ (pc + 3) lv st) : bd_WF G out (if y ≤ x then F1 else F2) σ pc lv (.int y :: .int x :: st) := by
  intro hF H locs ls hP hS hl
  refine lv_icmp_ge hG.hx hG.hb hd ht (fun q => ?_) (fun q => ?_)
  · rw [if_pos q] at hF; exact k1 hF H locs ls hP hS hl
  · rw [if_neg q] at hF; exact k2 hF H locs ls hP hS hl
theorem rr_icmp_gt (hG : bd_OK G cc nL own n fr lo rt) {x y : Int32} {off : Int} (tgt : Nat) (hd : decode cc pc = .ok (.if_icmp .gt off, 3)) (ht : (pc : Int) + off = (tgt : Int)) (k1 : bd_WF G out F1 σ tgt lv st) (k2 : bd_WF G out F2 σ (pc + 3) lv st) : bd_WF G out (if y < x then F1 else F2) σ pc lv (.int y :: .int x :: st) := by
  intro hF H locs ls hP hS hl
  refine lv_icmp_gt hG.hx hG.hb hd ht (fun q => ?_) (fun q => ?_)
  · rw [if_pos q] at hF; exact k1 hF H locs ls hP hS hl
  · rw [if_neg q] at hF; exact k2 hF H locs ls hP hS hl
theorem rr_icmp_le (hG : bd_OK G cc nL own n fr lo rt) {x y : Int32} {off : Int} (tgt : Nat) (hd : decode cc pc = .ok (.if_icmp .le off, 3)) (ht : (pc : Int) + off = (tgt : Int)) (k1 : bd_WF G out F1 σ tgt lv st) (k2 : bd_WF G out F2 σ (pc + 3) lv st) : bd_WF G out (if x ≤ y then F1 else F2) σ pc lv (.int y :: .int x :: st) := by
  intro hF H locs ls hP hS hl
  refine lv_icmp_le hG.hx hG.hb hd ht (fun q => ?_) (fun q => ?_)
  · rw [if_pos q] at hF; exact k1 hF H locs ls hP hS hl
  · rw [if_neg q] at hF; exact k2 hF H locs ls hP hS hl
theorem rr_if_ne (hG : bd_OK G cc nL own n fr lo rt) {x : Int32} {off : Int} (tgt : Nat) (hd : decode cc pc = .ok (.ifCond .ne off, 3)) (ht : (pc : Int) + off = (tgt : Int)) (k1 : bd_WF G out F1 σ tgt lv st) (k2 : bd_WF G out F2 σ (pc + 3) lv st) : bd_WF G out (if x = 0 then F2 else F1) σ pc lv (.int x :: st) := by
  intro hF H locs ls hP hS hl
  refine lv_if_ne hG.hx hG.hb hd ht (fun q => ?_) (fun q => ?_)
  · rw [if_neg q] at hF; exact k1 hF H locs ls hP hS hl
  · rw [if_pos q] at hF; exact k2 hF H locs ls hP hS hl
theorem rr_icmp_ne (hG : bd_OK G cc nL own n fr lo rt) {x y : Int32} {off : Int} (tgt : Nat) (hd : decode cc pc = .ok (.if_icmp .ne off, 3)) (ht : (pc : Int) + off = (tgt : Int)) (k1 : bd_WF G out F1 σ tgt lv st) (k2 : bd_WF G out F2 σ (pc + 3) lv st) : bd_WF G out (if x = y then F2 else F1) σ pc lv (.int y :: .int x :: st) := by
  intro hF H locs ls hP hS hl
  refine lv_icmp_ne hG.hx hG.hb hd ht (fun q => ?_) (fun q => ?_)
  · rw [if_neg q] at hF; exact k1 hF H locs ls hP hS hl
  · rw [if_pos q] at hF; exact k2 hF H locs ls hP hS hl
theorem rr_sub (ks : List Nat) (h : lv_pick lv ks = lr) (kk : bd_WF G out F σ pc lr st) : bd_WF G out F σ pc lv st := fun hF H locs ls hP hS hl => kk hF H locs ls hP hS (lv_sub hl ks h)
theorem bd_vin {i : Int32} {m : Nat} (h : ¬ (i < 0 ∨ m ≤ i.toNatClampNeg)) : vp_in i m := h
theorem bd_lN {E : bd_E} {n r : Nat} (h : bd_ok E n) (hr : r < n) : r < bd_N E := Nat.lt_of_lt_of_le hr h.2.2.1
theorem rr_iald (hG : bd_OK G cc nL own n fr lo rt) {r m : Nat} {i : Int32} {k : Int32 → Option α} (hk : bd_kd r = (4, m)) (hr : r < n) (hd : decode cc pc = .ok (.iaload, 1)) (kk : ∀ z, bd_WF G out (k z) σ (pc + 1) lv (.int z :: st)) : bd_WF G out (bd_rd σ r i m k) σ pc lv (.int i :: .ref (bd_ad (g_E G) r) :: st) := by
  intro hF H locs ls hP hS hl
  unfold bd_rd at hF
  split at hF
  · cases hF
  · rename_i hin
    exact va_iald hG.hx hG.hb hG.hK hP r 0 (bd_w_at _ σ (bd_lN hG.hE hr) hk) rfl (bd_vin hin) hd (kk _ hF H locs ls hP hS hl)
theorem rr_zald (hG : bd_OK G cc nL own n fr lo rt) {r m : Nat} {i : Int32} {k : Int32 → Option α} (hk : bd_kd r = (5, m)) (hr : r < n) (hd : decode cc pc = .ok (.baload, 1)) (kk : ∀ z, bd_WF G out (k z) σ (pc + 1) lv (.int z :: st)) : bd_WF G out (bd_rd σ r i m k) σ pc lv (.int i :: .ref (bd_ad (g_E G) r) :: st) := by
  intro hF H locs ls hP hS hl
  unfold bd_rd at hF
  split at hF
  · cases hF
  · rename_i hin
    exact va_zald hG.hx hG.hb hG.hK hP r 1 (bd_w_at _ σ (bd_lN hG.hE hr) hk) rfl (bd_vin hin) hd (kk _ hF H locs ls hP hS hl)
theorem rr_iast (hG : bd_OK G cc nL own n fr lo rt) {r m : Nat} {i x : Int32} {k : bd_S → Option α} (hk : bd_kd r = (4, m)) (hr : r < n) (hd : decode cc pc = .ok (.iastore, 1)) (kk : ∀ z : bd_S, bd_WF G out (k z) z (pc + 1) lv st) : bd_WF G out (bd_wr σ r i m x k) σ pc lv (.int x :: .int i :: .ref (bd_ad (g_E G) r) :: st) := by
  intro hF H locs ls hP hS hl
  unfold bd_wr at hF
  split at hF
  · cases hF
  · rename_i hin
    have hrN := bd_lN hG.hE hr
    refine va_iast hG.hx hG.hb hG.hK hP (hG.hE.dis σ) hS r 0 (bd_w_at _ σ hrN hk) rfl (bd_vin hin) hd (fun H1 locs1 hP1 _ hS1 => ?_)
    refine kk _ hF H1 locs1 ls ?_ hS1 hl
    have he := bd_w_set (g_E G) σ (upd (σ r) i.toNatClampNeg x) hrN
    have hc : bd_cell (g_E G) (bd_sr σ r (upd (σ r) i.toNatClampNeg x)) r = bd_ce (g_E G) (upd (σ r) i.toNatClampNeg x) r (4, m) := by
      unfold bd_cell
      rw [bd_sr_self, hk]
    rw [hc] at he
    unfold bd_st
    rw [← he]
    exact hP1
theorem rr_zast (hG : bd_OK G cc nL own n fr lo rt) {r m : Nat} {i x : Int32} {k : bd_S → Option α} (hk : bd_kd r = (5, m)) (hr : r < n) (hd : decode cc pc = .ok (.bastore, 1)) (kk : ∀ z : bd_S, bd_WF G out (k z) z (pc + 1) lv st) : bd_WF G out (bd_wr σ r i m (vp_nar .boolean x) k) σ pc lv (.int x :: .int i :: .ref (bd_ad (g_E G) r) :: st) := by
  intro hF H locs ls hP hS hl
  unfold bd_wr at hF
  split at hF
  · cases hF
  · rename_i hin
    have hrN := bd_lN hG.hE hr
    refine va_zast hG.hx hG.hb hG.hK hP (hG.hE.dis σ) hS r 1 (bd_w_at _ σ hrN hk) rfl (bd_vin hin) hd (fun H1 locs1 hP1 _ hS1 => ?_)
    refine kk _ hF H1 locs1 ls ?_ hS1 hl
    have he := bd_w_set (g_E G) σ (upd (σ r) i.toNatClampNeg (vp_nar .boolean x)) hrN
    have hc : bd_cell (g_E G) (bd_sr σ r (upd (σ r) i.toNatClampNeg (vp_nar .boolean x))) r = bd_ce (g_E G) (upd (σ r) i.toNatClampNeg (vp_nar .boolean x)) r (5, m) := by
      unfold bd_cell
      rw [bd_sr_self, hk]
    rw [hc] at he
    unfold bd_st
    rw [← he]
    exact hP1
theorem rr_aald (hG : bd_OK G cc nL own n fr lo rt) {i : Int32} {k : Nat → Option α} (hn : 54 < n) (hd : decode cc pc = .ok (.aaload, 1)) (kk : ∀ r, bd_isS r → bd_WF G out (k r) σ (pc + 1) lv (.ref (bd_ad (g_E G) r) :: st)) : bd_WF G out (bd_rs i k) σ pc lv (.int i :: .ref (bd_ad (g_E G) 14) :: st) := by
  intro hF H locs ls hP hS hl
  unfold bd_rs at hF
  split at hF
  · cases hF
  · rename_i hin
    have hlt : i.toNatClampNeg < 4 := Nat.not_le.mp fun q => hin (Or.inr q)
    have hnS : bd_nS (g_E G) = 4 := hG.hE.2.2.2 (by omega)
    refine va_aldq hG.hx hG.hb hG.hK hP 14 2 (C := "BallDrops$Ship") (n := 4) (f := fun j => if j < bd_nS (g_E G) then some (bd_ad (g_E G) (19 + 9 * j)) else none) (bd_w_at _ σ (bd_lN hG.hE (by omega)) (k := (6, 4)) rfl) rfl (bd_vin hin) hd ?_
    have e : va_rf ((fun j => if j < bd_nS (g_E G) then some (bd_ad (g_E G) (19 + 9 * j)) else none) i.toNatClampNeg) = .ref (bd_ad (g_E G) (19 + 9 * i.toNatClampNeg)) := by
      show va_rf (if i.toNatClampNeg < bd_nS (g_E G) then some (bd_ad (g_E G) (19 + 9 * i.toNatClampNeg)) else none) = _
      rw [if_pos (by rw [hnS]; exact hlt)]
      rfl
    rw [e]
    exact kk _ (by unfold bd_isS; omega) hF H locs ls hP hS hl
theorem rr_get (hG : bd_OK G cc nL own n fr lo rt) {r ci idx : Nat} {C ref : String} {T : u_T} {N : Nat} {v : Value} (hk : bd_kd r = (ci, 0)) (hr : r < n) (hc : vwCl[ci]? = some (C, T, N)) (hci : ci < 4) (hin : ∀ w ∈ u_ws C T N, bd_in w) (k : Nat) (hkN : k < N) (hl9 : bd_in (.fieldLink own idx ref (T k).2.1 (T k).2.2.1)) (href : (T k).1 = ref) (hv : (bd_fs (g_E G) (σ r) r ci)[k]? = some v) (hd : decode cc pc = .ok (.getfield idx, 3)) (kk : bd_WF G out F σ (pc + 3) lv (v :: st)) : bd_WF G out F σ pc lv (.ref (bd_ad (g_E G) r) :: st) := by
  intro hF H locs ls hP hS hl
  have he : (bd_w (g_E G) σ)[r]? = some (bd_ad (g_E G) r, .inr (ci, bd_fs (g_E G) (σ r) r ci)) := by
    rw [bd_w_at _ σ (bd_lN hG.hE hr) hk]
    unfold bd_ce
    rw [if_neg (by simp only; omega), if_neg (by simp only; omega), if_neg (by simp only; omega)]
  subst href
  exact va_get hG.hx hG.hb (Ts := u_ws C T N) (fun w hw => hG.hT.at (hin w hw) _) (fun _ h => h) hG.hown hG.hK hP r he hc k hkN (hG.hT.at hl9 _) (fun _ h => h) hv hd (kk hF H locs ls hP hS hl)
theorem rr_getN (hG : bd_OK G cc nL own n fr lo rt) {r ci idx : Nat} {C ref host : String} {T : u_T} {N : Nat} {v : Value} (hk : bd_kd r = (ci, 0)) (hr : r < n) (hc : vwCl[ci]? = some (C, T, N)) (hci : ci < 4) (hin : ∀ w ∈ u_ws C T N, bd_in w) (k : Nat) (hkN : k < N) (hl9 : bd_inN (.fieldLinkNest own idx ref (T k).2.1 (T k).2.2.1 host)) (href : (T k).1 = ref) (hv : (bd_fs (g_E G) (σ r) r ci)[k]? = some v) (hd : decode cc pc = .ok (.getfield idx, 3)) (kk : bd_WF G out F σ (pc + 3) lv (v :: st)) : bd_WF G out F σ pc lv (.ref (bd_ad (g_E G) r) :: st) := by
  intro hF H locs ls hP hS hl
  have he : (bd_w (g_E G) σ)[r]? = some (bd_ad (g_E G) r, .inr (ci, bd_fs (g_E G) (σ r) r ci)) := by
    rw [bd_w_at _ σ (bd_lN hG.hE hr) hk]
    unfold bd_ce
    rw [if_neg (by simp only; omega), if_neg (by simp only; omega), if_neg (by simp only; omega)]
  subst href
  exact va_getN hG.hx hG.hb (Ts := u_ws C T N) (fun w hw => hG.hT.at (hin w hw) _) (fun _ h => h) hG.hown hG.hK hP r he hc k hkN (hG.hN.at hl9 _) (fun _ h => h) hv hd (kk hF H locs ls hP hS hl)
theorem rr_put (hG : bd_OK G cc nL own n fr lo rt) {r ci idx : Nat} {C ref : String} {T : u_T} {N : Nat} {x : Int32} {κ : bd_S → Option α} {ty0 : Nat → FieldType} {ty : FieldType} (hk : bd_kd r = (ci, 0)) (hr : r < n) (hc : vwCl[ci]? = some (C, T, N)) (hci : ci < 4) (hin : ∀ w ∈ u_ws C T N, bd_in w) (hty : ∀ k, k < N → parseFieldDescriptor (T k).2.2.1 = some (ty0 k)) (hnm : ∀ a, a < N → ∀ b, b < N → a ≠ b → (T a).2.1 ≠ (T b).2.1) (k : Nat) (hkN : k < N) (hl9 : bd_in (.fieldLink own idx ref (T k).2.1 (T k).2.2.1)) (href : (T k).1 = ref) (hfin : (T k).2.2.2 = false) (hd0 : parseFieldDescriptor (T k).2.2.1 = some ty) (hnw : narrow ty (.int x) = .int x) (hft : fits ty (.int x) = true) (hlen : ∀ f, k < (bd_fs (g_E G) f r ci).length) (hset : ∀ f, (bd_fs (g_E G) f r ci).set k (.int x) = bd_fs (g_E G) (upd f k x) r ci) (hd : decode cc pc = .ok (.putfield idx, 3)) (kk : ∀ z : bd_S, bd_WF G out (κ z) z (pc + 3) lv st) : bd_WF G out (bd_lt (bd_st σ r k x) κ) σ pc lv (.int x :: .ref (bd_ad (g_E G) r) :: st) := by
  intro hF H locs ls hP hS hl
  have hrN := bd_lN hG.hE hr
  have hce : ∀ f, bd_ce (g_E G) f r (ci, 0) = .inr (ci, bd_fs (g_E G) f r ci) := fun f => by
    unfold bd_ce
    rw [if_neg (by simp only; omega), if_neg (by simp only; omega), if_neg (by simp only; omega)]
  have he : (bd_w (g_E G) σ)[r]? = some (bd_ad (g_E G) r, .inr (ci, bd_fs (g_E G) (σ r) r ci)) := by
    rw [bd_w_at _ σ hrN hk, hce]
  subst href
  refine va_put hG.hx hG.hb (Ts := u_ws C T N) (fun w hw => hG.hT.at (hin w hw) _) (fun _ h => h) ty0 hty hnm hG.hown hG.hK hP (hG.hE.dis σ) hS r he hc k hkN (hG.hT.at hl9 _) (fun _ h => h) hfin hd0 hnw hft (hlen _) hd (fun H1 locs1 hP1 _ hS1 => ?_)
  refine kk _ hF H1 locs1 ls ?_ hS1 hl
  have h5 := bd_w_set (g_E G) σ (upd (σ r) k x) hrN
  have h6 : bd_cell (g_E G) (bd_sr σ r (upd (σ r) k x)) r = .inr (ci, (bd_fs (g_E G) (σ r) r ci).set k (.int x)) := by
    unfold bd_cell
    rw [bd_sr_self, hk, hce, hset]
  rw [h6] at h5
  unfold bd_st
  rw [← h5]
  exact hP1
theorem rr_putN (hG : bd_OK G cc nL own n fr lo rt) {r ci idx : Nat} {C ref host : String} {T : u_T} {N : Nat} {x : Int32} {κ : bd_S → Option α} {ty0 : Nat → FieldType} {ty : FieldType} (hk : bd_kd r = (ci, 0)) (hr : r < n) (hc : vwCl[ci]? = some (C, T, N)) (hci : ci < 4) (hin : ∀ w ∈ u_ws C T N, bd_in w) (hty : ∀ k, k < N → parseFieldDescriptor (T k).2.2.1 = some (ty0 k)) (hnm : ∀ a, a < N → ∀ b, b < N → a ≠ b → (T a).2.1 ≠ (T b).2.1) (k : Nat) (hkN : k < N) (hl9 : bd_inN (.fieldLinkNest own idx ref (T k).2.1 (T k).2.2.1 host)) (href : (T k).1 = ref) (hfin : (T k).2.2.2 = false) (hd0 : parseFieldDescriptor (T k).2.2.1 = some ty) (hnw : narrow ty (.int x) = .int x) (hft : fits ty (.int x) = true) (hlen : ∀ f, k < (bd_fs (g_E G) f r ci).length) (hset : ∀ f, (bd_fs (g_E G) f r ci).set k (.int x) = bd_fs (g_E G) (upd f k x) r ci) (hd : decode cc pc = .ok (.putfield idx, 3)) (kk : ∀ z : bd_S, bd_WF G out (κ z) z (pc + 3) lv st) : bd_WF G out (bd_lt (bd_st σ r k x) κ) σ pc lv (.int x :: .ref (bd_ad (g_E G) r) :: st) := by
  intro hF H locs ls hP hS hl
  have hrN := bd_lN hG.hE hr
  have hce : ∀ f, bd_ce (g_E G) f r (ci, 0) = .inr (ci, bd_fs (g_E G) f r ci) := fun f => by
    unfold bd_ce
    rw [if_neg (by simp only; omega), if_neg (by simp only; omega), if_neg (by simp only; omega)]
  have he : (bd_w (g_E G) σ)[r]? = some (bd_ad (g_E G) r, .inr (ci, bd_fs (g_E G) (σ r) r ci)) := by
    rw [bd_w_at _ σ hrN hk, hce]
  subst href
  refine va_putN hG.hx hG.hb (Ts := u_ws C T N) (fun w hw => hG.hT.at (hin w hw) _) (fun _ h => h) ty0 hty hnm hG.hown hG.hK hP (hG.hE.dis σ) hS r he hc k hkN (hG.hN.at hl9 _) (fun _ h => h) hfin hd0 hnw hft (hlen _) hd (fun H1 locs1 hP1 _ hS1 => ?_)
  refine kk _ hF H1 locs1 ls ?_ hS1 hl
  have h5 := bd_w_set (g_E G) σ (upd (σ r) k x) hrN
  have h6 : bd_cell (g_E G) (bd_sr σ r (upd (σ r) k x)) r = .inr (ci, (bd_fs (g_E G) (σ r) r ci).set k (.int x)) := by
    unfold bd_cell
    rw [bd_sr_self, hk, hce, hset]
  rw [h6] at h5
  unfold bd_st
  rw [← h5]
  exact hP1
theorem rr_iret (hG : bd_OK G cc nL own n fr lo (some .int)) {o : Int32 × bd_S} {v : Int32} (ho : bd_ends bd_Qi G o) (hd : decode cc pc = .ok (.ireturn, 1)) : bd_WF G o (some (v, σ)) σ pc lv [.int v] := by
  intro hF H locs ls hP hS hl
  cases hF
  rw [ho]
  exact W.iret hG.hx hG.hb hG.hr (fun t ht hW => ⟨⟨v, (), rfl, rfl, by subst ht; exact hP⟩, hS.F ht⟩) hS.2.2 hd hG.hlk
theorem rr_zret (hG : bd_OK G cc nL own n fr lo (some .boolean)) {o : Int32 × bd_S} {v : Int32} (ho : bd_ends bd_Qi G o) (hd : decode cc pc = .ok (.ireturn, 1)) : bd_WF G o (bd_zr v σ) σ pc lv [.int v] := by
  intro hF H locs ls hP hS hl
  unfold bd_zr at hF
  split at hF
  · rename_i hv
    cases hF
    rw [ho]
    refine W.zret hG.hx hG.hb hG.hr ?_ (fun t ht hW => ⟨⟨v, (), rfl, rfl, by subst ht; exact hP⟩, hS.F ht⟩) hS.2.2 hd hG.hlk
    rcases hv with rfl | rfl <;> decide
  · cases hF
theorem rr_lret (hG : bd_OK G cc nL own n fr lo (some .long)) {o : Int64 × bd_S} {v : Int64} (ho : bd_ends bd_Ql G o) (hd : decode cc pc = .ok (.lreturn, 1)) : bd_WF G o (some (v, σ)) σ pc lv [.long v] := by
  intro hF H locs ls hP hS hl
  cases hF
  rw [ho]
  exact W.lret hG.hx hG.hb hG.hr (fun t ht hW => ⟨⟨v, (), rfl, rfl, by subst ht; exact hP⟩, hS.F ht⟩) hS.2.2 hd hG.hlk
theorem rr_vret (hG : bd_OK G cc nL own n fr lo none) {o : Unit × bd_S} (ho : bd_ends bd_Qv G o) (hd : decode cc pc = .ok (.return_, 1)) : bd_WF G o (some ((), σ)) σ pc lv [] := by
  intro hF H locs ls hP hS hl
  cases hF
  rw [ho]
  exact W.vret hG.hx hG.hb hG.hr (fun t ht hW => ⟨⟨(), rfl, trivial, by subst ht; exact hP⟩, hS.F ht⟩) hS.2.2 hd hG.hlk
theorem rr_mmax (hG : bd_OK G cc nL own n fr lo rt) {x y : Int32} {idx : Nat} {k : Int32 → Option α} (h1 : bd_in (.methodLink own idx Lib.Math.max.name)) (h2 : bd_in (.static Lib.Math.max.name)) (h3 : bd_in (.initialized "java/lang/Math")) (h4 : bd_in (.code Lib.Math.max.name Lib.Math.max.code 2 (some .int))) (hfr : 1 ≤ fr) (hlo : (st.map fun v => v.category).sum + 13 ≤ lo) (hd : decode cc pc = .ok (.invokestatic idx, 3)) (kk : ∀ z, bd_WF G out (k z) σ (pc + 3) lv (.int z :: st)) : bd_WF G out (bd_lt (if x < y then y else x) k) σ pc lv (.int y :: .int x :: st) :=
  fun hF H locs ls hP hS hl => va_mmax hG.hx hG.hb hl.1.symm hG.hown (hG.hT.at h1 _) (hG.hT.at h2 _) (hG.hT.at h3 _) (hG.hT.at h4 _) (Nat.le_trans hfr hG.hfr) (Nat.le_trans hlo hG.hlo) (Nat.zero_le _) (Nat.zero_le _) hd (kk _ hF H locs ls hP hS hl)
theorem rr_mmin (hG : bd_OK G cc nL own n fr lo rt) {x y : Int32} {idx : Nat} {k : Int32 → Option α} (h1 : bd_in (.methodLink own idx Lib.Math.min.name)) (h2 : bd_in (.static Lib.Math.min.name)) (h3 : bd_in (.initialized "java/lang/Math")) (h4 : bd_in (.code Lib.Math.min.name Lib.Math.min.code 2 (some .int))) (hfr : 1 ≤ fr) (hlo : (st.map fun v => v.category).sum + 13 ≤ lo) (hd : decode cc pc = .ok (.invokestatic idx, 3)) (kk : ∀ z, bd_WF G out (k z) σ (pc + 3) lv (.int z :: st)) : bd_WF G out (bd_lt (if y < x then y else x) k) σ pc lv (.int y :: .int x :: st) :=
  fun hF H locs ls hP hS hl => va_mmin hG.hx hG.hb hl.1.symm hG.hown (hG.hT.at h1 _) (hG.hT.at h2 _) (hG.hT.at h3 _) (hG.hT.at h4 _) (Nat.le_trans hfr hG.hfr) (Nat.le_trans hlo hG.hlo) (Nat.zero_le _) (Nat.zero_le _) hd (kk _ hF H locs ls hP hS hl)
def bd_lk (own : String) (idx : Nat) (y : MethodName) (bytes : ByteArray) (mL : Nat) (ret : Option FieldType) (nr : Nat) : Prop := bd_in (.code y bytes mL ret) ∧ bd_in (.initialized y.cls) ∧ bd_in (.methodLink own idx y) ∧ (y.cls ≠ "java/lang/invoke/MethodHandle" ∧ y.cls ≠ "java/lang/invoke/VarHandle") ∧ (parseMethodDescriptor y.desc).map (fun d => d.parameters.length) = some nr
def bd_lkN (own : String) (idx : Nat) (y : MethodName) (host : String) (bytes : ByteArray) (mL : Nat) (ret : Option FieldType) (nr : Nat) : Prop := bd_in (.code y bytes mL ret) ∧ bd_in (.initialized y.cls) ∧ bd_inN (.methodLinkNest own idx y host) ∧ (y.cls ≠ "java/lang/invoke/MethodHandle" ∧ y.cls ≠ "java/lang/invoke/VarHandle") ∧ (parseMethodDescriptor y.desc).map (fun d => d.parameters.length) = some nr
theorem bd_callB {idx nr mL fr1 lo1 : Nat} {y : MethodName} {bytes : ByteArray} {ret : Option FieldType} (hG : bd_OK G cc nL own n fr lo rt) (h : bd_lk own idx y bytes mL ret nr) (hf : fr1 + 1 ≤ fr) (hl : 8 + (mL + 11) + lo1 ≤ lo) : CallB (g_R G) (g_s G) (g_a G) own idx y bytes mL ret [.code y bytes mL ret] { frames := fr1, cells := 0, slots := 0, locals := lo1 } 0 0 nr := by
  obtain ⟨h1, h2, h3, h4, h5⟩ := h
  refine ⟨rfl, rfl, Nat.le_trans hf hG.hfr, Nat.le_trans hl hG.hlo, fun w hw a U hW => ?_, List.mem_singleton.mpr rfl, hG.hT.at h1 _, hG.hT.at h2 _, h4, fun sig hs => ?_, hG.hT.at h3 _⟩
  · rw [List.mem_singleton.mp hw]
    exact (hG.hT.warm hW).at h1 a
  · rw [hs] at h5
    exact (Option.some.inj h5).symm
theorem bd_callN {idx nr mL fr1 lo1 : Nat} {y : MethodName} {host : String} {bytes : ByteArray} {ret : Option FieldType} (hG : bd_OK G cc nL own n fr lo rt) (h : bd_lkN own idx y host bytes mL ret nr) (hf : fr1 + 1 ≤ fr) (hl : 8 + (mL + 11) + lo1 ≤ lo) : va_CN (g_R G) (g_s G) (g_a G) own idx y host bytes mL ret [.code y bytes mL ret] { frames := fr1, cells := 0, slots := 0, locals := lo1 } 0 0 nr := by
  obtain ⟨h1, h2, h3, h4, h5⟩ := h
  refine ⟨⟨rfl, rfl, Nat.le_trans hf hG.hfr, Nat.le_trans hl hG.hlo, fun w hw a U hW => ?_, List.mem_singleton.mpr rfl⟩, hG.hT.at h1 _, hG.hT.at h2 _, h4, fun sig hs => ?_, hG.hN.at h3 _⟩
  · rw [List.mem_singleton.mp hw]
    exact (hG.hT.warm hW).at h1 a
  · rw [hs] at h5
    exact (Option.some.inj h5).symm
theorem bd_recv {r ci : Nat} {q : vw_C} {H : Heap} (hG : bd_OK G cc nL own n fr lo rt) (hk : bd_kd r = (ci, 0)) (hr : r < n) (hci : ci < 4) (hc : vwCl[ci]? = some q) (hP : va_P (bd_D (g_E G)) vwCl (bd_w (g_E G) σ) H) : ∃ cell : Cell, H[bd_ad (g_E G) r]? = some cell ∧ cell.vm.isStatics = false ∧ (g_s G).vm.findClass q.1 = some cell.cls := by
  refine va_recv hG.hK hP (ci := ci) (q0 := r) (fs := bd_fs (g_E G) (σ r) r ci) hc ?_
  rw [bd_w_at _ σ (bd_lN hG.hE hr) hk]
  unfold bd_ce
  rw [if_neg (by simp only; omega), if_neg (by simp only; omega), if_neg (by simp only; omega)]
theorem bd_pre {H : Heap} {av : List Value} (hG : bd_OK G cc nL own n fr lo rt) (hP : va_P (bd_D (g_E G)) vwCl (bd_w (g_E G) σ) H) : ∀ U : State, U.heap = H → (g_s G).WarmedH U.vm → bd_Pre (g_E G) av σ av.toArray U :=
  fun U hU hW => ⟨rfl, by rw [hU]; exact hP, va_K.moved hW.alike hG.hK, hG.hT.warm hW, hG.hN.warm hW⟩
theorem rr_cVi (hG : bd_OK G cc nL own n fr lo rt) {r0 ci idx nr mL fr1 lo1 : Nat} {q : vw_C} {y : MethodName} {bytes : ByteArray} {ret : Option FieldType} {f : Option (Int32 × bd_S)} {k : Int32 → bd_S → Option α} {rest : List Value} (As : List Value) (hM : bd_M bd_Qi (g_l G) y bytes mL ret fr1 lo1 (g_E G) (.ref (bd_ad (g_E G) r0) :: As) σ f) (hlk : bd_lk own idx y bytes mL ret nr) (hi : bd_in (.instanceMethod y)) (hse : bd_in (.selects y.cls y y)) (hk : bd_kd r0 = (ci, 0)) (hr0 : r0 < n) (hci : ci < 4) (hq : vwCl[ci]? = some q) (hqy : q.1 = y.cls) (hf : fr1 + 1 ≤ fr) (hlo : 8 + (mL + 11) + lo1 ≤ lo) (hn : As.length = nr) (hst : st = As.reverse ++ .ref (bd_ad (g_E G) r0) :: rest) (hw : (rest.map fun v => v.category).sum ≤ 8) (hd : decode cc pc = .ok (.invokevirtual idx, 3)) (kk : ∀ (r : Int32) (z : bd_S), bd_WF G out (k r z) z (pc + 3) lv (.int r :: rest)) : bd_WF G out (bd_b f k) σ pc lv st := by
  intro hF H locs ls hP hS hl
  obtain ⟨r1, σ1, hf1, hk1⟩ := bd_b_some hF
  subst hst
  have hrun := va_runV (C := y.cls) (e := g_e G) (below := g_b G) (meth := g_M G) (H := H) (locs := locs) (cells := 0) (slots := 0) (g := F0 (g_m G) pc ls (As.reverse ++ .ref (bd_ad (g_E G) r0) :: rest)) (rest := rest) (As := As) (nL := nL) (Ts := []) ⟨hG.hx, hG.hb, hG.hml, hG.hown, fun _ h => absurd h List.not_mem_nil⟩ (hM _ hf1) ⟨(bd_callB hG hlk hf hlo), hG.hT.at hi _, hG.hT.at hse _⟩ ⟨bd_Pre.blind _ _ _, by rw [← hqy]; exact bd_recv hG hk hr0 hci hq hP, bd_pre hG hP⟩ rfl hn (by rw [← hG.hml]; exact hl.1) rfl (lv_room hw) hd ⟨Nat.zero_le _, Nat.zero_le _⟩
  refine va_calli hrun hS (fun _ _ h => h) (fun _ h => h) (fun r u t H1 locs1 ht _ hw1 hB _ _ hS1 => ?_)
  have hw2 : r = r1 := hw1
  have hB2 : va_P (bd_D (g_E G)) vwCl (bd_w (g_E G) σ1) H1 := by
    subst ht
    exact hB
  rw [hw2]
  exact kk r1 σ1 hk1 H1 locs1 ls hB2 hS1 hl
theorem rr_cVl (hG : bd_OK G cc nL own n fr lo rt) {r0 ci idx nr mL fr1 lo1 : Nat} {q : vw_C} {y : MethodName} {bytes : ByteArray} {ret : Option FieldType} {f : Option (Int64 × bd_S)} {k : Int64 → bd_S → Option α} {rest : List Value} (As : List Value) (hM : bd_M bd_Ql (g_l G) y bytes mL ret fr1 lo1 (g_E G) (.ref (bd_ad (g_E G) r0) :: As) σ f) (hlk : bd_lk own idx y bytes mL ret nr) (hi : bd_in (.instanceMethod y)) (hse : bd_in (.selects y.cls y y)) (hk : bd_kd r0 = (ci, 0)) (hr0 : r0 < n) (hci : ci < 4) (hq : vwCl[ci]? = some q) (hqy : q.1 = y.cls) (hf : fr1 + 1 ≤ fr) (hlo : 8 + (mL + 11) + lo1 ≤ lo) (hn : As.length = nr) (hst : st = As.reverse ++ .ref (bd_ad (g_E G) r0) :: rest) (hw : (rest.map fun v => v.category).sum ≤ 8) (hd : decode cc pc = .ok (.invokevirtual idx, 3)) (kk : ∀ (r : Int64) (z : bd_S), bd_WF G out (k r z) z (pc + 3) lv (.long r :: rest)) : bd_WF G out (bd_b f k) σ pc lv st := by
  intro hF H locs ls hP hS hl
  obtain ⟨r1, σ1, hf1, hk1⟩ := bd_b_some hF
  subst hst
  have hrun := va_runV (C := y.cls) (e := g_e G) (below := g_b G) (meth := g_M G) (H := H) (locs := locs) (cells := 0) (slots := 0) (g := F0 (g_m G) pc ls (As.reverse ++ .ref (bd_ad (g_E G) r0) :: rest)) (rest := rest) (As := As) (nL := nL) (Ts := []) ⟨hG.hx, hG.hb, hG.hml, hG.hown, fun _ h => absurd h List.not_mem_nil⟩ (hM _ hf1) ⟨(bd_callB hG hlk hf hlo), hG.hT.at hi _, hG.hT.at hse _⟩ ⟨bd_Pre.blind _ _ _, by rw [← hqy]; exact bd_recv hG hk hr0 hci hq hP, bd_pre hG hP⟩ rfl hn (by rw [← hG.hml]; exact hl.1) rfl (lv_room hw) hd ⟨Nat.zero_le _, Nat.zero_le _⟩
  refine va_calll hrun hS (fun _ _ h => h) (fun _ h => h) (fun r u t H1 locs1 ht _ hw1 hB _ _ hS1 => ?_)
  have hw2 : r = r1 := hw1
  have hB2 : va_P (bd_D (g_E G)) vwCl (bd_w (g_E G) σ1) H1 := by
    subst ht
    exact hB
  rw [hw2]
  exact kk r1 σ1 hk1 H1 locs1 ls hB2 hS1 hl
theorem rr_cVv (hG : bd_OK G cc nL own n fr lo rt) {r0 ci idx nr mL fr1 lo1 : Nat} {q : vw_C} {y : MethodName} {bytes : ByteArray} {ret : Option FieldType} {f : Option (Unit × bd_S)} {k : Unit → bd_S → Option α} {rest : List Value} (As : List Value) (hM : bd_M bd_Qv (g_l G) y bytes mL ret fr1 lo1 (g_E G) (.ref (bd_ad (g_E G) r0) :: As) σ f) (hlk : bd_lk own idx y bytes mL ret nr) (hi : bd_in (.instanceMethod y)) (hse : bd_in (.selects y.cls y y)) (hk : bd_kd r0 = (ci, 0)) (hr0 : r0 < n) (hci : ci < 4) (hq : vwCl[ci]? = some q) (hqy : q.1 = y.cls) (hf : fr1 + 1 ≤ fr) (hlo : 8 + (mL + 11) + lo1 ≤ lo) (hn : As.length = nr) (hst : st = As.reverse ++ .ref (bd_ad (g_E G) r0) :: rest) (hw : (rest.map fun v => v.category).sum ≤ 8) (hd : decode cc pc = .ok (.invokevirtual idx, 3)) (kk : ∀ (z : bd_S), bd_WF G out (k () z) z (pc + 3) lv rest) : bd_WF G out (bd_b f k) σ pc lv st := by
  intro hF H locs ls hP hS hl
  obtain ⟨r1, σ1, hf1, hk1⟩ := bd_b_some hF
  subst hst
  have hrun := va_runV (C := y.cls) (e := g_e G) (below := g_b G) (meth := g_M G) (H := H) (locs := locs) (cells := 0) (slots := 0) (g := F0 (g_m G) pc ls (As.reverse ++ .ref (bd_ad (g_E G) r0) :: rest)) (rest := rest) (As := As) (nL := nL) (Ts := []) ⟨hG.hx, hG.hb, hG.hml, hG.hown, fun _ h => absurd h List.not_mem_nil⟩ (hM _ hf1) ⟨(bd_callB hG hlk hf hlo), hG.hT.at hi _, hG.hT.at hse _⟩ ⟨bd_Pre.blind _ _ _, by rw [← hqy]; exact bd_recv hG hk hr0 hci hq hP, bd_pre hG hP⟩ rfl hn (by rw [← hG.hml]; exact hl.1) rfl (lv_room hw) hd ⟨Nat.zero_le _, Nat.zero_le _⟩
  refine va_callv hrun hS (fun _ _ h => h) (fun _ h => h) (fun u t H1 locs1 ht _ _ hB _ _ hS1 => ?_)
  have hB2 : va_P (bd_D (g_E G)) vwCl (bd_w (g_E G) σ1) H1 := by
    subst ht
    exact hB
  exact kk σ1 hk1 H1 locs1 ls hB2 hS1 hl
theorem rr_cSi (hG : bd_OK G cc nL own n fr lo rt) {r0 ci idx nr mL fr1 lo1 : Nat} {q : vw_C} {y : MethodName} {bytes : ByteArray} {ret : Option FieldType} {f : Option (Int32 × bd_S)} {k : Int32 → bd_S → Option α} {rest : List Value} (As : List Value) (hM : bd_M bd_Qi (g_l G) y bytes mL ret fr1 lo1 (g_E G) As σ f) (hlk : bd_lk own idx y bytes mL ret nr) (hi : bd_in (.static y)) (hf : fr1 + 1 ≤ fr) (hlo : 8 + (mL + 11) + lo1 ≤ lo) (hn : As.length = nr) (hst : st = As.reverse ++ rest) (hw : (rest.map fun v => v.category).sum ≤ 8) (hd : decode cc pc = .ok (.invokestatic idx, 3)) (kk : ∀ (r : Int32) (z : bd_S), bd_WF G out (k r z) z (pc + 3) lv (.int r :: rest)) : bd_WF G out (bd_b f k) σ pc lv st := by
  intro hF H locs ls hP hS hl
  obtain ⟨r1, σ1, hf1, hk1⟩ := bd_b_some hF
  subst hst
  have hrun := va_runS (e := g_e G) (below := g_b G) (meth := g_M G) (H := H) (locs := locs) (cells := 0) (slots := 0) (g := F0 (g_m G) pc ls (As.reverse ++ rest)) (rest := rest) (As := As) (nL := nL) (Ts := []) ⟨hG.hx, hG.hb, hG.hml, hG.hown, fun _ h => absurd h List.not_mem_nil⟩ (hM _ hf1) ⟨(bd_callB hG hlk hf hlo), hG.hT.at hi _⟩ ⟨bd_Pre.blind _ _ _, bd_pre hG hP⟩ rfl hn (by rw [← hG.hml]; exact hl.1) rfl (lv_room hw) hd ⟨Nat.zero_le _, Nat.zero_le _⟩
  refine va_calli hrun hS (fun _ _ h => h) (fun _ h => h) (fun r u t H1 locs1 ht _ hw1 hB _ _ hS1 => ?_)
  have hw2 : r = r1 := hw1
  have hB2 : va_P (bd_D (g_E G)) vwCl (bd_w (g_E G) σ1) H1 := by
    subst ht
    exact hB
  rw [hw2]
  exact kk r1 σ1 hk1 H1 locs1 ls hB2 hS1 hl
theorem rr_cSl (hG : bd_OK G cc nL own n fr lo rt) {r0 ci idx nr mL fr1 lo1 : Nat} {q : vw_C} {y : MethodName} {bytes : ByteArray} {ret : Option FieldType} {f : Option (Int64 × bd_S)} {k : Int64 → bd_S → Option α} {rest : List Value} (As : List Value) (hM : bd_M bd_Ql (g_l G) y bytes mL ret fr1 lo1 (g_E G) As σ f) (hlk : bd_lk own idx y bytes mL ret nr) (hi : bd_in (.static y)) (hf : fr1 + 1 ≤ fr) (hlo : 8 + (mL + 11) + lo1 ≤ lo) (hn : As.length = nr) (hst : st = As.reverse ++ rest) (hw : (rest.map fun v => v.category).sum ≤ 8) (hd : decode cc pc = .ok (.invokestatic idx, 3)) (kk : ∀ (r : Int64) (z : bd_S), bd_WF G out (k r z) z (pc + 3) lv (.long r :: rest)) : bd_WF G out (bd_b f k) σ pc lv st := by
  intro hF H locs ls hP hS hl
  obtain ⟨r1, σ1, hf1, hk1⟩ := bd_b_some hF
  subst hst
  have hrun := va_runS (e := g_e G) (below := g_b G) (meth := g_M G) (H := H) (locs := locs) (cells := 0) (slots := 0) (g := F0 (g_m G) pc ls (As.reverse ++ rest)) (rest := rest) (As := As) (nL := nL) (Ts := []) ⟨hG.hx, hG.hb, hG.hml, hG.hown, fun _ h => absurd h List.not_mem_nil⟩ (hM _ hf1) ⟨(bd_callB hG hlk hf hlo), hG.hT.at hi _⟩ ⟨bd_Pre.blind _ _ _, bd_pre hG hP⟩ rfl hn (by rw [← hG.hml]; exact hl.1) rfl (lv_room hw) hd ⟨Nat.zero_le _, Nat.zero_le _⟩
  refine va_calll hrun hS (fun _ _ h => h) (fun _ h => h) (fun r u t H1 locs1 ht _ hw1 hB _ _ hS1 => ?_)
  have hw2 : r = r1 := hw1
  have hB2 : va_P (bd_D (g_E G)) vwCl (bd_w (g_E G) σ1) H1 := by
    subst ht
    exact hB
  rw [hw2]
  exact kk r1 σ1 hk1 H1 locs1 ls hB2 hS1 hl
theorem rr_cSv (hG : bd_OK G cc nL own n fr lo rt) {r0 ci idx nr mL fr1 lo1 : Nat} {q : vw_C} {y : MethodName} {bytes : ByteArray} {ret : Option FieldType} {f : Option (Unit × bd_S)} {k : Unit → bd_S → Option α} {rest : List Value} (As : List Value) (hM : bd_M bd_Qv (g_l G) y bytes mL ret fr1 lo1 (g_E G) As σ f) (hlk : bd_lk own idx y bytes mL ret nr) (hi : bd_in (.static y)) (hf : fr1 + 1 ≤ fr) (hlo : 8 + (mL + 11) + lo1 ≤ lo) (hn : As.length = nr) (hst : st = As.reverse ++ rest) (hw : (rest.map fun v => v.category).sum ≤ 8) (hd : decode cc pc = .ok (.invokestatic idx, 3)) (kk : ∀ (z : bd_S), bd_WF G out (k () z) z (pc + 3) lv rest) : bd_WF G out (bd_b f k) σ pc lv st := by
  intro hF H locs ls hP hS hl
  obtain ⟨r1, σ1, hf1, hk1⟩ := bd_b_some hF
  subst hst
  have hrun := va_runS (e := g_e G) (below := g_b G) (meth := g_M G) (H := H) (locs := locs) (cells := 0) (slots := 0) (g := F0 (g_m G) pc ls (As.reverse ++ rest)) (rest := rest) (As := As) (nL := nL) (Ts := []) ⟨hG.hx, hG.hb, hG.hml, hG.hown, fun _ h => absurd h List.not_mem_nil⟩ (hM _ hf1) ⟨(bd_callB hG hlk hf hlo), hG.hT.at hi _⟩ ⟨bd_Pre.blind _ _ _, bd_pre hG hP⟩ rfl hn (by rw [← hG.hml]; exact hl.1) rfl (lv_room hw) hd ⟨Nat.zero_le _, Nat.zero_le _⟩
  refine va_callv hrun hS (fun _ _ h => h) (fun _ h => h) (fun u t H1 locs1 ht _ _ hB _ _ hS1 => ?_)
  have hB2 : va_P (bd_D (g_E G)) vwCl (bd_w (g_E G) σ1) H1 := by
    subst ht
    exact hB
  exact kk σ1 hk1 H1 locs1 ls hB2 hS1 hl
theorem rr_cNi (hG : bd_OK G cc nL own n fr lo rt) {r0 ci idx nr mL fr1 lo1 : Nat} {q : vw_C} {y : MethodName} {host : String} {bytes : ByteArray} {ret : Option FieldType} {f : Option (Int32 × bd_S)} {k : Int32 → bd_S → Option α} {rest : List Value} (As : List Value) (hM : bd_M bd_Qi (g_l G) y bytes mL ret fr1 lo1 (g_E G) (.ref (bd_ad (g_E G) r0) :: As) σ f) (hlk : bd_lkN own idx y host bytes mL ret nr) (hi : bd_in (.instanceMethod y)) (hse : bd_in (.selects y.cls y y)) (hk : bd_kd r0 = (ci, 0)) (hr0 : r0 < n) (hci : ci < 4) (hq : vwCl[ci]? = some q) (hqy : q.1 = y.cls) (hf : fr1 + 1 ≤ fr) (hlo : 8 + (mL + 11) + lo1 ≤ lo) (hn : As.length = nr) (hst : st = As.reverse ++ .ref (bd_ad (g_E G) r0) :: rest) (hw : (rest.map fun v => v.category).sum ≤ 8) (hd : decode cc pc = .ok (.invokevirtual idx, 3)) (kk : ∀ (r : Int32) (z : bd_S), bd_WF G out (k r z) z (pc + 3) lv (.int r :: rest)) : bd_WF G out (bd_b f k) σ pc lv st := by
  intro hF H locs ls hP hS hl
  obtain ⟨r1, σ1, hf1, hk1⟩ := bd_b_some hF
  subst hst
  have hrun := va_runVN (C := y.cls) (e := g_e G) (below := g_b G) (meth := g_M G) (H := H) (locs := locs) (cells := 0) (slots := 0) (g := F0 (g_m G) pc ls (As.reverse ++ .ref (bd_ad (g_E G) r0) :: rest)) (rest := rest) (As := As) (nL := nL) (Ts := []) ⟨hG.hx, hG.hb, hG.hml, hG.hown, fun _ h => absurd h List.not_mem_nil⟩ (hM _ hf1) ⟨(bd_callN hG hlk hf hlo), hG.hT.at hi _, hG.hT.at hse _⟩ ⟨bd_Pre.blind _ _ _, by rw [← hqy]; exact bd_recv hG hk hr0 hci hq hP, bd_pre hG hP⟩ rfl hn (by rw [← hG.hml]; exact hl.1) rfl (lv_room hw) hd ⟨Nat.zero_le _, Nat.zero_le _⟩
  refine va_calli hrun hS (fun _ _ h => h) (fun _ h => h) (fun r u t H1 locs1 ht _ hw1 hB _ _ hS1 => ?_)
  have hw2 : r = r1 := hw1
  have hB2 : va_P (bd_D (g_E G)) vwCl (bd_w (g_E G) σ1) H1 := by
    subst ht
    exact hB
  rw [hw2]
  exact kk r1 σ1 hk1 H1 locs1 ls hB2 hS1 hl
theorem rr_cNl (hG : bd_OK G cc nL own n fr lo rt) {r0 ci idx nr mL fr1 lo1 : Nat} {q : vw_C} {y : MethodName} {host : String} {bytes : ByteArray} {ret : Option FieldType} {f : Option (Int64 × bd_S)} {k : Int64 → bd_S → Option α} {rest : List Value} (As : List Value) (hM : bd_M bd_Ql (g_l G) y bytes mL ret fr1 lo1 (g_E G) (.ref (bd_ad (g_E G) r0) :: As) σ f) (hlk : bd_lkN own idx y host bytes mL ret nr) (hi : bd_in (.instanceMethod y)) (hse : bd_in (.selects y.cls y y)) (hk : bd_kd r0 = (ci, 0)) (hr0 : r0 < n) (hci : ci < 4) (hq : vwCl[ci]? = some q) (hqy : q.1 = y.cls) (hf : fr1 + 1 ≤ fr) (hlo : 8 + (mL + 11) + lo1 ≤ lo) (hn : As.length = nr) (hst : st = As.reverse ++ .ref (bd_ad (g_E G) r0) :: rest) (hw : (rest.map fun v => v.category).sum ≤ 8) (hd : decode cc pc = .ok (.invokevirtual idx, 3)) (kk : ∀ (r : Int64) (z : bd_S), bd_WF G out (k r z) z (pc + 3) lv (.long r :: rest)) : bd_WF G out (bd_b f k) σ pc lv st := by
  intro hF H locs ls hP hS hl
  obtain ⟨r1, σ1, hf1, hk1⟩ := bd_b_some hF
  subst hst
  have hrun := va_runVN (C := y.cls) (e := g_e G) (below := g_b G) (meth := g_M G) (H := H) (locs := locs) (cells := 0) (slots := 0) (g := F0 (g_m G) pc ls (As.reverse ++ .ref (bd_ad (g_E G) r0) :: rest)) (rest := rest) (As := As) (nL := nL) (Ts := []) ⟨hG.hx, hG.hb, hG.hml, hG.hown, fun _ h => absurd h List.not_mem_nil⟩ (hM _ hf1) ⟨(bd_callN hG hlk hf hlo), hG.hT.at hi _, hG.hT.at hse _⟩ ⟨bd_Pre.blind _ _ _, by rw [← hqy]; exact bd_recv hG hk hr0 hci hq hP, bd_pre hG hP⟩ rfl hn (by rw [← hG.hml]; exact hl.1) rfl (lv_room hw) hd ⟨Nat.zero_le _, Nat.zero_le _⟩
  refine va_calll hrun hS (fun _ _ h => h) (fun _ h => h) (fun r u t H1 locs1 ht _ hw1 hB _ _ hS1 => ?_)
  have hw2 : r = r1 := hw1
  have hB2 : va_P (bd_D (g_E G)) vwCl (bd_w (g_E G) σ1) H1 := by
    subst ht
    exact hB
  rw [hw2]
  exact kk r1 σ1 hk1 H1 locs1 ls hB2 hS1 hl
theorem rr_cNv (hG : bd_OK G cc nL own n fr lo rt) {r0 ci idx nr mL fr1 lo1 : Nat} {q : vw_C} {y : MethodName} {host : String} {bytes : ByteArray} {ret : Option FieldType} {f : Option (Unit × bd_S)} {k : Unit → bd_S → Option α} {rest : List Value} (As : List Value) (hM : bd_M bd_Qv (g_l G) y bytes mL ret fr1 lo1 (g_E G) (.ref (bd_ad (g_E G) r0) :: As) σ f) (hlk : bd_lkN own idx y host bytes mL ret nr) (hi : bd_in (.instanceMethod y)) (hse : bd_in (.selects y.cls y y)) (hk : bd_kd r0 = (ci, 0)) (hr0 : r0 < n) (hci : ci < 4) (hq : vwCl[ci]? = some q) (hqy : q.1 = y.cls) (hf : fr1 + 1 ≤ fr) (hlo : 8 + (mL + 11) + lo1 ≤ lo) (hn : As.length = nr) (hst : st = As.reverse ++ .ref (bd_ad (g_E G) r0) :: rest) (hw : (rest.map fun v => v.category).sum ≤ 8) (hd : decode cc pc = .ok (.invokevirtual idx, 3)) (kk : ∀ (z : bd_S), bd_WF G out (k () z) z (pc + 3) lv rest) : bd_WF G out (bd_b f k) σ pc lv st := by
  intro hF H locs ls hP hS hl
  obtain ⟨r1, σ1, hf1, hk1⟩ := bd_b_some hF
  subst hst
  have hrun := va_runVN (C := y.cls) (e := g_e G) (below := g_b G) (meth := g_M G) (H := H) (locs := locs) (cells := 0) (slots := 0) (g := F0 (g_m G) pc ls (As.reverse ++ .ref (bd_ad (g_E G) r0) :: rest)) (rest := rest) (As := As) (nL := nL) (Ts := []) ⟨hG.hx, hG.hb, hG.hml, hG.hown, fun _ h => absurd h List.not_mem_nil⟩ (hM _ hf1) ⟨(bd_callN hG hlk hf hlo), hG.hT.at hi _, hG.hT.at hse _⟩ ⟨bd_Pre.blind _ _ _, by rw [← hqy]; exact bd_recv hG hk hr0 hci hq hP, bd_pre hG hP⟩ rfl hn (by rw [← hG.hml]; exact hl.1) rfl (lv_room hw) hd ⟨Nat.zero_le _, Nat.zero_le _⟩
  refine va_callv hrun hS (fun _ _ h => h) (fun _ h => h) (fun u t H1 locs1 ht _ _ hB _ _ hS1 => ?_)
  have hB2 : va_P (bd_D (g_E G)) vwCl (bd_w (g_E G) σ1) H1 := by
    subst ht
    exact hB
  exact kk σ1 hk1 H1 locs1 ls hB2 hS1 hl
theorem rr_cMi (hG : bd_OK G cc nL own n fr lo rt) {r0 ci idx nr mL fr1 lo1 : Nat} {q : vw_C} {y : MethodName} {host : String} {bytes : ByteArray} {ret : Option FieldType} {f : Option (Int32 × bd_S)} {k : Int32 → bd_S → Option α} {rest : List Value} (As : List Value) (hM : bd_M bd_Qi (g_l G) y bytes mL ret fr1 lo1 (g_E G) As σ f) (hlk : bd_lkN own idx y host bytes mL ret nr) (hi : bd_in (.static y)) (hf : fr1 + 1 ≤ fr) (hlo : 8 + (mL + 11) + lo1 ≤ lo) (hn : As.length = nr) (hst : st = As.reverse ++ rest) (hw : (rest.map fun v => v.category).sum ≤ 8) (hd : decode cc pc = .ok (.invokestatic idx, 3)) (kk : ∀ (r : Int32) (z : bd_S), bd_WF G out (k r z) z (pc + 3) lv (.int r :: rest)) : bd_WF G out (bd_b f k) σ pc lv st := by
  intro hF H locs ls hP hS hl
  obtain ⟨r1, σ1, hf1, hk1⟩ := bd_b_some hF
  subst hst
  have hrun := va_runSN (e := g_e G) (below := g_b G) (meth := g_M G) (H := H) (locs := locs) (cells := 0) (slots := 0) (g := F0 (g_m G) pc ls (As.reverse ++ rest)) (rest := rest) (As := As) (nL := nL) (Ts := []) ⟨hG.hx, hG.hb, hG.hml, hG.hown, fun _ h => absurd h List.not_mem_nil⟩ (hM _ hf1) ⟨(bd_callN hG hlk hf hlo), hG.hT.at hi _, trivial⟩ ⟨bd_Pre.blind _ _ _, bd_pre hG hP⟩ rfl hn (by rw [← hG.hml]; exact hl.1) rfl (lv_room hw) hd ⟨Nat.zero_le _, Nat.zero_le _⟩
  refine va_calli hrun hS (fun _ _ h => h) (fun _ h => h) (fun r u t H1 locs1 ht _ hw1 hB _ _ hS1 => ?_)
  have hw2 : r = r1 := hw1
  have hB2 : va_P (bd_D (g_E G)) vwCl (bd_w (g_E G) σ1) H1 := by
    subst ht
    exact hB
  rw [hw2]
  exact kk r1 σ1 hk1 H1 locs1 ls hB2 hS1 hl
theorem rr_cMl (hG : bd_OK G cc nL own n fr lo rt) {r0 ci idx nr mL fr1 lo1 : Nat} {q : vw_C} {y : MethodName} {host : String} {bytes : ByteArray} {ret : Option FieldType} {f : Option (Int64 × bd_S)} {k : Int64 → bd_S → Option α} {rest : List Value} (As : List Value) (hM : bd_M bd_Ql (g_l G) y bytes mL ret fr1 lo1 (g_E G) As σ f) (hlk : bd_lkN own idx y host bytes mL ret nr) (hi : bd_in (.static y)) (hf : fr1 + 1 ≤ fr) (hlo : 8 + (mL + 11) + lo1 ≤ lo) (hn : As.length = nr) (hst : st = As.reverse ++ rest) (hw : (rest.map fun v => v.category).sum ≤ 8) (hd : decode cc pc = .ok (.invokestatic idx, 3)) (kk : ∀ (r : Int64) (z : bd_S), bd_WF G out (k r z) z (pc + 3) lv (.long r :: rest)) : bd_WF G out (bd_b f k) σ pc lv st := by
  intro hF H locs ls hP hS hl
  obtain ⟨r1, σ1, hf1, hk1⟩ := bd_b_some hF
  subst hst
  have hrun := va_runSN (e := g_e G) (below := g_b G) (meth := g_M G) (H := H) (locs := locs) (cells := 0) (slots := 0) (g := F0 (g_m G) pc ls (As.reverse ++ rest)) (rest := rest) (As := As) (nL := nL) (Ts := []) ⟨hG.hx, hG.hb, hG.hml, hG.hown, fun _ h => absurd h List.not_mem_nil⟩ (hM _ hf1) ⟨(bd_callN hG hlk hf hlo), hG.hT.at hi _, trivial⟩ ⟨bd_Pre.blind _ _ _, bd_pre hG hP⟩ rfl hn (by rw [← hG.hml]; exact hl.1) rfl (lv_room hw) hd ⟨Nat.zero_le _, Nat.zero_le _⟩
  refine va_calll hrun hS (fun _ _ h => h) (fun _ h => h) (fun r u t H1 locs1 ht _ hw1 hB _ _ hS1 => ?_)
  have hw2 : r = r1 := hw1
  have hB2 : va_P (bd_D (g_E G)) vwCl (bd_w (g_E G) σ1) H1 := by
    subst ht
    exact hB
  rw [hw2]
  exact kk r1 σ1 hk1 H1 locs1 ls hB2 hS1 hl
theorem rr_cMv (hG : bd_OK G cc nL own n fr lo rt) {r0 ci idx nr mL fr1 lo1 : Nat} {q : vw_C} {y : MethodName} {host : String} {bytes : ByteArray} {ret : Option FieldType} {f : Option (Unit × bd_S)} {k : Unit → bd_S → Option α} {rest : List Value} (As : List Value) (hM : bd_M bd_Qv (g_l G) y bytes mL ret fr1 lo1 (g_E G) As σ f) (hlk : bd_lkN own idx y host bytes mL ret nr) (hi : bd_in (.static y)) (hf : fr1 + 1 ≤ fr) (hlo : 8 + (mL + 11) + lo1 ≤ lo) (hn : As.length = nr) (hst : st = As.reverse ++ rest) (hw : (rest.map fun v => v.category).sum ≤ 8) (hd : decode cc pc = .ok (.invokestatic idx, 3)) (kk : ∀ (z : bd_S), bd_WF G out (k () z) z (pc + 3) lv rest) : bd_WF G out (bd_b f k) σ pc lv st := by
  intro hF H locs ls hP hS hl
  obtain ⟨r1, σ1, hf1, hk1⟩ := bd_b_some hF
  subst hst
  have hrun := va_runSN (e := g_e G) (below := g_b G) (meth := g_M G) (H := H) (locs := locs) (cells := 0) (slots := 0) (g := F0 (g_m G) pc ls (As.reverse ++ rest)) (rest := rest) (As := As) (nL := nL) (Ts := []) ⟨hG.hx, hG.hb, hG.hml, hG.hown, fun _ h => absurd h List.not_mem_nil⟩ (hM _ hf1) ⟨(bd_callN hG hlk hf hlo), hG.hT.at hi _, trivial⟩ ⟨bd_Pre.blind _ _ _, bd_pre hG hP⟩ rfl hn (by rw [← hG.hml]; exact hl.1) rfl (lv_room hw) hd ⟨Nat.zero_le _, Nat.zero_le _⟩
  refine va_callv hrun hS (fun _ _ h => h) (fun _ h => h) (fun u t H1 locs1 ht _ _ hB _ _ hS1 => ?_)
  have hB2 : va_P (bd_D (g_E G)) vwCl (bd_w (g_E G) σ1) H1 := by
    subst ht
    exact hB
  exact kk σ1 hk1 H1 locs1 ls hB2 hS1 hl
end BDR
end
section
/-! facts of the tables, each by its place; lemmas of the roles -/
def FU_ : Nat := 10000000
theorem bd_kL0 {r : Nat} (h : bd_isL r) : bd_kd r = (0, 0) := by rcases h with rfl | rfl | rfl <;> rfl
theorem bd_kL1 {r : Nat} (h : bd_isL r) : bd_kd (r + 1) = (4, 20) := by rcases h with rfl | rfl | rfl <;> rfl
theorem bd_kL2 {r : Nat} (h : bd_isL r) : bd_kd (r + 2) = (4, 20) := by rcases h with rfl | rfl | rfl <;> rfl
theorem bd_kS0 {r : Nat} (h : bd_isS r) : bd_kd r = (1, 0) := by rcases h with rfl | rfl | rfl | rfl <;> rfl
theorem bd_kS1 {r : Nat} (h : bd_isS r) : bd_kd (r + 1) = (4, 12) := by rcases h with rfl | rfl | rfl | rfl <;> rfl
theorem bd_kS2 {r : Nat} (h : bd_isS r) : bd_kd (r + 2) = (4, 12) := by rcases h with rfl | rfl | rfl | rfl <;> rfl
theorem bd_kS3 {r : Nat} (h : bd_isS r) : bd_kd (r + 3) = (5, 12) := by rcases h with rfl | rfl | rfl | rfl <;> rfl
theorem bd_kS4 {r : Nat} (h : bd_isS r) : bd_kd (r + 4) = (4, 12) := by rcases h with rfl | rfl | rfl | rfl <;> rfl
theorem bd_kS5 {r : Nat} (h : bd_isS r) : bd_kd (r + 5) = (4, 12) := by rcases h with rfl | rfl | rfl | rfl <;> rfl
theorem bd_kS6 {r : Nat} (h : bd_isS r) : bd_kd (r + 6) = (4, 3) := by rcases h with rfl | rfl | rfl | rfl <;> rfl
theorem bd_kS7 {r : Nat} (h : bd_isS r) : bd_kd (r + 7) = (4, 3) := by rcases h with rfl | rfl | rfl | rfl <;> rfl
theorem bd_kS8 {r : Nat} (h : bd_isS r) : bd_kd (r + 8) = (4, 3) := by rcases h with rfl | rfl | rfl | rfl <;> rfl
theorem bd_bL0 {r n : Nat} (h : bd_isL r) (hn : 10 ≤ n) : r < n := by unfold bd_isL at h; omega
theorem bd_bL1 {r n : Nat} (h : bd_isL r) (hn : 10 ≤ n) : r + 1 < n := by unfold bd_isL at h; omega
theorem bd_bL2 {r n : Nat} (h : bd_isL r) (hn : 10 ≤ n) : r + 2 < n := by unfold bd_isL at h; omega
theorem bd_bS0 {r n : Nat} (h : bd_isS r) (hn : 55 ≤ n) : r < n := by unfold bd_isS at h; omega
theorem bd_bS1 {r n : Nat} (h : bd_isS r) (hn : 55 ≤ n) : r + 1 < n := by unfold bd_isS at h; omega
theorem bd_bS2 {r n : Nat} (h : bd_isS r) (hn : 55 ≤ n) : r + 2 < n := by unfold bd_isS at h; omega
theorem bd_bS3 {r n : Nat} (h : bd_isS r) (hn : 55 ≤ n) : r + 3 < n := by unfold bd_isS at h; omega
theorem bd_bS4 {r n : Nat} (h : bd_isS r) (hn : 55 ≤ n) : r + 4 < n := by unfold bd_isS at h; omega
theorem bd_bS5 {r n : Nat} (h : bd_isS r) (hn : 55 ≤ n) : r + 5 < n := by unfold bd_isS at h; omega
theorem bd_bS6 {r n : Nat} (h : bd_isS r) (hn : 55 ≤ n) : r + 6 < n := by unfold bd_isS at h; omega
theorem bd_bS7 {r n : Nat} (h : bd_isS r) (hn : 55 ≤ n) : r + 7 < n := by unfold bd_isS at h; omega
theorem bd_bS8 {r n : Nat} (h : bd_isS r) (hn : 55 ≤ n) : r + 8 < n := by unfold bd_isS at h; omega
theorem bd_c1 : bd_isL 1 := by unfold bd_isL; omega
theorem bd_c4 : bd_isL 4 := by unfold bd_isL; omega
theorem bd_c7 : bd_isL 7 := by unfold bd_isL; omega
theorem bd_c19 : bd_isS 19 := by unfold bd_isS; omega
theorem bd_c28 : bd_isS 28 := by unfold bd_isS; omega
theorem bd_c37 : bd_isS 37 := by unfold bd_isS; omega
theorem bd_c46 : bd_isS 46 := by unfold bd_isS; omega
theorem inX0a : ∀ w ∈ wsX00, w ∈ lw_tbl := by decide +kernel
theorem inX0b : ∀ w ∈ wsX00, goodWord w = true := by decide +kernel
theorem inX0 : ∀ w ∈ u_ws RX0 TX0 4, bd_in w := fun w h => ⟨inX0a w h, inX0b w h⟩
theorem inX1a : ∀ w ∈ wsX10, w ∈ lw_tbl := by decide +kernel
theorem inX1b : ∀ w ∈ wsX10, goodWord w = true := by decide +kernel
theorem inX1 : ∀ w ∈ u_ws RX1 TX1 11, bd_in w := fun w h => ⟨inX1a w h, inX1b w h⟩
theorem inX2a : ∀ w ∈ wsX20, w ∈ lw_tbl := by decide +kernel
theorem inX2b : ∀ w ∈ wsX20, goodWord w = true := by decide +kernel
theorem inX2 : ∀ w ∈ u_ws RX2 TX2 16, bd_in w := fun w h => ⟨inX2a w h, inX2b w h⟩
theorem inX3a : ∀ w ∈ wsX30, w ∈ lw_tbl := by decide +kernel
theorem inX3b : ∀ w ∈ wsX30, goodWord w = true := by decide +kernel
theorem inX3 : ∀ w ∈ u_ws RX3 TX3 36, bd_in w := fun w h => ⟨inX3a w h, inX3b w h⟩
theorem ac_nat : bd_in (.native arraycopyName) := ⟨List.mem_of_getElem? (i := 210) (by decide +kernel), by decide +kernel⟩
theorem ac_sta : bd_in (.static arraycopyName) := ⟨List.mem_of_getElem? (i := 209) (by decide +kernel), by decide +kernel⟩
theorem ac_ini : bd_in (.initialized "java/lang/System") := ⟨List.mem_of_getElem? (i := 53) (by decide +kernel), by decide +kernel⟩
theorem bd_swd8 {x : Int32} (h0 : ¬ x = 0) (h1 : ¬ x = 1) (h2 : ¬ x = 2) (h3 : ¬ x = 3) (h4 : ¬ x = 4) (h5 : ¬ x = 5) (h6 : ¬ x = 6) (h7 : ¬ x = 7) : x.toInt < 0 ∨ 7 < x.toInt := by
  have key : ∀ c : Int32, ¬ x = c → x.toInt ≠ c.toInt := fun c h q => h (Int32.toInt_inj.mp q)
  have e0 : x.toInt ≠ 0 := key 0 h0
  have e1 : x.toInt ≠ 1 := key 1 h1
  have e2 : x.toInt ≠ 2 := key 2 h2
  have e3 : x.toInt ≠ 3 := key 3 h3
  have e4 : x.toInt ≠ 4 := key 4 h4
  have e5 : x.toInt ≠ 5 := key 5 h5
  have e6 : x.toInt ≠ 6 := key 6 h6
  have e7 : x.toInt ≠ 7 := key 7 h7
  omega
section BDS
variable {G : bd_G} {cc : ByteArray} {nL : Nat} {own : String} {n fr lo : Nat} {rt : Option FieldType} {α : Type} {out : α} {F F1 F2 : Option α} {σ : bd_S} {pc : Nat} {lv lr : List (Nat × Value)} {st : List Value}
theorem rr_swc (hG : bd_OK G cc nL own n fr lo rt) (c : Int32) (tgt : Nat) {dflt lo1 hi : Int} {offs : Array Int} {len : Nat} {x : Int32} (hd : decode cc pc = .ok (.tableswitch dflt lo1 hi offs, len)) (h : ¬ c.toInt < lo1 ∧ ¬ hi < c.toInt ∧ (offs[(c.toInt - lo1).toNat]?).map (fun off => (pc : Int) + off) = some (tgt : Int)) (k1 : bd_WF G out F1 σ tgt lv st) (k2 : ¬ x = c → bd_WF G out F2 σ pc lv (.int x :: st)) : bd_WF G out (if x = c then F1 else F2) σ pc lv (.int x :: st) := by
  intro hF H locs ls hP hS hl
  by_cases q : x = c
  · rw [if_pos q] at hF
    subst q
    obtain ⟨h1, h2, h3⟩ := h
    cases ho : offs[(x.toInt - lo1).toNat]? with
    | none => rw [ho] at h3; cases h3
    | some off =>
      rw [ho] at h3
      exact lv_tableIn hG.hx hG.hb hd h1 h2 ho (Option.some.inj h3) (k1 hF H locs ls hP hS hl)
  · rw [if_neg q] at hF
    exact k2 q hF H locs ls hP hS hl
theorem rr_swd (hG : bd_OK G cc nL own n fr lo rt) (tgt : Nat) {dflt lo1 hi : Int} {offs : Array Int} {len : Nat} {x : Int32} (hd : decode cc pc = .ok (.tableswitch dflt lo1 hi offs, len)) (h : x.toInt < lo1 ∨ hi < x.toInt) (ht : (pc : Int) + dflt = (tgt : Int)) (kk : bd_WF G out F σ tgt lv st) : bd_WF G out F σ pc lv (.int x :: st) :=
  fun hF H locs ls hP hS hl => lv_tableOut hG.hx hG.hb hd h ht (kk hF H locs ls hP hS hl)
theorem rr_acopy (hG : bd_OK G cc nL own n fr lo rt) {r0 r1 m idx : Nat} {sp dp nn : Int32} {k : bd_S → Option α} (hl9 : bd_in (.methodLink own idx arraycopyName)) (hk0 : bd_kd r0 = (4, m)) (hk1 : bd_kd r1 = (4, m)) (hr0 : r0 < n) (hr1 : r1 < n) (hfr : 1 ≤ fr) (hlo : (st.map fun v => v.category).sum + 18 ≤ lo) (hd : decode cc pc = .ok (.invokestatic idx, 3)) (kk : ∀ z : bd_S, bd_WF G out (k z) z (pc + 3) lv st) : bd_WF G out (bd_cp σ r0 sp r1 dp nn m k) σ pc lv (.int nn :: .int dp :: .ref (bd_ad (g_E G) r1) :: .int sp :: .ref (bd_ad (g_E G) r0) :: st) := by
  intro hF H locs ls hP hS hl
  unfold bd_cp at hF
  split at hF
  · cases hF
  · rename_i hin
    have hrN := bd_lN hG.hE hr1
    refine va_copyi hG.hx hG.hb hl.1.symm hG.hown (hG.hT.at hl9 _) (hG.hT.at ac_nat _) (hG.hT.at ac_sta _) (hG.hT.at ac_ini _) hG.hK hP (hG.hE.dis σ) hS r0 r1 0 0 (bd_w_at _ σ (bd_lN hG.hE hr0) hk0) (bd_w_at _ σ hrN hk1) rfl rfl rfl (fun q => hin (Or.inl q)) (fun q => hin (Or.inr (Or.inl q))) (fun q => hin (Or.inr (Or.inr (Or.inl q)))) (Nat.not_lt.mp fun q => hin (Or.inr (Or.inr (Or.inr (Or.inl q))))) (Nat.not_lt.mp fun q => hin (Or.inr (Or.inr (Or.inr (Or.inr q))))) (fun _ _ => rfl) (Nat.le_trans hfr hG.hfr) (Nat.le_trans hlo hG.hlo) hd (fun H1 locs1 hP1 _ hS1 => ?_)
    refine kk _ hF H1 locs1 ls ?_ hS1 hl
    have he := bd_w_set (g_E G) σ (va_cpy (σ r0) (σ r1) sp.toNatClampNeg dp.toNatClampNeg nn.toNatClampNeg) hrN
    have hc : bd_cell (g_E G) (bd_sr σ r1 (va_cpy (σ r0) (σ r1) sp.toNatClampNeg dp.toNatClampNeg nn.toNatClampNeg)) r1 = bd_ce (g_E G) (va_cpy (σ r0) (σ r1) sp.toNatClampNeg dp.toNatClampNeg nn.toNatClampNeg) r1 (4, m) := by
      unfold bd_cell
      rw [bd_sr_self, hk1]
    rw [hc] at he
    rw [← he]
    exact hP1
end BDS
theorem mt_max1 : bd_in (.static Lib.Math.max.name) := ⟨List.mem_of_getElem? (i := 216) (by decide +kernel), by decide +kernel⟩
theorem mt_max2 : bd_in (.initialized "java/lang/Math") := ⟨List.mem_of_getElem? (i := 54) (by decide +kernel), by decide +kernel⟩
theorem mt_max3 : bd_in (.code Lib.Math.max.name Lib.Math.max.code 2 (some .int)) := ⟨List.mem_of_getElem? (i := 217) (by decide +kernel), by decide +kernel⟩
theorem mt_min1 : bd_in (.static Lib.Math.min.name) := ⟨List.mem_of_getElem? (i := 219) (by decide +kernel), by decide +kernel⟩
theorem mt_min2 : bd_in (.initialized "java/lang/Math") := ⟨List.mem_of_getElem? (i := 54) (by decide +kernel), by decide +kernel⟩
theorem mt_min3 : bd_in (.code Lib.Math.min.name Lib.Math.min.code 2 (some .int)) := ⟨List.mem_of_getElem? (i := 220) (by decide +kernel), by decide +kernel⟩
theorem ac_X0_25 : bd_in (.methodLink RX0 25 arraycopyName) := ⟨List.mem_of_getElem? (i := 208) (by decide +kernel), by decide +kernel⟩
theorem im_X0_copyFrom : bd_in (.instanceMethod yX0_copyFrom) := ⟨List.mem_of_getElem? (i := 206) (by decide +kernel), by decide +kernel⟩
theorem se_X0_copyFrom : bd_in (.selects (yX0_copyFrom).cls yX0_copyFrom yX0_copyFrom) := ⟨List.mem_of_getElem? (i := 1) (by decide +kernel), by decide +kernel⟩
theorem im_X0_cut : bd_in (.instanceMethod yX0_cut) := ⟨List.mem_of_getElem? (i := 213) (by decide +kernel), by decide +kernel⟩
theorem se_X0_cut : bd_in (.selects (yX0_cut).cls yX0_cut yX0_cut) := ⟨List.mem_of_getElem? (i := 2) (by decide +kernel), by decide +kernel⟩
theorem im_X0_narrow : bd_in (.instanceMethod yX0_narrow) := ⟨List.mem_of_getElem? (i := 223) (by decide +kernel), by decide +kernel⟩
theorem se_X0_narrow : bd_in (.selects (yX0_narrow).cls yX0_narrow yX0_narrow) := ⟨List.mem_of_getElem? (i := 3) (by decide +kernel), by decide +kernel⟩
theorem im_X0_narrowDays : bd_in (.instanceMethod yX0_narrowDays) := ⟨List.mem_of_getElem? (i := 238) (by decide +kernel), by decide +kernel⟩
theorem se_X0_narrowDays : bd_in (.selects (yX0_narrowDays).cls yX0_narrowDays yX0_narrowDays) := ⟨List.mem_of_getElem? (i := 5) (by decide +kernel), by decide +kernel⟩
theorem im_X0_narrowGain : bd_in (.instanceMethod yX0_narrowGain) := ⟨List.mem_of_getElem? (i := 227) (by decide +kernel), by decide +kernel⟩
theorem se_X0_narrowGain : bd_in (.selects (yX0_narrowGain).cls yX0_narrowGain yX0_narrowGain) := ⟨List.mem_of_getElem? (i := 4) (by decide +kernel), by decide +kernel⟩
theorem im_X0_open : bd_in (.instanceMethod yX0_open) := ⟨List.mem_of_getElem? (i := 92) (by decide +kernel), by decide +kernel⟩
theorem se_X0_open : bd_in (.selects (yX0_open).cls yX0_open yX0_open) := ⟨List.mem_of_getElem? (i := 0) (by decide +kernel), by decide +kernel⟩
theorem im_X1_note : bd_in (.instanceMethod yX1_note) := ⟨List.mem_of_getElem? (i := 319) (by decide +kernel), by decide +kernel⟩
theorem se_X1_note : bd_in (.selects (yX1_note).cls yX1_note yX1_note) := ⟨List.mem_of_getElem? (i := 11) (by decide +kernel), by decide +kernel⟩
theorem im_X2_addHeat : bd_in (.instanceMethod yX2_addHeat) := ⟨List.mem_of_getElem? (i := 359) (by decide +kernel), by decide +kernel⟩
theorem se_X2_addHeat : bd_in (.selects (yX2_addHeat).cls yX2_addHeat yX2_addHeat) := ⟨List.mem_of_getElem? (i := 15) (by decide +kernel), by decide +kernel⟩
theorem im_X2_bearsSlip : bd_in (.instanceMethod yX2_bearsSlip) := ⟨List.mem_of_getElem? (i := 464) (by decide +kernel), by decide +kernel⟩
theorem se_X2_bearsSlip : bd_in (.selects (yX2_bearsSlip).cls yX2_bearsSlip yX2_bearsSlip) := ⟨List.mem_of_getElem? (i := 26) (by decide +kernel), by decide +kernel⟩
theorem im_X2_countSuspects : bd_in (.instanceMethod yX2_countSuspects) := ⟨List.mem_of_getElem? (i := 444) (by decide +kernel), by decide +kernel⟩
theorem se_X2_countSuspects : bd_in (.selects (yX2_countSuspects).cls yX2_countSuspects yX2_countSuspects) := ⟨List.mem_of_getElem? (i := 23) (by decide +kernel), by decide +kernel⟩
theorem im_X2_counts : bd_in (.instanceMethod yX2_counts) := ⟨List.mem_of_getElem? (i := 355) (by decide +kernel), by decide +kernel⟩
theorem se_X2_counts : bd_in (.selects (yX2_counts).cls yX2_counts yX2_counts) := ⟨List.mem_of_getElem? (i := 14) (by decide +kernel), by decide +kernel⟩
theorem im_X2_findPlaces : bd_in (.instanceMethod yX2_findPlaces) := ⟨List.mem_of_getElem? (i := 393) (by decide +kernel), by decide +kernel⟩
theorem se_X2_findPlaces : bd_in (.selects (yX2_findPlaces).cls yX2_findPlaces yX2_findPlaces) := ⟨List.mem_of_getElem? (i := 18) (by decide +kernel), by decide +kernel⟩
theorem im_X2_firstFittingSlip : bd_in (.instanceMethod yX2_firstFittingSlip) := ⟨List.mem_of_getElem? (i := 460) (by decide +kernel), by decide +kernel⟩
theorem se_X2_firstFittingSlip : bd_in (.selects (yX2_firstFittingSlip).cls yX2_firstFittingSlip yX2_firstFittingSlip) := ⟨List.mem_of_getElem? (i := 25) (by decide +kernel), by decide +kernel⟩
theorem im_X2_greatestLate : bd_in (.instanceMethod yX2_greatestLate) := ⟨List.mem_of_getElem? (i := 293) (by decide +kernel), by decide +kernel⟩
theorem se_X2_greatestLate : bd_in (.selects (yX2_greatestLate).cls yX2_greatestLate yX2_greatestLate) := ⟨List.mem_of_getElem? (i := 8) (by decide +kernel), by decide +kernel⟩
theorem im_X2_greatestMiles : bd_in (.instanceMethod yX2_greatestMiles) := ⟨List.mem_of_getElem? (i := 380) (by decide +kernel), by decide +kernel⟩
theorem se_X2_greatestMiles : bd_in (.selects (yX2_greatestMiles).cls yX2_greatestMiles yX2_greatestMiles) := ⟨List.mem_of_getElem? (i := 17) (by decide +kernel), by decide +kernel⟩
theorem im_X2_greatestShared : bd_in (.instanceMethod yX2_greatestShared) := ⟨List.mem_of_getElem? (i := 408) (by decide +kernel), by decide +kernel⟩
theorem se_X2_greatestShared : bd_in (.selects (yX2_greatestShared).cls yX2_greatestShared yX2_greatestShared) := ⟨List.mem_of_getElem? (i := 21) (by decide +kernel), by decide +kernel⟩
theorem im_X2_heaviest : bd_in (.instanceMethod yX2_heaviest) := ⟨List.mem_of_getElem? (i := 426) (by decide +kernel), by decide +kernel⟩
theorem se_X2_heaviest : bd_in (.selects (yX2_heaviest).cls yX2_heaviest yX2_heaviest) := ⟨List.mem_of_getElem? (i := 22) (by decide +kernel), by decide +kernel⟩
theorem im_X2_isSetOn : bd_in (.instanceMethod yX2_isSetOn) := ⟨List.mem_of_getElem? (i := 448) (by decide +kernel), by decide +kernel⟩
theorem se_X2_isSetOn : bd_in (.selects (yX2_isSetOn).cls yX2_isSetOn yX2_isSetOn) := ⟨List.mem_of_getElem? (i := 24) (by decide +kernel), by decide +kernel⟩
theorem im_X2_isTold : bd_in (.instanceMethod yX2_isTold) := ⟨List.mem_of_getElem? (i := 473) (by decide +kernel), by decide +kernel⟩
theorem se_X2_isTold : bd_in (.selects (yX2_isTold).cls yX2_isTold yX2_isTold) := ⟨List.mem_of_getElem? (i := 27) (by decide +kernel), by decide +kernel⟩
theorem im_X2_learn : bd_in (.instanceMethod yX2_learn) := ⟨List.mem_of_getElem? (i := 347) (by decide +kernel), by decide +kernel⟩
theorem se_X2_learn : bd_in (.selects (yX2_learn).cls yX2_learn yX2_learn) := ⟨List.mem_of_getElem? (i := 12) (by decide +kernel), by decide +kernel⟩
theorem im_X2_learnBut : bd_in (.instanceMethod yX2_learnBut) := ⟨List.mem_of_getElem? (i := 351) (by decide +kernel), by decide +kernel⟩
theorem se_X2_learnBut : bd_in (.selects (yX2_learnBut).cls yX2_learnBut yX2_learnBut) := ⟨List.mem_of_getElem? (i := 13) (by decide +kernel), by decide +kernel⟩
theorem im_X2_leastLate : bd_in (.instanceMethod yX2_leastLate) := ⟨List.mem_of_getElem? (i := 285) (by decide +kernel), by decide +kernel⟩
theorem se_X2_leastLate : bd_in (.selects (yX2_leastLate).cls yX2_leastLate yX2_leastLate) := ⟨List.mem_of_getElem? (i := 6) (by decide +kernel), by decide +kernel⟩
theorem im_X2_leastMiles : bd_in (.instanceMethod yX2_leastMiles) := ⟨List.mem_of_getElem? (i := 376) (by decide +kernel), by decide +kernel⟩
theorem se_X2_leastMiles : bd_in (.selects (yX2_leastMiles).cls yX2_leastMiles yX2_leastMiles) := ⟨List.mem_of_getElem? (i := 16) (by decide +kernel), by decide +kernel⟩
theorem im_X2_leastShared : bd_in (.instanceMethod yX2_leastShared) := ⟨List.mem_of_getElem? (i := 403) (by decide +kernel), by decide +kernel⟩
theorem se_X2_leastShared : bd_in (.selects (yX2_leastShared).cls yX2_leastShared yX2_leastShared) := ⟨List.mem_of_getElem? (i := 20) (by decide +kernel), by decide +kernel⟩
theorem im_X2_middleOff : bd_in (.instanceMethod yX2_middleOff) := ⟨List.mem_of_getElem? (i := 289) (by decide +kernel), by decide +kernel⟩
theorem se_X2_middleOff : bd_in (.selects (yX2_middleOff).cls yX2_middleOff yX2_middleOff) := ⟨List.mem_of_getElem? (i := 7) (by decide +kernel), by decide +kernel⟩
theorem im_X2_noClock : bd_in (.instanceMethod yX2_noClock) := ⟨List.mem_of_getElem? (i := 305) (by decide +kernel), by decide +kernel⟩
theorem se_X2_noClock : bd_in (.selects (yX2_noClock).cls yX2_noClock yX2_noClock) := ⟨List.mem_of_getElem? (i := 9) (by decide +kernel), by decide +kernel⟩
theorem im_X2_noShip : bd_in (.instanceMethod yX2_noShip) := ⟨List.mem_of_getElem? (i := 309) (by decide +kernel), by decide +kernel⟩
theorem se_X2_noShip : bd_in (.selects (yX2_noShip).cls yX2_noShip yX2_noShip) := ⟨List.mem_of_getElem? (i := 10) (by decide +kernel), by decide +kernel⟩
theorem im_X2_weigh : bd_in (.instanceMethod yX2_weigh) := ⟨List.mem_of_getElem? (i := 399) (by decide +kernel), by decide +kernel⟩
theorem se_X2_weigh : bd_in (.selects (yX2_weigh).cls yX2_weigh yX2_weigh) := ⟨List.mem_of_getElem? (i := 19) (by decide +kernel), by decide +kernel⟩
theorem im_X3_agrees : bd_in (.instanceMethod yX3_agrees) := ⟨List.mem_of_getElem? (i := 767) (by decide +kernel), by decide +kernel⟩
theorem se_X3_agrees : bd_in (.selects (yX3_agrees).cls yX3_agrees yX3_agrees) := ⟨List.mem_of_getElem? (i := 42) (by decide +kernel), by decide +kernel⟩
theorem im_X3_allGo : bd_in (.instanceMethod yX3_allGo) := ⟨List.mem_of_getElem? (i := 811) (by decide +kernel), by decide +kernel⟩
theorem se_X3_allGo : bd_in (.selects (yX3_allGo).cls yX3_allGo yX3_allGo) := ⟨List.mem_of_getElem? (i := 45) (by decide +kernel), by decide +kernel⟩
theorem im_X3_bestOf : bd_in (.instanceMethod yX3_bestOf) := ⟨List.mem_of_getElem? (i := 783) (by decide +kernel), by decide +kernel⟩
theorem se_X3_bestOf : bd_in (.selects (yX3_bestOf).cls yX3_bestOf yX3_bestOf) := ⟨List.mem_of_getElem? (i := 43) (by decide +kernel), by decide +kernel⟩
theorem im_X3_doesCount : bd_in (.instanceMethod yX3_doesCount) := ⟨List.mem_of_getElem? (i := 730) (by decide +kernel), by decide +kernel⟩
theorem se_X3_doesCount : bd_in (.selects (yX3_doesCount).cls yX3_doesCount yX3_doesCount) := ⟨List.mem_of_getElem? (i := 38) (by decide +kernel), by decide +kernel⟩
theorem im_X3_isLeft : bd_in (.instanceMethod yX3_isLeft) := ⟨List.mem_of_getElem? (i := 513) (by decide +kernel), by decide +kernel⟩
theorem se_X3_isLeft : bd_in (.selects (yX3_isLeft).cls yX3_isLeft yX3_isLeft) := ⟨List.mem_of_getElem? (i := 32) (by decide +kernel), by decide +kernel⟩
theorem im_X3_isMarked : bd_in (.instanceMethod yX3_isMarked) := ⟨List.mem_of_getElem? (i := 823) (by decide +kernel), by decide +kernel⟩
theorem se_X3_isMarked : bd_in (.selects (yX3_isMarked).cls yX3_isMarked yX3_isMarked) := ⟨List.mem_of_getElem? (i := 47) (by decide +kernel), by decide +kernel⟩
theorem im_X3_isOne : bd_in (.instanceMethod yX3_isOne) := ⟨List.mem_of_getElem? (i := 687) (by decide +kernel), by decide +kernel⟩
theorem se_X3_isOne : bd_in (.selects (yX3_isOne).cls yX3_isOne yX3_isOne) := ⟨List.mem_of_getElem? (i := 34) (by decide +kernel), by decide +kernel⟩
theorem im_X3_isSetBy : bd_in (.instanceMethod yX3_isSetBy) := ⟨List.mem_of_getElem? (i := 815) (by decide +kernel), by decide +kernel⟩
theorem se_X3_isSetBy : bd_in (.selects (yX3_isSetBy).cls yX3_isSetBy yX3_isSetBy) := ⟨List.mem_of_getElem? (i := 46) (by decide +kernel), by decide +kernel⟩
theorem im_X3_isShip : bd_in (.instanceMethod yX3_isShip) := ⟨List.mem_of_getElem? (i := 691) (by decide +kernel), by decide +kernel⟩
theorem se_X3_isShip : bd_in (.selects (yX3_isShip).cls yX3_isShip yX3_isShip) := ⟨List.mem_of_getElem? (i := 35) (by decide +kernel), by decide +kernel⟩
theorem im_X3_lateOf : bd_in (.instanceMethod yX3_lateOf) := ⟨List.mem_of_getElem? (i := 675) (by decide +kernel), by decide +kernel⟩
theorem se_X3_lateOf : bd_in (.selects (yX3_lateOf).cls yX3_lateOf yX3_lateOf) := ⟨List.mem_of_getElem? (i := 33) (by decide +kernel), by decide +kernel⟩
theorem im_X3_lay : bd_in (.instanceMethod yX3_lay) := ⟨List.mem_of_getElem? (i := 726) (by decide +kernel), by decide +kernel⟩
theorem se_X3_lay : bd_in (.selects (yX3_lay).cls yX3_lay yX3_lay) := ⟨List.mem_of_getElem? (i := 37) (by decide +kernel), by decide +kernel⟩
theorem im_X3_layOffs : bd_in (.instanceMethod yX3_layOffs) := ⟨List.mem_of_getElem? (i := 497) (by decide +kernel), by decide +kernel⟩
theorem se_X3_layOffs : bd_in (.selects (yX3_layOffs).cls yX3_layOffs yX3_layOffs) := ⟨List.mem_of_getElem? (i := 28) (by decide +kernel), by decide +kernel⟩
theorem im_X3_layPlaces : bd_in (.instanceMethod yX3_layPlaces) := ⟨List.mem_of_getElem? (i := 759) (by decide +kernel), by decide +kernel⟩
theorem se_X3_layPlaces : bd_in (.selects (yX3_layPlaces).cls yX3_layPlaces yX3_layPlaces) := ⟨List.mem_of_getElem? (i := 40) (by decide +kernel), by decide +kernel⟩
theorem im_X3_mark : bd_in (.instanceMethod yX3_mark) := ⟨List.mem_of_getElem? (i := 698) (by decide +kernel), by decide +kernel⟩
theorem se_X3_mark : bd_in (.selects (yX3_mark).cls yX3_mark yX3_mark) := ⟨List.mem_of_getElem? (i := 36) (by decide +kernel), by decide +kernel⟩
theorem im_X3_narrow : bd_in (.instanceMethod yX3_narrow) := ⟨List.mem_of_getElem? (i := 509) (by decide +kernel), by decide +kernel⟩
theorem se_X3_narrow : bd_in (.selects (yX3_narrow).cls yX3_narrow yX3_narrow) := ⟨List.mem_of_getElem? (i := 31) (by decide +kernel), by decide +kernel⟩
theorem im_X3_placeOf : bd_in (.instanceMethod yX3_placeOf) := ⟨List.mem_of_getElem? (i := 747) (by decide +kernel), by decide +kernel⟩
theorem se_X3_placeOf : bd_in (.selects (yX3_placeOf).cls yX3_placeOf yX3_placeOf) := ⟨List.mem_of_getElem? (i := 39) (by decide +kernel), by decide +kernel⟩
theorem im_X3_start : bd_in (.instanceMethod yX3_start) := ⟨List.mem_of_getElem? (i := 501) (by decide +kernel), by decide +kernel⟩
theorem se_X3_start : bd_in (.selects (yX3_start).cls yX3_start yX3_start) := ⟨List.mem_of_getElem? (i := 29) (by decide +kernel), by decide +kernel⟩
theorem im_X3_suspects : bd_in (.instanceMethod yX3_suspects) := ⟨List.mem_of_getElem? (i := 798) (by decide +kernel), by decide +kernel⟩
theorem se_X3_suspects : bd_in (.selects (yX3_suspects).cls yX3_suspects yX3_suspects) := ⟨List.mem_of_getElem? (i := 44) (by decide +kernel), by decide +kernel⟩
theorem im_X3_weightOf : bd_in (.instanceMethod yX3_weightOf) := ⟨List.mem_of_getElem? (i := 763) (by decide +kernel), by decide +kernel⟩
theorem se_X3_weightOf : bd_in (.selects (yX3_weightOf).cls yX3_weightOf yX3_weightOf) := ⟨List.mem_of_getElem? (i := 41) (by decide +kernel), by decide +kernel⟩
theorem im_X3_within : bd_in (.instanceMethod yX3_within) := ⟨List.mem_of_getElem? (i := 505) (by decide +kernel), by decide +kernel⟩
theorem se_X3_within : bd_in (.selects (yX3_within).cls yX3_within yX3_within) := ⟨List.mem_of_getElem? (i := 30) (by decide +kernel), by decide +kernel⟩
theorem kc_J6_265 : bd_in (.constant RJ6 265 1431655765) := ⟨List.mem_of_getElem? (i := 431) (by decide +kernel), by decide +kernel⟩
theorem kc_J6_266 : bd_in (.constant RJ6 266 858993459) := ⟨List.mem_of_getElem? (i := 432) (by decide +kernel), by decide +kernel⟩
theorem kc_J6_267 : bd_in (.constant RJ6 267 252645135) := ⟨List.mem_of_getElem? (i := 433) (by decide +kernel), by decide +kernel⟩
theorem kc_X2_161 : bd_in (.constant RX2 161 (-100000003)) := ⟨List.mem_of_getElem? (i := 365) (by decide +kernel), by decide +kernel⟩
theorem kc_X2_206 : bd_in (.constant RX2 206 (-100000005)) := ⟨List.mem_of_getElem? (i := 466) (by decide +kernel), by decide +kernel⟩
theorem kc_X2_254 : bd_in (.constant RX2 254 1000000) := ⟨List.mem_of_getElem? (i := 395) (by decide +kernel), by decide +kernel⟩
theorem kc_X2_255 : bd_in (.constant RX2 255 (-1000000)) := ⟨List.mem_of_getElem? (i := 396) (by decide +kernel), by decide +kernel⟩
theorem kc_X2_63 : bd_in (.constant RX2 63 99999) := ⟨List.mem_of_getElem? (i := 144) (by decide +kernel), by decide +kernel⟩
theorem kc_X2_91 : bd_in (.constant RX2 91 (-100000001)) := ⟨List.mem_of_getElem? (i := 252) (by decide +kernel), by decide +kernel⟩
theorem kc_X2_95 : bd_in (.constant RX2 95 (-100000002)) := ⟨List.mem_of_getElem? (i := 256) (by decide +kernel), by decide +kernel⟩
theorem kc_X3_105 : bd_in (.constant RX3 105 (-99999)) := ⟨List.mem_of_getElem? (i := 493) (by decide +kernel), by decide +kernel⟩
theorem kc_X3_106 : bd_in (.constant RX3 106 99999) := ⟨List.mem_of_getElem? (i := 494) (by decide +kernel), by decide +kernel⟩
theorem kc_X3_150 : bd_in (.constant RX3 150 (-100000001)) := ⟨List.mem_of_getElem? (i := 648) (by decide +kernel), by decide +kernel⟩
theorem kc_X3_154 : bd_in (.constant RX3 154 (-100000002)) := ⟨List.mem_of_getElem? (i := 652) (by decide +kernel), by decide +kernel⟩
theorem kc_X3_178 : bd_in (.constant RX3 178 (-100000003)) := ⟨List.mem_of_getElem? (i := 736) (by decide +kernel), by decide +kernel⟩
theorem kc_X3_183 : bd_in (.constant RX3 183 (-100000000)) := ⟨List.mem_of_getElem? (i := 769) (by decide +kernel), by decide +kernel⟩
theorem kc_X3_187 : bd_in (.constant RX3 187 100000000) := ⟨List.mem_of_getElem? (i := 770) (by decide +kernel), by decide +kernel⟩
theorem kc_X3_218 : bd_in (.constant RX3 218 (-100000005)) := ⟨List.mem_of_getElem? (i := 808) (by decide +kernel), by decide +kernel⟩
theorem kl_X2_182 : bd_in (.constantLong RX2 182 (-1000000000000000001)) := ⟨List.mem_of_getElem? (i := 415) (by decide +kernel), by decide +kernel⟩
theorem kl_X2_184 : bd_in (.constantLong RX2 184 (-1000000000000000002)) := ⟨List.mem_of_getElem? (i := 416) (by decide +kernel), by decide +kernel⟩
theorem kl_X3_201 : bd_in (.constantLong RX3 201 (-1000000000000000001)) := ⟨List.mem_of_getElem? (i := 775) (by decide +kernel), by decide +kernel⟩
theorem kl_X3_203 : bd_in (.constantLong RX3 203 (-1000000000000000002)) := ⟨List.mem_of_getElem? (i := 776) (by decide +kernel), by decide +kernel⟩
theorem lk_X0_40 : bd_lk RX0 40 yX0_narrowGain cX0_narrowGain 6 none 0 := ⟨⟨List.mem_of_getElem? (i := 228) (by decide +kernel), by decide +kernel⟩, ⟨List.mem_of_getElem? (i := 50) (by decide +kernel), by decide +kernel⟩, ⟨List.mem_of_getElem? (i := 225) (by decide +kernel), by decide +kernel⟩, by decide +kernel, by decide +kernel⟩
theorem lk_X0_43 : bd_lk RX0 43 yX0_narrowDays cX0_narrowDays 2 none 0 := ⟨⟨List.mem_of_getElem? (i := 239) (by decide +kernel), by decide +kernel⟩, ⟨List.mem_of_getElem? (i := 50) (by decide +kernel), by decide +kernel⟩, ⟨List.mem_of_getElem? (i := 236) (by decide +kernel), by decide +kernel⟩, by decide +kernel, by decide +kernel⟩
theorem lk_X0_46 : bd_lkN RX0 46 yX2_cutUp "BallDrops" cX2_cutUp 2 (some .int) 2 := ⟨⟨List.mem_of_getElem? (i := 231) (by decide +kernel), by decide +kernel⟩, ⟨List.mem_of_getElem? (i := 49) (by decide +kernel), by decide +kernel⟩, ⟨List.mem_of_getElem? (i := 229) (by decide +kernel), by decide +kernel, by decide +kernel⟩, by decide +kernel, by decide +kernel⟩
theorem lk_X0_49 : bd_lk RX0 49 yJ9_floorDiv_7cf53 cJ9_floorDiv_7cf53 3 (some .int) 2 := ⟨⟨List.mem_of_getElem? (i := 234) (by decide +kernel), by decide +kernel⟩, ⟨List.mem_of_getElem? (i := 54) (by decide +kernel), by decide +kernel⟩, ⟨List.mem_of_getElem? (i := 235) (by decide +kernel), by decide +kernel⟩, by decide +kernel, by decide +kernel⟩
theorem lk_X0_52 : bd_lk RX0 52 yX0_cut cX0_cut 4 none 3 := ⟨⟨List.mem_of_getElem? (i := 214) (by decide +kernel), by decide +kernel⟩, ⟨List.mem_of_getElem? (i := 50) (by decide +kernel), by decide +kernel⟩, ⟨List.mem_of_getElem? (i := 240) (by decide +kernel), by decide +kernel⟩, by decide +kernel, by decide +kernel⟩
theorem lk_X2_111 : bd_lk RX2 111 yX2_bitOf cX2_bitOf 2 (some .int) 2 := ⟨⟨List.mem_of_getElem? (i := 275) (by decide +kernel), by decide +kernel⟩, ⟨List.mem_of_getElem? (i := 49) (by decide +kernel), by decide +kernel⟩, ⟨List.mem_of_getElem? (i := 273) (by decide +kernel), by decide +kernel⟩, by decide +kernel, by decide +kernel⟩
theorem lk_X2_115 : bd_lk RX2 115 yX2_withBit cX2_withBit 3 (some .int) 3 := ⟨⟨List.mem_of_getElem? (i := 278) (by decide +kernel), by decide +kernel⟩, ⟨List.mem_of_getElem? (i := 49) (by decide +kernel), by decide +kernel⟩, ⟨List.mem_of_getElem? (i := 276) (by decide +kernel), by decide +kernel⟩, by decide +kernel, by decide +kernel⟩
theorem lk_X2_119 : bd_lk RX2 119 yX2_leastLate cX2_leastLate 2 (some .int) 1 := ⟨⟨List.mem_of_getElem? (i := 286) (by decide +kernel), by decide +kernel⟩, ⟨List.mem_of_getElem? (i := 49) (by decide +kernel), by decide +kernel⟩, ⟨List.mem_of_getElem? (i := 283) (by decide +kernel), by decide +kernel⟩, by decide +kernel, by decide +kernel⟩
theorem lk_X2_123 : bd_lk RX2 123 yX2_greatestLate cX2_greatestLate 2 (some .int) 1 := ⟨⟨List.mem_of_getElem? (i := 294) (by decide +kernel), by decide +kernel⟩, ⟨List.mem_of_getElem? (i := 49) (by decide +kernel), by decide +kernel⟩, ⟨List.mem_of_getElem? (i := 291) (by decide +kernel), by decide +kernel⟩, by decide +kernel, by decide +kernel⟩
theorem lk_X2_129 : bd_lk RX2 129 yX2_noClock cX2_noClock 3 (some .boolean) 2 := ⟨⟨List.mem_of_getElem? (i := 306) (by decide +kernel), by decide +kernel⟩, ⟨List.mem_of_getElem? (i := 49) (by decide +kernel), by decide +kernel⟩, ⟨List.mem_of_getElem? (i := 303) (by decide +kernel), by decide +kernel⟩, by decide +kernel, by decide +kernel⟩
theorem lk_X2_132 : bd_lk RX2 132 yX2_latestNoted cX2_latestNoted 2 (some .int) 2 := ⟨⟨List.mem_of_getElem? (i := 313) (by decide +kernel), by decide +kernel⟩, ⟨List.mem_of_getElem? (i := 49) (by decide +kernel), by decide +kernel⟩, ⟨List.mem_of_getElem? (i := 311) (by decide +kernel), by decide +kernel⟩, by decide +kernel, by decide +kernel⟩
theorem lk_X2_135 : bd_lk RX2 135 yX2_soonestNoted cX2_soonestNoted 2 (some .int) 2 := ⟨⟨List.mem_of_getElem? (i := 316) (by decide +kernel), by decide +kernel⟩, ⟨List.mem_of_getElem? (i := 49) (by decide +kernel), by decide +kernel⟩, ⟨List.mem_of_getElem? (i := 314) (by decide +kernel), by decide +kernel⟩, by decide +kernel, by decide +kernel⟩
theorem lk_X2_138 : bd_lkN RX2 138 yX1_note "BallDrops" cX1_note 6 (some .int) 5 := ⟨⟨List.mem_of_getElem? (i := 320) (by decide +kernel), by decide +kernel⟩, ⟨List.mem_of_getElem? (i := 51) (by decide +kernel), by decide +kernel⟩, ⟨List.mem_of_getElem? (i := 317) (by decide +kernel), by decide +kernel, by decide +kernel⟩, by decide +kernel, by decide +kernel⟩
theorem lk_X2_142 : bd_lk RX2 142 yX2_noShip cX2_noShip 2 (some .boolean) 1 := ⟨⟨List.mem_of_getElem? (i := 310) (by decide +kernel), by decide +kernel⟩, ⟨List.mem_of_getElem? (i := 49) (by decide +kernel), by decide +kernel⟩, ⟨List.mem_of_getElem? (i := 307) (by decide +kernel), by decide +kernel⟩, by decide +kernel, by decide +kernel⟩
theorem lk_X2_157 : bd_lk RX2 157 yX2_learn cX2_learn 3 (some .boolean) 2 := ⟨⟨List.mem_of_getElem? (i := 348) (by decide +kernel), by decide +kernel⟩, ⟨List.mem_of_getElem? (i := 49) (by decide +kernel), by decide +kernel⟩, ⟨List.mem_of_getElem? (i := 345) (by decide +kernel), by decide +kernel⟩, by decide +kernel, by decide +kernel⟩
theorem lk_X2_162 : bd_lk RX2 162 yX2_leastMiles cX2_leastMiles 3 (some .int) 2 := ⟨⟨List.mem_of_getElem? (i := 377) (by decide +kernel), by decide +kernel⟩, ⟨List.mem_of_getElem? (i := 49) (by decide +kernel), by decide +kernel⟩, ⟨List.mem_of_getElem? (i := 374) (by decide +kernel), by decide +kernel⟩, by decide +kernel, by decide +kernel⟩
theorem lk_X2_165 : bd_lk RX2 165 yX2_greatestMiles cX2_greatestMiles 3 (some .int) 2 := ⟨⟨List.mem_of_getElem? (i := 381) (by decide +kernel), by decide +kernel⟩, ⟨List.mem_of_getElem? (i := 49) (by decide +kernel), by decide +kernel⟩, ⟨List.mem_of_getElem? (i := 378) (by decide +kernel), by decide +kernel⟩, by decide +kernel, by decide +kernel⟩
theorem lk_X2_174 : bd_lk RX2 174 yX2_findPlaces cX2_findPlaces 3 none 1 := ⟨⟨List.mem_of_getElem? (i := 394) (by decide +kernel), by decide +kernel⟩, ⟨List.mem_of_getElem? (i := 49) (by decide +kernel), by decide +kernel⟩, ⟨List.mem_of_getElem? (i := 391) (by decide +kernel), by decide +kernel⟩, by decide +kernel, by decide +kernel⟩
theorem lk_X2_178 : bd_lk RX2 178 yX2_weigh cX2_weigh 5 (some .int) 2 := ⟨⟨List.mem_of_getElem? (i := 400) (by decide +kernel), by decide +kernel⟩, ⟨List.mem_of_getElem? (i := 49) (by decide +kernel), by decide +kernel⟩, ⟨List.mem_of_getElem? (i := 397) (by decide +kernel), by decide +kernel⟩, by decide +kernel, by decide +kernel⟩
theorem lk_X2_186 : bd_lk RX2 186 yX2_greatestDivisor cX2_greatestDivisor 6 (some .int) 2 := ⟨⟨List.mem_of_getElem? (i := 419) (by decide +kernel), by decide +kernel⟩, ⟨List.mem_of_getElem? (i := 49) (by decide +kernel), by decide +kernel⟩, ⟨List.mem_of_getElem? (i := 417) (by decide +kernel), by decide +kernel⟩, by decide +kernel, by decide +kernel⟩
theorem lk_X2_189 : bd_lk RX2 189 yX2_heaviest cX2_heaviest 6 (some .int) 1 := ⟨⟨List.mem_of_getElem? (i := 427) (by decide +kernel), by decide +kernel⟩, ⟨List.mem_of_getElem? (i := 49) (by decide +kernel), by decide +kernel⟩, ⟨List.mem_of_getElem? (i := 424) (by decide +kernel), by decide +kernel⟩, by decide +kernel, by decide +kernel⟩
theorem lk_X2_193 : bd_lk RX2 193 yX2_leastShared cX2_leastShared 4 (some .int) 1 := ⟨⟨List.mem_of_getElem? (i := 404) (by decide +kernel), by decide +kernel⟩, ⟨List.mem_of_getElem? (i := 49) (by decide +kernel), by decide +kernel⟩, ⟨List.mem_of_getElem? (i := 401) (by decide +kernel), by decide +kernel⟩, by decide +kernel, by decide +kernel⟩
theorem lk_X2_196 : bd_lk RX2 196 yX2_greatestShared cX2_greatestShared 4 (some .int) 1 := ⟨⟨List.mem_of_getElem? (i := 409) (by decide +kernel), by decide +kernel⟩, ⟨List.mem_of_getElem? (i := 49) (by decide +kernel), by decide +kernel⟩, ⟨List.mem_of_getElem? (i := 406) (by decide +kernel), by decide +kernel⟩, by decide +kernel, by decide +kernel⟩
theorem lk_X2_199 : bd_lk RX2 199 yX2_countSuspects cX2_countSuspects 5 (some .int) 1 := ⟨⟨List.mem_of_getElem? (i := 445) (by decide +kernel), by decide +kernel⟩, ⟨List.mem_of_getElem? (i := 49) (by decide +kernel), by decide +kernel⟩, ⟨List.mem_of_getElem? (i := 442) (by decide +kernel), by decide +kernel⟩, by decide +kernel, by decide +kernel⟩
theorem lk_X2_202 : bd_lk RX2 202 yX2_firstFittingSlip cX2_firstFittingSlip 9 (some .int) 3 := ⟨⟨List.mem_of_getElem? (i := 461) (by decide +kernel), by decide +kernel⟩, ⟨List.mem_of_getElem? (i := 49) (by decide +kernel), by decide +kernel⟩, ⟨List.mem_of_getElem? (i := 458) (by decide +kernel), by decide +kernel⟩, by decide +kernel, by decide +kernel⟩
theorem lk_X2_207 : bd_lk RX2 207 yX2_isTold cX2_isTold 4 (some .boolean) 2 := ⟨⟨List.mem_of_getElem? (i := 474) (by decide +kernel), by decide +kernel⟩, ⟨List.mem_of_getElem? (i := 49) (by decide +kernel), by decide +kernel⟩, ⟨List.mem_of_getElem? (i := 471) (by decide +kernel), by decide +kernel⟩, by decide +kernel, by decide +kernel⟩
theorem lk_X2_218 : bd_lk RX2 218 yJ9_floorDiv_7cf53 cJ9_floorDiv_7cf53 3 (some .int) 2 := ⟨⟨List.mem_of_getElem? (i := 234) (by decide +kernel), by decide +kernel⟩, ⟨List.mem_of_getElem? (i := 54) (by decide +kernel), by decide +kernel⟩, ⟨List.mem_of_getElem? (i := 232) (by decide +kernel), by decide +kernel⟩, by decide +kernel, by decide +kernel⟩
theorem lk_X2_221 : bd_lk RX2 221 yX2_middleOff cX2_middleOff 2 (some .int) 1 := ⟨⟨List.mem_of_getElem? (i := 290) (by decide +kernel), by decide +kernel⟩, ⟨List.mem_of_getElem? (i := 49) (by decide +kernel), by decide +kernel⟩, ⟨List.mem_of_getElem? (i := 287) (by decide +kernel), by decide +kernel⟩, by decide +kernel, by decide +kernel⟩
theorem lk_X2_234 : bd_lk RX2 234 yX2_counts cX2_counts 3 (some .boolean) 2 := ⟨⟨List.mem_of_getElem? (i := 356) (by decide +kernel), by decide +kernel⟩, ⟨List.mem_of_getElem? (i := 49) (by decide +kernel), by decide +kernel⟩, ⟨List.mem_of_getElem? (i := 353) (by decide +kernel), by decide +kernel⟩, by decide +kernel, by decide +kernel⟩
theorem lk_X2_237 : bd_lk RX2 237 yX2_learnBut cX2_learnBut 9 (some .boolean) 5 := ⟨⟨List.mem_of_getElem? (i := 352) (by decide +kernel), by decide +kernel⟩, ⟨List.mem_of_getElem? (i := 49) (by decide +kernel), by decide +kernel⟩, ⟨List.mem_of_getElem? (i := 349) (by decide +kernel), by decide +kernel⟩, by decide +kernel, by decide +kernel⟩
theorem lk_X2_247 : bd_lk RX2 247 yX2_addHeat cX2_addHeat 4 none 1 := ⟨⟨List.mem_of_getElem? (i := 360) (by decide +kernel), by decide +kernel⟩, ⟨List.mem_of_getElem? (i := 49) (by decide +kernel), by decide +kernel⟩, ⟨List.mem_of_getElem? (i := 357) (by decide +kernel), by decide +kernel⟩, by decide +kernel, by decide +kernel⟩
theorem lk_X2_251 : bd_lk RX2 251 yX2_cutUp cX2_cutUp 2 (some .int) 2 := ⟨⟨List.mem_of_getElem? (i := 231) (by decide +kernel), by decide +kernel⟩, ⟨List.mem_of_getElem? (i := 49) (by decide +kernel), by decide +kernel⟩, ⟨List.mem_of_getElem? (i := 382) (by decide +kernel), by decide +kernel⟩, by decide +kernel, by decide +kernel⟩
theorem lk_X2_256 : bd_lk RX2 256 yJ6_bitCount_0f7a4 cJ6_bitCount_0f7a4 1 (some .int) 1 := ⟨⟨List.mem_of_getElem? (i := 430) (by decide +kernel), by decide +kernel⟩, ⟨List.mem_of_getElem? (i := 55) (by decide +kernel), by decide +kernel⟩, ⟨List.mem_of_getElem? (i := 428) (by decide +kernel), by decide +kernel⟩, by decide +kernel, by decide +kernel⟩
theorem lk_X2_261 : bd_lk RX2 261 yX2_isSetOn cX2_isSetOn 5 (some .boolean) 3 := ⟨⟨List.mem_of_getElem? (i := 449) (by decide +kernel), by decide +kernel⟩, ⟨List.mem_of_getElem? (i := 49) (by decide +kernel), by decide +kernel⟩, ⟨List.mem_of_getElem? (i := 446) (by decide +kernel), by decide +kernel⟩, by decide +kernel, by decide +kernel⟩
theorem lk_X2_265 : bd_lk RX2 265 yX2_bearsSlip cX2_bearsSlip 5 (some .boolean) 4 := ⟨⟨List.mem_of_getElem? (i := 465) (by decide +kernel), by decide +kernel⟩, ⟨List.mem_of_getElem? (i := 49) (by decide +kernel), by decide +kernel⟩, ⟨List.mem_of_getElem? (i := 462) (by decide +kernel), by decide +kernel⟩, by decide +kernel, by decide +kernel⟩
theorem lk_X2_57 : bd_lkN RX2 57 yX0_open "BallDrops" cX0_open 4 none 2 := ⟨⟨List.mem_of_getElem? (i := 93) (by decide +kernel), by decide +kernel⟩, ⟨List.mem_of_getElem? (i := 50) (by decide +kernel), by decide +kernel⟩, ⟨List.mem_of_getElem? (i := 90) (by decide +kernel), by decide +kernel, by decide +kernel⟩, by decide +kernel, by decide +kernel⟩
theorem lk_X2_64 : bd_lk RX2 64 yX2_noDay cX2_noDay 1 (some .boolean) 1 := ⟨⟨List.mem_of_getElem? (i := 200) (by decide +kernel), by decide +kernel⟩, ⟨List.mem_of_getElem? (i := 49) (by decide +kernel), by decide +kernel⟩, ⟨List.mem_of_getElem? (i := 198) (by decide +kernel), by decide +kernel⟩, by decide +kernel, by decide +kernel⟩
theorem lk_X2_68 : bd_lk RX2 68 yX2_beyond cX2_beyond 2 (some .boolean) 2 := ⟨⟨List.mem_of_getElem? (i := 203) (by decide +kernel), by decide +kernel⟩, ⟨List.mem_of_getElem? (i := 49) (by decide +kernel), by decide +kernel⟩, ⟨List.mem_of_getElem? (i := 201) (by decide +kernel), by decide +kernel⟩, by decide +kernel, by decide +kernel⟩
theorem lk_X2_75 : bd_lkN RX2 75 yX0_copyFrom "BallDrops" cX0_copyFrom 2 none 1 := ⟨⟨List.mem_of_getElem? (i := 207) (by decide +kernel), by decide +kernel⟩, ⟨List.mem_of_getElem? (i := 50) (by decide +kernel), by decide +kernel⟩, ⟨List.mem_of_getElem? (i := 204) (by decide +kernel), by decide +kernel, by decide +kernel⟩, by decide +kernel, by decide +kernel⟩
theorem lk_X2_79 : bd_lkN RX2 79 yX0_cut "BallDrops" cX0_cut 4 none 3 := ⟨⟨List.mem_of_getElem? (i := 214) (by decide +kernel), by decide +kernel⟩, ⟨List.mem_of_getElem? (i := 50) (by decide +kernel), by decide +kernel⟩, ⟨List.mem_of_getElem? (i := 211) (by decide +kernel), by decide +kernel, by decide +kernel⟩, by decide +kernel, by decide +kernel⟩
theorem lk_X2_83 : bd_lkN RX2 83 yX0_narrow "BallDrops" cX0_narrow 2 (some .boolean) 0 := ⟨⟨List.mem_of_getElem? (i := 224) (by decide +kernel), by decide +kernel⟩, ⟨List.mem_of_getElem? (i := 50) (by decide +kernel), by decide +kernel⟩, ⟨List.mem_of_getElem? (i := 221) (by decide +kernel), by decide +kernel, by decide +kernel⟩, by decide +kernel, by decide +kernel⟩
theorem lk_X2_87 : bd_lk RX2 87 yX2_outside cX2_outside 3 (some .boolean) 3 := ⟨⟨List.mem_of_getElem? (i := 247) (by decide +kernel), by decide +kernel⟩, ⟨List.mem_of_getElem? (i := 49) (by decide +kernel), by decide +kernel⟩, ⟨List.mem_of_getElem? (i := 245) (by decide +kernel), by decide +kernel⟩, by decide +kernel, by decide +kernel⟩
theorem lk_X2_92 : bd_lk RX2 92 yX2_noEnd cX2_noEnd 1 (some .boolean) 1 := ⟨⟨List.mem_of_getElem? (i := 255) (by decide +kernel), by decide +kernel⟩, ⟨List.mem_of_getElem? (i := 49) (by decide +kernel), by decide +kernel⟩, ⟨List.mem_of_getElem? (i := 253) (by decide +kernel), by decide +kernel⟩, by decide +kernel, by decide +kernel⟩
theorem lk_X3_107 : bd_lk RX3 107 yX3_layOffs cX3_layOffs 3 (some .boolean) 0 := ⟨⟨List.mem_of_getElem? (i := 498) (by decide +kernel), by decide +kernel⟩, ⟨List.mem_of_getElem? (i := 52) (by decide +kernel), by decide +kernel⟩, ⟨List.mem_of_getElem? (i := 495) (by decide +kernel), by decide +kernel⟩, by decide +kernel, by decide +kernel⟩
theorem lk_X3_111 : bd_lk RX3 111 yX3_in cX3_in 3 (some .boolean) 3 := ⟨⟨List.mem_of_getElem? (i := 639) (by decide +kernel), by decide +kernel⟩, ⟨List.mem_of_getElem? (i := 52) (by decide +kernel), by decide +kernel⟩, ⟨List.mem_of_getElem? (i := 637) (by decide +kernel), by decide +kernel⟩, by decide +kernel, by decide +kernel⟩
theorem lk_X3_118 : bd_lk RX3 118 yX3_down cX3_down 3 (some .int) 2 := ⟨⟨List.mem_of_getElem? (i := 520) (by decide +kernel), by decide +kernel⟩, ⟨List.mem_of_getElem? (i := 52) (by decide +kernel), by decide +kernel⟩, ⟨List.mem_of_getElem? (i := 518) (by decide +kernel), by decide +kernel⟩, by decide +kernel, by decide +kernel⟩
theorem lk_X3_126 : bd_lk RX3 126 yX3_isLeft cX3_isLeft 2 (some .boolean) 0 := ⟨⟨List.mem_of_getElem? (i := 514) (by decide +kernel), by decide +kernel⟩, ⟨List.mem_of_getElem? (i := 52) (by decide +kernel), by decide +kernel⟩, ⟨List.mem_of_getElem? (i := 511) (by decide +kernel), by decide +kernel⟩, by decide +kernel, by decide +kernel⟩
theorem lk_X3_129 : bd_lk RX3 129 yX3_within cX3_within 4 none 3 := ⟨⟨List.mem_of_getElem? (i := 506) (by decide +kernel), by decide +kernel⟩, ⟨List.mem_of_getElem? (i := 52) (by decide +kernel), by decide +kernel⟩, ⟨List.mem_of_getElem? (i := 503) (by decide +kernel), by decide +kernel⟩, by decide +kernel, by decide +kernel⟩
theorem lk_X3_133 : bd_lk RX3 133 yX3_up cX3_up 2 (some .int) 2 := ⟨⟨List.mem_of_getElem? (i := 517) (by decide +kernel), by decide +kernel⟩, ⟨List.mem_of_getElem? (i := 52) (by decide +kernel), by decide +kernel⟩, ⟨List.mem_of_getElem? (i := 515) (by decide +kernel), by decide +kernel⟩, by decide +kernel, by decide +kernel⟩
theorem lk_X3_136 : bd_lk RX3 136 yX3_start cX3_start 4 none 2 := ⟨⟨List.mem_of_getElem? (i := 502) (by decide +kernel), by decide +kernel⟩, ⟨List.mem_of_getElem? (i := 52) (by decide +kernel), by decide +kernel⟩, ⟨List.mem_of_getElem? (i := 499) (by decide +kernel), by decide +kernel⟩, by decide +kernel, by decide +kernel⟩
theorem lk_X3_143 : bd_lk RX3 143 yX3_narrow cX3_narrow 5 (some .boolean) 0 := ⟨⟨List.mem_of_getElem? (i := 510) (by decide +kernel), by decide +kernel⟩, ⟨List.mem_of_getElem? (i := 52) (by decide +kernel), by decide +kernel⟩, ⟨List.mem_of_getElem? (i := 507) (by decide +kernel), by decide +kernel⟩, by decide +kernel, by decide +kernel⟩
theorem lk_X3_146 : bd_lk RX3 146 yX3_isDay cX3_isDay 1 (some .boolean) 1 := ⟨⟨List.mem_of_getElem? (i := 636) (by decide +kernel), by decide +kernel⟩, ⟨List.mem_of_getElem? (i := 52) (by decide +kernel), by decide +kernel⟩, ⟨List.mem_of_getElem? (i := 634) (by decide +kernel), by decide +kernel⟩, by decide +kernel, by decide +kernel⟩
theorem lk_X3_151 : bd_lk RX3 151 yX3_isEnd cX3_isEnd 1 (some .boolean) 1 := ⟨⟨List.mem_of_getElem? (i := 651) (by decide +kernel), by decide +kernel⟩, ⟨List.mem_of_getElem? (i := 52) (by decide +kernel), by decide +kernel⟩, ⟨List.mem_of_getElem? (i := 649) (by decide +kernel), by decide +kernel⟩, by decide +kernel, by decide +kernel⟩
theorem lk_X3_155 : bd_lk RX3 155 yX3_lateOf cX3_lateOf 5 (some .int) 2 := ⟨⟨List.mem_of_getElem? (i := 676) (by decide +kernel), by decide +kernel⟩, ⟨List.mem_of_getElem? (i := 52) (by decide +kernel), by decide +kernel⟩, ⟨List.mem_of_getElem? (i := 673) (by decide +kernel), by decide +kernel⟩, by decide +kernel, by decide +kernel⟩
theorem lk_X3_158 : bd_lk RX3 158 yX3_isShip cX3_isShip 2 (some .boolean) 1 := ⟨⟨List.mem_of_getElem? (i := 692) (by decide +kernel), by decide +kernel⟩, ⟨List.mem_of_getElem? (i := 52) (by decide +kernel), by decide +kernel⟩, ⟨List.mem_of_getElem? (i := 689) (by decide +kernel), by decide +kernel⟩, by decide +kernel, by decide +kernel⟩
theorem lk_X3_161 : bd_lk RX3 161 yX3_isClock cX3_isClock 1 (some .boolean) 1 := ⟨⟨List.mem_of_getElem? (i := 695) (by decide +kernel), by decide +kernel⟩, ⟨List.mem_of_getElem? (i := 52) (by decide +kernel), by decide +kernel⟩, ⟨List.mem_of_getElem? (i := 693) (by decide +kernel), by decide +kernel⟩, by decide +kernel, by decide +kernel⟩
theorem lk_X3_164 : bd_lk RX3 164 yX3_isOne cX3_isOne 4 (some .boolean) 3 := ⟨⟨List.mem_of_getElem? (i := 688) (by decide +kernel), by decide +kernel⟩, ⟨List.mem_of_getElem? (i := 52) (by decide +kernel), by decide +kernel⟩, ⟨List.mem_of_getElem? (i := 685) (by decide +kernel), by decide +kernel⟩, by decide +kernel, by decide +kernel⟩
theorem lk_X3_167 : bd_lk RX3 167 yX3_mark cX3_mark 8 (some .int) 6 := ⟨⟨List.mem_of_getElem? (i := 699) (by decide +kernel), by decide +kernel⟩, ⟨List.mem_of_getElem? (i := 52) (by decide +kernel), by decide +kernel⟩, ⟨List.mem_of_getElem? (i := 696) (by decide +kernel), by decide +kernel⟩, by decide +kernel, by decide +kernel⟩
theorem lk_X3_171 : bd_lk RX3 171 yX3_doesCount cX3_doesCount 4 (some .boolean) 2 := ⟨⟨List.mem_of_getElem? (i := 731) (by decide +kernel), by decide +kernel⟩, ⟨List.mem_of_getElem? (i := 52) (by decide +kernel), by decide +kernel⟩, ⟨List.mem_of_getElem? (i := 728) (by decide +kernel), by decide +kernel⟩, by decide +kernel, by decide +kernel⟩
theorem lk_X3_175 : bd_lk RX3 175 yX3_lay cX3_lay 10 (some .boolean) 2 := ⟨⟨List.mem_of_getElem? (i := 727) (by decide +kernel), by decide +kernel⟩, ⟨List.mem_of_getElem? (i := 52) (by decide +kernel), by decide +kernel⟩, ⟨List.mem_of_getElem? (i := 724) (by decide +kernel), by decide +kernel⟩, by decide +kernel, by decide +kernel⟩
theorem lk_X3_179 : bd_lk RX3 179 yX3_placeOf cX3_placeOf 4 (some .int) 3 := ⟨⟨List.mem_of_getElem? (i := 748) (by decide +kernel), by decide +kernel⟩, ⟨List.mem_of_getElem? (i := 52) (by decide +kernel), by decide +kernel⟩, ⟨List.mem_of_getElem? (i := 745) (by decide +kernel), by decide +kernel⟩, by decide +kernel, by decide +kernel⟩
theorem lk_X3_191 : bd_lk RX3 191 yX3_agrees cX3_agrees 4 (some .boolean) 1 := ⟨⟨List.mem_of_getElem? (i := 768) (by decide +kernel), by decide +kernel⟩, ⟨List.mem_of_getElem? (i := 52) (by decide +kernel), by decide +kernel⟩, ⟨List.mem_of_getElem? (i := 765) (by decide +kernel), by decide +kernel⟩, by decide +kernel, by decide +kernel⟩
theorem lk_X3_194 : bd_lk RX3 194 yX3_layPlaces cX3_layPlaces 3 none 1 := ⟨⟨List.mem_of_getElem? (i := 760) (by decide +kernel), by decide +kernel⟩, ⟨List.mem_of_getElem? (i := 52) (by decide +kernel), by decide +kernel⟩, ⟨List.mem_of_getElem? (i := 757) (by decide +kernel), by decide +kernel⟩, by decide +kernel, by decide +kernel⟩
theorem lk_X3_198 : bd_lk RX3 198 yX3_weightOf cX3_weightOf 6 (some .int) 2 := ⟨⟨List.mem_of_getElem? (i := 764) (by decide +kernel), by decide +kernel⟩, ⟨List.mem_of_getElem? (i := 52) (by decide +kernel), by decide +kernel⟩, ⟨List.mem_of_getElem? (i := 761) (by decide +kernel), by decide +kernel⟩, by decide +kernel, by decide +kernel⟩
theorem lk_X3_205 : bd_lk RX3 205 yX3_bits cX3_bits 1 (some .int) 1 := ⟨⟨List.mem_of_getElem? (i := 787) (by decide +kernel), by decide +kernel⟩, ⟨List.mem_of_getElem? (i := 52) (by decide +kernel), by decide +kernel⟩, ⟨List.mem_of_getElem? (i := 785) (by decide +kernel), by decide +kernel⟩, by decide +kernel, by decide +kernel⟩
theorem lk_X3_209 : bd_lk RX3 209 yX3_bestOf cX3_bestOf 5 (some .int) 1 := ⟨⟨List.mem_of_getElem? (i := 784) (by decide +kernel), by decide +kernel⟩, ⟨List.mem_of_getElem? (i := 52) (by decide +kernel), by decide +kernel⟩, ⟨List.mem_of_getElem? (i := 781) (by decide +kernel), by decide +kernel⟩, by decide +kernel, by decide +kernel⟩
theorem lk_X3_212 : bd_lk RX3 212 yX3_suspects cX3_suspects 5 (some .int) 1 := ⟨⟨List.mem_of_getElem? (i := 799) (by decide +kernel), by decide +kernel⟩, ⟨List.mem_of_getElem? (i := 52) (by decide +kernel), by decide +kernel⟩, ⟨List.mem_of_getElem? (i := 796) (by decide +kernel), by decide +kernel⟩, by decide +kernel, by decide +kernel⟩
theorem lk_X3_215 : bd_lk RX3 215 yX3_isSetBy cX3_isSetBy 7 (some .boolean) 3 := ⟨⟨List.mem_of_getElem? (i := 816) (by decide +kernel), by decide +kernel⟩, ⟨List.mem_of_getElem? (i := 52) (by decide +kernel), by decide +kernel⟩, ⟨List.mem_of_getElem? (i := 813) (by decide +kernel), by decide +kernel⟩, by decide +kernel, by decide +kernel⟩
theorem lk_X3_219 : bd_lk RX3 219 yX3_allGo cX3_allGo 4 (some .boolean) 1 := ⟨⟨List.mem_of_getElem? (i := 812) (by decide +kernel), by decide +kernel⟩, ⟨List.mem_of_getElem? (i := 52) (by decide +kernel), by decide +kernel⟩, ⟨List.mem_of_getElem? (i := 809) (by decide +kernel), by decide +kernel⟩, by decide +kernel, by decide +kernel⟩
theorem lk_X3_222 : bd_lk RX3 222 yX3_isMarked cX3_isMarked 6 (some .boolean) 2 := ⟨⟨List.mem_of_getElem? (i := 824) (by decide +kernel), by decide +kernel⟩, ⟨List.mem_of_getElem? (i := 52) (by decide +kernel), by decide +kernel⟩, ⟨List.mem_of_getElem? (i := 821) (by decide +kernel), by decide +kernel⟩, by decide +kernel, by decide +kernel⟩
theorem mm_X0_31 : bd_in (.methodLink RX0 31 Lib.Math.max.name) := ⟨List.mem_of_getElem? (i := 215) (by decide +kernel), by decide +kernel⟩
theorem mm_X0_37 : bd_in (.methodLink RX0 37 Lib.Math.min.name) := ⟨List.mem_of_getElem? (i := 218) (by decide +kernel), by decide +kernel⟩
theorem mm_X2_210 : bd_in (.methodLink RX2 210 Lib.Math.max.name) := ⟨List.mem_of_getElem? (i := 405) (by decide +kernel), by decide +kernel⟩
theorem mm_X2_215 : bd_in (.methodLink RX2 215 Lib.Math.min.name) := ⟨List.mem_of_getElem? (i := 410) (by decide +kernel), by decide +kernel⟩
theorem sm_J6_bitCount_0f7a4 : bd_in (.static yJ6_bitCount_0f7a4) := ⟨List.mem_of_getElem? (i := 429) (by decide +kernel), by decide +kernel⟩
theorem sm_J9_floorDiv_7cf53 : bd_in (.static yJ9_floorDiv_7cf53) := ⟨List.mem_of_getElem? (i := 233) (by decide +kernel), by decide +kernel⟩
theorem sm_X2_beyond : bd_in (.static yX2_beyond) := ⟨List.mem_of_getElem? (i := 202) (by decide +kernel), by decide +kernel⟩
theorem sm_X2_bitOf : bd_in (.static yX2_bitOf) := ⟨List.mem_of_getElem? (i := 274) (by decide +kernel), by decide +kernel⟩
theorem sm_X2_cutUp : bd_in (.static yX2_cutUp) := ⟨List.mem_of_getElem? (i := 230) (by decide +kernel), by decide +kernel⟩
theorem sm_X2_greatestDivisor : bd_in (.static yX2_greatestDivisor) := ⟨List.mem_of_getElem? (i := 418) (by decide +kernel), by decide +kernel⟩
theorem sm_X2_latestNoted : bd_in (.static yX2_latestNoted) := ⟨List.mem_of_getElem? (i := 312) (by decide +kernel), by decide +kernel⟩
theorem sm_X2_noDay : bd_in (.static yX2_noDay) := ⟨List.mem_of_getElem? (i := 199) (by decide +kernel), by decide +kernel⟩
theorem sm_X2_noEnd : bd_in (.static yX2_noEnd) := ⟨List.mem_of_getElem? (i := 254) (by decide +kernel), by decide +kernel⟩
theorem sm_X2_outside : bd_in (.static yX2_outside) := ⟨List.mem_of_getElem? (i := 246) (by decide +kernel), by decide +kernel⟩
theorem sm_X2_soonestNoted : bd_in (.static yX2_soonestNoted) := ⟨List.mem_of_getElem? (i := 315) (by decide +kernel), by decide +kernel⟩
theorem sm_X2_withBit : bd_in (.static yX2_withBit) := ⟨List.mem_of_getElem? (i := 277) (by decide +kernel), by decide +kernel⟩
theorem sm_X3_bits : bd_in (.static yX3_bits) := ⟨List.mem_of_getElem? (i := 786) (by decide +kernel), by decide +kernel⟩
theorem sm_X3_down : bd_in (.static yX3_down) := ⟨List.mem_of_getElem? (i := 519) (by decide +kernel), by decide +kernel⟩
theorem sm_X3_in : bd_in (.static yX3_in) := ⟨List.mem_of_getElem? (i := 638) (by decide +kernel), by decide +kernel⟩
theorem sm_X3_isClock : bd_in (.static yX3_isClock) := ⟨List.mem_of_getElem? (i := 694) (by decide +kernel), by decide +kernel⟩
theorem sm_X3_isDay : bd_in (.static yX3_isDay) := ⟨List.mem_of_getElem? (i := 635) (by decide +kernel), by decide +kernel⟩
theorem sm_X3_isEnd : bd_in (.static yX3_isEnd) := ⟨List.mem_of_getElem? (i := 650) (by decide +kernel), by decide +kernel⟩
theorem sm_X3_up : bd_in (.static yX3_up) := ⟨List.mem_of_getElem? (i := 516) (by decide +kernel), by decide +kernel⟩
section BDF
variable {G : bd_G} {cc : ByteArray} {nL : Nat} {n fr lo : Nat} {rt : Option FieldType} {α : Type} {out : α} {F F1 F2 : Option α} {σ : bd_S} {pc : Nat} {lv lr : List (Nat × Value)} {st : List Value}
theorem wd_X0_15 : bd_in (.fieldLink RX0 15 RX0 (TX0 1).2.1 (TX0 1).2.2.1) := ⟨List.mem_of_getElem? (i := 72) (by decide +kernel), by decide +kernel⟩
theorem gf_X0_15 {r : Nat} (hr : bd_isL r) (hG : bd_OK G cc nL RX0 n fr lo rt) (hn : 10 ≤ n) (hd : decode cc pc = .ok (.getfield 15, 3)) (kk : bd_WF G out F σ (pc + 3) lv (.ref (bd_ad (g_E G) (r + 2)) :: st)) : bd_WF G out F σ pc lv (.ref (bd_ad (g_E G) r) :: st) :=
  rr_get (v := .ref (bd_ad (g_E G) (r + 2))) (ci := 0) hG (bd_kL0 hr) (bd_bL0 hr hn) rfl (by decide) inX0 1 (by decide) wd_X0_15 rfl rfl hd kk
theorem wd_X0_18 : bd_in (.fieldLink RX0 18 RX0 (TX0 2).2.1 (TX0 2).2.2.1) := ⟨List.mem_of_getElem? (i := 74) (by decide +kernel), by decide +kernel⟩
theorem gf_X0_18 {r : Nat} (hr : bd_isL r) (hG : bd_OK G cc nL RX0 n fr lo rt) (hn : 10 ≤ n) {k : Int32 → Option α} (hd : decode cc pc = .ok (.getfield 18, 3)) (kk : ∀ z, bd_WF G out (k z) σ (pc + 3) lv (.int z :: st)) : bd_WF G out (bd_lt (σ r 2) k) σ pc lv (.ref (bd_ad (g_E G) r) :: st) :=
  rr_get (v := .int (σ r 2)) (ci := 0) hG (bd_kL0 hr) (bd_bL0 hr hn) rfl (by decide) inX0 2 (by decide) wd_X0_18 rfl rfl hd (kk _)
theorem wd_X0_22 : bd_in (.fieldLink RX0 22 RX0 (TX0 3).2.1 (TX0 3).2.2.1) := ⟨List.mem_of_getElem? (i := 76) (by decide +kernel), by decide +kernel⟩
theorem gf_X0_22 {r : Nat} (hr : bd_isL r) (hG : bd_OK G cc nL RX0 n fr lo rt) (hn : 10 ≤ n) {k : Int32 → Option α} (hd : decode cc pc = .ok (.getfield 22, 3)) (kk : ∀ z, bd_WF G out (k z) σ (pc + 3) lv (.int z :: st)) : bd_WF G out (bd_lt (σ r 3) k) σ pc lv (.ref (bd_ad (g_E G) r) :: st) :=
  rr_get (v := .int (σ r 3)) (ci := 0) hG (bd_kL0 hr) (bd_bL0 hr hn) rfl (by decide) inX0 3 (by decide) wd_X0_22 rfl rfl hd (kk _)
theorem wd_X0_9 : bd_in (.fieldLink RX0 9 RX0 (TX0 0).2.1 (TX0 0).2.2.1) := ⟨List.mem_of_getElem? (i := 70) (by decide +kernel), by decide +kernel⟩
theorem gf_X0_9 {r : Nat} (hr : bd_isL r) (hG : bd_OK G cc nL RX0 n fr lo rt) (hn : 10 ≤ n) (hd : decode cc pc = .ok (.getfield 9, 3)) (kk : bd_WF G out F σ (pc + 3) lv (.ref (bd_ad (g_E G) (r + 1)) :: st)) : bd_WF G out F σ pc lv (.ref (bd_ad (g_E G) r) :: st) :=
  rr_get (v := .ref (bd_ad (g_E G) (r + 1))) (ci := 0) hG (bd_kL0 hr) (bd_bL0 hr hn) rfl (by decide) inX0 0 (by decide) wd_X0_9 rfl rfl hd kk
theorem wd_X1_15 : bd_in (.fieldLink RX1 15 RX1 (TX1 1).2.1 (TX1 1).2.2.1) := ⟨List.mem_of_getElem? (i := 101) (by decide +kernel), by decide +kernel⟩
theorem gf_X1_15 {r : Nat} (hr : bd_isS r) (hG : bd_OK G cc nL RX1 n fr lo rt) (hn : 55 ≤ n) (hd : decode cc pc = .ok (.getfield 15, 3)) (kk : bd_WF G out F σ (pc + 3) lv (.ref (bd_ad (g_E G) (r + 2)) :: st)) : bd_WF G out F σ pc lv (.ref (bd_ad (g_E G) r) :: st) :=
  rr_get (v := .ref (bd_ad (g_E G) (r + 2))) (ci := 1) hG (bd_kS0 hr) (bd_bS0 hr hn) rfl (by decide) inX1 1 (by decide) wd_X1_15 rfl rfl hd kk
theorem wd_X1_18 : bd_in (.fieldLink RX1 18 RX1 (TX1 2).2.1 (TX1 2).2.2.1) := ⟨List.mem_of_getElem? (i := 103) (by decide +kernel), by decide +kernel⟩
theorem gf_X1_18 {r : Nat} (hr : bd_isS r) (hG : bd_OK G cc nL RX1 n fr lo rt) (hn : 55 ≤ n) (hd : decode cc pc = .ok (.getfield 18, 3)) (kk : bd_WF G out F σ (pc + 3) lv (.ref (bd_ad (g_E G) (r + 3)) :: st)) : bd_WF G out F σ pc lv (.ref (bd_ad (g_E G) r) :: st) :=
  rr_get (v := .ref (bd_ad (g_E G) (r + 3))) (ci := 1) hG (bd_kS0 hr) (bd_bS0 hr hn) rfl (by decide) inX1 2 (by decide) wd_X1_18 rfl rfl hd kk
theorem wd_X1_22 : bd_in (.fieldLink RX1 22 RX1 (TX1 3).2.1 (TX1 3).2.2.1) := ⟨List.mem_of_getElem? (i := 105) (by decide +kernel), by decide +kernel⟩
theorem gf_X1_22 {r : Nat} (hr : bd_isS r) (hG : bd_OK G cc nL RX1 n fr lo rt) (hn : 55 ≤ n) (hd : decode cc pc = .ok (.getfield 22, 3)) (kk : bd_WF G out F σ (pc + 3) lv (.ref (bd_ad (g_E G) (r + 4)) :: st)) : bd_WF G out F σ pc lv (.ref (bd_ad (g_E G) r) :: st) :=
  rr_get (v := .ref (bd_ad (g_E G) (r + 4))) (ci := 1) hG (bd_kS0 hr) (bd_bS0 hr hn) rfl (by decide) inX1 3 (by decide) wd_X1_22 rfl rfl hd kk
theorem wd_X1_25 : bd_in (.fieldLink RX1 25 RX1 (TX1 4).2.1 (TX1 4).2.2.1) := ⟨List.mem_of_getElem? (i := 107) (by decide +kernel), by decide +kernel⟩
theorem gf_X1_25 {r : Nat} (hr : bd_isS r) (hG : bd_OK G cc nL RX1 n fr lo rt) (hn : 55 ≤ n) (hd : decode cc pc = .ok (.getfield 25, 3)) (kk : bd_WF G out F σ (pc + 3) lv (.ref (bd_ad (g_E G) (r + 5)) :: st)) : bd_WF G out F σ pc lv (.ref (bd_ad (g_E G) r) :: st) :=
  rr_get (v := .ref (bd_ad (g_E G) (r + 5))) (ci := 1) hG (bd_kS0 hr) (bd_bS0 hr hn) rfl (by decide) inX1 4 (by decide) wd_X1_25 rfl rfl hd kk
theorem wd_X1_37 : bd_in (.fieldLink RX1 37 RX1 (TX1 8).2.1 (TX1 8).2.2.1) := ⟨List.mem_of_getElem? (i := 115) (by decide +kernel), by decide +kernel⟩
theorem gf_X1_37 {r : Nat} (hr : bd_isS r) (hG : bd_OK G cc nL RX1 n fr lo rt) (hn : 55 ≤ n) {k : Int32 → Option α} (hd : decode cc pc = .ok (.getfield 37, 3)) (kk : ∀ z, bd_WF G out (k z) σ (pc + 3) lv (.int z :: st)) : bd_WF G out (bd_lt (σ r 8) k) σ pc lv (.ref (bd_ad (g_E G) r) :: st) :=
  rr_get (v := .int (σ r 8)) (ci := 1) hG (bd_kS0 hr) (bd_bS0 hr hn) rfl (by decide) inX1 8 (by decide) wd_X1_37 rfl rfl hd (kk _)
theorem wd_X1_9 : bd_in (.fieldLink RX1 9 RX1 (TX1 0).2.1 (TX1 0).2.2.1) := ⟨List.mem_of_getElem? (i := 99) (by decide +kernel), by decide +kernel⟩
theorem gf_X1_9 {r : Nat} (hr : bd_isS r) (hG : bd_OK G cc nL RX1 n fr lo rt) (hn : 55 ≤ n) (hd : decode cc pc = .ok (.getfield 9, 3)) (kk : bd_WF G out F σ (pc + 3) lv (.ref (bd_ad (g_E G) (r + 1)) :: st)) : bd_WF G out F σ pc lv (.ref (bd_ad (g_E G) r) :: st) :=
  rr_get (v := .ref (bd_ad (g_E G) (r + 1))) (ci := 1) hG (bd_kS0 hr) (bd_bS0 hr hn) rfl (by decide) inX1 0 (by decide) wd_X1_9 rfl rfl hd kk
theorem wd_X2_10 : bd_in (.fieldLink RX2 10 RX2 (TX2 0).2.1 (TX2 0).2.2.1) := ⟨List.mem_of_getElem? (i := 145) (by decide +kernel), by decide +kernel⟩
theorem gf_X2_10 (hG : bd_OK G cc nL RX2 n fr lo rt) (hn : 0 < n) (hd : decode cc pc = .ok (.getfield 10, 3)) (kk : bd_WF G out F σ (pc + 3) lv (.ref (bd_ad (g_E G) 1) :: st)) : bd_WF G out F σ pc lv (.ref (bd_ad (g_E G) 0) :: st) :=
  rr_get (v := .ref (bd_ad (g_E G) 1)) (ci := 2) hG rfl hn rfl (by decide) inX2 0 (by decide) wd_X2_10 rfl rfl hd kk
theorem wd_X2_102 : bd_inN (.fieldLinkNest RX2 102 RX0 (TX0 2).2.1 (TX0 2).2.2.1 "BallDrops") := ⟨List.mem_of_getElem? (i := 75) (by decide +kernel), by decide +kernel, by decide +kernel⟩
theorem gf_X2_102 {r : Nat} (hr : bd_isL r) (hG : bd_OK G cc nL RX2 n fr lo rt) (hn : 10 ≤ n) {k : Int32 → Option α} (hd : decode cc pc = .ok (.getfield 102, 3)) (kk : ∀ z, bd_WF G out (k z) σ (pc + 3) lv (.int z :: st)) : bd_WF G out (bd_lt (σ r 2) k) σ pc lv (.ref (bd_ad (g_E G) r) :: st) :=
  rr_getN (v := .int (σ r 2)) (ci := 0) hG (bd_kL0 hr) (bd_bL0 hr hn) rfl (by decide) inX0 2 (by decide) wd_X2_102 rfl rfl hd (kk _)
theorem wd_X2_105 : bd_inN (.fieldLinkNest RX2 105 RX0 (TX0 3).2.1 (TX0 3).2.2.1 "BallDrops") := ⟨List.mem_of_getElem? (i := 77) (by decide +kernel), by decide +kernel, by decide +kernel⟩
theorem gf_X2_105 {r : Nat} (hr : bd_isL r) (hG : bd_OK G cc nL RX2 n fr lo rt) (hn : 10 ≤ n) {k : Int32 → Option α} (hd : decode cc pc = .ok (.getfield 105, 3)) (kk : ∀ z, bd_WF G out (k z) σ (pc + 3) lv (.int z :: st)) : bd_WF G out (bd_lt (σ r 3) k) σ pc lv (.ref (bd_ad (g_E G) r) :: st) :=
  rr_getN (v := .int (σ r 3)) (ci := 0) hG (bd_kL0 hr) (bd_bL0 hr hn) rfl (by decide) inX0 3 (by decide) wd_X2_105 rfl rfl hd (kk _)
theorem wd_X2_108 : bd_in (.fieldLink RX2 108 RX2 (TX2 14).2.1 (TX2 14).2.2.1) := ⟨List.mem_of_getElem? (i := 159) (by decide +kernel), by decide +kernel⟩
theorem gf_X2_108 (hG : bd_OK G cc nL RX2 n fr lo rt) (hn : 0 < n) {k : Int32 → Option α} (hd : decode cc pc = .ok (.getfield 108, 3)) (kk : ∀ z, bd_WF G out (k z) σ (pc + 3) lv (.int z :: st)) : bd_WF G out (bd_lt (σ 0 14) k) σ pc lv (.ref (bd_ad (g_E G) 0) :: st) :=
  rr_get (v := .int (σ 0 14)) (ci := 2) hG rfl hn rfl (by decide) inX2 14 (by decide) wd_X2_108 rfl rfl hd (kk _)
theorem wd_X2_126 : bd_in (.fieldLink RX2 126 RX2 (TX2 15).2.1 (TX2 15).2.2.1) := ⟨List.mem_of_getElem? (i := 160) (by decide +kernel), by decide +kernel⟩
theorem gf_X2_126 (hG : bd_OK G cc nL RX2 n fr lo rt) (hn : 0 < n) {k : Int32 → Option α} (hd : decode cc pc = .ok (.getfield 126, 3)) (kk : ∀ z, bd_WF G out (k z) σ (pc + 3) lv (.int z :: st)) : bd_WF G out (bd_lt (σ 0 15) k) σ pc lv (.ref (bd_ad (g_E G) 0) :: st) :=
  rr_get (v := .int (σ 0 15)) (ci := 2) hG rfl hn rfl (by decide) inX2 15 (by decide) wd_X2_126 rfl rfl hd (kk _)
theorem wd_X2_145 : bd_inN (.fieldLinkNest RX2 145 RX1 (TX1 8).2.1 (TX1 8).2.2.1 "BallDrops") := ⟨List.mem_of_getElem? (i := 116) (by decide +kernel), by decide +kernel, by decide +kernel⟩
theorem gf_X2_145 {r : Nat} (hr : bd_isS r) (hG : bd_OK G cc nL RX2 n fr lo rt) (hn : 55 ≤ n) {k : Int32 → Option α} (hd : decode cc pc = .ok (.getfield 145, 3)) (kk : ∀ z, bd_WF G out (k z) σ (pc + 3) lv (.int z :: st)) : bd_WF G out (bd_lt (σ r 8) k) σ pc lv (.ref (bd_ad (g_E G) r) :: st) :=
  rr_getN (v := .int (σ r 8)) (ci := 1) hG (bd_kS0 hr) (bd_bS0 hr hn) rfl (by decide) inX1 8 (by decide) wd_X2_145 rfl rfl hd (kk _)
theorem wd_X2_148 : bd_inN (.fieldLinkNest RX2 148 RX1 (TX1 9).2.1 (TX1 9).2.2.1 "BallDrops") := ⟨List.mem_of_getElem? (i := 117) (by decide +kernel), by decide +kernel, by decide +kernel⟩
theorem gf_X2_148 {r : Nat} (hr : bd_isS r) (hG : bd_OK G cc nL RX2 n fr lo rt) (hn : 55 ≤ n) {k : Int32 → Option α} (hd : decode cc pc = .ok (.getfield 148, 3)) (kk : ∀ z, bd_WF G out (k z) σ (pc + 3) lv (.int z :: st)) : bd_WF G out (bd_lt (σ r 9) k) σ pc lv (.ref (bd_ad (g_E G) r) :: st) :=
  rr_getN (v := .int (σ r 9)) (ci := 1) hG (bd_kS0 hr) (bd_bS0 hr hn) rfl (by decide) inX1 9 (by decide) wd_X2_148 rfl rfl hd (kk _)
theorem wd_X2_151 : bd_inN (.fieldLinkNest RX2 151 RX1 (TX1 5).2.1 (TX1 5).2.2.1 "BallDrops") := ⟨List.mem_of_getElem? (i := 110) (by decide +kernel), by decide +kernel, by decide +kernel⟩
theorem gf_X2_151 {r : Nat} (hr : bd_isS r) (hG : bd_OK G cc nL RX2 n fr lo rt) (hn : 55 ≤ n) (hd : decode cc pc = .ok (.getfield 151, 3)) (kk : bd_WF G out F σ (pc + 3) lv (.ref (bd_ad (g_E G) (r + 6)) :: st)) : bd_WF G out F σ pc lv (.ref (bd_ad (g_E G) r) :: st) :=
  rr_getN (v := .ref (bd_ad (g_E G) (r + 6))) (ci := 1) hG (bd_kS0 hr) (bd_bS0 hr hn) rfl (by decide) inX1 5 (by decide) wd_X2_151 rfl rfl hd kk
theorem wd_X2_154 : bd_inN (.fieldLinkNest RX2 154 RX1 (TX1 6).2.1 (TX1 6).2.2.1 "BallDrops") := ⟨List.mem_of_getElem? (i := 112) (by decide +kernel), by decide +kernel, by decide +kernel⟩
theorem gf_X2_154 {r : Nat} (hr : bd_isS r) (hG : bd_OK G cc nL RX2 n fr lo rt) (hn : 55 ≤ n) (hd : decode cc pc = .ok (.getfield 154, 3)) (kk : bd_WF G out F σ (pc + 3) lv (.ref (bd_ad (g_E G) (r + 7)) :: st)) : bd_WF G out F σ pc lv (.ref (bd_ad (g_E G) r) :: st) :=
  rr_getN (v := .ref (bd_ad (g_E G) (r + 7))) (ci := 1) hG (bd_kS0 hr) (bd_bS0 hr hn) rfl (by decide) inX1 6 (by decide) wd_X2_154 rfl rfl hd kk
theorem wd_X2_16 : bd_in (.fieldLink RX2 16 RX2 (TX2 1).2.1 (TX2 1).2.2.1) := ⟨List.mem_of_getElem? (i := 146) (by decide +kernel), by decide +kernel⟩
theorem gf_X2_16 (hG : bd_OK G cc nL RX2 n fr lo rt) (hn : 0 < n) (hd : decode cc pc = .ok (.getfield 16, 3)) (kk : bd_WF G out F σ (pc + 3) lv (.ref (bd_ad (g_E G) 4) :: st)) : bd_WF G out F σ pc lv (.ref (bd_ad (g_E G) 0) :: st) :=
  rr_get (v := .ref (bd_ad (g_E G) 4)) (ci := 2) hG rfl hn rfl (by decide) inX2 1 (by decide) wd_X2_16 rfl rfl hd kk
theorem wd_X2_168 : bd_inN (.fieldLinkNest RX2 168 RX1 (TX1 10).2.1 (TX1 10).2.2.1 "BallDrops") := ⟨List.mem_of_getElem? (i := 118) (by decide +kernel), by decide +kernel, by decide +kernel⟩
theorem gf_X2_168 {r : Nat} (hr : bd_isS r) (hG : bd_OK G cc nL RX2 n fr lo rt) (hn : 55 ≤ n) {k : Int32 → Option α} (hd : decode cc pc = .ok (.getfield 168, 3)) (kk : ∀ z, bd_WF G out (k z) σ (pc + 3) lv (.int z :: st)) : bd_WF G out (bd_lt (σ r 10) k) σ pc lv (.ref (bd_ad (g_E G) r) :: st) :=
  rr_getN (v := .int (σ r 10)) (ci := 1) hG (bd_kS0 hr) (bd_bS0 hr hn) rfl (by decide) inX1 10 (by decide) wd_X2_168 rfl rfl hd (kk _)
theorem wd_X2_171 : bd_inN (.fieldLinkNest RX2 171 RX1 (TX1 7).2.1 (TX1 7).2.2.1 "BallDrops") := ⟨List.mem_of_getElem? (i := 114) (by decide +kernel), by decide +kernel, by decide +kernel⟩
theorem gf_X2_171 {r : Nat} (hr : bd_isS r) (hG : bd_OK G cc nL RX2 n fr lo rt) (hn : 55 ≤ n) (hd : decode cc pc = .ok (.getfield 171, 3)) (kk : bd_WF G out F σ (pc + 3) lv (.ref (bd_ad (g_E G) (r + 8)) :: st)) : bd_WF G out F σ pc lv (.ref (bd_ad (g_E G) r) :: st) :=
  rr_getN (v := .ref (bd_ad (g_E G) (r + 8))) (ci := 1) hG (bd_kS0 hr) (bd_bS0 hr hn) rfl (by decide) inX1 7 (by decide) wd_X2_171 rfl rfl hd kk
theorem wd_X2_19 : bd_in (.fieldLink RX2 19 RX2 (TX2 2).2.1 (TX2 2).2.2.1) := ⟨List.mem_of_getElem? (i := 147) (by decide +kernel), by decide +kernel⟩
theorem gf_X2_19 (hG : bd_OK G cc nL RX2 n fr lo rt) (hn : 0 < n) (hd : decode cc pc = .ok (.getfield 19, 3)) (kk : bd_WF G out F σ (pc + 3) lv (.ref (bd_ad (g_E G) 7) :: st)) : bd_WF G out F σ pc lv (.ref (bd_ad (g_E G) 0) :: st) :=
  rr_get (v := .ref (bd_ad (g_E G) 7)) (ci := 2) hG rfl hn rfl (by decide) inX2 2 (by decide) wd_X2_19 rfl rfl hd kk
theorem wd_X2_22 : bd_in (.fieldLink RX2 22 RX2 (TX2 3).2.1 (TX2 3).2.2.1) := ⟨List.mem_of_getElem? (i := 148) (by decide +kernel), by decide +kernel⟩
theorem gf_X2_22 (hG : bd_OK G cc nL RX2 n fr lo rt) (hn : 0 < n) (hd : decode cc pc = .ok (.getfield 22, 3)) (kk : bd_WF G out F σ (pc + 3) lv (.ref (bd_ad (g_E G) 10) :: st)) : bd_WF G out F σ pc lv (.ref (bd_ad (g_E G) 0) :: st) :=
  rr_get (v := .ref (bd_ad (g_E G) 10)) (ci := 2) hG rfl hn rfl (by decide) inX2 3 (by decide) wd_X2_22 rfl rfl hd kk
theorem wd_X2_224 : bd_inN (.fieldLinkNest RX2 224 RX1 (TX1 2).2.1 (TX1 2).2.2.1 "BallDrops") := ⟨List.mem_of_getElem? (i := 104) (by decide +kernel), by decide +kernel, by decide +kernel⟩
theorem gf_X2_224 {r : Nat} (hr : bd_isS r) (hG : bd_OK G cc nL RX2 n fr lo rt) (hn : 55 ≤ n) (hd : decode cc pc = .ok (.getfield 224, 3)) (kk : bd_WF G out F σ (pc + 3) lv (.ref (bd_ad (g_E G) (r + 3)) :: st)) : bd_WF G out F σ pc lv (.ref (bd_ad (g_E G) r) :: st) :=
  rr_getN (v := .ref (bd_ad (g_E G) (r + 3))) (ci := 1) hG (bd_kS0 hr) (bd_bS0 hr hn) rfl (by decide) inX1 2 (by decide) wd_X2_224 rfl rfl hd kk
theorem wd_X2_228 : bd_inN (.fieldLinkNest RX2 228 RX1 (TX1 1).2.1 (TX1 1).2.2.1 "BallDrops") := ⟨List.mem_of_getElem? (i := 102) (by decide +kernel), by decide +kernel, by decide +kernel⟩
theorem gf_X2_228 {r : Nat} (hr : bd_isS r) (hG : bd_OK G cc nL RX2 n fr lo rt) (hn : 55 ≤ n) (hd : decode cc pc = .ok (.getfield 228, 3)) (kk : bd_WF G out F σ (pc + 3) lv (.ref (bd_ad (g_E G) (r + 2)) :: st)) : bd_WF G out F σ pc lv (.ref (bd_ad (g_E G) r) :: st) :=
  rr_getN (v := .ref (bd_ad (g_E G) (r + 2))) (ci := 1) hG (bd_kS0 hr) (bd_bS0 hr hn) rfl (by decide) inX1 1 (by decide) wd_X2_228 rfl rfl hd kk
theorem wd_X2_231 : bd_inN (.fieldLinkNest RX2 231 RX1 (TX1 0).2.1 (TX1 0).2.2.1 "BallDrops") := ⟨List.mem_of_getElem? (i := 100) (by decide +kernel), by decide +kernel, by decide +kernel⟩
theorem gf_X2_231 {r : Nat} (hr : bd_isS r) (hG : bd_OK G cc nL RX2 n fr lo rt) (hn : 55 ≤ n) (hd : decode cc pc = .ok (.getfield 231, 3)) (kk : bd_WF G out F σ (pc + 3) lv (.ref (bd_ad (g_E G) (r + 1)) :: st)) : bd_WF G out F σ pc lv (.ref (bd_ad (g_E G) r) :: st) :=
  rr_getN (v := .ref (bd_ad (g_E G) (r + 1))) (ci := 1) hG (bd_kS0 hr) (bd_bS0 hr hn) rfl (by decide) inX1 0 (by decide) wd_X2_231 rfl rfl hd kk
theorem wd_X2_241 : bd_inN (.fieldLinkNest RX2 241 RX1 (TX1 3).2.1 (TX1 3).2.2.1 "BallDrops") := ⟨List.mem_of_getElem? (i := 106) (by decide +kernel), by decide +kernel, by decide +kernel⟩
theorem gf_X2_241 {r : Nat} (hr : bd_isS r) (hG : bd_OK G cc nL RX2 n fr lo rt) (hn : 55 ≤ n) (hd : decode cc pc = .ok (.getfield 241, 3)) (kk : bd_WF G out F σ (pc + 3) lv (.ref (bd_ad (g_E G) (r + 4)) :: st)) : bd_WF G out F σ pc lv (.ref (bd_ad (g_E G) r) :: st) :=
  rr_getN (v := .ref (bd_ad (g_E G) (r + 4))) (ci := 1) hG (bd_kS0 hr) (bd_bS0 hr hn) rfl (by decide) inX1 3 (by decide) wd_X2_241 rfl rfl hd kk
theorem wd_X2_244 : bd_inN (.fieldLinkNest RX2 244 RX1 (TX1 4).2.1 (TX1 4).2.2.1 "BallDrops") := ⟨List.mem_of_getElem? (i := 108) (by decide +kernel), by decide +kernel, by decide +kernel⟩
theorem gf_X2_244 {r : Nat} (hr : bd_isS r) (hG : bd_OK G cc nL RX2 n fr lo rt) (hn : 55 ≤ n) (hd : decode cc pc = .ok (.getfield 244, 3)) (kk : bd_WF G out F σ (pc + 3) lv (.ref (bd_ad (g_E G) (r + 5)) :: st)) : bd_WF G out F σ pc lv (.ref (bd_ad (g_E G) r) :: st) :=
  rr_getN (v := .ref (bd_ad (g_E G) (r + 5))) (ci := 1) hG (bd_kS0 hr) (bd_bS0 hr hn) rfl (by decide) inX1 4 (by decide) wd_X2_244 rfl rfl hd kk
theorem wd_X2_26 : bd_in (.fieldLink RX2 26 RX2 (TX2 4).2.1 (TX2 4).2.2.1) := ⟨List.mem_of_getElem? (i := 149) (by decide +kernel), by decide +kernel⟩
theorem gf_X2_26 (hG : bd_OK G cc nL RX2 n fr lo rt) (hn : 0 < n) (hd : decode cc pc = .ok (.getfield 26, 3)) (kk : bd_WF G out F σ (pc + 3) lv (.ref (bd_ad (g_E G) 11) :: st)) : bd_WF G out F σ pc lv (.ref (bd_ad (g_E G) 0) :: st) :=
  rr_get (v := .ref (bd_ad (g_E G) 11)) (ci := 2) hG rfl hn rfl (by decide) inX2 4 (by decide) wd_X2_26 rfl rfl hd kk
theorem wd_X2_29 : bd_in (.fieldLink RX2 29 RX2 (TX2 5).2.1 (TX2 5).2.2.1) := ⟨List.mem_of_getElem? (i := 150) (by decide +kernel), by decide +kernel⟩
theorem gf_X2_29 (hG : bd_OK G cc nL RX2 n fr lo rt) (hn : 0 < n) (hd : decode cc pc = .ok (.getfield 29, 3)) (kk : bd_WF G out F σ (pc + 3) lv (.ref (bd_ad (g_E G) 12) :: st)) : bd_WF G out F σ pc lv (.ref (bd_ad (g_E G) 0) :: st) :=
  rr_get (v := .ref (bd_ad (g_E G) 12)) (ci := 2) hG rfl hn rfl (by decide) inX2 5 (by decide) wd_X2_29 rfl rfl hd kk
theorem wd_X2_32 : bd_in (.fieldLink RX2 32 RX2 (TX2 6).2.1 (TX2 6).2.2.1) := ⟨List.mem_of_getElem? (i := 151) (by decide +kernel), by decide +kernel⟩
theorem gf_X2_32 (hG : bd_OK G cc nL RX2 n fr lo rt) (hn : 0 < n) (hd : decode cc pc = .ok (.getfield 32, 3)) (kk : bd_WF G out F σ (pc + 3) lv (.ref (bd_ad (g_E G) 13) :: st)) : bd_WF G out F σ pc lv (.ref (bd_ad (g_E G) 0) :: st) :=
  rr_get (v := .ref (bd_ad (g_E G) 13)) (ci := 2) hG rfl hn rfl (by decide) inX2 6 (by decide) wd_X2_32 rfl rfl hd kk
theorem wd_X2_37 : bd_in (.fieldLink RX2 37 RX2 (TX2 7).2.1 (TX2 7).2.2.1) := ⟨List.mem_of_getElem? (i := 152) (by decide +kernel), by decide +kernel⟩
theorem gf_X2_37 (hG : bd_OK G cc nL RX2 n fr lo rt) (hn : 0 < n) (hd : decode cc pc = .ok (.getfield 37, 3)) (kk : bd_WF G out F σ (pc + 3) lv (.ref (bd_ad (g_E G) 14) :: st)) : bd_WF G out F σ pc lv (.ref (bd_ad (g_E G) 0) :: st) :=
  rr_get (v := .ref (bd_ad (g_E G) 14)) (ci := 2) hG rfl hn rfl (by decide) inX2 7 (by decide) wd_X2_37 rfl rfl hd kk
theorem wd_X2_41 : bd_in (.fieldLink RX2 41 RX2 (TX2 8).2.1 (TX2 8).2.2.1) := ⟨List.mem_of_getElem? (i := 153) (by decide +kernel), by decide +kernel⟩
theorem gf_X2_41 (hG : bd_OK G cc nL RX2 n fr lo rt) (hn : 0 < n) (hd : decode cc pc = .ok (.getfield 41, 3)) (kk : bd_WF G out F σ (pc + 3) lv (.ref (bd_ad (g_E G) 15) :: st)) : bd_WF G out F σ pc lv (.ref (bd_ad (g_E G) 0) :: st) :=
  rr_get (v := .ref (bd_ad (g_E G) 15)) (ci := 2) hG rfl hn rfl (by decide) inX2 8 (by decide) wd_X2_41 rfl rfl hd kk
theorem wd_X2_44 : bd_in (.fieldLink RX2 44 RX2 (TX2 9).2.1 (TX2 9).2.2.1) := ⟨List.mem_of_getElem? (i := 154) (by decide +kernel), by decide +kernel⟩
theorem gf_X2_44 (hG : bd_OK G cc nL RX2 n fr lo rt) (hn : 0 < n) (hd : decode cc pc = .ok (.getfield 44, 3)) (kk : bd_WF G out F σ (pc + 3) lv (.ref (bd_ad (g_E G) 16) :: st)) : bd_WF G out F σ pc lv (.ref (bd_ad (g_E G) 0) :: st) :=
  rr_get (v := .ref (bd_ad (g_E G) 16)) (ci := 2) hG rfl hn rfl (by decide) inX2 9 (by decide) wd_X2_44 rfl rfl hd kk
theorem wd_X2_47 : bd_in (.fieldLink RX2 47 RX2 (TX2 10).2.1 (TX2 10).2.2.1) := ⟨List.mem_of_getElem? (i := 155) (by decide +kernel), by decide +kernel⟩
theorem gf_X2_47 (hG : bd_OK G cc nL RX2 n fr lo rt) (hn : 0 < n) (hd : decode cc pc = .ok (.getfield 47, 3)) (kk : bd_WF G out F σ (pc + 3) lv (.ref (bd_ad (g_E G) 17) :: st)) : bd_WF G out F σ pc lv (.ref (bd_ad (g_E G) 0) :: st) :=
  rr_get (v := .ref (bd_ad (g_E G) 17)) (ci := 2) hG rfl hn rfl (by decide) inX2 10 (by decide) wd_X2_47 rfl rfl hd kk
theorem wd_X2_50 : bd_in (.fieldLink RX2 50 RX2 (TX2 11).2.1 (TX2 11).2.2.1) := ⟨List.mem_of_getElem? (i := 156) (by decide +kernel), by decide +kernel⟩
theorem gf_X2_50 (hG : bd_OK G cc nL RX2 n fr lo rt) (hn : 0 < n) (hd : decode cc pc = .ok (.getfield 50, 3)) (kk : bd_WF G out F σ (pc + 3) lv (.ref (bd_ad (g_E G) 18) :: st)) : bd_WF G out F σ pc lv (.ref (bd_ad (g_E G) 0) :: st) :=
  rr_get (v := .ref (bd_ad (g_E G) 18)) (ci := 2) hG rfl hn rfl (by decide) inX2 11 (by decide) wd_X2_50 rfl rfl hd kk
theorem wd_X2_53 : bd_in (.fieldLink RX2 53 RX2 (TX2 13).2.1 (TX2 13).2.2.1) := ⟨List.mem_of_getElem? (i := 158) (by decide +kernel), by decide +kernel⟩
theorem gf_X2_53 (hG : bd_OK G cc nL RX2 n fr lo rt) (hn : 0 < n) {k : Int32 → Option α} (hd : decode cc pc = .ok (.getfield 53, 3)) (kk : ∀ z, bd_WF G out (k z) σ (pc + 3) lv (.int z :: st)) : bd_WF G out (bd_lt (σ 0 13) k) σ pc lv (.ref (bd_ad (g_E G) 0) :: st) :=
  rr_get (v := .int (σ 0 13)) (ci := 2) hG rfl hn rfl (by decide) inX2 13 (by decide) wd_X2_53 rfl rfl hd (kk _)
theorem wd_X2_72 : bd_in (.fieldLink RX2 72 RX2 (TX2 12).2.1 (TX2 12).2.2.1) := ⟨List.mem_of_getElem? (i := 157) (by decide +kernel), by decide +kernel⟩
theorem gf_X2_72 (hG : bd_OK G cc nL RX2 n fr lo rt) (hn : 0 < n) {k : Int32 → Option α} (hd : decode cc pc = .ok (.getfield 72, 3)) (kk : ∀ z, bd_WF G out (k z) σ (pc + 3) lv (.int z :: st)) : bd_WF G out (bd_lt (σ 0 12) k) σ pc lv (.ref (bd_ad (g_E G) 0) :: st) :=
  rr_get (v := .int (σ 0 12)) (ci := 2) hG rfl hn rfl (by decide) inX2 12 (by decide) wd_X2_72 rfl rfl hd (kk _)
theorem wd_X2_96 : bd_inN (.fieldLinkNest RX2 96 RX0 (TX0 0).2.1 (TX0 0).2.2.1 "BallDrops") := ⟨List.mem_of_getElem? (i := 71) (by decide +kernel), by decide +kernel, by decide +kernel⟩
theorem gf_X2_96 {r : Nat} (hr : bd_isL r) (hG : bd_OK G cc nL RX2 n fr lo rt) (hn : 10 ≤ n) (hd : decode cc pc = .ok (.getfield 96, 3)) (kk : bd_WF G out F σ (pc + 3) lv (.ref (bd_ad (g_E G) (r + 1)) :: st)) : bd_WF G out F σ pc lv (.ref (bd_ad (g_E G) r) :: st) :=
  rr_getN (v := .ref (bd_ad (g_E G) (r + 1))) (ci := 0) hG (bd_kL0 hr) (bd_bL0 hr hn) rfl (by decide) inX0 0 (by decide) wd_X2_96 rfl rfl hd kk
theorem wd_X2_99 : bd_inN (.fieldLinkNest RX2 99 RX0 (TX0 1).2.1 (TX0 1).2.2.1 "BallDrops") := ⟨List.mem_of_getElem? (i := 73) (by decide +kernel), by decide +kernel, by decide +kernel⟩
theorem gf_X2_99 {r : Nat} (hr : bd_isL r) (hG : bd_OK G cc nL RX2 n fr lo rt) (hn : 10 ≤ n) (hd : decode cc pc = .ok (.getfield 99, 3)) (kk : bd_WF G out F σ (pc + 3) lv (.ref (bd_ad (g_E G) (r + 2)) :: st)) : bd_WF G out F σ pc lv (.ref (bd_ad (g_E G) r) :: st) :=
  rr_getN (v := .ref (bd_ad (g_E G) (r + 2))) (ci := 0) hG (bd_kL0 hr) (bd_bL0 hr hn) rfl (by decide) inX0 1 (by decide) wd_X2_99 rfl rfl hd kk
theorem wd_X3_102 : bd_in (.fieldLink RX3 102 RX3 (TX3 33).2.1 (TX3 33).2.2.1) := ⟨List.mem_of_getElem? (i := 554) (by decide +kernel), by decide +kernel⟩
theorem gf_X3_102 (hG : bd_OK G cc nL RX3 n fr lo rt) (hn : 55 < n) (hd : decode cc pc = .ok (.getfield 102, 3)) (kk : bd_WF G out F σ (pc + 3) lv (.ref (bd_ad (g_E G) 84) :: st)) : bd_WF G out F σ pc lv (.ref (bd_ad (g_E G) 55) :: st) :=
  rr_get (v := .ref (bd_ad (g_E G) 84)) (ci := 3) hG rfl hn rfl (by decide) inX3 33 (by decide) wd_X3_102 rfl rfl hd kk
theorem wd_X3_115 : bd_in (.fieldLink RX3 115 RX3 (TX3 12).2.1 (TX3 12).2.2.1) := ⟨List.mem_of_getElem? (i := 533) (by decide +kernel), by decide +kernel⟩
theorem gf_X3_115 (hG : bd_OK G cc nL RX3 n fr lo rt) (hn : 55 < n) {k : Int32 → Option α} (hd : decode cc pc = .ok (.getfield 115, 3)) (kk : ∀ z, bd_WF G out (k z) σ (pc + 3) lv (.int z :: st)) : bd_WF G out (bd_lt (σ 55 12) k) σ pc lv (.ref (bd_ad (g_E G) 55) :: st) :=
  rr_get (v := .int (σ 55 12)) (ci := 3) hG rfl hn rfl (by decide) inX3 12 (by decide) wd_X3_115 rfl rfl hd (kk _)
theorem wd_X3_122 : bd_in (.fieldLink RX3 122 RX3 (TX3 29).2.1 (TX3 29).2.2.1) := ⟨List.mem_of_getElem? (i := 550) (by decide +kernel), by decide +kernel⟩
theorem gf_X3_122 (hG : bd_OK G cc nL RX3 n fr lo rt) (hn : 55 < n) {k : Int32 → Option α} (hd : decode cc pc = .ok (.getfield 122, 3)) (kk : ∀ z, bd_WF G out (k z) σ (pc + 3) lv (.int z :: st)) : bd_WF G out (bd_lt (σ 55 29) k) σ pc lv (.ref (bd_ad (g_E G) 55) :: st) :=
  rr_get (v := .int (σ 55 29)) (ci := 3) hG rfl hn rfl (by decide) inX3 29 (by decide) wd_X3_122 rfl rfl hd (kk _)
theorem wd_X3_13 : bd_in (.fieldLink RX3 13 RX3 (TX3 2).2.1 (TX3 2).2.2.1) := ⟨List.mem_of_getElem? (i := 523) (by decide +kernel), by decide +kernel⟩
theorem gf_X3_13 (hG : bd_OK G cc nL RX3 n fr lo rt) (hn : 55 < n) (hd : decode cc pc = .ok (.getfield 13, 3)) (kk : bd_WF G out F σ (pc + 3) lv (.ref (bd_ad (g_E G) 57) :: st)) : bd_WF G out F σ pc lv (.ref (bd_ad (g_E G) 55) :: st) :=
  rr_get (v := .ref (bd_ad (g_E G) 57)) (ci := 3) hG rfl hn rfl (by decide) inX3 2 (by decide) wd_X3_13 rfl rfl hd kk
theorem wd_X3_140 : bd_in (.fieldLink RX3 140 RX3 (TX3 0).2.1 (TX3 0).2.2.1) := ⟨List.mem_of_getElem? (i := 521) (by decide +kernel), by decide +kernel⟩
theorem gf_X3_140 (hG : bd_OK G cc nL RX3 n fr lo rt) (hn : 55 < n) {k : Int32 → Option α} (hd : decode cc pc = .ok (.getfield 140, 3)) (kk : ∀ z, bd_WF G out (k z) σ (pc + 3) lv (.int z :: st)) : bd_WF G out (bd_lt (σ 55 0) k) σ pc lv (.ref (bd_ad (g_E G) 55) :: st) :=
  rr_get (v := .int (σ 55 0)) (ci := 3) hG rfl hn rfl (by decide) inX3 0 (by decide) wd_X3_140 rfl rfl hd (kk _)
theorem wd_X3_16 : bd_in (.fieldLink RX3 16 RX3 (TX3 3).2.1 (TX3 3).2.2.1) := ⟨List.mem_of_getElem? (i := 524) (by decide +kernel), by decide +kernel⟩
theorem gf_X3_16 (hG : bd_OK G cc nL RX3 n fr lo rt) (hn : 55 < n) (hd : decode cc pc = .ok (.getfield 16, 3)) (kk : bd_WF G out F σ (pc + 3) lv (.ref (bd_ad (g_E G) 58) :: st)) : bd_WF G out F σ pc lv (.ref (bd_ad (g_E G) 55) :: st) :=
  rr_get (v := .ref (bd_ad (g_E G) 58)) (ci := 3) hG rfl hn rfl (by decide) inX3 3 (by decide) wd_X3_16 rfl rfl hd kk
theorem wd_X3_184 : bd_in (.fieldLink RX3 184 RX3 (TX3 34).2.1 (TX3 34).2.2.1) := ⟨List.mem_of_getElem? (i := 555) (by decide +kernel), by decide +kernel⟩
theorem gf_X3_184 (hG : bd_OK G cc nL RX3 n fr lo rt) (hn : 55 < n) {k : Int32 → Option α} (hd : decode cc pc = .ok (.getfield 184, 3)) (kk : ∀ z, bd_WF G out (k z) σ (pc + 3) lv (.int z :: st)) : bd_WF G out (bd_lt (σ 55 34) k) σ pc lv (.ref (bd_ad (g_E G) 55) :: st) :=
  rr_get (v := .int (σ 55 34)) (ci := 3) hG rfl hn rfl (by decide) inX3 34 (by decide) wd_X3_184 rfl rfl hd (kk _)
theorem wd_X3_188 : bd_in (.fieldLink RX3 188 RX3 (TX3 35).2.1 (TX3 35).2.2.1) := ⟨List.mem_of_getElem? (i := 556) (by decide +kernel), by decide +kernel⟩
theorem gf_X3_188 (hG : bd_OK G cc nL RX3 n fr lo rt) (hn : 55 < n) {k : Int32 → Option α} (hd : decode cc pc = .ok (.getfield 188, 3)) (kk : ∀ z, bd_WF G out (k z) σ (pc + 3) lv (.int z :: st)) : bd_WF G out (bd_lt (σ 55 35) k) σ pc lv (.ref (bd_ad (g_E G) 55) :: st) :=
  rr_get (v := .int (σ 55 35)) (ci := 3) hG rfl hn rfl (by decide) inX3 35 (by decide) wd_X3_188 rfl rfl hd (kk _)
theorem wd_X3_19 : bd_in (.fieldLink RX3 19 RX3 (TX3 4).2.1 (TX3 4).2.2.1) := ⟨List.mem_of_getElem? (i := 525) (by decide +kernel), by decide +kernel⟩
theorem gf_X3_19 (hG : bd_OK G cc nL RX3 n fr lo rt) (hn : 55 < n) {k : Int32 → Option α} (hd : decode cc pc = .ok (.getfield 19, 3)) (kk : ∀ z, bd_WF G out (k z) σ (pc + 3) lv (.int z :: st)) : bd_WF G out (bd_lt (σ 55 4) k) σ pc lv (.ref (bd_ad (g_E G) 55) :: st) :=
  rr_get (v := .int (σ 55 4)) (ci := 3) hG rfl hn rfl (by decide) inX3 4 (by decide) wd_X3_19 rfl rfl hd (kk _)
theorem wd_X3_23 : bd_in (.fieldLink RX3 23 RX3 (TX3 5).2.1 (TX3 5).2.2.1) := ⟨List.mem_of_getElem? (i := 526) (by decide +kernel), by decide +kernel⟩
theorem gf_X3_23 (hG : bd_OK G cc nL RX3 n fr lo rt) (hn : 55 < n) (hd : decode cc pc = .ok (.getfield 23, 3)) (kk : bd_WF G out F σ (pc + 3) lv (.ref (bd_ad (g_E G) 59) :: st)) : bd_WF G out F σ pc lv (.ref (bd_ad (g_E G) 55) :: st) :=
  rr_get (v := .ref (bd_ad (g_E G) 59)) (ci := 3) hG rfl hn rfl (by decide) inX3 5 (by decide) wd_X3_23 rfl rfl hd kk
theorem wd_X3_26 : bd_in (.fieldLink RX3 26 RX3 (TX3 6).2.1 (TX3 6).2.2.1) := ⟨List.mem_of_getElem? (i := 527) (by decide +kernel), by decide +kernel⟩
theorem gf_X3_26 (hG : bd_OK G cc nL RX3 n fr lo rt) (hn : 55 < n) (hd : decode cc pc = .ok (.getfield 26, 3)) (kk : bd_WF G out F σ (pc + 3) lv (.ref (bd_ad (g_E G) 60) :: st)) : bd_WF G out F σ pc lv (.ref (bd_ad (g_E G) 55) :: st) :=
  rr_get (v := .ref (bd_ad (g_E G) 60)) (ci := 3) hG rfl hn rfl (by decide) inX3 6 (by decide) wd_X3_26 rfl rfl hd kk
theorem wd_X3_29 : bd_in (.fieldLink RX3 29 RX3 (TX3 7).2.1 (TX3 7).2.2.1) := ⟨List.mem_of_getElem? (i := 528) (by decide +kernel), by decide +kernel⟩
theorem gf_X3_29 (hG : bd_OK G cc nL RX3 n fr lo rt) (hn : 55 < n) (hd : decode cc pc = .ok (.getfield 29, 3)) (kk : bd_WF G out F σ (pc + 3) lv (.ref (bd_ad (g_E G) 61) :: st)) : bd_WF G out F σ pc lv (.ref (bd_ad (g_E G) 55) :: st) :=
  rr_get (v := .ref (bd_ad (g_E G) 61)) (ci := 3) hG rfl hn rfl (by decide) inX3 7 (by decide) wd_X3_29 rfl rfl hd kk
theorem wd_X3_32 : bd_in (.fieldLink RX3 32 RX3 (TX3 8).2.1 (TX3 8).2.2.1) := ⟨List.mem_of_getElem? (i := 529) (by decide +kernel), by decide +kernel⟩
theorem gf_X3_32 (hG : bd_OK G cc nL RX3 n fr lo rt) (hn : 55 < n) (hd : decode cc pc = .ok (.getfield 32, 3)) (kk : bd_WF G out F σ (pc + 3) lv (.ref (bd_ad (g_E G) 62) :: st)) : bd_WF G out F σ pc lv (.ref (bd_ad (g_E G) 55) :: st) :=
  rr_get (v := .ref (bd_ad (g_E G) 62)) (ci := 3) hG rfl hn rfl (by decide) inX3 8 (by decide) wd_X3_32 rfl rfl hd kk
theorem wd_X3_35 : bd_in (.fieldLink RX3 35 RX3 (TX3 9).2.1 (TX3 9).2.2.1) := ⟨List.mem_of_getElem? (i := 530) (by decide +kernel), by decide +kernel⟩
theorem gf_X3_35 (hG : bd_OK G cc nL RX3 n fr lo rt) (hn : 55 < n) (hd : decode cc pc = .ok (.getfield 35, 3)) (kk : bd_WF G out F σ (pc + 3) lv (.ref (bd_ad (g_E G) 63) :: st)) : bd_WF G out F σ pc lv (.ref (bd_ad (g_E G) 55) :: st) :=
  rr_get (v := .ref (bd_ad (g_E G) 63)) (ci := 3) hG rfl hn rfl (by decide) inX3 9 (by decide) wd_X3_35 rfl rfl hd kk
theorem wd_X3_38 : bd_in (.fieldLink RX3 38 RX3 (TX3 10).2.1 (TX3 10).2.2.1) := ⟨List.mem_of_getElem? (i := 531) (by decide +kernel), by decide +kernel⟩
theorem gf_X3_38 (hG : bd_OK G cc nL RX3 n fr lo rt) (hn : 55 < n) (hd : decode cc pc = .ok (.getfield 38, 3)) (kk : bd_WF G out F σ (pc + 3) lv (.ref (bd_ad (g_E G) 64) :: st)) : bd_WF G out F σ pc lv (.ref (bd_ad (g_E G) 55) :: st) :=
  rr_get (v := .ref (bd_ad (g_E G) 64)) (ci := 3) hG rfl hn rfl (by decide) inX3 10 (by decide) wd_X3_38 rfl rfl hd kk
theorem wd_X3_42 : bd_in (.fieldLink RX3 42 RX3 (TX3 11).2.1 (TX3 11).2.2.1) := ⟨List.mem_of_getElem? (i := 532) (by decide +kernel), by decide +kernel⟩
theorem gf_X3_42 (hG : bd_OK G cc nL RX3 n fr lo rt) (hn : 55 < n) (hd : decode cc pc = .ok (.getfield 42, 3)) (kk : bd_WF G out F σ (pc + 3) lv (.ref (bd_ad (g_E G) 65) :: st)) : bd_WF G out F σ pc lv (.ref (bd_ad (g_E G) 55) :: st) :=
  rr_get (v := .ref (bd_ad (g_E G) 65)) (ci := 3) hG rfl hn rfl (by decide) inX3 11 (by decide) wd_X3_42 rfl rfl hd kk
theorem wd_X3_45 : bd_in (.fieldLink RX3 45 RX3 (TX3 13).2.1 (TX3 13).2.2.1) := ⟨List.mem_of_getElem? (i := 534) (by decide +kernel), by decide +kernel⟩
theorem gf_X3_45 (hG : bd_OK G cc nL RX3 n fr lo rt) (hn : 55 < n) (hd : decode cc pc = .ok (.getfield 45, 3)) (kk : bd_WF G out F σ (pc + 3) lv (.ref (bd_ad (g_E G) 66) :: st)) : bd_WF G out F σ pc lv (.ref (bd_ad (g_E G) 55) :: st) :=
  rr_get (v := .ref (bd_ad (g_E G) 66)) (ci := 3) hG rfl hn rfl (by decide) inX3 13 (by decide) wd_X3_45 rfl rfl hd kk
theorem wd_X3_48 : bd_in (.fieldLink RX3 48 RX3 (TX3 14).2.1 (TX3 14).2.2.1) := ⟨List.mem_of_getElem? (i := 535) (by decide +kernel), by decide +kernel⟩
theorem gf_X3_48 (hG : bd_OK G cc nL RX3 n fr lo rt) (hn : 55 < n) (hd : decode cc pc = .ok (.getfield 48, 3)) (kk : bd_WF G out F σ (pc + 3) lv (.ref (bd_ad (g_E G) 67) :: st)) : bd_WF G out F σ pc lv (.ref (bd_ad (g_E G) 55) :: st) :=
  rr_get (v := .ref (bd_ad (g_E G) 67)) (ci := 3) hG rfl hn rfl (by decide) inX3 14 (by decide) wd_X3_48 rfl rfl hd kk
theorem wd_X3_51 : bd_in (.fieldLink RX3 51 RX3 (TX3 15).2.1 (TX3 15).2.2.1) := ⟨List.mem_of_getElem? (i := 536) (by decide +kernel), by decide +kernel⟩
theorem gf_X3_51 (hG : bd_OK G cc nL RX3 n fr lo rt) (hn : 55 < n) (hd : decode cc pc = .ok (.getfield 51, 3)) (kk : bd_WF G out F σ (pc + 3) lv (.ref (bd_ad (g_E G) 68) :: st)) : bd_WF G out F σ pc lv (.ref (bd_ad (g_E G) 55) :: st) :=
  rr_get (v := .ref (bd_ad (g_E G) 68)) (ci := 3) hG rfl hn rfl (by decide) inX3 15 (by decide) wd_X3_51 rfl rfl hd kk
theorem wd_X3_54 : bd_in (.fieldLink RX3 54 RX3 (TX3 16).2.1 (TX3 16).2.2.1) := ⟨List.mem_of_getElem? (i := 537) (by decide +kernel), by decide +kernel⟩
theorem gf_X3_54 (hG : bd_OK G cc nL RX3 n fr lo rt) (hn : 55 < n) (hd : decode cc pc = .ok (.getfield 54, 3)) (kk : bd_WF G out F σ (pc + 3) lv (.ref (bd_ad (g_E G) 69) :: st)) : bd_WF G out F σ pc lv (.ref (bd_ad (g_E G) 55) :: st) :=
  rr_get (v := .ref (bd_ad (g_E G) 69)) (ci := 3) hG rfl hn rfl (by decide) inX3 16 (by decide) wd_X3_54 rfl rfl hd kk
theorem wd_X3_57 : bd_in (.fieldLink RX3 57 RX3 (TX3 17).2.1 (TX3 17).2.2.1) := ⟨List.mem_of_getElem? (i := 538) (by decide +kernel), by decide +kernel⟩
theorem gf_X3_57 (hG : bd_OK G cc nL RX3 n fr lo rt) (hn : 55 < n) (hd : decode cc pc = .ok (.getfield 57, 3)) (kk : bd_WF G out F σ (pc + 3) lv (.ref (bd_ad (g_E G) 70) :: st)) : bd_WF G out F σ pc lv (.ref (bd_ad (g_E G) 55) :: st) :=
  rr_get (v := .ref (bd_ad (g_E G) 70)) (ci := 3) hG rfl hn rfl (by decide) inX3 17 (by decide) wd_X3_57 rfl rfl hd kk
theorem wd_X3_60 : bd_in (.fieldLink RX3 60 RX3 (TX3 18).2.1 (TX3 18).2.2.1) := ⟨List.mem_of_getElem? (i := 539) (by decide +kernel), by decide +kernel⟩
theorem gf_X3_60 (hG : bd_OK G cc nL RX3 n fr lo rt) (hn : 55 < n) (hd : decode cc pc = .ok (.getfield 60, 3)) (kk : bd_WF G out F σ (pc + 3) lv (.ref (bd_ad (g_E G) 71) :: st)) : bd_WF G out F σ pc lv (.ref (bd_ad (g_E G) 55) :: st) :=
  rr_get (v := .ref (bd_ad (g_E G) 71)) (ci := 3) hG rfl hn rfl (by decide) inX3 18 (by decide) wd_X3_60 rfl rfl hd kk
theorem wd_X3_63 : bd_in (.fieldLink RX3 63 RX3 (TX3 19).2.1 (TX3 19).2.2.1) := ⟨List.mem_of_getElem? (i := 540) (by decide +kernel), by decide +kernel⟩
theorem gf_X3_63 (hG : bd_OK G cc nL RX3 n fr lo rt) (hn : 55 < n) (hd : decode cc pc = .ok (.getfield 63, 3)) (kk : bd_WF G out F σ (pc + 3) lv (.ref (bd_ad (g_E G) 72) :: st)) : bd_WF G out F σ pc lv (.ref (bd_ad (g_E G) 55) :: st) :=
  rr_get (v := .ref (bd_ad (g_E G) 72)) (ci := 3) hG rfl hn rfl (by decide) inX3 19 (by decide) wd_X3_63 rfl rfl hd kk
theorem wd_X3_66 : bd_in (.fieldLink RX3 66 RX3 (TX3 20).2.1 (TX3 20).2.2.1) := ⟨List.mem_of_getElem? (i := 541) (by decide +kernel), by decide +kernel⟩
theorem gf_X3_66 (hG : bd_OK G cc nL RX3 n fr lo rt) (hn : 55 < n) (hd : decode cc pc = .ok (.getfield 66, 3)) (kk : bd_WF G out F σ (pc + 3) lv (.ref (bd_ad (g_E G) 73) :: st)) : bd_WF G out F σ pc lv (.ref (bd_ad (g_E G) 55) :: st) :=
  rr_get (v := .ref (bd_ad (g_E G) 73)) (ci := 3) hG rfl hn rfl (by decide) inX3 20 (by decide) wd_X3_66 rfl rfl hd kk
theorem wd_X3_69 : bd_in (.fieldLink RX3 69 RX3 (TX3 21).2.1 (TX3 21).2.2.1) := ⟨List.mem_of_getElem? (i := 542) (by decide +kernel), by decide +kernel⟩
theorem gf_X3_69 (hG : bd_OK G cc nL RX3 n fr lo rt) (hn : 55 < n) (hd : decode cc pc = .ok (.getfield 69, 3)) (kk : bd_WF G out F σ (pc + 3) lv (.ref (bd_ad (g_E G) 74) :: st)) : bd_WF G out F σ pc lv (.ref (bd_ad (g_E G) 55) :: st) :=
  rr_get (v := .ref (bd_ad (g_E G) 74)) (ci := 3) hG rfl hn rfl (by decide) inX3 21 (by decide) wd_X3_69 rfl rfl hd kk
theorem wd_X3_7 : bd_in (.fieldLink RX3 7 RX3 (TX3 1).2.1 (TX3 1).2.2.1) := ⟨List.mem_of_getElem? (i := 522) (by decide +kernel), by decide +kernel⟩
theorem gf_X3_7 (hG : bd_OK G cc nL RX3 n fr lo rt) (hn : 55 < n) (hd : decode cc pc = .ok (.getfield 7, 3)) (kk : bd_WF G out F σ (pc + 3) lv (.ref (bd_ad (g_E G) 56) :: st)) : bd_WF G out F σ pc lv (.ref (bd_ad (g_E G) 55) :: st) :=
  rr_get (v := .ref (bd_ad (g_E G) 56)) (ci := 3) hG rfl hn rfl (by decide) inX3 1 (by decide) wd_X3_7 rfl rfl hd kk
theorem wd_X3_72 : bd_in (.fieldLink RX3 72 RX3 (TX3 22).2.1 (TX3 22).2.2.1) := ⟨List.mem_of_getElem? (i := 543) (by decide +kernel), by decide +kernel⟩
theorem gf_X3_72 (hG : bd_OK G cc nL RX3 n fr lo rt) (hn : 55 < n) (hd : decode cc pc = .ok (.getfield 72, 3)) (kk : bd_WF G out F σ (pc + 3) lv (.ref (bd_ad (g_E G) 75) :: st)) : bd_WF G out F σ pc lv (.ref (bd_ad (g_E G) 55) :: st) :=
  rr_get (v := .ref (bd_ad (g_E G) 75)) (ci := 3) hG rfl hn rfl (by decide) inX3 22 (by decide) wd_X3_72 rfl rfl hd kk
theorem wd_X3_75 : bd_in (.fieldLink RX3 75 RX3 (TX3 23).2.1 (TX3 23).2.2.1) := ⟨List.mem_of_getElem? (i := 544) (by decide +kernel), by decide +kernel⟩
theorem gf_X3_75 (hG : bd_OK G cc nL RX3 n fr lo rt) (hn : 55 < n) (hd : decode cc pc = .ok (.getfield 75, 3)) (kk : bd_WF G out F σ (pc + 3) lv (.ref (bd_ad (g_E G) 76) :: st)) : bd_WF G out F σ pc lv (.ref (bd_ad (g_E G) 55) :: st) :=
  rr_get (v := .ref (bd_ad (g_E G) 76)) (ci := 3) hG rfl hn rfl (by decide) inX3 23 (by decide) wd_X3_75 rfl rfl hd kk
theorem wd_X3_78 : bd_in (.fieldLink RX3 78 RX3 (TX3 24).2.1 (TX3 24).2.2.1) := ⟨List.mem_of_getElem? (i := 545) (by decide +kernel), by decide +kernel⟩
theorem gf_X3_78 (hG : bd_OK G cc nL RX3 n fr lo rt) (hn : 55 < n) (hd : decode cc pc = .ok (.getfield 78, 3)) (kk : bd_WF G out F σ (pc + 3) lv (.ref (bd_ad (g_E G) 77) :: st)) : bd_WF G out F σ pc lv (.ref (bd_ad (g_E G) 55) :: st) :=
  rr_get (v := .ref (bd_ad (g_E G) 77)) (ci := 3) hG rfl hn rfl (by decide) inX3 24 (by decide) wd_X3_78 rfl rfl hd kk
theorem wd_X3_81 : bd_in (.fieldLink RX3 81 RX3 (TX3 25).2.1 (TX3 25).2.2.1) := ⟨List.mem_of_getElem? (i := 546) (by decide +kernel), by decide +kernel⟩
theorem gf_X3_81 (hG : bd_OK G cc nL RX3 n fr lo rt) (hn : 55 < n) (hd : decode cc pc = .ok (.getfield 81, 3)) (kk : bd_WF G out F σ (pc + 3) lv (.ref (bd_ad (g_E G) 78) :: st)) : bd_WF G out F σ pc lv (.ref (bd_ad (g_E G) 55) :: st) :=
  rr_get (v := .ref (bd_ad (g_E G) 78)) (ci := 3) hG rfl hn rfl (by decide) inX3 25 (by decide) wd_X3_81 rfl rfl hd kk
theorem wd_X3_84 : bd_in (.fieldLink RX3 84 RX3 (TX3 26).2.1 (TX3 26).2.2.1) := ⟨List.mem_of_getElem? (i := 547) (by decide +kernel), by decide +kernel⟩
theorem gf_X3_84 (hG : bd_OK G cc nL RX3 n fr lo rt) (hn : 55 < n) (hd : decode cc pc = .ok (.getfield 84, 3)) (kk : bd_WF G out F σ (pc + 3) lv (.ref (bd_ad (g_E G) 79) :: st)) : bd_WF G out F σ pc lv (.ref (bd_ad (g_E G) 55) :: st) :=
  rr_get (v := .ref (bd_ad (g_E G) 79)) (ci := 3) hG rfl hn rfl (by decide) inX3 26 (by decide) wd_X3_84 rfl rfl hd kk
theorem wd_X3_87 : bd_in (.fieldLink RX3 87 RX3 (TX3 27).2.1 (TX3 27).2.2.1) := ⟨List.mem_of_getElem? (i := 548) (by decide +kernel), by decide +kernel⟩
theorem gf_X3_87 (hG : bd_OK G cc nL RX3 n fr lo rt) (hn : 55 < n) (hd : decode cc pc = .ok (.getfield 87, 3)) (kk : bd_WF G out F σ (pc + 3) lv (.ref (bd_ad (g_E G) 80) :: st)) : bd_WF G out F σ pc lv (.ref (bd_ad (g_E G) 55) :: st) :=
  rr_get (v := .ref (bd_ad (g_E G) 80)) (ci := 3) hG rfl hn rfl (by decide) inX3 27 (by decide) wd_X3_87 rfl rfl hd kk
theorem wd_X3_90 : bd_in (.fieldLink RX3 90 RX3 (TX3 28).2.1 (TX3 28).2.2.1) := ⟨List.mem_of_getElem? (i := 549) (by decide +kernel), by decide +kernel⟩
theorem gf_X3_90 (hG : bd_OK G cc nL RX3 n fr lo rt) (hn : 55 < n) (hd : decode cc pc = .ok (.getfield 90, 3)) (kk : bd_WF G out F σ (pc + 3) lv (.ref (bd_ad (g_E G) 81) :: st)) : bd_WF G out F σ pc lv (.ref (bd_ad (g_E G) 55) :: st) :=
  rr_get (v := .ref (bd_ad (g_E G) 81)) (ci := 3) hG rfl hn rfl (by decide) inX3 28 (by decide) wd_X3_90 rfl rfl hd kk
theorem wd_X3_93 : bd_in (.fieldLink RX3 93 RX3 (TX3 30).2.1 (TX3 30).2.2.1) := ⟨List.mem_of_getElem? (i := 551) (by decide +kernel), by decide +kernel⟩
theorem gf_X3_93 (hG : bd_OK G cc nL RX3 n fr lo rt) (hn : 55 < n) {k : Int32 → Option α} (hd : decode cc pc = .ok (.getfield 93, 3)) (kk : ∀ z, bd_WF G out (k z) σ (pc + 3) lv (.int z :: st)) : bd_WF G out (bd_lt (σ 55 30) k) σ pc lv (.ref (bd_ad (g_E G) 55) :: st) :=
  rr_get (v := .int (σ 55 30)) (ci := 3) hG rfl hn rfl (by decide) inX3 30 (by decide) wd_X3_93 rfl rfl hd (kk _)
theorem wd_X3_96 : bd_in (.fieldLink RX3 96 RX3 (TX3 31).2.1 (TX3 31).2.2.1) := ⟨List.mem_of_getElem? (i := 552) (by decide +kernel), by decide +kernel⟩
theorem gf_X3_96 (hG : bd_OK G cc nL RX3 n fr lo rt) (hn : 55 < n) (hd : decode cc pc = .ok (.getfield 96, 3)) (kk : bd_WF G out F σ (pc + 3) lv (.ref (bd_ad (g_E G) 82) :: st)) : bd_WF G out F σ pc lv (.ref (bd_ad (g_E G) 55) :: st) :=
  rr_get (v := .ref (bd_ad (g_E G) 82)) (ci := 3) hG rfl hn rfl (by decide) inX3 31 (by decide) wd_X3_96 rfl rfl hd kk
theorem wd_X3_99 : bd_in (.fieldLink RX3 99 RX3 (TX3 32).2.1 (TX3 32).2.2.1) := ⟨List.mem_of_getElem? (i := 553) (by decide +kernel), by decide +kernel⟩
theorem gf_X3_99 (hG : bd_OK G cc nL RX3 n fr lo rt) (hn : 55 < n) (hd : decode cc pc = .ok (.getfield 99, 3)) (kk : bd_WF G out F σ (pc + 3) lv (.ref (bd_ad (g_E G) 83) :: st)) : bd_WF G out F σ pc lv (.ref (bd_ad (g_E G) 55) :: st) :=
  rr_get (v := .ref (bd_ad (g_E G) 83)) (ci := 3) hG rfl hn rfl (by decide) inX3 32 (by decide) wd_X3_99 rfl rfl hd kk
theorem bd_se_X0_18 (E : bd_E) (r : Nat) (x : Int32) (f : Nat → Int32) : (bd_fs E f r 0).set 2 (.int x) = bd_fs E (upd f 2 x) r 0 := by simp [bd_fs, upd]
theorem pf_X0_18 {r : Nat} (hr : bd_isL r) {x : Int32} (hG : bd_OK G cc nL RX0 n fr lo rt) (hn : 10 ≤ n) {k : bd_S → Option α} (hd : decode cc pc = .ok (.putfield 18, 3)) (kk : ∀ z : bd_S, bd_WF G out (k z) z (pc + 3) lv st) : bd_WF G out (bd_lt (bd_st σ r 2 x) k) σ pc lv (.int x :: .ref (bd_ad (g_E G) r) :: st) :=
  rr_put (ci := 0) (ty := .int) hG (bd_kL0 hr) (bd_bL0 hr hn) rfl (by decide) inX0 tyX0_ok nmX0 2 (by decide) wd_X0_18 rfl rfl (by decide +kernel) rfl rfl (fun _ => Nat.le_of_ble_eq_true rfl) (bd_se_X0_18 (g_E G) r x) hd kk
theorem bd_se_X0_22 (E : bd_E) (r : Nat) (x : Int32) (f : Nat → Int32) : (bd_fs E f r 0).set 3 (.int x) = bd_fs E (upd f 3 x) r 0 := by simp [bd_fs, upd]
theorem pf_X0_22 {r : Nat} (hr : bd_isL r) {x : Int32} (hG : bd_OK G cc nL RX0 n fr lo rt) (hn : 10 ≤ n) {k : bd_S → Option α} (hd : decode cc pc = .ok (.putfield 22, 3)) (kk : ∀ z : bd_S, bd_WF G out (k z) z (pc + 3) lv st) : bd_WF G out (bd_lt (bd_st σ r 3 x) k) σ pc lv (.int x :: .ref (bd_ad (g_E G) r) :: st) :=
  rr_put (ci := 0) (ty := .int) hG (bd_kL0 hr) (bd_bL0 hr hn) rfl (by decide) inX0 tyX0_ok nmX0 3 (by decide) wd_X0_22 rfl rfl (by decide +kernel) rfl rfl (fun _ => Nat.le_of_ble_eq_true rfl) (bd_se_X0_22 (g_E G) r x) hd kk
theorem bd_se_X1_37 (E : bd_E) (r : Nat) (x : Int32) (f : Nat → Int32) : (bd_fs E f r 1).set 8 (.int x) = bd_fs E (upd f 8 x) r 1 := by simp [bd_fs, upd]
theorem pf_X1_37 {r : Nat} (hr : bd_isS r) {x : Int32} (hG : bd_OK G cc nL RX1 n fr lo rt) (hn : 55 ≤ n) {k : bd_S → Option α} (hd : decode cc pc = .ok (.putfield 37, 3)) (kk : ∀ z : bd_S, bd_WF G out (k z) z (pc + 3) lv st) : bd_WF G out (bd_lt (bd_st σ r 8 x) k) σ pc lv (.int x :: .ref (bd_ad (g_E G) r) :: st) :=
  rr_put (ci := 1) (ty := .int) hG (bd_kS0 hr) (bd_bS0 hr hn) rfl (by decide) inX1 tyX1_ok nmX1 8 (by decide) wd_X1_37 rfl rfl (by decide +kernel) rfl rfl (fun _ => Nat.le_of_ble_eq_true rfl) (bd_se_X1_37 (g_E G) r x) hd kk
theorem bd_se_X2_108 (E : bd_E) (r : Nat) (x : Int32) (f : Nat → Int32) : (bd_fs E f r 2).set 14 (.int x) = bd_fs E (upd f 14 x) r 2 := by simp [bd_fs, upd]
theorem pf_X2_108 {x : Int32} (hG : bd_OK G cc nL RX2 n fr lo rt) (hn : 0 < n) {k : bd_S → Option α} (hd : decode cc pc = .ok (.putfield 108, 3)) (kk : ∀ z : bd_S, bd_WF G out (k z) z (pc + 3) lv st) : bd_WF G out (bd_lt (bd_st σ 0 14 x) k) σ pc lv (.int x :: .ref (bd_ad (g_E G) 0) :: st) :=
  rr_put (ci := 2) (ty := .int) hG rfl hn rfl (by decide) inX2 tyX2_ok nmX2 14 (by decide) wd_X2_108 rfl rfl (by decide +kernel) rfl rfl (fun _ => Nat.le_of_ble_eq_true rfl) (bd_se_X2_108 (g_E G) 0 x) hd kk
theorem bd_se_X2_126 (E : bd_E) (r : Nat) (x : Int32) (f : Nat → Int32) : (bd_fs E f r 2).set 15 (.int x) = bd_fs E (upd f 15 x) r 2 := by simp [bd_fs, upd]
theorem pf_X2_126 {x : Int32} (hG : bd_OK G cc nL RX2 n fr lo rt) (hn : 0 < n) {k : bd_S → Option α} (hd : decode cc pc = .ok (.putfield 126, 3)) (kk : ∀ z : bd_S, bd_WF G out (k z) z (pc + 3) lv st) : bd_WF G out (bd_lt (bd_st σ 0 15 x) k) σ pc lv (.int x :: .ref (bd_ad (g_E G) 0) :: st) :=
  rr_put (ci := 2) (ty := .int) hG rfl hn rfl (by decide) inX2 tyX2_ok nmX2 15 (by decide) wd_X2_126 rfl rfl (by decide +kernel) rfl rfl (fun _ => Nat.le_of_ble_eq_true rfl) (bd_se_X2_126 (g_E G) 0 x) hd kk
theorem bd_se_X2_145 (E : bd_E) (r : Nat) (x : Int32) (f : Nat → Int32) : (bd_fs E f r 1).set 8 (.int x) = bd_fs E (upd f 8 x) r 1 := by simp [bd_fs, upd]
theorem pf_X2_145 {r : Nat} (hr : bd_isS r) {x : Int32} (hG : bd_OK G cc nL RX2 n fr lo rt) (hn : 55 ≤ n) {k : bd_S → Option α} (hd : decode cc pc = .ok (.putfield 145, 3)) (kk : ∀ z : bd_S, bd_WF G out (k z) z (pc + 3) lv st) : bd_WF G out (bd_lt (bd_st σ r 8 x) k) σ pc lv (.int x :: .ref (bd_ad (g_E G) r) :: st) :=
  rr_putN (ci := 1) (ty := .int) hG (bd_kS0 hr) (bd_bS0 hr hn) rfl (by decide) inX1 tyX1_ok nmX1 8 (by decide) wd_X2_145 rfl rfl (by decide +kernel) rfl rfl (fun _ => Nat.le_of_ble_eq_true rfl) (bd_se_X2_145 (g_E G) r x) hd kk
theorem bd_se_X2_148 (E : bd_E) (r : Nat) (x : Int32) (f : Nat → Int32) : (bd_fs E f r 1).set 9 (.int x) = bd_fs E (upd f 9 x) r 1 := by simp [bd_fs, upd]
theorem pf_X2_148 {r : Nat} (hr : bd_isS r) {x : Int32} (hG : bd_OK G cc nL RX2 n fr lo rt) (hn : 55 ≤ n) {k : bd_S → Option α} (hd : decode cc pc = .ok (.putfield 148, 3)) (kk : ∀ z : bd_S, bd_WF G out (k z) z (pc + 3) lv st) : bd_WF G out (bd_lt (bd_st σ r 9 x) k) σ pc lv (.int x :: .ref (bd_ad (g_E G) r) :: st) :=
  rr_putN (ci := 1) (ty := .int) hG (bd_kS0 hr) (bd_bS0 hr hn) rfl (by decide) inX1 tyX1_ok nmX1 9 (by decide) wd_X2_148 rfl rfl (by decide +kernel) rfl rfl (fun _ => Nat.le_of_ble_eq_true rfl) (bd_se_X2_148 (g_E G) r x) hd kk
theorem bd_se_X2_168 (E : bd_E) (r : Nat) (x : Int32) (f : Nat → Int32) : (bd_fs E f r 1).set 10 (.int x) = bd_fs E (upd f 10 x) r 1 := by simp [bd_fs, upd]
theorem pf_X2_168 {r : Nat} (hr : bd_isS r) {x : Int32} (hG : bd_OK G cc nL RX2 n fr lo rt) (hn : 55 ≤ n) {k : bd_S → Option α} (hd : decode cc pc = .ok (.putfield 168, 3)) (kk : ∀ z : bd_S, bd_WF G out (k z) z (pc + 3) lv st) : bd_WF G out (bd_lt (bd_st σ r 10 x) k) σ pc lv (.int x :: .ref (bd_ad (g_E G) r) :: st) :=
  rr_putN (ci := 1) (ty := .int) hG (bd_kS0 hr) (bd_bS0 hr hn) rfl (by decide) inX1 tyX1_ok nmX1 10 (by decide) wd_X2_168 rfl rfl (by decide +kernel) rfl rfl (fun _ => Nat.le_of_ble_eq_true rfl) (bd_se_X2_168 (g_E G) r x) hd kk
theorem bd_se_X2_53 (E : bd_E) (r : Nat) (x : Int32) (f : Nat → Int32) : (bd_fs E f r 2).set 13 (.int x) = bd_fs E (upd f 13 x) r 2 := by simp [bd_fs, upd]
theorem pf_X2_53 {x : Int32} (hG : bd_OK G cc nL RX2 n fr lo rt) (hn : 0 < n) {k : bd_S → Option α} (hd : decode cc pc = .ok (.putfield 53, 3)) (kk : ∀ z : bd_S, bd_WF G out (k z) z (pc + 3) lv st) : bd_WF G out (bd_lt (bd_st σ 0 13 x) k) σ pc lv (.int x :: .ref (bd_ad (g_E G) 0) :: st) :=
  rr_put (ci := 2) (ty := .int) hG rfl hn rfl (by decide) inX2 tyX2_ok nmX2 13 (by decide) wd_X2_53 rfl rfl (by decide +kernel) rfl rfl (fun _ => Nat.le_of_ble_eq_true rfl) (bd_se_X2_53 (g_E G) 0 x) hd kk
theorem bd_se_X2_72 (E : bd_E) (r : Nat) (x : Int32) (f : Nat → Int32) : (bd_fs E f r 2).set 12 (.int x) = bd_fs E (upd f 12 x) r 2 := by simp [bd_fs, upd]
theorem pf_X2_72 {x : Int32} (hG : bd_OK G cc nL RX2 n fr lo rt) (hn : 0 < n) {k : bd_S → Option α} (hd : decode cc pc = .ok (.putfield 72, 3)) (kk : ∀ z : bd_S, bd_WF G out (k z) z (pc + 3) lv st) : bd_WF G out (bd_lt (bd_st σ 0 12 x) k) σ pc lv (.int x :: .ref (bd_ad (g_E G) 0) :: st) :=
  rr_put (ci := 2) (ty := .int) hG rfl hn rfl (by decide) inX2 tyX2_ok nmX2 12 (by decide) wd_X2_72 rfl rfl (by decide +kernel) rfl rfl (fun _ => Nat.le_of_ble_eq_true rfl) (bd_se_X2_72 (g_E G) 0 x) hd kk
theorem bd_se_X3_115 (E : bd_E) (r : Nat) (x : Int32) (f : Nat → Int32) : (bd_fs E f r 3).set 12 (.int x) = bd_fs E (upd f 12 x) r 3 := by simp [bd_fs, upd]
theorem pf_X3_115 {x : Int32} (hG : bd_OK G cc nL RX3 n fr lo rt) (hn : 55 < n) {k : bd_S → Option α} (hd : decode cc pc = .ok (.putfield 115, 3)) (kk : ∀ z : bd_S, bd_WF G out (k z) z (pc + 3) lv st) : bd_WF G out (bd_lt (bd_st σ 55 12 x) k) σ pc lv (.int x :: .ref (bd_ad (g_E G) 55) :: st) :=
  rr_put (ci := 3) (ty := .int) hG rfl hn rfl (by decide) inX3 tyX3_ok nmX3 12 (by decide) wd_X3_115 rfl rfl (by decide +kernel) rfl rfl (fun _ => Nat.le_of_ble_eq_true rfl) (bd_se_X3_115 (g_E G) 55 x) hd kk
theorem bd_se_X3_122 (E : bd_E) (r : Nat) (x : Int32) (f : Nat → Int32) : (bd_fs E f r 3).set 29 (.int x) = bd_fs E (upd f 29 x) r 3 := by simp [bd_fs, upd]
theorem pf_X3_122 {x : Int32} (hG : bd_OK G cc nL RX3 n fr lo rt) (hz : narrow .boolean (.int x) = .int x) (hz2 : fits .boolean (.int x) = true) (hn : 55 < n) {k : bd_S → Option α} (hd : decode cc pc = .ok (.putfield 122, 3)) (kk : ∀ z : bd_S, bd_WF G out (k z) z (pc + 3) lv st) : bd_WF G out (bd_lt (bd_st σ 55 29 x) k) σ pc lv (.int x :: .ref (bd_ad (g_E G) 55) :: st) :=
  rr_put (ci := 3) (ty := .boolean) hG rfl hn rfl (by decide) inX3 tyX3_ok nmX3 29 (by decide) wd_X3_122 rfl rfl (by decide +kernel) hz hz2 (fun _ => Nat.le_of_ble_eq_true rfl) (bd_se_X3_122 (g_E G) 55 x) hd kk
theorem bd_se_X3_140 (E : bd_E) (r : Nat) (x : Int32) (f : Nat → Int32) : (bd_fs E f r 3).set 0 (.int x) = bd_fs E (upd f 0 x) r 3 := by simp [bd_fs, upd]
theorem pf_X3_140 {x : Int32} (hG : bd_OK G cc nL RX3 n fr lo rt) (hn : 55 < n) {k : bd_S → Option α} (hd : decode cc pc = .ok (.putfield 140, 3)) (kk : ∀ z : bd_S, bd_WF G out (k z) z (pc + 3) lv st) : bd_WF G out (bd_lt (bd_st σ 55 0 x) k) σ pc lv (.int x :: .ref (bd_ad (g_E G) 55) :: st) :=
  rr_put (ci := 3) (ty := .int) hG rfl hn rfl (by decide) inX3 tyX3_ok nmX3 0 (by decide) wd_X3_140 rfl rfl (by decide +kernel) rfl rfl (fun _ => Nat.le_of_ble_eq_true rfl) (bd_se_X3_140 (g_E G) 55 x) hd kk
theorem bd_se_X3_184 (E : bd_E) (r : Nat) (x : Int32) (f : Nat → Int32) : (bd_fs E f r 3).set 34 (.int x) = bd_fs E (upd f 34 x) r 3 := by simp [bd_fs, upd]
theorem pf_X3_184 {x : Int32} (hG : bd_OK G cc nL RX3 n fr lo rt) (hn : 55 < n) {k : bd_S → Option α} (hd : decode cc pc = .ok (.putfield 184, 3)) (kk : ∀ z : bd_S, bd_WF G out (k z) z (pc + 3) lv st) : bd_WF G out (bd_lt (bd_st σ 55 34 x) k) σ pc lv (.int x :: .ref (bd_ad (g_E G) 55) :: st) :=
  rr_put (ci := 3) (ty := .int) hG rfl hn rfl (by decide) inX3 tyX3_ok nmX3 34 (by decide) wd_X3_184 rfl rfl (by decide +kernel) rfl rfl (fun _ => Nat.le_of_ble_eq_true rfl) (bd_se_X3_184 (g_E G) 55 x) hd kk
theorem bd_se_X3_188 (E : bd_E) (r : Nat) (x : Int32) (f : Nat → Int32) : (bd_fs E f r 3).set 35 (.int x) = bd_fs E (upd f 35 x) r 3 := by simp [bd_fs, upd]
theorem pf_X3_188 {x : Int32} (hG : bd_OK G cc nL RX3 n fr lo rt) (hn : 55 < n) {k : bd_S → Option α} (hd : decode cc pc = .ok (.putfield 188, 3)) (kk : ∀ z : bd_S, bd_WF G out (k z) z (pc + 3) lv st) : bd_WF G out (bd_lt (bd_st σ 55 35 x) k) σ pc lv (.int x :: .ref (bd_ad (g_E G) 55) :: st) :=
  rr_put (ci := 3) (ty := .int) hG rfl hn rfl (by decide) inX3 tyX3_ok nmX3 35 (by decide) wd_X3_188 rfl rfl (by decide +kernel) rfl rfl (fun _ => Nat.le_of_ble_eq_true rfl) (bd_se_X3_188 (g_E G) 55 x) hd kk
theorem bd_se_X3_19 (E : bd_E) (r : Nat) (x : Int32) (f : Nat → Int32) : (bd_fs E f r 3).set 4 (.int x) = bd_fs E (upd f 4 x) r 3 := by simp [bd_fs, upd]
theorem pf_X3_19 {x : Int32} (hG : bd_OK G cc nL RX3 n fr lo rt) (hn : 55 < n) {k : bd_S → Option α} (hd : decode cc pc = .ok (.putfield 19, 3)) (kk : ∀ z : bd_S, bd_WF G out (k z) z (pc + 3) lv st) : bd_WF G out (bd_lt (bd_st σ 55 4 x) k) σ pc lv (.int x :: .ref (bd_ad (g_E G) 55) :: st) :=
  rr_put (ci := 3) (ty := .int) hG rfl hn rfl (by decide) inX3 tyX3_ok nmX3 4 (by decide) wd_X3_19 rfl rfl (by decide +kernel) rfl rfl (fun _ => Nat.le_of_ble_eq_true rfl) (bd_se_X3_19 (g_E G) 55 x) hd kk
theorem bd_se_X3_93 (E : bd_E) (r : Nat) (x : Int32) (f : Nat → Int32) : (bd_fs E f r 3).set 30 (.int x) = bd_fs E (upd f 30 x) r 3 := by simp [bd_fs, upd]
theorem pf_X3_93 {x : Int32} (hG : bd_OK G cc nL RX3 n fr lo rt) (hn : 55 < n) {k : bd_S → Option α} (hd : decode cc pc = .ok (.putfield 93, 3)) (kk : ∀ z : bd_S, bd_WF G out (k z) z (pc + 3) lv st) : bd_WF G out (bd_lt (bd_st σ 55 30 x) k) σ pc lv (.int x :: .ref (bd_ad (g_E G) 55) :: st) :=
  rr_put (ci := 3) (ty := .int) hG rfl hn rfl (by decide) inX3 tyX3_ok nmX3 30 (by decide) wd_X3_93 rfl rfl (by decide +kernel) rfl rfl (fun _ => Nat.le_of_ble_eq_true rfl) (bd_se_X3_93 (g_E G) 55 x) hd kk
end BDF
end
section
/-! the methods as programs over the numbers -/
def f_X2_noDay (p0 : Int32) (s_ : bd_S) : Option (Int32 × bd_S) := (if p0 < 0 then bd_zr 1 s_ else (if p0 < 20 then bd_zr 0 s_ else bd_zr 1 s_))
def f_X2_beyond (p0 : Int32) (p1 : Int32) (s_ : bd_S) : Option (Int32 × bd_S) := bd_lt (-p1 : Int32) (fun z2 => (if p0 < z2 then bd_zr 1 s_ else (if p0 ≤ p1 then bd_zr 0 s_ else bd_zr 1 s_)))
def f_X0_copyFrom (L0 : Nat) (L1 : Nat) (s_ : bd_S) : Option (Unit × bd_S) := bd_cp s_ (L1 + 1) 0 (L0 + 1) 0 20 20 (fun s12 => bd_cp s12 (L1 + 2) 0 (L0 + 2) 0 20 20 (fun s27 => bd_lt (s27 L1 2) (fun z32 => bd_lt (bd_st s27 L0 2 z32) (fun s35 => bd_lt (s35 L1 3) (fun z40 => bd_lt (bd_st s35 L0 3 z40) (fun s43 => some ((), s43)))))))
def f_X0_cut (L0 : Nat) (p1 : Int32) (p2 : Int32) (p3 : Int32) (s_ : bd_S) : Option (Unit × bd_S) := bd_rd s_ (L0 + 1) p1 20 (fun z10 => bd_lt (if z10 < p2 then p2 else z10 : Int32) (fun z12 => bd_wr s_ (L0 + 1) p1 20 z12 (fun s15 => bd_rd s15 (L0 + 2) p1 20 (fun z26 => bd_lt (if p3 < z26 then p3 else z26 : Int32) (fun z28 => bd_wr s15 (L0 + 2) p1 20 z28 (fun s31 => some ((), s31)))))))
def f_J9_floorDiv_7cf53 (p0 : Int32) (p1 : Int32) (s_ : bd_S) : Option (Int32 × bd_S) := bd_dv p0 p1 (fun z2 => bd_lt (p0 ^^^ p1 : Int32) (fun z6 => (if 0 ≤ z6 then some (z2, s_) else bd_lt (z2 * p1 : Int32) (fun z12 => (if z12 = p0 then some (z2, s_) else bd_lt (z2 - 1 : Int32) (fun z19 => some (z19, s_)))))))
def f_X2_cutUp (p0 : Int32) (p1 : Int32) (s_ : bd_S) : Option (Int32 × bd_S) := bd_lt (-p0 : Int32) (fun z1 => bd_b (f_J9_floorDiv_7cf53 z1 p1 s_) (fun z3 s3 => bd_lt (-z3 : Int32) (fun z6 => some (z6, s3))))
def f_X0_narrowGain_73 (k12 : Int32 → Int32 → Nat → bd_S → Option (Unit × bd_S)) (x5 : Int32) (x3 : Int32) (x2 : Int32) (x1 : Int32) (L0 : Nat) (s_ : bd_S) : Option (Unit × bd_S) := bd_lt (s_ L0 3) (fun z76 => bd_lt (z76 * x3 : Int32) (fun z80 => (if z80 ≤ x5 then bd_lt (x2 + 1 : Int32) (fun z94 => k12 z94 x1 L0 s_) else bd_b (f_J9_floorDiv_7cf53 x5 x3 s_) (fun z88 s88 => bd_lt (bd_st s88 L0 3 z88) (fun s91 => bd_lt (x2 + 1 : Int32) (fun z94 => k12 z94 x1 L0 s91))))))
def f_X0_narrowGain_12 (k100 : Int32 → Nat → bd_S → Option (Unit × bd_S)) : Nat → Int32 → Int32 → Nat → bd_S → Option (Unit × bd_S)
  | 0, _, _, _, _ => none
  | n_ + 1, x2, x1, L0, s_ => (if 20 ≤ x2 then k100 x1 L0 s_ else bd_lt (x2 - x1 : Int32) (fun z20 => bd_rd s_ (L0 + 1) x2 20 (fun z27 => bd_rd s_ (L0 + 2) x1 20 (fun z33 => bd_lt (z27 - z33 : Int32) (fun z34 => bd_rd s_ (L0 + 2) x2 20 (fun z42 => bd_rd s_ (L0 + 1) x1 20 (fun z48 => bd_lt (z42 - z48 : Int32) (fun z49 => bd_lt (s_ L0 2) (fun z55 => bd_lt (z55 * z20 : Int32) (fun z59 => (if z34 ≤ z59 then f_X0_narrowGain_73 (f_X0_narrowGain_12 k100 n_) z49 z20 x2 x1 L0 s_ else bd_b (f_X2_cutUp z34 z20 s_) (fun z67 s67 => bd_lt (bd_st s67 L0 2 z67) (fun s70 => f_X0_narrowGain_73 (f_X0_narrowGain_12 k100 n_) z49 z20 x2 x1 L0 s70)))))))))))))
def f_X0_narrowGain_2 : Nat → Int32 → Nat → bd_S → Option (Unit × bd_S)
  | 0, _, _, _ => none
  | n_ + 1, x1, L0, s_ => (if 20 ≤ x1 then some ((), s_) else bd_lt (x1 + 1 : Int32) (fun z10 => f_X0_narrowGain_12 (fun x1e L0e e100 => bd_lt (x1e + 1 : Int32) (fun z100 => f_X0_narrowGain_2 n_ z100 L0e e100)) FU_ z10 x1 L0 s_))
def f_X0_narrowGain (L0 : Nat) (s_ : bd_S) : Option (Unit × bd_S) := f_X0_narrowGain_2 FU_ 0 L0 s_
def f_X0_narrowDays_2 (k45 : Nat → bd_S → Option (Unit × bd_S)) : Nat → Int32 → Nat → bd_S → Option (Unit × bd_S)
  | 0, _, _, _ => none
  | n_ + 1, x1, L0, s_ => (if 20 ≤ x1 then k45 L0 s_ else bd_lt (x1 - 1 : Int32) (fun z16 => bd_rd s_ (L0 + 1) z16 20 (fun z17 => bd_lt (s_ L0 2) (fun z19 => bd_lt (z17 + z19 : Int32) (fun z22 => bd_lt (x1 - 1 : Int32) (fun z29 => bd_rd s_ (L0 + 2) z29 20 (fun z30 => bd_lt (s_ L0 3) (fun z32 => bd_lt (z30 + z32 : Int32) (fun z35 => bd_b (f_X0_cut L0 x1 z22 z35 s_) (fun _ s36 => bd_lt (x1 + 1 : Int32) (fun z39 => f_X0_narrowDays_2 k45 n_ z39 L0 s36)))))))))))
def f_X0_narrowDays_48 : Nat → Int32 → Nat → bd_S → Option (Unit × bd_S)
  | 0, _, _, _ => none
  | n_ + 1, x1, Lv0, s_ => (if x1 < 0 then some ((), s_) else bd_lt (x1 + 1 : Int32) (fun z60 => bd_rd s_ (Lv0 + 1) z60 20 (fun z61 => bd_lt (s_ Lv0 3) (fun z63 => bd_lt (z61 - z63 : Int32) (fun z66 => bd_lt (x1 + 1 : Int32) (fun z73 => bd_rd s_ (Lv0 + 2) z73 20 (fun z74 => bd_lt (s_ Lv0 2) (fun z76 => bd_lt (z74 - z76 : Int32) (fun z79 => bd_b (f_X0_cut Lv0 x1 z66 z79 s_) (fun _ s80 => bd_lt (x1 + (-1) : Int32) (fun z83 => f_X0_narrowDays_48 n_ z83 Lv0 s80)))))))))))
def f_X0_narrowDays (L0 : Nat) (s_ : bd_S) : Option (Unit × bd_S) := f_X0_narrowDays_2 (fun L0e e45 => f_X0_narrowDays_48 FU_ 18 L0e e45) FU_ 1 L0 s_
def f_X0_narrow_2 (k31 : Nat → bd_S → Option (Int32 × bd_S)) : Nat → Int32 → Nat → bd_S → Option (Int32 × bd_S)
  | 0, _, _, _ => none
  | n_ + 1, x1, L0, s_ => (if 20 ≤ x1 then k31 L0 s_ else bd_rd s_ (L0 + 1) x1 20 (fun z13 => bd_rd s_ (L0 + 2) x1 20 (fun z19 => (if z13 ≤ z19 then bd_lt (x1 + 1 : Int32) (fun z25 => f_X0_narrow_2 k31 n_ z25 L0 s_) else bd_zr 0 s_))))
def f_X0_narrow (L0 : Nat) (s_ : bd_S) : Option (Int32 × bd_S) := f_X0_narrow_2 (fun L0e e31 => bd_b (f_X0_narrowGain L0e e31) (fun _ s32 => bd_lt (s32 L0e 2) (fun z36 => bd_lt (s32 L0e 3) (fun z40 => (if z36 ≤ z40 then bd_b (f_X0_narrowDays L0e s32) (fun _ s49 => bd_zr 1 s49) else bd_zr 0 s32))))) FU_ 0 L0 s_
def f_X2_star (p1 : Int32) (p2 : Int32) (s_ : bd_S) : Option (Int32 × bd_S) := bd_b (f_X2_noDay p1 s_) (fun z1 s1 => (if z1 = 0 then bd_b (f_X2_beyond p2 600 s1) (fun z13 s13 => (if z13 = 0 then bd_lt (s13 0 12) (fun z23 => (if z23 < 20 then bd_b (f_X0_copyFrom 4 1 s13) (fun _ s42 => bd_lt (s42 0 13) (fun z52 => bd_lt (p2 - z52 : Int32) (fun z55 => bd_lt (s42 0 13) (fun z58 => bd_lt (p2 + z58 : Int32) (fun z61 => bd_b (f_X0_cut 4 p1 z55 z61 s42) (fun _ s62 => bd_b (f_X0_narrow 4 s62) (fun z69 s69 => (if z69 = 0 then some ((-5), s69) else bd_b (f_X0_copyFrom 1 4 s69) (fun _ s86 => bd_lt (s86 0 12) (fun z91 => bd_lt (z91 + 1 : Int32) (fun z95 => bd_lt (bd_st s86 0 12 z95) (fun s96 => bd_lt (s96 0 12) (fun z100 => some (z100, s96)))))))))))))) else some ((-4), s13))) else some ((-2), s13))) else some ((-1), s1)))
def f_X2_outside (p0 : Int32) (p1 : Int32) (p2 : Int32) (s_ : bd_S) : Option (Int32 × bd_S) := (if p0 < p1 then bd_zr 1 s_ else (if p0 ≤ p2 then bd_zr 0 s_ else bd_zr 1 s_))
def f_X2_care (p1 : Int32) (s_ : bd_S) : Option (Int32 × bd_S) := bd_b (f_X2_outside p1 0 9 s_) (fun z4 s4 => (if z4 = 0 then bd_lt (s4 0 13) (fun z14 => bd_lt (bd_st s4 0 13 p1) (fun s20 => some (z14, s20))) else some ((-2), s4)))
def f_X2_noEnd (p0 : Int32) (s_ : bd_S) : Option (Int32 × bd_S) := (if p0 = 0 then bd_zr 0 s_ else (if p0 = 1 then bd_zr 0 s_ else bd_zr 1 s_))
def f_X2_off (p1 : Int32) (p2 : Int32) (s_ : bd_S) : Option (Int32 × bd_S) := bd_b (f_X2_noDay p1 s_) (fun z1 s1 => (if z1 = 0 then bd_b (f_X2_noEnd p2 s1) (fun z11 s11 => (if z11 = 0 then (if p2 = 0 then bd_rd s11 2 p1 20 (fun z32 => some (z32, s11)) else bd_rd s11 3 p1 20 (fun z44 => some (z44, s11))) else some ((-100000002), s11))) else some ((-100000001), s1)))
def f_X2_rate (p1 : Int32) (s_ : bd_S) : Option (Int32 × bd_S) := bd_b (f_X2_noEnd p1 s_) (fun z1 s1 => (if z1 = 0 then (if p1 = 0 then bd_lt (s1 1 2) (fun z18 => some (z18, s1)) else bd_lt (s1 1 3) (fun z28 => some (z28, s1))) else some ((-100000002), s1)))
def f_X2_slow (p1 : Int32) (p2 : Int32) (p3 : Int32) (s_ : bd_S) : Option (Int32 × bd_S) := bd_b (f_X2_outside p1 0 1 s_) (fun z3 s3 => (if z3 = 0 then bd_b (f_X2_outside p2 0 50 s3) (fun z13 s13 => (if z13 = 0 then bd_b (f_X2_outside p3 p2 50 s13) (fun z23 s23 => (if z23 = 0 then bd_rd s23 10 p1 2 (fun z39 => bd_lt (100 * z39 : Int32) (fun z40 => bd_rd s23 11 p1 2 (fun z46 => bd_lt (z40 + z46 : Int32) (fun z47 => bd_wr s23 10 p1 2 p2 (fun s56 => bd_wr s56 11 p1 2 p3 (fun s63 => some (z47, s63))))))) else some ((-2), s23))) else some ((-2), s13))) else some ((-2), s3)))
def f_X2_slip (p1 : Int32) (p2 : Int32) (s_ : bd_S) : Option (Int32 × bd_S) := bd_b (f_X2_noDay p1 s_) (fun z1 s1 => (if z1 = 0 then bd_b (f_X2_beyond p2 60 s1) (fun z13 s13 => (if z13 = 0 then bd_rd s13 12 p1 20 (fun z27 => bd_wr s13 12 p1 20 p2 (fun s35 => some (z27, s35))) else some ((-100000002), s13))) else some ((-100000001), s1)))
def f_X2_bitOf (p0 : Int32) (p1 : Int32) (s_ : bd_S) : Option (Int32 × bd_S) := bd_lt (p0 >>> (p1 &&& 31) : Int32) (fun z2 => bd_lt (z2 &&& 1 : Int32) (fun z4 => some (z4, s_)))
def f_X2_withBit (p0 : Int32) (p1 : Int32) (p2 : Int32) (s_ : bd_S) : Option (Int32 × bd_S) := (if p2 = 0 then bd_lt (1 <<< (p1 &&& 31) : Int32) (fun z15 => bd_lt (z15 ^^^ (-1) : Int32) (fun z17 => bd_lt (p0 &&& z17 : Int32) (fun z18 => some (z18, s_)))) else bd_lt (1 <<< (p1 &&& 31) : Int32) (fun z7 => bd_lt (p0 ||| z7 : Int32) (fun z8 => some (z8, s_))))
def f_X2_back (p1 : Int32) (p2 : Int32) (s_ : bd_S) : Option (Int32 × bd_S) := bd_b (f_X2_noDay p1 s_) (fun z1 s1 => (if z1 = 0 then bd_lt (s1 0 14) (fun z10 => bd_b (f_X2_bitOf z10 p1 s1) (fun z14 s14 => bd_lt (s14 0 14) (fun z20 => bd_b (f_X2_withBit z20 p1 p2 s14) (fun z25 s25 => bd_lt (bd_st s25 0 14 z25) (fun s28 => some (z14, s28)))))) else some ((-1), s1)))
def f_X2_middleOff (p1 : Int32) (s_ : bd_S) : Option (Int32 × bd_S) := bd_rd s_ 2 p1 20 (fun z8 => bd_rd s_ 3 p1 20 (fun z17 => bd_lt (z8 + z17 : Int32) (fun z18 => bd_b (f_J9_floorDiv_7cf53 z18 2 s_) (fun z20 s20 => some (z20, s20)))))
def f_X2_greatestLate (p1 : Int32) (s_ : bd_S) : Option (Int32 × bd_S) := bd_b (f_X2_middleOff p1 s_) (fun z2 s2 => bd_rd s2 2 p1 20 (fun z13 => bd_lt (z2 - z13 : Int32) (fun z14 => bd_rd s2 11 0 2 (fun z20 => bd_lt (z14 + z20 : Int32) (fun z21 => bd_rd s2 11 1 2 (fun z27 => bd_lt (z21 + z27 : Int32) (fun z28 => bd_rd s2 12 p1 20 (fun z34 => bd_lt (z28 + z34 : Int32) (fun z35 => some (z35, s2))))))))))
def f_X2_leastLate (p1 : Int32) (s_ : bd_S) : Option (Int32 × bd_S) := bd_b (f_X2_middleOff p1 s_) (fun z2 s2 => bd_rd s2 3 p1 20 (fun z13 => bd_lt (z2 - z13 : Int32) (fun z14 => bd_rd s2 10 0 2 (fun z20 => bd_lt (z14 + z20 : Int32) (fun z21 => bd_rd s2 10 1 2 (fun z27 => bd_lt (z21 + z27 : Int32) (fun z28 => bd_rd s2 12 p1 20 (fun z34 => bd_lt (z28 + z34 : Int32) (fun z35 => some (z35, s2))))))))))
def f_X2_late (p1 : Int32) (p2 : Int32) (s_ : bd_S) : Option (Int32 × bd_S) := bd_b (f_X2_noDay p1 s_) (fun z1 s1 => (if z1 = 0 then bd_b (f_X2_noEnd p2 s1) (fun z11 s11 => (if z11 = 0 then (if p2 = 0 then bd_b (f_X2_leastLate p1 s11) (fun z26 s26 => some (z26, s26)) else bd_b (f_X2_greatestLate p1 s11) (fun z34 s34 => some (z34, s34))) else some ((-100000002), s11))) else some ((-100000001), s1)))
def f_X2_ship (s_ : bd_S) : Option (Int32 × bd_S) := bd_lt (s_ 0 15) (fun z1 => (if z1 < 4 then bd_lt (s_ 0 15) (fun z13 => bd_lt (z13 + 1 : Int32) (fun z17 => bd_lt (bd_st s_ 0 15 z17) (fun s18 => bd_lt (s18 0 15) (fun z22 => bd_lt (z22 - 1 : Int32) (fun z26 => some (z26, s18)))))) else some ((-4), s_)))
def f_X2_noShip (p1 : Int32) (s_ : bd_S) : Option (Int32 × bd_S) := (if p1 < 0 then bd_zr 1 s_ else bd_lt (s_ 0 15) (fun z6 => (if p1 < z6 then bd_zr 0 s_ else bd_zr 1 s_)))
def f_X2_noClock (p1 : Int32) (p2 : Int32) (s_ : bd_S) : Option (Int32 × bd_S) := bd_b (f_X2_noShip p1 s_) (fun z2 s2 => (if z2 = 0 then (if p2 < 0 then bd_zr 1 s2 else (if p2 < 3 then bd_zr 0 s2 else bd_zr 1 s2)) else bd_zr 1 s2))
def f_X2_latestNoted (p0 : Int32) (p1 : Int32) (s_ : bd_S) : Option (Int32 × bd_S) := (if p0 = 2 then bd_lt (7 * p1 : Int32) (fun z8 => bd_lt (z8 + 3 : Int32) (fun z10 => some (z10, s_))) else (if p0 = 1 then some (1, s_) else some (2, s_)))
def f_X2_soonestNoted (p0 : Int32) (p1 : Int32) (s_ : bd_S) : Option (Int32 × bd_S) := (if p0 = 2 then bd_lt (5 * p1 : Int32) (fun z7 => bd_lt (z7 - 3 : Int32) (fun z9 => some (z9, s_))) else (if p0 = 1 then some ((-1), s_) else some ((-2), s_)))
def f_X1_note (S0 : Nat) (p1 : Int32) (p2 : Int32) (p3 : Int32) (p4 : Int32) (p5 : Int32) (s_ : bd_S) : Option (Int32 × bd_S) := bd_lt (s_ S0 8) (fun z1 => (if z1 < 12 then bd_lt (s_ S0 8) (fun z17 => bd_wr s_ (S0 + 1) z17 12 p1 (fun s21 => bd_lt (s21 S0 8) (fun z27 => bd_wr s21 (S0 + 2) z27 12 p2 (fun s31 => bd_lt (s31 S0 8) (fun z37 => bd_wr s31 (S0 + 3) z37 12 (vp_nar .boolean p3) (fun s41 => bd_lt (s41 S0 8) (fun z47 => bd_wr s41 (S0 + 4) z47 12 p4 (fun s52 => bd_lt (s52 S0 8) (fun z58 => bd_wr s52 (S0 + 5) z58 12 p5 (fun s63 => bd_lt (s63 S0 8) (fun z66 => bd_lt (z66 + 1 : Int32) (fun z70 => bd_lt (bd_st s63 S0 8 z70) (fun s71 => bd_lt (s71 S0 8) (fun z75 => some (z75, s71))))))))))))))) else some ((-4), s_)))
def f_X2_set_43 (x1 : Int32) (x2 : Int32) (x3 : Int32) (x4 : Int32) (x5 : Int32) (x6 : Int32) (t0 : Int32) (t1 : Int32) (t2 : Int32) (s_ : bd_S) : Option (Int32 × bd_S) := bd_b (f_X2_outside t2 t1 t0 s_) (fun z43 s43 => (if z43 = 0 then bd_b (f_X2_beyond x6 9999 s43) (fun z54 s54 => (if z54 = 0 then bd_rs x1 (fun S68 => bd_b (f_X2_latestNoted x4 x5 s54) (fun z78 s78 => bd_lt (x6 - z78 : Int32) (fun z81 => bd_b (f_X2_soonestNoted x4 x5 s78) (fun z88 s88 => bd_lt (x6 - z88 : Int32) (fun z91 => bd_b (f_X1_note S68 x2 x3 1 z81 z91 s88) (fun z92 s92 => some (z92, s92))))))) else some ((-2), s54))) else some ((-2), s43)))
def f_X2_set (p1 : Int32) (p2 : Int32) (p3 : Int32) (p4 : Int32) (p5 : Int32) (p6 : Int32) (s_ : bd_S) : Option (Int32 × bd_S) := bd_b (f_X2_noClock p1 p2 s_) (fun z3 s3 => (if z3 = 0 then bd_b (f_X2_noDay p3 s3) (fun z10 s10 => (if z10 = 0 then bd_b (f_X2_outside p4 0 2 s10) (fun z22 s22 => (if z22 = 0 then (if p4 = 2 then f_X2_set_43 p1 p2 p3 p4 p5 p6 30 0 p5 s22 else f_X2_set_43 p1 p2 p3 p4 p5 p6 0 0 p5 s22) else some ((-2), s22))) else some ((-1), s10))) else some ((-1), s3)))
def f_X2_meet (p1 : Int32) (p2 : Int32) (p3 : Int32) (p4 : Int32) (p5 : Int32) (s_ : bd_S) : Option (Int32 × bd_S) := bd_b (f_X2_noClock p1 p2 s_) (fun z3 s3 => (if z3 = 0 then bd_b (f_X2_noDay p3 s3) (fun z10 s10 => (if z10 = 0 then bd_b (f_X2_beyond p4 99999 s10) (fun z22 s22 => (if z22 = 0 then bd_b (f_X2_beyond p5 9999 s22) (fun z33 s33 => (if z33 = 0 then bd_lt (4 * p5 : Int32) (fun z47 => bd_lt (p4 - z47 : Int32) (fun z48 => bd_rs p1 (fun S56 => bd_lt (z48 - 4 : Int32) (fun z63 => bd_lt (z48 + 4 : Int32) (fun z67 => bd_b (f_X1_note S56 p2 p3 0 z63 z67 s33) (fun z68 s68 => some (z68, s68))))))) else some ((-2), s33))) else some ((-2), s22))) else some ((-1), s10))) else some ((-1), s3)))
def f_X2_strike (p1 : Int32) (s_ : bd_S) : Option (Int32 × bd_S) := bd_b (f_X2_noShip p1 s_) (fun z2 s2 => (if z2 = 0 then bd_rs p1 (fun S15 => bd_lt (s2 S15 8) (fun z18 => (if 0 < z18 then bd_lt (s2 S15 8) (fun z29 => bd_lt (z29 - 1 : Int32) (fun z33 => bd_lt (bd_st s2 S15 8 z33) (fun s34 => bd_lt (s34 S15 8) (fun z38 => some (z38, s34))))) else some ((-5), s2)))) else some ((-1), s2)))
def f_X2_saw (p1 : Int32) (p2 : Int32) (p3 : Int32) (s_ : bd_S) : Option (Int32 × bd_S) := bd_b (f_X2_noShip p1 s_) (fun z2 s2 => (if z2 = 0 then bd_b (f_X2_noDay p2 s2) (fun z9 s9 => (if z9 = 0 then bd_rs p1 (fun S22 => bd_lt (s9 S22 9) (fun z27 => bd_b (f_X2_bitOf z27 p2 s9) (fun z31 s31 => bd_lt (s31 S22 9) (fun z40 => bd_b (f_X2_withBit z40 p2 p3 s31) (fun z45 s45 => bd_lt (bd_st s45 S22 9 z45) (fun s48 => some (z31, s48))))))) else some ((-1), s9))) else some ((-1), s2)))
def f_X2_clock (p1 : Int32) (p2 : Int32) (p3 : Int32) (p4 : Int32) (s_ : bd_S) : Option (Int32 × bd_S) := bd_b (f_X2_noClock p1 p2 s_) (fun z3 s3 => (if z3 = 0 then bd_b (f_X2_outside p3 0 1 s3) (fun z14 s14 => (if z14 = 0 then (if p3 = 0 then bd_b (f_X2_outside p4 0 5 s14) (fun z28 s28 => (if z28 = 0 then (if p3 = 0 then bd_rs p1 (fun S60 => bd_rd s28 (S60 + 6) p2 3 (fun z81 => bd_wr s28 (S60 + 6) p2 3 p4 (fun s89 => some (z81, s89)))) else bd_rs p1 (fun S72 => bd_rd s28 (S72 + 7) p2 3 (fun z81 => bd_wr s28 (S72 + 7) p2 3 p4 (fun s89 => some (z81, s89))))) else some ((-2), s28))) else bd_b (f_X2_outside p4 1 9 s14) (fun z42 s42 => (if z42 = 0 then (if p3 = 0 then bd_rs p1 (fun S60 => bd_rd s42 (S60 + 6) p2 3 (fun z81 => bd_wr s42 (S60 + 6) p2 3 p4 (fun s89 => some (z81, s89)))) else bd_rs p1 (fun S72 => bd_rd s42 (S72 + 7) p2 3 (fun z81 => bd_wr s42 (S72 + 7) p2 3 p4 (fun s89 => some (z81, s89))))) else some ((-2), s42)))) else some ((-2), s14))) else some ((-1), s3)))
def f_X2_warm (p1 : Int32) (p2 : Int32) (s_ : bd_S) : Option (Int32 × bd_S) := bd_b (f_X2_noDay p1 s_) (fun z1 s1 => (if z1 = 0 then bd_b (f_X2_outside p2 0 9 s1) (fun z13 s13 => (if z13 = 0 then bd_rd s13 13 p1 20 (fun z27 => bd_wr s13 13 p1 20 p2 (fun s35 => some (z27, s35))) else some ((-2), s13))) else some ((-1), s1)))
def f_X0_open_2 (k29 : Nat → Int32 → bd_S → Option (Unit × bd_S)) : Nat → Int32 → Nat → Int32 → Int32 → bd_S → Option (Unit × bd_S)
  | 0, _, _, _, _, _ => none
  | n_ + 1, x3, L0, x1, x2, s_ => (if 20 ≤ x3 then k29 L0 x2 s_ else bd_lt (-x1 : Int32) (fun z14 => bd_wr s_ (L0 + 1) x3 20 z14 (fun s15 => bd_wr s15 (L0 + 2) x3 20 x1 (fun s22 => bd_lt (x3 + 1 : Int32) (fun z23 => f_X0_open_2 k29 n_ z23 L0 x1 x2 s22)))))
def f_X0_open (L0 : Nat) (p1 : Int32) (p2 : Int32) (s_ : bd_S) : Option (Unit × bd_S) := f_X0_open_2 (fun L0e x2e e29 => bd_lt (-x2e : Int32) (fun z31 => bd_lt (bd_st e29 L0e 2 z31) (fun s32 => bd_lt (bd_st s32 L0e 3 x2e) (fun s37 => some ((), s37))))) FU_ 0 L0 p1 p2 s_
def f_X2_counts (S1 : Nat) (p2 : Int32) (s_ : bd_S) : Option (Int32 × bd_S) := bd_rd s_ (S1 + 3) p2 12 (fun z5 => (if z5 = 0 then bd_zr 1 s_ else bd_lt (s_ 0 14) (fun z10 => bd_lt (s_ S1 9) (fun z14 => bd_lt (z10 &&& z14 : Int32) (fun z17 => bd_rd s_ (S1 + 2) p2 12 (fun z24 => bd_lt (1 <<< (z24 &&& 31) : Int32) (fun z25 => bd_lt (z17 &&& z25 : Int32) (fun z26 => (if z26 = 0 then bd_zr 1 s_ else bd_zr 0 s_)))))))))
def f_X2_addHeat_4 : Nat → Int32 → Int32 → Int32 → bd_S → Option (Unit × bd_S)
  | 0, _, _, _, _ => none
  | n_ + 1, x3, x2, x1, s_ => (if 20 ≤ x3 then some ((), s_) else bd_rd s_ 8 x3 20 (fun z19 => bd_lt (z19 + x2 : Int32) (fun z21 => bd_wr s_ 8 x3 20 z21 (fun s22 => bd_rd s22 9 x3 20 (fun z32 => bd_lt (z32 + x2 : Int32) (fun z34 => bd_wr s22 9 x3 20 z34 (fun s35 => bd_rd s35 13 x3 20 (fun z43 => bd_lt (z43 - 5 : Int32) (fun z45 => bd_lt (x1 * z45 : Int32) (fun z46 => bd_lt (x2 + z46 : Int32) (fun z47 => bd_lt (x3 + 1 : Int32) (fun z49 => f_X2_addHeat_4 n_ z49 z47 x1 s35))))))))))))
def f_X2_addHeat (p1 : Int32) (s_ : bd_S) : Option (Unit × bd_S) := f_X2_addHeat_4 FU_ 0 0 p1 s_
def f_X2_learnBut_108 (k14 : Int32 → Nat → Int32 → Int32 → Int32 → Int32 → bd_S → Option (Int32 × bd_S)) (x7 : Int32) (x6 : Int32) (S1 : Nat) (x2 : Int32) (x3 : Int32) (x4 : Int32) (x5 : Int32) (t0 : Int32) (s_ : bd_S) : Option (Int32 × bd_S) := bd_rd s_ (S1 + 4) x6 12 (fun z122 => bd_b (f_X2_greatestLate x7 s_) (fun z126 s126 => bd_lt (z122 - z126 : Int32) (fun z129 => bd_lt (z129 - t0 : Int32) (fun z132 => bd_rd s126 (S1 + 5) x6 12 (fun z139 => bd_b (f_X2_leastLate x7 s126) (fun z143 s143 => bd_lt (z139 - z143 : Int32) (fun z146 => bd_lt (z146 - t0 : Int32) (fun z149 => bd_b (f_X0_cut 7 x7 z132 z149 s143) (fun _ s150 => bd_lt (x6 + 1 : Int32) (fun z153 => k14 z153 S1 x2 x3 x4 x5 s150))))))))))
def f_X2_learnBut_14 (k159 : Nat → Int32 → bd_S → Option (Int32 × bd_S)) : Nat → Int32 → Nat → Int32 → Int32 → Int32 → Int32 → bd_S → Option (Int32 × bd_S)
  | 0, _, _, _, _, _, _, _ => none
  | n_ + 1, x6, S1, x2, x3, x4, x5, s_ => bd_lt (s_ S1 8) (fun z17 => (if z17 ≤ x6 then k159 S1 x2 s_ else bd_rd s_ (S1 + 1) x6 12 (fun z29 => (if z29 = x2 then bd_b (f_X2_counts S1 x6 s_) (fun z38 s38 => (if z38 = 0 then bd_lt (x6 + 1 : Int32) (fun z153 => f_X2_learnBut_14 k159 n_ z153 S1 x2 x3 x4 x5 s38) else bd_rd s38 (S1 + 2) x6 12 (fun z50 => bd_rd s38 (S1 + 3) x6 12 (fun z59 => (if z59 = 0 then bd_rd s38 (S1 + 4) x6 12 (fun z75 => bd_rd s38 (S1 + 5) x6 12 (fun z82 => bd_b (f_X0_cut 7 z50 z75 z82 s38) (fun _ s83 => bd_lt (x6 + 1 : Int32) (fun z153 => f_X2_learnBut_14 k159 n_ z153 S1 x2 x3 x4 x5 s83)))) else (if z50 = x3 then bd_lt (x6 + 1 : Int32) (fun z153 => f_X2_learnBut_14 k159 n_ z153 S1 x2 x3 x4 x5 s38) else (if z50 = x4 then f_X2_learnBut_108 (f_X2_learnBut_14 k159 n_) z50 x6 S1 x2 x3 x4 x5 x5 s38 else f_X2_learnBut_108 (f_X2_learnBut_14 k159 n_) z50 x6 S1 x2 x3 x4 x5 0 s38))))))) else bd_lt (x6 + 1 : Int32) (fun z153 => f_X2_learnBut_14 k159 n_ z153 S1 x2 x3 x4 x5 s_)))))
def f_X2_learnBut (S1 : Nat) (p2 : Int32) (p3 : Int32) (p4 : Int32) (p5 : Int32) (s_ : bd_S) : Option (Int32 × bd_S) := bd_b (f_X0_open 7 99999 99 s_) (fun _ s8 => f_X2_learnBut_14 (fun S1e x2e e159 => bd_rd e159 (S1e + 6) x2e 3 (fun z165 => bd_lt (-z165 : Int32) (fun z166 => bd_b (f_X2_addHeat z166 e159) (fun _ s167 => bd_b (f_X0_narrow 7 s167) (fun z174 s174 => bd_rd s174 (S1e + 6) x2e 3 (fun z185 => bd_b (f_X2_addHeat z185 s174) (fun _ s186 => bd_zr z174 s186))))))) FU_ 0 S1 p2 p3 p4 p5 s8)
def f_X2_learn (S1 : Nat) (p2 : Int32) (s_ : bd_S) : Option (Int32 × bd_S) := bd_b (f_X2_learnBut S1 p2 (-1) (-1) 0 s_) (fun z6 s6 => bd_zr z6 s6)
def f_X2_jumped (p1 : Int32) (p2 : Int32) (s_ : bd_S) : Option (Int32 × bd_S) := bd_b (f_X2_noClock p1 p2 s_) (fun z3 s3 => (if z3 = 0 then bd_rs p1 (fun S17 => bd_b (f_X2_learn S17 p2 s3) (fun z19 s19 => (if z19 = 0 then some (1, s19) else some (0, s19)))) else some ((-1), s3)))
def f_X2_ahead (p1 : Int32) (p2 : Int32) (p3 : Int32) (p4 : Int32) (s_ : bd_S) : Option (Int32 × bd_S) := bd_b (f_X2_noClock p1 p2 s_) (fun z3 s3 => (if z3 = 0 then bd_b (f_X2_noDay p3 s3) (fun z10 s10 => (if z10 = 0 then bd_b (f_X2_noEnd p4 s10) (fun z21 s21 => (if z21 = 0 then bd_rs p1 (fun S36 => bd_b (f_X2_learn S36 p2 s21) (fun z38 s38 => (if z38 = 0 then some ((-100000003), s38) else (if p4 = 0 then bd_rd s38 8 p3 20 (fun z60 => some (z60, s38)) else bd_rd s38 9 p3 20 (fun z72 => some (z72, s38)))))) else some ((-100000002), s21))) else some ((-100000001), s10))) else some ((-100000001), s3)))
def f_X2_gains (p1 : Int32) (p2 : Int32) (p3 : Int32) (s_ : bd_S) : Option (Int32 × bd_S) := bd_b (f_X2_noClock p1 p2 s_) (fun z3 s3 => (if z3 = 0 then bd_b (f_X2_noEnd p3 s3) (fun z13 s13 => (if z13 = 0 then bd_rs p1 (fun S28 => bd_b (f_X2_learn S28 p2 s13) (fun z30 s30 => (if z30 = 0 then some ((-100000003), s30) else (if p3 = 0 then bd_lt (s30 7 2) (fun z47 => some (z47, s30)) else bd_lt (s30 7 3) (fun z57 => some (z57, s30)))))) else some ((-100000002), s13))) else some ((-100000001), s3)))
def f_X2_greatestMiles (p1 : Int32) (p2 : Int32) (s_ : bd_S) : Option (Int32 × bd_S) := bd_rd s_ 8 p2 20 (fun z9 => bd_lt (p1 - z9 : Int32) (fun z10 => bd_b (f_X2_cutUp z10 4 s_) (fun z12 s12 => some (z12, s12))))
def f_X2_leastMiles (p1 : Int32) (p2 : Int32) (s_ : bd_S) : Option (Int32 × bd_S) := bd_rd s_ 9 p2 20 (fun z9 => bd_lt (p1 - z9 : Int32) (fun z10 => bd_b (f_J9_floorDiv_7cf53 z10 4 s_) (fun z12 s12 => some (z12, s12))))
def f_X2_place (p1 : Int32) (p2 : Int32) (p3 : Int32) (p4 : Int32) (p5 : Int32) (s_ : bd_S) : Option (Int32 × bd_S) := bd_b (f_X2_noClock p1 p2 s_) (fun z3 s3 => (if z3 = 0 then bd_b (f_X2_noDay p3 s3) (fun z10 s10 => (if z10 = 0 then bd_b (f_X2_noEnd p5 s10) (fun z21 s21 => (if z21 = 0 then bd_b (f_X2_beyond p4 99999 s21) (fun z31 s31 => (if z31 = 0 then bd_rs p1 (fun S46 => bd_b (f_X2_learn S46 p2 s31) (fun z48 s48 => (if z48 = 0 then some ((-100000003), s48) else (if p5 = 0 then bd_b (f_X2_leastMiles p4 p3 s48) (fun z66 s66 => some (z66, s66)) else bd_b (f_X2_greatestMiles p4 p3 s48) (fun z76 s76 => some (z76, s76)))))) else some ((-100000002), s31))) else some ((-100000002), s21))) else some ((-100000001), s10))) else some ((-100000001), s3)))
def f_X2_reads (p1 : Int32) (p2 : Int32) (p3 : Int32) (p4 : Int32) (p5 : Int32) (s_ : bd_S) : Option (Int32 × bd_S) := bd_b (f_X2_noShip p1 s_) (fun z2 s2 => (if z2 = 0 then bd_b (f_X2_noDay p2 s2) (fun z9 s9 => (if z9 = 0 then bd_b (f_X2_beyond p3 99999 s9) (fun z20 s20 => (if z20 = 0 then bd_b (f_X2_beyond p4 99999 s20) (fun z30 s30 => (if z30 = 0 then bd_b (f_X2_beyond p5 99999 s30) (fun z40 s40 => (if z40 = 0 then bd_rs p1 (fun S54 => bd_lt (bd_st s40 S54 10 p2) (fun s60 => bd_wr s60 (S54 + 8) 0 3 p3 (fun s70 => bd_wr s70 (S54 + 8) 1 3 p4 (fun s79 => bd_wr s79 (S54 + 8) 2 3 p5 (fun s88 => some (1, s88)))))) else some ((-2), s40))) else some ((-2), s30))) else some ((-2), s20))) else some ((-1), s9))) else some ((-1), s2)))
def f_X2_findPlaces_2 : Nat → Int32 → Nat → bd_S → Option (Unit × bd_S)
  | 0, _, _, _ => none
  | n_ + 1, x2, S1, s_ => (if 3 ≤ x2 then some ((), s_) else bd_b (f_X2_learn S1 x2 s_) (fun z10 s10 => (if z10 = 0 then bd_wr s10 17 x2 3 1000000 (fun s66 => bd_wr s66 18 x2 3 (-1000000) (fun s74 => bd_lt (x2 + 1 : Int32) (fun z75 => f_X2_findPlaces_2 n_ z75 S1 s74))) else bd_rd s10 (S1 + 8) x2 3 (fun z27 => bd_lt (s10 S1 10) (fun z29 => bd_b (f_X2_leastMiles z27 z29 s10) (fun z32 s32 => bd_wr s32 17 x2 3 z32 (fun s35 => bd_rd s35 (S1 + 8) x2 3 (fun z47 => bd_lt (s35 S1 10) (fun z49 => bd_b (f_X2_greatestMiles z47 z49 s35) (fun z52 s52 => bd_wr s52 18 x2 3 z52 (fun s55 => bd_lt (x2 + 1 : Int32) (fun z75 => f_X2_findPlaces_2 n_ z75 S1 s55))))))))))))
def f_X2_findPlaces (S1 : Nat) (s_ : bd_S) : Option (Unit × bd_S) := f_X2_findPlaces_2 FU_ 0 S1 s_
def f_X2_leastShared_5 : Nat → Int32 → Int32 → Int32 → bd_S → Option (Int32 × bd_S)
  | 0, _, _, _, _ => none
  | n_ + 1, x3, x2, x1, s_ => (if 3 ≤ x3 then some (x2, s_) else bd_b (f_X2_bitOf x1 x3 s_) (fun z12 s12 => (if z12 = 1 then bd_rd s12 17 x3 3 (fun z25 => bd_lt (if x2 < z25 then z25 else x2 : Int32) (fun z26 => bd_lt (x3 + 1 : Int32) (fun z30 => f_X2_leastShared_5 n_ z30 z26 x1 s12))) else bd_lt (x3 + 1 : Int32) (fun z30 => f_X2_leastShared_5 n_ z30 x2 x1 s12))))
def f_X2_leastShared (p1 : Int32) (s_ : bd_S) : Option (Int32 × bd_S) := f_X2_leastShared_5 FU_ 0 (-1000000) p1 s_
def f_X2_greatestShared_5 : Nat → Int32 → Int32 → Int32 → bd_S → Option (Int32 × bd_S)
  | 0, _, _, _, _ => none
  | n_ + 1, x3, x2, x1, s_ => (if 3 ≤ x3 then some (x2, s_) else bd_b (f_X2_bitOf x1 x3 s_) (fun z12 s12 => (if z12 = 1 then bd_rd s12 18 x3 3 (fun z25 => bd_lt (if z25 < x2 then z25 else x2 : Int32) (fun z26 => bd_lt (x3 + 1 : Int32) (fun z30 => f_X2_greatestShared_5 n_ z30 z26 x1 s12))) else bd_lt (x3 + 1 : Int32) (fun z30 => f_X2_greatestShared_5 n_ z30 x2 x1 s12))))
def f_X2_greatestShared (p1 : Int32) (s_ : bd_S) : Option (Int32 × bd_S) := f_X2_greatestShared_5 FU_ 0 1000000 p1 s_
def f_X2_weigh_20 : Nat → Int32 → Int32 → Nat → Int32 → bd_S → Option (Int32 × bd_S)
  | 0, _, _, _, _, _ => none
  | n_ + 1, x4, x3, S1, x2, s_ => (if 3 ≤ x4 then some (x3, s_) else bd_b (f_X2_bitOf x2 x4 s_) (fun z30 s30 => (if z30 = 1 then bd_rd s30 (S1 + 7) x4 3 (fun z45 => bd_lt (10 - z45 : Int32) (fun z46 => bd_lt (x3 * z46 : Int32) (fun z57 => bd_lt (x4 + 1 : Int32) (fun z59 => f_X2_weigh_20 n_ z59 z57 S1 x2 s30)))) else bd_rd s30 (S1 + 7) x4 3 (fun z56 => bd_lt (x3 * z56 : Int32) (fun z57 => bd_lt (x4 + 1 : Int32) (fun z59 => f_X2_weigh_20 n_ z59 z57 S1 x2 s30))))))
def f_X2_weigh (S1 : Nat) (p2 : Int32) (s_ : bd_S) : Option (Int32 × bd_S) := bd_b (f_X2_leastShared p2 s_) (fun z2 s2 => bd_b (f_X2_greatestShared p2 s2) (fun z7 s7 => (if z2 ≤ z7 then f_X2_weigh_20 FU_ 0 1 S1 p2 s7 else some (0, s7))))
def f_X2_weight (p1 : Int32) (p2 : Int32) (s_ : bd_S) : Option (Int32 × bd_S) := bd_b (f_X2_noShip p1 s_) (fun z2 s2 => (if z2 = 0 then bd_b (f_X2_outside p2 0 7 s2) (fun z14 s14 => (if z14 = 0 then bd_rs p1 (fun S29 => bd_b (f_X2_findPlaces S29 s14) (fun _ s30 => bd_rs p1 (fun S39 => bd_b (f_X2_weigh S39 p2 s30) (fun z41 s41 => some (z41, s41))))) else some ((-2), s14))) else some ((-1), s2)))
def f_X2_greatestDivisor_7 : Nat → Int32 → Int32 → Int32 → bd_S → Option (Int32 × bd_S)
  | 0, _, _, _, _ => none
  | n_ + 1, x4, x3, x2, s_ => (if 100 ≤ x4 then bd_lt (if 1 < x2 then x2 else 1 : Int32) (fun z36 => some (z36, s_)) else (if x3 = 0 then bd_lt (if 1 < x2 then x2 else 1 : Int32) (fun z36 => some (z36, s_)) else bd_rm x2 x3 (fun z20 => bd_lt (x4 + 1 : Int32) (fun z28 => f_X2_greatestDivisor_7 n_ z28 z20 x3 s_))))
def f_X2_greatestDivisor (p0 : Int32) (p1 : Int32) (s_ : bd_S) : Option (Int32 × bd_S) := f_X2_greatestDivisor_7 FU_ 0 p1 p0 s_
def f_X2_odds_64 (k94 : Int32 → Int32 → Int32 → bd_S → Option (Int64 × bd_S)) : Nat → Int32 → Int32 → Int32 → Int32 → Int32 → bd_S → Option (Int64 × bd_S)
  | 0, _, _, _, _, _, _ => none
  | n_ + 1, x6, x5, x4, x1, x3, s_ => (if 8 ≤ x6 then k94 x5 x4 x3 s_ else bd_rs x1 (fun S79 => bd_b (f_X2_weigh S79 x6 s_) (fun z82 s82 => bd_lt (x5 + z82 : Int32) (fun z85 => bd_lt (x6 + 1 : Int32) (fun z88 => f_X2_odds_64 k94 n_ z88 z85 x4 x1 x3 s82)))))
def f_X2_odds (p1 : Int32) (p2 : Int32) (p3 : Int32) (s_ : bd_S) : Option (Int64 × bd_S) := bd_b (f_X2_noShip p1 s_) (fun z2 s2 => (if z2 = 0 then bd_b (f_X2_outside p2 0 7 s2) (fun z16 s16 => (if z16 = 0 then bd_b (f_X2_outside p3 0 1 s16) (fun z25 s25 => (if z25 = 0 then bd_rs p1 (fun S41 => bd_b (f_X2_findPlaces S41 s25) (fun _ s42 => bd_rs p1 (fun S51 => bd_b (f_X2_weigh S51 p2 s42) (fun z53 s53 => f_X2_odds_64 (fun x5e x4e x3e e94 => bd_b (f_X2_greatestDivisor x4e x5e e94) (fun z98 s98 => (if x3e = 0 then bd_dv x4e z98 (fun z111 => bd_lt (Int32.toInt64 z111) (fun z112 => some (z112, s98))) else bd_dv x5e z98 (fun z120 => bd_lt (Int32.toInt64 z120) (fun z121 => some (z121, s98)))))) FU_ 0 0 z53 p1 p3 s53)))) else some ((-1000000000000000002), s25))) else some ((-1000000000000000002), s16))) else some ((-1000000000000000001), s2)))
def f_J6_bitCount_0f7a4 (p0 : Int32) (s_ : bd_S) : Option (Int32 × bd_S) := bd_lt ((Int32.toUInt32 p0 >>> (Int32.toUInt32 1 &&& Int32.toUInt32 31)).toInt32) (fun z3 => bd_lt (z3 &&& 1431655765 : Int32) (fun z7 => bd_lt (p0 - z7 : Int32) (fun z8 => bd_lt (z8 &&& 858993459 : Int32) (fun z14 => bd_lt ((Int32.toUInt32 z8 >>> (Int32.toUInt32 2 &&& Int32.toUInt32 31)).toInt32) (fun z17 => bd_lt (z17 &&& 858993459 : Int32) (fun z21 => bd_lt (z14 + z21 : Int32) (fun z22 => bd_lt ((Int32.toUInt32 z22 >>> (Int32.toUInt32 4 &&& Int32.toUInt32 31)).toInt32) (fun z27 => bd_lt (z22 + z27 : Int32) (fun z28 => bd_lt (z28 &&& 252645135 : Int32) (fun z32 => bd_lt ((Int32.toUInt32 z32 >>> (Int32.toUInt32 8 &&& Int32.toUInt32 31)).toInt32) (fun z38 => bd_lt (z32 + z38 : Int32) (fun z39 => bd_lt ((Int32.toUInt32 z39 >>> (Int32.toUInt32 16 &&& Int32.toUInt32 31)).toInt32) (fun z45 => bd_lt (z39 + z45 : Int32) (fun z46 => bd_lt (z46 &&& 63 : Int32) (fun z51 => some (z51, s_))))))))))))))))
def f_X2_heaviest_12 : Nat → Int32 → Int32 → Int32 → Nat → bd_S → Option (Int32 × bd_S)
  | 0, _, _, _, _, _ => none
  | n_ + 1, x4, x3, x2, S1, s_ => (if 8 ≤ x4 then some (x2, s_) else bd_b (f_X2_weigh S1 x4 s_) (fun z23 s23 => (if x3 < z23 then bd_lt (x4 + 1 : Int32) (fun z58 => f_X2_heaviest_12 n_ z58 z23 x4 S1 s23) else (if z23 = x3 then bd_b (f_J6_bitCount_0f7a4 x4 s23) (fun z42 s42 => bd_b (f_J6_bitCount_0f7a4 x2 s42) (fun z46 s46 => (if z42 ≤ z46 then bd_lt (x4 + 1 : Int32) (fun z58 => f_X2_heaviest_12 n_ z58 x3 x2 S1 s46) else bd_lt (x4 + 1 : Int32) (fun z58 => f_X2_heaviest_12 n_ z58 z23 x4 S1 s46)))) else bd_lt (x4 + 1 : Int32) (fun z58 => f_X2_heaviest_12 n_ z58 x3 x2 S1 s23)))))
def f_X2_heaviest (S1 : Nat) (s_ : bd_S) : Option (Int32 × bd_S) := bd_b (f_X2_weigh S1 0 s_) (fun z5 s5 => f_X2_heaviest_12 FU_ 1 z5 0 S1 s5)
def f_X2_best (p1 : Int32) (s_ : bd_S) : Option (Int32 × bd_S) := bd_b (f_X2_noShip p1 s_) (fun z2 s2 => (if z2 = 0 then bd_rs p1 (fun S16 => bd_b (f_X2_findPlaces S16 s2) (fun _ s17 => bd_rs p1 (fun S26 => bd_b (f_X2_heaviest S26 s17) (fun z27 s27 => some (z27, s27))))) else some ((-1), s2)))
def f_X2_landfall (p1 : Int32) (p2 : Int32) (s_ : bd_S) : Option (Int32 × bd_S) := bd_b (f_X2_noShip p1 s_) (fun z2 s2 => (if z2 = 0 then bd_b (f_X2_noEnd p2 s2) (fun z12 s12 => (if z12 = 0 then bd_rs p1 (fun S27 => bd_b (f_X2_findPlaces S27 s12) (fun _ s28 => bd_rs p1 (fun S37 => bd_b (f_X2_heaviest S37 s28) (fun z38 s38 => (if z38 = 0 then some ((-100000003), s38) else (if p2 = 0 then bd_b (f_X2_leastShared z38 s38) (fun z55 s55 => some (z55, s55)) else bd_b (f_X2_greatestShared z38 s38) (fun z63 s63 => some (z63, s63)))))))) else some ((-100000002), s12))) else some ((-100000001), s2)))
def f_X2_isSetOn_3 : Nat → Int32 → Nat → Int32 → Int32 → bd_S → Option (Int32 × bd_S)
  | 0, _, _, _, _, _ => none
  | n_ + 1, x4, S1, x2, x3, s_ => bd_lt (s_ S1 8) (fun z6 => (if z6 ≤ x4 then bd_zr 0 s_ else bd_rd s_ (S1 + 1) x4 12 (fun z18 => (if z18 = x2 then bd_rd s_ (S1 + 3) x4 12 (fun z29 => (if z29 = 0 then bd_lt (x4 + 1 : Int32) (fun z56 => f_X2_isSetOn_3 n_ z56 S1 x2 x3 s_) else bd_rd s_ (S1 + 2) x4 12 (fun z39 => (if z39 = x3 then bd_b (f_X2_counts S1 x4 s_) (fun z48 s48 => (if z48 = 0 then bd_lt (x4 + 1 : Int32) (fun z56 => f_X2_isSetOn_3 n_ z56 S1 x2 x3 s48) else bd_zr 1 s48)) else bd_lt (x4 + 1 : Int32) (fun z56 => f_X2_isSetOn_3 n_ z56 S1 x2 x3 s_))))) else bd_lt (x4 + 1 : Int32) (fun z56 => f_X2_isSetOn_3 n_ z56 S1 x2 x3 s_)))))
def f_X2_isSetOn (S1 : Nat) (p2 : Int32) (p3 : Int32) (s_ : bd_S) : Option (Int32 × bd_S) := f_X2_isSetOn_3 FU_ 0 S1 p2 p3 s_
def f_X2_countSuspects_15 (k79 : Int32 → Int32 → Int32 → bd_S → Option (Int32 × bd_S)) : Nat → Int32 → Int32 → Int32 → Int32 → bd_S → Option (Int32 × bd_S)
  | 0, _, _, _, _, _ => none
  | n_ + 1, x4, x3, x2, x1, s_ => (if 3 ≤ x4 then k79 x3 x2 x1 s_ else bd_rs x3 (fun S27 => bd_b (f_X2_isSetOn S27 x4 x1 s_) (fun z31 s31 => (if z31 = 0 then bd_lt (x4 + 1 : Int32) (fun z73 => f_X2_countSuspects_15 k79 n_ z73 x3 x2 x1 s31) else bd_rs x3 (fun S43 => bd_b (f_X2_learn S43 x4 s31) (fun z46 s46 => (if z46 = 0 then bd_rs x3 (fun S58 => bd_b (f_X2_learnBut S58 x4 x1 (-1) 0 s46) (fun z64 s64 => (if z64 = 0 then bd_lt (x4 + 1 : Int32) (fun z73 => f_X2_countSuspects_15 k79 n_ z73 x3 x2 x1 s64) else bd_lt (x2 + 1 : Int32) (fun z70 => bd_lt (x4 + 1 : Int32) (fun z73 => f_X2_countSuspects_15 k79 n_ z73 x3 z70 x1 s64))))) else bd_lt (x4 + 1 : Int32) (fun z73 => f_X2_countSuspects_15 k79 n_ z73 x3 x2 x1 s46))))))))
def f_X2_countSuspects_4 : Nat → Int32 → Int32 → Int32 → bd_S → Option (Int32 × bd_S)
  | 0, _, _, _, _ => none
  | n_ + 1, x3, x2, x1, s_ => bd_lt (s_ 0 15) (fun z6 => (if z6 ≤ x3 then some (x2, s_) else f_X2_countSuspects_15 (fun x3e x2e x1e e79 => bd_lt (x3e + 1 : Int32) (fun z79 => f_X2_countSuspects_4 n_ z79 x2e x1e e79)) FU_ 0 x3 x2 x1 s_))
def f_X2_countSuspects (p1 : Int32) (s_ : bd_S) : Option (Int32 × bd_S) := f_X2_countSuspects_4 FU_ 0 0 p1 s_
def f_X2_suspect (p1 : Int32) (s_ : bd_S) : Option (Int32 × bd_S) := bd_b (f_X2_noDay p1 s_) (fun z1 s1 => (if z1 = 0 then bd_b (f_X2_countSuspects p1 s1) (fun z11 s11 => some (z11, s11)) else some ((-1), s1)))
def f_X2_worst_19 (k52 : Int32 → Int32 → Int32 → bd_S → Option (Int32 × bd_S)) : Nat → Int32 → Int32 → Int32 → Int32 → bd_S → Option (Int32 × bd_S)
  | 0, _, _, _, _, _ => none
  | n_ + 1, x4, x3, x2, x1, s_ => (if 20 ≤ x4 then k52 x3 x2 x1 s_ else bd_b (f_X2_countSuspects x4 s_) (fun z29 s29 => (if z29 ≤ x3 then bd_lt (x4 + 1 : Int32) (fun z46 => f_X2_worst_19 k52 n_ z46 x3 x2 x1 s29) else bd_lt (x4 + 1 : Int32) (fun z46 => f_X2_worst_19 k52 n_ z46 z29 x4 x1 s29))))
def f_X2_worst (p1 : Int32) (s_ : bd_S) : Option (Int32 × bd_S) := bd_b (f_X2_outside p1 0 1 s_) (fun z3 s3 => (if z3 = 0 then f_X2_worst_19 (fun x3e x2e x1e e52 => (if x1e = 0 then some (x2e, e52) else some (x3e, e52))) FU_ 0 0 0 p1 s3 else some ((-2), s3)))
def f_X2_bearsSlip (S1 : Nat) (p2 : Int32) (p3 : Int32) (p4 : Int32) (s_ : bd_S) : Option (Int32 × bd_S) := bd_b (f_X2_isSetOn S1 p2 p3 s_) (fun z4 s4 => (if z4 = 0 then bd_zr 1 s4 else bd_rd s4 12 p3 20 (fun z22 => bd_lt (p4 - z22 : Int32) (fun z23 => bd_b (f_X2_learnBut S1 p2 (-1) p3 z23 s4) (fun z24 s24 => (if z24 = 0 then bd_zr 0 s24 else bd_zr 1 s24))))))
def f_X2_firstFittingSlip_20 : Nat → Int32 → Int32 → Int32 → Int32 → Int32 → Int32 → Int32 → bd_S → Option (Int32 × bd_S)
  | 0, _, _, _, _, _, _, _, _ => none
  | n_ + 1, x8, x7, x6, x5, x4, x1, x3, s_ => (if 1000000 ≤ x8 then some (x5, s_) else (if x4 ≤ x7 then some (x5, s_) else bd_b (f_X2_beyond x5 60 s_) (fun z38 s38 => (if z38 = 0 then bd_dv x6 3 (fun z52 => bd_rs z52 (fun S53 => bd_rm x6 3 (fun z57 => bd_b (f_X2_bearsSlip S53 z57 x1 x5 s38) (fun z61 s61 => (if z61 = 0 then bd_lt (x5 + x3 : Int32) (fun z88 => bd_lt (x8 + 1 : Int32) (fun z91 => f_X2_firstFittingSlip_20 n_ z91 0 x6 z88 x4 x1 x3 s61)) else bd_lt (x7 + 1 : Int32) (fun z67 => bd_lt (x6 + 1 : Int32) (fun z73 => bd_rm z73 x4 (fun z76 => bd_lt (x8 + 1 : Int32) (fun z91 => f_X2_firstFittingSlip_20 n_ z91 z67 z76 x5 x4 x1 x3 s61))))))))) else some (x5, s38)))))
def f_X2_firstFittingSlip (p1 : Int32) (p2 : Int32) (p3 : Int32) (s_ : bd_S) : Option (Int32 × bd_S) := bd_lt (s_ 0 15) (fun z1 => bd_lt (z1 * 3 : Int32) (fun z5 => f_X2_firstFittingSlip_20 FU_ 0 0 0 p2 z5 p1 p3 s_))
def f_X2_slipped_43 (t0 : Int32) (s_ : bd_S) : Option (Int32 × bd_S) := bd_b (f_X2_beyond t0 60 s_) (fun z47 s47 => (if z47 = 0 then some (t0, s47) else some ((-100000005), s47)))
def f_X2_slipped (p1 : Int32) (p2 : Int32) (s_ : bd_S) : Option (Int32 × bd_S) := bd_b (f_X2_noDay p1 s_) (fun z1 s1 => (if z1 = 0 then bd_b (f_X2_noEnd p2 s1) (fun z11 s11 => (if z11 = 0 then (if p2 = 0 then bd_b (f_X2_firstFittingSlip p1 (-60) 1 s11) (fun z29 s29 => f_X2_slipped_43 z29 s29) else bd_b (f_X2_firstFittingSlip p1 60 (-1) s11) (fun z40 s40 => f_X2_slipped_43 z40 s40)) else some ((-100000002), s11))) else some ((-100000001), s1)))
def f_X2_isTold_2 : Nat → Int32 → Nat → Int32 → bd_S → Option (Int32 × bd_S)
  | 0, _, _, _, _ => none
  | n_ + 1, x3, S1, x2, s_ => bd_lt (s_ S1 8) (fun z4 => (if z4 ≤ x3 then bd_zr 0 s_ else bd_rd s_ (S1 + 1) x3 12 (fun z15 => (if z15 = x2 then bd_b (f_X2_counts S1 x3 s_) (fun z23 s23 => (if z23 = 0 then bd_lt (x3 + 1 : Int32) (fun z31 => f_X2_isTold_2 n_ z31 S1 x2 s23) else bd_zr 1 s23)) else bd_lt (x3 + 1 : Int32) (fun z31 => f_X2_isTold_2 n_ z31 S1 x2 s_)))))
def f_X2_isTold (S1 : Nat) (p2 : Int32) (s_ : bd_S) : Option (Int32 × bd_S) := f_X2_isTold_2 FU_ 0 S1 p2 s_
def f_X2_ask_100 (k29 : Int32 → Int32 → Int32 → Int32 → Int32 → bd_S → Option (Int32 × bd_S)) (x6 : Int32) (x5 : Int32) (x4 : Int32) (x1 : Int32) (s_ : bd_S) : Option (Int32 × bd_S) := bd_lt (10 * x4 : Int32) (fun z104 => bd_lt (z104 + x5 : Int32) (fun z107 => bd_lt (x5 + 1 : Int32) (fun z112 => k29 z112 x4 x6 z107 x1 s_)))
def f_X2_ask_29 (k118 : Int32 → Int32 → Int32 → Int32 → bd_S → Option (Int32 × bd_S)) : Nat → Int32 → Int32 → Int32 → Int32 → Int32 → bd_S → Option (Int32 × bd_S)
  | 0, _, _, _, _, _, _ => none
  | n_ + 1, x5, x4, x3, x2, x1, s_ => (if 3 ≤ x5 then k118 x4 x3 x2 x1 s_ else bd_rs x4 (fun S42 => bd_b (f_X2_isTold S42 x5 s_) (fun z45 s45 => (if z45 = 0 then bd_lt (x5 + 1 : Int32) (fun z112 => f_X2_ask_29 k118 n_ z112 x4 x3 x2 x1 s45) else bd_rs x4 (fun S58 => bd_b (f_X2_learn S58 x5 s45) (fun z61 s61 => (if z61 = 0 then bd_lt (x5 + 1 : Int32) (fun z112 => f_X2_ask_29 k118 n_ z112 x4 x3 x2 x1 s61) else bd_rd s61 9 x1 20 (fun z75 => bd_rd s61 8 x1 20 (fun z84 => bd_lt (z75 - z84 : Int32) (fun z85 => (if x2 = (-6) then f_X2_ask_100 (f_X2_ask_29 k118 n_) z85 x5 x4 x1 s61 else (if x3 ≤ z85 then bd_lt (x5 + 1 : Int32) (fun z112 => f_X2_ask_29 k118 n_ z112 x4 x3 x2 x1 s61) else f_X2_ask_100 (f_X2_ask_29 k118 n_) z85 x5 x4 x1 s61))))))))))))
def f_X2_ask_17 : Nat → Int32 → Int32 → Int32 → Int32 → bd_S → Option (Int32 × bd_S)
  | 0, _, _, _, _, _ => none
  | n_ + 1, x4, x3, x2, x1, s_ => bd_lt (s_ 0 15) (fun z20 => (if z20 ≤ x4 then some (x2, s_) else f_X2_ask_29 (fun x4e x3e x2e x1e e118 => bd_lt (x4e + 1 : Int32) (fun z118 => f_X2_ask_17 n_ z118 x3e x2e x1e e118)) FU_ 0 x4 x3 x2 x1 s_))
def f_X2_ask (p1 : Int32) (s_ : bd_S) : Option (Int32 × bd_S) := bd_b (f_X2_noDay p1 s_) (fun z1 s1 => (if z1 = 0 then f_X2_ask_17 FU_ 0 0 (-6) p1 s1 else some ((-1), s1)))
def f_X2_carry (p1 : Int32) (p2 : Int32) (p3 : Int32) (p4 : Int32) (p5 : Int32) (s_ : bd_S) : Option (Int32 × bd_S) := bd_b (f_X2_outside p1 0 3 s_) (fun z3 s3 => (if z3 = 0 then bd_b (f_X2_noClock p2 p3 s3) (fun z12 s12 => (if z12 = 0 then bd_b (f_X2_noDay p4 s12) (fun z20 s20 => (if z20 = 0 then bd_b (f_X2_beyond p5 9999 s20) (fun z33 s33 => (if z33 = 0 then bd_rs p2 (fun S48 => bd_b (f_X2_learn S48 p3 s33) (fun z50 s50 => (if z50 = 0 then some ((-3), s50) else bd_rd s50 15 p1 4 (fun z64 => bd_rd s50 9 p4 20 (fun z76 => bd_lt (p5 - z76 : Int32) (fun z77 => bd_lt (z77 - 2 : Int32) (fun z79 => bd_lt (if z64 < z79 then z79 else z64 : Int32) (fun z80 => bd_rd s50 16 p1 4 (fun z90 => bd_rd s50 8 p4 20 (fun z102 => bd_lt (p5 - z102 : Int32) (fun z103 => bd_lt (z103 + 2 : Int32) (fun z105 => bd_lt (if z105 < z90 then z105 else z90 : Int32) (fun z106 => (if z80 ≤ z106 then bd_wr s50 15 p1 4 z80 (fun s128 => bd_wr s128 16 p1 4 z106 (fun s136 => some (1, s136))) else some ((-5), s50))))))))))))))) else some ((-2), s33))) else some ((-1), s20))) else some ((-1), s12))) else some ((-1), s3)))
def f_X2_port (p1 : Int32) (p2 : Int32) (s_ : bd_S) : Option (Int32 × bd_S) := bd_b (f_X2_outside p1 0 3 s_) (fun z3 s3 => (if z3 = 0 then bd_b (f_X2_noEnd p2 s3) (fun z13 s13 => (if z13 = 0 then (if p2 = 0 then bd_rd s13 15 p1 4 (fun z31 => some (z31, s13)) else bd_rd s13 16 p1 4 (fun z40 => some (z40, s13))) else some ((-100000002), s13))) else some ((-100000001), s3)))
def f_X2_told_68 (x1 : Int32) (s_ : bd_S) : Option (Int32 × bd_S) := bd_lt (x1 - 4 : Int32) (fun z71 => bd_b (f_X2_noShip z71 s_) (fun z72 s72 => (if z72 = 0 then bd_lt (x1 - 4 : Int32) (fun z89 => bd_rs z89 (fun S90 => bd_lt (s72 S90 8) (fun z91 => some (z91, s72)))) else some ((-6), s72))))
def f_X2_told (p1 : Int32) (s_ : bd_S) : Option (Int32 × bd_S) := (if p1 = 0 then bd_lt (s_ 0 12) (fun z49 => some (z49, s_)) else (if p1 = 1 then bd_lt (s_ 0 15) (fun z54 => some (z54, s_)) else (if p1 = 2 then bd_lt (s_ 0 13) (fun z59 => some (z59, s_)) else (if p1 = 3 then bd_lt (s_ 0 14) (fun z64 => some (z64, s_)) else (if p1 = 4 then f_X2_told_68 p1 s_ else (if p1 = 5 then f_X2_told_68 p1 s_ else (if p1 = 6 then f_X2_told_68 p1 s_ else (if p1 = 7 then f_X2_told_68 p1 s_ else some ((-2), s_)))))))))
def f_X3_in (p0 : Int32) (p1 : Int32) (p2 : Int32) (s_ : bd_S) : Option (Int32 × bd_S) := (if p0 < p1 then bd_zr 0 s_ else (if p2 < p0 then bd_zr 0 s_ else bd_zr 1 s_))
def f_X3_isDay (p0 : Int32) (s_ : bd_S) : Option (Int32 × bd_S) := bd_b (f_X3_in p0 0 19 s_) (fun z4 s4 => bd_zr z4 s4)
def f_X3_isEnd (p0 : Int32) (s_ : bd_S) : Option (Int32 × bd_S) := bd_b (f_X3_in p0 0 1 s_) (fun z3 s3 => bd_zr z3 s3)
def f_X3_isShip (p1 : Int32) (s_ : bd_S) : Option (Int32 × bd_S) := bd_lt (s_ 55 12) (fun z3 => bd_lt (z3 - 1 : Int32) (fun z7 => bd_b (f_X3_in p1 0 z7 s_) (fun z8 s8 => bd_zr z8 s8)))
def f_X3_isClock (p0 : Int32) (s_ : bd_S) : Option (Int32 × bd_S) := bd_b (f_X3_in p0 0 2 s_) (fun z3 s3 => bd_zr z3 s3)
def f_X3_down (p0 : Int32) (p1 : Int32) (s_ : bd_S) : Option (Int32 × bd_S) := bd_dv p0 p1 (fun z2 => bd_lt (z2 * p1 : Int32) (fun z6 => (if z6 ≤ p0 then some (z2, s_) else bd_lt (z2 - 1 : Int32) (fun z13 => some (z13, s_)))))
def f_X3_up (p0 : Int32) (p1 : Int32) (s_ : bd_S) : Option (Int32 × bd_S) := bd_lt (-p0 : Int32) (fun z1 => bd_b (f_X3_down z1 p1 s_) (fun z3 s3 => bd_lt (-z3 : Int32) (fun z6 => some (z6, s3))))
def f_X3_within_22 (x1 : Int32) (x3 : Int32) (s_ : bd_S) : Option (Unit × bd_S) := bd_rd s_ 80 x1 21 (fun z28 => (if z28 ≤ x3 then some ((), s_) else bd_wr s_ 80 x1 21 x3 (fun s38 => bd_lt (bd_st s38 55 29 1) (fun s41 => some ((), s41)))))
def f_X3_within (p1 : Int32) (p2 : Int32) (p3 : Int32) (s_ : bd_S) : Option (Unit × bd_S) := bd_rd s_ 79 p1 21 (fun z6 => (if p2 ≤ z6 then f_X3_within_22 p1 p3 s_ else bd_wr s_ 79 p1 21 p2 (fun s16 => bd_lt (bd_st s16 55 29 1) (fun s19 => f_X3_within_22 p1 p3 s19))))
def f_X3_isLeft_2 : Nat → Int32 → bd_S → Option (Int32 × bd_S)
  | 0, _, _ => none
  | n_ + 1, x1, s_ => (if 21 ≤ x1 then bd_zr 1 s_ else bd_rd s_ 79 x1 21 (fun z13 => bd_rd s_ 80 x1 21 (fun z19 => (if z13 ≤ z19 then bd_lt (x1 + 1 : Int32) (fun z25 => f_X3_isLeft_2 n_ z25 s_) else bd_zr 0 s_))))
def f_X3_isLeft (s_ : bd_S) : Option (Int32 × bd_S) := f_X3_isLeft_2 FU_ 0 s_
def f_X3_narrow_36 (k199 : Int32 → bd_S → Option (Int32 × bd_S)) : Nat → Int32 → Int32 → bd_S → Option (Int32 × bd_S)
  | 0, _, _, _ => none
  | n_ + 1, x2, x1, s_ => (if 20 ≤ x2 then k199 x1 s_ else bd_lt (x2 - x1 : Int32) (fun z44 => bd_rd s_ 81 x2 20 (fun z51 => bd_rd s_ 81 x1 20 (fun z57 => bd_lt (z51 - z57 : Int32) (fun z58 => bd_rd s_ 79 x1 21 (fun z68 => bd_rd s_ 79 20 21 (fun z76 => bd_lt (z44 * z76 : Int32) (fun z77 => bd_lt (z68 + z77 : Int32) (fun z78 => bd_lt (z78 + z58 : Int32) (fun z81 => bd_rd s_ 80 x1 21 (fun z87 => bd_rd s_ 80 20 21 (fun z95 => bd_lt (z44 * z95 : Int32) (fun z96 => bd_lt (z87 + z96 : Int32) (fun z97 => bd_lt (z97 + z58 : Int32) (fun z100 => bd_b (f_X3_within x2 z81 z100 s_) (fun _ s101 => bd_rd s101 79 x2 21 (fun z111 => bd_rd s101 80 20 21 (fun z119 => bd_lt (z44 * z119 : Int32) (fun z120 => bd_lt (z111 - z120 : Int32) (fun z121 => bd_lt (z121 - z58 : Int32) (fun z124 => bd_rd s101 80 x2 21 (fun z130 => bd_rd s101 79 20 21 (fun z138 => bd_lt (z44 * z138 : Int32) (fun z139 => bd_lt (z130 - z139 : Int32) (fun z140 => bd_lt (z140 - z58 : Int32) (fun z143 => bd_b (f_X3_within x1 z124 z143 s101) (fun _ s144 => bd_rd s144 79 x2 21 (fun z155 => bd_rd s144 80 x1 21 (fun z161 => bd_lt (z155 - z161 : Int32) (fun z162 => bd_lt (z162 - z58 : Int32) (fun z165 => bd_b (f_X3_up z165 z44 s144) (fun z167 s167 => bd_rd s167 80 x2 21 (fun z175 => bd_rd s167 79 x1 21 (fun z181 => bd_lt (z175 - z181 : Int32) (fun z182 => bd_lt (z182 - z58 : Int32) (fun z185 => bd_b (f_X3_down z185 z44 s167) (fun z187 s187 => bd_b (f_X3_within 20 z167 z187 s187) (fun _ s190 => bd_lt (x2 + 1 : Int32) (fun z193 => f_X3_narrow_36 k199 n_ z193 x1 s190)))))))))))))))))))))))))))))))))))))))
def f_X3_narrow_26 (k205 : bd_S → Option (Int32 × bd_S)) : Nat → Int32 → bd_S → Option (Int32 × bd_S)
  | 0, _, _ => none
  | n_ + 1, x1, s_ => (if 20 ≤ x1 then k205 s_ else bd_lt (x1 + 1 : Int32) (fun z34 => f_X3_narrow_36 (fun x1e e199 => bd_lt (x1e + 1 : Int32) (fun z199 => f_X3_narrow_26 k205 n_ z199 e199)) FU_ z34 x1 s_))
def f_X3_narrow_5 : Nat → bd_S → Option (Int32 × bd_S)
  | 0, _ => none
  | n_ + 1, s_ => bd_lt (s_ 55 29) (fun z6 => (if z6 = 0 then bd_b (f_X3_isLeft s_) (fun z209 s209 => bd_zr z209 s209) else bd_b (f_X3_isLeft s_) (fun z13 s13 => (if z13 = 0 then bd_b (f_X3_isLeft s13) (fun z209 s209 => bd_zr z209 s209) else bd_lt (bd_st s13 55 29 0) (fun s21 => f_X3_narrow_26 (fun e205 => f_X3_narrow_5 n_ e205) FU_ 0 s21)))))
def f_X3_narrow (s_ : bd_S) : Option (Int32 × bd_S) := bd_lt (bd_st s_ 55 29 1) (fun s2 => f_X3_narrow_5 FU_ s2)
def f_X3_start_26 (k2 : Int32 → Int32 → Int32 → bd_S → Option (Unit × bd_S)) (x3 : Int32) (x1 : Int32) (x2 : Int32) (t0 : Int32) (t1 : Int32) (s_ : bd_S) : Option (Unit × bd_S) := bd_wr s_ 79 t1 21 t0 (fun s26 => (if x3 = 20 then bd_wr s26 80 x3 21 x2 (fun s43 => bd_lt (x3 + 1 : Int32) (fun z44 => k2 z44 x1 x2 s43)) else bd_wr s26 80 x3 21 x1 (fun s43 => bd_lt (x3 + 1 : Int32) (fun z44 => k2 z44 x1 x2 s43))))
def f_X3_start_2 : Nat → Int32 → Int32 → Int32 → bd_S → Option (Unit × bd_S)
  | 0, _, _, _, _ => none
  | n_ + 1, x3, x1, x2, s_ => (if 21 ≤ x3 then some ((), s_) else (if x3 = 20 then bd_lt (-x2 : Int32) (fun z20 => f_X3_start_26 (f_X3_start_2 n_) x3 x1 x2 z20 x3 s_) else bd_lt (-x1 : Int32) (fun z25 => f_X3_start_26 (f_X3_start_2 n_) x3 x1 x2 z25 x3 s_)))
def f_X3_start (p1 : Int32) (p2 : Int32) (s_ : bd_S) : Option (Unit × bd_S) := f_X3_start_2 FU_ 0 p1 p2 s_
def f_X3_layOffs_11 (k30 : bd_S → Option (Int32 × bd_S)) : Nat → Int32 → bd_S → Option (Int32 × bd_S)
  | 0, _, _ => none
  | n_ + 1, x1, s_ => (if 20 ≤ x1 then k30 s_ else bd_wr s_ 81 x1 20 0 (fun s23 => bd_lt (x1 + 1 : Int32) (fun z24 => f_X3_layOffs_11 k30 n_ z24 s23)))
def f_X3_layOffs_32 (k82 : bd_S → Option (Int32 × bd_S)) : Nat → Int32 → bd_S → Option (Int32 × bd_S)
  | 0, _, _ => none
  | n_ + 1, x1, s_ => bd_lt (s_ 55 0) (fun z34 => (if z34 ≤ x1 then k82 s_ else bd_rd s_ 56 x1 21 (fun z46 => bd_rd s_ 57 x1 21 (fun z52 => bd_rd s_ 58 x1 21 (fun z58 => bd_lt (z52 - z58 : Int32) (fun z59 => bd_rd s_ 57 x1 21 (fun z65 => bd_rd s_ 58 x1 21 (fun z71 => bd_lt (z65 + z71 : Int32) (fun z72 => bd_b (f_X3_within z46 z59 z72 s_) (fun _ s73 => bd_lt (x1 + 1 : Int32) (fun z76 => f_X3_layOffs_32 k82 n_ z76 s73)))))))))))
def f_X3_layOffs_89 : Nat → Int32 → Int32 → bd_S → Option (Int32 × bd_S)
  | 0, _, _, _ => none
  | n_ + 1, x2, x1, s_ => (if 21 ≤ x2 then bd_zr x1 s_ else (if x1 = 0 then bd_zr x1 s_ else bd_rd s_ 79 x2 21 (fun z109 => bd_wr s_ 59 x2 21 z109 (fun s110 => bd_rd s110 80 x2 21 (fun z121 => bd_wr s110 60 x2 21 z121 (fun s122 => bd_lt (x2 + 1 : Int32) (fun z123 => f_X3_layOffs_89 n_ z123 x1 s122)))))))
def f_X3_layOffs (s_ : bd_S) : Option (Int32 × bd_S) := bd_b (f_X3_start 600 20 s_) (fun _ s6 => f_X3_layOffs_11 (fun e30 => f_X3_layOffs_32 (fun e82 => bd_b (f_X3_narrow e82) (fun z83 s83 => f_X3_layOffs_89 FU_ 0 z83 s83)) FU_ 0 e30) FU_ 0 s6)
def f_X3_star (p1 : Int32) (p2 : Int32) (s_ : bd_S) : Option (Int32 × bd_S) := bd_b (f_X3_isDay p1 s_) (fun z1 s1 => (if z1 = 0 then some ((-1), s1) else bd_b (f_X3_in p2 (-600) 600 s1) (fun z16 s16 => (if z16 = 0 then some ((-2), s16) else bd_lt (s16 55 0) (fun z26 => (if z26 = 20 then some ((-4), s16) else bd_lt (s16 55 0) (fun z42 => bd_wr s16 56 z42 21 p1 (fun s46 => bd_lt (s46 55 0) (fun z52 => bd_wr s46 57 z52 21 p2 (fun s56 => bd_lt (s56 55 0) (fun z62 => bd_lt (s56 55 4) (fun z66 => bd_wr s56 58 z62 21 z66 (fun s69 => bd_lt (s69 55 0) (fun z72 => bd_lt (z72 + 1 : Int32) (fun z76 => bd_lt (bd_st s69 55 0 z76) (fun s77 => bd_b (f_X3_layOffs s77) (fun z81 s81 => (if z81 = 0 then bd_lt (s81 55 0) (fun z94 => bd_lt (z94 - 1 : Int32) (fun z98 => bd_lt (bd_st s81 55 0 z98) (fun s99 => bd_b (f_X3_layOffs s99) (fun z103 s103 => some ((-5), s103))))) else bd_lt (s81 55 0) (fun z88 => some (z88, s81))))))))))))))))))))
def f_X3_care (p1 : Int32) (s_ : bd_S) : Option (Int32 × bd_S) := bd_b (f_X3_in p1 0 9 s_) (fun z4 s4 => (if z4 = 0 then some ((-2), s4) else bd_lt (s4 55 4) (fun z14 => bd_lt (bd_st s4 55 4 p1) (fun s20 => some (z14, s20)))))
def f_X3_off (p1 : Int32) (p2 : Int32) (s_ : bd_S) : Option (Int32 × bd_S) := bd_b (f_X3_isDay p1 s_) (fun z1 s1 => (if z1 = 0 then some ((-100000001), s1) else bd_b (f_X3_isEnd p2 s1) (fun z11 s11 => (if z11 = 0 then some ((-100000002), s11) else (if p2 = 0 then bd_rd s11 59 p1 21 (fun z31 => some (z31, s11)) else bd_rd s11 60 p1 21 (fun z40 => some (z40, s11)))))))
def f_X3_rate (p1 : Int32) (s_ : bd_S) : Option (Int32 × bd_S) := bd_b (f_X3_isEnd p1 s_) (fun z1 s1 => (if z1 = 0 then some ((-100000002), s1) else (if p1 = 0 then bd_rd s1 59 20 21 (fun z22 => some (z22, s1)) else bd_rd s1 60 20 21 (fun z32 => some (z32, s1)))))
def f_X3_slow (p1 : Int32) (p2 : Int32) (p3 : Int32) (s_ : bd_S) : Option (Int32 × bd_S) := bd_b (f_X3_in p1 0 1 s_) (fun z3 s3 => (if z3 = 0 then some ((-2), s3) else bd_b (f_X3_in p2 0 50 s3) (fun z13 s13 => (if z13 = 0 then some ((-2), s13) else bd_b (f_X3_in p3 p2 50 s13) (fun z23 s23 => (if z23 = 0 then some ((-2), s23) else bd_rd s23 61 p1 2 (fun z39 => bd_lt (100 * z39 : Int32) (fun z40 => bd_rd s23 62 p1 2 (fun z46 => bd_lt (z40 + z46 : Int32) (fun z47 => bd_wr s23 61 p1 2 p2 (fun s56 => bd_wr s56 62 p1 2 p3 (fun s63 => some (z47, s63)))))))))))))
def f_X3_slip (p1 : Int32) (p2 : Int32) (s_ : bd_S) : Option (Int32 × bd_S) := bd_b (f_X3_isDay p1 s_) (fun z1 s1 => (if z1 = 0 then some ((-100000001), s1) else bd_b (f_X3_in p2 (-60) 60 s1) (fun z15 s15 => (if z15 = 0 then some ((-100000002), s15) else bd_rd s15 63 p1 20 (fun z29 => bd_wr s15 63 p1 20 p2 (fun s37 => some (z29, s37)))))))
def f_X3_back (p1 : Int32) (p2 : Int32) (s_ : bd_S) : Option (Int32 × bd_S) := bd_b (f_X3_isDay p1 s_) (fun z1 s1 => (if z1 = 0 then some ((-1), s1) else bd_rd s1 64 p1 20 (fun z14 => (if z14 = 0 then bd_wr s1 64 p1 20 (vp_nar .boolean p2) (fun s30 => some (0, s30)) else bd_wr s1 64 p1 20 (vp_nar .boolean p2) (fun s30 => some (1, s30))))))
def f_X3_lateOf_65 (x3 : Int32) (x1 : Int32) (t0 : Int32) (s_ : bd_S) : Option (Int32 × bd_S) := bd_lt (x3 + t0 : Int32) (fun z70 => bd_rd s_ 63 x1 20 (fun z76 => bd_lt (z70 + z76 : Int32) (fun z77 => some (z77, s_))))
def f_X3_lateOf (p1 : Int32) (p2 : Int32) (s_ : bd_S) : Option (Int32 × bd_S) := bd_rd s_ 59 p1 21 (fun z5 => bd_rd s_ 60 p1 21 (fun z11 => bd_lt (z5 + z11 : Int32) (fun z12 => bd_b (f_X3_down z12 2 s_) (fun z14 s14 => (if p2 = 0 then bd_rd s14 61 0 2 (fun z27 => bd_rd s14 61 1 2 (fun z33 => bd_lt (z27 + z33 : Int32) (fun z34 => bd_rd s14 60 p1 21 (fun z40 => bd_lt (z34 - z40 : Int32) (fun z41 => f_X3_lateOf_65 z14 p1 z41 s14))))) else bd_rd s14 62 0 2 (fun z50 => bd_rd s14 62 1 2 (fun z56 => bd_lt (z50 + z56 : Int32) (fun z57 => bd_rd s14 59 p1 21 (fun z63 => bd_lt (z57 - z63 : Int32) (fun z64 => f_X3_lateOf_65 z14 p1 z64 s14))))))))))
def f_X3_late (p1 : Int32) (p2 : Int32) (s_ : bd_S) : Option (Int32 × bd_S) := bd_b (f_X3_isDay p1 s_) (fun z1 s1 => (if z1 = 0 then some ((-100000001), s1) else bd_b (f_X3_isEnd p2 s1) (fun z11 s11 => (if z11 = 0 then some ((-100000002), s11) else bd_b (f_X3_lateOf p1 p2 s11) (fun z20 s20 => some (z20, s20))))))
def f_X3_ship (s_ : bd_S) : Option (Int32 × bd_S) := bd_lt (s_ 55 12) (fun z1 => (if z1 = 4 then some ((-4), s_) else bd_lt (s_ 55 12) (fun z16 => bd_wr s_ 66 z16 4 0 (fun s20 => bd_lt (s20 55 12) (fun z23 => bd_lt (z23 + 1 : Int32) (fun z27 => bd_lt (bd_st s20 55 12 z27) (fun s28 => bd_lt (s28 55 12) (fun z32 => bd_lt (z32 - 1 : Int32) (fun z36 => some (z36, s28))))))))))
def f_X3_mark (p1 : Int32) (p2 : Int32) (p3 : Int32) (p4 : Int32) (p5 : Int32) (p6 : Int32) (s_ : bd_S) : Option (Int32 × bd_S) := bd_rd s_ 66 p1 4 (fun z5 => (if z5 = 12 then some ((-4), s_) else bd_lt (12 * p1 : Int32) (fun z17 => bd_rd s_ 66 p1 4 (fun z23 => bd_lt (z17 + z23 : Int32) (fun z24 => bd_wr s_ 67 z24 48 p2 (fun s34 => bd_wr s34 68 z24 48 p3 (fun s42 => bd_wr s42 69 z24 48 p4 (fun s51 => bd_wr s51 70 z24 48 p5 (fun s60 => bd_wr s60 71 z24 48 p6 (fun s69 => bd_rd s69 66 p1 4 (fun z76 => bd_lt (z76 + 1 : Int32) (fun z78 => bd_wr s69 66 p1 4 z78 (fun s79 => bd_rd s79 66 p1 4 (fun z85 => some (z85, s79)))))))))))))))
def f_X3_isOne (p1 : Int32) (p2 : Int32) (p3 : Int32) (s_ : bd_S) : Option (Int32 × bd_S) := bd_b (f_X3_isShip p1 s_) (fun z2 s2 => (if z2 = 0 then bd_zr 0 s2 else bd_b (f_X3_isClock p2 s2) (fun z9 s9 => (if z9 = 0 then bd_zr 0 s9 else bd_b (f_X3_isDay p3 s9) (fun z16 s16 => (if z16 = 0 then bd_zr 0 s16 else bd_zr 1 s16))))))
def f_X3_set_37 (x1 : Int32) (x2 : Int32) (x3 : Int32) (x4 : Int32) (x5 : Int32) (x6 : Int32) (t0 : Int32) (t1 : Int32) (t2 : Int32) (s_ : bd_S) : Option (Int32 × bd_S) := bd_b (f_X3_in t2 t1 t0 s_) (fun z37 s37 => (if z37 = 0 then some ((-2), s37) else bd_b (f_X3_in x6 (-9999) 9999 s37) (fun z51 s51 => (if z51 = 0 then some ((-2), s51) else bd_b (f_X3_mark x1 x2 x3 x4 x5 x6 s51) (fun z70 s70 => some (z70, s70))))))
def f_X3_set (p1 : Int32) (p2 : Int32) (p3 : Int32) (p4 : Int32) (p5 : Int32) (p6 : Int32) (s_ : bd_S) : Option (Int32 × bd_S) := bd_b (f_X3_isOne p1 p2 p3 s_) (fun z4 s4 => (if z4 = 0 then some ((-1), s4) else bd_b (f_X3_in p4 0 2 s4) (fun z16 s16 => (if z16 = 0 then some ((-2), s16) else (if p4 = 2 then f_X3_set_37 p1 p2 p3 p4 p5 p6 30 0 p5 s16 else f_X3_set_37 p1 p2 p3 p4 p5 p6 0 0 p5 s16)))))
def f_X3_meet (p1 : Int32) (p2 : Int32) (p3 : Int32) (p4 : Int32) (p5 : Int32) (s_ : bd_S) : Option (Int32 × bd_S) := bd_b (f_X3_isOne p1 p2 p3 s_) (fun z4 s4 => (if z4 = 0 then some ((-1), s4) else bd_b (f_X3_in p4 (-99999) 99999 s4) (fun z18 s18 => (if z18 = 0 then some ((-2), s18) else bd_b (f_X3_in p5 (-9999) 9999 s18) (fun z32 s32 => (if z32 = 0 then some ((-2), s32) else bd_b (f_X3_mark p1 p2 p3 3 p5 p4 s32) (fun z50 s50 => some (z50, s50))))))))
def f_X3_strike (p1 : Int32) (s_ : bd_S) : Option (Int32 × bd_S) := bd_b (f_X3_isShip p1 s_) (fun z2 s2 => (if z2 = 0 then some ((-1), s2) else bd_rd s2 66 p1 4 (fun z15 => (if z15 = 0 then some ((-5), s2) else bd_rd s2 66 p1 4 (fun z28 => bd_lt (z28 - 1 : Int32) (fun z30 => bd_wr s2 66 p1 4 z30 (fun s31 => bd_rd s31 66 p1 4 (fun z37 => some (z37, s31)))))))))
def f_X3_saw_36 (x1 : Int32) (x2 : Int32) (x3 : Int32) (t0 : Int32) (s_ : bd_S) : Option (Int32 × bd_S) := bd_lt (20 * x1 : Int32) (fun z45 => bd_lt (z45 + x2 : Int32) (fun z47 => bd_wr s_ 72 z47 80 (vp_nar .boolean x3) (fun s49 => some (t0, s49))))
def f_X3_saw (p1 : Int32) (p2 : Int32) (p3 : Int32) (s_ : bd_S) : Option (Int32 × bd_S) := bd_b (f_X3_isShip p1 s_) (fun z2 s2 => (if z2 = 0 then some ((-1), s2) else bd_b (f_X3_isDay p2 s2) (fun z9 s9 => (if z9 = 0 then some ((-1), s9) else bd_lt (20 * p1 : Int32) (fun z24 => bd_lt (z24 + p2 : Int32) (fun z26 => bd_rd s9 72 z26 80 (fun z27 => (if z27 = 0 then f_X3_saw_36 p1 p2 p3 0 s9 else f_X3_saw_36 p1 p2 p3 1 s9))))))))
def f_X3_clock_76 (x5 : Int32) (x3 : Int32) (x4 : Int32) (t0 : Int32) (s_ : bd_S) : Option (Int32 × bd_S) := (if x3 = 0 then bd_wr s_ 73 x5 12 x4 (fun s90 => some (t0, s90)) else bd_wr s_ 74 x5 12 x4 (fun s102 => some (t0, s102)))
def f_X3_clock_39 (x1 : Int32) (x2 : Int32) (x3 : Int32) (x4 : Int32) (t0 : Int32) (t1 : Int32) (t2 : Int32) (s_ : bd_S) : Option (Int32 × bd_S) := bd_b (f_X3_in t2 t1 t0 s_) (fun z39 s39 => (if z39 = 0 then some ((-2), s39) else bd_lt (3 * x1 : Int32) (fun z50 => bd_lt (z50 + x2 : Int32) (fun z52 => (if x3 = 0 then bd_rd s39 73 z52 12 (fun z65 => f_X3_clock_76 z52 x3 x4 z65 s39) else bd_rd s39 74 z52 12 (fun z75 => f_X3_clock_76 z52 x3 x4 z75 s39))))))
def f_X3_clock (p1 : Int32) (p2 : Int32) (p3 : Int32) (p4 : Int32) (s_ : bd_S) : Option (Int32 × bd_S) := bd_b (f_X3_isShip p1 s_) (fun z2 s2 => (if z2 = 0 then some ((-1), s2) else bd_b (f_X3_isClock p2 s2) (fun z9 s9 => (if z9 = 0 then some ((-1), s9) else bd_b (f_X3_in p3 0 1 s9) (fun z20 s20 => (if z20 = 0 then some ((-2), s20) else (if p3 = 0 then f_X3_clock_39 p1 p2 p3 p4 5 p3 p4 s20 else f_X3_clock_39 p1 p2 p3 p4 9 p3 p4 s20)))))))
def f_X3_warm (p1 : Int32) (p2 : Int32) (s_ : bd_S) : Option (Int32 × bd_S) := bd_b (f_X3_isDay p1 s_) (fun z1 s1 => (if z1 = 0 then some ((-1), s1) else bd_b (f_X3_in p2 0 9 s1) (fun z13 s13 => (if z13 = 0 then some ((-2), s13) else bd_rd s13 65 p1 20 (fun z27 => bd_wr s13 65 p1 20 p2 (fun s35 => some (z27, s35)))))))
def f_X3_doesCount (p1 : Int32) (p2 : Int32) (s_ : bd_S) : Option (Int32 × bd_S) := bd_rd s_ 68 p2 48 (fun z5 => bd_rd s_ 69 p2 48 (fun z12 => (if z12 = 3 then bd_zr 1 s_ else bd_lt (s_ 55 30) (fun z19 => (if z5 = z19 then bd_zr 0 s_ else bd_rd s_ 64 z5 20 (fun z30 => (if z30 = 0 then bd_zr 1 s_ else bd_lt (20 * p1 : Int32) (fun z41 => bd_lt (z41 + z5 : Int32) (fun z43 => bd_rd s_ 72 z43 80 (fun z44 => (if z44 = 0 then bd_zr 1 s_ else bd_zr 0 s_)))))))))))
def f_X3_lay_10 (k58 : Int32 → Int32 → bd_S → Option (Int32 × bd_S)) : Nat → Int32 → Int32 → Int32 → bd_S → Option (Int32 × bd_S)
  | 0, _, _, _, _ => none
  | n_ + 1, x3, x1, x2, s_ => (if 20 ≤ x3 then k58 x1 x2 s_ else bd_lt (x3 - 1 : Int32) (fun z27 => bd_rd s_ 81 z27 20 (fun z28 => bd_lt (3 * x1 : Int32) (fun z35 => bd_lt (z35 + x2 : Int32) (fun z37 => bd_rd s_ 73 z37 12 (fun z38 => bd_lt (x3 - 1 : Int32) (fun z45 => bd_rd s_ 65 z45 20 (fun z46 => bd_lt (z46 - 5 : Int32) (fun z48 => bd_lt (z38 * z48 : Int32) (fun z49 => bd_lt (z28 + z49 : Int32) (fun z50 => bd_wr s_ 81 x3 20 z50 (fun s51 => bd_lt (x3 + 1 : Int32) (fun z52 => f_X3_lay_10 k58 n_ z52 x1 x2 s51)))))))))))))
def f_X3_lay_223 (k60 : Int32 → Int32 → Int32 → bd_S → Option (Int32 × bd_S)) (x8 : Int32) (x5 : Int32) (x4 : Int32) (x3 : Int32) (x1 : Int32) (x2 : Int32) (t0 : Int32) (s_ : bd_S) : Option (Int32 × bd_S) := bd_rd s_ 71 x4 48 (fun z234 => bd_b (f_X3_lateOf x5 1 s_) (fun z239 s239 => bd_lt (z234 - z239 : Int32) (fun z242 => bd_lt (z242 - t0 : Int32) (fun z245 => bd_rd s239 71 x4 48 (fun z252 => bd_b (f_X3_lateOf x5 0 s239) (fun z257 s257 => bd_lt (z252 - z257 : Int32) (fun z260 => bd_lt (z260 - x8 : Int32) (fun z263 => bd_b (f_X3_within x5 z245 z263 s257) (fun _ s264 => bd_lt (x3 + 1 : Int32) (fun z267 => k60 z267 x1 x2 s264))))))))))
def f_X3_lay_195 (k60 : Int32 → Int32 → Int32 → bd_S → Option (Int32 × bd_S)) (x7 : Int32) (x6 : Int32) (x5 : Int32) (x4 : Int32) (x3 : Int32) (x1 : Int32) (x2 : Int32) (t0 : Int32) (s_ : bd_S) : Option (Int32 × bd_S) := (if x7 = 0 then f_X3_lay_223 k60 t0 x5 x4 x3 x1 x2 2 s_ else (if x7 = 1 then f_X3_lay_223 k60 t0 x5 x4 x3 x1 x2 1 s_ else bd_lt (7 * x6 : Int32) (fun z220 => bd_lt (z220 + 3 : Int32) (fun z222 => f_X3_lay_223 k60 t0 x5 x4 x3 x1 x2 z222 s_))))
def f_X3_lay_60 : Nat → Int32 → Int32 → Int32 → bd_S → Option (Int32 × bd_S)
  | 0, _, _, _, _ => none
  | n_ + 1, x3, x1, x2, s_ => bd_rd s_ 66 x1 4 (fun z66 => (if z66 ≤ x3 then bd_b (f_X3_narrow s_) (fun z274 s274 => bd_zr z274 s274) else bd_lt (12 * x1 : Int32) (fun z73 => bd_lt (z73 + x3 : Int32) (fun z75 => bd_rd s_ 67 z75 48 (fun z84 => (if z84 = x2 then bd_b (f_X3_doesCount x1 z75 s_) (fun z93 s93 => (if z93 = 0 then bd_lt (x3 + 1 : Int32) (fun z267 => f_X3_lay_60 n_ z267 x1 x2 s93) else bd_rd s93 68 z75 48 (fun z105 => bd_rd s93 70 z75 48 (fun z114 => bd_rd s93 69 z75 48 (fun z123 => (if z123 = 3 then bd_rd s93 71 z75 48 (fun z141 => bd_lt (4 * z114 : Int32) (fun z145 => bd_lt (z141 - z145 : Int32) (fun z146 => bd_lt (z146 - 4 : Int32) (fun z148 => bd_rd s93 71 z75 48 (fun z155 => bd_lt (4 * z114 : Int32) (fun z159 => bd_lt (z155 - z159 : Int32) (fun z160 => bd_lt (z160 + 4 : Int32) (fun z162 => bd_b (f_X3_within z105 z148 z162 s93) (fun _ s163 => bd_lt (x3 + 1 : Int32) (fun z267 => f_X3_lay_60 n_ z267 x1 x2 s163)))))))))) else (if z123 = 0 then f_X3_lay_195 (f_X3_lay_60 n_) z123 z114 z105 z75 x3 x1 x2 (-2) s93 else (if z123 = 1 then f_X3_lay_195 (f_X3_lay_60 n_) z123 z114 z105 z75 x3 x1 x2 (-1) s93 else bd_lt (5 * z114 : Int32) (fun z192 => bd_lt (z192 - 3 : Int32) (fun z194 => f_X3_lay_195 (f_X3_lay_60 n_) z123 z114 z105 z75 x3 x1 x2 z194 s93)))))))))) else bd_lt (x3 + 1 : Int32) (fun z267 => f_X3_lay_60 n_ z267 x1 x2 s_)))))))
def f_X3_lay (p1 : Int32) (p2 : Int32) (s_ : bd_S) : Option (Int32 × bd_S) := bd_b (f_X3_start 99999 99 s_) (fun _ s5 => f_X3_lay_10 (fun x1e x2e e58 => f_X3_lay_60 FU_ 0 x1e x2e e58) FU_ 1 p1 p2 s5)
def f_X3_jumped (p1 : Int32) (p2 : Int32) (s_ : bd_S) : Option (Int32 × bd_S) := bd_b (f_X3_isShip p1 s_) (fun z2 s2 => (if z2 = 0 then some ((-1), s2) else bd_b (f_X3_isClock p2 s2) (fun z9 s9 => (if z9 = 0 then some ((-1), s9) else bd_b (f_X3_lay p1 p2 s9) (fun z20 s20 => (if z20 = 0 then some (1, s20) else some (0, s20)))))))
def f_X3_ahead (p1 : Int32) (p2 : Int32) (p3 : Int32) (p4 : Int32) (s_ : bd_S) : Option (Int32 × bd_S) := bd_b (f_X3_isOne p1 p2 p3 s_) (fun z4 s4 => (if z4 = 0 then some ((-100000001), s4) else bd_b (f_X3_isEnd p4 s4) (fun z15 s15 => (if z15 = 0 then some ((-100000002), s15) else bd_b (f_X3_lay p1 p2 s15) (fun z27 s27 => (if z27 = 0 then some ((-100000003), s27) else (if p4 = 0 then bd_rd s27 79 p3 21 (fun z48 => some (z48, s27)) else bd_rd s27 80 p3 21 (fun z57 => some (z57, s27)))))))))
def f_X3_gains (p1 : Int32) (p2 : Int32) (p3 : Int32) (s_ : bd_S) : Option (Int32 × bd_S) := bd_b (f_X3_isShip p1 s_) (fun z2 s2 => (if z2 = 0 then some ((-100000001), s2) else bd_b (f_X3_isClock p2 s2) (fun z9 s9 => (if z9 = 0 then some ((-100000001), s9) else bd_b (f_X3_isEnd p3 s9) (fun z19 s19 => (if z19 = 0 then some ((-100000002), s19) else bd_b (f_X3_lay p1 p2 s19) (fun z31 s31 => (if z31 = 0 then some ((-100000003), s31) else (if p3 = 0 then bd_rd s31 79 20 21 (fun z52 => some (z52, s31)) else bd_rd s31 80 20 21 (fun z62 => some (z62, s31)))))))))))
def f_X3_placeOf (p1 : Int32) (p2 : Int32) (p3 : Int32) (s_ : bd_S) : Option (Int32 × bd_S) := (if p3 = 0 then bd_rd s_ 80 p1 21 (fun z10 => bd_lt (p2 - z10 : Int32) (fun z11 => bd_b (f_X3_down z11 4 s_) (fun z13 s13 => some (z13, s13)))) else bd_rd s_ 79 p1 21 (fun z25 => bd_lt (p2 - z25 : Int32) (fun z26 => bd_b (f_X3_up z26 4 s_) (fun z28 s28 => some (z28, s28)))))
def f_X3_place (p1 : Int32) (p2 : Int32) (p3 : Int32) (p4 : Int32) (p5 : Int32) (s_ : bd_S) : Option (Int32 × bd_S) := bd_b (f_X3_isOne p1 p2 p3 s_) (fun z4 s4 => (if z4 = 0 then some ((-100000001), s4) else bd_b (f_X3_in p4 (-99999) 99999 s4) (fun z19 s19 => (if z19 = 0 then some ((-100000002), s19) else bd_b (f_X3_isEnd p5 s19) (fun z27 s27 => (if z27 = 0 then some ((-100000002), s27) else bd_b (f_X3_lay p1 p2 s27) (fun z39 s39 => (if z39 = 0 then some ((-100000003), s39) else bd_b (f_X3_placeOf p3 p4 p5 s39) (fun z51 s51 => some (z51, s51))))))))))
def f_X3_reads (p1 : Int32) (p2 : Int32) (p3 : Int32) (p4 : Int32) (p5 : Int32) (s_ : bd_S) : Option (Int32 × bd_S) := bd_b (f_X3_isShip p1 s_) (fun z2 s2 => (if z2 = 0 then some ((-1), s2) else bd_b (f_X3_isDay p2 s2) (fun z9 s9 => (if z9 = 0 then some ((-1), s9) else bd_b (f_X3_in p3 (-99999) 99999 s9) (fun z22 s22 => (if z22 = 0 then some ((-2), s22) else bd_b (f_X3_in p4 (-99999) 99999 s22) (fun z34 s34 => (if z34 = 0 then some ((-2), s34) else bd_b (f_X3_in p5 (-99999) 99999 s34) (fun z46 s46 => (if z46 = 0 then some ((-2), s46) else bd_wr s46 75 p1 4 p2 (fun s61 => bd_lt (3 * p1 : Int32) (fun z68 => bd_wr s61 76 z68 12 p3 (fun s70 => bd_lt (3 * p1 : Int32) (fun z77 => bd_lt (z77 + 1 : Int32) (fun z79 => bd_wr s70 76 z79 12 p4 (fun s82 => bd_lt (3 * p1 : Int32) (fun z89 => bd_lt (z89 + 2 : Int32) (fun z91 => bd_wr s82 76 z91 12 p5 (fun s94 => some (1, s94))))))))))))))))))))
def f_X3_layPlaces_2 : Nat → Int32 → Int32 → bd_S → Option (Unit × bd_S)
  | 0, _, _, _ => none
  | n_ + 1, x2, x1, s_ => (if 3 ≤ x2 then some ((), s_) else bd_b (f_X3_lay x1 x2 s_) (fun z15 s15 => bd_wr s15 84 x2 3 (vp_nar .boolean z15) (fun s18 => bd_rd s18 75 x1 4 (fun z30 => bd_lt (3 * x1 : Int32) (fun z37 => bd_lt (z37 + x2 : Int32) (fun z39 => bd_rd s18 76 z39 12 (fun z40 => bd_b (f_X3_placeOf z30 z40 0 s18) (fun z42 s42 => bd_wr s42 82 x2 3 z42 (fun s45 => bd_rd s45 75 x1 4 (fun z57 => bd_lt (3 * x1 : Int32) (fun z64 => bd_lt (z64 + x2 : Int32) (fun z66 => bd_rd s45 76 z66 12 (fun z67 => bd_b (f_X3_placeOf z57 z67 1 s45) (fun z69 s69 => bd_wr s69 83 x2 3 z69 (fun s72 => bd_lt (x2 + 1 : Int32) (fun z73 => f_X3_layPlaces_2 n_ z73 x1 s72))))))))))))))))
def f_X3_layPlaces (p1 : Int32) (s_ : bd_S) : Option (Unit × bd_S) := f_X3_layPlaces_2 FU_ 0 p1 s_
def f_X3_agrees_76 (k16 : Int32 → Int32 → Int32 → bd_S → Option (Int32 × bd_S)) (x2 : Int32) (x3 : Int32) (x1 : Int32) (t0 : Int32) (s_ : bd_S) : Option (Int32 × bd_S) := bd_lt (bd_st s_ 55 34 t0) (fun s76 => bd_rd s76 83 x3 3 (fun z85 => bd_lt (s76 55 35) (fun z87 => (if z87 ≤ z85 then bd_lt (s76 55 35) (fun z103 => bd_lt (bd_st s76 55 35 z103) (fun s106 => bd_lt (x3 + 1 : Int32) (fun z109 => k16 z109 x2 x1 s106))) else bd_rd s76 83 x3 3 (fun z98 => bd_lt (bd_st s76 55 35 z98) (fun s106 => bd_lt (x3 + 1 : Int32) (fun z109 => k16 z109 x2 x1 s106)))))))
def f_X3_agrees_48 (k16 : Int32 → Int32 → Int32 → bd_S → Option (Int32 × bd_S)) (x3 : Int32) (x1 : Int32) (t0 : Int32) (s_ : bd_S) : Option (Int32 × bd_S) := bd_rd s_ 82 x3 3 (fun z55 => bd_lt (s_ 55 34) (fun z57 => (if z55 ≤ z57 then bd_lt (s_ 55 34) (fun z73 => f_X3_agrees_76 k16 t0 x3 x1 z73 s_) else bd_rd s_ 82 x3 3 (fun z68 => f_X3_agrees_76 k16 t0 x3 x1 z68 s_))))
def f_X3_agrees_47 (k16 : Int32 → Int32 → Int32 → bd_S → Option (Int32 × bd_S)) (x3 : Int32) (x1 : Int32) (s_ : bd_S) : Option (Int32 × bd_S) := f_X3_agrees_48 k16 x3 x1 0 s_
def f_X3_agrees_16 (k115 : Int32 → bd_S → Option (Int32 × bd_S)) : Nat → Int32 → Int32 → Int32 → bd_S → Option (Int32 × bd_S)
  | 0, _, _, _, _ => none
  | n_ + 1, x3, x2, x1, s_ => (if 3 ≤ x3 then k115 x2 s_ else bd_lt (x1 >>> (x3 &&& 31) : Int32) (fun z23 => bd_lt (z23 &&& 1 : Int32) (fun z25 => (if z25 = 1 then (if x2 = 0 then f_X3_agrees_47 (f_X3_agrees_16 k115 n_) x3 x1 s_ else bd_rd s_ 84 x3 3 (fun z39 => (if z39 = 0 then f_X3_agrees_47 (f_X3_agrees_16 k115 n_) x3 x1 s_ else f_X3_agrees_48 (f_X3_agrees_16 k115 n_) x3 x1 1 s_))) else bd_lt (x3 + 1 : Int32) (fun z109 => f_X3_agrees_16 k115 n_ z109 x2 x1 s_)))))
def f_X3_agrees (p1 : Int32) (s_ : bd_S) : Option (Int32 × bd_S) := bd_lt (bd_st s_ 55 34 (-100000000)) (fun s3 => bd_lt (bd_st s3 55 35 100000000) (fun s9 => f_X3_agrees_16 (fun x2e e115 => (if x2e = 0 then bd_zr 0 e115 else bd_lt (e115 55 34) (fun z120 => bd_lt (e115 55 35) (fun z124 => (if z124 < z120 then bd_zr 0 e115 else bd_zr 1 e115))))) FU_ 0 1 p1 s9))
def f_X3_weightOf_15 : Nat → Int32 → Int32 → Int32 → Int32 → bd_S → Option (Int32 × bd_S)
  | 0, _, _, _, _, _ => none
  | n_ + 1, x4, x3, x1, x2, s_ => (if 3 ≤ x4 then some (x3, s_) else bd_lt (3 * x1 : Int32) (fun z27 => bd_lt (z27 + x4 : Int32) (fun z30 => bd_rd s_ 74 z30 12 (fun z31 => bd_lt (x2 >>> (x4 &&& 31) : Int32) (fun z38 => bd_lt (z38 &&& 1 : Int32) (fun z40 => (if z40 = 1 then bd_lt (10 - z31 : Int32) (fun z49 => bd_lt (x3 * z49 : Int32) (fun z55 => bd_lt (x4 + 1 : Int32) (fun z57 => f_X3_weightOf_15 n_ z57 z55 x1 x2 s_))) else bd_lt (x3 * z31 : Int32) (fun z55 => bd_lt (x4 + 1 : Int32) (fun z57 => f_X3_weightOf_15 n_ z57 z55 x1 x2 s_)))))))))
def f_X3_weightOf (p1 : Int32) (p2 : Int32) (s_ : bd_S) : Option (Int32 × bd_S) := bd_b (f_X3_agrees p2 s_) (fun z2 s2 => (if z2 = 0 then some (0, s2) else f_X3_weightOf_15 FU_ 0 1 p1 p2 s2))
def f_X3_weight (p1 : Int32) (p2 : Int32) (s_ : bd_S) : Option (Int32 × bd_S) := bd_b (f_X3_isShip p1 s_) (fun z2 s2 => (if z2 = 0 then some ((-1), s2) else bd_b (f_X3_in p2 0 7 s2) (fun z14 s14 => (if z14 = 0 then some ((-2), s14) else bd_b (f_X3_layPlaces p1 s14) (fun _ s25 => bd_b (f_X3_weightOf p1 p2 s25) (fun z31 s31 => some (z31, s31)))))))
def f_X3_odds_44 (k70 : Int64 → Int32 → Int32 → Int32 → bd_S → Option (Int64 × bd_S)) : Nat → Int32 → Int64 → Int32 → Int32 → Int32 → bd_S → Option (Int64 × bd_S)
  | 0, _, _, _, _, _, _ => none
  | n_ + 1, x6, x4, x1, x2, x3, s_ => (if 8 ≤ x6 then k70 x4 x1 x2 x3 s_ else bd_b (f_X3_weightOf x1 x6 s_) (fun z57 s57 => bd_lt (Int32.toInt64 z57) (fun z60 => bd_lt (x4 + z60 : Int64) (fun z61 => bd_lt (x6 + 1 : Int32) (fun z64 => f_X3_odds_44 k70 n_ z64 z61 x1 x2 x3 s57)))))
def f_X3_odds_87 (k112 : Int64 → Int64 → Int64 → Int32 → bd_S → Option (Int64 × bd_S)) : Nat → Int64 → Int64 → Int64 → Int64 → Int32 → bd_S → Option (Int64 × bd_S)
  | 0, _, _, _, _, _, _ => none
  | n_ + 1, x10, x8, x6, x4, x3, s_ => bd_lt (lg_cmp x10 0) (fun z90 => (if z90 = 0 then k112 x8 x6 x4 x3 s_ else bd_rml x8 x10 (fun z98 => f_X3_odds_87 k112 n_ z98 x10 x6 x4 x3 s_)))
def f_X3_odds (p1 : Int32) (p2 : Int32) (p3 : Int32) (s_ : bd_S) : Option (Int64 × bd_S) := bd_b (f_X3_isShip p1 s_) (fun z2 s2 => (if z2 = 0 then some ((-1000000000000000001), s2) else bd_b (f_X3_in p2 0 7 s2) (fun z16 s16 => (if z16 = 0 then some ((-1000000000000000002), s16) else bd_b (f_X3_isEnd p3 s16) (fun z23 s23 => (if z23 = 0 then some ((-1000000000000000002), s23) else bd_b (f_X3_layPlaces p1 s23) (fun _ s35 => f_X3_odds_44 (fun x4e x1e x2e x3e e70 => bd_b (f_X3_weightOf x1e x2e e70) (fun z73 s73 => bd_lt (Int32.toInt64 z73) (fun z76 => f_X3_odds_87 (fun x8e x6e x4e x3e e112 => (if x3e = 0 then bd_dvl x6e x8e (fun z120 => some (z120, e112)) else bd_dvl x4e x8e (fun z128 => some (z128, e112)))) FU_ x4e z76 z76 x4e x3e s73))) FU_ 0 0 p1 p2 p3 s35)))))))
def f_X3_bits (p0 : Int32) (s_ : bd_S) : Option (Int32 × bd_S) := bd_lt (p0 &&& 1 : Int32) (fun z2 => bd_lt (p0 >>> (1 &&& 31) : Int32) (fun z5 => bd_lt (z5 &&& 1 : Int32) (fun z7 => bd_lt (z2 + z7 : Int32) (fun z8 => bd_lt (p0 >>> (2 &&& 31) : Int32) (fun z11 => bd_lt (z11 &&& 1 : Int32) (fun z13 => bd_lt (z8 + z13 : Int32) (fun z14 => some (z14, s_))))))))
def f_X3_bestOf_9 : Nat → Int32 → Int32 → Int32 → bd_S → Option (Int32 × bd_S)
  | 0, _, _, _, _ => none
  | n_ + 1, x3, x2, x1, s_ => (if 8 ≤ x3 then some (x2, s_) else bd_b (f_X3_weightOf x1 x3 s_) (fun z18 s18 => bd_b (f_X3_weightOf x1 x2 s18) (fun z24 s24 => bd_lt (z18 - z24 : Int32) (fun z27 => (if 0 < z27 then bd_lt (x3 + 1 : Int32) (fun z57 => f_X3_bestOf_9 n_ z57 x3 x1 s24) else (if z27 = 0 then bd_b (f_X3_bits x3 s24) (fun z41 s41 => bd_b (f_X3_bits x2 s41) (fun z45 s45 => (if z41 ≤ z45 then bd_lt (x3 + 1 : Int32) (fun z57 => f_X3_bestOf_9 n_ z57 x2 x1 s45) else bd_lt (x3 + 1 : Int32) (fun z57 => f_X3_bestOf_9 n_ z57 x3 x1 s45)))) else bd_lt (x3 + 1 : Int32) (fun z57 => f_X3_bestOf_9 n_ z57 x2 x1 s24)))))))
def f_X3_bestOf (p1 : Int32) (s_ : bd_S) : Option (Int32 × bd_S) := bd_b (f_X3_layPlaces p1 s_) (fun _ s2 => f_X3_bestOf_9 FU_ 1 0 p1 s2)
def f_X3_best (p1 : Int32) (s_ : bd_S) : Option (Int32 × bd_S) := bd_b (f_X3_isShip p1 s_) (fun z2 s2 => (if z2 = 0 then some ((-1), s2) else bd_b (f_X3_bestOf p1 s2) (fun z10 s10 => some (z10, s10))))
def f_X3_landfall (p1 : Int32) (p2 : Int32) (s_ : bd_S) : Option (Int32 × bd_S) := bd_b (f_X3_isShip p1 s_) (fun z2 s2 => (if z2 = 0 then some ((-100000001), s2) else bd_b (f_X3_isEnd p2 s2) (fun z12 s12 => (if z12 = 0 then some ((-100000002), s12) else bd_b (f_X3_bestOf p1 s12) (fun z23 s23 => (if z23 = 0 then some ((-100000003), s23) else bd_b (f_X3_agrees z23 s23) (fun z36 s36 => (if p2 = 0 then bd_lt (s36 55 34) (fun z45 => some (z45, s36)) else bd_lt (s36 55 35) (fun z52 => some (z52, s36))))))))))
def f_X3_suspects_15 (k66 : Int32 → Int32 → Int32 → bd_S → Option (Int32 × bd_S)) : Nat → Int32 → Int32 → Int32 → Int32 → bd_S → Option (Int32 × bd_S)
  | 0, _, _, _, _, _ => none
  | n_ + 1, x4, x3, x2, x1, s_ => (if 3 ≤ x4 then k66 x3 x2 x1 s_ else bd_b (f_X3_lay x3 x4 s_) (fun z25 s25 => (if z25 = 0 then bd_lt (bd_st s25 55 30 x1) (fun s33 => bd_b (f_X3_lay x3 x4 s33) (fun z41 s41 => (if z41 = 0 then bd_lt (x2 + 0 : Int32) (fun z52 => bd_lt (bd_st s41 55 30 (-6)) (fun s57 => bd_lt (x4 + 1 : Int32) (fun z60 => f_X3_suspects_15 k66 n_ z60 x3 z52 x1 s57))) else bd_lt (x2 + 1 : Int32) (fun z52 => bd_lt (bd_st s41 55 30 (-6)) (fun s57 => bd_lt (x4 + 1 : Int32) (fun z60 => f_X3_suspects_15 k66 n_ z60 x3 z52 x1 s57)))))) else bd_lt (x4 + 1 : Int32) (fun z60 => f_X3_suspects_15 k66 n_ z60 x3 x2 x1 s25))))
def f_X3_suspects_4 : Nat → Int32 → Int32 → Int32 → bd_S → Option (Int32 × bd_S)
  | 0, _, _, _, _ => none
  | n_ + 1, x3, x2, x1, s_ => bd_lt (s_ 55 12) (fun z6 => (if z6 ≤ x3 then some (x2, s_) else f_X3_suspects_15 (fun x3e x2e x1e e66 => bd_lt (x3e + 1 : Int32) (fun z66 => f_X3_suspects_4 n_ z66 x2e x1e e66)) FU_ 0 x3 x2 x1 s_))
def f_X3_suspects (p1 : Int32) (s_ : bd_S) : Option (Int32 × bd_S) := f_X3_suspects_4 FU_ 0 0 p1 s_
def f_X3_suspect (p1 : Int32) (s_ : bd_S) : Option (Int32 × bd_S) := bd_b (f_X3_isDay p1 s_) (fun z1 s1 => (if z1 = 0 then some ((-1), s1) else bd_b (f_X3_suspects p1 s1) (fun z9 s9 => some (z9, s9))))
def f_X3_worst_46 (k19 : Int32 → Int32 → Int32 → Int32 → bd_S → Option (Int32 × bd_S)) (x5 : Int32) (x4 : Int32) (x3 : Int32) (x1 : Int32) (t0 : Int32) (s_ : bd_S) : Option (Int32 × bd_S) := (if x5 ≤ x3 then bd_lt (x4 + 1 : Int32) (fun z60 => k19 z60 x3 t0 x1 s_) else bd_lt (x4 + 1 : Int32) (fun z60 => k19 z60 x5 t0 x1 s_))
def f_X3_worst_19 (k66 : Int32 → Int32 → Int32 → bd_S → Option (Int32 × bd_S)) : Nat → Int32 → Int32 → Int32 → Int32 → bd_S → Option (Int32 × bd_S)
  | 0, _, _, _, _, _ => none
  | n_ + 1, x4, x3, x2, x1, s_ => (if 20 ≤ x4 then k66 x3 x2 x1 s_ else bd_b (f_X3_suspects x4 s_) (fun z29 s29 => (if z29 ≤ x3 then f_X3_worst_46 (f_X3_worst_19 k66 n_) z29 x4 x3 x1 x2 s29 else f_X3_worst_46 (f_X3_worst_19 k66 n_) z29 x4 x3 x1 x4 s29)))
def f_X3_worst (p1 : Int32) (s_ : bd_S) : Option (Int32 × bd_S) := bd_b (f_X3_in p1 0 1 s_) (fun z3 s3 => (if z3 = 0 then some ((-2), s3) else f_X3_worst_19 (fun x3e x2e x1e e66 => (if x1e = 0 then some (x2e, e66) else some (x3e, e66))) FU_ 0 (-1) 0 p1 s3))
def f_X3_isSetBy_6 : Nat → Int32 → Int32 → Int32 → Int32 → Int32 → bd_S → Option (Int32 × bd_S)
  | 0, _, _, _, _, _, _ => none
  | n_ + 1, x5, x4, x1, x2, x3, s_ => bd_rd s_ 66 x1 4 (fun z13 => (if z13 ≤ x5 then bd_zr x4 s_ else bd_lt (12 * x1 : Int32) (fun z20 => bd_lt (z20 + x5 : Int32) (fun z23 => (if x4 = 0 then bd_rd s_ 67 z23 48 (fun z37 => (if z37 = x2 then bd_rd s_ 69 z23 48 (fun z48 => (if 3 ≤ z48 then bd_lt (x5 + 1 : Int32) (fun z81 => f_X3_isSetBy_6 n_ z81 0 x1 x2 x3 s_) else bd_rd s_ 68 z23 48 (fun z59 => (if z59 = x3 then bd_b (f_X3_doesCount x1 z23 s_) (fun z68 s68 => (if z68 = 0 then bd_lt (x5 + 1 : Int32) (fun z81 => f_X3_isSetBy_6 n_ z81 0 x1 x2 x3 s68) else bd_lt (x5 + 1 : Int32) (fun z81 => f_X3_isSetBy_6 n_ z81 1 x1 x2 x3 s68))) else bd_lt (x5 + 1 : Int32) (fun z81 => f_X3_isSetBy_6 n_ z81 0 x1 x2 x3 s_))))) else bd_lt (x5 + 1 : Int32) (fun z81 => f_X3_isSetBy_6 n_ z81 0 x1 x2 x3 s_))) else bd_lt (x5 + 1 : Int32) (fun z81 => f_X3_isSetBy_6 n_ z81 1 x1 x2 x3 s_))))))
def f_X3_isSetBy (p1 : Int32) (p2 : Int32) (p3 : Int32) (s_ : bd_S) : Option (Int32 × bd_S) := f_X3_isSetBy_6 FU_ 0 0 p1 p2 p3 s_
def f_X3_allGo_12 (k44 : Int32 → Int32 → bd_S → Option (Int32 × bd_S)) : Nat → Int32 → Int32 → Int32 → bd_S → Option (Int32 × bd_S)
  | 0, _, _, _, _ => none
  | n_ + 1, x3, x2, x1, s_ => (if 3 ≤ x3 then k44 x2 x1 s_ else bd_b (f_X3_isSetBy x2 x3 x1 s_) (fun z21 s21 => (if z21 = 0 then bd_lt (x3 + 1 : Int32) (fun z38 => f_X3_allGo_12 k44 n_ z38 x2 x1 s21) else bd_b (f_X3_lay x2 x3 s21) (fun z30 s30 => (if z30 = 0 then bd_zr 0 s30 else bd_lt (x3 + 1 : Int32) (fun z38 => f_X3_allGo_12 k44 n_ z38 x2 x1 s30))))))
def f_X3_allGo_2 : Nat → Int32 → Int32 → bd_S → Option (Int32 × bd_S)
  | 0, _, _, _ => none
  | n_ + 1, x2, x1, s_ => bd_lt (s_ 55 12) (fun z4 => (if z4 ≤ x2 then bd_zr 1 s_ else f_X3_allGo_12 (fun x2e x1e e44 => bd_lt (x2e + 1 : Int32) (fun z44 => f_X3_allGo_2 n_ z44 x1e e44)) FU_ 0 x2 x1 s_))
def f_X3_allGo (p1 : Int32) (s_ : bd_S) : Option (Int32 × bd_S) := f_X3_allGo_2 FU_ 0 p1 s_
def f_X3_slipped_65 (k34 : Int32 → Int32 → Int32 → Int32 → Int32 → bd_S → Option (Int32 × bd_S)) (x5 : Int32) (x4 : Int32) (x3 : Int32) (x1 : Int32) (x2 : Int32) (t0 : Int32) (s_ : bd_S) : Option (Int32 × bd_S) := bd_wr s_ 63 x1 20 t0 (fun s74 => bd_b (f_X3_allGo x1 s74) (fun z77 s77 => (if z77 = 0 then bd_lt (x5 + 1 : Int32) (fun z92 => k34 z92 x4 x3 x1 x2 s77) else bd_lt (x5 + 1 : Int32) (fun z92 => k34 z92 t0 x3 x1 x2 s77))))
def f_X3_slipped_34 (k98 : Int32 → Int32 → Int32 → bd_S → Option (Int32 × bd_S)) : Nat → Int32 → Int32 → Int32 → Int32 → Int32 → bd_S → Option (Int32 × bd_S)
  | 0, _, _, _, _, _, _ => none
  | n_ + 1, x5, x4, x3, x1, x2, s_ => (if 121 ≤ x5 then k98 x4 x3 x1 s_ else (if x4 = (-100000005) then (if x2 = 0 then bd_lt (x5 - 60 : Int32) (fun z56 => f_X3_slipped_65 (f_X3_slipped_34 k98 n_) x5 x4 x3 x1 x2 z56 s_) else bd_lt (60 - x5 : Int32) (fun z64 => f_X3_slipped_65 (f_X3_slipped_34 k98 n_) x5 x4 x3 x1 x2 z64 s_)) else k98 x4 x3 x1 s_))
def f_X3_slipped (p1 : Int32) (p2 : Int32) (s_ : bd_S) : Option (Int32 × bd_S) := bd_b (f_X3_isDay p1 s_) (fun z1 s1 => (if z1 = 0 then some ((-100000001), s1) else bd_b (f_X3_isEnd p2 s1) (fun z11 s11 => (if z11 = 0 then some ((-100000002), s11) else bd_rd s11 63 p1 20 (fun z25 => f_X3_slipped_34 (fun x4e x3e x1e e98 => bd_wr e98 63 x1e 20 x3e (fun s104 => some (x4e, s104))) FU_ 0 (-100000005) z25 p1 p2 s11)))))
def f_X3_isMarked_5 : Nat → Int32 → Int32 → Int32 → Int32 → bd_S → Option (Int32 × bd_S)
  | 0, _, _, _, _, _ => none
  | n_ + 1, x4, x3, x1, x2, s_ => bd_rd s_ 66 x1 4 (fun z12 => (if z12 ≤ x4 then bd_zr x3 s_ else bd_lt (12 * x1 : Int32) (fun z19 => bd_lt (z19 + x4 : Int32) (fun z22 => (if x3 = 0 then bd_rd s_ 67 z22 48 (fun z35 => (if z35 = x2 then bd_b (f_X3_doesCount x1 z22 s_) (fun z44 s44 => (if z44 = 0 then bd_lt (x4 + 1 : Int32) (fun z56 => f_X3_isMarked_5 n_ z56 0 x1 x2 s44) else bd_lt (x4 + 1 : Int32) (fun z56 => f_X3_isMarked_5 n_ z56 1 x1 x2 s44))) else bd_lt (x4 + 1 : Int32) (fun z56 => f_X3_isMarked_5 n_ z56 0 x1 x2 s_))) else bd_lt (x4 + 1 : Int32) (fun z56 => f_X3_isMarked_5 n_ z56 1 x1 x2 s_))))))
def f_X3_isMarked (p1 : Int32) (p2 : Int32) (s_ : bd_S) : Option (Int32 × bd_S) := f_X3_isMarked_5 FU_ 0 0 p1 p2 s_
def f_X3_ask_78 (k29 : Int32 → Int32 → Int32 → Int32 → Int32 → bd_S → Option (Int32 × bd_S)) (x5 : Int32) (x4 : Int32) (x1 : Int32) (s_ : bd_S) : Option (Int32 × bd_S) := bd_lt (10 * x4 : Int32) (fun z82 => bd_lt (z82 + x5 : Int32) (fun z85 => bd_rd s_ 80 x1 21 (fun z92 => bd_rd s_ 79 x1 21 (fun z98 => bd_lt (z92 - z98 : Int32) (fun z99 => bd_lt (x5 + 1 : Int32) (fun z101 => k29 z101 x4 z99 z85 x1 s_))))))
def f_X3_ask_29 (k107 : Int32 → Int32 → Int32 → Int32 → bd_S → Option (Int32 × bd_S)) : Nat → Int32 → Int32 → Int32 → Int32 → Int32 → bd_S → Option (Int32 × bd_S)
  | 0, _, _, _, _, _, _ => none
  | n_ + 1, x5, x4, x3, x2, x1, s_ => (if 3 ≤ x5 then k107 x4 x3 x2 x1 s_ else bd_b (f_X3_isMarked x4 x5 s_) (fun z40 s40 => (if z40 = 0 then bd_lt (x5 + 1 : Int32) (fun z101 => f_X3_ask_29 k107 n_ z101 x4 x3 x2 x1 s40) else bd_b (f_X3_lay x4 x5 s40) (fun z51 s51 => (if z51 = 0 then bd_lt (x5 + 1 : Int32) (fun z101 => f_X3_ask_29 k107 n_ z101 x4 x3 x2 x1 s51) else (if x2 < 0 then f_X3_ask_78 (f_X3_ask_29 k107 n_) x5 x4 x1 s51 else bd_rd s51 80 x1 21 (fun z66 => bd_rd s51 79 x1 21 (fun z72 => bd_lt (z66 - z72 : Int32) (fun z73 => (if x3 ≤ z73 then bd_lt (x5 + 1 : Int32) (fun z101 => f_X3_ask_29 k107 n_ z101 x4 x3 x2 x1 s51) else f_X3_ask_78 (f_X3_ask_29 k107 n_) x5 x4 x1 s51))))))))))
def f_X3_ask_17 : Nat → Int32 → Int32 → Int32 → Int32 → bd_S → Option (Int32 × bd_S)
  | 0, _, _, _, _, _ => none
  | n_ + 1, x4, x3, x2, x1, s_ => bd_lt (s_ 55 12) (fun z20 => (if z20 ≤ x4 then some (x2, s_) else f_X3_ask_29 (fun x4e x3e x2e x1e e107 => bd_lt (x4e + 1 : Int32) (fun z107 => f_X3_ask_17 n_ z107 x3e x2e x1e e107)) FU_ 0 x4 x3 x2 x1 s_))
def f_X3_ask (p1 : Int32) (s_ : bd_S) : Option (Int32 × bd_S) := bd_b (f_X3_isDay p1 s_) (fun z1 s1 => (if z1 = 0 then some ((-1), s1) else f_X3_ask_17 FU_ 0 0 (-6) p1 s1))
def f_X3_carry_125 (x6 : Int32) (x1 : Int32) (t0 : Int32) (s_ : bd_S) : Option (Int32 × bd_S) := (if x6 ≤ t0 then bd_wr s_ 77 x1 4 x6 (fun s144 => bd_wr s144 78 x1 4 t0 (fun s152 => some (1, s152))) else some ((-5), s_))
def f_X3_carry_101 (x7 : Int32) (x1 : Int32) (t0 : Int32) (s_ : bd_S) : Option (Int32 × bd_S) := bd_rd s_ 78 x1 4 (fun z110 => (if z110 ≤ x7 then bd_rd s_ 78 x1 4 (fun z124 => f_X3_carry_125 t0 x1 z124 s_) else f_X3_carry_125 t0 x1 x7 s_))
def f_X3_carry (p1 : Int32) (p2 : Int32) (p3 : Int32) (p4 : Int32) (p5 : Int32) (s_ : bd_S) : Option (Int32 × bd_S) := bd_b (f_X3_in p1 0 3 s_) (fun z3 s3 => (if z3 = 0 then some ((-1), s3) else bd_b (f_X3_isOne p2 p3 p4 s3) (fun z14 s14 => (if z14 = 0 then some ((-1), s14) else bd_b (f_X3_in p5 (-9999) 9999 s14) (fun z30 s30 => (if z30 = 0 then some ((-2), s30) else bd_b (f_X3_lay p2 p3 s30) (fun z42 s42 => (if z42 = 0 then some ((-3), s42) else bd_rd s42 80 p4 21 (fun z59 => bd_lt (p5 - z59 : Int32) (fun z60 => bd_lt (z60 - 2 : Int32) (fun z62 => bd_rd s42 79 p4 21 (fun z73 => bd_lt (p5 - z73 : Int32) (fun z74 => bd_lt (z74 + 2 : Int32) (fun z76 => bd_rd s42 77 p1 4 (fun z86 => (if z62 ≤ z86 then bd_rd s42 77 p1 4 (fun z100 => f_X3_carry_101 z76 p1 z100 s42) else f_X3_carry_101 z76 p1 z62 s42))))))))))))))))
def f_X3_port (p1 : Int32) (p2 : Int32) (s_ : bd_S) : Option (Int32 × bd_S) := bd_b (f_X3_in p1 0 3 s_) (fun z3 s3 => (if z3 = 0 then some ((-100000001), s3) else bd_b (f_X3_isEnd p2 s3) (fun z13 s13 => (if z13 = 0 then some ((-100000002), s13) else (if p2 = 0 then bd_rd s13 77 p1 4 (fun z33 => some (z33, s13)) else bd_rd s13 78 p1 4 (fun z42 => some (z42, s13)))))))
def f_X3_told_4 (k35 : Int32 → Int32 → bd_S → Option (Int32 × bd_S)) : Nat → Int32 → Int32 → Int32 → bd_S → Option (Int32 × bd_S)
  | 0, _, _, _, _ => none
  | n_ + 1, x3, x2, x1, s_ => (if 20 ≤ x3 then k35 x2 x1 s_ else bd_rd s_ 64 x3 20 (fun z16 => (if z16 = 0 then bd_lt (x2 ||| 0 : Int32) (fun z27 => bd_lt (x3 + 1 : Int32) (fun z29 => f_X3_told_4 k35 n_ z29 z27 x1 s_)) else bd_lt (1 <<< (x3 &&& 31) : Int32) (fun z22 => bd_lt (x2 ||| z22 : Int32) (fun z27 => bd_lt (x3 + 1 : Int32) (fun z29 => f_X3_told_4 k35 n_ z29 z27 x1 s_))))))
def f_X3_told (p1 : Int32) (s_ : bd_S) : Option (Int32 × bd_S) := f_X3_told_4 (fun x2e x1e e35 => bd_b (f_X3_in x1e 4 7 e35) (fun z39 s39 => (if z39 = 0 then (if x1e = 0 then bd_lt (s39 55 0) (fun z74 => some (z74, s39)) else (if x1e = 1 then bd_lt (s39 55 12) (fun z86 => some (z86, s39)) else (if x1e = 2 then bd_lt (s39 55 4) (fun z98 => some (z98, s39)) else (if x1e = 3 then some (x2e, s39) else some ((-2), s39))))) else bd_lt (x1e - 4 : Int32) (fun z48 => bd_b (f_X3_isShip z48 s39) (fun z49 s49 => (if z49 = 0 then some ((-6), s49) else bd_lt (x1e - 4 : Int32) (fun z61 => bd_rd s49 66 z61 4 (fun z62 => some (z62, s49))))))))) FU_ 0 0 p1 s_
end
