/-! ===== names: the skeleton's PART A, then what the TURN printed of the program (classes, fields, methods) ===== -/
-- ===== PART A: goes FIRST, ahead of the names: the tables' words, and 'selects' of the private methods out of them =====
/-- a private method of a class that the tables say can be made, by its rows of tables_1 -/
def lw_okq (q : MethodName × Nat) : Prop := (q.1.cls ≠ "java/lang/invoke/MethodHandle" ∧ q.1.cls ≠ "java/lang/invoke/VarHandle") ∧ Cond.instantiable q.1.cls q.2 ∈ tables_1 ∧ Cond.privateMethod q.1 ∈ tables_1 ∧ Cond.instanceMethod q.1 ∈ tables_1
theorem lw_p0 : lw_okq (⟨"ToldScenes", "forgetBest", "()V"⟩, 9) := ⟨⟨by decide +kernel, by decide +kernel⟩, List.mem_of_getElem? (i := 12) (by decide +kernel), List.mem_of_getElem? (i := 225) (by decide +kernel), List.mem_of_getElem? (i := 226) (by decide +kernel)⟩
theorem lw_p1 : lw_okq (⟨"ToldScenes$Cast", "isFirstToEnd", "(I)Z"⟩, 5) := ⟨⟨by decide +kernel, by decide +kernel⟩, List.mem_of_getElem? (i := 20) (by decide +kernel), List.mem_of_getElem? (i := 319) (by decide +kernel), List.mem_of_getElem? (i := 320) (by decide +kernel)⟩
theorem lw_p2 : lw_okq (⟨"ToldScenes$Cast", "gapBehind", "(J)J"⟩, 5) := ⟨⟨by decide +kernel, by decide +kernel⟩, List.mem_of_getElem? (i := 20) (by decide +kernel), List.mem_of_getElem? (i := 323) (by decide +kernel), List.mem_of_getElem? (i := 324) (by decide +kernel)⟩
theorem lw_p3 : lw_okq (⟨"ToldScenes$Look", "begin", "()V"⟩, 15) := ⟨⟨by decide +kernel, by decide +kernel⟩, List.mem_of_getElem? (i := 51) (by decide +kernel), List.mem_of_getElem? (i := 343) (by decide +kernel), List.mem_of_getElem? (i := 344) (by decide +kernel)⟩
theorem lw_p4 : lw_okq (⟨"ToldScenes$Look", "whyWrong", "(LToldScenes$Cast;I)I"⟩, 15) := ⟨⟨by decide +kernel, by decide +kernel⟩, List.mem_of_getElem? (i := 51) (by decide +kernel), List.mem_of_getElem? (i := 350) (by decide +kernel), List.mem_of_getElem? (i := 351) (by decide +kernel)⟩
theorem lw_p5 : lw_okq (⟨"ToldScenes$Look", "isOnSide", "(LToldScenes$Cast;I)Z"⟩, 15) := ⟨⟨by decide +kernel, by decide +kernel⟩, List.mem_of_getElem? (i := 51) (by decide +kernel), List.mem_of_getElem? (i := 359) (by decide +kernel), List.mem_of_getElem? (i := 360) (by decide +kernel)⟩
theorem lw_p6 : lw_okq (⟨"ToldScenes$Look", "take", "(LToldScenes$Cast;I)V"⟩, 15) := ⟨⟨by decide +kernel, by decide +kernel⟩, List.mem_of_getElem? (i := 51) (by decide +kernel), List.mem_of_getElem? (i := 367) (by decide +kernel), List.mem_of_getElem? (i := 368) (by decide +kernel)⟩
theorem lw_p7 : lw_okq (⟨"ToldScenes$Look", "openFrame", "()V"⟩, 15) := ⟨⟨by decide +kernel, by decide +kernel⟩, List.mem_of_getElem? (i := 51) (by decide +kernel), List.mem_of_getElem? (i := 371) (by decide +kernel), List.mem_of_getElem? (i := 372) (by decide +kernel)⟩
theorem lw_p8 : lw_okq (⟨"ToldScenes$Look", "closeFrame", "()V"⟩, 15) := ⟨⟨by decide +kernel, by decide +kernel⟩, List.mem_of_getElem? (i := 51) (by decide +kernel), List.mem_of_getElem? (i := 378) (by decide +kernel), List.mem_of_getElem? (i := 379) (by decide +kernel)⟩
theorem lw_p9 : lw_okq (⟨"ToldScenes$Look", "tell", "(LToldScenes$Cast;I)V"⟩, 15) := ⟨⟨by decide +kernel, by decide +kernel⟩, List.mem_of_getElem? (i := 51) (by decide +kernel), List.mem_of_getElem? (i := 382) (by decide +kernel), List.mem_of_getElem? (i := 383) (by decide +kernel)⟩
theorem lw_p10 : lw_okq (⟨"ToldScenes$LeastOrder", "fillRest", "(LToldScenes$Cast;II)V"⟩, 5) := ⟨⟨by decide +kernel, by decide +kernel⟩, List.mem_of_getElem? (i := 114) (by decide +kernel), List.mem_of_getElem? (i := 415) (by decide +kernel), List.mem_of_getElem? (i := 416) (by decide +kernel)⟩
theorem lw_p11 : lw_okq (⟨"ToldScenes$LeastOrder", "nextBehind", "(LToldScenes$Cast;III)I"⟩, 5) := ⟨⟨by decide +kernel, by decide +kernel⟩, List.mem_of_getElem? (i := 114) (by decide +kernel), List.mem_of_getElem? (i := 429) (by decide +kernel), List.mem_of_getElem? (i := 430) (by decide +kernel)⟩
theorem lw_p12 : lw_okq (⟨"ToldScenes$LeastOrder", "restBy", "(LToldScenes$Cast;III)J"⟩, 5) := ⟨⟨by decide +kernel, by decide +kernel⟩, List.mem_of_getElem? (i := 114) (by decide +kernel), List.mem_of_getElem? (i := 434) (by decide +kernel), List.mem_of_getElem? (i := 435) (by decide +kernel)⟩
theorem lw_p13 : lw_okq (⟨"ToldScenes$LeastOrder", "follow", "(LToldScenes$Cast;)V"⟩, 5) := ⟨⟨by decide +kernel, by decide +kernel⟩, List.mem_of_getElem? (i := 114) (by decide +kernel), List.mem_of_getElem? (i := 439) (by decide +kernel), List.mem_of_getElem? (i := 440) (by decide +kernel)⟩
theorem lw_p14 : lw_okq (⟨"ToldScenes", "findFrames", "()V"⟩, 9) := ⟨⟨by decide +kernel, by decide +kernel⟩, List.mem_of_getElem? (i := 12) (by decide +kernel), List.mem_of_getElem? (i := 447) (by decide +kernel), List.mem_of_getElem? (i := 448) (by decide +kernel)⟩
theorem lw_p15 : lw_okq (⟨"ToldScenes", "writeRow", "()I"⟩, 9) := ⟨⟨by decide +kernel, by decide +kernel⟩, List.mem_of_getElem? (i := 12) (by decide +kernel), List.mem_of_getElem? (i := 451) (by decide +kernel), List.mem_of_getElem? (i := 452) (by decide +kernel)⟩
def lw_privs_1 : List (MethodName × Nat) := [(⟨"ToldScenes", "forgetBest", "()V"⟩, 9), (⟨"ToldScenes$Cast", "isFirstToEnd", "(I)Z"⟩, 5), (⟨"ToldScenes$Cast", "gapBehind", "(J)J"⟩, 5), (⟨"ToldScenes$Look", "begin", "()V"⟩, 15), (⟨"ToldScenes$Look", "whyWrong", "(LToldScenes$Cast;I)I"⟩, 15), (⟨"ToldScenes$Look", "isOnSide", "(LToldScenes$Cast;I)Z"⟩, 15), (⟨"ToldScenes$Look", "take", "(LToldScenes$Cast;I)V"⟩, 15), (⟨"ToldScenes$Look", "openFrame", "()V"⟩, 15), (⟨"ToldScenes$Look", "closeFrame", "()V"⟩, 15), (⟨"ToldScenes$Look", "tell", "(LToldScenes$Cast;I)V"⟩, 15), (⟨"ToldScenes$LeastOrder", "fillRest", "(LToldScenes$Cast;II)V"⟩, 5), (⟨"ToldScenes$LeastOrder", "nextBehind", "(LToldScenes$Cast;III)I"⟩, 5), (⟨"ToldScenes$LeastOrder", "restBy", "(LToldScenes$Cast;III)J"⟩, 5), (⟨"ToldScenes$LeastOrder", "follow", "(LToldScenes$Cast;)V"⟩, 5), (⟨"ToldScenes", "findFrames", "()V"⟩, 9), (⟨"ToldScenes", "writeRow", "()I"⟩, 9)]
theorem lw_r1 : ∀ q ∈ lw_privs_1, lw_okq q := List.forall_mem_cons.mpr ⟨lw_p0, List.forall_mem_cons.mpr ⟨lw_p1, List.forall_mem_cons.mpr ⟨lw_p2, List.forall_mem_cons.mpr ⟨lw_p3, List.forall_mem_cons.mpr ⟨lw_p4, List.forall_mem_cons.mpr ⟨lw_p5, List.forall_mem_cons.mpr ⟨lw_p6, List.forall_mem_cons.mpr ⟨lw_p7, List.forall_mem_cons.mpr ⟨lw_p8, List.forall_mem_cons.mpr ⟨lw_p9, List.forall_mem_cons.mpr ⟨lw_p10, List.forall_mem_cons.mpr ⟨lw_p11, List.forall_mem_cons.mpr ⟨lw_p12, List.forall_mem_cons.mpr ⟨lw_p13, List.forall_mem_cons.mpr ⟨lw_p14, List.forall_mem_cons.mpr ⟨lw_p15, fun _ h => absurd h List.not_mem_nil⟩⟩⟩⟩⟩⟩⟩⟩⟩⟩⟩⟩⟩⟩⟩⟩
theorem lw_p16 : lw_okq (⟨"ToldScenes$LeastFrames", "takeRow", "(LToldScenes$Cast;[II)V"⟩, 11) := ⟨⟨by decide +kernel, by decide +kernel⟩, List.mem_of_getElem? (i := 141) (by decide +kernel), List.mem_of_getElem? (i := 460) (by decide +kernel), List.mem_of_getElem? (i := 461) (by decide +kernel)⟩
theorem lw_p17 : lw_okq (⟨"ToldScenes$LeastFrames", "setFrom", "(LToldScenes$Cast;IIJI)V"⟩, 11) := ⟨⟨by decide +kernel, by decide +kernel⟩, List.mem_of_getElem? (i := 141) (by decide +kernel), List.mem_of_getElem? (i := 465) (by decide +kernel), List.mem_of_getElem? (i := 466) (by decide +kernel)⟩
theorem lw_p18 : lw_okq (⟨"ToldScenes$LeastFrames", "keep", "(IJI)V"⟩, 11) := ⟨⟨by decide +kernel, by decide +kernel⟩, List.mem_of_getElem? (i := 141) (by decide +kernel), List.mem_of_getElem? (i := 469) (by decide +kernel), List.mem_of_getElem? (i := 470) (by decide +kernel)⟩
theorem lw_p19 : lw_okq (⟨"ToldScenes$LeastFrames", "closeAll", "()V"⟩, 11) := ⟨⟨by decide +kernel, by decide +kernel⟩, List.mem_of_getElem? (i := 141) (by decide +kernel), List.mem_of_getElem? (i := 476) (by decide +kernel), List.mem_of_getElem? (i := 477) (by decide +kernel)⟩
theorem lw_p20 : lw_okq (⟨"ToldScenes$LeastFrames", "setBeside", "(LToldScenes$Cast;IIIJI)V"⟩, 11) := ⟨⟨by decide +kernel, by decide +kernel⟩, List.mem_of_getElem? (i := 141) (by decide +kernel), List.mem_of_getElem? (i := 480) (by decide +kernel), List.mem_of_getElem? (i := 481) (by decide +kernel)⟩
theorem lw_p21 : lw_okq (⟨"ToldScenes$LeastFrames", "setWithin", "(LToldScenes$Cast;IIIJI)V"⟩, 11) := ⟨⟨by decide +kernel, by decide +kernel⟩, List.mem_of_getElem? (i := 141) (by decide +kernel), List.mem_of_getElem? (i := 486) (by decide +kernel), List.mem_of_getElem? (i := 487) (by decide +kernel)⟩
theorem lw_p22 : lw_okq (⟨"ToldScenes", "changePlaces", "(I)V"⟩, 9) := ⟨⟨by decide +kernel, by decide +kernel⟩, List.mem_of_getElem? (i := 12) (by decide +kernel), List.mem_of_getElem? (i := 494) (by decide +kernel), List.mem_of_getElem? (i := 495) (by decide +kernel)⟩
theorem lw_p23 : lw_okq (⟨"ToldScenesModel", "isScene", "(I)Z"⟩, 34) := ⟨⟨by decide +kernel, by decide +kernel⟩, List.mem_of_getElem? (i := 514) (by decide +kernel), List.mem_of_getElem? (i := 639) (by decide +kernel), List.mem_of_getElem? (i := 640) (by decide +kernel)⟩
theorem lw_p24 : lw_okq (⟨"ToldScenesModel", "endOf", "(I)J"⟩, 34) := ⟨⟨by decide +kernel, by decide +kernel⟩, List.mem_of_getElem? (i := 514) (by decide +kernel), List.mem_of_getElem? (i := 644) (by decide +kernel), List.mem_of_getElem? (i := 645) (by decide +kernel)⟩
theorem lw_p25 : lw_okq (⟨"ToldScenesModel", "mayMove", "(II)Z"⟩, 34) := ⟨⟨by decide +kernel, by decide +kernel⟩, List.mem_of_getElem? (i := 514) (by decide +kernel), List.mem_of_getElem? (i := 652) (by decide +kernel), List.mem_of_getElem? (i := 653) (by decide +kernel)⟩
theorem lw_p26 : lw_okq (⟨"ToldScenesModel", "setOf", "(II)I"⟩, 34) := ⟨⟨by decide +kernel, by decide +kernel⟩, List.mem_of_getElem? (i := 514) (by decide +kernel), List.mem_of_getElem? (i := 675) (by decide +kernel), List.mem_of_getElem? (i := 676) (by decide +kernel)⟩
theorem lw_p27 : lw_okq (⟨"ToldScenesModel", "jumpOf", "(II)J"⟩, 34) := ⟨⟨by decide +kernel, by decide +kernel⟩, List.mem_of_getElem? (i := 514) (by decide +kernel), List.mem_of_getElem? (i := 692) (by decide +kernel), List.mem_of_getElem? (i := 693) (by decide +kernel)⟩
theorem lw_p28 : lw_okq (⟨"ToldScenesModel", "lastEnd", "()J"⟩, 34) := ⟨⟨by decide +kernel, by decide +kernel⟩, List.mem_of_getElem? (i := 514) (by decide +kernel), List.mem_of_getElem? (i := 700) (by decide +kernel), List.mem_of_getElem? (i := 701) (by decide +kernel)⟩
theorem lw_p29 : lw_okq (⟨"ToldScenesModel", "firstFrom", "()J"⟩, 34) := ⟨⟨by decide +kernel, by decide +kernel⟩, List.mem_of_getElem? (i := 514) (by decide +kernel), List.mem_of_getElem? (i := 704) (by decide +kernel), List.mem_of_getElem? (i := 705) (by decide +kernel)⟩
theorem lw_p30 : lw_okq (⟨"ToldScenesModel", "gaps", "()J"⟩, 34) := ⟨⟨by decide +kernel, by decide +kernel⟩, List.mem_of_getElem? (i := 514) (by decide +kernel), List.mem_of_getElem? (i := 708) (by decide +kernel), List.mem_of_getElem? (i := 709) (by decide +kernel)⟩
theorem lw_p31 : lw_okq (⟨"ToldScenesModel", "toldTo", "(J)J"⟩, 34) := ⟨⟨by decide +kernel, by decide +kernel⟩, List.mem_of_getElem? (i := 514) (by decide +kernel), List.mem_of_getElem? (i := 712) (by decide +kernel), List.mem_of_getElem? (i := 713) (by decide +kernel)⟩
def lw_privs_2 : List (MethodName × Nat) := [(⟨"ToldScenes$LeastFrames", "takeRow", "(LToldScenes$Cast;[II)V"⟩, 11), (⟨"ToldScenes$LeastFrames", "setFrom", "(LToldScenes$Cast;IIJI)V"⟩, 11), (⟨"ToldScenes$LeastFrames", "keep", "(IJI)V"⟩, 11), (⟨"ToldScenes$LeastFrames", "closeAll", "()V"⟩, 11), (⟨"ToldScenes$LeastFrames", "setBeside", "(LToldScenes$Cast;IIIJI)V"⟩, 11), (⟨"ToldScenes$LeastFrames", "setWithin", "(LToldScenes$Cast;IIIJI)V"⟩, 11), (⟨"ToldScenes", "changePlaces", "(I)V"⟩, 9), (⟨"ToldScenesModel", "isScene", "(I)Z"⟩, 34), (⟨"ToldScenesModel", "endOf", "(I)J"⟩, 34), (⟨"ToldScenesModel", "mayMove", "(II)Z"⟩, 34), (⟨"ToldScenesModel", "setOf", "(II)I"⟩, 34), (⟨"ToldScenesModel", "jumpOf", "(II)J"⟩, 34), (⟨"ToldScenesModel", "lastEnd", "()J"⟩, 34), (⟨"ToldScenesModel", "firstFrom", "()J"⟩, 34), (⟨"ToldScenesModel", "gaps", "()J"⟩, 34), (⟨"ToldScenesModel", "toldTo", "(J)J"⟩, 34)]
theorem lw_r2 : ∀ q ∈ lw_privs_2, lw_okq q := List.forall_mem_cons.mpr ⟨lw_p16, List.forall_mem_cons.mpr ⟨lw_p17, List.forall_mem_cons.mpr ⟨lw_p18, List.forall_mem_cons.mpr ⟨lw_p19, List.forall_mem_cons.mpr ⟨lw_p20, List.forall_mem_cons.mpr ⟨lw_p21, List.forall_mem_cons.mpr ⟨lw_p22, List.forall_mem_cons.mpr ⟨lw_p23, List.forall_mem_cons.mpr ⟨lw_p24, List.forall_mem_cons.mpr ⟨lw_p25, List.forall_mem_cons.mpr ⟨lw_p26, List.forall_mem_cons.mpr ⟨lw_p27, List.forall_mem_cons.mpr ⟨lw_p28, List.forall_mem_cons.mpr ⟨lw_p29, List.forall_mem_cons.mpr ⟨lw_p30, List.forall_mem_cons.mpr ⟨lw_p31, fun _ h => absurd h List.not_mem_nil⟩⟩⟩⟩⟩⟩⟩⟩⟩⟩⟩⟩⟩⟩⟩⟩
theorem lw_p32 : lw_okq (⟨"ToldScenesModel", "nextFrom", "(J)J"⟩, 34) := ⟨⟨by decide +kernel, by decide +kernel⟩, List.mem_of_getElem? (i := 514) (by decide +kernel), List.mem_of_getElem? (i := 716) (by decide +kernel), List.mem_of_getElem? (i := 717) (by decide +kernel)⟩
theorem lw_p33 : lw_okq (⟨"ToldScenesModel", "looksNow", "()V"⟩, 34) := ⟨⟨by decide +kernel, by decide +kernel⟩, List.mem_of_getElem? (i := 514) (by decide +kernel), List.mem_of_getElem? (i := 732) (by decide +kernel), List.mem_of_getElem? (i := 733) (by decide +kernel)⟩
theorem lw_p34 : lw_okq (⟨"ToldScenesModel", "looks", "([II)V"⟩, 34) := ⟨⟨by decide +kernel, by decide +kernel⟩, List.mem_of_getElem? (i := 514) (by decide +kernel), List.mem_of_getElem? (i := 736) (by decide +kernel), List.mem_of_getElem? (i := 737) (by decide +kernel)⟩
theorem lw_p35 : lw_okq (⟨"ToldScenesModel", "reasonOf", "(I)I"⟩, 34) := ⟨⟨by decide +kernel, by decide +kernel⟩, List.mem_of_getElem? (i := 514) (by decide +kernel), List.mem_of_getElem? (i := 740) (by decide +kernel), List.mem_of_getElem? (i := 741) (by decide +kernel)⟩
theorem lw_p36 : lw_okq (⟨"ToldScenesModel", "reasonOfScene", "(I)I"⟩, 34) := ⟨⟨by decide +kernel, by decide +kernel⟩, List.mem_of_getElem? (i := 514) (by decide +kernel), List.mem_of_getElem? (i := 744) (by decide +kernel), List.mem_of_getElem? (i := 745) (by decide +kernel)⟩
theorem lw_p37 : lw_okq (⟨"ToldScenesModel", "isOnSide", "(I)Z"⟩, 34) := ⟨⟨by decide +kernel, by decide +kernel⟩, List.mem_of_getElem? (i := 514) (by decide +kernel), List.mem_of_getElem? (i := 748) (by decide +kernel), List.mem_of_getElem? (i := 749) (by decide +kernel)⟩
theorem lw_p38 : lw_okq (⟨"ToldScenesModel", "sideBy", "(II)I"⟩, 34) := ⟨⟨by decide +kernel, by decide +kernel⟩, List.mem_of_getElem? (i := 514) (by decide +kernel), List.mem_of_getElem? (i := 752) (by decide +kernel), List.mem_of_getElem? (i := 753) (by decide +kernel)⟩
theorem lw_p39 : lw_okq (⟨"ToldScenesModel", "goesOn", "(I)V"⟩, 34) := ⟨⟨by decide +kernel, by decide +kernel⟩, List.mem_of_getElem? (i := 514) (by decide +kernel), List.mem_of_getElem? (i := 756) (by decide +kernel), List.mem_of_getElem? (i := 757) (by decide +kernel)⟩
theorem lw_p40 : lw_okq (⟨"ToldScenesModel", "opens", "()V"⟩, 34) := ⟨⟨by decide +kernel, by decide +kernel⟩, List.mem_of_getElem? (i := 514) (by decide +kernel), List.mem_of_getElem? (i := 760) (by decide +kernel), List.mem_of_getElem? (i := 761) (by decide +kernel)⟩
theorem lw_p41 : lw_okq (⟨"ToldScenesModel", "tells", "(I)V"⟩, 34) := ⟨⟨by decide +kernel, by decide +kernel⟩, List.mem_of_getElem? (i := 514) (by decide +kernel), List.mem_of_getElem? (i := 764) (by decide +kernel), List.mem_of_getElem? (i := 765) (by decide +kernel)⟩
theorem lw_p42 : lw_okq (⟨"ToldScenesModel", "findOrder", "()J"⟩, 34) := ⟨⟨by decide +kernel, by decide +kernel⟩, List.mem_of_getElem? (i := 514) (by decide +kernel), List.mem_of_getElem? (i := 783) (by decide +kernel), List.mem_of_getElem? (i := 784) (by decide +kernel)⟩
theorem lw_p43 : lw_okq (⟨"ToldScenesModel", "findRest", "()V"⟩, 34) := ⟨⟨by decide +kernel, by decide +kernel⟩, List.mem_of_getElem? (i := 514) (by decide +kernel), List.mem_of_getElem? (i := 787) (by decide +kernel), List.mem_of_getElem? (i := 788) (by decide +kernel)⟩
theorem lw_p44 : lw_okq (⟨"ToldScenesModel", "mayCome", "(II)Z"⟩, 34) := ⟨⟨by decide +kernel, by decide +kernel⟩, List.mem_of_getElem? (i := 514) (by decide +kernel), List.mem_of_getElem? (i := 792) (by decide +kernel), List.mem_of_getElem? (i := 793) (by decide +kernel)⟩
theorem lw_p45 : lw_okq (⟨"ToldScenesModel", "byNext", "(III)J"⟩, 34) := ⟨⟨by decide +kernel, by decide +kernel⟩, List.mem_of_getElem? (i := 514) (by decide +kernel), List.mem_of_getElem? (i := 796) (by decide +kernel), List.mem_of_getElem? (i := 797) (by decide +kernel)⟩
theorem lw_p46 : lw_okq (⟨"ToldScenesModel", "findRow", "()V"⟩, 34) := ⟨⟨by decide +kernel, by decide +kernel⟩, List.mem_of_getElem? (i := 514) (by decide +kernel), List.mem_of_getElem? (i := 804) (by decide +kernel), List.mem_of_getElem? (i := 805) (by decide +kernel)⟩
theorem lw_p47 : lw_okq (⟨"ToldScenesModel", "findFramed", "()J"⟩, 34) := ⟨⟨by decide +kernel, by decide +kernel⟩, List.mem_of_getElem? (i := 514) (by decide +kernel), List.mem_of_getElem? (i := 808) (by decide +kernel), List.mem_of_getElem? (i := 809) (by decide +kernel)⟩
def lw_privs_3 : List (MethodName × Nat) := [(⟨"ToldScenesModel", "nextFrom", "(J)J"⟩, 34), (⟨"ToldScenesModel", "looksNow", "()V"⟩, 34), (⟨"ToldScenesModel", "looks", "([II)V"⟩, 34), (⟨"ToldScenesModel", "reasonOf", "(I)I"⟩, 34), (⟨"ToldScenesModel", "reasonOfScene", "(I)I"⟩, 34), (⟨"ToldScenesModel", "isOnSide", "(I)Z"⟩, 34), (⟨"ToldScenesModel", "sideBy", "(II)I"⟩, 34), (⟨"ToldScenesModel", "goesOn", "(I)V"⟩, 34), (⟨"ToldScenesModel", "opens", "()V"⟩, 34), (⟨"ToldScenesModel", "tells", "(I)V"⟩, 34), (⟨"ToldScenesModel", "findOrder", "()J"⟩, 34), (⟨"ToldScenesModel", "findRest", "()V"⟩, 34), (⟨"ToldScenesModel", "mayCome", "(II)Z"⟩, 34), (⟨"ToldScenesModel", "byNext", "(III)J"⟩, 34), (⟨"ToldScenesModel", "findRow", "()V"⟩, 34), (⟨"ToldScenesModel", "findFramed", "()J"⟩, 34)]
theorem lw_r3 : ∀ q ∈ lw_privs_3, lw_okq q := List.forall_mem_cons.mpr ⟨lw_p32, List.forall_mem_cons.mpr ⟨lw_p33, List.forall_mem_cons.mpr ⟨lw_p34, List.forall_mem_cons.mpr ⟨lw_p35, List.forall_mem_cons.mpr ⟨lw_p36, List.forall_mem_cons.mpr ⟨lw_p37, List.forall_mem_cons.mpr ⟨lw_p38, List.forall_mem_cons.mpr ⟨lw_p39, List.forall_mem_cons.mpr ⟨lw_p40, List.forall_mem_cons.mpr ⟨lw_p41, List.forall_mem_cons.mpr ⟨lw_p42, List.forall_mem_cons.mpr ⟨lw_p43, List.forall_mem_cons.mpr ⟨lw_p44, List.forall_mem_cons.mpr ⟨lw_p45, List.forall_mem_cons.mpr ⟨lw_p46, List.forall_mem_cons.mpr ⟨lw_p47, fun _ h => absurd h List.not_mem_nil⟩⟩⟩⟩⟩⟩⟩⟩⟩⟩⟩⟩⟩⟩⟩⟩
theorem lw_p48 : lw_okq (⟨"ToldScenesModel", "makes", "()V"⟩, 34) := ⟨⟨by decide +kernel, by decide +kernel⟩, List.mem_of_getElem? (i := 514) (by decide +kernel), List.mem_of_getElem? (i := 812) (by decide +kernel), List.mem_of_getElem? (i := 813) (by decide +kernel)⟩
theorem lw_p49 : lw_okq (⟨"ToldScenesModel", "puts", "(I)V"⟩, 34) := ⟨⟨by decide +kernel, by decide +kernel⟩, List.mem_of_getElem? (i := 514) (by decide +kernel), List.mem_of_getElem? (i := 816) (by decide +kernel), List.mem_of_getElem? (i := 817) (by decide +kernel)⟩
theorem lw_p50 : lw_okq (⟨"ToldScenesModel", "keeps", "()V"⟩, 34) := ⟨⟨by decide +kernel, by decide +kernel⟩, List.mem_of_getElem? (i := 514) (by decide +kernel), List.mem_of_getElem? (i := 820) (by decide +kernel), List.mem_of_getElem? (i := 821) (by decide +kernel)⟩
theorem lw_p51 : lw_okq (⟨"ToldScenesModel", "goesNext", "()Z"⟩, 34) := ⟨⟨by decide +kernel, by decide +kernel⟩, List.mem_of_getElem? (i := 514) (by decide +kernel), List.mem_of_getElem? (i := 824) (by decide +kernel), List.mem_of_getElem? (i := 825) (by decide +kernel)⟩
theorem lw_p52 : lw_okq (⟨"ToldScenesModel", "depthAt", "(I)I"⟩, 34) := ⟨⟨by decide +kernel, by decide +kernel⟩, List.mem_of_getElem? (i := 514) (by decide +kernel), List.mem_of_getElem? (i := 828) (by decide +kernel), List.mem_of_getElem? (i := 829) (by decide +kernel)⟩
theorem lw_p53 : lw_okq (⟨"ToldScenesModel", "changes", "(I)V"⟩, 34) := ⟨⟨by decide +kernel, by decide +kernel⟩, List.mem_of_getElem? (i := 514) (by decide +kernel), List.mem_of_getElem? (i := 836) (by decide +kernel), List.mem_of_getElem? (i := 837) (by decide +kernel)⟩
theorem lw_p54 : lw_okq (⟨"ToldScenesModel", "manyOpen", "()I"⟩, 34) := ⟨⟨by decide +kernel, by decide +kernel⟩, List.mem_of_getElem? (i := 514) (by decide +kernel), List.mem_of_getElem? (i := 844) (by decide +kernel), List.mem_of_getElem? (i := 845) (by decide +kernel)⟩
def lw_privs_4 : List (MethodName × Nat) := [(⟨"ToldScenesModel", "makes", "()V"⟩, 34), (⟨"ToldScenesModel", "puts", "(I)V"⟩, 34), (⟨"ToldScenesModel", "keeps", "()V"⟩, 34), (⟨"ToldScenesModel", "goesNext", "()Z"⟩, 34), (⟨"ToldScenesModel", "depthAt", "(I)I"⟩, 34), (⟨"ToldScenesModel", "changes", "(I)V"⟩, 34), (⟨"ToldScenesModel", "manyOpen", "()I"⟩, 34)]
theorem lw_r4 : ∀ q ∈ lw_privs_4, lw_okq q := List.forall_mem_cons.mpr ⟨lw_p48, List.forall_mem_cons.mpr ⟨lw_p49, List.forall_mem_cons.mpr ⟨lw_p50, List.forall_mem_cons.mpr ⟨lw_p51, List.forall_mem_cons.mpr ⟨lw_p52, List.forall_mem_cons.mpr ⟨lw_p53, List.forall_mem_cons.mpr ⟨lw_p54, fun _ h => absurd h List.not_mem_nil⟩⟩⟩⟩⟩⟩⟩
def lw_privs : List (MethodName × Nat) := lw_privs_1 ++ (lw_privs_2 ++ (lw_privs_3 ++ (lw_privs_4)))
def lw_tbl : List Cond := k2_sels lw_privs ++ tables_1
theorem lw_privs_ok : ∀ q ∈ lw_privs, lw_okq q := by
  show ∀ q ∈ lw_privs_1 ++ (lw_privs_2 ++ (lw_privs_3 ++ (lw_privs_4))), lw_okq q
  exact List.forall_mem_append.mpr ⟨lw_r1, List.forall_mem_append.mpr ⟨lw_r2, List.forall_mem_append.mpr ⟨lw_r3, lw_r4⟩⟩⟩
def RX0 : String := "ToldScenes$Cast"
def TX0 : u_T := fun k => match k with
  | 0 => ("ToldScenes$Cast", "from", "[I", true)
  | 1 => ("ToldScenes$Cast", "length", "[I", true)
  | 2 => ("ToldScenes$Cast", "gives", "[I", true)
  | 3 => ("ToldScenes$Cast", "needs", "[I", true)
  | _ => ("ToldScenes$Cast", "count", "I", false)
def tyX0 : Nat → FieldType := fun k => match k with
  | 0 => .array .int
  | 1 => .array .int
  | 2 => .array .int
  | 3 => .array .int
  | _ => .int
abbrev wsX00 : List Cond := u_ws RX0 TX0 5
theorem nmX0 : ∀ a, a < 5 → ∀ b, b < 5 → a ≠ b → (TX0 a).2.1 ≠ (TX0 b).2.1 := by decide +kernel
theorem tyX0_ok : ∀ k, k < 5 → parseFieldDescriptor (TX0 k).2.2.1 = some (tyX0 k) := by decide +kernel
abbrev cX0_init : ByteArray := prog_2_method_1_code
def yX0_init : MethodName := ⟨RX0, "<init>", "()V"⟩
abbrev cX0_has : ByteArray := prog_2_method_2_code
def yX0_has : MethodName := ⟨RX0, "has", "(I)Z"⟩
abbrev cX0_append : ByteArray := prog_2_method_3_code
def yX0_append : MethodName := ⟨RX0, "append", "(IIII)I"⟩
abbrev cX0_endOf : ByteArray := prog_2_method_4_code
def yX0_endOf : MethodName := ⟨RX0, "endOf", "(I)J"⟩
abbrev cX0_canMove : ByteArray := prog_2_method_5_code
def yX0_canMove : MethodName := ⟨RX0, "canMove", "(II)Z"⟩
abbrev cX0_jumpBetween : ByteArray := prog_2_method_6_code
def yX0_jumpBetween : MethodName := ⟨RX0, "jumpBetween", "(II)J"⟩
abbrev cX0_sideBy : ByteArray := prog_2_method_7_code
def yX0_sideBy : MethodName := ⟨RX0, "sideBy", "(II)I"⟩
abbrev cX0_everyone : ByteArray := prog_2_method_8_code
def yX0_everyone : MethodName := ⟨RX0, "everyone", "()I"⟩
abbrev cX0_givenBy : ByteArray := prog_2_method_9_code
def yX0_givenBy : MethodName := ⟨RX0, "givenBy", "(I)I"⟩
abbrev cX0_allNeeds : ByteArray := prog_2_method_10_code
def yX0_allNeeds : MethodName := ⟨RX0, "allNeeds", "()I"⟩
abbrev cX0_readyAfter : ByteArray := prog_2_method_11_code
def yX0_readyAfter : MethodName := ⟨RX0, "readyAfter", "(I)I"⟩
abbrev cX0_extent : ByteArray := prog_2_method_12_code
def yX0_extent : MethodName := ⟨RX0, "extent", "()J"⟩
abbrev cX0_untold : ByteArray := prog_2_method_13_code
def yX0_untold : MethodName := ⟨RX0, "untold", "()J"⟩
abbrev cX0_isFirstToEnd : ByteArray := prog_2_method_14_code
def yX0_isFirstToEnd : MethodName := ⟨RX0, "isFirstToEnd", "(I)Z"⟩
abbrev cX0_gapBehind : ByteArray := prog_2_method_15_code
def yX0_gapBehind : MethodName := ⟨RX0, "gapBehind", "(J)J"⟩
def RX1 : String := "ToldScenes$LeastFrames"
def TX1 : u_T := fun k => match k with
  | 0 => ("ToldScenes$LeastFrames", "row", "[I", true)
  | 1 => ("ToldScenes$LeastFrames", "rowCount", "I", false)
  | 2 => ("ToldScenes$LeastFrames", "tellerOf", "[I", true)
  | 3 => ("ToldScenes$LeastFrames", "sideOf", "[I", true)
  | 4 => ("ToldScenes$LeastFrames", "trial", "[I", true)
  | 5 => ("ToldScenes$LeastFrames", "feeOfOne", "I", false)
  | 6 => ("ToldScenes$LeastFrames", "frameCount", "I", false)
  | 7 => ("ToldScenes$LeastFrames", "signs", "[I", true)
  | 8 => ("ToldScenes$LeastFrames", "count", "I", false)
  | 9 => ("ToldScenes$LeastFrames", "jumpSum", "J", false)
  | _ => ("ToldScenes$LeastFrames", "stands", "Z", false)
def tyX1 : Nat → FieldType := fun k => match k with
  | 0 => .array .int
  | 1 => .int
  | 2 => .array .int
  | 3 => .array .int
  | 4 => .array .int
  | 5 => .int
  | 6 => .int
  | 7 => .array .int
  | 8 => .int
  | 9 => .long
  | _ => .boolean
abbrev wsX10 : List Cond := u_ws RX1 TX1 11
theorem nmX1 : ∀ a, a < 11 → ∀ b, b < 11 → a ≠ b → (TX1 a).2.1 ≠ (TX1 b).2.1 := by decide +kernel
theorem tyX1_ok : ∀ k, k < 11 → parseFieldDescriptor (TX1 k).2.2.1 = some (tyX1 k) := by decide +kernel
abbrev cX1_init : ByteArray := prog_3_method_1_code
def yX1_init : MethodName := ⟨RX1, "<init>", "()V"⟩
abbrev cX1_find : ByteArray := prog_3_method_2_code
def yX1_find : MethodName := ⟨RX1, "find", "(LToldScenes$Cast;[III)V"⟩
abbrev cX1_takeRow : ByteArray := prog_3_method_3_code
def yX1_takeRow : MethodName := ⟨RX1, "takeRow", "(LToldScenes$Cast;[II)V"⟩
abbrev cX1_setFrom : ByteArray := prog_3_method_4_code
def yX1_setFrom : MethodName := ⟨RX1, "setFrom", "(LToldScenes$Cast;IIJI)V"⟩
abbrev cX1_setBeside : ByteArray := prog_3_method_5_code
def yX1_setBeside : MethodName := ⟨RX1, "setBeside", "(LToldScenes$Cast;IIIJI)V"⟩
abbrev cX1_setWithin : ByteArray := prog_3_method_6_code
def yX1_setWithin : MethodName := ⟨RX1, "setWithin", "(LToldScenes$Cast;IIIJI)V"⟩
abbrev cX1_keep : ByteArray := prog_3_method_7_code
def yX1_keep : MethodName := ⟨RX1, "keep", "(IJI)V"⟩
abbrev cX1_closeAll : ByteArray := prog_3_method_8_code
def yX1_closeAll : MethodName := ⟨RX1, "closeAll", "()V"⟩
def RX2 : String := "ToldScenes$LeastOrder"
def TX2 : u_T := fun k => match k with
  | 0 => ("ToldScenes$LeastOrder", "rest", "[J", true)
  | 1 => ("ToldScenes$LeastOrder", "scenes", "[I", true)
  | 2 => ("ToldScenes$LeastOrder", "count", "I", false)
  | 3 => ("ToldScenes$LeastOrder", "jumpSum", "J", false)
  | _ => ("ToldScenes$LeastOrder", "stands", "Z", false)
def tyX2 : Nat → FieldType := fun k => match k with
  | 0 => .array .long
  | 1 => .array .int
  | 2 => .int
  | 3 => .long
  | _ => .boolean
abbrev wsX20 : List Cond := u_ws RX2 TX2 5
theorem nmX2 : ∀ a, a < 5 → ∀ b, b < 5 → a ≠ b → (TX2 a).2.1 ≠ (TX2 b).2.1 := by decide +kernel
theorem tyX2_ok : ∀ k, k < 5 → parseFieldDescriptor (TX2 k).2.2.1 = some (tyX2 k) := by decide +kernel
abbrev cX2_init : ByteArray := prog_4_method_1_code
def yX2_init : MethodName := ⟨RX2, "<init>", "()V"⟩
abbrev cX2_find : ByteArray := prog_4_method_2_code
def yX2_find : MethodName := ⟨RX2, "find", "(LToldScenes$Cast;)V"⟩
abbrev cX2_fillRest : ByteArray := prog_4_method_3_code
def yX2_fillRest : MethodName := ⟨RX2, "fillRest", "(LToldScenes$Cast;II)V"⟩
abbrev cX2_nextBehind : ByteArray := prog_4_method_4_code
def yX2_nextBehind : MethodName := ⟨RX2, "nextBehind", "(LToldScenes$Cast;III)I"⟩
abbrev cX2_restBy : ByteArray := prog_4_method_5_code
def yX2_restBy : MethodName := ⟨RX2, "restBy", "(LToldScenes$Cast;III)J"⟩
abbrev cX2_follow : ByteArray := prog_4_method_6_code
def yX2_follow : MethodName := ⟨RX2, "follow", "(LToldScenes$Cast;)V"⟩
def RX3 : String := "ToldScenes$Look"
def TX3 : u_T := fun k => match k with
  | 0 => ("ToldScenes$Look", "turnOf", "[I", true)
  | 1 => ("ToldScenes$Look", "depthOf", "[I", true)
  | 2 => ("ToldScenes$Look", "tellerOf", "[I", true)
  | 3 => ("ToldScenes$Look", "sideOf", "[I", true)
  | 4 => ("ToldScenes$Look", "firstWrong", "I", false)
  | 5 => ("ToldScenes$Look", "reason", "I", false)
  | 6 => ("ToldScenes$Look", "opened", "I", false)
  | 7 => ("ToldScenes$Look", "mostOpen", "I", false)
  | 8 => ("ToldScenes$Look", "toldCount", "I", false)
  | 9 => ("ToldScenes$Look", "given", "I", false)
  | 10 => ("ToldScenes$Look", "jumpSum", "J", false)
  | 11 => ("ToldScenes$Look", "openNow", "I", false)
  | 12 => ("ToldScenes$Look", "lastNow", "I", false)
  | 13 => ("ToldScenes$Look", "tellerNow", "I", false)
  | _ => ("ToldScenes$Look", "sideNow", "I", false)
def tyX3 : Nat → FieldType := fun k => match k with
  | 0 => .array .int
  | 1 => .array .int
  | 2 => .array .int
  | 3 => .array .int
  | 4 => .int
  | 5 => .int
  | 6 => .int
  | 7 => .int
  | 8 => .int
  | 9 => .int
  | 10 => .long
  | 11 => .int
  | 12 => .int
  | 13 => .int
  | _ => .int
abbrev wsX30 : List Cond := u_ws RX3 TX3 15
theorem nmX3 : ∀ a, a < 15 → ∀ b, b < 15 → a ≠ b → (TX3 a).2.1 ≠ (TX3 b).2.1 := by decide +kernel
theorem tyX3_ok : ∀ k, k < 15 → parseFieldDescriptor (TX3 k).2.2.1 = some (tyX3 k) := by decide +kernel
abbrev cX3_init : ByteArray := prog_5_method_1_code
def yX3_init : MethodName := ⟨RX3, "<init>", "()V"⟩
abbrev cX3_isWrong : ByteArray := prog_5_method_2_code
def yX3_isWrong : MethodName := ⟨RX3, "isWrong", "()Z"⟩
abbrev cX3_hasTold : ByteArray := prog_5_method_3_code
def yX3_hasTold : MethodName := ⟨RX3, "hasTold", "(I)Z"⟩
abbrev cX3_goThrough : ByteArray := prog_5_method_4_code
def yX3_goThrough : MethodName := ⟨RX3, "goThrough", "(LToldScenes$Cast;[II)V"⟩
abbrev cX3_begin : ByteArray := prog_5_method_5_code
def yX3_begin : MethodName := ⟨RX3, "begin", "()V"⟩
abbrev cX3_whyWrong : ByteArray := prog_5_method_6_code
def yX3_whyWrong : MethodName := ⟨RX3, "whyWrong", "(LToldScenes$Cast;I)I"⟩
abbrev cX3_isOnSide : ByteArray := prog_5_method_7_code
def yX3_isOnSide : MethodName := ⟨RX3, "isOnSide", "(LToldScenes$Cast;I)Z"⟩
abbrev cX3_take : ByteArray := prog_5_method_8_code
def yX3_take : MethodName := ⟨RX3, "take", "(LToldScenes$Cast;I)V"⟩
abbrev cX3_openFrame : ByteArray := prog_5_method_9_code
def yX3_openFrame : MethodName := ⟨RX3, "openFrame", "()V"⟩
abbrev cX3_closeFrame : ByteArray := prog_5_method_10_code
def yX3_closeFrame : MethodName := ⟨RX3, "closeFrame", "()V"⟩
abbrev cX3_tell : ByteArray := prog_5_method_11_code
def yX3_tell : MethodName := ⟨RX3, "tell", "(LToldScenes$Cast;I)V"⟩
def RX4 : String := "ToldScenes"
def TX4 : u_T := fun k => match k with
  | 0 => ("ToldScenes", "cast", "LToldScenes$Cast;", true)
  | 1 => ("ToldScenes", "signs", "[I", true)
  | 2 => ("ToldScenes", "signCount", "I", false)
  | 3 => ("ToldScenes", "feeNow", "I", false)
  | 4 => ("ToldScenes", "lookCount", "I", false)
  | 5 => ("ToldScenes", "look", "LToldScenes$Look;", true)
  | 6 => ("ToldScenes", "row", "[I", true)
  | 7 => ("ToldScenes", "leastOrder", "LToldScenes$LeastOrder;", true)
  | _ => ("ToldScenes", "leastFrames", "LToldScenes$LeastFrames;", true)
def tyX4 : Nat → FieldType := fun k => match k with
  | 0 => .object "ToldScenes$Cast"
  | 1 => .array .int
  | 2 => .int
  | 3 => .int
  | 4 => .int
  | 5 => .object "ToldScenes$Look"
  | 6 => .array .int
  | 7 => .object "ToldScenes$LeastOrder"
  | _ => .object "ToldScenes$LeastFrames"
abbrev wsX40 : List Cond := u_ws RX4 TX4 9
theorem nmX4 : ∀ a, a < 9 → ∀ b, b < 9 → a ≠ b → (TX4 a).2.1 ≠ (TX4 b).2.1 := by decide +kernel
theorem tyX4_ok : ∀ k, k < 9 → parseFieldDescriptor (TX4 k).2.2.1 = some (tyX4 k) := by decide +kernel
abbrev cX4_init : ByteArray := prog_1_method_1_code
def yX4_init : MethodName := ⟨RX4, "<init>", "()V"⟩
abbrev cX4_scene : ByteArray := prog_1_method_2_code
def yX4_scene : MethodName := ⟨RX4, "scene", "(IIII)I"⟩
abbrev cX4_ofScene : ByteArray := prog_1_method_3_code
def yX4_ofScene : MethodName := ⟨RX4, "ofScene", "(II)J"⟩
abbrev cX4_move : ByteArray := prog_1_method_4_code
def yX4_move : MethodName := ⟨RX4, "move", "(II)I"⟩
abbrev cX4_shift : ByteArray := prog_1_method_5_code
def yX4_shift : MethodName := ⟨RX4, "shift", "(I)I"⟩
abbrev cX4_stretch : ByteArray := prog_1_method_6_code
def yX4_stretch : MethodName := ⟨RX4, "stretch", "(II)I"⟩
abbrev cX4_clue : ByteArray := prog_1_method_7_code
def yX4_clue : MethodName := ⟨RX4, "clue", "(IIIZ)I"⟩
abbrev cX4_ofClue : ByteArray := prog_1_method_8_code
def yX4_ofClue : MethodName := ⟨RX4, "ofClue", "(II)I"⟩
abbrev cX4_drop : ByteArray := prog_1_method_9_code
def yX4_drop : MethodName := ⟨RX4, "drop", "()I"⟩
abbrev cX4_fee : ByteArray := prog_1_method_10_code
def yX4_fee : MethodName := ⟨RX4, "fee", "(I)I"⟩
abbrev cX4_jump : ByteArray := prog_1_method_11_code
def yX4_jump : MethodName := ⟨RX4, "jump", "(II)J"⟩
abbrev cX4_span : ByteArray := prog_1_method_12_code
def yX4_span : MethodName := ⟨RX4, "span", "(I)J"⟩
abbrev cX4_add : ByteArray := prog_1_method_13_code
def yX4_add : MethodName := ⟨RX4, "add", "(I)I"⟩
abbrev cX4_cut : ByteArray := prog_1_method_14_code
def yX4_cut : MethodName := ⟨RX4, "cut", "(I)I"⟩
abbrev cX4_judge : ByteArray := prog_1_method_15_code
def yX4_judge : MethodName := ⟨RX4, "judge", "(I)I"⟩
abbrev cX4_jumps : ByteArray := prog_1_method_16_code
def yX4_jumps : MethodName := ⟨RX4, "jumps", "()I"⟩
abbrev cX4_told : ByteArray := prog_1_method_17_code
def yX4_told : MethodName := ⟨RX4, "told", "(II)I"⟩
abbrev cX4_order : ByteArray := prog_1_method_18_code
def yX4_order : MethodName := ⟨RX4, "order", "(I)I"⟩
abbrev cX4_framed : ByteArray := prog_1_method_19_code
def yX4_framed : MethodName := ⟨RX4, "framed", "(I)I"⟩
abbrev cX4_untangled : ByteArray := prog_1_method_20_code
def yX4_untangled : MethodName := ⟨RX4, "untangled", "()I"⟩
abbrev cX4_many : ByteArray := prog_1_method_21_code
def yX4_many : MethodName := ⟨RX4, "many", "(I)I"⟩
abbrev cX4_forgetBest : ByteArray := prog_1_method_22_code
def yX4_forgetBest : MethodName := ⟨RX4, "forgetBest", "()V"⟩
abbrev cX4_findFrames : ByteArray := prog_1_method_23_code
def yX4_findFrames : MethodName := ⟨RX4, "findFrames", "()V"⟩
abbrev cX4_writeRow : ByteArray := prog_1_method_24_code
def yX4_writeRow : MethodName := ⟨RX4, "writeRow", "()I"⟩
abbrev cX4_changePlaces : ByteArray := prog_1_method_25_code
def yX4_changePlaces : MethodName := ⟨RX4, "changePlaces", "(I)V"⟩
abbrev cX4_isClue : ByteArray := prog_1_method_26_code
def yX4_isClue : MethodName := ⟨RX4, "isClue", "(I)Z"⟩
abbrev cX4_isClueSet : ByteArray := prog_1_method_27_code
def yX4_isClueSet : MethodName := ⟨RX4, "isClueSet", "(I)Z"⟩
abbrev cX4_isIn : ByteArray := prog_1_method_28_code
def yX4_isIn : MethodName := ⟨RX4, "isIn", "(II)Z"⟩
abbrev cX4_fitsInt : ByteArray := prog_1_method_29_code
def yX4_fitsInt : MethodName := ⟨RX4, "fitsInt", "(J)Z"⟩
abbrev cX4_intOrOver : ByteArray := prog_1_method_30_code
def yX4_intOrOver : MethodName := ⟨RX4, "intOrOver", "(J)I"⟩
def RX5 : String := "ToldScenesModel"
def TX5 : u_T := fun k => match k with
  | 0 => ("ToldScenesModel", "scenes", "I", false)
  | 1 => ("ToldScenesModel", "fromOf", "[I", true)
  | 2 => ("ToldScenesModel", "longOf", "[I", true)
  | 3 => ("ToldScenesModel", "givesOf", "[I", true)
  | 4 => ("ToldScenesModel", "needsOf", "[I", true)
  | 5 => ("ToldScenesModel", "feeNow", "I", false)
  | 6 => ("ToldScenesModel", "signs", "I", false)
  | 7 => ("ToldScenesModel", "signOf", "[I", true)
  | 8 => ("ToldScenesModel", "looked", "I", false)
  | 9 => ("ToldScenesModel", "open", "I", false)
  | 10 => ("ToldScenesModel", "lastIn", "[I", true)
  | 11 => ("ToldScenesModel", "tellerOf", "[I", true)
  | 12 => ("ToldScenesModel", "sideOf", "[I", true)
  | 13 => ("ToldScenesModel", "wrongAt", "I", false)
  | 14 => ("ToldScenesModel", "wrongBy", "I", false)
  | 15 => ("ToldScenesModel", "frames", "I", false)
  | 16 => ("ToldScenesModel", "deepest", "I", false)
  | 17 => ("ToldScenesModel", "toldMany", "I", false)
  | 18 => ("ToldScenesModel", "toldSet", "I", false)
  | 19 => ("ToldScenesModel", "given", "I", false)
  | 20 => ("ToldScenesModel", "sum", "J", false)
  | 21 => ("ToldScenesModel", "placeOf", "[I", true)
  | 22 => ("ToldScenesModel", "depthOf", "[I", true)
  | 23 => ("ToldScenesModel", "underOf", "[I", true)
  | 24 => ("ToldScenesModel", "onSide", "[I", true)
  | 25 => ("ToldScenesModel", "restOf", "[J", true)
  | 26 => ("ToldScenesModel", "best", "[I", true)
  | 27 => ("ToldScenesModel", "rowMany", "I", false)
  | 28 => ("ToldScenesModel", "row", "[I", true)
  | 29 => ("ToldScenesModel", "choice", "[I", true)
  | 30 => ("ToldScenesModel", "made", "[I", true)
  | 31 => ("ToldScenesModel", "madeMany", "I", false)
  | 32 => ("ToldScenesModel", "framed", "[I", true)
  | _ => ("ToldScenesModel", "framedMany", "I", false)
def tyX5 : Nat → FieldType := fun k => match k with
  | 0 => .int
  | 1 => .array .int
  | 2 => .array .int
  | 3 => .array .int
  | 4 => .array .int
  | 5 => .int
  | 6 => .int
  | 7 => .array .int
  | 8 => .int
  | 9 => .int
  | 10 => .array .int
  | 11 => .array .int
  | 12 => .array .int
  | 13 => .int
  | 14 => .int
  | 15 => .int
  | 16 => .int
  | 17 => .int
  | 18 => .int
  | 19 => .int
  | 20 => .long
  | 21 => .array .int
  | 22 => .array .int
  | 23 => .array .int
  | 24 => .array .int
  | 25 => .array .long
  | 26 => .array .int
  | 27 => .int
  | 28 => .array .int
  | 29 => .array .int
  | 30 => .array .int
  | 31 => .int
  | 32 => .array .int
  | _ => .int
abbrev wsX50 : List Cond := u_ws RX5 TX5 34
theorem nmX5 : ∀ a, a < 34 → ∀ b, b < 34 → a ≠ b → (TX5 a).2.1 ≠ (TX5 b).2.1 := by decide +kernel
theorem tyX5_ok : ∀ k, k < 34 → parseFieldDescriptor (TX5 k).2.2.1 = some (tyX5 k) := by decide +kernel
abbrev cX5_init : ByteArray := prog_7_method_1_code
def yX5_init : MethodName := ⟨RX5, "<init>", "()V"⟩
abbrev cX5_within : ByteArray := prog_7_method_2_code
def yX5_within : MethodName := ⟨RX5, "within", "(III)Z"⟩
abbrev cX5_isInt : ByteArray := prog_7_method_3_code
def yX5_isInt : MethodName := ⟨RX5, "isInt", "(J)Z"⟩
abbrev cX5_isScene : ByteArray := prog_7_method_4_code
def yX5_isScene : MethodName := ⟨RX5, "isScene", "(I)Z"⟩
abbrev cX5_isClue : ByteArray := prog_7_method_5_code
def yX5_isClue : MethodName := ⟨RX5, "isClue", "(I)Z"⟩
abbrev cX5_endOf : ByteArray := prog_7_method_6_code
def yX5_endOf : MethodName := ⟨RX5, "endOf", "(I)J"⟩
abbrev cX5_scene : ByteArray := prog_7_method_7_code
def yX5_scene : MethodName := ⟨RX5, "scene", "(IIII)I"⟩
abbrev cX5_ofScene : ByteArray := prog_7_method_8_code
def yX5_ofScene : MethodName := ⟨RX5, "ofScene", "(II)J"⟩
abbrev cX5_mayMove : ByteArray := prog_7_method_9_code
def yX5_mayMove : MethodName := ⟨RX5, "mayMove", "(II)Z"⟩
abbrev cX5_move : ByteArray := prog_7_method_10_code
def yX5_move : MethodName := ⟨RX5, "move", "(II)I"⟩
abbrev cX5_shift : ByteArray := prog_7_method_11_code
def yX5_shift : MethodName := ⟨RX5, "shift", "(I)I"⟩
abbrev cX5_stretch : ByteArray := prog_7_method_12_code
def yX5_stretch : MethodName := ⟨RX5, "stretch", "(II)I"⟩
abbrev cX5_clue : ByteArray := prog_7_method_13_code
def yX5_clue : MethodName := ⟨RX5, "clue", "(IIIZ)I"⟩
abbrev cX5_setOf : ByteArray := prog_7_method_14_code
def yX5_setOf : MethodName := ⟨RX5, "setOf", "(II)I"⟩
abbrev cX5_ofClue : ByteArray := prog_7_method_15_code
def yX5_ofClue : MethodName := ⟨RX5, "ofClue", "(II)I"⟩
abbrev cX5_drop : ByteArray := prog_7_method_16_code
def yX5_drop : MethodName := ⟨RX5, "drop", "()I"⟩
abbrev cX5_fee : ByteArray := prog_7_method_17_code
def yX5_fee : MethodName := ⟨RX5, "fee", "(I)I"⟩
abbrev cX5_jumpOf : ByteArray := prog_7_method_18_code
def yX5_jumpOf : MethodName := ⟨RX5, "jumpOf", "(II)J"⟩
abbrev cX5_jump : ByteArray := prog_7_method_19_code
def yX5_jump : MethodName := ⟨RX5, "jump", "(II)J"⟩
abbrev cX5_firstFrom : ByteArray := prog_7_method_20_code
def yX5_firstFrom : MethodName := ⟨RX5, "firstFrom", "()J"⟩
abbrev cX5_lastEnd : ByteArray := prog_7_method_21_code
def yX5_lastEnd : MethodName := ⟨RX5, "lastEnd", "()J"⟩
abbrev cX5_nextFrom : ByteArray := prog_7_method_22_code
def yX5_nextFrom : MethodName := ⟨RX5, "nextFrom", "(J)J"⟩
abbrev cX5_toldTo : ByteArray := prog_7_method_23_code
def yX5_toldTo : MethodName := ⟨RX5, "toldTo", "(J)J"⟩
abbrev cX5_gaps : ByteArray := prog_7_method_24_code
def yX5_gaps : MethodName := ⟨RX5, "gaps", "()J"⟩
abbrev cX5_span : ByteArray := prog_7_method_25_code
def yX5_span : MethodName := ⟨RX5, "span", "(I)J"⟩
abbrev cX5_add : ByteArray := prog_7_method_26_code
def yX5_add : MethodName := ⟨RX5, "add", "(I)I"⟩
abbrev cX5_cut : ByteArray := prog_7_method_27_code
def yX5_cut : MethodName := ⟨RX5, "cut", "(I)I"⟩
abbrev cX5_sideBy : ByteArray := prog_7_method_28_code
def yX5_sideBy : MethodName := ⟨RX5, "sideBy", "(II)I"⟩
abbrev cX5_isOnSide : ByteArray := prog_7_method_29_code
def yX5_isOnSide : MethodName := ⟨RX5, "isOnSide", "(I)Z"⟩
abbrev cX5_reasonOfScene : ByteArray := prog_7_method_30_code
def yX5_reasonOfScene : MethodName := ⟨RX5, "reasonOfScene", "(I)I"⟩
abbrev cX5_reasonOf : ByteArray := prog_7_method_31_code
def yX5_reasonOf : MethodName := ⟨RX5, "reasonOf", "(I)I"⟩
abbrev cX5_tells : ByteArray := prog_7_method_32_code
def yX5_tells : MethodName := ⟨RX5, "tells", "(I)V"⟩
abbrev cX5_opens : ByteArray := prog_7_method_33_code
def yX5_opens : MethodName := ⟨RX5, "opens", "()V"⟩
abbrev cX5_goesOn : ByteArray := prog_7_method_34_code
def yX5_goesOn : MethodName := ⟨RX5, "goesOn", "(I)V"⟩
abbrev cX5_looks : ByteArray := prog_7_method_35_code
def yX5_looks : MethodName := ⟨RX5, "looks", "([II)V"⟩
abbrev cX5_looksNow : ByteArray := prog_7_method_36_code
def yX5_looksNow : MethodName := ⟨RX5, "looksNow", "()V"⟩
abbrev cX5_judge : ByteArray := prog_7_method_37_code
def yX5_judge : MethodName := ⟨RX5, "judge", "(I)I"⟩
abbrev cX5_jumpsOf : ByteArray := prog_7_method_38_code
def yX5_jumpsOf : MethodName := ⟨RX5, "jumpsOf", "(J)I"⟩
abbrev cX5_jumps : ByteArray := prog_7_method_39_code
def yX5_jumps : MethodName := ⟨RX5, "jumps", "()I"⟩
abbrev cX5_told : ByteArray := prog_7_method_40_code
def yX5_told : MethodName := ⟨RX5, "told", "(II)I"⟩
abbrev cX5_mayCome : ByteArray := prog_7_method_41_code
def yX5_mayCome : MethodName := ⟨RX5, "mayCome", "(II)Z"⟩
abbrev cX5_byNext : ByteArray := prog_7_method_42_code
def yX5_byNext : MethodName := ⟨RX5, "byNext", "(III)J"⟩
abbrev cX5_findRest : ByteArray := prog_7_method_43_code
def yX5_findRest : MethodName := ⟨RX5, "findRest", "()V"⟩
abbrev cX5_findOrder : ByteArray := prog_7_method_44_code
def yX5_findOrder : MethodName := ⟨RX5, "findOrder", "()J"⟩
abbrev cX5_order : ByteArray := prog_7_method_45_code
def yX5_order : MethodName := ⟨RX5, "order", "(I)I"⟩
abbrev cX5_findRow : ByteArray := prog_7_method_46_code
def yX5_findRow : MethodName := ⟨RX5, "findRow", "()V"⟩
abbrev cX5_puts : ByteArray := prog_7_method_47_code
def yX5_puts : MethodName := ⟨RX5, "puts", "(I)V"⟩
abbrev cX5_makes : ByteArray := prog_7_method_48_code
def yX5_makes : MethodName := ⟨RX5, "makes", "()V"⟩
abbrev cX5_depthAt : ByteArray := prog_7_method_49_code
def yX5_depthAt : MethodName := ⟨RX5, "depthAt", "(I)I"⟩
abbrev cX5_goesNext : ByteArray := prog_7_method_50_code
def yX5_goesNext : MethodName := ⟨RX5, "goesNext", "()Z"⟩
abbrev cX5_keeps : ByteArray := prog_7_method_51_code
def yX5_keeps : MethodName := ⟨RX5, "keeps", "()V"⟩
abbrev cX5_findFramed : ByteArray := prog_7_method_52_code
def yX5_findFramed : MethodName := ⟨RX5, "findFramed", "()J"⟩
abbrev cX5_framed : ByteArray := prog_7_method_53_code
def yX5_framed : MethodName := ⟨RX5, "framed", "(I)I"⟩
abbrev cX5_changes : ByteArray := prog_7_method_54_code
def yX5_changes : MethodName := ⟨RX5, "changes", "(I)V"⟩
abbrev cX5_untangled : ByteArray := prog_7_method_55_code
def yX5_untangled : MethodName := ⟨RX5, "untangled", "()I"⟩
abbrev cX5_manyOpen : ByteArray := prog_7_method_56_code
def yX5_manyOpen : MethodName := ⟨RX5, "manyOpen", "()I"⟩
abbrev cX5_many : ByteArray := prog_7_method_57_code
def yX5_many : MethodName := ⟨RX5, "many", "(I)I"⟩
def RJ6 : String := "java/lang/Integer"
def TJ6 : u_T := fun k => match k with
  | _ => ("", "", "", false)
def tyJ6 : Nat → FieldType := fun k => match k with
  | _ => .int
abbrev wsJ60 : List Cond := u_ws RJ6 TJ6 0
theorem nmJ6 : ∀ a, a < 0 → ∀ b, b < 0 → a ≠ b → (TJ6 a).2.1 ≠ (TJ6 b).2.1 := by decide +kernel
theorem tyJ6_ok : ∀ k, k < 0 → parseFieldDescriptor (TJ6 k).2.2.1 = some (tyJ6 k) := by decide +kernel
abbrev cJ6_bitCount_0f7a4 : ByteArray := prog_8_method_49_code
def yJ6_bitCount_0f7a4 : MethodName := ⟨RJ6, "bitCount", "(I)I"⟩
def RJ9 : String := "java/lang/Math"
def TJ9 : u_T := fun k => match k with
  | _ => ("", "", "", false)
def tyJ9 : Nat → FieldType := fun k => match k with
  | _ => .int
abbrev wsJ90 : List Cond := u_ws RJ9 TJ9 0
theorem nmJ9 : ∀ a, a < 0 → ∀ b, b < 0 → a ≠ b → (TJ9 a).2.1 ≠ (TJ9 b).2.1 := by decide +kernel
theorem tyJ9_ok : ∀ k, k < 0 → parseFieldDescriptor (TJ9 k).2.2.1 = some (tyJ9 k) := by decide +kernel
abbrev cJ9_abs_067f4 : ByteArray := prog_9_method_61_code
def yJ9_abs_067f4 : MethodName := ⟨RJ9, "abs", "(J)J"⟩
abbrev cJ9_max_7cf53 : ByteArray := prog_9_method_65_code
def yJ9_max_7cf53 : MethodName := ⟨RJ9, "max", "(II)I"⟩
abbrev cJ9_max_f86c9 : ByteArray := prog_9_method_66_code
def yJ9_max_f86c9 : MethodName := ⟨RJ9, "max", "(JJ)J"⟩
abbrev cJ9_min_f86c9 : ByteArray := prog_9_method_70_code
def yJ9_min_f86c9 : MethodName := ⟨RJ9, "min", "(JJ)J"⟩
def RJ10 : String := "java/lang/System"
def TJ10 : u_T := fun k => match k with
  | _ => ("", "", "", false)
def tyJ10 : Nat → FieldType := fun k => match k with
  | _ => .int
abbrev wsJ100 : List Cond := u_ws RJ10 TJ10 0
theorem nmJ10 : ∀ a, a < 0 → ∀ b, b < 0 → a ≠ b → (TJ10 a).2.1 ≠ (TJ10 b).2.1 := by decide +kernel
theorem tyJ10_ok : ∀ k, k < 0 → parseFieldDescriptor (TJ10 k).2.2.1 = some (tyJ10 k) := by decide +kernel
def RJ7 : String := "java/util/Arrays"
def TJ7 : u_T := fun k => match k with
  | _ => ("", "", "", false)
def tyJ7 : Nat → FieldType := fun k => match k with
  | _ => .int
abbrev wsJ70 : List Cond := u_ws RJ7 TJ7 0
theorem nmJ7 : ∀ a, a < 0 → ∀ b, b < 0 → a ≠ b → (TJ7 a).2.1 ≠ (TJ7 b).2.1 := by decide +kernel
theorem tyJ7_ok : ∀ k, k < 0 → parseFieldDescriptor (TJ7 k).2.2.1 = some (tyJ7 k) := by decide +kernel
abbrev cJ7_fill_53178 : ByteArray := prog_11_method_103_code
def yJ7_fill_53178 : MethodName := ⟨RJ7, "fill", "([II)V"⟩
def RL : String := "ToldScenesLaw"
abbrev cL_law : ByteArray := code
def yL_law : MethodName := ⟨RL, "law", "([I)Z"⟩
abbrev vwCl : List vw_C := [(RX0, TX0, 5), (RX1, TX1, 11), (RX2, TX2, 5), (RX3, TX3, 15), (RX4, TX4, 9), (RX5, TX5, 34)]
