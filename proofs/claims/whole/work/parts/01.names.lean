-- ===== PART A: goes FIRST, ahead of the names: the tables' words, and 'selects' of the private methods out of them =====
/-- a private method of a class that the tables say can be made, by its rows of tables_1 -/
def lw_okq (q : MethodName × Nat) : Prop := (q.1.cls ≠ "java/lang/invoke/MethodHandle" ∧ q.1.cls ≠ "java/lang/invoke/VarHandle") ∧ Cond.instantiable q.1.cls q.2 ∈ tables_1 ∧ Cond.privateMethod q.1 ∈ tables_1 ∧ Cond.instanceMethod q.1 ∈ tables_1
theorem lw_p0 : lw_okq (⟨"NightInn", "refuse", "(I)I"⟩, 11) := ⟨⟨by decide +kernel, by decide +kernel⟩, List.mem_of_getElem? (i := 29) (by decide +kernel), List.mem_of_getElem? (i := 444) (by decide +kernel), List.mem_of_getElem? (i := 445) (by decide +kernel)⟩
theorem lw_p1 : lw_okq (⟨"NightInn$Tape", "passSign", "()I"⟩, 9) := ⟨⟨by decide +kernel, by decide +kernel⟩, List.mem_of_getElem? (i := 43) (by decide +kernel), List.mem_of_getElem? (i := 476) (by decide +kernel), List.mem_of_getElem? (i := 477) (by decide +kernel)⟩
theorem lw_p2 : lw_okq (⟨"NightInn$Reader", "readLine", "()Z"⟩, 8) := ⟨⟨by decide +kernel, by decide +kernel⟩, List.mem_of_getElem? (i := 37) (by decide +kernel), List.mem_of_getElem? (i := 485) (by decide +kernel), List.mem_of_getElem? (i := 486) (by decide +kernel)⟩
theorem lw_p3 : lw_okq (⟨"NightInn$Reader", "readInn", "()Z"⟩, 8) := ⟨⟨by decide +kernel, by decide +kernel⟩, List.mem_of_getElem? (i := 37) (by decide +kernel), List.mem_of_getElem? (i := 495) (by decide +kernel), List.mem_of_getElem? (i := 496) (by decide +kernel)⟩
theorem lw_p4 : lw_okq (⟨"NightInn$Reader", "fail", "(I)Z"⟩, 8) := ⟨⟨by decide +kernel, by decide +kernel⟩, List.mem_of_getElem? (i := 37) (by decide +kernel), List.mem_of_getElem? (i := 499) (by decide +kernel), List.mem_of_getElem? (i := 500) (by decide +kernel)⟩
theorem lw_p5 : lw_okq (⟨"NightInn$Reader", "pass", "(LNightInn$Word;)Z"⟩, 8) := ⟨⟨by decide +kernel, by decide +kernel⟩, List.mem_of_getElem? (i := 37) (by decide +kernel), List.mem_of_getElem? (i := 506) (by decide +kernel), List.mem_of_getElem? (i := 507) (by decide +kernel)⟩
theorem lw_p6 : lw_okq (⟨"NightInn$Reader", "passWhole", "(II)Z"⟩, 8) := ⟨⟨by decide +kernel, by decide +kernel⟩, List.mem_of_getElem? (i := 37) (by decide +kernel), List.mem_of_getElem? (i := 510) (by decide +kernel), List.mem_of_getElem? (i := 511) (by decide +kernel)⟩
theorem lw_p7 : lw_okq (⟨"NightInn$Reader", "lookAtWhole", "(II)Z"⟩, 8) := ⟨⟨by decide +kernel, by decide +kernel⟩, List.mem_of_getElem? (i := 37) (by decide +kernel), List.mem_of_getElem? (i := 514) (by decide +kernel), List.mem_of_getElem? (i := 515) (by decide +kernel)⟩
theorem lw_p8 : lw_okq (⟨"NightInn$Reader", "readRoom", "()Z"⟩, 8) := ⟨⟨by decide +kernel, by decide +kernel⟩, List.mem_of_getElem? (i := 37) (by decide +kernel), List.mem_of_getElem? (i := 520) (by decide +kernel), List.mem_of_getElem? (i := 521) (by decide +kernel)⟩
theorem lw_p9 : lw_okq (⟨"NightInn$Reader", "passNew", "(II)Z"⟩, 8) := ⟨⟨by decide +kernel, by decide +kernel⟩, List.mem_of_getElem? (i := 37) (by decide +kernel), List.mem_of_getElem? (i := 524) (by decide +kernel), List.mem_of_getElem? (i := 525) (by decide +kernel)⟩
theorem lw_p10 : lw_okq (⟨"NightInn$Reader", "placeOfName", "()I"⟩, 8) := ⟨⟨by decide +kernel, by decide +kernel⟩, List.mem_of_getElem? (i := 37) (by decide +kernel), List.mem_of_getElem? (i := 528) (by decide +kernel), List.mem_of_getElem? (i := 529) (by decide +kernel)⟩
theorem lw_p11 : lw_okq (⟨"NightInn$Reader", "tellName", "(II)V"⟩, 8) := ⟨⟨by decide +kernel, by decide +kernel⟩, List.mem_of_getElem? (i := 37) (by decide +kernel), List.mem_of_getElem? (i := 532) (by decide +kernel), List.mem_of_getElem? (i := 533) (by decide +kernel)⟩
theorem lw_p12 : lw_okq (⟨"NightInn$Reader", "passIf", "(LNightInn$Word;)Z"⟩, 8) := ⟨⟨by decide +kernel, by decide +kernel⟩, List.mem_of_getElem? (i := 37) (by decide +kernel), List.mem_of_getElem? (i := 540) (by decide +kernel), List.mem_of_getElem? (i := 541) (by decide +kernel)⟩
theorem lw_p13 : lw_okq (⟨"NightInn$Reader", "readDoor", "()Z"⟩, 8) := ⟨⟨by decide +kernel, by decide +kernel⟩, List.mem_of_getElem? (i := 37) (by decide +kernel), List.mem_of_getElem? (i := 550) (by decide +kernel), List.mem_of_getElem? (i := 551) (by decide +kernel)⟩
theorem lw_p14 : lw_okq (⟨"NightInn$Reader", "passName", "(I)Z"⟩, 8) := ⟨⟨by decide +kernel, by decide +kernel⟩, List.mem_of_getElem? (i := 37) (by decide +kernel), List.mem_of_getElem? (i := 554) (by decide +kernel), List.mem_of_getElem? (i := 555) (by decide +kernel)⟩
theorem lw_p15 : lw_okq (⟨"NightInn$Reader", "lookUp", "(I)Z"⟩, 8) := ⟨⟨by decide +kernel, by decide +kernel⟩, List.mem_of_getElem? (i := 37) (by decide +kernel), List.mem_of_getElem? (i := 558) (by decide +kernel), List.mem_of_getElem? (i := 559) (by decide +kernel)⟩
def lw_privs_1 : List (MethodName × Nat) := [(⟨"NightInn", "refuse", "(I)I"⟩, 11), (⟨"NightInn$Tape", "passSign", "()I"⟩, 9), (⟨"NightInn$Reader", "readLine", "()Z"⟩, 8), (⟨"NightInn$Reader", "readInn", "()Z"⟩, 8), (⟨"NightInn$Reader", "fail", "(I)Z"⟩, 8), (⟨"NightInn$Reader", "pass", "(LNightInn$Word;)Z"⟩, 8), (⟨"NightInn$Reader", "passWhole", "(II)Z"⟩, 8), (⟨"NightInn$Reader", "lookAtWhole", "(II)Z"⟩, 8), (⟨"NightInn$Reader", "readRoom", "()Z"⟩, 8), (⟨"NightInn$Reader", "passNew", "(II)Z"⟩, 8), (⟨"NightInn$Reader", "placeOfName", "()I"⟩, 8), (⟨"NightInn$Reader", "tellName", "(II)V"⟩, 8), (⟨"NightInn$Reader", "passIf", "(LNightInn$Word;)Z"⟩, 8), (⟨"NightInn$Reader", "readDoor", "()Z"⟩, 8), (⟨"NightInn$Reader", "passName", "(I)Z"⟩, 8), (⟨"NightInn$Reader", "lookUp", "(I)Z"⟩, 8)]
theorem lw_r1 : ∀ q ∈ lw_privs_1, lw_okq q := List.forall_mem_cons.mpr ⟨lw_p0, List.forall_mem_cons.mpr ⟨lw_p1, List.forall_mem_cons.mpr ⟨lw_p2, List.forall_mem_cons.mpr ⟨lw_p3, List.forall_mem_cons.mpr ⟨lw_p4, List.forall_mem_cons.mpr ⟨lw_p5, List.forall_mem_cons.mpr ⟨lw_p6, List.forall_mem_cons.mpr ⟨lw_p7, List.forall_mem_cons.mpr ⟨lw_p8, List.forall_mem_cons.mpr ⟨lw_p9, List.forall_mem_cons.mpr ⟨lw_p10, List.forall_mem_cons.mpr ⟨lw_p11, List.forall_mem_cons.mpr ⟨lw_p12, List.forall_mem_cons.mpr ⟨lw_p13, List.forall_mem_cons.mpr ⟨lw_p14, List.forall_mem_cons.mpr ⟨lw_p15, fun _ h => absurd h List.not_mem_nil⟩⟩⟩⟩⟩⟩⟩⟩⟩⟩⟩⟩⟩⟩⟩⟩
theorem lw_p16 : lw_okq (⟨"NightInn$Reader", "passComma", "()Z"⟩, 8) := ⟨⟨by decide +kernel, by decide +kernel⟩, List.mem_of_getElem? (i := 37) (by decide +kernel), List.mem_of_getElem? (i := 562) (by decide +kernel), List.mem_of_getElem? (i := 563) (by decide +kernel)⟩
theorem lw_p17 : lw_okq (⟨"NightInn$Reader", "passOtherRoom", "(I)Z"⟩, 8) := ⟨⟨by decide +kernel, by decide +kernel⟩, List.mem_of_getElem? (i := 37) (by decide +kernel), List.mem_of_getElem? (i := 566) (by decide +kernel), List.mem_of_getElem? (i := 567) (by decide +kernel)⟩
theorem lw_p18 : lw_okq (⟨"NightInn$Reader", "readThing", "()Z"⟩, 8) := ⟨⟨by decide +kernel, by decide +kernel⟩, List.mem_of_getElem? (i := 37) (by decide +kernel), List.mem_of_getElem? (i := 586) (by decide +kernel), List.mem_of_getElem? (i := 587) (by decide +kernel)⟩
theorem lw_p19 : lw_okq (⟨"NightInn$Reader", "readDream", "()Z"⟩, 8) := ⟨⟨by decide +kernel, by decide +kernel⟩, List.mem_of_getElem? (i := 37) (by decide +kernel), List.mem_of_getElem? (i := 600) (by decide +kernel), List.mem_of_getElem? (i := 601) (by decide +kernel)⟩
theorem lw_p20 : lw_okq (⟨"NightInn$Reader", "passDream", "()Z"⟩, 8) := ⟨⟨by decide +kernel, by decide +kernel⟩, List.mem_of_getElem? (i := 37) (by decide +kernel), List.mem_of_getElem? (i := 604) (by decide +kernel), List.mem_of_getElem? (i := 605) (by decide +kernel)⟩
theorem lw_p21 : lw_okq (⟨"NightInn$Reader", "passNewState", "(I)Z"⟩, 8) := ⟨⟨by decide +kernel, by decide +kernel⟩, List.mem_of_getElem? (i := 37) (by decide +kernel), List.mem_of_getElem? (i := 608) (by decide +kernel), List.mem_of_getElem? (i := 609) (by decide +kernel)⟩
theorem lw_p22 : lw_okq (⟨"NightInn$Reader", "nextAct", "()I"⟩, 8) := ⟨⟨by decide +kernel, by decide +kernel⟩, List.mem_of_getElem? (i := 37) (by decide +kernel), List.mem_of_getElem? (i := 620) (by decide +kernel), List.mem_of_getElem? (i := 621) (by decide +kernel)⟩
theorem lw_p23 : lw_okq (⟨"NightInn$Reader", "readSleeper", "()Z"⟩, 8) := ⟨⟨by decide +kernel, by decide +kernel⟩, List.mem_of_getElem? (i := 37) (by decide +kernel), List.mem_of_getElem? (i := 647) (by decide +kernel), List.mem_of_getElem? (i := 648) (by decide +kernel)⟩
theorem lw_p24 : lw_okq (⟨"NightInn$Reader", "readListener", "()Z"⟩, 8) := ⟨⟨by decide +kernel, by decide +kernel⟩, List.mem_of_getElem? (i := 37) (by decide +kernel), List.mem_of_getElem? (i := 661) (by decide +kernel), List.mem_of_getElem? (i := 662) (by decide +kernel)⟩
theorem lw_p25 : lw_okq (⟨"NightInn$Ways", "shorten", "(II)V"⟩, 2) := ⟨⟨by decide +kernel, by decide +kernel⟩, List.mem_of_getElem? (i := 96) (by decide +kernel), List.mem_of_getElem? (i := 681) (by decide +kernel), List.mem_of_getElem? (i := 682) (by decide +kernel)⟩
theorem lw_p26 : lw_okq (⟨"NightInn", "moveIn", "()V"⟩, 11) := ⟨⟨by decide +kernel, by decide +kernel⟩, List.mem_of_getElem? (i := 29) (by decide +kernel), List.mem_of_getElem? (i := 689) (by decide +kernel), List.mem_of_getElem? (i := 690) (by decide +kernel)⟩
theorem lw_p27 : lw_okq (⟨"NightInn$Casts", "fillFromBefore", "(I)V"⟩, 10) := ⟨⟨by decide +kernel, by decide +kernel⟩, List.mem_of_getElem? (i := 348) (by decide +kernel), List.mem_of_getElem? (i := 722) (by decide +kernel), List.mem_of_getElem? (i := 723) (by decide +kernel)⟩
theorem lw_p28 : lw_okq (⟨"NightInn$Night", "follow", "(I)V"⟩, 14) := ⟨⟨by decide +kernel, by decide +kernel⟩, List.mem_of_getElem? (i := 254) (by decide +kernel), List.mem_of_getElem? (i := 738) (by decide +kernel), List.mem_of_getElem? (i := 739) (by decide +kernel)⟩
theorem lw_p29 : lw_okq (⟨"NightInn$Night", "goToward", "(II)V"⟩, 14) := ⟨⟨by decide +kernel, by decide +kernel⟩, List.mem_of_getElem? (i := 254) (by decide +kernel), List.mem_of_getElem? (i := 743) (by decide +kernel), List.mem_of_getElem? (i := 744) (by decide +kernel)⟩
theorem lw_p30 : lw_okq (⟨"NightInn$Night", "creakIn", "(I)V"⟩, 14) := ⟨⟨by decide +kernel, by decide +kernel⟩, List.mem_of_getElem? (i := 254) (by decide +kernel), List.mem_of_getElem? (i := 752) (by decide +kernel), List.mem_of_getElem? (i := 753) (by decide +kernel)⟩
theorem lw_p31 : lw_okq (⟨"NightInn$Night", "meetIn", "(I)V"⟩, 14) := ⟨⟨by decide +kernel, by decide +kernel⟩, List.mem_of_getElem? (i := 254) (by decide +kernel), List.mem_of_getElem? (i := 757) (by decide +kernel), List.mem_of_getElem? (i := 758) (by decide +kernel)⟩
def lw_privs_2 : List (MethodName × Nat) := [(⟨"NightInn$Reader", "passComma", "()Z"⟩, 8), (⟨"NightInn$Reader", "passOtherRoom", "(I)Z"⟩, 8), (⟨"NightInn$Reader", "readThing", "()Z"⟩, 8), (⟨"NightInn$Reader", "readDream", "()Z"⟩, 8), (⟨"NightInn$Reader", "passDream", "()Z"⟩, 8), (⟨"NightInn$Reader", "passNewState", "(I)Z"⟩, 8), (⟨"NightInn$Reader", "nextAct", "()I"⟩, 8), (⟨"NightInn$Reader", "readSleeper", "()Z"⟩, 8), (⟨"NightInn$Reader", "readListener", "()Z"⟩, 8), (⟨"NightInn$Ways", "shorten", "(II)V"⟩, 2), (⟨"NightInn", "moveIn", "()V"⟩, 11), (⟨"NightInn$Casts", "fillFromBefore", "(I)V"⟩, 10), (⟨"NightInn$Night", "follow", "(I)V"⟩, 14), (⟨"NightInn$Night", "goToward", "(II)V"⟩, 14), (⟨"NightInn$Night", "creakIn", "(I)V"⟩, 14), (⟨"NightInn$Night", "meetIn", "(I)V"⟩, 14)]
theorem lw_r2 : ∀ q ∈ lw_privs_2, lw_okq q := List.forall_mem_cons.mpr ⟨lw_p16, List.forall_mem_cons.mpr ⟨lw_p17, List.forall_mem_cons.mpr ⟨lw_p18, List.forall_mem_cons.mpr ⟨lw_p19, List.forall_mem_cons.mpr ⟨lw_p20, List.forall_mem_cons.mpr ⟨lw_p21, List.forall_mem_cons.mpr ⟨lw_p22, List.forall_mem_cons.mpr ⟨lw_p23, List.forall_mem_cons.mpr ⟨lw_p24, List.forall_mem_cons.mpr ⟨lw_p25, List.forall_mem_cons.mpr ⟨lw_p26, List.forall_mem_cons.mpr ⟨lw_p27, List.forall_mem_cons.mpr ⟨lw_p28, List.forall_mem_cons.mpr ⟨lw_p29, List.forall_mem_cons.mpr ⟨lw_p30, List.forall_mem_cons.mpr ⟨lw_p31, fun _ h => absurd h List.not_mem_nil⟩⟩⟩⟩⟩⟩⟩⟩⟩⟩⟩⟩⟩⟩⟩⟩
theorem lw_p32 : lw_okq (⟨"NightInn$Night", "isAsleepIn", "(II)Z"⟩, 14) := ⟨⟨by decide +kernel, by decide +kernel⟩, List.mem_of_getElem? (i := 254) (by decide +kernel), List.mem_of_getElem? (i := 761) (by decide +kernel), List.mem_of_getElem? (i := 762) (by decide +kernel)⟩
theorem lw_p33 : lw_okq (⟨"NightInn$Night", "takes", "(II)Z"⟩, 14) := ⟨⟨by decide +kernel, by decide +kernel⟩, List.mem_of_getElem? (i := 254) (by decide +kernel), List.mem_of_getElem? (i := 768) (by decide +kernel), List.mem_of_getElem? (i := 769) (by decide +kernel)⟩
theorem lw_p34 : lw_okq (⟨"NightInn$Night", "puts", "(I)Z"⟩, 14) := ⟨⟨by decide +kernel, by decide +kernel⟩, List.mem_of_getElem? (i := 254) (by decide +kernel), List.mem_of_getElem? (i := 776) (by decide +kernel), List.mem_of_getElem? (i := 777) (by decide +kernel)⟩
theorem lw_p35 : lw_okq (⟨"NightInn$Night", "tips", "(II)Z"⟩, 14) := ⟨⟨by decide +kernel, by decide +kernel⟩, List.mem_of_getElem? (i := 254) (by decide +kernel), List.mem_of_getElem? (i := 780) (by decide +kernel), List.mem_of_getElem? (i := 781) (by decide +kernel)⟩
theorem lw_p36 : lw_okq (⟨"NightInn$Night", "shuts", "(II)Z"⟩, 14) := ⟨⟨by decide +kernel, by decide +kernel⟩, List.mem_of_getElem? (i := 254) (by decide +kernel), List.mem_of_getElem? (i := 784) (by decide +kernel), List.mem_of_getElem? (i := 785) (by decide +kernel)⟩
theorem lw_p37 : lw_okq (⟨"NightInn$Mornings", "areSame", "(II)Z"⟩, 1) := ⟨⟨by decide +kernel, by decide +kernel⟩, List.mem_of_getElem? (i := 354) (by decide +kernel), List.mem_of_getElem? (i := 798) (by decide +kernel), List.mem_of_getElem? (i := 799) (by decide +kernel)⟩
theorem lw_p38 : lw_okq (⟨"NightInn", "answer", "(I)I"⟩, 11) := ⟨⟨by decide +kernel, by decide +kernel⟩, List.mem_of_getElem? (i := 29) (by decide +kernel), List.mem_of_getElem? (i := 802) (by decide +kernel), List.mem_of_getElem? (i := 803) (by decide +kernel)⟩
theorem lw_p39 : lw_okq (⟨"NightInn", "isRoom", "(I)Z"⟩, 11) := ⟨⟨by decide +kernel, by decide +kernel⟩, List.mem_of_getElem? (i := 29) (by decide +kernel), List.mem_of_getElem? (i := 818) (by decide +kernel), List.mem_of_getElem? (i := 819) (by decide +kernel)⟩
theorem lw_p40 : lw_okq (⟨"NightInn", "isSetting", "(I)Z"⟩, 11) := ⟨⟨by decide +kernel, by decide +kernel⟩, List.mem_of_getElem? (i := 29) (by decide +kernel), List.mem_of_getElem? (i := 846) (by decide +kernel), List.mem_of_getElem? (i := 847) (by decide +kernel)⟩
theorem lw_p41 : lw_okq (⟨"NightInn", "isTold", "()Z"⟩, 11) := ⟨⟨by decide +kernel, by decide +kernel⟩, List.mem_of_getElem? (i := 29) (by decide +kernel), List.mem_of_getElem? (i := 850) (by decide +kernel), List.mem_of_getElem? (i := 851) (by decide +kernel)⟩
theorem lw_p42 : lw_okq (⟨"NightInn", "deny", "(I)Z"⟩, 11) := ⟨⟨by decide +kernel, by decide +kernel⟩, List.mem_of_getElem? (i := 29) (by decide +kernel), List.mem_of_getElem? (i := 858) (by decide +kernel), List.mem_of_getElem? (i := 859) (by decide +kernel)⟩
theorem lw_p43 : lw_okq (⟨"NightInn", "agree", "()Z"⟩, 11) := ⟨⟨by decide +kernel, by decide +kernel⟩, List.mem_of_getElem? (i := 29) (by decide +kernel), List.mem_of_getElem? (i := 862) (by decide +kernel), List.mem_of_getElem? (i := 863) (by decide +kernel)⟩
theorem lw_p44 : lw_okq (⟨"NightInn", "isSleeper", "(I)Z"⟩, 11) := ⟨⟨by decide +kernel, by decide +kernel⟩, List.mem_of_getElem? (i := 29) (by decide +kernel), List.mem_of_getElem? (i := 870) (by decide +kernel), List.mem_of_getElem? (i := 871) (by decide +kernel)⟩
theorem lw_p45 : lw_okq (⟨"NightInn", "isThing", "(I)Z"⟩, 11) := ⟨⟨by decide +kernel, by decide +kernel⟩, List.mem_of_getElem? (i := 29) (by decide +kernel), List.mem_of_getElem? (i := 894) (by decide +kernel), List.mem_of_getElem? (i := 895) (by decide +kernel)⟩
theorem lw_p46 : lw_okq (⟨"NightInn", "isDoor", "(I)Z"⟩, 11) := ⟨⟨by decide +kernel, by decide +kernel⟩, List.mem_of_getElem? (i := 29) (by decide +kernel), List.mem_of_getElem? (i := 903) (by decide +kernel), List.mem_of_getElem? (i := 904) (by decide +kernel)⟩
theorem lw_p47 : lw_okq (⟨"NightInn", "isListener", "(I)Z"⟩, 11) := ⟨⟨by decide +kernel, by decide +kernel⟩, List.mem_of_getElem? (i := 29) (by decide +kernel), List.mem_of_getElem? (i := 911) (by decide +kernel), List.mem_of_getElem? (i := 912) (by decide +kernel)⟩
def lw_privs_3 : List (MethodName × Nat) := [(⟨"NightInn$Night", "isAsleepIn", "(II)Z"⟩, 14), (⟨"NightInn$Night", "takes", "(II)Z"⟩, 14), (⟨"NightInn$Night", "puts", "(I)Z"⟩, 14), (⟨"NightInn$Night", "tips", "(II)Z"⟩, 14), (⟨"NightInn$Night", "shuts", "(II)Z"⟩, 14), (⟨"NightInn$Mornings", "areSame", "(II)Z"⟩, 1), (⟨"NightInn", "answer", "(I)I"⟩, 11), (⟨"NightInn", "isRoom", "(I)Z"⟩, 11), (⟨"NightInn", "isSetting", "(I)Z"⟩, 11), (⟨"NightInn", "isTold", "()Z"⟩, 11), (⟨"NightInn", "deny", "(I)Z"⟩, 11), (⟨"NightInn", "agree", "()Z"⟩, 11), (⟨"NightInn", "isSleeper", "(I)Z"⟩, 11), (⟨"NightInn", "isThing", "(I)Z"⟩, 11), (⟨"NightInn", "isDoor", "(I)Z"⟩, 11), (⟨"NightInn", "isListener", "(I)Z"⟩, 11)]
theorem lw_r3 : ∀ q ∈ lw_privs_3, lw_okq q := List.forall_mem_cons.mpr ⟨lw_p32, List.forall_mem_cons.mpr ⟨lw_p33, List.forall_mem_cons.mpr ⟨lw_p34, List.forall_mem_cons.mpr ⟨lw_p35, List.forall_mem_cons.mpr ⟨lw_p36, List.forall_mem_cons.mpr ⟨lw_p37, List.forall_mem_cons.mpr ⟨lw_p38, List.forall_mem_cons.mpr ⟨lw_p39, List.forall_mem_cons.mpr ⟨lw_p40, List.forall_mem_cons.mpr ⟨lw_p41, List.forall_mem_cons.mpr ⟨lw_p42, List.forall_mem_cons.mpr ⟨lw_p43, List.forall_mem_cons.mpr ⟨lw_p44, List.forall_mem_cons.mpr ⟨lw_p45, List.forall_mem_cons.mpr ⟨lw_p46, List.forall_mem_cons.mpr ⟨lw_p47, fun _ h => absurd h List.not_mem_nil⟩⟩⟩⟩⟩⟩⟩⟩⟩⟩⟩⟩⟩⟩⟩⟩
theorem lw_p48 : lw_okq (⟨"NightInn", "write", "(IIII)I"⟩, 11) := ⟨⟨by decide +kernel, by decide +kernel⟩, List.mem_of_getElem? (i := 29) (by decide +kernel), List.mem_of_getElem? (i := 954) (by decide +kernel), List.mem_of_getElem? (i := 955) (by decide +kernel)⟩
theorem lw_p49 : lw_okq (⟨"NightInn$Notes", "isSo", "(ILNightInn$Mornings;I)Z"⟩, 5) := ⟨⟨by decide +kernel, by decide +kernel⟩, List.mem_of_getElem? (i := 325) (by decide +kernel), List.mem_of_getElem? (i := 990) (by decide +kernel), List.mem_of_getElem? (i := 991) (by decide +kernel)⟩
theorem lw_p50 : lw_okq (⟨"NightInn$Casts", "areSame", "(III)Z"⟩, 10) := ⟨⟨by decide +kernel, by decide +kernel⟩, List.mem_of_getElem? (i := 348) (by decide +kernel), List.mem_of_getElem? (i := 1036) (by decide +kernel), List.mem_of_getElem? (i := 1037) (by decide +kernel)⟩
theorem lw_p51 : lw_okq (⟨"java/lang/Throwable", "fillInStackTrace", "(I)Ljava/lang/Throwable;"⟩, 6) := ⟨⟨by decide +kernel, by decide +kernel⟩, List.mem_of_getElem? (i := 1158) (by decide +kernel), List.mem_of_getElem? (i := 1156) (by decide +kernel), List.mem_of_getElem? (i := 1157) (by decide +kernel)⟩
theorem lw_p52 : lw_okq (⟨"NightInnModel", "refused", "(I)I"⟩, 35) := ⟨⟨by decide +kernel, by decide +kernel⟩, List.mem_of_getElem? (i := 1183) (by decide +kernel), List.mem_of_getElem? (i := 1307) (by decide +kernel), List.mem_of_getElem? (i := 1308) (by decide +kernel)⟩
theorem lw_p53 : lw_okq (⟨"NightInnModel", "goesOn", "()V"⟩, 35) := ⟨⟨by decide +kernel, by decide +kernel⟩, List.mem_of_getElem? (i := 1183) (by decide +kernel), List.mem_of_getElem? (i := 1420) (by decide +kernel), List.mem_of_getElem? (i := 1421) (by decide +kernel)⟩
theorem lw_p54 : lw_okq (⟨"NightInnModel", "byteAt", "(I)I"⟩, 35) := ⟨⟨by decide +kernel, by decide +kernel⟩, List.mem_of_getElem? (i := 1183) (by decide +kernel), List.mem_of_getElem? (i := 1424) (by decide +kernel), List.mem_of_getElem? (i := 1425) (by decide +kernel)⟩
theorem lw_p55 : lw_okq (⟨"NightInnModel", "readInn", "()V"⟩, 35) := ⟨⟨by decide +kernel, by decide +kernel⟩, List.mem_of_getElem? (i := 1183) (by decide +kernel), List.mem_of_getElem? (i := 1435) (by decide +kernel), List.mem_of_getElem? (i := 1436) (by decide +kernel)⟩
theorem lw_p56 : lw_okq (⟨"NightInnModel", "readLine", "()V"⟩, 35) := ⟨⟨by decide +kernel, by decide +kernel⟩, List.mem_of_getElem? (i := 1183) (by decide +kernel), List.mem_of_getElem? (i := 1439) (by decide +kernel), List.mem_of_getElem? (i := 1440) (by decide +kernel)⟩
theorem lw_p57 : lw_okq (⟨"NightInnModel", "isWord", "(Ljava/lang/String;)Z"⟩, 35) := ⟨⟨by decide +kernel, by decide +kernel⟩, List.mem_of_getElem? (i := 1183) (by decide +kernel), List.mem_of_getElem? (i := 1444) (by decide +kernel), List.mem_of_getElem? (i := 1445) (by decide +kernel)⟩
theorem lw_p58 : lw_okq (⟨"NightInnModel", "readHouse", "()V"⟩, 35) := ⟨⟨by decide +kernel, by decide +kernel⟩, List.mem_of_getElem? (i := 1183) (by decide +kernel), List.mem_of_getElem? (i := 1499) (by decide +kernel), List.mem_of_getElem? (i := 1500) (by decide +kernel)⟩
theorem lw_p59 : lw_okq (⟨"NightInnModel", "wrong", "(I)V"⟩, 35) := ⟨⟨by decide +kernel, by decide +kernel⟩, List.mem_of_getElem? (i := 1183) (by decide +kernel), List.mem_of_getElem? (i := 1503) (by decide +kernel), List.mem_of_getElem? (i := 1504) (by decide +kernel)⟩
theorem lw_p60 : lw_okq (⟨"NightInnModel", "readPart", "(Ljava/lang/String;II)I"⟩, 35) := ⟨⟨by decide +kernel, by decide +kernel⟩, List.mem_of_getElem? (i := 1183) (by decide +kernel), List.mem_of_getElem? (i := 1508) (by decide +kernel), List.mem_of_getElem? (i := 1509) (by decide +kernel)⟩
theorem lw_p61 : lw_okq (⟨"NightInnModel", "needs", "(Ljava/lang/String;)V"⟩, 35) := ⟨⟨by decide +kernel, by decide +kernel⟩, List.mem_of_getElem? (i := 1183) (by decide +kernel), List.mem_of_getElem? (i := 1512) (by decide +kernel), List.mem_of_getElem? (i := 1513) (by decide +kernel)⟩
theorem lw_p62 : lw_okq (⟨"NightInnModel", "readWhole", "(II)I"⟩, 35) := ⟨⟨by decide +kernel, by decide +kernel⟩, List.mem_of_getElem? (i := 1183) (by decide +kernel), List.mem_of_getElem? (i := 1516) (by decide +kernel), List.mem_of_getElem? (i := 1517) (by decide +kernel)⟩
theorem lw_p63 : lw_okq (⟨"NightInnModel", "whole", "(II)I"⟩, 35) := ⟨⟨by decide +kernel, by decide +kernel⟩, List.mem_of_getElem? (i := 1183) (by decide +kernel), List.mem_of_getElem? (i := 1520) (by decide +kernel), List.mem_of_getElem? (i := 1521) (by decide +kernel)⟩
def lw_privs_4 : List (MethodName × Nat) := [(⟨"NightInn", "write", "(IIII)I"⟩, 11), (⟨"NightInn$Notes", "isSo", "(ILNightInn$Mornings;I)Z"⟩, 5), (⟨"NightInn$Casts", "areSame", "(III)Z"⟩, 10), (⟨"java/lang/Throwable", "fillInStackTrace", "(I)Ljava/lang/Throwable;"⟩, 6), (⟨"NightInnModel", "refused", "(I)I"⟩, 35), (⟨"NightInnModel", "goesOn", "()V"⟩, 35), (⟨"NightInnModel", "byteAt", "(I)I"⟩, 35), (⟨"NightInnModel", "readInn", "()V"⟩, 35), (⟨"NightInnModel", "readLine", "()V"⟩, 35), (⟨"NightInnModel", "isWord", "(Ljava/lang/String;)Z"⟩, 35), (⟨"NightInnModel", "readHouse", "()V"⟩, 35), (⟨"NightInnModel", "wrong", "(I)V"⟩, 35), (⟨"NightInnModel", "readPart", "(Ljava/lang/String;II)I"⟩, 35), (⟨"NightInnModel", "needs", "(Ljava/lang/String;)V"⟩, 35), (⟨"NightInnModel", "readWhole", "(II)I"⟩, 35), (⟨"NightInnModel", "whole", "(II)I"⟩, 35)]
theorem lw_r4 : ∀ q ∈ lw_privs_4, lw_okq q := List.forall_mem_cons.mpr ⟨lw_p48, List.forall_mem_cons.mpr ⟨lw_p49, List.forall_mem_cons.mpr ⟨lw_p50, List.forall_mem_cons.mpr ⟨lw_p51, List.forall_mem_cons.mpr ⟨lw_p52, List.forall_mem_cons.mpr ⟨lw_p53, List.forall_mem_cons.mpr ⟨lw_p54, List.forall_mem_cons.mpr ⟨lw_p55, List.forall_mem_cons.mpr ⟨lw_p56, List.forall_mem_cons.mpr ⟨lw_p57, List.forall_mem_cons.mpr ⟨lw_p58, List.forall_mem_cons.mpr ⟨lw_p59, List.forall_mem_cons.mpr ⟨lw_p60, List.forall_mem_cons.mpr ⟨lw_p61, List.forall_mem_cons.mpr ⟨lw_p62, List.forall_mem_cons.mpr ⟨lw_p63, fun _ h => absurd h List.not_mem_nil⟩⟩⟩⟩⟩⟩⟩⟩⟩⟩⟩⟩⟩⟩⟩⟩
theorem lw_p64 : lw_okq (⟨"NightInnModel", "readRoom", "()V"⟩, 35) := ⟨⟨by decide +kernel, by decide +kernel⟩, List.mem_of_getElem? (i := 1183) (by decide +kernel), List.mem_of_getElem? (i := 1528) (by decide +kernel), List.mem_of_getElem? (i := 1529) (by decide +kernel)⟩
theorem lw_p65 : lw_okq (⟨"NightInnModel", "begins", "(II)V"⟩, 35) := ⟨⟨by decide +kernel, by decide +kernel⟩, List.mem_of_getElem? (i := 1183) (by decide +kernel), List.mem_of_getElem? (i := 1532) (by decide +kernel), List.mem_of_getElem? (i := 1533) (by decide +kernel)⟩
theorem lw_p66 : lw_okq (⟨"NightInnModel", "readFresh", "(II)V"⟩, 35) := ⟨⟨by decide +kernel, by decide +kernel⟩, List.mem_of_getElem? (i := 1183) (by decide +kernel), List.mem_of_getElem? (i := 1536) (by decide +kernel), List.mem_of_getElem? (i := 1537) (by decide +kernel)⟩
theorem lw_p67 : lw_okq (⟨"NightInnModel", "isName", "()Z"⟩, 35) := ⟨⟨by decide +kernel, by decide +kernel⟩, List.mem_of_getElem? (i := 1183) (by decide +kernel), List.mem_of_getElem? (i := 1540) (by decide +kernel), List.mem_of_getElem? (i := 1541) (by decide +kernel)⟩
theorem lw_p68 : lw_okq (⟨"NightInnModel", "adds", "(II)V"⟩, 35) := ⟨⟨by decide +kernel, by decide +kernel⟩, List.mem_of_getElem? (i := 1183) (by decide +kernel), List.mem_of_getElem? (i := 1565) (by decide +kernel), List.mem_of_getElem? (i := 1566) (by decide +kernel)⟩
theorem lw_p69 : lw_okq (⟨"NightInnModel", "eatsWord", "(Ljava/lang/String;)Z"⟩, 35) := ⟨⟨by decide +kernel, by decide +kernel⟩, List.mem_of_getElem? (i := 1183) (by decide +kernel), List.mem_of_getElem? (i := 1570) (by decide +kernel), List.mem_of_getElem? (i := 1571) (by decide +kernel)⟩
theorem lw_p70 : lw_okq (⟨"NightInnModel", "readDoor", "()V"⟩, 35) := ⟨⟨by decide +kernel, by decide +kernel⟩, List.mem_of_getElem? (i := 1183) (by decide +kernel), List.mem_of_getElem? (i := 1574) (by decide +kernel), List.mem_of_getElem? (i := 1575) (by decide +kernel)⟩
theorem lw_p71 : lw_okq (⟨"NightInnModel", "readKnown", "(I)I"⟩, 35) := ⟨⟨by decide +kernel, by decide +kernel⟩, List.mem_of_getElem? (i := 1183) (by decide +kernel), List.mem_of_getElem? (i := 1578) (by decide +kernel), List.mem_of_getElem? (i := 1579) (by decide +kernel)⟩
theorem lw_p72 : lw_okq (⟨"NightInnModel", "known", "(I)I"⟩, 35) := ⟨⟨by decide +kernel, by decide +kernel⟩, List.mem_of_getElem? (i := 1183) (by decide +kernel), List.mem_of_getElem? (i := 1582) (by decide +kernel), List.mem_of_getElem? (i := 1583) (by decide +kernel)⟩
theorem lw_p73 : lw_okq (⟨"NightInnModel", "needsSign", "(I)V"⟩, 35) := ⟨⟨by decide +kernel, by decide +kernel⟩, List.mem_of_getElem? (i := 1183) (by decide +kernel), List.mem_of_getElem? (i := 1586) (by decide +kernel), List.mem_of_getElem? (i := 1587) (by decide +kernel)⟩
theorem lw_p74 : lw_okq (⟨"NightInnModel", "readThing", "()V"⟩, 35) := ⟨⟨by decide +kernel, by decide +kernel⟩, List.mem_of_getElem? (i := 1183) (by decide +kernel), List.mem_of_getElem? (i := 1594) (by decide +kernel), List.mem_of_getElem? (i := 1595) (by decide +kernel)⟩
theorem lw_p75 : lw_okq (⟨"NightInnModel", "readDream", "()V"⟩, 35) := ⟨⟨by decide +kernel, by decide +kernel⟩, List.mem_of_getElem? (i := 1183) (by decide +kernel), List.mem_of_getElem? (i := 1599) (by decide +kernel), List.mem_of_getElem? (i := 1600) (by decide +kernel)⟩
theorem lw_p76 : lw_okq (⟨"NightInnModel", "readSleeper", "()V"⟩, 35) := ⟨⟨by decide +kernel, by decide +kernel⟩, List.mem_of_getElem? (i := 1183) (by decide +kernel), List.mem_of_getElem? (i := 1603) (by decide +kernel), List.mem_of_getElem? (i := 1604) (by decide +kernel)⟩
theorem lw_p77 : lw_okq (⟨"NightInnModel", "readListens", "()V"⟩, 35) := ⟨⟨by decide +kernel, by decide +kernel⟩, List.mem_of_getElem? (i := 1183) (by decide +kernel), List.mem_of_getElem? (i := 1609) (by decide +kernel), List.mem_of_getElem? (i := 1610) (by decide +kernel)⟩
theorem lw_p78 : lw_okq (⟨"NightInnModel", "eatsSign", "(I)Z"⟩, 35) := ⟨⟨by decide +kernel, by decide +kernel⟩, List.mem_of_getElem? (i := 1183) (by decide +kernel), List.mem_of_getElem? (i := 1613) (by decide +kernel), List.mem_of_getElem? (i := 1614) (by decide +kernel)⟩
theorem lw_p79 : lw_okq (⟨"NightInnModel", "lays", "()V"⟩, 35) := ⟨⟨by decide +kernel, by decide +kernel⟩, List.mem_of_getElem? (i := 1183) (by decide +kernel), List.mem_of_getElem? (i := 1617) (by decide +kernel), List.mem_of_getElem? (i := 1618) (by decide +kernel)⟩
def lw_privs_5 : List (MethodName × Nat) := [(⟨"NightInnModel", "readRoom", "()V"⟩, 35), (⟨"NightInnModel", "begins", "(II)V"⟩, 35), (⟨"NightInnModel", "readFresh", "(II)V"⟩, 35), (⟨"NightInnModel", "isName", "()Z"⟩, 35), (⟨"NightInnModel", "adds", "(II)V"⟩, 35), (⟨"NightInnModel", "eatsWord", "(Ljava/lang/String;)Z"⟩, 35), (⟨"NightInnModel", "readDoor", "()V"⟩, 35), (⟨"NightInnModel", "readKnown", "(I)I"⟩, 35), (⟨"NightInnModel", "known", "(I)I"⟩, 35), (⟨"NightInnModel", "needsSign", "(I)V"⟩, 35), (⟨"NightInnModel", "readThing", "()V"⟩, 35), (⟨"NightInnModel", "readDream", "()V"⟩, 35), (⟨"NightInnModel", "readSleeper", "()V"⟩, 35), (⟨"NightInnModel", "readListens", "()V"⟩, 35), (⟨"NightInnModel", "eatsSign", "(I)Z"⟩, 35), (⟨"NightInnModel", "lays", "()V"⟩, 35)]
theorem lw_r5 : ∀ q ∈ lw_privs_5, lw_okq q := List.forall_mem_cons.mpr ⟨lw_p64, List.forall_mem_cons.mpr ⟨lw_p65, List.forall_mem_cons.mpr ⟨lw_p66, List.forall_mem_cons.mpr ⟨lw_p67, List.forall_mem_cons.mpr ⟨lw_p68, List.forall_mem_cons.mpr ⟨lw_p69, List.forall_mem_cons.mpr ⟨lw_p70, List.forall_mem_cons.mpr ⟨lw_p71, List.forall_mem_cons.mpr ⟨lw_p72, List.forall_mem_cons.mpr ⟨lw_p73, List.forall_mem_cons.mpr ⟨lw_p74, List.forall_mem_cons.mpr ⟨lw_p75, List.forall_mem_cons.mpr ⟨lw_p76, List.forall_mem_cons.mpr ⟨lw_p77, List.forall_mem_cons.mpr ⟨lw_p78, List.forall_mem_cons.mpr ⟨lw_p79, fun _ h => absurd h List.not_mem_nil⟩⟩⟩⟩⟩⟩⟩⟩⟩⟩⟩⟩⟩⟩⟩⟩
theorem lw_p80 : lw_okq (⟨"NightInnModel", "measures", "(II)V"⟩, 35) := ⟨⟨by decide +kernel, by decide +kernel⟩, List.mem_of_getElem? (i := 1183) (by decide +kernel), List.mem_of_getElem? (i := 1621) (by decide +kernel), List.mem_of_getElem? (i := 1622) (by decide +kernel)⟩
theorem lw_p81 : lw_okq (⟨"NightInnModel", "fallsNight", "(I)V"⟩, 35) := ⟨⟨by decide +kernel, by decide +kernel⟩, List.mem_of_getElem? (i := 1183) (by decide +kernel), List.mem_of_getElem? (i := 1628) (by decide +kernel), List.mem_of_getElem? (i := 1629) (by decide +kernel)⟩
theorem lw_p82 : lw_okq (⟨"NightInnModel", "good", "(I)I"⟩, 35) := ⟨⟨by decide +kernel, by decide +kernel⟩, List.mem_of_getElem? (i := 1183) (by decide +kernel), List.mem_of_getElem? (i := 1632) (by decide +kernel), List.mem_of_getElem? (i := 1633) (by decide +kernel)⟩
theorem lw_p83 : lw_okq (⟨"NightInnModel", "isRoom", "(I)Z"⟩, 35) := ⟨⟨by decide +kernel, by decide +kernel⟩, List.mem_of_getElem? (i := 1183) (by decide +kernel), List.mem_of_getElem? (i := 1648) (by decide +kernel), List.mem_of_getElem? (i := 1649) (by decide +kernel)⟩
theorem lw_p84 : lw_okq (⟨"NightInnModel", "isDream", "(I)Z"⟩, 35) := ⟨⟨by decide +kernel, by decide +kernel⟩, List.mem_of_getElem? (i := 1183) (by decide +kernel), List.mem_of_getElem? (i := 1664) (by decide +kernel), List.mem_of_getElem? (i := 1665) (by decide +kernel)⟩
theorem lw_p85 : lw_okq (⟨"NightInnModel", "isSetting", "(I)Z"⟩, 35) := ⟨⟨by decide +kernel, by decide +kernel⟩, List.mem_of_getElem? (i := 1183) (by decide +kernel), List.mem_of_getElem? (i := 1672) (by decide +kernel), List.mem_of_getElem? (i := 1673) (by decide +kernel)⟩
theorem lw_p86 : lw_okq (⟨"NightInnModel", "settings", "()I"⟩, 35) := ⟨⟨by decide +kernel, by decide +kernel⟩, List.mem_of_getElem? (i := 1183) (by decide +kernel), List.mem_of_getElem? (i := 1676) (by decide +kernel), List.mem_of_getElem? (i := 1677) (by decide +kernel)⟩
theorem lw_p87 : lw_okq (⟨"NightInnModel", "denied", "(I)Z"⟩, 35) := ⟨⟨by decide +kernel, by decide +kernel⟩, List.mem_of_getElem? (i := 1183) (by decide +kernel), List.mem_of_getElem? (i := 1680) (by decide +kernel), List.mem_of_getElem? (i := 1681) (by decide +kernel)⟩
theorem lw_p88 : lw_okq (⟨"NightInnModel", "granted", "()Z"⟩, 35) := ⟨⟨by decide +kernel, by decide +kernel⟩, List.mem_of_getElem? (i := 1183) (by decide +kernel), List.mem_of_getElem? (i := 1684) (by decide +kernel), List.mem_of_getElem? (i := 1685) (by decide +kernel)⟩
theorem lw_p89 : lw_okq (⟨"NightInnModel", "isSleeper", "(I)Z"⟩, 35) := ⟨⟨by decide +kernel, by decide +kernel⟩, List.mem_of_getElem? (i := 1183) (by decide +kernel), List.mem_of_getElem? (i := 1692) (by decide +kernel), List.mem_of_getElem? (i := 1693) (by decide +kernel)⟩
theorem lw_p90 : lw_okq (⟨"NightInnModel", "passAll", "(I)I"⟩, 35) := ⟨⟨by decide +kernel, by decide +kernel⟩, List.mem_of_getElem? (i := 1183) (by decide +kernel), List.mem_of_getElem? (i := 1700) (by decide +kernel), List.mem_of_getElem? (i := 1701) (by decide +kernel)⟩
theorem lw_p91 : lw_okq (⟨"NightInnModel", "passes", "()V"⟩, 35) := ⟨⟨by decide +kernel, by decide +kernel⟩, List.mem_of_getElem? (i := 1183) (by decide +kernel), List.mem_of_getElem? (i := 1704) (by decide +kernel), List.mem_of_getElem? (i := 1705) (by decide +kernel)⟩
theorem lw_p92 : lw_okq (⟨"NightInnModel", "acts", "(I)V"⟩, 35) := ⟨⟨by decide +kernel, by decide +kernel⟩, List.mem_of_getElem? (i := 1183) (by decide +kernel), List.mem_of_getElem? (i := 1708) (by decide +kernel), List.mem_of_getElem? (i := 1709) (by decide +kernel)⟩
theorem lw_p93 : lw_okq (⟨"NightInnModel", "stateOf", "(I)I"⟩, 35) := ⟨⟨by decide +kernel, by decide +kernel⟩, List.mem_of_getElem? (i := 1183) (by decide +kernel), List.mem_of_getElem? (i := 1712) (by decide +kernel), List.mem_of_getElem? (i := 1713) (by decide +kernel)⟩
theorem lw_p94 : lw_okq (⟨"NightInnModel", "goes", "(II)V"⟩, 35) := ⟨⟨by decide +kernel, by decide +kernel⟩, List.mem_of_getElem? (i := 1183) (by decide +kernel), List.mem_of_getElem? (i := 1716) (by decide +kernel), List.mem_of_getElem? (i := 1717) (by decide +kernel)⟩
theorem lw_p95 : lw_okq (⟨"NightInnModel", "lockedDoors", "()I"⟩, 35) := ⟨⟨by decide +kernel, by decide +kernel⟩, List.mem_of_getElem? (i := 1183) (by decide +kernel), List.mem_of_getElem? (i := 1720) (by decide +kernel), List.mem_of_getElem? (i := 1721) (by decide +kernel)⟩
def lw_privs_6 : List (MethodName × Nat) := [(⟨"NightInnModel", "measures", "(II)V"⟩, 35), (⟨"NightInnModel", "fallsNight", "(I)V"⟩, 35), (⟨"NightInnModel", "good", "(I)I"⟩, 35), (⟨"NightInnModel", "isRoom", "(I)Z"⟩, 35), (⟨"NightInnModel", "isDream", "(I)Z"⟩, 35), (⟨"NightInnModel", "isSetting", "(I)Z"⟩, 35), (⟨"NightInnModel", "settings", "()I"⟩, 35), (⟨"NightInnModel", "denied", "(I)Z"⟩, 35), (⟨"NightInnModel", "granted", "()Z"⟩, 35), (⟨"NightInnModel", "isSleeper", "(I)Z"⟩, 35), (⟨"NightInnModel", "passAll", "(I)I"⟩, 35), (⟨"NightInnModel", "passes", "()V"⟩, 35), (⟨"NightInnModel", "acts", "(I)V"⟩, 35), (⟨"NightInnModel", "stateOf", "(I)I"⟩, 35), (⟨"NightInnModel", "goes", "(II)V"⟩, 35), (⟨"NightInnModel", "lockedDoors", "()I"⟩, 35)]
theorem lw_r6 : ∀ q ∈ lw_privs_6, lw_okq q := List.forall_mem_cons.mpr ⟨lw_p80, List.forall_mem_cons.mpr ⟨lw_p81, List.forall_mem_cons.mpr ⟨lw_p82, List.forall_mem_cons.mpr ⟨lw_p83, List.forall_mem_cons.mpr ⟨lw_p84, List.forall_mem_cons.mpr ⟨lw_p85, List.forall_mem_cons.mpr ⟨lw_p86, List.forall_mem_cons.mpr ⟨lw_p87, List.forall_mem_cons.mpr ⟨lw_p88, List.forall_mem_cons.mpr ⟨lw_p89, List.forall_mem_cons.mpr ⟨lw_p90, List.forall_mem_cons.mpr ⟨lw_p91, List.forall_mem_cons.mpr ⟨lw_p92, List.forall_mem_cons.mpr ⟨lw_p93, List.forall_mem_cons.mpr ⟨lw_p94, List.forall_mem_cons.mpr ⟨lw_p95, fun _ h => absurd h List.not_mem_nil⟩⟩⟩⟩⟩⟩⟩⟩⟩⟩⟩⟩⟩⟩⟩⟩
theorem lw_p96 : lw_okq (⟨"NightInnModel", "creaksIn", "(I)V"⟩, 35) := ⟨⟨by decide +kernel, by decide +kernel⟩, List.mem_of_getElem? (i := 1183) (by decide +kernel), List.mem_of_getElem? (i := 1724) (by decide +kernel), List.mem_of_getElem? (i := 1725) (by decide +kernel)⟩
theorem lw_p97 : lw_okq (⟨"NightInnModel", "meets", "(I)V"⟩, 35) := ⟨⟨by decide +kernel, by decide +kernel⟩, List.mem_of_getElem? (i := 1183) (by decide +kernel), List.mem_of_getElem? (i := 1728) (by decide +kernel), List.mem_of_getElem? (i := 1729) (by decide +kernel)⟩
theorem lw_p98 : lw_okq (⟨"NightInnModel", "does", "(III)Z"⟩, 35) := ⟨⟨by decide +kernel, by decide +kernel⟩, List.mem_of_getElem? (i := 1183) (by decide +kernel), List.mem_of_getElem? (i := 1732) (by decide +kernel), List.mem_of_getElem? (i := 1733) (by decide +kernel)⟩
theorem lw_p99 : lw_okq (⟨"NightInnModel", "holder", "(I)I"⟩, 35) := ⟨⟨by decide +kernel, by decide +kernel⟩, List.mem_of_getElem? (i := 1183) (by decide +kernel), List.mem_of_getElem? (i := 1736) (by decide +kernel), List.mem_of_getElem? (i := 1737) (by decide +kernel)⟩
theorem lw_p100 : lw_okq (⟨"NightInnModel", "isThing", "(I)Z"⟩, 35) := ⟨⟨by decide +kernel, by decide +kernel⟩, List.mem_of_getElem? (i := 1183) (by decide +kernel), List.mem_of_getElem? (i := 1752) (by decide +kernel), List.mem_of_getElem? (i := 1753) (by decide +kernel)⟩
theorem lw_p101 : lw_okq (⟨"NightInnModel", "isDoor", "(I)Z"⟩, 35) := ⟨⟨by decide +kernel, by decide +kernel⟩, List.mem_of_getElem? (i := 1183) (by decide +kernel), List.mem_of_getElem? (i := 1760) (by decide +kernel), List.mem_of_getElem? (i := 1761) (by decide +kernel)⟩
theorem lw_p102 : lw_okq (⟨"NightInnModel", "isListener", "(I)Z"⟩, 35) := ⟨⟨by decide +kernel, by decide +kernel⟩, List.mem_of_getElem? (i := 1183) (by decide +kernel), List.mem_of_getElem? (i := 1768) (by decide +kernel), List.mem_of_getElem? (i := 1769) (by decide +kernel)⟩
theorem lw_p103 : lw_okq (⟨"NightInnModel", "hears", "(II)Z"⟩, 35) := ⟨⟨by decide +kernel, by decide +kernel⟩, List.mem_of_getElem? (i := 1183) (by decide +kernel), List.mem_of_getElem? (i := 1772) (by decide +kernel), List.mem_of_getElem? (i := 1773) (by decide +kernel)⟩
theorem lw_p104 : lw_okq (⟨"NightInnModel", "plays", "(II)V"⟩, 35) := ⟨⟨by decide +kernel, by decide +kernel⟩, List.mem_of_getElem? (i := 1183) (by decide +kernel), List.mem_of_getElem? (i := 1784) (by decide +kernel), List.mem_of_getElem? (i := 1785) (by decide +kernel)⟩
theorem lw_p105 : lw_okq (⟨"NightInnModel", "notesDown", "(IIIIZ)I"⟩, 35) := ⟨⟨by decide +kernel, by decide +kernel⟩, List.mem_of_getElem? (i := 1183) (by decide +kernel), List.mem_of_getElem? (i := 1803) (by decide +kernel), List.mem_of_getElem? (i := 1804) (by decide +kernel)⟩
theorem lw_p106 : lw_okq (⟨"NightInnModel", "refusesBooks", "(I)I"⟩, 35) := ⟨⟨by decide +kernel, by decide +kernel⟩, List.mem_of_getElem? (i := 1183) (by decide +kernel), List.mem_of_getElem? (i := 1823) (by decide +kernel), List.mem_of_getElem? (i := 1824) (by decide +kernel)⟩
theorem lw_p107 : lw_okq (⟨"NightInnModel", "fitsBy", "(I)I"⟩, 35) := ⟨⟨by decide +kernel, by decide +kernel⟩, List.mem_of_getElem? (i := 1183) (by decide +kernel), List.mem_of_getElem? (i := 1827) (by decide +kernel), List.mem_of_getElem? (i := 1828) (by decide +kernel)⟩
theorem lw_p108 : lw_okq (⟨"NightInnModel", "castMany", "()I"⟩, 35) := ⟨⟨by decide +kernel, by decide +kernel⟩, List.mem_of_getElem? (i := 1183) (by decide +kernel), List.mem_of_getElem? (i := 1831) (by decide +kernel), List.mem_of_getElem? (i := 1832) (by decide +kernel)⟩
theorem lw_p109 : lw_okq (⟨"NightInnModel", "casts", "(I)V"⟩, 35) := ⟨⟨by decide +kernel, by decide +kernel⟩, List.mem_of_getElem? (i := 1183) (by decide +kernel), List.mem_of_getElem? (i := 1835) (by decide +kernel), List.mem_of_getElem? (i := 1836) (by decide +kernel)⟩
theorem lw_p110 : lw_okq (⟨"NightInnModel", "isNoted", "(I)Z"⟩, 35) := ⟨⟨by decide +kernel, by decide +kernel⟩, List.mem_of_getElem? (i := 1183) (by decide +kernel), List.mem_of_getElem? (i := 1839) (by decide +kernel), List.mem_of_getElem? (i := 1840) (by decide +kernel)⟩
theorem lw_p111 : lw_okq (⟨"NightInnModel", "dreamIn", "(II)I"⟩, 35) := ⟨⟨by decide +kernel, by decide +kernel⟩, List.mem_of_getElem? (i := 1183) (by decide +kernel), List.mem_of_getElem? (i := 1847) (by decide +kernel), List.mem_of_getElem? (i := 1848) (by decide +kernel)⟩
def lw_privs_7 : List (MethodName × Nat) := [(⟨"NightInnModel", "creaksIn", "(I)V"⟩, 35), (⟨"NightInnModel", "meets", "(I)V"⟩, 35), (⟨"NightInnModel", "does", "(III)Z"⟩, 35), (⟨"NightInnModel", "holder", "(I)I"⟩, 35), (⟨"NightInnModel", "isThing", "(I)Z"⟩, 35), (⟨"NightInnModel", "isDoor", "(I)Z"⟩, 35), (⟨"NightInnModel", "isListener", "(I)Z"⟩, 35), (⟨"NightInnModel", "hears", "(II)Z"⟩, 35), (⟨"NightInnModel", "plays", "(II)V"⟩, 35), (⟨"NightInnModel", "notesDown", "(IIIIZ)I"⟩, 35), (⟨"NightInnModel", "refusesBooks", "(I)I"⟩, 35), (⟨"NightInnModel", "fitsBy", "(I)I"⟩, 35), (⟨"NightInnModel", "castMany", "()I"⟩, 35), (⟨"NightInnModel", "casts", "(I)V"⟩, 35), (⟨"NightInnModel", "isNoted", "(I)Z"⟩, 35), (⟨"NightInnModel", "dreamIn", "(II)I"⟩, 35)]
theorem lw_r7 : ∀ q ∈ lw_privs_7, lw_okq q := List.forall_mem_cons.mpr ⟨lw_p96, List.forall_mem_cons.mpr ⟨lw_p97, List.forall_mem_cons.mpr ⟨lw_p98, List.forall_mem_cons.mpr ⟨lw_p99, List.forall_mem_cons.mpr ⟨lw_p100, List.forall_mem_cons.mpr ⟨lw_p101, List.forall_mem_cons.mpr ⟨lw_p102, List.forall_mem_cons.mpr ⟨lw_p103, List.forall_mem_cons.mpr ⟨lw_p104, List.forall_mem_cons.mpr ⟨lw_p105, List.forall_mem_cons.mpr ⟨lw_p106, List.forall_mem_cons.mpr ⟨lw_p107, List.forall_mem_cons.mpr ⟨lw_p108, List.forall_mem_cons.mpr ⟨lw_p109, List.forall_mem_cons.mpr ⟨lw_p110, List.forall_mem_cons.mpr ⟨lw_p111, fun _ h => absurd h List.not_mem_nil⟩⟩⟩⟩⟩⟩⟩⟩⟩⟩⟩⟩⟩⟩⟩⟩
theorem lw_p112 : lw_okq (⟨"NightInnModel", "mostAlike", "(III)I"⟩, 35) := ⟨⟨by decide +kernel, by decide +kernel⟩, List.mem_of_getElem? (i := 1183) (by decide +kernel), List.mem_of_getElem? (i := 1863) (by decide +kernel), List.mem_of_getElem? (i := 1864) (by decide +kernel)⟩
theorem lw_p113 : lw_okq (⟨"NightInnModel", "dawns", "(III)V"⟩, 35) := ⟨⟨by decide +kernel, by decide +kernel⟩, List.mem_of_getElem? (i := 1183) (by decide +kernel), List.mem_of_getElem? (i := 1867) (by decide +kernel), List.mem_of_getElem? (i := 1868) (by decide +kernel)⟩
theorem lw_p114 : lw_okq (⟨"NightInnModel", "isAlike", "(II)Z"⟩, 35) := ⟨⟨by decide +kernel, by decide +kernel⟩, List.mem_of_getElem? (i := 1183) (by decide +kernel), List.mem_of_getElem? (i := 1871) (by decide +kernel), List.mem_of_getElem? (i := 1872) (by decide +kernel)⟩
theorem lw_p115 : lw_okq (⟨"NightInnModel", "compares", "(I)V"⟩, 35) := ⟨⟨by decide +kernel, by decide +kernel⟩, List.mem_of_getElem? (i := 1183) (by decide +kernel), List.mem_of_getElem? (i := 1887) (by decide +kernel), List.mem_of_getElem? (i := 1888) (by decide +kernel)⟩
theorem lw_p116 : lw_okq (⟨"NightInnModel", "safest", "(I)I"⟩, 35) := ⟨⟨by decide +kernel, by decide +kernel⟩, List.mem_of_getElem? (i := 1183) (by decide +kernel), List.mem_of_getElem? (i := 1900) (by decide +kernel), List.mem_of_getElem? (i := 1901) (by decide +kernel)⟩
theorem lw_p117 : lw_okq (⟨"NightInnModel", "isBed", "(I)Z"⟩, 35) := ⟨⟨by decide +kernel, by decide +kernel⟩, List.mem_of_getElem? (i := 1183) (by decide +kernel), List.mem_of_getElem? (i := 1904) (by decide +kernel), List.mem_of_getElem? (i := 1905) (by decide +kernel)⟩
theorem lw_p118 : lw_okq (⟨"NightInnModel", "toldLocked", "()I"⟩, 35) := ⟨⟨by decide +kernel, by decide +kernel⟩, List.mem_of_getElem? (i := 1183) (by decide +kernel), List.mem_of_getElem? (i := 1908) (by decide +kernel), List.mem_of_getElem? (i := 1909) (by decide +kernel)⟩
theorem lw_p119 : lw_okq (⟨"NightInnModel", "walksMore", "(I)Z"⟩, 35) := ⟨⟨by decide +kernel, by decide +kernel⟩, List.mem_of_getElem? (i := 1183) (by decide +kernel), List.mem_of_getElem? (i := 1923) (by decide +kernel), List.mem_of_getElem? (i := 1924) (by decide +kernel)⟩
def lw_privs_8 : List (MethodName × Nat) := [(⟨"NightInnModel", "mostAlike", "(III)I"⟩, 35), (⟨"NightInnModel", "dawns", "(III)V"⟩, 35), (⟨"NightInnModel", "isAlike", "(II)Z"⟩, 35), (⟨"NightInnModel", "compares", "(I)V"⟩, 35), (⟨"NightInnModel", "safest", "(I)I"⟩, 35), (⟨"NightInnModel", "isBed", "(I)Z"⟩, 35), (⟨"NightInnModel", "toldLocked", "()I"⟩, 35), (⟨"NightInnModel", "walksMore", "(I)Z"⟩, 35)]
theorem lw_r8 : ∀ q ∈ lw_privs_8, lw_okq q := List.forall_mem_cons.mpr ⟨lw_p112, List.forall_mem_cons.mpr ⟨lw_p113, List.forall_mem_cons.mpr ⟨lw_p114, List.forall_mem_cons.mpr ⟨lw_p115, List.forall_mem_cons.mpr ⟨lw_p116, List.forall_mem_cons.mpr ⟨lw_p117, List.forall_mem_cons.mpr ⟨lw_p118, List.forall_mem_cons.mpr ⟨lw_p119, fun _ h => absurd h List.not_mem_nil⟩⟩⟩⟩⟩⟩⟩⟩
def lw_privs : List (MethodName × Nat) := lw_privs_1 ++ (lw_privs_2 ++ (lw_privs_3 ++ (lw_privs_4 ++ (lw_privs_5 ++ (lw_privs_6 ++ (lw_privs_7 ++ (lw_privs_8)))))))
def lw_tbl : List Cond := k2_sels lw_privs ++ tables_1
theorem lw_privs_ok : ∀ q ∈ lw_privs, lw_okq q := by
  show ∀ q ∈ lw_privs_1 ++ (lw_privs_2 ++ (lw_privs_3 ++ (lw_privs_4 ++ (lw_privs_5 ++ (lw_privs_6 ++ (lw_privs_7 ++ (lw_privs_8))))))), lw_okq q
  exact List.forall_mem_append.mpr ⟨lw_r1, List.forall_mem_append.mpr ⟨lw_r2, List.forall_mem_append.mpr ⟨lw_r3, List.forall_mem_append.mpr ⟨lw_r4, List.forall_mem_append.mpr ⟨lw_r5, List.forall_mem_append.mpr ⟨lw_r6, List.forall_mem_append.mpr ⟨lw_r7, lw_r8⟩⟩⟩⟩⟩⟩⟩
-- ===== end of PART A; then your names; then what follows =====
def RX0 : String := "NightInn$Casts"
def TX0 : u_T := fun k => match k with
  | 0 => ("NightInn$Casts", "trial", "LNightInn$Night;", true)
  | 1 => ("NightInn$Casts", "inn", "LNightInn$Inn;", false)
  | 2 => ("NightInn$Casts", "count", "I", false)
  | 3 => ("NightInn$Casts", "dreams", "[I", true)
  | 4 => ("NightInn$Casts", "plain", "LNightInn$Mornings;", true)
  | 5 => ("NightInn$Casts", "set", "LNightInn$Mornings;", true)
  | 6 => ("NightInn$Casts", "tried", "[Z", true)
  | 7 => ("NightInn$Casts", "kin", "[I", true)
  | 8 => ("NightInn$Casts", "fitting", "I", false)
  | _ => ("NightInn$Casts", "fitters", "[I", true)
def tyX0 : Nat → FieldType := fun k => match k with
  | 0 => .object "NightInn$Night"
  | 1 => .object "NightInn$Inn"
  | 2 => .int
  | 3 => .array .int
  | 4 => .object "NightInn$Mornings"
  | 5 => .object "NightInn$Mornings"
  | 6 => .array .boolean
  | 7 => .array .int
  | 8 => .int
  | _ => .array .int
abbrev wsX00 : List Cond := u_ws RX0 TX0 10
theorem nmX0 : ∀ a, a < 10 → ∀ b, b < 10 → a ≠ b → (TX0 a).2.1 ≠ (TX0 b).2.1 := by decide +kernel
theorem tyX0_ok : ∀ k, k < 10 → parseFieldDescriptor (TX0 k).2.2.1 = some (tyX0 k) := by decide +kernel
abbrev cX0_init : ByteArray := prog_2_method_1_code
def yX0_init : MethodName := ⟨RX0, "<init>", "(LNightInn$Inn;)V"⟩
abbrev cX0_moveTo : ByteArray := prog_2_method_2_code
def yX0_moveTo : MethodName := ⟨RX0, "moveTo", "(LNightInn$Inn;)V"⟩
abbrev cX0_fillFromBefore : ByteArray := prog_2_method_3_code
def yX0_fillFromBefore : MethodName := ⟨RX0, "fillFromBefore", "(I)V"⟩
abbrev cX0_tryOut : ByteArray := prog_2_method_4_code
def yX0_tryOut : MethodName := ⟨RX0, "tryOut", "(II)V"⟩
abbrev cX0_gather : ByteArray := prog_2_method_5_code
def yX0_gather : MethodName := ⟨RX0, "gather", "(LNightInn$Notes;I)I"⟩
abbrev cX0_dreamIn : ByteArray := prog_2_method_6_code
def yX0_dreamIn : MethodName := ⟨RX0, "dreamIn", "(II)I"⟩
abbrev cX0_commonDream : ByteArray := prog_2_method_7_code
def yX0_commonDream : MethodName := ⟨RX0, "commonDream", "(I)I"⟩
abbrev cX0_areSame : ByteArray := prog_2_method_8_code
def yX0_areSame : MethodName := ⟨RX0, "areSame", "(III)Z"⟩
abbrev cX0_mostAlike : ByteArray := prog_2_method_9_code
def yX0_mostAlike : MethodName := ⟨RX0, "mostAlike", "(II)I"⟩
abbrev cX0_bestSetting : ByteArray := prog_2_method_10_code
def yX0_bestSetting : MethodName := ⟨RX0, "bestSetting", "()I"⟩
abbrev cX0_areAlike : ByteArray := prog_2_method_11_code
def yX0_areAlike : MethodName := ⟨RX0, "areAlike", "(II)Z"⟩
abbrev cX0_alikePairs : ByteArray := prog_2_method_12_code
def yX0_alikePairs : MethodName := ⟨RX0, "alikePairs", "()I"⟩
def RX1 : String := "NightInn$House"
def TX1 : u_T := fun k => match k with
  | 0 => ("NightInn$House", "rooms", "I", false)
  | 1 => ("NightInn$House", "creak", "[I", true)
  | 2 => ("NightInn$House", "cold", "[Z", true)
  | 3 => ("NightInn$House", "doors", "I", false)
  | 4 => ("NightInn$House", "one", "[I", true)
  | 5 => ("NightInn$House", "other", "[I", true)
  | 6 => ("NightInn$House", "how", "[I", true)
  | 7 => ("NightInn$House", "falls", "[Z", true)
  | _ => ("NightInn$House", "ways", "LNightInn$Ways;", true)
def tyX1 : Nat → FieldType := fun k => match k with
  | 0 => .int
  | 1 => .array .int
  | 2 => .array .boolean
  | 3 => .int
  | 4 => .array .int
  | 5 => .array .int
  | 6 => .array .int
  | 7 => .array .boolean
  | _ => .object "NightInn$Ways"
abbrev wsX10 : List Cond := u_ws RX1 TX1 9
theorem nmX1 : ∀ a, a < 9 → ∀ b, b < 9 → a ≠ b → (TX1 a).2.1 ≠ (TX1 b).2.1 := by decide +kernel
theorem tyX1_ok : ∀ k, k < 9 → parseFieldDescriptor (TX1 k).2.2.1 = some (tyX1 k) := by decide +kernel
abbrev cX1_init : ByteArray := prog_3_method_1_code
def yX1_init : MethodName := ⟨RX1, "<init>", "()V"⟩
abbrev cX1_addRoom : ByteArray := prog_3_method_2_code
def yX1_addRoom : MethodName := ⟨RX1, "addRoom", "(IZ)V"⟩
abbrev cX1_addDoor : ByteArray := prog_3_method_3_code
def yX1_addDoor : MethodName := ⟨RX1, "addDoor", "(IIIZ)V"⟩
abbrev cX1_doorBetween : ByteArray := prog_3_method_4_code
def yX1_doorBetween : MethodName := ⟨RX1, "doorBetween", "(II)I"⟩
abbrev cX1_reachedFrom : ByteArray := prog_3_method_5_code
def yX1_reachedFrom : MethodName := ⟨RX1, "reachedFrom", "(II)I"⟩
def RX2 : String := "NightInn$Inn"
def TX2 : u_T := fun k => match k with
  | 0 => ("NightInn$Inn", "house", "LNightInn$House;", true)
  | 1 => ("NightInn$Inn", "minutes", "I", false)
  | 2 => ("NightInn$Inn", "things", "I", false)
  | 3 => ("NightInn$Inn", "thingIn", "[I", true)
  | 4 => ("NightInn$Inn", "full", "[Z", true)
  | 5 => ("NightInn$Inn", "dreams", "I", false)
  | 6 => ("NightInn$Inn", "states", "[I", true)
  | 7 => ("NightInn$Inn", "sleepers", "I", false)
  | 8 => ("NightInn$Inn", "bed", "[I", true)
  | 9 => ("NightInn$Inn", "dreamOf", "[I", true)
  | 10 => ("NightInn$Inn", "listeners", "I", false)
  | _ => ("NightInn$Inn", "listensIn", "[I", true)
def tyX2 : Nat → FieldType := fun k => match k with
  | 0 => .object "NightInn$House"
  | 1 => .int
  | 2 => .int
  | 3 => .array .int
  | 4 => .array .boolean
  | 5 => .int
  | 6 => .array .int
  | 7 => .int
  | 8 => .array .int
  | 9 => .array .int
  | 10 => .int
  | _ => .array .int
abbrev wsX20 : List Cond := u_ws RX2 TX2 12
theorem nmX2 : ∀ a, a < 12 → ∀ b, b < 12 → a ≠ b → (TX2 a).2.1 ≠ (TX2 b).2.1 := by decide +kernel
theorem tyX2_ok : ∀ k, k < 12 → parseFieldDescriptor (TX2 k).2.2.1 = some (tyX2 k) := by decide +kernel
abbrev cX2_init : ByteArray := prog_4_method_1_code
def yX2_init : MethodName := ⟨RX2, "<init>", "()V"⟩
abbrev cX2_clear : ByteArray := prog_4_method_2_code
def yX2_clear : MethodName := ⟨RX2, "clear", "()V"⟩
abbrev cX2_addThing : ByteArray := prog_4_method_3_code
def yX2_addThing : MethodName := ⟨RX2, "addThing", "(IZ)V"⟩
abbrev cX2_addSleeper : ByteArray := prog_4_method_4_code
def yX2_addSleeper : MethodName := ⟨RX2, "addSleeper", "(II)V"⟩
abbrev cX2_addListener : ByteArray := prog_4_method_5_code
def yX2_addListener : MethodName := ⟨RX2, "addListener", "(I)V"⟩
abbrev cX2_isListening : ByteArray := prog_4_method_6_code
def yX2_isListening : MethodName := ⟨RX2, "isListening", "(I)Z"⟩
abbrev cX2_tellState : ByteArray := prog_4_method_7_code
def yX2_tellState : MethodName := ⟨RX2, "tellState", "(IIIIII)V"⟩
abbrev cX2_ofState : ByteArray := prog_4_method_8_code
def yX2_ofState : MethodName := ⟨RX2, "ofState", "(III)I"⟩
abbrev cX2_isTold : ByteArray := prog_4_method_9_code
def yX2_isTold : MethodName := ⟨RX2, "isTold", "(II)Z"⟩
abbrev cX2_settings : ByteArray := prog_4_method_10_code
def yX2_settings : MethodName := ⟨RX2, "settings", "()I"⟩
abbrev cX2_howAtNightfall : ByteArray := prog_4_method_11_code
def yX2_howAtNightfall : MethodName := ⟨RX2, "howAtNightfall", "(II)I"⟩
abbrev cX2_lockedAtNightfall : ByteArray := prog_4_method_12_code
def yX2_lockedAtNightfall : MethodName := ⟨RX2, "lockedAtNightfall", "(I)I"⟩
abbrev cX2_leastLocks : ByteArray := prog_4_method_13_code
def yX2_leastLocks : MethodName := ⟨RX2, "leastLocks", "(I)I"⟩
def RX3 : String := "NightInn$Mornings"
def TX3 : u_T := fun k => match k with
  | _ => ("NightInn$Mornings", "rows", "[J", true)
def tyX3 : Nat → FieldType := fun k => match k with
  | _ => .array .long
abbrev wsX30 : List Cond := u_ws RX3 TX3 1
theorem nmX3 : ∀ a, a < 1 → ∀ b, b < 1 → a ≠ b → (TX3 a).2.1 ≠ (TX3 b).2.1 := by decide +kernel
theorem tyX3_ok : ∀ k, k < 1 → parseFieldDescriptor (TX3 k).2.2.1 = some (tyX3 k) := by decide +kernel
abbrev cX3_init : ByteArray := prog_5_method_1_code
def yX3_init : MethodName := ⟨RX3, "<init>", "()V"⟩
abbrev cX3_keep : ByteArray := prog_5_method_2_code
def yX3_keep : MethodName := ⟨RX3, "keep", "(ILNightInn$Night;)V"⟩
abbrev cX3_firstLike : ByteArray := prog_5_method_3_code
def yX3_firstLike : MethodName := ⟨RX3, "firstLike", "(I)I"⟩
abbrev cX3_areSame : ByteArray := prog_5_method_4_code
def yX3_areSame : MethodName := ⟨RX3, "areSame", "(II)Z"⟩
abbrev cX3_wasHeard : ByteArray := prog_5_method_5_code
def yX3_wasHeard : MethodName := ⟨RX3, "wasHeard", "(III)Z"⟩
abbrev cX3_roomOfThing : ByteArray := prog_5_method_6_code
def yX3_roomOfThing : MethodName := ⟨RX3, "roomOfThing", "(II)I"⟩
abbrev cX3_howIsDoor : ByteArray := prog_5_method_7_code
def yX3_howIsDoor : MethodName := ⟨RX3, "howIsDoor", "(II)I"⟩
def RX4 : String := "NightInn$Night"
def TX4 : u_T := fun k => match k with
  | 0 => ("NightInn$Night", "inn", "LNightInn$Inn;", false)
  | 1 => ("NightInn$Night", "setting", "I", false)
  | 2 => ("NightInn$Night", "been", "I", false)
  | 3 => ("NightInn$Night", "ways", "LNightInn$Ways;", true)
  | 4 => ("NightInn$Night", "how", "[I", true)
  | 5 => ("NightInn$Night", "passed", "[I", true)
  | 6 => ("NightInn$Night", "dreamOf", "[I", true)
  | 7 => ("NightInn$Night", "stateOf", "[I", true)
  | 8 => ("NightInn$Night", "roomOf", "[I", true)
  | 9 => ("NightInn$Night", "handOf", "[I", true)
  | 10 => ("NightInn$Night", "awake", "[Z", true)
  | 11 => ("NightInn$Night", "thingIn", "[I", true)
  | 12 => ("NightInn$Night", "full", "[Z", true)
  | _ => ("NightInn$Night", "heardBy", "[J", true)
def tyX4 : Nat → FieldType := fun k => match k with
  | 0 => .object "NightInn$Inn"
  | 1 => .int
  | 2 => .int
  | 3 => .object "NightInn$Ways"
  | 4 => .array .int
  | 5 => .array .int
  | 6 => .array .int
  | 7 => .array .int
  | 8 => .array .int
  | 9 => .array .int
  | 10 => .array .boolean
  | 11 => .array .int
  | 12 => .array .boolean
  | _ => .array .long
abbrev wsX40 : List Cond := u_ws RX4 TX4 14
theorem nmX4 : ∀ a, a < 14 → ∀ b, b < 14 → a ≠ b → (TX4 a).2.1 ≠ (TX4 b).2.1 := by decide +kernel
theorem tyX4_ok : ∀ k, k < 14 → parseFieldDescriptor (TX4 k).2.2.1 = some (tyX4 k) := by decide +kernel
abbrev cX4_init : ByteArray := prog_6_method_1_code
def yX4_init : MethodName := ⟨RX4, "<init>", "(LNightInn$Inn;)V"⟩
abbrev cX4_prepare : ByteArray := prog_6_method_2_code
def yX4_prepare : MethodName := ⟨RX4, "prepare", "(LNightInn$Inn;I)V"⟩
abbrev cX4_begin : ByteArray := prog_6_method_3_code
def yX4_begin : MethodName := ⟨RX4, "begin", "([II)V"⟩
abbrev cX4_become : ByteArray := prog_6_method_4_code
def yX4_become : MethodName := ⟨RX4, "become", "(LNightInn$Night;)V"⟩
abbrev cX4_holderOf : ByteArray := prog_6_method_5_code
def yX4_holderOf : MethodName := ⟨RX4, "holderOf", "(I)I"⟩
abbrev cX4_pass : ByteArray := prog_6_method_6_code
def yX4_pass : MethodName := ⟨RX4, "pass", "(I)I"⟩
abbrev cX4_follow : ByteArray := prog_6_method_7_code
def yX4_follow : MethodName := ⟨RX4, "follow", "(I)V"⟩
abbrev cX4_goToward : ByteArray := prog_6_method_8_code
def yX4_goToward : MethodName := ⟨RX4, "goToward", "(II)V"⟩
abbrev cX4_creakIn : ByteArray := prog_6_method_9_code
def yX4_creakIn : MethodName := ⟨RX4, "creakIn", "(I)V"⟩
abbrev cX4_meetIn : ByteArray := prog_6_method_10_code
def yX4_meetIn : MethodName := ⟨RX4, "meetIn", "(I)V"⟩
abbrev cX4_isAsleepIn : ByteArray := prog_6_method_11_code
def yX4_isAsleepIn : MethodName := ⟨RX4, "isAsleepIn", "(II)Z"⟩
abbrev cX4_takes : ByteArray := prog_6_method_12_code
def yX4_takes : MethodName := ⟨RX4, "takes", "(II)Z"⟩
abbrev cX4_puts : ByteArray := prog_6_method_13_code
def yX4_puts : MethodName := ⟨RX4, "puts", "(I)Z"⟩
abbrev cX4_tips : ByteArray := prog_6_method_14_code
def yX4_tips : MethodName := ⟨RX4, "tips", "(II)Z"⟩
abbrev cX4_shuts : ByteArray := prog_6_method_15_code
def yX4_shuts : MethodName := ⟨RX4, "shuts", "(II)Z"⟩
def RX5 : String := "NightInn$Notes"
def TX5 : u_T := fun k => match k with
  | 0 => ("NightInn$Notes", "book", "[I", true)
  | 1 => ("NightInn$Notes", "sort", "[I", true)
  | 2 => ("NightInn$Notes", "one", "[I", true)
  | 3 => ("NightInn$Notes", "other", "[I", true)
  | _ => ("NightInn$Notes", "count", "I", false)
def tyX5 : Nat → FieldType := fun k => match k with
  | 0 => .array .int
  | 1 => .array .int
  | 2 => .array .int
  | 3 => .array .int
  | _ => .int
abbrev wsX50 : List Cond := u_ws RX5 TX5 5
theorem nmX5 : ∀ a, a < 5 → ∀ b, b < 5 → a ≠ b → (TX5 a).2.1 ≠ (TX5 b).2.1 := by decide +kernel
theorem tyX5_ok : ∀ k, k < 5 → parseFieldDescriptor (TX5 k).2.2.1 = some (tyX5 k) := by decide +kernel
abbrev cX5_init : ByteArray := prog_7_method_1_code
def yX5_init : MethodName := ⟨RX5, "<init>", "()V"⟩
abbrev cX5_add : ByteArray := prog_7_method_2_code
def yX5_add : MethodName := ⟨RX5, "add", "(IIII)V"⟩
abbrev cX5_areSo : ByteArray := prog_7_method_3_code
def yX5_areSo : MethodName := ⟨RX5, "areSo", "(ILNightInn$Mornings;I)Z"⟩
abbrev cX5_isSo : ByteArray := prog_7_method_4_code
def yX5_isSo : MethodName := ⟨RX5, "isSo", "(ILNightInn$Mornings;I)Z"⟩
def RX6 : String := "NightInn$Reader"
def TX6 : u_T := fun k => match k with
  | 0 => ("NightInn$Reader", "tape", "LNightInn$Tape;", true)
  | 1 => ("NightInn$Reader", "names", "[J", true)
  | 2 => ("NightInn$Reader", "sorts", "[I", true)
  | 3 => ("NightInn$Reader", "numbers", "[I", true)
  | 4 => ("NightInn$Reader", "named", "I", false)
  | 5 => ("NightInn$Reader", "inn", "LNightInn$Inn;", false)
  | 6 => ("NightInn$Reader", "fault", "I", false)
  | _ => ("NightInn$Reader", "number", "I", false)
def tyX6 : Nat → FieldType := fun k => match k with
  | 0 => .object "NightInn$Tape"
  | 1 => .array .long
  | 2 => .array .int
  | 3 => .array .int
  | 4 => .int
  | 5 => .object "NightInn$Inn"
  | 6 => .int
  | _ => .int
abbrev wsX60 : List Cond := u_ws RX6 TX6 8
theorem nmX6 : ∀ a, a < 8 → ∀ b, b < 8 → a ≠ b → (TX6 a).2.1 ≠ (TX6 b).2.1 := by decide +kernel
theorem tyX6_ok : ∀ k, k < 8 → parseFieldDescriptor (TX6 k).2.2.1 = some (tyX6 k) := by decide +kernel
abbrev cX6_init : ByteArray := prog_8_method_1_code
def yX6_init : MethodName := ⟨RX6, "<init>", "()V"⟩
abbrev cX6_read : ByteArray := prog_8_method_2_code
def yX6_read : MethodName := ⟨RX6, "read", "(I)I"⟩
abbrev cX6_fail : ByteArray := prog_8_method_3_code
def yX6_fail : MethodName := ⟨RX6, "fail", "(I)Z"⟩
abbrev cX6_readLine : ByteArray := prog_8_method_4_code
def yX6_readLine : MethodName := ⟨RX6, "readLine", "()Z"⟩
abbrev cX6_readInn : ByteArray := prog_8_method_5_code
def yX6_readInn : MethodName := ⟨RX6, "readInn", "()Z"⟩
abbrev cX6_readRoom : ByteArray := prog_8_method_6_code
def yX6_readRoom : MethodName := ⟨RX6, "readRoom", "()Z"⟩
abbrev cX6_readDoor : ByteArray := prog_8_method_7_code
def yX6_readDoor : MethodName := ⟨RX6, "readDoor", "()Z"⟩
abbrev cX6_readThing : ByteArray := prog_8_method_8_code
def yX6_readThing : MethodName := ⟨RX6, "readThing", "()Z"⟩
abbrev cX6_readDream : ByteArray := prog_8_method_9_code
def yX6_readDream : MethodName := ⟨RX6, "readDream", "()Z"⟩
abbrev cX6_readSleeper : ByteArray := prog_8_method_10_code
def yX6_readSleeper : MethodName := ⟨RX6, "readSleeper", "()Z"⟩
abbrev cX6_readListener : ByteArray := prog_8_method_11_code
def yX6_readListener : MethodName := ⟨RX6, "readListener", "()Z"⟩
abbrev cX6_nextAct : ByteArray := prog_8_method_12_code
def yX6_nextAct : MethodName := ⟨RX6, "nextAct", "()I"⟩
abbrev cX6_targetOf : ByteArray := prog_8_method_13_code
def yX6_targetOf : MethodName := ⟨RX6, "targetOf", "(I)I"⟩
abbrev cX6_pass : ByteArray := prog_8_method_14_code
def yX6_pass : MethodName := ⟨RX6, "pass", "(LNightInn$Word;)Z"⟩
abbrev cX6_passIf : ByteArray := prog_8_method_15_code
def yX6_passIf : MethodName := ⟨RX6, "passIf", "(LNightInn$Word;)Z"⟩
abbrev cX6_passComma : ByteArray := prog_8_method_16_code
def yX6_passComma : MethodName := ⟨RX6, "passComma", "()Z"⟩
abbrev cX6_passWhole : ByteArray := prog_8_method_17_code
def yX6_passWhole : MethodName := ⟨RX6, "passWhole", "(II)Z"⟩
abbrev cX6_passNewState : ByteArray := prog_8_method_18_code
def yX6_passNewState : MethodName := ⟨RX6, "passNewState", "(I)Z"⟩
abbrev cX6_passNew : ByteArray := prog_8_method_19_code
def yX6_passNew : MethodName := ⟨RX6, "passNew", "(II)Z"⟩
abbrev cX6_passName : ByteArray := prog_8_method_20_code
def yX6_passName : MethodName := ⟨RX6, "passName", "(I)Z"⟩
abbrev cX6_passOtherRoom : ByteArray := prog_8_method_21_code
def yX6_passOtherRoom : MethodName := ⟨RX6, "passOtherRoom", "(I)Z"⟩
abbrev cX6_passDream : ByteArray := prog_8_method_22_code
def yX6_passDream : MethodName := ⟨RX6, "passDream", "()Z"⟩
abbrev cX6_lookAtWhole : ByteArray := prog_8_method_23_code
def yX6_lookAtWhole : MethodName := ⟨RX6, "lookAtWhole", "(II)Z"⟩
abbrev cX6_lookUp : ByteArray := prog_8_method_24_code
def yX6_lookUp : MethodName := ⟨RX6, "lookUp", "(I)Z"⟩
abbrev cX6_placeOfName : ByteArray := prog_8_method_25_code
def yX6_placeOfName : MethodName := ⟨RX6, "placeOfName", "()I"⟩
abbrev cX6_tellName : ByteArray := prog_8_method_26_code
def yX6_tellName : MethodName := ⟨RX6, "tellName", "(II)V"⟩
def RX7 : String := "NightInn$Tape"
def TX7 : u_T := fun k => match k with
  | 0 => ("NightInn$Tape", "bytes", "[B", true)
  | 1 => ("NightInn$Tape", "length", "I", false)
  | 2 => ("NightInn$Tape", "end", "I", false)
  | 3 => ("NightInn$Tape", "at", "I", false)
  | 4 => ("NightInn$Tape", "start", "I", false)
  | 5 => ("NightInn$Tape", "kind", "I", false)
  | 6 => ("NightInn$Tape", "code", "J", false)
  | 7 => ("NightInn$Tape", "mayName", "Z", false)
  | _ => ("NightInn$Tape", "value", "I", false)
def tyX7 : Nat → FieldType := fun k => match k with
  | 0 => .array .byte
  | 1 => .int
  | 2 => .int
  | 3 => .int
  | 4 => .int
  | 5 => .int
  | 6 => .long
  | 7 => .boolean
  | _ => .int
abbrev wsX70 : List Cond := u_ws RX7 TX7 9
theorem nmX7 : ∀ a, a < 9 → ∀ b, b < 9 → a ≠ b → (TX7 a).2.1 ≠ (TX7 b).2.1 := by decide +kernel
theorem tyX7_ok : ∀ k, k < 9 → parseFieldDescriptor (TX7 k).2.2.1 = some (tyX7 k) := by decide +kernel
abbrev cX7_init : ByteArray := prog_9_method_1_code
def yX7_init : MethodName := ⟨RX7, "<init>", "()V"⟩
abbrev cX7_joined : ByteArray := prog_9_method_2_code
def yX7_joined : MethodName := ⟨RX7, "joined", "(JI)J"⟩
abbrev cX7_append : ByteArray := prog_9_method_3_code
def yX7_append : MethodName := ⟨RX7, "append", "(I)V"⟩
abbrev cX7_rewind : ByteArray := prog_9_method_4_code
def yX7_rewind : MethodName := ⟨RX7, "rewind", "(I)V"⟩
abbrev cX7_advance : ByteArray := prog_9_method_5_code
def yX7_advance : MethodName := ⟨RX7, "advance", "()V"⟩
abbrev cX7_passSign : ByteArray := prog_9_method_6_code
def yX7_passSign : MethodName := ⟨RX7, "passSign", "()I"⟩
abbrev cX7_isAt : ByteArray := prog_9_method_7_code
def yX7_isAt : MethodName := ⟨RX7, "isAt", "(LNightInn$Word;)Z"⟩
abbrev cX7_isLetter : ByteArray := prog_9_method_8_code
def yX7_isLetter : MethodName := ⟨RX7, "isLetter", "(I)Z"⟩
abbrev cX7_isDigit : ByteArray := prog_9_method_9_code
def yX7_isDigit : MethodName := ⟨RX7, "isDigit", "(I)Z"⟩
def RX8 : String := "NightInn$Ways"
def TX8 : u_T := fun k => match k with
  | 0 => ("NightInn$Ways", "steps", "[I", true)
  | _ => ("NightInn$Ways", "rooms", "I", false)
def tyX8 : Nat → FieldType := fun k => match k with
  | 0 => .array .int
  | _ => .int
abbrev wsX80 : List Cond := u_ws RX8 TX8 2
theorem nmX8 : ∀ a, a < 2 → ∀ b, b < 2 → a ≠ b → (TX8 a).2.1 ≠ (TX8 b).2.1 := by decide +kernel
theorem tyX8_ok : ∀ k, k < 2 → parseFieldDescriptor (TX8 k).2.2.1 = some (tyX8 k) := by decide +kernel
abbrev cX8_init : ByteArray := prog_10_method_1_code
def yX8_init : MethodName := ⟨RX8, "<init>", "()V"⟩
abbrev cX8_measure : ByteArray := prog_10_method_2_code
def yX8_measure : MethodName := ⟨RX8, "measure", "(LNightInn$House;I)V"⟩
abbrev cX8_shorten : ByteArray := prog_10_method_3_code
def yX8_shorten : MethodName := ⟨RX8, "shorten", "(II)V"⟩
abbrev cX8_doorsFrom : ByteArray := prog_10_method_4_code
def yX8_doorsFrom : MethodName := ⟨RX8, "doorsFrom", "(II)I"⟩
abbrev cX8_roomToward : ByteArray := prog_10_method_5_code
def yX8_roomToward : MethodName := ⟨RX8, "roomToward", "(II)I"⟩
abbrev cX8_become : ByteArray := prog_10_method_6_code
def yX8_become : MethodName := ⟨RX8, "become", "(LNightInn$Ways;)V"⟩
def RX9 : String := "NightInn$Word"
def TX9 : u_T := fun k => match k with
  | _ => ("", "", "", false)
def tyX9 : Nat → FieldType := fun k => match k with
  | _ => .int
abbrev wsX90 : List Cond := u_ws RX9 TX9 0
theorem nmX9 : ∀ a, a < 0 → ∀ b, b < 0 → a ≠ b → (TX9 a).2.1 ≠ (TX9 b).2.1 := by decide +kernel
theorem tyX9_ok : ∀ k, k < 0 → parseFieldDescriptor (TX9 k).2.2.1 = some (tyX9 k) := by decide +kernel
abbrev cX9_isKept : ByteArray := prog_11_method_4_code
def yX9_isKept : MethodName := ⟨RX9, "isKept", "(J)Z"⟩
def RX10 : String := "NightInn"
def TX10 : u_T := fun k => match k with
  | 0 => ("NightInn", "reader", "LNightInn$Reader;", true)
  | 1 => ("NightInn", "inn", "LNightInn$Inn;", false)
  | 2 => ("NightInn", "chosen", "[I", true)
  | 3 => ("NightInn", "night", "LNightInn$Night;", true)
  | 4 => ("NightInn", "marks", "[LNightInn$Night;", true)
  | 5 => ("NightInn", "marked", "I", false)
  | 6 => ("NightInn", "notes", "LNightInn$Notes;", true)
  | 7 => ("NightInn", "casts", "LNightInn$Casts;", true)
  | 8 => ("NightInn", "refusal", "I", false)
  | 9 => ("NightInn", "latestFault", "I", false)
  | _ => ("NightInn", "faultPlace", "I", false)
def tyX10 : Nat → FieldType := fun k => match k with
  | 0 => .object "NightInn$Reader"
  | 1 => .object "NightInn$Inn"
  | 2 => .array .int
  | 3 => .object "NightInn$Night"
  | 4 => .array (.object "NightInn$Night")
  | 5 => .int
  | 6 => .object "NightInn$Notes"
  | 7 => .object "NightInn$Casts"
  | 8 => .int
  | 9 => .int
  | _ => .int
abbrev wsX100 : List Cond := u_ws RX10 TX10 11
theorem nmX10 : ∀ a, a < 11 → ∀ b, b < 11 → a ≠ b → (TX10 a).2.1 ≠ (TX10 b).2.1 := by decide +kernel
theorem tyX10_ok : ∀ k, k < 11 → parseFieldDescriptor (TX10 k).2.2.1 = some (tyX10 k) := by decide +kernel
abbrev cX10_init : ByteArray := prog_1_method_1_code
def yX10_init : MethodName := ⟨RX10, "<init>", "()V"⟩
abbrev cX10_feed : ByteArray := prog_1_method_2_code
def yX10_feed : MethodName := ⟨RX10, "feed", "(IIIII)I"⟩
abbrev cX10_inn : ByteArray := prog_1_method_3_code
def yX10_inn : MethodName := ⟨RX10, "inn", "(I)I"⟩
abbrev cX10_fault : ByteArray := prog_1_method_4_code
def yX10_fault : MethodName := ⟨RX10, "fault", "()I"⟩
abbrev cX10_where : ByteArray := prog_1_method_5_code
def yX10_where : MethodName := ⟨RX10, "where", "()I"⟩
abbrev cX10_far : ByteArray := prog_1_method_6_code
def yX10_far : MethodName := ⟨RX10, "far", "(II)I"⟩
abbrev cX10_room : ByteArray := prog_1_method_7_code
def yX10_room : MethodName := ⟨RX10, "room", "(II)I"⟩
abbrev cX10_door : ByteArray := prog_1_method_8_code
def yX10_door : MethodName := ⟨RX10, "door", "(II)I"⟩
abbrev cX10_dream : ByteArray := prog_1_method_9_code
def yX10_dream : MethodName := ⟨RX10, "dream", "(III)I"⟩
abbrev cX10_nightfall : ByteArray := prog_1_method_10_code
def yX10_nightfall : MethodName := ⟨RX10, "nightfall", "(I)Z"⟩
abbrev cX10_dreams : ByteArray := prog_1_method_11_code
def yX10_dreams : MethodName := ⟨RX10, "dreams", "(II)Z"⟩
abbrev cX10_minutes : ByteArray := prog_1_method_12_code
def yX10_minutes : MethodName := ⟨RX10, "minutes", "(I)I"⟩
abbrev cX10_morning : ByteArray := prog_1_method_13_code
def yX10_morning : MethodName := ⟨RX10, "morning", "()I"⟩
abbrev cX10_sleeper : ByteArray := prog_1_method_14_code
def yX10_sleeper : MethodName := ⟨RX10, "sleeper", "(II)I"⟩
abbrev cX10_thing : ByteArray := prog_1_method_15_code
def yX10_thing : MethodName := ⟨RX10, "thing", "(II)I"⟩
abbrev cX10_doorway : ByteArray := prog_1_method_16_code
def yX10_doorway : MethodName := ⟨RX10, "doorway", "(II)I"⟩
abbrev cX10_heard : ByteArray := prog_1_method_17_code
def yX10_heard : MethodName := ⟨RX10, "heard", "(II)I"⟩
abbrev cX10_creaks : ByteArray := prog_1_method_18_code
def yX10_creaks : MethodName := ⟨RX10, "creaks", "(I)I"⟩
abbrev cX10_called : ByteArray := prog_1_method_19_code
def yX10_called : MethodName := ⟨RX10, "called", "(III)I"⟩
abbrev cX10_mark : ByteArray := prog_1_method_20_code
def yX10_mark : MethodName := ⟨RX10, "mark", "()I"⟩
abbrev cX10_back : ByteArray := prog_1_method_21_code
def yX10_back : MethodName := ⟨RX10, "back", "(I)Z"⟩
abbrev cX10_noteHeard : ByteArray := prog_1_method_22_code
def yX10_noteHeard : MethodName := ⟨RX10, "noteHeard", "(IIIZ)I"⟩
abbrev cX10_noteThing : ByteArray := prog_1_method_23_code
def yX10_noteThing : MethodName := ⟨RX10, "noteThing", "(III)I"⟩
abbrev cX10_noteDoor : ByteArray := prog_1_method_24_code
def yX10_noteDoor : MethodName := ⟨RX10, "noteDoor", "(III)I"⟩
abbrev cX10_strike : ByteArray := prog_1_method_25_code
def yX10_strike : MethodName := ⟨RX10, "strike", "()Z"⟩
abbrev cX10_fits : ByteArray := prog_1_method_26_code
def yX10_fits : MethodName := ⟨RX10, "fits", "(I)I"⟩
abbrev cX10_fit : ByteArray := prog_1_method_27_code
def yX10_fit : MethodName := ⟨RX10, "fit", "(III)I"⟩
abbrev cX10_sure : ByteArray := prog_1_method_28_code
def yX10_sure : MethodName := ⟨RX10, "sure", "(I)I"⟩
abbrev cX10_verdict : ByteArray := prog_1_method_29_code
def yX10_verdict : MethodName := ⟨RX10, "verdict", "()I"⟩
abbrev cX10_parts : ByteArray := prog_1_method_30_code
def yX10_parts : MethodName := ⟨RX10, "parts", "(I)I"⟩
abbrev cX10_best : ByteArray := prog_1_method_31_code
def yX10_best : MethodName := ⟨RX10, "best", "()I"⟩
abbrev cX10_told : ByteArray := prog_1_method_32_code
def yX10_told : MethodName := ⟨RX10, "told", "(II)I"⟩
abbrev cX10_alike : ByteArray := prog_1_method_33_code
def yX10_alike : MethodName := ⟨RX10, "alike", "(II)I"⟩
abbrev cX10_never : ByteArray := prog_1_method_34_code
def yX10_never : MethodName := ⟨RX10, "never", "()I"⟩
abbrev cX10_safe : ByteArray := prog_1_method_35_code
def yX10_safe : MethodName := ⟨RX10, "safe", "(I)I"⟩
abbrev cX10_safely : ByteArray := prog_1_method_36_code
def yX10_safely : MethodName := ⟨RX10, "safely", "(I)I"⟩
abbrev cX10_walks : ByteArray := prog_1_method_37_code
def yX10_walks : MethodName := ⟨RX10, "walks", "(I)I"⟩
abbrev cX10_led : ByteArray := prog_1_method_38_code
def yX10_led : MethodName := ⟨RX10, "led", "(I)I"⟩
abbrev cX10_size : ByteArray := prog_1_method_39_code
def yX10_size : MethodName := ⟨RX10, "size", "(I)I"⟩
abbrev cX10_trouble : ByteArray := prog_1_method_40_code
def yX10_trouble : MethodName := ⟨RX10, "trouble", "()I"⟩
abbrev cX10_answer : ByteArray := prog_1_method_41_code
def yX10_answer : MethodName := ⟨RX10, "answer", "(I)I"⟩
abbrev cX10_refuse : ByteArray := prog_1_method_42_code
def yX10_refuse : MethodName := ⟨RX10, "refuse", "(I)I"⟩
abbrev cX10_agree : ByteArray := prog_1_method_43_code
def yX10_agree : MethodName := ⟨RX10, "agree", "()Z"⟩
abbrev cX10_deny : ByteArray := prog_1_method_44_code
def yX10_deny : MethodName := ⟨RX10, "deny", "(I)Z"⟩
abbrev cX10_moveIn : ByteArray := prog_1_method_45_code
def yX10_moveIn : MethodName := ⟨RX10, "moveIn", "()V"⟩
abbrev cX10_write : ByteArray := prog_1_method_46_code
def yX10_write : MethodName := ⟨RX10, "write", "(IIII)I"⟩
abbrev cX10_isTold : ByteArray := prog_1_method_47_code
def yX10_isTold : MethodName := ⟨RX10, "isTold", "()Z"⟩
abbrev cX10_isRoom : ByteArray := prog_1_method_48_code
def yX10_isRoom : MethodName := ⟨RX10, "isRoom", "(I)Z"⟩
abbrev cX10_isDoor : ByteArray := prog_1_method_49_code
def yX10_isDoor : MethodName := ⟨RX10, "isDoor", "(I)Z"⟩
abbrev cX10_isThing : ByteArray := prog_1_method_50_code
def yX10_isThing : MethodName := ⟨RX10, "isThing", "(I)Z"⟩
abbrev cX10_isSleeper : ByteArray := prog_1_method_51_code
def yX10_isSleeper : MethodName := ⟨RX10, "isSleeper", "(I)Z"⟩
abbrev cX10_isListener : ByteArray := prog_1_method_52_code
def yX10_isListener : MethodName := ⟨RX10, "isListener", "(I)Z"⟩
abbrev cX10_isSetting : ByteArray := prog_1_method_53_code
def yX10_isSetting : MethodName := ⟨RX10, "isSetting", "(I)Z"⟩
abbrev cX10_isBook : ByteArray := prog_1_method_54_code
def yX10_isBook : MethodName := ⟨RX10, "isBook", "(I)Z"⟩
abbrev cX10_areBooks : ByteArray := prog_1_method_55_code
def yX10_areBooks : MethodName := ⟨RX10, "areBooks", "(I)Z"⟩
abbrev cX10_isBelow : ByteArray := prog_1_method_56_code
def yX10_isBelow : MethodName := ⟨RX10, "isBelow", "(II)Z"⟩
abbrev cX10_isBitSet : ByteArray := prog_1_method_57_code
def yX10_isBitSet : MethodName := ⟨RX10, "isBitSet", "(JI)Z"⟩
abbrev cX10_bit : ByteArray := prog_1_method_58_code
def yX10_bit : MethodName := ⟨RX10, "bit", "(Z)I"⟩
def RX11 : String := "NightInnModel$Inn"
def TX11 : u_T := fun k => match k with
  | 0 => ("NightInnModel$Inn", "minutes", "I", false)
  | 1 => ("NightInnModel$Inn", "rooms", "I", false)
  | 2 => ("NightInnModel$Inn", "doors", "I", false)
  | 3 => ("NightInnModel$Inn", "things", "I", false)
  | 4 => ("NightInnModel$Inn", "dreams", "I", false)
  | 5 => ("NightInnModel$Inn", "sleepers", "I", false)
  | 6 => ("NightInnModel$Inn", "listeners", "I", false)
  | 7 => ("NightInnModel$Inn", "names", "I", false)
  | 8 => ("NightInnModel$Inn", "creak", "[I", true)
  | 9 => ("NightInnModel$Inn", "doorA", "[I", true)
  | 10 => ("NightInnModel$Inn", "doorB", "[I", true)
  | 11 => ("NightInnModel$Inn", "how", "[I", true)
  | 12 => ("NightInnModel$Inn", "lies", "[I", true)
  | 13 => ("NightInnModel$Inn", "isCold", "[Z", true)
  | 14 => ("NightInnModel$Inn", "falls", "[Z", true)
  | 15 => ("NightInnModel$Inn", "isFull", "[Z", true)
  | 16 => ("NightInnModel$Inn", "isTold", "[Z", true)
  | 17 => ("NightInnModel$Inn", "act", "[I", true)
  | 18 => ("NightInnModel$Inn", "what", "[I", true)
  | 19 => ("NightInnModel$Inn", "then", "[I", true)
  | 20 => ("NightInnModel$Inn", "met", "[I", true)
  | 21 => ("NightInnModel$Inn", "bed", "[I", true)
  | 22 => ("NightInnModel$Inn", "dream", "[I", true)
  | 23 => ("NightInnModel$Inn", "listens", "[I", true)
  | 24 => ("NightInnModel$Inn", "name", "[J", true)
  | 25 => ("NightInnModel$Inn", "nameSort", "[I", true)
  | _ => ("NightInnModel$Inn", "nameNumber", "[I", true)
def tyX11 : Nat → FieldType := fun k => match k with
  | 0 => .int
  | 1 => .int
  | 2 => .int
  | 3 => .int
  | 4 => .int
  | 5 => .int
  | 6 => .int
  | 7 => .int
  | 8 => .array .int
  | 9 => .array .int
  | 10 => .array .int
  | 11 => .array .int
  | 12 => .array .int
  | 13 => .array .boolean
  | 14 => .array .boolean
  | 15 => .array .boolean
  | 16 => .array .boolean
  | 17 => .array .int
  | 18 => .array .int
  | 19 => .array .int
  | 20 => .array .int
  | 21 => .array .int
  | 22 => .array .int
  | 23 => .array .int
  | 24 => .array .long
  | 25 => .array .int
  | _ => .array .int
abbrev wsX110 : List Cond := u_ws RX11 TX11 27
theorem nmX11 : ∀ a, a < 27 → ∀ b, b < 27 → a ≠ b → (TX11 a).2.1 ≠ (TX11 b).2.1 := by decide +kernel
theorem tyX11_ok : ∀ k, k < 27 → parseFieldDescriptor (TX11 k).2.2.1 = some (tyX11 k) := by decide +kernel
abbrev cX11_init : ByteArray := prog_14_method_1_code
def yX11_init : MethodName := ⟨RX11, "<init>", "()V"⟩
abbrev cX11_find : ByteArray := prog_14_method_2_code
def yX11_find : MethodName := ⟨RX11, "find", "(J)I"⟩
abbrev cX11_between : ByteArray := prog_14_method_3_code
def yX11_between : MethodName := ⟨RX11, "between", "(II)I"⟩
def RX12 : String := "NightInnModel"
def TX12 : u_T := fun k => match k with
  | 0 => ("NightInnModel", "thrown", "I", false)
  | 1 => ("NightInnModel", "trouble", "I", false)
  | 2 => ("NightInnModel", "where", "I", false)
  | 3 => ("NightInnModel", "inn", "LNightInnModel$Inn;", false)
  | 4 => ("NightInnModel", "read", "LNightInnModel$Inn;", false)
  | 5 => ("NightInnModel", "tape", "[B", true)
  | 6 => ("NightInnModel", "taped", "I", false)
  | 7 => ("NightInnModel", "size", "I", false)
  | 8 => ("NightInnModel", "at", "I", false)
  | 9 => ("NightInnModel", "sort", "I", false)
  | 10 => ("NightInnModel", "place", "I", false)
  | 11 => ("NightInnModel", "sign", "I", false)
  | 12 => ("NightInnModel", "number", "I", false)
  | 13 => ("NightInnModel", "fault", "I", false)
  | 14 => ("NightInnModel", "wrongAt", "I", false)
  | 15 => ("NightInnModel", "word", "J", false)
  | 16 => ("NightInnModel", "far", "[I", true)
  | 17 => ("NightInnModel", "from", "[I", true)
  | 18 => ("NightInnModel", "real", "[I", true)
  | 19 => ("NightInnModel", "other", "[I", true)
  | 20 => ("NightInnModel", "kept", "[I", true)
  | 21 => ("NightInnModel", "set", "[I", true)
  | 22 => ("NightInnModel", "w", "[I", false)
  | 23 => ("NightInnModel", "marks", "I", false)
  | 24 => ("NightInnModel", "notes", "I", false)
  | 25 => ("NightInnModel", "book", "[I", true)
  | 26 => ("NightInnModel", "noteSort", "[I", true)
  | 27 => ("NightInnModel", "whose", "[I", true)
  | 28 => ("NightInnModel", "what", "[I", true)
  | 29 => ("NightInnModel", "noteIs", "[Z", true)
  | 30 => ("NightInnModel", "fitting", "[I", true)
  | 31 => ("NightInnModel", "dawn", "[I", true)
  | 32 => ("NightInnModel", "likes", "[J", true)
  | 33 => ("NightInnModel", "walked", "[I", true)
  | _ => ("NightInnModel", "came", "[I", true)
def tyX12 : Nat → FieldType := fun k => match k with
  | 0 => .int
  | 1 => .int
  | 2 => .int
  | 3 => .object "NightInnModel$Inn"
  | 4 => .object "NightInnModel$Inn"
  | 5 => .array .byte
  | 6 => .int
  | 7 => .int
  | 8 => .int
  | 9 => .int
  | 10 => .int
  | 11 => .int
  | 12 => .int
  | 13 => .int
  | 14 => .int
  | 15 => .long
  | 16 => .array .int
  | 17 => .array .int
  | 18 => .array .int
  | 19 => .array .int
  | 20 => .array .int
  | 21 => .array .int
  | 22 => .array .int
  | 23 => .int
  | 24 => .int
  | 25 => .array .int
  | 26 => .array .int
  | 27 => .array .int
  | 28 => .array .int
  | 29 => .array .boolean
  | 30 => .array .int
  | 31 => .array .int
  | 32 => .array .long
  | 33 => .array .int
  | _ => .array .int
abbrev wsX120 : List Cond := u_ws RX12 TX12 35
theorem nmX12 : ∀ a, a < 35 → ∀ b, b < 35 → a ≠ b → (TX12 a).2.1 ≠ (TX12 b).2.1 := by decide +kernel
theorem tyX12_ok : ∀ k, k < 35 → parseFieldDescriptor (TX12 k).2.2.1 = some (tyX12 k) := by decide +kernel
abbrev cX12_init : ByteArray := prog_13_method_1_code
def yX12_init : MethodName := ⟨RX12, "<init>", "()V"⟩
abbrev cX12_thrown : ByteArray := prog_13_method_2_code
def yX12_thrown : MethodName := ⟨RX12, "thrown", "()I"⟩
abbrev cX12_refused : ByteArray := prog_13_method_3_code
def yX12_refused : MethodName := ⟨RX12, "refused", "(I)I"⟩
abbrev cX12_denied : ByteArray := prog_13_method_4_code
def yX12_denied : MethodName := ⟨RX12, "denied", "(I)Z"⟩
abbrev cX12_good : ByteArray := prog_13_method_5_code
def yX12_good : MethodName := ⟨RX12, "good", "(I)I"⟩
abbrev cX12_granted : ByteArray := prog_13_method_6_code
def yX12_granted : MethodName := ⟨RX12, "granted", "()Z"⟩
abbrev cX12_in : ByteArray := prog_13_method_7_code
def yX12_in : MethodName := ⟨RX12, "in", "(III)Z"⟩
abbrev cX12_has : ByteArray := prog_13_method_8_code
def yX12_has : MethodName := ⟨RX12, "has", "(II)Z"⟩
abbrev cX12_bits : ByteArray := prog_13_method_9_code
def yX12_bits : MethodName := ⟨RX12, "bits", "(I)I"⟩
abbrev cX12_byteAt : ByteArray := prog_13_method_10_code
def yX12_byteAt : MethodName := ⟨RX12, "byteAt", "(I)I"⟩
abbrev cX12_isLetter : ByteArray := prog_13_method_11_code
def yX12_isLetter : MethodName := ⟨RX12, "isLetter", "(I)Z"⟩
abbrev cX12_isDigit : ByteArray := prog_13_method_12_code
def yX12_isDigit : MethodName := ⟨RX12, "isDigit", "(I)Z"⟩
abbrev cX12_wordOf : ByteArray := prog_13_method_13_code
def yX12_wordOf : MethodName := ⟨RX12, "wordOf", "(Ljava/lang/String;)J"⟩
abbrev cX12_goesOn : ByteArray := prog_13_method_14_code
def yX12_goesOn : MethodName := ⟨RX12, "goesOn", "()V"⟩
abbrev cX12_wrong : ByteArray := prog_13_method_15_code
def yX12_wrong : MethodName := ⟨RX12, "wrong", "(I)V"⟩
abbrev cX12_isWord : ByteArray := prog_13_method_16_code
def yX12_isWord : MethodName := ⟨RX12, "isWord", "(Ljava/lang/String;)Z"⟩
abbrev cX12_eatsWord : ByteArray := prog_13_method_17_code
def yX12_eatsWord : MethodName := ⟨RX12, "eatsWord", "(Ljava/lang/String;)Z"⟩
abbrev cX12_eatsSign : ByteArray := prog_13_method_18_code
def yX12_eatsSign : MethodName := ⟨RX12, "eatsSign", "(I)Z"⟩
abbrev cX12_needs : ByteArray := prog_13_method_19_code
def yX12_needs : MethodName := ⟨RX12, "needs", "(Ljava/lang/String;)V"⟩
abbrev cX12_needsSign : ByteArray := prog_13_method_20_code
def yX12_needsSign : MethodName := ⟨RX12, "needsSign", "(I)V"⟩
abbrev cX12_whole : ByteArray := prog_13_method_21_code
def yX12_whole : MethodName := ⟨RX12, "whole", "(II)I"⟩
abbrev cX12_readWhole : ByteArray := prog_13_method_22_code
def yX12_readWhole : MethodName := ⟨RX12, "readWhole", "(II)I"⟩
abbrev cX12_readPart : ByteArray := prog_13_method_23_code
def yX12_readPart : MethodName := ⟨RX12, "readPart", "(Ljava/lang/String;II)I"⟩
abbrev cX12_isName : ByteArray := prog_13_method_24_code
def yX12_isName : MethodName := ⟨RX12, "isName", "()Z"⟩
abbrev cX12_begins : ByteArray := prog_13_method_25_code
def yX12_begins : MethodName := ⟨RX12, "begins", "(II)V"⟩
abbrev cX12_adds : ByteArray := prog_13_method_26_code
def yX12_adds : MethodName := ⟨RX12, "adds", "(II)V"⟩
abbrev cX12_readFresh : ByteArray := prog_13_method_27_code
def yX12_readFresh : MethodName := ⟨RX12, "readFresh", "(II)V"⟩
abbrev cX12_known : ByteArray := prog_13_method_28_code
def yX12_known : MethodName := ⟨RX12, "known", "(I)I"⟩
abbrev cX12_readKnown : ByteArray := prog_13_method_29_code
def yX12_readKnown : MethodName := ⟨RX12, "readKnown", "(I)I"⟩
abbrev cX12_readInn : ByteArray := prog_13_method_30_code
def yX12_readInn : MethodName := ⟨RX12, "readInn", "()V"⟩
abbrev cX12_readLine : ByteArray := prog_13_method_31_code
def yX12_readLine : MethodName := ⟨RX12, "readLine", "()V"⟩
abbrev cX12_readHouse : ByteArray := prog_13_method_32_code
def yX12_readHouse : MethodName := ⟨RX12, "readHouse", "()V"⟩
abbrev cX12_readRoom : ByteArray := prog_13_method_33_code
def yX12_readRoom : MethodName := ⟨RX12, "readRoom", "()V"⟩
abbrev cX12_readDoor : ByteArray := prog_13_method_34_code
def yX12_readDoor : MethodName := ⟨RX12, "readDoor", "()V"⟩
abbrev cX12_readThing : ByteArray := prog_13_method_35_code
def yX12_readThing : MethodName := ⟨RX12, "readThing", "()V"⟩
abbrev cX12_readDream : ByteArray := prog_13_method_36_code
def yX12_readDream : MethodName := ⟨RX12, "readDream", "()V"⟩
abbrev cX12_readSleeper : ByteArray := prog_13_method_37_code
def yX12_readSleeper : MethodName := ⟨RX12, "readSleeper", "()V"⟩
abbrev cX12_readListens : ByteArray := prog_13_method_38_code
def yX12_readListens : MethodName := ⟨RX12, "readListens", "()V"⟩
abbrev cX12_feed : ByteArray := prog_13_method_39_code
def yX12_feed : MethodName := ⟨RX12, "feed", "(IIIII)I"⟩
abbrev cX12_inn : ByteArray := prog_13_method_40_code
def yX12_inn : MethodName := ⟨RX12, "inn", "(I)I"⟩
abbrev cX12_fault : ByteArray := prog_13_method_41_code
def yX12_fault : MethodName := ⟨RX12, "fault", "()I"⟩
abbrev cX12_where : ByteArray := prog_13_method_42_code
def yX12_where : MethodName := ⟨RX12, "where", "()I"⟩
abbrev cX12_measures : ByteArray := prog_13_method_43_code
def yX12_measures : MethodName := ⟨RX12, "measures", "(II)V"⟩
abbrev cX12_lays : ByteArray := prog_13_method_44_code
def yX12_lays : MethodName := ⟨RX12, "lays", "()V"⟩
abbrev cX12_isRoom : ByteArray := prog_13_method_45_code
def yX12_isRoom : MethodName := ⟨RX12, "isRoom", "(I)Z"⟩
abbrev cX12_far : ByteArray := prog_13_method_46_code
def yX12_far : MethodName := ⟨RX12, "far", "(II)I"⟩
abbrev cX12_room : ByteArray := prog_13_method_47_code
def yX12_room : MethodName := ⟨RX12, "room", "(II)I"⟩
abbrev cX12_door : ByteArray := prog_13_method_48_code
def yX12_door : MethodName := ⟨RX12, "door", "(II)I"⟩
abbrev cX12_isDream : ByteArray := prog_13_method_49_code
def yX12_isDream : MethodName := ⟨RX12, "isDream", "(I)Z"⟩
abbrev cX12_dream : ByteArray := prog_13_method_50_code
def yX12_dream : MethodName := ⟨RX12, "dream", "(III)I"⟩
abbrev cX12_settings : ByteArray := prog_13_method_51_code
def yX12_settings : MethodName := ⟨RX12, "settings", "()I"⟩
abbrev cX12_isSetting : ByteArray := prog_13_method_52_code
def yX12_isSetting : MethodName := ⟨RX12, "isSetting", "(I)Z"⟩
abbrev cX12_fallsNight : ByteArray := prog_13_method_53_code
def yX12_fallsNight : MethodName := ⟨RX12, "fallsNight", "(I)V"⟩
abbrev cX12_lockedDoors : ByteArray := prog_13_method_54_code
def yX12_lockedDoors : MethodName := ⟨RX12, "lockedDoors", "()I"⟩
abbrev cX12_stateOf : ByteArray := prog_13_method_55_code
def yX12_stateOf : MethodName := ⟨RX12, "stateOf", "(I)I"⟩
abbrev cX12_meets : ByteArray := prog_13_method_56_code
def yX12_meets : MethodName := ⟨RX12, "meets", "(I)V"⟩
abbrev cX12_creaksIn : ByteArray := prog_13_method_57_code
def yX12_creaksIn : MethodName := ⟨RX12, "creaksIn", "(I)V"⟩
abbrev cX12_goes : ByteArray := prog_13_method_58_code
def yX12_goes : MethodName := ⟨RX12, "goes", "(II)V"⟩
abbrev cX12_holder : ByteArray := prog_13_method_59_code
def yX12_holder : MethodName := ⟨RX12, "holder", "(I)I"⟩
abbrev cX12_does : ByteArray := prog_13_method_60_code
def yX12_does : MethodName := ⟨RX12, "does", "(III)Z"⟩
abbrev cX12_acts : ByteArray := prog_13_method_61_code
def yX12_acts : MethodName := ⟨RX12, "acts", "(I)V"⟩
abbrev cX12_passes : ByteArray := prog_13_method_62_code
def yX12_passes : MethodName := ⟨RX12, "passes", "()V"⟩
abbrev cX12_nightfall : ByteArray := prog_13_method_63_code
def yX12_nightfall : MethodName := ⟨RX12, "nightfall", "(I)Z"⟩
abbrev cX12_isSleeper : ByteArray := prog_13_method_64_code
def yX12_isSleeper : MethodName := ⟨RX12, "isSleeper", "(I)Z"⟩
abbrev cX12_dreams : ByteArray := prog_13_method_65_code
def yX12_dreams : MethodName := ⟨RX12, "dreams", "(II)Z"⟩
abbrev cX12_passAll : ByteArray := prog_13_method_66_code
def yX12_passAll : MethodName := ⟨RX12, "passAll", "(I)I"⟩
abbrev cX12_minutes : ByteArray := prog_13_method_67_code
def yX12_minutes : MethodName := ⟨RX12, "minutes", "(I)I"⟩
abbrev cX12_morning : ByteArray := prog_13_method_68_code
def yX12_morning : MethodName := ⟨RX12, "morning", "()I"⟩
abbrev cX12_sleeper : ByteArray := prog_13_method_69_code
def yX12_sleeper : MethodName := ⟨RX12, "sleeper", "(II)I"⟩
abbrev cX12_isThing : ByteArray := prog_13_method_70_code
def yX12_isThing : MethodName := ⟨RX12, "isThing", "(I)Z"⟩
abbrev cX12_thing : ByteArray := prog_13_method_71_code
def yX12_thing : MethodName := ⟨RX12, "thing", "(II)I"⟩
abbrev cX12_isDoor : ByteArray := prog_13_method_72_code
def yX12_isDoor : MethodName := ⟨RX12, "isDoor", "(I)Z"⟩
abbrev cX12_doorway : ByteArray := prog_13_method_73_code
def yX12_doorway : MethodName := ⟨RX12, "doorway", "(II)I"⟩
abbrev cX12_isListener : ByteArray := prog_13_method_74_code
def yX12_isListener : MethodName := ⟨RX12, "isListener", "(I)Z"⟩
abbrev cX12_hears : ByteArray := prog_13_method_75_code
def yX12_hears : MethodName := ⟨RX12, "hears", "(II)Z"⟩
abbrev cX12_heard : ByteArray := prog_13_method_76_code
def yX12_heard : MethodName := ⟨RX12, "heard", "(II)I"⟩
abbrev cX12_creaks : ByteArray := prog_13_method_77_code
def yX12_creaks : MethodName := ⟨RX12, "creaks", "(I)I"⟩
abbrev cX12_plays : ByteArray := prog_13_method_78_code
def yX12_plays : MethodName := ⟨RX12, "plays", "(II)V"⟩
abbrev cX12_called : ByteArray := prog_13_method_79_code
def yX12_called : MethodName := ⟨RX12, "called", "(III)I"⟩
abbrev cX12_mark : ByteArray := prog_13_method_80_code
def yX12_mark : MethodName := ⟨RX12, "mark", "()I"⟩
abbrev cX12_back : ByteArray := prog_13_method_81_code
def yX12_back : MethodName := ⟨RX12, "back", "(I)Z"⟩
abbrev cX12_notesDown : ByteArray := prog_13_method_82_code
def yX12_notesDown : MethodName := ⟨RX12, "notesDown", "(IIIIZ)I"⟩
abbrev cX12_isBook : ByteArray := prog_13_method_83_code
def yX12_isBook : MethodName := ⟨RX12, "isBook", "(I)Z"⟩
abbrev cX12_noteHeard : ByteArray := prog_13_method_84_code
def yX12_noteHeard : MethodName := ⟨RX12, "noteHeard", "(IIIZ)I"⟩
abbrev cX12_noteThing : ByteArray := prog_13_method_85_code
def yX12_noteThing : MethodName := ⟨RX12, "noteThing", "(III)I"⟩
abbrev cX12_noteDoor : ByteArray := prog_13_method_86_code
def yX12_noteDoor : MethodName := ⟨RX12, "noteDoor", "(III)I"⟩
abbrev cX12_strike : ByteArray := prog_13_method_87_code
def yX12_strike : MethodName := ⟨RX12, "strike", "()Z"⟩
abbrev cX12_isNoted : ByteArray := prog_13_method_88_code
def yX12_isNoted : MethodName := ⟨RX12, "isNoted", "(I)Z"⟩
abbrev cX12_castMany : ByteArray := prog_13_method_89_code
def yX12_castMany : MethodName := ⟨RX12, "castMany", "()I"⟩
abbrev cX12_casts : ByteArray := prog_13_method_90_code
def yX12_casts : MethodName := ⟨RX12, "casts", "(I)V"⟩
abbrev cX12_fitsBy : ByteArray := prog_13_method_91_code
def yX12_fitsBy : MethodName := ⟨RX12, "fitsBy", "(I)I"⟩
abbrev cX12_refusesBooks : ByteArray := prog_13_method_92_code
def yX12_refusesBooks : MethodName := ⟨RX12, "refusesBooks", "(I)I"⟩
abbrev cX12_fits : ByteArray := prog_13_method_93_code
def yX12_fits : MethodName := ⟨RX12, "fits", "(I)I"⟩
abbrev cX12_dreamIn : ByteArray := prog_13_method_94_code
def yX12_dreamIn : MethodName := ⟨RX12, "dreamIn", "(II)I"⟩
abbrev cX12_fit : ByteArray := prog_13_method_95_code
def yX12_fit : MethodName := ⟨RX12, "fit", "(III)I"⟩
abbrev cX12_sure : ByteArray := prog_13_method_96_code
def yX12_sure : MethodName := ⟨RX12, "sure", "(I)I"⟩
abbrev cX12_verdict : ByteArray := prog_13_method_97_code
def yX12_verdict : MethodName := ⟨RX12, "verdict", "()I"⟩
abbrev cX12_dawns : ByteArray := prog_13_method_98_code
def yX12_dawns : MethodName := ⟨RX12, "dawns", "(III)V"⟩
abbrev cX12_isAlike : ByteArray := prog_13_method_99_code
def yX12_isAlike : MethodName := ⟨RX12, "isAlike", "(II)Z"⟩
abbrev cX12_mostAlike : ByteArray := prog_13_method_100_code
def yX12_mostAlike : MethodName := ⟨RX12, "mostAlike", "(III)I"⟩
abbrev cX12_parts : ByteArray := prog_13_method_101_code
def yX12_parts : MethodName := ⟨RX12, "parts", "(I)I"⟩
abbrev cX12_best : ByteArray := prog_13_method_102_code
def yX12_best : MethodName := ⟨RX12, "best", "()I"⟩
abbrev cX12_told : ByteArray := prog_13_method_103_code
def yX12_told : MethodName := ⟨RX12, "told", "(II)I"⟩
abbrev cX12_compares : ByteArray := prog_13_method_104_code
def yX12_compares : MethodName := ⟨RX12, "compares", "(I)V"⟩
abbrev cX12_alike : ByteArray := prog_13_method_105_code
def yX12_alike : MethodName := ⟨RX12, "alike", "(II)I"⟩
abbrev cX12_never : ByteArray := prog_13_method_106_code
def yX12_never : MethodName := ⟨RX12, "never", "()I"⟩
abbrev cX12_toldLocked : ByteArray := prog_13_method_107_code
def yX12_toldLocked : MethodName := ⟨RX12, "toldLocked", "()I"⟩
abbrev cX12_isBed : ByteArray := prog_13_method_108_code
def yX12_isBed : MethodName := ⟨RX12, "isBed", "(I)Z"⟩
abbrev cX12_safest : ByteArray := prog_13_method_109_code
def yX12_safest : MethodName := ⟨RX12, "safest", "(I)I"⟩
abbrev cX12_safe : ByteArray := prog_13_method_110_code
def yX12_safe : MethodName := ⟨RX12, "safe", "(I)I"⟩
abbrev cX12_safely : ByteArray := prog_13_method_111_code
def yX12_safely : MethodName := ⟨RX12, "safely", "(I)I"⟩
abbrev cX12_walksMore : ByteArray := prog_13_method_112_code
def yX12_walksMore : MethodName := ⟨RX12, "walksMore", "(I)Z"⟩
abbrev cX12_walks : ByteArray := prog_13_method_113_code
def yX12_walks : MethodName := ⟨RX12, "walks", "(I)I"⟩
abbrev cX12_led : ByteArray := prog_13_method_114_code
def yX12_led : MethodName := ⟨RX12, "led", "(I)I"⟩
abbrev cX12_size : ByteArray := prog_13_method_115_code
def yX12_size : MethodName := ⟨RX12, "size", "(I)I"⟩
abbrev cX12_trouble : ByteArray := prog_13_method_116_code
def yX12_trouble : MethodName := ⟨RX12, "trouble", "()I"⟩
def RJx145de : String := "java/io/Serializable"
def TJx145de : u_T := fun k => match k with
  | _ => ("", "", "", false)
def tyJx145de : Nat → FieldType := fun k => match k with
  | _ => .int
abbrev wsJx145de0 : List Cond := u_ws RJx145de TJx145de 0
theorem nmJx145de : ∀ a, a < 0 → ∀ b, b < 0 → a ≠ b → (TJx145de a).2.1 ≠ (TJx145de b).2.1 := by decide +kernel
theorem tyJx145de_ok : ∀ k, k < 0 → parseFieldDescriptor (TJx145de k).2.2.1 = some (tyJx145de k) := by decide +kernel
def RJx9f9b0 : String := "java/lang/CharSequence"
def TJx9f9b0 : u_T := fun k => match k with
  | _ => ("", "", "", false)
def tyJx9f9b0 : Nat → FieldType := fun k => match k with
  | _ => .int
abbrev wsJx9f9b00 : List Cond := u_ws RJx9f9b0 TJx9f9b0 0
theorem nmJx9f9b0 : ∀ a, a < 0 → ∀ b, b < 0 → a ≠ b → (TJx9f9b0 a).2.1 ≠ (TJx9f9b0 b).2.1 := by decide +kernel
theorem tyJx9f9b0_ok : ∀ k, k < 0 → parseFieldDescriptor (TJx9f9b0 k).2.2.1 = some (tyJx9f9b0 k) := by decide +kernel
def RJxb160c : String := "java/lang/Comparable"
def TJxb160c : u_T := fun k => match k with
  | _ => ("", "", "", false)
def tyJxb160c : Nat → FieldType := fun k => match k with
  | _ => .int
abbrev wsJxb160c0 : List Cond := u_ws RJxb160c TJxb160c 0
theorem nmJxb160c : ∀ a, a < 0 → ∀ b, b < 0 → a ≠ b → (TJxb160c a).2.1 ≠ (TJxb160c b).2.1 := by decide +kernel
theorem tyJxb160c_ok : ∀ k, k < 0 → parseFieldDescriptor (TJxb160c k).2.2.1 = some (tyJxb160c k) := by decide +kernel
def RJx29ce0 : String := "java/lang/Enum"
def TJx29ce0 : u_T := fun k => match k with
  | _ => ("", "", "", false)
def tyJx29ce0 : Nat → FieldType := fun k => match k with
  | _ => .int
abbrev wsJx29ce00 : List Cond := u_ws RJx29ce0 TJx29ce0 0
theorem nmJx29ce0 : ∀ a, a < 0 → ∀ b, b < 0 → a ≠ b → (TJx29ce0 a).2.1 ≠ (TJx29ce0 b).2.1 := by decide +kernel
theorem tyJx29ce0_ok : ∀ k, k < 0 → parseFieldDescriptor (TJx29ce0 k).2.2.1 = some (tyJx29ce0 k) := by decide +kernel
def RJ6 : String := "java/lang/Integer"
def TJ6 : u_T := fun k => match k with
  | _ => ("", "", "", false)
def tyJ6 : Nat → FieldType := fun k => match k with
  | _ => .int
abbrev wsJ60 : List Cond := u_ws RJ6 TJ6 0
theorem nmJ6 : ∀ a, a < 0 → ∀ b, b < 0 → a ≠ b → (TJ6 a).2.1 ≠ (TJ6 b).2.1 := by decide +kernel
theorem tyJ6_ok : ∀ k, k < 0 → parseFieldDescriptor (TJ6 k).2.2.1 = some (tyJ6 k) := by decide +kernel
abbrev cJ6_bitCount_0f7a4 : ByteArray := prog_20_method_49_code
def yJ6_bitCount_0f7a4 : MethodName := ⟨RJ6, "bitCount", "(I)I"⟩
def RJ13 : String := "java/lang/Long"
def TJ13 : u_T := fun k => match k with
  | _ => ("", "", "", false)
def tyJ13 : Nat → FieldType := fun k => match k with
  | _ => .int
abbrev wsJ130 : List Cond := u_ws RJ13 TJ13 0
theorem nmJ13 : ∀ a, a < 0 → ∀ b, b < 0 → a ≠ b → (TJ13 a).2.1 ≠ (TJ13 b).2.1 := by decide +kernel
theorem tyJ13_ok : ∀ k, k < 0 → parseFieldDescriptor (TJ13 k).2.2.1 = some (tyJ13 k) := by decide +kernel
abbrev cJ13_bitCount_95d88 : ByteArray := prog_21_method_50_code
def yJ13_bitCount_95d88 : MethodName := ⟨RJ13, "bitCount", "(J)I"⟩
def RJ9 : String := "java/lang/Math"
def TJ9 : u_T := fun k => match k with
  | _ => ("", "", "", false)
def tyJ9 : Nat → FieldType := fun k => match k with
  | _ => .int
abbrev wsJ90 : List Cond := u_ws RJ9 TJ9 0
theorem nmJ9 : ∀ a, a < 0 → ∀ b, b < 0 → a ≠ b → (TJ9 a).2.1 ≠ (TJ9 b).2.1 := by decide +kernel
theorem tyJ9_ok : ∀ k, k < 0 → parseFieldDescriptor (TJ9 k).2.2.1 = some (tyJ9 k) := by decide +kernel
abbrev cJ9_max_7cf53 : ByteArray := prog_22_method_65_code
def yJ9_max_7cf53 : MethodName := ⟨RJ9, "max", "(II)I"⟩
abbrev cJ9_min_7cf53 : ByteArray := prog_22_method_69_code
def yJ9_min_7cf53 : MethodName := ⟨RJ9, "min", "(II)I"⟩
def RJ0 : String := "java/lang/String"
def TJ0 : u_T := fun k => match k with
  | _ => ("", "", "", false)
def tyJ0 : Nat → FieldType := fun k => match k with
  | _ => .int
abbrev wsJ00 : List Cond := u_ws RJ0 TJ0 0
theorem nmJ0 : ∀ a, a < 0 → ∀ b, b < 0 → a ≠ b → (TJ0 a).2.1 ≠ (TJ0 b).2.1 := by decide +kernel
theorem tyJ0_ok : ∀ k, k < 0 → parseFieldDescriptor (TJ0 k).2.2.1 = some (tyJ0 k) := by decide +kernel
abbrev cJ0_length_8abf5 : ByteArray := prog_24_method_54_code
def yJ0_length_8abf5 : MethodName := ⟨RJ0, "length", "()I"⟩
abbrev cJ0_charAt_5068e : ByteArray := prog_24_method_56_code
def yJ0_charAt_5068e : MethodName := ⟨RJ0, "charAt", "(I)C"⟩
abbrev cJ0_coder_7d493 : ByteArray := prog_24_method_152_code
def yJ0_coder_7d493 : MethodName := ⟨RJ0, "coder", "()B"⟩
abbrev cJ0_isLatin1_aae02 : ByteArray := prog_24_method_154_code
def yJ0_isLatin1_aae02 : MethodName := ⟨RJ0, "isLatin1", "()Z"⟩
abbrev cJ0_checkIndex_df160 : ByteArray := prog_24_method_155_code
def yJ0_checkIndex_df160 : MethodName := ⟨RJ0, "checkIndex", "(II)V"⟩
def RJ1 : String := "java/lang/StringLatin1"
def TJ1 : u_T := fun k => match k with
  | _ => ("", "", "", false)
def tyJ1 : Nat → FieldType := fun k => match k with
  | _ => .int
abbrev wsJ10 : List Cond := u_ws RJ1 TJ1 0
theorem nmJ1 : ∀ a, a < 0 → ∀ b, b < 0 → a ≠ b → (TJ1 a).2.1 ≠ (TJ1 b).2.1 := by decide +kernel
theorem tyJ1_ok : ∀ k, k < 0 → parseFieldDescriptor (TJ1 k).2.2.1 = some (tyJ1 k) := by decide +kernel
abbrev cJ1_charAt_3b067 : ByteArray := prog_25_method_2_code
def yJ1_charAt_3b067 : MethodName := ⟨RJ1, "charAt", "([BI)C"⟩
def RJ2 : String := "java/lang/StringUTF16"
def TJ2 : u_T := fun k => match k with
  | _ => ("", "", "", false)
def tyJ2 : Nat → FieldType := fun k => match k with
  | _ => .int
abbrev wsJ20 : List Cond := u_ws RJ2 TJ2 0
theorem nmJ2 : ∀ a, a < 0 → ∀ b, b < 0 → a ≠ b → (TJ2 a).2.1 ≠ (TJ2 b).2.1 := by decide +kernel
theorem tyJ2_ok : ∀ k, k < 0 → parseFieldDescriptor (TJ2 k).2.2.1 = some (tyJ2 k) := by decide +kernel
abbrev cJ2_getChar_3b067 : ByteArray := prog_26_method_5_code
def yJ2_getChar_3b067 : MethodName := ⟨RJ2, "getChar", "([BI)C"⟩
abbrev cJ2_length_9d52b : ByteArray := prog_26_method_6_code
def yJ2_length_9d52b : MethodName := ⟨RJ2, "length", "([B)I"⟩
abbrev cJ2_charAt_3b067 : ByteArray := prog_26_method_83_code
def yJ2_charAt_3b067 : MethodName := ⟨RJ2, "charAt", "([BI)C"⟩
abbrev cJ2_checkIndex_2214a : ByteArray := prog_26_method_91_code
def yJ2_checkIndex_2214a : MethodName := ⟨RJ2, "checkIndex", "(I[B)V"⟩
def RJ10 : String := "java/lang/System"
def TJ10 : u_T := fun k => match k with
  | _ => ("", "", "", false)
def tyJ10 : Nat → FieldType := fun k => match k with
  | _ => .int
abbrev wsJ100 : List Cond := u_ws RJ10 TJ10 0
theorem nmJ10 : ∀ a, a < 0 → ∀ b, b < 0 → a ≠ b → (TJ10 a).2.1 ≠ (TJ10 b).2.1 := by decide +kernel
theorem tyJ10_ok : ∀ k, k < 0 → parseFieldDescriptor (TJ10 k).2.2.1 = some (tyJ10 k) := by decide +kernel
def RJxfd54e : String := "java/lang/constant/Constable"
def TJxfd54e : u_T := fun k => match k with
  | _ => ("", "", "", false)
def tyJxfd54e : Nat → FieldType := fun k => match k with
  | _ => .int
abbrev wsJxfd54e0 : List Cond := u_ws RJxfd54e TJxfd54e 0
theorem nmJxfd54e : ∀ a, a < 0 → ∀ b, b < 0 → a ≠ b → (TJxfd54e a).2.1 ≠ (TJxfd54e b).2.1 := by decide +kernel
theorem tyJxfd54e_ok : ∀ k, k < 0 → parseFieldDescriptor (TJxfd54e k).2.2.1 = some (tyJxfd54e k) := by decide +kernel
def RJx3cf43 : String := "java/lang/constant/ConstantDesc"
def TJx3cf43 : u_T := fun k => match k with
  | _ => ("", "", "", false)
def tyJx3cf43 : Nat → FieldType := fun k => match k with
  | _ => .int
abbrev wsJx3cf430 : List Cond := u_ws RJx3cf43 TJx3cf43 0
theorem nmJx3cf43 : ∀ a, a < 0 → ∀ b, b < 0 → a ≠ b → (TJx3cf43 a).2.1 ≠ (TJx3cf43 b).2.1 := by decide +kernel
theorem tyJx3cf43_ok : ∀ k, k < 0 → parseFieldDescriptor (TJx3cf43 k).2.2.1 = some (tyJx3cf43 k) := by decide +kernel
def RJ7 : String := "java/util/Arrays"
def TJ7 : u_T := fun k => match k with
  | _ => ("", "", "", false)
def tyJ7 : Nat → FieldType := fun k => match k with
  | _ => .int
abbrev wsJ70 : List Cond := u_ws RJ7 TJ7 0
theorem nmJ7 : ∀ a, a < 0 → ∀ b, b < 0 → a ≠ b → (TJ7 a).2.1 ≠ (TJ7 b).2.1 := by decide +kernel
theorem tyJ7_ok : ∀ k, k < 0 → parseFieldDescriptor (TJ7 k).2.2.1 = some (tyJ7 k) := by decide +kernel
abbrev cJ7_fill_d0a16 : ByteArray := prog_31_method_101_code
def yJ7_fill_d0a16 : MethodName := ⟨RJ7, "fill", "([JJ)V"⟩
abbrev cJ7_fill_53178 : ByteArray := prog_31_method_103_code
def yJ7_fill_53178 : MethodName := ⟨RJ7, "fill", "([II)V"⟩
def RJ3 : String := "jdk/internal/util/Preconditions"
def TJ3 : u_T := fun k => match k with
  | _ => ("", "", "", false)
def tyJ3 : Nat → FieldType := fun k => match k with
  | _ => .int
abbrev wsJ30 : List Cond := u_ws RJ3 TJ3 0
theorem nmJ3 : ∀ a, a < 0 → ∀ b, b < 0 → a ≠ b → (TJ3 a).2.1 ≠ (TJ3 b).2.1 := by decide +kernel
theorem tyJ3_ok : ∀ k, k < 0 → parseFieldDescriptor (TJ3 k).2.2.1 = some (tyJ3 k) := by decide +kernel
abbrev cJ3_checkIndex_8e157 : ByteArray := prog_33_method_11_code
def yJ3_checkIndex_8e157 : MethodName := ⟨RJ3, "checkIndex", "(IILjava/util/function/BiFunction;)I"⟩
def RL : String := "NightInnLaw"
abbrev cL_led : ByteArray := method_3_code
def yL_led : MethodName := ⟨RL, "led", "(LNightInn;I[J)I"⟩
abbrev cL_law : ByteArray := code
def yL_law : MethodName := ⟨RL, "law", "([I)Z"⟩
