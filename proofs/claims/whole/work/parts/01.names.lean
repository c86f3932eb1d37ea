-- ===== PART A: goes FIRST, ahead of the names: the tables' words, and 'selects' of the private methods out of them =====
/-- a private method of a class that the tables say can be made, by its rows of tables_1 -/
def lw_okq (q : MethodName × Nat) : Prop := (q.1.cls ≠ "java/lang/invoke/MethodHandle" ∧ q.1.cls ≠ "java/lang/invoke/VarHandle") ∧ Cond.instantiable q.1.cls q.2 ∈ tables_1 ∧ Cond.privateMethod q.1 ∈ tables_1 ∧ Cond.instanceMethod q.1 ∈ tables_1
theorem lw_p0 : lw_okq (⟨"StickStrings$Tape", "stepOverLetters", "()I"⟩, 8) := ⟨⟨by decide +kernel, by decide +kernel⟩, List.mem_of_getElem? (i := 41) (by decide +kernel), List.mem_of_getElem? (i := 96) (by decide +kernel), List.mem_of_getElem? (i := 97) (by decide +kernel)⟩
theorem lw_p1 : lw_okq (⟨"StickStrings$Parser", "start", "(ILStickStrings$Score;)V"⟩, 8) := ⟨⟨by decide +kernel, by decide +kernel⟩, List.mem_of_getElem? (i := 35) (by decide +kernel), List.mem_of_getElem? (i := 564) (by decide +kernel), List.mem_of_getElem? (i := 565) (by decide +kernel)⟩
theorem lw_p2 : lw_okq (⟨"StickStrings$Tape", "stepOverDigits", "()I"⟩, 8) := ⟨⟨by decide +kernel, by decide +kernel⟩, List.mem_of_getElem? (i := 41) (by decide +kernel), List.mem_of_getElem? (i := 586) (by decide +kernel), List.mem_of_getElem? (i := 587) (by decide +kernel)⟩
theorem lw_p3 : lw_okq (⟨"StickStrings$Parser", "readStick", "(LStickStrings$Score;)Z"⟩, 8) := ⟨⟨by decide +kernel, by decide +kernel⟩, List.mem_of_getElem? (i := 35) (by decide +kernel), List.mem_of_getElem? (i := 591) (by decide +kernel), List.mem_of_getElem? (i := 592) (by decide +kernel)⟩
theorem lw_p4 : lw_okq (⟨"StickStrings$Parser", "fail", "(I)Z"⟩, 8) := ⟨⟨by decide +kernel, by decide +kernel⟩, List.mem_of_getElem? (i := 35) (by decide +kernel), List.mem_of_getElem? (i := 595) (by decide +kernel), List.mem_of_getElem? (i := 596) (by decide +kernel)⟩
theorem lw_p5 : lw_okq (⟨"StickStrings$Parser", "failAt", "(II)Z"⟩, 8) := ⟨⟨by decide +kernel, by decide +kernel⟩, List.mem_of_getElem? (i := 35) (by decide +kernel), List.mem_of_getElem? (i := 599) (by decide +kernel), List.mem_of_getElem? (i := 600) (by decide +kernel)⟩
theorem lw_p6 : lw_okq (⟨"StickStrings$Parser", "readNumber", "(II)Z"⟩, 8) := ⟨⟨by decide +kernel, by decide +kernel⟩, List.mem_of_getElem? (i := 35) (by decide +kernel), List.mem_of_getElem? (i := 604) (by decide +kernel), List.mem_of_getElem? (i := 605) (by decide +kernel)⟩
theorem lw_p7 : lw_okq (⟨"StickStrings$Parser", "readBeat", "(LStickStrings$Score;)Z"⟩, 8) := ⟨⟨by decide +kernel, by decide +kernel⟩, List.mem_of_getElem? (i := 35) (by decide +kernel), List.mem_of_getElem? (i := 611) (by decide +kernel), List.mem_of_getElem? (i := 612) (by decide +kernel)⟩
theorem lw_p8 : lw_okq (⟨"StickStrings$Parser", "readPause", "(LStickStrings$Score;)Z"⟩, 8) := ⟨⟨by decide +kernel, by decide +kernel⟩, List.mem_of_getElem? (i := 35) (by decide +kernel), List.mem_of_getElem? (i := 619) (by decide +kernel), List.mem_of_getElem? (i := 620) (by decide +kernel)⟩
theorem lw_p9 : lw_okq (⟨"StickStrings$Parser", "readLaw", "(LStickStrings$Laws;)Z"⟩, 8) := ⟨⟨by decide +kernel, by decide +kernel⟩, List.mem_of_getElem? (i := 35) (by decide +kernel), List.mem_of_getElem? (i := 627) (by decide +kernel), List.mem_of_getElem? (i := 628) (by decide +kernel)⟩
theorem lw_p10 : lw_okq (⟨"StickStrings$Parser", "readNewName", "([II)Z"⟩, 8) := ⟨⟨by decide +kernel, by decide +kernel⟩, List.mem_of_getElem? (i := 35) (by decide +kernel), List.mem_of_getElem? (i := 631) (by decide +kernel), List.mem_of_getElem? (i := 632) (by decide +kernel)⟩
theorem lw_p11 : lw_okq (⟨"StickStrings$Parser", "readPlayer", "(LStickStrings$Score;)Z"⟩, 8) := ⟨⟨by decide +kernel, by decide +kernel⟩, List.mem_of_getElem? (i := 35) (by decide +kernel), List.mem_of_getElem? (i := 636) (by decide +kernel), List.mem_of_getElem? (i := 637) (by decide +kernel)⟩
theorem lw_p12 : lw_okq (⟨"StickStrings$Parser", "readToldName", "([II)Z"⟩, 8) := ⟨⟨by decide +kernel, by decide +kernel⟩, List.mem_of_getElem? (i := 35) (by decide +kernel), List.mem_of_getElem? (i := 644) (by decide +kernel), List.mem_of_getElem? (i := 645) (by decide +kernel)⟩
theorem lw_p13 : lw_okq (⟨"StickStrings$Parser", "readHabits", "(LStickStrings$Players;)Z"⟩, 8) := ⟨⟨by decide +kernel, by decide +kernel⟩, List.mem_of_getElem? (i := 35) (by decide +kernel), List.mem_of_getElem? (i := 648) (by decide +kernel), List.mem_of_getElem? (i := 649) (by decide +kernel)⟩
theorem lw_p14 : lw_okq (⟨"StickStrings$Parser", "readLink", "(I)Z"⟩, 8) := ⟨⟨by decide +kernel, by decide +kernel⟩, List.mem_of_getElem? (i := 35) (by decide +kernel), List.mem_of_getElem? (i := 652) (by decide +kernel), List.mem_of_getElem? (i := 653) (by decide +kernel)⟩
theorem lw_p15 : lw_okq (⟨"StickStrings$Parser", "readDares", "(ILStickStrings$Players;)Z"⟩, 8) := ⟨⟨by decide +kernel, by decide +kernel⟩, List.mem_of_getElem? (i := 35) (by decide +kernel), List.mem_of_getElem? (i := 668) (by decide +kernel), List.mem_of_getElem? (i := 669) (by decide +kernel)⟩
def lw_privs_1 : List (MethodName × Nat) := [(⟨"StickStrings$Tape", "stepOverLetters", "()I"⟩, 8), (⟨"StickStrings$Parser", "start", "(ILStickStrings$Score;)V"⟩, 8), (⟨"StickStrings$Tape", "stepOverDigits", "()I"⟩, 8), (⟨"StickStrings$Parser", "readStick", "(LStickStrings$Score;)Z"⟩, 8), (⟨"StickStrings$Parser", "fail", "(I)Z"⟩, 8), (⟨"StickStrings$Parser", "failAt", "(II)Z"⟩, 8), (⟨"StickStrings$Parser", "readNumber", "(II)Z"⟩, 8), (⟨"StickStrings$Parser", "readBeat", "(LStickStrings$Score;)Z"⟩, 8), (⟨"StickStrings$Parser", "readPause", "(LStickStrings$Score;)Z"⟩, 8), (⟨"StickStrings$Parser", "readLaw", "(LStickStrings$Laws;)Z"⟩, 8), (⟨"StickStrings$Parser", "readNewName", "([II)Z"⟩, 8), (⟨"StickStrings$Parser", "readPlayer", "(LStickStrings$Score;)Z"⟩, 8), (⟨"StickStrings$Parser", "readToldName", "([II)Z"⟩, 8), (⟨"StickStrings$Parser", "readHabits", "(LStickStrings$Players;)Z"⟩, 8), (⟨"StickStrings$Parser", "readLink", "(I)Z"⟩, 8), (⟨"StickStrings$Parser", "readDares", "(ILStickStrings$Players;)Z"⟩, 8)]
theorem lw_r1 : ∀ q ∈ lw_privs_1, lw_okq q := List.forall_mem_cons.mpr ⟨lw_p0, List.forall_mem_cons.mpr ⟨lw_p1, List.forall_mem_cons.mpr ⟨lw_p2, List.forall_mem_cons.mpr ⟨lw_p3, List.forall_mem_cons.mpr ⟨lw_p4, List.forall_mem_cons.mpr ⟨lw_p5, List.forall_mem_cons.mpr ⟨lw_p6, List.forall_mem_cons.mpr ⟨lw_p7, List.forall_mem_cons.mpr ⟨lw_p8, List.forall_mem_cons.mpr ⟨lw_p9, List.forall_mem_cons.mpr ⟨lw_p10, List.forall_mem_cons.mpr ⟨lw_p11, List.forall_mem_cons.mpr ⟨lw_p12, List.forall_mem_cons.mpr ⟨lw_p13, List.forall_mem_cons.mpr ⟨lw_p14, List.forall_mem_cons.mpr ⟨lw_p15, fun _ h => absurd h List.not_mem_nil⟩⟩⟩⟩⟩⟩⟩⟩⟩⟩⟩⟩⟩⟩⟩⟩
theorem lw_p16 : lw_okq (⟨"StickStrings$Parser", "readWrong", "(LStickStrings$Score;)Z"⟩, 8) := ⟨⟨by decide +kernel, by decide +kernel⟩, List.mem_of_getElem? (i := 35) (by decide +kernel), List.mem_of_getElem? (i := 676) (by decide +kernel), List.mem_of_getElem? (i := 677) (by decide +kernel)⟩
theorem lw_p17 : lw_okq (⟨"StickStrings$Parser", "readEnd", "()Z"⟩, 8) := ⟨⟨by decide +kernel, by decide +kernel⟩, List.mem_of_getElem? (i := 35) (by decide +kernel), List.mem_of_getElem? (i := 684) (by decide +kernel), List.mem_of_getElem? (i := 685) (by decide +kernel)⟩
theorem lw_p18 : lw_okq (⟨"StickStrings$Parser", "resolveLinks", "(LStickStrings$Players;)Z"⟩, 8) := ⟨⟨by decide +kernel, by decide +kernel⟩, List.mem_of_getElem? (i := 35) (by decide +kernel), List.mem_of_getElem? (i := 688) (by decide +kernel), List.mem_of_getElem? (i := 689) (by decide +kernel)⟩
theorem lw_p19 : lw_okq (⟨"StickStrings", "isPlayer", "(I)Z"⟩, 10) := ⟨⟨by decide +kernel, by decide +kernel⟩, List.mem_of_getElem? (i := 27) (by decide +kernel), List.mem_of_getElem? (i := 744) (by decide +kernel), List.mem_of_getElem? (i := 745) (by decide +kernel)⟩
theorem lw_p20 : lw_okq (⟨"StickStrings", "isBeat", "(I)Z"⟩, 10) := ⟨⟨by decide +kernel, by decide +kernel⟩, List.mem_of_getElem? (i := 27) (by decide +kernel), List.mem_of_getElem? (i := 755) (by decide +kernel), List.mem_of_getElem? (i := 756) (by decide +kernel)⟩
theorem lw_p21 : lw_okq (⟨"StickStrings", "playAsItIs", "()V"⟩, 10) := ⟨⟨by decide +kernel, by decide +kernel⟩, List.mem_of_getElem? (i := 27) (by decide +kernel), List.mem_of_getElem? (i := 759) (by decide +kernel), List.mem_of_getElem? (i := 760) (by decide +kernel)⟩
theorem lw_p22 : lw_okq (⟨"StickStrings$Play", "measureWays", "(LStickStrings$Cast;)V"⟩, 6) := ⟨⟨by decide +kernel, by decide +kernel⟩, List.mem_of_getElem? (i := 466) (by decide +kernel), List.mem_of_getElem? (i := 784) (by decide +kernel), List.mem_of_getElem? (i := 785) (by decide +kernel)⟩
theorem lw_p23 : lw_okq (⟨"StickStrings$Play", "weigh", "(LStickStrings$Score;LStickStrings$Cast;IIJ)J"⟩, 6) := ⟨⟨by decide +kernel, by decide +kernel⟩, List.mem_of_getElem? (i := 466) (by decide +kernel), List.mem_of_getElem? (i := 790) (by decide +kernel), List.mem_of_getElem? (i := 791) (by decide +kernel)⟩
theorem lw_p24 : lw_okq (⟨"StickStrings$Play", "say", "(IJ)V"⟩, 6) := ⟨⟨by decide +kernel, by decide +kernel⟩, List.mem_of_getElem? (i := 466) (by decide +kernel), List.mem_of_getElem? (i := 809) (by decide +kernel), List.mem_of_getElem? (i := 810) (by decide +kernel)⟩
theorem lw_p25 : lw_okq (⟨"StickStrings$Play", "widthAt", "(LStickStrings$Score;I[I)I"⟩, 6) := ⟨⟨by decide +kernel, by decide +kernel⟩, List.mem_of_getElem? (i := 466) (by decide +kernel), List.mem_of_getElem? (i := 849) (by decide +kernel), List.mem_of_getElem? (i := 850) (by decide +kernel)⟩
theorem lw_p26 : lw_okq (⟨"StickStrings", "holdsWithout", "(III)Z"⟩, 10) := ⟨⟨by decide +kernel, by decide +kernel⟩, List.mem_of_getElem? (i := 27) (by decide +kernel), List.mem_of_getElem? (i := 887) (by decide +kernel), List.mem_of_getElem? (i := 888) (by decide +kernel)⟩
theorem lw_p27 : lw_okq (⟨"StickStrings", "isSpan", "(II)Z"⟩, 10) := ⟨⟨by decide +kernel, by decide +kernel⟩, List.mem_of_getElem? (i := 27) (by decide +kernel), List.mem_of_getElem? (i := 931) (by decide +kernel), List.mem_of_getElem? (i := 932) (by decide +kernel)⟩
theorem lw_p28 : lw_okq (⟨"StickStrings", "togetherSeated", "(IIII)J"⟩, 10) := ⟨⟨by decide +kernel, by decide +kernel⟩, List.mem_of_getElem? (i := 27) (by decide +kernel), List.mem_of_getElem? (i := 960) (by decide +kernel), List.mem_of_getElem? (i := 961) (by decide +kernel)⟩
theorem lw_p29 : lw_okq (⟨"StickStrings", "tryAllWays", "(IIII)V"⟩, 10) := ⟨⟨by decide +kernel, by decide +kernel⟩, List.mem_of_getElem? (i := 27) (by decide +kernel), List.mem_of_getElem? (i := 975) (by decide +kernel), List.mem_of_getElem? (i := 976) (by decide +kernel)⟩
theorem lw_p30 : lw_okq (⟨"StickStrings", "tryChanges", "(IIII)V"⟩, 10) := ⟨⟨by decide +kernel, by decide +kernel⟩, List.mem_of_getElem? (i := 27) (by decide +kernel), List.mem_of_getElem? (i := 987) (by decide +kernel), List.mem_of_getElem? (i := 988) (by decide +kernel)⟩
theorem lw_p31 : lw_okq (⟨"StickStrings", "isWrong", "(III)Z"⟩, 10) := ⟨⟨by decide +kernel, by decide +kernel⟩, List.mem_of_getElem? (i := 27) (by decide +kernel), List.mem_of_getElem? (i := 1004) (by decide +kernel), List.mem_of_getElem? (i := 1005) (by decide +kernel)⟩
def lw_privs_2 : List (MethodName × Nat) := [(⟨"StickStrings$Parser", "readWrong", "(LStickStrings$Score;)Z"⟩, 8), (⟨"StickStrings$Parser", "readEnd", "()Z"⟩, 8), (⟨"StickStrings$Parser", "resolveLinks", "(LStickStrings$Players;)Z"⟩, 8), (⟨"StickStrings", "isPlayer", "(I)Z"⟩, 10), (⟨"StickStrings", "isBeat", "(I)Z"⟩, 10), (⟨"StickStrings", "playAsItIs", "()V"⟩, 10), (⟨"StickStrings$Play", "measureWays", "(LStickStrings$Cast;)V"⟩, 6), (⟨"StickStrings$Play", "weigh", "(LStickStrings$Score;LStickStrings$Cast;IIJ)J"⟩, 6), (⟨"StickStrings$Play", "say", "(IJ)V"⟩, 6), (⟨"StickStrings$Play", "widthAt", "(LStickStrings$Score;I[I)I"⟩, 6), (⟨"StickStrings", "holdsWithout", "(III)Z"⟩, 10), (⟨"StickStrings", "isSpan", "(II)Z"⟩, 10), (⟨"StickStrings", "togetherSeated", "(IIII)J"⟩, 10), (⟨"StickStrings", "tryAllWays", "(IIII)V"⟩, 10), (⟨"StickStrings", "tryChanges", "(IIII)V"⟩, 10), (⟨"StickStrings", "isWrong", "(III)Z"⟩, 10)]
theorem lw_r2 : ∀ q ∈ lw_privs_2, lw_okq q := List.forall_mem_cons.mpr ⟨lw_p16, List.forall_mem_cons.mpr ⟨lw_p17, List.forall_mem_cons.mpr ⟨lw_p18, List.forall_mem_cons.mpr ⟨lw_p19, List.forall_mem_cons.mpr ⟨lw_p20, List.forall_mem_cons.mpr ⟨lw_p21, List.forall_mem_cons.mpr ⟨lw_p22, List.forall_mem_cons.mpr ⟨lw_p23, List.forall_mem_cons.mpr ⟨lw_p24, List.forall_mem_cons.mpr ⟨lw_p25, List.forall_mem_cons.mpr ⟨lw_p26, List.forall_mem_cons.mpr ⟨lw_p27, List.forall_mem_cons.mpr ⟨lw_p28, List.forall_mem_cons.mpr ⟨lw_p29, List.forall_mem_cons.mpr ⟨lw_p30, List.forall_mem_cons.mpr ⟨lw_p31, fun _ h => absurd h List.not_mem_nil⟩⟩⟩⟩⟩⟩⟩⟩⟩⟩⟩⟩⟩⟩⟩⟩
theorem lw_p32 : lw_okq (⟨"StickStrings", "playWrong", "(III)V"⟩, 10) := ⟨⟨by decide +kernel, by decide +kernel⟩, List.mem_of_getElem? (i := 27) (by decide +kernel), List.mem_of_getElem? (i := 1008) (by decide +kernel), List.mem_of_getElem? (i := 1009) (by decide +kernel)⟩
theorem lw_p33 : lw_okq (⟨"StickStrings", "movedAt", "(II)I"⟩, 10) := ⟨⟨by decide +kernel, by decide +kernel⟩, List.mem_of_getElem? (i := 27) (by decide +kernel), List.mem_of_getElem? (i := 1012) (by decide +kernel), List.mem_of_getElem? (i := 1013) (by decide +kernel)⟩
theorem lw_p34 : lw_okq (⟨"StickStrings", "farAt", "(I)I"⟩, 10) := ⟨⟨by decide +kernel, by decide +kernel⟩, List.mem_of_getElem? (i := 27) (by decide +kernel), List.mem_of_getElem? (i := 1020) (by decide +kernel), List.mem_of_getElem? (i := 1021) (by decide +kernel)⟩
theorem lw_p35 : lw_okq (⟨"StickStrings$Film", "add", "(IIII)I"⟩, 7) := ⟨⟨by decide +kernel, by decide +kernel⟩, List.mem_of_getElem? (i := 376) (by decide +kernel), List.mem_of_getElem? (i := 1056) (by decide +kernel), List.mem_of_getElem? (i := 1057) (by decide +kernel)⟩
theorem lw_p36 : lw_okq (⟨"StickStrings", "lawsThatFit", "(II)I"⟩, 10) := ⟨⟨by decide +kernel, by decide +kernel⟩, List.mem_of_getElem? (i := 27) (by decide +kernel), List.mem_of_getElem? (i := 1076) (by decide +kernel), List.mem_of_getElem? (i := 1077) (by decide +kernel)⟩
theorem lw_p37 : lw_okq (⟨"StickStrings", "playWithLaw", "(III)V"⟩, 10) := ⟨⟨by decide +kernel, by decide +kernel⟩, List.mem_of_getElem? (i := 27) (by decide +kernel), List.mem_of_getElem? (i := 1086) (by decide +kernel), List.mem_of_getElem? (i := 1087) (by decide +kernel)⟩
theorem lw_p38 : lw_okq (⟨"StickStrings", "greatestGroup", "(III)I"⟩, 10) := ⟨⟨by decide +kernel, by decide +kernel⟩, List.mem_of_getElem? (i := 27) (by decide +kernel), List.mem_of_getElem? (i := 1110) (by decide +kernel), List.mem_of_getElem? (i := 1111) (by decide +kernel)⟩
theorem lw_p39 : lw_okq (⟨"StickStrings", "keepEntries", "(II)V"⟩, 10) := ⟨⟨by decide +kernel, by decide +kernel⟩, List.mem_of_getElem? (i := 27) (by decide +kernel), List.mem_of_getElem? (i := 1114) (by decide +kernel), List.mem_of_getElem? (i := 1115) (by decide +kernel)⟩
theorem lw_p40 : lw_okq (⟨"StickStrings", "countAlike", "(II)I"⟩, 10) := ⟨⟨by decide +kernel, by decide +kernel⟩, List.mem_of_getElem? (i := 27) (by decide +kernel), List.mem_of_getElem? (i := 1118) (by decide +kernel), List.mem_of_getElem? (i := 1119) (by decide +kernel)⟩
theorem lw_p41 : lw_okq (⟨"StickStrings", "areAlike", "(II)Z"⟩, 10) := ⟨⟨by decide +kernel, by decide +kernel⟩, List.mem_of_getElem? (i := 27) (by decide +kernel), List.mem_of_getElem? (i := 1122) (by decide +kernel), List.mem_of_getElem? (i := 1123) (by decide +kernel)⟩
theorem lw_p42 : lw_okq (⟨"StickStrings", "habitOf", "(I)I"⟩, 10) := ⟨⟨by decide +kernel, by decide +kernel⟩, List.mem_of_getElem? (i := 27) (by decide +kernel), List.mem_of_getElem? (i := 1146) (by decide +kernel), List.mem_of_getElem? (i := 1147) (by decide +kernel)⟩
theorem lw_p43 : lw_okq (⟨"StickStrings", "doubtAt", "(I)I"⟩, 10) := ⟨⟨by decide +kernel, by decide +kernel⟩, List.mem_of_getElem? (i := 27) (by decide +kernel), List.mem_of_getElem? (i := 1151) (by decide +kernel), List.mem_of_getElem? (i := 1152) (by decide +kernel)⟩
theorem lw_p44 : lw_okq (⟨"java/lang/Throwable", "fillInStackTrace", "(I)Ljava/lang/Throwable;"⟩, 6) := ⟨⟨by decide +kernel, by decide +kernel⟩, List.mem_of_getElem? (i := 1205) (by decide +kernel), List.mem_of_getElem? (i := 1203) (by decide +kernel), List.mem_of_getElem? (i := 1204) (by decide +kernel)⟩
theorem lw_p45 : lw_okq (⟨"StickStringsModel", "plain", "()V"⟩, 58) := ⟨⟨by decide +kernel, by decide +kernel⟩, List.mem_of_getElem? (i := 1250) (by decide +kernel), List.mem_of_getElem? (i := 1256) (by decide +kernel), List.mem_of_getElem? (i := 1257) (by decide +kernel)⟩
theorem lw_p46 : lw_okq (⟨"StickStringsModel", "keep", "()V"⟩, 58) := ⟨⟨by decide +kernel, by decide +kernel⟩, List.mem_of_getElem? (i := 1250) (by decide +kernel), List.mem_of_getElem? (i := 1260) (by decide +kernel), List.mem_of_getElem? (i := 1261) (by decide +kernel)⟩
theorem lw_p47 : lw_okq (⟨"StickStringsModel", "token", "()V"⟩, 58) := ⟨⟨by decide +kernel, by decide +kernel⟩, List.mem_of_getElem? (i := 1250) (by decide +kernel), List.mem_of_getElem? (i := 1454) (by decide +kernel), List.mem_of_getElem? (i := 1455) (by decide +kernel)⟩
def lw_privs_3 : List (MethodName × Nat) := [(⟨"StickStrings", "playWrong", "(III)V"⟩, 10), (⟨"StickStrings", "movedAt", "(II)I"⟩, 10), (⟨"StickStrings", "farAt", "(I)I"⟩, 10), (⟨"StickStrings$Film", "add", "(IIII)I"⟩, 7), (⟨"StickStrings", "lawsThatFit", "(II)I"⟩, 10), (⟨"StickStrings", "playWithLaw", "(III)V"⟩, 10), (⟨"StickStrings", "greatestGroup", "(III)I"⟩, 10), (⟨"StickStrings", "keepEntries", "(II)V"⟩, 10), (⟨"StickStrings", "countAlike", "(II)I"⟩, 10), (⟨"StickStrings", "areAlike", "(II)Z"⟩, 10), (⟨"StickStrings", "habitOf", "(I)I"⟩, 10), (⟨"StickStrings", "doubtAt", "(I)I"⟩, 10), (⟨"java/lang/Throwable", "fillInStackTrace", "(I)Ljava/lang/Throwable;"⟩, 6), (⟨"StickStringsModel", "plain", "()V"⟩, 58), (⟨"StickStringsModel", "keep", "()V"⟩, 58), (⟨"StickStringsModel", "token", "()V"⟩, 58)]
theorem lw_r3 : ∀ q ∈ lw_privs_3, lw_okq q := List.forall_mem_cons.mpr ⟨lw_p32, List.forall_mem_cons.mpr ⟨lw_p33, List.forall_mem_cons.mpr ⟨lw_p34, List.forall_mem_cons.mpr ⟨lw_p35, List.forall_mem_cons.mpr ⟨lw_p36, List.forall_mem_cons.mpr ⟨lw_p37, List.forall_mem_cons.mpr ⟨lw_p38, List.forall_mem_cons.mpr ⟨lw_p39, List.forall_mem_cons.mpr ⟨lw_p40, List.forall_mem_cons.mpr ⟨lw_p41, List.forall_mem_cons.mpr ⟨lw_p42, List.forall_mem_cons.mpr ⟨lw_p43, List.forall_mem_cons.mpr ⟨lw_p44, List.forall_mem_cons.mpr ⟨lw_p45, List.forall_mem_cons.mpr ⟨lw_p46, List.forall_mem_cons.mpr ⟨lw_p47, fun _ h => absurd h List.not_mem_nil⟩⟩⟩⟩⟩⟩⟩⟩⟩⟩⟩⟩⟩⟩⟩⟩
theorem lw_p48 : lw_okq (⟨"StickStringsModel", "isSmall", "(I)Z"⟩, 58) := ⟨⟨by decide +kernel, by decide +kernel⟩, List.mem_of_getElem? (i := 1250) (by decide +kernel), List.mem_of_getElem? (i := 1458) (by decide +kernel), List.mem_of_getElem? (i := 1459) (by decide +kernel)⟩
theorem lw_p49 : lw_okq (⟨"StickStringsModel", "wordAt", "(II)I"⟩, 58) := ⟨⟨by decide +kernel, by decide +kernel⟩, List.mem_of_getElem? (i := 1250) (by decide +kernel), List.mem_of_getElem? (i := 1462) (by decide +kernel), List.mem_of_getElem? (i := 1463) (by decide +kernel)⟩
theorem lw_p50 : lw_okq (⟨"StickStringsModel", "packed", "(II)I"⟩, 58) := ⟨⟨by decide +kernel, by decide +kernel⟩, List.mem_of_getElem? (i := 1250) (by decide +kernel), List.mem_of_getElem? (i := 1466) (by decide +kernel), List.mem_of_getElem? (i := 1467) (by decide +kernel)⟩
theorem lw_p51 : lw_okq (⟨"StickStringsModel", "isDigit", "(I)Z"⟩, 58) := ⟨⟨by decide +kernel, by decide +kernel⟩, List.mem_of_getElem? (i := 1250) (by decide +kernel), List.mem_of_getElem? (i := 1470) (by decide +kernel), List.mem_of_getElem? (i := 1471) (by decide +kernel)⟩
theorem lw_p52 : lw_okq (⟨"StickStringsModel", "lineRead", "()Z"⟩, 58) := ⟨⟨by decide +kernel, by decide +kernel⟩, List.mem_of_getElem? (i := 1250) (by decide +kernel), List.mem_of_getElem? (i := 1474) (by decide +kernel), List.mem_of_getElem? (i := 1475) (by decide +kernel)⟩
theorem lw_p53 : lw_okq (⟨"StickStringsModel", "wrong", "(I)Z"⟩, 58) := ⟨⟨by decide +kernel, by decide +kernel⟩, List.mem_of_getElem? (i := 1250) (by decide +kernel), List.mem_of_getElem? (i := 1478) (by decide +kernel), List.mem_of_getElem? (i := 1479) (by decide +kernel)⟩
theorem lw_p54 : lw_okq (⟨"StickStringsModel", "stickLine", "()Z"⟩, 58) := ⟨⟨by decide +kernel, by decide +kernel⟩, List.mem_of_getElem? (i := 1250) (by decide +kernel), List.mem_of_getElem? (i := 1482) (by decide +kernel), List.mem_of_getElem? (i := 1483) (by decide +kernel)⟩
theorem lw_p55 : lw_okq (⟨"StickStringsModel", "number", "(II)Z"⟩, 58) := ⟨⟨by decide +kernel, by decide +kernel⟩, List.mem_of_getElem? (i := 1250) (by decide +kernel), List.mem_of_getElem? (i := 1486) (by decide +kernel), List.mem_of_getElem? (i := 1487) (by decide +kernel)⟩
theorem lw_p56 : lw_okq (⟨"StickStringsModel", "beatLine", "()Z"⟩, 58) := ⟨⟨by decide +kernel, by decide +kernel⟩, List.mem_of_getElem? (i := 1250) (by decide +kernel), List.mem_of_getElem? (i := 1493) (by decide +kernel), List.mem_of_getElem? (i := 1494) (by decide +kernel)⟩
theorem lw_p57 : lw_okq (⟨"StickStringsModel", "isKey", "(I)Z"⟩, 58) := ⟨⟨by decide +kernel, by decide +kernel⟩, List.mem_of_getElem? (i := 1250) (by decide +kernel), List.mem_of_getElem? (i := 1497) (by decide +kernel), List.mem_of_getElem? (i := 1498) (by decide +kernel)⟩
theorem lw_p58 : lw_okq (⟨"StickStringsModel", "pauseLine", "()Z"⟩, 58) := ⟨⟨by decide +kernel, by decide +kernel⟩, List.mem_of_getElem? (i := 1250) (by decide +kernel), List.mem_of_getElem? (i := 1501) (by decide +kernel), List.mem_of_getElem? (i := 1502) (by decide +kernel)⟩
theorem lw_p59 : lw_okq (⟨"StickStringsModel", "lawLine", "()Z"⟩, 58) := ⟨⟨by decide +kernel, by decide +kernel⟩, List.mem_of_getElem? (i := 1250) (by decide +kernel), List.mem_of_getElem? (i := 1505) (by decide +kernel), List.mem_of_getElem? (i := 1506) (by decide +kernel)⟩
theorem lw_p60 : lw_okq (⟨"StickStringsModel", "newName", "([III)Z"⟩, 58) := ⟨⟨by decide +kernel, by decide +kernel⟩, List.mem_of_getElem? (i := 1250) (by decide +kernel), List.mem_of_getElem? (i := 1509) (by decide +kernel), List.mem_of_getElem? (i := 1510) (by decide +kernel)⟩
theorem lw_p61 : lw_okq (⟨"StickStringsModel", "signed", "(I)Z"⟩, 58) := ⟨⟨by decide +kernel, by decide +kernel⟩, List.mem_of_getElem? (i := 1250) (by decide +kernel), List.mem_of_getElem? (i := 1516) (by decide +kernel), List.mem_of_getElem? (i := 1517) (by decide +kernel)⟩
theorem lw_p62 : lw_okq (⟨"StickStringsModel", "isSign", "(I)Z"⟩, 58) := ⟨⟨by decide +kernel, by decide +kernel⟩, List.mem_of_getElem? (i := 1250) (by decide +kernel), List.mem_of_getElem? (i := 1520) (by decide +kernel), List.mem_of_getElem? (i := 1521) (by decide +kernel)⟩
theorem lw_p63 : lw_okq (⟨"StickStringsModel", "playerLine", "()Z"⟩, 58) := ⟨⟨by decide +kernel, by decide +kernel⟩, List.mem_of_getElem? (i := 1250) (by decide +kernel), List.mem_of_getElem? (i := 1524) (by decide +kernel), List.mem_of_getElem? (i := 1525) (by decide +kernel)⟩
def lw_privs_4 : List (MethodName × Nat) := [(⟨"StickStringsModel", "isSmall", "(I)Z"⟩, 58), (⟨"StickStringsModel", "wordAt", "(II)I"⟩, 58), (⟨"StickStringsModel", "packed", "(II)I"⟩, 58), (⟨"StickStringsModel", "isDigit", "(I)Z"⟩, 58), (⟨"StickStringsModel", "lineRead", "()Z"⟩, 58), (⟨"StickStringsModel", "wrong", "(I)Z"⟩, 58), (⟨"StickStringsModel", "stickLine", "()Z"⟩, 58), (⟨"StickStringsModel", "number", "(II)Z"⟩, 58), (⟨"StickStringsModel", "beatLine", "()Z"⟩, 58), (⟨"StickStringsModel", "isKey", "(I)Z"⟩, 58), (⟨"StickStringsModel", "pauseLine", "()Z"⟩, 58), (⟨"StickStringsModel", "lawLine", "()Z"⟩, 58), (⟨"StickStringsModel", "newName", "([III)Z"⟩, 58), (⟨"StickStringsModel", "signed", "(I)Z"⟩, 58), (⟨"StickStringsModel", "isSign", "(I)Z"⟩, 58), (⟨"StickStringsModel", "playerLine", "()Z"⟩, 58)]
theorem lw_r4 : ∀ q ∈ lw_privs_4, lw_okq q := List.forall_mem_cons.mpr ⟨lw_p48, List.forall_mem_cons.mpr ⟨lw_p49, List.forall_mem_cons.mpr ⟨lw_p50, List.forall_mem_cons.mpr ⟨lw_p51, List.forall_mem_cons.mpr ⟨lw_p52, List.forall_mem_cons.mpr ⟨lw_p53, List.forall_mem_cons.mpr ⟨lw_p54, List.forall_mem_cons.mpr ⟨lw_p55, List.forall_mem_cons.mpr ⟨lw_p56, List.forall_mem_cons.mpr ⟨lw_p57, List.forall_mem_cons.mpr ⟨lw_p58, List.forall_mem_cons.mpr ⟨lw_p59, List.forall_mem_cons.mpr ⟨lw_p60, List.forall_mem_cons.mpr ⟨lw_p61, List.forall_mem_cons.mpr ⟨lw_p62, List.forall_mem_cons.mpr ⟨lw_p63, fun _ h => absurd h List.not_mem_nil⟩⟩⟩⟩⟩⟩⟩⟩⟩⟩⟩⟩⟩⟩⟩⟩
theorem lw_p64 : lw_okq (⟨"StickStringsModel", "oldName", "([III)Z"⟩, 58) := ⟨⟨by decide +kernel, by decide +kernel⟩, List.mem_of_getElem? (i := 1250) (by decide +kernel), List.mem_of_getElem? (i := 1528) (by decide +kernel), List.mem_of_getElem? (i := 1529) (by decide +kernel)⟩
theorem lw_p65 : lw_okq (⟨"StickStringsModel", "manner", "(Z)Z"⟩, 58) := ⟨⟨by decide +kernel, by decide +kernel⟩, List.mem_of_getElem? (i := 1250) (by decide +kernel), List.mem_of_getElem? (i := 1532) (by decide +kernel), List.mem_of_getElem? (i := 1533) (by decide +kernel)⟩
theorem lw_p66 : lw_okq (⟨"StickStringsModel", "wrongLine", "()Z"⟩, 58) := ⟨⟨by decide +kernel, by decide +kernel⟩, List.mem_of_getElem? (i := 1250) (by decide +kernel), List.mem_of_getElem? (i := 1536) (by decide +kernel), List.mem_of_getElem? (i := 1537) (by decide +kernel)⟩
theorem lw_p67 : lw_okq (⟨"StickStringsModel", "resolves", "()Z"⟩, 58) := ⟨⟨by decide +kernel, by decide +kernel⟩, List.mem_of_getElem? (i := 1250) (by decide +kernel), List.mem_of_getElem? (i := 1540) (by decide +kernel), List.mem_of_getElem? (i := 1541) (by decide +kernel)⟩
theorem lw_p68 : lw_okq (⟨"StickStringsModel", "isPlayer", "(I)Z"⟩, 58) := ⟨⟨by decide +kernel, by decide +kernel⟩, List.mem_of_getElem? (i := 1250) (by decide +kernel), List.mem_of_getElem? (i := 1556) (by decide +kernel), List.mem_of_getElem? (i := 1557) (by decide +kernel)⟩
theorem lw_p69 : lw_okq (⟨"StickStringsModel", "fails", "(I)I"⟩, 58) := ⟨⟨by decide +kernel, by decide +kernel⟩, List.mem_of_getElem? (i := 1250) (by decide +kernel), List.mem_of_getElem? (i := 1560) (by decide +kernel), List.mem_of_getElem? (i := 1561) (by decide +kernel)⟩
theorem lw_p70 : lw_okq (⟨"StickStringsModel", "wayBetween", "(II)I"⟩, 58) := ⟨⟨by decide +kernel, by decide +kernel⟩, List.mem_of_getElem? (i := 1250) (by decide +kernel), List.mem_of_getElem? (i := 1573) (by decide +kernel), List.mem_of_getElem? (i := 1574) (by decide +kernel)⟩
theorem lw_p71 : lw_okq (⟨"StickStringsModel", "beginOf", "(I)I"⟩, 58) := ⟨⟨by decide +kernel, by decide +kernel⟩, List.mem_of_getElem? (i := 1250) (by decide +kernel), List.mem_of_getElem? (i := 1589) (by decide +kernel), List.mem_of_getElem? (i := 1590) (by decide +kernel)⟩
theorem lw_p72 : lw_okq (⟨"StickStringsModel", "isBeat", "(I)Z"⟩, 58) := ⟨⟨by decide +kernel, by decide +kernel⟩, List.mem_of_getElem? (i := 1250) (by decide +kernel), List.mem_of_getElem? (i := 1597) (by decide +kernel), List.mem_of_getElem? (i := 1598) (by decide +kernel)⟩
theorem lw_p73 : lw_okq (⟨"StickStringsModel", "layEntries", "()V"⟩, 58) := ⟨⟨by decide +kernel, by decide +kernel⟩, List.mem_of_getElem? (i := 1250) (by decide +kernel), List.mem_of_getElem? (i := 1601) (by decide +kernel), List.mem_of_getElem? (i := 1602) (by decide +kernel)⟩
theorem lw_p74 : lw_okq (⟨"StickStringsModel", "isThere", "(I)Z"⟩, 58) := ⟨⟨by decide +kernel, by decide +kernel⟩, List.mem_of_getElem? (i := 1250) (by decide +kernel), List.mem_of_getElem? (i := 1605) (by decide +kernel), List.mem_of_getElem? (i := 1606) (by decide +kernel)⟩
theorem lw_p75 : lw_okq (⟨"StickStringsModel", "entryOf", "(II)J"⟩, 58) := ⟨⟨by decide +kernel, by decide +kernel⟩, List.mem_of_getElem? (i := 1250) (by decide +kernel), List.mem_of_getElem? (i := 1609) (by decide +kernel), List.mem_of_getElem? (i := 1610) (by decide +kernel)⟩
theorem lw_p76 : lw_okq (⟨"StickStringsModel", "stickSays", "(II)I"⟩, 58) := ⟨⟨by decide +kernel, by decide +kernel⟩, List.mem_of_getElem? (i := 1250) (by decide +kernel), List.mem_of_getElem? (i := 1613) (by decide +kernel), List.mem_of_getElem? (i := 1614) (by decide +kernel)⟩
theorem lw_p77 : lw_okq (⟨"StickStringsModel", "weightOf", "(II)I"⟩, 58) := ⟨⟨by decide +kernel, by decide +kernel⟩, List.mem_of_getElem? (i := 1250) (by decide +kernel), List.mem_of_getElem? (i := 1617) (by decide +kernel), List.mem_of_getElem? (i := 1618) (by decide +kernel)⟩
theorem lw_p78 : lw_okq (⟨"StickStringsModel", "goesOn", "(III)J"⟩, 58) := ⟨⟨by decide +kernel, by decide +kernel⟩, List.mem_of_getElem? (i := 1250) (by decide +kernel), List.mem_of_getElem? (i := 1624) (by decide +kernel), List.mem_of_getElem? (i := 1625) (by decide +kernel)⟩
theorem lw_p79 : lw_okq (⟨"StickStringsModel", "spreadAt", "(I)I"⟩, 58) := ⟨⟨by decide +kernel, by decide +kernel⟩, List.mem_of_getElem? (i := 1250) (by decide +kernel), List.mem_of_getElem? (i := 1644) (by decide +kernel), List.mem_of_getElem? (i := 1645) (by decide +kernel)⟩
def lw_privs_5 : List (MethodName × Nat) := [(⟨"StickStringsModel", "oldName", "([III)Z"⟩, 58), (⟨"StickStringsModel", "manner", "(Z)Z"⟩, 58), (⟨"StickStringsModel", "wrongLine", "()Z"⟩, 58), (⟨"StickStringsModel", "resolves", "()Z"⟩, 58), (⟨"StickStringsModel", "isPlayer", "(I)Z"⟩, 58), (⟨"StickStringsModel", "fails", "(I)I"⟩, 58), (⟨"StickStringsModel", "wayBetween", "(II)I"⟩, 58), (⟨"StickStringsModel", "beginOf", "(I)I"⟩, 58), (⟨"StickStringsModel", "isBeat", "(I)Z"⟩, 58), (⟨"StickStringsModel", "layEntries", "()V"⟩, 58), (⟨"StickStringsModel", "isThere", "(I)Z"⟩, 58), (⟨"StickStringsModel", "entryOf", "(II)J"⟩, 58), (⟨"StickStringsModel", "stickSays", "(II)I"⟩, 58), (⟨"StickStringsModel", "weightOf", "(II)I"⟩, 58), (⟨"StickStringsModel", "goesOn", "(III)J"⟩, 58), (⟨"StickStringsModel", "spreadAt", "(I)I"⟩, 58)]
theorem lw_r5 : ∀ q ∈ lw_privs_5, lw_okq q := List.forall_mem_cons.mpr ⟨lw_p64, List.forall_mem_cons.mpr ⟨lw_p65, List.forall_mem_cons.mpr ⟨lw_p66, List.forall_mem_cons.mpr ⟨lw_p67, List.forall_mem_cons.mpr ⟨lw_p68, List.forall_mem_cons.mpr ⟨lw_p69, List.forall_mem_cons.mpr ⟨lw_p70, List.forall_mem_cons.mpr ⟨lw_p71, List.forall_mem_cons.mpr ⟨lw_p72, List.forall_mem_cons.mpr ⟨lw_p73, List.forall_mem_cons.mpr ⟨lw_p74, List.forall_mem_cons.mpr ⟨lw_p75, List.forall_mem_cons.mpr ⟨lw_p76, List.forall_mem_cons.mpr ⟨lw_p77, List.forall_mem_cons.mpr ⟨lw_p78, List.forall_mem_cons.mpr ⟨lw_p79, fun _ h => absurd h List.not_mem_nil⟩⟩⟩⟩⟩⟩⟩⟩⟩⟩⟩⟩⟩⟩⟩⟩
theorem lw_p80 : lw_okq (⟨"StickStringsModel", "lagAt", "(I)I"⟩, 58) := ⟨⟨by decide +kernel, by decide +kernel⟩, List.mem_of_getElem? (i := 1250) (by decide +kernel), List.mem_of_getElem? (i := 1652) (by decide +kernel), List.mem_of_getElem? (i := 1653) (by decide +kernel)⟩
theorem lw_p81 : lw_okq (⟨"StickStringsModel", "verdictNow", "(I)I"⟩, 58) := ⟨⟨by decide +kernel, by decide +kernel⟩, List.mem_of_getElem? (i := 1250) (by decide +kernel), List.mem_of_getElem? (i := 1660) (by decide +kernel), List.mem_of_getElem? (i := 1661) (by decide +kernel)⟩
theorem lw_p82 : lw_okq (⟨"StickStringsModel", "remembers", "(IIII)V"⟩, 58) := ⟨⟨by decide +kernel, by decide +kernel⟩, List.mem_of_getElem? (i := 1250) (by decide +kernel), List.mem_of_getElem? (i := 1672) (by decide +kernel), List.mem_of_getElem? (i := 1673) (by decide +kernel)⟩
theorem lw_p83 : lw_okq (⟨"StickStringsModel", "lateBy", "(III)I"⟩, 58) := ⟨⟨by decide +kernel, by decide +kernel⟩, List.mem_of_getElem? (i := 1250) (by decide +kernel), List.mem_of_getElem? (i := 1691) (by decide +kernel), List.mem_of_getElem? (i := 1692) (by decide +kernel)⟩
theorem lw_p84 : lw_okq (⟨"StickStringsModel", "areBeats", "(II)Z"⟩, 58) := ⟨⟨by decide +kernel, by decide +kernel⟩, List.mem_of_getElem? (i := 1250) (by decide +kernel), List.mem_of_getElem? (i := 1699) (by decide +kernel), List.mem_of_getElem? (i := 1700) (by decide +kernel)⟩
theorem lw_p85 : lw_okq (⟨"StickStringsModel", "togetherAt", "(IIII)J"⟩, 58) := ⟨⟨by decide +kernel, by decide +kernel⟩, List.mem_of_getElem? (i := 1250) (by decide +kernel), List.mem_of_getElem? (i := 1704) (by decide +kernel), List.mem_of_getElem? (i := 1705) (by decide +kernel)⟩
theorem lw_p86 : lw_okq (⟨"StickStringsModel", "layWrong", "(III)Z"⟩, 58) := ⟨⟨by decide +kernel, by decide +kernel⟩, List.mem_of_getElem? (i := 1250) (by decide +kernel), List.mem_of_getElem? (i := 1720) (by decide +kernel), List.mem_of_getElem? (i := 1721) (by decide +kernel)⟩
theorem lw_p87 : lw_okq (⟨"StickStringsModel", "movedAt", "(II)I"⟩, 58) := ⟨⟨by decide +kernel, by decide +kernel⟩, List.mem_of_getElem? (i := 1250) (by decide +kernel), List.mem_of_getElem? (i := 1724) (by decide +kernel), List.mem_of_getElem? (i := 1725) (by decide +kernel)⟩
theorem lw_p88 : lw_okq (⟨"StickStringsModel", "farAt", "(I)I"⟩, 58) := ⟨⟨by decide +kernel, by decide +kernel⟩, List.mem_of_getElem? (i := 1250) (by decide +kernel), List.mem_of_getElem? (i := 1732) (by decide +kernel), List.mem_of_getElem? (i := 1733) (by decide +kernel)⟩
theorem lw_p89 : lw_okq (⟨"StickStringsModel", "linksOf", "(I)I"⟩, 58) := ⟨⟨by decide +kernel, by decide +kernel⟩, List.mem_of_getElem? (i := 1250) (by decide +kernel), List.mem_of_getElem? (i := 1751) (by decide +kernel), List.mem_of_getElem? (i := 1752) (by decide +kernel)⟩
theorem lw_p90 : lw_okq (⟨"StickStringsModel", "fitting", "(II)I"⟩, 58) := ⟨⟨by decide +kernel, by decide +kernel⟩, List.mem_of_getElem? (i := 1250) (by decide +kernel), List.mem_of_getElem? (i := 1773) (by decide +kernel), List.mem_of_getElem? (i := 1774) (by decide +kernel)⟩
theorem lw_p91 : lw_okq (⟨"StickStringsModel", "layCounts", "()V"⟩, 58) := ⟨⟨by decide +kernel, by decide +kernel⟩, List.mem_of_getElem? (i := 1250) (by decide +kernel), List.mem_of_getElem? (i := 1777) (by decide +kernel), List.mem_of_getElem? (i := 1778) (by decide +kernel)⟩
theorem lw_p92 : lw_okq (⟨"StickStringsModel", "knownMany", "()I"⟩, 58) := ⟨⟨by decide +kernel, by decide +kernel⟩, List.mem_of_getElem? (i := 1250) (by decide +kernel), List.mem_of_getElem? (i := 1781) (by decide +kernel), List.mem_of_getElem? (i := 1782) (by decide +kernel)⟩
theorem lw_p93 : lw_okq (⟨"StickStringsModel", "isNear", "(II)Z"⟩, 58) := ⟨⟨by decide +kernel, by decide +kernel⟩, List.mem_of_getElem? (i := 1250) (by decide +kernel), List.mem_of_getElem? (i := 1785) (by decide +kernel), List.mem_of_getElem? (i := 1786) (by decide +kernel)⟩
theorem lw_p94 : lw_okq (⟨"StickStringsModel", "greatestGroup", "(II)I"⟩, 58) := ⟨⟨by decide +kernel, by decide +kernel⟩, List.mem_of_getElem? (i := 1250) (by decide +kernel), List.mem_of_getElem? (i := 1796) (by decide +kernel), List.mem_of_getElem? (i := 1797) (by decide +kernel)⟩
theorem lw_p95 : lw_okq (⟨"StickStringsModel", "areLike", "(II)Z"⟩, 58) := ⟨⟨by decide +kernel, by decide +kernel⟩, List.mem_of_getElem? (i := 1250) (by decide +kernel), List.mem_of_getElem? (i := 1800) (by decide +kernel), List.mem_of_getElem? (i := 1801) (by decide +kernel)⟩
def lw_privs_6 : List (MethodName × Nat) := [(⟨"StickStringsModel", "lagAt", "(I)I"⟩, 58), (⟨"StickStringsModel", "verdictNow", "(I)I"⟩, 58), (⟨"StickStringsModel", "remembers", "(IIII)V"⟩, 58), (⟨"StickStringsModel", "lateBy", "(III)I"⟩, 58), (⟨"StickStringsModel", "areBeats", "(II)Z"⟩, 58), (⟨"StickStringsModel", "togetherAt", "(IIII)J"⟩, 58), (⟨"StickStringsModel", "layWrong", "(III)Z"⟩, 58), (⟨"StickStringsModel", "movedAt", "(II)I"⟩, 58), (⟨"StickStringsModel", "farAt", "(I)I"⟩, 58), (⟨"StickStringsModel", "linksOf", "(I)I"⟩, 58), (⟨"StickStringsModel", "fitting", "(II)I"⟩, 58), (⟨"StickStringsModel", "layCounts", "()V"⟩, 58), (⟨"StickStringsModel", "knownMany", "()I"⟩, 58), (⟨"StickStringsModel", "isNear", "(II)Z"⟩, 58), (⟨"StickStringsModel", "greatestGroup", "(II)I"⟩, 58), (⟨"StickStringsModel", "areLike", "(II)Z"⟩, 58)]
theorem lw_r6 : ∀ q ∈ lw_privs_6, lw_okq q := List.forall_mem_cons.mpr ⟨lw_p80, List.forall_mem_cons.mpr ⟨lw_p81, List.forall_mem_cons.mpr ⟨lw_p82, List.forall_mem_cons.mpr ⟨lw_p83, List.forall_mem_cons.mpr ⟨lw_p84, List.forall_mem_cons.mpr ⟨lw_p85, List.forall_mem_cons.mpr ⟨lw_p86, List.forall_mem_cons.mpr ⟨lw_p87, List.forall_mem_cons.mpr ⟨lw_p88, List.forall_mem_cons.mpr ⟨lw_p89, List.forall_mem_cons.mpr ⟨lw_p90, List.forall_mem_cons.mpr ⟨lw_p91, List.forall_mem_cons.mpr ⟨lw_p92, List.forall_mem_cons.mpr ⟨lw_p93, List.forall_mem_cons.mpr ⟨lw_p94, List.forall_mem_cons.mpr ⟨lw_p95, fun _ h => absurd h List.not_mem_nil⟩⟩⟩⟩⟩⟩⟩⟩⟩⟩⟩⟩⟩⟩⟩⟩
theorem lw_p96 : lw_okq (⟨"StickStringsModel", "byChanges", "(IIII)J"⟩, 58) := ⟨⟨by decide +kernel, by decide +kernel⟩, List.mem_of_getElem? (i := 1250) (by decide +kernel), List.mem_of_getElem? (i := 1808) (by decide +kernel), List.mem_of_getElem? (i := 1809) (by decide +kernel)⟩
theorem lw_p97 : lw_okq (⟨"StickStringsModel", "tried", "(IIII)J"⟩, 58) := ⟨⟨by decide +kernel, by decide +kernel⟩, List.mem_of_getElem? (i := 1250) (by decide +kernel), List.mem_of_getElem? (i := 1812) (by decide +kernel), List.mem_of_getElem? (i := 1813) (by decide +kernel)⟩
theorem lw_p98 : lw_okq (⟨"StickStringsModel", "sits", "(II)V"⟩, 58) := ⟨⟨by decide +kernel, by decide +kernel⟩, List.mem_of_getElem? (i := 1250) (by decide +kernel), List.mem_of_getElem? (i := 1816) (by decide +kernel), List.mem_of_getElem? (i := 1817) (by decide +kernel)⟩
theorem lw_p99 : lw_okq (⟨"StickStringsModel", "changes", "(II)V"⟩, 58) := ⟨⟨by decide +kernel, by decide +kernel⟩, List.mem_of_getElem? (i := 1250) (by decide +kernel), List.mem_of_getElem? (i := 1820) (by decide +kernel), List.mem_of_getElem? (i := 1821) (by decide +kernel)⟩
theorem lw_p100 : lw_okq (⟨"StickStringsModel", "allOrders", "(IIII)J"⟩, 58) := ⟨⟨by decide +kernel, by decide +kernel⟩, List.mem_of_getElem? (i := 1250) (by decide +kernel), List.mem_of_getElem? (i := 1824) (by decide +kernel), List.mem_of_getElem? (i := 1825) (by decide +kernel)⟩
theorem lw_p101 : lw_okq (⟨"StickStringsModel", "nextOrder", "()Z"⟩, 58) := ⟨⟨by decide +kernel, by decide +kernel⟩, List.mem_of_getElem? (i := 1250) (by decide +kernel), List.mem_of_getElem? (i := 1828) (by decide +kernel), List.mem_of_getElem? (i := 1829) (by decide +kernel)⟩
theorem lw_p102 : lw_okq (⟨"StickStringsModel", "doubtBy", "(I)I"⟩, 58) := ⟨⟨by decide +kernel, by decide +kernel⟩, List.mem_of_getElem? (i := 1250) (by decide +kernel), List.mem_of_getElem? (i := 1847) (by decide +kernel), List.mem_of_getElem? (i := 1848) (by decide +kernel)⟩
def lw_privs_7 : List (MethodName × Nat) := [(⟨"StickStringsModel", "byChanges", "(IIII)J"⟩, 58), (⟨"StickStringsModel", "tried", "(IIII)J"⟩, 58), (⟨"StickStringsModel", "sits", "(II)V"⟩, 58), (⟨"StickStringsModel", "changes", "(II)V"⟩, 58), (⟨"StickStringsModel", "allOrders", "(IIII)J"⟩, 58), (⟨"StickStringsModel", "nextOrder", "()Z"⟩, 58), (⟨"StickStringsModel", "doubtBy", "(I)I"⟩, 58)]
theorem lw_r7 : ∀ q ∈ lw_privs_7, lw_okq q := List.forall_mem_cons.mpr ⟨lw_p96, List.forall_mem_cons.mpr ⟨lw_p97, List.forall_mem_cons.mpr ⟨lw_p98, List.forall_mem_cons.mpr ⟨lw_p99, List.forall_mem_cons.mpr ⟨lw_p100, List.forall_mem_cons.mpr ⟨lw_p101, List.forall_mem_cons.mpr ⟨lw_p102, fun _ h => absurd h List.not_mem_nil⟩⟩⟩⟩⟩⟩⟩
def lw_privs : List (MethodName × Nat) := lw_privs_1 ++ (lw_privs_2 ++ (lw_privs_3 ++ (lw_privs_4 ++ (lw_privs_5 ++ (lw_privs_6 ++ (lw_privs_7))))))
def lw_tbl : List Cond := k2_sels lw_privs ++ tables_1
theorem lw_privs_ok : ∀ q ∈ lw_privs, lw_okq q := by
  show ∀ q ∈ lw_privs_1 ++ (lw_privs_2 ++ (lw_privs_3 ++ (lw_privs_4 ++ (lw_privs_5 ++ (lw_privs_6 ++ (lw_privs_7)))))), lw_okq q
  exact List.forall_mem_append.mpr ⟨lw_r1, List.forall_mem_append.mpr ⟨lw_r2, List.forall_mem_append.mpr ⟨lw_r3, List.forall_mem_append.mpr ⟨lw_r4, List.forall_mem_append.mpr ⟨lw_r5, List.forall_mem_append.mpr ⟨lw_r6, lw_r7⟩⟩⟩⟩⟩⟩

def RX0 : String := "StickStrings$Cast"
def TX0 : u_T := fun k => match k with
  | 0 => ("StickStrings$Cast", "x", "[I", true)
  | 1 => ("StickStrings$Cast", "y", "[I", true)
  | 2 => ("StickStrings$Cast", "law", "[I", true)
  | 3 => ("StickStrings$Cast", "taken", "[I", true)
  | 4 => ("StickStrings$Cast", "sees", "[I", true)
  | 5 => ("StickStrings$Cast", "hears", "[I", true)
  | 6 => ("StickStrings$Cast", "weights", "[I", true)
  | 7 => ("StickStrings$Cast", "lead", "[I", true)
  | 8 => ("StickStrings$Cast", "stickLate", "[I", true)
  | 9 => ("StickStrings$Cast", "wrongPlayer", "I", false)
  | 10 => ("StickStrings$Cast", "wrongBeat", "I", false)
  | 11 => ("StickStrings$Cast", "wrongBy", "I", false)
  | 12 => ("StickStrings$Cast", "jitter", "I", false)
  | _ => ("StickStrings$Cast", "lastNumber", "I", false)
def tyX0 : Nat → FieldType := fun k => match k with
  | 0 => .array .int
  | 1 => .array .int
  | 2 => .array .int
  | 3 => .array .int
  | 4 => .array .int
  | 5 => .array .int
  | 6 => .array .int
  | 7 => .array .int
  | 8 => .array .int
  | 9 => .int
  | 10 => .int
  | 11 => .int
  | 12 => .int
  | _ => .int
abbrev wsX00 : List Cond := u_ws RX0 TX0 14
theorem nmX0 : ∀ a, a < 14 → ∀ b, b < 14 → a ≠ b → (TX0 a).2.1 ≠ (TX0 b).2.1 := by decide +kernel
theorem tyX0_ok : ∀ k, k < 14 → parseFieldDescriptor (TX0 k).2.2.1 = some (tyX0 k) := by decide +kernel
abbrev cX0_init : ByteArray := prog_2_method_1_code
def yX0_init : MethodName := ⟨RX0, "<init>", "()V"⟩
abbrev cX0_fill : ByteArray := prog_2_method_2_code
def yX0_fill : MethodName := ⟨RX0, "fill", "(LStickStrings$Score;LStickStrings$Stage;)V"⟩
abbrev cX0_takeAlso : ByteArray := prog_2_method_3_code
def yX0_takeAlso : MethodName := ⟨RX0, "takeAlso", "(II)V"⟩
abbrev cX0_goByLaw : ByteArray := prog_2_method_4_code
def yX0_goByLaw : MethodName := ⟨RX0, "goByLaw", "(II)V"⟩
abbrev cX0_leaveWith : ByteArray := prog_2_method_5_code
def yX0_leaveWith : MethodName := ⟨RX0, "leaveWith", "(II)V"⟩
abbrev cX0_sitBy : ByteArray := prog_2_method_6_code
def yX0_sitBy : MethodName := ⟨RX0, "sitBy", "(LStickStrings$Seating;LStickStrings$Stage;)V"⟩
abbrev cX0_weighUp : ByteArray := prog_2_method_7_code
def yX0_weighUp : MethodName := ⟨RX0, "weighUp", "(LStickStrings$Score;)V"⟩
abbrev cX0_weight : ByteArray := prog_2_method_8_code
def yX0_weight : MethodName := ⟨RX0, "weight", "(II)I"⟩
abbrev cX0_linksOf : ByteArray := prog_2_method_9_code
def yX0_linksOf : MethodName := ⟨RX0, "linksOf", "(I)I"⟩
abbrev cX0_wrongAt : ByteArray := prog_2_method_10_code
def yX0_wrongAt : MethodName := ⟨RX0, "wrongAt", "(II)I"⟩
abbrev cX0_drawLate : ByteArray := prog_2_method_11_code
def yX0_drawLate : MethodName := ⟨RX0, "drawLate", "()I"⟩
abbrev cX0_has : ByteArray := prog_2_method_12_code
def yX0_has : MethodName := ⟨RX0, "has", "(I)Z"⟩
def RX1 : String := "StickStrings$Film"
def TX1 : u_T := fun k => match k with
  | 0 => ("StickStrings$Film", "count", "I", false)
  | 1 => ("StickStrings$Film", "limit", "I", false)
  | 2 => ("StickStrings$Film", "player", "[I", true)
  | 3 => ("StickStrings$Film", "beat", "[I", true)
  | 4 => ("StickStrings$Film", "time", "[I", true)
  | 5 => ("StickStrings$Film", "strikes", "[I", true)
  | _ => ("StickStrings$Film", "struck", "[Z", true)
def tyX1 : Nat → FieldType := fun k => match k with
  | 0 => .int
  | 1 => .int
  | 2 => .array .int
  | 3 => .array .int
  | 4 => .array .int
  | 5 => .array .int
  | _ => .array .boolean
abbrev wsX10 : List Cond := u_ws RX1 TX1 7
theorem nmX1 : ∀ a, a < 7 → ∀ b, b < 7 → a ≠ b → (TX1 a).2.1 ≠ (TX1 b).2.1 := by decide +kernel
theorem tyX1_ok : ∀ k, k < 7 → parseFieldDescriptor (TX1 k).2.2.1 = some (tyX1 k) := by decide +kernel
abbrev cX1_init : ByteArray := prog_3_method_1_code
def yX1_init : MethodName := ⟨RX1, "<init>", "()V"⟩
abbrev cX1_wipe : ByteArray := prog_3_method_2_code
def yX1_wipe : MethodName := ⟨RX1, "wipe", "()V"⟩
abbrev cX1_knownCount : ByteArray := prog_3_method_3_code
def yX1_knownCount : MethodName := ⟨RX1, "knownCount", "()I"⟩
abbrev cX1_addEntry : ByteArray := prog_3_method_4_code
def yX1_addEntry : MethodName := ⟨RX1, "addEntry", "(III)I"⟩
abbrev cX1_addStrike : ByteArray := prog_3_method_5_code
def yX1_addStrike : MethodName := ⟨RX1, "addStrike", "(I)I"⟩
abbrev cX1_add : ByteArray := prog_3_method_6_code
def yX1_add : MethodName := ⟨RX1, "add", "(IIII)I"⟩
abbrev cX1_judge : ByteArray := prog_3_method_7_code
def yX1_judge : MethodName := ⟨RX1, "judge", "()V"⟩
abbrev cX1_isNear : ByteArray := prog_3_method_8_code
def yX1_isNear : MethodName := ⟨RX1, "isNear", "(LStickStrings$Play;II)Z"⟩
def RX2 : String := "StickStrings$Laws"
def TX2 : u_T := fun k => match k with
  | 0 => ("StickStrings$Laws", "count", "I", false)
  | 1 => ("StickStrings$Laws", "names", "[I", true)
  | 2 => ("StickStrings$Laws", "weights", "[I", true)
  | 3 => ("StickStrings$Laws", "habit", "[I", true)
  | _ => ("StickStrings$Laws", "ahead", "[Z", true)
def tyX2 : Nat → FieldType := fun k => match k with
  | 0 => .int
  | 1 => .array .int
  | 2 => .array .int
  | 3 => .array .int
  | _ => .array .boolean
abbrev wsX20 : List Cond := u_ws RX2 TX2 5
theorem nmX2 : ∀ a, a < 5 → ∀ b, b < 5 → a ≠ b → (TX2 a).2.1 ≠ (TX2 b).2.1 := by decide +kernel
theorem tyX2_ok : ∀ k, k < 5 → parseFieldDescriptor (TX2 k).2.2.1 = some (tyX2 k) := by decide +kernel
abbrev cX2_init : ByteArray := prog_4_method_1_code
def yX2_init : MethodName := ⟨RX2, "<init>", "()V"⟩
abbrev cX2_has : ByteArray := prog_4_method_2_code
def yX2_has : MethodName := ⟨RX2, "has", "(I)Z"⟩
abbrev cX2_weight : ByteArray := prog_4_method_3_code
def yX2_weight : MethodName := ⟨RX2, "weight", "(II)I"⟩
abbrev cX2_habitBy : ByteArray := prog_4_method_4_code
def yX2_habitBy : MethodName := ⟨RX2, "habitBy", "(I)I"⟩
abbrev cX2_isAhead : ByteArray := prog_4_method_5_code
def yX2_isAhead : MethodName := ⟨RX2, "isAhead", "(I)Z"⟩
def RX3 : String := "StickStrings$Links"
def TX3 : u_T := fun k => match k with
  | 0 => ("StickStrings$Links", "count", "I", false)
  | 1 => ("StickStrings$Links", "player", "[I", true)
  | 2 => ("StickStrings$Links", "kind", "[I", true)
  | 3 => ("StickStrings$Links", "name", "[I", true)
  | _ => ("StickStrings$Links", "place", "[I", true)
def tyX3 : Nat → FieldType := fun k => match k with
  | 0 => .int
  | 1 => .array .int
  | 2 => .array .int
  | 3 => .array .int
  | _ => .array .int
abbrev wsX30 : List Cond := u_ws RX3 TX3 5
theorem nmX3 : ∀ a, a < 5 → ∀ b, b < 5 → a ≠ b → (TX3 a).2.1 ≠ (TX3 b).2.1 := by decide +kernel
theorem tyX3_ok : ∀ k, k < 5 → parseFieldDescriptor (TX3 k).2.2.1 = some (tyX3 k) := by decide +kernel
abbrev cX3_init : ByteArray := prog_5_method_1_code
def yX3_init : MethodName := ⟨RX3, "<init>", "()V"⟩
abbrev cX3_hasRoomFor : ByteArray := prog_5_method_2_code
def yX3_hasRoomFor : MethodName := ⟨RX3, "hasRoomFor", "(II)Z"⟩
abbrev cX3_has : ByteArray := prog_5_method_3_code
def yX3_has : MethodName := ⟨RX3, "has", "(III)Z"⟩
abbrev cX3_add : ByteArray := prog_5_method_4_code
def yX3_add : MethodName := ⟨RX3, "add", "(IIII)V"⟩
def RX4 : String := "StickStrings$Parser"
def TX4 : u_T := fun k => match k with
  | 0 => ("StickStrings$Parser", "tape", "LStickStrings$Tape;", true)
  | 1 => ("StickStrings$Parser", "links", "LStickStrings$Links;", true)
  | 2 => ("StickStrings$Parser", "fault", "I", false)
  | 3 => ("StickStrings$Parser", "place", "I", false)
  | 4 => ("StickStrings$Parser", "lines", "I", false)
  | 5 => ("StickStrings$Parser", "number", "I", false)
  | 6 => ("StickStrings$Parser", "name", "I", false)
  | _ => ("StickStrings$Parser", "daresTold", "Z", false)
def tyX4 : Nat → FieldType := fun k => match k with
  | 0 => .object "StickStrings$Tape"
  | 1 => .object "StickStrings$Links"
  | 2 => .int
  | 3 => .int
  | 4 => .int
  | 5 => .int
  | 6 => .int
  | _ => .boolean
abbrev wsX40 : List Cond := u_ws RX4 TX4 8
theorem nmX4 : ∀ a, a < 8 → ∀ b, b < 8 → a ≠ b → (TX4 a).2.1 ≠ (TX4 b).2.1 := by decide +kernel
theorem tyX4_ok : ∀ k, k < 8 → parseFieldDescriptor (TX4 k).2.2.1 = some (tyX4 k) := by decide +kernel
abbrev cX4_init : ByteArray := prog_6_method_1_code
def yX4_init : MethodName := ⟨RX4, "<init>", "()V"⟩
abbrev cX4_parse : ByteArray := prog_6_method_2_code
def yX4_parse : MethodName := ⟨RX4, "parse", "(ILStickStrings$Score;)Z"⟩
abbrev cX4_start : ByteArray := prog_6_method_3_code
def yX4_start : MethodName := ⟨RX4, "start", "(ILStickStrings$Score;)V"⟩
abbrev cX4_readStick : ByteArray := prog_6_method_4_code
def yX4_readStick : MethodName := ⟨RX4, "readStick", "(LStickStrings$Score;)Z"⟩
abbrev cX4_readBeat : ByteArray := prog_6_method_5_code
def yX4_readBeat : MethodName := ⟨RX4, "readBeat", "(LStickStrings$Score;)Z"⟩
abbrev cX4_readPause : ByteArray := prog_6_method_6_code
def yX4_readPause : MethodName := ⟨RX4, "readPause", "(LStickStrings$Score;)Z"⟩
abbrev cX4_readLaw : ByteArray := prog_6_method_7_code
def yX4_readLaw : MethodName := ⟨RX4, "readLaw", "(LStickStrings$Laws;)Z"⟩
abbrev cX4_readPlayer : ByteArray := prog_6_method_8_code
def yX4_readPlayer : MethodName := ⟨RX4, "readPlayer", "(LStickStrings$Score;)Z"⟩
abbrev cX4_readHabits : ByteArray := prog_6_method_9_code
def yX4_readHabits : MethodName := ⟨RX4, "readHabits", "(LStickStrings$Players;)Z"⟩
abbrev cX4_readDares : ByteArray := prog_6_method_10_code
def yX4_readDares : MethodName := ⟨RX4, "readDares", "(ILStickStrings$Players;)Z"⟩
abbrev cX4_readLink : ByteArray := prog_6_method_11_code
def yX4_readLink : MethodName := ⟨RX4, "readLink", "(I)Z"⟩
abbrev cX4_readWrong : ByteArray := prog_6_method_12_code
def yX4_readWrong : MethodName := ⟨RX4, "readWrong", "(LStickStrings$Score;)Z"⟩
abbrev cX4_readNewName : ByteArray := prog_6_method_13_code
def yX4_readNewName : MethodName := ⟨RX4, "readNewName", "([II)Z"⟩
abbrev cX4_readToldName : ByteArray := prog_6_method_14_code
def yX4_readToldName : MethodName := ⟨RX4, "readToldName", "([II)Z"⟩
abbrev cX4_readNumber : ByteArray := prog_6_method_15_code
def yX4_readNumber : MethodName := ⟨RX4, "readNumber", "(II)Z"⟩
abbrev cX4_readEnd : ByteArray := prog_6_method_16_code
def yX4_readEnd : MethodName := ⟨RX4, "readEnd", "()Z"⟩
abbrev cX4_fail : ByteArray := prog_6_method_17_code
def yX4_fail : MethodName := ⟨RX4, "fail", "(I)Z"⟩
abbrev cX4_failAt : ByteArray := prog_6_method_18_code
def yX4_failAt : MethodName := ⟨RX4, "failAt", "(II)Z"⟩
abbrev cX4_resolveLinks : ByteArray := prog_6_method_19_code
def yX4_resolveLinks : MethodName := ⟨RX4, "resolveLinks", "(LStickStrings$Players;)Z"⟩
def RX5 : String := "StickStrings$Play"
def TX5 : u_T := fun k => match k with
  | 0 => ("StickStrings$Play", "times", "[I", true)
  | 1 => ("StickStrings$Play", "ways", "[I", true)
  | 2 => ("StickStrings$Play", "nothing", "[I", true)
  | 3 => ("StickStrings$Play", "late", "[I", true)
  | 4 => ("StickStrings$Play", "said", "J", false)
  | _ => ("StickStrings$Play", "weighed", "J", false)
def tyX5 : Nat → FieldType := fun k => match k with
  | 0 => .array .int
  | 1 => .array .int
  | 2 => .array .int
  | 3 => .array .int
  | 4 => .long
  | _ => .long
abbrev wsX50 : List Cond := u_ws RX5 TX5 6
theorem nmX5 : ∀ a, a < 6 → ∀ b, b < 6 → a ≠ b → (TX5 a).2.1 ≠ (TX5 b).2.1 := by decide +kernel
theorem tyX5_ok : ∀ k, k < 6 → parseFieldDescriptor (TX5 k).2.2.1 = some (tyX5 k) := by decide +kernel
abbrev cX5_init : ByteArray := prog_7_method_1_code
def yX5_init : MethodName := ⟨RX5, "<init>", "()V"⟩
abbrev cX5_run : ByteArray := prog_7_method_2_code
def yX5_run : MethodName := ⟨RX5, "run", "(LStickStrings$Score;LStickStrings$Cast;)V"⟩
abbrev cX5_measureWays : ByteArray := prog_7_method_3_code
def yX5_measureWays : MethodName := ⟨RX5, "measureWays", "(LStickStrings$Cast;)V"⟩
abbrev cX5_weigh : ByteArray := prog_7_method_4_code
def yX5_weigh : MethodName := ⟨RX5, "weigh", "(LStickStrings$Score;LStickStrings$Cast;IIJ)J"⟩
abbrev cX5_say : ByteArray := prog_7_method_5_code
def yX5_say : MethodName := ⟨RX5, "say", "(IJ)V"⟩
abbrev cX5_paceAt : ByteArray := prog_7_method_6_code
def yX5_paceAt : MethodName := ⟨RX5, "paceAt", "(LStickStrings$Score;II)J"⟩
abbrev cX5_at : ByteArray := prog_7_method_7_code
def yX5_at : MethodName := ⟨RX5, "at", "(II)I"⟩
abbrev cX5_spreadAt : ByteArray := prog_7_method_8_code
def yX5_spreadAt : MethodName := ⟨RX5, "spreadAt", "(LStickStrings$Score;I)I"⟩
abbrev cX5_widthAt : ByteArray := prog_7_method_9_code
def yX5_widthAt : MethodName := ⟨RX5, "widthAt", "(LStickStrings$Score;I[I)I"⟩
abbrev cX5_lagAt : ByteArray := prog_7_method_10_code
def yX5_lagAt : MethodName := ⟨RX5, "lagAt", "(LStickStrings$Score;I)I"⟩
abbrev cX5_verdictBy : ByteArray := prog_7_method_11_code
def yX5_verdictBy : MethodName := ⟨RX5, "verdictBy", "(LStickStrings$Score;I)I"⟩
abbrev cX5_hearFrom : ByteArray := prog_7_method_12_code
def yX5_hearFrom : MethodName := ⟨RX5, "hearFrom", "(LStickStrings$Players;LStickStrings$Cast;II)V"⟩
abbrev cX5_togetherIn : ByteArray := prog_7_method_13_code
def yX5_togetherIn : MethodName := ⟨RX5, "togetherIn", "(LStickStrings$Score;LStickStrings$Cast;IIII)J"⟩
def RX6 : String := "StickStrings$Players"
def TX6 : u_T := fun k => match k with
  | 0 => ("StickStrings$Players", "count", "I", false)
  | 1 => ("StickStrings$Players", "names", "[I", true)
  | 2 => ("StickStrings$Players", "law", "[I", true)
  | 3 => ("StickStrings$Players", "x", "[I", true)
  | 4 => ("StickStrings$Players", "y", "[I", true)
  | 5 => ("StickStrings$Players", "speak", "[I", true)
  | 6 => ("StickStrings$Players", "dares", "[I", true)
  | 7 => ("StickStrings$Players", "sees", "[I", true)
  | _ => ("StickStrings$Players", "hears", "[I", true)
def tyX6 : Nat → FieldType := fun k => match k with
  | 0 => .int
  | 1 => .array .int
  | 2 => .array .int
  | 3 => .array .int
  | 4 => .array .int
  | 5 => .array .int
  | 6 => .array .int
  | 7 => .array .int
  | _ => .array .int
abbrev wsX60 : List Cond := u_ws RX6 TX6 9
theorem nmX6 : ∀ a, a < 9 → ∀ b, b < 9 → a ≠ b → (TX6 a).2.1 ≠ (TX6 b).2.1 := by decide +kernel
theorem tyX6_ok : ∀ k, k < 9 → parseFieldDescriptor (TX6 k).2.2.1 = some (tyX6 k) := by decide +kernel
abbrev cX6_init : ByteArray := prog_8_method_1_code
def yX6_init : MethodName := ⟨RX6, "<init>", "()V"⟩
abbrev cX6_add : ByteArray := prog_8_method_2_code
def yX6_add : MethodName := ⟨RX6, "add", "(I)V"⟩
abbrev cX6_dare : ByteArray := prog_8_method_3_code
def yX6_dare : MethodName := ⟨RX6, "dare", "(II)V"⟩
abbrev cX6_link : ByteArray := prog_8_method_4_code
def yX6_link : MethodName := ⟨RX6, "link", "(IZI)V"⟩
def RX7 : String := "StickStrings$Score"
def TX7 : u_T := fun k => match k with
  | 0 => ("StickStrings$Score", "laws", "LStickStrings$Laws;", true)
  | 1 => ("StickStrings$Score", "players", "LStickStrings$Players;", true)
  | 2 => ("StickStrings$Score", "stickTold", "Z", false)
  | 3 => ("StickStrings$Score", "stickX", "I", false)
  | 4 => ("StickStrings$Score", "stickY", "I", false)
  | 5 => ("StickStrings$Score", "beats", "I", false)
  | 6 => ("StickStrings$Score", "begins", "[I", true)
  | 7 => ("StickStrings$Score", "wrongs", "I", false)
  | 8 => ("StickStrings$Score", "wrongPlayer", "[I", true)
  | 9 => ("StickStrings$Score", "wrongBeat", "[I", true)
  | _ => ("StickStrings$Score", "wrongBy", "[I", true)
def tyX7 : Nat → FieldType := fun k => match k with
  | 0 => .object "StickStrings$Laws"
  | 1 => .object "StickStrings$Players"
  | 2 => .boolean
  | 3 => .int
  | 4 => .int
  | 5 => .int
  | 6 => .array .int
  | 7 => .int
  | 8 => .array .int
  | 9 => .array .int
  | _ => .array .int
abbrev wsX70 : List Cond := u_ws RX7 TX7 11
theorem nmX7 : ∀ a, a < 11 → ∀ b, b < 11 → a ≠ b → (TX7 a).2.1 ≠ (TX7 b).2.1 := by decide +kernel
theorem tyX7_ok : ∀ k, k < 11 → parseFieldDescriptor (TX7 k).2.2.1 = some (tyX7 k) := by decide +kernel
abbrev cX7_init : ByteArray := prog_9_method_1_code
def yX7_init : MethodName := ⟨RX7, "<init>", "()V"⟩
abbrev cX7_wipe : ByteArray := prog_9_method_2_code
def yX7_wipe : MethodName := ⟨RX7, "wipe", "()V"⟩
abbrev cX7_addBeats : ByteArray := prog_9_method_3_code
def yX7_addBeats : MethodName := ⟨RX7, "addBeats", "(II)V"⟩
abbrev cX7_lengthen : ByteArray := prog_9_method_4_code
def yX7_lengthen : MethodName := ⟨RX7, "lengthen", "(I)V"⟩
abbrev cX7_addWrong : ByteArray := prog_9_method_5_code
def yX7_addWrong : MethodName := ⟨RX7, "addWrong", "(III)V"⟩
abbrev cX7_wrongAt : ByteArray := prog_9_method_6_code
def yX7_wrongAt : MethodName := ⟨RX7, "wrongAt", "(II)I"⟩
def RX8 : String := "StickStrings$Seating"
def TX8 : u_T := fun k => match k with
  | 0 => ("StickStrings$Seating", "count", "I", false)
  | 1 => ("StickStrings$Seating", "now", "[I", true)
  | 2 => ("StickStrings$Seating", "best", "[I", true)
  | _ => ("StickStrings$Seating", "least", "J", false)
def tyX8 : Nat → FieldType := fun k => match k with
  | 0 => .int
  | 1 => .array .int
  | 2 => .array .int
  | _ => .long
abbrev wsX80 : List Cond := u_ws RX8 TX8 4
theorem nmX8 : ∀ a, a < 4 → ∀ b, b < 4 → a ≠ b → (TX8 a).2.1 ≠ (TX8 b).2.1 := by decide +kernel
theorem tyX8_ok : ∀ k, k < 4 → parseFieldDescriptor (TX8 k).2.2.1 = some (tyX8 k) := by decide +kernel
abbrev cX8_init : ByteArray := prog_10_method_1_code
def yX8_init : MethodName := ⟨RX8, "<init>", "()V"⟩
abbrev cX8_settle : ByteArray := prog_10_method_2_code
def yX8_settle : MethodName := ⟨RX8, "settle", "(I)V"⟩
abbrev cX8_keepIfLess : ByteArray := prog_10_method_3_code
def yX8_keepIfLess : MethodName := ⟨RX8, "keepIfLess", "(J)V"⟩
abbrev cX8_placeOf : ByteArray := prog_10_method_4_code
def yX8_placeOf : MethodName := ⟨RX8, "placeOf", "(I)I"⟩
abbrev cX8_goOnFromBest : ByteArray := prog_10_method_5_code
def yX8_goOnFromBest : MethodName := ⟨RX8, "goOnFromBest", "()V"⟩
abbrev cX8_change : ByteArray := prog_10_method_6_code
def yX8_change : MethodName := ⟨RX8, "change", "(II)V"⟩
abbrev cX8_stepToNextWay : ByteArray := prog_10_method_7_code
def yX8_stepToNextWay : MethodName := ⟨RX8, "stepToNextWay", "()Z"⟩
def RX9 : String := "StickStrings$Stage"
def TX9 : u_T := fun k => match k with
  | 0 => ("StickStrings$Stage", "x", "[I", true)
  | 1 => ("StickStrings$Stage", "y", "[I", true)
  | 2 => ("StickStrings$Stage", "taken", "[I", true)
  | 3 => ("StickStrings$Stage", "kept", "I", false)
  | 4 => ("StickStrings$Stage", "top", "I", false)
  | 5 => ("StickStrings$Stage", "oldPlayer", "[I", true)
  | 6 => ("StickStrings$Stage", "oldX", "[I", true)
  | 7 => ("StickStrings$Stage", "oldY", "[I", true)
  | _ => ("StickStrings$Stage", "oldTaken", "[I", true)
def tyX9 : Nat → FieldType := fun k => match k with
  | 0 => .array .int
  | 1 => .array .int
  | 2 => .array .int
  | 3 => .int
  | 4 => .int
  | 5 => .array .int
  | 6 => .array .int
  | 7 => .array .int
  | _ => .array .int
abbrev wsX90 : List Cond := u_ws RX9 TX9 9
theorem nmX9 : ∀ a, a < 9 → ∀ b, b < 9 → a ≠ b → (TX9 a).2.1 ≠ (TX9 b).2.1 := by decide +kernel
theorem tyX9_ok : ∀ k, k < 9 → parseFieldDescriptor (TX9 k).2.2.1 = some (tyX9 k) := by decide +kernel
abbrev cX9_init : ByteArray := prog_11_method_1_code
def yX9_init : MethodName := ⟨RX9, "<init>", "()V"⟩
abbrev cX9_settle : ByteArray := prog_11_method_2_code
def yX9_settle : MethodName := ⟨RX9, "settle", "(LStickStrings$Players;)V"⟩
abbrev cX9_takenFrom : ByteArray := prog_11_method_3_code
def yX9_takenFrom : MethodName := ⟨RX9, "takenFrom", "(I)I"⟩
abbrev cX9_remember : ByteArray := prog_11_method_4_code
def yX9_remember : MethodName := ⟨RX9, "remember", "(I)V"⟩
abbrev cX9_goBack : ByteArray := prog_11_method_5_code
def yX9_goBack : MethodName := ⟨RX9, "goBack", "()Z"⟩
def RX10 : String := "StickStrings$Tape"
def TX10 : u_T := fun k => match k with
  | 0 => ("StickStrings$Tape", "bytes", "[I", true)
  | 1 => ("StickStrings$Tape", "words", "[I", true)
  | 2 => ("StickStrings$Tape", "count", "I", false)
  | 3 => ("StickStrings$Tape", "length", "I", false)
  | 4 => ("StickStrings$Tape", "next", "I", false)
  | 5 => ("StickStrings$Tape", "kind", "I", false)
  | 6 => ("StickStrings$Tape", "place", "I", false)
  | _ => ("StickStrings$Tape", "value", "I", false)
def tyX10 : Nat → FieldType := fun k => match k with
  | 0 => .array .int
  | 1 => .array .int
  | 2 => .int
  | 3 => .int
  | 4 => .int
  | 5 => .int
  | 6 => .int
  | _ => .int
abbrev wsX100 : List Cond := u_ws RX10 TX10 8
theorem nmX10 : ∀ a, a < 8 → ∀ b, b < 8 → a ≠ b → (TX10 a).2.1 ≠ (TX10 b).2.1 := by decide +kernel
theorem tyX10_ok : ∀ k, k < 8 → parseFieldDescriptor (TX10 k).2.2.1 = some (tyX10 k) := by decide +kernel
abbrev cX10_init : ByteArray := prog_12_method_1_code
def yX10_init : MethodName := ⟨RX10, "<init>", "()V"⟩
abbrev cX10_hasRoom : ByteArray := prog_12_method_2_code
def yX10_hasRoom : MethodName := ⟨RX10, "hasRoom", "(I)Z"⟩
abbrev cX10_append : ByteArray := prog_12_method_3_code
def yX10_append : MethodName := ⟨RX10, "append", "(I)V"⟩
abbrev cX10_open : ByteArray := prog_12_method_4_code
def yX10_open : MethodName := ⟨RX10, "open", "(I)V"⟩
abbrev cX10_step : ByteArray := prog_12_method_5_code
def yX10_step : MethodName := ⟨RX10, "step", "()V"⟩
abbrev cX10_stepOverLetters : ByteArray := prog_12_method_6_code
def yX10_stepOverLetters : MethodName := ⟨RX10, "stepOverLetters", "()I"⟩
abbrev cX10_stepOverDigits : ByteArray := prog_12_method_7_code
def yX10_stepOverDigits : MethodName := ⟨RX10, "stepOverDigits", "()I"⟩
def RX11 : String := "StickStrings"
def TX11 : u_T := fun k => match k with
  | 0 => ("StickStrings", "parser", "LStickStrings$Parser;", true)
  | 1 => ("StickStrings", "score", "LStickStrings$Score;", false)
  | 2 => ("StickStrings", "spare", "LStickStrings$Score;", false)
  | 3 => ("StickStrings", "stage", "LStickStrings$Stage;", true)
  | 4 => ("StickStrings", "notes", "LStickStrings$Film;", true)
  | 5 => ("StickStrings", "cast", "LStickStrings$Cast;", true)
  | 6 => ("StickStrings", "play", "LStickStrings$Play;", true)
  | 7 => ("StickStrings", "without", "LStickStrings$Play;", true)
  | 8 => ("StickStrings", "seating", "LStickStrings$Seating;", true)
  | _ => ("StickStrings", "lawEntries", "[I", true)
def tyX11 : Nat → FieldType := fun k => match k with
  | 0 => .object "StickStrings$Parser"
  | 1 => .object "StickStrings$Score"
  | 2 => .object "StickStrings$Score"
  | 3 => .object "StickStrings$Stage"
  | 4 => .object "StickStrings$Film"
  | 5 => .object "StickStrings$Cast"
  | 6 => .object "StickStrings$Play"
  | 7 => .object "StickStrings$Play"
  | 8 => .object "StickStrings$Seating"
  | _ => .array .int
abbrev wsX110 : List Cond := u_ws RX11 TX11 10
theorem nmX11 : ∀ a, a < 10 → ∀ b, b < 10 → a ≠ b → (TX11 a).2.1 ≠ (TX11 b).2.1 := by decide +kernel
theorem tyX11_ok : ∀ k, k < 10 → parseFieldDescriptor (TX11 k).2.2.1 = some (tyX11 k) := by decide +kernel
abbrev cX11_init : ByteArray := prog_1_method_1_code
def yX11_init : MethodName := ⟨RX11, "<init>", "()V"⟩
abbrev cX11_feed : ByteArray := prog_1_method_2_code
def yX11_feed : MethodName := ⟨RX11, "feed", "(IIIII)I"⟩
abbrev cX11_text : ByteArray := prog_1_method_3_code
def yX11_text : MethodName := ⟨RX11, "text", "(I)I"⟩
abbrev cX11_fault : ByteArray := prog_1_method_4_code
def yX11_fault : MethodName := ⟨RX11, "fault", "(I)I"⟩
abbrev cX11_named : ByteArray := prog_1_method_5_code
def yX11_named : MethodName := ⟨RX11, "named", "(II)I"⟩
abbrev cX11_look : ByteArray := prog_1_method_6_code
def yX11_look : MethodName := ⟨RX11, "look", "(II)I"⟩
abbrev cX11_law : ByteArray := prog_1_method_7_code
def yX11_law : MethodName := ⟨RX11, "law", "(II)I"⟩
abbrev cX11_count : ByteArray := prog_1_method_8_code
def yX11_count : MethodName := ⟨RX11, "count", "(I)I"⟩
abbrev cX11_begin : ByteArray := prog_1_method_9_code
def yX11_begin : MethodName := ⟨RX11, "begin", "(I)I"⟩
abbrev cX11_way : ByteArray := prog_1_method_10_code
def yX11_way : MethodName := ⟨RX11, "way", "(II)I"⟩
abbrev cX11_entry : ByteArray := prog_1_method_11_code
def yX11_entry : MethodName := ⟨RX11, "entry", "(II)I"⟩
abbrev cX11_spread : ByteArray := prog_1_method_12_code
def yX11_spread : MethodName := ⟨RX11, "spread", "(I)I"⟩
abbrev cX11_lag : ByteArray := prog_1_method_13_code
def yX11_lag : MethodName := ⟨RX11, "lag", "(I)I"⟩
abbrev cX11_verdict : ByteArray := prog_1_method_14_code
def yX11_verdict : MethodName := ⟨RX11, "verdict", "(I)I"⟩
abbrev cX11_guilty : ByteArray := prog_1_method_15_code
def yX11_guilty : MethodName := ⟨RX11, "guilty", "(II)I"⟩
abbrev cX11_holdsWithout : ByteArray := prog_1_method_16_code
def yX11_holdsWithout : MethodName := ⟨RX11, "holdsWithout", "(III)Z"⟩
abbrev cX11_playAsItIs : ByteArray := prog_1_method_17_code
def yX11_playAsItIs : MethodName := ⟨RX11, "playAsItIs", "()V"⟩
abbrev cX11_take : ByteArray := prog_1_method_18_code
def yX11_take : MethodName := ⟨RX11, "take", "(II)Z"⟩
abbrev cX11_seat : ByteArray := prog_1_method_19_code
def yX11_seat : MethodName := ⟨RX11, "seat", "(III)Z"⟩
abbrev cX11_undo : ByteArray := prog_1_method_20_code
def yX11_undo : MethodName := ⟨RX11, "undo", "()I"⟩
abbrev cX11_sound : ByteArray := prog_1_method_21_code
def yX11_sound : MethodName := ⟨RX11, "sound", "(IIII)I"⟩
abbrev cX11_together : ByteArray := prog_1_method_22_code
def yX11_together : MethodName := ⟨RX11, "together", "(IIII)J"⟩
abbrev cX11_where : ByteArray := prog_1_method_23_code
def yX11_where : MethodName := ⟨RX11, "where", "(III)J"⟩
abbrev cX11_shift : ByteArray := prog_1_method_24_code
def yX11_shift : MethodName := ⟨RX11, "shift", "(III)I"⟩
abbrev cX11_order : ByteArray := prog_1_method_25_code
def yX11_order : MethodName := ⟨RX11, "order", "(IIIII)J"⟩
abbrev cX11_tryAllWays : ByteArray := prog_1_method_26_code
def yX11_tryAllWays : MethodName := ⟨RX11, "tryAllWays", "(IIII)V"⟩
abbrev cX11_tryChanges : ByteArray := prog_1_method_27_code
def yX11_tryChanges : MethodName := ⟨RX11, "tryChanges", "(IIII)V"⟩
abbrev cX11_togetherSeated : ByteArray := prog_1_method_28_code
def yX11_togetherSeated : MethodName := ⟨RX11, "togetherSeated", "(IIII)J"⟩
abbrev cX11_moved : ByteArray := prog_1_method_29_code
def yX11_moved : MethodName := ⟨RX11, "moved", "(IIIII)I"⟩
abbrev cX11_far : ByteArray := prog_1_method_30_code
def yX11_far : MethodName := ⟨RX11, "far", "(IIII)I"⟩
abbrev cX11_ends : ByteArray := prog_1_method_31_code
def yX11_ends : MethodName := ⟨RX11, "ends", "(III)I"⟩
abbrev cX11_goes : ByteArray := prog_1_method_32_code
def yX11_goes : MethodName := ⟨RX11, "goes", "(IIIII)I"⟩
abbrev cX11_playWrong : ByteArray := prog_1_method_33_code
def yX11_playWrong : MethodName := ⟨RX11, "playWrong", "(III)V"⟩
abbrev cX11_movedAt : ByteArray := prog_1_method_34_code
def yX11_movedAt : MethodName := ⟨RX11, "movedAt", "(II)I"⟩
abbrev cX11_farAt : ByteArray := prog_1_method_35_code
def yX11_farAt : MethodName := ⟨RX11, "farAt", "(I)I"⟩
abbrev cX11_by : ByteArray := prog_1_method_36_code
def yX11_by : MethodName := ⟨RX11, "by", "(I)I"⟩
abbrev cX11_film : ByteArray := prog_1_method_37_code
def yX11_film : MethodName := ⟨RX11, "film", "(III)I"⟩
abbrev cX11_strike : ByteArray := prog_1_method_38_code
def yX11_strike : MethodName := ⟨RX11, "strike", "(I)I"⟩
abbrev cX11_known : ByteArray := prog_1_method_39_code
def yX11_known : MethodName := ⟨RX11, "known", "(I)Z"⟩
abbrev cX11_fits : ByteArray := prog_1_method_40_code
def yX11_fits : MethodName := ⟨RX11, "fits", "(II)I"⟩
abbrev cX11_next : ByteArray := prog_1_method_41_code
def yX11_next : MethodName := ⟨RX11, "next", "(III)I"⟩
abbrev cX11_lawsThatFit : ByteArray := prog_1_method_42_code
def yX11_lawsThatFit : MethodName := ⟨RX11, "lawsThatFit", "(II)I"⟩
abbrev cX11_playWithLaw : ByteArray := prog_1_method_43_code
def yX11_playWithLaw : MethodName := ⟨RX11, "playWithLaw", "(III)V"⟩
abbrev cX11_greatestGroup : ByteArray := prog_1_method_44_code
def yX11_greatestGroup : MethodName := ⟨RX11, "greatestGroup", "(III)I"⟩
abbrev cX11_keepEntries : ByteArray := prog_1_method_45_code
def yX11_keepEntries : MethodName := ⟨RX11, "keepEntries", "(II)V"⟩
abbrev cX11_countAlike : ByteArray := prog_1_method_46_code
def yX11_countAlike : MethodName := ⟨RX11, "countAlike", "(II)I"⟩
abbrev cX11_areAlike : ByteArray := prog_1_method_47_code
def yX11_areAlike : MethodName := ⟨RX11, "areAlike", "(II)Z"⟩
abbrev cX11_pause : ByteArray := prog_1_method_48_code
def yX11_pause : MethodName := ⟨RX11, "pause", "(II)I"⟩
abbrev cX11_greatestDivisor : ByteArray := prog_1_method_49_code
def yX11_greatestDivisor : MethodName := ⟨RX11, "greatestDivisor", "(II)I"⟩
abbrev cX11_two : ByteArray := prog_1_method_50_code
def yX11_two : MethodName := ⟨RX11, "two", "(III)I"⟩
abbrev cX11_clear : ByteArray := prog_1_method_51_code
def yX11_clear : MethodName := ⟨RX11, "clear", "(I)I"⟩
abbrev cX11_habitOf : ByteArray := prog_1_method_52_code
def yX11_habitOf : MethodName := ⟨RX11, "habitOf", "(I)I"⟩
abbrev cX11_doubtAt : ByteArray := prog_1_method_53_code
def yX11_doubtAt : MethodName := ⟨RX11, "doubtAt", "(I)I"⟩
abbrev cX11_draws : ByteArray := prog_1_method_54_code
def yX11_draws : MethodName := ⟨RX11, "draws", "(IIII)I"⟩
abbrev cX11_isPlayer : ByteArray := prog_1_method_55_code
def yX11_isPlayer : MethodName := ⟨RX11, "isPlayer", "(I)Z"⟩
abbrev cX11_isBeat : ByteArray := prog_1_method_56_code
def yX11_isBeat : MethodName := ⟨RX11, "isBeat", "(I)Z"⟩
abbrev cX11_isSpan : ByteArray := prog_1_method_57_code
def yX11_isSpan : MethodName := ⟨RX11, "isSpan", "(II)Z"⟩
abbrev cX11_isWrong : ByteArray := prog_1_method_58_code
def yX11_isWrong : MethodName := ⟨RX11, "isWrong", "(III)Z"⟩
abbrev cX11_isSeat : ByteArray := prog_1_method_59_code
def yX11_isSeat : MethodName := ⟨RX11, "isSeat", "(II)Z"⟩
abbrev cX11_isOff : ByteArray := prog_1_method_60_code
def yX11_isOff : MethodName := ⟨RX11, "isOff", "(I)Z"⟩
abbrev cX11_within : ByteArray := prog_1_method_61_code
def yX11_within : MethodName := ⟨RX11, "within", "(III)Z"⟩
abbrev cX11_find : ByteArray := prog_1_method_62_code
def yX11_find : MethodName := ⟨RX11, "find", "([III)I"⟩
abbrev cX11_wayBetween : ByteArray := prog_1_method_63_code
def yX11_wayBetween : MethodName := ⟨RX11, "wayBetween", "(II)I"⟩
def RX12 : String := "StickStringsModel"
def TX12 : u_T := fun k => match k with
  | 0 => ("StickStringsModel", "tape", "[I", true)
  | 1 => ("StickStringsModel", "tapeSize", "I", false)
  | 2 => ("StickStringsModel", "thrown", "I", false)
  | 3 => ("StickStringsModel", "words", "[I", true)
  | 4 => ("StickStringsModel", "fault", "I", false)
  | 5 => ("StickStringsModel", "faultPlace", "I", false)
  | 6 => ("StickStringsModel", "stop", "I", false)
  | 7 => ("StickStringsModel", "next", "I", false)
  | 8 => ("StickStringsModel", "kind", "I", false)
  | 9 => ("StickStringsModel", "which", "I", false)
  | 10 => ("StickStringsModel", "at", "I", false)
  | 11 => ("StickStringsModel", "got", "I", false)
  | 12 => ("StickStringsModel", "beats", "I", false)
  | 13 => ("StickStringsModel", "laws", "I", false)
  | 14 => ("StickStringsModel", "players", "I", false)
  | 15 => ("StickStringsModel", "wrongs", "I", false)
  | 16 => ("StickStringsModel", "stickX", "I", false)
  | 17 => ("StickStringsModel", "stickY", "I", false)
  | 18 => ("StickStringsModel", "beatsRead", "I", false)
  | 19 => ("StickStringsModel", "lawsRead", "I", false)
  | 20 => ("StickStringsModel", "playersRead", "I", false)
  | 21 => ("StickStringsModel", "wrongsRead", "I", false)
  | 22 => ("StickStringsModel", "stickXRead", "I", false)
  | 23 => ("StickStringsModel", "stickYRead", "I", false)
  | 24 => ("StickStringsModel", "stickTold", "Z", false)
  | 25 => ("StickStringsModel", "beatLong", "[I", true)
  | 26 => ("StickStringsModel", "lawName", "[I", true)
  | 27 => ("StickStringsModel", "lawHas", "[I", true)
  | 28 => ("StickStringsModel", "playerName", "[I", true)
  | 29 => ("StickStringsModel", "playerHas", "[I", true)
  | 30 => ("StickStringsModel", "sees", "[I", true)
  | 31 => ("StickStringsModel", "hears", "[I", true)
  | 32 => ("StickStringsModel", "wrongHas", "[I", true)
  | 33 => ("StickStringsModel", "namedOnes", "[I", true)
  | 34 => ("StickStringsModel", "namedAt", "[I", true)
  | 35 => ("StickStringsModel", "seesMany", "[I", true)
  | 36 => ("StickStringsModel", "hearsMany", "[I", true)
  | 37 => ("StickStringsModel", "taken", "[I", true)
  | 38 => ("StickStringsModel", "entries", "[I", true)
  | 39 => ("StickStringsModel", "aloneOne", "I", false)
  | 40 => ("StickStringsModel", "aloneOther", "I", false)
  | 41 => ("StickStringsModel", "sway", "I", false)
  | 42 => ("StickStringsModel", "swayed", "J", false)
  | 43 => ("StickStringsModel", "undos", "I", false)
  | 44 => ("StickStringsModel", "undo", "[I", true)
  | 45 => ("StickStringsModel", "late", "[I", true)
  | 46 => ("StickStringsModel", "without", "[I", true)
  | 47 => ("StickStringsModel", "notes", "I", false)
  | 48 => ("StickStringsModel", "seenBy", "I", false)
  | 49 => ("StickStringsModel", "noteWho", "[I", true)
  | 50 => ("StickStringsModel", "noteAt", "[I", true)
  | 51 => ("StickStringsModel", "noteTime", "[I", true)
  | 52 => ("StickStringsModel", "counts", "[Z", true)
  | 53 => ("StickStringsModel", "wakes", "[I", true)
  | 54 => ("StickStringsModel", "ownX", "[I", true)
  | 55 => ("StickStringsModel", "ownY", "[I", true)
  | 56 => ("StickStringsModel", "whose", "[I", true)
  | _ => ("StickStringsModel", "bestWhose", "[I", true)
def tyX12 : Nat → FieldType := fun k => match k with
  | 0 => .array .int
  | 1 => .int
  | 2 => .int
  | 3 => .array .int
  | 4 => .int
  | 5 => .int
  | 6 => .int
  | 7 => .int
  | 8 => .int
  | 9 => .int
  | 10 => .int
  | 11 => .int
  | 12 => .int
  | 13 => .int
  | 14 => .int
  | 15 => .int
  | 16 => .int
  | 17 => .int
  | 18 => .int
  | 19 => .int
  | 20 => .int
  | 21 => .int
  | 22 => .int
  | 23 => .int
  | 24 => .boolean
  | 25 => .array .int
  | 26 => .array .int
  | 27 => .array .int
  | 28 => .array .int
  | 29 => .array .int
  | 30 => .array .int
  | 31 => .array .int
  | 32 => .array .int
  | 33 => .array .int
  | 34 => .array .int
  | 35 => .array .int
  | 36 => .array .int
  | 37 => .array .int
  | 38 => .array .int
  | 39 => .int
  | 40 => .int
  | 41 => .int
  | 42 => .long
  | 43 => .int
  | 44 => .array .int
  | 45 => .array .int
  | 46 => .array .int
  | 47 => .int
  | 48 => .int
  | 49 => .array .int
  | 50 => .array .int
  | 51 => .array .int
  | 52 => .array .boolean
  | 53 => .array .int
  | 54 => .array .int
  | 55 => .array .int
  | 56 => .array .int
  | _ => .array .int
abbrev wsX120 : List Cond := u_ws RX12 TX12 58
theorem nmX12 : ∀ a, a < 58 → ∀ b, b < 58 → a ≠ b → (TX12 a).2.1 ≠ (TX12 b).2.1 := by decide +kernel
theorem tyX12_ok : ∀ k, k < 58 → parseFieldDescriptor (TX12 k).2.2.1 = some (tyX12 k) := by decide +kernel
abbrev cX12_init : ByteArray := prog_14_method_1_code
def yX12_init : MethodName := ⟨RX12, "<init>", "()V"⟩
abbrev cX12_thrown : ByteArray := prog_14_method_2_code
def yX12_thrown : MethodName := ⟨RX12, "thrown", "()I"⟩
abbrev cX12_feed : ByteArray := prog_14_method_3_code
def yX12_feed : MethodName := ⟨RX12, "feed", "(IIIII)I"⟩
abbrev cX12_isIn : ByteArray := prog_14_method_4_code
def yX12_isIn : MethodName := ⟨RX12, "isIn", "(III)Z"⟩
abbrev cX12_isOf : ByteArray := prog_14_method_5_code
def yX12_isOf : MethodName := ⟨RX12, "isOf", "(II)Z"⟩
abbrev cX12_sizeOf : ByteArray := prog_14_method_6_code
def yX12_sizeOf : MethodName := ⟨RX12, "sizeOf", "(I)I"⟩
abbrev cX12_down : ByteArray := prog_14_method_7_code
def yX12_down : MethodName := ⟨RX12, "down", "(JJ)J"⟩
abbrev cX12_wrong : ByteArray := prog_14_method_8_code
def yX12_wrong : MethodName := ⟨RX12, "wrong", "(I)Z"⟩
abbrev cX12_wordAt : ByteArray := prog_14_method_9_code
def yX12_wordAt : MethodName := ⟨RX12, "wordAt", "(II)I"⟩
abbrev cX12_isSmall : ByteArray := prog_14_method_10_code
def yX12_isSmall : MethodName := ⟨RX12, "isSmall", "(I)Z"⟩
abbrev cX12_isDigit : ByteArray := prog_14_method_11_code
def yX12_isDigit : MethodName := ⟨RX12, "isDigit", "(I)Z"⟩
abbrev cX12_token : ByteArray := prog_14_method_12_code
def yX12_token : MethodName := ⟨RX12, "token", "()V"⟩
abbrev cX12_packed : ByteArray := prog_14_method_13_code
def yX12_packed : MethodName := ⟨RX12, "packed", "(II)I"⟩
abbrev cX12_isKey : ByteArray := prog_14_method_14_code
def yX12_isKey : MethodName := ⟨RX12, "isKey", "(I)Z"⟩
abbrev cX12_isSign : ByteArray := prog_14_method_15_code
def yX12_isSign : MethodName := ⟨RX12, "isSign", "(I)Z"⟩
abbrev cX12_number : ByteArray := prog_14_method_16_code
def yX12_number : MethodName := ⟨RX12, "number", "(II)Z"⟩
abbrev cX12_signed : ByteArray := prog_14_method_17_code
def yX12_signed : MethodName := ⟨RX12, "signed", "(I)Z"⟩
abbrev cX12_plain : ByteArray := prog_14_method_18_code
def yX12_plain : MethodName := ⟨RX12, "plain", "()V"⟩
abbrev cX12_copies : ByteArray := prog_14_method_19_code
def yX12_copies : MethodName := ⟨RX12, "copies", "([II)V"⟩
abbrev cX12_keep : ByteArray := prog_14_method_20_code
def yX12_keep : MethodName := ⟨RX12, "keep", "()V"⟩
abbrev cX12_find : ByteArray := prog_14_method_21_code
def yX12_find : MethodName := ⟨RX12, "find", "([IIII)I"⟩
abbrev cX12_newName : ByteArray := prog_14_method_22_code
def yX12_newName : MethodName := ⟨RX12, "newName", "([III)Z"⟩
abbrev cX12_oldName : ByteArray := prog_14_method_23_code
def yX12_oldName : MethodName := ⟨RX12, "oldName", "([III)Z"⟩
abbrev cX12_stickLine : ByteArray := prog_14_method_24_code
def yX12_stickLine : MethodName := ⟨RX12, "stickLine", "()Z"⟩
abbrev cX12_beatLine : ByteArray := prog_14_method_25_code
def yX12_beatLine : MethodName := ⟨RX12, "beatLine", "()Z"⟩
abbrev cX12_pauseLine : ByteArray := prog_14_method_26_code
def yX12_pauseLine : MethodName := ⟨RX12, "pauseLine", "()Z"⟩
abbrev cX12_lawLine : ByteArray := prog_14_method_27_code
def yX12_lawLine : MethodName := ⟨RX12, "lawLine", "()Z"⟩
abbrev cX12_manner : ByteArray := prog_14_method_28_code
def yX12_manner : MethodName := ⟨RX12, "manner", "(Z)Z"⟩
abbrev cX12_playerLine : ByteArray := prog_14_method_29_code
def yX12_playerLine : MethodName := ⟨RX12, "playerLine", "()Z"⟩
abbrev cX12_wrongLine : ByteArray := prog_14_method_30_code
def yX12_wrongLine : MethodName := ⟨RX12, "wrongLine", "()Z"⟩
abbrev cX12_lineRead : ByteArray := prog_14_method_31_code
def yX12_lineRead : MethodName := ⟨RX12, "lineRead", "()Z"⟩
abbrev cX12_resolves : ByteArray := prog_14_method_32_code
def yX12_resolves : MethodName := ⟨RX12, "resolves", "()Z"⟩
abbrev cX12_text : ByteArray := prog_14_method_33_code
def yX12_text : MethodName := ⟨RX12, "text", "(I)I"⟩
abbrev cX12_fault : ByteArray := prog_14_method_34_code
def yX12_fault : MethodName := ⟨RX12, "fault", "(I)I"⟩
abbrev cX12_named : ByteArray := prog_14_method_35_code
def yX12_named : MethodName := ⟨RX12, "named", "(II)I"⟩
abbrev cX12_isPlayer : ByteArray := prog_14_method_36_code
def yX12_isPlayer : MethodName := ⟨RX12, "isPlayer", "(I)Z"⟩
abbrev cX12_isBeat : ByteArray := prog_14_method_37_code
def yX12_isBeat : MethodName := ⟨RX12, "isBeat", "(I)Z"⟩
abbrev cX12_fails : ByteArray := prog_14_method_38_code
def yX12_fails : MethodName := ⟨RX12, "fails", "(I)I"⟩
abbrev cX12_look : ByteArray := prog_14_method_39_code
def yX12_look : MethodName := ⟨RX12, "look", "(II)I"⟩
abbrev cX12_law : ByteArray := prog_14_method_40_code
def yX12_law : MethodName := ⟨RX12, "law", "(II)I"⟩
abbrev cX12_root : ByteArray := prog_14_method_41_code
def yX12_root : MethodName := ⟨RX12, "root", "(J)J"⟩
abbrev cX12_wayOf : ByteArray := prog_14_method_42_code
def yX12_wayOf : MethodName := ⟨RX12, "wayOf", "(IIII)I"⟩
abbrev cX12_wayBetween : ByteArray := prog_14_method_43_code
def yX12_wayBetween : MethodName := ⟨RX12, "wayBetween", "(II)I"⟩
abbrev cX12_way : ByteArray := prog_14_method_44_code
def yX12_way : MethodName := ⟨RX12, "way", "(II)I"⟩
abbrev cX12_beginOf : ByteArray := prog_14_method_45_code
def yX12_beginOf : MethodName := ⟨RX12, "beginOf", "(I)I"⟩
abbrev cX12_begin : ByteArray := prog_14_method_46_code
def yX12_begin : MethodName := ⟨RX12, "begin", "(I)I"⟩
abbrev cX12_isThere : ByteArray := prog_14_method_47_code
def yX12_isThere : MethodName := ⟨RX12, "isThere", "(I)Z"⟩
abbrev cX12_weightOf : ByteArray := prog_14_method_48_code
def yX12_weightOf : MethodName := ⟨RX12, "weightOf", "(II)I"⟩
abbrev cX12_stickSays : ByteArray := prog_14_method_49_code
def yX12_stickSays : MethodName := ⟨RX12, "stickSays", "(II)I"⟩
abbrev cX12_goesOn : ByteArray := prog_14_method_50_code
def yX12_goesOn : MethodName := ⟨RX12, "goesOn", "(III)J"⟩
abbrev cX12_entryOf : ByteArray := prog_14_method_51_code
def yX12_entryOf : MethodName := ⟨RX12, "entryOf", "(II)J"⟩
abbrev cX12_bounded : ByteArray := prog_14_method_52_code
def yX12_bounded : MethodName := ⟨RX12, "bounded", "(J)I"⟩
abbrev cX12_layEntries : ByteArray := prog_14_method_53_code
def yX12_layEntries : MethodName := ⟨RX12, "layEntries", "()V"⟩
abbrev cX12_entry : ByteArray := prog_14_method_54_code
def yX12_entry : MethodName := ⟨RX12, "entry", "(II)I"⟩
abbrev cX12_spreadAt : ByteArray := prog_14_method_55_code
def yX12_spreadAt : MethodName := ⟨RX12, "spreadAt", "(I)I"⟩
abbrev cX12_lagAt : ByteArray := prog_14_method_56_code
def yX12_lagAt : MethodName := ⟨RX12, "lagAt", "(I)I"⟩
abbrev cX12_spread : ByteArray := prog_14_method_57_code
def yX12_spread : MethodName := ⟨RX12, "spread", "(I)I"⟩
abbrev cX12_lag : ByteArray := prog_14_method_58_code
def yX12_lag : MethodName := ⟨RX12, "lag", "(I)I"⟩
abbrev cX12_verdictNow : ByteArray := prog_14_method_59_code
def yX12_verdictNow : MethodName := ⟨RX12, "verdictNow", "(I)I"⟩
abbrev cX12_verdict : ByteArray := prog_14_method_60_code
def yX12_verdict : MethodName := ⟨RX12, "verdict", "(I)I"⟩
abbrev cX12_guilty : ByteArray := prog_14_method_61_code
def yX12_guilty : MethodName := ⟨RX12, "guilty", "(II)I"⟩
abbrev cX12_remembers : ByteArray := prog_14_method_62_code
def yX12_remembers : MethodName := ⟨RX12, "remembers", "(IIII)V"⟩
abbrev cX12_take : ByteArray := prog_14_method_63_code
def yX12_take : MethodName := ⟨RX12, "take", "(II)Z"⟩
abbrev cX12_seat : ByteArray := prog_14_method_64_code
def yX12_seat : MethodName := ⟨RX12, "seat", "(III)Z"⟩
abbrev cX12_undo : ByteArray := prog_14_method_65_code
def yX12_undo : MethodName := ⟨RX12, "undo", "()I"⟩
abbrev cX12_isSeat : ByteArray := prog_14_method_66_code
def yX12_isSeat : MethodName := ⟨RX12, "isSeat", "(II)Z"⟩
abbrev cX12_lateBy : ByteArray := prog_14_method_67_code
def yX12_lateBy : MethodName := ⟨RX12, "lateBy", "(III)I"⟩
abbrev cX12_sound : ByteArray := prog_14_method_68_code
def yX12_sound : MethodName := ⟨RX12, "sound", "(IIII)I"⟩
abbrev cX12_togetherAt : ByteArray := prog_14_method_69_code
def yX12_togetherAt : MethodName := ⟨RX12, "togetherAt", "(IIII)J"⟩
abbrev cX12_areBeats : ByteArray := prog_14_method_70_code
def yX12_areBeats : MethodName := ⟨RX12, "areBeats", "(II)Z"⟩
abbrev cX12_together : ByteArray := prog_14_method_71_code
def yX12_together : MethodName := ⟨RX12, "together", "(IIII)J"⟩
abbrev cX12_where : ByteArray := prog_14_method_72_code
def yX12_where : MethodName := ⟨RX12, "where", "(III)J"⟩
abbrev cX12_shift : ByteArray := prog_14_method_73_code
def yX12_shift : MethodName := ⟨RX12, "shift", "(III)I"⟩
abbrev cX12_layWrong : ByteArray := prog_14_method_74_code
def yX12_layWrong : MethodName := ⟨RX12, "layWrong", "(III)Z"⟩
abbrev cX12_movedAt : ByteArray := prog_14_method_75_code
def yX12_movedAt : MethodName := ⟨RX12, "movedAt", "(II)I"⟩
abbrev cX12_farAt : ByteArray := prog_14_method_76_code
def yX12_farAt : MethodName := ⟨RX12, "farAt", "(I)I"⟩
abbrev cX12_moved : ByteArray := prog_14_method_77_code
def yX12_moved : MethodName := ⟨RX12, "moved", "(IIIII)I"⟩
abbrev cX12_far : ByteArray := prog_14_method_78_code
def yX12_far : MethodName := ⟨RX12, "far", "(IIII)I"⟩
abbrev cX12_ends : ByteArray := prog_14_method_79_code
def yX12_ends : MethodName := ⟨RX12, "ends", "(III)I"⟩
abbrev cX12_goes : ByteArray := prog_14_method_80_code
def yX12_goes : MethodName := ⟨RX12, "goes", "(IIIII)I"⟩
abbrev cX12_linksOf : ByteArray := prog_14_method_81_code
def yX12_linksOf : MethodName := ⟨RX12, "linksOf", "(I)I"⟩
abbrev cX12_by : ByteArray := prog_14_method_82_code
def yX12_by : MethodName := ⟨RX12, "by", "(I)I"⟩
abbrev cX12_film : ByteArray := prog_14_method_83_code
def yX12_film : MethodName := ⟨RX12, "film", "(III)I"⟩
abbrev cX12_strike : ByteArray := prog_14_method_84_code
def yX12_strike : MethodName := ⟨RX12, "strike", "(I)I"⟩
abbrev cX12_known : ByteArray := prog_14_method_85_code
def yX12_known : MethodName := ⟨RX12, "known", "(I)Z"⟩
abbrev cX12_knownMany : ByteArray := prog_14_method_86_code
def yX12_knownMany : MethodName := ⟨RX12, "knownMany", "()I"⟩
abbrev cX12_layCounts : ByteArray := prog_14_method_87_code
def yX12_layCounts : MethodName := ⟨RX12, "layCounts", "()V"⟩
abbrev cX12_isNear : ByteArray := prog_14_method_88_code
def yX12_isNear : MethodName := ⟨RX12, "isNear", "(II)Z"⟩
abbrev cX12_fitting : ByteArray := prog_14_method_89_code
def yX12_fitting : MethodName := ⟨RX12, "fitting", "(II)I"⟩
abbrev cX12_fits : ByteArray := prog_14_method_90_code
def yX12_fits : MethodName := ⟨RX12, "fits", "(II)I"⟩
abbrev cX12_areLike : ByteArray := prog_14_method_91_code
def yX12_areLike : MethodName := ⟨RX12, "areLike", "(II)Z"⟩
abbrev cX12_greatestGroup : ByteArray := prog_14_method_92_code
def yX12_greatestGroup : MethodName := ⟨RX12, "greatestGroup", "(II)I"⟩
abbrev cX12_manyOf : ByteArray := prog_14_method_93_code
def yX12_manyOf : MethodName := ⟨RX12, "manyOf", "(I)I"⟩
abbrev cX12_next : ByteArray := prog_14_method_94_code
def yX12_next : MethodName := ⟨RX12, "next", "(III)I"⟩
abbrev cX12_sits : ByteArray := prog_14_method_95_code
def yX12_sits : MethodName := ⟨RX12, "sits", "(II)V"⟩
abbrev cX12_tried : ByteArray := prog_14_method_96_code
def yX12_tried : MethodName := ⟨RX12, "tried", "(IIII)J"⟩
abbrev cX12_nextOrder : ByteArray := prog_14_method_97_code
def yX12_nextOrder : MethodName := ⟨RX12, "nextOrder", "()Z"⟩
abbrev cX12_changes : ByteArray := prog_14_method_98_code
def yX12_changes : MethodName := ⟨RX12, "changes", "(II)V"⟩
abbrev cX12_allOrders : ByteArray := prog_14_method_99_code
def yX12_allOrders : MethodName := ⟨RX12, "allOrders", "(IIII)J"⟩
abbrev cX12_byChanges : ByteArray := prog_14_method_100_code
def yX12_byChanges : MethodName := ⟨RX12, "byChanges", "(IIII)J"⟩
abbrev cX12_order : ByteArray := prog_14_method_101_code
def yX12_order : MethodName := ⟨RX12, "order", "(IIIII)J"⟩
abbrev cX12_common : ByteArray := prog_14_method_102_code
def yX12_common : MethodName := ⟨RX12, "common", "(II)I"⟩
abbrev cX12_pause : ByteArray := prog_14_method_103_code
def yX12_pause : MethodName := ⟨RX12, "pause", "(II)I"⟩
abbrev cX12_two : ByteArray := prog_14_method_104_code
def yX12_two : MethodName := ⟨RX12, "two", "(III)I"⟩
abbrev cX12_doubtBy : ByteArray := prog_14_method_105_code
def yX12_doubtBy : MethodName := ⟨RX12, "doubtBy", "(I)I"⟩
abbrev cX12_clear : ByteArray := prog_14_method_106_code
def yX12_clear : MethodName := ⟨RX12, "clear", "(I)I"⟩
abbrev cX12_draws : ByteArray := prog_14_method_107_code
def yX12_draws : MethodName := ⟨RX12, "draws", "(IIII)I"⟩
abbrev cX12_count : ByteArray := prog_14_method_108_code
def yX12_count : MethodName := ⟨RX12, "count", "(I)I"⟩
def RJx145de : String := "java/io/Serializable"
def TJx145de : u_T := fun k => match k with
  | _ => ("", "", "", false)
def tyJx145de : Nat → FieldType := fun k => match k with
  | _ => .int
abbrev wsJx145de0 : List Cond := u_ws RJx145de TJx145de 0
theorem nmJx145de : ∀ a, a < 0 → ∀ b, b < 0 → a ≠ b → (TJx145de a).2.1 ≠ (TJx145de b).2.1 := by decide +kernel
theorem tyJx145de_ok : ∀ k, k < 0 → parseFieldDescriptor (TJx145de k).2.2.1 = some (tyJx145de k) := by decide +kernel
def RJx9f9b0 : String := "java/lang/CharSequence"
def TJx9f9b0 : u_T := fun k => match k with
  | _ => ("", "", "", false)
def tyJx9f9b0 : Nat → FieldType := fun k => match k with
  | _ => .int
abbrev wsJx9f9b00 : List Cond := u_ws RJx9f9b0 TJx9f9b0 0
theorem nmJx9f9b0 : ∀ a, a < 0 → ∀ b, b < 0 → a ≠ b → (TJx9f9b0 a).2.1 ≠ (TJx9f9b0 b).2.1 := by decide +kernel
theorem tyJx9f9b0_ok : ∀ k, k < 0 → parseFieldDescriptor (TJx9f9b0 k).2.2.1 = some (tyJx9f9b0 k) := by decide +kernel
def RJxb160c : String := "java/lang/Comparable"
def TJxb160c : u_T := fun k => match k with
  | _ => ("", "", "", false)
def tyJxb160c : Nat → FieldType := fun k => match k with
  | _ => .int
abbrev wsJxb160c0 : List Cond := u_ws RJxb160c TJxb160c 0
theorem nmJxb160c : ∀ a, a < 0 → ∀ b, b < 0 → a ≠ b → (TJxb160c a).2.1 ≠ (TJxb160c b).2.1 := by decide +kernel
theorem tyJxb160c_ok : ∀ k, k < 0 → parseFieldDescriptor (TJxb160c k).2.2.1 = some (tyJxb160c k) := by decide +kernel
def RJ6 : String := "java/lang/Integer"
def TJ6 : u_T := fun k => match k with
  | _ => ("", "", "", false)
def tyJ6 : Nat → FieldType := fun k => match k with
  | _ => .int
abbrev wsJ60 : List Cond := u_ws RJ6 TJ6 0
theorem nmJ6 : ∀ a, a < 0 → ∀ b, b < 0 → a ≠ b → (TJ6 a).2.1 ≠ (TJ6 b).2.1 := by decide +kernel
theorem tyJ6_ok : ∀ k, k < 0 → parseFieldDescriptor (TJ6 k).2.2.1 = some (tyJ6 k) := by decide +kernel
abbrev cJ6_bitCount_0f7a4 : ByteArray := prog_20_method_49_code
def yJ6_bitCount_0f7a4 : MethodName := ⟨RJ6, "bitCount", "(I)I"⟩
def RJ9 : String := "java/lang/Math"
def TJ9 : u_T := fun k => match k with
  | _ => ("", "", "", false)
def tyJ9 : Nat → FieldType := fun k => match k with
  | _ => .int
abbrev wsJ90 : List Cond := u_ws RJ9 TJ9 0
theorem nmJ9 : ∀ a, a < 0 → ∀ b, b < 0 → a ≠ b → (TJ9 a).2.1 ≠ (TJ9 b).2.1 := by decide +kernel
theorem tyJ9_ok : ∀ k, k < 0 → parseFieldDescriptor (TJ9 k).2.2.1 = some (tyJ9 k) := by decide +kernel
abbrev cJ9_floorDiv_f86c9 : ByteArray := prog_21_method_49_code
def yJ9_floorDiv_f86c9 : MethodName := ⟨RJ9, "floorDiv", "(JJ)J"⟩
abbrev cJ9_abs_0f7a4 : ByteArray := prog_21_method_59_code
def yJ9_abs_0f7a4 : MethodName := ⟨RJ9, "abs", "(I)I"⟩
abbrev cJ9_max_7cf53 : ByteArray := prog_21_method_65_code
def yJ9_max_7cf53 : MethodName := ⟨RJ9, "max", "(II)I"⟩
abbrev cJ9_max_f86c9 : ByteArray := prog_21_method_66_code
def yJ9_max_f86c9 : MethodName := ⟨RJ9, "max", "(JJ)J"⟩
abbrev cJ9_min_7cf53 : ByteArray := prog_21_method_69_code
def yJ9_min_7cf53 : MethodName := ⟨RJ9, "min", "(II)I"⟩
abbrev cJ9_min_f86c9 : ByteArray := prog_21_method_70_code
def yJ9_min_f86c9 : MethodName := ⟨RJ9, "min", "(JJ)J"⟩
def RJ0 : String := "java/lang/String"
def TJ0 : u_T := fun k => match k with
  | _ => ("", "", "", false)
def tyJ0 : Nat → FieldType := fun k => match k with
  | _ => .int
abbrev wsJ00 : List Cond := u_ws RJ0 TJ0 0
theorem nmJ0 : ∀ a, a < 0 → ∀ b, b < 0 → a ≠ b → (TJ0 a).2.1 ≠ (TJ0 b).2.1 := by decide +kernel
theorem tyJ0_ok : ∀ k, k < 0 → parseFieldDescriptor (TJ0 k).2.2.1 = some (tyJ0 k) := by decide +kernel
abbrev cJ0_length_8abf5 : ByteArray := prog_23_method_54_code
def yJ0_length_8abf5 : MethodName := ⟨RJ0, "length", "()I"⟩
abbrev cJ0_charAt_5068e : ByteArray := prog_23_method_56_code
def yJ0_charAt_5068e : MethodName := ⟨RJ0, "charAt", "(I)C"⟩
abbrev cJ0_coder_7d493 : ByteArray := prog_23_method_152_code
def yJ0_coder_7d493 : MethodName := ⟨RJ0, "coder", "()B"⟩
abbrev cJ0_isLatin1_aae02 : ByteArray := prog_23_method_154_code
def yJ0_isLatin1_aae02 : MethodName := ⟨RJ0, "isLatin1", "()Z"⟩
abbrev cJ0_checkIndex_df160 : ByteArray := prog_23_method_155_code
def yJ0_checkIndex_df160 : MethodName := ⟨RJ0, "checkIndex", "(II)V"⟩
def RJ1 : String := "java/lang/StringLatin1"
def TJ1 : u_T := fun k => match k with
  | _ => ("", "", "", false)
def tyJ1 : Nat → FieldType := fun k => match k with
  | _ => .int
abbrev wsJ10 : List Cond := u_ws RJ1 TJ1 0
theorem nmJ1 : ∀ a, a < 0 → ∀ b, b < 0 → a ≠ b → (TJ1 a).2.1 ≠ (TJ1 b).2.1 := by decide +kernel
theorem tyJ1_ok : ∀ k, k < 0 → parseFieldDescriptor (TJ1 k).2.2.1 = some (tyJ1 k) := by decide +kernel
abbrev cJ1_charAt_3b067 : ByteArray := prog_24_method_2_code
def yJ1_charAt_3b067 : MethodName := ⟨RJ1, "charAt", "([BI)C"⟩
def RJ2 : String := "java/lang/StringUTF16"
def TJ2 : u_T := fun k => match k with
  | _ => ("", "", "", false)
def tyJ2 : Nat → FieldType := fun k => match k with
  | _ => .int
abbrev wsJ20 : List Cond := u_ws RJ2 TJ2 0
theorem nmJ2 : ∀ a, a < 0 → ∀ b, b < 0 → a ≠ b → (TJ2 a).2.1 ≠ (TJ2 b).2.1 := by decide +kernel
theorem tyJ2_ok : ∀ k, k < 0 → parseFieldDescriptor (TJ2 k).2.2.1 = some (tyJ2 k) := by decide +kernel
abbrev cJ2_getChar_3b067 : ByteArray := prog_25_method_5_code
def yJ2_getChar_3b067 : MethodName := ⟨RJ2, "getChar", "([BI)C"⟩
abbrev cJ2_length_9d52b : ByteArray := prog_25_method_6_code
def yJ2_length_9d52b : MethodName := ⟨RJ2, "length", "([B)I"⟩
abbrev cJ2_charAt_3b067 : ByteArray := prog_25_method_83_code
def yJ2_charAt_3b067 : MethodName := ⟨RJ2, "charAt", "([BI)C"⟩
abbrev cJ2_checkIndex_2214a : ByteArray := prog_25_method_91_code
def yJ2_checkIndex_2214a : MethodName := ⟨RJ2, "checkIndex", "(I[B)V"⟩
def RJ10 : String := "java/lang/System"
def TJ10 : u_T := fun k => match k with
  | _ => ("", "", "", false)
def tyJ10 : Nat → FieldType := fun k => match k with
  | _ => .int
abbrev wsJ100 : List Cond := u_ws RJ10 TJ10 0
theorem nmJ10 : ∀ a, a < 0 → ∀ b, b < 0 → a ≠ b → (TJ10 a).2.1 ≠ (TJ10 b).2.1 := by decide +kernel
theorem tyJ10_ok : ∀ k, k < 0 → parseFieldDescriptor (TJ10 k).2.2.1 = some (tyJ10 k) := by decide +kernel
def RJxfd54e : String := "java/lang/constant/Constable"
def TJxfd54e : u_T := fun k => match k with
  | _ => ("", "", "", false)
def tyJxfd54e : Nat → FieldType := fun k => match k with
  | _ => .int
abbrev wsJxfd54e0 : List Cond := u_ws RJxfd54e TJxfd54e 0
theorem nmJxfd54e : ∀ a, a < 0 → ∀ b, b < 0 → a ≠ b → (TJxfd54e a).2.1 ≠ (TJxfd54e b).2.1 := by decide +kernel
theorem tyJxfd54e_ok : ∀ k, k < 0 → parseFieldDescriptor (TJxfd54e k).2.2.1 = some (tyJxfd54e k) := by decide +kernel
def RJx3cf43 : String := "java/lang/constant/ConstantDesc"
def TJx3cf43 : u_T := fun k => match k with
  | _ => ("", "", "", false)
def tyJx3cf43 : Nat → FieldType := fun k => match k with
  | _ => .int
abbrev wsJx3cf430 : List Cond := u_ws RJx3cf43 TJx3cf43 0
theorem nmJx3cf43 : ∀ a, a < 0 → ∀ b, b < 0 → a ≠ b → (TJx3cf43 a).2.1 ≠ (TJx3cf43 b).2.1 := by decide +kernel
theorem tyJx3cf43_ok : ∀ k, k < 0 → parseFieldDescriptor (TJx3cf43 k).2.2.1 = some (tyJx3cf43 k) := by decide +kernel
def RJ3 : String := "jdk/internal/util/Preconditions"
def TJ3 : u_T := fun k => match k with
  | _ => ("", "", "", false)
def tyJ3 : Nat → FieldType := fun k => match k with
  | _ => .int
abbrev wsJ30 : List Cond := u_ws RJ3 TJ3 0
theorem nmJ3 : ∀ a, a < 0 → ∀ b, b < 0 → a ≠ b → (TJ3 a).2.1 ≠ (TJ3 b).2.1 := by decide +kernel
theorem tyJ3_ok : ∀ k, k < 0 → parseFieldDescriptor (TJ3 k).2.2.1 = some (tyJ3 k) := by decide +kernel
abbrev cJ3_checkIndex_8e157 : ByteArray := prog_31_method_11_code
def yJ3_checkIndex_8e157 : MethodName := ⟨RJ3, "checkIndex", "(IILjava/util/function/BiFunction;)I"⟩
def RL : String := "StickStringsLaw"
abbrev cL_look : ByteArray := method_3_code
def yL_look : MethodName := ⟨RL, "look", "(LStickStrings;II[J)I"⟩
abbrev cL_law : ByteArray := code
def yL_law : MethodName := ⟨RL, "law", "([I)Z"⟩
def wsX0_init : List Cond := .code yX0_init cX0_init 1 none :: ([.methodLink RX0 3 objectInit, .instanceMethod objectInit, .code objectInit ⟨#[0xb1]⟩ 1 none, .arrayClass .int, .fieldLink RX0 9 "StickStrings$Cast" "x" "[I", .fieldLink RX0 15 "StickStrings$Cast" "y" "[I", .fieldLink RX0 18 "StickStrings$Cast" "law" "[I", .fieldLink RX0 21 "StickStrings$Cast" "taken" "[I", .fieldLink RX0 24 "StickStrings$Cast" "sees" "[I", .fieldLink RX0 27 "StickStrings$Cast" "hears" "[I", .fieldLink RX0 30 "StickStrings$Cast" "weights" "[I", .fieldLink RX0 33 "StickStrings$Cast" "lead" "[I", .fieldLink RX0 36 "StickStrings$Cast" "stickLate" "[I"] ++ wsX00)
abbrev vwCl : List vw_C := [(RX0, TX0, 14), (RX1, TX1, 7), (RX2, TX2, 5), (RX3, TX3, 5), (RX4, TX4, 8), (RX5, TX5, 6), (RX6, TX6, 9), (RX7, TX7, 11), (RX8, TX8, 4), (RX9, TX9, 9), (RX10, TX10, 8), (RX11, TX11, 10), (RX12, TX12, 58)]
