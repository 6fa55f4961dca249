section
-- ===== PART A: goes FIRST, ahead of the names: the tables' words, and 'selects' of the private methods out of them =====
/-- a private method of a class that the tables say can be made, by its rows of tables_1 -/
def lw_okq (q : MethodName × Nat) : Prop := (q.1.cls ≠ "java/lang/invoke/MethodHandle" ∧ q.1.cls ≠ "java/lang/invoke/VarHandle") ∧ Cond.instantiable q.1.cls q.2 ∈ tables_1 ∧ Cond.privateMethod q.1 ∈ tables_1 ∧ Cond.instanceMethod q.1 ∈ tables_1
theorem lw_p0 : lw_okq (⟨"CliffJudges$Tape", "isLetter", "(I)Z"⟩, 8) := ⟨⟨by decide +kernel, by decide +kernel⟩, List.mem_of_getElem? (i := 31) (by decide +kernel), List.mem_of_getElem? (i := 602) (by decide +kernel), List.mem_of_getElem? (i := 603) (by decide +kernel)⟩
theorem lw_p1 : lw_okq (⟨"CliffJudges$Tape", "readWord", "()V"⟩, 8) := ⟨⟨by decide +kernel, by decide +kernel⟩, List.mem_of_getElem? (i := 31) (by decide +kernel), List.mem_of_getElem? (i := 606) (by decide +kernel), List.mem_of_getElem? (i := 607) (by decide +kernel)⟩
theorem lw_p2 : lw_okq (⟨"CliffJudges$Tape", "kindOf", "(J)I"⟩, 8) := ⟨⟨by decide +kernel, by decide +kernel⟩, List.mem_of_getElem? (i := 31) (by decide +kernel), List.mem_of_getElem? (i := 610) (by decide +kernel), List.mem_of_getElem? (i := 611) (by decide +kernel)⟩
theorem lw_p3 : lw_okq (⟨"CliffJudges$Tape", "isDigit", "(I)Z"⟩, 8) := ⟨⟨by decide +kernel, by decide +kernel⟩, List.mem_of_getElem? (i := 31) (by decide +kernel), List.mem_of_getElem? (i := 614) (by decide +kernel), List.mem_of_getElem? (i := 615) (by decide +kernel)⟩
theorem lw_p4 : lw_okq (⟨"CliffJudges$Tape", "readNumber", "()V"⟩, 8) := ⟨⟨by decide +kernel, by decide +kernel⟩, List.mem_of_getElem? (i := 31) (by decide +kernel), List.mem_of_getElem? (i := 618) (by decide +kernel), List.mem_of_getElem? (i := 619) (by decide +kernel)⟩
theorem lw_p5 : lw_okq (⟨"CliffJudges$Teller", "tellLine", "()Z"⟩, 10) := ⟨⟨by decide +kernel, by decide +kernel⟩, List.mem_of_getElem? (i := 119) (by decide +kernel), List.mem_of_getElem? (i := 682) (by decide +kernel), List.mem_of_getElem? (i := 683) (by decide +kernel)⟩
theorem lw_p6 : lw_okq (⟨"CliffJudges$Teller", "tellWord", "()Z"⟩, 10) := ⟨⟨by decide +kernel, by decide +kernel⟩, List.mem_of_getElem? (i := 119) (by decide +kernel), List.mem_of_getElem? (i := 686) (by decide +kernel), List.mem_of_getElem? (i := 687) (by decide +kernel)⟩
theorem lw_p7 : lw_okq (⟨"CliffJudges$Teller", "takeNew", "(II)Z"⟩, 10) := ⟨⟨by decide +kernel, by decide +kernel⟩, List.mem_of_getElem? (i := 119) (by decide +kernel), List.mem_of_getElem? (i := 690) (by decide +kernel), List.mem_of_getElem? (i := 691) (by decide +kernel)⟩
theorem lw_p8 : lw_okq (⟨"CliffJudges$Teller", "fail", "(I)Z"⟩, 10) := ⟨⟨by decide +kernel, by decide +kernel⟩, List.mem_of_getElem? (i := 119) (by decide +kernel), List.mem_of_getElem? (i := 694) (by decide +kernel), List.mem_of_getElem? (i := 695) (by decide +kernel)⟩
theorem lw_p9 : lw_okq (⟨"CliffJudges$Teller", "find", "(I)I"⟩, 10) := ⟨⟨by decide +kernel, by decide +kernel⟩, List.mem_of_getElem? (i := 119) (by decide +kernel), List.mem_of_getElem? (i := 699) (by decide +kernel), List.mem_of_getElem? (i := 700) (by decide +kernel)⟩
theorem lw_p10 : lw_okq (⟨"CliffJudges$Teller", "takeOption", "(I[II)Z"⟩, 10) := ⟨⟨by decide +kernel, by decide +kernel⟩, List.mem_of_getElem? (i := 119) (by decide +kernel), List.mem_of_getElem? (i := 703) (by decide +kernel), List.mem_of_getElem? (i := 704) (by decide +kernel)⟩
theorem lw_p11 : lw_okq (⟨"CliffJudges$Teller", "takeNumber", "(I)Z"⟩, 10) := ⟨⟨by decide +kernel, by decide +kernel⟩, List.mem_of_getElem? (i := 119) (by decide +kernel), List.mem_of_getElem? (i := 707) (by decide +kernel), List.mem_of_getElem? (i := 708) (by decide +kernel)⟩
theorem lw_p12 : lw_okq (⟨"CliffJudges$Teller", "take", "(I)Z"⟩, 10) := ⟨⟨by decide +kernel, by decide +kernel⟩, List.mem_of_getElem? (i := 119) (by decide +kernel), List.mem_of_getElem? (i := 711) (by decide +kernel), List.mem_of_getElem? (i := 712) (by decide +kernel)⟩
theorem lw_p13 : lw_okq (⟨"CliffJudges$Teller", "tellPlaced", "(I[II[I)Z"⟩, 10) := ⟨⟨by decide +kernel, by decide +kernel⟩, List.mem_of_getElem? (i := 119) (by decide +kernel), List.mem_of_getElem? (i := 715) (by decide +kernel), List.mem_of_getElem? (i := 716) (by decide +kernel)⟩
theorem lw_p14 : lw_okq (⟨"CliffJudges$Teller", "tellState", "()Z"⟩, 10) := ⟨⟨by decide +kernel, by decide +kernel⟩, List.mem_of_getElem? (i := 119) (by decide +kernel), List.mem_of_getElem? (i := 719) (by decide +kernel), List.mem_of_getElem? (i := 720) (by decide +kernel)⟩
theorem lw_p15 : lw_okq (⟨"CliffJudges$Teller", "tellOn", "()Z"⟩, 10) := ⟨⟨by decide +kernel, by decide +kernel⟩, List.mem_of_getElem? (i := 119) (by decide +kernel), List.mem_of_getElem? (i := 723) (by decide +kernel), List.mem_of_getElem? (i := 724) (by decide +kernel)⟩
def lw_privs_1 : List (MethodName × Nat) := [(⟨"CliffJudges$Tape", "isLetter", "(I)Z"⟩, 8), (⟨"CliffJudges$Tape", "readWord", "()V"⟩, 8), (⟨"CliffJudges$Tape", "kindOf", "(J)I"⟩, 8), (⟨"CliffJudges$Tape", "isDigit", "(I)Z"⟩, 8), (⟨"CliffJudges$Tape", "readNumber", "()V"⟩, 8), (⟨"CliffJudges$Teller", "tellLine", "()Z"⟩, 10), (⟨"CliffJudges$Teller", "tellWord", "()Z"⟩, 10), (⟨"CliffJudges$Teller", "takeNew", "(II)Z"⟩, 10), (⟨"CliffJudges$Teller", "fail", "(I)Z"⟩, 10), (⟨"CliffJudges$Teller", "find", "(I)I"⟩, 10), (⟨"CliffJudges$Teller", "takeOption", "(I[II)Z"⟩, 10), (⟨"CliffJudges$Teller", "takeNumber", "(I)Z"⟩, 10), (⟨"CliffJudges$Teller", "take", "(I)Z"⟩, 10), (⟨"CliffJudges$Teller", "tellPlaced", "(I[II[I)Z"⟩, 10), (⟨"CliffJudges$Teller", "tellState", "()Z"⟩, 10), (⟨"CliffJudges$Teller", "tellOn", "()Z"⟩, 10)]
theorem lw_r1 : ∀ q ∈ lw_privs_1, lw_okq q := List.forall_mem_cons.mpr ⟨lw_p0, List.forall_mem_cons.mpr ⟨lw_p1, List.forall_mem_cons.mpr ⟨lw_p2, List.forall_mem_cons.mpr ⟨lw_p3, List.forall_mem_cons.mpr ⟨lw_p4, List.forall_mem_cons.mpr ⟨lw_p5, List.forall_mem_cons.mpr ⟨lw_p6, List.forall_mem_cons.mpr ⟨lw_p7, List.forall_mem_cons.mpr ⟨lw_p8, List.forall_mem_cons.mpr ⟨lw_p9, List.forall_mem_cons.mpr ⟨lw_p10, List.forall_mem_cons.mpr ⟨lw_p11, List.forall_mem_cons.mpr ⟨lw_p12, List.forall_mem_cons.mpr ⟨lw_p13, List.forall_mem_cons.mpr ⟨lw_p14, List.forall_mem_cons.mpr ⟨lw_p15, fun _ h => absurd h List.not_mem_nil⟩⟩⟩⟩⟩⟩⟩⟩⟩⟩⟩⟩⟩⟩⟩⟩
theorem lw_p16 : lw_okq (⟨"CliffJudges$Teller", "known", "(I)I"⟩, 10) := ⟨⟨by decide +kernel, by decide +kernel⟩, List.mem_of_getElem? (i := 119) (by decide +kernel), List.mem_of_getElem? (i := 727) (by decide +kernel), List.mem_of_getElem? (i := 728) (by decide +kernel)⟩
theorem lw_p17 : lw_okq (⟨"CliffJudges$Teller", "tellFormula", "(LCliffJudges$Formula;)Z"⟩, 10) := ⟨⟨by decide +kernel, by decide +kernel⟩, List.mem_of_getElem? (i := 119) (by decide +kernel), List.mem_of_getElem? (i := 731) (by decide +kernel), List.mem_of_getElem? (i := 732) (by decide +kernel)⟩
theorem lw_p18 : lw_okq (⟨"CliffJudges$Teller", "takeEither", "(I)Z"⟩, 10) := ⟨⟨by decide +kernel, by decide +kernel⟩, List.mem_of_getElem? (i := 119) (by decide +kernel), List.mem_of_getElem? (i := 735) (by decide +kernel), List.mem_of_getElem? (i := 736) (by decide +kernel)⟩
theorem lw_p19 : lw_okq (⟨"CliffJudges$Teller", "takeBoth", "(I)Z"⟩, 10) := ⟨⟨by decide +kernel, by decide +kernel⟩, List.mem_of_getElem? (i := 119) (by decide +kernel), List.mem_of_getElem? (i := 739) (by decide +kernel), List.mem_of_getElem? (i := 740) (by decide +kernel)⟩
theorem lw_p20 : lw_okq (⟨"CliffJudges$Teller", "takeOne", "(I)Z"⟩, 10) := ⟨⟨by decide +kernel, by decide +kernel⟩, List.mem_of_getElem? (i := 119) (by decide +kernel), List.mem_of_getElem? (i := 743) (by decide +kernel), List.mem_of_getElem? (i := 744) (by decide +kernel)⟩
theorem lw_p21 : lw_okq (⟨"CliffJudges$Teller", "takeNot", "(I)Z"⟩, 10) := ⟨⟨by decide +kernel, by decide +kernel⟩, List.mem_of_getElem? (i := 119) (by decide +kernel), List.mem_of_getElem? (i := 747) (by decide +kernel), List.mem_of_getElem? (i := 748) (by decide +kernel)⟩
theorem lw_p22 : lw_okq (⟨"CliffJudges$Formula", "add", "(I)V"⟩, 4) := ⟨⟨by decide +kernel, by decide +kernel⟩, List.mem_of_getElem? (i := 166) (by decide +kernel), List.mem_of_getElem? (i := 755) (by decide +kernel), List.mem_of_getElem? (i := 756) (by decide +kernel)⟩
theorem lw_p23 : lw_okq (⟨"CliffJudges$Teller", "takeSum", "(I)Z"⟩, 10) := ⟨⟨by decide +kernel, by decide +kernel⟩, List.mem_of_getElem? (i := 119) (by decide +kernel), List.mem_of_getElem? (i := 759) (by decide +kernel), List.mem_of_getElem? (i := 760) (by decide +kernel)⟩
theorem lw_p24 : lw_okq (⟨"CliffJudges$Teller", "takeTerm", "(I)Z"⟩, 10) := ⟨⟨by decide +kernel, by decide +kernel⟩, List.mem_of_getElem? (i := 119) (by decide +kernel), List.mem_of_getElem? (i := 763) (by decide +kernel), List.mem_of_getElem? (i := 764) (by decide +kernel)⟩
theorem lw_p25 : lw_okq (⟨"CliffJudges$Teller", "takeUnit", "(I)Z"⟩, 10) := ⟨⟨by decide +kernel, by decide +kernel⟩, List.mem_of_getElem? (i := 119) (by decide +kernel), List.mem_of_getElem? (i := 767) (by decide +kernel), List.mem_of_getElem? (i := 768) (by decide +kernel)⟩
theorem lw_p26 : lw_okq (⟨"CliffJudges$Teller", "takeInner", "(I)Z"⟩, 10) := ⟨⟨by decide +kernel, by decide +kernel⟩, List.mem_of_getElem? (i := 119) (by decide +kernel), List.mem_of_getElem? (i := 771) (by decide +kernel), List.mem_of_getElem? (i := 772) (by decide +kernel)⟩
theorem lw_p27 : lw_okq (⟨"CliffJudges$Teller", "tellWind", "()Z"⟩, 10) := ⟨⟨by decide +kernel, by decide +kernel⟩, List.mem_of_getElem? (i := 119) (by decide +kernel), List.mem_of_getElem? (i := 789) (by decide +kernel), List.mem_of_getElem? (i := 790) (by decide +kernel)⟩
theorem lw_p28 : lw_okq (⟨"CliffJudges$Teller", "tellDraw", "()Z"⟩, 10) := ⟨⟨by decide +kernel, by decide +kernel⟩, List.mem_of_getElem? (i := 119) (by decide +kernel), List.mem_of_getElem? (i := 793) (by decide +kernel), List.mem_of_getElem? (i := 794) (by decide +kernel)⟩
theorem lw_p29 : lw_okq (⟨"CliffJudges$Moments", "forgetActs", "()V"⟩, 7) := ⟨⟨by decide +kernel, by decide +kernel⟩, List.mem_of_getElem? (i := 289) (by decide +kernel), List.mem_of_getElem? (i := 802) (by decide +kernel), List.mem_of_getElem? (i := 803) (by decide +kernel)⟩
theorem lw_p30 : lw_okq (⟨"CliffJudges$Moments", "keepAct", "()V"⟩, 7) := ⟨⟨by decide +kernel, by decide +kernel⟩, List.mem_of_getElem? (i := 289) (by decide +kernel), List.mem_of_getElem? (i := 852) (by decide +kernel), List.mem_of_getElem? (i := 853) (by decide +kernel)⟩
theorem lw_p31 : lw_okq (⟨"CliffJudges", "prepare", "(I)V"⟩, 14) := ⟨⟨by decide +kernel, by decide +kernel⟩, List.mem_of_getElem? (i := 23) (by decide +kernel), List.mem_of_getElem? (i := 877) (by decide +kernel), List.mem_of_getElem? (i := 878) (by decide +kernel)⟩
def lw_privs_2 : List (MethodName × Nat) := [(⟨"CliffJudges$Teller", "known", "(I)I"⟩, 10), (⟨"CliffJudges$Teller", "tellFormula", "(LCliffJudges$Formula;)Z"⟩, 10), (⟨"CliffJudges$Teller", "takeEither", "(I)Z"⟩, 10), (⟨"CliffJudges$Teller", "takeBoth", "(I)Z"⟩, 10), (⟨"CliffJudges$Teller", "takeOne", "(I)Z"⟩, 10), (⟨"CliffJudges$Teller", "takeNot", "(I)Z"⟩, 10), (⟨"CliffJudges$Formula", "add", "(I)V"⟩, 4), (⟨"CliffJudges$Teller", "takeSum", "(I)Z"⟩, 10), (⟨"CliffJudges$Teller", "takeTerm", "(I)Z"⟩, 10), (⟨"CliffJudges$Teller", "takeUnit", "(I)Z"⟩, 10), (⟨"CliffJudges$Teller", "takeInner", "(I)Z"⟩, 10), (⟨"CliffJudges$Teller", "tellWind", "()Z"⟩, 10), (⟨"CliffJudges$Teller", "tellDraw", "()Z"⟩, 10), (⟨"CliffJudges$Moments", "forgetActs", "()V"⟩, 7), (⟨"CliffJudges$Moments", "keepAct", "()V"⟩, 7), (⟨"CliffJudges", "prepare", "(I)V"⟩, 14)]
theorem lw_r2 : ∀ q ∈ lw_privs_2, lw_okq q := List.forall_mem_cons.mpr ⟨lw_p16, List.forall_mem_cons.mpr ⟨lw_p17, List.forall_mem_cons.mpr ⟨lw_p18, List.forall_mem_cons.mpr ⟨lw_p19, List.forall_mem_cons.mpr ⟨lw_p20, List.forall_mem_cons.mpr ⟨lw_p21, List.forall_mem_cons.mpr ⟨lw_p22, List.forall_mem_cons.mpr ⟨lw_p23, List.forall_mem_cons.mpr ⟨lw_p24, List.forall_mem_cons.mpr ⟨lw_p25, List.forall_mem_cons.mpr ⟨lw_p26, List.forall_mem_cons.mpr ⟨lw_p27, List.forall_mem_cons.mpr ⟨lw_p28, List.forall_mem_cons.mpr ⟨lw_p29, List.forall_mem_cons.mpr ⟨lw_p30, List.forall_mem_cons.mpr ⟨lw_p31, fun _ h => absurd h List.not_mem_nil⟩⟩⟩⟩⟩⟩⟩⟩⟩⟩⟩⟩⟩⟩⟩⟩
theorem lw_p32 : lw_okq (⟨"CliffJudges", "loadWeather", "(LCliffJudges$Shout;)V"⟩, 14) := ⟨⟨by decide +kernel, by decide +kernel⟩, List.mem_of_getElem? (i := 23) (by decide +kernel), List.mem_of_getElem? (i := 881) (by decide +kernel), List.mem_of_getElem? (i := 882) (by decide +kernel)⟩
theorem lw_p33 : lw_okq (⟨"CliffJudges", "loadCry", "(LCliffJudges$Shout;I)V"⟩, 14) := ⟨⟨by decide +kernel, by decide +kernel⟩, List.mem_of_getElem? (i := 23) (by decide +kernel), List.mem_of_getElem? (i := 886) (by decide +kernel), List.mem_of_getElem? (i := 887) (by decide +kernel)⟩
theorem lw_p34 : lw_okq (⟨"CliffJudges$Ear", "place", "(LCliffJudges$Hills;LCliffJudges$Shout;II)V"⟩, 5) := ⟨⟨by decide +kernel, by decide +kernel⟩, List.mem_of_getElem? (i := 378) (by decide +kernel), List.mem_of_getElem? (i := 909) (by decide +kernel), List.mem_of_getElem? (i := 910) (by decide +kernel)⟩
theorem lw_p35 : lw_okq (⟨"CliffJudges$Ear", "isLost", "(LCliffJudges$Hills;LCliffJudges$Shout;II)Z"⟩, 5) := ⟨⟨by decide +kernel, by decide +kernel⟩, List.mem_of_getElem? (i := 378) (by decide +kernel), List.mem_of_getElem? (i := 928) (by decide +kernel), List.mem_of_getElem? (i := 929) (by decide +kernel)⟩
theorem lw_p36 : lw_okq (⟨"CliffJudges$Moments", "goTo", "(I)V"⟩, 7) := ⟨⟨by decide +kernel, by decide +kernel⟩, List.mem_of_getElem? (i := 289) (by decide +kernel), List.mem_of_getElem? (i := 980) (by decide +kernel), List.mem_of_getElem? (i := 981) (by decide +kernel)⟩
theorem lw_p37 : lw_okq (⟨"CliffJudges", "layDown", "([II)V"⟩, 14) := ⟨⟨by decide +kernel, by decide +kernel⟩, List.mem_of_getElem? (i := 23) (by decide +kernel), List.mem_of_getElem? (i := 997) (by decide +kernel), List.mem_of_getElem? (i := 998) (by decide +kernel)⟩
theorem lw_p38 : lw_okq (⟨"CliffJudges$Cries", "countFrom", "(I)I"⟩, 8) := ⟨⟨by decide +kernel, by decide +kernel⟩, List.mem_of_getElem? (i := 418) (by decide +kernel), List.mem_of_getElem? (i := 1025) (by decide +kernel), List.mem_of_getElem? (i := 1026) (by decide +kernel)⟩
theorem lw_p39 : lw_okq (⟨"CliffJudges$Cries", "pardonsWithLast", "(II)Z"⟩, 8) := ⟨⟨by decide +kernel, by decide +kernel⟩, List.mem_of_getElem? (i := 418) (by decide +kernel), List.mem_of_getElem? (i := 1029) (by decide +kernel), List.mem_of_getElem? (i := 1030) (by decide +kernel)⟩
theorem lw_p40 : lw_okq (⟨"CliffJudges$Cries", "endState", "(LCliffJudges$Ear;II)I"⟩, 8) := ⟨⟨by decide +kernel, by decide +kernel⟩, List.mem_of_getElem? (i := 418) (by decide +kernel), List.mem_of_getElem? (i := 1035) (by decide +kernel), List.mem_of_getElem? (i := 1036) (by decide +kernel)⟩
theorem lw_p41 : lw_okq (⟨"CliffJudges$Cries", "straightPath", "(II)I"⟩, 8) := ⟨⟨by decide +kernel, by decide +kernel⟩, List.mem_of_getElem? (i := 418) (by decide +kernel), List.mem_of_getElem? (i := 1042) (by decide +kernel), List.mem_of_getElem? (i := 1043) (by decide +kernel)⟩
theorem lw_p42 : lw_okq (⟨"CliffJudges$Cries", "goOn", "(II)V"⟩, 8) := ⟨⟨by decide +kernel, by decide +kernel⟩, List.mem_of_getElem? (i := 418) (by decide +kernel), List.mem_of_getElem? (i := 1047) (by decide +kernel), List.mem_of_getElem? (i := 1048) (by decide +kernel)⟩
theorem lw_p43 : lw_okq (⟨"CliffJudges$Cries", "turnedPath", "(II)I"⟩, 8) := ⟨⟨by decide +kernel, by decide +kernel⟩, List.mem_of_getElem? (i := 418) (by decide +kernel), List.mem_of_getElem? (i := 1051) (by decide +kernel), List.mem_of_getElem? (i := 1052) (by decide +kernel)⟩
theorem lw_p44 : lw_okq (⟨"CliffJudges$Cries", "countWays", "(LCliffJudges$Ear;I)V"⟩, 8) := ⟨⟨by decide +kernel, by decide +kernel⟩, List.mem_of_getElem? (i := 418) (by decide +kernel), List.mem_of_getElem? (i := 1070) (by decide +kernel), List.mem_of_getElem? (i := 1071) (by decide +kernel)⟩
theorem lw_p45 : lw_okq (⟨"CliffJudges$Cries", "followWays", "(LCliffJudges$Ear;I)V"⟩, 8) := ⟨⟨by decide +kernel, by decide +kernel⟩, List.mem_of_getElem? (i := 418) (by decide +kernel), List.mem_of_getElem? (i := 1083) (by decide +kernel), List.mem_of_getElem? (i := 1084) (by decide +kernel)⟩
theorem lw_p46 : lw_okq (⟨"CliffJudges", "clearLedges", "(I)V"⟩, 14) := ⟨⟨by decide +kernel, by decide +kernel⟩, List.mem_of_getElem? (i := 23) (by decide +kernel), List.mem_of_getElem? (i := 1099) (by decide +kernel), List.mem_of_getElem? (i := 1100) (by decide +kernel)⟩
theorem lw_p47 : lw_okq (⟨"CliffJudges$Rhymes", "orderCliffs", "()V"⟩, 9) := ⟨⟨by decide +kernel, by decide +kernel⟩, List.mem_of_getElem? (i := 450) (by decide +kernel), List.mem_of_getElem? (i := 1112) (by decide +kernel), List.mem_of_getElem? (i := 1113) (by decide +kernel)⟩
def lw_privs_3 : List (MethodName × Nat) := [(⟨"CliffJudges", "loadWeather", "(LCliffJudges$Shout;)V"⟩, 14), (⟨"CliffJudges", "loadCry", "(LCliffJudges$Shout;I)V"⟩, 14), (⟨"CliffJudges$Ear", "place", "(LCliffJudges$Hills;LCliffJudges$Shout;II)V"⟩, 5), (⟨"CliffJudges$Ear", "isLost", "(LCliffJudges$Hills;LCliffJudges$Shout;II)Z"⟩, 5), (⟨"CliffJudges$Moments", "goTo", "(I)V"⟩, 7), (⟨"CliffJudges", "layDown", "([II)V"⟩, 14), (⟨"CliffJudges$Cries", "countFrom", "(I)I"⟩, 8), (⟨"CliffJudges$Cries", "pardonsWithLast", "(II)Z"⟩, 8), (⟨"CliffJudges$Cries", "endState", "(LCliffJudges$Ear;II)I"⟩, 8), (⟨"CliffJudges$Cries", "straightPath", "(II)I"⟩, 8), (⟨"CliffJudges$Cries", "goOn", "(II)V"⟩, 8), (⟨"CliffJudges$Cries", "turnedPath", "(II)I"⟩, 8), (⟨"CliffJudges$Cries", "countWays", "(LCliffJudges$Ear;I)V"⟩, 8), (⟨"CliffJudges$Cries", "followWays", "(LCliffJudges$Ear;I)V"⟩, 8), (⟨"CliffJudges", "clearLedges", "(I)V"⟩, 14), (⟨"CliffJudges$Rhymes", "orderCliffs", "()V"⟩, 9)]
theorem lw_r3 : ∀ q ∈ lw_privs_3, lw_okq q := List.forall_mem_cons.mpr ⟨lw_p32, List.forall_mem_cons.mpr ⟨lw_p33, List.forall_mem_cons.mpr ⟨lw_p34, List.forall_mem_cons.mpr ⟨lw_p35, List.forall_mem_cons.mpr ⟨lw_p36, List.forall_mem_cons.mpr ⟨lw_p37, List.forall_mem_cons.mpr ⟨lw_p38, List.forall_mem_cons.mpr ⟨lw_p39, List.forall_mem_cons.mpr ⟨lw_p40, List.forall_mem_cons.mpr ⟨lw_p41, List.forall_mem_cons.mpr ⟨lw_p42, List.forall_mem_cons.mpr ⟨lw_p43, List.forall_mem_cons.mpr ⟨lw_p44, List.forall_mem_cons.mpr ⟨lw_p45, List.forall_mem_cons.mpr ⟨lw_p46, List.forall_mem_cons.mpr ⟨lw_p47, fun _ h => absurd h List.not_mem_nil⟩⟩⟩⟩⟩⟩⟩⟩⟩⟩⟩⟩⟩⟩⟩⟩
theorem lw_p48 : lw_okq (⟨"CliffJudges$Rhymes", "findQuiet", "()V"⟩, 9) := ⟨⟨by decide +kernel, by decide +kernel⟩, List.mem_of_getElem? (i := 450) (by decide +kernel), List.mem_of_getElem? (i := 1117) (by decide +kernel), List.mem_of_getElem? (i := 1118) (by decide +kernel)⟩
theorem lw_p49 : lw_okq (⟨"CliffJudges$Rhymes", "choosePlaces", "(III)Z"⟩, 9) := ⟨⟨by decide +kernel, by decide +kernel⟩, List.mem_of_getElem? (i := 450) (by decide +kernel), List.mem_of_getElem? (i := 1121) (by decide +kernel), List.mem_of_getElem? (i := 1122) (by decide +kernel)⟩
theorem lw_p50 : lw_okq (⟨"CliffJudges$Rhymes", "canBeYes", "(I)Z"⟩, 9) := ⟨⟨by decide +kernel, by decide +kernel⟩, List.mem_of_getElem? (i := 450) (by decide +kernel), List.mem_of_getElem? (i := 1125) (by decide +kernel), List.mem_of_getElem? (i := 1126) (by decide +kernel)⟩
theorem lw_p51 : lw_okq (⟨"CliffJudges$Rhymes", "canBeYesBy", "(II)Z"⟩, 9) := ⟨⟨by decide +kernel, by decide +kernel⟩, List.mem_of_getElem? (i := 450) (by decide +kernel), List.mem_of_getElem? (i := 1129) (by decide +kernel), List.mem_of_getElem? (i := 1130) (by decide +kernel)⟩
theorem lw_p52 : lw_okq (⟨"CliffJudges$Rhymes", "choices", "(II)I"⟩, 9) := ⟨⟨by decide +kernel, by decide +kernel⟩, List.mem_of_getElem? (i := 450) (by decide +kernel), List.mem_of_getElem? (i := 1134) (by decide +kernel), List.mem_of_getElem? (i := 1135) (by decide +kernel)⟩
theorem lw_p53 : lw_okq (⟨"CliffJudges$Rhymes", "led", "(II)I"⟩, 9) := ⟨⟨by decide +kernel, by decide +kernel⟩, List.mem_of_getElem? (i := 450) (by decide +kernel), List.mem_of_getElem? (i := 1138) (by decide +kernel), List.mem_of_getElem? (i := 1139) (by decide +kernel)⟩
theorem lw_p54 : lw_okq (⟨"CliffJudges$Rhymes", "chooseWords", "(I)Z"⟩, 9) := ⟨⟨by decide +kernel, by decide +kernel⟩, List.mem_of_getElem? (i := 450) (by decide +kernel), List.mem_of_getElem? (i := 1142) (by decide +kernel), List.mem_of_getElem? (i := 1143) (by decide +kernel)⟩
theorem lw_p55 : lw_okq (⟨"CliffJudges$Rhymes", "isYesNow", "()Z"⟩, 9) := ⟨⟨by decide +kernel, by decide +kernel⟩, List.mem_of_getElem? (i := 450) (by decide +kernel), List.mem_of_getElem? (i := 1146) (by decide +kernel), List.mem_of_getElem? (i := 1147) (by decide +kernel)⟩
theorem lw_p56 : lw_okq (⟨"CliffJudges$Hills", "countStepsTo", "(I)V"⟩, 16) := ⟨⟨by decide +kernel, by decide +kernel⟩, List.mem_of_getElem? (i := 160) (by decide +kernel), List.mem_of_getElem? (i := 1176) (by decide +kernel), List.mem_of_getElem? (i := 1177) (by decide +kernel)⟩
theorem lw_p57 : lw_okq (⟨"CliffJudges$Hills", "leadsToOneAt", "(II)Z"⟩, 16) := ⟨⟨by decide +kernel, by decide +kernel⟩, List.mem_of_getElem? (i := 160) (by decide +kernel), List.mem_of_getElem? (i := 1180) (by decide +kernel), List.mem_of_getElem? (i := 1181) (by decide +kernel)⟩
theorem lw_p58 : lw_okq (⟨"CliffJudges$Hills", "firstWordNearer", "(I)I"⟩, 16) := ⟨⟨by decide +kernel, by decide +kernel⟩, List.mem_of_getElem? (i := 160) (by decide +kernel), List.mem_of_getElem? (i := 1184) (by decide +kernel), List.mem_of_getElem? (i := 1185) (by decide +kernel)⟩
theorem lw_p59 : lw_okq (⟨"CliffJudges$Sounds", "canBeAt", "(LCliffJudges$Hills;II)Z"⟩, 13) := ⟨⟨by decide +kernel, by decide +kernel⟩, List.mem_of_getElem? (i := 320) (by decide +kernel), List.mem_of_getElem? (i := 1221) (by decide +kernel), List.mem_of_getElem? (i := 1222) (by decide +kernel)⟩
theorem lw_p60 : lw_okq (⟨"CliffJudges$Sounds", "counts", "(II)Z"⟩, 13) := ⟨⟨by decide +kernel, by decide +kernel⟩, List.mem_of_getElem? (i := 320) (by decide +kernel), List.mem_of_getElem? (i := 1225) (by decide +kernel), List.mem_of_getElem? (i := 1226) (by decide +kernel)⟩
theorem lw_p61 : lw_okq (⟨"CliffJudges$Sounds", "sentTo", "(LCliffJudges$Hills;III)I"⟩, 13) := ⟨⟨by decide +kernel, by decide +kernel⟩, List.mem_of_getElem? (i := 320) (by decide +kernel), List.mem_of_getElem? (i := 1229) (by decide +kernel), List.mem_of_getElem? (i := 1230) (by decide +kernel)⟩
theorem lw_p62 : lw_okq (⟨"CliffJudges$Sounds", "mostLeftBehind", "(LCliffJudges$Hills;II)I"⟩, 13) := ⟨⟨by decide +kernel, by decide +kernel⟩, List.mem_of_getElem? (i := 320) (by decide +kernel), List.mem_of_getElem? (i := 1251) (by decide +kernel), List.mem_of_getElem? (i := 1252) (by decide +kernel)⟩
theorem lw_p63 : lw_okq (⟨"CliffJudgesModel", "four", "(I)V"⟩, 89) := ⟨⟨by decide +kernel, by decide +kernel⟩, List.mem_of_getElem? (i := 1279) (by decide +kernel), List.mem_of_getElem? (i := 1558) (by decide +kernel), List.mem_of_getElem? (i := 1559) (by decide +kernel)⟩
def lw_privs_4 : List (MethodName × Nat) := [(⟨"CliffJudges$Rhymes", "findQuiet", "()V"⟩, 9), (⟨"CliffJudges$Rhymes", "choosePlaces", "(III)Z"⟩, 9), (⟨"CliffJudges$Rhymes", "canBeYes", "(I)Z"⟩, 9), (⟨"CliffJudges$Rhymes", "canBeYesBy", "(II)Z"⟩, 9), (⟨"CliffJudges$Rhymes", "choices", "(II)I"⟩, 9), (⟨"CliffJudges$Rhymes", "led", "(II)I"⟩, 9), (⟨"CliffJudges$Rhymes", "chooseWords", "(I)Z"⟩, 9), (⟨"CliffJudges$Rhymes", "isYesNow", "()Z"⟩, 9), (⟨"CliffJudges$Hills", "countStepsTo", "(I)V"⟩, 16), (⟨"CliffJudges$Hills", "leadsToOneAt", "(II)Z"⟩, 16), (⟨"CliffJudges$Hills", "firstWordNearer", "(I)I"⟩, 16), (⟨"CliffJudges$Sounds", "canBeAt", "(LCliffJudges$Hills;II)Z"⟩, 13), (⟨"CliffJudges$Sounds", "counts", "(II)Z"⟩, 13), (⟨"CliffJudges$Sounds", "sentTo", "(LCliffJudges$Hills;III)I"⟩, 13), (⟨"CliffJudges$Sounds", "mostLeftBehind", "(LCliffJudges$Hills;II)I"⟩, 13), (⟨"CliffJudgesModel", "four", "(I)V"⟩, 89)]
theorem lw_r4 : ∀ q ∈ lw_privs_4, lw_okq q := List.forall_mem_cons.mpr ⟨lw_p48, List.forall_mem_cons.mpr ⟨lw_p49, List.forall_mem_cons.mpr ⟨lw_p50, List.forall_mem_cons.mpr ⟨lw_p51, List.forall_mem_cons.mpr ⟨lw_p52, List.forall_mem_cons.mpr ⟨lw_p53, List.forall_mem_cons.mpr ⟨lw_p54, List.forall_mem_cons.mpr ⟨lw_p55, List.forall_mem_cons.mpr ⟨lw_p56, List.forall_mem_cons.mpr ⟨lw_p57, List.forall_mem_cons.mpr ⟨lw_p58, List.forall_mem_cons.mpr ⟨lw_p59, List.forall_mem_cons.mpr ⟨lw_p60, List.forall_mem_cons.mpr ⟨lw_p61, List.forall_mem_cons.mpr ⟨lw_p62, List.forall_mem_cons.mpr ⟨lw_p63, fun _ h => absurd h List.not_mem_nil⟩⟩⟩⟩⟩⟩⟩⟩⟩⟩⟩⟩⟩⟩⟩⟩
theorem lw_p64 : lw_okq (⟨"CliffJudgesModel", "readAll", "()V"⟩, 89) := ⟨⟨by decide +kernel, by decide +kernel⟩, List.mem_of_getElem? (i := 1279) (by decide +kernel), List.mem_of_getElem? (i := 1570) (by decide +kernel), List.mem_of_getElem? (i := 1571) (by decide +kernel)⟩
theorem lw_p65 : lw_okq (⟨"CliffJudgesModel", "token", "()V"⟩, 89) := ⟨⟨by decide +kernel, by decide +kernel⟩, List.mem_of_getElem? (i := 1279) (by decide +kernel), List.mem_of_getElem? (i := 1574) (by decide +kernel), List.mem_of_getElem? (i := 1575) (by decide +kernel)⟩
theorem lw_p66 : lw_okq (⟨"CliffJudgesModel", "here", "(I)I"⟩, 89) := ⟨⟨by decide +kernel, by decide +kernel⟩, List.mem_of_getElem? (i := 1279) (by decide +kernel), List.mem_of_getElem? (i := 1578) (by decide +kernel), List.mem_of_getElem? (i := 1579) (by decide +kernel)⟩
theorem lw_p67 : lw_okq (⟨"CliffJudgesModel", "readLine", "()V"⟩, 89) := ⟨⟨by decide +kernel, by decide +kernel⟩, List.mem_of_getElem? (i := 1279) (by decide +kernel), List.mem_of_getElem? (i := 1591) (by decide +kernel), List.mem_of_getElem? (i := 1592) (by decide +kernel)⟩
theorem lw_p68 : lw_okq (⟨"CliffJudgesModel", "isWord", "(J)Z"⟩, 89) := ⟨⟨by decide +kernel, by decide +kernel⟩, List.mem_of_getElem? (i := 1279) (by decide +kernel), List.mem_of_getElem? (i := 1596) (by decide +kernel), List.mem_of_getElem? (i := 1597) (by decide +kernel)⟩
theorem lw_p69 : lw_okq (⟨"CliffJudgesModel", "readWord", "()V"⟩, 89) := ⟨⟨by decide +kernel, by decide +kernel⟩, List.mem_of_getElem? (i := 1279) (by decide +kernel), List.mem_of_getElem? (i := 1600) (by decide +kernel), List.mem_of_getElem? (i := 1601) (by decide +kernel)⟩
theorem lw_p70 : lw_okq (⟨"CliffJudgesModel", "newName", "(II)V"⟩, 89) := ⟨⟨by decide +kernel, by decide +kernel⟩, List.mem_of_getElem? (i := 1279) (by decide +kernel), List.mem_of_getElem? (i := 1604) (by decide +kernel), List.mem_of_getElem? (i := 1605) (by decide +kernel)⟩
theorem lw_p71 : lw_okq (⟨"CliffJudgesModel", "isName", "()Z"⟩, 89) := ⟨⟨by decide +kernel, by decide +kernel⟩, List.mem_of_getElem? (i := 1279) (by decide +kernel), List.mem_of_getElem? (i := 1608) (by decide +kernel), List.mem_of_getElem? (i := 1609) (by decide +kernel)⟩
theorem lw_p72 : lw_okq (⟨"CliffJudgesModel", "isOwn", "()Z"⟩, 89) := ⟨⟨by decide +kernel, by decide +kernel⟩, List.mem_of_getElem? (i := 1279) (by decide +kernel), List.mem_of_getElem? (i := 1612) (by decide +kernel), List.mem_of_getElem? (i := 1613) (by decide +kernel)⟩
theorem lw_p73 : lw_okq (⟨"CliffJudgesModel", "wrong", "(I)V"⟩, 89) := ⟨⟨by decide +kernel, by decide +kernel⟩, List.mem_of_getElem? (i := 1279) (by decide +kernel), List.mem_of_getElem? (i := 1639) (by decide +kernel), List.mem_of_getElem? (i := 1640) (by decide +kernel)⟩
theorem lw_p74 : lw_okq (⟨"CliffJudgesModel", "find", "(II)I"⟩, 89) := ⟨⟨by decide +kernel, by decide +kernel⟩, List.mem_of_getElem? (i := 1279) (by decide +kernel), List.mem_of_getElem? (i := 1643) (by decide +kernel), List.mem_of_getElem? (i := 1644) (by decide +kernel)⟩
theorem lw_p75 : lw_okq (⟨"CliffJudgesModel", "option", "(J)I"⟩, 89) := ⟨⟨by decide +kernel, by decide +kernel⟩, List.mem_of_getElem? (i := 1279) (by decide +kernel), List.mem_of_getElem? (i := 1647) (by decide +kernel), List.mem_of_getElem? (i := 1648) (by decide +kernel)⟩
theorem lw_p76 : lw_okq (⟨"CliffJudgesModel", "told", "(JII)I"⟩, 89) := ⟨⟨by decide +kernel, by decide +kernel⟩, List.mem_of_getElem? (i := 1279) (by decide +kernel), List.mem_of_getElem? (i := 1651) (by decide +kernel), List.mem_of_getElem? (i := 1652) (by decide +kernel)⟩
theorem lw_p77 : lw_okq (⟨"CliffJudgesModel", "want", "(J)V"⟩, 89) := ⟨⟨by decide +kernel, by decide +kernel⟩, List.mem_of_getElem? (i := 1279) (by decide +kernel), List.mem_of_getElem? (i := 1655) (by decide +kernel), List.mem_of_getElem? (i := 1656) (by decide +kernel)⟩
theorem lw_p78 : lw_okq (⟨"CliffJudgesModel", "toldNumber", "(II)I"⟩, 89) := ⟨⟨by decide +kernel, by decide +kernel⟩, List.mem_of_getElem? (i := 1279) (by decide +kernel), List.mem_of_getElem? (i := 1659) (by decide +kernel), List.mem_of_getElem? (i := 1660) (by decide +kernel)⟩
theorem lw_p79 : lw_okq (⟨"CliffJudgesModel", "readCliff", "()V"⟩, 89) := ⟨⟨by decide +kernel, by decide +kernel⟩, List.mem_of_getElem? (i := 1279) (by decide +kernel), List.mem_of_getElem? (i := 1663) (by decide +kernel), List.mem_of_getElem? (i := 1664) (by decide +kernel)⟩
def lw_privs_5 : List (MethodName × Nat) := [(⟨"CliffJudgesModel", "readAll", "()V"⟩, 89), (⟨"CliffJudgesModel", "token", "()V"⟩, 89), (⟨"CliffJudgesModel", "here", "(I)I"⟩, 89), (⟨"CliffJudgesModel", "readLine", "()V"⟩, 89), (⟨"CliffJudgesModel", "isWord", "(J)Z"⟩, 89), (⟨"CliffJudgesModel", "readWord", "()V"⟩, 89), (⟨"CliffJudgesModel", "newName", "(II)V"⟩, 89), (⟨"CliffJudgesModel", "isName", "()Z"⟩, 89), (⟨"CliffJudgesModel", "isOwn", "()Z"⟩, 89), (⟨"CliffJudgesModel", "wrong", "(I)V"⟩, 89), (⟨"CliffJudgesModel", "find", "(II)I"⟩, 89), (⟨"CliffJudgesModel", "option", "(J)I"⟩, 89), (⟨"CliffJudgesModel", "told", "(JII)I"⟩, 89), (⟨"CliffJudgesModel", "want", "(J)V"⟩, 89), (⟨"CliffJudgesModel", "toldNumber", "(II)I"⟩, 89), (⟨"CliffJudgesModel", "readCliff", "()V"⟩, 89)]
theorem lw_r5 : ∀ q ∈ lw_privs_5, lw_okq q := List.forall_mem_cons.mpr ⟨lw_p64, List.forall_mem_cons.mpr ⟨lw_p65, List.forall_mem_cons.mpr ⟨lw_p66, List.forall_mem_cons.mpr ⟨lw_p67, List.forall_mem_cons.mpr ⟨lw_p68, List.forall_mem_cons.mpr ⟨lw_p69, List.forall_mem_cons.mpr ⟨lw_p70, List.forall_mem_cons.mpr ⟨lw_p71, List.forall_mem_cons.mpr ⟨lw_p72, List.forall_mem_cons.mpr ⟨lw_p73, List.forall_mem_cons.mpr ⟨lw_p74, List.forall_mem_cons.mpr ⟨lw_p75, List.forall_mem_cons.mpr ⟨lw_p76, List.forall_mem_cons.mpr ⟨lw_p77, List.forall_mem_cons.mpr ⟨lw_p78, List.forall_mem_cons.mpr ⟨lw_p79, fun _ h => absurd h List.not_mem_nil⟩⟩⟩⟩⟩⟩⟩⟩⟩⟩⟩⟩⟩⟩⟩⟩
theorem lw_p80 : lw_okq (⟨"CliffJudgesModel", "readMan", "()V"⟩, 89) := ⟨⟨by decide +kernel, by decide +kernel⟩, List.mem_of_getElem? (i := 1279) (by decide +kernel), List.mem_of_getElem? (i := 1667) (by decide +kernel), List.mem_of_getElem? (i := 1668) (by decide +kernel)⟩
theorem lw_p81 : lw_okq (⟨"CliffJudgesModel", "readState", "()V"⟩, 89) := ⟨⟨by decide +kernel, by decide +kernel⟩, List.mem_of_getElem? (i := 1279) (by decide +kernel), List.mem_of_getElem? (i := 1671) (by decide +kernel), List.mem_of_getElem? (i := 1672) (by decide +kernel)⟩
theorem lw_p82 : lw_okq (⟨"CliffJudgesModel", "readOn", "()V"⟩, 89) := ⟨⟨by decide +kernel, by decide +kernel⟩, List.mem_of_getElem? (i := 1279) (by decide +kernel), List.mem_of_getElem? (i := 1675) (by decide +kernel), List.mem_of_getElem? (i := 1676) (by decide +kernel)⟩
theorem lw_p83 : lw_okq (⟨"CliffJudgesModel", "oldName", "(II)I"⟩, 89) := ⟨⟨by decide +kernel, by decide +kernel⟩, List.mem_of_getElem? (i := 1279) (by decide +kernel), List.mem_of_getElem? (i := 1679) (by decide +kernel), List.mem_of_getElem? (i := 1680) (by decide +kernel)⟩
theorem lw_p84 : lw_okq (⟨"CliffJudgesModel", "formula", "(I)V"⟩, 89) := ⟨⟨by decide +kernel, by decide +kernel⟩, List.mem_of_getElem? (i := 1279) (by decide +kernel), List.mem_of_getElem? (i := 1683) (by decide +kernel), List.mem_of_getElem? (i := 1684) (by decide +kernel)⟩
theorem lw_p85 : lw_okq (⟨"CliffJudgesModel", "unit", "()V"⟩, 89) := ⟨⟨by decide +kernel, by decide +kernel⟩, List.mem_of_getElem? (i := 1279) (by decide +kernel), List.mem_of_getElem? (i := 1687) (by decide +kernel), List.mem_of_getElem? (i := 1688) (by decide +kernel)⟩
theorem lw_p86 : lw_okq (⟨"CliffJudgesModel", "mayNot", "()Z"⟩, 89) := ⟨⟨by decide +kernel, by decide +kernel⟩, List.mem_of_getElem? (i := 1279) (by decide +kernel), List.mem_of_getElem? (i := 1691) (by decide +kernel), List.mem_of_getElem? (i := 1692) (by decide +kernel)⟩
theorem lw_p87 : lw_okq (⟨"CliffJudgesModel", "openUp", "(I)V"⟩, 89) := ⟨⟨by decide +kernel, by decide +kernel⟩, List.mem_of_getElem? (i := 1279) (by decide +kernel), List.mem_of_getElem? (i := 1698) (by decide +kernel), List.mem_of_getElem? (i := 1699) (by decide +kernel)⟩
theorem lw_p88 : lw_okq (⟨"CliffJudgesModel", "isFull", "()Z"⟩, 89) := ⟨⟨by decide +kernel, by decide +kernel⟩, List.mem_of_getElem? (i := 1279) (by decide +kernel), List.mem_of_getElem? (i := 1702) (by decide +kernel), List.mem_of_getElem? (i := 1703) (by decide +kernel)⟩
theorem lw_p89 : lw_okq (⟨"CliffJudgesModel", "countUnit", "()V"⟩, 89) := ⟨⟨by decide +kernel, by decide +kernel⟩, List.mem_of_getElem? (i := 1279) (by decide +kernel), List.mem_of_getElem? (i := 1706) (by decide +kernel), List.mem_of_getElem? (i := 1707) (by decide +kernel)⟩
theorem lw_p90 : lw_okq (⟨"CliffJudgesModel", "asked", "()I"⟩, 89) := ⟨⟨by decide +kernel, by decide +kernel⟩, List.mem_of_getElem? (i := 1279) (by decide +kernel), List.mem_of_getElem? (i := 1710) (by decide +kernel), List.mem_of_getElem? (i := 1711) (by decide +kernel)⟩
theorem lw_p91 : lw_okq (⟨"CliffJudgesModel", "add", "(II)V"⟩, 89) := ⟨⟨by decide +kernel, by decide +kernel⟩, List.mem_of_getElem? (i := 1279) (by decide +kernel), List.mem_of_getElem? (i := 1714) (by decide +kernel), List.mem_of_getElem? (i := 1715) (by decide +kernel)⟩
theorem lw_p92 : lw_okq (⟨"CliffJudgesModel", "sign", "()I"⟩, 89) := ⟨⟨by decide +kernel, by decide +kernel⟩, List.mem_of_getElem? (i := 1279) (by decide +kernel), List.mem_of_getElem? (i := 1718) (by decide +kernel), List.mem_of_getElem? (i := 1719) (by decide +kernel)⟩
theorem lw_p93 : lw_okq (⟨"CliffJudgesModel", "hasBracket", "()Z"⟩, 89) := ⟨⟨by decide +kernel, by decide +kernel⟩, List.mem_of_getElem? (i := 1279) (by decide +kernel), List.mem_of_getElem? (i := 1722) (by decide +kernel), List.mem_of_getElem? (i := 1723) (by decide +kernel)⟩
theorem lw_p94 : lw_okq (⟨"CliffJudgesModel", "close", "(I)V"⟩, 89) := ⟨⟨by decide +kernel, by decide +kernel⟩, List.mem_of_getElem? (i := 1279) (by decide +kernel), List.mem_of_getElem? (i := 1726) (by decide +kernel), List.mem_of_getElem? (i := 1727) (by decide +kernel)⟩
theorem lw_p95 : lw_okq (⟨"CliffJudgesModel", "hasRelation", "()Z"⟩, 89) := ⟨⟨by decide +kernel, by decide +kernel⟩, List.mem_of_getElem? (i := 1279) (by decide +kernel), List.mem_of_getElem? (i := 1730) (by decide +kernel), List.mem_of_getElem? (i := 1731) (by decide +kernel)⟩
def lw_privs_6 : List (MethodName × Nat) := [(⟨"CliffJudgesModel", "readMan", "()V"⟩, 89), (⟨"CliffJudgesModel", "readState", "()V"⟩, 89), (⟨"CliffJudgesModel", "readOn", "()V"⟩, 89), (⟨"CliffJudgesModel", "oldName", "(II)I"⟩, 89), (⟨"CliffJudgesModel", "formula", "(I)V"⟩, 89), (⟨"CliffJudgesModel", "unit", "()V"⟩, 89), (⟨"CliffJudgesModel", "mayNot", "()Z"⟩, 89), (⟨"CliffJudgesModel", "openUp", "(I)V"⟩, 89), (⟨"CliffJudgesModel", "isFull", "()Z"⟩, 89), (⟨"CliffJudgesModel", "countUnit", "()V"⟩, 89), (⟨"CliffJudgesModel", "asked", "()I"⟩, 89), (⟨"CliffJudgesModel", "add", "(II)V"⟩, 89), (⟨"CliffJudgesModel", "sign", "()I"⟩, 89), (⟨"CliffJudgesModel", "hasBracket", "()Z"⟩, 89), (⟨"CliffJudgesModel", "close", "(I)V"⟩, 89), (⟨"CliffJudgesModel", "hasRelation", "()Z"⟩, 89)]
theorem lw_r6 : ∀ q ∈ lw_privs_6, lw_okq q := List.forall_mem_cons.mpr ⟨lw_p80, List.forall_mem_cons.mpr ⟨lw_p81, List.forall_mem_cons.mpr ⟨lw_p82, List.forall_mem_cons.mpr ⟨lw_p83, List.forall_mem_cons.mpr ⟨lw_p84, List.forall_mem_cons.mpr ⟨lw_p85, List.forall_mem_cons.mpr ⟨lw_p86, List.forall_mem_cons.mpr ⟨lw_p87, List.forall_mem_cons.mpr ⟨lw_p88, List.forall_mem_cons.mpr ⟨lw_p89, List.forall_mem_cons.mpr ⟨lw_p90, List.forall_mem_cons.mpr ⟨lw_p91, List.forall_mem_cons.mpr ⟨lw_p92, List.forall_mem_cons.mpr ⟨lw_p93, List.forall_mem_cons.mpr ⟨lw_p94, List.forall_mem_cons.mpr ⟨lw_p95, fun _ h => absurd h List.not_mem_nil⟩⟩⟩⟩⟩⟩⟩⟩⟩⟩⟩⟩⟩⟩⟩⟩
theorem lw_p96 : lw_okq (⟨"CliffJudgesModel", "isCliff", "(I)Z"⟩, 89) := ⟨⟨by decide +kernel, by decide +kernel⟩, List.mem_of_getElem? (i := 1279) (by decide +kernel), List.mem_of_getElem? (i := 1742) (by decide +kernel), List.mem_of_getElem? (i := 1743) (by decide +kernel)⟩
theorem lw_p97 : lw_okq (⟨"CliffJudgesModel", "isMan", "(I)Z"⟩, 89) := ⟨⟨by decide +kernel, by decide +kernel⟩, List.mem_of_getElem? (i := 1279) (by decide +kernel), List.mem_of_getElem? (i := 1753) (by decide +kernel), List.mem_of_getElem? (i := 1754) (by decide +kernel)⟩
theorem lw_p98 : lw_okq (⟨"CliffJudgesModel", "isState", "(I)Z"⟩, 89) := ⟨⟨by decide +kernel, by decide +kernel⟩, List.mem_of_getElem? (i := 1279) (by decide +kernel), List.mem_of_getElem? (i := 1761) (by decide +kernel), List.mem_of_getElem? (i := 1762) (by decide +kernel)⟩
theorem lw_p99 : lw_okq (⟨"CliffJudgesModel", "isSaid", "(I)Z"⟩, 89) := ⟨⟨by decide +kernel, by decide +kernel⟩, List.mem_of_getElem? (i := 1279) (by decide +kernel), List.mem_of_getElem? (i := 1765) (by decide +kernel), List.mem_of_getElem? (i := 1766) (by decide +kernel)⟩
theorem lw_p100 : lw_okq (⟨"CliffJudgesModel", "leadsTo", "(II)I"⟩, 89) := ⟨⟨by decide +kernel, by decide +kernel⟩, List.mem_of_getElem? (i := 1279) (by decide +kernel), List.mem_of_getElem? (i := 1769) (by decide +kernel), List.mem_of_getElem? (i := 1770) (by decide +kernel)⟩
theorem lw_p101 : lw_okq (⟨"CliffJudgesModel", "act", "()V"⟩, 89) := ⟨⟨by decide +kernel, by decide +kernel⟩, List.mem_of_getElem? (i := 1279) (by decide +kernel), List.mem_of_getElem? (i := 1780) (by decide +kernel), List.mem_of_getElem? (i := 1781) (by decide +kernel)⟩
theorem lw_p102 : lw_okq (⟨"CliffJudgesModel", "load", "(I)V"⟩, 89) := ⟨⟨by decide +kernel, by decide +kernel⟩, List.mem_of_getElem? (i := 1279) (by decide +kernel), List.mem_of_getElem? (i := 1796) (by decide +kernel), List.mem_of_getElem? (i := 1797) (by decide +kernel)⟩
theorem lw_p103 : lw_okq (⟨"CliffJudgesModel", "loadSky", "()V"⟩, 89) := ⟨⟨by decide +kernel, by decide +kernel⟩, List.mem_of_getElem? (i := 1279) (by decide +kernel), List.mem_of_getElem? (i := 1800) (by decide +kernel), List.mem_of_getElem? (i := 1801) (by decide +kernel)⟩
theorem lw_p104 : lw_okq (⟨"CliffJudgesModel", "loadCry", "(I)V"⟩, 89) := ⟨⟨by decide +kernel, by decide +kernel⟩, List.mem_of_getElem? (i := 1279) (by decide +kernel), List.mem_of_getElem? (i := 1804) (by decide +kernel), List.mem_of_getElem? (i := 1805) (by decide +kernel)⟩
theorem lw_p105 : lw_okq (⟨"CliffJudgesModel", "loadMan", "(I)V"⟩, 89) := ⟨⟨by decide +kernel, by decide +kernel⟩, List.mem_of_getElem? (i := 1279) (by decide +kernel), List.mem_of_getElem? (i := 1808) (by decide +kernel), List.mem_of_getElem? (i := 1809) (by decide +kernel)⟩
theorem lw_p106 : lw_okq (⟨"CliffJudgesModel", "verdict", "()I"⟩, 89) := ⟨⟨by decide +kernel, by decide +kernel⟩, List.mem_of_getElem? (i := 1279) (by decide +kernel), List.mem_of_getElem? (i := 1812) (by decide +kernel), List.mem_of_getElem? (i := 1813) (by decide +kernel)⟩
theorem lw_p107 : lw_okq (⟨"CliffJudgesModel", "bindsAtHand", "()I"⟩, 89) := ⟨⟨by decide +kernel, by decide +kernel⟩, List.mem_of_getElem? (i := 1279) (by decide +kernel), List.mem_of_getElem? (i := 1816) (by decide +kernel), List.mem_of_getElem? (i := 1817) (by decide +kernel)⟩
theorem lw_p108 : lw_okq (⟨"CliffJudgesModel", "sendFrom", "(I)V"⟩, 89) := ⟨⟨by decide +kernel, by decide +kernel⟩, List.mem_of_getElem? (i := 1279) (by decide +kernel), List.mem_of_getElem? (i := 1820) (by decide +kernel), List.mem_of_getElem? (i := 1821) (by decide +kernel)⟩
theorem lw_p109 : lw_okq (⟨"CliffJudgesModel", "addEcho", "(I)V"⟩, 89) := ⟨⟨by decide +kernel, by decide +kernel⟩, List.mem_of_getElem? (i := 1279) (by decide +kernel), List.mem_of_getElem? (i := 1824) (by decide +kernel), List.mem_of_getElem? (i := 1825) (by decide +kernel)⟩
theorem lw_p110 : lw_okq (⟨"CliffJudgesModel", "farOf", "(I)I"⟩, 89) := ⟨⟨by decide +kernel, by decide +kernel⟩, List.mem_of_getElem? (i := 1279) (by decide +kernel), List.mem_of_getElem? (i := 1828) (by decide +kernel), List.mem_of_getElem? (i := 1829) (by decide +kernel)⟩
theorem lw_p111 : lw_okq (⟨"CliffJudgesModel", "backOf", "(IIII)I"⟩, 89) := ⟨⟨by decide +kernel, by decide +kernel⟩, List.mem_of_getElem? (i := 1279) (by decide +kernel), List.mem_of_getElem? (i := 1835) (by decide +kernel), List.mem_of_getElem? (i := 1836) (by decide +kernel)⟩
def lw_privs_7 : List (MethodName × Nat) := [(⟨"CliffJudgesModel", "isCliff", "(I)Z"⟩, 89), (⟨"CliffJudgesModel", "isMan", "(I)Z"⟩, 89), (⟨"CliffJudgesModel", "isState", "(I)Z"⟩, 89), (⟨"CliffJudgesModel", "isSaid", "(I)Z"⟩, 89), (⟨"CliffJudgesModel", "leadsTo", "(II)I"⟩, 89), (⟨"CliffJudgesModel", "act", "()V"⟩, 89), (⟨"CliffJudgesModel", "load", "(I)V"⟩, 89), (⟨"CliffJudgesModel", "loadSky", "()V"⟩, 89), (⟨"CliffJudgesModel", "loadCry", "(I)V"⟩, 89), (⟨"CliffJudgesModel", "loadMan", "(I)V"⟩, 89), (⟨"CliffJudgesModel", "verdict", "()I"⟩, 89), (⟨"CliffJudgesModel", "bindsAtHand", "()I"⟩, 89), (⟨"CliffJudgesModel", "sendFrom", "(I)V"⟩, 89), (⟨"CliffJudgesModel", "addEcho", "(I)V"⟩, 89), (⟨"CliffJudgesModel", "farOf", "(I)I"⟩, 89), (⟨"CliffJudgesModel", "backOf", "(IIII)I"⟩, 89)]
theorem lw_r7 : ∀ q ∈ lw_privs_7, lw_okq q := List.forall_mem_cons.mpr ⟨lw_p96, List.forall_mem_cons.mpr ⟨lw_p97, List.forall_mem_cons.mpr ⟨lw_p98, List.forall_mem_cons.mpr ⟨lw_p99, List.forall_mem_cons.mpr ⟨lw_p100, List.forall_mem_cons.mpr ⟨lw_p101, List.forall_mem_cons.mpr ⟨lw_p102, List.forall_mem_cons.mpr ⟨lw_p103, List.forall_mem_cons.mpr ⟨lw_p104, List.forall_mem_cons.mpr ⟨lw_p105, List.forall_mem_cons.mpr ⟨lw_p106, List.forall_mem_cons.mpr ⟨lw_p107, List.forall_mem_cons.mpr ⟨lw_p108, List.forall_mem_cons.mpr ⟨lw_p109, List.forall_mem_cons.mpr ⟨lw_p110, List.forall_mem_cons.mpr ⟨lw_p111, fun _ h => absurd h List.not_mem_nil⟩⟩⟩⟩⟩⟩⟩⟩⟩⟩⟩⟩⟩⟩⟩⟩
theorem lw_p112 : lw_okq (⟨"CliffJudgesModel", "askOf", "(IIII)V"⟩, 89) := ⟨⟨by decide +kernel, by decide +kernel⟩, List.mem_of_getElem? (i := 1279) (by decide +kernel), List.mem_of_getElem? (i := 1839) (by decide +kernel), List.mem_of_getElem? (i := 1840) (by decide +kernel)⟩
theorem lw_p113 : lw_okq (⟨"CliffJudgesModel", "worked", "(I)I"⟩, 89) := ⟨⟨by decide +kernel, by decide +kernel⟩, List.mem_of_getElem? (i := 1279) (by decide +kernel), List.mem_of_getElem? (i := 1843) (by decide +kernel), List.mem_of_getElem? (i := 1844) (by decide +kernel)⟩
theorem lw_p114 : lw_okq (⟨"CliffJudgesModel", "isLost", "(II)Z"⟩, 89) := ⟨⟨by decide +kernel, by decide +kernel⟩, List.mem_of_getElem? (i := 1279) (by decide +kernel), List.mem_of_getElem? (i := 1853) (by decide +kernel), List.mem_of_getElem? (i := 1854) (by decide +kernel)⟩
theorem lw_p115 : lw_okq (⟨"CliffJudgesModel", "isYes", "()Z"⟩, 89) := ⟨⟨by decide +kernel, by decide +kernel⟩, List.mem_of_getElem? (i := 1279) (by decide +kernel), List.mem_of_getElem? (i := 1857) (by decide +kernel), List.mem_of_getElem? (i := 1858) (by decide +kernel)⟩
theorem lw_p116 : lw_okq (⟨"CliffJudgesModel", "exchange", "(I)V"⟩, 89) := ⟨⟨by decide +kernel, by decide +kernel⟩, List.mem_of_getElem? (i := 1279) (by decide +kernel), List.mem_of_getElem? (i := 1873) (by decide +kernel), List.mem_of_getElem? (i := 1874) (by decide +kernel)⟩
theorem lw_p117 : lw_okq (⟨"CliffJudgesModel", "rowsOf", "(I)I"⟩, 89) := ⟨⟨by decide +kernel, by decide +kernel⟩, List.mem_of_getElem? (i := 1279) (by decide +kernel), List.mem_of_getElem? (i := 1897) (by decide +kernel), List.mem_of_getElem? (i := 1898) (by decide +kernel)⟩
theorem lw_p118 : lw_okq (⟨"CliffJudgesModel", "layCry", "(II)V"⟩, 89) := ⟨⟨by decide +kernel, by decide +kernel⟩, List.mem_of_getElem? (i := 1279) (by decide +kernel), List.mem_of_getElem? (i := 1901) (by decide +kernel), List.mem_of_getElem? (i := 1902) (by decide +kernel)⟩
theorem lw_p119 : lw_okq (⟨"CliffJudgesModel", "isPardon", "()Z"⟩, 89) := ⟨⟨by decide +kernel, by decide +kernel⟩, List.mem_of_getElem? (i := 1279) (by decide +kernel), List.mem_of_getElem? (i := 1905) (by decide +kernel), List.mem_of_getElem? (i := 1906) (by decide +kernel)⟩
theorem lw_p120 : lw_okq (⟨"CliffJudgesModel", "putCry", "(I)V"⟩, 89) := ⟨⟨by decide +kernel, by decide +kernel⟩, List.mem_of_getElem? (i := 1279) (by decide +kernel), List.mem_of_getElem? (i := 1909) (by decide +kernel), List.mem_of_getElem? (i := 1910) (by decide +kernel)⟩
theorem lw_p121 : lw_okq (⟨"CliffJudgesModel", "isOther", "()Z"⟩, 89) := ⟨⟨by decide +kernel, by decide +kernel⟩, List.mem_of_getElem? (i := 1279) (by decide +kernel), List.mem_of_getElem? (i := 1921) (by decide +kernel), List.mem_of_getElem? (i := 1922) (by decide +kernel)⟩
theorem lw_p122 : lw_okq (⟨"CliffJudgesModel", "rhymesAt", "(I)Z"⟩, 89) := ⟨⟨by decide +kernel, by decide +kernel⟩, List.mem_of_getElem? (i := 1279) (by decide +kernel), List.mem_of_getElem? (i := 1940) (by decide +kernel), List.mem_of_getElem? (i := 1941) (by decide +kernel)⟩
theorem lw_p123 : lw_okq (⟨"CliffJudgesModel", "layOthers", "(II)Z"⟩, 89) := ⟨⟨by decide +kernel, by decide +kernel⟩, List.mem_of_getElem? (i := 1279) (by decide +kernel), List.mem_of_getElem? (i := 1944) (by decide +kernel), List.mem_of_getElem? (i := 1945) (by decide +kernel)⟩
theorem lw_p124 : lw_okq (⟨"CliffJudgesModel", "nextSpots", "(I)Z"⟩, 89) := ⟨⟨by decide +kernel, by decide +kernel⟩, List.mem_of_getElem? (i := 1279) (by decide +kernel), List.mem_of_getElem? (i := 1948) (by decide +kernel), List.mem_of_getElem? (i := 1949) (by decide +kernel)⟩
theorem lw_p125 : lw_okq (⟨"CliffJudgesModel", "sendBoth", "(III)V"⟩, 89) := ⟨⟨by decide +kernel, by decide +kernel⟩, List.mem_of_getElem? (i := 1279) (by decide +kernel), List.mem_of_getElem? (i := 1956) (by decide +kernel), List.mem_of_getElem? (i := 1957) (by decide +kernel)⟩
theorem lw_p126 : lw_okq (⟨"CliffJudgesModel", "layStands", "(I)V"⟩, 89) := ⟨⟨by decide +kernel, by decide +kernel⟩, List.mem_of_getElem? (i := 1279) (by decide +kernel), List.mem_of_getElem? (i := 1997) (by decide +kernel), List.mem_of_getElem? (i := 1998) (by decide +kernel)⟩
theorem lw_p127 : lw_okq (⟨"CliffJudgesModel", "cameFrom", "(III)I"⟩, 89) := ⟨⟨by decide +kernel, by decide +kernel⟩, List.mem_of_getElem? (i := 1279) (by decide +kernel), List.mem_of_getElem? (i := 2001) (by decide +kernel), List.mem_of_getElem? (i := 2002) (by decide +kernel)⟩
def lw_privs_8 : List (MethodName × Nat) := [(⟨"CliffJudgesModel", "askOf", "(IIII)V"⟩, 89), (⟨"CliffJudgesModel", "worked", "(I)I"⟩, 89), (⟨"CliffJudgesModel", "isLost", "(II)Z"⟩, 89), (⟨"CliffJudgesModel", "isYes", "()Z"⟩, 89), (⟨"CliffJudgesModel", "exchange", "(I)V"⟩, 89), (⟨"CliffJudgesModel", "rowsOf", "(I)I"⟩, 89), (⟨"CliffJudgesModel", "layCry", "(II)V"⟩, 89), (⟨"CliffJudgesModel", "isPardon", "()Z"⟩, 89), (⟨"CliffJudgesModel", "putCry", "(I)V"⟩, 89), (⟨"CliffJudgesModel", "isOther", "()Z"⟩, 89), (⟨"CliffJudgesModel", "rhymesAt", "(I)Z"⟩, 89), (⟨"CliffJudgesModel", "layOthers", "(II)Z"⟩, 89), (⟨"CliffJudgesModel", "nextSpots", "(I)Z"⟩, 89), (⟨"CliffJudgesModel", "sendBoth", "(III)V"⟩, 89), (⟨"CliffJudgesModel", "layStands", "(I)V"⟩, 89), (⟨"CliffJudgesModel", "cameFrom", "(III)I"⟩, 89)]
theorem lw_r8 : ∀ q ∈ lw_privs_8, lw_okq q := List.forall_mem_cons.mpr ⟨lw_p112, List.forall_mem_cons.mpr ⟨lw_p113, List.forall_mem_cons.mpr ⟨lw_p114, List.forall_mem_cons.mpr ⟨lw_p115, List.forall_mem_cons.mpr ⟨lw_p116, List.forall_mem_cons.mpr ⟨lw_p117, List.forall_mem_cons.mpr ⟨lw_p118, List.forall_mem_cons.mpr ⟨lw_p119, List.forall_mem_cons.mpr ⟨lw_p120, List.forall_mem_cons.mpr ⟨lw_p121, List.forall_mem_cons.mpr ⟨lw_p122, List.forall_mem_cons.mpr ⟨lw_p123, List.forall_mem_cons.mpr ⟨lw_p124, List.forall_mem_cons.mpr ⟨lw_p125, List.forall_mem_cons.mpr ⟨lw_p126, List.forall_mem_cons.mpr ⟨lw_p127, fun _ h => absurd h List.not_mem_nil⟩⟩⟩⟩⟩⟩⟩⟩⟩⟩⟩⟩⟩⟩⟩⟩
theorem lw_p128 : lw_okq (⟨"CliffJudgesModel", "leftBy", "(II)I"⟩, 89) := ⟨⟨by decide +kernel, by decide +kernel⟩, List.mem_of_getElem? (i := 1279) (by decide +kernel), List.mem_of_getElem? (i := 2009) (by decide +kernel), List.mem_of_getElem? (i := 2010) (by decide +kernel)⟩
def lw_privs_9 : List (MethodName × Nat) := [(⟨"CliffJudgesModel", "leftBy", "(II)I"⟩, 89)]
theorem lw_r9 : ∀ q ∈ lw_privs_9, lw_okq q := List.forall_mem_cons.mpr ⟨lw_p128, fun _ h => absurd h List.not_mem_nil⟩
def lw_privs : List (MethodName × Nat) := lw_privs_1 ++ (lw_privs_2 ++ (lw_privs_3 ++ (lw_privs_4 ++ (lw_privs_5 ++ (lw_privs_6 ++ (lw_privs_7 ++ (lw_privs_8 ++ (lw_privs_9))))))))
def lw_tbl : List Cond := k2_sels lw_privs ++ tables_1
theorem lw_privs_ok : ∀ q ∈ lw_privs, lw_okq q := by
  show ∀ q ∈ lw_privs_1 ++ (lw_privs_2 ++ (lw_privs_3 ++ (lw_privs_4 ++ (lw_privs_5 ++ (lw_privs_6 ++ (lw_privs_7 ++ (lw_privs_8 ++ (lw_privs_9)))))))), lw_okq q
  exact List.forall_mem_append.mpr ⟨lw_r1, List.forall_mem_append.mpr ⟨lw_r2, List.forall_mem_append.mpr ⟨lw_r3, List.forall_mem_append.mpr ⟨lw_r4, List.forall_mem_append.mpr ⟨lw_r5, List.forall_mem_append.mpr ⟨lw_r6, List.forall_mem_append.mpr ⟨lw_r7, List.forall_mem_append.mpr ⟨lw_r8, lw_r9⟩⟩⟩⟩⟩⟩⟩⟩
end
section
def RX0 : String := "CliffJudges$Court"
def TX0 : u_T := fun k => match k with
  | 0 => ("CliffJudges$Court", "ears", "[LCliffJudges$Ear;", true)
  | 1 => ("CliffJudges$Court", "row", "[I", true)
  | _ => ("CliffJudges$Court", "bound", "I", false)
def tyX0 : Nat → FieldType := fun k => match k with
  | 0 => .array (.object "CliffJudges$Ear")
  | 1 => .array .int
  | _ => .int
abbrev wsX00 : List Cond := u_ws RX0 TX0 3
theorem nmX0 : ∀ a, a < 3 → ∀ b, b < 3 → a ≠ b → (TX0 a).2.1 ≠ (TX0 b).2.1 := by decide +kernel
theorem tyX0_ok : ∀ k, k < 3 → parseFieldDescriptor (TX0 k).2.2.1 = some (tyX0 k) := by decide +kernel
abbrev cX0_init : ByteArray := prog_2_method_1_code
def yX0_init : MethodName := ⟨RX0, "<init>", "()V"⟩
abbrev cX0_listen : ByteArray := prog_2_method_2_code
def yX0_listen : MethodName := ⟨RX0, "listen", "(LCliffJudges$Hills;LCliffJudges$Shout;II)I"⟩
abbrev cX0_verdict : ByteArray := prog_2_method_3_code
def yX0_verdict : MethodName := ⟨RX0, "verdict", "(LCliffJudges$Hills;LCliffJudges$Shout;LCliffJudges$Shout;)I"⟩
def RX1 : String := "CliffJudges$Cries"
def TX1 : u_T := fun k => match k with
  | 0 => ("CliffJudges$Cries", "cry", "[I", true)
  | 1 => ("CliffJudges$Cries", "ears", "[LCliffJudges$Ear;", true)
  | 2 => ("CliffJudges$Cries", "paths", "[I", true)
  | 3 => ("CliffJudges$Cries", "wanted", "[I", true)
  | 4 => ("CliffJudges$Cries", "ways", "[I", true)
  | 5 => ("CliffJudges$Cries", "hills", "LCliffJudges$Hills;", false)
  | 6 => ("CliffJudges$Cries", "length", "I", false)
  | _ => ("CliffJudges$Cries", "oneWillDo", "Z", false)
def tyX1 : Nat → FieldType := fun k => match k with
  | 0 => .array .int
  | 1 => .array (.object "CliffJudges$Ear")
  | 2 => .array .int
  | 3 => .array .int
  | 4 => .array .int
  | 5 => .object "CliffJudges$Hills"
  | 6 => .int
  | _ => .boolean
abbrev wsX10 : List Cond := u_ws RX1 TX1 8
theorem nmX1 : ∀ a, a < 8 → ∀ b, b < 8 → a ≠ b → (TX1 a).2.1 ≠ (TX1 b).2.1 := by decide +kernel
theorem tyX1_ok : ∀ k, k < 8 → parseFieldDescriptor (TX1 k).2.2.1 = some (tyX1 k) := by decide +kernel
abbrev cX1_init : ByteArray := prog_3_method_1_code
def yX1_init : MethodName := ⟨RX1, "<init>", "(LCliffJudges$Court;)V"⟩
abbrev cX1_pardonsOf : ByteArray := prog_3_method_2_code
def yX1_pardonsOf : MethodName := ⟨RX1, "pardonsOf", "(LCliffJudges$Hills;LCliffJudges$Shout;IZ)I"⟩
abbrev cX1_unmoved : ByteArray := prog_3_method_3_code
def yX1_unmoved : MethodName := ⟨RX1, "unmoved", "()I"⟩
abbrev cX1_countFrom : ByteArray := prog_3_method_4_code
def yX1_countFrom : MethodName := ⟨RX1, "countFrom", "(I)I"⟩
abbrev cX1_goOn : ByteArray := prog_3_method_5_code
def yX1_goOn : MethodName := ⟨RX1, "goOn", "(II)V"⟩
abbrev cX1_stateOf : ByteArray := prog_3_method_6_code
def yX1_stateOf : MethodName := ⟨RX1, "stateOf", "(II)I"⟩
abbrev cX1_straightPath : ByteArray := prog_3_method_7_code
def yX1_straightPath : MethodName := ⟨RX1, "straightPath", "(II)I"⟩
abbrev cX1_turnedPath : ByteArray := prog_3_method_8_code
def yX1_turnedPath : MethodName := ⟨RX1, "turnedPath", "(II)I"⟩
abbrev cX1_pardonsWithLast : ByteArray := prog_3_method_9_code
def yX1_pardonsWithLast : MethodName := ⟨RX1, "pardonsWithLast", "(II)Z"⟩
abbrev cX1_endState : ByteArray := prog_3_method_10_code
def yX1_endState : MethodName := ⟨RX1, "endState", "(LCliffJudges$Ear;II)I"⟩
abbrev cX1_aheadOf : ByteArray := prog_3_method_11_code
def yX1_aheadOf : MethodName := ⟨RX1, "aheadOf", "(LCliffJudges$Hills;LCliffJudges$Shout;IILCliffJudges$Shout;)I"⟩
abbrev cX1_wayIndex : ByteArray := prog_3_method_12_code
def yX1_wayIndex : MethodName := ⟨RX1, "wayIndex", "(II)I"⟩
abbrev cX1_countWays : ByteArray := prog_3_method_13_code
def yX1_countWays : MethodName := ⟨RX1, "countWays", "(LCliffJudges$Ear;I)V"⟩
abbrev cX1_followWays : ByteArray := prog_3_method_14_code
def yX1_followWays : MethodName := ⟨RX1, "followWays", "(LCliffJudges$Ear;I)V"⟩
def RX2 : String := "CliffJudges$Ear"
def TX2 : u_T := fun k => match k with
  | 0 => ("CliffJudges$Ear", "gone", "[I", true)
  | 1 => ("CliffJudges$Ear", "facts", "[I", true)
  | 2 => ("CliffJudges$Ear", "turned", "Z", false)
  | 3 => ("CliffJudges$Ear", "length", "I", false)
  | _ => ("CliffJudges$Ear", "first", "I", false)
def tyX2 : Nat → FieldType := fun k => match k with
  | 0 => .array .int
  | 1 => .array .int
  | 2 => .boolean
  | 3 => .int
  | _ => .int
abbrev wsX20 : List Cond := u_ws RX2 TX2 5
theorem nmX2 : ∀ a, a < 5 → ∀ b, b < 5 → a ≠ b → (TX2 a).2.1 ≠ (TX2 b).2.1 := by decide +kernel
theorem tyX2_ok : ∀ k, k < 5 → parseFieldDescriptor (TX2 k).2.2.1 = some (tyX2 k) := by decide +kernel
abbrev cX2_init : ByteArray := prog_4_method_1_code
def yX2_init : MethodName := ⟨RX2, "<init>", "()V"⟩
abbrev cX2_tune : ByteArray := prog_4_method_2_code
def yX2_tune : MethodName := ⟨RX2, "tune", "(LCliffJudges$Hills;LCliffJudges$Shout;I)V"⟩
abbrev cX2_tuneToAll : ByteArray := prog_4_method_3_code
def yX2_tuneToAll : MethodName := ⟨RX2, "tuneToAll", "(LCliffJudges$Hills;LCliffJudges$Shout;II)V"⟩
abbrev cX2_place : ByteArray := prog_4_method_4_code
def yX2_place : MethodName := ⟨RX2, "place", "(LCliffJudges$Hills;LCliffJudges$Shout;II)V"⟩
abbrev cX2_isLost : ByteArray := prog_4_method_5_code
def yX2_isLost : MethodName := ⟨RX2, "isLost", "(LCliffJudges$Hills;LCliffJudges$Shout;II)Z"⟩
abbrev cX2_comesBack : ByteArray := prog_4_method_6_code
def yX2_comesBack : MethodName := ⟨RX2, "comesBack", "(II)Z"⟩
abbrev cX2_placeOf : ByteArray := prog_4_method_7_code
def yX2_placeOf : MethodName := ⟨RX2, "placeOf", "(I)I"⟩
abbrev cX2_send : ByteArray := prog_4_method_8_code
def yX2_send : MethodName := ⟨RX2, "send", "([I[II)I"⟩
def RX3 : String := "CliffJudges$Formula"
def TX3 : u_T := fun k => match k with
  | 0 => ("CliffJudges$Formula", "code", "[I", true)
  | 1 => ("CliffJudges$Formula", "stack", "[I", true)
  | 2 => ("CliffJudges$Formula", "length", "I", false)
  | _ => ("CliffJudges$Formula", "told", "Z", false)
def tyX3 : Nat → FieldType := fun k => match k with
  | 0 => .array .int
  | 1 => .array .int
  | 2 => .int
  | _ => .boolean
abbrev wsX30 : List Cond := u_ws RX3 TX3 4
theorem nmX3 : ∀ a, a < 4 → ∀ b, b < 4 → a ≠ b → (TX3 a).2.1 ≠ (TX3 b).2.1 := by decide +kernel
theorem tyX3_ok : ∀ k, k < 4 → parseFieldDescriptor (TX3 k).2.2.1 = some (tyX3 k) := by decide +kernel
abbrev cX3_init : ByteArray := prog_5_method_1_code
def yX3_init : MethodName := ⟨RX3, "<init>", "()V"⟩
abbrev cX3_clear : ByteArray := prog_5_method_2_code
def yX3_clear : MethodName := ⟨RX3, "clear", "()V"⟩
abbrev cX3_addNumber : ByteArray := prog_5_method_3_code
def yX3_addNumber : MethodName := ⟨RX3, "addNumber", "(I)V"⟩
abbrev cX3_addFact : ByteArray := prog_5_method_4_code
def yX3_addFact : MethodName := ⟨RX3, "addFact", "(I)V"⟩
abbrev cX3_addDeed : ByteArray := prog_5_method_5_code
def yX3_addDeed : MethodName := ⟨RX3, "addDeed", "(I)V"⟩
abbrev cX3_add : ByteArray := prog_5_method_6_code
def yX3_add : MethodName := ⟨RX3, "add", "(I)V"⟩
abbrev cX3_value : ByteArray := prog_5_method_7_code
def yX3_value : MethodName := ⟨RX3, "value", "([I)I"⟩
abbrev cX3_combine : ByteArray := prog_5_method_8_code
def yX3_combine : MethodName := ⟨RX3, "combine", "(III)I"⟩
def RX4 : String := "CliffJudges$Hills"
def TX4 : u_T := fun k => match k with
  | 0 => ("CliffJudges$Hills", "counts", "[I", true)
  | 1 => ("CliffJudges$Hills", "loud", "[I", true)
  | 2 => ("CliffJudges$Hills", "cliffPlace", "[I", true)
  | 3 => ("CliffJudges$Hills", "cliffSnow", "[I", true)
  | 4 => ("CliffJudges$Hills", "manPlace", "[I", true)
  | 5 => ("CliffJudges$Hills", "manVoice", "[I", true)
  | 6 => ("CliffJudges$Hills", "next", "[I", true)
  | 7 => ("CliffJudges$Hills", "stepsLeft", "[I", true)
  | 8 => ("CliffJudges$Hills", "back", "LCliffJudges$Formula;", true)
  | 9 => ("CliffJudges$Hills", "lost", "LCliffJudges$Formula;", true)
  | 10 => ("CliffJudges$Hills", "turn", "LCliffJudges$Formula;", true)
  | 11 => ("CliffJudges$Hills", "yesStates", "I", false)
  | 12 => ("CliffJudges$Hills", "ons", "I", false)
  | 13 => ("CliffJudges$Hills", "wind", "I", false)
  | 14 => ("CliffJudges$Hills", "draw", "I", false)
  | _ => ("CliffJudges$Hills", "units", "I", false)
def tyX4 : Nat → FieldType := fun k => match k with
  | 0 => .array .int
  | 1 => .array .int
  | 2 => .array .int
  | 3 => .array .int
  | 4 => .array .int
  | 5 => .array .int
  | 6 => .array .int
  | 7 => .array .int
  | 8 => .object "CliffJudges$Formula"
  | 9 => .object "CliffJudges$Formula"
  | 10 => .object "CliffJudges$Formula"
  | 11 => .int
  | 12 => .int
  | 13 => .int
  | 14 => .int
  | _ => .int
abbrev wsX40 : List Cond := u_ws RX4 TX4 16
theorem nmX4 : ∀ a, a < 16 → ∀ b, b < 16 → a ≠ b → (TX4 a).2.1 ≠ (TX4 b).2.1 := by decide +kernel
theorem tyX4_ok : ∀ k, k < 16 → parseFieldDescriptor (TX4 k).2.2.1 = some (tyX4 k) := by decide +kernel
abbrev cX4_init : ByteArray := prog_6_method_1_code
def yX4_init : MethodName := ⟨RX4, "<init>", "()V"⟩
abbrev cX4_clear : ByteArray := prog_6_method_2_code
def yX4_clear : MethodName := ⟨RX4, "clear", "()V"⟩
abbrev cX4_settle : ByteArray := prog_6_method_3_code
def yX4_settle : MethodName := ⟨RX4, "settle", "()V"⟩
abbrev cX4_has : ByteArray := prog_6_method_4_code
def yX4_has : MethodName := ⟨RX4, "has", "(II)Z"⟩
abbrev cX4_far : ByteArray := prog_6_method_5_code
def yX4_far : MethodName := ⟨RX4, "far", "(II)I"⟩
abbrev cX4_comes : ByteArray := prog_6_method_6_code
def yX4_comes : MethodName := ⟨RX4, "comes", "([I)I"⟩
abbrev cX4_isYesState : ByteArray := prog_6_method_7_code
def yX4_isYesState : MethodName := ⟨RX4, "isYesState", "(I)Z"⟩
abbrev cX4_isYes : ByteArray := prog_6_method_8_code
def yX4_isYes : MethodName := ⟨RX4, "isYes", "([II)Z"⟩
abbrev cX4_pathTo : ByteArray := prog_6_method_9_code
def yX4_pathTo : MethodName := ⟨RX4, "pathTo", "(I[I)I"⟩
abbrev cX4_countStepsTo : ByteArray := prog_6_method_10_code
def yX4_countStepsTo : MethodName := ⟨RX4, "countStepsTo", "(I)V"⟩
abbrev cX4_leadsToOneAt : ByteArray := prog_6_method_11_code
def yX4_leadsToOneAt : MethodName := ⟨RX4, "leadsToOneAt", "(II)Z"⟩
abbrev cX4_firstWordNearer : ByteArray := prog_6_method_12_code
def yX4_firstWordNearer : MethodName := ⟨RX4, "firstWordNearer", "(I)I"⟩
def RX5 : String := "CliffJudges$Moments"
def TX5 : u_T := fun k => match k with
  | 0 => ("CliffJudges$Moments", "now", "[I", true)
  | 1 => ("CliffJudges$Moments", "rows", "[I", true)
  | 2 => ("CliffJudges$Moments", "boxes", "[I", true)
  | 3 => ("CliffJudges$Moments", "fullBoxes", "I", false)
  | 4 => ("CliffJudges$Moments", "current", "I", false)
  | 5 => ("CliffJudges$Moments", "undoable", "I", false)
  | _ => ("CliffJudges$Moments", "redoable", "I", false)
def tyX5 : Nat → FieldType := fun k => match k with
  | 0 => .array .int
  | 1 => .array .int
  | 2 => .array .int
  | 3 => .int
  | 4 => .int
  | 5 => .int
  | _ => .int
abbrev wsX50 : List Cond := u_ws RX5 TX5 7
theorem nmX5 : ∀ a, a < 7 → ∀ b, b < 7 → a ≠ b → (TX5 a).2.1 ≠ (TX5 b).2.1 := by decide +kernel
theorem tyX5_ok : ∀ k, k < 7 → parseFieldDescriptor (TX5 k).2.2.1 = some (tyX5 k) := by decide +kernel
abbrev cX5_init : ByteArray := prog_7_method_1_code
def yX5_init : MethodName := ⟨RX5, "<init>", "()V"⟩
abbrev cX5_begin : ByteArray := prog_7_method_2_code
def yX5_begin : MethodName := ⟨RX5, "begin", "(LCliffJudges$Hills;)V"⟩
abbrev cX5_forgetActs : ByteArray := prog_7_method_3_code
def yX5_forgetActs : MethodName := ⟨RX5, "forgetActs", "()V"⟩
abbrev cX5_keepAct : ByteArray := prog_7_method_4_code
def yX5_keepAct : MethodName := ⟨RX5, "keepAct", "()V"⟩
abbrev cX5_stepBack : ByteArray := prog_7_method_5_code
def yX5_stepBack : MethodName := ⟨RX5, "stepBack", "()Z"⟩
abbrev cX5_stepOn : ByteArray := prog_7_method_6_code
def yX5_stepOn : MethodName := ⟨RX5, "stepOn", "()Z"⟩
abbrev cX5_goTo : ByteArray := prog_7_method_7_code
def yX5_goTo : MethodName := ⟨RX5, "goTo", "(I)V"⟩
abbrev cX5_keepIn : ByteArray := prog_7_method_8_code
def yX5_keepIn : MethodName := ⟨RX5, "keepIn", "(I)V"⟩
abbrev cX5_goBackTo : ByteArray := prog_7_method_9_code
def yX5_goBackTo : MethodName := ⟨RX5, "goBackTo", "(I)Z"⟩
abbrev cX5_cryLength : ByteArray := prog_7_method_10_code
def yX5_cryLength : MethodName := ⟨RX5, "cryLength", "(I)I"⟩
abbrev cX5_wordAt : ByteArray := prog_7_method_11_code
def yX5_wordAt : MethodName := ⟨RX5, "wordAt", "(II)I"⟩
abbrev cX5_verdicts : ByteArray := prog_7_method_12_code
def yX5_verdicts : MethodName := ⟨RX5, "verdicts", "(II)I"⟩
abbrev cX5_addWord : ByteArray := prog_7_method_13_code
def yX5_addWord : MethodName := ⟨RX5, "addWord", "(II)V"⟩
abbrev cX5_dropWord : ByteArray := prog_7_method_14_code
def yX5_dropWord : MethodName := ⟨RX5, "dropWord", "(I)I"⟩
abbrev cX5_countVerdict : ByteArray := prog_7_method_15_code
def yX5_countVerdict : MethodName := ⟨RX5, "countVerdict", "(II)V"⟩
abbrev cX5_passNoon : ByteArray := prog_7_method_16_code
def yX5_passNoon : MethodName := ⟨RX5, "passNoon", "(I)V"⟩
abbrev cX5_clearLedge : ByteArray := prog_7_method_17_code
def yX5_clearLedge : MethodName := ⟨RX5, "clearLedge", "(I)I"⟩
def RX6 : String := "CliffJudges$Rhymes"
def TX6 : u_T := fun k => match k with
  | 0 => ("CliffJudges$Rhymes", "found", "[I", true)
  | 1 => ("CliffJudges$Rhymes", "ears", "[LCliffJudges$Ear;", true)
  | 2 => ("CliffJudges$Rhymes", "row", "[I", true)
  | 3 => ("CliffJudges$Rhymes", "places", "[I", true)
  | 4 => ("CliffJudges$Rhymes", "nearest", "[I", true)
  | 5 => ("CliffJudges$Rhymes", "quiet", "[I", true)
  | 6 => ("CliffJudges$Rhymes", "hills", "LCliffJudges$Hills;", false)
  | 7 => ("CliffJudges$Rhymes", "shout", "LCliffJudges$Shout;", false)
  | _ => ("CliffJudges$Rhymes", "changes", "I", false)
def tyX6 : Nat → FieldType := fun k => match k with
  | 0 => .array .int
  | 1 => .array (.object "CliffJudges$Ear")
  | 2 => .array .int
  | 3 => .array .int
  | 4 => .array .int
  | 5 => .array .int
  | 6 => .object "CliffJudges$Hills"
  | 7 => .object "CliffJudges$Shout"
  | _ => .int
abbrev wsX60 : List Cond := u_ws RX6 TX6 9
theorem nmX6 : ∀ a, a < 9 → ∀ b, b < 9 → a ≠ b → (TX6 a).2.1 ≠ (TX6 b).2.1 := by decide +kernel
theorem tyX6_ok : ∀ k, k < 9 → parseFieldDescriptor (TX6 k).2.2.1 = some (tyX6 k) := by decide +kernel
abbrev cX6_init : ByteArray := prog_8_method_1_code
def yX6_init : MethodName := ⟨RX6, "<init>", "(LCliffJudges$Court;)V"⟩
abbrev cX6_fewest : ByteArray := prog_8_method_2_code
def yX6_fewest : MethodName := ⟨RX6, "fewest", "(LCliffJudges$Hills;LCliffJudges$Shout;)I"⟩
abbrev cX6_orderCliffs : ByteArray := prog_8_method_3_code
def yX6_orderCliffs : MethodName := ⟨RX6, "orderCliffs", "()V"⟩
abbrev cX6_findQuiet : ByteArray := prog_8_method_4_code
def yX6_findQuiet : MethodName := ⟨RX6, "findQuiet", "()V"⟩
abbrev cX6_choosePlaces : ByteArray := prog_8_method_5_code
def yX6_choosePlaces : MethodName := ⟨RX6, "choosePlaces", "(III)Z"⟩
abbrev cX6_canBeYes : ByteArray := prog_8_method_6_code
def yX6_canBeYes : MethodName := ⟨RX6, "canBeYes", "(I)Z"⟩
abbrev cX6_canBeYesBy : ByteArray := prog_8_method_7_code
def yX6_canBeYesBy : MethodName := ⟨RX6, "canBeYesBy", "(II)Z"⟩
abbrev cX6_choices : ByteArray := prog_8_method_8_code
def yX6_choices : MethodName := ⟨RX6, "choices", "(II)I"⟩
abbrev cX6_led : ByteArray := prog_8_method_9_code
def yX6_led : MethodName := ⟨RX6, "led", "(II)I"⟩
abbrev cX6_chooseWords : ByteArray := prog_8_method_10_code
def yX6_chooseWords : MethodName := ⟨RX6, "chooseWords", "(I)Z"⟩
abbrev cX6_isYesNow : ByteArray := prog_8_method_11_code
def yX6_isYesNow : MethodName := ⟨RX6, "isYesNow", "()Z"⟩
def RX7 : String := "CliffJudges$Shout"
def TX7 : u_T := fun k => match k with
  | 0 => ("CliffJudges$Shout", "words", "[I", true)
  | 1 => ("CliffJudges$Shout", "snow", "[I", true)
  | 2 => ("CliffJudges$Shout", "length", "I", false)
  | 3 => ("CliffJudges$Shout", "place", "I", false)
  | 4 => ("CliffJudges$Shout", "voice", "I", false)
  | 5 => ("CliffJudges$Shout", "wind", "I", false)
  | _ => ("CliffJudges$Shout", "chance", "I", false)
def tyX7 : Nat → FieldType := fun k => match k with
  | 0 => .array .int
  | 1 => .array .int
  | 2 => .int
  | 3 => .int
  | 4 => .int
  | 5 => .int
  | _ => .int
abbrev wsX70 : List Cond := u_ws RX7 TX7 7
theorem nmX7 : ∀ a, a < 7 → ∀ b, b < 7 → a ≠ b → (TX7 a).2.1 ≠ (TX7 b).2.1 := by decide +kernel
theorem tyX7_ok : ∀ k, k < 7 → parseFieldDescriptor (TX7 k).2.2.1 = some (tyX7 k) := by decide +kernel
abbrev cX7_init : ByteArray := prog_9_method_1_code
def yX7_init : MethodName := ⟨RX7, "<init>", "()V"⟩
def RX8 : String := "CliffJudges$Sounds"
def TX8 : u_T := fun k => match k with
  | 0 => ("CliffJudges$Sounds", "cliffs", "[I", true)
  | 1 => ("CliffJudges$Sounds", "lengths", "[I", true)
  | 2 => ("CliffJudges$Sounds", "came", "[I", true)
  | 3 => ("CliffJudges$Sounds", "toldAt", "[I", true)
  | 4 => ("CliffJudges$Sounds", "untoldAt", "[I", true)
  | 5 => ("CliffJudges$Sounds", "left", "[I", true)
  | 6 => ("CliffJudges$Sounds", "leftBy", "[I", true)
  | 7 => ("CliffJudges$Sounds", "facts", "[I", true)
  | 8 => ("CliffJudges$Sounds", "count", "I", false)
  | 9 => ("CliffJudges$Sounds", "time", "I", false)
  | 10 => ("CliffJudges$Sounds", "leftCount", "I", false)
  | 11 => ("CliffJudges$Sounds", "question", "I", false)
  | _ => ("CliffJudges$Sounds", "mostLeft", "I", false)
def tyX8 : Nat → FieldType := fun k => match k with
  | 0 => .array .int
  | 1 => .array .int
  | 2 => .array .int
  | 3 => .array .int
  | 4 => .array .int
  | 5 => .array .int
  | 6 => .array .int
  | 7 => .array .int
  | 8 => .int
  | 9 => .int
  | 10 => .int
  | 11 => .int
  | _ => .int
abbrev wsX80 : List Cond := u_ws RX8 TX8 13
theorem nmX8 : ∀ a, a < 13 → ∀ b, b < 13 → a ≠ b → (TX8 a).2.1 ≠ (TX8 b).2.1 := by decide +kernel
theorem tyX8_ok : ∀ k, k < 13 → parseFieldDescriptor (TX8 k).2.2.1 = some (tyX8 k) := by decide +kernel
abbrev cX8_init : ByteArray := prog_10_method_1_code
def yX8_init : MethodName := ⟨RX8, "<init>", "()V"⟩
abbrev cX8_forget : ByteArray := prog_10_method_2_code
def yX8_forget : MethodName := ⟨RX8, "forget", "()V"⟩
abbrev cX8_add : ByteArray := prog_10_method_3_code
def yX8_add : MethodName := ⟨RX8, "add", "(III)I"⟩
abbrev cX8_takeBack : ByteArray := prog_10_method_4_code
def yX8_takeBack : MethodName := ⟨RX8, "takeBack", "(I)Z"⟩
abbrev cX8_counts : ByteArray := prog_10_method_5_code
def yX8_counts : MethodName := ⟨RX8, "counts", "(II)Z"⟩
abbrev cX8_sentTo : ByteArray := prog_10_method_6_code
def yX8_sentTo : MethodName := ⟨RX8, "sentTo", "(LCliffJudges$Hills;III)I"⟩
abbrev cX8_findLeft : ByteArray := prog_10_method_7_code
def yX8_findLeft : MethodName := ⟨RX8, "findLeft", "(LCliffJudges$Hills;I)V"⟩
abbrev cX8_canBeAt : ByteArray := prog_10_method_8_code
def yX8_canBeAt : MethodName := ⟨RX8, "canBeAt", "(LCliffJudges$Hills;II)Z"⟩
abbrev cX8_firstLeft : ByteArray := prog_10_method_9_code
def yX8_firstLeft : MethodName := ⟨RX8, "firstLeft", "()I"⟩
abbrev cX8_lastLeft : ByteArray := prog_10_method_10_code
def yX8_lastLeft : MethodName := ⟨RX8, "lastLeft", "()I"⟩
abbrev cX8_findQuestion : ByteArray := prog_10_method_11_code
def yX8_findQuestion : MethodName := ⟨RX8, "findQuestion", "(LCliffJudges$Hills;)V"⟩
abbrev cX8_mostLeftBehind : ByteArray := prog_10_method_12_code
def yX8_mostLeftBehind : MethodName := ⟨RX8, "mostLeftBehind", "(LCliffJudges$Hills;II)I"⟩
def RX9 : String := "CliffJudges$Tape"
def TX9 : u_T := fun k => match k with
  | 0 => ("CliffJudges$Tape", "bytes", "[B", true)
  | 1 => ("CliffJudges$Tape", "keys", "[J", true)
  | 2 => ("CliffJudges$Tape", "length", "I", false)
  | 3 => ("CliffJudges$Tape", "at", "I", false)
  | 4 => ("CliffJudges$Tape", "start", "I", false)
  | 5 => ("CliffJudges$Tape", "kind", "I", false)
  | 6 => ("CliffJudges$Tape", "name", "J", false)
  | _ => ("CliffJudges$Tape", "number", "I", false)
def tyX9 : Nat → FieldType := fun k => match k with
  | 0 => .array .byte
  | 1 => .array .long
  | 2 => .int
  | 3 => .int
  | 4 => .int
  | 5 => .int
  | 6 => .long
  | _ => .int
abbrev wsX90 : List Cond := u_ws RX9 TX9 8
theorem nmX9 : ∀ a, a < 8 → ∀ b, b < 8 → a ≠ b → (TX9 a).2.1 ≠ (TX9 b).2.1 := by decide +kernel
theorem tyX9_ok : ∀ k, k < 8 → parseFieldDescriptor (TX9 k).2.2.1 = some (tyX9 k) := by decide +kernel
abbrev cX9_init : ByteArray := prog_11_method_1_code
def yX9_init : MethodName := ⟨RX9, "<init>", "()V"⟩
abbrev cX9_append : ByteArray := prog_11_method_2_code
def yX9_append : MethodName := ⟨RX9, "append", "(I)V"⟩
abbrev cX9_rewind : ByteArray := prog_11_method_3_code
def yX9_rewind : MethodName := ⟨RX9, "rewind", "()V"⟩
abbrev cX9_next : ByteArray := prog_11_method_4_code
def yX9_next : MethodName := ⟨RX9, "next", "()V"⟩
abbrev cX9_readWord : ByteArray := prog_11_method_5_code
def yX9_readWord : MethodName := ⟨RX9, "readWord", "()V"⟩
abbrev cX9_readNumber : ByteArray := prog_11_method_6_code
def yX9_readNumber : MethodName := ⟨RX9, "readNumber", "()V"⟩
abbrev cX9_kindOf : ByteArray := prog_11_method_7_code
def yX9_kindOf : MethodName := ⟨RX9, "kindOf", "(J)I"⟩
abbrev cX9_isLetter : ByteArray := prog_11_method_8_code
def yX9_isLetter : MethodName := ⟨RX9, "isLetter", "(I)Z"⟩
abbrev cX9_isDigit : ByteArray := prog_11_method_9_code
def yX9_isDigit : MethodName := ⟨RX9, "isDigit", "(I)Z"⟩
def RX10 : String := "CliffJudges$Teller"
def TX10 : u_T := fun k => match k with
  | 0 => ("CliffJudges$Teller", "tape", "LCliffJudges$Tape;", true)
  | 1 => ("CliffJudges$Teller", "names", "[[J", true)
  | 2 => ("CliffJudges$Teller", "hills", "LCliffJudges$Hills;", false)
  | 3 => ("CliffJudges$Teller", "formula", "LCliffJudges$Formula;", false)
  | 4 => ("CliffJudges$Teller", "unitsHere", "I", false)
  | 5 => ("CliffJudges$Teller", "windTold", "Z", false)
  | 6 => ("CliffJudges$Teller", "drawTold", "Z", false)
  | 7 => ("CliffJudges$Teller", "value", "I", false)
  | 8 => ("CliffJudges$Teller", "fault", "I", false)
  | _ => ("CliffJudges$Teller", "place", "I", false)
def tyX10 : Nat → FieldType := fun k => match k with
  | 0 => .object "CliffJudges$Tape"
  | 1 => .array (.array .long)
  | 2 => .object "CliffJudges$Hills"
  | 3 => .object "CliffJudges$Formula"
  | 4 => .int
  | 5 => .boolean
  | 6 => .boolean
  | 7 => .int
  | 8 => .int
  | _ => .int
abbrev wsX100 : List Cond := u_ws RX10 TX10 10
theorem nmX10 : ∀ a, a < 10 → ∀ b, b < 10 → a ≠ b → (TX10 a).2.1 ≠ (TX10 b).2.1 := by decide +kernel
theorem tyX10_ok : ∀ k, k < 10 → parseFieldDescriptor (TX10 k).2.2.1 = some (tyX10 k) := by decide +kernel
abbrev cX10_init : ByteArray := prog_12_method_1_code
def yX10_init : MethodName := ⟨RX10, "<init>", "(LCliffJudges$Tape;)V"⟩
abbrev cX10_tell : ByteArray := prog_12_method_2_code
def yX10_tell : MethodName := ⟨RX10, "tell", "(LCliffJudges$Hills;)Z"⟩
abbrev cX10_fail : ByteArray := prog_12_method_3_code
def yX10_fail : MethodName := ⟨RX10, "fail", "(I)Z"⟩
abbrev cX10_tellLine : ByteArray := prog_12_method_4_code
def yX10_tellLine : MethodName := ⟨RX10, "tellLine", "()Z"⟩
abbrev cX10_tellWord : ByteArray := prog_12_method_5_code
def yX10_tellWord : MethodName := ⟨RX10, "tellWord", "()Z"⟩
abbrev cX10_tellPlaced : ByteArray := prog_12_method_6_code
def yX10_tellPlaced : MethodName := ⟨RX10, "tellPlaced", "(I[II[I)Z"⟩
abbrev cX10_tellState : ByteArray := prog_12_method_7_code
def yX10_tellState : MethodName := ⟨RX10, "tellState", "()Z"⟩
abbrev cX10_tellOn : ByteArray := prog_12_method_8_code
def yX10_tellOn : MethodName := ⟨RX10, "tellOn", "()Z"⟩
abbrev cX10_tellWind : ByteArray := prog_12_method_9_code
def yX10_tellWind : MethodName := ⟨RX10, "tellWind", "()Z"⟩
abbrev cX10_tellDraw : ByteArray := prog_12_method_10_code
def yX10_tellDraw : MethodName := ⟨RX10, "tellDraw", "()Z"⟩
abbrev cX10_tellFormula : ByteArray := prog_12_method_11_code
def yX10_tellFormula : MethodName := ⟨RX10, "tellFormula", "(LCliffJudges$Formula;)Z"⟩
abbrev cX10_take : ByteArray := prog_12_method_12_code
def yX10_take : MethodName := ⟨RX10, "take", "(I)Z"⟩
abbrev cX10_takeNew : ByteArray := prog_12_method_13_code
def yX10_takeNew : MethodName := ⟨RX10, "takeNew", "(II)Z"⟩
abbrev cX10_known : ByteArray := prog_12_method_14_code
def yX10_known : MethodName := ⟨RX10, "known", "(I)I"⟩
abbrev cX10_find : ByteArray := prog_12_method_15_code
def yX10_find : MethodName := ⟨RX10, "find", "(I)I"⟩
abbrev cX10_takeNumber : ByteArray := prog_12_method_16_code
def yX10_takeNumber : MethodName := ⟨RX10, "takeNumber", "(I)Z"⟩
abbrev cX10_takeOption : ByteArray := prog_12_method_17_code
def yX10_takeOption : MethodName := ⟨RX10, "takeOption", "(I[II)Z"⟩
abbrev cX10_takeEither : ByteArray := prog_12_method_18_code
def yX10_takeEither : MethodName := ⟨RX10, "takeEither", "(I)Z"⟩
abbrev cX10_takeBoth : ByteArray := prog_12_method_19_code
def yX10_takeBoth : MethodName := ⟨RX10, "takeBoth", "(I)Z"⟩
abbrev cX10_takeOne : ByteArray := prog_12_method_20_code
def yX10_takeOne : MethodName := ⟨RX10, "takeOne", "(I)Z"⟩
abbrev cX10_takeNot : ByteArray := prog_12_method_21_code
def yX10_takeNot : MethodName := ⟨RX10, "takeNot", "(I)Z"⟩
abbrev cX10_takeSum : ByteArray := prog_12_method_22_code
def yX10_takeSum : MethodName := ⟨RX10, "takeSum", "(I)Z"⟩
abbrev cX10_takeTerm : ByteArray := prog_12_method_23_code
def yX10_takeTerm : MethodName := ⟨RX10, "takeTerm", "(I)Z"⟩
abbrev cX10_isOfTerm : ByteArray := prog_12_method_24_code
def yX10_isOfTerm : MethodName := ⟨RX10, "isOfTerm", "(I)Z"⟩
abbrev cX10_takeUnit : ByteArray := prog_12_method_25_code
def yX10_takeUnit : MethodName := ⟨RX10, "takeUnit", "(I)Z"⟩
abbrev cX10_factOf : ByteArray := prog_12_method_26_code
def yX10_factOf : MethodName := ⟨RX10, "factOf", "(I)I"⟩
abbrev cX10_takeInner : ByteArray := prog_12_method_27_code
def yX10_takeInner : MethodName := ⟨RX10, "takeInner", "(I)Z"⟩
def RX11 : String := "CliffJudges"
def TX11 : u_T := fun k => match k with
  | 0 => ("CliffJudges", "tape", "LCliffJudges$Tape;", true)
  | 1 => ("CliffJudges", "teller", "LCliffJudges$Teller;", true)
  | 2 => ("CliffJudges", "told", "LCliffJudges$Hills;", false)
  | 3 => ("CliffJudges", "spare", "LCliffJudges$Hills;", false)
  | 4 => ("CliffJudges", "moments", "LCliffJudges$Moments;", true)
  | 5 => ("CliffJudges", "sounds", "LCliffJudges$Sounds;", true)
  | 6 => ("CliffJudges", "court", "LCliffJudges$Court;", true)
  | 7 => ("CliffJudges", "cries", "LCliffJudges$Cries;", true)
  | 8 => ("CliffJudges", "rhymes", "LCliffJudges$Rhymes;", true)
  | 9 => ("CliffJudges", "shout", "LCliffJudges$Shout;", true)
  | 10 => ("CliffJudges", "second", "LCliffJudges$Shout;", true)
  | 11 => ("CliffJudges", "silence", "LCliffJudges$Shout;", true)
  | 12 => ("CliffJudges", "lying", "[I", true)
  | _ => ("CliffJudges", "lyingCount", "I", false)
def tyX11 : Nat → FieldType := fun k => match k with
  | 0 => .object "CliffJudges$Tape"
  | 1 => .object "CliffJudges$Teller"
  | 2 => .object "CliffJudges$Hills"
  | 3 => .object "CliffJudges$Hills"
  | 4 => .object "CliffJudges$Moments"
  | 5 => .object "CliffJudges$Sounds"
  | 6 => .object "CliffJudges$Court"
  | 7 => .object "CliffJudges$Cries"
  | 8 => .object "CliffJudges$Rhymes"
  | 9 => .object "CliffJudges$Shout"
  | 10 => .object "CliffJudges$Shout"
  | 11 => .object "CliffJudges$Shout"
  | 12 => .array .int
  | _ => .int
abbrev wsX110 : List Cond := u_ws RX11 TX11 14
theorem nmX11 : ∀ a, a < 14 → ∀ b, b < 14 → a ≠ b → (TX11 a).2.1 ≠ (TX11 b).2.1 := by decide +kernel
theorem tyX11_ok : ∀ k, k < 14 → parseFieldDescriptor (TX11 k).2.2.1 = some (tyX11 k) := by decide +kernel
abbrev cX11_init : ByteArray := prog_1_method_1_code
def yX11_init : MethodName := ⟨RX11, "<init>", "()V"⟩
abbrev cX11_feed : ByteArray := prog_1_method_2_code
def yX11_feed : MethodName := ⟨RX11, "feed", "(IIIII)I"⟩
abbrev cX11_end : ByteArray := prog_1_method_3_code
def yX11_end : MethodName := ⟨RX11, "end", "(I)I"⟩
abbrev cX11_hills : ByteArray := prog_1_method_4_code
def yX11_hills : MethodName := ⟨RX11, "hills", "()I"⟩
abbrev cX11_fault : ByteArray := prog_1_method_5_code
def yX11_fault : MethodName := ⟨RX11, "fault", "(I)I"⟩
abbrev cX11_cliff : ByteArray := prog_1_method_6_code
def yX11_cliff : MethodName := ⟨RX11, "cliff", "(II)I"⟩
abbrev cX11_man : ByteArray := prog_1_method_7_code
def yX11_man : MethodName := ⟨RX11, "man", "(II)I"⟩
abbrev cX11_leads : ByteArray := prog_1_method_8_code
def yX11_leads : MethodName := ⟨RX11, "leads", "(II)I"⟩
abbrev cX11_say : ByteArray := prog_1_method_9_code
def yX11_say : MethodName := ⟨RX11, "say", "(II)I"⟩
abbrev cX11_unsay : ByteArray := prog_1_method_10_code
def yX11_unsay : MethodName := ⟨RX11, "unsay", "(I)I"⟩
abbrev cX11_said : ByteArray := prog_1_method_11_code
def yX11_said : MethodName := ⟨RX11, "said", "(II)I"⟩
abbrev cX11_call : ByteArray := prog_1_method_12_code
def yX11_call : MethodName := ⟨RX11, "call", "(I)I"⟩
abbrev cX11_noon : ByteArray := prog_1_method_13_code
def yX11_noon : MethodName := ⟨RX11, "noon", "()I"⟩
abbrev cX11_sweep : ByteArray := prog_1_method_14_code
def yX11_sweep : MethodName := ⟨RX11, "sweep", "(I)I"⟩
abbrev cX11_undo : ByteArray := prog_1_method_15_code
def yX11_undo : MethodName := ⟨RX11, "undo", "()Z"⟩
abbrev cX11_redo : ByteArray := prog_1_method_16_code
def yX11_redo : MethodName := ⟨RX11, "redo", "()Z"⟩
abbrev cX11_echo : ByteArray := prog_1_method_17_code
def yX11_echo : MethodName := ⟨RX11, "echo", "(II)I"⟩
abbrev cX11_answers : ByteArray := prog_1_method_18_code
def yX11_answers : MethodName := ⟨RX11, "answers", "(II)I"⟩
abbrev cX11_binds : ByteArray := prog_1_method_19_code
def yX11_binds : MethodName := ⟨RX11, "binds", "(I)I"⟩
abbrev cX11_pardon : ByteArray := prog_1_method_20_code
def yX11_pardon : MethodName := ⟨RX11, "pardon", "(I)I"⟩
abbrev cX11_pardons : ByteArray := prog_1_method_21_code
def yX11_pardons : MethodName := ⟨RX11, "pardons", "(II)I"⟩
abbrev cX11_ahead : ByteArray := prog_1_method_22_code
def yX11_ahead : MethodName := ⟨RX11, "ahead", "(III)I"⟩
abbrev cX11_yeas : ByteArray := prog_1_method_23_code
def yX11_yeas : MethodName := ⟨RX11, "yeas", "(II)I"⟩
abbrev cX11_clears : ByteArray := prog_1_method_24_code
def yX11_clears : MethodName := ⟨RX11, "clears", "(II)I"⟩
abbrev cX11_rhyme : ByteArray := prog_1_method_25_code
def yX11_rhyme : MethodName := ⟨RX11, "rhyme", "(I)I"⟩
abbrev cX11_joined : ByteArray := prog_1_method_26_code
def yX11_joined : MethodName := ⟨RX11, "joined", "(II)I"⟩
abbrev cX11_luck : ByteArray := prog_1_method_27_code
def yX11_luck : MethodName := ⟨RX11, "luck", "(I)I"⟩
abbrev cX11_winds : ByteArray := prog_1_method_28_code
def yX11_winds : MethodName := ⟨RX11, "winds", "(I)I"⟩
abbrev cX11_more : ByteArray := prog_1_method_29_code
def yX11_more : MethodName := ⟨RX11, "more", "(I)I"⟩
abbrev cX11_way : ByteArray := prog_1_method_30_code
def yX11_way : MethodName := ⟨RX11, "way", "(I)I"⟩
abbrev cX11_lies : ByteArray := prog_1_method_31_code
def yX11_lies : MethodName := ⟨RX11, "lies", "(I)I"⟩
abbrev cX11_sound : ByteArray := prog_1_method_32_code
def yX11_sound : MethodName := ⟨RX11, "sound", "(III)I"⟩
abbrev cX11_untell : ByteArray := prog_1_method_33_code
def yX11_untell : MethodName := ⟨RX11, "untell", "(I)Z"⟩
abbrev cX11_later : ByteArray := prog_1_method_34_code
def yX11_later : MethodName := ⟨RX11, "later", "(I)I"⟩
abbrev cX11_stood : ByteArray := prog_1_method_35_code
def yX11_stood : MethodName := ⟨RX11, "stood", "(II)I"⟩
abbrev cX11_ask : ByteArray := prog_1_method_36_code
def yX11_ask : MethodName := ⟨RX11, "ask", "(II)I"⟩
abbrev cX11_image : ByteArray := prog_1_method_37_code
def yX11_image : MethodName := ⟨RX11, "image", "(I)I"⟩
abbrev cX11_back : ByteArray := prog_1_method_38_code
def yX11_back : MethodName := ⟨RX11, "back", "(I)I"⟩
abbrev cX11_about : ByteArray := prog_1_method_39_code
def yX11_about : MethodName := ⟨RX11, "about", "(I)I"⟩
abbrev cX11_isCry : ByteArray := prog_1_method_40_code
def yX11_isCry : MethodName := ⟨RX11, "isCry", "(I)Z"⟩
abbrev cX11_isBox : ByteArray := prog_1_method_41_code
def yX11_isBox : MethodName := ⟨RX11, "isBox", "(I)Z"⟩
abbrev cX11_isSought : ByteArray := prog_1_method_42_code
def yX11_isSought : MethodName := ⟨RX11, "isSought", "(I)Z"⟩
abbrev cX11_oneOf : ByteArray := prog_1_method_43_code
def yX11_oneOf : MethodName := ⟨RX11, "oneOf", "(IIII)I"⟩
abbrev cX11_prepare : ByteArray := prog_1_method_44_code
def yX11_prepare : MethodName := ⟨RX11, "prepare", "(I)V"⟩
abbrev cX11_loadWeather : ByteArray := prog_1_method_45_code
def yX11_loadWeather : MethodName := ⟨RX11, "loadWeather", "(LCliffJudges$Shout;)V"⟩
abbrev cX11_loadCry : ByteArray := prog_1_method_46_code
def yX11_loadCry : MethodName := ⟨RX11, "loadCry", "(LCliffJudges$Shout;I)V"⟩
abbrev cX11_clearLedges : ByteArray := prog_1_method_47_code
def yX11_clearLedges : MethodName := ⟨RX11, "clearLedges", "(I)V"⟩
abbrev cX11_layDown : ByteArray := prog_1_method_48_code
def yX11_layDown : MethodName := ⟨RX11, "layDown", "([II)V"⟩
def RX12 : String := "CliffJudgesModel"
def TX12 : u_T := fun k => match k with
  | 0 => ("CliffJudgesModel", "tape", "[I", true)
  | 1 => ("CliffJudgesModel", "taped", "I", false)
  | 2 => ("CliffJudgesModel", "fault", "I", false)
  | 3 => ("CliffJudgesModel", "faultPlace", "I", false)
  | 4 => ("CliffJudgesModel", "at", "I", false)
  | 5 => ("CliffJudgesModel", "size", "I", false)
  | 6 => ("CliffJudgesModel", "sort", "I", false)
  | 7 => ("CliffJudgesModel", "place", "I", false)
  | 8 => ("CliffJudgesModel", "number", "I", false)
  | 9 => ("CliffJudgesModel", "word", "J", false)
  | 10 => ("CliffJudgesModel", "nName", "[J", true)
  | 11 => ("CliffJudgesModel", "nStep", "[I", true)
  | 12 => ("CliffJudgesModel", "nArg", "[I", true)
  | 13 => ("CliffJudgesModel", "nMany", "[I", true)
  | 14 => ("CliffJudgesModel", "step", "[I", true)
  | 15 => ("CliffJudgesModel", "arg", "[I", true)
  | 16 => ("CliffJudgesModel", "many", "[I", true)
  | 17 => ("CliffJudgesModel", "open", "[I", true)
  | 18 => ("CliffJudgesModel", "values", "[I", true)
  | 19 => ("CliffJudgesModel", "nHasForm", "[Z", true)
  | 20 => ("CliffJudgesModel", "hasForm", "[Z", true)
  | 21 => ("CliffJudgesModel", "form", "I", false)
  | 22 => ("CliffJudgesModel", "opens", "I", false)
  | 23 => ("CliffJudgesModel", "nUnits", "I", false)
  | 24 => ("CliffJudgesModel", "units", "I", false)
  | 25 => ("CliffJudgesModel", "ownUnits", "I", false)
  | 26 => ("CliffJudgesModel", "deep", "I", false)
  | 27 => ("CliffJudgesModel", "asks", "[I", true)
  | 28 => ("CliffJudgesModel", "nLoud", "[I", true)
  | 29 => ("CliffJudgesModel", "nCliffAt", "[I", true)
  | 30 => ("CliffJudgesModel", "nSnow", "[I", true)
  | 31 => ("CliffJudgesModel", "nManAt", "[I", true)
  | 32 => ("CliffJudgesModel", "nVoice", "[I", true)
  | 33 => ("CliffJudgesModel", "nOn", "[I", true)
  | 34 => ("CliffJudgesModel", "loud", "[I", true)
  | 35 => ("CliffJudgesModel", "cliffAt", "[I", true)
  | 36 => ("CliffJudgesModel", "snowTold", "[I", true)
  | 37 => ("CliffJudgesModel", "manAt", "[I", true)
  | 38 => ("CliffJudgesModel", "voice", "[I", true)
  | 39 => ("CliffJudgesModel", "on", "[I", true)
  | 40 => ("CliffJudgesModel", "nYes", "[Z", true)
  | 41 => ("CliffJudgesModel", "yes", "[Z", true)
  | 42 => ("CliffJudgesModel", "nWords", "I", false)
  | 43 => ("CliffJudgesModel", "nCliffs", "I", false)
  | 44 => ("CliffJudgesModel", "nMen", "I", false)
  | 45 => ("CliffJudgesModel", "nStates", "I", false)
  | 46 => ("CliffJudgesModel", "nOns", "I", false)
  | 47 => ("CliffJudgesModel", "nWind", "I", false)
  | 48 => ("CliffJudgesModel", "nDraw", "I", false)
  | 49 => ("CliffJudgesModel", "words", "I", false)
  | 50 => ("CliffJudgesModel", "cliffs", "I", false)
  | 51 => ("CliffJudgesModel", "men", "I", false)
  | 52 => ("CliffJudgesModel", "states", "I", false)
  | 53 => ("CliffJudgesModel", "ons", "I", false)
  | 54 => ("CliffJudgesModel", "windTold", "I", false)
  | 55 => ("CliffJudgesModel", "nHasWind", "Z", false)
  | 56 => ("CliffJudgesModel", "nHasDraw", "Z", false)
  | 57 => ("CliffJudgesModel", "now", "[I", true)
  | 58 => ("CliffJudgesModel", "cry", "[I", true)
  | 59 => ("CliffJudgesModel", "snow", "[I", true)
  | 60 => ("CliffJudgesModel", "echo", "[I", true)
  | 61 => ("CliffJudgesModel", "cryMany", "I", false)
  | 62 => ("CliffJudgesModel", "callPlace", "I", false)
  | 63 => ("CliffJudgesModel", "callVoice", "I", false)
  | 64 => ("CliffJudgesModel", "wind", "I", false)
  | 65 => ("CliffJudgesModel", "chance", "I", false)
  | 66 => ("CliffJudgesModel", "echoMany", "I", false)
  | 67 => ("CliffJudgesModel", "were", "[I", true)
  | 68 => ("CliffJudgesModel", "acts", "I", false)
  | 69 => ("CliffJudgesModel", "undone", "I", false)
  | 70 => ("CliffJudgesModel", "lies", "[I", true)
  | 71 => ("CliffJudgesModel", "lain", "I", false)
  | 72 => ("CliffJudgesModel", "spots", "[I", true)
  | 73 => ("CliffJudgesModel", "steps", "[I", true)
  | 74 => ("CliffJudgesModel", "fromState", "[I", true)
  | 75 => ("CliffJudgesModel", "byWord", "[I", true)
  | 76 => ("CliffJudgesModel", "queue", "[I", true)
  | 77 => ("CliffJudgesModel", "soundCliff", "[I", true)
  | 78 => ("CliffJudgesModel", "soundLong", "[I", true)
  | 79 => ("CliffJudgesModel", "soundCame", "[I", true)
  | 80 => ("CliffJudgesModel", "soundTold", "[I", true)
  | 81 => ("CliffJudgesModel", "soundUntold", "[I", true)
  | 82 => ("CliffJudgesModel", "sounds", "I", false)
  | 83 => ("CliffJudgesModel", "time", "I", false)
  | 84 => ("CliffJudgesModel", "stands", "[Z", true)
  | 85 => ("CliffJudgesModel", "standMany", "I", false)
  | 86 => ("CliffJudgesModel", "tally", "[I", true)
  | 87 => ("CliffJudgesModel", "hasBox", "[Z", true)
  | _ => ("CliffJudgesModel", "boxes", "[I", true)
def tyX12 : Nat → FieldType := fun k => match k with
  | 0 => .array .int
  | 1 => .int
  | 2 => .int
  | 3 => .int
  | 4 => .int
  | 5 => .int
  | 6 => .int
  | 7 => .int
  | 8 => .int
  | 9 => .long
  | 10 => .array .long
  | 11 => .array .int
  | 12 => .array .int
  | 13 => .array .int
  | 14 => .array .int
  | 15 => .array .int
  | 16 => .array .int
  | 17 => .array .int
  | 18 => .array .int
  | 19 => .array .boolean
  | 20 => .array .boolean
  | 21 => .int
  | 22 => .int
  | 23 => .int
  | 24 => .int
  | 25 => .int
  | 26 => .int
  | 27 => .array .int
  | 28 => .array .int
  | 29 => .array .int
  | 30 => .array .int
  | 31 => .array .int
  | 32 => .array .int
  | 33 => .array .int
  | 34 => .array .int
  | 35 => .array .int
  | 36 => .array .int
  | 37 => .array .int
  | 38 => .array .int
  | 39 => .array .int
  | 40 => .array .boolean
  | 41 => .array .boolean
  | 42 => .int
  | 43 => .int
  | 44 => .int
  | 45 => .int
  | 46 => .int
  | 47 => .int
  | 48 => .int
  | 49 => .int
  | 50 => .int
  | 51 => .int
  | 52 => .int
  | 53 => .int
  | 54 => .int
  | 55 => .boolean
  | 56 => .boolean
  | 57 => .array .int
  | 58 => .array .int
  | 59 => .array .int
  | 60 => .array .int
  | 61 => .int
  | 62 => .int
  | 63 => .int
  | 64 => .int
  | 65 => .int
  | 66 => .int
  | 67 => .array .int
  | 68 => .int
  | 69 => .int
  | 70 => .array .int
  | 71 => .int
  | 72 => .array .int
  | 73 => .array .int
  | 74 => .array .int
  | 75 => .array .int
  | 76 => .array .int
  | 77 => .array .int
  | 78 => .array .int
  | 79 => .array .int
  | 80 => .array .int
  | 81 => .array .int
  | 82 => .int
  | 83 => .int
  | 84 => .array .boolean
  | 85 => .int
  | 86 => .array .int
  | 87 => .array .boolean
  | _ => .array .int
abbrev wsX120 : List Cond := u_ws RX12 TX12 89
theorem nmX12 : ∀ a, a < 89 → ∀ b, b < 89 → a ≠ b → (TX12 a).2.1 ≠ (TX12 b).2.1 := by decide +kernel
theorem tyX12_ok : ∀ k, k < 89 → parseFieldDescriptor (TX12 k).2.2.1 = some (tyX12 k) := by decide +kernel
abbrev cX12_init : ByteArray := prog_14_method_1_code
def yX12_init : MethodName := ⟨RX12, "<init>", "()V"⟩
abbrev cX12_feed : ByteArray := prog_14_method_2_code
def yX12_feed : MethodName := ⟨RX12, "feed", "(IIIII)I"⟩
abbrev cX12_four : ByteArray := prog_14_method_3_code
def yX12_four : MethodName := ⟨RX12, "four", "(I)V"⟩
abbrev cX12_end : ByteArray := prog_14_method_4_code
def yX12_end : MethodName := ⟨RX12, "end", "(I)I"⟩
abbrev cX12_here : ByteArray := prog_14_method_5_code
def yX12_here : MethodName := ⟨RX12, "here", "(I)I"⟩
abbrev cX12_isLetter : ByteArray := prog_14_method_6_code
def yX12_isLetter : MethodName := ⟨RX12, "isLetter", "(I)Z"⟩
abbrev cX12_isDigit : ByteArray := prog_14_method_7_code
def yX12_isDigit : MethodName := ⟨RX12, "isDigit", "(I)Z"⟩
abbrev cX12_isSign : ByteArray := prog_14_method_8_code
def yX12_isSign : MethodName := ⟨RX12, "isSign", "(I)Z"⟩
abbrev cX12_token : ByteArray := prog_14_method_9_code
def yX12_token : MethodName := ⟨RX12, "token", "()V"⟩
abbrev cX12_wrong : ByteArray := prog_14_method_10_code
def yX12_wrong : MethodName := ⟨RX12, "wrong", "(I)V"⟩
abbrev cX12_isWord : ByteArray := prog_14_method_11_code
def yX12_isWord : MethodName := ⟨RX12, "isWord", "(J)Z"⟩
abbrev cX12_isOwn : ByteArray := prog_14_method_12_code
def yX12_isOwn : MethodName := ⟨RX12, "isOwn", "()Z"⟩
abbrev cX12_isName : ByteArray := prog_14_method_13_code
def yX12_isName : MethodName := ⟨RX12, "isName", "()Z"⟩
abbrev cX12_want : ByteArray := prog_14_method_14_code
def yX12_want : MethodName := ⟨RX12, "want", "(J)V"⟩
abbrev cX12_toldNumber : ByteArray := prog_14_method_15_code
def yX12_toldNumber : MethodName := ⟨RX12, "toldNumber", "(II)I"⟩
abbrev cX12_told : ByteArray := prog_14_method_16_code
def yX12_told : MethodName := ⟨RX12, "told", "(JII)I"⟩
abbrev cX12_option : ByteArray := prog_14_method_17_code
def yX12_option : MethodName := ⟨RX12, "option", "(J)I"⟩
abbrev cX12_find : ByteArray := prog_14_method_18_code
def yX12_find : MethodName := ⟨RX12, "find", "(II)I"⟩
abbrev cX12_newName : ByteArray := prog_14_method_19_code
def yX12_newName : MethodName := ⟨RX12, "newName", "(II)V"⟩
abbrev cX12_oldName : ByteArray := prog_14_method_20_code
def yX12_oldName : MethodName := ⟨RX12, "oldName", "(II)I"⟩
abbrev cX12_add : ByteArray := prog_14_method_21_code
def yX12_add : MethodName := ⟨RX12, "add", "(II)V"⟩
abbrev cX12_tight : ByteArray := prog_14_method_22_code
def yX12_tight : MethodName := ⟨RX12, "tight", "(I)I"⟩
abbrev cX12_close : ByteArray := prog_14_method_23_code
def yX12_close : MethodName := ⟨RX12, "close", "(I)V"⟩
abbrev cX12_hasRelation : ByteArray := prog_14_method_24_code
def yX12_hasRelation : MethodName := ⟨RX12, "hasRelation", "()Z"⟩
abbrev cX12_mayNot : ByteArray := prog_14_method_25_code
def yX12_mayNot : MethodName := ⟨RX12, "mayNot", "()Z"⟩
abbrev cX12_asked : ByteArray := prog_14_method_26_code
def yX12_asked : MethodName := ⟨RX12, "asked", "()I"⟩
abbrev cX12_isFull : ByteArray := prog_14_method_27_code
def yX12_isFull : MethodName := ⟨RX12, "isFull", "()Z"⟩
abbrev cX12_countUnit : ByteArray := prog_14_method_28_code
def yX12_countUnit : MethodName := ⟨RX12, "countUnit", "()V"⟩
abbrev cX12_openUp : ByteArray := prog_14_method_29_code
def yX12_openUp : MethodName := ⟨RX12, "openUp", "(I)V"⟩
abbrev cX12_unit : ByteArray := prog_14_method_30_code
def yX12_unit : MethodName := ⟨RX12, "unit", "()V"⟩
abbrev cX12_sign : ByteArray := prog_14_method_31_code
def yX12_sign : MethodName := ⟨RX12, "sign", "()I"⟩
abbrev cX12_hasBracket : ByteArray := prog_14_method_32_code
def yX12_hasBracket : MethodName := ⟨RX12, "hasBracket", "()Z"⟩
abbrev cX12_formula : ByteArray := prog_14_method_33_code
def yX12_formula : MethodName := ⟨RX12, "formula", "(I)V"⟩
abbrev cX12_truth : ByteArray := prog_14_method_34_code
def yX12_truth : MethodName := ⟨RX12, "truth", "(Z)I"⟩
abbrev cX12_done : ByteArray := prog_14_method_35_code
def yX12_done : MethodName := ⟨RX12, "done", "(III)I"⟩
abbrev cX12_worked : ByteArray := prog_14_method_36_code
def yX12_worked : MethodName := ⟨RX12, "worked", "(I)I"⟩
abbrev cX12_readWord : ByteArray := prog_14_method_37_code
def yX12_readWord : MethodName := ⟨RX12, "readWord", "()V"⟩
abbrev cX12_readCliff : ByteArray := prog_14_method_38_code
def yX12_readCliff : MethodName := ⟨RX12, "readCliff", "()V"⟩
abbrev cX12_readMan : ByteArray := prog_14_method_39_code
def yX12_readMan : MethodName := ⟨RX12, "readMan", "()V"⟩
abbrev cX12_readState : ByteArray := prog_14_method_40_code
def yX12_readState : MethodName := ⟨RX12, "readState", "()V"⟩
abbrev cX12_readOn : ByteArray := prog_14_method_41_code
def yX12_readOn : MethodName := ⟨RX12, "readOn", "()V"⟩
abbrev cX12_readLine : ByteArray := prog_14_method_42_code
def yX12_readLine : MethodName := ⟨RX12, "readLine", "()V"⟩
abbrev cX12_readAll : ByteArray := prog_14_method_43_code
def yX12_readAll : MethodName := ⟨RX12, "readAll", "()V"⟩
abbrev cX12_hills : ByteArray := prog_14_method_44_code
def yX12_hills : MethodName := ⟨RX12, "hills", "()I"⟩
abbrev cX12_fault : ByteArray := prog_14_method_45_code
def yX12_fault : MethodName := ⟨RX12, "fault", "(I)I"⟩
abbrev cX12_isIn : ByteArray := prog_14_method_46_code
def yX12_isIn : MethodName := ⟨RX12, "isIn", "(III)Z"⟩
abbrev cX12_isCliff : ByteArray := prog_14_method_47_code
def yX12_isCliff : MethodName := ⟨RX12, "isCliff", "(I)Z"⟩
abbrev cX12_isMan : ByteArray := prog_14_method_48_code
def yX12_isMan : MethodName := ⟨RX12, "isMan", "(I)Z"⟩
abbrev cX12_isSaid : ByteArray := prog_14_method_49_code
def yX12_isSaid : MethodName := ⟨RX12, "isSaid", "(I)Z"⟩
abbrev cX12_isState : ByteArray := prog_14_method_50_code
def yX12_isState : MethodName := ⟨RX12, "isState", "(I)Z"⟩
abbrev cX12_isCry : ByteArray := prog_14_method_51_code
def yX12_isCry : MethodName := ⟨RX12, "isCry", "(I)Z"⟩
abbrev cX12_loadSky : ByteArray := prog_14_method_52_code
def yX12_loadSky : MethodName := ⟨RX12, "loadSky", "()V"⟩
abbrev cX12_loadCry : ByteArray := prog_14_method_53_code
def yX12_loadCry : MethodName := ⟨RX12, "loadCry", "(I)V"⟩
abbrev cX12_loadMan : ByteArray := prog_14_method_54_code
def yX12_loadMan : MethodName := ⟨RX12, "loadMan", "(I)V"⟩
abbrev cX12_load : ByteArray := prog_14_method_55_code
def yX12_load : MethodName := ⟨RX12, "load", "(I)V"⟩
abbrev cX12_off : ByteArray := prog_14_method_56_code
def yX12_off : MethodName := ⟨RX12, "off", "(II)I"⟩
abbrev cX12_farOf : ByteArray := prog_14_method_57_code
def yX12_farOf : MethodName := ⟨RX12, "farOf", "(I)I"⟩
abbrev cX12_askOf : ByteArray := prog_14_method_58_code
def yX12_askOf : MethodName := ⟨RX12, "askOf", "(IIII)V"⟩
abbrev cX12_backOf : ByteArray := prog_14_method_59_code
def yX12_backOf : MethodName := ⟨RX12, "backOf", "(IIII)I"⟩
abbrev cX12_isLost : ByteArray := prog_14_method_60_code
def yX12_isLost : MethodName := ⟨RX12, "isLost", "(II)Z"⟩
abbrev cX12_addEcho : ByteArray := prog_14_method_61_code
def yX12_addEcho : MethodName := ⟨RX12, "addEcho", "(I)V"⟩
abbrev cX12_sendFrom : ByteArray := prog_14_method_62_code
def yX12_sendFrom : MethodName := ⟨RX12, "sendFrom", "(I)V"⟩
abbrev cX12_leadsTo : ByteArray := prog_14_method_63_code
def yX12_leadsTo : MethodName := ⟨RX12, "leadsTo", "(II)I"⟩
abbrev cX12_isYes : ByteArray := prog_14_method_64_code
def yX12_isYes : MethodName := ⟨RX12, "isYes", "()Z"⟩
abbrev cX12_bindsAtHand : ByteArray := prog_14_method_65_code
def yX12_bindsAtHand : MethodName := ⟨RX12, "bindsAtHand", "()I"⟩
abbrev cX12_verdict : ByteArray := prog_14_method_66_code
def yX12_verdict : MethodName := ⟨RX12, "verdict", "()I"⟩
abbrev cX12_cliff : ByteArray := prog_14_method_67_code
def yX12_cliff : MethodName := ⟨RX12, "cliff", "(II)I"⟩
abbrev cX12_man : ByteArray := prog_14_method_68_code
def yX12_man : MethodName := ⟨RX12, "man", "(II)I"⟩
abbrev cX12_leads : ByteArray := prog_14_method_69_code
def yX12_leads : MethodName := ⟨RX12, "leads", "(II)I"⟩
abbrev cX12_act : ByteArray := prog_14_method_70_code
def yX12_act : MethodName := ⟨RX12, "act", "()V"⟩
abbrev cX12_exchange : ByteArray := prog_14_method_71_code
def yX12_exchange : MethodName := ⟨RX12, "exchange", "(I)V"⟩
abbrev cX12_say : ByteArray := prog_14_method_72_code
def yX12_say : MethodName := ⟨RX12, "say", "(II)I"⟩
abbrev cX12_unsay : ByteArray := prog_14_method_73_code
def yX12_unsay : MethodName := ⟨RX12, "unsay", "(I)I"⟩
abbrev cX12_said : ByteArray := prog_14_method_74_code
def yX12_said : MethodName := ⟨RX12, "said", "(II)I"⟩
abbrev cX12_call : ByteArray := prog_14_method_75_code
def yX12_call : MethodName := ⟨RX12, "call", "(I)I"⟩
abbrev cX12_noon : ByteArray := prog_14_method_76_code
def yX12_noon : MethodName := ⟨RX12, "noon", "()I"⟩
abbrev cX12_sweep : ByteArray := prog_14_method_77_code
def yX12_sweep : MethodName := ⟨RX12, "sweep", "(I)I"⟩
abbrev cX12_undo : ByteArray := prog_14_method_78_code
def yX12_undo : MethodName := ⟨RX12, "undo", "()Z"⟩
abbrev cX12_redo : ByteArray := prog_14_method_79_code
def yX12_redo : MethodName := ⟨RX12, "redo", "()Z"⟩
abbrev cX12_echo : ByteArray := prog_14_method_80_code
def yX12_echo : MethodName := ⟨RX12, "echo", "(II)I"⟩
abbrev cX12_answers : ByteArray := prog_14_method_81_code
def yX12_answers : MethodName := ⟨RX12, "answers", "(II)I"⟩
abbrev cX12_binds : ByteArray := prog_14_method_82_code
def yX12_binds : MethodName := ⟨RX12, "binds", "(I)I"⟩
abbrev cX12_rowsOf : ByteArray := prog_14_method_83_code
def yX12_rowsOf : MethodName := ⟨RX12, "rowsOf", "(I)I"⟩
abbrev cX12_layCry : ByteArray := prog_14_method_84_code
def yX12_layCry : MethodName := ⟨RX12, "layCry", "(II)V"⟩
abbrev cX12_isPardon : ByteArray := prog_14_method_85_code
def yX12_isPardon : MethodName := ⟨RX12, "isPardon", "()Z"⟩
abbrev cX12_putCry : ByteArray := prog_14_method_86_code
def yX12_putCry : MethodName := ⟨RX12, "putCry", "(I)V"⟩
abbrev cX12_pardon : ByteArray := prog_14_method_87_code
def yX12_pardon : MethodName := ⟨RX12, "pardon", "(I)I"⟩
abbrev cX12_pardons : ByteArray := prog_14_method_88_code
def yX12_pardons : MethodName := ⟨RX12, "pardons", "(II)I"⟩
abbrev cX12_isOther : ByteArray := prog_14_method_89_code
def yX12_isOther : MethodName := ⟨RX12, "isOther", "()Z"⟩
abbrev cX12_ahead : ByteArray := prog_14_method_90_code
def yX12_ahead : MethodName := ⟨RX12, "ahead", "(III)I"⟩
abbrev cX12_yeas : ByteArray := prog_14_method_91_code
def yX12_yeas : MethodName := ⟨RX12, "yeas", "(II)I"⟩
abbrev cX12_members : ByteArray := prog_14_method_92_code
def yX12_members : MethodName := ⟨RX12, "members", "(I)I"⟩
abbrev cX12_clears : ByteArray := prog_14_method_93_code
def yX12_clears : MethodName := ⟨RX12, "clears", "(II)I"⟩
abbrev cX12_layOthers : ByteArray := prog_14_method_94_code
def yX12_layOthers : MethodName := ⟨RX12, "layOthers", "(II)Z"⟩
abbrev cX12_nextSpots : ByteArray := prog_14_method_95_code
def yX12_nextSpots : MethodName := ⟨RX12, "nextSpots", "(I)Z"⟩
abbrev cX12_rhymesAt : ByteArray := prog_14_method_96_code
def yX12_rhymesAt : MethodName := ⟨RX12, "rhymesAt", "(I)Z"⟩
abbrev cX12_rhyme : ByteArray := prog_14_method_97_code
def yX12_rhyme : MethodName := ⟨RX12, "rhyme", "(I)I"⟩
abbrev cX12_sendBoth : ByteArray := prog_14_method_98_code
def yX12_sendBoth : MethodName := ⟨RX12, "sendBoth", "(III)V"⟩
abbrev cX12_joined : ByteArray := prog_14_method_99_code
def yX12_joined : MethodName := ⟨RX12, "joined", "(II)I"⟩
abbrev cX12_luck : ByteArray := prog_14_method_100_code
def yX12_luck : MethodName := ⟨RX12, "luck", "(I)I"⟩
abbrev cX12_winds : ByteArray := prog_14_method_101_code
def yX12_winds : MethodName := ⟨RX12, "winds", "(I)I"⟩
abbrev cX12_more : ByteArray := prog_14_method_102_code
def yX12_more : MethodName := ⟨RX12, "more", "(I)I"⟩
abbrev cX12_way : ByteArray := prog_14_method_103_code
def yX12_way : MethodName := ⟨RX12, "way", "(I)I"⟩
abbrev cX12_lies : ByteArray := prog_14_method_104_code
def yX12_lies : MethodName := ⟨RX12, "lies", "(I)I"⟩
abbrev cX12_sound : ByteArray := prog_14_method_105_code
def yX12_sound : MethodName := ⟨RX12, "sound", "(III)I"⟩
abbrev cX12_untell : ByteArray := prog_14_method_106_code
def yX12_untell : MethodName := ⟨RX12, "untell", "(I)Z"⟩
abbrev cX12_later : ByteArray := prog_14_method_107_code
def yX12_later : MethodName := ⟨RX12, "later", "(I)I"⟩
abbrev cX12_cameFrom : ByteArray := prog_14_method_108_code
def yX12_cameFrom : MethodName := ⟨RX12, "cameFrom", "(III)I"⟩
abbrev cX12_layStands : ByteArray := prog_14_method_109_code
def yX12_layStands : MethodName := ⟨RX12, "layStands", "(I)V"⟩
abbrev cX12_stood : ByteArray := prog_14_method_110_code
def yX12_stood : MethodName := ⟨RX12, "stood", "(II)I"⟩
abbrev cX12_leftBy : ByteArray := prog_14_method_111_code
def yX12_leftBy : MethodName := ⟨RX12, "leftBy", "(II)I"⟩
abbrev cX12_ask : ByteArray := prog_14_method_112_code
def yX12_ask : MethodName := ⟨RX12, "ask", "(II)I"⟩
abbrev cX12_isBox : ByteArray := prog_14_method_113_code
def yX12_isBox : MethodName := ⟨RX12, "isBox", "(I)Z"⟩
abbrev cX12_image : ByteArray := prog_14_method_114_code
def yX12_image : MethodName := ⟨RX12, "image", "(I)I"⟩
abbrev cX12_back : ByteArray := prog_14_method_115_code
def yX12_back : MethodName := ⟨RX12, "back", "(I)I"⟩
abbrev cX12_about : ByteArray := prog_14_method_116_code
def yX12_about : MethodName := ⟨RX12, "about", "(I)I"⟩
def RJ11 : String := "java/lang/Character"
def TJ11 : u_T := fun k => match k with
  | _ => ("", "", "", false)
def tyJ11 : Nat → FieldType := fun k => match k with
  | _ => .int
abbrev wsJ110 : List Cond := u_ws RJ11 TJ11 0
theorem nmJ11 : ∀ a, a < 0 → ∀ b, b < 0 → a ≠ b → (TJ11 a).2.1 ≠ (TJ11 b).2.1 := by decide +kernel
theorem tyJ11_ok : ∀ k, k < 0 → parseFieldDescriptor (TJ11 k).2.2.1 = some (tyJ11 k) := by decide +kernel
abbrev cJ11_isValidCodePoint_9a6ad : ByteArray := prog_15_method_11_code
def yJ11_isValidCodePoint_9a6ad : MethodName := ⟨RJ11, "isValidCodePoint", "(I)Z"⟩
abbrev cJ11_highSurrogate_5068e : ByteArray := prog_15_method_28_code
def yJ11_highSurrogate_5068e : MethodName := ⟨RJ11, "highSurrogate", "(I)C"⟩
abbrev cJ11_lowSurrogate_5068e : ByteArray := prog_15_method_29_code
def yJ11_lowSurrogate_5068e : MethodName := ⟨RJ11, "lowSurrogate", "(I)C"⟩
def RJ6 : String := "java/lang/Integer"
def TJ6 : u_T := fun k => match k with
  | _ => ("", "", "", false)
def tyJ6 : Nat → FieldType := fun k => match k with
  | _ => .int
abbrev wsJ60 : List Cond := u_ws RJ6 TJ6 0
theorem nmJ6 : ∀ a, a < 0 → ∀ b, b < 0 → a ≠ b → (TJ6 a).2.1 ≠ (TJ6 b).2.1 := by decide +kernel
theorem tyJ6_ok : ∀ k, k < 0 → parseFieldDescriptor (TJ6 k).2.2.1 = some (tyJ6 k) := by decide +kernel
abbrev cJ6_bitCount_0f7a4 : ByteArray := prog_16_method_49_code
def yJ6_bitCount_0f7a4 : MethodName := ⟨RJ6, "bitCount", "(I)I"⟩
def RJ9 : String := "java/lang/Math"
def TJ9 : u_T := fun k => match k with
  | _ => ("", "", "", false)
def tyJ9 : Nat → FieldType := fun k => match k with
  | _ => .int
abbrev wsJ90 : List Cond := u_ws RJ9 TJ9 0
theorem nmJ9 : ∀ a, a < 0 → ∀ b, b < 0 → a ≠ b → (TJ9 a).2.1 ≠ (TJ9 b).2.1 := by decide +kernel
theorem tyJ9_ok : ∀ k, k < 0 → parseFieldDescriptor (TJ9 k).2.2.1 = some (tyJ9 k) := by decide +kernel
abbrev cJ9_abs_0f7a4 : ByteArray := prog_17_method_59_code
def yJ9_abs_0f7a4 : MethodName := ⟨RJ9, "abs", "(I)I"⟩
abbrev cJ9_max_7cf53 : ByteArray := prog_17_method_65_code
def yJ9_max_7cf53 : MethodName := ⟨RJ9, "max", "(II)I"⟩
abbrev cJ9_min_7cf53 : ByteArray := prog_17_method_69_code
def yJ9_min_7cf53 : MethodName := ⟨RJ9, "min", "(II)I"⟩
def RJ0 : String := "java/lang/String"
def TJ0 : u_T := fun k => match k with
  | _ => ("", "", "", false)
def tyJ0 : Nat → FieldType := fun k => match k with
  | _ => .int
abbrev wsJ00 : List Cond := u_ws RJ0 TJ0 0
theorem nmJ0 : ∀ a, a < 0 → ∀ b, b < 0 → a ≠ b → (TJ0 a).2.1 ≠ (TJ0 b).2.1 := by decide +kernel
theorem tyJ0_ok : ∀ k, k < 0 → parseFieldDescriptor (TJ0 k).2.2.1 = some (tyJ0 k) := by decide +kernel
abbrev cJ0_length_8abf5 : ByteArray := prog_18_method_54_code
def yJ0_length_8abf5 : MethodName := ⟨RJ0, "length", "()I"⟩
abbrev cJ0_charAt_5068e : ByteArray := prog_18_method_56_code
def yJ0_charAt_5068e : MethodName := ⟨RJ0, "charAt", "(I)C"⟩
abbrev cJ0_indexOf_0f7a4 : ByteArray := prog_18_method_79_code
def yJ0_indexOf_0f7a4 : MethodName := ⟨RJ0, "indexOf", "(I)I"⟩
abbrev cJ0_indexOf_7cf53 : ByteArray := prog_18_method_80_code
def yJ0_indexOf_7cf53 : MethodName := ⟨RJ0, "indexOf", "(II)I"⟩
abbrev cJ0_coder_7d493 : ByteArray := prog_18_method_152_code
def yJ0_coder_7d493 : MethodName := ⟨RJ0, "coder", "()B"⟩
abbrev cJ0_isLatin1_aae02 : ByteArray := prog_18_method_154_code
def yJ0_isLatin1_aae02 : MethodName := ⟨RJ0, "isLatin1", "()Z"⟩
abbrev cJ0_checkIndex_df160 : ByteArray := prog_18_method_155_code
def yJ0_checkIndex_df160 : MethodName := ⟨RJ0, "checkIndex", "(II)V"⟩
abbrev cJ0_checkBoundsBeginEnd_23922 : ByteArray := prog_18_method_158_code
def yJ0_checkBoundsBeginEnd_23922 : MethodName := ⟨RJ0, "checkBoundsBeginEnd", "(III)V"⟩
def RJ1 : String := "java/lang/StringLatin1"
def TJ1 : u_T := fun k => match k with
  | _ => ("", "", "", false)
def tyJ1 : Nat → FieldType := fun k => match k with
  | _ => .int
abbrev wsJ10 : List Cond := u_ws RJ1 TJ1 0
theorem nmJ1 : ∀ a, a < 0 → ∀ b, b < 0 → a ≠ b → (TJ1 a).2.1 ≠ (TJ1 b).2.1 := by decide +kernel
theorem tyJ1_ok : ∀ k, k < 0 → parseFieldDescriptor (TJ1 k).2.2.1 = some (tyJ1 k) := by decide +kernel
abbrev cJ1_charAt_3b067 : ByteArray := prog_19_method_2_code
def yJ1_charAt_3b067 : MethodName := ⟨RJ1, "charAt", "([BI)C"⟩
abbrev cJ1_canEncode_9a6ad : ByteArray := prog_19_method_4_code
def yJ1_canEncode_9a6ad : MethodName := ⟨RJ1, "canEncode", "(I)Z"⟩
abbrev cJ1_indexOf_4cfef : ByteArray := prog_19_method_22_code
def yJ1_indexOf_4cfef : MethodName := ⟨RJ1, "indexOf", "([BIII)I"⟩
abbrev cJ1_indexOfChar_4cfef : ByteArray := prog_19_method_23_code
def yJ1_indexOfChar_4cfef : MethodName := ⟨RJ1, "indexOfChar", "([BIII)I"⟩
def RJ2 : String := "java/lang/StringUTF16"
def TJ2 : u_T := fun k => match k with
  | _ => ("", "", "", false)
def tyJ2 : Nat → FieldType := fun k => match k with
  | _ => .int
abbrev wsJ20 : List Cond := u_ws RJ2 TJ2 0
theorem nmJ2 : ∀ a, a < 0 → ∀ b, b < 0 → a ≠ b → (TJ2 a).2.1 ≠ (TJ2 b).2.1 := by decide +kernel
theorem tyJ2_ok : ∀ k, k < 0 → parseFieldDescriptor (TJ2 k).2.2.1 = some (tyJ2 k) := by decide +kernel
abbrev cJ2_getChar_3b067 : ByteArray := prog_20_method_5_code
def yJ2_getChar_3b067 : MethodName := ⟨RJ2, "getChar", "([BI)C"⟩
abbrev cJ2_length_9d52b : ByteArray := prog_20_method_6_code
def yJ2_length_9d52b : MethodName := ⟨RJ2, "length", "([B)I"⟩
abbrev cJ2_indexOf_4cfef : ByteArray := prog_20_method_40_code
def yJ2_indexOf_4cfef : MethodName := ⟨RJ2, "indexOf", "([BIII)I"⟩
abbrev cJ2_indexOfChar_4cfef : ByteArray := prog_20_method_47_code
def yJ2_indexOfChar_4cfef : MethodName := ⟨RJ2, "indexOfChar", "([BIII)I"⟩
abbrev cJ2_indexOfCharUnsafe_4cfef : ByteArray := prog_20_method_48_code
def yJ2_indexOfCharUnsafe_4cfef : MethodName := ⟨RJ2, "indexOfCharUnsafe", "([BIII)I"⟩
abbrev cJ2_indexOfSupplementary_4cfef : ByteArray := prog_20_method_49_code
def yJ2_indexOfSupplementary_4cfef : MethodName := ⟨RJ2, "indexOfSupplementary", "([BIII)I"⟩
abbrev cJ2_charAt_3b067 : ByteArray := prog_20_method_83_code
def yJ2_charAt_3b067 : MethodName := ⟨RJ2, "charAt", "([BI)C"⟩
abbrev cJ2_checkIndex_2214a : ByteArray := prog_20_method_91_code
def yJ2_checkIndex_2214a : MethodName := ⟨RJ2, "checkIndex", "(I[B)V"⟩
abbrev cJ2_checkBoundsBeginEnd_d044e : ByteArray := prog_20_method_93_code
def yJ2_checkBoundsBeginEnd_d044e : MethodName := ⟨RJ2, "checkBoundsBeginEnd", "(II[B)V"⟩
def RJ10 : String := "java/lang/System"
def TJ10 : u_T := fun k => match k with
  | _ => ("", "", "", false)
def tyJ10 : Nat → FieldType := fun k => match k with
  | _ => .int
abbrev wsJ100 : List Cond := u_ws RJ10 TJ10 0
theorem nmJ10 : ∀ a, a < 0 → ∀ b, b < 0 → a ≠ b → (TJ10 a).2.1 ≠ (TJ10 b).2.1 := by decide +kernel
theorem tyJ10_ok : ∀ k, k < 0 → parseFieldDescriptor (TJ10 k).2.2.1 = some (tyJ10 k) := by decide +kernel
def RJ3 : String := "jdk/internal/util/Preconditions"
def TJ3 : u_T := fun k => match k with
  | _ => ("", "", "", false)
def tyJ3 : Nat → FieldType := fun k => match k with
  | _ => .int
abbrev wsJ30 : List Cond := u_ws RJ3 TJ3 0
theorem nmJ3 : ∀ a, a < 0 → ∀ b, b < 0 → a ≠ b → (TJ3 a).2.1 ≠ (TJ3 b).2.1 := by decide +kernel
theorem tyJ3_ok : ∀ k, k < 0 → parseFieldDescriptor (TJ3 k).2.2.1 = some (tyJ3 k) := by decide +kernel
abbrev cJ3_checkIndex_8e157 : ByteArray := prog_22_method_11_code
def yJ3_checkIndex_8e157 : MethodName := ⟨RJ3, "checkIndex", "(IILjava/util/function/BiFunction;)I"⟩
abbrev cJ3_checkFromToIndex_8c36e : ByteArray := prog_22_method_12_code
def yJ3_checkFromToIndex_8c36e : MethodName := ⟨RJ3, "checkFromToIndex", "(IIILjava/util/function/BiFunction;)I"⟩
def RL : String := "CliffJudgesLaw"
abbrev cL_law : ByteArray := code
def yL_law : MethodName := ⟨RL, "law", "([I)Z"⟩
abbrev vwCl : List vw_C := [(RX0, TX0, 3), (RX1, TX1, 8), (RX2, TX2, 5), (RX3, TX3, 4), (RX4, TX4, 16), (RX5, TX5, 7), (RX6, TX6, 9), (RX7, TX7, 7), (RX8, TX8, 13), (RX9, TX9, 8), (RX10, TX10, 10), (RX11, TX11, 14), (RX12, TX12, 89)]
end
section
/-! the words that stay, of the tables; a method's words are its own code and these -/
def gT : List Cond := lw_tbl.filter goodWord
theorem gm {w : Cond} (i : Nat) (h : lw_tbl[i]? = some w) (hg : goodWord w = true) : w ∈ gT := List.mem_filter.mpr ⟨List.mem_of_getElem? h, hg⟩
theorem gin {ws : List Cond} (ps : List Nat) (h : ws = ps.filterMap (fun i => lw_tbl[i]?)) (hg : ws.all goodWord = true) : ∀ w ∈ ws, w ∈ gT := by
  intro w hw
  have h1 := List.all_eq_true.mp hg w hw
  rw [h] at hw
  obtain ⟨i, -, hi⟩ := List.mem_filterMap.mp hw
  exact gm i hi h1
theorem gGood {c : Cond} {ws : List Cond} (hc : c ∈ gT) (hw : ∀ w ∈ ws, w ∈ gT) (d : Cond) : GoodIn (d :: gT) (ws ++ (c :: gT)) := by
  intro w h
  have hm : w ∈ gT := by
    rcases List.mem_append.mp h with h | h
    · exact hw w h
    · rcases List.mem_cons.mp h with h | h
      · rw [h]; exact hc
      · exact h
  exact ⟨List.mem_cons_of_mem _ hm, good_of_word (List.mem_filter.mp hm).2⟩
theorem gGood2 {c : Cond} {ws : List Cond} (hc : c ∈ gT) (hw : ∀ w ∈ ws, w ∈ gT) : GoodIn gT (ws ++ (c :: gT)) := by
  intro w h
  have hm : w ∈ gT := by
    rcases List.mem_append.mp h with h | h
    · exact hw w h
    · rcases List.mem_cons.mp h with h | h
      · rw [h]; exact hc
      · exact h
  exact ⟨hm, good_of_word (List.mem_filter.mp hm).2⟩
/-- what a contract begins with: the world wc, the array classes tys, and what E says of the rest -/
def xPre (D : va_G) (tys : List (ClassId × FieldType)) (E : (Nat → Prop) → State → Prop) (sz : Nat) (wc : va_W) (U : State) : Prop :=
  U.heap.size = sz ∧ va_P D vwCl wc U.heap ∧ va_K D vwCl tys U ∧ va_D (fun _ => True) wc ∧ E (va_A wc sz) U
def xB (D : va_G) (tys : List (ClassId × FieldType)) (A : Nat → Prop) (w1 : va_W) (t : State) : Prop :=
  va_P D vwCl w1 t.heap ∧ va_K D vwCl tys t ∧ va_D A w1
/-- E doesn't look at frames -/
def xBlind (E : (Nat → Prop) → State → Prop) : Prop := ∀ (A : Nat → Prop) (U : State) (g : JFrame) (mk : MethodId) (a : Array Value), E A U → E A (U.calling g mk a)
def E0 : (Nat → Prop) → State → Prop := fun _ _ => True
theorem E0_blind : xBlind E0 := fun _ _ _ _ _ _ => trivial
/-- contracts: an int (or a truth value), and nothing -/
def XMi (l : Launch) (D : va_G) (tys : List (ClassId × FieldType)) (E : (Nat → Prop) → State → Prop) (y : MethodName) (bytes : ByteArray) (maxL : Nat) (ret : Option FieldType) (rm : Room) (av : List Value) (wc : va_W) {S : Type} (post : Int32 → S → Prop) (w1 : S → va_W) : Prop :=
  ∀ sz : Nat, Met l y (Cond.code y bytes maxL ret :: gT) rm (va_Pc av (xPre D tys E sz wc)) (va_Qi post (fun u t => xB D tys (va_A wc sz) (w1 u) t) (va_A wc sz)) rm.cells rm.slots (va_A wc sz)
def XMv (l : Launch) (D : va_G) (tys : List (ClassId × FieldType)) (E : (Nat → Prop) → State → Prop) (y : MethodName) (bytes : ByteArray) (maxL : Nat) (ret : Option FieldType) (rm : Room) (av : List Value) (wc : va_W) {S : Type} (post : S → Prop) (w1 : S → va_W) : Prop :=
  ∀ sz : Nat, Met l y (Cond.code y bytes maxL ret :: gT) rm (va_Pc av (xPre D tys E sz wc)) (va_Qv post (fun u t => xB D tys (va_A wc sz) (w1 u) t) (va_A wc sz)) rm.cells rm.slots (va_A wc sz)
/-- what holds at a method's first instruction -/
def xAt (D : va_G) (tys : List (ClassId × FieldType)) (E : (Nat → Prop) → State → Prop) (y : MethodName) (bytes : ByteArray) (maxL : Nat) (ret : Option FieldType) (av : List Value) (wc : va_W) (p : Program) (s : State) (m : MethodId) (meth : Method) (c : Code) (args : Array Value) (A : Nat → Prop) (ls : Array Slot) : Prop :=
  p.tables.exec = Jvm.exec ∧ c.code = bytes ∧ meth.sig.returnType = ret ∧ c.maxLocals = maxL ∧ s.vm.findClass y.cls = some m.cls ∧ (∀ w ∈ gT, w.before args s = true) ∧ meth.locks = false ∧ meth.name = y.name ∧ va_K D vwCl tys s ∧ (∀ q, s.heap.size ≤ q → A q) ∧ va_P D vwCl wc s.heap ∧ va_D A wc ∧ va_S A s.heap s.heap [] ∧ E A s ∧ lv_has ls maxL (lv_args 0 av)
theorem XMi.start {l : Launch} {D : va_G} {tys : List (ClassId × FieldType)} {E : (Nat → Prop) → State → Prop} {y : MethodName} {bytes : ByteArray} {maxL : Nat} {ret : Option FieldType} {rm : Room} {av : List Value} {wc : va_W} {S : Type} {post : Int32 → S → Prop} {w1 : S → va_W}
    (hpl : plainName y.cls = true) (hlen : (lg_sl av).length ≤ maxL)
    (body : ∀ p e s m below meth c args A ls Q, xAt D tys E y bytes maxL ret av wc p s m meth c args A ls → Q = MQ below (va_Qi post (fun u t => xB D tys A (w1 u) t) A) args s rm.cells rm.slots A →
      W p l e rm s m args below meth c s.heap [] 0 0 Q (F0 m 0 ls [])) : XMi l D tys E y bytes maxL ret rm av wc post w1 := by
  intro sz
  refine Met.ofW (cc := bytes) (maxL := maxL) (ret := ret) hpl rfl ?_
  intro p e s m args below meth c s₁ B hml hv
  obtain ⟨rfl, hsz, hP, hK, hD0, hE⟩ := hv
  have hts := atoms_spec (ws := Cond.code y bytes maxL ret :: gT) B.pre
  subst hsz
  have hD := hD0.self (sz := s.heap.size)
  generalize hAe : va_A wc s.heap.size = A at hD hE ⊢
  have hA : ∀ q : Nat, s.heap.size ≤ q → A q := fun q h => by rw [← hAe]; exact Or.inr h
  have hl := lv_entry av (n := maxL) hlen
  rw [lg_entry_eq]
  generalize (lg_sl av ++ List.replicate (maxL - (lg_sl av).length) Slot.unset).toArray = ls at hl ⊢
  exact body p e s m below meth c av.toArray A ls _ ⟨B.exec, B.bytes, B.returns, hml, findClass_of_methodNamed B.named, fun w h => hts w (List.mem_cons_of_mem _ h), B.notSynchronized, (name_of_methodNamed B.named B.method).1, hK, hA, hP, hD, va_S.rf, hE, hl⟩ rfl
theorem XMv.start {l : Launch} {D : va_G} {tys : List (ClassId × FieldType)} {E : (Nat → Prop) → State → Prop} {y : MethodName} {bytes : ByteArray} {maxL : Nat} {ret : Option FieldType} {rm : Room} {av : List Value} {wc : va_W} {S : Type} {post : S → Prop} {w1 : S → va_W}
    (hpl : plainName y.cls = true) (hlen : (lg_sl av).length ≤ maxL)
    (body : ∀ p e s m below meth c args A ls Q, xAt D tys E y bytes maxL ret av wc p s m meth c args A ls → Q = MQ below (va_Qv post (fun u t => xB D tys A (w1 u) t) A) args s rm.cells rm.slots A →
      W p l e rm s m args below meth c s.heap [] 0 0 Q (F0 m 0 ls [])) : XMv l D tys E y bytes maxL ret rm av wc post w1 := by
  intro sz
  refine Met.ofW (cc := bytes) (maxL := maxL) (ret := ret) hpl rfl ?_
  intro p e s m args below meth c s₁ B hml hv
  obtain ⟨rfl, hsz, hP, hK, hD0, hE⟩ := hv
  have hts := atoms_spec (ws := Cond.code y bytes maxL ret :: gT) B.pre
  subst hsz
  have hD := hD0.self (sz := s.heap.size)
  generalize hAe : va_A wc s.heap.size = A at hD hE ⊢
  have hA : ∀ q : Nat, s.heap.size ≤ q → A q := fun q h => by rw [← hAe]; exact Or.inr h
  have hl := lv_entry av (n := maxL) hlen
  rw [lg_entry_eq]
  generalize (lg_sl av ++ List.replicate (maxL - (lg_sl av).length) Slot.unset).toArray = ls at hl ⊢
  exact body p e s m below meth c av.toArray A ls _ ⟨B.exec, B.bytes, B.returns, hml, findClass_of_methodNamed B.named, fun w h => hts w (List.mem_cons_of_mem _ h), B.notSynchronized, (name_of_methodNamed B.named B.method).1, hK, hA, hP, hD, va_S.rf, hE, hl⟩ rfl
section XR
variable {p : Program} {l : Launch} {e : Env} {R : Room} {s : State} {m : MethodId} {args : Array Value} {below : List Frame} {meth : Method} {c : Code} {H : Heap} {locs : List Loc} {cells slots : Nat} {Q : State → Prop}
variable {cc : ByteArray} {pc : Nat} {ls : Array Slot} {D : va_G} {A : Nat → Prop} {tys : List (ClassId × FieldType)} {ws : va_W} {mc ms : Nat}
/-- the ends -/
theorem x_iret {S : Type} {post : Int32 → S → Prop} {w1 : S → va_W} {v : Int32} (hQ : Q = MQ below (va_Qi post (fun u t => xB D tys A (w1 u) t) A) args s mc ms A) (hx : p.tables.exec = Jvm.exec) (hb : c.code = cc) (hr : meth.sig.returnType = some .int) (hlocks : meth.locks = false) (hK : va_K D vwCl tys s) (hP : va_P D vwCl ws H) (hD : va_D A ws) (hS : va_S A s.heap H locs)
    (hdg : decode cc pc = .ok (.ireturn, 1)) (u : S) (hpost : post v u) (is : List Nat) (hn : va_nd is = true) (hw : is.map (fun i => ws[i]?) = (w1 u).map some) (hc : cells ≤ mc) (hs : slots ≤ ms) :
    W p l e R s m args below meth c H locs cells slots Q (F0 m pc ls [.int v]) := by
  subst hQ
  refine W.widen hc hs ?_
  have hP1 : va_P D vwCl (w1 u) H := hP.sub is (by
    have := congrArg (fun l => l.filterMap id) hw
    simpa [List.filterMap_map] using this)
  have hD1 : va_D A (w1 u) := hD.sub is hn hw
  exact W.iret (v := v) hx hb hr (fun t ht hW => ⟨⟨v, u, rfl, hpost, by rw [ht]; exact hP1, va_K.moved hW.alike hK, hD1⟩, hS.F ht⟩) hS.2.2 hdg hlocks
theorem x_zret {S : Type} {post : Int32 → S → Prop} {w1 : S → va_W} {v : Int32} {ty : FieldType} (hQ : Q = MQ below (va_Qi post (fun u t => xB D tys A (w1 u) t) A) args s mc ms A) (hx : p.tables.exec = Jvm.exec) (hb : c.code = cc) (hr : meth.sig.returnType = some ty) (hlocks : meth.locks = false) (hK : va_K D vwCl tys s) (hP : va_P D vwCl ws H) (hD : va_D A ws) (hS : va_S A s.heap H locs)
    (hnr : narrow ty (.int v) = .int v) (hdg : decode cc pc = .ok (.ireturn, 1)) (u : S) (hpost : post v u) (is : List Nat) (hn : va_nd is = true) (hw : is.map (fun i => ws[i]?) = (w1 u).map some) (hc : cells ≤ mc) (hs : slots ≤ ms) :
    W p l e R s m args below meth c H locs cells slots Q (F0 m pc ls [.int v]) := by
  subst hQ
  refine W.widen hc hs ?_
  have hP1 : va_P D vwCl (w1 u) H := hP.sub is (by
    have := congrArg (fun l => l.filterMap id) hw
    simpa [List.filterMap_map] using this)
  have hD1 : va_D A (w1 u) := hD.sub is hn hw
  exact W.zret (v := v) hx hb hr hnr (fun t ht hW => ⟨⟨v, u, rfl, hpost, by rw [ht]; exact hP1, va_K.moved hW.alike hK, hD1⟩, hS.F ht⟩) hS.2.2 hdg hlocks
theorem x_vret {S : Type} {post : S → Prop} {w1 : S → va_W} (hQ : Q = MQ below (va_Qv post (fun u t => xB D tys A (w1 u) t) A) args s mc ms A) (hx : p.tables.exec = Jvm.exec) (hb : c.code = cc) (hr : meth.sig.returnType = none) (hlocks : meth.locks = false) (hK : va_K D vwCl tys s) (hP : va_P D vwCl ws H) (hD : va_D A ws) (hS : va_S A s.heap H locs)
    (hdg : decode cc pc = .ok (.return_, 1)) (u : S) (hpost : post u) (is : List Nat) (hn : va_nd is = true) (hw : is.map (fun i => ws[i]?) = (w1 u).map some) (hc : cells ≤ mc) (hs : slots ≤ ms) :
    W p l e R s m args below meth c H locs cells slots Q (F0 m pc ls []) := by
  subst hQ
  refine W.widen hc hs ?_
  have hP1 : va_P D vwCl (w1 u) H := hP.sub is (by
    have := congrArg (fun l => l.filterMap id) hw
    simpa [List.filterMap_map] using this)
  have hD1 : va_D A (w1 u) := hD.sub is hn hw
  exact W.vret hx hb hr (fun t ht hW => ⟨⟨u, rfl, hpost, by rw [ht]; exact hP1, va_K.moved hW.alike hK, hD1⟩, hS.F ht⟩) hS.2.2 hdg hlocks
end XR
/-- what a call needs of the tables -/
def xV (own C : String) (index : Nat) (y : MethodName) (bytes : ByteArray) (maxL : Nat) (ret : Option FieldType) (n : Nat) : Prop :=
  (Cond.methodLink own index y ∈ gT ∧ Cond.instanceMethod y ∈ gT ∧ Cond.selects C y y ∈ gT ∧ Cond.initialized C ∈ gT ∧ Cond.code y bytes maxL ret ∈ gT) ∧ y.cls = C ∧ y.cls ≠ "java/lang/invoke/MethodHandle" ∧ y.cls ≠ "java/lang/invoke/VarHandle" ∧ (parseMethodDescriptor y.desc).map (fun d => d.parameters.length) = some n
def xS (own : String) (index : Nat) (y : MethodName) (bytes : ByteArray) (maxL : Nat) (ret : Option FieldType) (n : Nat) : Prop :=
  (Cond.methodLink own index y ∈ gT ∧ Cond.static y ∈ gT ∧ Cond.initialized y.cls ∈ gT ∧ Cond.code y bytes maxL ret ∈ gT) ∧ y.cls ≠ "java/lang/invoke/MethodHandle" ∧ y.cls ≠ "java/lang/invoke/VarHandle" ∧ (parseMethodDescriptor y.desc).map (fun d => d.parameters.length) = some n
def xI (own : String) (index : Nat) (y : MethodName) (bytes : ByteArray) (maxL : Nat) (n : Nat) : Prop :=
  (Cond.methodLink own index y ∈ gT ∧ Cond.instanceMethod y ∈ gT ∧ Cond.initialized y.cls ∈ gT ∧ Cond.code y bytes maxL none ∈ gT) ∧ y.name = "<init>" ∧ y.cls ≠ "java/lang/invoke/MethodHandle" ∧ y.cls ≠ "java/lang/invoke/VarHandle" ∧ (parseMethodDescriptor y.desc).map (fun d => d.parameters.length) = some n
def xN (y : MethodName) (bytes : ByteArray) (maxL : Nat) (n : Nat) : Prop :=
  (Cond.instanceMethod y ∈ gT ∧ Cond.initialized y.cls ∈ gT ∧ Cond.code y bytes maxL none ∈ gT) ∧ y.name = "<init>" ∧ y.cls ≠ "java/lang/invoke/MethodHandle" ∧ y.cls ≠ "java/lang/invoke/VarHandle" ∧ (parseMethodDescriptor y.desc).map (fun d => d.parameters.length) = some n
theorem all4 {a b c d : Cond} (ha : a ∈ gT) (hb : b ∈ gT) (hc : c ∈ gT) (hd : d ∈ gT) : ∀ w ∈ [a, b, c, d], w ∈ gT := by
  intro w h
  simp only [List.mem_cons, List.not_mem_nil, or_false] at h
  rcases h with rfl | rfl | rfl | rfl <;> assumption
theorem all3 {a b c : Cond} (ha : a ∈ gT) (hb : b ∈ gT) (hc : c ∈ gT) : ∀ w ∈ [a, b, c], w ∈ gT := by
  intro w h
  simp only [List.mem_cons, List.not_mem_nil, or_false] at h
  rcases h with rfl | rfl | rfl <;> assumption
theorem xPre_blind {D : va_G} {tys : List (ClassId × FieldType)} {E : (Nat → Prop) → State → Prop} (hE : xBlind E) {sz : Nat} {wc : va_W} {av : List Value} : FrameBlind (va_Pc av (xPre D tys E sz wc)) := by
  intro a U g mk q
  obtain ⟨q0, q1, qP, qK, qD, qE⟩ := q
  exact ⟨q0, q1, qP, va_K.moved (u := U) (U := U.calling g mk a) (Vm.Alike.refl U.vm) qK, qD, hE _ U g mk a qE⟩
section XC
variable {p : Program} {l : Launch} {e : Env} {R : Room} {s : State} {m : MethodId} {args : Array Value} {below : List Frame} {meth : Method} {c : Code} {H : Heap} {locs : List Loc} {cells slots : Nat} {Q : State → Prop}
variable {cc : ByteArray} {pc : Nat} {ls : Array Slot} {D : va_G} {A : Nat → Prop} {tys : List (ClassId × FieldType)} {ws wc wr : va_W} {H0 : Heap} {E : (Nat → Prop) → State → Prop}
variable {own C : String} {index maxL n nL : Nat} {y : MethodName} {bytes : ByteArray} {ret : Option FieldType} {rm : Room} {av rest st : List Value} {b : Nat} {S : Type} {w1 : S → va_W}
/-- what a call needs of the caller's world: the callee's cells at the places isC, the rest at isR -/
def xCut (ws wc wr : va_W) (isC isR : List Nat) : Prop := isC.map (fun i => ws[i]?) = wc.map some ∧ isR.map (fun i => ws[i]?) = wr.map some ∧ va_nd isC = true ∧ va_nd isR = true ∧ ∀ i ∈ isR, i ∉ isC
theorem xCut_P {isC isR : List Nat} (h : xCut ws wc wr isC isR) (hP : va_P D vwCl ws H) : va_P D vwCl wc H := hP.sub isC (by
  have := congrArg (fun l => l.filterMap id) h.1
  simpa [List.filterMap_map] using this)
theorem x_join {isC isR : List Nat} {H1 : Heap} {w : va_W} {t : State} (h : xCut ws wc wr isC isR) (hP : va_P D vwCl ws H) (hD : va_D A ws) (hS : va_S A H0 H locs) (hA : ∀ q, H0.size ≤ q → A q) (ht : t.heap = H1) (hB : xB D tys (va_A wc H.size) w t) (hk : ∀ q : Nat, q < H.size → ¬ va_A wc H.size q → H1[q]? = H[q]?) : va_P D vwCl (wr ++ w) H1 ∧ va_D A (wr ++ w) := by
  have hF := va_free (wc := wc) hD hS hA isC h.1
  exact va_join hP hD isC isR h.1 h.2.1 h.2.2.2.1 h.2.2.2.2 hk hF (by rw [← ht]; exact hB.1) hB.2.2
/-- the facts of a frame that calls -/
def xFix (p : Program) (s : State) (m : MethodId) (c : Code) (args : Array Value) (cc : ByteArray) (nL : Nat) (own : String) (ls : Array Slot) : Prop := p.tables.exec = Jvm.exec ∧ c.code = cc ∧ c.maxLocals = nL ∧ s.vm.findClass own = some m.cls ∧ (∀ w ∈ gT, w.before args s = true) ∧ ls.size = nL
theorem x_callVi {post : Int32 → S → Prop} {ci q0 : Nat} {fs : List Value} {q : vw_C} (S0 : xFix p s m c args cc nL own ls) (kx : xV own q.1 index y bytes maxL ret n)
    (hM : XMi l D tys E y bytes maxL ret rm (.ref b :: av) wc post w1) (hbl : xBlind E)
    (hK : va_K D vwCl tys s) (hP : va_P D vwCl ws H) (hD : va_D A ws) (hS : va_S A H0 H locs) (hA : ∀ q, H0.size ≤ q → A q) (isC isR : List Nat) (hcut : xCut ws wc wr isC isR) (hc : vwCl[ci]? = some q) (hq : wc[q0]? = some (b, .inr (ci, fs)))
    (hE : ∀ U : State, U.heap = H → s.WarmedH U.vm → E (va_A wc H.size) U) (hdg : decode cc pc = .ok (.invokevirtual index, 3)) (hst : st = av.reverse ++ .ref b :: rest) (hn : av.length = n) (hroom : (rest.map fun v => v.category).sum ≤ 8)
    (hR : rm.frames + 1 ≤ R.frames ∧ 8 + (maxL + 11) + rm.locals ≤ R.locals) (hf : cells + rm.cells ≤ R.cells ∧ slots + rm.slots ≤ R.slots)
    (kk : ∀ (r : Int32) (u : S) (H1 : Heap) (locs1 : List Loc), post r u → va_P D vwCl (wr ++ w1 u) H1 → va_D A (wr ++ w1 u) → va_S A H0 H1 locs1 → W p l e R s m args below meth c H1 locs1 (cells + rm.cells) (slots + rm.slots) Q (F0 m (pc + 3) ls (.int r :: rest))) :
    W p l e R s m args below meth c H locs cells slots Q (F0 m pc ls st) := by
  obtain ⟨hx, hb, hml, hown, hg, hls⟩ := S0
  obtain ⟨⟨m1, m2, m3, m4, m5⟩, hd⟩ := kx
  have hF := va_free (wc := wc) hD hS hA isC hcut.1
  have hPc := xCut_P hcut hP
  have hDc := hD.sub isC hcut.2.2.1 hcut.1
  exact va_calli (va_runV (As := av) (rest := rest) (Ts := gT) ⟨hx, hb, hml, hown, hg⟩ (hM H.size) (cwV n hg (gGood2 m5 (all4 m1 m2 m3 m4)) rfl rfl rfl hd hR) ⟨xPre_blind hbl, va_recv hK hPc hc hq, fun U hU hW => ⟨rfl, by rw [hU], by rw [hU]; exact hPc, va_K.moved hW.alike hK, hDc.weaken (fun _ _ _ _ => trivial), hE U hU hW⟩⟩ rfl hn hls hst (lv_room hroom) hdg hf) hS (fun q _ h => hF q h) hF (fun r u t H1 locs1 ht hvm hw hB hz1 hk1 hS1 => by
    obtain ⟨hP1, hD1⟩ := x_join hcut hP hD hS hA ht hB hk1
    exact kk r u H1 locs1 hw hP1 hD1 hS1)
theorem x_callVv {post : S → Prop} {ci q0 : Nat} {fs : List Value} {q : vw_C} (S0 : xFix p s m c args cc nL own ls) (kx : xV own q.1 index y bytes maxL ret n)
    (hM : XMv l D tys E y bytes maxL ret rm (.ref b :: av) wc post w1) (hbl : xBlind E)
    (hK : va_K D vwCl tys s) (hP : va_P D vwCl ws H) (hD : va_D A ws) (hS : va_S A H0 H locs) (hA : ∀ q, H0.size ≤ q → A q) (isC isR : List Nat) (hcut : xCut ws wc wr isC isR) (hc : vwCl[ci]? = some q) (hq : wc[q0]? = some (b, .inr (ci, fs)))
    (hE : ∀ U : State, U.heap = H → s.WarmedH U.vm → E (va_A wc H.size) U) (hdg : decode cc pc = .ok (.invokevirtual index, 3)) (hst : st = av.reverse ++ .ref b :: rest) (hn : av.length = n) (hroom : (rest.map fun v => v.category).sum ≤ 8)
    (hR : rm.frames + 1 ≤ R.frames ∧ 8 + (maxL + 11) + rm.locals ≤ R.locals) (hf : cells + rm.cells ≤ R.cells ∧ slots + rm.slots ≤ R.slots)
    (kk : ∀ (u : S) (H1 : Heap) (locs1 : List Loc), post u → va_P D vwCl (wr ++ w1 u) H1 → va_D A (wr ++ w1 u) → va_S A H0 H1 locs1 → W p l e R s m args below meth c H1 locs1 (cells + rm.cells) (slots + rm.slots) Q (F0 m (pc + 3) ls rest)) :
    W p l e R s m args below meth c H locs cells slots Q (F0 m pc ls st) := by
  obtain ⟨hx, hb, hml, hown, hg, hls⟩ := S0
  obtain ⟨⟨m1, m2, m3, m4, m5⟩, hd⟩ := kx
  have hF := va_free (wc := wc) hD hS hA isC hcut.1
  have hPc := xCut_P hcut hP
  have hDc := hD.sub isC hcut.2.2.1 hcut.1
  exact va_callv (va_runV (As := av) (rest := rest) (Ts := gT) ⟨hx, hb, hml, hown, hg⟩ (hM H.size) (cwV n hg (gGood2 m5 (all4 m1 m2 m3 m4)) rfl rfl rfl hd hR) ⟨xPre_blind hbl, va_recv hK hPc hc hq, fun U hU hW => ⟨rfl, by rw [hU], by rw [hU]; exact hPc, va_K.moved hW.alike hK, hDc.weaken (fun _ _ _ _ => trivial), hE U hU hW⟩⟩ rfl hn hls hst (lv_room hroom) hdg hf) hS (fun q _ h => hF q h) hF (fun u t H1 locs1 ht hvm hw hB hz1 hk1 hS1 => by
    obtain ⟨hP1, hD1⟩ := x_join hcut hP hD hS hA ht hB hk1
    exact kk u H1 locs1 hw hP1 hD1 hS1)
/-- a virtual call whose receiver isn't in the world (a text) -/
theorem x_callOi {post : Int32 → S → Prop} (S0 : xFix p s m c args cc nL own ls) (kx : xV own C index y bytes maxL ret n)
    (hM : XMi l D tys E y bytes maxL ret rm (.ref b :: av) [] post w1) (hbl : xBlind E)
    (hK : va_K D vwCl tys s) (hP : va_P D vwCl ws H) (hD : va_D A ws) (hS : va_S A H0 H locs) (hA : ∀ q, H0.size ≤ q → A q) (isR : List Nat) (hcut : xCut ws [] wr [] isR) (hrc : ∃ cell : Cell, H[b]? = some cell ∧ cell.vm.isStatics = false ∧ s.vm.findClass C = some cell.cls)
    (hE : ∀ U : State, U.heap = H → s.WarmedH U.vm → E (va_A [] H.size) U) (hdg : decode cc pc = .ok (.invokevirtual index, 3)) (hst : st = av.reverse ++ .ref b :: rest) (hn : av.length = n) (hroom : (rest.map fun v => v.category).sum ≤ 8)
    (hR : rm.frames + 1 ≤ R.frames ∧ 8 + (maxL + 11) + rm.locals ≤ R.locals) (hf : cells + rm.cells ≤ R.cells ∧ slots + rm.slots ≤ R.slots)
    (kk : ∀ (r : Int32) (u : S) (H1 : Heap) (locs1 : List Loc), post r u → va_P D vwCl (wr ++ w1 u) H1 → va_D A (wr ++ w1 u) → va_S A H0 H1 locs1 → W p l e R s m args below meth c H1 locs1 (cells + rm.cells) (slots + rm.slots) Q (F0 m (pc + 3) ls (.int r :: rest))) :
    W p l e R s m args below meth c H locs cells slots Q (F0 m pc ls st) := by
  obtain ⟨hx, hb, hml, hown, hg, hls⟩ := S0
  obtain ⟨⟨m1, m2, m3, m4, m5⟩, hd⟩ := kx
  have hF := va_free (wc := []) hD hS hA [] hcut.1
  have hPc := xCut_P hcut hP
  have hDc := hD.sub [] hcut.2.2.1 hcut.1
  exact va_calli (va_runV (As := av) (rest := rest) (Ts := gT) ⟨hx, hb, hml, hown, hg⟩ (hM H.size) (cwV n hg (gGood2 m5 (all4 m1 m2 m3 m4)) rfl rfl rfl hd hR) ⟨xPre_blind hbl, hrc, fun U hU hW => ⟨rfl, by rw [hU], by rw [hU]; exact hPc, va_K.moved hW.alike hK, hDc.weaken (fun _ _ _ _ => trivial), hE U hU hW⟩⟩ rfl hn hls hst (lv_room hroom) hdg hf) hS (fun q _ h => hF q h) hF (fun r u t H1 locs1 ht hvm hw hB hz1 hk1 hS1 => by
    obtain ⟨hP1, hD1⟩ := x_join hcut hP hD hS hA ht hB hk1
    exact kk r u H1 locs1 hw hP1 hD1 hS1)
theorem x_callSi {post : Int32 → S → Prop} (S0 : xFix p s m c args cc nL own ls) (kx : xS own index y bytes maxL ret n)
    (hM : XMi l D tys E y bytes maxL ret rm av wc post w1) (hbl : xBlind E)
    (hK : va_K D vwCl tys s) (hP : va_P D vwCl ws H) (hD : va_D A ws) (hS : va_S A H0 H locs) (hA : ∀ q, H0.size ≤ q → A q) (isC isR : List Nat) (hcut : xCut ws wc wr isC isR)
    (hE : ∀ U : State, U.heap = H → s.WarmedH U.vm → E (va_A wc H.size) U) (hdg : decode cc pc = .ok (.invokestatic index, 3)) (hst : st = av.reverse ++ rest) (hn : av.length = n) (hroom : (rest.map fun v => v.category).sum ≤ 8)
    (hR : rm.frames + 1 ≤ R.frames ∧ 8 + (maxL + 11) + rm.locals ≤ R.locals) (hf : cells + rm.cells ≤ R.cells ∧ slots + rm.slots ≤ R.slots)
    (kk : ∀ (r : Int32) (u : S) (H1 : Heap) (locs1 : List Loc), post r u → va_P D vwCl (wr ++ w1 u) H1 → va_D A (wr ++ w1 u) → va_S A H0 H1 locs1 → W p l e R s m args below meth c H1 locs1 (cells + rm.cells) (slots + rm.slots) Q (F0 m (pc + 3) ls (.int r :: rest))) :
    W p l e R s m args below meth c H locs cells slots Q (F0 m pc ls st) := by
  obtain ⟨hx, hb, hml, hown, hg, hls⟩ := S0
  obtain ⟨⟨m1, m2, m3, m5⟩, hd⟩ := kx
  have hF := va_free (wc := wc) hD hS hA isC hcut.1
  have hPc := xCut_P hcut hP
  have hDc := hD.sub isC hcut.2.2.1 hcut.1
  exact va_calli (va_runS (As := av) (rest := rest) (Ts := gT) ⟨hx, hb, hml, hown, hg⟩ (hM H.size) (va_cwS n hg (gGood2 m5 (all3 m1 m2 m3)) rfl rfl rfl hd hR) ⟨xPre_blind hbl, fun U hU hW => ⟨rfl, by rw [hU], by rw [hU]; exact hPc, va_K.moved hW.alike hK, hDc.weaken (fun _ _ _ _ => trivial), hE U hU hW⟩⟩ rfl hn hls hst (lv_room hroom) hdg hf) hS (fun q _ h => hF q h) hF (fun r u t H1 locs1 ht hvm hw hB hz1 hk1 hS1 => by
    obtain ⟨hP1, hD1⟩ := x_join hcut hP hD hS hA ht hB hk1
    exact kk r u H1 locs1 hw hP1 hD1 hS1)
theorem x_callSv {post : S → Prop} (S0 : xFix p s m c args cc nL own ls) (kx : xS own index y bytes maxL ret n)
    (hM : XMv l D tys E y bytes maxL ret rm av wc post w1) (hbl : xBlind E)
    (hK : va_K D vwCl tys s) (hP : va_P D vwCl ws H) (hD : va_D A ws) (hS : va_S A H0 H locs) (hA : ∀ q, H0.size ≤ q → A q) (isC isR : List Nat) (hcut : xCut ws wc wr isC isR)
    (hE : ∀ U : State, U.heap = H → s.WarmedH U.vm → E (va_A wc H.size) U) (hdg : decode cc pc = .ok (.invokestatic index, 3)) (hst : st = av.reverse ++ rest) (hn : av.length = n) (hroom : (rest.map fun v => v.category).sum ≤ 8)
    (hR : rm.frames + 1 ≤ R.frames ∧ 8 + (maxL + 11) + rm.locals ≤ R.locals) (hf : cells + rm.cells ≤ R.cells ∧ slots + rm.slots ≤ R.slots)
    (kk : ∀ (u : S) (H1 : Heap) (locs1 : List Loc), post u → va_P D vwCl (wr ++ w1 u) H1 → va_D A (wr ++ w1 u) → va_S A H0 H1 locs1 → W p l e R s m args below meth c H1 locs1 (cells + rm.cells) (slots + rm.slots) Q (F0 m (pc + 3) ls rest)) :
    W p l e R s m args below meth c H locs cells slots Q (F0 m pc ls st) := by
  obtain ⟨hx, hb, hml, hown, hg, hls⟩ := S0
  obtain ⟨⟨m1, m2, m3, m5⟩, hd⟩ := kx
  have hF := va_free (wc := wc) hD hS hA isC hcut.1
  have hPc := xCut_P hcut hP
  have hDc := hD.sub isC hcut.2.2.1 hcut.1
  exact va_callv (va_runS (As := av) (rest := rest) (Ts := gT) ⟨hx, hb, hml, hown, hg⟩ (hM H.size) (va_cwS n hg (gGood2 m5 (all3 m1 m2 m3)) rfl rfl rfl hd hR) ⟨xPre_blind hbl, fun U hU hW => ⟨rfl, by rw [hU], by rw [hU]; exact hPc, va_K.moved hW.alike hK, hDc.weaken (fun _ _ _ _ => trivial), hE U hU hW⟩⟩ rfl hn hls hst (lv_room hroom) hdg hf) hS (fun q _ h => hF q h) hF (fun u t H1 locs1 ht hvm hw hB hz1 hk1 hS1 => by
    obtain ⟨hP1, hD1⟩ := x_join hcut hP hD hS hA ht hB hk1
    exact kk u H1 locs1 hw hP1 hD1 hS1)
theorem x_callI {post : S → Prop} (S0 : xFix p s m c args cc nL own ls) (kx : xI own index y bytes maxL n)
    (hM : XMv l D tys E y bytes maxL none rm (.ref b :: av) wc post w1) (hbl : xBlind E)
    (hK : va_K D vwCl tys s) (hP : va_P D vwCl ws H) (hD : va_D A ws) (hS : va_S A H0 H locs) (hA : ∀ q, H0.size ≤ q → A q) (isC isR : List Nat) (hcut : xCut ws wc wr isC isR)
    (hE : ∀ U : State, U.heap = H → s.WarmedH U.vm → E (va_A wc H.size) U) (hdg : decode cc pc = .ok (.invokespecial index, 3)) (hst : st = av.reverse ++ .ref b :: rest) (hn : av.length = n) (hroom : (rest.map fun v => v.category).sum ≤ 8)
    (hR : rm.frames + 1 ≤ R.frames ∧ 8 + (maxL + 11) + rm.locals ≤ R.locals) (hf : cells + rm.cells ≤ R.cells ∧ slots + rm.slots ≤ R.slots)
    (kk : ∀ (u : S) (H1 : Heap) (locs1 : List Loc), post u → va_P D vwCl (wr ++ w1 u) H1 → va_D A (wr ++ w1 u) → va_S A H0 H1 locs1 → W p l e R s m args below meth c H1 locs1 (cells + rm.cells) (slots + rm.slots) Q (F0 m (pc + 3) ls rest)) :
    W p l e R s m args below meth c H locs cells slots Q (F0 m pc ls st) := by
  obtain ⟨hx, hb, hml, hown, hg, hls⟩ := S0
  obtain ⟨⟨m1, m2, m3, m5⟩, hnm, hd⟩ := kx
  have hF := va_free (wc := wc) hD hS hA isC hcut.1
  have hPc := xCut_P hcut hP
  have hDc := hD.sub isC hcut.2.2.1 hcut.1
  exact va_callv (va_runI (As := av) (rest := rest) (Ts := gT) ⟨hx, hb, hml, hown, hg⟩ (hM H.size) (cwI n hg (gGood2 (ws := []) m5 (fun _ h => by cases h)) rfl rfl rfl (hg _ m3) (hg _ m1) (hg _ m2) hnm hd hR) ⟨xPre_blind hbl, fun U hU hW => ⟨rfl, by rw [hU], by rw [hU]; exact hPc, va_K.moved hW.alike hK, hDc.weaken (fun _ _ _ _ => trivial), hE U hU hW⟩⟩ rfl hn hls hst (lv_room hroom) hdg hf) hS (fun q _ h => hF q h) hF (fun u t H1 locs1 ht hvm hw hB hz1 hk1 hS1 => by
    obtain ⟨hP1, hD1⟩ := x_join hcut hP hD hS hA ht hB hk1
    exact kk u H1 locs1 hw hP1 hD1 hS1)
theorem x_callN {host : String} {post : S → Prop} (S0 : xFix p s m c args cc nL own ls) (hnw : va_Nw (.methodLinkNest own index y host) s) (kx : xN y bytes maxL n)
    (hM : XMv l D tys E y bytes maxL none rm (.ref b :: av) wc post w1) (hbl : xBlind E)
    (hK : va_K D vwCl tys s) (hP : va_P D vwCl ws H) (hD : va_D A ws) (hS : va_S A H0 H locs) (hA : ∀ q, H0.size ≤ q → A q) (isC isR : List Nat) (hcut : xCut ws wc wr isC isR)
    (hE : ∀ U : State, U.heap = H → s.WarmedH U.vm → E (va_A wc H.size) U) (hdg : decode cc pc = .ok (.invokespecial index, 3)) (hst : st = av.reverse ++ .ref b :: rest) (hn : av.length = n) (hroom : (rest.map fun v => v.category).sum ≤ 8)
    (hR : rm.frames + 1 ≤ R.frames ∧ 8 + (maxL + 11) + rm.locals ≤ R.locals) (hf : cells + rm.cells ≤ R.cells ∧ slots + rm.slots ≤ R.slots)
    (kk : ∀ (u : S) (H1 : Heap) (locs1 : List Loc), post u → va_P D vwCl (wr ++ w1 u) H1 → va_D A (wr ++ w1 u) → va_S A H0 H1 locs1 → W p l e R s m args below meth c H1 locs1 (cells + rm.cells) (slots + rm.slots) Q (F0 m (pc + 3) ls rest)) :
    W p l e R s m args below meth c H locs cells slots Q (F0 m pc ls st) := by
  obtain ⟨hx, hb, hml, hown, hg, hls⟩ := S0
  obtain ⟨⟨m2, m3, m5⟩, hnm, hd⟩ := kx
  have hF := va_free (wc := wc) hD hS hA isC hcut.1
  have hPc := xCut_P hcut hP
  have hDc := hD.sub isC hcut.2.2.1 hcut.1
  exact va_callv (va_runIN (As := av) (rest := rest) (Ts := gT) ⟨hx, hb, hml, hown, hg⟩ (hM H.size) ⟨va_cnB n hg (gGood2 (ws := []) m5 (fun _ h => by cases h)) rfl rfl rfl hnw (hg _ m3) hd hR, hnm, hg _ m2⟩ ⟨xPre_blind hbl, fun U hU hW => ⟨rfl, by rw [hU], by rw [hU]; exact hPc, va_K.moved hW.alike hK, hDc.weaken (fun _ _ _ _ => trivial), hE U hU hW⟩⟩ rfl hn hls hst (lv_room hroom) hdg hf) hS (fun q _ h => hF q h) hF (fun u t H1 locs1 ht hvm hw hB hz1 hk1 hS1 => by
    obtain ⟨hP1, hD1⟩ := x_join hcut hP hD hS hA ht hB hk1
    exact kk u H1 locs1 hw hP1 hD1 hS1)
/-- a new array of a kind whose class is known -/
theorem x_newa {atype : ArrayType} {ty : FieldType} {cy : ClassId} (hx : p.tables.exec = Jvm.exec) (hb : c.code = cc) (harr : (Cond.arrayClass (newarray.typeOf atype)).before args s = true) (hty : newarray.typeOf atype = ty) (hK : va_K D vwCl tys s) (t0 : Nat) (ht : tys[t0]? = some (cy, ty)) (hone : ∀ a b : ClassId, va_RA s a ty → va_RA s b ty → a = b) (hP : va_P D vwCl ws H) (hD : va_D A ws) (hS : va_S A H0 H locs) (hA : ∀ q, H0.size ≤ q → A q)
    {k : Int32} {N' : Nat} {a0 : vp_A} (ha : ∀ cA : ClassId, vp_cell cA a0 = arrV cA N' (fun _ => defaultValue ty)) (hn : ¬ k < 0) (hN : k.toNatClampNeg = N') (hbytes : N' * componentBytes ty ≤ 536870912) (hcells : cells + 1 ≤ R.cells) (hslots : slots + N' ≤ R.slots) (hdg : decode cc pc = .ok (.newarray atype, 2))
    (kk : ∀ (q : Nat) (H1 : Heap), va_P D vwCl (ws ++ [(q, .inl (cy, a0))]) H1 → va_D A (ws ++ [(q, .inl (cy, a0))]) → va_S A H0 H1 locs →
      W p l e R s m args below meth c H1 locs (cells + 1) (slots + N') Q (F0 m (pc + 2) ls (.ref q :: rest))) : W p l e R s m args below meth c H locs cells slots Q (F0 m pc ls (.int k :: rest)) := by
  refine va_newa hx hb harr hty hK hP hD hS hA ha hn hN hbytes hcells hslots hdg (fun q cA H1 hK1 hP1 hD1 hS1 => ?_)
  have h1 := (hK.2 t0 _ ht).2
  have h2 := (hK1.2 tys.length (cA, ty) (by rw [List.getElem?_append_right (Nat.le_refl _), Nat.sub_self]; rfl)).2
  have e : cy = cA := hone cy cA h1 h2
  subst e
  exact kk q H1 hP1 hD1 hS1
end XC
theorem one_int {s : State} (a b : ClassId) (h1 : va_RA s a .int) (h2 : va_RA s b .int) : a = b := Option.some.inj ((va_nm_int h1).symm.trans (va_nm_int h2))
theorem one_long {s : State} (a b : ClassId) (h1 : va_RA s a .long) (h2 : va_RA s b .long) : a = b := Option.some.inj ((va_nm_long h1).symm.trans (va_nm_long h2))
theorem one_byte {s : State} (a b : ClassId) (h1 : va_RA s a .byte) (h2 : va_RA s b .byte) : a = b := Option.some.inj ((va_nm_byte h1).symm.trans (va_nm_byte h2))
theorem one_bool {s : State} (a b : ClassId) (h1 : va_RA s a .boolean) (h2 : va_RA s b .boolean) : a = b := Option.some.inj ((va_nm_boolean h1).symm.trans (va_nm_boolean h2))
/-- a loop's counter at its test -/
theorem lp_end {i N : Nat} {y : Int32} (hy : y = nI N) (hi : i ≤ N) (hN : N < 2 ^ 31) (h : y ≤ nI i) : i = N := by
  rw [hy] at h
  have := (nI_leI hN (Nat.lt_of_le_of_lt hi hN)).mp h
  omega
theorem lp_go {i N : Nat} {y : Int32} (hy : y = nI N) (hi : i ≤ N) (hN : N < 2 ^ 31) (h : ¬ y ≤ nI i) : i < N := by
  rcases Nat.lt_or_ge i N with q | q
  · exact q
  · exact absurd (by rw [hy]; exact nI_le q (Nat.lt_of_le_of_lt hi hN)) h
theorem lp_inc (i : Nat) : nI i + Int32.ofInt 1 = nI (i + 1) := nI_1 i
abbrev rmk (d c s : Nat) : Room := { frames := d, cells := c, slots := s, locals := 60 * d }
/-- the array classes: bytes, ints, longs, truth values -/
abbrev tyL (cy : Nat → ClassId) : List (ClassId × FieldType) := [(cy 0, .byte), (cy 1, .int), (cy 2, .long), (cy 3, .boolean)]
theorem fa_lt (a b : Int32) : a < b ↔ a.toInt < b.toInt := Int32.lt_iff_toInt_lt
theorem fa_le (a b : Int32) : a ≤ b ↔ a.toInt ≤ b.toInt := Int32.le_iff_toInt_le
theorem fa_eq (a b : Int32) : a = b ↔ a.toInt = b.toInt := ⟨fun h => by rw [h], fun h => Int32.toInt_inj.mp h⟩
end
section
theorem nlt_le {a b : Int32} (h : ¬ a < b) : b ≤ a := by
  rw [fa_le]
  rw [fa_lt] at h
  omega
theorem nle_lt {a b : Int32} (h : ¬ a ≤ b) : b < a := by
  rw [fa_lt]
  rw [fa_le] at h
  omega
theorem cry_in {r cry : Int32} (h : r = 0 ∨ cry = 0 ∨ cry = 1) (hr : ¬ r = 0) : vp_in (cry * 11) 41 := by
  rcases h with h | h | h
  · exact absurd h hr
  · subst h; unfold vp_in; decide
  · subst h; unfold vp_in; decide
theorem dX4_has_0 : decode cX4_has 0 = .ok (.iload_n 2, 1) := by decide +kernel
theorem dX4_has_1 : decode cX4_has 1 = .ok (.ifCond .lt 17, 3) := by decide +kernel
theorem dX4_has_18 : decode cX4_has 18 = .ok (.iconst 0, 1) := by decide +kernel
theorem dX4_has_19 : decode cX4_has 19 = .ok (.ireturn, 1) := by decide +kernel
theorem dX4_has_4 : decode cX4_has 4 = .ok (.iload_n 2, 1) := by decide +kernel
theorem dX4_has_5 : decode cX4_has 5 = .ok (.aload_n 0, 1) := by decide +kernel
theorem dX4_has_6 : decode cX4_has 6 = .ok (.getfield 9, 3) := by decide +kernel
set_option maxRecDepth 20000 in
theorem i_X4 : ∀ w ∈ u_ws RX4 TX4 16, w ∈ gT := gin [384, 386, 388, 390, 392, 394, 396, 398, 400, 402, 404, 406, 408, 410, 412, 414] (by decide +kernel) (by decide +kernel)
theorem m_329 : (Cond.fieldLink RX4 9 "CliffJudges$Hills" "counts" "[I") ∈ gT := gm 329 (by decide +kernel) (by decide +kernel)
theorem dX4_has_9 : decode cX4_has 9 = .ok (.iload_n 1, 1) := by decide +kernel
theorem dX4_has_10 : decode cX4_has 10 = .ok (.iaload, 1) := by decide +kernel
theorem dX4_has_11 : decode cX4_has 11 = .ok (.if_icmp .ge 7, 3) := by decide +kernel
set_option maxHeartbeats 400000 in
set_option maxRecDepth 100000 in
theorem c_has (l : Launch) (D : va_G) (cy : Nat → ClassId) (h0 : Nat) (h1 : Nat) (v1 : Value) (v2 : Value) (v3 : Value) (v4 : Value) (v5 : Value) (v6 : Value) (v7 : Value) (v8 : Value) (v9 : Value) (v10 : Value) (v11 : Value) (v12 : Value) (v13 : Value) (v14 : Value) (v15 : Value) (so : Int32) (ix : Int32) (hso : vp_in so 4) : XMi l D (tyL cy) E0 yX4_has cX4_has 3 (some .boolean) (rmk 0 0 0) [.ref h0, .int so, .int ix] [(h0, .inr (4, [.ref h1, v1, v2, v3, v4, v5, v6, v7, v8, v9, v10, v11, v12, v13, v14, v15])), (h1, .inl (cy 1, 4, .inl (fun _ => 0)))] (fun (r : Int32) (_ : Unit) => r = 0) (fun (_ : Unit) => [(h0, .inr (4, [.ref h1, v1, v2, v3, v4, v5, v6, v7, v8, v9, v10, v11, v12, v13, v14, v15])), (h1, .inl (cy 1, 4, .inl (fun _ => 0)))]) := by
  refine XMi.start (by decide) (Nat.le_of_ble_eq_true rfl) ?_
  intro p e s m below meth c args A ls Q hat hQ
  obtain ⟨hx, hb, hr, hml, hown, hg, hlocks, hin, hK, hA, hP, hD, hS, hE, hl⟩ := hat
  have hown : s.vm.findClass RX4 = some m.cls := hown
  have hl : lv_has ls 3 [(0, .ref h0), (1, .int so), (2, .int ix)] := hl
  refine lv_iload_n hx hb dX4_has_0 rfl (lv_at hl 2 rfl) ?_
  refine lv_if_lt (tgt := 18) hx hb dX4_has_1 (by decide) (fun c_1 => ?_) (fun c_1 => ?_)
  · refine lv_iconst (v := 0) hx hb dX4_has_18 (by decide) ?_
    exact x_zret hQ hx hb hr hlocks hK hP hD hS rfl dX4_has_19 () (rfl) [0, 1] (by decide) rfl (Nat.le_of_ble_eq_true rfl) (Nat.le_of_ble_eq_true rfl)
  · refine lv_iload_n hx hb dX4_has_4 rfl (lv_at hl 2 rfl) ?_
    refine lv_aload_n hx hb dX4_has_5 rfl (lv_at hl 0 rfl) ?_
    refine va_get (D := D) (ci := 4) (v := .ref h1) (C := RX4) (T := TX4) (N := 16) hx hb hg i_X4 hown hK hP 0 rfl rfl 0 (by decide) (hg _ m_329) (fun _ h9 => h9) rfl dX4_has_6 ?_
    refine lv_iload_n hx hb dX4_has_9 rfl (lv_at hl 1 rfl) ?_
    refine va_iald hx hb hK hP 1 1 rfl rfl hso dX4_has_10 ?_
    refine lv_topi (fun y_1 hy_1 => ?_)
    obtain rfl : y_1 = 0 := hy_1.trans rfl
    refine lv_icmp_ge (tgt := 18) hx hb dX4_has_11 (by decide) (fun _ => ?_) (fun h => absurd (nlt_le c_1) h)
    refine lv_iconst (v := 0) hx hb dX4_has_18 (by decide) ?_
    exact x_zret hQ hx hb hr hlocks hK hP hD hS rfl dX4_has_19 () (rfl) [0, 1] (by decide) rfl (Nat.le_of_ble_eq_true rfl) (Nat.le_of_ble_eq_true rfl)
theorem dX11_isCry_0 : decode cX11_isCry 0 = .ok (.iload_n 0, 1) := by decide +kernel
theorem dX11_isCry_1 : decode cX11_isCry 1 = .ok (.ifCond .eq 8, 3) := by decide +kernel
theorem dX11_isCry_9 : decode cX11_isCry 9 = .ok (.iconst 1, 1) := by decide +kernel
theorem dX11_isCry_10 : decode cX11_isCry 10 = .ok (.goto 4, 3) := by decide +kernel
theorem dX11_isCry_14 : decode cX11_isCry 14 = .ok (.ireturn, 1) := by decide +kernel
theorem dX11_isCry_4 : decode cX11_isCry 4 = .ok (.iload_n 0, 1) := by decide +kernel
theorem dX11_isCry_5 : decode cX11_isCry 5 = .ok (.iconst 1, 1) := by decide +kernel
theorem dX11_isCry_6 : decode cX11_isCry 6 = .ok (.if_icmp .ne 7, 3) := by decide +kernel
theorem dX11_isCry_13 : decode cX11_isCry 13 = .ok (.iconst 0, 1) := by decide +kernel
set_option maxHeartbeats 400000 in
set_option maxRecDepth 100000 in
theorem c_isCry (l : Launch) (D : va_G) (cy : Nat → ClassId) (cry : Int32)  : XMi l D (tyL cy) E0 yX11_isCry cX11_isCry 1 (some .boolean) (rmk 0 0 0) [.int cry] [] (fun (r : Int32) (_ : Unit) => r = 0 ∨ cry = 0 ∨ cry = 1) (fun (_ : Unit) => []) := by
  refine XMi.start (by decide) (Nat.le_of_ble_eq_true rfl) ?_
  intro p e s m below meth c args A ls Q hat hQ
  obtain ⟨hx, hb, hr, hml, hown, hg, hlocks, hin, hK, hA, hP, hD, hS, hE, hl⟩ := hat
  have hown : s.vm.findClass RX11 = some m.cls := hown
  have hl : lv_has ls 1 [(0, .int cry)] := hl
  refine lv_iload_n hx hb dX11_isCry_0 rfl (lv_at hl 0 rfl) ?_
  refine lv_if_eq (tgt := 9) hx hb dX11_isCry_1 (by decide) (fun c_1 => ?_) (fun c_1 => ?_)
  · refine lv_iconst (v := 1) hx hb dX11_isCry_9 (by decide) ?_
    refine lv_goto (tgt := 14) hx hb dX11_isCry_10 (by decide) ?_
    exact x_zret hQ hx hb hr hlocks hK hP hD hS rfl dX11_isCry_14 () ((by first | exact Or.inr (Or.inl c_1) | exact Or.inr (Or.inr c_6))) [] (by decide) rfl (Nat.le_of_ble_eq_true rfl) (Nat.le_of_ble_eq_true rfl)
  · refine lv_iload_n hx hb dX11_isCry_4 rfl (lv_at hl 0 rfl) ?_
    refine lv_iconst (v := 1) hx hb dX11_isCry_5 (by decide) ?_
    refine lv_icmp_ne (tgt := 13) hx hb dX11_isCry_6 (by decide) (fun c_6 => ?_) (fun c_6 => ?_)
    · refine lv_iconst (v := 0) hx hb dX11_isCry_13 (by decide) ?_
      exact x_zret hQ hx hb hr hlocks hK hP hD hS rfl dX11_isCry_14 () (Or.inl rfl) [] (by decide) rfl (Nat.le_of_ble_eq_true rfl) (Nat.le_of_ble_eq_true rfl)
    · refine lv_iconst (v := 1) hx hb dX11_isCry_9 (by decide) ?_
      refine lv_goto (tgt := 14) hx hb dX11_isCry_10 (by decide) ?_
      exact x_zret hQ hx hb hr hlocks hK hP hD hS rfl dX11_isCry_14 () ((by first | exact Or.inr (Or.inl c_1) | exact Or.inr (Or.inr c_6))) [] (by decide) rfl (Nat.le_of_ble_eq_true rfl) (Nat.le_of_ble_eq_true rfl)
theorem dX11_isSought_0 : decode cX11_isSought 0 = .ok (.iload_n 0, 1) := by decide +kernel
theorem dX11_isSought_1 : decode cX11_isSought 1 = .ok (.iconst 1, 1) := by decide +kernel
theorem dX11_isSought_2 : decode cX11_isSought 2 = .ok (.if_icmp .lt 12, 3) := by decide +kernel
theorem dX11_isSought_14 : decode cX11_isSought 14 = .ok (.iconst 0, 1) := by decide +kernel
theorem dX11_isSought_15 : decode cX11_isSought 15 = .ok (.ireturn, 1) := by decide +kernel
theorem dX11_isSought_5 : decode cX11_isSought 5 = .ok (.iload_n 0, 1) := by decide +kernel
theorem dX11_isSought_6 : decode cX11_isSought 6 = .ok (.iconst 5, 1) := by decide +kernel
theorem dX11_isSought_7 : decode cX11_isSought 7 = .ok (.if_icmp .gt 7, 3) := by decide +kernel
theorem dX11_isSought_10 : decode cX11_isSought 10 = .ok (.iconst 1, 1) := by decide +kernel
theorem dX11_isSought_11 : decode cX11_isSought 11 = .ok (.goto 4, 3) := by decide +kernel
set_option maxHeartbeats 400000 in
set_option maxRecDepth 100000 in
theorem c_isSought (l : Launch) (D : va_G) (cy : Nat → ClassId) (n : Int32)  : XMi l D (tyL cy) E0 yX11_isSought cX11_isSought 1 (some .boolean) (rmk 0 0 0) [.int n] [] (fun (r : Int32) (_ : Unit) => True) (fun (_ : Unit) => []) := by
  refine XMi.start (by decide) (Nat.le_of_ble_eq_true rfl) ?_
  intro p e s m below meth c args A ls Q hat hQ
  obtain ⟨hx, hb, hr, hml, hown, hg, hlocks, hin, hK, hA, hP, hD, hS, hE, hl⟩ := hat
  have hown : s.vm.findClass RX11 = some m.cls := hown
  have hl : lv_has ls 1 [(0, .int n)] := hl
  refine lv_iload_n hx hb dX11_isSought_0 rfl (lv_at hl 0 rfl) ?_
  refine lv_iconst (v := 1) hx hb dX11_isSought_1 (by decide) ?_
  refine lv_icmp_lt (tgt := 14) hx hb dX11_isSought_2 (by decide) (fun c_2 => ?_) (fun c_2 => ?_)
  · refine lv_iconst (v := 0) hx hb dX11_isSought_14 (by decide) ?_
    exact x_zret hQ hx hb hr hlocks hK hP hD hS rfl dX11_isSought_15 () (trivial) [] (by decide) rfl (Nat.le_of_ble_eq_true rfl) (Nat.le_of_ble_eq_true rfl)
  · refine lv_iload_n hx hb dX11_isSought_5 rfl (lv_at hl 0 rfl) ?_
    refine lv_iconst (v := 5) hx hb dX11_isSought_6 (by decide) ?_
    refine lv_icmp_gt (tgt := 14) hx hb dX11_isSought_7 (by decide) (fun c_7 => ?_) (fun c_7 => ?_)
    · refine lv_iconst (v := 0) hx hb dX11_isSought_14 (by decide) ?_
      exact x_zret hQ hx hb hr hlocks hK hP hD hS rfl dX11_isSought_15 () (trivial) [] (by decide) rfl (Nat.le_of_ble_eq_true rfl) (Nat.le_of_ble_eq_true rfl)
    · refine lv_iconst (v := 1) hx hb dX11_isSought_10 (by decide) ?_
      refine lv_goto (tgt := 15) hx hb dX11_isSought_11 (by decide) ?_
      exact x_zret hQ hx hb hr hlocks hK hP hD hS rfl dX11_isSought_15 () (trivial) [] (by decide) rfl (Nat.le_of_ble_eq_true rfl) (Nat.le_of_ble_eq_true rfl)
theorem dX5_cryLength_0 : decode cX5_cryLength 0 = .ok (.aload_n 0, 1) := by decide +kernel
theorem dX5_cryLength_1 : decode cX5_cryLength 1 = .ok (.getfield 11, 3) := by decide +kernel
set_option maxRecDepth 20000 in
theorem i_X5 : ∀ w ∈ u_ws RX5 TX5 7, w ∈ gT := gin [433, 435, 437, 439, 441, 443, 445] (by decide +kernel) (by decide +kernel)
theorem m_423 : (Cond.fieldLink RX5 11 "CliffJudges$Moments" "now" "[I") ∈ gT := gm 423 (by decide +kernel) (by decide +kernel)
theorem dX5_cryLength_4 : decode cX5_cryLength 4 = .ok (.iload_n 1, 1) := by decide +kernel
theorem dX5_cryLength_5 : decode cX5_cryLength 5 = .ok (.bipush 11, 2) := by decide +kernel
theorem dX5_cryLength_7 : decode cX5_cryLength 7 = .ok (.imul, 1) := by decide +kernel
theorem dX5_cryLength_8 : decode cX5_cryLength 8 = .ok (.iaload, 1) := by decide +kernel
theorem dX5_cryLength_9 : decode cX5_cryLength 9 = .ok (.ireturn, 1) := by decide +kernel
set_option maxHeartbeats 400000 in
set_option maxRecDepth 100000 in
theorem c_cryLength (l : Launch) (D : va_G) (cy : Nat → ClassId) (n0 : Nat) (n1 : Nat) (n2 : Nat) (n3 : Nat) (z3 : Value) (z4 : Value) (z5 : Value) (z6 : Value) (cry : Int32) (hc : vp_in (cry * 11) 41) : XMi l D (tyL cy) E0 yX5_cryLength cX5_cryLength 2 (some .int) (rmk 0 0 0) [.ref n0, .int cry] [(n0, .inr (5, [.ref n1, .ref n2, .ref n3, z3, z4, z5, z6])), (n1, .inl (cy 1, 41, .inl (fun _ => 0)))] (fun (r : Int32) (_ : Unit) => r = 0) (fun (_ : Unit) => [(n0, .inr (5, [.ref n1, .ref n2, .ref n3, z3, z4, z5, z6])), (n1, .inl (cy 1, 41, .inl (fun _ => 0)))]) := by
  refine XMi.start (by decide) (Nat.le_of_ble_eq_true rfl) ?_
  intro p e s m below meth c args A ls Q hat hQ
  obtain ⟨hx, hb, hr, hml, hown, hg, hlocks, hin, hK, hA, hP, hD, hS, hE, hl⟩ := hat
  have hown : s.vm.findClass RX5 = some m.cls := hown
  have hl : lv_has ls 2 [(0, .ref n0), (1, .int cry)] := hl
  refine lv_aload_n hx hb dX5_cryLength_0 rfl (lv_at hl 0 rfl) ?_
  refine va_get (D := D) (ci := 5) (v := .ref n1) (C := RX5) (T := TX5) (N := 7) hx hb hg i_X5 hown hK hP 0 rfl rfl 0 (by decide) (hg _ m_423) (fun _ h9 => h9) rfl dX5_cryLength_1 ?_
  refine lv_iload_n hx hb dX5_cryLength_4 rfl (lv_at hl 1 rfl) ?_
  refine lv_bipush (v := 11) hx hb dX5_cryLength_5 (by decide) ?_
  refine lv_imul hx hb dX5_cryLength_7 ?_
  refine lv_topi (fun x_1 ex_1 => ?_)
  refine va_iald hx hb hK hP 1 1 rfl rfl (by rw [ex_1]; exact hc) dX5_cryLength_8 ?_
  refine lv_topi (fun y_2 hy_2 => ?_)
  obtain rfl : y_2 = 0 := hy_2.trans rfl
  exact x_iret hQ hx hb hr hlocks hK hP hD hS dX5_cryLength_9 () (rfl) [0, 1] (by decide) rfl (Nat.le_of_ble_eq_true rfl) (Nat.le_of_ble_eq_true rfl)
theorem dX11_cliff_0 : decode cX11_cliff 0 = .ok (.aload_n 0, 1) := by decide +kernel
theorem dX11_cliff_1 : decode cX11_cliff 1 = .ok (.getfield 28, 3) := by decide +kernel
set_option maxRecDepth 20000 in
theorem i_X11 : ∀ w ∈ u_ws RX11 TX11 14, w ∈ gT := gin [672, 674, 676, 678, 680, 682, 684, 686, 688, 690, 692, 694, 696, 698] (by decide +kernel) (by decide +kernel)
theorem m_660 : (Cond.fieldLink RX11 28 "CliffJudges" "told" "LCliffJudges$Hills;") ∈ gT := gm 660 (by decide +kernel) (by decide +kernel)
theorem dX11_cliff_4 : decode cX11_cliff 4 = .ok (.iconst 1, 1) := by decide +kernel
theorem dX11_cliff_5 : decode cX11_cliff 5 = .ok (.iload_n 1, 1) := by decide +kernel
theorem dX11_cliff_6 : decode cX11_cliff 6 = .ok (.invokevirtual 120, 3) := by decide +kernel
theorem m_949 : (Cond.methodLink RX11 120 yX4_has) ∈ gT := gm 949 (by decide +kernel) (by decide +kernel)
theorem m_950 : (Cond.instanceMethod yX4_has) ∈ gT := gm 950 (by decide +kernel) (by decide +kernel)
theorem m_951 : (Cond.selects RX4 yX4_has yX4_has) ∈ gT := gm 951 (by decide +kernel) (by decide +kernel)
theorem m_137 : (Cond.initialized RX4) ∈ gT := gm 137 (by decide +kernel) (by decide +kernel)
theorem m_952 : (Cond.code yX4_has cX4_has 3 (some .boolean)) ∈ gT := gm 952 (by decide +kernel) (by decide +kernel)
theorem k_X11_120 : xV RX11 RX4 120 yX4_has cX4_has 3 (some .boolean) 2 := ⟨⟨m_949, m_950, m_951, m_137, m_952⟩, rfl, by decide, by decide, by decide +kernel⟩
theorem dX11_cliff_9 : decode cX11_cliff 9 = .ok (.ifCond .ne 5, 3) := by decide +kernel
theorem dX11_cliff_12 : decode cX11_cliff 12 = .ok (.iconst (-1), 1) := by decide +kernel
theorem dX11_cliff_13 : decode cX11_cliff 13 = .ok (.ireturn, 1) := by decide +kernel
set_option maxHeartbeats 400000 in
set_option maxRecDepth 100000 in
theorem t_cliff (l : Launch) (D : va_G) (cy : Nat → ClassId) (a0 : Nat) (w0 : Value) (w1 : Value) (w3 : Value) (w4 : Value) (w5 : Value) (w6 : Value) (w7 : Value) (w8 : Value) (w9 : Value) (w10 : Value) (w11 : Value) (w12 : Value) (w13 : Value) (h0 : Nat) (h1 : Nat) (v1 : Value) (v2 : Value) (v3 : Value) (v4 : Value) (v5 : Value) (v6 : Value) (v7 : Value) (v8 : Value) (v9 : Value) (v10 : Value) (v11 : Value) (v12 : Value) (v13 : Value) (v14 : Value) (v15 : Value) (ka : Int32) (kb : Int32)  : XMi l D (tyL cy) E0 yX11_cliff cX11_cliff 3 (some .int) (rmk 2 0 0) [.ref a0, .int ka, .int kb] [(a0, .inr (11, [w0, w1, .ref h0, w3, w4, w5, w6, w7, w8, w9, w10, w11, w12, w13])), (h0, .inr (4, [.ref h1, v1, v2, v3, v4, v5, v6, v7, v8, v9, v10, v11, v12, v13, v14, v15])), (h1, .inl (cy 1, 4, .inl (fun _ => 0)))] (fun (r : Int32) (_ : Unit) => r = -1) (fun (_ : Unit) => []) := by
  refine XMi.start (by decide) (Nat.le_of_ble_eq_true rfl) ?_
  intro p e s m below meth c args A ls Q hat hQ
  obtain ⟨hx, hb, hr, hml, hown, hg, hlocks, hin, hK, hA, hP, hD, hS, hE, hl⟩ := hat
  have hown : s.vm.findClass RX11 = some m.cls := hown
  have hl : lv_has ls 3 [(0, .ref a0), (1, .int ka), (2, .int kb)] := hl
  refine lv_aload_n hx hb dX11_cliff_0 rfl (lv_at hl 0 rfl) ?_
  refine va_get (D := D) (ci := 11) (v := .ref h0) (C := RX11) (T := TX11) (N := 14) hx hb hg i_X11 hown hK hP 0 rfl rfl 2 (by decide) (hg _ m_660) (fun _ h9 => h9) rfl dX11_cliff_1 ?_
  refine lv_iconst (v := 1) hx hb dX11_cliff_4 (by decide) ?_
  refine lv_iload_n hx hb dX11_cliff_5 rfl (lv_at hl 1 rfl) ?_
  refine x_callVi (q := (RX4, TX4, 16)) (ci := 4) (q0 := 0) (wr := [(a0, .inr (11, [w0, w1, .ref h0, w3, w4, w5, w6, w7, w8, w9, w10, w11, w12, w13]))]) (rest := []) ⟨hx, hb, hml, hown, hg, hl.1⟩ k_X11_120 (c_has l D cy h0 h1 v1 v2 v3 v4 v5 v6 v7 v8 v9 v10 v11 v12 v13 v14 v15 1 ka (by unfold vp_in; decide)) E0_blind hK hP hD hS hA [1, 2] [0] ⟨rfl, rfl, by decide, by decide, by decide⟩ rfl rfl (fun _ _ _ => trivial) dX11_cliff_6 rfl rfl (Nat.le_of_ble_eq_true rfl) ⟨Nat.le_of_ble_eq_true rfl, Nat.le_of_ble_eq_true rfl⟩ ⟨Nat.le_of_ble_eq_true rfl, Nat.le_of_ble_eq_true rfl⟩ (fun r1 u1 H locs hw1 hP hD hS => ?_)
  have hP : va_P D vwCl [(a0, .inr (11, [w0, w1, .ref h0, w3, w4, w5, w6, w7, w8, w9, w10, w11, w12, w13])), (h0, .inr (4, [.ref h1, v1, v2, v3, v4, v5, v6, v7, v8, v9, v10, v11, v12, v13, v14, v15])), (h1, .inl (cy 1, 4, .inl (fun _ => 0)))] H := hP
  have hD : va_D A [(a0, .inr (11, [w0, w1, .ref h0, w3, w4, w5, w6, w7, w8, w9, w10, w11, w12, w13])), (h0, .inr (4, [.ref h1, v1, v2, v3, v4, v5, v6, v7, v8, v9, v10, v11, v12, v13, v14, v15])), (h1, .inl (cy 1, 4, .inl (fun _ => 0)))] := hD
  refine W.widen (k := 0) (n := 0) (Nat.le_of_ble_eq_true rfl) (Nat.le_of_ble_eq_true rfl) ?_
  have hw1 : r1 = 0 := hw1
  subst hw1
  refine lv_if_ne (tgt := 14) hx hb dX11_cliff_9 (by decide) (fun h => absurd (by decide) h) (fun _ => ?_)
  refine lv_iconst (v := -1) hx hb dX11_cliff_12 (by decide) ?_
  exact x_iret hQ hx hb hr hlocks hK hP hD hS dX11_cliff_13 () (rfl) [] (by decide) rfl (Nat.le_of_ble_eq_true rfl) (Nat.le_of_ble_eq_true rfl)
theorem dX11_man_0 : decode cX11_man 0 = .ok (.aload_n 0, 1) := by decide +kernel
theorem dX11_man_1 : decode cX11_man 1 = .ok (.getfield 28, 3) := by decide +kernel
theorem dX11_man_4 : decode cX11_man 4 = .ok (.iconst 2, 1) := by decide +kernel
theorem dX11_man_5 : decode cX11_man 5 = .ok (.iload_n 1, 1) := by decide +kernel
theorem dX11_man_6 : decode cX11_man 6 = .ok (.invokevirtual 120, 3) := by decide +kernel
theorem dX11_man_9 : decode cX11_man 9 = .ok (.ifCond .ne 5, 3) := by decide +kernel
theorem dX11_man_12 : decode cX11_man 12 = .ok (.iconst (-1), 1) := by decide +kernel
theorem dX11_man_13 : decode cX11_man 13 = .ok (.ireturn, 1) := by decide +kernel
set_option maxHeartbeats 400000 in
set_option maxRecDepth 100000 in
theorem t_man (l : Launch) (D : va_G) (cy : Nat → ClassId) (a0 : Nat) (w0 : Value) (w1 : Value) (w3 : Value) (w4 : Value) (w5 : Value) (w6 : Value) (w7 : Value) (w8 : Value) (w9 : Value) (w10 : Value) (w11 : Value) (w12 : Value) (w13 : Value) (h0 : Nat) (h1 : Nat) (v1 : Value) (v2 : Value) (v3 : Value) (v4 : Value) (v5 : Value) (v6 : Value) (v7 : Value) (v8 : Value) (v9 : Value) (v10 : Value) (v11 : Value) (v12 : Value) (v13 : Value) (v14 : Value) (v15 : Value) (ka : Int32) (kb : Int32)  : XMi l D (tyL cy) E0 yX11_man cX11_man 3 (some .int) (rmk 2 0 0) [.ref a0, .int ka, .int kb] [(a0, .inr (11, [w0, w1, .ref h0, w3, w4, w5, w6, w7, w8, w9, w10, w11, w12, w13])), (h0, .inr (4, [.ref h1, v1, v2, v3, v4, v5, v6, v7, v8, v9, v10, v11, v12, v13, v14, v15])), (h1, .inl (cy 1, 4, .inl (fun _ => 0)))] (fun (r : Int32) (_ : Unit) => r = -1) (fun (_ : Unit) => []) := by
  refine XMi.start (by decide) (Nat.le_of_ble_eq_true rfl) ?_
  intro p e s m below meth c args A ls Q hat hQ
  obtain ⟨hx, hb, hr, hml, hown, hg, hlocks, hin, hK, hA, hP, hD, hS, hE, hl⟩ := hat
  have hown : s.vm.findClass RX11 = some m.cls := hown
  have hl : lv_has ls 3 [(0, .ref a0), (1, .int ka), (2, .int kb)] := hl
  refine lv_aload_n hx hb dX11_man_0 rfl (lv_at hl 0 rfl) ?_
  refine va_get (D := D) (ci := 11) (v := .ref h0) (C := RX11) (T := TX11) (N := 14) hx hb hg i_X11 hown hK hP 0 rfl rfl 2 (by decide) (hg _ m_660) (fun _ h9 => h9) rfl dX11_man_1 ?_
  refine lv_iconst (v := 2) hx hb dX11_man_4 (by decide) ?_
  refine lv_iload_n hx hb dX11_man_5 rfl (lv_at hl 1 rfl) ?_
  refine x_callVi (q := (RX4, TX4, 16)) (ci := 4) (q0 := 0) (wr := [(a0, .inr (11, [w0, w1, .ref h0, w3, w4, w5, w6, w7, w8, w9, w10, w11, w12, w13]))]) (rest := []) ⟨hx, hb, hml, hown, hg, hl.1⟩ k_X11_120 (c_has l D cy h0 h1 v1 v2 v3 v4 v5 v6 v7 v8 v9 v10 v11 v12 v13 v14 v15 2 ka (by unfold vp_in; decide)) E0_blind hK hP hD hS hA [1, 2] [0] ⟨rfl, rfl, by decide, by decide, by decide⟩ rfl rfl (fun _ _ _ => trivial) dX11_man_6 rfl rfl (Nat.le_of_ble_eq_true rfl) ⟨Nat.le_of_ble_eq_true rfl, Nat.le_of_ble_eq_true rfl⟩ ⟨Nat.le_of_ble_eq_true rfl, Nat.le_of_ble_eq_true rfl⟩ (fun r1 u1 H locs hw1 hP hD hS => ?_)
  have hP : va_P D vwCl [(a0, .inr (11, [w0, w1, .ref h0, w3, w4, w5, w6, w7, w8, w9, w10, w11, w12, w13])), (h0, .inr (4, [.ref h1, v1, v2, v3, v4, v5, v6, v7, v8, v9, v10, v11, v12, v13, v14, v15])), (h1, .inl (cy 1, 4, .inl (fun _ => 0)))] H := hP
  have hD : va_D A [(a0, .inr (11, [w0, w1, .ref h0, w3, w4, w5, w6, w7, w8, w9, w10, w11, w12, w13])), (h0, .inr (4, [.ref h1, v1, v2, v3, v4, v5, v6, v7, v8, v9, v10, v11, v12, v13, v14, v15])), (h1, .inl (cy 1, 4, .inl (fun _ => 0)))] := hD
  refine W.widen (k := 0) (n := 0) (Nat.le_of_ble_eq_true rfl) (Nat.le_of_ble_eq_true rfl) ?_
  have hw1 : r1 = 0 := hw1
  subst hw1
  refine lv_if_ne (tgt := 14) hx hb dX11_man_9 (by decide) (fun h => absurd (by decide) h) (fun _ => ?_)
  refine lv_iconst (v := -1) hx hb dX11_man_12 (by decide) ?_
  exact x_iret hQ hx hb hr hlocks hK hP hD hS dX11_man_13 () (rfl) [] (by decide) rfl (Nat.le_of_ble_eq_true rfl) (Nat.le_of_ble_eq_true rfl)
theorem dX11_leads_0 : decode cX11_leads 0 = .ok (.aload_n 0, 1) := by decide +kernel
theorem dX11_leads_1 : decode cX11_leads 1 = .ok (.getfield 28, 3) := by decide +kernel
theorem dX11_leads_4 : decode cX11_leads 4 = .ok (.iconst 3, 1) := by decide +kernel
theorem dX11_leads_5 : decode cX11_leads 5 = .ok (.iload_n 1, 1) := by decide +kernel
theorem dX11_leads_6 : decode cX11_leads 6 = .ok (.invokevirtual 120, 3) := by decide +kernel
theorem dX11_leads_9 : decode cX11_leads 9 = .ok (.ifCond .eq 15, 3) := by decide +kernel
theorem dX11_leads_24 : decode cX11_leads 24 = .ok (.iconst (-1), 1) := by decide +kernel
theorem dX11_leads_25 : decode cX11_leads 25 = .ok (.ireturn, 1) := by decide +kernel
set_option maxHeartbeats 400000 in
set_option maxRecDepth 100000 in
theorem t_leads (l : Launch) (D : va_G) (cy : Nat → ClassId) (a0 : Nat) (w0 : Value) (w1 : Value) (w3 : Value) (w4 : Value) (w5 : Value) (w6 : Value) (w7 : Value) (w8 : Value) (w9 : Value) (w10 : Value) (w11 : Value) (w12 : Value) (w13 : Value) (h0 : Nat) (h1 : Nat) (v1 : Value) (v2 : Value) (v3 : Value) (v4 : Value) (v5 : Value) (v6 : Value) (v7 : Value) (v8 : Value) (v9 : Value) (v10 : Value) (v11 : Value) (v12 : Value) (v13 : Value) (v14 : Value) (v15 : Value) (ka : Int32) (kb : Int32)  : XMi l D (tyL cy) E0 yX11_leads cX11_leads 3 (some .int) (rmk 2 0 0) [.ref a0, .int ka, .int kb] [(a0, .inr (11, [w0, w1, .ref h0, w3, w4, w5, w6, w7, w8, w9, w10, w11, w12, w13])), (h0, .inr (4, [.ref h1, v1, v2, v3, v4, v5, v6, v7, v8, v9, v10, v11, v12, v13, v14, v15])), (h1, .inl (cy 1, 4, .inl (fun _ => 0)))] (fun (r : Int32) (_ : Unit) => r = -1) (fun (_ : Unit) => []) := by
  refine XMi.start (by decide) (Nat.le_of_ble_eq_true rfl) ?_
  intro p e s m below meth c args A ls Q hat hQ
  obtain ⟨hx, hb, hr, hml, hown, hg, hlocks, hin, hK, hA, hP, hD, hS, hE, hl⟩ := hat
  have hown : s.vm.findClass RX11 = some m.cls := hown
  have hl : lv_has ls 3 [(0, .ref a0), (1, .int ka), (2, .int kb)] := hl
  refine lv_aload_n hx hb dX11_leads_0 rfl (lv_at hl 0 rfl) ?_
  refine va_get (D := D) (ci := 11) (v := .ref h0) (C := RX11) (T := TX11) (N := 14) hx hb hg i_X11 hown hK hP 0 rfl rfl 2 (by decide) (hg _ m_660) (fun _ h9 => h9) rfl dX11_leads_1 ?_
  refine lv_iconst (v := 3) hx hb dX11_leads_4 (by decide) ?_
  refine lv_iload_n hx hb dX11_leads_5 rfl (lv_at hl 1 rfl) ?_
  refine x_callVi (q := (RX4, TX4, 16)) (ci := 4) (q0 := 0) (wr := [(a0, .inr (11, [w0, w1, .ref h0, w3, w4, w5, w6, w7, w8, w9, w10, w11, w12, w13]))]) (rest := []) ⟨hx, hb, hml, hown, hg, hl.1⟩ k_X11_120 (c_has l D cy h0 h1 v1 v2 v3 v4 v5 v6 v7 v8 v9 v10 v11 v12 v13 v14 v15 3 ka (by unfold vp_in; decide)) E0_blind hK hP hD hS hA [1, 2] [0] ⟨rfl, rfl, by decide, by decide, by decide⟩ rfl rfl (fun _ _ _ => trivial) dX11_leads_6 rfl rfl (Nat.le_of_ble_eq_true rfl) ⟨Nat.le_of_ble_eq_true rfl, Nat.le_of_ble_eq_true rfl⟩ ⟨Nat.le_of_ble_eq_true rfl, Nat.le_of_ble_eq_true rfl⟩ (fun r1 u1 H locs hw1 hP hD hS => ?_)
  have hP : va_P D vwCl [(a0, .inr (11, [w0, w1, .ref h0, w3, w4, w5, w6, w7, w8, w9, w10, w11, w12, w13])), (h0, .inr (4, [.ref h1, v1, v2, v3, v4, v5, v6, v7, v8, v9, v10, v11, v12, v13, v14, v15])), (h1, .inl (cy 1, 4, .inl (fun _ => 0)))] H := hP
  have hD : va_D A [(a0, .inr (11, [w0, w1, .ref h0, w3, w4, w5, w6, w7, w8, w9, w10, w11, w12, w13])), (h0, .inr (4, [.ref h1, v1, v2, v3, v4, v5, v6, v7, v8, v9, v10, v11, v12, v13, v14, v15])), (h1, .inl (cy 1, 4, .inl (fun _ => 0)))] := hD
  refine W.widen (k := 0) (n := 0) (Nat.le_of_ble_eq_true rfl) (Nat.le_of_ble_eq_true rfl) ?_
  have hw1 : r1 = 0 := hw1
  subst hw1
  refine lv_if_eq (tgt := 24) hx hb dX11_leads_9 (by decide) (fun _ => ?_) (fun h => absurd (by decide) h)
  refine lv_iconst (v := -1) hx hb dX11_leads_24 (by decide) ?_
  exact x_iret hQ hx hb hr hlocks hK hP hD hS dX11_leads_25 () (rfl) [] (by decide) rfl (Nat.le_of_ble_eq_true rfl) (Nat.le_of_ble_eq_true rfl)
theorem dX11_say_0 : decode cX11_say 0 = .ok (.iload_n 1, 1) := by decide +kernel
theorem dX11_say_1 : decode cX11_say 1 = .ok (.invokestatic 143, 3) := by decide +kernel
theorem m_969 : (Cond.methodLink RX11 143 yX11_isCry) ∈ gT := gm 969 (by decide +kernel) (by decide +kernel)
theorem m_970 : (Cond.static yX11_isCry) ∈ gT := gm 970 (by decide +kernel) (by decide +kernel)
theorem m_130 : (Cond.initialized RX11) ∈ gT := gm 130 (by decide +kernel) (by decide +kernel)
theorem m_971 : (Cond.code yX11_isCry cX11_isCry 1 (some .boolean)) ∈ gT := gm 971 (by decide +kernel) (by decide +kernel)
theorem k_X11_143 : xS RX11 143 yX11_isCry cX11_isCry 1 (some .boolean) 1 := ⟨⟨m_969, m_970, m_130, m_971⟩, by decide, by decide, by decide +kernel⟩
theorem dX11_say_4 : decode cX11_say 4 = .ok (.ifCond .eq 28, 3) := by decide +kernel
theorem dX11_say_32 : decode cX11_say 32 = .ok (.iconst (-1), 1) := by decide +kernel
theorem dX11_say_33 : decode cX11_say 33 = .ok (.ireturn, 1) := by decide +kernel
theorem dX11_say_7 : decode cX11_say 7 = .ok (.aload_n 0, 1) := by decide +kernel
theorem dX11_say_8 : decode cX11_say 8 = .ok (.getfield 28, 3) := by decide +kernel
theorem dX11_say_11 : decode cX11_say 11 = .ok (.iconst 0, 1) := by decide +kernel
theorem dX11_say_12 : decode cX11_say 12 = .ok (.iload_n 2, 1) := by decide +kernel
theorem dX11_say_13 : decode cX11_say 13 = .ok (.invokevirtual 120, 3) := by decide +kernel
theorem dX11_say_16 : decode cX11_say 16 = .ok (.ifCond .eq 16, 3) := by decide +kernel
set_option maxHeartbeats 400000 in
set_option maxRecDepth 100000 in
theorem t_say (l : Launch) (D : va_G) (cy : Nat → ClassId) (a0 : Nat) (w0 : Value) (w1 : Value) (w3 : Value) (w4 : Value) (w5 : Value) (w6 : Value) (w7 : Value) (w8 : Value) (w9 : Value) (w10 : Value) (w11 : Value) (w12 : Value) (w13 : Value) (h0 : Nat) (h1 : Nat) (v1 : Value) (v2 : Value) (v3 : Value) (v4 : Value) (v5 : Value) (v6 : Value) (v7 : Value) (v8 : Value) (v9 : Value) (v10 : Value) (v11 : Value) (v12 : Value) (v13 : Value) (v14 : Value) (v15 : Value) (ka : Int32) (kb : Int32)  : XMi l D (tyL cy) E0 yX11_say cX11_say 3 (some .int) (rmk 2 0 0) [.ref a0, .int ka, .int kb] [(a0, .inr (11, [w0, w1, .ref h0, w3, w4, w5, w6, w7, w8, w9, w10, w11, w12, w13])), (h0, .inr (4, [.ref h1, v1, v2, v3, v4, v5, v6, v7, v8, v9, v10, v11, v12, v13, v14, v15])), (h1, .inl (cy 1, 4, .inl (fun _ => 0)))] (fun (r : Int32) (_ : Unit) => r = -1) (fun (_ : Unit) => []) := by
  refine XMi.start (by decide) (Nat.le_of_ble_eq_true rfl) ?_
  intro p e s m below meth c args A ls Q hat hQ
  obtain ⟨hx, hb, hr, hml, hown, hg, hlocks, hin, hK, hA, hP, hD, hS, hE, hl⟩ := hat
  have hown : s.vm.findClass RX11 = some m.cls := hown
  have hl : lv_has ls 3 [(0, .ref a0), (1, .int ka), (2, .int kb)] := hl
  refine lv_iload_n hx hb dX11_say_0 rfl (lv_at hl 1 rfl) ?_
  refine x_callSi (wr := [(a0, .inr (11, [w0, w1, .ref h0, w3, w4, w5, w6, w7, w8, w9, w10, w11, w12, w13])), (h0, .inr (4, [.ref h1, v1, v2, v3, v4, v5, v6, v7, v8, v9, v10, v11, v12, v13, v14, v15])), (h1, .inl (cy 1, 4, .inl (fun _ => 0)))]) (rest := []) ⟨hx, hb, hml, hown, hg, hl.1⟩ k_X11_143 (c_isCry l D cy ka) E0_blind hK hP hD hS hA [] [0, 1, 2] ⟨rfl, rfl, by decide, by decide, by decide⟩ (fun _ _ _ => trivial) dX11_say_1 rfl rfl (Nat.le_of_ble_eq_true rfl) ⟨Nat.le_of_ble_eq_true rfl, Nat.le_of_ble_eq_true rfl⟩ ⟨Nat.le_of_ble_eq_true rfl, Nat.le_of_ble_eq_true rfl⟩ (fun r1 u1 H locs hw1 hP hD hS => ?_)
  have hP : va_P D vwCl [(a0, .inr (11, [w0, w1, .ref h0, w3, w4, w5, w6, w7, w8, w9, w10, w11, w12, w13])), (h0, .inr (4, [.ref h1, v1, v2, v3, v4, v5, v6, v7, v8, v9, v10, v11, v12, v13, v14, v15])), (h1, .inl (cy 1, 4, .inl (fun _ => 0)))] H := hP
  have hD : va_D A [(a0, .inr (11, [w0, w1, .ref h0, w3, w4, w5, w6, w7, w8, w9, w10, w11, w12, w13])), (h0, .inr (4, [.ref h1, v1, v2, v3, v4, v5, v6, v7, v8, v9, v10, v11, v12, v13, v14, v15])), (h1, .inl (cy 1, 4, .inl (fun _ => 0)))] := hD
  refine W.widen (k := 0) (n := 0) (Nat.le_of_ble_eq_true rfl) (Nat.le_of_ble_eq_true rfl) ?_
  have hw1 : r1 = 0 ∨ ka = 0 ∨ ka = 1 := hw1
  refine lv_if_eq (tgt := 32) hx hb dX11_say_4 (by decide) (fun c_4 => ?_) (fun c_4 => ?_)
  · refine lv_iconst (v := -1) hx hb dX11_say_32 (by decide) ?_
    exact x_iret hQ hx hb hr hlocks hK hP hD hS dX11_say_33 () (rfl) [] (by decide) rfl (Nat.le_of_ble_eq_true rfl) (Nat.le_of_ble_eq_true rfl)
  · refine lv_aload_n hx hb dX11_say_7 rfl (lv_at hl 0 rfl) ?_
    refine va_get (D := D) (ci := 11) (v := .ref h0) (C := RX11) (T := TX11) (N := 14) hx hb hg i_X11 hown hK hP 0 rfl rfl 2 (by decide) (hg _ m_660) (fun _ h9 => h9) rfl dX11_say_8 ?_
    refine lv_iconst (v := 0) hx hb dX11_say_11 (by decide) ?_
    refine lv_iload_n hx hb dX11_say_12 rfl (lv_at hl 2 rfl) ?_
    refine x_callVi (q := (RX4, TX4, 16)) (ci := 4) (q0 := 0) (wr := [(a0, .inr (11, [w0, w1, .ref h0, w3, w4, w5, w6, w7, w8, w9, w10, w11, w12, w13]))]) (rest := []) ⟨hx, hb, hml, hown, hg, hl.1⟩ k_X11_120 (c_has l D cy h0 h1 v1 v2 v3 v4 v5 v6 v7 v8 v9 v10 v11 v12 v13 v14 v15 0 kb (by unfold vp_in; decide)) E0_blind hK hP hD hS hA [1, 2] [0] ⟨rfl, rfl, by decide, by decide, by decide⟩ rfl rfl (fun _ _ _ => trivial) dX11_say_13 rfl rfl (Nat.le_of_ble_eq_true rfl) ⟨Nat.le_of_ble_eq_true rfl, Nat.le_of_ble_eq_true rfl⟩ ⟨Nat.le_of_ble_eq_true rfl, Nat.le_of_ble_eq_true rfl⟩ (fun r2 u2 H locs hw2 hP hD hS => ?_)
    have hP : va_P D vwCl [(a0, .inr (11, [w0, w1, .ref h0, w3, w4, w5, w6, w7, w8, w9, w10, w11, w12, w13])), (h0, .inr (4, [.ref h1, v1, v2, v3, v4, v5, v6, v7, v8, v9, v10, v11, v12, v13, v14, v15])), (h1, .inl (cy 1, 4, .inl (fun _ => 0)))] H := hP
    have hD : va_D A [(a0, .inr (11, [w0, w1, .ref h0, w3, w4, w5, w6, w7, w8, w9, w10, w11, w12, w13])), (h0, .inr (4, [.ref h1, v1, v2, v3, v4, v5, v6, v7, v8, v9, v10, v11, v12, v13, v14, v15])), (h1, .inl (cy 1, 4, .inl (fun _ => 0)))] := hD
    refine W.widen (k := 0) (n := 0) (Nat.le_of_ble_eq_true rfl) (Nat.le_of_ble_eq_true rfl) ?_
    have hw2 : r2 = 0 := hw2
    subst hw2
    refine lv_if_eq (tgt := 32) hx hb dX11_say_16 (by decide) (fun _ => ?_) (fun h => absurd (by decide) h)
    refine lv_iconst (v := -1) hx hb dX11_say_32 (by decide) ?_
    exact x_iret hQ hx hb hr hlocks hK hP hD hS dX11_say_33 () (rfl) [] (by decide) rfl (Nat.le_of_ble_eq_true rfl) (Nat.le_of_ble_eq_true rfl)
theorem dX11_call_0 : decode cX11_call 0 = .ok (.aload_n 0, 1) := by decide +kernel
theorem dX11_call_1 : decode cX11_call 1 = .ok (.getfield 28, 3) := by decide +kernel
theorem dX11_call_4 : decode cX11_call 4 = .ok (.iconst 2, 1) := by decide +kernel
theorem dX11_call_5 : decode cX11_call 5 = .ok (.iload_n 1, 1) := by decide +kernel
theorem dX11_call_6 : decode cX11_call 6 = .ok (.invokevirtual 120, 3) := by decide +kernel
theorem dX11_call_9 : decode cX11_call 9 = .ok (.ifCond .ne 5, 3) := by decide +kernel
theorem dX11_call_12 : decode cX11_call 12 = .ok (.iconst (-1), 1) := by decide +kernel
theorem dX11_call_13 : decode cX11_call 13 = .ok (.ireturn, 1) := by decide +kernel
set_option maxHeartbeats 400000 in
set_option maxRecDepth 100000 in
theorem t_call (l : Launch) (D : va_G) (cy : Nat → ClassId) (a0 : Nat) (w0 : Value) (w1 : Value) (w3 : Value) (w4 : Value) (w5 : Value) (w6 : Value) (w7 : Value) (w8 : Value) (w9 : Value) (w10 : Value) (w11 : Value) (w12 : Value) (w13 : Value) (h0 : Nat) (h1 : Nat) (v1 : Value) (v2 : Value) (v3 : Value) (v4 : Value) (v5 : Value) (v6 : Value) (v7 : Value) (v8 : Value) (v9 : Value) (v10 : Value) (v11 : Value) (v12 : Value) (v13 : Value) (v14 : Value) (v15 : Value) (ka : Int32)  : XMi l D (tyL cy) E0 yX11_call cX11_call 3 (some .int) (rmk 2 0 0) [.ref a0, .int ka] [(a0, .inr (11, [w0, w1, .ref h0, w3, w4, w5, w6, w7, w8, w9, w10, w11, w12, w13])), (h0, .inr (4, [.ref h1, v1, v2, v3, v4, v5, v6, v7, v8, v9, v10, v11, v12, v13, v14, v15])), (h1, .inl (cy 1, 4, .inl (fun _ => 0)))] (fun (r : Int32) (_ : Unit) => r = -1) (fun (_ : Unit) => []) := by
  refine XMi.start (by decide) (Nat.le_of_ble_eq_true rfl) ?_
  intro p e s m below meth c args A ls Q hat hQ
  obtain ⟨hx, hb, hr, hml, hown, hg, hlocks, hin, hK, hA, hP, hD, hS, hE, hl⟩ := hat
  have hown : s.vm.findClass RX11 = some m.cls := hown
  have hl : lv_has ls 3 [(0, .ref a0), (1, .int ka)] := hl
  refine lv_aload_n hx hb dX11_call_0 rfl (lv_at hl 0 rfl) ?_
  refine va_get (D := D) (ci := 11) (v := .ref h0) (C := RX11) (T := TX11) (N := 14) hx hb hg i_X11 hown hK hP 0 rfl rfl 2 (by decide) (hg _ m_660) (fun _ h9 => h9) rfl dX11_call_1 ?_
  refine lv_iconst (v := 2) hx hb dX11_call_4 (by decide) ?_
  refine lv_iload_n hx hb dX11_call_5 rfl (lv_at hl 1 rfl) ?_
  refine x_callVi (q := (RX4, TX4, 16)) (ci := 4) (q0 := 0) (wr := [(a0, .inr (11, [w0, w1, .ref h0, w3, w4, w5, w6, w7, w8, w9, w10, w11, w12, w13]))]) (rest := []) ⟨hx, hb, hml, hown, hg, hl.1⟩ k_X11_120 (c_has l D cy h0 h1 v1 v2 v3 v4 v5 v6 v7 v8 v9 v10 v11 v12 v13 v14 v15 2 ka (by unfold vp_in; decide)) E0_blind hK hP hD hS hA [1, 2] [0] ⟨rfl, rfl, by decide, by decide, by decide⟩ rfl rfl (fun _ _ _ => trivial) dX11_call_6 rfl rfl (Nat.le_of_ble_eq_true rfl) ⟨Nat.le_of_ble_eq_true rfl, Nat.le_of_ble_eq_true rfl⟩ ⟨Nat.le_of_ble_eq_true rfl, Nat.le_of_ble_eq_true rfl⟩ (fun r1 u1 H locs hw1 hP hD hS => ?_)
  have hP : va_P D vwCl [(a0, .inr (11, [w0, w1, .ref h0, w3, w4, w5, w6, w7, w8, w9, w10, w11, w12, w13])), (h0, .inr (4, [.ref h1, v1, v2, v3, v4, v5, v6, v7, v8, v9, v10, v11, v12, v13, v14, v15])), (h1, .inl (cy 1, 4, .inl (fun _ => 0)))] H := hP
  have hD : va_D A [(a0, .inr (11, [w0, w1, .ref h0, w3, w4, w5, w6, w7, w8, w9, w10, w11, w12, w13])), (h0, .inr (4, [.ref h1, v1, v2, v3, v4, v5, v6, v7, v8, v9, v10, v11, v12, v13, v14, v15])), (h1, .inl (cy 1, 4, .inl (fun _ => 0)))] := hD
  refine W.widen (k := 0) (n := 0) (Nat.le_of_ble_eq_true rfl) (Nat.le_of_ble_eq_true rfl) ?_
  have hw1 : r1 = 0 := hw1
  subst hw1
  refine lv_if_ne (tgt := 14) hx hb dX11_call_9 (by decide) (fun h => absurd (by decide) h) (fun _ => ?_)
  refine lv_iconst (v := -1) hx hb dX11_call_12 (by decide) ?_
  exact x_iret hQ hx hb hr hlocks hK hP hD hS dX11_call_13 () (rfl) [] (by decide) rfl (Nat.le_of_ble_eq_true rfl) (Nat.le_of_ble_eq_true rfl)
theorem dX11_sweep_0 : decode cX11_sweep 0 = .ok (.aload_n 0, 1) := by decide +kernel
theorem dX11_sweep_1 : decode cX11_sweep 1 = .ok (.getfield 28, 3) := by decide +kernel
theorem dX11_sweep_4 : decode cX11_sweep 4 = .ok (.iconst 1, 1) := by decide +kernel
theorem dX11_sweep_5 : decode cX11_sweep 5 = .ok (.iload_n 1, 1) := by decide +kernel
theorem dX11_sweep_6 : decode cX11_sweep 6 = .ok (.invokevirtual 120, 3) := by decide +kernel
theorem dX11_sweep_9 : decode cX11_sweep 9 = .ok (.ifCond .ne 5, 3) := by decide +kernel
theorem dX11_sweep_12 : decode cX11_sweep 12 = .ok (.iconst (-1), 1) := by decide +kernel
theorem dX11_sweep_13 : decode cX11_sweep 13 = .ok (.ireturn, 1) := by decide +kernel
set_option maxHeartbeats 400000 in
set_option maxRecDepth 100000 in
theorem t_sweep (l : Launch) (D : va_G) (cy : Nat → ClassId) (a0 : Nat) (w0 : Value) (w1 : Value) (w3 : Value) (w4 : Value) (w5 : Value) (w6 : Value) (w7 : Value) (w8 : Value) (w9 : Value) (w10 : Value) (w11 : Value) (w12 : Value) (w13 : Value) (h0 : Nat) (h1 : Nat) (v1 : Value) (v2 : Value) (v3 : Value) (v4 : Value) (v5 : Value) (v6 : Value) (v7 : Value) (v8 : Value) (v9 : Value) (v10 : Value) (v11 : Value) (v12 : Value) (v13 : Value) (v14 : Value) (v15 : Value) (ka : Int32)  : XMi l D (tyL cy) E0 yX11_sweep cX11_sweep 2 (some .int) (rmk 2 0 0) [.ref a0, .int ka] [(a0, .inr (11, [w0, w1, .ref h0, w3, w4, w5, w6, w7, w8, w9, w10, w11, w12, w13])), (h0, .inr (4, [.ref h1, v1, v2, v3, v4, v5, v6, v7, v8, v9, v10, v11, v12, v13, v14, v15])), (h1, .inl (cy 1, 4, .inl (fun _ => 0)))] (fun (r : Int32) (_ : Unit) => r = -1) (fun (_ : Unit) => []) := by
  refine XMi.start (by decide) (Nat.le_of_ble_eq_true rfl) ?_
  intro p e s m below meth c args A ls Q hat hQ
  obtain ⟨hx, hb, hr, hml, hown, hg, hlocks, hin, hK, hA, hP, hD, hS, hE, hl⟩ := hat
  have hown : s.vm.findClass RX11 = some m.cls := hown
  have hl : lv_has ls 2 [(0, .ref a0), (1, .int ka)] := hl
  refine lv_aload_n hx hb dX11_sweep_0 rfl (lv_at hl 0 rfl) ?_
  refine va_get (D := D) (ci := 11) (v := .ref h0) (C := RX11) (T := TX11) (N := 14) hx hb hg i_X11 hown hK hP 0 rfl rfl 2 (by decide) (hg _ m_660) (fun _ h9 => h9) rfl dX11_sweep_1 ?_
  refine lv_iconst (v := 1) hx hb dX11_sweep_4 (by decide) ?_
  refine lv_iload_n hx hb dX11_sweep_5 rfl (lv_at hl 1 rfl) ?_
  refine x_callVi (q := (RX4, TX4, 16)) (ci := 4) (q0 := 0) (wr := [(a0, .inr (11, [w0, w1, .ref h0, w3, w4, w5, w6, w7, w8, w9, w10, w11, w12, w13]))]) (rest := []) ⟨hx, hb, hml, hown, hg, hl.1⟩ k_X11_120 (c_has l D cy h0 h1 v1 v2 v3 v4 v5 v6 v7 v8 v9 v10 v11 v12 v13 v14 v15 1 ka (by unfold vp_in; decide)) E0_blind hK hP hD hS hA [1, 2] [0] ⟨rfl, rfl, by decide, by decide, by decide⟩ rfl rfl (fun _ _ _ => trivial) dX11_sweep_6 rfl rfl (Nat.le_of_ble_eq_true rfl) ⟨Nat.le_of_ble_eq_true rfl, Nat.le_of_ble_eq_true rfl⟩ ⟨Nat.le_of_ble_eq_true rfl, Nat.le_of_ble_eq_true rfl⟩ (fun r1 u1 H locs hw1 hP hD hS => ?_)
  have hP : va_P D vwCl [(a0, .inr (11, [w0, w1, .ref h0, w3, w4, w5, w6, w7, w8, w9, w10, w11, w12, w13])), (h0, .inr (4, [.ref h1, v1, v2, v3, v4, v5, v6, v7, v8, v9, v10, v11, v12, v13, v14, v15])), (h1, .inl (cy 1, 4, .inl (fun _ => 0)))] H := hP
  have hD : va_D A [(a0, .inr (11, [w0, w1, .ref h0, w3, w4, w5, w6, w7, w8, w9, w10, w11, w12, w13])), (h0, .inr (4, [.ref h1, v1, v2, v3, v4, v5, v6, v7, v8, v9, v10, v11, v12, v13, v14, v15])), (h1, .inl (cy 1, 4, .inl (fun _ => 0)))] := hD
  refine W.widen (k := 0) (n := 0) (Nat.le_of_ble_eq_true rfl) (Nat.le_of_ble_eq_true rfl) ?_
  have hw1 : r1 = 0 := hw1
  subst hw1
  refine lv_if_ne (tgt := 14) hx hb dX11_sweep_9 (by decide) (fun h => absurd (by decide) h) (fun _ => ?_)
  refine lv_iconst (v := -1) hx hb dX11_sweep_12 (by decide) ?_
  exact x_iret hQ hx hb hr hlocks hK hP hD hS dX11_sweep_13 () (rfl) [] (by decide) rfl (Nat.le_of_ble_eq_true rfl) (Nat.le_of_ble_eq_true rfl)
theorem dX11_echo_0 : decode cX11_echo 0 = .ok (.aload_n 0, 1) := by decide +kernel
theorem dX11_echo_1 : decode cX11_echo 1 = .ok (.iconst 0, 1) := by decide +kernel
theorem dX11_echo_2 : decode cX11_echo 2 = .ok (.putfield 89, 3) := by decide +kernel
theorem m_671 : (Cond.fieldLink RX11 89 "CliffJudges" "lyingCount" "I") ∈ gT := gm 671 (by decide +kernel) (by decide +kernel)
theorem dX11_echo_5 : decode cX11_echo 5 = .ok (.aload_n 0, 1) := by decide +kernel
theorem dX11_echo_6 : decode cX11_echo 6 = .ok (.getfield 28, 3) := by decide +kernel
theorem dX11_echo_9 : decode cX11_echo 9 = .ok (.iconst 2, 1) := by decide +kernel
theorem dX11_echo_10 : decode cX11_echo 10 = .ok (.iload_n 1, 1) := by decide +kernel
theorem dX11_echo_11 : decode cX11_echo 11 = .ok (.invokevirtual 120, 3) := by decide +kernel
theorem dX11_echo_14 : decode cX11_echo 14 = .ok (.ifCond .eq 15, 3) := by decide +kernel
theorem dX11_echo_29 : decode cX11_echo 29 = .ok (.iconst (-1), 1) := by decide +kernel
theorem dX11_echo_30 : decode cX11_echo 30 = .ok (.ireturn, 1) := by decide +kernel
set_option maxHeartbeats 400000 in
set_option maxRecDepth 100000 in
theorem t_echo (l : Launch) (D : va_G) (cy : Nat → ClassId) (a0 : Nat) (w0 : Value) (w1 : Value) (w3 : Value) (w4 : Value) (w5 : Value) (w6 : Value) (w7 : Value) (w8 : Value) (w9 : Value) (w10 : Value) (w11 : Value) (w12 : Value) (w13 : Value) (h0 : Nat) (h1 : Nat) (v1 : Value) (v2 : Value) (v3 : Value) (v4 : Value) (v5 : Value) (v6 : Value) (v7 : Value) (v8 : Value) (v9 : Value) (v10 : Value) (v11 : Value) (v12 : Value) (v13 : Value) (v14 : Value) (v15 : Value) (ka : Int32) (kb : Int32)  : XMi l D (tyL cy) E0 yX11_echo cX11_echo 4 (some .int) (rmk 2 0 0) [.ref a0, .int ka, .int kb] [(a0, .inr (11, [w0, w1, .ref h0, w3, w4, w5, w6, w7, w8, w9, w10, w11, w12, w13])), (h0, .inr (4, [.ref h1, v1, v2, v3, v4, v5, v6, v7, v8, v9, v10, v11, v12, v13, v14, v15])), (h1, .inl (cy 1, 4, .inl (fun _ => 0)))] (fun (r : Int32) (_ : Unit) => r = -1) (fun (_ : Unit) => []) := by
  refine XMi.start (by decide) (Nat.le_of_ble_eq_true rfl) ?_
  intro p e s m below meth c args A ls Q hat hQ
  obtain ⟨hx, hb, hr, hml, hown, hg, hlocks, hin, hK, hA, hP, hD, hS, hE, hl⟩ := hat
  have hown : s.vm.findClass RX11 = some m.cls := hown
  have hl : lv_has ls 4 [(0, .ref a0), (1, .int ka), (2, .int kb)] := hl
  refine lv_aload_n hx hb dX11_echo_0 rfl (lv_at hl 0 rfl) ?_
  refine lv_iconst (v := 0) hx hb dX11_echo_1 (by decide) ?_
  refine va_put (D := D) (ci := 11) (v := .int 0) (ty := .int) (C := RX11) (T := TX11) (N := 14) hx hb hg i_X11 tyX11 tyX11_ok nmX11 hown hK hP hD hS 0 rfl rfl 13 (by decide) (hg _ m_671) (fun _ h9 => h9) rfl (by decide +kernel) rfl rfl (Nat.le_of_ble_eq_true rfl) dX11_echo_2 (fun H locs hP hD hS => ?_)
  have hP : va_P D vwCl [(a0, .inr (11, [w0, w1, .ref h0, w3, w4, w5, w6, w7, w8, w9, w10, w11, w12, .int 0])), (h0, .inr (4, [.ref h1, v1, v2, v3, v4, v5, v6, v7, v8, v9, v10, v11, v12, v13, v14, v15])), (h1, .inl (cy 1, 4, .inl (fun _ => 0)))] H := hP
  have hD : va_D A [(a0, .inr (11, [w0, w1, .ref h0, w3, w4, w5, w6, w7, w8, w9, w10, w11, w12, .int 0])), (h0, .inr (4, [.ref h1, v1, v2, v3, v4, v5, v6, v7, v8, v9, v10, v11, v12, v13, v14, v15])), (h1, .inl (cy 1, 4, .inl (fun _ => 0)))] := hD
  refine lv_aload_n hx hb dX11_echo_5 rfl (lv_at hl 0 rfl) ?_
  refine va_get (D := D) (ci := 11) (v := .ref h0) (C := RX11) (T := TX11) (N := 14) hx hb hg i_X11 hown hK hP 0 rfl rfl 2 (by decide) (hg _ m_660) (fun _ h9 => h9) rfl dX11_echo_6 ?_
  refine lv_iconst (v := 2) hx hb dX11_echo_9 (by decide) ?_
  refine lv_iload_n hx hb dX11_echo_10 rfl (lv_at hl 1 rfl) ?_
  refine x_callVi (q := (RX4, TX4, 16)) (ci := 4) (q0 := 0) (wr := [(a0, .inr (11, [w0, w1, .ref h0, w3, w4, w5, w6, w7, w8, w9, w10, w11, w12, .int 0]))]) (rest := []) ⟨hx, hb, hml, hown, hg, hl.1⟩ k_X11_120 (c_has l D cy h0 h1 v1 v2 v3 v4 v5 v6 v7 v8 v9 v10 v11 v12 v13 v14 v15 2 ka (by unfold vp_in; decide)) E0_blind hK hP hD hS hA [1, 2] [0] ⟨rfl, rfl, by decide, by decide, by decide⟩ rfl rfl (fun _ _ _ => trivial) dX11_echo_11 rfl rfl (Nat.le_of_ble_eq_true rfl) ⟨Nat.le_of_ble_eq_true rfl, Nat.le_of_ble_eq_true rfl⟩ ⟨Nat.le_of_ble_eq_true rfl, Nat.le_of_ble_eq_true rfl⟩ (fun r1 u1 H locs hw1 hP hD hS => ?_)
  have hP : va_P D vwCl [(a0, .inr (11, [w0, w1, .ref h0, w3, w4, w5, w6, w7, w8, w9, w10, w11, w12, .int 0])), (h0, .inr (4, [.ref h1, v1, v2, v3, v4, v5, v6, v7, v8, v9, v10, v11, v12, v13, v14, v15])), (h1, .inl (cy 1, 4, .inl (fun _ => 0)))] H := hP
  have hD : va_D A [(a0, .inr (11, [w0, w1, .ref h0, w3, w4, w5, w6, w7, w8, w9, w10, w11, w12, .int 0])), (h0, .inr (4, [.ref h1, v1, v2, v3, v4, v5, v6, v7, v8, v9, v10, v11, v12, v13, v14, v15])), (h1, .inl (cy 1, 4, .inl (fun _ => 0)))] := hD
  refine W.widen (k := 0) (n := 0) (Nat.le_of_ble_eq_true rfl) (Nat.le_of_ble_eq_true rfl) ?_
  have hw1 : r1 = 0 := hw1
  subst hw1
  refine lv_if_eq (tgt := 29) hx hb dX11_echo_14 (by decide) (fun _ => ?_) (fun h => absurd (by decide) h)
  refine lv_iconst (v := -1) hx hb dX11_echo_29 (by decide) ?_
  exact x_iret hQ hx hb hr hlocks hK hP hD hS dX11_echo_30 () (rfl) [] (by decide) rfl (Nat.le_of_ble_eq_true rfl) (Nat.le_of_ble_eq_true rfl)
theorem dX11_answers_0 : decode cX11_answers 0 = .ok (.aload_n 0, 1) := by decide +kernel
theorem dX11_answers_1 : decode cX11_answers 1 = .ok (.getfield 28, 3) := by decide +kernel
theorem dX11_answers_4 : decode cX11_answers 4 = .ok (.iconst 2, 1) := by decide +kernel
theorem dX11_answers_5 : decode cX11_answers 5 = .ok (.iload_n 1, 1) := by decide +kernel
theorem dX11_answers_6 : decode cX11_answers 6 = .ok (.invokevirtual 120, 3) := by decide +kernel
theorem dX11_answers_9 : decode cX11_answers 9 = .ok (.ifCond .eq 12, 3) := by decide +kernel
theorem dX11_answers_21 : decode cX11_answers 21 = .ok (.iconst (-1), 1) := by decide +kernel
theorem dX11_answers_22 : decode cX11_answers 22 = .ok (.ireturn, 1) := by decide +kernel
set_option maxHeartbeats 400000 in
set_option maxRecDepth 100000 in
theorem t_answers (l : Launch) (D : va_G) (cy : Nat → ClassId) (a0 : Nat) (w0 : Value) (w1 : Value) (w3 : Value) (w4 : Value) (w5 : Value) (w6 : Value) (w7 : Value) (w8 : Value) (w9 : Value) (w10 : Value) (w11 : Value) (w12 : Value) (w13 : Value) (h0 : Nat) (h1 : Nat) (v1 : Value) (v2 : Value) (v3 : Value) (v4 : Value) (v5 : Value) (v6 : Value) (v7 : Value) (v8 : Value) (v9 : Value) (v10 : Value) (v11 : Value) (v12 : Value) (v13 : Value) (v14 : Value) (v15 : Value) (ka : Int32) (kb : Int32)  : XMi l D (tyL cy) E0 yX11_answers cX11_answers 6 (some .int) (rmk 2 0 0) [.ref a0, .int ka, .int kb] [(a0, .inr (11, [w0, w1, .ref h0, w3, w4, w5, w6, w7, w8, w9, w10, w11, w12, w13])), (h0, .inr (4, [.ref h1, v1, v2, v3, v4, v5, v6, v7, v8, v9, v10, v11, v12, v13, v14, v15])), (h1, .inl (cy 1, 4, .inl (fun _ => 0)))] (fun (r : Int32) (_ : Unit) => r = -1) (fun (_ : Unit) => []) := by
  refine XMi.start (by decide) (Nat.le_of_ble_eq_true rfl) ?_
  intro p e s m below meth c args A ls Q hat hQ
  obtain ⟨hx, hb, hr, hml, hown, hg, hlocks, hin, hK, hA, hP, hD, hS, hE, hl⟩ := hat
  have hown : s.vm.findClass RX11 = some m.cls := hown
  have hl : lv_has ls 6 [(0, .ref a0), (1, .int ka), (2, .int kb)] := hl
  refine lv_aload_n hx hb dX11_answers_0 rfl (lv_at hl 0 rfl) ?_
  refine va_get (D := D) (ci := 11) (v := .ref h0) (C := RX11) (T := TX11) (N := 14) hx hb hg i_X11 hown hK hP 0 rfl rfl 2 (by decide) (hg _ m_660) (fun _ h9 => h9) rfl dX11_answers_1 ?_
  refine lv_iconst (v := 2) hx hb dX11_answers_4 (by decide) ?_
  refine lv_iload_n hx hb dX11_answers_5 rfl (lv_at hl 1 rfl) ?_
  refine x_callVi (q := (RX4, TX4, 16)) (ci := 4) (q0 := 0) (wr := [(a0, .inr (11, [w0, w1, .ref h0, w3, w4, w5, w6, w7, w8, w9, w10, w11, w12, w13]))]) (rest := []) ⟨hx, hb, hml, hown, hg, hl.1⟩ k_X11_120 (c_has l D cy h0 h1 v1 v2 v3 v4 v5 v6 v7 v8 v9 v10 v11 v12 v13 v14 v15 2 ka (by unfold vp_in; decide)) E0_blind hK hP hD hS hA [1, 2] [0] ⟨rfl, rfl, by decide, by decide, by decide⟩ rfl rfl (fun _ _ _ => trivial) dX11_answers_6 rfl rfl (Nat.le_of_ble_eq_true rfl) ⟨Nat.le_of_ble_eq_true rfl, Nat.le_of_ble_eq_true rfl⟩ ⟨Nat.le_of_ble_eq_true rfl, Nat.le_of_ble_eq_true rfl⟩ (fun r1 u1 H locs hw1 hP hD hS => ?_)
  have hP : va_P D vwCl [(a0, .inr (11, [w0, w1, .ref h0, w3, w4, w5, w6, w7, w8, w9, w10, w11, w12, w13])), (h0, .inr (4, [.ref h1, v1, v2, v3, v4, v5, v6, v7, v8, v9, v10, v11, v12, v13, v14, v15])), (h1, .inl (cy 1, 4, .inl (fun _ => 0)))] H := hP
  have hD : va_D A [(a0, .inr (11, [w0, w1, .ref h0, w3, w4, w5, w6, w7, w8, w9, w10, w11, w12, w13])), (h0, .inr (4, [.ref h1, v1, v2, v3, v4, v5, v6, v7, v8, v9, v10, v11, v12, v13, v14, v15])), (h1, .inl (cy 1, 4, .inl (fun _ => 0)))] := hD
  refine W.widen (k := 0) (n := 0) (Nat.le_of_ble_eq_true rfl) (Nat.le_of_ble_eq_true rfl) ?_
  have hw1 : r1 = 0 := hw1
  subst hw1
  refine lv_if_eq (tgt := 21) hx hb dX11_answers_9 (by decide) (fun _ => ?_) (fun h => absurd (by decide) h)
  refine lv_iconst (v := -1) hx hb dX11_answers_21 (by decide) ?_
  exact x_iret hQ hx hb hr hlocks hK hP hD hS dX11_answers_22 () (rfl) [] (by decide) rfl (Nat.le_of_ble_eq_true rfl) (Nat.le_of_ble_eq_true rfl)
theorem dX11_binds_0 : decode cX11_binds 0 = .ok (.aload_n 0, 1) := by decide +kernel
theorem dX11_binds_1 : decode cX11_binds 1 = .ok (.getfield 28, 3) := by decide +kernel
theorem dX11_binds_4 : decode cX11_binds 4 = .ok (.iconst 2, 1) := by decide +kernel
theorem dX11_binds_5 : decode cX11_binds 5 = .ok (.iload_n 1, 1) := by decide +kernel
theorem dX11_binds_6 : decode cX11_binds 6 = .ok (.invokevirtual 120, 3) := by decide +kernel
theorem dX11_binds_9 : decode cX11_binds 9 = .ok (.ifCond .ne 5, 3) := by decide +kernel
theorem dX11_binds_12 : decode cX11_binds 12 = .ok (.iconst (-1), 1) := by decide +kernel
theorem dX11_binds_13 : decode cX11_binds 13 = .ok (.ireturn, 1) := by decide +kernel
set_option maxHeartbeats 400000 in
set_option maxRecDepth 100000 in
theorem t_binds (l : Launch) (D : va_G) (cy : Nat → ClassId) (a0 : Nat) (w0 : Value) (w1 : Value) (w3 : Value) (w4 : Value) (w5 : Value) (w6 : Value) (w7 : Value) (w8 : Value) (w9 : Value) (w10 : Value) (w11 : Value) (w12 : Value) (w13 : Value) (h0 : Nat) (h1 : Nat) (v1 : Value) (v2 : Value) (v3 : Value) (v4 : Value) (v5 : Value) (v6 : Value) (v7 : Value) (v8 : Value) (v9 : Value) (v10 : Value) (v11 : Value) (v12 : Value) (v13 : Value) (v14 : Value) (v15 : Value) (ka : Int32)  : XMi l D (tyL cy) E0 yX11_binds cX11_binds 2 (some .int) (rmk 2 0 0) [.ref a0, .int ka] [(a0, .inr (11, [w0, w1, .ref h0, w3, w4, w5, w6, w7, w8, w9, w10, w11, w12, w13])), (h0, .inr (4, [.ref h1, v1, v2, v3, v4, v5, v6, v7, v8, v9, v10, v11, v12, v13, v14, v15])), (h1, .inl (cy 1, 4, .inl (fun _ => 0)))] (fun (r : Int32) (_ : Unit) => r = -1) (fun (_ : Unit) => []) := by
  refine XMi.start (by decide) (Nat.le_of_ble_eq_true rfl) ?_
  intro p e s m below meth c args A ls Q hat hQ
  obtain ⟨hx, hb, hr, hml, hown, hg, hlocks, hin, hK, hA, hP, hD, hS, hE, hl⟩ := hat
  have hown : s.vm.findClass RX11 = some m.cls := hown
  have hl : lv_has ls 2 [(0, .ref a0), (1, .int ka)] := hl
  refine lv_aload_n hx hb dX11_binds_0 rfl (lv_at hl 0 rfl) ?_
  refine va_get (D := D) (ci := 11) (v := .ref h0) (C := RX11) (T := TX11) (N := 14) hx hb hg i_X11 hown hK hP 0 rfl rfl 2 (by decide) (hg _ m_660) (fun _ h9 => h9) rfl dX11_binds_1 ?_
  refine lv_iconst (v := 2) hx hb dX11_binds_4 (by decide) ?_
  refine lv_iload_n hx hb dX11_binds_5 rfl (lv_at hl 1 rfl) ?_
  refine x_callVi (q := (RX4, TX4, 16)) (ci := 4) (q0 := 0) (wr := [(a0, .inr (11, [w0, w1, .ref h0, w3, w4, w5, w6, w7, w8, w9, w10, w11, w12, w13]))]) (rest := []) ⟨hx, hb, hml, hown, hg, hl.1⟩ k_X11_120 (c_has l D cy h0 h1 v1 v2 v3 v4 v5 v6 v7 v8 v9 v10 v11 v12 v13 v14 v15 2 ka (by unfold vp_in; decide)) E0_blind hK hP hD hS hA [1, 2] [0] ⟨rfl, rfl, by decide, by decide, by decide⟩ rfl rfl (fun _ _ _ => trivial) dX11_binds_6 rfl rfl (Nat.le_of_ble_eq_true rfl) ⟨Nat.le_of_ble_eq_true rfl, Nat.le_of_ble_eq_true rfl⟩ ⟨Nat.le_of_ble_eq_true rfl, Nat.le_of_ble_eq_true rfl⟩ (fun r1 u1 H locs hw1 hP hD hS => ?_)
  have hP : va_P D vwCl [(a0, .inr (11, [w0, w1, .ref h0, w3, w4, w5, w6, w7, w8, w9, w10, w11, w12, w13])), (h0, .inr (4, [.ref h1, v1, v2, v3, v4, v5, v6, v7, v8, v9, v10, v11, v12, v13, v14, v15])), (h1, .inl (cy 1, 4, .inl (fun _ => 0)))] H := hP
  have hD : va_D A [(a0, .inr (11, [w0, w1, .ref h0, w3, w4, w5, w6, w7, w8, w9, w10, w11, w12, w13])), (h0, .inr (4, [.ref h1, v1, v2, v3, v4, v5, v6, v7, v8, v9, v10, v11, v12, v13, v14, v15])), (h1, .inl (cy 1, 4, .inl (fun _ => 0)))] := hD
  refine W.widen (k := 0) (n := 0) (Nat.le_of_ble_eq_true rfl) (Nat.le_of_ble_eq_true rfl) ?_
  have hw1 : r1 = 0 := hw1
  subst hw1
  refine lv_if_ne (tgt := 14) hx hb dX11_binds_9 (by decide) (fun h => absurd (by decide) h) (fun _ => ?_)
  refine lv_iconst (v := -1) hx hb dX11_binds_12 (by decide) ?_
  exact x_iret hQ hx hb hr hlocks hK hP hD hS dX11_binds_13 () (rfl) [] (by decide) rfl (Nat.le_of_ble_eq_true rfl) (Nat.le_of_ble_eq_true rfl)
theorem dX11_pardon_0 : decode cX11_pardon 0 = .ok (.aload_n 0, 1) := by decide +kernel
theorem dX11_pardon_1 : decode cX11_pardon 1 = .ok (.iconst 0, 1) := by decide +kernel
theorem dX11_pardon_2 : decode cX11_pardon 2 = .ok (.putfield 89, 3) := by decide +kernel
theorem dX11_pardon_5 : decode cX11_pardon 5 = .ok (.aload_n 0, 1) := by decide +kernel
theorem dX11_pardon_6 : decode cX11_pardon 6 = .ok (.getfield 28, 3) := by decide +kernel
theorem dX11_pardon_9 : decode cX11_pardon 9 = .ok (.iconst 2, 1) := by decide +kernel
theorem dX11_pardon_10 : decode cX11_pardon 10 = .ok (.iload_n 1, 1) := by decide +kernel
theorem dX11_pardon_11 : decode cX11_pardon 11 = .ok (.invokevirtual 120, 3) := by decide +kernel
theorem dX11_pardon_14 : decode cX11_pardon 14 = .ok (.ifCond .eq 15, 3) := by decide +kernel
theorem dX11_pardon_29 : decode cX11_pardon 29 = .ok (.iconst (-1), 1) := by decide +kernel
theorem dX11_pardon_30 : decode cX11_pardon 30 = .ok (.ireturn, 1) := by decide +kernel
set_option maxHeartbeats 400000 in
set_option maxRecDepth 100000 in
theorem t_pardon (l : Launch) (D : va_G) (cy : Nat → ClassId) (a0 : Nat) (w0 : Value) (w1 : Value) (w3 : Value) (w4 : Value) (w5 : Value) (w6 : Value) (w7 : Value) (w8 : Value) (w9 : Value) (w10 : Value) (w11 : Value) (w12 : Value) (w13 : Value) (h0 : Nat) (h1 : Nat) (v1 : Value) (v2 : Value) (v3 : Value) (v4 : Value) (v5 : Value) (v6 : Value) (v7 : Value) (v8 : Value) (v9 : Value) (v10 : Value) (v11 : Value) (v12 : Value) (v13 : Value) (v14 : Value) (v15 : Value) (ka : Int32)  : XMi l D (tyL cy) E0 yX11_pardon cX11_pardon 3 (some .int) (rmk 2 0 0) [.ref a0, .int ka] [(a0, .inr (11, [w0, w1, .ref h0, w3, w4, w5, w6, w7, w8, w9, w10, w11, w12, w13])), (h0, .inr (4, [.ref h1, v1, v2, v3, v4, v5, v6, v7, v8, v9, v10, v11, v12, v13, v14, v15])), (h1, .inl (cy 1, 4, .inl (fun _ => 0)))] (fun (r : Int32) (_ : Unit) => r = -1) (fun (_ : Unit) => []) := by
  refine XMi.start (by decide) (Nat.le_of_ble_eq_true rfl) ?_
  intro p e s m below meth c args A ls Q hat hQ
  obtain ⟨hx, hb, hr, hml, hown, hg, hlocks, hin, hK, hA, hP, hD, hS, hE, hl⟩ := hat
  have hown : s.vm.findClass RX11 = some m.cls := hown
  have hl : lv_has ls 3 [(0, .ref a0), (1, .int ka)] := hl
  refine lv_aload_n hx hb dX11_pardon_0 rfl (lv_at hl 0 rfl) ?_
  refine lv_iconst (v := 0) hx hb dX11_pardon_1 (by decide) ?_
  refine va_put (D := D) (ci := 11) (v := .int 0) (ty := .int) (C := RX11) (T := TX11) (N := 14) hx hb hg i_X11 tyX11 tyX11_ok nmX11 hown hK hP hD hS 0 rfl rfl 13 (by decide) (hg _ m_671) (fun _ h9 => h9) rfl (by decide +kernel) rfl rfl (Nat.le_of_ble_eq_true rfl) dX11_pardon_2 (fun H locs hP hD hS => ?_)
  have hP : va_P D vwCl [(a0, .inr (11, [w0, w1, .ref h0, w3, w4, w5, w6, w7, w8, w9, w10, w11, w12, .int 0])), (h0, .inr (4, [.ref h1, v1, v2, v3, v4, v5, v6, v7, v8, v9, v10, v11, v12, v13, v14, v15])), (h1, .inl (cy 1, 4, .inl (fun _ => 0)))] H := hP
  have hD : va_D A [(a0, .inr (11, [w0, w1, .ref h0, w3, w4, w5, w6, w7, w8, w9, w10, w11, w12, .int 0])), (h0, .inr (4, [.ref h1, v1, v2, v3, v4, v5, v6, v7, v8, v9, v10, v11, v12, v13, v14, v15])), (h1, .inl (cy 1, 4, .inl (fun _ => 0)))] := hD
  refine lv_aload_n hx hb dX11_pardon_5 rfl (lv_at hl 0 rfl) ?_
  refine va_get (D := D) (ci := 11) (v := .ref h0) (C := RX11) (T := TX11) (N := 14) hx hb hg i_X11 hown hK hP 0 rfl rfl 2 (by decide) (hg _ m_660) (fun _ h9 => h9) rfl dX11_pardon_6 ?_
  refine lv_iconst (v := 2) hx hb dX11_pardon_9 (by decide) ?_
  refine lv_iload_n hx hb dX11_pardon_10 rfl (lv_at hl 1 rfl) ?_
  refine x_callVi (q := (RX4, TX4, 16)) (ci := 4) (q0 := 0) (wr := [(a0, .inr (11, [w0, w1, .ref h0, w3, w4, w5, w6, w7, w8, w9, w10, w11, w12, .int 0]))]) (rest := []) ⟨hx, hb, hml, hown, hg, hl.1⟩ k_X11_120 (c_has l D cy h0 h1 v1 v2 v3 v4 v5 v6 v7 v8 v9 v10 v11 v12 v13 v14 v15 2 ka (by unfold vp_in; decide)) E0_blind hK hP hD hS hA [1, 2] [0] ⟨rfl, rfl, by decide, by decide, by decide⟩ rfl rfl (fun _ _ _ => trivial) dX11_pardon_11 rfl rfl (Nat.le_of_ble_eq_true rfl) ⟨Nat.le_of_ble_eq_true rfl, Nat.le_of_ble_eq_true rfl⟩ ⟨Nat.le_of_ble_eq_true rfl, Nat.le_of_ble_eq_true rfl⟩ (fun r1 u1 H locs hw1 hP hD hS => ?_)
  have hP : va_P D vwCl [(a0, .inr (11, [w0, w1, .ref h0, w3, w4, w5, w6, w7, w8, w9, w10, w11, w12, .int 0])), (h0, .inr (4, [.ref h1, v1, v2, v3, v4, v5, v6, v7, v8, v9, v10, v11, v12, v13, v14, v15])), (h1, .inl (cy 1, 4, .inl (fun _ => 0)))] H := hP
  have hD : va_D A [(a0, .inr (11, [w0, w1, .ref h0, w3, w4, w5, w6, w7, w8, w9, w10, w11, w12, .int 0])), (h0, .inr (4, [.ref h1, v1, v2, v3, v4, v5, v6, v7, v8, v9, v10, v11, v12, v13, v14, v15])), (h1, .inl (cy 1, 4, .inl (fun _ => 0)))] := hD
  refine W.widen (k := 0) (n := 0) (Nat.le_of_ble_eq_true rfl) (Nat.le_of_ble_eq_true rfl) ?_
  have hw1 : r1 = 0 := hw1
  subst hw1
  refine lv_if_eq (tgt := 29) hx hb dX11_pardon_14 (by decide) (fun _ => ?_) (fun h => absurd (by decide) h)
  refine lv_iconst (v := -1) hx hb dX11_pardon_29 (by decide) ?_
  exact x_iret hQ hx hb hr hlocks hK hP hD hS dX11_pardon_30 () (rfl) [] (by decide) rfl (Nat.le_of_ble_eq_true rfl) (Nat.le_of_ble_eq_true rfl)
theorem dX11_pardons_0 : decode cX11_pardons 0 = .ok (.aload_n 0, 1) := by decide +kernel
theorem dX11_pardons_1 : decode cX11_pardons 1 = .ok (.getfield 28, 3) := by decide +kernel
theorem dX11_pardons_4 : decode cX11_pardons 4 = .ok (.iconst 2, 1) := by decide +kernel
theorem dX11_pardons_5 : decode cX11_pardons 5 = .ok (.iload_n 1, 1) := by decide +kernel
theorem dX11_pardons_6 : decode cX11_pardons 6 = .ok (.invokevirtual 120, 3) := by decide +kernel
theorem dX11_pardons_9 : decode cX11_pardons 9 = .ok (.ifCond .eq 22, 3) := by decide +kernel
theorem dX11_pardons_31 : decode cX11_pardons 31 = .ok (.iconst (-1), 1) := by decide +kernel
theorem dX11_pardons_32 : decode cX11_pardons 32 = .ok (.ireturn, 1) := by decide +kernel
set_option maxHeartbeats 400000 in
set_option maxRecDepth 100000 in
theorem t_pardons (l : Launch) (D : va_G) (cy : Nat → ClassId) (a0 : Nat) (w0 : Value) (w1 : Value) (w3 : Value) (w4 : Value) (w5 : Value) (w6 : Value) (w7 : Value) (w8 : Value) (w9 : Value) (w10 : Value) (w11 : Value) (w12 : Value) (w13 : Value) (h0 : Nat) (h1 : Nat) (v1 : Value) (v2 : Value) (v3 : Value) (v4 : Value) (v5 : Value) (v6 : Value) (v7 : Value) (v8 : Value) (v9 : Value) (v10 : Value) (v11 : Value) (v12 : Value) (v13 : Value) (v14 : Value) (v15 : Value) (ka : Int32) (kb : Int32)  : XMi l D (tyL cy) E0 yX11_pardons cX11_pardons 3 (some .int) (rmk 2 0 0) [.ref a0, .int ka, .int kb] [(a0, .inr (11, [w0, w1, .ref h0, w3, w4, w5, w6, w7, w8, w9, w10, w11, w12, w13])), (h0, .inr (4, [.ref h1, v1, v2, v3, v4, v5, v6, v7, v8, v9, v10, v11, v12, v13, v14, v15])), (h1, .inl (cy 1, 4, .inl (fun _ => 0)))] (fun (r : Int32) (_ : Unit) => r = -1) (fun (_ : Unit) => []) := by
  refine XMi.start (by decide) (Nat.le_of_ble_eq_true rfl) ?_
  intro p e s m below meth c args A ls Q hat hQ
  obtain ⟨hx, hb, hr, hml, hown, hg, hlocks, hin, hK, hA, hP, hD, hS, hE, hl⟩ := hat
  have hown : s.vm.findClass RX11 = some m.cls := hown
  have hl : lv_has ls 3 [(0, .ref a0), (1, .int ka), (2, .int kb)] := hl
  refine lv_aload_n hx hb dX11_pardons_0 rfl (lv_at hl 0 rfl) ?_
  refine va_get (D := D) (ci := 11) (v := .ref h0) (C := RX11) (T := TX11) (N := 14) hx hb hg i_X11 hown hK hP 0 rfl rfl 2 (by decide) (hg _ m_660) (fun _ h9 => h9) rfl dX11_pardons_1 ?_
  refine lv_iconst (v := 2) hx hb dX11_pardons_4 (by decide) ?_
  refine lv_iload_n hx hb dX11_pardons_5 rfl (lv_at hl 1 rfl) ?_
  refine x_callVi (q := (RX4, TX4, 16)) (ci := 4) (q0 := 0) (wr := [(a0, .inr (11, [w0, w1, .ref h0, w3, w4, w5, w6, w7, w8, w9, w10, w11, w12, w13]))]) (rest := []) ⟨hx, hb, hml, hown, hg, hl.1⟩ k_X11_120 (c_has l D cy h0 h1 v1 v2 v3 v4 v5 v6 v7 v8 v9 v10 v11 v12 v13 v14 v15 2 ka (by unfold vp_in; decide)) E0_blind hK hP hD hS hA [1, 2] [0] ⟨rfl, rfl, by decide, by decide, by decide⟩ rfl rfl (fun _ _ _ => trivial) dX11_pardons_6 rfl rfl (Nat.le_of_ble_eq_true rfl) ⟨Nat.le_of_ble_eq_true rfl, Nat.le_of_ble_eq_true rfl⟩ ⟨Nat.le_of_ble_eq_true rfl, Nat.le_of_ble_eq_true rfl⟩ (fun r1 u1 H locs hw1 hP hD hS => ?_)
  have hP : va_P D vwCl [(a0, .inr (11, [w0, w1, .ref h0, w3, w4, w5, w6, w7, w8, w9, w10, w11, w12, w13])), (h0, .inr (4, [.ref h1, v1, v2, v3, v4, v5, v6, v7, v8, v9, v10, v11, v12, v13, v14, v15])), (h1, .inl (cy 1, 4, .inl (fun _ => 0)))] H := hP
  have hD : va_D A [(a0, .inr (11, [w0, w1, .ref h0, w3, w4, w5, w6, w7, w8, w9, w10, w11, w12, w13])), (h0, .inr (4, [.ref h1, v1, v2, v3, v4, v5, v6, v7, v8, v9, v10, v11, v12, v13, v14, v15])), (h1, .inl (cy 1, 4, .inl (fun _ => 0)))] := hD
  refine W.widen (k := 0) (n := 0) (Nat.le_of_ble_eq_true rfl) (Nat.le_of_ble_eq_true rfl) ?_
  have hw1 : r1 = 0 := hw1
  subst hw1
  refine lv_if_eq (tgt := 31) hx hb dX11_pardons_9 (by decide) (fun _ => ?_) (fun h => absurd (by decide) h)
  refine lv_iconst (v := -1) hx hb dX11_pardons_31 (by decide) ?_
  exact x_iret hQ hx hb hr hlocks hK hP hD hS dX11_pardons_32 () (rfl) [] (by decide) rfl (Nat.le_of_ble_eq_true rfl) (Nat.le_of_ble_eq_true rfl)
theorem dX11_ahead_0 : decode cX11_ahead 0 = .ok (.aload_n 0, 1) := by decide +kernel
theorem dX11_ahead_1 : decode cX11_ahead 1 = .ok (.iconst 0, 1) := by decide +kernel
theorem dX11_ahead_2 : decode cX11_ahead 2 = .ok (.putfield 89, 3) := by decide +kernel
theorem dX11_ahead_5 : decode cX11_ahead 5 = .ok (.aload_n 0, 1) := by decide +kernel
theorem dX11_ahead_6 : decode cX11_ahead 6 = .ok (.getfield 28, 3) := by decide +kernel
theorem dX11_ahead_9 : decode cX11_ahead 9 = .ok (.iconst 2, 1) := by decide +kernel
theorem dX11_ahead_10 : decode cX11_ahead 10 = .ok (.iload_n 1, 1) := by decide +kernel
theorem dX11_ahead_11 : decode cX11_ahead 11 = .ok (.invokevirtual 120, 3) := by decide +kernel
theorem dX11_ahead_14 : decode cX11_ahead 14 = .ok (.ifCond .eq 22, 3) := by decide +kernel
theorem dX11_ahead_36 : decode cX11_ahead 36 = .ok (.iconst (-1), 1) := by decide +kernel
theorem dX11_ahead_37 : decode cX11_ahead 37 = .ok (.ireturn, 1) := by decide +kernel
set_option maxHeartbeats 400000 in
set_option maxRecDepth 100000 in
theorem t_ahead (l : Launch) (D : va_G) (cy : Nat → ClassId) (a0 : Nat) (w0 : Value) (w1 : Value) (w3 : Value) (w4 : Value) (w5 : Value) (w6 : Value) (w7 : Value) (w8 : Value) (w9 : Value) (w10 : Value) (w11 : Value) (w12 : Value) (w13 : Value) (h0 : Nat) (h1 : Nat) (v1 : Value) (v2 : Value) (v3 : Value) (v4 : Value) (v5 : Value) (v6 : Value) (v7 : Value) (v8 : Value) (v9 : Value) (v10 : Value) (v11 : Value) (v12 : Value) (v13 : Value) (v14 : Value) (v15 : Value) (ka : Int32) (kb : Int32) (kc : Int32)  : XMi l D (tyL cy) E0 yX11_ahead cX11_ahead 5 (some .int) (rmk 2 0 0) [.ref a0, .int ka, .int kb, .int kc] [(a0, .inr (11, [w0, w1, .ref h0, w3, w4, w5, w6, w7, w8, w9, w10, w11, w12, w13])), (h0, .inr (4, [.ref h1, v1, v2, v3, v4, v5, v6, v7, v8, v9, v10, v11, v12, v13, v14, v15])), (h1, .inl (cy 1, 4, .inl (fun _ => 0)))] (fun (r : Int32) (_ : Unit) => r = -1) (fun (_ : Unit) => []) := by
  refine XMi.start (by decide) (Nat.le_of_ble_eq_true rfl) ?_
  intro p e s m below meth c args A ls Q hat hQ
  obtain ⟨hx, hb, hr, hml, hown, hg, hlocks, hin, hK, hA, hP, hD, hS, hE, hl⟩ := hat
  have hown : s.vm.findClass RX11 = some m.cls := hown
  have hl : lv_has ls 5 [(0, .ref a0), (1, .int ka), (2, .int kb), (3, .int kc)] := hl
  refine lv_aload_n hx hb dX11_ahead_0 rfl (lv_at hl 0 rfl) ?_
  refine lv_iconst (v := 0) hx hb dX11_ahead_1 (by decide) ?_
  refine va_put (D := D) (ci := 11) (v := .int 0) (ty := .int) (C := RX11) (T := TX11) (N := 14) hx hb hg i_X11 tyX11 tyX11_ok nmX11 hown hK hP hD hS 0 rfl rfl 13 (by decide) (hg _ m_671) (fun _ h9 => h9) rfl (by decide +kernel) rfl rfl (Nat.le_of_ble_eq_true rfl) dX11_ahead_2 (fun H locs hP hD hS => ?_)
  have hP : va_P D vwCl [(a0, .inr (11, [w0, w1, .ref h0, w3, w4, w5, w6, w7, w8, w9, w10, w11, w12, .int 0])), (h0, .inr (4, [.ref h1, v1, v2, v3, v4, v5, v6, v7, v8, v9, v10, v11, v12, v13, v14, v15])), (h1, .inl (cy 1, 4, .inl (fun _ => 0)))] H := hP
  have hD : va_D A [(a0, .inr (11, [w0, w1, .ref h0, w3, w4, w5, w6, w7, w8, w9, w10, w11, w12, .int 0])), (h0, .inr (4, [.ref h1, v1, v2, v3, v4, v5, v6, v7, v8, v9, v10, v11, v12, v13, v14, v15])), (h1, .inl (cy 1, 4, .inl (fun _ => 0)))] := hD
  refine lv_aload_n hx hb dX11_ahead_5 rfl (lv_at hl 0 rfl) ?_
  refine va_get (D := D) (ci := 11) (v := .ref h0) (C := RX11) (T := TX11) (N := 14) hx hb hg i_X11 hown hK hP 0 rfl rfl 2 (by decide) (hg _ m_660) (fun _ h9 => h9) rfl dX11_ahead_6 ?_
  refine lv_iconst (v := 2) hx hb dX11_ahead_9 (by decide) ?_
  refine lv_iload_n hx hb dX11_ahead_10 rfl (lv_at hl 1 rfl) ?_
  refine x_callVi (q := (RX4, TX4, 16)) (ci := 4) (q0 := 0) (wr := [(a0, .inr (11, [w0, w1, .ref h0, w3, w4, w5, w6, w7, w8, w9, w10, w11, w12, .int 0]))]) (rest := []) ⟨hx, hb, hml, hown, hg, hl.1⟩ k_X11_120 (c_has l D cy h0 h1 v1 v2 v3 v4 v5 v6 v7 v8 v9 v10 v11 v12 v13 v14 v15 2 ka (by unfold vp_in; decide)) E0_blind hK hP hD hS hA [1, 2] [0] ⟨rfl, rfl, by decide, by decide, by decide⟩ rfl rfl (fun _ _ _ => trivial) dX11_ahead_11 rfl rfl (Nat.le_of_ble_eq_true rfl) ⟨Nat.le_of_ble_eq_true rfl, Nat.le_of_ble_eq_true rfl⟩ ⟨Nat.le_of_ble_eq_true rfl, Nat.le_of_ble_eq_true rfl⟩ (fun r1 u1 H locs hw1 hP hD hS => ?_)
  have hP : va_P D vwCl [(a0, .inr (11, [w0, w1, .ref h0, w3, w4, w5, w6, w7, w8, w9, w10, w11, w12, .int 0])), (h0, .inr (4, [.ref h1, v1, v2, v3, v4, v5, v6, v7, v8, v9, v10, v11, v12, v13, v14, v15])), (h1, .inl (cy 1, 4, .inl (fun _ => 0)))] H := hP
  have hD : va_D A [(a0, .inr (11, [w0, w1, .ref h0, w3, w4, w5, w6, w7, w8, w9, w10, w11, w12, .int 0])), (h0, .inr (4, [.ref h1, v1, v2, v3, v4, v5, v6, v7, v8, v9, v10, v11, v12, v13, v14, v15])), (h1, .inl (cy 1, 4, .inl (fun _ => 0)))] := hD
  refine W.widen (k := 0) (n := 0) (Nat.le_of_ble_eq_true rfl) (Nat.le_of_ble_eq_true rfl) ?_
  have hw1 : r1 = 0 := hw1
  subst hw1
  refine lv_if_eq (tgt := 36) hx hb dX11_ahead_14 (by decide) (fun _ => ?_) (fun h => absurd (by decide) h)
  refine lv_iconst (v := -1) hx hb dX11_ahead_36 (by decide) ?_
  exact x_iret hQ hx hb hr hlocks hK hP hD hS dX11_ahead_37 () (rfl) [] (by decide) rfl (Nat.le_of_ble_eq_true rfl) (Nat.le_of_ble_eq_true rfl)
theorem dX11_clears_0 : decode cX11_clears 0 = .ok (.aload_n 0, 1) := by decide +kernel
theorem dX11_clears_1 : decode cX11_clears 1 = .ok (.getfield 28, 3) := by decide +kernel
theorem dX11_clears_4 : decode cX11_clears 4 = .ok (.iconst 2, 1) := by decide +kernel
theorem dX11_clears_5 : decode cX11_clears 5 = .ok (.iload_n 1, 1) := by decide +kernel
theorem dX11_clears_6 : decode cX11_clears 6 = .ok (.invokevirtual 120, 3) := by decide +kernel
theorem dX11_clears_9 : decode cX11_clears 9 = .ok (.ifCond .eq 12, 3) := by decide +kernel
theorem dX11_clears_21 : decode cX11_clears 21 = .ok (.iconst (-1), 1) := by decide +kernel
theorem dX11_clears_22 : decode cX11_clears 22 = .ok (.ireturn, 1) := by decide +kernel
set_option maxHeartbeats 400000 in
set_option maxRecDepth 100000 in
theorem t_clears (l : Launch) (D : va_G) (cy : Nat → ClassId) (a0 : Nat) (w0 : Value) (w1 : Value) (w3 : Value) (w4 : Value) (w5 : Value) (w6 : Value) (w7 : Value) (w8 : Value) (w9 : Value) (w10 : Value) (w11 : Value) (w12 : Value) (w13 : Value) (h0 : Nat) (h1 : Nat) (v1 : Value) (v2 : Value) (v3 : Value) (v4 : Value) (v5 : Value) (v6 : Value) (v7 : Value) (v8 : Value) (v9 : Value) (v10 : Value) (v11 : Value) (v12 : Value) (v13 : Value) (v14 : Value) (v15 : Value) (ka : Int32) (kb : Int32)  : XMi l D (tyL cy) E0 yX11_clears cX11_clears 6 (some .int) (rmk 2 0 0) [.ref a0, .int ka, .int kb] [(a0, .inr (11, [w0, w1, .ref h0, w3, w4, w5, w6, w7, w8, w9, w10, w11, w12, w13])), (h0, .inr (4, [.ref h1, v1, v2, v3, v4, v5, v6, v7, v8, v9, v10, v11, v12, v13, v14, v15])), (h1, .inl (cy 1, 4, .inl (fun _ => 0)))] (fun (r : Int32) (_ : Unit) => r = -1) (fun (_ : Unit) => []) := by
  refine XMi.start (by decide) (Nat.le_of_ble_eq_true rfl) ?_
  intro p e s m below meth c args A ls Q hat hQ
  obtain ⟨hx, hb, hr, hml, hown, hg, hlocks, hin, hK, hA, hP, hD, hS, hE, hl⟩ := hat
  have hown : s.vm.findClass RX11 = some m.cls := hown
  have hl : lv_has ls 6 [(0, .ref a0), (1, .int ka), (2, .int kb)] := hl
  refine lv_aload_n hx hb dX11_clears_0 rfl (lv_at hl 0 rfl) ?_
  refine va_get (D := D) (ci := 11) (v := .ref h0) (C := RX11) (T := TX11) (N := 14) hx hb hg i_X11 hown hK hP 0 rfl rfl 2 (by decide) (hg _ m_660) (fun _ h9 => h9) rfl dX11_clears_1 ?_
  refine lv_iconst (v := 2) hx hb dX11_clears_4 (by decide) ?_
  refine lv_iload_n hx hb dX11_clears_5 rfl (lv_at hl 1 rfl) ?_
  refine x_callVi (q := (RX4, TX4, 16)) (ci := 4) (q0 := 0) (wr := [(a0, .inr (11, [w0, w1, .ref h0, w3, w4, w5, w6, w7, w8, w9, w10, w11, w12, w13]))]) (rest := []) ⟨hx, hb, hml, hown, hg, hl.1⟩ k_X11_120 (c_has l D cy h0 h1 v1 v2 v3 v4 v5 v6 v7 v8 v9 v10 v11 v12 v13 v14 v15 2 ka (by unfold vp_in; decide)) E0_blind hK hP hD hS hA [1, 2] [0] ⟨rfl, rfl, by decide, by decide, by decide⟩ rfl rfl (fun _ _ _ => trivial) dX11_clears_6 rfl rfl (Nat.le_of_ble_eq_true rfl) ⟨Nat.le_of_ble_eq_true rfl, Nat.le_of_ble_eq_true rfl⟩ ⟨Nat.le_of_ble_eq_true rfl, Nat.le_of_ble_eq_true rfl⟩ (fun r1 u1 H locs hw1 hP hD hS => ?_)
  have hP : va_P D vwCl [(a0, .inr (11, [w0, w1, .ref h0, w3, w4, w5, w6, w7, w8, w9, w10, w11, w12, w13])), (h0, .inr (4, [.ref h1, v1, v2, v3, v4, v5, v6, v7, v8, v9, v10, v11, v12, v13, v14, v15])), (h1, .inl (cy 1, 4, .inl (fun _ => 0)))] H := hP
  have hD : va_D A [(a0, .inr (11, [w0, w1, .ref h0, w3, w4, w5, w6, w7, w8, w9, w10, w11, w12, w13])), (h0, .inr (4, [.ref h1, v1, v2, v3, v4, v5, v6, v7, v8, v9, v10, v11, v12, v13, v14, v15])), (h1, .inl (cy 1, 4, .inl (fun _ => 0)))] := hD
  refine W.widen (k := 0) (n := 0) (Nat.le_of_ble_eq_true rfl) (Nat.le_of_ble_eq_true rfl) ?_
  have hw1 : r1 = 0 := hw1
  subst hw1
  refine lv_if_eq (tgt := 21) hx hb dX11_clears_9 (by decide) (fun _ => ?_) (fun h => absurd (by decide) h)
  refine lv_iconst (v := -1) hx hb dX11_clears_21 (by decide) ?_
  exact x_iret hQ hx hb hr hlocks hK hP hD hS dX11_clears_22 () (rfl) [] (by decide) rfl (Nat.le_of_ble_eq_true rfl) (Nat.le_of_ble_eq_true rfl)
theorem dX11_rhyme_0 : decode cX11_rhyme 0 = .ok (.aload_n 0, 1) := by decide +kernel
theorem dX11_rhyme_1 : decode cX11_rhyme 1 = .ok (.iconst 0, 1) := by decide +kernel
theorem dX11_rhyme_2 : decode cX11_rhyme 2 = .ok (.putfield 89, 3) := by decide +kernel
theorem dX11_rhyme_5 : decode cX11_rhyme 5 = .ok (.aload_n 0, 1) := by decide +kernel
theorem dX11_rhyme_6 : decode cX11_rhyme 6 = .ok (.getfield 28, 3) := by decide +kernel
theorem dX11_rhyme_9 : decode cX11_rhyme 9 = .ok (.iconst 2, 1) := by decide +kernel
theorem dX11_rhyme_10 : decode cX11_rhyme 10 = .ok (.iload_n 1, 1) := by decide +kernel
theorem dX11_rhyme_11 : decode cX11_rhyme 11 = .ok (.invokevirtual 120, 3) := by decide +kernel
theorem dX11_rhyme_14 : decode cX11_rhyme 14 = .ok (.ifCond .ne 5, 3) := by decide +kernel
theorem dX11_rhyme_17 : decode cX11_rhyme 17 = .ok (.iconst (-1), 1) := by decide +kernel
theorem dX11_rhyme_18 : decode cX11_rhyme 18 = .ok (.ireturn, 1) := by decide +kernel
set_option maxHeartbeats 400000 in
set_option maxRecDepth 100000 in
theorem t_rhyme (l : Launch) (D : va_G) (cy : Nat → ClassId) (a0 : Nat) (w0 : Value) (w1 : Value) (w3 : Value) (w4 : Value) (w5 : Value) (w6 : Value) (w7 : Value) (w8 : Value) (w9 : Value) (w10 : Value) (w11 : Value) (w12 : Value) (w13 : Value) (h0 : Nat) (h1 : Nat) (v1 : Value) (v2 : Value) (v3 : Value) (v4 : Value) (v5 : Value) (v6 : Value) (v7 : Value) (v8 : Value) (v9 : Value) (v10 : Value) (v11 : Value) (v12 : Value) (v13 : Value) (v14 : Value) (v15 : Value) (ka : Int32)  : XMi l D (tyL cy) E0 yX11_rhyme cX11_rhyme 3 (some .int) (rmk 2 0 0) [.ref a0, .int ka] [(a0, .inr (11, [w0, w1, .ref h0, w3, w4, w5, w6, w7, w8, w9, w10, w11, w12, w13])), (h0, .inr (4, [.ref h1, v1, v2, v3, v4, v5, v6, v7, v8, v9, v10, v11, v12, v13, v14, v15])), (h1, .inl (cy 1, 4, .inl (fun _ => 0)))] (fun (r : Int32) (_ : Unit) => r = -1) (fun (_ : Unit) => []) := by
  refine XMi.start (by decide) (Nat.le_of_ble_eq_true rfl) ?_
  intro p e s m below meth c args A ls Q hat hQ
  obtain ⟨hx, hb, hr, hml, hown, hg, hlocks, hin, hK, hA, hP, hD, hS, hE, hl⟩ := hat
  have hown : s.vm.findClass RX11 = some m.cls := hown
  have hl : lv_has ls 3 [(0, .ref a0), (1, .int ka)] := hl
  refine lv_aload_n hx hb dX11_rhyme_0 rfl (lv_at hl 0 rfl) ?_
  refine lv_iconst (v := 0) hx hb dX11_rhyme_1 (by decide) ?_
  refine va_put (D := D) (ci := 11) (v := .int 0) (ty := .int) (C := RX11) (T := TX11) (N := 14) hx hb hg i_X11 tyX11 tyX11_ok nmX11 hown hK hP hD hS 0 rfl rfl 13 (by decide) (hg _ m_671) (fun _ h9 => h9) rfl (by decide +kernel) rfl rfl (Nat.le_of_ble_eq_true rfl) dX11_rhyme_2 (fun H locs hP hD hS => ?_)
  have hP : va_P D vwCl [(a0, .inr (11, [w0, w1, .ref h0, w3, w4, w5, w6, w7, w8, w9, w10, w11, w12, .int 0])), (h0, .inr (4, [.ref h1, v1, v2, v3, v4, v5, v6, v7, v8, v9, v10, v11, v12, v13, v14, v15])), (h1, .inl (cy 1, 4, .inl (fun _ => 0)))] H := hP
  have hD : va_D A [(a0, .inr (11, [w0, w1, .ref h0, w3, w4, w5, w6, w7, w8, w9, w10, w11, w12, .int 0])), (h0, .inr (4, [.ref h1, v1, v2, v3, v4, v5, v6, v7, v8, v9, v10, v11, v12, v13, v14, v15])), (h1, .inl (cy 1, 4, .inl (fun _ => 0)))] := hD
  refine lv_aload_n hx hb dX11_rhyme_5 rfl (lv_at hl 0 rfl) ?_
  refine va_get (D := D) (ci := 11) (v := .ref h0) (C := RX11) (T := TX11) (N := 14) hx hb hg i_X11 hown hK hP 0 rfl rfl 2 (by decide) (hg _ m_660) (fun _ h9 => h9) rfl dX11_rhyme_6 ?_
  refine lv_iconst (v := 2) hx hb dX11_rhyme_9 (by decide) ?_
  refine lv_iload_n hx hb dX11_rhyme_10 rfl (lv_at hl 1 rfl) ?_
  refine x_callVi (q := (RX4, TX4, 16)) (ci := 4) (q0 := 0) (wr := [(a0, .inr (11, [w0, w1, .ref h0, w3, w4, w5, w6, w7, w8, w9, w10, w11, w12, .int 0]))]) (rest := []) ⟨hx, hb, hml, hown, hg, hl.1⟩ k_X11_120 (c_has l D cy h0 h1 v1 v2 v3 v4 v5 v6 v7 v8 v9 v10 v11 v12 v13 v14 v15 2 ka (by unfold vp_in; decide)) E0_blind hK hP hD hS hA [1, 2] [0] ⟨rfl, rfl, by decide, by decide, by decide⟩ rfl rfl (fun _ _ _ => trivial) dX11_rhyme_11 rfl rfl (Nat.le_of_ble_eq_true rfl) ⟨Nat.le_of_ble_eq_true rfl, Nat.le_of_ble_eq_true rfl⟩ ⟨Nat.le_of_ble_eq_true rfl, Nat.le_of_ble_eq_true rfl⟩ (fun r1 u1 H locs hw1 hP hD hS => ?_)
  have hP : va_P D vwCl [(a0, .inr (11, [w0, w1, .ref h0, w3, w4, w5, w6, w7, w8, w9, w10, w11, w12, .int 0])), (h0, .inr (4, [.ref h1, v1, v2, v3, v4, v5, v6, v7, v8, v9, v10, v11, v12, v13, v14, v15])), (h1, .inl (cy 1, 4, .inl (fun _ => 0)))] H := hP
  have hD : va_D A [(a0, .inr (11, [w0, w1, .ref h0, w3, w4, w5, w6, w7, w8, w9, w10, w11, w12, .int 0])), (h0, .inr (4, [.ref h1, v1, v2, v3, v4, v5, v6, v7, v8, v9, v10, v11, v12, v13, v14, v15])), (h1, .inl (cy 1, 4, .inl (fun _ => 0)))] := hD
  refine W.widen (k := 0) (n := 0) (Nat.le_of_ble_eq_true rfl) (Nat.le_of_ble_eq_true rfl) ?_
  have hw1 : r1 = 0 := hw1
  subst hw1
  refine lv_if_ne (tgt := 19) hx hb dX11_rhyme_14 (by decide) (fun h => absurd (by decide) h) (fun _ => ?_)
  refine lv_iconst (v := -1) hx hb dX11_rhyme_17 (by decide) ?_
  exact x_iret hQ hx hb hr hlocks hK hP hD hS dX11_rhyme_18 () (rfl) [] (by decide) rfl (Nat.le_of_ble_eq_true rfl) (Nat.le_of_ble_eq_true rfl)
theorem dX11_joined_0 : decode cX11_joined 0 = .ok (.aload_n 0, 1) := by decide +kernel
theorem dX11_joined_1 : decode cX11_joined 1 = .ok (.getfield 28, 3) := by decide +kernel
theorem dX11_joined_4 : decode cX11_joined 4 = .ok (.iconst 2, 1) := by decide +kernel
theorem dX11_joined_5 : decode cX11_joined 5 = .ok (.iload_n 1, 1) := by decide +kernel
theorem dX11_joined_6 : decode cX11_joined 6 = .ok (.invokevirtual 120, 3) := by decide +kernel
theorem dX11_joined_9 : decode cX11_joined 9 = .ok (.ifCond .eq 20, 3) := by decide +kernel
theorem dX11_joined_29 : decode cX11_joined 29 = .ok (.iconst (-1), 1) := by decide +kernel
theorem dX11_joined_30 : decode cX11_joined 30 = .ok (.ireturn, 1) := by decide +kernel
set_option maxHeartbeats 400000 in
set_option maxRecDepth 100000 in
theorem t_joined (l : Launch) (D : va_G) (cy : Nat → ClassId) (a0 : Nat) (w0 : Value) (w1 : Value) (w3 : Value) (w4 : Value) (w5 : Value) (w6 : Value) (w7 : Value) (w8 : Value) (w9 : Value) (w10 : Value) (w11 : Value) (w12 : Value) (w13 : Value) (h0 : Nat) (h1 : Nat) (v1 : Value) (v2 : Value) (v3 : Value) (v4 : Value) (v5 : Value) (v6 : Value) (v7 : Value) (v8 : Value) (v9 : Value) (v10 : Value) (v11 : Value) (v12 : Value) (v13 : Value) (v14 : Value) (v15 : Value) (ka : Int32) (kb : Int32)  : XMi l D (tyL cy) E0 yX11_joined cX11_joined 3 (some .int) (rmk 2 0 0) [.ref a0, .int ka, .int kb] [(a0, .inr (11, [w0, w1, .ref h0, w3, w4, w5, w6, w7, w8, w9, w10, w11, w12, w13])), (h0, .inr (4, [.ref h1, v1, v2, v3, v4, v5, v6, v7, v8, v9, v10, v11, v12, v13, v14, v15])), (h1, .inl (cy 1, 4, .inl (fun _ => 0)))] (fun (r : Int32) (_ : Unit) => r = -1) (fun (_ : Unit) => []) := by
  refine XMi.start (by decide) (Nat.le_of_ble_eq_true rfl) ?_
  intro p e s m below meth c args A ls Q hat hQ
  obtain ⟨hx, hb, hr, hml, hown, hg, hlocks, hin, hK, hA, hP, hD, hS, hE, hl⟩ := hat
  have hown : s.vm.findClass RX11 = some m.cls := hown
  have hl : lv_has ls 3 [(0, .ref a0), (1, .int ka), (2, .int kb)] := hl
  refine lv_aload_n hx hb dX11_joined_0 rfl (lv_at hl 0 rfl) ?_
  refine va_get (D := D) (ci := 11) (v := .ref h0) (C := RX11) (T := TX11) (N := 14) hx hb hg i_X11 hown hK hP 0 rfl rfl 2 (by decide) (hg _ m_660) (fun _ h9 => h9) rfl dX11_joined_1 ?_
  refine lv_iconst (v := 2) hx hb dX11_joined_4 (by decide) ?_
  refine lv_iload_n hx hb dX11_joined_5 rfl (lv_at hl 1 rfl) ?_
  refine x_callVi (q := (RX4, TX4, 16)) (ci := 4) (q0 := 0) (wr := [(a0, .inr (11, [w0, w1, .ref h0, w3, w4, w5, w6, w7, w8, w9, w10, w11, w12, w13]))]) (rest := []) ⟨hx, hb, hml, hown, hg, hl.1⟩ k_X11_120 (c_has l D cy h0 h1 v1 v2 v3 v4 v5 v6 v7 v8 v9 v10 v11 v12 v13 v14 v15 2 ka (by unfold vp_in; decide)) E0_blind hK hP hD hS hA [1, 2] [0] ⟨rfl, rfl, by decide, by decide, by decide⟩ rfl rfl (fun _ _ _ => trivial) dX11_joined_6 rfl rfl (Nat.le_of_ble_eq_true rfl) ⟨Nat.le_of_ble_eq_true rfl, Nat.le_of_ble_eq_true rfl⟩ ⟨Nat.le_of_ble_eq_true rfl, Nat.le_of_ble_eq_true rfl⟩ (fun r1 u1 H locs hw1 hP hD hS => ?_)
  have hP : va_P D vwCl [(a0, .inr (11, [w0, w1, .ref h0, w3, w4, w5, w6, w7, w8, w9, w10, w11, w12, w13])), (h0, .inr (4, [.ref h1, v1, v2, v3, v4, v5, v6, v7, v8, v9, v10, v11, v12, v13, v14, v15])), (h1, .inl (cy 1, 4, .inl (fun _ => 0)))] H := hP
  have hD : va_D A [(a0, .inr (11, [w0, w1, .ref h0, w3, w4, w5, w6, w7, w8, w9, w10, w11, w12, w13])), (h0, .inr (4, [.ref h1, v1, v2, v3, v4, v5, v6, v7, v8, v9, v10, v11, v12, v13, v14, v15])), (h1, .inl (cy 1, 4, .inl (fun _ => 0)))] := hD
  refine W.widen (k := 0) (n := 0) (Nat.le_of_ble_eq_true rfl) (Nat.le_of_ble_eq_true rfl) ?_
  have hw1 : r1 = 0 := hw1
  subst hw1
  refine lv_if_eq (tgt := 29) hx hb dX11_joined_9 (by decide) (fun _ => ?_) (fun h => absurd (by decide) h)
  refine lv_iconst (v := -1) hx hb dX11_joined_29 (by decide) ?_
  exact x_iret hQ hx hb hr hlocks hK hP hD hS dX11_joined_30 () (rfl) [] (by decide) rfl (Nat.le_of_ble_eq_true rfl) (Nat.le_of_ble_eq_true rfl)
theorem dX11_luck_0 : decode cX11_luck 0 = .ok (.aload_n 0, 1) := by decide +kernel
theorem dX11_luck_1 : decode cX11_luck 1 = .ok (.getfield 28, 3) := by decide +kernel
theorem dX11_luck_4 : decode cX11_luck 4 = .ok (.iconst 2, 1) := by decide +kernel
theorem dX11_luck_5 : decode cX11_luck 5 = .ok (.iload_n 1, 1) := by decide +kernel
theorem dX11_luck_6 : decode cX11_luck 6 = .ok (.invokevirtual 120, 3) := by decide +kernel
theorem dX11_luck_9 : decode cX11_luck 9 = .ok (.ifCond .ne 5, 3) := by decide +kernel
theorem dX11_luck_12 : decode cX11_luck 12 = .ok (.iconst (-1), 1) := by decide +kernel
theorem dX11_luck_13 : decode cX11_luck 13 = .ok (.ireturn, 1) := by decide +kernel
set_option maxHeartbeats 400000 in
set_option maxRecDepth 100000 in
theorem t_luck (l : Launch) (D : va_G) (cy : Nat → ClassId) (a0 : Nat) (w0 : Value) (w1 : Value) (w3 : Value) (w4 : Value) (w5 : Value) (w6 : Value) (w7 : Value) (w8 : Value) (w9 : Value) (w10 : Value) (w11 : Value) (w12 : Value) (w13 : Value) (h0 : Nat) (h1 : Nat) (v1 : Value) (v2 : Value) (v3 : Value) (v4 : Value) (v5 : Value) (v6 : Value) (v7 : Value) (v8 : Value) (v9 : Value) (v10 : Value) (v11 : Value) (v12 : Value) (v13 : Value) (v14 : Value) (v15 : Value) (ka : Int32)  : XMi l D (tyL cy) E0 yX11_luck cX11_luck 4 (some .int) (rmk 2 0 0) [.ref a0, .int ka] [(a0, .inr (11, [w0, w1, .ref h0, w3, w4, w5, w6, w7, w8, w9, w10, w11, w12, w13])), (h0, .inr (4, [.ref h1, v1, v2, v3, v4, v5, v6, v7, v8, v9, v10, v11, v12, v13, v14, v15])), (h1, .inl (cy 1, 4, .inl (fun _ => 0)))] (fun (r : Int32) (_ : Unit) => r = -1) (fun (_ : Unit) => []) := by
  refine XMi.start (by decide) (Nat.le_of_ble_eq_true rfl) ?_
  intro p e s m below meth c args A ls Q hat hQ
  obtain ⟨hx, hb, hr, hml, hown, hg, hlocks, hin, hK, hA, hP, hD, hS, hE, hl⟩ := hat
  have hown : s.vm.findClass RX11 = some m.cls := hown
  have hl : lv_has ls 4 [(0, .ref a0), (1, .int ka)] := hl
  refine lv_aload_n hx hb dX11_luck_0 rfl (lv_at hl 0 rfl) ?_
  refine va_get (D := D) (ci := 11) (v := .ref h0) (C := RX11) (T := TX11) (N := 14) hx hb hg i_X11 hown hK hP 0 rfl rfl 2 (by decide) (hg _ m_660) (fun _ h9 => h9) rfl dX11_luck_1 ?_
  refine lv_iconst (v := 2) hx hb dX11_luck_4 (by decide) ?_
  refine lv_iload_n hx hb dX11_luck_5 rfl (lv_at hl 1 rfl) ?_
  refine x_callVi (q := (RX4, TX4, 16)) (ci := 4) (q0 := 0) (wr := [(a0, .inr (11, [w0, w1, .ref h0, w3, w4, w5, w6, w7, w8, w9, w10, w11, w12, w13]))]) (rest := []) ⟨hx, hb, hml, hown, hg, hl.1⟩ k_X11_120 (c_has l D cy h0 h1 v1 v2 v3 v4 v5 v6 v7 v8 v9 v10 v11 v12 v13 v14 v15 2 ka (by unfold vp_in; decide)) E0_blind hK hP hD hS hA [1, 2] [0] ⟨rfl, rfl, by decide, by decide, by decide⟩ rfl rfl (fun _ _ _ => trivial) dX11_luck_6 rfl rfl (Nat.le_of_ble_eq_true rfl) ⟨Nat.le_of_ble_eq_true rfl, Nat.le_of_ble_eq_true rfl⟩ ⟨Nat.le_of_ble_eq_true rfl, Nat.le_of_ble_eq_true rfl⟩ (fun r1 u1 H locs hw1 hP hD hS => ?_)
  have hP : va_P D vwCl [(a0, .inr (11, [w0, w1, .ref h0, w3, w4, w5, w6, w7, w8, w9, w10, w11, w12, w13])), (h0, .inr (4, [.ref h1, v1, v2, v3, v4, v5, v6, v7, v8, v9, v10, v11, v12, v13, v14, v15])), (h1, .inl (cy 1, 4, .inl (fun _ => 0)))] H := hP
  have hD : va_D A [(a0, .inr (11, [w0, w1, .ref h0, w3, w4, w5, w6, w7, w8, w9, w10, w11, w12, w13])), (h0, .inr (4, [.ref h1, v1, v2, v3, v4, v5, v6, v7, v8, v9, v10, v11, v12, v13, v14, v15])), (h1, .inl (cy 1, 4, .inl (fun _ => 0)))] := hD
  refine W.widen (k := 0) (n := 0) (Nat.le_of_ble_eq_true rfl) (Nat.le_of_ble_eq_true rfl) ?_
  have hw1 : r1 = 0 := hw1
  subst hw1
  refine lv_if_ne (tgt := 14) hx hb dX11_luck_9 (by decide) (fun h => absurd (by decide) h) (fun _ => ?_)
  refine lv_iconst (v := -1) hx hb dX11_luck_12 (by decide) ?_
  exact x_iret hQ hx hb hr hlocks hK hP hD hS dX11_luck_13 () (rfl) [] (by decide) rfl (Nat.le_of_ble_eq_true rfl) (Nat.le_of_ble_eq_true rfl)
theorem dX11_winds_0 : decode cX11_winds 0 = .ok (.aload_n 0, 1) := by decide +kernel
theorem dX11_winds_1 : decode cX11_winds 1 = .ok (.getfield 28, 3) := by decide +kernel
theorem dX11_winds_4 : decode cX11_winds 4 = .ok (.iconst 2, 1) := by decide +kernel
theorem dX11_winds_5 : decode cX11_winds 5 = .ok (.iload_n 1, 1) := by decide +kernel
theorem dX11_winds_6 : decode cX11_winds 6 = .ok (.invokevirtual 120, 3) := by decide +kernel
theorem dX11_winds_9 : decode cX11_winds 9 = .ok (.ifCond .ne 5, 3) := by decide +kernel
theorem dX11_winds_12 : decode cX11_winds 12 = .ok (.iconst (-1), 1) := by decide +kernel
theorem dX11_winds_13 : decode cX11_winds 13 = .ok (.ireturn, 1) := by decide +kernel
set_option maxHeartbeats 400000 in
set_option maxRecDepth 100000 in
theorem t_winds (l : Launch) (D : va_G) (cy : Nat → ClassId) (a0 : Nat) (w0 : Value) (w1 : Value) (w3 : Value) (w4 : Value) (w5 : Value) (w6 : Value) (w7 : Value) (w8 : Value) (w9 : Value) (w10 : Value) (w11 : Value) (w12 : Value) (w13 : Value) (h0 : Nat) (h1 : Nat) (v1 : Value) (v2 : Value) (v3 : Value) (v4 : Value) (v5 : Value) (v6 : Value) (v7 : Value) (v8 : Value) (v9 : Value) (v10 : Value) (v11 : Value) (v12 : Value) (v13 : Value) (v14 : Value) (v15 : Value) (ka : Int32)  : XMi l D (tyL cy) E0 yX11_winds cX11_winds 4 (some .int) (rmk 2 0 0) [.ref a0, .int ka] [(a0, .inr (11, [w0, w1, .ref h0, w3, w4, w5, w6, w7, w8, w9, w10, w11, w12, w13])), (h0, .inr (4, [.ref h1, v1, v2, v3, v4, v5, v6, v7, v8, v9, v10, v11, v12, v13, v14, v15])), (h1, .inl (cy 1, 4, .inl (fun _ => 0)))] (fun (r : Int32) (_ : Unit) => r = -1) (fun (_ : Unit) => []) := by
  refine XMi.start (by decide) (Nat.le_of_ble_eq_true rfl) ?_
  intro p e s m below meth c args A ls Q hat hQ
  obtain ⟨hx, hb, hr, hml, hown, hg, hlocks, hin, hK, hA, hP, hD, hS, hE, hl⟩ := hat
  have hown : s.vm.findClass RX11 = some m.cls := hown
  have hl : lv_has ls 4 [(0, .ref a0), (1, .int ka)] := hl
  refine lv_aload_n hx hb dX11_winds_0 rfl (lv_at hl 0 rfl) ?_
  refine va_get (D := D) (ci := 11) (v := .ref h0) (C := RX11) (T := TX11) (N := 14) hx hb hg i_X11 hown hK hP 0 rfl rfl 2 (by decide) (hg _ m_660) (fun _ h9 => h9) rfl dX11_winds_1 ?_
  refine lv_iconst (v := 2) hx hb dX11_winds_4 (by decide) ?_
  refine lv_iload_n hx hb dX11_winds_5 rfl (lv_at hl 1 rfl) ?_
  refine x_callVi (q := (RX4, TX4, 16)) (ci := 4) (q0 := 0) (wr := [(a0, .inr (11, [w0, w1, .ref h0, w3, w4, w5, w6, w7, w8, w9, w10, w11, w12, w13]))]) (rest := []) ⟨hx, hb, hml, hown, hg, hl.1⟩ k_X11_120 (c_has l D cy h0 h1 v1 v2 v3 v4 v5 v6 v7 v8 v9 v10 v11 v12 v13 v14 v15 2 ka (by unfold vp_in; decide)) E0_blind hK hP hD hS hA [1, 2] [0] ⟨rfl, rfl, by decide, by decide, by decide⟩ rfl rfl (fun _ _ _ => trivial) dX11_winds_6 rfl rfl (Nat.le_of_ble_eq_true rfl) ⟨Nat.le_of_ble_eq_true rfl, Nat.le_of_ble_eq_true rfl⟩ ⟨Nat.le_of_ble_eq_true rfl, Nat.le_of_ble_eq_true rfl⟩ (fun r1 u1 H locs hw1 hP hD hS => ?_)
  have hP : va_P D vwCl [(a0, .inr (11, [w0, w1, .ref h0, w3, w4, w5, w6, w7, w8, w9, w10, w11, w12, w13])), (h0, .inr (4, [.ref h1, v1, v2, v3, v4, v5, v6, v7, v8, v9, v10, v11, v12, v13, v14, v15])), (h1, .inl (cy 1, 4, .inl (fun _ => 0)))] H := hP
  have hD : va_D A [(a0, .inr (11, [w0, w1, .ref h0, w3, w4, w5, w6, w7, w8, w9, w10, w11, w12, w13])), (h0, .inr (4, [.ref h1, v1, v2, v3, v4, v5, v6, v7, v8, v9, v10, v11, v12, v13, v14, v15])), (h1, .inl (cy 1, 4, .inl (fun _ => 0)))] := hD
  refine W.widen (k := 0) (n := 0) (Nat.le_of_ble_eq_true rfl) (Nat.le_of_ble_eq_true rfl) ?_
  have hw1 : r1 = 0 := hw1
  subst hw1
  refine lv_if_ne (tgt := 14) hx hb dX11_winds_9 (by decide) (fun h => absurd (by decide) h) (fun _ => ?_)
  refine lv_iconst (v := -1) hx hb dX11_winds_12 (by decide) ?_
  exact x_iret hQ hx hb hr hlocks hK hP hD hS dX11_winds_13 () (rfl) [] (by decide) rfl (Nat.le_of_ble_eq_true rfl) (Nat.le_of_ble_eq_true rfl)
theorem dX11_more_0 : decode cX11_more 0 = .ok (.aload_n 0, 1) := by decide +kernel
theorem dX11_more_1 : decode cX11_more 1 = .ok (.getfield 28, 3) := by decide +kernel
theorem dX11_more_4 : decode cX11_more 4 = .ok (.iconst 2, 1) := by decide +kernel
theorem dX11_more_5 : decode cX11_more 5 = .ok (.iload_n 1, 1) := by decide +kernel
theorem dX11_more_6 : decode cX11_more 6 = .ok (.invokevirtual 120, 3) := by decide +kernel
theorem dX11_more_9 : decode cX11_more 9 = .ok (.ifCond .ne 5, 3) := by decide +kernel
theorem dX11_more_12 : decode cX11_more 12 = .ok (.iconst (-1), 1) := by decide +kernel
theorem dX11_more_13 : decode cX11_more 13 = .ok (.ireturn, 1) := by decide +kernel
set_option maxHeartbeats 400000 in
set_option maxRecDepth 100000 in
theorem t_more (l : Launch) (D : va_G) (cy : Nat → ClassId) (a0 : Nat) (w0 : Value) (w1 : Value) (w3 : Value) (w4 : Value) (w5 : Value) (w6 : Value) (w7 : Value) (w8 : Value) (w9 : Value) (w10 : Value) (w11 : Value) (w12 : Value) (w13 : Value) (h0 : Nat) (h1 : Nat) (v1 : Value) (v2 : Value) (v3 : Value) (v4 : Value) (v5 : Value) (v6 : Value) (v7 : Value) (v8 : Value) (v9 : Value) (v10 : Value) (v11 : Value) (v12 : Value) (v13 : Value) (v14 : Value) (v15 : Value) (ka : Int32)  : XMi l D (tyL cy) E0 yX11_more cX11_more 5 (some .int) (rmk 2 0 0) [.ref a0, .int ka] [(a0, .inr (11, [w0, w1, .ref h0, w3, w4, w5, w6, w7, w8, w9, w10, w11, w12, w13])), (h0, .inr (4, [.ref h1, v1, v2, v3, v4, v5, v6, v7, v8, v9, v10, v11, v12, v13, v14, v15])), (h1, .inl (cy 1, 4, .inl (fun _ => 0)))] (fun (r : Int32) (_ : Unit) => r = -1) (fun (_ : Unit) => []) := by
  refine XMi.start (by decide) (Nat.le_of_ble_eq_true rfl) ?_
  intro p e s m below meth c args A ls Q hat hQ
  obtain ⟨hx, hb, hr, hml, hown, hg, hlocks, hin, hK, hA, hP, hD, hS, hE, hl⟩ := hat
  have hown : s.vm.findClass RX11 = some m.cls := hown
  have hl : lv_has ls 5 [(0, .ref a0), (1, .int ka)] := hl
  refine lv_aload_n hx hb dX11_more_0 rfl (lv_at hl 0 rfl) ?_
  refine va_get (D := D) (ci := 11) (v := .ref h0) (C := RX11) (T := TX11) (N := 14) hx hb hg i_X11 hown hK hP 0 rfl rfl 2 (by decide) (hg _ m_660) (fun _ h9 => h9) rfl dX11_more_1 ?_
  refine lv_iconst (v := 2) hx hb dX11_more_4 (by decide) ?_
  refine lv_iload_n hx hb dX11_more_5 rfl (lv_at hl 1 rfl) ?_
  refine x_callVi (q := (RX4, TX4, 16)) (ci := 4) (q0 := 0) (wr := [(a0, .inr (11, [w0, w1, .ref h0, w3, w4, w5, w6, w7, w8, w9, w10, w11, w12, w13]))]) (rest := []) ⟨hx, hb, hml, hown, hg, hl.1⟩ k_X11_120 (c_has l D cy h0 h1 v1 v2 v3 v4 v5 v6 v7 v8 v9 v10 v11 v12 v13 v14 v15 2 ka (by unfold vp_in; decide)) E0_blind hK hP hD hS hA [1, 2] [0] ⟨rfl, rfl, by decide, by decide, by decide⟩ rfl rfl (fun _ _ _ => trivial) dX11_more_6 rfl rfl (Nat.le_of_ble_eq_true rfl) ⟨Nat.le_of_ble_eq_true rfl, Nat.le_of_ble_eq_true rfl⟩ ⟨Nat.le_of_ble_eq_true rfl, Nat.le_of_ble_eq_true rfl⟩ (fun r1 u1 H locs hw1 hP hD hS => ?_)
  have hP : va_P D vwCl [(a0, .inr (11, [w0, w1, .ref h0, w3, w4, w5, w6, w7, w8, w9, w10, w11, w12, w13])), (h0, .inr (4, [.ref h1, v1, v2, v3, v4, v5, v6, v7, v8, v9, v10, v11, v12, v13, v14, v15])), (h1, .inl (cy 1, 4, .inl (fun _ => 0)))] H := hP
  have hD : va_D A [(a0, .inr (11, [w0, w1, .ref h0, w3, w4, w5, w6, w7, w8, w9, w10, w11, w12, w13])), (h0, .inr (4, [.ref h1, v1, v2, v3, v4, v5, v6, v7, v8, v9, v10, v11, v12, v13, v14, v15])), (h1, .inl (cy 1, 4, .inl (fun _ => 0)))] := hD
  refine W.widen (k := 0) (n := 0) (Nat.le_of_ble_eq_true rfl) (Nat.le_of_ble_eq_true rfl) ?_
  have hw1 : r1 = 0 := hw1
  subst hw1
  refine lv_if_ne (tgt := 14) hx hb dX11_more_9 (by decide) (fun h => absurd (by decide) h) (fun _ => ?_)
  refine lv_iconst (v := -1) hx hb dX11_more_12 (by decide) ?_
  exact x_iret hQ hx hb hr hlocks hK hP hD hS dX11_more_13 () (rfl) [] (by decide) rfl (Nat.le_of_ble_eq_true rfl) (Nat.le_of_ble_eq_true rfl)
theorem dX11_way_0 : decode cX11_way 0 = .ok (.aload_n 0, 1) := by decide +kernel
theorem dX11_way_1 : decode cX11_way 1 = .ok (.iconst 0, 1) := by decide +kernel
theorem dX11_way_2 : decode cX11_way 2 = .ok (.putfield 89, 3) := by decide +kernel
theorem dX11_way_5 : decode cX11_way 5 = .ok (.aload_n 0, 1) := by decide +kernel
theorem dX11_way_6 : decode cX11_way 6 = .ok (.getfield 28, 3) := by decide +kernel
theorem dX11_way_9 : decode cX11_way 9 = .ok (.iconst 3, 1) := by decide +kernel
theorem dX11_way_10 : decode cX11_way 10 = .ok (.iload_n 1, 1) := by decide +kernel
theorem dX11_way_11 : decode cX11_way 11 = .ok (.invokevirtual 120, 3) := by decide +kernel
theorem dX11_way_14 : decode cX11_way 14 = .ok (.ifCond .ne 5, 3) := by decide +kernel
theorem dX11_way_17 : decode cX11_way 17 = .ok (.iconst (-1), 1) := by decide +kernel
theorem dX11_way_18 : decode cX11_way 18 = .ok (.ireturn, 1) := by decide +kernel
set_option maxHeartbeats 400000 in
set_option maxRecDepth 100000 in
theorem t_way (l : Launch) (D : va_G) (cy : Nat → ClassId) (a0 : Nat) (w0 : Value) (w1 : Value) (w3 : Value) (w4 : Value) (w5 : Value) (w6 : Value) (w7 : Value) (w8 : Value) (w9 : Value) (w10 : Value) (w11 : Value) (w12 : Value) (w13 : Value) (h0 : Nat) (h1 : Nat) (v1 : Value) (v2 : Value) (v3 : Value) (v4 : Value) (v5 : Value) (v6 : Value) (v7 : Value) (v8 : Value) (v9 : Value) (v10 : Value) (v11 : Value) (v12 : Value) (v13 : Value) (v14 : Value) (v15 : Value) (ka : Int32)  : XMi l D (tyL cy) E0 yX11_way cX11_way 3 (some .int) (rmk 2 0 0) [.ref a0, .int ka] [(a0, .inr (11, [w0, w1, .ref h0, w3, w4, w5, w6, w7, w8, w9, w10, w11, w12, w13])), (h0, .inr (4, [.ref h1, v1, v2, v3, v4, v5, v6, v7, v8, v9, v10, v11, v12, v13, v14, v15])), (h1, .inl (cy 1, 4, .inl (fun _ => 0)))] (fun (r : Int32) (_ : Unit) => r = -1) (fun (_ : Unit) => []) := by
  refine XMi.start (by decide) (Nat.le_of_ble_eq_true rfl) ?_
  intro p e s m below meth c args A ls Q hat hQ
  obtain ⟨hx, hb, hr, hml, hown, hg, hlocks, hin, hK, hA, hP, hD, hS, hE, hl⟩ := hat
  have hown : s.vm.findClass RX11 = some m.cls := hown
  have hl : lv_has ls 3 [(0, .ref a0), (1, .int ka)] := hl
  refine lv_aload_n hx hb dX11_way_0 rfl (lv_at hl 0 rfl) ?_
  refine lv_iconst (v := 0) hx hb dX11_way_1 (by decide) ?_
  refine va_put (D := D) (ci := 11) (v := .int 0) (ty := .int) (C := RX11) (T := TX11) (N := 14) hx hb hg i_X11 tyX11 tyX11_ok nmX11 hown hK hP hD hS 0 rfl rfl 13 (by decide) (hg _ m_671) (fun _ h9 => h9) rfl (by decide +kernel) rfl rfl (Nat.le_of_ble_eq_true rfl) dX11_way_2 (fun H locs hP hD hS => ?_)
  have hP : va_P D vwCl [(a0, .inr (11, [w0, w1, .ref h0, w3, w4, w5, w6, w7, w8, w9, w10, w11, w12, .int 0])), (h0, .inr (4, [.ref h1, v1, v2, v3, v4, v5, v6, v7, v8, v9, v10, v11, v12, v13, v14, v15])), (h1, .inl (cy 1, 4, .inl (fun _ => 0)))] H := hP
  have hD : va_D A [(a0, .inr (11, [w0, w1, .ref h0, w3, w4, w5, w6, w7, w8, w9, w10, w11, w12, .int 0])), (h0, .inr (4, [.ref h1, v1, v2, v3, v4, v5, v6, v7, v8, v9, v10, v11, v12, v13, v14, v15])), (h1, .inl (cy 1, 4, .inl (fun _ => 0)))] := hD
  refine lv_aload_n hx hb dX11_way_5 rfl (lv_at hl 0 rfl) ?_
  refine va_get (D := D) (ci := 11) (v := .ref h0) (C := RX11) (T := TX11) (N := 14) hx hb hg i_X11 hown hK hP 0 rfl rfl 2 (by decide) (hg _ m_660) (fun _ h9 => h9) rfl dX11_way_6 ?_
  refine lv_iconst (v := 3) hx hb dX11_way_9 (by decide) ?_
  refine lv_iload_n hx hb dX11_way_10 rfl (lv_at hl 1 rfl) ?_
  refine x_callVi (q := (RX4, TX4, 16)) (ci := 4) (q0 := 0) (wr := [(a0, .inr (11, [w0, w1, .ref h0, w3, w4, w5, w6, w7, w8, w9, w10, w11, w12, .int 0]))]) (rest := []) ⟨hx, hb, hml, hown, hg, hl.1⟩ k_X11_120 (c_has l D cy h0 h1 v1 v2 v3 v4 v5 v6 v7 v8 v9 v10 v11 v12 v13 v14 v15 3 ka (by unfold vp_in; decide)) E0_blind hK hP hD hS hA [1, 2] [0] ⟨rfl, rfl, by decide, by decide, by decide⟩ rfl rfl (fun _ _ _ => trivial) dX11_way_11 rfl rfl (Nat.le_of_ble_eq_true rfl) ⟨Nat.le_of_ble_eq_true rfl, Nat.le_of_ble_eq_true rfl⟩ ⟨Nat.le_of_ble_eq_true rfl, Nat.le_of_ble_eq_true rfl⟩ (fun r1 u1 H locs hw1 hP hD hS => ?_)
  have hP : va_P D vwCl [(a0, .inr (11, [w0, w1, .ref h0, w3, w4, w5, w6, w7, w8, w9, w10, w11, w12, .int 0])), (h0, .inr (4, [.ref h1, v1, v2, v3, v4, v5, v6, v7, v8, v9, v10, v11, v12, v13, v14, v15])), (h1, .inl (cy 1, 4, .inl (fun _ => 0)))] H := hP
  have hD : va_D A [(a0, .inr (11, [w0, w1, .ref h0, w3, w4, w5, w6, w7, w8, w9, w10, w11, w12, .int 0])), (h0, .inr (4, [.ref h1, v1, v2, v3, v4, v5, v6, v7, v8, v9, v10, v11, v12, v13, v14, v15])), (h1, .inl (cy 1, 4, .inl (fun _ => 0)))] := hD
  refine W.widen (k := 0) (n := 0) (Nat.le_of_ble_eq_true rfl) (Nat.le_of_ble_eq_true rfl) ?_
  have hw1 : r1 = 0 := hw1
  subst hw1
  refine lv_if_ne (tgt := 19) hx hb dX11_way_14 (by decide) (fun h => absurd (by decide) h) (fun _ => ?_)
  refine lv_iconst (v := -1) hx hb dX11_way_17 (by decide) ?_
  exact x_iret hQ hx hb hr hlocks hK hP hD hS dX11_way_18 () (rfl) [] (by decide) rfl (Nat.le_of_ble_eq_true rfl) (Nat.le_of_ble_eq_true rfl)
theorem dX11_sound_0 : decode cX11_sound 0 = .ok (.aload_n 0, 1) := by decide +kernel
theorem dX11_sound_1 : decode cX11_sound 1 = .ok (.getfield 28, 3) := by decide +kernel
theorem dX11_sound_4 : decode cX11_sound 4 = .ok (.iconst 1, 1) := by decide +kernel
theorem dX11_sound_5 : decode cX11_sound 5 = .ok (.iload_n 1, 1) := by decide +kernel
theorem dX11_sound_6 : decode cX11_sound 6 = .ok (.invokevirtual 120, 3) := by decide +kernel
theorem dX11_sound_9 : decode cX11_sound 9 = .ok (.ifCond .eq 23, 3) := by decide +kernel
theorem dX11_sound_32 : decode cX11_sound 32 = .ok (.iconst (-1), 1) := by decide +kernel
theorem dX11_sound_33 : decode cX11_sound 33 = .ok (.ireturn, 1) := by decide +kernel
set_option maxHeartbeats 400000 in
set_option maxRecDepth 100000 in
theorem t_sound (l : Launch) (D : va_G) (cy : Nat → ClassId) (a0 : Nat) (w0 : Value) (w1 : Value) (w3 : Value) (w4 : Value) (w5 : Value) (w6 : Value) (w7 : Value) (w8 : Value) (w9 : Value) (w10 : Value) (w11 : Value) (w12 : Value) (w13 : Value) (h0 : Nat) (h1 : Nat) (v1 : Value) (v2 : Value) (v3 : Value) (v4 : Value) (v5 : Value) (v6 : Value) (v7 : Value) (v8 : Value) (v9 : Value) (v10 : Value) (v11 : Value) (v12 : Value) (v13 : Value) (v14 : Value) (v15 : Value) (ka : Int32) (kb : Int32) (kc : Int32)  : XMi l D (tyL cy) E0 yX11_sound cX11_sound 4 (some .int) (rmk 2 0 0) [.ref a0, .int ka, .int kb, .int kc] [(a0, .inr (11, [w0, w1, .ref h0, w3, w4, w5, w6, w7, w8, w9, w10, w11, w12, w13])), (h0, .inr (4, [.ref h1, v1, v2, v3, v4, v5, v6, v7, v8, v9, v10, v11, v12, v13, v14, v15])), (h1, .inl (cy 1, 4, .inl (fun _ => 0)))] (fun (r : Int32) (_ : Unit) => r = -1) (fun (_ : Unit) => []) := by
  refine XMi.start (by decide) (Nat.le_of_ble_eq_true rfl) ?_
  intro p e s m below meth c args A ls Q hat hQ
  obtain ⟨hx, hb, hr, hml, hown, hg, hlocks, hin, hK, hA, hP, hD, hS, hE, hl⟩ := hat
  have hown : s.vm.findClass RX11 = some m.cls := hown
  have hl : lv_has ls 4 [(0, .ref a0), (1, .int ka), (2, .int kb), (3, .int kc)] := hl
  refine lv_aload_n hx hb dX11_sound_0 rfl (lv_at hl 0 rfl) ?_
  refine va_get (D := D) (ci := 11) (v := .ref h0) (C := RX11) (T := TX11) (N := 14) hx hb hg i_X11 hown hK hP 0 rfl rfl 2 (by decide) (hg _ m_660) (fun _ h9 => h9) rfl dX11_sound_1 ?_
  refine lv_iconst (v := 1) hx hb dX11_sound_4 (by decide) ?_
  refine lv_iload_n hx hb dX11_sound_5 rfl (lv_at hl 1 rfl) ?_
  refine x_callVi (q := (RX4, TX4, 16)) (ci := 4) (q0 := 0) (wr := [(a0, .inr (11, [w0, w1, .ref h0, w3, w4, w5, w6, w7, w8, w9, w10, w11, w12, w13]))]) (rest := []) ⟨hx, hb, hml, hown, hg, hl.1⟩ k_X11_120 (c_has l D cy h0 h1 v1 v2 v3 v4 v5 v6 v7 v8 v9 v10 v11 v12 v13 v14 v15 1 ka (by unfold vp_in; decide)) E0_blind hK hP hD hS hA [1, 2] [0] ⟨rfl, rfl, by decide, by decide, by decide⟩ rfl rfl (fun _ _ _ => trivial) dX11_sound_6 rfl rfl (Nat.le_of_ble_eq_true rfl) ⟨Nat.le_of_ble_eq_true rfl, Nat.le_of_ble_eq_true rfl⟩ ⟨Nat.le_of_ble_eq_true rfl, Nat.le_of_ble_eq_true rfl⟩ (fun r1 u1 H locs hw1 hP hD hS => ?_)
  have hP : va_P D vwCl [(a0, .inr (11, [w0, w1, .ref h0, w3, w4, w5, w6, w7, w8, w9, w10, w11, w12, w13])), (h0, .inr (4, [.ref h1, v1, v2, v3, v4, v5, v6, v7, v8, v9, v10, v11, v12, v13, v14, v15])), (h1, .inl (cy 1, 4, .inl (fun _ => 0)))] H := hP
  have hD : va_D A [(a0, .inr (11, [w0, w1, .ref h0, w3, w4, w5, w6, w7, w8, w9, w10, w11, w12, w13])), (h0, .inr (4, [.ref h1, v1, v2, v3, v4, v5, v6, v7, v8, v9, v10, v11, v12, v13, v14, v15])), (h1, .inl (cy 1, 4, .inl (fun _ => 0)))] := hD
  refine W.widen (k := 0) (n := 0) (Nat.le_of_ble_eq_true rfl) (Nat.le_of_ble_eq_true rfl) ?_
  have hw1 : r1 = 0 := hw1
  subst hw1
  refine lv_if_eq (tgt := 32) hx hb dX11_sound_9 (by decide) (fun _ => ?_) (fun h => absurd (by decide) h)
  refine lv_iconst (v := -1) hx hb dX11_sound_32 (by decide) ?_
  exact x_iret hQ hx hb hr hlocks hK hP hD hS dX11_sound_33 () (rfl) [] (by decide) rfl (Nat.le_of_ble_eq_true rfl) (Nat.le_of_ble_eq_true rfl)
theorem dX11_unsay_0 : decode cX11_unsay 0 = .ok (.iload_n 1, 1) := by decide +kernel
theorem dX11_unsay_1 : decode cX11_unsay 1 = .ok (.invokestatic 143, 3) := by decide +kernel
theorem dX11_unsay_4 : decode cX11_unsay 4 = .ok (.ifCond .eq 14, 3) := by decide +kernel
theorem dX11_unsay_18 : decode cX11_unsay 18 = .ok (.iconst (-1), 1) := by decide +kernel
theorem dX11_unsay_19 : decode cX11_unsay 19 = .ok (.ireturn, 1) := by decide +kernel
theorem dX11_unsay_7 : decode cX11_unsay 7 = .ok (.aload_n 0, 1) := by decide +kernel
theorem dX11_unsay_8 : decode cX11_unsay 8 = .ok (.getfield 38, 3) := by decide +kernel
theorem m_662 : (Cond.fieldLink RX11 38 "CliffJudges" "moments" "LCliffJudges$Moments;") ∈ gT := gm 662 (by decide +kernel) (by decide +kernel)
theorem dX11_unsay_11 : decode cX11_unsay 11 = .ok (.iload_n 1, 1) := by decide +kernel
theorem dX11_unsay_12 : decode cX11_unsay 12 = .ok (.invokevirtual 147, 3) := by decide +kernel
theorem m_972 : (Cond.methodLink RX11 147 yX5_cryLength) ∈ gT := gm 972 (by decide +kernel) (by decide +kernel)
theorem m_973 : (Cond.instanceMethod yX5_cryLength) ∈ gT := gm 973 (by decide +kernel) (by decide +kernel)
theorem m_974 : (Cond.selects RX5 yX5_cryLength yX5_cryLength) ∈ gT := gm 974 (by decide +kernel) (by decide +kernel)
theorem m_139 : (Cond.initialized RX5) ∈ gT := gm 139 (by decide +kernel) (by decide +kernel)
theorem m_975 : (Cond.code yX5_cryLength cX5_cryLength 2 (some .int)) ∈ gT := gm 975 (by decide +kernel) (by decide +kernel)
theorem k_X11_147 : xV RX11 RX5 147 yX5_cryLength cX5_cryLength 2 (some .int) 1 := ⟨⟨m_972, m_973, m_974, m_139, m_975⟩, rfl, by decide, by decide, by decide +kernel⟩
theorem dX11_unsay_15 : decode cX11_unsay 15 = .ok (.ifCond .gt 5, 3) := by decide +kernel
set_option maxHeartbeats 400000 in
set_option maxRecDepth 100000 in
theorem t_unsay (l : Launch) (D : va_G) (cy : Nat → ClassId) (a0 : Nat) (w0 : Value) (w1 : Value) (w2 : Value) (w3 : Value) (w5 : Value) (w6 : Value) (w7 : Value) (w8 : Value) (w9 : Value) (w10 : Value) (w11 : Value) (w12 : Value) (w13 : Value) (n0 : Nat) (n1 : Nat) (n2 : Nat) (n3 : Nat) (z3 : Value) (z4 : Value) (z5 : Value) (z6 : Value) (ka : Int32)  : XMi l D (tyL cy) E0 yX11_unsay cX11_unsay 2 (some .int) (rmk 2 0 0) [.ref a0, .int ka] [(a0, .inr (11, [w0, w1, w2, w3, .ref n0, w5, w6, w7, w8, w9, w10, w11, w12, w13])), (n0, .inr (5, [.ref n1, .ref n2, .ref n3, z3, z4, z5, z6])), (n1, .inl (cy 1, 41, .inl (fun _ => 0)))] (fun (r : Int32) (_ : Unit) => r = -1) (fun (_ : Unit) => []) := by
  refine XMi.start (by decide) (Nat.le_of_ble_eq_true rfl) ?_
  intro p e s m below meth c args A ls Q hat hQ
  obtain ⟨hx, hb, hr, hml, hown, hg, hlocks, hin, hK, hA, hP, hD, hS, hE, hl⟩ := hat
  have hown : s.vm.findClass RX11 = some m.cls := hown
  have hl : lv_has ls 2 [(0, .ref a0), (1, .int ka)] := hl
  refine lv_iload_n hx hb dX11_unsay_0 rfl (lv_at hl 1 rfl) ?_
  refine x_callSi (wr := [(a0, .inr (11, [w0, w1, w2, w3, .ref n0, w5, w6, w7, w8, w9, w10, w11, w12, w13])), (n0, .inr (5, [.ref n1, .ref n2, .ref n3, z3, z4, z5, z6])), (n1, .inl (cy 1, 41, .inl (fun _ => 0)))]) (rest := []) ⟨hx, hb, hml, hown, hg, hl.1⟩ k_X11_143 (c_isCry l D cy ka) E0_blind hK hP hD hS hA [] [0, 1, 2] ⟨rfl, rfl, by decide, by decide, by decide⟩ (fun _ _ _ => trivial) dX11_unsay_1 rfl rfl (Nat.le_of_ble_eq_true rfl) ⟨Nat.le_of_ble_eq_true rfl, Nat.le_of_ble_eq_true rfl⟩ ⟨Nat.le_of_ble_eq_true rfl, Nat.le_of_ble_eq_true rfl⟩ (fun r1 u1 H locs hw1 hP hD hS => ?_)
  have hP : va_P D vwCl [(a0, .inr (11, [w0, w1, w2, w3, .ref n0, w5, w6, w7, w8, w9, w10, w11, w12, w13])), (n0, .inr (5, [.ref n1, .ref n2, .ref n3, z3, z4, z5, z6])), (n1, .inl (cy 1, 41, .inl (fun _ => 0)))] H := hP
  have hD : va_D A [(a0, .inr (11, [w0, w1, w2, w3, .ref n0, w5, w6, w7, w8, w9, w10, w11, w12, w13])), (n0, .inr (5, [.ref n1, .ref n2, .ref n3, z3, z4, z5, z6])), (n1, .inl (cy 1, 41, .inl (fun _ => 0)))] := hD
  refine W.widen (k := 0) (n := 0) (Nat.le_of_ble_eq_true rfl) (Nat.le_of_ble_eq_true rfl) ?_
  have hw1 : r1 = 0 ∨ ka = 0 ∨ ka = 1 := hw1
  refine lv_if_eq (tgt := 18) hx hb dX11_unsay_4 (by decide) (fun c_4 => ?_) (fun c_4 => ?_)
  · refine lv_iconst (v := -1) hx hb dX11_unsay_18 (by decide) ?_
    exact x_iret hQ hx hb hr hlocks hK hP hD hS dX11_unsay_19 () (rfl) [] (by decide) rfl (Nat.le_of_ble_eq_true rfl) (Nat.le_of_ble_eq_true rfl)
  · refine lv_aload_n hx hb dX11_unsay_7 rfl (lv_at hl 0 rfl) ?_
    refine va_get (D := D) (ci := 11) (v := .ref n0) (C := RX11) (T := TX11) (N := 14) hx hb hg i_X11 hown hK hP 0 rfl rfl 4 (by decide) (hg _ m_662) (fun _ h9 => h9) rfl dX11_unsay_8 ?_
    refine lv_iload_n hx hb dX11_unsay_11 rfl (lv_at hl 1 rfl) ?_
    refine x_callVi (q := (RX5, TX5, 7)) (ci := 5) (q0 := 0) (wr := [(a0, .inr (11, [w0, w1, w2, w3, .ref n0, w5, w6, w7, w8, w9, w10, w11, w12, w13]))]) (rest := []) ⟨hx, hb, hml, hown, hg, hl.1⟩ k_X11_147 (c_cryLength l D cy n0 n1 n2 n3 z3 z4 z5 z6 ka (cry_in hw1 c_4)) E0_blind hK hP hD hS hA [1, 2] [0] ⟨rfl, rfl, by decide, by decide, by decide⟩ rfl rfl (fun _ _ _ => trivial) dX11_unsay_12 rfl rfl (Nat.le_of_ble_eq_true rfl) ⟨Nat.le_of_ble_eq_true rfl, Nat.le_of_ble_eq_true rfl⟩ ⟨Nat.le_of_ble_eq_true rfl, Nat.le_of_ble_eq_true rfl⟩ (fun r2 u2 H locs hw2 hP hD hS => ?_)
    have hP : va_P D vwCl [(a0, .inr (11, [w0, w1, w2, w3, .ref n0, w5, w6, w7, w8, w9, w10, w11, w12, w13])), (n0, .inr (5, [.ref n1, .ref n2, .ref n3, z3, z4, z5, z6])), (n1, .inl (cy 1, 41, .inl (fun _ => 0)))] H := hP
    have hD : va_D A [(a0, .inr (11, [w0, w1, w2, w3, .ref n0, w5, w6, w7, w8, w9, w10, w11, w12, w13])), (n0, .inr (5, [.ref n1, .ref n2, .ref n3, z3, z4, z5, z6])), (n1, .inl (cy 1, 41, .inl (fun _ => 0)))] := hD
    refine W.widen (k := 0) (n := 0) (Nat.le_of_ble_eq_true rfl) (Nat.le_of_ble_eq_true rfl) ?_
    have hw2 : r2 = 0 := hw2
    subst hw2
    refine lv_if_gt (tgt := 20) hx hb dX11_unsay_15 (by decide) (fun h => absurd h (by decide)) (fun _ => ?_)
    refine lv_iconst (v := -1) hx hb dX11_unsay_18 (by decide) ?_
    exact x_iret hQ hx hb hr hlocks hK hP hD hS dX11_unsay_19 () (rfl) [] (by decide) rfl (Nat.le_of_ble_eq_true rfl) (Nat.le_of_ble_eq_true rfl)
theorem dX11_said_0 : decode cX11_said 0 = .ok (.iload_n 1, 1) := by decide +kernel
theorem dX11_said_1 : decode cX11_said 1 = .ok (.invokestatic 143, 3) := by decide +kernel
theorem dX11_said_4 : decode cX11_said 4 = .ok (.ifCond .eq 19, 3) := by decide +kernel
theorem dX11_said_23 : decode cX11_said 23 = .ok (.iconst (-1), 1) := by decide +kernel
theorem dX11_said_24 : decode cX11_said 24 = .ok (.ireturn, 1) := by decide +kernel
theorem dX11_said_7 : decode cX11_said 7 = .ok (.iload_n 2, 1) := by decide +kernel
theorem dX11_said_8 : decode cX11_said 8 = .ok (.ifCond .lt 15, 3) := by decide +kernel
theorem dX11_said_11 : decode cX11_said 11 = .ok (.iload_n 2, 1) := by decide +kernel
theorem dX11_said_12 : decode cX11_said 12 = .ok (.aload_n 0, 1) := by decide +kernel
theorem dX11_said_13 : decode cX11_said 13 = .ok (.getfield 38, 3) := by decide +kernel
theorem dX11_said_16 : decode cX11_said 16 = .ok (.iload_n 1, 1) := by decide +kernel
theorem dX11_said_17 : decode cX11_said 17 = .ok (.invokevirtual 147, 3) := by decide +kernel
theorem dX11_said_20 : decode cX11_said 20 = .ok (.if_icmp .lt 5, 3) := by decide +kernel
set_option maxHeartbeats 400000 in
set_option maxRecDepth 100000 in
theorem t_said (l : Launch) (D : va_G) (cy : Nat → ClassId) (a0 : Nat) (w0 : Value) (w1 : Value) (w2 : Value) (w3 : Value) (w5 : Value) (w6 : Value) (w7 : Value) (w8 : Value) (w9 : Value) (w10 : Value) (w11 : Value) (w12 : Value) (w13 : Value) (n0 : Nat) (n1 : Nat) (n2 : Nat) (n3 : Nat) (z3 : Value) (z4 : Value) (z5 : Value) (z6 : Value) (ka : Int32) (kb : Int32)  : XMi l D (tyL cy) E0 yX11_said cX11_said 3 (some .int) (rmk 2 0 0) [.ref a0, .int ka, .int kb] [(a0, .inr (11, [w0, w1, w2, w3, .ref n0, w5, w6, w7, w8, w9, w10, w11, w12, w13])), (n0, .inr (5, [.ref n1, .ref n2, .ref n3, z3, z4, z5, z6])), (n1, .inl (cy 1, 41, .inl (fun _ => 0)))] (fun (r : Int32) (_ : Unit) => r = -1) (fun (_ : Unit) => []) := by
  refine XMi.start (by decide) (Nat.le_of_ble_eq_true rfl) ?_
  intro p e s m below meth c args A ls Q hat hQ
  obtain ⟨hx, hb, hr, hml, hown, hg, hlocks, hin, hK, hA, hP, hD, hS, hE, hl⟩ := hat
  have hown : s.vm.findClass RX11 = some m.cls := hown
  have hl : lv_has ls 3 [(0, .ref a0), (1, .int ka), (2, .int kb)] := hl
  refine lv_iload_n hx hb dX11_said_0 rfl (lv_at hl 1 rfl) ?_
  refine x_callSi (wr := [(a0, .inr (11, [w0, w1, w2, w3, .ref n0, w5, w6, w7, w8, w9, w10, w11, w12, w13])), (n0, .inr (5, [.ref n1, .ref n2, .ref n3, z3, z4, z5, z6])), (n1, .inl (cy 1, 41, .inl (fun _ => 0)))]) (rest := []) ⟨hx, hb, hml, hown, hg, hl.1⟩ k_X11_143 (c_isCry l D cy ka) E0_blind hK hP hD hS hA [] [0, 1, 2] ⟨rfl, rfl, by decide, by decide, by decide⟩ (fun _ _ _ => trivial) dX11_said_1 rfl rfl (Nat.le_of_ble_eq_true rfl) ⟨Nat.le_of_ble_eq_true rfl, Nat.le_of_ble_eq_true rfl⟩ ⟨Nat.le_of_ble_eq_true rfl, Nat.le_of_ble_eq_true rfl⟩ (fun r1 u1 H locs hw1 hP hD hS => ?_)
  have hP : va_P D vwCl [(a0, .inr (11, [w0, w1, w2, w3, .ref n0, w5, w6, w7, w8, w9, w10, w11, w12, w13])), (n0, .inr (5, [.ref n1, .ref n2, .ref n3, z3, z4, z5, z6])), (n1, .inl (cy 1, 41, .inl (fun _ => 0)))] H := hP
  have hD : va_D A [(a0, .inr (11, [w0, w1, w2, w3, .ref n0, w5, w6, w7, w8, w9, w10, w11, w12, w13])), (n0, .inr (5, [.ref n1, .ref n2, .ref n3, z3, z4, z5, z6])), (n1, .inl (cy 1, 41, .inl (fun _ => 0)))] := hD
  refine W.widen (k := 0) (n := 0) (Nat.le_of_ble_eq_true rfl) (Nat.le_of_ble_eq_true rfl) ?_
  have hw1 : r1 = 0 ∨ ka = 0 ∨ ka = 1 := hw1
  refine lv_if_eq (tgt := 23) hx hb dX11_said_4 (by decide) (fun c_4 => ?_) (fun c_4 => ?_)
  · refine lv_iconst (v := -1) hx hb dX11_said_23 (by decide) ?_
    exact x_iret hQ hx hb hr hlocks hK hP hD hS dX11_said_24 () (rfl) [] (by decide) rfl (Nat.le_of_ble_eq_true rfl) (Nat.le_of_ble_eq_true rfl)
  · refine lv_iload_n hx hb dX11_said_7 rfl (lv_at hl 2 rfl) ?_
    refine lv_if_lt (tgt := 23) hx hb dX11_said_8 (by decide) (fun c_8 => ?_) (fun c_8 => ?_)
    · refine lv_iconst (v := -1) hx hb dX11_said_23 (by decide) ?_
      exact x_iret hQ hx hb hr hlocks hK hP hD hS dX11_said_24 () (rfl) [] (by decide) rfl (Nat.le_of_ble_eq_true rfl) (Nat.le_of_ble_eq_true rfl)
    · refine lv_iload_n hx hb dX11_said_11 rfl (lv_at hl 2 rfl) ?_
      refine lv_aload_n hx hb dX11_said_12 rfl (lv_at hl 0 rfl) ?_
      refine va_get (D := D) (ci := 11) (v := .ref n0) (C := RX11) (T := TX11) (N := 14) hx hb hg i_X11 hown hK hP 0 rfl rfl 4 (by decide) (hg _ m_662) (fun _ h9 => h9) rfl dX11_said_13 ?_
      refine lv_iload_n hx hb dX11_said_16 rfl (lv_at hl 1 rfl) ?_
      refine x_callVi (q := (RX5, TX5, 7)) (ci := 5) (q0 := 0) (wr := [(a0, .inr (11, [w0, w1, w2, w3, .ref n0, w5, w6, w7, w8, w9, w10, w11, w12, w13]))]) (rest := [.int kb]) ⟨hx, hb, hml, hown, hg, hl.1⟩ k_X11_147 (c_cryLength l D cy n0 n1 n2 n3 z3 z4 z5 z6 ka (cry_in hw1 c_4)) E0_blind hK hP hD hS hA [1, 2] [0] ⟨rfl, rfl, by decide, by decide, by decide⟩ rfl rfl (fun _ _ _ => trivial) dX11_said_17 rfl rfl (Nat.le_of_ble_eq_true rfl) ⟨Nat.le_of_ble_eq_true rfl, Nat.le_of_ble_eq_true rfl⟩ ⟨Nat.le_of_ble_eq_true rfl, Nat.le_of_ble_eq_true rfl⟩ (fun r2 u2 H locs hw2 hP hD hS => ?_)
      have hP : va_P D vwCl [(a0, .inr (11, [w0, w1, w2, w3, .ref n0, w5, w6, w7, w8, w9, w10, w11, w12, w13])), (n0, .inr (5, [.ref n1, .ref n2, .ref n3, z3, z4, z5, z6])), (n1, .inl (cy 1, 41, .inl (fun _ => 0)))] H := hP
      have hD : va_D A [(a0, .inr (11, [w0, w1, w2, w3, .ref n0, w5, w6, w7, w8, w9, w10, w11, w12, w13])), (n0, .inr (5, [.ref n1, .ref n2, .ref n3, z3, z4, z5, z6])), (n1, .inl (cy 1, 41, .inl (fun _ => 0)))] := hD
      refine W.widen (k := 0) (n := 0) (Nat.le_of_ble_eq_true rfl) (Nat.le_of_ble_eq_true rfl) ?_
      have hw2 : r2 = 0 := hw2
      subst hw2
      refine lv_icmp_lt (tgt := 25) hx hb dX11_said_20 (by decide) (fun h => absurd h c_8) (fun _ => ?_)
      refine lv_iconst (v := -1) hx hb dX11_said_23 (by decide) ?_
      exact x_iret hQ hx hb hr hlocks hK hP hD hS dX11_said_24 () (rfl) [] (by decide) rfl (Nat.le_of_ble_eq_true rfl) (Nat.le_of_ble_eq_true rfl)
end
section
theorem upd_z (k : Nat) : upd (fun _ => (0 : Int32)) k 0 = fun _ => 0 := by
  funext j
  unfold upd
  split <;> rfl
theorem sw_split (x : Int32) (n : Nat) (hn : n < 2 ^ 31) : (x.toInt < 0 ∨ (n : Int) ≤ x.toInt) ∨ ∃ j : Nat, j < n ∧ x = nI j := by
  by_cases h : x < 0
  · exact Or.inl (Or.inl ((fa_lt _ _).mp h))
  · obtain ⟨j, hj, e⟩ := nI_of h
    by_cases hjn : j < n
    · exact Or.inr ⟨j, hjn, e⟩
    · refine Or.inl (Or.inr ?_)
      rw [e, nI_toInt hj]
      omega
theorem sh_zero (k : Int32) : (0 : Int32) >>> (k &&& 31) = 0 := by
  rw [fa_eq]
  have h := pk_shr 0 (k &&& 31) _ rfl
  rw [h]
  exact Int.zero_shiftRight _
theorem box_in {b : Int32} (h0 : ¬ b < 0) (h : ¬ (3 : Int32) ≤ b) : b = 0 ∨ b = 1 ∨ b = 2 := by
  obtain ⟨j, hj, e⟩ := nI_of h0
  have h2 : j < 3 := by
    rcases Nat.lt_or_ge j 3 with q | q
    · exact q
    · exact absurd (by rw [e]; exact nI_le q hj) h
  rcases (show j = 0 ∨ j = 1 ∨ j = 2 by omega) with rfl | rfl | rfl
  · exact Or.inl e
  · exact Or.inr (Or.inl e)
  · exact Or.inr (Or.inr e)
theorem dX11_end_0 : decode cX11_end 0 = .ok (.iload_n 1, 1) := by decide +kernel
theorem dX11_end_1 : decode cX11_end 1 = .ok (.ifCond .lt 14, 3) := by decide +kernel
theorem dX11_end_15 : decode cX11_end 15 = .ok (.iconst (-1), 1) := by decide +kernel
theorem dX11_end_16 : decode cX11_end 16 = .ok (.ireturn, 1) := by decide +kernel
theorem dX11_end_4 : decode cX11_end 4 = .ok (.iload_n 1, 1) := by decide +kernel
theorem dX11_end_5 : decode cX11_end 5 = .ok (.aload_n 0, 1) := by decide +kernel
theorem dX11_end_6 : decode cX11_end 6 = .ok (.getfield 10, 3) := by decide +kernel
theorem m_658 : (Cond.fieldLink RX11 10 "CliffJudges" "tape" "LCliffJudges$Tape;") ∈ gT := gm 658 (by decide +kernel) (by decide +kernel)
theorem dX11_end_9 : decode cX11_end 9 = .ok (.getfield 93, 3) := by decide +kernel
set_option maxRecDepth 20000 in
theorem i_X9 : ∀ w ∈ u_ws RX9 TX9 8, w ∈ gT := gin [228, 230, 232, 234, 236, 238, 240, 242] (by decide +kernel) (by decide +kernel)
theorem m_217 : (Cond.fieldLink RX11 93 "CliffJudges$Tape" "length" "I") ∈ gT := gm 217 (by decide +kernel) (by decide +kernel)
theorem dX11_end_12 : decode cX11_end 12 = .ok (.if_icmp .le 5, 3) := by decide +kernel
theorem dX11_end_17 : decode cX11_end 17 = .ok (.aload_n 0, 1) := by decide +kernel
theorem dX11_end_18 : decode cX11_end 18 = .ok (.getfield 10, 3) := by decide +kernel
theorem dX11_end_21 : decode cX11_end 21 = .ok (.iload_n 1, 1) := by decide +kernel
theorem dX11_end_22 : decode cX11_end 22 = .ok (.putfield 93, 3) := by decide +kernel
theorem dX11_end_25 : decode cX11_end 25 = .ok (.iload_n 1, 1) := by decide +kernel
theorem dX11_end_26 : decode cX11_end 26 = .ok (.ireturn, 1) := by decide +kernel
set_option maxHeartbeats 400000 in
set_option maxRecDepth 100000 in
theorem t_end (l : Launch) (D : va_G) (cy : Nat → ClassId) (a0 : Nat) (w1 : Value) (w2 : Value) (w3 : Value) (w4 : Value) (w5 : Value) (w6 : Value) (w7 : Value) (w8 : Value) (w9 : Value) (w10 : Value) (w11 : Value) (w12 : Value) (w13 : Value) (ta0 : Nat) (tv0 : Value) (tv1 : Value) (tv3 : Value) (tv4 : Value) (tv5 : Value) (tv6 : Value) (tv7 : Value) (ka : Int32)  : XMi l D (tyL cy) E0 yX11_end cX11_end 2 (some .int) (rmk 2 0 0) [.ref a0, .int ka] [(a0, .inr (11, [.ref ta0, w1, w2, w3, w4, w5, w6, w7, w8, w9, w10, w11, w12, w13])), (ta0, .inr (9, [tv0, tv1, .int 0, tv3, tv4, tv5, tv6, tv7]))] (fun (r : Int32) (_ : Unit) => r = if ka.toInt = 0 then 0 else -1) (fun (_ : Unit) => []) := by
  refine XMi.start (by decide) (Nat.le_of_ble_eq_true rfl) ?_
  intro p e s m below meth c args A ls Q hat hQ
  obtain ⟨hx, hb, hr, hml, hown, hg, hlocks, hin, hK, hA, hP, hD, hS, hE, hl⟩ := hat
  have hown : s.vm.findClass RX11 = some m.cls := hown
  have hl : lv_has ls 2 [(0, .ref a0), (1, .int ka)] := hl
  refine lv_iload_n hx hb dX11_end_0 rfl (lv_at hl 1 rfl) ?_
  refine lv_if_lt (tgt := 15) hx hb dX11_end_1 (by decide) (fun c_1 => ?_) (fun c_1 => ?_)
  · refine lv_iconst (v := -1) hx hb dX11_end_15 (by decide) ?_
    have qc_1 : (ka : Int32).toInt < (0 : Int32).toInt := (fa_lt _ _).mp c_1
    have z0 : (0 : Int32).toInt = 0 := by decide
    exact x_iret hQ hx hb hr hlocks hK hP hD hS dX11_end_16 () ((if_neg (by omega)).symm) [] (by decide) rfl (Nat.le_of_ble_eq_true rfl) (Nat.le_of_ble_eq_true rfl)
  · refine lv_iload_n hx hb dX11_end_4 rfl (lv_at hl 1 rfl) ?_
    refine lv_aload_n hx hb dX11_end_5 rfl (lv_at hl 0 rfl) ?_
    refine va_get (D := D) (ci := 11) (v := .ref ta0) (C := RX11) (T := TX11) (N := 14) hx hb hg i_X11 hown hK hP 0 rfl rfl 0 (by decide) (hg _ m_658) (fun _ h9 => h9) rfl dX11_end_6 ?_
    refine va_get (D := D) (ci := 9) (v := .int 0) (C := RX9) (T := TX9) (N := 8) hx hb hg i_X9 hown hK hP 1 rfl rfl 2 (by decide) (hg _ m_217) (fun _ h9 => h9) rfl dX11_end_9 ?_
    refine lv_icmp_le (tgt := 17) hx hb dX11_end_12 (by decide) (fun c_12 => ?_) (fun c_12 => ?_)
    · refine lv_aload_n hx hb dX11_end_17 rfl (lv_at hl 0 rfl) ?_
      refine va_get (D := D) (ci := 11) (v := .ref ta0) (C := RX11) (T := TX11) (N := 14) hx hb hg i_X11 hown hK hP 0 rfl rfl 0 (by decide) (hg _ m_658) (fun _ h9 => h9) rfl dX11_end_18 ?_
      refine lv_iload_n hx hb dX11_end_21 rfl (lv_at hl 1 rfl) ?_
      refine va_put (D := D) (ci := 9) (v := .int ka) (ty := .int) (C := RX9) (T := TX9) (N := 8) hx hb hg i_X9 tyX9 tyX9_ok nmX9 hown hK hP hD hS 1 rfl rfl 2 (by decide) (hg _ m_217) (fun _ h9 => h9) rfl (by decide +kernel) rfl rfl (Nat.le_of_ble_eq_true rfl) dX11_end_22 (fun H locs hP hD hS => ?_)
      have hP : va_P D vwCl [(a0, .inr (11, [.ref ta0, w1, w2, w3, w4, w5, w6, w7, w8, w9, w10, w11, w12, w13])), (ta0, .inr (9, [tv0, tv1, .int ka, tv3, tv4, tv5, tv6, tv7]))] H := hP
      have hD : va_D A [(a0, .inr (11, [.ref ta0, w1, w2, w3, w4, w5, w6, w7, w8, w9, w10, w11, w12, w13])), (ta0, .inr (9, [tv0, tv1, .int ka, tv3, tv4, tv5, tv6, tv7]))] := hD
      refine lv_iload_n hx hb dX11_end_25 rfl (lv_at hl 1 rfl) ?_
      have qc_1 : ¬ (ka : Int32).toInt < (0 : Int32).toInt := fun h => c_1 ((fa_lt _ _).mpr h)
      have qc_12 : (ka : Int32).toInt ≤ (0 : Int32).toInt := (fa_le _ _).mp c_12
      have z0 : (0 : Int32).toInt = 0 := by decide
      exact x_iret hQ hx hb hr hlocks hK hP hD hS dX11_end_26 () (by rw [if_pos (by omega)]; exact (fa_eq _ _).mpr (by omega)) [] (by decide) rfl (Nat.le_of_ble_eq_true rfl) (Nat.le_of_ble_eq_true rfl)
    · refine lv_iconst (v := -1) hx hb dX11_end_15 (by decide) ?_
      have qc_1 : ¬ (ka : Int32).toInt < (0 : Int32).toInt := fun h => c_1 ((fa_lt _ _).mpr h)
      have qc_12 : ¬ (ka : Int32).toInt ≤ (0 : Int32).toInt := fun h => c_12 ((fa_le _ _).mpr h)
      have z0 : (0 : Int32).toInt = 0 := by decide
      exact x_iret hQ hx hb hr hlocks hK hP hD hS dX11_end_16 () ((if_neg (by omega)).symm) [] (by decide) rfl (Nat.le_of_ble_eq_true rfl) (Nat.le_of_ble_eq_true rfl)
theorem dX11_fault_0 : decode cX11_fault 0 = .ok (.iload_n 1, 1) := by decide +kernel
theorem dX11_fault_1 : decode cX11_fault 1 = .ok (.lookupswitch 43 #[(0, 27), (1, 35)], 27) := by decide +kernel
theorem dX11_fault_28 : decode cX11_fault 28 = .ok (.aload_n 0, 1) := by decide +kernel
theorem dX11_fault_29 : decode cX11_fault 29 = .ok (.getfield 21, 3) := by decide +kernel
theorem m_659 : (Cond.fieldLink RX11 21 "CliffJudges" "teller" "LCliffJudges$Teller;") ∈ gT := gm 659 (by decide +kernel) (by decide +kernel)
theorem dX11_fault_32 : decode cX11_fault 32 = .ok (.getfield 114, 3) := by decide +kernel
set_option maxRecDepth 20000 in
theorem i_X10 : ∀ w ∈ u_ws RX10 TX10 10, w ∈ gT := gin [267, 269, 271, 273, 275, 277, 279, 281, 283, 285] (by decide +kernel) (by decide +kernel)
theorem m_264 : (Cond.fieldLink RX11 114 "CliffJudges$Teller" "fault" "I") ∈ gT := gm 264 (by decide +kernel) (by decide +kernel)
theorem dX11_fault_35 : decode cX11_fault 35 = .ok (.ireturn, 1) := by decide +kernel
theorem dX11_fault_36 : decode cX11_fault 36 = .ok (.aload_n 0, 1) := by decide +kernel
theorem dX11_fault_37 : decode cX11_fault 37 = .ok (.getfield 21, 3) := by decide +kernel
theorem dX11_fault_40 : decode cX11_fault 40 = .ok (.getfield 117, 3) := by decide +kernel
theorem m_266 : (Cond.fieldLink RX11 117 "CliffJudges$Teller" "place" "I") ∈ gT := gm 266 (by decide +kernel) (by decide +kernel)
theorem dX11_fault_43 : decode cX11_fault 43 = .ok (.ireturn, 1) := by decide +kernel
theorem dX11_fault_44 : decode cX11_fault 44 = .ok (.iconst (-1), 1) := by decide +kernel
theorem dX11_fault_45 : decode cX11_fault 45 = .ok (.ireturn, 1) := by decide +kernel
set_option maxHeartbeats 400000 in
set_option maxRecDepth 100000 in
theorem t_fault (l : Launch) (D : va_G) (cy : Nat → ClassId) (a0 : Nat) (w0 : Value) (w2 : Value) (w3 : Value) (w4 : Value) (w5 : Value) (w6 : Value) (w7 : Value) (w8 : Value) (w9 : Value) (w10 : Value) (w11 : Value) (w12 : Value) (w13 : Value) (te0 : Nat) (sv0 : Value) (sv1 : Value) (sv2 : Value) (sv3 : Value) (sv4 : Value) (sv5 : Value) (sv6 : Value) (sv7 : Value) (ka : Int32)  : XMi l D (tyL cy) E0 yX11_fault cX11_fault 2 (some .int) (rmk 2 0 0) [.ref a0, .int ka] [(a0, .inr (11, [w0, .ref te0, w2, w3, w4, w5, w6, w7, w8, w9, w10, w11, w12, w13])), (te0, .inr (10, [sv0, sv1, sv2, sv3, sv4, sv5, sv6, sv7, .int 0, .int (-1)]))] (fun (r : Int32) (_ : Unit) => r = if ka.toInt = 0 then 0 else -1) (fun (_ : Unit) => []) := by
  refine XMi.start (by decide) (Nat.le_of_ble_eq_true rfl) ?_
  intro p e s m below meth c args A ls Q hat hQ
  obtain ⟨hx, hb, hr, hml, hown, hg, hlocks, hin, hK, hA, hP, hD, hS, hE, hl⟩ := hat
  have hown : s.vm.findClass RX11 = some m.cls := hown
  have hl : lv_has ls 2 [(0, .ref a0), (1, .int ka)] := hl
  refine lv_iload_n hx hb dX11_fault_0 rfl (lv_at hl 1 rfl) ?_
  rcases (show ka = 0 ∨ ka = 1 ∨ (¬ ka = 0 ∧ ¬ ka = 1) from by by_cases h0 : ka = 0; exact Or.inl h0; by_cases h1 : ka = 1; exact Or.inr (Or.inl h1); exact Or.inr (Or.inr (⟨h0, h1⟩))) with rfl | rfl | hs
  · refine lv_lookup (off := 27) (tgt := 28) hx hb dX11_fault_1 (by decide) (by decide) (by decide) ?_
    refine lv_aload_n hx hb dX11_fault_28 rfl (lv_at hl 0 rfl) ?_
    refine va_get (D := D) (ci := 11) (v := .ref te0) (C := RX11) (T := TX11) (N := 14) hx hb hg i_X11 hown hK hP 0 rfl rfl 1 (by decide) (hg _ m_659) (fun _ h9 => h9) rfl dX11_fault_29 ?_
    refine va_get (D := D) (ci := 10) (v := .int 0) (C := RX10) (T := TX10) (N := 10) hx hb hg i_X10 hown hK hP 1 rfl rfl 8 (by decide) (hg _ m_264) (fun _ h9 => h9) rfl dX11_fault_32 ?_
    exact x_iret hQ hx hb hr hlocks hK hP hD hS dX11_fault_35 () (by decide) [] (by decide) rfl (Nat.le_of_ble_eq_true rfl) (Nat.le_of_ble_eq_true rfl)
  · refine lv_lookup (off := 35) (tgt := 36) hx hb dX11_fault_1 (by decide) (by decide) (by decide) ?_
    refine lv_aload_n hx hb dX11_fault_36 rfl (lv_at hl 0 rfl) ?_
    refine va_get (D := D) (ci := 11) (v := .ref te0) (C := RX11) (T := TX11) (N := 14) hx hb hg i_X11 hown hK hP 0 rfl rfl 1 (by decide) (hg _ m_659) (fun _ h9 => h9) rfl dX11_fault_37 ?_
    refine va_get (D := D) (ci := 10) (v := .int (-1)) (C := RX10) (T := TX10) (N := 10) hx hb hg i_X10 hown hK hP 1 rfl rfl 9 (by decide) (hg _ m_266) (fun _ h9 => h9) rfl dX11_fault_40 ?_
    exact x_iret hQ hx hb hr hlocks hK hP hD hS dX11_fault_43 () (by decide) [] (by decide) rfl (Nat.le_of_ble_eq_true rfl) (Nat.le_of_ble_eq_true rfl)
  · have hs0 : ¬ (0 : Int) = (ka : Int32).toInt := fun h => hs.1 ((fa_eq _ _).mpr h.symm)
    have hs1 : ¬ (1 : Int) = (ka : Int32).toInt := fun h => hs.2 ((fa_eq _ _).mpr h.symm)
    refine lv_lookup (off := 43) (tgt := 44) hx hb dX11_fault_1 (by decide) (by simp [Op.lookupswitch.offset, hs0, hs1]) (by decide) ?_
    refine lv_iconst (v := -1) hx hb dX11_fault_44 (by decide) ?_
    have hz : ¬ ka.toInt = 0 := fun h => hs0 h.symm
    exact x_iret hQ hx hb hr hlocks hK hP hD hS dX11_fault_45 () ((if_neg hz).symm) [] (by decide) rfl (Nat.le_of_ble_eq_true rfl) (Nat.le_of_ble_eq_true rfl)
theorem dX11_lies_0 : decode cX11_lies 0 = .ok (.iload_n 1, 1) := by decide +kernel
theorem dX11_lies_1 : decode cX11_lies 1 = .ok (.ifCond .lt 11, 3) := by decide +kernel
theorem dX11_lies_12 : decode cX11_lies 12 = .ok (.iconst (-1), 1) := by decide +kernel
theorem dX11_lies_13 : decode cX11_lies 13 = .ok (.goto 9, 3) := by decide +kernel
theorem dX11_lies_22 : decode cX11_lies 22 = .ok (.ireturn, 1) := by decide +kernel
theorem dX11_lies_4 : decode cX11_lies 4 = .ok (.iload_n 1, 1) := by decide +kernel
theorem dX11_lies_5 : decode cX11_lies 5 = .ok (.aload_n 0, 1) := by decide +kernel
theorem dX11_lies_6 : decode cX11_lies 6 = .ok (.getfield 89, 3) := by decide +kernel
theorem dX11_lies_9 : decode cX11_lies 9 = .ok (.if_icmp .lt 7, 3) := by decide +kernel
set_option maxHeartbeats 400000 in
set_option maxRecDepth 100000 in
theorem t_lies (l : Launch) (D : va_G) (cy : Nat → ClassId) (a0 : Nat) (w0 : Value) (w1 : Value) (w2 : Value) (w3 : Value) (w4 : Value) (w5 : Value) (w6 : Value) (w7 : Value) (w8 : Value) (w9 : Value) (w10 : Value) (w11 : Value) (w12 : Value) (ka : Int32)  : XMi l D (tyL cy) E0 yX11_lies cX11_lies 2 (some .int) (rmk 2 0 0) [.ref a0, .int ka] [(a0, .inr (11, [w0, w1, w2, w3, w4, w5, w6, w7, w8, w9, w10, w11, w12, .int 0]))] (fun (r : Int32) (_ : Unit) => r = -1) (fun (_ : Unit) => []) := by
  refine XMi.start (by decide) (Nat.le_of_ble_eq_true rfl) ?_
  intro p e s m below meth c args A ls Q hat hQ
  obtain ⟨hx, hb, hr, hml, hown, hg, hlocks, hin, hK, hA, hP, hD, hS, hE, hl⟩ := hat
  have hown : s.vm.findClass RX11 = some m.cls := hown
  have hl : lv_has ls 2 [(0, .ref a0), (1, .int ka)] := hl
  refine lv_iload_n hx hb dX11_lies_0 rfl (lv_at hl 1 rfl) ?_
  refine lv_if_lt (tgt := 12) hx hb dX11_lies_1 (by decide) (fun c_1 => ?_) (fun c_1 => ?_)
  · refine lv_iconst (v := -1) hx hb dX11_lies_12 (by decide) ?_
    refine lv_goto (tgt := 22) hx hb dX11_lies_13 (by decide) ?_
    exact x_iret hQ hx hb hr hlocks hK hP hD hS dX11_lies_22 () (rfl) [] (by decide) rfl (Nat.le_of_ble_eq_true rfl) (Nat.le_of_ble_eq_true rfl)
  · refine lv_iload_n hx hb dX11_lies_4 rfl (lv_at hl 1 rfl) ?_
    refine lv_aload_n hx hb dX11_lies_5 rfl (lv_at hl 0 rfl) ?_
    refine va_get (D := D) (ci := 11) (v := .int 0) (C := RX11) (T := TX11) (N := 14) hx hb hg i_X11 hown hK hP 0 rfl rfl 13 (by decide) (hg _ m_671) (fun _ h9 => h9) rfl dX11_lies_6 ?_
    refine lv_icmp_lt (tgt := 16) hx hb dX11_lies_9 (by decide) (fun h => absurd h c_1) (fun _ => ?_)
    refine lv_iconst (v := -1) hx hb dX11_lies_12 (by decide) ?_
    refine lv_goto (tgt := 22) hx hb dX11_lies_13 (by decide) ?_
    exact x_iret hQ hx hb hr hlocks hK hP hD hS dX11_lies_22 () (rfl) [] (by decide) rfl (Nat.le_of_ble_eq_true rfl) (Nat.le_of_ble_eq_true rfl)
theorem dX11_later_0 : decode cX11_later 0 = .ok (.iload_n 1, 1) := by decide +kernel
theorem dX11_later_1 : decode cX11_later 1 = .ok (.ifCond .lt 25, 3) := by decide +kernel
theorem dX11_later_26 : decode cX11_later 26 = .ok (.iconst (-1), 1) := by decide +kernel
theorem dX11_later_27 : decode cX11_later 27 = .ok (.ireturn, 1) := by decide +kernel
theorem dX11_later_4 : decode cX11_later 4 = .ok (.iload_n 1, 1) := by decide +kernel
theorem dX11_later_5 : decode cX11_later 5 = .ok (.sipush 1000, 3) := by decide +kernel
theorem dX11_later_8 : decode cX11_later 8 = .ok (.if_icmp .gt 18, 3) := by decide +kernel
theorem dX11_later_11 : decode cX11_later 11 = .ok (.aload_n 0, 1) := by decide +kernel
theorem dX11_later_12 : decode cX11_later 12 = .ok (.getfield 45, 3) := by decide +kernel
theorem m_663 : (Cond.fieldLink RX11 45 "CliffJudges" "sounds" "LCliffJudges$Sounds;") ∈ gT := gm 663 (by decide +kernel) (by decide +kernel)
theorem dX11_later_15 : decode cX11_later 15 = .ok (.getfield 268, 3) := by decide +kernel
set_option maxRecDepth 20000 in
theorem i_X8 : ∀ w ∈ u_ws RX8 TX8 13, w ∈ gT := gin [472, 474, 476, 478, 480, 482, 484, 486, 488, 490, 492, 494, 496] (by decide +kernel) (by decide +kernel)
theorem m_465 : (Cond.fieldLink RX11 268 "CliffJudges$Sounds" "time" "I") ∈ gT := gm 465 (by decide +kernel) (by decide +kernel)
theorem dX11_later_18 : decode cX11_later 18 = .ok (.iload_n 1, 1) := by decide +kernel
theorem dX11_later_19 : decode cX11_later 19 = .ok (.iadd, 1) := by decide +kernel
theorem dX11_later_20 : decode cX11_later 20 = .ok (.ldc_w 271, 3) := by decide +kernel
theorem m_1340 : (Cond.constant RX11 271 (100000)) ∈ gT := gm 1340 (by decide +kernel) (by decide +kernel)
theorem dX11_later_23 : decode cX11_later 23 = .ok (.if_icmp .le 5, 3) := by decide +kernel
theorem dX11_later_28 : decode cX11_later 28 = .ok (.aload_n 0, 1) := by decide +kernel
theorem dX11_later_29 : decode cX11_later 29 = .ok (.getfield 45, 3) := by decide +kernel
theorem dX11_later_32 : decode cX11_later 32 = .ok (.dup, 1) := by decide +kernel
theorem dX11_later_33 : decode cX11_later 33 = .ok (.getfield 268, 3) := by decide +kernel
theorem dX11_later_36 : decode cX11_later 36 = .ok (.iload_n 1, 1) := by decide +kernel
theorem dX11_later_37 : decode cX11_later 37 = .ok (.iadd, 1) := by decide +kernel
theorem dX11_later_38 : decode cX11_later 38 = .ok (.putfield 268, 3) := by decide +kernel
theorem dX11_later_41 : decode cX11_later 41 = .ok (.aload_n 0, 1) := by decide +kernel
theorem dX11_later_42 : decode cX11_later 42 = .ok (.getfield 45, 3) := by decide +kernel
theorem dX11_later_45 : decode cX11_later 45 = .ok (.getfield 268, 3) := by decide +kernel
theorem dX11_later_48 : decode cX11_later 48 = .ok (.ireturn, 1) := by decide +kernel
set_option maxHeartbeats 400000 in
set_option maxRecDepth 100000 in
theorem t_later (l : Launch) (D : va_G) (cy : Nat → ClassId) (a0 : Nat) (w0 : Value) (w1 : Value) (w2 : Value) (w3 : Value) (w4 : Value) (w6 : Value) (w7 : Value) (w8 : Value) (w9 : Value) (w10 : Value) (w11 : Value) (w12 : Value) (w13 : Value) (so0 : Nat) (uv0 : Value) (uv1 : Value) (uv2 : Value) (uv3 : Value) (uv4 : Value) (uv5 : Value) (uv6 : Value) (uv7 : Value) (uv8 : Value) (uv10 : Value) (uv11 : Value) (uv12 : Value) (ka : Int32)  : XMi l D (tyL cy) E0 yX11_later cX11_later 2 (some .int) (rmk 2 0 0) [.ref a0, .int ka] [(a0, .inr (11, [w0, w1, w2, w3, w4, .ref so0, w6, w7, w8, w9, w10, w11, w12, w13])), (so0, .inr (8, [uv0, uv1, uv2, uv3, uv4, uv5, uv6, uv7, uv8, .int 0, uv10, uv11, uv12]))] (fun (r : Int32) (_ : Unit) => r = if 0 ≤ ka.toInt ∧ ka.toInt ≤ 1000 then ka else -1) (fun (_ : Unit) => []) := by
  refine XMi.start (by decide) (Nat.le_of_ble_eq_true rfl) ?_
  intro p e s m below meth c args A ls Q hat hQ
  obtain ⟨hx, hb, hr, hml, hown, hg, hlocks, hin, hK, hA, hP, hD, hS, hE, hl⟩ := hat
  have hown : s.vm.findClass RX11 = some m.cls := hown
  have hl : lv_has ls 2 [(0, .ref a0), (1, .int ka)] := hl
  refine lv_iload_n hx hb dX11_later_0 rfl (lv_at hl 1 rfl) ?_
  refine lv_if_lt (tgt := 26) hx hb dX11_later_1 (by decide) (fun c_1 => ?_) (fun c_1 => ?_)
  · refine lv_iconst (v := -1) hx hb dX11_later_26 (by decide) ?_
    have qc_1 : (ka : Int32).toInt < (0 : Int32).toInt := (fa_lt _ _).mp c_1
    have z0 : (0 : Int32).toInt = 0 := by decide
    exact x_iret hQ hx hb hr hlocks hK hP hD hS dX11_later_27 () ((if_neg (by omega)).symm) [] (by decide) rfl (Nat.le_of_ble_eq_true rfl) (Nat.le_of_ble_eq_true rfl)
  · refine lv_iload_n hx hb dX11_later_4 rfl (lv_at hl 1 rfl) ?_
    refine lv_sipush (v := 1000) hx hb dX11_later_5 (by decide) ?_
    refine lv_icmp_gt (tgt := 26) hx hb dX11_later_8 (by decide) (fun c_8 => ?_) (fun c_8 => ?_)
    · refine lv_iconst (v := -1) hx hb dX11_later_26 (by decide) ?_
      have qc_1 : ¬ (ka : Int32).toInt < (0 : Int32).toInt := fun h => c_1 ((fa_lt _ _).mpr h)
      have qc_8 : (1000 : Int32).toInt < (ka : Int32).toInt := (fa_lt _ _).mp c_8
      have z0 : (0 : Int32).toInt = 0 := by decide
      have z1000 : (1000 : Int32).toInt = 1000 := by decide
      exact x_iret hQ hx hb hr hlocks hK hP hD hS dX11_later_27 () ((if_neg (by omega)).symm) [] (by decide) rfl (Nat.le_of_ble_eq_true rfl) (Nat.le_of_ble_eq_true rfl)
    · refine lv_aload_n hx hb dX11_later_11 rfl (lv_at hl 0 rfl) ?_
      refine va_get (D := D) (ci := 11) (v := .ref so0) (C := RX11) (T := TX11) (N := 14) hx hb hg i_X11 hown hK hP 0 rfl rfl 5 (by decide) (hg _ m_663) (fun _ h9 => h9) rfl dX11_later_12 ?_
      refine va_get (D := D) (ci := 8) (v := .int 0) (C := RX8) (T := TX8) (N := 13) hx hb hg i_X8 hown hK hP 1 rfl rfl 9 (by decide) (hg _ m_465) (fun _ h9 => h9) rfl dX11_later_15 ?_
      refine lv_iload_n hx hb dX11_later_18 rfl (lv_at hl 1 rfl) ?_
      refine lv_iadd hx hb dX11_later_19 ?_
      refine lv_topi (fun x_1 ex_1 => ?_)
      refine lv_ldcw (v := 100000) hx hb hown (hg _ m_1340) dX11_later_20 ?_
      have qc_1 : ¬ (ka : Int32).toInt < (0 : Int32).toInt := fun h => c_1 ((fa_lt _ _).mpr h)
      have qc_8 : ¬ (1000 : Int32).toInt < (ka : Int32).toInt := fun h => c_8 ((fa_lt _ _).mpr h)
      have z0 : (0 : Int32).toInt = 0 := by decide
      have z1000 : (1000 : Int32).toInt = 1000 := by decide
      have z100000 : (100000 : Int32).toInt = 100000 := by decide
      have hle : x_1 ≤ (100000 : Int32) := by rw [ex_1, Int32.zero_add, fa_le]; omega
      refine lv_icmp_le (tgt := 28) hx hb dX11_later_23 (by decide) (fun _ => ?_) (fun h => absurd hle h)
      refine lv_aload_n hx hb dX11_later_28 rfl (lv_at hl 0 rfl) ?_
      refine va_get (D := D) (ci := 11) (v := .ref so0) (C := RX11) (T := TX11) (N := 14) hx hb hg i_X11 hown hK hP 0 rfl rfl 5 (by decide) (hg _ m_663) (fun _ h9 => h9) rfl dX11_later_29 ?_
      refine lv_dup hx hb dX11_later_32 rfl ?_
      refine va_get (D := D) (ci := 8) (v := .int 0) (C := RX8) (T := TX8) (N := 13) hx hb hg i_X8 hown hK hP 1 rfl rfl 9 (by decide) (hg _ m_465) (fun _ h9 => h9) rfl dX11_later_33 ?_
      refine lv_iload_n hx hb dX11_later_36 rfl (lv_at hl 1 rfl) ?_
      refine lv_iadd hx hb dX11_later_37 ?_
      refine lv_topi (fun x_2 ex_2 => ?_)
      refine va_put (D := D) (ci := 8) (v := .int x_2) (ty := .int) (C := RX8) (T := TX8) (N := 13) hx hb hg i_X8 tyX8 tyX8_ok nmX8 hown hK hP hD hS 1 rfl rfl 9 (by decide) (hg _ m_465) (fun _ h9 => h9) rfl (by decide +kernel) rfl rfl (Nat.le_of_ble_eq_true rfl) dX11_later_38 (fun H locs hP hD hS => ?_)
      have hP : va_P D vwCl [(a0, .inr (11, [w0, w1, w2, w3, w4, .ref so0, w6, w7, w8, w9, w10, w11, w12, w13])), (so0, .inr (8, [uv0, uv1, uv2, uv3, uv4, uv5, uv6, uv7, uv8, .int x_2, uv10, uv11, uv12]))] H := hP
      have hD : va_D A [(a0, .inr (11, [w0, w1, w2, w3, w4, .ref so0, w6, w7, w8, w9, w10, w11, w12, w13])), (so0, .inr (8, [uv0, uv1, uv2, uv3, uv4, uv5, uv6, uv7, uv8, .int x_2, uv10, uv11, uv12]))] := hD
      refine lv_aload_n hx hb dX11_later_41 rfl (lv_at hl 0 rfl) ?_
      refine va_get (D := D) (ci := 11) (v := .ref so0) (C := RX11) (T := TX11) (N := 14) hx hb hg i_X11 hown hK hP 0 rfl rfl 5 (by decide) (hg _ m_663) (fun _ h9 => h9) rfl dX11_later_42 ?_
      refine va_get (D := D) (ci := 8) (v := .int x_2) (C := RX8) (T := TX8) (N := 13) hx hb hg i_X8 hown hK hP 1 rfl rfl 9 (by decide) (hg _ m_465) (fun _ h9 => h9) rfl dX11_later_45 ?_
      have qc_1 : ¬ (ka : Int32).toInt < (0 : Int32).toInt := fun h => c_1 ((fa_lt _ _).mpr h)
      have qc_8 : ¬ (1000 : Int32).toInt < (ka : Int32).toInt := fun h => c_8 ((fa_lt _ _).mpr h)
      have z0 : (0 : Int32).toInt = 0 := by decide
      have z1000 : (1000 : Int32).toInt = 1000 := by decide
      exact x_iret hQ hx hb hr hlocks hK hP hD hS dX11_later_48 () (by rw [if_pos (by omega), ex_2, Int32.zero_add]) [] (by decide) rfl (Nat.le_of_ble_eq_true rfl) (Nat.le_of_ble_eq_true rfl)
theorem dX11_ask_0 : decode cX11_ask 0 = .ok (.iload_n 1, 1) := by decide +kernel
theorem dX11_ask_1 : decode cX11_ask 1 = .ok (.ifCond .lt 20, 3) := by decide +kernel
theorem dX11_ask_21 : decode cX11_ask 21 = .ok (.iconst (-1), 1) := by decide +kernel
theorem dX11_ask_22 : decode cX11_ask 22 = .ok (.ireturn, 1) := by decide +kernel
theorem dX11_ask_4 : decode cX11_ask 4 = .ok (.iload_n 1, 1) := by decide +kernel
theorem dX11_ask_5 : decode cX11_ask 5 = .ok (.iconst 1, 1) := by decide +kernel
theorem dX11_ask_6 : decode cX11_ask 6 = .ok (.if_icmp .gt 15, 3) := by decide +kernel
theorem dX11_ask_9 : decode cX11_ask 9 = .ok (.aload_n 0, 1) := by decide +kernel
theorem dX11_ask_10 : decode cX11_ask 10 = .ok (.getfield 28, 3) := by decide +kernel
theorem dX11_ask_13 : decode cX11_ask 13 = .ok (.getfield 111, 3) := by decide +kernel
theorem m_335 : (Cond.fieldLink RX11 111 "CliffJudges$Hills" "counts" "[I") ∈ gT := gm 335 (by decide +kernel) (by decide +kernel)
theorem dX11_ask_16 : decode cX11_ask 16 = .ok (.iconst 1, 1) := by decide +kernel
theorem dX11_ask_17 : decode cX11_ask 17 = .ok (.iaload, 1) := by decide +kernel
theorem dX11_ask_18 : decode cX11_ask 18 = .ok (.ifCond .ne 5, 3) := by decide +kernel
set_option maxHeartbeats 400000 in
set_option maxRecDepth 100000 in
theorem t_ask (l : Launch) (D : va_G) (cy : Nat → ClassId) (a0 : Nat) (w0 : Value) (w1 : Value) (w3 : Value) (w4 : Value) (w5 : Value) (w6 : Value) (w7 : Value) (w8 : Value) (w9 : Value) (w10 : Value) (w11 : Value) (w12 : Value) (w13 : Value) (h0 : Nat) (h1 : Nat) (v1 : Value) (v2 : Value) (v3 : Value) (v4 : Value) (v5 : Value) (v6 : Value) (v7 : Value) (v8 : Value) (v9 : Value) (v10 : Value) (v11 : Value) (v12 : Value) (v13 : Value) (v14 : Value) (v15 : Value) (ka : Int32) (kb : Int32)  : XMi l D (tyL cy) E0 yX11_ask cX11_ask 3 (some .int) (rmk 2 0 0) [.ref a0, .int ka, .int kb] [(a0, .inr (11, [w0, w1, .ref h0, w3, w4, w5, w6, w7, w8, w9, w10, w11, w12, w13])), (h0, .inr (4, [.ref h1, v1, v2, v3, v4, v5, v6, v7, v8, v9, v10, v11, v12, v13, v14, v15])), (h1, .inl (cy 1, 4, .inl (fun _ => 0)))] (fun (r : Int32) (_ : Unit) => r = -1) (fun (_ : Unit) => []) := by
  refine XMi.start (by decide) (Nat.le_of_ble_eq_true rfl) ?_
  intro p e s m below meth c args A ls Q hat hQ
  obtain ⟨hx, hb, hr, hml, hown, hg, hlocks, hin, hK, hA, hP, hD, hS, hE, hl⟩ := hat
  have hown : s.vm.findClass RX11 = some m.cls := hown
  have hl : lv_has ls 3 [(0, .ref a0), (1, .int ka), (2, .int kb)] := hl
  refine lv_iload_n hx hb dX11_ask_0 rfl (lv_at hl 1 rfl) ?_
  refine lv_if_lt (tgt := 21) hx hb dX11_ask_1 (by decide) (fun c_1 => ?_) (fun c_1 => ?_)
  · refine lv_iconst (v := -1) hx hb dX11_ask_21 (by decide) ?_
    exact x_iret hQ hx hb hr hlocks hK hP hD hS dX11_ask_22 () (rfl) [] (by decide) rfl (Nat.le_of_ble_eq_true rfl) (Nat.le_of_ble_eq_true rfl)
  · refine lv_iload_n hx hb dX11_ask_4 rfl (lv_at hl 1 rfl) ?_
    refine lv_iconst (v := 1) hx hb dX11_ask_5 (by decide) ?_
    refine lv_icmp_gt (tgt := 21) hx hb dX11_ask_6 (by decide) (fun c_6 => ?_) (fun c_6 => ?_)
    · refine lv_iconst (v := -1) hx hb dX11_ask_21 (by decide) ?_
      exact x_iret hQ hx hb hr hlocks hK hP hD hS dX11_ask_22 () (rfl) [] (by decide) rfl (Nat.le_of_ble_eq_true rfl) (Nat.le_of_ble_eq_true rfl)
    · refine lv_aload_n hx hb dX11_ask_9 rfl (lv_at hl 0 rfl) ?_
      refine va_get (D := D) (ci := 11) (v := .ref h0) (C := RX11) (T := TX11) (N := 14) hx hb hg i_X11 hown hK hP 0 rfl rfl 2 (by decide) (hg _ m_660) (fun _ h9 => h9) rfl dX11_ask_10 ?_
      refine va_get (D := D) (ci := 4) (v := .ref h1) (C := RX4) (T := TX4) (N := 16) hx hb hg i_X4 hown hK hP 1 rfl rfl 0 (by decide) (hg _ m_335) (fun _ h9 => h9) rfl dX11_ask_13 ?_
      refine lv_iconst (v := 1) hx hb dX11_ask_16 (by decide) ?_
      refine va_iald hx hb hK hP 2 1 rfl rfl (by unfold vp_in; decide) dX11_ask_17 ?_
      refine lv_topi (fun y_1 hy_1 => ?_)
      obtain rfl : y_1 = 0 := hy_1.trans (by decide +kernel)
      refine lv_if_ne (tgt := 23) hx hb dX11_ask_18 (by decide) (fun h => absurd (by decide) h) (fun _ => ?_)
      refine lv_iconst (v := -1) hx hb dX11_ask_21 (by decide) ?_
      exact x_iret hQ hx hb hr hlocks hK hP hD hS dX11_ask_22 () (rfl) [] (by decide) rfl (Nat.le_of_ble_eq_true rfl) (Nat.le_of_ble_eq_true rfl)
theorem dX5_stepBack_0 : decode cX5_stepBack 0 = .ok (.aload_n 0, 1) := by decide +kernel
theorem dX5_stepBack_1 : decode cX5_stepBack 1 = .ok (.getfield 45, 3) := by decide +kernel
theorem m_429 : (Cond.fieldLink RX5 45 "CliffJudges$Moments" "undoable" "I") ∈ gT := gm 429 (by decide +kernel) (by decide +kernel)
theorem dX5_stepBack_4 : decode cX5_stepBack 4 = .ok (.ifCond .ne 5, 3) := by decide +kernel
theorem dX5_stepBack_7 : decode cX5_stepBack 7 = .ok (.iconst 0, 1) := by decide +kernel
theorem dX5_stepBack_8 : decode cX5_stepBack 8 = .ok (.ireturn, 1) := by decide +kernel
set_option maxHeartbeats 400000 in
set_option maxRecDepth 100000 in
theorem c_stepBack (l : Launch) (D : va_G) (cy : Nat → ClassId) (n0 : Nat) (n1 : Nat) (n2 : Nat) (n3 : Nat) (z3 : Value) (z4 : Value) (z6 : Value)  : XMi l D (tyL cy) E0 yX5_stepBack cX5_stepBack 1 (some .boolean) (rmk 0 0 0) [.ref n0] [(n0, .inr (5, [.ref n1, .ref n2, .ref n3, z3, z4, .int 0, z6]))] (fun (r : Int32) (_ : Unit) => r = 0) (fun (_ : Unit) => []) := by
  refine XMi.start (by decide) (Nat.le_of_ble_eq_true rfl) ?_
  intro p e s m below meth c args A ls Q hat hQ
  obtain ⟨hx, hb, hr, hml, hown, hg, hlocks, hin, hK, hA, hP, hD, hS, hE, hl⟩ := hat
  have hown : s.vm.findClass RX5 = some m.cls := hown
  have hl : lv_has ls 1 [(0, .ref n0)] := hl
  refine lv_aload_n hx hb dX5_stepBack_0 rfl (lv_at hl 0 rfl) ?_
  refine va_get (D := D) (ci := 5) (v := .int 0) (C := RX5) (T := TX5) (N := 7) hx hb hg i_X5 hown hK hP 0 rfl rfl 5 (by decide) (hg _ m_429) (fun _ h9 => h9) rfl dX5_stepBack_1 ?_
  refine lv_if_ne (tgt := 9) hx hb dX5_stepBack_4 (by decide) (fun h => absurd (by decide) h) (fun _ => ?_)
  refine lv_iconst (v := 0) hx hb dX5_stepBack_7 (by decide) ?_
  exact x_zret hQ hx hb hr hlocks hK hP hD hS rfl dX5_stepBack_8 () (rfl) [] (by decide) rfl (Nat.le_of_ble_eq_true rfl) (Nat.le_of_ble_eq_true rfl)
theorem dX11_undo_0 : decode cX11_undo 0 = .ok (.aload_n 0, 1) := by decide +kernel
theorem dX11_undo_1 : decode cX11_undo 1 = .ok (.getfield 38, 3) := by decide +kernel
theorem dX11_undo_4 : decode cX11_undo 4 = .ok (.invokevirtual 177, 3) := by decide +kernel
theorem m_1104 : (Cond.methodLink RX11 177 yX5_stepBack) ∈ gT := gm 1104 (by decide +kernel) (by decide +kernel)
theorem m_1105 : (Cond.instanceMethod yX5_stepBack) ∈ gT := gm 1105 (by decide +kernel) (by decide +kernel)
theorem m_1106 : (Cond.selects RX5 yX5_stepBack yX5_stepBack) ∈ gT := gm 1106 (by decide +kernel) (by decide +kernel)
theorem m_1107 : (Cond.code yX5_stepBack cX5_stepBack 1 (some .boolean)) ∈ gT := gm 1107 (by decide +kernel) (by decide +kernel)
theorem k_X11_177 : xV RX11 RX5 177 yX5_stepBack cX5_stepBack 1 (some .boolean) 0 := ⟨⟨m_1104, m_1105, m_1106, m_139, m_1107⟩, rfl, by decide, by decide, by decide +kernel⟩
theorem dX11_undo_7 : decode cX11_undo 7 = .ok (.ireturn, 1) := by decide +kernel
set_option maxHeartbeats 400000 in
set_option maxRecDepth 100000 in
theorem t_undo (l : Launch) (D : va_G) (cy : Nat → ClassId) (a0 : Nat) (w0 : Value) (w1 : Value) (w2 : Value) (w3 : Value) (w5 : Value) (w6 : Value) (w7 : Value) (w8 : Value) (w9 : Value) (w10 : Value) (w11 : Value) (w12 : Value) (w13 : Value) (n0 : Nat) (n1 : Nat) (n2 : Nat) (n3 : Nat) (z3 : Value) (z4 : Value) (z6 : Value)  : XMi l D (tyL cy) E0 yX11_undo cX11_undo 1 (some .boolean) (rmk 2 0 0) [.ref a0] [(a0, .inr (11, [w0, w1, w2, w3, .ref n0, w5, w6, w7, w8, w9, w10, w11, w12, w13])), (n0, .inr (5, [.ref n1, .ref n2, .ref n3, z3, z4, .int 0, z6]))] (fun (r : Int32) (_ : Unit) => r = 0) (fun (_ : Unit) => []) := by
  refine XMi.start (by decide) (Nat.le_of_ble_eq_true rfl) ?_
  intro p e s m below meth c args A ls Q hat hQ
  obtain ⟨hx, hb, hr, hml, hown, hg, hlocks, hin, hK, hA, hP, hD, hS, hE, hl⟩ := hat
  have hown : s.vm.findClass RX11 = some m.cls := hown
  have hl : lv_has ls 1 [(0, .ref a0)] := hl
  refine lv_aload_n hx hb dX11_undo_0 rfl (lv_at hl 0 rfl) ?_
  refine va_get (D := D) (ci := 11) (v := .ref n0) (C := RX11) (T := TX11) (N := 14) hx hb hg i_X11 hown hK hP 0 rfl rfl 4 (by decide) (hg _ m_662) (fun _ h9 => h9) rfl dX11_undo_1 ?_
  refine x_callVi (q := (RX5, TX5, 7)) (ci := 5) (q0 := 0) (wr := [(a0, .inr (11, [w0, w1, w2, w3, .ref n0, w5, w6, w7, w8, w9, w10, w11, w12, w13]))]) (rest := []) ⟨hx, hb, hml, hown, hg, hl.1⟩ k_X11_177 (c_stepBack l D cy n0 n1 n2 n3 z3 z4 z6) E0_blind hK hP hD hS hA [1] [0] ⟨rfl, rfl, by decide, by decide, by decide⟩ rfl rfl (fun _ _ _ => trivial) dX11_undo_4 rfl rfl (Nat.le_of_ble_eq_true rfl) ⟨Nat.le_of_ble_eq_true rfl, Nat.le_of_ble_eq_true rfl⟩ ⟨Nat.le_of_ble_eq_true rfl, Nat.le_of_ble_eq_true rfl⟩ (fun r1 u1 H locs hw1 hP hD hS => ?_)
  have hP : va_P D vwCl [(a0, .inr (11, [w0, w1, w2, w3, .ref n0, w5, w6, w7, w8, w9, w10, w11, w12, w13]))] H := hP
  have hD : va_D A [(a0, .inr (11, [w0, w1, w2, w3, .ref n0, w5, w6, w7, w8, w9, w10, w11, w12, w13]))] := hD
  refine W.widen (k := 0) (n := 0) (Nat.le_of_ble_eq_true rfl) (Nat.le_of_ble_eq_true rfl) ?_
  have hw1 : r1 = 0 := hw1
  subst hw1
  exact x_zret hQ hx hb hr hlocks hK hP hD hS rfl dX11_undo_7 () (rfl) [] (by decide) rfl (Nat.le_of_ble_eq_true rfl) (Nat.le_of_ble_eq_true rfl)
theorem dX5_stepOn_0 : decode cX5_stepOn 0 = .ok (.aload_n 0, 1) := by decide +kernel
theorem dX5_stepOn_1 : decode cX5_stepOn 1 = .ok (.getfield 48, 3) := by decide +kernel
theorem m_431 : (Cond.fieldLink RX5 48 "CliffJudges$Moments" "redoable" "I") ∈ gT := gm 431 (by decide +kernel) (by decide +kernel)
theorem dX5_stepOn_4 : decode cX5_stepOn 4 = .ok (.ifCond .ne 5, 3) := by decide +kernel
theorem dX5_stepOn_7 : decode cX5_stepOn 7 = .ok (.iconst 0, 1) := by decide +kernel
theorem dX5_stepOn_8 : decode cX5_stepOn 8 = .ok (.ireturn, 1) := by decide +kernel
set_option maxHeartbeats 400000 in
set_option maxRecDepth 100000 in
theorem c_stepOn (l : Launch) (D : va_G) (cy : Nat → ClassId) (n0 : Nat) (n1 : Nat) (n2 : Nat) (n3 : Nat) (z3 : Value) (z4 : Value) (z5 : Value)  : XMi l D (tyL cy) E0 yX5_stepOn cX5_stepOn 1 (some .boolean) (rmk 0 0 0) [.ref n0] [(n0, .inr (5, [.ref n1, .ref n2, .ref n3, z3, z4, z5, .int 0]))] (fun (r : Int32) (_ : Unit) => r = 0) (fun (_ : Unit) => []) := by
  refine XMi.start (by decide) (Nat.le_of_ble_eq_true rfl) ?_
  intro p e s m below meth c args A ls Q hat hQ
  obtain ⟨hx, hb, hr, hml, hown, hg, hlocks, hin, hK, hA, hP, hD, hS, hE, hl⟩ := hat
  have hown : s.vm.findClass RX5 = some m.cls := hown
  have hl : lv_has ls 1 [(0, .ref n0)] := hl
  refine lv_aload_n hx hb dX5_stepOn_0 rfl (lv_at hl 0 rfl) ?_
  refine va_get (D := D) (ci := 5) (v := .int 0) (C := RX5) (T := TX5) (N := 7) hx hb hg i_X5 hown hK hP 0 rfl rfl 6 (by decide) (hg _ m_431) (fun _ h9 => h9) rfl dX5_stepOn_1 ?_
  refine lv_if_ne (tgt := 9) hx hb dX5_stepOn_4 (by decide) (fun h => absurd (by decide) h) (fun _ => ?_)
  refine lv_iconst (v := 0) hx hb dX5_stepOn_7 (by decide) ?_
  exact x_zret hQ hx hb hr hlocks hK hP hD hS rfl dX5_stepOn_8 () (rfl) [] (by decide) rfl (Nat.le_of_ble_eq_true rfl) (Nat.le_of_ble_eq_true rfl)
theorem dX11_redo_0 : decode cX11_redo 0 = .ok (.aload_n 0, 1) := by decide +kernel
theorem dX11_redo_1 : decode cX11_redo 1 = .ok (.getfield 38, 3) := by decide +kernel
theorem dX11_redo_4 : decode cX11_redo 4 = .ok (.invokevirtual 181, 3) := by decide +kernel
theorem m_1116 : (Cond.methodLink RX11 181 yX5_stepOn) ∈ gT := gm 1116 (by decide +kernel) (by decide +kernel)
theorem m_1117 : (Cond.instanceMethod yX5_stepOn) ∈ gT := gm 1117 (by decide +kernel) (by decide +kernel)
theorem m_1118 : (Cond.selects RX5 yX5_stepOn yX5_stepOn) ∈ gT := gm 1118 (by decide +kernel) (by decide +kernel)
theorem m_1119 : (Cond.code yX5_stepOn cX5_stepOn 1 (some .boolean)) ∈ gT := gm 1119 (by decide +kernel) (by decide +kernel)
theorem k_X11_181 : xV RX11 RX5 181 yX5_stepOn cX5_stepOn 1 (some .boolean) 0 := ⟨⟨m_1116, m_1117, m_1118, m_139, m_1119⟩, rfl, by decide, by decide, by decide +kernel⟩
theorem dX11_redo_7 : decode cX11_redo 7 = .ok (.ireturn, 1) := by decide +kernel
set_option maxHeartbeats 400000 in
set_option maxRecDepth 100000 in
theorem t_redo (l : Launch) (D : va_G) (cy : Nat → ClassId) (a0 : Nat) (w0 : Value) (w1 : Value) (w2 : Value) (w3 : Value) (w5 : Value) (w6 : Value) (w7 : Value) (w8 : Value) (w9 : Value) (w10 : Value) (w11 : Value) (w12 : Value) (w13 : Value) (n0 : Nat) (n1 : Nat) (n2 : Nat) (n3 : Nat) (z3 : Value) (z4 : Value) (z5 : Value)  : XMi l D (tyL cy) E0 yX11_redo cX11_redo 1 (some .boolean) (rmk 2 0 0) [.ref a0] [(a0, .inr (11, [w0, w1, w2, w3, .ref n0, w5, w6, w7, w8, w9, w10, w11, w12, w13])), (n0, .inr (5, [.ref n1, .ref n2, .ref n3, z3, z4, z5, .int 0]))] (fun (r : Int32) (_ : Unit) => r = 0) (fun (_ : Unit) => []) := by
  refine XMi.start (by decide) (Nat.le_of_ble_eq_true rfl) ?_
  intro p e s m below meth c args A ls Q hat hQ
  obtain ⟨hx, hb, hr, hml, hown, hg, hlocks, hin, hK, hA, hP, hD, hS, hE, hl⟩ := hat
  have hown : s.vm.findClass RX11 = some m.cls := hown
  have hl : lv_has ls 1 [(0, .ref a0)] := hl
  refine lv_aload_n hx hb dX11_redo_0 rfl (lv_at hl 0 rfl) ?_
  refine va_get (D := D) (ci := 11) (v := .ref n0) (C := RX11) (T := TX11) (N := 14) hx hb hg i_X11 hown hK hP 0 rfl rfl 4 (by decide) (hg _ m_662) (fun _ h9 => h9) rfl dX11_redo_1 ?_
  refine x_callVi (q := (RX5, TX5, 7)) (ci := 5) (q0 := 0) (wr := [(a0, .inr (11, [w0, w1, w2, w3, .ref n0, w5, w6, w7, w8, w9, w10, w11, w12, w13]))]) (rest := []) ⟨hx, hb, hml, hown, hg, hl.1⟩ k_X11_181 (c_stepOn l D cy n0 n1 n2 n3 z3 z4 z5) E0_blind hK hP hD hS hA [1] [0] ⟨rfl, rfl, by decide, by decide, by decide⟩ rfl rfl (fun _ _ _ => trivial) dX11_redo_4 rfl rfl (Nat.le_of_ble_eq_true rfl) ⟨Nat.le_of_ble_eq_true rfl, Nat.le_of_ble_eq_true rfl⟩ ⟨Nat.le_of_ble_eq_true rfl, Nat.le_of_ble_eq_true rfl⟩ (fun r1 u1 H locs hw1 hP hD hS => ?_)
  have hP : va_P D vwCl [(a0, .inr (11, [w0, w1, w2, w3, .ref n0, w5, w6, w7, w8, w9, w10, w11, w12, w13]))] H := hP
  have hD : va_D A [(a0, .inr (11, [w0, w1, w2, w3, .ref n0, w5, w6, w7, w8, w9, w10, w11, w12, w13]))] := hD
  refine W.widen (k := 0) (n := 0) (Nat.le_of_ble_eq_true rfl) (Nat.le_of_ble_eq_true rfl) ?_
  have hw1 : r1 = 0 := hw1
  subst hw1
  exact x_zret hQ hx hb hr hlocks hK hP hD hS rfl dX11_redo_7 () (rfl) [] (by decide) rfl (Nat.le_of_ble_eq_true rfl) (Nat.le_of_ble_eq_true rfl)
theorem dX8_takeBack_0 : decode cX8_takeBack 0 = .ok (.iload_n 1, 1) := by decide +kernel
theorem dX8_takeBack_1 : decode cX8_takeBack 1 = .ok (.ifCond .lt 21, 3) := by decide +kernel
theorem dX8_takeBack_22 : decode cX8_takeBack 22 = .ok (.iconst 0, 1) := by decide +kernel
theorem dX8_takeBack_23 : decode cX8_takeBack 23 = .ok (.ireturn, 1) := by decide +kernel
theorem dX8_takeBack_4 : decode cX8_takeBack 4 = .ok (.iload_n 1, 1) := by decide +kernel
theorem dX8_takeBack_5 : decode cX8_takeBack 5 = .ok (.aload_n 0, 1) := by decide +kernel
theorem dX8_takeBack_6 : decode cX8_takeBack 6 = .ok (.getfield 38, 3) := by decide +kernel
theorem m_462 : (Cond.fieldLink RX8 38 "CliffJudges$Sounds" "count" "I") ∈ gT := gm 462 (by decide +kernel) (by decide +kernel)
theorem dX8_takeBack_9 : decode cX8_takeBack 9 = .ok (.if_icmp .ge 13, 3) := by decide +kernel
set_option maxHeartbeats 400000 in
set_option maxRecDepth 100000 in
theorem c_takeBack (l : Launch) (D : va_G) (cy : Nat → ClassId) (so0 : Nat) (uv0 : Value) (uv1 : Value) (uv2 : Value) (uv3 : Value) (uv4 : Value) (uv5 : Value) (uv6 : Value) (uv7 : Value) (uv9 : Value) (uv10 : Value) (uv11 : Value) (uv12 : Value) (ka : Int32)  : XMi l D (tyL cy) E0 yX8_takeBack cX8_takeBack 2 (some .boolean) (rmk 0 0 0) [.ref so0, .int ka] [(so0, .inr (8, [uv0, uv1, uv2, uv3, uv4, uv5, uv6, uv7, .int 0, uv9, uv10, uv11, uv12]))] (fun (r : Int32) (_ : Unit) => r = 0) (fun (_ : Unit) => []) := by
  refine XMi.start (by decide) (Nat.le_of_ble_eq_true rfl) ?_
  intro p e s m below meth c args A ls Q hat hQ
  obtain ⟨hx, hb, hr, hml, hown, hg, hlocks, hin, hK, hA, hP, hD, hS, hE, hl⟩ := hat
  have hown : s.vm.findClass RX8 = some m.cls := hown
  have hl : lv_has ls 2 [(0, .ref so0), (1, .int ka)] := hl
  refine lv_iload_n hx hb dX8_takeBack_0 rfl (lv_at hl 1 rfl) ?_
  refine lv_if_lt (tgt := 22) hx hb dX8_takeBack_1 (by decide) (fun c_1 => ?_) (fun c_1 => ?_)
  · refine lv_iconst (v := 0) hx hb dX8_takeBack_22 (by decide) ?_
    exact x_zret hQ hx hb hr hlocks hK hP hD hS rfl dX8_takeBack_23 () (rfl) [] (by decide) rfl (Nat.le_of_ble_eq_true rfl) (Nat.le_of_ble_eq_true rfl)
  · refine lv_iload_n hx hb dX8_takeBack_4 rfl (lv_at hl 1 rfl) ?_
    refine lv_aload_n hx hb dX8_takeBack_5 rfl (lv_at hl 0 rfl) ?_
    refine va_get (D := D) (ci := 8) (v := .int 0) (C := RX8) (T := TX8) (N := 13) hx hb hg i_X8 hown hK hP 0 rfl rfl 8 (by decide) (hg _ m_462) (fun _ h9 => h9) rfl dX8_takeBack_6 ?_
    refine lv_icmp_ge (tgt := 22) hx hb dX8_takeBack_9 (by decide) (fun _ => ?_) (fun h => absurd (nlt_le c_1) h)
    refine lv_iconst (v := 0) hx hb dX8_takeBack_22 (by decide) ?_
    exact x_zret hQ hx hb hr hlocks hK hP hD hS rfl dX8_takeBack_23 () (rfl) [] (by decide) rfl (Nat.le_of_ble_eq_true rfl) (Nat.le_of_ble_eq_true rfl)
theorem dX11_untell_0 : decode cX11_untell 0 = .ok (.aload_n 0, 1) := by decide +kernel
theorem dX11_untell_1 : decode cX11_untell 1 = .ok (.getfield 45, 3) := by decide +kernel
theorem dX11_untell_4 : decode cX11_untell 4 = .ok (.iload_n 1, 1) := by decide +kernel
theorem dX11_untell_5 : decode cX11_untell 5 = .ok (.invokevirtual 265, 3) := by decide +kernel
theorem m_1332 : (Cond.methodLink RX11 265 yX8_takeBack) ∈ gT := gm 1332 (by decide +kernel) (by decide +kernel)
theorem m_1333 : (Cond.instanceMethod yX8_takeBack) ∈ gT := gm 1333 (by decide +kernel) (by decide +kernel)
theorem m_1334 : (Cond.selects RX8 yX8_takeBack yX8_takeBack) ∈ gT := gm 1334 (by decide +kernel) (by decide +kernel)
theorem m_140 : (Cond.initialized RX8) ∈ gT := gm 140 (by decide +kernel) (by decide +kernel)
theorem m_1335 : (Cond.code yX8_takeBack cX8_takeBack 2 (some .boolean)) ∈ gT := gm 1335 (by decide +kernel) (by decide +kernel)
theorem k_X11_265 : xV RX11 RX8 265 yX8_takeBack cX8_takeBack 2 (some .boolean) 1 := ⟨⟨m_1332, m_1333, m_1334, m_140, m_1335⟩, rfl, by decide, by decide, by decide +kernel⟩
theorem dX11_untell_8 : decode cX11_untell 8 = .ok (.ireturn, 1) := by decide +kernel
set_option maxHeartbeats 400000 in
set_option maxRecDepth 100000 in
theorem t_untell (l : Launch) (D : va_G) (cy : Nat → ClassId) (a0 : Nat) (w0 : Value) (w1 : Value) (w2 : Value) (w3 : Value) (w4 : Value) (w6 : Value) (w7 : Value) (w8 : Value) (w9 : Value) (w10 : Value) (w11 : Value) (w12 : Value) (w13 : Value) (so0 : Nat) (uv0 : Value) (uv1 : Value) (uv2 : Value) (uv3 : Value) (uv4 : Value) (uv5 : Value) (uv6 : Value) (uv7 : Value) (uv9 : Value) (uv10 : Value) (uv11 : Value) (uv12 : Value) (ka : Int32)  : XMi l D (tyL cy) E0 yX11_untell cX11_untell 2 (some .boolean) (rmk 2 0 0) [.ref a0, .int ka] [(a0, .inr (11, [w0, w1, w2, w3, w4, .ref so0, w6, w7, w8, w9, w10, w11, w12, w13])), (so0, .inr (8, [uv0, uv1, uv2, uv3, uv4, uv5, uv6, uv7, .int 0, uv9, uv10, uv11, uv12]))] (fun (r : Int32) (_ : Unit) => r = 0) (fun (_ : Unit) => []) := by
  refine XMi.start (by decide) (Nat.le_of_ble_eq_true rfl) ?_
  intro p e s m below meth c args A ls Q hat hQ
  obtain ⟨hx, hb, hr, hml, hown, hg, hlocks, hin, hK, hA, hP, hD, hS, hE, hl⟩ := hat
  have hown : s.vm.findClass RX11 = some m.cls := hown
  have hl : lv_has ls 2 [(0, .ref a0), (1, .int ka)] := hl
  refine lv_aload_n hx hb dX11_untell_0 rfl (lv_at hl 0 rfl) ?_
  refine va_get (D := D) (ci := 11) (v := .ref so0) (C := RX11) (T := TX11) (N := 14) hx hb hg i_X11 hown hK hP 0 rfl rfl 5 (by decide) (hg _ m_663) (fun _ h9 => h9) rfl dX11_untell_1 ?_
  refine lv_iload_n hx hb dX11_untell_4 rfl (lv_at hl 1 rfl) ?_
  refine x_callVi (q := (RX8, TX8, 13)) (ci := 8) (q0 := 0) (wr := [(a0, .inr (11, [w0, w1, w2, w3, w4, .ref so0, w6, w7, w8, w9, w10, w11, w12, w13]))]) (rest := []) ⟨hx, hb, hml, hown, hg, hl.1⟩ k_X11_265 (c_takeBack l D cy so0 uv0 uv1 uv2 uv3 uv4 uv5 uv6 uv7 uv9 uv10 uv11 uv12 ka) E0_blind hK hP hD hS hA [1] [0] ⟨rfl, rfl, by decide, by decide, by decide⟩ rfl rfl (fun _ _ _ => trivial) dX11_untell_5 rfl rfl (Nat.le_of_ble_eq_true rfl) ⟨Nat.le_of_ble_eq_true rfl, Nat.le_of_ble_eq_true rfl⟩ ⟨Nat.le_of_ble_eq_true rfl, Nat.le_of_ble_eq_true rfl⟩ (fun r1 u1 H locs hw1 hP hD hS => ?_)
  have hP : va_P D vwCl [(a0, .inr (11, [w0, w1, w2, w3, w4, .ref so0, w6, w7, w8, w9, w10, w11, w12, w13]))] H := hP
  have hD : va_D A [(a0, .inr (11, [w0, w1, w2, w3, w4, .ref so0, w6, w7, w8, w9, w10, w11, w12, w13]))] := hD
  refine W.widen (k := 0) (n := 0) (Nat.le_of_ble_eq_true rfl) (Nat.le_of_ble_eq_true rfl) ?_
  have hw1 : r1 = 0 := hw1
  subst hw1
  exact x_zret hQ hx hb hr hlocks hK hP hD hS rfl dX11_untell_8 () (rfl) [] (by decide) rfl (Nat.le_of_ble_eq_true rfl) (Nat.le_of_ble_eq_true rfl)
theorem dX11_isBox_0 : decode cX11_isBox 0 = .ok (.iload_n 0, 1) := by decide +kernel
theorem dX11_isBox_1 : decode cX11_isBox 1 = .ok (.ifCond .lt 12, 3) := by decide +kernel
theorem dX11_isBox_13 : decode cX11_isBox 13 = .ok (.iconst 0, 1) := by decide +kernel
theorem dX11_isBox_14 : decode cX11_isBox 14 = .ok (.ireturn, 1) := by decide +kernel
theorem dX11_isBox_4 : decode cX11_isBox 4 = .ok (.iload_n 0, 1) := by decide +kernel
theorem dX11_isBox_5 : decode cX11_isBox 5 = .ok (.iconst 3, 1) := by decide +kernel
theorem dX11_isBox_6 : decode cX11_isBox 6 = .ok (.if_icmp .ge 7, 3) := by decide +kernel
theorem dX11_isBox_9 : decode cX11_isBox 9 = .ok (.iconst 1, 1) := by decide +kernel
theorem dX11_isBox_10 : decode cX11_isBox 10 = .ok (.goto 4, 3) := by decide +kernel
set_option maxHeartbeats 400000 in
set_option maxRecDepth 100000 in
theorem c_isBox (l : Launch) (D : va_G) (cy : Nat → ClassId) (bx : Int32)  : XMi l D (tyL cy) E0 yX11_isBox cX11_isBox 1 (some .boolean) (rmk 0 0 0) [.int bx] [] (fun (r : Int32) (_ : Unit) => (r = 0 ∧ ¬ (0 ≤ bx.toInt ∧ bx.toInt < 3)) ∨ (r = 1 ∧ (bx = 0 ∨ bx = 1 ∨ bx = 2))) (fun (_ : Unit) => []) := by
  refine XMi.start (by decide) (Nat.le_of_ble_eq_true rfl) ?_
  intro p e s m below meth c args A ls Q hat hQ
  obtain ⟨hx, hb, hr, hml, hown, hg, hlocks, hin, hK, hA, hP, hD, hS, hE, hl⟩ := hat
  have hown : s.vm.findClass RX11 = some m.cls := hown
  have hl : lv_has ls 1 [(0, .int bx)] := hl
  refine lv_iload_n hx hb dX11_isBox_0 rfl (lv_at hl 0 rfl) ?_
  refine lv_if_lt (tgt := 13) hx hb dX11_isBox_1 (by decide) (fun c_1 => ?_) (fun c_1 => ?_)
  · refine lv_iconst (v := 0) hx hb dX11_isBox_13 (by decide) ?_
    have qc_1 : (bx : Int32).toInt < (0 : Int32).toInt := (fa_lt _ _).mp c_1
    have z0 : (0 : Int32).toInt = 0 := by decide
    have z3 : (3 : Int32).toInt = 3 := by decide
    exact x_zret hQ hx hb hr hlocks hK hP hD hS rfl dX11_isBox_14 () (Or.inl ⟨rfl, by omega⟩) [] (by decide) rfl (Nat.le_of_ble_eq_true rfl) (Nat.le_of_ble_eq_true rfl)
  · refine lv_iload_n hx hb dX11_isBox_4 rfl (lv_at hl 0 rfl) ?_
    refine lv_iconst (v := 3) hx hb dX11_isBox_5 (by decide) ?_
    refine lv_icmp_ge (tgt := 13) hx hb dX11_isBox_6 (by decide) (fun c_6 => ?_) (fun c_6 => ?_)
    · refine lv_iconst (v := 0) hx hb dX11_isBox_13 (by decide) ?_
      have qc_1 : ¬ (bx : Int32).toInt < (0 : Int32).toInt := fun h => c_1 ((fa_lt _ _).mpr h)
      have qc_6 : (3 : Int32).toInt ≤ (bx : Int32).toInt := (fa_le _ _).mp c_6
      have z0 : (0 : Int32).toInt = 0 := by decide
      have z3 : (3 : Int32).toInt = 3 := by decide
      exact x_zret hQ hx hb hr hlocks hK hP hD hS rfl dX11_isBox_14 () (Or.inl ⟨rfl, by omega⟩) [] (by decide) rfl (Nat.le_of_ble_eq_true rfl) (Nat.le_of_ble_eq_true rfl)
    · refine lv_iconst (v := 1) hx hb dX11_isBox_9 (by decide) ?_
      refine lv_goto (tgt := 14) hx hb dX11_isBox_10 (by decide) ?_
      exact x_zret hQ hx hb hr hlocks hK hP hD hS rfl dX11_isBox_14 () (Or.inr ⟨rfl, box_in c_1 c_6⟩) [] (by decide) rfl (Nat.le_of_ble_eq_true rfl) (Nat.le_of_ble_eq_true rfl)
theorem dX5_keepIn_0 : decode cX5_keepIn 0 = .ok (.aload_n 0, 1) := by decide +kernel
theorem dX5_keepIn_1 : decode cX5_keepIn 1 = .ok (.getfield 11, 3) := by decide +kernel
theorem dX5_keepIn_4 : decode cX5_keepIn 4 = .ok (.iconst 0, 1) := by decide +kernel
theorem dX5_keepIn_5 : decode cX5_keepIn 5 = .ok (.aload_n 0, 1) := by decide +kernel
theorem dX5_keepIn_6 : decode cX5_keepIn 6 = .ok (.getfield 18, 3) := by decide +kernel
theorem m_426 : (Cond.fieldLink RX5 18 "CliffJudges$Moments" "boxes" "[I") ∈ gT := gm 426 (by decide +kernel) (by decide +kernel)
theorem dX5_keepIn_9 : decode cX5_keepIn 9 = .ok (.iload_n 1, 1) := by decide +kernel
theorem dX5_keepIn_10 : decode cX5_keepIn 10 = .ok (.bipush 41, 2) := by decide +kernel
theorem dX5_keepIn_12 : decode cX5_keepIn 12 = .ok (.imul, 1) := by decide +kernel
theorem dX5_keepIn_13 : decode cX5_keepIn 13 = .ok (.bipush 41, 2) := by decide +kernel
theorem dX5_keepIn_15 : decode cX5_keepIn 15 = .ok (.invokestatic 51, 3) := by decide +kernel
theorem m_934 : (Cond.methodLink RX5 51 ⟨"java/lang/System", "arraycopy", "(Ljava/lang/Object;ILjava/lang/Object;II)V"⟩) ∈ gT := gm 934 (by decide +kernel) (by decide +kernel)
theorem m_936 : (Cond.native ⟨"java/lang/System", "arraycopy", "(Ljava/lang/Object;ILjava/lang/Object;II)V"⟩) ∈ gT := gm 936 (by decide +kernel) (by decide +kernel)
theorem m_935 : (Cond.static ⟨"java/lang/System", "arraycopy", "(Ljava/lang/Object;ILjava/lang/Object;II)V"⟩) ∈ gT := gm 935 (by decide +kernel) (by decide +kernel)
theorem m_149 : (Cond.initialized RJ10) ∈ gT := gm 149 (by decide +kernel) (by decide +kernel)
theorem dX5_keepIn_18 : decode cX5_keepIn 18 = .ok (.aload_n 0, 1) := by decide +kernel
theorem dX5_keepIn_19 : decode cX5_keepIn 19 = .ok (.dup, 1) := by decide +kernel
theorem dX5_keepIn_20 : decode cX5_keepIn 20 = .ok (.getfield 36, 3) := by decide +kernel
theorem m_427 : (Cond.fieldLink RX5 36 "CliffJudges$Moments" "fullBoxes" "I") ∈ gT := gm 427 (by decide +kernel) (by decide +kernel)
theorem dX5_keepIn_23 : decode cX5_keepIn 23 = .ok (.iconst 1, 1) := by decide +kernel
theorem dX5_keepIn_24 : decode cX5_keepIn 24 = .ok (.iload_n 1, 1) := by decide +kernel
theorem dX5_keepIn_25 : decode cX5_keepIn 25 = .ok (.ishl, 1) := by decide +kernel
theorem dX5_keepIn_26 : decode cX5_keepIn 26 = .ok (.ior, 1) := by decide +kernel
theorem dX5_keepIn_27 : decode cX5_keepIn 27 = .ok (.putfield 36, 3) := by decide +kernel
theorem dX5_keepIn_30 : decode cX5_keepIn 30 = .ok (.return_, 1) := by decide +kernel
set_option maxHeartbeats 400000 in
set_option maxRecDepth 100000 in
theorem c_keepIn (l : Launch) (D : va_G) (cy : Nat → ClassId) (n0 : Nat) (n1 : Nat) (n2 : Nat) (n3 : Nat) (z4 : Value) (z5 : Value) (z6 : Value) (fu : Int32) (fb : Nat → Int32) (bx : Int32) (hbx : bx = 0 ∨ bx = 1 ∨ bx = 2) : XMv l D (tyL cy) E0 yX5_keepIn cX5_keepIn 2 none (rmk 1 0 0) [.ref n0, .int bx] [(n0, .inr (5, [.ref n1, .ref n2, .ref n3, .int fu, z4, z5, z6])), (n1, .inl (cy 1, 41, .inl (fun _ => 0))), (n3, .inl (cy 1, 123, .inl (fb)))] (fun (u : Int32 × (Nat → Int32)) => True) (fun (u : Int32 × (Nat → Int32)) => [(n0, .inr (5, [.ref n1, .ref n2, .ref n3, .int u.1, z4, z5, z6])), (n1, .inl (cy 1, 41, .inl (fun _ => 0))), (n3, .inl (cy 1, 123, .inl (u.2)))]) := by
  refine XMv.start (by decide) (Nat.le_of_ble_eq_true rfl) ?_
  intro p e s m below meth c args A ls Q hat hQ
  obtain ⟨hx, hb, hr, hml, hown, hg, hlocks, hin, hK, hA, hP, hD, hS, hE, hl⟩ := hat
  have hown : s.vm.findClass RX5 = some m.cls := hown
  have hl : lv_has ls 2 [(0, .ref n0), (1, .int bx)] := hl
  refine lv_aload_n hx hb dX5_keepIn_0 rfl (lv_at hl 0 rfl) ?_
  refine va_get (D := D) (ci := 5) (v := .ref n1) (C := RX5) (T := TX5) (N := 7) hx hb hg i_X5 hown hK hP 0 rfl rfl 0 (by decide) (hg _ m_423) (fun _ h9 => h9) rfl dX5_keepIn_1 ?_
  refine lv_iconst (v := 0) hx hb dX5_keepIn_4 (by decide) ?_
  refine lv_aload_n hx hb dX5_keepIn_5 rfl (lv_at hl 0 rfl) ?_
  refine va_get (D := D) (ci := 5) (v := .ref n3) (C := RX5) (T := TX5) (N := 7) hx hb hg i_X5 hown hK hP 0 rfl rfl 2 (by decide) (hg _ m_426) (fun _ h9 => h9) rfl dX5_keepIn_6 ?_
  refine lv_iload_n hx hb dX5_keepIn_9 rfl (lv_at hl 1 rfl) ?_
  refine lv_bipush (v := 41) hx hb dX5_keepIn_10 (by decide) ?_
  refine lv_imul hx hb dX5_keepIn_12 ?_
  refine lv_topi (fun x_1 ex_1 => ?_)
  refine lv_bipush (v := 41) hx hb dX5_keepIn_13 (by decide) ?_
  have hdp : ¬ x_1 < 0 ∧ x_1.toNatClampNeg + 41 ≤ 123 := by rcases hbx with h | h | h <;> (rw [ex_1, h]; decide)
  refine va_copyi hx hb (hml.trans hl.1.symm) hown (hg _ m_934) (hg _ m_936) (hg _ m_935) (hg _ m_149) hK hP hD hS 1 2 1 1 rfl rfl rfl rfl rfl (by decide) hdp.1 (by decide) (by decide) hdp.2 (fun _ _ => rfl) (by decide) (by decide) dX5_keepIn_15 (fun H locs hP hD hS => ?_)
  obtain ⟨g_2, eg_2⟩ : ∃ y, va_cpy (fun _ => 0) (fb) (0 : Int32).toNatClampNeg (x_1 : Int32).toNatClampNeg (41 : Int32).toNatClampNeg = y := ⟨_, rfl⟩
  rw [eg_2] at hP hD
  have hP : va_P D vwCl [(n0, .inr (5, [.ref n1, .ref n2, .ref n3, .int fu, z4, z5, z6])), (n1, .inl (cy 1, 41, .inl (fun _ => 0))), (n3, .inl (cy 1, 123, .inl (g_2)))] H := hP
  have hD : va_D A [(n0, .inr (5, [.ref n1, .ref n2, .ref n3, .int fu, z4, z5, z6])), (n1, .inl (cy 1, 41, .inl (fun _ => 0))), (n3, .inl (cy 1, 123, .inl (g_2)))] := hD
  refine lv_aload_n hx hb dX5_keepIn_18 rfl (lv_at hl 0 rfl) ?_
  refine lv_dup hx hb dX5_keepIn_19 rfl ?_
  refine va_get (D := D) (ci := 5) (v := .int fu) (C := RX5) (T := TX5) (N := 7) hx hb hg i_X5 hown hK hP 0 rfl rfl 3 (by decide) (hg _ m_427) (fun _ h9 => h9) rfl dX5_keepIn_20 ?_
  refine lv_iconst (v := 1) hx hb dX5_keepIn_23 (by decide) ?_
  refine lv_iload_n hx hb dX5_keepIn_24 rfl (lv_at hl 1 rfl) ?_
  refine lv_ishl hx hb dX5_keepIn_25 ?_
  refine lv_topi (fun x_3 ex_3 => ?_)
  refine lv_ior hx hb dX5_keepIn_26 ?_
  refine lv_topi (fun x_4 ex_4 => ?_)
  refine va_put (D := D) (ci := 5) (v := .int x_4) (ty := .int) (C := RX5) (T := TX5) (N := 7) hx hb hg i_X5 tyX5 tyX5_ok nmX5 hown hK hP hD hS 0 rfl rfl 3 (by decide) (hg _ m_427) (fun _ h9 => h9) rfl (by decide +kernel) rfl rfl (Nat.le_of_ble_eq_true rfl) dX5_keepIn_27 (fun H locs hP hD hS => ?_)
  have hP : va_P D vwCl [(n0, .inr (5, [.ref n1, .ref n2, .ref n3, .int x_4, z4, z5, z6])), (n1, .inl (cy 1, 41, .inl (fun _ => 0))), (n3, .inl (cy 1, 123, .inl (g_2)))] H := hP
  have hD : va_D A [(n0, .inr (5, [.ref n1, .ref n2, .ref n3, .int x_4, z4, z5, z6])), (n1, .inl (cy 1, 41, .inl (fun _ => 0))), (n3, .inl (cy 1, 123, .inl (g_2)))] := hD
  exact x_vret hQ hx hb hr hlocks hK hP hD hS dX5_keepIn_30 (x_4, g_2) (trivial) [0, 1, 2] (by decide) rfl (Nat.le_of_ble_eq_true rfl) (Nat.le_of_ble_eq_true rfl)
theorem dX11_image_0 : decode cX11_image 0 = .ok (.iload_n 1, 1) := by decide +kernel
theorem dX11_image_1 : decode cX11_image 1 = .ok (.invokestatic 295, 3) := by decide +kernel
theorem m_1388 : (Cond.methodLink RX11 295 yX11_isBox) ∈ gT := gm 1388 (by decide +kernel) (by decide +kernel)
theorem m_1389 : (Cond.static yX11_isBox) ∈ gT := gm 1389 (by decide +kernel) (by decide +kernel)
theorem m_1390 : (Cond.code yX11_isBox cX11_isBox 1 (some .boolean)) ∈ gT := gm 1390 (by decide +kernel) (by decide +kernel)
theorem k_X11_295 : xS RX11 295 yX11_isBox cX11_isBox 1 (some .boolean) 1 := ⟨⟨m_1388, m_1389, m_130, m_1390⟩, by decide, by decide, by decide +kernel⟩
theorem dX11_image_4 : decode cX11_image 4 = .ok (.ifCond .ne 5, 3) := by decide +kernel
theorem dX11_image_9 : decode cX11_image 9 = .ok (.aload_n 0, 1) := by decide +kernel
theorem dX11_image_10 : decode cX11_image 10 = .ok (.getfield 38, 3) := by decide +kernel
theorem dX11_image_13 : decode cX11_image 13 = .ok (.iload_n 1, 1) := by decide +kernel
theorem dX11_image_14 : decode cX11_image 14 = .ok (.invokevirtual 298, 3) := by decide +kernel
theorem m_1391 : (Cond.methodLink RX11 298 yX5_keepIn) ∈ gT := gm 1391 (by decide +kernel) (by decide +kernel)
theorem m_1392 : (Cond.instanceMethod yX5_keepIn) ∈ gT := gm 1392 (by decide +kernel) (by decide +kernel)
theorem m_1393 : (Cond.selects RX5 yX5_keepIn yX5_keepIn) ∈ gT := gm 1393 (by decide +kernel) (by decide +kernel)
theorem m_1394 : (Cond.code yX5_keepIn cX5_keepIn 2 none) ∈ gT := gm 1394 (by decide +kernel) (by decide +kernel)
theorem k_X11_298 : xV RX11 RX5 298 yX5_keepIn cX5_keepIn 2 none 1 := ⟨⟨m_1391, m_1392, m_1393, m_139, m_1394⟩, rfl, by decide, by decide, by decide +kernel⟩
theorem dX11_image_17 : decode cX11_image 17 = .ok (.aload_n 0, 1) := by decide +kernel
theorem dX11_image_18 : decode cX11_image 18 = .ok (.getfield 38, 3) := by decide +kernel
theorem dX11_image_21 : decode cX11_image 21 = .ok (.getfield 127, 3) := by decide +kernel
theorem m_424 : (Cond.fieldLink RX11 127 "CliffJudges$Moments" "now" "[I") ∈ gT := gm 424 (by decide +kernel) (by decide +kernel)
theorem dX11_image_24 : decode cX11_image 24 = .ok (.bipush 24, 2) := by decide +kernel
theorem dX11_image_26 : decode cX11_image 26 = .ok (.iaload, 1) := by decide +kernel
theorem dX11_image_27 : decode cX11_image 27 = .ok (.ireturn, 1) := by decide +kernel
theorem dX11_image_7 : decode cX11_image 7 = .ok (.iconst (-1), 1) := by decide +kernel
theorem dX11_image_8 : decode cX11_image 8 = .ok (.ireturn, 1) := by decide +kernel
set_option maxHeartbeats 400000 in
set_option maxRecDepth 100000 in
theorem t_image (l : Launch) (D : va_G) (cy : Nat → ClassId) (a0 : Nat) (w0 : Value) (w1 : Value) (w2 : Value) (w3 : Value) (w5 : Value) (w6 : Value) (w7 : Value) (w8 : Value) (w9 : Value) (w10 : Value) (w11 : Value) (w12 : Value) (w13 : Value) (n0 : Nat) (n1 : Nat) (n2 : Nat) (n3 : Nat) (z4 : Value) (z5 : Value) (z6 : Value) (fu : Int32) (fb : Nat → Int32) (ka : Int32)  : XMi l D (tyL cy) E0 yX11_image cX11_image 2 (some .int) (rmk 2 0 0) [.ref a0, .int ka] [(a0, .inr (11, [w0, w1, w2, w3, .ref n0, w5, w6, w7, w8, w9, w10, w11, w12, w13])), (n0, .inr (5, [.ref n1, .ref n2, .ref n3, .int fu, z4, z5, z6])), (n1, .inl (cy 1, 41, .inl (fun _ => 0))), (n3, .inl (cy 1, 123, .inl (fb)))] (fun (r : Int32) (_ : Unit) => r = if 0 ≤ ka.toInt ∧ ka.toInt < 3 then 0 else -1) (fun (_ : Unit) => []) := by
  refine XMi.start (by decide) (Nat.le_of_ble_eq_true rfl) ?_
  intro p e s m below meth c args A ls Q hat hQ
  obtain ⟨hx, hb, hr, hml, hown, hg, hlocks, hin, hK, hA, hP, hD, hS, hE, hl⟩ := hat
  have hown : s.vm.findClass RX11 = some m.cls := hown
  have hl : lv_has ls 2 [(0, .ref a0), (1, .int ka)] := hl
  refine lv_iload_n hx hb dX11_image_0 rfl (lv_at hl 1 rfl) ?_
  refine x_callSi (wr := [(a0, .inr (11, [w0, w1, w2, w3, .ref n0, w5, w6, w7, w8, w9, w10, w11, w12, w13])), (n0, .inr (5, [.ref n1, .ref n2, .ref n3, .int fu, z4, z5, z6])), (n1, .inl (cy 1, 41, .inl (fun _ => 0))), (n3, .inl (cy 1, 123, .inl (fb)))]) (rest := []) ⟨hx, hb, hml, hown, hg, hl.1⟩ k_X11_295 (c_isBox l D cy ka) E0_blind hK hP hD hS hA [] [0, 1, 2, 3] ⟨rfl, rfl, by decide, by decide, by decide⟩ (fun _ _ _ => trivial) dX11_image_1 rfl rfl (Nat.le_of_ble_eq_true rfl) ⟨Nat.le_of_ble_eq_true rfl, Nat.le_of_ble_eq_true rfl⟩ ⟨Nat.le_of_ble_eq_true rfl, Nat.le_of_ble_eq_true rfl⟩ (fun r1 u1 H locs hw1 hP hD hS => ?_)
  have hP : va_P D vwCl [(a0, .inr (11, [w0, w1, w2, w3, .ref n0, w5, w6, w7, w8, w9, w10, w11, w12, w13])), (n0, .inr (5, [.ref n1, .ref n2, .ref n3, .int fu, z4, z5, z6])), (n1, .inl (cy 1, 41, .inl (fun _ => 0))), (n3, .inl (cy 1, 123, .inl (fb)))] H := hP
  have hD : va_D A [(a0, .inr (11, [w0, w1, w2, w3, .ref n0, w5, w6, w7, w8, w9, w10, w11, w12, w13])), (n0, .inr (5, [.ref n1, .ref n2, .ref n3, .int fu, z4, z5, z6])), (n1, .inl (cy 1, 41, .inl (fun _ => 0))), (n3, .inl (cy 1, 123, .inl (fb)))] := hD
  refine W.widen (k := 0) (n := 0) (Nat.le_of_ble_eq_true rfl) (Nat.le_of_ble_eq_true rfl) ?_
  have hw1 : (r1 = 0 ∧ ¬ (0 ≤ ka.toInt ∧ ka.toInt < 3)) ∨ (r1 = 1 ∧ (ka = 0 ∨ ka = 1 ∨ ka = 2)) := hw1
  refine lv_if_ne (tgt := 9) hx hb dX11_image_4 (by decide) (fun c_4 => ?_) (fun c_4 => ?_)
  · refine lv_aload_n hx hb dX11_image_9 rfl (lv_at hl 0 rfl) ?_
    refine va_get (D := D) (ci := 11) (v := .ref n0) (C := RX11) (T := TX11) (N := 14) hx hb hg i_X11 hown hK hP 0 rfl rfl 4 (by decide) (hg _ m_662) (fun _ h9 => h9) rfl dX11_image_10 ?_
    refine lv_iload_n hx hb dX11_image_13 rfl (lv_at hl 1 rfl) ?_
    refine x_callVv (q := (RX5, TX5, 7)) (ci := 5) (q0 := 0) (wr := [(a0, .inr (11, [w0, w1, w2, w3, .ref n0, w5, w6, w7, w8, w9, w10, w11, w12, w13]))]) (rest := []) ⟨hx, hb, hml, hown, hg, hl.1⟩ k_X11_298 (c_keepIn l D cy n0 n1 n2 n3 z4 z5 z6 fu fb ka (hw1.elim (fun h => absurd h.1 c_4) (fun h => h.2))) E0_blind hK hP hD hS hA [1, 2, 3] [0] ⟨rfl, rfl, by decide, by decide, by decide⟩ rfl rfl (fun _ _ _ => trivial) dX11_image_14 rfl rfl (Nat.le_of_ble_eq_true rfl) ⟨Nat.le_of_ble_eq_true rfl, Nat.le_of_ble_eq_true rfl⟩ ⟨Nat.le_of_ble_eq_true rfl, Nat.le_of_ble_eq_true rfl⟩ (fun u2 H locs hw2 hP hD hS => ?_)
    obtain ⟨fu2_3, fb2_4⟩ := u2
    have hP : va_P D vwCl [(a0, .inr (11, [w0, w1, w2, w3, .ref n0, w5, w6, w7, w8, w9, w10, w11, w12, w13])), (n0, .inr (5, [.ref n1, .ref n2, .ref n3, .int fu2_3, z4, z5, z6])), (n1, .inl (cy 1, 41, .inl (fun _ => 0))), (n3, .inl (cy 1, 123, .inl (fb2_4)))] H := hP
    have hD : va_D A [(a0, .inr (11, [w0, w1, w2, w3, .ref n0, w5, w6, w7, w8, w9, w10, w11, w12, w13])), (n0, .inr (5, [.ref n1, .ref n2, .ref n3, .int fu2_3, z4, z5, z6])), (n1, .inl (cy 1, 41, .inl (fun _ => 0))), (n3, .inl (cy 1, 123, .inl (fb2_4)))] := hD
    refine W.widen (k := 0) (n := 0) (Nat.le_of_ble_eq_true rfl) (Nat.le_of_ble_eq_true rfl) ?_
    refine lv_aload_n hx hb dX11_image_17 rfl (lv_at hl 0 rfl) ?_
    refine va_get (D := D) (ci := 11) (v := .ref n0) (C := RX11) (T := TX11) (N := 14) hx hb hg i_X11 hown hK hP 0 rfl rfl 4 (by decide) (hg _ m_662) (fun _ h9 => h9) rfl dX11_image_18 ?_
    refine va_get (D := D) (ci := 5) (v := .ref n1) (C := RX5) (T := TX5) (N := 7) hx hb hg i_X5 hown hK hP 1 rfl rfl 0 (by decide) (hg _ m_424) (fun _ h9 => h9) rfl dX11_image_21 ?_
    refine lv_bipush (v := 24) hx hb dX11_image_24 (by decide) ?_
    refine va_iald hx hb hK hP 2 1 rfl rfl (by unfold vp_in; decide) dX11_image_26 ?_
    refine lv_topi (fun y_5 hy_5 => ?_)
    obtain rfl : y_5 = 0 := hy_5.trans (by decide +kernel)
    exact x_iret hQ hx hb hr hlocks hK hP hD hS dX11_image_27 () (hw1.elim (fun h => absurd h.1 c_4) (fun h => by rcases h.2 with h | h | h <;> (rw [h]; decide))) [] (by decide) rfl (Nat.le_of_ble_eq_true rfl) (Nat.le_of_ble_eq_true rfl)
  · refine lv_iconst (v := -1) hx hb dX11_image_7 (by decide) ?_
    exact x_iret hQ hx hb hr hlocks hK hP hD hS dX11_image_8 () (hw1.elim (fun h => (if_neg h.2).symm) (fun h => absurd c_4 (by rw [h.1]; decide))) [] (by decide) rfl (Nat.le_of_ble_eq_true rfl) (Nat.le_of_ble_eq_true rfl)
theorem dX5_goBackTo_0 : decode cX5_goBackTo 0 = .ok (.aload_n 0, 1) := by decide +kernel
theorem dX5_goBackTo_1 : decode cX5_goBackTo 1 = .ok (.getfield 36, 3) := by decide +kernel
theorem dX5_goBackTo_4 : decode cX5_goBackTo 4 = .ok (.iload_n 1, 1) := by decide +kernel
theorem dX5_goBackTo_5 : decode cX5_goBackTo 5 = .ok (.ishr, 1) := by decide +kernel
theorem dX5_goBackTo_6 : decode cX5_goBackTo 6 = .ok (.iconst 1, 1) := by decide +kernel
theorem dX5_goBackTo_7 : decode cX5_goBackTo 7 = .ok (.iand, 1) := by decide +kernel
theorem dX5_goBackTo_8 : decode cX5_goBackTo 8 = .ok (.ifCond .ne 5, 3) := by decide +kernel
theorem dX5_goBackTo_11 : decode cX5_goBackTo 11 = .ok (.iconst 0, 1) := by decide +kernel
theorem dX5_goBackTo_12 : decode cX5_goBackTo 12 = .ok (.ireturn, 1) := by decide +kernel
set_option maxHeartbeats 400000 in
set_option maxRecDepth 100000 in
theorem c_goBackTo (l : Launch) (D : va_G) (cy : Nat → ClassId) (n0 : Nat) (n1 : Nat) (n2 : Nat) (n3 : Nat) (z4 : Value) (z5 : Value) (z6 : Value) (bx : Int32)  : XMi l D (tyL cy) E0 yX5_goBackTo cX5_goBackTo 2 (some .boolean) (rmk 0 0 0) [.ref n0, .int bx] [(n0, .inr (5, [.ref n1, .ref n2, .ref n3, .int 0, z4, z5, z6]))] (fun (r : Int32) (_ : Unit) => r = 0) (fun (_ : Unit) => []) := by
  refine XMi.start (by decide) (Nat.le_of_ble_eq_true rfl) ?_
  intro p e s m below meth c args A ls Q hat hQ
  obtain ⟨hx, hb, hr, hml, hown, hg, hlocks, hin, hK, hA, hP, hD, hS, hE, hl⟩ := hat
  have hown : s.vm.findClass RX5 = some m.cls := hown
  have hl : lv_has ls 2 [(0, .ref n0), (1, .int bx)] := hl
  refine lv_aload_n hx hb dX5_goBackTo_0 rfl (lv_at hl 0 rfl) ?_
  refine va_get (D := D) (ci := 5) (v := .int 0) (C := RX5) (T := TX5) (N := 7) hx hb hg i_X5 hown hK hP 0 rfl rfl 3 (by decide) (hg _ m_427) (fun _ h9 => h9) rfl dX5_goBackTo_1 ?_
  refine lv_iload_n hx hb dX5_goBackTo_4 rfl (lv_at hl 1 rfl) ?_
  refine lv_ishr hx hb dX5_goBackTo_5 ?_
  refine lv_topi (fun x_1 ex_1 => ?_)
  rw [sh_zero] at ex_1
  refine lv_iconst (v := 1) hx hb dX5_goBackTo_6 (by decide) ?_
  refine lv_iand hx hb dX5_goBackTo_7 ?_
  refine lv_topi (fun x_2 ex_2 => ?_)
  obtain rfl : x_2 = 0 := by rw [ex_2, ex_1]; decide
  refine lv_if_ne (tgt := 13) hx hb dX5_goBackTo_8 (by decide) (fun h => absurd (by decide) h) (fun _ => ?_)
  refine lv_iconst (v := 0) hx hb dX5_goBackTo_11 (by decide) ?_
  exact x_zret hQ hx hb hr hlocks hK hP hD hS rfl dX5_goBackTo_12 () (rfl) [] (by decide) rfl (Nat.le_of_ble_eq_true rfl) (Nat.le_of_ble_eq_true rfl)
theorem dX11_back_0 : decode cX11_back 0 = .ok (.iload_n 1, 1) := by decide +kernel
theorem dX11_back_1 : decode cX11_back 1 = .ok (.invokestatic 295, 3) := by decide +kernel
theorem dX11_back_4 : decode cX11_back 4 = .ok (.ifCond .eq 14, 3) := by decide +kernel
theorem dX11_back_18 : decode cX11_back 18 = .ok (.iconst (-1), 1) := by decide +kernel
theorem dX11_back_19 : decode cX11_back 19 = .ok (.ireturn, 1) := by decide +kernel
theorem dX11_back_7 : decode cX11_back 7 = .ok (.aload_n 0, 1) := by decide +kernel
theorem dX11_back_8 : decode cX11_back 8 = .ok (.getfield 38, 3) := by decide +kernel
theorem dX11_back_11 : decode cX11_back 11 = .ok (.iload_n 1, 1) := by decide +kernel
theorem dX11_back_12 : decode cX11_back 12 = .ok (.invokevirtual 301, 3) := by decide +kernel
theorem m_1399 : (Cond.methodLink RX11 301 yX5_goBackTo) ∈ gT := gm 1399 (by decide +kernel) (by decide +kernel)
theorem m_1400 : (Cond.instanceMethod yX5_goBackTo) ∈ gT := gm 1400 (by decide +kernel) (by decide +kernel)
theorem m_1401 : (Cond.selects RX5 yX5_goBackTo yX5_goBackTo) ∈ gT := gm 1401 (by decide +kernel) (by decide +kernel)
theorem m_1402 : (Cond.code yX5_goBackTo cX5_goBackTo 2 (some .boolean)) ∈ gT := gm 1402 (by decide +kernel) (by decide +kernel)
theorem k_X11_301 : xV RX11 RX5 301 yX5_goBackTo cX5_goBackTo 2 (some .boolean) 1 := ⟨⟨m_1399, m_1400, m_1401, m_139, m_1402⟩, rfl, by decide, by decide, by decide +kernel⟩
theorem dX11_back_15 : decode cX11_back 15 = .ok (.ifCond .ne 5, 3) := by decide +kernel
set_option maxHeartbeats 400000 in
set_option maxRecDepth 100000 in
theorem t_back (l : Launch) (D : va_G) (cy : Nat → ClassId) (a0 : Nat) (w0 : Value) (w1 : Value) (w2 : Value) (w3 : Value) (w5 : Value) (w6 : Value) (w7 : Value) (w8 : Value) (w9 : Value) (w10 : Value) (w11 : Value) (w12 : Value) (w13 : Value) (n0 : Nat) (n1 : Nat) (n2 : Nat) (n3 : Nat) (z4 : Value) (z5 : Value) (z6 : Value) (ka : Int32)  : XMi l D (tyL cy) E0 yX11_back cX11_back 2 (some .int) (rmk 2 0 0) [.ref a0, .int ka] [(a0, .inr (11, [w0, w1, w2, w3, .ref n0, w5, w6, w7, w8, w9, w10, w11, w12, w13])), (n0, .inr (5, [.ref n1, .ref n2, .ref n3, .int 0, z4, z5, z6]))] (fun (r : Int32) (_ : Unit) => r = -1) (fun (_ : Unit) => []) := by
  refine XMi.start (by decide) (Nat.le_of_ble_eq_true rfl) ?_
  intro p e s m below meth c args A ls Q hat hQ
  obtain ⟨hx, hb, hr, hml, hown, hg, hlocks, hin, hK, hA, hP, hD, hS, hE, hl⟩ := hat
  have hown : s.vm.findClass RX11 = some m.cls := hown
  have hl : lv_has ls 2 [(0, .ref a0), (1, .int ka)] := hl
  refine lv_iload_n hx hb dX11_back_0 rfl (lv_at hl 1 rfl) ?_
  refine x_callSi (wr := [(a0, .inr (11, [w0, w1, w2, w3, .ref n0, w5, w6, w7, w8, w9, w10, w11, w12, w13])), (n0, .inr (5, [.ref n1, .ref n2, .ref n3, .int 0, z4, z5, z6]))]) (rest := []) ⟨hx, hb, hml, hown, hg, hl.1⟩ k_X11_295 (c_isBox l D cy ka) E0_blind hK hP hD hS hA [] [0, 1] ⟨rfl, rfl, by decide, by decide, by decide⟩ (fun _ _ _ => trivial) dX11_back_1 rfl rfl (Nat.le_of_ble_eq_true rfl) ⟨Nat.le_of_ble_eq_true rfl, Nat.le_of_ble_eq_true rfl⟩ ⟨Nat.le_of_ble_eq_true rfl, Nat.le_of_ble_eq_true rfl⟩ (fun r1 u1 H locs hw1 hP hD hS => ?_)
  have hP : va_P D vwCl [(a0, .inr (11, [w0, w1, w2, w3, .ref n0, w5, w6, w7, w8, w9, w10, w11, w12, w13])), (n0, .inr (5, [.ref n1, .ref n2, .ref n3, .int 0, z4, z5, z6]))] H := hP
  have hD : va_D A [(a0, .inr (11, [w0, w1, w2, w3, .ref n0, w5, w6, w7, w8, w9, w10, w11, w12, w13])), (n0, .inr (5, [.ref n1, .ref n2, .ref n3, .int 0, z4, z5, z6]))] := hD
  refine W.widen (k := 0) (n := 0) (Nat.le_of_ble_eq_true rfl) (Nat.le_of_ble_eq_true rfl) ?_
  have hw1 : (r1 = 0 ∧ ¬ (0 ≤ ka.toInt ∧ ka.toInt < 3)) ∨ (r1 = 1 ∧ (ka = 0 ∨ ka = 1 ∨ ka = 2)) := hw1
  refine lv_if_eq (tgt := 18) hx hb dX11_back_4 (by decide) (fun c_4 => ?_) (fun c_4 => ?_)
  · refine lv_iconst (v := -1) hx hb dX11_back_18 (by decide) ?_
    exact x_iret hQ hx hb hr hlocks hK hP hD hS dX11_back_19 () (rfl) [] (by decide) rfl (Nat.le_of_ble_eq_true rfl) (Nat.le_of_ble_eq_true rfl)
  · refine lv_aload_n hx hb dX11_back_7 rfl (lv_at hl 0 rfl) ?_
    refine va_get (D := D) (ci := 11) (v := .ref n0) (C := RX11) (T := TX11) (N := 14) hx hb hg i_X11 hown hK hP 0 rfl rfl 4 (by decide) (hg _ m_662) (fun _ h9 => h9) rfl dX11_back_8 ?_
    refine lv_iload_n hx hb dX11_back_11 rfl (lv_at hl 1 rfl) ?_
    refine x_callVi (q := (RX5, TX5, 7)) (ci := 5) (q0 := 0) (wr := [(a0, .inr (11, [w0, w1, w2, w3, .ref n0, w5, w6, w7, w8, w9, w10, w11, w12, w13]))]) (rest := []) ⟨hx, hb, hml, hown, hg, hl.1⟩ k_X11_301 (c_goBackTo l D cy n0 n1 n2 n3 z4 z5 z6 ka) E0_blind hK hP hD hS hA [1] [0] ⟨rfl, rfl, by decide, by decide, by decide⟩ rfl rfl (fun _ _ _ => trivial) dX11_back_12 rfl rfl (Nat.le_of_ble_eq_true rfl) ⟨Nat.le_of_ble_eq_true rfl, Nat.le_of_ble_eq_true rfl⟩ ⟨Nat.le_of_ble_eq_true rfl, Nat.le_of_ble_eq_true rfl⟩ (fun r2 u2 H locs hw2 hP hD hS => ?_)
    have hP : va_P D vwCl [(a0, .inr (11, [w0, w1, w2, w3, .ref n0, w5, w6, w7, w8, w9, w10, w11, w12, w13]))] H := hP
    have hD : va_D A [(a0, .inr (11, [w0, w1, w2, w3, .ref n0, w5, w6, w7, w8, w9, w10, w11, w12, w13]))] := hD
    refine W.widen (k := 0) (n := 0) (Nat.le_of_ble_eq_true rfl) (Nat.le_of_ble_eq_true rfl) ?_
    have hw2 : r2 = 0 := hw2
    subst hw2
    refine lv_if_ne (tgt := 20) hx hb dX11_back_15 (by decide) (fun h => absurd (by decide) h) (fun _ => ?_)
    refine lv_iconst (v := -1) hx hb dX11_back_18 (by decide) ?_
    exact x_iret hQ hx hb hr hlocks hK hP hD hS dX11_back_19 () (rfl) [] (by decide) rfl (Nat.le_of_ble_eq_true rfl) (Nat.le_of_ble_eq_true rfl)
end
section
theorem upd_run {f : Nat → Int32} {i : Nat} (h : ∀ j, j < i → f j = nI j) (hi : i < 2 ^ 31) : ∀ j, j < i + 1 → upd f (nI i).toNatClampNeg (nI i) j = nI j := by
  intro j hj
  rw [nI_clamp hi]
  unfold upd
  by_cases e : j = i
  · rw [if_pos e, e]
  · rw [if_neg e]
    exact h j (by omega)
theorem dX9_append_0 : decode cX9_append 0 = .ok (.bipush 24, 2) := by decide +kernel
theorem dX9_append_2 : decode cX9_append 2 = .ok (.istore_n 2, 1) := by decide +kernel
theorem dX9_append_3 : decode cX9_append 3 = .ok (.iload_n 2, 1) := by decide +kernel
theorem dX9_append_4 : decode cX9_append 4 = .ok (.ifCond .lt 42, 3) := by decide +kernel
theorem dX9_append_7 : decode cX9_append 7 = .ok (.aload_n 0, 1) := by decide +kernel
theorem dX9_append_8 : decode cX9_append 8 = .ok (.getfield 33, 3) := by decide +kernel
theorem m_218 : (Cond.fieldLink RX9 33 "CliffJudges$Tape" "length" "I") ∈ gT := gm 218 (by decide +kernel) (by decide +kernel)
theorem dX9_append_11 : decode cX9_append 11 = .ok (.sipush 1600, 3) := by decide +kernel
theorem dX9_append_14 : decode cX9_append 14 = .ok (.if_icmp .ge 32, 3) := by decide +kernel
theorem dX9_append_17 : decode cX9_append 17 = .ok (.aload_n 0, 1) := by decide +kernel
theorem dX9_append_18 : decode cX9_append 18 = .ok (.getfield 11, 3) := by decide +kernel
theorem m_215 : (Cond.fieldLink RX9 11 "CliffJudges$Tape" "bytes" "[B") ∈ gT := gm 215 (by decide +kernel) (by decide +kernel)
theorem dX9_append_21 : decode cX9_append 21 = .ok (.aload_n 0, 1) := by decide +kernel
theorem dX9_append_22 : decode cX9_append 22 = .ok (.getfield 33, 3) := by decide +kernel
theorem dX9_append_25 : decode cX9_append 25 = .ok (.iload_n 1, 1) := by decide +kernel
theorem dX9_append_26 : decode cX9_append 26 = .ok (.iload_n 2, 1) := by decide +kernel
theorem dX9_append_27 : decode cX9_append 27 = .ok (.ishr, 1) := by decide +kernel
theorem dX9_append_28 : decode cX9_append 28 = .ok (.i2b, 1) := by decide +kernel
theorem dX9_append_29 : decode cX9_append 29 = .ok (.bastore, 1) := by decide +kernel
theorem dX9_append_30 : decode cX9_append 30 = .ok (.aload_n 0, 1) := by decide +kernel
theorem dX9_append_31 : decode cX9_append 31 = .ok (.dup, 1) := by decide +kernel
theorem dX9_append_32 : decode cX9_append 32 = .ok (.getfield 33, 3) := by decide +kernel
theorem dX9_append_35 : decode cX9_append 35 = .ok (.iconst 1, 1) := by decide +kernel
theorem dX9_append_36 : decode cX9_append 36 = .ok (.iadd, 1) := by decide +kernel
theorem dX9_append_37 : decode cX9_append 37 = .ok (.putfield 33, 3) := by decide +kernel
theorem dX9_append_40 : decode cX9_append 40 = .ok (.iinc 2 (-8), 3) := by decide +kernel
theorem dX9_append_43 : decode cX9_append 43 = .ok (.goto (-40), 3) := by decide +kernel
theorem dX9_append_46 : decode cX9_append 46 = .ok (.return_, 1) := by decide +kernel
set_option maxHeartbeats 400000 in
set_option maxRecDepth 100000 in
theorem c_append (l : Launch) (D : va_G) (cy : Nat → ClassId) (ta0 : Nat) (ta1 : Nat) (tv1 : Value) (tv3 : Value) (tv4 : Value) (tv5 : Value) (tv6 : Value) (tv7 : Value) (n : Nat) (fb : Nat → Int32) (fo : Int32) (hn : n + 4 ≤ 1600) : XMv l D (tyL cy) E0 yX9_append cX9_append 3 none (rmk 0 0 0) [.ref ta0, .int fo] [(ta0, .inr (9, [.ref ta1, tv1, .int (nI n), tv3, tv4, tv5, tv6, tv7])), (ta1, .inl (cy 0, 1600, .inl (fb)))] (fun (fb2 : Nat → Int32) => True) (fun (fb2 : Nat → Int32) => [(ta0, .inr (9, [.ref ta1, tv1, .int (nI (n + 4)), tv3, tv4, tv5, tv6, tv7])), (ta1, .inl (cy 0, 1600, .inl (fb2)))]) := by
  refine XMv.start (by decide) (Nat.le_of_ble_eq_true rfl) ?_
  intro p e s m below meth c args A ls Q hat hQ
  obtain ⟨hx, hb, hr, hml, hown, hg, hlocks, hin, hK, hA, hP, hD, hS, hE, hl⟩ := hat
  have hown : s.vm.findClass RX9 = some m.cls := hown
  have hl : lv_has ls 3 [(0, .ref ta0), (1, .int fo)] := hl
  refine lv_bipush (v := 24) hx hb dX9_append_0 (by decide) ?_
  refine lv_istore_n (lv' := [(2, .int 24), (0, .ref ta0), (1, .int fo)]) hx hb dX9_append_2 rfl hl (by decide) rfl (fun ls hl => ?_)
  refine lv_iload_n hx hb dX9_append_3 rfl (lv_at hl 0 rfl) ?_
  refine lv_if_lt (tgt := 46) hx hb dX9_append_4 (by decide) (fun h => absurd h (by decide)) (fun _ => ?_)
  refine lv_aload_n hx hb dX9_append_7 rfl (lv_at hl 1 rfl) ?_
  refine va_get (D := D) (ci := 9) (v := .int (nI n)) (C := RX9) (T := TX9) (N := 8) hx hb hg i_X9 hown hK hP 0 rfl rfl 2 (by decide) (hg _ m_218) (fun _ h9 => h9) rfl dX9_append_8 ?_
  refine lv_sipush (v := 1600) hx hb dX9_append_11 (by decide) ?_
  refine lv_icmp_ge (tgt := 46) hx hb dX9_append_14 (by decide) (fun h => absurd h (nI_ge (a := n) (b := 1600) (by omega) (by decide))) (fun _ => ?_)
  refine lv_aload_n hx hb dX9_append_17 rfl (lv_at hl 1 rfl) ?_
  refine va_get (D := D) (ci := 9) (v := .ref ta1) (C := RX9) (T := TX9) (N := 8) hx hb hg i_X9 hown hK hP 0 rfl rfl 0 (by decide) (hg _ m_215) (fun _ h9 => h9) rfl dX9_append_18 ?_
  refine lv_aload_n hx hb dX9_append_21 rfl (lv_at hl 1 rfl) ?_
  refine va_get (D := D) (ci := 9) (v := .int (nI n)) (C := RX9) (T := TX9) (N := 8) hx hb hg i_X9 hown hK hP 0 rfl rfl 2 (by decide) (hg _ m_218) (fun _ h9 => h9) rfl dX9_append_22 ?_
  refine lv_iload_n hx hb dX9_append_25 rfl (lv_at hl 2 rfl) ?_
  refine lv_iload_n hx hb dX9_append_26 rfl (lv_at hl 0 rfl) ?_
  refine lv_ishr hx hb dX9_append_27 ?_
  refine lv_topi (fun x_1 ex_1 => ?_)
  obtain ⟨x_2, ex_2⟩ : ∃ y : Int32, (x_1 : Int32).toInt8.toInt32 = y := ⟨_, rfl⟩
  refine lv_i2b (v := x_2) hx hb dX9_append_28 ex_2 ?_
  refine va_bast hx hb hK hP hD hS 1 0 rfl rfl (vp_in_nI (by omega) (by decide)) dX9_append_29 (fun H locs hP hD hS => ?_)
  obtain ⟨g_3, eg_3⟩ : ∃ y, upd fb (nI n : Int32).toNatClampNeg (vp_nar .byte x_2) = y := ⟨_, rfl⟩
  rw [eg_3] at hP hD
  have hP : va_P D vwCl [(ta0, .inr (9, [.ref ta1, tv1, .int (nI n), tv3, tv4, tv5, tv6, tv7])), (ta1, .inl (cy 0, 1600, .inl (g_3)))] H := hP
  have hD : va_D A [(ta0, .inr (9, [.ref ta1, tv1, .int (nI n), tv3, tv4, tv5, tv6, tv7])), (ta1, .inl (cy 0, 1600, .inl (g_3)))] := hD
  refine lv_aload_n hx hb dX9_append_30 rfl (lv_at hl 1 rfl) ?_
  refine lv_dup hx hb dX9_append_31 rfl ?_
  refine va_get (D := D) (ci := 9) (v := .int (nI n)) (C := RX9) (T := TX9) (N := 8) hx hb hg i_X9 hown hK hP 0 rfl rfl 2 (by decide) (hg _ m_218) (fun _ h9 => h9) rfl dX9_append_32 ?_
  refine lv_iconst (v := 1) hx hb dX9_append_35 (by decide) ?_
  refine lv_iadd hx hb dX9_append_36 ?_
  refine lv_topi (fun y_4 hy_4 => ?_)
  obtain rfl : y_4 = nI (n + 1) := hy_4.trans (nI_add _ _)
  refine va_put (D := D) (ci := 9) (v := .int (nI (n + 1))) (ty := .int) (C := RX9) (T := TX9) (N := 8) hx hb hg i_X9 tyX9 tyX9_ok nmX9 hown hK hP hD hS 0 rfl rfl 2 (by decide) (hg _ m_218) (fun _ h9 => h9) rfl (by decide +kernel) rfl rfl (Nat.le_of_ble_eq_true rfl) dX9_append_37 (fun H locs hP hD hS => ?_)
  have hP : va_P D vwCl [(ta0, .inr (9, [.ref ta1, tv1, .int (nI (n + 1)), tv3, tv4, tv5, tv6, tv7])), (ta1, .inl (cy 0, 1600, .inl (g_3)))] H := hP
  have hD : va_D A [(ta0, .inr (9, [.ref ta1, tv1, .int (nI (n + 1)), tv3, tv4, tv5, tv6, tv7])), (ta1, .inl (cy 0, 1600, .inl (g_3)))] := hD
  refine lv_iinc (v := 16) (lv' := [(2, .int 16), (0, .ref ta0), (1, .int fo)]) hx hb dX9_append_40 hl (k := 0) rfl (by decide) (by decide) rfl (fun ls hl => ?_)
  refine lv_goto (tgt := 3) hx hb dX9_append_43 (by decide) ?_
  refine lv_iload_n hx hb dX9_append_3 rfl (lv_at hl 0 rfl) ?_
  refine lv_if_lt (tgt := 46) hx hb dX9_append_4 (by decide) (fun h => absurd h (by decide)) (fun _ => ?_)
  refine lv_aload_n hx hb dX9_append_7 rfl (lv_at hl 1 rfl) ?_
  refine va_get (D := D) (ci := 9) (v := .int (nI (n + 1))) (C := RX9) (T := TX9) (N := 8) hx hb hg i_X9 hown hK hP 0 rfl rfl 2 (by decide) (hg _ m_218) (fun _ h9 => h9) rfl dX9_append_8 ?_
  refine lv_sipush (v := 1600) hx hb dX9_append_11 (by decide) ?_
  refine lv_icmp_ge (tgt := 46) hx hb dX9_append_14 (by decide) (fun h => absurd h (nI_ge (a := (n + 1)) (b := 1600) (by omega) (by decide))) (fun _ => ?_)
  refine lv_aload_n hx hb dX9_append_17 rfl (lv_at hl 1 rfl) ?_
  refine va_get (D := D) (ci := 9) (v := .ref ta1) (C := RX9) (T := TX9) (N := 8) hx hb hg i_X9 hown hK hP 0 rfl rfl 0 (by decide) (hg _ m_215) (fun _ h9 => h9) rfl dX9_append_18 ?_
  refine lv_aload_n hx hb dX9_append_21 rfl (lv_at hl 1 rfl) ?_
  refine va_get (D := D) (ci := 9) (v := .int (nI (n + 1))) (C := RX9) (T := TX9) (N := 8) hx hb hg i_X9 hown hK hP 0 rfl rfl 2 (by decide) (hg _ m_218) (fun _ h9 => h9) rfl dX9_append_22 ?_
  refine lv_iload_n hx hb dX9_append_25 rfl (lv_at hl 2 rfl) ?_
  refine lv_iload_n hx hb dX9_append_26 rfl (lv_at hl 0 rfl) ?_
  refine lv_ishr hx hb dX9_append_27 ?_
  refine lv_topi (fun x_5 ex_5 => ?_)
  obtain ⟨x_6, ex_6⟩ : ∃ y : Int32, (x_5 : Int32).toInt8.toInt32 = y := ⟨_, rfl⟩
  refine lv_i2b (v := x_6) hx hb dX9_append_28 ex_6 ?_
  refine va_bast hx hb hK hP hD hS 1 0 rfl rfl (vp_in_nI (by omega) (by decide)) dX9_append_29 (fun H locs hP hD hS => ?_)
  obtain ⟨g_7, eg_7⟩ : ∃ y, upd g_3 (nI (n + 1) : Int32).toNatClampNeg (vp_nar .byte x_6) = y := ⟨_, rfl⟩
  rw [eg_7] at hP hD
  have hP : va_P D vwCl [(ta0, .inr (9, [.ref ta1, tv1, .int (nI (n + 1)), tv3, tv4, tv5, tv6, tv7])), (ta1, .inl (cy 0, 1600, .inl (g_7)))] H := hP
  have hD : va_D A [(ta0, .inr (9, [.ref ta1, tv1, .int (nI (n + 1)), tv3, tv4, tv5, tv6, tv7])), (ta1, .inl (cy 0, 1600, .inl (g_7)))] := hD
  refine lv_aload_n hx hb dX9_append_30 rfl (lv_at hl 1 rfl) ?_
  refine lv_dup hx hb dX9_append_31 rfl ?_
  refine va_get (D := D) (ci := 9) (v := .int (nI (n + 1))) (C := RX9) (T := TX9) (N := 8) hx hb hg i_X9 hown hK hP 0 rfl rfl 2 (by decide) (hg _ m_218) (fun _ h9 => h9) rfl dX9_append_32 ?_
  refine lv_iconst (v := 1) hx hb dX9_append_35 (by decide) ?_
  refine lv_iadd hx hb dX9_append_36 ?_
  refine lv_topi (fun y_8 hy_8 => ?_)
  obtain rfl : y_8 = nI ((n + 1) + 1) := hy_8.trans (nI_add _ _)
  refine va_put (D := D) (ci := 9) (v := .int (nI ((n + 1) + 1))) (ty := .int) (C := RX9) (T := TX9) (N := 8) hx hb hg i_X9 tyX9 tyX9_ok nmX9 hown hK hP hD hS 0 rfl rfl 2 (by decide) (hg _ m_218) (fun _ h9 => h9) rfl (by decide +kernel) rfl rfl (Nat.le_of_ble_eq_true rfl) dX9_append_37 (fun H locs hP hD hS => ?_)
  have hP : va_P D vwCl [(ta0, .inr (9, [.ref ta1, tv1, .int (nI ((n + 1) + 1)), tv3, tv4, tv5, tv6, tv7])), (ta1, .inl (cy 0, 1600, .inl (g_7)))] H := hP
  have hD : va_D A [(ta0, .inr (9, [.ref ta1, tv1, .int (nI ((n + 1) + 1)), tv3, tv4, tv5, tv6, tv7])), (ta1, .inl (cy 0, 1600, .inl (g_7)))] := hD
  refine lv_iinc (v := 8) (lv' := [(2, .int 8), (0, .ref ta0), (1, .int fo)]) hx hb dX9_append_40 hl (k := 0) rfl (by decide) (by decide) rfl (fun ls hl => ?_)
  refine lv_goto (tgt := 3) hx hb dX9_append_43 (by decide) ?_
  refine lv_iload_n hx hb dX9_append_3 rfl (lv_at hl 0 rfl) ?_
  refine lv_if_lt (tgt := 46) hx hb dX9_append_4 (by decide) (fun h => absurd h (by decide)) (fun _ => ?_)
  refine lv_aload_n hx hb dX9_append_7 rfl (lv_at hl 1 rfl) ?_
  refine va_get (D := D) (ci := 9) (v := .int (nI ((n + 1) + 1))) (C := RX9) (T := TX9) (N := 8) hx hb hg i_X9 hown hK hP 0 rfl rfl 2 (by decide) (hg _ m_218) (fun _ h9 => h9) rfl dX9_append_8 ?_
  refine lv_sipush (v := 1600) hx hb dX9_append_11 (by decide) ?_
  refine lv_icmp_ge (tgt := 46) hx hb dX9_append_14 (by decide) (fun h => absurd h (nI_ge (a := ((n + 1) + 1)) (b := 1600) (by omega) (by decide))) (fun _ => ?_)
  refine lv_aload_n hx hb dX9_append_17 rfl (lv_at hl 1 rfl) ?_
  refine va_get (D := D) (ci := 9) (v := .ref ta1) (C := RX9) (T := TX9) (N := 8) hx hb hg i_X9 hown hK hP 0 rfl rfl 0 (by decide) (hg _ m_215) (fun _ h9 => h9) rfl dX9_append_18 ?_
  refine lv_aload_n hx hb dX9_append_21 rfl (lv_at hl 1 rfl) ?_
  refine va_get (D := D) (ci := 9) (v := .int (nI ((n + 1) + 1))) (C := RX9) (T := TX9) (N := 8) hx hb hg i_X9 hown hK hP 0 rfl rfl 2 (by decide) (hg _ m_218) (fun _ h9 => h9) rfl dX9_append_22 ?_
  refine lv_iload_n hx hb dX9_append_25 rfl (lv_at hl 2 rfl) ?_
  refine lv_iload_n hx hb dX9_append_26 rfl (lv_at hl 0 rfl) ?_
  refine lv_ishr hx hb dX9_append_27 ?_
  refine lv_topi (fun x_9 ex_9 => ?_)
  obtain ⟨x_10, ex_10⟩ : ∃ y : Int32, (x_9 : Int32).toInt8.toInt32 = y := ⟨_, rfl⟩
  refine lv_i2b (v := x_10) hx hb dX9_append_28 ex_10 ?_
  refine va_bast hx hb hK hP hD hS 1 0 rfl rfl (vp_in_nI (by omega) (by decide)) dX9_append_29 (fun H locs hP hD hS => ?_)
  obtain ⟨g_11, eg_11⟩ : ∃ y, upd g_7 (nI ((n + 1) + 1) : Int32).toNatClampNeg (vp_nar .byte x_10) = y := ⟨_, rfl⟩
  rw [eg_11] at hP hD
  have hP : va_P D vwCl [(ta0, .inr (9, [.ref ta1, tv1, .int (nI ((n + 1) + 1)), tv3, tv4, tv5, tv6, tv7])), (ta1, .inl (cy 0, 1600, .inl (g_11)))] H := hP
  have hD : va_D A [(ta0, .inr (9, [.ref ta1, tv1, .int (nI ((n + 1) + 1)), tv3, tv4, tv5, tv6, tv7])), (ta1, .inl (cy 0, 1600, .inl (g_11)))] := hD
  refine lv_aload_n hx hb dX9_append_30 rfl (lv_at hl 1 rfl) ?_
  refine lv_dup hx hb dX9_append_31 rfl ?_
  refine va_get (D := D) (ci := 9) (v := .int (nI ((n + 1) + 1))) (C := RX9) (T := TX9) (N := 8) hx hb hg i_X9 hown hK hP 0 rfl rfl 2 (by decide) (hg _ m_218) (fun _ h9 => h9) rfl dX9_append_32 ?_
  refine lv_iconst (v := 1) hx hb dX9_append_35 (by decide) ?_
  refine lv_iadd hx hb dX9_append_36 ?_
  refine lv_topi (fun y_12 hy_12 => ?_)
  obtain rfl : y_12 = nI (((n + 1) + 1) + 1) := hy_12.trans (nI_add _ _)
  refine va_put (D := D) (ci := 9) (v := .int (nI (((n + 1) + 1) + 1))) (ty := .int) (C := RX9) (T := TX9) (N := 8) hx hb hg i_X9 tyX9 tyX9_ok nmX9 hown hK hP hD hS 0 rfl rfl 2 (by decide) (hg _ m_218) (fun _ h9 => h9) rfl (by decide +kernel) rfl rfl (Nat.le_of_ble_eq_true rfl) dX9_append_37 (fun H locs hP hD hS => ?_)
  have hP : va_P D vwCl [(ta0, .inr (9, [.ref ta1, tv1, .int (nI (((n + 1) + 1) + 1)), tv3, tv4, tv5, tv6, tv7])), (ta1, .inl (cy 0, 1600, .inl (g_11)))] H := hP
  have hD : va_D A [(ta0, .inr (9, [.ref ta1, tv1, .int (nI (((n + 1) + 1) + 1)), tv3, tv4, tv5, tv6, tv7])), (ta1, .inl (cy 0, 1600, .inl (g_11)))] := hD
  refine lv_iinc (v := 0) (lv' := [(2, .int 0), (0, .ref ta0), (1, .int fo)]) hx hb dX9_append_40 hl (k := 0) rfl (by decide) (by decide) rfl (fun ls hl => ?_)
  refine lv_goto (tgt := 3) hx hb dX9_append_43 (by decide) ?_
  refine lv_iload_n hx hb dX9_append_3 rfl (lv_at hl 0 rfl) ?_
  refine lv_if_lt (tgt := 46) hx hb dX9_append_4 (by decide) (fun h => absurd h (by decide)) (fun _ => ?_)
  refine lv_aload_n hx hb dX9_append_7 rfl (lv_at hl 1 rfl) ?_
  refine va_get (D := D) (ci := 9) (v := .int (nI (((n + 1) + 1) + 1))) (C := RX9) (T := TX9) (N := 8) hx hb hg i_X9 hown hK hP 0 rfl rfl 2 (by decide) (hg _ m_218) (fun _ h9 => h9) rfl dX9_append_8 ?_
  refine lv_sipush (v := 1600) hx hb dX9_append_11 (by decide) ?_
  refine lv_icmp_ge (tgt := 46) hx hb dX9_append_14 (by decide) (fun h => absurd h (nI_ge (a := (((n + 1) + 1) + 1)) (b := 1600) (by omega) (by decide))) (fun _ => ?_)
  refine lv_aload_n hx hb dX9_append_17 rfl (lv_at hl 1 rfl) ?_
  refine va_get (D := D) (ci := 9) (v := .ref ta1) (C := RX9) (T := TX9) (N := 8) hx hb hg i_X9 hown hK hP 0 rfl rfl 0 (by decide) (hg _ m_215) (fun _ h9 => h9) rfl dX9_append_18 ?_
  refine lv_aload_n hx hb dX9_append_21 rfl (lv_at hl 1 rfl) ?_
  refine va_get (D := D) (ci := 9) (v := .int (nI (((n + 1) + 1) + 1))) (C := RX9) (T := TX9) (N := 8) hx hb hg i_X9 hown hK hP 0 rfl rfl 2 (by decide) (hg _ m_218) (fun _ h9 => h9) rfl dX9_append_22 ?_
  refine lv_iload_n hx hb dX9_append_25 rfl (lv_at hl 2 rfl) ?_
  refine lv_iload_n hx hb dX9_append_26 rfl (lv_at hl 0 rfl) ?_
  refine lv_ishr hx hb dX9_append_27 ?_
  refine lv_topi (fun x_13 ex_13 => ?_)
  obtain ⟨x_14, ex_14⟩ : ∃ y : Int32, (x_13 : Int32).toInt8.toInt32 = y := ⟨_, rfl⟩
  refine lv_i2b (v := x_14) hx hb dX9_append_28 ex_14 ?_
  refine va_bast hx hb hK hP hD hS 1 0 rfl rfl (vp_in_nI (by omega) (by decide)) dX9_append_29 (fun H locs hP hD hS => ?_)
  obtain ⟨g_15, eg_15⟩ : ∃ y, upd g_11 (nI (((n + 1) + 1) + 1) : Int32).toNatClampNeg (vp_nar .byte x_14) = y := ⟨_, rfl⟩
  rw [eg_15] at hP hD
  have hP : va_P D vwCl [(ta0, .inr (9, [.ref ta1, tv1, .int (nI (((n + 1) + 1) + 1)), tv3, tv4, tv5, tv6, tv7])), (ta1, .inl (cy 0, 1600, .inl (g_15)))] H := hP
  have hD : va_D A [(ta0, .inr (9, [.ref ta1, tv1, .int (nI (((n + 1) + 1) + 1)), tv3, tv4, tv5, tv6, tv7])), (ta1, .inl (cy 0, 1600, .inl (g_15)))] := hD
  refine lv_aload_n hx hb dX9_append_30 rfl (lv_at hl 1 rfl) ?_
  refine lv_dup hx hb dX9_append_31 rfl ?_
  refine va_get (D := D) (ci := 9) (v := .int (nI (((n + 1) + 1) + 1))) (C := RX9) (T := TX9) (N := 8) hx hb hg i_X9 hown hK hP 0 rfl rfl 2 (by decide) (hg _ m_218) (fun _ h9 => h9) rfl dX9_append_32 ?_
  refine lv_iconst (v := 1) hx hb dX9_append_35 (by decide) ?_
  refine lv_iadd hx hb dX9_append_36 ?_
  refine lv_topi (fun y_16 hy_16 => ?_)
  obtain rfl : y_16 = nI ((((n + 1) + 1) + 1) + 1) := hy_16.trans (nI_add _ _)
  refine va_put (D := D) (ci := 9) (v := .int (nI ((((n + 1) + 1) + 1) + 1))) (ty := .int) (C := RX9) (T := TX9) (N := 8) hx hb hg i_X9 tyX9 tyX9_ok nmX9 hown hK hP hD hS 0 rfl rfl 2 (by decide) (hg _ m_218) (fun _ h9 => h9) rfl (by decide +kernel) rfl rfl (Nat.le_of_ble_eq_true rfl) dX9_append_37 (fun H locs hP hD hS => ?_)
  have hP : va_P D vwCl [(ta0, .inr (9, [.ref ta1, tv1, .int (nI ((((n + 1) + 1) + 1) + 1)), tv3, tv4, tv5, tv6, tv7])), (ta1, .inl (cy 0, 1600, .inl (g_15)))] H := hP
  have hD : va_D A [(ta0, .inr (9, [.ref ta1, tv1, .int (nI ((((n + 1) + 1) + 1) + 1)), tv3, tv4, tv5, tv6, tv7])), (ta1, .inl (cy 0, 1600, .inl (g_15)))] := hD
  refine lv_iinc (v := -8) (lv' := [(2, .int (-8)), (0, .ref ta0), (1, .int fo)]) hx hb dX9_append_40 hl (k := 0) rfl (by decide) (by decide) rfl (fun ls hl => ?_)
  refine lv_goto (tgt := 3) hx hb dX9_append_43 (by decide) ?_
  refine lv_iload_n hx hb dX9_append_3 rfl (lv_at hl 0 rfl) ?_
  refine lv_if_lt (tgt := 46) hx hb dX9_append_4 (by decide) (fun _ => ?_) (fun h => absurd (by decide) h)
  exact x_vret hQ hx hb hr hlocks hK hP hD hS dX9_append_46 g_15 (trivial) [0, 1] (by decide) rfl (Nat.le_of_ble_eq_true rfl) (Nat.le_of_ble_eq_true rfl)
theorem dX11_feed_0 : decode cX11_feed 0 = .ok (.aload_n 0, 1) := by decide +kernel
theorem dX11_feed_1 : decode cX11_feed 1 = .ok (.getfield 10, 3) := by decide +kernel
theorem dX11_feed_4 : decode cX11_feed 4 = .ok (.getfield 93, 3) := by decide +kernel
theorem dX11_feed_7 : decode cX11_feed 7 = .ok (.bipush 20, 2) := by decide +kernel
theorem dX11_feed_9 : decode cX11_feed 9 = .ok (.iadd, 1) := by decide +kernel
theorem dX11_feed_10 : decode cX11_feed 10 = .ok (.sipush 1600, 3) := by decide +kernel
theorem dX11_feed_13 : decode cX11_feed 13 = .ok (.if_icmp .le 5, 3) := by decide +kernel
theorem dX11_feed_18 : decode cX11_feed 18 = .ok (.aload_n 0, 1) := by decide +kernel
theorem dX11_feed_19 : decode cX11_feed 19 = .ok (.getfield 10, 3) := by decide +kernel
theorem dX11_feed_22 : decode cX11_feed 22 = .ok (.iload_n 1, 1) := by decide +kernel
theorem dX11_feed_23 : decode cX11_feed 23 = .ok (.invokevirtual 96, 3) := by decide +kernel
theorem m_705 : (Cond.methodLink RX11 96 yX9_append) ∈ gT := gm 705 (by decide +kernel) (by decide +kernel)
theorem m_706 : (Cond.instanceMethod yX9_append) ∈ gT := gm 706 (by decide +kernel) (by decide +kernel)
theorem m_707 : (Cond.selects RX9 yX9_append yX9_append) ∈ gT := gm 707 (by decide +kernel) (by decide +kernel)
theorem m_131 : (Cond.initialized RX9) ∈ gT := gm 131 (by decide +kernel) (by decide +kernel)
theorem m_708 : (Cond.code yX9_append cX9_append 3 none) ∈ gT := gm 708 (by decide +kernel) (by decide +kernel)
theorem k_X11_96 : xV RX11 RX9 96 yX9_append cX9_append 3 none 1 := ⟨⟨m_705, m_706, m_707, m_131, m_708⟩, rfl, by decide, by decide, by decide +kernel⟩
theorem dX11_feed_26 : decode cX11_feed 26 = .ok (.aload_n 0, 1) := by decide +kernel
theorem dX11_feed_27 : decode cX11_feed 27 = .ok (.getfield 10, 3) := by decide +kernel
theorem dX11_feed_30 : decode cX11_feed 30 = .ok (.iload_n 2, 1) := by decide +kernel
theorem dX11_feed_31 : decode cX11_feed 31 = .ok (.invokevirtual 96, 3) := by decide +kernel
theorem dX11_feed_34 : decode cX11_feed 34 = .ok (.aload_n 0, 1) := by decide +kernel
theorem dX11_feed_35 : decode cX11_feed 35 = .ok (.getfield 10, 3) := by decide +kernel
theorem dX11_feed_38 : decode cX11_feed 38 = .ok (.iload_n 3, 1) := by decide +kernel
theorem dX11_feed_39 : decode cX11_feed 39 = .ok (.invokevirtual 96, 3) := by decide +kernel
theorem dX11_feed_42 : decode cX11_feed 42 = .ok (.aload_n 0, 1) := by decide +kernel
theorem dX11_feed_43 : decode cX11_feed 43 = .ok (.getfield 10, 3) := by decide +kernel
theorem dX11_feed_46 : decode cX11_feed 46 = .ok (.iload 4, 2) := by decide +kernel
theorem dX11_feed_48 : decode cX11_feed 48 = .ok (.invokevirtual 96, 3) := by decide +kernel
theorem dX11_feed_51 : decode cX11_feed 51 = .ok (.aload_n 0, 1) := by decide +kernel
theorem dX11_feed_52 : decode cX11_feed 52 = .ok (.getfield 10, 3) := by decide +kernel
theorem dX11_feed_55 : decode cX11_feed 55 = .ok (.iload 5, 2) := by decide +kernel
theorem dX11_feed_57 : decode cX11_feed 57 = .ok (.invokevirtual 96, 3) := by decide +kernel
theorem dX11_feed_60 : decode cX11_feed 60 = .ok (.aload_n 0, 1) := by decide +kernel
theorem dX11_feed_61 : decode cX11_feed 61 = .ok (.getfield 10, 3) := by decide +kernel
theorem dX11_feed_64 : decode cX11_feed 64 = .ok (.getfield 93, 3) := by decide +kernel
theorem dX11_feed_67 : decode cX11_feed 67 = .ok (.ireturn, 1) := by decide +kernel
set_option maxHeartbeats 400000 in
set_option maxRecDepth 100000 in
theorem t_feed (l : Launch) (D : va_G) (cy : Nat → ClassId) (a0 : Nat) (w1 : Value) (w2 : Value) (w3 : Value) (w4 : Value) (w5 : Value) (w6 : Value) (w7 : Value) (w8 : Value) (w9 : Value) (w10 : Value) (w11 : Value) (w12 : Value) (w13 : Value) (ta0 : Nat) (ta1 : Nat) (tv1 : Value) (tv3 : Value) (tv4 : Value) (tv5 : Value) (tv6 : Value) (tv7 : Value) (fb : Nat → Int32) (ka : Int32) (kb : Int32) (kc : Int32) (kd : Int32) (ke : Int32)  : XMi l D (tyL cy) E0 yX11_feed cX11_feed 6 (some .int) (rmk 2 0 0) [.ref a0, .int ka, .int kb, .int kc, .int kd, .int ke] [(a0, .inr (11, [.ref ta0, w1, w2, w3, w4, w5, w6, w7, w8, w9, w10, w11, w12, w13])), (ta0, .inr (9, [.ref ta1, tv1, .int 0, tv3, tv4, tv5, tv6, tv7])), (ta1, .inl (cy 0, 1600, .inl (fb)))] (fun (r : Int32) (_ : Unit) => r = 20) (fun (_ : Unit) => []) := by
  refine XMi.start (by decide) (Nat.le_of_ble_eq_true rfl) ?_
  intro p e s m below meth c args A ls Q hat hQ
  obtain ⟨hx, hb, hr, hml, hown, hg, hlocks, hin, hK, hA, hP, hD, hS, hE, hl⟩ := hat
  have hown : s.vm.findClass RX11 = some m.cls := hown
  have hl : lv_has ls 6 [(0, .ref a0), (1, .int ka), (2, .int kb), (3, .int kc), (4, .int kd), (5, .int ke)] := hl
  refine lv_aload_n hx hb dX11_feed_0 rfl (lv_at hl 0 rfl) ?_
  refine va_get (D := D) (ci := 11) (v := .ref ta0) (C := RX11) (T := TX11) (N := 14) hx hb hg i_X11 hown hK hP 0 rfl rfl 0 (by decide) (hg _ m_658) (fun _ h9 => h9) rfl dX11_feed_1 ?_
  refine va_get (D := D) (ci := 9) (v := .int 0) (C := RX9) (T := TX9) (N := 8) hx hb hg i_X9 hown hK hP 1 rfl rfl 2 (by decide) (hg _ m_217) (fun _ h9 => h9) rfl dX11_feed_4 ?_
  refine lv_bipush (v := 20) hx hb dX11_feed_7 (by decide) ?_
  refine lv_iadd hx hb dX11_feed_9 ?_
  refine lv_topi (fun y_1 hy_1 => ?_)
  obtain rfl : y_1 = 20 := hy_1.trans (by decide +kernel)
  refine lv_sipush (v := 1600) hx hb dX11_feed_10 (by decide) ?_
  refine lv_icmp_le (tgt := 18) hx hb dX11_feed_13 (by decide) (fun _ => ?_) (fun h => absurd (by decide) h)
  refine lv_aload_n hx hb dX11_feed_18 rfl (lv_at hl 0 rfl) ?_
  refine va_get (D := D) (ci := 11) (v := .ref ta0) (C := RX11) (T := TX11) (N := 14) hx hb hg i_X11 hown hK hP 0 rfl rfl 0 (by decide) (hg _ m_658) (fun _ h9 => h9) rfl dX11_feed_19 ?_
  refine lv_iload_n hx hb dX11_feed_22 rfl (lv_at hl 1 rfl) ?_
  refine x_callVv (q := (RX9, TX9, 8)) (ci := 9) (q0 := 0) (wr := [(a0, .inr (11, [.ref ta0, w1, w2, w3, w4, w5, w6, w7, w8, w9, w10, w11, w12, w13]))]) (rest := []) ⟨hx, hb, hml, hown, hg, hl.1⟩ k_X11_96 (c_append l D cy ta0 ta1 tv1 tv3 tv4 tv5 tv6 tv7 0 fb ka (by omega)) E0_blind hK hP hD hS hA [1, 2] [0] ⟨rfl, rfl, by decide, by decide, by decide⟩ rfl rfl (fun _ _ _ => trivial) dX11_feed_23 rfl rfl (Nat.le_of_ble_eq_true rfl) ⟨Nat.le_of_ble_eq_true rfl, Nat.le_of_ble_eq_true rfl⟩ ⟨Nat.le_of_ble_eq_true rfl, Nat.le_of_ble_eq_true rfl⟩ (fun u2 H locs hw2 hP hD hS => ?_)
  obtain ⟨fb2_3, rfl⟩ : ∃ z, z = u2 := ⟨_, rfl⟩
  have hP : va_P D vwCl [(a0, .inr (11, [.ref ta0, w1, w2, w3, w4, w5, w6, w7, w8, w9, w10, w11, w12, w13])), (ta0, .inr (9, [.ref ta1, tv1, .int (nI (0 + 4)), tv3, tv4, tv5, tv6, tv7])), (ta1, .inl (cy 0, 1600, .inl (fb2_3)))] H := hP
  have hD : va_D A [(a0, .inr (11, [.ref ta0, w1, w2, w3, w4, w5, w6, w7, w8, w9, w10, w11, w12, w13])), (ta0, .inr (9, [.ref ta1, tv1, .int (nI (0 + 4)), tv3, tv4, tv5, tv6, tv7])), (ta1, .inl (cy 0, 1600, .inl (fb2_3)))] := hD
  refine W.widen (k := 0) (n := 0) (Nat.le_of_ble_eq_true rfl) (Nat.le_of_ble_eq_true rfl) ?_
  refine lv_aload_n hx hb dX11_feed_26 rfl (lv_at hl 0 rfl) ?_
  refine va_get (D := D) (ci := 11) (v := .ref ta0) (C := RX11) (T := TX11) (N := 14) hx hb hg i_X11 hown hK hP 0 rfl rfl 0 (by decide) (hg _ m_658) (fun _ h9 => h9) rfl dX11_feed_27 ?_
  refine lv_iload_n hx hb dX11_feed_30 rfl (lv_at hl 2 rfl) ?_
  refine x_callVv (q := (RX9, TX9, 8)) (ci := 9) (q0 := 0) (wr := [(a0, .inr (11, [.ref ta0, w1, w2, w3, w4, w5, w6, w7, w8, w9, w10, w11, w12, w13]))]) (rest := []) ⟨hx, hb, hml, hown, hg, hl.1⟩ k_X11_96 (c_append l D cy ta0 ta1 tv1 tv3 tv4 tv5 tv6 tv7 ((0 + 4)) fb2_3 kb (by omega)) E0_blind hK hP hD hS hA [1, 2] [0] ⟨rfl, rfl, by decide, by decide, by decide⟩ rfl rfl (fun _ _ _ => trivial) dX11_feed_31 rfl rfl (Nat.le_of_ble_eq_true rfl) ⟨Nat.le_of_ble_eq_true rfl, Nat.le_of_ble_eq_true rfl⟩ ⟨Nat.le_of_ble_eq_true rfl, Nat.le_of_ble_eq_true rfl⟩ (fun u4 H locs hw4 hP hD hS => ?_)
  obtain ⟨fb2_5, rfl⟩ : ∃ z, z = u4 := ⟨_, rfl⟩
  have hP : va_P D vwCl [(a0, .inr (11, [.ref ta0, w1, w2, w3, w4, w5, w6, w7, w8, w9, w10, w11, w12, w13])), (ta0, .inr (9, [.ref ta1, tv1, .int (nI (((0 + 4)) + 4)), tv3, tv4, tv5, tv6, tv7])), (ta1, .inl (cy 0, 1600, .inl (fb2_5)))] H := hP
  have hD : va_D A [(a0, .inr (11, [.ref ta0, w1, w2, w3, w4, w5, w6, w7, w8, w9, w10, w11, w12, w13])), (ta0, .inr (9, [.ref ta1, tv1, .int (nI (((0 + 4)) + 4)), tv3, tv4, tv5, tv6, tv7])), (ta1, .inl (cy 0, 1600, .inl (fb2_5)))] := hD
  refine W.widen (k := 0) (n := 0) (Nat.le_of_ble_eq_true rfl) (Nat.le_of_ble_eq_true rfl) ?_
  refine lv_aload_n hx hb dX11_feed_34 rfl (lv_at hl 0 rfl) ?_
  refine va_get (D := D) (ci := 11) (v := .ref ta0) (C := RX11) (T := TX11) (N := 14) hx hb hg i_X11 hown hK hP 0 rfl rfl 0 (by decide) (hg _ m_658) (fun _ h9 => h9) rfl dX11_feed_35 ?_
  refine lv_iload_n hx hb dX11_feed_38 rfl (lv_at hl 3 rfl) ?_
  refine x_callVv (q := (RX9, TX9, 8)) (ci := 9) (q0 := 0) (wr := [(a0, .inr (11, [.ref ta0, w1, w2, w3, w4, w5, w6, w7, w8, w9, w10, w11, w12, w13]))]) (rest := []) ⟨hx, hb, hml, hown, hg, hl.1⟩ k_X11_96 (c_append l D cy ta0 ta1 tv1 tv3 tv4 tv5 tv6 tv7 ((((0 + 4)) + 4)) fb2_5 kc (by omega)) E0_blind hK hP hD hS hA [1, 2] [0] ⟨rfl, rfl, by decide, by decide, by decide⟩ rfl rfl (fun _ _ _ => trivial) dX11_feed_39 rfl rfl (Nat.le_of_ble_eq_true rfl) ⟨Nat.le_of_ble_eq_true rfl, Nat.le_of_ble_eq_true rfl⟩ ⟨Nat.le_of_ble_eq_true rfl, Nat.le_of_ble_eq_true rfl⟩ (fun u6 H locs hw6 hP hD hS => ?_)
  obtain ⟨fb2_7, rfl⟩ : ∃ z, z = u6 := ⟨_, rfl⟩
  have hP : va_P D vwCl [(a0, .inr (11, [.ref ta0, w1, w2, w3, w4, w5, w6, w7, w8, w9, w10, w11, w12, w13])), (ta0, .inr (9, [.ref ta1, tv1, .int (nI (((((0 + 4)) + 4)) + 4)), tv3, tv4, tv5, tv6, tv7])), (ta1, .inl (cy 0, 1600, .inl (fb2_7)))] H := hP
  have hD : va_D A [(a0, .inr (11, [.ref ta0, w1, w2, w3, w4, w5, w6, w7, w8, w9, w10, w11, w12, w13])), (ta0, .inr (9, [.ref ta1, tv1, .int (nI (((((0 + 4)) + 4)) + 4)), tv3, tv4, tv5, tv6, tv7])), (ta1, .inl (cy 0, 1600, .inl (fb2_7)))] := hD
  refine W.widen (k := 0) (n := 0) (Nat.le_of_ble_eq_true rfl) (Nat.le_of_ble_eq_true rfl) ?_
  refine lv_aload_n hx hb dX11_feed_42 rfl (lv_at hl 0 rfl) ?_
  refine va_get (D := D) (ci := 11) (v := .ref ta0) (C := RX11) (T := TX11) (N := 14) hx hb hg i_X11 hown hK hP 0 rfl rfl 0 (by decide) (hg _ m_658) (fun _ h9 => h9) rfl dX11_feed_43 ?_
  refine lv_iload hx hb dX11_feed_46 (lv_at hl 4 rfl) ?_
  refine x_callVv (q := (RX9, TX9, 8)) (ci := 9) (q0 := 0) (wr := [(a0, .inr (11, [.ref ta0, w1, w2, w3, w4, w5, w6, w7, w8, w9, w10, w11, w12, w13]))]) (rest := []) ⟨hx, hb, hml, hown, hg, hl.1⟩ k_X11_96 (c_append l D cy ta0 ta1 tv1 tv3 tv4 tv5 tv6 tv7 ((((((0 + 4)) + 4)) + 4)) fb2_7 kd (by omega)) E0_blind hK hP hD hS hA [1, 2] [0] ⟨rfl, rfl, by decide, by decide, by decide⟩ rfl rfl (fun _ _ _ => trivial) dX11_feed_48 rfl rfl (Nat.le_of_ble_eq_true rfl) ⟨Nat.le_of_ble_eq_true rfl, Nat.le_of_ble_eq_true rfl⟩ ⟨Nat.le_of_ble_eq_true rfl, Nat.le_of_ble_eq_true rfl⟩ (fun u8 H locs hw8 hP hD hS => ?_)
  obtain ⟨fb2_9, rfl⟩ : ∃ z, z = u8 := ⟨_, rfl⟩
  have hP : va_P D vwCl [(a0, .inr (11, [.ref ta0, w1, w2, w3, w4, w5, w6, w7, w8, w9, w10, w11, w12, w13])), (ta0, .inr (9, [.ref ta1, tv1, .int (nI (((((((0 + 4)) + 4)) + 4)) + 4)), tv3, tv4, tv5, tv6, tv7])), (ta1, .inl (cy 0, 1600, .inl (fb2_9)))] H := hP
  have hD : va_D A [(a0, .inr (11, [.ref ta0, w1, w2, w3, w4, w5, w6, w7, w8, w9, w10, w11, w12, w13])), (ta0, .inr (9, [.ref ta1, tv1, .int (nI (((((((0 + 4)) + 4)) + 4)) + 4)), tv3, tv4, tv5, tv6, tv7])), (ta1, .inl (cy 0, 1600, .inl (fb2_9)))] := hD
  refine W.widen (k := 0) (n := 0) (Nat.le_of_ble_eq_true rfl) (Nat.le_of_ble_eq_true rfl) ?_
  refine lv_aload_n hx hb dX11_feed_51 rfl (lv_at hl 0 rfl) ?_
  refine va_get (D := D) (ci := 11) (v := .ref ta0) (C := RX11) (T := TX11) (N := 14) hx hb hg i_X11 hown hK hP 0 rfl rfl 0 (by decide) (hg _ m_658) (fun _ h9 => h9) rfl dX11_feed_52 ?_
  refine lv_iload hx hb dX11_feed_55 (lv_at hl 5 rfl) ?_
  refine x_callVv (q := (RX9, TX9, 8)) (ci := 9) (q0 := 0) (wr := [(a0, .inr (11, [.ref ta0, w1, w2, w3, w4, w5, w6, w7, w8, w9, w10, w11, w12, w13]))]) (rest := []) ⟨hx, hb, hml, hown, hg, hl.1⟩ k_X11_96 (c_append l D cy ta0 ta1 tv1 tv3 tv4 tv5 tv6 tv7 ((((((((0 + 4)) + 4)) + 4)) + 4)) fb2_9 ke (by omega)) E0_blind hK hP hD hS hA [1, 2] [0] ⟨rfl, rfl, by decide, by decide, by decide⟩ rfl rfl (fun _ _ _ => trivial) dX11_feed_57 rfl rfl (Nat.le_of_ble_eq_true rfl) ⟨Nat.le_of_ble_eq_true rfl, Nat.le_of_ble_eq_true rfl⟩ ⟨Nat.le_of_ble_eq_true rfl, Nat.le_of_ble_eq_true rfl⟩ (fun u10 H locs hw10 hP hD hS => ?_)
  obtain ⟨fb2_11, rfl⟩ : ∃ z, z = u10 := ⟨_, rfl⟩
  have hP : va_P D vwCl [(a0, .inr (11, [.ref ta0, w1, w2, w3, w4, w5, w6, w7, w8, w9, w10, w11, w12, w13])), (ta0, .inr (9, [.ref ta1, tv1, .int (nI (((((((((0 + 4)) + 4)) + 4)) + 4)) + 4)), tv3, tv4, tv5, tv6, tv7])), (ta1, .inl (cy 0, 1600, .inl (fb2_11)))] H := hP
  have hD : va_D A [(a0, .inr (11, [.ref ta0, w1, w2, w3, w4, w5, w6, w7, w8, w9, w10, w11, w12, w13])), (ta0, .inr (9, [.ref ta1, tv1, .int (nI (((((((((0 + 4)) + 4)) + 4)) + 4)) + 4)), tv3, tv4, tv5, tv6, tv7])), (ta1, .inl (cy 0, 1600, .inl (fb2_11)))] := hD
  refine W.widen (k := 0) (n := 0) (Nat.le_of_ble_eq_true rfl) (Nat.le_of_ble_eq_true rfl) ?_
  refine lv_aload_n hx hb dX11_feed_60 rfl (lv_at hl 0 rfl) ?_
  refine va_get (D := D) (ci := 11) (v := .ref ta0) (C := RX11) (T := TX11) (N := 14) hx hb hg i_X11 hown hK hP 0 rfl rfl 0 (by decide) (hg _ m_658) (fun _ h9 => h9) rfl dX11_feed_61 ?_
  refine va_get (D := D) (ci := 9) (v := .int (nI (((((((((0 + 4)) + 4)) + 4)) + 4)) + 4))) (C := RX9) (T := TX9) (N := 8) hx hb hg i_X9 hown hK hP 1 rfl rfl 2 (by decide) (hg _ m_217) (fun _ h9 => h9) rfl dX11_feed_64 ?_
  exact x_iret hQ hx hb hr hlocks hK hP hD hS dX11_feed_67 () (rfl) [] (by decide) rfl (Nat.le_of_ble_eq_true rfl) (Nat.le_of_ble_eq_true rfl)
theorem dX11_about_0 : decode cX11_about 0 = .ok (.iload_n 1, 1) := by decide +kernel
theorem dX11_about_1 : decode cX11_about 1 = .ok (.tableswitch 235 0 16 #[83, 93, 103, 113, 123, 131, 142, 153, 164, 173, 182, 190, 198, 206, 214, 222, 230], 83) := by decide +kernel
theorem dX11_about_236 : decode cX11_about 236 = .ok (.iconst (-1), 1) := by decide +kernel
theorem dX11_about_237 : decode cX11_about 237 = .ok (.ireturn, 1) := by decide +kernel
theorem dX11_about_84 : decode cX11_about 84 = .ok (.aload_n 0, 1) := by decide +kernel
theorem dX11_about_85 : decode cX11_about 85 = .ok (.getfield 28, 3) := by decide +kernel
theorem dX11_about_88 : decode cX11_about 88 = .ok (.getfield 111, 3) := by decide +kernel
theorem dX11_about_91 : decode cX11_about 91 = .ok (.iconst 1, 1) := by decide +kernel
theorem dX11_about_92 : decode cX11_about 92 = .ok (.iaload, 1) := by decide +kernel
theorem dX11_about_93 : decode cX11_about 93 = .ok (.ireturn, 1) := by decide +kernel
theorem dX11_about_94 : decode cX11_about 94 = .ok (.aload_n 0, 1) := by decide +kernel
theorem dX11_about_95 : decode cX11_about 95 = .ok (.getfield 28, 3) := by decide +kernel
theorem dX11_about_98 : decode cX11_about 98 = .ok (.getfield 111, 3) := by decide +kernel
theorem dX11_about_101 : decode cX11_about 101 = .ok (.iconst 0, 1) := by decide +kernel
theorem dX11_about_102 : decode cX11_about 102 = .ok (.iaload, 1) := by decide +kernel
theorem dX11_about_103 : decode cX11_about 103 = .ok (.ireturn, 1) := by decide +kernel
theorem dX11_about_104 : decode cX11_about 104 = .ok (.aload_n 0, 1) := by decide +kernel
theorem dX11_about_105 : decode cX11_about 105 = .ok (.getfield 28, 3) := by decide +kernel
theorem dX11_about_108 : decode cX11_about 108 = .ok (.getfield 111, 3) := by decide +kernel
theorem dX11_about_111 : decode cX11_about 111 = .ok (.iconst 2, 1) := by decide +kernel
theorem dX11_about_112 : decode cX11_about 112 = .ok (.iaload, 1) := by decide +kernel
theorem dX11_about_113 : decode cX11_about 113 = .ok (.ireturn, 1) := by decide +kernel
theorem dX11_about_114 : decode cX11_about 114 = .ok (.aload_n 0, 1) := by decide +kernel
theorem dX11_about_115 : decode cX11_about 115 = .ok (.getfield 28, 3) := by decide +kernel
theorem dX11_about_118 : decode cX11_about 118 = .ok (.getfield 111, 3) := by decide +kernel
theorem dX11_about_121 : decode cX11_about 121 = .ok (.iconst 3, 1) := by decide +kernel
theorem dX11_about_122 : decode cX11_about 122 = .ok (.iaload, 1) := by decide +kernel
theorem dX11_about_123 : decode cX11_about 123 = .ok (.ireturn, 1) := by decide +kernel
theorem dX11_about_124 : decode cX11_about 124 = .ok (.aload_n 0, 1) := by decide +kernel
theorem dX11_about_125 : decode cX11_about 125 = .ok (.getfield 28, 3) := by decide +kernel
theorem dX11_about_128 : decode cX11_about 128 = .ok (.getfield 304, 3) := by decide +kernel
theorem m_373 : (Cond.fieldLink RX11 304 "CliffJudges$Hills" "ons" "I") ∈ gT := gm 373 (by decide +kernel) (by decide +kernel)
theorem dX11_about_131 : decode cX11_about 131 = .ok (.ireturn, 1) := by decide +kernel
theorem dX11_about_132 : decode cX11_about 132 = .ok (.aload_n 0, 1) := by decide +kernel
theorem dX11_about_133 : decode cX11_about 133 = .ok (.getfield 38, 3) := by decide +kernel
theorem dX11_about_136 : decode cX11_about 136 = .ok (.getfield 127, 3) := by decide +kernel
theorem dX11_about_139 : decode cX11_about 139 = .ok (.bipush 22, 2) := by decide +kernel
theorem dX11_about_141 : decode cX11_about 141 = .ok (.iaload, 1) := by decide +kernel
theorem dX11_about_142 : decode cX11_about 142 = .ok (.ireturn, 1) := by decide +kernel
theorem dX11_about_143 : decode cX11_about 143 = .ok (.aload_n 0, 1) := by decide +kernel
theorem dX11_about_144 : decode cX11_about 144 = .ok (.getfield 38, 3) := by decide +kernel
theorem dX11_about_147 : decode cX11_about 147 = .ok (.getfield 127, 3) := by decide +kernel
theorem dX11_about_150 : decode cX11_about 150 = .ok (.bipush 23, 2) := by decide +kernel
theorem dX11_about_152 : decode cX11_about 152 = .ok (.iaload, 1) := by decide +kernel
theorem dX11_about_153 : decode cX11_about 153 = .ok (.ireturn, 1) := by decide +kernel
theorem dX11_about_154 : decode cX11_about 154 = .ok (.aload_n 0, 1) := by decide +kernel
theorem dX11_about_155 : decode cX11_about 155 = .ok (.getfield 38, 3) := by decide +kernel
theorem dX11_about_158 : decode cX11_about 158 = .ok (.getfield 127, 3) := by decide +kernel
theorem dX11_about_161 : decode cX11_about 161 = .ok (.bipush 24, 2) := by decide +kernel
theorem dX11_about_163 : decode cX11_about 163 = .ok (.iaload, 1) := by decide +kernel
theorem dX11_about_164 : decode cX11_about 164 = .ok (.ireturn, 1) := by decide +kernel
theorem dX11_about_165 : decode cX11_about 165 = .ok (.aload_n 0, 1) := by decide +kernel
theorem dX11_about_166 : decode cX11_about 166 = .ok (.getfield 38, 3) := by decide +kernel
theorem dX11_about_169 : decode cX11_about 169 = .ok (.iconst 0, 1) := by decide +kernel
theorem dX11_about_170 : decode cX11_about 170 = .ok (.invokevirtual 147, 3) := by decide +kernel
theorem dX11_about_173 : decode cX11_about 173 = .ok (.ireturn, 1) := by decide +kernel
theorem dX11_about_174 : decode cX11_about 174 = .ok (.aload_n 0, 1) := by decide +kernel
theorem dX11_about_175 : decode cX11_about 175 = .ok (.getfield 38, 3) := by decide +kernel
theorem dX11_about_178 : decode cX11_about 178 = .ok (.iconst 1, 1) := by decide +kernel
theorem dX11_about_179 : decode cX11_about 179 = .ok (.invokevirtual 147, 3) := by decide +kernel
theorem dX11_about_182 : decode cX11_about 182 = .ok (.ireturn, 1) := by decide +kernel
theorem dX11_about_183 : decode cX11_about 183 = .ok (.aload_n 0, 1) := by decide +kernel
theorem dX11_about_184 : decode cX11_about 184 = .ok (.getfield 38, 3) := by decide +kernel
theorem dX11_about_187 : decode cX11_about 187 = .ok (.getfield 307, 3) := by decide +kernel
theorem m_430 : (Cond.fieldLink RX11 307 "CliffJudges$Moments" "undoable" "I") ∈ gT := gm 430 (by decide +kernel) (by decide +kernel)
theorem dX11_about_190 : decode cX11_about 190 = .ok (.ireturn, 1) := by decide +kernel
theorem dX11_about_191 : decode cX11_about 191 = .ok (.aload_n 0, 1) := by decide +kernel
theorem dX11_about_192 : decode cX11_about 192 = .ok (.getfield 38, 3) := by decide +kernel
theorem dX11_about_195 : decode cX11_about 195 = .ok (.getfield 310, 3) := by decide +kernel
theorem m_432 : (Cond.fieldLink RX11 310 "CliffJudges$Moments" "redoable" "I") ∈ gT := gm 432 (by decide +kernel) (by decide +kernel)
theorem dX11_about_198 : decode cX11_about 198 = .ok (.ireturn, 1) := by decide +kernel
theorem dX11_about_199 : decode cX11_about 199 = .ok (.aload_n 0, 1) := by decide +kernel
theorem dX11_about_200 : decode cX11_about 200 = .ok (.getfield 45, 3) := by decide +kernel
theorem dX11_about_203 : decode cX11_about 203 = .ok (.getfield 313, 3) := by decide +kernel
theorem m_463 : (Cond.fieldLink RX11 313 "CliffJudges$Sounds" "count" "I") ∈ gT := gm 463 (by decide +kernel) (by decide +kernel)
theorem dX11_about_206 : decode cX11_about 206 = .ok (.ireturn, 1) := by decide +kernel
theorem dX11_about_207 : decode cX11_about 207 = .ok (.aload_n 0, 1) := by decide +kernel
theorem dX11_about_208 : decode cX11_about 208 = .ok (.getfield 45, 3) := by decide +kernel
theorem dX11_about_211 : decode cX11_about 211 = .ok (.getfield 268, 3) := by decide +kernel
theorem dX11_about_214 : decode cX11_about 214 = .ok (.ireturn, 1) := by decide +kernel
theorem dX11_about_215 : decode cX11_about 215 = .ok (.aload_n 0, 1) := by decide +kernel
theorem dX11_about_216 : decode cX11_about 216 = .ok (.getfield 10, 3) := by decide +kernel
theorem dX11_about_219 : decode cX11_about 219 = .ok (.getfield 93, 3) := by decide +kernel
theorem dX11_about_222 : decode cX11_about 222 = .ok (.ireturn, 1) := by decide +kernel
theorem dX11_about_223 : decode cX11_about 223 = .ok (.aload_n 0, 1) := by decide +kernel
theorem dX11_about_224 : decode cX11_about 224 = .ok (.getfield 28, 3) := by decide +kernel
theorem dX11_about_227 : decode cX11_about 227 = .ok (.getfield 316, 3) := by decide +kernel
theorem m_383 : (Cond.fieldLink RX11 316 "CliffJudges$Hills" "units" "I") ∈ gT := gm 383 (by decide +kernel) (by decide +kernel)
theorem dX11_about_230 : decode cX11_about 230 = .ok (.ireturn, 1) := by decide +kernel
theorem dX11_about_231 : decode cX11_about 231 = .ok (.aload_n 0, 1) := by decide +kernel
theorem dX11_about_232 : decode cX11_about 232 = .ok (.getfield 89, 3) := by decide +kernel
theorem dX11_about_235 : decode cX11_about 235 = .ok (.ireturn, 1) := by decide +kernel
set_option maxHeartbeats 400000 in
set_option maxRecDepth 100000 in
theorem t_about (l : Launch) (D : va_G) (cy : Nat → ClassId) (a0 : Nat) (w1 : Value) (w3 : Value) (w6 : Value) (w7 : Value) (w8 : Value) (w9 : Value) (w10 : Value) (w11 : Value) (w12 : Value) (h0 : Nat) (h1 : Nat) (v1 : Value) (v2 : Value) (v3 : Value) (v4 : Value) (v5 : Value) (v6 : Value) (v7 : Value) (v8 : Value) (v9 : Value) (v10 : Value) (v11 : Value) (v13 : Value) (v14 : Value) (n0 : Nat) (n1 : Nat) (n2 : Nat) (n3 : Nat) (z3 : Value) (z4 : Value) (so0 : Nat) (uv0 : Value) (uv1 : Value) (uv2 : Value) (uv3 : Value) (uv4 : Value) (uv5 : Value) (uv6 : Value) (uv7 : Value) (uv10 : Value) (uv11 : Value) (uv12 : Value) (ta0 : Nat) (tv0 : Value) (tv1 : Value) (tv3 : Value) (tv4 : Value) (tv5 : Value) (tv6 : Value) (tv7 : Value) (ka : Int32)  : XMi l D (tyL cy) E0 yX11_about cX11_about 2 (some .int) (rmk 2 0 0) [.ref a0, .int ka] [(a0, .inr (11, [.ref ta0, w1, .ref h0, w3, .ref n0, .ref so0, w6, w7, w8, w9, w10, w11, w12, .int 0])), (h0, .inr (4, [.ref h1, v1, v2, v3, v4, v5, v6, v7, v8, v9, v10, v11, .int 0, v13, v14, .int 0])), (h1, .inl (cy 1, 4, .inl (fun _ => 0))), (n0, .inr (5, [.ref n1, .ref n2, .ref n3, z3, z4, .int 0, .int 0])), (n1, .inl (cy 1, 41, .inl (fun _ => 0))), (so0, .inr (8, [uv0, uv1, uv2, uv3, uv4, uv5, uv6, uv7, .int 0, .int 0, uv10, uv11, uv12])), (ta0, .inr (9, [tv0, tv1, .int 0, tv3, tv4, tv5, tv6, tv7]))] (fun (r : Int32) (_ : Unit) => r = if 0 ≤ ka.toInt ∧ ka.toInt ≤ 16 then 0 else -1) (fun (_ : Unit) => []) := by
  refine XMi.start (by decide) (Nat.le_of_ble_eq_true rfl) ?_
  intro p e s m below meth c args A ls Q hat hQ
  obtain ⟨hx, hb, hr, hml, hown, hg, hlocks, hin, hK, hA, hP, hD, hS, hE, hl⟩ := hat
  have hown : s.vm.findClass RX11 = some m.cls := hown
  have hl : lv_has ls 2 [(0, .ref a0), (1, .int ka)] := hl
  refine lv_iload_n hx hb dX11_about_0 rfl (lv_at hl 1 rfl) ?_
  rcases sw_split ka 17 (by decide) with hs | ⟨j, hj, rfl⟩
  · refine lv_tableOut (tgt := 236) hx hb dX11_about_1 (by omega) (by decide) ?_
    refine lv_iconst (v := -1) hx hb dX11_about_236 (by decide) ?_
    exact x_iret hQ hx hb hr hlocks hK hP hD hS dX11_about_237 () ((if_neg (by omega)).symm) [] (by decide) rfl (Nat.le_of_ble_eq_true rfl) (Nat.le_of_ble_eq_true rfl)
  · rcases (show j = 0 ∨ j = 1 ∨ j = 2 ∨ j = 3 ∨ j = 4 ∨ j = 5 ∨ j = 6 ∨ j = 7 ∨ j = 8 ∨ j = 9 ∨ j = 10 ∨ j = 11 ∨ j = 12 ∨ j = 13 ∨ j = 14 ∨ j = 15 ∨ j = 16 by omega) with rfl | rfl | rfl | rfl | rfl | rfl | rfl | rfl | rfl | rfl | rfl | rfl | rfl | rfl | rfl | rfl | rfl
    · refine lv_tableIn (off := 83) (tgt := 84) hx hb dX11_about_1 (by decide) (by decide) (by decide) (by decide) ?_
      refine lv_aload_n hx hb dX11_about_84 rfl (lv_at hl 0 rfl) ?_
      refine va_get (D := D) (ci := 11) (v := .ref h0) (C := RX11) (T := TX11) (N := 14) hx hb hg i_X11 hown hK hP 0 rfl rfl 2 (by decide) (hg _ m_660) (fun _ h9 => h9) rfl dX11_about_85 ?_
      refine va_get (D := D) (ci := 4) (v := .ref h1) (C := RX4) (T := TX4) (N := 16) hx hb hg i_X4 hown hK hP 1 rfl rfl 0 (by decide) (hg _ m_335) (fun _ h9 => h9) rfl dX11_about_88 ?_
      refine lv_iconst (v := 1) hx hb dX11_about_91 (by decide) ?_
      refine va_iald hx hb hK hP 2 1 rfl rfl (by unfold vp_in; decide) dX11_about_92 ?_
      refine lv_topi (fun y_1 hy_1 => ?_)
      obtain rfl : y_1 = 0 := hy_1.trans (by decide +kernel)
      exact x_iret hQ hx hb hr hlocks hK hP hD hS dX11_about_93 () (by decide) [] (by decide) rfl (Nat.le_of_ble_eq_true rfl) (Nat.le_of_ble_eq_true rfl)
    · refine lv_tableIn (off := 93) (tgt := 94) hx hb dX11_about_1 (by decide) (by decide) (by decide) (by decide) ?_
      refine lv_aload_n hx hb dX11_about_94 rfl (lv_at hl 0 rfl) ?_
      refine va_get (D := D) (ci := 11) (v := .ref h0) (C := RX11) (T := TX11) (N := 14) hx hb hg i_X11 hown hK hP 0 rfl rfl 2 (by decide) (hg _ m_660) (fun _ h9 => h9) rfl dX11_about_95 ?_
      refine va_get (D := D) (ci := 4) (v := .ref h1) (C := RX4) (T := TX4) (N := 16) hx hb hg i_X4 hown hK hP 1 rfl rfl 0 (by decide) (hg _ m_335) (fun _ h9 => h9) rfl dX11_about_98 ?_
      refine lv_iconst (v := 0) hx hb dX11_about_101 (by decide) ?_
      refine va_iald hx hb hK hP 2 1 rfl rfl (by unfold vp_in; decide) dX11_about_102 ?_
      refine lv_topi (fun y_2 hy_2 => ?_)
      obtain rfl : y_2 = 0 := hy_2.trans (by decide +kernel)
      exact x_iret hQ hx hb hr hlocks hK hP hD hS dX11_about_103 () (by decide) [] (by decide) rfl (Nat.le_of_ble_eq_true rfl) (Nat.le_of_ble_eq_true rfl)
    · refine lv_tableIn (off := 103) (tgt := 104) hx hb dX11_about_1 (by decide) (by decide) (by decide) (by decide) ?_
      refine lv_aload_n hx hb dX11_about_104 rfl (lv_at hl 0 rfl) ?_
      refine va_get (D := D) (ci := 11) (v := .ref h0) (C := RX11) (T := TX11) (N := 14) hx hb hg i_X11 hown hK hP 0 rfl rfl 2 (by decide) (hg _ m_660) (fun _ h9 => h9) rfl dX11_about_105 ?_
      refine va_get (D := D) (ci := 4) (v := .ref h1) (C := RX4) (T := TX4) (N := 16) hx hb hg i_X4 hown hK hP 1 rfl rfl 0 (by decide) (hg _ m_335) (fun _ h9 => h9) rfl dX11_about_108 ?_
      refine lv_iconst (v := 2) hx hb dX11_about_111 (by decide) ?_
      refine va_iald hx hb hK hP 2 1 rfl rfl (by unfold vp_in; decide) dX11_about_112 ?_
      refine lv_topi (fun y_3 hy_3 => ?_)
      obtain rfl : y_3 = 0 := hy_3.trans (by decide +kernel)
      exact x_iret hQ hx hb hr hlocks hK hP hD hS dX11_about_113 () (by decide) [] (by decide) rfl (Nat.le_of_ble_eq_true rfl) (Nat.le_of_ble_eq_true rfl)
    · refine lv_tableIn (off := 113) (tgt := 114) hx hb dX11_about_1 (by decide) (by decide) (by decide) (by decide) ?_
      refine lv_aload_n hx hb dX11_about_114 rfl (lv_at hl 0 rfl) ?_
      refine va_get (D := D) (ci := 11) (v := .ref h0) (C := RX11) (T := TX11) (N := 14) hx hb hg i_X11 hown hK hP 0 rfl rfl 2 (by decide) (hg _ m_660) (fun _ h9 => h9) rfl dX11_about_115 ?_
      refine va_get (D := D) (ci := 4) (v := .ref h1) (C := RX4) (T := TX4) (N := 16) hx hb hg i_X4 hown hK hP 1 rfl rfl 0 (by decide) (hg _ m_335) (fun _ h9 => h9) rfl dX11_about_118 ?_
      refine lv_iconst (v := 3) hx hb dX11_about_121 (by decide) ?_
      refine va_iald hx hb hK hP 2 1 rfl rfl (by unfold vp_in; decide) dX11_about_122 ?_
      refine lv_topi (fun y_4 hy_4 => ?_)
      obtain rfl : y_4 = 0 := hy_4.trans (by decide +kernel)
      exact x_iret hQ hx hb hr hlocks hK hP hD hS dX11_about_123 () (by decide) [] (by decide) rfl (Nat.le_of_ble_eq_true rfl) (Nat.le_of_ble_eq_true rfl)
    · refine lv_tableIn (off := 123) (tgt := 124) hx hb dX11_about_1 (by decide) (by decide) (by decide) (by decide) ?_
      refine lv_aload_n hx hb dX11_about_124 rfl (lv_at hl 0 rfl) ?_
      refine va_get (D := D) (ci := 11) (v := .ref h0) (C := RX11) (T := TX11) (N := 14) hx hb hg i_X11 hown hK hP 0 rfl rfl 2 (by decide) (hg _ m_660) (fun _ h9 => h9) rfl dX11_about_125 ?_
      refine va_get (D := D) (ci := 4) (v := .int 0) (C := RX4) (T := TX4) (N := 16) hx hb hg i_X4 hown hK hP 1 rfl rfl 12 (by decide) (hg _ m_373) (fun _ h9 => h9) rfl dX11_about_128 ?_
      exact x_iret hQ hx hb hr hlocks hK hP hD hS dX11_about_131 () (by decide) [] (by decide) rfl (Nat.le_of_ble_eq_true rfl) (Nat.le_of_ble_eq_true rfl)
    · refine lv_tableIn (off := 131) (tgt := 132) hx hb dX11_about_1 (by decide) (by decide) (by decide) (by decide) ?_
      refine lv_aload_n hx hb dX11_about_132 rfl (lv_at hl 0 rfl) ?_
      refine va_get (D := D) (ci := 11) (v := .ref n0) (C := RX11) (T := TX11) (N := 14) hx hb hg i_X11 hown hK hP 0 rfl rfl 4 (by decide) (hg _ m_662) (fun _ h9 => h9) rfl dX11_about_133 ?_
      refine va_get (D := D) (ci := 5) (v := .ref n1) (C := RX5) (T := TX5) (N := 7) hx hb hg i_X5 hown hK hP 3 rfl rfl 0 (by decide) (hg _ m_424) (fun _ h9 => h9) rfl dX11_about_136 ?_
      refine lv_bipush (v := 22) hx hb dX11_about_139 (by decide) ?_
      refine va_iald hx hb hK hP 4 1 rfl rfl (by unfold vp_in; decide) dX11_about_141 ?_
      refine lv_topi (fun y_5 hy_5 => ?_)
      obtain rfl : y_5 = 0 := hy_5.trans (by decide +kernel)
      exact x_iret hQ hx hb hr hlocks hK hP hD hS dX11_about_142 () (by decide) [] (by decide) rfl (Nat.le_of_ble_eq_true rfl) (Nat.le_of_ble_eq_true rfl)
    · refine lv_tableIn (off := 142) (tgt := 143) hx hb dX11_about_1 (by decide) (by decide) (by decide) (by decide) ?_
      refine lv_aload_n hx hb dX11_about_143 rfl (lv_at hl 0 rfl) ?_
      refine va_get (D := D) (ci := 11) (v := .ref n0) (C := RX11) (T := TX11) (N := 14) hx hb hg i_X11 hown hK hP 0 rfl rfl 4 (by decide) (hg _ m_662) (fun _ h9 => h9) rfl dX11_about_144 ?_
      refine va_get (D := D) (ci := 5) (v := .ref n1) (C := RX5) (T := TX5) (N := 7) hx hb hg i_X5 hown hK hP 3 rfl rfl 0 (by decide) (hg _ m_424) (fun _ h9 => h9) rfl dX11_about_147 ?_
      refine lv_bipush (v := 23) hx hb dX11_about_150 (by decide) ?_
      refine va_iald hx hb hK hP 4 1 rfl rfl (by unfold vp_in; decide) dX11_about_152 ?_
      refine lv_topi (fun y_6 hy_6 => ?_)
      obtain rfl : y_6 = 0 := hy_6.trans (by decide +kernel)
      exact x_iret hQ hx hb hr hlocks hK hP hD hS dX11_about_153 () (by decide) [] (by decide) rfl (Nat.le_of_ble_eq_true rfl) (Nat.le_of_ble_eq_true rfl)
    · refine lv_tableIn (off := 153) (tgt := 154) hx hb dX11_about_1 (by decide) (by decide) (by decide) (by decide) ?_
      refine lv_aload_n hx hb dX11_about_154 rfl (lv_at hl 0 rfl) ?_
      refine va_get (D := D) (ci := 11) (v := .ref n0) (C := RX11) (T := TX11) (N := 14) hx hb hg i_X11 hown hK hP 0 rfl rfl 4 (by decide) (hg _ m_662) (fun _ h9 => h9) rfl dX11_about_155 ?_
      refine va_get (D := D) (ci := 5) (v := .ref n1) (C := RX5) (T := TX5) (N := 7) hx hb hg i_X5 hown hK hP 3 rfl rfl 0 (by decide) (hg _ m_424) (fun _ h9 => h9) rfl dX11_about_158 ?_
      refine lv_bipush (v := 24) hx hb dX11_about_161 (by decide) ?_
      refine va_iald hx hb hK hP 4 1 rfl rfl (by unfold vp_in; decide) dX11_about_163 ?_
      refine lv_topi (fun y_7 hy_7 => ?_)
      obtain rfl : y_7 = 0 := hy_7.trans (by decide +kernel)
      exact x_iret hQ hx hb hr hlocks hK hP hD hS dX11_about_164 () (by decide) [] (by decide) rfl (Nat.le_of_ble_eq_true rfl) (Nat.le_of_ble_eq_true rfl)
    · refine lv_tableIn (off := 164) (tgt := 165) hx hb dX11_about_1 (by decide) (by decide) (by decide) (by decide) ?_
      refine lv_aload_n hx hb dX11_about_165 rfl (lv_at hl 0 rfl) ?_
      refine va_get (D := D) (ci := 11) (v := .ref n0) (C := RX11) (T := TX11) (N := 14) hx hb hg i_X11 hown hK hP 0 rfl rfl 4 (by decide) (hg _ m_662) (fun _ h9 => h9) rfl dX11_about_166 ?_
      refine lv_iconst (v := 0) hx hb dX11_about_169 (by decide) ?_
      refine x_callVi (q := (RX5, TX5, 7)) (ci := 5) (q0 := 0) (wr := [(a0, .inr (11, [.ref ta0, w1, .ref h0, w3, .ref n0, .ref so0, w6, w7, w8, w9, w10, w11, w12, .int 0])), (h0, .inr (4, [.ref h1, v1, v2, v3, v4, v5, v6, v7, v8, v9, v10, v11, .int 0, v13, v14, .int 0])), (h1, .inl (cy 1, 4, .inl (fun _ => 0))), (so0, .inr (8, [uv0, uv1, uv2, uv3, uv4, uv5, uv6, uv7, .int 0, .int 0, uv10, uv11, uv12])), (ta0, .inr (9, [tv0, tv1, .int 0, tv3, tv4, tv5, tv6, tv7]))]) (rest := []) ⟨hx, hb, hml, hown, hg, hl.1⟩ k_X11_147 (c_cryLength l D cy n0 n1 n2 n3 z3 z4 ((.int 0)) ((.int 0)) 0 (by unfold vp_in; decide)) E0_blind hK hP hD hS hA [3, 4] [0, 1, 2, 5, 6] ⟨rfl, rfl, by decide, by decide, by decide⟩ rfl rfl (fun _ _ _ => trivial) dX11_about_170 rfl rfl (Nat.le_of_ble_eq_true rfl) ⟨Nat.le_of_ble_eq_true rfl, Nat.le_of_ble_eq_true rfl⟩ ⟨Nat.le_of_ble_eq_true rfl, Nat.le_of_ble_eq_true rfl⟩ (fun r8 u8 H locs hw8 hP hD hS => ?_)
      have hP : va_P D vwCl [(a0, .inr (11, [.ref ta0, w1, .ref h0, w3, .ref n0, .ref so0, w6, w7, w8, w9, w10, w11, w12, .int 0])), (h0, .inr (4, [.ref h1, v1, v2, v3, v4, v5, v6, v7, v8, v9, v10, v11, .int 0, v13, v14, .int 0])), (h1, .inl (cy 1, 4, .inl (fun _ => 0))), (so0, .inr (8, [uv0, uv1, uv2, uv3, uv4, uv5, uv6, uv7, .int 0, .int 0, uv10, uv11, uv12])), (ta0, .inr (9, [tv0, tv1, .int 0, tv3, tv4, tv5, tv6, tv7])), (n0, .inr (5, [.ref n1, .ref n2, .ref n3, z3, z4, .int 0, .int 0])), (n1, .inl (cy 1, 41, .inl (fun _ => 0)))] H := hP
      have hD : va_D A [(a0, .inr (11, [.ref ta0, w1, .ref h0, w3, .ref n0, .ref so0, w6, w7, w8, w9, w10, w11, w12, .int 0])), (h0, .inr (4, [.ref h1, v1, v2, v3, v4, v5, v6, v7, v8, v9, v10, v11, .int 0, v13, v14, .int 0])), (h1, .inl (cy 1, 4, .inl (fun _ => 0))), (so0, .inr (8, [uv0, uv1, uv2, uv3, uv4, uv5, uv6, uv7, .int 0, .int 0, uv10, uv11, uv12])), (ta0, .inr (9, [tv0, tv1, .int 0, tv3, tv4, tv5, tv6, tv7])), (n0, .inr (5, [.ref n1, .ref n2, .ref n3, z3, z4, .int 0, .int 0])), (n1, .inl (cy 1, 41, .inl (fun _ => 0)))] := hD
      refine W.widen (k := 0) (n := 0) (Nat.le_of_ble_eq_true rfl) (Nat.le_of_ble_eq_true rfl) ?_
      have hw8 : r8 = 0 := hw8
      subst hw8
      exact x_iret hQ hx hb hr hlocks hK hP hD hS dX11_about_173 () (by decide) [] (by decide) rfl (Nat.le_of_ble_eq_true rfl) (Nat.le_of_ble_eq_true rfl)
    · refine lv_tableIn (off := 173) (tgt := 174) hx hb dX11_about_1 (by decide) (by decide) (by decide) (by decide) ?_
      refine lv_aload_n hx hb dX11_about_174 rfl (lv_at hl 0 rfl) ?_
      refine va_get (D := D) (ci := 11) (v := .ref n0) (C := RX11) (T := TX11) (N := 14) hx hb hg i_X11 hown hK hP 0 rfl rfl 4 (by decide) (hg _ m_662) (fun _ h9 => h9) rfl dX11_about_175 ?_
      refine lv_iconst (v := 1) hx hb dX11_about_178 (by decide) ?_
      refine x_callVi (q := (RX5, TX5, 7)) (ci := 5) (q0 := 0) (wr := [(a0, .inr (11, [.ref ta0, w1, .ref h0, w3, .ref n0, .ref so0, w6, w7, w8, w9, w10, w11, w12, .int 0])), (h0, .inr (4, [.ref h1, v1, v2, v3, v4, v5, v6, v7, v8, v9, v10, v11, .int 0, v13, v14, .int 0])), (h1, .inl (cy 1, 4, .inl (fun _ => 0))), (so0, .inr (8, [uv0, uv1, uv2, uv3, uv4, uv5, uv6, uv7, .int 0, .int 0, uv10, uv11, uv12])), (ta0, .inr (9, [tv0, tv1, .int 0, tv3, tv4, tv5, tv6, tv7]))]) (rest := []) ⟨hx, hb, hml, hown, hg, hl.1⟩ k_X11_147 (c_cryLength l D cy n0 n1 n2 n3 z3 z4 ((.int 0)) ((.int 0)) 1 (by unfold vp_in; decide)) E0_blind hK hP hD hS hA [3, 4] [0, 1, 2, 5, 6] ⟨rfl, rfl, by decide, by decide, by decide⟩ rfl rfl (fun _ _ _ => trivial) dX11_about_179 rfl rfl (Nat.le_of_ble_eq_true rfl) ⟨Nat.le_of_ble_eq_true rfl, Nat.le_of_ble_eq_true rfl⟩ ⟨Nat.le_of_ble_eq_true rfl, Nat.le_of_ble_eq_true rfl⟩ (fun r9 u9 H locs hw9 hP hD hS => ?_)
      have hP : va_P D vwCl [(a0, .inr (11, [.ref ta0, w1, .ref h0, w3, .ref n0, .ref so0, w6, w7, w8, w9, w10, w11, w12, .int 0])), (h0, .inr (4, [.ref h1, v1, v2, v3, v4, v5, v6, v7, v8, v9, v10, v11, .int 0, v13, v14, .int 0])), (h1, .inl (cy 1, 4, .inl (fun _ => 0))), (so0, .inr (8, [uv0, uv1, uv2, uv3, uv4, uv5, uv6, uv7, .int 0, .int 0, uv10, uv11, uv12])), (ta0, .inr (9, [tv0, tv1, .int 0, tv3, tv4, tv5, tv6, tv7])), (n0, .inr (5, [.ref n1, .ref n2, .ref n3, z3, z4, .int 0, .int 0])), (n1, .inl (cy 1, 41, .inl (fun _ => 0)))] H := hP
      have hD : va_D A [(a0, .inr (11, [.ref ta0, w1, .ref h0, w3, .ref n0, .ref so0, w6, w7, w8, w9, w10, w11, w12, .int 0])), (h0, .inr (4, [.ref h1, v1, v2, v3, v4, v5, v6, v7, v8, v9, v10, v11, .int 0, v13, v14, .int 0])), (h1, .inl (cy 1, 4, .inl (fun _ => 0))), (so0, .inr (8, [uv0, uv1, uv2, uv3, uv4, uv5, uv6, uv7, .int 0, .int 0, uv10, uv11, uv12])), (ta0, .inr (9, [tv0, tv1, .int 0, tv3, tv4, tv5, tv6, tv7])), (n0, .inr (5, [.ref n1, .ref n2, .ref n3, z3, z4, .int 0, .int 0])), (n1, .inl (cy 1, 41, .inl (fun _ => 0)))] := hD
      refine W.widen (k := 0) (n := 0) (Nat.le_of_ble_eq_true rfl) (Nat.le_of_ble_eq_true rfl) ?_
      have hw9 : r9 = 0 := hw9
      subst hw9
      exact x_iret hQ hx hb hr hlocks hK hP hD hS dX11_about_182 () (by decide) [] (by decide) rfl (Nat.le_of_ble_eq_true rfl) (Nat.le_of_ble_eq_true rfl)
    · refine lv_tableIn (off := 182) (tgt := 183) hx hb dX11_about_1 (by decide) (by decide) (by decide) (by decide) ?_
      refine lv_aload_n hx hb dX11_about_183 rfl (lv_at hl 0 rfl) ?_
      refine va_get (D := D) (ci := 11) (v := .ref n0) (C := RX11) (T := TX11) (N := 14) hx hb hg i_X11 hown hK hP 0 rfl rfl 4 (by decide) (hg _ m_662) (fun _ h9 => h9) rfl dX11_about_184 ?_
      refine va_get (D := D) (ci := 5) (v := .int 0) (C := RX5) (T := TX5) (N := 7) hx hb hg i_X5 hown hK hP 3 rfl rfl 5 (by decide) (hg _ m_430) (fun _ h9 => h9) rfl dX11_about_187 ?_
      exact x_iret hQ hx hb hr hlocks hK hP hD hS dX11_about_190 () (by decide) [] (by decide) rfl (Nat.le_of_ble_eq_true rfl) (Nat.le_of_ble_eq_true rfl)
    · refine lv_tableIn (off := 190) (tgt := 191) hx hb dX11_about_1 (by decide) (by decide) (by decide) (by decide) ?_
      refine lv_aload_n hx hb dX11_about_191 rfl (lv_at hl 0 rfl) ?_
      refine va_get (D := D) (ci := 11) (v := .ref n0) (C := RX11) (T := TX11) (N := 14) hx hb hg i_X11 hown hK hP 0 rfl rfl 4 (by decide) (hg _ m_662) (fun _ h9 => h9) rfl dX11_about_192 ?_
      refine va_get (D := D) (ci := 5) (v := .int 0) (C := RX5) (T := TX5) (N := 7) hx hb hg i_X5 hown hK hP 3 rfl rfl 6 (by decide) (hg _ m_432) (fun _ h9 => h9) rfl dX11_about_195 ?_
      exact x_iret hQ hx hb hr hlocks hK hP hD hS dX11_about_198 () (by decide) [] (by decide) rfl (Nat.le_of_ble_eq_true rfl) (Nat.le_of_ble_eq_true rfl)
    · refine lv_tableIn (off := 198) (tgt := 199) hx hb dX11_about_1 (by decide) (by decide) (by decide) (by decide) ?_
      refine lv_aload_n hx hb dX11_about_199 rfl (lv_at hl 0 rfl) ?_
      refine va_get (D := D) (ci := 11) (v := .ref so0) (C := RX11) (T := TX11) (N := 14) hx hb hg i_X11 hown hK hP 0 rfl rfl 5 (by decide) (hg _ m_663) (fun _ h9 => h9) rfl dX11_about_200 ?_
      refine va_get (D := D) (ci := 8) (v := .int 0) (C := RX8) (T := TX8) (N := 13) hx hb hg i_X8 hown hK hP 5 rfl rfl 8 (by decide) (hg _ m_463) (fun _ h9 => h9) rfl dX11_about_203 ?_
      exact x_iret hQ hx hb hr hlocks hK hP hD hS dX11_about_206 () (by decide) [] (by decide) rfl (Nat.le_of_ble_eq_true rfl) (Nat.le_of_ble_eq_true rfl)
    · refine lv_tableIn (off := 206) (tgt := 207) hx hb dX11_about_1 (by decide) (by decide) (by decide) (by decide) ?_
      refine lv_aload_n hx hb dX11_about_207 rfl (lv_at hl 0 rfl) ?_
      refine va_get (D := D) (ci := 11) (v := .ref so0) (C := RX11) (T := TX11) (N := 14) hx hb hg i_X11 hown hK hP 0 rfl rfl 5 (by decide) (hg _ m_663) (fun _ h9 => h9) rfl dX11_about_208 ?_
      refine va_get (D := D) (ci := 8) (v := .int 0) (C := RX8) (T := TX8) (N := 13) hx hb hg i_X8 hown hK hP 5 rfl rfl 9 (by decide) (hg _ m_465) (fun _ h9 => h9) rfl dX11_about_211 ?_
      exact x_iret hQ hx hb hr hlocks hK hP hD hS dX11_about_214 () (by decide) [] (by decide) rfl (Nat.le_of_ble_eq_true rfl) (Nat.le_of_ble_eq_true rfl)
    · refine lv_tableIn (off := 214) (tgt := 215) hx hb dX11_about_1 (by decide) (by decide) (by decide) (by decide) ?_
      refine lv_aload_n hx hb dX11_about_215 rfl (lv_at hl 0 rfl) ?_
      refine va_get (D := D) (ci := 11) (v := .ref ta0) (C := RX11) (T := TX11) (N := 14) hx hb hg i_X11 hown hK hP 0 rfl rfl 0 (by decide) (hg _ m_658) (fun _ h9 => h9) rfl dX11_about_216 ?_
      refine va_get (D := D) (ci := 9) (v := .int 0) (C := RX9) (T := TX9) (N := 8) hx hb hg i_X9 hown hK hP 6 rfl rfl 2 (by decide) (hg _ m_217) (fun _ h9 => h9) rfl dX11_about_219 ?_
      exact x_iret hQ hx hb hr hlocks hK hP hD hS dX11_about_222 () (by decide) [] (by decide) rfl (Nat.le_of_ble_eq_true rfl) (Nat.le_of_ble_eq_true rfl)
    · refine lv_tableIn (off := 222) (tgt := 223) hx hb dX11_about_1 (by decide) (by decide) (by decide) (by decide) ?_
      refine lv_aload_n hx hb dX11_about_223 rfl (lv_at hl 0 rfl) ?_
      refine va_get (D := D) (ci := 11) (v := .ref h0) (C := RX11) (T := TX11) (N := 14) hx hb hg i_X11 hown hK hP 0 rfl rfl 2 (by decide) (hg _ m_660) (fun _ h9 => h9) rfl dX11_about_224 ?_
      refine va_get (D := D) (ci := 4) (v := .int 0) (C := RX4) (T := TX4) (N := 16) hx hb hg i_X4 hown hK hP 1 rfl rfl 15 (by decide) (hg _ m_383) (fun _ h9 => h9) rfl dX11_about_227 ?_
      exact x_iret hQ hx hb hr hlocks hK hP hD hS dX11_about_230 () (by decide) [] (by decide) rfl (Nat.le_of_ble_eq_true rfl) (Nat.le_of_ble_eq_true rfl)
    · refine lv_tableIn (off := 230) (tgt := 231) hx hb dX11_about_1 (by decide) (by decide) (by decide) (by decide) ?_
      refine lv_aload_n hx hb dX11_about_231 rfl (lv_at hl 0 rfl) ?_
      refine va_get (D := D) (ci := 11) (v := .int 0) (C := RX11) (T := TX11) (N := 14) hx hb hg i_X11 hown hK hP 0 rfl rfl 13 (by decide) (hg _ m_671) (fun _ h9 => h9) rfl dX11_about_232 ?_
      exact x_iret hQ hx hb hr hlocks hK hP hD hS dX11_about_235 () (by decide) [] (by decide) rfl (Nat.le_of_ble_eq_true rfl) (Nat.le_of_ble_eq_true rfl)
theorem dX5_keepAct_0 : decode cX5_keepAct 0 = .ok (.aload_n 0, 1) := by decide +kernel
theorem dX5_keepAct_1 : decode cX5_keepAct 1 = .ok (.aload_n 0, 1) := by decide +kernel
theorem dX5_keepAct_2 : decode cX5_keepAct 2 = .ok (.getfield 42, 3) := by decide +kernel
theorem m_428 : (Cond.fieldLink RX5 42 "CliffJudges$Moments" "current" "I") ∈ gT := gm 428 (by decide +kernel) (by decide +kernel)
theorem dX5_keepAct_5 : decode cX5_keepAct 5 = .ok (.iconst 1, 1) := by decide +kernel
theorem dX5_keepAct_6 : decode cX5_keepAct 6 = .ok (.iadd, 1) := by decide +kernel
theorem dX5_keepAct_7 : decode cX5_keepAct 7 = .ok (.bipush 41, 2) := by decide +kernel
theorem dX5_keepAct_9 : decode cX5_keepAct 9 = .ok (.irem, 1) := by decide +kernel
theorem dX5_keepAct_10 : decode cX5_keepAct 10 = .ok (.putfield 42, 3) := by decide +kernel
theorem dX5_keepAct_13 : decode cX5_keepAct 13 = .ok (.aload_n 0, 1) := by decide +kernel
theorem dX5_keepAct_14 : decode cX5_keepAct 14 = .ok (.aload_n 0, 1) := by decide +kernel
theorem dX5_keepAct_15 : decode cX5_keepAct 15 = .ok (.getfield 45, 3) := by decide +kernel
theorem dX5_keepAct_18 : decode cX5_keepAct 18 = .ok (.iconst 1, 1) := by decide +kernel
theorem dX5_keepAct_19 : decode cX5_keepAct 19 = .ok (.iadd, 1) := by decide +kernel
theorem dX5_keepAct_20 : decode cX5_keepAct 20 = .ok (.bipush 40, 2) := by decide +kernel
theorem dX5_keepAct_22 : decode cX5_keepAct 22 = .ok (.invokestatic 57, 3) := by decide +kernel
theorem m_984 : (Cond.methodLink RX5 57 yJ9_min_7cf53) ∈ gT := gm 984 (by decide +kernel) (by decide +kernel)
theorem m_770 : (Cond.static yJ9_min_7cf53) ∈ gT := gm 770 (by decide +kernel) (by decide +kernel)
theorem m_147 : (Cond.initialized RJ9) ∈ gT := gm 147 (by decide +kernel) (by decide +kernel)
theorem m_771 : (Cond.code yJ9_min_7cf53 cJ9_min_7cf53 2 (some .int)) ∈ gT := gm 771 (by decide +kernel) (by decide +kernel)
theorem dX5_keepAct_25 : decode cX5_keepAct 25 = .ok (.putfield 45, 3) := by decide +kernel
theorem dX5_keepAct_28 : decode cX5_keepAct 28 = .ok (.aload_n 0, 1) := by decide +kernel
theorem dX5_keepAct_29 : decode cX5_keepAct 29 = .ok (.iconst 0, 1) := by decide +kernel
theorem dX5_keepAct_30 : decode cX5_keepAct 30 = .ok (.putfield 48, 3) := by decide +kernel
theorem dX5_keepAct_33 : decode cX5_keepAct 33 = .ok (.aload_n 0, 1) := by decide +kernel
theorem dX5_keepAct_34 : decode cX5_keepAct 34 = .ok (.getfield 11, 3) := by decide +kernel
theorem dX5_keepAct_37 : decode cX5_keepAct 37 = .ok (.iconst 0, 1) := by decide +kernel
theorem dX5_keepAct_38 : decode cX5_keepAct 38 = .ok (.aload_n 0, 1) := by decide +kernel
theorem dX5_keepAct_39 : decode cX5_keepAct 39 = .ok (.getfield 15, 3) := by decide +kernel
theorem m_425 : (Cond.fieldLink RX5 15 "CliffJudges$Moments" "rows" "[I") ∈ gT := gm 425 (by decide +kernel) (by decide +kernel)
theorem dX5_keepAct_42 : decode cX5_keepAct 42 = .ok (.aload_n 0, 1) := by decide +kernel
theorem dX5_keepAct_43 : decode cX5_keepAct 43 = .ok (.getfield 42, 3) := by decide +kernel
theorem dX5_keepAct_46 : decode cX5_keepAct 46 = .ok (.bipush 41, 2) := by decide +kernel
theorem dX5_keepAct_48 : decode cX5_keepAct 48 = .ok (.imul, 1) := by decide +kernel
theorem dX5_keepAct_49 : decode cX5_keepAct 49 = .ok (.bipush 41, 2) := by decide +kernel
theorem dX5_keepAct_51 : decode cX5_keepAct 51 = .ok (.invokestatic 51, 3) := by decide +kernel
theorem dX5_keepAct_54 : decode cX5_keepAct 54 = .ok (.return_, 1) := by decide +kernel
set_option maxHeartbeats 400000 in
set_option maxRecDepth 100000 in
theorem c_keepAct (l : Launch) (D : va_G) (cy : Nat → ClassId) (n0 : Nat) (n1 : Nat) (n2 : Nat) (n3 : Nat) (z3 : Value) (z6 : Value) (fn : Nat → Int32) (fr : Nat → Int32)  : XMv l D (tyL cy) E0 yX5_keepAct cX5_keepAct 1 none (rmk 1 0 0) [.ref n0] [(n0, .inr (5, [.ref n1, .ref n2, .ref n3, z3, .int 0, .int 0, z6])), (n1, .inl (cy 1, 41, .inl (fn))), (n2, .inl (cy 1, 1681, .inl (fr)))] (fun (fr2 : Nat → Int32) => True) (fun (fr2 : Nat → Int32) => [(n0, .inr (5, [.ref n1, .ref n2, .ref n3, z3, .int 1, .int 1, .int 0])), (n1, .inl (cy 1, 41, .inl (fn))), (n2, .inl (cy 1, 1681, .inl (fr2)))]) := by
  refine XMv.start (by decide) (Nat.le_of_ble_eq_true rfl) ?_
  intro p e s m below meth c args A ls Q hat hQ
  obtain ⟨hx, hb, hr, hml, hown, hg, hlocks, hin, hK, hA, hP, hD, hS, hE, hl⟩ := hat
  have hown : s.vm.findClass RX5 = some m.cls := hown
  have hl : lv_has ls 1 [(0, .ref n0)] := hl
  refine lv_aload_n hx hb dX5_keepAct_0 rfl (lv_at hl 0 rfl) ?_
  refine lv_aload_n hx hb dX5_keepAct_1 rfl (lv_at hl 0 rfl) ?_
  refine va_get (D := D) (ci := 5) (v := .int 0) (C := RX5) (T := TX5) (N := 7) hx hb hg i_X5 hown hK hP 0 rfl rfl 4 (by decide) (hg _ m_428) (fun _ h9 => h9) rfl dX5_keepAct_2 ?_
  refine lv_iconst (v := 1) hx hb dX5_keepAct_5 (by decide) ?_
  refine lv_iadd hx hb dX5_keepAct_6 ?_
  refine lv_topi (fun y_1 hy_1 => ?_)
  obtain rfl : y_1 = 1 := hy_1.trans (by decide +kernel)
  refine lv_bipush (v := 41) hx hb dX5_keepAct_7 (by decide) ?_
  refine lv_irem hx hb dX5_keepAct_9 (by decide) ?_
  refine lv_topi (fun y_2 hy_2 => ?_)
  obtain rfl : y_2 = 1 := hy_2.trans (by decide +kernel)
  refine va_put (D := D) (ci := 5) (v := .int 1) (ty := .int) (C := RX5) (T := TX5) (N := 7) hx hb hg i_X5 tyX5 tyX5_ok nmX5 hown hK hP hD hS 0 rfl rfl 4 (by decide) (hg _ m_428) (fun _ h9 => h9) rfl (by decide +kernel) rfl rfl (Nat.le_of_ble_eq_true rfl) dX5_keepAct_10 (fun H locs hP hD hS => ?_)
  have hP : va_P D vwCl [(n0, .inr (5, [.ref n1, .ref n2, .ref n3, z3, .int 1, .int 0, z6])), (n1, .inl (cy 1, 41, .inl (fn))), (n2, .inl (cy 1, 1681, .inl (fr)))] H := hP
  have hD : va_D A [(n0, .inr (5, [.ref n1, .ref n2, .ref n3, z3, .int 1, .int 0, z6])), (n1, .inl (cy 1, 41, .inl (fn))), (n2, .inl (cy 1, 1681, .inl (fr)))] := hD
  refine lv_aload_n hx hb dX5_keepAct_13 rfl (lv_at hl 0 rfl) ?_
  refine lv_aload_n hx hb dX5_keepAct_14 rfl (lv_at hl 0 rfl) ?_
  refine va_get (D := D) (ci := 5) (v := .int 0) (C := RX5) (T := TX5) (N := 7) hx hb hg i_X5 hown hK hP 0 rfl rfl 5 (by decide) (hg _ m_429) (fun _ h9 => h9) rfl dX5_keepAct_15 ?_
  refine lv_iconst (v := 1) hx hb dX5_keepAct_18 (by decide) ?_
  refine lv_iadd hx hb dX5_keepAct_19 ?_
  refine lv_topi (fun y_3 hy_3 => ?_)
  obtain rfl : y_3 = 1 := hy_3.trans (by decide +kernel)
  refine lv_bipush (v := 40) hx hb dX5_keepAct_20 (by decide) ?_
  refine va_mmin hx hb (hml.trans hl.1.symm) hown (hg _ m_984) (hg _ m_770) (hg _ m_147) (hg _ m_771) (by decide) (Nat.le_of_ble_eq_true rfl) (by decide) (by decide) dX5_keepAct_22 ?_
  refine lv_topi (fun y_4 hy_4 => ?_)
  obtain rfl : y_4 = 1 := hy_4.trans (by decide +kernel)
  refine va_put (D := D) (ci := 5) (v := .int 1) (ty := .int) (C := RX5) (T := TX5) (N := 7) hx hb hg i_X5 tyX5 tyX5_ok nmX5 hown hK hP hD hS 0 rfl rfl 5 (by decide) (hg _ m_429) (fun _ h9 => h9) rfl (by decide +kernel) rfl rfl (Nat.le_of_ble_eq_true rfl) dX5_keepAct_25 (fun H locs hP hD hS => ?_)
  have hP : va_P D vwCl [(n0, .inr (5, [.ref n1, .ref n2, .ref n3, z3, .int 1, .int 1, z6])), (n1, .inl (cy 1, 41, .inl (fn))), (n2, .inl (cy 1, 1681, .inl (fr)))] H := hP
  have hD : va_D A [(n0, .inr (5, [.ref n1, .ref n2, .ref n3, z3, .int 1, .int 1, z6])), (n1, .inl (cy 1, 41, .inl (fn))), (n2, .inl (cy 1, 1681, .inl (fr)))] := hD
  refine lv_aload_n hx hb dX5_keepAct_28 rfl (lv_at hl 0 rfl) ?_
  refine lv_iconst (v := 0) hx hb dX5_keepAct_29 (by decide) ?_
  refine va_put (D := D) (ci := 5) (v := .int 0) (ty := .int) (C := RX5) (T := TX5) (N := 7) hx hb hg i_X5 tyX5 tyX5_ok nmX5 hown hK hP hD hS 0 rfl rfl 6 (by decide) (hg _ m_431) (fun _ h9 => h9) rfl (by decide +kernel) rfl rfl (Nat.le_of_ble_eq_true rfl) dX5_keepAct_30 (fun H locs hP hD hS => ?_)
  have hP : va_P D vwCl [(n0, .inr (5, [.ref n1, .ref n2, .ref n3, z3, .int 1, .int 1, .int 0])), (n1, .inl (cy 1, 41, .inl (fn))), (n2, .inl (cy 1, 1681, .inl (fr)))] H := hP
  have hD : va_D A [(n0, .inr (5, [.ref n1, .ref n2, .ref n3, z3, .int 1, .int 1, .int 0])), (n1, .inl (cy 1, 41, .inl (fn))), (n2, .inl (cy 1, 1681, .inl (fr)))] := hD
  refine lv_aload_n hx hb dX5_keepAct_33 rfl (lv_at hl 0 rfl) ?_
  refine va_get (D := D) (ci := 5) (v := .ref n1) (C := RX5) (T := TX5) (N := 7) hx hb hg i_X5 hown hK hP 0 rfl rfl 0 (by decide) (hg _ m_423) (fun _ h9 => h9) rfl dX5_keepAct_34 ?_
  refine lv_iconst (v := 0) hx hb dX5_keepAct_37 (by decide) ?_
  refine lv_aload_n hx hb dX5_keepAct_38 rfl (lv_at hl 0 rfl) ?_
  refine va_get (D := D) (ci := 5) (v := .ref n2) (C := RX5) (T := TX5) (N := 7) hx hb hg i_X5 hown hK hP 0 rfl rfl 1 (by decide) (hg _ m_425) (fun _ h9 => h9) rfl dX5_keepAct_39 ?_
  refine lv_aload_n hx hb dX5_keepAct_42 rfl (lv_at hl 0 rfl) ?_
  refine va_get (D := D) (ci := 5) (v := .int 1) (C := RX5) (T := TX5) (N := 7) hx hb hg i_X5 hown hK hP 0 rfl rfl 4 (by decide) (hg _ m_428) (fun _ h9 => h9) rfl dX5_keepAct_43 ?_
  refine lv_bipush (v := 41) hx hb dX5_keepAct_46 (by decide) ?_
  refine lv_imul hx hb dX5_keepAct_48 ?_
  refine lv_topi (fun y_5 hy_5 => ?_)
  obtain rfl : y_5 = 41 := hy_5.trans (by decide +kernel)
  refine lv_bipush (v := 41) hx hb dX5_keepAct_49 (by decide) ?_
  refine va_copyi hx hb (hml.trans hl.1.symm) hown (hg _ m_934) (hg _ m_936) (hg _ m_935) (hg _ m_149) hK hP hD hS 1 2 1 1 rfl rfl rfl rfl rfl (by decide) (by decide) (by decide) (by decide) (by decide) (fun _ _ => rfl) (by decide) (Nat.le_of_ble_eq_true rfl) dX5_keepAct_51 (fun H locs hP hD hS => ?_)
  obtain ⟨g_6, eg_6⟩ : ∃ y, va_cpy (fn) (fr) (0 : Int32).toNatClampNeg (41 : Int32).toNatClampNeg (41 : Int32).toNatClampNeg = y := ⟨_, rfl⟩
  rw [eg_6] at hP hD
  have hP : va_P D vwCl [(n0, .inr (5, [.ref n1, .ref n2, .ref n3, z3, .int 1, .int 1, .int 0])), (n1, .inl (cy 1, 41, .inl (fn))), (n2, .inl (cy 1, 1681, .inl (g_6)))] H := hP
  have hD : va_D A [(n0, .inr (5, [.ref n1, .ref n2, .ref n3, z3, .int 1, .int 1, .int 0])), (n1, .inl (cy 1, 41, .inl (fn))), (n2, .inl (cy 1, 1681, .inl (g_6)))] := hD
  exact x_vret hQ hx hb hr hlocks hK hP hD hS dX5_keepAct_54 g_6 (trivial) [0, 1, 2] (by decide) rfl (Nat.le_of_ble_eq_true rfl) (Nat.le_of_ble_eq_true rfl)
theorem dX5_passNoon_0 : decode cX5_passNoon 0 = .ok (.aload_n 0, 1) := by decide +kernel
theorem dX5_passNoon_1 : decode cX5_passNoon 1 = .ok (.getfield 11, 3) := by decide +kernel
theorem dX5_passNoon_4 : decode cX5_passNoon 4 = .ok (.bipush 23, 2) := by decide +kernel
theorem dX5_passNoon_6 : decode cX5_passNoon 6 = .ok (.iaload, 1) := by decide +kernel
theorem dX5_passNoon_7 : decode cX5_passNoon 7 = .ok (.sipush 137, 3) := by decide +kernel
theorem dX5_passNoon_10 : decode cX5_passNoon 10 = .ok (.imul, 1) := by decide +kernel
theorem dX5_passNoon_11 : decode cX5_passNoon 11 = .ok (.bipush 71, 2) := by decide +kernel
theorem dX5_passNoon_13 : decode cX5_passNoon 13 = .ok (.iadd, 1) := by decide +kernel
theorem dX5_passNoon_14 : decode cX5_passNoon 14 = .ok (.sipush 1000, 3) := by decide +kernel
theorem dX5_passNoon_17 : decode cX5_passNoon 17 = .ok (.irem, 1) := by decide +kernel
theorem dX5_passNoon_18 : decode cX5_passNoon 18 = .ok (.istore_n 2, 1) := by decide +kernel
theorem dX5_passNoon_19 : decode cX5_passNoon 19 = .ok (.aload_n 0, 1) := by decide +kernel
theorem dX5_passNoon_20 : decode cX5_passNoon 20 = .ok (.getfield 11, 3) := by decide +kernel
theorem dX5_passNoon_23 : decode cX5_passNoon 23 = .ok (.bipush 23, 2) := by decide +kernel
theorem dX5_passNoon_25 : decode cX5_passNoon 25 = .ok (.iload_n 2, 1) := by decide +kernel
theorem dX5_passNoon_26 : decode cX5_passNoon 26 = .ok (.iastore, 1) := by decide +kernel
theorem dX5_passNoon_27 : decode cX5_passNoon 27 = .ok (.aload_n 0, 1) := by decide +kernel
theorem dX5_passNoon_28 : decode cX5_passNoon 28 = .ok (.getfield 11, 3) := by decide +kernel
theorem dX5_passNoon_31 : decode cX5_passNoon 31 = .ok (.bipush 22, 2) := by decide +kernel
theorem dX5_passNoon_33 : decode cX5_passNoon 33 = .ok (.iload_n 2, 1) := by decide +kernel
theorem dX5_passNoon_34 : decode cX5_passNoon 34 = .ok (.bipush 10, 2) := by decide +kernel
theorem dX5_passNoon_36 : decode cX5_passNoon 36 = .ok (.irem, 1) := by decide +kernel
theorem dX5_passNoon_37 : decode cX5_passNoon 37 = .ok (.iastore, 1) := by decide +kernel
theorem dX5_passNoon_38 : decode cX5_passNoon 38 = .ok (.aload_n 0, 1) := by decide +kernel
theorem dX5_passNoon_39 : decode cX5_passNoon 39 = .ok (.getfield 11, 3) := by decide +kernel
theorem dX5_passNoon_42 : decode cX5_passNoon 42 = .ok (.bipush 24, 2) := by decide +kernel
theorem dX5_passNoon_44 : decode cX5_passNoon 44 = .ok (.dup2, 1) := by decide +kernel
theorem dX5_passNoon_45 : decode cX5_passNoon 45 = .ok (.iaload, 1) := by decide +kernel
theorem dX5_passNoon_46 : decode cX5_passNoon 46 = .ok (.iconst 1, 1) := by decide +kernel
theorem dX5_passNoon_47 : decode cX5_passNoon 47 = .ok (.iadd, 1) := by decide +kernel
theorem dX5_passNoon_48 : decode cX5_passNoon 48 = .ok (.iastore, 1) := by decide +kernel
theorem dX5_passNoon_49 : decode cX5_passNoon 49 = .ok (.iload_n 2, 1) := by decide +kernel
theorem dX5_passNoon_50 : decode cX5_passNoon 50 = .ok (.bipush 10, 2) := by decide +kernel
theorem dX5_passNoon_52 : decode cX5_passNoon 52 = .ok (.idiv, 1) := by decide +kernel
theorem dX5_passNoon_53 : decode cX5_passNoon 53 = .ok (.iconst 2, 1) := by decide +kernel
theorem dX5_passNoon_54 : decode cX5_passNoon 54 = .ok (.irem, 1) := by decide +kernel
theorem dX5_passNoon_55 : decode cX5_passNoon 55 = .ok (.ifCond .ne 41, 3) := by decide +kernel
theorem dX5_passNoon_96 : decode cX5_passNoon 96 = .ok (.aload_n 0, 1) := by decide +kernel
theorem dX5_passNoon_97 : decode cX5_passNoon 97 = .ok (.invokevirtual 67, 3) := by decide +kernel
theorem m_980 : (Cond.methodLink RX5 67 yX5_keepAct) ∈ gT := gm 980 (by decide +kernel) (by decide +kernel)
theorem m_982 : (Cond.instanceMethod yX5_keepAct) ∈ gT := gm 982 (by decide +kernel) (by decide +kernel)
theorem m_30 : (Cond.selects RX5 yX5_keepAct yX5_keepAct) ∈ gT := gm 30 (by decide +kernel) (by decide +kernel)
theorem m_983 : (Cond.code yX5_keepAct cX5_keepAct 1 none) ∈ gT := gm 983 (by decide +kernel) (by decide +kernel)
theorem k_X5_67 : xV RX5 RX5 67 yX5_keepAct cX5_keepAct 1 none 0 := ⟨⟨m_980, m_982, m_30, m_139, m_983⟩, rfl, by decide, by decide, by decide +kernel⟩
theorem dX5_passNoon_100 : decode cX5_passNoon 100 = .ok (.return_, 1) := by decide +kernel
set_option maxHeartbeats 400000 in
set_option maxRecDepth 100000 in
theorem c_passNoon (l : Launch) (D : va_G) (cy : Nat → ClassId) (n0 : Nat) (n1 : Nat) (n2 : Nat) (n3 : Nat) (z3 : Value) (z6 : Value) (fr : Nat → Int32)  : XMv l D (tyL cy) E0 yX5_passNoon cX5_passNoon 4 none (rmk 2 0 0) [.ref n0, .int 0] [(n0, .inr (5, [.ref n1, .ref n2, .ref n3, z3, .int 0, .int 0, z6])), (n1, .inl (cy 1, 41, .inl (fun _ => 0))), (n2, .inl (cy 1, 1681, .inl (fr)))] (fun (fr2 : Nat → Int32) => True) (fun (fr2 : Nat → Int32) => [(n0, .inr (5, [.ref n1, .ref n2, .ref n3, z3, .int 1, .int 1, .int 0])), (n1, .inl (cy 1, 41, .inl (upd (upd (upd (fun _ => 0) (23 : Int32).toNatClampNeg 71) (22 : Int32).toNatClampNeg 1) (24 : Int32).toNatClampNeg 1))), (n2, .inl (cy 1, 1681, .inl (fr2)))]) := by
  refine XMv.start (by decide) (Nat.le_of_ble_eq_true rfl) ?_
  intro p e s m below meth c args A ls Q hat hQ
  obtain ⟨hx, hb, hr, hml, hown, hg, hlocks, hin, hK, hA, hP, hD, hS, hE, hl⟩ := hat
  have hown : s.vm.findClass RX5 = some m.cls := hown
  have hl : lv_has ls 4 [(0, .ref n0), (1, .int 0)] := hl
  refine lv_aload_n hx hb dX5_passNoon_0 rfl (lv_at hl 0 rfl) ?_
  refine va_get (D := D) (ci := 5) (v := .ref n1) (C := RX5) (T := TX5) (N := 7) hx hb hg i_X5 hown hK hP 0 rfl rfl 0 (by decide) (hg _ m_423) (fun _ h9 => h9) rfl dX5_passNoon_1 ?_
  refine lv_bipush (v := 23) hx hb dX5_passNoon_4 (by decide) ?_
  refine va_iald hx hb hK hP 1 1 rfl rfl (by unfold vp_in; decide) dX5_passNoon_6 ?_
  refine lv_topi (fun y_1 hy_1 => ?_)
  obtain rfl : y_1 = 0 := hy_1.trans (by decide +kernel)
  refine lv_sipush (v := 137) hx hb dX5_passNoon_7 (by decide) ?_
  refine lv_imul hx hb dX5_passNoon_10 ?_
  refine lv_topi (fun y_2 hy_2 => ?_)
  obtain rfl : y_2 = 0 := hy_2.trans (by decide +kernel)
  refine lv_bipush (v := 71) hx hb dX5_passNoon_11 (by decide) ?_
  refine lv_iadd hx hb dX5_passNoon_13 ?_
  refine lv_topi (fun y_3 hy_3 => ?_)
  obtain rfl : y_3 = 71 := hy_3.trans (by decide +kernel)
  refine lv_sipush (v := 1000) hx hb dX5_passNoon_14 (by decide) ?_
  refine lv_irem hx hb dX5_passNoon_17 (by decide) ?_
  refine lv_topi (fun y_4 hy_4 => ?_)
  obtain rfl : y_4 = 71 := hy_4.trans (by decide +kernel)
  refine lv_istore_n (lv' := [(2, .int 71), (0, .ref n0), (1, .int 0)]) hx hb dX5_passNoon_18 rfl hl (by decide) rfl (fun ls hl => ?_)
  refine lv_aload_n hx hb dX5_passNoon_19 rfl (lv_at hl 1 rfl) ?_
  refine va_get (D := D) (ci := 5) (v := .ref n1) (C := RX5) (T := TX5) (N := 7) hx hb hg i_X5 hown hK hP 0 rfl rfl 0 (by decide) (hg _ m_423) (fun _ h9 => h9) rfl dX5_passNoon_20 ?_
  refine lv_bipush (v := 23) hx hb dX5_passNoon_23 (by decide) ?_
  refine lv_iload_n hx hb dX5_passNoon_25 rfl (lv_at hl 0 rfl) ?_
  refine va_iast hx hb hK hP hD hS 1 1 rfl rfl (by unfold vp_in; decide) dX5_passNoon_26 (fun H locs hP hD hS => ?_)
  have hP : va_P D vwCl [(n0, .inr (5, [.ref n1, .ref n2, .ref n3, z3, .int 0, .int 0, z6])), (n1, .inl (cy 1, 41, .inl (upd (fun _ => 0) (23 : Int32).toNatClampNeg 71))), (n2, .inl (cy 1, 1681, .inl (fr)))] H := hP
  have hD : va_D A [(n0, .inr (5, [.ref n1, .ref n2, .ref n3, z3, .int 0, .int 0, z6])), (n1, .inl (cy 1, 41, .inl (upd (fun _ => 0) (23 : Int32).toNatClampNeg 71))), (n2, .inl (cy 1, 1681, .inl (fr)))] := hD
  refine lv_aload_n hx hb dX5_passNoon_27 rfl (lv_at hl 1 rfl) ?_
  refine va_get (D := D) (ci := 5) (v := .ref n1) (C := RX5) (T := TX5) (N := 7) hx hb hg i_X5 hown hK hP 0 rfl rfl 0 (by decide) (hg _ m_423) (fun _ h9 => h9) rfl dX5_passNoon_28 ?_
  refine lv_bipush (v := 22) hx hb dX5_passNoon_31 (by decide) ?_
  refine lv_iload_n hx hb dX5_passNoon_33 rfl (lv_at hl 0 rfl) ?_
  refine lv_bipush (v := 10) hx hb dX5_passNoon_34 (by decide) ?_
  refine lv_irem hx hb dX5_passNoon_36 (by decide) ?_
  refine lv_topi (fun y_5 hy_5 => ?_)
  obtain rfl : y_5 = 1 := hy_5.trans (by decide +kernel)
  refine va_iast hx hb hK hP hD hS 1 1 rfl rfl (by unfold vp_in; decide) dX5_passNoon_37 (fun H locs hP hD hS => ?_)
  have hP : va_P D vwCl [(n0, .inr (5, [.ref n1, .ref n2, .ref n3, z3, .int 0, .int 0, z6])), (n1, .inl (cy 1, 41, .inl (upd (upd (fun _ => 0) (23 : Int32).toNatClampNeg 71) (22 : Int32).toNatClampNeg 1))), (n2, .inl (cy 1, 1681, .inl (fr)))] H := hP
  have hD : va_D A [(n0, .inr (5, [.ref n1, .ref n2, .ref n3, z3, .int 0, .int 0, z6])), (n1, .inl (cy 1, 41, .inl (upd (upd (fun _ => 0) (23 : Int32).toNatClampNeg 71) (22 : Int32).toNatClampNeg 1))), (n2, .inl (cy 1, 1681, .inl (fr)))] := hD
  refine lv_aload_n hx hb dX5_passNoon_38 rfl (lv_at hl 1 rfl) ?_
  refine va_get (D := D) (ci := 5) (v := .ref n1) (C := RX5) (T := TX5) (N := 7) hx hb hg i_X5 hown hK hP 0 rfl rfl 0 (by decide) (hg _ m_423) (fun _ h9 => h9) rfl dX5_passNoon_39 ?_
  refine lv_bipush (v := 24) hx hb dX5_passNoon_42 (by decide) ?_
  refine lv_dup2_11 hx hb dX5_passNoon_44 rfl rfl ?_
  refine va_iald hx hb hK hP 1 1 rfl rfl (by unfold vp_in; decide) dX5_passNoon_45 ?_
  refine lv_topi (fun y_6 hy_6 => ?_)
  obtain rfl : y_6 = 0 := hy_6.trans (by decide +kernel)
  refine lv_iconst (v := 1) hx hb dX5_passNoon_46 (by decide) ?_
  refine lv_iadd hx hb dX5_passNoon_47 ?_
  refine lv_topi (fun y_7 hy_7 => ?_)
  obtain rfl : y_7 = 1 := hy_7.trans (by decide +kernel)
  refine va_iast hx hb hK hP hD hS 1 1 rfl rfl (by unfold vp_in; decide) dX5_passNoon_48 (fun H locs hP hD hS => ?_)
  have hP : va_P D vwCl [(n0, .inr (5, [.ref n1, .ref n2, .ref n3, z3, .int 0, .int 0, z6])), (n1, .inl (cy 1, 41, .inl (upd (upd (upd (fun _ => 0) (23 : Int32).toNatClampNeg 71) (22 : Int32).toNatClampNeg 1) (24 : Int32).toNatClampNeg 1))), (n2, .inl (cy 1, 1681, .inl (fr)))] H := hP
  have hD : va_D A [(n0, .inr (5, [.ref n1, .ref n2, .ref n3, z3, .int 0, .int 0, z6])), (n1, .inl (cy 1, 41, .inl (upd (upd (upd (fun _ => 0) (23 : Int32).toNatClampNeg 71) (22 : Int32).toNatClampNeg 1) (24 : Int32).toNatClampNeg 1))), (n2, .inl (cy 1, 1681, .inl (fr)))] := hD
  refine lv_iload_n hx hb dX5_passNoon_49 rfl (lv_at hl 0 rfl) ?_
  refine lv_bipush (v := 10) hx hb dX5_passNoon_50 (by decide) ?_
  refine lv_idiv hx hb dX5_passNoon_52 (by decide) ?_
  refine lv_topi (fun y_8 hy_8 => ?_)
  obtain rfl : y_8 = 7 := hy_8.trans (by decide +kernel)
  refine lv_iconst (v := 2) hx hb dX5_passNoon_53 (by decide) ?_
  refine lv_irem hx hb dX5_passNoon_54 (by decide) ?_
  refine lv_topi (fun y_9 hy_9 => ?_)
  obtain rfl : y_9 = 1 := hy_9.trans (by decide +kernel)
  refine lv_if_ne (tgt := 96) hx hb dX5_passNoon_55 (by decide) (fun _ => ?_) (fun h => absurd h (by decide))
  refine lv_aload_n hx hb dX5_passNoon_96 rfl (lv_at hl 1 rfl) ?_
  refine x_callVv (q := (RX5, TX5, 7)) (ci := 5) (q0 := 0) (wr := []) (rest := []) ⟨hx, hb, hml, hown, hg, hl.1⟩ k_X5_67 (c_keepAct l D cy n0 n1 n2 n3 z3 z6 (upd (upd (upd (fun _ => 0) (23 : Int32).toNatClampNeg 71) (22 : Int32).toNatClampNeg 1) (24 : Int32).toNatClampNeg 1) fr) E0_blind hK hP hD hS hA [0, 1, 2] [] ⟨rfl, rfl, by decide, by decide, by decide⟩ rfl rfl (fun _ _ _ => trivial) dX5_passNoon_97 rfl rfl (Nat.le_of_ble_eq_true rfl) ⟨Nat.le_of_ble_eq_true rfl, Nat.le_of_ble_eq_true rfl⟩ ⟨Nat.le_of_ble_eq_true rfl, Nat.le_of_ble_eq_true rfl⟩ (fun u10 H locs hw10 hP hD hS => ?_)
  obtain ⟨fr2_11, rfl⟩ : ∃ z, z = u10 := ⟨_, rfl⟩
  have hP : va_P D vwCl [(n0, .inr (5, [.ref n1, .ref n2, .ref n3, z3, .int 1, .int 1, .int 0])), (n1, .inl (cy 1, 41, .inl (upd (upd (upd (fun _ => 0) (23 : Int32).toNatClampNeg 71) (22 : Int32).toNatClampNeg 1) (24 : Int32).toNatClampNeg 1))), (n2, .inl (cy 1, 1681, .inl (fr2_11)))] H := hP
  have hD : va_D A [(n0, .inr (5, [.ref n1, .ref n2, .ref n3, z3, .int 1, .int 1, .int 0])), (n1, .inl (cy 1, 41, .inl (upd (upd (upd (fun _ => 0) (23 : Int32).toNatClampNeg 71) (22 : Int32).toNatClampNeg 1) (24 : Int32).toNatClampNeg 1))), (n2, .inl (cy 1, 1681, .inl (fr2_11)))] := hD
  refine W.widen (k := 0) (n := 0) (Nat.le_of_ble_eq_true rfl) (Nat.le_of_ble_eq_true rfl) ?_
  exact x_vret hQ hx hb hr hlocks hK hP hD hS dX5_passNoon_100 fr2_11 (trivial) [0, 1, 2] (by decide) rfl (Nat.le_of_ble_eq_true rfl) (Nat.le_of_ble_eq_true rfl)
theorem dX11_noon_0 : decode cX11_noon 0 = .ok (.aload_n 0, 1) := by decide +kernel
theorem dX11_noon_1 : decode cX11_noon 1 = .ok (.getfield 38, 3) := by decide +kernel
theorem dX11_noon_4 : decode cX11_noon 4 = .ok (.getfield 127, 3) := by decide +kernel
theorem dX11_noon_7 : decode cX11_noon 7 = .ok (.bipush 24, 2) := by decide +kernel
theorem dX11_noon_9 : decode cX11_noon 9 = .ok (.iaload, 1) := by decide +kernel
theorem dX11_noon_10 : decode cX11_noon 10 = .ok (.sipush 999, 3) := by decide +kernel
theorem dX11_noon_13 : decode cX11_noon 13 = .ok (.if_icmp .lt 5, 3) := by decide +kernel
theorem dX11_noon_18 : decode cX11_noon 18 = .ok (.aload_n 0, 1) := by decide +kernel
theorem dX11_noon_19 : decode cX11_noon 19 = .ok (.getfield 38, 3) := by decide +kernel
theorem dX11_noon_22 : decode cX11_noon 22 = .ok (.aload_n 0, 1) := by decide +kernel
theorem dX11_noon_23 : decode cX11_noon 23 = .ok (.getfield 28, 3) := by decide +kernel
theorem dX11_noon_26 : decode cX11_noon 26 = .ok (.getfield 111, 3) := by decide +kernel
theorem dX11_noon_29 : decode cX11_noon 29 = .ok (.iconst 1, 1) := by decide +kernel
theorem dX11_noon_30 : decode cX11_noon 30 = .ok (.iaload, 1) := by decide +kernel
theorem dX11_noon_31 : decode cX11_noon 31 = .ok (.invokevirtual 171, 3) := by decide +kernel
theorem m_1088 : (Cond.methodLink RX11 171 yX5_passNoon) ∈ gT := gm 1088 (by decide +kernel) (by decide +kernel)
theorem m_1089 : (Cond.instanceMethod yX5_passNoon) ∈ gT := gm 1089 (by decide +kernel) (by decide +kernel)
theorem m_1090 : (Cond.selects RX5 yX5_passNoon yX5_passNoon) ∈ gT := gm 1090 (by decide +kernel) (by decide +kernel)
theorem m_1091 : (Cond.code yX5_passNoon cX5_passNoon 4 none) ∈ gT := gm 1091 (by decide +kernel) (by decide +kernel)
theorem k_X11_171 : xV RX11 RX5 171 yX5_passNoon cX5_passNoon 4 none 1 := ⟨⟨m_1088, m_1089, m_1090, m_139, m_1091⟩, rfl, by decide, by decide, by decide +kernel⟩
theorem dX11_noon_34 : decode cX11_noon 34 = .ok (.aload_n 0, 1) := by decide +kernel
theorem dX11_noon_35 : decode cX11_noon 35 = .ok (.getfield 38, 3) := by decide +kernel
theorem dX11_noon_38 : decode cX11_noon 38 = .ok (.getfield 127, 3) := by decide +kernel
theorem dX11_noon_41 : decode cX11_noon 41 = .ok (.bipush 22, 2) := by decide +kernel
theorem dX11_noon_43 : decode cX11_noon 43 = .ok (.iaload, 1) := by decide +kernel
theorem dX11_noon_44 : decode cX11_noon 44 = .ok (.ireturn, 1) := by decide +kernel
set_option maxHeartbeats 400000 in
set_option maxRecDepth 100000 in
theorem t_noon (l : Launch) (D : va_G) (cy : Nat → ClassId) (a0 : Nat) (w0 : Value) (w1 : Value) (w3 : Value) (w5 : Value) (w6 : Value) (w7 : Value) (w8 : Value) (w9 : Value) (w10 : Value) (w11 : Value) (w12 : Value) (w13 : Value) (h0 : Nat) (h1 : Nat) (v1 : Value) (v2 : Value) (v3 : Value) (v4 : Value) (v5 : Value) (v6 : Value) (v7 : Value) (v8 : Value) (v9 : Value) (v10 : Value) (v11 : Value) (v12 : Value) (v13 : Value) (v14 : Value) (v15 : Value) (n0 : Nat) (n1 : Nat) (n2 : Nat) (n3 : Nat) (z3 : Value) (z6 : Value) (fr : Nat → Int32)  : XMi l D (tyL cy) E0 yX11_noon cX11_noon 1 (some .int) (rmk 3 0 0) [.ref a0] [(a0, .inr (11, [w0, w1, .ref h0, w3, .ref n0, w5, w6, w7, w8, w9, w10, w11, w12, w13])), (h0, .inr (4, [.ref h1, v1, v2, v3, v4, v5, v6, v7, v8, v9, v10, v11, v12, v13, v14, v15])), (h1, .inl (cy 1, 4, .inl (fun _ => 0))), (n0, .inr (5, [.ref n1, .ref n2, .ref n3, z3, .int 0, .int 0, z6])), (n1, .inl (cy 1, 41, .inl (fun _ => 0))), (n2, .inl (cy 1, 1681, .inl (fr)))] (fun (r : Int32) (_ : Unit) => r = 1) (fun (_ : Unit) => []) := by
  refine XMi.start (by decide) (Nat.le_of_ble_eq_true rfl) ?_
  intro p e s m below meth c args A ls Q hat hQ
  obtain ⟨hx, hb, hr, hml, hown, hg, hlocks, hin, hK, hA, hP, hD, hS, hE, hl⟩ := hat
  have hown : s.vm.findClass RX11 = some m.cls := hown
  have hl : lv_has ls 1 [(0, .ref a0)] := hl
  refine lv_aload_n hx hb dX11_noon_0 rfl (lv_at hl 0 rfl) ?_
  refine va_get (D := D) (ci := 11) (v := .ref n0) (C := RX11) (T := TX11) (N := 14) hx hb hg i_X11 hown hK hP 0 rfl rfl 4 (by decide) (hg _ m_662) (fun _ h9 => h9) rfl dX11_noon_1 ?_
  refine va_get (D := D) (ci := 5) (v := .ref n1) (C := RX5) (T := TX5) (N := 7) hx hb hg i_X5 hown hK hP 3 rfl rfl 0 (by decide) (hg _ m_424) (fun _ h9 => h9) rfl dX11_noon_4 ?_
  refine lv_bipush (v := 24) hx hb dX11_noon_7 (by decide) ?_
  refine va_iald hx hb hK hP 4 1 rfl rfl (by unfold vp_in; decide) dX11_noon_9 ?_
  refine lv_topi (fun y_1 hy_1 => ?_)
  obtain rfl : y_1 = 0 := hy_1.trans (by decide +kernel)
  refine lv_sipush (v := 999) hx hb dX11_noon_10 (by decide) ?_
  refine lv_icmp_lt (tgt := 18) hx hb dX11_noon_13 (by decide) (fun _ => ?_) (fun h => absurd (by decide) h)
  refine lv_aload_n hx hb dX11_noon_18 rfl (lv_at hl 0 rfl) ?_
  refine va_get (D := D) (ci := 11) (v := .ref n0) (C := RX11) (T := TX11) (N := 14) hx hb hg i_X11 hown hK hP 0 rfl rfl 4 (by decide) (hg _ m_662) (fun _ h9 => h9) rfl dX11_noon_19 ?_
  refine lv_aload_n hx hb dX11_noon_22 rfl (lv_at hl 0 rfl) ?_
  refine va_get (D := D) (ci := 11) (v := .ref h0) (C := RX11) (T := TX11) (N := 14) hx hb hg i_X11 hown hK hP 0 rfl rfl 2 (by decide) (hg _ m_660) (fun _ h9 => h9) rfl dX11_noon_23 ?_
  refine va_get (D := D) (ci := 4) (v := .ref h1) (C := RX4) (T := TX4) (N := 16) hx hb hg i_X4 hown hK hP 1 rfl rfl 0 (by decide) (hg _ m_335) (fun _ h9 => h9) rfl dX11_noon_26 ?_
  refine lv_iconst (v := 1) hx hb dX11_noon_29 (by decide) ?_
  refine va_iald hx hb hK hP 2 1 rfl rfl (by unfold vp_in; decide) dX11_noon_30 ?_
  refine lv_topi (fun y_2 hy_2 => ?_)
  obtain rfl : y_2 = 0 := hy_2.trans (by decide +kernel)
  refine x_callVv (q := (RX5, TX5, 7)) (ci := 5) (q0 := 0) (wr := [(a0, .inr (11, [w0, w1, .ref h0, w3, .ref n0, w5, w6, w7, w8, w9, w10, w11, w12, w13])), (h0, .inr (4, [.ref h1, v1, v2, v3, v4, v5, v6, v7, v8, v9, v10, v11, v12, v13, v14, v15])), (h1, .inl (cy 1, 4, .inl (fun _ => 0)))]) (rest := []) ⟨hx, hb, hml, hown, hg, hl.1⟩ k_X11_171 (c_passNoon l D cy n0 n1 n2 n3 z3 z6 fr) E0_blind hK hP hD hS hA [3, 4, 5] [0, 1, 2] ⟨rfl, rfl, by decide, by decide, by decide⟩ rfl rfl (fun _ _ _ => trivial) dX11_noon_31 rfl rfl (Nat.le_of_ble_eq_true rfl) ⟨Nat.le_of_ble_eq_true rfl, Nat.le_of_ble_eq_true rfl⟩ ⟨Nat.le_of_ble_eq_true rfl, Nat.le_of_ble_eq_true rfl⟩ (fun u3 H locs hw3 hP hD hS => ?_)
  obtain ⟨fr2_4, rfl⟩ : ∃ z, z = u3 := ⟨_, rfl⟩
  have hP : va_P D vwCl [(a0, .inr (11, [w0, w1, .ref h0, w3, .ref n0, w5, w6, w7, w8, w9, w10, w11, w12, w13])), (h0, .inr (4, [.ref h1, v1, v2, v3, v4, v5, v6, v7, v8, v9, v10, v11, v12, v13, v14, v15])), (h1, .inl (cy 1, 4, .inl (fun _ => 0))), (n0, .inr (5, [.ref n1, .ref n2, .ref n3, z3, .int 1, .int 1, .int 0])), (n1, .inl (cy 1, 41, .inl (upd (upd (upd (fun _ => 0) (23 : Int32).toNatClampNeg 71) (22 : Int32).toNatClampNeg 1) (24 : Int32).toNatClampNeg 1))), (n2, .inl (cy 1, 1681, .inl (fr2_4)))] H := hP
  have hD : va_D A [(a0, .inr (11, [w0, w1, .ref h0, w3, .ref n0, w5, w6, w7, w8, w9, w10, w11, w12, w13])), (h0, .inr (4, [.ref h1, v1, v2, v3, v4, v5, v6, v7, v8, v9, v10, v11, v12, v13, v14, v15])), (h1, .inl (cy 1, 4, .inl (fun _ => 0))), (n0, .inr (5, [.ref n1, .ref n2, .ref n3, z3, .int 1, .int 1, .int 0])), (n1, .inl (cy 1, 41, .inl (upd (upd (upd (fun _ => 0) (23 : Int32).toNatClampNeg 71) (22 : Int32).toNatClampNeg 1) (24 : Int32).toNatClampNeg 1))), (n2, .inl (cy 1, 1681, .inl (fr2_4)))] := hD
  refine W.widen (k := 0) (n := 0) (Nat.le_of_ble_eq_true rfl) (Nat.le_of_ble_eq_true rfl) ?_
  refine lv_aload_n hx hb dX11_noon_34 rfl (lv_at hl 0 rfl) ?_
  refine va_get (D := D) (ci := 11) (v := .ref n0) (C := RX11) (T := TX11) (N := 14) hx hb hg i_X11 hown hK hP 0 rfl rfl 4 (by decide) (hg _ m_662) (fun _ h9 => h9) rfl dX11_noon_35 ?_
  refine va_get (D := D) (ci := 5) (v := .ref n1) (C := RX5) (T := TX5) (N := 7) hx hb hg i_X5 hown hK hP 3 rfl rfl 0 (by decide) (hg _ m_424) (fun _ h9 => h9) rfl dX11_noon_38 ?_
  refine lv_bipush (v := 22) hx hb dX11_noon_41 (by decide) ?_
  refine va_iald hx hb hK hP 4 1 rfl rfl (by unfold vp_in; decide) dX11_noon_43 ?_
  refine lv_topi (fun y_5 hy_5 => ?_)
  obtain rfl : y_5 = 1 := hy_5.trans (by decide +kernel)
  exact x_iret hQ hx hb hr hlocks hK hP hD hS dX11_noon_44 () (rfl) [] (by decide) rfl (Nat.le_of_ble_eq_true rfl) (Nat.le_of_ble_eq_true rfl)
theorem dX3_clear_0 : decode cX3_clear 0 = .ok (.aload_n 0, 1) := by decide +kernel
theorem dX3_clear_1 : decode cX3_clear 1 = .ok (.iconst 0, 1) := by decide +kernel
theorem dX3_clear_2 : decode cX3_clear 2 = .ok (.putfield 16, 3) := by decide +kernel
set_option maxRecDepth 20000 in
theorem i_X3 : ∀ w ∈ u_ws RX3 TX3 4, w ∈ gT := gin [307, 309, 311, 313] (by decide +kernel) (by decide +kernel)
theorem m_302 : (Cond.fieldLink RX3 16 "CliffJudges$Formula" "length" "I") ∈ gT := gm 302 (by decide +kernel) (by decide +kernel)
theorem dX3_clear_5 : decode cX3_clear 5 = .ok (.aload_n 0, 1) := by decide +kernel
theorem dX3_clear_6 : decode cX3_clear 6 = .ok (.iconst 0, 1) := by decide +kernel
theorem dX3_clear_7 : decode cX3_clear 7 = .ok (.putfield 20, 3) := by decide +kernel
theorem m_303 : (Cond.fieldLink RX3 20 "CliffJudges$Formula" "told" "Z") ∈ gT := gm 303 (by decide +kernel) (by decide +kernel)
theorem dX3_clear_10 : decode cX3_clear 10 = .ok (.return_, 1) := by decide +kernel
set_option maxHeartbeats 400000 in
set_option maxRecDepth 100000 in
theorem c_fclear (l : Launch) (D : va_G) (cy : Nat → ClassId) (f0 : Nat) (y0 : Value) (y1 : Value) (y2 : Value) (y3 : Value)  : XMv l D (tyL cy) E0 yX3_clear cX3_clear 1 none (rmk 0 0 0) [.ref f0] [(f0, .inr (3, [y0, y1, y2, y3]))] (fun (_ : Unit) => True) (fun (_ : Unit) => [(f0, .inr (3, [y0, y1, .int 0, .int 0]))]) := by
  refine XMv.start (by decide) (Nat.le_of_ble_eq_true rfl) ?_
  intro p e s m below meth c args A ls Q hat hQ
  obtain ⟨hx, hb, hr, hml, hown, hg, hlocks, hin, hK, hA, hP, hD, hS, hE, hl⟩ := hat
  have hown : s.vm.findClass RX3 = some m.cls := hown
  have hl : lv_has ls 1 [(0, .ref f0)] := hl
  refine lv_aload_n hx hb dX3_clear_0 rfl (lv_at hl 0 rfl) ?_
  refine lv_iconst (v := 0) hx hb dX3_clear_1 (by decide) ?_
  refine va_put (D := D) (ci := 3) (v := .int 0) (ty := .int) (C := RX3) (T := TX3) (N := 4) hx hb hg i_X3 tyX3 tyX3_ok nmX3 hown hK hP hD hS 0 rfl rfl 2 (by decide) (hg _ m_302) (fun _ h9 => h9) rfl (by decide +kernel) rfl rfl (Nat.le_of_ble_eq_true rfl) dX3_clear_2 (fun H locs hP hD hS => ?_)
  have hP : va_P D vwCl [(f0, .inr (3, [y0, y1, .int 0, y3]))] H := hP
  have hD : va_D A [(f0, .inr (3, [y0, y1, .int 0, y3]))] := hD
  refine lv_aload_n hx hb dX3_clear_5 rfl (lv_at hl 0 rfl) ?_
  refine lv_iconst (v := 0) hx hb dX3_clear_6 (by decide) ?_
  refine va_put (D := D) (ci := 3) (v := .int 0) (ty := .boolean) (C := RX3) (T := TX3) (N := 4) hx hb hg i_X3 tyX3 tyX3_ok nmX3 hown hK hP hD hS 0 rfl rfl 3 (by decide) (hg _ m_303) (fun _ h9 => h9) rfl (by decide +kernel) rfl rfl (Nat.le_of_ble_eq_true rfl) dX3_clear_7 (fun H locs hP hD hS => ?_)
  have hP : va_P D vwCl [(f0, .inr (3, [y0, y1, .int 0, .int 0]))] H := hP
  have hD : va_D A [(f0, .inr (3, [y0, y1, .int 0, .int 0]))] := hD
  exact x_vret hQ hx hb hr hlocks hK hP hD hS dX3_clear_10 () (trivial) [0] (by decide) rfl (Nat.le_of_ble_eq_true rfl) (Nat.le_of_ble_eq_true rfl)
theorem dX4_clear_0 : decode cX4_clear 0 = .ok (.iconst 0, 1) := by decide +kernel
theorem dX4_clear_1 : decode cX4_clear 1 = .ok (.istore_n 1, 1) := by decide +kernel
theorem dX4_clear_2 : decode cX4_clear 2 = .ok (.iload_n 1, 1) := by decide +kernel
theorem dX4_clear_3 : decode cX4_clear 3 = .ok (.aload_n 0, 1) := by decide +kernel
theorem dX4_clear_4 : decode cX4_clear 4 = .ok (.getfield 9, 3) := by decide +kernel
theorem dX4_clear_7 : decode cX4_clear 7 = .ok (.arraylength, 1) := by decide +kernel
theorem dX4_clear_8 : decode cX4_clear 8 = .ok (.if_icmp .ge 16, 3) := by decide +kernel
theorem dX4_clear_24 : decode cX4_clear 24 = .ok (.iconst 0, 1) := by decide +kernel
theorem dX4_clear_25 : decode cX4_clear 25 = .ok (.istore_n 1, 1) := by decide +kernel
theorem dX4_clear_26 : decode cX4_clear 26 = .ok (.iload_n 1, 1) := by decide +kernel
theorem dX4_clear_27 : decode cX4_clear 27 = .ok (.aload_n 0, 1) := by decide +kernel
theorem dX4_clear_28 : decode cX4_clear 28 = .ok (.getfield 30, 3) := by decide +kernel
theorem m_354 : (Cond.fieldLink RX4 30 "CliffJudges$Hills" "next" "[I") ∈ gT := gm 354 (by decide +kernel) (by decide +kernel)
theorem dX4_clear_31 : decode cX4_clear 31 = .ok (.arraylength, 1) := by decide +kernel
theorem dX4_clear_32 : decode cX4_clear 32 = .ok (.if_icmp .ge 16, 3) := by decide +kernel
theorem dX4_clear_48 : decode cX4_clear 48 = .ok (.aload_n 0, 1) := by decide +kernel
theorem dX4_clear_49 : decode cX4_clear 49 = .ok (.getfield 39, 3) := by decide +kernel
theorem m_360 : (Cond.fieldLink RX4 39 "CliffJudges$Hills" "back" "LCliffJudges$Formula;") ∈ gT := gm 360 (by decide +kernel) (by decide +kernel)
theorem dX4_clear_52 : decode cX4_clear 52 = .ok (.invokevirtual 55, 3) := by decide +kernel
theorem m_321 : (Cond.methodLink RX4 55 yX3_clear) ∈ gT := gm 321 (by decide +kernel) (by decide +kernel)
theorem m_322 : (Cond.instanceMethod yX3_clear) ∈ gT := gm 322 (by decide +kernel) (by decide +kernel)
theorem m_323 : (Cond.selects RX3 yX3_clear yX3_clear) ∈ gT := gm 323 (by decide +kernel) (by decide +kernel)
theorem m_138 : (Cond.initialized RX3) ∈ gT := gm 138 (by decide +kernel) (by decide +kernel)
theorem m_324 : (Cond.code yX3_clear cX3_clear 1 none) ∈ gT := gm 324 (by decide +kernel) (by decide +kernel)
theorem k_X4_55 : xV RX4 RX3 55 yX3_clear cX3_clear 1 none 0 := ⟨⟨m_321, m_322, m_323, m_138, m_324⟩, rfl, by decide, by decide, by decide +kernel⟩
theorem dX4_clear_55 : decode cX4_clear 55 = .ok (.aload_n 0, 1) := by decide +kernel
theorem dX4_clear_56 : decode cX4_clear 56 = .ok (.getfield 43, 3) := by decide +kernel
theorem m_362 : (Cond.fieldLink RX4 43 "CliffJudges$Hills" "lost" "LCliffJudges$Formula;") ∈ gT := gm 362 (by decide +kernel) (by decide +kernel)
theorem dX4_clear_59 : decode cX4_clear 59 = .ok (.invokevirtual 55, 3) := by decide +kernel
theorem dX4_clear_62 : decode cX4_clear 62 = .ok (.aload_n 0, 1) := by decide +kernel
theorem dX4_clear_63 : decode cX4_clear 63 = .ok (.getfield 46, 3) := by decide +kernel
theorem m_365 : (Cond.fieldLink RX4 46 "CliffJudges$Hills" "turn" "LCliffJudges$Formula;") ∈ gT := gm 365 (by decide +kernel) (by decide +kernel)
theorem dX4_clear_66 : decode cX4_clear 66 = .ok (.invokevirtual 55, 3) := by decide +kernel
theorem dX4_clear_69 : decode cX4_clear 69 = .ok (.aload_n 0, 1) := by decide +kernel
theorem dX4_clear_70 : decode cX4_clear 70 = .ok (.iconst 0, 1) := by decide +kernel
theorem dX4_clear_71 : decode cX4_clear 71 = .ok (.putfield 56, 3) := by decide +kernel
theorem m_368 : (Cond.fieldLink RX4 56 "CliffJudges$Hills" "yesStates" "I") ∈ gT := gm 368 (by decide +kernel) (by decide +kernel)
theorem dX4_clear_74 : decode cX4_clear 74 = .ok (.aload_n 0, 1) := by decide +kernel
theorem dX4_clear_75 : decode cX4_clear 75 = .ok (.iconst 0, 1) := by decide +kernel
theorem dX4_clear_76 : decode cX4_clear 76 = .ok (.putfield 60, 3) := by decide +kernel
theorem m_371 : (Cond.fieldLink RX4 60 "CliffJudges$Hills" "ons" "I") ∈ gT := gm 371 (by decide +kernel) (by decide +kernel)
theorem dX4_clear_79 : decode cX4_clear 79 = .ok (.aload_n 0, 1) := by decide +kernel
theorem dX4_clear_80 : decode cX4_clear 80 = .ok (.iconst 0, 1) := by decide +kernel
theorem dX4_clear_81 : decode cX4_clear 81 = .ok (.putfield 63, 3) := by decide +kernel
theorem m_375 : (Cond.fieldLink RX4 63 "CliffJudges$Hills" "wind" "I") ∈ gT := gm 375 (by decide +kernel) (by decide +kernel)
theorem dX4_clear_84 : decode cX4_clear 84 = .ok (.aload_n 0, 1) := by decide +kernel
theorem dX4_clear_85 : decode cX4_clear 85 = .ok (.iconst 0, 1) := by decide +kernel
theorem dX4_clear_86 : decode cX4_clear 86 = .ok (.putfield 66, 3) := by decide +kernel
theorem m_379 : (Cond.fieldLink RX4 66 "CliffJudges$Hills" "draw" "I") ∈ gT := gm 379 (by decide +kernel) (by decide +kernel)
theorem dX4_clear_89 : decode cX4_clear 89 = .ok (.aload_n 0, 1) := by decide +kernel
theorem dX4_clear_90 : decode cX4_clear 90 = .ok (.iconst 0, 1) := by decide +kernel
theorem dX4_clear_91 : decode cX4_clear 91 = .ok (.putfield 69, 3) := by decide +kernel
theorem m_381 : (Cond.fieldLink RX4 69 "CliffJudges$Hills" "units" "I") ∈ gT := gm 381 (by decide +kernel) (by decide +kernel)
theorem dX4_clear_94 : decode cX4_clear 94 = .ok (.return_, 1) := by decide +kernel
theorem dX4_clear_35 : decode cX4_clear 35 = .ok (.aload_n 0, 1) := by decide +kernel
theorem dX4_clear_36 : decode cX4_clear 36 = .ok (.getfield 30, 3) := by decide +kernel
theorem dX4_clear_39 : decode cX4_clear 39 = .ok (.iload_n 1, 1) := by decide +kernel
theorem dX4_clear_40 : decode cX4_clear 40 = .ok (.iconst (-1), 1) := by decide +kernel
theorem dX4_clear_41 : decode cX4_clear 41 = .ok (.iastore, 1) := by decide +kernel
theorem dX4_clear_42 : decode cX4_clear 42 = .ok (.iinc 1 1, 3) := by decide +kernel
theorem dX4_clear_45 : decode cX4_clear 45 = .ok (.goto (-19), 3) := by decide +kernel
theorem dX4_clear_11 : decode cX4_clear 11 = .ok (.aload_n 0, 1) := by decide +kernel
theorem dX4_clear_12 : decode cX4_clear 12 = .ok (.getfield 9, 3) := by decide +kernel
theorem dX4_clear_15 : decode cX4_clear 15 = .ok (.iload_n 1, 1) := by decide +kernel
theorem dX4_clear_16 : decode cX4_clear 16 = .ok (.iconst 0, 1) := by decide +kernel
theorem dX4_clear_17 : decode cX4_clear 17 = .ok (.iastore, 1) := by decide +kernel
theorem dX4_clear_18 : decode cX4_clear 18 = .ok (.iinc 1 1, 3) := by decide +kernel
theorem dX4_clear_21 : decode cX4_clear 21 = .ok (.goto (-19), 3) := by decide +kernel
set_option maxHeartbeats 400000 in
set_option maxRecDepth 100000 in
theorem c_hclear (l : Launch) (D : va_G) (cy : Nat → ClassId) (h0 : Nat) (h1 : Nat) (h7 : Nat) (h9 : Nat) (h10 : Nat) (h11 : Nat) (v1 : Value) (v2 : Value) (v3 : Value) (v4 : Value) (v5 : Value) (v7 : Value) (v11 : Value) (v12 : Value) (v13 : Value) (v14 : Value) (v15 : Value) (ya0 : Value) (ya1 : Value) (ya2 : Value) (ya3 : Value) (yb0 : Value) (yb1 : Value) (yb2 : Value) (yb3 : Value) (yc0 : Value) (yc1 : Value) (yc2 : Value) (yc3 : Value) (fx : Nat → Int32)  : XMv l D (tyL cy) E0 yX4_clear cX4_clear 2 none (rmk 1 0 0) [.ref h0] [(h0, .inr (4, [.ref h1, v1, v2, v3, v4, v5, .ref h7, v7, .ref h9, .ref h10, .ref h11, v11, v12, v13, v14, v15])), (h1, .inl (cy 1, 4, .inl (fun _ => 0))), (h7, .inl (cy 1, 48, .inl (fx))), (h9, .inr (3, [ya0, ya1, ya2, ya3])), (h10, .inr (3, [yb0, yb1, yb2, yb3])), (h11, .inr (3, [yc0, yc1, yc2, yc3]))] (fun (fx2 : Nat → Int32) => True) (fun (fx2 : Nat → Int32) => [(h0, .inr (4, [.ref h1, v1, v2, v3, v4, v5, .ref h7, v7, .ref h9, .ref h10, .ref h11, .int 0, .int 0, .int 0, .int 0, .int 0])), (h1, .inl (cy 1, 4, .inl (fun _ => 0))), (h7, .inl (cy 1, 48, .inl (fx2))), (h9, .inr (3, [ya0, ya1, .int 0, .int 0])), (h10, .inr (3, [yb0, yb1, .int 0, .int 0])), (h11, .inr (3, [yc0, yc1, .int 0, .int 0]))]) := by
  refine XMv.start (by decide) (Nat.le_of_ble_eq_true rfl) ?_
  intro p e s m below meth c args A ls Q hat hQ
  obtain ⟨hx, hb, hr, hml, hown, hg, hlocks, hin, hK, hA, hP, hD, hS, hE, hl⟩ := hat
  have hown : s.vm.findClass RX4 = some m.cls := hown
  have hl : lv_has ls 2 [(0, .ref h0)] := hl
  refine lv_iconst (v := 0) hx hb dX4_clear_0 (by decide) ?_
  refine lv_istore_n (lv' := [(1, .int 0), (0, .ref h0)]) hx hb dX4_clear_1 rfl hl (by decide) rfl (fun ls hl => ?_)
  have loop1 : ∀ (n i1 : Nat), i1 ≤ 4 → 5 ≤ i1 + n → ∀ (H : Heap) (locs : List Loc), va_P D vwCl [(h0, .inr (4, [.ref h1, v1, v2, v3, v4, v5, .ref h7, v7, .ref h9, .ref h10, .ref h11, v11, v12, v13, v14, v15])), (h1, .inl (cy 1, 4, .inl (fun _ => 0))), (h7, .inl (cy 1, 48, .inl (fx))), (h9, .inr (3, [ya0, ya1, ya2, ya3])), (h10, .inr (3, [yb0, yb1, yb2, yb3])), (h11, .inr (3, [yc0, yc1, yc2, yc3]))] H → va_D A [(h0, .inr (4, [.ref h1, v1, v2, v3, v4, v5, .ref h7, v7, .ref h9, .ref h10, .ref h11, v11, v12, v13, v14, v15])), (h1, .inl (cy 1, 4, .inl (fun _ => 0))), (h7, .inl (cy 1, 48, .inl (fx))), (h9, .inr (3, [ya0, ya1, ya2, ya3])), (h10, .inr (3, [yb0, yb1, yb2, yb3])), (h11, .inr (3, [yc0, yc1, yc2, yc3]))] → va_S A s.heap H locs → ∀ ls : Array Slot, lv_has ls 2 [(1, .int (nI i1)), (0, .ref h0)] → W p l e (rmk 1 0 0) s m args below meth c H locs 0 0 Q (F0 m 2 ls []) := by
    intro n
    induction n with
    | zero => intro i1 h1 h2; exact absurd h2 (by omega)
    | succ n ih =>
      intro i1 hi1 hn1  H locs hP hD hS ls hl
      have ih1 := ih
      refine lv_iload_n hx hb dX4_clear_2 rfl (lv_at hl 0 rfl) ?_
      refine lv_aload_n hx hb dX4_clear_3 rfl (lv_at hl 1 rfl) ?_
      refine va_get (D := D) (ci := 4) (v := .ref h1) (C := RX4) (T := TX4) (N := 16) hx hb hg i_X4 hown hK hP 0 rfl rfl 0 (by decide) (hg _ m_329) (fun _ h9 => h9) rfl dX4_clear_4 ?_
      refine va_alen (v := 4) hx hb hK hP 1 1 rfl rfl rfl dX4_clear_7 ?_
      refine lv_icmp_ge (tgt := 24) hx hb dX4_clear_8 (by decide) (fun c1 => ?_) (fun c1 => ?_)
      · have hend1 : i1 = 4 := lp_end (N := 4) (by decide) hi1 (by decide) c1
        subst hend1
        refine lv_iconst (v := 0) hx hb dX4_clear_24 (by decide) ?_
        refine lv_istore_n (lv' := [(1, .int 0), (0, .ref h0)]) hx hb dX4_clear_25 rfl hl (by decide) rfl (fun ls hl => ?_)
        have loop2 : ∀ (n i2 : Nat), i2 ≤ 48 → 49 ≤ i2 + n → ∀ (fq : Nat → Int32), ∀ (H : Heap) (locs : List Loc), va_P D vwCl [(h0, .inr (4, [.ref h1, v1, v2, v3, v4, v5, .ref h7, v7, .ref h9, .ref h10, .ref h11, v11, v12, v13, v14, v15])), (h1, .inl (cy 1, 4, .inl (fun _ => 0))), (h7, .inl (cy 1, 48, .inl (fq))), (h9, .inr (3, [ya0, ya1, ya2, ya3])), (h10, .inr (3, [yb0, yb1, yb2, yb3])), (h11, .inr (3, [yc0, yc1, yc2, yc3]))] H → va_D A [(h0, .inr (4, [.ref h1, v1, v2, v3, v4, v5, .ref h7, v7, .ref h9, .ref h10, .ref h11, v11, v12, v13, v14, v15])), (h1, .inl (cy 1, 4, .inl (fun _ => 0))), (h7, .inl (cy 1, 48, .inl (fq))), (h9, .inr (3, [ya0, ya1, ya2, ya3])), (h10, .inr (3, [yb0, yb1, yb2, yb3])), (h11, .inr (3, [yc0, yc1, yc2, yc3]))] → va_S A s.heap H locs → ∀ ls : Array Slot, lv_has ls 2 [(1, .int (nI i2)), (0, .ref h0)] → W p l e (rmk 1 0 0) s m args below meth c H locs 0 0 Q (F0 m 26 ls []) := by
          intro n
          induction n with
          | zero => intro i2 h1 h2; exact absurd h2 (by omega)
          | succ n ih =>
            intro i2 hi2 hn2 fq H locs hP hD hS ls hl
            have ih2 := ih
            refine lv_iload_n hx hb dX4_clear_26 rfl (lv_at hl 0 rfl) ?_
            refine lv_aload_n hx hb dX4_clear_27 rfl (lv_at hl 1 rfl) ?_
            refine va_get (D := D) (ci := 4) (v := .ref h7) (C := RX4) (T := TX4) (N := 16) hx hb hg i_X4 hown hK hP 0 rfl rfl 6 (by decide) (hg _ m_354) (fun _ h9 => h9) rfl dX4_clear_28 ?_
            refine va_alen (v := 48) hx hb hK hP 2 1 rfl rfl rfl dX4_clear_31 ?_
            refine lv_icmp_ge (tgt := 48) hx hb dX4_clear_32 (by decide) (fun c2 => ?_) (fun c2 => ?_)
            · have hend2 : i2 = 48 := lp_end (N := 48) (by decide) hi2 (by decide) c2
              subst hend2
              refine lv_aload_n hx hb dX4_clear_48 rfl (lv_at hl 1 rfl) ?_
              refine va_get (D := D) (ci := 4) (v := .ref h9) (C := RX4) (T := TX4) (N := 16) hx hb hg i_X4 hown hK hP 0 rfl rfl 8 (by decide) (hg _ m_360) (fun _ h9 => h9) rfl dX4_clear_49 ?_
              refine x_callVv (q := (RX3, TX3, 4)) (ci := 3) (q0 := 0) (wr := [(h0, .inr (4, [.ref h1, v1, v2, v3, v4, v5, .ref h7, v7, .ref h9, .ref h10, .ref h11, v11, v12, v13, v14, v15])), (h1, .inl (cy 1, 4, .inl (fun _ => 0))), (h7, .inl (cy 1, 48, .inl (fq))), (h10, .inr (3, [yb0, yb1, yb2, yb3])), (h11, .inr (3, [yc0, yc1, yc2, yc3]))]) (rest := []) ⟨hx, hb, hml, hown, hg, hl.1⟩ k_X4_55 (c_fclear l D cy h9 ya0 ya1 ya2 ya3) E0_blind hK hP hD hS hA [3] [0, 1, 2, 4, 5] ⟨rfl, rfl, by decide, by decide, by decide⟩ rfl rfl (fun _ _ _ => trivial) dX4_clear_52 rfl rfl (Nat.le_of_ble_eq_true rfl) ⟨Nat.le_of_ble_eq_true rfl, Nat.le_of_ble_eq_true rfl⟩ ⟨Nat.le_of_ble_eq_true rfl, Nat.le_of_ble_eq_true rfl⟩ (fun u3 H locs hw3 hP hD hS => ?_)
              have hP : va_P D vwCl [(h0, .inr (4, [.ref h1, v1, v2, v3, v4, v5, .ref h7, v7, .ref h9, .ref h10, .ref h11, v11, v12, v13, v14, v15])), (h1, .inl (cy 1, 4, .inl (fun _ => 0))), (h7, .inl (cy 1, 48, .inl (fq))), (h10, .inr (3, [yb0, yb1, yb2, yb3])), (h11, .inr (3, [yc0, yc1, yc2, yc3])), (h9, .inr (3, [ya0, ya1, .int 0, .int 0]))] H := hP
              have hD : va_D A [(h0, .inr (4, [.ref h1, v1, v2, v3, v4, v5, .ref h7, v7, .ref h9, .ref h10, .ref h11, v11, v12, v13, v14, v15])), (h1, .inl (cy 1, 4, .inl (fun _ => 0))), (h7, .inl (cy 1, 48, .inl (fq))), (h10, .inr (3, [yb0, yb1, yb2, yb3])), (h11, .inr (3, [yc0, yc1, yc2, yc3])), (h9, .inr (3, [ya0, ya1, .int 0, .int 0]))] := hD
              refine W.widen (k := 0) (n := 0) (Nat.le_of_ble_eq_true rfl) (Nat.le_of_ble_eq_true rfl) ?_
              refine lv_aload_n hx hb dX4_clear_55 rfl (lv_at hl 1 rfl) ?_
              refine va_get (D := D) (ci := 4) (v := .ref h10) (C := RX4) (T := TX4) (N := 16) hx hb hg i_X4 hown hK hP 0 rfl rfl 9 (by decide) (hg _ m_362) (fun _ h9 => h9) rfl dX4_clear_56 ?_
              refine x_callVv (q := (RX3, TX3, 4)) (ci := 3) (q0 := 0) (wr := [(h0, .inr (4, [.ref h1, v1, v2, v3, v4, v5, .ref h7, v7, .ref h9, .ref h10, .ref h11, v11, v12, v13, v14, v15])), (h1, .inl (cy 1, 4, .inl (fun _ => 0))), (h7, .inl (cy 1, 48, .inl (fq))), (h11, .inr (3, [yc0, yc1, yc2, yc3])), (h9, .inr (3, [ya0, ya1, .int 0, .int 0]))]) (rest := []) ⟨hx, hb, hml, hown, hg, hl.1⟩ k_X4_55 (c_fclear l D cy h10 yb0 yb1 yb2 yb3) E0_blind hK hP hD hS hA [3] [0, 1, 2, 4, 5] ⟨rfl, rfl, by decide, by decide, by decide⟩ rfl rfl (fun _ _ _ => trivial) dX4_clear_59 rfl rfl (Nat.le_of_ble_eq_true rfl) ⟨Nat.le_of_ble_eq_true rfl, Nat.le_of_ble_eq_true rfl⟩ ⟨Nat.le_of_ble_eq_true rfl, Nat.le_of_ble_eq_true rfl⟩ (fun u4 H locs hw4 hP hD hS => ?_)
              have hP : va_P D vwCl [(h0, .inr (4, [.ref h1, v1, v2, v3, v4, v5, .ref h7, v7, .ref h9, .ref h10, .ref h11, v11, v12, v13, v14, v15])), (h1, .inl (cy 1, 4, .inl (fun _ => 0))), (h7, .inl (cy 1, 48, .inl (fq))), (h11, .inr (3, [yc0, yc1, yc2, yc3])), (h9, .inr (3, [ya0, ya1, .int 0, .int 0])), (h10, .inr (3, [yb0, yb1, .int 0, .int 0]))] H := hP
              have hD : va_D A [(h0, .inr (4, [.ref h1, v1, v2, v3, v4, v5, .ref h7, v7, .ref h9, .ref h10, .ref h11, v11, v12, v13, v14, v15])), (h1, .inl (cy 1, 4, .inl (fun _ => 0))), (h7, .inl (cy 1, 48, .inl (fq))), (h11, .inr (3, [yc0, yc1, yc2, yc3])), (h9, .inr (3, [ya0, ya1, .int 0, .int 0])), (h10, .inr (3, [yb0, yb1, .int 0, .int 0]))] := hD
              refine W.widen (k := 0) (n := 0) (Nat.le_of_ble_eq_true rfl) (Nat.le_of_ble_eq_true rfl) ?_
              refine lv_aload_n hx hb dX4_clear_62 rfl (lv_at hl 1 rfl) ?_
              refine va_get (D := D) (ci := 4) (v := .ref h11) (C := RX4) (T := TX4) (N := 16) hx hb hg i_X4 hown hK hP 0 rfl rfl 10 (by decide) (hg _ m_365) (fun _ h9 => h9) rfl dX4_clear_63 ?_
              refine x_callVv (q := (RX3, TX3, 4)) (ci := 3) (q0 := 0) (wr := [(h0, .inr (4, [.ref h1, v1, v2, v3, v4, v5, .ref h7, v7, .ref h9, .ref h10, .ref h11, v11, v12, v13, v14, v15])), (h1, .inl (cy 1, 4, .inl (fun _ => 0))), (h7, .inl (cy 1, 48, .inl (fq))), (h9, .inr (3, [ya0, ya1, .int 0, .int 0])), (h10, .inr (3, [yb0, yb1, .int 0, .int 0]))]) (rest := []) ⟨hx, hb, hml, hown, hg, hl.1⟩ k_X4_55 (c_fclear l D cy h11 yc0 yc1 yc2 yc3) E0_blind hK hP hD hS hA [3] [0, 1, 2, 4, 5] ⟨rfl, rfl, by decide, by decide, by decide⟩ rfl rfl (fun _ _ _ => trivial) dX4_clear_66 rfl rfl (Nat.le_of_ble_eq_true rfl) ⟨Nat.le_of_ble_eq_true rfl, Nat.le_of_ble_eq_true rfl⟩ ⟨Nat.le_of_ble_eq_true rfl, Nat.le_of_ble_eq_true rfl⟩ (fun u5 H locs hw5 hP hD hS => ?_)
              have hP : va_P D vwCl [(h0, .inr (4, [.ref h1, v1, v2, v3, v4, v5, .ref h7, v7, .ref h9, .ref h10, .ref h11, v11, v12, v13, v14, v15])), (h1, .inl (cy 1, 4, .inl (fun _ => 0))), (h7, .inl (cy 1, 48, .inl (fq))), (h9, .inr (3, [ya0, ya1, .int 0, .int 0])), (h10, .inr (3, [yb0, yb1, .int 0, .int 0])), (h11, .inr (3, [yc0, yc1, .int 0, .int 0]))] H := hP
              have hD : va_D A [(h0, .inr (4, [.ref h1, v1, v2, v3, v4, v5, .ref h7, v7, .ref h9, .ref h10, .ref h11, v11, v12, v13, v14, v15])), (h1, .inl (cy 1, 4, .inl (fun _ => 0))), (h7, .inl (cy 1, 48, .inl (fq))), (h9, .inr (3, [ya0, ya1, .int 0, .int 0])), (h10, .inr (3, [yb0, yb1, .int 0, .int 0])), (h11, .inr (3, [yc0, yc1, .int 0, .int 0]))] := hD
              refine W.widen (k := 0) (n := 0) (Nat.le_of_ble_eq_true rfl) (Nat.le_of_ble_eq_true rfl) ?_
              refine lv_aload_n hx hb dX4_clear_69 rfl (lv_at hl 1 rfl) ?_
              refine lv_iconst (v := 0) hx hb dX4_clear_70 (by decide) ?_
              refine va_put (D := D) (ci := 4) (v := .int 0) (ty := .int) (C := RX4) (T := TX4) (N := 16) hx hb hg i_X4 tyX4 tyX4_ok nmX4 hown hK hP hD hS 0 rfl rfl 11 (by decide) (hg _ m_368) (fun _ h9 => h9) rfl (by decide +kernel) rfl rfl (Nat.le_of_ble_eq_true rfl) dX4_clear_71 (fun H locs hP hD hS => ?_)
              have hP : va_P D vwCl [(h0, .inr (4, [.ref h1, v1, v2, v3, v4, v5, .ref h7, v7, .ref h9, .ref h10, .ref h11, .int 0, v12, v13, v14, v15])), (h1, .inl (cy 1, 4, .inl (fun _ => 0))), (h7, .inl (cy 1, 48, .inl (fq))), (h9, .inr (3, [ya0, ya1, .int 0, .int 0])), (h10, .inr (3, [yb0, yb1, .int 0, .int 0])), (h11, .inr (3, [yc0, yc1, .int 0, .int 0]))] H := hP
              have hD : va_D A [(h0, .inr (4, [.ref h1, v1, v2, v3, v4, v5, .ref h7, v7, .ref h9, .ref h10, .ref h11, .int 0, v12, v13, v14, v15])), (h1, .inl (cy 1, 4, .inl (fun _ => 0))), (h7, .inl (cy 1, 48, .inl (fq))), (h9, .inr (3, [ya0, ya1, .int 0, .int 0])), (h10, .inr (3, [yb0, yb1, .int 0, .int 0])), (h11, .inr (3, [yc0, yc1, .int 0, .int 0]))] := hD
              refine lv_aload_n hx hb dX4_clear_74 rfl (lv_at hl 1 rfl) ?_
              refine lv_iconst (v := 0) hx hb dX4_clear_75 (by decide) ?_
              refine va_put (D := D) (ci := 4) (v := .int 0) (ty := .int) (C := RX4) (T := TX4) (N := 16) hx hb hg i_X4 tyX4 tyX4_ok nmX4 hown hK hP hD hS 0 rfl rfl 12 (by decide) (hg _ m_371) (fun _ h9 => h9) rfl (by decide +kernel) rfl rfl (Nat.le_of_ble_eq_true rfl) dX4_clear_76 (fun H locs hP hD hS => ?_)
              have hP : va_P D vwCl [(h0, .inr (4, [.ref h1, v1, v2, v3, v4, v5, .ref h7, v7, .ref h9, .ref h10, .ref h11, .int 0, .int 0, v13, v14, v15])), (h1, .inl (cy 1, 4, .inl (fun _ => 0))), (h7, .inl (cy 1, 48, .inl (fq))), (h9, .inr (3, [ya0, ya1, .int 0, .int 0])), (h10, .inr (3, [yb0, yb1, .int 0, .int 0])), (h11, .inr (3, [yc0, yc1, .int 0, .int 0]))] H := hP
              have hD : va_D A [(h0, .inr (4, [.ref h1, v1, v2, v3, v4, v5, .ref h7, v7, .ref h9, .ref h10, .ref h11, .int 0, .int 0, v13, v14, v15])), (h1, .inl (cy 1, 4, .inl (fun _ => 0))), (h7, .inl (cy 1, 48, .inl (fq))), (h9, .inr (3, [ya0, ya1, .int 0, .int 0])), (h10, .inr (3, [yb0, yb1, .int 0, .int 0])), (h11, .inr (3, [yc0, yc1, .int 0, .int 0]))] := hD
              refine lv_aload_n hx hb dX4_clear_79 rfl (lv_at hl 1 rfl) ?_
              refine lv_iconst (v := 0) hx hb dX4_clear_80 (by decide) ?_
              refine va_put (D := D) (ci := 4) (v := .int 0) (ty := .int) (C := RX4) (T := TX4) (N := 16) hx hb hg i_X4 tyX4 tyX4_ok nmX4 hown hK hP hD hS 0 rfl rfl 13 (by decide) (hg _ m_375) (fun _ h9 => h9) rfl (by decide +kernel) rfl rfl (Nat.le_of_ble_eq_true rfl) dX4_clear_81 (fun H locs hP hD hS => ?_)
              have hP : va_P D vwCl [(h0, .inr (4, [.ref h1, v1, v2, v3, v4, v5, .ref h7, v7, .ref h9, .ref h10, .ref h11, .int 0, .int 0, .int 0, v14, v15])), (h1, .inl (cy 1, 4, .inl (fun _ => 0))), (h7, .inl (cy 1, 48, .inl (fq))), (h9, .inr (3, [ya0, ya1, .int 0, .int 0])), (h10, .inr (3, [yb0, yb1, .int 0, .int 0])), (h11, .inr (3, [yc0, yc1, .int 0, .int 0]))] H := hP
              have hD : va_D A [(h0, .inr (4, [.ref h1, v1, v2, v3, v4, v5, .ref h7, v7, .ref h9, .ref h10, .ref h11, .int 0, .int 0, .int 0, v14, v15])), (h1, .inl (cy 1, 4, .inl (fun _ => 0))), (h7, .inl (cy 1, 48, .inl (fq))), (h9, .inr (3, [ya0, ya1, .int 0, .int 0])), (h10, .inr (3, [yb0, yb1, .int 0, .int 0])), (h11, .inr (3, [yc0, yc1, .int 0, .int 0]))] := hD
              refine lv_aload_n hx hb dX4_clear_84 rfl (lv_at hl 1 rfl) ?_
              refine lv_iconst (v := 0) hx hb dX4_clear_85 (by decide) ?_
              refine va_put (D := D) (ci := 4) (v := .int 0) (ty := .int) (C := RX4) (T := TX4) (N := 16) hx hb hg i_X4 tyX4 tyX4_ok nmX4 hown hK hP hD hS 0 rfl rfl 14 (by decide) (hg _ m_379) (fun _ h9 => h9) rfl (by decide +kernel) rfl rfl (Nat.le_of_ble_eq_true rfl) dX4_clear_86 (fun H locs hP hD hS => ?_)
              have hP : va_P D vwCl [(h0, .inr (4, [.ref h1, v1, v2, v3, v4, v5, .ref h7, v7, .ref h9, .ref h10, .ref h11, .int 0, .int 0, .int 0, .int 0, v15])), (h1, .inl (cy 1, 4, .inl (fun _ => 0))), (h7, .inl (cy 1, 48, .inl (fq))), (h9, .inr (3, [ya0, ya1, .int 0, .int 0])), (h10, .inr (3, [yb0, yb1, .int 0, .int 0])), (h11, .inr (3, [yc0, yc1, .int 0, .int 0]))] H := hP
              have hD : va_D A [(h0, .inr (4, [.ref h1, v1, v2, v3, v4, v5, .ref h7, v7, .ref h9, .ref h10, .ref h11, .int 0, .int 0, .int 0, .int 0, v15])), (h1, .inl (cy 1, 4, .inl (fun _ => 0))), (h7, .inl (cy 1, 48, .inl (fq))), (h9, .inr (3, [ya0, ya1, .int 0, .int 0])), (h10, .inr (3, [yb0, yb1, .int 0, .int 0])), (h11, .inr (3, [yc0, yc1, .int 0, .int 0]))] := hD
              refine lv_aload_n hx hb dX4_clear_89 rfl (lv_at hl 1 rfl) ?_
              refine lv_iconst (v := 0) hx hb dX4_clear_90 (by decide) ?_
              refine va_put (D := D) (ci := 4) (v := .int 0) (ty := .int) (C := RX4) (T := TX4) (N := 16) hx hb hg i_X4 tyX4 tyX4_ok nmX4 hown hK hP hD hS 0 rfl rfl 15 (by decide) (hg _ m_381) (fun _ h9 => h9) rfl (by decide +kernel) rfl rfl (Nat.le_of_ble_eq_true rfl) dX4_clear_91 (fun H locs hP hD hS => ?_)
              have hP : va_P D vwCl [(h0, .inr (4, [.ref h1, v1, v2, v3, v4, v5, .ref h7, v7, .ref h9, .ref h10, .ref h11, .int 0, .int 0, .int 0, .int 0, .int 0])), (h1, .inl (cy 1, 4, .inl (fun _ => 0))), (h7, .inl (cy 1, 48, .inl (fq))), (h9, .inr (3, [ya0, ya1, .int 0, .int 0])), (h10, .inr (3, [yb0, yb1, .int 0, .int 0])), (h11, .inr (3, [yc0, yc1, .int 0, .int 0]))] H := hP
              have hD : va_D A [(h0, .inr (4, [.ref h1, v1, v2, v3, v4, v5, .ref h7, v7, .ref h9, .ref h10, .ref h11, .int 0, .int 0, .int 0, .int 0, .int 0])), (h1, .inl (cy 1, 4, .inl (fun _ => 0))), (h7, .inl (cy 1, 48, .inl (fq))), (h9, .inr (3, [ya0, ya1, .int 0, .int 0])), (h10, .inr (3, [yb0, yb1, .int 0, .int 0])), (h11, .inr (3, [yc0, yc1, .int 0, .int 0]))] := hD
              exact x_vret hQ hx hb hr hlocks hK hP hD hS dX4_clear_94 fq (trivial) [0, 1, 2, 3, 4, 5] (by decide) rfl (Nat.le_of_ble_eq_true rfl) (Nat.le_of_ble_eq_true rfl)
            · have hlt2 : i2 < 48 := lp_go (by decide) hi2 (by decide) c2
              refine lv_aload_n hx hb dX4_clear_35 rfl (lv_at hl 1 rfl) ?_
              refine va_get (D := D) (ci := 4) (v := .ref h7) (C := RX4) (T := TX4) (N := 16) hx hb hg i_X4 hown hK hP 0 rfl rfl 6 (by decide) (hg _ m_354) (fun _ h9 => h9) rfl dX4_clear_36 ?_
              refine lv_iload_n hx hb dX4_clear_39 rfl (lv_at hl 0 rfl) ?_
              refine lv_iconst (v := -1) hx hb dX4_clear_40 (by decide) ?_
              refine va_iast hx hb hK hP hD hS 2 1 rfl rfl (vp_in_nI (by omega) (by decide)) dX4_clear_41 (fun H locs hP hD hS => ?_)
              obtain ⟨g_6, eg_6⟩ : ∃ y, upd fq (nI i2 : Int32).toNatClampNeg (-1) = y := ⟨_, rfl⟩
              rw [eg_6] at hP hD
              have hP : va_P D vwCl [(h0, .inr (4, [.ref h1, v1, v2, v3, v4, v5, .ref h7, v7, .ref h9, .ref h10, .ref h11, v11, v12, v13, v14, v15])), (h1, .inl (cy 1, 4, .inl (fun _ => 0))), (h7, .inl (cy 1, 48, .inl (g_6))), (h9, .inr (3, [ya0, ya1, ya2, ya3])), (h10, .inr (3, [yb0, yb1, yb2, yb3])), (h11, .inr (3, [yc0, yc1, yc2, yc3]))] H := hP
              have hD : va_D A [(h0, .inr (4, [.ref h1, v1, v2, v3, v4, v5, .ref h7, v7, .ref h9, .ref h10, .ref h11, v11, v12, v13, v14, v15])), (h1, .inl (cy 1, 4, .inl (fun _ => 0))), (h7, .inl (cy 1, 48, .inl (g_6))), (h9, .inr (3, [ya0, ya1, ya2, ya3])), (h10, .inr (3, [yb0, yb1, yb2, yb3])), (h11, .inr (3, [yc0, yc1, yc2, yc3]))] := hD
              refine lv_iinc (v := nI (i2 + 1)) (lv' := [(1, .int (nI (i2 + 1))), (0, .ref h0)]) hx hb dX4_clear_42 hl (k := 0) rfl (lp_inc i2) (by decide) rfl (fun ls hl => ?_)
              refine lv_goto (tgt := 26) hx hb dX4_clear_45 (by decide) ?_
              exact ih2 (i2 + 1) (by omega) (by omega) g_6 _ _ (hP.sub [0, 1, 2, 3, 4, 5] rfl) (hD.sub [0, 1, 2, 3, 4, 5] (by decide) rfl) hS ls (lv_sub hl [0, 1] rfl)
        exact loop2 49 0 (by omega) (by omega) fx _ _ (hP.sub [0, 1, 2, 3, 4, 5] rfl) (hD.sub [0, 1, 2, 3, 4, 5] (by decide) rfl) hS ls (lv_sub hl [0, 1] rfl)
      · have hlt1 : i1 < 4 := lp_go (by decide) hi1 (by decide) c1
        refine lv_aload_n hx hb dX4_clear_11 rfl (lv_at hl 1 rfl) ?_
        refine va_get (D := D) (ci := 4) (v := .ref h1) (C := RX4) (T := TX4) (N := 16) hx hb hg i_X4 hown hK hP 0 rfl rfl 0 (by decide) (hg _ m_329) (fun _ h9 => h9) rfl dX4_clear_12 ?_
        refine lv_iload_n hx hb dX4_clear_15 rfl (lv_at hl 0 rfl) ?_
        refine lv_iconst (v := 0) hx hb dX4_clear_16 (by decide) ?_
        refine va_iast hx hb hK hP hD hS 1 1 rfl rfl (vp_in_nI (by omega) (by decide)) dX4_clear_17 (fun H locs hP hD hS => ?_)
        rw [upd_z] at hP hD
        have hP : va_P D vwCl [(h0, .inr (4, [.ref h1, v1, v2, v3, v4, v5, .ref h7, v7, .ref h9, .ref h10, .ref h11, v11, v12, v13, v14, v15])), (h1, .inl (cy 1, 4, .inl (fun _ => 0))), (h7, .inl (cy 1, 48, .inl (fx))), (h9, .inr (3, [ya0, ya1, ya2, ya3])), (h10, .inr (3, [yb0, yb1, yb2, yb3])), (h11, .inr (3, [yc0, yc1, yc2, yc3]))] H := hP
        have hD : va_D A [(h0, .inr (4, [.ref h1, v1, v2, v3, v4, v5, .ref h7, v7, .ref h9, .ref h10, .ref h11, v11, v12, v13, v14, v15])), (h1, .inl (cy 1, 4, .inl (fun _ => 0))), (h7, .inl (cy 1, 48, .inl (fx))), (h9, .inr (3, [ya0, ya1, ya2, ya3])), (h10, .inr (3, [yb0, yb1, yb2, yb3])), (h11, .inr (3, [yc0, yc1, yc2, yc3]))] := hD
        refine lv_iinc (v := nI (i1 + 1)) (lv' := [(1, .int (nI (i1 + 1))), (0, .ref h0)]) hx hb dX4_clear_18 hl (k := 0) rfl (lp_inc i1) (by decide) rfl (fun ls hl => ?_)
        refine lv_goto (tgt := 2) hx hb dX4_clear_21 (by decide) ?_
        exact ih1 (i1 + 1) (by omega) (by omega)  _ _ (hP.sub [0, 1, 2, 3, 4, 5] rfl) (hD.sub [0, 1, 2, 3, 4, 5] (by decide) rfl) hS ls (lv_sub hl [0, 1] rfl)
  exact loop1 5 0 (by omega) (by omega)  _ _ (hP.sub [0, 1, 2, 3, 4, 5] rfl) (hD.sub [0, 1, 2, 3, 4, 5] (by decide) rfl) hS ls (lv_sub hl [0, 1] rfl)
theorem dX4_settle_0 : decode cX4_settle 0 = .ok (.iconst 0, 1) := by decide +kernel
theorem dX4_settle_1 : decode cX4_settle 1 = .ok (.istore_n 1, 1) := by decide +kernel
theorem dX4_settle_2 : decode cX4_settle 2 = .ok (.iload_n 1, 1) := by decide +kernel
theorem dX4_settle_3 : decode cX4_settle 3 = .ok (.aload_n 0, 1) := by decide +kernel
theorem dX4_settle_4 : decode cX4_settle 4 = .ok (.getfield 30, 3) := by decide +kernel
theorem dX4_settle_7 : decode cX4_settle 7 = .ok (.arraylength, 1) := by decide +kernel
theorem dX4_settle_8 : decode cX4_settle 8 = .ok (.if_icmp .ge 29, 3) := by decide +kernel
theorem dX4_settle_37 : decode cX4_settle 37 = .ok (.return_, 1) := by decide +kernel
theorem dX4_settle_11 : decode cX4_settle 11 = .ok (.aload_n 0, 1) := by decide +kernel
theorem dX4_settle_12 : decode cX4_settle 12 = .ok (.getfield 30, 3) := by decide +kernel
theorem dX4_settle_15 : decode cX4_settle 15 = .ok (.iload_n 1, 1) := by decide +kernel
theorem dX4_settle_16 : decode cX4_settle 16 = .ok (.iaload, 1) := by decide +kernel
theorem dX4_settle_17 : decode cX4_settle 17 = .ok (.iconst (-1), 1) := by decide +kernel
theorem dX4_settle_18 : decode cX4_settle 18 = .ok (.if_icmp .ne 13, 3) := by decide +kernel
theorem dX4_settle_31 : decode cX4_settle 31 = .ok (.iinc 1 1, 3) := by decide +kernel
theorem dX4_settle_34 : decode cX4_settle 34 = .ok (.goto (-32), 3) := by decide +kernel
theorem dX4_settle_21 : decode cX4_settle 21 = .ok (.aload_n 0, 1) := by decide +kernel
theorem dX4_settle_22 : decode cX4_settle 22 = .ok (.getfield 30, 3) := by decide +kernel
theorem dX4_settle_25 : decode cX4_settle 25 = .ok (.iload_n 1, 1) := by decide +kernel
theorem dX4_settle_26 : decode cX4_settle 26 = .ok (.iload_n 1, 1) := by decide +kernel
theorem dX4_settle_27 : decode cX4_settle 27 = .ok (.bipush 8, 2) := by decide +kernel
theorem dX4_settle_29 : decode cX4_settle 29 = .ok (.idiv, 1) := by decide +kernel
theorem dX4_settle_30 : decode cX4_settle 30 = .ok (.iastore, 1) := by decide +kernel
set_option maxHeartbeats 400000 in
set_option maxRecDepth 100000 in
theorem c_settle (l : Launch) (D : va_G) (cy : Nat → ClassId) (h0 : Nat) (h7 : Nat) (v0 : Value) (v1 : Value) (v2 : Value) (v3 : Value) (v4 : Value) (v5 : Value) (v7 : Value) (v8 : Value) (v9 : Value) (v10 : Value) (v11 : Value) (v12 : Value) (v13 : Value) (v14 : Value) (v15 : Value) (fx : Nat → Int32)  : XMv l D (tyL cy) E0 yX4_settle cX4_settle 2 none (rmk 0 0 0) [.ref h0] [(h0, .inr (4, [v0, v1, v2, v3, v4, v5, .ref h7, v7, v8, v9, v10, v11, v12, v13, v14, v15])), (h7, .inl (cy 1, 48, .inl (fx)))] (fun (fx2 : Nat → Int32) => True) (fun (fx2 : Nat → Int32) => [(h0, .inr (4, [v0, v1, v2, v3, v4, v5, .ref h7, v7, v8, v9, v10, v11, v12, v13, v14, v15])), (h7, .inl (cy 1, 48, .inl (fx2)))]) := by
  refine XMv.start (by decide) (Nat.le_of_ble_eq_true rfl) ?_
  intro p e s m below meth c args A ls Q hat hQ
  obtain ⟨hx, hb, hr, hml, hown, hg, hlocks, hin, hK, hA, hP, hD, hS, hE, hl⟩ := hat
  have hown : s.vm.findClass RX4 = some m.cls := hown
  have hl : lv_has ls 2 [(0, .ref h0)] := hl
  refine lv_iconst (v := 0) hx hb dX4_settle_0 (by decide) ?_
  refine lv_istore_n (lv' := [(1, .int 0), (0, .ref h0)]) hx hb dX4_settle_1 rfl hl (by decide) rfl (fun ls hl => ?_)
  have loop1 : ∀ (n i1 : Nat), i1 ≤ 48 → 49 ≤ i1 + n → ∀ (fq : Nat → Int32), ∀ (H : Heap) (locs : List Loc), va_P D vwCl [(h0, .inr (4, [v0, v1, v2, v3, v4, v5, .ref h7, v7, v8, v9, v10, v11, v12, v13, v14, v15])), (h7, .inl (cy 1, 48, .inl (fq)))] H → va_D A [(h0, .inr (4, [v0, v1, v2, v3, v4, v5, .ref h7, v7, v8, v9, v10, v11, v12, v13, v14, v15])), (h7, .inl (cy 1, 48, .inl (fq)))] → va_S A s.heap H locs → ∀ ls : Array Slot, lv_has ls 2 [(1, .int (nI i1)), (0, .ref h0)] → W p l e (rmk 0 0 0) s m args below meth c H locs 0 0 Q (F0 m 2 ls []) := by
    intro n
    induction n with
    | zero => intro i1 h1 h2; exact absurd h2 (by omega)
    | succ n ih =>
      intro i1 hi1 hn1 fq H locs hP hD hS ls hl
      have ih1 := ih
      refine lv_iload_n hx hb dX4_settle_2 rfl (lv_at hl 0 rfl) ?_
      refine lv_aload_n hx hb dX4_settle_3 rfl (lv_at hl 1 rfl) ?_
      refine va_get (D := D) (ci := 4) (v := .ref h7) (C := RX4) (T := TX4) (N := 16) hx hb hg i_X4 hown hK hP 0 rfl rfl 6 (by decide) (hg _ m_354) (fun _ h9 => h9) rfl dX4_settle_4 ?_
      refine va_alen (v := 48) hx hb hK hP 1 1 rfl rfl rfl dX4_settle_7 ?_
      refine lv_icmp_ge (tgt := 37) hx hb dX4_settle_8 (by decide) (fun c1 => ?_) (fun c1 => ?_)
      · have hend1 : i1 = 48 := lp_end (N := 48) (by decide) hi1 (by decide) c1
        subst hend1
        exact x_vret hQ hx hb hr hlocks hK hP hD hS dX4_settle_37 fq (trivial) [0, 1] (by decide) rfl (Nat.le_of_ble_eq_true rfl) (Nat.le_of_ble_eq_true rfl)
      · have hlt1 : i1 < 48 := lp_go (by decide) hi1 (by decide) c1
        refine lv_aload_n hx hb dX4_settle_11 rfl (lv_at hl 1 rfl) ?_
        refine va_get (D := D) (ci := 4) (v := .ref h7) (C := RX4) (T := TX4) (N := 16) hx hb hg i_X4 hown hK hP 0 rfl rfl 6 (by decide) (hg _ m_354) (fun _ h9 => h9) rfl dX4_settle_12 ?_
        refine lv_iload_n hx hb dX4_settle_15 rfl (lv_at hl 0 rfl) ?_
        refine va_iald hx hb hK hP 1 1 rfl rfl (vp_in_nI (by omega) (by decide)) dX4_settle_16 ?_
        refine lv_topi (fun x_2 ex_2 => ?_)
        refine lv_iconst (v := -1) hx hb dX4_settle_17 (by decide) ?_
        refine lv_icmp_ne (tgt := 31) hx hb dX4_settle_18 (by decide) (fun c_18 => ?_) (fun c_18 => ?_)
        · refine lv_iinc (v := nI (i1 + 1)) (lv' := [(1, .int (nI (i1 + 1))), (0, .ref h0)]) hx hb dX4_settle_31 hl (k := 0) rfl (lp_inc i1) (by decide) rfl (fun ls hl => ?_)
          refine lv_goto (tgt := 2) hx hb dX4_settle_34 (by decide) ?_
          exact ih1 (i1 + 1) (by omega) (by omega) fq _ _ (hP.sub [0, 1] rfl) (hD.sub [0, 1] (by decide) rfl) hS ls (lv_sub hl [0, 1] rfl)
        · refine lv_aload_n hx hb dX4_settle_21 rfl (lv_at hl 1 rfl) ?_
          refine va_get (D := D) (ci := 4) (v := .ref h7) (C := RX4) (T := TX4) (N := 16) hx hb hg i_X4 hown hK hP 0 rfl rfl 6 (by decide) (hg _ m_354) (fun _ h9 => h9) rfl dX4_settle_22 ?_
          refine lv_iload_n hx hb dX4_settle_25 rfl (lv_at hl 0 rfl) ?_
          refine lv_iload_n hx hb dX4_settle_26 rfl (lv_at hl 0 rfl) ?_
          refine lv_bipush (v := 8) hx hb dX4_settle_27 (by decide) ?_
          refine lv_idiv hx hb dX4_settle_29 (by decide) ?_
          refine lv_topi (fun x_3 ex_3 => ?_)
          refine va_iast hx hb hK hP hD hS 1 1 rfl rfl (vp_in_nI (by omega) (by decide)) dX4_settle_30 (fun H locs hP hD hS => ?_)
          obtain ⟨g_4, eg_4⟩ : ∃ y, upd fq (nI i1 : Int32).toNatClampNeg x_3 = y := ⟨_, rfl⟩
          rw [eg_4] at hP hD
          have hP : va_P D vwCl [(h0, .inr (4, [v0, v1, v2, v3, v4, v5, .ref h7, v7, v8, v9, v10, v11, v12, v13, v14, v15])), (h7, .inl (cy 1, 48, .inl (g_4)))] H := hP
          have hD : va_D A [(h0, .inr (4, [v0, v1, v2, v3, v4, v5, .ref h7, v7, v8, v9, v10, v11, v12, v13, v14, v15])), (h7, .inl (cy 1, 48, .inl (g_4)))] := hD
          refine lv_iinc (v := nI (i1 + 1)) (lv' := [(1, .int (nI (i1 + 1))), (0, .ref h0)]) hx hb dX4_settle_31 hl (k := 0) rfl (lp_inc i1) (by decide) rfl (fun ls hl => ?_)
          refine lv_goto (tgt := 2) hx hb dX4_settle_34 (by decide) ?_
          exact ih1 (i1 + 1) (by omega) (by omega) g_4 _ _ (hP.sub [0, 1] rfl) (hD.sub [0, 1] (by decide) rfl) hS ls (lv_sub hl [0, 1] rfl)
  exact loop1 49 0 (by omega) (by omega) fx _ _ (hP.sub [0, 1] rfl) (hD.sub [0, 1] (by decide) rfl) hS ls (lv_sub hl [0, 1] rfl)
theorem dX9_next_0 : decode cX9_next 0 = .ok (.aload_n 0, 1) := by decide +kernel
theorem dX9_next_1 : decode cX9_next 1 = .ok (.getfield 36, 3) := by decide +kernel
theorem m_219 : (Cond.fieldLink RX9 36 "CliffJudges$Tape" "at" "I") ∈ gT := gm 219 (by decide +kernel) (by decide +kernel)
theorem dX9_next_4 : decode cX9_next 4 = .ok (.aload_n 0, 1) := by decide +kernel
theorem dX9_next_5 : decode cX9_next 5 = .ok (.getfield 33, 3) := by decide +kernel
theorem dX9_next_8 : decode cX9_next 8 = .ok (.if_icmp .ge 44, 3) := by decide +kernel
theorem dX9_next_52 : decode cX9_next 52 = .ok (.aload_n 0, 1) := by decide +kernel
theorem dX9_next_53 : decode cX9_next 53 = .ok (.aload_n 0, 1) := by decide +kernel
theorem dX9_next_54 : decode cX9_next 54 = .ok (.getfield 36, 3) := by decide +kernel
theorem dX9_next_57 : decode cX9_next 57 = .ok (.putfield 42, 3) := by decide +kernel
theorem m_221 : (Cond.fieldLink RX9 42 "CliffJudges$Tape" "start" "I") ∈ gT := gm 221 (by decide +kernel) (by decide +kernel)
theorem dX9_next_60 : decode cX9_next 60 = .ok (.aload_n 0, 1) := by decide +kernel
theorem dX9_next_61 : decode cX9_next 61 = .ok (.getfield 36, 3) := by decide +kernel
theorem dX9_next_64 : decode cX9_next 64 = .ok (.aload_n 0, 1) := by decide +kernel
theorem dX9_next_65 : decode cX9_next 65 = .ok (.getfield 33, 3) := by decide +kernel
theorem dX9_next_68 : decode cX9_next 68 = .ok (.if_icmp .lt 11, 3) := by decide +kernel
theorem dX9_next_71 : decode cX9_next 71 = .ok (.aload_n 0, 1) := by decide +kernel
theorem dX9_next_72 : decode cX9_next 72 = .ok (.iconst 0, 1) := by decide +kernel
theorem dX9_next_73 : decode cX9_next 73 = .ok (.putfield 45, 3) := by decide +kernel
theorem m_223 : (Cond.fieldLink RX9 45 "CliffJudges$Tape" "kind" "I") ∈ gT := gm 223 (by decide +kernel) (by decide +kernel)
theorem dX9_next_76 : decode cX9_next 76 = .ok (.goto 145, 3) := by decide +kernel
theorem dX9_next_221 : decode cX9_next 221 = .ok (.return_, 1) := by decide +kernel
set_option maxHeartbeats 400000 in
set_option maxRecDepth 100000 in
theorem c_next0 (l : Launch) (D : va_G) (cy : Nat → ClassId) (ta0 : Nat) (tv0 : Value) (tv1 : Value) (tv6 : Value) (tv7 : Value) (tv4 : Value) (tv5 : Value)  : XMv l D (tyL cy) E0 yX9_next cX9_next 2 none (rmk 0 0 0) [.ref ta0] [(ta0, .inr (9, [tv0, tv1, .int 0, .int 0, tv4, tv5, tv6, tv7]))] (fun (_ : Unit) => True) (fun (_ : Unit) => [(ta0, .inr (9, [tv0, tv1, .int 0, .int 0, .int 0, .int 0, tv6, tv7]))]) := by
  refine XMv.start (by decide) (Nat.le_of_ble_eq_true rfl) ?_
  intro p e s m below meth c args A ls Q hat hQ
  obtain ⟨hx, hb, hr, hml, hown, hg, hlocks, hin, hK, hA, hP, hD, hS, hE, hl⟩ := hat
  have hown : s.vm.findClass RX9 = some m.cls := hown
  have hl : lv_has ls 2 [(0, .ref ta0)] := hl
  refine lv_aload_n hx hb dX9_next_0 rfl (lv_at hl 0 rfl) ?_
  refine va_get (D := D) (ci := 9) (v := .int 0) (C := RX9) (T := TX9) (N := 8) hx hb hg i_X9 hown hK hP 0 rfl rfl 3 (by decide) (hg _ m_219) (fun _ h9 => h9) rfl dX9_next_1 ?_
  refine lv_aload_n hx hb dX9_next_4 rfl (lv_at hl 0 rfl) ?_
  refine va_get (D := D) (ci := 9) (v := .int 0) (C := RX9) (T := TX9) (N := 8) hx hb hg i_X9 hown hK hP 0 rfl rfl 2 (by decide) (hg _ m_218) (fun _ h9 => h9) rfl dX9_next_5 ?_
  refine lv_icmp_ge (tgt := 52) hx hb dX9_next_8 (by decide) (fun _ => ?_) (fun h => absurd (by decide) h)
  refine lv_aload_n hx hb dX9_next_52 rfl (lv_at hl 0 rfl) ?_
  refine lv_aload_n hx hb dX9_next_53 rfl (lv_at hl 0 rfl) ?_
  refine va_get (D := D) (ci := 9) (v := .int 0) (C := RX9) (T := TX9) (N := 8) hx hb hg i_X9 hown hK hP 0 rfl rfl 3 (by decide) (hg _ m_219) (fun _ h9 => h9) rfl dX9_next_54 ?_
  refine va_put (D := D) (ci := 9) (v := .int 0) (ty := .int) (C := RX9) (T := TX9) (N := 8) hx hb hg i_X9 tyX9 tyX9_ok nmX9 hown hK hP hD hS 0 rfl rfl 4 (by decide) (hg _ m_221) (fun _ h9 => h9) rfl (by decide +kernel) rfl rfl (Nat.le_of_ble_eq_true rfl) dX9_next_57 (fun H locs hP hD hS => ?_)
  have hP : va_P D vwCl [(ta0, .inr (9, [tv0, tv1, .int 0, .int 0, .int 0, tv5, tv6, tv7]))] H := hP
  have hD : va_D A [(ta0, .inr (9, [tv0, tv1, .int 0, .int 0, .int 0, tv5, tv6, tv7]))] := hD
  refine lv_aload_n hx hb dX9_next_60 rfl (lv_at hl 0 rfl) ?_
  refine va_get (D := D) (ci := 9) (v := .int 0) (C := RX9) (T := TX9) (N := 8) hx hb hg i_X9 hown hK hP 0 rfl rfl 3 (by decide) (hg _ m_219) (fun _ h9 => h9) rfl dX9_next_61 ?_
  refine lv_aload_n hx hb dX9_next_64 rfl (lv_at hl 0 rfl) ?_
  refine va_get (D := D) (ci := 9) (v := .int 0) (C := RX9) (T := TX9) (N := 8) hx hb hg i_X9 hown hK hP 0 rfl rfl 2 (by decide) (hg _ m_218) (fun _ h9 => h9) rfl dX9_next_65 ?_
  refine lv_icmp_lt (tgt := 79) hx hb dX9_next_68 (by decide) (fun h => absurd h (by decide)) (fun _ => ?_)
  refine lv_aload_n hx hb dX9_next_71 rfl (lv_at hl 0 rfl) ?_
  refine lv_iconst (v := 0) hx hb dX9_next_72 (by decide) ?_
  refine va_put (D := D) (ci := 9) (v := .int 0) (ty := .int) (C := RX9) (T := TX9) (N := 8) hx hb hg i_X9 tyX9 tyX9_ok nmX9 hown hK hP hD hS 0 rfl rfl 5 (by decide) (hg _ m_223) (fun _ h9 => h9) rfl (by decide +kernel) rfl rfl (Nat.le_of_ble_eq_true rfl) dX9_next_73 (fun H locs hP hD hS => ?_)
  have hP : va_P D vwCl [(ta0, .inr (9, [tv0, tv1, .int 0, .int 0, .int 0, .int 0, tv6, tv7]))] H := hP
  have hD : va_D A [(ta0, .inr (9, [tv0, tv1, .int 0, .int 0, .int 0, .int 0, tv6, tv7]))] := hD
  refine lv_goto (tgt := 221) hx hb dX9_next_76 (by decide) ?_
  exact x_vret hQ hx hb hr hlocks hK hP hD hS dX9_next_221 () (trivial) [0] (by decide) rfl (Nat.le_of_ble_eq_true rfl) (Nat.le_of_ble_eq_true rfl)
theorem dX9_rewind_0 : decode cX9_rewind 0 = .ok (.aload_n 0, 1) := by decide +kernel
theorem dX9_rewind_1 : decode cX9_rewind 1 = .ok (.iconst 0, 1) := by decide +kernel
theorem dX9_rewind_2 : decode cX9_rewind 2 = .ok (.putfield 36, 3) := by decide +kernel
theorem dX9_rewind_5 : decode cX9_rewind 5 = .ok (.aload_n 0, 1) := by decide +kernel
theorem dX9_rewind_6 : decode cX9_rewind 6 = .ok (.invokevirtual 39, 3) := by decide +kernel
theorem m_726 : (Cond.methodLink RX9 39 yX9_next) ∈ gT := gm 726 (by decide +kernel) (by decide +kernel)
theorem m_727 : (Cond.instanceMethod yX9_next) ∈ gT := gm 727 (by decide +kernel) (by decide +kernel)
theorem m_728 : (Cond.selects RX9 yX9_next yX9_next) ∈ gT := gm 728 (by decide +kernel) (by decide +kernel)
theorem m_729 : (Cond.code yX9_next cX9_next 2 none) ∈ gT := gm 729 (by decide +kernel) (by decide +kernel)
theorem k_X9_39 : xV RX9 RX9 39 yX9_next cX9_next 2 none 0 := ⟨⟨m_726, m_727, m_728, m_131, m_729⟩, rfl, by decide, by decide, by decide +kernel⟩
theorem dX9_rewind_9 : decode cX9_rewind 9 = .ok (.return_, 1) := by decide +kernel
set_option maxHeartbeats 400000 in
set_option maxRecDepth 100000 in
theorem c_rewind0 (l : Launch) (D : va_G) (cy : Nat → ClassId) (ta0 : Nat) (tv0 : Value) (tv1 : Value) (tv6 : Value) (tv7 : Value) (tv3 : Value) (tv4 : Value) (tv5 : Value)  : XMv l D (tyL cy) E0 yX9_rewind cX9_rewind 1 none (rmk 1 0 0) [.ref ta0] [(ta0, .inr (9, [tv0, tv1, .int 0, tv3, tv4, tv5, tv6, tv7]))] (fun (_ : Unit) => True) (fun (_ : Unit) => [(ta0, .inr (9, [tv0, tv1, .int 0, .int 0, .int 0, .int 0, tv6, tv7]))]) := by
  refine XMv.start (by decide) (Nat.le_of_ble_eq_true rfl) ?_
  intro p e s m below meth c args A ls Q hat hQ
  obtain ⟨hx, hb, hr, hml, hown, hg, hlocks, hin, hK, hA, hP, hD, hS, hE, hl⟩ := hat
  have hown : s.vm.findClass RX9 = some m.cls := hown
  have hl : lv_has ls 1 [(0, .ref ta0)] := hl
  refine lv_aload_n hx hb dX9_rewind_0 rfl (lv_at hl 0 rfl) ?_
  refine lv_iconst (v := 0) hx hb dX9_rewind_1 (by decide) ?_
  refine va_put (D := D) (ci := 9) (v := .int 0) (ty := .int) (C := RX9) (T := TX9) (N := 8) hx hb hg i_X9 tyX9 tyX9_ok nmX9 hown hK hP hD hS 0 rfl rfl 3 (by decide) (hg _ m_219) (fun _ h9 => h9) rfl (by decide +kernel) rfl rfl (Nat.le_of_ble_eq_true rfl) dX9_rewind_2 (fun H locs hP hD hS => ?_)
  have hP : va_P D vwCl [(ta0, .inr (9, [tv0, tv1, .int 0, .int 0, tv4, tv5, tv6, tv7]))] H := hP
  have hD : va_D A [(ta0, .inr (9, [tv0, tv1, .int 0, .int 0, tv4, tv5, tv6, tv7]))] := hD
  refine lv_aload_n hx hb dX9_rewind_5 rfl (lv_at hl 0 rfl) ?_
  refine x_callVv (q := (RX9, TX9, 8)) (ci := 9) (q0 := 0) (wr := []) (rest := []) ⟨hx, hb, hml, hown, hg, hl.1⟩ k_X9_39 (c_next0 l D cy ta0 tv0 tv1 tv6 tv7 tv4 tv5) E0_blind hK hP hD hS hA [0] [] ⟨rfl, rfl, by decide, by decide, by decide⟩ rfl rfl (fun _ _ _ => trivial) dX9_rewind_6 rfl rfl (Nat.le_of_ble_eq_true rfl) ⟨Nat.le_of_ble_eq_true rfl, Nat.le_of_ble_eq_true rfl⟩ ⟨Nat.le_of_ble_eq_true rfl, Nat.le_of_ble_eq_true rfl⟩ (fun u1 H locs hw1 hP hD hS => ?_)
  have hP : va_P D vwCl [(ta0, .inr (9, [tv0, tv1, .int 0, .int 0, .int 0, .int 0, tv6, tv7]))] H := hP
  have hD : va_D A [(ta0, .inr (9, [tv0, tv1, .int 0, .int 0, .int 0, .int 0, tv6, tv7]))] := hD
  refine W.widen (k := 0) (n := 0) (Nat.le_of_ble_eq_true rfl) (Nat.le_of_ble_eq_true rfl) ?_
  exact x_vret hQ hx hb hr hlocks hK hP hD hS dX9_rewind_9 () (trivial) [0] (by decide) rfl (Nat.le_of_ble_eq_true rfl) (Nat.le_of_ble_eq_true rfl)
theorem dX10_tell_0 : decode cX10_tell 0 = .ok (.aload_n 0, 1) := by decide +kernel
theorem dX10_tell_1 : decode cX10_tell 1 = .ok (.aload_n 1, 1) := by decide +kernel
theorem dX10_tell_2 : decode cX10_tell 2 = .ok (.putfield 24, 3) := by decide +kernel
theorem m_257 : (Cond.fieldLink RX10 24 "CliffJudges$Teller" "hills" "LCliffJudges$Hills;") ∈ gT := gm 257 (by decide +kernel) (by decide +kernel)
theorem dX10_tell_5 : decode cX10_tell 5 = .ok (.aload_n 0, 1) := by decide +kernel
theorem dX10_tell_6 : decode cX10_tell 6 = .ok (.aload_n 1, 1) := by decide +kernel
theorem dX10_tell_7 : decode cX10_tell 7 = .ok (.getfield 28, 3) := by decide +kernel
theorem m_361 : (Cond.fieldLink RX10 28 "CliffJudges$Hills" "back" "LCliffJudges$Formula;") ∈ gT := gm 361 (by decide +kernel) (by decide +kernel)
theorem dX10_tell_10 : decode cX10_tell 10 = .ok (.putfield 34, 3) := by decide +kernel
theorem m_258 : (Cond.fieldLink RX10 34 "CliffJudges$Teller" "formula" "LCliffJudges$Formula;") ∈ gT := gm 258 (by decide +kernel) (by decide +kernel)
theorem dX10_tell_13 : decode cX10_tell 13 = .ok (.aload_n 1, 1) := by decide +kernel
theorem dX10_tell_14 : decode cX10_tell 14 = .ok (.invokevirtual 37, 3) := by decide +kernel
theorem m_721 : (Cond.methodLink RX10 37 yX4_clear) ∈ gT := gm 721 (by decide +kernel) (by decide +kernel)
theorem m_318 : (Cond.instanceMethod yX4_clear) ∈ gT := gm 318 (by decide +kernel) (by decide +kernel)
theorem m_319 : (Cond.selects RX4 yX4_clear yX4_clear) ∈ gT := gm 319 (by decide +kernel) (by decide +kernel)
theorem m_320 : (Cond.code yX4_clear cX4_clear 2 none) ∈ gT := gm 320 (by decide +kernel) (by decide +kernel)
theorem k_X10_37 : xV RX10 RX4 37 yX4_clear cX4_clear 2 none 0 := ⟨⟨m_721, m_318, m_319, m_137, m_320⟩, rfl, by decide, by decide, by decide +kernel⟩
theorem dX10_tell_17 : decode cX10_tell 17 = .ok (.aload_n 0, 1) := by decide +kernel
theorem dX10_tell_18 : decode cX10_tell 18 = .ok (.iconst 0, 1) := by decide +kernel
theorem dX10_tell_19 : decode cX10_tell 19 = .ok (.putfield 40, 3) := by decide +kernel
theorem m_260 : (Cond.fieldLink RX10 40 "CliffJudges$Teller" "windTold" "Z") ∈ gT := gm 260 (by decide +kernel) (by decide +kernel)
theorem dX10_tell_22 : decode cX10_tell 22 = .ok (.aload_n 0, 1) := by decide +kernel
theorem dX10_tell_23 : decode cX10_tell 23 = .ok (.iconst 0, 1) := by decide +kernel
theorem dX10_tell_24 : decode cX10_tell 24 = .ok (.putfield 44, 3) := by decide +kernel
theorem m_261 : (Cond.fieldLink RX10 44 "CliffJudges$Teller" "drawTold" "Z") ∈ gT := gm 261 (by decide +kernel) (by decide +kernel)
theorem dX10_tell_27 : decode cX10_tell 27 = .ok (.aload_n 0, 1) := by decide +kernel
theorem dX10_tell_28 : decode cX10_tell 28 = .ok (.iconst 0, 1) := by decide +kernel
theorem dX10_tell_29 : decode cX10_tell 29 = .ok (.putfield 47, 3) := by decide +kernel
theorem m_263 : (Cond.fieldLink RX10 47 "CliffJudges$Teller" "fault" "I") ∈ gT := gm 263 (by decide +kernel) (by decide +kernel)
theorem dX10_tell_32 : decode cX10_tell 32 = .ok (.aload_n 0, 1) := by decide +kernel
theorem dX10_tell_33 : decode cX10_tell 33 = .ok (.iconst (-1), 1) := by decide +kernel
theorem dX10_tell_34 : decode cX10_tell 34 = .ok (.putfield 20, 3) := by decide +kernel
theorem m_265 : (Cond.fieldLink RX10 20 "CliffJudges$Teller" "place" "I") ∈ gT := gm 265 (by decide +kernel) (by decide +kernel)
theorem dX10_tell_37 : decode cX10_tell 37 = .ok (.aload_n 0, 1) := by decide +kernel
theorem dX10_tell_38 : decode cX10_tell 38 = .ok (.getfield 16, 3) := by decide +kernel
theorem m_255 : (Cond.fieldLink RX10 16 "CliffJudges$Teller" "tape" "LCliffJudges$Tape;") ∈ gT := gm 255 (by decide +kernel) (by decide +kernel)
theorem dX10_tell_41 : decode cX10_tell 41 = .ok (.invokevirtual 50, 3) := by decide +kernel
theorem m_722 : (Cond.methodLink RX10 50 yX9_rewind) ∈ gT := gm 722 (by decide +kernel) (by decide +kernel)
theorem m_723 : (Cond.instanceMethod yX9_rewind) ∈ gT := gm 723 (by decide +kernel) (by decide +kernel)
theorem m_724 : (Cond.selects RX9 yX9_rewind yX9_rewind) ∈ gT := gm 724 (by decide +kernel) (by decide +kernel)
theorem m_725 : (Cond.code yX9_rewind cX9_rewind 1 none) ∈ gT := gm 725 (by decide +kernel) (by decide +kernel)
theorem k_X10_50 : xV RX10 RX9 50 yX9_rewind cX9_rewind 1 none 0 := ⟨⟨m_722, m_723, m_724, m_131, m_725⟩, rfl, by decide, by decide, by decide +kernel⟩
theorem dX10_tell_44 : decode cX10_tell 44 = .ok (.iconst 1, 1) := by decide +kernel
theorem dX10_tell_45 : decode cX10_tell 45 = .ok (.istore_n 2, 1) := by decide +kernel
theorem dX10_tell_46 : decode cX10_tell 46 = .ok (.iconst 0, 1) := by decide +kernel
theorem dX10_tell_47 : decode cX10_tell 47 = .ok (.istore_n 3, 1) := by decide +kernel
theorem dX10_tell_48 : decode cX10_tell 48 = .ok (.iload_n 3, 1) := by decide +kernel
theorem dX10_tell_49 : decode cX10_tell 49 = .ok (.sipush 1600, 3) := by decide +kernel
theorem dX10_tell_52 : decode cX10_tell 52 = .ok (.if_icmp .ge 28, 3) := by decide +kernel
theorem dX10_tell_55 : decode cX10_tell 55 = .ok (.iload_n 2, 1) := by decide +kernel
theorem dX10_tell_56 : decode cX10_tell 56 = .ok (.ifCond .eq 24, 3) := by decide +kernel
theorem dX10_tell_59 : decode cX10_tell 59 = .ok (.aload_n 0, 1) := by decide +kernel
theorem dX10_tell_60 : decode cX10_tell 60 = .ok (.getfield 16, 3) := by decide +kernel
theorem dX10_tell_63 : decode cX10_tell 63 = .ok (.getfield 55, 3) := by decide +kernel
theorem m_222 : (Cond.fieldLink RX10 55 "CliffJudges$Tape" "kind" "I") ∈ gT := gm 222 (by decide +kernel) (by decide +kernel)
theorem dX10_tell_66 : decode cX10_tell 66 = .ok (.ifCond .eq 14, 3) := by decide +kernel
theorem dX10_tell_80 : decode cX10_tell 80 = .ok (.aload_n 1, 1) := by decide +kernel
theorem dX10_tell_81 : decode cX10_tell 81 = .ok (.invokevirtual 62, 3) := by decide +kernel
theorem m_925 : (Cond.methodLink RX10 62 yX4_settle) ∈ gT := gm 925 (by decide +kernel) (by decide +kernel)
theorem m_326 : (Cond.instanceMethod yX4_settle) ∈ gT := gm 326 (by decide +kernel) (by decide +kernel)
theorem m_327 : (Cond.selects RX4 yX4_settle yX4_settle) ∈ gT := gm 327 (by decide +kernel) (by decide +kernel)
theorem m_328 : (Cond.code yX4_settle cX4_settle 2 none) ∈ gT := gm 328 (by decide +kernel) (by decide +kernel)
theorem k_X10_62 : xV RX10 RX4 62 yX4_settle cX4_settle 2 none 0 := ⟨⟨m_925, m_326, m_327, m_137, m_328⟩, rfl, by decide, by decide, by decide +kernel⟩
theorem dX10_tell_84 : decode cX10_tell 84 = .ok (.iload_n 2, 1) := by decide +kernel
theorem dX10_tell_85 : decode cX10_tell 85 = .ok (.ireturn, 1) := by decide +kernel
set_option maxHeartbeats 400000 in
set_option maxRecDepth 100000 in
theorem c_tell0 (l : Launch) (D : va_G) (cy : Nat → ClassId) (te0 : Nat) (sv1 : Value) (sv2 : Value) (sv3 : Value) (sv4 : Value) (sv5 : Value) (sv6 : Value) (sv7 : Value) (sv8 : Value) (sv9 : Value) (ta0 : Nat) (tv0 : Value) (tv1 : Value) (tv6 : Value) (tv7 : Value) (tv3 : Value) (tv4 : Value) (tv5 : Value) (h0 : Nat) (h1 : Nat) (h7 : Nat) (h9 : Nat) (h10 : Nat) (h11 : Nat) (v1 : Value) (v2 : Value) (v3 : Value) (v4 : Value) (v5 : Value) (v7 : Value) (v11 : Value) (v12 : Value) (v13 : Value) (v14 : Value) (v15 : Value) (ya0 : Value) (ya1 : Value) (ya2 : Value) (ya3 : Value) (yb0 : Value) (yb1 : Value) (yb2 : Value) (yb3 : Value) (yc0 : Value) (yc1 : Value) (yc2 : Value) (yc3 : Value) (fx : Nat → Int32)  : XMi l D (tyL cy) E0 yX10_tell cX10_tell 4 (some .boolean) (rmk 2 0 0) [.ref te0, .ref h0] [(te0, .inr (10, [.ref ta0, sv1, sv2, sv3, sv4, sv5, sv6, sv7, sv8, sv9])), (ta0, .inr (9, [tv0, tv1, .int 0, tv3, tv4, tv5, tv6, tv7])), (h0, .inr (4, [.ref h1, v1, v2, v3, v4, v5, .ref h7, v7, .ref h9, .ref h10, .ref h11, v11, v12, v13, v14, v15])), (h1, .inl (cy 1, 4, .inl (fun _ => 0))), (h7, .inl (cy 1, 48, .inl (fx))), (h9, .inr (3, [ya0, ya1, ya2, ya3])), (h10, .inr (3, [yb0, yb1, yb2, yb3])), (h11, .inr (3, [yc0, yc1, yc2, yc3]))] (fun (r : Int32) (fx2 : Nat → Int32) => r = 1) (fun (fx2 : Nat → Int32) => [(ta0, .inr (9, [tv0, tv1, .int 0, .int 0, .int 0, .int 0, tv6, tv7])), (h0, .inr (4, [.ref h1, v1, v2, v3, v4, v5, .ref h7, v7, .ref h9, .ref h10, .ref h11, .int 0, .int 0, .int 0, .int 0, .int 0])), (h1, .inl (cy 1, 4, .inl (fun _ => 0))), (h7, .inl (cy 1, 48, .inl (fx2)))]) := by
  refine XMi.start (by decide) (Nat.le_of_ble_eq_true rfl) ?_
  intro p e s m below meth c args A ls Q hat hQ
  obtain ⟨hx, hb, hr, hml, hown, hg, hlocks, hin, hK, hA, hP, hD, hS, hE, hl⟩ := hat
  have hown : s.vm.findClass RX10 = some m.cls := hown
  have hl : lv_has ls 4 [(0, .ref te0), (1, .ref h0)] := hl
  refine lv_aload_n hx hb dX10_tell_0 rfl (lv_at hl 0 rfl) ?_
  refine lv_aload_n hx hb dX10_tell_1 rfl (lv_at hl 1 rfl) ?_
  refine va_put (D := D) (ci := 10) (v := .ref h0) (ty := .object "CliffJudges$Hills") (C := RX10) (T := TX10) (N := 10) hx hb hg i_X10 tyX10 tyX10_ok nmX10 hown hK hP hD hS 0 rfl rfl 2 (by decide) (hg _ m_257) (fun _ h9 => h9) rfl (by decide +kernel) rfl rfl (Nat.le_of_ble_eq_true rfl) dX10_tell_2 (fun H locs hP hD hS => ?_)
  have hP : va_P D vwCl [(te0, .inr (10, [.ref ta0, sv1, .ref h0, sv3, sv4, sv5, sv6, sv7, sv8, sv9])), (ta0, .inr (9, [tv0, tv1, .int 0, tv3, tv4, tv5, tv6, tv7])), (h0, .inr (4, [.ref h1, v1, v2, v3, v4, v5, .ref h7, v7, .ref h9, .ref h10, .ref h11, v11, v12, v13, v14, v15])), (h1, .inl (cy 1, 4, .inl (fun _ => 0))), (h7, .inl (cy 1, 48, .inl (fx))), (h9, .inr (3, [ya0, ya1, ya2, ya3])), (h10, .inr (3, [yb0, yb1, yb2, yb3])), (h11, .inr (3, [yc0, yc1, yc2, yc3]))] H := hP
  have hD : va_D A [(te0, .inr (10, [.ref ta0, sv1, .ref h0, sv3, sv4, sv5, sv6, sv7, sv8, sv9])), (ta0, .inr (9, [tv0, tv1, .int 0, tv3, tv4, tv5, tv6, tv7])), (h0, .inr (4, [.ref h1, v1, v2, v3, v4, v5, .ref h7, v7, .ref h9, .ref h10, .ref h11, v11, v12, v13, v14, v15])), (h1, .inl (cy 1, 4, .inl (fun _ => 0))), (h7, .inl (cy 1, 48, .inl (fx))), (h9, .inr (3, [ya0, ya1, ya2, ya3])), (h10, .inr (3, [yb0, yb1, yb2, yb3])), (h11, .inr (3, [yc0, yc1, yc2, yc3]))] := hD
  refine lv_aload_n hx hb dX10_tell_5 rfl (lv_at hl 0 rfl) ?_
  refine lv_aload_n hx hb dX10_tell_6 rfl (lv_at hl 1 rfl) ?_
  refine va_get (D := D) (ci := 4) (v := .ref h9) (C := RX4) (T := TX4) (N := 16) hx hb hg i_X4 hown hK hP 2 rfl rfl 8 (by decide) (hg _ m_361) (fun _ h9 => h9) rfl dX10_tell_7 ?_
  refine va_put (D := D) (ci := 10) (v := .ref h9) (ty := .object "CliffJudges$Formula") (C := RX10) (T := TX10) (N := 10) hx hb hg i_X10 tyX10 tyX10_ok nmX10 hown hK hP hD hS 0 rfl rfl 3 (by decide) (hg _ m_258) (fun _ h9 => h9) rfl (by decide +kernel) rfl rfl (Nat.le_of_ble_eq_true rfl) dX10_tell_10 (fun H locs hP hD hS => ?_)
  have hP : va_P D vwCl [(te0, .inr (10, [.ref ta0, sv1, .ref h0, .ref h9, sv4, sv5, sv6, sv7, sv8, sv9])), (ta0, .inr (9, [tv0, tv1, .int 0, tv3, tv4, tv5, tv6, tv7])), (h0, .inr (4, [.ref h1, v1, v2, v3, v4, v5, .ref h7, v7, .ref h9, .ref h10, .ref h11, v11, v12, v13, v14, v15])), (h1, .inl (cy 1, 4, .inl (fun _ => 0))), (h7, .inl (cy 1, 48, .inl (fx))), (h9, .inr (3, [ya0, ya1, ya2, ya3])), (h10, .inr (3, [yb0, yb1, yb2, yb3])), (h11, .inr (3, [yc0, yc1, yc2, yc3]))] H := hP
  have hD : va_D A [(te0, .inr (10, [.ref ta0, sv1, .ref h0, .ref h9, sv4, sv5, sv6, sv7, sv8, sv9])), (ta0, .inr (9, [tv0, tv1, .int 0, tv3, tv4, tv5, tv6, tv7])), (h0, .inr (4, [.ref h1, v1, v2, v3, v4, v5, .ref h7, v7, .ref h9, .ref h10, .ref h11, v11, v12, v13, v14, v15])), (h1, .inl (cy 1, 4, .inl (fun _ => 0))), (h7, .inl (cy 1, 48, .inl (fx))), (h9, .inr (3, [ya0, ya1, ya2, ya3])), (h10, .inr (3, [yb0, yb1, yb2, yb3])), (h11, .inr (3, [yc0, yc1, yc2, yc3]))] := hD
  refine lv_aload_n hx hb dX10_tell_13 rfl (lv_at hl 1 rfl) ?_
  refine x_callVv (q := (RX4, TX4, 16)) (ci := 4) (q0 := 0) (wr := [(te0, .inr (10, [.ref ta0, sv1, .ref h0, .ref h9, sv4, sv5, sv6, sv7, sv8, sv9])), (ta0, .inr (9, [tv0, tv1, .int 0, tv3, tv4, tv5, tv6, tv7]))]) (rest := []) ⟨hx, hb, hml, hown, hg, hl.1⟩ k_X10_37 (c_hclear l D cy h0 h1 h7 h9 h10 h11 v1 v2 v3 v4 v5 v7 v11 v12 v13 v14 v15 ya0 ya1 ya2 ya3 yb0 yb1 yb2 yb3 yc0 yc1 yc2 yc3 fx) E0_blind hK hP hD hS hA [2, 3, 4, 5, 6, 7] [0, 1] ⟨rfl, rfl, by decide, by decide, by decide⟩ rfl rfl (fun _ _ _ => trivial) dX10_tell_14 rfl rfl (Nat.le_of_ble_eq_true rfl) ⟨Nat.le_of_ble_eq_true rfl, Nat.le_of_ble_eq_true rfl⟩ ⟨Nat.le_of_ble_eq_true rfl, Nat.le_of_ble_eq_true rfl⟩ (fun u1 H locs hw1 hP hD hS => ?_)
  obtain ⟨fx2_2, rfl⟩ : ∃ z, z = u1 := ⟨_, rfl⟩
  have hP : va_P D vwCl [(te0, .inr (10, [.ref ta0, sv1, .ref h0, .ref h9, sv4, sv5, sv6, sv7, sv8, sv9])), (ta0, .inr (9, [tv0, tv1, .int 0, tv3, tv4, tv5, tv6, tv7])), (h0, .inr (4, [.ref h1, v1, v2, v3, v4, v5, .ref h7, v7, .ref h9, .ref h10, .ref h11, .int 0, .int 0, .int 0, .int 0, .int 0])), (h1, .inl (cy 1, 4, .inl (fun _ => 0))), (h7, .inl (cy 1, 48, .inl (fx2_2))), (h9, .inr (3, [ya0, ya1, .int 0, .int 0])), (h10, .inr (3, [yb0, yb1, .int 0, .int 0])), (h11, .inr (3, [yc0, yc1, .int 0, .int 0]))] H := hP
  have hD : va_D A [(te0, .inr (10, [.ref ta0, sv1, .ref h0, .ref h9, sv4, sv5, sv6, sv7, sv8, sv9])), (ta0, .inr (9, [tv0, tv1, .int 0, tv3, tv4, tv5, tv6, tv7])), (h0, .inr (4, [.ref h1, v1, v2, v3, v4, v5, .ref h7, v7, .ref h9, .ref h10, .ref h11, .int 0, .int 0, .int 0, .int 0, .int 0])), (h1, .inl (cy 1, 4, .inl (fun _ => 0))), (h7, .inl (cy 1, 48, .inl (fx2_2))), (h9, .inr (3, [ya0, ya1, .int 0, .int 0])), (h10, .inr (3, [yb0, yb1, .int 0, .int 0])), (h11, .inr (3, [yc0, yc1, .int 0, .int 0]))] := hD
  refine W.widen (k := 0) (n := 0) (Nat.le_of_ble_eq_true rfl) (Nat.le_of_ble_eq_true rfl) ?_
  refine lv_aload_n hx hb dX10_tell_17 rfl (lv_at hl 0 rfl) ?_
  refine lv_iconst (v := 0) hx hb dX10_tell_18 (by decide) ?_
  refine va_put (D := D) (ci := 10) (v := .int 0) (ty := .boolean) (C := RX10) (T := TX10) (N := 10) hx hb hg i_X10 tyX10 tyX10_ok nmX10 hown hK hP hD hS 0 rfl rfl 5 (by decide) (hg _ m_260) (fun _ h9 => h9) rfl (by decide +kernel) rfl rfl (Nat.le_of_ble_eq_true rfl) dX10_tell_19 (fun H locs hP hD hS => ?_)
  have hP : va_P D vwCl [(te0, .inr (10, [.ref ta0, sv1, .ref h0, .ref h9, sv4, .int 0, sv6, sv7, sv8, sv9])), (ta0, .inr (9, [tv0, tv1, .int 0, tv3, tv4, tv5, tv6, tv7])), (h0, .inr (4, [.ref h1, v1, v2, v3, v4, v5, .ref h7, v7, .ref h9, .ref h10, .ref h11, .int 0, .int 0, .int 0, .int 0, .int 0])), (h1, .inl (cy 1, 4, .inl (fun _ => 0))), (h7, .inl (cy 1, 48, .inl (fx2_2))), (h9, .inr (3, [ya0, ya1, .int 0, .int 0])), (h10, .inr (3, [yb0, yb1, .int 0, .int 0])), (h11, .inr (3, [yc0, yc1, .int 0, .int 0]))] H := hP
  have hD : va_D A [(te0, .inr (10, [.ref ta0, sv1, .ref h0, .ref h9, sv4, .int 0, sv6, sv7, sv8, sv9])), (ta0, .inr (9, [tv0, tv1, .int 0, tv3, tv4, tv5, tv6, tv7])), (h0, .inr (4, [.ref h1, v1, v2, v3, v4, v5, .ref h7, v7, .ref h9, .ref h10, .ref h11, .int 0, .int 0, .int 0, .int 0, .int 0])), (h1, .inl (cy 1, 4, .inl (fun _ => 0))), (h7, .inl (cy 1, 48, .inl (fx2_2))), (h9, .inr (3, [ya0, ya1, .int 0, .int 0])), (h10, .inr (3, [yb0, yb1, .int 0, .int 0])), (h11, .inr (3, [yc0, yc1, .int 0, .int 0]))] := hD
  refine lv_aload_n hx hb dX10_tell_22 rfl (lv_at hl 0 rfl) ?_
  refine lv_iconst (v := 0) hx hb dX10_tell_23 (by decide) ?_
  refine va_put (D := D) (ci := 10) (v := .int 0) (ty := .boolean) (C := RX10) (T := TX10) (N := 10) hx hb hg i_X10 tyX10 tyX10_ok nmX10 hown hK hP hD hS 0 rfl rfl 6 (by decide) (hg _ m_261) (fun _ h9 => h9) rfl (by decide +kernel) rfl rfl (Nat.le_of_ble_eq_true rfl) dX10_tell_24 (fun H locs hP hD hS => ?_)
  have hP : va_P D vwCl [(te0, .inr (10, [.ref ta0, sv1, .ref h0, .ref h9, sv4, .int 0, .int 0, sv7, sv8, sv9])), (ta0, .inr (9, [tv0, tv1, .int 0, tv3, tv4, tv5, tv6, tv7])), (h0, .inr (4, [.ref h1, v1, v2, v3, v4, v5, .ref h7, v7, .ref h9, .ref h10, .ref h11, .int 0, .int 0, .int 0, .int 0, .int 0])), (h1, .inl (cy 1, 4, .inl (fun _ => 0))), (h7, .inl (cy 1, 48, .inl (fx2_2))), (h9, .inr (3, [ya0, ya1, .int 0, .int 0])), (h10, .inr (3, [yb0, yb1, .int 0, .int 0])), (h11, .inr (3, [yc0, yc1, .int 0, .int 0]))] H := hP
  have hD : va_D A [(te0, .inr (10, [.ref ta0, sv1, .ref h0, .ref h9, sv4, .int 0, .int 0, sv7, sv8, sv9])), (ta0, .inr (9, [tv0, tv1, .int 0, tv3, tv4, tv5, tv6, tv7])), (h0, .inr (4, [.ref h1, v1, v2, v3, v4, v5, .ref h7, v7, .ref h9, .ref h10, .ref h11, .int 0, .int 0, .int 0, .int 0, .int 0])), (h1, .inl (cy 1, 4, .inl (fun _ => 0))), (h7, .inl (cy 1, 48, .inl (fx2_2))), (h9, .inr (3, [ya0, ya1, .int 0, .int 0])), (h10, .inr (3, [yb0, yb1, .int 0, .int 0])), (h11, .inr (3, [yc0, yc1, .int 0, .int 0]))] := hD
  refine lv_aload_n hx hb dX10_tell_27 rfl (lv_at hl 0 rfl) ?_
  refine lv_iconst (v := 0) hx hb dX10_tell_28 (by decide) ?_
  refine va_put (D := D) (ci := 10) (v := .int 0) (ty := .int) (C := RX10) (T := TX10) (N := 10) hx hb hg i_X10 tyX10 tyX10_ok nmX10 hown hK hP hD hS 0 rfl rfl 8 (by decide) (hg _ m_263) (fun _ h9 => h9) rfl (by decide +kernel) rfl rfl (Nat.le_of_ble_eq_true rfl) dX10_tell_29 (fun H locs hP hD hS => ?_)
  have hP : va_P D vwCl [(te0, .inr (10, [.ref ta0, sv1, .ref h0, .ref h9, sv4, .int 0, .int 0, sv7, .int 0, sv9])), (ta0, .inr (9, [tv0, tv1, .int 0, tv3, tv4, tv5, tv6, tv7])), (h0, .inr (4, [.ref h1, v1, v2, v3, v4, v5, .ref h7, v7, .ref h9, .ref h10, .ref h11, .int 0, .int 0, .int 0, .int 0, .int 0])), (h1, .inl (cy 1, 4, .inl (fun _ => 0))), (h7, .inl (cy 1, 48, .inl (fx2_2))), (h9, .inr (3, [ya0, ya1, .int 0, .int 0])), (h10, .inr (3, [yb0, yb1, .int 0, .int 0])), (h11, .inr (3, [yc0, yc1, .int 0, .int 0]))] H := hP
  have hD : va_D A [(te0, .inr (10, [.ref ta0, sv1, .ref h0, .ref h9, sv4, .int 0, .int 0, sv7, .int 0, sv9])), (ta0, .inr (9, [tv0, tv1, .int 0, tv3, tv4, tv5, tv6, tv7])), (h0, .inr (4, [.ref h1, v1, v2, v3, v4, v5, .ref h7, v7, .ref h9, .ref h10, .ref h11, .int 0, .int 0, .int 0, .int 0, .int 0])), (h1, .inl (cy 1, 4, .inl (fun _ => 0))), (h7, .inl (cy 1, 48, .inl (fx2_2))), (h9, .inr (3, [ya0, ya1, .int 0, .int 0])), (h10, .inr (3, [yb0, yb1, .int 0, .int 0])), (h11, .inr (3, [yc0, yc1, .int 0, .int 0]))] := hD
  refine lv_aload_n hx hb dX10_tell_32 rfl (lv_at hl 0 rfl) ?_
  refine lv_iconst (v := -1) hx hb dX10_tell_33 (by decide) ?_
  refine va_put (D := D) (ci := 10) (v := .int (-1)) (ty := .int) (C := RX10) (T := TX10) (N := 10) hx hb hg i_X10 tyX10 tyX10_ok nmX10 hown hK hP hD hS 0 rfl rfl 9 (by decide) (hg _ m_265) (fun _ h9 => h9) rfl (by decide +kernel) rfl rfl (Nat.le_of_ble_eq_true rfl) dX10_tell_34 (fun H locs hP hD hS => ?_)
  have hP : va_P D vwCl [(te0, .inr (10, [.ref ta0, sv1, .ref h0, .ref h9, sv4, .int 0, .int 0, sv7, .int 0, .int (-1)])), (ta0, .inr (9, [tv0, tv1, .int 0, tv3, tv4, tv5, tv6, tv7])), (h0, .inr (4, [.ref h1, v1, v2, v3, v4, v5, .ref h7, v7, .ref h9, .ref h10, .ref h11, .int 0, .int 0, .int 0, .int 0, .int 0])), (h1, .inl (cy 1, 4, .inl (fun _ => 0))), (h7, .inl (cy 1, 48, .inl (fx2_2))), (h9, .inr (3, [ya0, ya1, .int 0, .int 0])), (h10, .inr (3, [yb0, yb1, .int 0, .int 0])), (h11, .inr (3, [yc0, yc1, .int 0, .int 0]))] H := hP
  have hD : va_D A [(te0, .inr (10, [.ref ta0, sv1, .ref h0, .ref h9, sv4, .int 0, .int 0, sv7, .int 0, .int (-1)])), (ta0, .inr (9, [tv0, tv1, .int 0, tv3, tv4, tv5, tv6, tv7])), (h0, .inr (4, [.ref h1, v1, v2, v3, v4, v5, .ref h7, v7, .ref h9, .ref h10, .ref h11, .int 0, .int 0, .int 0, .int 0, .int 0])), (h1, .inl (cy 1, 4, .inl (fun _ => 0))), (h7, .inl (cy 1, 48, .inl (fx2_2))), (h9, .inr (3, [ya0, ya1, .int 0, .int 0])), (h10, .inr (3, [yb0, yb1, .int 0, .int 0])), (h11, .inr (3, [yc0, yc1, .int 0, .int 0]))] := hD
  refine lv_aload_n hx hb dX10_tell_37 rfl (lv_at hl 0 rfl) ?_
  refine va_get (D := D) (ci := 10) (v := .ref ta0) (C := RX10) (T := TX10) (N := 10) hx hb hg i_X10 hown hK hP 0 rfl rfl 0 (by decide) (hg _ m_255) (fun _ h9 => h9) rfl dX10_tell_38 ?_
  refine x_callVv (q := (RX9, TX9, 8)) (ci := 9) (q0 := 0) (wr := [(te0, .inr (10, [.ref ta0, sv1, .ref h0, .ref h9, sv4, .int 0, .int 0, sv7, .int 0, .int (-1)])), (h0, .inr (4, [.ref h1, v1, v2, v3, v4, v5, .ref h7, v7, .ref h9, .ref h10, .ref h11, .int 0, .int 0, .int 0, .int 0, .int 0])), (h1, .inl (cy 1, 4, .inl (fun _ => 0))), (h7, .inl (cy 1, 48, .inl (fx2_2))), (h9, .inr (3, [ya0, ya1, .int 0, .int 0])), (h10, .inr (3, [yb0, yb1, .int 0, .int 0])), (h11, .inr (3, [yc0, yc1, .int 0, .int 0]))]) (rest := []) ⟨hx, hb, hml, hown, hg, hl.1⟩ k_X10_50 (c_rewind0 l D cy ta0 tv0 tv1 tv6 tv7 tv3 tv4 tv5) E0_blind hK hP hD hS hA [1] [0, 2, 3, 4, 5, 6, 7] ⟨rfl, rfl, by decide, by decide, by decide⟩ rfl rfl (fun _ _ _ => trivial) dX10_tell_41 rfl rfl (Nat.le_of_ble_eq_true rfl) ⟨Nat.le_of_ble_eq_true rfl, Nat.le_of_ble_eq_true rfl⟩ ⟨Nat.le_of_ble_eq_true rfl, Nat.le_of_ble_eq_true rfl⟩ (fun u3 H locs hw3 hP hD hS => ?_)
  have hP : va_P D vwCl [(te0, .inr (10, [.ref ta0, sv1, .ref h0, .ref h9, sv4, .int 0, .int 0, sv7, .int 0, .int (-1)])), (h0, .inr (4, [.ref h1, v1, v2, v3, v4, v5, .ref h7, v7, .ref h9, .ref h10, .ref h11, .int 0, .int 0, .int 0, .int 0, .int 0])), (h1, .inl (cy 1, 4, .inl (fun _ => 0))), (h7, .inl (cy 1, 48, .inl (fx2_2))), (h9, .inr (3, [ya0, ya1, .int 0, .int 0])), (h10, .inr (3, [yb0, yb1, .int 0, .int 0])), (h11, .inr (3, [yc0, yc1, .int 0, .int 0])), (ta0, .inr (9, [tv0, tv1, .int 0, .int 0, .int 0, .int 0, tv6, tv7]))] H := hP
  have hD : va_D A [(te0, .inr (10, [.ref ta0, sv1, .ref h0, .ref h9, sv4, .int 0, .int 0, sv7, .int 0, .int (-1)])), (h0, .inr (4, [.ref h1, v1, v2, v3, v4, v5, .ref h7, v7, .ref h9, .ref h10, .ref h11, .int 0, .int 0, .int 0, .int 0, .int 0])), (h1, .inl (cy 1, 4, .inl (fun _ => 0))), (h7, .inl (cy 1, 48, .inl (fx2_2))), (h9, .inr (3, [ya0, ya1, .int 0, .int 0])), (h10, .inr (3, [yb0, yb1, .int 0, .int 0])), (h11, .inr (3, [yc0, yc1, .int 0, .int 0])), (ta0, .inr (9, [tv0, tv1, .int 0, .int 0, .int 0, .int 0, tv6, tv7]))] := hD
  refine W.widen (k := 0) (n := 0) (Nat.le_of_ble_eq_true rfl) (Nat.le_of_ble_eq_true rfl) ?_
  refine lv_iconst (v := 1) hx hb dX10_tell_44 (by decide) ?_
  refine lv_istore_n (lv' := [(2, .int 1), (0, .ref te0), (1, .ref h0)]) hx hb dX10_tell_45 rfl hl (by decide) rfl (fun ls hl => ?_)
  refine lv_iconst (v := 0) hx hb dX10_tell_46 (by decide) ?_
  refine lv_istore_n (lv' := [(3, .int 0), (2, .int 1), (0, .ref te0), (1, .ref h0)]) hx hb dX10_tell_47 rfl hl (by decide) rfl (fun ls hl => ?_)
  refine lv_iload_n hx hb dX10_tell_48 rfl (lv_at hl 0 rfl) ?_
  refine lv_sipush (v := 1600) hx hb dX10_tell_49 (by decide) ?_
  refine lv_icmp_ge (tgt := 80) hx hb dX10_tell_52 (by decide) (fun h => absurd h (by decide)) (fun _ => ?_)
  refine lv_iload_n hx hb dX10_tell_55 rfl (lv_at hl 1 rfl) ?_
  refine lv_if_eq (tgt := 80) hx hb dX10_tell_56 (by decide) (fun h => absurd h (by decide)) (fun _ => ?_)
  refine lv_aload_n hx hb dX10_tell_59 rfl (lv_at hl 2 rfl) ?_
  refine va_get (D := D) (ci := 10) (v := .ref ta0) (C := RX10) (T := TX10) (N := 10) hx hb hg i_X10 hown hK hP 0 rfl rfl 0 (by decide) (hg _ m_255) (fun _ h9 => h9) rfl dX10_tell_60 ?_
  refine va_get (D := D) (ci := 9) (v := .int 0) (C := RX9) (T := TX9) (N := 8) hx hb hg i_X9 hown hK hP 7 rfl rfl 5 (by decide) (hg _ m_222) (fun _ h9 => h9) rfl dX10_tell_63 ?_
  refine lv_if_eq (tgt := 80) hx hb dX10_tell_66 (by decide) (fun _ => ?_) (fun h => absurd (by decide) h)
  refine lv_aload_n hx hb dX10_tell_80 rfl (lv_at hl 3 rfl) ?_
  refine x_callVv (q := (RX4, TX4, 16)) (ci := 4) (q0 := 0) (wr := [(te0, .inr (10, [.ref ta0, sv1, .ref h0, .ref h9, sv4, .int 0, .int 0, sv7, .int 0, .int (-1)])), (h1, .inl (cy 1, 4, .inl (fun _ => 0))), (h9, .inr (3, [ya0, ya1, .int 0, .int 0])), (h10, .inr (3, [yb0, yb1, .int 0, .int 0])), (h11, .inr (3, [yc0, yc1, .int 0, .int 0])), (ta0, .inr (9, [tv0, tv1, .int 0, .int 0, .int 0, .int 0, tv6, tv7]))]) (rest := []) ⟨hx, hb, hml, hown, hg, hl.1⟩ k_X10_62 (c_settle l D cy h0 h7 ((.ref h1)) v1 v2 v3 v4 v5 v7 ((.ref h9)) ((.ref h10)) ((.ref h11)) ((.int 0)) ((.int 0)) ((.int 0)) ((.int 0)) ((.int 0)) fx2_2) E0_blind hK hP hD hS hA [1, 3] [0, 2, 4, 5, 6, 7] ⟨rfl, rfl, by decide, by decide, by decide⟩ rfl rfl (fun _ _ _ => trivial) dX10_tell_81 rfl rfl (Nat.le_of_ble_eq_true rfl) ⟨Nat.le_of_ble_eq_true rfl, Nat.le_of_ble_eq_true rfl⟩ ⟨Nat.le_of_ble_eq_true rfl, Nat.le_of_ble_eq_true rfl⟩ (fun u4 H locs hw4 hP hD hS => ?_)
  obtain ⟨fx2_5, rfl⟩ : ∃ z, z = u4 := ⟨_, rfl⟩
  have hP : va_P D vwCl [(te0, .inr (10, [.ref ta0, sv1, .ref h0, .ref h9, sv4, .int 0, .int 0, sv7, .int 0, .int (-1)])), (h1, .inl (cy 1, 4, .inl (fun _ => 0))), (h9, .inr (3, [ya0, ya1, .int 0, .int 0])), (h10, .inr (3, [yb0, yb1, .int 0, .int 0])), (h11, .inr (3, [yc0, yc1, .int 0, .int 0])), (ta0, .inr (9, [tv0, tv1, .int 0, .int 0, .int 0, .int 0, tv6, tv7])), (h0, .inr (4, [.ref h1, v1, v2, v3, v4, v5, .ref h7, v7, .ref h9, .ref h10, .ref h11, .int 0, .int 0, .int 0, .int 0, .int 0])), (h7, .inl (cy 1, 48, .inl (fx2_5)))] H := hP
  have hD : va_D A [(te0, .inr (10, [.ref ta0, sv1, .ref h0, .ref h9, sv4, .int 0, .int 0, sv7, .int 0, .int (-1)])), (h1, .inl (cy 1, 4, .inl (fun _ => 0))), (h9, .inr (3, [ya0, ya1, .int 0, .int 0])), (h10, .inr (3, [yb0, yb1, .int 0, .int 0])), (h11, .inr (3, [yc0, yc1, .int 0, .int 0])), (ta0, .inr (9, [tv0, tv1, .int 0, .int 0, .int 0, .int 0, tv6, tv7])), (h0, .inr (4, [.ref h1, v1, v2, v3, v4, v5, .ref h7, v7, .ref h9, .ref h10, .ref h11, .int 0, .int 0, .int 0, .int 0, .int 0])), (h7, .inl (cy 1, 48, .inl (fx2_5)))] := hD
  refine W.widen (k := 0) (n := 0) (Nat.le_of_ble_eq_true rfl) (Nat.le_of_ble_eq_true rfl) ?_
  refine lv_iload_n hx hb dX10_tell_84 rfl (lv_at hl 1 rfl) ?_
  exact x_zret hQ hx hb hr hlocks hK hP hD hS rfl dX10_tell_85 fx2_5 (rfl) [5, 6, 1, 7] (by decide) rfl (Nat.le_of_ble_eq_true rfl) (Nat.le_of_ble_eq_true rfl)
theorem dX5_forgetActs_0 : decode cX5_forgetActs 0 = .ok (.aload_n 0, 1) := by decide +kernel
theorem dX5_forgetActs_1 : decode cX5_forgetActs 1 = .ok (.iconst 0, 1) := by decide +kernel
theorem dX5_forgetActs_2 : decode cX5_forgetActs 2 = .ok (.putfield 42, 3) := by decide +kernel
theorem dX5_forgetActs_5 : decode cX5_forgetActs 5 = .ok (.aload_n 0, 1) := by decide +kernel
theorem dX5_forgetActs_6 : decode cX5_forgetActs 6 = .ok (.iconst 0, 1) := by decide +kernel
theorem dX5_forgetActs_7 : decode cX5_forgetActs 7 = .ok (.putfield 45, 3) := by decide +kernel
theorem dX5_forgetActs_10 : decode cX5_forgetActs 10 = .ok (.aload_n 0, 1) := by decide +kernel
theorem dX5_forgetActs_11 : decode cX5_forgetActs 11 = .ok (.iconst 0, 1) := by decide +kernel
theorem dX5_forgetActs_12 : decode cX5_forgetActs 12 = .ok (.putfield 48, 3) := by decide +kernel
theorem dX5_forgetActs_15 : decode cX5_forgetActs 15 = .ok (.aload_n 0, 1) := by decide +kernel
theorem dX5_forgetActs_16 : decode cX5_forgetActs 16 = .ok (.getfield 11, 3) := by decide +kernel
theorem dX5_forgetActs_19 : decode cX5_forgetActs 19 = .ok (.iconst 0, 1) := by decide +kernel
theorem dX5_forgetActs_20 : decode cX5_forgetActs 20 = .ok (.aload_n 0, 1) := by decide +kernel
theorem dX5_forgetActs_21 : decode cX5_forgetActs 21 = .ok (.getfield 15, 3) := by decide +kernel
theorem dX5_forgetActs_24 : decode cX5_forgetActs 24 = .ok (.iconst 0, 1) := by decide +kernel
theorem dX5_forgetActs_25 : decode cX5_forgetActs 25 = .ok (.bipush 41, 2) := by decide +kernel
theorem dX5_forgetActs_27 : decode cX5_forgetActs 27 = .ok (.invokestatic 51, 3) := by decide +kernel
theorem dX5_forgetActs_30 : decode cX5_forgetActs 30 = .ok (.return_, 1) := by decide +kernel
set_option maxHeartbeats 400000 in
set_option maxRecDepth 100000 in
theorem c_forgetActs (l : Launch) (D : va_G) (cy : Nat → ClassId) (n0 : Nat) (n1 : Nat) (n2 : Nat) (n3 : Nat) (z3 : Value) (z4 : Value) (z5 : Value) (z6 : Value) (fn : Nat → Int32) (fr : Nat → Int32)  : XMv l D (tyL cy) E0 yX5_forgetActs cX5_forgetActs 1 none (rmk 1 0 0) [.ref n0] [(n0, .inr (5, [.ref n1, .ref n2, .ref n3, z3, z4, z5, z6])), (n1, .inl (cy 1, 41, .inl (fn))), (n2, .inl (cy 1, 1681, .inl (fr)))] (fun (fr2 : Nat → Int32) => True) (fun (fr2 : Nat → Int32) => [(n0, .inr (5, [.ref n1, .ref n2, .ref n3, z3, .int 0, .int 0, .int 0])), (n1, .inl (cy 1, 41, .inl (fn))), (n2, .inl (cy 1, 1681, .inl (fr2)))]) := by
  refine XMv.start (by decide) (Nat.le_of_ble_eq_true rfl) ?_
  intro p e s m below meth c args A ls Q hat hQ
  obtain ⟨hx, hb, hr, hml, hown, hg, hlocks, hin, hK, hA, hP, hD, hS, hE, hl⟩ := hat
  have hown : s.vm.findClass RX5 = some m.cls := hown
  have hl : lv_has ls 1 [(0, .ref n0)] := hl
  refine lv_aload_n hx hb dX5_forgetActs_0 rfl (lv_at hl 0 rfl) ?_
  refine lv_iconst (v := 0) hx hb dX5_forgetActs_1 (by decide) ?_
  refine va_put (D := D) (ci := 5) (v := .int 0) (ty := .int) (C := RX5) (T := TX5) (N := 7) hx hb hg i_X5 tyX5 tyX5_ok nmX5 hown hK hP hD hS 0 rfl rfl 4 (by decide) (hg _ m_428) (fun _ h9 => h9) rfl (by decide +kernel) rfl rfl (Nat.le_of_ble_eq_true rfl) dX5_forgetActs_2 (fun H locs hP hD hS => ?_)
  have hP : va_P D vwCl [(n0, .inr (5, [.ref n1, .ref n2, .ref n3, z3, .int 0, z5, z6])), (n1, .inl (cy 1, 41, .inl (fn))), (n2, .inl (cy 1, 1681, .inl (fr)))] H := hP
  have hD : va_D A [(n0, .inr (5, [.ref n1, .ref n2, .ref n3, z3, .int 0, z5, z6])), (n1, .inl (cy 1, 41, .inl (fn))), (n2, .inl (cy 1, 1681, .inl (fr)))] := hD
  refine lv_aload_n hx hb dX5_forgetActs_5 rfl (lv_at hl 0 rfl) ?_
  refine lv_iconst (v := 0) hx hb dX5_forgetActs_6 (by decide) ?_
  refine va_put (D := D) (ci := 5) (v := .int 0) (ty := .int) (C := RX5) (T := TX5) (N := 7) hx hb hg i_X5 tyX5 tyX5_ok nmX5 hown hK hP hD hS 0 rfl rfl 5 (by decide) (hg _ m_429) (fun _ h9 => h9) rfl (by decide +kernel) rfl rfl (Nat.le_of_ble_eq_true rfl) dX5_forgetActs_7 (fun H locs hP hD hS => ?_)
  have hP : va_P D vwCl [(n0, .inr (5, [.ref n1, .ref n2, .ref n3, z3, .int 0, .int 0, z6])), (n1, .inl (cy 1, 41, .inl (fn))), (n2, .inl (cy 1, 1681, .inl (fr)))] H := hP
  have hD : va_D A [(n0, .inr (5, [.ref n1, .ref n2, .ref n3, z3, .int 0, .int 0, z6])), (n1, .inl (cy 1, 41, .inl (fn))), (n2, .inl (cy 1, 1681, .inl (fr)))] := hD
  refine lv_aload_n hx hb dX5_forgetActs_10 rfl (lv_at hl 0 rfl) ?_
  refine lv_iconst (v := 0) hx hb dX5_forgetActs_11 (by decide) ?_
  refine va_put (D := D) (ci := 5) (v := .int 0) (ty := .int) (C := RX5) (T := TX5) (N := 7) hx hb hg i_X5 tyX5 tyX5_ok nmX5 hown hK hP hD hS 0 rfl rfl 6 (by decide) (hg _ m_431) (fun _ h9 => h9) rfl (by decide +kernel) rfl rfl (Nat.le_of_ble_eq_true rfl) dX5_forgetActs_12 (fun H locs hP hD hS => ?_)
  have hP : va_P D vwCl [(n0, .inr (5, [.ref n1, .ref n2, .ref n3, z3, .int 0, .int 0, .int 0])), (n1, .inl (cy 1, 41, .inl (fn))), (n2, .inl (cy 1, 1681, .inl (fr)))] H := hP
  have hD : va_D A [(n0, .inr (5, [.ref n1, .ref n2, .ref n3, z3, .int 0, .int 0, .int 0])), (n1, .inl (cy 1, 41, .inl (fn))), (n2, .inl (cy 1, 1681, .inl (fr)))] := hD
  refine lv_aload_n hx hb dX5_forgetActs_15 rfl (lv_at hl 0 rfl) ?_
  refine va_get (D := D) (ci := 5) (v := .ref n1) (C := RX5) (T := TX5) (N := 7) hx hb hg i_X5 hown hK hP 0 rfl rfl 0 (by decide) (hg _ m_423) (fun _ h9 => h9) rfl dX5_forgetActs_16 ?_
  refine lv_iconst (v := 0) hx hb dX5_forgetActs_19 (by decide) ?_
  refine lv_aload_n hx hb dX5_forgetActs_20 rfl (lv_at hl 0 rfl) ?_
  refine va_get (D := D) (ci := 5) (v := .ref n2) (C := RX5) (T := TX5) (N := 7) hx hb hg i_X5 hown hK hP 0 rfl rfl 1 (by decide) (hg _ m_425) (fun _ h9 => h9) rfl dX5_forgetActs_21 ?_
  refine lv_iconst (v := 0) hx hb dX5_forgetActs_24 (by decide) ?_
  refine lv_bipush (v := 41) hx hb dX5_forgetActs_25 (by decide) ?_
  refine va_copyi hx hb (hml.trans hl.1.symm) hown (hg _ m_934) (hg _ m_936) (hg _ m_935) (hg _ m_149) hK hP hD hS 1 2 1 1 rfl rfl rfl rfl rfl (by decide) (by decide) (by decide) (by decide) (by decide) (fun _ _ => rfl) (by decide) (Nat.le_of_ble_eq_true rfl) dX5_forgetActs_27 (fun H locs hP hD hS => ?_)
  obtain ⟨g_1, eg_1⟩ : ∃ y, va_cpy (fn) (fr) (0 : Int32).toNatClampNeg (0 : Int32).toNatClampNeg (41 : Int32).toNatClampNeg = y := ⟨_, rfl⟩
  rw [eg_1] at hP hD
  have hP : va_P D vwCl [(n0, .inr (5, [.ref n1, .ref n2, .ref n3, z3, .int 0, .int 0, .int 0])), (n1, .inl (cy 1, 41, .inl (fn))), (n2, .inl (cy 1, 1681, .inl (g_1)))] H := hP
  have hD : va_D A [(n0, .inr (5, [.ref n1, .ref n2, .ref n3, z3, .int 0, .int 0, .int 0])), (n1, .inl (cy 1, 41, .inl (fn))), (n2, .inl (cy 1, 1681, .inl (g_1)))] := hD
  exact x_vret hQ hx hb hr hlocks hK hP hD hS dX5_forgetActs_30 g_1 (trivial) [0, 1, 2] (by decide) rfl (Nat.le_of_ble_eq_true rfl) (Nat.le_of_ble_eq_true rfl)
theorem dX5_begin_0 : decode cX5_begin 0 = .ok (.iconst 0, 1) := by decide +kernel
theorem dX5_begin_1 : decode cX5_begin 1 = .ok (.istore_n 2, 1) := by decide +kernel
theorem dX5_begin_2 : decode cX5_begin 2 = .ok (.iload_n 2, 1) := by decide +kernel
theorem dX5_begin_3 : decode cX5_begin 3 = .ok (.bipush 41, 2) := by decide +kernel
theorem dX5_begin_5 : decode cX5_begin 5 = .ok (.if_icmp .ge 16, 3) := by decide +kernel
theorem dX5_begin_21 : decode cX5_begin 21 = .ok (.aload_n 0, 1) := by decide +kernel
theorem dX5_begin_22 : decode cX5_begin 22 = .ok (.getfield 11, 3) := by decide +kernel
theorem dX5_begin_25 : decode cX5_begin 25 = .ok (.bipush 22, 2) := by decide +kernel
theorem dX5_begin_27 : decode cX5_begin 27 = .ok (.aload_n 1, 1) := by decide +kernel
theorem dX5_begin_28 : decode cX5_begin 28 = .ok (.getfield 21, 3) := by decide +kernel
theorem m_374 : (Cond.fieldLink RX5 21 "CliffJudges$Hills" "wind" "I") ∈ gT := gm 374 (by decide +kernel) (by decide +kernel)
theorem dX5_begin_31 : decode cX5_begin 31 = .ok (.iastore, 1) := by decide +kernel
theorem dX5_begin_32 : decode cX5_begin 32 = .ok (.aload_n 0, 1) := by decide +kernel
theorem dX5_begin_33 : decode cX5_begin 33 = .ok (.getfield 11, 3) := by decide +kernel
theorem dX5_begin_36 : decode cX5_begin 36 = .ok (.bipush 23, 2) := by decide +kernel
theorem dX5_begin_38 : decode cX5_begin 38 = .ok (.aload_n 1, 1) := by decide +kernel
theorem dX5_begin_39 : decode cX5_begin 39 = .ok (.getfield 27, 3) := by decide +kernel
theorem m_378 : (Cond.fieldLink RX5 27 "CliffJudges$Hills" "draw" "I") ∈ gT := gm 378 (by decide +kernel) (by decide +kernel)
theorem dX5_begin_42 : decode cX5_begin 42 = .ok (.iastore, 1) := by decide +kernel
theorem dX5_begin_43 : decode cX5_begin 43 = .ok (.iconst 0, 1) := by decide +kernel
theorem dX5_begin_44 : decode cX5_begin 44 = .ok (.istore_n 2, 1) := by decide +kernel
theorem dX5_begin_45 : decode cX5_begin 45 = .ok (.iload_n 2, 1) := by decide +kernel
theorem dX5_begin_46 : decode cX5_begin 46 = .ok (.aload_n 1, 1) := by decide +kernel
theorem dX5_begin_47 : decode cX5_begin 47 = .ok (.getfield 30, 3) := by decide +kernel
theorem m_332 : (Cond.fieldLink RX5 30 "CliffJudges$Hills" "counts" "[I") ∈ gT := gm 332 (by decide +kernel) (by decide +kernel)
theorem dX5_begin_50 : decode cX5_begin 50 = .ok (.iconst 1, 1) := by decide +kernel
theorem dX5_begin_51 : decode cX5_begin 51 = .ok (.iaload, 1) := by decide +kernel
theorem dX5_begin_52 : decode cX5_begin 52 = .ok (.if_icmp .ge 24, 3) := by decide +kernel
theorem dX5_begin_76 : decode cX5_begin 76 = .ok (.aload_n 0, 1) := by decide +kernel
theorem dX5_begin_77 : decode cX5_begin 77 = .ok (.iconst 0, 1) := by decide +kernel
theorem dX5_begin_78 : decode cX5_begin 78 = .ok (.putfield 36, 3) := by decide +kernel
theorem dX5_begin_81 : decode cX5_begin 81 = .ok (.aload_n 0, 1) := by decide +kernel
theorem dX5_begin_82 : decode cX5_begin 82 = .ok (.invokevirtual 39, 3) := by decide +kernel
theorem m_930 : (Cond.methodLink RX5 39 yX5_forgetActs) ∈ gT := gm 930 (by decide +kernel) (by decide +kernel)
theorem m_932 : (Cond.instanceMethod yX5_forgetActs) ∈ gT := gm 932 (by decide +kernel) (by decide +kernel)
theorem m_29 : (Cond.selects RX5 yX5_forgetActs yX5_forgetActs) ∈ gT := gm 29 (by decide +kernel) (by decide +kernel)
theorem m_933 : (Cond.code yX5_forgetActs cX5_forgetActs 1 none) ∈ gT := gm 933 (by decide +kernel) (by decide +kernel)
theorem k_X5_39 : xV RX5 RX5 39 yX5_forgetActs cX5_forgetActs 1 none 0 := ⟨⟨m_930, m_932, m_29, m_139, m_933⟩, rfl, by decide, by decide, by decide +kernel⟩
theorem dX5_begin_85 : decode cX5_begin 85 = .ok (.return_, 1) := by decide +kernel
theorem dX5_begin_8 : decode cX5_begin 8 = .ok (.aload_n 0, 1) := by decide +kernel
theorem dX5_begin_9 : decode cX5_begin 9 = .ok (.getfield 11, 3) := by decide +kernel
theorem dX5_begin_12 : decode cX5_begin 12 = .ok (.iload_n 2, 1) := by decide +kernel
theorem dX5_begin_13 : decode cX5_begin 13 = .ok (.iconst 0, 1) := by decide +kernel
theorem dX5_begin_14 : decode cX5_begin 14 = .ok (.iastore, 1) := by decide +kernel
theorem dX5_begin_15 : decode cX5_begin 15 = .ok (.iinc 2 1, 3) := by decide +kernel
theorem dX5_begin_18 : decode cX5_begin 18 = .ok (.goto (-16), 3) := by decide +kernel
set_option maxHeartbeats 400000 in
set_option maxRecDepth 100000 in
theorem c_begin0 (l : Launch) (D : va_G) (cy : Nat → ClassId) (n0 : Nat) (n1 : Nat) (n2 : Nat) (n3 : Nat) (z3 : Value) (z4 : Value) (z5 : Value) (z6 : Value) (h0 : Nat) (h1 : Nat) (v1 : Value) (v2 : Value) (v3 : Value) (v4 : Value) (v5 : Value) (v6 : Value) (v7 : Value) (v8 : Value) (v9 : Value) (v10 : Value) (fr : Nat → Int32)  : XMv l D (tyL cy) E0 yX5_begin cX5_begin 3 none (rmk 2 0 0) [.ref n0, .ref h0] [(n0, .inr (5, [.ref n1, .ref n2, .ref n3, z3, z4, z5, z6])), (n1, .inl (cy 1, 41, .inl (fun _ => 0))), (n2, .inl (cy 1, 1681, .inl (fr))), (h0, .inr (4, [.ref h1, v1, v2, v3, v4, v5, v6, v7, v8, v9, v10, .int 0, .int 0, .int 0, .int 0, .int 0])), (h1, .inl (cy 1, 4, .inl (fun _ => 0)))] (fun (fr2 : Nat → Int32) => True) (fun (fr2 : Nat → Int32) => [(n0, .inr (5, [.ref n1, .ref n2, .ref n3, .int 0, .int 0, .int 0, .int 0])), (n1, .inl (cy 1, 41, .inl (fun _ => 0))), (n2, .inl (cy 1, 1681, .inl (fr2))), (h0, .inr (4, [.ref h1, v1, v2, v3, v4, v5, v6, v7, v8, v9, v10, .int 0, .int 0, .int 0, .int 0, .int 0])), (h1, .inl (cy 1, 4, .inl (fun _ => 0)))]) := by
  refine XMv.start (by decide) (Nat.le_of_ble_eq_true rfl) ?_
  intro p e s m below meth c args A ls Q hat hQ
  obtain ⟨hx, hb, hr, hml, hown, hg, hlocks, hin, hK, hA, hP, hD, hS, hE, hl⟩ := hat
  have hown : s.vm.findClass RX5 = some m.cls := hown
  have hl : lv_has ls 3 [(0, .ref n0), (1, .ref h0)] := hl
  refine lv_iconst (v := 0) hx hb dX5_begin_0 (by decide) ?_
  refine lv_istore_n (lv' := [(2, .int 0), (0, .ref n0), (1, .ref h0)]) hx hb dX5_begin_1 rfl hl (by decide) rfl (fun ls hl => ?_)
  have loop1 : ∀ (n i1 : Nat), i1 ≤ 41 → 42 ≤ i1 + n → ∀ (H : Heap) (locs : List Loc), va_P D vwCl [(n0, .inr (5, [.ref n1, .ref n2, .ref n3, z3, z4, z5, z6])), (n1, .inl (cy 1, 41, .inl (fun _ => 0))), (n2, .inl (cy 1, 1681, .inl (fr))), (h0, .inr (4, [.ref h1, v1, v2, v3, v4, v5, v6, v7, v8, v9, v10, .int 0, .int 0, .int 0, .int 0, .int 0])), (h1, .inl (cy 1, 4, .inl (fun _ => 0)))] H → va_D A [(n0, .inr (5, [.ref n1, .ref n2, .ref n3, z3, z4, z5, z6])), (n1, .inl (cy 1, 41, .inl (fun _ => 0))), (n2, .inl (cy 1, 1681, .inl (fr))), (h0, .inr (4, [.ref h1, v1, v2, v3, v4, v5, v6, v7, v8, v9, v10, .int 0, .int 0, .int 0, .int 0, .int 0])), (h1, .inl (cy 1, 4, .inl (fun _ => 0)))] → va_S A s.heap H locs → ∀ ls : Array Slot, lv_has ls 3 [(2, .int (nI i1)), (0, .ref n0), (1, .ref h0)] → W p l e (rmk 2 0 0) s m args below meth c H locs 0 0 Q (F0 m 2 ls []) := by
    intro n
    induction n with
    | zero => intro i1 h1 h2; exact absurd h2 (by omega)
    | succ n ih =>
      intro i1 hi1 hn1  H locs hP hD hS ls hl
      have ih1 := ih
      refine lv_iload_n hx hb dX5_begin_2 rfl (lv_at hl 0 rfl) ?_
      refine lv_bipush (v := 41) hx hb dX5_begin_3 (by decide) ?_
      refine lv_icmp_ge (tgt := 21) hx hb dX5_begin_5 (by decide) (fun c1 => ?_) (fun c1 => ?_)
      · have hend1 : i1 = 41 := lp_end (N := 41) (by decide) hi1 (by decide) c1
        subst hend1
        refine lv_aload_n hx hb dX5_begin_21 rfl (lv_at hl 1 rfl) ?_
        refine va_get (D := D) (ci := 5) (v := .ref n1) (C := RX5) (T := TX5) (N := 7) hx hb hg i_X5 hown hK hP 0 rfl rfl 0 (by decide) (hg _ m_423) (fun _ h9 => h9) rfl dX5_begin_22 ?_
        refine lv_bipush (v := 22) hx hb dX5_begin_25 (by decide) ?_
        refine lv_aload_n hx hb dX5_begin_27 rfl (lv_at hl 2 rfl) ?_
        refine va_get (D := D) (ci := 4) (v := .int 0) (C := RX4) (T := TX4) (N := 16) hx hb hg i_X4 hown hK hP 3 rfl rfl 13 (by decide) (hg _ m_374) (fun _ h9 => h9) rfl dX5_begin_28 ?_
        refine va_iast hx hb hK hP hD hS 1 1 rfl rfl (by unfold vp_in; decide) dX5_begin_31 (fun H locs hP hD hS => ?_)
        rw [upd_z] at hP hD
        have hP : va_P D vwCl [(n0, .inr (5, [.ref n1, .ref n2, .ref n3, z3, z4, z5, z6])), (n1, .inl (cy 1, 41, .inl (fun _ => 0))), (n2, .inl (cy 1, 1681, .inl (fr))), (h0, .inr (4, [.ref h1, v1, v2, v3, v4, v5, v6, v7, v8, v9, v10, .int 0, .int 0, .int 0, .int 0, .int 0])), (h1, .inl (cy 1, 4, .inl (fun _ => 0)))] H := hP
        have hD : va_D A [(n0, .inr (5, [.ref n1, .ref n2, .ref n3, z3, z4, z5, z6])), (n1, .inl (cy 1, 41, .inl (fun _ => 0))), (n2, .inl (cy 1, 1681, .inl (fr))), (h0, .inr (4, [.ref h1, v1, v2, v3, v4, v5, v6, v7, v8, v9, v10, .int 0, .int 0, .int 0, .int 0, .int 0])), (h1, .inl (cy 1, 4, .inl (fun _ => 0)))] := hD
        refine lv_aload_n hx hb dX5_begin_32 rfl (lv_at hl 1 rfl) ?_
        refine va_get (D := D) (ci := 5) (v := .ref n1) (C := RX5) (T := TX5) (N := 7) hx hb hg i_X5 hown hK hP 0 rfl rfl 0 (by decide) (hg _ m_423) (fun _ h9 => h9) rfl dX5_begin_33 ?_
        refine lv_bipush (v := 23) hx hb dX5_begin_36 (by decide) ?_
        refine lv_aload_n hx hb dX5_begin_38 rfl (lv_at hl 2 rfl) ?_
        refine va_get (D := D) (ci := 4) (v := .int 0) (C := RX4) (T := TX4) (N := 16) hx hb hg i_X4 hown hK hP 3 rfl rfl 14 (by decide) (hg _ m_378) (fun _ h9 => h9) rfl dX5_begin_39 ?_
        refine va_iast hx hb hK hP hD hS 1 1 rfl rfl (by unfold vp_in; decide) dX5_begin_42 (fun H locs hP hD hS => ?_)
        rw [upd_z] at hP hD
        have hP : va_P D vwCl [(n0, .inr (5, [.ref n1, .ref n2, .ref n3, z3, z4, z5, z6])), (n1, .inl (cy 1, 41, .inl (fun _ => 0))), (n2, .inl (cy 1, 1681, .inl (fr))), (h0, .inr (4, [.ref h1, v1, v2, v3, v4, v5, v6, v7, v8, v9, v10, .int 0, .int 0, .int 0, .int 0, .int 0])), (h1, .inl (cy 1, 4, .inl (fun _ => 0)))] H := hP
        have hD : va_D A [(n0, .inr (5, [.ref n1, .ref n2, .ref n3, z3, z4, z5, z6])), (n1, .inl (cy 1, 41, .inl (fun _ => 0))), (n2, .inl (cy 1, 1681, .inl (fr))), (h0, .inr (4, [.ref h1, v1, v2, v3, v4, v5, v6, v7, v8, v9, v10, .int 0, .int 0, .int 0, .int 0, .int 0])), (h1, .inl (cy 1, 4, .inl (fun _ => 0)))] := hD
        refine lv_iconst (v := 0) hx hb dX5_begin_43 (by decide) ?_
        refine lv_istore_n (lv' := [(2, .int 0), (0, .ref n0), (1, .ref h0)]) hx hb dX5_begin_44 rfl hl (by decide) rfl (fun ls hl => ?_)
        refine lv_iload_n hx hb dX5_begin_45 rfl (lv_at hl 0 rfl) ?_
        refine lv_aload_n hx hb dX5_begin_46 rfl (lv_at hl 2 rfl) ?_
        refine va_get (D := D) (ci := 4) (v := .ref h1) (C := RX4) (T := TX4) (N := 16) hx hb hg i_X4 hown hK hP 3 rfl rfl 0 (by decide) (hg _ m_332) (fun _ h9 => h9) rfl dX5_begin_47 ?_
        refine lv_iconst (v := 1) hx hb dX5_begin_50 (by decide) ?_
        refine va_iald hx hb hK hP 4 1 rfl rfl (by unfold vp_in; decide) dX5_begin_51 ?_
        refine lv_topi (fun y_2 hy_2 => ?_)
        obtain rfl : y_2 = 0 := hy_2.trans (by decide +kernel)
        refine lv_icmp_ge (tgt := 76) hx hb dX5_begin_52 (by decide) (fun _ => ?_) (fun h => absurd (by decide) h)
        refine lv_aload_n hx hb dX5_begin_76 rfl (lv_at hl 1 rfl) ?_
        refine lv_iconst (v := 0) hx hb dX5_begin_77 (by decide) ?_
        refine va_put (D := D) (ci := 5) (v := .int 0) (ty := .int) (C := RX5) (T := TX5) (N := 7) hx hb hg i_X5 tyX5 tyX5_ok nmX5 hown hK hP hD hS 0 rfl rfl 3 (by decide) (hg _ m_427) (fun _ h9 => h9) rfl (by decide +kernel) rfl rfl (Nat.le_of_ble_eq_true rfl) dX5_begin_78 (fun H locs hP hD hS => ?_)
        have hP : va_P D vwCl [(n0, .inr (5, [.ref n1, .ref n2, .ref n3, .int 0, z4, z5, z6])), (n1, .inl (cy 1, 41, .inl (fun _ => 0))), (n2, .inl (cy 1, 1681, .inl (fr))), (h0, .inr (4, [.ref h1, v1, v2, v3, v4, v5, v6, v7, v8, v9, v10, .int 0, .int 0, .int 0, .int 0, .int 0])), (h1, .inl (cy 1, 4, .inl (fun _ => 0)))] H := hP
        have hD : va_D A [(n0, .inr (5, [.ref n1, .ref n2, .ref n3, .int 0, z4, z5, z6])), (n1, .inl (cy 1, 41, .inl (fun _ => 0))), (n2, .inl (cy 1, 1681, .inl (fr))), (h0, .inr (4, [.ref h1, v1, v2, v3, v4, v5, v6, v7, v8, v9, v10, .int 0, .int 0, .int 0, .int 0, .int 0])), (h1, .inl (cy 1, 4, .inl (fun _ => 0)))] := hD
        refine lv_aload_n hx hb dX5_begin_81 rfl (lv_at hl 1 rfl) ?_
        refine x_callVv (q := (RX5, TX5, 7)) (ci := 5) (q0 := 0) (wr := [(h0, .inr (4, [.ref h1, v1, v2, v3, v4, v5, v6, v7, v8, v9, v10, .int 0, .int 0, .int 0, .int 0, .int 0])), (h1, .inl (cy 1, 4, .inl (fun _ => 0)))]) (rest := []) ⟨hx, hb, hml, hown, hg, hl.1⟩ k_X5_39 (c_forgetActs l D cy n0 n1 n2 n3 ((.int 0)) z4 z5 z6 (fun _ => 0) fr) E0_blind hK hP hD hS hA [0, 1, 2] [3, 4] ⟨rfl, rfl, by decide, by decide, by decide⟩ rfl rfl (fun _ _ _ => trivial) dX5_begin_82 rfl rfl (Nat.le_of_ble_eq_true rfl) ⟨Nat.le_of_ble_eq_true rfl, Nat.le_of_ble_eq_true rfl⟩ ⟨Nat.le_of_ble_eq_true rfl, Nat.le_of_ble_eq_true rfl⟩ (fun u3 H locs hw3 hP hD hS => ?_)
        obtain ⟨fr2_4, rfl⟩ : ∃ z, z = u3 := ⟨_, rfl⟩
        have hP : va_P D vwCl [(h0, .inr (4, [.ref h1, v1, v2, v3, v4, v5, v6, v7, v8, v9, v10, .int 0, .int 0, .int 0, .int 0, .int 0])), (h1, .inl (cy 1, 4, .inl (fun _ => 0))), (n0, .inr (5, [.ref n1, .ref n2, .ref n3, .int 0, .int 0, .int 0, .int 0])), (n1, .inl (cy 1, 41, .inl (fun _ => 0))), (n2, .inl (cy 1, 1681, .inl (fr2_4)))] H := hP
        have hD : va_D A [(h0, .inr (4, [.ref h1, v1, v2, v3, v4, v5, v6, v7, v8, v9, v10, .int 0, .int 0, .int 0, .int 0, .int 0])), (h1, .inl (cy 1, 4, .inl (fun _ => 0))), (n0, .inr (5, [.ref n1, .ref n2, .ref n3, .int 0, .int 0, .int 0, .int 0])), (n1, .inl (cy 1, 41, .inl (fun _ => 0))), (n2, .inl (cy 1, 1681, .inl (fr2_4)))] := hD
        refine W.widen (k := 0) (n := 0) (Nat.le_of_ble_eq_true rfl) (Nat.le_of_ble_eq_true rfl) ?_
        exact x_vret hQ hx hb hr hlocks hK hP hD hS dX5_begin_85 fr2_4 (trivial) [2, 3, 4, 0, 1] (by decide) rfl (Nat.le_of_ble_eq_true rfl) (Nat.le_of_ble_eq_true rfl)
      · have hlt1 : i1 < 41 := lp_go (by decide) hi1 (by decide) c1
        refine lv_aload_n hx hb dX5_begin_8 rfl (lv_at hl 1 rfl) ?_
        refine va_get (D := D) (ci := 5) (v := .ref n1) (C := RX5) (T := TX5) (N := 7) hx hb hg i_X5 hown hK hP 0 rfl rfl 0 (by decide) (hg _ m_423) (fun _ h9 => h9) rfl dX5_begin_9 ?_
        refine lv_iload_n hx hb dX5_begin_12 rfl (lv_at hl 0 rfl) ?_
        refine lv_iconst (v := 0) hx hb dX5_begin_13 (by decide) ?_
        refine va_iast hx hb hK hP hD hS 1 1 rfl rfl (vp_in_nI (by omega) (by decide)) dX5_begin_14 (fun H locs hP hD hS => ?_)
        rw [upd_z] at hP hD
        have hP : va_P D vwCl [(n0, .inr (5, [.ref n1, .ref n2, .ref n3, z3, z4, z5, z6])), (n1, .inl (cy 1, 41, .inl (fun _ => 0))), (n2, .inl (cy 1, 1681, .inl (fr))), (h0, .inr (4, [.ref h1, v1, v2, v3, v4, v5, v6, v7, v8, v9, v10, .int 0, .int 0, .int 0, .int 0, .int 0])), (h1, .inl (cy 1, 4, .inl (fun _ => 0)))] H := hP
        have hD : va_D A [(n0, .inr (5, [.ref n1, .ref n2, .ref n3, z3, z4, z5, z6])), (n1, .inl (cy 1, 41, .inl (fun _ => 0))), (n2, .inl (cy 1, 1681, .inl (fr))), (h0, .inr (4, [.ref h1, v1, v2, v3, v4, v5, v6, v7, v8, v9, v10, .int 0, .int 0, .int 0, .int 0, .int 0])), (h1, .inl (cy 1, 4, .inl (fun _ => 0)))] := hD
        refine lv_iinc (v := nI (i1 + 1)) (lv' := [(2, .int (nI (i1 + 1))), (0, .ref n0), (1, .ref h0)]) hx hb dX5_begin_15 hl (k := 0) rfl (lp_inc i1) (by decide) rfl (fun ls hl => ?_)
        refine lv_goto (tgt := 2) hx hb dX5_begin_18 (by decide) ?_
        exact ih1 (i1 + 1) (by omega) (by omega)  _ _ (hP.sub [0, 1, 2, 3, 4] rfl) (hD.sub [0, 1, 2, 3, 4] (by decide) rfl) hS ls (lv_sub hl [0, 1, 2] rfl)
  exact loop1 42 0 (by omega) (by omega)  _ _ (hP.sub [0, 1, 2, 3, 4] rfl) (hD.sub [0, 1, 2, 3, 4] (by decide) rfl) hS ls (lv_sub hl [0, 1, 2] rfl)
theorem dX8_forget_0 : decode cX8_forget 0 = .ok (.aload_n 0, 1) := by decide +kernel
theorem dX8_forget_1 : decode cX8_forget 1 = .ok (.iconst 0, 1) := by decide +kernel
theorem dX8_forget_2 : decode cX8_forget 2 = .ok (.putfield 38, 3) := by decide +kernel
theorem dX8_forget_5 : decode cX8_forget 5 = .ok (.return_, 1) := by decide +kernel
set_option maxHeartbeats 400000 in
set_option maxRecDepth 100000 in
theorem c_forget (l : Launch) (D : va_G) (cy : Nat → ClassId) (so0 : Nat) (uv0 : Value) (uv1 : Value) (uv2 : Value) (uv3 : Value) (uv4 : Value) (uv5 : Value) (uv6 : Value) (uv7 : Value) (uv8 : Value) (uv9 : Value) (uv10 : Value) (uv11 : Value) (uv12 : Value)  : XMv l D (tyL cy) E0 yX8_forget cX8_forget 1 none (rmk 0 0 0) [.ref so0] [(so0, .inr (8, [uv0, uv1, uv2, uv3, uv4, uv5, uv6, uv7, uv8, uv9, uv10, uv11, uv12]))] (fun (_ : Unit) => True) (fun (_ : Unit) => []) := by
  refine XMv.start (by decide) (Nat.le_of_ble_eq_true rfl) ?_
  intro p e s m below meth c args A ls Q hat hQ
  obtain ⟨hx, hb, hr, hml, hown, hg, hlocks, hin, hK, hA, hP, hD, hS, hE, hl⟩ := hat
  have hown : s.vm.findClass RX8 = some m.cls := hown
  have hl : lv_has ls 1 [(0, .ref so0)] := hl
  refine lv_aload_n hx hb dX8_forget_0 rfl (lv_at hl 0 rfl) ?_
  refine lv_iconst (v := 0) hx hb dX8_forget_1 (by decide) ?_
  refine va_put (D := D) (ci := 8) (v := .int 0) (ty := .int) (C := RX8) (T := TX8) (N := 13) hx hb hg i_X8 tyX8 tyX8_ok nmX8 hown hK hP hD hS 0 rfl rfl 8 (by decide) (hg _ m_462) (fun _ h9 => h9) rfl (by decide +kernel) rfl rfl (Nat.le_of_ble_eq_true rfl) dX8_forget_2 (fun H locs hP hD hS => ?_)
  have hP : va_P D vwCl [(so0, .inr (8, [uv0, uv1, uv2, uv3, uv4, uv5, uv6, uv7, .int 0, uv9, uv10, uv11, uv12]))] H := hP
  have hD : va_D A [(so0, .inr (8, [uv0, uv1, uv2, uv3, uv4, uv5, uv6, uv7, .int 0, uv9, uv10, uv11, uv12]))] := hD
  exact x_vret hQ hx hb hr hlocks hK hP hD hS dX8_forget_5 () (trivial) [] (by decide) rfl (Nat.le_of_ble_eq_true rfl) (Nat.le_of_ble_eq_true rfl)
theorem dX11_hills_0 : decode cX11_hills 0 = .ok (.aload_n 0, 1) := by decide +kernel
theorem dX11_hills_1 : decode cX11_hills 1 = .ok (.getfield 21, 3) := by decide +kernel
theorem dX11_hills_4 : decode cX11_hills 4 = .ok (.aload_n 0, 1) := by decide +kernel
theorem dX11_hills_5 : decode cX11_hills 5 = .ok (.getfield 32, 3) := by decide +kernel
theorem m_661 : (Cond.fieldLink RX11 32 "CliffJudges" "spare" "LCliffJudges$Hills;") ∈ gT := gm 661 (by decide +kernel) (by decide +kernel)
theorem dX11_hills_8 : decode cX11_hills 8 = .ok (.invokevirtual 100, 3) := by decide +kernel
theorem m_717 : (Cond.methodLink RX11 100 yX10_tell) ∈ gT := gm 717 (by decide +kernel) (by decide +kernel)
theorem m_718 : (Cond.instanceMethod yX10_tell) ∈ gT := gm 718 (by decide +kernel) (by decide +kernel)
theorem m_719 : (Cond.selects RX10 yX10_tell yX10_tell) ∈ gT := gm 719 (by decide +kernel) (by decide +kernel)
theorem m_136 : (Cond.initialized RX10) ∈ gT := gm 136 (by decide +kernel) (by decide +kernel)
theorem m_720 : (Cond.code yX10_tell cX10_tell 4 (some .boolean)) ∈ gT := gm 720 (by decide +kernel) (by decide +kernel)
theorem k_X11_100 : xV RX11 RX10 100 yX10_tell cX10_tell 4 (some .boolean) 1 := ⟨⟨m_717, m_718, m_719, m_136, m_720⟩, rfl, by decide, by decide, by decide +kernel⟩
theorem dX11_hills_11 : decode cX11_hills 11 = .ok (.istore_n 1, 1) := by decide +kernel
theorem dX11_hills_12 : decode cX11_hills 12 = .ok (.aload_n 0, 1) := by decide +kernel
theorem dX11_hills_13 : decode cX11_hills 13 = .ok (.getfield 10, 3) := by decide +kernel
theorem dX11_hills_16 : decode cX11_hills 16 = .ok (.iconst 0, 1) := by decide +kernel
theorem dX11_hills_17 : decode cX11_hills 17 = .ok (.putfield 93, 3) := by decide +kernel
theorem dX11_hills_20 : decode cX11_hills 20 = .ok (.iload_n 1, 1) := by decide +kernel
theorem dX11_hills_21 : decode cX11_hills 21 = .ok (.ifCond .ne 5, 3) := by decide +kernel
theorem dX11_hills_26 : decode cX11_hills 26 = .ok (.aload_n 0, 1) := by decide +kernel
theorem dX11_hills_27 : decode cX11_hills 27 = .ok (.getfield 28, 3) := by decide +kernel
theorem dX11_hills_30 : decode cX11_hills 30 = .ok (.astore_n 2, 1) := by decide +kernel
theorem dX11_hills_31 : decode cX11_hills 31 = .ok (.aload_n 0, 1) := by decide +kernel
theorem dX11_hills_32 : decode cX11_hills 32 = .ok (.aload_n 0, 1) := by decide +kernel
theorem dX11_hills_33 : decode cX11_hills 33 = .ok (.getfield 32, 3) := by decide +kernel
theorem dX11_hills_36 : decode cX11_hills 36 = .ok (.putfield 28, 3) := by decide +kernel
theorem dX11_hills_39 : decode cX11_hills 39 = .ok (.aload_n 0, 1) := by decide +kernel
theorem dX11_hills_40 : decode cX11_hills 40 = .ok (.aload_n 2, 1) := by decide +kernel
theorem dX11_hills_41 : decode cX11_hills 41 = .ok (.putfield 32, 3) := by decide +kernel
theorem dX11_hills_44 : decode cX11_hills 44 = .ok (.aload_n 0, 1) := by decide +kernel
theorem dX11_hills_45 : decode cX11_hills 45 = .ok (.getfield 38, 3) := by decide +kernel
theorem dX11_hills_48 : decode cX11_hills 48 = .ok (.aload_n 0, 1) := by decide +kernel
theorem dX11_hills_49 : decode cX11_hills 49 = .ok (.getfield 28, 3) := by decide +kernel
theorem dX11_hills_52 : decode cX11_hills 52 = .ok (.invokevirtual 104, 3) := by decide +kernel
theorem m_926 : (Cond.methodLink RX11 104 yX5_begin) ∈ gT := gm 926 (by decide +kernel) (by decide +kernel)
theorem m_927 : (Cond.instanceMethod yX5_begin) ∈ gT := gm 927 (by decide +kernel) (by decide +kernel)
theorem m_928 : (Cond.selects RX5 yX5_begin yX5_begin) ∈ gT := gm 928 (by decide +kernel) (by decide +kernel)
theorem m_929 : (Cond.code yX5_begin cX5_begin 3 none) ∈ gT := gm 929 (by decide +kernel) (by decide +kernel)
theorem k_X11_104 : xV RX11 RX5 104 yX5_begin cX5_begin 3 none 1 := ⟨⟨m_926, m_927, m_928, m_139, m_929⟩, rfl, by decide, by decide, by decide +kernel⟩
theorem dX11_hills_55 : decode cX11_hills 55 = .ok (.aload_n 0, 1) := by decide +kernel
theorem dX11_hills_56 : decode cX11_hills 56 = .ok (.getfield 45, 3) := by decide +kernel
theorem dX11_hills_59 : decode cX11_hills 59 = .ok (.invokevirtual 108, 3) := by decide +kernel
theorem m_937 : (Cond.methodLink RX11 108 yX8_forget) ∈ gT := gm 937 (by decide +kernel) (by decide +kernel)
theorem m_938 : (Cond.instanceMethod yX8_forget) ∈ gT := gm 938 (by decide +kernel) (by decide +kernel)
theorem m_939 : (Cond.selects RX8 yX8_forget yX8_forget) ∈ gT := gm 939 (by decide +kernel) (by decide +kernel)
theorem m_940 : (Cond.code yX8_forget cX8_forget 1 none) ∈ gT := gm 940 (by decide +kernel) (by decide +kernel)
theorem k_X11_108 : xV RX11 RX8 108 yX8_forget cX8_forget 1 none 0 := ⟨⟨m_937, m_938, m_939, m_140, m_940⟩, rfl, by decide, by decide, by decide +kernel⟩
theorem dX11_hills_62 : decode cX11_hills 62 = .ok (.aload_n 0, 1) := by decide +kernel
theorem dX11_hills_63 : decode cX11_hills 63 = .ok (.iconst 0, 1) := by decide +kernel
theorem dX11_hills_64 : decode cX11_hills 64 = .ok (.putfield 89, 3) := by decide +kernel
theorem dX11_hills_67 : decode cX11_hills 67 = .ok (.aload_n 0, 1) := by decide +kernel
theorem dX11_hills_68 : decode cX11_hills 68 = .ok (.getfield 28, 3) := by decide +kernel
theorem dX11_hills_71 : decode cX11_hills 71 = .ok (.getfield 111, 3) := by decide +kernel
theorem dX11_hills_74 : decode cX11_hills 74 = .ok (.iconst 1, 1) := by decide +kernel
theorem dX11_hills_75 : decode cX11_hills 75 = .ok (.iaload, 1) := by decide +kernel
theorem dX11_hills_76 : decode cX11_hills 76 = .ok (.ireturn, 1) := by decide +kernel
set_option maxHeartbeats 400000 in
set_option maxRecDepth 100000 in
theorem t_hills (l : Launch) (D : va_G) (cy : Nat → ClassId) (a0 : Nat) (w6 : Value) (w7 : Value) (w8 : Value) (w9 : Value) (w10 : Value) (w11 : Value) (w12 : Value) (w13 : Value) (g0 : Nat) (te0 : Nat) (sv1 : Value) (sv2 : Value) (sv3 : Value) (sv4 : Value) (sv5 : Value) (sv6 : Value) (sv7 : Value) (sv8 : Value) (sv9 : Value) (ta0 : Nat) (tv0 : Value) (tv1 : Value) (tv6 : Value) (tv7 : Value) (tv3 : Value) (tv4 : Value) (tv5 : Value) (h0 : Nat) (h1 : Nat) (h7 : Nat) (h9 : Nat) (h10 : Nat) (h11 : Nat) (v1 : Value) (v2 : Value) (v3 : Value) (v4 : Value) (v5 : Value) (v7 : Value) (v11 : Value) (v12 : Value) (v13 : Value) (v14 : Value) (v15 : Value) (ya0 : Value) (ya1 : Value) (ya2 : Value) (ya3 : Value) (yb0 : Value) (yb1 : Value) (yb2 : Value) (yb3 : Value) (yc0 : Value) (yc1 : Value) (yc2 : Value) (yc3 : Value) (fx : Nat → Int32) (n0 : Nat) (n1 : Nat) (n2 : Nat) (n3 : Nat) (z3 : Value) (z4 : Value) (z5 : Value) (z6 : Value) (fr : Nat → Int32) (so0 : Nat) (uv0 : Value) (uv1 : Value) (uv2 : Value) (uv3 : Value) (uv4 : Value) (uv5 : Value) (uv6 : Value) (uv7 : Value) (uv8 : Value) (uv9 : Value) (uv10 : Value) (uv11 : Value) (uv12 : Value)  : XMi l D (tyL cy) E0 yX11_hills cX11_hills 3 (some .int) (rmk 4 0 0) [.ref a0] [(a0, .inr (11, [.ref ta0, .ref te0, .ref g0, .ref h0, .ref n0, .ref so0, w6, w7, w8, w9, w10, w11, w12, w13])), (te0, .inr (10, [.ref ta0, sv1, sv2, sv3, sv4, sv5, sv6, sv7, sv8, sv9])), (ta0, .inr (9, [tv0, tv1, .int 0, tv3, tv4, tv5, tv6, tv7])), (h0, .inr (4, [.ref h1, v1, v2, v3, v4, v5, .ref h7, v7, .ref h9, .ref h10, .ref h11, v11, v12, v13, v14, v15])), (h1, .inl (cy 1, 4, .inl (fun _ => 0))), (h7, .inl (cy 1, 48, .inl (fx))), (h9, .inr (3, [ya0, ya1, ya2, ya3])), (h10, .inr (3, [yb0, yb1, yb2, yb3])), (h11, .inr (3, [yc0, yc1, yc2, yc3])), (n0, .inr (5, [.ref n1, .ref n2, .ref n3, z3, z4, z5, z6])), (n1, .inl (cy 1, 41, .inl (fun _ => 0))), (n2, .inl (cy 1, 1681, .inl (fr))), (so0, .inr (8, [uv0, uv1, uv2, uv3, uv4, uv5, uv6, uv7, uv8, uv9, uv10, uv11, uv12]))] (fun (r : Int32) (_ : Unit) => r = 0) (fun (_ : Unit) => []) := by
  refine XMi.start (by decide) (Nat.le_of_ble_eq_true rfl) ?_
  intro p e s m below meth c args A ls Q hat hQ
  obtain ⟨hx, hb, hr, hml, hown, hg, hlocks, hin, hK, hA, hP, hD, hS, hE, hl⟩ := hat
  have hown : s.vm.findClass RX11 = some m.cls := hown
  have hl : lv_has ls 3 [(0, .ref a0)] := hl
  refine lv_aload_n hx hb dX11_hills_0 rfl (lv_at hl 0 rfl) ?_
  refine va_get (D := D) (ci := 11) (v := .ref te0) (C := RX11) (T := TX11) (N := 14) hx hb hg i_X11 hown hK hP 0 rfl rfl 1 (by decide) (hg _ m_659) (fun _ h9 => h9) rfl dX11_hills_1 ?_
  refine lv_aload_n hx hb dX11_hills_4 rfl (lv_at hl 0 rfl) ?_
  refine va_get (D := D) (ci := 11) (v := .ref h0) (C := RX11) (T := TX11) (N := 14) hx hb hg i_X11 hown hK hP 0 rfl rfl 3 (by decide) (hg _ m_661) (fun _ h9 => h9) rfl dX11_hills_5 ?_
  refine x_callVi (q := (RX10, TX10, 10)) (ci := 10) (q0 := 0) (wr := [(a0, .inr (11, [.ref ta0, .ref te0, .ref g0, .ref h0, .ref n0, .ref so0, w6, w7, w8, w9, w10, w11, w12, w13])), (n0, .inr (5, [.ref n1, .ref n2, .ref n3, z3, z4, z5, z6])), (n1, .inl (cy 1, 41, .inl (fun _ => 0))), (n2, .inl (cy 1, 1681, .inl (fr))), (so0, .inr (8, [uv0, uv1, uv2, uv3, uv4, uv5, uv6, uv7, uv8, uv9, uv10, uv11, uv12]))]) (rest := []) ⟨hx, hb, hml, hown, hg, hl.1⟩ k_X11_100 (c_tell0 l D cy te0 sv1 sv2 sv3 sv4 sv5 sv6 sv7 sv8 sv9 ta0 tv0 tv1 tv6 tv7 tv3 tv4 tv5 h0 h1 h7 h9 h10 h11 v1 v2 v3 v4 v5 v7 v11 v12 v13 v14 v15 ya0 ya1 ya2 ya3 yb0 yb1 yb2 yb3 yc0 yc1 yc2 yc3 fx) E0_blind hK hP hD hS hA [1, 2, 3, 4, 5, 6, 7, 8] [0, 9, 10, 11, 12] ⟨rfl, rfl, by decide, by decide, by decide⟩ rfl rfl (fun _ _ _ => trivial) dX11_hills_8 rfl rfl (Nat.le_of_ble_eq_true rfl) ⟨Nat.le_of_ble_eq_true rfl, Nat.le_of_ble_eq_true rfl⟩ ⟨Nat.le_of_ble_eq_true rfl, Nat.le_of_ble_eq_true rfl⟩ (fun r1 u1 H locs hw1 hP hD hS => ?_)
  obtain ⟨fx2_2, rfl⟩ : ∃ z, z = u1 := ⟨_, rfl⟩
  have hP : va_P D vwCl [(a0, .inr (11, [.ref ta0, .ref te0, .ref g0, .ref h0, .ref n0, .ref so0, w6, w7, w8, w9, w10, w11, w12, w13])), (n0, .inr (5, [.ref n1, .ref n2, .ref n3, z3, z4, z5, z6])), (n1, .inl (cy 1, 41, .inl (fun _ => 0))), (n2, .inl (cy 1, 1681, .inl (fr))), (so0, .inr (8, [uv0, uv1, uv2, uv3, uv4, uv5, uv6, uv7, uv8, uv9, uv10, uv11, uv12])), (ta0, .inr (9, [tv0, tv1, .int 0, .int 0, .int 0, .int 0, tv6, tv7])), (h0, .inr (4, [.ref h1, v1, v2, v3, v4, v5, .ref h7, v7, .ref h9, .ref h10, .ref h11, .int 0, .int 0, .int 0, .int 0, .int 0])), (h1, .inl (cy 1, 4, .inl (fun _ => 0))), (h7, .inl (cy 1, 48, .inl (fx2_2)))] H := hP
  have hD : va_D A [(a0, .inr (11, [.ref ta0, .ref te0, .ref g0, .ref h0, .ref n0, .ref so0, w6, w7, w8, w9, w10, w11, w12, w13])), (n0, .inr (5, [.ref n1, .ref n2, .ref n3, z3, z4, z5, z6])), (n1, .inl (cy 1, 41, .inl (fun _ => 0))), (n2, .inl (cy 1, 1681, .inl (fr))), (so0, .inr (8, [uv0, uv1, uv2, uv3, uv4, uv5, uv6, uv7, uv8, uv9, uv10, uv11, uv12])), (ta0, .inr (9, [tv0, tv1, .int 0, .int 0, .int 0, .int 0, tv6, tv7])), (h0, .inr (4, [.ref h1, v1, v2, v3, v4, v5, .ref h7, v7, .ref h9, .ref h10, .ref h11, .int 0, .int 0, .int 0, .int 0, .int 0])), (h1, .inl (cy 1, 4, .inl (fun _ => 0))), (h7, .inl (cy 1, 48, .inl (fx2_2)))] := hD
  refine W.widen (k := 0) (n := 0) (Nat.le_of_ble_eq_true rfl) (Nat.le_of_ble_eq_true rfl) ?_
  have hw1 : r1 = 1 := hw1
  subst hw1
  refine lv_istore_n (lv' := [(1, .int 1), (0, .ref a0)]) hx hb dX11_hills_11 rfl hl (by decide) rfl (fun ls hl => ?_)
  refine lv_aload_n hx hb dX11_hills_12 rfl (lv_at hl 1 rfl) ?_
  refine va_get (D := D) (ci := 11) (v := .ref ta0) (C := RX11) (T := TX11) (N := 14) hx hb hg i_X11 hown hK hP 0 rfl rfl 0 (by decide) (hg _ m_658) (fun _ h9 => h9) rfl dX11_hills_13 ?_
  refine lv_iconst (v := 0) hx hb dX11_hills_16 (by decide) ?_
  refine va_put (D := D) (ci := 9) (v := .int 0) (ty := .int) (C := RX9) (T := TX9) (N := 8) hx hb hg i_X9 tyX9 tyX9_ok nmX9 hown hK hP hD hS 5 rfl rfl 2 (by decide) (hg _ m_217) (fun _ h9 => h9) rfl (by decide +kernel) rfl rfl (Nat.le_of_ble_eq_true rfl) dX11_hills_17 (fun H locs hP hD hS => ?_)
  have hP : va_P D vwCl [(a0, .inr (11, [.ref ta0, .ref te0, .ref g0, .ref h0, .ref n0, .ref so0, w6, w7, w8, w9, w10, w11, w12, w13])), (n0, .inr (5, [.ref n1, .ref n2, .ref n3, z3, z4, z5, z6])), (n1, .inl (cy 1, 41, .inl (fun _ => 0))), (n2, .inl (cy 1, 1681, .inl (fr))), (so0, .inr (8, [uv0, uv1, uv2, uv3, uv4, uv5, uv6, uv7, uv8, uv9, uv10, uv11, uv12])), (ta0, .inr (9, [tv0, tv1, .int 0, .int 0, .int 0, .int 0, tv6, tv7])), (h0, .inr (4, [.ref h1, v1, v2, v3, v4, v5, .ref h7, v7, .ref h9, .ref h10, .ref h11, .int 0, .int 0, .int 0, .int 0, .int 0])), (h1, .inl (cy 1, 4, .inl (fun _ => 0))), (h7, .inl (cy 1, 48, .inl (fx2_2)))] H := hP
  have hD : va_D A [(a0, .inr (11, [.ref ta0, .ref te0, .ref g0, .ref h0, .ref n0, .ref so0, w6, w7, w8, w9, w10, w11, w12, w13])), (n0, .inr (5, [.ref n1, .ref n2, .ref n3, z3, z4, z5, z6])), (n1, .inl (cy 1, 41, .inl (fun _ => 0))), (n2, .inl (cy 1, 1681, .inl (fr))), (so0, .inr (8, [uv0, uv1, uv2, uv3, uv4, uv5, uv6, uv7, uv8, uv9, uv10, uv11, uv12])), (ta0, .inr (9, [tv0, tv1, .int 0, .int 0, .int 0, .int 0, tv6, tv7])), (h0, .inr (4, [.ref h1, v1, v2, v3, v4, v5, .ref h7, v7, .ref h9, .ref h10, .ref h11, .int 0, .int 0, .int 0, .int 0, .int 0])), (h1, .inl (cy 1, 4, .inl (fun _ => 0))), (h7, .inl (cy 1, 48, .inl (fx2_2)))] := hD
  refine lv_iload_n hx hb dX11_hills_20 rfl (lv_at hl 0 rfl) ?_
  refine lv_if_ne (tgt := 26) hx hb dX11_hills_21 (by decide) (fun _ => ?_) (fun h => absurd h (by decide))
  refine lv_aload_n hx hb dX11_hills_26 rfl (lv_at hl 1 rfl) ?_
  refine va_get (D := D) (ci := 11) (v := .ref g0) (C := RX11) (T := TX11) (N := 14) hx hb hg i_X11 hown hK hP 0 rfl rfl 2 (by decide) (hg _ m_660) (fun _ h9 => h9) rfl dX11_hills_27 ?_
  refine lv_astore_n (lv' := [(2, .ref g0), (1, .int 1), (0, .ref a0)]) hx hb dX11_hills_30 rfl hl (by decide) rfl (fun ls hl => ?_)
  refine lv_aload_n hx hb dX11_hills_31 rfl (lv_at hl 2 rfl) ?_
  refine lv_aload_n hx hb dX11_hills_32 rfl (lv_at hl 2 rfl) ?_
  refine va_get (D := D) (ci := 11) (v := .ref h0) (C := RX11) (T := TX11) (N := 14) hx hb hg i_X11 hown hK hP 0 rfl rfl 3 (by decide) (hg _ m_661) (fun _ h9 => h9) rfl dX11_hills_33 ?_
  refine va_put (D := D) (ci := 11) (v := .ref h0) (ty := .object "CliffJudges$Hills") (C := RX11) (T := TX11) (N := 14) hx hb hg i_X11 tyX11 tyX11_ok nmX11 hown hK hP hD hS 0 rfl rfl 2 (by decide) (hg _ m_660) (fun _ h9 => h9) rfl (by decide +kernel) rfl rfl (Nat.le_of_ble_eq_true rfl) dX11_hills_36 (fun H locs hP hD hS => ?_)
  have hP : va_P D vwCl [(a0, .inr (11, [.ref ta0, .ref te0, .ref h0, .ref h0, .ref n0, .ref so0, w6, w7, w8, w9, w10, w11, w12, w13])), (n0, .inr (5, [.ref n1, .ref n2, .ref n3, z3, z4, z5, z6])), (n1, .inl (cy 1, 41, .inl (fun _ => 0))), (n2, .inl (cy 1, 1681, .inl (fr))), (so0, .inr (8, [uv0, uv1, uv2, uv3, uv4, uv5, uv6, uv7, uv8, uv9, uv10, uv11, uv12])), (ta0, .inr (9, [tv0, tv1, .int 0, .int 0, .int 0, .int 0, tv6, tv7])), (h0, .inr (4, [.ref h1, v1, v2, v3, v4, v5, .ref h7, v7, .ref h9, .ref h10, .ref h11, .int 0, .int 0, .int 0, .int 0, .int 0])), (h1, .inl (cy 1, 4, .inl (fun _ => 0))), (h7, .inl (cy 1, 48, .inl (fx2_2)))] H := hP
  have hD : va_D A [(a0, .inr (11, [.ref ta0, .ref te0, .ref h0, .ref h0, .ref n0, .ref so0, w6, w7, w8, w9, w10, w11, w12, w13])), (n0, .inr (5, [.ref n1, .ref n2, .ref n3, z3, z4, z5, z6])), (n1, .inl (cy 1, 41, .inl (fun _ => 0))), (n2, .inl (cy 1, 1681, .inl (fr))), (so0, .inr (8, [uv0, uv1, uv2, uv3, uv4, uv5, uv6, uv7, uv8, uv9, uv10, uv11, uv12])), (ta0, .inr (9, [tv0, tv1, .int 0, .int 0, .int 0, .int 0, tv6, tv7])), (h0, .inr (4, [.ref h1, v1, v2, v3, v4, v5, .ref h7, v7, .ref h9, .ref h10, .ref h11, .int 0, .int 0, .int 0, .int 0, .int 0])), (h1, .inl (cy 1, 4, .inl (fun _ => 0))), (h7, .inl (cy 1, 48, .inl (fx2_2)))] := hD
  refine lv_aload_n hx hb dX11_hills_39 rfl (lv_at hl 2 rfl) ?_
  refine lv_aload_n hx hb dX11_hills_40 rfl (lv_at hl 0 rfl) ?_
  refine va_put (D := D) (ci := 11) (v := .ref g0) (ty := .object "CliffJudges$Hills") (C := RX11) (T := TX11) (N := 14) hx hb hg i_X11 tyX11 tyX11_ok nmX11 hown hK hP hD hS 0 rfl rfl 3 (by decide) (hg _ m_661) (fun _ h9 => h9) rfl (by decide +kernel) rfl rfl (Nat.le_of_ble_eq_true rfl) dX11_hills_41 (fun H locs hP hD hS => ?_)
  have hP : va_P D vwCl [(a0, .inr (11, [.ref ta0, .ref te0, .ref h0, .ref g0, .ref n0, .ref so0, w6, w7, w8, w9, w10, w11, w12, w13])), (n0, .inr (5, [.ref n1, .ref n2, .ref n3, z3, z4, z5, z6])), (n1, .inl (cy 1, 41, .inl (fun _ => 0))), (n2, .inl (cy 1, 1681, .inl (fr))), (so0, .inr (8, [uv0, uv1, uv2, uv3, uv4, uv5, uv6, uv7, uv8, uv9, uv10, uv11, uv12])), (ta0, .inr (9, [tv0, tv1, .int 0, .int 0, .int 0, .int 0, tv6, tv7])), (h0, .inr (4, [.ref h1, v1, v2, v3, v4, v5, .ref h7, v7, .ref h9, .ref h10, .ref h11, .int 0, .int 0, .int 0, .int 0, .int 0])), (h1, .inl (cy 1, 4, .inl (fun _ => 0))), (h7, .inl (cy 1, 48, .inl (fx2_2)))] H := hP
  have hD : va_D A [(a0, .inr (11, [.ref ta0, .ref te0, .ref h0, .ref g0, .ref n0, .ref so0, w6, w7, w8, w9, w10, w11, w12, w13])), (n0, .inr (5, [.ref n1, .ref n2, .ref n3, z3, z4, z5, z6])), (n1, .inl (cy 1, 41, .inl (fun _ => 0))), (n2, .inl (cy 1, 1681, .inl (fr))), (so0, .inr (8, [uv0, uv1, uv2, uv3, uv4, uv5, uv6, uv7, uv8, uv9, uv10, uv11, uv12])), (ta0, .inr (9, [tv0, tv1, .int 0, .int 0, .int 0, .int 0, tv6, tv7])), (h0, .inr (4, [.ref h1, v1, v2, v3, v4, v5, .ref h7, v7, .ref h9, .ref h10, .ref h11, .int 0, .int 0, .int 0, .int 0, .int 0])), (h1, .inl (cy 1, 4, .inl (fun _ => 0))), (h7, .inl (cy 1, 48, .inl (fx2_2)))] := hD
  refine lv_aload_n hx hb dX11_hills_44 rfl (lv_at hl 2 rfl) ?_
  refine va_get (D := D) (ci := 11) (v := .ref n0) (C := RX11) (T := TX11) (N := 14) hx hb hg i_X11 hown hK hP 0 rfl rfl 4 (by decide) (hg _ m_662) (fun _ h9 => h9) rfl dX11_hills_45 ?_
  refine lv_aload_n hx hb dX11_hills_48 rfl (lv_at hl 2 rfl) ?_
  refine va_get (D := D) (ci := 11) (v := .ref h0) (C := RX11) (T := TX11) (N := 14) hx hb hg i_X11 hown hK hP 0 rfl rfl 2 (by decide) (hg _ m_660) (fun _ h9 => h9) rfl dX11_hills_49 ?_
  refine x_callVv (q := (RX5, TX5, 7)) (ci := 5) (q0 := 0) (wr := [(a0, .inr (11, [.ref ta0, .ref te0, .ref h0, .ref g0, .ref n0, .ref so0, w6, w7, w8, w9, w10, w11, w12, w13])), (so0, .inr (8, [uv0, uv1, uv2, uv3, uv4, uv5, uv6, uv7, uv8, uv9, uv10, uv11, uv12])), (ta0, .inr (9, [tv0, tv1, .int 0, .int 0, .int 0, .int 0, tv6, tv7])), (h7, .inl (cy 1, 48, .inl (fx2_2)))]) (rest := []) ⟨hx, hb, hml, hown, hg, hl.1⟩ k_X11_104 (c_begin0 l D cy n0 n1 n2 n3 z3 z4 z5 z6 h0 h1 v1 v2 v3 v4 v5 ((.ref h7)) v7 ((.ref h9)) ((.ref h10)) ((.ref h11)) fr) E0_blind hK hP hD hS hA [1, 2, 3, 6, 7] [0, 4, 5, 8] ⟨rfl, rfl, by decide, by decide, by decide⟩ rfl rfl (fun _ _ _ => trivial) dX11_hills_52 rfl rfl (Nat.le_of_ble_eq_true rfl) ⟨Nat.le_of_ble_eq_true rfl, Nat.le_of_ble_eq_true rfl⟩ ⟨Nat.le_of_ble_eq_true rfl, Nat.le_of_ble_eq_true rfl⟩ (fun u3 H locs hw3 hP hD hS => ?_)
  obtain ⟨fr2_4, rfl⟩ : ∃ z, z = u3 := ⟨_, rfl⟩
  have hP : va_P D vwCl [(a0, .inr (11, [.ref ta0, .ref te0, .ref h0, .ref g0, .ref n0, .ref so0, w6, w7, w8, w9, w10, w11, w12, w13])), (so0, .inr (8, [uv0, uv1, uv2, uv3, uv4, uv5, uv6, uv7, uv8, uv9, uv10, uv11, uv12])), (ta0, .inr (9, [tv0, tv1, .int 0, .int 0, .int 0, .int 0, tv6, tv7])), (h7, .inl (cy 1, 48, .inl (fx2_2))), (n0, .inr (5, [.ref n1, .ref n2, .ref n3, .int 0, .int 0, .int 0, .int 0])), (n1, .inl (cy 1, 41, .inl (fun _ => 0))), (n2, .inl (cy 1, 1681, .inl (fr2_4))), (h0, .inr (4, [.ref h1, v1, v2, v3, v4, v5, .ref h7, v7, .ref h9, .ref h10, .ref h11, .int 0, .int 0, .int 0, .int 0, .int 0])), (h1, .inl (cy 1, 4, .inl (fun _ => 0)))] H := hP
  have hD : va_D A [(a0, .inr (11, [.ref ta0, .ref te0, .ref h0, .ref g0, .ref n0, .ref so0, w6, w7, w8, w9, w10, w11, w12, w13])), (so0, .inr (8, [uv0, uv1, uv2, uv3, uv4, uv5, uv6, uv7, uv8, uv9, uv10, uv11, uv12])), (ta0, .inr (9, [tv0, tv1, .int 0, .int 0, .int 0, .int 0, tv6, tv7])), (h7, .inl (cy 1, 48, .inl (fx2_2))), (n0, .inr (5, [.ref n1, .ref n2, .ref n3, .int 0, .int 0, .int 0, .int 0])), (n1, .inl (cy 1, 41, .inl (fun _ => 0))), (n2, .inl (cy 1, 1681, .inl (fr2_4))), (h0, .inr (4, [.ref h1, v1, v2, v3, v4, v5, .ref h7, v7, .ref h9, .ref h10, .ref h11, .int 0, .int 0, .int 0, .int 0, .int 0])), (h1, .inl (cy 1, 4, .inl (fun _ => 0)))] := hD
  refine W.widen (k := 0) (n := 0) (Nat.le_of_ble_eq_true rfl) (Nat.le_of_ble_eq_true rfl) ?_
  refine lv_aload_n hx hb dX11_hills_55 rfl (lv_at hl 2 rfl) ?_
  refine va_get (D := D) (ci := 11) (v := .ref so0) (C := RX11) (T := TX11) (N := 14) hx hb hg i_X11 hown hK hP 0 rfl rfl 5 (by decide) (hg _ m_663) (fun _ h9 => h9) rfl dX11_hills_56 ?_
  refine x_callVv (q := (RX8, TX8, 13)) (ci := 8) (q0 := 0) (wr := [(a0, .inr (11, [.ref ta0, .ref te0, .ref h0, .ref g0, .ref n0, .ref so0, w6, w7, w8, w9, w10, w11, w12, w13])), (ta0, .inr (9, [tv0, tv1, .int 0, .int 0, .int 0, .int 0, tv6, tv7])), (h7, .inl (cy 1, 48, .inl (fx2_2))), (n0, .inr (5, [.ref n1, .ref n2, .ref n3, .int 0, .int 0, .int 0, .int 0])), (n1, .inl (cy 1, 41, .inl (fun _ => 0))), (n2, .inl (cy 1, 1681, .inl (fr2_4))), (h0, .inr (4, [.ref h1, v1, v2, v3, v4, v5, .ref h7, v7, .ref h9, .ref h10, .ref h11, .int 0, .int 0, .int 0, .int 0, .int 0])), (h1, .inl (cy 1, 4, .inl (fun _ => 0)))]) (rest := []) ⟨hx, hb, hml, hown, hg, hl.1⟩ k_X11_108 (c_forget l D cy so0 uv0 uv1 uv2 uv3 uv4 uv5 uv6 uv7 uv8 uv9 uv10 uv11 uv12) E0_blind hK hP hD hS hA [1] [0, 2, 3, 4, 5, 6, 7, 8] ⟨rfl, rfl, by decide, by decide, by decide⟩ rfl rfl (fun _ _ _ => trivial) dX11_hills_59 rfl rfl (Nat.le_of_ble_eq_true rfl) ⟨Nat.le_of_ble_eq_true rfl, Nat.le_of_ble_eq_true rfl⟩ ⟨Nat.le_of_ble_eq_true rfl, Nat.le_of_ble_eq_true rfl⟩ (fun u5 H locs hw5 hP hD hS => ?_)
  have hP : va_P D vwCl [(a0, .inr (11, [.ref ta0, .ref te0, .ref h0, .ref g0, .ref n0, .ref so0, w6, w7, w8, w9, w10, w11, w12, w13])), (ta0, .inr (9, [tv0, tv1, .int 0, .int 0, .int 0, .int 0, tv6, tv7])), (h7, .inl (cy 1, 48, .inl (fx2_2))), (n0, .inr (5, [.ref n1, .ref n2, .ref n3, .int 0, .int 0, .int 0, .int 0])), (n1, .inl (cy 1, 41, .inl (fun _ => 0))), (n2, .inl (cy 1, 1681, .inl (fr2_4))), (h0, .inr (4, [.ref h1, v1, v2, v3, v4, v5, .ref h7, v7, .ref h9, .ref h10, .ref h11, .int 0, .int 0, .int 0, .int 0, .int 0])), (h1, .inl (cy 1, 4, .inl (fun _ => 0)))] H := hP
  have hD : va_D A [(a0, .inr (11, [.ref ta0, .ref te0, .ref h0, .ref g0, .ref n0, .ref so0, w6, w7, w8, w9, w10, w11, w12, w13])), (ta0, .inr (9, [tv0, tv1, .int 0, .int 0, .int 0, .int 0, tv6, tv7])), (h7, .inl (cy 1, 48, .inl (fx2_2))), (n0, .inr (5, [.ref n1, .ref n2, .ref n3, .int 0, .int 0, .int 0, .int 0])), (n1, .inl (cy 1, 41, .inl (fun _ => 0))), (n2, .inl (cy 1, 1681, .inl (fr2_4))), (h0, .inr (4, [.ref h1, v1, v2, v3, v4, v5, .ref h7, v7, .ref h9, .ref h10, .ref h11, .int 0, .int 0, .int 0, .int 0, .int 0])), (h1, .inl (cy 1, 4, .inl (fun _ => 0)))] := hD
  refine W.widen (k := 0) (n := 0) (Nat.le_of_ble_eq_true rfl) (Nat.le_of_ble_eq_true rfl) ?_
  refine lv_aload_n hx hb dX11_hills_62 rfl (lv_at hl 2 rfl) ?_
  refine lv_iconst (v := 0) hx hb dX11_hills_63 (by decide) ?_
  refine va_put (D := D) (ci := 11) (v := .int 0) (ty := .int) (C := RX11) (T := TX11) (N := 14) hx hb hg i_X11 tyX11 tyX11_ok nmX11 hown hK hP hD hS 0 rfl rfl 13 (by decide) (hg _ m_671) (fun _ h9 => h9) rfl (by decide +kernel) rfl rfl (Nat.le_of_ble_eq_true rfl) dX11_hills_64 (fun H locs hP hD hS => ?_)
  have hP : va_P D vwCl [(a0, .inr (11, [.ref ta0, .ref te0, .ref h0, .ref g0, .ref n0, .ref so0, w6, w7, w8, w9, w10, w11, w12, .int 0])), (ta0, .inr (9, [tv0, tv1, .int 0, .int 0, .int 0, .int 0, tv6, tv7])), (h7, .inl (cy 1, 48, .inl (fx2_2))), (n0, .inr (5, [.ref n1, .ref n2, .ref n3, .int 0, .int 0, .int 0, .int 0])), (n1, .inl (cy 1, 41, .inl (fun _ => 0))), (n2, .inl (cy 1, 1681, .inl (fr2_4))), (h0, .inr (4, [.ref h1, v1, v2, v3, v4, v5, .ref h7, v7, .ref h9, .ref h10, .ref h11, .int 0, .int 0, .int 0, .int 0, .int 0])), (h1, .inl (cy 1, 4, .inl (fun _ => 0)))] H := hP
  have hD : va_D A [(a0, .inr (11, [.ref ta0, .ref te0, .ref h0, .ref g0, .ref n0, .ref so0, w6, w7, w8, w9, w10, w11, w12, .int 0])), (ta0, .inr (9, [tv0, tv1, .int 0, .int 0, .int 0, .int 0, tv6, tv7])), (h7, .inl (cy 1, 48, .inl (fx2_2))), (n0, .inr (5, [.ref n1, .ref n2, .ref n3, .int 0, .int 0, .int 0, .int 0])), (n1, .inl (cy 1, 41, .inl (fun _ => 0))), (n2, .inl (cy 1, 1681, .inl (fr2_4))), (h0, .inr (4, [.ref h1, v1, v2, v3, v4, v5, .ref h7, v7, .ref h9, .ref h10, .ref h11, .int 0, .int 0, .int 0, .int 0, .int 0])), (h1, .inl (cy 1, 4, .inl (fun _ => 0)))] := hD
  refine lv_aload_n hx hb dX11_hills_67 rfl (lv_at hl 2 rfl) ?_
  refine va_get (D := D) (ci := 11) (v := .ref h0) (C := RX11) (T := TX11) (N := 14) hx hb hg i_X11 hown hK hP 0 rfl rfl 2 (by decide) (hg _ m_660) (fun _ h9 => h9) rfl dX11_hills_68 ?_
  refine va_get (D := D) (ci := 4) (v := .ref h1) (C := RX4) (T := TX4) (N := 16) hx hb hg i_X4 hown hK hP 6 rfl rfl 0 (by decide) (hg _ m_335) (fun _ h9 => h9) rfl dX11_hills_71 ?_
  refine lv_iconst (v := 1) hx hb dX11_hills_74 (by decide) ?_
  refine va_iald hx hb hK hP 7 1 rfl rfl (by unfold vp_in; decide) dX11_hills_75 ?_
  refine lv_topi (fun y_6 hy_6 => ?_)
  obtain rfl : y_6 = 0 := hy_6.trans (by decide +kernel)
  exact x_iret hQ hx hb hr hlocks hK hP hD hS dX11_hills_76 () (rfl) [] (by decide) rfl (Nat.le_of_ble_eq_true rfl) (Nat.le_of_ble_eq_true rfl)
theorem dX11_loadWeather_0 : decode cX11_loadWeather 0 = .ok (.aload_n 1, 1) := by decide +kernel
theorem dX11_loadWeather_1 : decode cX11_loadWeather 1 = .ok (.aload_n 0, 1) := by decide +kernel
theorem dX11_loadWeather_2 : decode cX11_loadWeather 2 = .ok (.getfield 38, 3) := by decide +kernel
theorem dX11_loadWeather_5 : decode cX11_loadWeather 5 = .ok (.getfield 127, 3) := by decide +kernel
theorem dX11_loadWeather_8 : decode cX11_loadWeather 8 = .ok (.bipush 22, 2) := by decide +kernel
theorem dX11_loadWeather_10 : decode cX11_loadWeather 10 = .ok (.iaload, 1) := by decide +kernel
theorem dX11_loadWeather_11 : decode cX11_loadWeather 11 = .ok (.putfield 250, 3) := by decide +kernel
set_option maxRecDepth 20000 in
theorem i_X7 : ∀ w ∈ u_ws RX7 TX7 7, w ∈ gT := gin [643, 645, 647, 649, 651, 653, 655] (by decide +kernel) (by decide +kernel)
theorem m_640 : (Cond.fieldLink RX11 250 "CliffJudges$Shout" "wind" "I") ∈ gT := gm 640 (by decide +kernel) (by decide +kernel)
theorem dX11_loadWeather_14 : decode cX11_loadWeather 14 = .ok (.aload_n 1, 1) := by decide +kernel
theorem dX11_loadWeather_15 : decode cX11_loadWeather 15 = .ok (.iconst 0, 1) := by decide +kernel
theorem dX11_loadWeather_16 : decode cX11_loadWeather 16 = .ok (.putfield 247, 3) := by decide +kernel
theorem m_642 : (Cond.fieldLink RX11 247 "CliffJudges$Shout" "chance" "I") ∈ gT := gm 642 (by decide +kernel) (by decide +kernel)
theorem dX11_loadWeather_19 : decode cX11_loadWeather 19 = .ok (.aload_n 0, 1) := by decide +kernel
theorem dX11_loadWeather_20 : decode cX11_loadWeather 20 = .ok (.getfield 38, 3) := by decide +kernel
theorem dX11_loadWeather_23 : decode cX11_loadWeather 23 = .ok (.getfield 127, 3) := by decide +kernel
theorem dX11_loadWeather_26 : decode cX11_loadWeather 26 = .ok (.bipush 25, 2) := by decide +kernel
theorem dX11_loadWeather_28 : decode cX11_loadWeather 28 = .ok (.aload_n 1, 1) := by decide +kernel
theorem dX11_loadWeather_29 : decode cX11_loadWeather 29 = .ok (.getfield 319, 3) := by decide +kernel
theorem m_627 : (Cond.fieldLink RX11 319 "CliffJudges$Shout" "snow" "[I") ∈ gT := gm 627 (by decide +kernel) (by decide +kernel)
theorem dX11_loadWeather_32 : decode cX11_loadWeather 32 = .ok (.iconst 0, 1) := by decide +kernel
theorem dX11_loadWeather_33 : decode cX11_loadWeather 33 = .ok (.iconst 4, 1) := by decide +kernel
theorem dX11_loadWeather_34 : decode cX11_loadWeather 34 = .ok (.invokestatic 322, 3) := by decide +kernel
theorem m_1013 : (Cond.methodLink RX11 322 ⟨"java/lang/System", "arraycopy", "(Ljava/lang/Object;ILjava/lang/Object;II)V"⟩) ∈ gT := gm 1013 (by decide +kernel) (by decide +kernel)
theorem dX11_loadWeather_37 : decode cX11_loadWeather 37 = .ok (.return_, 1) := by decide +kernel
set_option maxHeartbeats 400000 in
set_option maxRecDepth 100000 in
theorem c_loadWeather (l : Launch) (D : va_G) (cy : Nat → ClassId) (a0 : Nat) (w0 : Value) (w1 : Value) (w2 : Value) (w3 : Value) (w5 : Value) (w6 : Value) (w7 : Value) (w8 : Value) (w9 : Value) (w10 : Value) (w11 : Value) (w12 : Value) (w13 : Value) (n0 : Nat) (n1 : Nat) (n2 : Nat) (n3 : Nat) (z3 : Value) (z4 : Value) (z5 : Value) (z6 : Value) (sh0 : Nat) (sh1 : Nat) (xv0 : Value) (xv2 : Value) (xv3 : Value) (xv4 : Value) (xv5 : Value) (xv6 : Value) (fs : Nat → Int32)  : XMv l D (tyL cy) E0 yX11_loadWeather cX11_loadWeather 2 none (rmk 1 0 0) [.ref a0, .ref sh0] [(a0, .inr (11, [w0, w1, w2, w3, .ref n0, w5, w6, w7, w8, w9, w10, w11, w12, w13])), (n0, .inr (5, [.ref n1, .ref n2, .ref n3, z3, z4, z5, z6])), (n1, .inl (cy 1, 41, .inl (fun _ => 0))), (sh0, .inr (7, [xv0, .ref sh1, xv2, xv3, xv4, xv5, xv6])), (sh1, .inl (cy 1, 4, .inl (fs)))] (fun (fs2 : Nat → Int32) => True) (fun (fs2 : Nat → Int32) => [(a0, .inr (11, [w0, w1, w2, w3, .ref n0, w5, w6, w7, w8, w9, w10, w11, w12, w13])), (n0, .inr (5, [.ref n1, .ref n2, .ref n3, z3, z4, z5, z6])), (n1, .inl (cy 1, 41, .inl (fun _ => 0))), (sh0, .inr (7, [xv0, .ref sh1, xv2, xv3, xv4, .int 0, .int 0])), (sh1, .inl (cy 1, 4, .inl (fs2)))]) := by
  refine XMv.start (by decide) (Nat.le_of_ble_eq_true rfl) ?_
  intro p e s m below meth c args A ls Q hat hQ
  obtain ⟨hx, hb, hr, hml, hown, hg, hlocks, hin, hK, hA, hP, hD, hS, hE, hl⟩ := hat
  have hown : s.vm.findClass RX11 = some m.cls := hown
  have hl : lv_has ls 2 [(0, .ref a0), (1, .ref sh0)] := hl
  refine lv_aload_n hx hb dX11_loadWeather_0 rfl (lv_at hl 1 rfl) ?_
  refine lv_aload_n hx hb dX11_loadWeather_1 rfl (lv_at hl 0 rfl) ?_
  refine va_get (D := D) (ci := 11) (v := .ref n0) (C := RX11) (T := TX11) (N := 14) hx hb hg i_X11 hown hK hP 0 rfl rfl 4 (by decide) (hg _ m_662) (fun _ h9 => h9) rfl dX11_loadWeather_2 ?_
  refine va_get (D := D) (ci := 5) (v := .ref n1) (C := RX5) (T := TX5) (N := 7) hx hb hg i_X5 hown hK hP 1 rfl rfl 0 (by decide) (hg _ m_424) (fun _ h9 => h9) rfl dX11_loadWeather_5 ?_
  refine lv_bipush (v := 22) hx hb dX11_loadWeather_8 (by decide) ?_
  refine va_iald hx hb hK hP 2 1 rfl rfl (by unfold vp_in; decide) dX11_loadWeather_10 ?_
  refine lv_topi (fun y_1 hy_1 => ?_)
  obtain rfl : y_1 = 0 := hy_1.trans (by decide +kernel)
  refine va_put (D := D) (ci := 7) (v := .int 0) (ty := .int) (C := RX7) (T := TX7) (N := 7) hx hb hg i_X7 tyX7 tyX7_ok nmX7 hown hK hP hD hS 3 rfl rfl 5 (by decide) (hg _ m_640) (fun _ h9 => h9) rfl (by decide +kernel) rfl rfl (Nat.le_of_ble_eq_true rfl) dX11_loadWeather_11 (fun H locs hP hD hS => ?_)
  have hP : va_P D vwCl [(a0, .inr (11, [w0, w1, w2, w3, .ref n0, w5, w6, w7, w8, w9, w10, w11, w12, w13])), (n0, .inr (5, [.ref n1, .ref n2, .ref n3, z3, z4, z5, z6])), (n1, .inl (cy 1, 41, .inl (fun _ => 0))), (sh0, .inr (7, [xv0, .ref sh1, xv2, xv3, xv4, .int 0, xv6])), (sh1, .inl (cy 1, 4, .inl (fs)))] H := hP
  have hD : va_D A [(a0, .inr (11, [w0, w1, w2, w3, .ref n0, w5, w6, w7, w8, w9, w10, w11, w12, w13])), (n0, .inr (5, [.ref n1, .ref n2, .ref n3, z3, z4, z5, z6])), (n1, .inl (cy 1, 41, .inl (fun _ => 0))), (sh0, .inr (7, [xv0, .ref sh1, xv2, xv3, xv4, .int 0, xv6])), (sh1, .inl (cy 1, 4, .inl (fs)))] := hD
  refine lv_aload_n hx hb dX11_loadWeather_14 rfl (lv_at hl 1 rfl) ?_
  refine lv_iconst (v := 0) hx hb dX11_loadWeather_15 (by decide) ?_
  refine va_put (D := D) (ci := 7) (v := .int 0) (ty := .int) (C := RX7) (T := TX7) (N := 7) hx hb hg i_X7 tyX7 tyX7_ok nmX7 hown hK hP hD hS 3 rfl rfl 6 (by decide) (hg _ m_642) (fun _ h9 => h9) rfl (by decide +kernel) rfl rfl (Nat.le_of_ble_eq_true rfl) dX11_loadWeather_16 (fun H locs hP hD hS => ?_)
  have hP : va_P D vwCl [(a0, .inr (11, [w0, w1, w2, w3, .ref n0, w5, w6, w7, w8, w9, w10, w11, w12, w13])), (n0, .inr (5, [.ref n1, .ref n2, .ref n3, z3, z4, z5, z6])), (n1, .inl (cy 1, 41, .inl (fun _ => 0))), (sh0, .inr (7, [xv0, .ref sh1, xv2, xv3, xv4, .int 0, .int 0])), (sh1, .inl (cy 1, 4, .inl (fs)))] H := hP
  have hD : va_D A [(a0, .inr (11, [w0, w1, w2, w3, .ref n0, w5, w6, w7, w8, w9, w10, w11, w12, w13])), (n0, .inr (5, [.ref n1, .ref n2, .ref n3, z3, z4, z5, z6])), (n1, .inl (cy 1, 41, .inl (fun _ => 0))), (sh0, .inr (7, [xv0, .ref sh1, xv2, xv3, xv4, .int 0, .int 0])), (sh1, .inl (cy 1, 4, .inl (fs)))] := hD
  refine lv_aload_n hx hb dX11_loadWeather_19 rfl (lv_at hl 0 rfl) ?_
  refine va_get (D := D) (ci := 11) (v := .ref n0) (C := RX11) (T := TX11) (N := 14) hx hb hg i_X11 hown hK hP 0 rfl rfl 4 (by decide) (hg _ m_662) (fun _ h9 => h9) rfl dX11_loadWeather_20 ?_
  refine va_get (D := D) (ci := 5) (v := .ref n1) (C := RX5) (T := TX5) (N := 7) hx hb hg i_X5 hown hK hP 1 rfl rfl 0 (by decide) (hg _ m_424) (fun _ h9 => h9) rfl dX11_loadWeather_23 ?_
  refine lv_bipush (v := 25) hx hb dX11_loadWeather_26 (by decide) ?_
  refine lv_aload_n hx hb dX11_loadWeather_28 rfl (lv_at hl 1 rfl) ?_
  refine va_get (D := D) (ci := 7) (v := .ref sh1) (C := RX7) (T := TX7) (N := 7) hx hb hg i_X7 hown hK hP 3 rfl rfl 1 (by decide) (hg _ m_627) (fun _ h9 => h9) rfl dX11_loadWeather_29 ?_
  refine lv_iconst (v := 0) hx hb dX11_loadWeather_32 (by decide) ?_
  refine lv_iconst (v := 4) hx hb dX11_loadWeather_33 (by decide) ?_
  refine va_copyi hx hb (hml.trans hl.1.symm) hown (hg _ m_1013) (hg _ m_936) (hg _ m_935) (hg _ m_149) hK hP hD hS 2 4 1 1 rfl rfl rfl rfl rfl (by decide) (by decide) (by decide) (by decide) (by decide) (fun _ _ => rfl) (by decide) (Nat.le_of_ble_eq_true rfl) dX11_loadWeather_34 (fun H locs hP hD hS => ?_)
  obtain ⟨g_2, eg_2⟩ : ∃ y, va_cpy (fun _ => 0) (fs) (25 : Int32).toNatClampNeg (0 : Int32).toNatClampNeg (4 : Int32).toNatClampNeg = y := ⟨_, rfl⟩
  rw [eg_2] at hP hD
  have hP : va_P D vwCl [(a0, .inr (11, [w0, w1, w2, w3, .ref n0, w5, w6, w7, w8, w9, w10, w11, w12, w13])), (n0, .inr (5, [.ref n1, .ref n2, .ref n3, z3, z4, z5, z6])), (n1, .inl (cy 1, 41, .inl (fun _ => 0))), (sh0, .inr (7, [xv0, .ref sh1, xv2, xv3, xv4, .int 0, .int 0])), (sh1, .inl (cy 1, 4, .inl (g_2)))] H := hP
  have hD : va_D A [(a0, .inr (11, [w0, w1, w2, w3, .ref n0, w5, w6, w7, w8, w9, w10, w11, w12, w13])), (n0, .inr (5, [.ref n1, .ref n2, .ref n3, z3, z4, z5, z6])), (n1, .inl (cy 1, 41, .inl (fun _ => 0))), (sh0, .inr (7, [xv0, .ref sh1, xv2, xv3, xv4, .int 0, .int 0])), (sh1, .inl (cy 1, 4, .inl (g_2)))] := hD
  exact x_vret hQ hx hb hr hlocks hK hP hD hS dX11_loadWeather_37 g_2 (trivial) [0, 1, 2, 3, 4] (by decide) rfl (Nat.le_of_ble_eq_true rfl) (Nat.le_of_ble_eq_true rfl)
theorem dX11_loadCry_0 : decode cX11_loadCry 0 = .ok (.aload_n 1, 1) := by decide +kernel
theorem dX11_loadCry_1 : decode cX11_loadCry 1 = .ok (.aload_n 0, 1) := by decide +kernel
theorem dX11_loadCry_2 : decode cX11_loadCry 2 = .ok (.getfield 38, 3) := by decide +kernel
theorem dX11_loadCry_5 : decode cX11_loadCry 5 = .ok (.iload_n 2, 1) := by decide +kernel
theorem dX11_loadCry_6 : decode cX11_loadCry 6 = .ok (.invokevirtual 147, 3) := by decide +kernel
theorem dX11_loadCry_9 : decode cX11_loadCry 9 = .ok (.putfield 253, 3) := by decide +kernel
theorem m_632 : (Cond.fieldLink RX11 253 "CliffJudges$Shout" "length" "I") ∈ gT := gm 632 (by decide +kernel) (by decide +kernel)
theorem dX11_loadCry_12 : decode cX11_loadCry 12 = .ok (.iconst 0, 1) := by decide +kernel
theorem dX11_loadCry_13 : decode cX11_loadCry 13 = .ok (.istore_n 3, 1) := by decide +kernel
theorem dX11_loadCry_14 : decode cX11_loadCry 14 = .ok (.iload_n 3, 1) := by decide +kernel
theorem dX11_loadCry_15 : decode cX11_loadCry 15 = .ok (.aload_n 1, 1) := by decide +kernel
theorem dX11_loadCry_16 : decode cX11_loadCry 16 = .ok (.getfield 253, 3) := by decide +kernel
theorem dX11_loadCry_19 : decode cX11_loadCry 19 = .ok (.if_icmp .ge 24, 3) := by decide +kernel
theorem dX11_loadCry_43 : decode cX11_loadCry 43 = .ok (.return_, 1) := by decide +kernel
set_option maxHeartbeats 400000 in
set_option maxRecDepth 100000 in
theorem c_loadCry (l : Launch) (D : va_G) (cy : Nat → ClassId) (a0 : Nat) (w0 : Value) (w1 : Value) (w2 : Value) (w3 : Value) (w5 : Value) (w6 : Value) (w7 : Value) (w8 : Value) (w9 : Value) (w10 : Value) (w11 : Value) (w12 : Value) (w13 : Value) (n0 : Nat) (n1 : Nat) (n2 : Nat) (n3 : Nat) (z3 : Value) (z4 : Value) (z5 : Value) (z6 : Value) (sh0 : Nat) (sh1 : Nat) (xv0 : Value) (xv2 : Value) (xv3 : Value) (xv4 : Value) (xv5 : Value) (xv6 : Value)  : XMv l D (tyL cy) E0 yX11_loadCry cX11_loadCry 4 none (rmk 1 0 0) [.ref a0, .ref sh0, .int 0] [(a0, .inr (11, [w0, w1, w2, w3, .ref n0, w5, w6, w7, w8, w9, w10, w11, w12, w13])), (n0, .inr (5, [.ref n1, .ref n2, .ref n3, z3, z4, z5, z6])), (n1, .inl (cy 1, 41, .inl (fun _ => 0))), (sh0, .inr (7, [xv0, .ref sh1, xv2, xv3, xv4, xv5, xv6]))] (fun (_ : Unit) => True) (fun (_ : Unit) => [(a0, .inr (11, [w0, w1, w2, w3, .ref n0, w5, w6, w7, w8, w9, w10, w11, w12, w13])), (n0, .inr (5, [.ref n1, .ref n2, .ref n3, z3, z4, z5, z6])), (n1, .inl (cy 1, 41, .inl (fun _ => 0))), (sh0, .inr (7, [xv0, .ref sh1, .int 0, xv3, xv4, xv5, xv6]))]) := by
  refine XMv.start (by decide) (Nat.le_of_ble_eq_true rfl) ?_
  intro p e s m below meth c args A ls Q hat hQ
  obtain ⟨hx, hb, hr, hml, hown, hg, hlocks, hin, hK, hA, hP, hD, hS, hE, hl⟩ := hat
  have hown : s.vm.findClass RX11 = some m.cls := hown
  have hl : lv_has ls 4 [(0, .ref a0), (1, .ref sh0), (2, .int 0)] := hl
  refine lv_aload_n hx hb dX11_loadCry_0 rfl (lv_at hl 1 rfl) ?_
  refine lv_aload_n hx hb dX11_loadCry_1 rfl (lv_at hl 0 rfl) ?_
  refine va_get (D := D) (ci := 11) (v := .ref n0) (C := RX11) (T := TX11) (N := 14) hx hb hg i_X11 hown hK hP 0 rfl rfl 4 (by decide) (hg _ m_662) (fun _ h9 => h9) rfl dX11_loadCry_2 ?_
  refine lv_iload_n hx hb dX11_loadCry_5 rfl (lv_at hl 2 rfl) ?_
  refine x_callVi (q := (RX5, TX5, 7)) (ci := 5) (q0 := 0) (wr := [(a0, .inr (11, [w0, w1, w2, w3, .ref n0, w5, w6, w7, w8, w9, w10, w11, w12, w13])), (sh0, .inr (7, [xv0, .ref sh1, xv2, xv3, xv4, xv5, xv6]))]) (rest := [.ref sh0]) ⟨hx, hb, hml, hown, hg, hl.1⟩ k_X11_147 (c_cryLength l D cy n0 n1 n2 n3 z3 z4 z5 z6 0 (by unfold vp_in; decide)) E0_blind hK hP hD hS hA [1, 2] [0, 3] ⟨rfl, rfl, by decide, by decide, by decide⟩ rfl rfl (fun _ _ _ => trivial) dX11_loadCry_6 rfl rfl (Nat.le_of_ble_eq_true rfl) ⟨Nat.le_of_ble_eq_true rfl, Nat.le_of_ble_eq_true rfl⟩ ⟨Nat.le_of_ble_eq_true rfl, Nat.le_of_ble_eq_true rfl⟩ (fun r1 u1 H locs hw1 hP hD hS => ?_)
  have hP : va_P D vwCl [(a0, .inr (11, [w0, w1, w2, w3, .ref n0, w5, w6, w7, w8, w9, w10, w11, w12, w13])), (sh0, .inr (7, [xv0, .ref sh1, xv2, xv3, xv4, xv5, xv6])), (n0, .inr (5, [.ref n1, .ref n2, .ref n3, z3, z4, z5, z6])), (n1, .inl (cy 1, 41, .inl (fun _ => 0)))] H := hP
  have hD : va_D A [(a0, .inr (11, [w0, w1, w2, w3, .ref n0, w5, w6, w7, w8, w9, w10, w11, w12, w13])), (sh0, .inr (7, [xv0, .ref sh1, xv2, xv3, xv4, xv5, xv6])), (n0, .inr (5, [.ref n1, .ref n2, .ref n3, z3, z4, z5, z6])), (n1, .inl (cy 1, 41, .inl (fun _ => 0)))] := hD
  refine W.widen (k := 0) (n := 0) (Nat.le_of_ble_eq_true rfl) (Nat.le_of_ble_eq_true rfl) ?_
  have hw1 : r1 = 0 := hw1
  subst hw1
  refine va_put (D := D) (ci := 7) (v := .int 0) (ty := .int) (C := RX7) (T := TX7) (N := 7) hx hb hg i_X7 tyX7 tyX7_ok nmX7 hown hK hP hD hS 1 rfl rfl 2 (by decide) (hg _ m_632) (fun _ h9 => h9) rfl (by decide +kernel) rfl rfl (Nat.le_of_ble_eq_true rfl) dX11_loadCry_9 (fun H locs hP hD hS => ?_)
  have hP : va_P D vwCl [(a0, .inr (11, [w0, w1, w2, w3, .ref n0, w5, w6, w7, w8, w9, w10, w11, w12, w13])), (sh0, .inr (7, [xv0, .ref sh1, .int 0, xv3, xv4, xv5, xv6])), (n0, .inr (5, [.ref n1, .ref n2, .ref n3, z3, z4, z5, z6])), (n1, .inl (cy 1, 41, .inl (fun _ => 0)))] H := hP
  have hD : va_D A [(a0, .inr (11, [w0, w1, w2, w3, .ref n0, w5, w6, w7, w8, w9, w10, w11, w12, w13])), (sh0, .inr (7, [xv0, .ref sh1, .int 0, xv3, xv4, xv5, xv6])), (n0, .inr (5, [.ref n1, .ref n2, .ref n3, z3, z4, z5, z6])), (n1, .inl (cy 1, 41, .inl (fun _ => 0)))] := hD
  refine lv_iconst (v := 0) hx hb dX11_loadCry_12 (by decide) ?_
  refine lv_istore_n (lv' := [(3, .int 0), (0, .ref a0), (1, .ref sh0), (2, .int 0)]) hx hb dX11_loadCry_13 rfl hl (by decide) rfl (fun ls hl => ?_)
  refine lv_iload_n hx hb dX11_loadCry_14 rfl (lv_at hl 0 rfl) ?_
  refine lv_aload_n hx hb dX11_loadCry_15 rfl (lv_at hl 2 rfl) ?_
  refine va_get (D := D) (ci := 7) (v := .int 0) (C := RX7) (T := TX7) (N := 7) hx hb hg i_X7 hown hK hP 1 rfl rfl 2 (by decide) (hg _ m_632) (fun _ h9 => h9) rfl dX11_loadCry_16 ?_
  refine lv_icmp_ge (tgt := 43) hx hb dX11_loadCry_19 (by decide) (fun _ => ?_) (fun h => absurd (by decide) h)
  exact x_vret hQ hx hb hr hlocks hK hP hD hS dX11_loadCry_43 () (trivial) [0, 2, 3, 1] (by decide) rfl (Nat.le_of_ble_eq_true rfl) (Nat.le_of_ble_eq_true rfl)
theorem dX0_verdict_0 : decode cX0_verdict 0 = .ok (.aload_n 0, 1) := by decide +kernel
theorem dX0_verdict_1 : decode cX0_verdict 1 = .ok (.iconst (-1), 1) := by decide +kernel
theorem dX0_verdict_2 : decode cX0_verdict 2 = .ok (.putfield 39, 3) := by decide +kernel
set_option maxRecDepth 20000 in
theorem i_X0 : ∀ w ∈ u_ws RX0 TX0 3, w ∈ gT := gin [539, 541, 543] (by decide +kernel) (by decide +kernel)
theorem m_537 : (Cond.fieldLink RX0 39 "CliffJudges$Court" "bound" "I") ∈ gT := gm 537 (by decide +kernel) (by decide +kernel)
theorem dX0_verdict_5 : decode cX0_verdict 5 = .ok (.iconst 0, 1) := by decide +kernel
theorem dX0_verdict_6 : decode cX0_verdict 6 = .ok (.istore 4, 2) := by decide +kernel
theorem dX0_verdict_8 : decode cX0_verdict 8 = .ok (.iconst 0, 1) := by decide +kernel
theorem dX0_verdict_9 : decode cX0_verdict 9 = .ok (.istore 5, 2) := by decide +kernel
theorem dX0_verdict_11 : decode cX0_verdict 11 = .ok (.iload 5, 2) := by decide +kernel
theorem dX0_verdict_13 : decode cX0_verdict 13 = .ok (.aload_n 1, 1) := by decide +kernel
theorem dX0_verdict_14 : decode cX0_verdict 14 = .ok (.getfield 42, 3) := by decide +kernel
theorem m_333 : (Cond.fieldLink RX0 42 "CliffJudges$Hills" "counts" "[I") ∈ gT := gm 333 (by decide +kernel) (by decide +kernel)
theorem dX0_verdict_17 : decode cX0_verdict 17 = .ok (.iconst 1, 1) := by decide +kernel
theorem dX0_verdict_18 : decode cX0_verdict 18 = .ok (.iaload, 1) := by decide +kernel
theorem dX0_verdict_19 : decode cX0_verdict 19 = .ok (.if_icmp .ge 92, 3) := by decide +kernel
theorem dX0_verdict_111 : decode cX0_verdict 111 = .ok (.iload 4, 2) := by decide +kernel
theorem dX0_verdict_113 : decode cX0_verdict 113 = .ok (.ireturn, 1) := by decide +kernel
set_option maxHeartbeats 400000 in
set_option maxRecDepth 100000 in
theorem c_verdict0 (l : Launch) (D : va_G) (cy : Nat → ClassId) (co0 : Nat) (cv0 : Value) (cv1 : Value) (cv2 : Value) (h0 : Nat) (h1 : Nat) (v1 : Value) (v2 : Value) (v3 : Value) (v4 : Value) (v5 : Value) (v6 : Value) (v7 : Value) (v8 : Value) (v9 : Value) (v10 : Value) (v11 : Value) (v12 : Value) (v13 : Value) (v14 : Value) (v15 : Value) (s1 : Nat) (s2 : Nat)  : XMi l D (tyL cy) E0 yX0_verdict cX0_verdict 7 (some .int) (rmk 0 0 0) [.ref co0, .ref h0, .ref s1, .ref s2] [(co0, .inr (0, [cv0, cv1, cv2])), (h0, .inr (4, [.ref h1, v1, v2, v3, v4, v5, v6, v7, v8, v9, v10, v11, v12, v13, v14, v15])), (h1, .inl (cy 1, 4, .inl (fun _ => 0)))] (fun (r : Int32) (_ : Unit) => r = 0) (fun (_ : Unit) => [(co0, .inr (0, [cv0, cv1, .int (-1)])), (h0, .inr (4, [.ref h1, v1, v2, v3, v4, v5, v6, v7, v8, v9, v10, v11, v12, v13, v14, v15])), (h1, .inl (cy 1, 4, .inl (fun _ => 0)))]) := by
  refine XMi.start (by decide) (Nat.le_of_ble_eq_true rfl) ?_
  intro p e s m below meth c args A ls Q hat hQ
  obtain ⟨hx, hb, hr, hml, hown, hg, hlocks, hin, hK, hA, hP, hD, hS, hE, hl⟩ := hat
  have hown : s.vm.findClass RX0 = some m.cls := hown
  have hl : lv_has ls 7 [(0, .ref co0), (1, .ref h0), (2, .ref s1), (3, .ref s2)] := hl
  refine lv_aload_n hx hb dX0_verdict_0 rfl (lv_at hl 0 rfl) ?_
  refine lv_iconst (v := -1) hx hb dX0_verdict_1 (by decide) ?_
  refine va_put (D := D) (ci := 0) (v := .int (-1)) (ty := .int) (C := RX0) (T := TX0) (N := 3) hx hb hg i_X0 tyX0 tyX0_ok nmX0 hown hK hP hD hS 0 rfl rfl 2 (by decide) (hg _ m_537) (fun _ h9 => h9) rfl (by decide +kernel) rfl rfl (Nat.le_of_ble_eq_true rfl) dX0_verdict_2 (fun H locs hP hD hS => ?_)
  have hP : va_P D vwCl [(co0, .inr (0, [cv0, cv1, .int (-1)])), (h0, .inr (4, [.ref h1, v1, v2, v3, v4, v5, v6, v7, v8, v9, v10, v11, v12, v13, v14, v15])), (h1, .inl (cy 1, 4, .inl (fun _ => 0)))] H := hP
  have hD : va_D A [(co0, .inr (0, [cv0, cv1, .int (-1)])), (h0, .inr (4, [.ref h1, v1, v2, v3, v4, v5, v6, v7, v8, v9, v10, v11, v12, v13, v14, v15])), (h1, .inl (cy 1, 4, .inl (fun _ => 0)))] := hD
  refine lv_iconst (v := 0) hx hb dX0_verdict_5 (by decide) ?_
  refine lv_istore (lv' := [(4, .int 0), (0, .ref co0), (1, .ref h0), (2, .ref s1), (3, .ref s2)]) hx hb dX0_verdict_6 hl (by decide) rfl (fun ls hl => ?_)
  refine lv_iconst (v := 0) hx hb dX0_verdict_8 (by decide) ?_
  refine lv_istore (lv' := [(5, .int 0), (4, .int 0), (0, .ref co0), (1, .ref h0), (2, .ref s1), (3, .ref s2)]) hx hb dX0_verdict_9 hl (by decide) rfl (fun ls hl => ?_)
  refine lv_iload hx hb dX0_verdict_11 (lv_at hl 0 rfl) ?_
  refine lv_aload_n hx hb dX0_verdict_13 rfl (lv_at hl 3 rfl) ?_
  refine va_get (D := D) (ci := 4) (v := .ref h1) (C := RX4) (T := TX4) (N := 16) hx hb hg i_X4 hown hK hP 1 rfl rfl 0 (by decide) (hg _ m_333) (fun _ h9 => h9) rfl dX0_verdict_14 ?_
  refine lv_iconst (v := 1) hx hb dX0_verdict_17 (by decide) ?_
  refine va_iald hx hb hK hP 2 1 rfl rfl (by unfold vp_in; decide) dX0_verdict_18 ?_
  refine lv_topi (fun y_1 hy_1 => ?_)
  obtain rfl : y_1 = 0 := hy_1.trans (by decide +kernel)
  refine lv_icmp_ge (tgt := 111) hx hb dX0_verdict_19 (by decide) (fun _ => ?_) (fun h => absurd (by decide) h)
  refine lv_iload hx hb dX0_verdict_111 (lv_at hl 1 rfl) ?_
  exact x_iret hQ hx hb hr hlocks hK hP hD hS dX0_verdict_113 () (rfl) [0, 1, 2] (by decide) rfl (Nat.le_of_ble_eq_true rfl) (Nat.le_of_ble_eq_true rfl)
theorem dX11_oneOf_0 : decode cX11_oneOf 0 = .ok (.iload_n 0, 1) := by decide +kernel
theorem dX11_oneOf_1 : decode cX11_oneOf 1 = .ok (.ifCond .ne 5, 3) := by decide +kernel
theorem dX11_oneOf_6 : decode cX11_oneOf 6 = .ok (.iload_n 0, 1) := by decide +kernel
theorem dX11_oneOf_7 : decode cX11_oneOf 7 = .ok (.iconst 1, 1) := by decide +kernel
theorem dX11_oneOf_8 : decode cX11_oneOf 8 = .ok (.if_icmp .ne 7, 3) := by decide +kernel
theorem dX11_oneOf_15 : decode cX11_oneOf 15 = .ok (.iload_n 3, 1) := by decide +kernel
theorem dX11_oneOf_16 : decode cX11_oneOf 16 = .ok (.ireturn, 1) := by decide +kernel
theorem dX11_oneOf_11 : decode cX11_oneOf 11 = .ok (.iload_n 2, 1) := by decide +kernel
theorem dX11_oneOf_12 : decode cX11_oneOf 12 = .ok (.goto 4, 3) := by decide +kernel
theorem dX11_oneOf_4 : decode cX11_oneOf 4 = .ok (.iload_n 1, 1) := by decide +kernel
theorem dX11_oneOf_5 : decode cX11_oneOf 5 = .ok (.ireturn, 1) := by decide +kernel
set_option maxHeartbeats 400000 in
set_option maxRecDepth 100000 in
theorem c_oneOf (l : Launch) (D : va_G) (cy : Nat → ClassId) (wh : Int32) (cn : Int32) (fi : Int32) (la : Int32)  : XMi l D (tyL cy) E0 yX11_oneOf cX11_oneOf 4 (some .int) (rmk 0 0 0) [.int wh, .int cn, .int fi, .int la] [] (fun (r : Int32) (_ : Unit) => r = if wh.toInt = 0 then cn else if wh.toInt = 1 then fi else la) (fun (_ : Unit) => []) := by
  refine XMi.start (by decide) (Nat.le_of_ble_eq_true rfl) ?_
  intro p e s m below meth c args A ls Q hat hQ
  obtain ⟨hx, hb, hr, hml, hown, hg, hlocks, hin, hK, hA, hP, hD, hS, hE, hl⟩ := hat
  have hown : s.vm.findClass RX11 = some m.cls := hown
  have hl : lv_has ls 4 [(0, .int wh), (1, .int cn), (2, .int fi), (3, .int la)] := hl
  refine lv_iload_n hx hb dX11_oneOf_0 rfl (lv_at hl 0 rfl) ?_
  refine lv_if_ne (tgt := 6) hx hb dX11_oneOf_1 (by decide) (fun c_1 => ?_) (fun c_1 => ?_)
  · refine lv_iload_n hx hb dX11_oneOf_6 rfl (lv_at hl 0 rfl) ?_
    refine lv_iconst (v := 1) hx hb dX11_oneOf_7 (by decide) ?_
    refine lv_icmp_ne (tgt := 15) hx hb dX11_oneOf_8 (by decide) (fun c_8 => ?_) (fun c_8 => ?_)
    · refine lv_iload_n hx hb dX11_oneOf_15 rfl (lv_at hl 3 rfl) ?_
      have qc_1 : ¬ (wh : Int32).toInt = (0 : Int32).toInt := fun h => c_1 ((fa_eq _ _).mpr h)
      have qc_8 : ¬ (wh : Int32).toInt = (1 : Int32).toInt := fun h => c_8 ((fa_eq _ _).mpr h)
      have z0 : (0 : Int32).toInt = 0 := by decide
      have z1 : (1 : Int32).toInt = 1 := by decide
      exact x_iret hQ hx hb hr hlocks hK hP hD hS dX11_oneOf_16 () (by rw [if_neg (by omega), if_neg (by omega)]) [] (by decide) rfl (Nat.le_of_ble_eq_true rfl) (Nat.le_of_ble_eq_true rfl)
    · refine lv_iload_n hx hb dX11_oneOf_11 rfl (lv_at hl 2 rfl) ?_
      refine lv_goto (tgt := 16) hx hb dX11_oneOf_12 (by decide) ?_
      have qc_1 : ¬ (wh : Int32).toInt = (0 : Int32).toInt := fun h => c_1 ((fa_eq _ _).mpr h)
      have qc_8 : (wh : Int32).toInt = (1 : Int32).toInt := (fa_eq _ _).mp c_8
      have z0 : (0 : Int32).toInt = 0 := by decide
      have z1 : (1 : Int32).toInt = 1 := by decide
      exact x_iret hQ hx hb hr hlocks hK hP hD hS dX11_oneOf_16 () (by rw [if_neg (by omega), if_pos (by omega)]) [] (by decide) rfl (Nat.le_of_ble_eq_true rfl) (Nat.le_of_ble_eq_true rfl)
  · refine lv_iload_n hx hb dX11_oneOf_4 rfl (lv_at hl 1 rfl) ?_
    have qc_1 : (wh : Int32).toInt = (0 : Int32).toInt := (fa_eq _ _).mp c_1
    have z0 : (0 : Int32).toInt = 0 := by decide
    have z1 : (1 : Int32).toInt = 1 := by decide
    exact x_iret hQ hx hb hr hlocks hK hP hD hS dX11_oneOf_5 () ((if_pos (by omega)).symm) [] (by decide) rfl (Nat.le_of_ble_eq_true rfl) (Nat.le_of_ble_eq_true rfl)
theorem dX11_yeas_0 : decode cX11_yeas 0 = .ok (.iload_n 1, 1) := by decide +kernel
theorem dX11_yeas_1 : decode cX11_yeas 1 = .ok (.ifCond .lt 18, 3) := by decide +kernel
theorem dX11_yeas_19 : decode cX11_yeas 19 = .ok (.iconst (-1), 1) := by decide +kernel
theorem dX11_yeas_20 : decode cX11_yeas 20 = .ok (.ireturn, 1) := by decide +kernel
theorem dX11_yeas_4 : decode cX11_yeas 4 = .ok (.iload_n 1, 1) := by decide +kernel
theorem dX11_yeas_5 : decode cX11_yeas 5 = .ok (.bipush 10, 2) := by decide +kernel
theorem dX11_yeas_7 : decode cX11_yeas 7 = .ok (.if_icmp .ge 12, 3) := by decide +kernel
theorem dX11_yeas_10 : decode cX11_yeas 10 = .ok (.iload_n 2, 1) := by decide +kernel
theorem dX11_yeas_11 : decode cX11_yeas 11 = .ok (.ifCond .lt 8, 3) := by decide +kernel
theorem dX11_yeas_14 : decode cX11_yeas 14 = .ok (.iload_n 2, 1) := by decide +kernel
theorem dX11_yeas_15 : decode cX11_yeas 15 = .ok (.iconst 2, 1) := by decide +kernel
theorem dX11_yeas_16 : decode cX11_yeas 16 = .ok (.if_icmp .le 5, 3) := by decide +kernel
theorem dX11_yeas_21 : decode cX11_yeas 21 = .ok (.aload_n 0, 1) := by decide +kernel
theorem dX11_yeas_22 : decode cX11_yeas 22 = .ok (.aload_n 0, 1) := by decide +kernel
theorem dX11_yeas_23 : decode cX11_yeas 23 = .ok (.getfield 75, 3) := by decide +kernel
theorem m_667 : (Cond.fieldLink RX11 75 "CliffJudges" "shout" "LCliffJudges$Shout;") ∈ gT := gm 667 (by decide +kernel) (by decide +kernel)
theorem dX11_yeas_26 : decode cX11_yeas 26 = .ok (.invokevirtual 220, 3) := by decide +kernel
theorem m_1009 : (Cond.methodLink RX11 220 yX11_loadWeather) ∈ gT := gm 1009 (by decide +kernel) (by decide +kernel)
theorem m_1011 : (Cond.instanceMethod yX11_loadWeather) ∈ gT := gm 1011 (by decide +kernel) (by decide +kernel)
theorem m_32 : (Cond.selects RX11 yX11_loadWeather yX11_loadWeather) ∈ gT := gm 32 (by decide +kernel) (by decide +kernel)
theorem m_1012 : (Cond.code yX11_loadWeather cX11_loadWeather 2 none) ∈ gT := gm 1012 (by decide +kernel) (by decide +kernel)
theorem k_X11_220 : xV RX11 RX11 220 yX11_loadWeather cX11_loadWeather 2 none 1 := ⟨⟨m_1009, m_1011, m_32, m_130, m_1012⟩, rfl, by decide, by decide, by decide +kernel⟩
theorem dX11_yeas_29 : decode cX11_yeas 29 = .ok (.aload_n 0, 1) := by decide +kernel
theorem dX11_yeas_30 : decode cX11_yeas 30 = .ok (.aload_n 0, 1) := by decide +kernel
theorem dX11_yeas_31 : decode cX11_yeas 31 = .ok (.getfield 75, 3) := by decide +kernel
theorem dX11_yeas_34 : decode cX11_yeas 34 = .ok (.iconst 0, 1) := by decide +kernel
theorem dX11_yeas_35 : decode cX11_yeas 35 = .ok (.invokevirtual 212, 3) := by decide +kernel
theorem m_1014 : (Cond.methodLink RX11 212 yX11_loadCry) ∈ gT := gm 1014 (by decide +kernel) (by decide +kernel)
theorem m_1016 : (Cond.instanceMethod yX11_loadCry) ∈ gT := gm 1016 (by decide +kernel) (by decide +kernel)
theorem m_33 : (Cond.selects RX11 yX11_loadCry yX11_loadCry) ∈ gT := gm 33 (by decide +kernel) (by decide +kernel)
theorem m_1017 : (Cond.code yX11_loadCry cX11_loadCry 4 none) ∈ gT := gm 1017 (by decide +kernel) (by decide +kernel)
theorem k_X11_212 : xV RX11 RX11 212 yX11_loadCry cX11_loadCry 4 none 2 := ⟨⟨m_1014, m_1016, m_33, m_130, m_1017⟩, rfl, by decide, by decide, by decide +kernel⟩
theorem dX11_yeas_38 : decode cX11_yeas 38 = .ok (.aload_n 0, 1) := by decide +kernel
theorem dX11_yeas_39 : decode cX11_yeas 39 = .ok (.getfield 75, 3) := by decide +kernel
theorem dX11_yeas_42 : decode cX11_yeas 42 = .ok (.iload_n 1, 1) := by decide +kernel
theorem dX11_yeas_43 : decode cX11_yeas 43 = .ok (.putfield 224, 3) := by decide +kernel
theorem m_638 : (Cond.fieldLink RX11 224 "CliffJudges$Shout" "voice" "I") ∈ gT := gm 638 (by decide +kernel) (by decide +kernel)
theorem dX11_yeas_46 : decode cX11_yeas 46 = .ok (.iconst 0, 1) := by decide +kernel
theorem dX11_yeas_47 : decode cX11_yeas 47 = .ok (.istore_n 3, 1) := by decide +kernel
theorem dX11_yeas_48 : decode cX11_yeas 48 = .ok (.iconst (-1), 1) := by decide +kernel
theorem dX11_yeas_49 : decode cX11_yeas 49 = .ok (.istore 4, 2) := by decide +kernel
theorem dX11_yeas_51 : decode cX11_yeas 51 = .ok (.iconst (-1), 1) := by decide +kernel
theorem dX11_yeas_52 : decode cX11_yeas 52 = .ok (.istore 5, 2) := by decide +kernel
theorem dX11_yeas_54 : decode cX11_yeas 54 = .ok (.iconst 0, 1) := by decide +kernel
theorem dX11_yeas_55 : decode cX11_yeas 55 = .ok (.istore 6, 2) := by decide +kernel
theorem dX11_yeas_57 : decode cX11_yeas 57 = .ok (.iload 6, 2) := by decide +kernel
theorem dX11_yeas_59 : decode cX11_yeas 59 = .ok (.bipush 100, 2) := by decide +kernel
theorem dX11_yeas_61 : decode cX11_yeas 61 = .ok (.if_icmp .ge 63, 3) := by decide +kernel
theorem dX11_yeas_124 : decode cX11_yeas 124 = .ok (.iload_n 2, 1) := by decide +kernel
theorem dX11_yeas_125 : decode cX11_yeas 125 = .ok (.iload_n 3, 1) := by decide +kernel
theorem dX11_yeas_126 : decode cX11_yeas 126 = .ok (.iload 4, 2) := by decide +kernel
theorem dX11_yeas_128 : decode cX11_yeas 128 = .ok (.iload 5, 2) := by decide +kernel
theorem dX11_yeas_130 : decode cX11_yeas 130 = .ok (.invokestatic 228, 3) := by decide +kernel
theorem m_1219 : (Cond.methodLink RX11 228 yX11_oneOf) ∈ gT := gm 1219 (by decide +kernel) (by decide +kernel)
theorem m_1220 : (Cond.static yX11_oneOf) ∈ gT := gm 1220 (by decide +kernel) (by decide +kernel)
theorem m_1221 : (Cond.code yX11_oneOf cX11_oneOf 4 (some .int)) ∈ gT := gm 1221 (by decide +kernel) (by decide +kernel)
theorem k_X11_228 : xS RX11 228 yX11_oneOf cX11_oneOf 4 (some .int) 4 := ⟨⟨m_1219, m_1220, m_130, m_1221⟩, by decide, by decide, by decide +kernel⟩
theorem dX11_yeas_133 : decode cX11_yeas 133 = .ok (.ireturn, 1) := by decide +kernel
theorem dX11_yeas_64 : decode cX11_yeas 64 = .ok (.aload_n 0, 1) := by decide +kernel
theorem dX11_yeas_65 : decode cX11_yeas 65 = .ok (.getfield 75, 3) := by decide +kernel
theorem dX11_yeas_68 : decode cX11_yeas 68 = .ok (.iload 6, 2) := by decide +kernel
theorem dX11_yeas_70 : decode cX11_yeas 70 = .ok (.putfield 227, 3) := by decide +kernel
theorem m_636 : (Cond.fieldLink RX11 227 "CliffJudges$Shout" "place" "I") ∈ gT := gm 636 (by decide +kernel) (by decide +kernel)
theorem dX11_yeas_73 : decode cX11_yeas 73 = .ok (.aload_n 0, 1) := by decide +kernel
theorem dX11_yeas_74 : decode cX11_yeas 74 = .ok (.getfield 52, 3) := by decide +kernel
theorem m_664 : (Cond.fieldLink RX11 52 "CliffJudges" "court" "LCliffJudges$Court;") ∈ gT := gm 664 (by decide +kernel) (by decide +kernel)
theorem dX11_yeas_77 : decode cX11_yeas 77 = .ok (.aload_n 0, 1) := by decide +kernel
theorem dX11_yeas_78 : decode cX11_yeas 78 = .ok (.getfield 28, 3) := by decide +kernel
theorem dX11_yeas_81 : decode cX11_yeas 81 = .ok (.aload_n 0, 1) := by decide +kernel
theorem dX11_yeas_82 : decode cX11_yeas 82 = .ok (.getfield 75, 3) := by decide +kernel
theorem dX11_yeas_85 : decode cX11_yeas 85 = .ok (.aload_n 0, 1) := by decide +kernel
theorem dX11_yeas_86 : decode cX11_yeas 86 = .ok (.getfield 82, 3) := by decide +kernel
theorem m_669 : (Cond.fieldLink RX11 82 "CliffJudges" "silence" "LCliffJudges$Shout;") ∈ gT := gm 669 (by decide +kernel) (by decide +kernel)
theorem dX11_yeas_89 : decode cX11_yeas 89 = .ok (.invokevirtual 164, 3) := by decide +kernel
theorem m_1018 : (Cond.methodLink RX11 164 yX0_verdict) ∈ gT := gm 1018 (by decide +kernel) (by decide +kernel)
theorem m_1019 : (Cond.instanceMethod yX0_verdict) ∈ gT := gm 1019 (by decide +kernel) (by decide +kernel)
theorem m_1020 : (Cond.selects RX0 yX0_verdict yX0_verdict) ∈ gT := gm 1020 (by decide +kernel) (by decide +kernel)
theorem m_141 : (Cond.initialized RX0) ∈ gT := gm 141 (by decide +kernel) (by decide +kernel)
theorem m_1021 : (Cond.code yX0_verdict cX0_verdict 7 (some .int)) ∈ gT := gm 1021 (by decide +kernel) (by decide +kernel)
theorem k_X11_164 : xV RX11 RX0 164 yX0_verdict cX0_verdict 7 (some .int) 3 := ⟨⟨m_1018, m_1019, m_1020, m_141, m_1021⟩, rfl, by decide, by decide, by decide +kernel⟩
theorem dX11_yeas_92 : decode cX11_yeas 92 = .ok (.iconst 2, 1) := by decide +kernel
theorem dX11_yeas_93 : decode cX11_yeas 93 = .ok (.if_icmp .ne 25, 3) := by decide +kernel
theorem dX11_yeas_118 : decode cX11_yeas 118 = .ok (.iinc 6 1, 3) := by decide +kernel
theorem dX11_yeas_121 : decode cX11_yeas 121 = .ok (.goto (-64), 3) := by decide +kernel
set_option maxHeartbeats 400000 in
set_option maxRecDepth 100000 in
theorem t_yeas (l : Launch) (D : va_G) (cy : Nat → ClassId) (a0 : Nat) (w0 : Value) (w1 : Value) (w3 : Value) (w5 : Value) (w7 : Value) (w8 : Value) (w10 : Value) (w12 : Value) (w13 : Value) (si0 : Nat) (n0 : Nat) (n1 : Nat) (n2 : Nat) (n3 : Nat) (z3 : Value) (z4 : Value) (z5 : Value) (z6 : Value) (sh0 : Nat) (sh1 : Nat) (xv0 : Value) (xv2 : Value) (xv4 : Value) (xv5 : Value) (xv6 : Value) (fs : Nat → Int32) (co0 : Nat) (cv0 : Value) (cv1 : Value) (cv2 : Int32) (h0 : Nat) (h1 : Nat) (v1 : Value) (v2 : Value) (v3 : Value) (v4 : Value) (v5 : Value) (v6 : Value) (v7 : Value) (v8 : Value) (v9 : Value) (v10 : Value) (v11 : Value) (v12 : Value) (v13 : Value) (v14 : Value) (v15 : Value) (ka : Int32) (kb : Int32) (pl : Int32)  : XMi l D (tyL cy) E0 yX11_yeas cX11_yeas 7 (some .int) (rmk 3 0 0) [.ref a0, .int ka, .int kb] [(a0, .inr (11, [w0, w1, .ref h0, w3, .ref n0, w5, .ref co0, w7, w8, .ref sh0, w10, .ref si0, w12, w13])), (n0, .inr (5, [.ref n1, .ref n2, .ref n3, z3, z4, z5, z6])), (n1, .inl (cy 1, 41, .inl (fun _ => 0))), (sh0, .inr (7, [xv0, .ref sh1, xv2, .int pl, xv4, xv5, xv6])), (sh1, .inl (cy 1, 4, .inl (fs))), (co0, .inr (0, [cv0, cv1, .int cv2])), (h0, .inr (4, [.ref h1, v1, v2, v3, v4, v5, v6, v7, v8, v9, v10, v11, v12, v13, v14, v15])), (h1, .inl (cy 1, 4, .inl (fun _ => 0)))] (fun (r : Int32) (_ : Unit) => r = if 0 ≤ ka.toInt ∧ ka.toInt ≤ 9 ∧ kb.toInt = 0 then 0 else -1) (fun (_ : Unit) => []) := by
  refine XMi.start (by decide) (Nat.le_of_ble_eq_true rfl) ?_
  intro p e s m below meth c args A ls Q hat hQ
  obtain ⟨hx, hb, hr, hml, hown, hg, hlocks, hin, hK, hA, hP, hD, hS, hE, hl⟩ := hat
  have hown : s.vm.findClass RX11 = some m.cls := hown
  have hl : lv_has ls 7 [(0, .ref a0), (1, .int ka), (2, .int kb)] := hl
  refine lv_iload_n hx hb dX11_yeas_0 rfl (lv_at hl 1 rfl) ?_
  refine lv_if_lt (tgt := 19) hx hb dX11_yeas_1 (by decide) (fun c_1 => ?_) (fun c_1 => ?_)
  · refine lv_iconst (v := -1) hx hb dX11_yeas_19 (by decide) ?_
    have qc_1 : (ka : Int32).toInt < (0 : Int32).toInt := (fa_lt _ _).mp c_1
    have z0 : (0 : Int32).toInt = 0 := by decide
    exact x_iret hQ hx hb hr hlocks hK hP hD hS dX11_yeas_20 () ((if_neg (by omega)).symm) [] (by decide) rfl (Nat.le_of_ble_eq_true rfl) (Nat.le_of_ble_eq_true rfl)
  · refine lv_iload_n hx hb dX11_yeas_4 rfl (lv_at hl 1 rfl) ?_
    refine lv_bipush (v := 10) hx hb dX11_yeas_5 (by decide) ?_
    refine lv_icmp_ge (tgt := 19) hx hb dX11_yeas_7 (by decide) (fun c_7 => ?_) (fun c_7 => ?_)
    · refine lv_iconst (v := -1) hx hb dX11_yeas_19 (by decide) ?_
      have qc_1 : ¬ (ka : Int32).toInt < (0 : Int32).toInt := fun h => c_1 ((fa_lt _ _).mpr h)
      have qc_7 : (10 : Int32).toInt ≤ (ka : Int32).toInt := (fa_le _ _).mp c_7
      have z0 : (0 : Int32).toInt = 0 := by decide
      have z10 : (10 : Int32).toInt = 10 := by decide
      exact x_iret hQ hx hb hr hlocks hK hP hD hS dX11_yeas_20 () ((if_neg (by omega)).symm) [] (by decide) rfl (Nat.le_of_ble_eq_true rfl) (Nat.le_of_ble_eq_true rfl)
    · refine lv_iload_n hx hb dX11_yeas_10 rfl (lv_at hl 2 rfl) ?_
      refine lv_if_lt (tgt := 19) hx hb dX11_yeas_11 (by decide) (fun c_11 => ?_) (fun c_11 => ?_)
      · refine lv_iconst (v := -1) hx hb dX11_yeas_19 (by decide) ?_
        have qc_1 : ¬ (ka : Int32).toInt < (0 : Int32).toInt := fun h => c_1 ((fa_lt _ _).mpr h)
        have qc_7 : ¬ (10 : Int32).toInt ≤ (ka : Int32).toInt := fun h => c_7 ((fa_le _ _).mpr h)
        have qc_11 : (kb : Int32).toInt < (0 : Int32).toInt := (fa_lt _ _).mp c_11
        have z0 : (0 : Int32).toInt = 0 := by decide
        have z10 : (10 : Int32).toInt = 10 := by decide
        exact x_iret hQ hx hb hr hlocks hK hP hD hS dX11_yeas_20 () ((if_neg (by omega)).symm) [] (by decide) rfl (Nat.le_of_ble_eq_true rfl) (Nat.le_of_ble_eq_true rfl)
      · refine lv_iload_n hx hb dX11_yeas_14 rfl (lv_at hl 2 rfl) ?_
        refine lv_iconst (v := 2) hx hb dX11_yeas_15 (by decide) ?_
        refine lv_icmp_le (tgt := 21) hx hb dX11_yeas_16 (by decide) (fun c_16 => ?_) (fun c_16 => ?_)
        · refine lv_aload_n hx hb dX11_yeas_21 rfl (lv_at hl 0 rfl) ?_
          refine lv_aload_n hx hb dX11_yeas_22 rfl (lv_at hl 0 rfl) ?_
          refine va_get (D := D) (ci := 11) (v := .ref sh0) (C := RX11) (T := TX11) (N := 14) hx hb hg i_X11 hown hK hP 0 rfl rfl 9 (by decide) (hg _ m_667) (fun _ h9 => h9) rfl dX11_yeas_23 ?_
          refine x_callVv (q := (RX11, TX11, 14)) (ci := 11) (q0 := 0) (wr := [(co0, .inr (0, [cv0, cv1, .int cv2])), (h0, .inr (4, [.ref h1, v1, v2, v3, v4, v5, v6, v7, v8, v9, v10, v11, v12, v13, v14, v15])), (h1, .inl (cy 1, 4, .inl (fun _ => 0)))]) (rest := []) ⟨hx, hb, hml, hown, hg, hl.1⟩ k_X11_220 (c_loadWeather l D cy a0 w0 w1 ((.ref h0)) w3 w5 ((.ref co0)) w7 w8 ((.ref sh0)) w10 ((.ref si0)) w12 w13 n0 n1 n2 n3 z3 z4 z5 z6 sh0 sh1 xv0 xv2 ((.int pl)) xv4 xv5 xv6 fs) E0_blind hK hP hD hS hA [0, 1, 2, 3, 4] [5, 6, 7] ⟨rfl, rfl, by decide, by decide, by decide⟩ rfl rfl (fun _ _ _ => trivial) dX11_yeas_26 rfl rfl (Nat.le_of_ble_eq_true rfl) ⟨Nat.le_of_ble_eq_true rfl, Nat.le_of_ble_eq_true rfl⟩ ⟨Nat.le_of_ble_eq_true rfl, Nat.le_of_ble_eq_true rfl⟩ (fun u1 H locs hw1 hP hD hS => ?_)
          obtain ⟨fs2_2, rfl⟩ : ∃ z, z = u1 := ⟨_, rfl⟩
          have hP : va_P D vwCl [(co0, .inr (0, [cv0, cv1, .int cv2])), (h0, .inr (4, [.ref h1, v1, v2, v3, v4, v5, v6, v7, v8, v9, v10, v11, v12, v13, v14, v15])), (h1, .inl (cy 1, 4, .inl (fun _ => 0))), (a0, .inr (11, [w0, w1, .ref h0, w3, .ref n0, w5, .ref co0, w7, w8, .ref sh0, w10, .ref si0, w12, w13])), (n0, .inr (5, [.ref n1, .ref n2, .ref n3, z3, z4, z5, z6])), (n1, .inl (cy 1, 41, .inl (fun _ => 0))), (sh0, .inr (7, [xv0, .ref sh1, xv2, .int pl, xv4, .int 0, .int 0])), (sh1, .inl (cy 1, 4, .inl (fs2_2)))] H := hP
          have hD : va_D A [(co0, .inr (0, [cv0, cv1, .int cv2])), (h0, .inr (4, [.ref h1, v1, v2, v3, v4, v5, v6, v7, v8, v9, v10, v11, v12, v13, v14, v15])), (h1, .inl (cy 1, 4, .inl (fun _ => 0))), (a0, .inr (11, [w0, w1, .ref h0, w3, .ref n0, w5, .ref co0, w7, w8, .ref sh0, w10, .ref si0, w12, w13])), (n0, .inr (5, [.ref n1, .ref n2, .ref n3, z3, z4, z5, z6])), (n1, .inl (cy 1, 41, .inl (fun _ => 0))), (sh0, .inr (7, [xv0, .ref sh1, xv2, .int pl, xv4, .int 0, .int 0])), (sh1, .inl (cy 1, 4, .inl (fs2_2)))] := hD
          refine W.widen (k := 0) (n := 0) (Nat.le_of_ble_eq_true rfl) (Nat.le_of_ble_eq_true rfl) ?_
          refine lv_aload_n hx hb dX11_yeas_29 rfl (lv_at hl 0 rfl) ?_
          refine lv_aload_n hx hb dX11_yeas_30 rfl (lv_at hl 0 rfl) ?_
          refine va_get (D := D) (ci := 11) (v := .ref sh0) (C := RX11) (T := TX11) (N := 14) hx hb hg i_X11 hown hK hP 3 rfl rfl 9 (by decide) (hg _ m_667) (fun _ h9 => h9) rfl dX11_yeas_31 ?_
          refine lv_iconst (v := 0) hx hb dX11_yeas_34 (by decide) ?_
          refine x_callVv (q := (RX11, TX11, 14)) (ci := 11) (q0 := 0) (wr := [(co0, .inr (0, [cv0, cv1, .int cv2])), (h0, .inr (4, [.ref h1, v1, v2, v3, v4, v5, v6, v7, v8, v9, v10, v11, v12, v13, v14, v15])), (h1, .inl (cy 1, 4, .inl (fun _ => 0))), (sh1, .inl (cy 1, 4, .inl (fs2_2)))]) (rest := []) ⟨hx, hb, hml, hown, hg, hl.1⟩ k_X11_212 (c_loadCry l D cy a0 w0 w1 ((.ref h0)) w3 w5 ((.ref co0)) w7 w8 ((.ref sh0)) w10 ((.ref si0)) w12 w13 n0 n1 n2 n3 z3 z4 z5 z6 sh0 sh1 xv0 xv2 ((.int pl)) xv4 ((.int 0)) ((.int 0))) E0_blind hK hP hD hS hA [3, 4, 5, 6] [0, 1, 2, 7] ⟨rfl, rfl, by decide, by decide, by decide⟩ rfl rfl (fun _ _ _ => trivial) dX11_yeas_35 rfl rfl (Nat.le_of_ble_eq_true rfl) ⟨Nat.le_of_ble_eq_true rfl, Nat.le_of_ble_eq_true rfl⟩ ⟨Nat.le_of_ble_eq_true rfl, Nat.le_of_ble_eq_true rfl⟩ (fun u3 H locs hw3 hP hD hS => ?_)
          have hP : va_P D vwCl [(co0, .inr (0, [cv0, cv1, .int cv2])), (h0, .inr (4, [.ref h1, v1, v2, v3, v4, v5, v6, v7, v8, v9, v10, v11, v12, v13, v14, v15])), (h1, .inl (cy 1, 4, .inl (fun _ => 0))), (sh1, .inl (cy 1, 4, .inl (fs2_2))), (a0, .inr (11, [w0, w1, .ref h0, w3, .ref n0, w5, .ref co0, w7, w8, .ref sh0, w10, .ref si0, w12, w13])), (n0, .inr (5, [.ref n1, .ref n2, .ref n3, z3, z4, z5, z6])), (n1, .inl (cy 1, 41, .inl (fun _ => 0))), (sh0, .inr (7, [xv0, .ref sh1, .int 0, .int pl, xv4, .int 0, .int 0]))] H := hP
          have hD : va_D A [(co0, .inr (0, [cv0, cv1, .int cv2])), (h0, .inr (4, [.ref h1, v1, v2, v3, v4, v5, v6, v7, v8, v9, v10, v11, v12, v13, v14, v15])), (h1, .inl (cy 1, 4, .inl (fun _ => 0))), (sh1, .inl (cy 1, 4, .inl (fs2_2))), (a0, .inr (11, [w0, w1, .ref h0, w3, .ref n0, w5, .ref co0, w7, w8, .ref sh0, w10, .ref si0, w12, w13])), (n0, .inr (5, [.ref n1, .ref n2, .ref n3, z3, z4, z5, z6])), (n1, .inl (cy 1, 41, .inl (fun _ => 0))), (sh0, .inr (7, [xv0, .ref sh1, .int 0, .int pl, xv4, .int 0, .int 0]))] := hD
          refine W.widen (k := 0) (n := 0) (Nat.le_of_ble_eq_true rfl) (Nat.le_of_ble_eq_true rfl) ?_
          refine lv_aload_n hx hb dX11_yeas_38 rfl (lv_at hl 0 rfl) ?_
          refine va_get (D := D) (ci := 11) (v := .ref sh0) (C := RX11) (T := TX11) (N := 14) hx hb hg i_X11 hown hK hP 4 rfl rfl 9 (by decide) (hg _ m_667) (fun _ h9 => h9) rfl dX11_yeas_39 ?_
          refine lv_iload_n hx hb dX11_yeas_42 rfl (lv_at hl 1 rfl) ?_
          refine va_put (D := D) (ci := 7) (v := .int ka) (ty := .int) (C := RX7) (T := TX7) (N := 7) hx hb hg i_X7 tyX7 tyX7_ok nmX7 hown hK hP hD hS 7 rfl rfl 4 (by decide) (hg _ m_638) (fun _ h9 => h9) rfl (by decide +kernel) rfl rfl (Nat.le_of_ble_eq_true rfl) dX11_yeas_43 (fun H locs hP hD hS => ?_)
          have hP : va_P D vwCl [(co0, .inr (0, [cv0, cv1, .int cv2])), (h0, .inr (4, [.ref h1, v1, v2, v3, v4, v5, v6, v7, v8, v9, v10, v11, v12, v13, v14, v15])), (h1, .inl (cy 1, 4, .inl (fun _ => 0))), (sh1, .inl (cy 1, 4, .inl (fs2_2))), (a0, .inr (11, [w0, w1, .ref h0, w3, .ref n0, w5, .ref co0, w7, w8, .ref sh0, w10, .ref si0, w12, w13])), (n0, .inr (5, [.ref n1, .ref n2, .ref n3, z3, z4, z5, z6])), (n1, .inl (cy 1, 41, .inl (fun _ => 0))), (sh0, .inr (7, [xv0, .ref sh1, .int 0, .int pl, .int ka, .int 0, .int 0]))] H := hP
          have hD : va_D A [(co0, .inr (0, [cv0, cv1, .int cv2])), (h0, .inr (4, [.ref h1, v1, v2, v3, v4, v5, v6, v7, v8, v9, v10, v11, v12, v13, v14, v15])), (h1, .inl (cy 1, 4, .inl (fun _ => 0))), (sh1, .inl (cy 1, 4, .inl (fs2_2))), (a0, .inr (11, [w0, w1, .ref h0, w3, .ref n0, w5, .ref co0, w7, w8, .ref sh0, w10, .ref si0, w12, w13])), (n0, .inr (5, [.ref n1, .ref n2, .ref n3, z3, z4, z5, z6])), (n1, .inl (cy 1, 41, .inl (fun _ => 0))), (sh0, .inr (7, [xv0, .ref sh1, .int 0, .int pl, .int ka, .int 0, .int 0]))] := hD
          refine lv_iconst (v := 0) hx hb dX11_yeas_46 (by decide) ?_
          refine lv_istore_n (lv' := [(3, .int 0), (0, .ref a0), (1, .int ka), (2, .int kb)]) hx hb dX11_yeas_47 rfl hl (by decide) rfl (fun ls hl => ?_)
          refine lv_iconst (v := -1) hx hb dX11_yeas_48 (by decide) ?_
          refine lv_istore (lv' := [(4, .int (-1)), (3, .int 0), (0, .ref a0), (1, .int ka), (2, .int kb)]) hx hb dX11_yeas_49 hl (by decide) rfl (fun ls hl => ?_)
          refine lv_iconst (v := -1) hx hb dX11_yeas_51 (by decide) ?_
          refine lv_istore (lv' := [(5, .int (-1)), (4, .int (-1)), (3, .int 0), (0, .ref a0), (1, .int ka), (2, .int kb)]) hx hb dX11_yeas_52 hl (by decide) rfl (fun ls hl => ?_)
          refine lv_iconst (v := 0) hx hb dX11_yeas_54 (by decide) ?_
          refine lv_istore (lv' := [(6, .int 0), (5, .int (-1)), (4, .int (-1)), (3, .int 0), (0, .ref a0), (1, .int ka), (2, .int kb)]) hx hb dX11_yeas_55 hl (by decide) rfl (fun ls hl => ?_)
          have loop4 : ∀ (n i4 : Nat), i4 ≤ 100 → 101 ≤ i4 + n → ∀ (pq : Int32), ∀ (bq : Int32), ∀ (H : Heap) (locs : List Loc), va_P D vwCl [(co0, .inr (0, [cv0, cv1, .int bq])), (h0, .inr (4, [.ref h1, v1, v2, v3, v4, v5, v6, v7, v8, v9, v10, v11, v12, v13, v14, v15])), (h1, .inl (cy 1, 4, .inl (fun _ => 0))), (sh1, .inl (cy 1, 4, .inl (fs2_2))), (a0, .inr (11, [w0, w1, .ref h0, w3, .ref n0, w5, .ref co0, w7, w8, .ref sh0, w10, .ref si0, w12, w13])), (n0, .inr (5, [.ref n1, .ref n2, .ref n3, z3, z4, z5, z6])), (n1, .inl (cy 1, 41, .inl (fun _ => 0))), (sh0, .inr (7, [xv0, .ref sh1, .int 0, .int pq, .int ka, .int 0, .int 0]))] H → va_D A [(co0, .inr (0, [cv0, cv1, .int bq])), (h0, .inr (4, [.ref h1, v1, v2, v3, v4, v5, v6, v7, v8, v9, v10, v11, v12, v13, v14, v15])), (h1, .inl (cy 1, 4, .inl (fun _ => 0))), (sh1, .inl (cy 1, 4, .inl (fs2_2))), (a0, .inr (11, [w0, w1, .ref h0, w3, .ref n0, w5, .ref co0, w7, w8, .ref sh0, w10, .ref si0, w12, w13])), (n0, .inr (5, [.ref n1, .ref n2, .ref n3, z3, z4, z5, z6])), (n1, .inl (cy 1, 41, .inl (fun _ => 0))), (sh0, .inr (7, [xv0, .ref sh1, .int 0, .int pq, .int ka, .int 0, .int 0]))] → va_S A s.heap H locs → ∀ ls : Array Slot, lv_has ls 7 [(6, .int (nI i4)), (5, .int (-1)), (4, .int (-1)), (3, .int 0), (0, .ref a0), (1, .int ka), (2, .int kb)] → W p l e (rmk 3 0 0) s m args below meth c H locs 0 0 Q (F0 m 57 ls []) := by
            intro n
            induction n with
            | zero => intro i4 h1 h2; exact absurd h2 (by omega)
            | succ n ih =>
              intro i4 hi4 hn4 pq bq H locs hP hD hS ls hl
              have ih4 := ih
              refine lv_iload hx hb dX11_yeas_57 (lv_at hl 0 rfl) ?_
              refine lv_bipush (v := 100) hx hb dX11_yeas_59 (by decide) ?_
              refine lv_icmp_ge (tgt := 124) hx hb dX11_yeas_61 (by decide) (fun c4 => ?_) (fun c4 => ?_)
              · have hend4 : i4 = 100 := lp_end (N := 100) (by decide) hi4 (by decide) c4
                subst hend4
                refine lv_iload_n hx hb dX11_yeas_124 rfl (lv_at hl 6 rfl) ?_
                refine lv_iload_n hx hb dX11_yeas_125 rfl (lv_at hl 3 rfl) ?_
                refine lv_iload hx hb dX11_yeas_126 (lv_at hl 2 rfl) ?_
                refine lv_iload hx hb dX11_yeas_128 (lv_at hl 1 rfl) ?_
                refine x_callSi (wr := [(co0, .inr (0, [cv0, cv1, .int bq])), (h0, .inr (4, [.ref h1, v1, v2, v3, v4, v5, v6, v7, v8, v9, v10, v11, v12, v13, v14, v15])), (h1, .inl (cy 1, 4, .inl (fun _ => 0))), (sh1, .inl (cy 1, 4, .inl (fs2_2))), (a0, .inr (11, [w0, w1, .ref h0, w3, .ref n0, w5, .ref co0, w7, w8, .ref sh0, w10, .ref si0, w12, w13])), (n0, .inr (5, [.ref n1, .ref n2, .ref n3, z3, z4, z5, z6])), (n1, .inl (cy 1, 41, .inl (fun _ => 0))), (sh0, .inr (7, [xv0, .ref sh1, .int 0, .int pq, .int ka, .int 0, .int 0]))]) (rest := []) ⟨hx, hb, hml, hown, hg, hl.1⟩ k_X11_228 (c_oneOf l D cy kb 0 (-1) (-1)) E0_blind hK hP hD hS hA [] [0, 1, 2, 3, 4, 5, 6, 7] ⟨rfl, rfl, by decide, by decide, by decide⟩ (fun _ _ _ => trivial) dX11_yeas_130 rfl rfl (Nat.le_of_ble_eq_true rfl) ⟨Nat.le_of_ble_eq_true rfl, Nat.le_of_ble_eq_true rfl⟩ ⟨Nat.le_of_ble_eq_true rfl, Nat.le_of_ble_eq_true rfl⟩ (fun r5 u5 H locs hw5 hP hD hS => ?_)
                have hP : va_P D vwCl [(co0, .inr (0, [cv0, cv1, .int bq])), (h0, .inr (4, [.ref h1, v1, v2, v3, v4, v5, v6, v7, v8, v9, v10, v11, v12, v13, v14, v15])), (h1, .inl (cy 1, 4, .inl (fun _ => 0))), (sh1, .inl (cy 1, 4, .inl (fs2_2))), (a0, .inr (11, [w0, w1, .ref h0, w3, .ref n0, w5, .ref co0, w7, w8, .ref sh0, w10, .ref si0, w12, w13])), (n0, .inr (5, [.ref n1, .ref n2, .ref n3, z3, z4, z5, z6])), (n1, .inl (cy 1, 41, .inl (fun _ => 0))), (sh0, .inr (7, [xv0, .ref sh1, .int 0, .int pq, .int ka, .int 0, .int 0]))] H := hP
                have hD : va_D A [(co0, .inr (0, [cv0, cv1, .int bq])), (h0, .inr (4, [.ref h1, v1, v2, v3, v4, v5, v6, v7, v8, v9, v10, v11, v12, v13, v14, v15])), (h1, .inl (cy 1, 4, .inl (fun _ => 0))), (sh1, .inl (cy 1, 4, .inl (fs2_2))), (a0, .inr (11, [w0, w1, .ref h0, w3, .ref n0, w5, .ref co0, w7, w8, .ref sh0, w10, .ref si0, w12, w13])), (n0, .inr (5, [.ref n1, .ref n2, .ref n3, z3, z4, z5, z6])), (n1, .inl (cy 1, 41, .inl (fun _ => 0))), (sh0, .inr (7, [xv0, .ref sh1, .int 0, .int pq, .int ka, .int 0, .int 0]))] := hD
                refine W.widen (k := 0) (n := 0) (Nat.le_of_ble_eq_true rfl) (Nat.le_of_ble_eq_true rfl) ?_
                have hw5 : r5 = if kb.toInt = 0 then 0 else if kb.toInt = 1 then (-1) else (-1) := hw5
                have qc_1 : ¬ (ka : Int32).toInt < (0 : Int32).toInt := fun h => c_1 ((fa_lt _ _).mpr h)
                have qc_7 : ¬ (10 : Int32).toInt ≤ (ka : Int32).toInt := fun h => c_7 ((fa_le _ _).mpr h)
                have qc_11 : ¬ (kb : Int32).toInt < (0 : Int32).toInt := fun h => c_11 ((fa_lt _ _).mpr h)
                have qc_16 : (kb : Int32).toInt ≤ (2 : Int32).toInt := (fa_le _ _).mp c_16
                have z0 : (0 : Int32).toInt = 0 := by decide
                have z2 : (2 : Int32).toInt = 2 := by decide
                have z10 : (10 : Int32).toInt = 10 := by decide
                exact x_iret hQ hx hb hr hlocks hK hP hD hS dX11_yeas_133 () (by rw [hw5]; by_cases h0 : kb.toInt = 0; rw [if_pos h0, if_pos (by omega)]; rw [if_neg h0, ite_self, if_neg (by omega)]) [] (by decide) rfl (Nat.le_of_ble_eq_true rfl) (Nat.le_of_ble_eq_true rfl)
              · have hlt4 : i4 < 100 := lp_go (by decide) hi4 (by decide) c4
                refine lv_aload_n hx hb dX11_yeas_64 rfl (lv_at hl 4 rfl) ?_
                refine va_get (D := D) (ci := 11) (v := .ref sh0) (C := RX11) (T := TX11) (N := 14) hx hb hg i_X11 hown hK hP 4 rfl rfl 9 (by decide) (hg _ m_667) (fun _ h9 => h9) rfl dX11_yeas_65 ?_
                refine lv_iload hx hb dX11_yeas_68 (lv_at hl 0 rfl) ?_
                refine va_put (D := D) (ci := 7) (v := .int (nI i4)) (ty := .int) (C := RX7) (T := TX7) (N := 7) hx hb hg i_X7 tyX7 tyX7_ok nmX7 hown hK hP hD hS 7 rfl rfl 3 (by decide) (hg _ m_636) (fun _ h9 => h9) rfl (by decide +kernel) rfl rfl (Nat.le_of_ble_eq_true rfl) dX11_yeas_70 (fun H locs hP hD hS => ?_)
                have hP : va_P D vwCl [(co0, .inr (0, [cv0, cv1, .int bq])), (h0, .inr (4, [.ref h1, v1, v2, v3, v4, v5, v6, v7, v8, v9, v10, v11, v12, v13, v14, v15])), (h1, .inl (cy 1, 4, .inl (fun _ => 0))), (sh1, .inl (cy 1, 4, .inl (fs2_2))), (a0, .inr (11, [w0, w1, .ref h0, w3, .ref n0, w5, .ref co0, w7, w8, .ref sh0, w10, .ref si0, w12, w13])), (n0, .inr (5, [.ref n1, .ref n2, .ref n3, z3, z4, z5, z6])), (n1, .inl (cy 1, 41, .inl (fun _ => 0))), (sh0, .inr (7, [xv0, .ref sh1, .int 0, .int (nI i4), .int ka, .int 0, .int 0]))] H := hP
                have hD : va_D A [(co0, .inr (0, [cv0, cv1, .int bq])), (h0, .inr (4, [.ref h1, v1, v2, v3, v4, v5, v6, v7, v8, v9, v10, v11, v12, v13, v14, v15])), (h1, .inl (cy 1, 4, .inl (fun _ => 0))), (sh1, .inl (cy 1, 4, .inl (fs2_2))), (a0, .inr (11, [w0, w1, .ref h0, w3, .ref n0, w5, .ref co0, w7, w8, .ref sh0, w10, .ref si0, w12, w13])), (n0, .inr (5, [.ref n1, .ref n2, .ref n3, z3, z4, z5, z6])), (n1, .inl (cy 1, 41, .inl (fun _ => 0))), (sh0, .inr (7, [xv0, .ref sh1, .int 0, .int (nI i4), .int ka, .int 0, .int 0]))] := hD
                refine lv_aload_n hx hb dX11_yeas_73 rfl (lv_at hl 4 rfl) ?_
                refine va_get (D := D) (ci := 11) (v := .ref co0) (C := RX11) (T := TX11) (N := 14) hx hb hg i_X11 hown hK hP 4 rfl rfl 6 (by decide) (hg _ m_664) (fun _ h9 => h9) rfl dX11_yeas_74 ?_
                refine lv_aload_n hx hb dX11_yeas_77 rfl (lv_at hl 4 rfl) ?_
                refine va_get (D := D) (ci := 11) (v := .ref h0) (C := RX11) (T := TX11) (N := 14) hx hb hg i_X11 hown hK hP 4 rfl rfl 2 (by decide) (hg _ m_660) (fun _ h9 => h9) rfl dX11_yeas_78 ?_
                refine lv_aload_n hx hb dX11_yeas_81 rfl (lv_at hl 4 rfl) ?_
                refine va_get (D := D) (ci := 11) (v := .ref sh0) (C := RX11) (T := TX11) (N := 14) hx hb hg i_X11 hown hK hP 4 rfl rfl 9 (by decide) (hg _ m_667) (fun _ h9 => h9) rfl dX11_yeas_82 ?_
                refine lv_aload_n hx hb dX11_yeas_85 rfl (lv_at hl 4 rfl) ?_
                refine va_get (D := D) (ci := 11) (v := .ref si0) (C := RX11) (T := TX11) (N := 14) hx hb hg i_X11 hown hK hP 4 rfl rfl 11 (by decide) (hg _ m_669) (fun _ h9 => h9) rfl dX11_yeas_86 ?_
                refine x_callVi (q := (RX0, TX0, 3)) (ci := 0) (q0 := 0) (wr := [(sh1, .inl (cy 1, 4, .inl (fs2_2))), (a0, .inr (11, [w0, w1, .ref h0, w3, .ref n0, w5, .ref co0, w7, w8, .ref sh0, w10, .ref si0, w12, w13])), (n0, .inr (5, [.ref n1, .ref n2, .ref n3, z3, z4, z5, z6])), (n1, .inl (cy 1, 41, .inl (fun _ => 0))), (sh0, .inr (7, [xv0, .ref sh1, .int 0, .int (nI i4), .int ka, .int 0, .int 0]))]) (rest := []) ⟨hx, hb, hml, hown, hg, hl.1⟩ k_X11_164 (c_verdict0 l D cy co0 cv0 cv1 ((.int bq)) h0 h1 v1 v2 v3 v4 v5 v6 v7 v8 v9 v10 v11 v12 v13 v14 v15 sh0 si0) E0_blind hK hP hD hS hA [0, 1, 2] [3, 4, 5, 6, 7] ⟨rfl, rfl, by decide, by decide, by decide⟩ rfl rfl (fun _ _ _ => trivial) dX11_yeas_89 rfl rfl (Nat.le_of_ble_eq_true rfl) ⟨Nat.le_of_ble_eq_true rfl, Nat.le_of_ble_eq_true rfl⟩ ⟨Nat.le_of_ble_eq_true rfl, Nat.le_of_ble_eq_true rfl⟩ (fun r6 u6 H locs hw6 hP hD hS => ?_)
                have hP : va_P D vwCl [(sh1, .inl (cy 1, 4, .inl (fs2_2))), (a0, .inr (11, [w0, w1, .ref h0, w3, .ref n0, w5, .ref co0, w7, w8, .ref sh0, w10, .ref si0, w12, w13])), (n0, .inr (5, [.ref n1, .ref n2, .ref n3, z3, z4, z5, z6])), (n1, .inl (cy 1, 41, .inl (fun _ => 0))), (sh0, .inr (7, [xv0, .ref sh1, .int 0, .int (nI i4), .int ka, .int 0, .int 0])), (co0, .inr (0, [cv0, cv1, .int (-1)])), (h0, .inr (4, [.ref h1, v1, v2, v3, v4, v5, v6, v7, v8, v9, v10, v11, v12, v13, v14, v15])), (h1, .inl (cy 1, 4, .inl (fun _ => 0)))] H := hP
                have hD : va_D A [(sh1, .inl (cy 1, 4, .inl (fs2_2))), (a0, .inr (11, [w0, w1, .ref h0, w3, .ref n0, w5, .ref co0, w7, w8, .ref sh0, w10, .ref si0, w12, w13])), (n0, .inr (5, [.ref n1, .ref n2, .ref n3, z3, z4, z5, z6])), (n1, .inl (cy 1, 41, .inl (fun _ => 0))), (sh0, .inr (7, [xv0, .ref sh1, .int 0, .int (nI i4), .int ka, .int 0, .int 0])), (co0, .inr (0, [cv0, cv1, .int (-1)])), (h0, .inr (4, [.ref h1, v1, v2, v3, v4, v5, v6, v7, v8, v9, v10, v11, v12, v13, v14, v15])), (h1, .inl (cy 1, 4, .inl (fun _ => 0)))] := hD
                refine W.widen (k := 0) (n := 0) (Nat.le_of_ble_eq_true rfl) (Nat.le_of_ble_eq_true rfl) ?_
                have hw6 : r6 = 0 := hw6
                subst hw6
                refine lv_iconst (v := 2) hx hb dX11_yeas_92 (by decide) ?_
                refine lv_icmp_ne (tgt := 118) hx hb dX11_yeas_93 (by decide) (fun _ => ?_) (fun h => absurd h (by decide))
                refine lv_iinc (v := nI (i4 + 1)) (lv' := [(6, .int (nI (i4 + 1))), (5, .int (-1)), (4, .int (-1)), (3, .int 0), (0, .ref a0), (1, .int ka), (2, .int kb)]) hx hb dX11_yeas_118 hl (k := 0) rfl (lp_inc i4) (by decide) rfl (fun ls hl => ?_)
                refine lv_goto (tgt := 57) hx hb dX11_yeas_121 (by decide) ?_
                exact ih4 (i4 + 1) (by omega) (by omega) (nI i4) (-1) _ _ (hP.sub [5, 6, 7, 0, 1, 2, 3, 4] rfl) (hD.sub [5, 6, 7, 0, 1, 2, 3, 4] (by decide) rfl) hS ls (lv_sub hl [0, 1, 2, 3, 4, 5, 6] rfl)
          exact loop4 101 0 (by omega) (by omega) pl cv2 _ _ (hP.sub [0, 1, 2, 3, 4, 5, 6, 7] rfl) (hD.sub [0, 1, 2, 3, 4, 5, 6, 7] (by decide) rfl) hS ls (lv_sub hl [0, 1, 2, 3, 4, 5, 6] rfl)
        · refine lv_iconst (v := -1) hx hb dX11_yeas_19 (by decide) ?_
          have qc_1 : ¬ (ka : Int32).toInt < (0 : Int32).toInt := fun h => c_1 ((fa_lt _ _).mpr h)
          have qc_7 : ¬ (10 : Int32).toInt ≤ (ka : Int32).toInt := fun h => c_7 ((fa_le _ _).mpr h)
          have qc_11 : ¬ (kb : Int32).toInt < (0 : Int32).toInt := fun h => c_11 ((fa_lt _ _).mpr h)
          have qc_16 : ¬ (kb : Int32).toInt ≤ (2 : Int32).toInt := fun h => c_16 ((fa_le _ _).mpr h)
          have z0 : (0 : Int32).toInt = 0 := by decide
          have z2 : (2 : Int32).toInt = 2 := by decide
          have z10 : (10 : Int32).toInt = 10 := by decide
          exact x_iret hQ hx hb hr hlocks hK hP hD hS dX11_yeas_20 () ((if_neg (by omega)).symm) [] (by decide) rfl (Nat.le_of_ble_eq_true rfl) (Nat.le_of_ble_eq_true rfl)
theorem dX8_canBeAt_0 : decode cX8_canBeAt 0 = .ok (.iconst 0, 1) := by decide +kernel
theorem dX8_canBeAt_1 : decode cX8_canBeAt 1 = .ok (.istore 4, 2) := by decide +kernel
theorem dX8_canBeAt_3 : decode cX8_canBeAt 3 = .ok (.iload 4, 2) := by decide +kernel
theorem dX8_canBeAt_5 : decode cX8_canBeAt 5 = .ok (.aload_n 0, 1) := by decide +kernel
theorem dX8_canBeAt_6 : decode cX8_canBeAt 6 = .ok (.getfield 38, 3) := by decide +kernel
theorem dX8_canBeAt_9 : decode cX8_canBeAt 9 = .ok (.if_icmp .ge 51, 3) := by decide +kernel
theorem dX8_canBeAt_60 : decode cX8_canBeAt 60 = .ok (.iconst 1, 1) := by decide +kernel
theorem dX8_canBeAt_61 : decode cX8_canBeAt 61 = .ok (.ireturn, 1) := by decide +kernel
set_option maxHeartbeats 400000 in
set_option maxRecDepth 100000 in
theorem c_canBeAt (l : Launch) (D : va_G) (cy : Nat → ClassId) (so0 : Nat) (uv0 : Value) (uv1 : Value) (uv2 : Value) (uv3 : Value) (uv4 : Value) (uv5 : Value) (uv6 : Value) (uv7 : Value) (uv9 : Value) (uv10 : Value) (uv11 : Value) (uv12 : Value) (hh : Nat) (pl : Int32) (kk : Int32)  : XMi l D (tyL cy) E0 yX8_canBeAt cX8_canBeAt 5 (some .boolean) (rmk 0 0 0) [.ref so0, .ref hh, .int pl, .int kk] [(so0, .inr (8, [uv0, uv1, uv2, uv3, uv4, uv5, uv6, uv7, .int 0, uv9, uv10, uv11, uv12]))] (fun (r : Int32) (_ : Unit) => r = 1) (fun (_ : Unit) => [(so0, .inr (8, [uv0, uv1, uv2, uv3, uv4, uv5, uv6, uv7, .int 0, uv9, uv10, uv11, uv12]))]) := by
  refine XMi.start (by decide) (Nat.le_of_ble_eq_true rfl) ?_
  intro p e s m below meth c args A ls Q hat hQ
  obtain ⟨hx, hb, hr, hml, hown, hg, hlocks, hin, hK, hA, hP, hD, hS, hE, hl⟩ := hat
  have hown : s.vm.findClass RX8 = some m.cls := hown
  have hl : lv_has ls 5 [(0, .ref so0), (1, .ref hh), (2, .int pl), (3, .int kk)] := hl
  refine lv_iconst (v := 0) hx hb dX8_canBeAt_0 (by decide) ?_
  refine lv_istore (lv' := [(4, .int 0), (0, .ref so0), (1, .ref hh), (2, .int pl), (3, .int kk)]) hx hb dX8_canBeAt_1 hl (by decide) rfl (fun ls hl => ?_)
  refine lv_iload hx hb dX8_canBeAt_3 (lv_at hl 0 rfl) ?_
  refine lv_aload_n hx hb dX8_canBeAt_5 rfl (lv_at hl 1 rfl) ?_
  refine va_get (D := D) (ci := 8) (v := .int 0) (C := RX8) (T := TX8) (N := 13) hx hb hg i_X8 hown hK hP 0 rfl rfl 8 (by decide) (hg _ m_462) (fun _ h9 => h9) rfl dX8_canBeAt_6 ?_
  refine lv_icmp_ge (tgt := 60) hx hb dX8_canBeAt_9 (by decide) (fun _ => ?_) (fun h => absurd (by decide) h)
  refine lv_iconst (v := 1) hx hb dX8_canBeAt_60 (by decide) ?_
  exact x_zret hQ hx hb hr hlocks hK hP hD hS rfl dX8_canBeAt_61 () (rfl) [0] (by decide) rfl (Nat.le_of_ble_eq_true rfl) (Nat.le_of_ble_eq_true rfl)
theorem dX8_findLeft_0 : decode cX8_findLeft 0 = .ok (.aload_n 0, 1) := by decide +kernel
theorem dX8_findLeft_1 : decode cX8_findLeft 1 = .ok (.iconst 0, 1) := by decide +kernel
theorem dX8_findLeft_2 : decode cX8_findLeft 2 = .ok (.putfield 61, 3) := by decide +kernel
theorem m_466 : (Cond.fieldLink RX8 61 "CliffJudges$Sounds" "leftCount" "I") ∈ gT := gm 466 (by decide +kernel) (by decide +kernel)
theorem dX8_findLeft_5 : decode cX8_findLeft 5 = .ok (.iconst 0, 1) := by decide +kernel
theorem dX8_findLeft_6 : decode cX8_findLeft 6 = .ok (.istore_n 3, 1) := by decide +kernel
theorem dX8_findLeft_7 : decode cX8_findLeft 7 = .ok (.iload_n 3, 1) := by decide +kernel
theorem dX8_findLeft_8 : decode cX8_findLeft 8 = .ok (.bipush 100, 2) := by decide +kernel
theorem dX8_findLeft_10 : decode cX8_findLeft 10 = .ok (.if_icmp .ge 39, 3) := by decide +kernel
theorem dX8_findLeft_49 : decode cX8_findLeft 49 = .ok (.return_, 1) := by decide +kernel
theorem dX8_findLeft_13 : decode cX8_findLeft 13 = .ok (.aload_n 0, 1) := by decide +kernel
theorem dX8_findLeft_14 : decode cX8_findLeft 14 = .ok (.aload_n 1, 1) := by decide +kernel
theorem dX8_findLeft_15 : decode cX8_findLeft 15 = .ok (.iload_n 3, 1) := by decide +kernel
theorem dX8_findLeft_16 : decode cX8_findLeft 16 = .ok (.iload_n 2, 1) := by decide +kernel
theorem dX8_findLeft_17 : decode cX8_findLeft 17 = .ok (.invokevirtual 64, 3) := by decide +kernel
theorem m_1349 : (Cond.methodLink RX8 64 yX8_canBeAt) ∈ gT := gm 1349 (by decide +kernel) (by decide +kernel)
theorem m_1351 : (Cond.instanceMethod yX8_canBeAt) ∈ gT := gm 1351 (by decide +kernel) (by decide +kernel)
theorem m_59 : (Cond.selects RX8 yX8_canBeAt yX8_canBeAt) ∈ gT := gm 59 (by decide +kernel) (by decide +kernel)
theorem m_1352 : (Cond.code yX8_canBeAt cX8_canBeAt 5 (some .boolean)) ∈ gT := gm 1352 (by decide +kernel) (by decide +kernel)
theorem k_X8_64 : xV RX8 RX8 64 yX8_canBeAt cX8_canBeAt 5 (some .boolean) 3 := ⟨⟨m_1349, m_1351, m_59, m_140, m_1352⟩, rfl, by decide, by decide, by decide +kernel⟩
theorem dX8_findLeft_20 : decode cX8_findLeft 20 = .ok (.ifCond .eq 23, 3) := by decide +kernel
theorem dX8_findLeft_23 : decode cX8_findLeft 23 = .ok (.aload_n 0, 1) := by decide +kernel
theorem dX8_findLeft_24 : decode cX8_findLeft 24 = .ok (.getfield 27, 3) := by decide +kernel
theorem m_459 : (Cond.fieldLink RX8 27 "CliffJudges$Sounds" "left" "[I") ∈ gT := gm 459 (by decide +kernel) (by decide +kernel)
theorem dX8_findLeft_27 : decode cX8_findLeft 27 = .ok (.aload_n 0, 1) := by decide +kernel
theorem dX8_findLeft_28 : decode cX8_findLeft 28 = .ok (.getfield 61, 3) := by decide +kernel
theorem dX8_findLeft_31 : decode cX8_findLeft 31 = .ok (.iload_n 3, 1) := by decide +kernel
theorem dX8_findLeft_32 : decode cX8_findLeft 32 = .ok (.iastore, 1) := by decide +kernel
theorem dX8_findLeft_33 : decode cX8_findLeft 33 = .ok (.aload_n 0, 1) := by decide +kernel
theorem dX8_findLeft_34 : decode cX8_findLeft 34 = .ok (.dup, 1) := by decide +kernel
theorem dX8_findLeft_35 : decode cX8_findLeft 35 = .ok (.getfield 61, 3) := by decide +kernel
theorem dX8_findLeft_38 : decode cX8_findLeft 38 = .ok (.iconst 1, 1) := by decide +kernel
theorem dX8_findLeft_39 : decode cX8_findLeft 39 = .ok (.iadd, 1) := by decide +kernel
theorem dX8_findLeft_40 : decode cX8_findLeft 40 = .ok (.putfield 61, 3) := by decide +kernel
theorem dX8_findLeft_43 : decode cX8_findLeft 43 = .ok (.iinc 3 1, 3) := by decide +kernel
theorem dX8_findLeft_46 : decode cX8_findLeft 46 = .ok (.goto (-39), 3) := by decide +kernel
set_option maxHeartbeats 400000 in
set_option maxRecDepth 100000 in
theorem c_findLeft (l : Launch) (D : va_G) (cy : Nat → ClassId) (so0 : Nat) (so6 : Nat) (uv0 : Value) (uv1 : Value) (uv2 : Value) (uv3 : Value) (uv4 : Value) (uv6 : Value) (uv7 : Value) (uv9 : Value) (uv11 : Value) (uv12 : Value) (lc : Int32) (fl : Nat → Int32) (hh : Nat) (kk : Int32)  : XMv l D (tyL cy) E0 yX8_findLeft cX8_findLeft 4 none (rmk 1 0 0) [.ref so0, .ref hh, .int kk] [(so0, .inr (8, [uv0, uv1, uv2, uv3, uv4, .ref so6, uv6, uv7, .int 0, uv9, .int lc, uv11, uv12])), (so6, .inl (cy 1, 100, .inl (fl)))] (fun (fl2 : Nat → Int32) => ∀ j : Nat, j < 100 → fl2 j = nI j) (fun (fl2 : Nat → Int32) => [(so0, .inr (8, [uv0, uv1, uv2, uv3, uv4, .ref so6, uv6, uv7, .int 0, uv9, .int 100, uv11, uv12])), (so6, .inl (cy 1, 100, .inl (fl2)))]) := by
  refine XMv.start (by decide) (Nat.le_of_ble_eq_true rfl) ?_
  intro p e s m below meth c args A ls Q hat hQ
  obtain ⟨hx, hb, hr, hml, hown, hg, hlocks, hin, hK, hA, hP, hD, hS, hE, hl⟩ := hat
  have hown : s.vm.findClass RX8 = some m.cls := hown
  have hl : lv_has ls 4 [(0, .ref so0), (1, .ref hh), (2, .int kk)] := hl
  refine lv_aload_n hx hb dX8_findLeft_0 rfl (lv_at hl 0 rfl) ?_
  refine lv_iconst (v := 0) hx hb dX8_findLeft_1 (by decide) ?_
  refine va_put (D := D) (ci := 8) (v := .int 0) (ty := .int) (C := RX8) (T := TX8) (N := 13) hx hb hg i_X8 tyX8 tyX8_ok nmX8 hown hK hP hD hS 0 rfl rfl 10 (by decide) (hg _ m_466) (fun _ h9 => h9) rfl (by decide +kernel) rfl rfl (Nat.le_of_ble_eq_true rfl) dX8_findLeft_2 (fun H locs hP hD hS => ?_)
  have hP : va_P D vwCl [(so0, .inr (8, [uv0, uv1, uv2, uv3, uv4, .ref so6, uv6, uv7, .int 0, uv9, .int 0, uv11, uv12])), (so6, .inl (cy 1, 100, .inl (fl)))] H := hP
  have hD : va_D A [(so0, .inr (8, [uv0, uv1, uv2, uv3, uv4, .ref so6, uv6, uv7, .int 0, uv9, .int 0, uv11, uv12])), (so6, .inl (cy 1, 100, .inl (fl)))] := hD
  refine lv_iconst (v := 0) hx hb dX8_findLeft_5 (by decide) ?_
  refine lv_istore_n (lv' := [(3, .int 0), (0, .ref so0), (1, .ref hh), (2, .int kk)]) hx hb dX8_findLeft_6 rfl hl (by decide) rfl (fun ls hl => ?_)
  have loop1 : ∀ (n i1 : Nat), i1 ≤ 100 → 101 ≤ i1 + n → ∀ (fq : Nat → Int32), (∀ j : Nat, j < i1 → fq j = nI j) → ∀ (H : Heap) (locs : List Loc), va_P D vwCl [(so0, .inr (8, [uv0, uv1, uv2, uv3, uv4, .ref so6, uv6, uv7, .int 0, uv9, .int (nI i1), uv11, uv12])), (so6, .inl (cy 1, 100, .inl (fq)))] H → va_D A [(so0, .inr (8, [uv0, uv1, uv2, uv3, uv4, .ref so6, uv6, uv7, .int 0, uv9, .int (nI i1), uv11, uv12])), (so6, .inl (cy 1, 100, .inl (fq)))] → va_S A s.heap H locs → ∀ ls : Array Slot, lv_has ls 4 [(3, .int (nI i1)), (0, .ref so0), (1, .ref hh), (2, .int kk)] → W p l e (rmk 1 0 0) s m args below meth c H locs 0 0 Q (F0 m 7 ls []) := by
    intro n
    induction n with
    | zero => intro i1 h1 h2; exact absurd h2 (by omega)
    | succ n ih =>
      intro i1 hi1 hn1 fq hv1 H locs hP hD hS ls hl
      have ih1 := ih
      refine lv_iload_n hx hb dX8_findLeft_7 rfl (lv_at hl 0 rfl) ?_
      refine lv_bipush (v := 100) hx hb dX8_findLeft_8 (by decide) ?_
      refine lv_icmp_ge (tgt := 49) hx hb dX8_findLeft_10 (by decide) (fun c1 => ?_) (fun c1 => ?_)
      · have hend1 : i1 = 100 := lp_end (N := 100) (by decide) hi1 (by decide) c1
        subst hend1
        exact x_vret hQ hx hb hr hlocks hK hP hD hS dX8_findLeft_49 fq (hv1) [0, 1] (by decide) rfl (Nat.le_of_ble_eq_true rfl) (Nat.le_of_ble_eq_true rfl)
      · have hlt1 : i1 < 100 := lp_go (by decide) hi1 (by decide) c1
        refine lv_aload_n hx hb dX8_findLeft_13 rfl (lv_at hl 1 rfl) ?_
        refine lv_aload_n hx hb dX8_findLeft_14 rfl (lv_at hl 2 rfl) ?_
        refine lv_iload_n hx hb dX8_findLeft_15 rfl (lv_at hl 0 rfl) ?_
        refine lv_iload_n hx hb dX8_findLeft_16 rfl (lv_at hl 3 rfl) ?_
        refine x_callVi (q := (RX8, TX8, 13)) (ci := 8) (q0 := 0) (wr := [(so6, .inl (cy 1, 100, .inl (fq)))]) (rest := []) ⟨hx, hb, hml, hown, hg, hl.1⟩ k_X8_64 (c_canBeAt l D cy so0 uv0 uv1 uv2 uv3 uv4 ((.ref so6)) uv6 uv7 uv9 ((.int (nI i1))) uv11 uv12 hh (nI i1) kk) E0_blind hK hP hD hS hA [0] [1] ⟨rfl, rfl, by decide, by decide, by decide⟩ rfl rfl (fun _ _ _ => trivial) dX8_findLeft_17 rfl rfl (Nat.le_of_ble_eq_true rfl) ⟨Nat.le_of_ble_eq_true rfl, Nat.le_of_ble_eq_true rfl⟩ ⟨Nat.le_of_ble_eq_true rfl, Nat.le_of_ble_eq_true rfl⟩ (fun r2 u2 H locs hw2 hP hD hS => ?_)
        have hP : va_P D vwCl [(so6, .inl (cy 1, 100, .inl (fq))), (so0, .inr (8, [uv0, uv1, uv2, uv3, uv4, .ref so6, uv6, uv7, .int 0, uv9, .int (nI i1), uv11, uv12]))] H := hP
        have hD : va_D A [(so6, .inl (cy 1, 100, .inl (fq))), (so0, .inr (8, [uv0, uv1, uv2, uv3, uv4, .ref so6, uv6, uv7, .int 0, uv9, .int (nI i1), uv11, uv12]))] := hD
        refine W.widen (k := 0) (n := 0) (Nat.le_of_ble_eq_true rfl) (Nat.le_of_ble_eq_true rfl) ?_
        have hw2 : r2 = 1 := hw2
        subst hw2
        refine lv_if_eq (tgt := 43) hx hb dX8_findLeft_20 (by decide) (fun h => absurd h (by decide)) (fun _ => ?_)
        refine lv_aload_n hx hb dX8_findLeft_23 rfl (lv_at hl 1 rfl) ?_
        refine va_get (D := D) (ci := 8) (v := .ref so6) (C := RX8) (T := TX8) (N := 13) hx hb hg i_X8 hown hK hP 1 rfl rfl 5 (by decide) (hg _ m_459) (fun _ h9 => h9) rfl dX8_findLeft_24 ?_
        refine lv_aload_n hx hb dX8_findLeft_27 rfl (lv_at hl 1 rfl) ?_
        refine va_get (D := D) (ci := 8) (v := .int (nI i1)) (C := RX8) (T := TX8) (N := 13) hx hb hg i_X8 hown hK hP 1 rfl rfl 10 (by decide) (hg _ m_466) (fun _ h9 => h9) rfl dX8_findLeft_28 ?_
        refine lv_iload_n hx hb dX8_findLeft_31 rfl (lv_at hl 0 rfl) ?_
        refine va_iast hx hb hK hP hD hS 0 1 rfl rfl (vp_in_nI (by omega) (by decide)) dX8_findLeft_32 (fun H locs hP hD hS => ?_)
        obtain ⟨g_3, eg_3⟩ : ∃ y, upd fq (nI i1 : Int32).toNatClampNeg (nI i1) = y := ⟨_, rfl⟩
        rw [eg_3] at hP hD
        have hP : va_P D vwCl [(so6, .inl (cy 1, 100, .inl (g_3))), (so0, .inr (8, [uv0, uv1, uv2, uv3, uv4, .ref so6, uv6, uv7, .int 0, uv9, .int (nI i1), uv11, uv12]))] H := hP
        have hD : va_D A [(so6, .inl (cy 1, 100, .inl (g_3))), (so0, .inr (8, [uv0, uv1, uv2, uv3, uv4, .ref so6, uv6, uv7, .int 0, uv9, .int (nI i1), uv11, uv12]))] := hD
        refine lv_aload_n hx hb dX8_findLeft_33 rfl (lv_at hl 1 rfl) ?_
        refine lv_dup hx hb dX8_findLeft_34 rfl ?_
        refine va_get (D := D) (ci := 8) (v := .int (nI i1)) (C := RX8) (T := TX8) (N := 13) hx hb hg i_X8 hown hK hP 1 rfl rfl 10 (by decide) (hg _ m_466) (fun _ h9 => h9) rfl dX8_findLeft_35 ?_
        refine lv_iconst (v := 1) hx hb dX8_findLeft_38 (by decide) ?_
        refine lv_iadd hx hb dX8_findLeft_39 ?_
        refine lv_topi (fun y_4 hy_4 => ?_)
        obtain rfl : y_4 = nI (i1 + 1) := hy_4.trans (nI_add _ _)
        refine va_put (D := D) (ci := 8) (v := .int (nI (i1 + 1))) (ty := .int) (C := RX8) (T := TX8) (N := 13) hx hb hg i_X8 tyX8 tyX8_ok nmX8 hown hK hP hD hS 1 rfl rfl 10 (by decide) (hg _ m_466) (fun _ h9 => h9) rfl (by decide +kernel) rfl rfl (Nat.le_of_ble_eq_true rfl) dX8_findLeft_40 (fun H locs hP hD hS => ?_)
        have hP : va_P D vwCl [(so6, .inl (cy 1, 100, .inl (g_3))), (so0, .inr (8, [uv0, uv1, uv2, uv3, uv4, .ref so6, uv6, uv7, .int 0, uv9, .int (nI (i1 + 1)), uv11, uv12]))] H := hP
        have hD : va_D A [(so6, .inl (cy 1, 100, .inl (g_3))), (so0, .inr (8, [uv0, uv1, uv2, uv3, uv4, .ref so6, uv6, uv7, .int 0, uv9, .int (nI (i1 + 1)), uv11, uv12]))] := hD
        refine lv_iinc (v := nI (i1 + 1)) (lv' := [(3, .int (nI (i1 + 1))), (0, .ref so0), (1, .ref hh), (2, .int kk)]) hx hb dX8_findLeft_43 hl (k := 0) rfl (lp_inc i1) (by decide) rfl (fun ls hl => ?_)
        refine lv_goto (tgt := 7) hx hb dX8_findLeft_46 (by decide) ?_
        exact ih1 (i1 + 1) (by omega) (by omega) g_3 (eg_3 ▸ upd_run hv1 (by omega)) _ _ (hP.sub [1, 0] rfl) (hD.sub [1, 0] (by decide) rfl) hS ls (lv_sub hl [0, 1, 2, 3] rfl)
  exact loop1 101 0 (by omega) (by omega) fl (fun j h => absurd h (by omega)) _ _ (hP.sub [0, 1] rfl) (hD.sub [0, 1] (by decide) rfl) hS ls (lv_sub hl [0, 1, 2, 3] rfl)
theorem dX8_firstLeft_0 : decode cX8_firstLeft 0 = .ok (.aload_n 0, 1) := by decide +kernel
theorem dX8_firstLeft_1 : decode cX8_firstLeft 1 = .ok (.getfield 61, 3) := by decide +kernel
theorem dX8_firstLeft_4 : decode cX8_firstLeft 4 = .ok (.ifCond .le 12, 3) := by decide +kernel
theorem dX8_firstLeft_7 : decode cX8_firstLeft 7 = .ok (.aload_n 0, 1) := by decide +kernel
theorem dX8_firstLeft_8 : decode cX8_firstLeft 8 = .ok (.getfield 27, 3) := by decide +kernel
theorem dX8_firstLeft_11 : decode cX8_firstLeft 11 = .ok (.iconst 0, 1) := by decide +kernel
theorem dX8_firstLeft_12 : decode cX8_firstLeft 12 = .ok (.iaload, 1) := by decide +kernel
theorem dX8_firstLeft_13 : decode cX8_firstLeft 13 = .ok (.goto 4, 3) := by decide +kernel
theorem dX8_firstLeft_17 : decode cX8_firstLeft 17 = .ok (.ireturn, 1) := by decide +kernel
set_option maxHeartbeats 400000 in
set_option maxRecDepth 100000 in
theorem c_firstLeft (l : Launch) (D : va_G) (cy : Nat → ClassId) (so0 : Nat) (so6 : Nat) (uv0 : Value) (uv1 : Value) (uv2 : Value) (uv3 : Value) (uv4 : Value) (uv6 : Value) (uv7 : Value) (uv9 : Value) (uv11 : Value) (uv12 : Value) (fl : Nat → Int32)  : XMi l D (tyL cy) E0 yX8_firstLeft cX8_firstLeft 1 (some .int) (rmk 0 0 0) [.ref so0] [(so0, .inr (8, [uv0, uv1, uv2, uv3, uv4, .ref so6, uv6, uv7, .int 0, uv9, .int 100, uv11, uv12])), (so6, .inl (cy 1, 100, .inl (fl)))] (fun (r : Int32) (_ : Unit) => r = fl 0) (fun (_ : Unit) => [(so0, .inr (8, [uv0, uv1, uv2, uv3, uv4, .ref so6, uv6, uv7, .int 0, uv9, .int 100, uv11, uv12])), (so6, .inl (cy 1, 100, .inl (fl)))]) := by
  refine XMi.start (by decide) (Nat.le_of_ble_eq_true rfl) ?_
  intro p e s m below meth c args A ls Q hat hQ
  obtain ⟨hx, hb, hr, hml, hown, hg, hlocks, hin, hK, hA, hP, hD, hS, hE, hl⟩ := hat
  have hown : s.vm.findClass RX8 = some m.cls := hown
  have hl : lv_has ls 1 [(0, .ref so0)] := hl
  refine lv_aload_n hx hb dX8_firstLeft_0 rfl (lv_at hl 0 rfl) ?_
  refine va_get (D := D) (ci := 8) (v := .int 100) (C := RX8) (T := TX8) (N := 13) hx hb hg i_X8 hown hK hP 0 rfl rfl 10 (by decide) (hg _ m_466) (fun _ h9 => h9) rfl dX8_firstLeft_1 ?_
  refine lv_if_le (tgt := 16) hx hb dX8_firstLeft_4 (by decide) (fun h => absurd h (by decide)) (fun _ => ?_)
  refine lv_aload_n hx hb dX8_firstLeft_7 rfl (lv_at hl 0 rfl) ?_
  refine va_get (D := D) (ci := 8) (v := .ref so6) (C := RX8) (T := TX8) (N := 13) hx hb hg i_X8 hown hK hP 0 rfl rfl 5 (by decide) (hg _ m_459) (fun _ h9 => h9) rfl dX8_firstLeft_8 ?_
  refine lv_iconst (v := 0) hx hb dX8_firstLeft_11 (by decide) ?_
  refine va_iald hx hb hK hP 1 1 rfl rfl (by unfold vp_in; decide) dX8_firstLeft_12 ?_
  refine lv_topi (fun x_1 ex_1 => ?_)
  refine lv_goto (tgt := 17) hx hb dX8_firstLeft_13 (by decide) ?_
  exact x_iret hQ hx hb hr hlocks hK hP hD hS dX8_firstLeft_17 () (ex_1) [0, 1] (by decide) rfl (Nat.le_of_ble_eq_true rfl) (Nat.le_of_ble_eq_true rfl)
theorem dX8_lastLeft_0 : decode cX8_lastLeft 0 = .ok (.aload_n 0, 1) := by decide +kernel
theorem dX8_lastLeft_1 : decode cX8_lastLeft 1 = .ok (.getfield 61, 3) := by decide +kernel
theorem dX8_lastLeft_4 : decode cX8_lastLeft 4 = .ok (.ifCond .le 17, 3) := by decide +kernel
theorem dX8_lastLeft_7 : decode cX8_lastLeft 7 = .ok (.aload_n 0, 1) := by decide +kernel
theorem dX8_lastLeft_8 : decode cX8_lastLeft 8 = .ok (.getfield 27, 3) := by decide +kernel
theorem dX8_lastLeft_11 : decode cX8_lastLeft 11 = .ok (.aload_n 0, 1) := by decide +kernel
theorem dX8_lastLeft_12 : decode cX8_lastLeft 12 = .ok (.getfield 61, 3) := by decide +kernel
theorem dX8_lastLeft_15 : decode cX8_lastLeft 15 = .ok (.iconst 1, 1) := by decide +kernel
theorem dX8_lastLeft_16 : decode cX8_lastLeft 16 = .ok (.isub, 1) := by decide +kernel
theorem dX8_lastLeft_17 : decode cX8_lastLeft 17 = .ok (.iaload, 1) := by decide +kernel
theorem dX8_lastLeft_18 : decode cX8_lastLeft 18 = .ok (.goto 4, 3) := by decide +kernel
theorem dX8_lastLeft_22 : decode cX8_lastLeft 22 = .ok (.ireturn, 1) := by decide +kernel
set_option maxHeartbeats 400000 in
set_option maxRecDepth 100000 in
theorem c_lastLeft (l : Launch) (D : va_G) (cy : Nat → ClassId) (so0 : Nat) (so6 : Nat) (uv0 : Value) (uv1 : Value) (uv2 : Value) (uv3 : Value) (uv4 : Value) (uv6 : Value) (uv7 : Value) (uv9 : Value) (uv11 : Value) (uv12 : Value) (fl : Nat → Int32)  : XMi l D (tyL cy) E0 yX8_lastLeft cX8_lastLeft 1 (some .int) (rmk 0 0 0) [.ref so0] [(so0, .inr (8, [uv0, uv1, uv2, uv3, uv4, .ref so6, uv6, uv7, .int 0, uv9, .int 100, uv11, uv12])), (so6, .inl (cy 1, 100, .inl (fl)))] (fun (r : Int32) (_ : Unit) => r = fl 99) (fun (_ : Unit) => [(so0, .inr (8, [uv0, uv1, uv2, uv3, uv4, .ref so6, uv6, uv7, .int 0, uv9, .int 100, uv11, uv12])), (so6, .inl (cy 1, 100, .inl (fl)))]) := by
  refine XMi.start (by decide) (Nat.le_of_ble_eq_true rfl) ?_
  intro p e s m below meth c args A ls Q hat hQ
  obtain ⟨hx, hb, hr, hml, hown, hg, hlocks, hin, hK, hA, hP, hD, hS, hE, hl⟩ := hat
  have hown : s.vm.findClass RX8 = some m.cls := hown
  have hl : lv_has ls 1 [(0, .ref so0)] := hl
  refine lv_aload_n hx hb dX8_lastLeft_0 rfl (lv_at hl 0 rfl) ?_
  refine va_get (D := D) (ci := 8) (v := .int 100) (C := RX8) (T := TX8) (N := 13) hx hb hg i_X8 hown hK hP 0 rfl rfl 10 (by decide) (hg _ m_466) (fun _ h9 => h9) rfl dX8_lastLeft_1 ?_
  refine lv_if_le (tgt := 21) hx hb dX8_lastLeft_4 (by decide) (fun h => absurd h (by decide)) (fun _ => ?_)
  refine lv_aload_n hx hb dX8_lastLeft_7 rfl (lv_at hl 0 rfl) ?_
  refine va_get (D := D) (ci := 8) (v := .ref so6) (C := RX8) (T := TX8) (N := 13) hx hb hg i_X8 hown hK hP 0 rfl rfl 5 (by decide) (hg _ m_459) (fun _ h9 => h9) rfl dX8_lastLeft_8 ?_
  refine lv_aload_n hx hb dX8_lastLeft_11 rfl (lv_at hl 0 rfl) ?_
  refine va_get (D := D) (ci := 8) (v := .int 100) (C := RX8) (T := TX8) (N := 13) hx hb hg i_X8 hown hK hP 0 rfl rfl 10 (by decide) (hg _ m_466) (fun _ h9 => h9) rfl dX8_lastLeft_12 ?_
  refine lv_iconst (v := 1) hx hb dX8_lastLeft_15 (by decide) ?_
  refine lv_isub hx hb dX8_lastLeft_16 ?_
  refine lv_topi (fun y_1 hy_1 => ?_)
  obtain rfl : y_1 = 99 := hy_1.trans (by decide +kernel)
  refine va_iald hx hb hK hP 1 1 rfl rfl (by unfold vp_in; decide) dX8_lastLeft_17 ?_
  refine lv_topi (fun x_2 ex_2 => ?_)
  refine lv_goto (tgt := 22) hx hb dX8_lastLeft_18 (by decide) ?_
  exact x_iret hQ hx hb hr hlocks hK hP hD hS dX8_lastLeft_22 () (ex_2) [0, 1] (by decide) rfl (Nat.le_of_ble_eq_true rfl) (Nat.le_of_ble_eq_true rfl)
theorem dX11_stood_0 : decode cX11_stood 0 = .ok (.iload_n 1, 1) := by decide +kernel
theorem dX11_stood_1 : decode cX11_stood 1 = .ok (.ifCond .lt 8, 3) := by decide +kernel
theorem dX11_stood_9 : decode cX11_stood 9 = .ok (.iconst (-1), 1) := by decide +kernel
theorem dX11_stood_10 : decode cX11_stood 10 = .ok (.ireturn, 1) := by decide +kernel
theorem dX11_stood_4 : decode cX11_stood 4 = .ok (.iload_n 1, 1) := by decide +kernel
theorem dX11_stood_5 : decode cX11_stood 5 = .ok (.iconst 2, 1) := by decide +kernel
theorem dX11_stood_6 : decode cX11_stood 6 = .ok (.if_icmp .le 5, 3) := by decide +kernel
theorem dX11_stood_11 : decode cX11_stood 11 = .ok (.aload_n 0, 1) := by decide +kernel
theorem dX11_stood_12 : decode cX11_stood 12 = .ok (.getfield 45, 3) := by decide +kernel
theorem dX11_stood_15 : decode cX11_stood 15 = .ok (.aload_n 0, 1) := by decide +kernel
theorem dX11_stood_16 : decode cX11_stood 16 = .ok (.getfield 28, 3) := by decide +kernel
theorem dX11_stood_19 : decode cX11_stood 19 = .ok (.iload_n 2, 1) := by decide +kernel
theorem dX11_stood_20 : decode cX11_stood 20 = .ok (.invokevirtual 272, 3) := by decide +kernel
theorem m_1345 : (Cond.methodLink RX11 272 yX8_findLeft) ∈ gT := gm 1345 (by decide +kernel) (by decide +kernel)
theorem m_1346 : (Cond.instanceMethod yX8_findLeft) ∈ gT := gm 1346 (by decide +kernel) (by decide +kernel)
theorem m_1347 : (Cond.selects RX8 yX8_findLeft yX8_findLeft) ∈ gT := gm 1347 (by decide +kernel) (by decide +kernel)
theorem m_1348 : (Cond.code yX8_findLeft cX8_findLeft 4 none) ∈ gT := gm 1348 (by decide +kernel) (by decide +kernel)
theorem k_X11_272 : xV RX11 RX8 272 yX8_findLeft cX8_findLeft 4 none 2 := ⟨⟨m_1345, m_1346, m_1347, m_140, m_1348⟩, rfl, by decide, by decide, by decide +kernel⟩
theorem dX11_stood_23 : decode cX11_stood 23 = .ok (.iload_n 1, 1) := by decide +kernel
theorem dX11_stood_24 : decode cX11_stood 24 = .ok (.aload_n 0, 1) := by decide +kernel
theorem dX11_stood_25 : decode cX11_stood 25 = .ok (.getfield 45, 3) := by decide +kernel
theorem dX11_stood_28 : decode cX11_stood 28 = .ok (.getfield 276, 3) := by decide +kernel
theorem m_467 : (Cond.fieldLink RX11 276 "CliffJudges$Sounds" "leftCount" "I") ∈ gT := gm 467 (by decide +kernel) (by decide +kernel)
theorem dX11_stood_31 : decode cX11_stood 31 = .ok (.aload_n 0, 1) := by decide +kernel
theorem dX11_stood_32 : decode cX11_stood 32 = .ok (.getfield 45, 3) := by decide +kernel
theorem dX11_stood_35 : decode cX11_stood 35 = .ok (.invokevirtual 279, 3) := by decide +kernel
theorem m_1363 : (Cond.methodLink RX11 279 yX8_firstLeft) ∈ gT := gm 1363 (by decide +kernel) (by decide +kernel)
theorem m_1364 : (Cond.instanceMethod yX8_firstLeft) ∈ gT := gm 1364 (by decide +kernel) (by decide +kernel)
theorem m_1365 : (Cond.selects RX8 yX8_firstLeft yX8_firstLeft) ∈ gT := gm 1365 (by decide +kernel) (by decide +kernel)
theorem m_1366 : (Cond.code yX8_firstLeft cX8_firstLeft 1 (some .int)) ∈ gT := gm 1366 (by decide +kernel) (by decide +kernel)
theorem k_X11_279 : xV RX11 RX8 279 yX8_firstLeft cX8_firstLeft 1 (some .int) 0 := ⟨⟨m_1363, m_1364, m_1365, m_140, m_1366⟩, rfl, by decide, by decide, by decide +kernel⟩
theorem dX11_stood_38 : decode cX11_stood 38 = .ok (.aload_n 0, 1) := by decide +kernel
theorem dX11_stood_39 : decode cX11_stood 39 = .ok (.getfield 45, 3) := by decide +kernel
theorem dX11_stood_42 : decode cX11_stood 42 = .ok (.invokevirtual 283, 3) := by decide +kernel
theorem m_1367 : (Cond.methodLink RX11 283 yX8_lastLeft) ∈ gT := gm 1367 (by decide +kernel) (by decide +kernel)
theorem m_1368 : (Cond.instanceMethod yX8_lastLeft) ∈ gT := gm 1368 (by decide +kernel) (by decide +kernel)
theorem m_1369 : (Cond.selects RX8 yX8_lastLeft yX8_lastLeft) ∈ gT := gm 1369 (by decide +kernel) (by decide +kernel)
theorem m_1370 : (Cond.code yX8_lastLeft cX8_lastLeft 1 (some .int)) ∈ gT := gm 1370 (by decide +kernel) (by decide +kernel)
theorem k_X11_283 : xV RX11 RX8 283 yX8_lastLeft cX8_lastLeft 1 (some .int) 0 := ⟨⟨m_1367, m_1368, m_1369, m_140, m_1370⟩, rfl, by decide, by decide, by decide +kernel⟩
theorem dX11_stood_45 : decode cX11_stood 45 = .ok (.invokestatic 228, 3) := by decide +kernel
theorem dX11_stood_48 : decode cX11_stood 48 = .ok (.ireturn, 1) := by decide +kernel
set_option maxHeartbeats 400000 in
set_option maxRecDepth 100000 in
theorem t_stood (l : Launch) (D : va_G) (cy : Nat → ClassId) (a0 : Nat) (w0 : Value) (w1 : Value) (w3 : Value) (w4 : Value) (w6 : Value) (w7 : Value) (w8 : Value) (w9 : Value) (w10 : Value) (w11 : Value) (w12 : Value) (w13 : Value) (hh : Nat) (so0 : Nat) (so6 : Nat) (uv0 : Value) (uv1 : Value) (uv2 : Value) (uv3 : Value) (uv4 : Value) (uv6 : Value) (uv7 : Value) (uv9 : Value) (uv11 : Value) (uv12 : Value) (lc : Int32) (fl : Nat → Int32) (ka : Int32) (kb : Int32)  : XMi l D (tyL cy) E0 yX11_stood cX11_stood 3 (some .int) (rmk 3 0 0) [.ref a0, .int ka, .int kb] [(a0, .inr (11, [w0, w1, .ref hh, w3, w4, .ref so0, w6, w7, w8, w9, w10, w11, w12, w13])), (so0, .inr (8, [uv0, uv1, uv2, uv3, uv4, .ref so6, uv6, uv7, .int 0, uv9, .int lc, uv11, uv12])), (so6, .inl (cy 1, 100, .inl (fl)))] (fun (r : Int32) (_ : Unit) => r = if ka.toInt = 0 then 100 else if ka.toInt = 1 then 0 else if ka.toInt = 2 then 99 else -1) (fun (_ : Unit) => []) := by
  refine XMi.start (by decide) (Nat.le_of_ble_eq_true rfl) ?_
  intro p e s m below meth c args A ls Q hat hQ
  obtain ⟨hx, hb, hr, hml, hown, hg, hlocks, hin, hK, hA, hP, hD, hS, hE, hl⟩ := hat
  have hown : s.vm.findClass RX11 = some m.cls := hown
  have hl : lv_has ls 3 [(0, .ref a0), (1, .int ka), (2, .int kb)] := hl
  refine lv_iload_n hx hb dX11_stood_0 rfl (lv_at hl 1 rfl) ?_
  refine lv_if_lt (tgt := 9) hx hb dX11_stood_1 (by decide) (fun c_1 => ?_) (fun c_1 => ?_)
  · refine lv_iconst (v := -1) hx hb dX11_stood_9 (by decide) ?_
    have qc_1 : (ka : Int32).toInt < (0 : Int32).toInt := (fa_lt _ _).mp c_1
    have z0 : (0 : Int32).toInt = 0 := by decide
    have z2 : (2 : Int32).toInt = 2 := by decide
    exact x_iret hQ hx hb hr hlocks hK hP hD hS dX11_stood_10 () (by rw [if_neg (by omega), if_neg (by omega), if_neg (by omega)]) [] (by decide) rfl (Nat.le_of_ble_eq_true rfl) (Nat.le_of_ble_eq_true rfl)
  · refine lv_iload_n hx hb dX11_stood_4 rfl (lv_at hl 1 rfl) ?_
    refine lv_iconst (v := 2) hx hb dX11_stood_5 (by decide) ?_
    refine lv_icmp_le (tgt := 11) hx hb dX11_stood_6 (by decide) (fun c_6 => ?_) (fun c_6 => ?_)
    · refine lv_aload_n hx hb dX11_stood_11 rfl (lv_at hl 0 rfl) ?_
      refine va_get (D := D) (ci := 11) (v := .ref so0) (C := RX11) (T := TX11) (N := 14) hx hb hg i_X11 hown hK hP 0 rfl rfl 5 (by decide) (hg _ m_663) (fun _ h9 => h9) rfl dX11_stood_12 ?_
      refine lv_aload_n hx hb dX11_stood_15 rfl (lv_at hl 0 rfl) ?_
      refine va_get (D := D) (ci := 11) (v := .ref hh) (C := RX11) (T := TX11) (N := 14) hx hb hg i_X11 hown hK hP 0 rfl rfl 2 (by decide) (hg _ m_660) (fun _ h9 => h9) rfl dX11_stood_16 ?_
      refine lv_iload_n hx hb dX11_stood_19 rfl (lv_at hl 2 rfl) ?_
      refine x_callVv (q := (RX8, TX8, 13)) (ci := 8) (q0 := 0) (wr := [(a0, .inr (11, [w0, w1, .ref hh, w3, w4, .ref so0, w6, w7, w8, w9, w10, w11, w12, w13]))]) (rest := []) ⟨hx, hb, hml, hown, hg, hl.1⟩ k_X11_272 (c_findLeft l D cy so0 so6 uv0 uv1 uv2 uv3 uv4 uv6 uv7 uv9 uv11 uv12 lc fl hh kb) E0_blind hK hP hD hS hA [1, 2] [0] ⟨rfl, rfl, by decide, by decide, by decide⟩ rfl rfl (fun _ _ _ => trivial) dX11_stood_20 rfl rfl (Nat.le_of_ble_eq_true rfl) ⟨Nat.le_of_ble_eq_true rfl, Nat.le_of_ble_eq_true rfl⟩ ⟨Nat.le_of_ble_eq_true rfl, Nat.le_of_ble_eq_true rfl⟩ (fun u1 H locs hw1 hP hD hS => ?_)
      obtain ⟨fl2_2, rfl⟩ : ∃ z, z = u1 := ⟨_, rfl⟩
      have hP : va_P D vwCl [(a0, .inr (11, [w0, w1, .ref hh, w3, w4, .ref so0, w6, w7, w8, w9, w10, w11, w12, w13])), (so0, .inr (8, [uv0, uv1, uv2, uv3, uv4, .ref so6, uv6, uv7, .int 0, uv9, .int 100, uv11, uv12])), (so6, .inl (cy 1, 100, .inl (fl2_2)))] H := hP
      have hD : va_D A [(a0, .inr (11, [w0, w1, .ref hh, w3, w4, .ref so0, w6, w7, w8, w9, w10, w11, w12, w13])), (so0, .inr (8, [uv0, uv1, uv2, uv3, uv4, .ref so6, uv6, uv7, .int 0, uv9, .int 100, uv11, uv12])), (so6, .inl (cy 1, 100, .inl (fl2_2)))] := hD
      refine W.widen (k := 0) (n := 0) (Nat.le_of_ble_eq_true rfl) (Nat.le_of_ble_eq_true rfl) ?_
      have hw1 : ∀ j : Nat, j < 100 → fl2_2 j = nI j := hw1
      refine lv_iload_n hx hb dX11_stood_23 rfl (lv_at hl 1 rfl) ?_
      refine lv_aload_n hx hb dX11_stood_24 rfl (lv_at hl 0 rfl) ?_
      refine va_get (D := D) (ci := 11) (v := .ref so0) (C := RX11) (T := TX11) (N := 14) hx hb hg i_X11 hown hK hP 0 rfl rfl 5 (by decide) (hg _ m_663) (fun _ h9 => h9) rfl dX11_stood_25 ?_
      refine va_get (D := D) (ci := 8) (v := .int 100) (C := RX8) (T := TX8) (N := 13) hx hb hg i_X8 hown hK hP 1 rfl rfl 10 (by decide) (hg _ m_467) (fun _ h9 => h9) rfl dX11_stood_28 ?_
      refine lv_aload_n hx hb dX11_stood_31 rfl (lv_at hl 0 rfl) ?_
      refine va_get (D := D) (ci := 11) (v := .ref so0) (C := RX11) (T := TX11) (N := 14) hx hb hg i_X11 hown hK hP 0 rfl rfl 5 (by decide) (hg _ m_663) (fun _ h9 => h9) rfl dX11_stood_32 ?_
      refine x_callVi (q := (RX8, TX8, 13)) (ci := 8) (q0 := 0) (wr := [(a0, .inr (11, [w0, w1, .ref hh, w3, w4, .ref so0, w6, w7, w8, w9, w10, w11, w12, w13]))]) (rest := [.int 100, .int ka]) ⟨hx, hb, hml, hown, hg, hl.1⟩ k_X11_279 (c_firstLeft l D cy so0 so6 uv0 uv1 uv2 uv3 uv4 uv6 uv7 uv9 uv11 uv12 fl2_2) E0_blind hK hP hD hS hA [1, 2] [0] ⟨rfl, rfl, by decide, by decide, by decide⟩ rfl rfl (fun _ _ _ => trivial) dX11_stood_35 rfl rfl (Nat.le_of_ble_eq_true rfl) ⟨Nat.le_of_ble_eq_true rfl, Nat.le_of_ble_eq_true rfl⟩ ⟨Nat.le_of_ble_eq_true rfl, Nat.le_of_ble_eq_true rfl⟩ (fun r3 u3 H locs hw3 hP hD hS => ?_)
      have hP : va_P D vwCl [(a0, .inr (11, [w0, w1, .ref hh, w3, w4, .ref so0, w6, w7, w8, w9, w10, w11, w12, w13])), (so0, .inr (8, [uv0, uv1, uv2, uv3, uv4, .ref so6, uv6, uv7, .int 0, uv9, .int 100, uv11, uv12])), (so6, .inl (cy 1, 100, .inl (fl2_2)))] H := hP
      have hD : va_D A [(a0, .inr (11, [w0, w1, .ref hh, w3, w4, .ref so0, w6, w7, w8, w9, w10, w11, w12, w13])), (so0, .inr (8, [uv0, uv1, uv2, uv3, uv4, .ref so6, uv6, uv7, .int 0, uv9, .int 100, uv11, uv12])), (so6, .inl (cy 1, 100, .inl (fl2_2)))] := hD
      refine W.widen (k := 0) (n := 0) (Nat.le_of_ble_eq_true rfl) (Nat.le_of_ble_eq_true rfl) ?_
      have hw3 : r3 = fl2_2 0 := hw3
      refine lv_aload_n hx hb dX11_stood_38 rfl (lv_at hl 0 rfl) ?_
      refine va_get (D := D) (ci := 11) (v := .ref so0) (C := RX11) (T := TX11) (N := 14) hx hb hg i_X11 hown hK hP 0 rfl rfl 5 (by decide) (hg _ m_663) (fun _ h9 => h9) rfl dX11_stood_39 ?_
      refine x_callVi (q := (RX8, TX8, 13)) (ci := 8) (q0 := 0) (wr := [(a0, .inr (11, [w0, w1, .ref hh, w3, w4, .ref so0, w6, w7, w8, w9, w10, w11, w12, w13]))]) (rest := [.int r3, .int 100, .int ka]) ⟨hx, hb, hml, hown, hg, hl.1⟩ k_X11_283 (c_lastLeft l D cy so0 so6 uv0 uv1 uv2 uv3 uv4 uv6 uv7 uv9 uv11 uv12 fl2_2) E0_blind hK hP hD hS hA [1, 2] [0] ⟨rfl, rfl, by decide, by decide, by decide⟩ rfl rfl (fun _ _ _ => trivial) dX11_stood_42 rfl rfl (Nat.le_of_ble_eq_true rfl) ⟨Nat.le_of_ble_eq_true rfl, Nat.le_of_ble_eq_true rfl⟩ ⟨Nat.le_of_ble_eq_true rfl, Nat.le_of_ble_eq_true rfl⟩ (fun r4 u4 H locs hw4 hP hD hS => ?_)
      have hP : va_P D vwCl [(a0, .inr (11, [w0, w1, .ref hh, w3, w4, .ref so0, w6, w7, w8, w9, w10, w11, w12, w13])), (so0, .inr (8, [uv0, uv1, uv2, uv3, uv4, .ref so6, uv6, uv7, .int 0, uv9, .int 100, uv11, uv12])), (so6, .inl (cy 1, 100, .inl (fl2_2)))] H := hP
      have hD : va_D A [(a0, .inr (11, [w0, w1, .ref hh, w3, w4, .ref so0, w6, w7, w8, w9, w10, w11, w12, w13])), (so0, .inr (8, [uv0, uv1, uv2, uv3, uv4, .ref so6, uv6, uv7, .int 0, uv9, .int 100, uv11, uv12])), (so6, .inl (cy 1, 100, .inl (fl2_2)))] := hD
      refine W.widen (k := 0) (n := 0) (Nat.le_of_ble_eq_true rfl) (Nat.le_of_ble_eq_true rfl) ?_
      have hw4 : r4 = fl2_2 99 := hw4
      refine x_callSi (wr := [(a0, .inr (11, [w0, w1, .ref hh, w3, w4, .ref so0, w6, w7, w8, w9, w10, w11, w12, w13])), (so0, .inr (8, [uv0, uv1, uv2, uv3, uv4, .ref so6, uv6, uv7, .int 0, uv9, .int 100, uv11, uv12])), (so6, .inl (cy 1, 100, .inl (fl2_2)))]) (rest := []) ⟨hx, hb, hml, hown, hg, hl.1⟩ k_X11_228 (c_oneOf l D cy ka 100 r3 r4) E0_blind hK hP hD hS hA [] [0, 1, 2] ⟨rfl, rfl, by decide, by decide, by decide⟩ (fun _ _ _ => trivial) dX11_stood_45 rfl rfl (Nat.le_of_ble_eq_true rfl) ⟨Nat.le_of_ble_eq_true rfl, Nat.le_of_ble_eq_true rfl⟩ ⟨Nat.le_of_ble_eq_true rfl, Nat.le_of_ble_eq_true rfl⟩ (fun r5 u5 H locs hw5 hP hD hS => ?_)
      have hP : va_P D vwCl [(a0, .inr (11, [w0, w1, .ref hh, w3, w4, .ref so0, w6, w7, w8, w9, w10, w11, w12, w13])), (so0, .inr (8, [uv0, uv1, uv2, uv3, uv4, .ref so6, uv6, uv7, .int 0, uv9, .int 100, uv11, uv12])), (so6, .inl (cy 1, 100, .inl (fl2_2)))] H := hP
      have hD : va_D A [(a0, .inr (11, [w0, w1, .ref hh, w3, w4, .ref so0, w6, w7, w8, w9, w10, w11, w12, w13])), (so0, .inr (8, [uv0, uv1, uv2, uv3, uv4, .ref so6, uv6, uv7, .int 0, uv9, .int 100, uv11, uv12])), (so6, .inl (cy 1, 100, .inl (fl2_2)))] := hD
      refine W.widen (k := 0) (n := 0) (Nat.le_of_ble_eq_true rfl) (Nat.le_of_ble_eq_true rfl) ?_
      have hw5 : r5 = if ka.toInt = 0 then 100 else if ka.toInt = 1 then r3 else r4 := hw5
      have qc_1 : ¬ (ka : Int32).toInt < (0 : Int32).toInt := fun h => c_1 ((fa_lt _ _).mpr h)
      have qc_6 : (ka : Int32).toInt ≤ (2 : Int32).toInt := (fa_le _ _).mp c_6
      have z0 : (0 : Int32).toInt = 0 := by decide
      have z2 : (2 : Int32).toInt = 2 := by decide
      have hf0 : r3 = 0 := by rw [hw3, hw1 0 (by omega)]; rfl
      have hf9 : r4 = 99 := by rw [hw4, hw1 99 (by omega)]; rfl
      exact x_iret hQ hx hb hr hlocks hK hP hD hS dX11_stood_48 () (by rw [hw5, hf0, hf9]; by_cases h0 : ka.toInt = 0; rw [if_pos h0, if_pos h0]; by_cases h1 : ka.toInt = 1; rw [if_neg h0, if_pos h1, if_neg h0, if_pos h1]; rw [if_neg h0, if_neg h1, if_neg h0, if_neg h1, if_pos (by omega)]) [] (by decide) rfl (Nat.le_of_ble_eq_true rfl) (Nat.le_of_ble_eq_true rfl)
    · refine lv_iconst (v := -1) hx hb dX11_stood_9 (by decide) ?_
      have qc_1 : ¬ (ka : Int32).toInt < (0 : Int32).toInt := fun h => c_1 ((fa_lt _ _).mpr h)
      have qc_6 : ¬ (ka : Int32).toInt ≤ (2 : Int32).toInt := fun h => c_6 ((fa_le _ _).mpr h)
      have z0 : (0 : Int32).toInt = 0 := by decide
      have z2 : (2 : Int32).toInt = 2 := by decide
      exact x_iret hQ hx hb hr hlocks hK hP hD hS dX11_stood_10 () (by rw [if_neg (by omega), if_neg (by omega), if_neg (by omega)]) [] (by decide) rfl (Nat.le_of_ble_eq_true rfl) (Nat.le_of_ble_eq_true rfl)
end
section
theorem lp_end2 {i N : Nat} {y : Int32} (hy : y = nI (N - 1)) (hi : i ≤ N) (hN : N < 2 ^ 31) (h : y < nI i) : i = N := by
  rw [hy] at h
  have := (nI_ltI (by omega) (Nat.lt_of_le_of_lt hi hN)).mp h
  omega
theorem lp_go2 {i M : Nat} {y : Int32} (hy : y = nI M) (hi : i ≤ M + 1) (hN : M + 1 < 2 ^ 31) (h : ¬ y < nI i) : i < M + 1 := by
  rcases Nat.lt_or_ge i (M + 1) with q | q
  · exact q
  · exact absurd (by rw [hy]; exact nI_lt (by omega) (by omega)) h
theorem upd_zZ (k : Nat) : upd (fun _ => (0 : Int32)) k (vp_nar .boolean 0) = fun _ => 0 := upd_z k
theorem vb0 : vp_nar .boolean 0 = 0 := by decide
theorem vb1 : vp_nar .boolean 1 = 1 := by decide
theorem cry_in2 {r cry : Int32} (h : r = 0 ∨ cry = 0 ∨ cry = 1) (hr : ¬ r = 0) : vp_in (20 + cry) 42 := by
  rcases h with h | h | h
  · exact absurd h hr
  · subst h; unfold vp_in; decide
  · subst h; unfold vp_in; decide
theorem upd_ones {f : Nat → Int32} {i : Nat} (h : ∀ j, j < i → f j = 1) (hi : i < 2 ^ 31) : ∀ j, j < i + 1 → upd f (nI i).toNatClampNeg 1 j = 1 := by
  intro j hj
  rw [nI_clamp hi]
  unfold upd
  by_cases e : j = i
  · rw [if_pos e]
  · rw [if_neg e]
    exact h j (by omega)
theorem dX12_isIn_0 : decode cX12_isIn 0 = .ok (.iload_n 0, 1) := by decide +kernel
theorem dX12_isIn_1 : decode cX12_isIn 1 = .ok (.iload_n 1, 1) := by decide +kernel
theorem dX12_isIn_2 : decode cX12_isIn 2 = .ok (.if_icmp .lt 12, 3) := by decide +kernel
theorem dX12_isIn_14 : decode cX12_isIn 14 = .ok (.iconst 0, 1) := by decide +kernel
theorem dX12_isIn_15 : decode cX12_isIn 15 = .ok (.ireturn, 1) := by decide +kernel
theorem dX12_isIn_5 : decode cX12_isIn 5 = .ok (.iload_n 0, 1) := by decide +kernel
theorem dX12_isIn_6 : decode cX12_isIn 6 = .ok (.iload_n 2, 1) := by decide +kernel
theorem dX12_isIn_7 : decode cX12_isIn 7 = .ok (.if_icmp .gt 7, 3) := by decide +kernel
theorem dX12_isIn_10 : decode cX12_isIn 10 = .ok (.iconst 1, 1) := by decide +kernel
theorem dX12_isIn_11 : decode cX12_isIn 11 = .ok (.goto 4, 3) := by decide +kernel
set_option maxHeartbeats 400000 in
set_option maxRecDepth 100000 in
theorem m_isIn (l : Launch) (D : va_G) (cy : Nat → ClassId) (vv : Int32) (lo : Int32) (hi : Int32)  : XMi l D (tyL cy) E0 yX12_isIn cX12_isIn 3 (some .boolean) (rmk 0 0 0) [.int vv, .int lo, .int hi] [] (fun (r : Int32) (_ : Unit) => (r = 1 ∧ lo.toInt ≤ vv.toInt ∧ vv.toInt ≤ hi.toInt) ∨ (r = 0 ∧ ¬ (lo.toInt ≤ vv.toInt ∧ vv.toInt ≤ hi.toInt))) (fun (_ : Unit) => []) := by
  refine XMi.start (by decide) (Nat.le_of_ble_eq_true rfl) ?_
  intro p e s m below meth c args A ls Q hat hQ
  obtain ⟨hx, hb, hr, hml, hown, hg, hlocks, hin, hK, hA, hP, hD, hS, hE, hl⟩ := hat
  have hown : s.vm.findClass RX12 = some m.cls := hown
  have hl : lv_has ls 3 [(0, .int vv), (1, .int lo), (2, .int hi)] := hl
  refine lv_iload_n hx hb dX12_isIn_0 rfl (lv_at hl 0 rfl) ?_
  refine lv_iload_n hx hb dX12_isIn_1 rfl (lv_at hl 1 rfl) ?_
  refine lv_icmp_lt (tgt := 14) hx hb dX12_isIn_2 (by decide) (fun c_2 => ?_) (fun c_2 => ?_)
  · refine lv_iconst (v := 0) hx hb dX12_isIn_14 (by decide) ?_
    have qc_2 : (vv : Int32).toInt < (lo : Int32).toInt := (fa_lt _ _).mp c_2
    exact x_zret hQ hx hb hr hlocks hK hP hD hS rfl dX12_isIn_15 () (Or.inr ⟨rfl, by omega⟩) [] (by decide) rfl (Nat.le_of_ble_eq_true rfl) (Nat.le_of_ble_eq_true rfl)
  · refine lv_iload_n hx hb dX12_isIn_5 rfl (lv_at hl 0 rfl) ?_
    refine lv_iload_n hx hb dX12_isIn_6 rfl (lv_at hl 2 rfl) ?_
    refine lv_icmp_gt (tgt := 14) hx hb dX12_isIn_7 (by decide) (fun c_7 => ?_) (fun c_7 => ?_)
    · refine lv_iconst (v := 0) hx hb dX12_isIn_14 (by decide) ?_
      have qc_2 : ¬ (vv : Int32).toInt < (lo : Int32).toInt := fun h => c_2 ((fa_lt _ _).mpr h)
      have qc_7 : (hi : Int32).toInt < (vv : Int32).toInt := (fa_lt _ _).mp c_7
      exact x_zret hQ hx hb hr hlocks hK hP hD hS rfl dX12_isIn_15 () (Or.inr ⟨rfl, by omega⟩) [] (by decide) rfl (Nat.le_of_ble_eq_true rfl) (Nat.le_of_ble_eq_true rfl)
    · refine lv_iconst (v := 1) hx hb dX12_isIn_10 (by decide) ?_
      refine lv_goto (tgt := 15) hx hb dX12_isIn_11 (by decide) ?_
      have qc_2 : ¬ (vv : Int32).toInt < (lo : Int32).toInt := fun h => c_2 ((fa_lt _ _).mpr h)
      have qc_7 : ¬ (hi : Int32).toInt < (vv : Int32).toInt := fun h => c_7 ((fa_lt _ _).mpr h)
      exact x_zret hQ hx hb hr hlocks hK hP hD hS rfl dX12_isIn_15 () (Or.inl ⟨rfl, by omega⟩) [] (by decide) rfl (Nat.le_of_ble_eq_true rfl) (Nat.le_of_ble_eq_true rfl)
theorem dX12_isCliff_0 : decode cX12_isCliff 0 = .ok (.iload_n 1, 1) := by decide +kernel
theorem dX12_isCliff_1 : decode cX12_isCliff 1 = .ok (.iconst 0, 1) := by decide +kernel
theorem dX12_isCliff_2 : decode cX12_isCliff 2 = .ok (.aload_n 0, 1) := by decide +kernel
theorem dX12_isCliff_3 : decode cX12_isCliff 3 = .ok (.getfield 406, 3) := by decide +kernel
set_option maxRecDepth 20000 in
theorem i_X12 : ∀ w ∈ u_ws RX12 TX12 89, w ∈ gT := gin [1502, 1504, 1506, 1508, 1510, 1512, 1514, 1516, 1518, 1520, 1522, 1524, 1526, 1528, 1530, 1532, 1534, 1536, 1538, 1540, 1542, 1544, 1546, 1548, 1550, 1552, 1554, 1556, 1558, 1560, 1562, 1564, 1566, 1568, 1570, 1572, 1574, 1576, 1578, 1580, 1582, 1584, 1586, 1588, 1590, 1592, 1594, 1596, 1598, 1600, 1602, 1604, 1606, 1608, 1610, 1612, 1614, 1616, 1618, 1620, 1622, 1624, 1626, 1628, 1630, 1632, 1634, 1636, 1638, 1640, 1642, 1644, 1646, 1648, 1650, 1652, 1654, 1656, 1658, 1660, 1662, 1664, 1666, 1668, 1670, 1672, 1674, 1676, 1678] (by decide +kernel) (by decide +kernel)
theorem m_1463 : (Cond.fieldLink RX12 406 "CliffJudgesModel" "cliffs" "I") ∈ gT := gm 1463 (by decide +kernel) (by decide +kernel)
theorem dX12_isCliff_6 : decode cX12_isCliff 6 = .ok (.iconst 1, 1) := by decide +kernel
theorem dX12_isCliff_7 : decode cX12_isCliff 7 = .ok (.isub, 1) := by decide +kernel
theorem dX12_isCliff_8 : decode cX12_isCliff 8 = .ok (.invokestatic 436, 3) := by decide +kernel
theorem m_1874 : (Cond.methodLink RX12 436 yX12_isIn) ∈ gT := gm 1874 (by decide +kernel) (by decide +kernel)
theorem m_1875 : (Cond.static yX12_isIn) ∈ gT := gm 1875 (by decide +kernel) (by decide +kernel)
theorem m_146 : (Cond.initialized RX12) ∈ gT := gm 146 (by decide +kernel) (by decide +kernel)
theorem m_1876 : (Cond.code yX12_isIn cX12_isIn 3 (some .boolean)) ∈ gT := gm 1876 (by decide +kernel) (by decide +kernel)
theorem k_X12_436 : xS RX12 436 yX12_isIn cX12_isIn 3 (some .boolean) 3 := ⟨⟨m_1874, m_1875, m_146, m_1876⟩, by decide, by decide, by decide +kernel⟩
theorem dX12_isCliff_11 : decode cX12_isCliff 11 = .ok (.ireturn, 1) := by decide +kernel
set_option maxHeartbeats 400000 in
set_option maxRecDepth 100000 in
theorem m_isCliff (l : Launch) (D : va_G) (cy : Nat → ClassId) (b0 : Nat) (x0 : Value) (x1 : Value) (x2 : Value) (x3 : Value) (x4 : Value) (x5 : Value) (x6 : Value) (x7 : Value) (x8 : Value) (x9 : Value) (x10 : Value) (x11 : Value) (x12 : Value) (x13 : Value) (x14 : Value) (x15 : Value) (x16 : Value) (x17 : Value) (x18 : Value) (x19 : Value) (x20 : Value) (x21 : Value) (x22 : Value) (x23 : Value) (x24 : Value) (x25 : Value) (x26 : Value) (x27 : Value) (x28 : Value) (x29 : Value) (x30 : Value) (x31 : Value) (x32 : Value) (x33 : Value) (x34 : Value) (x35 : Value) (x36 : Value) (x37 : Value) (x38 : Value) (x39 : Value) (x40 : Value) (x41 : Value) (x42 : Value) (x43 : Value) (x44 : Value) (x45 : Value) (x46 : Value) (x47 : Value) (x48 : Value) (x49 : Value) (x51 : Value) (x52 : Value) (x53 : Value) (x54 : Value) (x55 : Value) (x56 : Value) (x57 : Value) (x58 : Value) (x59 : Value) (x60 : Value) (x61 : Value) (x62 : Value) (x63 : Value) (x64 : Value) (x65 : Value) (x66 : Value) (x67 : Value) (x68 : Value) (x69 : Value) (x70 : Value) (x71 : Value) (x72 : Value) (x73 : Value) (x74 : Value) (x75 : Value) (x76 : Value) (x77 : Value) (x78 : Value) (x79 : Value) (x80 : Value) (x81 : Value) (x82 : Value) (x83 : Value) (x84 : Value) (x85 : Value) (x86 : Value) (x87 : Value) (x88 : Value) (ka : Int32)  : XMi l D (tyL cy) E0 yX12_isCliff cX12_isCliff 2 (some .boolean) (rmk 1 0 0) [.ref b0, .int ka] [(b0, .inr (12, [x0, x1, x2, x3, x4, x5, x6, x7, x8, x9, x10, x11, x12, x13, x14, x15, x16, x17, x18, x19, x20, x21, x22, x23, x24, x25, x26, x27, x28, x29, x30, x31, x32, x33, x34, x35, x36, x37, x38, x39, x40, x41, x42, x43, x44, x45, x46, x47, x48, x49, .int 0, x51, x52, x53, x54, x55, x56, x57, x58, x59, x60, x61, x62, x63, x64, x65, x66, x67, x68, x69, x70, x71, x72, x73, x74, x75, x76, x77, x78, x79, x80, x81, x82, x83, x84, x85, x86, x87, x88]))] (fun (r : Int32) (_ : Unit) => r = 0) (fun (_ : Unit) => [(b0, .inr (12, [x0, x1, x2, x3, x4, x5, x6, x7, x8, x9, x10, x11, x12, x13, x14, x15, x16, x17, x18, x19, x20, x21, x22, x23, x24, x25, x26, x27, x28, x29, x30, x31, x32, x33, x34, x35, x36, x37, x38, x39, x40, x41, x42, x43, x44, x45, x46, x47, x48, x49, .int 0, x51, x52, x53, x54, x55, x56, x57, x58, x59, x60, x61, x62, x63, x64, x65, x66, x67, x68, x69, x70, x71, x72, x73, x74, x75, x76, x77, x78, x79, x80, x81, x82, x83, x84, x85, x86, x87, x88]))]) := by
  refine XMi.start (by decide) (Nat.le_of_ble_eq_true rfl) ?_
  intro p e s m below meth c args A ls Q hat hQ
  obtain ⟨hx, hb, hr, hml, hown, hg, hlocks, hin, hK, hA, hP, hD, hS, hE, hl⟩ := hat
  have hown : s.vm.findClass RX12 = some m.cls := hown
  have hl : lv_has ls 2 [(0, .ref b0), (1, .int ka)] := hl
  refine lv_iload_n hx hb dX12_isCliff_0 rfl (lv_at hl 1 rfl) ?_
  refine lv_iconst (v := 0) hx hb dX12_isCliff_1 (by decide) ?_
  refine lv_aload_n hx hb dX12_isCliff_2 rfl (lv_at hl 0 rfl) ?_
  refine va_get (D := D) (ci := 12) (v := .int 0) (C := RX12) (T := TX12) (N := 89) hx hb hg i_X12 hown hK hP 0 rfl rfl 50 (by decide) (hg _ m_1463) (fun _ h9 => h9) rfl dX12_isCliff_3 ?_
  refine lv_iconst (v := 1) hx hb dX12_isCliff_6 (by decide) ?_
  refine lv_isub hx hb dX12_isCliff_7 ?_
  refine lv_topi (fun y_1 hy_1 => ?_)
  obtain rfl : y_1 = -1 := hy_1.trans (by decide +kernel)
  refine x_callSi (wr := [(b0, .inr (12, [x0, x1, x2, x3, x4, x5, x6, x7, x8, x9, x10, x11, x12, x13, x14, x15, x16, x17, x18, x19, x20, x21, x22, x23, x24, x25, x26, x27, x28, x29, x30, x31, x32, x33, x34, x35, x36, x37, x38, x39, x40, x41, x42, x43, x44, x45, x46, x47, x48, x49, .int 0, x51, x52, x53, x54, x55, x56, x57, x58, x59, x60, x61, x62, x63, x64, x65, x66, x67, x68, x69, x70, x71, x72, x73, x74, x75, x76, x77, x78, x79, x80, x81, x82, x83, x84, x85, x86, x87, x88]))]) (rest := []) ⟨hx, hb, hml, hown, hg, hl.1⟩ k_X12_436 (m_isIn l D cy ka 0 (-1)) E0_blind hK hP hD hS hA [] [0] ⟨rfl, rfl, by decide, by decide, by decide⟩ (fun _ _ _ => trivial) dX12_isCliff_8 rfl rfl (Nat.le_of_ble_eq_true rfl) ⟨Nat.le_of_ble_eq_true rfl, Nat.le_of_ble_eq_true rfl⟩ ⟨Nat.le_of_ble_eq_true rfl, Nat.le_of_ble_eq_true rfl⟩ (fun r2 u2 H locs hw2 hP hD hS => ?_)
  have hP : va_P D vwCl [(b0, .inr (12, [x0, x1, x2, x3, x4, x5, x6, x7, x8, x9, x10, x11, x12, x13, x14, x15, x16, x17, x18, x19, x20, x21, x22, x23, x24, x25, x26, x27, x28, x29, x30, x31, x32, x33, x34, x35, x36, x37, x38, x39, x40, x41, x42, x43, x44, x45, x46, x47, x48, x49, .int 0, x51, x52, x53, x54, x55, x56, x57, x58, x59, x60, x61, x62, x63, x64, x65, x66, x67, x68, x69, x70, x71, x72, x73, x74, x75, x76, x77, x78, x79, x80, x81, x82, x83, x84, x85, x86, x87, x88]))] H := hP
  have hD : va_D A [(b0, .inr (12, [x0, x1, x2, x3, x4, x5, x6, x7, x8, x9, x10, x11, x12, x13, x14, x15, x16, x17, x18, x19, x20, x21, x22, x23, x24, x25, x26, x27, x28, x29, x30, x31, x32, x33, x34, x35, x36, x37, x38, x39, x40, x41, x42, x43, x44, x45, x46, x47, x48, x49, .int 0, x51, x52, x53, x54, x55, x56, x57, x58, x59, x60, x61, x62, x63, x64, x65, x66, x67, x68, x69, x70, x71, x72, x73, x74, x75, x76, x77, x78, x79, x80, x81, x82, x83, x84, x85, x86, x87, x88]))] := hD
  refine W.widen (k := 0) (n := 0) (Nat.le_of_ble_eq_true rfl) (Nat.le_of_ble_eq_true rfl) ?_
  have hw2 : (r2 = 1 ∧ (0 : Int32).toInt ≤ ka.toInt ∧ ka.toInt ≤ (-1 : Int32).toInt) ∨ (r2 = 0 ∧ ¬ ((0 : Int32).toInt ≤ ka.toInt ∧ ka.toInt ≤ (-1 : Int32).toInt)) := hw2
  have z0 : (0 : Int32).toInt = 0 := by decide
  have zm1 : (-1 : Int32).toInt = -1 := by decide
  obtain rfl : r2 = 0 := hw2.elim (fun h => absurd h.2 (by omega)) (fun h => h.1)
  exact x_zret hQ hx hb hr hlocks hK hP hD hS rfl dX12_isCliff_11 () (rfl) [0] (by decide) rfl (Nat.le_of_ble_eq_true rfl) (Nat.le_of_ble_eq_true rfl)
theorem dX12_isMan_0 : decode cX12_isMan 0 = .ok (.iload_n 1, 1) := by decide +kernel
theorem dX12_isMan_1 : decode cX12_isMan 1 = .ok (.iconst 0, 1) := by decide +kernel
theorem dX12_isMan_2 : decode cX12_isMan 2 = .ok (.aload_n 0, 1) := by decide +kernel
theorem dX12_isMan_3 : decode cX12_isMan 3 = .ok (.getfield 409, 3) := by decide +kernel
theorem m_1464 : (Cond.fieldLink RX12 409 "CliffJudgesModel" "men" "I") ∈ gT := gm 1464 (by decide +kernel) (by decide +kernel)
theorem dX12_isMan_6 : decode cX12_isMan 6 = .ok (.iconst 1, 1) := by decide +kernel
theorem dX12_isMan_7 : decode cX12_isMan 7 = .ok (.isub, 1) := by decide +kernel
theorem dX12_isMan_8 : decode cX12_isMan 8 = .ok (.invokestatic 436, 3) := by decide +kernel
theorem dX12_isMan_11 : decode cX12_isMan 11 = .ok (.ireturn, 1) := by decide +kernel
set_option maxHeartbeats 400000 in
set_option maxRecDepth 100000 in
theorem m_isMan (l : Launch) (D : va_G) (cy : Nat → ClassId) (b0 : Nat) (x0 : Value) (x1 : Value) (x2 : Value) (x3 : Value) (x4 : Value) (x5 : Value) (x6 : Value) (x7 : Value) (x8 : Value) (x9 : Value) (x10 : Value) (x11 : Value) (x12 : Value) (x13 : Value) (x14 : Value) (x15 : Value) (x16 : Value) (x17 : Value) (x18 : Value) (x19 : Value) (x20 : Value) (x21 : Value) (x22 : Value) (x23 : Value) (x24 : Value) (x25 : Value) (x26 : Value) (x27 : Value) (x28 : Value) (x29 : Value) (x30 : Value) (x31 : Value) (x32 : Value) (x33 : Value) (x34 : Value) (x35 : Value) (x36 : Value) (x37 : Value) (x38 : Value) (x39 : Value) (x40 : Value) (x41 : Value) (x42 : Value) (x43 : Value) (x44 : Value) (x45 : Value) (x46 : Value) (x47 : Value) (x48 : Value) (x49 : Value) (x50 : Value) (x52 : Value) (x53 : Value) (x54 : Value) (x55 : Value) (x56 : Value) (x57 : Value) (x58 : Value) (x59 : Value) (x60 : Value) (x61 : Value) (x62 : Value) (x63 : Value) (x64 : Value) (x65 : Value) (x66 : Value) (x67 : Value) (x68 : Value) (x69 : Value) (x70 : Value) (x71 : Value) (x72 : Value) (x73 : Value) (x74 : Value) (x75 : Value) (x76 : Value) (x77 : Value) (x78 : Value) (x79 : Value) (x80 : Value) (x81 : Value) (x82 : Value) (x83 : Value) (x84 : Value) (x85 : Value) (x86 : Value) (x87 : Value) (x88 : Value) (ka : Int32)  : XMi l D (tyL cy) E0 yX12_isMan cX12_isMan 2 (some .boolean) (rmk 1 0 0) [.ref b0, .int ka] [(b0, .inr (12, [x0, x1, x2, x3, x4, x5, x6, x7, x8, x9, x10, x11, x12, x13, x14, x15, x16, x17, x18, x19, x20, x21, x22, x23, x24, x25, x26, x27, x28, x29, x30, x31, x32, x33, x34, x35, x36, x37, x38, x39, x40, x41, x42, x43, x44, x45, x46, x47, x48, x49, x50, .int 0, x52, x53, x54, x55, x56, x57, x58, x59, x60, x61, x62, x63, x64, x65, x66, x67, x68, x69, x70, x71, x72, x73, x74, x75, x76, x77, x78, x79, x80, x81, x82, x83, x84, x85, x86, x87, x88]))] (fun (r : Int32) (_ : Unit) => r = 0) (fun (_ : Unit) => [(b0, .inr (12, [x0, x1, x2, x3, x4, x5, x6, x7, x8, x9, x10, x11, x12, x13, x14, x15, x16, x17, x18, x19, x20, x21, x22, x23, x24, x25, x26, x27, x28, x29, x30, x31, x32, x33, x34, x35, x36, x37, x38, x39, x40, x41, x42, x43, x44, x45, x46, x47, x48, x49, x50, .int 0, x52, x53, x54, x55, x56, x57, x58, x59, x60, x61, x62, x63, x64, x65, x66, x67, x68, x69, x70, x71, x72, x73, x74, x75, x76, x77, x78, x79, x80, x81, x82, x83, x84, x85, x86, x87, x88]))]) := by
  refine XMi.start (by decide) (Nat.le_of_ble_eq_true rfl) ?_
  intro p e s m below meth c args A ls Q hat hQ
  obtain ⟨hx, hb, hr, hml, hown, hg, hlocks, hin, hK, hA, hP, hD, hS, hE, hl⟩ := hat
  have hown : s.vm.findClass RX12 = some m.cls := hown
  have hl : lv_has ls 2 [(0, .ref b0), (1, .int ka)] := hl
  refine lv_iload_n hx hb dX12_isMan_0 rfl (lv_at hl 1 rfl) ?_
  refine lv_iconst (v := 0) hx hb dX12_isMan_1 (by decide) ?_
  refine lv_aload_n hx hb dX12_isMan_2 rfl (lv_at hl 0 rfl) ?_
  refine va_get (D := D) (ci := 12) (v := .int 0) (C := RX12) (T := TX12) (N := 89) hx hb hg i_X12 hown hK hP 0 rfl rfl 51 (by decide) (hg _ m_1464) (fun _ h9 => h9) rfl dX12_isMan_3 ?_
  refine lv_iconst (v := 1) hx hb dX12_isMan_6 (by decide) ?_
  refine lv_isub hx hb dX12_isMan_7 ?_
  refine lv_topi (fun y_1 hy_1 => ?_)
  obtain rfl : y_1 = -1 := hy_1.trans (by decide +kernel)
  refine x_callSi (wr := [(b0, .inr (12, [x0, x1, x2, x3, x4, x5, x6, x7, x8, x9, x10, x11, x12, x13, x14, x15, x16, x17, x18, x19, x20, x21, x22, x23, x24, x25, x26, x27, x28, x29, x30, x31, x32, x33, x34, x35, x36, x37, x38, x39, x40, x41, x42, x43, x44, x45, x46, x47, x48, x49, x50, .int 0, x52, x53, x54, x55, x56, x57, x58, x59, x60, x61, x62, x63, x64, x65, x66, x67, x68, x69, x70, x71, x72, x73, x74, x75, x76, x77, x78, x79, x80, x81, x82, x83, x84, x85, x86, x87, x88]))]) (rest := []) ⟨hx, hb, hml, hown, hg, hl.1⟩ k_X12_436 (m_isIn l D cy ka 0 (-1)) E0_blind hK hP hD hS hA [] [0] ⟨rfl, rfl, by decide, by decide, by decide⟩ (fun _ _ _ => trivial) dX12_isMan_8 rfl rfl (Nat.le_of_ble_eq_true rfl) ⟨Nat.le_of_ble_eq_true rfl, Nat.le_of_ble_eq_true rfl⟩ ⟨Nat.le_of_ble_eq_true rfl, Nat.le_of_ble_eq_true rfl⟩ (fun r2 u2 H locs hw2 hP hD hS => ?_)
  have hP : va_P D vwCl [(b0, .inr (12, [x0, x1, x2, x3, x4, x5, x6, x7, x8, x9, x10, x11, x12, x13, x14, x15, x16, x17, x18, x19, x20, x21, x22, x23, x24, x25, x26, x27, x28, x29, x30, x31, x32, x33, x34, x35, x36, x37, x38, x39, x40, x41, x42, x43, x44, x45, x46, x47, x48, x49, x50, .int 0, x52, x53, x54, x55, x56, x57, x58, x59, x60, x61, x62, x63, x64, x65, x66, x67, x68, x69, x70, x71, x72, x73, x74, x75, x76, x77, x78, x79, x80, x81, x82, x83, x84, x85, x86, x87, x88]))] H := hP
  have hD : va_D A [(b0, .inr (12, [x0, x1, x2, x3, x4, x5, x6, x7, x8, x9, x10, x11, x12, x13, x14, x15, x16, x17, x18, x19, x20, x21, x22, x23, x24, x25, x26, x27, x28, x29, x30, x31, x32, x33, x34, x35, x36, x37, x38, x39, x40, x41, x42, x43, x44, x45, x46, x47, x48, x49, x50, .int 0, x52, x53, x54, x55, x56, x57, x58, x59, x60, x61, x62, x63, x64, x65, x66, x67, x68, x69, x70, x71, x72, x73, x74, x75, x76, x77, x78, x79, x80, x81, x82, x83, x84, x85, x86, x87, x88]))] := hD
  refine W.widen (k := 0) (n := 0) (Nat.le_of_ble_eq_true rfl) (Nat.le_of_ble_eq_true rfl) ?_
  have hw2 : (r2 = 1 ∧ (0 : Int32).toInt ≤ ka.toInt ∧ ka.toInt ≤ (-1 : Int32).toInt) ∨ (r2 = 0 ∧ ¬ ((0 : Int32).toInt ≤ ka.toInt ∧ ka.toInt ≤ (-1 : Int32).toInt)) := hw2
  have z0 : (0 : Int32).toInt = 0 := by decide
  have zm1 : (-1 : Int32).toInt = -1 := by decide
  obtain rfl : r2 = 0 := hw2.elim (fun h => absurd h.2 (by omega)) (fun h => h.1)
  exact x_zret hQ hx hb hr hlocks hK hP hD hS rfl dX12_isMan_11 () (rfl) [0] (by decide) rfl (Nat.le_of_ble_eq_true rfl) (Nat.le_of_ble_eq_true rfl)
theorem dX12_isSaid_0 : decode cX12_isSaid 0 = .ok (.iload_n 1, 1) := by decide +kernel
theorem dX12_isSaid_1 : decode cX12_isSaid 1 = .ok (.iconst 0, 1) := by decide +kernel
theorem dX12_isSaid_2 : decode cX12_isSaid 2 = .ok (.aload_n 0, 1) := by decide +kernel
theorem dX12_isSaid_3 : decode cX12_isSaid 3 = .ok (.getfield 403, 3) := by decide +kernel
theorem m_1462 : (Cond.fieldLink RX12 403 "CliffJudgesModel" "words" "I") ∈ gT := gm 1462 (by decide +kernel) (by decide +kernel)
theorem dX12_isSaid_6 : decode cX12_isSaid 6 = .ok (.iconst 1, 1) := by decide +kernel
theorem dX12_isSaid_7 : decode cX12_isSaid 7 = .ok (.isub, 1) := by decide +kernel
theorem dX12_isSaid_8 : decode cX12_isSaid 8 = .ok (.invokestatic 436, 3) := by decide +kernel
theorem dX12_isSaid_11 : decode cX12_isSaid 11 = .ok (.ireturn, 1) := by decide +kernel
set_option maxHeartbeats 400000 in
set_option maxRecDepth 100000 in
theorem m_isSaid (l : Launch) (D : va_G) (cy : Nat → ClassId) (b0 : Nat) (x0 : Value) (x1 : Value) (x2 : Value) (x3 : Value) (x4 : Value) (x5 : Value) (x6 : Value) (x7 : Value) (x8 : Value) (x9 : Value) (x10 : Value) (x11 : Value) (x12 : Value) (x13 : Value) (x14 : Value) (x15 : Value) (x16 : Value) (x17 : Value) (x18 : Value) (x19 : Value) (x20 : Value) (x21 : Value) (x22 : Value) (x23 : Value) (x24 : Value) (x25 : Value) (x26 : Value) (x27 : Value) (x28 : Value) (x29 : Value) (x30 : Value) (x31 : Value) (x32 : Value) (x33 : Value) (x34 : Value) (x35 : Value) (x36 : Value) (x37 : Value) (x38 : Value) (x39 : Value) (x40 : Value) (x41 : Value) (x42 : Value) (x43 : Value) (x44 : Value) (x45 : Value) (x46 : Value) (x47 : Value) (x48 : Value) (x50 : Value) (x51 : Value) (x52 : Value) (x53 : Value) (x54 : Value) (x55 : Value) (x56 : Value) (x57 : Value) (x58 : Value) (x59 : Value) (x60 : Value) (x61 : Value) (x62 : Value) (x63 : Value) (x64 : Value) (x65 : Value) (x66 : Value) (x67 : Value) (x68 : Value) (x69 : Value) (x70 : Value) (x71 : Value) (x72 : Value) (x73 : Value) (x74 : Value) (x75 : Value) (x76 : Value) (x77 : Value) (x78 : Value) (x79 : Value) (x80 : Value) (x81 : Value) (x82 : Value) (x83 : Value) (x84 : Value) (x85 : Value) (x86 : Value) (x87 : Value) (x88 : Value) (ka : Int32)  : XMi l D (tyL cy) E0 yX12_isSaid cX12_isSaid 2 (some .boolean) (rmk 1 0 0) [.ref b0, .int ka] [(b0, .inr (12, [x0, x1, x2, x3, x4, x5, x6, x7, x8, x9, x10, x11, x12, x13, x14, x15, x16, x17, x18, x19, x20, x21, x22, x23, x24, x25, x26, x27, x28, x29, x30, x31, x32, x33, x34, x35, x36, x37, x38, x39, x40, x41, x42, x43, x44, x45, x46, x47, x48, .int 0, x50, x51, x52, x53, x54, x55, x56, x57, x58, x59, x60, x61, x62, x63, x64, x65, x66, x67, x68, x69, x70, x71, x72, x73, x74, x75, x76, x77, x78, x79, x80, x81, x82, x83, x84, x85, x86, x87, x88]))] (fun (r : Int32) (_ : Unit) => r = 0) (fun (_ : Unit) => [(b0, .inr (12, [x0, x1, x2, x3, x4, x5, x6, x7, x8, x9, x10, x11, x12, x13, x14, x15, x16, x17, x18, x19, x20, x21, x22, x23, x24, x25, x26, x27, x28, x29, x30, x31, x32, x33, x34, x35, x36, x37, x38, x39, x40, x41, x42, x43, x44, x45, x46, x47, x48, .int 0, x50, x51, x52, x53, x54, x55, x56, x57, x58, x59, x60, x61, x62, x63, x64, x65, x66, x67, x68, x69, x70, x71, x72, x73, x74, x75, x76, x77, x78, x79, x80, x81, x82, x83, x84, x85, x86, x87, x88]))]) := by
  refine XMi.start (by decide) (Nat.le_of_ble_eq_true rfl) ?_
  intro p e s m below meth c args A ls Q hat hQ
  obtain ⟨hx, hb, hr, hml, hown, hg, hlocks, hin, hK, hA, hP, hD, hS, hE, hl⟩ := hat
  have hown : s.vm.findClass RX12 = some m.cls := hown
  have hl : lv_has ls 2 [(0, .ref b0), (1, .int ka)] := hl
  refine lv_iload_n hx hb dX12_isSaid_0 rfl (lv_at hl 1 rfl) ?_
  refine lv_iconst (v := 0) hx hb dX12_isSaid_1 (by decide) ?_
  refine lv_aload_n hx hb dX12_isSaid_2 rfl (lv_at hl 0 rfl) ?_
  refine va_get (D := D) (ci := 12) (v := .int 0) (C := RX12) (T := TX12) (N := 89) hx hb hg i_X12 hown hK hP 0 rfl rfl 49 (by decide) (hg _ m_1462) (fun _ h9 => h9) rfl dX12_isSaid_3 ?_
  refine lv_iconst (v := 1) hx hb dX12_isSaid_6 (by decide) ?_
  refine lv_isub hx hb dX12_isSaid_7 ?_
  refine lv_topi (fun y_1 hy_1 => ?_)
  obtain rfl : y_1 = -1 := hy_1.trans (by decide +kernel)
  refine x_callSi (wr := [(b0, .inr (12, [x0, x1, x2, x3, x4, x5, x6, x7, x8, x9, x10, x11, x12, x13, x14, x15, x16, x17, x18, x19, x20, x21, x22, x23, x24, x25, x26, x27, x28, x29, x30, x31, x32, x33, x34, x35, x36, x37, x38, x39, x40, x41, x42, x43, x44, x45, x46, x47, x48, .int 0, x50, x51, x52, x53, x54, x55, x56, x57, x58, x59, x60, x61, x62, x63, x64, x65, x66, x67, x68, x69, x70, x71, x72, x73, x74, x75, x76, x77, x78, x79, x80, x81, x82, x83, x84, x85, x86, x87, x88]))]) (rest := []) ⟨hx, hb, hml, hown, hg, hl.1⟩ k_X12_436 (m_isIn l D cy ka 0 (-1)) E0_blind hK hP hD hS hA [] [0] ⟨rfl, rfl, by decide, by decide, by decide⟩ (fun _ _ _ => trivial) dX12_isSaid_8 rfl rfl (Nat.le_of_ble_eq_true rfl) ⟨Nat.le_of_ble_eq_true rfl, Nat.le_of_ble_eq_true rfl⟩ ⟨Nat.le_of_ble_eq_true rfl, Nat.le_of_ble_eq_true rfl⟩ (fun r2 u2 H locs hw2 hP hD hS => ?_)
  have hP : va_P D vwCl [(b0, .inr (12, [x0, x1, x2, x3, x4, x5, x6, x7, x8, x9, x10, x11, x12, x13, x14, x15, x16, x17, x18, x19, x20, x21, x22, x23, x24, x25, x26, x27, x28, x29, x30, x31, x32, x33, x34, x35, x36, x37, x38, x39, x40, x41, x42, x43, x44, x45, x46, x47, x48, .int 0, x50, x51, x52, x53, x54, x55, x56, x57, x58, x59, x60, x61, x62, x63, x64, x65, x66, x67, x68, x69, x70, x71, x72, x73, x74, x75, x76, x77, x78, x79, x80, x81, x82, x83, x84, x85, x86, x87, x88]))] H := hP
  have hD : va_D A [(b0, .inr (12, [x0, x1, x2, x3, x4, x5, x6, x7, x8, x9, x10, x11, x12, x13, x14, x15, x16, x17, x18, x19, x20, x21, x22, x23, x24, x25, x26, x27, x28, x29, x30, x31, x32, x33, x34, x35, x36, x37, x38, x39, x40, x41, x42, x43, x44, x45, x46, x47, x48, .int 0, x50, x51, x52, x53, x54, x55, x56, x57, x58, x59, x60, x61, x62, x63, x64, x65, x66, x67, x68, x69, x70, x71, x72, x73, x74, x75, x76, x77, x78, x79, x80, x81, x82, x83, x84, x85, x86, x87, x88]))] := hD
  refine W.widen (k := 0) (n := 0) (Nat.le_of_ble_eq_true rfl) (Nat.le_of_ble_eq_true rfl) ?_
  have hw2 : (r2 = 1 ∧ (0 : Int32).toInt ≤ ka.toInt ∧ ka.toInt ≤ (-1 : Int32).toInt) ∨ (r2 = 0 ∧ ¬ ((0 : Int32).toInt ≤ ka.toInt ∧ ka.toInt ≤ (-1 : Int32).toInt)) := hw2
  have z0 : (0 : Int32).toInt = 0 := by decide
  have zm1 : (-1 : Int32).toInt = -1 := by decide
  obtain rfl : r2 = 0 := hw2.elim (fun h => absurd h.2 (by omega)) (fun h => h.1)
  exact x_zret hQ hx hb hr hlocks hK hP hD hS rfl dX12_isSaid_11 () (rfl) [0] (by decide) rfl (Nat.le_of_ble_eq_true rfl) (Nat.le_of_ble_eq_true rfl)
theorem dX12_isState_0 : decode cX12_isState 0 = .ok (.iload_n 1, 1) := by decide +kernel
theorem dX12_isState_1 : decode cX12_isState 1 = .ok (.iconst 0, 1) := by decide +kernel
theorem dX12_isState_2 : decode cX12_isState 2 = .ok (.aload_n 0, 1) := by decide +kernel
theorem dX12_isState_3 : decode cX12_isState 3 = .ok (.getfield 412, 3) := by decide +kernel
theorem m_1465 : (Cond.fieldLink RX12 412 "CliffJudgesModel" "states" "I") ∈ gT := gm 1465 (by decide +kernel) (by decide +kernel)
theorem dX12_isState_6 : decode cX12_isState 6 = .ok (.iconst 1, 1) := by decide +kernel
theorem dX12_isState_7 : decode cX12_isState 7 = .ok (.isub, 1) := by decide +kernel
theorem dX12_isState_8 : decode cX12_isState 8 = .ok (.invokestatic 436, 3) := by decide +kernel
theorem dX12_isState_11 : decode cX12_isState 11 = .ok (.ireturn, 1) := by decide +kernel
set_option maxHeartbeats 400000 in
set_option maxRecDepth 100000 in
theorem m_isState (l : Launch) (D : va_G) (cy : Nat → ClassId) (b0 : Nat) (x0 : Value) (x1 : Value) (x2 : Value) (x3 : Value) (x4 : Value) (x5 : Value) (x6 : Value) (x7 : Value) (x8 : Value) (x9 : Value) (x10 : Value) (x11 : Value) (x12 : Value) (x13 : Value) (x14 : Value) (x15 : Value) (x16 : Value) (x17 : Value) (x18 : Value) (x19 : Value) (x20 : Value) (x21 : Value) (x22 : Value) (x23 : Value) (x24 : Value) (x25 : Value) (x26 : Value) (x27 : Value) (x28 : Value) (x29 : Value) (x30 : Value) (x31 : Value) (x32 : Value) (x33 : Value) (x34 : Value) (x35 : Value) (x36 : Value) (x37 : Value) (x38 : Value) (x39 : Value) (x40 : Value) (x41 : Value) (x42 : Value) (x43 : Value) (x44 : Value) (x45 : Value) (x46 : Value) (x47 : Value) (x48 : Value) (x49 : Value) (x50 : Value) (x51 : Value) (x53 : Value) (x54 : Value) (x55 : Value) (x56 : Value) (x57 : Value) (x58 : Value) (x59 : Value) (x60 : Value) (x61 : Value) (x62 : Value) (x63 : Value) (x64 : Value) (x65 : Value) (x66 : Value) (x67 : Value) (x68 : Value) (x69 : Value) (x70 : Value) (x71 : Value) (x72 : Value) (x73 : Value) (x74 : Value) (x75 : Value) (x76 : Value) (x77 : Value) (x78 : Value) (x79 : Value) (x80 : Value) (x81 : Value) (x82 : Value) (x83 : Value) (x84 : Value) (x85 : Value) (x86 : Value) (x87 : Value) (x88 : Value) (ka : Int32)  : XMi l D (tyL cy) E0 yX12_isState cX12_isState 2 (some .boolean) (rmk 1 0 0) [.ref b0, .int ka] [(b0, .inr (12, [x0, x1, x2, x3, x4, x5, x6, x7, x8, x9, x10, x11, x12, x13, x14, x15, x16, x17, x18, x19, x20, x21, x22, x23, x24, x25, x26, x27, x28, x29, x30, x31, x32, x33, x34, x35, x36, x37, x38, x39, x40, x41, x42, x43, x44, x45, x46, x47, x48, x49, x50, x51, .int 0, x53, x54, x55, x56, x57, x58, x59, x60, x61, x62, x63, x64, x65, x66, x67, x68, x69, x70, x71, x72, x73, x74, x75, x76, x77, x78, x79, x80, x81, x82, x83, x84, x85, x86, x87, x88]))] (fun (r : Int32) (_ : Unit) => r = 0) (fun (_ : Unit) => [(b0, .inr (12, [x0, x1, x2, x3, x4, x5, x6, x7, x8, x9, x10, x11, x12, x13, x14, x15, x16, x17, x18, x19, x20, x21, x22, x23, x24, x25, x26, x27, x28, x29, x30, x31, x32, x33, x34, x35, x36, x37, x38, x39, x40, x41, x42, x43, x44, x45, x46, x47, x48, x49, x50, x51, .int 0, x53, x54, x55, x56, x57, x58, x59, x60, x61, x62, x63, x64, x65, x66, x67, x68, x69, x70, x71, x72, x73, x74, x75, x76, x77, x78, x79, x80, x81, x82, x83, x84, x85, x86, x87, x88]))]) := by
  refine XMi.start (by decide) (Nat.le_of_ble_eq_true rfl) ?_
  intro p e s m below meth c args A ls Q hat hQ
  obtain ⟨hx, hb, hr, hml, hown, hg, hlocks, hin, hK, hA, hP, hD, hS, hE, hl⟩ := hat
  have hown : s.vm.findClass RX12 = some m.cls := hown
  have hl : lv_has ls 2 [(0, .ref b0), (1, .int ka)] := hl
  refine lv_iload_n hx hb dX12_isState_0 rfl (lv_at hl 1 rfl) ?_
  refine lv_iconst (v := 0) hx hb dX12_isState_1 (by decide) ?_
  refine lv_aload_n hx hb dX12_isState_2 rfl (lv_at hl 0 rfl) ?_
  refine va_get (D := D) (ci := 12) (v := .int 0) (C := RX12) (T := TX12) (N := 89) hx hb hg i_X12 hown hK hP 0 rfl rfl 52 (by decide) (hg _ m_1465) (fun _ h9 => h9) rfl dX12_isState_3 ?_
  refine lv_iconst (v := 1) hx hb dX12_isState_6 (by decide) ?_
  refine lv_isub hx hb dX12_isState_7 ?_
  refine lv_topi (fun y_1 hy_1 => ?_)
  obtain rfl : y_1 = -1 := hy_1.trans (by decide +kernel)
  refine x_callSi (wr := [(b0, .inr (12, [x0, x1, x2, x3, x4, x5, x6, x7, x8, x9, x10, x11, x12, x13, x14, x15, x16, x17, x18, x19, x20, x21, x22, x23, x24, x25, x26, x27, x28, x29, x30, x31, x32, x33, x34, x35, x36, x37, x38, x39, x40, x41, x42, x43, x44, x45, x46, x47, x48, x49, x50, x51, .int 0, x53, x54, x55, x56, x57, x58, x59, x60, x61, x62, x63, x64, x65, x66, x67, x68, x69, x70, x71, x72, x73, x74, x75, x76, x77, x78, x79, x80, x81, x82, x83, x84, x85, x86, x87, x88]))]) (rest := []) ⟨hx, hb, hml, hown, hg, hl.1⟩ k_X12_436 (m_isIn l D cy ka 0 (-1)) E0_blind hK hP hD hS hA [] [0] ⟨rfl, rfl, by decide, by decide, by decide⟩ (fun _ _ _ => trivial) dX12_isState_8 rfl rfl (Nat.le_of_ble_eq_true rfl) ⟨Nat.le_of_ble_eq_true rfl, Nat.le_of_ble_eq_true rfl⟩ ⟨Nat.le_of_ble_eq_true rfl, Nat.le_of_ble_eq_true rfl⟩ (fun r2 u2 H locs hw2 hP hD hS => ?_)
  have hP : va_P D vwCl [(b0, .inr (12, [x0, x1, x2, x3, x4, x5, x6, x7, x8, x9, x10, x11, x12, x13, x14, x15, x16, x17, x18, x19, x20, x21, x22, x23, x24, x25, x26, x27, x28, x29, x30, x31, x32, x33, x34, x35, x36, x37, x38, x39, x40, x41, x42, x43, x44, x45, x46, x47, x48, x49, x50, x51, .int 0, x53, x54, x55, x56, x57, x58, x59, x60, x61, x62, x63, x64, x65, x66, x67, x68, x69, x70, x71, x72, x73, x74, x75, x76, x77, x78, x79, x80, x81, x82, x83, x84, x85, x86, x87, x88]))] H := hP
  have hD : va_D A [(b0, .inr (12, [x0, x1, x2, x3, x4, x5, x6, x7, x8, x9, x10, x11, x12, x13, x14, x15, x16, x17, x18, x19, x20, x21, x22, x23, x24, x25, x26, x27, x28, x29, x30, x31, x32, x33, x34, x35, x36, x37, x38, x39, x40, x41, x42, x43, x44, x45, x46, x47, x48, x49, x50, x51, .int 0, x53, x54, x55, x56, x57, x58, x59, x60, x61, x62, x63, x64, x65, x66, x67, x68, x69, x70, x71, x72, x73, x74, x75, x76, x77, x78, x79, x80, x81, x82, x83, x84, x85, x86, x87, x88]))] := hD
  refine W.widen (k := 0) (n := 0) (Nat.le_of_ble_eq_true rfl) (Nat.le_of_ble_eq_true rfl) ?_
  have hw2 : (r2 = 1 ∧ (0 : Int32).toInt ≤ ka.toInt ∧ ka.toInt ≤ (-1 : Int32).toInt) ∨ (r2 = 0 ∧ ¬ ((0 : Int32).toInt ≤ ka.toInt ∧ ka.toInt ≤ (-1 : Int32).toInt)) := hw2
  have z0 : (0 : Int32).toInt = 0 := by decide
  have zm1 : (-1 : Int32).toInt = -1 := by decide
  obtain rfl : r2 = 0 := hw2.elim (fun h => absurd h.2 (by omega)) (fun h => h.1)
  exact x_zret hQ hx hb hr hlocks hK hP hD hS rfl dX12_isState_11 () (rfl) [0] (by decide) rfl (Nat.le_of_ble_eq_true rfl) (Nat.le_of_ble_eq_true rfl)
theorem dX12_isCry_0 : decode cX12_isCry 0 = .ok (.iload_n 0, 1) := by decide +kernel
theorem dX12_isCry_1 : decode cX12_isCry 1 = .ok (.ifCond .eq 8, 3) := by decide +kernel
theorem dX12_isCry_9 : decode cX12_isCry 9 = .ok (.iconst 1, 1) := by decide +kernel
theorem dX12_isCry_10 : decode cX12_isCry 10 = .ok (.goto 4, 3) := by decide +kernel
theorem dX12_isCry_14 : decode cX12_isCry 14 = .ok (.ireturn, 1) := by decide +kernel
theorem dX12_isCry_4 : decode cX12_isCry 4 = .ok (.iload_n 0, 1) := by decide +kernel
theorem dX12_isCry_5 : decode cX12_isCry 5 = .ok (.iconst 1, 1) := by decide +kernel
theorem dX12_isCry_6 : decode cX12_isCry 6 = .ok (.if_icmp .ne 7, 3) := by decide +kernel
theorem dX12_isCry_13 : decode cX12_isCry 13 = .ok (.iconst 0, 1) := by decide +kernel
set_option maxHeartbeats 400000 in
set_option maxRecDepth 100000 in
theorem m_isCry (l : Launch) (D : va_G) (cy : Nat → ClassId) (cry : Int32)  : XMi l D (tyL cy) E0 yX12_isCry cX12_isCry 1 (some .boolean) (rmk 0 0 0) [.int cry] [] (fun (r : Int32) (_ : Unit) => r = 0 ∨ cry = 0 ∨ cry = 1) (fun (_ : Unit) => []) := by
  refine XMi.start (by decide) (Nat.le_of_ble_eq_true rfl) ?_
  intro p e s m below meth c args A ls Q hat hQ
  obtain ⟨hx, hb, hr, hml, hown, hg, hlocks, hin, hK, hA, hP, hD, hS, hE, hl⟩ := hat
  have hown : s.vm.findClass RX12 = some m.cls := hown
  have hl : lv_has ls 1 [(0, .int cry)] := hl
  refine lv_iload_n hx hb dX12_isCry_0 rfl (lv_at hl 0 rfl) ?_
  refine lv_if_eq (tgt := 9) hx hb dX12_isCry_1 (by decide) (fun c_1 => ?_) (fun c_1 => ?_)
  · refine lv_iconst (v := 1) hx hb dX12_isCry_9 (by decide) ?_
    refine lv_goto (tgt := 14) hx hb dX12_isCry_10 (by decide) ?_
    exact x_zret hQ hx hb hr hlocks hK hP hD hS rfl dX12_isCry_14 () ((by first | exact Or.inr (Or.inl c_1) | exact Or.inr (Or.inr c_6))) [] (by decide) rfl (Nat.le_of_ble_eq_true rfl) (Nat.le_of_ble_eq_true rfl)
  · refine lv_iload_n hx hb dX12_isCry_4 rfl (lv_at hl 0 rfl) ?_
    refine lv_iconst (v := 1) hx hb dX12_isCry_5 (by decide) ?_
    refine lv_icmp_ne (tgt := 13) hx hb dX12_isCry_6 (by decide) (fun c_6 => ?_) (fun c_6 => ?_)
    · refine lv_iconst (v := 0) hx hb dX12_isCry_13 (by decide) ?_
      exact x_zret hQ hx hb hr hlocks hK hP hD hS rfl dX12_isCry_14 () (Or.inl rfl) [] (by decide) rfl (Nat.le_of_ble_eq_true rfl) (Nat.le_of_ble_eq_true rfl)
    · refine lv_iconst (v := 1) hx hb dX12_isCry_9 (by decide) ?_
      refine lv_goto (tgt := 14) hx hb dX12_isCry_10 (by decide) ?_
      exact x_zret hQ hx hb hr hlocks hK hP hD hS rfl dX12_isCry_14 () ((by first | exact Or.inr (Or.inl c_1) | exact Or.inr (Or.inr c_6))) [] (by decide) rfl (Nat.le_of_ble_eq_true rfl) (Nat.le_of_ble_eq_true rfl)
theorem dX12_isBox_0 : decode cX12_isBox 0 = .ok (.iload_n 0, 1) := by decide +kernel
theorem dX12_isBox_1 : decode cX12_isBox 1 = .ok (.ifCond .lt 12, 3) := by decide +kernel
theorem dX12_isBox_13 : decode cX12_isBox 13 = .ok (.iconst 0, 1) := by decide +kernel
theorem dX12_isBox_14 : decode cX12_isBox 14 = .ok (.ireturn, 1) := by decide +kernel
theorem dX12_isBox_4 : decode cX12_isBox 4 = .ok (.iload_n 0, 1) := by decide +kernel
theorem dX12_isBox_5 : decode cX12_isBox 5 = .ok (.iconst 3, 1) := by decide +kernel
theorem dX12_isBox_6 : decode cX12_isBox 6 = .ok (.if_icmp .ge 7, 3) := by decide +kernel
theorem dX12_isBox_9 : decode cX12_isBox 9 = .ok (.iconst 1, 1) := by decide +kernel
theorem dX12_isBox_10 : decode cX12_isBox 10 = .ok (.goto 4, 3) := by decide +kernel
set_option maxHeartbeats 400000 in
set_option maxRecDepth 100000 in
theorem m_isBox (l : Launch) (D : va_G) (cy : Nat → ClassId) (bx : Int32)  : XMi l D (tyL cy) E0 yX12_isBox cX12_isBox 1 (some .boolean) (rmk 0 0 0) [.int bx] [] (fun (r : Int32) (_ : Unit) => (r = 0 ∧ ¬ (0 ≤ bx.toInt ∧ bx.toInt < 3)) ∨ (r = 1 ∧ (bx = 0 ∨ bx = 1 ∨ bx = 2))) (fun (_ : Unit) => []) := by
  refine XMi.start (by decide) (Nat.le_of_ble_eq_true rfl) ?_
  intro p e s m below meth c args A ls Q hat hQ
  obtain ⟨hx, hb, hr, hml, hown, hg, hlocks, hin, hK, hA, hP, hD, hS, hE, hl⟩ := hat
  have hown : s.vm.findClass RX12 = some m.cls := hown
  have hl : lv_has ls 1 [(0, .int bx)] := hl
  refine lv_iload_n hx hb dX12_isBox_0 rfl (lv_at hl 0 rfl) ?_
  refine lv_if_lt (tgt := 13) hx hb dX12_isBox_1 (by decide) (fun c_1 => ?_) (fun c_1 => ?_)
  · refine lv_iconst (v := 0) hx hb dX12_isBox_13 (by decide) ?_
    have qc_1 : (bx : Int32).toInt < (0 : Int32).toInt := (fa_lt _ _).mp c_1
    have z0 : (0 : Int32).toInt = 0 := by decide
    have z3 : (3 : Int32).toInt = 3 := by decide
    exact x_zret hQ hx hb hr hlocks hK hP hD hS rfl dX12_isBox_14 () (Or.inl ⟨rfl, by omega⟩) [] (by decide) rfl (Nat.le_of_ble_eq_true rfl) (Nat.le_of_ble_eq_true rfl)
  · refine lv_iload_n hx hb dX12_isBox_4 rfl (lv_at hl 0 rfl) ?_
    refine lv_iconst (v := 3) hx hb dX12_isBox_5 (by decide) ?_
    refine lv_icmp_ge (tgt := 13) hx hb dX12_isBox_6 (by decide) (fun c_6 => ?_) (fun c_6 => ?_)
    · refine lv_iconst (v := 0) hx hb dX12_isBox_13 (by decide) ?_
      have qc_1 : ¬ (bx : Int32).toInt < (0 : Int32).toInt := fun h => c_1 ((fa_lt _ _).mpr h)
      have qc_6 : (3 : Int32).toInt ≤ (bx : Int32).toInt := (fa_le _ _).mp c_6
      have z0 : (0 : Int32).toInt = 0 := by decide
      have z3 : (3 : Int32).toInt = 3 := by decide
      exact x_zret hQ hx hb hr hlocks hK hP hD hS rfl dX12_isBox_14 () (Or.inl ⟨rfl, by omega⟩) [] (by decide) rfl (Nat.le_of_ble_eq_true rfl) (Nat.le_of_ble_eq_true rfl)
    · refine lv_iconst (v := 1) hx hb dX12_isBox_9 (by decide) ?_
      refine lv_goto (tgt := 14) hx hb dX12_isBox_10 (by decide) ?_
      exact x_zret hQ hx hb hr hlocks hK hP hD hS rfl dX12_isBox_14 () (Or.inr ⟨rfl, box_in c_1 c_6⟩) [] (by decide) rfl (Nat.le_of_ble_eq_true rfl) (Nat.le_of_ble_eq_true rfl)
theorem dX12_cliff_0 : decode cX12_cliff 0 = .ok (.aload_n 0, 1) := by decide +kernel
theorem dX12_cliff_1 : decode cX12_cliff 1 = .ok (.iload_n 1, 1) := by decide +kernel
theorem dX12_cliff_2 : decode cX12_cliff 2 = .ok (.invokevirtual 503, 3) := by decide +kernel
theorem m_1870 : (Cond.methodLink RX12 503 yX12_isCliff) ∈ gT := gm 1870 (by decide +kernel) (by decide +kernel)
theorem m_1872 : (Cond.instanceMethod yX12_isCliff) ∈ gT := gm 1872 (by decide +kernel) (by decide +kernel)
theorem m_96 : (Cond.selects RX12 yX12_isCliff yX12_isCliff) ∈ gT := gm 96 (by decide +kernel) (by decide +kernel)
theorem m_1873 : (Cond.code yX12_isCliff cX12_isCliff 2 (some .boolean)) ∈ gT := gm 1873 (by decide +kernel) (by decide +kernel)
theorem k_X12_503 : xV RX12 RX12 503 yX12_isCliff cX12_isCliff 2 (some .boolean) 1 := ⟨⟨m_1870, m_1872, m_96, m_146, m_1873⟩, rfl, by decide, by decide, by decide +kernel⟩
theorem dX12_cliff_5 : decode cX12_cliff 5 = .ok (.ifCond .ne 7, 3) := by decide +kernel
theorem dX12_cliff_8 : decode cX12_cliff 8 = .ok (.iconst (-1), 1) := by decide +kernel
theorem dX12_cliff_9 : decode cX12_cliff 9 = .ok (.goto 34, 3) := by decide +kernel
theorem dX12_cliff_43 : decode cX12_cliff 43 = .ok (.ireturn, 1) := by decide +kernel
set_option maxHeartbeats 400000 in
set_option maxRecDepth 100000 in
theorem m_cliff (l : Launch) (D : va_G) (cy : Nat → ClassId) (b0 : Nat) (x0 : Value) (x1 : Value) (x2 : Value) (x3 : Value) (x4 : Value) (x5 : Value) (x6 : Value) (x7 : Value) (x8 : Value) (x9 : Value) (x10 : Value) (x11 : Value) (x12 : Value) (x13 : Value) (x14 : Value) (x15 : Value) (x16 : Value) (x17 : Value) (x18 : Value) (x19 : Value) (x20 : Value) (x21 : Value) (x22 : Value) (x23 : Value) (x24 : Value) (x25 : Value) (x26 : Value) (x27 : Value) (x28 : Value) (x29 : Value) (x30 : Value) (x31 : Value) (x32 : Value) (x33 : Value) (x34 : Value) (x35 : Value) (x36 : Value) (x37 : Value) (x38 : Value) (x39 : Value) (x40 : Value) (x41 : Value) (x42 : Value) (x43 : Value) (x44 : Value) (x45 : Value) (x46 : Value) (x47 : Value) (x48 : Value) (x53 : Value) (x54 : Value) (x55 : Value) (x56 : Value) (x57 : Value) (x58 : Value) (x59 : Value) (x60 : Value) (x61 : Value) (x62 : Value) (x63 : Value) (x64 : Value) (x65 : Value) (x66 : Value) (x67 : Value) (x68 : Value) (x69 : Value) (x70 : Value) (x71 : Value) (x72 : Value) (x73 : Value) (x74 : Value) (x75 : Value) (x76 : Value) (x77 : Value) (x78 : Value) (x79 : Value) (x80 : Value) (x81 : Value) (x82 : Value) (x83 : Value) (x84 : Value) (x85 : Value) (x86 : Value) (x87 : Value) (x88 : Value) (ka : Int32) (kb : Int32)  : XMi l D (tyL cy) E0 yX12_cliff cX12_cliff 3 (some .int) (rmk 3 0 0) [.ref b0, .int ka, .int kb] [(b0, .inr (12, [x0, x1, x2, x3, x4, x5, x6, x7, x8, x9, x10, x11, x12, x13, x14, x15, x16, x17, x18, x19, x20, x21, x22, x23, x24, x25, x26, x27, x28, x29, x30, x31, x32, x33, x34, x35, x36, x37, x38, x39, x40, x41, x42, x43, x44, x45, x46, x47, x48, .int 0, .int 0, .int 0, .int 0, x53, x54, x55, x56, x57, x58, x59, x60, x61, x62, x63, x64, x65, x66, x67, x68, x69, x70, x71, x72, x73, x74, x75, x76, x77, x78, x79, x80, x81, x82, x83, x84, x85, x86, x87, x88]))] (fun (r : Int32) (_ : Unit) => r = -1) (fun (_ : Unit) => []) := by
  refine XMi.start (by decide) (Nat.le_of_ble_eq_true rfl) ?_
  intro p e s m below meth c args A ls Q hat hQ
  obtain ⟨hx, hb, hr, hml, hown, hg, hlocks, hin, hK, hA, hP, hD, hS, hE, hl⟩ := hat
  have hown : s.vm.findClass RX12 = some m.cls := hown
  have hl : lv_has ls 3 [(0, .ref b0), (1, .int ka), (2, .int kb)] := hl
  refine lv_aload_n hx hb dX12_cliff_0 rfl (lv_at hl 0 rfl) ?_
  refine lv_iload_n hx hb dX12_cliff_1 rfl (lv_at hl 1 rfl) ?_
  refine x_callVi (q := (RX12, TX12, 89)) (ci := 12) (q0 := 0) (wr := []) (rest := []) ⟨hx, hb, hml, hown, hg, hl.1⟩ k_X12_503 (m_isCliff l D cy b0 x0 x1 x2 x3 x4 x5 x6 x7 x8 x9 x10 x11 x12 x13 x14 x15 x16 x17 x18 x19 x20 x21 x22 x23 x24 x25 x26 x27 x28 x29 x30 x31 x32 x33 x34 x35 x36 x37 x38 x39 x40 x41 x42 x43 x44 x45 x46 x47 x48 ((.int 0)) ((.int 0)) ((.int 0)) x53 x54 x55 x56 x57 x58 x59 x60 x61 x62 x63 x64 x65 x66 x67 x68 x69 x70 x71 x72 x73 x74 x75 x76 x77 x78 x79 x80 x81 x82 x83 x84 x85 x86 x87 x88 ka) E0_blind hK hP hD hS hA [0] [] ⟨rfl, rfl, by decide, by decide, by decide⟩ rfl rfl (fun _ _ _ => trivial) dX12_cliff_2 rfl rfl (Nat.le_of_ble_eq_true rfl) ⟨Nat.le_of_ble_eq_true rfl, Nat.le_of_ble_eq_true rfl⟩ ⟨Nat.le_of_ble_eq_true rfl, Nat.le_of_ble_eq_true rfl⟩ (fun r1 u1 H locs hw1 hP hD hS => ?_)
  have hP : va_P D vwCl [(b0, .inr (12, [x0, x1, x2, x3, x4, x5, x6, x7, x8, x9, x10, x11, x12, x13, x14, x15, x16, x17, x18, x19, x20, x21, x22, x23, x24, x25, x26, x27, x28, x29, x30, x31, x32, x33, x34, x35, x36, x37, x38, x39, x40, x41, x42, x43, x44, x45, x46, x47, x48, .int 0, .int 0, .int 0, .int 0, x53, x54, x55, x56, x57, x58, x59, x60, x61, x62, x63, x64, x65, x66, x67, x68, x69, x70, x71, x72, x73, x74, x75, x76, x77, x78, x79, x80, x81, x82, x83, x84, x85, x86, x87, x88]))] H := hP
  have hD : va_D A [(b0, .inr (12, [x0, x1, x2, x3, x4, x5, x6, x7, x8, x9, x10, x11, x12, x13, x14, x15, x16, x17, x18, x19, x20, x21, x22, x23, x24, x25, x26, x27, x28, x29, x30, x31, x32, x33, x34, x35, x36, x37, x38, x39, x40, x41, x42, x43, x44, x45, x46, x47, x48, .int 0, .int 0, .int 0, .int 0, x53, x54, x55, x56, x57, x58, x59, x60, x61, x62, x63, x64, x65, x66, x67, x68, x69, x70, x71, x72, x73, x74, x75, x76, x77, x78, x79, x80, x81, x82, x83, x84, x85, x86, x87, x88]))] := hD
  refine W.widen (k := 0) (n := 0) (Nat.le_of_ble_eq_true rfl) (Nat.le_of_ble_eq_true rfl) ?_
  have hw1 : r1 = 0 := hw1
  subst hw1
  refine lv_if_ne (tgt := 12) hx hb dX12_cliff_5 (by decide) (fun h => absurd (by decide) h) (fun _ => ?_)
  refine lv_iconst (v := -1) hx hb dX12_cliff_8 (by decide) ?_
  refine lv_goto (tgt := 43) hx hb dX12_cliff_9 (by decide) ?_
  exact x_iret hQ hx hb hr hlocks hK hP hD hS dX12_cliff_43 () (rfl) [] (by decide) rfl (Nat.le_of_ble_eq_true rfl) (Nat.le_of_ble_eq_true rfl)
theorem dX12_man_0 : decode cX12_man 0 = .ok (.aload_n 0, 1) := by decide +kernel
theorem dX12_man_1 : decode cX12_man 1 = .ok (.iload_n 1, 1) := by decide +kernel
theorem dX12_man_2 : decode cX12_man 2 = .ok (.invokevirtual 506, 3) := by decide +kernel
theorem m_1881 : (Cond.methodLink RX12 506 yX12_isMan) ∈ gT := gm 1881 (by decide +kernel) (by decide +kernel)
theorem m_1883 : (Cond.instanceMethod yX12_isMan) ∈ gT := gm 1883 (by decide +kernel) (by decide +kernel)
theorem m_97 : (Cond.selects RX12 yX12_isMan yX12_isMan) ∈ gT := gm 97 (by decide +kernel) (by decide +kernel)
theorem m_1884 : (Cond.code yX12_isMan cX12_isMan 2 (some .boolean)) ∈ gT := gm 1884 (by decide +kernel) (by decide +kernel)
theorem k_X12_506 : xV RX12 RX12 506 yX12_isMan cX12_isMan 2 (some .boolean) 1 := ⟨⟨m_1881, m_1883, m_97, m_146, m_1884⟩, rfl, by decide, by decide, by decide +kernel⟩
theorem dX12_man_5 : decode cX12_man 5 = .ok (.ifCond .ne 5, 3) := by decide +kernel
theorem dX12_man_8 : decode cX12_man 8 = .ok (.iconst (-1), 1) := by decide +kernel
theorem dX12_man_9 : decode cX12_man 9 = .ok (.ireturn, 1) := by decide +kernel
set_option maxHeartbeats 400000 in
set_option maxRecDepth 100000 in
theorem m_man (l : Launch) (D : va_G) (cy : Nat → ClassId) (b0 : Nat) (x0 : Value) (x1 : Value) (x2 : Value) (x3 : Value) (x4 : Value) (x5 : Value) (x6 : Value) (x7 : Value) (x8 : Value) (x9 : Value) (x10 : Value) (x11 : Value) (x12 : Value) (x13 : Value) (x14 : Value) (x15 : Value) (x16 : Value) (x17 : Value) (x18 : Value) (x19 : Value) (x20 : Value) (x21 : Value) (x22 : Value) (x23 : Value) (x24 : Value) (x25 : Value) (x26 : Value) (x27 : Value) (x28 : Value) (x29 : Value) (x30 : Value) (x31 : Value) (x32 : Value) (x33 : Value) (x34 : Value) (x35 : Value) (x36 : Value) (x37 : Value) (x38 : Value) (x39 : Value) (x40 : Value) (x41 : Value) (x42 : Value) (x43 : Value) (x44 : Value) (x45 : Value) (x46 : Value) (x47 : Value) (x48 : Value) (x53 : Value) (x54 : Value) (x55 : Value) (x56 : Value) (x57 : Value) (x58 : Value) (x59 : Value) (x60 : Value) (x61 : Value) (x62 : Value) (x63 : Value) (x64 : Value) (x65 : Value) (x66 : Value) (x67 : Value) (x68 : Value) (x69 : Value) (x70 : Value) (x71 : Value) (x72 : Value) (x73 : Value) (x74 : Value) (x75 : Value) (x76 : Value) (x77 : Value) (x78 : Value) (x79 : Value) (x80 : Value) (x81 : Value) (x82 : Value) (x83 : Value) (x84 : Value) (x85 : Value) (x86 : Value) (x87 : Value) (x88 : Value) (ka : Int32) (kb : Int32)  : XMi l D (tyL cy) E0 yX12_man cX12_man 3 (some .int) (rmk 3 0 0) [.ref b0, .int ka, .int kb] [(b0, .inr (12, [x0, x1, x2, x3, x4, x5, x6, x7, x8, x9, x10, x11, x12, x13, x14, x15, x16, x17, x18, x19, x20, x21, x22, x23, x24, x25, x26, x27, x28, x29, x30, x31, x32, x33, x34, x35, x36, x37, x38, x39, x40, x41, x42, x43, x44, x45, x46, x47, x48, .int 0, .int 0, .int 0, .int 0, x53, x54, x55, x56, x57, x58, x59, x60, x61, x62, x63, x64, x65, x66, x67, x68, x69, x70, x71, x72, x73, x74, x75, x76, x77, x78, x79, x80, x81, x82, x83, x84, x85, x86, x87, x88]))] (fun (r : Int32) (_ : Unit) => r = -1) (fun (_ : Unit) => []) := by
  refine XMi.start (by decide) (Nat.le_of_ble_eq_true rfl) ?_
  intro p e s m below meth c args A ls Q hat hQ
  obtain ⟨hx, hb, hr, hml, hown, hg, hlocks, hin, hK, hA, hP, hD, hS, hE, hl⟩ := hat
  have hown : s.vm.findClass RX12 = some m.cls := hown
  have hl : lv_has ls 3 [(0, .ref b0), (1, .int ka), (2, .int kb)] := hl
  refine lv_aload_n hx hb dX12_man_0 rfl (lv_at hl 0 rfl) ?_
  refine lv_iload_n hx hb dX12_man_1 rfl (lv_at hl 1 rfl) ?_
  refine x_callVi (q := (RX12, TX12, 89)) (ci := 12) (q0 := 0) (wr := []) (rest := []) ⟨hx, hb, hml, hown, hg, hl.1⟩ k_X12_506 (m_isMan l D cy b0 x0 x1 x2 x3 x4 x5 x6 x7 x8 x9 x10 x11 x12 x13 x14 x15 x16 x17 x18 x19 x20 x21 x22 x23 x24 x25 x26 x27 x28 x29 x30 x31 x32 x33 x34 x35 x36 x37 x38 x39 x40 x41 x42 x43 x44 x45 x46 x47 x48 ((.int 0)) ((.int 0)) ((.int 0)) x53 x54 x55 x56 x57 x58 x59 x60 x61 x62 x63 x64 x65 x66 x67 x68 x69 x70 x71 x72 x73 x74 x75 x76 x77 x78 x79 x80 x81 x82 x83 x84 x85 x86 x87 x88 ka) E0_blind hK hP hD hS hA [0] [] ⟨rfl, rfl, by decide, by decide, by decide⟩ rfl rfl (fun _ _ _ => trivial) dX12_man_2 rfl rfl (Nat.le_of_ble_eq_true rfl) ⟨Nat.le_of_ble_eq_true rfl, Nat.le_of_ble_eq_true rfl⟩ ⟨Nat.le_of_ble_eq_true rfl, Nat.le_of_ble_eq_true rfl⟩ (fun r1 u1 H locs hw1 hP hD hS => ?_)
  have hP : va_P D vwCl [(b0, .inr (12, [x0, x1, x2, x3, x4, x5, x6, x7, x8, x9, x10, x11, x12, x13, x14, x15, x16, x17, x18, x19, x20, x21, x22, x23, x24, x25, x26, x27, x28, x29, x30, x31, x32, x33, x34, x35, x36, x37, x38, x39, x40, x41, x42, x43, x44, x45, x46, x47, x48, .int 0, .int 0, .int 0, .int 0, x53, x54, x55, x56, x57, x58, x59, x60, x61, x62, x63, x64, x65, x66, x67, x68, x69, x70, x71, x72, x73, x74, x75, x76, x77, x78, x79, x80, x81, x82, x83, x84, x85, x86, x87, x88]))] H := hP
  have hD : va_D A [(b0, .inr (12, [x0, x1, x2, x3, x4, x5, x6, x7, x8, x9, x10, x11, x12, x13, x14, x15, x16, x17, x18, x19, x20, x21, x22, x23, x24, x25, x26, x27, x28, x29, x30, x31, x32, x33, x34, x35, x36, x37, x38, x39, x40, x41, x42, x43, x44, x45, x46, x47, x48, .int 0, .int 0, .int 0, .int 0, x53, x54, x55, x56, x57, x58, x59, x60, x61, x62, x63, x64, x65, x66, x67, x68, x69, x70, x71, x72, x73, x74, x75, x76, x77, x78, x79, x80, x81, x82, x83, x84, x85, x86, x87, x88]))] := hD
  refine W.widen (k := 0) (n := 0) (Nat.le_of_ble_eq_true rfl) (Nat.le_of_ble_eq_true rfl) ?_
  have hw1 : r1 = 0 := hw1
  subst hw1
  refine lv_if_ne (tgt := 10) hx hb dX12_man_5 (by decide) (fun h => absurd (by decide) h) (fun _ => ?_)
  refine lv_iconst (v := -1) hx hb dX12_man_8 (by decide) ?_
  exact x_iret hQ hx hb hr hlocks hK hP hD hS dX12_man_9 () (rfl) [] (by decide) rfl (Nat.le_of_ble_eq_true rfl) (Nat.le_of_ble_eq_true rfl)
theorem dX12_leads_0 : decode cX12_leads 0 = .ok (.aload_n 0, 1) := by decide +kernel
theorem dX12_leads_1 : decode cX12_leads 1 = .ok (.iload_n 1, 1) := by decide +kernel
theorem dX12_leads_2 : decode cX12_leads 2 = .ok (.invokevirtual 509, 3) := by decide +kernel
theorem m_1889 : (Cond.methodLink RX12 509 yX12_isState) ∈ gT := gm 1889 (by decide +kernel) (by decide +kernel)
theorem m_1891 : (Cond.instanceMethod yX12_isState) ∈ gT := gm 1891 (by decide +kernel) (by decide +kernel)
theorem m_98 : (Cond.selects RX12 yX12_isState yX12_isState) ∈ gT := gm 98 (by decide +kernel) (by decide +kernel)
theorem m_1892 : (Cond.code yX12_isState cX12_isState 2 (some .boolean)) ∈ gT := gm 1892 (by decide +kernel) (by decide +kernel)
theorem k_X12_509 : xV RX12 RX12 509 yX12_isState cX12_isState 2 (some .boolean) 1 := ⟨⟨m_1889, m_1891, m_98, m_146, m_1892⟩, rfl, by decide, by decide, by decide +kernel⟩
theorem dX12_leads_5 : decode cX12_leads 5 = .ok (.ifCond .eq 20, 3) := by decide +kernel
theorem dX12_leads_25 : decode cX12_leads 25 = .ok (.iconst (-1), 1) := by decide +kernel
theorem dX12_leads_26 : decode cX12_leads 26 = .ok (.ireturn, 1) := by decide +kernel
set_option maxHeartbeats 400000 in
set_option maxRecDepth 100000 in
theorem m_leads (l : Launch) (D : va_G) (cy : Nat → ClassId) (b0 : Nat) (x0 : Value) (x1 : Value) (x2 : Value) (x3 : Value) (x4 : Value) (x5 : Value) (x6 : Value) (x7 : Value) (x8 : Value) (x9 : Value) (x10 : Value) (x11 : Value) (x12 : Value) (x13 : Value) (x14 : Value) (x15 : Value) (x16 : Value) (x17 : Value) (x18 : Value) (x19 : Value) (x20 : Value) (x21 : Value) (x22 : Value) (x23 : Value) (x24 : Value) (x25 : Value) (x26 : Value) (x27 : Value) (x28 : Value) (x29 : Value) (x30 : Value) (x31 : Value) (x32 : Value) (x33 : Value) (x34 : Value) (x35 : Value) (x36 : Value) (x37 : Value) (x38 : Value) (x39 : Value) (x40 : Value) (x41 : Value) (x42 : Value) (x43 : Value) (x44 : Value) (x45 : Value) (x46 : Value) (x47 : Value) (x48 : Value) (x53 : Value) (x54 : Value) (x55 : Value) (x56 : Value) (x57 : Value) (x58 : Value) (x59 : Value) (x60 : Value) (x61 : Value) (x62 : Value) (x63 : Value) (x64 : Value) (x65 : Value) (x66 : Value) (x67 : Value) (x68 : Value) (x69 : Value) (x70 : Value) (x71 : Value) (x72 : Value) (x73 : Value) (x74 : Value) (x75 : Value) (x76 : Value) (x77 : Value) (x78 : Value) (x79 : Value) (x80 : Value) (x81 : Value) (x82 : Value) (x83 : Value) (x84 : Value) (x85 : Value) (x86 : Value) (x87 : Value) (x88 : Value) (ka : Int32) (kb : Int32)  : XMi l D (tyL cy) E0 yX12_leads cX12_leads 3 (some .int) (rmk 3 0 0) [.ref b0, .int ka, .int kb] [(b0, .inr (12, [x0, x1, x2, x3, x4, x5, x6, x7, x8, x9, x10, x11, x12, x13, x14, x15, x16, x17, x18, x19, x20, x21, x22, x23, x24, x25, x26, x27, x28, x29, x30, x31, x32, x33, x34, x35, x36, x37, x38, x39, x40, x41, x42, x43, x44, x45, x46, x47, x48, .int 0, .int 0, .int 0, .int 0, x53, x54, x55, x56, x57, x58, x59, x60, x61, x62, x63, x64, x65, x66, x67, x68, x69, x70, x71, x72, x73, x74, x75, x76, x77, x78, x79, x80, x81, x82, x83, x84, x85, x86, x87, x88]))] (fun (r : Int32) (_ : Unit) => r = -1) (fun (_ : Unit) => []) := by
  refine XMi.start (by decide) (Nat.le_of_ble_eq_true rfl) ?_
  intro p e s m below meth c args A ls Q hat hQ
  obtain ⟨hx, hb, hr, hml, hown, hg, hlocks, hin, hK, hA, hP, hD, hS, hE, hl⟩ := hat
  have hown : s.vm.findClass RX12 = some m.cls := hown
  have hl : lv_has ls 3 [(0, .ref b0), (1, .int ka), (2, .int kb)] := hl
  refine lv_aload_n hx hb dX12_leads_0 rfl (lv_at hl 0 rfl) ?_
  refine lv_iload_n hx hb dX12_leads_1 rfl (lv_at hl 1 rfl) ?_
  refine x_callVi (q := (RX12, TX12, 89)) (ci := 12) (q0 := 0) (wr := []) (rest := []) ⟨hx, hb, hml, hown, hg, hl.1⟩ k_X12_509 (m_isState l D cy b0 x0 x1 x2 x3 x4 x5 x6 x7 x8 x9 x10 x11 x12 x13 x14 x15 x16 x17 x18 x19 x20 x21 x22 x23 x24 x25 x26 x27 x28 x29 x30 x31 x32 x33 x34 x35 x36 x37 x38 x39 x40 x41 x42 x43 x44 x45 x46 x47 x48 ((.int 0)) ((.int 0)) ((.int 0)) x53 x54 x55 x56 x57 x58 x59 x60 x61 x62 x63 x64 x65 x66 x67 x68 x69 x70 x71 x72 x73 x74 x75 x76 x77 x78 x79 x80 x81 x82 x83 x84 x85 x86 x87 x88 ka) E0_blind hK hP hD hS hA [0] [] ⟨rfl, rfl, by decide, by decide, by decide⟩ rfl rfl (fun _ _ _ => trivial) dX12_leads_2 rfl rfl (Nat.le_of_ble_eq_true rfl) ⟨Nat.le_of_ble_eq_true rfl, Nat.le_of_ble_eq_true rfl⟩ ⟨Nat.le_of_ble_eq_true rfl, Nat.le_of_ble_eq_true rfl⟩ (fun r1 u1 H locs hw1 hP hD hS => ?_)
  have hP : va_P D vwCl [(b0, .inr (12, [x0, x1, x2, x3, x4, x5, x6, x7, x8, x9, x10, x11, x12, x13, x14, x15, x16, x17, x18, x19, x20, x21, x22, x23, x24, x25, x26, x27, x28, x29, x30, x31, x32, x33, x34, x35, x36, x37, x38, x39, x40, x41, x42, x43, x44, x45, x46, x47, x48, .int 0, .int 0, .int 0, .int 0, x53, x54, x55, x56, x57, x58, x59, x60, x61, x62, x63, x64, x65, x66, x67, x68, x69, x70, x71, x72, x73, x74, x75, x76, x77, x78, x79, x80, x81, x82, x83, x84, x85, x86, x87, x88]))] H := hP
  have hD : va_D A [(b0, .inr (12, [x0, x1, x2, x3, x4, x5, x6, x7, x8, x9, x10, x11, x12, x13, x14, x15, x16, x17, x18, x19, x20, x21, x22, x23, x24, x25, x26, x27, x28, x29, x30, x31, x32, x33, x34, x35, x36, x37, x38, x39, x40, x41, x42, x43, x44, x45, x46, x47, x48, .int 0, .int 0, .int 0, .int 0, x53, x54, x55, x56, x57, x58, x59, x60, x61, x62, x63, x64, x65, x66, x67, x68, x69, x70, x71, x72, x73, x74, x75, x76, x77, x78, x79, x80, x81, x82, x83, x84, x85, x86, x87, x88]))] := hD
  refine W.widen (k := 0) (n := 0) (Nat.le_of_ble_eq_true rfl) (Nat.le_of_ble_eq_true rfl) ?_
  have hw1 : r1 = 0 := hw1
  subst hw1
  refine lv_if_eq (tgt := 25) hx hb dX12_leads_5 (by decide) (fun _ => ?_) (fun h => absurd (by decide) h)
  refine lv_iconst (v := -1) hx hb dX12_leads_25 (by decide) ?_
  exact x_iret hQ hx hb hr hlocks hK hP hD hS dX12_leads_26 () (rfl) [] (by decide) rfl (Nat.le_of_ble_eq_true rfl) (Nat.le_of_ble_eq_true rfl)
theorem dX12_say_0 : decode cX12_say 0 = .ok (.iload_n 1, 1) := by decide +kernel
theorem dX12_say_1 : decode cX12_say 1 = .ok (.invokestatic 515, 3) := by decide +kernel
theorem m_1905 : (Cond.methodLink RX12 515 yX12_isCry) ∈ gT := gm 1905 (by decide +kernel) (by decide +kernel)
theorem m_1906 : (Cond.static yX12_isCry) ∈ gT := gm 1906 (by decide +kernel) (by decide +kernel)
theorem m_1907 : (Cond.code yX12_isCry cX12_isCry 1 (some .boolean)) ∈ gT := gm 1907 (by decide +kernel) (by decide +kernel)
theorem k_X12_515 : xS RX12 515 yX12_isCry cX12_isCry 1 (some .boolean) 1 := ⟨⟨m_1905, m_1906, m_146, m_1907⟩, by decide, by decide, by decide +kernel⟩
theorem dX12_say_4 : decode cX12_say 4 = .ok (.ifCond .eq 25, 3) := by decide +kernel
theorem dX12_say_29 : decode cX12_say 29 = .ok (.iconst (-1), 1) := by decide +kernel
theorem dX12_say_30 : decode cX12_say 30 = .ok (.ireturn, 1) := by decide +kernel
theorem dX12_say_7 : decode cX12_say 7 = .ok (.aload_n 0, 1) := by decide +kernel
theorem dX12_say_8 : decode cX12_say 8 = .ok (.iload_n 2, 1) := by decide +kernel
theorem dX12_say_9 : decode cX12_say 9 = .ok (.invokevirtual 512, 3) := by decide +kernel
theorem m_1893 : (Cond.methodLink RX12 512 yX12_isSaid) ∈ gT := gm 1893 (by decide +kernel) (by decide +kernel)
theorem m_1895 : (Cond.instanceMethod yX12_isSaid) ∈ gT := gm 1895 (by decide +kernel) (by decide +kernel)
theorem m_99 : (Cond.selects RX12 yX12_isSaid yX12_isSaid) ∈ gT := gm 99 (by decide +kernel) (by decide +kernel)
theorem m_1896 : (Cond.code yX12_isSaid cX12_isSaid 2 (some .boolean)) ∈ gT := gm 1896 (by decide +kernel) (by decide +kernel)
theorem k_X12_512 : xV RX12 RX12 512 yX12_isSaid cX12_isSaid 2 (some .boolean) 1 := ⟨⟨m_1893, m_1895, m_99, m_146, m_1896⟩, rfl, by decide, by decide, by decide +kernel⟩
theorem dX12_say_12 : decode cX12_say 12 = .ok (.ifCond .eq 17, 3) := by decide +kernel
set_option maxHeartbeats 400000 in
set_option maxRecDepth 100000 in
theorem m_say (l : Launch) (D : va_G) (cy : Nat → ClassId) (b0 : Nat) (x0 : Value) (x1 : Value) (x2 : Value) (x3 : Value) (x4 : Value) (x5 : Value) (x6 : Value) (x7 : Value) (x8 : Value) (x9 : Value) (x10 : Value) (x11 : Value) (x12 : Value) (x13 : Value) (x14 : Value) (x15 : Value) (x16 : Value) (x17 : Value) (x18 : Value) (x19 : Value) (x20 : Value) (x21 : Value) (x22 : Value) (x23 : Value) (x24 : Value) (x25 : Value) (x26 : Value) (x27 : Value) (x28 : Value) (x29 : Value) (x30 : Value) (x31 : Value) (x32 : Value) (x33 : Value) (x34 : Value) (x35 : Value) (x36 : Value) (x37 : Value) (x38 : Value) (x39 : Value) (x40 : Value) (x41 : Value) (x42 : Value) (x43 : Value) (x44 : Value) (x45 : Value) (x46 : Value) (x47 : Value) (x48 : Value) (x53 : Value) (x54 : Value) (x55 : Value) (x56 : Value) (x57 : Value) (x58 : Value) (x59 : Value) (x60 : Value) (x61 : Value) (x62 : Value) (x63 : Value) (x64 : Value) (x65 : Value) (x66 : Value) (x67 : Value) (x68 : Value) (x69 : Value) (x70 : Value) (x71 : Value) (x72 : Value) (x73 : Value) (x74 : Value) (x75 : Value) (x76 : Value) (x77 : Value) (x78 : Value) (x79 : Value) (x80 : Value) (x81 : Value) (x82 : Value) (x83 : Value) (x84 : Value) (x85 : Value) (x86 : Value) (x87 : Value) (x88 : Value) (ka : Int32) (kb : Int32)  : XMi l D (tyL cy) E0 yX12_say cX12_say 3 (some .int) (rmk 3 0 0) [.ref b0, .int ka, .int kb] [(b0, .inr (12, [x0, x1, x2, x3, x4, x5, x6, x7, x8, x9, x10, x11, x12, x13, x14, x15, x16, x17, x18, x19, x20, x21, x22, x23, x24, x25, x26, x27, x28, x29, x30, x31, x32, x33, x34, x35, x36, x37, x38, x39, x40, x41, x42, x43, x44, x45, x46, x47, x48, .int 0, .int 0, .int 0, .int 0, x53, x54, x55, x56, x57, x58, x59, x60, x61, x62, x63, x64, x65, x66, x67, x68, x69, x70, x71, x72, x73, x74, x75, x76, x77, x78, x79, x80, x81, x82, x83, x84, x85, x86, x87, x88]))] (fun (r : Int32) (_ : Unit) => r = -1) (fun (_ : Unit) => []) := by
  refine XMi.start (by decide) (Nat.le_of_ble_eq_true rfl) ?_
  intro p e s m below meth c args A ls Q hat hQ
  obtain ⟨hx, hb, hr, hml, hown, hg, hlocks, hin, hK, hA, hP, hD, hS, hE, hl⟩ := hat
  have hown : s.vm.findClass RX12 = some m.cls := hown
  have hl : lv_has ls 3 [(0, .ref b0), (1, .int ka), (2, .int kb)] := hl
  refine lv_iload_n hx hb dX12_say_0 rfl (lv_at hl 1 rfl) ?_
  refine x_callSi (wr := [(b0, .inr (12, [x0, x1, x2, x3, x4, x5, x6, x7, x8, x9, x10, x11, x12, x13, x14, x15, x16, x17, x18, x19, x20, x21, x22, x23, x24, x25, x26, x27, x28, x29, x30, x31, x32, x33, x34, x35, x36, x37, x38, x39, x40, x41, x42, x43, x44, x45, x46, x47, x48, .int 0, .int 0, .int 0, .int 0, x53, x54, x55, x56, x57, x58, x59, x60, x61, x62, x63, x64, x65, x66, x67, x68, x69, x70, x71, x72, x73, x74, x75, x76, x77, x78, x79, x80, x81, x82, x83, x84, x85, x86, x87, x88]))]) (rest := []) ⟨hx, hb, hml, hown, hg, hl.1⟩ k_X12_515 (m_isCry l D cy ka) E0_blind hK hP hD hS hA [] [0] ⟨rfl, rfl, by decide, by decide, by decide⟩ (fun _ _ _ => trivial) dX12_say_1 rfl rfl (Nat.le_of_ble_eq_true rfl) ⟨Nat.le_of_ble_eq_true rfl, Nat.le_of_ble_eq_true rfl⟩ ⟨Nat.le_of_ble_eq_true rfl, Nat.le_of_ble_eq_true rfl⟩ (fun r1 u1 H locs hw1 hP hD hS => ?_)
  have hP : va_P D vwCl [(b0, .inr (12, [x0, x1, x2, x3, x4, x5, x6, x7, x8, x9, x10, x11, x12, x13, x14, x15, x16, x17, x18, x19, x20, x21, x22, x23, x24, x25, x26, x27, x28, x29, x30, x31, x32, x33, x34, x35, x36, x37, x38, x39, x40, x41, x42, x43, x44, x45, x46, x47, x48, .int 0, .int 0, .int 0, .int 0, x53, x54, x55, x56, x57, x58, x59, x60, x61, x62, x63, x64, x65, x66, x67, x68, x69, x70, x71, x72, x73, x74, x75, x76, x77, x78, x79, x80, x81, x82, x83, x84, x85, x86, x87, x88]))] H := hP
  have hD : va_D A [(b0, .inr (12, [x0, x1, x2, x3, x4, x5, x6, x7, x8, x9, x10, x11, x12, x13, x14, x15, x16, x17, x18, x19, x20, x21, x22, x23, x24, x25, x26, x27, x28, x29, x30, x31, x32, x33, x34, x35, x36, x37, x38, x39, x40, x41, x42, x43, x44, x45, x46, x47, x48, .int 0, .int 0, .int 0, .int 0, x53, x54, x55, x56, x57, x58, x59, x60, x61, x62, x63, x64, x65, x66, x67, x68, x69, x70, x71, x72, x73, x74, x75, x76, x77, x78, x79, x80, x81, x82, x83, x84, x85, x86, x87, x88]))] := hD
  refine W.widen (k := 0) (n := 0) (Nat.le_of_ble_eq_true rfl) (Nat.le_of_ble_eq_true rfl) ?_
  have hw1 : r1 = 0 ∨ ka = 0 ∨ ka = 1 := hw1
  refine lv_if_eq (tgt := 29) hx hb dX12_say_4 (by decide) (fun c_4 => ?_) (fun c_4 => ?_)
  · refine lv_iconst (v := -1) hx hb dX12_say_29 (by decide) ?_
    exact x_iret hQ hx hb hr hlocks hK hP hD hS dX12_say_30 () (rfl) [] (by decide) rfl (Nat.le_of_ble_eq_true rfl) (Nat.le_of_ble_eq_true rfl)
  · refine lv_aload_n hx hb dX12_say_7 rfl (lv_at hl 0 rfl) ?_
    refine lv_iload_n hx hb dX12_say_8 rfl (lv_at hl 2 rfl) ?_
    refine x_callVi (q := (RX12, TX12, 89)) (ci := 12) (q0 := 0) (wr := []) (rest := []) ⟨hx, hb, hml, hown, hg, hl.1⟩ k_X12_512 (m_isSaid l D cy b0 x0 x1 x2 x3 x4 x5 x6 x7 x8 x9 x10 x11 x12 x13 x14 x15 x16 x17 x18 x19 x20 x21 x22 x23 x24 x25 x26 x27 x28 x29 x30 x31 x32 x33 x34 x35 x36 x37 x38 x39 x40 x41 x42 x43 x44 x45 x46 x47 x48 ((.int 0)) ((.int 0)) ((.int 0)) x53 x54 x55 x56 x57 x58 x59 x60 x61 x62 x63 x64 x65 x66 x67 x68 x69 x70 x71 x72 x73 x74 x75 x76 x77 x78 x79 x80 x81 x82 x83 x84 x85 x86 x87 x88 kb) E0_blind hK hP hD hS hA [0] [] ⟨rfl, rfl, by decide, by decide, by decide⟩ rfl rfl (fun _ _ _ => trivial) dX12_say_9 rfl rfl (Nat.le_of_ble_eq_true rfl) ⟨Nat.le_of_ble_eq_true rfl, Nat.le_of_ble_eq_true rfl⟩ ⟨Nat.le_of_ble_eq_true rfl, Nat.le_of_ble_eq_true rfl⟩ (fun r2 u2 H locs hw2 hP hD hS => ?_)
    have hP : va_P D vwCl [(b0, .inr (12, [x0, x1, x2, x3, x4, x5, x6, x7, x8, x9, x10, x11, x12, x13, x14, x15, x16, x17, x18, x19, x20, x21, x22, x23, x24, x25, x26, x27, x28, x29, x30, x31, x32, x33, x34, x35, x36, x37, x38, x39, x40, x41, x42, x43, x44, x45, x46, x47, x48, .int 0, .int 0, .int 0, .int 0, x53, x54, x55, x56, x57, x58, x59, x60, x61, x62, x63, x64, x65, x66, x67, x68, x69, x70, x71, x72, x73, x74, x75, x76, x77, x78, x79, x80, x81, x82, x83, x84, x85, x86, x87, x88]))] H := hP
    have hD : va_D A [(b0, .inr (12, [x0, x1, x2, x3, x4, x5, x6, x7, x8, x9, x10, x11, x12, x13, x14, x15, x16, x17, x18, x19, x20, x21, x22, x23, x24, x25, x26, x27, x28, x29, x30, x31, x32, x33, x34, x35, x36, x37, x38, x39, x40, x41, x42, x43, x44, x45, x46, x47, x48, .int 0, .int 0, .int 0, .int 0, x53, x54, x55, x56, x57, x58, x59, x60, x61, x62, x63, x64, x65, x66, x67, x68, x69, x70, x71, x72, x73, x74, x75, x76, x77, x78, x79, x80, x81, x82, x83, x84, x85, x86, x87, x88]))] := hD
    refine W.widen (k := 0) (n := 0) (Nat.le_of_ble_eq_true rfl) (Nat.le_of_ble_eq_true rfl) ?_
    have hw2 : r2 = 0 := hw2
    subst hw2
    refine lv_if_eq (tgt := 29) hx hb dX12_say_12 (by decide) (fun _ => ?_) (fun h => absurd (by decide) h)
    refine lv_iconst (v := -1) hx hb dX12_say_29 (by decide) ?_
    exact x_iret hQ hx hb hr hlocks hK hP hD hS dX12_say_30 () (rfl) [] (by decide) rfl (Nat.le_of_ble_eq_true rfl) (Nat.le_of_ble_eq_true rfl)
theorem dX12_call_0 : decode cX12_call 0 = .ok (.aload_n 0, 1) := by decide +kernel
theorem dX12_call_1 : decode cX12_call 1 = .ok (.iload_n 1, 1) := by decide +kernel
theorem dX12_call_2 : decode cX12_call 2 = .ok (.invokevirtual 506, 3) := by decide +kernel
theorem dX12_call_5 : decode cX12_call 5 = .ok (.ifCond .ne 5, 3) := by decide +kernel
theorem dX12_call_8 : decode cX12_call 8 = .ok (.iconst (-1), 1) := by decide +kernel
theorem dX12_call_9 : decode cX12_call 9 = .ok (.ireturn, 1) := by decide +kernel
set_option maxHeartbeats 400000 in
set_option maxRecDepth 100000 in
theorem m_call (l : Launch) (D : va_G) (cy : Nat → ClassId) (b0 : Nat) (x0 : Value) (x1 : Value) (x2 : Value) (x3 : Value) (x4 : Value) (x5 : Value) (x6 : Value) (x7 : Value) (x8 : Value) (x9 : Value) (x10 : Value) (x11 : Value) (x12 : Value) (x13 : Value) (x14 : Value) (x15 : Value) (x16 : Value) (x17 : Value) (x18 : Value) (x19 : Value) (x20 : Value) (x21 : Value) (x22 : Value) (x23 : Value) (x24 : Value) (x25 : Value) (x26 : Value) (x27 : Value) (x28 : Value) (x29 : Value) (x30 : Value) (x31 : Value) (x32 : Value) (x33 : Value) (x34 : Value) (x35 : Value) (x36 : Value) (x37 : Value) (x38 : Value) (x39 : Value) (x40 : Value) (x41 : Value) (x42 : Value) (x43 : Value) (x44 : Value) (x45 : Value) (x46 : Value) (x47 : Value) (x48 : Value) (x53 : Value) (x54 : Value) (x55 : Value) (x56 : Value) (x57 : Value) (x58 : Value) (x59 : Value) (x60 : Value) (x61 : Value) (x62 : Value) (x63 : Value) (x64 : Value) (x65 : Value) (x66 : Value) (x67 : Value) (x68 : Value) (x69 : Value) (x70 : Value) (x71 : Value) (x72 : Value) (x73 : Value) (x74 : Value) (x75 : Value) (x76 : Value) (x77 : Value) (x78 : Value) (x79 : Value) (x80 : Value) (x81 : Value) (x82 : Value) (x83 : Value) (x84 : Value) (x85 : Value) (x86 : Value) (x87 : Value) (x88 : Value) (ka : Int32)  : XMi l D (tyL cy) E0 yX12_call cX12_call 3 (some .int) (rmk 3 0 0) [.ref b0, .int ka] [(b0, .inr (12, [x0, x1, x2, x3, x4, x5, x6, x7, x8, x9, x10, x11, x12, x13, x14, x15, x16, x17, x18, x19, x20, x21, x22, x23, x24, x25, x26, x27, x28, x29, x30, x31, x32, x33, x34, x35, x36, x37, x38, x39, x40, x41, x42, x43, x44, x45, x46, x47, x48, .int 0, .int 0, .int 0, .int 0, x53, x54, x55, x56, x57, x58, x59, x60, x61, x62, x63, x64, x65, x66, x67, x68, x69, x70, x71, x72, x73, x74, x75, x76, x77, x78, x79, x80, x81, x82, x83, x84, x85, x86, x87, x88]))] (fun (r : Int32) (_ : Unit) => r = -1) (fun (_ : Unit) => []) := by
  refine XMi.start (by decide) (Nat.le_of_ble_eq_true rfl) ?_
  intro p e s m below meth c args A ls Q hat hQ
  obtain ⟨hx, hb, hr, hml, hown, hg, hlocks, hin, hK, hA, hP, hD, hS, hE, hl⟩ := hat
  have hown : s.vm.findClass RX12 = some m.cls := hown
  have hl : lv_has ls 3 [(0, .ref b0), (1, .int ka)] := hl
  refine lv_aload_n hx hb dX12_call_0 rfl (lv_at hl 0 rfl) ?_
  refine lv_iload_n hx hb dX12_call_1 rfl (lv_at hl 1 rfl) ?_
  refine x_callVi (q := (RX12, TX12, 89)) (ci := 12) (q0 := 0) (wr := []) (rest := []) ⟨hx, hb, hml, hown, hg, hl.1⟩ k_X12_506 (m_isMan l D cy b0 x0 x1 x2 x3 x4 x5 x6 x7 x8 x9 x10 x11 x12 x13 x14 x15 x16 x17 x18 x19 x20 x21 x22 x23 x24 x25 x26 x27 x28 x29 x30 x31 x32 x33 x34 x35 x36 x37 x38 x39 x40 x41 x42 x43 x44 x45 x46 x47 x48 ((.int 0)) ((.int 0)) ((.int 0)) x53 x54 x55 x56 x57 x58 x59 x60 x61 x62 x63 x64 x65 x66 x67 x68 x69 x70 x71 x72 x73 x74 x75 x76 x77 x78 x79 x80 x81 x82 x83 x84 x85 x86 x87 x88 ka) E0_blind hK hP hD hS hA [0] [] ⟨rfl, rfl, by decide, by decide, by decide⟩ rfl rfl (fun _ _ _ => trivial) dX12_call_2 rfl rfl (Nat.le_of_ble_eq_true rfl) ⟨Nat.le_of_ble_eq_true rfl, Nat.le_of_ble_eq_true rfl⟩ ⟨Nat.le_of_ble_eq_true rfl, Nat.le_of_ble_eq_true rfl⟩ (fun r1 u1 H locs hw1 hP hD hS => ?_)
  have hP : va_P D vwCl [(b0, .inr (12, [x0, x1, x2, x3, x4, x5, x6, x7, x8, x9, x10, x11, x12, x13, x14, x15, x16, x17, x18, x19, x20, x21, x22, x23, x24, x25, x26, x27, x28, x29, x30, x31, x32, x33, x34, x35, x36, x37, x38, x39, x40, x41, x42, x43, x44, x45, x46, x47, x48, .int 0, .int 0, .int 0, .int 0, x53, x54, x55, x56, x57, x58, x59, x60, x61, x62, x63, x64, x65, x66, x67, x68, x69, x70, x71, x72, x73, x74, x75, x76, x77, x78, x79, x80, x81, x82, x83, x84, x85, x86, x87, x88]))] H := hP
  have hD : va_D A [(b0, .inr (12, [x0, x1, x2, x3, x4, x5, x6, x7, x8, x9, x10, x11, x12, x13, x14, x15, x16, x17, x18, x19, x20, x21, x22, x23, x24, x25, x26, x27, x28, x29, x30, x31, x32, x33, x34, x35, x36, x37, x38, x39, x40, x41, x42, x43, x44, x45, x46, x47, x48, .int 0, .int 0, .int 0, .int 0, x53, x54, x55, x56, x57, x58, x59, x60, x61, x62, x63, x64, x65, x66, x67, x68, x69, x70, x71, x72, x73, x74, x75, x76, x77, x78, x79, x80, x81, x82, x83, x84, x85, x86, x87, x88]))] := hD
  refine W.widen (k := 0) (n := 0) (Nat.le_of_ble_eq_true rfl) (Nat.le_of_ble_eq_true rfl) ?_
  have hw1 : r1 = 0 := hw1
  subst hw1
  refine lv_if_ne (tgt := 10) hx hb dX12_call_5 (by decide) (fun h => absurd (by decide) h) (fun _ => ?_)
  refine lv_iconst (v := -1) hx hb dX12_call_8 (by decide) ?_
  exact x_iret hQ hx hb hr hlocks hK hP hD hS dX12_call_9 () (rfl) [] (by decide) rfl (Nat.le_of_ble_eq_true rfl) (Nat.le_of_ble_eq_true rfl)
theorem dX12_sweep_0 : decode cX12_sweep 0 = .ok (.aload_n 0, 1) := by decide +kernel
theorem dX12_sweep_1 : decode cX12_sweep 1 = .ok (.iload_n 1, 1) := by decide +kernel
theorem dX12_sweep_2 : decode cX12_sweep 2 = .ok (.invokevirtual 503, 3) := by decide +kernel
theorem dX12_sweep_5 : decode cX12_sweep 5 = .ok (.ifCond .ne 5, 3) := by decide +kernel
theorem dX12_sweep_8 : decode cX12_sweep 8 = .ok (.iconst (-1), 1) := by decide +kernel
theorem dX12_sweep_9 : decode cX12_sweep 9 = .ok (.ireturn, 1) := by decide +kernel
set_option maxHeartbeats 400000 in
set_option maxRecDepth 100000 in
theorem m_sweep (l : Launch) (D : va_G) (cy : Nat → ClassId) (b0 : Nat) (x0 : Value) (x1 : Value) (x2 : Value) (x3 : Value) (x4 : Value) (x5 : Value) (x6 : Value) (x7 : Value) (x8 : Value) (x9 : Value) (x10 : Value) (x11 : Value) (x12 : Value) (x13 : Value) (x14 : Value) (x15 : Value) (x16 : Value) (x17 : Value) (x18 : Value) (x19 : Value) (x20 : Value) (x21 : Value) (x22 : Value) (x23 : Value) (x24 : Value) (x25 : Value) (x26 : Value) (x27 : Value) (x28 : Value) (x29 : Value) (x30 : Value) (x31 : Value) (x32 : Value) (x33 : Value) (x34 : Value) (x35 : Value) (x36 : Value) (x37 : Value) (x38 : Value) (x39 : Value) (x40 : Value) (x41 : Value) (x42 : Value) (x43 : Value) (x44 : Value) (x45 : Value) (x46 : Value) (x47 : Value) (x48 : Value) (x53 : Value) (x54 : Value) (x55 : Value) (x56 : Value) (x57 : Value) (x58 : Value) (x59 : Value) (x60 : Value) (x61 : Value) (x62 : Value) (x63 : Value) (x64 : Value) (x65 : Value) (x66 : Value) (x67 : Value) (x68 : Value) (x69 : Value) (x70 : Value) (x71 : Value) (x72 : Value) (x73 : Value) (x74 : Value) (x75 : Value) (x76 : Value) (x77 : Value) (x78 : Value) (x79 : Value) (x80 : Value) (x81 : Value) (x82 : Value) (x83 : Value) (x84 : Value) (x85 : Value) (x86 : Value) (x87 : Value) (x88 : Value) (ka : Int32)  : XMi l D (tyL cy) E0 yX12_sweep cX12_sweep 3 (some .int) (rmk 3 0 0) [.ref b0, .int ka] [(b0, .inr (12, [x0, x1, x2, x3, x4, x5, x6, x7, x8, x9, x10, x11, x12, x13, x14, x15, x16, x17, x18, x19, x20, x21, x22, x23, x24, x25, x26, x27, x28, x29, x30, x31, x32, x33, x34, x35, x36, x37, x38, x39, x40, x41, x42, x43, x44, x45, x46, x47, x48, .int 0, .int 0, .int 0, .int 0, x53, x54, x55, x56, x57, x58, x59, x60, x61, x62, x63, x64, x65, x66, x67, x68, x69, x70, x71, x72, x73, x74, x75, x76, x77, x78, x79, x80, x81, x82, x83, x84, x85, x86, x87, x88]))] (fun (r : Int32) (_ : Unit) => r = -1) (fun (_ : Unit) => []) := by
  refine XMi.start (by decide) (Nat.le_of_ble_eq_true rfl) ?_
  intro p e s m below meth c args A ls Q hat hQ
  obtain ⟨hx, hb, hr, hml, hown, hg, hlocks, hin, hK, hA, hP, hD, hS, hE, hl⟩ := hat
  have hown : s.vm.findClass RX12 = some m.cls := hown
  have hl : lv_has ls 3 [(0, .ref b0), (1, .int ka)] := hl
  refine lv_aload_n hx hb dX12_sweep_0 rfl (lv_at hl 0 rfl) ?_
  refine lv_iload_n hx hb dX12_sweep_1 rfl (lv_at hl 1 rfl) ?_
  refine x_callVi (q := (RX12, TX12, 89)) (ci := 12) (q0 := 0) (wr := []) (rest := []) ⟨hx, hb, hml, hown, hg, hl.1⟩ k_X12_503 (m_isCliff l D cy b0 x0 x1 x2 x3 x4 x5 x6 x7 x8 x9 x10 x11 x12 x13 x14 x15 x16 x17 x18 x19 x20 x21 x22 x23 x24 x25 x26 x27 x28 x29 x30 x31 x32 x33 x34 x35 x36 x37 x38 x39 x40 x41 x42 x43 x44 x45 x46 x47 x48 ((.int 0)) ((.int 0)) ((.int 0)) x53 x54 x55 x56 x57 x58 x59 x60 x61 x62 x63 x64 x65 x66 x67 x68 x69 x70 x71 x72 x73 x74 x75 x76 x77 x78 x79 x80 x81 x82 x83 x84 x85 x86 x87 x88 ka) E0_blind hK hP hD hS hA [0] [] ⟨rfl, rfl, by decide, by decide, by decide⟩ rfl rfl (fun _ _ _ => trivial) dX12_sweep_2 rfl rfl (Nat.le_of_ble_eq_true rfl) ⟨Nat.le_of_ble_eq_true rfl, Nat.le_of_ble_eq_true rfl⟩ ⟨Nat.le_of_ble_eq_true rfl, Nat.le_of_ble_eq_true rfl⟩ (fun r1 u1 H locs hw1 hP hD hS => ?_)
  have hP : va_P D vwCl [(b0, .inr (12, [x0, x1, x2, x3, x4, x5, x6, x7, x8, x9, x10, x11, x12, x13, x14, x15, x16, x17, x18, x19, x20, x21, x22, x23, x24, x25, x26, x27, x28, x29, x30, x31, x32, x33, x34, x35, x36, x37, x38, x39, x40, x41, x42, x43, x44, x45, x46, x47, x48, .int 0, .int 0, .int 0, .int 0, x53, x54, x55, x56, x57, x58, x59, x60, x61, x62, x63, x64, x65, x66, x67, x68, x69, x70, x71, x72, x73, x74, x75, x76, x77, x78, x79, x80, x81, x82, x83, x84, x85, x86, x87, x88]))] H := hP
  have hD : va_D A [(b0, .inr (12, [x0, x1, x2, x3, x4, x5, x6, x7, x8, x9, x10, x11, x12, x13, x14, x15, x16, x17, x18, x19, x20, x21, x22, x23, x24, x25, x26, x27, x28, x29, x30, x31, x32, x33, x34, x35, x36, x37, x38, x39, x40, x41, x42, x43, x44, x45, x46, x47, x48, .int 0, .int 0, .int 0, .int 0, x53, x54, x55, x56, x57, x58, x59, x60, x61, x62, x63, x64, x65, x66, x67, x68, x69, x70, x71, x72, x73, x74, x75, x76, x77, x78, x79, x80, x81, x82, x83, x84, x85, x86, x87, x88]))] := hD
  refine W.widen (k := 0) (n := 0) (Nat.le_of_ble_eq_true rfl) (Nat.le_of_ble_eq_true rfl) ?_
  have hw1 : r1 = 0 := hw1
  subst hw1
  refine lv_if_ne (tgt := 10) hx hb dX12_sweep_5 (by decide) (fun h => absurd (by decide) h) (fun _ => ?_)
  refine lv_iconst (v := -1) hx hb dX12_sweep_8 (by decide) ?_
  exact x_iret hQ hx hb hr hlocks hK hP hD hS dX12_sweep_9 () (rfl) [] (by decide) rfl (Nat.le_of_ble_eq_true rfl) (Nat.le_of_ble_eq_true rfl)
theorem dX12_echo_0 : decode cX12_echo 0 = .ok (.aload_n 0, 1) := by decide +kernel
theorem dX12_echo_1 : decode cX12_echo 1 = .ok (.iconst 0, 1) := by decide +kernel
theorem dX12_echo_2 : decode cX12_echo 2 = .ok (.putfield 433, 3) := by decide +kernel
theorem m_1484 : (Cond.fieldLink RX12 433 "CliffJudgesModel" "lain" "I") ∈ gT := gm 1484 (by decide +kernel) (by decide +kernel)
theorem dX12_echo_5 : decode cX12_echo 5 = .ok (.aload_n 0, 1) := by decide +kernel
theorem dX12_echo_6 : decode cX12_echo 6 = .ok (.iload_n 1, 1) := by decide +kernel
theorem dX12_echo_7 : decode cX12_echo 7 = .ok (.invokevirtual 506, 3) := by decide +kernel
theorem dX12_echo_10 : decode cX12_echo 10 = .ok (.ifCond .eq 11, 3) := by decide +kernel
theorem dX12_echo_21 : decode cX12_echo 21 = .ok (.iconst (-1), 1) := by decide +kernel
theorem dX12_echo_22 : decode cX12_echo 22 = .ok (.ireturn, 1) := by decide +kernel
set_option maxHeartbeats 400000 in
set_option maxRecDepth 100000 in
theorem m_echo (l : Launch) (D : va_G) (cy : Nat → ClassId) (b0 : Nat) (x0 : Value) (x1 : Value) (x2 : Value) (x3 : Value) (x4 : Value) (x5 : Value) (x6 : Value) (x7 : Value) (x8 : Value) (x9 : Value) (x10 : Value) (x11 : Value) (x12 : Value) (x13 : Value) (x14 : Value) (x15 : Value) (x16 : Value) (x17 : Value) (x18 : Value) (x19 : Value) (x20 : Value) (x21 : Value) (x22 : Value) (x23 : Value) (x24 : Value) (x25 : Value) (x26 : Value) (x27 : Value) (x28 : Value) (x29 : Value) (x30 : Value) (x31 : Value) (x32 : Value) (x33 : Value) (x34 : Value) (x35 : Value) (x36 : Value) (x37 : Value) (x38 : Value) (x39 : Value) (x40 : Value) (x41 : Value) (x42 : Value) (x43 : Value) (x44 : Value) (x45 : Value) (x46 : Value) (x47 : Value) (x48 : Value) (x53 : Value) (x54 : Value) (x55 : Value) (x56 : Value) (x57 : Value) (x58 : Value) (x59 : Value) (x60 : Value) (x61 : Value) (x62 : Value) (x63 : Value) (x64 : Value) (x65 : Value) (x66 : Value) (x67 : Value) (x68 : Value) (x69 : Value) (x70 : Value) (x71 : Value) (x72 : Value) (x73 : Value) (x74 : Value) (x75 : Value) (x76 : Value) (x77 : Value) (x78 : Value) (x79 : Value) (x80 : Value) (x81 : Value) (x82 : Value) (x83 : Value) (x84 : Value) (x85 : Value) (x86 : Value) (x87 : Value) (x88 : Value) (ka : Int32) (kb : Int32)  : XMi l D (tyL cy) E0 yX12_echo cX12_echo 4 (some .int) (rmk 3 0 0) [.ref b0, .int ka, .int kb] [(b0, .inr (12, [x0, x1, x2, x3, x4, x5, x6, x7, x8, x9, x10, x11, x12, x13, x14, x15, x16, x17, x18, x19, x20, x21, x22, x23, x24, x25, x26, x27, x28, x29, x30, x31, x32, x33, x34, x35, x36, x37, x38, x39, x40, x41, x42, x43, x44, x45, x46, x47, x48, .int 0, .int 0, .int 0, .int 0, x53, x54, x55, x56, x57, x58, x59, x60, x61, x62, x63, x64, x65, x66, x67, x68, x69, x70, x71, x72, x73, x74, x75, x76, x77, x78, x79, x80, x81, x82, x83, x84, x85, x86, x87, x88]))] (fun (r : Int32) (_ : Unit) => r = -1) (fun (_ : Unit) => []) := by
  refine XMi.start (by decide) (Nat.le_of_ble_eq_true rfl) ?_
  intro p e s m below meth c args A ls Q hat hQ
  obtain ⟨hx, hb, hr, hml, hown, hg, hlocks, hin, hK, hA, hP, hD, hS, hE, hl⟩ := hat
  have hown : s.vm.findClass RX12 = some m.cls := hown
  have hl : lv_has ls 4 [(0, .ref b0), (1, .int ka), (2, .int kb)] := hl
  refine lv_aload_n hx hb dX12_echo_0 rfl (lv_at hl 0 rfl) ?_
  refine lv_iconst (v := 0) hx hb dX12_echo_1 (by decide) ?_
  refine va_put (D := D) (ci := 12) (v := .int 0) (ty := .int) (C := RX12) (T := TX12) (N := 89) hx hb hg i_X12 tyX12 tyX12_ok nmX12 hown hK hP hD hS 0 rfl rfl 71 (by decide) (hg _ m_1484) (fun _ h9 => h9) rfl (by decide +kernel) rfl rfl (Nat.le_of_ble_eq_true rfl) dX12_echo_2 (fun H locs hP hD hS => ?_)
  have hP : va_P D vwCl [(b0, .inr (12, [x0, x1, x2, x3, x4, x5, x6, x7, x8, x9, x10, x11, x12, x13, x14, x15, x16, x17, x18, x19, x20, x21, x22, x23, x24, x25, x26, x27, x28, x29, x30, x31, x32, x33, x34, x35, x36, x37, x38, x39, x40, x41, x42, x43, x44, x45, x46, x47, x48, .int 0, .int 0, .int 0, .int 0, x53, x54, x55, x56, x57, x58, x59, x60, x61, x62, x63, x64, x65, x66, x67, x68, x69, x70, .int 0, x72, x73, x74, x75, x76, x77, x78, x79, x80, x81, x82, x83, x84, x85, x86, x87, x88]))] H := hP
  have hD : va_D A [(b0, .inr (12, [x0, x1, x2, x3, x4, x5, x6, x7, x8, x9, x10, x11, x12, x13, x14, x15, x16, x17, x18, x19, x20, x21, x22, x23, x24, x25, x26, x27, x28, x29, x30, x31, x32, x33, x34, x35, x36, x37, x38, x39, x40, x41, x42, x43, x44, x45, x46, x47, x48, .int 0, .int 0, .int 0, .int 0, x53, x54, x55, x56, x57, x58, x59, x60, x61, x62, x63, x64, x65, x66, x67, x68, x69, x70, .int 0, x72, x73, x74, x75, x76, x77, x78, x79, x80, x81, x82, x83, x84, x85, x86, x87, x88]))] := hD
  refine lv_aload_n hx hb dX12_echo_5 rfl (lv_at hl 0 rfl) ?_
  refine lv_iload_n hx hb dX12_echo_6 rfl (lv_at hl 1 rfl) ?_
  refine x_callVi (q := (RX12, TX12, 89)) (ci := 12) (q0 := 0) (wr := []) (rest := []) ⟨hx, hb, hml, hown, hg, hl.1⟩ k_X12_506 (m_isMan l D cy b0 x0 x1 x2 x3 x4 x5 x6 x7 x8 x9 x10 x11 x12 x13 x14 x15 x16 x17 x18 x19 x20 x21 x22 x23 x24 x25 x26 x27 x28 x29 x30 x31 x32 x33 x34 x35 x36 x37 x38 x39 x40 x41 x42 x43 x44 x45 x46 x47 x48 ((.int 0)) ((.int 0)) ((.int 0)) x53 x54 x55 x56 x57 x58 x59 x60 x61 x62 x63 x64 x65 x66 x67 x68 x69 x70 ((.int 0)) x72 x73 x74 x75 x76 x77 x78 x79 x80 x81 x82 x83 x84 x85 x86 x87 x88 ka) E0_blind hK hP hD hS hA [0] [] ⟨rfl, rfl, by decide, by decide, by decide⟩ rfl rfl (fun _ _ _ => trivial) dX12_echo_7 rfl rfl (Nat.le_of_ble_eq_true rfl) ⟨Nat.le_of_ble_eq_true rfl, Nat.le_of_ble_eq_true rfl⟩ ⟨Nat.le_of_ble_eq_true rfl, Nat.le_of_ble_eq_true rfl⟩ (fun r1 u1 H locs hw1 hP hD hS => ?_)
  have hP : va_P D vwCl [(b0, .inr (12, [x0, x1, x2, x3, x4, x5, x6, x7, x8, x9, x10, x11, x12, x13, x14, x15, x16, x17, x18, x19, x20, x21, x22, x23, x24, x25, x26, x27, x28, x29, x30, x31, x32, x33, x34, x35, x36, x37, x38, x39, x40, x41, x42, x43, x44, x45, x46, x47, x48, .int 0, .int 0, .int 0, .int 0, x53, x54, x55, x56, x57, x58, x59, x60, x61, x62, x63, x64, x65, x66, x67, x68, x69, x70, .int 0, x72, x73, x74, x75, x76, x77, x78, x79, x80, x81, x82, x83, x84, x85, x86, x87, x88]))] H := hP
  have hD : va_D A [(b0, .inr (12, [x0, x1, x2, x3, x4, x5, x6, x7, x8, x9, x10, x11, x12, x13, x14, x15, x16, x17, x18, x19, x20, x21, x22, x23, x24, x25, x26, x27, x28, x29, x30, x31, x32, x33, x34, x35, x36, x37, x38, x39, x40, x41, x42, x43, x44, x45, x46, x47, x48, .int 0, .int 0, .int 0, .int 0, x53, x54, x55, x56, x57, x58, x59, x60, x61, x62, x63, x64, x65, x66, x67, x68, x69, x70, .int 0, x72, x73, x74, x75, x76, x77, x78, x79, x80, x81, x82, x83, x84, x85, x86, x87, x88]))] := hD
  refine W.widen (k := 0) (n := 0) (Nat.le_of_ble_eq_true rfl) (Nat.le_of_ble_eq_true rfl) ?_
  have hw1 : r1 = 0 := hw1
  subst hw1
  refine lv_if_eq (tgt := 21) hx hb dX12_echo_10 (by decide) (fun _ => ?_) (fun h => absurd (by decide) h)
  refine lv_iconst (v := -1) hx hb dX12_echo_21 (by decide) ?_
  exact x_iret hQ hx hb hr hlocks hK hP hD hS dX12_echo_22 () (rfl) [] (by decide) rfl (Nat.le_of_ble_eq_true rfl) (Nat.le_of_ble_eq_true rfl)
theorem dX12_answers_0 : decode cX12_answers 0 = .ok (.aload_n 0, 1) := by decide +kernel
theorem dX12_answers_1 : decode cX12_answers 1 = .ok (.iload_n 1, 1) := by decide +kernel
theorem dX12_answers_2 : decode cX12_answers 2 = .ok (.invokevirtual 506, 3) := by decide +kernel
theorem dX12_answers_5 : decode cX12_answers 5 = .ok (.ifCond .eq 12, 3) := by decide +kernel
theorem dX12_answers_17 : decode cX12_answers 17 = .ok (.iconst (-1), 1) := by decide +kernel
theorem dX12_answers_18 : decode cX12_answers 18 = .ok (.ireturn, 1) := by decide +kernel
set_option maxHeartbeats 400000 in
set_option maxRecDepth 100000 in
theorem m_answers (l : Launch) (D : va_G) (cy : Nat → ClassId) (b0 : Nat) (x0 : Value) (x1 : Value) (x2 : Value) (x3 : Value) (x4 : Value) (x5 : Value) (x6 : Value) (x7 : Value) (x8 : Value) (x9 : Value) (x10 : Value) (x11 : Value) (x12 : Value) (x13 : Value) (x14 : Value) (x15 : Value) (x16 : Value) (x17 : Value) (x18 : Value) (x19 : Value) (x20 : Value) (x21 : Value) (x22 : Value) (x23 : Value) (x24 : Value) (x25 : Value) (x26 : Value) (x27 : Value) (x28 : Value) (x29 : Value) (x30 : Value) (x31 : Value) (x32 : Value) (x33 : Value) (x34 : Value) (x35 : Value) (x36 : Value) (x37 : Value) (x38 : Value) (x39 : Value) (x40 : Value) (x41 : Value) (x42 : Value) (x43 : Value) (x44 : Value) (x45 : Value) (x46 : Value) (x47 : Value) (x48 : Value) (x53 : Value) (x54 : Value) (x55 : Value) (x56 : Value) (x57 : Value) (x58 : Value) (x59 : Value) (x60 : Value) (x61 : Value) (x62 : Value) (x63 : Value) (x64 : Value) (x65 : Value) (x66 : Value) (x67 : Value) (x68 : Value) (x69 : Value) (x70 : Value) (x71 : Value) (x72 : Value) (x73 : Value) (x74 : Value) (x75 : Value) (x76 : Value) (x77 : Value) (x78 : Value) (x79 : Value) (x80 : Value) (x81 : Value) (x82 : Value) (x83 : Value) (x84 : Value) (x85 : Value) (x86 : Value) (x87 : Value) (x88 : Value) (ka : Int32) (kb : Int32)  : XMi l D (tyL cy) E0 yX12_answers cX12_answers 5 (some .int) (rmk 3 0 0) [.ref b0, .int ka, .int kb] [(b0, .inr (12, [x0, x1, x2, x3, x4, x5, x6, x7, x8, x9, x10, x11, x12, x13, x14, x15, x16, x17, x18, x19, x20, x21, x22, x23, x24, x25, x26, x27, x28, x29, x30, x31, x32, x33, x34, x35, x36, x37, x38, x39, x40, x41, x42, x43, x44, x45, x46, x47, x48, .int 0, .int 0, .int 0, .int 0, x53, x54, x55, x56, x57, x58, x59, x60, x61, x62, x63, x64, x65, x66, x67, x68, x69, x70, x71, x72, x73, x74, x75, x76, x77, x78, x79, x80, x81, x82, x83, x84, x85, x86, x87, x88]))] (fun (r : Int32) (_ : Unit) => r = -1) (fun (_ : Unit) => []) := by
  refine XMi.start (by decide) (Nat.le_of_ble_eq_true rfl) ?_
  intro p e s m below meth c args A ls Q hat hQ
  obtain ⟨hx, hb, hr, hml, hown, hg, hlocks, hin, hK, hA, hP, hD, hS, hE, hl⟩ := hat
  have hown : s.vm.findClass RX12 = some m.cls := hown
  have hl : lv_has ls 5 [(0, .ref b0), (1, .int ka), (2, .int kb)] := hl
  refine lv_aload_n hx hb dX12_answers_0 rfl (lv_at hl 0 rfl) ?_
  refine lv_iload_n hx hb dX12_answers_1 rfl (lv_at hl 1 rfl) ?_
  refine x_callVi (q := (RX12, TX12, 89)) (ci := 12) (q0 := 0) (wr := []) (rest := []) ⟨hx, hb, hml, hown, hg, hl.1⟩ k_X12_506 (m_isMan l D cy b0 x0 x1 x2 x3 x4 x5 x6 x7 x8 x9 x10 x11 x12 x13 x14 x15 x16 x17 x18 x19 x20 x21 x22 x23 x24 x25 x26 x27 x28 x29 x30 x31 x32 x33 x34 x35 x36 x37 x38 x39 x40 x41 x42 x43 x44 x45 x46 x47 x48 ((.int 0)) ((.int 0)) ((.int 0)) x53 x54 x55 x56 x57 x58 x59 x60 x61 x62 x63 x64 x65 x66 x67 x68 x69 x70 x71 x72 x73 x74 x75 x76 x77 x78 x79 x80 x81 x82 x83 x84 x85 x86 x87 x88 ka) E0_blind hK hP hD hS hA [0] [] ⟨rfl, rfl, by decide, by decide, by decide⟩ rfl rfl (fun _ _ _ => trivial) dX12_answers_2 rfl rfl (Nat.le_of_ble_eq_true rfl) ⟨Nat.le_of_ble_eq_true rfl, Nat.le_of_ble_eq_true rfl⟩ ⟨Nat.le_of_ble_eq_true rfl, Nat.le_of_ble_eq_true rfl⟩ (fun r1 u1 H locs hw1 hP hD hS => ?_)
  have hP : va_P D vwCl [(b0, .inr (12, [x0, x1, x2, x3, x4, x5, x6, x7, x8, x9, x10, x11, x12, x13, x14, x15, x16, x17, x18, x19, x20, x21, x22, x23, x24, x25, x26, x27, x28, x29, x30, x31, x32, x33, x34, x35, x36, x37, x38, x39, x40, x41, x42, x43, x44, x45, x46, x47, x48, .int 0, .int 0, .int 0, .int 0, x53, x54, x55, x56, x57, x58, x59, x60, x61, x62, x63, x64, x65, x66, x67, x68, x69, x70, x71, x72, x73, x74, x75, x76, x77, x78, x79, x80, x81, x82, x83, x84, x85, x86, x87, x88]))] H := hP
  have hD : va_D A [(b0, .inr (12, [x0, x1, x2, x3, x4, x5, x6, x7, x8, x9, x10, x11, x12, x13, x14, x15, x16, x17, x18, x19, x20, x21, x22, x23, x24, x25, x26, x27, x28, x29, x30, x31, x32, x33, x34, x35, x36, x37, x38, x39, x40, x41, x42, x43, x44, x45, x46, x47, x48, .int 0, .int 0, .int 0, .int 0, x53, x54, x55, x56, x57, x58, x59, x60, x61, x62, x63, x64, x65, x66, x67, x68, x69, x70, x71, x72, x73, x74, x75, x76, x77, x78, x79, x80, x81, x82, x83, x84, x85, x86, x87, x88]))] := hD
  refine W.widen (k := 0) (n := 0) (Nat.le_of_ble_eq_true rfl) (Nat.le_of_ble_eq_true rfl) ?_
  have hw1 : r1 = 0 := hw1
  subst hw1
  refine lv_if_eq (tgt := 17) hx hb dX12_answers_5 (by decide) (fun _ => ?_) (fun h => absurd (by decide) h)
  refine lv_iconst (v := -1) hx hb dX12_answers_17 (by decide) ?_
  exact x_iret hQ hx hb hr hlocks hK hP hD hS dX12_answers_18 () (rfl) [] (by decide) rfl (Nat.le_of_ble_eq_true rfl) (Nat.le_of_ble_eq_true rfl)
theorem dX12_binds_0 : decode cX12_binds 0 = .ok (.aload_n 0, 1) := by decide +kernel
theorem dX12_binds_1 : decode cX12_binds 1 = .ok (.iload_n 1, 1) := by decide +kernel
theorem dX12_binds_2 : decode cX12_binds 2 = .ok (.invokevirtual 506, 3) := by decide +kernel
theorem dX12_binds_5 : decode cX12_binds 5 = .ok (.ifCond .ne 5, 3) := by decide +kernel
theorem dX12_binds_8 : decode cX12_binds 8 = .ok (.iconst (-1), 1) := by decide +kernel
theorem dX12_binds_9 : decode cX12_binds 9 = .ok (.ireturn, 1) := by decide +kernel
set_option maxHeartbeats 400000 in
set_option maxRecDepth 100000 in
theorem m_binds (l : Launch) (D : va_G) (cy : Nat → ClassId) (b0 : Nat) (x0 : Value) (x1 : Value) (x2 : Value) (x3 : Value) (x4 : Value) (x5 : Value) (x6 : Value) (x7 : Value) (x8 : Value) (x9 : Value) (x10 : Value) (x11 : Value) (x12 : Value) (x13 : Value) (x14 : Value) (x15 : Value) (x16 : Value) (x17 : Value) (x18 : Value) (x19 : Value) (x20 : Value) (x21 : Value) (x22 : Value) (x23 : Value) (x24 : Value) (x25 : Value) (x26 : Value) (x27 : Value) (x28 : Value) (x29 : Value) (x30 : Value) (x31 : Value) (x32 : Value) (x33 : Value) (x34 : Value) (x35 : Value) (x36 : Value) (x37 : Value) (x38 : Value) (x39 : Value) (x40 : Value) (x41 : Value) (x42 : Value) (x43 : Value) (x44 : Value) (x45 : Value) (x46 : Value) (x47 : Value) (x48 : Value) (x53 : Value) (x54 : Value) (x55 : Value) (x56 : Value) (x57 : Value) (x58 : Value) (x59 : Value) (x60 : Value) (x61 : Value) (x62 : Value) (x63 : Value) (x64 : Value) (x65 : Value) (x66 : Value) (x67 : Value) (x68 : Value) (x69 : Value) (x70 : Value) (x71 : Value) (x72 : Value) (x73 : Value) (x74 : Value) (x75 : Value) (x76 : Value) (x77 : Value) (x78 : Value) (x79 : Value) (x80 : Value) (x81 : Value) (x82 : Value) (x83 : Value) (x84 : Value) (x85 : Value) (x86 : Value) (x87 : Value) (x88 : Value) (ka : Int32)  : XMi l D (tyL cy) E0 yX12_binds cX12_binds 2 (some .int) (rmk 3 0 0) [.ref b0, .int ka] [(b0, .inr (12, [x0, x1, x2, x3, x4, x5, x6, x7, x8, x9, x10, x11, x12, x13, x14, x15, x16, x17, x18, x19, x20, x21, x22, x23, x24, x25, x26, x27, x28, x29, x30, x31, x32, x33, x34, x35, x36, x37, x38, x39, x40, x41, x42, x43, x44, x45, x46, x47, x48, .int 0, .int 0, .int 0, .int 0, x53, x54, x55, x56, x57, x58, x59, x60, x61, x62, x63, x64, x65, x66, x67, x68, x69, x70, x71, x72, x73, x74, x75, x76, x77, x78, x79, x80, x81, x82, x83, x84, x85, x86, x87, x88]))] (fun (r : Int32) (_ : Unit) => r = -1) (fun (_ : Unit) => []) := by
  refine XMi.start (by decide) (Nat.le_of_ble_eq_true rfl) ?_
  intro p e s m below meth c args A ls Q hat hQ
  obtain ⟨hx, hb, hr, hml, hown, hg, hlocks, hin, hK, hA, hP, hD, hS, hE, hl⟩ := hat
  have hown : s.vm.findClass RX12 = some m.cls := hown
  have hl : lv_has ls 2 [(0, .ref b0), (1, .int ka)] := hl
  refine lv_aload_n hx hb dX12_binds_0 rfl (lv_at hl 0 rfl) ?_
  refine lv_iload_n hx hb dX12_binds_1 rfl (lv_at hl 1 rfl) ?_
  refine x_callVi (q := (RX12, TX12, 89)) (ci := 12) (q0 := 0) (wr := []) (rest := []) ⟨hx, hb, hml, hown, hg, hl.1⟩ k_X12_506 (m_isMan l D cy b0 x0 x1 x2 x3 x4 x5 x6 x7 x8 x9 x10 x11 x12 x13 x14 x15 x16 x17 x18 x19 x20 x21 x22 x23 x24 x25 x26 x27 x28 x29 x30 x31 x32 x33 x34 x35 x36 x37 x38 x39 x40 x41 x42 x43 x44 x45 x46 x47 x48 ((.int 0)) ((.int 0)) ((.int 0)) x53 x54 x55 x56 x57 x58 x59 x60 x61 x62 x63 x64 x65 x66 x67 x68 x69 x70 x71 x72 x73 x74 x75 x76 x77 x78 x79 x80 x81 x82 x83 x84 x85 x86 x87 x88 ka) E0_blind hK hP hD hS hA [0] [] ⟨rfl, rfl, by decide, by decide, by decide⟩ rfl rfl (fun _ _ _ => trivial) dX12_binds_2 rfl rfl (Nat.le_of_ble_eq_true rfl) ⟨Nat.le_of_ble_eq_true rfl, Nat.le_of_ble_eq_true rfl⟩ ⟨Nat.le_of_ble_eq_true rfl, Nat.le_of_ble_eq_true rfl⟩ (fun r1 u1 H locs hw1 hP hD hS => ?_)
  have hP : va_P D vwCl [(b0, .inr (12, [x0, x1, x2, x3, x4, x5, x6, x7, x8, x9, x10, x11, x12, x13, x14, x15, x16, x17, x18, x19, x20, x21, x22, x23, x24, x25, x26, x27, x28, x29, x30, x31, x32, x33, x34, x35, x36, x37, x38, x39, x40, x41, x42, x43, x44, x45, x46, x47, x48, .int 0, .int 0, .int 0, .int 0, x53, x54, x55, x56, x57, x58, x59, x60, x61, x62, x63, x64, x65, x66, x67, x68, x69, x70, x71, x72, x73, x74, x75, x76, x77, x78, x79, x80, x81, x82, x83, x84, x85, x86, x87, x88]))] H := hP
  have hD : va_D A [(b0, .inr (12, [x0, x1, x2, x3, x4, x5, x6, x7, x8, x9, x10, x11, x12, x13, x14, x15, x16, x17, x18, x19, x20, x21, x22, x23, x24, x25, x26, x27, x28, x29, x30, x31, x32, x33, x34, x35, x36, x37, x38, x39, x40, x41, x42, x43, x44, x45, x46, x47, x48, .int 0, .int 0, .int 0, .int 0, x53, x54, x55, x56, x57, x58, x59, x60, x61, x62, x63, x64, x65, x66, x67, x68, x69, x70, x71, x72, x73, x74, x75, x76, x77, x78, x79, x80, x81, x82, x83, x84, x85, x86, x87, x88]))] := hD
  refine W.widen (k := 0) (n := 0) (Nat.le_of_ble_eq_true rfl) (Nat.le_of_ble_eq_true rfl) ?_
  have hw1 : r1 = 0 := hw1
  subst hw1
  refine lv_if_ne (tgt := 10) hx hb dX12_binds_5 (by decide) (fun h => absurd (by decide) h) (fun _ => ?_)
  refine lv_iconst (v := -1) hx hb dX12_binds_8 (by decide) ?_
  exact x_iret hQ hx hb hr hlocks hK hP hD hS dX12_binds_9 () (rfl) [] (by decide) rfl (Nat.le_of_ble_eq_true rfl) (Nat.le_of_ble_eq_true rfl)
theorem dX12_pardon_0 : decode cX12_pardon 0 = .ok (.aload_n 0, 1) := by decide +kernel
theorem dX12_pardon_1 : decode cX12_pardon 1 = .ok (.iconst 0, 1) := by decide +kernel
theorem dX12_pardon_2 : decode cX12_pardon 2 = .ok (.putfield 433, 3) := by decide +kernel
theorem dX12_pardon_5 : decode cX12_pardon 5 = .ok (.aload_n 0, 1) := by decide +kernel
theorem dX12_pardon_6 : decode cX12_pardon 6 = .ok (.iload_n 1, 1) := by decide +kernel
theorem dX12_pardon_7 : decode cX12_pardon 7 = .ok (.invokevirtual 506, 3) := by decide +kernel
theorem dX12_pardon_10 : decode cX12_pardon 10 = .ok (.ifCond .eq 10, 3) := by decide +kernel
theorem dX12_pardon_20 : decode cX12_pardon 20 = .ok (.iconst (-1), 1) := by decide +kernel
theorem dX12_pardon_21 : decode cX12_pardon 21 = .ok (.ireturn, 1) := by decide +kernel
set_option maxHeartbeats 400000 in
set_option maxRecDepth 100000 in
theorem m_pardon (l : Launch) (D : va_G) (cy : Nat → ClassId) (b0 : Nat) (x0 : Value) (x1 : Value) (x2 : Value) (x3 : Value) (x4 : Value) (x5 : Value) (x6 : Value) (x7 : Value) (x8 : Value) (x9 : Value) (x10 : Value) (x11 : Value) (x12 : Value) (x13 : Value) (x14 : Value) (x15 : Value) (x16 : Value) (x17 : Value) (x18 : Value) (x19 : Value) (x20 : Value) (x21 : Value) (x22 : Value) (x23 : Value) (x24 : Value) (x25 : Value) (x26 : Value) (x27 : Value) (x28 : Value) (x29 : Value) (x30 : Value) (x31 : Value) (x32 : Value) (x33 : Value) (x34 : Value) (x35 : Value) (x36 : Value) (x37 : Value) (x38 : Value) (x39 : Value) (x40 : Value) (x41 : Value) (x42 : Value) (x43 : Value) (x44 : Value) (x45 : Value) (x46 : Value) (x47 : Value) (x48 : Value) (x53 : Value) (x54 : Value) (x55 : Value) (x56 : Value) (x57 : Value) (x58 : Value) (x59 : Value) (x60 : Value) (x61 : Value) (x62 : Value) (x63 : Value) (x64 : Value) (x65 : Value) (x66 : Value) (x67 : Value) (x68 : Value) (x69 : Value) (x70 : Value) (x71 : Value) (x72 : Value) (x73 : Value) (x74 : Value) (x75 : Value) (x76 : Value) (x77 : Value) (x78 : Value) (x79 : Value) (x80 : Value) (x81 : Value) (x82 : Value) (x83 : Value) (x84 : Value) (x85 : Value) (x86 : Value) (x87 : Value) (x88 : Value) (ka : Int32)  : XMi l D (tyL cy) E0 yX12_pardon cX12_pardon 5 (some .int) (rmk 3 0 0) [.ref b0, .int ka] [(b0, .inr (12, [x0, x1, x2, x3, x4, x5, x6, x7, x8, x9, x10, x11, x12, x13, x14, x15, x16, x17, x18, x19, x20, x21, x22, x23, x24, x25, x26, x27, x28, x29, x30, x31, x32, x33, x34, x35, x36, x37, x38, x39, x40, x41, x42, x43, x44, x45, x46, x47, x48, .int 0, .int 0, .int 0, .int 0, x53, x54, x55, x56, x57, x58, x59, x60, x61, x62, x63, x64, x65, x66, x67, x68, x69, x70, x71, x72, x73, x74, x75, x76, x77, x78, x79, x80, x81, x82, x83, x84, x85, x86, x87, x88]))] (fun (r : Int32) (_ : Unit) => r = -1) (fun (_ : Unit) => []) := by
  refine XMi.start (by decide) (Nat.le_of_ble_eq_true rfl) ?_
  intro p e s m below meth c args A ls Q hat hQ
  obtain ⟨hx, hb, hr, hml, hown, hg, hlocks, hin, hK, hA, hP, hD, hS, hE, hl⟩ := hat
  have hown : s.vm.findClass RX12 = some m.cls := hown
  have hl : lv_has ls 5 [(0, .ref b0), (1, .int ka)] := hl
  refine lv_aload_n hx hb dX12_pardon_0 rfl (lv_at hl 0 rfl) ?_
  refine lv_iconst (v := 0) hx hb dX12_pardon_1 (by decide) ?_
  refine va_put (D := D) (ci := 12) (v := .int 0) (ty := .int) (C := RX12) (T := TX12) (N := 89) hx hb hg i_X12 tyX12 tyX12_ok nmX12 hown hK hP hD hS 0 rfl rfl 71 (by decide) (hg _ m_1484) (fun _ h9 => h9) rfl (by decide +kernel) rfl rfl (Nat.le_of_ble_eq_true rfl) dX12_pardon_2 (fun H locs hP hD hS => ?_)
  have hP : va_P D vwCl [(b0, .inr (12, [x0, x1, x2, x3, x4, x5, x6, x7, x8, x9, x10, x11, x12, x13, x14, x15, x16, x17, x18, x19, x20, x21, x22, x23, x24, x25, x26, x27, x28, x29, x30, x31, x32, x33, x34, x35, x36, x37, x38, x39, x40, x41, x42, x43, x44, x45, x46, x47, x48, .int 0, .int 0, .int 0, .int 0, x53, x54, x55, x56, x57, x58, x59, x60, x61, x62, x63, x64, x65, x66, x67, x68, x69, x70, .int 0, x72, x73, x74, x75, x76, x77, x78, x79, x80, x81, x82, x83, x84, x85, x86, x87, x88]))] H := hP
  have hD : va_D A [(b0, .inr (12, [x0, x1, x2, x3, x4, x5, x6, x7, x8, x9, x10, x11, x12, x13, x14, x15, x16, x17, x18, x19, x20, x21, x22, x23, x24, x25, x26, x27, x28, x29, x30, x31, x32, x33, x34, x35, x36, x37, x38, x39, x40, x41, x42, x43, x44, x45, x46, x47, x48, .int 0, .int 0, .int 0, .int 0, x53, x54, x55, x56, x57, x58, x59, x60, x61, x62, x63, x64, x65, x66, x67, x68, x69, x70, .int 0, x72, x73, x74, x75, x76, x77, x78, x79, x80, x81, x82, x83, x84, x85, x86, x87, x88]))] := hD
  refine lv_aload_n hx hb dX12_pardon_5 rfl (lv_at hl 0 rfl) ?_
  refine lv_iload_n hx hb dX12_pardon_6 rfl (lv_at hl 1 rfl) ?_
  refine x_callVi (q := (RX12, TX12, 89)) (ci := 12) (q0 := 0) (wr := []) (rest := []) ⟨hx, hb, hml, hown, hg, hl.1⟩ k_X12_506 (m_isMan l D cy b0 x0 x1 x2 x3 x4 x5 x6 x7 x8 x9 x10 x11 x12 x13 x14 x15 x16 x17 x18 x19 x20 x21 x22 x23 x24 x25 x26 x27 x28 x29 x30 x31 x32 x33 x34 x35 x36 x37 x38 x39 x40 x41 x42 x43 x44 x45 x46 x47 x48 ((.int 0)) ((.int 0)) ((.int 0)) x53 x54 x55 x56 x57 x58 x59 x60 x61 x62 x63 x64 x65 x66 x67 x68 x69 x70 ((.int 0)) x72 x73 x74 x75 x76 x77 x78 x79 x80 x81 x82 x83 x84 x85 x86 x87 x88 ka) E0_blind hK hP hD hS hA [0] [] ⟨rfl, rfl, by decide, by decide, by decide⟩ rfl rfl (fun _ _ _ => trivial) dX12_pardon_7 rfl rfl (Nat.le_of_ble_eq_true rfl) ⟨Nat.le_of_ble_eq_true rfl, Nat.le_of_ble_eq_true rfl⟩ ⟨Nat.le_of_ble_eq_true rfl, Nat.le_of_ble_eq_true rfl⟩ (fun r1 u1 H locs hw1 hP hD hS => ?_)
  have hP : va_P D vwCl [(b0, .inr (12, [x0, x1, x2, x3, x4, x5, x6, x7, x8, x9, x10, x11, x12, x13, x14, x15, x16, x17, x18, x19, x20, x21, x22, x23, x24, x25, x26, x27, x28, x29, x30, x31, x32, x33, x34, x35, x36, x37, x38, x39, x40, x41, x42, x43, x44, x45, x46, x47, x48, .int 0, .int 0, .int 0, .int 0, x53, x54, x55, x56, x57, x58, x59, x60, x61, x62, x63, x64, x65, x66, x67, x68, x69, x70, .int 0, x72, x73, x74, x75, x76, x77, x78, x79, x80, x81, x82, x83, x84, x85, x86, x87, x88]))] H := hP
  have hD : va_D A [(b0, .inr (12, [x0, x1, x2, x3, x4, x5, x6, x7, x8, x9, x10, x11, x12, x13, x14, x15, x16, x17, x18, x19, x20, x21, x22, x23, x24, x25, x26, x27, x28, x29, x30, x31, x32, x33, x34, x35, x36, x37, x38, x39, x40, x41, x42, x43, x44, x45, x46, x47, x48, .int 0, .int 0, .int 0, .int 0, x53, x54, x55, x56, x57, x58, x59, x60, x61, x62, x63, x64, x65, x66, x67, x68, x69, x70, .int 0, x72, x73, x74, x75, x76, x77, x78, x79, x80, x81, x82, x83, x84, x85, x86, x87, x88]))] := hD
  refine W.widen (k := 0) (n := 0) (Nat.le_of_ble_eq_true rfl) (Nat.le_of_ble_eq_true rfl) ?_
  have hw1 : r1 = 0 := hw1
  subst hw1
  refine lv_if_eq (tgt := 20) hx hb dX12_pardon_10 (by decide) (fun _ => ?_) (fun h => absurd (by decide) h)
  refine lv_iconst (v := -1) hx hb dX12_pardon_20 (by decide) ?_
  exact x_iret hQ hx hb hr hlocks hK hP hD hS dX12_pardon_21 () (rfl) [] (by decide) rfl (Nat.le_of_ble_eq_true rfl) (Nat.le_of_ble_eq_true rfl)
theorem dX12_pardons_0 : decode cX12_pardons 0 = .ok (.aload_n 0, 1) := by decide +kernel
theorem dX12_pardons_1 : decode cX12_pardons 1 = .ok (.iload_n 1, 1) := by decide +kernel
theorem dX12_pardons_2 : decode cX12_pardons 2 = .ok (.invokevirtual 506, 3) := by decide +kernel
theorem dX12_pardons_5 : decode cX12_pardons 5 = .ok (.ifCond .eq 19, 3) := by decide +kernel
theorem dX12_pardons_24 : decode cX12_pardons 24 = .ok (.iconst (-1), 1) := by decide +kernel
theorem dX12_pardons_25 : decode cX12_pardons 25 = .ok (.ireturn, 1) := by decide +kernel
set_option maxHeartbeats 400000 in
set_option maxRecDepth 100000 in
theorem m_pardons (l : Launch) (D : va_G) (cy : Nat → ClassId) (b0 : Nat) (x0 : Value) (x1 : Value) (x2 : Value) (x3 : Value) (x4 : Value) (x5 : Value) (x6 : Value) (x7 : Value) (x8 : Value) (x9 : Value) (x10 : Value) (x11 : Value) (x12 : Value) (x13 : Value) (x14 : Value) (x15 : Value) (x16 : Value) (x17 : Value) (x18 : Value) (x19 : Value) (x20 : Value) (x21 : Value) (x22 : Value) (x23 : Value) (x24 : Value) (x25 : Value) (x26 : Value) (x27 : Value) (x28 : Value) (x29 : Value) (x30 : Value) (x31 : Value) (x32 : Value) (x33 : Value) (x34 : Value) (x35 : Value) (x36 : Value) (x37 : Value) (x38 : Value) (x39 : Value) (x40 : Value) (x41 : Value) (x42 : Value) (x43 : Value) (x44 : Value) (x45 : Value) (x46 : Value) (x47 : Value) (x48 : Value) (x53 : Value) (x54 : Value) (x55 : Value) (x56 : Value) (x57 : Value) (x58 : Value) (x59 : Value) (x60 : Value) (x61 : Value) (x62 : Value) (x63 : Value) (x64 : Value) (x65 : Value) (x66 : Value) (x67 : Value) (x68 : Value) (x69 : Value) (x70 : Value) (x71 : Value) (x72 : Value) (x73 : Value) (x74 : Value) (x75 : Value) (x76 : Value) (x77 : Value) (x78 : Value) (x79 : Value) (x80 : Value) (x81 : Value) (x82 : Value) (x83 : Value) (x84 : Value) (x85 : Value) (x86 : Value) (x87 : Value) (x88 : Value) (ka : Int32) (kb : Int32)  : XMi l D (tyL cy) E0 yX12_pardons cX12_pardons 6 (some .int) (rmk 3 0 0) [.ref b0, .int ka, .int kb] [(b0, .inr (12, [x0, x1, x2, x3, x4, x5, x6, x7, x8, x9, x10, x11, x12, x13, x14, x15, x16, x17, x18, x19, x20, x21, x22, x23, x24, x25, x26, x27, x28, x29, x30, x31, x32, x33, x34, x35, x36, x37, x38, x39, x40, x41, x42, x43, x44, x45, x46, x47, x48, .int 0, .int 0, .int 0, .int 0, x53, x54, x55, x56, x57, x58, x59, x60, x61, x62, x63, x64, x65, x66, x67, x68, x69, x70, x71, x72, x73, x74, x75, x76, x77, x78, x79, x80, x81, x82, x83, x84, x85, x86, x87, x88]))] (fun (r : Int32) (_ : Unit) => r = -1) (fun (_ : Unit) => []) := by
  refine XMi.start (by decide) (Nat.le_of_ble_eq_true rfl) ?_
  intro p e s m below meth c args A ls Q hat hQ
  obtain ⟨hx, hb, hr, hml, hown, hg, hlocks, hin, hK, hA, hP, hD, hS, hE, hl⟩ := hat
  have hown : s.vm.findClass RX12 = some m.cls := hown
  have hl : lv_has ls 6 [(0, .ref b0), (1, .int ka), (2, .int kb)] := hl
  refine lv_aload_n hx hb dX12_pardons_0 rfl (lv_at hl 0 rfl) ?_
  refine lv_iload_n hx hb dX12_pardons_1 rfl (lv_at hl 1 rfl) ?_
  refine x_callVi (q := (RX12, TX12, 89)) (ci := 12) (q0 := 0) (wr := []) (rest := []) ⟨hx, hb, hml, hown, hg, hl.1⟩ k_X12_506 (m_isMan l D cy b0 x0 x1 x2 x3 x4 x5 x6 x7 x8 x9 x10 x11 x12 x13 x14 x15 x16 x17 x18 x19 x20 x21 x22 x23 x24 x25 x26 x27 x28 x29 x30 x31 x32 x33 x34 x35 x36 x37 x38 x39 x40 x41 x42 x43 x44 x45 x46 x47 x48 ((.int 0)) ((.int 0)) ((.int 0)) x53 x54 x55 x56 x57 x58 x59 x60 x61 x62 x63 x64 x65 x66 x67 x68 x69 x70 x71 x72 x73 x74 x75 x76 x77 x78 x79 x80 x81 x82 x83 x84 x85 x86 x87 x88 ka) E0_blind hK hP hD hS hA [0] [] ⟨rfl, rfl, by decide, by decide, by decide⟩ rfl rfl (fun _ _ _ => trivial) dX12_pardons_2 rfl rfl (Nat.le_of_ble_eq_true rfl) ⟨Nat.le_of_ble_eq_true rfl, Nat.le_of_ble_eq_true rfl⟩ ⟨Nat.le_of_ble_eq_true rfl, Nat.le_of_ble_eq_true rfl⟩ (fun r1 u1 H locs hw1 hP hD hS => ?_)
  have hP : va_P D vwCl [(b0, .inr (12, [x0, x1, x2, x3, x4, x5, x6, x7, x8, x9, x10, x11, x12, x13, x14, x15, x16, x17, x18, x19, x20, x21, x22, x23, x24, x25, x26, x27, x28, x29, x30, x31, x32, x33, x34, x35, x36, x37, x38, x39, x40, x41, x42, x43, x44, x45, x46, x47, x48, .int 0, .int 0, .int 0, .int 0, x53, x54, x55, x56, x57, x58, x59, x60, x61, x62, x63, x64, x65, x66, x67, x68, x69, x70, x71, x72, x73, x74, x75, x76, x77, x78, x79, x80, x81, x82, x83, x84, x85, x86, x87, x88]))] H := hP
  have hD : va_D A [(b0, .inr (12, [x0, x1, x2, x3, x4, x5, x6, x7, x8, x9, x10, x11, x12, x13, x14, x15, x16, x17, x18, x19, x20, x21, x22, x23, x24, x25, x26, x27, x28, x29, x30, x31, x32, x33, x34, x35, x36, x37, x38, x39, x40, x41, x42, x43, x44, x45, x46, x47, x48, .int 0, .int 0, .int 0, .int 0, x53, x54, x55, x56, x57, x58, x59, x60, x61, x62, x63, x64, x65, x66, x67, x68, x69, x70, x71, x72, x73, x74, x75, x76, x77, x78, x79, x80, x81, x82, x83, x84, x85, x86, x87, x88]))] := hD
  refine W.widen (k := 0) (n := 0) (Nat.le_of_ble_eq_true rfl) (Nat.le_of_ble_eq_true rfl) ?_
  have hw1 : r1 = 0 := hw1
  subst hw1
  refine lv_if_eq (tgt := 24) hx hb dX12_pardons_5 (by decide) (fun _ => ?_) (fun h => absurd (by decide) h)
  refine lv_iconst (v := -1) hx hb dX12_pardons_24 (by decide) ?_
  exact x_iret hQ hx hb hr hlocks hK hP hD hS dX12_pardons_25 () (rfl) [] (by decide) rfl (Nat.le_of_ble_eq_true rfl) (Nat.le_of_ble_eq_true rfl)
theorem dX12_ahead_0 : decode cX12_ahead 0 = .ok (.aload_n 0, 1) := by decide +kernel
theorem dX12_ahead_1 : decode cX12_ahead 1 = .ok (.iconst 0, 1) := by decide +kernel
theorem dX12_ahead_2 : decode cX12_ahead 2 = .ok (.putfield 433, 3) := by decide +kernel
theorem dX12_ahead_5 : decode cX12_ahead 5 = .ok (.aload_n 0, 1) := by decide +kernel
theorem dX12_ahead_6 : decode cX12_ahead 6 = .ok (.iload_n 1, 1) := by decide +kernel
theorem dX12_ahead_7 : decode cX12_ahead 7 = .ok (.invokevirtual 506, 3) := by decide +kernel
theorem dX12_ahead_10 : decode cX12_ahead 10 = .ok (.ifCond .eq 20, 3) := by decide +kernel
theorem dX12_ahead_30 : decode cX12_ahead 30 = .ok (.iconst (-1), 1) := by decide +kernel
theorem dX12_ahead_31 : decode cX12_ahead 31 = .ok (.ireturn, 1) := by decide +kernel
set_option maxHeartbeats 400000 in
set_option maxRecDepth 100000 in
theorem m_ahead (l : Launch) (D : va_G) (cy : Nat → ClassId) (b0 : Nat) (x0 : Value) (x1 : Value) (x2 : Value) (x3 : Value) (x4 : Value) (x5 : Value) (x6 : Value) (x7 : Value) (x8 : Value) (x9 : Value) (x10 : Value) (x11 : Value) (x12 : Value) (x13 : Value) (x14 : Value) (x15 : Value) (x16 : Value) (x17 : Value) (x18 : Value) (x19 : Value) (x20 : Value) (x21 : Value) (x22 : Value) (x23 : Value) (x24 : Value) (x25 : Value) (x26 : Value) (x27 : Value) (x28 : Value) (x29 : Value) (x30 : Value) (x31 : Value) (x32 : Value) (x33 : Value) (x34 : Value) (x35 : Value) (x36 : Value) (x37 : Value) (x38 : Value) (x39 : Value) (x40 : Value) (x41 : Value) (x42 : Value) (x43 : Value) (x44 : Value) (x45 : Value) (x46 : Value) (x47 : Value) (x48 : Value) (x53 : Value) (x54 : Value) (x55 : Value) (x56 : Value) (x57 : Value) (x58 : Value) (x59 : Value) (x60 : Value) (x61 : Value) (x62 : Value) (x63 : Value) (x64 : Value) (x65 : Value) (x66 : Value) (x67 : Value) (x68 : Value) (x69 : Value) (x70 : Value) (x71 : Value) (x72 : Value) (x73 : Value) (x74 : Value) (x75 : Value) (x76 : Value) (x77 : Value) (x78 : Value) (x79 : Value) (x80 : Value) (x81 : Value) (x82 : Value) (x83 : Value) (x84 : Value) (x85 : Value) (x86 : Value) (x87 : Value) (x88 : Value) (ka : Int32) (kb : Int32) (kc : Int32)  : XMi l D (tyL cy) E0 yX12_ahead cX12_ahead 7 (some .int) (rmk 3 0 0) [.ref b0, .int ka, .int kb, .int kc] [(b0, .inr (12, [x0, x1, x2, x3, x4, x5, x6, x7, x8, x9, x10, x11, x12, x13, x14, x15, x16, x17, x18, x19, x20, x21, x22, x23, x24, x25, x26, x27, x28, x29, x30, x31, x32, x33, x34, x35, x36, x37, x38, x39, x40, x41, x42, x43, x44, x45, x46, x47, x48, .int 0, .int 0, .int 0, .int 0, x53, x54, x55, x56, x57, x58, x59, x60, x61, x62, x63, x64, x65, x66, x67, x68, x69, x70, x71, x72, x73, x74, x75, x76, x77, x78, x79, x80, x81, x82, x83, x84, x85, x86, x87, x88]))] (fun (r : Int32) (_ : Unit) => r = -1) (fun (_ : Unit) => []) := by
  refine XMi.start (by decide) (Nat.le_of_ble_eq_true rfl) ?_
  intro p e s m below meth c args A ls Q hat hQ
  obtain ⟨hx, hb, hr, hml, hown, hg, hlocks, hin, hK, hA, hP, hD, hS, hE, hl⟩ := hat
  have hown : s.vm.findClass RX12 = some m.cls := hown
  have hl : lv_has ls 7 [(0, .ref b0), (1, .int ka), (2, .int kb), (3, .int kc)] := hl
  refine lv_aload_n hx hb dX12_ahead_0 rfl (lv_at hl 0 rfl) ?_
  refine lv_iconst (v := 0) hx hb dX12_ahead_1 (by decide) ?_
  refine va_put (D := D) (ci := 12) (v := .int 0) (ty := .int) (C := RX12) (T := TX12) (N := 89) hx hb hg i_X12 tyX12 tyX12_ok nmX12 hown hK hP hD hS 0 rfl rfl 71 (by decide) (hg _ m_1484) (fun _ h9 => h9) rfl (by decide +kernel) rfl rfl (Nat.le_of_ble_eq_true rfl) dX12_ahead_2 (fun H locs hP hD hS => ?_)
  have hP : va_P D vwCl [(b0, .inr (12, [x0, x1, x2, x3, x4, x5, x6, x7, x8, x9, x10, x11, x12, x13, x14, x15, x16, x17, x18, x19, x20, x21, x22, x23, x24, x25, x26, x27, x28, x29, x30, x31, x32, x33, x34, x35, x36, x37, x38, x39, x40, x41, x42, x43, x44, x45, x46, x47, x48, .int 0, .int 0, .int 0, .int 0, x53, x54, x55, x56, x57, x58, x59, x60, x61, x62, x63, x64, x65, x66, x67, x68, x69, x70, .int 0, x72, x73, x74, x75, x76, x77, x78, x79, x80, x81, x82, x83, x84, x85, x86, x87, x88]))] H := hP
  have hD : va_D A [(b0, .inr (12, [x0, x1, x2, x3, x4, x5, x6, x7, x8, x9, x10, x11, x12, x13, x14, x15, x16, x17, x18, x19, x20, x21, x22, x23, x24, x25, x26, x27, x28, x29, x30, x31, x32, x33, x34, x35, x36, x37, x38, x39, x40, x41, x42, x43, x44, x45, x46, x47, x48, .int 0, .int 0, .int 0, .int 0, x53, x54, x55, x56, x57, x58, x59, x60, x61, x62, x63, x64, x65, x66, x67, x68, x69, x70, .int 0, x72, x73, x74, x75, x76, x77, x78, x79, x80, x81, x82, x83, x84, x85, x86, x87, x88]))] := hD
  refine lv_aload_n hx hb dX12_ahead_5 rfl (lv_at hl 0 rfl) ?_
  refine lv_iload_n hx hb dX12_ahead_6 rfl (lv_at hl 1 rfl) ?_
  refine x_callVi (q := (RX12, TX12, 89)) (ci := 12) (q0 := 0) (wr := []) (rest := []) ⟨hx, hb, hml, hown, hg, hl.1⟩ k_X12_506 (m_isMan l D cy b0 x0 x1 x2 x3 x4 x5 x6 x7 x8 x9 x10 x11 x12 x13 x14 x15 x16 x17 x18 x19 x20 x21 x22 x23 x24 x25 x26 x27 x28 x29 x30 x31 x32 x33 x34 x35 x36 x37 x38 x39 x40 x41 x42 x43 x44 x45 x46 x47 x48 ((.int 0)) ((.int 0)) ((.int 0)) x53 x54 x55 x56 x57 x58 x59 x60 x61 x62 x63 x64 x65 x66 x67 x68 x69 x70 ((.int 0)) x72 x73 x74 x75 x76 x77 x78 x79 x80 x81 x82 x83 x84 x85 x86 x87 x88 ka) E0_blind hK hP hD hS hA [0] [] ⟨rfl, rfl, by decide, by decide, by decide⟩ rfl rfl (fun _ _ _ => trivial) dX12_ahead_7 rfl rfl (Nat.le_of_ble_eq_true rfl) ⟨Nat.le_of_ble_eq_true rfl, Nat.le_of_ble_eq_true rfl⟩ ⟨Nat.le_of_ble_eq_true rfl, Nat.le_of_ble_eq_true rfl⟩ (fun r1 u1 H locs hw1 hP hD hS => ?_)
  have hP : va_P D vwCl [(b0, .inr (12, [x0, x1, x2, x3, x4, x5, x6, x7, x8, x9, x10, x11, x12, x13, x14, x15, x16, x17, x18, x19, x20, x21, x22, x23, x24, x25, x26, x27, x28, x29, x30, x31, x32, x33, x34, x35, x36, x37, x38, x39, x40, x41, x42, x43, x44, x45, x46, x47, x48, .int 0, .int 0, .int 0, .int 0, x53, x54, x55, x56, x57, x58, x59, x60, x61, x62, x63, x64, x65, x66, x67, x68, x69, x70, .int 0, x72, x73, x74, x75, x76, x77, x78, x79, x80, x81, x82, x83, x84, x85, x86, x87, x88]))] H := hP
  have hD : va_D A [(b0, .inr (12, [x0, x1, x2, x3, x4, x5, x6, x7, x8, x9, x10, x11, x12, x13, x14, x15, x16, x17, x18, x19, x20, x21, x22, x23, x24, x25, x26, x27, x28, x29, x30, x31, x32, x33, x34, x35, x36, x37, x38, x39, x40, x41, x42, x43, x44, x45, x46, x47, x48, .int 0, .int 0, .int 0, .int 0, x53, x54, x55, x56, x57, x58, x59, x60, x61, x62, x63, x64, x65, x66, x67, x68, x69, x70, .int 0, x72, x73, x74, x75, x76, x77, x78, x79, x80, x81, x82, x83, x84, x85, x86, x87, x88]))] := hD
  refine W.widen (k := 0) (n := 0) (Nat.le_of_ble_eq_true rfl) (Nat.le_of_ble_eq_true rfl) ?_
  have hw1 : r1 = 0 := hw1
  subst hw1
  refine lv_if_eq (tgt := 30) hx hb dX12_ahead_10 (by decide) (fun _ => ?_) (fun h => absurd (by decide) h)
  refine lv_iconst (v := -1) hx hb dX12_ahead_30 (by decide) ?_
  exact x_iret hQ hx hb hr hlocks hK hP hD hS dX12_ahead_31 () (rfl) [] (by decide) rfl (Nat.le_of_ble_eq_true rfl) (Nat.le_of_ble_eq_true rfl)
theorem dX12_clears_0 : decode cX12_clears 0 = .ok (.aload_n 0, 1) := by decide +kernel
theorem dX12_clears_1 : decode cX12_clears 1 = .ok (.iload_n 1, 1) := by decide +kernel
theorem dX12_clears_2 : decode cX12_clears 2 = .ok (.invokevirtual 506, 3) := by decide +kernel
theorem dX12_clears_5 : decode cX12_clears 5 = .ok (.ifCond .eq 12, 3) := by decide +kernel
theorem dX12_clears_17 : decode cX12_clears 17 = .ok (.iconst (-1), 1) := by decide +kernel
theorem dX12_clears_18 : decode cX12_clears 18 = .ok (.ireturn, 1) := by decide +kernel
set_option maxHeartbeats 400000 in
set_option maxRecDepth 100000 in
theorem m_clears (l : Launch) (D : va_G) (cy : Nat → ClassId) (b0 : Nat) (x0 : Value) (x1 : Value) (x2 : Value) (x3 : Value) (x4 : Value) (x5 : Value) (x6 : Value) (x7 : Value) (x8 : Value) (x9 : Value) (x10 : Value) (x11 : Value) (x12 : Value) (x13 : Value) (x14 : Value) (x15 : Value) (x16 : Value) (x17 : Value) (x18 : Value) (x19 : Value) (x20 : Value) (x21 : Value) (x22 : Value) (x23 : Value) (x24 : Value) (x25 : Value) (x26 : Value) (x27 : Value) (x28 : Value) (x29 : Value) (x30 : Value) (x31 : Value) (x32 : Value) (x33 : Value) (x34 : Value) (x35 : Value) (x36 : Value) (x37 : Value) (x38 : Value) (x39 : Value) (x40 : Value) (x41 : Value) (x42 : Value) (x43 : Value) (x44 : Value) (x45 : Value) (x46 : Value) (x47 : Value) (x48 : Value) (x53 : Value) (x54 : Value) (x55 : Value) (x56 : Value) (x57 : Value) (x58 : Value) (x59 : Value) (x60 : Value) (x61 : Value) (x62 : Value) (x63 : Value) (x64 : Value) (x65 : Value) (x66 : Value) (x67 : Value) (x68 : Value) (x69 : Value) (x70 : Value) (x71 : Value) (x72 : Value) (x73 : Value) (x74 : Value) (x75 : Value) (x76 : Value) (x77 : Value) (x78 : Value) (x79 : Value) (x80 : Value) (x81 : Value) (x82 : Value) (x83 : Value) (x84 : Value) (x85 : Value) (x86 : Value) (x87 : Value) (x88 : Value) (ka : Int32) (kb : Int32)  : XMi l D (tyL cy) E0 yX12_clears cX12_clears 6 (some .int) (rmk 3 0 0) [.ref b0, .int ka, .int kb] [(b0, .inr (12, [x0, x1, x2, x3, x4, x5, x6, x7, x8, x9, x10, x11, x12, x13, x14, x15, x16, x17, x18, x19, x20, x21, x22, x23, x24, x25, x26, x27, x28, x29, x30, x31, x32, x33, x34, x35, x36, x37, x38, x39, x40, x41, x42, x43, x44, x45, x46, x47, x48, .int 0, .int 0, .int 0, .int 0, x53, x54, x55, x56, x57, x58, x59, x60, x61, x62, x63, x64, x65, x66, x67, x68, x69, x70, x71, x72, x73, x74, x75, x76, x77, x78, x79, x80, x81, x82, x83, x84, x85, x86, x87, x88]))] (fun (r : Int32) (_ : Unit) => r = -1) (fun (_ : Unit) => []) := by
  refine XMi.start (by decide) (Nat.le_of_ble_eq_true rfl) ?_
  intro p e s m below meth c args A ls Q hat hQ
  obtain ⟨hx, hb, hr, hml, hown, hg, hlocks, hin, hK, hA, hP, hD, hS, hE, hl⟩ := hat
  have hown : s.vm.findClass RX12 = some m.cls := hown
  have hl : lv_has ls 6 [(0, .ref b0), (1, .int ka), (2, .int kb)] := hl
  refine lv_aload_n hx hb dX12_clears_0 rfl (lv_at hl 0 rfl) ?_
  refine lv_iload_n hx hb dX12_clears_1 rfl (lv_at hl 1 rfl) ?_
  refine x_callVi (q := (RX12, TX12, 89)) (ci := 12) (q0 := 0) (wr := []) (rest := []) ⟨hx, hb, hml, hown, hg, hl.1⟩ k_X12_506 (m_isMan l D cy b0 x0 x1 x2 x3 x4 x5 x6 x7 x8 x9 x10 x11 x12 x13 x14 x15 x16 x17 x18 x19 x20 x21 x22 x23 x24 x25 x26 x27 x28 x29 x30 x31 x32 x33 x34 x35 x36 x37 x38 x39 x40 x41 x42 x43 x44 x45 x46 x47 x48 ((.int 0)) ((.int 0)) ((.int 0)) x53 x54 x55 x56 x57 x58 x59 x60 x61 x62 x63 x64 x65 x66 x67 x68 x69 x70 x71 x72 x73 x74 x75 x76 x77 x78 x79 x80 x81 x82 x83 x84 x85 x86 x87 x88 ka) E0_blind hK hP hD hS hA [0] [] ⟨rfl, rfl, by decide, by decide, by decide⟩ rfl rfl (fun _ _ _ => trivial) dX12_clears_2 rfl rfl (Nat.le_of_ble_eq_true rfl) ⟨Nat.le_of_ble_eq_true rfl, Nat.le_of_ble_eq_true rfl⟩ ⟨Nat.le_of_ble_eq_true rfl, Nat.le_of_ble_eq_true rfl⟩ (fun r1 u1 H locs hw1 hP hD hS => ?_)
  have hP : va_P D vwCl [(b0, .inr (12, [x0, x1, x2, x3, x4, x5, x6, x7, x8, x9, x10, x11, x12, x13, x14, x15, x16, x17, x18, x19, x20, x21, x22, x23, x24, x25, x26, x27, x28, x29, x30, x31, x32, x33, x34, x35, x36, x37, x38, x39, x40, x41, x42, x43, x44, x45, x46, x47, x48, .int 0, .int 0, .int 0, .int 0, x53, x54, x55, x56, x57, x58, x59, x60, x61, x62, x63, x64, x65, x66, x67, x68, x69, x70, x71, x72, x73, x74, x75, x76, x77, x78, x79, x80, x81, x82, x83, x84, x85, x86, x87, x88]))] H := hP
  have hD : va_D A [(b0, .inr (12, [x0, x1, x2, x3, x4, x5, x6, x7, x8, x9, x10, x11, x12, x13, x14, x15, x16, x17, x18, x19, x20, x21, x22, x23, x24, x25, x26, x27, x28, x29, x30, x31, x32, x33, x34, x35, x36, x37, x38, x39, x40, x41, x42, x43, x44, x45, x46, x47, x48, .int 0, .int 0, .int 0, .int 0, x53, x54, x55, x56, x57, x58, x59, x60, x61, x62, x63, x64, x65, x66, x67, x68, x69, x70, x71, x72, x73, x74, x75, x76, x77, x78, x79, x80, x81, x82, x83, x84, x85, x86, x87, x88]))] := hD
  refine W.widen (k := 0) (n := 0) (Nat.le_of_ble_eq_true rfl) (Nat.le_of_ble_eq_true rfl) ?_
  have hw1 : r1 = 0 := hw1
  subst hw1
  refine lv_if_eq (tgt := 17) hx hb dX12_clears_5 (by decide) (fun _ => ?_) (fun h => absurd (by decide) h)
  refine lv_iconst (v := -1) hx hb dX12_clears_17 (by decide) ?_
  exact x_iret hQ hx hb hr hlocks hK hP hD hS dX12_clears_18 () (rfl) [] (by decide) rfl (Nat.le_of_ble_eq_true rfl) (Nat.le_of_ble_eq_true rfl)
theorem dX12_rhyme_0 : decode cX12_rhyme 0 = .ok (.aload_n 0, 1) := by decide +kernel
theorem dX12_rhyme_1 : decode cX12_rhyme 1 = .ok (.iconst 0, 1) := by decide +kernel
theorem dX12_rhyme_2 : decode cX12_rhyme 2 = .ok (.putfield 433, 3) := by decide +kernel
theorem dX12_rhyme_5 : decode cX12_rhyme 5 = .ok (.aload_n 0, 1) := by decide +kernel
theorem dX12_rhyme_6 : decode cX12_rhyme 6 = .ok (.iload_n 1, 1) := by decide +kernel
theorem dX12_rhyme_7 : decode cX12_rhyme 7 = .ok (.invokevirtual 506, 3) := by decide +kernel
theorem dX12_rhyme_10 : decode cX12_rhyme 10 = .ok (.ifCond .ne 5, 3) := by decide +kernel
theorem dX12_rhyme_13 : decode cX12_rhyme 13 = .ok (.iconst (-1), 1) := by decide +kernel
theorem dX12_rhyme_14 : decode cX12_rhyme 14 = .ok (.ireturn, 1) := by decide +kernel
set_option maxHeartbeats 400000 in
set_option maxRecDepth 100000 in
theorem m_rhyme (l : Launch) (D : va_G) (cy : Nat → ClassId) (b0 : Nat) (x0 : Value) (x1 : Value) (x2 : Value) (x3 : Value) (x4 : Value) (x5 : Value) (x6 : Value) (x7 : Value) (x8 : Value) (x9 : Value) (x10 : Value) (x11 : Value) (x12 : Value) (x13 : Value) (x14 : Value) (x15 : Value) (x16 : Value) (x17 : Value) (x18 : Value) (x19 : Value) (x20 : Value) (x21 : Value) (x22 : Value) (x23 : Value) (x24 : Value) (x25 : Value) (x26 : Value) (x27 : Value) (x28 : Value) (x29 : Value) (x30 : Value) (x31 : Value) (x32 : Value) (x33 : Value) (x34 : Value) (x35 : Value) (x36 : Value) (x37 : Value) (x38 : Value) (x39 : Value) (x40 : Value) (x41 : Value) (x42 : Value) (x43 : Value) (x44 : Value) (x45 : Value) (x46 : Value) (x47 : Value) (x48 : Value) (x53 : Value) (x54 : Value) (x55 : Value) (x56 : Value) (x57 : Value) (x58 : Value) (x59 : Value) (x60 : Value) (x61 : Value) (x62 : Value) (x63 : Value) (x64 : Value) (x65 : Value) (x66 : Value) (x67 : Value) (x68 : Value) (x69 : Value) (x70 : Value) (x71 : Value) (x72 : Value) (x73 : Value) (x74 : Value) (x75 : Value) (x76 : Value) (x77 : Value) (x78 : Value) (x79 : Value) (x80 : Value) (x81 : Value) (x82 : Value) (x83 : Value) (x84 : Value) (x85 : Value) (x86 : Value) (x87 : Value) (x88 : Value) (ka : Int32)  : XMi l D (tyL cy) E0 yX12_rhyme cX12_rhyme 4 (some .int) (rmk 3 0 0) [.ref b0, .int ka] [(b0, .inr (12, [x0, x1, x2, x3, x4, x5, x6, x7, x8, x9, x10, x11, x12, x13, x14, x15, x16, x17, x18, x19, x20, x21, x22, x23, x24, x25, x26, x27, x28, x29, x30, x31, x32, x33, x34, x35, x36, x37, x38, x39, x40, x41, x42, x43, x44, x45, x46, x47, x48, .int 0, .int 0, .int 0, .int 0, x53, x54, x55, x56, x57, x58, x59, x60, x61, x62, x63, x64, x65, x66, x67, x68, x69, x70, x71, x72, x73, x74, x75, x76, x77, x78, x79, x80, x81, x82, x83, x84, x85, x86, x87, x88]))] (fun (r : Int32) (_ : Unit) => r = -1) (fun (_ : Unit) => []) := by
  refine XMi.start (by decide) (Nat.le_of_ble_eq_true rfl) ?_
  intro p e s m below meth c args A ls Q hat hQ
  obtain ⟨hx, hb, hr, hml, hown, hg, hlocks, hin, hK, hA, hP, hD, hS, hE, hl⟩ := hat
  have hown : s.vm.findClass RX12 = some m.cls := hown
  have hl : lv_has ls 4 [(0, .ref b0), (1, .int ka)] := hl
  refine lv_aload_n hx hb dX12_rhyme_0 rfl (lv_at hl 0 rfl) ?_
  refine lv_iconst (v := 0) hx hb dX12_rhyme_1 (by decide) ?_
  refine va_put (D := D) (ci := 12) (v := .int 0) (ty := .int) (C := RX12) (T := TX12) (N := 89) hx hb hg i_X12 tyX12 tyX12_ok nmX12 hown hK hP hD hS 0 rfl rfl 71 (by decide) (hg _ m_1484) (fun _ h9 => h9) rfl (by decide +kernel) rfl rfl (Nat.le_of_ble_eq_true rfl) dX12_rhyme_2 (fun H locs hP hD hS => ?_)
  have hP : va_P D vwCl [(b0, .inr (12, [x0, x1, x2, x3, x4, x5, x6, x7, x8, x9, x10, x11, x12, x13, x14, x15, x16, x17, x18, x19, x20, x21, x22, x23, x24, x25, x26, x27, x28, x29, x30, x31, x32, x33, x34, x35, x36, x37, x38, x39, x40, x41, x42, x43, x44, x45, x46, x47, x48, .int 0, .int 0, .int 0, .int 0, x53, x54, x55, x56, x57, x58, x59, x60, x61, x62, x63, x64, x65, x66, x67, x68, x69, x70, .int 0, x72, x73, x74, x75, x76, x77, x78, x79, x80, x81, x82, x83, x84, x85, x86, x87, x88]))] H := hP
  have hD : va_D A [(b0, .inr (12, [x0, x1, x2, x3, x4, x5, x6, x7, x8, x9, x10, x11, x12, x13, x14, x15, x16, x17, x18, x19, x20, x21, x22, x23, x24, x25, x26, x27, x28, x29, x30, x31, x32, x33, x34, x35, x36, x37, x38, x39, x40, x41, x42, x43, x44, x45, x46, x47, x48, .int 0, .int 0, .int 0, .int 0, x53, x54, x55, x56, x57, x58, x59, x60, x61, x62, x63, x64, x65, x66, x67, x68, x69, x70, .int 0, x72, x73, x74, x75, x76, x77, x78, x79, x80, x81, x82, x83, x84, x85, x86, x87, x88]))] := hD
  refine lv_aload_n hx hb dX12_rhyme_5 rfl (lv_at hl 0 rfl) ?_
  refine lv_iload_n hx hb dX12_rhyme_6 rfl (lv_at hl 1 rfl) ?_
  refine x_callVi (q := (RX12, TX12, 89)) (ci := 12) (q0 := 0) (wr := []) (rest := []) ⟨hx, hb, hml, hown, hg, hl.1⟩ k_X12_506 (m_isMan l D cy b0 x0 x1 x2 x3 x4 x5 x6 x7 x8 x9 x10 x11 x12 x13 x14 x15 x16 x17 x18 x19 x20 x21 x22 x23 x24 x25 x26 x27 x28 x29 x30 x31 x32 x33 x34 x35 x36 x37 x38 x39 x40 x41 x42 x43 x44 x45 x46 x47 x48 ((.int 0)) ((.int 0)) ((.int 0)) x53 x54 x55 x56 x57 x58 x59 x60 x61 x62 x63 x64 x65 x66 x67 x68 x69 x70 ((.int 0)) x72 x73 x74 x75 x76 x77 x78 x79 x80 x81 x82 x83 x84 x85 x86 x87 x88 ka) E0_blind hK hP hD hS hA [0] [] ⟨rfl, rfl, by decide, by decide, by decide⟩ rfl rfl (fun _ _ _ => trivial) dX12_rhyme_7 rfl rfl (Nat.le_of_ble_eq_true rfl) ⟨Nat.le_of_ble_eq_true rfl, Nat.le_of_ble_eq_true rfl⟩ ⟨Nat.le_of_ble_eq_true rfl, Nat.le_of_ble_eq_true rfl⟩ (fun r1 u1 H locs hw1 hP hD hS => ?_)
  have hP : va_P D vwCl [(b0, .inr (12, [x0, x1, x2, x3, x4, x5, x6, x7, x8, x9, x10, x11, x12, x13, x14, x15, x16, x17, x18, x19, x20, x21, x22, x23, x24, x25, x26, x27, x28, x29, x30, x31, x32, x33, x34, x35, x36, x37, x38, x39, x40, x41, x42, x43, x44, x45, x46, x47, x48, .int 0, .int 0, .int 0, .int 0, x53, x54, x55, x56, x57, x58, x59, x60, x61, x62, x63, x64, x65, x66, x67, x68, x69, x70, .int 0, x72, x73, x74, x75, x76, x77, x78, x79, x80, x81, x82, x83, x84, x85, x86, x87, x88]))] H := hP
  have hD : va_D A [(b0, .inr (12, [x0, x1, x2, x3, x4, x5, x6, x7, x8, x9, x10, x11, x12, x13, x14, x15, x16, x17, x18, x19, x20, x21, x22, x23, x24, x25, x26, x27, x28, x29, x30, x31, x32, x33, x34, x35, x36, x37, x38, x39, x40, x41, x42, x43, x44, x45, x46, x47, x48, .int 0, .int 0, .int 0, .int 0, x53, x54, x55, x56, x57, x58, x59, x60, x61, x62, x63, x64, x65, x66, x67, x68, x69, x70, .int 0, x72, x73, x74, x75, x76, x77, x78, x79, x80, x81, x82, x83, x84, x85, x86, x87, x88]))] := hD
  refine W.widen (k := 0) (n := 0) (Nat.le_of_ble_eq_true rfl) (Nat.le_of_ble_eq_true rfl) ?_
  have hw1 : r1 = 0 := hw1
  subst hw1
  refine lv_if_ne (tgt := 15) hx hb dX12_rhyme_10 (by decide) (fun h => absurd (by decide) h) (fun _ => ?_)
  refine lv_iconst (v := -1) hx hb dX12_rhyme_13 (by decide) ?_
  exact x_iret hQ hx hb hr hlocks hK hP hD hS dX12_rhyme_14 () (rfl) [] (by decide) rfl (Nat.le_of_ble_eq_true rfl) (Nat.le_of_ble_eq_true rfl)
theorem dX12_joined_0 : decode cX12_joined 0 = .ok (.aload_n 0, 1) := by decide +kernel
theorem dX12_joined_1 : decode cX12_joined 1 = .ok (.iload_n 1, 1) := by decide +kernel
theorem dX12_joined_2 : decode cX12_joined 2 = .ok (.invokevirtual 506, 3) := by decide +kernel
theorem dX12_joined_5 : decode cX12_joined 5 = .ok (.ifCond .eq 16, 3) := by decide +kernel
theorem dX12_joined_21 : decode cX12_joined 21 = .ok (.iconst (-1), 1) := by decide +kernel
theorem dX12_joined_22 : decode cX12_joined 22 = .ok (.ireturn, 1) := by decide +kernel
set_option maxHeartbeats 400000 in
set_option maxRecDepth 100000 in
theorem m_joined (l : Launch) (D : va_G) (cy : Nat → ClassId) (b0 : Nat) (x0 : Value) (x1 : Value) (x2 : Value) (x3 : Value) (x4 : Value) (x5 : Value) (x6 : Value) (x7 : Value) (x8 : Value) (x9 : Value) (x10 : Value) (x11 : Value) (x12 : Value) (x13 : Value) (x14 : Value) (x15 : Value) (x16 : Value) (x17 : Value) (x18 : Value) (x19 : Value) (x20 : Value) (x21 : Value) (x22 : Value) (x23 : Value) (x24 : Value) (x25 : Value) (x26 : Value) (x27 : Value) (x28 : Value) (x29 : Value) (x30 : Value) (x31 : Value) (x32 : Value) (x33 : Value) (x34 : Value) (x35 : Value) (x36 : Value) (x37 : Value) (x38 : Value) (x39 : Value) (x40 : Value) (x41 : Value) (x42 : Value) (x43 : Value) (x44 : Value) (x45 : Value) (x46 : Value) (x47 : Value) (x48 : Value) (x53 : Value) (x54 : Value) (x55 : Value) (x56 : Value) (x57 : Value) (x58 : Value) (x59 : Value) (x60 : Value) (x61 : Value) (x62 : Value) (x63 : Value) (x64 : Value) (x65 : Value) (x66 : Value) (x67 : Value) (x68 : Value) (x69 : Value) (x70 : Value) (x71 : Value) (x72 : Value) (x73 : Value) (x74 : Value) (x75 : Value) (x76 : Value) (x77 : Value) (x78 : Value) (x79 : Value) (x80 : Value) (x81 : Value) (x82 : Value) (x83 : Value) (x84 : Value) (x85 : Value) (x86 : Value) (x87 : Value) (x88 : Value) (ka : Int32) (kb : Int32)  : XMi l D (tyL cy) E0 yX12_joined cX12_joined 5 (some .int) (rmk 3 0 0) [.ref b0, .int ka, .int kb] [(b0, .inr (12, [x0, x1, x2, x3, x4, x5, x6, x7, x8, x9, x10, x11, x12, x13, x14, x15, x16, x17, x18, x19, x20, x21, x22, x23, x24, x25, x26, x27, x28, x29, x30, x31, x32, x33, x34, x35, x36, x37, x38, x39, x40, x41, x42, x43, x44, x45, x46, x47, x48, .int 0, .int 0, .int 0, .int 0, x53, x54, x55, x56, x57, x58, x59, x60, x61, x62, x63, x64, x65, x66, x67, x68, x69, x70, x71, x72, x73, x74, x75, x76, x77, x78, x79, x80, x81, x82, x83, x84, x85, x86, x87, x88]))] (fun (r : Int32) (_ : Unit) => r = -1) (fun (_ : Unit) => []) := by
  refine XMi.start (by decide) (Nat.le_of_ble_eq_true rfl) ?_
  intro p e s m below meth c args A ls Q hat hQ
  obtain ⟨hx, hb, hr, hml, hown, hg, hlocks, hin, hK, hA, hP, hD, hS, hE, hl⟩ := hat
  have hown : s.vm.findClass RX12 = some m.cls := hown
  have hl : lv_has ls 5 [(0, .ref b0), (1, .int ka), (2, .int kb)] := hl
  refine lv_aload_n hx hb dX12_joined_0 rfl (lv_at hl 0 rfl) ?_
  refine lv_iload_n hx hb dX12_joined_1 rfl (lv_at hl 1 rfl) ?_
  refine x_callVi (q := (RX12, TX12, 89)) (ci := 12) (q0 := 0) (wr := []) (rest := []) ⟨hx, hb, hml, hown, hg, hl.1⟩ k_X12_506 (m_isMan l D cy b0 x0 x1 x2 x3 x4 x5 x6 x7 x8 x9 x10 x11 x12 x13 x14 x15 x16 x17 x18 x19 x20 x21 x22 x23 x24 x25 x26 x27 x28 x29 x30 x31 x32 x33 x34 x35 x36 x37 x38 x39 x40 x41 x42 x43 x44 x45 x46 x47 x48 ((.int 0)) ((.int 0)) ((.int 0)) x53 x54 x55 x56 x57 x58 x59 x60 x61 x62 x63 x64 x65 x66 x67 x68 x69 x70 x71 x72 x73 x74 x75 x76 x77 x78 x79 x80 x81 x82 x83 x84 x85 x86 x87 x88 ka) E0_blind hK hP hD hS hA [0] [] ⟨rfl, rfl, by decide, by decide, by decide⟩ rfl rfl (fun _ _ _ => trivial) dX12_joined_2 rfl rfl (Nat.le_of_ble_eq_true rfl) ⟨Nat.le_of_ble_eq_true rfl, Nat.le_of_ble_eq_true rfl⟩ ⟨Nat.le_of_ble_eq_true rfl, Nat.le_of_ble_eq_true rfl⟩ (fun r1 u1 H locs hw1 hP hD hS => ?_)
  have hP : va_P D vwCl [(b0, .inr (12, [x0, x1, x2, x3, x4, x5, x6, x7, x8, x9, x10, x11, x12, x13, x14, x15, x16, x17, x18, x19, x20, x21, x22, x23, x24, x25, x26, x27, x28, x29, x30, x31, x32, x33, x34, x35, x36, x37, x38, x39, x40, x41, x42, x43, x44, x45, x46, x47, x48, .int 0, .int 0, .int 0, .int 0, x53, x54, x55, x56, x57, x58, x59, x60, x61, x62, x63, x64, x65, x66, x67, x68, x69, x70, x71, x72, x73, x74, x75, x76, x77, x78, x79, x80, x81, x82, x83, x84, x85, x86, x87, x88]))] H := hP
  have hD : va_D A [(b0, .inr (12, [x0, x1, x2, x3, x4, x5, x6, x7, x8, x9, x10, x11, x12, x13, x14, x15, x16, x17, x18, x19, x20, x21, x22, x23, x24, x25, x26, x27, x28, x29, x30, x31, x32, x33, x34, x35, x36, x37, x38, x39, x40, x41, x42, x43, x44, x45, x46, x47, x48, .int 0, .int 0, .int 0, .int 0, x53, x54, x55, x56, x57, x58, x59, x60, x61, x62, x63, x64, x65, x66, x67, x68, x69, x70, x71, x72, x73, x74, x75, x76, x77, x78, x79, x80, x81, x82, x83, x84, x85, x86, x87, x88]))] := hD
  refine W.widen (k := 0) (n := 0) (Nat.le_of_ble_eq_true rfl) (Nat.le_of_ble_eq_true rfl) ?_
  have hw1 : r1 = 0 := hw1
  subst hw1
  refine lv_if_eq (tgt := 21) hx hb dX12_joined_5 (by decide) (fun _ => ?_) (fun h => absurd (by decide) h)
  refine lv_iconst (v := -1) hx hb dX12_joined_21 (by decide) ?_
  exact x_iret hQ hx hb hr hlocks hK hP hD hS dX12_joined_22 () (rfl) [] (by decide) rfl (Nat.le_of_ble_eq_true rfl) (Nat.le_of_ble_eq_true rfl)
theorem dX12_luck_0 : decode cX12_luck 0 = .ok (.aload_n 0, 1) := by decide +kernel
theorem dX12_luck_1 : decode cX12_luck 1 = .ok (.iload_n 1, 1) := by decide +kernel
theorem dX12_luck_2 : decode cX12_luck 2 = .ok (.invokevirtual 506, 3) := by decide +kernel
theorem dX12_luck_5 : decode cX12_luck 5 = .ok (.ifCond .ne 5, 3) := by decide +kernel
theorem dX12_luck_8 : decode cX12_luck 8 = .ok (.iconst (-1), 1) := by decide +kernel
theorem dX12_luck_9 : decode cX12_luck 9 = .ok (.ireturn, 1) := by decide +kernel
set_option maxHeartbeats 400000 in
set_option maxRecDepth 100000 in
theorem m_luck (l : Launch) (D : va_G) (cy : Nat → ClassId) (b0 : Nat) (x0 : Value) (x1 : Value) (x2 : Value) (x3 : Value) (x4 : Value) (x5 : Value) (x6 : Value) (x7 : Value) (x8 : Value) (x9 : Value) (x10 : Value) (x11 : Value) (x12 : Value) (x13 : Value) (x14 : Value) (x15 : Value) (x16 : Value) (x17 : Value) (x18 : Value) (x19 : Value) (x20 : Value) (x21 : Value) (x22 : Value) (x23 : Value) (x24 : Value) (x25 : Value) (x26 : Value) (x27 : Value) (x28 : Value) (x29 : Value) (x30 : Value) (x31 : Value) (x32 : Value) (x33 : Value) (x34 : Value) (x35 : Value) (x36 : Value) (x37 : Value) (x38 : Value) (x39 : Value) (x40 : Value) (x41 : Value) (x42 : Value) (x43 : Value) (x44 : Value) (x45 : Value) (x46 : Value) (x47 : Value) (x48 : Value) (x53 : Value) (x54 : Value) (x55 : Value) (x56 : Value) (x57 : Value) (x58 : Value) (x59 : Value) (x60 : Value) (x61 : Value) (x62 : Value) (x63 : Value) (x64 : Value) (x65 : Value) (x66 : Value) (x67 : Value) (x68 : Value) (x69 : Value) (x70 : Value) (x71 : Value) (x72 : Value) (x73 : Value) (x74 : Value) (x75 : Value) (x76 : Value) (x77 : Value) (x78 : Value) (x79 : Value) (x80 : Value) (x81 : Value) (x82 : Value) (x83 : Value) (x84 : Value) (x85 : Value) (x86 : Value) (x87 : Value) (x88 : Value) (ka : Int32)  : XMi l D (tyL cy) E0 yX12_luck cX12_luck 4 (some .int) (rmk 3 0 0) [.ref b0, .int ka] [(b0, .inr (12, [x0, x1, x2, x3, x4, x5, x6, x7, x8, x9, x10, x11, x12, x13, x14, x15, x16, x17, x18, x19, x20, x21, x22, x23, x24, x25, x26, x27, x28, x29, x30, x31, x32, x33, x34, x35, x36, x37, x38, x39, x40, x41, x42, x43, x44, x45, x46, x47, x48, .int 0, .int 0, .int 0, .int 0, x53, x54, x55, x56, x57, x58, x59, x60, x61, x62, x63, x64, x65, x66, x67, x68, x69, x70, x71, x72, x73, x74, x75, x76, x77, x78, x79, x80, x81, x82, x83, x84, x85, x86, x87, x88]))] (fun (r : Int32) (_ : Unit) => r = -1) (fun (_ : Unit) => []) := by
  refine XMi.start (by decide) (Nat.le_of_ble_eq_true rfl) ?_
  intro p e s m below meth c args A ls Q hat hQ
  obtain ⟨hx, hb, hr, hml, hown, hg, hlocks, hin, hK, hA, hP, hD, hS, hE, hl⟩ := hat
  have hown : s.vm.findClass RX12 = some m.cls := hown
  have hl : lv_has ls 4 [(0, .ref b0), (1, .int ka)] := hl
  refine lv_aload_n hx hb dX12_luck_0 rfl (lv_at hl 0 rfl) ?_
  refine lv_iload_n hx hb dX12_luck_1 rfl (lv_at hl 1 rfl) ?_
  refine x_callVi (q := (RX12, TX12, 89)) (ci := 12) (q0 := 0) (wr := []) (rest := []) ⟨hx, hb, hml, hown, hg, hl.1⟩ k_X12_506 (m_isMan l D cy b0 x0 x1 x2 x3 x4 x5 x6 x7 x8 x9 x10 x11 x12 x13 x14 x15 x16 x17 x18 x19 x20 x21 x22 x23 x24 x25 x26 x27 x28 x29 x30 x31 x32 x33 x34 x35 x36 x37 x38 x39 x40 x41 x42 x43 x44 x45 x46 x47 x48 ((.int 0)) ((.int 0)) ((.int 0)) x53 x54 x55 x56 x57 x58 x59 x60 x61 x62 x63 x64 x65 x66 x67 x68 x69 x70 x71 x72 x73 x74 x75 x76 x77 x78 x79 x80 x81 x82 x83 x84 x85 x86 x87 x88 ka) E0_blind hK hP hD hS hA [0] [] ⟨rfl, rfl, by decide, by decide, by decide⟩ rfl rfl (fun _ _ _ => trivial) dX12_luck_2 rfl rfl (Nat.le_of_ble_eq_true rfl) ⟨Nat.le_of_ble_eq_true rfl, Nat.le_of_ble_eq_true rfl⟩ ⟨Nat.le_of_ble_eq_true rfl, Nat.le_of_ble_eq_true rfl⟩ (fun r1 u1 H locs hw1 hP hD hS => ?_)
  have hP : va_P D vwCl [(b0, .inr (12, [x0, x1, x2, x3, x4, x5, x6, x7, x8, x9, x10, x11, x12, x13, x14, x15, x16, x17, x18, x19, x20, x21, x22, x23, x24, x25, x26, x27, x28, x29, x30, x31, x32, x33, x34, x35, x36, x37, x38, x39, x40, x41, x42, x43, x44, x45, x46, x47, x48, .int 0, .int 0, .int 0, .int 0, x53, x54, x55, x56, x57, x58, x59, x60, x61, x62, x63, x64, x65, x66, x67, x68, x69, x70, x71, x72, x73, x74, x75, x76, x77, x78, x79, x80, x81, x82, x83, x84, x85, x86, x87, x88]))] H := hP
  have hD : va_D A [(b0, .inr (12, [x0, x1, x2, x3, x4, x5, x6, x7, x8, x9, x10, x11, x12, x13, x14, x15, x16, x17, x18, x19, x20, x21, x22, x23, x24, x25, x26, x27, x28, x29, x30, x31, x32, x33, x34, x35, x36, x37, x38, x39, x40, x41, x42, x43, x44, x45, x46, x47, x48, .int 0, .int 0, .int 0, .int 0, x53, x54, x55, x56, x57, x58, x59, x60, x61, x62, x63, x64, x65, x66, x67, x68, x69, x70, x71, x72, x73, x74, x75, x76, x77, x78, x79, x80, x81, x82, x83, x84, x85, x86, x87, x88]))] := hD
  refine W.widen (k := 0) (n := 0) (Nat.le_of_ble_eq_true rfl) (Nat.le_of_ble_eq_true rfl) ?_
  have hw1 : r1 = 0 := hw1
  subst hw1
  refine lv_if_ne (tgt := 10) hx hb dX12_luck_5 (by decide) (fun h => absurd (by decide) h) (fun _ => ?_)
  refine lv_iconst (v := -1) hx hb dX12_luck_8 (by decide) ?_
  exact x_iret hQ hx hb hr hlocks hK hP hD hS dX12_luck_9 () (rfl) [] (by decide) rfl (Nat.le_of_ble_eq_true rfl) (Nat.le_of_ble_eq_true rfl)
theorem dX12_winds_0 : decode cX12_winds 0 = .ok (.aload_n 0, 1) := by decide +kernel
theorem dX12_winds_1 : decode cX12_winds 1 = .ok (.iload_n 1, 1) := by decide +kernel
theorem dX12_winds_2 : decode cX12_winds 2 = .ok (.invokevirtual 506, 3) := by decide +kernel
theorem dX12_winds_5 : decode cX12_winds 5 = .ok (.ifCond .ne 5, 3) := by decide +kernel
theorem dX12_winds_8 : decode cX12_winds 8 = .ok (.iconst (-1), 1) := by decide +kernel
theorem dX12_winds_9 : decode cX12_winds 9 = .ok (.ireturn, 1) := by decide +kernel
set_option maxHeartbeats 400000 in
set_option maxRecDepth 100000 in
theorem m_winds (l : Launch) (D : va_G) (cy : Nat → ClassId) (b0 : Nat) (x0 : Value) (x1 : Value) (x2 : Value) (x3 : Value) (x4 : Value) (x5 : Value) (x6 : Value) (x7 : Value) (x8 : Value) (x9 : Value) (x10 : Value) (x11 : Value) (x12 : Value) (x13 : Value) (x14 : Value) (x15 : Value) (x16 : Value) (x17 : Value) (x18 : Value) (x19 : Value) (x20 : Value) (x21 : Value) (x22 : Value) (x23 : Value) (x24 : Value) (x25 : Value) (x26 : Value) (x27 : Value) (x28 : Value) (x29 : Value) (x30 : Value) (x31 : Value) (x32 : Value) (x33 : Value) (x34 : Value) (x35 : Value) (x36 : Value) (x37 : Value) (x38 : Value) (x39 : Value) (x40 : Value) (x41 : Value) (x42 : Value) (x43 : Value) (x44 : Value) (x45 : Value) (x46 : Value) (x47 : Value) (x48 : Value) (x53 : Value) (x54 : Value) (x55 : Value) (x56 : Value) (x57 : Value) (x58 : Value) (x59 : Value) (x60 : Value) (x61 : Value) (x62 : Value) (x63 : Value) (x64 : Value) (x65 : Value) (x66 : Value) (x67 : Value) (x68 : Value) (x69 : Value) (x70 : Value) (x71 : Value) (x72 : Value) (x73 : Value) (x74 : Value) (x75 : Value) (x76 : Value) (x77 : Value) (x78 : Value) (x79 : Value) (x80 : Value) (x81 : Value) (x82 : Value) (x83 : Value) (x84 : Value) (x85 : Value) (x86 : Value) (x87 : Value) (x88 : Value) (ka : Int32)  : XMi l D (tyL cy) E0 yX12_winds cX12_winds 4 (some .int) (rmk 3 0 0) [.ref b0, .int ka] [(b0, .inr (12, [x0, x1, x2, x3, x4, x5, x6, x7, x8, x9, x10, x11, x12, x13, x14, x15, x16, x17, x18, x19, x20, x21, x22, x23, x24, x25, x26, x27, x28, x29, x30, x31, x32, x33, x34, x35, x36, x37, x38, x39, x40, x41, x42, x43, x44, x45, x46, x47, x48, .int 0, .int 0, .int 0, .int 0, x53, x54, x55, x56, x57, x58, x59, x60, x61, x62, x63, x64, x65, x66, x67, x68, x69, x70, x71, x72, x73, x74, x75, x76, x77, x78, x79, x80, x81, x82, x83, x84, x85, x86, x87, x88]))] (fun (r : Int32) (_ : Unit) => r = -1) (fun (_ : Unit) => []) := by
  refine XMi.start (by decide) (Nat.le_of_ble_eq_true rfl) ?_
  intro p e s m below meth c args A ls Q hat hQ
  obtain ⟨hx, hb, hr, hml, hown, hg, hlocks, hin, hK, hA, hP, hD, hS, hE, hl⟩ := hat
  have hown : s.vm.findClass RX12 = some m.cls := hown
  have hl : lv_has ls 4 [(0, .ref b0), (1, .int ka)] := hl
  refine lv_aload_n hx hb dX12_winds_0 rfl (lv_at hl 0 rfl) ?_
  refine lv_iload_n hx hb dX12_winds_1 rfl (lv_at hl 1 rfl) ?_
  refine x_callVi (q := (RX12, TX12, 89)) (ci := 12) (q0 := 0) (wr := []) (rest := []) ⟨hx, hb, hml, hown, hg, hl.1⟩ k_X12_506 (m_isMan l D cy b0 x0 x1 x2 x3 x4 x5 x6 x7 x8 x9 x10 x11 x12 x13 x14 x15 x16 x17 x18 x19 x20 x21 x22 x23 x24 x25 x26 x27 x28 x29 x30 x31 x32 x33 x34 x35 x36 x37 x38 x39 x40 x41 x42 x43 x44 x45 x46 x47 x48 ((.int 0)) ((.int 0)) ((.int 0)) x53 x54 x55 x56 x57 x58 x59 x60 x61 x62 x63 x64 x65 x66 x67 x68 x69 x70 x71 x72 x73 x74 x75 x76 x77 x78 x79 x80 x81 x82 x83 x84 x85 x86 x87 x88 ka) E0_blind hK hP hD hS hA [0] [] ⟨rfl, rfl, by decide, by decide, by decide⟩ rfl rfl (fun _ _ _ => trivial) dX12_winds_2 rfl rfl (Nat.le_of_ble_eq_true rfl) ⟨Nat.le_of_ble_eq_true rfl, Nat.le_of_ble_eq_true rfl⟩ ⟨Nat.le_of_ble_eq_true rfl, Nat.le_of_ble_eq_true rfl⟩ (fun r1 u1 H locs hw1 hP hD hS => ?_)
  have hP : va_P D vwCl [(b0, .inr (12, [x0, x1, x2, x3, x4, x5, x6, x7, x8, x9, x10, x11, x12, x13, x14, x15, x16, x17, x18, x19, x20, x21, x22, x23, x24, x25, x26, x27, x28, x29, x30, x31, x32, x33, x34, x35, x36, x37, x38, x39, x40, x41, x42, x43, x44, x45, x46, x47, x48, .int 0, .int 0, .int 0, .int 0, x53, x54, x55, x56, x57, x58, x59, x60, x61, x62, x63, x64, x65, x66, x67, x68, x69, x70, x71, x72, x73, x74, x75, x76, x77, x78, x79, x80, x81, x82, x83, x84, x85, x86, x87, x88]))] H := hP
  have hD : va_D A [(b0, .inr (12, [x0, x1, x2, x3, x4, x5, x6, x7, x8, x9, x10, x11, x12, x13, x14, x15, x16, x17, x18, x19, x20, x21, x22, x23, x24, x25, x26, x27, x28, x29, x30, x31, x32, x33, x34, x35, x36, x37, x38, x39, x40, x41, x42, x43, x44, x45, x46, x47, x48, .int 0, .int 0, .int 0, .int 0, x53, x54, x55, x56, x57, x58, x59, x60, x61, x62, x63, x64, x65, x66, x67, x68, x69, x70, x71, x72, x73, x74, x75, x76, x77, x78, x79, x80, x81, x82, x83, x84, x85, x86, x87, x88]))] := hD
  refine W.widen (k := 0) (n := 0) (Nat.le_of_ble_eq_true rfl) (Nat.le_of_ble_eq_true rfl) ?_
  have hw1 : r1 = 0 := hw1
  subst hw1
  refine lv_if_ne (tgt := 10) hx hb dX12_winds_5 (by decide) (fun h => absurd (by decide) h) (fun _ => ?_)
  refine lv_iconst (v := -1) hx hb dX12_winds_8 (by decide) ?_
  exact x_iret hQ hx hb hr hlocks hK hP hD hS dX12_winds_9 () (rfl) [] (by decide) rfl (Nat.le_of_ble_eq_true rfl) (Nat.le_of_ble_eq_true rfl)
theorem dX12_more_0 : decode cX12_more 0 = .ok (.aload_n 0, 1) := by decide +kernel
theorem dX12_more_1 : decode cX12_more 1 = .ok (.iload_n 1, 1) := by decide +kernel
theorem dX12_more_2 : decode cX12_more 2 = .ok (.invokevirtual 506, 3) := by decide +kernel
theorem dX12_more_5 : decode cX12_more 5 = .ok (.ifCond .ne 5, 3) := by decide +kernel
theorem dX12_more_8 : decode cX12_more 8 = .ok (.iconst (-1), 1) := by decide +kernel
theorem dX12_more_9 : decode cX12_more 9 = .ok (.ireturn, 1) := by decide +kernel
set_option maxHeartbeats 400000 in
set_option maxRecDepth 100000 in
theorem m_more (l : Launch) (D : va_G) (cy : Nat → ClassId) (b0 : Nat) (x0 : Value) (x1 : Value) (x2 : Value) (x3 : Value) (x4 : Value) (x5 : Value) (x6 : Value) (x7 : Value) (x8 : Value) (x9 : Value) (x10 : Value) (x11 : Value) (x12 : Value) (x13 : Value) (x14 : Value) (x15 : Value) (x16 : Value) (x17 : Value) (x18 : Value) (x19 : Value) (x20 : Value) (x21 : Value) (x22 : Value) (x23 : Value) (x24 : Value) (x25 : Value) (x26 : Value) (x27 : Value) (x28 : Value) (x29 : Value) (x30 : Value) (x31 : Value) (x32 : Value) (x33 : Value) (x34 : Value) (x35 : Value) (x36 : Value) (x37 : Value) (x38 : Value) (x39 : Value) (x40 : Value) (x41 : Value) (x42 : Value) (x43 : Value) (x44 : Value) (x45 : Value) (x46 : Value) (x47 : Value) (x48 : Value) (x53 : Value) (x54 : Value) (x55 : Value) (x56 : Value) (x57 : Value) (x58 : Value) (x59 : Value) (x60 : Value) (x61 : Value) (x62 : Value) (x63 : Value) (x64 : Value) (x65 : Value) (x66 : Value) (x67 : Value) (x68 : Value) (x69 : Value) (x70 : Value) (x71 : Value) (x72 : Value) (x73 : Value) (x74 : Value) (x75 : Value) (x76 : Value) (x77 : Value) (x78 : Value) (x79 : Value) (x80 : Value) (x81 : Value) (x82 : Value) (x83 : Value) (x84 : Value) (x85 : Value) (x86 : Value) (x87 : Value) (x88 : Value) (ka : Int32)  : XMi l D (tyL cy) E0 yX12_more cX12_more 4 (some .int) (rmk 3 0 0) [.ref b0, .int ka] [(b0, .inr (12, [x0, x1, x2, x3, x4, x5, x6, x7, x8, x9, x10, x11, x12, x13, x14, x15, x16, x17, x18, x19, x20, x21, x22, x23, x24, x25, x26, x27, x28, x29, x30, x31, x32, x33, x34, x35, x36, x37, x38, x39, x40, x41, x42, x43, x44, x45, x46, x47, x48, .int 0, .int 0, .int 0, .int 0, x53, x54, x55, x56, x57, x58, x59, x60, x61, x62, x63, x64, x65, x66, x67, x68, x69, x70, x71, x72, x73, x74, x75, x76, x77, x78, x79, x80, x81, x82, x83, x84, x85, x86, x87, x88]))] (fun (r : Int32) (_ : Unit) => r = -1) (fun (_ : Unit) => []) := by
  refine XMi.start (by decide) (Nat.le_of_ble_eq_true rfl) ?_
  intro p e s m below meth c args A ls Q hat hQ
  obtain ⟨hx, hb, hr, hml, hown, hg, hlocks, hin, hK, hA, hP, hD, hS, hE, hl⟩ := hat
  have hown : s.vm.findClass RX12 = some m.cls := hown
  have hl : lv_has ls 4 [(0, .ref b0), (1, .int ka)] := hl
  refine lv_aload_n hx hb dX12_more_0 rfl (lv_at hl 0 rfl) ?_
  refine lv_iload_n hx hb dX12_more_1 rfl (lv_at hl 1 rfl) ?_
  refine x_callVi (q := (RX12, TX12, 89)) (ci := 12) (q0 := 0) (wr := []) (rest := []) ⟨hx, hb, hml, hown, hg, hl.1⟩ k_X12_506 (m_isMan l D cy b0 x0 x1 x2 x3 x4 x5 x6 x7 x8 x9 x10 x11 x12 x13 x14 x15 x16 x17 x18 x19 x20 x21 x22 x23 x24 x25 x26 x27 x28 x29 x30 x31 x32 x33 x34 x35 x36 x37 x38 x39 x40 x41 x42 x43 x44 x45 x46 x47 x48 ((.int 0)) ((.int 0)) ((.int 0)) x53 x54 x55 x56 x57 x58 x59 x60 x61 x62 x63 x64 x65 x66 x67 x68 x69 x70 x71 x72 x73 x74 x75 x76 x77 x78 x79 x80 x81 x82 x83 x84 x85 x86 x87 x88 ka) E0_blind hK hP hD hS hA [0] [] ⟨rfl, rfl, by decide, by decide, by decide⟩ rfl rfl (fun _ _ _ => trivial) dX12_more_2 rfl rfl (Nat.le_of_ble_eq_true rfl) ⟨Nat.le_of_ble_eq_true rfl, Nat.le_of_ble_eq_true rfl⟩ ⟨Nat.le_of_ble_eq_true rfl, Nat.le_of_ble_eq_true rfl⟩ (fun r1 u1 H locs hw1 hP hD hS => ?_)
  have hP : va_P D vwCl [(b0, .inr (12, [x0, x1, x2, x3, x4, x5, x6, x7, x8, x9, x10, x11, x12, x13, x14, x15, x16, x17, x18, x19, x20, x21, x22, x23, x24, x25, x26, x27, x28, x29, x30, x31, x32, x33, x34, x35, x36, x37, x38, x39, x40, x41, x42, x43, x44, x45, x46, x47, x48, .int 0, .int 0, .int 0, .int 0, x53, x54, x55, x56, x57, x58, x59, x60, x61, x62, x63, x64, x65, x66, x67, x68, x69, x70, x71, x72, x73, x74, x75, x76, x77, x78, x79, x80, x81, x82, x83, x84, x85, x86, x87, x88]))] H := hP
  have hD : va_D A [(b0, .inr (12, [x0, x1, x2, x3, x4, x5, x6, x7, x8, x9, x10, x11, x12, x13, x14, x15, x16, x17, x18, x19, x20, x21, x22, x23, x24, x25, x26, x27, x28, x29, x30, x31, x32, x33, x34, x35, x36, x37, x38, x39, x40, x41, x42, x43, x44, x45, x46, x47, x48, .int 0, .int 0, .int 0, .int 0, x53, x54, x55, x56, x57, x58, x59, x60, x61, x62, x63, x64, x65, x66, x67, x68, x69, x70, x71, x72, x73, x74, x75, x76, x77, x78, x79, x80, x81, x82, x83, x84, x85, x86, x87, x88]))] := hD
  refine W.widen (k := 0) (n := 0) (Nat.le_of_ble_eq_true rfl) (Nat.le_of_ble_eq_true rfl) ?_
  have hw1 : r1 = 0 := hw1
  subst hw1
  refine lv_if_ne (tgt := 10) hx hb dX12_more_5 (by decide) (fun h => absurd (by decide) h) (fun _ => ?_)
  refine lv_iconst (v := -1) hx hb dX12_more_8 (by decide) ?_
  exact x_iret hQ hx hb hr hlocks hK hP hD hS dX12_more_9 () (rfl) [] (by decide) rfl (Nat.le_of_ble_eq_true rfl) (Nat.le_of_ble_eq_true rfl)
theorem dX12_way_0 : decode cX12_way 0 = .ok (.aload_n 0, 1) := by decide +kernel
theorem dX12_way_1 : decode cX12_way 1 = .ok (.iconst 0, 1) := by decide +kernel
theorem dX12_way_2 : decode cX12_way 2 = .ok (.putfield 433, 3) := by decide +kernel
theorem dX12_way_5 : decode cX12_way 5 = .ok (.aload_n 0, 1) := by decide +kernel
theorem dX12_way_6 : decode cX12_way 6 = .ok (.iload_n 1, 1) := by decide +kernel
theorem dX12_way_7 : decode cX12_way 7 = .ok (.invokevirtual 509, 3) := by decide +kernel
theorem dX12_way_10 : decode cX12_way 10 = .ok (.ifCond .ne 5, 3) := by decide +kernel
theorem dX12_way_13 : decode cX12_way 13 = .ok (.iconst (-1), 1) := by decide +kernel
theorem dX12_way_14 : decode cX12_way 14 = .ok (.ireturn, 1) := by decide +kernel
set_option maxHeartbeats 400000 in
set_option maxRecDepth 100000 in
theorem m_way (l : Launch) (D : va_G) (cy : Nat → ClassId) (b0 : Nat) (x0 : Value) (x1 : Value) (x2 : Value) (x3 : Value) (x4 : Value) (x5 : Value) (x6 : Value) (x7 : Value) (x8 : Value) (x9 : Value) (x10 : Value) (x11 : Value) (x12 : Value) (x13 : Value) (x14 : Value) (x15 : Value) (x16 : Value) (x17 : Value) (x18 : Value) (x19 : Value) (x20 : Value) (x21 : Value) (x22 : Value) (x23 : Value) (x24 : Value) (x25 : Value) (x26 : Value) (x27 : Value) (x28 : Value) (x29 : Value) (x30 : Value) (x31 : Value) (x32 : Value) (x33 : Value) (x34 : Value) (x35 : Value) (x36 : Value) (x37 : Value) (x38 : Value) (x39 : Value) (x40 : Value) (x41 : Value) (x42 : Value) (x43 : Value) (x44 : Value) (x45 : Value) (x46 : Value) (x47 : Value) (x48 : Value) (x53 : Value) (x54 : Value) (x55 : Value) (x56 : Value) (x57 : Value) (x58 : Value) (x59 : Value) (x60 : Value) (x61 : Value) (x62 : Value) (x63 : Value) (x64 : Value) (x65 : Value) (x66 : Value) (x67 : Value) (x68 : Value) (x69 : Value) (x70 : Value) (x71 : Value) (x72 : Value) (x73 : Value) (x74 : Value) (x75 : Value) (x76 : Value) (x77 : Value) (x78 : Value) (x79 : Value) (x80 : Value) (x81 : Value) (x82 : Value) (x83 : Value) (x84 : Value) (x85 : Value) (x86 : Value) (x87 : Value) (x88 : Value) (ka : Int32)  : XMi l D (tyL cy) E0 yX12_way cX12_way 6 (some .int) (rmk 3 0 0) [.ref b0, .int ka] [(b0, .inr (12, [x0, x1, x2, x3, x4, x5, x6, x7, x8, x9, x10, x11, x12, x13, x14, x15, x16, x17, x18, x19, x20, x21, x22, x23, x24, x25, x26, x27, x28, x29, x30, x31, x32, x33, x34, x35, x36, x37, x38, x39, x40, x41, x42, x43, x44, x45, x46, x47, x48, .int 0, .int 0, .int 0, .int 0, x53, x54, x55, x56, x57, x58, x59, x60, x61, x62, x63, x64, x65, x66, x67, x68, x69, x70, x71, x72, x73, x74, x75, x76, x77, x78, x79, x80, x81, x82, x83, x84, x85, x86, x87, x88]))] (fun (r : Int32) (_ : Unit) => r = -1) (fun (_ : Unit) => []) := by
  refine XMi.start (by decide) (Nat.le_of_ble_eq_true rfl) ?_
  intro p e s m below meth c args A ls Q hat hQ
  obtain ⟨hx, hb, hr, hml, hown, hg, hlocks, hin, hK, hA, hP, hD, hS, hE, hl⟩ := hat
  have hown : s.vm.findClass RX12 = some m.cls := hown
  have hl : lv_has ls 6 [(0, .ref b0), (1, .int ka)] := hl
  refine lv_aload_n hx hb dX12_way_0 rfl (lv_at hl 0 rfl) ?_
  refine lv_iconst (v := 0) hx hb dX12_way_1 (by decide) ?_
  refine va_put (D := D) (ci := 12) (v := .int 0) (ty := .int) (C := RX12) (T := TX12) (N := 89) hx hb hg i_X12 tyX12 tyX12_ok nmX12 hown hK hP hD hS 0 rfl rfl 71 (by decide) (hg _ m_1484) (fun _ h9 => h9) rfl (by decide +kernel) rfl rfl (Nat.le_of_ble_eq_true rfl) dX12_way_2 (fun H locs hP hD hS => ?_)
  have hP : va_P D vwCl [(b0, .inr (12, [x0, x1, x2, x3, x4, x5, x6, x7, x8, x9, x10, x11, x12, x13, x14, x15, x16, x17, x18, x19, x20, x21, x22, x23, x24, x25, x26, x27, x28, x29, x30, x31, x32, x33, x34, x35, x36, x37, x38, x39, x40, x41, x42, x43, x44, x45, x46, x47, x48, .int 0, .int 0, .int 0, .int 0, x53, x54, x55, x56, x57, x58, x59, x60, x61, x62, x63, x64, x65, x66, x67, x68, x69, x70, .int 0, x72, x73, x74, x75, x76, x77, x78, x79, x80, x81, x82, x83, x84, x85, x86, x87, x88]))] H := hP
  have hD : va_D A [(b0, .inr (12, [x0, x1, x2, x3, x4, x5, x6, x7, x8, x9, x10, x11, x12, x13, x14, x15, x16, x17, x18, x19, x20, x21, x22, x23, x24, x25, x26, x27, x28, x29, x30, x31, x32, x33, x34, x35, x36, x37, x38, x39, x40, x41, x42, x43, x44, x45, x46, x47, x48, .int 0, .int 0, .int 0, .int 0, x53, x54, x55, x56, x57, x58, x59, x60, x61, x62, x63, x64, x65, x66, x67, x68, x69, x70, .int 0, x72, x73, x74, x75, x76, x77, x78, x79, x80, x81, x82, x83, x84, x85, x86, x87, x88]))] := hD
  refine lv_aload_n hx hb dX12_way_5 rfl (lv_at hl 0 rfl) ?_
  refine lv_iload_n hx hb dX12_way_6 rfl (lv_at hl 1 rfl) ?_
  refine x_callVi (q := (RX12, TX12, 89)) (ci := 12) (q0 := 0) (wr := []) (rest := []) ⟨hx, hb, hml, hown, hg, hl.1⟩ k_X12_509 (m_isState l D cy b0 x0 x1 x2 x3 x4 x5 x6 x7 x8 x9 x10 x11 x12 x13 x14 x15 x16 x17 x18 x19 x20 x21 x22 x23 x24 x25 x26 x27 x28 x29 x30 x31 x32 x33 x34 x35 x36 x37 x38 x39 x40 x41 x42 x43 x44 x45 x46 x47 x48 ((.int 0)) ((.int 0)) ((.int 0)) x53 x54 x55 x56 x57 x58 x59 x60 x61 x62 x63 x64 x65 x66 x67 x68 x69 x70 ((.int 0)) x72 x73 x74 x75 x76 x77 x78 x79 x80 x81 x82 x83 x84 x85 x86 x87 x88 ka) E0_blind hK hP hD hS hA [0] [] ⟨rfl, rfl, by decide, by decide, by decide⟩ rfl rfl (fun _ _ _ => trivial) dX12_way_7 rfl rfl (Nat.le_of_ble_eq_true rfl) ⟨Nat.le_of_ble_eq_true rfl, Nat.le_of_ble_eq_true rfl⟩ ⟨Nat.le_of_ble_eq_true rfl, Nat.le_of_ble_eq_true rfl⟩ (fun r1 u1 H locs hw1 hP hD hS => ?_)
  have hP : va_P D vwCl [(b0, .inr (12, [x0, x1, x2, x3, x4, x5, x6, x7, x8, x9, x10, x11, x12, x13, x14, x15, x16, x17, x18, x19, x20, x21, x22, x23, x24, x25, x26, x27, x28, x29, x30, x31, x32, x33, x34, x35, x36, x37, x38, x39, x40, x41, x42, x43, x44, x45, x46, x47, x48, .int 0, .int 0, .int 0, .int 0, x53, x54, x55, x56, x57, x58, x59, x60, x61, x62, x63, x64, x65, x66, x67, x68, x69, x70, .int 0, x72, x73, x74, x75, x76, x77, x78, x79, x80, x81, x82, x83, x84, x85, x86, x87, x88]))] H := hP
  have hD : va_D A [(b0, .inr (12, [x0, x1, x2, x3, x4, x5, x6, x7, x8, x9, x10, x11, x12, x13, x14, x15, x16, x17, x18, x19, x20, x21, x22, x23, x24, x25, x26, x27, x28, x29, x30, x31, x32, x33, x34, x35, x36, x37, x38, x39, x40, x41, x42, x43, x44, x45, x46, x47, x48, .int 0, .int 0, .int 0, .int 0, x53, x54, x55, x56, x57, x58, x59, x60, x61, x62, x63, x64, x65, x66, x67, x68, x69, x70, .int 0, x72, x73, x74, x75, x76, x77, x78, x79, x80, x81, x82, x83, x84, x85, x86, x87, x88]))] := hD
  refine W.widen (k := 0) (n := 0) (Nat.le_of_ble_eq_true rfl) (Nat.le_of_ble_eq_true rfl) ?_
  have hw1 : r1 = 0 := hw1
  subst hw1
  refine lv_if_ne (tgt := 15) hx hb dX12_way_10 (by decide) (fun h => absurd (by decide) h) (fun _ => ?_)
  refine lv_iconst (v := -1) hx hb dX12_way_13 (by decide) ?_
  exact x_iret hQ hx hb hr hlocks hK hP hD hS dX12_way_14 () (rfl) [] (by decide) rfl (Nat.le_of_ble_eq_true rfl) (Nat.le_of_ble_eq_true rfl)
theorem dX12_sound_0 : decode cX12_sound 0 = .ok (.aload_n 0, 1) := by decide +kernel
theorem dX12_sound_1 : decode cX12_sound 1 = .ok (.iload_n 1, 1) := by decide +kernel
theorem dX12_sound_2 : decode cX12_sound 2 = .ok (.invokevirtual 503, 3) := by decide +kernel
theorem dX12_sound_5 : decode cX12_sound 5 = .ok (.ifCond .eq 31, 3) := by decide +kernel
theorem dX12_sound_36 : decode cX12_sound 36 = .ok (.iconst (-1), 1) := by decide +kernel
theorem dX12_sound_37 : decode cX12_sound 37 = .ok (.ireturn, 1) := by decide +kernel
set_option maxHeartbeats 400000 in
set_option maxRecDepth 100000 in
theorem m_sound (l : Launch) (D : va_G) (cy : Nat → ClassId) (b0 : Nat) (x0 : Value) (x1 : Value) (x2 : Value) (x3 : Value) (x4 : Value) (x5 : Value) (x6 : Value) (x7 : Value) (x8 : Value) (x9 : Value) (x10 : Value) (x11 : Value) (x12 : Value) (x13 : Value) (x14 : Value) (x15 : Value) (x16 : Value) (x17 : Value) (x18 : Value) (x19 : Value) (x20 : Value) (x21 : Value) (x22 : Value) (x23 : Value) (x24 : Value) (x25 : Value) (x26 : Value) (x27 : Value) (x28 : Value) (x29 : Value) (x30 : Value) (x31 : Value) (x32 : Value) (x33 : Value) (x34 : Value) (x35 : Value) (x36 : Value) (x37 : Value) (x38 : Value) (x39 : Value) (x40 : Value) (x41 : Value) (x42 : Value) (x43 : Value) (x44 : Value) (x45 : Value) (x46 : Value) (x47 : Value) (x48 : Value) (x53 : Value) (x54 : Value) (x55 : Value) (x56 : Value) (x57 : Value) (x58 : Value) (x59 : Value) (x60 : Value) (x61 : Value) (x62 : Value) (x63 : Value) (x64 : Value) (x65 : Value) (x66 : Value) (x67 : Value) (x68 : Value) (x69 : Value) (x70 : Value) (x71 : Value) (x72 : Value) (x73 : Value) (x74 : Value) (x75 : Value) (x76 : Value) (x77 : Value) (x78 : Value) (x79 : Value) (x80 : Value) (x81 : Value) (x82 : Value) (x83 : Value) (x84 : Value) (x85 : Value) (x86 : Value) (x87 : Value) (x88 : Value) (ka : Int32) (kb : Int32) (kc : Int32)  : XMi l D (tyL cy) E0 yX12_sound cX12_sound 4 (some .int) (rmk 3 0 0) [.ref b0, .int ka, .int kb, .int kc] [(b0, .inr (12, [x0, x1, x2, x3, x4, x5, x6, x7, x8, x9, x10, x11, x12, x13, x14, x15, x16, x17, x18, x19, x20, x21, x22, x23, x24, x25, x26, x27, x28, x29, x30, x31, x32, x33, x34, x35, x36, x37, x38, x39, x40, x41, x42, x43, x44, x45, x46, x47, x48, .int 0, .int 0, .int 0, .int 0, x53, x54, x55, x56, x57, x58, x59, x60, x61, x62, x63, x64, x65, x66, x67, x68, x69, x70, x71, x72, x73, x74, x75, x76, x77, x78, x79, x80, x81, x82, x83, x84, x85, x86, x87, x88]))] (fun (r : Int32) (_ : Unit) => r = -1) (fun (_ : Unit) => []) := by
  refine XMi.start (by decide) (Nat.le_of_ble_eq_true rfl) ?_
  intro p e s m below meth c args A ls Q hat hQ
  obtain ⟨hx, hb, hr, hml, hown, hg, hlocks, hin, hK, hA, hP, hD, hS, hE, hl⟩ := hat
  have hown : s.vm.findClass RX12 = some m.cls := hown
  have hl : lv_has ls 4 [(0, .ref b0), (1, .int ka), (2, .int kb), (3, .int kc)] := hl
  refine lv_aload_n hx hb dX12_sound_0 rfl (lv_at hl 0 rfl) ?_
  refine lv_iload_n hx hb dX12_sound_1 rfl (lv_at hl 1 rfl) ?_
  refine x_callVi (q := (RX12, TX12, 89)) (ci := 12) (q0 := 0) (wr := []) (rest := []) ⟨hx, hb, hml, hown, hg, hl.1⟩ k_X12_503 (m_isCliff l D cy b0 x0 x1 x2 x3 x4 x5 x6 x7 x8 x9 x10 x11 x12 x13 x14 x15 x16 x17 x18 x19 x20 x21 x22 x23 x24 x25 x26 x27 x28 x29 x30 x31 x32 x33 x34 x35 x36 x37 x38 x39 x40 x41 x42 x43 x44 x45 x46 x47 x48 ((.int 0)) ((.int 0)) ((.int 0)) x53 x54 x55 x56 x57 x58 x59 x60 x61 x62 x63 x64 x65 x66 x67 x68 x69 x70 x71 x72 x73 x74 x75 x76 x77 x78 x79 x80 x81 x82 x83 x84 x85 x86 x87 x88 ka) E0_blind hK hP hD hS hA [0] [] ⟨rfl, rfl, by decide, by decide, by decide⟩ rfl rfl (fun _ _ _ => trivial) dX12_sound_2 rfl rfl (Nat.le_of_ble_eq_true rfl) ⟨Nat.le_of_ble_eq_true rfl, Nat.le_of_ble_eq_true rfl⟩ ⟨Nat.le_of_ble_eq_true rfl, Nat.le_of_ble_eq_true rfl⟩ (fun r1 u1 H locs hw1 hP hD hS => ?_)
  have hP : va_P D vwCl [(b0, .inr (12, [x0, x1, x2, x3, x4, x5, x6, x7, x8, x9, x10, x11, x12, x13, x14, x15, x16, x17, x18, x19, x20, x21, x22, x23, x24, x25, x26, x27, x28, x29, x30, x31, x32, x33, x34, x35, x36, x37, x38, x39, x40, x41, x42, x43, x44, x45, x46, x47, x48, .int 0, .int 0, .int 0, .int 0, x53, x54, x55, x56, x57, x58, x59, x60, x61, x62, x63, x64, x65, x66, x67, x68, x69, x70, x71, x72, x73, x74, x75, x76, x77, x78, x79, x80, x81, x82, x83, x84, x85, x86, x87, x88]))] H := hP
  have hD : va_D A [(b0, .inr (12, [x0, x1, x2, x3, x4, x5, x6, x7, x8, x9, x10, x11, x12, x13, x14, x15, x16, x17, x18, x19, x20, x21, x22, x23, x24, x25, x26, x27, x28, x29, x30, x31, x32, x33, x34, x35, x36, x37, x38, x39, x40, x41, x42, x43, x44, x45, x46, x47, x48, .int 0, .int 0, .int 0, .int 0, x53, x54, x55, x56, x57, x58, x59, x60, x61, x62, x63, x64, x65, x66, x67, x68, x69, x70, x71, x72, x73, x74, x75, x76, x77, x78, x79, x80, x81, x82, x83, x84, x85, x86, x87, x88]))] := hD
  refine W.widen (k := 0) (n := 0) (Nat.le_of_ble_eq_true rfl) (Nat.le_of_ble_eq_true rfl) ?_
  have hw1 : r1 = 0 := hw1
  subst hw1
  refine lv_if_eq (tgt := 36) hx hb dX12_sound_5 (by decide) (fun _ => ?_) (fun h => absurd (by decide) h)
  refine lv_iconst (v := -1) hx hb dX12_sound_36 (by decide) ?_
  exact x_iret hQ hx hb hr hlocks hK hP hD hS dX12_sound_37 () (rfl) [] (by decide) rfl (Nat.le_of_ble_eq_true rfl) (Nat.le_of_ble_eq_true rfl)
theorem dX12_unsay_0 : decode cX12_unsay 0 = .ok (.iload_n 1, 1) := by decide +kernel
theorem dX12_unsay_1 : decode cX12_unsay 1 = .ok (.invokestatic 515, 3) := by decide +kernel
theorem dX12_unsay_4 : decode cX12_unsay 4 = .ok (.ifCond .eq 15, 3) := by decide +kernel
theorem dX12_unsay_19 : decode cX12_unsay 19 = .ok (.iconst (-1), 1) := by decide +kernel
theorem dX12_unsay_20 : decode cX12_unsay 20 = .ok (.ireturn, 1) := by decide +kernel
theorem dX12_unsay_7 : decode cX12_unsay 7 = .ok (.aload_n 0, 1) := by decide +kernel
theorem dX12_unsay_8 : decode cX12_unsay 8 = .ok (.getfield 97, 3) := by decide +kernel
theorem m_1470 : (Cond.fieldLink RX12 97 "CliffJudgesModel" "now" "[I") ∈ gT := gm 1470 (by decide +kernel) (by decide +kernel)
theorem dX12_unsay_11 : decode cX12_unsay 11 = .ok (.bipush 20, 2) := by decide +kernel
theorem dX12_unsay_13 : decode cX12_unsay 13 = .ok (.iload_n 1, 1) := by decide +kernel
theorem dX12_unsay_14 : decode cX12_unsay 14 = .ok (.iadd, 1) := by decide +kernel
theorem dX12_unsay_15 : decode cX12_unsay 15 = .ok (.iaload, 1) := by decide +kernel
theorem dX12_unsay_16 : decode cX12_unsay 16 = .ok (.ifCond .ne 5, 3) := by decide +kernel
set_option maxHeartbeats 400000 in
set_option maxRecDepth 100000 in
theorem m_unsay (l : Launch) (D : va_G) (cy : Nat → ClassId) (b0 : Nat) (x0 : Value) (x1 : Value) (x2 : Value) (x3 : Value) (x4 : Value) (x5 : Value) (x6 : Value) (x7 : Value) (x8 : Value) (x9 : Value) (x10 : Value) (x11 : Value) (x12 : Value) (x13 : Value) (x14 : Value) (x15 : Value) (x16 : Value) (x17 : Value) (x18 : Value) (x19 : Value) (x20 : Value) (x21 : Value) (x22 : Value) (x23 : Value) (x24 : Value) (x25 : Value) (x26 : Value) (x27 : Value) (x28 : Value) (x29 : Value) (x30 : Value) (x31 : Value) (x32 : Value) (x33 : Value) (x34 : Value) (x35 : Value) (x36 : Value) (x37 : Value) (x38 : Value) (x39 : Value) (x40 : Value) (x41 : Value) (x42 : Value) (x43 : Value) (x44 : Value) (x45 : Value) (x46 : Value) (x47 : Value) (x48 : Value) (x49 : Value) (x50 : Value) (x51 : Value) (x52 : Value) (x53 : Value) (x54 : Value) (x55 : Value) (x56 : Value) (x58 : Value) (x59 : Value) (x60 : Value) (x61 : Value) (x62 : Value) (x63 : Value) (x64 : Value) (x65 : Value) (x66 : Value) (x67 : Value) (x68 : Value) (x69 : Value) (x70 : Value) (x71 : Value) (x72 : Value) (x73 : Value) (x74 : Value) (x75 : Value) (x76 : Value) (x77 : Value) (x78 : Value) (x79 : Value) (x80 : Value) (x81 : Value) (x82 : Value) (x83 : Value) (x84 : Value) (x85 : Value) (x86 : Value) (x87 : Value) (x88 : Value) (b_now : Nat) (ka : Int32)  : XMi l D (tyL cy) E0 yX12_unsay cX12_unsay 2 (some .int) (rmk 3 0 0) [.ref b0, .int ka] [(b0, .inr (12, [x0, x1, x2, x3, x4, x5, x6, x7, x8, x9, x10, x11, x12, x13, x14, x15, x16, x17, x18, x19, x20, x21, x22, x23, x24, x25, x26, x27, x28, x29, x30, x31, x32, x33, x34, x35, x36, x37, x38, x39, x40, x41, x42, x43, x44, x45, x46, x47, x48, x49, x50, x51, x52, x53, x54, x55, x56, .ref b_now, x58, x59, x60, x61, x62, x63, x64, x65, x66, x67, x68, x69, x70, x71, x72, x73, x74, x75, x76, x77, x78, x79, x80, x81, x82, x83, x84, x85, x86, x87, x88])), (b_now, .inl (cy 1, 42, .inl (fun _ => 0)))] (fun (r : Int32) (_ : Unit) => r = -1) (fun (_ : Unit) => []) := by
  refine XMi.start (by decide) (Nat.le_of_ble_eq_true rfl) ?_
  intro p e s m below meth c args A ls Q hat hQ
  obtain ⟨hx, hb, hr, hml, hown, hg, hlocks, hin, hK, hA, hP, hD, hS, hE, hl⟩ := hat
  have hown : s.vm.findClass RX12 = some m.cls := hown
  have hl : lv_has ls 2 [(0, .ref b0), (1, .int ka)] := hl
  refine lv_iload_n hx hb dX12_unsay_0 rfl (lv_at hl 1 rfl) ?_
  refine x_callSi (wr := [(b0, .inr (12, [x0, x1, x2, x3, x4, x5, x6, x7, x8, x9, x10, x11, x12, x13, x14, x15, x16, x17, x18, x19, x20, x21, x22, x23, x24, x25, x26, x27, x28, x29, x30, x31, x32, x33, x34, x35, x36, x37, x38, x39, x40, x41, x42, x43, x44, x45, x46, x47, x48, x49, x50, x51, x52, x53, x54, x55, x56, .ref b_now, x58, x59, x60, x61, x62, x63, x64, x65, x66, x67, x68, x69, x70, x71, x72, x73, x74, x75, x76, x77, x78, x79, x80, x81, x82, x83, x84, x85, x86, x87, x88])), (b_now, .inl (cy 1, 42, .inl (fun _ => 0)))]) (rest := []) ⟨hx, hb, hml, hown, hg, hl.1⟩ k_X12_515 (m_isCry l D cy ka) E0_blind hK hP hD hS hA [] [0, 1] ⟨rfl, rfl, by decide, by decide, by decide⟩ (fun _ _ _ => trivial) dX12_unsay_1 rfl rfl (Nat.le_of_ble_eq_true rfl) ⟨Nat.le_of_ble_eq_true rfl, Nat.le_of_ble_eq_true rfl⟩ ⟨Nat.le_of_ble_eq_true rfl, Nat.le_of_ble_eq_true rfl⟩ (fun r1 u1 H locs hw1 hP hD hS => ?_)
  have hP : va_P D vwCl [(b0, .inr (12, [x0, x1, x2, x3, x4, x5, x6, x7, x8, x9, x10, x11, x12, x13, x14, x15, x16, x17, x18, x19, x20, x21, x22, x23, x24, x25, x26, x27, x28, x29, x30, x31, x32, x33, x34, x35, x36, x37, x38, x39, x40, x41, x42, x43, x44, x45, x46, x47, x48, x49, x50, x51, x52, x53, x54, x55, x56, .ref b_now, x58, x59, x60, x61, x62, x63, x64, x65, x66, x67, x68, x69, x70, x71, x72, x73, x74, x75, x76, x77, x78, x79, x80, x81, x82, x83, x84, x85, x86, x87, x88])), (b_now, .inl (cy 1, 42, .inl (fun _ => 0)))] H := hP
  have hD : va_D A [(b0, .inr (12, [x0, x1, x2, x3, x4, x5, x6, x7, x8, x9, x10, x11, x12, x13, x14, x15, x16, x17, x18, x19, x20, x21, x22, x23, x24, x25, x26, x27, x28, x29, x30, x31, x32, x33, x34, x35, x36, x37, x38, x39, x40, x41, x42, x43, x44, x45, x46, x47, x48, x49, x50, x51, x52, x53, x54, x55, x56, .ref b_now, x58, x59, x60, x61, x62, x63, x64, x65, x66, x67, x68, x69, x70, x71, x72, x73, x74, x75, x76, x77, x78, x79, x80, x81, x82, x83, x84, x85, x86, x87, x88])), (b_now, .inl (cy 1, 42, .inl (fun _ => 0)))] := hD
  refine W.widen (k := 0) (n := 0) (Nat.le_of_ble_eq_true rfl) (Nat.le_of_ble_eq_true rfl) ?_
  have hw1 : r1 = 0 ∨ ka = 0 ∨ ka = 1 := hw1
  refine lv_if_eq (tgt := 19) hx hb dX12_unsay_4 (by decide) (fun c_4 => ?_) (fun c_4 => ?_)
  · refine lv_iconst (v := -1) hx hb dX12_unsay_19 (by decide) ?_
    exact x_iret hQ hx hb hr hlocks hK hP hD hS dX12_unsay_20 () (rfl) [] (by decide) rfl (Nat.le_of_ble_eq_true rfl) (Nat.le_of_ble_eq_true rfl)
  · refine lv_aload_n hx hb dX12_unsay_7 rfl (lv_at hl 0 rfl) ?_
    refine va_get (D := D) (ci := 12) (v := .ref b_now) (C := RX12) (T := TX12) (N := 89) hx hb hg i_X12 hown hK hP 0 rfl rfl 57 (by decide) (hg _ m_1470) (fun _ h9 => h9) rfl dX12_unsay_8 ?_
    refine lv_bipush (v := 20) hx hb dX12_unsay_11 (by decide) ?_
    refine lv_iload_n hx hb dX12_unsay_13 rfl (lv_at hl 1 rfl) ?_
    refine lv_iadd hx hb dX12_unsay_14 ?_
    refine lv_topi (fun x_2 ex_2 => ?_)
    refine va_iald hx hb hK hP 1 1 rfl rfl (by rw [ex_2]; exact cry_in2 hw1 c_4) dX12_unsay_15 ?_
    refine lv_topi (fun y_3 hy_3 => ?_)
    obtain rfl : y_3 = 0 := hy_3.trans rfl
    refine lv_if_ne (tgt := 21) hx hb dX12_unsay_16 (by decide) (fun h => absurd (by decide) h) (fun _ => ?_)
    refine lv_iconst (v := -1) hx hb dX12_unsay_19 (by decide) ?_
    exact x_iret hQ hx hb hr hlocks hK hP hD hS dX12_unsay_20 () (rfl) [] (by decide) rfl (Nat.le_of_ble_eq_true rfl) (Nat.le_of_ble_eq_true rfl)
theorem dX12_said_0 : decode cX12_said 0 = .ok (.iload_n 1, 1) := by decide +kernel
theorem dX12_said_1 : decode cX12_said 1 = .ok (.invokestatic 515, 3) := by decide +kernel
theorem dX12_said_4 : decode cX12_said 4 = .ok (.ifCond .eq 36, 3) := by decide +kernel
theorem dX12_said_40 : decode cX12_said 40 = .ok (.iconst (-1), 1) := by decide +kernel
theorem dX12_said_41 : decode cX12_said 41 = .ok (.ireturn, 1) := by decide +kernel
theorem dX12_said_7 : decode cX12_said 7 = .ok (.iload_n 2, 1) := by decide +kernel
theorem dX12_said_8 : decode cX12_said 8 = .ok (.iconst 0, 1) := by decide +kernel
theorem dX12_said_9 : decode cX12_said 9 = .ok (.aload_n 0, 1) := by decide +kernel
theorem dX12_said_10 : decode cX12_said 10 = .ok (.getfield 97, 3) := by decide +kernel
theorem dX12_said_13 : decode cX12_said 13 = .ok (.bipush 20, 2) := by decide +kernel
theorem dX12_said_15 : decode cX12_said 15 = .ok (.iload_n 1, 1) := by decide +kernel
theorem dX12_said_16 : decode cX12_said 16 = .ok (.iadd, 1) := by decide +kernel
theorem dX12_said_17 : decode cX12_said 17 = .ok (.iaload, 1) := by decide +kernel
theorem dX12_said_18 : decode cX12_said 18 = .ok (.iconst 1, 1) := by decide +kernel
theorem dX12_said_19 : decode cX12_said 19 = .ok (.isub, 1) := by decide +kernel
theorem dX12_said_20 : decode cX12_said 20 = .ok (.invokestatic 436, 3) := by decide +kernel
theorem dX12_said_23 : decode cX12_said 23 = .ok (.ifCond .eq 17, 3) := by decide +kernel
set_option maxHeartbeats 400000 in
set_option maxRecDepth 100000 in
theorem m_said (l : Launch) (D : va_G) (cy : Nat → ClassId) (b0 : Nat) (x0 : Value) (x1 : Value) (x2 : Value) (x3 : Value) (x4 : Value) (x5 : Value) (x6 : Value) (x7 : Value) (x8 : Value) (x9 : Value) (x10 : Value) (x11 : Value) (x12 : Value) (x13 : Value) (x14 : Value) (x15 : Value) (x16 : Value) (x17 : Value) (x18 : Value) (x19 : Value) (x20 : Value) (x21 : Value) (x22 : Value) (x23 : Value) (x24 : Value) (x25 : Value) (x26 : Value) (x27 : Value) (x28 : Value) (x29 : Value) (x30 : Value) (x31 : Value) (x32 : Value) (x33 : Value) (x34 : Value) (x35 : Value) (x36 : Value) (x37 : Value) (x38 : Value) (x39 : Value) (x40 : Value) (x41 : Value) (x42 : Value) (x43 : Value) (x44 : Value) (x45 : Value) (x46 : Value) (x47 : Value) (x48 : Value) (x49 : Value) (x50 : Value) (x51 : Value) (x52 : Value) (x53 : Value) (x54 : Value) (x55 : Value) (x56 : Value) (x58 : Value) (x59 : Value) (x60 : Value) (x61 : Value) (x62 : Value) (x63 : Value) (x64 : Value) (x65 : Value) (x66 : Value) (x67 : Value) (x68 : Value) (x69 : Value) (x70 : Value) (x71 : Value) (x72 : Value) (x73 : Value) (x74 : Value) (x75 : Value) (x76 : Value) (x77 : Value) (x78 : Value) (x79 : Value) (x80 : Value) (x81 : Value) (x82 : Value) (x83 : Value) (x84 : Value) (x85 : Value) (x86 : Value) (x87 : Value) (x88 : Value) (b_now : Nat) (ka : Int32) (kb : Int32)  : XMi l D (tyL cy) E0 yX12_said cX12_said 3 (some .int) (rmk 3 0 0) [.ref b0, .int ka, .int kb] [(b0, .inr (12, [x0, x1, x2, x3, x4, x5, x6, x7, x8, x9, x10, x11, x12, x13, x14, x15, x16, x17, x18, x19, x20, x21, x22, x23, x24, x25, x26, x27, x28, x29, x30, x31, x32, x33, x34, x35, x36, x37, x38, x39, x40, x41, x42, x43, x44, x45, x46, x47, x48, x49, x50, x51, x52, x53, x54, x55, x56, .ref b_now, x58, x59, x60, x61, x62, x63, x64, x65, x66, x67, x68, x69, x70, x71, x72, x73, x74, x75, x76, x77, x78, x79, x80, x81, x82, x83, x84, x85, x86, x87, x88])), (b_now, .inl (cy 1, 42, .inl (fun _ => 0)))] (fun (r : Int32) (_ : Unit) => r = -1) (fun (_ : Unit) => []) := by
  refine XMi.start (by decide) (Nat.le_of_ble_eq_true rfl) ?_
  intro p e s m below meth c args A ls Q hat hQ
  obtain ⟨hx, hb, hr, hml, hown, hg, hlocks, hin, hK, hA, hP, hD, hS, hE, hl⟩ := hat
  have hown : s.vm.findClass RX12 = some m.cls := hown
  have hl : lv_has ls 3 [(0, .ref b0), (1, .int ka), (2, .int kb)] := hl
  refine lv_iload_n hx hb dX12_said_0 rfl (lv_at hl 1 rfl) ?_
  refine x_callSi (wr := [(b0, .inr (12, [x0, x1, x2, x3, x4, x5, x6, x7, x8, x9, x10, x11, x12, x13, x14, x15, x16, x17, x18, x19, x20, x21, x22, x23, x24, x25, x26, x27, x28, x29, x30, x31, x32, x33, x34, x35, x36, x37, x38, x39, x40, x41, x42, x43, x44, x45, x46, x47, x48, x49, x50, x51, x52, x53, x54, x55, x56, .ref b_now, x58, x59, x60, x61, x62, x63, x64, x65, x66, x67, x68, x69, x70, x71, x72, x73, x74, x75, x76, x77, x78, x79, x80, x81, x82, x83, x84, x85, x86, x87, x88])), (b_now, .inl (cy 1, 42, .inl (fun _ => 0)))]) (rest := []) ⟨hx, hb, hml, hown, hg, hl.1⟩ k_X12_515 (m_isCry l D cy ka) E0_blind hK hP hD hS hA [] [0, 1] ⟨rfl, rfl, by decide, by decide, by decide⟩ (fun _ _ _ => trivial) dX12_said_1 rfl rfl (Nat.le_of_ble_eq_true rfl) ⟨Nat.le_of_ble_eq_true rfl, Nat.le_of_ble_eq_true rfl⟩ ⟨Nat.le_of_ble_eq_true rfl, Nat.le_of_ble_eq_true rfl⟩ (fun r1 u1 H locs hw1 hP hD hS => ?_)
  have hP : va_P D vwCl [(b0, .inr (12, [x0, x1, x2, x3, x4, x5, x6, x7, x8, x9, x10, x11, x12, x13, x14, x15, x16, x17, x18, x19, x20, x21, x22, x23, x24, x25, x26, x27, x28, x29, x30, x31, x32, x33, x34, x35, x36, x37, x38, x39, x40, x41, x42, x43, x44, x45, x46, x47, x48, x49, x50, x51, x52, x53, x54, x55, x56, .ref b_now, x58, x59, x60, x61, x62, x63, x64, x65, x66, x67, x68, x69, x70, x71, x72, x73, x74, x75, x76, x77, x78, x79, x80, x81, x82, x83, x84, x85, x86, x87, x88])), (b_now, .inl (cy 1, 42, .inl (fun _ => 0)))] H := hP
  have hD : va_D A [(b0, .inr (12, [x0, x1, x2, x3, x4, x5, x6, x7, x8, x9, x10, x11, x12, x13, x14, x15, x16, x17, x18, x19, x20, x21, x22, x23, x24, x25, x26, x27, x28, x29, x30, x31, x32, x33, x34, x35, x36, x37, x38, x39, x40, x41, x42, x43, x44, x45, x46, x47, x48, x49, x50, x51, x52, x53, x54, x55, x56, .ref b_now, x58, x59, x60, x61, x62, x63, x64, x65, x66, x67, x68, x69, x70, x71, x72, x73, x74, x75, x76, x77, x78, x79, x80, x81, x82, x83, x84, x85, x86, x87, x88])), (b_now, .inl (cy 1, 42, .inl (fun _ => 0)))] := hD
  refine W.widen (k := 0) (n := 0) (Nat.le_of_ble_eq_true rfl) (Nat.le_of_ble_eq_true rfl) ?_
  have hw1 : r1 = 0 ∨ ka = 0 ∨ ka = 1 := hw1
  refine lv_if_eq (tgt := 40) hx hb dX12_said_4 (by decide) (fun c_4 => ?_) (fun c_4 => ?_)
  · refine lv_iconst (v := -1) hx hb dX12_said_40 (by decide) ?_
    exact x_iret hQ hx hb hr hlocks hK hP hD hS dX12_said_41 () (rfl) [] (by decide) rfl (Nat.le_of_ble_eq_true rfl) (Nat.le_of_ble_eq_true rfl)
  · refine lv_iload_n hx hb dX12_said_7 rfl (lv_at hl 2 rfl) ?_
    refine lv_iconst (v := 0) hx hb dX12_said_8 (by decide) ?_
    refine lv_aload_n hx hb dX12_said_9 rfl (lv_at hl 0 rfl) ?_
    refine va_get (D := D) (ci := 12) (v := .ref b_now) (C := RX12) (T := TX12) (N := 89) hx hb hg i_X12 hown hK hP 0 rfl rfl 57 (by decide) (hg _ m_1470) (fun _ h9 => h9) rfl dX12_said_10 ?_
    refine lv_bipush (v := 20) hx hb dX12_said_13 (by decide) ?_
    refine lv_iload_n hx hb dX12_said_15 rfl (lv_at hl 1 rfl) ?_
    refine lv_iadd hx hb dX12_said_16 ?_
    refine lv_topi (fun x_2 ex_2 => ?_)
    refine va_iald hx hb hK hP 1 1 rfl rfl (by rw [ex_2]; exact cry_in2 hw1 c_4) dX12_said_17 ?_
    refine lv_topi (fun y_3 hy_3 => ?_)
    obtain rfl : y_3 = 0 := hy_3.trans rfl
    refine lv_iconst (v := 1) hx hb dX12_said_18 (by decide) ?_
    refine lv_isub hx hb dX12_said_19 ?_
    refine lv_topi (fun y_4 hy_4 => ?_)
    obtain rfl : y_4 = -1 := hy_4.trans (by decide +kernel)
    refine x_callSi (wr := [(b0, .inr (12, [x0, x1, x2, x3, x4, x5, x6, x7, x8, x9, x10, x11, x12, x13, x14, x15, x16, x17, x18, x19, x20, x21, x22, x23, x24, x25, x26, x27, x28, x29, x30, x31, x32, x33, x34, x35, x36, x37, x38, x39, x40, x41, x42, x43, x44, x45, x46, x47, x48, x49, x50, x51, x52, x53, x54, x55, x56, .ref b_now, x58, x59, x60, x61, x62, x63, x64, x65, x66, x67, x68, x69, x70, x71, x72, x73, x74, x75, x76, x77, x78, x79, x80, x81, x82, x83, x84, x85, x86, x87, x88])), (b_now, .inl (cy 1, 42, .inl (fun _ => 0)))]) (rest := []) ⟨hx, hb, hml, hown, hg, hl.1⟩ k_X12_436 (m_isIn l D cy kb 0 (-1)) E0_blind hK hP hD hS hA [] [0, 1] ⟨rfl, rfl, by decide, by decide, by decide⟩ (fun _ _ _ => trivial) dX12_said_20 rfl rfl (Nat.le_of_ble_eq_true rfl) ⟨Nat.le_of_ble_eq_true rfl, Nat.le_of_ble_eq_true rfl⟩ ⟨Nat.le_of_ble_eq_true rfl, Nat.le_of_ble_eq_true rfl⟩ (fun r5 u5 H locs hw5 hP hD hS => ?_)
    have hP : va_P D vwCl [(b0, .inr (12, [x0, x1, x2, x3, x4, x5, x6, x7, x8, x9, x10, x11, x12, x13, x14, x15, x16, x17, x18, x19, x20, x21, x22, x23, x24, x25, x26, x27, x28, x29, x30, x31, x32, x33, x34, x35, x36, x37, x38, x39, x40, x41, x42, x43, x44, x45, x46, x47, x48, x49, x50, x51, x52, x53, x54, x55, x56, .ref b_now, x58, x59, x60, x61, x62, x63, x64, x65, x66, x67, x68, x69, x70, x71, x72, x73, x74, x75, x76, x77, x78, x79, x80, x81, x82, x83, x84, x85, x86, x87, x88])), (b_now, .inl (cy 1, 42, .inl (fun _ => 0)))] H := hP
    have hD : va_D A [(b0, .inr (12, [x0, x1, x2, x3, x4, x5, x6, x7, x8, x9, x10, x11, x12, x13, x14, x15, x16, x17, x18, x19, x20, x21, x22, x23, x24, x25, x26, x27, x28, x29, x30, x31, x32, x33, x34, x35, x36, x37, x38, x39, x40, x41, x42, x43, x44, x45, x46, x47, x48, x49, x50, x51, x52, x53, x54, x55, x56, .ref b_now, x58, x59, x60, x61, x62, x63, x64, x65, x66, x67, x68, x69, x70, x71, x72, x73, x74, x75, x76, x77, x78, x79, x80, x81, x82, x83, x84, x85, x86, x87, x88])), (b_now, .inl (cy 1, 42, .inl (fun _ => 0)))] := hD
    refine W.widen (k := 0) (n := 0) (Nat.le_of_ble_eq_true rfl) (Nat.le_of_ble_eq_true rfl) ?_
    have hw5 : (r5 = 1 ∧ (0 : Int32).toInt ≤ kb.toInt ∧ kb.toInt ≤ (-1 : Int32).toInt) ∨ (r5 = 0 ∧ ¬ ((0 : Int32).toInt ≤ kb.toInt ∧ kb.toInt ≤ (-1 : Int32).toInt)) := hw5
    have z0 : (0 : Int32).toInt = 0 := by decide
    have zm1 : (-1 : Int32).toInt = -1 := by decide
    obtain rfl : r5 = 0 := hw5.elim (fun h => absurd h.2 (by omega)) (fun h => h.1)
    refine lv_if_eq (tgt := 40) hx hb dX12_said_23 (by decide) (fun _ => ?_) (fun h => absurd (by decide) h)
    refine lv_iconst (v := -1) hx hb dX12_said_40 (by decide) ?_
    exact x_iret hQ hx hb hr hlocks hK hP hD hS dX12_said_41 () (rfl) [] (by decide) rfl (Nat.le_of_ble_eq_true rfl) (Nat.le_of_ble_eq_true rfl)
theorem dX12_end_0 : decode cX12_end 0 = .ok (.iload_n 1, 1) := by decide +kernel
theorem dX12_end_1 : decode cX12_end 1 = .ok (.ifCond .lt 11, 3) := by decide +kernel
theorem dX12_end_12 : decode cX12_end 12 = .ok (.iconst (-1), 1) := by decide +kernel
theorem dX12_end_13 : decode cX12_end 13 = .ok (.ireturn, 1) := by decide +kernel
theorem dX12_end_4 : decode cX12_end 4 = .ok (.iload_n 1, 1) := by decide +kernel
theorem dX12_end_5 : decode cX12_end 5 = .ok (.aload_n 0, 1) := by decide +kernel
theorem dX12_end_6 : decode cX12_end 6 = .ok (.getfield 157, 3) := by decide +kernel
theorem m_1414 : (Cond.fieldLink RX12 157 "CliffJudgesModel" "taped" "I") ∈ gT := gm 1414 (by decide +kernel) (by decide +kernel)
theorem dX12_end_9 : decode cX12_end 9 = .ok (.if_icmp .le 5, 3) := by decide +kernel
theorem dX12_end_14 : decode cX12_end 14 = .ok (.aload_n 0, 1) := by decide +kernel
theorem dX12_end_15 : decode cX12_end 15 = .ok (.iload_n 1, 1) := by decide +kernel
theorem dX12_end_16 : decode cX12_end 16 = .ok (.putfield 157, 3) := by decide +kernel
theorem dX12_end_19 : decode cX12_end 19 = .ok (.iload_n 1, 1) := by decide +kernel
theorem dX12_end_20 : decode cX12_end 20 = .ok (.ireturn, 1) := by decide +kernel
set_option maxHeartbeats 400000 in
set_option maxRecDepth 100000 in
theorem m_end (l : Launch) (D : va_G) (cy : Nat → ClassId) (b0 : Nat) (x0 : Value) (x2 : Value) (x3 : Value) (x4 : Value) (x5 : Value) (x6 : Value) (x7 : Value) (x8 : Value) (x9 : Value) (x10 : Value) (x11 : Value) (x12 : Value) (x13 : Value) (x14 : Value) (x15 : Value) (x16 : Value) (x17 : Value) (x18 : Value) (x19 : Value) (x20 : Value) (x21 : Value) (x22 : Value) (x23 : Value) (x24 : Value) (x25 : Value) (x26 : Value) (x27 : Value) (x28 : Value) (x29 : Value) (x30 : Value) (x31 : Value) (x32 : Value) (x33 : Value) (x34 : Value) (x35 : Value) (x36 : Value) (x37 : Value) (x38 : Value) (x39 : Value) (x40 : Value) (x41 : Value) (x42 : Value) (x43 : Value) (x44 : Value) (x45 : Value) (x46 : Value) (x47 : Value) (x48 : Value) (x49 : Value) (x50 : Value) (x51 : Value) (x52 : Value) (x53 : Value) (x54 : Value) (x55 : Value) (x56 : Value) (x57 : Value) (x58 : Value) (x59 : Value) (x60 : Value) (x61 : Value) (x62 : Value) (x63 : Value) (x64 : Value) (x65 : Value) (x66 : Value) (x67 : Value) (x68 : Value) (x69 : Value) (x70 : Value) (x71 : Value) (x72 : Value) (x73 : Value) (x74 : Value) (x75 : Value) (x76 : Value) (x77 : Value) (x78 : Value) (x79 : Value) (x80 : Value) (x81 : Value) (x82 : Value) (x83 : Value) (x84 : Value) (x85 : Value) (x86 : Value) (x87 : Value) (x88 : Value) (ka : Int32)  : XMi l D (tyL cy) E0 yX12_end cX12_end 2 (some .int) (rmk 3 0 0) [.ref b0, .int ka] [(b0, .inr (12, [x0, .int 0, x2, x3, x4, x5, x6, x7, x8, x9, x10, x11, x12, x13, x14, x15, x16, x17, x18, x19, x20, x21, x22, x23, x24, x25, x26, x27, x28, x29, x30, x31, x32, x33, x34, x35, x36, x37, x38, x39, x40, x41, x42, x43, x44, x45, x46, x47, x48, x49, x50, x51, x52, x53, x54, x55, x56, x57, x58, x59, x60, x61, x62, x63, x64, x65, x66, x67, x68, x69, x70, x71, x72, x73, x74, x75, x76, x77, x78, x79, x80, x81, x82, x83, x84, x85, x86, x87, x88]))] (fun (r : Int32) (_ : Unit) => r = if ka.toInt = 0 then 0 else -1) (fun (_ : Unit) => []) := by
  refine XMi.start (by decide) (Nat.le_of_ble_eq_true rfl) ?_
  intro p e s m below meth c args A ls Q hat hQ
  obtain ⟨hx, hb, hr, hml, hown, hg, hlocks, hin, hK, hA, hP, hD, hS, hE, hl⟩ := hat
  have hown : s.vm.findClass RX12 = some m.cls := hown
  have hl : lv_has ls 2 [(0, .ref b0), (1, .int ka)] := hl
  refine lv_iload_n hx hb dX12_end_0 rfl (lv_at hl 1 rfl) ?_
  refine lv_if_lt (tgt := 12) hx hb dX12_end_1 (by decide) (fun c_1 => ?_) (fun c_1 => ?_)
  · refine lv_iconst (v := -1) hx hb dX12_end_12 (by decide) ?_
    have qc_1 : (ka : Int32).toInt < (0 : Int32).toInt := (fa_lt _ _).mp c_1
    have z0 : (0 : Int32).toInt = 0 := by decide
    exact x_iret hQ hx hb hr hlocks hK hP hD hS dX12_end_13 () ((if_neg (by omega)).symm) [] (by decide) rfl (Nat.le_of_ble_eq_true rfl) (Nat.le_of_ble_eq_true rfl)
  · refine lv_iload_n hx hb dX12_end_4 rfl (lv_at hl 1 rfl) ?_
    refine lv_aload_n hx hb dX12_end_5 rfl (lv_at hl 0 rfl) ?_
    refine va_get (D := D) (ci := 12) (v := .int 0) (C := RX12) (T := TX12) (N := 89) hx hb hg i_X12 hown hK hP 0 rfl rfl 1 (by decide) (hg _ m_1414) (fun _ h9 => h9) rfl dX12_end_6 ?_
    refine lv_icmp_le (tgt := 14) hx hb dX12_end_9 (by decide) (fun c_9 => ?_) (fun c_9 => ?_)
    · refine lv_aload_n hx hb dX12_end_14 rfl (lv_at hl 0 rfl) ?_
      refine lv_iload_n hx hb dX12_end_15 rfl (lv_at hl 1 rfl) ?_
      refine va_put (D := D) (ci := 12) (v := .int ka) (ty := .int) (C := RX12) (T := TX12) (N := 89) hx hb hg i_X12 tyX12 tyX12_ok nmX12 hown hK hP hD hS 0 rfl rfl 1 (by decide) (hg _ m_1414) (fun _ h9 => h9) rfl (by decide +kernel) rfl rfl (Nat.le_of_ble_eq_true rfl) dX12_end_16 (fun H locs hP hD hS => ?_)
      have hP : va_P D vwCl [(b0, .inr (12, [x0, .int ka, x2, x3, x4, x5, x6, x7, x8, x9, x10, x11, x12, x13, x14, x15, x16, x17, x18, x19, x20, x21, x22, x23, x24, x25, x26, x27, x28, x29, x30, x31, x32, x33, x34, x35, x36, x37, x38, x39, x40, x41, x42, x43, x44, x45, x46, x47, x48, x49, x50, x51, x52, x53, x54, x55, x56, x57, x58, x59, x60, x61, x62, x63, x64, x65, x66, x67, x68, x69, x70, x71, x72, x73, x74, x75, x76, x77, x78, x79, x80, x81, x82, x83, x84, x85, x86, x87, x88]))] H := hP
      have hD : va_D A [(b0, .inr (12, [x0, .int ka, x2, x3, x4, x5, x6, x7, x8, x9, x10, x11, x12, x13, x14, x15, x16, x17, x18, x19, x20, x21, x22, x23, x24, x25, x26, x27, x28, x29, x30, x31, x32, x33, x34, x35, x36, x37, x38, x39, x40, x41, x42, x43, x44, x45, x46, x47, x48, x49, x50, x51, x52, x53, x54, x55, x56, x57, x58, x59, x60, x61, x62, x63, x64, x65, x66, x67, x68, x69, x70, x71, x72, x73, x74, x75, x76, x77, x78, x79, x80, x81, x82, x83, x84, x85, x86, x87, x88]))] := hD
      refine lv_iload_n hx hb dX12_end_19 rfl (lv_at hl 1 rfl) ?_
      have qc_1 : ¬ (ka : Int32).toInt < (0 : Int32).toInt := fun h => c_1 ((fa_lt _ _).mpr h)
      have qc_9 : (ka : Int32).toInt ≤ (0 : Int32).toInt := (fa_le _ _).mp c_9
      have z0 : (0 : Int32).toInt = 0 := by decide
      exact x_iret hQ hx hb hr hlocks hK hP hD hS dX12_end_20 () (by rw [if_pos (by omega)]; exact (fa_eq _ _).mpr (by omega)) [] (by decide) rfl (Nat.le_of_ble_eq_true rfl) (Nat.le_of_ble_eq_true rfl)
    · refine lv_iconst (v := -1) hx hb dX12_end_12 (by decide) ?_
      have qc_1 : ¬ (ka : Int32).toInt < (0 : Int32).toInt := fun h => c_1 ((fa_lt _ _).mpr h)
      have qc_9 : ¬ (ka : Int32).toInt ≤ (0 : Int32).toInt := fun h => c_9 ((fa_le _ _).mpr h)
      have z0 : (0 : Int32).toInt = 0 := by decide
      exact x_iret hQ hx hb hr hlocks hK hP hD hS dX12_end_13 () ((if_neg (by omega)).symm) [] (by decide) rfl (Nat.le_of_ble_eq_true rfl) (Nat.le_of_ble_eq_true rfl)
theorem dX12_fault_0 : decode cX12_fault 0 = .ok (.iload_n 1, 1) := by decide +kernel
theorem dX12_fault_1 : decode cX12_fault 1 = .ok (.ifCond .ne 10, 3) := by decide +kernel
theorem dX12_fault_11 : decode cX12_fault 11 = .ok (.iload_n 1, 1) := by decide +kernel
theorem dX12_fault_12 : decode cX12_fault 12 = .ok (.iconst 1, 1) := by decide +kernel
theorem dX12_fault_13 : decode cX12_fault 13 = .ok (.if_icmp .ne 10, 3) := by decide +kernel
theorem dX12_fault_23 : decode cX12_fault 23 = .ok (.iconst (-1), 1) := by decide +kernel
theorem dX12_fault_24 : decode cX12_fault 24 = .ok (.ireturn, 1) := by decide +kernel
theorem dX12_fault_16 : decode cX12_fault 16 = .ok (.aload_n 0, 1) := by decide +kernel
theorem dX12_fault_17 : decode cX12_fault 17 = .ok (.getfield 13, 3) := by decide +kernel
theorem m_1416 : (Cond.fieldLink RX12 13 "CliffJudgesModel" "faultPlace" "I") ∈ gT := gm 1416 (by decide +kernel) (by decide +kernel)
theorem dX12_fault_20 : decode cX12_fault 20 = .ok (.goto 4, 3) := by decide +kernel
theorem dX12_fault_4 : decode cX12_fault 4 = .ok (.aload_n 0, 1) := by decide +kernel
theorem dX12_fault_5 : decode cX12_fault 5 = .ok (.getfield 197, 3) := by decide +kernel
theorem m_1415 : (Cond.fieldLink RX12 197 "CliffJudgesModel" "fault" "I") ∈ gT := gm 1415 (by decide +kernel) (by decide +kernel)
theorem dX12_fault_8 : decode cX12_fault 8 = .ok (.goto 16, 3) := by decide +kernel
set_option maxHeartbeats 400000 in
set_option maxRecDepth 100000 in
theorem m_fault (l : Launch) (D : va_G) (cy : Nat → ClassId) (b0 : Nat) (x0 : Value) (x1 : Value) (x4 : Value) (x5 : Value) (x6 : Value) (x7 : Value) (x8 : Value) (x9 : Value) (x10 : Value) (x11 : Value) (x12 : Value) (x13 : Value) (x14 : Value) (x15 : Value) (x16 : Value) (x17 : Value) (x18 : Value) (x19 : Value) (x20 : Value) (x21 : Value) (x22 : Value) (x23 : Value) (x24 : Value) (x25 : Value) (x26 : Value) (x27 : Value) (x28 : Value) (x29 : Value) (x30 : Value) (x31 : Value) (x32 : Value) (x33 : Value) (x34 : Value) (x35 : Value) (x36 : Value) (x37 : Value) (x38 : Value) (x39 : Value) (x40 : Value) (x41 : Value) (x42 : Value) (x43 : Value) (x44 : Value) (x45 : Value) (x46 : Value) (x47 : Value) (x48 : Value) (x49 : Value) (x50 : Value) (x51 : Value) (x52 : Value) (x53 : Value) (x54 : Value) (x55 : Value) (x56 : Value) (x57 : Value) (x58 : Value) (x59 : Value) (x60 : Value) (x61 : Value) (x62 : Value) (x63 : Value) (x64 : Value) (x65 : Value) (x66 : Value) (x67 : Value) (x68 : Value) (x69 : Value) (x70 : Value) (x71 : Value) (x72 : Value) (x73 : Value) (x74 : Value) (x75 : Value) (x76 : Value) (x77 : Value) (x78 : Value) (x79 : Value) (x80 : Value) (x81 : Value) (x82 : Value) (x83 : Value) (x84 : Value) (x85 : Value) (x86 : Value) (x87 : Value) (x88 : Value) (ka : Int32)  : XMi l D (tyL cy) E0 yX12_fault cX12_fault 2 (some .int) (rmk 3 0 0) [.ref b0, .int ka] [(b0, .inr (12, [x0, x1, .int 0, .int (-1), x4, x5, x6, x7, x8, x9, x10, x11, x12, x13, x14, x15, x16, x17, x18, x19, x20, x21, x22, x23, x24, x25, x26, x27, x28, x29, x30, x31, x32, x33, x34, x35, x36, x37, x38, x39, x40, x41, x42, x43, x44, x45, x46, x47, x48, x49, x50, x51, x52, x53, x54, x55, x56, x57, x58, x59, x60, x61, x62, x63, x64, x65, x66, x67, x68, x69, x70, x71, x72, x73, x74, x75, x76, x77, x78, x79, x80, x81, x82, x83, x84, x85, x86, x87, x88]))] (fun (r : Int32) (_ : Unit) => r = if ka.toInt = 0 then 0 else -1) (fun (_ : Unit) => []) := by
  refine XMi.start (by decide) (Nat.le_of_ble_eq_true rfl) ?_
  intro p e s m below meth c args A ls Q hat hQ
  obtain ⟨hx, hb, hr, hml, hown, hg, hlocks, hin, hK, hA, hP, hD, hS, hE, hl⟩ := hat
  have hown : s.vm.findClass RX12 = some m.cls := hown
  have hl : lv_has ls 2 [(0, .ref b0), (1, .int ka)] := hl
  refine lv_iload_n hx hb dX12_fault_0 rfl (lv_at hl 1 rfl) ?_
  refine lv_if_ne (tgt := 11) hx hb dX12_fault_1 (by decide) (fun c_1 => ?_) (fun c_1 => ?_)
  · refine lv_iload_n hx hb dX12_fault_11 rfl (lv_at hl 1 rfl) ?_
    refine lv_iconst (v := 1) hx hb dX12_fault_12 (by decide) ?_
    refine lv_icmp_ne (tgt := 23) hx hb dX12_fault_13 (by decide) (fun c_13 => ?_) (fun c_13 => ?_)
    · refine lv_iconst (v := -1) hx hb dX12_fault_23 (by decide) ?_
      have qc_1 : ¬ (ka : Int32).toInt = (0 : Int32).toInt := fun h => c_1 ((fa_eq _ _).mpr h)
      have qc_13 : ¬ (ka : Int32).toInt = (1 : Int32).toInt := fun h => c_13 ((fa_eq _ _).mpr h)
      have z0 : (0 : Int32).toInt = 0 := by decide
      have z1 : (1 : Int32).toInt = 1 := by decide
      exact x_iret hQ hx hb hr hlocks hK hP hD hS dX12_fault_24 () ((if_neg (by omega)).symm) [] (by decide) rfl (Nat.le_of_ble_eq_true rfl) (Nat.le_of_ble_eq_true rfl)
    · refine lv_aload_n hx hb dX12_fault_16 rfl (lv_at hl 0 rfl) ?_
      refine va_get (D := D) (ci := 12) (v := .int (-1)) (C := RX12) (T := TX12) (N := 89) hx hb hg i_X12 hown hK hP 0 rfl rfl 3 (by decide) (hg _ m_1416) (fun _ h9 => h9) rfl dX12_fault_17 ?_
      refine lv_goto (tgt := 24) hx hb dX12_fault_20 (by decide) ?_
      have qc_1 : ¬ (ka : Int32).toInt = (0 : Int32).toInt := fun h => c_1 ((fa_eq _ _).mpr h)
      have qc_13 : (ka : Int32).toInt = (1 : Int32).toInt := (fa_eq _ _).mp c_13
      have z0 : (0 : Int32).toInt = 0 := by decide
      have z1 : (1 : Int32).toInt = 1 := by decide
      exact x_iret hQ hx hb hr hlocks hK hP hD hS dX12_fault_24 () ((if_neg (by omega)).symm) [] (by decide) rfl (Nat.le_of_ble_eq_true rfl) (Nat.le_of_ble_eq_true rfl)
  · refine lv_aload_n hx hb dX12_fault_4 rfl (lv_at hl 0 rfl) ?_
    refine va_get (D := D) (ci := 12) (v := .int 0) (C := RX12) (T := TX12) (N := 89) hx hb hg i_X12 hown hK hP 0 rfl rfl 2 (by decide) (hg _ m_1415) (fun _ h9 => h9) rfl dX12_fault_5 ?_
    refine lv_goto (tgt := 24) hx hb dX12_fault_8 (by decide) ?_
    have qc_1 : (ka : Int32).toInt = (0 : Int32).toInt := (fa_eq _ _).mp c_1
    have z0 : (0 : Int32).toInt = 0 := by decide
    exact x_iret hQ hx hb hr hlocks hK hP hD hS dX12_fault_24 () ((if_pos (by omega)).symm) [] (by decide) rfl (Nat.le_of_ble_eq_true rfl) (Nat.le_of_ble_eq_true rfl)
theorem dX12_lies_0 : decode cX12_lies 0 = .ok (.iload_n 1, 1) := by decide +kernel
theorem dX12_lies_1 : decode cX12_lies 1 = .ok (.iconst 0, 1) := by decide +kernel
theorem dX12_lies_2 : decode cX12_lies 2 = .ok (.aload_n 0, 1) := by decide +kernel
theorem dX12_lies_3 : decode cX12_lies 3 = .ok (.getfield 433, 3) := by decide +kernel
theorem dX12_lies_6 : decode cX12_lies 6 = .ok (.iconst 1, 1) := by decide +kernel
theorem dX12_lies_7 : decode cX12_lies 7 = .ok (.isub, 1) := by decide +kernel
theorem dX12_lies_8 : decode cX12_lies 8 = .ok (.invokestatic 436, 3) := by decide +kernel
theorem dX12_lies_11 : decode cX12_lies 11 = .ok (.ifCond .eq 12, 3) := by decide +kernel
theorem dX12_lies_23 : decode cX12_lies 23 = .ok (.iconst (-1), 1) := by decide +kernel
theorem dX12_lies_24 : decode cX12_lies 24 = .ok (.ireturn, 1) := by decide +kernel
set_option maxHeartbeats 400000 in
set_option maxRecDepth 100000 in
theorem m_lies (l : Launch) (D : va_G) (cy : Nat → ClassId) (b0 : Nat) (x0 : Value) (x1 : Value) (x2 : Value) (x3 : Value) (x4 : Value) (x5 : Value) (x6 : Value) (x7 : Value) (x8 : Value) (x9 : Value) (x10 : Value) (x11 : Value) (x12 : Value) (x13 : Value) (x14 : Value) (x15 : Value) (x16 : Value) (x17 : Value) (x18 : Value) (x19 : Value) (x20 : Value) (x21 : Value) (x22 : Value) (x23 : Value) (x24 : Value) (x25 : Value) (x26 : Value) (x27 : Value) (x28 : Value) (x29 : Value) (x30 : Value) (x31 : Value) (x32 : Value) (x33 : Value) (x34 : Value) (x35 : Value) (x36 : Value) (x37 : Value) (x38 : Value) (x39 : Value) (x40 : Value) (x41 : Value) (x42 : Value) (x43 : Value) (x44 : Value) (x45 : Value) (x46 : Value) (x47 : Value) (x48 : Value) (x49 : Value) (x50 : Value) (x51 : Value) (x52 : Value) (x53 : Value) (x54 : Value) (x55 : Value) (x56 : Value) (x57 : Value) (x58 : Value) (x59 : Value) (x60 : Value) (x61 : Value) (x62 : Value) (x63 : Value) (x64 : Value) (x65 : Value) (x66 : Value) (x67 : Value) (x68 : Value) (x69 : Value) (x70 : Value) (x72 : Value) (x73 : Value) (x74 : Value) (x75 : Value) (x76 : Value) (x77 : Value) (x78 : Value) (x79 : Value) (x80 : Value) (x81 : Value) (x82 : Value) (x83 : Value) (x84 : Value) (x85 : Value) (x86 : Value) (x87 : Value) (x88 : Value) (ka : Int32)  : XMi l D (tyL cy) E0 yX12_lies cX12_lies 2 (some .int) (rmk 3 0 0) [.ref b0, .int ka] [(b0, .inr (12, [x0, x1, x2, x3, x4, x5, x6, x7, x8, x9, x10, x11, x12, x13, x14, x15, x16, x17, x18, x19, x20, x21, x22, x23, x24, x25, x26, x27, x28, x29, x30, x31, x32, x33, x34, x35, x36, x37, x38, x39, x40, x41, x42, x43, x44, x45, x46, x47, x48, x49, x50, x51, x52, x53, x54, x55, x56, x57, x58, x59, x60, x61, x62, x63, x64, x65, x66, x67, x68, x69, x70, .int 0, x72, x73, x74, x75, x76, x77, x78, x79, x80, x81, x82, x83, x84, x85, x86, x87, x88]))] (fun (r : Int32) (_ : Unit) => r = -1) (fun (_ : Unit) => []) := by
  refine XMi.start (by decide) (Nat.le_of_ble_eq_true rfl) ?_
  intro p e s m below meth c args A ls Q hat hQ
  obtain ⟨hx, hb, hr, hml, hown, hg, hlocks, hin, hK, hA, hP, hD, hS, hE, hl⟩ := hat
  have hown : s.vm.findClass RX12 = some m.cls := hown
  have hl : lv_has ls 2 [(0, .ref b0), (1, .int ka)] := hl
  refine lv_iload_n hx hb dX12_lies_0 rfl (lv_at hl 1 rfl) ?_
  refine lv_iconst (v := 0) hx hb dX12_lies_1 (by decide) ?_
  refine lv_aload_n hx hb dX12_lies_2 rfl (lv_at hl 0 rfl) ?_
  refine va_get (D := D) (ci := 12) (v := .int 0) (C := RX12) (T := TX12) (N := 89) hx hb hg i_X12 hown hK hP 0 rfl rfl 71 (by decide) (hg _ m_1484) (fun _ h9 => h9) rfl dX12_lies_3 ?_
  refine lv_iconst (v := 1) hx hb dX12_lies_6 (by decide) ?_
  refine lv_isub hx hb dX12_lies_7 ?_
  refine lv_topi (fun y_1 hy_1 => ?_)
  obtain rfl : y_1 = -1 := hy_1.trans (by decide +kernel)
  refine x_callSi (wr := [(b0, .inr (12, [x0, x1, x2, x3, x4, x5, x6, x7, x8, x9, x10, x11, x12, x13, x14, x15, x16, x17, x18, x19, x20, x21, x22, x23, x24, x25, x26, x27, x28, x29, x30, x31, x32, x33, x34, x35, x36, x37, x38, x39, x40, x41, x42, x43, x44, x45, x46, x47, x48, x49, x50, x51, x52, x53, x54, x55, x56, x57, x58, x59, x60, x61, x62, x63, x64, x65, x66, x67, x68, x69, x70, .int 0, x72, x73, x74, x75, x76, x77, x78, x79, x80, x81, x82, x83, x84, x85, x86, x87, x88]))]) (rest := []) ⟨hx, hb, hml, hown, hg, hl.1⟩ k_X12_436 (m_isIn l D cy ka 0 (-1)) E0_blind hK hP hD hS hA [] [0] ⟨rfl, rfl, by decide, by decide, by decide⟩ (fun _ _ _ => trivial) dX12_lies_8 rfl rfl (Nat.le_of_ble_eq_true rfl) ⟨Nat.le_of_ble_eq_true rfl, Nat.le_of_ble_eq_true rfl⟩ ⟨Nat.le_of_ble_eq_true rfl, Nat.le_of_ble_eq_true rfl⟩ (fun r2 u2 H locs hw2 hP hD hS => ?_)
  have hP : va_P D vwCl [(b0, .inr (12, [x0, x1, x2, x3, x4, x5, x6, x7, x8, x9, x10, x11, x12, x13, x14, x15, x16, x17, x18, x19, x20, x21, x22, x23, x24, x25, x26, x27, x28, x29, x30, x31, x32, x33, x34, x35, x36, x37, x38, x39, x40, x41, x42, x43, x44, x45, x46, x47, x48, x49, x50, x51, x52, x53, x54, x55, x56, x57, x58, x59, x60, x61, x62, x63, x64, x65, x66, x67, x68, x69, x70, .int 0, x72, x73, x74, x75, x76, x77, x78, x79, x80, x81, x82, x83, x84, x85, x86, x87, x88]))] H := hP
  have hD : va_D A [(b0, .inr (12, [x0, x1, x2, x3, x4, x5, x6, x7, x8, x9, x10, x11, x12, x13, x14, x15, x16, x17, x18, x19, x20, x21, x22, x23, x24, x25, x26, x27, x28, x29, x30, x31, x32, x33, x34, x35, x36, x37, x38, x39, x40, x41, x42, x43, x44, x45, x46, x47, x48, x49, x50, x51, x52, x53, x54, x55, x56, x57, x58, x59, x60, x61, x62, x63, x64, x65, x66, x67, x68, x69, x70, .int 0, x72, x73, x74, x75, x76, x77, x78, x79, x80, x81, x82, x83, x84, x85, x86, x87, x88]))] := hD
  refine W.widen (k := 0) (n := 0) (Nat.le_of_ble_eq_true rfl) (Nat.le_of_ble_eq_true rfl) ?_
  have hw2 : (r2 = 1 ∧ (0 : Int32).toInt ≤ ka.toInt ∧ ka.toInt ≤ (-1 : Int32).toInt) ∨ (r2 = 0 ∧ ¬ ((0 : Int32).toInt ≤ ka.toInt ∧ ka.toInt ≤ (-1 : Int32).toInt)) := hw2
  have z0 : (0 : Int32).toInt = 0 := by decide
  have zm1 : (-1 : Int32).toInt = -1 := by decide
  obtain rfl : r2 = 0 := hw2.elim (fun h => absurd h.2 (by omega)) (fun h => h.1)
  refine lv_if_eq (tgt := 23) hx hb dX12_lies_11 (by decide) (fun _ => ?_) (fun h => absurd (by decide) h)
  refine lv_iconst (v := -1) hx hb dX12_lies_23 (by decide) ?_
  exact x_iret hQ hx hb hr hlocks hK hP hD hS dX12_lies_24 () (rfl) [] (by decide) rfl (Nat.le_of_ble_eq_true rfl) (Nat.le_of_ble_eq_true rfl)
theorem dX12_later_0 : decode cX12_later 0 = .ok (.iload_n 1, 1) := by decide +kernel
theorem dX12_later_1 : decode cX12_later 1 = .ok (.ifCond .lt 22, 3) := by decide +kernel
theorem dX12_later_23 : decode cX12_later 23 = .ok (.iconst (-1), 1) := by decide +kernel
theorem dX12_later_24 : decode cX12_later 24 = .ok (.ireturn, 1) := by decide +kernel
theorem dX12_later_4 : decode cX12_later 4 = .ok (.iload_n 1, 1) := by decide +kernel
theorem dX12_later_5 : decode cX12_later 5 = .ok (.sipush 1000, 3) := by decide +kernel
theorem dX12_later_8 : decode cX12_later 8 = .ok (.if_icmp .gt 15, 3) := by decide +kernel
theorem dX12_later_11 : decode cX12_later 11 = .ok (.aload_n 0, 1) := by decide +kernel
theorem dX12_later_12 : decode cX12_later 12 = .ok (.getfield 561, 3) := by decide +kernel
theorem m_1496 : (Cond.fieldLink RX12 561 "CliffJudgesModel" "time" "I") ∈ gT := gm 1496 (by decide +kernel) (by decide +kernel)
theorem dX12_later_15 : decode cX12_later 15 = .ok (.iload_n 1, 1) := by decide +kernel
theorem dX12_later_16 : decode cX12_later 16 = .ok (.iadd, 1) := by decide +kernel
theorem dX12_later_17 : decode cX12_later 17 = .ok (.ldc_w 564, 3) := by decide +kernel
theorem m_2120 : (Cond.constant RX12 564 (100000)) ∈ gT := gm 2120 (by decide +kernel) (by decide +kernel)
theorem dX12_later_20 : decode cX12_later 20 = .ok (.if_icmp .le 5, 3) := by decide +kernel
theorem dX12_later_25 : decode cX12_later 25 = .ok (.aload_n 0, 1) := by decide +kernel
theorem dX12_later_26 : decode cX12_later 26 = .ok (.dup, 1) := by decide +kernel
theorem dX12_later_27 : decode cX12_later 27 = .ok (.getfield 561, 3) := by decide +kernel
theorem dX12_later_30 : decode cX12_later 30 = .ok (.iload_n 1, 1) := by decide +kernel
theorem dX12_later_31 : decode cX12_later 31 = .ok (.iadd, 1) := by decide +kernel
theorem dX12_later_32 : decode cX12_later 32 = .ok (.putfield 561, 3) := by decide +kernel
theorem dX12_later_35 : decode cX12_later 35 = .ok (.aload_n 0, 1) := by decide +kernel
theorem dX12_later_36 : decode cX12_later 36 = .ok (.getfield 561, 3) := by decide +kernel
theorem dX12_later_39 : decode cX12_later 39 = .ok (.ireturn, 1) := by decide +kernel
set_option maxHeartbeats 400000 in
set_option maxRecDepth 100000 in
theorem m_later (l : Launch) (D : va_G) (cy : Nat → ClassId) (b0 : Nat) (x0 : Value) (x1 : Value) (x2 : Value) (x3 : Value) (x4 : Value) (x5 : Value) (x6 : Value) (x7 : Value) (x8 : Value) (x9 : Value) (x10 : Value) (x11 : Value) (x12 : Value) (x13 : Value) (x14 : Value) (x15 : Value) (x16 : Value) (x17 : Value) (x18 : Value) (x19 : Value) (x20 : Value) (x21 : Value) (x22 : Value) (x23 : Value) (x24 : Value) (x25 : Value) (x26 : Value) (x27 : Value) (x28 : Value) (x29 : Value) (x30 : Value) (x31 : Value) (x32 : Value) (x33 : Value) (x34 : Value) (x35 : Value) (x36 : Value) (x37 : Value) (x38 : Value) (x39 : Value) (x40 : Value) (x41 : Value) (x42 : Value) (x43 : Value) (x44 : Value) (x45 : Value) (x46 : Value) (x47 : Value) (x48 : Value) (x49 : Value) (x50 : Value) (x51 : Value) (x52 : Value) (x53 : Value) (x54 : Value) (x55 : Value) (x56 : Value) (x57 : Value) (x58 : Value) (x59 : Value) (x60 : Value) (x61 : Value) (x62 : Value) (x63 : Value) (x64 : Value) (x65 : Value) (x66 : Value) (x67 : Value) (x68 : Value) (x69 : Value) (x70 : Value) (x71 : Value) (x72 : Value) (x73 : Value) (x74 : Value) (x75 : Value) (x76 : Value) (x77 : Value) (x78 : Value) (x79 : Value) (x80 : Value) (x81 : Value) (x82 : Value) (x84 : Value) (x85 : Value) (x86 : Value) (x87 : Value) (x88 : Value) (ka : Int32)  : XMi l D (tyL cy) E0 yX12_later cX12_later 2 (some .int) (rmk 3 0 0) [.ref b0, .int ka] [(b0, .inr (12, [x0, x1, x2, x3, x4, x5, x6, x7, x8, x9, x10, x11, x12, x13, x14, x15, x16, x17, x18, x19, x20, x21, x22, x23, x24, x25, x26, x27, x28, x29, x30, x31, x32, x33, x34, x35, x36, x37, x38, x39, x40, x41, x42, x43, x44, x45, x46, x47, x48, x49, x50, x51, x52, x53, x54, x55, x56, x57, x58, x59, x60, x61, x62, x63, x64, x65, x66, x67, x68, x69, x70, x71, x72, x73, x74, x75, x76, x77, x78, x79, x80, x81, x82, .int 0, x84, x85, x86, x87, x88]))] (fun (r : Int32) (_ : Unit) => r = if 0 ≤ ka.toInt ∧ ka.toInt ≤ 1000 then ka else -1) (fun (_ : Unit) => []) := by
  refine XMi.start (by decide) (Nat.le_of_ble_eq_true rfl) ?_
  intro p e s m below meth c args A ls Q hat hQ
  obtain ⟨hx, hb, hr, hml, hown, hg, hlocks, hin, hK, hA, hP, hD, hS, hE, hl⟩ := hat
  have hown : s.vm.findClass RX12 = some m.cls := hown
  have hl : lv_has ls 2 [(0, .ref b0), (1, .int ka)] := hl
  refine lv_iload_n hx hb dX12_later_0 rfl (lv_at hl 1 rfl) ?_
  refine lv_if_lt (tgt := 23) hx hb dX12_later_1 (by decide) (fun c_1 => ?_) (fun c_1 => ?_)
  · refine lv_iconst (v := -1) hx hb dX12_later_23 (by decide) ?_
    have qc_1 : (ka : Int32).toInt < (0 : Int32).toInt := (fa_lt _ _).mp c_1
    have z0 : (0 : Int32).toInt = 0 := by decide
    exact x_iret hQ hx hb hr hlocks hK hP hD hS dX12_later_24 () ((if_neg (by omega)).symm) [] (by decide) rfl (Nat.le_of_ble_eq_true rfl) (Nat.le_of_ble_eq_true rfl)
  · refine lv_iload_n hx hb dX12_later_4 rfl (lv_at hl 1 rfl) ?_
    refine lv_sipush (v := 1000) hx hb dX12_later_5 (by decide) ?_
    refine lv_icmp_gt (tgt := 23) hx hb dX12_later_8 (by decide) (fun c_8 => ?_) (fun c_8 => ?_)
    · refine lv_iconst (v := -1) hx hb dX12_later_23 (by decide) ?_
      have qc_1 : ¬ (ka : Int32).toInt < (0 : Int32).toInt := fun h => c_1 ((fa_lt _ _).mpr h)
      have qc_8 : (1000 : Int32).toInt < (ka : Int32).toInt := (fa_lt _ _).mp c_8
      have z0 : (0 : Int32).toInt = 0 := by decide
      have z1000 : (1000 : Int32).toInt = 1000 := by decide
      exact x_iret hQ hx hb hr hlocks hK hP hD hS dX12_later_24 () ((if_neg (by omega)).symm) [] (by decide) rfl (Nat.le_of_ble_eq_true rfl) (Nat.le_of_ble_eq_true rfl)
    · refine lv_aload_n hx hb dX12_later_11 rfl (lv_at hl 0 rfl) ?_
      refine va_get (D := D) (ci := 12) (v := .int 0) (C := RX12) (T := TX12) (N := 89) hx hb hg i_X12 hown hK hP 0 rfl rfl 83 (by decide) (hg _ m_1496) (fun _ h9 => h9) rfl dX12_later_12 ?_
      refine lv_iload_n hx hb dX12_later_15 rfl (lv_at hl 1 rfl) ?_
      refine lv_iadd hx hb dX12_later_16 ?_
      refine lv_topi (fun x_1 ex_1 => ?_)
      refine lv_ldcw (v := 100000) hx hb hown (hg _ m_2120) dX12_later_17 ?_
      have qc_1 : ¬ (ka : Int32).toInt < (0 : Int32).toInt := fun h => c_1 ((fa_lt _ _).mpr h)
      have qc_8 : ¬ (1000 : Int32).toInt < (ka : Int32).toInt := fun h => c_8 ((fa_lt _ _).mpr h)
      have z0 : (0 : Int32).toInt = 0 := by decide
      have z1000 : (1000 : Int32).toInt = 1000 := by decide
      have z100000 : (100000 : Int32).toInt = 100000 := by decide
      have hle : x_1 ≤ (100000 : Int32) := by rw [ex_1, Int32.zero_add, fa_le]; omega
      refine lv_icmp_le (tgt := 25) hx hb dX12_later_20 (by decide) (fun _ => ?_) (fun h => absurd hle h)
      refine lv_aload_n hx hb dX12_later_25 rfl (lv_at hl 0 rfl) ?_
      refine lv_dup hx hb dX12_later_26 rfl ?_
      refine va_get (D := D) (ci := 12) (v := .int 0) (C := RX12) (T := TX12) (N := 89) hx hb hg i_X12 hown hK hP 0 rfl rfl 83 (by decide) (hg _ m_1496) (fun _ h9 => h9) rfl dX12_later_27 ?_
      refine lv_iload_n hx hb dX12_later_30 rfl (lv_at hl 1 rfl) ?_
      refine lv_iadd hx hb dX12_later_31 ?_
      refine lv_topi (fun x_2 ex_2 => ?_)
      refine va_put (D := D) (ci := 12) (v := .int x_2) (ty := .int) (C := RX12) (T := TX12) (N := 89) hx hb hg i_X12 tyX12 tyX12_ok nmX12 hown hK hP hD hS 0 rfl rfl 83 (by decide) (hg _ m_1496) (fun _ h9 => h9) rfl (by decide +kernel) rfl rfl (Nat.le_of_ble_eq_true rfl) dX12_later_32 (fun H locs hP hD hS => ?_)
      have hP : va_P D vwCl [(b0, .inr (12, [x0, x1, x2, x3, x4, x5, x6, x7, x8, x9, x10, x11, x12, x13, x14, x15, x16, x17, x18, x19, x20, x21, x22, x23, x24, x25, x26, x27, x28, x29, x30, x31, x32, x33, x34, x35, x36, x37, x38, x39, x40, x41, x42, x43, x44, x45, x46, x47, x48, x49, x50, x51, x52, x53, x54, x55, x56, x57, x58, x59, x60, x61, x62, x63, x64, x65, x66, x67, x68, x69, x70, x71, x72, x73, x74, x75, x76, x77, x78, x79, x80, x81, x82, .int x_2, x84, x85, x86, x87, x88]))] H := hP
      have hD : va_D A [(b0, .inr (12, [x0, x1, x2, x3, x4, x5, x6, x7, x8, x9, x10, x11, x12, x13, x14, x15, x16, x17, x18, x19, x20, x21, x22, x23, x24, x25, x26, x27, x28, x29, x30, x31, x32, x33, x34, x35, x36, x37, x38, x39, x40, x41, x42, x43, x44, x45, x46, x47, x48, x49, x50, x51, x52, x53, x54, x55, x56, x57, x58, x59, x60, x61, x62, x63, x64, x65, x66, x67, x68, x69, x70, x71, x72, x73, x74, x75, x76, x77, x78, x79, x80, x81, x82, .int x_2, x84, x85, x86, x87, x88]))] := hD
      refine lv_aload_n hx hb dX12_later_35 rfl (lv_at hl 0 rfl) ?_
      refine va_get (D := D) (ci := 12) (v := .int x_2) (C := RX12) (T := TX12) (N := 89) hx hb hg i_X12 hown hK hP 0 rfl rfl 83 (by decide) (hg _ m_1496) (fun _ h9 => h9) rfl dX12_later_36 ?_
      have qc_1 : ¬ (ka : Int32).toInt < (0 : Int32).toInt := fun h => c_1 ((fa_lt _ _).mpr h)
      have qc_8 : ¬ (1000 : Int32).toInt < (ka : Int32).toInt := fun h => c_8 ((fa_lt _ _).mpr h)
      have z0 : (0 : Int32).toInt = 0 := by decide
      have z1000 : (1000 : Int32).toInt = 1000 := by decide
      exact x_iret hQ hx hb hr hlocks hK hP hD hS dX12_later_39 () (by rw [if_pos (by omega), ex_2, Int32.zero_add]) [] (by decide) rfl (Nat.le_of_ble_eq_true rfl) (Nat.le_of_ble_eq_true rfl)
theorem dX12_ask_0 : decode cX12_ask 0 = .ok (.iload_n 1, 1) := by decide +kernel
theorem dX12_ask_1 : decode cX12_ask 1 = .ok (.iconst 0, 1) := by decide +kernel
theorem dX12_ask_2 : decode cX12_ask 2 = .ok (.iconst 1, 1) := by decide +kernel
theorem dX12_ask_3 : decode cX12_ask 3 = .ok (.invokestatic 436, 3) := by decide +kernel
theorem dX12_ask_6 : decode cX12_ask 6 = .ok (.ifCond .eq 10, 3) := by decide +kernel
theorem dX12_ask_16 : decode cX12_ask 16 = .ok (.iconst (-1), 1) := by decide +kernel
theorem dX12_ask_17 : decode cX12_ask 17 = .ok (.ireturn, 1) := by decide +kernel
theorem dX12_ask_9 : decode cX12_ask 9 = .ok (.aload_n 0, 1) := by decide +kernel
theorem dX12_ask_10 : decode cX12_ask 10 = .ok (.getfield 406, 3) := by decide +kernel
theorem dX12_ask_13 : decode cX12_ask 13 = .ok (.ifCond .ne 5, 3) := by decide +kernel
set_option maxHeartbeats 400000 in
set_option maxRecDepth 100000 in
theorem m_ask (l : Launch) (D : va_G) (cy : Nat → ClassId) (b0 : Nat) (x0 : Value) (x1 : Value) (x2 : Value) (x3 : Value) (x4 : Value) (x5 : Value) (x6 : Value) (x7 : Value) (x8 : Value) (x9 : Value) (x10 : Value) (x11 : Value) (x12 : Value) (x13 : Value) (x14 : Value) (x15 : Value) (x16 : Value) (x17 : Value) (x18 : Value) (x19 : Value) (x20 : Value) (x21 : Value) (x22 : Value) (x23 : Value) (x24 : Value) (x25 : Value) (x26 : Value) (x27 : Value) (x28 : Value) (x29 : Value) (x30 : Value) (x31 : Value) (x32 : Value) (x33 : Value) (x34 : Value) (x35 : Value) (x36 : Value) (x37 : Value) (x38 : Value) (x39 : Value) (x40 : Value) (x41 : Value) (x42 : Value) (x43 : Value) (x44 : Value) (x45 : Value) (x46 : Value) (x47 : Value) (x48 : Value) (x49 : Value) (x51 : Value) (x52 : Value) (x53 : Value) (x54 : Value) (x55 : Value) (x56 : Value) (x57 : Value) (x58 : Value) (x59 : Value) (x60 : Value) (x61 : Value) (x62 : Value) (x63 : Value) (x64 : Value) (x65 : Value) (x66 : Value) (x67 : Value) (x68 : Value) (x69 : Value) (x70 : Value) (x71 : Value) (x72 : Value) (x73 : Value) (x74 : Value) (x75 : Value) (x76 : Value) (x77 : Value) (x78 : Value) (x79 : Value) (x80 : Value) (x81 : Value) (x82 : Value) (x83 : Value) (x84 : Value) (x85 : Value) (x86 : Value) (x87 : Value) (x88 : Value) (ka : Int32) (kb : Int32)  : XMi l D (tyL cy) E0 yX12_ask cX12_ask 8 (some .int) (rmk 3 0 0) [.ref b0, .int ka, .int kb] [(b0, .inr (12, [x0, x1, x2, x3, x4, x5, x6, x7, x8, x9, x10, x11, x12, x13, x14, x15, x16, x17, x18, x19, x20, x21, x22, x23, x24, x25, x26, x27, x28, x29, x30, x31, x32, x33, x34, x35, x36, x37, x38, x39, x40, x41, x42, x43, x44, x45, x46, x47, x48, x49, .int 0, x51, x52, x53, x54, x55, x56, x57, x58, x59, x60, x61, x62, x63, x64, x65, x66, x67, x68, x69, x70, x71, x72, x73, x74, x75, x76, x77, x78, x79, x80, x81, x82, x83, x84, x85, x86, x87, x88]))] (fun (r : Int32) (_ : Unit) => r = -1) (fun (_ : Unit) => []) := by
  refine XMi.start (by decide) (Nat.le_of_ble_eq_true rfl) ?_
  intro p e s m below meth c args A ls Q hat hQ
  obtain ⟨hx, hb, hr, hml, hown, hg, hlocks, hin, hK, hA, hP, hD, hS, hE, hl⟩ := hat
  have hown : s.vm.findClass RX12 = some m.cls := hown
  have hl : lv_has ls 8 [(0, .ref b0), (1, .int ka), (2, .int kb)] := hl
  refine lv_iload_n hx hb dX12_ask_0 rfl (lv_at hl 1 rfl) ?_
  refine lv_iconst (v := 0) hx hb dX12_ask_1 (by decide) ?_
  refine lv_iconst (v := 1) hx hb dX12_ask_2 (by decide) ?_
  refine x_callSi (wr := [(b0, .inr (12, [x0, x1, x2, x3, x4, x5, x6, x7, x8, x9, x10, x11, x12, x13, x14, x15, x16, x17, x18, x19, x20, x21, x22, x23, x24, x25, x26, x27, x28, x29, x30, x31, x32, x33, x34, x35, x36, x37, x38, x39, x40, x41, x42, x43, x44, x45, x46, x47, x48, x49, .int 0, x51, x52, x53, x54, x55, x56, x57, x58, x59, x60, x61, x62, x63, x64, x65, x66, x67, x68, x69, x70, x71, x72, x73, x74, x75, x76, x77, x78, x79, x80, x81, x82, x83, x84, x85, x86, x87, x88]))]) (rest := []) ⟨hx, hb, hml, hown, hg, hl.1⟩ k_X12_436 (m_isIn l D cy ka 0 1) E0_blind hK hP hD hS hA [] [0] ⟨rfl, rfl, by decide, by decide, by decide⟩ (fun _ _ _ => trivial) dX12_ask_3 rfl rfl (Nat.le_of_ble_eq_true rfl) ⟨Nat.le_of_ble_eq_true rfl, Nat.le_of_ble_eq_true rfl⟩ ⟨Nat.le_of_ble_eq_true rfl, Nat.le_of_ble_eq_true rfl⟩ (fun r1 u1 H locs hw1 hP hD hS => ?_)
  have hP : va_P D vwCl [(b0, .inr (12, [x0, x1, x2, x3, x4, x5, x6, x7, x8, x9, x10, x11, x12, x13, x14, x15, x16, x17, x18, x19, x20, x21, x22, x23, x24, x25, x26, x27, x28, x29, x30, x31, x32, x33, x34, x35, x36, x37, x38, x39, x40, x41, x42, x43, x44, x45, x46, x47, x48, x49, .int 0, x51, x52, x53, x54, x55, x56, x57, x58, x59, x60, x61, x62, x63, x64, x65, x66, x67, x68, x69, x70, x71, x72, x73, x74, x75, x76, x77, x78, x79, x80, x81, x82, x83, x84, x85, x86, x87, x88]))] H := hP
  have hD : va_D A [(b0, .inr (12, [x0, x1, x2, x3, x4, x5, x6, x7, x8, x9, x10, x11, x12, x13, x14, x15, x16, x17, x18, x19, x20, x21, x22, x23, x24, x25, x26, x27, x28, x29, x30, x31, x32, x33, x34, x35, x36, x37, x38, x39, x40, x41, x42, x43, x44, x45, x46, x47, x48, x49, .int 0, x51, x52, x53, x54, x55, x56, x57, x58, x59, x60, x61, x62, x63, x64, x65, x66, x67, x68, x69, x70, x71, x72, x73, x74, x75, x76, x77, x78, x79, x80, x81, x82, x83, x84, x85, x86, x87, x88]))] := hD
  refine W.widen (k := 0) (n := 0) (Nat.le_of_ble_eq_true rfl) (Nat.le_of_ble_eq_true rfl) ?_
  have hw1 : (r1 = 1 ∧ (0 : Int32).toInt ≤ ka.toInt ∧ ka.toInt ≤ (1 : Int32).toInt) ∨ (r1 = 0 ∧ ¬ ((0 : Int32).toInt ≤ ka.toInt ∧ ka.toInt ≤ (1 : Int32).toInt)) := hw1
  refine lv_if_eq (tgt := 16) hx hb dX12_ask_6 (by decide) (fun c_6 => ?_) (fun c_6 => ?_)
  · refine lv_iconst (v := -1) hx hb dX12_ask_16 (by decide) ?_
    exact x_iret hQ hx hb hr hlocks hK hP hD hS dX12_ask_17 () (rfl) [] (by decide) rfl (Nat.le_of_ble_eq_true rfl) (Nat.le_of_ble_eq_true rfl)
  · refine lv_aload_n hx hb dX12_ask_9 rfl (lv_at hl 0 rfl) ?_
    refine va_get (D := D) (ci := 12) (v := .int 0) (C := RX12) (T := TX12) (N := 89) hx hb hg i_X12 hown hK hP 0 rfl rfl 50 (by decide) (hg _ m_1463) (fun _ h9 => h9) rfl dX12_ask_10 ?_
    refine lv_if_ne (tgt := 18) hx hb dX12_ask_13 (by decide) (fun h => absurd (by decide) h) (fun _ => ?_)
    refine lv_iconst (v := -1) hx hb dX12_ask_16 (by decide) ?_
    exact x_iret hQ hx hb hr hlocks hK hP hD hS dX12_ask_17 () (rfl) [] (by decide) rfl (Nat.le_of_ble_eq_true rfl) (Nat.le_of_ble_eq_true rfl)
theorem dX12_undo_0 : decode cX12_undo 0 = .ok (.aload_n 0, 1) := by decide +kernel
theorem dX12_undo_1 : decode cX12_undo 1 = .ok (.getfield 424, 3) := by decide +kernel
theorem m_1481 : (Cond.fieldLink RX12 424 "CliffJudgesModel" "acts" "I") ∈ gT := gm 1481 (by decide +kernel) (by decide +kernel)
theorem dX12_undo_4 : decode cX12_undo 4 = .ok (.ifCond .ne 5, 3) := by decide +kernel
theorem dX12_undo_7 : decode cX12_undo 7 = .ok (.iconst 0, 1) := by decide +kernel
theorem dX12_undo_8 : decode cX12_undo 8 = .ok (.ireturn, 1) := by decide +kernel
set_option maxHeartbeats 400000 in
set_option maxRecDepth 100000 in
theorem m_undo (l : Launch) (D : va_G) (cy : Nat → ClassId) (b0 : Nat) (x0 : Value) (x1 : Value) (x2 : Value) (x3 : Value) (x4 : Value) (x5 : Value) (x6 : Value) (x7 : Value) (x8 : Value) (x9 : Value) (x10 : Value) (x11 : Value) (x12 : Value) (x13 : Value) (x14 : Value) (x15 : Value) (x16 : Value) (x17 : Value) (x18 : Value) (x19 : Value) (x20 : Value) (x21 : Value) (x22 : Value) (x23 : Value) (x24 : Value) (x25 : Value) (x26 : Value) (x27 : Value) (x28 : Value) (x29 : Value) (x30 : Value) (x31 : Value) (x32 : Value) (x33 : Value) (x34 : Value) (x35 : Value) (x36 : Value) (x37 : Value) (x38 : Value) (x39 : Value) (x40 : Value) (x41 : Value) (x42 : Value) (x43 : Value) (x44 : Value) (x45 : Value) (x46 : Value) (x47 : Value) (x48 : Value) (x49 : Value) (x50 : Value) (x51 : Value) (x52 : Value) (x53 : Value) (x54 : Value) (x55 : Value) (x56 : Value) (x57 : Value) (x58 : Value) (x59 : Value) (x60 : Value) (x61 : Value) (x62 : Value) (x63 : Value) (x64 : Value) (x65 : Value) (x66 : Value) (x67 : Value) (x69 : Value) (x70 : Value) (x71 : Value) (x72 : Value) (x73 : Value) (x74 : Value) (x75 : Value) (x76 : Value) (x77 : Value) (x78 : Value) (x79 : Value) (x80 : Value) (x81 : Value) (x82 : Value) (x83 : Value) (x84 : Value) (x85 : Value) (x86 : Value) (x87 : Value) (x88 : Value)  : XMi l D (tyL cy) E0 yX12_undo cX12_undo 1 (some .boolean) (rmk 3 0 0) [.ref b0] [(b0, .inr (12, [x0, x1, x2, x3, x4, x5, x6, x7, x8, x9, x10, x11, x12, x13, x14, x15, x16, x17, x18, x19, x20, x21, x22, x23, x24, x25, x26, x27, x28, x29, x30, x31, x32, x33, x34, x35, x36, x37, x38, x39, x40, x41, x42, x43, x44, x45, x46, x47, x48, x49, x50, x51, x52, x53, x54, x55, x56, x57, x58, x59, x60, x61, x62, x63, x64, x65, x66, x67, .int 0, x69, x70, x71, x72, x73, x74, x75, x76, x77, x78, x79, x80, x81, x82, x83, x84, x85, x86, x87, x88]))] (fun (r : Int32) (_ : Unit) => r = 0) (fun (_ : Unit) => []) := by
  refine XMi.start (by decide) (Nat.le_of_ble_eq_true rfl) ?_
  intro p e s m below meth c args A ls Q hat hQ
  obtain ⟨hx, hb, hr, hml, hown, hg, hlocks, hin, hK, hA, hP, hD, hS, hE, hl⟩ := hat
  have hown : s.vm.findClass RX12 = some m.cls := hown
  have hl : lv_has ls 1 [(0, .ref b0)] := hl
  refine lv_aload_n hx hb dX12_undo_0 rfl (lv_at hl 0 rfl) ?_
  refine va_get (D := D) (ci := 12) (v := .int 0) (C := RX12) (T := TX12) (N := 89) hx hb hg i_X12 hown hK hP 0 rfl rfl 68 (by decide) (hg _ m_1481) (fun _ h9 => h9) rfl dX12_undo_1 ?_
  refine lv_if_ne (tgt := 9) hx hb dX12_undo_4 (by decide) (fun h => absurd (by decide) h) (fun _ => ?_)
  refine lv_iconst (v := 0) hx hb dX12_undo_7 (by decide) ?_
  exact x_zret hQ hx hb hr hlocks hK hP hD hS rfl dX12_undo_8 () (rfl) [] (by decide) rfl (Nat.le_of_ble_eq_true rfl) (Nat.le_of_ble_eq_true rfl)
theorem dX12_redo_0 : decode cX12_redo 0 = .ok (.aload_n 0, 1) := by decide +kernel
theorem dX12_redo_1 : decode cX12_redo 1 = .ok (.getfield 427, 3) := by decide +kernel
theorem m_1482 : (Cond.fieldLink RX12 427 "CliffJudgesModel" "undone" "I") ∈ gT := gm 1482 (by decide +kernel) (by decide +kernel)
theorem dX12_redo_4 : decode cX12_redo 4 = .ok (.ifCond .ne 5, 3) := by decide +kernel
theorem dX12_redo_7 : decode cX12_redo 7 = .ok (.iconst 0, 1) := by decide +kernel
theorem dX12_redo_8 : decode cX12_redo 8 = .ok (.ireturn, 1) := by decide +kernel
set_option maxHeartbeats 400000 in
set_option maxRecDepth 100000 in
theorem m_redo (l : Launch) (D : va_G) (cy : Nat → ClassId) (b0 : Nat) (x0 : Value) (x1 : Value) (x2 : Value) (x3 : Value) (x4 : Value) (x5 : Value) (x6 : Value) (x7 : Value) (x8 : Value) (x9 : Value) (x10 : Value) (x11 : Value) (x12 : Value) (x13 : Value) (x14 : Value) (x15 : Value) (x16 : Value) (x17 : Value) (x18 : Value) (x19 : Value) (x20 : Value) (x21 : Value) (x22 : Value) (x23 : Value) (x24 : Value) (x25 : Value) (x26 : Value) (x27 : Value) (x28 : Value) (x29 : Value) (x30 : Value) (x31 : Value) (x32 : Value) (x33 : Value) (x34 : Value) (x35 : Value) (x36 : Value) (x37 : Value) (x38 : Value) (x39 : Value) (x40 : Value) (x41 : Value) (x42 : Value) (x43 : Value) (x44 : Value) (x45 : Value) (x46 : Value) (x47 : Value) (x48 : Value) (x49 : Value) (x50 : Value) (x51 : Value) (x52 : Value) (x53 : Value) (x54 : Value) (x55 : Value) (x56 : Value) (x57 : Value) (x58 : Value) (x59 : Value) (x60 : Value) (x61 : Value) (x62 : Value) (x63 : Value) (x64 : Value) (x65 : Value) (x66 : Value) (x67 : Value) (x68 : Value) (x70 : Value) (x71 : Value) (x72 : Value) (x73 : Value) (x74 : Value) (x75 : Value) (x76 : Value) (x77 : Value) (x78 : Value) (x79 : Value) (x80 : Value) (x81 : Value) (x82 : Value) (x83 : Value) (x84 : Value) (x85 : Value) (x86 : Value) (x87 : Value) (x88 : Value)  : XMi l D (tyL cy) E0 yX12_redo cX12_redo 1 (some .boolean) (rmk 3 0 0) [.ref b0] [(b0, .inr (12, [x0, x1, x2, x3, x4, x5, x6, x7, x8, x9, x10, x11, x12, x13, x14, x15, x16, x17, x18, x19, x20, x21, x22, x23, x24, x25, x26, x27, x28, x29, x30, x31, x32, x33, x34, x35, x36, x37, x38, x39, x40, x41, x42, x43, x44, x45, x46, x47, x48, x49, x50, x51, x52, x53, x54, x55, x56, x57, x58, x59, x60, x61, x62, x63, x64, x65, x66, x67, x68, .int 0, x70, x71, x72, x73, x74, x75, x76, x77, x78, x79, x80, x81, x82, x83, x84, x85, x86, x87, x88]))] (fun (r : Int32) (_ : Unit) => r = 0) (fun (_ : Unit) => []) := by
  refine XMi.start (by decide) (Nat.le_of_ble_eq_true rfl) ?_
  intro p e s m below meth c args A ls Q hat hQ
  obtain ⟨hx, hb, hr, hml, hown, hg, hlocks, hin, hK, hA, hP, hD, hS, hE, hl⟩ := hat
  have hown : s.vm.findClass RX12 = some m.cls := hown
  have hl : lv_has ls 1 [(0, .ref b0)] := hl
  refine lv_aload_n hx hb dX12_redo_0 rfl (lv_at hl 0 rfl) ?_
  refine va_get (D := D) (ci := 12) (v := .int 0) (C := RX12) (T := TX12) (N := 89) hx hb hg i_X12 hown hK hP 0 rfl rfl 69 (by decide) (hg _ m_1482) (fun _ h9 => h9) rfl dX12_redo_1 ?_
  refine lv_if_ne (tgt := 9) hx hb dX12_redo_4 (by decide) (fun h => absurd (by decide) h) (fun _ => ?_)
  refine lv_iconst (v := 0) hx hb dX12_redo_7 (by decide) ?_
  exact x_zret hQ hx hb hr hlocks hK hP hD hS rfl dX12_redo_8 () (rfl) [] (by decide) rfl (Nat.le_of_ble_eq_true rfl) (Nat.le_of_ble_eq_true rfl)
theorem dX12_untell_0 : decode cX12_untell 0 = .ok (.iload_n 1, 1) := by decide +kernel
theorem dX12_untell_1 : decode cX12_untell 1 = .ok (.iconst 0, 1) := by decide +kernel
theorem dX12_untell_2 : decode cX12_untell 2 = .ok (.aload_n 0, 1) := by decide +kernel
theorem dX12_untell_3 : decode cX12_untell 3 = .ok (.getfield 430, 3) := by decide +kernel
theorem m_1495 : (Cond.fieldLink RX12 430 "CliffJudgesModel" "sounds" "I") ∈ gT := gm 1495 (by decide +kernel) (by decide +kernel)
theorem dX12_untell_6 : decode cX12_untell 6 = .ok (.iconst 1, 1) := by decide +kernel
theorem dX12_untell_7 : decode cX12_untell 7 = .ok (.isub, 1) := by decide +kernel
theorem dX12_untell_8 : decode cX12_untell 8 = .ok (.invokestatic 436, 3) := by decide +kernel
theorem dX12_untell_11 : decode cX12_untell 11 = .ok (.ifCond .eq 12, 3) := by decide +kernel
theorem dX12_untell_23 : decode cX12_untell 23 = .ok (.iconst 0, 1) := by decide +kernel
theorem dX12_untell_24 : decode cX12_untell 24 = .ok (.ireturn, 1) := by decide +kernel
set_option maxHeartbeats 400000 in
set_option maxRecDepth 100000 in
theorem m_untell (l : Launch) (D : va_G) (cy : Nat → ClassId) (b0 : Nat) (x0 : Value) (x1 : Value) (x2 : Value) (x3 : Value) (x4 : Value) (x5 : Value) (x6 : Value) (x7 : Value) (x8 : Value) (x9 : Value) (x10 : Value) (x11 : Value) (x12 : Value) (x13 : Value) (x14 : Value) (x15 : Value) (x16 : Value) (x17 : Value) (x18 : Value) (x19 : Value) (x20 : Value) (x21 : Value) (x22 : Value) (x23 : Value) (x24 : Value) (x25 : Value) (x26 : Value) (x27 : Value) (x28 : Value) (x29 : Value) (x30 : Value) (x31 : Value) (x32 : Value) (x33 : Value) (x34 : Value) (x35 : Value) (x36 : Value) (x37 : Value) (x38 : Value) (x39 : Value) (x40 : Value) (x41 : Value) (x42 : Value) (x43 : Value) (x44 : Value) (x45 : Value) (x46 : Value) (x47 : Value) (x48 : Value) (x49 : Value) (x50 : Value) (x51 : Value) (x52 : Value) (x53 : Value) (x54 : Value) (x55 : Value) (x56 : Value) (x57 : Value) (x58 : Value) (x59 : Value) (x60 : Value) (x61 : Value) (x62 : Value) (x63 : Value) (x64 : Value) (x65 : Value) (x66 : Value) (x67 : Value) (x68 : Value) (x69 : Value) (x70 : Value) (x71 : Value) (x72 : Value) (x73 : Value) (x74 : Value) (x75 : Value) (x76 : Value) (x77 : Value) (x78 : Value) (x79 : Value) (x80 : Value) (x81 : Value) (x83 : Value) (x84 : Value) (x85 : Value) (x86 : Value) (x87 : Value) (x88 : Value) (ka : Int32)  : XMi l D (tyL cy) E0 yX12_untell cX12_untell 2 (some .boolean) (rmk 3 0 0) [.ref b0, .int ka] [(b0, .inr (12, [x0, x1, x2, x3, x4, x5, x6, x7, x8, x9, x10, x11, x12, x13, x14, x15, x16, x17, x18, x19, x20, x21, x22, x23, x24, x25, x26, x27, x28, x29, x30, x31, x32, x33, x34, x35, x36, x37, x38, x39, x40, x41, x42, x43, x44, x45, x46, x47, x48, x49, x50, x51, x52, x53, x54, x55, x56, x57, x58, x59, x60, x61, x62, x63, x64, x65, x66, x67, x68, x69, x70, x71, x72, x73, x74, x75, x76, x77, x78, x79, x80, x81, .int 0, x83, x84, x85, x86, x87, x88]))] (fun (r : Int32) (_ : Unit) => r = 0) (fun (_ : Unit) => []) := by
  refine XMi.start (by decide) (Nat.le_of_ble_eq_true rfl) ?_
  intro p e s m below meth c args A ls Q hat hQ
  obtain ⟨hx, hb, hr, hml, hown, hg, hlocks, hin, hK, hA, hP, hD, hS, hE, hl⟩ := hat
  have hown : s.vm.findClass RX12 = some m.cls := hown
  have hl : lv_has ls 2 [(0, .ref b0), (1, .int ka)] := hl
  refine lv_iload_n hx hb dX12_untell_0 rfl (lv_at hl 1 rfl) ?_
  refine lv_iconst (v := 0) hx hb dX12_untell_1 (by decide) ?_
  refine lv_aload_n hx hb dX12_untell_2 rfl (lv_at hl 0 rfl) ?_
  refine va_get (D := D) (ci := 12) (v := .int 0) (C := RX12) (T := TX12) (N := 89) hx hb hg i_X12 hown hK hP 0 rfl rfl 82 (by decide) (hg _ m_1495) (fun _ h9 => h9) rfl dX12_untell_3 ?_
  refine lv_iconst (v := 1) hx hb dX12_untell_6 (by decide) ?_
  refine lv_isub hx hb dX12_untell_7 ?_
  refine lv_topi (fun y_1 hy_1 => ?_)
  obtain rfl : y_1 = -1 := hy_1.trans (by decide +kernel)
  refine x_callSi (wr := [(b0, .inr (12, [x0, x1, x2, x3, x4, x5, x6, x7, x8, x9, x10, x11, x12, x13, x14, x15, x16, x17, x18, x19, x20, x21, x22, x23, x24, x25, x26, x27, x28, x29, x30, x31, x32, x33, x34, x35, x36, x37, x38, x39, x40, x41, x42, x43, x44, x45, x46, x47, x48, x49, x50, x51, x52, x53, x54, x55, x56, x57, x58, x59, x60, x61, x62, x63, x64, x65, x66, x67, x68, x69, x70, x71, x72, x73, x74, x75, x76, x77, x78, x79, x80, x81, .int 0, x83, x84, x85, x86, x87, x88]))]) (rest := []) ⟨hx, hb, hml, hown, hg, hl.1⟩ k_X12_436 (m_isIn l D cy ka 0 (-1)) E0_blind hK hP hD hS hA [] [0] ⟨rfl, rfl, by decide, by decide, by decide⟩ (fun _ _ _ => trivial) dX12_untell_8 rfl rfl (Nat.le_of_ble_eq_true rfl) ⟨Nat.le_of_ble_eq_true rfl, Nat.le_of_ble_eq_true rfl⟩ ⟨Nat.le_of_ble_eq_true rfl, Nat.le_of_ble_eq_true rfl⟩ (fun r2 u2 H locs hw2 hP hD hS => ?_)
  have hP : va_P D vwCl [(b0, .inr (12, [x0, x1, x2, x3, x4, x5, x6, x7, x8, x9, x10, x11, x12, x13, x14, x15, x16, x17, x18, x19, x20, x21, x22, x23, x24, x25, x26, x27, x28, x29, x30, x31, x32, x33, x34, x35, x36, x37, x38, x39, x40, x41, x42, x43, x44, x45, x46, x47, x48, x49, x50, x51, x52, x53, x54, x55, x56, x57, x58, x59, x60, x61, x62, x63, x64, x65, x66, x67, x68, x69, x70, x71, x72, x73, x74, x75, x76, x77, x78, x79, x80, x81, .int 0, x83, x84, x85, x86, x87, x88]))] H := hP
  have hD : va_D A [(b0, .inr (12, [x0, x1, x2, x3, x4, x5, x6, x7, x8, x9, x10, x11, x12, x13, x14, x15, x16, x17, x18, x19, x20, x21, x22, x23, x24, x25, x26, x27, x28, x29, x30, x31, x32, x33, x34, x35, x36, x37, x38, x39, x40, x41, x42, x43, x44, x45, x46, x47, x48, x49, x50, x51, x52, x53, x54, x55, x56, x57, x58, x59, x60, x61, x62, x63, x64, x65, x66, x67, x68, x69, x70, x71, x72, x73, x74, x75, x76, x77, x78, x79, x80, x81, .int 0, x83, x84, x85, x86, x87, x88]))] := hD
  refine W.widen (k := 0) (n := 0) (Nat.le_of_ble_eq_true rfl) (Nat.le_of_ble_eq_true rfl) ?_
  have hw2 : (r2 = 1 ∧ (0 : Int32).toInt ≤ ka.toInt ∧ ka.toInt ≤ (-1 : Int32).toInt) ∨ (r2 = 0 ∧ ¬ ((0 : Int32).toInt ≤ ka.toInt ∧ ka.toInt ≤ (-1 : Int32).toInt)) := hw2
  have z0 : (0 : Int32).toInt = 0 := by decide
  have zm1 : (-1 : Int32).toInt = -1 := by decide
  obtain rfl : r2 = 0 := hw2.elim (fun h => absurd h.2 (by omega)) (fun h => h.1)
  refine lv_if_eq (tgt := 23) hx hb dX12_untell_11 (by decide) (fun _ => ?_) (fun h => absurd (by decide) h)
  refine lv_iconst (v := 0) hx hb dX12_untell_23 (by decide) ?_
  exact x_zret hQ hx hb hr hlocks hK hP hD hS rfl dX12_untell_24 () (rfl) [] (by decide) rfl (Nat.le_of_ble_eq_true rfl) (Nat.le_of_ble_eq_true rfl)
theorem dX12_about_0 : decode cX12_about 0 = .ok (.iload_n 1, 1) := by decide +kernel
theorem dX12_about_1 : decode cX12_about 1 = .ok (.tableswitch 183 0 16 #[83, 88, 93, 98, 103, 108, 116, 124, 132, 140, 148, 153, 158, 163, 168, 173, 178], 83) := by decide +kernel
theorem dX12_about_184 : decode cX12_about 184 = .ok (.iconst (-1), 1) := by decide +kernel
theorem dX12_about_185 : decode cX12_about 185 = .ok (.ireturn, 1) := by decide +kernel
theorem dX12_about_84 : decode cX12_about 84 = .ok (.aload_n 0, 1) := by decide +kernel
theorem dX12_about_85 : decode cX12_about 85 = .ok (.getfield 406, 3) := by decide +kernel
theorem dX12_about_88 : decode cX12_about 88 = .ok (.ireturn, 1) := by decide +kernel
theorem dX12_about_89 : decode cX12_about 89 = .ok (.aload_n 0, 1) := by decide +kernel
theorem dX12_about_90 : decode cX12_about 90 = .ok (.getfield 403, 3) := by decide +kernel
theorem dX12_about_93 : decode cX12_about 93 = .ok (.ireturn, 1) := by decide +kernel
theorem dX12_about_94 : decode cX12_about 94 = .ok (.aload_n 0, 1) := by decide +kernel
theorem dX12_about_95 : decode cX12_about 95 = .ok (.getfield 409, 3) := by decide +kernel
theorem dX12_about_98 : decode cX12_about 98 = .ok (.ireturn, 1) := by decide +kernel
theorem dX12_about_99 : decode cX12_about 99 = .ok (.aload_n 0, 1) := by decide +kernel
theorem dX12_about_100 : decode cX12_about 100 = .ok (.getfield 412, 3) := by decide +kernel
theorem dX12_about_103 : decode cX12_about 103 = .ok (.ireturn, 1) := by decide +kernel
theorem dX12_about_104 : decode cX12_about 104 = .ok (.aload_n 0, 1) := by decide +kernel
theorem dX12_about_105 : decode cX12_about 105 = .ok (.getfield 415, 3) := by decide +kernel
theorem m_1466 : (Cond.fieldLink RX12 415 "CliffJudgesModel" "ons" "I") ∈ gT := gm 1466 (by decide +kernel) (by decide +kernel)
theorem dX12_about_108 : decode cX12_about 108 = .ok (.ireturn, 1) := by decide +kernel
theorem dX12_about_109 : decode cX12_about 109 = .ok (.aload_n 0, 1) := by decide +kernel
theorem dX12_about_110 : decode cX12_about 110 = .ok (.getfield 97, 3) := by decide +kernel
theorem dX12_about_113 : decode cX12_about 113 = .ok (.bipush 22, 2) := by decide +kernel
theorem dX12_about_115 : decode cX12_about 115 = .ok (.iaload, 1) := by decide +kernel
theorem dX12_about_116 : decode cX12_about 116 = .ok (.ireturn, 1) := by decide +kernel
theorem dX12_about_117 : decode cX12_about 117 = .ok (.aload_n 0, 1) := by decide +kernel
theorem dX12_about_118 : decode cX12_about 118 = .ok (.getfield 97, 3) := by decide +kernel
theorem dX12_about_121 : decode cX12_about 121 = .ok (.bipush 27, 2) := by decide +kernel
theorem dX12_about_123 : decode cX12_about 123 = .ok (.iaload, 1) := by decide +kernel
theorem dX12_about_124 : decode cX12_about 124 = .ok (.ireturn, 1) := by decide +kernel
theorem dX12_about_125 : decode cX12_about 125 = .ok (.aload_n 0, 1) := by decide +kernel
theorem dX12_about_126 : decode cX12_about 126 = .ok (.getfield 97, 3) := by decide +kernel
theorem dX12_about_129 : decode cX12_about 129 = .ok (.bipush 28, 2) := by decide +kernel
theorem dX12_about_131 : decode cX12_about 131 = .ok (.iaload, 1) := by decide +kernel
theorem dX12_about_132 : decode cX12_about 132 = .ok (.ireturn, 1) := by decide +kernel
theorem dX12_about_133 : decode cX12_about 133 = .ok (.aload_n 0, 1) := by decide +kernel
theorem dX12_about_134 : decode cX12_about 134 = .ok (.getfield 97, 3) := by decide +kernel
theorem dX12_about_137 : decode cX12_about 137 = .ok (.bipush 20, 2) := by decide +kernel
theorem dX12_about_139 : decode cX12_about 139 = .ok (.iaload, 1) := by decide +kernel
theorem dX12_about_140 : decode cX12_about 140 = .ok (.ireturn, 1) := by decide +kernel
theorem dX12_about_141 : decode cX12_about 141 = .ok (.aload_n 0, 1) := by decide +kernel
theorem dX12_about_142 : decode cX12_about 142 = .ok (.getfield 97, 3) := by decide +kernel
theorem dX12_about_145 : decode cX12_about 145 = .ok (.bipush 21, 2) := by decide +kernel
theorem dX12_about_147 : decode cX12_about 147 = .ok (.iaload, 1) := by decide +kernel
theorem dX12_about_148 : decode cX12_about 148 = .ok (.ireturn, 1) := by decide +kernel
theorem dX12_about_149 : decode cX12_about 149 = .ok (.aload_n 0, 1) := by decide +kernel
theorem dX12_about_150 : decode cX12_about 150 = .ok (.getfield 424, 3) := by decide +kernel
theorem dX12_about_153 : decode cX12_about 153 = .ok (.ireturn, 1) := by decide +kernel
theorem dX12_about_154 : decode cX12_about 154 = .ok (.aload_n 0, 1) := by decide +kernel
theorem dX12_about_155 : decode cX12_about 155 = .ok (.getfield 427, 3) := by decide +kernel
theorem dX12_about_158 : decode cX12_about 158 = .ok (.ireturn, 1) := by decide +kernel
theorem dX12_about_159 : decode cX12_about 159 = .ok (.aload_n 0, 1) := by decide +kernel
theorem dX12_about_160 : decode cX12_about 160 = .ok (.getfield 430, 3) := by decide +kernel
theorem dX12_about_163 : decode cX12_about 163 = .ok (.ireturn, 1) := by decide +kernel
theorem dX12_about_164 : decode cX12_about 164 = .ok (.aload_n 0, 1) := by decide +kernel
theorem dX12_about_165 : decode cX12_about 165 = .ok (.getfield 561, 3) := by decide +kernel
theorem dX12_about_168 : decode cX12_about 168 = .ok (.ireturn, 1) := by decide +kernel
theorem dX12_about_169 : decode cX12_about 169 = .ok (.aload_n 0, 1) := by decide +kernel
theorem dX12_about_170 : decode cX12_about 170 = .ok (.getfield 157, 3) := by decide +kernel
theorem dX12_about_173 : decode cX12_about 173 = .ok (.ireturn, 1) := by decide +kernel
theorem dX12_about_174 : decode cX12_about 174 = .ok (.aload_n 0, 1) := by decide +kernel
theorem dX12_about_175 : decode cX12_about 175 = .ok (.getfield 421, 3) := by decide +kernel
theorem m_1437 : (Cond.fieldLink RX12 421 "CliffJudgesModel" "units" "I") ∈ gT := gm 1437 (by decide +kernel) (by decide +kernel)
theorem dX12_about_178 : decode cX12_about 178 = .ok (.ireturn, 1) := by decide +kernel
theorem dX12_about_179 : decode cX12_about 179 = .ok (.aload_n 0, 1) := by decide +kernel
theorem dX12_about_180 : decode cX12_about 180 = .ok (.getfield 433, 3) := by decide +kernel
theorem dX12_about_183 : decode cX12_about 183 = .ok (.ireturn, 1) := by decide +kernel
set_option maxHeartbeats 400000 in
set_option maxRecDepth 100000 in
theorem m_about (l : Launch) (D : va_G) (cy : Nat → ClassId) (b0 : Nat) (x0 : Value) (x2 : Value) (x3 : Value) (x4 : Value) (x5 : Value) (x6 : Value) (x7 : Value) (x8 : Value) (x9 : Value) (x10 : Value) (x11 : Value) (x12 : Value) (x13 : Value) (x14 : Value) (x15 : Value) (x16 : Value) (x17 : Value) (x18 : Value) (x19 : Value) (x20 : Value) (x21 : Value) (x22 : Value) (x23 : Value) (x25 : Value) (x26 : Value) (x27 : Value) (x28 : Value) (x29 : Value) (x30 : Value) (x31 : Value) (x32 : Value) (x33 : Value) (x34 : Value) (x35 : Value) (x36 : Value) (x37 : Value) (x38 : Value) (x39 : Value) (x40 : Value) (x41 : Value) (x42 : Value) (x43 : Value) (x44 : Value) (x45 : Value) (x46 : Value) (x47 : Value) (x48 : Value) (x54 : Value) (x55 : Value) (x56 : Value) (x58 : Value) (x59 : Value) (x60 : Value) (x61 : Value) (x62 : Value) (x63 : Value) (x64 : Value) (x65 : Value) (x66 : Value) (x67 : Value) (x70 : Value) (x72 : Value) (x73 : Value) (x74 : Value) (x75 : Value) (x76 : Value) (x77 : Value) (x78 : Value) (x79 : Value) (x80 : Value) (x81 : Value) (x84 : Value) (x85 : Value) (x86 : Value) (x87 : Value) (x88 : Value) (b_now : Nat) (ka : Int32)  : XMi l D (tyL cy) E0 yX12_about cX12_about 2 (some .int) (rmk 3 0 0) [.ref b0, .int ka] [(b0, .inr (12, [x0, .int 0, x2, x3, x4, x5, x6, x7, x8, x9, x10, x11, x12, x13, x14, x15, x16, x17, x18, x19, x20, x21, x22, x23, .int 0, x25, x26, x27, x28, x29, x30, x31, x32, x33, x34, x35, x36, x37, x38, x39, x40, x41, x42, x43, x44, x45, x46, x47, x48, .int 0, .int 0, .int 0, .int 0, .int 0, x54, x55, x56, .ref b_now, x58, x59, x60, x61, x62, x63, x64, x65, x66, x67, .int 0, .int 0, x70, .int 0, x72, x73, x74, x75, x76, x77, x78, x79, x80, x81, .int 0, .int 0, x84, x85, x86, x87, x88])), (b_now, .inl (cy 1, 42, .inl (fun _ => 0)))] (fun (r : Int32) (_ : Unit) => r = if 0 ≤ ka.toInt ∧ ka.toInt ≤ 16 then 0 else -1) (fun (_ : Unit) => []) := by
  refine XMi.start (by decide) (Nat.le_of_ble_eq_true rfl) ?_
  intro p e s m below meth c args A ls Q hat hQ
  obtain ⟨hx, hb, hr, hml, hown, hg, hlocks, hin, hK, hA, hP, hD, hS, hE, hl⟩ := hat
  have hown : s.vm.findClass RX12 = some m.cls := hown
  have hl : lv_has ls 2 [(0, .ref b0), (1, .int ka)] := hl
  refine lv_iload_n hx hb dX12_about_0 rfl (lv_at hl 1 rfl) ?_
  rcases sw_split ka 17 (by decide) with hs | ⟨j, hj, rfl⟩
  · refine lv_tableOut (tgt := 184) hx hb dX12_about_1 (by omega) (by decide) ?_
    refine lv_iconst (v := -1) hx hb dX12_about_184 (by decide) ?_
    exact x_iret hQ hx hb hr hlocks hK hP hD hS dX12_about_185 () ((if_neg (by omega)).symm) [] (by decide) rfl (Nat.le_of_ble_eq_true rfl) (Nat.le_of_ble_eq_true rfl)
  · rcases (show j = 0 ∨ j = 1 ∨ j = 2 ∨ j = 3 ∨ j = 4 ∨ j = 5 ∨ j = 6 ∨ j = 7 ∨ j = 8 ∨ j = 9 ∨ j = 10 ∨ j = 11 ∨ j = 12 ∨ j = 13 ∨ j = 14 ∨ j = 15 ∨ j = 16 by omega) with rfl | rfl | rfl | rfl | rfl | rfl | rfl | rfl | rfl | rfl | rfl | rfl | rfl | rfl | rfl | rfl | rfl
    · refine lv_tableIn (off := 83) (tgt := 84) hx hb dX12_about_1 (by decide) (by decide) (by decide) (by decide) ?_
      refine lv_aload_n hx hb dX12_about_84 rfl (lv_at hl 0 rfl) ?_
      refine va_get (D := D) (ci := 12) (v := .int 0) (C := RX12) (T := TX12) (N := 89) hx hb hg i_X12 hown hK hP 0 rfl rfl 50 (by decide) (hg _ m_1463) (fun _ h9 => h9) rfl dX12_about_85 ?_
      exact x_iret hQ hx hb hr hlocks hK hP hD hS dX12_about_88 () (by decide) [] (by decide) rfl (Nat.le_of_ble_eq_true rfl) (Nat.le_of_ble_eq_true rfl)
    · refine lv_tableIn (off := 88) (tgt := 89) hx hb dX12_about_1 (by decide) (by decide) (by decide) (by decide) ?_
      refine lv_aload_n hx hb dX12_about_89 rfl (lv_at hl 0 rfl) ?_
      refine va_get (D := D) (ci := 12) (v := .int 0) (C := RX12) (T := TX12) (N := 89) hx hb hg i_X12 hown hK hP 0 rfl rfl 49 (by decide) (hg _ m_1462) (fun _ h9 => h9) rfl dX12_about_90 ?_
      exact x_iret hQ hx hb hr hlocks hK hP hD hS dX12_about_93 () (by decide) [] (by decide) rfl (Nat.le_of_ble_eq_true rfl) (Nat.le_of_ble_eq_true rfl)
    · refine lv_tableIn (off := 93) (tgt := 94) hx hb dX12_about_1 (by decide) (by decide) (by decide) (by decide) ?_
      refine lv_aload_n hx hb dX12_about_94 rfl (lv_at hl 0 rfl) ?_
      refine va_get (D := D) (ci := 12) (v := .int 0) (C := RX12) (T := TX12) (N := 89) hx hb hg i_X12 hown hK hP 0 rfl rfl 51 (by decide) (hg _ m_1464) (fun _ h9 => h9) rfl dX12_about_95 ?_
      exact x_iret hQ hx hb hr hlocks hK hP hD hS dX12_about_98 () (by decide) [] (by decide) rfl (Nat.le_of_ble_eq_true rfl) (Nat.le_of_ble_eq_true rfl)
    · refine lv_tableIn (off := 98) (tgt := 99) hx hb dX12_about_1 (by decide) (by decide) (by decide) (by decide) ?_
      refine lv_aload_n hx hb dX12_about_99 rfl (lv_at hl 0 rfl) ?_
      refine va_get (D := D) (ci := 12) (v := .int 0) (C := RX12) (T := TX12) (N := 89) hx hb hg i_X12 hown hK hP 0 rfl rfl 52 (by decide) (hg _ m_1465) (fun _ h9 => h9) rfl dX12_about_100 ?_
      exact x_iret hQ hx hb hr hlocks hK hP hD hS dX12_about_103 () (by decide) [] (by decide) rfl (Nat.le_of_ble_eq_true rfl) (Nat.le_of_ble_eq_true rfl)
    · refine lv_tableIn (off := 103) (tgt := 104) hx hb dX12_about_1 (by decide) (by decide) (by decide) (by decide) ?_
      refine lv_aload_n hx hb dX12_about_104 rfl (lv_at hl 0 rfl) ?_
      refine va_get (D := D) (ci := 12) (v := .int 0) (C := RX12) (T := TX12) (N := 89) hx hb hg i_X12 hown hK hP 0 rfl rfl 53 (by decide) (hg _ m_1466) (fun _ h9 => h9) rfl dX12_about_105 ?_
      exact x_iret hQ hx hb hr hlocks hK hP hD hS dX12_about_108 () (by decide) [] (by decide) rfl (Nat.le_of_ble_eq_true rfl) (Nat.le_of_ble_eq_true rfl)
    · refine lv_tableIn (off := 108) (tgt := 109) hx hb dX12_about_1 (by decide) (by decide) (by decide) (by decide) ?_
      refine lv_aload_n hx hb dX12_about_109 rfl (lv_at hl 0 rfl) ?_
      refine va_get (D := D) (ci := 12) (v := .ref b_now) (C := RX12) (T := TX12) (N := 89) hx hb hg i_X12 hown hK hP 0 rfl rfl 57 (by decide) (hg _ m_1470) (fun _ h9 => h9) rfl dX12_about_110 ?_
      refine lv_bipush (v := 22) hx hb dX12_about_113 (by decide) ?_
      refine va_iald hx hb hK hP 1 1 rfl rfl (by unfold vp_in; decide) dX12_about_115 ?_
      refine lv_topi (fun y_1 hy_1 => ?_)
      obtain rfl : y_1 = 0 := hy_1.trans (by decide +kernel)
      exact x_iret hQ hx hb hr hlocks hK hP hD hS dX12_about_116 () (by decide) [] (by decide) rfl (Nat.le_of_ble_eq_true rfl) (Nat.le_of_ble_eq_true rfl)
    · refine lv_tableIn (off := 116) (tgt := 117) hx hb dX12_about_1 (by decide) (by decide) (by decide) (by decide) ?_
      refine lv_aload_n hx hb dX12_about_117 rfl (lv_at hl 0 rfl) ?_
      refine va_get (D := D) (ci := 12) (v := .ref b_now) (C := RX12) (T := TX12) (N := 89) hx hb hg i_X12 hown hK hP 0 rfl rfl 57 (by decide) (hg _ m_1470) (fun _ h9 => h9) rfl dX12_about_118 ?_
      refine lv_bipush (v := 27) hx hb dX12_about_121 (by decide) ?_
      refine va_iald hx hb hK hP 1 1 rfl rfl (by unfold vp_in; decide) dX12_about_123 ?_
      refine lv_topi (fun y_2 hy_2 => ?_)
      obtain rfl : y_2 = 0 := hy_2.trans (by decide +kernel)
      exact x_iret hQ hx hb hr hlocks hK hP hD hS dX12_about_124 () (by decide) [] (by decide) rfl (Nat.le_of_ble_eq_true rfl) (Nat.le_of_ble_eq_true rfl)
    · refine lv_tableIn (off := 124) (tgt := 125) hx hb dX12_about_1 (by decide) (by decide) (by decide) (by decide) ?_
      refine lv_aload_n hx hb dX12_about_125 rfl (lv_at hl 0 rfl) ?_
      refine va_get (D := D) (ci := 12) (v := .ref b_now) (C := RX12) (T := TX12) (N := 89) hx hb hg i_X12 hown hK hP 0 rfl rfl 57 (by decide) (hg _ m_1470) (fun _ h9 => h9) rfl dX12_about_126 ?_
      refine lv_bipush (v := 28) hx hb dX12_about_129 (by decide) ?_
      refine va_iald hx hb hK hP 1 1 rfl rfl (by unfold vp_in; decide) dX12_about_131 ?_
      refine lv_topi (fun y_3 hy_3 => ?_)
      obtain rfl : y_3 = 0 := hy_3.trans (by decide +kernel)
      exact x_iret hQ hx hb hr hlocks hK hP hD hS dX12_about_132 () (by decide) [] (by decide) rfl (Nat.le_of_ble_eq_true rfl) (Nat.le_of_ble_eq_true rfl)
    · refine lv_tableIn (off := 132) (tgt := 133) hx hb dX12_about_1 (by decide) (by decide) (by decide) (by decide) ?_
      refine lv_aload_n hx hb dX12_about_133 rfl (lv_at hl 0 rfl) ?_
      refine va_get (D := D) (ci := 12) (v := .ref b_now) (C := RX12) (T := TX12) (N := 89) hx hb hg i_X12 hown hK hP 0 rfl rfl 57 (by decide) (hg _ m_1470) (fun _ h9 => h9) rfl dX12_about_134 ?_
      refine lv_bipush (v := 20) hx hb dX12_about_137 (by decide) ?_
      refine va_iald hx hb hK hP 1 1 rfl rfl (by unfold vp_in; decide) dX12_about_139 ?_
      refine lv_topi (fun y_4 hy_4 => ?_)
      obtain rfl : y_4 = 0 := hy_4.trans (by decide +kernel)
      exact x_iret hQ hx hb hr hlocks hK hP hD hS dX12_about_140 () (by decide) [] (by decide) rfl (Nat.le_of_ble_eq_true rfl) (Nat.le_of_ble_eq_true rfl)
    · refine lv_tableIn (off := 140) (tgt := 141) hx hb dX12_about_1 (by decide) (by decide) (by decide) (by decide) ?_
      refine lv_aload_n hx hb dX12_about_141 rfl (lv_at hl 0 rfl) ?_
      refine va_get (D := D) (ci := 12) (v := .ref b_now) (C := RX12) (T := TX12) (N := 89) hx hb hg i_X12 hown hK hP 0 rfl rfl 57 (by decide) (hg _ m_1470) (fun _ h9 => h9) rfl dX12_about_142 ?_
      refine lv_bipush (v := 21) hx hb dX12_about_145 (by decide) ?_
      refine va_iald hx hb hK hP 1 1 rfl rfl (by unfold vp_in; decide) dX12_about_147 ?_
      refine lv_topi (fun y_5 hy_5 => ?_)
      obtain rfl : y_5 = 0 := hy_5.trans (by decide +kernel)
      exact x_iret hQ hx hb hr hlocks hK hP hD hS dX12_about_148 () (by decide) [] (by decide) rfl (Nat.le_of_ble_eq_true rfl) (Nat.le_of_ble_eq_true rfl)
    · refine lv_tableIn (off := 148) (tgt := 149) hx hb dX12_about_1 (by decide) (by decide) (by decide) (by decide) ?_
      refine lv_aload_n hx hb dX12_about_149 rfl (lv_at hl 0 rfl) ?_
      refine va_get (D := D) (ci := 12) (v := .int 0) (C := RX12) (T := TX12) (N := 89) hx hb hg i_X12 hown hK hP 0 rfl rfl 68 (by decide) (hg _ m_1481) (fun _ h9 => h9) rfl dX12_about_150 ?_
      exact x_iret hQ hx hb hr hlocks hK hP hD hS dX12_about_153 () (by decide) [] (by decide) rfl (Nat.le_of_ble_eq_true rfl) (Nat.le_of_ble_eq_true rfl)
    · refine lv_tableIn (off := 153) (tgt := 154) hx hb dX12_about_1 (by decide) (by decide) (by decide) (by decide) ?_
      refine lv_aload_n hx hb dX12_about_154 rfl (lv_at hl 0 rfl) ?_
      refine va_get (D := D) (ci := 12) (v := .int 0) (C := RX12) (T := TX12) (N := 89) hx hb hg i_X12 hown hK hP 0 rfl rfl 69 (by decide) (hg _ m_1482) (fun _ h9 => h9) rfl dX12_about_155 ?_
      exact x_iret hQ hx hb hr hlocks hK hP hD hS dX12_about_158 () (by decide) [] (by decide) rfl (Nat.le_of_ble_eq_true rfl) (Nat.le_of_ble_eq_true rfl)
    · refine lv_tableIn (off := 158) (tgt := 159) hx hb dX12_about_1 (by decide) (by decide) (by decide) (by decide) ?_
      refine lv_aload_n hx hb dX12_about_159 rfl (lv_at hl 0 rfl) ?_
      refine va_get (D := D) (ci := 12) (v := .int 0) (C := RX12) (T := TX12) (N := 89) hx hb hg i_X12 hown hK hP 0 rfl rfl 82 (by decide) (hg _ m_1495) (fun _ h9 => h9) rfl dX12_about_160 ?_
      exact x_iret hQ hx hb hr hlocks hK hP hD hS dX12_about_163 () (by decide) [] (by decide) rfl (Nat.le_of_ble_eq_true rfl) (Nat.le_of_ble_eq_true rfl)
    · refine lv_tableIn (off := 163) (tgt := 164) hx hb dX12_about_1 (by decide) (by decide) (by decide) (by decide) ?_
      refine lv_aload_n hx hb dX12_about_164 rfl (lv_at hl 0 rfl) ?_
      refine va_get (D := D) (ci := 12) (v := .int 0) (C := RX12) (T := TX12) (N := 89) hx hb hg i_X12 hown hK hP 0 rfl rfl 83 (by decide) (hg _ m_1496) (fun _ h9 => h9) rfl dX12_about_165 ?_
      exact x_iret hQ hx hb hr hlocks hK hP hD hS dX12_about_168 () (by decide) [] (by decide) rfl (Nat.le_of_ble_eq_true rfl) (Nat.le_of_ble_eq_true rfl)
    · refine lv_tableIn (off := 168) (tgt := 169) hx hb dX12_about_1 (by decide) (by decide) (by decide) (by decide) ?_
      refine lv_aload_n hx hb dX12_about_169 rfl (lv_at hl 0 rfl) ?_
      refine va_get (D := D) (ci := 12) (v := .int 0) (C := RX12) (T := TX12) (N := 89) hx hb hg i_X12 hown hK hP 0 rfl rfl 1 (by decide) (hg _ m_1414) (fun _ h9 => h9) rfl dX12_about_170 ?_
      exact x_iret hQ hx hb hr hlocks hK hP hD hS dX12_about_173 () (by decide) [] (by decide) rfl (Nat.le_of_ble_eq_true rfl) (Nat.le_of_ble_eq_true rfl)
    · refine lv_tableIn (off := 173) (tgt := 174) hx hb dX12_about_1 (by decide) (by decide) (by decide) (by decide) ?_
      refine lv_aload_n hx hb dX12_about_174 rfl (lv_at hl 0 rfl) ?_
      refine va_get (D := D) (ci := 12) (v := .int 0) (C := RX12) (T := TX12) (N := 89) hx hb hg i_X12 hown hK hP 0 rfl rfl 24 (by decide) (hg _ m_1437) (fun _ h9 => h9) rfl dX12_about_175 ?_
      exact x_iret hQ hx hb hr hlocks hK hP hD hS dX12_about_178 () (by decide) [] (by decide) rfl (Nat.le_of_ble_eq_true rfl) (Nat.le_of_ble_eq_true rfl)
    · refine lv_tableIn (off := 178) (tgt := 179) hx hb dX12_about_1 (by decide) (by decide) (by decide) (by decide) ?_
      refine lv_aload_n hx hb dX12_about_179 rfl (lv_at hl 0 rfl) ?_
      refine va_get (D := D) (ci := 12) (v := .int 0) (C := RX12) (T := TX12) (N := 89) hx hb hg i_X12 hown hK hP 0 rfl rfl 71 (by decide) (hg _ m_1484) (fun _ h9 => h9) rfl dX12_about_180 ?_
      exact x_iret hQ hx hb hr hlocks hK hP hD hS dX12_about_183 () (by decide) [] (by decide) rfl (Nat.le_of_ble_eq_true rfl) (Nat.le_of_ble_eq_true rfl)
end
