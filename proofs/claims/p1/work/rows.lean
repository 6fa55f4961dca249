section
-- ===== PART A: goes FIRST, ahead of the names: the tables' words, and 'selects' of the private methods out of them =====
/-- a private method of a class that the tables say can be made, by its rows of tables_1 -/
def lw_okq (q : MethodName × Nat) : Prop := (q.1.cls ≠ "java/lang/invoke/MethodHandle" ∧ q.1.cls ≠ "java/lang/invoke/VarHandle") ∧ Cond.instantiable q.1.cls q.2 ∈ tables_1 ∧ Cond.privateMethod q.1 ∈ tables_1 ∧ Cond.instanceMethod q.1 ∈ tables_1
theorem lw_p0 : lw_okq (⟨"CliffJudges$Tape", "isLetter", "(I)Z"⟩, 8) := ⟨⟨by decide +kernel, by decide +kernel⟩, List.mem_of_getElem? (i := 31) (by decide +kernel), List.mem_of_getElem? (i := 602) (by decide +kernel), List.mem_of_getElem? (i := 603) (by decide +kernel)⟩
theorem lw_p1 : lw_okq (⟨"CliffJudges$Tape", "readWord", "()V"⟩, 8) := ⟨⟨by decide +kernel, by decide +kernel⟩, List.mem_of_getElem? (i := 31) (by decide +kernel), List.mem_of_getElem? (i := 606) (by decide +kernel), List.mem_of_getElem? (i := 607) (by decide +kernel)⟩
theorem lw_p2 : lw_okq (⟨"CliffJudges$Tape", "kindOf", "(J)I"⟩, 8) := ⟨⟨by decide +kernel, by decide +kernel⟩, List.mem_of_getElem? (i := 31) (by decide +kernel), List.mem_of_getElem? (i := 610) (by decide +kernel), List.mem_of_getElem? (i := 611) (by decide +kernel)⟩
theorem lw_p3 : lw_okq (⟨"CliffJudges$Tape", "isDigit", "(I)Z"⟩, 8) := ⟨⟨by decide +kernel, by decide +kernel⟩, List.mem_of_getElem? (i := 31) (by decide +kernel), List.mem_of_getElem? (i := 614) (by decide +kernel), List.mem_of_getElem? (i := 615) (by decide +kernel)⟩
theorem lw_p4 : lw_okq (⟨"CliffJudges$Tape", "readNumber", "()V"⟩, 8) := ⟨⟨by decide +kernel, by decide +kernel⟩, List.mem_of_getElem? (i := 31) (by decide +kernel), List.mem_of_getElem? (i := 618) (by decide +kernel), List.mem_of_getElem? (i := 619) (by decide +kernel)⟩
theorem lw_p5 : lw_okq (⟨"CliffJudges$Teller", "tellLine", "()Z"⟩, 10) := ⟨⟨by decide +kernel, by decide +kernel⟩, List.mem_of_getElem? (i := 119) (by decide +kernel), List.mem_of_getElem? (i := 682) (by decide +kernel), List.mem_of_getElem? (i := 683) (by decide +kernel)⟩
theorem lw_p6 : lw_okq (⟨"CliffJudges$Teller", "tellWord", "()Z"⟩, 10) := ⟨⟨by decide +kernel, by decide +kernel⟩, List.mem_of_getElem? (i := 119) (by decide +kernel), List.mem_of_getElem? (i := 686) (by decide +kernel), List.mem_of_getElem? (i := 687) (by decide +kernel)⟩
theorem lw_p7 : lw_okq (⟨"CliffJudges$Teller", "takeNew", "(II)Z"⟩, 10) := ⟨⟨by decide +kernel, by decide +kernel⟩, List.mem_of_getElem? (i := 119) (by decide +kernel), List.mem_of_getElem? (i := 690) (by decide +kernel), List.mem_of_getElem? (i := 691) (by decide +kernel)⟩
theorem lw_p8 : lw_okq (⟨"CliffJudges$Teller", "fail", "(I)Z"⟩, 10) := ⟨⟨by decide +kernel, by decide +kernel⟩, List.mem_of_getElem? (i := 119) (by decide +kernel), List.mem_of_getElem? (i := 694) (by decide +kernel), List.mem_of_getElem? (i := 695) (by decide +kernel)⟩
theorem lw_p9 : lw_okq (⟨"CliffJudges$Teller", "find", "(I)I"⟩, 10) := ⟨⟨by decide +kernel, by decide +kernel⟩, List.mem_of_getElem? (i := 119) (by decide +kernel), List.mem_of_getElem? (i := 699) (by decide +kernel), List.mem_of_getElem? (i := 700) (by decide +kernel)⟩
theorem lw_p10 : lw_okq (⟨"CliffJudges$Teller", "takeOption", "(I[II)Z"⟩, 10) := ⟨⟨by decide +kernel, by decide +kernel⟩, List.mem_of_getElem? (i := 119) (by decide +kernel), List.mem_of_getElem? (i := 703) (by decide +kernel), List.mem_of_getElem? (i := 704) (by decide +kernel)⟩
theorem lw_p11 : lw_okq (⟨"CliffJudges$Teller", "takeNumber", "(I)Z"⟩, 10) := ⟨⟨by decide +kernel, by decide +kernel⟩, List.mem_of_getElem? (i := 119) (by decide +kernel), List.mem_of_getElem? (i := 707) (by decide +kernel), List.mem_of_getElem? (i := 708) (by decide +kernel)⟩
theorem lw_p12 : lw_okq (⟨"CliffJudges$Teller", "take", "(I)Z"⟩, 10) := ⟨⟨by decide +kernel, by decide +kernel⟩, List.mem_of_getElem? (i := 119) (by decide +kernel), List.mem_of_getElem? (i := 711) (by decide +kernel), List.mem_of_getElem? (i := 712) (by decide +kernel)⟩
theorem lw_p13 : lw_okq (⟨"CliffJudges$Teller", "tellPlaced", "(I[II[I)Z"⟩, 10) := ⟨⟨by decide +kernel, by decide +kernel⟩, List.mem_of_getElem? (i := 119) (by decide +kernel), List.mem_of_getElem? (i := 715) (by decide +kernel), List.mem_of_getElem? (i := 716) (by decide +kernel)⟩
theorem lw_p14 : lw_okq (⟨"CliffJudges$Teller", "tellState", "()Z"⟩, 10) := ⟨⟨by decide +kernel, by decide +kernel⟩, List.mem_of_getElem? (i := 119) (by decide +kernel), List.mem_of_getElem? (i := 719) (by decide +kernel), List.mem_of_getElem? (i := 720) (by decide +kernel)⟩
theorem lw_p15 : lw_okq (⟨"CliffJudges$Teller", "tellOn", "()Z"⟩, 10) := ⟨⟨by decide +kernel, by decide +kernel⟩, List.mem_of_getElem? (i := 119) (by decide +kernel), List.mem_of_getElem? (i := 723) (by decide +kernel), List.mem_of_getElem? (i := 724) (by decide +kernel)⟩
def lw_privs_1 : List (MethodName × Nat) := [(⟨"CliffJudges$Tape", "isLetter", "(I)Z"⟩, 8), (⟨"CliffJudges$Tape", "readWord", "()V"⟩, 8), (⟨"CliffJudges$Tape", "kindOf", "(J)I"⟩, 8), (⟨"CliffJudges$Tape", "isDigit", "(I)Z"⟩, 8), (⟨"CliffJudges$Tape", "readNumber", "()V"⟩, 8), (⟨"CliffJudges$Teller", "tellLine", "()Z"⟩, 10), (⟨"CliffJudges$Teller", "tellWord", "()Z"⟩, 10), (⟨"CliffJudges$Teller", "takeNew", "(II)Z"⟩, 10), (⟨"CliffJudges$Teller", "fail", "(I)Z"⟩, 10), (⟨"CliffJudges$Teller", "find", "(I)I"⟩, 10), (⟨"CliffJudges$Teller", "takeOption", "(I[II)Z"⟩, 10), (⟨"CliffJudges$Teller", "takeNumber", "(I)Z"⟩, 10), (⟨"CliffJudges$Teller", "take", "(I)Z"⟩, 10), (⟨"CliffJudges$Teller", "tellPlaced", "(I[II[I)Z"⟩, 10), (⟨"CliffJudges$Teller", "tellState", "()Z"⟩, 10), (⟨"CliffJudges$Teller", "tellOn", "()Z"⟩, 10)]
theorem lw_r1 : ∀ q ∈ lw_privs_1, lw_okq q := List.forall_mem_cons.mpr ⟨lw_p0, List.forall_mem_cons.mpr ⟨lw_p1, List.forall_mem_cons.mpr ⟨lw_p2, List.forall_mem_cons.mpr ⟨lw_p3, List.forall_mem_cons.mpr ⟨lw_p4, List.forall_mem_cons.mpr ⟨lw_p5, List.forall_mem_cons.mpr ⟨lw_p6, List.forall_mem_cons.mpr ⟨lw_p7, List.forall_mem_cons.mpr ⟨lw_p8, List.forall_mem_cons.mpr ⟨lw_p9, List.forall_mem_cons.mpr ⟨lw_p10, List.forall_mem_cons.mpr ⟨lw_p11, List.forall_mem_cons.mpr ⟨lw_p12, List.forall_mem_cons.mpr ⟨lw_p13, List.forall_mem_cons.mpr ⟨lw_p14, List.forall_mem_cons.mpr ⟨lw_p15, fun _ h => absurd h List.not_mem_nil⟩⟩⟩⟩⟩⟩⟩⟩⟩⟩⟩⟩⟩⟩⟩⟩
theorem lw_p16 : lw_okq (⟨"CliffJudges$Teller", "known", "(I)I"⟩, 10) := ⟨⟨by decide +kernel, by decide +kernel⟩, List.mem_of_getElem? (i := 119) (by decide +kernel), List.mem_of_getElem? (i := 727) (by decide +kernel), List.mem_of_getElem? (i := 728) (by decide +kernel)⟩
theorem lw_p17 : lw_okq (⟨"CliffJudges$Teller", "tellFormula", "(LCliffJudges$Formula;)Z"⟩, 10) := ⟨⟨by decide +kernel, by decide +kernel⟩, List.mem_of_getElem? (i := 119) (by decide +kernel), List.mem_of_getElem? (i := 731) (by decide +kernel), List.mem_of_getElem? (i := 732) (by decide +kernel)⟩
theorem lw_p18 : lw_okq (⟨"CliffJudges$Teller", "takeEither", "(I)Z"⟩, 10) := ⟨⟨by decide +kernel, by decide +kernel⟩, List.mem_of_getElem? (i := 119) (by decide +kernel), List.mem_of_getElem? (i := 735) (by decide +kernel), List.mem_of_getElem? (i := 736) (by decide +kernel)⟩
theorem lw_p19 : lw_okq (⟨"CliffJudges$Teller", "takeBoth", "(I)Z"⟩, 10) := ⟨⟨by decide +kernel, by decide +kernel⟩, List.mem_of_getElem? (i := 119) (by decide +kernel), List.mem_of_getElem? (i := 739) (by decide +kernel), List.mem_of_getElem? (i := 740) (by decide +kernel)⟩
theorem lw_p20 : lw_okq (⟨"CliffJudges$Teller", "takeOne", "(I)Z"⟩, 10) := ⟨⟨by decide +kernel, by decide +kernel⟩, List.mem_of_getElem? (i := 119) (by decide +kernel), List.mem_of_getElem? (i := 743) (by decide +kernel), List.mem_of_getElem? (i := 744) (by decide +kernel)⟩
theorem lw_p21 : lw_okq (⟨"CliffJudges$Teller", "takeNot", "(I)Z"⟩, 10) := ⟨⟨by decide +kernel, by decide +kernel⟩, List.mem_of_getElem? (i := 119) (by decide +kernel), List.mem_of_getElem? (i := 747) (by decide +kernel), List.mem_of_getElem? (i := 748) (by decide +kernel)⟩
theorem lw_p22 : lw_okq (⟨"CliffJudges$Formula", "add", "(I)V"⟩, 4) := ⟨⟨by decide +kernel, by decide +kernel⟩, List.mem_of_getElem? (i := 166) (by decide +kernel), List.mem_of_getElem? (i := 755) (by decide +kernel), List.mem_of_getElem? (i := 756) (by decide +kernel)⟩
theorem lw_p23 : lw_okq (⟨"CliffJudges$Teller", "takeSum", "(I)Z"⟩, 10) := ⟨⟨by decide +kernel, by decide +kernel⟩, List.mem_of_getElem? (i := 119) (by decide +kernel), List.mem_of_getElem? (i := 759) (by decide +kernel), List.mem_of_getElem? (i := 760) (by decide +kernel)⟩
theorem lw_p24 : lw_okq (⟨"CliffJudges$Teller", "takeTerm", "(I)Z"⟩, 10) := ⟨⟨by decide +kernel, by decide +kernel⟩, List.mem_of_getElem? (i := 119) (by decide +kernel), List.mem_of_getElem? (i := 763) (by decide +kernel), List.mem_of_getElem? (i := 764) (by decide +kernel)⟩
theorem lw_p25 : lw_okq (⟨"CliffJudges$Teller", "takeUnit", "(I)Z"⟩, 10) := ⟨⟨by decide +kernel, by decide +kernel⟩, List.mem_of_getElem? (i := 119) (by decide +kernel), List.mem_of_getElem? (i := 767) (by decide +kernel), List.mem_of_getElem? (i := 768) (by decide +kernel)⟩
theorem lw_p26 : lw_okq (⟨"CliffJudges$Teller", "takeInner", "(I)Z"⟩, 10) := ⟨⟨by decide +kernel, by decide +kernel⟩, List.mem_of_getElem? (i := 119) (by decide +kernel), List.mem_of_getElem? (i := 771) (by decide +kernel), List.mem_of_getElem? (i := 772) (by decide +kernel)⟩
theorem lw_p27 : lw_okq (⟨"CliffJudges$Teller", "tellWind", "()Z"⟩, 10) := ⟨⟨by decide +kernel, by decide +kernel⟩, List.mem_of_getElem? (i := 119) (by decide +kernel), List.mem_of_getElem? (i := 789) (by decide +kernel), List.mem_of_getElem? (i := 790) (by decide +kernel)⟩
theorem lw_p28 : lw_okq (⟨"CliffJudges$Teller", "tellDraw", "()Z"⟩, 10) := ⟨⟨by decide +kernel, by decide +kernel⟩, List.mem_of_getElem? (i := 119) (by decide +kernel), List.mem_of_getElem? (i := 793) (by decide +kernel), List.mem_of_getElem? (i := 794) (by decide +kernel)⟩
theorem lw_p29 : lw_okq (⟨"CliffJudges$Moments", "forgetActs", "()V"⟩, 7) := ⟨⟨by decide +kernel, by decide +kernel⟩, List.mem_of_getElem? (i := 289) (by decide +kernel), List.mem_of_getElem? (i := 802) (by decide +kernel), List.mem_of_getElem? (i := 803) (by decide +kernel)⟩
theorem lw_p30 : lw_okq (⟨"CliffJudges$Moments", "keepAct", "()V"⟩, 7) := ⟨⟨by decide +kernel, by decide +kernel⟩, List.mem_of_getElem? (i := 289) (by decide +kernel), List.mem_of_getElem? (i := 852) (by decide +kernel), List.mem_of_getElem? (i := 853) (by decide +kernel)⟩
theorem lw_p31 : lw_okq (⟨"CliffJudges", "prepare", "(I)V"⟩, 14) := ⟨⟨by decide +kernel, by decide +kernel⟩, List.mem_of_getElem? (i := 23) (by decide +kernel), List.mem_of_getElem? (i := 877) (by decide +kernel), List.mem_of_getElem? (i := 878) (by decide +kernel)⟩
def lw_privs_2 : List (MethodName × Nat) := [(⟨"CliffJudges$Teller", "known", "(I)I"⟩, 10), (⟨"CliffJudges$Teller", "tellFormula", "(LCliffJudges$Formula;)Z"⟩, 10), (⟨"CliffJudges$Teller", "takeEither", "(I)Z"⟩, 10), (⟨"CliffJudges$Teller", "takeBoth", "(I)Z"⟩, 10), (⟨"CliffJudges$Teller", "takeOne", "(I)Z"⟩, 10), (⟨"CliffJudges$Teller", "takeNot", "(I)Z"⟩, 10), (⟨"CliffJudges$Formula", "add", "(I)V"⟩, 4), (⟨"CliffJudges$Teller", "takeSum", "(I)Z"⟩, 10), (⟨"CliffJudges$Teller", "takeTerm", "(I)Z"⟩, 10), (⟨"CliffJudges$Teller", "takeUnit", "(I)Z"⟩, 10), (⟨"CliffJudges$Teller", "takeInner", "(I)Z"⟩, 10), (⟨"CliffJudges$Teller", "tellWind", "()Z"⟩, 10), (⟨"CliffJudges$Teller", "tellDraw", "()Z"⟩, 10), (⟨"CliffJudges$Moments", "forgetActs", "()V"⟩, 7), (⟨"CliffJudges$Moments", "keepAct", "()V"⟩, 7), (⟨"CliffJudges", "prepare", "(I)V"⟩, 14)]
theorem lw_r2 : ∀ q ∈ lw_privs_2, lw_okq q := List.forall_mem_cons.mpr ⟨lw_p16, List.forall_mem_cons.mpr ⟨lw_p17, List.forall_mem_cons.mpr ⟨lw_p18, List.forall_mem_cons.mpr ⟨lw_p19, List.forall_mem_cons.mpr ⟨lw_p20, List.forall_mem_cons.mpr ⟨lw_p21, List.forall_mem_cons.mpr ⟨lw_p22, List.forall_mem_cons.mpr ⟨lw_p23, List.forall_mem_cons.mpr ⟨lw_p24, List.forall_mem_cons.mpr ⟨lw_p25, List.forall_mem_cons.mpr ⟨lw_p26, List.forall_mem_cons.mpr ⟨lw_p27, List.forall_mem_cons.mpr ⟨lw_p28, List.forall_mem_cons.mpr ⟨lw_p29, List.forall_mem_cons.mpr ⟨lw_p30, List.forall_mem_cons.mpr ⟨lw_p31, fun _ h => absurd h List.not_mem_nil⟩⟩⟩⟩⟩⟩⟩⟩⟩⟩⟩⟩⟩⟩⟩⟩
theorem lw_p32 : lw_okq (⟨"CliffJudges", "loadWeather", "(LCliffJudges$Shout;)V"⟩, 14) := ⟨⟨by decide +kernel, by decide +kernel⟩, List.mem_of_getElem? (i := 23) (by decide +kernel), List.mem_of_getElem? (i := 881) (by decide +kernel), List.mem_of_getElem? (i := 882) (by decide +kernel)⟩
theorem lw_p33 : lw_okq (⟨"CliffJudges", "loadCry", "(LCliffJudges$Shout;I)V"⟩, 14) := ⟨⟨by decide +kernel, by decide +kernel⟩, List.mem_of_getElem? (i := 23) (by decide +kernel), List.mem_of_getElem? (i := 886) (by decide +kernel), List.mem_of_getElem? (i := 887) (by decide +kernel)⟩
theorem lw_p34 : lw_okq (⟨"CliffJudges$Ear", "place", "(LCliffJudges$Hills;LCliffJudges$Shout;II)V"⟩, 5) := ⟨⟨by decide +kernel, by decide +kernel⟩, List.mem_of_getElem? (i := 378) (by decide +kernel), List.mem_of_getElem? (i := 909) (by decide +kernel), List.mem_of_getElem? (i := 910) (by decide +kernel)⟩
theorem lw_p35 : lw_okq (⟨"CliffJudges$Ear", "isLost", "(LCliffJudges$Hills;LCliffJudges$Shout;II)Z"⟩, 5) := ⟨⟨by decide +kernel, by decide +kernel⟩, List.mem_of_getElem? (i := 378) (by decide +kernel), List.mem_of_getElem? (i := 928) (by decide +kernel), List.mem_of_getElem? (i := 929) (by decide +kernel)⟩
theorem lw_p36 : lw_okq (⟨"CliffJudges$Moments", "goTo", "(I)V"⟩, 7) := ⟨⟨by decide +kernel, by decide +kernel⟩, List.mem_of_getElem? (i := 289) (by decide +kernel), List.mem_of_getElem? (i := 980) (by decide +kernel), List.mem_of_getElem? (i := 981) (by decide +kernel)⟩
theorem lw_p37 : lw_okq (⟨"CliffJudges", "layDown", "([II)V"⟩, 14) := ⟨⟨by decide +kernel, by decide +kernel⟩, List.mem_of_getElem? (i := 23) (by decide +kernel), List.mem_of_getElem? (i := 997) (by decide +kernel), List.mem_of_getElem? (i := 998) (by decide +kernel)⟩
theorem lw_p38 : lw_okq (⟨"CliffJudges$Cries", "countFrom", "(I)I"⟩, 8) := ⟨⟨by decide +kernel, by decide +kernel⟩, List.mem_of_getElem? (i := 418) (by decide +kernel), List.mem_of_getElem? (i := 1025) (by decide +kernel), List.mem_of_getElem? (i := 1026) (by decide +kernel)⟩
theorem lw_p39 : lw_okq (⟨"CliffJudges$Cries", "pardonsWithLast", "(II)Z"⟩, 8) := ⟨⟨by decide +kernel, by decide +kernel⟩, List.mem_of_getElem? (i := 418) (by decide +kernel), List.mem_of_getElem? (i := 1029) (by decide +kernel), List.mem_of_getElem? (i := 1030) (by decide +kernel)⟩
theorem lw_p40 : lw_okq (⟨"CliffJudges$Cries", "endState", "(LCliffJudges$Ear;II)I"⟩, 8) := ⟨⟨by decide +kernel, by decide +kernel⟩, List.mem_of_getElem? (i := 418) (by decide +kernel), List.mem_of_getElem? (i := 1035) (by decide +kernel), List.mem_of_getElem? (i := 1036) (by decide +kernel)⟩
theorem lw_p41 : lw_okq (⟨"CliffJudges$Cries", "straightPath", "(II)I"⟩, 8) := ⟨⟨by decide +kernel, by decide +kernel⟩, List.mem_of_getElem? (i := 418) (by decide +kernel), List.mem_of_getElem? (i := 1042) (by decide +kernel), List.mem_of_getElem? (i := 1043) (by decide +kernel)⟩
theorem lw_p42 : lw_okq (⟨"CliffJudges$Cries", "goOn", "(II)V"⟩, 8) := ⟨⟨by decide +kernel, by decide +kernel⟩, List.mem_of_getElem? (i := 418) (by decide +kernel), List.mem_of_getElem? (i := 1047) (by decide +kernel), List.mem_of_getElem? (i := 1048) (by decide +kernel)⟩
theorem lw_p43 : lw_okq (⟨"CliffJudges$Cries", "turnedPath", "(II)I"⟩, 8) := ⟨⟨by decide +kernel, by decide +kernel⟩, List.mem_of_getElem? (i := 418) (by decide +kernel), List.mem_of_getElem? (i := 1051) (by decide +kernel), List.mem_of_getElem? (i := 1052) (by decide +kernel)⟩
theorem lw_p44 : lw_okq (⟨"CliffJudges$Cries", "countWays", "(LCliffJudges$Ear;I)V"⟩, 8) := ⟨⟨by decide +kernel, by decide +kernel⟩, List.mem_of_getElem? (i := 418) (by decide +kernel), List.mem_of_getElem? (i := 1070) (by decide +kernel), List.mem_of_getElem? (i := 1071) (by decide +kernel)⟩
theorem lw_p45 : lw_okq (⟨"CliffJudges$Cries", "followWays", "(LCliffJudges$Ear;I)V"⟩, 8) := ⟨⟨by decide +kernel, by decide +kernel⟩, List.mem_of_getElem? (i := 418) (by decide +kernel), List.mem_of_getElem? (i := 1083) (by decide +kernel), List.mem_of_getElem? (i := 1084) (by decide +kernel)⟩
theorem lw_p46 : lw_okq (⟨"CliffJudges", "clearLedges", "(I)V"⟩, 14) := ⟨⟨by decide +kernel, by decide +kernel⟩, List.mem_of_getElem? (i := 23) (by decide +kernel), List.mem_of_getElem? (i := 1099) (by decide +kernel), List.mem_of_getElem? (i := 1100) (by decide +kernel)⟩
theorem lw_p47 : lw_okq (⟨"CliffJudges$Rhymes", "orderCliffs", "()V"⟩, 9) := ⟨⟨by decide +kernel, by decide +kernel⟩, List.mem_of_getElem? (i := 450) (by decide +kernel), List.mem_of_getElem? (i := 1112) (by decide +kernel), List.mem_of_getElem? (i := 1113) (by decide +kernel)⟩
def lw_privs_3 : List (MethodName × Nat) := [(⟨"CliffJudges", "loadWeather", "(LCliffJudges$Shout;)V"⟩, 14), (⟨"CliffJudges", "loadCry", "(LCliffJudges$Shout;I)V"⟩, 14), (⟨"CliffJudges$Ear", "place", "(LCliffJudges$Hills;LCliffJudges$Shout;II)V"⟩, 5), (⟨"CliffJudges$Ear", "isLost", "(LCliffJudges$Hills;LCliffJudges$Shout;II)Z"⟩, 5), (⟨"CliffJudges$Moments", "goTo", "(I)V"⟩, 7), (⟨"CliffJudges", "layDown", "([II)V"⟩, 14), (⟨"CliffJudges$Cries", "countFrom", "(I)I"⟩, 8), (⟨"CliffJudges$Cries", "pardonsWithLast", "(II)Z"⟩, 8), (⟨"CliffJudges$Cries", "endState", "(LCliffJudges$Ear;II)I"⟩, 8), (⟨"CliffJudges$Cries", "straightPath", "(II)I"⟩, 8), (⟨"CliffJudges$Cries", "goOn", "(II)V"⟩, 8), (⟨"CliffJudges$Cries", "turnedPath", "(II)I"⟩, 8), (⟨"CliffJudges$Cries", "countWays", "(LCliffJudges$Ear;I)V"⟩, 8), (⟨"CliffJudges$Cries", "followWays", "(LCliffJudges$Ear;I)V"⟩, 8), (⟨"CliffJudges", "clearLedges", "(I)V"⟩, 14), (⟨"CliffJudges$Rhymes", "orderCliffs", "()V"⟩, 9)]
theorem lw_r3 : ∀ q ∈ lw_privs_3, lw_okq q := List.forall_mem_cons.mpr ⟨lw_p32, List.forall_mem_cons.mpr ⟨lw_p33, List.forall_mem_cons.mpr ⟨lw_p34, List.forall_mem_cons.mpr ⟨lw_p35, List.forall_mem_cons.mpr ⟨lw_p36, List.forall_mem_cons.mpr ⟨lw_p37, List.forall_mem_cons.mpr ⟨lw_p38, List.forall_mem_cons.mpr ⟨lw_p39, List.forall_mem_cons.mpr ⟨lw_p40, List.forall_mem_cons.mpr ⟨lw_p41, List.forall_mem_cons.mpr ⟨lw_p42, List.forall_mem_cons.mpr ⟨lw_p43, List.forall_mem_cons.mpr ⟨lw_p44, List.forall_mem_cons.mpr ⟨lw_p45, List.forall_mem_cons.mpr ⟨lw_p46, List.forall_mem_cons.mpr ⟨lw_p47, fun _ h => absurd h List.not_mem_nil⟩⟩⟩⟩⟩⟩⟩⟩⟩⟩⟩⟩⟩⟩⟩⟩
theorem lw_p48 : lw_okq (⟨"CliffJudges$Rhymes", "findQuiet", "()V"⟩, 9) := ⟨⟨by decide +kernel, by decide +kernel⟩, List.mem_of_getElem? (i := 450) (by decide +kernel), List.mem_of_getElem? (i := 1117) (by decide +kernel), List.mem_of_getElem? (i := 1118) (by decide +kernel)⟩
theorem lw_p49 : lw_okq (⟨"CliffJudges$Rhymes", "choosePlaces", "(III)Z"⟩, 9) := ⟨⟨by decide +kernel, by decide +kernel⟩, List.mem_of_getElem? (i := 450) (by decide +kernel), List.mem_of_getElem? (i := 1121) (by decide +kernel), List.mem_of_getElem? (i := 1122) (by decide +kernel)⟩
theorem lw_p50 : lw_okq (⟨"CliffJudges$Rhymes", "canBeYes", "(I)Z"⟩, 9) := ⟨⟨by decide +kernel, by decide +kernel⟩, List.mem_of_getElem? (i := 450) (by decide +kernel), List.mem_of_getElem? (i := 1125) (by decide +kernel), List.mem_of_getElem? (i := 1126) (by decide +kernel)⟩
theorem lw_p51 : lw_okq (⟨"CliffJudges$Rhymes", "canBeYesBy", "(II)Z"⟩, 9) := ⟨⟨by decide +kernel, by decide +kernel⟩, List.mem_of_getElem? (i := 450) (by decide +kernel), List.mem_of_getElem? (i := 1129) (by decide +kernel), List.mem_of_getElem? (i := 1130) (by decide +kernel)⟩
theorem lw_p52 : lw_okq (⟨"CliffJudges$Rhymes", "choices", "(II)I"⟩, 9) := ⟨⟨by decide +kernel, by decide +kernel⟩, List.mem_of_getElem? (i := 450) (by decide +kernel), List.mem_of_getElem? (i := 1134) (by decide +kernel), List.mem_of_getElem? (i := 1135) (by decide +kernel)⟩
theorem lw_p53 : lw_okq (⟨"CliffJudges$Rhymes", "led", "(II)I"⟩, 9) := ⟨⟨by decide +kernel, by decide +kernel⟩, List.mem_of_getElem? (i := 450) (by decide +kernel), List.mem_of_getElem? (i := 1138) (by decide +kernel), List.mem_of_getElem? (i := 1139) (by decide +kernel)⟩
theorem lw_p54 : lw_okq (⟨"CliffJudges$Rhymes", "chooseWords", "(I)Z"⟩, 9) := ⟨⟨by decide +kernel, by decide +kernel⟩, List.mem_of_getElem? (i := 450) (by decide +kernel), List.mem_of_getElem? (i := 1142) (by decide +kernel), List.mem_of_getElem? (i := 1143) (by decide +kernel)⟩
theorem lw_p55 : lw_okq (⟨"CliffJudges$Rhymes", "isYesNow", "()Z"⟩, 9) := ⟨⟨by decide +kernel, by decide +kernel⟩, List.mem_of_getElem? (i := 450) (by decide +kernel), List.mem_of_getElem? (i := 1146) (by decide +kernel), List.mem_of_getElem? (i := 1147) (by decide +kernel)⟩
theorem lw_p56 : lw_okq (⟨"CliffJudges$Hills", "countStepsTo", "(I)V"⟩, 16) := ⟨⟨by decide +kernel, by decide +kernel⟩, List.mem_of_getElem? (i := 160) (by decide +kernel), List.mem_of_getElem? (i := 1176) (by decide +kernel), List.mem_of_getElem? (i := 1177) (by decide +kernel)⟩
theorem lw_p57 : lw_okq (⟨"CliffJudges$Hills", "leadsToOneAt", "(II)Z"⟩, 16) := ⟨⟨by decide +kernel, by decide +kernel⟩, List.mem_of_getElem? (i := 160) (by decide +kernel), List.mem_of_getElem? (i := 1180) (by decide +kernel), List.mem_of_getElem? (i := 1181) (by decide +kernel)⟩
theorem lw_p58 : lw_okq (⟨"CliffJudges$Hills", "firstWordNearer", "(I)I"⟩, 16) := ⟨⟨by decide +kernel, by decide +kernel⟩, List.mem_of_getElem? (i := 160) (by decide +kernel), List.mem_of_getElem? (i := 1184) (by decide +kernel), List.mem_of_getElem? (i := 1185) (by decide +kernel)⟩
theorem lw_p59 : lw_okq (⟨"CliffJudges$Sounds", "canBeAt", "(LCliffJudges$Hills;II)Z"⟩, 13) := ⟨⟨by decide +kernel, by decide +kernel⟩, List.mem_of_getElem? (i := 320) (by decide +kernel), List.mem_of_getElem? (i := 1221) (by decide +kernel), List.mem_of_getElem? (i := 1222) (by decide +kernel)⟩
theorem lw_p60 : lw_okq (⟨"CliffJudges$Sounds", "counts", "(II)Z"⟩, 13) := ⟨⟨by decide +kernel, by decide +kernel⟩, List.mem_of_getElem? (i := 320) (by decide +kernel), List.mem_of_getElem? (i := 1225) (by decide +kernel), List.mem_of_getElem? (i := 1226) (by decide +kernel)⟩
theorem lw_p61 : lw_okq (⟨"CliffJudges$Sounds", "sentTo", "(LCliffJudges$Hills;III)I"⟩, 13) := ⟨⟨by decide +kernel, by decide +kernel⟩, List.mem_of_getElem? (i := 320) (by decide +kernel), List.mem_of_getElem? (i := 1229) (by decide +kernel), List.mem_of_getElem? (i := 1230) (by decide +kernel)⟩
theorem lw_p62 : lw_okq (⟨"CliffJudges$Sounds", "mostLeftBehind", "(LCliffJudges$Hills;II)I"⟩, 13) := ⟨⟨by decide +kernel, by decide +kernel⟩, List.mem_of_getElem? (i := 320) (by decide +kernel), List.mem_of_getElem? (i := 1251) (by decide +kernel), List.mem_of_getElem? (i := 1252) (by decide +kernel)⟩
theorem lw_p63 : lw_okq (⟨"CliffJudgesModel", "four", "(I)V"⟩, 89) := ⟨⟨by decide +kernel, by decide +kernel⟩, List.mem_of_getElem? (i := 1279) (by decide +kernel), List.mem_of_getElem? (i := 1558) (by decide +kernel), List.mem_of_getElem? (i := 1559) (by decide +kernel)⟩
def lw_privs_4 : List (MethodName × Nat) := [(⟨"CliffJudges$Rhymes", "findQuiet", "()V"⟩, 9), (⟨"CliffJudges$Rhymes", "choosePlaces", "(III)Z"⟩, 9), (⟨"CliffJudges$Rhymes", "canBeYes", "(I)Z"⟩, 9), (⟨"CliffJudges$Rhymes", "canBeYesBy", "(II)Z"⟩, 9), (⟨"CliffJudges$Rhymes", "choices", "(II)I"⟩, 9), (⟨"CliffJudges$Rhymes", "led", "(II)I"⟩, 9), (⟨"CliffJudges$Rhymes", "chooseWords", "(I)Z"⟩, 9), (⟨"CliffJudges$Rhymes", "isYesNow", "()Z"⟩, 9), (⟨"CliffJudges$Hills", "countStepsTo", "(I)V"⟩, 16), (⟨"CliffJudges$Hills", "leadsToOneAt", "(II)Z"⟩, 16), (⟨"CliffJudges$Hills", "firstWordNearer", "(I)I"⟩, 16), (⟨"CliffJudges$Sounds", "canBeAt", "(LCliffJudges$Hills;II)Z"⟩, 13), (⟨"CliffJudges$Sounds", "counts", "(II)Z"⟩, 13), (⟨"CliffJudges$Sounds", "sentTo", "(LCliffJudges$Hills;III)I"⟩, 13), (⟨"CliffJudges$Sounds", "mostLeftBehind", "(LCliffJudges$Hills;II)I"⟩, 13), (⟨"CliffJudgesModel", "four", "(I)V"⟩, 89)]
theorem lw_r4 : ∀ q ∈ lw_privs_4, lw_okq q := List.forall_mem_cons.mpr ⟨lw_p48, List.forall_mem_cons.mpr ⟨lw_p49, List.forall_mem_cons.mpr ⟨lw_p50, List.forall_mem_cons.mpr ⟨lw_p51, List.forall_mem_cons.mpr ⟨lw_p52, List.forall_mem_cons.mpr ⟨lw_p53, List.forall_mem_cons.mpr ⟨lw_p54, List.forall_mem_cons.mpr ⟨lw_p55, List.forall_mem_cons.mpr ⟨lw_p56, List.forall_mem_cons.mpr ⟨lw_p57, List.forall_mem_cons.mpr ⟨lw_p58, List.forall_mem_cons.mpr ⟨lw_p59, List.forall_mem_cons.mpr ⟨lw_p60, List.forall_mem_cons.mpr ⟨lw_p61, List.forall_mem_cons.mpr ⟨lw_p62, List.forall_mem_cons.mpr ⟨lw_p63, fun _ h => absurd h List.not_mem_nil⟩⟩⟩⟩⟩⟩⟩⟩⟩⟩⟩⟩⟩⟩⟩⟩
theorem lw_p64 : lw_okq (⟨"CliffJudgesModel", "readAll", "()V"⟩, 89) := ⟨⟨by decide +kernel, by decide +kernel⟩, List.mem_of_getElem? (i := 1279) (by decide +kernel), List.mem_of_getElem? (i := 1570) (by decide +kernel), List.mem_of_getElem? (i := 1571) (by decide +kernel)⟩
theorem lw_p65 : lw_okq (⟨"CliffJudgesModel", "token", "()V"⟩, 89) := ⟨⟨by decide +kernel, by decide +kernel⟩, List.mem_of_getElem? (i := 1279) (by decide +kernel), List.mem_of_getElem? (i := 1574) (by decide +kernel), List.mem_of_getElem? (i := 1575) (by decide +kernel)⟩
theorem lw_p66 : lw_okq (⟨"CliffJudgesModel", "here", "(I)I"⟩, 89) := ⟨⟨by decide +kernel, by decide +kernel⟩, List.mem_of_getElem? (i := 1279) (by decide +kernel), List.mem_of_getElem? (i := 1578) (by decide +kernel), List.mem_of_getElem? (i := 1579) (by decide +kernel)⟩
theorem lw_p67 : lw_okq (⟨"CliffJudgesModel", "readLine", "()V"⟩, 89) := ⟨⟨by decide +kernel, by decide +kernel⟩, List.mem_of_getElem? (i := 1279) (by decide +kernel), List.mem_of_getElem? (i := 1591) (by decide +kernel), List.mem_of_getElem? (i := 1592) (by decide +kernel)⟩
theorem lw_p68 : lw_okq (⟨"CliffJudgesModel", "isWord", "(J)Z"⟩, 89) := ⟨⟨by decide +kernel, by decide +kernel⟩, List.mem_of_getElem? (i := 1279) (by decide +kernel), List.mem_of_getElem? (i := 1596) (by decide +kernel), List.mem_of_getElem? (i := 1597) (by decide +kernel)⟩
theorem lw_p69 : lw_okq (⟨"CliffJudgesModel", "readWord", "()V"⟩, 89) := ⟨⟨by decide +kernel, by decide +kernel⟩, List.mem_of_getElem? (i := 1279) (by decide +kernel), List.mem_of_getElem? (i := 1600) (by decide +kernel), List.mem_of_getElem? (i := 1601) (by decide +kernel)⟩
theorem lw_p70 : lw_okq (⟨"CliffJudgesModel", "newName", "(II)V"⟩, 89) := ⟨⟨by decide +kernel, by decide +kernel⟩, List.mem_of_getElem? (i := 1279) (by decide +kernel), List.mem_of_getElem? (i := 1604) (by decide +kernel), List.mem_of_getElem? (i := 1605) (by decide +kernel)⟩
theorem lw_p71 : lw_okq (⟨"CliffJudgesModel", "isName", "()Z"⟩, 89) := ⟨⟨by decide +kernel, by decide +kernel⟩, List.mem_of_getElem? (i := 1279) (by decide +kernel), List.mem_of_getElem? (i := 1608) (by decide +kernel), List.mem_of_getElem? (i := 1609) (by decide +kernel)⟩
theorem lw_p72 : lw_okq (⟨"CliffJudgesModel", "isOwn", "()Z"⟩, 89) := ⟨⟨by decide +kernel, by decide +kernel⟩, List.mem_of_getElem? (i := 1279) (by decide +kernel), List.mem_of_getElem? (i := 1612) (by decide +kernel), List.mem_of_getElem? (i := 1613) (by decide +kernel)⟩
theorem lw_p73 : lw_okq (⟨"CliffJudgesModel", "wrong", "(I)V"⟩, 89) := ⟨⟨by decide +kernel, by decide +kernel⟩, List.mem_of_getElem? (i := 1279) (by decide +kernel), List.mem_of_getElem? (i := 1639) (by decide +kernel), List.mem_of_getElem? (i := 1640) (by decide +kernel)⟩
theorem lw_p74 : lw_okq (⟨"CliffJudgesModel", "find", "(II)I"⟩, 89) := ⟨⟨by decide +kernel, by decide +kernel⟩, List.mem_of_getElem? (i := 1279) (by decide +kernel), List.mem_of_getElem? (i := 1643) (by decide +kernel), List.mem_of_getElem? (i := 1644) (by decide +kernel)⟩
theorem lw_p75 : lw_okq (⟨"CliffJudgesModel", "option", "(J)I"⟩, 89) := ⟨⟨by decide +kernel, by decide +kernel⟩, List.mem_of_getElem? (i := 1279) (by decide +kernel), List.mem_of_getElem? (i := 1647) (by decide +kernel), List.mem_of_getElem? (i := 1648) (by decide +kernel)⟩
theorem lw_p76 : lw_okq (⟨"CliffJudgesModel", "told", "(JII)I"⟩, 89) := ⟨⟨by decide +kernel, by decide +kernel⟩, List.mem_of_getElem? (i := 1279) (by decide +kernel), List.mem_of_getElem? (i := 1651) (by decide +kernel), List.mem_of_getElem? (i := 1652) (by decide +kernel)⟩
theorem lw_p77 : lw_okq (⟨"CliffJudgesModel", "want", "(J)V"⟩, 89) := ⟨⟨by decide +kernel, by decide +kernel⟩, List.mem_of_getElem? (i := 1279) (by decide +kernel), List.mem_of_getElem? (i := 1655) (by decide +kernel), List.mem_of_getElem? (i := 1656) (by decide +kernel)⟩
theorem lw_p78 : lw_okq (⟨"CliffJudgesModel", "toldNumber", "(II)I"⟩, 89) := ⟨⟨by decide +kernel, by decide +kernel⟩, List.mem_of_getElem? (i := 1279) (by decide +kernel), List.mem_of_getElem? (i := 1659) (by decide +kernel), List.mem_of_getElem? (i := 1660) (by decide +kernel)⟩
theorem lw_p79 : lw_okq (⟨"CliffJudgesModel", "readCliff", "()V"⟩, 89) := ⟨⟨by decide +kernel, by decide +kernel⟩, List.mem_of_getElem? (i := 1279) (by decide +kernel), List.mem_of_getElem? (i := 1663) (by decide +kernel), List.mem_of_getElem? (i := 1664) (by decide +kernel)⟩
def lw_privs_5 : List (MethodName × Nat) := [(⟨"CliffJudgesModel", "readAll", "()V"⟩, 89), (⟨"CliffJudgesModel", "token", "()V"⟩, 89), (⟨"CliffJudgesModel", "here", "(I)I"⟩, 89), (⟨"CliffJudgesModel", "readLine", "()V"⟩, 89), (⟨"CliffJudgesModel", "isWord", "(J)Z"⟩, 89), (⟨"CliffJudgesModel", "readWord", "()V"⟩, 89), (⟨"CliffJudgesModel", "newName", "(II)V"⟩, 89), (⟨"CliffJudgesModel", "isName", "()Z"⟩, 89), (⟨"CliffJudgesModel", "isOwn", "()Z"⟩, 89), (⟨"CliffJudgesModel", "wrong", "(I)V"⟩, 89), (⟨"CliffJudgesModel", "find", "(II)I"⟩, 89), (⟨"CliffJudgesModel", "option", "(J)I"⟩, 89), (⟨"CliffJudgesModel", "told", "(JII)I"⟩, 89), (⟨"CliffJudgesModel", "want", "(J)V"⟩, 89), (⟨"CliffJudgesModel", "toldNumber", "(II)I"⟩, 89), (⟨"CliffJudgesModel", "readCliff", "()V"⟩, 89)]
theorem lw_r5 : ∀ q ∈ lw_privs_5, lw_okq q := List.forall_mem_cons.mpr ⟨lw_p64, List.forall_mem_cons.mpr ⟨lw_p65, List.forall_mem_cons.mpr ⟨lw_p66, List.forall_mem_cons.mpr ⟨lw_p67, List.forall_mem_cons.mpr ⟨lw_p68, List.forall_mem_cons.mpr ⟨lw_p69, List.forall_mem_cons.mpr ⟨lw_p70, List.forall_mem_cons.mpr ⟨lw_p71, List.forall_mem_cons.mpr ⟨lw_p72, List.forall_mem_cons.mpr ⟨lw_p73, List.forall_mem_cons.mpr ⟨lw_p74, List.forall_mem_cons.mpr ⟨lw_p75, List.forall_mem_cons.mpr ⟨lw_p76, List.forall_mem_cons.mpr ⟨lw_p77, List.forall_mem_cons.mpr ⟨lw_p78, List.forall_mem_cons.mpr ⟨lw_p79, fun _ h => absurd h List.not_mem_nil⟩⟩⟩⟩⟩⟩⟩⟩⟩⟩⟩⟩⟩⟩⟩⟩
theorem lw_p80 : lw_okq (⟨"CliffJudgesModel", "readMan", "()V"⟩, 89) := ⟨⟨by decide +kernel, by decide +kernel⟩, List.mem_of_getElem? (i := 1279) (by decide +kernel), List.mem_of_getElem? (i := 1667) (by decide +kernel), List.mem_of_getElem? (i := 1668) (by decide +kernel)⟩
theorem lw_p81 : lw_okq (⟨"CliffJudgesModel", "readState", "()V"⟩, 89) := ⟨⟨by decide +kernel, by decide +kernel⟩, List.mem_of_getElem? (i := 1279) (by decide +kernel), List.mem_of_getElem? (i := 1671) (by decide +kernel), List.mem_of_getElem? (i := 1672) (by decide +kernel)⟩
theorem lw_p82 : lw_okq (⟨"CliffJudgesModel", "readOn", "()V"⟩, 89) := ⟨⟨by decide +kernel, by decide +kernel⟩, List.mem_of_getElem? (i := 1279) (by decide +kernel), List.mem_of_getElem? (i := 1675) (by decide +kernel), List.mem_of_getElem? (i := 1676) (by decide +kernel)⟩
theorem lw_p83 : lw_okq (⟨"CliffJudgesModel", "oldName", "(II)I"⟩, 89) := ⟨⟨by decide +kernel, by decide +kernel⟩, List.mem_of_getElem? (i := 1279) (by decide +kernel), List.mem_of_getElem? (i := 1679) (by decide +kernel), List.mem_of_getElem? (i := 1680) (by decide +kernel)⟩
theorem lw_p84 : lw_okq (⟨"CliffJudgesModel", "formula", "(I)V"⟩, 89) := ⟨⟨by decide +kernel, by decide +kernel⟩, List.mem_of_getElem? (i := 1279) (by decide +kernel), List.mem_of_getElem? (i := 1683) (by decide +kernel), List.mem_of_getElem? (i := 1684) (by decide +kernel)⟩
theorem lw_p85 : lw_okq (⟨"CliffJudgesModel", "unit", "()V"⟩, 89) := ⟨⟨by decide +kernel, by decide +kernel⟩, List.mem_of_getElem? (i := 1279) (by decide +kernel), List.mem_of_getElem? (i := 1687) (by decide +kernel), List.mem_of_getElem? (i := 1688) (by decide +kernel)⟩
theorem lw_p86 : lw_okq (⟨"CliffJudgesModel", "mayNot", "()Z"⟩, 89) := ⟨⟨by decide +kernel, by decide +kernel⟩, List.mem_of_getElem? (i := 1279) (by decide +kernel), List.mem_of_getElem? (i := 1691) (by decide +kernel), List.mem_of_getElem? (i := 1692) (by decide +kernel)⟩
theorem lw_p87 : lw_okq (⟨"CliffJudgesModel", "openUp", "(I)V"⟩, 89) := ⟨⟨by decide +kernel, by decide +kernel⟩, List.mem_of_getElem? (i := 1279) (by decide +kernel), List.mem_of_getElem? (i := 1698) (by decide +kernel), List.mem_of_getElem? (i := 1699) (by decide +kernel)⟩
theorem lw_p88 : lw_okq (⟨"CliffJudgesModel", "isFull", "()Z"⟩, 89) := ⟨⟨by decide +kernel, by decide +kernel⟩, List.mem_of_getElem? (i := 1279) (by decide +kernel), List.mem_of_getElem? (i := 1702) (by decide +kernel), List.mem_of_getElem? (i := 1703) (by decide +kernel)⟩
theorem lw_p89 : lw_okq (⟨"CliffJudgesModel", "countUnit", "()V"⟩, 89) := ⟨⟨by decide +kernel, by decide +kernel⟩, List.mem_of_getElem? (i := 1279) (by decide +kernel), List.mem_of_getElem? (i := 1706) (by decide +kernel), List.mem_of_getElem? (i := 1707) (by decide +kernel)⟩
theorem lw_p90 : lw_okq (⟨"CliffJudgesModel", "asked", "()I"⟩, 89) := ⟨⟨by decide +kernel, by decide +kernel⟩, List.mem_of_getElem? (i := 1279) (by decide +kernel), List.mem_of_getElem? (i := 1710) (by decide +kernel), List.mem_of_getElem? (i := 1711) (by decide +kernel)⟩
theorem lw_p91 : lw_okq (⟨"CliffJudgesModel", "add", "(II)V"⟩, 89) := ⟨⟨by decide +kernel, by decide +kernel⟩, List.mem_of_getElem? (i := 1279) (by decide +kernel), List.mem_of_getElem? (i := 1714) (by decide +kernel), List.mem_of_getElem? (i := 1715) (by decide +kernel)⟩
theorem lw_p92 : lw_okq (⟨"CliffJudgesModel", "sign", "()I"⟩, 89) := ⟨⟨by decide +kernel, by decide +kernel⟩, List.mem_of_getElem? (i := 1279) (by decide +kernel), List.mem_of_getElem? (i := 1718) (by decide +kernel), List.mem_of_getElem? (i := 1719) (by decide +kernel)⟩
theorem lw_p93 : lw_okq (⟨"CliffJudgesModel", "hasBracket", "()Z"⟩, 89) := ⟨⟨by decide +kernel, by decide +kernel⟩, List.mem_of_getElem? (i := 1279) (by decide +kernel), List.mem_of_getElem? (i := 1722) (by decide +kernel), List.mem_of_getElem? (i := 1723) (by decide +kernel)⟩
theorem lw_p94 : lw_okq (⟨"CliffJudgesModel", "close", "(I)V"⟩, 89) := ⟨⟨by decide +kernel, by decide +kernel⟩, List.mem_of_getElem? (i := 1279) (by decide +kernel), List.mem_of_getElem? (i := 1726) (by decide +kernel), List.mem_of_getElem? (i := 1727) (by decide +kernel)⟩
theorem lw_p95 : lw_okq (⟨"CliffJudgesModel", "hasRelation", "()Z"⟩, 89) := ⟨⟨by decide +kernel, by decide +kernel⟩, List.mem_of_getElem? (i := 1279) (by decide +kernel), List.mem_of_getElem? (i := 1730) (by decide +kernel), List.mem_of_getElem? (i := 1731) (by decide +kernel)⟩
def lw_privs_6 : List (MethodName × Nat) := [(⟨"CliffJudgesModel", "readMan", "()V"⟩, 89), (⟨"CliffJudgesModel", "readState", "()V"⟩, 89), (⟨"CliffJudgesModel", "readOn", "()V"⟩, 89), (⟨"CliffJudgesModel", "oldName", "(II)I"⟩, 89), (⟨"CliffJudgesModel", "formula", "(I)V"⟩, 89), (⟨"CliffJudgesModel", "unit", "()V"⟩, 89), (⟨"CliffJudgesModel", "mayNot", "()Z"⟩, 89), (⟨"CliffJudgesModel", "openUp", "(I)V"⟩, 89), (⟨"CliffJudgesModel", "isFull", "()Z"⟩, 89), (⟨"CliffJudgesModel", "countUnit", "()V"⟩, 89), (⟨"CliffJudgesModel", "asked", "()I"⟩, 89), (⟨"CliffJudgesModel", "add", "(II)V"⟩, 89), (⟨"CliffJudgesModel", "sign", "()I"⟩, 89), (⟨"CliffJudgesModel", "hasBracket", "()Z"⟩, 89), (⟨"CliffJudgesModel", "close", "(I)V"⟩, 89), (⟨"CliffJudgesModel", "hasRelation", "()Z"⟩, 89)]
theorem lw_r6 : ∀ q ∈ lw_privs_6, lw_okq q := List.forall_mem_cons.mpr ⟨lw_p80, List.forall_mem_cons.mpr ⟨lw_p81, List.forall_mem_cons.mpr ⟨lw_p82, List.forall_mem_cons.mpr ⟨lw_p83, List.forall_mem_cons.mpr ⟨lw_p84, List.forall_mem_cons.mpr ⟨lw_p85, List.forall_mem_cons.mpr ⟨lw_p86, List.forall_mem_cons.mpr ⟨lw_p87, List.forall_mem_cons.mpr ⟨lw_p88, List.forall_mem_cons.mpr ⟨lw_p89, List.forall_mem_cons.mpr ⟨lw_p90, List.forall_mem_cons.mpr ⟨lw_p91, List.forall_mem_cons.mpr ⟨lw_p92, List.forall_mem_cons.mpr ⟨lw_p93, List.forall_mem_cons.mpr ⟨lw_p94, List.forall_mem_cons.mpr ⟨lw_p95, fun _ h => absurd h List.not_mem_nil⟩⟩⟩⟩⟩⟩⟩⟩⟩⟩⟩⟩⟩⟩⟩⟩
theorem lw_p96 : lw_okq (⟨"CliffJudgesModel", "isCliff", "(I)Z"⟩, 89) := ⟨⟨by decide +kernel, by decide +kernel⟩, List.mem_of_getElem? (i := 1279) (by decide +kernel), List.mem_of_getElem? (i := 1742) (by decide +kernel), List.mem_of_getElem? (i := 1743) (by decide +kernel)⟩
theorem lw_p97 : lw_okq (⟨"CliffJudgesModel", "isMan", "(I)Z"⟩, 89) := ⟨⟨by decide +kernel, by decide +kernel⟩, List.mem_of_getElem? (i := 1279) (by decide +kernel), List.mem_of_getElem? (i := 1753) (by decide +kernel), List.mem_of_getElem? (i := 1754) (by decide +kernel)⟩
theorem lw_p98 : lw_okq (⟨"CliffJudgesModel", "isState", "(I)Z"⟩, 89) := ⟨⟨by decide +kernel, by decide +kernel⟩, List.mem_of_getElem? (i := 1279) (by decide +kernel), List.mem_of_getElem? (i := 1761) (by decide +kernel), List.mem_of_getElem? (i := 1762) (by decide +kernel)⟩
theorem lw_p99 : lw_okq (⟨"CliffJudgesModel", "isSaid", "(I)Z"⟩, 89) := ⟨⟨by decide +kernel, by decide +kernel⟩, List.mem_of_getElem? (i := 1279) (by decide +kernel), List.mem_of_getElem? (i := 1765) (by decide +kernel), List.mem_of_getElem? (i := 1766) (by decide +kernel)⟩
theorem lw_p100 : lw_okq (⟨"CliffJudgesModel", "leadsTo", "(II)I"⟩, 89) := ⟨⟨by decide +kernel, by decide +kernel⟩, List.mem_of_getElem? (i := 1279) (by decide +kernel), List.mem_of_getElem? (i := 1769) (by decide +kernel), List.mem_of_getElem? (i := 1770) (by decide +kernel)⟩
theorem lw_p101 : lw_okq (⟨"CliffJudgesModel", "act", "()V"⟩, 89) := ⟨⟨by decide +kernel, by decide +kernel⟩, List.mem_of_getElem? (i := 1279) (by decide +kernel), List.mem_of_getElem? (i := 1780) (by decide +kernel), List.mem_of_getElem? (i := 1781) (by decide +kernel)⟩
theorem lw_p102 : lw_okq (⟨"CliffJudgesModel", "load", "(I)V"⟩, 89) := ⟨⟨by decide +kernel, by decide +kernel⟩, List.mem_of_getElem? (i := 1279) (by decide +kernel), List.mem_of_getElem? (i := 1796) (by decide +kernel), List.mem_of_getElem? (i := 1797) (by decide +kernel)⟩
theorem lw_p103 : lw_okq (⟨"CliffJudgesModel", "loadSky", "()V"⟩, 89) := ⟨⟨by decide +kernel, by decide +kernel⟩, List.mem_of_getElem? (i := 1279) (by decide +kernel), List.mem_of_getElem? (i := 1800) (by decide +kernel), List.mem_of_getElem? (i := 1801) (by decide +kernel)⟩
theorem lw_p104 : lw_okq (⟨"CliffJudgesModel", "loadCry", "(I)V"⟩, 89) := ⟨⟨by decide +kernel, by decide +kernel⟩, List.mem_of_getElem? (i := 1279) (by decide +kernel), List.mem_of_getElem? (i := 1804) (by decide +kernel), List.mem_of_getElem? (i := 1805) (by decide +kernel)⟩
theorem lw_p105 : lw_okq (⟨"CliffJudgesModel", "loadMan", "(I)V"⟩, 89) := ⟨⟨by decide +kernel, by decide +kernel⟩, List.mem_of_getElem? (i := 1279) (by decide +kernel), List.mem_of_getElem? (i := 1808) (by decide +kernel), List.mem_of_getElem? (i := 1809) (by decide +kernel)⟩
theorem lw_p106 : lw_okq (⟨"CliffJudgesModel", "verdict", "()I"⟩, 89) := ⟨⟨by decide +kernel, by decide +kernel⟩, List.mem_of_getElem? (i := 1279) (by decide +kernel), List.mem_of_getElem? (i := 1812) (by decide +kernel), List.mem_of_getElem? (i := 1813) (by decide +kernel)⟩
theorem lw_p107 : lw_okq (⟨"CliffJudgesModel", "bindsAtHand", "()I"⟩, 89) := ⟨⟨by decide +kernel, by decide +kernel⟩, List.mem_of_getElem? (i := 1279) (by decide +kernel), List.mem_of_getElem? (i := 1816) (by decide +kernel), List.mem_of_getElem? (i := 1817) (by decide +kernel)⟩
theorem lw_p108 : lw_okq (⟨"CliffJudgesModel", "sendFrom", "(I)V"⟩, 89) := ⟨⟨by decide +kernel, by decide +kernel⟩, List.mem_of_getElem? (i := 1279) (by decide +kernel), List.mem_of_getElem? (i := 1820) (by decide +kernel), List.mem_of_getElem? (i := 1821) (by decide +kernel)⟩
theorem lw_p109 : lw_okq (⟨"CliffJudgesModel", "addEcho", "(I)V"⟩, 89) := ⟨⟨by decide +kernel, by decide +kernel⟩, List.mem_of_getElem? (i := 1279) (by decide +kernel), List.mem_of_getElem? (i := 1824) (by decide +kernel), List.mem_of_getElem? (i := 1825) (by decide +kernel)⟩
theorem lw_p110 : lw_okq (⟨"CliffJudgesModel", "farOf", "(I)I"⟩, 89) := ⟨⟨by decide +kernel, by decide +kernel⟩, List.mem_of_getElem? (i := 1279) (by decide +kernel), List.mem_of_getElem? (i := 1828) (by decide +kernel), List.mem_of_getElem? (i := 1829) (by decide +kernel)⟩
theorem lw_p111 : lw_okq (⟨"CliffJudgesModel", "backOf", "(IIII)I"⟩, 89) := ⟨⟨by decide +kernel, by decide +kernel⟩, List.mem_of_getElem? (i := 1279) (by decide +kernel), List.mem_of_getElem? (i := 1835) (by decide +kernel), List.mem_of_getElem? (i := 1836) (by decide +kernel)⟩
def lw_privs_7 : List (MethodName × Nat) := [(⟨"CliffJudgesModel", "isCliff", "(I)Z"⟩, 89), (⟨"CliffJudgesModel", "isMan", "(I)Z"⟩, 89), (⟨"CliffJudgesModel", "isState", "(I)Z"⟩, 89), (⟨"CliffJudgesModel", "isSaid", "(I)Z"⟩, 89), (⟨"CliffJudgesModel", "leadsTo", "(II)I"⟩, 89), (⟨"CliffJudgesModel", "act", "()V"⟩, 89), (⟨"CliffJudgesModel", "load", "(I)V"⟩, 89), (⟨"CliffJudgesModel", "loadSky", "()V"⟩, 89), (⟨"CliffJudgesModel", "loadCry", "(I)V"⟩, 89), (⟨"CliffJudgesModel", "loadMan", "(I)V"⟩, 89), (⟨"CliffJudgesModel", "verdict", "()I"⟩, 89), (⟨"CliffJudgesModel", "bindsAtHand", "()I"⟩, 89), (⟨"CliffJudgesModel", "sendFrom", "(I)V"⟩, 89), (⟨"CliffJudgesModel", "addEcho", "(I)V"⟩, 89), (⟨"CliffJudgesModel", "farOf", "(I)I"⟩, 89), (⟨"CliffJudgesModel", "backOf", "(IIII)I"⟩, 89)]
theorem lw_r7 : ∀ q ∈ lw_privs_7, lw_okq q := List.forall_mem_cons.mpr ⟨lw_p96, List.forall_mem_cons.mpr ⟨lw_p97, List.forall_mem_cons.mpr ⟨lw_p98, List.forall_mem_cons.mpr ⟨lw_p99, List.forall_mem_cons.mpr ⟨lw_p100, List.forall_mem_cons.mpr ⟨lw_p101, List.forall_mem_cons.mpr ⟨lw_p102, List.forall_mem_cons.mpr ⟨lw_p103, List.forall_mem_cons.mpr ⟨lw_p104, List.forall_mem_cons.mpr ⟨lw_p105, List.forall_mem_cons.mpr ⟨lw_p106, List.forall_mem_cons.mpr ⟨lw_p107, List.forall_mem_cons.mpr ⟨lw_p108, List.forall_mem_cons.mpr ⟨lw_p109, List.forall_mem_cons.mpr ⟨lw_p110, List.forall_mem_cons.mpr ⟨lw_p111, fun _ h => absurd h List.not_mem_nil⟩⟩⟩⟩⟩⟩⟩⟩⟩⟩⟩⟩⟩⟩⟩⟩
theorem lw_p112 : lw_okq (⟨"CliffJudgesModel", "askOf", "(IIII)V"⟩, 89) := ⟨⟨by decide +kernel, by decide +kernel⟩, List.mem_of_getElem? (i := 1279) (by decide +kernel), List.mem_of_getElem? (i := 1839) (by decide +kernel), List.mem_of_getElem? (i := 1840) (by decide +kernel)⟩
theorem lw_p113 : lw_okq (⟨"CliffJudgesModel", "worked", "(I)I"⟩, 89) := ⟨⟨by decide +kernel, by decide +kernel⟩, List.mem_of_getElem? (i := 1279) (by decide +kernel), List.mem_of_getElem? (i := 1843) (by decide +kernel), List.mem_of_getElem? (i := 1844) (by decide +kernel)⟩
theorem lw_p114 : lw_okq (⟨"CliffJudgesModel", "isLost", "(II)Z"⟩, 89) := ⟨⟨by decide +kernel, by decide +kernel⟩, List.mem_of_getElem? (i := 1279) (by decide +kernel), List.mem_of_getElem? (i := 1853) (by decide +kernel), List.mem_of_getElem? (i := 1854) (by decide +kernel)⟩
theorem lw_p115 : lw_okq (⟨"CliffJudgesModel", "isYes", "()Z"⟩, 89) := ⟨⟨by decide +kernel, by decide +kernel⟩, List.mem_of_getElem? (i := 1279) (by decide +kernel), List.mem_of_getElem? (i := 1857) (by decide +kernel), List.mem_of_getElem? (i := 1858) (by decide +kernel)⟩
theorem lw_p116 : lw_okq (⟨"CliffJudgesModel", "exchange", "(I)V"⟩, 89) := ⟨⟨by decide +kernel, by decide +kernel⟩, List.mem_of_getElem? (i := 1279) (by decide +kernel), List.mem_of_getElem? (i := 1873) (by decide +kernel), List.mem_of_getElem? (i := 1874) (by decide +kernel)⟩
theorem lw_p117 : lw_okq (⟨"CliffJudgesModel", "rowsOf", "(I)I"⟩, 89) := ⟨⟨by decide +kernel, by decide +kernel⟩, List.mem_of_getElem? (i := 1279) (by decide +kernel), List.mem_of_getElem? (i := 1897) (by decide +kernel), List.mem_of_getElem? (i := 1898) (by decide +kernel)⟩
theorem lw_p118 : lw_okq (⟨"CliffJudgesModel", "layCry", "(II)V"⟩, 89) := ⟨⟨by decide +kernel, by decide +kernel⟩, List.mem_of_getElem? (i := 1279) (by decide +kernel), List.mem_of_getElem? (i := 1901) (by decide +kernel), List.mem_of_getElem? (i := 1902) (by decide +kernel)⟩
theorem lw_p119 : lw_okq (⟨"CliffJudgesModel", "isPardon", "()Z"⟩, 89) := ⟨⟨by decide +kernel, by decide +kernel⟩, List.mem_of_getElem? (i := 1279) (by decide +kernel), List.mem_of_getElem? (i := 1905) (by decide +kernel), List.mem_of_getElem? (i := 1906) (by decide +kernel)⟩
theorem lw_p120 : lw_okq (⟨"CliffJudgesModel", "putCry", "(I)V"⟩, 89) := ⟨⟨by decide +kernel, by decide +kernel⟩, List.mem_of_getElem? (i := 1279) (by decide +kernel), List.mem_of_getElem? (i := 1909) (by decide +kernel), List.mem_of_getElem? (i := 1910) (by decide +kernel)⟩
theorem lw_p121 : lw_okq (⟨"CliffJudgesModel", "isOther", "()Z"⟩, 89) := ⟨⟨by decide +kernel, by decide +kernel⟩, List.mem_of_getElem? (i := 1279) (by decide +kernel), List.mem_of_getElem? (i := 1921) (by decide +kernel), List.mem_of_getElem? (i := 1922) (by decide +kernel)⟩
theorem lw_p122 : lw_okq (⟨"CliffJudgesModel", "rhymesAt", "(I)Z"⟩, 89) := ⟨⟨by decide +kernel, by decide +kernel⟩, List.mem_of_getElem? (i := 1279) (by decide +kernel), List.mem_of_getElem? (i := 1940) (by decide +kernel), List.mem_of_getElem? (i := 1941) (by decide +kernel)⟩
theorem lw_p123 : lw_okq (⟨"CliffJudgesModel", "layOthers", "(II)Z"⟩, 89) := ⟨⟨by decide +kernel, by decide +kernel⟩, List.mem_of_getElem? (i := 1279) (by decide +kernel), List.mem_of_getElem? (i := 1944) (by decide +kernel), List.mem_of_getElem? (i := 1945) (by decide +kernel)⟩
theorem lw_p124 : lw_okq (⟨"CliffJudgesModel", "nextSpots", "(I)Z"⟩, 89) := ⟨⟨by decide +kernel, by decide +kernel⟩, List.mem_of_getElem? (i := 1279) (by decide +kernel), List.mem_of_getElem? (i := 1948) (by decide +kernel), List.mem_of_getElem? (i := 1949) (by decide +kernel)⟩
theorem lw_p125 : lw_okq (⟨"CliffJudgesModel", "sendBoth", "(III)V"⟩, 89) := ⟨⟨by decide +kernel, by decide +kernel⟩, List.mem_of_getElem? (i := 1279) (by decide +kernel), List.mem_of_getElem? (i := 1956) (by decide +kernel), List.mem_of_getElem? (i := 1957) (by decide +kernel)⟩
theorem lw_p126 : lw_okq (⟨"CliffJudgesModel", "layStands", "(I)V"⟩, 89) := ⟨⟨by decide +kernel, by decide +kernel⟩, List.mem_of_getElem? (i := 1279) (by decide +kernel), List.mem_of_getElem? (i := 1997) (by decide +kernel), List.mem_of_getElem? (i := 1998) (by decide +kernel)⟩
theorem lw_p127 : lw_okq (⟨"CliffJudgesModel", "cameFrom", "(III)I"⟩, 89) := ⟨⟨by decide +kernel, by decide +kernel⟩, List.mem_of_getElem? (i := 1279) (by decide +kernel), List.mem_of_getElem? (i := 2001) (by decide +kernel), List.mem_of_getElem? (i := 2002) (by decide +kernel)⟩
def lw_privs_8 : List (MethodName × Nat) := [(⟨"CliffJudgesModel", "askOf", "(IIII)V"⟩, 89), (⟨"CliffJudgesModel", "worked", "(I)I"⟩, 89), (⟨"CliffJudgesModel", "isLost", "(II)Z"⟩, 89), (⟨"CliffJudgesModel", "isYes", "()Z"⟩, 89), (⟨"CliffJudgesModel", "exchange", "(I)V"⟩, 89), (⟨"CliffJudgesModel", "rowsOf", "(I)I"⟩, 89), (⟨"CliffJudgesModel", "layCry", "(II)V"⟩, 89), (⟨"CliffJudgesModel", "isPardon", "()Z"⟩, 89), (⟨"CliffJudgesModel", "putCry", "(I)V"⟩, 89), (⟨"CliffJudgesModel", "isOther", "()Z"⟩, 89), (⟨"CliffJudgesModel", "rhymesAt", "(I)Z"⟩, 89), (⟨"CliffJudgesModel", "layOthers", "(II)Z"⟩, 89), (⟨"CliffJudgesModel", "nextSpots", "(I)Z"⟩, 89), (⟨"CliffJudgesModel", "sendBoth", "(III)V"⟩, 89), (⟨"CliffJudgesModel", "layStands", "(I)V"⟩, 89), (⟨"CliffJudgesModel", "cameFrom", "(III)I"⟩, 89)]
theorem lw_r8 : ∀ q ∈ lw_privs_8, lw_okq q := List.forall_mem_cons.mpr ⟨lw_p112, List.forall_mem_cons.mpr ⟨lw_p113, List.forall_mem_cons.mpr ⟨lw_p114, List.forall_mem_cons.mpr ⟨lw_p115, List.forall_mem_cons.mpr ⟨lw_p116, List.forall_mem_cons.mpr ⟨lw_p117, List.forall_mem_cons.mpr ⟨lw_p118, List.forall_mem_cons.mpr ⟨lw_p119, List.forall_mem_cons.mpr ⟨lw_p120, List.forall_mem_cons.mpr ⟨lw_p121, List.forall_mem_cons.mpr ⟨lw_p122, List.forall_mem_cons.mpr ⟨lw_p123, List.forall_mem_cons.mpr ⟨lw_p124, List.forall_mem_cons.mpr ⟨lw_p125, List.forall_mem_cons.mpr ⟨lw_p126, List.forall_mem_cons.mpr ⟨lw_p127, fun _ h => absurd h List.not_mem_nil⟩⟩⟩⟩⟩⟩⟩⟩⟩⟩⟩⟩⟩⟩⟩⟩
theorem lw_p128 : lw_okq (⟨"CliffJudgesModel", "leftBy", "(II)I"⟩, 89) := ⟨⟨by decide +kernel, by decide +kernel⟩, List.mem_of_getElem? (i := 1279) (by decide +kernel), List.mem_of_getElem? (i := 2009) (by decide +kernel), List.mem_of_getElem? (i := 2010) (by decide +kernel)⟩
def lw_privs_9 : List (MethodName × Nat) := [(⟨"CliffJudgesModel", "leftBy", "(II)I"⟩, 89)]
theorem lw_r9 : ∀ q ∈ lw_privs_9, lw_okq q := List.forall_mem_cons.mpr ⟨lw_p128, fun _ h => absurd h List.not_mem_nil⟩
def lw_privs : List (MethodName × Nat) := lw_privs_1 ++ (lw_privs_2 ++ (lw_privs_3 ++ (lw_privs_4 ++ (lw_privs_5 ++ (lw_privs_6 ++ (lw_privs_7 ++ (lw_privs_8 ++ (lw_privs_9))))))))
def lw_tbl : List Cond := k2_sels lw_privs ++ tables_1
theorem lw_privs_ok : ∀ q ∈ lw_privs, lw_okq q := by
  show ∀ q ∈ lw_privs_1 ++ (lw_privs_2 ++ (lw_privs_3 ++ (lw_privs_4 ++ (lw_privs_5 ++ (lw_privs_6 ++ (lw_privs_7 ++ (lw_privs_8 ++ (lw_privs_9)))))))), lw_okq q
  exact List.forall_mem_append.mpr ⟨lw_r1, List.forall_mem_append.mpr ⟨lw_r2, List.forall_mem_append.mpr ⟨lw_r3, List.forall_mem_append.mpr ⟨lw_r4, List.forall_mem_append.mpr ⟨lw_r5, List.forall_mem_append.mpr ⟨lw_r6, List.forall_mem_append.mpr ⟨lw_r7, List.forall_mem_append.mpr ⟨lw_r8, lw_r9⟩⟩⟩⟩⟩⟩⟩⟩
end
section
def RX0 : String := "CliffJudges$Court"
def TX0 : u_T := fun k => match k with
  | 0 => ("CliffJudges$Court", "ears", "[LCliffJudges$Ear;", true)
  | 1 => ("CliffJudges$Court", "row", "[I", true)
  | _ => ("CliffJudges$Court", "bound", "I", false)
def tyX0 : Nat → FieldType := fun k => match k with
  | 0 => .array (.object "CliffJudges$Ear")
  | 1 => .array .int
  | _ => .int
abbrev wsX00 : List Cond := u_ws RX0 TX0 3
theorem nmX0 : ∀ a, a < 3 → ∀ b, b < 3 → a ≠ b → (TX0 a).2.1 ≠ (TX0 b).2.1 := by decide +kernel
theorem tyX0_ok : ∀ k, k < 3 → parseFieldDescriptor (TX0 k).2.2.1 = some (tyX0 k) := by decide +kernel
abbrev cX0_init : ByteArray := prog_2_method_1_code
def yX0_init : MethodName := ⟨RX0, "<init>", "()V"⟩
abbrev cX0_listen : ByteArray := prog_2_method_2_code
def yX0_listen : MethodName := ⟨RX0, "listen", "(LCliffJudges$Hills;LCliffJudges$Shout;II)I"⟩
abbrev cX0_verdict : ByteArray := prog_2_method_3_code
def yX0_verdict : MethodName := ⟨RX0, "verdict", "(LCliffJudges$Hills;LCliffJudges$Shout;LCliffJudges$Shout;)I"⟩
def RX1 : String := "CliffJudges$Cries"
def TX1 : u_T := fun k => match k with
  | 0 => ("CliffJudges$Cries", "cry", "[I", true)
  | 1 => ("CliffJudges$Cries", "ears", "[LCliffJudges$Ear;", true)
  | 2 => ("CliffJudges$Cries", "paths", "[I", true)
  | 3 => ("CliffJudges$Cries", "wanted", "[I", true)
  | 4 => ("CliffJudges$Cries", "ways", "[I", true)
  | 5 => ("CliffJudges$Cries", "hills", "LCliffJudges$Hills;", false)
  | 6 => ("CliffJudges$Cries", "length", "I", false)
  | _ => ("CliffJudges$Cries", "oneWillDo", "Z", false)
def tyX1 : Nat → FieldType := fun k => match k with
  | 0 => .array .int
  | 1 => .array (.object "CliffJudges$Ear")
  | 2 => .array .int
  | 3 => .array .int
  | 4 => .array .int
  | 5 => .object "CliffJudges$Hills"
  | 6 => .int
  | _ => .boolean
abbrev wsX10 : List Cond := u_ws RX1 TX1 8
theorem nmX1 : ∀ a, a < 8 → ∀ b, b < 8 → a ≠ b → (TX1 a).2.1 ≠ (TX1 b).2.1 := by decide +kernel
theorem tyX1_ok : ∀ k, k < 8 → parseFieldDescriptor (TX1 k).2.2.1 = some (tyX1 k) := by decide +kernel
abbrev cX1_init : ByteArray := prog_3_method_1_code
def yX1_init : MethodName := ⟨RX1, "<init>", "(LCliffJudges$Court;)V"⟩
abbrev cX1_pardonsOf : ByteArray := prog_3_method_2_code
def yX1_pardonsOf : MethodName := ⟨RX1, "pardonsOf", "(LCliffJudges$Hills;LCliffJudges$Shout;IZ)I"⟩
abbrev cX1_unmoved : ByteArray := prog_3_method_3_code
def yX1_unmoved : MethodName := ⟨RX1, "unmoved", "()I"⟩
abbrev cX1_countFrom : ByteArray := prog_3_method_4_code
def yX1_countFrom : MethodName := ⟨RX1, "countFrom", "(I)I"⟩
abbrev cX1_goOn : ByteArray := prog_3_method_5_code
def yX1_goOn : MethodName := ⟨RX1, "goOn", "(II)V"⟩
abbrev cX1_stateOf : ByteArray := prog_3_method_6_code
def yX1_stateOf : MethodName := ⟨RX1, "stateOf", "(II)I"⟩
abbrev cX1_straightPath : ByteArray := prog_3_method_7_code
def yX1_straightPath : MethodName := ⟨RX1, "straightPath", "(II)I"⟩
abbrev cX1_turnedPath : ByteArray := prog_3_method_8_code
def yX1_turnedPath : MethodName := ⟨RX1, "turnedPath", "(II)I"⟩
abbrev cX1_pardonsWithLast : ByteArray := prog_3_method_9_code
def yX1_pardonsWithLast : MethodName := ⟨RX1, "pardonsWithLast", "(II)Z"⟩
abbrev cX1_endState : ByteArray := prog_3_method_10_code
def yX1_endState : MethodName := ⟨RX1, "endState", "(LCliffJudges$Ear;II)I"⟩
abbrev cX1_aheadOf : ByteArray := prog_3_method_11_code
def yX1_aheadOf : MethodName := ⟨RX1, "aheadOf", "(LCliffJudges$Hills;LCliffJudges$Shout;IILCliffJudges$Shout;)I"⟩
abbrev cX1_wayIndex : ByteArray := prog_3_method_12_code
def yX1_wayIndex : MethodName := ⟨RX1, "wayIndex", "(II)I"⟩
abbrev cX1_countWays : ByteArray := prog_3_method_13_code
def yX1_countWays : MethodName := ⟨RX1, "countWays", "(LCliffJudges$Ear;I)V"⟩
abbrev cX1_followWays : ByteArray := prog_3_method_14_code
def yX1_followWays : MethodName := ⟨RX1, "followWays", "(LCliffJudges$Ear;I)V"⟩
def RX2 : String := "CliffJudges$Ear"
def TX2 : u_T := fun k => match k with
  | 0 => ("CliffJudges$Ear", "gone", "[I", true)
  | 1 => ("CliffJudges$Ear", "facts", "[I", true)
  | 2 => ("CliffJudges$Ear", "turned", "Z", false)
  | 3 => ("CliffJudges$Ear", "length", "I", false)
  | _ => ("CliffJudges$Ear", "first", "I", false)
def tyX2 : Nat → FieldType := fun k => match k with
  | 0 => .array .int
  | 1 => .array .int
  | 2 => .boolean
  | 3 => .int
  | _ => .int
abbrev wsX20 : List Cond := u_ws RX2 TX2 5
theorem nmX2 : ∀ a, a < 5 → ∀ b, b < 5 → a ≠ b → (TX2 a).2.1 ≠ (TX2 b).2.1 := by decide +kernel
theorem tyX2_ok : ∀ k, k < 5 → parseFieldDescriptor (TX2 k).2.2.1 = some (tyX2 k) := by decide +kernel
abbrev cX2_init : ByteArray := prog_4_method_1_code
def yX2_init : MethodName := ⟨RX2, "<init>", "()V"⟩
abbrev cX2_tune : ByteArray := prog_4_method_2_code
def yX2_tune : MethodName := ⟨RX2, "tune", "(LCliffJudges$Hills;LCliffJudges$Shout;I)V"⟩
abbrev cX2_tuneToAll : ByteArray := prog_4_method_3_code
def yX2_tuneToAll : MethodName := ⟨RX2, "tuneToAll", "(LCliffJudges$Hills;LCliffJudges$Shout;II)V"⟩
abbrev cX2_place : ByteArray := prog_4_method_4_code
def yX2_place : MethodName := ⟨RX2, "place", "(LCliffJudges$Hills;LCliffJudges$Shout;II)V"⟩
abbrev cX2_isLost : ByteArray := prog_4_method_5_code
def yX2_isLost : MethodName := ⟨RX2, "isLost", "(LCliffJudges$Hills;LCliffJudges$Shout;II)Z"⟩
abbrev cX2_comesBack : ByteArray := prog_4_method_6_code
def yX2_comesBack : MethodName := ⟨RX2, "comesBack", "(II)Z"⟩
abbrev cX2_placeOf : ByteArray := prog_4_method_7_code
def yX2_placeOf : MethodName := ⟨RX2, "placeOf", "(I)I"⟩
abbrev cX2_send : ByteArray := prog_4_method_8_code
def yX2_send : MethodName := ⟨RX2, "send", "([I[II)I"⟩
def RX3 : String := "CliffJudges$Formula"
def TX3 : u_T := fun k => match k with
  | 0 => ("CliffJudges$Formula", "code", "[I", true)
  | 1 => ("CliffJudges$Formula", "stack", "[I", true)
  | 2 => ("CliffJudges$Formula", "length", "I", false)
  | _ => ("CliffJudges$Formula", "told", "Z", false)
def tyX3 : Nat → FieldType := fun k => match k with
  | 0 => .array .int
  | 1 => .array .int
  | 2 => .int
  | _ => .boolean
abbrev wsX30 : List Cond := u_ws RX3 TX3 4
theorem nmX3 : ∀ a, a < 4 → ∀ b, b < 4 → a ≠ b → (TX3 a).2.1 ≠ (TX3 b).2.1 := by decide +kernel
theorem tyX3_ok : ∀ k, k < 4 → parseFieldDescriptor (TX3 k).2.2.1 = some (tyX3 k) := by decide +kernel
abbrev cX3_init : ByteArray := prog_5_method_1_code
def yX3_init : MethodName := ⟨RX3, "<init>", "()V"⟩
abbrev cX3_clear : ByteArray := prog_5_method_2_code
def yX3_clear : MethodName := ⟨RX3, "clear", "()V"⟩
abbrev cX3_addNumber : ByteArray := prog_5_method_3_code
def yX3_addNumber : MethodName := ⟨RX3, "addNumber", "(I)V"⟩
abbrev cX3_addFact : ByteArray := prog_5_method_4_code
def yX3_addFact : MethodName := ⟨RX3, "addFact", "(I)V"⟩
abbrev cX3_addDeed : ByteArray := prog_5_method_5_code
def yX3_addDeed : MethodName := ⟨RX3, "addDeed", "(I)V"⟩
abbrev cX3_add : ByteArray := prog_5_method_6_code
def yX3_add : MethodName := ⟨RX3, "add", "(I)V"⟩
abbrev cX3_value : ByteArray := prog_5_method_7_code
def yX3_value : MethodName := ⟨RX3, "value", "([I)I"⟩
abbrev cX3_combine : ByteArray := prog_5_method_8_code
def yX3_combine : MethodName := ⟨RX3, "combine", "(III)I"⟩
def RX4 : String := "CliffJudges$Hills"
def TX4 : u_T := fun k => match k with
  | 0 => ("CliffJudges$Hills", "counts", "[I", true)
  | 1 => ("CliffJudges$Hills", "loud", "[I", true)
  | 2 => ("CliffJudges$Hills", "cliffPlace", "[I", true)
  | 3 => ("CliffJudges$Hills", "cliffSnow", "[I", true)
  | 4 => ("CliffJudges$Hills", "manPlace", "[I", true)
  | 5 => ("CliffJudges$Hills", "manVoice", "[I", true)
  | 6 => ("CliffJudges$Hills", "next", "[I", true)
  | 7 => ("CliffJudges$Hills", "stepsLeft", "[I", true)
  | 8 => ("CliffJudges$Hills", "back", "LCliffJudges$Formula;", true)
  | 9 => ("CliffJudges$Hills", "lost", "LCliffJudges$Formula;", true)
  | 10 => ("CliffJudges$Hills", "turn", "LCliffJudges$Formula;", true)
  | 11 => ("CliffJudges$Hills", "yesStates", "I", false)
  | 12 => ("CliffJudges$Hills", "ons", "I", false)
  | 13 => ("CliffJudges$Hills", "wind", "I", false)
  | 14 => ("CliffJudges$Hills", "draw", "I", false)
  | _ => ("CliffJudges$Hills", "units", "I", false)
def tyX4 : Nat → FieldType := fun k => match k with
  | 0 => .array .int
  | 1 => .array .int
  | 2 => .array .int
  | 3 => .array .int
  | 4 => .array .int
  | 5 => .array .int
  | 6 => .array .int
  | 7 => .array .int
  | 8 => .object "CliffJudges$Formula"
  | 9 => .object "CliffJudges$Formula"
  | 10 => .object "CliffJudges$Formula"
  | 11 => .int
  | 12 => .int
  | 13 => .int
  | 14 => .int
  | _ => .int
abbrev wsX40 : List Cond := u_ws RX4 TX4 16
theorem nmX4 : ∀ a, a < 16 → ∀ b, b < 16 → a ≠ b → (TX4 a).2.1 ≠ (TX4 b).2.1 := by decide +kernel
theorem tyX4_ok : ∀ k, k < 16 → parseFieldDescriptor (TX4 k).2.2.1 = some (tyX4 k) := by decide +kernel
abbrev cX4_init : ByteArray := prog_6_method_1_code
def yX4_init : MethodName := ⟨RX4, "<init>", "()V"⟩
abbrev cX4_clear : ByteArray := prog_6_method_2_code
def yX4_clear : MethodName := ⟨RX4, "clear", "()V"⟩
abbrev cX4_settle : ByteArray := prog_6_method_3_code
def yX4_settle : MethodName := ⟨RX4, "settle", "()V"⟩
abbrev cX4_has : ByteArray := prog_6_method_4_code
def yX4_has : MethodName := ⟨RX4, "has", "(II)Z"⟩
abbrev cX4_far : ByteArray := prog_6_method_5_code
def yX4_far : MethodName := ⟨RX4, "far", "(II)I"⟩
abbrev cX4_comes : ByteArray := prog_6_method_6_code
def yX4_comes : MethodName := ⟨RX4, "comes", "([I)I"⟩
abbrev cX4_isYesState : ByteArray := prog_6_method_7_code
def yX4_isYesState : MethodName := ⟨RX4, "isYesState", "(I)Z"⟩
abbrev cX4_isYes : ByteArray := prog_6_method_8_code
def yX4_isYes : MethodName := ⟨RX4, "isYes", "([II)Z"⟩
abbrev cX4_pathTo : ByteArray := prog_6_method_9_code
def yX4_pathTo : MethodName := ⟨RX4, "pathTo", "(I[I)I"⟩
abbrev cX4_countStepsTo : ByteArray := prog_6_method_10_code
def yX4_countStepsTo : MethodName := ⟨RX4, "countStepsTo", "(I)V"⟩
abbrev cX4_leadsToOneAt : ByteArray := prog_6_method_11_code
def yX4_leadsToOneAt : MethodName := ⟨RX4, "leadsToOneAt", "(II)Z"⟩
abbrev cX4_firstWordNearer : ByteArray := prog_6_method_12_code
def yX4_firstWordNearer : MethodName := ⟨RX4, "firstWordNearer", "(I)I"⟩
def RX5 : String := "CliffJudges$Moments"
def TX5 : u_T := fun k => match k with
  | 0 => ("CliffJudges$Moments", "now", "[I", true)
  | 1 => ("CliffJudges$Moments", "rows", "[I", true)
  | 2 => ("CliffJudges$Moments", "boxes", "[I", true)
  | 3 => ("CliffJudges$Moments", "fullBoxes", "I", false)
  | 4 => ("CliffJudges$Moments", "current", "I", false)
  | 5 => ("CliffJudges$Moments", "undoable", "I", false)
  | _ => ("CliffJudges$Moments", "redoable", "I", false)
def tyX5 : Nat → FieldType := fun k => match k with
  | 0 => .array .int
  | 1 => .array .int
  | 2 => .array .int
  | 3 => .int
  | 4 => .int
  | 5 => .int
  | _ => .int
abbrev wsX50 : List Cond := u_ws RX5 TX5 7
theorem nmX5 : ∀ a, a < 7 → ∀ b, b < 7 → a ≠ b → (TX5 a).2.1 ≠ (TX5 b).2.1 := by decide +kernel
theorem tyX5_ok : ∀ k, k < 7 → parseFieldDescriptor (TX5 k).2.2.1 = some (tyX5 k) := by decide +kernel
abbrev cX5_init : ByteArray := prog_7_method_1_code
def yX5_init : MethodName := ⟨RX5, "<init>", "()V"⟩
abbrev cX5_begin : ByteArray := prog_7_method_2_code
def yX5_begin : MethodName := ⟨RX5, "begin", "(LCliffJudges$Hills;)V"⟩
abbrev cX5_forgetActs : ByteArray := prog_7_method_3_code
def yX5_forgetActs : MethodName := ⟨RX5, "forgetActs", "()V"⟩
abbrev cX5_keepAct : ByteArray := prog_7_method_4_code
def yX5_keepAct : MethodName := ⟨RX5, "keepAct", "()V"⟩
abbrev cX5_stepBack : ByteArray := prog_7_method_5_code
def yX5_stepBack : MethodName := ⟨RX5, "stepBack", "()Z"⟩
abbrev cX5_stepOn : ByteArray := prog_7_method_6_code
def yX5_stepOn : MethodName := ⟨RX5, "stepOn", "()Z"⟩
abbrev cX5_goTo : ByteArray := prog_7_method_7_code
def yX5_goTo : MethodName := ⟨RX5, "goTo", "(I)V"⟩
abbrev cX5_keepIn : ByteArray := prog_7_method_8_code
def yX5_keepIn : MethodName := ⟨RX5, "keepIn", "(I)V"⟩
abbrev cX5_goBackTo : ByteArray := prog_7_method_9_code
def yX5_goBackTo : MethodName := ⟨RX5, "goBackTo", "(I)Z"⟩
abbrev cX5_cryLength : ByteArray := prog_7_method_10_code
def yX5_cryLength : MethodName := ⟨RX5, "cryLength", "(I)I"⟩
abbrev cX5_wordAt : ByteArray := prog_7_method_11_code
def yX5_wordAt : MethodName := ⟨RX5, "wordAt", "(II)I"⟩
abbrev cX5_verdicts : ByteArray := prog_7_method_12_code
def yX5_verdicts : MethodName := ⟨RX5, "verdicts", "(II)I"⟩
abbrev cX5_addWord : ByteArray := prog_7_method_13_code
def yX5_addWord : MethodName := ⟨RX5, "addWord", "(II)V"⟩
abbrev cX5_dropWord : ByteArray := prog_7_method_14_code
def yX5_dropWord : MethodName := ⟨RX5, "dropWord", "(I)I"⟩
abbrev cX5_countVerdict : ByteArray := prog_7_method_15_code
def yX5_countVerdict : MethodName := ⟨RX5, "countVerdict", "(II)V"⟩
abbrev cX5_passNoon : ByteArray := prog_7_method_16_code
def yX5_passNoon : MethodName := ⟨RX5, "passNoon", "(I)V"⟩
abbrev cX5_clearLedge : ByteArray := prog_7_method_17_code
def yX5_clearLedge : MethodName := ⟨RX5, "clearLedge", "(I)I"⟩
def RX6 : String := "CliffJudges$Rhymes"
def TX6 : u_T := fun k => match k with
  | 0 => ("CliffJudges$Rhymes", "found", "[I", true)
  | 1 => ("CliffJudges$Rhymes", "ears", "[LCliffJudges$Ear;", true)
  | 2 => ("CliffJudges$Rhymes", "row", "[I", true)
  | 3 => ("CliffJudges$Rhymes", "places", "[I", true)
  | 4 => ("CliffJudges$Rhymes", "nearest", "[I", true)
  | 5 => ("CliffJudges$Rhymes", "quiet", "[I", true)
  | 6 => ("CliffJudges$Rhymes", "hills", "LCliffJudges$Hills;", false)
  | 7 => ("CliffJudges$Rhymes", "shout", "LCliffJudges$Shout;", false)
  | _ => ("CliffJudges$Rhymes", "changes", "I", false)
def tyX6 : Nat → FieldType := fun k => match k with
  | 0 => .array .int
  | 1 => .array (.object "CliffJudges$Ear")
  | 2 => .array .int
  | 3 => .array .int
  | 4 => .array .int
  | 5 => .array .int
  | 6 => .object "CliffJudges$Hills"
  | 7 => .object "CliffJudges$Shout"
  | _ => .int
abbrev wsX60 : List Cond := u_ws RX6 TX6 9
theorem nmX6 : ∀ a, a < 9 → ∀ b, b < 9 → a ≠ b → (TX6 a).2.1 ≠ (TX6 b).2.1 := by decide +kernel
theorem tyX6_ok : ∀ k, k < 9 → parseFieldDescriptor (TX6 k).2.2.1 = some (tyX6 k) := by decide +kernel
abbrev cX6_init : ByteArray := prog_8_method_1_code
def yX6_init : MethodName := ⟨RX6, "<init>", "(LCliffJudges$Court;)V"⟩
abbrev cX6_fewest : ByteArray := prog_8_method_2_code
def yX6_fewest : MethodName := ⟨RX6, "fewest", "(LCliffJudges$Hills;LCliffJudges$Shout;)I"⟩
abbrev cX6_orderCliffs : ByteArray := prog_8_method_3_code
def yX6_orderCliffs : MethodName := ⟨RX6, "orderCliffs", "()V"⟩
abbrev cX6_findQuiet : ByteArray := prog_8_method_4_code
def yX6_findQuiet : MethodName := ⟨RX6, "findQuiet", "()V"⟩
abbrev cX6_choosePlaces : ByteArray := prog_8_method_5_code
def yX6_choosePlaces : MethodName := ⟨RX6, "choosePlaces", "(III)Z"⟩
abbrev cX6_canBeYes : ByteArray := prog_8_method_6_code
def yX6_canBeYes : MethodName := ⟨RX6, "canBeYes", "(I)Z"⟩
abbrev cX6_canBeYesBy : ByteArray := prog_8_method_7_code
def yX6_canBeYesBy : MethodName := ⟨RX6, "canBeYesBy", "(II)Z"⟩
abbrev cX6_choices : ByteArray := prog_8_method_8_code
def yX6_choices : MethodName := ⟨RX6, "choices", "(II)I"⟩
abbrev cX6_led : ByteArray := prog_8_method_9_code
def yX6_led : MethodName := ⟨RX6, "led", "(II)I"⟩
abbrev cX6_chooseWords : ByteArray := prog_8_method_10_code
def yX6_chooseWords : MethodName := ⟨RX6, "chooseWords", "(I)Z"⟩
abbrev cX6_isYesNow : ByteArray := prog_8_method_11_code
def yX6_isYesNow : MethodName := ⟨RX6, "isYesNow", "()Z"⟩
def RX7 : String := "CliffJudges$Shout"
def TX7 : u_T := fun k => match k with
  | 0 => ("CliffJudges$Shout", "words", "[I", true)
  | 1 => ("CliffJudges$Shout", "snow", "[I", true)
  | 2 => ("CliffJudges$Shout", "length", "I", false)
  | 3 => ("CliffJudges$Shout", "place", "I", false)
  | 4 => ("CliffJudges$Shout", "voice", "I", false)
  | 5 => ("CliffJudges$Shout", "wind", "I", false)
  | _ => ("CliffJudges$Shout", "chance", "I", false)
def tyX7 : Nat → FieldType := fun k => match k with
  | 0 => .array .int
  | 1 => .array .int
  | 2 => .int
  | 3 => .int
  | 4 => .int
  | 5 => .int
  | _ => .int
abbrev wsX70 : List Cond := u_ws RX7 TX7 7
theorem nmX7 : ∀ a, a < 7 → ∀ b, b < 7 → a ≠ b → (TX7 a).2.1 ≠ (TX7 b).2.1 := by decide +kernel
theorem tyX7_ok : ∀ k, k < 7 → parseFieldDescriptor (TX7 k).2.2.1 = some (tyX7 k) := by decide +kernel
abbrev cX7_init : ByteArray := prog_9_method_1_code
def yX7_init : MethodName := ⟨RX7, "<init>", "()V"⟩
def RX8 : String := "CliffJudges$Sounds"
def TX8 : u_T := fun k => match k with
  | 0 => ("CliffJudges$Sounds", "cliffs", "[I", true)
  | 1 => ("CliffJudges$Sounds", "lengths", "[I", true)
  | 2 => ("CliffJudges$Sounds", "came", "[I", true)
  | 3 => ("CliffJudges$Sounds", "toldAt", "[I", true)
  | 4 => ("CliffJudges$Sounds", "untoldAt", "[I", true)
  | 5 => ("CliffJudges$Sounds", "left", "[I", true)
  | 6 => ("CliffJudges$Sounds", "leftBy", "[I", true)
  | 7 => ("CliffJudges$Sounds", "facts", "[I", true)
  | 8 => ("CliffJudges$Sounds", "count", "I", false)
  | 9 => ("CliffJudges$Sounds", "time", "I", false)
  | 10 => ("CliffJudges$Sounds", "leftCount", "I", false)
  | 11 => ("CliffJudges$Sounds", "question", "I", false)
  | _ => ("CliffJudges$Sounds", "mostLeft", "I", false)
def tyX8 : Nat → FieldType := fun k => match k with
  | 0 => .array .int
  | 1 => .array .int
  | 2 => .array .int
  | 3 => .array .int
  | 4 => .array .int
  | 5 => .array .int
  | 6 => .array .int
  | 7 => .array .int
  | 8 => .int
  | 9 => .int
  | 10 => .int
  | 11 => .int
  | _ => .int
abbrev wsX80 : List Cond := u_ws RX8 TX8 13
theorem nmX8 : ∀ a, a < 13 → ∀ b, b < 13 → a ≠ b → (TX8 a).2.1 ≠ (TX8 b).2.1 := by decide +kernel
theorem tyX8_ok : ∀ k, k < 13 → parseFieldDescriptor (TX8 k).2.2.1 = some (tyX8 k) := by decide +kernel
abbrev cX8_init : ByteArray := prog_10_method_1_code
def yX8_init : MethodName := ⟨RX8, "<init>", "()V"⟩
abbrev cX8_forget : ByteArray := prog_10_method_2_code
def yX8_forget : MethodName := ⟨RX8, "forget", "()V"⟩
abbrev cX8_add : ByteArray := prog_10_method_3_code
def yX8_add : MethodName := ⟨RX8, "add", "(III)I"⟩
abbrev cX8_takeBack : ByteArray := prog_10_method_4_code
def yX8_takeBack : MethodName := ⟨RX8, "takeBack", "(I)Z"⟩
abbrev cX8_counts : ByteArray := prog_10_method_5_code
def yX8_counts : MethodName := ⟨RX8, "counts", "(II)Z"⟩
abbrev cX8_sentTo : ByteArray := prog_10_method_6_code
def yX8_sentTo : MethodName := ⟨RX8, "sentTo", "(LCliffJudges$Hills;III)I"⟩
abbrev cX8_findLeft : ByteArray := prog_10_method_7_code
def yX8_findLeft : MethodName := ⟨RX8, "findLeft", "(LCliffJudges$Hills;I)V"⟩
abbrev cX8_canBeAt : ByteArray := prog_10_method_8_code
def yX8_canBeAt : MethodName := ⟨RX8, "canBeAt", "(LCliffJudges$Hills;II)Z"⟩
abbrev cX8_firstLeft : ByteArray := prog_10_method_9_code
def yX8_firstLeft : MethodName := ⟨RX8, "firstLeft", "()I"⟩
abbrev cX8_lastLeft : ByteArray := prog_10_method_10_code
def yX8_lastLeft : MethodName := ⟨RX8, "lastLeft", "()I"⟩
abbrev cX8_findQuestion : ByteArray := prog_10_method_11_code
def yX8_findQuestion : MethodName := ⟨RX8, "findQuestion", "(LCliffJudges$Hills;)V"⟩
abbrev cX8_mostLeftBehind : ByteArray := prog_10_method_12_code
def yX8_mostLeftBehind : MethodName := ⟨RX8, "mostLeftBehind", "(LCliffJudges$Hills;II)I"⟩
def RX9 : String := "CliffJudges$Tape"
def TX9 : u_T := fun k => match k with
  | 0 => ("CliffJudges$Tape", "bytes", "[B", true)
  | 1 => ("CliffJudges$Tape", "keys", "[J", true)
  | 2 => ("CliffJudges$Tape", "length", "I", false)
  | 3 => ("CliffJudges$Tape", "at", "I", false)
  | 4 => ("CliffJudges$Tape", "start", "I", false)
  | 5 => ("CliffJudges$Tape", "kind", "I", false)
  | 6 => ("CliffJudges$Tape", "name", "J", false)
  | _ => ("CliffJudges$Tape", "number", "I", false)
def tyX9 : Nat → FieldType := fun k => match k with
  | 0 => .array .byte
  | 1 => .array .long
  | 2 => .int
  | 3 => .int
  | 4 => .int
  | 5 => .int
  | 6 => .long
  | _ => .int
abbrev wsX90 : List Cond := u_ws RX9 TX9 8
theorem nmX9 : ∀ a, a < 8 → ∀ b, b < 8 → a ≠ b → (TX9 a).2.1 ≠ (TX9 b).2.1 := by decide +kernel
theorem tyX9_ok : ∀ k, k < 8 → parseFieldDescriptor (TX9 k).2.2.1 = some (tyX9 k) := by decide +kernel
abbrev cX9_init : ByteArray := prog_11_method_1_code
def yX9_init : MethodName := ⟨RX9, "<init>", "()V"⟩
abbrev cX9_append : ByteArray := prog_11_method_2_code
def yX9_append : MethodName := ⟨RX9, "append", "(I)V"⟩
abbrev cX9_rewind : ByteArray := prog_11_method_3_code
def yX9_rewind : MethodName := ⟨RX9, "rewind", "()V"⟩
abbrev cX9_next : ByteArray := prog_11_method_4_code
def yX9_next : MethodName := ⟨RX9, "next", "()V"⟩
abbrev cX9_readWord : ByteArray := prog_11_method_5_code
def yX9_readWord : MethodName := ⟨RX9, "readWord", "()V"⟩
abbrev cX9_readNumber : ByteArray := prog_11_method_6_code
def yX9_readNumber : MethodName := ⟨RX9, "readNumber", "()V"⟩
abbrev cX9_kindOf : ByteArray := prog_11_method_7_code
def yX9_kindOf : MethodName := ⟨RX9, "kindOf", "(J)I"⟩
abbrev cX9_isLetter : ByteArray := prog_11_method_8_code
def yX9_isLetter : MethodName := ⟨RX9, "isLetter", "(I)Z"⟩
abbrev cX9_isDigit : ByteArray := prog_11_method_9_code
def yX9_isDigit : MethodName := ⟨RX9, "isDigit", "(I)Z"⟩
def RX10 : String := "CliffJudges$Teller"
def TX10 : u_T := fun k => match k with
  | 0 => ("CliffJudges$Teller", "tape", "LCliffJudges$Tape;", true)
  | 1 => ("CliffJudges$Teller", "names", "[[J", true)
  | 2 => ("CliffJudges$Teller", "hills", "LCliffJudges$Hills;", false)
  | 3 => ("CliffJudges$Teller", "formula", "LCliffJudges$Formula;", false)
  | 4 => ("CliffJudges$Teller", "unitsHere", "I", false)
  | 5 => ("CliffJudges$Teller", "windTold", "Z", false)
  | 6 => ("CliffJudges$Teller", "drawTold", "Z", false)
  | 7 => ("CliffJudges$Teller", "value", "I", false)
  | 8 => ("CliffJudges$Teller", "fault", "I", false)
  | _ => ("CliffJudges$Teller", "place", "I", false)
def tyX10 : Nat → FieldType := fun k => match k with
  | 0 => .object "CliffJudges$Tape"
  | 1 => .array (.array .long)
  | 2 => .object "CliffJudges$Hills"
  | 3 => .object "CliffJudges$Formula"
  | 4 => .int
  | 5 => .boolean
  | 6 => .boolean
  | 7 => .int
  | 8 => .int
  | _ => .int
abbrev wsX100 : List Cond := u_ws RX10 TX10 10
theorem nmX10 : ∀ a, a < 10 → ∀ b, b < 10 → a ≠ b → (TX10 a).2.1 ≠ (TX10 b).2.1 := by decide +kernel
theorem tyX10_ok : ∀ k, k < 10 → parseFieldDescriptor (TX10 k).2.2.1 = some (tyX10 k) := by decide +kernel
abbrev cX10_init : ByteArray := prog_12_method_1_code
def yX10_init : MethodName := ⟨RX10, "<init>", "(LCliffJudges$Tape;)V"⟩
abbrev cX10_tell : ByteArray := prog_12_method_2_code
def yX10_tell : MethodName := ⟨RX10, "tell", "(LCliffJudges$Hills;)Z"⟩
abbrev cX10_fail : ByteArray := prog_12_method_3_code
def yX10_fail : MethodName := ⟨RX10, "fail", "(I)Z"⟩
abbrev cX10_tellLine : ByteArray := prog_12_method_4_code
def yX10_tellLine : MethodName := ⟨RX10, "tellLine", "()Z"⟩
abbrev cX10_tellWord : ByteArray := prog_12_method_5_code
def yX10_tellWord : MethodName := ⟨RX10, "tellWord", "()Z"⟩
abbrev cX10_tellPlaced : ByteArray := prog_12_method_6_code
def yX10_tellPlaced : MethodName := ⟨RX10, "tellPlaced", "(I[II[I)Z"⟩
abbrev cX10_tellState : ByteArray := prog_12_method_7_code
def yX10_tellState : MethodName := ⟨RX10, "tellState", "()Z"⟩
abbrev cX10_tellOn : ByteArray := prog_12_method_8_code
def yX10_tellOn : MethodName := ⟨RX10, "tellOn", "()Z"⟩
abbrev cX10_tellWind : ByteArray := prog_12_method_9_code
def yX10_tellWind : MethodName := ⟨RX10, "tellWind", "()Z"⟩
abbrev cX10_tellDraw : ByteArray := prog_12_method_10_code
def yX10_tellDraw : MethodName := ⟨RX10, "tellDraw", "()Z"⟩
abbrev cX10_tellFormula : ByteArray := prog_12_method_11_code
def yX10_tellFormula : MethodName := ⟨RX10, "tellFormula", "(LCliffJudges$Formula;)Z"⟩
abbrev cX10_take : ByteArray := prog_12_method_12_code
def yX10_take : MethodName := ⟨RX10, "take", "(I)Z"⟩
abbrev cX10_takeNew : ByteArray := prog_12_method_13_code
def yX10_takeNew : MethodName := ⟨RX10, "takeNew", "(II)Z"⟩
abbrev cX10_known : ByteArray := prog_12_method_14_code
def yX10_known : MethodName := ⟨RX10, "known", "(I)I"⟩
abbrev cX10_find : ByteArray := prog_12_method_15_code
def yX10_find : MethodName := ⟨RX10, "find", "(I)I"⟩
abbrev cX10_takeNumber : ByteArray := prog_12_method_16_code
def yX10_takeNumber : MethodName := ⟨RX10, "takeNumber", "(I)Z"⟩
abbrev cX10_takeOption : ByteArray := prog_12_method_17_code
def yX10_takeOption : MethodName := ⟨RX10, "takeOption", "(I[II)Z"⟩
abbrev cX10_takeEither : ByteArray := prog_12_method_18_code
def yX10_takeEither : MethodName := ⟨RX10, "takeEither", "(I)Z"⟩
abbrev cX10_takeBoth : ByteArray := prog_12_method_19_code
def yX10_takeBoth : MethodName := ⟨RX10, "takeBoth", "(I)Z"⟩
abbrev cX10_takeOne : ByteArray := prog_12_method_20_code
def yX10_takeOne : MethodName := ⟨RX10, "takeOne", "(I)Z"⟩
abbrev cX10_takeNot : ByteArray := prog_12_method_21_code
def yX10_takeNot : MethodName := ⟨RX10, "takeNot", "(I)Z"⟩
abbrev cX10_takeSum : ByteArray := prog_12_method_22_code
def yX10_takeSum : MethodName := ⟨RX10, "takeSum", "(I)Z"⟩
abbrev cX10_takeTerm : ByteArray := prog_12_method_23_code
def yX10_takeTerm : MethodName := ⟨RX10, "takeTerm", "(I)Z"⟩
abbrev cX10_isOfTerm : ByteArray := prog_12_method_24_code
def yX10_isOfTerm : MethodName := ⟨RX10, "isOfTerm", "(I)Z"⟩
abbrev cX10_takeUnit : ByteArray := prog_12_method_25_code
def yX10_takeUnit : MethodName := ⟨RX10, "takeUnit", "(I)Z"⟩
abbrev cX10_factOf : ByteArray := prog_12_method_26_code
def yX10_factOf : MethodName := ⟨RX10, "factOf", "(I)I"⟩
abbrev cX10_takeInner : ByteArray := prog_12_method_27_code
def yX10_takeInner : MethodName := ⟨RX10, "takeInner", "(I)Z"⟩
def RX11 : String := "CliffJudges"
def TX11 : u_T := fun k => match k with
  | 0 => ("CliffJudges", "tape", "LCliffJudges$Tape;", true)
  | 1 => ("CliffJudges", "teller", "LCliffJudges$Teller;", true)
  | 2 => ("CliffJudges", "told", "LCliffJudges$Hills;", false)
  | 3 => ("CliffJudges", "spare", "LCliffJudges$Hills;", false)
  | 4 => ("CliffJudges", "moments", "LCliffJudges$Moments;", true)
  | 5 => ("CliffJudges", "sounds", "LCliffJudges$Sounds;", true)
  | 6 => ("CliffJudges", "court", "LCliffJudges$Court;", true)
  | 7 => ("CliffJudges", "cries", "LCliffJudges$Cries;", true)
  | 8 => ("CliffJudges", "rhymes", "LCliffJudges$Rhymes;", true)
  | 9 => ("CliffJudges", "shout", "LCliffJudges$Shout;", true)
  | 10 => ("CliffJudges", "second", "LCliffJudges$Shout;", true)
  | 11 => ("CliffJudges", "silence", "LCliffJudges$Shout;", true)
  | 12 => ("CliffJudges", "lying", "[I", true)
  | _ => ("CliffJudges", "lyingCount", "I", false)
def tyX11 : Nat → FieldType := fun k => match k with
  | 0 => .object "CliffJudges$Tape"
  | 1 => .object "CliffJudges$Teller"
  | 2 => .object "CliffJudges$Hills"
  | 3 => .object "CliffJudges$Hills"
  | 4 => .object "CliffJudges$Moments"
  | 5 => .object "CliffJudges$Sounds"
  | 6 => .object "CliffJudges$Court"
  | 7 => .object "CliffJudges$Cries"
  | 8 => .object "CliffJudges$Rhymes"
  | 9 => .object "CliffJudges$Shout"
  | 10 => .object "CliffJudges$Shout"
  | 11 => .object "CliffJudges$Shout"
  | 12 => .array .int
  | _ => .int
abbrev wsX110 : List Cond := u_ws RX11 TX11 14
theorem nmX11 : ∀ a, a < 14 → ∀ b, b < 14 → a ≠ b → (TX11 a).2.1 ≠ (TX11 b).2.1 := by decide +kernel
theorem tyX11_ok : ∀ k, k < 14 → parseFieldDescriptor (TX11 k).2.2.1 = some (tyX11 k) := by decide +kernel
abbrev cX11_init : ByteArray := prog_1_method_1_code
def yX11_init : MethodName := ⟨RX11, "<init>", "()V"⟩
abbrev cX11_feed : ByteArray := prog_1_method_2_code
def yX11_feed : MethodName := ⟨RX11, "feed", "(IIIII)I"⟩
abbrev cX11_end : ByteArray := prog_1_method_3_code
def yX11_end : MethodName := ⟨RX11, "end", "(I)I"⟩
abbrev cX11_hills : ByteArray := prog_1_method_4_code
def yX11_hills : MethodName := ⟨RX11, "hills", "()I"⟩
abbrev cX11_fault : ByteArray := prog_1_method_5_code
def yX11_fault : MethodName := ⟨RX11, "fault", "(I)I"⟩
abbrev cX11_cliff : ByteArray := prog_1_method_6_code
def yX11_cliff : MethodName := ⟨RX11, "cliff", "(II)I"⟩
abbrev cX11_man : ByteArray := prog_1_method_7_code
def yX11_man : MethodName := ⟨RX11, "man", "(II)I"⟩
abbrev cX11_leads : ByteArray := prog_1_method_8_code
def yX11_leads : MethodName := ⟨RX11, "leads", "(II)I"⟩
abbrev cX11_say : ByteArray := prog_1_method_9_code
def yX11_say : MethodName := ⟨RX11, "say", "(II)I"⟩
abbrev cX11_unsay : ByteArray := prog_1_method_10_code
def yX11_unsay : MethodName := ⟨RX11, "unsay", "(I)I"⟩
abbrev cX11_said : ByteArray := prog_1_method_11_code
def yX11_said : MethodName := ⟨RX11, "said", "(II)I"⟩
abbrev cX11_call : ByteArray := prog_1_method_12_code
def yX11_call : MethodName := ⟨RX11, "call", "(I)I"⟩
abbrev cX11_noon : ByteArray := prog_1_method_13_code
def yX11_noon : MethodName := ⟨RX11, "noon", "()I"⟩
abbrev cX11_sweep : ByteArray := prog_1_method_14_code
def yX11_sweep : MethodName := ⟨RX11, "sweep", "(I)I"⟩
abbrev cX11_undo : ByteArray := prog_1_method_15_code
def yX11_undo : MethodName := ⟨RX11, "undo", "()Z"⟩
abbrev cX11_redo : ByteArray := prog_1_method_16_code
def yX11_redo : MethodName := ⟨RX11, "redo", "()Z"⟩
abbrev cX11_echo : ByteArray := prog_1_method_17_code
def yX11_echo : MethodName := ⟨RX11, "echo", "(II)I"⟩
abbrev cX11_answers : ByteArray := prog_1_method_18_code
def yX11_answers : MethodName := ⟨RX11, "answers", "(II)I"⟩
abbrev cX11_binds : ByteArray := prog_1_method_19_code
def yX11_binds : MethodName := ⟨RX11, "binds", "(I)I"⟩
abbrev cX11_pardon : ByteArray := prog_1_method_20_code
def yX11_pardon : MethodName := ⟨RX11, "pardon", "(I)I"⟩
abbrev cX11_pardons : ByteArray := prog_1_method_21_code
def yX11_pardons : MethodName := ⟨RX11, "pardons", "(II)I"⟩
abbrev cX11_ahead : ByteArray := prog_1_method_22_code
def yX11_ahead : MethodName := ⟨RX11, "ahead", "(III)I"⟩
abbrev cX11_yeas : ByteArray := prog_1_method_23_code
def yX11_yeas : MethodName := ⟨RX11, "yeas", "(II)I"⟩
abbrev cX11_clears : ByteArray := prog_1_method_24_code
def yX11_clears : MethodName := ⟨RX11, "clears", "(II)I"⟩
abbrev cX11_rhyme : ByteArray := prog_1_method_25_code
def yX11_rhyme : MethodName := ⟨RX11, "rhyme", "(I)I"⟩
abbrev cX11_joined : ByteArray := prog_1_method_26_code
def yX11_joined : MethodName := ⟨RX11, "joined", "(II)I"⟩
abbrev cX11_luck : ByteArray := prog_1_method_27_code
def yX11_luck : MethodName := ⟨RX11, "luck", "(I)I"⟩
abbrev cX11_winds : ByteArray := prog_1_method_28_code
def yX11_winds : MethodName := ⟨RX11, "winds", "(I)I"⟩
abbrev cX11_more : ByteArray := prog_1_method_29_code
def yX11_more : MethodName := ⟨RX11, "more", "(I)I"⟩
abbrev cX11_way : ByteArray := prog_1_method_30_code
def yX11_way : MethodName := ⟨RX11, "way", "(I)I"⟩
abbrev cX11_lies : ByteArray := prog_1_method_31_code
def yX11_lies : MethodName := ⟨RX11, "lies", "(I)I"⟩
abbrev cX11_sound : ByteArray := prog_1_method_32_code
def yX11_sound : MethodName := ⟨RX11, "sound", "(III)I"⟩
abbrev cX11_untell : ByteArray := prog_1_method_33_code
def yX11_untell : MethodName := ⟨RX11, "untell", "(I)Z"⟩
abbrev cX11_later : ByteArray := prog_1_method_34_code
def yX11_later : MethodName := ⟨RX11, "later", "(I)I"⟩
abbrev cX11_stood : ByteArray := prog_1_method_35_code
def yX11_stood : MethodName := ⟨RX11, "stood", "(II)I"⟩
abbrev cX11_ask : ByteArray := prog_1_method_36_code
def yX11_ask : MethodName := ⟨RX11, "ask", "(II)I"⟩
abbrev cX11_image : ByteArray := prog_1_method_37_code
def yX11_image : MethodName := ⟨RX11, "image", "(I)I"⟩
abbrev cX11_back : ByteArray := prog_1_method_38_code
def yX11_back : MethodName := ⟨RX11, "back", "(I)I"⟩
abbrev cX11_about : ByteArray := prog_1_method_39_code
def yX11_about : MethodName := ⟨RX11, "about", "(I)I"⟩
abbrev cX11_isCry : ByteArray := prog_1_method_40_code
def yX11_isCry : MethodName := ⟨RX11, "isCry", "(I)Z"⟩
abbrev cX11_isBox : ByteArray := prog_1_method_41_code
def yX11_isBox : MethodName := ⟨RX11, "isBox", "(I)Z"⟩
abbrev cX11_isSought : ByteArray := prog_1_method_42_code
def yX11_isSought : MethodName := ⟨RX11, "isSought", "(I)Z"⟩
abbrev cX11_oneOf : ByteArray := prog_1_method_43_code
def yX11_oneOf : MethodName := ⟨RX11, "oneOf", "(IIII)I"⟩
abbrev cX11_prepare : ByteArray := prog_1_method_44_code
def yX11_prepare : MethodName := ⟨RX11, "prepare", "(I)V"⟩
abbrev cX11_loadWeather : ByteArray := prog_1_method_45_code
def yX11_loadWeather : MethodName := ⟨RX11, "loadWeather", "(LCliffJudges$Shout;)V"⟩
abbrev cX11_loadCry : ByteArray := prog_1_method_46_code
def yX11_loadCry : MethodName := ⟨RX11, "loadCry", "(LCliffJudges$Shout;I)V"⟩
abbrev cX11_clearLedges : ByteArray := prog_1_method_47_code
def yX11_clearLedges : MethodName := ⟨RX11, "clearLedges", "(I)V"⟩
abbrev cX11_layDown : ByteArray := prog_1_method_48_code
def yX11_layDown : MethodName := ⟨RX11, "layDown", "([II)V"⟩
def RX12 : String := "CliffJudgesModel"
def TX12 : u_T := fun k => match k with
  | 0 => ("CliffJudgesModel", "tape", "[I", true)
  | 1 => ("CliffJudgesModel", "taped", "I", false)
  | 2 => ("CliffJudgesModel", "fault", "I", false)
  | 3 => ("CliffJudgesModel", "faultPlace", "I", false)
  | 4 => ("CliffJudgesModel", "at", "I", false)
  | 5 => ("CliffJudgesModel", "size", "I", false)
  | 6 => ("CliffJudgesModel", "sort", "I", false)
  | 7 => ("CliffJudgesModel", "place", "I", false)
  | 8 => ("CliffJudgesModel", "number", "I", false)
  | 9 => ("CliffJudgesModel", "word", "J", false)
  | 10 => ("CliffJudgesModel", "nName", "[J", true)
  | 11 => ("CliffJudgesModel", "nStep", "[I", true)
  | 12 => ("CliffJudgesModel", "nArg", "[I", true)
  | 13 => ("CliffJudgesModel", "nMany", "[I", true)
  | 14 => ("CliffJudgesModel", "step", "[I", true)
  | 15 => ("CliffJudgesModel", "arg", "[I", true)
  | 16 => ("CliffJudgesModel", "many", "[I", true)
  | 17 => ("CliffJudgesModel", "open", "[I", true)
  | 18 => ("CliffJudgesModel", "values", "[I", true)
  | 19 => ("CliffJudgesModel", "nHasForm", "[Z", true)
  | 20 => ("CliffJudgesModel", "hasForm", "[Z", true)
  | 21 => ("CliffJudgesModel", "form", "I", false)
  | 22 => ("CliffJudgesModel", "opens", "I", false)
  | 23 => ("CliffJudgesModel", "nUnits", "I", false)
  | 24 => ("CliffJudgesModel", "units", "I", false)
  | 25 => ("CliffJudgesModel", "ownUnits", "I", false)
  | 26 => ("CliffJudgesModel", "deep", "I", false)
  | 27 => ("CliffJudgesModel", "asks", "[I", true)
  | 28 => ("CliffJudgesModel", "nLoud", "[I", true)
  | 29 => ("CliffJudgesModel", "nCliffAt", "[I", true)
  | 30 => ("CliffJudgesModel", "nSnow", "[I", true)
  | 31 => ("CliffJudgesModel", "nManAt", "[I", true)
  | 32 => ("CliffJudgesModel", "nVoice", "[I", true)
  | 33 => ("CliffJudgesModel", "nOn", "[I", true)
  | 34 => ("CliffJudgesModel", "loud", "[I", true)
  | 35 => ("CliffJudgesModel", "cliffAt", "[I", true)
  | 36 => ("CliffJudgesModel", "snowTold", "[I", true)
  | 37 => ("CliffJudgesModel", "manAt", "[I", true)
  | 38 => ("CliffJudgesModel", "voice", "[I", true)
  | 39 => ("CliffJudgesModel", "on", "[I", true)
  | 40 => ("CliffJudgesModel", "nYes", "[Z", true)
  | 41 => ("CliffJudgesModel", "yes", "[Z", true)
  | 42 => ("CliffJudgesModel", "nWords", "I", false)
  | 43 => ("CliffJudgesModel", "nCliffs", "I", false)
  | 44 => ("CliffJudgesModel", "nMen", "I", false)
  | 45 => ("CliffJudgesModel", "nStates", "I", false)
  | 46 => ("CliffJudgesModel", "nOns", "I", false)
  | 47 => ("CliffJudgesModel", "nWind", "I", false)
  | 48 => ("CliffJudgesModel", "nDraw", "I", false)
  | 49 => ("CliffJudgesModel", "words", "I", false)
  | 50 => ("CliffJudgesModel", "cliffs", "I", false)
  | 51 => ("CliffJudgesModel", "men", "I", false)
  | 52 => ("CliffJudgesModel", "states", "I", false)
  | 53 => ("CliffJudgesModel", "ons", "I", false)
  | 54 => ("CliffJudgesModel", "windTold", "I", false)
  | 55 => ("CliffJudgesModel", "nHasWind", "Z", false)
  | 56 => ("CliffJudgesModel", "nHasDraw", "Z", false)
  | 57 => ("CliffJudgesModel", "now", "[I", true)
  | 58 => ("CliffJudgesModel", "cry", "[I", true)
  | 59 => ("CliffJudgesModel", "snow", "[I", true)
  | 60 => ("CliffJudgesModel", "echo", "[I", true)
  | 61 => ("CliffJudgesModel", "cryMany", "I", false)
  | 62 => ("CliffJudgesModel", "callPlace", "I", false)
  | 63 => ("CliffJudgesModel", "callVoice", "I", false)
  | 64 => ("CliffJudgesModel", "wind", "I", false)
  | 65 => ("CliffJudgesModel", "chance", "I", false)
  | 66 => ("CliffJudgesModel", "echoMany", "I", false)
  | 67 => ("CliffJudgesModel", "were", "[I", true)
  | 68 => ("CliffJudgesModel", "acts", "I", false)
  | 69 => ("CliffJudgesModel", "undone", "I", false)
  | 70 => ("CliffJudgesModel", "lies", "[I", true)
  | 71 => ("CliffJudgesModel", "lain", "I", false)
  | 72 => ("CliffJudgesModel", "spots", "[I", true)
  | 73 => ("CliffJudgesModel", "steps", "[I", true)
  | 74 => ("CliffJudgesModel", "fromState", "[I", true)
  | 75 => ("CliffJudgesModel", "byWord", "[I", true)
  | 76 => ("CliffJudgesModel", "queue", "[I", true)
  | 77 => ("CliffJudgesModel", "soundCliff", "[I", true)
  | 78 => ("CliffJudgesModel", "soundLong", "[I", true)
  | 79 => ("CliffJudgesModel", "soundCame", "[I", true)
  | 80 => ("CliffJudgesModel", "soundTold", "[I", true)
  | 81 => ("CliffJudgesModel", "soundUntold", "[I", true)
  | 82 => ("CliffJudgesModel", "sounds", "I", false)
  | 83 => ("CliffJudgesModel", "time", "I", false)
  | 84 => ("CliffJudgesModel", "stands", "[Z", true)
  | 85 => ("CliffJudgesModel", "standMany", "I", false)
  | 86 => ("CliffJudgesModel", "tally", "[I", true)
  | 87 => ("CliffJudgesModel", "hasBox", "[Z", true)
  | _ => ("CliffJudgesModel", "boxes", "[I", true)
def tyX12 : Nat → FieldType := fun k => match k with
  | 0 => .array .int
  | 1 => .int
  | 2 => .int
  | 3 => .int
  | 4 => .int
  | 5 => .int
  | 6 => .int
  | 7 => .int
  | 8 => .int
  | 9 => .long
  | 10 => .array .long
  | 11 => .array .int
  | 12 => .array .int
  | 13 => .array .int
  | 14 => .array .int
  | 15 => .array .int
  | 16 => .array .int
  | 17 => .array .int
  | 18 => .array .int
  | 19 => .array .boolean
  | 20 => .array .boolean
  | 21 => .int
  | 22 => .int
  | 23 => .int
  | 24 => .int
  | 25 => .int
  | 26 => .int
  | 27 => .array .int
  | 28 => .array .int
  | 29 => .array .int
  | 30 => .array .int
  | 31 => .array .int
  | 32 => .array .int
  | 33 => .array .int
  | 34 => .array .int
  | 35 => .array .int
  | 36 => .array .int
  | 37 => .array .int
  | 38 => .array .int
  | 39 => .array .int
  | 40 => .array .boolean
  | 41 => .array .boolean
  | 42 => .int
  | 43 => .int
  | 44 => .int
  | 45 => .int
  | 46 => .int
  | 47 => .int
  | 48 => .int
  | 49 => .int
  | 50 => .int
  | 51 => .int
  | 52 => .int
  | 53 => .int
  | 54 => .int
  | 55 => .boolean
  | 56 => .boolean
  | 57 => .array .int
  | 58 => .array .int
  | 59 => .array .int
  | 60 => .array .int
  | 61 => .int
  | 62 => .int
  | 63 => .int
  | 64 => .int
  | 65 => .int
  | 66 => .int
  | 67 => .array .int
  | 68 => .int
  | 69 => .int
  | 70 => .array .int
  | 71 => .int
  | 72 => .array .int
  | 73 => .array .int
  | 74 => .array .int
  | 75 => .array .int
  | 76 => .array .int
  | 77 => .array .int
  | 78 => .array .int
  | 79 => .array .int
  | 80 => .array .int
  | 81 => .array .int
  | 82 => .int
  | 83 => .int
  | 84 => .array .boolean
  | 85 => .int
  | 86 => .array .int
  | 87 => .array .boolean
  | _ => .array .int
abbrev wsX120 : List Cond := u_ws RX12 TX12 89
theorem nmX12 : ∀ a, a < 89 → ∀ b, b < 89 → a ≠ b → (TX12 a).2.1 ≠ (TX12 b).2.1 := by decide +kernel
theorem tyX12_ok : ∀ k, k < 89 → parseFieldDescriptor (TX12 k).2.2.1 = some (tyX12 k) := by decide +kernel
abbrev cX12_init : ByteArray := prog_14_method_1_code
def yX12_init : MethodName := ⟨RX12, "<init>", "()V"⟩
abbrev cX12_feed : ByteArray := prog_14_method_2_code
def yX12_feed : MethodName := ⟨RX12, "feed", "(IIIII)I"⟩
abbrev cX12_four : ByteArray := prog_14_method_3_code
def yX12_four : MethodName := ⟨RX12, "four", "(I)V"⟩
abbrev cX12_end : ByteArray := prog_14_method_4_code
def yX12_end : MethodName := ⟨RX12, "end", "(I)I"⟩
abbrev cX12_here : ByteArray := prog_14_method_5_code
def yX12_here : MethodName := ⟨RX12, "here", "(I)I"⟩
abbrev cX12_isLetter : ByteArray := prog_14_method_6_code
def yX12_isLetter : MethodName := ⟨RX12, "isLetter", "(I)Z"⟩
abbrev cX12_isDigit : ByteArray := prog_14_method_7_code
def yX12_isDigit : MethodName := ⟨RX12, "isDigit", "(I)Z"⟩
abbrev cX12_isSign : ByteArray := prog_14_method_8_code
def yX12_isSign : MethodName := ⟨RX12, "isSign", "(I)Z"⟩
abbrev cX12_token : ByteArray := prog_14_method_9_code
def yX12_token : MethodName := ⟨RX12, "token", "()V"⟩
abbrev cX12_wrong : ByteArray := prog_14_method_10_code
def yX12_wrong : MethodName := ⟨RX12, "wrong", "(I)V"⟩
abbrev cX12_isWord : ByteArray := prog_14_method_11_code
def yX12_isWord : MethodName := ⟨RX12, "isWord", "(J)Z"⟩
abbrev cX12_isOwn : ByteArray := prog_14_method_12_code
def yX12_isOwn : MethodName := ⟨RX12, "isOwn", "()Z"⟩
abbrev cX12_isName : ByteArray := prog_14_method_13_code
def yX12_isName : MethodName := ⟨RX12, "isName", "()Z"⟩
abbrev cX12_want : ByteArray := prog_14_method_14_code
def yX12_want : MethodName := ⟨RX12, "want", "(J)V"⟩
abbrev cX12_toldNumber : ByteArray := prog_14_method_15_code
def yX12_toldNumber : MethodName := ⟨RX12, "toldNumber", "(II)I"⟩
abbrev cX12_told : ByteArray := prog_14_method_16_code
def yX12_told : MethodName := ⟨RX12, "told", "(JII)I"⟩
abbrev cX12_option : ByteArray := prog_14_method_17_code
def yX12_option : MethodName := ⟨RX12, "option", "(J)I"⟩
abbrev cX12_find : ByteArray := prog_14_method_18_code
def yX12_find : MethodName := ⟨RX12, "find", "(II)I"⟩
abbrev cX12_newName : ByteArray := prog_14_method_19_code
def yX12_newName : MethodName := ⟨RX12, "newName", "(II)V"⟩
abbrev cX12_oldName : ByteArray := prog_14_method_20_code
def yX12_oldName : MethodName := ⟨RX12, "oldName", "(II)I"⟩
abbrev cX12_add : ByteArray := prog_14_method_21_code
def yX12_add : MethodName := ⟨RX12, "add", "(II)V"⟩
abbrev cX12_tight : ByteArray := prog_14_method_22_code
def yX12_tight : MethodName := ⟨RX12, "tight", "(I)I"⟩
abbrev cX12_close : ByteArray := prog_14_method_23_code
def yX12_close : MethodName := ⟨RX12, "close", "(I)V"⟩
abbrev cX12_hasRelation : ByteArray := prog_14_method_24_code
def yX12_hasRelation : MethodName := ⟨RX12, "hasRelation", "()Z"⟩
abbrev cX12_mayNot : ByteArray := prog_14_method_25_code
def yX12_mayNot : MethodName := ⟨RX12, "mayNot", "()Z"⟩
abbrev cX12_asked : ByteArray := prog_14_method_26_code
def yX12_asked : MethodName := ⟨RX12, "asked", "()I"⟩
abbrev cX12_isFull : ByteArray := prog_14_method_27_code
def yX12_isFull : MethodName := ⟨RX12, "isFull", "()Z"⟩
abbrev cX12_countUnit : ByteArray := prog_14_method_28_code
def yX12_countUnit : MethodName := ⟨RX12, "countUnit", "()V"⟩
abbrev cX12_openUp : ByteArray := prog_14_method_29_code
def yX12_openUp : MethodName := ⟨RX12, "openUp", "(I)V"⟩
abbrev cX12_unit : ByteArray := prog_14_method_30_code
def yX12_unit : MethodName := ⟨RX12, "unit", "()V"⟩
abbrev cX12_sign : ByteArray := prog_14_method_31_code
def yX12_sign : MethodName := ⟨RX12, "sign", "()I"⟩
abbrev cX12_hasBracket : ByteArray := prog_14_method_32_code
def yX12_hasBracket : MethodName := ⟨RX12, "hasBracket", "()Z"⟩
abbrev cX12_formula : ByteArray := prog_14_method_33_code
def yX12_formula : MethodName := ⟨RX12, "formula", "(I)V"⟩
abbrev cX12_truth : ByteArray := prog_14_method_34_code
def yX12_truth : MethodName := ⟨RX12, "truth", "(Z)I"⟩
abbrev cX12_done : ByteArray := prog_14_method_35_code
def yX12_done : MethodName := ⟨RX12, "done", "(III)I"⟩
abbrev cX12_worked : ByteArray := prog_14_method_36_code
def yX12_worked : MethodName := ⟨RX12, "worked", "(I)I"⟩
abbrev cX12_readWord : ByteArray := prog_14_method_37_code
def yX12_readWord : MethodName := ⟨RX12, "readWord", "()V"⟩
abbrev cX12_readCliff : ByteArray := prog_14_method_38_code
def yX12_readCliff : MethodName := ⟨RX12, "readCliff", "()V"⟩
abbrev cX12_readMan : ByteArray := prog_14_method_39_code
def yX12_readMan : MethodName := ⟨RX12, "readMan", "()V"⟩
abbrev cX12_readState : ByteArray := prog_14_method_40_code
def yX12_readState : MethodName := ⟨RX12, "readState", "()V"⟩
abbrev cX12_readOn : ByteArray := prog_14_method_41_code
def yX12_readOn : MethodName := ⟨RX12, "readOn", "()V"⟩
abbrev cX12_readLine : ByteArray := prog_14_method_42_code
def yX12_readLine : MethodName := ⟨RX12, "readLine", "()V"⟩
abbrev cX12_readAll : ByteArray := prog_14_method_43_code
def yX12_readAll : MethodName := ⟨RX12, "readAll", "()V"⟩
abbrev cX12_hills : ByteArray := prog_14_method_44_code
def yX12_hills : MethodName := ⟨RX12, "hills", "()I"⟩
abbrev cX12_fault : ByteArray := prog_14_method_45_code
def yX12_fault : MethodName := ⟨RX12, "fault", "(I)I"⟩
abbrev cX12_isIn : ByteArray := prog_14_method_46_code
def yX12_isIn : MethodName := ⟨RX12, "isIn", "(III)Z"⟩
abbrev cX12_isCliff : ByteArray := prog_14_method_47_code
def yX12_isCliff : MethodName := ⟨RX12, "isCliff", "(I)Z"⟩
abbrev cX12_isMan : ByteArray := prog_14_method_48_code
def yX12_isMan : MethodName := ⟨RX12, "isMan", "(I)Z"⟩
abbrev cX12_isSaid : ByteArray := prog_14_method_49_code
def yX12_isSaid : MethodName := ⟨RX12, "isSaid", "(I)Z"⟩
abbrev cX12_isState : ByteArray := prog_14_method_50_code
def yX12_isState : MethodName := ⟨RX12, "isState", "(I)Z"⟩
abbrev cX12_isCry : ByteArray := prog_14_method_51_code
def yX12_isCry : MethodName := ⟨RX12, "isCry", "(I)Z"⟩
abbrev cX12_loadSky : ByteArray := prog_14_method_52_code
def yX12_loadSky : MethodName := ⟨RX12, "loadSky", "()V"⟩
abbrev cX12_loadCry : ByteArray := prog_14_method_53_code
def yX12_loadCry : MethodName := ⟨RX12, "loadCry", "(I)V"⟩
abbrev cX12_loadMan : ByteArray := prog_14_method_54_code
def yX12_loadMan : MethodName := ⟨RX12, "loadMan", "(I)V"⟩
abbrev cX12_load : ByteArray := prog_14_method_55_code
def yX12_load : MethodName := ⟨RX12, "load", "(I)V"⟩
abbrev cX12_off : ByteArray := prog_14_method_56_code
def yX12_off : MethodName := ⟨RX12, "off", "(II)I"⟩
abbrev cX12_farOf : ByteArray := prog_14_method_57_code
def yX12_farOf : MethodName := ⟨RX12, "farOf", "(I)I"⟩
abbrev cX12_askOf : ByteArray := prog_14_method_58_code
def yX12_askOf : MethodName := ⟨RX12, "askOf", "(IIII)V"⟩
abbrev cX12_backOf : ByteArray := prog_14_method_59_code
def yX12_backOf : MethodName := ⟨RX12, "backOf", "(IIII)I"⟩
abbrev cX12_isLost : ByteArray := prog_14_method_60_code
def yX12_isLost : MethodName := ⟨RX12, "isLost", "(II)Z"⟩
abbrev cX12_addEcho : ByteArray := prog_14_method_61_code
def yX12_addEcho : MethodName := ⟨RX12, "addEcho", "(I)V"⟩
abbrev cX12_sendFrom : ByteArray := prog_14_method_62_code
def yX12_sendFrom : MethodName := ⟨RX12, "sendFrom", "(I)V"⟩
abbrev cX12_leadsTo : ByteArray := prog_14_method_63_code
def yX12_leadsTo : MethodName := ⟨RX12, "leadsTo", "(II)I"⟩
abbrev cX12_isYes : ByteArray := prog_14_method_64_code
def yX12_isYes : MethodName := ⟨RX12, "isYes", "()Z"⟩
abbrev cX12_bindsAtHand : ByteArray := prog_14_method_65_code
def yX12_bindsAtHand : MethodName := ⟨RX12, "bindsAtHand", "()I"⟩
abbrev cX12_verdict : ByteArray := prog_14_method_66_code
def yX12_verdict : MethodName := ⟨RX12, "verdict", "()I"⟩
abbrev cX12_cliff : ByteArray := prog_14_method_67_code
def yX12_cliff : MethodName := ⟨RX12, "cliff", "(II)I"⟩
abbrev cX12_man : ByteArray := prog_14_method_68_code
def yX12_man : MethodName := ⟨RX12, "man", "(II)I"⟩
abbrev cX12_leads : ByteArray := prog_14_method_69_code
def yX12_leads : MethodName := ⟨RX12, "leads", "(II)I"⟩
abbrev cX12_act : ByteArray := prog_14_method_70_code
def yX12_act : MethodName := ⟨RX12, "act", "()V"⟩
abbrev cX12_exchange : ByteArray := prog_14_method_71_code
def yX12_exchange : MethodName := ⟨RX12, "exchange", "(I)V"⟩
abbrev cX12_say : ByteArray := prog_14_method_72_code
def yX12_say : MethodName := ⟨RX12, "say", "(II)I"⟩
abbrev cX12_unsay : ByteArray := prog_14_method_73_code
def yX12_unsay : MethodName := ⟨RX12, "unsay", "(I)I"⟩
abbrev cX12_said : ByteArray := prog_14_method_74_code
def yX12_said : MethodName := ⟨RX12, "said", "(II)I"⟩
abbrev cX12_call : ByteArray := prog_14_method_75_code
def yX12_call : MethodName := ⟨RX12, "call", "(I)I"⟩
abbrev cX12_noon : ByteArray := prog_14_method_76_code
def yX12_noon : MethodName := ⟨RX12, "noon", "()I"⟩
abbrev cX12_sweep : ByteArray := prog_14_method_77_code
def yX12_sweep : MethodName := ⟨RX12, "sweep", "(I)I"⟩
abbrev cX12_undo : ByteArray := prog_14_method_78_code
def yX12_undo : MethodName := ⟨RX12, "undo", "()Z"⟩
abbrev cX12_redo : ByteArray := prog_14_method_79_code
def yX12_redo : MethodName := ⟨RX12, "redo", "()Z"⟩
abbrev cX12_echo : ByteArray := prog_14_method_80_code
def yX12_echo : MethodName := ⟨RX12, "echo", "(II)I"⟩
abbrev cX12_answers : ByteArray := prog_14_method_81_code
def yX12_answers : MethodName := ⟨RX12, "answers", "(II)I"⟩
abbrev cX12_binds : ByteArray := prog_14_method_82_code
def yX12_binds : MethodName := ⟨RX12, "binds", "(I)I"⟩
abbrev cX12_rowsOf : ByteArray := prog_14_method_83_code
def yX12_rowsOf : MethodName := ⟨RX12, "rowsOf", "(I)I"⟩
abbrev cX12_layCry : ByteArray := prog_14_method_84_code
def yX12_layCry : MethodName := ⟨RX12, "layCry", "(II)V"⟩
abbrev cX12_isPardon : ByteArray := prog_14_method_85_code
def yX12_isPardon : MethodName := ⟨RX12, "isPardon", "()Z"⟩
abbrev cX12_putCry : ByteArray := prog_14_method_86_code
def yX12_putCry : MethodName := ⟨RX12, "putCry", "(I)V"⟩
abbrev cX12_pardon : ByteArray := prog_14_method_87_code
def yX12_pardon : MethodName := ⟨RX12, "pardon", "(I)I"⟩
abbrev cX12_pardons : ByteArray := prog_14_method_88_code
def yX12_pardons : MethodName := ⟨RX12, "pardons", "(II)I"⟩
abbrev cX12_isOther : ByteArray := prog_14_method_89_code
def yX12_isOther : MethodName := ⟨RX12, "isOther", "()Z"⟩
abbrev cX12_ahead : ByteArray := prog_14_method_90_code
def yX12_ahead : MethodName := ⟨RX12, "ahead", "(III)I"⟩
abbrev cX12_yeas : ByteArray := prog_14_method_91_code
def yX12_yeas : MethodName := ⟨RX12, "yeas", "(II)I"⟩
abbrev cX12_members : ByteArray := prog_14_method_92_code
def yX12_members : MethodName := ⟨RX12, "members", "(I)I"⟩
abbrev cX12_clears : ByteArray := prog_14_method_93_code
def yX12_clears : MethodName := ⟨RX12, "clears", "(II)I"⟩
abbrev cX12_layOthers : ByteArray := prog_14_method_94_code
def yX12_layOthers : MethodName := ⟨RX12, "layOthers", "(II)Z"⟩
abbrev cX12_nextSpots : ByteArray := prog_14_method_95_code
def yX12_nextSpots : MethodName := ⟨RX12, "nextSpots", "(I)Z"⟩
abbrev cX12_rhymesAt : ByteArray := prog_14_method_96_code
def yX12_rhymesAt : MethodName := ⟨RX12, "rhymesAt", "(I)Z"⟩
abbrev cX12_rhyme : ByteArray := prog_14_method_97_code
def yX12_rhyme : MethodName := ⟨RX12, "rhyme", "(I)I"⟩
abbrev cX12_sendBoth : ByteArray := prog_14_method_98_code
def yX12_sendBoth : MethodName := ⟨RX12, "sendBoth", "(III)V"⟩
abbrev cX12_joined : ByteArray := prog_14_method_99_code
def yX12_joined : MethodName := ⟨RX12, "joined", "(II)I"⟩
abbrev cX12_luck : ByteArray := prog_14_method_100_code
def yX12_luck : MethodName := ⟨RX12, "luck", "(I)I"⟩
abbrev cX12_winds : ByteArray := prog_14_method_101_code
def yX12_winds : MethodName := ⟨RX12, "winds", "(I)I"⟩
abbrev cX12_more : ByteArray := prog_14_method_102_code
def yX12_more : MethodName := ⟨RX12, "more", "(I)I"⟩
abbrev cX12_way : ByteArray := prog_14_method_103_code
def yX12_way : MethodName := ⟨RX12, "way", "(I)I"⟩
abbrev cX12_lies : ByteArray := prog_14_method_104_code
def yX12_lies : MethodName := ⟨RX12, "lies", "(I)I"⟩
abbrev cX12_sound : ByteArray := prog_14_method_105_code
def yX12_sound : MethodName := ⟨RX12, "sound", "(III)I"⟩
abbrev cX12_untell : ByteArray := prog_14_method_106_code
def yX12_untell : MethodName := ⟨RX12, "untell", "(I)Z"⟩
abbrev cX12_later : ByteArray := prog_14_method_107_code
def yX12_later : MethodName := ⟨RX12, "later", "(I)I"⟩
abbrev cX12_cameFrom : ByteArray := prog_14_method_108_code
def yX12_cameFrom : MethodName := ⟨RX12, "cameFrom", "(III)I"⟩
abbrev cX12_layStands : ByteArray := prog_14_method_109_code
def yX12_layStands : MethodName := ⟨RX12, "layStands", "(I)V"⟩
abbrev cX12_stood : ByteArray := prog_14_method_110_code
def yX12_stood : MethodName := ⟨RX12, "stood", "(II)I"⟩
abbrev cX12_leftBy : ByteArray := prog_14_method_111_code
def yX12_leftBy : MethodName := ⟨RX12, "leftBy", "(II)I"⟩
abbrev cX12_ask : ByteArray := prog_14_method_112_code
def yX12_ask : MethodName := ⟨RX12, "ask", "(II)I"⟩
abbrev cX12_isBox : ByteArray := prog_14_method_113_code
def yX12_isBox : MethodName := ⟨RX12, "isBox", "(I)Z"⟩
abbrev cX12_image : ByteArray := prog_14_method_114_code
def yX12_image : MethodName := ⟨RX12, "image", "(I)I"⟩
abbrev cX12_back : ByteArray := prog_14_method_115_code
def yX12_back : MethodName := ⟨RX12, "back", "(I)I"⟩
abbrev cX12_about : ByteArray := prog_14_method_116_code
def yX12_about : MethodName := ⟨RX12, "about", "(I)I"⟩
def RJ11 : String := "java/lang/Character"
def TJ11 : u_T := fun k => match k with
  | _ => ("", "", "", false)
def tyJ11 : Nat → FieldType := fun k => match k with
  | _ => .int
abbrev wsJ110 : List Cond := u_ws RJ11 TJ11 0
theorem nmJ11 : ∀ a, a < 0 → ∀ b, b < 0 → a ≠ b → (TJ11 a).2.1 ≠ (TJ11 b).2.1 := by decide +kernel
theorem tyJ11_ok : ∀ k, k < 0 → parseFieldDescriptor (TJ11 k).2.2.1 = some (tyJ11 k) := by decide +kernel
abbrev cJ11_isValidCodePoint_9a6ad : ByteArray := prog_15_method_11_code
def yJ11_isValidCodePoint_9a6ad : MethodName := ⟨RJ11, "isValidCodePoint", "(I)Z"⟩
abbrev cJ11_highSurrogate_5068e : ByteArray := prog_15_method_28_code
def yJ11_highSurrogate_5068e : MethodName := ⟨RJ11, "highSurrogate", "(I)C"⟩
abbrev cJ11_lowSurrogate_5068e : ByteArray := prog_15_method_29_code
def yJ11_lowSurrogate_5068e : MethodName := ⟨RJ11, "lowSurrogate", "(I)C"⟩
def RJ6 : String := "java/lang/Integer"
def TJ6 : u_T := fun k => match k with
  | _ => ("", "", "", false)
def tyJ6 : Nat → FieldType := fun k => match k with
  | _ => .int
abbrev wsJ60 : List Cond := u_ws RJ6 TJ6 0
theorem nmJ6 : ∀ a, a < 0 → ∀ b, b < 0 → a ≠ b → (TJ6 a).2.1 ≠ (TJ6 b).2.1 := by decide +kernel
theorem tyJ6_ok : ∀ k, k < 0 → parseFieldDescriptor (TJ6 k).2.2.1 = some (tyJ6 k) := by decide +kernel
abbrev cJ6_bitCount_0f7a4 : ByteArray := prog_16_method_49_code
def yJ6_bitCount_0f7a4 : MethodName := ⟨RJ6, "bitCount", "(I)I"⟩
def RJ9 : String := "java/lang/Math"
def TJ9 : u_T := fun k => match k with
  | _ => ("", "", "", false)
def tyJ9 : Nat → FieldType := fun k => match k with
  | _ => .int
abbrev wsJ90 : List Cond := u_ws RJ9 TJ9 0
theorem nmJ9 : ∀ a, a < 0 → ∀ b, b < 0 → a ≠ b → (TJ9 a).2.1 ≠ (TJ9 b).2.1 := by decide +kernel
theorem tyJ9_ok : ∀ k, k < 0 → parseFieldDescriptor (TJ9 k).2.2.1 = some (tyJ9 k) := by decide +kernel
abbrev cJ9_abs_0f7a4 : ByteArray := prog_17_method_59_code
def yJ9_abs_0f7a4 : MethodName := ⟨RJ9, "abs", "(I)I"⟩
abbrev cJ9_max_7cf53 : ByteArray := prog_17_method_65_code
def yJ9_max_7cf53 : MethodName := ⟨RJ9, "max", "(II)I"⟩
abbrev cJ9_min_7cf53 : ByteArray := prog_17_method_69_code
def yJ9_min_7cf53 : MethodName := ⟨RJ9, "min", "(II)I"⟩
def RJ0 : String := "java/lang/String"
def TJ0 : u_T := fun k => match k with
  | _ => ("", "", "", false)
def tyJ0 : Nat → FieldType := fun k => match k with
  | _ => .int
abbrev wsJ00 : List Cond := u_ws RJ0 TJ0 0
theorem nmJ0 : ∀ a, a < 0 → ∀ b, b < 0 → a ≠ b → (TJ0 a).2.1 ≠ (TJ0 b).2.1 := by decide +kernel
theorem tyJ0_ok : ∀ k, k < 0 → parseFieldDescriptor (TJ0 k).2.2.1 = some (tyJ0 k) := by decide +kernel
abbrev cJ0_length_8abf5 : ByteArray := prog_18_method_54_code
def yJ0_length_8abf5 : MethodName := ⟨RJ0, "length", "()I"⟩
abbrev cJ0_charAt_5068e : ByteArray := prog_18_method_56_code
def yJ0_charAt_5068e : MethodName := ⟨RJ0, "charAt", "(I)C"⟩
abbrev cJ0_indexOf_0f7a4 : ByteArray := prog_18_method_79_code
def yJ0_indexOf_0f7a4 : MethodName := ⟨RJ0, "indexOf", "(I)I"⟩
abbrev cJ0_indexOf_7cf53 : ByteArray := prog_18_method_80_code
def yJ0_indexOf_7cf53 : MethodName := ⟨RJ0, "indexOf", "(II)I"⟩
abbrev cJ0_coder_7d493 : ByteArray := prog_18_method_152_code
def yJ0_coder_7d493 : MethodName := ⟨RJ0, "coder", "()B"⟩
abbrev cJ0_isLatin1_aae02 : ByteArray := prog_18_method_154_code
def yJ0_isLatin1_aae02 : MethodName := ⟨RJ0, "isLatin1", "()Z"⟩
abbrev cJ0_checkIndex_df160 : ByteArray := prog_18_method_155_code
def yJ0_checkIndex_df160 : MethodName := ⟨RJ0, "checkIndex", "(II)V"⟩
abbrev cJ0_checkBoundsBeginEnd_23922 : ByteArray := prog_18_method_158_code
def yJ0_checkBoundsBeginEnd_23922 : MethodName := ⟨RJ0, "checkBoundsBeginEnd", "(III)V"⟩
def RJ1 : String := "java/lang/StringLatin1"
def TJ1 : u_T := fun k => match k with
  | _ => ("", "", "", false)
def tyJ1 : Nat → FieldType := fun k => match k with
  | _ => .int
abbrev wsJ10 : List Cond := u_ws RJ1 TJ1 0
theorem nmJ1 : ∀ a, a < 0 → ∀ b, b < 0 → a ≠ b → (TJ1 a).2.1 ≠ (TJ1 b).2.1 := by decide +kernel
theorem tyJ1_ok : ∀ k, k < 0 → parseFieldDescriptor (TJ1 k).2.2.1 = some (tyJ1 k) := by decide +kernel
abbrev cJ1_charAt_3b067 : ByteArray := prog_19_method_2_code
def yJ1_charAt_3b067 : MethodName := ⟨RJ1, "charAt", "([BI)C"⟩
abbrev cJ1_canEncode_9a6ad : ByteArray := prog_19_method_4_code
def yJ1_canEncode_9a6ad : MethodName := ⟨RJ1, "canEncode", "(I)Z"⟩
abbrev cJ1_indexOf_4cfef : ByteArray := prog_19_method_22_code
def yJ1_indexOf_4cfef : MethodName := ⟨RJ1, "indexOf", "([BIII)I"⟩
abbrev cJ1_indexOfChar_4cfef : ByteArray := prog_19_method_23_code
def yJ1_indexOfChar_4cfef : MethodName := ⟨RJ1, "indexOfChar", "([BIII)I"⟩
def RJ2 : String := "java/lang/StringUTF16"
def TJ2 : u_T := fun k => match k with
  | _ => ("", "", "", false)
def tyJ2 : Nat → FieldType := fun k => match k with
  | _ => .int
abbrev wsJ20 : List Cond := u_ws RJ2 TJ2 0
theorem nmJ2 : ∀ a, a < 0 → ∀ b, b < 0 → a ≠ b → (TJ2 a).2.1 ≠ (TJ2 b).2.1 := by decide +kernel
theorem tyJ2_ok : ∀ k, k < 0 → parseFieldDescriptor (TJ2 k).2.2.1 = some (tyJ2 k) := by decide +kernel
abbrev cJ2_getChar_3b067 : ByteArray := prog_20_method_5_code
def yJ2_getChar_3b067 : MethodName := ⟨RJ2, "getChar", "([BI)C"⟩
abbrev cJ2_length_9d52b : ByteArray := prog_20_method_6_code
def yJ2_length_9d52b : MethodName := ⟨RJ2, "length", "([B)I"⟩
abbrev cJ2_indexOf_4cfef : ByteArray := prog_20_method_40_code
def yJ2_indexOf_4cfef : MethodName := ⟨RJ2, "indexOf", "([BIII)I"⟩
abbrev cJ2_indexOfChar_4cfef : ByteArray := prog_20_method_47_code
def yJ2_indexOfChar_4cfef : MethodName := ⟨RJ2, "indexOfChar", "([BIII)I"⟩
abbrev cJ2_indexOfCharUnsafe_4cfef : ByteArray := prog_20_method_48_code
def yJ2_indexOfCharUnsafe_4cfef : MethodName := ⟨RJ2, "indexOfCharUnsafe", "([BIII)I"⟩
abbrev cJ2_indexOfSupplementary_4cfef : ByteArray := prog_20_method_49_code
def yJ2_indexOfSupplementary_4cfef : MethodName := ⟨RJ2, "indexOfSupplementary", "([BIII)I"⟩
abbrev cJ2_charAt_3b067 : ByteArray := prog_20_method_83_code
def yJ2_charAt_3b067 : MethodName := ⟨RJ2, "charAt", "([BI)C"⟩
abbrev cJ2_checkIndex_2214a : ByteArray := prog_20_method_91_code
def yJ2_checkIndex_2214a : MethodName := ⟨RJ2, "checkIndex", "(I[B)V"⟩
abbrev cJ2_checkBoundsBeginEnd_d044e : ByteArray := prog_20_method_93_code
def yJ2_checkBoundsBeginEnd_d044e : MethodName := ⟨RJ2, "checkBoundsBeginEnd", "(II[B)V"⟩
def RJ10 : String := "java/lang/System"
def TJ10 : u_T := fun k => match k with
  | _ => ("", "", "", false)
def tyJ10 : Nat → FieldType := fun k => match k with
  | _ => .int
abbrev wsJ100 : List Cond := u_ws RJ10 TJ10 0
theorem nmJ10 : ∀ a, a < 0 → ∀ b, b < 0 → a ≠ b → (TJ10 a).2.1 ≠ (TJ10 b).2.1 := by decide +kernel
theorem tyJ10_ok : ∀ k, k < 0 → parseFieldDescriptor (TJ10 k).2.2.1 = some (tyJ10 k) := by decide +kernel
def RJ3 : String := "jdk/internal/util/Preconditions"
def TJ3 : u_T := fun k => match k with
  | _ => ("", "", "", false)
def tyJ3 : Nat → FieldType := fun k => match k with
  | _ => .int
abbrev wsJ30 : List Cond := u_ws RJ3 TJ3 0
theorem nmJ3 : ∀ a, a < 0 → ∀ b, b < 0 → a ≠ b → (TJ3 a).2.1 ≠ (TJ3 b).2.1 := by decide +kernel
theorem tyJ3_ok : ∀ k, k < 0 → parseFieldDescriptor (TJ3 k).2.2.1 = some (tyJ3 k) := by decide +kernel
abbrev cJ3_checkIndex_8e157 : ByteArray := prog_22_method_11_code
def yJ3_checkIndex_8e157 : MethodName := ⟨RJ3, "checkIndex", "(IILjava/util/function/BiFunction;)I"⟩
abbrev cJ3_checkFromToIndex_8c36e : ByteArray := prog_22_method_12_code
def yJ3_checkFromToIndex_8c36e : MethodName := ⟨RJ3, "checkFromToIndex", "(IIILjava/util/function/BiFunction;)I"⟩
def RL : String := "CliffJudgesLaw"
abbrev cL_law : ByteArray := code
def yL_law : MethodName := ⟨RL, "law", "([I)Z"⟩
abbrev vwCl : List vw_C := [(RX0, TX0, 3), (RX1, TX1, 8), (RX2, TX2, 5), (RX3, TX3, 4), (RX4, TX4, 16), (RX5, TX5, 7), (RX6, TX6, 9), (RX7, TX7, 7), (RX8, TX8, 13), (RX9, TX9, 8), (RX10, TX10, 10), (RX11, TX11, 14), (RX12, TX12, 89)]
end
section
/-! the words that stay, of the tables; a method's words are its own code and these -/
def gT : List Cond := lw_tbl.filter goodWord
theorem gm {w : Cond} (i : Nat) (h : lw_tbl[i]? = some w) (hg : goodWord w = true) : w ∈ gT := List.mem_filter.mpr ⟨List.mem_of_getElem? h, hg⟩
theorem gin {ws : List Cond} (ps : List Nat) (h : ws = ps.filterMap (fun i => lw_tbl[i]?)) (hg : ws.all goodWord = true) : ∀ w ∈ ws, w ∈ gT := by
  intro w hw
  have h1 := List.all_eq_true.mp hg w hw
  rw [h] at hw
  obtain ⟨i, -, hi⟩ := List.mem_filterMap.mp hw
  exact gm i hi h1
theorem gGood {c : Cond} {ws : List Cond} (hc : c ∈ gT) (hw : ∀ w ∈ ws, w ∈ gT) (d : Cond) : GoodIn (d :: gT) (ws ++ (c :: gT)) := by
  intro w h
  have hm : w ∈ gT := by
    rcases List.mem_append.mp h with h | h
    · exact hw w h
    · rcases List.mem_cons.mp h with h | h
      · rw [h]; exact hc
      · exact h
  exact ⟨List.mem_cons_of_mem _ hm, good_of_word (List.mem_filter.mp hm).2⟩
theorem gGood2 {c : Cond} {ws : List Cond} (hc : c ∈ gT) (hw : ∀ w ∈ ws, w ∈ gT) : GoodIn gT (ws ++ (c :: gT)) := by
  intro w h
  have hm : w ∈ gT := by
    rcases List.mem_append.mp h with h | h
    · exact hw w h
    · rcases List.mem_cons.mp h with h | h
      · rw [h]; exact hc
      · exact h
  exact ⟨hm, good_of_word (List.mem_filter.mp hm).2⟩
/-- what a contract begins with: the world wc, the array classes tys, and what E says of the rest -/
def xPre (D : va_G) (tys : List (ClassId × FieldType)) (E : (Nat → Prop) → State → Prop) (sz : Nat) (wc : va_W) (U : State) : Prop :=
  U.heap.size = sz ∧ va_P D vwCl wc U.heap ∧ va_K D vwCl tys U ∧ va_D (fun _ => True) wc ∧ E (va_A wc sz) U
def xB (D : va_G) (tys : List (ClassId × FieldType)) (A : Nat → Prop) (w1 : va_W) (t : State) : Prop :=
  va_P D vwCl w1 t.heap ∧ va_K D vwCl tys t ∧ va_D A w1
/-- E doesn't look at frames -/
def xBlind (E : (Nat → Prop) → State → Prop) : Prop := ∀ (A : Nat → Prop) (U : State) (g : JFrame) (mk : MethodId) (a : Array Value), E A U → E A (U.calling g mk a)
def E0 : (Nat → Prop) → State → Prop := fun _ _ => True
theorem E0_blind : xBlind E0 := fun _ _ _ _ _ _ => trivial
/-- contracts: an int (or a truth value), and nothing -/
def XMi (l : Launch) (D : va_G) (tys : List (ClassId × FieldType)) (E : (Nat → Prop) → State → Prop) (y : MethodName) (bytes : ByteArray) (maxL : Nat) (ret : Option FieldType) (rm : Room) (av : List Value) (wc : va_W) {S : Type} (post : Int32 → S → Prop) (w1 : S → va_W) : Prop :=
  ∀ sz : Nat, Met l y (Cond.code y bytes maxL ret :: gT) rm (va_Pc av (xPre D tys E sz wc)) (va_Qi post (fun u t => xB D tys (va_A wc sz) (w1 u) t) (va_A wc sz)) rm.cells rm.slots (va_A wc sz)
def XMv (l : Launch) (D : va_G) (tys : List (ClassId × FieldType)) (E : (Nat → Prop) → State → Prop) (y : MethodName) (bytes : ByteArray) (maxL : Nat) (ret : Option FieldType) (rm : Room) (av : List Value) (wc : va_W) {S : Type} (post : S → Prop) (w1 : S → va_W) : Prop :=
  ∀ sz : Nat, Met l y (Cond.code y bytes maxL ret :: gT) rm (va_Pc av (xPre D tys E sz wc)) (va_Qv post (fun u t => xB D tys (va_A wc sz) (w1 u) t) (va_A wc sz)) rm.cells rm.slots (va_A wc sz)
/-- what holds at a method's first instruction -/
def xAt (D : va_G) (tys : List (ClassId × FieldType)) (E : (Nat → Prop) → State → Prop) (y : MethodName) (bytes : ByteArray) (maxL : Nat) (ret : Option FieldType) (av : List Value) (wc : va_W) (p : Program) (s : State) (m : MethodId) (meth : Method) (c : Code) (args : Array Value) (A : Nat → Prop) (ls : Array Slot) : Prop :=
  p.tables.exec = Jvm.exec ∧ c.code = bytes ∧ meth.sig.returnType = ret ∧ c.maxLocals = maxL ∧ s.vm.findClass y.cls = some m.cls ∧ (∀ w ∈ gT, w.before args s = true) ∧ meth.locks = false ∧ meth.name = y.name ∧ va_K D vwCl tys s ∧ (∀ q, s.heap.size ≤ q → A q) ∧ va_P D vwCl wc s.heap ∧ va_D A wc ∧ va_S A s.heap s.heap [] ∧ E A s ∧ lv_has ls maxL (lv_args 0 av)
theorem XMi.start {l : Launch} {D : va_G} {tys : List (ClassId × FieldType)} {E : (Nat → Prop) → State → Prop} {y : MethodName} {bytes : ByteArray} {maxL : Nat} {ret : Option FieldType} {rm : Room} {av : List Value} {wc : va_W} {S : Type} {post : Int32 → S → Prop} {w1 : S → va_W}
    (hpl : plainName y.cls = true) (hlen : (lg_sl av).length ≤ maxL)
    (body : ∀ p e s m below meth c args A ls Q, xAt D tys E y bytes maxL ret av wc p s m meth c args A ls → Q = MQ below (va_Qi post (fun u t => xB D tys A (w1 u) t) A) args s rm.cells rm.slots A →
      W p l e rm s m args below meth c s.heap [] 0 0 Q (F0 m 0 ls [])) : XMi l D tys E y bytes maxL ret rm av wc post w1 := by
  intro sz
  refine Met.ofW (cc := bytes) (maxL := maxL) (ret := ret) hpl rfl ?_
  intro p e s m args below meth c s₁ B hml hv
  obtain ⟨rfl, hsz, hP, hK, hD0, hE⟩ := hv
  have hts := atoms_spec (ws := Cond.code y bytes maxL ret :: gT) B.pre
  subst hsz
  have hD := hD0.self (sz := s.heap.size)
  generalize hAe : va_A wc s.heap.size = A at hD hE ⊢
  have hA : ∀ q : Nat, s.heap.size ≤ q → A q := fun q h => by rw [← hAe]; exact Or.inr h
  have hl := lv_entry av (n := maxL) hlen
  rw [lg_entry_eq]
  generalize (lg_sl av ++ List.replicate (maxL - (lg_sl av).length) Slot.unset).toArray = ls at hl ⊢
  exact body p e s m below meth c av.toArray A ls _ ⟨B.exec, B.bytes, B.returns, hml, findClass_of_methodNamed B.named, fun w h => hts w (List.mem_cons_of_mem _ h), B.notSynchronized, (name_of_methodNamed B.named B.method).1, hK, hA, hP, hD, va_S.rf, hE, hl⟩ rfl
theorem XMv.start {l : Launch} {D : va_G} {tys : List (ClassId × FieldType)} {E : (Nat → Prop) → State → Prop} {y : MethodName} {bytes : ByteArray} {maxL : Nat} {ret : Option FieldType} {rm : Room} {av : List Value} {wc : va_W} {S : Type} {post : S → Prop} {w1 : S → va_W}
    (hpl : plainName y.cls = true) (hlen : (lg_sl av).length ≤ maxL)
    (body : ∀ p e s m below meth c args A ls Q, xAt D tys E y bytes maxL ret av wc p s m meth c args A ls → Q = MQ below (va_Qv post (fun u t => xB D tys A (w1 u) t) A) args s rm.cells rm.slots A →
      W p l e rm s m args below meth c s.heap [] 0 0 Q (F0 m 0 ls [])) : XMv l D tys E y bytes maxL ret rm av wc post w1 := by
  intro sz
  refine Met.ofW (cc := bytes) (maxL := maxL) (ret := ret) hpl rfl ?_
  intro p e s m args below meth c s₁ B hml hv
  obtain ⟨rfl, hsz, hP, hK, hD0, hE⟩ := hv
  have hts := atoms_spec (ws := Cond.code y bytes maxL ret :: gT) B.pre
  subst hsz
  have hD := hD0.self (sz := s.heap.size)
  generalize hAe : va_A wc s.heap.size = A at hD hE ⊢
  have hA : ∀ q : Nat, s.heap.size ≤ q → A q := fun q h => by rw [← hAe]; exact Or.inr h
  have hl := lv_entry av (n := maxL) hlen
  rw [lg_entry_eq]
  generalize (lg_sl av ++ List.replicate (maxL - (lg_sl av).length) Slot.unset).toArray = ls at hl ⊢
  exact body p e s m below meth c av.toArray A ls _ ⟨B.exec, B.bytes, B.returns, hml, findClass_of_methodNamed B.named, fun w h => hts w (List.mem_cons_of_mem _ h), B.notSynchronized, (name_of_methodNamed B.named B.method).1, hK, hA, hP, hD, va_S.rf, hE, hl⟩ rfl
section XR
variable {p : Program} {l : Launch} {e : Env} {R : Room} {s : State} {m : MethodId} {args : Array Value} {below : List Frame} {meth : Method} {c : Code} {H : Heap} {locs : List Loc} {cells slots : Nat} {Q : State → Prop}
variable {cc : ByteArray} {pc : Nat} {ls : Array Slot} {D : va_G} {A : Nat → Prop} {tys : List (ClassId × FieldType)} {ws : va_W} {mc ms : Nat}
/-- the ends -/
theorem x_iret {S : Type} {post : Int32 → S → Prop} {w1 : S → va_W} {v : Int32} (hQ : Q = MQ below (va_Qi post (fun u t => xB D tys A (w1 u) t) A) args s mc ms A) (hx : p.tables.exec = Jvm.exec) (hb : c.code = cc) (hr : meth.sig.returnType = some .int) (hlocks : meth.locks = false) (hK : va_K D vwCl tys s) (hP : va_P D vwCl ws H) (hD : va_D A ws) (hS : va_S A s.heap H locs)
    (hdg : decode cc pc = .ok (.ireturn, 1)) (u : S) (hpost : post v u) (is : List Nat) (hn : va_nd is = true) (hw : is.map (fun i => ws[i]?) = (w1 u).map some) (hc : cells ≤ mc) (hs : slots ≤ ms) :
    W p l e R s m args below meth c H locs cells slots Q (F0 m pc ls [.int v]) := by
  subst hQ
  refine W.widen hc hs ?_
  have hP1 : va_P D vwCl (w1 u) H := hP.sub is (by
    have := congrArg (fun l => l.filterMap id) hw
    simpa [List.filterMap_map] using this)
  have hD1 : va_D A (w1 u) := hD.sub is hn hw
  exact W.iret (v := v) hx hb hr (fun t ht hW => ⟨⟨v, u, rfl, hpost, by rw [ht]; exact hP1, va_K.moved hW.alike hK, hD1⟩, hS.F ht⟩) hS.2.2 hdg hlocks
theorem x_zret {S : Type} {post : Int32 → S → Prop} {w1 : S → va_W} {v : Int32} {ty : FieldType} (hQ : Q = MQ below (va_Qi post (fun u t => xB D tys A (w1 u) t) A) args s mc ms A) (hx : p.tables.exec = Jvm.exec) (hb : c.code = cc) (hr : meth.sig.returnType = some ty) (hlocks : meth.locks = false) (hK : va_K D vwCl tys s) (hP : va_P D vwCl ws H) (hD : va_D A ws) (hS : va_S A s.heap H locs)
    (hnr : narrow ty (.int v) = .int v) (hdg : decode cc pc = .ok (.ireturn, 1)) (u : S) (hpost : post v u) (is : List Nat) (hn : va_nd is = true) (hw : is.map (fun i => ws[i]?) = (w1 u).map some) (hc : cells ≤ mc) (hs : slots ≤ ms) :
    W p l e R s m args below meth c H locs cells slots Q (F0 m pc ls [.int v]) := by
  subst hQ
  refine W.widen hc hs ?_
  have hP1 : va_P D vwCl (w1 u) H := hP.sub is (by
    have := congrArg (fun l => l.filterMap id) hw
    simpa [List.filterMap_map] using this)
  have hD1 : va_D A (w1 u) := hD.sub is hn hw
  exact W.zret (v := v) hx hb hr hnr (fun t ht hW => ⟨⟨v, u, rfl, hpost, by rw [ht]; exact hP1, va_K.moved hW.alike hK, hD1⟩, hS.F ht⟩) hS.2.2 hdg hlocks
theorem x_vret {S : Type} {post : S → Prop} {w1 : S → va_W} (hQ : Q = MQ below (va_Qv post (fun u t => xB D tys A (w1 u) t) A) args s mc ms A) (hx : p.tables.exec = Jvm.exec) (hb : c.code = cc) (hr : meth.sig.returnType = none) (hlocks : meth.locks = false) (hK : va_K D vwCl tys s) (hP : va_P D vwCl ws H) (hD : va_D A ws) (hS : va_S A s.heap H locs)
    (hdg : decode cc pc = .ok (.return_, 1)) (u : S) (hpost : post u) (is : List Nat) (hn : va_nd is = true) (hw : is.map (fun i => ws[i]?) = (w1 u).map some) (hc : cells ≤ mc) (hs : slots ≤ ms) :
    W p l e R s m args below meth c H locs cells slots Q (F0 m pc ls []) := by
  subst hQ
  refine W.widen hc hs ?_
  have hP1 : va_P D vwCl (w1 u) H := hP.sub is (by
    have := congrArg (fun l => l.filterMap id) hw
    simpa [List.filterMap_map] using this)
  have hD1 : va_D A (w1 u) := hD.sub is hn hw
  exact W.vret hx hb hr (fun t ht hW => ⟨⟨u, rfl, hpost, by rw [ht]; exact hP1, va_K.moved hW.alike hK, hD1⟩, hS.F ht⟩) hS.2.2 hdg hlocks
end XR
/-- what a call needs of the tables -/
def xV (own C : String) (index : Nat) (y : MethodName) (bytes : ByteArray) (maxL : Nat) (ret : Option FieldType) (n : Nat) : Prop :=
  (Cond.methodLink own index y ∈ gT ∧ Cond.instanceMethod y ∈ gT ∧ Cond.selects C y y ∈ gT ∧ Cond.initialized C ∈ gT ∧ Cond.code y bytes maxL ret ∈ gT) ∧ y.cls = C ∧ y.cls ≠ "java/lang/invoke/MethodHandle" ∧ y.cls ≠ "java/lang/invoke/VarHandle" ∧ (parseMethodDescriptor y.desc).map (fun d => d.parameters.length) = some n
def xS (own : String) (index : Nat) (y : MethodName) (bytes : ByteArray) (maxL : Nat) (ret : Option FieldType) (n : Nat) : Prop :=
  (Cond.methodLink own index y ∈ gT ∧ Cond.static y ∈ gT ∧ Cond.initialized y.cls ∈ gT ∧ Cond.code y bytes maxL ret ∈ gT) ∧ y.cls ≠ "java/lang/invoke/MethodHandle" ∧ y.cls ≠ "java/lang/invoke/VarHandle" ∧ (parseMethodDescriptor y.desc).map (fun d => d.parameters.length) = some n
def xI (own : String) (index : Nat) (y : MethodName) (bytes : ByteArray) (maxL : Nat) (n : Nat) : Prop :=
  (Cond.methodLink own index y ∈ gT ∧ Cond.instanceMethod y ∈ gT ∧ Cond.initialized y.cls ∈ gT ∧ Cond.code y bytes maxL none ∈ gT) ∧ y.name = "<init>" ∧ y.cls ≠ "java/lang/invoke/MethodHandle" ∧ y.cls ≠ "java/lang/invoke/VarHandle" ∧ (parseMethodDescriptor y.desc).map (fun d => d.parameters.length) = some n
def xN (y : MethodName) (bytes : ByteArray) (maxL : Nat) (n : Nat) : Prop :=
  (Cond.instanceMethod y ∈ gT ∧ Cond.initialized y.cls ∈ gT ∧ Cond.code y bytes maxL none ∈ gT) ∧ y.name = "<init>" ∧ y.cls ≠ "java/lang/invoke/MethodHandle" ∧ y.cls ≠ "java/lang/invoke/VarHandle" ∧ (parseMethodDescriptor y.desc).map (fun d => d.parameters.length) = some n
theorem all4 {a b c d : Cond} (ha : a ∈ gT) (hb : b ∈ gT) (hc : c ∈ gT) (hd : d ∈ gT) : ∀ w ∈ [a, b, c, d], w ∈ gT := by
  intro w h
  simp only [List.mem_cons, List.not_mem_nil, or_false] at h
  rcases h with rfl | rfl | rfl | rfl <;> assumption
theorem all3 {a b c : Cond} (ha : a ∈ gT) (hb : b ∈ gT) (hc : c ∈ gT) : ∀ w ∈ [a, b, c], w ∈ gT := by
  intro w h
  simp only [List.mem_cons, List.not_mem_nil, or_false] at h
  rcases h with rfl | rfl | rfl <;> assumption
theorem xPre_blind {D : va_G} {tys : List (ClassId × FieldType)} {E : (Nat → Prop) → State → Prop} (hE : xBlind E) {sz : Nat} {wc : va_W} {av : List Value} : FrameBlind (va_Pc av (xPre D tys E sz wc)) := by
  intro a U g mk q
  obtain ⟨q0, q1, qP, qK, qD, qE⟩ := q
  exact ⟨q0, q1, qP, va_K.moved (u := U) (U := U.calling g mk a) (Vm.Alike.refl U.vm) qK, qD, hE _ U g mk a qE⟩
section XC
variable {p : Program} {l : Launch} {e : Env} {R : Room} {s : State} {m : MethodId} {args : Array Value} {below : List Frame} {meth : Method} {c : Code} {H : Heap} {locs : List Loc} {cells slots : Nat} {Q : State → Prop}
variable {cc : ByteArray} {pc : Nat} {ls : Array Slot} {D : va_G} {A : Nat → Prop} {tys : List (ClassId × FieldType)} {ws wc wr : va_W} {H0 : Heap} {E : (Nat → Prop) → State → Prop}
variable {own C : String} {index maxL n nL : Nat} {y : MethodName} {bytes : ByteArray} {ret : Option FieldType} {rm : Room} {av rest st : List Value} {b : Nat} {S : Type} {w1 : S → va_W}
/-- what a call needs of the caller's world: the callee's cells at the places isC, the rest at isR -/
def xCut (ws wc wr : va_W) (isC isR : List Nat) : Prop := isC.map (fun i => ws[i]?) = wc.map some ∧ isR.map (fun i => ws[i]?) = wr.map some ∧ va_nd isC = true ∧ va_nd isR = true ∧ ∀ i ∈ isR, i ∉ isC
theorem xCut_P {isC isR : List Nat} (h : xCut ws wc wr isC isR) (hP : va_P D vwCl ws H) : va_P D vwCl wc H := hP.sub isC (by
  have := congrArg (fun l => l.filterMap id) h.1
  simpa [List.filterMap_map] using this)
theorem x_join {isC isR : List Nat} {H1 : Heap} {w : va_W} {t : State} (h : xCut ws wc wr isC isR) (hP : va_P D vwCl ws H) (hD : va_D A ws) (hS : va_S A H0 H locs) (hA : ∀ q, H0.size ≤ q → A q) (ht : t.heap = H1) (hB : xB D tys (va_A wc H.size) w t) (hk : ∀ q : Nat, q < H.size → ¬ va_A wc H.size q → H1[q]? = H[q]?) : va_P D vwCl (wr ++ w) H1 ∧ va_D A (wr ++ w) := by
  have hF := va_free (wc := wc) hD hS hA isC h.1
  exact va_join hP hD isC isR h.1 h.2.1 h.2.2.2.1 h.2.2.2.2 hk hF (by rw [← ht]; exact hB.1) hB.2.2
/-- the facts of a frame that calls -/
def xFix (p : Program) (s : State) (m : MethodId) (c : Code) (args : Array Value) (cc : ByteArray) (nL : Nat) (own : String) (ls : Array Slot) : Prop := p.tables.exec = Jvm.exec ∧ c.code = cc ∧ c.maxLocals = nL ∧ s.vm.findClass own = some m.cls ∧ (∀ w ∈ gT, w.before args s = true) ∧ ls.size = nL
theorem x_callVi {post : Int32 → S → Prop} {ci q0 : Nat} {fs : List Value} {q : vw_C} (S0 : xFix p s m c args cc nL own ls) (kx : xV own q.1 index y bytes maxL ret n)
    (hM : XMi l D tys E y bytes maxL ret rm (.ref b :: av) wc post w1) (hbl : xBlind E)
    (hK : va_K D vwCl tys s) (hP : va_P D vwCl ws H) (hD : va_D A ws) (hS : va_S A H0 H locs) (hA : ∀ q, H0.size ≤ q → A q) (isC isR : List Nat) (hcut : xCut ws wc wr isC isR) (hc : vwCl[ci]? = some q) (hq : wc[q0]? = some (b, .inr (ci, fs)))
    (hE : ∀ U : State, U.heap = H → s.WarmedH U.vm → E (va_A wc H.size) U) (hdg : decode cc pc = .ok (.invokevirtual index, 3)) (hst : st = av.reverse ++ .ref b :: rest) (hn : av.length = n) (hroom : (rest.map fun v => v.category).sum ≤ 8)
    (hR : rm.frames + 1 ≤ R.frames ∧ 8 + (maxL + 11) + rm.locals ≤ R.locals) (hf : cells + rm.cells ≤ R.cells ∧ slots + rm.slots ≤ R.slots)
    (kk : ∀ (r : Int32) (u : S) (H1 : Heap) (locs1 : List Loc), post r u → va_P D vwCl (wr ++ w1 u) H1 → va_D A (wr ++ w1 u) → va_S A H0 H1 locs1 → W p l e R s m args below meth c H1 locs1 (cells + rm.cells) (slots + rm.slots) Q (F0 m (pc + 3) ls (.int r :: rest))) :
    W p l e R s m args below meth c H locs cells slots Q (F0 m pc ls st) := by
  obtain ⟨hx, hb, hml, hown, hg, hls⟩ := S0
  obtain ⟨⟨m1, m2, m3, m4, m5⟩, hd⟩ := kx
  have hF := va_free (wc := wc) hD hS hA isC hcut.1
  have hPc := xCut_P hcut hP
  have hDc := hD.sub isC hcut.2.2.1 hcut.1
  exact va_calli (va_runV (As := av) (rest := rest) (Ts := gT) ⟨hx, hb, hml, hown, hg⟩ (hM H.size) (cwV n hg (gGood2 m5 (all4 m1 m2 m3 m4)) rfl rfl rfl hd hR) ⟨xPre_blind hbl, va_recv hK hPc hc hq, fun U hU hW => ⟨rfl, by rw [hU], by rw [hU]; exact hPc, va_K.moved hW.alike hK, hDc.weaken (fun _ _ _ _ => trivial), hE U hU hW⟩⟩ rfl hn hls hst (lv_room hroom) hdg hf) hS (fun q _ h => hF q h) hF (fun r u t H1 locs1 ht hvm hw hB hz1 hk1 hS1 => by
    obtain ⟨hP1, hD1⟩ := x_join hcut hP hD hS hA ht hB hk1
    exact kk r u H1 locs1 hw hP1 hD1 hS1)
theorem x_callVv {post : S → Prop} {ci q0 : Nat} {fs : List Value} {q : vw_C} (S0 : xFix p s m c args cc nL own ls) (kx : xV own q.1 index y bytes maxL ret n)
    (hM : XMv l D tys E y bytes maxL ret rm (.ref b :: av) wc post w1) (hbl : xBlind E)
    (hK : va_K D vwCl tys s) (hP : va_P D vwCl ws H) (hD : va_D A ws) (hS : va_S A H0 H locs) (hA : ∀ q, H0.size ≤ q → A q) (isC isR : List Nat) (hcut : xCut ws wc wr isC isR) (hc : vwCl[ci]? = some q) (hq : wc[q0]? = some (b, .inr (ci, fs)))
    (hE : ∀ U : State, U.heap = H → s.WarmedH U.vm → E (va_A wc H.size) U) (hdg : decode cc pc = .ok (.invokevirtual index, 3)) (hst : st = av.reverse ++ .ref b :: rest) (hn : av.length = n) (hroom : (rest.map fun v => v.category).sum ≤ 8)
    (hR : rm.frames + 1 ≤ R.frames ∧ 8 + (maxL + 11) + rm.locals ≤ R.locals) (hf : cells + rm.cells ≤ R.cells ∧ slots + rm.slots ≤ R.slots)
    (kk : ∀ (u : S) (H1 : Heap) (locs1 : List Loc), post u → va_P D vwCl (wr ++ w1 u) H1 → va_D A (wr ++ w1 u) → va_S A H0 H1 locs1 → W p l e R s m args below meth c H1 locs1 (cells + rm.cells) (slots + rm.slots) Q (F0 m (pc + 3) ls rest)) :
    W p l e R s m args below meth c H locs cells slots Q (F0 m pc ls st) := by
  obtain ⟨hx, hb, hml, hown, hg, hls⟩ := S0
  obtain ⟨⟨m1, m2, m3, m4, m5⟩, hd⟩ := kx
  have hF := va_free (wc := wc) hD hS hA isC hcut.1
  have hPc := xCut_P hcut hP
  have hDc := hD.sub isC hcut.2.2.1 hcut.1
  exact va_callv (va_runV (As := av) (rest := rest) (Ts := gT) ⟨hx, hb, hml, hown, hg⟩ (hM H.size) (cwV n hg (gGood2 m5 (all4 m1 m2 m3 m4)) rfl rfl rfl hd hR) ⟨xPre_blind hbl, va_recv hK hPc hc hq, fun U hU hW => ⟨rfl, by rw [hU], by rw [hU]; exact hPc, va_K.moved hW.alike hK, hDc.weaken (fun _ _ _ _ => trivial), hE U hU hW⟩⟩ rfl hn hls hst (lv_room hroom) hdg hf) hS (fun q _ h => hF q h) hF (fun u t H1 locs1 ht hvm hw hB hz1 hk1 hS1 => by
    obtain ⟨hP1, hD1⟩ := x_join hcut hP hD hS hA ht hB hk1
    exact kk u H1 locs1 hw hP1 hD1 hS1)
/-- a virtual call whose receiver isn't in the world (a text) -/
theorem x_callOi {post : Int32 → S → Prop} (S0 : xFix p s m c args cc nL own ls) (kx : xV own C index y bytes maxL ret n)
    (hM : XMi l D tys E y bytes maxL ret rm (.ref b :: av) [] post w1) (hbl : xBlind E)
    (hK : va_K D vwCl tys s) (hP : va_P D vwCl ws H) (hD : va_D A ws) (hS : va_S A H0 H locs) (hA : ∀ q, H0.size ≤ q → A q) (isR : List Nat) (hcut : xCut ws [] wr [] isR) (hrc : ∃ cell : Cell, H[b]? = some cell ∧ cell.vm.isStatics = false ∧ s.vm.findClass C = some cell.cls)
    (hE : ∀ U : State, U.heap = H → s.WarmedH U.vm → E (va_A [] H.size) U) (hdg : decode cc pc = .ok (.invokevirtual index, 3)) (hst : st = av.reverse ++ .ref b :: rest) (hn : av.length = n) (hroom : (rest.map fun v => v.category).sum ≤ 8)
    (hR : rm.frames + 1 ≤ R.frames ∧ 8 + (maxL + 11) + rm.locals ≤ R.locals) (hf : cells + rm.cells ≤ R.cells ∧ slots + rm.slots ≤ R.slots)
    (kk : ∀ (r : Int32) (u : S) (H1 : Heap) (locs1 : List Loc), post r u → va_P D vwCl (wr ++ w1 u) H1 → va_D A (wr ++ w1 u) → va_S A H0 H1 locs1 → W p l e R s m args below meth c H1 locs1 (cells + rm.cells) (slots + rm.slots) Q (F0 m (pc + 3) ls (.int r :: rest))) :
    W p l e R s m args below meth c H locs cells slots Q (F0 m pc ls st) := by
  obtain ⟨hx, hb, hml, hown, hg, hls⟩ := S0
  obtain ⟨⟨m1, m2, m3, m4, m5⟩, hd⟩ := kx
  have hF := va_free (wc := []) hD hS hA [] hcut.1
  have hPc := xCut_P hcut hP
  have hDc := hD.sub [] hcut.2.2.1 hcut.1
  exact va_calli (va_runV (As := av) (rest := rest) (Ts := gT) ⟨hx, hb, hml, hown, hg⟩ (hM H.size) (cwV n hg (gGood2 m5 (all4 m1 m2 m3 m4)) rfl rfl rfl hd hR) ⟨xPre_blind hbl, hrc, fun U hU hW => ⟨rfl, by rw [hU], by rw [hU]; exact hPc, va_K.moved hW.alike hK, hDc.weaken (fun _ _ _ _ => trivial), hE U hU hW⟩⟩ rfl hn hls hst (lv_room hroom) hdg hf) hS (fun q _ h => hF q h) hF (fun r u t H1 locs1 ht hvm hw hB hz1 hk1 hS1 => by
    obtain ⟨hP1, hD1⟩ := x_join hcut hP hD hS hA ht hB hk1
    exact kk r u H1 locs1 hw hP1 hD1 hS1)
theorem x_callSi {post : Int32 → S → Prop} (S0 : xFix p s m c args cc nL own ls) (kx : xS own index y bytes maxL ret n)
    (hM : XMi l D tys E y bytes maxL ret rm av wc post w1) (hbl : xBlind E)
    (hK : va_K D vwCl tys s) (hP : va_P D vwCl ws H) (hD : va_D A ws) (hS : va_S A H0 H locs) (hA : ∀ q, H0.size ≤ q → A q) (isC isR : List Nat) (hcut : xCut ws wc wr isC isR)
    (hE : ∀ U : State, U.heap = H → s.WarmedH U.vm → E (va_A wc H.size) U) (hdg : decode cc pc = .ok (.invokestatic index, 3)) (hst : st = av.reverse ++ rest) (hn : av.length = n) (hroom : (rest.map fun v => v.category).sum ≤ 8)
    (hR : rm.frames + 1 ≤ R.frames ∧ 8 + (maxL + 11) + rm.locals ≤ R.locals) (hf : cells + rm.cells ≤ R.cells ∧ slots + rm.slots ≤ R.slots)
    (kk : ∀ (r : Int32) (u : S) (H1 : Heap) (locs1 : List Loc), post r u → va_P D vwCl (wr ++ w1 u) H1 → va_D A (wr ++ w1 u) → va_S A H0 H1 locs1 → W p l e R s m args below meth c H1 locs1 (cells + rm.cells) (slots + rm.slots) Q (F0 m (pc + 3) ls (.int r :: rest))) :
    W p l e R s m args below meth c H locs cells slots Q (F0 m pc ls st) := by
  obtain ⟨hx, hb, hml, hown, hg, hls⟩ := S0
  obtain ⟨⟨m1, m2, m3, m5⟩, hd⟩ := kx
  have hF := va_free (wc := wc) hD hS hA isC hcut.1
  have hPc := xCut_P hcut hP
  have hDc := hD.sub isC hcut.2.2.1 hcut.1
  exact va_calli (va_runS (As := av) (rest := rest) (Ts := gT) ⟨hx, hb, hml, hown, hg⟩ (hM H.size) (va_cwS n hg (gGood2 m5 (all3 m1 m2 m3)) rfl rfl rfl hd hR) ⟨xPre_blind hbl, fun U hU hW => ⟨rfl, by rw [hU], by rw [hU]; exact hPc, va_K.moved hW.alike hK, hDc.weaken (fun _ _ _ _ => trivial), hE U hU hW⟩⟩ rfl hn hls hst (lv_room hroom) hdg hf) hS (fun q _ h => hF q h) hF (fun r u t H1 locs1 ht hvm hw hB hz1 hk1 hS1 => by
    obtain ⟨hP1, hD1⟩ := x_join hcut hP hD hS hA ht hB hk1
    exact kk r u H1 locs1 hw hP1 hD1 hS1)
theorem x_callSv {post : S → Prop} (S0 : xFix p s m c args cc nL own ls) (kx : xS own index y bytes maxL ret n)
    (hM : XMv l D tys E y bytes maxL ret rm av wc post w1) (hbl : xBlind E)
    (hK : va_K D vwCl tys s) (hP : va_P D vwCl ws H) (hD : va_D A ws) (hS : va_S A H0 H locs) (hA : ∀ q, H0.size ≤ q → A q) (isC isR : List Nat) (hcut : xCut ws wc wr isC isR)
    (hE : ∀ U : State, U.heap = H → s.WarmedH U.vm → E (va_A wc H.size) U) (hdg : decode cc pc = .ok (.invokestatic index, 3)) (hst : st = av.reverse ++ rest) (hn : av.length = n) (hroom : (rest.map fun v => v.category).sum ≤ 8)
    (hR : rm.frames + 1 ≤ R.frames ∧ 8 + (maxL + 11) + rm.locals ≤ R.locals) (hf : cells + rm.cells ≤ R.cells ∧ slots + rm.slots ≤ R.slots)
    (kk : ∀ (u : S) (H1 : Heap) (locs1 : List Loc), post u → va_P D vwCl (wr ++ w1 u) H1 → va_D A (wr ++ w1 u) → va_S A H0 H1 locs1 → W p l e R s m args below meth c H1 locs1 (cells + rm.cells) (slots + rm.slots) Q (F0 m (pc + 3) ls rest)) :
    W p l e R s m args below meth c H locs cells slots Q (F0 m pc ls st) := by
  obtain ⟨hx, hb, hml, hown, hg, hls⟩ := S0
  obtain ⟨⟨m1, m2, m3, m5⟩, hd⟩ := kx
  have hF := va_free (wc := wc) hD hS hA isC hcut.1
  have hPc := xCut_P hcut hP
  have hDc := hD.sub isC hcut.2.2.1 hcut.1
  exact va_callv (va_runS (As := av) (rest := rest) (Ts := gT) ⟨hx, hb, hml, hown, hg⟩ (hM H.size) (va_cwS n hg (gGood2 m5 (all3 m1 m2 m3)) rfl rfl rfl hd hR) ⟨xPre_blind hbl, fun U hU hW => ⟨rfl, by rw [hU], by rw [hU]; exact hPc, va_K.moved hW.alike hK, hDc.weaken (fun _ _ _ _ => trivial), hE U hU hW⟩⟩ rfl hn hls hst (lv_room hroom) hdg hf) hS (fun q _ h => hF q h) hF (fun u t H1 locs1 ht hvm hw hB hz1 hk1 hS1 => by
    obtain ⟨hP1, hD1⟩ := x_join hcut hP hD hS hA ht hB hk1
    exact kk u H1 locs1 hw hP1 hD1 hS1)
theorem x_callI {post : S → Prop} (S0 : xFix p s m c args cc nL own ls) (kx : xI own index y bytes maxL n)
    (hM : XMv l D tys E y bytes maxL none rm (.ref b :: av) wc post w1) (hbl : xBlind E)
    (hK : va_K D vwCl tys s) (hP : va_P D vwCl ws H) (hD : va_D A ws) (hS : va_S A H0 H locs) (hA : ∀ q, H0.size ≤ q → A q) (isC isR : List Nat) (hcut : xCut ws wc wr isC isR)
    (hE : ∀ U : State, U.heap = H → s.WarmedH U.vm → E (va_A wc H.size) U) (hdg : decode cc pc = .ok (.invokespecial index, 3)) (hst : st = av.reverse ++ .ref b :: rest) (hn : av.length = n) (hroom : (rest.map fun v => v.category).sum ≤ 8)
    (hR : rm.frames + 1 ≤ R.frames ∧ 8 + (maxL + 11) + rm.locals ≤ R.locals) (hf : cells + rm.cells ≤ R.cells ∧ slots + rm.slots ≤ R.slots)
    (kk : ∀ (u : S) (H1 : Heap) (locs1 : List Loc), post u → va_P D vwCl (wr ++ w1 u) H1 → va_D A (wr ++ w1 u) → va_S A H0 H1 locs1 → W p l e R s m args below meth c H1 locs1 (cells + rm.cells) (slots + rm.slots) Q (F0 m (pc + 3) ls rest)) :
    W p l e R s m args below meth c H locs cells slots Q (F0 m pc ls st) := by
  obtain ⟨hx, hb, hml, hown, hg, hls⟩ := S0
  obtain ⟨⟨m1, m2, m3, m5⟩, hnm, hd⟩ := kx
  have hF := va_free (wc := wc) hD hS hA isC hcut.1
  have hPc := xCut_P hcut hP
  have hDc := hD.sub isC hcut.2.2.1 hcut.1
  exact va_callv (va_runI (As := av) (rest := rest) (Ts := gT) ⟨hx, hb, hml, hown, hg⟩ (hM H.size) (cwI n hg (gGood2 (ws := []) m5 (fun _ h => by cases h)) rfl rfl rfl (hg _ m3) (hg _ m1) (hg _ m2) hnm hd hR) ⟨xPre_blind hbl, fun U hU hW => ⟨rfl, by rw [hU], by rw [hU]; exact hPc, va_K.moved hW.alike hK, hDc.weaken (fun _ _ _ _ => trivial), hE U hU hW⟩⟩ rfl hn hls hst (lv_room hroom) hdg hf) hS (fun q _ h => hF q h) hF (fun u t H1 locs1 ht hvm hw hB hz1 hk1 hS1 => by
    obtain ⟨hP1, hD1⟩ := x_join hcut hP hD hS hA ht hB hk1
    exact kk u H1 locs1 hw hP1 hD1 hS1)
theorem x_callN {host : String} {post : S → Prop} (S0 : xFix p s m c args cc nL own ls) (hnw : va_Nw (.methodLinkNest own index y host) s) (kx : xN y bytes maxL n)
    (hM : XMv l D tys E y bytes maxL none rm (.ref b :: av) wc post w1) (hbl : xBlind E)
    (hK : va_K D vwCl tys s) (hP : va_P D vwCl ws H) (hD : va_D A ws) (hS : va_S A H0 H locs) (hA : ∀ q, H0.size ≤ q → A q) (isC isR : List Nat) (hcut : xCut ws wc wr isC isR)
    (hE : ∀ U : State, U.heap = H → s.WarmedH U.vm → E (va_A wc H.size) U) (hdg : decode cc pc = .ok (.invokespecial index, 3)) (hst : st = av.reverse ++ .ref b :: rest) (hn : av.length = n) (hroom : (rest.map fun v => v.category).sum ≤ 8)
    (hR : rm.frames + 1 ≤ R.frames ∧ 8 + (maxL + 11) + rm.locals ≤ R.locals) (hf : cells + rm.cells ≤ R.cells ∧ slots + rm.slots ≤ R.slots)
    (kk : ∀ (u : S) (H1 : Heap) (locs1 : List Loc), post u → va_P D vwCl (wr ++ w1 u) H1 → va_D A (wr ++ w1 u) → va_S A H0 H1 locs1 → W p l e R s m args below meth c H1 locs1 (cells + rm.cells) (slots + rm.slots) Q (F0 m (pc + 3) ls rest)) :
    W p l e R s m args below meth c H locs cells slots Q (F0 m pc ls st) := by
  obtain ⟨hx, hb, hml, hown, hg, hls⟩ := S0
  obtain ⟨⟨m2, m3, m5⟩, hnm, hd⟩ := kx
  have hF := va_free (wc := wc) hD hS hA isC hcut.1
  have hPc := xCut_P hcut hP
  have hDc := hD.sub isC hcut.2.2.1 hcut.1
  exact va_callv (va_runIN (As := av) (rest := rest) (Ts := gT) ⟨hx, hb, hml, hown, hg⟩ (hM H.size) ⟨va_cnB n hg (gGood2 (ws := []) m5 (fun _ h => by cases h)) rfl rfl rfl hnw (hg _ m3) hd hR, hnm, hg _ m2⟩ ⟨xPre_blind hbl, fun U hU hW => ⟨rfl, by rw [hU], by rw [hU]; exact hPc, va_K.moved hW.alike hK, hDc.weaken (fun _ _ _ _ => trivial), hE U hU hW⟩⟩ rfl hn hls hst (lv_room hroom) hdg hf) hS (fun q _ h => hF q h) hF (fun u t H1 locs1 ht hvm hw hB hz1 hk1 hS1 => by
    obtain ⟨hP1, hD1⟩ := x_join hcut hP hD hS hA ht hB hk1
    exact kk u H1 locs1 hw hP1 hD1 hS1)
/-- a new array of a kind whose class is known -/
theorem x_newa {atype : ArrayType} {ty : FieldType} {cy : ClassId} (hx : p.tables.exec = Jvm.exec) (hb : c.code = cc) (harr : (Cond.arrayClass (newarray.typeOf atype)).before args s = true) (hty : newarray.typeOf atype = ty) (hK : va_K D vwCl tys s) (t0 : Nat) (ht : tys[t0]? = some (cy, ty)) (hone : ∀ a b : ClassId, va_RA s a ty → va_RA s b ty → a = b) (hP : va_P D vwCl ws H) (hD : va_D A ws) (hS : va_S A H0 H locs) (hA : ∀ q, H0.size ≤ q → A q)
    {k : Int32} {N' : Nat} {a0 : vp_A} (ha : ∀ cA : ClassId, vp_cell cA a0 = arrV cA N' (fun _ => defaultValue ty)) (hn : ¬ k < 0) (hN : k.toNatClampNeg = N') (hbytes : N' * componentBytes ty ≤ 536870912) (hcells : cells + 1 ≤ R.cells) (hslots : slots + N' ≤ R.slots) (hdg : decode cc pc = .ok (.newarray atype, 2))
    (kk : ∀ (q : Nat) (H1 : Heap), va_P D vwCl (ws ++ [(q, .inl (cy, a0))]) H1 → va_D A (ws ++ [(q, .inl (cy, a0))]) → va_S A H0 H1 locs →
      W p l e R s m args below meth c H1 locs (cells + 1) (slots + N') Q (F0 m (pc + 2) ls (.ref q :: rest))) : W p l e R s m args below meth c H locs cells slots Q (F0 m pc ls (.int k :: rest)) := by
  refine va_newa hx hb harr hty hK hP hD hS hA ha hn hN hbytes hcells hslots hdg (fun q cA H1 hK1 hP1 hD1 hS1 => ?_)
  have h1 := (hK.2 t0 _ ht).2
  have h2 := (hK1.2 tys.length (cA, ty) (by rw [List.getElem?_append_right (Nat.le_refl _), Nat.sub_self]; rfl)).2
  have e : cy = cA := hone cy cA h1 h2
  subst e
  exact kk q H1 hP1 hD1 hS1
end XC
theorem one_int {s : State} (a b : ClassId) (h1 : va_RA s a .int) (h2 : va_RA s b .int) : a = b := Option.some.inj ((va_nm_int h1).symm.trans (va_nm_int h2))
theorem one_long {s : State} (a b : ClassId) (h1 : va_RA s a .long) (h2 : va_RA s b .long) : a = b := Option.some.inj ((va_nm_long h1).symm.trans (va_nm_long h2))
theorem one_byte {s : State} (a b : ClassId) (h1 : va_RA s a .byte) (h2 : va_RA s b .byte) : a = b := Option.some.inj ((va_nm_byte h1).symm.trans (va_nm_byte h2))
theorem one_bool {s : State} (a b : ClassId) (h1 : va_RA s a .boolean) (h2 : va_RA s b .boolean) : a = b := Option.some.inj ((va_nm_boolean h1).symm.trans (va_nm_boolean h2))
/-- a loop's counter at its test -/
theorem lp_end {i N : Nat} {y : Int32} (hy : y = nI N) (hi : i ≤ N) (hN : N < 2 ^ 31) (h : y ≤ nI i) : i = N := by
  rw [hy] at h
  have := (nI_leI hN (Nat.lt_of_le_of_lt hi hN)).mp h
  omega
theorem lp_go {i N : Nat} {y : Int32} (hy : y = nI N) (hi : i ≤ N) (hN : N < 2 ^ 31) (h : ¬ y ≤ nI i) : i < N := by
  rcases Nat.lt_or_ge i N with q | q
  · exact q
  · exact absurd (by rw [hy]; exact nI_le q (Nat.lt_of_le_of_lt hi hN)) h
theorem lp_inc (i : Nat) : nI i + Int32.ofInt 1 = nI (i + 1) := nI_1 i
abbrev rmk (d c s : Nat) : Room := { frames := d, cells := c, slots := s, locals := 60 * d }
/-- the array classes: bytes, ints, longs, truth values -/
abbrev tyL (cy : Nat → ClassId) : List (ClassId × FieldType) := [(cy 0, .byte), (cy 1, .int), (cy 2, .long), (cy 3, .boolean)]
theorem fa_lt (a b : Int32) : a < b ↔ a.toInt < b.toInt := Int32.lt_iff_toInt_lt
theorem fa_le (a b : Int32) : a ≤ b ↔ a.toInt ≤ b.toInt := Int32.le_iff_toInt_le
theorem fa_eq (a b : Int32) : a = b ↔ a.toInt = b.toInt := ⟨fun h => by rw [h], fun h => Int32.toInt_inj.mp h⟩
end
section
theorem nlt_le {a b : Int32} (h : ¬ a < b) : b ≤ a := by
  rw [fa_le]
  rw [fa_lt] at h
  omega
theorem nle_lt {a b : Int32} (h : ¬ a ≤ b) : b < a := by
  rw [fa_lt]
  rw [fa_le] at h
  omega
theorem cry_in {r cry : Int32} (h : r = 0 ∨ cry = 0 ∨ cry = 1) (hr : ¬ r = 0) : vp_in (cry * 11) 41 := by
  rcases h with h | h | h
  · exact absurd h hr
  · subst h; unfold vp_in; decide
  · subst h; unfold vp_in; decide
theorem dX4_has_0 : decode cX4_has 0 = .ok (.iload_n 2, 1) := by decide +kernel
theorem dX4_has_1 : decode cX4_has 1 = .ok (.ifCond .lt 17, 3) := by decide +kernel
theorem dX4_has_18 : decode cX4_has 18 = .ok (.iconst 0, 1) := by decide +kernel
theorem dX4_has_19 : decode cX4_has 19 = .ok (.ireturn, 1) := by decide +kernel
theorem dX4_has_4 : decode cX4_has 4 = .ok (.iload_n 2, 1) := by decide +kernel
theorem dX4_has_5 : decode cX4_has 5 = .ok (.aload_n 0, 1) := by decide +kernel
theorem dX4_has_6 : decode cX4_has 6 = .ok (.getfield 9, 3) := by decide +kernel
set_option maxRecDepth 20000 in
theorem i_X4 : ∀ w ∈ u_ws RX4 TX4 16, w ∈ gT := gin [384, 386, 388, 390, 392, 394, 396, 398, 400, 402, 404, 406, 408, 410, 412, 414] (by decide +kernel) (by decide +kernel)
theorem m_329 : (Cond.fieldLink RX4 9 "CliffJudges$Hills" "counts" "[I") ∈ gT := gm 329 (by decide +kernel) (by decide +kernel)
theorem dX4_has_9 : decode cX4_has 9 = .ok (.iload_n 1, 1) := by decide +kernel
theorem dX4_has_10 : decode cX4_has 10 = .ok (.iaload, 1) := by decide +kernel
theorem dX4_has_11 : decode cX4_has 11 = .ok (.if_icmp .ge 7, 3) := by decide +kernel
set_option maxHeartbeats 400000 in
set_option maxRecDepth 100000 in
theorem c_has (l : Launch) (D : va_G) (cy : Nat → ClassId) (h0 : Nat) (h1 : Nat) (v1 : Value) (v2 : Value) (v3 : Value) (v4 : Value) (v5 : Value) (v6 : Value) (v7 : Value) (v8 : Value) (v9 : Value) (v10 : Value) (v11 : Value) (v12 : Value) (v13 : Value) (v14 : Value) (v15 : Value) (so : Int32) (ix : Int32) (hso : vp_in so 4) : XMi l D (tyL cy) E0 yX4_has cX4_has 3 (some .boolean) (rmk 0 0 0) [.ref h0, .int so, .int ix] [(h0, .inr (4, [.ref h1, v1, v2, v3, v4, v5, v6, v7, v8, v9, v10, v11, v12, v13, v14, v15])), (h1, .inl (cy 1, 4, .inl (fun _ => 0)))] (fun (r : Int32) (_ : Unit) => r = 0) (fun (_ : Unit) => [(h0, .inr (4, [.ref h1, v1, v2, v3, v4, v5, v6, v7, v8, v9, v10, v11, v12, v13, v14, v15])), (h1, .inl (cy 1, 4, .inl (fun _ => 0)))]) := by
  refine XMi.start (by decide) (Nat.le_of_ble_eq_true rfl) ?_
  intro p e s m below meth c args A ls Q hat hQ
  obtain ⟨hx, hb, hr, hml, hown, hg, hlocks, hin, hK, hA, hP, hD, hS, hE, hl⟩ := hat
  have hown : s.vm.findClass RX4 = some m.cls := hown
  have hl : lv_has ls 3 [(0, .ref h0), (1, .int so), (2, .int ix)] := hl
  refine lv_iload_n hx hb dX4_has_0 rfl (lv_at hl 2 rfl) ?_
  refine lv_if_lt (tgt := 18) hx hb dX4_has_1 (by decide) (fun c_1 => ?_) (fun c_1 => ?_)
  · refine lv_iconst (v := 0) hx hb dX4_has_18 (by decide) ?_
    exact x_zret hQ hx hb hr hlocks hK hP hD hS rfl dX4_has_19 () (rfl) [0, 1] (by decide) rfl (Nat.le_of_ble_eq_true rfl) (Nat.le_of_ble_eq_true rfl)
  · refine lv_iload_n hx hb dX4_has_4 rfl (lv_at hl 2 rfl) ?_
    refine lv_aload_n hx hb dX4_has_5 rfl (lv_at hl 0 rfl) ?_
    refine va_get (D := D) (ci := 4) (v := .ref h1) (C := RX4) (T := TX4) (N := 16) hx hb hg i_X4 hown hK hP 0 rfl rfl 0 (by decide) (hg _ m_329) (fun _ h9 => h9) rfl dX4_has_6 ?_
    refine lv_iload_n hx hb dX4_has_9 rfl (lv_at hl 1 rfl) ?_
    refine va_iald hx hb hK hP 1 1 rfl rfl hso dX4_has_10 ?_
    refine lv_topi (fun y_1 hy_1 => ?_)
    obtain rfl : y_1 = 0 := hy_1.trans rfl
    refine lv_icmp_ge (tgt := 18) hx hb dX4_has_11 (by decide) (fun _ => ?_) (fun h => absurd (nlt_le c_1) h)
    refine lv_iconst (v := 0) hx hb dX4_has_18 (by decide) ?_
    exact x_zret hQ hx hb hr hlocks hK hP hD hS rfl dX4_has_19 () (rfl) [0, 1] (by decide) rfl (Nat.le_of_ble_eq_true rfl) (Nat.le_of_ble_eq_true rfl)
theorem dX11_isCry_0 : decode cX11_isCry 0 = .ok (.iload_n 0, 1) := by decide +kernel
theorem dX11_isCry_1 : decode cX11_isCry 1 = .ok (.ifCond .eq 8, 3) := by decide +kernel
theorem dX11_isCry_9 : decode cX11_isCry 9 = .ok (.iconst 1, 1) := by decide +kernel
theorem dX11_isCry_10 : decode cX11_isCry 10 = .ok (.goto 4, 3) := by decide +kernel
theorem dX11_isCry_14 : decode cX11_isCry 14 = .ok (.ireturn, 1) := by decide +kernel
theorem dX11_isCry_4 : decode cX11_isCry 4 = .ok (.iload_n 0, 1) := by decide +kernel
theorem dX11_isCry_5 : decode cX11_isCry 5 = .ok (.iconst 1, 1) := by decide +kernel
theorem dX11_isCry_6 : decode cX11_isCry 6 = .ok (.if_icmp .ne 7, 3) := by decide +kernel
theorem dX11_isCry_13 : decode cX11_isCry 13 = .ok (.iconst 0, 1) := by decide +kernel
set_option maxHeartbeats 400000 in
set_option maxRecDepth 100000 in
theorem c_isCry (l : Launch) (D : va_G) (cy : Nat → ClassId) (cry : Int32)  : XMi l D (tyL cy) E0 yX11_isCry cX11_isCry 1 (some .boolean) (rmk 0 0 0) [.int cry] [] (fun (r : Int32) (_ : Unit) => r = 0 ∨ cry = 0 ∨ cry = 1) (fun (_ : Unit) => []) := by
  refine XMi.start (by decide) (Nat.le_of_ble_eq_true rfl) ?_
  intro p e s m below meth c args A ls Q hat hQ
  obtain ⟨hx, hb, hr, hml, hown, hg, hlocks, hin, hK, hA, hP, hD, hS, hE, hl⟩ := hat
  have hown : s.vm.findClass RX11 = some m.cls := hown
  have hl : lv_has ls 1 [(0, .int cry)] := hl
  refine lv_iload_n hx hb dX11_isCry_0 rfl (lv_at hl 0 rfl) ?_
  refine lv_if_eq (tgt := 9) hx hb dX11_isCry_1 (by decide) (fun c_1 => ?_) (fun c_1 => ?_)
  · refine lv_iconst (v := 1) hx hb dX11_isCry_9 (by decide) ?_
    refine lv_goto (tgt := 14) hx hb dX11_isCry_10 (by decide) ?_
    exact x_zret hQ hx hb hr hlocks hK hP hD hS rfl dX11_isCry_14 () ((by first | exact Or.inr (Or.inl c_1) | exact Or.inr (Or.inr c_6))) [] (by decide) rfl (Nat.le_of_ble_eq_true rfl) (Nat.le_of_ble_eq_true rfl)
  · refine lv_iload_n hx hb dX11_isCry_4 rfl (lv_at hl 0 rfl) ?_
    refine lv_iconst (v := 1) hx hb dX11_isCry_5 (by decide) ?_
    refine lv_icmp_ne (tgt := 13) hx hb dX11_isCry_6 (by decide) (fun c_6 => ?_) (fun c_6 => ?_)
    · refine lv_iconst (v := 0) hx hb dX11_isCry_13 (by decide) ?_
      exact x_zret hQ hx hb hr hlocks hK hP hD hS rfl dX11_isCry_14 () (Or.inl rfl) [] (by decide) rfl (Nat.le_of_ble_eq_true rfl) (Nat.le_of_ble_eq_true rfl)
    · refine lv_iconst (v := 1) hx hb dX11_isCry_9 (by decide) ?_
      refine lv_goto (tgt := 14) hx hb dX11_isCry_10 (by decide) ?_
      exact x_zret hQ hx hb hr hlocks hK hP hD hS rfl dX11_isCry_14 () ((by first | exact Or.inr (Or.inl c_1) | exact Or.inr (Or.inr c_6))) [] (by decide) rfl (Nat.le_of_ble_eq_true rfl) (Nat.le_of_ble_eq_true rfl)
theorem dX11_isSought_0 : decode cX11_isSought 0 = .ok (.iload_n 0, 1) := by decide +kernel
theorem dX11_isSought_1 : decode cX11_isSought 1 = .ok (.iconst 1, 1) := by decide +kernel
theorem dX11_isSought_2 : decode cX11_isSought 2 = .ok (.if_icmp .lt 12, 3) := by decide +kernel
theorem dX11_isSought_14 : decode cX11_isSought 14 = .ok (.iconst 0, 1) := by decide +kernel
theorem dX11_isSought_15 : decode cX11_isSought 15 = .ok (.ireturn, 1) := by decide +kernel
theorem dX11_isSought_5 : decode cX11_isSought 5 = .ok (.iload_n 0, 1) := by decide +kernel
theorem dX11_isSought_6 : decode cX11_isSought 6 = .ok (.iconst 5, 1) := by decide +kernel
theorem dX11_isSought_7 : decode cX11_isSought 7 = .ok (.if_icmp .gt 7, 3) := by decide +kernel
theorem dX11_isSought_10 : decode cX11_isSought 10 = .ok (.iconst 1, 1) := by decide +kernel
theorem dX11_isSought_11 : decode cX11_isSought 11 = .ok (.goto 4, 3) := by decide +kernel
set_option maxHeartbeats 400000 in
set_option maxRecDepth 100000 in
theorem c_isSought (l : Launch) (D : va_G) (cy : Nat → ClassId) (n : Int32)  : XMi l D (tyL cy) E0 yX11_isSought cX11_isSought 1 (some .boolean) (rmk 0 0 0) [.int n] [] (fun (r : Int32) (_ : Unit) => True) (fun (_ : Unit) => []) := by
  refine XMi.start (by decide) (Nat.le_of_ble_eq_true rfl) ?_
  intro p e s m below meth c args A ls Q hat hQ
  obtain ⟨hx, hb, hr, hml, hown, hg, hlocks, hin, hK, hA, hP, hD, hS, hE, hl⟩ := hat
  have hown : s.vm.findClass RX11 = some m.cls := hown
  have hl : lv_has ls 1 [(0, .int n)] := hl
  refine lv_iload_n hx hb dX11_isSought_0 rfl (lv_at hl 0 rfl) ?_
  refine lv_iconst (v := 1) hx hb dX11_isSought_1 (by decide) ?_
  refine lv_icmp_lt (tgt := 14) hx hb dX11_isSought_2 (by decide) (fun c_2 => ?_) (fun c_2 => ?_)
  · refine lv_iconst (v := 0) hx hb dX11_isSought_14 (by decide) ?_
    exact x_zret hQ hx hb hr hlocks hK hP hD hS rfl dX11_isSought_15 () (trivial) [] (by decide) rfl (Nat.le_of_ble_eq_true rfl) (Nat.le_of_ble_eq_true rfl)
  · refine lv_iload_n hx hb dX11_isSought_5 rfl (lv_at hl 0 rfl) ?_
    refine lv_iconst (v := 5) hx hb dX11_isSought_6 (by decide) ?_
    refine lv_icmp_gt (tgt := 14) hx hb dX11_isSought_7 (by decide) (fun c_7 => ?_) (fun c_7 => ?_)
    · refine lv_iconst (v := 0) hx hb dX11_isSought_14 (by decide) ?_
      exact x_zret hQ hx hb hr hlocks hK hP hD hS rfl dX11_isSought_15 () (trivial) [] (by decide) rfl (Nat.le_of_ble_eq_true rfl) (Nat.le_of_ble_eq_true rfl)
    · refine lv_iconst (v := 1) hx hb dX11_isSought_10 (by decide) ?_
      refine lv_goto (tgt := 15) hx hb dX11_isSought_11 (by decide) ?_
      exact x_zret hQ hx hb hr hlocks hK hP hD hS rfl dX11_isSought_15 () (trivial) [] (by decide) rfl (Nat.le_of_ble_eq_true rfl) (Nat.le_of_ble_eq_true rfl)
theorem dX5_cryLength_0 : decode cX5_cryLength 0 = .ok (.aload_n 0, 1) := by decide +kernel
theorem dX5_cryLength_1 : decode cX5_cryLength 1 = .ok (.getfield 11, 3) := by decide +kernel
set_option maxRecDepth 20000 in
theorem i_X5 : ∀ w ∈ u_ws RX5 TX5 7, w ∈ gT := gin [433, 435, 437, 439, 441, 443, 445] (by decide +kernel) (by decide +kernel)
theorem m_423 : (Cond.fieldLink RX5 11 "CliffJudges$Moments" "now" "[I") ∈ gT := gm 423 (by decide +kernel) (by decide +kernel)
theorem dX5_cryLength_4 : decode cX5_cryLength 4 = .ok (.iload_n 1, 1) := by decide +kernel
theorem dX5_cryLength_5 : decode cX5_cryLength 5 = .ok (.bipush 11, 2) := by decide +kernel
theorem dX5_cryLength_7 : decode cX5_cryLength 7 = .ok (.imul, 1) := by decide +kernel
theorem dX5_cryLength_8 : decode cX5_cryLength 8 = .ok (.iaload, 1) := by decide +kernel
theorem dX5_cryLength_9 : decode cX5_cryLength 9 = .ok (.ireturn, 1) := by decide +kernel
set_option maxHeartbeats 400000 in
set_option maxRecDepth 100000 in
theorem c_cryLength (l : Launch) (D : va_G) (cy : Nat → ClassId) (n0 : Nat) (n1 : Nat) (n2 : Nat) (n3 : Nat) (z3 : Value) (z4 : Value) (z5 : Value) (z6 : Value) (cry : Int32) (hc : vp_in (cry * 11) 41) : XMi l D (tyL cy) E0 yX5_cryLength cX5_cryLength 2 (some .int) (rmk 0 0 0) [.ref n0, .int cry] [(n0, .inr (5, [.ref n1, .ref n2, .ref n3, z3, z4, z5, z6])), (n1, .inl (cy 1, 41, .inl (fun _ => 0)))] (fun (r : Int32) (_ : Unit) => r = 0) (fun (_ : Unit) => [(n0, .inr (5, [.ref n1, .ref n2, .ref n3, z3, z4, z5, z6])), (n1, .inl (cy 1, 41, .inl (fun _ => 0)))]) := by
  refine XMi.start (by decide) (Nat.le_of_ble_eq_true rfl) ?_
  intro p e s m below meth c args A ls Q hat hQ
  obtain ⟨hx, hb, hr, hml, hown, hg, hlocks, hin, hK, hA, hP, hD, hS, hE, hl⟩ := hat
  have hown : s.vm.findClass RX5 = some m.cls := hown
  have hl : lv_has ls 2 [(0, .ref n0), (1, .int cry)] := hl
  refine lv_aload_n hx hb dX5_cryLength_0 rfl (lv_at hl 0 rfl) ?_
  refine va_get (D := D) (ci := 5) (v := .ref n1) (C := RX5) (T := TX5) (N := 7) hx hb hg i_X5 hown hK hP 0 rfl rfl 0 (by decide) (hg _ m_423) (fun _ h9 => h9) rfl dX5_cryLength_1 ?_
  refine lv_iload_n hx hb dX5_cryLength_4 rfl (lv_at hl 1 rfl) ?_
  refine lv_bipush (v := 11) hx hb dX5_cryLength_5 (by decide) ?_
  refine lv_imul hx hb dX5_cryLength_7 ?_
  refine lv_topi (fun x_1 ex_1 => ?_)
  refine va_iald hx hb hK hP 1 1 rfl rfl (by rw [ex_1]; exact hc) dX5_cryLength_8 ?_
  refine lv_topi (fun y_2 hy_2 => ?_)
  obtain rfl : y_2 = 0 := hy_2.trans rfl
  exact x_iret hQ hx hb hr hlocks hK hP hD hS dX5_cryLength_9 () (rfl) [0, 1] (by decide) rfl (Nat.le_of_ble_eq_true rfl) (Nat.le_of_ble_eq_true rfl)
theorem dX11_cliff_0 : decode cX11_cliff 0 = .ok (.aload_n 0, 1) := by decide +kernel
theorem dX11_cliff_1 : decode cX11_cliff 1 = .ok (.getfield 28, 3) := by decide +kernel
set_option maxRecDepth 20000 in
theorem i_X11 : ∀ w ∈ u_ws RX11 TX11 14, w ∈ gT := gin [672, 674, 676, 678, 680, 682, 684, 686, 688, 690, 692, 694, 696, 698] (by decide +kernel) (by decide +kernel)
theorem m_660 : (Cond.fieldLink RX11 28 "CliffJudges" "told" "LCliffJudges$Hills;") ∈ gT := gm 660 (by decide +kernel) (by decide +kernel)
theorem dX11_cliff_4 : decode cX11_cliff 4 = .ok (.iconst 1, 1) := by decide +kernel
theorem dX11_cliff_5 : decode cX11_cliff 5 = .ok (.iload_n 1, 1) := by decide +kernel
theorem dX11_cliff_6 : decode cX11_cliff 6 = .ok (.invokevirtual 120, 3) := by decide +kernel
theorem m_949 : (Cond.methodLink RX11 120 yX4_has) ∈ gT := gm 949 (by decide +kernel) (by decide +kernel)
theorem m_950 : (Cond.instanceMethod yX4_has) ∈ gT := gm 950 (by decide +kernel) (by decide +kernel)
theorem m_951 : (Cond.selects RX4 yX4_has yX4_has) ∈ gT := gm 951 (by decide +kernel) (by decide +kernel)
theorem m_137 : (Cond.initialized RX4) ∈ gT := gm 137 (by decide +kernel) (by decide +kernel)
theorem m_952 : (Cond.code yX4_has cX4_has 3 (some .boolean)) ∈ gT := gm 952 (by decide +kernel) (by decide +kernel)
theorem k_X11_120 : xV RX11 RX4 120 yX4_has cX4_has 3 (some .boolean) 2 := ⟨⟨m_949, m_950, m_951, m_137, m_952⟩, rfl, by decide, by decide, by decide +kernel⟩
theorem dX11_cliff_9 : decode cX11_cliff 9 = .ok (.ifCond .ne 5, 3) := by decide +kernel
theorem dX11_cliff_12 : decode cX11_cliff 12 = .ok (.iconst (-1), 1) := by decide +kernel
theorem dX11_cliff_13 : decode cX11_cliff 13 = .ok (.ireturn, 1) := by decide +kernel
set_option maxHeartbeats 400000 in
set_option maxRecDepth 100000 in
theorem t_cliff (l : Launch) (D : va_G) (cy : Nat → ClassId) (a0 : Nat) (w0 : Value) (w1 : Value) (w3 : Value) (w4 : Value) (w5 : Value) (w6 : Value) (w7 : Value) (w8 : Value) (w9 : Value) (w10 : Value) (w11 : Value) (w12 : Value) (w13 : Value) (h0 : Nat) (h1 : Nat) (v1 : Value) (v2 : Value) (v3 : Value) (v4 : Value) (v5 : Value) (v6 : Value) (v7 : Value) (v8 : Value) (v9 : Value) (v10 : Value) (v11 : Value) (v12 : Value) (v13 : Value) (v14 : Value) (v15 : Value) (ka : Int32) (kb : Int32)  : XMi l D (tyL cy) E0 yX11_cliff cX11_cliff 3 (some .int) (rmk 2 0 0) [.ref a0, .int ka, .int kb] [(a0, .inr (11, [w0, w1, .ref h0, w3, w4, w5, w6, w7, w8, w9, w10, w11, w12, w13])), (h0, .inr (4, [.ref h1, v1, v2, v3, v4, v5, v6, v7, v8, v9, v10, v11, v12, v13, v14, v15])), (h1, .inl (cy 1, 4, .inl (fun _ => 0)))] (fun (r : Int32) (_ : Unit) => r = -1) (fun (_ : Unit) => []) := by
  refine XMi.start (by decide) (Nat.le_of_ble_eq_true rfl) ?_
  intro p e s m below meth c args A ls Q hat hQ
  obtain ⟨hx, hb, hr, hml, hown, hg, hlocks, hin, hK, hA, hP, hD, hS, hE, hl⟩ := hat
  have hown : s.vm.findClass RX11 = some m.cls := hown
  have hl : lv_has ls 3 [(0, .ref a0), (1, .int ka), (2, .int kb)] := hl
  refine lv_aload_n hx hb dX11_cliff_0 rfl (lv_at hl 0 rfl) ?_
  refine va_get (D := D) (ci := 11) (v := .ref h0) (C := RX11) (T := TX11) (N := 14) hx hb hg i_X11 hown hK hP 0 rfl rfl 2 (by decide) (hg _ m_660) (fun _ h9 => h9) rfl dX11_cliff_1 ?_
  refine lv_iconst (v := 1) hx hb dX11_cliff_4 (by decide) ?_
  refine lv_iload_n hx hb dX11_cliff_5 rfl (lv_at hl 1 rfl) ?_
  refine x_callVi (q := (RX4, TX4, 16)) (ci := 4) (q0 := 0) (wr := [(a0, .inr (11, [w0, w1, .ref h0, w3, w4, w5, w6, w7, w8, w9, w10, w11, w12, w13]))]) (rest := []) ⟨hx, hb, hml, hown, hg, hl.1⟩ k_X11_120 (c_has l D cy h0 h1 v1 v2 v3 v4 v5 v6 v7 v8 v9 v10 v11 v12 v13 v14 v15 1 ka (by unfold vp_in; decide)) E0_blind hK hP hD hS hA [1, 2] [0] ⟨rfl, rfl, by decide, by decide, by decide⟩ rfl rfl (fun _ _ _ => trivial) dX11_cliff_6 rfl rfl (Nat.le_of_ble_eq_true rfl) ⟨Nat.le_of_ble_eq_true rfl, Nat.le_of_ble_eq_true rfl⟩ ⟨Nat.le_of_ble_eq_true rfl, Nat.le_of_ble_eq_true rfl⟩ (fun r1 u1 H locs hw1 hP hD hS => ?_)
  have hP : va_P D vwCl [(a0, .inr (11, [w0, w1, .ref h0, w3, w4, w5, w6, w7, w8, w9, w10, w11, w12, w13])), (h0, .inr (4, [.ref h1, v1, v2, v3, v4, v5, v6, v7, v8, v9, v10, v11, v12, v13, v14, v15])), (h1, .inl (cy 1, 4, .inl (fun _ => 0)))] H := hP
  have hD : va_D A [(a0, .inr (11, [w0, w1, .ref h0, w3, w4, w5, w6, w7, w8, w9, w10, w11, w12, w13])), (h0, .inr (4, [.ref h1, v1, v2, v3, v4, v5, v6, v7, v8, v9, v10, v11, v12, v13, v14, v15])), (h1, .inl (cy 1, 4, .inl (fun _ => 0)))] := hD
  refine W.widen (k := 0) (n := 0) (Nat.le_of_ble_eq_true rfl) (Nat.le_of_ble_eq_true rfl) ?_
  have hw1 : r1 = 0 := hw1
  subst hw1
  refine lv_if_ne (tgt := 14) hx hb dX11_cliff_9 (by decide) (fun h => absurd (by decide) h) (fun _ => ?_)
  refine lv_iconst (v := -1) hx hb dX11_cliff_12 (by decide) ?_
  exact x_iret hQ hx hb hr hlocks hK hP hD hS dX11_cliff_13 () (rfl) [] (by decide) rfl (Nat.le_of_ble_eq_true rfl) (Nat.le_of_ble_eq_true rfl)
theorem dX11_man_0 : decode cX11_man 0 = .ok (.aload_n 0, 1) := by decide +kernel
theorem dX11_man_1 : decode cX11_man 1 = .ok (.getfield 28, 3) := by decide +kernel
theorem dX11_man_4 : decode cX11_man 4 = .ok (.iconst 2, 1) := by decide +kernel
theorem dX11_man_5 : decode cX11_man 5 = .ok (.iload_n 1, 1) := by decide +kernel
theorem dX11_man_6 : decode cX11_man 6 = .ok (.invokevirtual 120, 3) := by decide +kernel
theorem dX11_man_9 : decode cX11_man 9 = .ok (.ifCond .ne 5, 3) := by decide +kernel
theorem dX11_man_12 : decode cX11_man 12 = .ok (.iconst (-1), 1) := by decide +kernel
theorem dX11_man_13 : decode cX11_man 13 = .ok (.ireturn, 1) := by decide +kernel
set_option maxHeartbeats 400000 in
set_option maxRecDepth 100000 in
theorem t_man (l : Launch) (D : va_G) (cy : Nat → ClassId) (a0 : Nat) (w0 : Value) (w1 : Value) (w3 : Value) (w4 : Value) (w5 : Value) (w6 : Value) (w7 : Value) (w8 : Value) (w9 : Value) (w10 : Value) (w11 : Value) (w12 : Value) (w13 : Value) (h0 : Nat) (h1 : Nat) (v1 : Value) (v2 : Value) (v3 : Value) (v4 : Value) (v5 : Value) (v6 : Value) (v7 : Value) (v8 : Value) (v9 : Value) (v10 : Value) (v11 : Value) (v12 : Value) (v13 : Value) (v14 : Value) (v15 : Value) (ka : Int32) (kb : Int32)  : XMi l D (tyL cy) E0 yX11_man cX11_man 3 (some .int) (rmk 2 0 0) [.ref a0, .int ka, .int kb] [(a0, .inr (11, [w0, w1, .ref h0, w3, w4, w5, w6, w7, w8, w9, w10, w11, w12, w13])), (h0, .inr (4, [.ref h1, v1, v2, v3, v4, v5, v6, v7, v8, v9, v10, v11, v12, v13, v14, v15])), (h1, .inl (cy 1, 4, .inl (fun _ => 0)))] (fun (r : Int32) (_ : Unit) => r = -1) (fun (_ : Unit) => []) := by
  refine XMi.start (by decide) (Nat.le_of_ble_eq_true rfl) ?_
  intro p e s m below meth c args A ls Q hat hQ
  obtain ⟨hx, hb, hr, hml, hown, hg, hlocks, hin, hK, hA, hP, hD, hS, hE, hl⟩ := hat
  have hown : s.vm.findClass RX11 = some m.cls := hown
  have hl : lv_has ls 3 [(0, .ref a0), (1, .int ka), (2, .int kb)] := hl
  refine lv_aload_n hx hb dX11_man_0 rfl (lv_at hl 0 rfl) ?_
  refine va_get (D := D) (ci := 11) (v := .ref h0) (C := RX11) (T := TX11) (N := 14) hx hb hg i_X11 hown hK hP 0 rfl rfl 2 (by decide) (hg _ m_660) (fun _ h9 => h9) rfl dX11_man_1 ?_
  refine lv_iconst (v := 2) hx hb dX11_man_4 (by decide) ?_
  refine lv_iload_n hx hb dX11_man_5 rfl (lv_at hl 1 rfl) ?_
  refine x_callVi (q := (RX4, TX4, 16)) (ci := 4) (q0 := 0) (wr := [(a0, .inr (11, [w0, w1, .ref h0, w3, w4, w5, w6, w7, w8, w9, w10, w11, w12, w13]))]) (rest := []) ⟨hx, hb, hml, hown, hg, hl.1⟩ k_X11_120 (c_has l D cy h0 h1 v1 v2 v3 v4 v5 v6 v7 v8 v9 v10 v11 v12 v13 v14 v15 2 ka (by unfold vp_in; decide)) E0_blind hK hP hD hS hA [1, 2] [0] ⟨rfl, rfl, by decide, by decide, by decide⟩ rfl rfl (fun _ _ _ => trivial) dX11_man_6 rfl rfl (Nat.le_of_ble_eq_true rfl) ⟨Nat.le_of_ble_eq_true rfl, Nat.le_of_ble_eq_true rfl⟩ ⟨Nat.le_of_ble_eq_true rfl, Nat.le_of_ble_eq_true rfl⟩ (fun r1 u1 H locs hw1 hP hD hS => ?_)
  have hP : va_P D vwCl [(a0, .inr (11, [w0, w1, .ref h0, w3, w4, w5, w6, w7, w8, w9, w10, w11, w12, w13])), (h0, .inr (4, [.ref h1, v1, v2, v3, v4, v5, v6, v7, v8, v9, v10, v11, v12, v13, v14, v15])), (h1, .inl (cy 1, 4, .inl (fun _ => 0)))] H := hP
  have hD : va_D A [(a0, .inr (11, [w0, w1, .ref h0, w3, w4, w5, w6, w7, w8, w9, w10, w11, w12, w13])), (h0, .inr (4, [.ref h1, v1, v2, v3, v4, v5, v6, v7, v8, v9, v10, v11, v12, v13, v14, v15])), (h1, .inl (cy 1, 4, .inl (fun _ => 0)))] := hD
  refine W.widen (k := 0) (n := 0) (Nat.le_of_ble_eq_true rfl) (Nat.le_of_ble_eq_true rfl) ?_
  have hw1 : r1 = 0 := hw1
  subst hw1
  refine lv_if_ne (tgt := 14) hx hb dX11_man_9 (by decide) (fun h => absurd (by decide) h) (fun _ => ?_)
  refine lv_iconst (v := -1) hx hb dX11_man_12 (by decide) ?_
  exact x_iret hQ hx hb hr hlocks hK hP hD hS dX11_man_13 () (rfl) [] (by decide) rfl (Nat.le_of_ble_eq_true rfl) (Nat.le_of_ble_eq_true rfl)
theorem dX11_leads_0 : decode cX11_leads 0 = .ok (.aload_n 0, 1) := by decide +kernel
theorem dX11_leads_1 : decode cX11_leads 1 = .ok (.getfield 28, 3) := by decide +kernel
theorem dX11_leads_4 : decode cX11_leads 4 = .ok (.iconst 3, 1) := by decide +kernel
theorem dX11_leads_5 : decode cX11_leads 5 = .ok (.iload_n 1, 1) := by decide +kernel
theorem dX11_leads_6 : decode cX11_leads 6 = .ok (.invokevirtual 120, 3) := by decide +kernel
theorem dX11_leads_9 : decode cX11_leads 9 = .ok (.ifCond .eq 15, 3) := by decide +kernel
theorem dX11_leads_24 : decode cX11_leads 24 = .ok (.iconst (-1), 1) := by decide +kernel
theorem dX11_leads_25 : decode cX11_leads 25 = .ok (.ireturn, 1) := by decide +kernel
set_option maxHeartbeats 400000 in
set_option maxRecDepth 100000 in
theorem t_leads (l : Launch) (D : va_G) (cy : Nat → ClassId) (a0 : Nat) (w0 : Value) (w1 : Value) (w3 : Value) (w4 : Value) (w5 : Value) (w6 : Value) (w7 : Value) (w8 : Value) (w9 : Value) (w10 : Value) (w11 : Value) (w12 : Value) (w13 : Value) (h0 : Nat) (h1 : Nat) (v1 : Value) (v2 : Value) (v3 : Value) (v4 : Value) (v5 : Value) (v6 : Value) (v7 : Value) (v8 : Value) (v9 : Value) (v10 : Value) (v11 : Value) (v12 : Value) (v13 : Value) (v14 : Value) (v15 : Value) (ka : Int32) (kb : Int32)  : XMi l D (tyL cy) E0 yX11_leads cX11_leads 3 (some .int) (rmk 2 0 0) [.ref a0, .int ka, .int kb] [(a0, .inr (11, [w0, w1, .ref h0, w3, w4, w5, w6, w7, w8, w9, w10, w11, w12, w13])), (h0, .inr (4, [.ref h1, v1, v2, v3, v4, v5, v6, v7, v8, v9, v10, v11, v12, v13, v14, v15])), (h1, .inl (cy 1, 4, .inl (fun _ => 0)))] (fun (r : Int32) (_ : Unit) => r = -1) (fun (_ : Unit) => []) := by
  refine XMi.start (by decide) (Nat.le_of_ble_eq_true rfl) ?_
  intro p e s m below meth c args A ls Q hat hQ
  obtain ⟨hx, hb, hr, hml, hown, hg, hlocks, hin, hK, hA, hP, hD, hS, hE, hl⟩ := hat
  have hown : s.vm.findClass RX11 = some m.cls := hown
  have hl : lv_has ls 3 [(0, .ref a0), (1, .int ka), (2, .int kb)] := hl
  refine lv_aload_n hx hb dX11_leads_0 rfl (lv_at hl 0 rfl) ?_
  refine va_get (D := D) (ci := 11) (v := .ref h0) (C := RX11) (T := TX11) (N := 14) hx hb hg i_X11 hown hK hP 0 rfl rfl 2 (by decide) (hg _ m_660) (fun _ h9 => h9) rfl dX11_leads_1 ?_
  refine lv_iconst (v := 3) hx hb dX11_leads_4 (by decide) ?_
  refine lv_iload_n hx hb dX11_leads_5 rfl (lv_at hl 1 rfl) ?_
  refine x_callVi (q := (RX4, TX4, 16)) (ci := 4) (q0 := 0) (wr := [(a0, .inr (11, [w0, w1, .ref h0, w3, w4, w5, w6, w7, w8, w9, w10, w11, w12, w13]))]) (rest := []) ⟨hx, hb, hml, hown, hg, hl.1⟩ k_X11_120 (c_has l D cy h0 h1 v1 v2 v3 v4 v5 v6 v7 v8 v9 v10 v11 v12 v13 v14 v15 3 ka (by unfold vp_in; decide)) E0_blind hK hP hD hS hA [1, 2] [0] ⟨rfl, rfl, by decide, by decide, by decide⟩ rfl rfl (fun _ _ _ => trivial) dX11_leads_6 rfl rfl (Nat.le_of_ble_eq_true rfl) ⟨Nat.le_of_ble_eq_true rfl, Nat.le_of_ble_eq_true rfl⟩ ⟨Nat.le_of_ble_eq_true rfl, Nat.le_of_ble_eq_true rfl⟩ (fun r1 u1 H locs hw1 hP hD hS => ?_)
  have hP : va_P D vwCl [(a0, .inr (11, [w0, w1, .ref h0, w3, w4, w5, w6, w7, w8, w9, w10, w11, w12, w13])), (h0, .inr (4, [.ref h1, v1, v2, v3, v4, v5, v6, v7, v8, v9, v10, v11, v12, v13, v14, v15])), (h1, .inl (cy 1, 4, .inl (fun _ => 0)))] H := hP
  have hD : va_D A [(a0, .inr (11, [w0, w1, .ref h0, w3, w4, w5, w6, w7, w8, w9, w10, w11, w12, w13])), (h0, .inr (4, [.ref h1, v1, v2, v3, v4, v5, v6, v7, v8, v9, v10, v11, v12, v13, v14, v15])), (h1, .inl (cy 1, 4, .inl (fun _ => 0)))] := hD
  refine W.widen (k := 0) (n := 0) (Nat.le_of_ble_eq_true rfl) (Nat.le_of_ble_eq_true rfl) ?_
  have hw1 : r1 = 0 := hw1
  subst hw1
  refine lv_if_eq (tgt := 24) hx hb dX11_leads_9 (by decide) (fun _ => ?_) (fun h => absurd (by decide) h)
  refine lv_iconst (v := -1) hx hb dX11_leads_24 (by decide) ?_
  exact x_iret hQ hx hb hr hlocks hK hP hD hS dX11_leads_25 () (rfl) [] (by decide) rfl (Nat.le_of_ble_eq_true rfl) (Nat.le_of_ble_eq_true rfl)
theorem dX11_say_0 : decode cX11_say 0 = .ok (.iload_n 1, 1) := by decide +kernel
theorem dX11_say_1 : decode cX11_say 1 = .ok (.invokestatic 143, 3) := by decide +kernel
theorem m_969 : (Cond.methodLink RX11 143 yX11_isCry) ∈ gT := gm 969 (by decide +kernel) (by decide +kernel)
theorem m_970 : (Cond.static yX11_isCry) ∈ gT := gm 970 (by decide +kernel) (by decide +kernel)
theorem m_130 : (Cond.initialized RX11) ∈ gT := gm 130 (by decide +kernel) (by decide +kernel)
theorem m_971 : (Cond.code yX11_isCry cX11_isCry 1 (some .boolean)) ∈ gT := gm 971 (by decide +kernel) (by decide +kernel)
theorem k_X11_143 : xS RX11 143 yX11_isCry cX11_isCry 1 (some .boolean) 1 := ⟨⟨m_969, m_970, m_130, m_971⟩, by decide, by decide, by decide +kernel⟩
theorem dX11_say_4 : decode cX11_say 4 = .ok (.ifCond .eq 28, 3) := by decide +kernel
theorem dX11_say_32 : decode cX11_say 32 = .ok (.iconst (-1), 1) := by decide +kernel
theorem dX11_say_33 : decode cX11_say 33 = .ok (.ireturn, 1) := by decide +kernel
theorem dX11_say_7 : decode cX11_say 7 = .ok (.aload_n 0, 1) := by decide +kernel
theorem dX11_say_8 : decode cX11_say 8 = .ok (.getfield 28, 3) := by decide +kernel
theorem dX11_say_11 : decode cX11_say 11 = .ok (.iconst 0, 1) := by decide +kernel
theorem dX11_say_12 : decode cX11_say 12 = .ok (.iload_n 2, 1) := by decide +kernel
theorem dX11_say_13 : decode cX11_say 13 = .ok (.invokevirtual 120, 3) := by decide +kernel
theorem dX11_say_16 : decode cX11_say 16 = .ok (.ifCond .eq 16, 3) := by decide +kernel
set_option maxHeartbeats 400000 in
set_option maxRecDepth 100000 in
theorem t_say (l : Launch) (D : va_G) (cy : Nat → ClassId) (a0 : Nat) (w0 : Value) (w1 : Value) (w3 : Value) (w4 : Value) (w5 : Value) (w6 : Value) (w7 : Value) (w8 : Value) (w9 : Value) (w10 : Value) (w11 : Value) (w12 : Value) (w13 : Value) (h0 : Nat) (h1 : Nat) (v1 : Value) (v2 : Value) (v3 : Value) (v4 : Value) (v5 : Value) (v6 : Value) (v7 : Value) (v8 : Value) (v9 : Value) (v10 : Value) (v11 : Value) (v12 : Value) (v13 : Value) (v14 : Value) (v15 : Value) (ka : Int32) (kb : Int32)  : XMi l D (tyL cy) E0 yX11_say cX11_say 3 (some .int) (rmk 2 0 0) [.ref a0, .int ka, .int kb] [(a0, .inr (11, [w0, w1, .ref h0, w3, w4, w5, w6, w7, w8, w9, w10, w11, w12, w13])), (h0, .inr (4, [.ref h1, v1, v2, v3, v4, v5, v6, v7, v8, v9, v10, v11, v12, v13, v14, v15])), (h1, .inl (cy 1, 4, .inl (fun _ => 0)))] (fun (r : Int32) (_ : Unit) => r = -1) (fun (_ : Unit) => []) := by
  refine XMi.start (by decide) (Nat.le_of_ble_eq_true rfl) ?_
  intro p e s m below meth c args A ls Q hat hQ
  obtain ⟨hx, hb, hr, hml, hown, hg, hlocks, hin, hK, hA, hP, hD, hS, hE, hl⟩ := hat
  have hown : s.vm.findClass RX11 = some m.cls := hown
  have hl : lv_has ls 3 [(0, .ref a0), (1, .int ka), (2, .int kb)] := hl
  refine lv_iload_n hx hb dX11_say_0 rfl (lv_at hl 1 rfl) ?_
  refine x_callSi (wr := [(a0, .inr (11, [w0, w1, .ref h0, w3, w4, w5, w6, w7, w8, w9, w10, w11, w12, w13])), (h0, .inr (4, [.ref h1, v1, v2, v3, v4, v5, v6, v7, v8, v9, v10, v11, v12, v13, v14, v15])), (h1, .inl (cy 1, 4, .inl (fun _ => 0)))]) (rest := []) ⟨hx, hb, hml, hown, hg, hl.1⟩ k_X11_143 (c_isCry l D cy ka) E0_blind hK hP hD hS hA [] [0, 1, 2] ⟨rfl, rfl, by decide, by decide, by decide⟩ (fun _ _ _ => trivial) dX11_say_1 rfl rfl (Nat.le_of_ble_eq_true rfl) ⟨Nat.le_of_ble_eq_true rfl, Nat.le_of_ble_eq_true rfl⟩ ⟨Nat.le_of_ble_eq_true rfl, Nat.le_of_ble_eq_true rfl⟩ (fun r1 u1 H locs hw1 hP hD hS => ?_)
  have hP : va_P D vwCl [(a0, .inr (11, [w0, w1, .ref h0, w3, w4, w5, w6, w7, w8, w9, w10, w11, w12, w13])), (h0, .inr (4, [.ref h1, v1, v2, v3, v4, v5, v6, v7, v8, v9, v10, v11, v12, v13, v14, v15])), (h1, .inl (cy 1, 4, .inl (fun _ => 0)))] H := hP
  have hD : va_D A [(a0, .inr (11, [w0, w1, .ref h0, w3, w4, w5, w6, w7, w8, w9, w10, w11, w12, w13])), (h0, .inr (4, [.ref h1, v1, v2, v3, v4, v5, v6, v7, v8, v9, v10, v11, v12, v13, v14, v15])), (h1, .inl (cy 1, 4, .inl (fun _ => 0)))] := hD
  refine W.widen (k := 0) (n := 0) (Nat.le_of_ble_eq_true rfl) (Nat.le_of_ble_eq_true rfl) ?_
  have hw1 : r1 = 0 ∨ ka = 0 ∨ ka = 1 := hw1
  refine lv_if_eq (tgt := 32) hx hb dX11_say_4 (by decide) (fun c_4 => ?_) (fun c_4 => ?_)
  · refine lv_iconst (v := -1) hx hb dX11_say_32 (by decide) ?_
    exact x_iret hQ hx hb hr hlocks hK hP hD hS dX11_say_33 () (rfl) [] (by decide) rfl (Nat.le_of_ble_eq_true rfl) (Nat.le_of_ble_eq_true rfl)
  · refine lv_aload_n hx hb dX11_say_7 rfl (lv_at hl 0 rfl) ?_
    refine va_get (D := D) (ci := 11) (v := .ref h0) (C := RX11) (T := TX11) (N := 14) hx hb hg i_X11 hown hK hP 0 rfl rfl 2 (by decide) (hg _ m_660) (fun _ h9 => h9) rfl dX11_say_8 ?_
    refine lv_iconst (v := 0) hx hb dX11_say_11 (by decide) ?_
    refine lv_iload_n hx hb dX11_say_12 rfl (lv_at hl 2 rfl) ?_
    refine x_callVi (q := (RX4, TX4, 16)) (ci := 4) (q0 := 0) (wr := [(a0, .inr (11, [w0, w1, .ref h0, w3, w4, w5, w6, w7, w8, w9, w10, w11, w12, w13]))]) (rest := []) ⟨hx, hb, hml, hown, hg, hl.1⟩ k_X11_120 (c_has l D cy h0 h1 v1 v2 v3 v4 v5 v6 v7 v8 v9 v10 v11 v12 v13 v14 v15 0 kb (by unfold vp_in; decide)) E0_blind hK hP hD hS hA [1, 2] [0] ⟨rfl, rfl, by decide, by decide, by decide⟩ rfl rfl (fun _ _ _ => trivial) dX11_say_13 rfl rfl (Nat.le_of_ble_eq_true rfl) ⟨Nat.le_of_ble_eq_true rfl, Nat.le_of_ble_eq_true rfl⟩ ⟨Nat.le_of_ble_eq_true rfl, Nat.le_of_ble_eq_true rfl⟩ (fun r2 u2 H locs hw2 hP hD hS => ?_)
    have hP : va_P D vwCl [(a0, .inr (11, [w0, w1, .ref h0, w3, w4, w5, w6, w7, w8, w9, w10, w11, w12, w13])), (h0, .inr (4, [.ref h1, v1, v2, v3, v4, v5, v6, v7, v8, v9, v10, v11, v12, v13, v14, v15])), (h1, .inl (cy 1, 4, .inl (fun _ => 0)))] H := hP
    have hD : va_D A [(a0, .inr (11, [w0, w1, .ref h0, w3, w4, w5, w6, w7, w8, w9, w10, w11, w12, w13])), (h0, .inr (4, [.ref h1, v1, v2, v3, v4, v5, v6, v7, v8, v9, v10, v11, v12, v13, v14, v15])), (h1, .inl (cy 1, 4, .inl (fun _ => 0)))] := hD
    refine W.widen (k := 0) (n := 0) (Nat.le_of_ble_eq_true rfl) (Nat.le_of_ble_eq_true rfl) ?_
    have hw2 : r2 = 0 := hw2
    subst hw2
    refine lv_if_eq (tgt := 32) hx hb dX11_say_16 (by decide) (fun _ => ?_) (fun h => absurd (by decide) h)
    refine lv_iconst (v := -1) hx hb dX11_say_32 (by decide) ?_
    exact x_iret hQ hx hb hr hlocks hK hP hD hS dX11_say_33 () (rfl) [] (by decide) rfl (Nat.le_of_ble_eq_true rfl) (Nat.le_of_ble_eq_true rfl)
theorem dX11_call_0 : decode cX11_call 0 = .ok (.aload_n 0, 1) := by decide +kernel
theorem dX11_call_1 : decode cX11_call 1 = .ok (.getfield 28, 3) := by decide +kernel
theorem dX11_call_4 : decode cX11_call 4 = .ok (.iconst 2, 1) := by decide +kernel
theorem dX11_call_5 : decode cX11_call 5 = .ok (.iload_n 1, 1) := by decide +kernel
theorem dX11_call_6 : decode cX11_call 6 = .ok (.invokevirtual 120, 3) := by decide +kernel
theorem dX11_call_9 : decode cX11_call 9 = .ok (.ifCond .ne 5, 3) := by decide +kernel
theorem dX11_call_12 : decode cX11_call 12 = .ok (.iconst (-1), 1) := by decide +kernel
theorem dX11_call_13 : decode cX11_call 13 = .ok (.ireturn, 1) := by decide +kernel
set_option maxHeartbeats 400000 in
set_option maxRecDepth 100000 in
theorem t_call (l : Launch) (D : va_G) (cy : Nat → ClassId) (a0 : Nat) (w0 : Value) (w1 : Value) (w3 : Value) (w4 : Value) (w5 : Value) (w6 : Value) (w7 : Value) (w8 : Value) (w9 : Value) (w10 : Value) (w11 : Value) (w12 : Value) (w13 : Value) (h0 : Nat) (h1 : Nat) (v1 : Value) (v2 : Value) (v3 : Value) (v4 : Value) (v5 : Value) (v6 : Value) (v7 : Value) (v8 : Value) (v9 : Value) (v10 : Value) (v11 : Value) (v12 : Value) (v13 : Value) (v14 : Value) (v15 : Value) (ka : Int32)  : XMi l D (tyL cy) E0 yX11_call cX11_call 3 (some .int) (rmk 2 0 0) [.ref a0, .int ka] [(a0, .inr (11, [w0, w1, .ref h0, w3, w4, w5, w6, w7, w8, w9, w10, w11, w12, w13])), (h0, .inr (4, [.ref h1, v1, v2, v3, v4, v5, v6, v7, v8, v9, v10, v11, v12, v13, v14, v15])), (h1, .inl (cy 1, 4, .inl (fun _ => 0)))] (fun (r : Int32) (_ : Unit) => r = -1) (fun (_ : Unit) => []) := by
  refine XMi.start (by decide) (Nat.le_of_ble_eq_true rfl) ?_
  intro p e s m below meth c args A ls Q hat hQ
  obtain ⟨hx, hb, hr, hml, hown, hg, hlocks, hin, hK, hA, hP, hD, hS, hE, hl⟩ := hat
  have hown : s.vm.findClass RX11 = some m.cls := hown
  have hl : lv_has ls 3 [(0, .ref a0), (1, .int ka)] := hl
  refine lv_aload_n hx hb dX11_call_0 rfl (lv_at hl 0 rfl) ?_
  refine va_get (D := D) (ci := 11) (v := .ref h0) (C := RX11) (T := TX11) (N := 14) hx hb hg i_X11 hown hK hP 0 rfl rfl 2 (by decide) (hg _ m_660) (fun _ h9 => h9) rfl dX11_call_1 ?_
  refine lv_iconst (v := 2) hx hb dX11_call_4 (by decide) ?_
  refine lv_iload_n hx hb dX11_call_5 rfl (lv_at hl 1 rfl) ?_
  refine x_callVi (q := (RX4, TX4, 16)) (ci := 4) (q0 := 0) (wr := [(a0, .inr (11, [w0, w1, .ref h0, w3, w4, w5, w6, w7, w8, w9, w10, w11, w12, w13]))]) (rest := []) ⟨hx, hb, hml, hown, hg, hl.1⟩ k_X11_120 (c_has l D cy h0 h1 v1 v2 v3 v4 v5 v6 v7 v8 v9 v10 v11 v12 v13 v14 v15 2 ka (by unfold vp_in; decide)) E0_blind hK hP hD hS hA [1, 2] [0] ⟨rfl, rfl, by decide, by decide, by decide⟩ rfl rfl (fun _ _ _ => trivial) dX11_call_6 rfl rfl (Nat.le_of_ble_eq_true rfl) ⟨Nat.le_of_ble_eq_true rfl, Nat.le_of_ble_eq_true rfl⟩ ⟨Nat.le_of_ble_eq_true rfl, Nat.le_of_ble_eq_true rfl⟩ (fun r1 u1 H locs hw1 hP hD hS => ?_)
  have hP : va_P D vwCl [(a0, .inr (11, [w0, w1, .ref h0, w3, w4, w5, w6, w7, w8, w9, w10, w11, w12, w13])), (h0, .inr (4, [.ref h1, v1, v2, v3, v4, v5, v6, v7, v8, v9, v10, v11, v12, v13, v14, v15])), (h1, .inl (cy 1, 4, .inl (fun _ => 0)))] H := hP
  have hD : va_D A [(a0, .inr (11, [w0, w1, .ref h0, w3, w4, w5, w6, w7, w8, w9, w10, w11, w12, w13])), (h0, .inr (4, [.ref h1, v1, v2, v3, v4, v5, v6, v7, v8, v9, v10, v11, v12, v13, v14, v15])), (h1, .inl (cy 1, 4, .inl (fun _ => 0)))] := hD
  refine W.widen (k := 0) (n := 0) (Nat.le_of_ble_eq_true rfl) (Nat.le_of_ble_eq_true rfl) ?_
  have hw1 : r1 = 0 := hw1
  subst hw1
  refine lv_if_ne (tgt := 14) hx hb dX11_call_9 (by decide) (fun h => absurd (by decide) h) (fun _ => ?_)
  refine lv_iconst (v := -1) hx hb dX11_call_12 (by decide) ?_
  exact x_iret hQ hx hb hr hlocks hK hP hD hS dX11_call_13 () (rfl) [] (by decide) rfl (Nat.le_of_ble_eq_true rfl) (Nat.le_of_ble_eq_true rfl)
theorem dX11_sweep_0 : decode cX11_sweep 0 = .ok (.aload_n 0, 1) := by decide +kernel
theorem dX11_sweep_1 : decode cX11_sweep 1 = .ok (.getfield 28, 3) := by decide +kernel
theorem dX11_sweep_4 : decode cX11_sweep 4 = .ok (.iconst 1, 1) := by decide +kernel
theorem dX11_sweep_5 : decode cX11_sweep 5 = .ok (.iload_n 1, 1) := by decide +kernel
theorem dX11_sweep_6 : decode cX11_sweep 6 = .ok (.invokevirtual 120, 3) := by decide +kernel
theorem dX11_sweep_9 : decode cX11_sweep 9 = .ok (.ifCond .ne 5, 3) := by decide +kernel
theorem dX11_sweep_12 : decode cX11_sweep 12 = .ok (.iconst (-1), 1) := by decide +kernel
theorem dX11_sweep_13 : decode cX11_sweep 13 = .ok (.ireturn, 1) := by decide +kernel
set_option maxHeartbeats 400000 in
set_option maxRecDepth 100000 in
theorem t_sweep (l : Launch) (D : va_G) (cy : Nat → ClassId) (a0 : Nat) (w0 : Value) (w1 : Value) (w3 : Value) (w4 : Value) (w5 : Value) (w6 : Value) (w7 : Value) (w8 : Value) (w9 : Value) (w10 : Value) (w11 : Value) (w12 : Value) (w13 : Value) (h0 : Nat) (h1 : Nat) (v1 : Value) (v2 : Value) (v3 : Value) (v4 : Value) (v5 : Value) (v6 : Value) (v7 : Value) (v8 : Value) (v9 : Value) (v10 : Value) (v11 : Value) (v12 : Value) (v13 : Value) (v14 : Value) (v15 : Value) (ka : Int32)  : XMi l D (tyL cy) E0 yX11_sweep cX11_sweep 2 (some .int) (rmk 2 0 0) [.ref a0, .int ka] [(a0, .inr (11, [w0, w1, .ref h0, w3, w4, w5, w6, w7, w8, w9, w10, w11, w12, w13])), (h0, .inr (4, [.ref h1, v1, v2, v3, v4, v5, v6, v7, v8, v9, v10, v11, v12, v13, v14, v15])), (h1, .inl (cy 1, 4, .inl (fun _ => 0)))] (fun (r : Int32) (_ : Unit) => r = -1) (fun (_ : Unit) => []) := by
  refine XMi.start (by decide) (Nat.le_of_ble_eq_true rfl) ?_
  intro p e s m below meth c args A ls Q hat hQ
  obtain ⟨hx, hb, hr, hml, hown, hg, hlocks, hin, hK, hA, hP, hD, hS, hE, hl⟩ := hat
  have hown : s.vm.findClass RX11 = some m.cls := hown
  have hl : lv_has ls 2 [(0, .ref a0), (1, .int ka)] := hl
  refine lv_aload_n hx hb dX11_sweep_0 rfl (lv_at hl 0 rfl) ?_
  refine va_get (D := D) (ci := 11) (v := .ref h0) (C := RX11) (T := TX11) (N := 14) hx hb hg i_X11 hown hK hP 0 rfl rfl 2 (by decide) (hg _ m_660) (fun _ h9 => h9) rfl dX11_sweep_1 ?_
  refine lv_iconst (v := 1) hx hb dX11_sweep_4 (by decide) ?_
  refine lv_iload_n hx hb dX11_sweep_5 rfl (lv_at hl 1 rfl) ?_
  refine x_callVi (q := (RX4, TX4, 16)) (ci := 4) (q0 := 0) (wr := [(a0, .inr (11, [w0, w1, .ref h0, w3, w4, w5, w6, w7, w8, w9, w10, w11, w12, w13]))]) (rest := []) ⟨hx, hb, hml, hown, hg, hl.1⟩ k_X11_120 (c_has l D cy h0 h1 v1 v2 v3 v4 v5 v6 v7 v8 v9 v10 v11 v12 v13 v14 v15 1 ka (by unfold vp_in; decide)) E0_blind hK hP hD hS hA [1, 2] [0] ⟨rfl, rfl, by decide, by decide, by decide⟩ rfl rfl (fun _ _ _ => trivial) dX11_sweep_6 rfl rfl (Nat.le_of_ble_eq_true rfl) ⟨Nat.le_of_ble_eq_true rfl, Nat.le_of_ble_eq_true rfl⟩ ⟨Nat.le_of_ble_eq_true rfl, Nat.le_of_ble_eq_true rfl⟩ (fun r1 u1 H locs hw1 hP hD hS => ?_)
  have hP : va_P D vwCl [(a0, .inr (11, [w0, w1, .ref h0, w3, w4, w5, w6, w7, w8, w9, w10, w11, w12, w13])), (h0, .inr (4, [.ref h1, v1, v2, v3, v4, v5, v6, v7, v8, v9, v10, v11, v12, v13, v14, v15])), (h1, .inl (cy 1, 4, .inl (fun _ => 0)))] H := hP
  have hD : va_D A [(a0, .inr (11, [w0, w1, .ref h0, w3, w4, w5, w6, w7, w8, w9, w10, w11, w12, w13])), (h0, .inr (4, [.ref h1, v1, v2, v3, v4, v5, v6, v7, v8, v9, v10, v11, v12, v13, v14, v15])), (h1, .inl (cy 1, 4, .inl (fun _ => 0)))] := hD
  refine W.widen (k := 0) (n := 0) (Nat.le_of_ble_eq_true rfl) (Nat.le_of_ble_eq_true rfl) ?_
  have hw1 : r1 = 0 := hw1
  subst hw1
  refine lv_if_ne (tgt := 14) hx hb dX11_sweep_9 (by decide) (fun h => absurd (by decide) h) (fun _ => ?_)
  refine lv_iconst (v := -1) hx hb dX11_sweep_12 (by decide) ?_
  exact x_iret hQ hx hb hr hlocks hK hP hD hS dX11_sweep_13 () (rfl) [] (by decide) rfl (Nat.le_of_ble_eq_true rfl) (Nat.le_of_ble_eq_true rfl)
theorem dX11_echo_0 : decode cX11_echo 0 = .ok (.aload_n 0, 1) := by decide +kernel
theorem dX11_echo_1 : decode cX11_echo 1 = .ok (.iconst 0, 1) := by decide +kernel
theorem dX11_echo_2 : decode cX11_echo 2 = .ok (.putfield 89, 3) := by decide +kernel
theorem m_671 : (Cond.fieldLink RX11 89 "CliffJudges" "lyingCount" "I") ∈ gT := gm 671 (by decide +kernel) (by decide +kernel)
theorem dX11_echo_5 : decode cX11_echo 5 = .ok (.aload_n 0, 1) := by decide +kernel
theorem dX11_echo_6 : decode cX11_echo 6 = .ok (.getfield 28, 3) := by decide +kernel
theorem dX11_echo_9 : decode cX11_echo 9 = .ok (.iconst 2, 1) := by decide +kernel
theorem dX11_echo_10 : decode cX11_echo 10 = .ok (.iload_n 1, 1) := by decide +kernel
theorem dX11_echo_11 : decode cX11_echo 11 = .ok (.invokevirtual 120, 3) := by decide +kernel
theorem dX11_echo_14 : decode cX11_echo 14 = .ok (.ifCond .eq 15, 3) := by decide +kernel
theorem dX11_echo_29 : decode cX11_echo 29 = .ok (.iconst (-1), 1) := by decide +kernel
theorem dX11_echo_30 : decode cX11_echo 30 = .ok (.ireturn, 1) := by decide +kernel
set_option maxHeartbeats 400000 in
set_option maxRecDepth 100000 in
theorem t_echo (l : Launch) (D : va_G) (cy : Nat → ClassId) (a0 : Nat) (w0 : Value) (w1 : Value) (w3 : Value) (w4 : Value) (w5 : Value) (w6 : Value) (w7 : Value) (w8 : Value) (w9 : Value) (w10 : Value) (w11 : Value) (w12 : Value) (w13 : Value) (h0 : Nat) (h1 : Nat) (v1 : Value) (v2 : Value) (v3 : Value) (v4 : Value) (v5 : Value) (v6 : Value) (v7 : Value) (v8 : Value) (v9 : Value) (v10 : Value) (v11 : Value) (v12 : Value) (v13 : Value) (v14 : Value) (v15 : Value) (ka : Int32) (kb : Int32)  : XMi l D (tyL cy) E0 yX11_echo cX11_echo 4 (some .int) (rmk 2 0 0) [.ref a0, .int ka, .int kb] [(a0, .inr (11, [w0, w1, .ref h0, w3, w4, w5, w6, w7, w8, w9, w10, w11, w12, w13])), (h0, .inr (4, [.ref h1, v1, v2, v3, v4, v5, v6, v7, v8, v9, v10, v11, v12, v13, v14, v15])), (h1, .inl (cy 1, 4, .inl (fun _ => 0)))] (fun (r : Int32) (_ : Unit) => r = -1) (fun (_ : Unit) => []) := by
  refine XMi.start (by decide) (Nat.le_of_ble_eq_true rfl) ?_
  intro p e s m below meth c args A ls Q hat hQ
  obtain ⟨hx, hb, hr, hml, hown, hg, hlocks, hin, hK, hA, hP, hD, hS, hE, hl⟩ := hat
  have hown : s.vm.findClass RX11 = some m.cls := hown
  have hl : lv_has ls 4 [(0, .ref a0), (1, .int ka), (2, .int kb)] := hl
  refine lv_aload_n hx hb dX11_echo_0 rfl (lv_at hl 0 rfl) ?_
  refine lv_iconst (v := 0) hx hb dX11_echo_1 (by decide) ?_
  refine va_put (D := D) (ci := 11) (v := .int 0) (ty := .int) (C := RX11) (T := TX11) (N := 14) hx hb hg i_X11 tyX11 tyX11_ok nmX11 hown hK hP hD hS 0 rfl rfl 13 (by decide) (hg _ m_671) (fun _ h9 => h9) rfl (by decide +kernel) rfl rfl (Nat.le_of_ble_eq_true rfl) dX11_echo_2 (fun H locs hP hD hS => ?_)
  have hP : va_P D vwCl [(a0, .inr (11, [w0, w1, .ref h0, w3, w4, w5, w6, w7, w8, w9, w10, w11, w12, .int 0])), (h0, .inr (4, [.ref h1, v1, v2, v3, v4, v5, v6, v7, v8, v9, v10, v11, v12, v13, v14, v15])), (h1, .inl (cy 1, 4, .inl (fun _ => 0)))] H := hP
  have hD : va_D A [(a0, .inr (11, [w0, w1, .ref h0, w3, w4, w5, w6, w7, w8, w9, w10, w11, w12, .int 0])), (h0, .inr (4, [.ref h1, v1, v2, v3, v4, v5, v6, v7, v8, v9, v10, v11, v12, v13, v14, v15])), (h1, .inl (cy 1, 4, .inl (fun _ => 0)))] := hD
  refine lv_aload_n hx hb dX11_echo_5 rfl (lv_at hl 0 rfl) ?_
  refine va_get (D := D) (ci := 11) (v := .ref h0) (C := RX11) (T := TX11) (N := 14) hx hb hg i_X11 hown hK hP 0 rfl rfl 2 (by decide) (hg _ m_660) (fun _ h9 => h9) rfl dX11_echo_6 ?_
  refine lv_iconst (v := 2) hx hb dX11_echo_9 (by decide) ?_
  refine lv_iload_n hx hb dX11_echo_10 rfl (lv_at hl 1 rfl) ?_
  refine x_callVi (q := (RX4, TX4, 16)) (ci := 4) (q0 := 0) (wr := [(a0, .inr (11, [w0, w1, .ref h0, w3, w4, w5, w6, w7, w8, w9, w10, w11, w12, .int 0]))]) (rest := []) ⟨hx, hb, hml, hown, hg, hl.1⟩ k_X11_120 (c_has l D cy h0 h1 v1 v2 v3 v4 v5 v6 v7 v8 v9 v10 v11 v12 v13 v14 v15 2 ka (by unfold vp_in; decide)) E0_blind hK hP hD hS hA [1, 2] [0] ⟨rfl, rfl, by decide, by decide, by decide⟩ rfl rfl (fun _ _ _ => trivial) dX11_echo_11 rfl rfl (Nat.le_of_ble_eq_true rfl) ⟨Nat.le_of_ble_eq_true rfl, Nat.le_of_ble_eq_true rfl⟩ ⟨Nat.le_of_ble_eq_true rfl, Nat.le_of_ble_eq_true rfl⟩ (fun r1 u1 H locs hw1 hP hD hS => ?_)
  have hP : va_P D vwCl [(a0, .inr (11, [w0, w1, .ref h0, w3, w4, w5, w6, w7, w8, w9, w10, w11, w12, .int 0])), (h0, .inr (4, [.ref h1, v1, v2, v3, v4, v5, v6, v7, v8, v9, v10, v11, v12, v13, v14, v15])), (h1, .inl (cy 1, 4, .inl (fun _ => 0)))] H := hP
  have hD : va_D A [(a0, .inr (11, [w0, w1, .ref h0, w3, w4, w5, w6, w7, w8, w9, w10, w11, w12, .int 0])), (h0, .inr (4, [.ref h1, v1, v2, v3, v4, v5, v6, v7, v8, v9, v10, v11, v12, v13, v14, v15])), (h1, .inl (cy 1, 4, .inl (fun _ => 0)))] := hD
  refine W.widen (k := 0) (n := 0) (Nat.le_of_ble_eq_true rfl) (Nat.le_of_ble_eq_true rfl) ?_
  have hw1 : r1 = 0 := hw1
  subst hw1
  refine lv_if_eq (tgt := 29) hx hb dX11_echo_14 (by decide) (fun _ => ?_) (fun h => absurd (by decide) h)
  refine lv_iconst (v := -1) hx hb dX11_echo_29 (by decide) ?_
  exact x_iret hQ hx hb hr hlocks hK hP hD hS dX11_echo_30 () (rfl) [] (by decide) rfl (Nat.le_of_ble_eq_true rfl) (Nat.le_of_ble_eq_true rfl)
theorem dX11_answers_0 : decode cX11_answers 0 = .ok (.aload_n 0, 1) := by decide +kernel
theorem dX11_answers_1 : decode cX11_answers 1 = .ok (.getfield 28, 3) := by decide +kernel
theorem dX11_answers_4 : decode cX11_answers 4 = .ok (.iconst 2, 1) := by decide +kernel
theorem dX11_answers_5 : decode cX11_answers 5 = .ok (.iload_n 1, 1) := by decide +kernel
theorem dX11_answers_6 : decode cX11_answers 6 = .ok (.invokevirtual 120, 3) := by decide +kernel
theorem dX11_answers_9 : decode cX11_answers 9 = .ok (.ifCond .eq 12, 3) := by decide +kernel
theorem dX11_answers_21 : decode cX11_answers 21 = .ok (.iconst (-1), 1) := by decide +kernel
theorem dX11_answers_22 : decode cX11_answers 22 = .ok (.ireturn, 1) := by decide +kernel
set_option maxHeartbeats 400000 in
set_option maxRecDepth 100000 in
theorem t_answers (l : Launch) (D : va_G) (cy : Nat → ClassId) (a0 : Nat) (w0 : Value) (w1 : Value) (w3 : Value) (w4 : Value) (w5 : Value) (w6 : Value) (w7 : Value) (w8 : Value) (w9 : Value) (w10 : Value) (w11 : Value) (w12 : Value) (w13 : Value) (h0 : Nat) (h1 : Nat) (v1 : Value) (v2 : Value) (v3 : Value) (v4 : Value) (v5 : Value) (v6 : Value) (v7 : Value) (v8 : Value) (v9 : Value) (v10 : Value) (v11 : Value) (v12 : Value) (v13 : Value) (v14 : Value) (v15 : Value) (ka : Int32) (kb : Int32)  : XMi l D (tyL cy) E0 yX11_answers cX11_answers 6 (some .int) (rmk 2 0 0) [.ref a0, .int ka, .int kb] [(a0, .inr (11, [w0, w1, .ref h0, w3, w4, w5, w6, w7, w8, w9, w10, w11, w12, w13])), (h0, .inr (4, [.ref h1, v1, v2, v3, v4, v5, v6, v7, v8, v9, v10, v11, v12, v13, v14, v15])), (h1, .inl (cy 1, 4, .inl (fun _ => 0)))] (fun (r : Int32) (_ : Unit) => r = -1) (fun (_ : Unit) => []) := by
  refine XMi.start (by decide) (Nat.le_of_ble_eq_true rfl) ?_
  intro p e s m below meth c args A ls Q hat hQ
  obtain ⟨hx, hb, hr, hml, hown, hg, hlocks, hin, hK, hA, hP, hD, hS, hE, hl⟩ := hat
  have hown : s.vm.findClass RX11 = some m.cls := hown
  have hl : lv_has ls 6 [(0, .ref a0), (1, .int ka), (2, .int kb)] := hl
  refine lv_aload_n hx hb dX11_answers_0 rfl (lv_at hl 0 rfl) ?_
  refine va_get (D := D) (ci := 11) (v := .ref h0) (C := RX11) (T := TX11) (N := 14) hx hb hg i_X11 hown hK hP 0 rfl rfl 2 (by decide) (hg _ m_660) (fun _ h9 => h9) rfl dX11_answers_1 ?_
  refine lv_iconst (v := 2) hx hb dX11_answers_4 (by decide) ?_
  refine lv_iload_n hx hb dX11_answers_5 rfl (lv_at hl 1 rfl) ?_
  refine x_callVi (q := (RX4, TX4, 16)) (ci := 4) (q0 := 0) (wr := [(a0, .inr (11, [w0, w1, .ref h0, w3, w4, w5, w6, w7, w8, w9, w10, w11, w12, w13]))]) (rest := []) ⟨hx, hb, hml, hown, hg, hl.1⟩ k_X11_120 (c_has l D cy h0 h1 v1 v2 v3 v4 v5 v6 v7 v8 v9 v10 v11 v12 v13 v14 v15 2 ka (by unfold vp_in; decide)) E0_blind hK hP hD hS hA [1, 2] [0] ⟨rfl, rfl, by decide, by decide, by decide⟩ rfl rfl (fun _ _ _ => trivial) dX11_answers_6 rfl rfl (Nat.le_of_ble_eq_true rfl) ⟨Nat.le_of_ble_eq_true rfl, Nat.le_of_ble_eq_true rfl⟩ ⟨Nat.le_of_ble_eq_true rfl, Nat.le_of_ble_eq_true rfl⟩ (fun r1 u1 H locs hw1 hP hD hS => ?_)
  have hP : va_P D vwCl [(a0, .inr (11, [w0, w1, .ref h0, w3, w4, w5, w6, w7, w8, w9, w10, w11, w12, w13])), (h0, .inr (4, [.ref h1, v1, v2, v3, v4, v5, v6, v7, v8, v9, v10, v11, v12, v13, v14, v15])), (h1, .inl (cy 1, 4, .inl (fun _ => 0)))] H := hP
  have hD : va_D A [(a0, .inr (11, [w0, w1, .ref h0, w3, w4, w5, w6, w7, w8, w9, w10, w11, w12, w13])), (h0, .inr (4, [.ref h1, v1, v2, v3, v4, v5, v6, v7, v8, v9, v10, v11, v12, v13, v14, v15])), (h1, .inl (cy 1, 4, .inl (fun _ => 0)))] := hD
  refine W.widen (k := 0) (n := 0) (Nat.le_of_ble_eq_true rfl) (Nat.le_of_ble_eq_true rfl) ?_
  have hw1 : r1 = 0 := hw1
  subst hw1
  refine lv_if_eq (tgt := 21) hx hb dX11_answers_9 (by decide) (fun _ => ?_) (fun h => absurd (by decide) h)
  refine lv_iconst (v := -1) hx hb dX11_answers_21 (by decide) ?_
  exact x_iret hQ hx hb hr hlocks hK hP hD hS dX11_answers_22 () (rfl) [] (by decide) rfl (Nat.le_of_ble_eq_true rfl) (Nat.le_of_ble_eq_true rfl)
theorem dX11_binds_0 : decode cX11_binds 0 = .ok (.aload_n 0, 1) := by decide +kernel
theorem dX11_binds_1 : decode cX11_binds 1 = .ok (.getfield 28, 3) := by decide +kernel
theorem dX11_binds_4 : decode cX11_binds 4 = .ok (.iconst 2, 1) := by decide +kernel
theorem dX11_binds_5 : decode cX11_binds 5 = .ok (.iload_n 1, 1) := by decide +kernel
theorem dX11_binds_6 : decode cX11_binds 6 = .ok (.invokevirtual 120, 3) := by decide +kernel
theorem dX11_binds_9 : decode cX11_binds 9 = .ok (.ifCond .ne 5, 3) := by decide +kernel
theorem dX11_binds_12 : decode cX11_binds 12 = .ok (.iconst (-1), 1) := by decide +kernel
theorem dX11_binds_13 : decode cX11_binds 13 = .ok (.ireturn, 1) := by decide +kernel
set_option maxHeartbeats 400000 in
set_option maxRecDepth 100000 in
theorem t_binds (l : Launch) (D : va_G) (cy : Nat → ClassId) (a0 : Nat) (w0 : Value) (w1 : Value) (w3 : Value) (w4 : Value) (w5 : Value) (w6 : Value) (w7 : Value) (w8 : Value) (w9 : Value) (w10 : Value) (w11 : Value) (w12 : Value) (w13 : Value) (h0 : Nat) (h1 : Nat) (v1 : Value) (v2 : Value) (v3 : Value) (v4 : Value) (v5 : Value) (v6 : Value) (v7 : Value) (v8 : Value) (v9 : Value) (v10 : Value) (v11 : Value) (v12 : Value) (v13 : Value) (v14 : Value) (v15 : Value) (ka : Int32)  : XMi l D (tyL cy) E0 yX11_binds cX11_binds 2 (some .int) (rmk 2 0 0) [.ref a0, .int ka] [(a0, .inr (11, [w0, w1, .ref h0, w3, w4, w5, w6, w7, w8, w9, w10, w11, w12, w13])), (h0, .inr (4, [.ref h1, v1, v2, v3, v4, v5, v6, v7, v8, v9, v10, v11, v12, v13, v14, v15])), (h1, .inl (cy 1, 4, .inl (fun _ => 0)))] (fun (r : Int32) (_ : Unit) => r = -1) (fun (_ : Unit) => []) := by
  refine XMi.start (by decide) (Nat.le_of_ble_eq_true rfl) ?_
  intro p e s m below meth c args A ls Q hat hQ
  obtain ⟨hx, hb, hr, hml, hown, hg, hlocks, hin, hK, hA, hP, hD, hS, hE, hl⟩ := hat
  have hown : s.vm.findClass RX11 = some m.cls := hown
  have hl : lv_has ls 2 [(0, .ref a0), (1, .int ka)] := hl
  refine lv_aload_n hx hb dX11_binds_0 rfl (lv_at hl 0 rfl) ?_
  refine va_get (D := D) (ci := 11) (v := .ref h0) (C := RX11) (T := TX11) (N := 14) hx hb hg i_X11 hown hK hP 0 rfl rfl 2 (by decide) (hg _ m_660) (fun _ h9 => h9) rfl dX11_binds_1 ?_
  refine lv_iconst (v := 2) hx hb dX11_binds_4 (by decide) ?_
  refine lv_iload_n hx hb dX11_binds_5 rfl (lv_at hl 1 rfl) ?_
  refine x_callVi (q := (RX4, TX4, 16)) (ci := 4) (q0 := 0) (wr := [(a0, .inr (11, [w0, w1, .ref h0, w3, w4, w5, w6, w7, w8, w9, w10, w11, w12, w13]))]) (rest := []) ⟨hx, hb, hml, hown, hg, hl.1⟩ k_X11_120 (c_has l D cy h0 h1 v1 v2 v3 v4 v5 v6 v7 v8 v9 v10 v11 v12 v13 v14 v15 2 ka (by unfold vp_in; decide)) E0_blind hK hP hD hS hA [1, 2] [0] ⟨rfl, rfl, by decide, by decide, by decide⟩ rfl rfl (fun _ _ _ => trivial) dX11_binds_6 rfl rfl (Nat.le_of_ble_eq_true rfl) ⟨Nat.le_of_ble_eq_true rfl, Nat.le_of_ble_eq_true rfl⟩ ⟨Nat.le_of_ble_eq_true rfl, Nat.le_of_ble_eq_true rfl⟩ (fun r1 u1 H locs hw1 hP hD hS => ?_)
  have hP : va_P D vwCl [(a0, .inr (11, [w0, w1, .ref h0, w3, w4, w5, w6, w7, w8, w9, w10, w11, w12, w13])), (h0, .inr (4, [.ref h1, v1, v2, v3, v4, v5, v6, v7, v8, v9, v10, v11, v12, v13, v14, v15])), (h1, .inl (cy 1, 4, .inl (fun _ => 0)))] H := hP
  have hD : va_D A [(a0, .inr (11, [w0, w1, .ref h0, w3, w4, w5, w6, w7, w8, w9, w10, w11, w12, w13])), (h0, .inr (4, [.ref h1, v1, v2, v3, v4, v5, v6, v7, v8, v9, v10, v11, v12, v13, v14, v15])), (h1, .inl (cy 1, 4, .inl (fun _ => 0)))] := hD
  refine W.widen (k := 0) (n := 0) (Nat.le_of_ble_eq_true rfl) (Nat.le_of_ble_eq_true rfl) ?_
  have hw1 : r1 = 0 := hw1
  subst hw1
  refine lv_if_ne (tgt := 14) hx hb dX11_binds_9 (by decide) (fun h => absurd (by decide) h) (fun _ => ?_)
  refine lv_iconst (v := -1) hx hb dX11_binds_12 (by decide) ?_
  exact x_iret hQ hx hb hr hlocks hK hP hD hS dX11_binds_13 () (rfl) [] (by decide) rfl (Nat.le_of_ble_eq_true rfl) (Nat.le_of_ble_eq_true rfl)
theorem dX11_pardon_0 : decode cX11_pardon 0 = .ok (.aload_n 0, 1) := by decide +kernel
theorem dX11_pardon_1 : decode cX11_pardon 1 = .ok (.iconst 0, 1) := by decide +kernel
theorem dX11_pardon_2 : decode cX11_pardon 2 = .ok (.putfield 89, 3) := by decide +kernel
theorem dX11_pardon_5 : decode cX11_pardon 5 = .ok (.aload_n 0, 1) := by decide +kernel
theorem dX11_pardon_6 : decode cX11_pardon 6 = .ok (.getfield 28, 3) := by decide +kernel
theorem dX11_pardon_9 : decode cX11_pardon 9 = .ok (.iconst 2, 1) := by decide +kernel
theorem dX11_pardon_10 : decode cX11_pardon 10 = .ok (.iload_n 1, 1) := by decide +kernel
theorem dX11_pardon_11 : decode cX11_pardon 11 = .ok (.invokevirtual 120, 3) := by decide +kernel
theorem dX11_pardon_14 : decode cX11_pardon 14 = .ok (.ifCond .eq 15, 3) := by decide +kernel
theorem dX11_pardon_29 : decode cX11_pardon 29 = .ok (.iconst (-1), 1) := by decide +kernel
theorem dX11_pardon_30 : decode cX11_pardon 30 = .ok (.ireturn, 1) := by decide +kernel
set_option maxHeartbeats 400000 in
set_option maxRecDepth 100000 in
theorem t_pardon (l : Launch) (D : va_G) (cy : Nat → ClassId) (a0 : Nat) (w0 : Value) (w1 : Value) (w3 : Value) (w4 : Value) (w5 : Value) (w6 : Value) (w7 : Value) (w8 : Value) (w9 : Value) (w10 : Value) (w11 : Value) (w12 : Value) (w13 : Value) (h0 : Nat) (h1 : Nat) (v1 : Value) (v2 : Value) (v3 : Value) (v4 : Value) (v5 : Value) (v6 : Value) (v7 : Value) (v8 : Value) (v9 : Value) (v10 : Value) (v11 : Value) (v12 : Value) (v13 : Value) (v14 : Value) (v15 : Value) (ka : Int32)  : XMi l D (tyL cy) E0 yX11_pardon cX11_pardon 3 (some .int) (rmk 2 0 0) [.ref a0, .int ka] [(a0, .inr (11, [w0, w1, .ref h0, w3, w4, w5, w6, w7, w8, w9, w10, w11, w12, w13])), (h0, .inr (4, [.ref h1, v1, v2, v3, v4, v5, v6, v7, v8, v9, v10, v11, v12, v13, v14, v15])), (h1, .inl (cy 1, 4, .inl (fun _ => 0)))] (fun (r : Int32) (_ : Unit) => r = -1) (fun (_ : Unit) => []) := by
  refine XMi.start (by decide) (Nat.le_of_ble_eq_true rfl) ?_
  intro p e s m below meth c args A ls Q hat hQ
  obtain ⟨hx, hb, hr, hml, hown, hg, hlocks, hin, hK, hA, hP, hD, hS, hE, hl⟩ := hat
  have hown : s.vm.findClass RX11 = some m.cls := hown
  have hl : lv_has ls 3 [(0, .ref a0), (1, .int ka)] := hl
  refine lv_aload_n hx hb dX11_pardon_0 rfl (lv_at hl 0 rfl) ?_
  refine lv_iconst (v := 0) hx hb dX11_pardon_1 (by decide) ?_
  refine va_put (D := D) (ci := 11) (v := .int 0) (ty := .int) (C := RX11) (T := TX11) (N := 14) hx hb hg i_X11 tyX11 tyX11_ok nmX11 hown hK hP hD hS 0 rfl rfl 13 (by decide) (hg _ m_671) (fun _ h9 => h9) rfl (by decide +kernel) rfl rfl (Nat.le_of_ble_eq_true rfl) dX11_pardon_2 (fun H locs hP hD hS => ?_)
  have hP : va_P D vwCl [(a0, .inr (11, [w0, w1, .ref h0, w3, w4, w5, w6, w7, w8, w9, w10, w11, w12, .int 0])), (h0, .inr (4, [.ref h1, v1, v2, v3, v4, v5, v6, v7, v8, v9, v10, v11, v12, v13, v14, v15])), (h1, .inl (cy 1, 4, .inl (fun _ => 0)))] H := hP
  have hD : va_D A [(a0, .inr (11, [w0, w1, .ref h0, w3, w4, w5, w6, w7, w8, w9, w10, w11, w12, .int 0])), (h0, .inr (4, [.ref h1, v1, v2, v3, v4, v5, v6, v7, v8, v9, v10, v11, v12, v13, v14, v15])), (h1, .inl (cy 1, 4, .inl (fun _ => 0)))] := hD
  refine lv_aload_n hx hb dX11_pardon_5 rfl (lv_at hl 0 rfl) ?_
  refine va_get (D := D) (ci := 11) (v := .ref h0) (C := RX11) (T := TX11) (N := 14) hx hb hg i_X11 hown hK hP 0 rfl rfl 2 (by decide) (hg _ m_660) (fun _ h9 => h9) rfl dX11_pardon_6 ?_
  refine lv_iconst (v := 2) hx hb dX11_pardon_9 (by decide) ?_
  refine lv_iload_n hx hb dX11_pardon_10 rfl (lv_at hl 1 rfl) ?_
  refine x_callVi (q := (RX4, TX4, 16)) (ci := 4) (q0 := 0) (wr := [(a0, .inr (11, [w0, w1, .ref h0, w3, w4, w5, w6, w7, w8, w9, w10, w11, w12, .int 0]))]) (rest := []) ⟨hx, hb, hml, hown, hg, hl.1⟩ k_X11_120 (c_has l D cy h0 h1 v1 v2 v3 v4 v5 v6 v7 v8 v9 v10 v11 v12 v13 v14 v15 2 ka (by unfold vp_in; decide)) E0_blind hK hP hD hS hA [1, 2] [0] ⟨rfl, rfl, by decide, by decide, by decide⟩ rfl rfl (fun _ _ _ => trivial) dX11_pardon_11 rfl rfl (Nat.le_of_ble_eq_true rfl) ⟨Nat.le_of_ble_eq_true rfl, Nat.le_of_ble_eq_true rfl⟩ ⟨Nat.le_of_ble_eq_true rfl, Nat.le_of_ble_eq_true rfl⟩ (fun r1 u1 H locs hw1 hP hD hS => ?_)
  have hP : va_P D vwCl [(a0, .inr (11, [w0, w1, .ref h0, w3, w4, w5, w6, w7, w8, w9, w10, w11, w12, .int 0])), (h0, .inr (4, [.ref h1, v1, v2, v3, v4, v5, v6, v7, v8, v9, v10, v11, v12, v13, v14, v15])), (h1, .inl (cy 1, 4, .inl (fun _ => 0)))] H := hP
  have hD : va_D A [(a0, .inr (11, [w0, w1, .ref h0, w3, w4, w5, w6, w7, w8, w9, w10, w11, w12, .int 0])), (h0, .inr (4, [.ref h1, v1, v2, v3, v4, v5, v6, v7, v8, v9, v10, v11, v12, v13, v14, v15])), (h1, .inl (cy 1, 4, .inl (fun _ => 0)))] := hD
  refine W.widen (k := 0) (n := 0) (Nat.le_of_ble_eq_true rfl) (Nat.le_of_ble_eq_true rfl) ?_
  have hw1 : r1 = 0 := hw1
  subst hw1
  refine lv_if_eq (tgt := 29) hx hb dX11_pardon_14 (by decide) (fun _ => ?_) (fun h => absurd (by decide) h)
  refine lv_iconst (v := -1) hx hb dX11_pardon_29 (by decide) ?_
  exact x_iret hQ hx hb hr hlocks hK hP hD hS dX11_pardon_30 () (rfl) [] (by decide) rfl (Nat.le_of_ble_eq_true rfl) (Nat.le_of_ble_eq_true rfl)
theorem dX11_pardons_0 : decode cX11_pardons 0 = .ok (.aload_n 0, 1) := by decide +kernel
theorem dX11_pardons_1 : decode cX11_pardons 1 = .ok (.getfield 28, 3) := by decide +kernel
theorem dX11_pardons_4 : decode cX11_pardons 4 = .ok (.iconst 2, 1) := by decide +kernel
theorem dX11_pardons_5 : decode cX11_pardons 5 = .ok (.iload_n 1, 1) := by decide +kernel
theorem dX11_pardons_6 : decode cX11_pardons 6 = .ok (.invokevirtual 120, 3) := by decide +kernel
theorem dX11_pardons_9 : decode cX11_pardons 9 = .ok (.ifCond .eq 22, 3) := by decide +kernel
theorem dX11_pardons_31 : decode cX11_pardons 31 = .ok (.iconst (-1), 1) := by decide +kernel
theorem dX11_pardons_32 : decode cX11_pardons 32 = .ok (.ireturn, 1) := by decide +kernel
set_option maxHeartbeats 400000 in
set_option maxRecDepth 100000 in
theorem t_pardons (l : Launch) (D : va_G) (cy : Nat → ClassId) (a0 : Nat) (w0 : Value) (w1 : Value) (w3 : Value) (w4 : Value) (w5 : Value) (w6 : Value) (w7 : Value) (w8 : Value) (w9 : Value) (w10 : Value) (w11 : Value) (w12 : Value) (w13 : Value) (h0 : Nat) (h1 : Nat) (v1 : Value) (v2 : Value) (v3 : Value) (v4 : Value) (v5 : Value) (v6 : Value) (v7 : Value) (v8 : Value) (v9 : Value) (v10 : Value) (v11 : Value) (v12 : Value) (v13 : Value) (v14 : Value) (v15 : Value) (ka : Int32) (kb : Int32)  : XMi l D (tyL cy) E0 yX11_pardons cX11_pardons 3 (some .int) (rmk 2 0 0) [.ref a0, .int ka, .int kb] [(a0, .inr (11, [w0, w1, .ref h0, w3, w4, w5, w6, w7, w8, w9, w10, w11, w12, w13])), (h0, .inr (4, [.ref h1, v1, v2, v3, v4, v5, v6, v7, v8, v9, v10, v11, v12, v13, v14, v15])), (h1, .inl (cy 1, 4, .inl (fun _ => 0)))] (fun (r : Int32) (_ : Unit) => r = -1) (fun (_ : Unit) => []) := by
  refine XMi.start (by decide) (Nat.le_of_ble_eq_true rfl) ?_
  intro p e s m below meth c args A ls Q hat hQ
  obtain ⟨hx, hb, hr, hml, hown, hg, hlocks, hin, hK, hA, hP, hD, hS, hE, hl⟩ := hat
  have hown : s.vm.findClass RX11 = some m.cls := hown
  have hl : lv_has ls 3 [(0, .ref a0), (1, .int ka), (2, .int kb)] := hl
  refine lv_aload_n hx hb dX11_pardons_0 rfl (lv_at hl 0 rfl) ?_
  refine va_get (D := D) (ci := 11) (v := .ref h0) (C := RX11) (T := TX11) (N := 14) hx hb hg i_X11 hown hK hP 0 rfl rfl 2 (by decide) (hg _ m_660) (fun _ h9 => h9) rfl dX11_pardons_1 ?_
  refine lv_iconst (v := 2) hx hb dX11_pardons_4 (by decide) ?_
  refine lv_iload_n hx hb dX11_pardons_5 rfl (lv_at hl 1 rfl) ?_
  refine x_callVi (q := (RX4, TX4, 16)) (ci := 4) (q0 := 0) (wr := [(a0, .inr (11, [w0, w1, .ref h0, w3, w4, w5, w6, w7, w8, w9, w10, w11, w12, w13]))]) (rest := []) ⟨hx, hb, hml, hown, hg, hl.1⟩ k_X11_120 (c_has l D cy h0 h1 v1 v2 v3 v4 v5 v6 v7 v8 v9 v10 v11 v12 v13 v14 v15 2 ka (by unfold vp_in; decide)) E0_blind hK hP hD hS hA [1, 2] [0] ⟨rfl, rfl, by decide, by decide, by decide⟩ rfl rfl (fun _ _ _ => trivial) dX11_pardons_6 rfl rfl (Nat.le_of_ble_eq_true rfl) ⟨Nat.le_of_ble_eq_true rfl, Nat.le_of_ble_eq_true rfl⟩ ⟨Nat.le_of_ble_eq_true rfl, Nat.le_of_ble_eq_true rfl⟩ (fun r1 u1 H locs hw1 hP hD hS => ?_)
  have hP : va_P D vwCl [(a0, .inr (11, [w0, w1, .ref h0, w3, w4, w5, w6, w7, w8, w9, w10, w11, w12, w13])), (h0, .inr (4, [.ref h1, v1, v2, v3, v4, v5, v6, v7, v8, v9, v10, v11, v12, v13, v14, v15])), (h1, .inl (cy 1, 4, .inl (fun _ => 0)))] H := hP
  have hD : va_D A [(a0, .inr (11, [w0, w1, .ref h0, w3, w4, w5, w6, w7, w8, w9, w10, w11, w12, w13])), (h0, .inr (4, [.ref h1, v1, v2, v3, v4, v5, v6, v7, v8, v9, v10, v11, v12, v13, v14, v15])), (h1, .inl (cy 1, 4, .inl (fun _ => 0)))] := hD
  refine W.widen (k := 0) (n := 0) (Nat.le_of_ble_eq_true rfl) (Nat.le_of_ble_eq_true rfl) ?_
  have hw1 : r1 = 0 := hw1
  subst hw1
  refine lv_if_eq (tgt := 31) hx hb dX11_pardons_9 (by decide) (fun _ => ?_) (fun h => absurd (by decide) h)
  refine lv_iconst (v := -1) hx hb dX11_pardons_31 (by decide) ?_
  exact x_iret hQ hx hb hr hlocks hK hP hD hS dX11_pardons_32 () (rfl) [] (by decide) rfl (Nat.le_of_ble_eq_true rfl) (Nat.le_of_ble_eq_true rfl)
theorem dX11_ahead_0 : decode cX11_ahead 0 = .ok (.aload_n 0, 1) := by decide +kernel
theorem dX11_ahead_1 : decode cX11_ahead 1 = .ok (.iconst 0, 1) := by decide +kernel
theorem dX11_ahead_2 : decode cX11_ahead 2 = .ok (.putfield 89, 3) := by decide +kernel
theorem dX11_ahead_5 : decode cX11_ahead 5 = .ok (.aload_n 0, 1) := by decide +kernel
theorem dX11_ahead_6 : decode cX11_ahead 6 = .ok (.getfield 28, 3) := by decide +kernel
theorem dX11_ahead_9 : decode cX11_ahead 9 = .ok (.iconst 2, 1) := by decide +kernel
theorem dX11_ahead_10 : decode cX11_ahead 10 = .ok (.iload_n 1, 1) := by decide +kernel
theorem dX11_ahead_11 : decode cX11_ahead 11 = .ok (.invokevirtual 120, 3) := by decide +kernel
theorem dX11_ahead_14 : decode cX11_ahead 14 = .ok (.ifCond .eq 22, 3) := by decide +kernel
theorem dX11_ahead_36 : decode cX11_ahead 36 = .ok (.iconst (-1), 1) := by decide +kernel
theorem dX11_ahead_37 : decode cX11_ahead 37 = .ok (.ireturn, 1) := by decide +kernel
set_option maxHeartbeats 400000 in
set_option maxRecDepth 100000 in
theorem t_ahead (l : Launch) (D : va_G) (cy : Nat → ClassId) (a0 : Nat) (w0 : Value) (w1 : Value) (w3 : Value) (w4 : Value) (w5 : Value) (w6 : Value) (w7 : Value) (w8 : Value) (w9 : Value) (w10 : Value) (w11 : Value) (w12 : Value) (w13 : Value) (h0 : Nat) (h1 : Nat) (v1 : Value) (v2 : Value) (v3 : Value) (v4 : Value) (v5 : Value) (v6 : Value) (v7 : Value) (v8 : Value) (v9 : Value) (v10 : Value) (v11 : Value) (v12 : Value) (v13 : Value) (v14 : Value) (v15 : Value) (ka : Int32) (kb : Int32) (kc : Int32)  : XMi l D (tyL cy) E0 yX11_ahead cX11_ahead 5 (some .int) (rmk 2 0 0) [.ref a0, .int ka, .int kb, .int kc] [(a0, .inr (11, [w0, w1, .ref h0, w3, w4, w5, w6, w7, w8, w9, w10, w11, w12, w13])), (h0, .inr (4, [.ref h1, v1, v2, v3, v4, v5, v6, v7, v8, v9, v10, v11, v12, v13, v14, v15])), (h1, .inl (cy 1, 4, .inl (fun _ => 0)))] (fun (r : Int32) (_ : Unit) => r = -1) (fun (_ : Unit) => []) := by
  refine XMi.start (by decide) (Nat.le_of_ble_eq_true rfl) ?_
  intro p e s m below meth c args A ls Q hat hQ
  obtain ⟨hx, hb, hr, hml, hown, hg, hlocks, hin, hK, hA, hP, hD, hS, hE, hl⟩ := hat
  have hown : s.vm.findClass RX11 = some m.cls := hown
  have hl : lv_has ls 5 [(0, .ref a0), (1, .int ka), (2, .int kb), (3, .int kc)] := hl
  refine lv_aload_n hx hb dX11_ahead_0 rfl (lv_at hl 0 rfl) ?_
  refine lv_iconst (v := 0) hx hb dX11_ahead_1 (by decide) ?_
  refine va_put (D := D) (ci := 11) (v := .int 0) (ty := .int) (C := RX11) (T := TX11) (N := 14) hx hb hg i_X11 tyX11 tyX11_ok nmX11 hown hK hP hD hS 0 rfl rfl 13 (by decide) (hg _ m_671) (fun _ h9 => h9) rfl (by decide +kernel) rfl rfl (Nat.le_of_ble_eq_true rfl) dX11_ahead_2 (fun H locs hP hD hS => ?_)
  have hP : va_P D vwCl [(a0, .inr (11, [w0, w1, .ref h0, w3, w4, w5, w6, w7, w8, w9, w10, w11, w12, .int 0])), (h0, .inr (4, [.ref h1, v1, v2, v3, v4, v5, v6, v7, v8, v9, v10, v11, v12, v13, v14, v15])), (h1, .inl (cy 1, 4, .inl (fun _ => 0)))] H := hP
  have hD : va_D A [(a0, .inr (11, [w0, w1, .ref h0, w3, w4, w5, w6, w7, w8, w9, w10, w11, w12, .int 0])), (h0, .inr (4, [.ref h1, v1, v2, v3, v4, v5, v6, v7, v8, v9, v10, v11, v12, v13, v14, v15])), (h1, .inl (cy 1, 4, .inl (fun _ => 0)))] := hD
  refine lv_aload_n hx hb dX11_ahead_5 rfl (lv_at hl 0 rfl) ?_
  refine va_get (D := D) (ci := 11) (v := .ref h0) (C := RX11) (T := TX11) (N := 14) hx hb hg i_X11 hown hK hP 0 rfl rfl 2 (by decide) (hg _ m_660) (fun _ h9 => h9) rfl dX11_ahead_6 ?_
  refine lv_iconst (v := 2) hx hb dX11_ahead_9 (by decide) ?_
  refine lv_iload_n hx hb dX11_ahead_10 rfl (lv_at hl 1 rfl) ?_
  refine x_callVi (q := (RX4, TX4, 16)) (ci := 4) (q0 := 0) (wr := [(a0, .inr (11, [w0, w1, .ref h0, w3, w4, w5, w6, w7, w8, w9, w10, w11, w12, .int 0]))]) (rest := []) ⟨hx, hb, hml, hown, hg, hl.1⟩ k_X11_120 (c_has l D cy h0 h1 v1 v2 v3 v4 v5 v6 v7 v8 v9 v10 v11 v12 v13 v14 v15 2 ka (by unfold vp_in; decide)) E0_blind hK hP hD hS hA [1, 2] [0] ⟨rfl, rfl, by decide, by decide, by decide⟩ rfl rfl (fun _ _ _ => trivial) dX11_ahead_11 rfl rfl (Nat.le_of_ble_eq_true rfl) ⟨Nat.le_of_ble_eq_true rfl, Nat.le_of_ble_eq_true rfl⟩ ⟨Nat.le_of_ble_eq_true rfl, Nat.le_of_ble_eq_true rfl⟩ (fun r1 u1 H locs hw1 hP hD hS => ?_)
  have hP : va_P D vwCl [(a0, .inr (11, [w0, w1, .ref h0, w3, w4, w5, w6, w7, w8, w9, w10, w11, w12, .int 0])), (h0, .inr (4, [.ref h1, v1, v2, v3, v4, v5, v6, v7, v8, v9, v10, v11, v12, v13, v14, v15])), (h1, .inl (cy 1, 4, .inl (fun _ => 0)))] H := hP
  have hD : va_D A [(a0, .inr (11, [w0, w1, .ref h0, w3, w4, w5, w6, w7, w8, w9, w10, w11, w12, .int 0])), (h0, .inr (4, [.ref h1, v1, v2, v3, v4, v5, v6, v7, v8, v9, v10, v11, v12, v13, v14, v15])), (h1, .inl (cy 1, 4, .inl (fun _ => 0)))] := hD
  refine W.widen (k := 0) (n := 0) (Nat.le_of_ble_eq_true rfl) (Nat.le_of_ble_eq_true rfl) ?_
  have hw1 : r1 = 0 := hw1
  subst hw1
  refine lv_if_eq (tgt := 36) hx hb dX11_ahead_14 (by decide) (fun _ => ?_) (fun h => absurd (by decide) h)
  refine lv_iconst (v := -1) hx hb dX11_ahead_36 (by decide) ?_
  exact x_iret hQ hx hb hr hlocks hK hP hD hS dX11_ahead_37 () (rfl) [] (by decide) rfl (Nat.le_of_ble_eq_true rfl) (Nat.le_of_ble_eq_true rfl)
theorem dX11_clears_0 : decode cX11_clears 0 = .ok (.aload_n 0, 1) := by decide +kernel
theorem dX11_clears_1 : decode cX11_clears 1 = .ok (.getfield 28, 3) := by decide +kernel
theorem dX11_clears_4 : decode cX11_clears 4 = .ok (.iconst 2, 1) := by decide +kernel
theorem dX11_clears_5 : decode cX11_clears 5 = .ok (.iload_n 1, 1) := by decide +kernel
theorem dX11_clears_6 : decode cX11_clears 6 = .ok (.invokevirtual 120, 3) := by decide +kernel
theorem dX11_clears_9 : decode cX11_clears 9 = .ok (.ifCond .eq 12, 3) := by decide +kernel
theorem dX11_clears_21 : decode cX11_clears 21 = .ok (.iconst (-1), 1) := by decide +kernel
theorem dX11_clears_22 : decode cX11_clears 22 = .ok (.ireturn, 1) := by decide +kernel
set_option maxHeartbeats 400000 in
set_option maxRecDepth 100000 in
theorem t_clears (l : Launch) (D : va_G) (cy : Nat → ClassId) (a0 : Nat) (w0 : Value) (w1 : Value) (w3 : Value) (w4 : Value) (w5 : Value) (w6 : Value) (w7 : Value) (w8 : Value) (w9 : Value) (w10 : Value) (w11 : Value) (w12 : Value) (w13 : Value) (h0 : Nat) (h1 : Nat) (v1 : Value) (v2 : Value) (v3 : Value) (v4 : Value) (v5 : Value) (v6 : Value) (v7 : Value) (v8 : Value) (v9 : Value) (v10 : Value) (v11 : Value) (v12 : Value) (v13 : Value) (v14 : Value) (v15 : Value) (ka : Int32) (kb : Int32)  : XMi l D (tyL cy) E0 yX11_clears cX11_clears 6 (some .int) (rmk 2 0 0) [.ref a0, .int ka, .int kb] [(a0, .inr (11, [w0, w1, .ref h0, w3, w4, w5, w6, w7, w8, w9, w10, w11, w12, w13])), (h0, .inr (4, [.ref h1, v1, v2, v3, v4, v5, v6, v7, v8, v9, v10, v11, v12, v13, v14, v15])), (h1, .inl (cy 1, 4, .inl (fun _ => 0)))] (fun (r : Int32) (_ : Unit) => r = -1) (fun (_ : Unit) => []) := by
  refine XMi.start (by decide) (Nat.le_of_ble_eq_true rfl) ?_
  intro p e s m below meth c args A ls Q hat hQ
  obtain ⟨hx, hb, hr, hml, hown, hg, hlocks, hin, hK, hA, hP, hD, hS, hE, hl⟩ := hat
  have hown : s.vm.findClass RX11 = some m.cls := hown
  have hl : lv_has ls 6 [(0, .ref a0), (1, .int ka), (2, .int kb)] := hl
  refine lv_aload_n hx hb dX11_clears_0 rfl (lv_at hl 0 rfl) ?_
  refine va_get (D := D) (ci := 11) (v := .ref h0) (C := RX11) (T := TX11) (N := 14) hx hb hg i_X11 hown hK hP 0 rfl rfl 2 (by decide) (hg _ m_660) (fun _ h9 => h9) rfl dX11_clears_1 ?_
  refine lv_iconst (v := 2) hx hb dX11_clears_4 (by decide) ?_
  refine lv_iload_n hx hb dX11_clears_5 rfl (lv_at hl 1 rfl) ?_
  refine x_callVi (q := (RX4, TX4, 16)) (ci := 4) (q0 := 0) (wr := [(a0, .inr (11, [w0, w1, .ref h0, w3, w4, w5, w6, w7, w8, w9, w10, w11, w12, w13]))]) (rest := []) ⟨hx, hb, hml, hown, hg, hl.1⟩ k_X11_120 (c_has l D cy h0 h1 v1 v2 v3 v4 v5 v6 v7 v8 v9 v10 v11 v12 v13 v14 v15 2 ka (by unfold vp_in; decide)) E0_blind hK hP hD hS hA [1, 2] [0] ⟨rfl, rfl, by decide, by decide, by decide⟩ rfl rfl (fun _ _ _ => trivial) dX11_clears_6 rfl rfl (Nat.le_of_ble_eq_true rfl) ⟨Nat.le_of_ble_eq_true rfl, Nat.le_of_ble_eq_true rfl⟩ ⟨Nat.le_of_ble_eq_true rfl, Nat.le_of_ble_eq_true rfl⟩ (fun r1 u1 H locs hw1 hP hD hS => ?_)
  have hP : va_P D vwCl [(a0, .inr (11, [w0, w1, .ref h0, w3, w4, w5, w6, w7, w8, w9, w10, w11, w12, w13])), (h0, .inr (4, [.ref h1, v1, v2, v3, v4, v5, v6, v7, v8, v9, v10, v11, v12, v13, v14, v15])), (h1, .inl (cy 1, 4, .inl (fun _ => 0)))] H := hP
  have hD : va_D A [(a0, .inr (11, [w0, w1, .ref h0, w3, w4, w5, w6, w7, w8, w9, w10, w11, w12, w13])), (h0, .inr (4, [.ref h1, v1, v2, v3, v4, v5, v6, v7, v8, v9, v10, v11, v12, v13, v14, v15])), (h1, .inl (cy 1, 4, .inl (fun _ => 0)))] := hD
  refine W.widen (k := 0) (n := 0) (Nat.le_of_ble_eq_true rfl) (Nat.le_of_ble_eq_true rfl) ?_
  have hw1 : r1 = 0 := hw1
  subst hw1
  refine lv_if_eq (tgt := 21) hx hb dX11_clears_9 (by decide) (fun _ => ?_) (fun h => absurd (by decide) h)
  refine lv_iconst (v := -1) hx hb dX11_clears_21 (by decide) ?_
  exact x_iret hQ hx hb hr hlocks hK hP hD hS dX11_clears_22 () (rfl) [] (by decide) rfl (Nat.le_of_ble_eq_true rfl) (Nat.le_of_ble_eq_true rfl)
theorem dX11_rhyme_0 : decode cX11_rhyme 0 = .ok (.aload_n 0, 1) := by decide +kernel
theorem dX11_rhyme_1 : decode cX11_rhyme 1 = .ok (.iconst 0, 1) := by decide +kernel
theorem dX11_rhyme_2 : decode cX11_rhyme 2 = .ok (.putfield 89, 3) := by decide +kernel
theorem dX11_rhyme_5 : decode cX11_rhyme 5 = .ok (.aload_n 0, 1) := by decide +kernel
theorem dX11_rhyme_6 : decode cX11_rhyme 6 = .ok (.getfield 28, 3) := by decide +kernel
theorem dX11_rhyme_9 : decode cX11_rhyme 9 = .ok (.iconst 2, 1) := by decide +kernel
theorem dX11_rhyme_10 : decode cX11_rhyme 10 = .ok (.iload_n 1, 1) := by decide +kernel
theorem dX11_rhyme_11 : decode cX11_rhyme 11 = .ok (.invokevirtual 120, 3) := by decide +kernel
theorem dX11_rhyme_14 : decode cX11_rhyme 14 = .ok (.ifCond .ne 5, 3) := by decide +kernel
theorem dX11_rhyme_17 : decode cX11_rhyme 17 = .ok (.iconst (-1), 1) := by decide +kernel
theorem dX11_rhyme_18 : decode cX11_rhyme 18 = .ok (.ireturn, 1) := by decide +kernel
set_option maxHeartbeats 400000 in
set_option maxRecDepth 100000 in
theorem t_rhyme (l : Launch) (D : va_G) (cy : Nat → ClassId) (a0 : Nat) (w0 : Value) (w1 : Value) (w3 : Value) (w4 : Value) (w5 : Value) (w6 : Value) (w7 : Value) (w8 : Value) (w9 : Value) (w10 : Value) (w11 : Value) (w12 : Value) (w13 : Value) (h0 : Nat) (h1 : Nat) (v1 : Value) (v2 : Value) (v3 : Value) (v4 : Value) (v5 : Value) (v6 : Value) (v7 : Value) (v8 : Value) (v9 : Value) (v10 : Value) (v11 : Value) (v12 : Value) (v13 : Value) (v14 : Value) (v15 : Value) (ka : Int32)  : XMi l D (tyL cy) E0 yX11_rhyme cX11_rhyme 3 (some .int) (rmk 2 0 0) [.ref a0, .int ka] [(a0, .inr (11, [w0, w1, .ref h0, w3, w4, w5, w6, w7, w8, w9, w10, w11, w12, w13])), (h0, .inr (4, [.ref h1, v1, v2, v3, v4, v5, v6, v7, v8, v9, v10, v11, v12, v13, v14, v15])), (h1, .inl (cy 1, 4, .inl (fun _ => 0)))] (fun (r : Int32) (_ : Unit) => r = -1) (fun (_ : Unit) => []) := by
  refine XMi.start (by decide) (Nat.le_of_ble_eq_true rfl) ?_
  intro p e s m below meth c args A ls Q hat hQ
  obtain ⟨hx, hb, hr, hml, hown, hg, hlocks, hin, hK, hA, hP, hD, hS, hE, hl⟩ := hat
  have hown : s.vm.findClass RX11 = some m.cls := hown
  have hl : lv_has ls 3 [(0, .ref a0), (1, .int ka)] := hl
  refine lv_aload_n hx hb dX11_rhyme_0 rfl (lv_at hl 0 rfl) ?_
  refine lv_iconst (v := 0) hx hb dX11_rhyme_1 (by decide) ?_
  refine va_put (D := D) (ci := 11) (v := .int 0) (ty := .int) (C := RX11) (T := TX11) (N := 14) hx hb hg i_X11 tyX11 tyX11_ok nmX11 hown hK hP hD hS 0 rfl rfl 13 (by decide) (hg _ m_671) (fun _ h9 => h9) rfl (by decide +kernel) rfl rfl (Nat.le_of_ble_eq_true rfl) dX11_rhyme_2 (fun H locs hP hD hS => ?_)
  have hP : va_P D vwCl [(a0, .inr (11, [w0, w1, .ref h0, w3, w4, w5, w6, w7, w8, w9, w10, w11, w12, .int 0])), (h0, .inr (4, [.ref h1, v1, v2, v3, v4, v5, v6, v7, v8, v9, v10, v11, v12, v13, v14, v15])), (h1, .inl (cy 1, 4, .inl (fun _ => 0)))] H := hP
  have hD : va_D A [(a0, .inr (11, [w0, w1, .ref h0, w3, w4, w5, w6, w7, w8, w9, w10, w11, w12, .int 0])), (h0, .inr (4, [.ref h1, v1, v2, v3, v4, v5, v6, v7, v8, v9, v10, v11, v12, v13, v14, v15])), (h1, .inl (cy 1, 4, .inl (fun _ => 0)))] := hD
  refine lv_aload_n hx hb dX11_rhyme_5 rfl (lv_at hl 0 rfl) ?_
  refine va_get (D := D) (ci := 11) (v := .ref h0) (C := RX11) (T := TX11) (N := 14) hx hb hg i_X11 hown hK hP 0 rfl rfl 2 (by decide) (hg _ m_660) (fun _ h9 => h9) rfl dX11_rhyme_6 ?_
  refine lv_iconst (v := 2) hx hb dX11_rhyme_9 (by decide) ?_
  refine lv_iload_n hx hb dX11_rhyme_10 rfl (lv_at hl 1 rfl) ?_
  refine x_callVi (q := (RX4, TX4, 16)) (ci := 4) (q0 := 0) (wr := [(a0, .inr (11, [w0, w1, .ref h0, w3, w4, w5, w6, w7, w8, w9, w10, w11, w12, .int 0]))]) (rest := []) ⟨hx, hb, hml, hown, hg, hl.1⟩ k_X11_120 (c_has l D cy h0 h1 v1 v2 v3 v4 v5 v6 v7 v8 v9 v10 v11 v12 v13 v14 v15 2 ka (by unfold vp_in; decide)) E0_blind hK hP hD hS hA [1, 2] [0] ⟨rfl, rfl, by decide, by decide, by decide⟩ rfl rfl (fun _ _ _ => trivial) dX11_rhyme_11 rfl rfl (Nat.le_of_ble_eq_true rfl) ⟨Nat.le_of_ble_eq_true rfl, Nat.le_of_ble_eq_true rfl⟩ ⟨Nat.le_of_ble_eq_true rfl, Nat.le_of_ble_eq_true rfl⟩ (fun r1 u1 H locs hw1 hP hD hS => ?_)
  have hP : va_P D vwCl [(a0, .inr (11, [w0, w1, .ref h0, w3, w4, w5, w6, w7, w8, w9, w10, w11, w12, .int 0])), (h0, .inr (4, [.ref h1, v1, v2, v3, v4, v5, v6, v7, v8, v9, v10, v11, v12, v13, v14, v15])), (h1, .inl (cy 1, 4, .inl (fun _ => 0)))] H := hP
  have hD : va_D A [(a0, .inr (11, [w0, w1, .ref h0, w3, w4, w5, w6, w7, w8, w9, w10, w11, w12, .int 0])), (h0, .inr (4, [.ref h1, v1, v2, v3, v4, v5, v6, v7, v8, v9, v10, v11, v12, v13, v14, v15])), (h1, .inl (cy 1, 4, .inl (fun _ => 0)))] := hD
  refine W.widen (k := 0) (n := 0) (Nat.le_of_ble_eq_true rfl) (Nat.le_of_ble_eq_true rfl) ?_
  have hw1 : r1 = 0 := hw1
  subst hw1
  refine lv_if_ne (tgt := 19) hx hb dX11_rhyme_14 (by decide) (fun h => absurd (by decide) h) (fun _ => ?_)
  refine lv_iconst (v := -1) hx hb dX11_rhyme_17 (by decide) ?_
  exact x_iret hQ hx hb hr hlocks hK hP hD hS dX11_rhyme_18 () (rfl) [] (by decide) rfl (Nat.le_of_ble_eq_true rfl) (Nat.le_of_ble_eq_true rfl)
theorem dX11_joined_0 : decode cX11_joined 0 = .ok (.aload_n 0, 1) := by decide +kernel
theorem dX11_joined_1 : decode cX11_joined 1 = .ok (.getfield 28, 3) := by decide +kernel
theorem dX11_joined_4 : decode cX11_joined 4 = .ok (.iconst 2, 1) := by decide +kernel
theorem dX11_joined_5 : decode cX11_joined 5 = .ok (.iload_n 1, 1) := by decide +kernel
theorem dX11_joined_6 : decode cX11_joined 6 = .ok (.invokevirtual 120, 3) := by decide +kernel
theorem dX11_joined_9 : decode cX11_joined 9 = .ok (.ifCond .eq 20, 3) := by decide +kernel
theorem dX11_joined_29 : decode cX11_joined 29 = .ok (.iconst (-1), 1) := by decide +kernel
theorem dX11_joined_30 : decode cX11_joined 30 = .ok (.ireturn, 1) := by decide +kernel
set_option maxHeartbeats 400000 in
set_option maxRecDepth 100000 in
theorem t_joined (l : Launch) (D : va_G) (cy : Nat → ClassId) (a0 : Nat) (w0 : Value) (w1 : Value) (w3 : Value) (w4 : Value) (w5 : Value) (w6 : Value) (w7 : Value) (w8 : Value) (w9 : Value) (w10 : Value) (w11 : Value) (w12 : Value) (w13 : Value) (h0 : Nat) (h1 : Nat) (v1 : Value) (v2 : Value) (v3 : Value) (v4 : Value) (v5 : Value) (v6 : Value) (v7 : Value) (v8 : Value) (v9 : Value) (v10 : Value) (v11 : Value) (v12 : Value) (v13 : Value) (v14 : Value) (v15 : Value) (ka : Int32) (kb : Int32)  : XMi l D (tyL cy) E0 yX11_joined cX11_joined 3 (some .int) (rmk 2 0 0) [.ref a0, .int ka, .int kb] [(a0, .inr (11, [w0, w1, .ref h0, w3, w4, w5, w6, w7, w8, w9, w10, w11, w12, w13])), (h0, .inr (4, [.ref h1, v1, v2, v3, v4, v5, v6, v7, v8, v9, v10, v11, v12, v13, v14, v15])), (h1, .inl (cy 1, 4, .inl (fun _ => 0)))] (fun (r : Int32) (_ : Unit) => r = -1) (fun (_ : Unit) => []) := by
  refine XMi.start (by decide) (Nat.le_of_ble_eq_true rfl) ?_
  intro p e s m below meth c args A ls Q hat hQ
  obtain ⟨hx, hb, hr, hml, hown, hg, hlocks, hin, hK, hA, hP, hD, hS, hE, hl⟩ := hat
  have hown : s.vm.findClass RX11 = some m.cls := hown
  have hl : lv_has ls 3 [(0, .ref a0), (1, .int ka), (2, .int kb)] := hl
  refine lv_aload_n hx hb dX11_joined_0 rfl (lv_at hl 0 rfl) ?_
  refine va_get (D := D) (ci := 11) (v := .ref h0) (C := RX11) (T := TX11) (N := 14) hx hb hg i_X11 hown hK hP 0 rfl rfl 2 (by decide) (hg _ m_660) (fun _ h9 => h9) rfl dX11_joined_1 ?_
  refine lv_iconst (v := 2) hx hb dX11_joined_4 (by decide) ?_
  refine lv_iload_n hx hb dX11_joined_5 rfl (lv_at hl 1 rfl) ?_
  refine x_callVi (q := (RX4, TX4, 16)) (ci := 4) (q0 := 0) (wr := [(a0, .inr (11, [w0, w1, .ref h0, w3, w4, w5, w6, w7, w8, w9, w10, w11, w12, w13]))]) (rest := []) ⟨hx, hb, hml, hown, hg, hl.1⟩ k_X11_120 (c_has l D cy h0 h1 v1 v2 v3 v4 v5 v6 v7 v8 v9 v10 v11 v12 v13 v14 v15 2 ka (by unfold vp_in; decide)) E0_blind hK hP hD hS hA [1, 2] [0] ⟨rfl, rfl, by decide, by decide, by decide⟩ rfl rfl (fun _ _ _ => trivial) dX11_joined_6 rfl rfl (Nat.le_of_ble_eq_true rfl) ⟨Nat.le_of_ble_eq_true rfl, Nat.le_of_ble_eq_true rfl⟩ ⟨Nat.le_of_ble_eq_true rfl, Nat.le_of_ble_eq_true rfl⟩ (fun r1 u1 H locs hw1 hP hD hS => ?_)
  have hP : va_P D vwCl [(a0, .inr (11, [w0, w1, .ref h0, w3, w4, w5, w6, w7, w8, w9, w10, w11, w12, w13])), (h0, .inr (4, [.ref h1, v1, v2, v3, v4, v5, v6, v7, v8, v9, v10, v11, v12, v13, v14, v15])), (h1, .inl (cy 1, 4, .inl (fun _ => 0)))] H := hP
  have hD : va_D A [(a0, .inr (11, [w0, w1, .ref h0, w3, w4, w5, w6, w7, w8, w9, w10, w11, w12, w13])), (h0, .inr (4, [.ref h1, v1, v2, v3, v4, v5, v6, v7, v8, v9, v10, v11, v12, v13, v14, v15])), (h1, .inl (cy 1, 4, .inl (fun _ => 0)))] := hD
  refine W.widen (k := 0) (n := 0) (Nat.le_of_ble_eq_true rfl) (Nat.le_of_ble_eq_true rfl) ?_
  have hw1 : r1 = 0 := hw1
  subst hw1
  refine lv_if_eq (tgt := 29) hx hb dX11_joined_9 (by decide) (fun _ => ?_) (fun h => absurd (by decide) h)
  refine lv_iconst (v := -1) hx hb dX11_joined_29 (by decide) ?_
  exact x_iret hQ hx hb hr hlocks hK hP hD hS dX11_joined_30 () (rfl) [] (by decide) rfl (Nat.le_of_ble_eq_true rfl) (Nat.le_of_ble_eq_true rfl)
theorem dX11_luck_0 : decode cX11_luck 0 = .ok (.aload_n 0, 1) := by decide +kernel
theorem dX11_luck_1 : decode cX11_luck 1 = .ok (.getfield 28, 3) := by decide +kernel
theorem dX11_luck_4 : decode cX11_luck 4 = .ok (.iconst 2, 1) := by decide +kernel
theorem dX11_luck_5 : decode cX11_luck 5 = .ok (.iload_n 1, 1) := by decide +kernel
theorem dX11_luck_6 : decode cX11_luck 6 = .ok (.invokevirtual 120, 3) := by decide +kernel
theorem dX11_luck_9 : decode cX11_luck 9 = .ok (.ifCond .ne 5, 3) := by decide +kernel
theorem dX11_luck_12 : decode cX11_luck 12 = .ok (.iconst (-1), 1) := by decide +kernel
theorem dX11_luck_13 : decode cX11_luck 13 = .ok (.ireturn, 1) := by decide +kernel
set_option maxHeartbeats 400000 in
set_option maxRecDepth 100000 in
theorem t_luck (l : Launch) (D : va_G) (cy : Nat → ClassId) (a0 : Nat) (w0 : Value) (w1 : Value) (w3 : Value) (w4 : Value) (w5 : Value) (w6 : Value) (w7 : Value) (w8 : Value) (w9 : Value) (w10 : Value) (w11 : Value) (w12 : Value) (w13 : Value) (h0 : Nat) (h1 : Nat) (v1 : Value) (v2 : Value) (v3 : Value) (v4 : Value) (v5 : Value) (v6 : Value) (v7 : Value) (v8 : Value) (v9 : Value) (v10 : Value) (v11 : Value) (v12 : Value) (v13 : Value) (v14 : Value) (v15 : Value) (ka : Int32)  : XMi l D (tyL cy) E0 yX11_luck cX11_luck 4 (some .int) (rmk 2 0 0) [.ref a0, .int ka] [(a0, .inr (11, [w0, w1, .ref h0, w3, w4, w5, w6, w7, w8, w9, w10, w11, w12, w13])), (h0, .inr (4, [.ref h1, v1, v2, v3, v4, v5, v6, v7, v8, v9, v10, v11, v12, v13, v14, v15])), (h1, .inl (cy 1, 4, .inl (fun _ => 0)))] (fun (r : Int32) (_ : Unit) => r = -1) (fun (_ : Unit) => []) := by
  refine XMi.start (by decide) (Nat.le_of_ble_eq_true rfl) ?_
  intro p e s m below meth c args A ls Q hat hQ
  obtain ⟨hx, hb, hr, hml, hown, hg, hlocks, hin, hK, hA, hP, hD, hS, hE, hl⟩ := hat
  have hown : s.vm.findClass RX11 = some m.cls := hown
  have hl : lv_has ls 4 [(0, .ref a0), (1, .int ka)] := hl
  refine lv_aload_n hx hb dX11_luck_0 rfl (lv_at hl 0 rfl) ?_
  refine va_get (D := D) (ci := 11) (v := .ref h0) (C := RX11) (T := TX11) (N := 14) hx hb hg i_X11 hown hK hP 0 rfl rfl 2 (by decide) (hg _ m_660) (fun _ h9 => h9) rfl dX11_luck_1 ?_
  refine lv_iconst (v := 2) hx hb dX11_luck_4 (by decide) ?_
  refine lv_iload_n hx hb dX11_luck_5 rfl (lv_at hl 1 rfl) ?_
  refine x_callVi (q := (RX4, TX4, 16)) (ci := 4) (q0 := 0) (wr := [(a0, .inr (11, [w0, w1, .ref h0, w3, w4, w5, w6, w7, w8, w9, w10, w11, w12, w13]))]) (rest := []) ⟨hx, hb, hml, hown, hg, hl.1⟩ k_X11_120 (c_has l D cy h0 h1 v1 v2 v3 v4 v5 v6 v7 v8 v9 v10 v11 v12 v13 v14 v15 2 ka (by unfold vp_in; decide)) E0_blind hK hP hD hS hA [1, 2] [0] ⟨rfl, rfl, by decide, by decide, by decide⟩ rfl rfl (fun _ _ _ => trivial) dX11_luck_6 rfl rfl (Nat.le_of_ble_eq_true rfl) ⟨Nat.le_of_ble_eq_true rfl, Nat.le_of_ble_eq_true rfl⟩ ⟨Nat.le_of_ble_eq_true rfl, Nat.le_of_ble_eq_true rfl⟩ (fun r1 u1 H locs hw1 hP hD hS => ?_)
  have hP : va_P D vwCl [(a0, .inr (11, [w0, w1, .ref h0, w3, w4, w5, w6, w7, w8, w9, w10, w11, w12, w13])), (h0, .inr (4, [.ref h1, v1, v2, v3, v4, v5, v6, v7, v8, v9, v10, v11, v12, v13, v14, v15])), (h1, .inl (cy 1, 4, .inl (fun _ => 0)))] H := hP
  have hD : va_D A [(a0, .inr (11, [w0, w1, .ref h0, w3, w4, w5, w6, w7, w8, w9, w10, w11, w12, w13])), (h0, .inr (4, [.ref h1, v1, v2, v3, v4, v5, v6, v7, v8, v9, v10, v11, v12, v13, v14, v15])), (h1, .inl (cy 1, 4, .inl (fun _ => 0)))] := hD
  refine W.widen (k := 0) (n := 0) (Nat.le_of_ble_eq_true rfl) (Nat.le_of_ble_eq_true rfl) ?_
  have hw1 : r1 = 0 := hw1
  subst hw1
  refine lv_if_ne (tgt := 14) hx hb dX11_luck_9 (by decide) (fun h => absurd (by decide) h) (fun _ => ?_)
  refine lv_iconst (v := -1) hx hb dX11_luck_12 (by decide) ?_
  exact x_iret hQ hx hb hr hlocks hK hP hD hS dX11_luck_13 () (rfl) [] (by decide) rfl (Nat.le_of_ble_eq_true rfl) (Nat.le_of_ble_eq_true rfl)
theorem dX11_winds_0 : decode cX11_winds 0 = .ok (.aload_n 0, 1) := by decide +kernel
theorem dX11_winds_1 : decode cX11_winds 1 = .ok (.getfield 28, 3) := by decide +kernel
theorem dX11_winds_4 : decode cX11_winds 4 = .ok (.iconst 2, 1) := by decide +kernel
theorem dX11_winds_5 : decode cX11_winds 5 = .ok (.iload_n 1, 1) := by decide +kernel
theorem dX11_winds_6 : decode cX11_winds 6 = .ok (.invokevirtual 120, 3) := by decide +kernel
theorem dX11_winds_9 : decode cX11_winds 9 = .ok (.ifCond .ne 5, 3) := by decide +kernel
theorem dX11_winds_12 : decode cX11_winds 12 = .ok (.iconst (-1), 1) := by decide +kernel
theorem dX11_winds_13 : decode cX11_winds 13 = .ok (.ireturn, 1) := by decide +kernel
set_option maxHeartbeats 400000 in
set_option maxRecDepth 100000 in
theorem t_winds (l : Launch) (D : va_G) (cy : Nat → ClassId) (a0 : Nat) (w0 : Value) (w1 : Value) (w3 : Value) (w4 : Value) (w5 : Value) (w6 : Value) (w7 : Value) (w8 : Value) (w9 : Value) (w10 : Value) (w11 : Value) (w12 : Value) (w13 : Value) (h0 : Nat) (h1 : Nat) (v1 : Value) (v2 : Value) (v3 : Value) (v4 : Value) (v5 : Value) (v6 : Value) (v7 : Value) (v8 : Value) (v9 : Value) (v10 : Value) (v11 : Value) (v12 : Value) (v13 : Value) (v14 : Value) (v15 : Value) (ka : Int32)  : XMi l D (tyL cy) E0 yX11_winds cX11_winds 4 (some .int) (rmk 2 0 0) [.ref a0, .int ka] [(a0, .inr (11, [w0, w1, .ref h0, w3, w4, w5, w6, w7, w8, w9, w10, w11, w12, w13])), (h0, .inr (4, [.ref h1, v1, v2, v3, v4, v5, v6, v7, v8, v9, v10, v11, v12, v13, v14, v15])), (h1, .inl (cy 1, 4, .inl (fun _ => 0)))] (fun (r : Int32) (_ : Unit) => r = -1) (fun (_ : Unit) => []) := by
  refine XMi.start (by decide) (Nat.le_of_ble_eq_true rfl) ?_
  intro p e s m below meth c args A ls Q hat hQ
  obtain ⟨hx, hb, hr, hml, hown, hg, hlocks, hin, hK, hA, hP, hD, hS, hE, hl⟩ := hat
  have hown : s.vm.findClass RX11 = some m.cls := hown
  have hl : lv_has ls 4 [(0, .ref a0), (1, .int ka)] := hl
  refine lv_aload_n hx hb dX11_winds_0 rfl (lv_at hl 0 rfl) ?_
  refine va_get (D := D) (ci := 11) (v := .ref h0) (C := RX11) (T := TX11) (N := 14) hx hb hg i_X11 hown hK hP 0 rfl rfl 2 (by decide) (hg _ m_660) (fun _ h9 => h9) rfl dX11_winds_1 ?_
  refine lv_iconst (v := 2) hx hb dX11_winds_4 (by decide) ?_
  refine lv_iload_n hx hb dX11_winds_5 rfl (lv_at hl 1 rfl) ?_
  refine x_callVi (q := (RX4, TX4, 16)) (ci := 4) (q0 := 0) (wr := [(a0, .inr (11, [w0, w1, .ref h0, w3, w4, w5, w6, w7, w8, w9, w10, w11, w12, w13]))]) (rest := []) ⟨hx, hb, hml, hown, hg, hl.1⟩ k_X11_120 (c_has l D cy h0 h1 v1 v2 v3 v4 v5 v6 v7 v8 v9 v10 v11 v12 v13 v14 v15 2 ka (by unfold vp_in; decide)) E0_blind hK hP hD hS hA [1, 2] [0] ⟨rfl, rfl, by decide, by decide, by decide⟩ rfl rfl (fun _ _ _ => trivial) dX11_winds_6 rfl rfl (Nat.le_of_ble_eq_true rfl) ⟨Nat.le_of_ble_eq_true rfl, Nat.le_of_ble_eq_true rfl⟩ ⟨Nat.le_of_ble_eq_true rfl, Nat.le_of_ble_eq_true rfl⟩ (fun r1 u1 H locs hw1 hP hD hS => ?_)
  have hP : va_P D vwCl [(a0, .inr (11, [w0, w1, .ref h0, w3, w4, w5, w6, w7, w8, w9, w10, w11, w12, w13])), (h0, .inr (4, [.ref h1, v1, v2, v3, v4, v5, v6, v7, v8, v9, v10, v11, v12, v13, v14, v15])), (h1, .inl (cy 1, 4, .inl (fun _ => 0)))] H := hP
  have hD : va_D A [(a0, .inr (11, [w0, w1, .ref h0, w3, w4, w5, w6, w7, w8, w9, w10, w11, w12, w13])), (h0, .inr (4, [.ref h1, v1, v2, v3, v4, v5, v6, v7, v8, v9, v10, v11, v12, v13, v14, v15])), (h1, .inl (cy 1, 4, .inl (fun _ => 0)))] := hD
  refine W.widen (k := 0) (n := 0) (Nat.le_of_ble_eq_true rfl) (Nat.le_of_ble_eq_true rfl) ?_
  have hw1 : r1 = 0 := hw1
  subst hw1
  refine lv_if_ne (tgt := 14) hx hb dX11_winds_9 (by decide) (fun h => absurd (by decide) h) (fun _ => ?_)
  refine lv_iconst (v := -1) hx hb dX11_winds_12 (by decide) ?_
  exact x_iret hQ hx hb hr hlocks hK hP hD hS dX11_winds_13 () (rfl) [] (by decide) rfl (Nat.le_of_ble_eq_true rfl) (Nat.le_of_ble_eq_true rfl)
theorem dX11_more_0 : decode cX11_more 0 = .ok (.aload_n 0, 1) := by decide +kernel
theorem dX11_more_1 : decode cX11_more 1 = .ok (.getfield 28, 3) := by decide +kernel
theorem dX11_more_4 : decode cX11_more 4 = .ok (.iconst 2, 1) := by decide +kernel
theorem dX11_more_5 : decode cX11_more 5 = .ok (.iload_n 1, 1) := by decide +kernel
theorem dX11_more_6 : decode cX11_more 6 = .ok (.invokevirtual 120, 3) := by decide +kernel
theorem dX11_more_9 : decode cX11_more 9 = .ok (.ifCond .ne 5, 3) := by decide +kernel
theorem dX11_more_12 : decode cX11_more 12 = .ok (.iconst (-1), 1) := by decide +kernel
theorem dX11_more_13 : decode cX11_more 13 = .ok (.ireturn, 1) := by decide +kernel
set_option maxHeartbeats 400000 in
set_option maxRecDepth 100000 in
theorem t_more (l : Launch) (D : va_G) (cy : Nat → ClassId) (a0 : Nat) (w0 : Value) (w1 : Value) (w3 : Value) (w4 : Value) (w5 : Value) (w6 : Value) (w7 : Value) (w8 : Value) (w9 : Value) (w10 : Value) (w11 : Value) (w12 : Value) (w13 : Value) (h0 : Nat) (h1 : Nat) (v1 : Value) (v2 : Value) (v3 : Value) (v4 : Value) (v5 : Value) (v6 : Value) (v7 : Value) (v8 : Value) (v9 : Value) (v10 : Value) (v11 : Value) (v12 : Value) (v13 : Value) (v14 : Value) (v15 : Value) (ka : Int32)  : XMi l D (tyL cy) E0 yX11_more cX11_more 5 (some .int) (rmk 2 0 0) [.ref a0, .int ka] [(a0, .inr (11, [w0, w1, .ref h0, w3, w4, w5, w6, w7, w8, w9, w10, w11, w12, w13])), (h0, .inr (4, [.ref h1, v1, v2, v3, v4, v5, v6, v7, v8, v9, v10, v11, v12, v13, v14, v15])), (h1, .inl (cy 1, 4, .inl (fun _ => 0)))] (fun (r : Int32) (_ : Unit) => r = -1) (fun (_ : Unit) => []) := by
  refine XMi.start (by decide) (Nat.le_of_ble_eq_true rfl) ?_
  intro p e s m below meth c args A ls Q hat hQ
  obtain ⟨hx, hb, hr, hml, hown, hg, hlocks, hin, hK, hA, hP, hD, hS, hE, hl⟩ := hat
  have hown : s.vm.findClass RX11 = some m.cls := hown
  have hl : lv_has ls 5 [(0, .ref a0), (1, .int ka)] := hl
  refine lv_aload_n hx hb dX11_more_0 rfl (lv_at hl 0 rfl) ?_
  refine va_get (D := D) (ci := 11) (v := .ref h0) (C := RX11) (T := TX11) (N := 14) hx hb hg i_X11 hown hK hP 0 rfl rfl 2 (by decide) (hg _ m_660) (fun _ h9 => h9) rfl dX11_more_1 ?_
  refine lv_iconst (v := 2) hx hb dX11_more_4 (by decide) ?_
  refine lv_iload_n hx hb dX11_more_5 rfl (lv_at hl 1 rfl) ?_
  refine x_callVi (q := (RX4, TX4, 16)) (ci := 4) (q0 := 0) (wr := [(a0, .inr (11, [w0, w1, .ref h0, w3, w4, w5, w6, w7, w8, w9, w10, w11, w12, w13]))]) (rest := []) ⟨hx, hb, hml, hown, hg, hl.1⟩ k_X11_120 (c_has l D cy h0 h1 v1 v2 v3 v4 v5 v6 v7 v8 v9 v10 v11 v12 v13 v14 v15 2 ka (by unfold vp_in; decide)) E0_blind hK hP hD hS hA [1, 2] [0] ⟨rfl, rfl, by decide, by decide, by decide⟩ rfl rfl (fun _ _ _ => trivial) dX11_more_6 rfl rfl (Nat.le_of_ble_eq_true rfl) ⟨Nat.le_of_ble_eq_true rfl, Nat.le_of_ble_eq_true rfl⟩ ⟨Nat.le_of_ble_eq_true rfl, Nat.le_of_ble_eq_true rfl⟩ (fun r1 u1 H locs hw1 hP hD hS => ?_)
  have hP : va_P D vwCl [(a0, .inr (11, [w0, w1, .ref h0, w3, w4, w5, w6, w7, w8, w9, w10, w11, w12, w13])), (h0, .inr (4, [.ref h1, v1, v2, v3, v4, v5, v6, v7, v8, v9, v10, v11, v12, v13, v14, v15])), (h1, .inl (cy 1, 4, .inl (fun _ => 0)))] H := hP
  have hD : va_D A [(a0, .inr (11, [w0, w1, .ref h0, w3, w4, w5, w6, w7, w8, w9, w10, w11, w12, w13])), (h0, .inr (4, [.ref h1, v1, v2, v3, v4, v5, v6, v7, v8, v9, v10, v11, v12, v13, v14, v15])), (h1, .inl (cy 1, 4, .inl (fun _ => 0)))] := hD
  refine W.widen (k := 0) (n := 0) (Nat.le_of_ble_eq_true rfl) (Nat.le_of_ble_eq_true rfl) ?_
  have hw1 : r1 = 0 := hw1
  subst hw1
  refine lv_if_ne (tgt := 14) hx hb dX11_more_9 (by decide) (fun h => absurd (by decide) h) (fun _ => ?_)
  refine lv_iconst (v := -1) hx hb dX11_more_12 (by decide) ?_
  exact x_iret hQ hx hb hr hlocks hK hP hD hS dX11_more_13 () (rfl) [] (by decide) rfl (Nat.le_of_ble_eq_true rfl) (Nat.le_of_ble_eq_true rfl)
theorem dX11_way_0 : decode cX11_way 0 = .ok (.aload_n 0, 1) := by decide +kernel
theorem dX11_way_1 : decode cX11_way 1 = .ok (.iconst 0, 1) := by decide +kernel
theorem dX11_way_2 : decode cX11_way 2 = .ok (.putfield 89, 3) := by decide +kernel
theorem dX11_way_5 : decode cX11_way 5 = .ok (.aload_n 0, 1) := by decide +kernel
theorem dX11_way_6 : decode cX11_way 6 = .ok (.getfield 28, 3) := by decide +kernel
theorem dX11_way_9 : decode cX11_way 9 = .ok (.iconst 3, 1) := by decide +kernel
theorem dX11_way_10 : decode cX11_way 10 = .ok (.iload_n 1, 1) := by decide +kernel
theorem dX11_way_11 : decode cX11_way 11 = .ok (.invokevirtual 120, 3) := by decide +kernel
theorem dX11_way_14 : decode cX11_way 14 = .ok (.ifCond .ne 5, 3) := by decide +kernel
theorem dX11_way_17 : decode cX11_way 17 = .ok (.iconst (-1), 1) := by decide +kernel
theorem dX11_way_18 : decode cX11_way 18 = .ok (.ireturn, 1) := by decide +kernel
set_option maxHeartbeats 400000 in
set_option maxRecDepth 100000 in
theorem t_way (l : Launch) (D : va_G) (cy : Nat → ClassId) (a0 : Nat) (w0 : Value) (w1 : Value) (w3 : Value) (w4 : Value) (w5 : Value) (w6 : Value) (w7 : Value) (w8 : Value) (w9 : Value) (w10 : Value) (w11 : Value) (w12 : Value) (w13 : Value) (h0 : Nat) (h1 : Nat) (v1 : Value) (v2 : Value) (v3 : Value) (v4 : Value) (v5 : Value) (v6 : Value) (v7 : Value) (v8 : Value) (v9 : Value) (v10 : Value) (v11 : Value) (v12 : Value) (v13 : Value) (v14 : Value) (v15 : Value) (ka : Int32)  : XMi l D (tyL cy) E0 yX11_way cX11_way 3 (some .int) (rmk 2 0 0) [.ref a0, .int ka] [(a0, .inr (11, [w0, w1, .ref h0, w3, w4, w5, w6, w7, w8, w9, w10, w11, w12, w13])), (h0, .inr (4, [.ref h1, v1, v2, v3, v4, v5, v6, v7, v8, v9, v10, v11, v12, v13, v14, v15])), (h1, .inl (cy 1, 4, .inl (fun _ => 0)))] (fun (r : Int32) (_ : Unit) => r = -1) (fun (_ : Unit) => []) := by
  refine XMi.start (by decide) (Nat.le_of_ble_eq_true rfl) ?_
  intro p e s m below meth c args A ls Q hat hQ
  obtain ⟨hx, hb, hr, hml, hown, hg, hlocks, hin, hK, hA, hP, hD, hS, hE, hl⟩ := hat
  have hown : s.vm.findClass RX11 = some m.cls := hown
  have hl : lv_has ls 3 [(0, .ref a0), (1, .int ka)] := hl
  refine lv_aload_n hx hb dX11_way_0 rfl (lv_at hl 0 rfl) ?_
  refine lv_iconst (v := 0) hx hb dX11_way_1 (by decide) ?_
  refine va_put (D := D) (ci := 11) (v := .int 0) (ty := .int) (C := RX11) (T := TX11) (N := 14) hx hb hg i_X11 tyX11 tyX11_ok nmX11 hown hK hP hD hS 0 rfl rfl 13 (by decide) (hg _ m_671) (fun _ h9 => h9) rfl (by decide +kernel) rfl rfl (Nat.le_of_ble_eq_true rfl) dX11_way_2 (fun H locs hP hD hS => ?_)
  have hP : va_P D vwCl [(a0, .inr (11, [w0, w1, .ref h0, w3, w4, w5, w6, w7, w8, w9, w10, w11, w12, .int 0])), (h0, .inr (4, [.ref h1, v1, v2, v3, v4, v5, v6, v7, v8, v9, v10, v11, v12, v13, v14, v15])), (h1, .inl (cy 1, 4, .inl (fun _ => 0)))] H := hP
  have hD : va_D A [(a0, .inr (11, [w0, w1, .ref h0, w3, w4, w5, w6, w7, w8, w9, w10, w11, w12, .int 0])), (h0, .inr (4, [.ref h1, v1, v2, v3, v4, v5, v6, v7, v8, v9, v10, v11, v12, v13, v14, v15])), (h1, .inl (cy 1, 4, .inl (fun _ => 0)))] := hD
  refine lv_aload_n hx hb dX11_way_5 rfl (lv_at hl 0 rfl) ?_
  refine va_get (D := D) (ci := 11) (v := .ref h0) (C := RX11) (T := TX11) (N := 14) hx hb hg i_X11 hown hK hP 0 rfl rfl 2 (by decide) (hg _ m_660) (fun _ h9 => h9) rfl dX11_way_6 ?_
  refine lv_iconst (v := 3) hx hb dX11_way_9 (by decide) ?_
  refine lv_iload_n hx hb dX11_way_10 rfl (lv_at hl 1 rfl) ?_
  refine x_callVi (q := (RX4, TX4, 16)) (ci := 4) (q0 := 0) (wr := [(a0, .inr (11, [w0, w1, .ref h0, w3, w4, w5, w6, w7, w8, w9, w10, w11, w12, .int 0]))]) (rest := []) ⟨hx, hb, hml, hown, hg, hl.1⟩ k_X11_120 (c_has l D cy h0 h1 v1 v2 v3 v4 v5 v6 v7 v8 v9 v10 v11 v12 v13 v14 v15 3 ka (by unfold vp_in; decide)) E0_blind hK hP hD hS hA [1, 2] [0] ⟨rfl, rfl, by decide, by decide, by decide⟩ rfl rfl (fun _ _ _ => trivial) dX11_way_11 rfl rfl (Nat.le_of_ble_eq_true rfl) ⟨Nat.le_of_ble_eq_true rfl, Nat.le_of_ble_eq_true rfl⟩ ⟨Nat.le_of_ble_eq_true rfl, Nat.le_of_ble_eq_true rfl⟩ (fun r1 u1 H locs hw1 hP hD hS => ?_)
  have hP : va_P D vwCl [(a0, .inr (11, [w0, w1, .ref h0, w3, w4, w5, w6, w7, w8, w9, w10, w11, w12, .int 0])), (h0, .inr (4, [.ref h1, v1, v2, v3, v4, v5, v6, v7, v8, v9, v10, v11, v12, v13, v14, v15])), (h1, .inl (cy 1, 4, .inl (fun _ => 0)))] H := hP
  have hD : va_D A [(a0, .inr (11, [w0, w1, .ref h0, w3, w4, w5, w6, w7, w8, w9, w10, w11, w12, .int 0])), (h0, .inr (4, [.ref h1, v1, v2, v3, v4, v5, v6, v7, v8, v9, v10, v11, v12, v13, v14, v15])), (h1, .inl (cy 1, 4, .inl (fun _ => 0)))] := hD
  refine W.widen (k := 0) (n := 0) (Nat.le_of_ble_eq_true rfl) (Nat.le_of_ble_eq_true rfl) ?_
  have hw1 : r1 = 0 := hw1
  subst hw1
  refine lv_if_ne (tgt := 19) hx hb dX11_way_14 (by decide) (fun h => absurd (by decide) h) (fun _ => ?_)
  refine lv_iconst (v := -1) hx hb dX11_way_17 (by decide) ?_
  exact x_iret hQ hx hb hr hlocks hK hP hD hS dX11_way_18 () (rfl) [] (by decide) rfl (Nat.le_of_ble_eq_true rfl) (Nat.le_of_ble_eq_true rfl)
theorem dX11_sound_0 : decode cX11_sound 0 = .ok (.aload_n 0, 1) := by decide +kernel
theorem dX11_sound_1 : decode cX11_sound 1 = .ok (.getfield 28, 3) := by decide +kernel
theorem dX11_sound_4 : decode cX11_sound 4 = .ok (.iconst 1, 1) := by decide +kernel
theorem dX11_sound_5 : decode cX11_sound 5 = .ok (.iload_n 1, 1) := by decide +kernel
theorem dX11_sound_6 : decode cX11_sound 6 = .ok (.invokevirtual 120, 3) := by decide +kernel
theorem dX11_sound_9 : decode cX11_sound 9 = .ok (.ifCond .eq 23, 3) := by decide +kernel
theorem dX11_sound_32 : decode cX11_sound 32 = .ok (.iconst (-1), 1) := by decide +kernel
theorem dX11_sound_33 : decode cX11_sound 33 = .ok (.ireturn, 1) := by decide +kernel
set_option maxHeartbeats 400000 in
set_option maxRecDepth 100000 in
theorem t_sound (l : Launch) (D : va_G) (cy : Nat → ClassId) (a0 : Nat) (w0 : Value) (w1 : Value) (w3 : Value) (w4 : Value) (w5 : Value) (w6 : Value) (w7 : Value) (w8 : Value) (w9 : Value) (w10 : Value) (w11 : Value) (w12 : Value) (w13 : Value) (h0 : Nat) (h1 : Nat) (v1 : Value) (v2 : Value) (v3 : Value) (v4 : Value) (v5 : Value) (v6 : Value) (v7 : Value) (v8 : Value) (v9 : Value) (v10 : Value) (v11 : Value) (v12 : Value) (v13 : Value) (v14 : Value) (v15 : Value) (ka : Int32) (kb : Int32) (kc : Int32)  : XMi l D (tyL cy) E0 yX11_sound cX11_sound 4 (some .int) (rmk 2 0 0) [.ref a0, .int ka, .int kb, .int kc] [(a0, .inr (11, [w0, w1, .ref h0, w3, w4, w5, w6, w7, w8, w9, w10, w11, w12, w13])), (h0, .inr (4, [.ref h1, v1, v2, v3, v4, v5, v6, v7, v8, v9, v10, v11, v12, v13, v14, v15])), (h1, .inl (cy 1, 4, .inl (fun _ => 0)))] (fun (r : Int32) (_ : Unit) => r = -1) (fun (_ : Unit) => []) := by
  refine XMi.start (by decide) (Nat.le_of_ble_eq_true rfl) ?_
  intro p e s m below meth c args A ls Q hat hQ
  obtain ⟨hx, hb, hr, hml, hown, hg, hlocks, hin, hK, hA, hP, hD, hS, hE, hl⟩ := hat
  have hown : s.vm.findClass RX11 = some m.cls := hown
  have hl : lv_has ls 4 [(0, .ref a0), (1, .int ka), (2, .int kb), (3, .int kc)] := hl
  refine lv_aload_n hx hb dX11_sound_0 rfl (lv_at hl 0 rfl) ?_
  refine va_get (D := D) (ci := 11) (v := .ref h0) (C := RX11) (T := TX11) (N := 14) hx hb hg i_X11 hown hK hP 0 rfl rfl 2 (by decide) (hg _ m_660) (fun _ h9 => h9) rfl dX11_sound_1 ?_
  refine lv_iconst (v := 1) hx hb dX11_sound_4 (by decide) ?_
  refine lv_iload_n hx hb dX11_sound_5 rfl (lv_at hl 1 rfl) ?_
  refine x_callVi (q := (RX4, TX4, 16)) (ci := 4) (q0 := 0) (wr := [(a0, .inr (11, [w0, w1, .ref h0, w3, w4, w5, w6, w7, w8, w9, w10, w11, w12, w13]))]) (rest := []) ⟨hx, hb, hml, hown, hg, hl.1⟩ k_X11_120 (c_has l D cy h0 h1 v1 v2 v3 v4 v5 v6 v7 v8 v9 v10 v11 v12 v13 v14 v15 1 ka (by unfold vp_in; decide)) E0_blind hK hP hD hS hA [1, 2] [0] ⟨rfl, rfl, by decide, by decide, by decide⟩ rfl rfl (fun _ _ _ => trivial) dX11_sound_6 rfl rfl (Nat.le_of_ble_eq_true rfl) ⟨Nat.le_of_ble_eq_true rfl, Nat.le_of_ble_eq_true rfl⟩ ⟨Nat.le_of_ble_eq_true rfl, Nat.le_of_ble_eq_true rfl⟩ (fun r1 u1 H locs hw1 hP hD hS => ?_)
  have hP : va_P D vwCl [(a0, .inr (11, [w0, w1, .ref h0, w3, w4, w5, w6, w7, w8, w9, w10, w11, w12, w13])), (h0, .inr (4, [.ref h1, v1, v2, v3, v4, v5, v6, v7, v8, v9, v10, v11, v12, v13, v14, v15])), (h1, .inl (cy 1, 4, .inl (fun _ => 0)))] H := hP
  have hD : va_D A [(a0, .inr (11, [w0, w1, .ref h0, w3, w4, w5, w6, w7, w8, w9, w10, w11, w12, w13])), (h0, .inr (4, [.ref h1, v1, v2, v3, v4, v5, v6, v7, v8, v9, v10, v11, v12, v13, v14, v15])), (h1, .inl (cy 1, 4, .inl (fun _ => 0)))] := hD
  refine W.widen (k := 0) (n := 0) (Nat.le_of_ble_eq_true rfl) (Nat.le_of_ble_eq_true rfl) ?_
  have hw1 : r1 = 0 := hw1
  subst hw1
  refine lv_if_eq (tgt := 32) hx hb dX11_sound_9 (by decide) (fun _ => ?_) (fun h => absurd (by decide) h)
  refine lv_iconst (v := -1) hx hb dX11_sound_32 (by decide) ?_
  exact x_iret hQ hx hb hr hlocks hK hP hD hS dX11_sound_33 () (rfl) [] (by decide) rfl (Nat.le_of_ble_eq_true rfl) (Nat.le_of_ble_eq_true rfl)
theorem dX11_unsay_0 : decode cX11_unsay 0 = .ok (.iload_n 1, 1) := by decide +kernel
theorem dX11_unsay_1 : decode cX11_unsay 1 = .ok (.invokestatic 143, 3) := by decide +kernel
theorem dX11_unsay_4 : decode cX11_unsay 4 = .ok (.ifCond .eq 14, 3) := by decide +kernel
theorem dX11_unsay_18 : decode cX11_unsay 18 = .ok (.iconst (-1), 1) := by decide +kernel
theorem dX11_unsay_19 : decode cX11_unsay 19 = .ok (.ireturn, 1) := by decide +kernel
theorem dX11_unsay_7 : decode cX11_unsay 7 = .ok (.aload_n 0, 1) := by decide +kernel
theorem dX11_unsay_8 : decode cX11_unsay 8 = .ok (.getfield 38, 3) := by decide +kernel
theorem m_662 : (Cond.fieldLink RX11 38 "CliffJudges" "moments" "LCliffJudges$Moments;") ∈ gT := gm 662 (by decide +kernel) (by decide +kernel)
theorem dX11_unsay_11 : decode cX11_unsay 11 = .ok (.iload_n 1, 1) := by decide +kernel
theorem dX11_unsay_12 : decode cX11_unsay 12 = .ok (.invokevirtual 147, 3) := by decide +kernel
theorem m_972 : (Cond.methodLink RX11 147 yX5_cryLength) ∈ gT := gm 972 (by decide +kernel) (by decide +kernel)
theorem m_973 : (Cond.instanceMethod yX5_cryLength) ∈ gT := gm 973 (by decide +kernel) (by decide +kernel)
theorem m_974 : (Cond.selects RX5 yX5_cryLength yX5_cryLength) ∈ gT := gm 974 (by decide +kernel) (by decide +kernel)
theorem m_139 : (Cond.initialized RX5) ∈ gT := gm 139 (by decide +kernel) (by decide +kernel)
theorem m_975 : (Cond.code yX5_cryLength cX5_cryLength 2 (some .int)) ∈ gT := gm 975 (by decide +kernel) (by decide +kernel)
theorem k_X11_147 : xV RX11 RX5 147 yX5_cryLength cX5_cryLength 2 (some .int) 1 := ⟨⟨m_972, m_973, m_974, m_139, m_975⟩, rfl, by decide, by decide, by decide +kernel⟩
theorem dX11_unsay_15 : decode cX11_unsay 15 = .ok (.ifCond .gt 5, 3) := by decide +kernel
set_option maxHeartbeats 400000 in
set_option maxRecDepth 100000 in
theorem t_unsay (l : Launch) (D : va_G) (cy : Nat → ClassId) (a0 : Nat) (w0 : Value) (w1 : Value) (w2 : Value) (w3 : Value) (w5 : Value) (w6 : Value) (w7 : Value) (w8 : Value) (w9 : Value) (w10 : Value) (w11 : Value) (w12 : Value) (w13 : Value) (n0 : Nat) (n1 : Nat) (n2 : Nat) (n3 : Nat) (z3 : Value) (z4 : Value) (z5 : Value) (z6 : Value) (ka : Int32)  : XMi l D (tyL cy) E0 yX11_unsay cX11_unsay 2 (some .int) (rmk 2 0 0) [.ref a0, .int ka] [(a0, .inr (11, [w0, w1, w2, w3, .ref n0, w5, w6, w7, w8, w9, w10, w11, w12, w13])), (n0, .inr (5, [.ref n1, .ref n2, .ref n3, z3, z4, z5, z6])), (n1, .inl (cy 1, 41, .inl (fun _ => 0)))] (fun (r : Int32) (_ : Unit) => r = -1) (fun (_ : Unit) => []) := by
  refine XMi.start (by decide) (Nat.le_of_ble_eq_true rfl) ?_
  intro p e s m below meth c args A ls Q hat hQ
  obtain ⟨hx, hb, hr, hml, hown, hg, hlocks, hin, hK, hA, hP, hD, hS, hE, hl⟩ := hat
  have hown : s.vm.findClass RX11 = some m.cls := hown
  have hl : lv_has ls 2 [(0, .ref a0), (1, .int ka)] := hl
  refine lv_iload_n hx hb dX11_unsay_0 rfl (lv_at hl 1 rfl) ?_
  refine x_callSi (wr := [(a0, .inr (11, [w0, w1, w2, w3, .ref n0, w5, w6, w7, w8, w9, w10, w11, w12, w13])), (n0, .inr (5, [.ref n1, .ref n2, .ref n3, z3, z4, z5, z6])), (n1, .inl (cy 1, 41, .inl (fun _ => 0)))]) (rest := []) ⟨hx, hb, hml, hown, hg, hl.1⟩ k_X11_143 (c_isCry l D cy ka) E0_blind hK hP hD hS hA [] [0, 1, 2] ⟨rfl, rfl, by decide, by decide, by decide⟩ (fun _ _ _ => trivial) dX11_unsay_1 rfl rfl (Nat.le_of_ble_eq_true rfl) ⟨Nat.le_of_ble_eq_true rfl, Nat.le_of_ble_eq_true rfl⟩ ⟨Nat.le_of_ble_eq_true rfl, Nat.le_of_ble_eq_true rfl⟩ (fun r1 u1 H locs hw1 hP hD hS => ?_)
  have hP : va_P D vwCl [(a0, .inr (11, [w0, w1, w2, w3, .ref n0, w5, w6, w7, w8, w9, w10, w11, w12, w13])), (n0, .inr (5, [.ref n1, .ref n2, .ref n3, z3, z4, z5, z6])), (n1, .inl (cy 1, 41, .inl (fun _ => 0)))] H := hP
  have hD : va_D A [(a0, .inr (11, [w0, w1, w2, w3, .ref n0, w5, w6, w7, w8, w9, w10, w11, w12, w13])), (n0, .inr (5, [.ref n1, .ref n2, .ref n3, z3, z4, z5, z6])), (n1, .inl (cy 1, 41, .inl (fun _ => 0)))] := hD
  refine W.widen (k := 0) (n := 0) (Nat.le_of_ble_eq_true rfl) (Nat.le_of_ble_eq_true rfl) ?_
  have hw1 : r1 = 0 ∨ ka = 0 ∨ ka = 1 := hw1
  refine lv_if_eq (tgt := 18) hx hb dX11_unsay_4 (by decide) (fun c_4 => ?_) (fun c_4 => ?_)
  · refine lv_iconst (v := -1) hx hb dX11_unsay_18 (by decide) ?_
    exact x_iret hQ hx hb hr hlocks hK hP hD hS dX11_unsay_19 () (rfl) [] (by decide) rfl (Nat.le_of_ble_eq_true rfl) (Nat.le_of_ble_eq_true rfl)
  · refine lv_aload_n hx hb dX11_unsay_7 rfl (lv_at hl 0 rfl) ?_
    refine va_get (D := D) (ci := 11) (v := .ref n0) (C := RX11) (T := TX11) (N := 14) hx hb hg i_X11 hown hK hP 0 rfl rfl 4 (by decide) (hg _ m_662) (fun _ h9 => h9) rfl dX11_unsay_8 ?_
    refine lv_iload_n hx hb dX11_unsay_11 rfl (lv_at hl 1 rfl) ?_
    refine x_callVi (q := (RX5, TX5, 7)) (ci := 5) (q0 := 0) (wr := [(a0, .inr (11, [w0, w1, w2, w3, .ref n0, w5, w6, w7, w8, w9, w10, w11, w12, w13]))]) (rest := []) ⟨hx, hb, hml, hown, hg, hl.1⟩ k_X11_147 (c_cryLength l D cy n0 n1 n2 n3 z3 z4 z5 z6 ka (cry_in hw1 c_4)) E0_blind hK hP hD hS hA [1, 2] [0] ⟨rfl, rfl, by decide, by decide, by decide⟩ rfl rfl (fun _ _ _ => trivial) dX11_unsay_12 rfl rfl (Nat.le_of_ble_eq_true rfl) ⟨Nat.le_of_ble_eq_true rfl, Nat.le_of_ble_eq_true rfl⟩ ⟨Nat.le_of_ble_eq_true rfl, Nat.le_of_ble_eq_true rfl⟩ (fun r2 u2 H locs hw2 hP hD hS => ?_)
    have hP : va_P D vwCl [(a0, .inr (11, [w0, w1, w2, w3, .ref n0, w5, w6, w7, w8, w9, w10, w11, w12, w13])), (n0, .inr (5, [.ref n1, .ref n2, .ref n3, z3, z4, z5, z6])), (n1, .inl (cy 1, 41, .inl (fun _ => 0)))] H := hP
    have hD : va_D A [(a0, .inr (11, [w0, w1, w2, w3, .ref n0, w5, w6, w7, w8, w9, w10, w11, w12, w13])), (n0, .inr (5, [.ref n1, .ref n2, .ref n3, z3, z4, z5, z6])), (n1, .inl (cy 1, 41, .inl (fun _ => 0)))] := hD
    refine W.widen (k := 0) (n := 0) (Nat.le_of_ble_eq_true rfl) (Nat.le_of_ble_eq_true rfl) ?_
    have hw2 : r2 = 0 := hw2
    subst hw2
    refine lv_if_gt (tgt := 20) hx hb dX11_unsay_15 (by decide) (fun h => absurd h (by decide)) (fun _ => ?_)
    refine lv_iconst (v := -1) hx hb dX11_unsay_18 (by decide) ?_
    exact x_iret hQ hx hb hr hlocks hK hP hD hS dX11_unsay_19 () (rfl) [] (by decide) rfl (Nat.le_of_ble_eq_true rfl) (Nat.le_of_ble_eq_true rfl)
theorem dX11_said_0 : decode cX11_said 0 = .ok (.iload_n 1, 1) := by decide +kernel
theorem dX11_said_1 : decode cX11_said 1 = .ok (.invokestatic 143, 3) := by decide +kernel
theorem dX11_said_4 : decode cX11_said 4 = .ok (.ifCond .eq 19, 3) := by decide +kernel
theorem dX11_said_23 : decode cX11_said 23 = .ok (.iconst (-1), 1) := by decide +kernel
theorem dX11_said_24 : decode cX11_said 24 = .ok (.ireturn, 1) := by decide +kernel
theorem dX11_said_7 : decode cX11_said 7 = .ok (.iload_n 2, 1) := by decide +kernel
theorem dX11_said_8 : decode cX11_said 8 = .ok (.ifCond .lt 15, 3) := by decide +kernel
theorem dX11_said_11 : decode cX11_said 11 = .ok (.iload_n 2, 1) := by decide +kernel
theorem dX11_said_12 : decode cX11_said 12 = .ok (.aload_n 0, 1) := by decide +kernel
theorem dX11_said_13 : decode cX11_said 13 = .ok (.getfield 38, 3) := by decide +kernel
theorem dX11_said_16 : decode cX11_said 16 = .ok (.iload_n 1, 1) := by decide +kernel
theorem dX11_said_17 : decode cX11_said 17 = .ok (.invokevirtual 147, 3) := by decide +kernel
theorem dX11_said_20 : decode cX11_said 20 = .ok (.if_icmp .lt 5, 3) := by decide +kernel
set_option maxHeartbeats 400000 in
set_option maxRecDepth 100000 in
theorem t_said (l : Launch) (D : va_G) (cy : Nat → ClassId) (a0 : Nat) (w0 : Value) (w1 : Value) (w2 : Value) (w3 : Value) (w5 : Value) (w6 : Value) (w7 : Value) (w8 : Value) (w9 : Value) (w10 : Value) (w11 : Value) (w12 : Value) (w13 : Value) (n0 : Nat) (n1 : Nat) (n2 : Nat) (n3 : Nat) (z3 : Value) (z4 : Value) (z5 : Value) (z6 : Value) (ka : Int32) (kb : Int32)  : XMi l D (tyL cy) E0 yX11_said cX11_said 3 (some .int) (rmk 2 0 0) [.ref a0, .int ka, .int kb] [(a0, .inr (11, [w0, w1, w2, w3, .ref n0, w5, w6, w7, w8, w9, w10, w11, w12, w13])), (n0, .inr (5, [.ref n1, .ref n2, .ref n3, z3, z4, z5, z6])), (n1, .inl (cy 1, 41, .inl (fun _ => 0)))] (fun (r : Int32) (_ : Unit) => r = -1) (fun (_ : Unit) => []) := by
  refine XMi.start (by decide) (Nat.le_of_ble_eq_true rfl) ?_
  intro p e s m below meth c args A ls Q hat hQ
  obtain ⟨hx, hb, hr, hml, hown, hg, hlocks, hin, hK, hA, hP, hD, hS, hE, hl⟩ := hat
  have hown : s.vm.findClass RX11 = some m.cls := hown
  have hl : lv_has ls 3 [(0, .ref a0), (1, .int ka), (2, .int kb)] := hl
  refine lv_iload_n hx hb dX11_said_0 rfl (lv_at hl 1 rfl) ?_
  refine x_callSi (wr := [(a0, .inr (11, [w0, w1, w2, w3, .ref n0, w5, w6, w7, w8, w9, w10, w11, w12, w13])), (n0, .inr (5, [.ref n1, .ref n2, .ref n3, z3, z4, z5, z6])), (n1, .inl (cy 1, 41, .inl (fun _ => 0)))]) (rest := []) ⟨hx, hb, hml, hown, hg, hl.1⟩ k_X11_143 (c_isCry l D cy ka) E0_blind hK hP hD hS hA [] [0, 1, 2] ⟨rfl, rfl, by decide, by decide, by decide⟩ (fun _ _ _ => trivial) dX11_said_1 rfl rfl (Nat.le_of_ble_eq_true rfl) ⟨Nat.le_of_ble_eq_true rfl, Nat.le_of_ble_eq_true rfl⟩ ⟨Nat.le_of_ble_eq_true rfl, Nat.le_of_ble_eq_true rfl⟩ (fun r1 u1 H locs hw1 hP hD hS => ?_)
  have hP : va_P D vwCl [(a0, .inr (11, [w0, w1, w2, w3, .ref n0, w5, w6, w7, w8, w9, w10, w11, w12, w13])), (n0, .inr (5, [.ref n1, .ref n2, .ref n3, z3, z4, z5, z6])), (n1, .inl (cy 1, 41, .inl (fun _ => 0)))] H := hP
  have hD : va_D A [(a0, .inr (11, [w0, w1, w2, w3, .ref n0, w5, w6, w7, w8, w9, w10, w11, w12, w13])), (n0, .inr (5, [.ref n1, .ref n2, .ref n3, z3, z4, z5, z6])), (n1, .inl (cy 1, 41, .inl (fun _ => 0)))] := hD
  refine W.widen (k := 0) (n := 0) (Nat.le_of_ble_eq_true rfl) (Nat.le_of_ble_eq_true rfl) ?_
  have hw1 : r1 = 0 ∨ ka = 0 ∨ ka = 1 := hw1
  refine lv_if_eq (tgt := 23) hx hb dX11_said_4 (by decide) (fun c_4 => ?_) (fun c_4 => ?_)
  · refine lv_iconst (v := -1) hx hb dX11_said_23 (by decide) ?_
    exact x_iret hQ hx hb hr hlocks hK hP hD hS dX11_said_24 () (rfl) [] (by decide) rfl (Nat.le_of_ble_eq_true rfl) (Nat.le_of_ble_eq_true rfl)
  · refine lv_iload_n hx hb dX11_said_7 rfl (lv_at hl 2 rfl) ?_
    refine lv_if_lt (tgt := 23) hx hb dX11_said_8 (by decide) (fun c_8 => ?_) (fun c_8 => ?_)
    · refine lv_iconst (v := -1) hx hb dX11_said_23 (by decide) ?_
      exact x_iret hQ hx hb hr hlocks hK hP hD hS dX11_said_24 () (rfl) [] (by decide) rfl (Nat.le_of_ble_eq_true rfl) (Nat.le_of_ble_eq_true rfl)
    · refine lv_iload_n hx hb dX11_said_11 rfl (lv_at hl 2 rfl) ?_
      refine lv_aload_n hx hb dX11_said_12 rfl (lv_at hl 0 rfl) ?_
      refine va_get (D := D) (ci := 11) (v := .ref n0) (C := RX11) (T := TX11) (N := 14) hx hb hg i_X11 hown hK hP 0 rfl rfl 4 (by decide) (hg _ m_662) (fun _ h9 => h9) rfl dX11_said_13 ?_
      refine lv_iload_n hx hb dX11_said_16 rfl (lv_at hl 1 rfl) ?_
      refine x_callVi (q := (RX5, TX5, 7)) (ci := 5) (q0 := 0) (wr := [(a0, .inr (11, [w0, w1, w2, w3, .ref n0, w5, w6, w7, w8, w9, w10, w11, w12, w13]))]) (rest := [.int kb]) ⟨hx, hb, hml, hown, hg, hl.1⟩ k_X11_147 (c_cryLength l D cy n0 n1 n2 n3 z3 z4 z5 z6 ka (cry_in hw1 c_4)) E0_blind hK hP hD hS hA [1, 2] [0] ⟨rfl, rfl, by decide, by decide, by decide⟩ rfl rfl (fun _ _ _ => trivial) dX11_said_17 rfl rfl (Nat.le_of_ble_eq_true rfl) ⟨Nat.le_of_ble_eq_true rfl, Nat.le_of_ble_eq_true rfl⟩ ⟨Nat.le_of_ble_eq_true rfl, Nat.le_of_ble_eq_true rfl⟩ (fun r2 u2 H locs hw2 hP hD hS => ?_)
      have hP : va_P D vwCl [(a0, .inr (11, [w0, w1, w2, w3, .ref n0, w5, w6, w7, w8, w9, w10, w11, w12, w13])), (n0, .inr (5, [.ref n1, .ref n2, .ref n3, z3, z4, z5, z6])), (n1, .inl (cy 1, 41, .inl (fun _ => 0)))] H := hP
      have hD : va_D A [(a0, .inr (11, [w0, w1, w2, w3, .ref n0, w5, w6, w7, w8, w9, w10, w11, w12, w13])), (n0, .inr (5, [.ref n1, .ref n2, .ref n3, z3, z4, z5, z6])), (n1, .inl (cy 1, 41, .inl (fun _ => 0)))] := hD
      refine W.widen (k := 0) (n := 0) (Nat.le_of_ble_eq_true rfl) (Nat.le_of_ble_eq_true rfl) ?_
      have hw2 : r2 = 0 := hw2
      subst hw2
      refine lv_icmp_lt (tgt := 25) hx hb dX11_said_20 (by decide) (fun h => absurd h c_8) (fun _ => ?_)
      refine lv_iconst (v := -1) hx hb dX11_said_23 (by decide) ?_
      exact x_iret hQ hx hb hr hlocks hK hP hD hS dX11_said_24 () (rfl) [] (by decide) rfl (Nat.le_of_ble_eq_true rfl) (Nat.le_of_ble_eq_true rfl)
end
