def mL18 : List (Option Cond) := [some (Cond.selects RX9 yX9_isLetter yX9_isLetter), some (Cond.selects RX9 yX9_readWord yX9_readWord), some (Cond.selects RX9 yX9_kindOf yX9_kindOf), some (Cond.selects RX9 yX9_isDigit yX9_isDigit), some (Cond.selects RX9 yX9_readNumber yX9_readNumber), some (Cond.initialized RX9), some (Cond.initialized RJ0), some (Cond.initialized RJ1), some (Cond.initialized RJ3), some (Cond.instanceMethod yJ0_length_8abf5), some (Cond.selects RJ0 yJ0_length_8abf5 yJ0_length_8abf5), some (Cond.code yJ0_length_8abf5 cJ0_length_8abf5 1 (some .int)), some (Cond.methodLink RJ0 335 yJ0_coder_7d493), some (Cond.instanceMethod yJ0_coder_7d493), some (Cond.selects RJ0 yJ0_coder_7d493 yJ0_coder_7d493), some (Cond.code yJ0_coder_7d493 cJ0_coder_7d493 1 (some .byte)), some (Cond.fieldLink RJ0 38 "java/lang/String" "COMPACT_STRINGS" "Z"), some (Cond.methodLink RJ0 492 yJ0_isLatin1_aae02), some (Cond.instanceMethod yJ0_isLatin1_aae02), some (Cond.selects RJ0 yJ0_isLatin1_aae02 yJ0_isLatin1_aae02), some (Cond.code yJ0_isLatin1_aae02 cJ0_isLatin1_aae02 1 (some .boolean)), some (Cond.methodLink RJ0 495 yJ1_charAt_3b067), some (Cond.static yJ1_charAt_3b067), some (Cond.code yJ1_charAt_3b067 cJ1_charAt_3b067 2 (some .char)), some (Cond.methodLink RJ1 9 yJ0_checkIndex_df160), some (Cond.static yJ0_checkIndex_df160), some (Cond.code yJ0_checkIndex_df160 cJ0_checkIndex_df160 2 none), some (Cond.fieldLink RJ0 1053 "jdk/internal/util/Preconditions" "SIOOBE_FORMATTER" "Ljava/util/function/BiFunction;"), some (Cond.methodLink RJ0 1059 yJ3_checkIndex_8e157), some (Cond.static yJ3_checkIndex_8e157), some (Cond.code yJ3_checkIndex_8e157 cJ3_checkIndex_8e157 3 (some .int)), some (Cond.constantLong RX9 31 (27)), some (Cond.fieldLink RX9 11 "CliffJudges$Tape" "bytes" "[B"), some (Cond.fieldLink RX9 15 "CliffJudges$Tape" "keys" "[J"), some (Cond.fieldLink RX9 33 "CliffJudges$Tape" "length" "I"), some (Cond.fieldLink RX9 36 "CliffJudges$Tape" "at" "I"), some (Cond.fieldLink RX9 42 "CliffJudges$Tape" "start" "I"), some (Cond.fieldLink RX9 45 "CliffJudges$Tape" "kind" "I"), some (Cond.fieldLink RX9 55 "CliffJudges$Tape" "name" "J"), some (Cond.fieldLink RX9 75 "CliffJudges$Tape" "number" "I"), some (Cond.methodLink RX9 39 yX9_next), some (Cond.instanceMethod yX9_next), some (Cond.selects RX9 yX9_next yX9_next), some (Cond.code yX9_next cX9_next 2 none), some (Cond.methodLink RX9 48 yX9_isLetter), some (Cond.instanceMethod yX9_isLetter), some (Cond.code yX9_isLetter cX9_isLetter 2 (some .boolean)), some (Cond.methodLink RX9 52 yX9_readWord), some (Cond.instanceMethod yX9_readWord), some (Cond.code yX9_readWord cX9_readWord 1 none), some (Cond.methodLink RX9 59 yX9_kindOf), some (Cond.instanceMethod yX9_kindOf), some (Cond.code yX9_kindOf cX9_kindOf 4 (some .int)), some (Cond.methodLink RX9 63 yX9_isDigit), some (Cond.instanceMethod yX9_isDigit), some (Cond.code yX9_isDigit cX9_isDigit 2 (some .boolean)), some (Cond.methodLink RX9 66 yX9_readNumber), some (Cond.instanceMethod yX9_readNumber), some (Cond.code yX9_readNumber cX9_readNumber 1 none), some (Cond.methodLink RX9 71 yJ0_indexOf_0f7a4), some (Cond.instanceMethod yJ0_indexOf_0f7a4), some (Cond.selects RJ0 yJ0_indexOf_0f7a4 yJ0_indexOf_0f7a4), some (Cond.code yJ0_indexOf_0f7a4 cJ0_indexOf_0f7a4 2 (some .int)), some (Cond.methodLink RJ0 633 yJ0_indexOf_7cf53), some (Cond.instanceMethod yJ0_indexOf_7cf53), some (Cond.selects RJ0 yJ0_indexOf_7cf53 yJ0_indexOf_7cf53), some (Cond.code yJ0_indexOf_7cf53 cJ0_indexOf_7cf53 3 (some .int)), some (Cond.methodLink RJ0 505 yJ0_length_8abf5), some (Cond.methodLink RJ0 637 yJ1_indexOf_4cfef), some (Cond.static yJ1_indexOf_4cfef), some (Cond.code yJ1_indexOf_4cfef cJ1_indexOf_4cfef 4 (some .int)), some (Cond.methodLink RJ1 88 yJ1_canEncode_9a6ad), some (Cond.static yJ1_canEncode_9a6ad), some (Cond.code yJ1_canEncode_9a6ad cJ1_canEncode_9a6ad 1 (some .boolean)), some (Cond.methodLink RJ1 92 yJ9_max_7cf53), some (Cond.methodLink RJ1 38 yJ9_min_7cf53), some (Cond.methodLink RJ1 95 yJ1_indexOfChar_4cfef), some (Cond.static yJ1_indexOfChar_4cfef), some (Cond.code yJ1_indexOfChar_4cfef cJ1_indexOfChar_4cfef 6 (some .int)), some (Cond.fieldLink RJ0 9 "java/lang/String" "value" "[B"), some (Cond.fieldLink RJ0 15 "java/lang/String" "coder" "B")]
set_option maxRecDepth 100000 in
theorem mP18 : pick [0, 1, 1, 1, 1, 127, 1, 1, 1, 33, 1, 1, 1, 1, 1, 1, 1, 6, 1, 1, 1, 1, 1, 1, 1, 1, 1, 1, 2, 1, 1, 20, 1, 1, 2, 1, 2, 2, 1, 2, 500, 1, 1, 1, 1, 2, 1, 1, 2, 1, 1, 2, 1, 1, 2, 1, 1, 2, 1, 2, 1, 1, 1, 1, 1, 1, 1, 1, 1, 1, 1, 1, 1, 1, 1, 3, 3, 1, 1, 1382, 1] lw_tbl = mL18 := rfl
set_option maxRecDepth 100000 in
theorem mG18 : mL18.all (fun o => o.all goodWord) = true := rfl
theorem m_0 : (Cond.selects RX9 yX9_isLetter yX9_isLetter) ∈ gT := gp mP18 mG18 0 rfl
theorem m_1 : (Cond.selects RX9 yX9_readWord yX9_readWord) ∈ gT := gp mP18 mG18 1 rfl
theorem m_2 : (Cond.selects RX9 yX9_kindOf yX9_kindOf) ∈ gT := gp mP18 mG18 2 rfl
theorem m_3 : (Cond.selects RX9 yX9_isDigit yX9_isDigit) ∈ gT := gp mP18 mG18 3 rfl
theorem m_4 : (Cond.selects RX9 yX9_readNumber yX9_readNumber) ∈ gT := gp mP18 mG18 4 rfl
theorem m_131 : (Cond.initialized RX9) ∈ gT := gp mP18 mG18 5 rfl
theorem m_132 : (Cond.initialized RJ0) ∈ gT := gp mP18 mG18 6 rfl
theorem m_133 : (Cond.initialized RJ1) ∈ gT := gp mP18 mG18 7 rfl
theorem m_134 : (Cond.initialized RJ3) ∈ gT := gp mP18 mG18 8 rfl
theorem m_167 : (Cond.instanceMethod yJ0_length_8abf5) ∈ gT := gp mP18 mG18 9 rfl
theorem m_168 : (Cond.selects RJ0 yJ0_length_8abf5 yJ0_length_8abf5) ∈ gT := gp mP18 mG18 10 rfl
theorem m_169 : (Cond.code yJ0_length_8abf5 cJ0_length_8abf5 1 (some .int)) ∈ gT := gp mP18 mG18 11 rfl
theorem m_170 : (Cond.methodLink RJ0 335 yJ0_coder_7d493) ∈ gT := gp mP18 mG18 12 rfl
theorem m_171 : (Cond.instanceMethod yJ0_coder_7d493) ∈ gT := gp mP18 mG18 13 rfl
theorem m_172 : (Cond.selects RJ0 yJ0_coder_7d493 yJ0_coder_7d493) ∈ gT := gp mP18 mG18 14 rfl
theorem m_173 : (Cond.code yJ0_coder_7d493 cJ0_coder_7d493 1 (some .byte)) ∈ gT := gp mP18 mG18 15 rfl
theorem m_174 : (Cond.fieldLink RJ0 38 "java/lang/String" "COMPACT_STRINGS" "Z") ∈ gT := gp mP18 mG18 16 rfl
theorem m_180 : (Cond.methodLink RJ0 492 yJ0_isLatin1_aae02) ∈ gT := gp mP18 mG18 17 rfl
theorem m_181 : (Cond.instanceMethod yJ0_isLatin1_aae02) ∈ gT := gp mP18 mG18 18 rfl
theorem m_182 : (Cond.selects RJ0 yJ0_isLatin1_aae02 yJ0_isLatin1_aae02) ∈ gT := gp mP18 mG18 19 rfl
theorem m_183 : (Cond.code yJ0_isLatin1_aae02 cJ0_isLatin1_aae02 1 (some .boolean)) ∈ gT := gp mP18 mG18 20 rfl
theorem m_184 : (Cond.methodLink RJ0 495 yJ1_charAt_3b067) ∈ gT := gp mP18 mG18 21 rfl
theorem m_185 : (Cond.static yJ1_charAt_3b067) ∈ gT := gp mP18 mG18 22 rfl
theorem m_186 : (Cond.code yJ1_charAt_3b067 cJ1_charAt_3b067 2 (some .char)) ∈ gT := gp mP18 mG18 23 rfl
theorem m_187 : (Cond.methodLink RJ1 9 yJ0_checkIndex_df160) ∈ gT := gp mP18 mG18 24 rfl
theorem m_188 : (Cond.static yJ0_checkIndex_df160) ∈ gT := gp mP18 mG18 25 rfl
theorem m_189 : (Cond.code yJ0_checkIndex_df160 cJ0_checkIndex_df160 2 none) ∈ gT := gp mP18 mG18 26 rfl
theorem m_190 : (Cond.fieldLink RJ0 1053 "jdk/internal/util/Preconditions" "SIOOBE_FORMATTER" "Ljava/util/function/BiFunction;") ∈ gT := gp mP18 mG18 27 rfl
theorem m_192 : (Cond.methodLink RJ0 1059 yJ3_checkIndex_8e157) ∈ gT := gp mP18 mG18 28 rfl
theorem m_193 : (Cond.static yJ3_checkIndex_8e157) ∈ gT := gp mP18 mG18 29 rfl
theorem m_194 : (Cond.code yJ3_checkIndex_8e157 cJ3_checkIndex_8e157 3 (some .int)) ∈ gT := gp mP18 mG18 30 rfl
theorem m_214 : (Cond.constantLong RX9 31 (27)) ∈ gT := gp mP18 mG18 31 rfl
theorem m_215 : (Cond.fieldLink RX9 11 "CliffJudges$Tape" "bytes" "[B") ∈ gT := gp mP18 mG18 32 rfl
theorem m_216 : (Cond.fieldLink RX9 15 "CliffJudges$Tape" "keys" "[J") ∈ gT := gp mP18 mG18 33 rfl
theorem m_218 : (Cond.fieldLink RX9 33 "CliffJudges$Tape" "length" "I") ∈ gT := gp mP18 mG18 34 rfl
theorem m_219 : (Cond.fieldLink RX9 36 "CliffJudges$Tape" "at" "I") ∈ gT := gp mP18 mG18 35 rfl
theorem m_221 : (Cond.fieldLink RX9 42 "CliffJudges$Tape" "start" "I") ∈ gT := gp mP18 mG18 36 rfl
theorem m_223 : (Cond.fieldLink RX9 45 "CliffJudges$Tape" "kind" "I") ∈ gT := gp mP18 mG18 37 rfl
theorem m_224 : (Cond.fieldLink RX9 55 "CliffJudges$Tape" "name" "J") ∈ gT := gp mP18 mG18 38 rfl
theorem m_226 : (Cond.fieldLink RX9 75 "CliffJudges$Tape" "number" "I") ∈ gT := gp mP18 mG18 39 rfl
theorem m_726 : (Cond.methodLink RX9 39 yX9_next) ∈ gT := gp mP18 mG18 40 rfl
theorem m_727 : (Cond.instanceMethod yX9_next) ∈ gT := gp mP18 mG18 41 rfl
theorem m_728 : (Cond.selects RX9 yX9_next yX9_next) ∈ gT := gp mP18 mG18 42 rfl
theorem m_729 : (Cond.code yX9_next cX9_next 2 none) ∈ gT := gp mP18 mG18 43 rfl
theorem m_730 : (Cond.methodLink RX9 48 yX9_isLetter) ∈ gT := gp mP18 mG18 44 rfl
theorem m_732 : (Cond.instanceMethod yX9_isLetter) ∈ gT := gp mP18 mG18 45 rfl
theorem m_733 : (Cond.code yX9_isLetter cX9_isLetter 2 (some .boolean)) ∈ gT := gp mP18 mG18 46 rfl
theorem m_734 : (Cond.methodLink RX9 52 yX9_readWord) ∈ gT := gp mP18 mG18 47 rfl
theorem m_736 : (Cond.instanceMethod yX9_readWord) ∈ gT := gp mP18 mG18 48 rfl
theorem m_737 : (Cond.code yX9_readWord cX9_readWord 1 none) ∈ gT := gp mP18 mG18 49 rfl
theorem m_738 : (Cond.methodLink RX9 59 yX9_kindOf) ∈ gT := gp mP18 mG18 50 rfl
theorem m_740 : (Cond.instanceMethod yX9_kindOf) ∈ gT := gp mP18 mG18 51 rfl
theorem m_741 : (Cond.code yX9_kindOf cX9_kindOf 4 (some .int)) ∈ gT := gp mP18 mG18 52 rfl
theorem m_742 : (Cond.methodLink RX9 63 yX9_isDigit) ∈ gT := gp mP18 mG18 53 rfl
theorem m_744 : (Cond.instanceMethod yX9_isDigit) ∈ gT := gp mP18 mG18 54 rfl
theorem m_745 : (Cond.code yX9_isDigit cX9_isDigit 2 (some .boolean)) ∈ gT := gp mP18 mG18 55 rfl
theorem m_746 : (Cond.methodLink RX9 66 yX9_readNumber) ∈ gT := gp mP18 mG18 56 rfl
theorem m_748 : (Cond.instanceMethod yX9_readNumber) ∈ gT := gp mP18 mG18 57 rfl
theorem m_749 : (Cond.code yX9_readNumber cX9_readNumber 1 none) ∈ gT := gp mP18 mG18 58 rfl
theorem m_751 : (Cond.methodLink RX9 71 yJ0_indexOf_0f7a4) ∈ gT := gp mP18 mG18 59 rfl
theorem m_752 : (Cond.instanceMethod yJ0_indexOf_0f7a4) ∈ gT := gp mP18 mG18 60 rfl
theorem m_753 : (Cond.selects RJ0 yJ0_indexOf_0f7a4 yJ0_indexOf_0f7a4) ∈ gT := gp mP18 mG18 61 rfl
theorem m_754 : (Cond.code yJ0_indexOf_0f7a4 cJ0_indexOf_0f7a4 2 (some .int)) ∈ gT := gp mP18 mG18 62 rfl
theorem m_755 : (Cond.methodLink RJ0 633 yJ0_indexOf_7cf53) ∈ gT := gp mP18 mG18 63 rfl
theorem m_756 : (Cond.instanceMethod yJ0_indexOf_7cf53) ∈ gT := gp mP18 mG18 64 rfl
theorem m_757 : (Cond.selects RJ0 yJ0_indexOf_7cf53 yJ0_indexOf_7cf53) ∈ gT := gp mP18 mG18 65 rfl
theorem m_758 : (Cond.code yJ0_indexOf_7cf53 cJ0_indexOf_7cf53 3 (some .int)) ∈ gT := gp mP18 mG18 66 rfl
theorem m_759 : (Cond.methodLink RJ0 505 yJ0_length_8abf5) ∈ gT := gp mP18 mG18 67 rfl
theorem m_760 : (Cond.methodLink RJ0 637 yJ1_indexOf_4cfef) ∈ gT := gp mP18 mG18 68 rfl
theorem m_761 : (Cond.static yJ1_indexOf_4cfef) ∈ gT := gp mP18 mG18 69 rfl
theorem m_762 : (Cond.code yJ1_indexOf_4cfef cJ1_indexOf_4cfef 4 (some .int)) ∈ gT := gp mP18 mG18 70 rfl
theorem m_763 : (Cond.methodLink RJ1 88 yJ1_canEncode_9a6ad) ∈ gT := gp mP18 mG18 71 rfl
theorem m_764 : (Cond.static yJ1_canEncode_9a6ad) ∈ gT := gp mP18 mG18 72 rfl
theorem m_765 : (Cond.code yJ1_canEncode_9a6ad cJ1_canEncode_9a6ad 1 (some .boolean)) ∈ gT := gp mP18 mG18 73 rfl
theorem m_766 : (Cond.methodLink RJ1 92 yJ9_max_7cf53) ∈ gT := gp mP18 mG18 74 rfl
theorem m_769 : (Cond.methodLink RJ1 38 yJ9_min_7cf53) ∈ gT := gp mP18 mG18 75 rfl
theorem m_772 : (Cond.methodLink RJ1 95 yJ1_indexOfChar_4cfef) ∈ gT := gp mP18 mG18 76 rfl
theorem m_773 : (Cond.static yJ1_indexOfChar_4cfef) ∈ gT := gp mP18 mG18 77 rfl
theorem m_774 : (Cond.code yJ1_indexOfChar_4cfef cJ1_indexOfChar_4cfef 6 (some .int)) ∈ gT := gp mP18 mG18 78 rfl
theorem m_2156 : (Cond.fieldLink RJ0 9 "java/lang/String" "value" "[B") ∈ gT := gp mP18 mG18 79 rfl
theorem m_2157 : (Cond.fieldLink RJ0 15 "java/lang/String" "coder" "B") ∈ gT := gp mP18 mG18 80 rfl
theorem gdJ0_coder_7d493_0 : decode cJ0_coder_7d493 0 = .ok (.getstatic 38, 3) ∧ decode cJ0_coder_7d493 3 = .ok (.ifCond .eq 10, 3) ∧ decode cJ0_coder_7d493 6 = .ok (.aload_n 0, 1) ∧ decode cJ0_coder_7d493 7 = .ok (.getfield 15, 3) ∧ decode cJ0_coder_7d493 10 = .ok (.goto 4, 3) ∧ decode cJ0_coder_7d493 14 = .ok (.ireturn, 1) := by decide +kernel
theorem dJ0_coder_7d493_0 : decode cJ0_coder_7d493 0 = .ok (.getstatic 38, 3) := gdJ0_coder_7d493_0.1
theorem dJ0_coder_7d493_3 : decode cJ0_coder_7d493 3 = .ok (.ifCond .eq 10, 3) := gdJ0_coder_7d493_0.2.1
theorem dJ0_coder_7d493_6 : decode cJ0_coder_7d493 6 = .ok (.aload_n 0, 1) := gdJ0_coder_7d493_0.2.2.1
theorem dJ0_coder_7d493_7 : decode cJ0_coder_7d493 7 = .ok (.getfield 15, 3) := gdJ0_coder_7d493_0.2.2.2.1
theorem dJ0_coder_7d493_10 : decode cJ0_coder_7d493 10 = .ok (.goto 4, 3) := gdJ0_coder_7d493_0.2.2.2.2.1
theorem dJ0_coder_7d493_14 : decode cJ0_coder_7d493 14 = .ok (.ireturn, 1) := gdJ0_coder_7d493_0.2.2.2.2.2
set_option maxHeartbeats 1000000 in
set_option maxRecDepth 100000 in
theorem j_coder0 (l : Launch) (D : va_G) (cy : Nat → ClassId) (adK : Nat → Nat) (adV : Nat → Nat)  : XMi l D (tyL cy) (EV adK adV) yJ0_coder_7d493 cJ0_coder_7d493 1 (some .byte) (rmk 0 0 0) [.ref (adK 0)] [] (fun (r : Int32) (_ : Unit) => r = 0) (fun (_ : Unit) => []) := by
  refine XMi.start (by decide) (Nat.le_of_ble_eq_true rfl) ?_
  intro p e s m below meth c args A ls Q hat hQ
  obtain ⟨hx, hb, hr, hml, hown, hg, hlocks, hin, hK, hA, hP, hD, hS, hE, hl⟩ := hat
  have hown : s.vm.findClass RJ0 = some m.cls := hown
  have hl : lv_has ls 1 [(0, .ref (adK 0))] := hl
  refine va_gets hx hb hE.2.2.2.2.2.2.2.2.2.1 hS hown (hg _ m_174) (fun _ h => h) dJ0_coder_7d493_0 ?_
  refine lv_if_eq (tgt := 13) hx hb dJ0_coder_7d493_3 (by decide) (fun h => absurd h (by decide)) (fun _ => ?_)
  refine lv_aload_n hx hb dJ0_coder_7d493_6 rfl (lv_at hl 0 rfl) ?_
  refine vk_getf hx hb (hE.2.2.2.2.2.2.2.2.1.1 0 (by decide)).2.1 hS hown (hg _ m_2157) (fun _ h => h) dJ0_coder_7d493_7 ?_
  refine lv_goto (tgt := 14) hx hb dJ0_coder_7d493_10 (by decide) ?_
  exact x_zret hQ hx hb hr hlocks hK hP hD hS rfl dJ0_coder_7d493_14 () (rfl) [] (by decide +kernel) rfl (Nat.le_of_ble_eq_true rfl) (Nat.le_of_ble_eq_true rfl)
set_option maxHeartbeats 1000000 in
set_option maxRecDepth 100000 in
theorem j_coder1 (l : Launch) (D : va_G) (cy : Nat → ClassId) (adK : Nat → Nat) (adV : Nat → Nat)  : XMi l D (tyL cy) (EV adK adV) yJ0_coder_7d493 cJ0_coder_7d493 1 (some .byte) (rmk 0 0 0) [.ref (adK 1)] [] (fun (r : Int32) (_ : Unit) => r = 0) (fun (_ : Unit) => []) := by
  refine XMi.start (by decide) (Nat.le_of_ble_eq_true rfl) ?_
  intro p e s m below meth c args A ls Q hat hQ
  obtain ⟨hx, hb, hr, hml, hown, hg, hlocks, hin, hK, hA, hP, hD, hS, hE, hl⟩ := hat
  have hown : s.vm.findClass RJ0 = some m.cls := hown
  have hl : lv_has ls 1 [(0, .ref (adK 1))] := hl
  refine va_gets hx hb hE.2.2.2.2.2.2.2.2.2.1 hS hown (hg _ m_174) (fun _ h => h) dJ0_coder_7d493_0 ?_
  refine lv_if_eq (tgt := 13) hx hb dJ0_coder_7d493_3 (by decide) (fun h => absurd h (by decide)) (fun _ => ?_)
  refine lv_aload_n hx hb dJ0_coder_7d493_6 rfl (lv_at hl 0 rfl) ?_
  refine vk_getf hx hb (hE.2.2.2.2.2.2.2.2.1.1 1 (by decide)).2.1 hS hown (hg _ m_2157) (fun _ h => h) dJ0_coder_7d493_7 ?_
  refine lv_goto (tgt := 14) hx hb dJ0_coder_7d493_10 (by decide) ?_
  exact x_zret hQ hx hb hr hlocks hK hP hD hS rfl dJ0_coder_7d493_14 () (rfl) [] (by decide +kernel) rfl (Nat.le_of_ble_eq_true rfl) (Nat.le_of_ble_eq_true rfl)
theorem gdJ0_length_8abf5_0 : decode cJ0_length_8abf5 0 = .ok (.aload_n 0, 1) ∧ decode cJ0_length_8abf5 1 = .ok (.getfield 9, 3) ∧ decode cJ0_length_8abf5 4 = .ok (.arraylength, 1) ∧ decode cJ0_length_8abf5 5 = .ok (.aload_n 0, 1) ∧ decode cJ0_length_8abf5 6 = .ok (.invokevirtual 335, 3) := by decide +kernel
theorem dJ0_length_8abf5_0 : decode cJ0_length_8abf5 0 = .ok (.aload_n 0, 1) := gdJ0_length_8abf5_0.1
theorem dJ0_length_8abf5_1 : decode cJ0_length_8abf5 1 = .ok (.getfield 9, 3) := gdJ0_length_8abf5_0.2.1
theorem dJ0_length_8abf5_4 : decode cJ0_length_8abf5 4 = .ok (.arraylength, 1) := gdJ0_length_8abf5_0.2.2.1
theorem dJ0_length_8abf5_5 : decode cJ0_length_8abf5 5 = .ok (.aload_n 0, 1) := gdJ0_length_8abf5_0.2.2.2.1
theorem dJ0_length_8abf5_6 : decode cJ0_length_8abf5 6 = .ok (.invokevirtual 335, 3) := gdJ0_length_8abf5_0.2.2.2.2
theorem k_J0_335 : xV RJ0 RJ0 335 yJ0_coder_7d493 cJ0_coder_7d493 1 (some .byte) 0 := ⟨⟨m_170, m_171, m_172, m_132, m_173⟩, rfl, by decide, by decide, by decide +kernel⟩
theorem dJ0_length_8abf5_9 : decode cJ0_length_8abf5 9 = .ok (.ishr, 1) := by decide +kernel
theorem dJ0_length_8abf5_10 : decode cJ0_length_8abf5 10 = .ok (.ireturn, 1) := by decide +kernel
set_option maxHeartbeats 1000000 in
set_option maxRecDepth 100000 in
theorem j_length0 (l : Launch) (D : va_G) (cy : Nat → ClassId) (adK : Nat → Nat) (adV : Nat → Nat)  : XMi l D (tyL cy) (EV adK adV) yJ0_length_8abf5 cJ0_length_8abf5 1 (some .int) (rmk 1 0 0) [.ref (adK 0)] [] (fun (r : Int32) (_ : Unit) => r = 115) (fun (_ : Unit) => []) := by
  refine XMi.start (by decide) (Nat.le_of_ble_eq_true rfl) ?_
  intro p e s m below meth c args A ls Q hat hQ
  obtain ⟨hx, hb, hr, hml, hown, hg, hlocks, hin, hK, hA, hP, hD, hS, hE, hl⟩ := hat
  have hown : s.vm.findClass RJ0 = some m.cls := hown
  have hl : lv_has ls 1 [(0, .ref (adK 0))] := hl
  refine lv_aload_n hx hb dJ0_length_8abf5_0 rfl (lv_at hl 0 rfl) ?_
  refine vk_getf hx hb (hE.2.2.2.2.2.2.2.2.1.1 0 (by decide)).2.2.1 hS hown (hg _ m_2156) (fun _ h => h) dJ0_length_8abf5_1 ?_
  refine va_tlen (v := 115) hx hb (hE.2.2.2.2.2.2.2.2.1.1 0 (by decide)).2.2.2 hS rfl dJ0_length_8abf5_4 ?_
  refine lv_aload_n hx hb dJ0_length_8abf5_5 rfl (lv_at hl 0 rfl) ?_
  refine x_callOi (C := RJ0) (wr := []) (rest := [.int 115]) ⟨hx, hb, hml, hown, hg, hl.1⟩ k_J0_335 (j_coder0 l D cy adK adV) EV_blind hK hP hD hS hA [] ⟨rfl, rfl, by decide +kernel, by decide +kernel, by decide +kernel⟩ (vk_recv (i := 0) hE.2.2.2.2.2.2.2.2.1 (by decide) hS) (fun U hU hW => EV_pass hE hS (va_free hD hS hA [] rfl) hU hW) dJ0_length_8abf5_6 rfl rfl (Nat.le_of_ble_eq_true rfl) ⟨Nat.le_of_ble_eq_true rfl, Nat.le_of_ble_eq_true rfl⟩ ⟨Nat.le_of_ble_eq_true rfl, Nat.le_of_ble_eq_true rfl⟩ (fun zr1 zu1 H locs hw1 hP9 hD9 hS9 => ?_)
  clear hP hD hS
  refine reW [] hP9 hD9 hS9 (fun hP hD hS => ?_)
  clear hP9 hD9 hS9
  refine W.widen (k := 0) (n := 0) (Nat.le_of_ble_eq_true rfl) (Nat.le_of_ble_eq_true rfl) ?_
  replace hw1 : zr1 = 0 := hw1
  subst hw1
  refine lv_ishr hx hb dJ0_length_8abf5_9 ?_
  refine lv_topi (fun y_2 hy_2 => ?_)
  obtain rfl : y_2 = 115 := hy_2.trans (by decide +kernel)
  exact x_iret hQ hx hb hr hlocks hK hP hD hS dJ0_length_8abf5_10 () (rfl) [] (by decide +kernel) rfl (Nat.le_of_ble_eq_true rfl) (Nat.le_of_ble_eq_true rfl)
theorem gdJ0_isLatin1_aae02_0 : decode cJ0_isLatin1_aae02 0 = .ok (.getstatic 38, 3) ∧ decode cJ0_isLatin1_aae02 3 = .ok (.ifCond .eq 14, 3) ∧ decode cJ0_isLatin1_aae02 6 = .ok (.aload_n 0, 1) ∧ decode cJ0_isLatin1_aae02 7 = .ok (.getfield 15, 3) ∧ decode cJ0_isLatin1_aae02 10 = .ok (.ifCond .ne 7, 3) ∧ decode cJ0_isLatin1_aae02 13 = .ok (.iconst 1, 1) ∧ decode cJ0_isLatin1_aae02 14 = .ok (.goto 4, 3) ∧ decode cJ0_isLatin1_aae02 18 = .ok (.ireturn, 1) := by decide +kernel
theorem dJ0_isLatin1_aae02_0 : decode cJ0_isLatin1_aae02 0 = .ok (.getstatic 38, 3) := gdJ0_isLatin1_aae02_0.1
theorem dJ0_isLatin1_aae02_3 : decode cJ0_isLatin1_aae02 3 = .ok (.ifCond .eq 14, 3) := gdJ0_isLatin1_aae02_0.2.1
theorem dJ0_isLatin1_aae02_6 : decode cJ0_isLatin1_aae02 6 = .ok (.aload_n 0, 1) := gdJ0_isLatin1_aae02_0.2.2.1
theorem dJ0_isLatin1_aae02_7 : decode cJ0_isLatin1_aae02 7 = .ok (.getfield 15, 3) := gdJ0_isLatin1_aae02_0.2.2.2.1
theorem dJ0_isLatin1_aae02_10 : decode cJ0_isLatin1_aae02 10 = .ok (.ifCond .ne 7, 3) := gdJ0_isLatin1_aae02_0.2.2.2.2.1
theorem dJ0_isLatin1_aae02_13 : decode cJ0_isLatin1_aae02 13 = .ok (.iconst 1, 1) := gdJ0_isLatin1_aae02_0.2.2.2.2.2.1
theorem dJ0_isLatin1_aae02_14 : decode cJ0_isLatin1_aae02 14 = .ok (.goto 4, 3) := gdJ0_isLatin1_aae02_0.2.2.2.2.2.2.1
theorem dJ0_isLatin1_aae02_18 : decode cJ0_isLatin1_aae02 18 = .ok (.ireturn, 1) := gdJ0_isLatin1_aae02_0.2.2.2.2.2.2.2
set_option maxHeartbeats 1000000 in
set_option maxRecDepth 100000 in
theorem j_isLatin10 (l : Launch) (D : va_G) (cy : Nat → ClassId) (adK : Nat → Nat) (adV : Nat → Nat)  : XMi l D (tyL cy) (EV adK adV) yJ0_isLatin1_aae02 cJ0_isLatin1_aae02 1 (some .boolean) (rmk 0 0 0) [.ref (adK 0)] [] (fun (r : Int32) (_ : Unit) => r = 1) (fun (_ : Unit) => []) := by
  refine XMi.start (by decide) (Nat.le_of_ble_eq_true rfl) ?_
  intro p e s m below meth c args A ls Q hat hQ
  obtain ⟨hx, hb, hr, hml, hown, hg, hlocks, hin, hK, hA, hP, hD, hS, hE, hl⟩ := hat
  have hown : s.vm.findClass RJ0 = some m.cls := hown
  have hl : lv_has ls 1 [(0, .ref (adK 0))] := hl
  refine va_gets hx hb hE.2.2.2.2.2.2.2.2.2.1 hS hown (hg _ m_174) (fun _ h => h) dJ0_isLatin1_aae02_0 ?_
  refine lv_if_eq (tgt := 17) hx hb dJ0_isLatin1_aae02_3 (by decide) (fun h => absurd h (by decide)) (fun _ => ?_)
  refine lv_aload_n hx hb dJ0_isLatin1_aae02_6 rfl (lv_at hl 0 rfl) ?_
  refine vk_getf hx hb (hE.2.2.2.2.2.2.2.2.1.1 0 (by decide)).2.1 hS hown (hg _ m_2157) (fun _ h => h) dJ0_isLatin1_aae02_7 ?_
  refine lv_if_ne (tgt := 17) hx hb dJ0_isLatin1_aae02_10 (by decide) (fun h => absurd (by decide) h) (fun _ => ?_)
  refine lv_iconst (v := 1) hx hb dJ0_isLatin1_aae02_13 (by decide) ?_
  refine lv_goto (tgt := 18) hx hb dJ0_isLatin1_aae02_14 (by decide) ?_
  exact x_zret hQ hx hb hr hlocks hK hP hD hS rfl dJ0_isLatin1_aae02_18 () (rfl) [] (by decide +kernel) rfl (Nat.le_of_ble_eq_true rfl) (Nat.le_of_ble_eq_true rfl)
set_option maxHeartbeats 1000000 in
set_option maxRecDepth 100000 in
theorem j_length1 (l : Launch) (D : va_G) (cy : Nat → ClassId) (adK : Nat → Nat) (adV : Nat → Nat)  : XMi l D (tyL cy) (EV adK adV) yJ0_length_8abf5 cJ0_length_8abf5 1 (some .int) (rmk 1 0 0) [.ref (adK 1)] [] (fun (r : Int32) (_ : Unit) => r = 11) (fun (_ : Unit) => []) := by
  refine XMi.start (by decide) (Nat.le_of_ble_eq_true rfl) ?_
  intro p e s m below meth c args A ls Q hat hQ
  obtain ⟨hx, hb, hr, hml, hown, hg, hlocks, hin, hK, hA, hP, hD, hS, hE, hl⟩ := hat
  have hown : s.vm.findClass RJ0 = some m.cls := hown
  have hl : lv_has ls 1 [(0, .ref (adK 1))] := hl
  refine lv_aload_n hx hb dJ0_length_8abf5_0 rfl (lv_at hl 0 rfl) ?_
  refine vk_getf hx hb (hE.2.2.2.2.2.2.2.2.1.1 1 (by decide)).2.2.1 hS hown (hg _ m_2156) (fun _ h => h) dJ0_length_8abf5_1 ?_
  refine va_tlen (v := 11) hx hb (hE.2.2.2.2.2.2.2.2.1.1 1 (by decide)).2.2.2 hS rfl dJ0_length_8abf5_4 ?_
  refine lv_aload_n hx hb dJ0_length_8abf5_5 rfl (lv_at hl 0 rfl) ?_
  refine x_callOi (C := RJ0) (wr := []) (rest := [.int 11]) ⟨hx, hb, hml, hown, hg, hl.1⟩ k_J0_335 (j_coder1 l D cy adK adV) EV_blind hK hP hD hS hA [] ⟨rfl, rfl, by decide +kernel, by decide +kernel, by decide +kernel⟩ (vk_recv (i := 1) hE.2.2.2.2.2.2.2.2.1 (by decide) hS) (fun U hU hW => EV_pass hE hS (va_free hD hS hA [] rfl) hU hW) dJ0_length_8abf5_6 rfl rfl (Nat.le_of_ble_eq_true rfl) ⟨Nat.le_of_ble_eq_true rfl, Nat.le_of_ble_eq_true rfl⟩ ⟨Nat.le_of_ble_eq_true rfl, Nat.le_of_ble_eq_true rfl⟩ (fun zr1 zu1 H locs hw1 hP9 hD9 hS9 => ?_)
  clear hP hD hS
  refine reW [] hP9 hD9 hS9 (fun hP hD hS => ?_)
  clear hP9 hD9 hS9
  refine W.widen (k := 0) (n := 0) (Nat.le_of_ble_eq_true rfl) (Nat.le_of_ble_eq_true rfl) ?_
  replace hw1 : zr1 = 0 := hw1
  subst hw1
  refine lv_ishr hx hb dJ0_length_8abf5_9 ?_
  refine lv_topi (fun y_2 hy_2 => ?_)
  obtain rfl : y_2 = 11 := hy_2.trans (by decide +kernel)
  exact x_iret hQ hx hb hr hlocks hK hP hD hS dJ0_length_8abf5_10 () (rfl) [] (by decide +kernel) rfl (Nat.le_of_ble_eq_true rfl) (Nat.le_of_ble_eq_true rfl)
set_option maxHeartbeats 1000000 in
set_option maxRecDepth 100000 in
theorem j_isLatin11 (l : Launch) (D : va_G) (cy : Nat → ClassId) (adK : Nat → Nat) (adV : Nat → Nat)  : XMi l D (tyL cy) (EV adK adV) yJ0_isLatin1_aae02 cJ0_isLatin1_aae02 1 (some .boolean) (rmk 0 0 0) [.ref (adK 1)] [] (fun (r : Int32) (_ : Unit) => r = 1) (fun (_ : Unit) => []) := by
  refine XMi.start (by decide) (Nat.le_of_ble_eq_true rfl) ?_
  intro p e s m below meth c args A ls Q hat hQ
  obtain ⟨hx, hb, hr, hml, hown, hg, hlocks, hin, hK, hA, hP, hD, hS, hE, hl⟩ := hat
  have hown : s.vm.findClass RJ0 = some m.cls := hown
  have hl : lv_has ls 1 [(0, .ref (adK 1))] := hl
  refine va_gets hx hb hE.2.2.2.2.2.2.2.2.2.1 hS hown (hg _ m_174) (fun _ h => h) dJ0_isLatin1_aae02_0 ?_
  refine lv_if_eq (tgt := 17) hx hb dJ0_isLatin1_aae02_3 (by decide) (fun h => absurd h (by decide)) (fun _ => ?_)
  refine lv_aload_n hx hb dJ0_isLatin1_aae02_6 rfl (lv_at hl 0 rfl) ?_
  refine vk_getf hx hb (hE.2.2.2.2.2.2.2.2.1.1 1 (by decide)).2.1 hS hown (hg _ m_2157) (fun _ h => h) dJ0_isLatin1_aae02_7 ?_
  refine lv_if_ne (tgt := 17) hx hb dJ0_isLatin1_aae02_10 (by decide) (fun h => absurd (by decide) h) (fun _ => ?_)
  refine lv_iconst (v := 1) hx hb dJ0_isLatin1_aae02_13 (by decide) ?_
  refine lv_goto (tgt := 18) hx hb dJ0_isLatin1_aae02_14 (by decide) ?_
  exact x_zret hQ hx hb hr hlocks hK hP hD hS rfl dJ0_isLatin1_aae02_18 () (rfl) [] (by decide +kernel) rfl (Nat.le_of_ble_eq_true rfl) (Nat.le_of_ble_eq_true rfl)
theorem gdJ3_checkIndex_8e157_0 : decode cJ3_checkIndex_8e157 0 = .ok (.iload_n 0, 1) ∧ decode cJ3_checkIndex_8e157 1 = .ok (.ifCond .lt 8, 3) ∧ decode cJ3_checkIndex_8e157 4 = .ok (.iload_n 0, 1) ∧ decode cJ3_checkIndex_8e157 5 = .ok (.iload_n 1, 1) ∧ decode cJ3_checkIndex_8e157 6 = .ok (.if_icmp .lt 10, 3) ∧ decode cJ3_checkIndex_8e157 16 = .ok (.iload_n 0, 1) ∧ decode cJ3_checkIndex_8e157 17 = .ok (.ireturn, 1) := by decide +kernel
theorem dJ3_checkIndex_8e157_0 : decode cJ3_checkIndex_8e157 0 = .ok (.iload_n 0, 1) := gdJ3_checkIndex_8e157_0.1
theorem dJ3_checkIndex_8e157_1 : decode cJ3_checkIndex_8e157 1 = .ok (.ifCond .lt 8, 3) := gdJ3_checkIndex_8e157_0.2.1
theorem dJ3_checkIndex_8e157_4 : decode cJ3_checkIndex_8e157 4 = .ok (.iload_n 0, 1) := gdJ3_checkIndex_8e157_0.2.2.1
theorem dJ3_checkIndex_8e157_5 : decode cJ3_checkIndex_8e157 5 = .ok (.iload_n 1, 1) := gdJ3_checkIndex_8e157_0.2.2.2.1
theorem dJ3_checkIndex_8e157_6 : decode cJ3_checkIndex_8e157 6 = .ok (.if_icmp .lt 10, 3) := gdJ3_checkIndex_8e157_0.2.2.2.2.1
theorem dJ3_checkIndex_8e157_16 : decode cJ3_checkIndex_8e157 16 = .ok (.iload_n 0, 1) := gdJ3_checkIndex_8e157_0.2.2.2.2.2.1
theorem dJ3_checkIndex_8e157_17 : decode cJ3_checkIndex_8e157 17 = .ok (.ireturn, 1) := gdJ3_checkIndex_8e157_0.2.2.2.2.2.2
set_option maxHeartbeats 1000000 in
set_option maxRecDepth 100000 in
theorem j_ci3n (l : Launch) (D : va_G) (cy : Nat → ClassId) (adK : Nat → Nat) (adV : Nat → Nat) (ix : Int32) (le : Int32) (hix : ¬ ix < 0) (hle : ix < le) : XMi l D (tyL cy) (EV adK adV) yJ3_checkIndex_8e157 cJ3_checkIndex_8e157 3 (some .int) (rmk 0 0 0) [.int ix, .int le, .null] [] (fun (r : Int32) (_ : Unit) => True) (fun (_ : Unit) => []) := by
  refine XMi.start (by decide) (Nat.le_of_ble_eq_true rfl) ?_
  intro p e s m below meth c args A ls Q hat hQ
  obtain ⟨hx, hb, hr, hml, hown, hg, hlocks, hin, hK, hA, hP, hD, hS, hE, hl⟩ := hat
  have hown : s.vm.findClass RJ3 = some m.cls := hown
  have hl : lv_has ls 3 [(0, .int ix), (1, .int le), (2, .null)] := hl
  refine lv_iload_n hx hb dJ3_checkIndex_8e157_0 rfl (lv_at hl 0 rfl) ?_
  refine lv_if_lt (tgt := 9) hx hb dJ3_checkIndex_8e157_1 (by decide) (fun h => absurd h hix) (fun _ => ?_)
  refine lv_iload_n hx hb dJ3_checkIndex_8e157_4 rfl (lv_at hl 0 rfl) ?_
  refine lv_iload_n hx hb dJ3_checkIndex_8e157_5 rfl (lv_at hl 1 rfl) ?_
  refine lv_icmp_lt (tgt := 16) hx hb dJ3_checkIndex_8e157_6 (by decide) (fun _ => ?_) (fun h => absurd hle h)
  refine lv_iload_n hx hb dJ3_checkIndex_8e157_16 rfl (lv_at hl 0 rfl) ?_
  exact x_iret hQ hx hb hr hlocks hK hP hD hS dJ3_checkIndex_8e157_17 () (trivial) [] (by decide +kernel) rfl (Nat.le_of_ble_eq_true rfl) (Nat.le_of_ble_eq_true rfl)
set_option maxHeartbeats 1000000 in
set_option maxRecDepth 100000 in
theorem j_ci3r (l : Launch) (D : va_G) (cy : Nat → ClassId) (adK : Nat → Nat) (adV : Nat → Nat) (ix : Int32) (le : Int32) (tz : Nat) (hix : ¬ ix < 0) (hle : ix < le) : XMi l D (tyL cy) (EV adK adV) yJ3_checkIndex_8e157 cJ3_checkIndex_8e157 3 (some .int) (rmk 0 0 0) [.int ix, .int le, .ref tz] [] (fun (r : Int32) (_ : Unit) => True) (fun (_ : Unit) => []) := by
  refine XMi.start (by decide) (Nat.le_of_ble_eq_true rfl) ?_
  intro p e s m below meth c args A ls Q hat hQ
  obtain ⟨hx, hb, hr, hml, hown, hg, hlocks, hin, hK, hA, hP, hD, hS, hE, hl⟩ := hat
  have hown : s.vm.findClass RJ3 = some m.cls := hown
  have hl : lv_has ls 3 [(0, .int ix), (1, .int le), (2, .ref tz)] := hl
  refine lv_iload_n hx hb dJ3_checkIndex_8e157_0 rfl (lv_at hl 0 rfl) ?_
  refine lv_if_lt (tgt := 9) hx hb dJ3_checkIndex_8e157_1 (by decide) (fun h => absurd h hix) (fun _ => ?_)
  refine lv_iload_n hx hb dJ3_checkIndex_8e157_4 rfl (lv_at hl 0 rfl) ?_
  refine lv_iload_n hx hb dJ3_checkIndex_8e157_5 rfl (lv_at hl 1 rfl) ?_
  refine lv_icmp_lt (tgt := 16) hx hb dJ3_checkIndex_8e157_6 (by decide) (fun _ => ?_) (fun h => absurd hle h)
  refine lv_iload_n hx hb dJ3_checkIndex_8e157_16 rfl (lv_at hl 0 rfl) ?_
  exact x_iret hQ hx hb hr hlocks hK hP hD hS dJ3_checkIndex_8e157_17 () (trivial) [] (by decide +kernel) rfl (Nat.le_of_ble_eq_true rfl) (Nat.le_of_ble_eq_true rfl)
theorem gdJ0_checkIndex_df160_0 : decode cJ0_checkIndex_df160 0 = .ok (.iload_n 0, 1) ∧ decode cJ0_checkIndex_df160 1 = .ok (.iload_n 1, 1) ∧ decode cJ0_checkIndex_df160 2 = .ok (.getstatic 1053, 3) ∧ decode cJ0_checkIndex_df160 5 = .ok (.invokestatic 1059, 3) := by decide +kernel
theorem dJ0_checkIndex_df160_0 : decode cJ0_checkIndex_df160 0 = .ok (.iload_n 0, 1) := gdJ0_checkIndex_df160_0.1
theorem dJ0_checkIndex_df160_1 : decode cJ0_checkIndex_df160 1 = .ok (.iload_n 1, 1) := gdJ0_checkIndex_df160_0.2.1
theorem dJ0_checkIndex_df160_2 : decode cJ0_checkIndex_df160 2 = .ok (.getstatic 1053, 3) := gdJ0_checkIndex_df160_0.2.2.1
theorem dJ0_checkIndex_df160_5 : decode cJ0_checkIndex_df160 5 = .ok (.invokestatic 1059, 3) := gdJ0_checkIndex_df160_0.2.2.2
theorem k_J0_1059 : xS RJ0 1059 yJ3_checkIndex_8e157 cJ3_checkIndex_8e157 3 (some .int) 3 := ⟨⟨m_192, m_193, m_134, m_194⟩, by decide, by decide, by decide +kernel⟩
theorem dJ0_checkIndex_df160_8 : decode cJ0_checkIndex_df160 8 = .ok (.pop, 1) := by decide +kernel
theorem dJ0_checkIndex_df160_9 : decode cJ0_checkIndex_df160 9 = .ok (.return_, 1) := by decide +kernel
set_option maxHeartbeats 1000000 in
set_option maxRecDepth 100000 in
theorem j_ci (l : Launch) (D : va_G) (cy : Nat → ClassId) (adK : Nat → Nat) (adV : Nat → Nat) (ix : Int32) (le : Int32) (hix : ¬ ix < 0) (hle : ix < le) : XMv l D (tyL cy) (EV adK adV) yJ0_checkIndex_df160 cJ0_checkIndex_df160 2 none (rmk 1 0 0) [.int ix, .int le] [] (fun (_ : Unit) => True) (fun (_ : Unit) => []) := by
  refine XMv.start (by decide) (Nat.le_of_ble_eq_true rfl) ?_
  intro p e s m below meth c args A ls Q hat hQ
  obtain ⟨hx, hb, hr, hml, hown, hg, hlocks, hin, hK, hA, hP, hD, hS, hE, hl⟩ := hat
  have hown : s.vm.findClass RJ0 = some m.cls := hown
  have hl : lv_has ls 2 [(0, .int ix), (1, .int le)] := hl
  refine lv_iload_n hx hb dJ0_checkIndex_df160_0 rfl (lv_at hl 0 rfl) ?_
  refine lv_iload_n hx hb dJ0_checkIndex_df160_1 rfl (lv_at hl 1 rfl) ?_
  rcases hE.2.2.2.2.2.2.2.2.2.2.1 with hz | ⟨tz, hz⟩
  · refine va_gets hx hb hz hS hown (hg _ m_190) (fun _ h => h) dJ0_checkIndex_df160_2 ?_
    refine x_callSi (wr := []) (rest := []) ⟨hx, hb, hml, hown, hg, hl.1⟩ k_J0_1059 (j_ci3n l D cy adK adV ix le (hix) (hle)) EV_blind hK hP hD hS hA [] [] ⟨rfl, rfl, by decide +kernel, by decide +kernel, by decide +kernel⟩ (fun U hU hW => EV_pass hE hS (va_free hD hS hA [] rfl) hU hW) dJ0_checkIndex_df160_5 rfl rfl (Nat.le_of_ble_eq_true rfl) ⟨Nat.le_of_ble_eq_true rfl, Nat.le_of_ble_eq_true rfl⟩ ⟨Nat.le_of_ble_eq_true rfl, Nat.le_of_ble_eq_true rfl⟩ (fun zr1 zu1 H locs hw1 hP9 hD9 hS9 => ?_)
    clear hP hD hS
    refine reW [] hP9 hD9 hS9 (fun hP hD hS => ?_)
    clear hP9 hD9 hS9
    refine W.widen (k := 0) (n := 0) (Nat.le_of_ble_eq_true rfl) (Nat.le_of_ble_eq_true rfl) ?_
    replace hw1 : True := hw1
    refine lv_pop hx hb dJ0_checkIndex_df160_8 rfl ?_
    exact x_vret hQ hx hb hr hlocks hK hP hD hS dJ0_checkIndex_df160_9 () (trivial) [] (by decide +kernel) rfl (Nat.le_of_ble_eq_true rfl) (Nat.le_of_ble_eq_true rfl)
  · refine va_gets hx hb hz hS hown (hg _ m_190) (fun _ h => h) dJ0_checkIndex_df160_2 ?_
    refine x_callSi (wr := []) (rest := []) ⟨hx, hb, hml, hown, hg, hl.1⟩ k_J0_1059 (j_ci3r l D cy adK adV ix le tz (hix) (hle)) EV_blind hK hP hD hS hA [] [] ⟨rfl, rfl, by decide +kernel, by decide +kernel, by decide +kernel⟩ (fun U hU hW => EV_pass hE hS (va_free hD hS hA [] rfl) hU hW) dJ0_checkIndex_df160_5 rfl rfl (Nat.le_of_ble_eq_true rfl) ⟨Nat.le_of_ble_eq_true rfl, Nat.le_of_ble_eq_true rfl⟩ ⟨Nat.le_of_ble_eq_true rfl, Nat.le_of_ble_eq_true rfl⟩ (fun zr2 zu2 H locs hw2 hP9 hD9 hS9 => ?_)
    clear hP hD hS
    refine reW [] hP9 hD9 hS9 (fun hP hD hS => ?_)
    clear hP9 hD9 hS9
    refine W.widen (k := 0) (n := 0) (Nat.le_of_ble_eq_true rfl) (Nat.le_of_ble_eq_true rfl) ?_
    replace hw2 : True := hw2
    refine lv_pop hx hb dJ0_checkIndex_df160_8 rfl ?_
    exact x_vret hQ hx hb hr hlocks hK hP hD hS dJ0_checkIndex_df160_9 () (trivial) [] (by decide +kernel) rfl (Nat.le_of_ble_eq_true rfl) (Nat.le_of_ble_eq_true rfl)
theorem gdJ1_charAt_3b067_0 : decode cJ1_charAt_3b067 0 = .ok (.iload_n 1, 1) ∧ decode cJ1_charAt_3b067 1 = .ok (.aload_n 0, 1) ∧ decode cJ1_charAt_3b067 2 = .ok (.arraylength, 1) ∧ decode cJ1_charAt_3b067 3 = .ok (.invokestatic 9, 3) := by decide +kernel
theorem dJ1_charAt_3b067_0 : decode cJ1_charAt_3b067 0 = .ok (.iload_n 1, 1) := gdJ1_charAt_3b067_0.1
theorem dJ1_charAt_3b067_1 : decode cJ1_charAt_3b067 1 = .ok (.aload_n 0, 1) := gdJ1_charAt_3b067_0.2.1
theorem dJ1_charAt_3b067_2 : decode cJ1_charAt_3b067 2 = .ok (.arraylength, 1) := gdJ1_charAt_3b067_0.2.2.1
theorem dJ1_charAt_3b067_3 : decode cJ1_charAt_3b067 3 = .ok (.invokestatic 9, 3) := gdJ1_charAt_3b067_0.2.2.2
theorem k_J1_9 : xS RJ1 9 yJ0_checkIndex_df160 cJ0_checkIndex_df160 2 none 2 := ⟨⟨m_187, m_188, m_132, m_189⟩, by decide, by decide, by decide +kernel⟩
theorem gdJ1_charAt_3b067_6 : decode cJ1_charAt_3b067 6 = .ok (.aload_n 0, 1) ∧ decode cJ1_charAt_3b067 7 = .ok (.iload_n 1, 1) ∧ decode cJ1_charAt_3b067 8 = .ok (.baload, 1) ∧ decode cJ1_charAt_3b067 9 = .ok (.sipush 255, 3) ∧ decode cJ1_charAt_3b067 12 = .ok (.iand, 1) ∧ decode cJ1_charAt_3b067 13 = .ok (.i2c, 1) ∧ decode cJ1_charAt_3b067 14 = .ok (.ireturn, 1) := by decide +kernel
theorem dJ1_charAt_3b067_6 : decode cJ1_charAt_3b067 6 = .ok (.aload_n 0, 1) := gdJ1_charAt_3b067_6.1
theorem dJ1_charAt_3b067_7 : decode cJ1_charAt_3b067 7 = .ok (.iload_n 1, 1) := gdJ1_charAt_3b067_6.2.1
theorem dJ1_charAt_3b067_8 : decode cJ1_charAt_3b067 8 = .ok (.baload, 1) := gdJ1_charAt_3b067_6.2.2.1
theorem dJ1_charAt_3b067_9 : decode cJ1_charAt_3b067 9 = .ok (.sipush 255, 3) := gdJ1_charAt_3b067_6.2.2.2.1
theorem dJ1_charAt_3b067_12 : decode cJ1_charAt_3b067 12 = .ok (.iand, 1) := gdJ1_charAt_3b067_6.2.2.2.2.1
theorem dJ1_charAt_3b067_13 : decode cJ1_charAt_3b067 13 = .ok (.i2c, 1) := gdJ1_charAt_3b067_6.2.2.2.2.2.1
theorem dJ1_charAt_3b067_14 : decode cJ1_charAt_3b067 14 = .ok (.ireturn, 1) := gdJ1_charAt_3b067_6.2.2.2.2.2.2
set_option maxHeartbeats 1000000 in
set_option maxRecDepth 100000 in
theorem j_charL (l : Launch) (D : va_G) (cy : Nat → ClassId) (adK : Nat → Nat) (adV : Nat → Nat) (ix : Int32) (hin0 : vp_in ix 115) : XMi l D (tyL cy) (EV adK adV) yJ1_charAt_3b067 cJ1_charAt_3b067 2 (some .char) (rmk 2 0 0) [.ref (adV 0), .int ix] [] (fun (r : Int32) (_ : Unit) => (narrow .char (.int r) = .int r)) (fun (_ : Unit) => []) := by
  refine XMi.start (by decide) (Nat.le_of_ble_eq_true rfl) ?_
  intro p e s m below meth c args A ls Q hat hQ
  obtain ⟨hx, hb, hr, hml, hown, hg, hlocks, hin, hK, hA, hP, hD, hS, hE, hl⟩ := hat
  have hown : s.vm.findClass RJ1 = some m.cls := hown
  have hl : lv_has ls 2 [(0, .ref (adV 0)), (1, .int ix)] := hl
  refine lv_iload_n hx hb dJ1_charAt_3b067_0 rfl (lv_at hl 1 rfl) ?_
  refine lv_aload_n hx hb dJ1_charAt_3b067_1 rfl (lv_at hl 0 rfl) ?_
  refine va_tlen (v := 115) hx hb (hE.2.2.2.2.2.2.2.2.1.1 0 (by decide)).2.2.2 hS rfl dJ1_charAt_3b067_2 ?_
  refine x_callSv (wr := []) (rest := []) ⟨hx, hb, hml, hown, hg, hl.1⟩ k_J1_9 (j_ci l D cy adK adV ix 115 ((fits_ci hin0 (by decide)).1) ((fits_ci hin0 (by decide)).2)) EV_blind hK hP hD hS hA [] [] ⟨rfl, rfl, by decide +kernel, by decide +kernel, by decide +kernel⟩ (fun U hU hW => EV_pass hE hS (va_free hD hS hA [] rfl) hU hW) dJ1_charAt_3b067_3 rfl rfl (Nat.le_of_ble_eq_true rfl) ⟨Nat.le_of_ble_eq_true rfl, Nat.le_of_ble_eq_true rfl⟩ ⟨Nat.le_of_ble_eq_true rfl, Nat.le_of_ble_eq_true rfl⟩ (fun zu1 H locs hw1 hP9 hD9 hS9 => ?_)
  clear hP hD hS
  refine reW [] hP9 hD9 hS9 (fun hP hD hS => ?_)
  clear hP9 hD9 hS9
  refine W.widen (k := 0) (n := 0) (Nat.le_of_ble_eq_true rfl) (Nat.le_of_ble_eq_true rfl) ?_
  refine lv_aload_n hx hb dJ1_charAt_3b067_6 rfl (lv_at hl 0 rfl) ?_
  refine lv_iload_n hx hb dJ1_charAt_3b067_7 rfl (lv_at hl 1 rfl) ?_
  refine va_tb hx hb (hE.2.2.2.2.2.2.2.2.1.1 0 (by decide)).2.2.2 hS hin0 rfl dJ1_charAt_3b067_8 ?_
  refine lv_topi (fun x_2 ex_2 => ?_)
  refine lv_sipush (v := 255) hx hb dJ1_charAt_3b067_9 (by decide) ?_
  refine lv_iand hx hb dJ1_charAt_3b067_12 ?_
  refine lv_topi (fun x_3 ex_3 => ?_)
  obtain ⟨x_4, ex_4⟩ : ∃ y : Int32, ((x_3 : Int32).toUInt32 % 65536).toInt32 = y := ⟨_, rfl⟩
  refine lv_i2c (v := x_4) hx hb dJ1_charAt_3b067_13 ex_4 ?_
  exact x_zret hQ hx hb hr hlocks hK hP hD hS (ex_4 ▸ pk_nc _) dJ1_charAt_3b067_14 () (ex_4 ▸ pk_nc _) [] (by decide +kernel) rfl (Nat.le_of_ble_eq_true rfl) (Nat.le_of_ble_eq_true rfl)
theorem dJ0_charAt_5068e_0 : decode cJ0_charAt_5068e 0 = .ok (.aload_n 0, 1) := by decide +kernel
theorem dJ0_charAt_5068e_1 : decode cJ0_charAt_5068e 1 = .ok (.invokevirtual 492, 3) := by decide +kernel
theorem k_J0_492 : xV RJ0 RJ0 492 yJ0_isLatin1_aae02 cJ0_isLatin1_aae02 1 (some .boolean) 0 := ⟨⟨m_180, m_181, m_182, m_132, m_183⟩, rfl, by decide, by decide, by decide +kernel⟩
theorem gdJ0_charAt_5068e_4 : decode cJ0_charAt_5068e 4 = .ok (.ifCond .eq 12, 3) ∧ decode cJ0_charAt_5068e 7 = .ok (.aload_n 0, 1) ∧ decode cJ0_charAt_5068e 8 = .ok (.getfield 9, 3) ∧ decode cJ0_charAt_5068e 11 = .ok (.iload_n 1, 1) ∧ decode cJ0_charAt_5068e 12 = .ok (.invokestatic 495, 3) := by decide +kernel
theorem dJ0_charAt_5068e_4 : decode cJ0_charAt_5068e 4 = .ok (.ifCond .eq 12, 3) := gdJ0_charAt_5068e_4.1
theorem dJ0_charAt_5068e_7 : decode cJ0_charAt_5068e 7 = .ok (.aload_n 0, 1) := gdJ0_charAt_5068e_4.2.1
theorem dJ0_charAt_5068e_8 : decode cJ0_charAt_5068e 8 = .ok (.getfield 9, 3) := gdJ0_charAt_5068e_4.2.2.1
theorem dJ0_charAt_5068e_11 : decode cJ0_charAt_5068e 11 = .ok (.iload_n 1, 1) := gdJ0_charAt_5068e_4.2.2.2.1
theorem dJ0_charAt_5068e_12 : decode cJ0_charAt_5068e 12 = .ok (.invokestatic 495, 3) := gdJ0_charAt_5068e_4.2.2.2.2
theorem k_J0_495 : xS RJ0 495 yJ1_charAt_3b067 cJ1_charAt_3b067 2 (some .char) 2 := ⟨⟨m_184, m_185, m_133, m_186⟩, by decide, by decide, by decide +kernel⟩
theorem dJ0_charAt_5068e_15 : decode cJ0_charAt_5068e 15 = .ok (.ireturn, 1) := by decide +kernel
set_option maxHeartbeats 1000000 in
set_option maxRecDepth 100000 in
theorem j_charAt (l : Launch) (D : va_G) (cy : Nat → ClassId) (adK : Nat → Nat) (adV : Nat → Nat) (ix : Int32) (hin0 : vp_in ix 115) : XMi l D (tyL cy) (EV adK adV) yJ0_charAt_5068e cJ0_charAt_5068e 2 (some .char) (rmk 3 0 0) [.ref (adK 0), .int ix] [] (fun (r : Int32) (_ : Unit) => True) (fun (_ : Unit) => []) := by
  refine XMi.start (by decide) (Nat.le_of_ble_eq_true rfl) ?_
  intro p e s m below meth c args A ls Q hat hQ
  obtain ⟨hx, hb, hr, hml, hown, hg, hlocks, hin, hK, hA, hP, hD, hS, hE, hl⟩ := hat
  have hown : s.vm.findClass RJ0 = some m.cls := hown
  have hl : lv_has ls 2 [(0, .ref (adK 0)), (1, .int ix)] := hl
  refine lv_aload_n hx hb dJ0_charAt_5068e_0 rfl (lv_at hl 0 rfl) ?_
  refine x_callOi (C := RJ0) (wr := []) (rest := []) ⟨hx, hb, hml, hown, hg, hl.1⟩ k_J0_492 (j_isLatin10 l D cy adK adV) EV_blind hK hP hD hS hA [] ⟨rfl, rfl, by decide +kernel, by decide +kernel, by decide +kernel⟩ (vk_recv (i := 0) hE.2.2.2.2.2.2.2.2.1 (by decide) hS) (fun U hU hW => EV_pass hE hS (va_free hD hS hA [] rfl) hU hW) dJ0_charAt_5068e_1 rfl rfl (Nat.le_of_ble_eq_true rfl) ⟨Nat.le_of_ble_eq_true rfl, Nat.le_of_ble_eq_true rfl⟩ ⟨Nat.le_of_ble_eq_true rfl, Nat.le_of_ble_eq_true rfl⟩ (fun zr1 zu1 H locs hw1 hP9 hD9 hS9 => ?_)
  clear hP hD hS
  refine reW [] hP9 hD9 hS9 (fun hP hD hS => ?_)
  clear hP9 hD9 hS9
  refine W.widen (k := 0) (n := 0) (Nat.le_of_ble_eq_true rfl) (Nat.le_of_ble_eq_true rfl) ?_
  replace hw1 : zr1 = 1 := hw1
  subst hw1
  refine lv_if_eq (tgt := 16) hx hb dJ0_charAt_5068e_4 (by decide) (fun h => absurd h (by decide)) (fun _ => ?_)
  refine lv_aload_n hx hb dJ0_charAt_5068e_7 rfl (lv_at hl 0 rfl) ?_
  refine vk_getf hx hb (hE.2.2.2.2.2.2.2.2.1.1 0 (by decide)).2.2.1 hS hown (hg _ m_2156) (fun _ h => h) dJ0_charAt_5068e_8 ?_
  refine lv_iload_n hx hb dJ0_charAt_5068e_11 rfl (lv_at hl 1 rfl) ?_
  refine x_callSi (wr := []) (rest := []) ⟨hx, hb, hml, hown, hg, hl.1⟩ k_J0_495 (j_charL l D cy adK adV ix (hin0)) EV_blind hK hP hD hS hA [] [] ⟨rfl, rfl, by decide +kernel, by decide +kernel, by decide +kernel⟩ (fun U hU hW => EV_pass hE hS (va_free hD hS hA [] rfl) hU hW) dJ0_charAt_5068e_12 rfl rfl (Nat.le_of_ble_eq_true rfl) ⟨Nat.le_of_ble_eq_true rfl, Nat.le_of_ble_eq_true rfl⟩ ⟨Nat.le_of_ble_eq_true rfl, Nat.le_of_ble_eq_true rfl⟩ (fun zr2 zu2 H locs hw2 hP9 hD9 hS9 => ?_)
  clear hP hD hS
  refine reW [] hP9 hD9 hS9 (fun hP hD hS => ?_)
  clear hP9 hD9 hS9
  refine W.widen (k := 0) (n := 0) (Nat.le_of_ble_eq_true rfl) (Nat.le_of_ble_eq_true rfl) ?_
  replace hw2 : (narrow .char (.int zr2) = .int zr2) := hw2
  have f_3 := hw2
  exact x_zret hQ hx hb hr hlocks hK hP hD hS hw2 dJ0_charAt_5068e_15 () (trivial) [] (by decide +kernel) rfl (Nat.le_of_ble_eq_true rfl) (Nat.le_of_ble_eq_true rfl)
/-! the keys, as the Tape's constructor makes them -/
def kx : Nat → Nat
  | 0 => 0
  | i + 1 => if kBf i = 32 then kx i + 1 else kx i
def kr : Nat → Nat → Int64
  | 0 => fun _ => 0
  | i + 1 => if kBf i = 32 then kr i else vp_updL (kr i) (kx i) (kr i (kx i) * 27 + (kBf i - 96).toInt64)
theorem kx_lt (i : Nat) (h : i < 115) : kx i < 24 := by
  have h1 : (List.range 115).all (fun i => decide (kx i < 24)) = true := by decide +kernel
  exact of_decide_eq_true (List.all_eq_true.mp h1 i (List.mem_range.mpr h))
theorem kr_ok : kyOK (kr 115) := by
  intro k hk
  have h1 : (List.range 24).all (fun k => decide (kr 115 k = kyC k)) = true := by decide +kernel
  exact of_decide_eq_true (List.all_eq_true.mp h1 k (List.mem_range.mpr hk))
theorem kx_go {i kq : Nat} {zr : Int32} (hk : kq = kx i) (hv : zr = kBf i) (h : zr = 32) : kq + 1 = kx (i + 1) := by
  show _ = (if _ then _ else _)
  rw [if_pos (hv.symm.trans h), hk]
theorem kx_st {i kq : Nat} {zr : Int32} (hk : kq = kx i) (hv : zr = kBf i) (h : ¬ zr = 32) : kq = kx (i + 1) := by
  show _ = (if _ then _ else _)
  rw [if_neg (fun h9 => h (hv.trans h9)), hk]
theorem kr_st {i : Nat} {fa : Nat → Int64} {zr : Int32} (hf : fa = kr i) (hv : zr = kBf i) (h : zr = 32) : fa = kr (i + 1) := by
  show _ = (if _ then _ else _)
  rw [if_pos (hv.symm.trans h), hf]
theorem kr_go {i kq : Nat} {fa g : Nat → Int64} {zr x2 : Int32} {z0 z1 z3 z4 : Int64} (hk : kq = kx i) (hkq : kq < 24) (hf : fa = kr i) (hv : zr = kBf i) (hne : ¬ zr = 32) (e0 : z0 = fa (nI kq).toNatClampNeg) (e1 : z1 = z0 * 27) (e2 : x2 = zr - 96) (e3 : x2.toInt64 = z3) (e4 : z4 = z1 + z3) (eg : vp_updL fa (nI kq).toNatClampNeg z4 = g) : g = kr (i + 1) := by
  rw [nI_clamp (by omega)] at e0 eg
  show _ = (if _ then _ else _)
  rw [if_neg (fun h => hne (hv.trans h)), ← eg, e4, e1, ← e3, e2, e0, hf, hk, hv]
theorem chr_v {ix x y z : Int32} (h : vp_in ix 115) (ez : z = (([kB, kS] : List (List Int32)).getD 0 []).getD ix.toNatClampNeg 0) (ey : y = z &&& 255) (ex : (y.toUInt32 % 65536).toInt32 = x) : x = kBf ix.toNatClampNeg := by
  have hl : ix.toNatClampNeg < 115 := by
    rcases Nat.lt_or_ge ix.toNatClampNeg 115 with h9 | h9
    · exact h9
    · exact absurd (Or.inr h9) h
  have h1 : (List.range 115).all (fun i => decide (((kBf i &&& 255).toUInt32 % 65536).toInt32 = kBf i)) = true := by decide +kernel
  rw [← ex, ey, ez]
  exact of_decide_eq_true (List.all_eq_true.mp h1 _ (List.mem_range.mpr hl))
set_option maxHeartbeats 1000000 in
set_option maxRecDepth 100000 in
theorem j_charL9 (l : Launch) (D : va_G) (cy : Nat → ClassId) (adK : Nat → Nat) (adV : Nat → Nat) (ix : Int32) (hin0 : vp_in ix 115) : XMi l D (tyL cy) (EV adK adV) yJ1_charAt_3b067 cJ1_charAt_3b067 2 (some .char) (rmk 2 0 0) [.ref (adV 0), .int ix] [] (fun (r : Int32) (_ : Unit) => (narrow .char (.int r) = .int r) ∧ (r = kBf ix.toNatClampNeg)) (fun (_ : Unit) => []) := by
  refine XMi.start (by decide) (Nat.le_of_ble_eq_true rfl) ?_
  intro p e s m below meth c args A ls Q hat hQ
  obtain ⟨hx, hb, hr, hml, hown, hg, hlocks, hin, hK, hA, hP, hD, hS, hE, hl⟩ := hat
  have hown : s.vm.findClass RJ1 = some m.cls := hown
  have hl : lv_has ls 2 [(0, .ref (adV 0)), (1, .int ix)] := hl
  refine lv_iload_n hx hb dJ1_charAt_3b067_0 rfl (lv_at hl 1 rfl) ?_
  refine lv_aload_n hx hb dJ1_charAt_3b067_1 rfl (lv_at hl 0 rfl) ?_
  refine va_tlen (v := 115) hx hb (hE.2.2.2.2.2.2.2.2.1.1 0 (by decide)).2.2.2 hS rfl dJ1_charAt_3b067_2 ?_
  refine x_callSv (wr := []) (rest := []) ⟨hx, hb, hml, hown, hg, hl.1⟩ k_J1_9 (j_ci l D cy adK adV ix 115 ((fits_ci hin0 (by decide)).1) ((fits_ci hin0 (by decide)).2)) EV_blind hK hP hD hS hA [] [] ⟨rfl, rfl, by decide +kernel, by decide +kernel, by decide +kernel⟩ (fun U hU hW => EV_pass hE hS (va_free hD hS hA [] rfl) hU hW) dJ1_charAt_3b067_3 rfl rfl (Nat.le_of_ble_eq_true rfl) ⟨Nat.le_of_ble_eq_true rfl, Nat.le_of_ble_eq_true rfl⟩ ⟨Nat.le_of_ble_eq_true rfl, Nat.le_of_ble_eq_true rfl⟩ (fun zu1 H locs hw1 hP9 hD9 hS9 => ?_)
  clear hP hD hS
  refine reW [] hP9 hD9 hS9 (fun hP hD hS => ?_)
  clear hP9 hD9 hS9
  refine W.widen (k := 0) (n := 0) (Nat.le_of_ble_eq_true rfl) (Nat.le_of_ble_eq_true rfl) ?_
  refine lv_aload_n hx hb dJ1_charAt_3b067_6 rfl (lv_at hl 0 rfl) ?_
  refine lv_iload_n hx hb dJ1_charAt_3b067_7 rfl (lv_at hl 1 rfl) ?_
  refine va_tb hx hb (hE.2.2.2.2.2.2.2.2.1.1 0 (by decide)).2.2.2 hS hin0 rfl dJ1_charAt_3b067_8 ?_
  refine lv_topi (fun x_2 ex_2 => ?_)
  refine lv_sipush (v := 255) hx hb dJ1_charAt_3b067_9 (by decide) ?_
  refine lv_iand hx hb dJ1_charAt_3b067_12 ?_
  refine lv_topi (fun x_3 ex_3 => ?_)
  obtain ⟨x_4, ex_4⟩ : ∃ y : Int32, ((x_3 : Int32).toUInt32 % 65536).toInt32 = y := ⟨_, rfl⟩
  refine lv_i2c (v := x_4) hx hb dJ1_charAt_3b067_13 ex_4 ?_
  exact x_zret hQ hx hb hr hlocks hK hP hD hS (ex_4 ▸ pk_nc _) dJ1_charAt_3b067_14 () (⟨ex_4 ▸ pk_nc _, chr_v hin0 ex_2 ex_3 ex_4⟩) [] (by decide +kernel) rfl (Nat.le_of_ble_eq_true rfl) (Nat.le_of_ble_eq_true rfl)
set_option maxHeartbeats 1000000 in
set_option maxRecDepth 100000 in
theorem j_charAt9 (l : Launch) (D : va_G) (cy : Nat → ClassId) (adK : Nat → Nat) (adV : Nat → Nat) (ix : Int32) (hin0 : vp_in ix 115) : XMi l D (tyL cy) (EV adK adV) yJ0_charAt_5068e cJ0_charAt_5068e 2 (some .char) (rmk 3 0 0) [.ref (adK 0), .int ix] [] (fun (r : Int32) (_ : Unit) => (r = kBf ix.toNatClampNeg)) (fun (_ : Unit) => []) := by
  refine XMi.start (by decide) (Nat.le_of_ble_eq_true rfl) ?_
  intro p e s m below meth c args A ls Q hat hQ
  obtain ⟨hx, hb, hr, hml, hown, hg, hlocks, hin, hK, hA, hP, hD, hS, hE, hl⟩ := hat
  have hown : s.vm.findClass RJ0 = some m.cls := hown
  have hl : lv_has ls 2 [(0, .ref (adK 0)), (1, .int ix)] := hl
  refine lv_aload_n hx hb dJ0_charAt_5068e_0 rfl (lv_at hl 0 rfl) ?_
  refine x_callOi (C := RJ0) (wr := []) (rest := []) ⟨hx, hb, hml, hown, hg, hl.1⟩ k_J0_492 (j_isLatin10 l D cy adK adV) EV_blind hK hP hD hS hA [] ⟨rfl, rfl, by decide +kernel, by decide +kernel, by decide +kernel⟩ (vk_recv (i := 0) hE.2.2.2.2.2.2.2.2.1 (by decide) hS) (fun U hU hW => EV_pass hE hS (va_free hD hS hA [] rfl) hU hW) dJ0_charAt_5068e_1 rfl rfl (Nat.le_of_ble_eq_true rfl) ⟨Nat.le_of_ble_eq_true rfl, Nat.le_of_ble_eq_true rfl⟩ ⟨Nat.le_of_ble_eq_true rfl, Nat.le_of_ble_eq_true rfl⟩ (fun zr1 zu1 H locs hw1 hP9 hD9 hS9 => ?_)
  clear hP hD hS
  refine reW [] hP9 hD9 hS9 (fun hP hD hS => ?_)
  clear hP9 hD9 hS9
  refine W.widen (k := 0) (n := 0) (Nat.le_of_ble_eq_true rfl) (Nat.le_of_ble_eq_true rfl) ?_
  replace hw1 : zr1 = 1 := hw1
  subst hw1
  refine lv_if_eq (tgt := 16) hx hb dJ0_charAt_5068e_4 (by decide) (fun h => absurd h (by decide)) (fun _ => ?_)
  refine lv_aload_n hx hb dJ0_charAt_5068e_7 rfl (lv_at hl 0 rfl) ?_
  refine vk_getf hx hb (hE.2.2.2.2.2.2.2.2.1.1 0 (by decide)).2.2.1 hS hown (hg _ m_2156) (fun _ h => h) dJ0_charAt_5068e_8 ?_
  refine lv_iload_n hx hb dJ0_charAt_5068e_11 rfl (lv_at hl 1 rfl) ?_
  refine x_callSi (wr := []) (rest := []) ⟨hx, hb, hml, hown, hg, hl.1⟩ k_J0_495 (j_charL9 l D cy adK adV ix (hin0)) EV_blind hK hP hD hS hA [] [] ⟨rfl, rfl, by decide +kernel, by decide +kernel, by decide +kernel⟩ (fun U hU hW => EV_pass hE hS (va_free hD hS hA [] rfl) hU hW) dJ0_charAt_5068e_12 rfl rfl (Nat.le_of_ble_eq_true rfl) ⟨Nat.le_of_ble_eq_true rfl, Nat.le_of_ble_eq_true rfl⟩ ⟨Nat.le_of_ble_eq_true rfl, Nat.le_of_ble_eq_true rfl⟩ (fun zr2 zu2 H locs hw2 hP9 hD9 hS9 => ?_)
  clear hP hD hS
  refine reW [] hP9 hD9 hS9 (fun hP hD hS => ?_)
  clear hP9 hD9 hS9
  refine W.widen (k := 0) (n := 0) (Nat.le_of_ble_eq_true rfl) (Nat.le_of_ble_eq_true rfl) ?_
  replace hw2 : (narrow .char (.int zr2) = .int zr2) ∧ (zr2 = kBf ix.toNatClampNeg) := hw2
  obtain ⟨f_3, f_4⟩ := hw2
  exact x_zret hQ hx hb hr hlocks hK hP hD hS f_3 dJ0_charAt_5068e_15 () (f_4) [] (by decide +kernel) rfl (Nat.le_of_ble_eq_true rfl) (Nat.le_of_ble_eq_true rfl)
theorem kS_b : ∀ j i : Nat, j < 256 → i < 11 → ((nI j).toInt8.toInt32 = kS.getD i 0 ↔ nI j = kS.getD i 0) := by
  intro j i hj hi
  have h : (List.range 256).all (fun j => (List.range 11).all (fun i => decide ((nI j).toInt8.toInt32 = kS.getD i 0 ↔ nI j = kS.getD i 0))) = true := by decide +kernel
  exact of_decide_eq_true (List.all_eq_true.mp (List.all_eq_true.mp h j (List.mem_range.mpr hj)) i (List.mem_range.mpr hi))
def noSg (j : Nat) (i : Nat) : Prop := ∀ k, k < i → ¬ nI j = kS.getD k 0
theorem noSg_s {j i : Nat} {x y : Int32} (hj : j < 256) (hi : i < 11) (h : noSg j i) (ex : x = (([kB, kS] : List (List Int32)).getD 1 []).getD (nI i).toNatClampNeg 0) (ey : (nI j).toInt8.toInt32 = y) (hne : ¬ x = y) : noSg j (i + 1) := by
  rw [nI_clamp (by omega)] at ex
  intro k hk
  by_cases e : k = i
  · subst e
    intro h9
    exact hne (by rw [ex, ← ey]; exact ((kS_b j k hj hi).mpr h9).symm)
  · exact h k (by omega)
theorem noSg_y {j i : Nat} {x y : Int32} (hj : j < 256) (hi : i < 11) (ex : x = (([kB, kS] : List (List Int32)).getD 1 []).getD (nI i).toNatClampNeg 0) (ey : (nI j).toInt8.toInt32 = y) (he : x = y) : nI j = kS.getD i 0 := by
  rw [nI_clamp (by omega)] at ex
  exact (kS_b j i hj hi).mp (by rw [ey, ← he, ex]; rfl)
theorem sgK_y {j : Nat} (h : ∃ i : Nat, i < 11 ∧ nI j = kS.getD i 0) (hj : j < 256) : sgK j = j := by
  obtain ⟨i, hi, e⟩ := h
  have h : (List.range 256).all (fun j => (List.range 11).all (fun i => decide (nI j = kS.getD i 0 → sgK j = j))) = true := by decide +kernel
  exact of_decide_eq_true (List.all_eq_true.mp (List.all_eq_true.mp h j (List.mem_range.mpr hj)) i (List.mem_range.mpr hi)) e
theorem sgK_n {j : Nat} (h : noSg j 11) (hj : j < 256) : sgK j = 3 := by
  have h1 : (List.range 256).all (fun j => decide ((List.range 11).all (fun k => decide (¬ nI j = kS.getD k 0)) = true → sgK j = 3)) = true := by decide +kernel
  exact of_decide_eq_true (List.all_eq_true.mp h1 j (List.mem_range.mpr hj)) (List.all_eq_true.mpr (fun k hk => decide_eq_true (h k (List.mem_range.mp hk))))
theorem char_id {j : Nat} (h : j < 256) : ((nI j).toUInt32 % 65536).toInt32 = nI j := by
  rw [pk_char, show (nI j).toBitVec.toNat = j from by show (BitVec.ofNat 32 j).toNat = j; rw [BitVec.toNat_ofNat]; omega, Nat.mod_eq_of_lt (by omega)]
theorem gdJ1_indexOfChar_4cfef_0 : decode cJ1_indexOfChar_4cfef 0 = .ok (.iload_n 1, 1) ∧ decode cJ1_indexOfChar_4cfef 1 = .ok (.i2b, 1) ∧ decode cJ1_indexOfChar_4cfef 2 = .ok (.istore 4, 2) ∧ decode cJ1_indexOfChar_4cfef 4 = .ok (.iload_n 2, 1) ∧ decode cJ1_indexOfChar_4cfef 5 = .ok (.istore 5, 2) ∧ decode cJ1_indexOfChar_4cfef 7 = .ok (.iload 5, 2) ∧ decode cJ1_indexOfChar_4cfef 9 = .ok (.iload_n 3, 1) ∧ decode cJ1_indexOfChar_4cfef 10 = .ok (.if_icmp .ge 21, 3) ∧ decode cJ1_indexOfChar_4cfef 31 = .ok (.iconst (-1), 1) ∧ decode cJ1_indexOfChar_4cfef 32 = .ok (.ireturn, 1) ∧ decode cJ1_indexOfChar_4cfef 13 = .ok (.aload_n 0, 1) ∧ decode cJ1_indexOfChar_4cfef 14 = .ok (.iload 5, 2) := by decide +kernel
theorem dJ1_indexOfChar_4cfef_0 : decode cJ1_indexOfChar_4cfef 0 = .ok (.iload_n 1, 1) := gdJ1_indexOfChar_4cfef_0.1
theorem dJ1_indexOfChar_4cfef_1 : decode cJ1_indexOfChar_4cfef 1 = .ok (.i2b, 1) := gdJ1_indexOfChar_4cfef_0.2.1
theorem dJ1_indexOfChar_4cfef_2 : decode cJ1_indexOfChar_4cfef 2 = .ok (.istore 4, 2) := gdJ1_indexOfChar_4cfef_0.2.2.1
theorem dJ1_indexOfChar_4cfef_4 : decode cJ1_indexOfChar_4cfef 4 = .ok (.iload_n 2, 1) := gdJ1_indexOfChar_4cfef_0.2.2.2.1
theorem dJ1_indexOfChar_4cfef_5 : decode cJ1_indexOfChar_4cfef 5 = .ok (.istore 5, 2) := gdJ1_indexOfChar_4cfef_0.2.2.2.2.1
theorem dJ1_indexOfChar_4cfef_7 : decode cJ1_indexOfChar_4cfef 7 = .ok (.iload 5, 2) := gdJ1_indexOfChar_4cfef_0.2.2.2.2.2.1
theorem dJ1_indexOfChar_4cfef_9 : decode cJ1_indexOfChar_4cfef 9 = .ok (.iload_n 3, 1) := gdJ1_indexOfChar_4cfef_0.2.2.2.2.2.2.1
theorem dJ1_indexOfChar_4cfef_10 : decode cJ1_indexOfChar_4cfef 10 = .ok (.if_icmp .ge 21, 3) := gdJ1_indexOfChar_4cfef_0.2.2.2.2.2.2.2.1
theorem dJ1_indexOfChar_4cfef_31 : decode cJ1_indexOfChar_4cfef 31 = .ok (.iconst (-1), 1) := gdJ1_indexOfChar_4cfef_0.2.2.2.2.2.2.2.2.1
theorem dJ1_indexOfChar_4cfef_32 : decode cJ1_indexOfChar_4cfef 32 = .ok (.ireturn, 1) := gdJ1_indexOfChar_4cfef_0.2.2.2.2.2.2.2.2.2.1
theorem dJ1_indexOfChar_4cfef_13 : decode cJ1_indexOfChar_4cfef 13 = .ok (.aload_n 0, 1) := gdJ1_indexOfChar_4cfef_0.2.2.2.2.2.2.2.2.2.2.1
theorem dJ1_indexOfChar_4cfef_14 : decode cJ1_indexOfChar_4cfef 14 = .ok (.iload 5, 2) := gdJ1_indexOfChar_4cfef_0.2.2.2.2.2.2.2.2.2.2.2
theorem gdJ1_indexOfChar_4cfef_16 : decode cJ1_indexOfChar_4cfef 16 = .ok (.baload, 1) ∧ decode cJ1_indexOfChar_4cfef 17 = .ok (.iload 4, 2) ∧ decode cJ1_indexOfChar_4cfef 19 = .ok (.if_icmp .ne 6, 3) ∧ decode cJ1_indexOfChar_4cfef 25 = .ok (.iinc 5 1, 3) ∧ decode cJ1_indexOfChar_4cfef 28 = .ok (.goto (-21), 3) ∧ decode cJ1_indexOfChar_4cfef 22 = .ok (.iload 5, 2) ∧ decode cJ1_indexOfChar_4cfef 24 = .ok (.ireturn, 1) := by decide +kernel
theorem dJ1_indexOfChar_4cfef_16 : decode cJ1_indexOfChar_4cfef 16 = .ok (.baload, 1) := gdJ1_indexOfChar_4cfef_16.1
theorem dJ1_indexOfChar_4cfef_17 : decode cJ1_indexOfChar_4cfef 17 = .ok (.iload 4, 2) := gdJ1_indexOfChar_4cfef_16.2.1
theorem dJ1_indexOfChar_4cfef_19 : decode cJ1_indexOfChar_4cfef 19 = .ok (.if_icmp .ne 6, 3) := gdJ1_indexOfChar_4cfef_16.2.2.1
theorem dJ1_indexOfChar_4cfef_25 : decode cJ1_indexOfChar_4cfef 25 = .ok (.iinc 5 1, 3) := gdJ1_indexOfChar_4cfef_16.2.2.2.1
theorem dJ1_indexOfChar_4cfef_28 : decode cJ1_indexOfChar_4cfef 28 = .ok (.goto (-21), 3) := gdJ1_indexOfChar_4cfef_16.2.2.2.2.1
theorem dJ1_indexOfChar_4cfef_22 : decode cJ1_indexOfChar_4cfef 22 = .ok (.iload 5, 2) := gdJ1_indexOfChar_4cfef_16.2.2.2.2.2.1
theorem dJ1_indexOfChar_4cfef_24 : decode cJ1_indexOfChar_4cfef 24 = .ok (.ireturn, 1) := gdJ1_indexOfChar_4cfef_16.2.2.2.2.2.2
set_option maxHeartbeats 1000000 in
set_option maxRecDepth 100000 in
theorem j_indexOfChar (l : Launch) (D : va_G) (cy : Nat → ClassId) (adK : Nat → Nat) (adV : Nat → Nat) (cj : Nat) (hcj : cj < 256) : XMi l D (tyL cy) (EV adK adV) yJ1_indexOfChar_4cfef cJ1_indexOfChar_4cfef 6 (some .int) (rmk 0 0 0) [.ref (adV 1), .int (nI cj), .int 0, .int 11] [] (fun (r : Int32) (jr : Nat) => ((r = nI jr ∧ (jr < 11 ∧ nI cj = kS.getD jr 0)) ∨ (r = -1 ∧ (noSg cj 11)))) (fun (jr : Nat) => []) := by
  refine XMi.start (by decide) (Nat.le_of_ble_eq_true rfl) ?_
  intro p e s m below meth c args A ls Q hat hQ
  obtain ⟨hx, hb, hr, hml, hown, hg, hlocks, hin, hK, hA, hP, hD, hS, hE, hl⟩ := hat
  have hown : s.vm.findClass RJ1 = some m.cls := hown
  have hl : lv_has ls 6 [(0, .ref (adV 1)), (1, .int (nI cj)), (2, .int 0), (3, .int 11)] := hl
  refine lv_iload_n hx hb dJ1_indexOfChar_4cfef_0 rfl (lv_at hl 1 rfl) ?_
  obtain ⟨x_1, ex_1⟩ : ∃ y : Int32, (nI cj : Int32).toInt8.toInt32 = y := ⟨_, rfl⟩
  refine lv_i2b (v := x_1) hx hb dJ1_indexOfChar_4cfef_1 ex_1 ?_
  refine lv_istore (lv' := [(4, .int x_1), (0, .ref (adV 1)), (1, .int (nI cj)), (2, .int 0), (3, .int 11)]) hx hb dJ1_indexOfChar_4cfef_2 hl (by decide) rfl (fun ls hl => ?_)
  refine lv_iload_n hx hb dJ1_indexOfChar_4cfef_4 rfl (lv_at hl 3 rfl) ?_
  refine lv_istore (lv' := [(5, .int 0), (4, .int x_1), (0, .ref (adV 1)), (1, .int (nI cj)), (2, .int 0), (3, .int 11)]) hx hb dJ1_indexOfChar_4cfef_5 hl (by decide) rfl (fun ls hl => ?_)
  have loop2 : ∀ (zn : Nat) (i2 : Nat), (i2 ≤ 11) → (noSg cj i2) → 11 - i2 + 1 ≤ zn → ∀ (H : Heap) (locs : List Loc), va_P D vwCl [] H → va_D A [] → va_S A s.heap H locs → ∀ ls : Array Slot, lv_has ls 6 [(5, .int (nI i2)), (4, .int x_1), (0, .ref (adV 1)), (1, .int (nI cj)), (2, .int 0), (3, .int 11)] → W p l e (rmk 0 0 0) s m args below meth c H locs 0 0 Q (F0 m 7 ls []) := by
    try clear hP hD hS
    intro zn
    induction zn with
    | zero => intro i2 _ _ hz; exact absurd hz (by omega)
    | succ zn ih2 =>
      intro i2 hf0_2 hf1_2 hmu2 H locs hP hD hS ls hl
      refine lv_iload hx hb dJ1_indexOfChar_4cfef_7 (lv_at hl 0 rfl) ?_
      refine lv_iload_n hx hb dJ1_indexOfChar_4cfef_9 rfl (lv_at hl 5 rfl) ?_
      refine lv_icmp_ge (tgt := 31) hx hb dJ1_indexOfChar_4cfef_10 (by decide) (fun c_3 => ?_) (fun c_3 => ?_)
      · have q_4 : 11 ≤ i2 := q_le (a := 11) (b := i2) rfl rfl (by omega) (by omega) c_3
        refine lv_iconst (v := -1) hx hb dJ1_indexOfChar_4cfef_31 (by decide) ?_
        exact x_iret hQ hx hb hr hlocks hK hP hD hS dJ1_indexOfChar_4cfef_32 0 ((show ((-1 : Int32) = nI 0 ∧ (0 < 11 ∧ nI cj = kS.getD 0 0)) ∨ ((-1 : Int32) = -1 ∧ (noSg cj 11)) from Or.inr (⟨rfl, (by have h9 := hf1_2; rwa [show i2 = 11 by omega] at h9)⟩))) [] (by decide +kernel) rfl (Nat.le_of_ble_eq_true rfl) (Nat.le_of_ble_eq_true rfl)
      · have q_4 : i2 < 11 := q_nle (a := 11) (b := i2) rfl rfl (by omega) (by omega) c_3
        refine lv_aload_n hx hb dJ1_indexOfChar_4cfef_13 rfl (lv_at hl 2 rfl) ?_
        refine lv_iload hx hb dJ1_indexOfChar_4cfef_14 (lv_at hl 0 rfl) ?_
        refine va_tb hx hb (hE.2.2.2.2.2.2.2.2.1.1 1 (by decide)).2.2.2 hS (vp_in_nI (N := 11) (by omega) (by decide)) rfl dJ1_indexOfChar_4cfef_16 ?_
        refine lv_topi (fun x_5 ex_5 => ?_)
        refine lv_iload hx hb dJ1_indexOfChar_4cfef_17 (lv_at hl 1 rfl) ?_
        refine lv_icmp_ne (tgt := 25) hx hb dJ1_indexOfChar_4cfef_19 (by decide) (fun c_19 => ?_) (fun c_19 => ?_)
        · refine lv_iinc (v := nI (i2 + 1)) (lv' := [(5, .int (nI (i2 + 1))), (4, .int x_1), (0, .ref (adV 1)), (1, .int (nI cj)), (2, .int 0), (3, .int 11)]) hx hb dJ1_indexOfChar_4cfef_25 hl (k := 0) rfl (nI_add i2 1) (by decide) rfl (fun ls hl => ?_)
          refine lv_goto (tgt := 7) hx hb dJ1_indexOfChar_4cfef_28 (by decide) ?_
          exact ih2  ((i2 + 1)) (by omega) (noSg_s hcj (by omega) hf1_2 ex_5 ex_1 c_19) (by omega) _ _ (hP.sub [] rfl) (hD.sub [] (by decide +kernel) rfl) hS ls (lv_sub hl [0, 1, 2, 3, 4, 5] rfl)
        · refine lv_iload hx hb dJ1_indexOfChar_4cfef_22 (lv_at hl 0 rfl) ?_
          exact x_iret hQ hx hb hr hlocks hK hP hD hS dJ1_indexOfChar_4cfef_24 i2 ((show ((nI i2 : Int32) = nI i2 ∧ (i2 < 11 ∧ nI cj = kS.getD i2 0)) ∨ ((nI i2 : Int32) = -1 ∧ (noSg cj 11)) from Or.inl ⟨rfl, (⟨by omega, noSg_y hcj (by omega) ex_5 ex_1 c_19⟩)⟩)) [] (by decide +kernel) rfl (Nat.le_of_ble_eq_true rfl) (Nat.le_of_ble_eq_true rfl)
  exact loop2 _ 0 (by omega) (fun k9 h9 => absurd h9 (by omega)) (Nat.le_refl _) _ _ (hP.sub [] rfl) (hD.sub [] (by decide +kernel) rfl) hS ls (lv_sub hl [0, 1, 2, 3, 4, 5] rfl)
theorem gdJ1_canEncode_9a6ad_0 : decode cJ1_canEncode_9a6ad 0 = .ok (.iload_n 0, 1) ∧ decode cJ1_canEncode_9a6ad 1 = .ok (.ifCond .lt 14, 3) ∧ decode cJ1_canEncode_9a6ad 4 = .ok (.iload_n 0, 1) ∧ decode cJ1_canEncode_9a6ad 5 = .ok (.sipush 255, 3) ∧ decode cJ1_canEncode_9a6ad 8 = .ok (.if_icmp .gt 7, 3) ∧ decode cJ1_canEncode_9a6ad 11 = .ok (.iconst 1, 1) ∧ decode cJ1_canEncode_9a6ad 12 = .ok (.goto 4, 3) ∧ decode cJ1_canEncode_9a6ad 16 = .ok (.ireturn, 1) := by decide +kernel
theorem dJ1_canEncode_9a6ad_0 : decode cJ1_canEncode_9a6ad 0 = .ok (.iload_n 0, 1) := gdJ1_canEncode_9a6ad_0.1
theorem dJ1_canEncode_9a6ad_1 : decode cJ1_canEncode_9a6ad 1 = .ok (.ifCond .lt 14, 3) := gdJ1_canEncode_9a6ad_0.2.1
theorem dJ1_canEncode_9a6ad_4 : decode cJ1_canEncode_9a6ad 4 = .ok (.iload_n 0, 1) := gdJ1_canEncode_9a6ad_0.2.2.1
theorem dJ1_canEncode_9a6ad_5 : decode cJ1_canEncode_9a6ad 5 = .ok (.sipush 255, 3) := gdJ1_canEncode_9a6ad_0.2.2.2.1
theorem dJ1_canEncode_9a6ad_8 : decode cJ1_canEncode_9a6ad 8 = .ok (.if_icmp .gt 7, 3) := gdJ1_canEncode_9a6ad_0.2.2.2.2.1
theorem dJ1_canEncode_9a6ad_11 : decode cJ1_canEncode_9a6ad 11 = .ok (.iconst 1, 1) := gdJ1_canEncode_9a6ad_0.2.2.2.2.2.1
theorem dJ1_canEncode_9a6ad_12 : decode cJ1_canEncode_9a6ad 12 = .ok (.goto 4, 3) := gdJ1_canEncode_9a6ad_0.2.2.2.2.2.2.1
theorem dJ1_canEncode_9a6ad_16 : decode cJ1_canEncode_9a6ad 16 = .ok (.ireturn, 1) := gdJ1_canEncode_9a6ad_0.2.2.2.2.2.2.2
set_option maxHeartbeats 1000000 in
set_option maxRecDepth 100000 in
theorem j_canEncode (l : Launch) (D : va_G) (cy : Nat → ClassId) (cj : Nat) (hcj : cj < 256) : XMi l D (tyL cy) E0 yJ1_canEncode_9a6ad cJ1_canEncode_9a6ad 1 (some .boolean) (rmk 0 0 0) [.int (nI cj)] [] (fun (r : Int32) (_ : Unit) => r = 1) (fun (_ : Unit) => []) := by
  refine XMi.start (by decide) (Nat.le_of_ble_eq_true rfl) ?_
  intro p e s m below meth c args A ls Q hat hQ
  obtain ⟨hx, hb, hr, hml, hown, hg, hlocks, hin, hK, hA, hP, hD, hS, hE, hl⟩ := hat
  have hown : s.vm.findClass RJ1 = some m.cls := hown
  have hl : lv_has ls 1 [(0, .int (nI cj))] := hl
  refine lv_iload_n hx hb dJ1_canEncode_9a6ad_0 rfl (lv_at hl 0 rfl) ?_
  refine lv_if_lt (tgt := 15) hx hb dJ1_canEncode_9a6ad_1 (by decide) (fun h => absurd h (nI_pos (by omega))) (fun _ => ?_)
  refine lv_iload_n hx hb dJ1_canEncode_9a6ad_4 rfl (lv_at hl 0 rfl) ?_
  refine lv_sipush (v := 255) hx hb dJ1_canEncode_9a6ad_5 (by decide) ?_
  refine lv_icmp_gt (tgt := 15) hx hb dJ1_canEncode_9a6ad_8 (by decide) (fun c_1 => ?_) (fun c_1 => ?_)
  · have q_2 : 255 < cj := q_lt (a := 255) (b := cj) rfl rfl (by omega) (by omega) c_1
    exact absurd q_2 (by omega)
  · have q_2 : cj ≤ 255 := q_nlt (a := 255) (b := cj) rfl rfl (by omega) (by omega) c_1
    refine lv_iconst (v := 1) hx hb dJ1_canEncode_9a6ad_11 (by decide) ?_
    refine lv_goto (tgt := 16) hx hb dJ1_canEncode_9a6ad_12 (by decide) ?_
    exact x_zret hQ hx hb hr hlocks hK hP hD hS rfl dJ1_canEncode_9a6ad_16 () (rfl) [] (by decide +kernel) rfl (Nat.le_of_ble_eq_true rfl) (Nat.le_of_ble_eq_true rfl)
theorem dJ1_indexOf_4cfef_0 : decode cJ1_indexOf_4cfef 0 = .ok (.iload_n 1, 1) := by decide +kernel
theorem dJ1_indexOf_4cfef_1 : decode cJ1_indexOf_4cfef 1 = .ok (.invokestatic 88, 3) := by decide +kernel
theorem k_J1_88 : xS RJ1 88 yJ1_canEncode_9a6ad cJ1_canEncode_9a6ad 1 (some .boolean) 1 := ⟨⟨m_763, m_764, m_133, m_765⟩, by decide, by decide, by decide +kernel⟩
theorem gdJ1_indexOf_4cfef_4 : decode cJ1_indexOf_4cfef 4 = .ok (.ifCond .ne 5, 3) ∧ decode cJ1_indexOf_4cfef 9 = .ok (.iload_n 2, 1) ∧ decode cJ1_indexOf_4cfef 10 = .ok (.iconst 0, 1) ∧ decode cJ1_indexOf_4cfef 11 = .ok (.invokestatic 92, 3) ∧ decode cJ1_indexOf_4cfef 14 = .ok (.istore_n 2, 1) ∧ decode cJ1_indexOf_4cfef 15 = .ok (.iload_n 3, 1) ∧ decode cJ1_indexOf_4cfef 16 = .ok (.aload_n 0, 1) ∧ decode cJ1_indexOf_4cfef 17 = .ok (.arraylength, 1) ∧ decode cJ1_indexOf_4cfef 18 = .ok (.invokestatic 38, 3) ∧ decode cJ1_indexOf_4cfef 21 = .ok (.istore_n 3, 1) ∧ decode cJ1_indexOf_4cfef 22 = .ok (.iload_n 2, 1) ∧ decode cJ1_indexOf_4cfef 23 = .ok (.iload_n 3, 1) := by decide +kernel
theorem dJ1_indexOf_4cfef_4 : decode cJ1_indexOf_4cfef 4 = .ok (.ifCond .ne 5, 3) := gdJ1_indexOf_4cfef_4.1
theorem dJ1_indexOf_4cfef_9 : decode cJ1_indexOf_4cfef 9 = .ok (.iload_n 2, 1) := gdJ1_indexOf_4cfef_4.2.1
theorem dJ1_indexOf_4cfef_10 : decode cJ1_indexOf_4cfef 10 = .ok (.iconst 0, 1) := gdJ1_indexOf_4cfef_4.2.2.1
theorem dJ1_indexOf_4cfef_11 : decode cJ1_indexOf_4cfef 11 = .ok (.invokestatic 92, 3) := gdJ1_indexOf_4cfef_4.2.2.2.1
theorem dJ1_indexOf_4cfef_14 : decode cJ1_indexOf_4cfef 14 = .ok (.istore_n 2, 1) := gdJ1_indexOf_4cfef_4.2.2.2.2.1
theorem dJ1_indexOf_4cfef_15 : decode cJ1_indexOf_4cfef 15 = .ok (.iload_n 3, 1) := gdJ1_indexOf_4cfef_4.2.2.2.2.2.1
theorem dJ1_indexOf_4cfef_16 : decode cJ1_indexOf_4cfef 16 = .ok (.aload_n 0, 1) := gdJ1_indexOf_4cfef_4.2.2.2.2.2.2.1
theorem dJ1_indexOf_4cfef_17 : decode cJ1_indexOf_4cfef 17 = .ok (.arraylength, 1) := gdJ1_indexOf_4cfef_4.2.2.2.2.2.2.2.1
theorem dJ1_indexOf_4cfef_18 : decode cJ1_indexOf_4cfef 18 = .ok (.invokestatic 38, 3) := gdJ1_indexOf_4cfef_4.2.2.2.2.2.2.2.2.1
theorem dJ1_indexOf_4cfef_21 : decode cJ1_indexOf_4cfef 21 = .ok (.istore_n 3, 1) := gdJ1_indexOf_4cfef_4.2.2.2.2.2.2.2.2.2.1
theorem dJ1_indexOf_4cfef_22 : decode cJ1_indexOf_4cfef 22 = .ok (.iload_n 2, 1) := gdJ1_indexOf_4cfef_4.2.2.2.2.2.2.2.2.2.2.1
theorem dJ1_indexOf_4cfef_23 : decode cJ1_indexOf_4cfef 23 = .ok (.iload_n 3, 1) := gdJ1_indexOf_4cfef_4.2.2.2.2.2.2.2.2.2.2.2
theorem gdJ1_indexOf_4cfef_24 : decode cJ1_indexOf_4cfef 24 = .ok (.if_icmp .lt 5, 3) ∧ decode cJ1_indexOf_4cfef 29 = .ok (.aload_n 0, 1) ∧ decode cJ1_indexOf_4cfef 30 = .ok (.iload_n 1, 1) ∧ decode cJ1_indexOf_4cfef 31 = .ok (.iload_n 2, 1) ∧ decode cJ1_indexOf_4cfef 32 = .ok (.iload_n 3, 1) ∧ decode cJ1_indexOf_4cfef 33 = .ok (.invokestatic 95, 3) := by decide +kernel
theorem dJ1_indexOf_4cfef_24 : decode cJ1_indexOf_4cfef 24 = .ok (.if_icmp .lt 5, 3) := gdJ1_indexOf_4cfef_24.1
theorem dJ1_indexOf_4cfef_29 : decode cJ1_indexOf_4cfef 29 = .ok (.aload_n 0, 1) := gdJ1_indexOf_4cfef_24.2.1
theorem dJ1_indexOf_4cfef_30 : decode cJ1_indexOf_4cfef 30 = .ok (.iload_n 1, 1) := gdJ1_indexOf_4cfef_24.2.2.1
theorem dJ1_indexOf_4cfef_31 : decode cJ1_indexOf_4cfef 31 = .ok (.iload_n 2, 1) := gdJ1_indexOf_4cfef_24.2.2.2.1
theorem dJ1_indexOf_4cfef_32 : decode cJ1_indexOf_4cfef 32 = .ok (.iload_n 3, 1) := gdJ1_indexOf_4cfef_24.2.2.2.2.1
theorem dJ1_indexOf_4cfef_33 : decode cJ1_indexOf_4cfef 33 = .ok (.invokestatic 95, 3) := gdJ1_indexOf_4cfef_24.2.2.2.2.2
theorem k_J1_95 : xS RJ1 95 yJ1_indexOfChar_4cfef cJ1_indexOfChar_4cfef 6 (some .int) 4 := ⟨⟨m_772, m_773, m_133, m_774⟩, by decide, by decide, by decide +kernel⟩
theorem dJ1_indexOf_4cfef_36 : decode cJ1_indexOf_4cfef 36 = .ok (.ireturn, 1) := by decide +kernel
set_option maxHeartbeats 1000000 in
set_option maxRecDepth 100000 in
theorem j_indexOfL (l : Launch) (D : va_G) (cy : Nat → ClassId) (adK : Nat → Nat) (adV : Nat → Nat) (cj : Nat) (hcj : cj < 256) : XMi l D (tyL cy) (EV adK adV) yJ1_indexOf_4cfef cJ1_indexOf_4cfef 4 (some .int) (rmk 2 0 0) [.ref (adV 1), .int (nI cj), .int 0, .int 11] [] (fun (r : Int32) (jr : Nat) => ((r = nI jr ∧ (jr < 11 ∧ nI cj = kS.getD jr 0)) ∨ (r = -1 ∧ (noSg cj 11)))) (fun (jr : Nat) => []) := by
  refine XMi.start (by decide) (Nat.le_of_ble_eq_true rfl) ?_
  intro p e s m below meth c args A ls Q hat hQ
  obtain ⟨hx, hb, hr, hml, hown, hg, hlocks, hin, hK, hA, hP, hD, hS, hE, hl⟩ := hat
  have hown : s.vm.findClass RJ1 = some m.cls := hown
  have hl : lv_has ls 4 [(0, .ref (adV 1)), (1, .int (nI cj)), (2, .int 0), (3, .int 11)] := hl
  refine lv_iload_n hx hb dJ1_indexOf_4cfef_0 rfl (lv_at hl 1 rfl) ?_
  refine x_callSi (wr := []) (rest := []) ⟨hx, hb, hml, hown, hg, hl.1⟩ k_J1_88 (j_canEncode l D cy cj (by omega)) E0_blind hK hP hD hS hA [] [] ⟨rfl, rfl, by decide +kernel, by decide +kernel, by decide +kernel⟩ (fun _ _ _ => trivial) dJ1_indexOf_4cfef_1 rfl rfl (Nat.le_of_ble_eq_true rfl) ⟨Nat.le_of_ble_eq_true rfl, Nat.le_of_ble_eq_true rfl⟩ ⟨Nat.le_of_ble_eq_true rfl, Nat.le_of_ble_eq_true rfl⟩ (fun zr1 zu1 H locs hw1 hP9 hD9 hS9 => ?_)
  clear hP hD hS
  refine reW [] hP9 hD9 hS9 (fun hP hD hS => ?_)
  clear hP9 hD9 hS9
  refine W.widen (k := 0) (n := 0) (Nat.le_of_ble_eq_true rfl) (Nat.le_of_ble_eq_true rfl) ?_
  replace hw1 : zr1 = 1 := hw1
  subst hw1
  refine lv_if_ne (tgt := 9) hx hb dJ1_indexOf_4cfef_4 (by decide) (fun _ => ?_) (fun h => absurd h (by decide))
  refine lv_iload_n hx hb dJ1_indexOf_4cfef_9 rfl (lv_at hl 2 rfl) ?_
  refine lv_iconst (v := 0) hx hb dJ1_indexOf_4cfef_10 (by decide) ?_
  refine va_mmax hx hb (hml.trans hl.1.symm) hown (hg _ m_766) (hg _ m_767) (hg _ m_147) (hg _ m_768) (by decide) (Nat.le_of_ble_eq_true rfl) (by decide) (by decide) dJ1_indexOf_4cfef_11 ?_
  refine lv_topi (fun y_2 hy_2 => ?_)
  obtain rfl : y_2 = 0 := hy_2.trans (by decide +kernel)
  refine lv_istore_n (lv' := [(2, .int 0), (0, .ref (adV 1)), (1, .int (nI cj)), (3, .int 11)]) hx hb dJ1_indexOf_4cfef_14 rfl hl (by decide) rfl (fun ls hl => ?_)
  refine lv_iload_n hx hb dJ1_indexOf_4cfef_15 rfl (lv_at hl 3 rfl) ?_
  refine lv_aload_n hx hb dJ1_indexOf_4cfef_16 rfl (lv_at hl 1 rfl) ?_
  refine va_tlen (v := 11) hx hb (hE.2.2.2.2.2.2.2.2.1.1 1 (by decide)).2.2.2 hS rfl dJ1_indexOf_4cfef_17 ?_
  refine va_mmin hx hb (hml.trans hl.1.symm) hown (hg _ m_769) (hg _ m_770) (hg _ m_147) (hg _ m_771) (by decide) (Nat.le_of_ble_eq_true rfl) (by decide) (by decide) dJ1_indexOf_4cfef_18 ?_
  refine lv_topi (fun y_3 hy_3 => ?_)
  obtain rfl : y_3 = 11 := hy_3.trans (by decide +kernel)
  refine lv_istore_n (lv' := [(3, .int 11), (2, .int 0), (0, .ref (adV 1)), (1, .int (nI cj))]) hx hb dJ1_indexOf_4cfef_21 rfl hl (by decide) rfl (fun ls hl => ?_)
  refine lv_iload_n hx hb dJ1_indexOf_4cfef_22 rfl (lv_at hl 1 rfl) ?_
  refine lv_iload_n hx hb dJ1_indexOf_4cfef_23 rfl (lv_at hl 0 rfl) ?_
  refine lv_icmp_lt (tgt := 29) hx hb dJ1_indexOf_4cfef_24 (by decide) (fun _ => ?_) (fun h => absurd (by decide) h)
  refine lv_aload_n hx hb dJ1_indexOf_4cfef_29 rfl (lv_at hl 2 rfl) ?_
  refine lv_iload_n hx hb dJ1_indexOf_4cfef_30 rfl (lv_at hl 3 rfl) ?_
  refine lv_iload_n hx hb dJ1_indexOf_4cfef_31 rfl (lv_at hl 1 rfl) ?_
  refine lv_iload_n hx hb dJ1_indexOf_4cfef_32 rfl (lv_at hl 0 rfl) ?_
  refine x_callSi (wr := []) (rest := []) ⟨hx, hb, hml, hown, hg, hl.1⟩ k_J1_95 (j_indexOfChar l D cy adK adV cj (by omega)) EV_blind hK hP hD hS hA [] [] ⟨rfl, rfl, by decide +kernel, by decide +kernel, by decide +kernel⟩ (fun U hU hW => EV_pass hE hS (va_free hD hS hA [] rfl) hU hW) dJ1_indexOf_4cfef_33 rfl rfl (Nat.le_of_ble_eq_true rfl) ⟨Nat.le_of_ble_eq_true rfl, Nat.le_of_ble_eq_true rfl⟩ ⟨Nat.le_of_ble_eq_true rfl, Nat.le_of_ble_eq_true rfl⟩ (fun zr4 zu4 H locs hw4 hP9 hD9 hS9 => ?_)
  clear hP hD hS
  obtain ⟨jr_5, rfl⟩ : ∃ z, z = zu4 := ⟨_, rfl⟩
  refine reW [] hP9 hD9 hS9 (fun hP hD hS => ?_)
  clear hP9 hD9 hS9
  refine W.widen (k := 0) (n := 0) (Nat.le_of_ble_eq_true rfl) (Nat.le_of_ble_eq_true rfl) ?_
  replace hw4 : ((zr4 = nI jr_5 ∧ (jr_5 < 11 ∧ nI cj = kS.getD jr_5 0)) ∨ (zr4 = -1 ∧ (noSg cj 11))) := hw4
  have f_6 := hw4
  rcases f_6 with ⟨hz_8, a_7⟩ | ⟨hz_10, a_9⟩
  · subst hz_8
    exact x_iret hQ hx hb hr hlocks hK hP hD hS dJ1_indexOf_4cfef_36 jr_5 ((show ((nI jr_5 : Int32) = nI jr_5 ∧ (jr_5 < 11 ∧ nI cj = kS.getD jr_5 0)) ∨ ((nI jr_5 : Int32) = -1 ∧ (noSg cj 11)) from Or.inl ⟨rfl, (a_7)⟩)) [] (by decide +kernel) rfl (Nat.le_of_ble_eq_true rfl) (Nat.le_of_ble_eq_true rfl)
  · subst hz_10
    exact x_iret hQ hx hb hr hlocks hK hP hD hS dJ1_indexOf_4cfef_36 0 ((show ((-1 : Int32) = nI 0 ∧ (0 < 11 ∧ nI cj = kS.getD 0 0)) ∨ ((-1 : Int32) = -1 ∧ (noSg cj 11)) from Or.inr (⟨rfl, (a_9)⟩))) [] (by decide +kernel) rfl (Nat.le_of_ble_eq_true rfl) (Nat.le_of_ble_eq_true rfl)
theorem gdJ0_indexOf_7cf53_0 : decode cJ0_indexOf_7cf53 0 = .ok (.aload_n 0, 1) ∧ decode cJ0_indexOf_7cf53 1 = .ok (.invokevirtual 492, 3) ∧ decode cJ0_indexOf_7cf53 4 = .ok (.ifCond .eq 19, 3) ∧ decode cJ0_indexOf_7cf53 7 = .ok (.aload_n 0, 1) ∧ decode cJ0_indexOf_7cf53 8 = .ok (.getfield 9, 3) ∧ decode cJ0_indexOf_7cf53 11 = .ok (.iload_n 1, 1) ∧ decode cJ0_indexOf_7cf53 12 = .ok (.iload_n 2, 1) ∧ decode cJ0_indexOf_7cf53 13 = .ok (.aload_n 0, 1) ∧ decode cJ0_indexOf_7cf53 14 = .ok (.invokevirtual 505, 3) := by decide +kernel
theorem dJ0_indexOf_7cf53_0 : decode cJ0_indexOf_7cf53 0 = .ok (.aload_n 0, 1) := gdJ0_indexOf_7cf53_0.1
theorem dJ0_indexOf_7cf53_1 : decode cJ0_indexOf_7cf53 1 = .ok (.invokevirtual 492, 3) := gdJ0_indexOf_7cf53_0.2.1
theorem dJ0_indexOf_7cf53_4 : decode cJ0_indexOf_7cf53 4 = .ok (.ifCond .eq 19, 3) := gdJ0_indexOf_7cf53_0.2.2.1
theorem dJ0_indexOf_7cf53_7 : decode cJ0_indexOf_7cf53 7 = .ok (.aload_n 0, 1) := gdJ0_indexOf_7cf53_0.2.2.2.1
theorem dJ0_indexOf_7cf53_8 : decode cJ0_indexOf_7cf53 8 = .ok (.getfield 9, 3) := gdJ0_indexOf_7cf53_0.2.2.2.2.1
theorem dJ0_indexOf_7cf53_11 : decode cJ0_indexOf_7cf53 11 = .ok (.iload_n 1, 1) := gdJ0_indexOf_7cf53_0.2.2.2.2.2.1
theorem dJ0_indexOf_7cf53_12 : decode cJ0_indexOf_7cf53 12 = .ok (.iload_n 2, 1) := gdJ0_indexOf_7cf53_0.2.2.2.2.2.2.1
theorem dJ0_indexOf_7cf53_13 : decode cJ0_indexOf_7cf53 13 = .ok (.aload_n 0, 1) := gdJ0_indexOf_7cf53_0.2.2.2.2.2.2.2.1
theorem dJ0_indexOf_7cf53_14 : decode cJ0_indexOf_7cf53 14 = .ok (.invokevirtual 505, 3) := gdJ0_indexOf_7cf53_0.2.2.2.2.2.2.2.2
theorem k_J0_505 : xV RJ0 RJ0 505 yJ0_length_8abf5 cJ0_length_8abf5 1 (some .int) 0 := ⟨⟨m_759, m_167, m_168, m_132, m_169⟩, rfl, by decide, by decide, by decide +kernel⟩
theorem dJ0_indexOf_7cf53_17 : decode cJ0_indexOf_7cf53 17 = .ok (.invokestatic 637, 3) := by decide +kernel
theorem k_J0_637 : xS RJ0 637 yJ1_indexOf_4cfef cJ1_indexOf_4cfef 4 (some .int) 4 := ⟨⟨m_760, m_761, m_133, m_762⟩, by decide, by decide, by decide +kernel⟩
theorem dJ0_indexOf_7cf53_20 : decode cJ0_indexOf_7cf53 20 = .ok (.goto 16, 3) := by decide +kernel
theorem dJ0_indexOf_7cf53_36 : decode cJ0_indexOf_7cf53 36 = .ok (.ireturn, 1) := by decide +kernel
set_option maxHeartbeats 1000000 in
set_option maxRecDepth 100000 in
theorem j_indexOf2 (l : Launch) (D : va_G) (cy : Nat → ClassId) (adK : Nat → Nat) (adV : Nat → Nat) (cj : Nat) (hcj : cj < 256) : XMi l D (tyL cy) (EV adK adV) yJ0_indexOf_7cf53 cJ0_indexOf_7cf53 3 (some .int) (rmk 3 0 0) [.ref (adK 1), .int (nI cj), .int 0] [] (fun (r : Int32) (jr : Nat) => ((r = nI jr ∧ (jr < 11 ∧ nI cj = kS.getD jr 0)) ∨ (r = -1 ∧ (noSg cj 11)))) (fun (jr : Nat) => []) := by
  refine XMi.start (by decide) (Nat.le_of_ble_eq_true rfl) ?_
  intro p e s m below meth c args A ls Q hat hQ
  obtain ⟨hx, hb, hr, hml, hown, hg, hlocks, hin, hK, hA, hP, hD, hS, hE, hl⟩ := hat
  have hown : s.vm.findClass RJ0 = some m.cls := hown
  have hl : lv_has ls 3 [(0, .ref (adK 1)), (1, .int (nI cj)), (2, .int 0)] := hl
  refine lv_aload_n hx hb dJ0_indexOf_7cf53_0 rfl (lv_at hl 0 rfl) ?_
  refine x_callOi (C := RJ0) (wr := []) (rest := []) ⟨hx, hb, hml, hown, hg, hl.1⟩ k_J0_492 (j_isLatin11 l D cy adK adV) EV_blind hK hP hD hS hA [] ⟨rfl, rfl, by decide +kernel, by decide +kernel, by decide +kernel⟩ (vk_recv (i := 1) hE.2.2.2.2.2.2.2.2.1 (by decide) hS) (fun U hU hW => EV_pass hE hS (va_free hD hS hA [] rfl) hU hW) dJ0_indexOf_7cf53_1 rfl rfl (Nat.le_of_ble_eq_true rfl) ⟨Nat.le_of_ble_eq_true rfl, Nat.le_of_ble_eq_true rfl⟩ ⟨Nat.le_of_ble_eq_true rfl, Nat.le_of_ble_eq_true rfl⟩ (fun zr1 zu1 H locs hw1 hP9 hD9 hS9 => ?_)
  clear hP hD hS
  refine reW [] hP9 hD9 hS9 (fun hP hD hS => ?_)
  clear hP9 hD9 hS9
  refine W.widen (k := 0) (n := 0) (Nat.le_of_ble_eq_true rfl) (Nat.le_of_ble_eq_true rfl) ?_
  replace hw1 : zr1 = 1 := hw1
  subst hw1
  refine lv_if_eq (tgt := 23) hx hb dJ0_indexOf_7cf53_4 (by decide) (fun h => absurd h (by decide)) (fun _ => ?_)
  refine lv_aload_n hx hb dJ0_indexOf_7cf53_7 rfl (lv_at hl 0 rfl) ?_
  refine vk_getf hx hb (hE.2.2.2.2.2.2.2.2.1.1 1 (by decide)).2.2.1 hS hown (hg _ m_2156) (fun _ h => h) dJ0_indexOf_7cf53_8 ?_
  refine lv_iload_n hx hb dJ0_indexOf_7cf53_11 rfl (lv_at hl 1 rfl) ?_
  refine lv_iload_n hx hb dJ0_indexOf_7cf53_12 rfl (lv_at hl 2 rfl) ?_
  refine lv_aload_n hx hb dJ0_indexOf_7cf53_13 rfl (lv_at hl 0 rfl) ?_
  refine x_callOi (C := RJ0) (wr := []) (rest := [.int 0, .int (nI cj), .ref (adV 1)]) ⟨hx, hb, hml, hown, hg, hl.1⟩ k_J0_505 (j_length1 l D cy adK adV) EV_blind hK hP hD hS hA [] ⟨rfl, rfl, by decide +kernel, by decide +kernel, by decide +kernel⟩ (vk_recv (i := 1) hE.2.2.2.2.2.2.2.2.1 (by decide) hS) (fun U hU hW => EV_pass hE hS (va_free hD hS hA [] rfl) hU hW) dJ0_indexOf_7cf53_14 rfl rfl (Nat.le_of_ble_eq_true rfl) ⟨Nat.le_of_ble_eq_true rfl, Nat.le_of_ble_eq_true rfl⟩ ⟨Nat.le_of_ble_eq_true rfl, Nat.le_of_ble_eq_true rfl⟩ (fun zr2 zu2 H locs hw2 hP9 hD9 hS9 => ?_)
  clear hP hD hS
  refine reW [] hP9 hD9 hS9 (fun hP hD hS => ?_)
  clear hP9 hD9 hS9
  refine W.widen (k := 0) (n := 0) (Nat.le_of_ble_eq_true rfl) (Nat.le_of_ble_eq_true rfl) ?_
  replace hw2 : zr2 = 11 := hw2
  subst hw2
  refine x_callSi (wr := []) (rest := []) ⟨hx, hb, hml, hown, hg, hl.1⟩ k_J0_637 (j_indexOfL l D cy adK adV cj (by omega)) EV_blind hK hP hD hS hA [] [] ⟨rfl, rfl, by decide +kernel, by decide +kernel, by decide +kernel⟩ (fun U hU hW => EV_pass hE hS (va_free hD hS hA [] rfl) hU hW) dJ0_indexOf_7cf53_17 rfl rfl (Nat.le_of_ble_eq_true rfl) ⟨Nat.le_of_ble_eq_true rfl, Nat.le_of_ble_eq_true rfl⟩ ⟨Nat.le_of_ble_eq_true rfl, Nat.le_of_ble_eq_true rfl⟩ (fun zr3 zu3 H locs hw3 hP9 hD9 hS9 => ?_)
  clear hP hD hS
  obtain ⟨jr_4, rfl⟩ : ∃ z, z = zu3 := ⟨_, rfl⟩
  refine reW [] hP9 hD9 hS9 (fun hP hD hS => ?_)
  clear hP9 hD9 hS9
  refine W.widen (k := 0) (n := 0) (Nat.le_of_ble_eq_true rfl) (Nat.le_of_ble_eq_true rfl) ?_
  replace hw3 : ((zr3 = nI jr_4 ∧ (jr_4 < 11 ∧ nI cj = kS.getD jr_4 0)) ∨ (zr3 = -1 ∧ (noSg cj 11))) := hw3
  have f_5 := hw3
  rcases f_5 with ⟨hz_7, a_6⟩ | ⟨hz_9, a_8⟩
  · subst hz_7
    refine lv_goto (tgt := 36) hx hb dJ0_indexOf_7cf53_20 (by decide) ?_
    exact x_iret hQ hx hb hr hlocks hK hP hD hS dJ0_indexOf_7cf53_36 jr_4 ((show ((nI jr_4 : Int32) = nI jr_4 ∧ (jr_4 < 11 ∧ nI cj = kS.getD jr_4 0)) ∨ ((nI jr_4 : Int32) = -1 ∧ (noSg cj 11)) from Or.inl ⟨rfl, (a_6)⟩)) [] (by decide +kernel) rfl (Nat.le_of_ble_eq_true rfl) (Nat.le_of_ble_eq_true rfl)
  · subst hz_9
    refine lv_goto (tgt := 36) hx hb dJ0_indexOf_7cf53_20 (by decide) ?_
    exact x_iret hQ hx hb hr hlocks hK hP hD hS dJ0_indexOf_7cf53_36 0 ((show ((-1 : Int32) = nI 0 ∧ (0 < 11 ∧ nI cj = kS.getD 0 0)) ∨ ((-1 : Int32) = -1 ∧ (noSg cj 11)) from Or.inr (⟨rfl, (a_8)⟩))) [] (by decide +kernel) rfl (Nat.le_of_ble_eq_true rfl) (Nat.le_of_ble_eq_true rfl)
theorem gdJ0_indexOf_0f7a4_0 : decode cJ0_indexOf_0f7a4 0 = .ok (.aload_n 0, 1) ∧ decode cJ0_indexOf_0f7a4 1 = .ok (.iload_n 1, 1) ∧ decode cJ0_indexOf_0f7a4 2 = .ok (.iconst 0, 1) ∧ decode cJ0_indexOf_0f7a4 3 = .ok (.invokevirtual 633, 3) := by decide +kernel
theorem dJ0_indexOf_0f7a4_0 : decode cJ0_indexOf_0f7a4 0 = .ok (.aload_n 0, 1) := gdJ0_indexOf_0f7a4_0.1
theorem dJ0_indexOf_0f7a4_1 : decode cJ0_indexOf_0f7a4 1 = .ok (.iload_n 1, 1) := gdJ0_indexOf_0f7a4_0.2.1
theorem dJ0_indexOf_0f7a4_2 : decode cJ0_indexOf_0f7a4 2 = .ok (.iconst 0, 1) := gdJ0_indexOf_0f7a4_0.2.2.1
theorem dJ0_indexOf_0f7a4_3 : decode cJ0_indexOf_0f7a4 3 = .ok (.invokevirtual 633, 3) := gdJ0_indexOf_0f7a4_0.2.2.2
theorem k_J0_633 : xV RJ0 RJ0 633 yJ0_indexOf_7cf53 cJ0_indexOf_7cf53 3 (some .int) 2 := ⟨⟨m_755, m_756, m_757, m_132, m_758⟩, rfl, by decide, by decide, by decide +kernel⟩
theorem dJ0_indexOf_0f7a4_6 : decode cJ0_indexOf_0f7a4 6 = .ok (.ireturn, 1) := by decide +kernel
set_option maxHeartbeats 1000000 in
set_option maxRecDepth 100000 in
theorem j_indexOf (l : Launch) (D : va_G) (cy : Nat → ClassId) (adK : Nat → Nat) (adV : Nat → Nat) (cj : Nat) (hcj : cj < 256) : XMi l D (tyL cy) (EV adK adV) yJ0_indexOf_0f7a4 cJ0_indexOf_0f7a4 2 (some .int) (rmk 4 0 0) [.ref (adK 1), .int (nI cj)] [] (fun (r : Int32) (jr : Nat) => ((r = nI jr ∧ (jr < 11 ∧ nI cj = kS.getD jr 0)) ∨ (r = -1 ∧ (noSg cj 11)))) (fun (jr : Nat) => []) := by
  refine XMi.start (by decide) (Nat.le_of_ble_eq_true rfl) ?_
  intro p e s m below meth c args A ls Q hat hQ
  obtain ⟨hx, hb, hr, hml, hown, hg, hlocks, hin, hK, hA, hP, hD, hS, hE, hl⟩ := hat
  have hown : s.vm.findClass RJ0 = some m.cls := hown
  have hl : lv_has ls 2 [(0, .ref (adK 1)), (1, .int (nI cj))] := hl
  refine lv_aload_n hx hb dJ0_indexOf_0f7a4_0 rfl (lv_at hl 0 rfl) ?_
  refine lv_iload_n hx hb dJ0_indexOf_0f7a4_1 rfl (lv_at hl 1 rfl) ?_
  refine lv_iconst (v := 0) hx hb dJ0_indexOf_0f7a4_2 (by decide) ?_
  refine x_callOi (C := RJ0) (wr := []) (rest := []) ⟨hx, hb, hml, hown, hg, hl.1⟩ k_J0_633 (j_indexOf2 l D cy adK adV cj (by omega)) EV_blind hK hP hD hS hA [] ⟨rfl, rfl, by decide +kernel, by decide +kernel, by decide +kernel⟩ (vk_recv (i := 1) hE.2.2.2.2.2.2.2.2.1 (by decide) hS) (fun U hU hW => EV_pass hE hS (va_free hD hS hA [] rfl) hU hW) dJ0_indexOf_0f7a4_3 rfl rfl (Nat.le_of_ble_eq_true rfl) ⟨Nat.le_of_ble_eq_true rfl, Nat.le_of_ble_eq_true rfl⟩ ⟨Nat.le_of_ble_eq_true rfl, Nat.le_of_ble_eq_true rfl⟩ (fun zr1 zu1 H locs hw1 hP9 hD9 hS9 => ?_)
  clear hP hD hS
  obtain ⟨jr_2, rfl⟩ : ∃ z, z = zu1 := ⟨_, rfl⟩
  refine reW [] hP9 hD9 hS9 (fun hP hD hS => ?_)
  clear hP9 hD9 hS9
  refine W.widen (k := 0) (n := 0) (Nat.le_of_ble_eq_true rfl) (Nat.le_of_ble_eq_true rfl) ?_
  replace hw1 : ((zr1 = nI jr_2 ∧ (jr_2 < 11 ∧ nI cj = kS.getD jr_2 0)) ∨ (zr1 = -1 ∧ (noSg cj 11))) := hw1
  have f_3 := hw1
  rcases f_3 with ⟨hz_5, a_4⟩ | ⟨hz_7, a_6⟩
  · subst hz_5
    exact x_iret hQ hx hb hr hlocks hK hP hD hS dJ0_indexOf_0f7a4_6 jr_2 ((show ((nI jr_2 : Int32) = nI jr_2 ∧ (jr_2 < 11 ∧ nI cj = kS.getD jr_2 0)) ∨ ((nI jr_2 : Int32) = -1 ∧ (noSg cj 11)) from Or.inl ⟨rfl, (a_4)⟩)) [] (by decide +kernel) rfl (Nat.le_of_ble_eq_true rfl) (Nat.le_of_ble_eq_true rfl)
  · subst hz_7
    exact x_iret hQ hx hb hr hlocks hK hP hD hS dJ0_indexOf_0f7a4_6 0 ((show ((-1 : Int32) = nI 0 ∧ (0 < 11 ∧ nI cj = kS.getD 0 0)) ∨ ((-1 : Int32) = -1 ∧ (noSg cj 11)) from Or.inr (⟨rfl, (a_6)⟩))) [] (by decide +kernel) rfl (Nat.le_of_ble_eq_true rfl) (Nat.le_of_ble_eq_true rfl)
theorem gdX9_append_0 : decode cX9_append 0 = .ok (.bipush 24, 2) ∧ decode cX9_append 2 = .ok (.istore_n 2, 1) ∧ decode cX9_append 3 = .ok (.iload_n 2, 1) ∧ decode cX9_append 4 = .ok (.ifCond .lt 42, 3) ∧ decode cX9_append 7 = .ok (.aload_n 0, 1) ∧ decode cX9_append 8 = .ok (.getfield 33, 3) := by decide +kernel
theorem dX9_append_0 : decode cX9_append 0 = .ok (.bipush 24, 2) := gdX9_append_0.1
theorem dX9_append_2 : decode cX9_append 2 = .ok (.istore_n 2, 1) := gdX9_append_0.2.1
theorem dX9_append_3 : decode cX9_append 3 = .ok (.iload_n 2, 1) := gdX9_append_0.2.2.1
theorem dX9_append_4 : decode cX9_append 4 = .ok (.ifCond .lt 42, 3) := gdX9_append_0.2.2.2.1
theorem dX9_append_7 : decode cX9_append 7 = .ok (.aload_n 0, 1) := gdX9_append_0.2.2.2.2.1
theorem dX9_append_8 : decode cX9_append 8 = .ok (.getfield 33, 3) := gdX9_append_0.2.2.2.2.2
set_option maxRecDepth 20000 in
theorem i_X9 : ∀ w ∈ u_ws RX9 TX9 8, w ∈ gT := gin [228, 230, 232, 234, 236, 238, 240, 242] (by decide +kernel) (by decide +kernel)
theorem gdX9_append_11 : decode cX9_append 11 = .ok (.sipush 1600, 3) ∧ decode cX9_append 14 = .ok (.if_icmp .ge 32, 3) ∧ decode cX9_append 17 = .ok (.aload_n 0, 1) ∧ decode cX9_append 18 = .ok (.getfield 11, 3) ∧ decode cX9_append 21 = .ok (.aload_n 0, 1) ∧ decode cX9_append 22 = .ok (.getfield 33, 3) ∧ decode cX9_append 25 = .ok (.iload_n 1, 1) ∧ decode cX9_append 26 = .ok (.iload_n 2, 1) ∧ decode cX9_append 27 = .ok (.ishr, 1) ∧ decode cX9_append 28 = .ok (.i2b, 1) ∧ decode cX9_append 29 = .ok (.bastore, 1) ∧ decode cX9_append 30 = .ok (.aload_n 0, 1) := by decide +kernel
theorem dX9_append_11 : decode cX9_append 11 = .ok (.sipush 1600, 3) := gdX9_append_11.1
theorem dX9_append_14 : decode cX9_append 14 = .ok (.if_icmp .ge 32, 3) := gdX9_append_11.2.1
theorem dX9_append_17 : decode cX9_append 17 = .ok (.aload_n 0, 1) := gdX9_append_11.2.2.1
theorem dX9_append_18 : decode cX9_append 18 = .ok (.getfield 11, 3) := gdX9_append_11.2.2.2.1
theorem dX9_append_21 : decode cX9_append 21 = .ok (.aload_n 0, 1) := gdX9_append_11.2.2.2.2.1
theorem dX9_append_22 : decode cX9_append 22 = .ok (.getfield 33, 3) := gdX9_append_11.2.2.2.2.2.1
theorem dX9_append_25 : decode cX9_append 25 = .ok (.iload_n 1, 1) := gdX9_append_11.2.2.2.2.2.2.1
theorem dX9_append_26 : decode cX9_append 26 = .ok (.iload_n 2, 1) := gdX9_append_11.2.2.2.2.2.2.2.1
theorem dX9_append_27 : decode cX9_append 27 = .ok (.ishr, 1) := gdX9_append_11.2.2.2.2.2.2.2.2.1
theorem dX9_append_28 : decode cX9_append 28 = .ok (.i2b, 1) := gdX9_append_11.2.2.2.2.2.2.2.2.2.1
theorem dX9_append_29 : decode cX9_append 29 = .ok (.bastore, 1) := gdX9_append_11.2.2.2.2.2.2.2.2.2.2.1
theorem dX9_append_30 : decode cX9_append 30 = .ok (.aload_n 0, 1) := gdX9_append_11.2.2.2.2.2.2.2.2.2.2.2
theorem gdX9_append_31 : decode cX9_append 31 = .ok (.dup, 1) ∧ decode cX9_append 32 = .ok (.getfield 33, 3) ∧ decode cX9_append 35 = .ok (.iconst 1, 1) ∧ decode cX9_append 36 = .ok (.iadd, 1) ∧ decode cX9_append 37 = .ok (.putfield 33, 3) ∧ decode cX9_append 40 = .ok (.iinc 2 (-8), 3) ∧ decode cX9_append 43 = .ok (.goto (-40), 3) ∧ decode cX9_append 46 = .ok (.return_, 1) := by decide +kernel
theorem dX9_append_31 : decode cX9_append 31 = .ok (.dup, 1) := gdX9_append_31.1
theorem dX9_append_32 : decode cX9_append 32 = .ok (.getfield 33, 3) := gdX9_append_31.2.1
theorem dX9_append_35 : decode cX9_append 35 = .ok (.iconst 1, 1) := gdX9_append_31.2.2.1
theorem dX9_append_36 : decode cX9_append 36 = .ok (.iadd, 1) := gdX9_append_31.2.2.2.1
theorem dX9_append_37 : decode cX9_append 37 = .ok (.putfield 33, 3) := gdX9_append_31.2.2.2.2.1
theorem dX9_append_40 : decode cX9_append 40 = .ok (.iinc 2 (-8), 3) := gdX9_append_31.2.2.2.2.2.1
theorem dX9_append_43 : decode cX9_append 43 = .ok (.goto (-40), 3) := gdX9_append_31.2.2.2.2.2.2.1
theorem dX9_append_46 : decode cX9_append 46 = .ok (.return_, 1) := gdX9_append_31.2.2.2.2.2.2.2
set_option maxHeartbeats 1000000 in
set_option maxRecDepth 100000 in
theorem s_append (l : Launch) (D : va_G) (cy : Nat → ClassId) (t0 : Nat) (t1 : Nat) (t2 : Nat) (tn : Nat) (ta : Nat) (ts : Nat) (tk : Nat) (tm : Int64) (tr : Int32) (fby : Nat → Int32) (xa : Int32) (htn : tn + 4 ≤ 1600) : XMv l D (tyL cy) E0 yX9_append cX9_append 3 none (rmk 0 0 0) [.ref t0, .int xa] [wO t0 9 [.ref t1, .ref t2, .int (nI tn), .int (nI ta), .int (nI ts), .int (nI tk), .long tm, .int tr], wI (cy 0) t1 1600 (fby)] (fun (fby2 : Nat → Int32) => (fby2 = apC fby tn xa)) (fun (fby2 : Nat → Int32) => [wO t0 9 [.ref t1, .ref t2, .int (nI (tn + 1 + 1 + 1 + 1)), .int (nI ta), .int (nI ts), .int (nI tk), .long tm, .int tr], wI (cy 0) t1 1600 (fby2)]) := by
  refine XMv.start (by decide) (Nat.le_of_ble_eq_true rfl) ?_
  intro p e s m below meth c args A ls Q hat hQ
  obtain ⟨hx, hb, hr, hml, hown, hg, hlocks, hin, hK, hA, hP, hD, hS, hE, hl⟩ := hat
  have hown : s.vm.findClass RX9 = some m.cls := hown
  have hl : lv_has ls 3 [(0, .ref t0), (1, .int xa)] := hl
  refine lv_bipush (v := 24) hx hb dX9_append_0 (by decide) ?_
  refine lv_istore_n (lv' := [(2, .int 24), (0, .ref t0), (1, .int xa)]) hx hb dX9_append_2 rfl hl (by decide) rfl (fun ls hl => ?_)
  refine lv_iload_n hx hb dX9_append_3 rfl (lv_at hl 0 rfl) ?_
  refine lv_if_lt (tgt := 46) hx hb dX9_append_4 (by decide) (fun h => absurd h (by decide)) (fun _ => ?_)
  refine lv_aload_n hx hb dX9_append_7 rfl (lv_at hl 1 rfl) ?_
  refine va_get (D := D) (ci := 9) (v := .int (nI tn)) (C := RX9) (T := TX9) (N := 8) hx hb hg i_X9 hown hK hP 0 rfl rfl 2 (by decide) (hg _ m_218) (fun _ h9 => h9) rfl dX9_append_8 ?_
  refine lv_sipush (v := 1600) hx hb dX9_append_11 (by decide) ?_
  refine lv_icmp_ge (tgt := 46) hx hb dX9_append_14 (by decide) (fun c_1 => ?_) (fun c_1 => ?_)
  · have q_2 : 1600 ≤ tn := q_le (a := 1600) (b := tn) rfl rfl (by omega) (by omega) c_1
    exact absurd q_2 (by omega)
  · have q_2 : tn < 1600 := q_nle (a := 1600) (b := tn) rfl rfl (by omega) (by omega) c_1
    refine lv_aload_n hx hb dX9_append_17 rfl (lv_at hl 1 rfl) ?_
    refine va_get (D := D) (ci := 9) (v := .ref t1) (C := RX9) (T := TX9) (N := 8) hx hb hg i_X9 hown hK hP 0 rfl rfl 0 (by decide) (hg _ m_215) (fun _ h9 => h9) rfl dX9_append_18 ?_
    refine lv_aload_n hx hb dX9_append_21 rfl (lv_at hl 1 rfl) ?_
    refine va_get (D := D) (ci := 9) (v := .int (nI tn)) (C := RX9) (T := TX9) (N := 8) hx hb hg i_X9 hown hK hP 0 rfl rfl 2 (by decide) (hg _ m_218) (fun _ h9 => h9) rfl dX9_append_22 ?_
    refine lv_iload_n hx hb dX9_append_25 rfl (lv_at hl 2 rfl) ?_
    refine lv_iload_n hx hb dX9_append_26 rfl (lv_at hl 0 rfl) ?_
    refine lv_ishr hx hb dX9_append_27 ?_
    refine lv_topi (fun x_3 ex_3 => ?_)
    obtain ⟨x_4, ex_4⟩ : ∃ y : Int32, (x_3 : Int32).toInt8.toInt32 = y := ⟨_, rfl⟩
    refine lv_i2b (v := x_4) hx hb dX9_append_28 ex_4 ?_
    refine va_bast hx hb hK hP hD hS 1 0 rfl rfl (vp_in_nI (by omega) (by decide)) dX9_append_29 (fun H locs hP9 hD9 hS9 => ?_)
    clear hP hD hS
    obtain ⟨g_5, eg_5⟩ : ∃ y, upd fby (nI tn : Int32).toNatClampNeg (vp_nar .byte x_4) = y := ⟨_, rfl⟩
    rw [eg_5] at hP9 hD9
    refine reW [wO t0 9 [.ref t1, .ref t2, .int (nI tn), .int (nI ta), .int (nI ts), .int (nI tk), .long tm, .int tr], wI (cy 0) t1 1600 (g_5)] hP9 hD9 hS9 (fun hP hD hS => ?_)
    clear hP9 hD9 hS9
    refine lv_aload_n hx hb dX9_append_30 rfl (lv_at hl 1 rfl) ?_
    refine lv_dup hx hb dX9_append_31 rfl ?_
    refine va_get (D := D) (ci := 9) (v := .int (nI tn)) (C := RX9) (T := TX9) (N := 8) hx hb hg i_X9 hown hK hP 0 rfl rfl 2 (by decide) (hg _ m_218) (fun _ h9 => h9) rfl dX9_append_32 ?_
    refine lv_iconst (v := 1) hx hb dX9_append_35 (by decide) ?_
    refine lv_iadd hx hb dX9_append_36 ?_
    refine lv_topi (fun y_6 hy_6 => ?_)
    obtain rfl : y_6 = nI (tn + 1) := hy_6.trans (nI_add tn 1)
    refine va_put (D := D) (ci := 9) (v := .int (nI (tn + 1))) (ty := .int) (C := RX9) (T := TX9) (N := 8) hx hb hg i_X9 tyX9 tyX9_ok nmX9 hown hK hP hD hS 0 rfl rfl 2 (by decide) (hg _ m_218) (fun _ h9 => h9) rfl (by decide +kernel) rfl rfl (Nat.le_of_ble_eq_true rfl) dX9_append_37 (fun H locs hP9 hD9 hS9 => ?_)
    clear hP hD hS
    refine reW [wO t0 9 [.ref t1, .ref t2, .int (nI (tn + 1)), .int (nI ta), .int (nI ts), .int (nI tk), .long tm, .int tr], wI (cy 0) t1 1600 (g_5)] hP9 hD9 hS9 (fun hP hD hS => ?_)
    clear hP9 hD9 hS9
    refine lv_iinc (v := 16) (lv' := [(2, .int 16), (0, .ref t0), (1, .int xa)]) hx hb dX9_append_40 hl (k := 0) rfl (by decide) (by decide) rfl (fun ls hl => ?_)
    refine lv_goto (tgt := 3) hx hb dX9_append_43 (by decide) ?_
    refine lv_iload_n hx hb dX9_append_3 rfl (lv_at hl 0 rfl) ?_
    refine lv_if_lt (tgt := 46) hx hb dX9_append_4 (by decide) (fun h => absurd h (by decide)) (fun _ => ?_)
    refine lv_aload_n hx hb dX9_append_7 rfl (lv_at hl 1 rfl) ?_
    refine va_get (D := D) (ci := 9) (v := .int (nI (tn + 1))) (C := RX9) (T := TX9) (N := 8) hx hb hg i_X9 hown hK hP 0 rfl rfl 2 (by decide) (hg _ m_218) (fun _ h9 => h9) rfl dX9_append_8 ?_
    refine lv_sipush (v := 1600) hx hb dX9_append_11 (by decide) ?_
    refine lv_icmp_ge (tgt := 46) hx hb dX9_append_14 (by decide) (fun c_7 => ?_) (fun c_7 => ?_)
    · have q_8 : 1600 ≤ (tn + 1) := q_le (a := 1600) (b := (tn + 1)) rfl rfl (by omega) (by omega) c_7
      exact absurd q_8 (by omega)
    · have q_8 : (tn + 1) < 1600 := q_nle (a := 1600) (b := (tn + 1)) rfl rfl (by omega) (by omega) c_7
      refine lv_aload_n hx hb dX9_append_17 rfl (lv_at hl 1 rfl) ?_
      refine va_get (D := D) (ci := 9) (v := .ref t1) (C := RX9) (T := TX9) (N := 8) hx hb hg i_X9 hown hK hP 0 rfl rfl 0 (by decide) (hg _ m_215) (fun _ h9 => h9) rfl dX9_append_18 ?_
      refine lv_aload_n hx hb dX9_append_21 rfl (lv_at hl 1 rfl) ?_
      refine va_get (D := D) (ci := 9) (v := .int (nI (tn + 1))) (C := RX9) (T := TX9) (N := 8) hx hb hg i_X9 hown hK hP 0 rfl rfl 2 (by decide) (hg _ m_218) (fun _ h9 => h9) rfl dX9_append_22 ?_
      refine lv_iload_n hx hb dX9_append_25 rfl (lv_at hl 2 rfl) ?_
      refine lv_iload_n hx hb dX9_append_26 rfl (lv_at hl 0 rfl) ?_
      refine lv_ishr hx hb dX9_append_27 ?_
      refine lv_topi (fun x_9 ex_9 => ?_)
      obtain ⟨x_10, ex_10⟩ : ∃ y : Int32, (x_9 : Int32).toInt8.toInt32 = y := ⟨_, rfl⟩
      refine lv_i2b (v := x_10) hx hb dX9_append_28 ex_10 ?_
      refine va_bast hx hb hK hP hD hS 1 0 rfl rfl (vp_in_nI (by omega) (by decide)) dX9_append_29 (fun H locs hP9 hD9 hS9 => ?_)
      clear hP hD hS
      obtain ⟨g_11, eg_11⟩ : ∃ y, upd g_5 (nI (tn + 1) : Int32).toNatClampNeg (vp_nar .byte x_10) = y := ⟨_, rfl⟩
      rw [eg_11] at hP9 hD9
      refine reW [wO t0 9 [.ref t1, .ref t2, .int (nI (tn + 1)), .int (nI ta), .int (nI ts), .int (nI tk), .long tm, .int tr], wI (cy 0) t1 1600 (g_11)] hP9 hD9 hS9 (fun hP hD hS => ?_)
      clear hP9 hD9 hS9
      refine lv_aload_n hx hb dX9_append_30 rfl (lv_at hl 1 rfl) ?_
      refine lv_dup hx hb dX9_append_31 rfl ?_
      refine va_get (D := D) (ci := 9) (v := .int (nI (tn + 1))) (C := RX9) (T := TX9) (N := 8) hx hb hg i_X9 hown hK hP 0 rfl rfl 2 (by decide) (hg _ m_218) (fun _ h9 => h9) rfl dX9_append_32 ?_
      refine lv_iconst (v := 1) hx hb dX9_append_35 (by decide) ?_
      refine lv_iadd hx hb dX9_append_36 ?_
      refine lv_topi (fun y_12 hy_12 => ?_)
      obtain rfl : y_12 = nI ((tn + 1) + 1) := hy_12.trans (nI_add ((tn + 1)) 1)
      refine va_put (D := D) (ci := 9) (v := .int (nI ((tn + 1) + 1))) (ty := .int) (C := RX9) (T := TX9) (N := 8) hx hb hg i_X9 tyX9 tyX9_ok nmX9 hown hK hP hD hS 0 rfl rfl 2 (by decide) (hg _ m_218) (fun _ h9 => h9) rfl (by decide +kernel) rfl rfl (Nat.le_of_ble_eq_true rfl) dX9_append_37 (fun H locs hP9 hD9 hS9 => ?_)
      clear hP hD hS
      refine reW [wO t0 9 [.ref t1, .ref t2, .int (nI ((tn + 1) + 1)), .int (nI ta), .int (nI ts), .int (nI tk), .long tm, .int tr], wI (cy 0) t1 1600 (g_11)] hP9 hD9 hS9 (fun hP hD hS => ?_)
      clear hP9 hD9 hS9
      refine lv_iinc (v := 8) (lv' := [(2, .int 8), (0, .ref t0), (1, .int xa)]) hx hb dX9_append_40 hl (k := 0) rfl (by decide) (by decide) rfl (fun ls hl => ?_)
      refine lv_goto (tgt := 3) hx hb dX9_append_43 (by decide) ?_
      refine lv_iload_n hx hb dX9_append_3 rfl (lv_at hl 0 rfl) ?_
      refine lv_if_lt (tgt := 46) hx hb dX9_append_4 (by decide) (fun h => absurd h (by decide)) (fun _ => ?_)
      refine lv_aload_n hx hb dX9_append_7 rfl (lv_at hl 1 rfl) ?_
      refine va_get (D := D) (ci := 9) (v := .int (nI ((tn + 1) + 1))) (C := RX9) (T := TX9) (N := 8) hx hb hg i_X9 hown hK hP 0 rfl rfl 2 (by decide) (hg _ m_218) (fun _ h9 => h9) rfl dX9_append_8 ?_
      refine lv_sipush (v := 1600) hx hb dX9_append_11 (by decide) ?_
      refine lv_icmp_ge (tgt := 46) hx hb dX9_append_14 (by decide) (fun c_13 => ?_) (fun c_13 => ?_)
      · have q_14 : 1600 ≤ ((tn + 1) + 1) := q_le (a := 1600) (b := ((tn + 1) + 1)) rfl rfl (by omega) (by omega) c_13
        exact absurd q_14 (by omega)
      · have q_14 : ((tn + 1) + 1) < 1600 := q_nle (a := 1600) (b := ((tn + 1) + 1)) rfl rfl (by omega) (by omega) c_13
        refine lv_aload_n hx hb dX9_append_17 rfl (lv_at hl 1 rfl) ?_
        refine va_get (D := D) (ci := 9) (v := .ref t1) (C := RX9) (T := TX9) (N := 8) hx hb hg i_X9 hown hK hP 0 rfl rfl 0 (by decide) (hg _ m_215) (fun _ h9 => h9) rfl dX9_append_18 ?_
        refine lv_aload_n hx hb dX9_append_21 rfl (lv_at hl 1 rfl) ?_
        refine va_get (D := D) (ci := 9) (v := .int (nI ((tn + 1) + 1))) (C := RX9) (T := TX9) (N := 8) hx hb hg i_X9 hown hK hP 0 rfl rfl 2 (by decide) (hg _ m_218) (fun _ h9 => h9) rfl dX9_append_22 ?_
        refine lv_iload_n hx hb dX9_append_25 rfl (lv_at hl 2 rfl) ?_
        refine lv_iload_n hx hb dX9_append_26 rfl (lv_at hl 0 rfl) ?_
        refine lv_ishr hx hb dX9_append_27 ?_
        refine lv_topi (fun x_15 ex_15 => ?_)
        obtain ⟨x_16, ex_16⟩ : ∃ y : Int32, (x_15 : Int32).toInt8.toInt32 = y := ⟨_, rfl⟩
        refine lv_i2b (v := x_16) hx hb dX9_append_28 ex_16 ?_
        refine va_bast hx hb hK hP hD hS 1 0 rfl rfl (vp_in_nI (by omega) (by decide)) dX9_append_29 (fun H locs hP9 hD9 hS9 => ?_)
        clear hP hD hS
        obtain ⟨g_17, eg_17⟩ : ∃ y, upd g_11 (nI ((tn + 1) + 1) : Int32).toNatClampNeg (vp_nar .byte x_16) = y := ⟨_, rfl⟩
        rw [eg_17] at hP9 hD9
        refine reW [wO t0 9 [.ref t1, .ref t2, .int (nI ((tn + 1) + 1)), .int (nI ta), .int (nI ts), .int (nI tk), .long tm, .int tr], wI (cy 0) t1 1600 (g_17)] hP9 hD9 hS9 (fun hP hD hS => ?_)
        clear hP9 hD9 hS9
        refine lv_aload_n hx hb dX9_append_30 rfl (lv_at hl 1 rfl) ?_
        refine lv_dup hx hb dX9_append_31 rfl ?_
        refine va_get (D := D) (ci := 9) (v := .int (nI ((tn + 1) + 1))) (C := RX9) (T := TX9) (N := 8) hx hb hg i_X9 hown hK hP 0 rfl rfl 2 (by decide) (hg _ m_218) (fun _ h9 => h9) rfl dX9_append_32 ?_
        refine lv_iconst (v := 1) hx hb dX9_append_35 (by decide) ?_
        refine lv_iadd hx hb dX9_append_36 ?_
        refine lv_topi (fun y_18 hy_18 => ?_)
        obtain rfl : y_18 = nI (((tn + 1) + 1) + 1) := hy_18.trans (nI_add (((tn + 1) + 1)) 1)
        refine va_put (D := D) (ci := 9) (v := .int (nI (((tn + 1) + 1) + 1))) (ty := .int) (C := RX9) (T := TX9) (N := 8) hx hb hg i_X9 tyX9 tyX9_ok nmX9 hown hK hP hD hS 0 rfl rfl 2 (by decide) (hg _ m_218) (fun _ h9 => h9) rfl (by decide +kernel) rfl rfl (Nat.le_of_ble_eq_true rfl) dX9_append_37 (fun H locs hP9 hD9 hS9 => ?_)
        clear hP hD hS
        refine reW [wO t0 9 [.ref t1, .ref t2, .int (nI (((tn + 1) + 1) + 1)), .int (nI ta), .int (nI ts), .int (nI tk), .long tm, .int tr], wI (cy 0) t1 1600 (g_17)] hP9 hD9 hS9 (fun hP hD hS => ?_)
        clear hP9 hD9 hS9
        refine lv_iinc (v := 0) (lv' := [(2, .int 0), (0, .ref t0), (1, .int xa)]) hx hb dX9_append_40 hl (k := 0) rfl (by decide) (by decide) rfl (fun ls hl => ?_)
        refine lv_goto (tgt := 3) hx hb dX9_append_43 (by decide) ?_
        refine lv_iload_n hx hb dX9_append_3 rfl (lv_at hl 0 rfl) ?_
        refine lv_if_lt (tgt := 46) hx hb dX9_append_4 (by decide) (fun h => absurd h (by decide)) (fun _ => ?_)
        refine lv_aload_n hx hb dX9_append_7 rfl (lv_at hl 1 rfl) ?_
        refine va_get (D := D) (ci := 9) (v := .int (nI (((tn + 1) + 1) + 1))) (C := RX9) (T := TX9) (N := 8) hx hb hg i_X9 hown hK hP 0 rfl rfl 2 (by decide) (hg _ m_218) (fun _ h9 => h9) rfl dX9_append_8 ?_
        refine lv_sipush (v := 1600) hx hb dX9_append_11 (by decide) ?_
        refine lv_icmp_ge (tgt := 46) hx hb dX9_append_14 (by decide) (fun c_19 => ?_) (fun c_19 => ?_)
        · have q_20 : 1600 ≤ (((tn + 1) + 1) + 1) := q_le (a := 1600) (b := (((tn + 1) + 1) + 1)) rfl rfl (by omega) (by omega) c_19
          exact absurd q_20 (by omega)
        · have q_20 : (((tn + 1) + 1) + 1) < 1600 := q_nle (a := 1600) (b := (((tn + 1) + 1) + 1)) rfl rfl (by omega) (by omega) c_19
          refine lv_aload_n hx hb dX9_append_17 rfl (lv_at hl 1 rfl) ?_
          refine va_get (D := D) (ci := 9) (v := .ref t1) (C := RX9) (T := TX9) (N := 8) hx hb hg i_X9 hown hK hP 0 rfl rfl 0 (by decide) (hg _ m_215) (fun _ h9 => h9) rfl dX9_append_18 ?_
          refine lv_aload_n hx hb dX9_append_21 rfl (lv_at hl 1 rfl) ?_
          refine va_get (D := D) (ci := 9) (v := .int (nI (((tn + 1) + 1) + 1))) (C := RX9) (T := TX9) (N := 8) hx hb hg i_X9 hown hK hP 0 rfl rfl 2 (by decide) (hg _ m_218) (fun _ h9 => h9) rfl dX9_append_22 ?_
          refine lv_iload_n hx hb dX9_append_25 rfl (lv_at hl 2 rfl) ?_
          refine lv_iload_n hx hb dX9_append_26 rfl (lv_at hl 0 rfl) ?_
          refine lv_ishr hx hb dX9_append_27 ?_
          refine lv_topi (fun x_21 ex_21 => ?_)
          obtain ⟨x_22, ex_22⟩ : ∃ y : Int32, (x_21 : Int32).toInt8.toInt32 = y := ⟨_, rfl⟩
          refine lv_i2b (v := x_22) hx hb dX9_append_28 ex_22 ?_
          refine va_bast hx hb hK hP hD hS 1 0 rfl rfl (vp_in_nI (by omega) (by decide)) dX9_append_29 (fun H locs hP9 hD9 hS9 => ?_)
          clear hP hD hS
          obtain ⟨g_23, eg_23⟩ : ∃ y, upd g_17 (nI (((tn + 1) + 1) + 1) : Int32).toNatClampNeg (vp_nar .byte x_22) = y := ⟨_, rfl⟩
          rw [eg_23] at hP9 hD9
          refine reW [wO t0 9 [.ref t1, .ref t2, .int (nI (((tn + 1) + 1) + 1)), .int (nI ta), .int (nI ts), .int (nI tk), .long tm, .int tr], wI (cy 0) t1 1600 (g_23)] hP9 hD9 hS9 (fun hP hD hS => ?_)
          clear hP9 hD9 hS9
          refine lv_aload_n hx hb dX9_append_30 rfl (lv_at hl 1 rfl) ?_
          refine lv_dup hx hb dX9_append_31 rfl ?_
          refine va_get (D := D) (ci := 9) (v := .int (nI (((tn + 1) + 1) + 1))) (C := RX9) (T := TX9) (N := 8) hx hb hg i_X9 hown hK hP 0 rfl rfl 2 (by decide) (hg _ m_218) (fun _ h9 => h9) rfl dX9_append_32 ?_
          refine lv_iconst (v := 1) hx hb dX9_append_35 (by decide) ?_
          refine lv_iadd hx hb dX9_append_36 ?_
          refine lv_topi (fun y_24 hy_24 => ?_)
          obtain rfl : y_24 = nI ((((tn + 1) + 1) + 1) + 1) := hy_24.trans (nI_add ((((tn + 1) + 1) + 1)) 1)
          refine va_put (D := D) (ci := 9) (v := .int (nI ((((tn + 1) + 1) + 1) + 1))) (ty := .int) (C := RX9) (T := TX9) (N := 8) hx hb hg i_X9 tyX9 tyX9_ok nmX9 hown hK hP hD hS 0 rfl rfl 2 (by decide) (hg _ m_218) (fun _ h9 => h9) rfl (by decide +kernel) rfl rfl (Nat.le_of_ble_eq_true rfl) dX9_append_37 (fun H locs hP9 hD9 hS9 => ?_)
          clear hP hD hS
          refine reW [wO t0 9 [.ref t1, .ref t2, .int (nI ((((tn + 1) + 1) + 1) + 1)), .int (nI ta), .int (nI ts), .int (nI tk), .long tm, .int tr], wI (cy 0) t1 1600 (g_23)] hP9 hD9 hS9 (fun hP hD hS => ?_)
          clear hP9 hD9 hS9
          refine lv_iinc (v := -8) (lv' := [(2, .int (-8)), (0, .ref t0), (1, .int xa)]) hx hb dX9_append_40 hl (k := 0) rfl (by decide) (by decide) rfl (fun ls hl => ?_)
          refine lv_goto (tgt := 3) hx hb dX9_append_43 (by decide) ?_
          refine lv_iload_n hx hb dX9_append_3 rfl (lv_at hl 0 rfl) ?_
          refine lv_if_lt (tgt := 46) hx hb dX9_append_4 (by decide) (fun _ => ?_) (fun h => absurd (by decide) h)
          exact x_vret hQ hx hb hr hlocks hK hP hD hS dX9_append_46 g_23 (apC_mk (by omega) ex_4 ex_3 eg_5 ex_10 ex_9 eg_11 ex_16 ex_15 eg_17 ex_22 ex_21 eg_23) [0, 1] (by decide +kernel) rfl (Nat.le_of_ble_eq_true rfl) (Nat.le_of_ble_eq_true rfl)
theorem gdX9_isLetter_0 : decode cX9_isLetter 0 = .ok (.iload_n 1, 1) ∧ decode cX9_isLetter 1 = .ok (.aload_n 0, 1) ∧ decode cX9_isLetter 2 = .ok (.getfield 33, 3) ∧ decode cX9_isLetter 5 = .ok (.if_icmp .ge 29, 3) ∧ decode cX9_isLetter 34 = .ok (.iconst 0, 1) ∧ decode cX9_isLetter 35 = .ok (.ireturn, 1) ∧ decode cX9_isLetter 8 = .ok (.aload_n 0, 1) ∧ decode cX9_isLetter 9 = .ok (.getfield 11, 3) ∧ decode cX9_isLetter 12 = .ok (.iload_n 1, 1) ∧ decode cX9_isLetter 13 = .ok (.baload, 1) ∧ decode cX9_isLetter 14 = .ok (.bipush 97, 2) ∧ decode cX9_isLetter 16 = .ok (.if_icmp .lt 18, 3) := by decide +kernel
theorem dX9_isLetter_0 : decode cX9_isLetter 0 = .ok (.iload_n 1, 1) := gdX9_isLetter_0.1
theorem dX9_isLetter_1 : decode cX9_isLetter 1 = .ok (.aload_n 0, 1) := gdX9_isLetter_0.2.1
theorem dX9_isLetter_2 : decode cX9_isLetter 2 = .ok (.getfield 33, 3) := gdX9_isLetter_0.2.2.1
theorem dX9_isLetter_5 : decode cX9_isLetter 5 = .ok (.if_icmp .ge 29, 3) := gdX9_isLetter_0.2.2.2.1
theorem dX9_isLetter_34 : decode cX9_isLetter 34 = .ok (.iconst 0, 1) := gdX9_isLetter_0.2.2.2.2.1
theorem dX9_isLetter_35 : decode cX9_isLetter 35 = .ok (.ireturn, 1) := gdX9_isLetter_0.2.2.2.2.2.1
theorem dX9_isLetter_8 : decode cX9_isLetter 8 = .ok (.aload_n 0, 1) := gdX9_isLetter_0.2.2.2.2.2.2.1
theorem dX9_isLetter_9 : decode cX9_isLetter 9 = .ok (.getfield 11, 3) := gdX9_isLetter_0.2.2.2.2.2.2.2.1
theorem dX9_isLetter_12 : decode cX9_isLetter 12 = .ok (.iload_n 1, 1) := gdX9_isLetter_0.2.2.2.2.2.2.2.2.1
theorem dX9_isLetter_13 : decode cX9_isLetter 13 = .ok (.baload, 1) := gdX9_isLetter_0.2.2.2.2.2.2.2.2.2.1
theorem dX9_isLetter_14 : decode cX9_isLetter 14 = .ok (.bipush 97, 2) := gdX9_isLetter_0.2.2.2.2.2.2.2.2.2.2.1
theorem dX9_isLetter_16 : decode cX9_isLetter 16 = .ok (.if_icmp .lt 18, 3) := gdX9_isLetter_0.2.2.2.2.2.2.2.2.2.2.2
theorem gdX9_isLetter_19 : decode cX9_isLetter 19 = .ok (.aload_n 0, 1) ∧ decode cX9_isLetter 20 = .ok (.getfield 11, 3) ∧ decode cX9_isLetter 23 = .ok (.iload_n 1, 1) ∧ decode cX9_isLetter 24 = .ok (.baload, 1) ∧ decode cX9_isLetter 25 = .ok (.bipush 122, 2) ∧ decode cX9_isLetter 27 = .ok (.if_icmp .gt 7, 3) ∧ decode cX9_isLetter 30 = .ok (.iconst 1, 1) ∧ decode cX9_isLetter 31 = .ok (.goto 4, 3) := by decide +kernel
theorem dX9_isLetter_19 : decode cX9_isLetter 19 = .ok (.aload_n 0, 1) := gdX9_isLetter_19.1
theorem dX9_isLetter_20 : decode cX9_isLetter 20 = .ok (.getfield 11, 3) := gdX9_isLetter_19.2.1
theorem dX9_isLetter_23 : decode cX9_isLetter 23 = .ok (.iload_n 1, 1) := gdX9_isLetter_19.2.2.1
theorem dX9_isLetter_24 : decode cX9_isLetter 24 = .ok (.baload, 1) := gdX9_isLetter_19.2.2.2.1
theorem dX9_isLetter_25 : decode cX9_isLetter 25 = .ok (.bipush 122, 2) := gdX9_isLetter_19.2.2.2.2.1
theorem dX9_isLetter_27 : decode cX9_isLetter 27 = .ok (.if_icmp .gt 7, 3) := gdX9_isLetter_19.2.2.2.2.2.1
theorem dX9_isLetter_30 : decode cX9_isLetter 30 = .ok (.iconst 1, 1) := gdX9_isLetter_19.2.2.2.2.2.2.1
theorem dX9_isLetter_31 : decode cX9_isLetter 31 = .ok (.goto 4, 3) := gdX9_isLetter_19.2.2.2.2.2.2.2
set_option maxHeartbeats 1000000 in
set_option maxRecDepth 100000 in
theorem s_isLetter (l : Launch) (D : va_G) (cy : Nat → ClassId) (t0 : Nat) (t1 : Nat) (t2 : Nat) (tn : Nat) (ta : Nat) (ts : Nat) (tk : Nat) (tm : Int64) (tr : Int32) (fby : Nat → Int32) (ix : Nat) (htn : tn ≤ 1600) (hix : ix ≤ 1600) : XMi l D (tyL cy) E0 yX9_isLetter cX9_isLetter 2 (some .boolean) (rmk 0 0 0) [.ref t0, .int (nI ix)] [wO t0 9 [.ref t1, .ref t2, .int (nI tn), .int (nI ta), .int (nI ts), .int (nI tk), .long tm, .int tr], wI (cy 0) t1 1600 (fby)] (fun (r : Int32) (_ : Unit) => ((r = 1 ∧ (ix < tn ∧ isLt (fby ix))) ∨ (r = 0 ∧ (¬ (ix < tn ∧ isLt (fby ix)))))) (fun (_ : Unit) => [wO t0 9 [.ref t1, .ref t2, .int (nI tn), .int (nI ta), .int (nI ts), .int (nI tk), .long tm, .int tr], wI (cy 0) t1 1600 (fby)]) := by
  refine XMi.start (by decide) (Nat.le_of_ble_eq_true rfl) ?_
  intro p e s m below meth c args A ls Q hat hQ
  obtain ⟨hx, hb, hr, hml, hown, hg, hlocks, hin, hK, hA, hP, hD, hS, hE, hl⟩ := hat
  have hown : s.vm.findClass RX9 = some m.cls := hown
  have hl : lv_has ls 2 [(0, .ref t0), (1, .int (nI ix))] := hl
  refine lv_iload_n hx hb dX9_isLetter_0 rfl (lv_at hl 1 rfl) ?_
  refine lv_aload_n hx hb dX9_isLetter_1 rfl (lv_at hl 0 rfl) ?_
  refine va_get (D := D) (ci := 9) (v := .int (nI tn)) (C := RX9) (T := TX9) (N := 8) hx hb hg i_X9 hown hK hP 0 rfl rfl 2 (by decide) (hg _ m_218) (fun _ h9 => h9) rfl dX9_isLetter_2 ?_
  refine lv_icmp_ge (tgt := 34) hx hb dX9_isLetter_5 (by decide) (fun c_1 => ?_) (fun c_1 => ?_)
  · have q_2 : tn ≤ ix := q_le (a := tn) (b := ix) rfl rfl (by omega) (by omega) c_1
    refine lv_iconst (v := 0) hx hb dX9_isLetter_34 (by decide) ?_
    exact x_zret hQ hx hb hr hlocks hK hP hD hS rfl dX9_isLetter_35 () ((show ((0 : Int32) = 1 ∧ (ix < tn ∧ isLt (fby ix))) ∨ ((0 : Int32) = 0 ∧ (¬ (ix < tn ∧ isLt (fby ix)))) from Or.inr (⟨rfl, (fun h9 => absurd h9.1 (by omega))⟩))) [0, 1] (by decide +kernel) rfl (Nat.le_of_ble_eq_true rfl) (Nat.le_of_ble_eq_true rfl)
  · have q_2 : ix < tn := q_nle (a := tn) (b := ix) rfl rfl (by omega) (by omega) c_1
    refine lv_aload_n hx hb dX9_isLetter_8 rfl (lv_at hl 0 rfl) ?_
    refine va_get (D := D) (ci := 9) (v := .ref t1) (C := RX9) (T := TX9) (N := 8) hx hb hg i_X9 hown hK hP 0 rfl rfl 0 (by decide) (hg _ m_215) (fun _ h9 => h9) rfl dX9_isLetter_9 ?_
    refine lv_iload_n hx hb dX9_isLetter_12 rfl (lv_at hl 1 rfl) ?_
    refine va_bald hx hb hK hP 1 0 rfl rfl (vp_in_nI (by omega) (by decide)) dX9_isLetter_13 ?_
    refine lv_topi (fun y_3 hy_3 => ?_)
    obtain rfl : y_3 = fby ix := hy_3.trans (by rw [nI_clamp (by omega)])
    refine lv_bipush (v := 97) hx hb dX9_isLetter_14 (by decide) ?_
    refine lv_icmp_lt (tgt := 34) hx hb dX9_isLetter_16 (by decide) (fun c_16 => ?_) (fun c_16 => ?_)
    · refine lv_iconst (v := 0) hx hb dX9_isLetter_34 (by decide) ?_
      exact x_zret hQ hx hb hr hlocks hK hP hD hS rfl dX9_isLetter_35 () ((show ((0 : Int32) = 1 ∧ (ix < tn ∧ isLt (fby ix))) ∨ ((0 : Int32) = 0 ∧ (¬ (ix < tn ∧ isLt (fby ix)))) from Or.inr (⟨rfl, (fun h9 => h9.2.1 c_16)⟩))) [0, 1] (by decide +kernel) rfl (Nat.le_of_ble_eq_true rfl) (Nat.le_of_ble_eq_true rfl)
    · refine lv_aload_n hx hb dX9_isLetter_19 rfl (lv_at hl 0 rfl) ?_
      refine va_get (D := D) (ci := 9) (v := .ref t1) (C := RX9) (T := TX9) (N := 8) hx hb hg i_X9 hown hK hP 0 rfl rfl 0 (by decide) (hg _ m_215) (fun _ h9 => h9) rfl dX9_isLetter_20 ?_
      refine lv_iload_n hx hb dX9_isLetter_23 rfl (lv_at hl 1 rfl) ?_
      refine va_bald hx hb hK hP 1 0 rfl rfl (vp_in_nI (by omega) (by decide)) dX9_isLetter_24 ?_
      refine lv_topi (fun y_4 hy_4 => ?_)
      obtain rfl : y_4 = fby ix := hy_4.trans (by rw [nI_clamp (by omega)])
      refine lv_bipush (v := 122) hx hb dX9_isLetter_25 (by decide) ?_
      refine lv_icmp_gt (tgt := 34) hx hb dX9_isLetter_27 (by decide) (fun c_27 => ?_) (fun c_27 => ?_)
      · refine lv_iconst (v := 0) hx hb dX9_isLetter_34 (by decide) ?_
        exact x_zret hQ hx hb hr hlocks hK hP hD hS rfl dX9_isLetter_35 () ((show ((0 : Int32) = 1 ∧ (ix < tn ∧ isLt (fby ix))) ∨ ((0 : Int32) = 0 ∧ (¬ (ix < tn ∧ isLt (fby ix)))) from Or.inr (⟨rfl, (fun h9 => h9.2.2 c_27)⟩))) [0, 1] (by decide +kernel) rfl (Nat.le_of_ble_eq_true rfl) (Nat.le_of_ble_eq_true rfl)
      · refine lv_iconst (v := 1) hx hb dX9_isLetter_30 (by decide) ?_
        refine lv_goto (tgt := 35) hx hb dX9_isLetter_31 (by decide) ?_
        exact x_zret hQ hx hb hr hlocks hK hP hD hS rfl dX9_isLetter_35 () ((show ((1 : Int32) = 1 ∧ (ix < tn ∧ isLt (fby ix))) ∨ ((1 : Int32) = 0 ∧ (¬ (ix < tn ∧ isLt (fby ix)))) from Or.inl ⟨rfl, (⟨by omega, c_16, c_27⟩)⟩)) [0, 1] (by decide +kernel) rfl (Nat.le_of_ble_eq_true rfl) (Nat.le_of_ble_eq_true rfl)
theorem gdX9_isDigit_0 : decode cX9_isDigit 0 = .ok (.iload_n 1, 1) ∧ decode cX9_isDigit 1 = .ok (.aload_n 0, 1) ∧ decode cX9_isDigit 2 = .ok (.getfield 33, 3) ∧ decode cX9_isDigit 5 = .ok (.if_icmp .ge 29, 3) ∧ decode cX9_isDigit 34 = .ok (.iconst 0, 1) ∧ decode cX9_isDigit 35 = .ok (.ireturn, 1) ∧ decode cX9_isDigit 8 = .ok (.aload_n 0, 1) ∧ decode cX9_isDigit 9 = .ok (.getfield 11, 3) ∧ decode cX9_isDigit 12 = .ok (.iload_n 1, 1) ∧ decode cX9_isDigit 13 = .ok (.baload, 1) ∧ decode cX9_isDigit 14 = .ok (.bipush 48, 2) ∧ decode cX9_isDigit 16 = .ok (.if_icmp .lt 18, 3) := by decide +kernel
theorem dX9_isDigit_0 : decode cX9_isDigit 0 = .ok (.iload_n 1, 1) := gdX9_isDigit_0.1
theorem dX9_isDigit_1 : decode cX9_isDigit 1 = .ok (.aload_n 0, 1) := gdX9_isDigit_0.2.1
theorem dX9_isDigit_2 : decode cX9_isDigit 2 = .ok (.getfield 33, 3) := gdX9_isDigit_0.2.2.1
theorem dX9_isDigit_5 : decode cX9_isDigit 5 = .ok (.if_icmp .ge 29, 3) := gdX9_isDigit_0.2.2.2.1
theorem dX9_isDigit_34 : decode cX9_isDigit 34 = .ok (.iconst 0, 1) := gdX9_isDigit_0.2.2.2.2.1
theorem dX9_isDigit_35 : decode cX9_isDigit 35 = .ok (.ireturn, 1) := gdX9_isDigit_0.2.2.2.2.2.1
theorem dX9_isDigit_8 : decode cX9_isDigit 8 = .ok (.aload_n 0, 1) := gdX9_isDigit_0.2.2.2.2.2.2.1
theorem dX9_isDigit_9 : decode cX9_isDigit 9 = .ok (.getfield 11, 3) := gdX9_isDigit_0.2.2.2.2.2.2.2.1
theorem dX9_isDigit_12 : decode cX9_isDigit 12 = .ok (.iload_n 1, 1) := gdX9_isDigit_0.2.2.2.2.2.2.2.2.1
theorem dX9_isDigit_13 : decode cX9_isDigit 13 = .ok (.baload, 1) := gdX9_isDigit_0.2.2.2.2.2.2.2.2.2.1
theorem dX9_isDigit_14 : decode cX9_isDigit 14 = .ok (.bipush 48, 2) := gdX9_isDigit_0.2.2.2.2.2.2.2.2.2.2.1
theorem dX9_isDigit_16 : decode cX9_isDigit 16 = .ok (.if_icmp .lt 18, 3) := gdX9_isDigit_0.2.2.2.2.2.2.2.2.2.2.2
theorem gdX9_isDigit_19 : decode cX9_isDigit 19 = .ok (.aload_n 0, 1) ∧ decode cX9_isDigit 20 = .ok (.getfield 11, 3) ∧ decode cX9_isDigit 23 = .ok (.iload_n 1, 1) ∧ decode cX9_isDigit 24 = .ok (.baload, 1) ∧ decode cX9_isDigit 25 = .ok (.bipush 57, 2) ∧ decode cX9_isDigit 27 = .ok (.if_icmp .gt 7, 3) ∧ decode cX9_isDigit 30 = .ok (.iconst 1, 1) ∧ decode cX9_isDigit 31 = .ok (.goto 4, 3) := by decide +kernel
theorem dX9_isDigit_19 : decode cX9_isDigit 19 = .ok (.aload_n 0, 1) := gdX9_isDigit_19.1
theorem dX9_isDigit_20 : decode cX9_isDigit 20 = .ok (.getfield 11, 3) := gdX9_isDigit_19.2.1
theorem dX9_isDigit_23 : decode cX9_isDigit 23 = .ok (.iload_n 1, 1) := gdX9_isDigit_19.2.2.1
theorem dX9_isDigit_24 : decode cX9_isDigit 24 = .ok (.baload, 1) := gdX9_isDigit_19.2.2.2.1
theorem dX9_isDigit_25 : decode cX9_isDigit 25 = .ok (.bipush 57, 2) := gdX9_isDigit_19.2.2.2.2.1
theorem dX9_isDigit_27 : decode cX9_isDigit 27 = .ok (.if_icmp .gt 7, 3) := gdX9_isDigit_19.2.2.2.2.2.1
theorem dX9_isDigit_30 : decode cX9_isDigit 30 = .ok (.iconst 1, 1) := gdX9_isDigit_19.2.2.2.2.2.2.1
theorem dX9_isDigit_31 : decode cX9_isDigit 31 = .ok (.goto 4, 3) := gdX9_isDigit_19.2.2.2.2.2.2.2
set_option maxHeartbeats 1000000 in
set_option maxRecDepth 100000 in
theorem s_isDigit (l : Launch) (D : va_G) (cy : Nat → ClassId) (t0 : Nat) (t1 : Nat) (t2 : Nat) (tn : Nat) (ta : Nat) (ts : Nat) (tk : Nat) (tm : Int64) (tr : Int32) (fby : Nat → Int32) (ix : Nat) (htn : tn ≤ 1600) (hix : ix ≤ 1600) : XMi l D (tyL cy) E0 yX9_isDigit cX9_isDigit 2 (some .boolean) (rmk 0 0 0) [.ref t0, .int (nI ix)] [wO t0 9 [.ref t1, .ref t2, .int (nI tn), .int (nI ta), .int (nI ts), .int (nI tk), .long tm, .int tr], wI (cy 0) t1 1600 (fby)] (fun (r : Int32) (_ : Unit) => ((r = 1 ∧ (ix < tn ∧ isDg (fby ix))) ∨ (r = 0 ∧ (¬ (ix < tn ∧ isDg (fby ix)))))) (fun (_ : Unit) => [wO t0 9 [.ref t1, .ref t2, .int (nI tn), .int (nI ta), .int (nI ts), .int (nI tk), .long tm, .int tr], wI (cy 0) t1 1600 (fby)]) := by
  refine XMi.start (by decide) (Nat.le_of_ble_eq_true rfl) ?_
  intro p e s m below meth c args A ls Q hat hQ
  obtain ⟨hx, hb, hr, hml, hown, hg, hlocks, hin, hK, hA, hP, hD, hS, hE, hl⟩ := hat
  have hown : s.vm.findClass RX9 = some m.cls := hown
  have hl : lv_has ls 2 [(0, .ref t0), (1, .int (nI ix))] := hl
  refine lv_iload_n hx hb dX9_isDigit_0 rfl (lv_at hl 1 rfl) ?_
  refine lv_aload_n hx hb dX9_isDigit_1 rfl (lv_at hl 0 rfl) ?_
  refine va_get (D := D) (ci := 9) (v := .int (nI tn)) (C := RX9) (T := TX9) (N := 8) hx hb hg i_X9 hown hK hP 0 rfl rfl 2 (by decide) (hg _ m_218) (fun _ h9 => h9) rfl dX9_isDigit_2 ?_
  refine lv_icmp_ge (tgt := 34) hx hb dX9_isDigit_5 (by decide) (fun c_1 => ?_) (fun c_1 => ?_)
  · have q_2 : tn ≤ ix := q_le (a := tn) (b := ix) rfl rfl (by omega) (by omega) c_1
    refine lv_iconst (v := 0) hx hb dX9_isDigit_34 (by decide) ?_
    exact x_zret hQ hx hb hr hlocks hK hP hD hS rfl dX9_isDigit_35 () ((show ((0 : Int32) = 1 ∧ (ix < tn ∧ isDg (fby ix))) ∨ ((0 : Int32) = 0 ∧ (¬ (ix < tn ∧ isDg (fby ix)))) from Or.inr (⟨rfl, (fun h9 => absurd h9.1 (by omega))⟩))) [0, 1] (by decide +kernel) rfl (Nat.le_of_ble_eq_true rfl) (Nat.le_of_ble_eq_true rfl)
  · have q_2 : ix < tn := q_nle (a := tn) (b := ix) rfl rfl (by omega) (by omega) c_1
    refine lv_aload_n hx hb dX9_isDigit_8 rfl (lv_at hl 0 rfl) ?_
    refine va_get (D := D) (ci := 9) (v := .ref t1) (C := RX9) (T := TX9) (N := 8) hx hb hg i_X9 hown hK hP 0 rfl rfl 0 (by decide) (hg _ m_215) (fun _ h9 => h9) rfl dX9_isDigit_9 ?_
    refine lv_iload_n hx hb dX9_isDigit_12 rfl (lv_at hl 1 rfl) ?_
    refine va_bald hx hb hK hP 1 0 rfl rfl (vp_in_nI (by omega) (by decide)) dX9_isDigit_13 ?_
    refine lv_topi (fun y_3 hy_3 => ?_)
    obtain rfl : y_3 = fby ix := hy_3.trans (by rw [nI_clamp (by omega)])
    refine lv_bipush (v := 48) hx hb dX9_isDigit_14 (by decide) ?_
    refine lv_icmp_lt (tgt := 34) hx hb dX9_isDigit_16 (by decide) (fun c_16 => ?_) (fun c_16 => ?_)
    · refine lv_iconst (v := 0) hx hb dX9_isDigit_34 (by decide) ?_
      exact x_zret hQ hx hb hr hlocks hK hP hD hS rfl dX9_isDigit_35 () ((show ((0 : Int32) = 1 ∧ (ix < tn ∧ isDg (fby ix))) ∨ ((0 : Int32) = 0 ∧ (¬ (ix < tn ∧ isDg (fby ix)))) from Or.inr (⟨rfl, (fun h9 => h9.2.1 c_16)⟩))) [0, 1] (by decide +kernel) rfl (Nat.le_of_ble_eq_true rfl) (Nat.le_of_ble_eq_true rfl)
    · refine lv_aload_n hx hb dX9_isDigit_19 rfl (lv_at hl 0 rfl) ?_
      refine va_get (D := D) (ci := 9) (v := .ref t1) (C := RX9) (T := TX9) (N := 8) hx hb hg i_X9 hown hK hP 0 rfl rfl 0 (by decide) (hg _ m_215) (fun _ h9 => h9) rfl dX9_isDigit_20 ?_
      refine lv_iload_n hx hb dX9_isDigit_23 rfl (lv_at hl 1 rfl) ?_
      refine va_bald hx hb hK hP 1 0 rfl rfl (vp_in_nI (by omega) (by decide)) dX9_isDigit_24 ?_
      refine lv_topi (fun y_4 hy_4 => ?_)
      obtain rfl : y_4 = fby ix := hy_4.trans (by rw [nI_clamp (by omega)])
      refine lv_bipush (v := 57) hx hb dX9_isDigit_25 (by decide) ?_
      refine lv_icmp_gt (tgt := 34) hx hb dX9_isDigit_27 (by decide) (fun c_27 => ?_) (fun c_27 => ?_)
      · refine lv_iconst (v := 0) hx hb dX9_isDigit_34 (by decide) ?_
        exact x_zret hQ hx hb hr hlocks hK hP hD hS rfl dX9_isDigit_35 () ((show ((0 : Int32) = 1 ∧ (ix < tn ∧ isDg (fby ix))) ∨ ((0 : Int32) = 0 ∧ (¬ (ix < tn ∧ isDg (fby ix)))) from Or.inr (⟨rfl, (fun h9 => h9.2.2 c_27)⟩))) [0, 1] (by decide +kernel) rfl (Nat.le_of_ble_eq_true rfl) (Nat.le_of_ble_eq_true rfl)
      · refine lv_iconst (v := 1) hx hb dX9_isDigit_30 (by decide) ?_
        refine lv_goto (tgt := 35) hx hb dX9_isDigit_31 (by decide) ?_
        exact x_zret hQ hx hb hr hlocks hK hP hD hS rfl dX9_isDigit_35 () ((show ((1 : Int32) = 1 ∧ (ix < tn ∧ isDg (fby ix))) ∨ ((1 : Int32) = 0 ∧ (¬ (ix < tn ∧ isDg (fby ix)))) from Or.inl ⟨rfl, (⟨by omega, c_16, c_27⟩)⟩)) [0, 1] (by decide +kernel) rfl (Nat.le_of_ble_eq_true rfl) (Nat.le_of_ble_eq_true rfl)
theorem gdX9_kindOf_0 : decode cX9_kindOf 0 = .ok (.iconst 0, 1) ∧ decode cX9_kindOf 1 = .ok (.istore_n 3, 1) ∧ decode cX9_kindOf 2 = .ok (.iload_n 3, 1) ∧ decode cX9_kindOf 3 = .ok (.bipush 24, 2) ∧ decode cX9_kindOf 5 = .ok (.if_icmp .ge 25, 3) ∧ decode cX9_kindOf 30 = .ok (.iconst 1, 1) ∧ decode cX9_kindOf 31 = .ok (.ireturn, 1) ∧ decode cX9_kindOf 8 = .ok (.aload_n 0, 1) ∧ decode cX9_kindOf 9 = .ok (.getfield 15, 3) ∧ decode cX9_kindOf 12 = .ok (.iload_n 3, 1) ∧ decode cX9_kindOf 13 = .ok (.laload, 1) ∧ decode cX9_kindOf 14 = .ok (.lload_n 1, 1) := by decide +kernel
theorem dX9_kindOf_0 : decode cX9_kindOf 0 = .ok (.iconst 0, 1) := gdX9_kindOf_0.1
theorem dX9_kindOf_1 : decode cX9_kindOf 1 = .ok (.istore_n 3, 1) := gdX9_kindOf_0.2.1
theorem dX9_kindOf_2 : decode cX9_kindOf 2 = .ok (.iload_n 3, 1) := gdX9_kindOf_0.2.2.1
theorem dX9_kindOf_3 : decode cX9_kindOf 3 = .ok (.bipush 24, 2) := gdX9_kindOf_0.2.2.2.1
theorem dX9_kindOf_5 : decode cX9_kindOf 5 = .ok (.if_icmp .ge 25, 3) := gdX9_kindOf_0.2.2.2.2.1
theorem dX9_kindOf_30 : decode cX9_kindOf 30 = .ok (.iconst 1, 1) := gdX9_kindOf_0.2.2.2.2.2.1
theorem dX9_kindOf_31 : decode cX9_kindOf 31 = .ok (.ireturn, 1) := gdX9_kindOf_0.2.2.2.2.2.2.1
theorem dX9_kindOf_8 : decode cX9_kindOf 8 = .ok (.aload_n 0, 1) := gdX9_kindOf_0.2.2.2.2.2.2.2.1
theorem dX9_kindOf_9 : decode cX9_kindOf 9 = .ok (.getfield 15, 3) := gdX9_kindOf_0.2.2.2.2.2.2.2.2.1
theorem dX9_kindOf_12 : decode cX9_kindOf 12 = .ok (.iload_n 3, 1) := gdX9_kindOf_0.2.2.2.2.2.2.2.2.2.1
theorem dX9_kindOf_13 : decode cX9_kindOf 13 = .ok (.laload, 1) := gdX9_kindOf_0.2.2.2.2.2.2.2.2.2.2.1
theorem dX9_kindOf_14 : decode cX9_kindOf 14 = .ok (.lload_n 1, 1) := gdX9_kindOf_0.2.2.2.2.2.2.2.2.2.2.2
theorem gdX9_kindOf_15 : decode cX9_kindOf 15 = .ok (.lcmp, 1) ∧ decode cX9_kindOf 16 = .ok (.ifCond .ne 8, 3) ∧ decode cX9_kindOf 24 = .ok (.iinc 3 1, 3) ∧ decode cX9_kindOf 27 = .ok (.goto (-25), 3) ∧ decode cX9_kindOf 19 = .ok (.bipush 100, 2) ∧ decode cX9_kindOf 21 = .ok (.iload_n 3, 1) ∧ decode cX9_kindOf 22 = .ok (.iadd, 1) ∧ decode cX9_kindOf 23 = .ok (.ireturn, 1) := by decide +kernel
theorem dX9_kindOf_15 : decode cX9_kindOf 15 = .ok (.lcmp, 1) := gdX9_kindOf_15.1
theorem dX9_kindOf_16 : decode cX9_kindOf 16 = .ok (.ifCond .ne 8, 3) := gdX9_kindOf_15.2.1
theorem dX9_kindOf_24 : decode cX9_kindOf 24 = .ok (.iinc 3 1, 3) := gdX9_kindOf_15.2.2.1
theorem dX9_kindOf_27 : decode cX9_kindOf 27 = .ok (.goto (-25), 3) := gdX9_kindOf_15.2.2.2.1
theorem dX9_kindOf_19 : decode cX9_kindOf 19 = .ok (.bipush 100, 2) := gdX9_kindOf_15.2.2.2.2.1
theorem dX9_kindOf_21 : decode cX9_kindOf 21 = .ok (.iload_n 3, 1) := gdX9_kindOf_15.2.2.2.2.2.1
theorem dX9_kindOf_22 : decode cX9_kindOf 22 = .ok (.iadd, 1) := gdX9_kindOf_15.2.2.2.2.2.2.1
theorem dX9_kindOf_23 : decode cX9_kindOf 23 = .ok (.ireturn, 1) := gdX9_kindOf_15.2.2.2.2.2.2.2
set_option maxHeartbeats 1000000 in
set_option maxRecDepth 100000 in
theorem s_kindOf (l : Launch) (D : va_G) (cy : Nat → ClassId) (t0 : Nat) (t1 : Nat) (t2 : Nat) (tn : Nat) (ta : Nat) (ts : Nat) (tk : Nat) (tm : Int64) (tr : Int32) (fky : Nat → Int64) (lc : Int64) (hky : kyOK fky) : XMi l D (tyL cy) E0 yX9_kindOf cX9_kindOf 4 (some .int) (rmk 0 0 0) [.ref t0, .long lc] [wO t0 9 [.ref t1, .ref t2, .int (nI tn), .int (nI ta), .int (nI ts), .int (nI tk), .long tm, .int tr], (t2, .inl (cy 2, 24, .inr (.inl (fky))))] (fun (r : Int32) (k : Nat) => (r = nI k) ∧ (k = kof lc)) (fun (k : Nat) => [wO t0 9 [.ref t1, .ref t2, .int (nI tn), .int (nI ta), .int (nI ts), .int (nI tk), .long tm, .int tr], (t2, .inl (cy 2, 24, .inr (.inl (fky))))]) := by
  refine XMi.start (by decide) (Nat.le_of_ble_eq_true rfl) ?_
  intro p e s m below meth c args A ls Q hat hQ
  obtain ⟨hx, hb, hr, hml, hown, hg, hlocks, hin, hK, hA, hP, hD, hS, hE, hl⟩ := hat
  have hown : s.vm.findClass RX9 = some m.cls := hown
  have hl : lv_has ls 4 [(0, .ref t0), (1, .long lc)] := hl
  refine lv_iconst (v := 0) hx hb dX9_kindOf_0 (by decide) ?_
  refine lv_istore_n (lv' := [(3, .int 0), (0, .ref t0), (1, .long lc)]) hx hb dX9_kindOf_1 rfl hl (by decide) rfl (fun ls hl => ?_)
  have loop1 : ∀ (zn : Nat) (i1 : Nat), (i1 ≤ 24) → (kofF kyC lc (24 - i1) i1 = kof lc) → 24 - i1 + 1 ≤ zn → ∀ (H : Heap) (locs : List Loc), va_P D vwCl [wO t0 9 [.ref t1, .ref t2, .int (nI tn), .int (nI ta), .int (nI ts), .int (nI tk), .long tm, .int tr], (t2, .inl (cy 2, 24, .inr (.inl (fky))))] H → va_D A [wO t0 9 [.ref t1, .ref t2, .int (nI tn), .int (nI ta), .int (nI ts), .int (nI tk), .long tm, .int tr], (t2, .inl (cy 2, 24, .inr (.inl (fky))))] → va_S A s.heap H locs → ∀ ls : Array Slot, lv_has ls 4 [(3, .int (nI i1)), (0, .ref t0), (1, .long lc)] → W p l e (rmk 0 0 0) s m args below meth c H locs 0 0 Q (F0 m 2 ls []) := by
    try clear hP hD hS
    intro zn
    induction zn with
    | zero => intro i1 _ _ hz; exact absurd hz (by omega)
    | succ zn ih1 =>
      intro i1 hf0_1 hf1_1 hmu1 H locs hP hD hS ls hl
      refine lv_iload_n hx hb dX9_kindOf_2 rfl (lv_at hl 0 rfl) ?_
      refine lv_bipush (v := 24) hx hb dX9_kindOf_3 (by decide) ?_
      refine lv_icmp_ge (tgt := 30) hx hb dX9_kindOf_5 (by decide) (fun c_2 => ?_) (fun c_2 => ?_)
      · have q_3 : 24 ≤ i1 := q_le (a := 24) (b := i1) rfl rfl (by omega) (by omega) c_2
        refine lv_iconst (v := 1) hx hb dX9_kindOf_30 (by decide) ?_
        exact x_iret hQ hx hb hr hlocks hK hP hD hS dX9_kindOf_31 1 (⟨rfl, (kof_end (i := i1) (by omega) hf1_1)⟩) [0, 1] (by decide +kernel) rfl (Nat.le_of_ble_eq_true rfl) (Nat.le_of_ble_eq_true rfl)
      · have q_3 : i1 < 24 := q_nle (a := 24) (b := i1) rfl rfl (by omega) (by omega) c_2
        refine lv_aload_n hx hb dX9_kindOf_8 rfl (lv_at hl 1 rfl) ?_
        refine va_get (D := D) (ci := 9) (v := .ref t2) (C := RX9) (T := TX9) (N := 8) hx hb hg i_X9 hown hK hP 0 rfl rfl 1 (by decide) (hg _ m_216) (fun _ h9 => h9) rfl dX9_kindOf_9 ?_
        refine lv_iload_n hx hb dX9_kindOf_12 rfl (lv_at hl 0 rfl) ?_
        refine va_lald hx hb hK hP 1 2 rfl rfl (vp_in_nI (by omega) (by decide)) dX9_kindOf_13 ?_
        refine lv_topl (fun z_4 ez_4 => ?_)
        refine lv_lload_n hx hb dX9_kindOf_14 rfl (lv_at hl 2 rfl) ?_
        refine x_lcmp hx hb dX9_kindOf_15 (fun x_5 ex_5 => ?_)
        refine lv_if_ne (tgt := 24) hx hb dX9_kindOf_16 (by decide) (fun c_16 => ?_) (fun c_16 => ?_)
        · refine lv_iinc (v := nI (i1 + 1)) (lv' := [(3, .int (nI (i1 + 1))), (0, .ref t0), (1, .long lc)]) hx hb dX9_kindOf_24 hl (k := 0) rfl (nI_add i1 1) (by decide) rfl (fun ls hl => ?_)
          refine lv_goto (tgt := 2) hx hb dX9_kindOf_27 (by decide) ?_
          exact ih1  ((i1 + 1)) (by omega) (kof_go (i := i1) (by omega) hf1_1 hky ez_4 ex_5 c_16) (by omega) _ _ (hP.sub [0, 1] rfl) (hD.sub [0, 1] (by decide +kernel) rfl) hS ls (lv_sub hl [0, 1, 2] rfl)
        · refine lv_bipush (v := 100) hx hb dX9_kindOf_19 (by decide) ?_
          refine lv_iload_n hx hb dX9_kindOf_21 rfl (lv_at hl 0 rfl) ?_
          refine lv_iadd hx hb dX9_kindOf_22 ?_
          refine lv_topi (fun y_6 hy_6 => ?_)
          obtain rfl : y_6 = nI (100 + i1) := hy_6.trans (nI_add 100 i1)
          exact x_iret hQ hx hb hr hlocks hK hP hD hS dX9_kindOf_23 ((100 + i1)) (⟨rfl, (kof_hit (i := i1) (by omega) hf1_1 hky ez_4 ex_5 c_16)⟩) [0, 1] (by decide +kernel) rfl (Nat.le_of_ble_eq_true rfl) (Nat.le_of_ble_eq_true rfl)
  exact loop1 _ 0 (by omega) (rfl) (Nat.le_refl _) _ _ (hP.sub [0, 1] rfl) (hD.sub [0, 1] (by decide +kernel) rfl) hS ls (lv_sub hl [0, 1, 2] rfl)
theorem gdX9_readWord_0 : decode cX9_readWord 0 = .ok (.aload_n 0, 1) ∧ decode cX9_readWord 1 = .ok (.lconst 0, 1) ∧ decode cX9_readWord 2 = .ok (.putfield 55, 3) ∧ decode cX9_readWord 5 = .ok (.aload_n 0, 1) ∧ decode cX9_readWord 6 = .ok (.getfield 36, 3) ∧ decode cX9_readWord 9 = .ok (.aload_n 0, 1) ∧ decode cX9_readWord 10 = .ok (.getfield 33, 3) ∧ decode cX9_readWord 13 = .ok (.if_icmp .ge 70, 3) ∧ decode cX9_readWord 83 = .ok (.return_, 1) ∧ decode cX9_readWord 16 = .ok (.aload_n 0, 1) ∧ decode cX9_readWord 17 = .ok (.getfield 11, 3) ∧ decode cX9_readWord 20 = .ok (.aload_n 0, 1) := by decide +kernel
theorem dX9_readWord_0 : decode cX9_readWord 0 = .ok (.aload_n 0, 1) := gdX9_readWord_0.1
theorem dX9_readWord_1 : decode cX9_readWord 1 = .ok (.lconst 0, 1) := gdX9_readWord_0.2.1
theorem dX9_readWord_2 : decode cX9_readWord 2 = .ok (.putfield 55, 3) := gdX9_readWord_0.2.2.1
theorem dX9_readWord_5 : decode cX9_readWord 5 = .ok (.aload_n 0, 1) := gdX9_readWord_0.2.2.2.1
theorem dX9_readWord_6 : decode cX9_readWord 6 = .ok (.getfield 36, 3) := gdX9_readWord_0.2.2.2.2.1
theorem dX9_readWord_9 : decode cX9_readWord 9 = .ok (.aload_n 0, 1) := gdX9_readWord_0.2.2.2.2.2.1
theorem dX9_readWord_10 : decode cX9_readWord 10 = .ok (.getfield 33, 3) := gdX9_readWord_0.2.2.2.2.2.2.1
theorem dX9_readWord_13 : decode cX9_readWord 13 = .ok (.if_icmp .ge 70, 3) := gdX9_readWord_0.2.2.2.2.2.2.2.1
theorem dX9_readWord_83 : decode cX9_readWord 83 = .ok (.return_, 1) := gdX9_readWord_0.2.2.2.2.2.2.2.2.1
theorem dX9_readWord_16 : decode cX9_readWord 16 = .ok (.aload_n 0, 1) := gdX9_readWord_0.2.2.2.2.2.2.2.2.2.1
theorem dX9_readWord_17 : decode cX9_readWord 17 = .ok (.getfield 11, 3) := gdX9_readWord_0.2.2.2.2.2.2.2.2.2.2.1
theorem dX9_readWord_20 : decode cX9_readWord 20 = .ok (.aload_n 0, 1) := gdX9_readWord_0.2.2.2.2.2.2.2.2.2.2.2
theorem gdX9_readWord_21 : decode cX9_readWord 21 = .ok (.getfield 36, 3) ∧ decode cX9_readWord 24 = .ok (.baload, 1) ∧ decode cX9_readWord 25 = .ok (.bipush 97, 2) ∧ decode cX9_readWord 27 = .ok (.if_icmp .lt 56, 3) ∧ decode cX9_readWord 30 = .ok (.aload_n 0, 1) ∧ decode cX9_readWord 31 = .ok (.getfield 11, 3) ∧ decode cX9_readWord 34 = .ok (.aload_n 0, 1) ∧ decode cX9_readWord 35 = .ok (.getfield 36, 3) ∧ decode cX9_readWord 38 = .ok (.baload, 1) ∧ decode cX9_readWord 39 = .ok (.bipush 122, 2) ∧ decode cX9_readWord 41 = .ok (.if_icmp .gt 42, 3) ∧ decode cX9_readWord 44 = .ok (.aload_n 0, 1) := by decide +kernel
theorem dX9_readWord_21 : decode cX9_readWord 21 = .ok (.getfield 36, 3) := gdX9_readWord_21.1
theorem dX9_readWord_24 : decode cX9_readWord 24 = .ok (.baload, 1) := gdX9_readWord_21.2.1
theorem dX9_readWord_25 : decode cX9_readWord 25 = .ok (.bipush 97, 2) := gdX9_readWord_21.2.2.1
theorem dX9_readWord_27 : decode cX9_readWord 27 = .ok (.if_icmp .lt 56, 3) := gdX9_readWord_21.2.2.2.1
theorem dX9_readWord_30 : decode cX9_readWord 30 = .ok (.aload_n 0, 1) := gdX9_readWord_21.2.2.2.2.1
theorem dX9_readWord_31 : decode cX9_readWord 31 = .ok (.getfield 11, 3) := gdX9_readWord_21.2.2.2.2.2.1
theorem dX9_readWord_34 : decode cX9_readWord 34 = .ok (.aload_n 0, 1) := gdX9_readWord_21.2.2.2.2.2.2.1
theorem dX9_readWord_35 : decode cX9_readWord 35 = .ok (.getfield 36, 3) := gdX9_readWord_21.2.2.2.2.2.2.2.1
theorem dX9_readWord_38 : decode cX9_readWord 38 = .ok (.baload, 1) := gdX9_readWord_21.2.2.2.2.2.2.2.2.1
theorem dX9_readWord_39 : decode cX9_readWord 39 = .ok (.bipush 122, 2) := gdX9_readWord_21.2.2.2.2.2.2.2.2.2.1
theorem dX9_readWord_41 : decode cX9_readWord 41 = .ok (.if_icmp .gt 42, 3) := gdX9_readWord_21.2.2.2.2.2.2.2.2.2.2.1
theorem dX9_readWord_44 : decode cX9_readWord 44 = .ok (.aload_n 0, 1) := gdX9_readWord_21.2.2.2.2.2.2.2.2.2.2.2
theorem gdX9_readWord_45 : decode cX9_readWord 45 = .ok (.aload_n 0, 1) ∧ decode cX9_readWord 46 = .ok (.getfield 55, 3) ∧ decode cX9_readWord 49 = .ok (.ldc2_w 31, 3) ∧ decode cX9_readWord 52 = .ok (.lmul, 1) ∧ decode cX9_readWord 53 = .ok (.aload_n 0, 1) ∧ decode cX9_readWord 54 = .ok (.getfield 11, 3) ∧ decode cX9_readWord 57 = .ok (.aload_n 0, 1) ∧ decode cX9_readWord 58 = .ok (.getfield 36, 3) ∧ decode cX9_readWord 61 = .ok (.baload, 1) ∧ decode cX9_readWord 62 = .ok (.bipush 96, 2) ∧ decode cX9_readWord 64 = .ok (.isub, 1) ∧ decode cX9_readWord 65 = .ok (.i2l, 1) := by decide +kernel
theorem dX9_readWord_45 : decode cX9_readWord 45 = .ok (.aload_n 0, 1) := gdX9_readWord_45.1
theorem dX9_readWord_46 : decode cX9_readWord 46 = .ok (.getfield 55, 3) := gdX9_readWord_45.2.1
theorem dX9_readWord_49 : decode cX9_readWord 49 = .ok (.ldc2_w 31, 3) := gdX9_readWord_45.2.2.1
theorem dX9_readWord_52 : decode cX9_readWord 52 = .ok (.lmul, 1) := gdX9_readWord_45.2.2.2.1
theorem dX9_readWord_53 : decode cX9_readWord 53 = .ok (.aload_n 0, 1) := gdX9_readWord_45.2.2.2.2.1
theorem dX9_readWord_54 : decode cX9_readWord 54 = .ok (.getfield 11, 3) := gdX9_readWord_45.2.2.2.2.2.1
theorem dX9_readWord_57 : decode cX9_readWord 57 = .ok (.aload_n 0, 1) := gdX9_readWord_45.2.2.2.2.2.2.1
theorem dX9_readWord_58 : decode cX9_readWord 58 = .ok (.getfield 36, 3) := gdX9_readWord_45.2.2.2.2.2.2.2.1
theorem dX9_readWord_61 : decode cX9_readWord 61 = .ok (.baload, 1) := gdX9_readWord_45.2.2.2.2.2.2.2.2.1
theorem dX9_readWord_62 : decode cX9_readWord 62 = .ok (.bipush 96, 2) := gdX9_readWord_45.2.2.2.2.2.2.2.2.2.1
theorem dX9_readWord_64 : decode cX9_readWord 64 = .ok (.isub, 1) := gdX9_readWord_45.2.2.2.2.2.2.2.2.2.2.1
theorem dX9_readWord_65 : decode cX9_readWord 65 = .ok (.i2l, 1) := gdX9_readWord_45.2.2.2.2.2.2.2.2.2.2.2
theorem gdX9_readWord_66 : decode cX9_readWord 66 = .ok (.ladd, 1) ∧ decode cX9_readWord 67 = .ok (.putfield 55, 3) ∧ decode cX9_readWord 70 = .ok (.aload_n 0, 1) ∧ decode cX9_readWord 71 = .ok (.dup, 1) ∧ decode cX9_readWord 72 = .ok (.getfield 36, 3) ∧ decode cX9_readWord 75 = .ok (.iconst 1, 1) ∧ decode cX9_readWord 76 = .ok (.iadd, 1) ∧ decode cX9_readWord 77 = .ok (.putfield 36, 3) ∧ decode cX9_readWord 80 = .ok (.goto (-75), 3) := by decide +kernel
theorem dX9_readWord_66 : decode cX9_readWord 66 = .ok (.ladd, 1) := gdX9_readWord_66.1
theorem dX9_readWord_67 : decode cX9_readWord 67 = .ok (.putfield 55, 3) := gdX9_readWord_66.2.1
theorem dX9_readWord_70 : decode cX9_readWord 70 = .ok (.aload_n 0, 1) := gdX9_readWord_66.2.2.1
theorem dX9_readWord_71 : decode cX9_readWord 71 = .ok (.dup, 1) := gdX9_readWord_66.2.2.2.1
theorem dX9_readWord_72 : decode cX9_readWord 72 = .ok (.getfield 36, 3) := gdX9_readWord_66.2.2.2.2.1
theorem dX9_readWord_75 : decode cX9_readWord 75 = .ok (.iconst 1, 1) := gdX9_readWord_66.2.2.2.2.2.1
theorem dX9_readWord_76 : decode cX9_readWord 76 = .ok (.iadd, 1) := gdX9_readWord_66.2.2.2.2.2.2.1
theorem dX9_readWord_77 : decode cX9_readWord 77 = .ok (.putfield 36, 3) := gdX9_readWord_66.2.2.2.2.2.2.2.1
theorem dX9_readWord_80 : decode cX9_readWord 80 = .ok (.goto (-75), 3) := gdX9_readWord_66.2.2.2.2.2.2.2.2
set_option maxHeartbeats 1000000 in
set_option maxRecDepth 100000 in
theorem s_readWord (l : Launch) (D : va_G) (cy : Nat → ClassId) (t0 : Nat) (t1 : Nat) (t2 : Nat) (tn : Nat) (ta : Nat) (ts : Nat) (tk : Nat) (tm : Int64) (tr : Int32) (fby : Nat → Int32) (htn : tn ≤ 1600) (hta : ta ≤ tn) : XMv l D (tyL cy) E0 yX9_readWord cX9_readWord 1 none (rmk 0 0 0) [.ref t0] [wO t0 9 [.ref t1, .ref t2, .int (nI tn), .int (nI ta), .int (nI ts), .int (nI tk), .long tm, .int tr], wI (cy 0) t1 1600 (fby)] (fun (u : Nat × Int64) => (ta ≤ u.1) ∧ (u.1 ≤ tn) ∧ (u.1 = wen fby tn ta) ∧ (u.2 = c27 fby ta (u.1 - ta))) (fun (u : Nat × Int64) => [wO t0 9 [.ref t1, .ref t2, .int (nI tn), .int (nI u.1), .int (nI ts), .int (nI tk), .long u.2, .int tr], wI (cy 0) t1 1600 (fby)]) := by
  refine XMv.start (by decide) (Nat.le_of_ble_eq_true rfl) ?_
  intro p e s m below meth c args A ls Q hat hQ
  obtain ⟨hx, hb, hr, hml, hown, hg, hlocks, hin, hK, hA, hP, hD, hS, hE, hl⟩ := hat
  have hown : s.vm.findClass RX9 = some m.cls := hown
  have hl : lv_has ls 1 [(0, .ref t0)] := hl
  refine lv_aload_n hx hb dX9_readWord_0 rfl (lv_at hl 0 rfl) ?_
  refine lv_lconst (v := 0) hx hb dX9_readWord_1 (by decide) ?_
  refine va_put (D := D) (ci := 9) (v := .long 0) (ty := .long) (C := RX9) (T := TX9) (N := 8) hx hb hg i_X9 tyX9 tyX9_ok nmX9 hown hK hP hD hS 0 rfl rfl 6 (by decide) (hg _ m_224) (fun _ h9 => h9) rfl (by decide +kernel) rfl rfl (Nat.le_of_ble_eq_true rfl) dX9_readWord_2 (fun H locs hP9 hD9 hS9 => ?_)
  clear hP hD hS
  refine reW [wO t0 9 [.ref t1, .ref t2, .int (nI tn), .int (nI ta), .int (nI ts), .int (nI tk), .long 0, .int tr], wI (cy 0) t1 1600 (fby)] hP9 hD9 hS9 (fun hP hD hS => ?_)
  clear hP9 hD9 hS9
  have loop1 : ∀ (zn : Nat) (aq1 : Nat) (fl1_1 : Int64), (aq1 ≤ tn) → (ta ≤ aq1) → (wen fby tn aq1 = wen fby tn ta) → (fl1_1 = c27 fby ta (aq1 - ta)) → tn - aq1 + 1 ≤ zn → ∀ (H : Heap) (locs : List Loc), va_P D vwCl [wO t0 9 [.ref t1, .ref t2, .int (nI tn), .int (nI aq1), .int (nI ts), .int (nI tk), .long fl1_1, .int tr], wI (cy 0) t1 1600 (fby)] H → va_D A [wO t0 9 [.ref t1, .ref t2, .int (nI tn), .int (nI aq1), .int (nI ts), .int (nI tk), .long fl1_1, .int tr], wI (cy 0) t1 1600 (fby)] → va_S A s.heap H locs → ∀ ls : Array Slot, lv_has ls 1 [(0, .ref t0)] → W p l e (rmk 0 0 0) s m args below meth c H locs 0 0 Q (F0 m 5 ls []) := by
    try clear hP hD hS
    intro zn
    induction zn with
    | zero => intro aq1 fl1_1 _ _ _ _ hz; exact absurd hz (by omega)
    | succ zn ih1 =>
      intro aq1 fl1_1 hf0_1 hf1_1 hf2_1 hf3_1 hmu1 H locs hP hD hS ls hl
      refine lv_aload_n hx hb dX9_readWord_5 rfl (lv_at hl 0 rfl) ?_
      refine va_get (D := D) (ci := 9) (v := .int (nI aq1)) (C := RX9) (T := TX9) (N := 8) hx hb hg i_X9 hown hK hP 0 rfl rfl 3 (by decide) (hg _ m_219) (fun _ h9 => h9) rfl dX9_readWord_6 ?_
      refine lv_aload_n hx hb dX9_readWord_9 rfl (lv_at hl 0 rfl) ?_
      refine va_get (D := D) (ci := 9) (v := .int (nI tn)) (C := RX9) (T := TX9) (N := 8) hx hb hg i_X9 hown hK hP 0 rfl rfl 2 (by decide) (hg _ m_218) (fun _ h9 => h9) rfl dX9_readWord_10 ?_
      refine lv_icmp_ge (tgt := 83) hx hb dX9_readWord_13 (by decide) (fun c_2 => ?_) (fun c_2 => ?_)
      · have q_3 : tn ≤ aq1 := q_le (a := tn) (b := aq1) rfl rfl (by omega) (by omega) c_2
        exact x_vret hQ hx hb hr hlocks hK hP hD hS dX9_readWord_83 (aq1, fl1_1) (⟨(show ta ≤ aq1 from by omega), (show aq1 ≤ tn from by omega), (show aq1 = wen fby tn ta from (wen_no (Or.inl (by omega))).symm.trans hf2_1), hf3_1⟩) [0, 1] (by decide +kernel) rfl (Nat.le_of_ble_eq_true rfl) (Nat.le_of_ble_eq_true rfl)
      · have q_3 : aq1 < tn := q_nle (a := tn) (b := aq1) rfl rfl (by omega) (by omega) c_2
        refine lv_aload_n hx hb dX9_readWord_16 rfl (lv_at hl 0 rfl) ?_
        refine va_get (D := D) (ci := 9) (v := .ref t1) (C := RX9) (T := TX9) (N := 8) hx hb hg i_X9 hown hK hP 0 rfl rfl 0 (by decide) (hg _ m_215) (fun _ h9 => h9) rfl dX9_readWord_17 ?_
        refine lv_aload_n hx hb dX9_readWord_20 rfl (lv_at hl 0 rfl) ?_
        refine va_get (D := D) (ci := 9) (v := .int (nI aq1)) (C := RX9) (T := TX9) (N := 8) hx hb hg i_X9 hown hK hP 0 rfl rfl 3 (by decide) (hg _ m_219) (fun _ h9 => h9) rfl dX9_readWord_21 ?_
        refine va_bald hx hb hK hP 1 0 rfl rfl (vp_in_nI (by omega) (by decide)) dX9_readWord_24 ?_
        refine lv_topi (fun y_4 hy_4 => ?_)
        obtain rfl : y_4 = fby aq1 := hy_4.trans (by rw [nI_clamp (by omega)])
        refine lv_bipush (v := 97) hx hb dX9_readWord_25 (by decide) ?_
        refine lv_icmp_lt (tgt := 83) hx hb dX9_readWord_27 (by decide) (fun c_27 => ?_) (fun c_27 => ?_)
        · exact x_vret hQ hx hb hr hlocks hK hP hD hS dX9_readWord_83 (aq1, fl1_1) (⟨(show ta ≤ aq1 from by omega), (show aq1 ≤ tn from by omega), (show aq1 = wen fby tn ta from (wen_no (Or.inr (fun h9 => h9.1 c_27))).symm.trans hf2_1), hf3_1⟩) [0, 1] (by decide +kernel) rfl (Nat.le_of_ble_eq_true rfl) (Nat.le_of_ble_eq_true rfl)
        · refine lv_aload_n hx hb dX9_readWord_30 rfl (lv_at hl 0 rfl) ?_
          refine va_get (D := D) (ci := 9) (v := .ref t1) (C := RX9) (T := TX9) (N := 8) hx hb hg i_X9 hown hK hP 0 rfl rfl 0 (by decide) (hg _ m_215) (fun _ h9 => h9) rfl dX9_readWord_31 ?_
          refine lv_aload_n hx hb dX9_readWord_34 rfl (lv_at hl 0 rfl) ?_
          refine va_get (D := D) (ci := 9) (v := .int (nI aq1)) (C := RX9) (T := TX9) (N := 8) hx hb hg i_X9 hown hK hP 0 rfl rfl 3 (by decide) (hg _ m_219) (fun _ h9 => h9) rfl dX9_readWord_35 ?_
          refine va_bald hx hb hK hP 1 0 rfl rfl (vp_in_nI (by omega) (by decide)) dX9_readWord_38 ?_
          refine lv_topi (fun y_5 hy_5 => ?_)
          obtain rfl : y_5 = fby aq1 := hy_5.trans (by rw [nI_clamp (by omega)])
          refine lv_bipush (v := 122) hx hb dX9_readWord_39 (by decide) ?_
          refine lv_icmp_gt (tgt := 83) hx hb dX9_readWord_41 (by decide) (fun c_41 => ?_) (fun c_41 => ?_)
          · exact x_vret hQ hx hb hr hlocks hK hP hD hS dX9_readWord_83 (aq1, fl1_1) (⟨(show ta ≤ aq1 from by omega), (show aq1 ≤ tn from by omega), (show aq1 = wen fby tn ta from (wen_no (Or.inr (fun h9 => h9.2 c_41))).symm.trans hf2_1), hf3_1⟩) [0, 1] (by decide +kernel) rfl (Nat.le_of_ble_eq_true rfl) (Nat.le_of_ble_eq_true rfl)
          · refine lv_aload_n hx hb dX9_readWord_44 rfl (lv_at hl 0 rfl) ?_
            refine lv_aload_n hx hb dX9_readWord_45 rfl (lv_at hl 0 rfl) ?_
            refine va_get (D := D) (ci := 9) (v := .long fl1_1) (C := RX9) (T := TX9) (N := 8) hx hb hg i_X9 hown hK hP 0 rfl rfl 6 (by decide) (hg _ m_224) (fun _ h9 => h9) rfl dX9_readWord_46 ?_
            refine lv_ldc2 (v := 27) hx hb hown (hg _ m_214) dX9_readWord_49 ?_
            refine lv_lmul hx hb dX9_readWord_52 ?_
            refine lv_topl (fun z_6 ez_6 => ?_)
            refine lv_aload_n hx hb dX9_readWord_53 rfl (lv_at hl 0 rfl) ?_
            refine va_get (D := D) (ci := 9) (v := .ref t1) (C := RX9) (T := TX9) (N := 8) hx hb hg i_X9 hown hK hP 0 rfl rfl 0 (by decide) (hg _ m_215) (fun _ h9 => h9) rfl dX9_readWord_54 ?_
            refine lv_aload_n hx hb dX9_readWord_57 rfl (lv_at hl 0 rfl) ?_
            refine va_get (D := D) (ci := 9) (v := .int (nI aq1)) (C := RX9) (T := TX9) (N := 8) hx hb hg i_X9 hown hK hP 0 rfl rfl 3 (by decide) (hg _ m_219) (fun _ h9 => h9) rfl dX9_readWord_58 ?_
            refine va_bald hx hb hK hP 1 0 rfl rfl (vp_in_nI (by omega) (by decide)) dX9_readWord_61 ?_
            refine lv_topi (fun y_7 hy_7 => ?_)
            obtain rfl : y_7 = fby aq1 := hy_7.trans (by rw [nI_clamp (by omega)])
            refine lv_bipush (v := 96) hx hb dX9_readWord_62 (by decide) ?_
            refine lv_isub hx hb dX9_readWord_64 ?_
            refine lv_topi (fun x_8 ex_8 => ?_)
            obtain ⟨z_9, ez_9⟩ : ∃ y : Int64, (x_8 : Int32).toInt64 = y := ⟨_, rfl⟩
            refine lv_i2l (v := z_9) hx hb dX9_readWord_65 ez_9 ?_
            refine lv_ladd hx hb dX9_readWord_66 ?_
            refine lv_topl (fun z_10 ez_10 => ?_)
            refine va_put (D := D) (ci := 9) (v := .long z_10) (ty := .long) (C := RX9) (T := TX9) (N := 8) hx hb hg i_X9 tyX9 tyX9_ok nmX9 hown hK hP hD hS 0 rfl rfl 6 (by decide) (hg _ m_224) (fun _ h9 => h9) rfl (by decide +kernel) rfl rfl (Nat.le_of_ble_eq_true rfl) dX9_readWord_67 (fun H locs hP9 hD9 hS9 => ?_)
            clear hP hD hS
            refine reW [wO t0 9 [.ref t1, .ref t2, .int (nI tn), .int (nI aq1), .int (nI ts), .int (nI tk), .long z_10, .int tr], wI (cy 0) t1 1600 (fby)] hP9 hD9 hS9 (fun hP hD hS => ?_)
            clear hP9 hD9 hS9
            refine lv_aload_n hx hb dX9_readWord_70 rfl (lv_at hl 0 rfl) ?_
            refine lv_dup hx hb dX9_readWord_71 rfl ?_
            refine va_get (D := D) (ci := 9) (v := .int (nI aq1)) (C := RX9) (T := TX9) (N := 8) hx hb hg i_X9 hown hK hP 0 rfl rfl 3 (by decide) (hg _ m_219) (fun _ h9 => h9) rfl dX9_readWord_72 ?_
            refine lv_iconst (v := 1) hx hb dX9_readWord_75 (by decide) ?_
            refine lv_iadd hx hb dX9_readWord_76 ?_
            refine lv_topi (fun y_11 hy_11 => ?_)
            obtain rfl : y_11 = nI (aq1 + 1) := hy_11.trans (nI_add aq1 1)
            refine va_put (D := D) (ci := 9) (v := .int (nI (aq1 + 1))) (ty := .int) (C := RX9) (T := TX9) (N := 8) hx hb hg i_X9 tyX9 tyX9_ok nmX9 hown hK hP hD hS 0 rfl rfl 3 (by decide) (hg _ m_219) (fun _ h9 => h9) rfl (by decide +kernel) rfl rfl (Nat.le_of_ble_eq_true rfl) dX9_readWord_77 (fun H locs hP9 hD9 hS9 => ?_)
            clear hP hD hS
            refine reW [wO t0 9 [.ref t1, .ref t2, .int (nI tn), .int (nI (aq1 + 1)), .int (nI ts), .int (nI tk), .long z_10, .int tr], wI (cy 0) t1 1600 (fby)] hP9 hD9 hS9 (fun hP hD hS => ?_)
            clear hP9 hD9 hS9
            refine lv_goto (tgt := 5) hx hb dX9_readWord_80 (by decide) ?_
            exact ih1  ((aq1 + 1)) z_10 (by omega) (by omega) ((wen_go (by omega) ⟨c_27, c_41⟩).symm.trans hf2_1) (by rw [ez_10, ez_6, ← ez_9, ex_8]; exact c27_go (by omega) hf3_1) (by omega) _ _ (hP.sub [0, 1] rfl) (hD.sub [0, 1] (by decide +kernel) rfl) hS ls (lv_sub hl [0] rfl)
  exact loop1 _ ta 0 (by omega) (by omega) (rfl) (by rw [Nat.sub_self]; rfl) (Nat.le_refl _) _ _ (hP.sub [0, 1] rfl) (hD.sub [0, 1] (by decide +kernel) rfl) hS ls (lv_sub hl [0] rfl)
theorem gdX9_readNumber_0 : decode cX9_readNumber 0 = .ok (.aload_n 0, 1) ∧ decode cX9_readNumber 1 = .ok (.iconst 0, 1) ∧ decode cX9_readNumber 2 = .ok (.putfield 75, 3) ∧ decode cX9_readNumber 5 = .ok (.aload_n 0, 1) ∧ decode cX9_readNumber 6 = .ok (.getfield 36, 3) ∧ decode cX9_readNumber 9 = .ok (.aload_n 0, 1) ∧ decode cX9_readNumber 10 = .ok (.getfield 33, 3) ∧ decode cX9_readNumber 13 = .ok (.if_icmp .ge 68, 3) ∧ decode cX9_readNumber 81 = .ok (.return_, 1) ∧ decode cX9_readNumber 16 = .ok (.aload_n 0, 1) ∧ decode cX9_readNumber 17 = .ok (.getfield 11, 3) ∧ decode cX9_readNumber 20 = .ok (.aload_n 0, 1) := by decide +kernel
theorem dX9_readNumber_0 : decode cX9_readNumber 0 = .ok (.aload_n 0, 1) := gdX9_readNumber_0.1
theorem dX9_readNumber_1 : decode cX9_readNumber 1 = .ok (.iconst 0, 1) := gdX9_readNumber_0.2.1
theorem dX9_readNumber_2 : decode cX9_readNumber 2 = .ok (.putfield 75, 3) := gdX9_readNumber_0.2.2.1
theorem dX9_readNumber_5 : decode cX9_readNumber 5 = .ok (.aload_n 0, 1) := gdX9_readNumber_0.2.2.2.1
theorem dX9_readNumber_6 : decode cX9_readNumber 6 = .ok (.getfield 36, 3) := gdX9_readNumber_0.2.2.2.2.1
theorem dX9_readNumber_9 : decode cX9_readNumber 9 = .ok (.aload_n 0, 1) := gdX9_readNumber_0.2.2.2.2.2.1
theorem dX9_readNumber_10 : decode cX9_readNumber 10 = .ok (.getfield 33, 3) := gdX9_readNumber_0.2.2.2.2.2.2.1
theorem dX9_readNumber_13 : decode cX9_readNumber 13 = .ok (.if_icmp .ge 68, 3) := gdX9_readNumber_0.2.2.2.2.2.2.2.1
theorem dX9_readNumber_81 : decode cX9_readNumber 81 = .ok (.return_, 1) := gdX9_readNumber_0.2.2.2.2.2.2.2.2.1
theorem dX9_readNumber_16 : decode cX9_readNumber 16 = .ok (.aload_n 0, 1) := gdX9_readNumber_0.2.2.2.2.2.2.2.2.2.1
theorem dX9_readNumber_17 : decode cX9_readNumber 17 = .ok (.getfield 11, 3) := gdX9_readNumber_0.2.2.2.2.2.2.2.2.2.2.1
theorem dX9_readNumber_20 : decode cX9_readNumber 20 = .ok (.aload_n 0, 1) := gdX9_readNumber_0.2.2.2.2.2.2.2.2.2.2.2
theorem gdX9_readNumber_21 : decode cX9_readNumber 21 = .ok (.getfield 36, 3) ∧ decode cX9_readNumber 24 = .ok (.baload, 1) ∧ decode cX9_readNumber 25 = .ok (.bipush 48, 2) ∧ decode cX9_readNumber 27 = .ok (.if_icmp .lt 54, 3) ∧ decode cX9_readNumber 30 = .ok (.aload_n 0, 1) ∧ decode cX9_readNumber 31 = .ok (.getfield 11, 3) ∧ decode cX9_readNumber 34 = .ok (.aload_n 0, 1) ∧ decode cX9_readNumber 35 = .ok (.getfield 36, 3) ∧ decode cX9_readNumber 38 = .ok (.baload, 1) ∧ decode cX9_readNumber 39 = .ok (.bipush 57, 2) ∧ decode cX9_readNumber 41 = .ok (.if_icmp .gt 40, 3) ∧ decode cX9_readNumber 44 = .ok (.aload_n 0, 1) := by decide +kernel
theorem dX9_readNumber_21 : decode cX9_readNumber 21 = .ok (.getfield 36, 3) := gdX9_readNumber_21.1
theorem dX9_readNumber_24 : decode cX9_readNumber 24 = .ok (.baload, 1) := gdX9_readNumber_21.2.1
theorem dX9_readNumber_25 : decode cX9_readNumber 25 = .ok (.bipush 48, 2) := gdX9_readNumber_21.2.2.1
theorem dX9_readNumber_27 : decode cX9_readNumber 27 = .ok (.if_icmp .lt 54, 3) := gdX9_readNumber_21.2.2.2.1
theorem dX9_readNumber_30 : decode cX9_readNumber 30 = .ok (.aload_n 0, 1) := gdX9_readNumber_21.2.2.2.2.1
theorem dX9_readNumber_31 : decode cX9_readNumber 31 = .ok (.getfield 11, 3) := gdX9_readNumber_21.2.2.2.2.2.1
theorem dX9_readNumber_34 : decode cX9_readNumber 34 = .ok (.aload_n 0, 1) := gdX9_readNumber_21.2.2.2.2.2.2.1
theorem dX9_readNumber_35 : decode cX9_readNumber 35 = .ok (.getfield 36, 3) := gdX9_readNumber_21.2.2.2.2.2.2.2.1
theorem dX9_readNumber_38 : decode cX9_readNumber 38 = .ok (.baload, 1) := gdX9_readNumber_21.2.2.2.2.2.2.2.2.1
theorem dX9_readNumber_39 : decode cX9_readNumber 39 = .ok (.bipush 57, 2) := gdX9_readNumber_21.2.2.2.2.2.2.2.2.2.1
theorem dX9_readNumber_41 : decode cX9_readNumber 41 = .ok (.if_icmp .gt 40, 3) := gdX9_readNumber_21.2.2.2.2.2.2.2.2.2.2.1
theorem dX9_readNumber_44 : decode cX9_readNumber 44 = .ok (.aload_n 0, 1) := gdX9_readNumber_21.2.2.2.2.2.2.2.2.2.2.2
theorem gdX9_readNumber_45 : decode cX9_readNumber 45 = .ok (.aload_n 0, 1) ∧ decode cX9_readNumber 46 = .ok (.getfield 75, 3) ∧ decode cX9_readNumber 49 = .ok (.bipush 10, 2) ∧ decode cX9_readNumber 51 = .ok (.imul, 1) ∧ decode cX9_readNumber 52 = .ok (.aload_n 0, 1) ∧ decode cX9_readNumber 53 = .ok (.getfield 11, 3) ∧ decode cX9_readNumber 56 = .ok (.aload_n 0, 1) ∧ decode cX9_readNumber 57 = .ok (.getfield 36, 3) ∧ decode cX9_readNumber 60 = .ok (.baload, 1) ∧ decode cX9_readNumber 61 = .ok (.bipush 48, 2) ∧ decode cX9_readNumber 63 = .ok (.isub, 1) ∧ decode cX9_readNumber 64 = .ok (.iadd, 1) := by decide +kernel
theorem dX9_readNumber_45 : decode cX9_readNumber 45 = .ok (.aload_n 0, 1) := gdX9_readNumber_45.1
theorem dX9_readNumber_46 : decode cX9_readNumber 46 = .ok (.getfield 75, 3) := gdX9_readNumber_45.2.1
theorem dX9_readNumber_49 : decode cX9_readNumber 49 = .ok (.bipush 10, 2) := gdX9_readNumber_45.2.2.1
theorem dX9_readNumber_51 : decode cX9_readNumber 51 = .ok (.imul, 1) := gdX9_readNumber_45.2.2.2.1
theorem dX9_readNumber_52 : decode cX9_readNumber 52 = .ok (.aload_n 0, 1) := gdX9_readNumber_45.2.2.2.2.1
theorem dX9_readNumber_53 : decode cX9_readNumber 53 = .ok (.getfield 11, 3) := gdX9_readNumber_45.2.2.2.2.2.1
theorem dX9_readNumber_56 : decode cX9_readNumber 56 = .ok (.aload_n 0, 1) := gdX9_readNumber_45.2.2.2.2.2.2.1
theorem dX9_readNumber_57 : decode cX9_readNumber 57 = .ok (.getfield 36, 3) := gdX9_readNumber_45.2.2.2.2.2.2.2.1
theorem dX9_readNumber_60 : decode cX9_readNumber 60 = .ok (.baload, 1) := gdX9_readNumber_45.2.2.2.2.2.2.2.2.1
theorem dX9_readNumber_61 : decode cX9_readNumber 61 = .ok (.bipush 48, 2) := gdX9_readNumber_45.2.2.2.2.2.2.2.2.2.1
theorem dX9_readNumber_63 : decode cX9_readNumber 63 = .ok (.isub, 1) := gdX9_readNumber_45.2.2.2.2.2.2.2.2.2.2.1
theorem dX9_readNumber_64 : decode cX9_readNumber 64 = .ok (.iadd, 1) := gdX9_readNumber_45.2.2.2.2.2.2.2.2.2.2.2
theorem gdX9_readNumber_65 : decode cX9_readNumber 65 = .ok (.putfield 75, 3) ∧ decode cX9_readNumber 68 = .ok (.aload_n 0, 1) ∧ decode cX9_readNumber 69 = .ok (.dup, 1) ∧ decode cX9_readNumber 70 = .ok (.getfield 36, 3) ∧ decode cX9_readNumber 73 = .ok (.iconst 1, 1) ∧ decode cX9_readNumber 74 = .ok (.iadd, 1) ∧ decode cX9_readNumber 75 = .ok (.putfield 36, 3) ∧ decode cX9_readNumber 78 = .ok (.goto (-73), 3) := by decide +kernel
theorem dX9_readNumber_65 : decode cX9_readNumber 65 = .ok (.putfield 75, 3) := gdX9_readNumber_65.1
theorem dX9_readNumber_68 : decode cX9_readNumber 68 = .ok (.aload_n 0, 1) := gdX9_readNumber_65.2.1
theorem dX9_readNumber_69 : decode cX9_readNumber 69 = .ok (.dup, 1) := gdX9_readNumber_65.2.2.1
theorem dX9_readNumber_70 : decode cX9_readNumber 70 = .ok (.getfield 36, 3) := gdX9_readNumber_65.2.2.2.1
theorem dX9_readNumber_73 : decode cX9_readNumber 73 = .ok (.iconst 1, 1) := gdX9_readNumber_65.2.2.2.2.1
theorem dX9_readNumber_74 : decode cX9_readNumber 74 = .ok (.iadd, 1) := gdX9_readNumber_65.2.2.2.2.2.1
theorem dX9_readNumber_75 : decode cX9_readNumber 75 = .ok (.putfield 36, 3) := gdX9_readNumber_65.2.2.2.2.2.2.1
theorem dX9_readNumber_78 : decode cX9_readNumber 78 = .ok (.goto (-73), 3) := gdX9_readNumber_65.2.2.2.2.2.2.2
set_option maxHeartbeats 1000000 in
set_option maxRecDepth 100000 in
theorem s_readNumber (l : Launch) (D : va_G) (cy : Nat → ClassId) (t0 : Nat) (t1 : Nat) (t2 : Nat) (tn : Nat) (ta : Nat) (ts : Nat) (tk : Nat) (tm : Int64) (tr : Int32) (fby : Nat → Int32) (htn : tn ≤ 1600) (hta : ta ≤ tn) : XMv l D (tyL cy) E0 yX9_readNumber cX9_readNumber 1 none (rmk 0 0 0) [.ref t0] [wO t0 9 [.ref t1, .ref t2, .int (nI tn), .int (nI ta), .int (nI ts), .int (nI tk), .long tm, .int tr], wI (cy 0) t1 1600 (fby)] (fun (u : Nat × Int32) => (ta ≤ u.1) ∧ (u.1 ≤ tn) ∧ (u.1 = den fby tn ta) ∧ (u.2 = dec10 fby ta (u.1 - ta))) (fun (u : Nat × Int32) => [wO t0 9 [.ref t1, .ref t2, .int (nI tn), .int (nI u.1), .int (nI ts), .int (nI tk), .long tm, .int u.2], wI (cy 0) t1 1600 (fby)]) := by
  refine XMv.start (by decide) (Nat.le_of_ble_eq_true rfl) ?_
  intro p e s m below meth c args A ls Q hat hQ
  obtain ⟨hx, hb, hr, hml, hown, hg, hlocks, hin, hK, hA, hP, hD, hS, hE, hl⟩ := hat
  have hown : s.vm.findClass RX9 = some m.cls := hown
  have hl : lv_has ls 1 [(0, .ref t0)] := hl
  refine lv_aload_n hx hb dX9_readNumber_0 rfl (lv_at hl 0 rfl) ?_
  refine lv_iconst (v := 0) hx hb dX9_readNumber_1 (by decide) ?_
  refine va_put (D := D) (ci := 9) (v := .int 0) (ty := .int) (C := RX9) (T := TX9) (N := 8) hx hb hg i_X9 tyX9 tyX9_ok nmX9 hown hK hP hD hS 0 rfl rfl 7 (by decide) (hg _ m_226) (fun _ h9 => h9) rfl (by decide +kernel) rfl rfl (Nat.le_of_ble_eq_true rfl) dX9_readNumber_2 (fun H locs hP9 hD9 hS9 => ?_)
  clear hP hD hS
  refine reW [wO t0 9 [.ref t1, .ref t2, .int (nI tn), .int (nI ta), .int (nI ts), .int (nI tk), .long tm, .int 0], wI (cy 0) t1 1600 (fby)] hP9 hD9 hS9 (fun hP hD hS => ?_)
  clear hP9 hD9 hS9
  have loop1 : ∀ (zn : Nat) (aq1 : Nat) (nq1 : Int32), (aq1 ≤ tn) → (ta ≤ aq1) → (den fby tn aq1 = den fby tn ta) → (nq1 = dec10 fby ta (aq1 - ta)) → tn - aq1 + 1 ≤ zn → ∀ (H : Heap) (locs : List Loc), va_P D vwCl [wO t0 9 [.ref t1, .ref t2, .int (nI tn), .int (nI aq1), .int (nI ts), .int (nI tk), .long tm, .int nq1], wI (cy 0) t1 1600 (fby)] H → va_D A [wO t0 9 [.ref t1, .ref t2, .int (nI tn), .int (nI aq1), .int (nI ts), .int (nI tk), .long tm, .int nq1], wI (cy 0) t1 1600 (fby)] → va_S A s.heap H locs → ∀ ls : Array Slot, lv_has ls 1 [(0, .ref t0)] → W p l e (rmk 0 0 0) s m args below meth c H locs 0 0 Q (F0 m 5 ls []) := by
    try clear hP hD hS
    intro zn
    induction zn with
    | zero => intro aq1 nq1 _ _ _ _ hz; exact absurd hz (by omega)
    | succ zn ih1 =>
      intro aq1 nq1 hf0_1 hf1_1 hf2_1 hf3_1 hmu1 H locs hP hD hS ls hl
      refine lv_aload_n hx hb dX9_readNumber_5 rfl (lv_at hl 0 rfl) ?_
      refine va_get (D := D) (ci := 9) (v := .int (nI aq1)) (C := RX9) (T := TX9) (N := 8) hx hb hg i_X9 hown hK hP 0 rfl rfl 3 (by decide) (hg _ m_219) (fun _ h9 => h9) rfl dX9_readNumber_6 ?_
      refine lv_aload_n hx hb dX9_readNumber_9 rfl (lv_at hl 0 rfl) ?_
      refine va_get (D := D) (ci := 9) (v := .int (nI tn)) (C := RX9) (T := TX9) (N := 8) hx hb hg i_X9 hown hK hP 0 rfl rfl 2 (by decide) (hg _ m_218) (fun _ h9 => h9) rfl dX9_readNumber_10 ?_
      refine lv_icmp_ge (tgt := 81) hx hb dX9_readNumber_13 (by decide) (fun c_2 => ?_) (fun c_2 => ?_)
      · have q_3 : tn ≤ aq1 := q_le (a := tn) (b := aq1) rfl rfl (by omega) (by omega) c_2
        exact x_vret hQ hx hb hr hlocks hK hP hD hS dX9_readNumber_81 (aq1, nq1) (⟨(show ta ≤ aq1 from by omega), (show aq1 ≤ tn from by omega), (show aq1 = den fby tn ta from (den_no (Or.inl (by omega))).symm.trans hf2_1), hf3_1⟩) [0, 1] (by decide +kernel) rfl (Nat.le_of_ble_eq_true rfl) (Nat.le_of_ble_eq_true rfl)
      · have q_3 : aq1 < tn := q_nle (a := tn) (b := aq1) rfl rfl (by omega) (by omega) c_2
        refine lv_aload_n hx hb dX9_readNumber_16 rfl (lv_at hl 0 rfl) ?_
        refine va_get (D := D) (ci := 9) (v := .ref t1) (C := RX9) (T := TX9) (N := 8) hx hb hg i_X9 hown hK hP 0 rfl rfl 0 (by decide) (hg _ m_215) (fun _ h9 => h9) rfl dX9_readNumber_17 ?_
        refine lv_aload_n hx hb dX9_readNumber_20 rfl (lv_at hl 0 rfl) ?_
        refine va_get (D := D) (ci := 9) (v := .int (nI aq1)) (C := RX9) (T := TX9) (N := 8) hx hb hg i_X9 hown hK hP 0 rfl rfl 3 (by decide) (hg _ m_219) (fun _ h9 => h9) rfl dX9_readNumber_21 ?_
        refine va_bald hx hb hK hP 1 0 rfl rfl (vp_in_nI (by omega) (by decide)) dX9_readNumber_24 ?_
        refine lv_topi (fun y_4 hy_4 => ?_)
        obtain rfl : y_4 = fby aq1 := hy_4.trans (by rw [nI_clamp (by omega)])
        refine lv_bipush (v := 48) hx hb dX9_readNumber_25 (by decide) ?_
        refine lv_icmp_lt (tgt := 81) hx hb dX9_readNumber_27 (by decide) (fun c_27 => ?_) (fun c_27 => ?_)
        · exact x_vret hQ hx hb hr hlocks hK hP hD hS dX9_readNumber_81 (aq1, nq1) (⟨(show ta ≤ aq1 from by omega), (show aq1 ≤ tn from by omega), (show aq1 = den fby tn ta from (den_no (Or.inr (fun h9 => h9.1 c_27))).symm.trans hf2_1), hf3_1⟩) [0, 1] (by decide +kernel) rfl (Nat.le_of_ble_eq_true rfl) (Nat.le_of_ble_eq_true rfl)
        · refine lv_aload_n hx hb dX9_readNumber_30 rfl (lv_at hl 0 rfl) ?_
          refine va_get (D := D) (ci := 9) (v := .ref t1) (C := RX9) (T := TX9) (N := 8) hx hb hg i_X9 hown hK hP 0 rfl rfl 0 (by decide) (hg _ m_215) (fun _ h9 => h9) rfl dX9_readNumber_31 ?_
          refine lv_aload_n hx hb dX9_readNumber_34 rfl (lv_at hl 0 rfl) ?_
          refine va_get (D := D) (ci := 9) (v := .int (nI aq1)) (C := RX9) (T := TX9) (N := 8) hx hb hg i_X9 hown hK hP 0 rfl rfl 3 (by decide) (hg _ m_219) (fun _ h9 => h9) rfl dX9_readNumber_35 ?_
          refine va_bald hx hb hK hP 1 0 rfl rfl (vp_in_nI (by omega) (by decide)) dX9_readNumber_38 ?_
          refine lv_topi (fun y_5 hy_5 => ?_)
          obtain rfl : y_5 = fby aq1 := hy_5.trans (by rw [nI_clamp (by omega)])
          refine lv_bipush (v := 57) hx hb dX9_readNumber_39 (by decide) ?_
          refine lv_icmp_gt (tgt := 81) hx hb dX9_readNumber_41 (by decide) (fun c_41 => ?_) (fun c_41 => ?_)
          · exact x_vret hQ hx hb hr hlocks hK hP hD hS dX9_readNumber_81 (aq1, nq1) (⟨(show ta ≤ aq1 from by omega), (show aq1 ≤ tn from by omega), (show aq1 = den fby tn ta from (den_no (Or.inr (fun h9 => h9.2 c_41))).symm.trans hf2_1), hf3_1⟩) [0, 1] (by decide +kernel) rfl (Nat.le_of_ble_eq_true rfl) (Nat.le_of_ble_eq_true rfl)
          · refine lv_aload_n hx hb dX9_readNumber_44 rfl (lv_at hl 0 rfl) ?_
            refine lv_aload_n hx hb dX9_readNumber_45 rfl (lv_at hl 0 rfl) ?_
            refine va_get (D := D) (ci := 9) (v := .int nq1) (C := RX9) (T := TX9) (N := 8) hx hb hg i_X9 hown hK hP 0 rfl rfl 7 (by decide) (hg _ m_226) (fun _ h9 => h9) rfl dX9_readNumber_46 ?_
            refine lv_bipush (v := 10) hx hb dX9_readNumber_49 (by decide) ?_
            refine lv_imul hx hb dX9_readNumber_51 ?_
            refine lv_topi (fun x_6 ex_6 => ?_)
            refine lv_aload_n hx hb dX9_readNumber_52 rfl (lv_at hl 0 rfl) ?_
            refine va_get (D := D) (ci := 9) (v := .ref t1) (C := RX9) (T := TX9) (N := 8) hx hb hg i_X9 hown hK hP 0 rfl rfl 0 (by decide) (hg _ m_215) (fun _ h9 => h9) rfl dX9_readNumber_53 ?_
            refine lv_aload_n hx hb dX9_readNumber_56 rfl (lv_at hl 0 rfl) ?_
            refine va_get (D := D) (ci := 9) (v := .int (nI aq1)) (C := RX9) (T := TX9) (N := 8) hx hb hg i_X9 hown hK hP 0 rfl rfl 3 (by decide) (hg _ m_219) (fun _ h9 => h9) rfl dX9_readNumber_57 ?_
            refine va_bald hx hb hK hP 1 0 rfl rfl (vp_in_nI (by omega) (by decide)) dX9_readNumber_60 ?_
            refine lv_topi (fun y_7 hy_7 => ?_)
            obtain rfl : y_7 = fby aq1 := hy_7.trans (by rw [nI_clamp (by omega)])
            refine lv_bipush (v := 48) hx hb dX9_readNumber_61 (by decide) ?_
            refine lv_isub hx hb dX9_readNumber_63 ?_
            refine lv_topi (fun x_8 ex_8 => ?_)
            refine lv_iadd hx hb dX9_readNumber_64 ?_
            refine lv_topi (fun x_9 ex_9 => ?_)
            refine va_put (D := D) (ci := 9) (v := .int x_9) (ty := .int) (C := RX9) (T := TX9) (N := 8) hx hb hg i_X9 tyX9 tyX9_ok nmX9 hown hK hP hD hS 0 rfl rfl 7 (by decide) (hg _ m_226) (fun _ h9 => h9) rfl (by decide +kernel) rfl rfl (Nat.le_of_ble_eq_true rfl) dX9_readNumber_65 (fun H locs hP9 hD9 hS9 => ?_)
            clear hP hD hS
            refine reW [wO t0 9 [.ref t1, .ref t2, .int (nI tn), .int (nI aq1), .int (nI ts), .int (nI tk), .long tm, .int x_9], wI (cy 0) t1 1600 (fby)] hP9 hD9 hS9 (fun hP hD hS => ?_)
            clear hP9 hD9 hS9
            refine lv_aload_n hx hb dX9_readNumber_68 rfl (lv_at hl 0 rfl) ?_
            refine lv_dup hx hb dX9_readNumber_69 rfl ?_
            refine va_get (D := D) (ci := 9) (v := .int (nI aq1)) (C := RX9) (T := TX9) (N := 8) hx hb hg i_X9 hown hK hP 0 rfl rfl 3 (by decide) (hg _ m_219) (fun _ h9 => h9) rfl dX9_readNumber_70 ?_
            refine lv_iconst (v := 1) hx hb dX9_readNumber_73 (by decide) ?_
            refine lv_iadd hx hb dX9_readNumber_74 ?_
            refine lv_topi (fun y_10 hy_10 => ?_)
            obtain rfl : y_10 = nI (aq1 + 1) := hy_10.trans (nI_add aq1 1)
            refine va_put (D := D) (ci := 9) (v := .int (nI (aq1 + 1))) (ty := .int) (C := RX9) (T := TX9) (N := 8) hx hb hg i_X9 tyX9 tyX9_ok nmX9 hown hK hP hD hS 0 rfl rfl 3 (by decide) (hg _ m_219) (fun _ h9 => h9) rfl (by decide +kernel) rfl rfl (Nat.le_of_ble_eq_true rfl) dX9_readNumber_75 (fun H locs hP9 hD9 hS9 => ?_)
            clear hP hD hS
            refine reW [wO t0 9 [.ref t1, .ref t2, .int (nI tn), .int (nI (aq1 + 1)), .int (nI ts), .int (nI tk), .long tm, .int x_9], wI (cy 0) t1 1600 (fby)] hP9 hD9 hS9 (fun hP hD hS => ?_)
            clear hP9 hD9 hS9
            refine lv_goto (tgt := 5) hx hb dX9_readNumber_78 (by decide) ?_
            exact ih1  ((aq1 + 1)) x_9 (by omega) (by omega) ((den_go (by omega) ⟨c_27, c_41⟩).symm.trans hf2_1) (by rw [ex_9, ex_6, ex_8]; exact dec_go (by omega) hf3_1) (by omega) _ _ (hP.sub [0, 1] rfl) (hD.sub [0, 1] (by decide +kernel) rfl) hS ls (lv_sub hl [0] rfl)
  exact loop1 _ ta 0 (by omega) (by omega) (rfl) (by rw [Nat.sub_self]; rfl) (Nat.le_refl _) _ _ (hP.sub [0, 1] rfl) (hD.sub [0, 1] (by decide +kernel) rfl) hS ls (lv_sub hl [0] rfl)
theorem gdX9_next_0 : decode cX9_next 0 = .ok (.aload_n 0, 1) ∧ decode cX9_next 1 = .ok (.getfield 36, 3) ∧ decode cX9_next 4 = .ok (.aload_n 0, 1) ∧ decode cX9_next 5 = .ok (.getfield 33, 3) ∧ decode cX9_next 8 = .ok (.if_icmp .ge 44, 3) ∧ decode cX9_next 52 = .ok (.aload_n 0, 1) ∧ decode cX9_next 53 = .ok (.aload_n 0, 1) ∧ decode cX9_next 54 = .ok (.getfield 36, 3) ∧ decode cX9_next 57 = .ok (.putfield 42, 3) ∧ decode cX9_next 60 = .ok (.aload_n 0, 1) ∧ decode cX9_next 61 = .ok (.getfield 36, 3) ∧ decode cX9_next 64 = .ok (.aload_n 0, 1) := by decide +kernel
theorem dX9_next_0 : decode cX9_next 0 = .ok (.aload_n 0, 1) := gdX9_next_0.1
theorem dX9_next_1 : decode cX9_next 1 = .ok (.getfield 36, 3) := gdX9_next_0.2.1
theorem dX9_next_4 : decode cX9_next 4 = .ok (.aload_n 0, 1) := gdX9_next_0.2.2.1
theorem dX9_next_5 : decode cX9_next 5 = .ok (.getfield 33, 3) := gdX9_next_0.2.2.2.1
theorem dX9_next_8 : decode cX9_next 8 = .ok (.if_icmp .ge 44, 3) := gdX9_next_0.2.2.2.2.1
theorem dX9_next_52 : decode cX9_next 52 = .ok (.aload_n 0, 1) := gdX9_next_0.2.2.2.2.2.1
theorem dX9_next_53 : decode cX9_next 53 = .ok (.aload_n 0, 1) := gdX9_next_0.2.2.2.2.2.2.1
theorem dX9_next_54 : decode cX9_next 54 = .ok (.getfield 36, 3) := gdX9_next_0.2.2.2.2.2.2.2.1
theorem dX9_next_57 : decode cX9_next 57 = .ok (.putfield 42, 3) := gdX9_next_0.2.2.2.2.2.2.2.2.1
theorem dX9_next_60 : decode cX9_next 60 = .ok (.aload_n 0, 1) := gdX9_next_0.2.2.2.2.2.2.2.2.2.1
theorem dX9_next_61 : decode cX9_next 61 = .ok (.getfield 36, 3) := gdX9_next_0.2.2.2.2.2.2.2.2.2.2.1
theorem dX9_next_64 : decode cX9_next 64 = .ok (.aload_n 0, 1) := gdX9_next_0.2.2.2.2.2.2.2.2.2.2.2
theorem gdX9_next_65 : decode cX9_next 65 = .ok (.getfield 33, 3) ∧ decode cX9_next 68 = .ok (.if_icmp .lt 11, 3) ∧ decode cX9_next 79 = .ok (.aload_n 0, 1) ∧ decode cX9_next 80 = .ok (.aload_n 0, 1) ∧ decode cX9_next 81 = .ok (.getfield 36, 3) ∧ decode cX9_next 84 = .ok (.invokevirtual 48, 3) := by decide +kernel
theorem dX9_next_65 : decode cX9_next 65 = .ok (.getfield 33, 3) := gdX9_next_65.1
theorem dX9_next_68 : decode cX9_next 68 = .ok (.if_icmp .lt 11, 3) := gdX9_next_65.2.1
theorem dX9_next_79 : decode cX9_next 79 = .ok (.aload_n 0, 1) := gdX9_next_65.2.2.1
theorem dX9_next_80 : decode cX9_next 80 = .ok (.aload_n 0, 1) := gdX9_next_65.2.2.2.1
theorem dX9_next_81 : decode cX9_next 81 = .ok (.getfield 36, 3) := gdX9_next_65.2.2.2.2.1
theorem dX9_next_84 : decode cX9_next 84 = .ok (.invokevirtual 48, 3) := gdX9_next_65.2.2.2.2.2
theorem k_X9_48 : xV RX9 RX9 48 yX9_isLetter cX9_isLetter 2 (some .boolean) 1 := ⟨⟨m_730, m_732, m_0, m_131, m_733⟩, rfl, by decide, by decide, by decide +kernel⟩
theorem gdX9_next_87 : decode cX9_next 87 = .ok (.ifCond .eq 40, 3) ∧ decode cX9_next 90 = .ok (.aload_n 0, 1) ∧ decode cX9_next 91 = .ok (.invokevirtual 52, 3) := by decide +kernel
theorem dX9_next_87 : decode cX9_next 87 = .ok (.ifCond .eq 40, 3) := gdX9_next_87.1
theorem dX9_next_90 : decode cX9_next 90 = .ok (.aload_n 0, 1) := gdX9_next_87.2.1
theorem dX9_next_91 : decode cX9_next 91 = .ok (.invokevirtual 52, 3) := gdX9_next_87.2.2
theorem k_X9_52 : xV RX9 RX9 52 yX9_readWord cX9_readWord 1 none 0 := ⟨⟨m_734, m_736, m_1, m_131, m_737⟩, rfl, by decide, by decide, by decide +kernel⟩
theorem gdX9_next_94 : decode cX9_next 94 = .ok (.aload_n 0, 1) ∧ decode cX9_next 95 = .ok (.aload_n 0, 1) ∧ decode cX9_next 96 = .ok (.getfield 36, 3) ∧ decode cX9_next 99 = .ok (.aload_n 0, 1) ∧ decode cX9_next 100 = .ok (.getfield 42, 3) ∧ decode cX9_next 103 = .ok (.isub, 1) ∧ decode cX9_next 104 = .ok (.bipush 8, 2) ∧ decode cX9_next 106 = .ok (.if_icmp .le 7, 3) ∧ decode cX9_next 113 = .ok (.aload_n 0, 1) ∧ decode cX9_next 114 = .ok (.aload_n 0, 1) ∧ decode cX9_next 115 = .ok (.getfield 55, 3) ∧ decode cX9_next 118 = .ok (.invokevirtual 59, 3) := by decide +kernel
theorem dX9_next_94 : decode cX9_next 94 = .ok (.aload_n 0, 1) := gdX9_next_94.1
theorem dX9_next_95 : decode cX9_next 95 = .ok (.aload_n 0, 1) := gdX9_next_94.2.1
theorem dX9_next_96 : decode cX9_next 96 = .ok (.getfield 36, 3) := gdX9_next_94.2.2.1
theorem dX9_next_99 : decode cX9_next 99 = .ok (.aload_n 0, 1) := gdX9_next_94.2.2.2.1
theorem dX9_next_100 : decode cX9_next 100 = .ok (.getfield 42, 3) := gdX9_next_94.2.2.2.2.1
theorem dX9_next_103 : decode cX9_next 103 = .ok (.isub, 1) := gdX9_next_94.2.2.2.2.2.1
theorem dX9_next_104 : decode cX9_next 104 = .ok (.bipush 8, 2) := gdX9_next_94.2.2.2.2.2.2.1
theorem dX9_next_106 : decode cX9_next 106 = .ok (.if_icmp .le 7, 3) := gdX9_next_94.2.2.2.2.2.2.2.1
theorem dX9_next_113 : decode cX9_next 113 = .ok (.aload_n 0, 1) := gdX9_next_94.2.2.2.2.2.2.2.2.1
theorem dX9_next_114 : decode cX9_next 114 = .ok (.aload_n 0, 1) := gdX9_next_94.2.2.2.2.2.2.2.2.2.1
theorem dX9_next_115 : decode cX9_next 115 = .ok (.getfield 55, 3) := gdX9_next_94.2.2.2.2.2.2.2.2.2.2.1
theorem dX9_next_118 : decode cX9_next 118 = .ok (.invokevirtual 59, 3) := gdX9_next_94.2.2.2.2.2.2.2.2.2.2.2
theorem k_X9_59 : xV RX9 RX9 59 yX9_kindOf cX9_kindOf 4 (some .int) 1 := ⟨⟨m_738, m_740, m_2, m_131, m_741⟩, rfl, by decide, by decide, by decide +kernel⟩
theorem gdX9_next_121 : decode cX9_next 121 = .ok (.putfield 45, 3) ∧ decode cX9_next 124 = .ok (.goto 97, 3) ∧ decode cX9_next 221 = .ok (.return_, 1) ∧ decode cX9_next 109 = .ok (.iconst 3, 1) ∧ decode cX9_next 110 = .ok (.goto 11, 3) ∧ decode cX9_next 127 = .ok (.aload_n 0, 1) ∧ decode cX9_next 128 = .ok (.aload_n 0, 1) ∧ decode cX9_next 129 = .ok (.getfield 36, 3) ∧ decode cX9_next 132 = .ok (.invokevirtual 63, 3) := by decide +kernel
theorem dX9_next_121 : decode cX9_next 121 = .ok (.putfield 45, 3) := gdX9_next_121.1
theorem dX9_next_124 : decode cX9_next 124 = .ok (.goto 97, 3) := gdX9_next_121.2.1
theorem dX9_next_221 : decode cX9_next 221 = .ok (.return_, 1) := gdX9_next_121.2.2.1
theorem dX9_next_109 : decode cX9_next 109 = .ok (.iconst 3, 1) := gdX9_next_121.2.2.2.1
theorem dX9_next_110 : decode cX9_next 110 = .ok (.goto 11, 3) := gdX9_next_121.2.2.2.2.1
theorem dX9_next_127 : decode cX9_next 127 = .ok (.aload_n 0, 1) := gdX9_next_121.2.2.2.2.2.1
theorem dX9_next_128 : decode cX9_next 128 = .ok (.aload_n 0, 1) := gdX9_next_121.2.2.2.2.2.2.1
theorem dX9_next_129 : decode cX9_next 129 = .ok (.getfield 36, 3) := gdX9_next_121.2.2.2.2.2.2.2.1
theorem dX9_next_132 : decode cX9_next 132 = .ok (.invokevirtual 63, 3) := gdX9_next_121.2.2.2.2.2.2.2.2
theorem k_X9_63 : xV RX9 RX9 63 yX9_isDigit cX9_isDigit 2 (some .boolean) 1 := ⟨⟨m_742, m_744, m_3, m_131, m_745⟩, rfl, by decide, by decide, by decide +kernel⟩
theorem gdX9_next_135 : decode cX9_next 135 = .ok (.ifCond .eq 43, 3) ∧ decode cX9_next 138 = .ok (.aload_n 0, 1) ∧ decode cX9_next 139 = .ok (.invokevirtual 66, 3) := by decide +kernel
theorem dX9_next_135 : decode cX9_next 135 = .ok (.ifCond .eq 43, 3) := gdX9_next_135.1
theorem dX9_next_138 : decode cX9_next 138 = .ok (.aload_n 0, 1) := gdX9_next_135.2.1
theorem dX9_next_139 : decode cX9_next 139 = .ok (.invokevirtual 66, 3) := gdX9_next_135.2.2
theorem k_X9_66 : xV RX9 RX9 66 yX9_readNumber cX9_readNumber 1 none 0 := ⟨⟨m_746, m_748, m_4, m_131, m_749⟩, rfl, by decide, by decide, by decide +kernel⟩
theorem gdX9_next_142 : decode cX9_next 142 = .ok (.aload_n 0, 1) ∧ decode cX9_next 143 = .ok (.aload_n 0, 1) ∧ decode cX9_next 144 = .ok (.getfield 36, 3) ∧ decode cX9_next 147 = .ok (.aload_n 0, 1) ∧ decode cX9_next 148 = .ok (.getfield 42, 3) ∧ decode cX9_next 151 = .ok (.isub, 1) ∧ decode cX9_next 152 = .ok (.iconst 4, 1) ∧ decode cX9_next 153 = .ok (.if_icmp .gt 14, 3) ∧ decode cX9_next 167 = .ok (.iconst 3, 1) ∧ decode cX9_next 168 = .ok (.goto 4, 3) ∧ decode cX9_next 172 = .ok (.putfield 45, 3) ∧ decode cX9_next 175 = .ok (.goto 46, 3) := by decide +kernel
theorem dX9_next_142 : decode cX9_next 142 = .ok (.aload_n 0, 1) := gdX9_next_142.1
theorem dX9_next_143 : decode cX9_next 143 = .ok (.aload_n 0, 1) := gdX9_next_142.2.1
theorem dX9_next_144 : decode cX9_next 144 = .ok (.getfield 36, 3) := gdX9_next_142.2.2.1
theorem dX9_next_147 : decode cX9_next 147 = .ok (.aload_n 0, 1) := gdX9_next_142.2.2.2.1
theorem dX9_next_148 : decode cX9_next 148 = .ok (.getfield 42, 3) := gdX9_next_142.2.2.2.2.1
theorem dX9_next_151 : decode cX9_next 151 = .ok (.isub, 1) := gdX9_next_142.2.2.2.2.2.1
theorem dX9_next_152 : decode cX9_next 152 = .ok (.iconst 4, 1) := gdX9_next_142.2.2.2.2.2.2.1
theorem dX9_next_153 : decode cX9_next 153 = .ok (.if_icmp .gt 14, 3) := gdX9_next_142.2.2.2.2.2.2.2.1
theorem dX9_next_167 : decode cX9_next 167 = .ok (.iconst 3, 1) := gdX9_next_142.2.2.2.2.2.2.2.2.1
theorem dX9_next_168 : decode cX9_next 168 = .ok (.goto 4, 3) := gdX9_next_142.2.2.2.2.2.2.2.2.2.1
theorem dX9_next_172 : decode cX9_next 172 = .ok (.putfield 45, 3) := gdX9_next_142.2.2.2.2.2.2.2.2.2.2.1
theorem dX9_next_175 : decode cX9_next 175 = .ok (.goto 46, 3) := gdX9_next_142.2.2.2.2.2.2.2.2.2.2.2
theorem gdX9_next_156 : decode cX9_next 156 = .ok (.aload_n 0, 1) ∧ decode cX9_next 157 = .ok (.aload_n 0, 1) ∧ decode cX9_next 158 = .ok (.getfield 36, 3) ∧ decode cX9_next 161 = .ok (.invokevirtual 48, 3) ∧ decode cX9_next 164 = .ok (.ifCond .eq 7, 3) ∧ decode cX9_next 171 = .ok (.iconst 2, 1) ∧ decode cX9_next 178 = .ok (.aload_n 0, 1) ∧ decode cX9_next 179 = .ok (.getfield 11, 3) ∧ decode cX9_next 182 = .ok (.aload_n 0, 1) ∧ decode cX9_next 183 = .ok (.getfield 36, 3) ∧ decode cX9_next 186 = .ok (.baload, 1) ∧ decode cX9_next 187 = .ok (.sipush 255, 3) := by decide +kernel
theorem dX9_next_156 : decode cX9_next 156 = .ok (.aload_n 0, 1) := gdX9_next_156.1
theorem dX9_next_157 : decode cX9_next 157 = .ok (.aload_n 0, 1) := gdX9_next_156.2.1
theorem dX9_next_158 : decode cX9_next 158 = .ok (.getfield 36, 3) := gdX9_next_156.2.2.1
theorem dX9_next_161 : decode cX9_next 161 = .ok (.invokevirtual 48, 3) := gdX9_next_156.2.2.2.1
theorem dX9_next_164 : decode cX9_next 164 = .ok (.ifCond .eq 7, 3) := gdX9_next_156.2.2.2.2.1
theorem dX9_next_171 : decode cX9_next 171 = .ok (.iconst 2, 1) := gdX9_next_156.2.2.2.2.2.1
theorem dX9_next_178 : decode cX9_next 178 = .ok (.aload_n 0, 1) := gdX9_next_156.2.2.2.2.2.2.1
theorem dX9_next_179 : decode cX9_next 179 = .ok (.getfield 11, 3) := gdX9_next_156.2.2.2.2.2.2.2.1
theorem dX9_next_182 : decode cX9_next 182 = .ok (.aload_n 0, 1) := gdX9_next_156.2.2.2.2.2.2.2.2.1
theorem dX9_next_183 : decode cX9_next 183 = .ok (.getfield 36, 3) := gdX9_next_156.2.2.2.2.2.2.2.2.2.1
theorem dX9_next_186 : decode cX9_next 186 = .ok (.baload, 1) := gdX9_next_156.2.2.2.2.2.2.2.2.2.2.1
theorem dX9_next_187 : decode cX9_next 187 = .ok (.sipush 255, 3) := gdX9_next_156.2.2.2.2.2.2.2.2.2.2.2
theorem gdX9_next_190 : decode cX9_next 190 = .ok (.iand, 1) ∧ decode cX9_next 191 = .ok (.istore_n 1, 1) ∧ decode cX9_next 192 = .ok (.aload_n 0, 1) ∧ decode cX9_next 193 = .ok (.ldc 69, 2) ∧ decode cX9_next 195 = .ok (.iload_n 1, 1) ∧ decode cX9_next 196 = .ok (.i2c, 1) ∧ decode cX9_next 197 = .ok (.invokevirtual 71, 3) := by decide +kernel
theorem dX9_next_190 : decode cX9_next 190 = .ok (.iand, 1) := gdX9_next_190.1
theorem dX9_next_191 : decode cX9_next 191 = .ok (.istore_n 1, 1) := gdX9_next_190.2.1
theorem dX9_next_192 : decode cX9_next 192 = .ok (.aload_n 0, 1) := gdX9_next_190.2.2.1
theorem dX9_next_193 : decode cX9_next 193 = .ok (.ldc 69, 2) := gdX9_next_190.2.2.2.1
theorem dX9_next_195 : decode cX9_next 195 = .ok (.iload_n 1, 1) := gdX9_next_190.2.2.2.2.1
theorem dX9_next_196 : decode cX9_next 196 = .ok (.i2c, 1) := gdX9_next_190.2.2.2.2.2.1
theorem dX9_next_197 : decode cX9_next 197 = .ok (.invokevirtual 71, 3) := gdX9_next_190.2.2.2.2.2.2
theorem k_X9_71 : xV RX9 RJ0 71 yJ0_indexOf_0f7a4 cJ0_indexOf_0f7a4 2 (some .int) 1 := ⟨⟨m_751, m_752, m_753, m_132, m_754⟩, rfl, by decide, by decide, by decide +kernel⟩
theorem gdX9_next_200 : decode cX9_next 200 = .ok (.ifCond .lt 7, 3) ∧ decode cX9_next 203 = .ok (.iload_n 1, 1) ∧ decode cX9_next 204 = .ok (.goto 4, 3) ∧ decode cX9_next 208 = .ok (.putfield 45, 3) ∧ decode cX9_next 211 = .ok (.aload_n 0, 1) ∧ decode cX9_next 212 = .ok (.dup, 1) ∧ decode cX9_next 213 = .ok (.getfield 36, 3) ∧ decode cX9_next 216 = .ok (.iconst 1, 1) ∧ decode cX9_next 217 = .ok (.iadd, 1) ∧ decode cX9_next 218 = .ok (.putfield 36, 3) ∧ decode cX9_next 207 = .ok (.iconst 3, 1) ∧ decode cX9_next 71 = .ok (.aload_n 0, 1) := by decide +kernel
theorem dX9_next_200 : decode cX9_next 200 = .ok (.ifCond .lt 7, 3) := gdX9_next_200.1
theorem dX9_next_203 : decode cX9_next 203 = .ok (.iload_n 1, 1) := gdX9_next_200.2.1
theorem dX9_next_204 : decode cX9_next 204 = .ok (.goto 4, 3) := gdX9_next_200.2.2.1
theorem dX9_next_208 : decode cX9_next 208 = .ok (.putfield 45, 3) := gdX9_next_200.2.2.2.1
theorem dX9_next_211 : decode cX9_next 211 = .ok (.aload_n 0, 1) := gdX9_next_200.2.2.2.2.1
theorem dX9_next_212 : decode cX9_next 212 = .ok (.dup, 1) := gdX9_next_200.2.2.2.2.2.1
theorem dX9_next_213 : decode cX9_next 213 = .ok (.getfield 36, 3) := gdX9_next_200.2.2.2.2.2.2.1
theorem dX9_next_216 : decode cX9_next 216 = .ok (.iconst 1, 1) := gdX9_next_200.2.2.2.2.2.2.2.1
theorem dX9_next_217 : decode cX9_next 217 = .ok (.iadd, 1) := gdX9_next_200.2.2.2.2.2.2.2.2.1
theorem dX9_next_218 : decode cX9_next 218 = .ok (.putfield 36, 3) := gdX9_next_200.2.2.2.2.2.2.2.2.2.1
theorem dX9_next_207 : decode cX9_next 207 = .ok (.iconst 3, 1) := gdX9_next_200.2.2.2.2.2.2.2.2.2.2.1
theorem dX9_next_71 : decode cX9_next 71 = .ok (.aload_n 0, 1) := gdX9_next_200.2.2.2.2.2.2.2.2.2.2.2
theorem gdX9_next_72 : decode cX9_next 72 = .ok (.iconst 0, 1) ∧ decode cX9_next 73 = .ok (.putfield 45, 3) ∧ decode cX9_next 76 = .ok (.goto 145, 3) ∧ decode cX9_next 11 = .ok (.aload_n 0, 1) ∧ decode cX9_next 12 = .ok (.getfield 11, 3) ∧ decode cX9_next 15 = .ok (.aload_n 0, 1) ∧ decode cX9_next 16 = .ok (.getfield 36, 3) ∧ decode cX9_next 19 = .ok (.baload, 1) ∧ decode cX9_next 20 = .ok (.bipush 32, 2) ∧ decode cX9_next 22 = .ok (.if_icmp .eq 17, 3) ∧ decode cX9_next 39 = .ok (.aload_n 0, 1) ∧ decode cX9_next 40 = .ok (.dup, 1) := by decide +kernel
theorem dX9_next_72 : decode cX9_next 72 = .ok (.iconst 0, 1) := gdX9_next_72.1
theorem dX9_next_73 : decode cX9_next 73 = .ok (.putfield 45, 3) := gdX9_next_72.2.1
theorem dX9_next_76 : decode cX9_next 76 = .ok (.goto 145, 3) := gdX9_next_72.2.2.1
theorem dX9_next_11 : decode cX9_next 11 = .ok (.aload_n 0, 1) := gdX9_next_72.2.2.2.1
theorem dX9_next_12 : decode cX9_next 12 = .ok (.getfield 11, 3) := gdX9_next_72.2.2.2.2.1
theorem dX9_next_15 : decode cX9_next 15 = .ok (.aload_n 0, 1) := gdX9_next_72.2.2.2.2.2.1
theorem dX9_next_16 : decode cX9_next 16 = .ok (.getfield 36, 3) := gdX9_next_72.2.2.2.2.2.2.1
theorem dX9_next_19 : decode cX9_next 19 = .ok (.baload, 1) := gdX9_next_72.2.2.2.2.2.2.2.1
theorem dX9_next_20 : decode cX9_next 20 = .ok (.bipush 32, 2) := gdX9_next_72.2.2.2.2.2.2.2.2.1
theorem dX9_next_22 : decode cX9_next 22 = .ok (.if_icmp .eq 17, 3) := gdX9_next_72.2.2.2.2.2.2.2.2.2.1
theorem dX9_next_39 : decode cX9_next 39 = .ok (.aload_n 0, 1) := gdX9_next_72.2.2.2.2.2.2.2.2.2.2.1
theorem dX9_next_40 : decode cX9_next 40 = .ok (.dup, 1) := gdX9_next_72.2.2.2.2.2.2.2.2.2.2.2
theorem gdX9_next_41 : decode cX9_next 41 = .ok (.getfield 36, 3) ∧ decode cX9_next 44 = .ok (.iconst 1, 1) ∧ decode cX9_next 45 = .ok (.iadd, 1) ∧ decode cX9_next 46 = .ok (.putfield 36, 3) ∧ decode cX9_next 49 = .ok (.goto (-49), 3) ∧ decode cX9_next 25 = .ok (.aload_n 0, 1) ∧ decode cX9_next 26 = .ok (.getfield 11, 3) ∧ decode cX9_next 29 = .ok (.aload_n 0, 1) ∧ decode cX9_next 30 = .ok (.getfield 36, 3) ∧ decode cX9_next 33 = .ok (.baload, 1) ∧ decode cX9_next 34 = .ok (.bipush 10, 2) ∧ decode cX9_next 36 = .ok (.if_icmp .ne 16, 3) := by decide +kernel
theorem dX9_next_41 : decode cX9_next 41 = .ok (.getfield 36, 3) := gdX9_next_41.1
theorem dX9_next_44 : decode cX9_next 44 = .ok (.iconst 1, 1) := gdX9_next_41.2.1
theorem dX9_next_45 : decode cX9_next 45 = .ok (.iadd, 1) := gdX9_next_41.2.2.1
theorem dX9_next_46 : decode cX9_next 46 = .ok (.putfield 36, 3) := gdX9_next_41.2.2.2.1
theorem dX9_next_49 : decode cX9_next 49 = .ok (.goto (-49), 3) := gdX9_next_41.2.2.2.2.1
theorem dX9_next_25 : decode cX9_next 25 = .ok (.aload_n 0, 1) := gdX9_next_41.2.2.2.2.2.1
theorem dX9_next_26 : decode cX9_next 26 = .ok (.getfield 11, 3) := gdX9_next_41.2.2.2.2.2.2.1
theorem dX9_next_29 : decode cX9_next 29 = .ok (.aload_n 0, 1) := gdX9_next_41.2.2.2.2.2.2.2.1
theorem dX9_next_30 : decode cX9_next 30 = .ok (.getfield 36, 3) := gdX9_next_41.2.2.2.2.2.2.2.2.1
theorem dX9_next_33 : decode cX9_next 33 = .ok (.baload, 1) := gdX9_next_41.2.2.2.2.2.2.2.2.2.1
theorem dX9_next_34 : decode cX9_next 34 = .ok (.bipush 10, 2) := gdX9_next_41.2.2.2.2.2.2.2.2.2.2.1
theorem dX9_next_36 : decode cX9_next 36 = .ok (.if_icmp .ne 16, 3) := gdX9_next_41.2.2.2.2.2.2.2.2.2.2.2
set_option maxHeartbeats 1000000 in
set_option maxRecDepth 100000 in
theorem s_next (l : Launch) (D : va_G) (cy : Nat → ClassId) (adK : Nat → Nat) (adV : Nat → Nat) (t0 : Nat) (t1 : Nat) (t2 : Nat) (tn : Nat) (ta : Nat) (ts : Nat) (tk : Nat) (tm : Int64) (tr : Int32) (fby : Nat → Int32) (fky : Nat → Int64) (gn : Nat) (htn : tn ≤ 1600) (hta : ta ≤ tn) (hgn : ta = gn) (hky : kyOK fky) : XMv l D (tyL cy) (EV adK adV) yX9_next cX9_next 2 none (rmk 6 0 0) [.ref t0] [wO t0 9 [.ref t1, .ref t2, .int (nI tn), .int (nI ta), .int (nI ts), .int (nI tk), .long tm, .int tr], wI (cy 0) t1 1600 (fby), (t2, .inl (cy 2, 24, .inr (.inl (fky))))] (fun (u : Nat × Nat × Nat × Int64 × Int32) => (u.1 ≤ tn) ∧ (u.2.2.1 ≤ 123) ∧ (tkC fby tn gn u.1 u.2.1 u.2.2.1 u.2.2.2.1 u.2.2.2.2)) (fun (u : Nat × Nat × Nat × Int64 × Int32) => [wO t0 9 [.ref t1, .ref t2, .int (nI tn), .int (nI u.1), .int (nI u.2.1), .int (nI u.2.2.1), .long u.2.2.2.1, .int u.2.2.2.2], wI (cy 0) t1 1600 (fby), (t2, .inl (cy 2, 24, .inr (.inl (fky))))]) := by
  refine XMv.start (by decide) (Nat.le_of_ble_eq_true rfl) ?_
  intro p e s m below meth c args A ls Q hat hQ
  obtain ⟨hx, hb, hr, hml, hown, hg, hlocks, hin, hK, hA, hP, hD, hS, hE, hl⟩ := hat
  have hown : s.vm.findClass RX9 = some m.cls := hown
  have hl : lv_has ls 2 [(0, .ref t0)] := hl
  have loop1 : ∀ (zn : Nat) (aq1 : Nat), (aq1 ≤ tn) → (stt fby tn aq1 = stt fby tn gn) → tn - aq1 + 1 ≤ zn → ∀ (H : Heap) (locs : List Loc), va_P D vwCl [wO t0 9 [.ref t1, .ref t2, .int (nI tn), .int (nI aq1), .int (nI ts), .int (nI tk), .long tm, .int tr], wI (cy 0) t1 1600 (fby), (t2, .inl (cy 2, 24, .inr (.inl (fky))))] H → va_D A [wO t0 9 [.ref t1, .ref t2, .int (nI tn), .int (nI aq1), .int (nI ts), .int (nI tk), .long tm, .int tr], wI (cy 0) t1 1600 (fby), (t2, .inl (cy 2, 24, .inr (.inl (fky))))] → va_S A s.heap H locs → ∀ ls : Array Slot, lv_has ls 2 [(0, .ref t0)] → W p l e (rmk 6 0 0) s m args below meth c H locs 0 0 Q (F0 m 0 ls []) := by
    try clear hP hD hS
    intro zn
    induction zn with
    | zero => intro aq1 _ _ hz; exact absurd hz (by omega)
    | succ zn ih1 =>
      intro aq1 hf0_1 hf1_1 hmu1 H locs hP hD hS ls hl
      refine lv_aload_n hx hb dX9_next_0 rfl (lv_at hl 0 rfl) ?_
      refine va_get (D := D) (ci := 9) (v := .int (nI aq1)) (C := RX9) (T := TX9) (N := 8) hx hb hg i_X9 hown hK hP 0 rfl rfl 3 (by decide) (hg _ m_219) (fun _ h9 => h9) rfl dX9_next_1 ?_
      refine lv_aload_n hx hb dX9_next_4 rfl (lv_at hl 0 rfl) ?_
      refine va_get (D := D) (ci := 9) (v := .int (nI tn)) (C := RX9) (T := TX9) (N := 8) hx hb hg i_X9 hown hK hP 0 rfl rfl 2 (by decide) (hg _ m_218) (fun _ h9 => h9) rfl dX9_next_5 ?_
      refine lv_icmp_ge (tgt := 52) hx hb dX9_next_8 (by decide) (fun c_2 => ?_) (fun c_2 => ?_)
      · have q_3 : tn ≤ aq1 := q_le (a := tn) (b := aq1) rfl rfl (by omega) (by omega) c_2
        have hss : stt fby tn gn = aq1 := hf1_1.symm.trans (stt_no (Or.inl (by omega)))
        refine lv_aload_n hx hb dX9_next_52 rfl (lv_at hl 0 rfl) ?_
        refine lv_aload_n hx hb dX9_next_53 rfl (lv_at hl 0 rfl) ?_
        refine va_get (D := D) (ci := 9) (v := .int (nI aq1)) (C := RX9) (T := TX9) (N := 8) hx hb hg i_X9 hown hK hP 0 rfl rfl 3 (by decide) (hg _ m_219) (fun _ h9 => h9) rfl dX9_next_54 ?_
        refine va_put (D := D) (ci := 9) (v := .int (nI aq1)) (ty := .int) (C := RX9) (T := TX9) (N := 8) hx hb hg i_X9 tyX9 tyX9_ok nmX9 hown hK hP hD hS 0 rfl rfl 4 (by decide) (hg _ m_221) (fun _ h9 => h9) rfl (by decide +kernel) rfl rfl (Nat.le_of_ble_eq_true rfl) dX9_next_57 (fun H locs hP9 hD9 hS9 => ?_)
        clear hP hD hS
        refine reW [wO t0 9 [.ref t1, .ref t2, .int (nI tn), .int (nI aq1), .int (nI aq1), .int (nI tk), .long tm, .int tr], wI (cy 0) t1 1600 (fby), (t2, .inl (cy 2, 24, .inr (.inl (fky))))] hP9 hD9 hS9 (fun hP hD hS => ?_)
        clear hP9 hD9 hS9
        refine lv_aload_n hx hb dX9_next_60 rfl (lv_at hl 0 rfl) ?_
        refine va_get (D := D) (ci := 9) (v := .int (nI aq1)) (C := RX9) (T := TX9) (N := 8) hx hb hg i_X9 hown hK hP 0 rfl rfl 3 (by decide) (hg _ m_219) (fun _ h9 => h9) rfl dX9_next_61 ?_
        refine lv_aload_n hx hb dX9_next_64 rfl (lv_at hl 0 rfl) ?_
        refine va_get (D := D) (ci := 9) (v := .int (nI tn)) (C := RX9) (T := TX9) (N := 8) hx hb hg i_X9 hown hK hP 0 rfl rfl 2 (by decide) (hg _ m_218) (fun _ h9 => h9) rfl dX9_next_65 ?_
        refine lv_icmp_lt (tgt := 79) hx hb dX9_next_68 (by decide) (fun c_4 => ?_) (fun c_4 => ?_)
        · have q_5 : aq1 < tn := q_lt (a := aq1) (b := tn) rfl rfl (by omega) (by omega) c_4
          refine lv_aload_n hx hb dX9_next_79 rfl (lv_at hl 0 rfl) ?_
          refine lv_aload_n hx hb dX9_next_80 rfl (lv_at hl 0 rfl) ?_
          refine va_get (D := D) (ci := 9) (v := .int (nI aq1)) (C := RX9) (T := TX9) (N := 8) hx hb hg i_X9 hown hK hP 0 rfl rfl 3 (by decide) (hg _ m_219) (fun _ h9 => h9) rfl dX9_next_81 ?_
          refine x_callVi (q := (RX9, TX9, 8)) (ci := 9) (q0 := 0) (wr := [(t2, .inl (cy 2, 24, .inr (.inl (fky))))]) (rest := []) ⟨hx, hb, hml, hown, hg, hl.1⟩ k_X9_48 (s_isLetter l D cy t0 t1 t2 tn aq1 aq1 tk tm tr fby aq1 (by omega) (by omega)) E0_blind hK hP hD hS hA [0, 1] [2] ⟨rfl, rfl, by decide +kernel, by decide +kernel, by decide +kernel⟩ rfl rfl (fun _ _ _ => trivial) dX9_next_84 rfl rfl (Nat.le_of_ble_eq_true rfl) ⟨Nat.le_of_ble_eq_true rfl, Nat.le_of_ble_eq_true rfl⟩ ⟨Nat.le_of_ble_eq_true rfl, Nat.le_of_ble_eq_true rfl⟩ (fun zr6 zu6 H locs hw6 hP9 hD9 hS9 => ?_)
          clear hP hD hS
          refine reW [(t2, .inl (cy 2, 24, .inr (.inl (fky)))), wO t0 9 [.ref t1, .ref t2, .int (nI tn), .int (nI aq1), .int (nI aq1), .int (nI tk), .long tm, .int tr], wI (cy 0) t1 1600 (fby)] hP9 hD9 hS9 (fun hP hD hS => ?_)
          clear hP9 hD9 hS9
          refine W.widen (k := 0) (n := 0) (Nat.le_of_ble_eq_true rfl) (Nat.le_of_ble_eq_true rfl) ?_
          replace hw6 : ((zr6 = 1 ∧ (aq1 < tn ∧ isLt (fby aq1))) ∨ (zr6 = 0 ∧ (¬ (aq1 < tn ∧ isLt (fby aq1))))) := hw6
          have f_7 := hw6
          rcases f_7 with ⟨hz_9, a_8⟩ | ⟨hz_11, a_10⟩
          · subst hz_9
            refine lv_if_eq (tgt := 127) hx hb dX9_next_87 (by decide) (fun h => absurd h (by decide)) (fun _ => ?_)
            refine lv_aload_n hx hb dX9_next_90 rfl (lv_at hl 0 rfl) ?_
            refine x_callVv (q := (RX9, TX9, 8)) (ci := 9) (q0 := 0) (wr := [(t2, .inl (cy 2, 24, .inr (.inl (fky))))]) (rest := []) ⟨hx, hb, hml, hown, hg, hl.1⟩ k_X9_52 (s_readWord l D cy t0 t1 t2 tn aq1 aq1 tk tm tr fby (by omega) (by omega)) E0_blind hK hP hD hS hA [1, 2] [0] ⟨rfl, rfl, by decide +kernel, by decide +kernel, by decide +kernel⟩ rfl rfl (fun _ _ _ => trivial) dX9_next_91 rfl rfl (Nat.le_of_ble_eq_true rfl) ⟨Nat.le_of_ble_eq_true rfl, Nat.le_of_ble_eq_true rfl⟩ ⟨Nat.le_of_ble_eq_true rfl, Nat.le_of_ble_eq_true rfl⟩ (fun zu12 H locs hw12 hP9 hD9 hS9 => ?_)
            clear hP hD hS
            obtain ⟨ta2_13, tm2_14⟩ := zu12
            refine reW [(t2, .inl (cy 2, 24, .inr (.inl (fky)))), wO t0 9 [.ref t1, .ref t2, .int (nI tn), .int (nI ta2_13), .int (nI aq1), .int (nI tk), .long tm2_14, .int tr], wI (cy 0) t1 1600 (fby)] hP9 hD9 hS9 (fun hP hD hS => ?_)
            clear hP9 hD9 hS9
            refine W.widen (k := 0) (n := 0) (Nat.le_of_ble_eq_true rfl) (Nat.le_of_ble_eq_true rfl) ?_
            replace hw12 : (aq1 ≤ ta2_13) ∧ (ta2_13 ≤ tn) ∧ (ta2_13 = wen fby tn aq1) ∧ (tm2_14 = c27 fby aq1 (ta2_13 - aq1)) := hw12
            obtain ⟨f_15, f_16, f_17, f_18⟩ := hw12
            refine lv_aload_n hx hb dX9_next_94 rfl (lv_at hl 0 rfl) ?_
            refine lv_aload_n hx hb dX9_next_95 rfl (lv_at hl 0 rfl) ?_
            refine va_get (D := D) (ci := 9) (v := .int (nI ta2_13)) (C := RX9) (T := TX9) (N := 8) hx hb hg i_X9 hown hK hP 1 rfl rfl 3 (by decide) (hg _ m_219) (fun _ h9 => h9) rfl dX9_next_96 ?_
            refine lv_aload_n hx hb dX9_next_99 rfl (lv_at hl 0 rfl) ?_
            refine va_get (D := D) (ci := 9) (v := .int (nI aq1)) (C := RX9) (T := TX9) (N := 8) hx hb hg i_X9 hown hK hP 1 rfl rfl 4 (by decide) (hg _ m_221) (fun _ h9 => h9) rfl dX9_next_100 ?_
            refine lv_isub hx hb dX9_next_103 ?_
            refine lv_topi (fun y_19 hy_19 => ?_)
            obtain rfl : y_19 = nI (ta2_13 - aq1) := hy_19.trans (pk_sub (a := ta2_13) (b := aq1) (by omega))
            refine lv_bipush (v := 8) hx hb dX9_next_104 (by decide) ?_
            refine lv_icmp_le (tgt := 113) hx hb dX9_next_106 (by decide) (fun c_20 => ?_) (fun c_20 => ?_)
            · have q_21 : (ta2_13 - aq1) ≤ 8 := q_le (a := (ta2_13 - aq1)) (b := 8) rfl rfl (by omega) (by omega) c_20
              refine lv_aload_n hx hb dX9_next_113 rfl (lv_at hl 0 rfl) ?_
              refine lv_aload_n hx hb dX9_next_114 rfl (lv_at hl 0 rfl) ?_
              refine va_get (D := D) (ci := 9) (v := .long tm2_14) (C := RX9) (T := TX9) (N := 8) hx hb hg i_X9 hown hK hP 1 rfl rfl 6 (by decide) (hg _ m_224) (fun _ h9 => h9) rfl dX9_next_115 ?_
              refine x_callVi (q := (RX9, TX9, 8)) (ci := 9) (q0 := 0) (wr := [wI (cy 0) t1 1600 (fby)]) (rest := [.ref t0]) ⟨hx, hb, hml, hown, hg, hl.1⟩ k_X9_59 (s_kindOf l D cy t0 t1 t2 tn ta2_13 aq1 tk tm2_14 tr fky tm2_14 (hky)) E0_blind hK hP hD hS hA [1, 0] [2] ⟨rfl, rfl, by decide +kernel, by decide +kernel, by decide +kernel⟩ rfl rfl (fun _ _ _ => trivial) dX9_next_118 rfl rfl (Nat.le_of_ble_eq_true rfl) ⟨Nat.le_of_ble_eq_true rfl, Nat.le_of_ble_eq_true rfl⟩ ⟨Nat.le_of_ble_eq_true rfl, Nat.le_of_ble_eq_true rfl⟩ (fun zr22 zu22 H locs hw22 hP9 hD9 hS9 => ?_)
              clear hP hD hS
              obtain ⟨k_23, rfl⟩ : ∃ z, z = zu22 := ⟨_, rfl⟩
              refine reW [wI (cy 0) t1 1600 (fby), wO t0 9 [.ref t1, .ref t2, .int (nI tn), .int (nI ta2_13), .int (nI aq1), .int (nI tk), .long tm2_14, .int tr], (t2, .inl (cy 2, 24, .inr (.inl (fky))))] hP9 hD9 hS9 (fun hP hD hS => ?_)
              clear hP9 hD9 hS9
              refine W.widen (k := 0) (n := 0) (Nat.le_of_ble_eq_true rfl) (Nat.le_of_ble_eq_true rfl) ?_
              replace hw22 : (zr22 = nI k_23) ∧ (k_23 = kof tm2_14) := hw22
              obtain ⟨f_24, f_25⟩ := hw22
              subst f_24
              refine va_put (D := D) (ci := 9) (v := .int (nI k_23)) (ty := .int) (C := RX9) (T := TX9) (N := 8) hx hb hg i_X9 tyX9 tyX9_ok nmX9 hown hK hP hD hS 1 rfl rfl 5 (by decide) (hg _ m_223) (fun _ h9 => h9) rfl (by decide +kernel) rfl rfl (Nat.le_of_ble_eq_true rfl) dX9_next_121 (fun H locs hP9 hD9 hS9 => ?_)
              clear hP hD hS
              refine reW [wI (cy 0) t1 1600 (fby), wO t0 9 [.ref t1, .ref t2, .int (nI tn), .int (nI ta2_13), .int (nI aq1), .int (nI k_23), .long tm2_14, .int tr], (t2, .inl (cy 2, 24, .inr (.inl (fky))))] hP9 hD9 hS9 (fun hP hD hS => ?_)
              clear hP9 hD9 hS9
              refine lv_goto (tgt := 221) hx hb dX9_next_124 (by decide) ?_
              exact x_vret hQ hx hb hr hlocks hK hP hD hS dX9_next_221 (ta2_13, aq1, k_23, tm2_14, tr) (⟨(show ta2_13 ≤ tn from (show tkC fby tn gn ta2_13 aq1 k_23 tm2_14 tr from tk_word hss a_8 f_17 f_18 f_25 (by omega)).2.1.symm ▸ fin_le (by omega)), (show k_23 ≤ 123 from (show tkC fby tn gn ta2_13 aq1 k_23 tm2_14 tr from tk_word hss a_8 f_17 f_18 f_25 (by omega)).2.2.1.symm ▸ knd_le _ _ _), tk_word hss a_8 f_17 f_18 f_25 (by omega)⟩) [1, 0, 2] (by decide +kernel) rfl (Nat.le_of_ble_eq_true rfl) (Nat.le_of_ble_eq_true rfl)
            · have q_21 : 8 < (ta2_13 - aq1) := q_nle (a := (ta2_13 - aq1)) (b := 8) rfl rfl (by omega) (by omega) c_20
              refine lv_iconst (v := 3) hx hb dX9_next_109 (by decide) ?_
              refine lv_goto (tgt := 121) hx hb dX9_next_110 (by decide) ?_
              refine va_put (D := D) (ci := 9) (v := .int 3) (ty := .int) (C := RX9) (T := TX9) (N := 8) hx hb hg i_X9 tyX9 tyX9_ok nmX9 hown hK hP hD hS 1 rfl rfl 5 (by decide) (hg _ m_223) (fun _ h9 => h9) rfl (by decide +kernel) rfl rfl (Nat.le_of_ble_eq_true rfl) dX9_next_121 (fun H locs hP9 hD9 hS9 => ?_)
              clear hP hD hS
              refine reW [(t2, .inl (cy 2, 24, .inr (.inl (fky)))), wO t0 9 [.ref t1, .ref t2, .int (nI tn), .int (nI ta2_13), .int (nI aq1), .int 3, .long tm2_14, .int tr], wI (cy 0) t1 1600 (fby)] hP9 hD9 hS9 (fun hP hD hS => ?_)
              clear hP9 hD9 hS9
              refine lv_goto (tgt := 221) hx hb dX9_next_124 (by decide) ?_
              exact x_vret hQ hx hb hr hlocks hK hP hD hS dX9_next_221 (ta2_13, aq1, 3, tm2_14, tr) (⟨(show ta2_13 ≤ tn from (show tkC fby tn gn ta2_13 aq1 3 tm2_14 tr from tk_long hss a_8 f_17 (by omega)).2.1.symm ▸ fin_le (by omega)), (show 3 ≤ 123 from (show tkC fby tn gn ta2_13 aq1 3 tm2_14 tr from tk_long hss a_8 f_17 (by omega)).2.2.1.symm ▸ knd_le _ _ _), tk_long hss a_8 f_17 (by omega)⟩) [1, 2, 0] (by decide +kernel) rfl (Nat.le_of_ble_eq_true rfl) (Nat.le_of_ble_eq_true rfl)
          · subst hz_11
            have hnl_26 := not_and_right a_10 (by omega)
            refine lv_if_eq (tgt := 127) hx hb dX9_next_87 (by decide) (fun _ => ?_) (fun h => absurd (by decide) h)
            refine lv_aload_n hx hb dX9_next_127 rfl (lv_at hl 0 rfl) ?_
            refine lv_aload_n hx hb dX9_next_128 rfl (lv_at hl 0 rfl) ?_
            refine va_get (D := D) (ci := 9) (v := .int (nI aq1)) (C := RX9) (T := TX9) (N := 8) hx hb hg i_X9 hown hK hP 1 rfl rfl 3 (by decide) (hg _ m_219) (fun _ h9 => h9) rfl dX9_next_129 ?_
            refine x_callVi (q := (RX9, TX9, 8)) (ci := 9) (q0 := 0) (wr := [(t2, .inl (cy 2, 24, .inr (.inl (fky))))]) (rest := []) ⟨hx, hb, hml, hown, hg, hl.1⟩ k_X9_63 (s_isDigit l D cy t0 t1 t2 tn aq1 aq1 tk tm tr fby aq1 (by omega) (by omega)) E0_blind hK hP hD hS hA [1, 2] [0] ⟨rfl, rfl, by decide +kernel, by decide +kernel, by decide +kernel⟩ rfl rfl (fun _ _ _ => trivial) dX9_next_132 rfl rfl (Nat.le_of_ble_eq_true rfl) ⟨Nat.le_of_ble_eq_true rfl, Nat.le_of_ble_eq_true rfl⟩ ⟨Nat.le_of_ble_eq_true rfl, Nat.le_of_ble_eq_true rfl⟩ (fun zr27 zu27 H locs hw27 hP9 hD9 hS9 => ?_)
            clear hP hD hS
            refine reW [(t2, .inl (cy 2, 24, .inr (.inl (fky)))), wO t0 9 [.ref t1, .ref t2, .int (nI tn), .int (nI aq1), .int (nI aq1), .int (nI tk), .long tm, .int tr], wI (cy 0) t1 1600 (fby)] hP9 hD9 hS9 (fun hP hD hS => ?_)
            clear hP9 hD9 hS9
            refine W.widen (k := 0) (n := 0) (Nat.le_of_ble_eq_true rfl) (Nat.le_of_ble_eq_true rfl) ?_
            replace hw27 : ((zr27 = 1 ∧ (aq1 < tn ∧ isDg (fby aq1))) ∨ (zr27 = 0 ∧ (¬ (aq1 < tn ∧ isDg (fby aq1))))) := hw27
            have f_28 := hw27
            rcases f_28 with ⟨hz_30, a_29⟩ | ⟨hz_32, a_31⟩
            · subst hz_30
              refine lv_if_eq (tgt := 178) hx hb dX9_next_135 (by decide) (fun h => absurd h (by decide)) (fun _ => ?_)
              refine lv_aload_n hx hb dX9_next_138 rfl (lv_at hl 0 rfl) ?_
              refine x_callVv (q := (RX9, TX9, 8)) (ci := 9) (q0 := 0) (wr := [(t2, .inl (cy 2, 24, .inr (.inl (fky))))]) (rest := []) ⟨hx, hb, hml, hown, hg, hl.1⟩ k_X9_66 (s_readNumber l D cy t0 t1 t2 tn aq1 aq1 tk tm tr fby (by omega) (by omega)) E0_blind hK hP hD hS hA [1, 2] [0] ⟨rfl, rfl, by decide +kernel, by decide +kernel, by decide +kernel⟩ rfl rfl (fun _ _ _ => trivial) dX9_next_139 rfl rfl (Nat.le_of_ble_eq_true rfl) ⟨Nat.le_of_ble_eq_true rfl, Nat.le_of_ble_eq_true rfl⟩ ⟨Nat.le_of_ble_eq_true rfl, Nat.le_of_ble_eq_true rfl⟩ (fun zu33 H locs hw33 hP9 hD9 hS9 => ?_)
              clear hP hD hS
              obtain ⟨ta2_34, tr2_35⟩ := zu33
              refine reW [(t2, .inl (cy 2, 24, .inr (.inl (fky)))), wO t0 9 [.ref t1, .ref t2, .int (nI tn), .int (nI ta2_34), .int (nI aq1), .int (nI tk), .long tm, .int tr2_35], wI (cy 0) t1 1600 (fby)] hP9 hD9 hS9 (fun hP hD hS => ?_)
              clear hP9 hD9 hS9
              refine W.widen (k := 0) (n := 0) (Nat.le_of_ble_eq_true rfl) (Nat.le_of_ble_eq_true rfl) ?_
              replace hw33 : (aq1 ≤ ta2_34) ∧ (ta2_34 ≤ tn) ∧ (ta2_34 = den fby tn aq1) ∧ (tr2_35 = dec10 fby aq1 (ta2_34 - aq1)) := hw33
              obtain ⟨f_36, f_37, f_38, f_39⟩ := hw33
              refine lv_aload_n hx hb dX9_next_142 rfl (lv_at hl 0 rfl) ?_
              refine lv_aload_n hx hb dX9_next_143 rfl (lv_at hl 0 rfl) ?_
              refine va_get (D := D) (ci := 9) (v := .int (nI ta2_34)) (C := RX9) (T := TX9) (N := 8) hx hb hg i_X9 hown hK hP 1 rfl rfl 3 (by decide) (hg _ m_219) (fun _ h9 => h9) rfl dX9_next_144 ?_
              refine lv_aload_n hx hb dX9_next_147 rfl (lv_at hl 0 rfl) ?_
              refine va_get (D := D) (ci := 9) (v := .int (nI aq1)) (C := RX9) (T := TX9) (N := 8) hx hb hg i_X9 hown hK hP 1 rfl rfl 4 (by decide) (hg _ m_221) (fun _ h9 => h9) rfl dX9_next_148 ?_
              refine lv_isub hx hb dX9_next_151 ?_
              refine lv_topi (fun y_40 hy_40 => ?_)
              obtain rfl : y_40 = nI (ta2_34 - aq1) := hy_40.trans (pk_sub (a := ta2_34) (b := aq1) (by omega))
              refine lv_iconst (v := 4) hx hb dX9_next_152 (by decide) ?_
              refine lv_icmp_gt (tgt := 167) hx hb dX9_next_153 (by decide) (fun c_41 => ?_) (fun c_41 => ?_)
              · have q_42 : 4 < (ta2_34 - aq1) := q_lt (a := 4) (b := (ta2_34 - aq1)) rfl rfl (by omega) (by omega) c_41
                refine lv_iconst (v := 3) hx hb dX9_next_167 (by decide) ?_
                refine lv_goto (tgt := 172) hx hb dX9_next_168 (by decide) ?_
                refine va_put (D := D) (ci := 9) (v := .int 3) (ty := .int) (C := RX9) (T := TX9) (N := 8) hx hb hg i_X9 tyX9 tyX9_ok nmX9 hown hK hP hD hS 1 rfl rfl 5 (by decide) (hg _ m_223) (fun _ h9 => h9) rfl (by decide +kernel) rfl rfl (Nat.le_of_ble_eq_true rfl) dX9_next_172 (fun H locs hP9 hD9 hS9 => ?_)
                clear hP hD hS
                refine reW [(t2, .inl (cy 2, 24, .inr (.inl (fky)))), wO t0 9 [.ref t1, .ref t2, .int (nI tn), .int (nI ta2_34), .int (nI aq1), .int 3, .long tm, .int tr2_35], wI (cy 0) t1 1600 (fby)] hP9 hD9 hS9 (fun hP hD hS => ?_)
                clear hP9 hD9 hS9
                refine lv_goto (tgt := 221) hx hb dX9_next_175 (by decide) ?_
                exact x_vret hQ hx hb hr hlocks hK hP hD hS dX9_next_221 (ta2_34, aq1, 3, tm, tr2_35) (⟨(show ta2_34 ≤ tn from (show tkC fby tn gn ta2_34 aq1 3 tm tr2_35 from tk_badn hss hnl_26 a_29 f_38 (Or.inl (by omega))).2.1.symm ▸ fin_le (by omega)), (show 3 ≤ 123 from (show tkC fby tn gn ta2_34 aq1 3 tm tr2_35 from tk_badn hss hnl_26 a_29 f_38 (Or.inl (by omega))).2.2.1.symm ▸ knd_le _ _ _), tk_badn hss hnl_26 a_29 f_38 (Or.inl (by omega))⟩) [1, 2, 0] (by decide +kernel) rfl (Nat.le_of_ble_eq_true rfl) (Nat.le_of_ble_eq_true rfl)
              · have q_42 : (ta2_34 - aq1) ≤ 4 := q_nlt (a := 4) (b := (ta2_34 - aq1)) rfl rfl (by omega) (by omega) c_41
                refine lv_aload_n hx hb dX9_next_156 rfl (lv_at hl 0 rfl) ?_
                refine lv_aload_n hx hb dX9_next_157 rfl (lv_at hl 0 rfl) ?_
                refine va_get (D := D) (ci := 9) (v := .int (nI ta2_34)) (C := RX9) (T := TX9) (N := 8) hx hb hg i_X9 hown hK hP 1 rfl rfl 3 (by decide) (hg _ m_219) (fun _ h9 => h9) rfl dX9_next_158 ?_
                refine x_callVi (q := (RX9, TX9, 8)) (ci := 9) (q0 := 0) (wr := [(t2, .inl (cy 2, 24, .inr (.inl (fky))))]) (rest := [.ref t0]) ⟨hx, hb, hml, hown, hg, hl.1⟩ k_X9_48 (s_isLetter l D cy t0 t1 t2 tn ta2_34 aq1 tk tm tr2_35 fby ta2_34 (by omega) (by omega)) E0_blind hK hP hD hS hA [1, 2] [0] ⟨rfl, rfl, by decide +kernel, by decide +kernel, by decide +kernel⟩ rfl rfl (fun _ _ _ => trivial) dX9_next_161 rfl rfl (Nat.le_of_ble_eq_true rfl) ⟨Nat.le_of_ble_eq_true rfl, Nat.le_of_ble_eq_true rfl⟩ ⟨Nat.le_of_ble_eq_true rfl, Nat.le_of_ble_eq_true rfl⟩ (fun zr43 zu43 H locs hw43 hP9 hD9 hS9 => ?_)
                clear hP hD hS
                refine reW [(t2, .inl (cy 2, 24, .inr (.inl (fky)))), wO t0 9 [.ref t1, .ref t2, .int (nI tn), .int (nI ta2_34), .int (nI aq1), .int (nI tk), .long tm, .int tr2_35], wI (cy 0) t1 1600 (fby)] hP9 hD9 hS9 (fun hP hD hS => ?_)
                clear hP9 hD9 hS9
                refine W.widen (k := 0) (n := 0) (Nat.le_of_ble_eq_true rfl) (Nat.le_of_ble_eq_true rfl) ?_
                replace hw43 : ((zr43 = 1 ∧ (ta2_34 < tn ∧ isLt (fby ta2_34))) ∨ (zr43 = 0 ∧ (¬ (ta2_34 < tn ∧ isLt (fby ta2_34))))) := hw43
                have f_44 := hw43
                rcases f_44 with ⟨hz_46, a_45⟩ | ⟨hz_48, a_47⟩
                · subst hz_46
                  refine lv_if_eq (tgt := 171) hx hb dX9_next_164 (by decide) (fun h => absurd h (by decide)) (fun _ => ?_)
                  refine lv_iconst (v := 3) hx hb dX9_next_167 (by decide) ?_
                  refine lv_goto (tgt := 172) hx hb dX9_next_168 (by decide) ?_
                  refine va_put (D := D) (ci := 9) (v := .int 3) (ty := .int) (C := RX9) (T := TX9) (N := 8) hx hb hg i_X9 tyX9 tyX9_ok nmX9 hown hK hP hD hS 1 rfl rfl 5 (by decide) (hg _ m_223) (fun _ h9 => h9) rfl (by decide +kernel) rfl rfl (Nat.le_of_ble_eq_true rfl) dX9_next_172 (fun H locs hP9 hD9 hS9 => ?_)
                  clear hP hD hS
                  refine reW [(t2, .inl (cy 2, 24, .inr (.inl (fky)))), wO t0 9 [.ref t1, .ref t2, .int (nI tn), .int (nI ta2_34), .int (nI aq1), .int 3, .long tm, .int tr2_35], wI (cy 0) t1 1600 (fby)] hP9 hD9 hS9 (fun hP hD hS => ?_)
                  clear hP9 hD9 hS9
                  refine lv_goto (tgt := 221) hx hb dX9_next_175 (by decide) ?_
                  exact x_vret hQ hx hb hr hlocks hK hP hD hS dX9_next_221 (ta2_34, aq1, 3, tm, tr2_35) (⟨(show ta2_34 ≤ tn from (show tkC fby tn gn ta2_34 aq1 3 tm tr2_35 from tk_badn hss hnl_26 a_29 f_38 (Or.inr a_45)).2.1.symm ▸ fin_le (by omega)), (show 3 ≤ 123 from (show tkC fby tn gn ta2_34 aq1 3 tm tr2_35 from tk_badn hss hnl_26 a_29 f_38 (Or.inr a_45)).2.2.1.symm ▸ knd_le _ _ _), tk_badn hss hnl_26 a_29 f_38 (Or.inr a_45)⟩) [1, 2, 0] (by decide +kernel) rfl (Nat.le_of_ble_eq_true rfl) (Nat.le_of_ble_eq_true rfl)
                · subst hz_48
                  refine lv_if_eq (tgt := 171) hx hb dX9_next_164 (by decide) (fun _ => ?_) (fun h => absurd (by decide) h)
                  refine lv_iconst (v := 2) hx hb dX9_next_171 (by decide) ?_
                  refine va_put (D := D) (ci := 9) (v := .int 2) (ty := .int) (C := RX9) (T := TX9) (N := 8) hx hb hg i_X9 tyX9 tyX9_ok nmX9 hown hK hP hD hS 1 rfl rfl 5 (by decide) (hg _ m_223) (fun _ h9 => h9) rfl (by decide +kernel) rfl rfl (Nat.le_of_ble_eq_true rfl) dX9_next_172 (fun H locs hP9 hD9 hS9 => ?_)
                  clear hP hD hS
                  refine reW [(t2, .inl (cy 2, 24, .inr (.inl (fky)))), wO t0 9 [.ref t1, .ref t2, .int (nI tn), .int (nI ta2_34), .int (nI aq1), .int 2, .long tm, .int tr2_35], wI (cy 0) t1 1600 (fby)] hP9 hD9 hS9 (fun hP hD hS => ?_)
                  clear hP9 hD9 hS9
                  refine lv_goto (tgt := 221) hx hb dX9_next_175 (by decide) ?_
                  exact x_vret hQ hx hb hr hlocks hK hP hD hS dX9_next_221 (ta2_34, aq1, 2, tm, tr2_35) (⟨(show ta2_34 ≤ tn from (show tkC fby tn gn ta2_34 aq1 2 tm tr2_35 from tk_num hss hnl_26 a_29 f_38 f_39 (by omega) a_47).2.1.symm ▸ fin_le (by omega)), (show 2 ≤ 123 from (show tkC fby tn gn ta2_34 aq1 2 tm tr2_35 from tk_num hss hnl_26 a_29 f_38 f_39 (by omega) a_47).2.2.1.symm ▸ knd_le _ _ _), tk_num hss hnl_26 a_29 f_38 f_39 (by omega) a_47⟩) [1, 2, 0] (by decide +kernel) rfl (Nat.le_of_ble_eq_true rfl) (Nat.le_of_ble_eq_true rfl)
            · subst hz_32
              have hnd_49 := not_and_right a_31 (by omega)
              refine lv_if_eq (tgt := 178) hx hb dX9_next_135 (by decide) (fun _ => ?_) (fun h => absurd (by decide) h)
              refine lv_aload_n hx hb dX9_next_178 rfl (lv_at hl 0 rfl) ?_
              refine va_get (D := D) (ci := 9) (v := .ref t1) (C := RX9) (T := TX9) (N := 8) hx hb hg i_X9 hown hK hP 1 rfl rfl 0 (by decide) (hg _ m_215) (fun _ h9 => h9) rfl dX9_next_179 ?_
              refine lv_aload_n hx hb dX9_next_182 rfl (lv_at hl 0 rfl) ?_
              refine va_get (D := D) (ci := 9) (v := .int (nI aq1)) (C := RX9) (T := TX9) (N := 8) hx hb hg i_X9 hown hK hP 1 rfl rfl 3 (by decide) (hg _ m_219) (fun _ h9 => h9) rfl dX9_next_183 ?_
              refine va_bald hx hb hK hP 2 0 rfl rfl (vp_in_nI (by omega) (by decide)) dX9_next_186 ?_
              refine lv_topi (fun y_50 hy_50 => ?_)
              obtain rfl : y_50 = fby aq1 := hy_50.trans (by rw [nI_clamp (by omega)])
              refine lv_sipush (v := 255) hx hb dX9_next_187 (by decide) ?_
              refine lv_iand hx hb dX9_next_190 ?_
              refine lv_topi (fun x_51 ex_51 => ?_)
              obtain ⟨j_52, hj_52, ej_52⟩ := byU_of (fby aq1)
              obtain rfl : x_51 = nI j_52 := ex_51.trans ej_52.1
              refine lv_istore_n (lv' := [(1, .int (nI j_52)), (0, .ref t0)]) hx hb dX9_next_191 rfl hl (by decide) rfl (fun ls hl => ?_)
              refine lv_aload_n hx hb dX9_next_192 rfl (lv_at hl 1 rfl) ?_
              refine va_ldcS hx hb hown hE.2.2.2.2.2.2.2.2.2.2.2 dX9_next_193 ?_
              refine lv_iload_n hx hb dX9_next_195 rfl (lv_at hl 0 rfl) ?_
              obtain ⟨x_53, ex_53⟩ : ∃ y : Int32, ((nI j_52 : Int32).toUInt32 % 65536).toInt32 = y := ⟨_, rfl⟩
              refine lv_i2c (v := x_53) hx hb dX9_next_196 ex_53 ?_
              obtain rfl : x_53 = nI j_52 := ex_53.symm.trans (char_id (by omega))
              refine x_callOi (C := RJ0) (wr := [(t2, .inl (cy 2, 24, .inr (.inl (fky)))), wO t0 9 [.ref t1, .ref t2, .int (nI tn), .int (nI aq1), .int (nI aq1), .int (nI tk), .long tm, .int tr], wI (cy 0) t1 1600 (fby)]) (rest := [.ref t0]) ⟨hx, hb, hml, hown, hg, hl.1⟩ k_X9_71 (j_indexOf l D cy adK adV j_52 (by omega)) EV_blind hK hP hD hS hA [0, 1, 2] ⟨rfl, rfl, by decide +kernel, by decide +kernel, by decide +kernel⟩ (vk_recv (i := 1) hE.2.2.2.2.2.2.2.2.1 (by decide) hS) (fun U hU hW => EV_pass hE hS (va_free hD hS hA [] rfl) hU hW) dX9_next_197 rfl rfl (Nat.le_of_ble_eq_true rfl) ⟨Nat.le_of_ble_eq_true rfl, Nat.le_of_ble_eq_true rfl⟩ ⟨Nat.le_of_ble_eq_true rfl, Nat.le_of_ble_eq_true rfl⟩ (fun zr54 zu54 H locs hw54 hP9 hD9 hS9 => ?_)
              clear hP hD hS
              obtain ⟨jr_55, rfl⟩ : ∃ z, z = zu54 := ⟨_, rfl⟩
              refine reW [(t2, .inl (cy 2, 24, .inr (.inl (fky)))), wO t0 9 [.ref t1, .ref t2, .int (nI tn), .int (nI aq1), .int (nI aq1), .int (nI tk), .long tm, .int tr], wI (cy 0) t1 1600 (fby)] hP9 hD9 hS9 (fun hP hD hS => ?_)
              clear hP9 hD9 hS9
              refine W.widen (k := 0) (n := 0) (Nat.le_of_ble_eq_true rfl) (Nat.le_of_ble_eq_true rfl) ?_
              replace hw54 : ((zr54 = nI jr_55 ∧ (jr_55 < 11 ∧ nI j_52 = kS.getD jr_55 0)) ∨ (zr54 = -1 ∧ (noSg j_52 11))) := hw54
              have f_56 := hw54
              rcases f_56 with ⟨hz_58, a_57⟩ | ⟨hz_60, a_59⟩
              · subst hz_58
                refine lv_if_lt (tgt := 207) hx hb dX9_next_200 (by decide) (fun h => absurd h (nI_pos (by omega))) (fun _ => ?_)
                refine lv_iload_n hx hb dX9_next_203 rfl (lv_at hl 0 rfl) ?_
                refine lv_goto (tgt := 208) hx hb dX9_next_204 (by decide) ?_
                refine va_put (D := D) (ci := 9) (v := .int (nI j_52)) (ty := .int) (C := RX9) (T := TX9) (N := 8) hx hb hg i_X9 tyX9 tyX9_ok nmX9 hown hK hP hD hS 1 rfl rfl 5 (by decide) (hg _ m_223) (fun _ h9 => h9) rfl (by decide +kernel) rfl rfl (Nat.le_of_ble_eq_true rfl) dX9_next_208 (fun H locs hP9 hD9 hS9 => ?_)
                clear hP hD hS
                refine reW [(t2, .inl (cy 2, 24, .inr (.inl (fky)))), wO t0 9 [.ref t1, .ref t2, .int (nI tn), .int (nI aq1), .int (nI aq1), .int (nI j_52), .long tm, .int tr], wI (cy 0) t1 1600 (fby)] hP9 hD9 hS9 (fun hP hD hS => ?_)
                clear hP9 hD9 hS9
                refine lv_aload_n hx hb dX9_next_211 rfl (lv_at hl 1 rfl) ?_
                refine lv_dup hx hb dX9_next_212 rfl ?_
                refine va_get (D := D) (ci := 9) (v := .int (nI aq1)) (C := RX9) (T := TX9) (N := 8) hx hb hg i_X9 hown hK hP 1 rfl rfl 3 (by decide) (hg _ m_219) (fun _ h9 => h9) rfl dX9_next_213 ?_
                refine lv_iconst (v := 1) hx hb dX9_next_216 (by decide) ?_
                refine lv_iadd hx hb dX9_next_217 ?_
                refine lv_topi (fun y_61 hy_61 => ?_)
                obtain rfl : y_61 = nI (aq1 + 1) := hy_61.trans (nI_add aq1 1)
                refine va_put (D := D) (ci := 9) (v := .int (nI (aq1 + 1))) (ty := .int) (C := RX9) (T := TX9) (N := 8) hx hb hg i_X9 tyX9 tyX9_ok nmX9 hown hK hP hD hS 1 rfl rfl 3 (by decide) (hg _ m_219) (fun _ h9 => h9) rfl (by decide +kernel) rfl rfl (Nat.le_of_ble_eq_true rfl) dX9_next_218 (fun H locs hP9 hD9 hS9 => ?_)
                clear hP hD hS
                refine reW [(t2, .inl (cy 2, 24, .inr (.inl (fky)))), wO t0 9 [.ref t1, .ref t2, .int (nI tn), .int (nI (aq1 + 1)), .int (nI aq1), .int (nI j_52), .long tm, .int tr], wI (cy 0) t1 1600 (fby)] hP9 hD9 hS9 (fun hP hD hS => ?_)
                clear hP9 hD9 hS9
                exact x_vret hQ hx hb hr hlocks hK hP hD hS dX9_next_221 ((aq1 + 1), aq1, j_52, tm, tr) (⟨(show (aq1 + 1) ≤ tn from (show tkC fby tn gn ((aq1 + 1)) aq1 j_52 tm tr from tk_sgn hss (by omega) hnl_26 hnd_49 ej_52 (sgK_y ⟨_, a_57⟩ (by omega))).2.1.symm ▸ fin_le (by omega)), (show j_52 ≤ 123 from (show tkC fby tn gn ((aq1 + 1)) aq1 j_52 tm tr from tk_sgn hss (by omega) hnl_26 hnd_49 ej_52 (sgK_y ⟨_, a_57⟩ (by omega))).2.2.1.symm ▸ knd_le _ _ _), tk_sgn hss (by omega) hnl_26 hnd_49 ej_52 (sgK_y ⟨_, a_57⟩ (by omega))⟩) [1, 2, 0] (by decide +kernel) rfl (Nat.le_of_ble_eq_true rfl) (Nat.le_of_ble_eq_true rfl)
              · subst hz_60
                refine lv_if_lt (tgt := 207) hx hb dX9_next_200 (by decide) (fun _ => ?_) (fun h => absurd (by decide) h)
                refine lv_iconst (v := 3) hx hb dX9_next_207 (by decide) ?_
                refine va_put (D := D) (ci := 9) (v := .int 3) (ty := .int) (C := RX9) (T := TX9) (N := 8) hx hb hg i_X9 tyX9 tyX9_ok nmX9 hown hK hP hD hS 1 rfl rfl 5 (by decide) (hg _ m_223) (fun _ h9 => h9) rfl (by decide +kernel) rfl rfl (Nat.le_of_ble_eq_true rfl) dX9_next_208 (fun H locs hP9 hD9 hS9 => ?_)
                clear hP hD hS
                refine reW [(t2, .inl (cy 2, 24, .inr (.inl (fky)))), wO t0 9 [.ref t1, .ref t2, .int (nI tn), .int (nI aq1), .int (nI aq1), .int 3, .long tm, .int tr], wI (cy 0) t1 1600 (fby)] hP9 hD9 hS9 (fun hP hD hS => ?_)
                clear hP9 hD9 hS9
                refine lv_aload_n hx hb dX9_next_211 rfl (lv_at hl 1 rfl) ?_
                refine lv_dup hx hb dX9_next_212 rfl ?_
                refine va_get (D := D) (ci := 9) (v := .int (nI aq1)) (C := RX9) (T := TX9) (N := 8) hx hb hg i_X9 hown hK hP 1 rfl rfl 3 (by decide) (hg _ m_219) (fun _ h9 => h9) rfl dX9_next_213 ?_
                refine lv_iconst (v := 1) hx hb dX9_next_216 (by decide) ?_
                refine lv_iadd hx hb dX9_next_217 ?_
                refine lv_topi (fun y_62 hy_62 => ?_)
                obtain rfl : y_62 = nI (aq1 + 1) := hy_62.trans (nI_add aq1 1)
                refine va_put (D := D) (ci := 9) (v := .int (nI (aq1 + 1))) (ty := .int) (C := RX9) (T := TX9) (N := 8) hx hb hg i_X9 tyX9 tyX9_ok nmX9 hown hK hP hD hS 1 rfl rfl 3 (by decide) (hg _ m_219) (fun _ h9 => h9) rfl (by decide +kernel) rfl rfl (Nat.le_of_ble_eq_true rfl) dX9_next_218 (fun H locs hP9 hD9 hS9 => ?_)
                clear hP hD hS
                refine reW [(t2, .inl (cy 2, 24, .inr (.inl (fky)))), wO t0 9 [.ref t1, .ref t2, .int (nI tn), .int (nI (aq1 + 1)), .int (nI aq1), .int 3, .long tm, .int tr], wI (cy 0) t1 1600 (fby)] hP9 hD9 hS9 (fun hP hD hS => ?_)
                clear hP9 hD9 hS9
                exact x_vret hQ hx hb hr hlocks hK hP hD hS dX9_next_221 ((aq1 + 1), aq1, 3, tm, tr) (⟨(show (aq1 + 1) ≤ tn from (show tkC fby tn gn ((aq1 + 1)) aq1 3 tm tr from tk_sgb hss (by omega) hnl_26 hnd_49 ej_52 (sgK_n a_59 (by omega))).2.1.symm ▸ fin_le (by omega)), (show 3 ≤ 123 from (show tkC fby tn gn ((aq1 + 1)) aq1 3 tm tr from tk_sgb hss (by omega) hnl_26 hnd_49 ej_52 (sgK_n a_59 (by omega))).2.2.1.symm ▸ knd_le _ _ _), tk_sgb hss (by omega) hnl_26 hnd_49 ej_52 (sgK_n a_59 (by omega))⟩) [1, 2, 0] (by decide +kernel) rfl (Nat.le_of_ble_eq_true rfl) (Nat.le_of_ble_eq_true rfl)
        · have q_5 : tn ≤ aq1 := q_nlt (a := aq1) (b := tn) rfl rfl (by omega) (by omega) c_4
          refine lv_aload_n hx hb dX9_next_71 rfl (lv_at hl 0 rfl) ?_
          refine lv_iconst (v := 0) hx hb dX9_next_72 (by decide) ?_
          refine va_put (D := D) (ci := 9) (v := .int 0) (ty := .int) (C := RX9) (T := TX9) (N := 8) hx hb hg i_X9 tyX9 tyX9_ok nmX9 hown hK hP hD hS 0 rfl rfl 5 (by decide) (hg _ m_223) (fun _ h9 => h9) rfl (by decide +kernel) rfl rfl (Nat.le_of_ble_eq_true rfl) dX9_next_73 (fun H locs hP9 hD9 hS9 => ?_)
          clear hP hD hS
          refine reW [wO t0 9 [.ref t1, .ref t2, .int (nI tn), .int (nI aq1), .int (nI aq1), .int 0, .long tm, .int tr], wI (cy 0) t1 1600 (fby), (t2, .inl (cy 2, 24, .inr (.inl (fky))))] hP9 hD9 hS9 (fun hP hD hS => ?_)
          clear hP9 hD9 hS9
          refine lv_goto (tgt := 221) hx hb dX9_next_76 (by decide) ?_
          exact x_vret hQ hx hb hr hlocks hK hP hD hS dX9_next_221 (aq1, aq1, 0, tm, tr) (⟨(show aq1 ≤ tn from (show tkC fby tn gn aq1 aq1 0 tm tr from tk_end hss (by omega)).2.1.symm ▸ fin_le (by omega)), (show 0 ≤ 123 from (show tkC fby tn gn aq1 aq1 0 tm tr from tk_end hss (by omega)).2.2.1.symm ▸ knd_le _ _ _), tk_end hss (by omega)⟩) [0, 1, 2] (by decide +kernel) rfl (Nat.le_of_ble_eq_true rfl) (Nat.le_of_ble_eq_true rfl)
      · have q_3 : aq1 < tn := q_nle (a := tn) (b := aq1) rfl rfl (by omega) (by omega) c_2
        refine lv_aload_n hx hb dX9_next_11 rfl (lv_at hl 0 rfl) ?_
        refine va_get (D := D) (ci := 9) (v := .ref t1) (C := RX9) (T := TX9) (N := 8) hx hb hg i_X9 hown hK hP 0 rfl rfl 0 (by decide) (hg _ m_215) (fun _ h9 => h9) rfl dX9_next_12 ?_
        refine lv_aload_n hx hb dX9_next_15 rfl (lv_at hl 0 rfl) ?_
        refine va_get (D := D) (ci := 9) (v := .int (nI aq1)) (C := RX9) (T := TX9) (N := 8) hx hb hg i_X9 hown hK hP 0 rfl rfl 3 (by decide) (hg _ m_219) (fun _ h9 => h9) rfl dX9_next_16 ?_
        refine va_bald hx hb hK hP 1 0 rfl rfl (vp_in_nI (by omega) (by decide)) dX9_next_19 ?_
        refine lv_topi (fun y_63 hy_63 => ?_)
        obtain rfl : y_63 = fby aq1 := hy_63.trans (by rw [nI_clamp (by omega)])
        refine lv_bipush (v := 32) hx hb dX9_next_20 (by decide) ?_
        refine lv_icmp_eq (tgt := 39) hx hb dX9_next_22 (by decide) (fun c_22 => ?_) (fun c_22 => ?_)
        · refine lv_aload_n hx hb dX9_next_39 rfl (lv_at hl 0 rfl) ?_
          refine lv_dup hx hb dX9_next_40 rfl ?_
          refine va_get (D := D) (ci := 9) (v := .int (nI aq1)) (C := RX9) (T := TX9) (N := 8) hx hb hg i_X9 hown hK hP 0 rfl rfl 3 (by decide) (hg _ m_219) (fun _ h9 => h9) rfl dX9_next_41 ?_
          refine lv_iconst (v := 1) hx hb dX9_next_44 (by decide) ?_
          refine lv_iadd hx hb dX9_next_45 ?_
          refine lv_topi (fun y_64 hy_64 => ?_)
          obtain rfl : y_64 = nI (aq1 + 1) := hy_64.trans (nI_add aq1 1)
          refine va_put (D := D) (ci := 9) (v := .int (nI (aq1 + 1))) (ty := .int) (C := RX9) (T := TX9) (N := 8) hx hb hg i_X9 tyX9 tyX9_ok nmX9 hown hK hP hD hS 0 rfl rfl 3 (by decide) (hg _ m_219) (fun _ h9 => h9) rfl (by decide +kernel) rfl rfl (Nat.le_of_ble_eq_true rfl) dX9_next_46 (fun H locs hP9 hD9 hS9 => ?_)
          clear hP hD hS
          refine reW [wO t0 9 [.ref t1, .ref t2, .int (nI tn), .int (nI (aq1 + 1)), .int (nI ts), .int (nI tk), .long tm, .int tr], wI (cy 0) t1 1600 (fby), (t2, .inl (cy 2, 24, .inr (.inl (fky))))] hP9 hD9 hS9 (fun hP hD hS => ?_)
          clear hP9 hD9 hS9
          refine lv_goto (tgt := 0) hx hb dX9_next_49 (by decide) ?_
          exact ih1  ((aq1 + 1)) (by omega) ((stt_go (by omega) (Or.inl c_22)).symm.trans hf1_1) (by omega) _ _ (hP.sub [0, 1, 2] rfl) (hD.sub [0, 1, 2] (by decide +kernel) rfl) hS ls (lv_sub hl [0] rfl)
        · refine lv_aload_n hx hb dX9_next_25 rfl (lv_at hl 0 rfl) ?_
          refine va_get (D := D) (ci := 9) (v := .ref t1) (C := RX9) (T := TX9) (N := 8) hx hb hg i_X9 hown hK hP 0 rfl rfl 0 (by decide) (hg _ m_215) (fun _ h9 => h9) rfl dX9_next_26 ?_
          refine lv_aload_n hx hb dX9_next_29 rfl (lv_at hl 0 rfl) ?_
          refine va_get (D := D) (ci := 9) (v := .int (nI aq1)) (C := RX9) (T := TX9) (N := 8) hx hb hg i_X9 hown hK hP 0 rfl rfl 3 (by decide) (hg _ m_219) (fun _ h9 => h9) rfl dX9_next_30 ?_
          refine va_bald hx hb hK hP 1 0 rfl rfl (vp_in_nI (by omega) (by decide)) dX9_next_33 ?_
          refine lv_topi (fun y_65 hy_65 => ?_)
          obtain rfl : y_65 = fby aq1 := hy_65.trans (by rw [nI_clamp (by omega)])
          refine lv_bipush (v := 10) hx hb dX9_next_34 (by decide) ?_
          refine lv_icmp_ne (tgt := 52) hx hb dX9_next_36 (by decide) (fun c_36 => ?_) (fun c_36 => ?_)
          · have hss : stt fby tn gn = aq1 := hf1_1.symm.trans (stt_no (Or.inr (fun h9 => h9.elim c_22 c_36)))
            refine lv_aload_n hx hb dX9_next_52 rfl (lv_at hl 0 rfl) ?_
            refine lv_aload_n hx hb dX9_next_53 rfl (lv_at hl 0 rfl) ?_
            refine va_get (D := D) (ci := 9) (v := .int (nI aq1)) (C := RX9) (T := TX9) (N := 8) hx hb hg i_X9 hown hK hP 0 rfl rfl 3 (by decide) (hg _ m_219) (fun _ h9 => h9) rfl dX9_next_54 ?_
            refine va_put (D := D) (ci := 9) (v := .int (nI aq1)) (ty := .int) (C := RX9) (T := TX9) (N := 8) hx hb hg i_X9 tyX9 tyX9_ok nmX9 hown hK hP hD hS 0 rfl rfl 4 (by decide) (hg _ m_221) (fun _ h9 => h9) rfl (by decide +kernel) rfl rfl (Nat.le_of_ble_eq_true rfl) dX9_next_57 (fun H locs hP9 hD9 hS9 => ?_)
            clear hP hD hS
            refine reW [wO t0 9 [.ref t1, .ref t2, .int (nI tn), .int (nI aq1), .int (nI aq1), .int (nI tk), .long tm, .int tr], wI (cy 0) t1 1600 (fby), (t2, .inl (cy 2, 24, .inr (.inl (fky))))] hP9 hD9 hS9 (fun hP hD hS => ?_)
            clear hP9 hD9 hS9
            refine lv_aload_n hx hb dX9_next_60 rfl (lv_at hl 0 rfl) ?_
            refine va_get (D := D) (ci := 9) (v := .int (nI aq1)) (C := RX9) (T := TX9) (N := 8) hx hb hg i_X9 hown hK hP 0 rfl rfl 3 (by decide) (hg _ m_219) (fun _ h9 => h9) rfl dX9_next_61 ?_
            refine lv_aload_n hx hb dX9_next_64 rfl (lv_at hl 0 rfl) ?_
            refine va_get (D := D) (ci := 9) (v := .int (nI tn)) (C := RX9) (T := TX9) (N := 8) hx hb hg i_X9 hown hK hP 0 rfl rfl 2 (by decide) (hg _ m_218) (fun _ h9 => h9) rfl dX9_next_65 ?_
            refine lv_icmp_lt (tgt := 79) hx hb dX9_next_68 (by decide) (fun c_66 => ?_) (fun c_66 => ?_)
            · have q_67 : aq1 < tn := q_lt (a := aq1) (b := tn) rfl rfl (by omega) (by omega) c_66
              refine lv_aload_n hx hb dX9_next_79 rfl (lv_at hl 0 rfl) ?_
              refine lv_aload_n hx hb dX9_next_80 rfl (lv_at hl 0 rfl) ?_
              refine va_get (D := D) (ci := 9) (v := .int (nI aq1)) (C := RX9) (T := TX9) (N := 8) hx hb hg i_X9 hown hK hP 0 rfl rfl 3 (by decide) (hg _ m_219) (fun _ h9 => h9) rfl dX9_next_81 ?_
              refine x_callVi (q := (RX9, TX9, 8)) (ci := 9) (q0 := 0) (wr := [(t2, .inl (cy 2, 24, .inr (.inl (fky))))]) (rest := []) ⟨hx, hb, hml, hown, hg, hl.1⟩ k_X9_48 (s_isLetter l D cy t0 t1 t2 tn aq1 aq1 tk tm tr fby aq1 (by omega) (by omega)) E0_blind hK hP hD hS hA [0, 1] [2] ⟨rfl, rfl, by decide +kernel, by decide +kernel, by decide +kernel⟩ rfl rfl (fun _ _ _ => trivial) dX9_next_84 rfl rfl (Nat.le_of_ble_eq_true rfl) ⟨Nat.le_of_ble_eq_true rfl, Nat.le_of_ble_eq_true rfl⟩ ⟨Nat.le_of_ble_eq_true rfl, Nat.le_of_ble_eq_true rfl⟩ (fun zr68 zu68 H locs hw68 hP9 hD9 hS9 => ?_)
              clear hP hD hS
              refine reW [(t2, .inl (cy 2, 24, .inr (.inl (fky)))), wO t0 9 [.ref t1, .ref t2, .int (nI tn), .int (nI aq1), .int (nI aq1), .int (nI tk), .long tm, .int tr], wI (cy 0) t1 1600 (fby)] hP9 hD9 hS9 (fun hP hD hS => ?_)
              clear hP9 hD9 hS9
              refine W.widen (k := 0) (n := 0) (Nat.le_of_ble_eq_true rfl) (Nat.le_of_ble_eq_true rfl) ?_
              replace hw68 : ((zr68 = 1 ∧ (aq1 < tn ∧ isLt (fby aq1))) ∨ (zr68 = 0 ∧ (¬ (aq1 < tn ∧ isLt (fby aq1))))) := hw68
              have f_69 := hw68
              rcases f_69 with ⟨hz_71, a_70⟩ | ⟨hz_73, a_72⟩
              · subst hz_71
                refine lv_if_eq (tgt := 127) hx hb dX9_next_87 (by decide) (fun h => absurd h (by decide)) (fun _ => ?_)
                refine lv_aload_n hx hb dX9_next_90 rfl (lv_at hl 0 rfl) ?_
                refine x_callVv (q := (RX9, TX9, 8)) (ci := 9) (q0 := 0) (wr := [(t2, .inl (cy 2, 24, .inr (.inl (fky))))]) (rest := []) ⟨hx, hb, hml, hown, hg, hl.1⟩ k_X9_52 (s_readWord l D cy t0 t1 t2 tn aq1 aq1 tk tm tr fby (by omega) (by omega)) E0_blind hK hP hD hS hA [1, 2] [0] ⟨rfl, rfl, by decide +kernel, by decide +kernel, by decide +kernel⟩ rfl rfl (fun _ _ _ => trivial) dX9_next_91 rfl rfl (Nat.le_of_ble_eq_true rfl) ⟨Nat.le_of_ble_eq_true rfl, Nat.le_of_ble_eq_true rfl⟩ ⟨Nat.le_of_ble_eq_true rfl, Nat.le_of_ble_eq_true rfl⟩ (fun zu74 H locs hw74 hP9 hD9 hS9 => ?_)
                clear hP hD hS
                obtain ⟨ta2_75, tm2_76⟩ := zu74
                refine reW [(t2, .inl (cy 2, 24, .inr (.inl (fky)))), wO t0 9 [.ref t1, .ref t2, .int (nI tn), .int (nI ta2_75), .int (nI aq1), .int (nI tk), .long tm2_76, .int tr], wI (cy 0) t1 1600 (fby)] hP9 hD9 hS9 (fun hP hD hS => ?_)
                clear hP9 hD9 hS9
                refine W.widen (k := 0) (n := 0) (Nat.le_of_ble_eq_true rfl) (Nat.le_of_ble_eq_true rfl) ?_
                replace hw74 : (aq1 ≤ ta2_75) ∧ (ta2_75 ≤ tn) ∧ (ta2_75 = wen fby tn aq1) ∧ (tm2_76 = c27 fby aq1 (ta2_75 - aq1)) := hw74
                obtain ⟨f_77, f_78, f_79, f_80⟩ := hw74
                refine lv_aload_n hx hb dX9_next_94 rfl (lv_at hl 0 rfl) ?_
                refine lv_aload_n hx hb dX9_next_95 rfl (lv_at hl 0 rfl) ?_
                refine va_get (D := D) (ci := 9) (v := .int (nI ta2_75)) (C := RX9) (T := TX9) (N := 8) hx hb hg i_X9 hown hK hP 1 rfl rfl 3 (by decide) (hg _ m_219) (fun _ h9 => h9) rfl dX9_next_96 ?_
                refine lv_aload_n hx hb dX9_next_99 rfl (lv_at hl 0 rfl) ?_
                refine va_get (D := D) (ci := 9) (v := .int (nI aq1)) (C := RX9) (T := TX9) (N := 8) hx hb hg i_X9 hown hK hP 1 rfl rfl 4 (by decide) (hg _ m_221) (fun _ h9 => h9) rfl dX9_next_100 ?_
                refine lv_isub hx hb dX9_next_103 ?_
                refine lv_topi (fun y_81 hy_81 => ?_)
                obtain rfl : y_81 = nI (ta2_75 - aq1) := hy_81.trans (pk_sub (a := ta2_75) (b := aq1) (by omega))
                refine lv_bipush (v := 8) hx hb dX9_next_104 (by decide) ?_
                refine lv_icmp_le (tgt := 113) hx hb dX9_next_106 (by decide) (fun c_82 => ?_) (fun c_82 => ?_)
                · have q_83 : (ta2_75 - aq1) ≤ 8 := q_le (a := (ta2_75 - aq1)) (b := 8) rfl rfl (by omega) (by omega) c_82
                  refine lv_aload_n hx hb dX9_next_113 rfl (lv_at hl 0 rfl) ?_
                  refine lv_aload_n hx hb dX9_next_114 rfl (lv_at hl 0 rfl) ?_
                  refine va_get (D := D) (ci := 9) (v := .long tm2_76) (C := RX9) (T := TX9) (N := 8) hx hb hg i_X9 hown hK hP 1 rfl rfl 6 (by decide) (hg _ m_224) (fun _ h9 => h9) rfl dX9_next_115 ?_
                  refine x_callVi (q := (RX9, TX9, 8)) (ci := 9) (q0 := 0) (wr := [wI (cy 0) t1 1600 (fby)]) (rest := [.ref t0]) ⟨hx, hb, hml, hown, hg, hl.1⟩ k_X9_59 (s_kindOf l D cy t0 t1 t2 tn ta2_75 aq1 tk tm2_76 tr fky tm2_76 (hky)) E0_blind hK hP hD hS hA [1, 0] [2] ⟨rfl, rfl, by decide +kernel, by decide +kernel, by decide +kernel⟩ rfl rfl (fun _ _ _ => trivial) dX9_next_118 rfl rfl (Nat.le_of_ble_eq_true rfl) ⟨Nat.le_of_ble_eq_true rfl, Nat.le_of_ble_eq_true rfl⟩ ⟨Nat.le_of_ble_eq_true rfl, Nat.le_of_ble_eq_true rfl⟩ (fun zr84 zu84 H locs hw84 hP9 hD9 hS9 => ?_)
                  clear hP hD hS
                  obtain ⟨k_85, rfl⟩ : ∃ z, z = zu84 := ⟨_, rfl⟩
                  refine reW [wI (cy 0) t1 1600 (fby), wO t0 9 [.ref t1, .ref t2, .int (nI tn), .int (nI ta2_75), .int (nI aq1), .int (nI tk), .long tm2_76, .int tr], (t2, .inl (cy 2, 24, .inr (.inl (fky))))] hP9 hD9 hS9 (fun hP hD hS => ?_)
                  clear hP9 hD9 hS9
                  refine W.widen (k := 0) (n := 0) (Nat.le_of_ble_eq_true rfl) (Nat.le_of_ble_eq_true rfl) ?_
                  replace hw84 : (zr84 = nI k_85) ∧ (k_85 = kof tm2_76) := hw84
                  obtain ⟨f_86, f_87⟩ := hw84
                  subst f_86
                  refine va_put (D := D) (ci := 9) (v := .int (nI k_85)) (ty := .int) (C := RX9) (T := TX9) (N := 8) hx hb hg i_X9 tyX9 tyX9_ok nmX9 hown hK hP hD hS 1 rfl rfl 5 (by decide) (hg _ m_223) (fun _ h9 => h9) rfl (by decide +kernel) rfl rfl (Nat.le_of_ble_eq_true rfl) dX9_next_121 (fun H locs hP9 hD9 hS9 => ?_)
                  clear hP hD hS
                  refine reW [wI (cy 0) t1 1600 (fby), wO t0 9 [.ref t1, .ref t2, .int (nI tn), .int (nI ta2_75), .int (nI aq1), .int (nI k_85), .long tm2_76, .int tr], (t2, .inl (cy 2, 24, .inr (.inl (fky))))] hP9 hD9 hS9 (fun hP hD hS => ?_)
                  clear hP9 hD9 hS9
                  refine lv_goto (tgt := 221) hx hb dX9_next_124 (by decide) ?_
                  exact x_vret hQ hx hb hr hlocks hK hP hD hS dX9_next_221 (ta2_75, aq1, k_85, tm2_76, tr) (⟨(show ta2_75 ≤ tn from (show tkC fby tn gn ta2_75 aq1 k_85 tm2_76 tr from tk_word hss a_70 f_79 f_80 f_87 (by omega)).2.1.symm ▸ fin_le (by omega)), (show k_85 ≤ 123 from (show tkC fby tn gn ta2_75 aq1 k_85 tm2_76 tr from tk_word hss a_70 f_79 f_80 f_87 (by omega)).2.2.1.symm ▸ knd_le _ _ _), tk_word hss a_70 f_79 f_80 f_87 (by omega)⟩) [1, 0, 2] (by decide +kernel) rfl (Nat.le_of_ble_eq_true rfl) (Nat.le_of_ble_eq_true rfl)
                · have q_83 : 8 < (ta2_75 - aq1) := q_nle (a := (ta2_75 - aq1)) (b := 8) rfl rfl (by omega) (by omega) c_82
                  refine lv_iconst (v := 3) hx hb dX9_next_109 (by decide) ?_
                  refine lv_goto (tgt := 121) hx hb dX9_next_110 (by decide) ?_
                  refine va_put (D := D) (ci := 9) (v := .int 3) (ty := .int) (C := RX9) (T := TX9) (N := 8) hx hb hg i_X9 tyX9 tyX9_ok nmX9 hown hK hP hD hS 1 rfl rfl 5 (by decide) (hg _ m_223) (fun _ h9 => h9) rfl (by decide +kernel) rfl rfl (Nat.le_of_ble_eq_true rfl) dX9_next_121 (fun H locs hP9 hD9 hS9 => ?_)
                  clear hP hD hS
                  refine reW [(t2, .inl (cy 2, 24, .inr (.inl (fky)))), wO t0 9 [.ref t1, .ref t2, .int (nI tn), .int (nI ta2_75), .int (nI aq1), .int 3, .long tm2_76, .int tr], wI (cy 0) t1 1600 (fby)] hP9 hD9 hS9 (fun hP hD hS => ?_)
                  clear hP9 hD9 hS9
                  refine lv_goto (tgt := 221) hx hb dX9_next_124 (by decide) ?_
                  exact x_vret hQ hx hb hr hlocks hK hP hD hS dX9_next_221 (ta2_75, aq1, 3, tm2_76, tr) (⟨(show ta2_75 ≤ tn from (show tkC fby tn gn ta2_75 aq1 3 tm2_76 tr from tk_long hss a_70 f_79 (by omega)).2.1.symm ▸ fin_le (by omega)), (show 3 ≤ 123 from (show tkC fby tn gn ta2_75 aq1 3 tm2_76 tr from tk_long hss a_70 f_79 (by omega)).2.2.1.symm ▸ knd_le _ _ _), tk_long hss a_70 f_79 (by omega)⟩) [1, 2, 0] (by decide +kernel) rfl (Nat.le_of_ble_eq_true rfl) (Nat.le_of_ble_eq_true rfl)
              · subst hz_73
                have hnl_88 := not_and_right a_72 (by omega)
                refine lv_if_eq (tgt := 127) hx hb dX9_next_87 (by decide) (fun _ => ?_) (fun h => absurd (by decide) h)
                refine lv_aload_n hx hb dX9_next_127 rfl (lv_at hl 0 rfl) ?_
                refine lv_aload_n hx hb dX9_next_128 rfl (lv_at hl 0 rfl) ?_
                refine va_get (D := D) (ci := 9) (v := .int (nI aq1)) (C := RX9) (T := TX9) (N := 8) hx hb hg i_X9 hown hK hP 1 rfl rfl 3 (by decide) (hg _ m_219) (fun _ h9 => h9) rfl dX9_next_129 ?_
                refine x_callVi (q := (RX9, TX9, 8)) (ci := 9) (q0 := 0) (wr := [(t2, .inl (cy 2, 24, .inr (.inl (fky))))]) (rest := []) ⟨hx, hb, hml, hown, hg, hl.1⟩ k_X9_63 (s_isDigit l D cy t0 t1 t2 tn aq1 aq1 tk tm tr fby aq1 (by omega) (by omega)) E0_blind hK hP hD hS hA [1, 2] [0] ⟨rfl, rfl, by decide +kernel, by decide +kernel, by decide +kernel⟩ rfl rfl (fun _ _ _ => trivial) dX9_next_132 rfl rfl (Nat.le_of_ble_eq_true rfl) ⟨Nat.le_of_ble_eq_true rfl, Nat.le_of_ble_eq_true rfl⟩ ⟨Nat.le_of_ble_eq_true rfl, Nat.le_of_ble_eq_true rfl⟩ (fun zr89 zu89 H locs hw89 hP9 hD9 hS9 => ?_)
                clear hP hD hS
                refine reW [(t2, .inl (cy 2, 24, .inr (.inl (fky)))), wO t0 9 [.ref t1, .ref t2, .int (nI tn), .int (nI aq1), .int (nI aq1), .int (nI tk), .long tm, .int tr], wI (cy 0) t1 1600 (fby)] hP9 hD9 hS9 (fun hP hD hS => ?_)
                clear hP9 hD9 hS9
                refine W.widen (k := 0) (n := 0) (Nat.le_of_ble_eq_true rfl) (Nat.le_of_ble_eq_true rfl) ?_
                replace hw89 : ((zr89 = 1 ∧ (aq1 < tn ∧ isDg (fby aq1))) ∨ (zr89 = 0 ∧ (¬ (aq1 < tn ∧ isDg (fby aq1))))) := hw89
                have f_90 := hw89
                rcases f_90 with ⟨hz_92, a_91⟩ | ⟨hz_94, a_93⟩
                · subst hz_92
                  refine lv_if_eq (tgt := 178) hx hb dX9_next_135 (by decide) (fun h => absurd h (by decide)) (fun _ => ?_)
                  refine lv_aload_n hx hb dX9_next_138 rfl (lv_at hl 0 rfl) ?_
                  refine x_callVv (q := (RX9, TX9, 8)) (ci := 9) (q0 := 0) (wr := [(t2, .inl (cy 2, 24, .inr (.inl (fky))))]) (rest := []) ⟨hx, hb, hml, hown, hg, hl.1⟩ k_X9_66 (s_readNumber l D cy t0 t1 t2 tn aq1 aq1 tk tm tr fby (by omega) (by omega)) E0_blind hK hP hD hS hA [1, 2] [0] ⟨rfl, rfl, by decide +kernel, by decide +kernel, by decide +kernel⟩ rfl rfl (fun _ _ _ => trivial) dX9_next_139 rfl rfl (Nat.le_of_ble_eq_true rfl) ⟨Nat.le_of_ble_eq_true rfl, Nat.le_of_ble_eq_true rfl⟩ ⟨Nat.le_of_ble_eq_true rfl, Nat.le_of_ble_eq_true rfl⟩ (fun zu95 H locs hw95 hP9 hD9 hS9 => ?_)
                  clear hP hD hS
                  obtain ⟨ta2_96, tr2_97⟩ := zu95
                  refine reW [(t2, .inl (cy 2, 24, .inr (.inl (fky)))), wO t0 9 [.ref t1, .ref t2, .int (nI tn), .int (nI ta2_96), .int (nI aq1), .int (nI tk), .long tm, .int tr2_97], wI (cy 0) t1 1600 (fby)] hP9 hD9 hS9 (fun hP hD hS => ?_)
                  clear hP9 hD9 hS9
                  refine W.widen (k := 0) (n := 0) (Nat.le_of_ble_eq_true rfl) (Nat.le_of_ble_eq_true rfl) ?_
                  replace hw95 : (aq1 ≤ ta2_96) ∧ (ta2_96 ≤ tn) ∧ (ta2_96 = den fby tn aq1) ∧ (tr2_97 = dec10 fby aq1 (ta2_96 - aq1)) := hw95
                  obtain ⟨f_98, f_99, f_100, f_101⟩ := hw95
                  refine lv_aload_n hx hb dX9_next_142 rfl (lv_at hl 0 rfl) ?_
                  refine lv_aload_n hx hb dX9_next_143 rfl (lv_at hl 0 rfl) ?_
                  refine va_get (D := D) (ci := 9) (v := .int (nI ta2_96)) (C := RX9) (T := TX9) (N := 8) hx hb hg i_X9 hown hK hP 1 rfl rfl 3 (by decide) (hg _ m_219) (fun _ h9 => h9) rfl dX9_next_144 ?_
                  refine lv_aload_n hx hb dX9_next_147 rfl (lv_at hl 0 rfl) ?_
                  refine va_get (D := D) (ci := 9) (v := .int (nI aq1)) (C := RX9) (T := TX9) (N := 8) hx hb hg i_X9 hown hK hP 1 rfl rfl 4 (by decide) (hg _ m_221) (fun _ h9 => h9) rfl dX9_next_148 ?_
                  refine lv_isub hx hb dX9_next_151 ?_
                  refine lv_topi (fun y_102 hy_102 => ?_)
                  obtain rfl : y_102 = nI (ta2_96 - aq1) := hy_102.trans (pk_sub (a := ta2_96) (b := aq1) (by omega))
                  refine lv_iconst (v := 4) hx hb dX9_next_152 (by decide) ?_
                  refine lv_icmp_gt (tgt := 167) hx hb dX9_next_153 (by decide) (fun c_103 => ?_) (fun c_103 => ?_)
                  · have q_104 : 4 < (ta2_96 - aq1) := q_lt (a := 4) (b := (ta2_96 - aq1)) rfl rfl (by omega) (by omega) c_103
                    refine lv_iconst (v := 3) hx hb dX9_next_167 (by decide) ?_
                    refine lv_goto (tgt := 172) hx hb dX9_next_168 (by decide) ?_
                    refine va_put (D := D) (ci := 9) (v := .int 3) (ty := .int) (C := RX9) (T := TX9) (N := 8) hx hb hg i_X9 tyX9 tyX9_ok nmX9 hown hK hP hD hS 1 rfl rfl 5 (by decide) (hg _ m_223) (fun _ h9 => h9) rfl (by decide +kernel) rfl rfl (Nat.le_of_ble_eq_true rfl) dX9_next_172 (fun H locs hP9 hD9 hS9 => ?_)
                    clear hP hD hS
                    refine reW [(t2, .inl (cy 2, 24, .inr (.inl (fky)))), wO t0 9 [.ref t1, .ref t2, .int (nI tn), .int (nI ta2_96), .int (nI aq1), .int 3, .long tm, .int tr2_97], wI (cy 0) t1 1600 (fby)] hP9 hD9 hS9 (fun hP hD hS => ?_)
                    clear hP9 hD9 hS9
                    refine lv_goto (tgt := 221) hx hb dX9_next_175 (by decide) ?_
                    exact x_vret hQ hx hb hr hlocks hK hP hD hS dX9_next_221 (ta2_96, aq1, 3, tm, tr2_97) (⟨(show ta2_96 ≤ tn from (show tkC fby tn gn ta2_96 aq1 3 tm tr2_97 from tk_badn hss hnl_88 a_91 f_100 (Or.inl (by omega))).2.1.symm ▸ fin_le (by omega)), (show 3 ≤ 123 from (show tkC fby tn gn ta2_96 aq1 3 tm tr2_97 from tk_badn hss hnl_88 a_91 f_100 (Or.inl (by omega))).2.2.1.symm ▸ knd_le _ _ _), tk_badn hss hnl_88 a_91 f_100 (Or.inl (by omega))⟩) [1, 2, 0] (by decide +kernel) rfl (Nat.le_of_ble_eq_true rfl) (Nat.le_of_ble_eq_true rfl)
                  · have q_104 : (ta2_96 - aq1) ≤ 4 := q_nlt (a := 4) (b := (ta2_96 - aq1)) rfl rfl (by omega) (by omega) c_103
                    refine lv_aload_n hx hb dX9_next_156 rfl (lv_at hl 0 rfl) ?_
                    refine lv_aload_n hx hb dX9_next_157 rfl (lv_at hl 0 rfl) ?_
                    refine va_get (D := D) (ci := 9) (v := .int (nI ta2_96)) (C := RX9) (T := TX9) (N := 8) hx hb hg i_X9 hown hK hP 1 rfl rfl 3 (by decide) (hg _ m_219) (fun _ h9 => h9) rfl dX9_next_158 ?_
                    refine x_callVi (q := (RX9, TX9, 8)) (ci := 9) (q0 := 0) (wr := [(t2, .inl (cy 2, 24, .inr (.inl (fky))))]) (rest := [.ref t0]) ⟨hx, hb, hml, hown, hg, hl.1⟩ k_X9_48 (s_isLetter l D cy t0 t1 t2 tn ta2_96 aq1 tk tm tr2_97 fby ta2_96 (by omega) (by omega)) E0_blind hK hP hD hS hA [1, 2] [0] ⟨rfl, rfl, by decide +kernel, by decide +kernel, by decide +kernel⟩ rfl rfl (fun _ _ _ => trivial) dX9_next_161 rfl rfl (Nat.le_of_ble_eq_true rfl) ⟨Nat.le_of_ble_eq_true rfl, Nat.le_of_ble_eq_true rfl⟩ ⟨Nat.le_of_ble_eq_true rfl, Nat.le_of_ble_eq_true rfl⟩ (fun zr105 zu105 H locs hw105 hP9 hD9 hS9 => ?_)
                    clear hP hD hS
                    refine reW [(t2, .inl (cy 2, 24, .inr (.inl (fky)))), wO t0 9 [.ref t1, .ref t2, .int (nI tn), .int (nI ta2_96), .int (nI aq1), .int (nI tk), .long tm, .int tr2_97], wI (cy 0) t1 1600 (fby)] hP9 hD9 hS9 (fun hP hD hS => ?_)
                    clear hP9 hD9 hS9
                    refine W.widen (k := 0) (n := 0) (Nat.le_of_ble_eq_true rfl) (Nat.le_of_ble_eq_true rfl) ?_
                    replace hw105 : ((zr105 = 1 ∧ (ta2_96 < tn ∧ isLt (fby ta2_96))) ∨ (zr105 = 0 ∧ (¬ (ta2_96 < tn ∧ isLt (fby ta2_96))))) := hw105
                    have f_106 := hw105
                    rcases f_106 with ⟨hz_108, a_107⟩ | ⟨hz_110, a_109⟩
                    · subst hz_108
                      refine lv_if_eq (tgt := 171) hx hb dX9_next_164 (by decide) (fun h => absurd h (by decide)) (fun _ => ?_)
                      refine lv_iconst (v := 3) hx hb dX9_next_167 (by decide) ?_
                      refine lv_goto (tgt := 172) hx hb dX9_next_168 (by decide) ?_
                      refine va_put (D := D) (ci := 9) (v := .int 3) (ty := .int) (C := RX9) (T := TX9) (N := 8) hx hb hg i_X9 tyX9 tyX9_ok nmX9 hown hK hP hD hS 1 rfl rfl 5 (by decide) (hg _ m_223) (fun _ h9 => h9) rfl (by decide +kernel) rfl rfl (Nat.le_of_ble_eq_true rfl) dX9_next_172 (fun H locs hP9 hD9 hS9 => ?_)
                      clear hP hD hS
                      refine reW [(t2, .inl (cy 2, 24, .inr (.inl (fky)))), wO t0 9 [.ref t1, .ref t2, .int (nI tn), .int (nI ta2_96), .int (nI aq1), .int 3, .long tm, .int tr2_97], wI (cy 0) t1 1600 (fby)] hP9 hD9 hS9 (fun hP hD hS => ?_)
                      clear hP9 hD9 hS9
                      refine lv_goto (tgt := 221) hx hb dX9_next_175 (by decide) ?_
                      exact x_vret hQ hx hb hr hlocks hK hP hD hS dX9_next_221 (ta2_96, aq1, 3, tm, tr2_97) (⟨(show ta2_96 ≤ tn from (show tkC fby tn gn ta2_96 aq1 3 tm tr2_97 from tk_badn hss hnl_88 a_91 f_100 (Or.inr a_107)).2.1.symm ▸ fin_le (by omega)), (show 3 ≤ 123 from (show tkC fby tn gn ta2_96 aq1 3 tm tr2_97 from tk_badn hss hnl_88 a_91 f_100 (Or.inr a_107)).2.2.1.symm ▸ knd_le _ _ _), tk_badn hss hnl_88 a_91 f_100 (Or.inr a_107)⟩) [1, 2, 0] (by decide +kernel) rfl (Nat.le_of_ble_eq_true rfl) (Nat.le_of_ble_eq_true rfl)
                    · subst hz_110
                      refine lv_if_eq (tgt := 171) hx hb dX9_next_164 (by decide) (fun _ => ?_) (fun h => absurd (by decide) h)
                      refine lv_iconst (v := 2) hx hb dX9_next_171 (by decide) ?_
                      refine va_put (D := D) (ci := 9) (v := .int 2) (ty := .int) (C := RX9) (T := TX9) (N := 8) hx hb hg i_X9 tyX9 tyX9_ok nmX9 hown hK hP hD hS 1 rfl rfl 5 (by decide) (hg _ m_223) (fun _ h9 => h9) rfl (by decide +kernel) rfl rfl (Nat.le_of_ble_eq_true rfl) dX9_next_172 (fun H locs hP9 hD9 hS9 => ?_)
                      clear hP hD hS
                      refine reW [(t2, .inl (cy 2, 24, .inr (.inl (fky)))), wO t0 9 [.ref t1, .ref t2, .int (nI tn), .int (nI ta2_96), .int (nI aq1), .int 2, .long tm, .int tr2_97], wI (cy 0) t1 1600 (fby)] hP9 hD9 hS9 (fun hP hD hS => ?_)
                      clear hP9 hD9 hS9
                      refine lv_goto (tgt := 221) hx hb dX9_next_175 (by decide) ?_
                      exact x_vret hQ hx hb hr hlocks hK hP hD hS dX9_next_221 (ta2_96, aq1, 2, tm, tr2_97) (⟨(show ta2_96 ≤ tn from (show tkC fby tn gn ta2_96 aq1 2 tm tr2_97 from tk_num hss hnl_88 a_91 f_100 f_101 (by omega) a_109).2.1.symm ▸ fin_le (by omega)), (show 2 ≤ 123 from (show tkC fby tn gn ta2_96 aq1 2 tm tr2_97 from tk_num hss hnl_88 a_91 f_100 f_101 (by omega) a_109).2.2.1.symm ▸ knd_le _ _ _), tk_num hss hnl_88 a_91 f_100 f_101 (by omega) a_109⟩) [1, 2, 0] (by decide +kernel) rfl (Nat.le_of_ble_eq_true rfl) (Nat.le_of_ble_eq_true rfl)
                · subst hz_94
                  have hnd_111 := not_and_right a_93 (by omega)
                  refine lv_if_eq (tgt := 178) hx hb dX9_next_135 (by decide) (fun _ => ?_) (fun h => absurd (by decide) h)
                  refine lv_aload_n hx hb dX9_next_178 rfl (lv_at hl 0 rfl) ?_
                  refine va_get (D := D) (ci := 9) (v := .ref t1) (C := RX9) (T := TX9) (N := 8) hx hb hg i_X9 hown hK hP 1 rfl rfl 0 (by decide) (hg _ m_215) (fun _ h9 => h9) rfl dX9_next_179 ?_
                  refine lv_aload_n hx hb dX9_next_182 rfl (lv_at hl 0 rfl) ?_
                  refine va_get (D := D) (ci := 9) (v := .int (nI aq1)) (C := RX9) (T := TX9) (N := 8) hx hb hg i_X9 hown hK hP 1 rfl rfl 3 (by decide) (hg _ m_219) (fun _ h9 => h9) rfl dX9_next_183 ?_
                  refine va_bald hx hb hK hP 2 0 rfl rfl (vp_in_nI (by omega) (by decide)) dX9_next_186 ?_
                  refine lv_topi (fun y_112 hy_112 => ?_)
                  obtain rfl : y_112 = fby aq1 := hy_112.trans (by rw [nI_clamp (by omega)])
                  refine lv_sipush (v := 255) hx hb dX9_next_187 (by decide) ?_
                  refine lv_iand hx hb dX9_next_190 ?_
                  refine lv_topi (fun x_113 ex_113 => ?_)
                  obtain ⟨j_114, hj_114, ej_114⟩ := byU_of (fby aq1)
                  obtain rfl : x_113 = nI j_114 := ex_113.trans ej_114.1
                  refine lv_istore_n (lv' := [(1, .int (nI j_114)), (0, .ref t0)]) hx hb dX9_next_191 rfl hl (by decide) rfl (fun ls hl => ?_)
                  refine lv_aload_n hx hb dX9_next_192 rfl (lv_at hl 1 rfl) ?_
                  refine va_ldcS hx hb hown hE.2.2.2.2.2.2.2.2.2.2.2 dX9_next_193 ?_
                  refine lv_iload_n hx hb dX9_next_195 rfl (lv_at hl 0 rfl) ?_
                  obtain ⟨x_115, ex_115⟩ : ∃ y : Int32, ((nI j_114 : Int32).toUInt32 % 65536).toInt32 = y := ⟨_, rfl⟩
                  refine lv_i2c (v := x_115) hx hb dX9_next_196 ex_115 ?_
                  obtain rfl : x_115 = nI j_114 := ex_115.symm.trans (char_id (by omega))
                  refine x_callOi (C := RJ0) (wr := [(t2, .inl (cy 2, 24, .inr (.inl (fky)))), wO t0 9 [.ref t1, .ref t2, .int (nI tn), .int (nI aq1), .int (nI aq1), .int (nI tk), .long tm, .int tr], wI (cy 0) t1 1600 (fby)]) (rest := [.ref t0]) ⟨hx, hb, hml, hown, hg, hl.1⟩ k_X9_71 (j_indexOf l D cy adK adV j_114 (by omega)) EV_blind hK hP hD hS hA [0, 1, 2] ⟨rfl, rfl, by decide +kernel, by decide +kernel, by decide +kernel⟩ (vk_recv (i := 1) hE.2.2.2.2.2.2.2.2.1 (by decide) hS) (fun U hU hW => EV_pass hE hS (va_free hD hS hA [] rfl) hU hW) dX9_next_197 rfl rfl (Nat.le_of_ble_eq_true rfl) ⟨Nat.le_of_ble_eq_true rfl, Nat.le_of_ble_eq_true rfl⟩ ⟨Nat.le_of_ble_eq_true rfl, Nat.le_of_ble_eq_true rfl⟩ (fun zr116 zu116 H locs hw116 hP9 hD9 hS9 => ?_)
                  clear hP hD hS
                  obtain ⟨jr_117, rfl⟩ : ∃ z, z = zu116 := ⟨_, rfl⟩
                  refine reW [(t2, .inl (cy 2, 24, .inr (.inl (fky)))), wO t0 9 [.ref t1, .ref t2, .int (nI tn), .int (nI aq1), .int (nI aq1), .int (nI tk), .long tm, .int tr], wI (cy 0) t1 1600 (fby)] hP9 hD9 hS9 (fun hP hD hS => ?_)
                  clear hP9 hD9 hS9
                  refine W.widen (k := 0) (n := 0) (Nat.le_of_ble_eq_true rfl) (Nat.le_of_ble_eq_true rfl) ?_
                  replace hw116 : ((zr116 = nI jr_117 ∧ (jr_117 < 11 ∧ nI j_114 = kS.getD jr_117 0)) ∨ (zr116 = -1 ∧ (noSg j_114 11))) := hw116
                  have f_118 := hw116
                  rcases f_118 with ⟨hz_120, a_119⟩ | ⟨hz_122, a_121⟩
                  · subst hz_120
                    refine lv_if_lt (tgt := 207) hx hb dX9_next_200 (by decide) (fun h => absurd h (nI_pos (by omega))) (fun _ => ?_)
                    refine lv_iload_n hx hb dX9_next_203 rfl (lv_at hl 0 rfl) ?_
                    refine lv_goto (tgt := 208) hx hb dX9_next_204 (by decide) ?_
                    refine va_put (D := D) (ci := 9) (v := .int (nI j_114)) (ty := .int) (C := RX9) (T := TX9) (N := 8) hx hb hg i_X9 tyX9 tyX9_ok nmX9 hown hK hP hD hS 1 rfl rfl 5 (by decide) (hg _ m_223) (fun _ h9 => h9) rfl (by decide +kernel) rfl rfl (Nat.le_of_ble_eq_true rfl) dX9_next_208 (fun H locs hP9 hD9 hS9 => ?_)
                    clear hP hD hS
                    refine reW [(t2, .inl (cy 2, 24, .inr (.inl (fky)))), wO t0 9 [.ref t1, .ref t2, .int (nI tn), .int (nI aq1), .int (nI aq1), .int (nI j_114), .long tm, .int tr], wI (cy 0) t1 1600 (fby)] hP9 hD9 hS9 (fun hP hD hS => ?_)
                    clear hP9 hD9 hS9
                    refine lv_aload_n hx hb dX9_next_211 rfl (lv_at hl 1 rfl) ?_
                    refine lv_dup hx hb dX9_next_212 rfl ?_
                    refine va_get (D := D) (ci := 9) (v := .int (nI aq1)) (C := RX9) (T := TX9) (N := 8) hx hb hg i_X9 hown hK hP 1 rfl rfl 3 (by decide) (hg _ m_219) (fun _ h9 => h9) rfl dX9_next_213 ?_
                    refine lv_iconst (v := 1) hx hb dX9_next_216 (by decide) ?_
                    refine lv_iadd hx hb dX9_next_217 ?_
                    refine lv_topi (fun y_123 hy_123 => ?_)
                    obtain rfl : y_123 = nI (aq1 + 1) := hy_123.trans (nI_add aq1 1)
                    refine va_put (D := D) (ci := 9) (v := .int (nI (aq1 + 1))) (ty := .int) (C := RX9) (T := TX9) (N := 8) hx hb hg i_X9 tyX9 tyX9_ok nmX9 hown hK hP hD hS 1 rfl rfl 3 (by decide) (hg _ m_219) (fun _ h9 => h9) rfl (by decide +kernel) rfl rfl (Nat.le_of_ble_eq_true rfl) dX9_next_218 (fun H locs hP9 hD9 hS9 => ?_)
                    clear hP hD hS
                    refine reW [(t2, .inl (cy 2, 24, .inr (.inl (fky)))), wO t0 9 [.ref t1, .ref t2, .int (nI tn), .int (nI (aq1 + 1)), .int (nI aq1), .int (nI j_114), .long tm, .int tr], wI (cy 0) t1 1600 (fby)] hP9 hD9 hS9 (fun hP hD hS => ?_)
                    clear hP9 hD9 hS9
                    exact x_vret hQ hx hb hr hlocks hK hP hD hS dX9_next_221 ((aq1 + 1), aq1, j_114, tm, tr) (⟨(show (aq1 + 1) ≤ tn from (show tkC fby tn gn ((aq1 + 1)) aq1 j_114 tm tr from tk_sgn hss (by omega) hnl_88 hnd_111 ej_114 (sgK_y ⟨_, a_119⟩ (by omega))).2.1.symm ▸ fin_le (by omega)), (show j_114 ≤ 123 from (show tkC fby tn gn ((aq1 + 1)) aq1 j_114 tm tr from tk_sgn hss (by omega) hnl_88 hnd_111 ej_114 (sgK_y ⟨_, a_119⟩ (by omega))).2.2.1.symm ▸ knd_le _ _ _), tk_sgn hss (by omega) hnl_88 hnd_111 ej_114 (sgK_y ⟨_, a_119⟩ (by omega))⟩) [1, 2, 0] (by decide +kernel) rfl (Nat.le_of_ble_eq_true rfl) (Nat.le_of_ble_eq_true rfl)
                  · subst hz_122
                    refine lv_if_lt (tgt := 207) hx hb dX9_next_200 (by decide) (fun _ => ?_) (fun h => absurd (by decide) h)
                    refine lv_iconst (v := 3) hx hb dX9_next_207 (by decide) ?_
                    refine va_put (D := D) (ci := 9) (v := .int 3) (ty := .int) (C := RX9) (T := TX9) (N := 8) hx hb hg i_X9 tyX9 tyX9_ok nmX9 hown hK hP hD hS 1 rfl rfl 5 (by decide) (hg _ m_223) (fun _ h9 => h9) rfl (by decide +kernel) rfl rfl (Nat.le_of_ble_eq_true rfl) dX9_next_208 (fun H locs hP9 hD9 hS9 => ?_)
                    clear hP hD hS
                    refine reW [(t2, .inl (cy 2, 24, .inr (.inl (fky)))), wO t0 9 [.ref t1, .ref t2, .int (nI tn), .int (nI aq1), .int (nI aq1), .int 3, .long tm, .int tr], wI (cy 0) t1 1600 (fby)] hP9 hD9 hS9 (fun hP hD hS => ?_)
                    clear hP9 hD9 hS9
                    refine lv_aload_n hx hb dX9_next_211 rfl (lv_at hl 1 rfl) ?_
                    refine lv_dup hx hb dX9_next_212 rfl ?_
                    refine va_get (D := D) (ci := 9) (v := .int (nI aq1)) (C := RX9) (T := TX9) (N := 8) hx hb hg i_X9 hown hK hP 1 rfl rfl 3 (by decide) (hg _ m_219) (fun _ h9 => h9) rfl dX9_next_213 ?_
                    refine lv_iconst (v := 1) hx hb dX9_next_216 (by decide) ?_
                    refine lv_iadd hx hb dX9_next_217 ?_
                    refine lv_topi (fun y_124 hy_124 => ?_)
                    obtain rfl : y_124 = nI (aq1 + 1) := hy_124.trans (nI_add aq1 1)
                    refine va_put (D := D) (ci := 9) (v := .int (nI (aq1 + 1))) (ty := .int) (C := RX9) (T := TX9) (N := 8) hx hb hg i_X9 tyX9 tyX9_ok nmX9 hown hK hP hD hS 1 rfl rfl 3 (by decide) (hg _ m_219) (fun _ h9 => h9) rfl (by decide +kernel) rfl rfl (Nat.le_of_ble_eq_true rfl) dX9_next_218 (fun H locs hP9 hD9 hS9 => ?_)
                    clear hP hD hS
                    refine reW [(t2, .inl (cy 2, 24, .inr (.inl (fky)))), wO t0 9 [.ref t1, .ref t2, .int (nI tn), .int (nI (aq1 + 1)), .int (nI aq1), .int 3, .long tm, .int tr], wI (cy 0) t1 1600 (fby)] hP9 hD9 hS9 (fun hP hD hS => ?_)
                    clear hP9 hD9 hS9
                    exact x_vret hQ hx hb hr hlocks hK hP hD hS dX9_next_221 ((aq1 + 1), aq1, 3, tm, tr) (⟨(show (aq1 + 1) ≤ tn from (show tkC fby tn gn ((aq1 + 1)) aq1 3 tm tr from tk_sgb hss (by omega) hnl_88 hnd_111 ej_114 (sgK_n a_121 (by omega))).2.1.symm ▸ fin_le (by omega)), (show 3 ≤ 123 from (show tkC fby tn gn ((aq1 + 1)) aq1 3 tm tr from tk_sgb hss (by omega) hnl_88 hnd_111 ej_114 (sgK_n a_121 (by omega))).2.2.1.symm ▸ knd_le _ _ _), tk_sgb hss (by omega) hnl_88 hnd_111 ej_114 (sgK_n a_121 (by omega))⟩) [1, 2, 0] (by decide +kernel) rfl (Nat.le_of_ble_eq_true rfl) (Nat.le_of_ble_eq_true rfl)
            · have q_67 : tn ≤ aq1 := q_nlt (a := aq1) (b := tn) rfl rfl (by omega) (by omega) c_66
              refine lv_aload_n hx hb dX9_next_71 rfl (lv_at hl 0 rfl) ?_
              refine lv_iconst (v := 0) hx hb dX9_next_72 (by decide) ?_
              refine va_put (D := D) (ci := 9) (v := .int 0) (ty := .int) (C := RX9) (T := TX9) (N := 8) hx hb hg i_X9 tyX9 tyX9_ok nmX9 hown hK hP hD hS 0 rfl rfl 5 (by decide) (hg _ m_223) (fun _ h9 => h9) rfl (by decide +kernel) rfl rfl (Nat.le_of_ble_eq_true rfl) dX9_next_73 (fun H locs hP9 hD9 hS9 => ?_)
              clear hP hD hS
              refine reW [wO t0 9 [.ref t1, .ref t2, .int (nI tn), .int (nI aq1), .int (nI aq1), .int 0, .long tm, .int tr], wI (cy 0) t1 1600 (fby), (t2, .inl (cy 2, 24, .inr (.inl (fky))))] hP9 hD9 hS9 (fun hP hD hS => ?_)
              clear hP9 hD9 hS9
              refine lv_goto (tgt := 221) hx hb dX9_next_76 (by decide) ?_
              exact x_vret hQ hx hb hr hlocks hK hP hD hS dX9_next_221 (aq1, aq1, 0, tm, tr) (⟨(show aq1 ≤ tn from (show tkC fby tn gn aq1 aq1 0 tm tr from tk_end hss (by omega)).2.1.symm ▸ fin_le (by omega)), (show 0 ≤ 123 from (show tkC fby tn gn aq1 aq1 0 tm tr from tk_end hss (by omega)).2.2.1.symm ▸ knd_le _ _ _), tk_end hss (by omega)⟩) [0, 1, 2] (by decide +kernel) rfl (Nat.le_of_ble_eq_true rfl) (Nat.le_of_ble_eq_true rfl)
          · refine lv_aload_n hx hb dX9_next_39 rfl (lv_at hl 0 rfl) ?_
            refine lv_dup hx hb dX9_next_40 rfl ?_
            refine va_get (D := D) (ci := 9) (v := .int (nI aq1)) (C := RX9) (T := TX9) (N := 8) hx hb hg i_X9 hown hK hP 0 rfl rfl 3 (by decide) (hg _ m_219) (fun _ h9 => h9) rfl dX9_next_41 ?_
            refine lv_iconst (v := 1) hx hb dX9_next_44 (by decide) ?_
            refine lv_iadd hx hb dX9_next_45 ?_
            refine lv_topi (fun y_125 hy_125 => ?_)
            obtain rfl : y_125 = nI (aq1 + 1) := hy_125.trans (nI_add aq1 1)
            refine va_put (D := D) (ci := 9) (v := .int (nI (aq1 + 1))) (ty := .int) (C := RX9) (T := TX9) (N := 8) hx hb hg i_X9 tyX9 tyX9_ok nmX9 hown hK hP hD hS 0 rfl rfl 3 (by decide) (hg _ m_219) (fun _ h9 => h9) rfl (by decide +kernel) rfl rfl (Nat.le_of_ble_eq_true rfl) dX9_next_46 (fun H locs hP9 hD9 hS9 => ?_)
            clear hP hD hS
            refine reW [wO t0 9 [.ref t1, .ref t2, .int (nI tn), .int (nI (aq1 + 1)), .int (nI ts), .int (nI tk), .long tm, .int tr], wI (cy 0) t1 1600 (fby), (t2, .inl (cy 2, 24, .inr (.inl (fky))))] hP9 hD9 hS9 (fun hP hD hS => ?_)
            clear hP9 hD9 hS9
            refine lv_goto (tgt := 0) hx hb dX9_next_49 (by decide) ?_
            exact ih1  ((aq1 + 1)) (by omega) ((stt_go (by omega) (Or.inr c_36)).symm.trans hf1_1) (by omega) _ _ (hP.sub [0, 1, 2] rfl) (hD.sub [0, 1, 2] (by decide +kernel) rfl) hS ls (lv_sub hl [0] rfl)
  exact loop1 _ ta (by omega) (by rw [hgn]) (Nat.le_refl _) _ _ (hP.sub [0, 1, 2] rfl) (hD.sub [0, 1, 2] (by decide +kernel) rfl) hS ls (lv_sub hl [0] rfl)
theorem gdX9_rewind_0 : decode cX9_rewind 0 = .ok (.aload_n 0, 1) ∧ decode cX9_rewind 1 = .ok (.iconst 0, 1) ∧ decode cX9_rewind 2 = .ok (.putfield 36, 3) ∧ decode cX9_rewind 5 = .ok (.aload_n 0, 1) ∧ decode cX9_rewind 6 = .ok (.invokevirtual 39, 3) := by decide +kernel
theorem dX9_rewind_0 : decode cX9_rewind 0 = .ok (.aload_n 0, 1) := gdX9_rewind_0.1
theorem dX9_rewind_1 : decode cX9_rewind 1 = .ok (.iconst 0, 1) := gdX9_rewind_0.2.1
theorem dX9_rewind_2 : decode cX9_rewind 2 = .ok (.putfield 36, 3) := gdX9_rewind_0.2.2.1
theorem dX9_rewind_5 : decode cX9_rewind 5 = .ok (.aload_n 0, 1) := gdX9_rewind_0.2.2.2.1
theorem dX9_rewind_6 : decode cX9_rewind 6 = .ok (.invokevirtual 39, 3) := gdX9_rewind_0.2.2.2.2
theorem k_X9_39 : xV RX9 RX9 39 yX9_next cX9_next 2 none 0 := ⟨⟨m_726, m_727, m_728, m_131, m_729⟩, rfl, by decide, by decide, by decide +kernel⟩
theorem dX9_rewind_9 : decode cX9_rewind 9 = .ok (.return_, 1) := by decide +kernel
set_option maxHeartbeats 1000000 in
set_option maxRecDepth 100000 in
theorem s_rewind (l : Launch) (D : va_G) (cy : Nat → ClassId) (adK : Nat → Nat) (adV : Nat → Nat) (t0 : Nat) (t1 : Nat) (t2 : Nat) (tn : Nat) (ta : Nat) (ts : Nat) (tk : Nat) (tm : Int64) (tr : Int32) (fby : Nat → Int32) (fky : Nat → Int64) (htn : tn ≤ 1600) (hky : kyOK fky) : XMv l D (tyL cy) (EV adK adV) yX9_rewind cX9_rewind 1 none (rmk 7 0 0) [.ref t0] [wO t0 9 [.ref t1, .ref t2, .int (nI tn), .int (nI ta), .int (nI ts), .int (nI tk), .long tm, .int tr], wI (cy 0) t1 1600 (fby), (t2, .inl (cy 2, 24, .inr (.inl (fky))))] (fun (u : Nat × Nat × Nat × Int64 × Int32) => (u.1 ≤ tn) ∧ (u.2.2.1 ≤ 123) ∧ (tkC fby tn 0 u.1 u.2.1 u.2.2.1 u.2.2.2.1 u.2.2.2.2)) (fun (u : Nat × Nat × Nat × Int64 × Int32) => [wO t0 9 [.ref t1, .ref t2, .int (nI tn), .int (nI u.1), .int (nI u.2.1), .int (nI u.2.2.1), .long u.2.2.2.1, .int u.2.2.2.2], wI (cy 0) t1 1600 (fby), (t2, .inl (cy 2, 24, .inr (.inl (fky))))]) := by
  refine XMv.start (by decide) (Nat.le_of_ble_eq_true rfl) ?_
  intro p e s m below meth c args A ls Q hat hQ
  obtain ⟨hx, hb, hr, hml, hown, hg, hlocks, hin, hK, hA, hP, hD, hS, hE, hl⟩ := hat
  have hown : s.vm.findClass RX9 = some m.cls := hown
  have hl : lv_has ls 1 [(0, .ref t0)] := hl
  refine lv_aload_n hx hb dX9_rewind_0 rfl (lv_at hl 0 rfl) ?_
  refine lv_iconst (v := 0) hx hb dX9_rewind_1 (by decide) ?_
  refine va_put (D := D) (ci := 9) (v := .int 0) (ty := .int) (C := RX9) (T := TX9) (N := 8) hx hb hg i_X9 tyX9 tyX9_ok nmX9 hown hK hP hD hS 0 rfl rfl 3 (by decide) (hg _ m_219) (fun _ h9 => h9) rfl (by decide +kernel) rfl rfl (Nat.le_of_ble_eq_true rfl) dX9_rewind_2 (fun H locs hP9 hD9 hS9 => ?_)
  clear hP hD hS
  refine reW [wO t0 9 [.ref t1, .ref t2, .int (nI tn), .int 0, .int (nI ts), .int (nI tk), .long tm, .int tr], wI (cy 0) t1 1600 (fby), (t2, .inl (cy 2, 24, .inr (.inl (fky))))] hP9 hD9 hS9 (fun hP hD hS => ?_)
  clear hP9 hD9 hS9
  refine lv_aload_n hx hb dX9_rewind_5 rfl (lv_at hl 0 rfl) ?_
  refine x_callVv (q := (RX9, TX9, 8)) (ci := 9) (q0 := 0) (wr := []) (rest := []) ⟨hx, hb, hml, hown, hg, hl.1⟩ k_X9_39 (s_next l D cy adK adV t0 t1 t2 tn 0 ts tk tm tr fby fky 0 (by omega) (by omega) (rfl) (hky)) EV_blind hK hP hD hS hA [0, 1, 2] [] ⟨rfl, rfl, by decide +kernel, by decide +kernel, by decide +kernel⟩ rfl rfl (fun U hU hW => EV_pass hE hS (va_free hD hS hA [0, 1, 2] rfl) hU hW) dX9_rewind_6 rfl rfl (Nat.le_of_ble_eq_true rfl) ⟨Nat.le_of_ble_eq_true rfl, Nat.le_of_ble_eq_true rfl⟩ ⟨Nat.le_of_ble_eq_true rfl, Nat.le_of_ble_eq_true rfl⟩ (fun zu1 H locs hw1 hP9 hD9 hS9 => ?_)
  clear hP hD hS
  obtain ⟨ta2_2, ts2_3, tk2_4, tm2_5, tr2_6⟩ := zu1
  refine reW [wO t0 9 [.ref t1, .ref t2, .int (nI tn), .int (nI ta2_2), .int (nI ts2_3), .int (nI tk2_4), .long tm2_5, .int tr2_6], wI (cy 0) t1 1600 (fby), (t2, .inl (cy 2, 24, .inr (.inl (fky))))] hP9 hD9 hS9 (fun hP hD hS => ?_)
  clear hP9 hD9 hS9
  refine W.widen (k := 0) (n := 0) (Nat.le_of_ble_eq_true rfl) (Nat.le_of_ble_eq_true rfl) ?_
  replace hw1 : (ta2_2 ≤ tn) ∧ (tk2_4 ≤ 123) ∧ (tkC fby tn 0 ta2_2 ts2_3 tk2_4 tm2_5 tr2_6) := hw1
  obtain ⟨f_7, f_8, f_9⟩ := hw1
  exact x_vret hQ hx hb hr hlocks hK hP hD hS dX9_rewind_9 (ta2_2, ts2_3, tk2_4, tm2_5, tr2_6) (⟨(show ta2_2 ≤ tn from by omega), (show tk2_4 ≤ 123 from by omega), f_9⟩) [0, 1, 2] (by decide +kernel) rfl (Nat.le_of_ble_eq_true rfl) (Nat.le_of_ble_eq_true rfl)
