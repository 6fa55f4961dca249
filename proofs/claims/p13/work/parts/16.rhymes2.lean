def mL16 : List (Option Cond) := [some (Cond.selects RX6 yX6_orderCliffs yX6_orderCliffs), some (Cond.selects RX6 yX6_findQuiet yX6_findQuiet), some (Cond.selects RX6 yX6_choosePlaces yX6_choosePlaces), some (Cond.selects RX6 yX6_canBeYes yX6_canBeYes), some (Cond.selects RX6 yX6_canBeYesBy yX6_canBeYesBy), some (Cond.selects RX6 yX6_choices yX6_choices), some (Cond.selects RX6 yX6_led yX6_led), some (Cond.selects RX6 yX6_chooseWords yX6_chooseWords), some (Cond.selects RX6 yX6_isYesNow yX6_isYesNow), some (Cond.initialized RX6), some (Cond.fieldLink RX6 110 "CliffJudges$Hills" "next" "[I"), some (Cond.fieldLink RX6 104 "CliffJudges$Hills" "yesStates" "I"), some (Cond.fieldLink RX6 84 "CliffJudges$Ear" "gone" "[I"), some (Cond.fieldLink RX6 9 "CliffJudges$Rhymes" "found" "[I"), some (Cond.fieldLink RX6 30 "CliffJudges$Rhymes" "ears" "[LCliffJudges$Ear;"), some (Cond.fieldLink RX6 34 "CliffJudges$Rhymes" "row" "[I"), some (Cond.fieldLink RX6 15 "CliffJudges$Rhymes" "places" "[I"), some (Cond.fieldLink RX6 21 "CliffJudges$Rhymes" "quiet" "[I"), some (Cond.fieldLink RX6 66 "CliffJudges$Rhymes" "changes" "I"), some (Cond.fieldLink RX6 107 "CliffJudges$Shout" "words" "[I"), some (Cond.fieldLink RX6 48 "CliffJudges$Shout" "length" "I"), some (Cond.methodLink RX6 54 yX2_tuneToAll), some (Cond.methodLink RX6 60 yX6_orderCliffs), some (Cond.instanceMethod yX6_orderCliffs), some (Cond.code yX6_orderCliffs cX6_orderCliffs 4 none), some (Cond.methodLink RX6 63 yX6_findQuiet), some (Cond.instanceMethod yX6_findQuiet), some (Cond.code yX6_findQuiet cX6_findQuiet 4 none), some (Cond.methodLink RX6 69 yX6_choosePlaces), some (Cond.instanceMethod yX6_choosePlaces), some (Cond.code yX6_choosePlaces cX6_choosePlaces 5 (some .boolean)), some (Cond.methodLink RX6 87 yX6_canBeYes), some (Cond.instanceMethod yX6_canBeYes), some (Cond.code yX6_canBeYes cX6_canBeYes 3 (some .boolean)), some (Cond.methodLink RX6 90 yX6_canBeYesBy), some (Cond.instanceMethod yX6_canBeYesBy), some (Cond.code yX6_canBeYesBy cX6_canBeYesBy 11 (some .boolean)), some (Cond.methodLink RX6 94 yX2_placeOf), some (Cond.methodLink RX6 98 yX6_choices), some (Cond.instanceMethod yX6_choices), some (Cond.code yX6_choices cX6_choices 5 (some .int)), some (Cond.methodLink RX6 101 yX6_led), some (Cond.instanceMethod yX6_led), some (Cond.code yX6_led cX6_led 6 (some .int)), some (Cond.methodLink RX6 73 yX6_chooseWords), some (Cond.instanceMethod yX6_chooseWords), some (Cond.code yX6_chooseWords cX6_chooseWords 5 (some .boolean)), some (Cond.methodLink RX6 113 yX6_isYesNow), some (Cond.instanceMethod yX6_isYesNow), some (Cond.code yX6_isYesNow cX6_isYesNow 3 (some .boolean)), some (Cond.methodLink RX6 117 yX2_send), some (Cond.methodLink RX6 121 yX4_isYes)]
set_option maxRecDepth 100000 in
theorem mP16 : pick [47, 1, 1, 1, 1, 1, 1, 1, 1, 89, 214, 12, 143, 71, 2, 1, 1, 2, 3, 29, 8, 609, 1, 2, 1, 2, 2, 1, 1, 2, 1, 1, 2, 1, 1, 2, 1, 1, 1, 2, 1, 1, 2, 1, 1, 2, 1, 1, 2, 1, 1, 1] lw_tbl = mL16 := rfl
set_option maxRecDepth 100000 in
theorem mG16 : mL16.all (fun o => o.all goodWord) = true := rfl
theorem m_47 : (Cond.selects RX6 yX6_orderCliffs yX6_orderCliffs) ∈ gT := gp mP16 mG16 0 rfl
theorem m_48 : (Cond.selects RX6 yX6_findQuiet yX6_findQuiet) ∈ gT := gp mP16 mG16 1 rfl
theorem m_49 : (Cond.selects RX6 yX6_choosePlaces yX6_choosePlaces) ∈ gT := gp mP16 mG16 2 rfl
theorem m_50 : (Cond.selects RX6 yX6_canBeYes yX6_canBeYes) ∈ gT := gp mP16 mG16 3 rfl
theorem m_51 : (Cond.selects RX6 yX6_canBeYesBy yX6_canBeYesBy) ∈ gT := gp mP16 mG16 4 rfl
theorem m_52 : (Cond.selects RX6 yX6_choices yX6_choices) ∈ gT := gp mP16 mG16 5 rfl
theorem m_53 : (Cond.selects RX6 yX6_led yX6_led) ∈ gT := gp mP16 mG16 6 rfl
theorem m_54 : (Cond.selects RX6 yX6_chooseWords yX6_chooseWords) ∈ gT := gp mP16 mG16 7 rfl
theorem m_55 : (Cond.selects RX6 yX6_isYesNow yX6_isYesNow) ∈ gT := gp mP16 mG16 8 rfl
theorem m_144 : (Cond.initialized RX6) ∈ gT := gp mP16 mG16 9 rfl
theorem m_358 : (Cond.fieldLink RX6 110 "CliffJudges$Hills" "next" "[I") ∈ gT := gp mP16 mG16 10 rfl
theorem m_370 : (Cond.fieldLink RX6 104 "CliffJudges$Hills" "yesStates" "I") ∈ gT := gp mP16 mG16 11 rfl
theorem m_513 : (Cond.fieldLink RX6 84 "CliffJudges$Ear" "gone" "[I") ∈ gT := gp mP16 mG16 12 rfl
theorem m_584 : (Cond.fieldLink RX6 9 "CliffJudges$Rhymes" "found" "[I") ∈ gT := gp mP16 mG16 13 rfl
theorem m_586 : (Cond.fieldLink RX6 30 "CliffJudges$Rhymes" "ears" "[LCliffJudges$Ear;") ∈ gT := gp mP16 mG16 14 rfl
theorem m_587 : (Cond.fieldLink RX6 34 "CliffJudges$Rhymes" "row" "[I") ∈ gT := gp mP16 mG16 15 rfl
theorem m_588 : (Cond.fieldLink RX6 15 "CliffJudges$Rhymes" "places" "[I") ∈ gT := gp mP16 mG16 16 rfl
theorem m_590 : (Cond.fieldLink RX6 21 "CliffJudges$Rhymes" "quiet" "[I") ∈ gT := gp mP16 mG16 17 rfl
theorem m_593 : (Cond.fieldLink RX6 66 "CliffJudges$Rhymes" "changes" "I") ∈ gT := gp mP16 mG16 18 rfl
theorem m_622 : (Cond.fieldLink RX6 107 "CliffJudges$Shout" "words" "[I") ∈ gT := gp mP16 mG16 19 rfl
theorem m_630 : (Cond.fieldLink RX6 48 "CliffJudges$Shout" "length" "I") ∈ gT := gp mP16 mG16 20 rfl
theorem m_1239 : (Cond.methodLink RX6 54 yX2_tuneToAll) ∈ gT := gp mP16 mG16 21 rfl
theorem m_1240 : (Cond.methodLink RX6 60 yX6_orderCliffs) ∈ gT := gp mP16 mG16 22 rfl
theorem m_1242 : (Cond.instanceMethod yX6_orderCliffs) ∈ gT := gp mP16 mG16 23 rfl
theorem m_1243 : (Cond.code yX6_orderCliffs cX6_orderCliffs 4 none) ∈ gT := gp mP16 mG16 24 rfl
theorem m_1245 : (Cond.methodLink RX6 63 yX6_findQuiet) ∈ gT := gp mP16 mG16 25 rfl
theorem m_1247 : (Cond.instanceMethod yX6_findQuiet) ∈ gT := gp mP16 mG16 26 rfl
theorem m_1248 : (Cond.code yX6_findQuiet cX6_findQuiet 4 none) ∈ gT := gp mP16 mG16 27 rfl
theorem m_1249 : (Cond.methodLink RX6 69 yX6_choosePlaces) ∈ gT := gp mP16 mG16 28 rfl
theorem m_1251 : (Cond.instanceMethod yX6_choosePlaces) ∈ gT := gp mP16 mG16 29 rfl
theorem m_1252 : (Cond.code yX6_choosePlaces cX6_choosePlaces 5 (some .boolean)) ∈ gT := gp mP16 mG16 30 rfl
theorem m_1253 : (Cond.methodLink RX6 87 yX6_canBeYes) ∈ gT := gp mP16 mG16 31 rfl
theorem m_1255 : (Cond.instanceMethod yX6_canBeYes) ∈ gT := gp mP16 mG16 32 rfl
theorem m_1256 : (Cond.code yX6_canBeYes cX6_canBeYes 3 (some .boolean)) ∈ gT := gp mP16 mG16 33 rfl
theorem m_1257 : (Cond.methodLink RX6 90 yX6_canBeYesBy) ∈ gT := gp mP16 mG16 34 rfl
theorem m_1259 : (Cond.instanceMethod yX6_canBeYesBy) ∈ gT := gp mP16 mG16 35 rfl
theorem m_1260 : (Cond.code yX6_canBeYesBy cX6_canBeYesBy 11 (some .boolean)) ∈ gT := gp mP16 mG16 36 rfl
theorem m_1261 : (Cond.methodLink RX6 94 yX2_placeOf) ∈ gT := gp mP16 mG16 37 rfl
theorem m_1262 : (Cond.methodLink RX6 98 yX6_choices) ∈ gT := gp mP16 mG16 38 rfl
theorem m_1264 : (Cond.instanceMethod yX6_choices) ∈ gT := gp mP16 mG16 39 rfl
theorem m_1265 : (Cond.code yX6_choices cX6_choices 5 (some .int)) ∈ gT := gp mP16 mG16 40 rfl
theorem m_1266 : (Cond.methodLink RX6 101 yX6_led) ∈ gT := gp mP16 mG16 41 rfl
theorem m_1268 : (Cond.instanceMethod yX6_led) ∈ gT := gp mP16 mG16 42 rfl
theorem m_1269 : (Cond.code yX6_led cX6_led 6 (some .int)) ∈ gT := gp mP16 mG16 43 rfl
theorem m_1270 : (Cond.methodLink RX6 73 yX6_chooseWords) ∈ gT := gp mP16 mG16 44 rfl
theorem m_1272 : (Cond.instanceMethod yX6_chooseWords) ∈ gT := gp mP16 mG16 45 rfl
theorem m_1273 : (Cond.code yX6_chooseWords cX6_chooseWords 5 (some .boolean)) ∈ gT := gp mP16 mG16 46 rfl
theorem m_1274 : (Cond.methodLink RX6 113 yX6_isYesNow) ∈ gT := gp mP16 mG16 47 rfl
theorem m_1276 : (Cond.instanceMethod yX6_isYesNow) ∈ gT := gp mP16 mG16 48 rfl
theorem m_1277 : (Cond.code yX6_isYesNow cX6_isYesNow 3 (some .boolean)) ∈ gT := gp mP16 mG16 49 rfl
theorem m_1278 : (Cond.methodLink RX6 117 yX2_send) ∈ gT := gp mP16 mG16 50 rfl
theorem m_1279 : (Cond.methodLink RX6 121 yX4_isYes) ∈ gT := gp mP16 mG16 51 rfl
theorem get4e {a b c d x n : Nat} (hn : n ≤ 4) (h0 : 0 < n → a = x) (h1 : 1 < n → b = x) (h2 : 2 < n → c = x) (h3 : 3 < n → d = x) : ∀ i9, i9 < n → [a, b, c, d].getD i9 0 = x := by
  intro k hk
  rcases (show k = 0 ∨ k = 1 ∨ k = 2 ∨ k = 3 by omega) with rfl | rfl | rfl | rfl
  · exact h0 hk
  · exact h1 hk
  · exact h2 hk
  · exact h3 hk
theorem gdX6_findQuiet_0 : decode cX6_findQuiet 0 = .ok (.iconst 0, 1) ∧ decode cX6_findQuiet 1 = .ok (.istore_n 1, 1) ∧ decode cX6_findQuiet 2 = .ok (.iload_n 1, 1) ∧ decode cX6_findQuiet 3 = .ok (.aload_n 0, 1) ∧ decode cX6_findQuiet 4 = .ok (.getfield 39, 3) ∧ decode cX6_findQuiet 7 = .ok (.getfield 48, 3) ∧ decode cX6_findQuiet 10 = .ok (.if_icmp .ge 65, 3) ∧ decode cX6_findQuiet 75 = .ok (.return_, 1) ∧ decode cX6_findQuiet 13 = .ok (.sipush 255, 3) ∧ decode cX6_findQuiet 16 = .ok (.istore_n 2, 1) ∧ decode cX6_findQuiet 17 = .ok (.iconst 0, 1) ∧ decode cX6_findQuiet 18 = .ok (.istore_n 3, 1) := by decide +kernel
theorem dX6_findQuiet_0 : decode cX6_findQuiet 0 = .ok (.iconst 0, 1) := gdX6_findQuiet_0.1
theorem dX6_findQuiet_1 : decode cX6_findQuiet 1 = .ok (.istore_n 1, 1) := gdX6_findQuiet_0.2.1
theorem dX6_findQuiet_2 : decode cX6_findQuiet 2 = .ok (.iload_n 1, 1) := gdX6_findQuiet_0.2.2.1
theorem dX6_findQuiet_3 : decode cX6_findQuiet 3 = .ok (.aload_n 0, 1) := gdX6_findQuiet_0.2.2.2.1
theorem dX6_findQuiet_4 : decode cX6_findQuiet 4 = .ok (.getfield 39, 3) := gdX6_findQuiet_0.2.2.2.2.1
theorem dX6_findQuiet_7 : decode cX6_findQuiet 7 = .ok (.getfield 48, 3) := gdX6_findQuiet_0.2.2.2.2.2.1
theorem dX6_findQuiet_10 : decode cX6_findQuiet 10 = .ok (.if_icmp .ge 65, 3) := gdX6_findQuiet_0.2.2.2.2.2.2.1
theorem dX6_findQuiet_75 : decode cX6_findQuiet 75 = .ok (.return_, 1) := gdX6_findQuiet_0.2.2.2.2.2.2.2.1
theorem dX6_findQuiet_13 : decode cX6_findQuiet 13 = .ok (.sipush 255, 3) := gdX6_findQuiet_0.2.2.2.2.2.2.2.2.1
theorem dX6_findQuiet_16 : decode cX6_findQuiet 16 = .ok (.istore_n 2, 1) := gdX6_findQuiet_0.2.2.2.2.2.2.2.2.2.1
theorem dX6_findQuiet_17 : decode cX6_findQuiet 17 = .ok (.iconst 0, 1) := gdX6_findQuiet_0.2.2.2.2.2.2.2.2.2.2.1
theorem dX6_findQuiet_18 : decode cX6_findQuiet 18 = .ok (.istore_n 3, 1) := gdX6_findQuiet_0.2.2.2.2.2.2.2.2.2.2.2
theorem gdX6_findQuiet_19 : decode cX6_findQuiet 19 = .ok (.iload_n 3, 1) ∧ decode cX6_findQuiet 20 = .ok (.aload_n 0, 1) ∧ decode cX6_findQuiet 21 = .ok (.getfield 35, 3) ∧ decode cX6_findQuiet 24 = .ok (.getfield 43, 3) ∧ decode cX6_findQuiet 27 = .ok (.iconst 1, 1) ∧ decode cX6_findQuiet 28 = .ok (.iaload, 1) ∧ decode cX6_findQuiet 29 = .ok (.if_icmp .ge 40, 3) ∧ decode cX6_findQuiet 69 = .ok (.iinc 1 1, 3) ∧ decode cX6_findQuiet 72 = .ok (.goto (-70), 3) ∧ decode cX6_findQuiet 32 = .ok (.aload_n 0, 1) ∧ decode cX6_findQuiet 33 = .ok (.getfield 21, 3) ∧ decode cX6_findQuiet 36 = .ok (.iload_n 3, 1) := by decide +kernel
theorem dX6_findQuiet_19 : decode cX6_findQuiet 19 = .ok (.iload_n 3, 1) := gdX6_findQuiet_19.1
theorem dX6_findQuiet_20 : decode cX6_findQuiet 20 = .ok (.aload_n 0, 1) := gdX6_findQuiet_19.2.1
theorem dX6_findQuiet_21 : decode cX6_findQuiet 21 = .ok (.getfield 35, 3) := gdX6_findQuiet_19.2.2.1
theorem dX6_findQuiet_24 : decode cX6_findQuiet 24 = .ok (.getfield 43, 3) := gdX6_findQuiet_19.2.2.2.1
theorem dX6_findQuiet_27 : decode cX6_findQuiet 27 = .ok (.iconst 1, 1) := gdX6_findQuiet_19.2.2.2.2.1
theorem dX6_findQuiet_28 : decode cX6_findQuiet 28 = .ok (.iaload, 1) := gdX6_findQuiet_19.2.2.2.2.2.1
theorem dX6_findQuiet_29 : decode cX6_findQuiet 29 = .ok (.if_icmp .ge 40, 3) := gdX6_findQuiet_19.2.2.2.2.2.2.1
theorem dX6_findQuiet_69 : decode cX6_findQuiet 69 = .ok (.iinc 1 1, 3) := gdX6_findQuiet_19.2.2.2.2.2.2.2.1
theorem dX6_findQuiet_72 : decode cX6_findQuiet 72 = .ok (.goto (-70), 3) := gdX6_findQuiet_19.2.2.2.2.2.2.2.2.1
theorem dX6_findQuiet_32 : decode cX6_findQuiet 32 = .ok (.aload_n 0, 1) := gdX6_findQuiet_19.2.2.2.2.2.2.2.2.2.1
theorem dX6_findQuiet_33 : decode cX6_findQuiet 33 = .ok (.getfield 21, 3) := gdX6_findQuiet_19.2.2.2.2.2.2.2.2.2.2.1
theorem dX6_findQuiet_36 : decode cX6_findQuiet 36 = .ok (.iload_n 3, 1) := gdX6_findQuiet_19.2.2.2.2.2.2.2.2.2.2.2
theorem gdX6_findQuiet_37 : decode cX6_findQuiet 37 = .ok (.bipush 10, 2) ∧ decode cX6_findQuiet 39 = .ok (.imul, 1) ∧ decode cX6_findQuiet 40 = .ok (.iload_n 1, 1) ∧ decode cX6_findQuiet 41 = .ok (.iadd, 1) ∧ decode cX6_findQuiet 42 = .ok (.iload_n 2, 1) ∧ decode cX6_findQuiet 43 = .ok (.iastore, 1) ∧ decode cX6_findQuiet 44 = .ok (.iload_n 2, 1) ∧ decode cX6_findQuiet 45 = .ok (.aload_n 0, 1) ∧ decode cX6_findQuiet 46 = .ok (.getfield 30, 3) ∧ decode cX6_findQuiet 49 = .ok (.aload_n 0, 1) ∧ decode cX6_findQuiet 50 = .ok (.getfield 18, 3) ∧ decode cX6_findQuiet 53 = .ok (.iload_n 3, 1) := by decide +kernel
theorem dX6_findQuiet_37 : decode cX6_findQuiet 37 = .ok (.bipush 10, 2) := gdX6_findQuiet_37.1
theorem dX6_findQuiet_39 : decode cX6_findQuiet 39 = .ok (.imul, 1) := gdX6_findQuiet_37.2.1
theorem dX6_findQuiet_40 : decode cX6_findQuiet 40 = .ok (.iload_n 1, 1) := gdX6_findQuiet_37.2.2.1
theorem dX6_findQuiet_41 : decode cX6_findQuiet 41 = .ok (.iadd, 1) := gdX6_findQuiet_37.2.2.2.1
theorem dX6_findQuiet_42 : decode cX6_findQuiet 42 = .ok (.iload_n 2, 1) := gdX6_findQuiet_37.2.2.2.2.1
theorem dX6_findQuiet_43 : decode cX6_findQuiet 43 = .ok (.iastore, 1) := gdX6_findQuiet_37.2.2.2.2.2.1
theorem dX6_findQuiet_44 : decode cX6_findQuiet 44 = .ok (.iload_n 2, 1) := gdX6_findQuiet_37.2.2.2.2.2.2.1
theorem dX6_findQuiet_45 : decode cX6_findQuiet 45 = .ok (.aload_n 0, 1) := gdX6_findQuiet_37.2.2.2.2.2.2.2.1
theorem dX6_findQuiet_46 : decode cX6_findQuiet 46 = .ok (.getfield 30, 3) := gdX6_findQuiet_37.2.2.2.2.2.2.2.2.1
theorem dX6_findQuiet_49 : decode cX6_findQuiet 49 = .ok (.aload_n 0, 1) := gdX6_findQuiet_37.2.2.2.2.2.2.2.2.2.1
theorem dX6_findQuiet_50 : decode cX6_findQuiet 50 = .ok (.getfield 18, 3) := gdX6_findQuiet_37.2.2.2.2.2.2.2.2.2.2.1
theorem dX6_findQuiet_53 : decode cX6_findQuiet 53 = .ok (.iload_n 3, 1) := gdX6_findQuiet_37.2.2.2.2.2.2.2.2.2.2.2
theorem gdX6_findQuiet_54 : decode cX6_findQuiet 54 = .ok (.iaload, 1) ∧ decode cX6_findQuiet 55 = .ok (.aaload, 1) ∧ decode cX6_findQuiet 56 = .ok (.getfield 84, 3) ∧ decode cX6_findQuiet 59 = .ok (.iload_n 1, 1) ∧ decode cX6_findQuiet 60 = .ok (.iaload, 1) ∧ decode cX6_findQuiet 61 = .ok (.iand, 1) ∧ decode cX6_findQuiet 62 = .ok (.istore_n 2, 1) ∧ decode cX6_findQuiet 63 = .ok (.iinc 3 1, 3) ∧ decode cX6_findQuiet 66 = .ok (.goto (-47), 3) := by decide +kernel
theorem dX6_findQuiet_54 : decode cX6_findQuiet 54 = .ok (.iaload, 1) := gdX6_findQuiet_54.1
theorem dX6_findQuiet_55 : decode cX6_findQuiet 55 = .ok (.aaload, 1) := gdX6_findQuiet_54.2.1
theorem dX6_findQuiet_56 : decode cX6_findQuiet 56 = .ok (.getfield 84, 3) := gdX6_findQuiet_54.2.2.1
theorem dX6_findQuiet_59 : decode cX6_findQuiet 59 = .ok (.iload_n 1, 1) := gdX6_findQuiet_54.2.2.2.1
theorem dX6_findQuiet_60 : decode cX6_findQuiet 60 = .ok (.iaload, 1) := gdX6_findQuiet_54.2.2.2.2.1
theorem dX6_findQuiet_61 : decode cX6_findQuiet 61 = .ok (.iand, 1) := gdX6_findQuiet_54.2.2.2.2.2.1
theorem dX6_findQuiet_62 : decode cX6_findQuiet 62 = .ok (.istore_n 2, 1) := gdX6_findQuiet_54.2.2.2.2.2.2.1
theorem dX6_findQuiet_63 : decode cX6_findQuiet 63 = .ok (.iinc 3 1, 3) := gdX6_findQuiet_54.2.2.2.2.2.2.2.1
theorem dX6_findQuiet_66 : decode cX6_findQuiet 66 = .ok (.goto (-47), 3) := gdX6_findQuiet_54.2.2.2.2.2.2.2.2
set_option maxHeartbeats 1000000 in
set_option maxRecDepth 100000 in
theorem s_findQuiet (l : Launch) (D : va_G) (cy : Nat → ClassId) (p0 : Nat) (p1 : Nat) (p2 : Nat) (p3 : Nat) (p4 : Nat) (er : Nat) (ro : Nat) (ch : Nat) (fne : Nat → Int32) (fqi : Nat → Int32) (h0 : Nat) (h1 : Nat) (h2 : Nat) (h3 : Nat) (h4 : Nat) (h5 : Nat) (h6 : Nat) (h7 : Nat) (h8 : Nat) (h9 : Nat) (h10 : Nat) (h11 : Nat) (hv0 : Value) (hv1 : Value) (hv2 : Value) (hv3 : Value) (hv4 : Value) (fc : Nat → Int32) (c0 : Nat) (c1 : Nat) (c2 : Nat) (c3 : Nat) (s0 : Nat) (s1 : Nat) (s2 : Nat) (sl : Nat) (spl : Int32) (svo : Int32) (swi : Int32) (sch : Int32) (ea : Nat → Nat) (eg : Nat → Nat) (ef : Nat → Nat) (et : Nat → Int32) (el : Nat → Nat) (ei : Nat → Nat) (gc : Nat → Nat → Int32) (xc : Nat → Nat → Int32) (hne : nOK fne c1) (hcn : cntOK fc c0 c1 c2 c3) (hc0 : c0 ≤ 8) (hc1 : c1 ≤ 4) (hc2 : c2 ≤ 4) (hc3 : c3 ≤ 6) (hsl : sl ≤ 10) : XMv l D (tyL cy) E0 yX6_findQuiet cX6_findQuiet 4 none (rmk 0 0 0) [.ref p0] [wO p0 6 [.ref p1, .ref er, .ref ro, .ref p2, .ref p3, .ref p4, .ref h0, .ref s0, .int (nI ch)], wI (cy 1) p3 4 (fne), wI (cy 1) p4 40 (fqi), wO h0 4 [.ref h1, .ref h2, .ref h3, .ref h4, .ref h5, .ref h6, .ref h7, .ref h8, .ref h9, .ref h10, .ref h11, hv0, hv1, hv2, hv3, hv4], wI (cy 1) h1 4 (fc), wO s0 7 [.ref s1, .ref s2, .int (nI sl), .int spl, .int svo, .int swi, .int sch], (er, .inl (cy 4, 4, .inr (.inr (.inr (.inr (eF (ea 0) (ea 1) (ea 2) (ea 3))))))), wO (ea 0) 2 [.ref (eg 0), .ref (ef 0), .int (et 0), .int (nI (el 0)), .int (nI (ei 0))], wI (cy 1) (eg 0) 10 (gc 0), wI (cy 1) (ef 0) 7 (xc 0), wO (ea 1) 2 [.ref (eg 1), .ref (ef 1), .int (et 1), .int (nI (el 1)), .int (nI (ei 1))], wI (cy 1) (eg 1) 10 (gc 1), wI (cy 1) (ef 1) 7 (xc 1), wO (ea 2) 2 [.ref (eg 2), .ref (ef 2), .int (et 2), .int (nI (el 2)), .int (nI (ei 2))], wI (cy 1) (eg 2) 10 (gc 2), wI (cy 1) (ef 2) 7 (xc 2), wO (ea 3) 2 [.ref (eg 3), .ref (ef 3), .int (et 3), .int (nI (el 3)), .int (nI (ei 3))], wI (cy 1) (eg 3) 10 (gc 3), wI (cy 1) (ef 3) 7 (xc 3)] (fun (fqi2 : Nat → Int32) => True) (fun (fqi2 : Nat → Int32) => [wO p0 6 [.ref p1, .ref er, .ref ro, .ref p2, .ref p3, .ref p4, .ref h0, .ref s0, .int (nI ch)], wI (cy 1) p3 4 (fne), wI (cy 1) p4 40 (fqi2), wO h0 4 [.ref h1, .ref h2, .ref h3, .ref h4, .ref h5, .ref h6, .ref h7, .ref h8, .ref h9, .ref h10, .ref h11, hv0, hv1, hv2, hv3, hv4], wI (cy 1) h1 4 (fc), wO s0 7 [.ref s1, .ref s2, .int (nI sl), .int spl, .int svo, .int swi, .int sch], (er, .inl (cy 4, 4, .inr (.inr (.inr (.inr (eF (ea 0) (ea 1) (ea 2) (ea 3))))))), wO (ea 0) 2 [.ref (eg 0), .ref (ef 0), .int (et 0), .int (nI (el 0)), .int (nI (ei 0))], wI (cy 1) (eg 0) 10 (gc 0), wI (cy 1) (ef 0) 7 (xc 0), wO (ea 1) 2 [.ref (eg 1), .ref (ef 1), .int (et 1), .int (nI (el 1)), .int (nI (ei 1))], wI (cy 1) (eg 1) 10 (gc 1), wI (cy 1) (ef 1) 7 (xc 1), wO (ea 2) 2 [.ref (eg 2), .ref (ef 2), .int (et 2), .int (nI (el 2)), .int (nI (ei 2))], wI (cy 1) (eg 2) 10 (gc 2), wI (cy 1) (ef 2) 7 (xc 2), wO (ea 3) 2 [.ref (eg 3), .ref (ef 3), .int (et 3), .int (nI (el 3)), .int (nI (ei 3))], wI (cy 1) (eg 3) 10 (gc 3), wI (cy 1) (ef 3) 7 (xc 3)]) := by
  refine XMv.start (by decide) (Nat.le_of_ble_eq_true rfl) ?_
  intro p e s m below meth c args A ls Q hat hQ
  obtain ⟨hx, hb, hr, hml, hown, hg, hlocks, hin, hK, hA, hP, hD, hS, hE, hl⟩ := hat
  have hown : s.vm.findClass RX6 = some m.cls := hown
  have hl : lv_has ls 4 [(0, .ref p0)] := hl
  refine lv_iconst (v := 0) hx hb dX6_findQuiet_0 (by decide) ?_
  refine lv_istore_n (lv' := [(1, .int 0), (0, .ref p0)]) hx hb dX6_findQuiet_1 rfl hl (by decide) rfl (fun ls hl => ?_)
  have loop1 : ∀ (zn : Nat) (i1 : Nat) (fa1_1 : Nat → Int32), (i1 ≤ sl) → sl - i1 + 1 ≤ zn → ∀ (H : Heap) (locs : List Loc), va_P D vwCl [wO p0 6 [.ref p1, .ref er, .ref ro, .ref p2, .ref p3, .ref p4, .ref h0, .ref s0, .int (nI ch)], wI (cy 1) p3 4 (fne), wI (cy 1) p4 40 (fa1_1), wO h0 4 [.ref h1, .ref h2, .ref h3, .ref h4, .ref h5, .ref h6, .ref h7, .ref h8, .ref h9, .ref h10, .ref h11, hv0, hv1, hv2, hv3, hv4], wI (cy 1) h1 4 (fc), wO s0 7 [.ref s1, .ref s2, .int (nI sl), .int spl, .int svo, .int swi, .int sch], (er, .inl (cy 4, 4, .inr (.inr (.inr (.inr (eF (ea 0) (ea 1) (ea 2) (ea 3))))))), wO (ea 0) 2 [.ref (eg 0), .ref (ef 0), .int (et 0), .int (nI (el 0)), .int (nI (ei 0))], wI (cy 1) (eg 0) 10 (gc 0), wI (cy 1) (ef 0) 7 (xc 0), wO (ea 1) 2 [.ref (eg 1), .ref (ef 1), .int (et 1), .int (nI (el 1)), .int (nI (ei 1))], wI (cy 1) (eg 1) 10 (gc 1), wI (cy 1) (ef 1) 7 (xc 1), wO (ea 2) 2 [.ref (eg 2), .ref (ef 2), .int (et 2), .int (nI (el 2)), .int (nI (ei 2))], wI (cy 1) (eg 2) 10 (gc 2), wI (cy 1) (ef 2) 7 (xc 2), wO (ea 3) 2 [.ref (eg 3), .ref (ef 3), .int (et 3), .int (nI (el 3)), .int (nI (ei 3))], wI (cy 1) (eg 3) 10 (gc 3), wI (cy 1) (ef 3) 7 (xc 3)] H → va_D A [wO p0 6 [.ref p1, .ref er, .ref ro, .ref p2, .ref p3, .ref p4, .ref h0, .ref s0, .int (nI ch)], wI (cy 1) p3 4 (fne), wI (cy 1) p4 40 (fa1_1), wO h0 4 [.ref h1, .ref h2, .ref h3, .ref h4, .ref h5, .ref h6, .ref h7, .ref h8, .ref h9, .ref h10, .ref h11, hv0, hv1, hv2, hv3, hv4], wI (cy 1) h1 4 (fc), wO s0 7 [.ref s1, .ref s2, .int (nI sl), .int spl, .int svo, .int swi, .int sch], (er, .inl (cy 4, 4, .inr (.inr (.inr (.inr (eF (ea 0) (ea 1) (ea 2) (ea 3))))))), wO (ea 0) 2 [.ref (eg 0), .ref (ef 0), .int (et 0), .int (nI (el 0)), .int (nI (ei 0))], wI (cy 1) (eg 0) 10 (gc 0), wI (cy 1) (ef 0) 7 (xc 0), wO (ea 1) 2 [.ref (eg 1), .ref (ef 1), .int (et 1), .int (nI (el 1)), .int (nI (ei 1))], wI (cy 1) (eg 1) 10 (gc 1), wI (cy 1) (ef 1) 7 (xc 1), wO (ea 2) 2 [.ref (eg 2), .ref (ef 2), .int (et 2), .int (nI (el 2)), .int (nI (ei 2))], wI (cy 1) (eg 2) 10 (gc 2), wI (cy 1) (ef 2) 7 (xc 2), wO (ea 3) 2 [.ref (eg 3), .ref (ef 3), .int (et 3), .int (nI (el 3)), .int (nI (ei 3))], wI (cy 1) (eg 3) 10 (gc 3), wI (cy 1) (ef 3) 7 (xc 3)] → va_S A s.heap H locs → ∀ ls : Array Slot, lv_has ls 4 [(1, .int (nI i1)), (0, .ref p0)] → W p l e (rmk 0 0 0) s m args below meth c H locs 0 0 Q (F0 m 2 ls []) := by
    try clear hP hD hS
    intro zn
    induction zn with
    | zero => intro i1 fa1_1 _ hz; exact absurd hz (by omega)
    | succ zn ih1 =>
      intro i1 fa1_1 hf0_1 hmu1 H locs hP hD hS ls hl
      refine lv_iload_n hx hb dX6_findQuiet_2 rfl (lv_at hl 0 rfl) ?_
      refine lv_aload_n hx hb dX6_findQuiet_3 rfl (lv_at hl 1 rfl) ?_
      refine va_get (D := D) (ci := 6) (v := .ref s0) (C := RX6) (T := TX6) (N := 9) hx hb hg i_X6 hown hK hP 0 rfl rfl 7 (by decide) (hg _ m_592) (fun _ h9 => h9) rfl dX6_findQuiet_4 ?_
      refine va_get (D := D) (ci := 7) (v := .int (nI sl)) (C := RX7) (T := TX7) (N := 7) hx hb hg i_X7 hown hK hP 5 rfl rfl 2 (by decide) (hg _ m_630) (fun _ h9 => h9) rfl dX6_findQuiet_7 ?_
      refine lv_icmp_ge (tgt := 75) hx hb dX6_findQuiet_10 (by decide) (fun c_2 => ?_) (fun c_2 => ?_)
      · have q_3 : sl ≤ i1 := q_le (a := sl) (b := i1) rfl rfl (by omega) (by omega) c_2
        exact x_vret hQ hx hb hr hlocks hK hP hD hS dX6_findQuiet_75 fa1_1 (trivial) [0, 1, 2, 3, 4, 5, 6, 7, 8, 9, 10, 11, 12, 13, 14, 15, 16, 17, 18] (by decide +kernel) rfl (Nat.le_of_ble_eq_true rfl) (Nat.le_of_ble_eq_true rfl)
      · have q_3 : i1 < sl := q_nle (a := sl) (b := i1) rfl rfl (by omega) (by omega) c_2
        refine lv_sipush (v := 255) hx hb dX6_findQuiet_13 (by decide) ?_
        refine lv_istore_n (lv' := [(2, .int 255), (1, .int (nI i1)), (0, .ref p0)]) hx hb dX6_findQuiet_16 rfl hl (by decide) rfl (fun ls hl => ?_)
        refine lv_iconst (v := 0) hx hb dX6_findQuiet_17 (by decide) ?_
        refine lv_istore_n (lv' := [(3, .int 0), (2, .int 255), (1, .int (nI i1)), (0, .ref p0)]) hx hb dX6_findQuiet_18 rfl hl (by decide) rfl (fun ls hl => ?_)
        have loop4 : ∀ (zn : Nat) (lx2_4 : Int32) (rk4 : Nat) (fa2_4 : Nat → Int32), (rk4 ≤ c1) → c1 - rk4 + 1 ≤ zn → ∀ (H : Heap) (locs : List Loc), va_P D vwCl [wO p0 6 [.ref p1, .ref er, .ref ro, .ref p2, .ref p3, .ref p4, .ref h0, .ref s0, .int (nI ch)], wI (cy 1) p3 4 (fne), wI (cy 1) p4 40 (fa2_4), wO h0 4 [.ref h1, .ref h2, .ref h3, .ref h4, .ref h5, .ref h6, .ref h7, .ref h8, .ref h9, .ref h10, .ref h11, hv0, hv1, hv2, hv3, hv4], wI (cy 1) h1 4 (fc), wO s0 7 [.ref s1, .ref s2, .int (nI sl), .int spl, .int svo, .int swi, .int sch], (er, .inl (cy 4, 4, .inr (.inr (.inr (.inr (eF (ea 0) (ea 1) (ea 2) (ea 3))))))), wO (ea 0) 2 [.ref (eg 0), .ref (ef 0), .int (et 0), .int (nI (el 0)), .int (nI (ei 0))], wI (cy 1) (eg 0) 10 (gc 0), wI (cy 1) (ef 0) 7 (xc 0), wO (ea 1) 2 [.ref (eg 1), .ref (ef 1), .int (et 1), .int (nI (el 1)), .int (nI (ei 1))], wI (cy 1) (eg 1) 10 (gc 1), wI (cy 1) (ef 1) 7 (xc 1), wO (ea 2) 2 [.ref (eg 2), .ref (ef 2), .int (et 2), .int (nI (el 2)), .int (nI (ei 2))], wI (cy 1) (eg 2) 10 (gc 2), wI (cy 1) (ef 2) 7 (xc 2), wO (ea 3) 2 [.ref (eg 3), .ref (ef 3), .int (et 3), .int (nI (el 3)), .int (nI (ei 3))], wI (cy 1) (eg 3) 10 (gc 3), wI (cy 1) (ef 3) 7 (xc 3)] H → va_D A [wO p0 6 [.ref p1, .ref er, .ref ro, .ref p2, .ref p3, .ref p4, .ref h0, .ref s0, .int (nI ch)], wI (cy 1) p3 4 (fne), wI (cy 1) p4 40 (fa2_4), wO h0 4 [.ref h1, .ref h2, .ref h3, .ref h4, .ref h5, .ref h6, .ref h7, .ref h8, .ref h9, .ref h10, .ref h11, hv0, hv1, hv2, hv3, hv4], wI (cy 1) h1 4 (fc), wO s0 7 [.ref s1, .ref s2, .int (nI sl), .int spl, .int svo, .int swi, .int sch], (er, .inl (cy 4, 4, .inr (.inr (.inr (.inr (eF (ea 0) (ea 1) (ea 2) (ea 3))))))), wO (ea 0) 2 [.ref (eg 0), .ref (ef 0), .int (et 0), .int (nI (el 0)), .int (nI (ei 0))], wI (cy 1) (eg 0) 10 (gc 0), wI (cy 1) (ef 0) 7 (xc 0), wO (ea 1) 2 [.ref (eg 1), .ref (ef 1), .int (et 1), .int (nI (el 1)), .int (nI (ei 1))], wI (cy 1) (eg 1) 10 (gc 1), wI (cy 1) (ef 1) 7 (xc 1), wO (ea 2) 2 [.ref (eg 2), .ref (ef 2), .int (et 2), .int (nI (el 2)), .int (nI (ei 2))], wI (cy 1) (eg 2) 10 (gc 2), wI (cy 1) (ef 2) 7 (xc 2), wO (ea 3) 2 [.ref (eg 3), .ref (ef 3), .int (et 3), .int (nI (el 3)), .int (nI (ei 3))], wI (cy 1) (eg 3) 10 (gc 3), wI (cy 1) (ef 3) 7 (xc 3)] → va_S A s.heap H locs → ∀ ls : Array Slot, lv_has ls 4 [(3, .int (nI rk4)), (2, .int lx2_4), (1, .int (nI i1)), (0, .ref p0)] → W p l e (rmk 0 0 0) s m args below meth c H locs 0 0 Q (F0 m 19 ls []) := by
          try clear hP hD hS
          intro zn
          induction zn with
          | zero => intro lx2_4 rk4 fa2_4 _ hz; exact absurd hz (by omega)
          | succ zn ih4 =>
            intro lx2_4 rk4 fa2_4 hf0_4 hmu4 H locs hP hD hS ls hl
            refine lv_iload_n hx hb dX6_findQuiet_19 rfl (lv_at hl 0 rfl) ?_
            refine lv_aload_n hx hb dX6_findQuiet_20 rfl (lv_at hl 3 rfl) ?_
            refine va_get (D := D) (ci := 6) (v := .ref h0) (C := RX6) (T := TX6) (N := 9) hx hb hg i_X6 hown hK hP 0 rfl rfl 6 (by decide) (hg _ m_591) (fun _ h9 => h9) rfl dX6_findQuiet_21 ?_
            refine va_get (D := D) (ci := 4) (v := .ref h1) (C := RX4) (T := TX4) (N := 16) hx hb hg i_X4 hown hK hP 3 rfl rfl 0 (by decide) (hg _ m_330) (fun _ h9 => h9) rfl dX6_findQuiet_24 ?_
            refine lv_iconst (v := 1) hx hb dX6_findQuiet_27 (by decide) ?_
            refine va_iald hx hb hK hP 4 1 rfl rfl (by unfold vp_in; decide) dX6_findQuiet_28 ?_
            refine lv_topi (fun y_5 hy_5 => ?_)
            obtain rfl : y_5 = nI c1 := hy_5.trans hcn.2.1
            refine lv_icmp_ge (tgt := 69) hx hb dX6_findQuiet_29 (by decide) (fun c_6 => ?_) (fun c_6 => ?_)
            · have q_7 : c1 ≤ rk4 := q_le (a := c1) (b := rk4) rfl rfl (by omega) (by omega) c_6
              refine lv_iinc (v := nI (i1 + 1)) (lv' := [(1, .int (nI (i1 + 1))), (3, .int (nI rk4)), (2, .int lx2_4), (0, .ref p0)]) hx hb dX6_findQuiet_69 hl (k := 2) rfl (nI_add i1 1) (by decide) rfl (fun ls hl => ?_)
              refine lv_goto (tgt := 2) hx hb dX6_findQuiet_72 (by decide) ?_
              exact ih1  ((i1 + 1)) fa2_4 (by omega) (by omega) _ _ (hP.sub [0, 1, 2, 3, 4, 5, 6, 7, 8, 9, 10, 11, 12, 13, 14, 15, 16, 17, 18] rfl) (hD.sub [0, 1, 2, 3, 4, 5, 6, 7, 8, 9, 10, 11, 12, 13, 14, 15, 16, 17, 18] (by decide +kernel) rfl) hS ls (lv_sub hl [0, 3] rfl)
            · have q_7 : rk4 < c1 := q_nle (a := c1) (b := rk4) rfl rfl (by omega) (by omega) c_6
              refine lv_aload_n hx hb dX6_findQuiet_32 rfl (lv_at hl 3 rfl) ?_
              refine va_get (D := D) (ci := 6) (v := .ref p4) (C := RX6) (T := TX6) (N := 9) hx hb hg i_X6 hown hK hP 0 rfl rfl 5 (by decide) (hg _ m_590) (fun _ h9 => h9) rfl dX6_findQuiet_33 ?_
              refine lv_iload_n hx hb dX6_findQuiet_36 rfl (lv_at hl 0 rfl) ?_
              refine lv_bipush (v := 10) hx hb dX6_findQuiet_37 (by decide) ?_
              refine lv_imul hx hb dX6_findQuiet_39 ?_
              refine lv_topi (fun y_8 hy_8 => ?_)
              obtain rfl : y_8 = nI (rk4 * 10) := hy_8.trans (pk_mul rk4 10)
              refine lv_iload_n hx hb dX6_findQuiet_40 rfl (lv_at hl 2 rfl) ?_
              refine lv_iadd hx hb dX6_findQuiet_41 ?_
              refine lv_topi (fun y_9 hy_9 => ?_)
              obtain rfl : y_9 = nI ((rk4 * 10) + i1) := hy_9.trans (nI_add ((rk4 * 10)) i1)
              refine lv_iload_n hx hb dX6_findQuiet_42 rfl (lv_at hl 1 rfl) ?_
              refine va_iast hx hb hK hP hD hS 2 1 rfl rfl (vp_in_nI (by omega) (by decide)) dX6_findQuiet_43 (fun H locs hP9 hD9 hS9 => ?_)
              clear hP hD hS
              obtain ⟨g_10, eg_10⟩ : ∃ y, upd fa2_4 (nI ((rk4 * 10) + i1) : Int32).toNatClampNeg lx2_4 = y := ⟨_, rfl⟩
              rw [eg_10] at hP9 hD9
              refine reW [wO p0 6 [.ref p1, .ref er, .ref ro, .ref p2, .ref p3, .ref p4, .ref h0, .ref s0, .int (nI ch)], wI (cy 1) p3 4 (fne), wI (cy 1) p4 40 (g_10), wO h0 4 [.ref h1, .ref h2, .ref h3, .ref h4, .ref h5, .ref h6, .ref h7, .ref h8, .ref h9, .ref h10, .ref h11, hv0, hv1, hv2, hv3, hv4], wI (cy 1) h1 4 (fc), wO s0 7 [.ref s1, .ref s2, .int (nI sl), .int spl, .int svo, .int swi, .int sch], (er, .inl (cy 4, 4, .inr (.inr (.inr (.inr (eF (ea 0) (ea 1) (ea 2) (ea 3))))))), wO (ea 0) 2 [.ref (eg 0), .ref (ef 0), .int (et 0), .int (nI (el 0)), .int (nI (ei 0))], wI (cy 1) (eg 0) 10 (gc 0), wI (cy 1) (ef 0) 7 (xc 0), wO (ea 1) 2 [.ref (eg 1), .ref (ef 1), .int (et 1), .int (nI (el 1)), .int (nI (ei 1))], wI (cy 1) (eg 1) 10 (gc 1), wI (cy 1) (ef 1) 7 (xc 1), wO (ea 2) 2 [.ref (eg 2), .ref (ef 2), .int (et 2), .int (nI (el 2)), .int (nI (ei 2))], wI (cy 1) (eg 2) 10 (gc 2), wI (cy 1) (ef 2) 7 (xc 2), wO (ea 3) 2 [.ref (eg 3), .ref (ef 3), .int (et 3), .int (nI (el 3)), .int (nI (ei 3))], wI (cy 1) (eg 3) 10 (gc 3), wI (cy 1) (ef 3) 7 (xc 3)] hP9 hD9 hS9 (fun hP hD hS => ?_)
              clear hP9 hD9 hS9
              refine lv_iload_n hx hb dX6_findQuiet_44 rfl (lv_at hl 1 rfl) ?_
              refine lv_aload_n hx hb dX6_findQuiet_45 rfl (lv_at hl 3 rfl) ?_
              refine va_get (D := D) (ci := 6) (v := .ref er) (C := RX6) (T := TX6) (N := 9) hx hb hg i_X6 hown hK hP 0 rfl rfl 1 (by decide) (hg _ m_586) (fun _ h9 => h9) rfl dX6_findQuiet_46 ?_
              refine lv_aload_n hx hb dX6_findQuiet_49 rfl (lv_at hl 3 rfl) ?_
              refine va_get (D := D) (ci := 6) (v := .ref p3) (C := RX6) (T := TX6) (N := 9) hx hb hg i_X6 hown hK hP 0 rfl rfl 4 (by decide) (hg _ m_589) (fun _ h9 => h9) rfl dX6_findQuiet_50 ?_
              refine lv_iload_n hx hb dX6_findQuiet_53 rfl (lv_at hl 0 rfl) ?_
              refine va_iald hx hb hK hP 1 1 rfl rfl (vp_in_nI (by omega) (by decide)) dX6_findQuiet_54 ?_
              obtain ⟨j_11, hj_11, ej_11⟩ := nOK_at hne (i := rk4) (by omega) (by omega)
              refine lv_topi (fun y_12 hy_12 => ?_)
              obtain rfl : y_12 = nI j_11 := hy_12.trans ej_11
              rcases (show j_11 = 0 ∨ j_11 = 1 ∨ j_11 = 2 ∨ j_11 = 3 by omega) with hsp | hsp | hsp | hsp
              · subst hsp
                refine va_aldq hx hb hK hP 6 4 rfl rfl (by unfold vp_in; decide) dX6_findQuiet_55 ?_
                refine W.eq (g2 := F0 m 56 ls [.ref (ea 0), .int lx2_4]) rfl ?_
                refine va_get (D := D) (ci := 2) (v := .ref (eg 0)) (C := RX2) (T := TX2) (N := 5) hx hb hg i_X2 hown hK hP 7 rfl rfl 0 (by decide) (hg _ m_513) (fun _ h9 => h9) rfl dX6_findQuiet_56 ?_
                refine lv_iload_n hx hb dX6_findQuiet_59 rfl (lv_at hl 2 rfl) ?_
                refine va_iald hx hb hK hP 8 1 rfl rfl (vp_in_nI (by omega) (by decide)) dX6_findQuiet_60 ?_
                refine lv_topi (fun x_13 ex_13 => ?_)
                refine lv_iand hx hb dX6_findQuiet_61 ?_
                refine lv_topi (fun x_14 ex_14 => ?_)
                refine lv_istore_n (lv' := [(2, .int x_14), (3, .int (nI rk4)), (1, .int (nI i1)), (0, .ref p0)]) hx hb dX6_findQuiet_62 rfl hl (by decide) rfl (fun ls hl => ?_)
                refine lv_iinc (v := nI (rk4 + 1)) (lv' := [(3, .int (nI (rk4 + 1))), (2, .int x_14), (1, .int (nI i1)), (0, .ref p0)]) hx hb dX6_findQuiet_63 hl (k := 1) rfl (nI_add rk4 1) (by decide) rfl (fun ls hl => ?_)
                refine lv_goto (tgt := 19) hx hb dX6_findQuiet_66 (by decide) ?_
                exact ih4  x_14 ((rk4 + 1)) g_10 (by omega) (by omega) _ _ (hP.sub [0, 1, 2, 3, 4, 5, 6, 7, 8, 9, 10, 11, 12, 13, 14, 15, 16, 17, 18] rfl) (hD.sub [0, 1, 2, 3, 4, 5, 6, 7, 8, 9, 10, 11, 12, 13, 14, 15, 16, 17, 18] (by decide +kernel) rfl) hS ls (lv_sub hl [0, 1, 2, 3] rfl)
              · subst hsp
                refine va_aldq hx hb hK hP 6 4 rfl rfl (by unfold vp_in; decide) dX6_findQuiet_55 ?_
                refine W.eq (g2 := F0 m 56 ls [.ref (ea 1), .int lx2_4]) rfl ?_
                refine va_get (D := D) (ci := 2) (v := .ref (eg 1)) (C := RX2) (T := TX2) (N := 5) hx hb hg i_X2 hown hK hP 10 rfl rfl 0 (by decide) (hg _ m_513) (fun _ h9 => h9) rfl dX6_findQuiet_56 ?_
                refine lv_iload_n hx hb dX6_findQuiet_59 rfl (lv_at hl 2 rfl) ?_
                refine va_iald hx hb hK hP 11 1 rfl rfl (vp_in_nI (by omega) (by decide)) dX6_findQuiet_60 ?_
                refine lv_topi (fun x_15 ex_15 => ?_)
                refine lv_iand hx hb dX6_findQuiet_61 ?_
                refine lv_topi (fun x_16 ex_16 => ?_)
                refine lv_istore_n (lv' := [(2, .int x_16), (3, .int (nI rk4)), (1, .int (nI i1)), (0, .ref p0)]) hx hb dX6_findQuiet_62 rfl hl (by decide) rfl (fun ls hl => ?_)
                refine lv_iinc (v := nI (rk4 + 1)) (lv' := [(3, .int (nI (rk4 + 1))), (2, .int x_16), (1, .int (nI i1)), (0, .ref p0)]) hx hb dX6_findQuiet_63 hl (k := 1) rfl (nI_add rk4 1) (by decide) rfl (fun ls hl => ?_)
                refine lv_goto (tgt := 19) hx hb dX6_findQuiet_66 (by decide) ?_
                exact ih4  x_16 ((rk4 + 1)) g_10 (by omega) (by omega) _ _ (hP.sub [0, 1, 2, 3, 4, 5, 6, 7, 8, 9, 10, 11, 12, 13, 14, 15, 16, 17, 18] rfl) (hD.sub [0, 1, 2, 3, 4, 5, 6, 7, 8, 9, 10, 11, 12, 13, 14, 15, 16, 17, 18] (by decide +kernel) rfl) hS ls (lv_sub hl [0, 1, 2, 3] rfl)
              · subst hsp
                refine va_aldq hx hb hK hP 6 4 rfl rfl (by unfold vp_in; decide) dX6_findQuiet_55 ?_
                refine W.eq (g2 := F0 m 56 ls [.ref (ea 2), .int lx2_4]) rfl ?_
                refine va_get (D := D) (ci := 2) (v := .ref (eg 2)) (C := RX2) (T := TX2) (N := 5) hx hb hg i_X2 hown hK hP 13 rfl rfl 0 (by decide) (hg _ m_513) (fun _ h9 => h9) rfl dX6_findQuiet_56 ?_
                refine lv_iload_n hx hb dX6_findQuiet_59 rfl (lv_at hl 2 rfl) ?_
                refine va_iald hx hb hK hP 14 1 rfl rfl (vp_in_nI (by omega) (by decide)) dX6_findQuiet_60 ?_
                refine lv_topi (fun x_17 ex_17 => ?_)
                refine lv_iand hx hb dX6_findQuiet_61 ?_
                refine lv_topi (fun x_18 ex_18 => ?_)
                refine lv_istore_n (lv' := [(2, .int x_18), (3, .int (nI rk4)), (1, .int (nI i1)), (0, .ref p0)]) hx hb dX6_findQuiet_62 rfl hl (by decide) rfl (fun ls hl => ?_)
                refine lv_iinc (v := nI (rk4 + 1)) (lv' := [(3, .int (nI (rk4 + 1))), (2, .int x_18), (1, .int (nI i1)), (0, .ref p0)]) hx hb dX6_findQuiet_63 hl (k := 1) rfl (nI_add rk4 1) (by decide) rfl (fun ls hl => ?_)
                refine lv_goto (tgt := 19) hx hb dX6_findQuiet_66 (by decide) ?_
                exact ih4  x_18 ((rk4 + 1)) g_10 (by omega) (by omega) _ _ (hP.sub [0, 1, 2, 3, 4, 5, 6, 7, 8, 9, 10, 11, 12, 13, 14, 15, 16, 17, 18] rfl) (hD.sub [0, 1, 2, 3, 4, 5, 6, 7, 8, 9, 10, 11, 12, 13, 14, 15, 16, 17, 18] (by decide +kernel) rfl) hS ls (lv_sub hl [0, 1, 2, 3] rfl)
              · subst hsp
                refine va_aldq hx hb hK hP 6 4 rfl rfl (by unfold vp_in; decide) dX6_findQuiet_55 ?_
                refine W.eq (g2 := F0 m 56 ls [.ref (ea 3), .int lx2_4]) rfl ?_
                refine va_get (D := D) (ci := 2) (v := .ref (eg 3)) (C := RX2) (T := TX2) (N := 5) hx hb hg i_X2 hown hK hP 16 rfl rfl 0 (by decide) (hg _ m_513) (fun _ h9 => h9) rfl dX6_findQuiet_56 ?_
                refine lv_iload_n hx hb dX6_findQuiet_59 rfl (lv_at hl 2 rfl) ?_
                refine va_iald hx hb hK hP 17 1 rfl rfl (vp_in_nI (by omega) (by decide)) dX6_findQuiet_60 ?_
                refine lv_topi (fun x_19 ex_19 => ?_)
                refine lv_iand hx hb dX6_findQuiet_61 ?_
                refine lv_topi (fun x_20 ex_20 => ?_)
                refine lv_istore_n (lv' := [(2, .int x_20), (3, .int (nI rk4)), (1, .int (nI i1)), (0, .ref p0)]) hx hb dX6_findQuiet_62 rfl hl (by decide) rfl (fun ls hl => ?_)
                refine lv_iinc (v := nI (rk4 + 1)) (lv' := [(3, .int (nI (rk4 + 1))), (2, .int x_20), (1, .int (nI i1)), (0, .ref p0)]) hx hb dX6_findQuiet_63 hl (k := 1) rfl (nI_add rk4 1) (by decide) rfl (fun ls hl => ?_)
                refine lv_goto (tgt := 19) hx hb dX6_findQuiet_66 (by decide) ?_
                exact ih4  x_20 ((rk4 + 1)) g_10 (by omega) (by omega) _ _ (hP.sub [0, 1, 2, 3, 4, 5, 6, 7, 8, 9, 10, 11, 12, 13, 14, 15, 16, 17, 18] rfl) (hD.sub [0, 1, 2, 3, 4, 5, 6, 7, 8, 9, 10, 11, 12, 13, 14, 15, 16, 17, 18] (by decide +kernel) rfl) hS ls (lv_sub hl [0, 1, 2, 3] rfl)
        exact loop4 _ 255 0 fa1_1 (by omega) (Nat.le_refl _) _ _ (hP.sub [0, 1, 2, 3, 4, 5, 6, 7, 8, 9, 10, 11, 12, 13, 14, 15, 16, 17, 18] rfl) (hD.sub [0, 1, 2, 3, 4, 5, 6, 7, 8, 9, 10, 11, 12, 13, 14, 15, 16, 17, 18] (by decide +kernel) rfl) hS ls (lv_sub hl [0, 1, 2, 3] rfl)
  exact loop1 _ 0 fqi (by omega) (Nat.le_refl _) _ _ (hP.sub [0, 1, 2, 3, 4, 5, 6, 7, 8, 9, 10, 11, 12, 13, 14, 15, 16, 17, 18] rfl) (hD.sub [0, 1, 2, 3, 4, 5, 6, 7, 8, 9, 10, 11, 12, 13, 14, 15, 16, 17, 18] (by decide +kernel) rfl) hS ls (lv_sub hl [0, 1] rfl)
theorem gdX6_choices_0 : decode cX6_choices 0 = .ok (.iconst 1, 1) ∧ decode cX6_choices 1 = .ok (.aload_n 0, 1) ∧ decode cX6_choices 2 = .ok (.getfield 39, 3) ∧ decode cX6_choices 5 = .ok (.getfield 107, 3) ∧ decode cX6_choices 8 = .ok (.iload_n 1, 1) ∧ decode cX6_choices 9 = .ok (.iaload, 1) ∧ decode cX6_choices 10 = .ok (.ishl, 1) ∧ decode cX6_choices 11 = .ok (.istore_n 3, 1) ∧ decode cX6_choices 12 = .ok (.iconst 1, 1) ∧ decode cX6_choices 13 = .ok (.aload_n 0, 1) ∧ decode cX6_choices 14 = .ok (.getfield 35, 3) ∧ decode cX6_choices 17 = .ok (.getfield 43, 3) := by decide +kernel
theorem dX6_choices_0 : decode cX6_choices 0 = .ok (.iconst 1, 1) := gdX6_choices_0.1
theorem dX6_choices_1 : decode cX6_choices 1 = .ok (.aload_n 0, 1) := gdX6_choices_0.2.1
theorem dX6_choices_2 : decode cX6_choices 2 = .ok (.getfield 39, 3) := gdX6_choices_0.2.2.1
theorem dX6_choices_5 : decode cX6_choices 5 = .ok (.getfield 107, 3) := gdX6_choices_0.2.2.2.1
theorem dX6_choices_8 : decode cX6_choices 8 = .ok (.iload_n 1, 1) := gdX6_choices_0.2.2.2.2.1
theorem dX6_choices_9 : decode cX6_choices 9 = .ok (.iaload, 1) := gdX6_choices_0.2.2.2.2.2.1
theorem dX6_choices_10 : decode cX6_choices 10 = .ok (.ishl, 1) := gdX6_choices_0.2.2.2.2.2.2.1
theorem dX6_choices_11 : decode cX6_choices 11 = .ok (.istore_n 3, 1) := gdX6_choices_0.2.2.2.2.2.2.2.1
theorem dX6_choices_12 : decode cX6_choices 12 = .ok (.iconst 1, 1) := gdX6_choices_0.2.2.2.2.2.2.2.2.1
theorem dX6_choices_13 : decode cX6_choices 13 = .ok (.aload_n 0, 1) := gdX6_choices_0.2.2.2.2.2.2.2.2.2.1
theorem dX6_choices_14 : decode cX6_choices 14 = .ok (.getfield 35, 3) := gdX6_choices_0.2.2.2.2.2.2.2.2.2.2.1
theorem dX6_choices_17 : decode cX6_choices 17 = .ok (.getfield 43, 3) := gdX6_choices_0.2.2.2.2.2.2.2.2.2.2.2
theorem gdX6_choices_20 : decode cX6_choices 20 = .ok (.iconst 0, 1) ∧ decode cX6_choices 21 = .ok (.iaload, 1) ∧ decode cX6_choices 22 = .ok (.ishl, 1) ∧ decode cX6_choices 23 = .ok (.iconst 1, 1) ∧ decode cX6_choices 24 = .ok (.isub, 1) ∧ decode cX6_choices 25 = .ok (.istore 4, 2) ∧ decode cX6_choices 27 = .ok (.iload_n 2, 1) ∧ decode cX6_choices 28 = .ok (.iload_n 1, 1) ∧ decode cX6_choices 29 = .ok (.ishr, 1) ∧ decode cX6_choices 30 = .ok (.iconst 1, 1) ∧ decode cX6_choices 31 = .ok (.iand, 1) ∧ decode cX6_choices 32 = .ok (.ifCond .ne 7, 3) := by decide +kernel
theorem dX6_choices_20 : decode cX6_choices 20 = .ok (.iconst 0, 1) := gdX6_choices_20.1
theorem dX6_choices_21 : decode cX6_choices 21 = .ok (.iaload, 1) := gdX6_choices_20.2.1
theorem dX6_choices_22 : decode cX6_choices 22 = .ok (.ishl, 1) := gdX6_choices_20.2.2.1
theorem dX6_choices_23 : decode cX6_choices 23 = .ok (.iconst 1, 1) := gdX6_choices_20.2.2.2.1
theorem dX6_choices_24 : decode cX6_choices 24 = .ok (.isub, 1) := gdX6_choices_20.2.2.2.2.1
theorem dX6_choices_25 : decode cX6_choices 25 = .ok (.istore 4, 2) := gdX6_choices_20.2.2.2.2.2.1
theorem dX6_choices_27 : decode cX6_choices 27 = .ok (.iload_n 2, 1) := gdX6_choices_20.2.2.2.2.2.2.1
theorem dX6_choices_28 : decode cX6_choices 28 = .ok (.iload_n 1, 1) := gdX6_choices_20.2.2.2.2.2.2.2.1
theorem dX6_choices_29 : decode cX6_choices 29 = .ok (.ishr, 1) := gdX6_choices_20.2.2.2.2.2.2.2.2.1
theorem dX6_choices_30 : decode cX6_choices 30 = .ok (.iconst 1, 1) := gdX6_choices_20.2.2.2.2.2.2.2.2.2.1
theorem dX6_choices_31 : decode cX6_choices 31 = .ok (.iand, 1) := gdX6_choices_20.2.2.2.2.2.2.2.2.2.2.1
theorem dX6_choices_32 : decode cX6_choices 32 = .ok (.ifCond .ne 7, 3) := gdX6_choices_20.2.2.2.2.2.2.2.2.2.2.2
theorem gdX6_choices_39 : decode cX6_choices 39 = .ok (.iload 4, 2) ∧ decode cX6_choices 41 = .ok (.iload_n 3, 1) ∧ decode cX6_choices 42 = .ok (.iconst (-1), 1) ∧ decode cX6_choices 43 = .ok (.ixor, 1) ∧ decode cX6_choices 44 = .ok (.iand, 1) ∧ decode cX6_choices 45 = .ok (.ireturn, 1) ∧ decode cX6_choices 35 = .ok (.iload_n 3, 1) ∧ decode cX6_choices 36 = .ok (.goto 9, 3) := by decide +kernel
theorem dX6_choices_39 : decode cX6_choices 39 = .ok (.iload 4, 2) := gdX6_choices_39.1
theorem dX6_choices_41 : decode cX6_choices 41 = .ok (.iload_n 3, 1) := gdX6_choices_39.2.1
theorem dX6_choices_42 : decode cX6_choices 42 = .ok (.iconst (-1), 1) := gdX6_choices_39.2.2.1
theorem dX6_choices_43 : decode cX6_choices 43 = .ok (.ixor, 1) := gdX6_choices_39.2.2.2.1
theorem dX6_choices_44 : decode cX6_choices 44 = .ok (.iand, 1) := gdX6_choices_39.2.2.2.2.1
theorem dX6_choices_45 : decode cX6_choices 45 = .ok (.ireturn, 1) := gdX6_choices_39.2.2.2.2.2.1
theorem dX6_choices_35 : decode cX6_choices 35 = .ok (.iload_n 3, 1) := gdX6_choices_39.2.2.2.2.2.2.1
theorem dX6_choices_36 : decode cX6_choices 36 = .ok (.goto 9, 3) := gdX6_choices_39.2.2.2.2.2.2.2
set_option maxHeartbeats 1000000 in
set_option maxRecDepth 100000 in
theorem s_choices (l : Launch) (D : va_G) (cy : Nat → ClassId) (p0 : Nat) (p1 : Nat) (p2 : Nat) (p3 : Nat) (p4 : Nat) (er : Nat) (ro : Nat) (ch : Nat) (h0 : Nat) (h1 : Nat) (h2 : Nat) (h3 : Nat) (h4 : Nat) (h5 : Nat) (h6 : Nat) (h7 : Nat) (h8 : Nat) (h9 : Nat) (h10 : Nat) (h11 : Nat) (hv0 : Value) (hv1 : Value) (hv2 : Value) (hv3 : Value) (hv4 : Value) (fc : Nat → Int32) (c0 : Nat) (c1 : Nat) (c2 : Nat) (c3 : Nat) (s0 : Nat) (s1 : Nat) (s2 : Nat) (sl : Nat) (spl : Int32) (svo : Int32) (swi : Int32) (sch : Int32) (fw : Nat → Int32) (ix : Nat) (cg : Int32) (hcn : cntOK fc c0 c1 c2 c3) (hc0 : c0 ≤ 8) (hc1 : c1 ≤ 4) (hc2 : c2 ≤ 4) (hc3 : c3 ≤ 6) (hsw : rng fw 10 7) (hix : ix < 10) : XMi l D (tyL cy) E0 yX6_choices cX6_choices 5 (some .int) (rmk 0 0 0) [.ref p0, .int (nI ix), .int cg] [wO p0 6 [.ref p1, .ref er, .ref ro, .ref p2, .ref p3, .ref p4, .ref h0, .ref s0, .int (nI ch)], wO h0 4 [.ref h1, .ref h2, .ref h3, .ref h4, .ref h5, .ref h6, .ref h7, .ref h8, .ref h9, .ref h10, .ref h11, hv0, hv1, hv2, hv3, hv4], wI (cy 1) h1 4 (fc), wO s0 7 [.ref s1, .ref s2, .int (nI sl), .int spl, .int svo, .int swi, .int sch], wI (cy 1) s1 10 (fw)] (fun (r : Int32) (_ : Unit) => True) (fun (_ : Unit) => [wO p0 6 [.ref p1, .ref er, .ref ro, .ref p2, .ref p3, .ref p4, .ref h0, .ref s0, .int (nI ch)], wO h0 4 [.ref h1, .ref h2, .ref h3, .ref h4, .ref h5, .ref h6, .ref h7, .ref h8, .ref h9, .ref h10, .ref h11, hv0, hv1, hv2, hv3, hv4], wI (cy 1) h1 4 (fc), wO s0 7 [.ref s1, .ref s2, .int (nI sl), .int spl, .int svo, .int swi, .int sch], wI (cy 1) s1 10 (fw)]) := by
  refine XMi.start (by decide) (Nat.le_of_ble_eq_true rfl) ?_
  intro p e s m below meth c args A ls Q hat hQ
  obtain ⟨hx, hb, hr, hml, hown, hg, hlocks, hin, hK, hA, hP, hD, hS, hE, hl⟩ := hat
  have hown : s.vm.findClass RX6 = some m.cls := hown
  have hl : lv_has ls 5 [(0, .ref p0), (1, .int (nI ix)), (2, .int cg)] := hl
  refine lv_iconst (v := 1) hx hb dX6_choices_0 (by decide) ?_
  refine lv_aload_n hx hb dX6_choices_1 rfl (lv_at hl 0 rfl) ?_
  refine va_get (D := D) (ci := 6) (v := .ref s0) (C := RX6) (T := TX6) (N := 9) hx hb hg i_X6 hown hK hP 0 rfl rfl 7 (by decide) (hg _ m_592) (fun _ h9 => h9) rfl dX6_choices_2 ?_
  refine va_get (D := D) (ci := 7) (v := .ref s1) (C := RX7) (T := TX7) (N := 7) hx hb hg i_X7 hown hK hP 3 rfl rfl 0 (by decide) (hg _ m_622) (fun _ h9 => h9) rfl dX6_choices_5 ?_
  refine lv_iload_n hx hb dX6_choices_8 rfl (lv_at hl 1 rfl) ?_
  refine va_iald hx hb hK hP 4 1 rfl rfl (vp_in_nI (by omega) (by decide)) dX6_choices_9 ?_
  obtain ⟨j_1, hj_1, ej_1⟩ := rng_at hsw (i := ix) (by omega) (by decide)
  refine lv_topi (fun y_2 hy_2 => ?_)
  obtain rfl : y_2 = nI j_1 := hy_2.trans ej_1
  refine lv_ishl hx hb dX6_choices_10 ?_
  refine lv_topi (fun x_3 ex_3 => ?_)
  refine lv_istore_n (lv' := [(3, .int x_3), (0, .ref p0), (1, .int (nI ix)), (2, .int cg)]) hx hb dX6_choices_11 rfl hl (by decide) rfl (fun ls hl => ?_)
  refine lv_iconst (v := 1) hx hb dX6_choices_12 (by decide) ?_
  refine lv_aload_n hx hb dX6_choices_13 rfl (lv_at hl 1 rfl) ?_
  refine va_get (D := D) (ci := 6) (v := .ref h0) (C := RX6) (T := TX6) (N := 9) hx hb hg i_X6 hown hK hP 0 rfl rfl 6 (by decide) (hg _ m_591) (fun _ h9 => h9) rfl dX6_choices_14 ?_
  refine va_get (D := D) (ci := 4) (v := .ref h1) (C := RX4) (T := TX4) (N := 16) hx hb hg i_X4 hown hK hP 1 rfl rfl 0 (by decide) (hg _ m_330) (fun _ h9 => h9) rfl dX6_choices_17 ?_
  refine lv_iconst (v := 0) hx hb dX6_choices_20 (by decide) ?_
  refine va_iald hx hb hK hP 2 1 rfl rfl (by unfold vp_in; decide) dX6_choices_21 ?_
  refine lv_topi (fun y_4 hy_4 => ?_)
  obtain rfl : y_4 = nI c0 := hy_4.trans hcn.1
  refine lv_ishl hx hb dX6_choices_22 ?_
  refine lv_topi (fun x_5 ex_5 => ?_)
  refine lv_iconst (v := 1) hx hb dX6_choices_23 (by decide) ?_
  refine lv_isub hx hb dX6_choices_24 ?_
  refine lv_topi (fun x_6 ex_6 => ?_)
  refine lv_istore (lv' := [(4, .int x_6), (3, .int x_3), (0, .ref p0), (1, .int (nI ix)), (2, .int cg)]) hx hb dX6_choices_25 hl (by decide) rfl (fun ls hl => ?_)
  refine lv_iload_n hx hb dX6_choices_27 rfl (lv_at hl 4 rfl) ?_
  refine lv_iload_n hx hb dX6_choices_28 rfl (lv_at hl 3 rfl) ?_
  refine lv_ishr hx hb dX6_choices_29 ?_
  refine lv_topi (fun x_7 ex_7 => ?_)
  refine lv_iconst (v := 1) hx hb dX6_choices_30 (by decide) ?_
  refine lv_iand hx hb dX6_choices_31 ?_
  refine lv_topi (fun x_8 ex_8 => ?_)
  refine lv_if_ne (tgt := 39) hx hb dX6_choices_32 (by decide) (fun c_32 => ?_) (fun c_32 => ?_)
  · refine lv_iload hx hb dX6_choices_39 (lv_at hl 0 rfl) ?_
    refine lv_iload_n hx hb dX6_choices_41 rfl (lv_at hl 1 rfl) ?_
    refine lv_iconst (v := -1) hx hb dX6_choices_42 (by decide) ?_
    refine lv_ixor hx hb dX6_choices_43 ?_
    refine lv_topi (fun x_9 ex_9 => ?_)
    refine lv_iand hx hb dX6_choices_44 ?_
    refine lv_topi (fun x_10 ex_10 => ?_)
    exact x_iret hQ hx hb hr hlocks hK hP hD hS dX6_choices_45 () (trivial) [0, 1, 2, 3, 4] (by decide +kernel) rfl (Nat.le_of_ble_eq_true rfl) (Nat.le_of_ble_eq_true rfl)
  · refine lv_iload_n hx hb dX6_choices_35 rfl (lv_at hl 1 rfl) ?_
    refine lv_goto (tgt := 45) hx hb dX6_choices_36 (by decide) ?_
    exact x_iret hQ hx hb hr hlocks hK hP hD hS dX6_choices_45 () (trivial) [0, 1, 2, 3, 4] (by decide +kernel) rfl (Nat.le_of_ble_eq_true rfl) (Nat.le_of_ble_eq_true rfl)
theorem gdX6_led_0 : decode cX6_led 0 = .ok (.iconst 0, 1) ∧ decode cX6_led 1 = .ok (.istore_n 3, 1) ∧ decode cX6_led 2 = .ok (.iconst 0, 1) ∧ decode cX6_led 3 = .ok (.istore 4, 2) ∧ decode cX6_led 5 = .ok (.iload 4, 2) ∧ decode cX6_led 7 = .ok (.aload_n 0, 1) ∧ decode cX6_led 8 = .ok (.getfield 35, 3) ∧ decode cX6_led 11 = .ok (.getfield 43, 3) ∧ decode cX6_led 14 = .ok (.iconst 0, 1) ∧ decode cX6_led 15 = .ok (.iaload, 1) ∧ decode cX6_led 16 = .ok (.if_icmp .ge 64, 3) ∧ decode cX6_led 80 = .ok (.iload_n 3, 1) := by decide +kernel
theorem dX6_led_0 : decode cX6_led 0 = .ok (.iconst 0, 1) := gdX6_led_0.1
theorem dX6_led_1 : decode cX6_led 1 = .ok (.istore_n 3, 1) := gdX6_led_0.2.1
theorem dX6_led_2 : decode cX6_led 2 = .ok (.iconst 0, 1) := gdX6_led_0.2.2.1
theorem dX6_led_3 : decode cX6_led 3 = .ok (.istore 4, 2) := gdX6_led_0.2.2.2.1
theorem dX6_led_5 : decode cX6_led 5 = .ok (.iload 4, 2) := gdX6_led_0.2.2.2.2.1
theorem dX6_led_7 : decode cX6_led 7 = .ok (.aload_n 0, 1) := gdX6_led_0.2.2.2.2.2.1
theorem dX6_led_8 : decode cX6_led 8 = .ok (.getfield 35, 3) := gdX6_led_0.2.2.2.2.2.2.1
theorem dX6_led_11 : decode cX6_led 11 = .ok (.getfield 43, 3) := gdX6_led_0.2.2.2.2.2.2.2.1
theorem dX6_led_14 : decode cX6_led 14 = .ok (.iconst 0, 1) := gdX6_led_0.2.2.2.2.2.2.2.2.1
theorem dX6_led_15 : decode cX6_led 15 = .ok (.iaload, 1) := gdX6_led_0.2.2.2.2.2.2.2.2.2.1
theorem dX6_led_16 : decode cX6_led 16 = .ok (.if_icmp .ge 64, 3) := gdX6_led_0.2.2.2.2.2.2.2.2.2.2.1
theorem dX6_led_80 : decode cX6_led 80 = .ok (.iload_n 3, 1) := gdX6_led_0.2.2.2.2.2.2.2.2.2.2.2
theorem gdX6_led_81 : decode cX6_led 81 = .ok (.ireturn, 1) ∧ decode cX6_led 19 = .ok (.iload_n 2, 1) ∧ decode cX6_led 20 = .ok (.iload 4, 2) ∧ decode cX6_led 22 = .ok (.ishr, 1) ∧ decode cX6_led 23 = .ok (.iconst 1, 1) ∧ decode cX6_led 24 = .ok (.iand, 1) ∧ decode cX6_led 25 = .ok (.ifCond .eq 49, 3) ∧ decode cX6_led 74 = .ok (.iinc 4 1, 3) ∧ decode cX6_led 77 = .ok (.goto (-72), 3) ∧ decode cX6_led 28 = .ok (.iconst 0, 1) ∧ decode cX6_led 29 = .ok (.istore 5, 2) ∧ decode cX6_led 31 = .ok (.iload 5, 2) := by decide +kernel
theorem dX6_led_81 : decode cX6_led 81 = .ok (.ireturn, 1) := gdX6_led_81.1
theorem dX6_led_19 : decode cX6_led 19 = .ok (.iload_n 2, 1) := gdX6_led_81.2.1
theorem dX6_led_20 : decode cX6_led 20 = .ok (.iload 4, 2) := gdX6_led_81.2.2.1
theorem dX6_led_22 : decode cX6_led 22 = .ok (.ishr, 1) := gdX6_led_81.2.2.2.1
theorem dX6_led_23 : decode cX6_led 23 = .ok (.iconst 1, 1) := gdX6_led_81.2.2.2.2.1
theorem dX6_led_24 : decode cX6_led 24 = .ok (.iand, 1) := gdX6_led_81.2.2.2.2.2.1
theorem dX6_led_25 : decode cX6_led 25 = .ok (.ifCond .eq 49, 3) := gdX6_led_81.2.2.2.2.2.2.1
theorem dX6_led_74 : decode cX6_led 74 = .ok (.iinc 4 1, 3) := gdX6_led_81.2.2.2.2.2.2.2.1
theorem dX6_led_77 : decode cX6_led 77 = .ok (.goto (-72), 3) := gdX6_led_81.2.2.2.2.2.2.2.2.1
theorem dX6_led_28 : decode cX6_led 28 = .ok (.iconst 0, 1) := gdX6_led_81.2.2.2.2.2.2.2.2.2.1
theorem dX6_led_29 : decode cX6_led 29 = .ok (.istore 5, 2) := gdX6_led_81.2.2.2.2.2.2.2.2.2.2.1
theorem dX6_led_31 : decode cX6_led 31 = .ok (.iload 5, 2) := gdX6_led_81.2.2.2.2.2.2.2.2.2.2.2
theorem gdX6_led_33 : decode cX6_led 33 = .ok (.bipush 6, 2) ∧ decode cX6_led 35 = .ok (.if_icmp .ge 39, 3) ∧ decode cX6_led 38 = .ok (.iload_n 1, 1) ∧ decode cX6_led 39 = .ok (.iload 5, 2) ∧ decode cX6_led 41 = .ok (.ishr, 1) ∧ decode cX6_led 42 = .ok (.iconst 1, 1) ∧ decode cX6_led 43 = .ok (.iand, 1) ∧ decode cX6_led 44 = .ok (.ifCond .eq 24, 3) ∧ decode cX6_led 68 = .ok (.iinc 5 1, 3) ∧ decode cX6_led 71 = .ok (.goto (-40), 3) ∧ decode cX6_led 47 = .ok (.iload_n 3, 1) ∧ decode cX6_led 48 = .ok (.iconst 1, 1) := by decide +kernel
theorem dX6_led_33 : decode cX6_led 33 = .ok (.bipush 6, 2) := gdX6_led_33.1
theorem dX6_led_35 : decode cX6_led 35 = .ok (.if_icmp .ge 39, 3) := gdX6_led_33.2.1
theorem dX6_led_38 : decode cX6_led 38 = .ok (.iload_n 1, 1) := gdX6_led_33.2.2.1
theorem dX6_led_39 : decode cX6_led 39 = .ok (.iload 5, 2) := gdX6_led_33.2.2.2.1
theorem dX6_led_41 : decode cX6_led 41 = .ok (.ishr, 1) := gdX6_led_33.2.2.2.2.1
theorem dX6_led_42 : decode cX6_led 42 = .ok (.iconst 1, 1) := gdX6_led_33.2.2.2.2.2.1
theorem dX6_led_43 : decode cX6_led 43 = .ok (.iand, 1) := gdX6_led_33.2.2.2.2.2.2.1
theorem dX6_led_44 : decode cX6_led 44 = .ok (.ifCond .eq 24, 3) := gdX6_led_33.2.2.2.2.2.2.2.1
theorem dX6_led_68 : decode cX6_led 68 = .ok (.iinc 5 1, 3) := gdX6_led_33.2.2.2.2.2.2.2.2.1
theorem dX6_led_71 : decode cX6_led 71 = .ok (.goto (-40), 3) := gdX6_led_33.2.2.2.2.2.2.2.2.2.1
theorem dX6_led_47 : decode cX6_led 47 = .ok (.iload_n 3, 1) := gdX6_led_33.2.2.2.2.2.2.2.2.2.2.1
theorem dX6_led_48 : decode cX6_led 48 = .ok (.iconst 1, 1) := gdX6_led_33.2.2.2.2.2.2.2.2.2.2.2
theorem gdX6_led_49 : decode cX6_led 49 = .ok (.aload_n 0, 1) ∧ decode cX6_led 50 = .ok (.getfield 35, 3) ∧ decode cX6_led 53 = .ok (.getfield 110, 3) ∧ decode cX6_led 56 = .ok (.iload 5, 2) ∧ decode cX6_led 58 = .ok (.bipush 8, 2) ∧ decode cX6_led 60 = .ok (.imul, 1) ∧ decode cX6_led 61 = .ok (.iload 4, 2) ∧ decode cX6_led 63 = .ok (.iadd, 1) ∧ decode cX6_led 64 = .ok (.iaload, 1) ∧ decode cX6_led 65 = .ok (.ishl, 1) ∧ decode cX6_led 66 = .ok (.ior, 1) ∧ decode cX6_led 67 = .ok (.istore_n 3, 1) := by decide +kernel
theorem dX6_led_49 : decode cX6_led 49 = .ok (.aload_n 0, 1) := gdX6_led_49.1
theorem dX6_led_50 : decode cX6_led 50 = .ok (.getfield 35, 3) := gdX6_led_49.2.1
theorem dX6_led_53 : decode cX6_led 53 = .ok (.getfield 110, 3) := gdX6_led_49.2.2.1
theorem dX6_led_56 : decode cX6_led 56 = .ok (.iload 5, 2) := gdX6_led_49.2.2.2.1
theorem dX6_led_58 : decode cX6_led 58 = .ok (.bipush 8, 2) := gdX6_led_49.2.2.2.2.1
theorem dX6_led_60 : decode cX6_led 60 = .ok (.imul, 1) := gdX6_led_49.2.2.2.2.2.1
theorem dX6_led_61 : decode cX6_led 61 = .ok (.iload 4, 2) := gdX6_led_49.2.2.2.2.2.2.1
theorem dX6_led_63 : decode cX6_led 63 = .ok (.iadd, 1) := gdX6_led_49.2.2.2.2.2.2.2.1
theorem dX6_led_64 : decode cX6_led 64 = .ok (.iaload, 1) := gdX6_led_49.2.2.2.2.2.2.2.2.1
theorem dX6_led_65 : decode cX6_led 65 = .ok (.ishl, 1) := gdX6_led_49.2.2.2.2.2.2.2.2.2.1
theorem dX6_led_66 : decode cX6_led 66 = .ok (.ior, 1) := gdX6_led_49.2.2.2.2.2.2.2.2.2.2.1
theorem dX6_led_67 : decode cX6_led 67 = .ok (.istore_n 3, 1) := gdX6_led_49.2.2.2.2.2.2.2.2.2.2.2
set_option maxHeartbeats 1000000 in
set_option maxRecDepth 100000 in
theorem s_led (l : Launch) (D : va_G) (cy : Nat → ClassId) (p0 : Nat) (p1 : Nat) (p2 : Nat) (p3 : Nat) (p4 : Nat) (er : Nat) (ro : Nat) (ch : Nat) (s0 : Nat) (h0 : Nat) (h1 : Nat) (h2 : Nat) (h3 : Nat) (h4 : Nat) (h5 : Nat) (h6 : Nat) (h7 : Nat) (h8 : Nat) (h9 : Nat) (h10 : Nat) (h11 : Nat) (hv0 : Value) (hv1 : Value) (hv2 : Value) (hv3 : Value) (hv4 : Value) (fc : Nat → Int32) (c0 : Nat) (c1 : Nat) (c2 : Nat) (c3 : Nat) (fx : Nat → Int32) (sx : Int32) (wx : Int32) (hcn : cntOK fc c0 c1 c2 c3) (hc0 : c0 ≤ 8) (hc1 : c1 ≤ 4) (hc2 : c2 ≤ 4) (hc3 : c3 ≤ 6) (hnx : rng fx 48 5) : XMi l D (tyL cy) E0 yX6_led cX6_led 6 (some .int) (rmk 0 0 0) [.ref p0, .int sx, .int wx] [wO p0 6 [.ref p1, .ref er, .ref ro, .ref p2, .ref p3, .ref p4, .ref h0, .ref s0, .int (nI ch)], wO h0 4 [.ref h1, .ref h2, .ref h3, .ref h4, .ref h5, .ref h6, .ref h7, .ref h8, .ref h9, .ref h10, .ref h11, hv0, hv1, hv2, hv3, hv4], wI (cy 1) h1 4 (fc), wI (cy 1) h7 48 (fx)] (fun (r : Int32) (_ : Unit) => True) (fun (_ : Unit) => [wO p0 6 [.ref p1, .ref er, .ref ro, .ref p2, .ref p3, .ref p4, .ref h0, .ref s0, .int (nI ch)], wO h0 4 [.ref h1, .ref h2, .ref h3, .ref h4, .ref h5, .ref h6, .ref h7, .ref h8, .ref h9, .ref h10, .ref h11, hv0, hv1, hv2, hv3, hv4], wI (cy 1) h1 4 (fc), wI (cy 1) h7 48 (fx)]) := by
  refine XMi.start (by decide) (Nat.le_of_ble_eq_true rfl) ?_
  intro p e s m below meth c args A ls Q hat hQ
  obtain ⟨hx, hb, hr, hml, hown, hg, hlocks, hin, hK, hA, hP, hD, hS, hE, hl⟩ := hat
  have hown : s.vm.findClass RX6 = some m.cls := hown
  have hl : lv_has ls 6 [(0, .ref p0), (1, .int sx), (2, .int wx)] := hl
  refine lv_iconst (v := 0) hx hb dX6_led_0 (by decide) ?_
  refine lv_istore_n (lv' := [(3, .int 0), (0, .ref p0), (1, .int sx), (2, .int wx)]) hx hb dX6_led_1 rfl hl (by decide) rfl (fun ls hl => ?_)
  refine lv_iconst (v := 0) hx hb dX6_led_2 (by decide) ?_
  refine lv_istore (lv' := [(4, .int 0), (3, .int 0), (0, .ref p0), (1, .int sx), (2, .int wx)]) hx hb dX6_led_3 hl (by decide) rfl (fun ls hl => ?_)
  have loop1 : ∀ (zn : Nat) (lx3_1 : Int32) (i1 : Nat), (i1 ≤ c0) → c0 - i1 + 1 ≤ zn → ∀ (H : Heap) (locs : List Loc), va_P D vwCl [wO p0 6 [.ref p1, .ref er, .ref ro, .ref p2, .ref p3, .ref p4, .ref h0, .ref s0, .int (nI ch)], wO h0 4 [.ref h1, .ref h2, .ref h3, .ref h4, .ref h5, .ref h6, .ref h7, .ref h8, .ref h9, .ref h10, .ref h11, hv0, hv1, hv2, hv3, hv4], wI (cy 1) h1 4 (fc), wI (cy 1) h7 48 (fx)] H → va_D A [wO p0 6 [.ref p1, .ref er, .ref ro, .ref p2, .ref p3, .ref p4, .ref h0, .ref s0, .int (nI ch)], wO h0 4 [.ref h1, .ref h2, .ref h3, .ref h4, .ref h5, .ref h6, .ref h7, .ref h8, .ref h9, .ref h10, .ref h11, hv0, hv1, hv2, hv3, hv4], wI (cy 1) h1 4 (fc), wI (cy 1) h7 48 (fx)] → va_S A s.heap H locs → ∀ ls : Array Slot, lv_has ls 6 [(4, .int (nI i1)), (3, .int lx3_1), (0, .ref p0), (1, .int sx), (2, .int wx)] → W p l e (rmk 0 0 0) s m args below meth c H locs 0 0 Q (F0 m 5 ls []) := by
    try clear hP hD hS
    intro zn
    induction zn with
    | zero => intro lx3_1 i1 _ hz; exact absurd hz (by omega)
    | succ zn ih1 =>
      intro lx3_1 i1 hf0_1 hmu1 H locs hP hD hS ls hl
      refine lv_iload hx hb dX6_led_5 (lv_at hl 0 rfl) ?_
      refine lv_aload_n hx hb dX6_led_7 rfl (lv_at hl 2 rfl) ?_
      refine va_get (D := D) (ci := 6) (v := .ref h0) (C := RX6) (T := TX6) (N := 9) hx hb hg i_X6 hown hK hP 0 rfl rfl 6 (by decide) (hg _ m_591) (fun _ h9 => h9) rfl dX6_led_8 ?_
      refine va_get (D := D) (ci := 4) (v := .ref h1) (C := RX4) (T := TX4) (N := 16) hx hb hg i_X4 hown hK hP 1 rfl rfl 0 (by decide) (hg _ m_330) (fun _ h9 => h9) rfl dX6_led_11 ?_
      refine lv_iconst (v := 0) hx hb dX6_led_14 (by decide) ?_
      refine va_iald hx hb hK hP 2 1 rfl rfl (by unfold vp_in; decide) dX6_led_15 ?_
      refine lv_topi (fun y_2 hy_2 => ?_)
      obtain rfl : y_2 = nI c0 := hy_2.trans hcn.1
      refine lv_icmp_ge (tgt := 80) hx hb dX6_led_16 (by decide) (fun c_3 => ?_) (fun c_3 => ?_)
      · have q_4 : c0 ≤ i1 := q_le (a := c0) (b := i1) rfl rfl (by omega) (by omega) c_3
        refine lv_iload_n hx hb dX6_led_80 rfl (lv_at hl 1 rfl) ?_
        exact x_iret hQ hx hb hr hlocks hK hP hD hS dX6_led_81 () (trivial) [0, 1, 2, 3] (by decide +kernel) rfl (Nat.le_of_ble_eq_true rfl) (Nat.le_of_ble_eq_true rfl)
      · have q_4 : i1 < c0 := q_nle (a := c0) (b := i1) rfl rfl (by omega) (by omega) c_3
        refine lv_iload_n hx hb dX6_led_19 rfl (lv_at hl 4 rfl) ?_
        refine lv_iload hx hb dX6_led_20 (lv_at hl 0 rfl) ?_
        refine lv_ishr hx hb dX6_led_22 ?_
        refine lv_topi (fun x_5 ex_5 => ?_)
        refine lv_iconst (v := 1) hx hb dX6_led_23 (by decide) ?_
        refine lv_iand hx hb dX6_led_24 ?_
        refine lv_topi (fun x_6 ex_6 => ?_)
        refine lv_if_eq (tgt := 74) hx hb dX6_led_25 (by decide) (fun c_25 => ?_) (fun c_25 => ?_)
        · refine lv_iinc (v := nI (i1 + 1)) (lv' := [(4, .int (nI (i1 + 1))), (3, .int lx3_1), (0, .ref p0), (1, .int sx), (2, .int wx)]) hx hb dX6_led_74 hl (k := 0) rfl (nI_add i1 1) (by decide) rfl (fun ls hl => ?_)
          refine lv_goto (tgt := 5) hx hb dX6_led_77 (by decide) ?_
          exact ih1  lx3_1 ((i1 + 1)) (by omega) (by omega) _ _ (hP.sub [0, 1, 2, 3] rfl) (hD.sub [0, 1, 2, 3] (by decide +kernel) rfl) hS ls (lv_sub hl [0, 1, 2, 3, 4] rfl)
        · refine lv_iconst (v := 0) hx hb dX6_led_28 (by decide) ?_
          refine lv_istore (lv' := [(5, .int 0), (4, .int (nI i1)), (3, .int lx3_1), (0, .ref p0), (1, .int sx), (2, .int wx)]) hx hb dX6_led_29 hl (by decide) rfl (fun ls hl => ?_)
          have loop7 : ∀ (zn : Nat) (lx3_7 : Int32) (k7 : Nat), (k7 ≤ 6) → 6 - k7 + 1 ≤ zn → ∀ (H : Heap) (locs : List Loc), va_P D vwCl [wO p0 6 [.ref p1, .ref er, .ref ro, .ref p2, .ref p3, .ref p4, .ref h0, .ref s0, .int (nI ch)], wO h0 4 [.ref h1, .ref h2, .ref h3, .ref h4, .ref h5, .ref h6, .ref h7, .ref h8, .ref h9, .ref h10, .ref h11, hv0, hv1, hv2, hv3, hv4], wI (cy 1) h1 4 (fc), wI (cy 1) h7 48 (fx)] H → va_D A [wO p0 6 [.ref p1, .ref er, .ref ro, .ref p2, .ref p3, .ref p4, .ref h0, .ref s0, .int (nI ch)], wO h0 4 [.ref h1, .ref h2, .ref h3, .ref h4, .ref h5, .ref h6, .ref h7, .ref h8, .ref h9, .ref h10, .ref h11, hv0, hv1, hv2, hv3, hv4], wI (cy 1) h1 4 (fc), wI (cy 1) h7 48 (fx)] → va_S A s.heap H locs → ∀ ls : Array Slot, lv_has ls 6 [(5, .int (nI k7)), (4, .int (nI i1)), (3, .int lx3_7), (0, .ref p0), (1, .int sx), (2, .int wx)] → W p l e (rmk 0 0 0) s m args below meth c H locs 0 0 Q (F0 m 31 ls []) := by
            try clear hP hD hS
            intro zn
            induction zn with
            | zero => intro lx3_7 k7 _ hz; exact absurd hz (by omega)
            | succ zn ih7 =>
              intro lx3_7 k7 hf0_7 hmu7 H locs hP hD hS ls hl
              refine lv_iload hx hb dX6_led_31 (lv_at hl 0 rfl) ?_
              refine lv_bipush (v := 6) hx hb dX6_led_33 (by decide) ?_
              refine lv_icmp_ge (tgt := 74) hx hb dX6_led_35 (by decide) (fun c_8 => ?_) (fun c_8 => ?_)
              · have q_9 : 6 ≤ k7 := q_le (a := 6) (b := k7) rfl rfl (by omega) (by omega) c_8
                refine lv_iinc (v := nI (i1 + 1)) (lv' := [(4, .int (nI (i1 + 1))), (5, .int (nI k7)), (3, .int lx3_7), (0, .ref p0), (1, .int sx), (2, .int wx)]) hx hb dX6_led_74 hl (k := 1) rfl (nI_add i1 1) (by decide) rfl (fun ls hl => ?_)
                refine lv_goto (tgt := 5) hx hb dX6_led_77 (by decide) ?_
                exact ih1  lx3_7 ((i1 + 1)) (by omega) (by omega) _ _ (hP.sub [0, 1, 2, 3] rfl) (hD.sub [0, 1, 2, 3] (by decide +kernel) rfl) hS ls (lv_sub hl [0, 2, 3, 4, 5] rfl)
              · have q_9 : k7 < 6 := q_nle (a := 6) (b := k7) rfl rfl (by omega) (by omega) c_8
                refine lv_iload_n hx hb dX6_led_38 rfl (lv_at hl 4 rfl) ?_
                refine lv_iload hx hb dX6_led_39 (lv_at hl 0 rfl) ?_
                refine lv_ishr hx hb dX6_led_41 ?_
                refine lv_topi (fun x_10 ex_10 => ?_)
                refine lv_iconst (v := 1) hx hb dX6_led_42 (by decide) ?_
                refine lv_iand hx hb dX6_led_43 ?_
                refine lv_topi (fun x_11 ex_11 => ?_)
                refine lv_if_eq (tgt := 68) hx hb dX6_led_44 (by decide) (fun c_44 => ?_) (fun c_44 => ?_)
                · refine lv_iinc (v := nI (k7 + 1)) (lv' := [(5, .int (nI (k7 + 1))), (4, .int (nI i1)), (3, .int lx3_7), (0, .ref p0), (1, .int sx), (2, .int wx)]) hx hb dX6_led_68 hl (k := 0) rfl (nI_add k7 1) (by decide) rfl (fun ls hl => ?_)
                  refine lv_goto (tgt := 31) hx hb dX6_led_71 (by decide) ?_
                  exact ih7  lx3_7 ((k7 + 1)) (by omega) (by omega) _ _ (hP.sub [0, 1, 2, 3] rfl) (hD.sub [0, 1, 2, 3] (by decide +kernel) rfl) hS ls (lv_sub hl [0, 1, 2, 3, 4, 5] rfl)
                · refine lv_iload_n hx hb dX6_led_47 rfl (lv_at hl 2 rfl) ?_
                  refine lv_iconst (v := 1) hx hb dX6_led_48 (by decide) ?_
                  refine lv_aload_n hx hb dX6_led_49 rfl (lv_at hl 3 rfl) ?_
                  refine va_get (D := D) (ci := 6) (v := .ref h0) (C := RX6) (T := TX6) (N := 9) hx hb hg i_X6 hown hK hP 0 rfl rfl 6 (by decide) (hg _ m_591) (fun _ h9 => h9) rfl dX6_led_50 ?_
                  refine va_get (D := D) (ci := 4) (v := .ref h7) (C := RX4) (T := TX4) (N := 16) hx hb hg i_X4 hown hK hP 1 rfl rfl 6 (by decide) (hg _ m_358) (fun _ h9 => h9) rfl dX6_led_53 ?_
                  refine lv_iload hx hb dX6_led_56 (lv_at hl 0 rfl) ?_
                  refine lv_bipush (v := 8) hx hb dX6_led_58 (by decide) ?_
                  refine lv_imul hx hb dX6_led_60 ?_
                  refine lv_topi (fun y_12 hy_12 => ?_)
                  obtain rfl : y_12 = nI (k7 * 8) := hy_12.trans (pk_mul k7 8)
                  refine lv_iload hx hb dX6_led_61 (lv_at hl 1 rfl) ?_
                  refine lv_iadd hx hb dX6_led_63 ?_
                  refine lv_topi (fun y_13 hy_13 => ?_)
                  obtain rfl : y_13 = nI ((k7 * 8) + i1) := hy_13.trans (nI_add ((k7 * 8)) i1)
                  refine va_iald hx hb hK hP 3 1 rfl rfl (vp_in_nI (by omega) (by decide)) dX6_led_64 ?_
                  obtain ⟨j_14, hj_14, ej_14⟩ := rng_at hnx (i := ((k7 * 8) + i1)) (by omega) (by decide)
                  refine lv_topi (fun y_15 hy_15 => ?_)
                  obtain rfl : y_15 = nI j_14 := hy_15.trans ej_14
                  refine lv_ishl hx hb dX6_led_65 ?_
                  refine lv_topi (fun x_16 ex_16 => ?_)
                  refine lv_ior hx hb dX6_led_66 ?_
                  refine lv_topi (fun x_17 ex_17 => ?_)
                  refine lv_istore_n (lv' := [(3, .int x_17), (5, .int (nI k7)), (4, .int (nI i1)), (0, .ref p0), (1, .int sx), (2, .int wx)]) hx hb dX6_led_67 rfl hl (by decide) rfl (fun ls hl => ?_)
                  refine lv_iinc (v := nI (k7 + 1)) (lv' := [(5, .int (nI (k7 + 1))), (3, .int x_17), (4, .int (nI i1)), (0, .ref p0), (1, .int sx), (2, .int wx)]) hx hb dX6_led_68 hl (k := 1) rfl (nI_add k7 1) (by decide) rfl (fun ls hl => ?_)
                  refine lv_goto (tgt := 31) hx hb dX6_led_71 (by decide) ?_
                  exact ih7  x_17 ((k7 + 1)) (by omega) (by omega) _ _ (hP.sub [0, 1, 2, 3] rfl) (hD.sub [0, 1, 2, 3] (by decide +kernel) rfl) hS ls (lv_sub hl [0, 2, 1, 3, 4, 5] rfl)
          exact loop7 _ lx3_1 0 (by omega) (Nat.le_refl _) _ _ (hP.sub [0, 1, 2, 3] rfl) (hD.sub [0, 1, 2, 3] (by decide +kernel) rfl) hS ls (lv_sub hl [0, 1, 2, 3, 4, 5] rfl)
  exact loop1 _ 0 0 (by omega) (Nat.le_refl _) _ _ (hP.sub [0, 1, 2, 3] rfl) (hD.sub [0, 1, 2, 3] (by decide +kernel) rfl) hS ls (lv_sub hl [0, 1, 2, 3, 4] rfl)
theorem gdX6_canBeYesBy_0 : decode cX6_canBeYesBy 0 = .ok (.aload_n 0, 1) ∧ decode cX6_canBeYesBy 1 = .ok (.getfield 30, 3) ∧ decode cX6_canBeYesBy 4 = .ok (.aload_n 0, 1) ∧ decode cX6_canBeYesBy 5 = .ok (.getfield 18, 3) ∧ decode cX6_canBeYesBy 8 = .ok (.iload_n 1, 1) ∧ decode cX6_canBeYesBy 9 = .ok (.iaload, 1) ∧ decode cX6_canBeYesBy 10 = .ok (.aaload, 1) ∧ decode cX6_canBeYesBy 11 = .ok (.astore_n 3, 1) ∧ decode cX6_canBeYesBy 12 = .ok (.iconst 0, 1) ∧ decode cX6_canBeYesBy 13 = .ok (.istore 4, 2) ∧ decode cX6_canBeYesBy 15 = .ok (.iconst 1, 1) ∧ decode cX6_canBeYesBy 16 = .ok (.istore 5, 2) := by decide +kernel
theorem dX6_canBeYesBy_0 : decode cX6_canBeYesBy 0 = .ok (.aload_n 0, 1) := gdX6_canBeYesBy_0.1
theorem dX6_canBeYesBy_1 : decode cX6_canBeYesBy 1 = .ok (.getfield 30, 3) := gdX6_canBeYesBy_0.2.1
theorem dX6_canBeYesBy_4 : decode cX6_canBeYesBy 4 = .ok (.aload_n 0, 1) := gdX6_canBeYesBy_0.2.2.1
theorem dX6_canBeYesBy_5 : decode cX6_canBeYesBy 5 = .ok (.getfield 18, 3) := gdX6_canBeYesBy_0.2.2.2.1
theorem dX6_canBeYesBy_8 : decode cX6_canBeYesBy 8 = .ok (.iload_n 1, 1) := gdX6_canBeYesBy_0.2.2.2.2.1
theorem dX6_canBeYesBy_9 : decode cX6_canBeYesBy 9 = .ok (.iaload, 1) := gdX6_canBeYesBy_0.2.2.2.2.2.1
theorem dX6_canBeYesBy_10 : decode cX6_canBeYesBy 10 = .ok (.aaload, 1) := gdX6_canBeYesBy_0.2.2.2.2.2.2.1
theorem dX6_canBeYesBy_11 : decode cX6_canBeYesBy 11 = .ok (.astore_n 3, 1) := gdX6_canBeYesBy_0.2.2.2.2.2.2.2.1
theorem dX6_canBeYesBy_12 : decode cX6_canBeYesBy 12 = .ok (.iconst 0, 1) := gdX6_canBeYesBy_0.2.2.2.2.2.2.2.2.1
theorem dX6_canBeYesBy_13 : decode cX6_canBeYesBy 13 = .ok (.istore 4, 2) := gdX6_canBeYesBy_0.2.2.2.2.2.2.2.2.2.1
theorem dX6_canBeYesBy_15 : decode cX6_canBeYesBy 15 = .ok (.iconst 1, 1) := gdX6_canBeYesBy_0.2.2.2.2.2.2.2.2.2.2.1
theorem dX6_canBeYesBy_16 : decode cX6_canBeYesBy 16 = .ok (.istore 5, 2) := gdX6_canBeYesBy_0.2.2.2.2.2.2.2.2.2.2.2
theorem gdX6_canBeYesBy_18 : decode cX6_canBeYesBy 18 = .ok (.iconst 0, 1) ∧ decode cX6_canBeYesBy 19 = .ok (.istore 6, 2) ∧ decode cX6_canBeYesBy 21 = .ok (.iload 6, 2) ∧ decode cX6_canBeYesBy 23 = .ok (.aload_n 0, 1) ∧ decode cX6_canBeYesBy 24 = .ok (.getfield 39, 3) ∧ decode cX6_canBeYesBy 27 = .ok (.getfield 48, 3) ∧ decode cX6_canBeYesBy 30 = .ok (.if_icmp .ge 132, 3) ∧ decode cX6_canBeYesBy 162 = .ok (.iload 4, 2) ∧ decode cX6_canBeYesBy 164 = .ok (.aload_n 0, 1) ∧ decode cX6_canBeYesBy 165 = .ok (.getfield 35, 3) ∧ decode cX6_canBeYesBy 168 = .ok (.getfield 104, 3) ∧ decode cX6_canBeYesBy 171 = .ok (.iand, 1) := by decide +kernel
theorem dX6_canBeYesBy_18 : decode cX6_canBeYesBy 18 = .ok (.iconst 0, 1) := gdX6_canBeYesBy_18.1
theorem dX6_canBeYesBy_19 : decode cX6_canBeYesBy 19 = .ok (.istore 6, 2) := gdX6_canBeYesBy_18.2.1
theorem dX6_canBeYesBy_21 : decode cX6_canBeYesBy 21 = .ok (.iload 6, 2) := gdX6_canBeYesBy_18.2.2.1
theorem dX6_canBeYesBy_23 : decode cX6_canBeYesBy 23 = .ok (.aload_n 0, 1) := gdX6_canBeYesBy_18.2.2.2.1
theorem dX6_canBeYesBy_24 : decode cX6_canBeYesBy 24 = .ok (.getfield 39, 3) := gdX6_canBeYesBy_18.2.2.2.2.1
theorem dX6_canBeYesBy_27 : decode cX6_canBeYesBy 27 = .ok (.getfield 48, 3) := gdX6_canBeYesBy_18.2.2.2.2.2.1
theorem dX6_canBeYesBy_30 : decode cX6_canBeYesBy 30 = .ok (.if_icmp .ge 132, 3) := gdX6_canBeYesBy_18.2.2.2.2.2.2.1
theorem dX6_canBeYesBy_162 : decode cX6_canBeYesBy 162 = .ok (.iload 4, 2) := gdX6_canBeYesBy_18.2.2.2.2.2.2.2.1
theorem dX6_canBeYesBy_164 : decode cX6_canBeYesBy 164 = .ok (.aload_n 0, 1) := gdX6_canBeYesBy_18.2.2.2.2.2.2.2.2.1
theorem dX6_canBeYesBy_165 : decode cX6_canBeYesBy 165 = .ok (.getfield 35, 3) := gdX6_canBeYesBy_18.2.2.2.2.2.2.2.2.2.1
theorem dX6_canBeYesBy_168 : decode cX6_canBeYesBy 168 = .ok (.getfield 104, 3) := gdX6_canBeYesBy_18.2.2.2.2.2.2.2.2.2.2.1
theorem dX6_canBeYesBy_171 : decode cX6_canBeYesBy 171 = .ok (.iand, 1) := gdX6_canBeYesBy_18.2.2.2.2.2.2.2.2.2.2.2
theorem gdX6_canBeYesBy_172 : decode cX6_canBeYesBy 172 = .ok (.ifCond .eq 7, 3) ∧ decode cX6_canBeYesBy 179 = .ok (.iconst 0, 1) ∧ decode cX6_canBeYesBy 180 = .ok (.ireturn, 1) ∧ decode cX6_canBeYesBy 175 = .ok (.iconst 1, 1) ∧ decode cX6_canBeYesBy 176 = .ok (.goto 4, 3) ∧ decode cX6_canBeYesBy 33 = .ok (.aload_n 3, 1) ∧ decode cX6_canBeYesBy 34 = .ok (.iload 6, 2) ∧ decode cX6_canBeYesBy 36 = .ok (.invokevirtual 94, 3) := by decide +kernel
theorem dX6_canBeYesBy_172 : decode cX6_canBeYesBy 172 = .ok (.ifCond .eq 7, 3) := gdX6_canBeYesBy_172.1
theorem dX6_canBeYesBy_179 : decode cX6_canBeYesBy 179 = .ok (.iconst 0, 1) := gdX6_canBeYesBy_172.2.1
theorem dX6_canBeYesBy_180 : decode cX6_canBeYesBy 180 = .ok (.ireturn, 1) := gdX6_canBeYesBy_172.2.2.1
theorem dX6_canBeYesBy_175 : decode cX6_canBeYesBy 175 = .ok (.iconst 1, 1) := gdX6_canBeYesBy_172.2.2.2.1
theorem dX6_canBeYesBy_176 : decode cX6_canBeYesBy 176 = .ok (.goto 4, 3) := gdX6_canBeYesBy_172.2.2.2.2.1
theorem dX6_canBeYesBy_33 : decode cX6_canBeYesBy 33 = .ok (.aload_n 3, 1) := gdX6_canBeYesBy_172.2.2.2.2.2.1
theorem dX6_canBeYesBy_34 : decode cX6_canBeYesBy 34 = .ok (.iload 6, 2) := gdX6_canBeYesBy_172.2.2.2.2.2.2.1
theorem dX6_canBeYesBy_36 : decode cX6_canBeYesBy 36 = .ok (.invokevirtual 94, 3) := gdX6_canBeYesBy_172.2.2.2.2.2.2.2
theorem k_X6_94 : xV RX6 RX2 94 yX2_placeOf cX2_placeOf 2 (some .int) 1 := ⟨⟨m_1261, m_1065, m_1066, m_142, m_1067⟩, rfl, by decide, by decide, by decide +kernel⟩
theorem gdX6_canBeYesBy_39 : decode cX6_canBeYesBy 39 = .ok (.istore 7, 2) ∧ decode cX6_canBeYesBy 41 = .ok (.aload_n 0, 1) ∧ decode cX6_canBeYesBy 42 = .ok (.iload 7, 2) ∧ decode cX6_canBeYesBy 44 = .ok (.iload_n 2, 1) ∧ decode cX6_canBeYesBy 45 = .ok (.invokevirtual 98, 3) := by decide +kernel
theorem dX6_canBeYesBy_39 : decode cX6_canBeYesBy 39 = .ok (.istore 7, 2) := gdX6_canBeYesBy_39.1
theorem dX6_canBeYesBy_41 : decode cX6_canBeYesBy 41 = .ok (.aload_n 0, 1) := gdX6_canBeYesBy_39.2.1
theorem dX6_canBeYesBy_42 : decode cX6_canBeYesBy 42 = .ok (.iload 7, 2) := gdX6_canBeYesBy_39.2.2.1
theorem dX6_canBeYesBy_44 : decode cX6_canBeYesBy 44 = .ok (.iload_n 2, 1) := gdX6_canBeYesBy_39.2.2.2.1
theorem dX6_canBeYesBy_45 : decode cX6_canBeYesBy 45 = .ok (.invokevirtual 98, 3) := gdX6_canBeYesBy_39.2.2.2.2
theorem k_X6_98 : xV RX6 RX6 98 yX6_choices cX6_choices 5 (some .int) 2 := ⟨⟨m_1262, m_1264, m_52, m_144, m_1265⟩, rfl, by decide, by decide, by decide +kernel⟩
theorem gdX6_canBeYesBy_48 : decode cX6_canBeYesBy 48 = .ok (.aload_n 0, 1) ∧ decode cX6_canBeYesBy 49 = .ok (.getfield 21, 3) ∧ decode cX6_canBeYesBy 52 = .ok (.iload_n 1, 1) ∧ decode cX6_canBeYesBy 53 = .ok (.bipush 10, 2) ∧ decode cX6_canBeYesBy 55 = .ok (.imul, 1) ∧ decode cX6_canBeYesBy 56 = .ok (.iload 7, 2) ∧ decode cX6_canBeYesBy 58 = .ok (.iadd, 1) ∧ decode cX6_canBeYesBy 59 = .ok (.iaload, 1) ∧ decode cX6_canBeYesBy 60 = .ok (.iand, 1) ∧ decode cX6_canBeYesBy 61 = .ok (.istore 8, 2) ∧ decode cX6_canBeYesBy 63 = .ok (.iload 8, 2) ∧ decode cX6_canBeYesBy 65 = .ok (.ifCond .ne 5, 3) := by decide +kernel
theorem dX6_canBeYesBy_48 : decode cX6_canBeYesBy 48 = .ok (.aload_n 0, 1) := gdX6_canBeYesBy_48.1
theorem dX6_canBeYesBy_49 : decode cX6_canBeYesBy 49 = .ok (.getfield 21, 3) := gdX6_canBeYesBy_48.2.1
theorem dX6_canBeYesBy_52 : decode cX6_canBeYesBy 52 = .ok (.iload_n 1, 1) := gdX6_canBeYesBy_48.2.2.1
theorem dX6_canBeYesBy_53 : decode cX6_canBeYesBy 53 = .ok (.bipush 10, 2) := gdX6_canBeYesBy_48.2.2.2.1
theorem dX6_canBeYesBy_55 : decode cX6_canBeYesBy 55 = .ok (.imul, 1) := gdX6_canBeYesBy_48.2.2.2.2.1
theorem dX6_canBeYesBy_56 : decode cX6_canBeYesBy 56 = .ok (.iload 7, 2) := gdX6_canBeYesBy_48.2.2.2.2.2.1
theorem dX6_canBeYesBy_58 : decode cX6_canBeYesBy 58 = .ok (.iadd, 1) := gdX6_canBeYesBy_48.2.2.2.2.2.2.1
theorem dX6_canBeYesBy_59 : decode cX6_canBeYesBy 59 = .ok (.iaload, 1) := gdX6_canBeYesBy_48.2.2.2.2.2.2.2.1
theorem dX6_canBeYesBy_60 : decode cX6_canBeYesBy 60 = .ok (.iand, 1) := gdX6_canBeYesBy_48.2.2.2.2.2.2.2.2.1
theorem dX6_canBeYesBy_61 : decode cX6_canBeYesBy 61 = .ok (.istore 8, 2) := gdX6_canBeYesBy_48.2.2.2.2.2.2.2.2.2.1
theorem dX6_canBeYesBy_63 : decode cX6_canBeYesBy 63 = .ok (.iload 8, 2) := gdX6_canBeYesBy_48.2.2.2.2.2.2.2.2.2.2.1
theorem dX6_canBeYesBy_65 : decode cX6_canBeYesBy 65 = .ok (.ifCond .ne 5, 3) := gdX6_canBeYesBy_48.2.2.2.2.2.2.2.2.2.2.2
theorem gdX6_canBeYesBy_70 : decode cX6_canBeYesBy 70 = .ok (.iload 8, 2) ∧ decode cX6_canBeYesBy 72 = .ok (.aload_n 3, 1) ∧ decode cX6_canBeYesBy 73 = .ok (.getfield 84, 3) ∧ decode cX6_canBeYesBy 76 = .ok (.iload 7, 2) ∧ decode cX6_canBeYesBy 78 = .ok (.iaload, 1) ∧ decode cX6_canBeYesBy 79 = .ok (.iand, 1) ∧ decode cX6_canBeYesBy 80 = .ok (.ifCond .eq 7, 3) ∧ decode cX6_canBeYesBy 87 = .ok (.iconst 0, 1) ∧ decode cX6_canBeYesBy 88 = .ok (.istore 9, 2) ∧ decode cX6_canBeYesBy 90 = .ok (.aload_n 0, 1) ∧ decode cX6_canBeYesBy 91 = .ok (.iload 5, 2) ∧ decode cX6_canBeYesBy 93 = .ok (.ifCond .eq 10, 3) := by decide +kernel
theorem dX6_canBeYesBy_70 : decode cX6_canBeYesBy 70 = .ok (.iload 8, 2) := gdX6_canBeYesBy_70.1
theorem dX6_canBeYesBy_72 : decode cX6_canBeYesBy 72 = .ok (.aload_n 3, 1) := gdX6_canBeYesBy_70.2.1
theorem dX6_canBeYesBy_73 : decode cX6_canBeYesBy 73 = .ok (.getfield 84, 3) := gdX6_canBeYesBy_70.2.2.1
theorem dX6_canBeYesBy_76 : decode cX6_canBeYesBy 76 = .ok (.iload 7, 2) := gdX6_canBeYesBy_70.2.2.2.1
theorem dX6_canBeYesBy_78 : decode cX6_canBeYesBy 78 = .ok (.iaload, 1) := gdX6_canBeYesBy_70.2.2.2.2.1
theorem dX6_canBeYesBy_79 : decode cX6_canBeYesBy 79 = .ok (.iand, 1) := gdX6_canBeYesBy_70.2.2.2.2.2.1
theorem dX6_canBeYesBy_80 : decode cX6_canBeYesBy 80 = .ok (.ifCond .eq 7, 3) := gdX6_canBeYesBy_70.2.2.2.2.2.2.1
theorem dX6_canBeYesBy_87 : decode cX6_canBeYesBy 87 = .ok (.iconst 0, 1) := gdX6_canBeYesBy_70.2.2.2.2.2.2.2.1
theorem dX6_canBeYesBy_88 : decode cX6_canBeYesBy 88 = .ok (.istore 9, 2) := gdX6_canBeYesBy_70.2.2.2.2.2.2.2.2.1
theorem dX6_canBeYesBy_90 : decode cX6_canBeYesBy 90 = .ok (.aload_n 0, 1) := gdX6_canBeYesBy_70.2.2.2.2.2.2.2.2.2.1
theorem dX6_canBeYesBy_91 : decode cX6_canBeYesBy 91 = .ok (.iload 5, 2) := gdX6_canBeYesBy_70.2.2.2.2.2.2.2.2.2.2.1
theorem dX6_canBeYesBy_93 : decode cX6_canBeYesBy 93 = .ok (.ifCond .eq 10, 3) := gdX6_canBeYesBy_70.2.2.2.2.2.2.2.2.2.2.2
theorem gdX6_canBeYesBy_103 : decode cX6_canBeYesBy 103 = .ok (.iload 4, 2) ∧ decode cX6_canBeYesBy 105 = .ok (.iload 8, 2) ∧ decode cX6_canBeYesBy 107 = .ok (.aload_n 3, 1) ∧ decode cX6_canBeYesBy 108 = .ok (.getfield 84, 3) ∧ decode cX6_canBeYesBy 111 = .ok (.iload 7, 2) ∧ decode cX6_canBeYesBy 113 = .ok (.iaload, 1) ∧ decode cX6_canBeYesBy 114 = .ok (.iconst (-1), 1) ∧ decode cX6_canBeYesBy 115 = .ok (.ixor, 1) ∧ decode cX6_canBeYesBy 116 = .ok (.iand, 1) ∧ decode cX6_canBeYesBy 117 = .ok (.invokevirtual 101, 3) := by decide +kernel
theorem dX6_canBeYesBy_103 : decode cX6_canBeYesBy 103 = .ok (.iload 4, 2) := gdX6_canBeYesBy_103.1
theorem dX6_canBeYesBy_105 : decode cX6_canBeYesBy 105 = .ok (.iload 8, 2) := gdX6_canBeYesBy_103.2.1
theorem dX6_canBeYesBy_107 : decode cX6_canBeYesBy 107 = .ok (.aload_n 3, 1) := gdX6_canBeYesBy_103.2.2.1
theorem dX6_canBeYesBy_108 : decode cX6_canBeYesBy 108 = .ok (.getfield 84, 3) := gdX6_canBeYesBy_103.2.2.2.1
theorem dX6_canBeYesBy_111 : decode cX6_canBeYesBy 111 = .ok (.iload 7, 2) := gdX6_canBeYesBy_103.2.2.2.2.1
theorem dX6_canBeYesBy_113 : decode cX6_canBeYesBy 113 = .ok (.iaload, 1) := gdX6_canBeYesBy_103.2.2.2.2.2.1
theorem dX6_canBeYesBy_114 : decode cX6_canBeYesBy 114 = .ok (.iconst (-1), 1) := gdX6_canBeYesBy_103.2.2.2.2.2.2.1
theorem dX6_canBeYesBy_115 : decode cX6_canBeYesBy 115 = .ok (.ixor, 1) := gdX6_canBeYesBy_103.2.2.2.2.2.2.2.1
theorem dX6_canBeYesBy_116 : decode cX6_canBeYesBy 116 = .ok (.iand, 1) := gdX6_canBeYesBy_103.2.2.2.2.2.2.2.2.1
theorem dX6_canBeYesBy_117 : decode cX6_canBeYesBy 117 = .ok (.invokevirtual 101, 3) := gdX6_canBeYesBy_103.2.2.2.2.2.2.2.2.2
theorem k_X6_101 : xV RX6 RX6 101 yX6_led cX6_led 6 (some .int) 2 := ⟨⟨m_1266, m_1268, m_53, m_144, m_1269⟩, rfl, by decide, by decide, by decide +kernel⟩
theorem gdX6_canBeYesBy_120 : decode cX6_canBeYesBy 120 = .ok (.istore 10, 2) ∧ decode cX6_canBeYesBy 122 = .ok (.iload 9, 2) ∧ decode cX6_canBeYesBy 124 = .ok (.ifCond .eq 11, 3) ∧ decode cX6_canBeYesBy 135 = .ok (.iload 10, 2) ∧ decode cX6_canBeYesBy 137 = .ok (.istore 4, 2) ∧ decode cX6_canBeYesBy 139 = .ok (.iload 5, 2) ∧ decode cX6_canBeYesBy 141 = .ok (.ifCond .eq 12, 3) ∧ decode cX6_canBeYesBy 153 = .ok (.iconst 0, 1) ∧ decode cX6_canBeYesBy 154 = .ok (.istore 5, 2) ∧ decode cX6_canBeYesBy 156 = .ok (.iinc 6 1, 3) ∧ decode cX6_canBeYesBy 159 = .ok (.goto (-138), 3) ∧ decode cX6_canBeYesBy 96 = .ok (.iload 4, 2) := by decide +kernel
theorem dX6_canBeYesBy_120 : decode cX6_canBeYesBy 120 = .ok (.istore 10, 2) := gdX6_canBeYesBy_120.1
theorem dX6_canBeYesBy_122 : decode cX6_canBeYesBy 122 = .ok (.iload 9, 2) := gdX6_canBeYesBy_120.2.1
theorem dX6_canBeYesBy_124 : decode cX6_canBeYesBy 124 = .ok (.ifCond .eq 11, 3) := gdX6_canBeYesBy_120.2.2.1
theorem dX6_canBeYesBy_135 : decode cX6_canBeYesBy 135 = .ok (.iload 10, 2) := gdX6_canBeYesBy_120.2.2.2.1
theorem dX6_canBeYesBy_137 : decode cX6_canBeYesBy 137 = .ok (.istore 4, 2) := gdX6_canBeYesBy_120.2.2.2.2.1
theorem dX6_canBeYesBy_139 : decode cX6_canBeYesBy 139 = .ok (.iload 5, 2) := gdX6_canBeYesBy_120.2.2.2.2.2.1
theorem dX6_canBeYesBy_141 : decode cX6_canBeYesBy 141 = .ok (.ifCond .eq 12, 3) := gdX6_canBeYesBy_120.2.2.2.2.2.2.1
theorem dX6_canBeYesBy_153 : decode cX6_canBeYesBy 153 = .ok (.iconst 0, 1) := gdX6_canBeYesBy_120.2.2.2.2.2.2.2.1
theorem dX6_canBeYesBy_154 : decode cX6_canBeYesBy 154 = .ok (.istore 5, 2) := gdX6_canBeYesBy_120.2.2.2.2.2.2.2.2.1
theorem dX6_canBeYesBy_156 : decode cX6_canBeYesBy 156 = .ok (.iinc 6 1, 3) := gdX6_canBeYesBy_120.2.2.2.2.2.2.2.2.2.1
theorem dX6_canBeYesBy_159 : decode cX6_canBeYesBy 159 = .ok (.goto (-138), 3) := gdX6_canBeYesBy_120.2.2.2.2.2.2.2.2.2.2.1
theorem dX6_canBeYesBy_96 : decode cX6_canBeYesBy 96 = .ok (.iload 4, 2) := gdX6_canBeYesBy_120.2.2.2.2.2.2.2.2.2.2.2
theorem gdX6_canBeYesBy_98 : decode cX6_canBeYesBy 98 = .ok (.iconst 1, 1) ∧ decode cX6_canBeYesBy 99 = .ok (.ior, 1) ∧ decode cX6_canBeYesBy 100 = .ok (.goto 5, 3) ∧ decode cX6_canBeYesBy 144 = .ok (.iload 9, 2) ∧ decode cX6_canBeYesBy 146 = .ok (.ifCond .eq 7, 3) ∧ decode cX6_canBeYesBy 83 = .ok (.iconst 1, 1) ∧ decode cX6_canBeYesBy 84 = .ok (.goto 4, 3) ∧ decode cX6_canBeYesBy 127 = .ok (.iload 4, 2) ∧ decode cX6_canBeYesBy 129 = .ok (.iload 10, 2) ∧ decode cX6_canBeYesBy 131 = .ok (.ior, 1) ∧ decode cX6_canBeYesBy 132 = .ok (.goto 5, 3) ∧ decode cX6_canBeYesBy 149 = .ok (.iconst 1, 1) := by decide +kernel
theorem dX6_canBeYesBy_98 : decode cX6_canBeYesBy 98 = .ok (.iconst 1, 1) := gdX6_canBeYesBy_98.1
theorem dX6_canBeYesBy_99 : decode cX6_canBeYesBy 99 = .ok (.ior, 1) := gdX6_canBeYesBy_98.2.1
theorem dX6_canBeYesBy_100 : decode cX6_canBeYesBy 100 = .ok (.goto 5, 3) := gdX6_canBeYesBy_98.2.2.1
theorem dX6_canBeYesBy_144 : decode cX6_canBeYesBy 144 = .ok (.iload 9, 2) := gdX6_canBeYesBy_98.2.2.2.1
theorem dX6_canBeYesBy_146 : decode cX6_canBeYesBy 146 = .ok (.ifCond .eq 7, 3) := gdX6_canBeYesBy_98.2.2.2.2.1
theorem dX6_canBeYesBy_83 : decode cX6_canBeYesBy 83 = .ok (.iconst 1, 1) := gdX6_canBeYesBy_98.2.2.2.2.2.1
theorem dX6_canBeYesBy_84 : decode cX6_canBeYesBy 84 = .ok (.goto 4, 3) := gdX6_canBeYesBy_98.2.2.2.2.2.2.1
theorem dX6_canBeYesBy_127 : decode cX6_canBeYesBy 127 = .ok (.iload 4, 2) := gdX6_canBeYesBy_98.2.2.2.2.2.2.2.1
theorem dX6_canBeYesBy_129 : decode cX6_canBeYesBy 129 = .ok (.iload 10, 2) := gdX6_canBeYesBy_98.2.2.2.2.2.2.2.2.1
theorem dX6_canBeYesBy_131 : decode cX6_canBeYesBy 131 = .ok (.ior, 1) := gdX6_canBeYesBy_98.2.2.2.2.2.2.2.2.2.1
theorem dX6_canBeYesBy_132 : decode cX6_canBeYesBy 132 = .ok (.goto 5, 3) := gdX6_canBeYesBy_98.2.2.2.2.2.2.2.2.2.2.1
theorem dX6_canBeYesBy_149 : decode cX6_canBeYesBy 149 = .ok (.iconst 1, 1) := gdX6_canBeYesBy_98.2.2.2.2.2.2.2.2.2.2.2
theorem gdX6_canBeYesBy_150 : decode cX6_canBeYesBy 150 = .ok (.goto 4, 3) ∧ decode cX6_canBeYesBy 68 = .ok (.iconst 0, 1) ∧ decode cX6_canBeYesBy 69 = .ok (.ireturn, 1) := by decide +kernel
theorem dX6_canBeYesBy_150 : decode cX6_canBeYesBy 150 = .ok (.goto 4, 3) := gdX6_canBeYesBy_150.1
theorem dX6_canBeYesBy_68 : decode cX6_canBeYesBy 68 = .ok (.iconst 0, 1) := gdX6_canBeYesBy_150.2.1
theorem dX6_canBeYesBy_69 : decode cX6_canBeYesBy 69 = .ok (.ireturn, 1) := gdX6_canBeYesBy_150.2.2
set_option maxHeartbeats 1000000 in
set_option maxRecDepth 100000 in
theorem s_canBeYesBy (l : Launch) (D : va_G) (cy : Nat → ClassId) (p0 : Nat) (p1 : Nat) (p2 : Nat) (p3 : Nat) (p4 : Nat) (er : Nat) (ro : Nat) (ch : Nat) (fne : Nat → Int32) (fqi : Nat → Int32) (h0 : Nat) (h1 : Nat) (h2 : Nat) (h3 : Nat) (h4 : Nat) (h5 : Nat) (h6 : Nat) (h7 : Nat) (h8 : Nat) (h9 : Nat) (h10 : Nat) (h11 : Nat) (hv1 : Value) (hv2 : Value) (hv3 : Value) (hv4 : Value) (ys : Int32) (fc : Nat → Int32) (c0 : Nat) (c1 : Nat) (c2 : Nat) (c3 : Nat) (fx : Nat → Int32) (s0 : Nat) (s1 : Nat) (s2 : Nat) (sl : Nat) (spl : Int32) (svo : Int32) (swi : Int32) (sch : Int32) (fw : Nat → Int32) (ea : Nat → Nat) (eg : Nat → Nat) (ef : Nat → Nat) (et : Nat → Int32) (el : Nat → Nat) (ei : Nat → Nat) (gc : Nat → Nat → Int32) (xc : Nat → Nat → Int32) (rk : Nat) (cg : Int32) (hne : nOK fne c1) (hcn : cntOK fc c0 c1 c2 c3) (hc0 : c0 ≤ 8) (hc1 : c1 ≤ 4) (hc2 : c2 ≤ 4) (hc3 : c3 ≤ 6) (hnx : rng fx 48 5) (hel : ∀ i9, i9 < 4 → el i9 ≤ 10) (hes : ∀ i9, i9 < c1 → el i9 = sl) (hsl : sl ≤ 10) (hsw : rng fw 10 7) (hrk : rk < c1) : XMi l D (tyL cy) E0 yX6_canBeYesBy cX6_canBeYesBy 11 (some .boolean) (rmk 1 0 0) [.ref p0, .int (nI rk), .int cg] [wO p0 6 [.ref p1, .ref er, .ref ro, .ref p2, .ref p3, .ref p4, .ref h0, .ref s0, .int (nI ch)], wI (cy 1) p3 4 (fne), wI (cy 1) p4 40 (fqi), wO h0 4 [.ref h1, .ref h2, .ref h3, .ref h4, .ref h5, .ref h6, .ref h7, .ref h8, .ref h9, .ref h10, .ref h11, .int ys, hv1, hv2, hv3, hv4], wI (cy 1) h1 4 (fc), wI (cy 1) h7 48 (fx), wO s0 7 [.ref s1, .ref s2, .int (nI sl), .int spl, .int svo, .int swi, .int sch], wI (cy 1) s1 10 (fw), (er, .inl (cy 4, 4, .inr (.inr (.inr (.inr (eF (ea 0) (ea 1) (ea 2) (ea 3))))))), wO (ea 0) 2 [.ref (eg 0), .ref (ef 0), .int (et 0), .int (nI (el 0)), .int (nI (ei 0))], wI (cy 1) (eg 0) 10 (gc 0), wI (cy 1) (ef 0) 7 (xc 0), wO (ea 1) 2 [.ref (eg 1), .ref (ef 1), .int (et 1), .int (nI (el 1)), .int (nI (ei 1))], wI (cy 1) (eg 1) 10 (gc 1), wI (cy 1) (ef 1) 7 (xc 1), wO (ea 2) 2 [.ref (eg 2), .ref (ef 2), .int (et 2), .int (nI (el 2)), .int (nI (ei 2))], wI (cy 1) (eg 2) 10 (gc 2), wI (cy 1) (ef 2) 7 (xc 2), wO (ea 3) 2 [.ref (eg 3), .ref (ef 3), .int (et 3), .int (nI (el 3)), .int (nI (ei 3))], wI (cy 1) (eg 3) 10 (gc 3), wI (cy 1) (ef 3) 7 (xc 3)] (fun (r : Int32) (_ : Unit) => (r = 0 ∨ r = 1)) (fun (_ : Unit) => [wO p0 6 [.ref p1, .ref er, .ref ro, .ref p2, .ref p3, .ref p4, .ref h0, .ref s0, .int (nI ch)], wI (cy 1) p3 4 (fne), wI (cy 1) p4 40 (fqi), wO h0 4 [.ref h1, .ref h2, .ref h3, .ref h4, .ref h5, .ref h6, .ref h7, .ref h8, .ref h9, .ref h10, .ref h11, .int ys, hv1, hv2, hv3, hv4], wI (cy 1) h1 4 (fc), wI (cy 1) h7 48 (fx), wO s0 7 [.ref s1, .ref s2, .int (nI sl), .int spl, .int svo, .int swi, .int sch], wI (cy 1) s1 10 (fw), (er, .inl (cy 4, 4, .inr (.inr (.inr (.inr (eF (ea 0) (ea 1) (ea 2) (ea 3))))))), wO (ea 0) 2 [.ref (eg 0), .ref (ef 0), .int (et 0), .int (nI (el 0)), .int (nI (ei 0))], wI (cy 1) (eg 0) 10 (gc 0), wI (cy 1) (ef 0) 7 (xc 0), wO (ea 1) 2 [.ref (eg 1), .ref (ef 1), .int (et 1), .int (nI (el 1)), .int (nI (ei 1))], wI (cy 1) (eg 1) 10 (gc 1), wI (cy 1) (ef 1) 7 (xc 1), wO (ea 2) 2 [.ref (eg 2), .ref (ef 2), .int (et 2), .int (nI (el 2)), .int (nI (ei 2))], wI (cy 1) (eg 2) 10 (gc 2), wI (cy 1) (ef 2) 7 (xc 2), wO (ea 3) 2 [.ref (eg 3), .ref (ef 3), .int (et 3), .int (nI (el 3)), .int (nI (ei 3))], wI (cy 1) (eg 3) 10 (gc 3), wI (cy 1) (ef 3) 7 (xc 3)]) := by
  refine XMi.start (by decide) (Nat.le_of_ble_eq_true rfl) ?_
  intro p e s m below meth c args A ls Q hat hQ
  obtain ⟨hx, hb, hr, hml, hown, hg, hlocks, hin, hK, hA, hP, hD, hS, hE, hl⟩ := hat
  have hown : s.vm.findClass RX6 = some m.cls := hown
  have hl : lv_has ls 11 [(0, .ref p0), (1, .int (nI rk)), (2, .int cg)] := hl
  have hk_1 := hel 0 (by decide)
  have hk_2 := hel 1 (by decide)
  have hk_3 := hel 2 (by decide)
  have hk_4 := hel 3 (by decide)
  refine lv_aload_n hx hb dX6_canBeYesBy_0 rfl (lv_at hl 0 rfl) ?_
  refine va_get (D := D) (ci := 6) (v := .ref er) (C := RX6) (T := TX6) (N := 9) hx hb hg i_X6 hown hK hP 0 rfl rfl 1 (by decide) (hg _ m_586) (fun _ h9 => h9) rfl dX6_canBeYesBy_1 ?_
  refine lv_aload_n hx hb dX6_canBeYesBy_4 rfl (lv_at hl 0 rfl) ?_
  refine va_get (D := D) (ci := 6) (v := .ref p3) (C := RX6) (T := TX6) (N := 9) hx hb hg i_X6 hown hK hP 0 rfl rfl 4 (by decide) (hg _ m_589) (fun _ h9 => h9) rfl dX6_canBeYesBy_5 ?_
  refine lv_iload_n hx hb dX6_canBeYesBy_8 rfl (lv_at hl 1 rfl) ?_
  refine va_iald hx hb hK hP 1 1 rfl rfl (vp_in_nI (by omega) (by decide)) dX6_canBeYesBy_9 ?_
  obtain ⟨j_5, hj_5, ej_5⟩ := nOK_at hne (i := rk) (by omega) (by omega)
  refine lv_topi (fun y_6 hy_6 => ?_)
  obtain rfl : y_6 = nI j_5 := hy_6.trans ej_5
  rcases (show j_5 = 0 ∨ j_5 = 1 ∨ j_5 = 2 ∨ j_5 = 3 by omega) with hsp | hsp | hsp | hsp
  · subst hsp
    refine va_aldq hx hb hK hP 8 4 rfl rfl (by unfold vp_in; decide) dX6_canBeYesBy_10 ?_
    refine W.eq (g2 := F0 m 11 ls [.ref (ea 0)]) rfl ?_
    have hesk := hes 0 (by omega)
    refine lv_astore_n (lv' := [(3, .ref (ea 0)), (0, .ref p0), (1, .int (nI rk)), (2, .int cg)]) hx hb dX6_canBeYesBy_11 rfl hl (by decide) rfl (fun ls hl => ?_)
    refine lv_iconst (v := 0) hx hb dX6_canBeYesBy_12 (by decide) ?_
    refine lv_istore (lv' := [(4, .int 0), (3, .ref (ea 0)), (0, .ref p0), (1, .int (nI rk)), (2, .int cg)]) hx hb dX6_canBeYesBy_13 hl (by decide) rfl (fun ls hl => ?_)
    refine lv_iconst (v := 1) hx hb dX6_canBeYesBy_15 (by decide) ?_
    refine lv_istore (lv' := [(5, .int 1), (4, .int 0), (3, .ref (ea 0)), (0, .ref p0), (1, .int (nI rk)), (2, .int cg)]) hx hb dX6_canBeYesBy_16 hl (by decide) rfl (fun ls hl => ?_)
    refine lv_iconst (v := 0) hx hb dX6_canBeYesBy_18 (by decide) ?_
    refine lv_istore (lv' := [(6, .int 0), (5, .int 1), (4, .int 0), (3, .ref (ea 0)), (0, .ref p0), (1, .int (nI rk)), (2, .int cg)]) hx hb dX6_canBeYesBy_19 hl (by decide) rfl (fun ls hl => ?_)
    have loop7 : ∀ (zn : Nat) (lx4_7 : Int32) (lx5_7 : Int32) (i7 : Nat), (i7 ≤ sl) → sl - i7 + 1 ≤ zn → ∀ (H : Heap) (locs : List Loc), va_P D vwCl [wO p0 6 [.ref p1, .ref er, .ref ro, .ref p2, .ref p3, .ref p4, .ref h0, .ref s0, .int (nI ch)], wI (cy 1) p3 4 (fne), wI (cy 1) p4 40 (fqi), wO h0 4 [.ref h1, .ref h2, .ref h3, .ref h4, .ref h5, .ref h6, .ref h7, .ref h8, .ref h9, .ref h10, .ref h11, .int ys, hv1, hv2, hv3, hv4], wI (cy 1) h1 4 (fc), wI (cy 1) h7 48 (fx), wO s0 7 [.ref s1, .ref s2, .int (nI sl), .int spl, .int svo, .int swi, .int sch], wI (cy 1) s1 10 (fw), (er, .inl (cy 4, 4, .inr (.inr (.inr (.inr (eF (ea 0) (ea 1) (ea 2) (ea 3))))))), wO (ea 0) 2 [.ref (eg 0), .ref (ef 0), .int (et 0), .int (nI (el 0)), .int (nI (ei 0))], wI (cy 1) (eg 0) 10 (gc 0), wI (cy 1) (ef 0) 7 (xc 0), wO (ea 1) 2 [.ref (eg 1), .ref (ef 1), .int (et 1), .int (nI (el 1)), .int (nI (ei 1))], wI (cy 1) (eg 1) 10 (gc 1), wI (cy 1) (ef 1) 7 (xc 1), wO (ea 2) 2 [.ref (eg 2), .ref (ef 2), .int (et 2), .int (nI (el 2)), .int (nI (ei 2))], wI (cy 1) (eg 2) 10 (gc 2), wI (cy 1) (ef 2) 7 (xc 2), wO (ea 3) 2 [.ref (eg 3), .ref (ef 3), .int (et 3), .int (nI (el 3)), .int (nI (ei 3))], wI (cy 1) (eg 3) 10 (gc 3), wI (cy 1) (ef 3) 7 (xc 3)] H → va_D A [wO p0 6 [.ref p1, .ref er, .ref ro, .ref p2, .ref p3, .ref p4, .ref h0, .ref s0, .int (nI ch)], wI (cy 1) p3 4 (fne), wI (cy 1) p4 40 (fqi), wO h0 4 [.ref h1, .ref h2, .ref h3, .ref h4, .ref h5, .ref h6, .ref h7, .ref h8, .ref h9, .ref h10, .ref h11, .int ys, hv1, hv2, hv3, hv4], wI (cy 1) h1 4 (fc), wI (cy 1) h7 48 (fx), wO s0 7 [.ref s1, .ref s2, .int (nI sl), .int spl, .int svo, .int swi, .int sch], wI (cy 1) s1 10 (fw), (er, .inl (cy 4, 4, .inr (.inr (.inr (.inr (eF (ea 0) (ea 1) (ea 2) (ea 3))))))), wO (ea 0) 2 [.ref (eg 0), .ref (ef 0), .int (et 0), .int (nI (el 0)), .int (nI (ei 0))], wI (cy 1) (eg 0) 10 (gc 0), wI (cy 1) (ef 0) 7 (xc 0), wO (ea 1) 2 [.ref (eg 1), .ref (ef 1), .int (et 1), .int (nI (el 1)), .int (nI (ei 1))], wI (cy 1) (eg 1) 10 (gc 1), wI (cy 1) (ef 1) 7 (xc 1), wO (ea 2) 2 [.ref (eg 2), .ref (ef 2), .int (et 2), .int (nI (el 2)), .int (nI (ei 2))], wI (cy 1) (eg 2) 10 (gc 2), wI (cy 1) (ef 2) 7 (xc 2), wO (ea 3) 2 [.ref (eg 3), .ref (ef 3), .int (et 3), .int (nI (el 3)), .int (nI (ei 3))], wI (cy 1) (eg 3) 10 (gc 3), wI (cy 1) (ef 3) 7 (xc 3)] → va_S A s.heap H locs → ∀ ls : Array Slot, lv_has ls 11 [(6, .int (nI i7)), (5, .int lx5_7), (4, .int lx4_7), (3, .ref (ea 0)), (0, .ref p0), (1, .int (nI rk)), (2, .int cg)] → W p l e (rmk 1 0 0) s m args below meth c H locs 0 0 Q (F0 m 21 ls []) := by
      try clear hP hD hS
      intro zn
      induction zn with
      | zero => intro lx4_7 lx5_7 i7 _ hz; exact absurd hz (by omega)
      | succ zn ih7 =>
        intro lx4_7 lx5_7 i7 hf0_7 hmu7 H locs hP hD hS ls hl
        refine lv_iload hx hb dX6_canBeYesBy_21 (lv_at hl 0 rfl) ?_
        refine lv_aload_n hx hb dX6_canBeYesBy_23 rfl (lv_at hl 4 rfl) ?_
        refine va_get (D := D) (ci := 6) (v := .ref s0) (C := RX6) (T := TX6) (N := 9) hx hb hg i_X6 hown hK hP 0 rfl rfl 7 (by decide) (hg _ m_592) (fun _ h9 => h9) rfl dX6_canBeYesBy_24 ?_
        refine va_get (D := D) (ci := 7) (v := .int (nI sl)) (C := RX7) (T := TX7) (N := 7) hx hb hg i_X7 hown hK hP 6 rfl rfl 2 (by decide) (hg _ m_630) (fun _ h9 => h9) rfl dX6_canBeYesBy_27 ?_
        refine lv_icmp_ge (tgt := 162) hx hb dX6_canBeYesBy_30 (by decide) (fun c_8 => ?_) (fun c_8 => ?_)
        · have q_9 : sl ≤ i7 := q_le (a := sl) (b := i7) rfl rfl (by omega) (by omega) c_8
          refine lv_iload hx hb dX6_canBeYesBy_162 (lv_at hl 2 rfl) ?_
          refine lv_aload_n hx hb dX6_canBeYesBy_164 rfl (lv_at hl 4 rfl) ?_
          refine va_get (D := D) (ci := 6) (v := .ref h0) (C := RX6) (T := TX6) (N := 9) hx hb hg i_X6 hown hK hP 0 rfl rfl 6 (by decide) (hg _ m_591) (fun _ h9 => h9) rfl dX6_canBeYesBy_165 ?_
          refine va_get (D := D) (ci := 4) (v := .int ys) (C := RX4) (T := TX4) (N := 16) hx hb hg i_X4 hown hK hP 3 rfl rfl 11 (by decide) (hg _ m_370) (fun _ h9 => h9) rfl dX6_canBeYesBy_168 ?_
          refine lv_iand hx hb dX6_canBeYesBy_171 ?_
          refine lv_topi (fun x_10 ex_10 => ?_)
          refine lv_if_eq (tgt := 179) hx hb dX6_canBeYesBy_172 (by decide) (fun c_172 => ?_) (fun c_172 => ?_)
          · refine lv_iconst (v := 0) hx hb dX6_canBeYesBy_179 (by decide) ?_
            exact x_zret hQ hx hb hr hlocks hK hP hD hS rfl dX6_canBeYesBy_180 () ((Or.inl rfl)) [0, 1, 2, 3, 4, 5, 6, 7, 8, 9, 10, 11, 12, 13, 14, 15, 16, 17, 18, 19, 20] (by decide +kernel) rfl (Nat.le_of_ble_eq_true rfl) (Nat.le_of_ble_eq_true rfl)
          · refine lv_iconst (v := 1) hx hb dX6_canBeYesBy_175 (by decide) ?_
            refine lv_goto (tgt := 180) hx hb dX6_canBeYesBy_176 (by decide) ?_
            exact x_zret hQ hx hb hr hlocks hK hP hD hS rfl dX6_canBeYesBy_180 () ((Or.inr rfl)) [0, 1, 2, 3, 4, 5, 6, 7, 8, 9, 10, 11, 12, 13, 14, 15, 16, 17, 18, 19, 20] (by decide +kernel) rfl (Nat.le_of_ble_eq_true rfl) (Nat.le_of_ble_eq_true rfl)
        · have q_9 : i7 < sl := q_nle (a := sl) (b := i7) rfl rfl (by omega) (by omega) c_8
          refine lv_aload_n hx hb dX6_canBeYesBy_33 rfl (lv_at hl 3 rfl) ?_
          refine lv_iload hx hb dX6_canBeYesBy_34 (lv_at hl 0 rfl) ?_
          refine x_callVi (q := (RX2, TX2, 5)) (ci := 2) (q0 := 0) (wr := [wO p0 6 [.ref p1, .ref er, .ref ro, .ref p2, .ref p3, .ref p4, .ref h0, .ref s0, .int (nI ch)], wI (cy 1) p3 4 (fne), wI (cy 1) p4 40 (fqi), wO h0 4 [.ref h1, .ref h2, .ref h3, .ref h4, .ref h5, .ref h6, .ref h7, .ref h8, .ref h9, .ref h10, .ref h11, .int ys, hv1, hv2, hv3, hv4], wI (cy 1) h1 4 (fc), wI (cy 1) h7 48 (fx), wO s0 7 [.ref s1, .ref s2, .int (nI sl), .int spl, .int svo, .int swi, .int sch], wI (cy 1) s1 10 (fw), (er, .inl (cy 4, 4, .inr (.inr (.inr (.inr (eF (ea 0) (ea 1) (ea 2) (ea 3))))))), wI (cy 1) (eg 0) 10 (gc 0), wI (cy 1) (ef 0) 7 (xc 0), wO (ea 1) 2 [.ref (eg 1), .ref (ef 1), .int (et 1), .int (nI (el 1)), .int (nI (ei 1))], wI (cy 1) (eg 1) 10 (gc 1), wI (cy 1) (ef 1) 7 (xc 1), wO (ea 2) 2 [.ref (eg 2), .ref (ef 2), .int (et 2), .int (nI (el 2)), .int (nI (ei 2))], wI (cy 1) (eg 2) 10 (gc 2), wI (cy 1) (ef 2) 7 (xc 2), wO (ea 3) 2 [.ref (eg 3), .ref (ef 3), .int (et 3), .int (nI (el 3)), .int (nI (ei 3))], wI (cy 1) (eg 3) 10 (gc 3), wI (cy 1) (ef 3) 7 (xc 3)]) (rest := []) ⟨hx, hb, hml, hown, hg, hl.1⟩ k_X6_94 (s_placeOf l D cy (ea 0) (eg 0) (ef 0) (et 0) ((el 0)) ((ei 0)) i7 (by omega) (by omega)) E0_blind hK hP hD hS hA [9] [0, 1, 2, 3, 4, 5, 6, 7, 8, 10, 11, 12, 13, 14, 15, 16, 17, 18, 19, 20] ⟨rfl, rfl, by decide +kernel, by decide +kernel, by decide +kernel⟩ rfl rfl (fun _ _ _ => trivial) dX6_canBeYesBy_36 rfl rfl (Nat.le_of_ble_eq_true rfl) ⟨Nat.le_of_ble_eq_true rfl, Nat.le_of_ble_eq_true rfl⟩ ⟨Nat.le_of_ble_eq_true rfl, Nat.le_of_ble_eq_true rfl⟩ (fun zr11 zu11 H locs hw11 hP9 hD9 hS9 => ?_)
          clear hP hD hS
          obtain ⟨k_12, rfl⟩ : ∃ z, z = zu11 := ⟨_, rfl⟩
          refine reW [wO p0 6 [.ref p1, .ref er, .ref ro, .ref p2, .ref p3, .ref p4, .ref h0, .ref s0, .int (nI ch)], wI (cy 1) p3 4 (fne), wI (cy 1) p4 40 (fqi), wO h0 4 [.ref h1, .ref h2, .ref h3, .ref h4, .ref h5, .ref h6, .ref h7, .ref h8, .ref h9, .ref h10, .ref h11, .int ys, hv1, hv2, hv3, hv4], wI (cy 1) h1 4 (fc), wI (cy 1) h7 48 (fx), wO s0 7 [.ref s1, .ref s2, .int (nI sl), .int spl, .int svo, .int swi, .int sch], wI (cy 1) s1 10 (fw), (er, .inl (cy 4, 4, .inr (.inr (.inr (.inr (eF (ea 0) (ea 1) (ea 2) (ea 3))))))), wI (cy 1) (eg 0) 10 (gc 0), wI (cy 1) (ef 0) 7 (xc 0), wO (ea 1) 2 [.ref (eg 1), .ref (ef 1), .int (et 1), .int (nI (el 1)), .int (nI (ei 1))], wI (cy 1) (eg 1) 10 (gc 1), wI (cy 1) (ef 1) 7 (xc 1), wO (ea 2) 2 [.ref (eg 2), .ref (ef 2), .int (et 2), .int (nI (el 2)), .int (nI (ei 2))], wI (cy 1) (eg 2) 10 (gc 2), wI (cy 1) (ef 2) 7 (xc 2), wO (ea 3) 2 [.ref (eg 3), .ref (ef 3), .int (et 3), .int (nI (el 3)), .int (nI (ei 3))], wI (cy 1) (eg 3) 10 (gc 3), wI (cy 1) (ef 3) 7 (xc 3), wO (ea 0) 2 [.ref (eg 0), .ref (ef 0), .int (et 0), .int (nI ((el 0))), .int (nI ((ei 0)))]] hP9 hD9 hS9 (fun hP hD hS => ?_)
          clear hP9 hD9 hS9
          refine W.widen (k := 0) (n := 0) (Nat.le_of_ble_eq_true rfl) (Nat.le_of_ble_eq_true rfl) ?_
          replace hw11 : (zr11 = nI k_12) ∧ (k_12 < ((el 0))) := hw11
          obtain ⟨f_13, f_14⟩ := hw11
          subst f_13
          refine lv_istore (lv' := [(7, .int (nI k_12)), (6, .int (nI i7)), (5, .int lx5_7), (4, .int lx4_7), (3, .ref (ea 0)), (0, .ref p0), (1, .int (nI rk)), (2, .int cg)]) hx hb dX6_canBeYesBy_39 hl (by decide) rfl (fun ls hl => ?_)
          refine lv_aload_n hx hb dX6_canBeYesBy_41 rfl (lv_at hl 5 rfl) ?_
          refine lv_iload hx hb dX6_canBeYesBy_42 (lv_at hl 0 rfl) ?_
          refine lv_iload_n hx hb dX6_canBeYesBy_44 rfl (lv_at hl 7 rfl) ?_
          refine x_callVi (q := (RX6, TX6, 9)) (ci := 6) (q0 := 0) (wr := [wI (cy 1) p3 4 (fne), wI (cy 1) p4 40 (fqi), wI (cy 1) h7 48 (fx), (er, .inl (cy 4, 4, .inr (.inr (.inr (.inr (eF (ea 0) (ea 1) (ea 2) (ea 3))))))), wI (cy 1) (eg 0) 10 (gc 0), wI (cy 1) (ef 0) 7 (xc 0), wO (ea 1) 2 [.ref (eg 1), .ref (ef 1), .int (et 1), .int (nI (el 1)), .int (nI (ei 1))], wI (cy 1) (eg 1) 10 (gc 1), wI (cy 1) (ef 1) 7 (xc 1), wO (ea 2) 2 [.ref (eg 2), .ref (ef 2), .int (et 2), .int (nI (el 2)), .int (nI (ei 2))], wI (cy 1) (eg 2) 10 (gc 2), wI (cy 1) (ef 2) 7 (xc 2), wO (ea 3) 2 [.ref (eg 3), .ref (ef 3), .int (et 3), .int (nI (el 3)), .int (nI (ei 3))], wI (cy 1) (eg 3) 10 (gc 3), wI (cy 1) (ef 3) 7 (xc 3), wO (ea 0) 2 [.ref (eg 0), .ref (ef 0), .int (et 0), .int (nI ((el 0))), .int (nI ((ei 0)))]]) (rest := []) ⟨hx, hb, hml, hown, hg, hl.1⟩ k_X6_98 (s_choices l D cy p0 p1 p2 p3 p4 er ro ch h0 h1 h2 h3 h4 h5 h6 h7 h8 h9 h10 h11 ((.int ys)) hv1 hv2 hv3 hv4 fc c0 c1 c2 c3 s0 s1 s2 sl spl svo swi sch fw k_12 cg (hcn) (by omega) (by omega) (by omega) (by omega) (hsw) (by omega)) E0_blind hK hP hD hS hA [0, 3, 4, 6, 7] [1, 2, 5, 8, 9, 10, 11, 12, 13, 14, 15, 16, 17, 18, 19, 20] ⟨rfl, rfl, by decide +kernel, by decide +kernel, by decide +kernel⟩ rfl rfl (fun _ _ _ => trivial) dX6_canBeYesBy_45 rfl rfl (Nat.le_of_ble_eq_true rfl) ⟨Nat.le_of_ble_eq_true rfl, Nat.le_of_ble_eq_true rfl⟩ ⟨Nat.le_of_ble_eq_true rfl, Nat.le_of_ble_eq_true rfl⟩ (fun zr15 zu15 H locs hw15 hP9 hD9 hS9 => ?_)
          clear hP hD hS
          refine reW [wI (cy 1) p3 4 (fne), wI (cy 1) p4 40 (fqi), wI (cy 1) h7 48 (fx), (er, .inl (cy 4, 4, .inr (.inr (.inr (.inr (eF (ea 0) (ea 1) (ea 2) (ea 3))))))), wI (cy 1) (eg 0) 10 (gc 0), wI (cy 1) (ef 0) 7 (xc 0), wO (ea 1) 2 [.ref (eg 1), .ref (ef 1), .int (et 1), .int (nI (el 1)), .int (nI (ei 1))], wI (cy 1) (eg 1) 10 (gc 1), wI (cy 1) (ef 1) 7 (xc 1), wO (ea 2) 2 [.ref (eg 2), .ref (ef 2), .int (et 2), .int (nI (el 2)), .int (nI (ei 2))], wI (cy 1) (eg 2) 10 (gc 2), wI (cy 1) (ef 2) 7 (xc 2), wO (ea 3) 2 [.ref (eg 3), .ref (ef 3), .int (et 3), .int (nI (el 3)), .int (nI (ei 3))], wI (cy 1) (eg 3) 10 (gc 3), wI (cy 1) (ef 3) 7 (xc 3), wO (ea 0) 2 [.ref (eg 0), .ref (ef 0), .int (et 0), .int (nI ((el 0))), .int (nI ((ei 0)))], wO p0 6 [.ref p1, .ref er, .ref ro, .ref p2, .ref p3, .ref p4, .ref h0, .ref s0, .int (nI ch)], wO h0 4 [.ref h1, .ref h2, .ref h3, .ref h4, .ref h5, .ref h6, .ref h7, .ref h8, .ref h9, .ref h10, .ref h11, .int ys, hv1, hv2, hv3, hv4], wI (cy 1) h1 4 (fc), wO s0 7 [.ref s1, .ref s2, .int (nI sl), .int spl, .int svo, .int swi, .int sch], wI (cy 1) s1 10 (fw)] hP9 hD9 hS9 (fun hP hD hS => ?_)
          clear hP9 hD9 hS9
          refine W.widen (k := 0) (n := 0) (Nat.le_of_ble_eq_true rfl) (Nat.le_of_ble_eq_true rfl) ?_
          replace hw15 : True := hw15
          refine lv_aload_n hx hb dX6_canBeYesBy_48 rfl (lv_at hl 5 rfl) ?_
          refine va_get (D := D) (ci := 6) (v := .ref p4) (C := RX6) (T := TX6) (N := 9) hx hb hg i_X6 hown hK hP 16 rfl rfl 5 (by decide) (hg _ m_590) (fun _ h9 => h9) rfl dX6_canBeYesBy_49 ?_
          refine lv_iload_n hx hb dX6_canBeYesBy_52 rfl (lv_at hl 6 rfl) ?_
          refine lv_bipush (v := 10) hx hb dX6_canBeYesBy_53 (by decide) ?_
          refine lv_imul hx hb dX6_canBeYesBy_55 ?_
          refine lv_topi (fun y_16 hy_16 => ?_)
          obtain rfl : y_16 = nI (rk * 10) := hy_16.trans (pk_mul rk 10)
          refine lv_iload hx hb dX6_canBeYesBy_56 (lv_at hl 0 rfl) ?_
          refine lv_iadd hx hb dX6_canBeYesBy_58 ?_
          refine lv_topi (fun y_17 hy_17 => ?_)
          obtain rfl : y_17 = nI ((rk * 10) + k_12) := hy_17.trans (nI_add ((rk * 10)) k_12)
          refine va_iald hx hb hK hP 1 1 rfl rfl (vp_in_nI (by omega) (by decide)) dX6_canBeYesBy_59 ?_
          refine lv_topi (fun x_18 ex_18 => ?_)
          refine lv_iand hx hb dX6_canBeYesBy_60 ?_
          refine lv_topi (fun x_19 ex_19 => ?_)
          refine lv_istore (lv' := [(8, .int x_19), (7, .int (nI k_12)), (6, .int (nI i7)), (5, .int lx5_7), (4, .int lx4_7), (3, .ref (ea 0)), (0, .ref p0), (1, .int (nI rk)), (2, .int cg)]) hx hb dX6_canBeYesBy_61 hl (by decide) rfl (fun ls hl => ?_)
          refine lv_iload hx hb dX6_canBeYesBy_63 (lv_at hl 0 rfl) ?_
          refine lv_if_ne (tgt := 70) hx hb dX6_canBeYesBy_65 (by decide) (fun c_65 => ?_) (fun c_65 => ?_)
          · refine lv_iload hx hb dX6_canBeYesBy_70 (lv_at hl 0 rfl) ?_
            refine lv_aload_n hx hb dX6_canBeYesBy_72 rfl (lv_at hl 5 rfl) ?_
            refine va_get (D := D) (ci := 2) (v := .ref (eg 0)) (C := RX2) (T := TX2) (N := 5) hx hb hg i_X2 hown hK hP 15 rfl rfl 0 (by decide) (hg _ m_513) (fun _ h9 => h9) rfl dX6_canBeYesBy_73 ?_
            refine lv_iload hx hb dX6_canBeYesBy_76 (lv_at hl 1 rfl) ?_
            refine va_iald hx hb hK hP 4 1 rfl rfl (vp_in_nI (by omega) (by decide)) dX6_canBeYesBy_78 ?_
            refine lv_topi (fun x_20 ex_20 => ?_)
            refine lv_iand hx hb dX6_canBeYesBy_79 ?_
            refine lv_topi (fun x_21 ex_21 => ?_)
            refine lv_if_eq (tgt := 87) hx hb dX6_canBeYesBy_80 (by decide) (fun c_80 => ?_) (fun c_80 => ?_)
            · refine lv_iconst (v := 0) hx hb dX6_canBeYesBy_87 (by decide) ?_
              refine lv_istore (lv' := [(9, .int 0), (8, .int x_19), (7, .int (nI k_12)), (6, .int (nI i7)), (5, .int lx5_7), (4, .int lx4_7), (3, .ref (ea 0)), (0, .ref p0), (1, .int (nI rk)), (2, .int cg)]) hx hb dX6_canBeYesBy_88 hl (by decide) rfl (fun ls hl => ?_)
              refine lv_aload_n hx hb dX6_canBeYesBy_90 rfl (lv_at hl 7 rfl) ?_
              refine lv_iload hx hb dX6_canBeYesBy_91 (lv_at hl 4 rfl) ?_
              refine lv_if_eq (tgt := 103) hx hb dX6_canBeYesBy_93 (by decide) (fun c_93 => ?_) (fun c_93 => ?_)
              · refine lv_iload hx hb dX6_canBeYesBy_103 (lv_at hl 5 rfl) ?_
                refine lv_iload hx hb dX6_canBeYesBy_105 (lv_at hl 1 rfl) ?_
                refine lv_aload_n hx hb dX6_canBeYesBy_107 rfl (lv_at hl 6 rfl) ?_
                refine va_get (D := D) (ci := 2) (v := .ref (eg 0)) (C := RX2) (T := TX2) (N := 5) hx hb hg i_X2 hown hK hP 15 rfl rfl 0 (by decide) (hg _ m_513) (fun _ h9 => h9) rfl dX6_canBeYesBy_108 ?_
                refine lv_iload hx hb dX6_canBeYesBy_111 (lv_at hl 2 rfl) ?_
                refine va_iald hx hb hK hP 4 1 rfl rfl (vp_in_nI (by omega) (by decide)) dX6_canBeYesBy_113 ?_
                refine lv_topi (fun x_22 ex_22 => ?_)
                refine lv_iconst (v := -1) hx hb dX6_canBeYesBy_114 (by decide) ?_
                refine lv_ixor hx hb dX6_canBeYesBy_115 ?_
                refine lv_topi (fun x_23 ex_23 => ?_)
                refine lv_iand hx hb dX6_canBeYesBy_116 ?_
                refine lv_topi (fun x_24 ex_24 => ?_)
                refine x_callVi (q := (RX6, TX6, 9)) (ci := 6) (q0 := 0) (wr := [wI (cy 1) p3 4 (fne), wI (cy 1) p4 40 (fqi), (er, .inl (cy 4, 4, .inr (.inr (.inr (.inr (eF (ea 0) (ea 1) (ea 2) (ea 3))))))), wI (cy 1) (eg 0) 10 (gc 0), wI (cy 1) (ef 0) 7 (xc 0), wO (ea 1) 2 [.ref (eg 1), .ref (ef 1), .int (et 1), .int (nI (el 1)), .int (nI (ei 1))], wI (cy 1) (eg 1) 10 (gc 1), wI (cy 1) (ef 1) 7 (xc 1), wO (ea 2) 2 [.ref (eg 2), .ref (ef 2), .int (et 2), .int (nI (el 2)), .int (nI (ei 2))], wI (cy 1) (eg 2) 10 (gc 2), wI (cy 1) (ef 2) 7 (xc 2), wO (ea 3) 2 [.ref (eg 3), .ref (ef 3), .int (et 3), .int (nI (el 3)), .int (nI (ei 3))], wI (cy 1) (eg 3) 10 (gc 3), wI (cy 1) (ef 3) 7 (xc 3), wO (ea 0) 2 [.ref (eg 0), .ref (ef 0), .int (et 0), .int (nI ((el 0))), .int (nI ((ei 0)))], wO s0 7 [.ref s1, .ref s2, .int (nI sl), .int spl, .int svo, .int swi, .int sch], wI (cy 1) s1 10 (fw)]) (rest := []) ⟨hx, hb, hml, hown, hg, hl.1⟩ k_X6_101 (s_led l D cy p0 p1 p2 p3 p4 er ro ch s0 h0 h1 h2 h3 h4 h5 h6 h7 h8 h9 h10 h11 ((.int ys)) hv1 hv2 hv3 hv4 fc c0 c1 c2 c3 fx lx4_7 x_24 (hcn) (by omega) (by omega) (by omega) (by omega) (hnx)) E0_blind hK hP hD hS hA [16, 17, 18, 2] [0, 1, 3, 4, 5, 6, 7, 8, 9, 10, 11, 12, 13, 14, 15, 19, 20] ⟨rfl, rfl, by decide +kernel, by decide +kernel, by decide +kernel⟩ rfl rfl (fun _ _ _ => trivial) dX6_canBeYesBy_117 rfl rfl (Nat.le_of_ble_eq_true rfl) ⟨Nat.le_of_ble_eq_true rfl, Nat.le_of_ble_eq_true rfl⟩ ⟨Nat.le_of_ble_eq_true rfl, Nat.le_of_ble_eq_true rfl⟩ (fun zr25 zu25 H locs hw25 hP9 hD9 hS9 => ?_)
                clear hP hD hS
                refine reW [wI (cy 1) p3 4 (fne), wI (cy 1) p4 40 (fqi), (er, .inl (cy 4, 4, .inr (.inr (.inr (.inr (eF (ea 0) (ea 1) (ea 2) (ea 3))))))), wI (cy 1) (eg 0) 10 (gc 0), wI (cy 1) (ef 0) 7 (xc 0), wO (ea 1) 2 [.ref (eg 1), .ref (ef 1), .int (et 1), .int (nI (el 1)), .int (nI (ei 1))], wI (cy 1) (eg 1) 10 (gc 1), wI (cy 1) (ef 1) 7 (xc 1), wO (ea 2) 2 [.ref (eg 2), .ref (ef 2), .int (et 2), .int (nI (el 2)), .int (nI (ei 2))], wI (cy 1) (eg 2) 10 (gc 2), wI (cy 1) (ef 2) 7 (xc 2), wO (ea 3) 2 [.ref (eg 3), .ref (ef 3), .int (et 3), .int (nI (el 3)), .int (nI (ei 3))], wI (cy 1) (eg 3) 10 (gc 3), wI (cy 1) (ef 3) 7 (xc 3), wO (ea 0) 2 [.ref (eg 0), .ref (ef 0), .int (et 0), .int (nI ((el 0))), .int (nI ((ei 0)))], wO s0 7 [.ref s1, .ref s2, .int (nI sl), .int spl, .int svo, .int swi, .int sch], wI (cy 1) s1 10 (fw), wO p0 6 [.ref p1, .ref er, .ref ro, .ref p2, .ref p3, .ref p4, .ref h0, .ref s0, .int (nI ch)], wO h0 4 [.ref h1, .ref h2, .ref h3, .ref h4, .ref h5, .ref h6, .ref h7, .ref h8, .ref h9, .ref h10, .ref h11, .int ys, hv1, hv2, hv3, hv4], wI (cy 1) h1 4 (fc), wI (cy 1) h7 48 (fx)] hP9 hD9 hS9 (fun hP hD hS => ?_)
                clear hP9 hD9 hS9
                refine W.widen (k := 0) (n := 0) (Nat.le_of_ble_eq_true rfl) (Nat.le_of_ble_eq_true rfl) ?_
                replace hw25 : True := hw25
                refine lv_istore (lv' := [(10, .int zr25), (9, .int 0), (8, .int x_19), (7, .int (nI k_12)), (6, .int (nI i7)), (5, .int lx5_7), (4, .int lx4_7), (3, .ref (ea 0)), (0, .ref p0), (1, .int (nI rk)), (2, .int cg)]) hx hb dX6_canBeYesBy_120 hl (by decide) rfl (fun ls hl => ?_)
                refine lv_iload hx hb dX6_canBeYesBy_122 (lv_at hl 1 rfl) ?_
                refine lv_if_eq (tgt := 135) hx hb dX6_canBeYesBy_124 (by decide) (fun _ => ?_) (fun h => absurd (by decide) h)
                refine lv_iload hx hb dX6_canBeYesBy_135 (lv_at hl 0 rfl) ?_
                refine lv_istore (lv' := [(4, .int zr25), (10, .int zr25), (9, .int 0), (8, .int x_19), (7, .int (nI k_12)), (6, .int (nI i7)), (5, .int lx5_7), (3, .ref (ea 0)), (0, .ref p0), (1, .int (nI rk)), (2, .int cg)]) hx hb dX6_canBeYesBy_137 hl (by decide) rfl (fun ls hl => ?_)
                refine lv_iload hx hb dX6_canBeYesBy_139 (lv_at hl 6 rfl) ?_
                refine lv_if_eq (tgt := 153) hx hb dX6_canBeYesBy_141 (by decide) (fun _ => ?_) (fun h => absurd c_93 h)
                refine lv_iconst (v := 0) hx hb dX6_canBeYesBy_153 (by decide) ?_
                refine lv_istore (lv' := [(5, .int 0), (4, .int zr25), (10, .int zr25), (9, .int 0), (8, .int x_19), (7, .int (nI k_12)), (6, .int (nI i7)), (3, .ref (ea 0)), (0, .ref p0), (1, .int (nI rk)), (2, .int cg)]) hx hb dX6_canBeYesBy_154 hl (by decide) rfl (fun ls hl => ?_)
                refine lv_iinc (v := nI (i7 + 1)) (lv' := [(6, .int (nI (i7 + 1))), (5, .int 0), (4, .int zr25), (10, .int zr25), (9, .int 0), (8, .int x_19), (7, .int (nI k_12)), (3, .ref (ea 0)), (0, .ref p0), (1, .int (nI rk)), (2, .int cg)]) hx hb dX6_canBeYesBy_156 hl (k := 6) rfl (nI_add i7 1) (by decide) rfl (fun ls hl => ?_)
                refine lv_goto (tgt := 21) hx hb dX6_canBeYesBy_159 (by decide) ?_
                exact ih7  zr25 0 ((i7 + 1)) (by omega) (by omega) _ _ (hP.sub [17, 0, 1, 18, 19, 20, 15, 16, 2, 14, 3, 4, 5, 6, 7, 8, 9, 10, 11, 12, 13] rfl) (hD.sub [17, 0, 1, 18, 19, 20, 15, 16, 2, 14, 3, 4, 5, 6, 7, 8, 9, 10, 11, 12, 13] (by decide +kernel) rfl) hS ls (lv_sub hl [0, 1, 2, 7, 8, 9, 10] rfl)
              · refine lv_iload hx hb dX6_canBeYesBy_96 (lv_at hl 5 rfl) ?_
                refine lv_iconst (v := 1) hx hb dX6_canBeYesBy_98 (by decide) ?_
                refine lv_ior hx hb dX6_canBeYesBy_99 ?_
                refine lv_topi (fun x_26 ex_26 => ?_)
                refine lv_goto (tgt := 105) hx hb dX6_canBeYesBy_100 (by decide) ?_
                refine lv_iload hx hb dX6_canBeYesBy_105 (lv_at hl 1 rfl) ?_
                refine lv_aload_n hx hb dX6_canBeYesBy_107 rfl (lv_at hl 6 rfl) ?_
                refine va_get (D := D) (ci := 2) (v := .ref (eg 0)) (C := RX2) (T := TX2) (N := 5) hx hb hg i_X2 hown hK hP 15 rfl rfl 0 (by decide) (hg _ m_513) (fun _ h9 => h9) rfl dX6_canBeYesBy_108 ?_
                refine lv_iload hx hb dX6_canBeYesBy_111 (lv_at hl 2 rfl) ?_
                refine va_iald hx hb hK hP 4 1 rfl rfl (vp_in_nI (by omega) (by decide)) dX6_canBeYesBy_113 ?_
                refine lv_topi (fun x_27 ex_27 => ?_)
                refine lv_iconst (v := -1) hx hb dX6_canBeYesBy_114 (by decide) ?_
                refine lv_ixor hx hb dX6_canBeYesBy_115 ?_
                refine lv_topi (fun x_28 ex_28 => ?_)
                refine lv_iand hx hb dX6_canBeYesBy_116 ?_
                refine lv_topi (fun x_29 ex_29 => ?_)
                refine x_callVi (q := (RX6, TX6, 9)) (ci := 6) (q0 := 0) (wr := [wI (cy 1) p3 4 (fne), wI (cy 1) p4 40 (fqi), (er, .inl (cy 4, 4, .inr (.inr (.inr (.inr (eF (ea 0) (ea 1) (ea 2) (ea 3))))))), wI (cy 1) (eg 0) 10 (gc 0), wI (cy 1) (ef 0) 7 (xc 0), wO (ea 1) 2 [.ref (eg 1), .ref (ef 1), .int (et 1), .int (nI (el 1)), .int (nI (ei 1))], wI (cy 1) (eg 1) 10 (gc 1), wI (cy 1) (ef 1) 7 (xc 1), wO (ea 2) 2 [.ref (eg 2), .ref (ef 2), .int (et 2), .int (nI (el 2)), .int (nI (ei 2))], wI (cy 1) (eg 2) 10 (gc 2), wI (cy 1) (ef 2) 7 (xc 2), wO (ea 3) 2 [.ref (eg 3), .ref (ef 3), .int (et 3), .int (nI (el 3)), .int (nI (ei 3))], wI (cy 1) (eg 3) 10 (gc 3), wI (cy 1) (ef 3) 7 (xc 3), wO (ea 0) 2 [.ref (eg 0), .ref (ef 0), .int (et 0), .int (nI ((el 0))), .int (nI ((ei 0)))], wO s0 7 [.ref s1, .ref s2, .int (nI sl), .int spl, .int svo, .int swi, .int sch], wI (cy 1) s1 10 (fw)]) (rest := []) ⟨hx, hb, hml, hown, hg, hl.1⟩ k_X6_101 (s_led l D cy p0 p1 p2 p3 p4 er ro ch s0 h0 h1 h2 h3 h4 h5 h6 h7 h8 h9 h10 h11 ((.int ys)) hv1 hv2 hv3 hv4 fc c0 c1 c2 c3 fx x_26 x_29 (hcn) (by omega) (by omega) (by omega) (by omega) (hnx)) E0_blind hK hP hD hS hA [16, 17, 18, 2] [0, 1, 3, 4, 5, 6, 7, 8, 9, 10, 11, 12, 13, 14, 15, 19, 20] ⟨rfl, rfl, by decide +kernel, by decide +kernel, by decide +kernel⟩ rfl rfl (fun _ _ _ => trivial) dX6_canBeYesBy_117 rfl rfl (Nat.le_of_ble_eq_true rfl) ⟨Nat.le_of_ble_eq_true rfl, Nat.le_of_ble_eq_true rfl⟩ ⟨Nat.le_of_ble_eq_true rfl, Nat.le_of_ble_eq_true rfl⟩ (fun zr30 zu30 H locs hw30 hP9 hD9 hS9 => ?_)
                clear hP hD hS
                refine reW [wI (cy 1) p3 4 (fne), wI (cy 1) p4 40 (fqi), (er, .inl (cy 4, 4, .inr (.inr (.inr (.inr (eF (ea 0) (ea 1) (ea 2) (ea 3))))))), wI (cy 1) (eg 0) 10 (gc 0), wI (cy 1) (ef 0) 7 (xc 0), wO (ea 1) 2 [.ref (eg 1), .ref (ef 1), .int (et 1), .int (nI (el 1)), .int (nI (ei 1))], wI (cy 1) (eg 1) 10 (gc 1), wI (cy 1) (ef 1) 7 (xc 1), wO (ea 2) 2 [.ref (eg 2), .ref (ef 2), .int (et 2), .int (nI (el 2)), .int (nI (ei 2))], wI (cy 1) (eg 2) 10 (gc 2), wI (cy 1) (ef 2) 7 (xc 2), wO (ea 3) 2 [.ref (eg 3), .ref (ef 3), .int (et 3), .int (nI (el 3)), .int (nI (ei 3))], wI (cy 1) (eg 3) 10 (gc 3), wI (cy 1) (ef 3) 7 (xc 3), wO (ea 0) 2 [.ref (eg 0), .ref (ef 0), .int (et 0), .int (nI ((el 0))), .int (nI ((ei 0)))], wO s0 7 [.ref s1, .ref s2, .int (nI sl), .int spl, .int svo, .int swi, .int sch], wI (cy 1) s1 10 (fw), wO p0 6 [.ref p1, .ref er, .ref ro, .ref p2, .ref p3, .ref p4, .ref h0, .ref s0, .int (nI ch)], wO h0 4 [.ref h1, .ref h2, .ref h3, .ref h4, .ref h5, .ref h6, .ref h7, .ref h8, .ref h9, .ref h10, .ref h11, .int ys, hv1, hv2, hv3, hv4], wI (cy 1) h1 4 (fc), wI (cy 1) h7 48 (fx)] hP9 hD9 hS9 (fun hP hD hS => ?_)
                clear hP9 hD9 hS9
                refine W.widen (k := 0) (n := 0) (Nat.le_of_ble_eq_true rfl) (Nat.le_of_ble_eq_true rfl) ?_
                replace hw30 : True := hw30
                refine lv_istore (lv' := [(10, .int zr30), (9, .int 0), (8, .int x_19), (7, .int (nI k_12)), (6, .int (nI i7)), (5, .int lx5_7), (4, .int lx4_7), (3, .ref (ea 0)), (0, .ref p0), (1, .int (nI rk)), (2, .int cg)]) hx hb dX6_canBeYesBy_120 hl (by decide) rfl (fun ls hl => ?_)
                refine lv_iload hx hb dX6_canBeYesBy_122 (lv_at hl 1 rfl) ?_
                refine lv_if_eq (tgt := 135) hx hb dX6_canBeYesBy_124 (by decide) (fun _ => ?_) (fun h => absurd (by decide) h)
                refine lv_iload hx hb dX6_canBeYesBy_135 (lv_at hl 0 rfl) ?_
                refine lv_istore (lv' := [(4, .int zr30), (10, .int zr30), (9, .int 0), (8, .int x_19), (7, .int (nI k_12)), (6, .int (nI i7)), (5, .int lx5_7), (3, .ref (ea 0)), (0, .ref p0), (1, .int (nI rk)), (2, .int cg)]) hx hb dX6_canBeYesBy_137 hl (by decide) rfl (fun ls hl => ?_)
                refine lv_iload hx hb dX6_canBeYesBy_139 (lv_at hl 6 rfl) ?_
                refine lv_if_eq (tgt := 153) hx hb dX6_canBeYesBy_141 (by decide) (fun h => absurd h c_93) (fun _ => ?_)
                refine lv_iload hx hb dX6_canBeYesBy_144 (lv_at hl 2 rfl) ?_
                refine lv_if_eq (tgt := 153) hx hb dX6_canBeYesBy_146 (by decide) (fun _ => ?_) (fun h => absurd (by decide) h)
                refine lv_iconst (v := 0) hx hb dX6_canBeYesBy_153 (by decide) ?_
                refine lv_istore (lv' := [(5, .int 0), (4, .int zr30), (10, .int zr30), (9, .int 0), (8, .int x_19), (7, .int (nI k_12)), (6, .int (nI i7)), (3, .ref (ea 0)), (0, .ref p0), (1, .int (nI rk)), (2, .int cg)]) hx hb dX6_canBeYesBy_154 hl (by decide) rfl (fun ls hl => ?_)
                refine lv_iinc (v := nI (i7 + 1)) (lv' := [(6, .int (nI (i7 + 1))), (5, .int 0), (4, .int zr30), (10, .int zr30), (9, .int 0), (8, .int x_19), (7, .int (nI k_12)), (3, .ref (ea 0)), (0, .ref p0), (1, .int (nI rk)), (2, .int cg)]) hx hb dX6_canBeYesBy_156 hl (k := 6) rfl (nI_add i7 1) (by decide) rfl (fun ls hl => ?_)
                refine lv_goto (tgt := 21) hx hb dX6_canBeYesBy_159 (by decide) ?_
                exact ih7  zr30 0 ((i7 + 1)) (by omega) (by omega) _ _ (hP.sub [17, 0, 1, 18, 19, 20, 15, 16, 2, 14, 3, 4, 5, 6, 7, 8, 9, 10, 11, 12, 13] rfl) (hD.sub [17, 0, 1, 18, 19, 20, 15, 16, 2, 14, 3, 4, 5, 6, 7, 8, 9, 10, 11, 12, 13] (by decide +kernel) rfl) hS ls (lv_sub hl [0, 1, 2, 7, 8, 9, 10] rfl)
            · refine lv_iconst (v := 1) hx hb dX6_canBeYesBy_83 (by decide) ?_
              refine lv_goto (tgt := 88) hx hb dX6_canBeYesBy_84 (by decide) ?_
              refine lv_istore (lv' := [(9, .int 1), (8, .int x_19), (7, .int (nI k_12)), (6, .int (nI i7)), (5, .int lx5_7), (4, .int lx4_7), (3, .ref (ea 0)), (0, .ref p0), (1, .int (nI rk)), (2, .int cg)]) hx hb dX6_canBeYesBy_88 hl (by decide) rfl (fun ls hl => ?_)
              refine lv_aload_n hx hb dX6_canBeYesBy_90 rfl (lv_at hl 7 rfl) ?_
              refine lv_iload hx hb dX6_canBeYesBy_91 (lv_at hl 4 rfl) ?_
              refine lv_if_eq (tgt := 103) hx hb dX6_canBeYesBy_93 (by decide) (fun c_93 => ?_) (fun c_93 => ?_)
              · refine lv_iload hx hb dX6_canBeYesBy_103 (lv_at hl 5 rfl) ?_
                refine lv_iload hx hb dX6_canBeYesBy_105 (lv_at hl 1 rfl) ?_
                refine lv_aload_n hx hb dX6_canBeYesBy_107 rfl (lv_at hl 6 rfl) ?_
                refine va_get (D := D) (ci := 2) (v := .ref (eg 0)) (C := RX2) (T := TX2) (N := 5) hx hb hg i_X2 hown hK hP 15 rfl rfl 0 (by decide) (hg _ m_513) (fun _ h9 => h9) rfl dX6_canBeYesBy_108 ?_
                refine lv_iload hx hb dX6_canBeYesBy_111 (lv_at hl 2 rfl) ?_
                refine va_iald hx hb hK hP 4 1 rfl rfl (vp_in_nI (by omega) (by decide)) dX6_canBeYesBy_113 ?_
                refine lv_topi (fun x_31 ex_31 => ?_)
                refine lv_iconst (v := -1) hx hb dX6_canBeYesBy_114 (by decide) ?_
                refine lv_ixor hx hb dX6_canBeYesBy_115 ?_
                refine lv_topi (fun x_32 ex_32 => ?_)
                refine lv_iand hx hb dX6_canBeYesBy_116 ?_
                refine lv_topi (fun x_33 ex_33 => ?_)
                refine x_callVi (q := (RX6, TX6, 9)) (ci := 6) (q0 := 0) (wr := [wI (cy 1) p3 4 (fne), wI (cy 1) p4 40 (fqi), (er, .inl (cy 4, 4, .inr (.inr (.inr (.inr (eF (ea 0) (ea 1) (ea 2) (ea 3))))))), wI (cy 1) (eg 0) 10 (gc 0), wI (cy 1) (ef 0) 7 (xc 0), wO (ea 1) 2 [.ref (eg 1), .ref (ef 1), .int (et 1), .int (nI (el 1)), .int (nI (ei 1))], wI (cy 1) (eg 1) 10 (gc 1), wI (cy 1) (ef 1) 7 (xc 1), wO (ea 2) 2 [.ref (eg 2), .ref (ef 2), .int (et 2), .int (nI (el 2)), .int (nI (ei 2))], wI (cy 1) (eg 2) 10 (gc 2), wI (cy 1) (ef 2) 7 (xc 2), wO (ea 3) 2 [.ref (eg 3), .ref (ef 3), .int (et 3), .int (nI (el 3)), .int (nI (ei 3))], wI (cy 1) (eg 3) 10 (gc 3), wI (cy 1) (ef 3) 7 (xc 3), wO (ea 0) 2 [.ref (eg 0), .ref (ef 0), .int (et 0), .int (nI ((el 0))), .int (nI ((ei 0)))], wO s0 7 [.ref s1, .ref s2, .int (nI sl), .int spl, .int svo, .int swi, .int sch], wI (cy 1) s1 10 (fw)]) (rest := []) ⟨hx, hb, hml, hown, hg, hl.1⟩ k_X6_101 (s_led l D cy p0 p1 p2 p3 p4 er ro ch s0 h0 h1 h2 h3 h4 h5 h6 h7 h8 h9 h10 h11 ((.int ys)) hv1 hv2 hv3 hv4 fc c0 c1 c2 c3 fx lx4_7 x_33 (hcn) (by omega) (by omega) (by omega) (by omega) (hnx)) E0_blind hK hP hD hS hA [16, 17, 18, 2] [0, 1, 3, 4, 5, 6, 7, 8, 9, 10, 11, 12, 13, 14, 15, 19, 20] ⟨rfl, rfl, by decide +kernel, by decide +kernel, by decide +kernel⟩ rfl rfl (fun _ _ _ => trivial) dX6_canBeYesBy_117 rfl rfl (Nat.le_of_ble_eq_true rfl) ⟨Nat.le_of_ble_eq_true rfl, Nat.le_of_ble_eq_true rfl⟩ ⟨Nat.le_of_ble_eq_true rfl, Nat.le_of_ble_eq_true rfl⟩ (fun zr34 zu34 H locs hw34 hP9 hD9 hS9 => ?_)
                clear hP hD hS
                refine reW [wI (cy 1) p3 4 (fne), wI (cy 1) p4 40 (fqi), (er, .inl (cy 4, 4, .inr (.inr (.inr (.inr (eF (ea 0) (ea 1) (ea 2) (ea 3))))))), wI (cy 1) (eg 0) 10 (gc 0), wI (cy 1) (ef 0) 7 (xc 0), wO (ea 1) 2 [.ref (eg 1), .ref (ef 1), .int (et 1), .int (nI (el 1)), .int (nI (ei 1))], wI (cy 1) (eg 1) 10 (gc 1), wI (cy 1) (ef 1) 7 (xc 1), wO (ea 2) 2 [.ref (eg 2), .ref (ef 2), .int (et 2), .int (nI (el 2)), .int (nI (ei 2))], wI (cy 1) (eg 2) 10 (gc 2), wI (cy 1) (ef 2) 7 (xc 2), wO (ea 3) 2 [.ref (eg 3), .ref (ef 3), .int (et 3), .int (nI (el 3)), .int (nI (ei 3))], wI (cy 1) (eg 3) 10 (gc 3), wI (cy 1) (ef 3) 7 (xc 3), wO (ea 0) 2 [.ref (eg 0), .ref (ef 0), .int (et 0), .int (nI ((el 0))), .int (nI ((ei 0)))], wO s0 7 [.ref s1, .ref s2, .int (nI sl), .int spl, .int svo, .int swi, .int sch], wI (cy 1) s1 10 (fw), wO p0 6 [.ref p1, .ref er, .ref ro, .ref p2, .ref p3, .ref p4, .ref h0, .ref s0, .int (nI ch)], wO h0 4 [.ref h1, .ref h2, .ref h3, .ref h4, .ref h5, .ref h6, .ref h7, .ref h8, .ref h9, .ref h10, .ref h11, .int ys, hv1, hv2, hv3, hv4], wI (cy 1) h1 4 (fc), wI (cy 1) h7 48 (fx)] hP9 hD9 hS9 (fun hP hD hS => ?_)
                clear hP9 hD9 hS9
                refine W.widen (k := 0) (n := 0) (Nat.le_of_ble_eq_true rfl) (Nat.le_of_ble_eq_true rfl) ?_
                replace hw34 : True := hw34
                refine lv_istore (lv' := [(10, .int zr34), (9, .int 1), (8, .int x_19), (7, .int (nI k_12)), (6, .int (nI i7)), (5, .int lx5_7), (4, .int lx4_7), (3, .ref (ea 0)), (0, .ref p0), (1, .int (nI rk)), (2, .int cg)]) hx hb dX6_canBeYesBy_120 hl (by decide) rfl (fun ls hl => ?_)
                refine lv_iload hx hb dX6_canBeYesBy_122 (lv_at hl 1 rfl) ?_
                refine lv_if_eq (tgt := 135) hx hb dX6_canBeYesBy_124 (by decide) (fun h => absurd h (by decide)) (fun _ => ?_)
                refine lv_iload hx hb dX6_canBeYesBy_127 (lv_at hl 6 rfl) ?_
                refine lv_iload hx hb dX6_canBeYesBy_129 (lv_at hl 0 rfl) ?_
                refine lv_ior hx hb dX6_canBeYesBy_131 ?_
                refine lv_topi (fun x_35 ex_35 => ?_)
                refine lv_goto (tgt := 137) hx hb dX6_canBeYesBy_132 (by decide) ?_
                refine lv_istore (lv' := [(4, .int x_35), (10, .int zr34), (9, .int 1), (8, .int x_19), (7, .int (nI k_12)), (6, .int (nI i7)), (5, .int lx5_7), (3, .ref (ea 0)), (0, .ref p0), (1, .int (nI rk)), (2, .int cg)]) hx hb dX6_canBeYesBy_137 hl (by decide) rfl (fun ls hl => ?_)
                refine lv_iload hx hb dX6_canBeYesBy_139 (lv_at hl 6 rfl) ?_
                refine lv_if_eq (tgt := 153) hx hb dX6_canBeYesBy_141 (by decide) (fun _ => ?_) (fun h => absurd c_93 h)
                refine lv_iconst (v := 0) hx hb dX6_canBeYesBy_153 (by decide) ?_
                refine lv_istore (lv' := [(5, .int 0), (4, .int x_35), (10, .int zr34), (9, .int 1), (8, .int x_19), (7, .int (nI k_12)), (6, .int (nI i7)), (3, .ref (ea 0)), (0, .ref p0), (1, .int (nI rk)), (2, .int cg)]) hx hb dX6_canBeYesBy_154 hl (by decide) rfl (fun ls hl => ?_)
                refine lv_iinc (v := nI (i7 + 1)) (lv' := [(6, .int (nI (i7 + 1))), (5, .int 0), (4, .int x_35), (10, .int zr34), (9, .int 1), (8, .int x_19), (7, .int (nI k_12)), (3, .ref (ea 0)), (0, .ref p0), (1, .int (nI rk)), (2, .int cg)]) hx hb dX6_canBeYesBy_156 hl (k := 6) rfl (nI_add i7 1) (by decide) rfl (fun ls hl => ?_)
                refine lv_goto (tgt := 21) hx hb dX6_canBeYesBy_159 (by decide) ?_
                exact ih7  x_35 0 ((i7 + 1)) (by omega) (by omega) _ _ (hP.sub [17, 0, 1, 18, 19, 20, 15, 16, 2, 14, 3, 4, 5, 6, 7, 8, 9, 10, 11, 12, 13] rfl) (hD.sub [17, 0, 1, 18, 19, 20, 15, 16, 2, 14, 3, 4, 5, 6, 7, 8, 9, 10, 11, 12, 13] (by decide +kernel) rfl) hS ls (lv_sub hl [0, 1, 2, 7, 8, 9, 10] rfl)
              · refine lv_iload hx hb dX6_canBeYesBy_96 (lv_at hl 5 rfl) ?_
                refine lv_iconst (v := 1) hx hb dX6_canBeYesBy_98 (by decide) ?_
                refine lv_ior hx hb dX6_canBeYesBy_99 ?_
                refine lv_topi (fun x_36 ex_36 => ?_)
                refine lv_goto (tgt := 105) hx hb dX6_canBeYesBy_100 (by decide) ?_
                refine lv_iload hx hb dX6_canBeYesBy_105 (lv_at hl 1 rfl) ?_
                refine lv_aload_n hx hb dX6_canBeYesBy_107 rfl (lv_at hl 6 rfl) ?_
                refine va_get (D := D) (ci := 2) (v := .ref (eg 0)) (C := RX2) (T := TX2) (N := 5) hx hb hg i_X2 hown hK hP 15 rfl rfl 0 (by decide) (hg _ m_513) (fun _ h9 => h9) rfl dX6_canBeYesBy_108 ?_
                refine lv_iload hx hb dX6_canBeYesBy_111 (lv_at hl 2 rfl) ?_
                refine va_iald hx hb hK hP 4 1 rfl rfl (vp_in_nI (by omega) (by decide)) dX6_canBeYesBy_113 ?_
                refine lv_topi (fun x_37 ex_37 => ?_)
                refine lv_iconst (v := -1) hx hb dX6_canBeYesBy_114 (by decide) ?_
                refine lv_ixor hx hb dX6_canBeYesBy_115 ?_
                refine lv_topi (fun x_38 ex_38 => ?_)
                refine lv_iand hx hb dX6_canBeYesBy_116 ?_
                refine lv_topi (fun x_39 ex_39 => ?_)
                refine x_callVi (q := (RX6, TX6, 9)) (ci := 6) (q0 := 0) (wr := [wI (cy 1) p3 4 (fne), wI (cy 1) p4 40 (fqi), (er, .inl (cy 4, 4, .inr (.inr (.inr (.inr (eF (ea 0) (ea 1) (ea 2) (ea 3))))))), wI (cy 1) (eg 0) 10 (gc 0), wI (cy 1) (ef 0) 7 (xc 0), wO (ea 1) 2 [.ref (eg 1), .ref (ef 1), .int (et 1), .int (nI (el 1)), .int (nI (ei 1))], wI (cy 1) (eg 1) 10 (gc 1), wI (cy 1) (ef 1) 7 (xc 1), wO (ea 2) 2 [.ref (eg 2), .ref (ef 2), .int (et 2), .int (nI (el 2)), .int (nI (ei 2))], wI (cy 1) (eg 2) 10 (gc 2), wI (cy 1) (ef 2) 7 (xc 2), wO (ea 3) 2 [.ref (eg 3), .ref (ef 3), .int (et 3), .int (nI (el 3)), .int (nI (ei 3))], wI (cy 1) (eg 3) 10 (gc 3), wI (cy 1) (ef 3) 7 (xc 3), wO (ea 0) 2 [.ref (eg 0), .ref (ef 0), .int (et 0), .int (nI ((el 0))), .int (nI ((ei 0)))], wO s0 7 [.ref s1, .ref s2, .int (nI sl), .int spl, .int svo, .int swi, .int sch], wI (cy 1) s1 10 (fw)]) (rest := []) ⟨hx, hb, hml, hown, hg, hl.1⟩ k_X6_101 (s_led l D cy p0 p1 p2 p3 p4 er ro ch s0 h0 h1 h2 h3 h4 h5 h6 h7 h8 h9 h10 h11 ((.int ys)) hv1 hv2 hv3 hv4 fc c0 c1 c2 c3 fx x_36 x_39 (hcn) (by omega) (by omega) (by omega) (by omega) (hnx)) E0_blind hK hP hD hS hA [16, 17, 18, 2] [0, 1, 3, 4, 5, 6, 7, 8, 9, 10, 11, 12, 13, 14, 15, 19, 20] ⟨rfl, rfl, by decide +kernel, by decide +kernel, by decide +kernel⟩ rfl rfl (fun _ _ _ => trivial) dX6_canBeYesBy_117 rfl rfl (Nat.le_of_ble_eq_true rfl) ⟨Nat.le_of_ble_eq_true rfl, Nat.le_of_ble_eq_true rfl⟩ ⟨Nat.le_of_ble_eq_true rfl, Nat.le_of_ble_eq_true rfl⟩ (fun zr40 zu40 H locs hw40 hP9 hD9 hS9 => ?_)
                clear hP hD hS
                refine reW [wI (cy 1) p3 4 (fne), wI (cy 1) p4 40 (fqi), (er, .inl (cy 4, 4, .inr (.inr (.inr (.inr (eF (ea 0) (ea 1) (ea 2) (ea 3))))))), wI (cy 1) (eg 0) 10 (gc 0), wI (cy 1) (ef 0) 7 (xc 0), wO (ea 1) 2 [.ref (eg 1), .ref (ef 1), .int (et 1), .int (nI (el 1)), .int (nI (ei 1))], wI (cy 1) (eg 1) 10 (gc 1), wI (cy 1) (ef 1) 7 (xc 1), wO (ea 2) 2 [.ref (eg 2), .ref (ef 2), .int (et 2), .int (nI (el 2)), .int (nI (ei 2))], wI (cy 1) (eg 2) 10 (gc 2), wI (cy 1) (ef 2) 7 (xc 2), wO (ea 3) 2 [.ref (eg 3), .ref (ef 3), .int (et 3), .int (nI (el 3)), .int (nI (ei 3))], wI (cy 1) (eg 3) 10 (gc 3), wI (cy 1) (ef 3) 7 (xc 3), wO (ea 0) 2 [.ref (eg 0), .ref (ef 0), .int (et 0), .int (nI ((el 0))), .int (nI ((ei 0)))], wO s0 7 [.ref s1, .ref s2, .int (nI sl), .int spl, .int svo, .int swi, .int sch], wI (cy 1) s1 10 (fw), wO p0 6 [.ref p1, .ref er, .ref ro, .ref p2, .ref p3, .ref p4, .ref h0, .ref s0, .int (nI ch)], wO h0 4 [.ref h1, .ref h2, .ref h3, .ref h4, .ref h5, .ref h6, .ref h7, .ref h8, .ref h9, .ref h10, .ref h11, .int ys, hv1, hv2, hv3, hv4], wI (cy 1) h1 4 (fc), wI (cy 1) h7 48 (fx)] hP9 hD9 hS9 (fun hP hD hS => ?_)
                clear hP9 hD9 hS9
                refine W.widen (k := 0) (n := 0) (Nat.le_of_ble_eq_true rfl) (Nat.le_of_ble_eq_true rfl) ?_
                replace hw40 : True := hw40
                refine lv_istore (lv' := [(10, .int zr40), (9, .int 1), (8, .int x_19), (7, .int (nI k_12)), (6, .int (nI i7)), (5, .int lx5_7), (4, .int lx4_7), (3, .ref (ea 0)), (0, .ref p0), (1, .int (nI rk)), (2, .int cg)]) hx hb dX6_canBeYesBy_120 hl (by decide) rfl (fun ls hl => ?_)
                refine lv_iload hx hb dX6_canBeYesBy_122 (lv_at hl 1 rfl) ?_
                refine lv_if_eq (tgt := 135) hx hb dX6_canBeYesBy_124 (by decide) (fun h => absurd h (by decide)) (fun _ => ?_)
                refine lv_iload hx hb dX6_canBeYesBy_127 (lv_at hl 6 rfl) ?_
                refine lv_iload hx hb dX6_canBeYesBy_129 (lv_at hl 0 rfl) ?_
                refine lv_ior hx hb dX6_canBeYesBy_131 ?_
                refine lv_topi (fun x_41 ex_41 => ?_)
                refine lv_goto (tgt := 137) hx hb dX6_canBeYesBy_132 (by decide) ?_
                refine lv_istore (lv' := [(4, .int x_41), (10, .int zr40), (9, .int 1), (8, .int x_19), (7, .int (nI k_12)), (6, .int (nI i7)), (5, .int lx5_7), (3, .ref (ea 0)), (0, .ref p0), (1, .int (nI rk)), (2, .int cg)]) hx hb dX6_canBeYesBy_137 hl (by decide) rfl (fun ls hl => ?_)
                refine lv_iload hx hb dX6_canBeYesBy_139 (lv_at hl 6 rfl) ?_
                refine lv_if_eq (tgt := 153) hx hb dX6_canBeYesBy_141 (by decide) (fun h => absurd h c_93) (fun _ => ?_)
                refine lv_iload hx hb dX6_canBeYesBy_144 (lv_at hl 2 rfl) ?_
                refine lv_if_eq (tgt := 153) hx hb dX6_canBeYesBy_146 (by decide) (fun h => absurd h (by decide)) (fun _ => ?_)
                refine lv_iconst (v := 1) hx hb dX6_canBeYesBy_149 (by decide) ?_
                refine lv_goto (tgt := 154) hx hb dX6_canBeYesBy_150 (by decide) ?_
                refine lv_istore (lv' := [(5, .int 1), (4, .int x_41), (10, .int zr40), (9, .int 1), (8, .int x_19), (7, .int (nI k_12)), (6, .int (nI i7)), (3, .ref (ea 0)), (0, .ref p0), (1, .int (nI rk)), (2, .int cg)]) hx hb dX6_canBeYesBy_154 hl (by decide) rfl (fun ls hl => ?_)
                refine lv_iinc (v := nI (i7 + 1)) (lv' := [(6, .int (nI (i7 + 1))), (5, .int 1), (4, .int x_41), (10, .int zr40), (9, .int 1), (8, .int x_19), (7, .int (nI k_12)), (3, .ref (ea 0)), (0, .ref p0), (1, .int (nI rk)), (2, .int cg)]) hx hb dX6_canBeYesBy_156 hl (k := 6) rfl (nI_add i7 1) (by decide) rfl (fun ls hl => ?_)
                refine lv_goto (tgt := 21) hx hb dX6_canBeYesBy_159 (by decide) ?_
                exact ih7  x_41 1 ((i7 + 1)) (by omega) (by omega) _ _ (hP.sub [17, 0, 1, 18, 19, 20, 15, 16, 2, 14, 3, 4, 5, 6, 7, 8, 9, 10, 11, 12, 13] rfl) (hD.sub [17, 0, 1, 18, 19, 20, 15, 16, 2, 14, 3, 4, 5, 6, 7, 8, 9, 10, 11, 12, 13] (by decide +kernel) rfl) hS ls (lv_sub hl [0, 1, 2, 7, 8, 9, 10] rfl)
          · refine lv_iconst (v := 0) hx hb dX6_canBeYesBy_68 (by decide) ?_
            exact x_zret hQ hx hb hr hlocks hK hP hD hS rfl dX6_canBeYesBy_69 () ((Or.inl rfl)) [16, 0, 1, 17, 18, 2, 19, 20, 3, 15, 4, 5, 6, 7, 8, 9, 10, 11, 12, 13, 14] (by decide +kernel) rfl (Nat.le_of_ble_eq_true rfl) (Nat.le_of_ble_eq_true rfl)
    exact loop7 _ 0 1 0 (by omega) (Nat.le_refl _) _ _ (hP.sub [0, 1, 2, 3, 4, 5, 6, 7, 8, 9, 10, 11, 12, 13, 14, 15, 16, 17, 18, 19, 20] rfl) (hD.sub [0, 1, 2, 3, 4, 5, 6, 7, 8, 9, 10, 11, 12, 13, 14, 15, 16, 17, 18, 19, 20] (by decide +kernel) rfl) hS ls (lv_sub hl [0, 1, 2, 3, 4, 5, 6] rfl)
  · subst hsp
    refine va_aldq hx hb hK hP 8 4 rfl rfl (by unfold vp_in; decide) dX6_canBeYesBy_10 ?_
    refine W.eq (g2 := F0 m 11 ls [.ref (ea 1)]) rfl ?_
    have hesk := hes 1 (by omega)
    refine lv_astore_n (lv' := [(3, .ref (ea 1)), (0, .ref p0), (1, .int (nI rk)), (2, .int cg)]) hx hb dX6_canBeYesBy_11 rfl hl (by decide) rfl (fun ls hl => ?_)
    refine lv_iconst (v := 0) hx hb dX6_canBeYesBy_12 (by decide) ?_
    refine lv_istore (lv' := [(4, .int 0), (3, .ref (ea 1)), (0, .ref p0), (1, .int (nI rk)), (2, .int cg)]) hx hb dX6_canBeYesBy_13 hl (by decide) rfl (fun ls hl => ?_)
    refine lv_iconst (v := 1) hx hb dX6_canBeYesBy_15 (by decide) ?_
    refine lv_istore (lv' := [(5, .int 1), (4, .int 0), (3, .ref (ea 1)), (0, .ref p0), (1, .int (nI rk)), (2, .int cg)]) hx hb dX6_canBeYesBy_16 hl (by decide) rfl (fun ls hl => ?_)
    refine lv_iconst (v := 0) hx hb dX6_canBeYesBy_18 (by decide) ?_
    refine lv_istore (lv' := [(6, .int 0), (5, .int 1), (4, .int 0), (3, .ref (ea 1)), (0, .ref p0), (1, .int (nI rk)), (2, .int cg)]) hx hb dX6_canBeYesBy_19 hl (by decide) rfl (fun ls hl => ?_)
    have loop42 : ∀ (zn : Nat) (lx4_42 : Int32) (lx5_42 : Int32) (i42 : Nat), (i42 ≤ sl) → sl - i42 + 1 ≤ zn → ∀ (H : Heap) (locs : List Loc), va_P D vwCl [wO p0 6 [.ref p1, .ref er, .ref ro, .ref p2, .ref p3, .ref p4, .ref h0, .ref s0, .int (nI ch)], wI (cy 1) p3 4 (fne), wI (cy 1) p4 40 (fqi), wO h0 4 [.ref h1, .ref h2, .ref h3, .ref h4, .ref h5, .ref h6, .ref h7, .ref h8, .ref h9, .ref h10, .ref h11, .int ys, hv1, hv2, hv3, hv4], wI (cy 1) h1 4 (fc), wI (cy 1) h7 48 (fx), wO s0 7 [.ref s1, .ref s2, .int (nI sl), .int spl, .int svo, .int swi, .int sch], wI (cy 1) s1 10 (fw), (er, .inl (cy 4, 4, .inr (.inr (.inr (.inr (eF (ea 0) (ea 1) (ea 2) (ea 3))))))), wO (ea 0) 2 [.ref (eg 0), .ref (ef 0), .int (et 0), .int (nI (el 0)), .int (nI (ei 0))], wI (cy 1) (eg 0) 10 (gc 0), wI (cy 1) (ef 0) 7 (xc 0), wO (ea 1) 2 [.ref (eg 1), .ref (ef 1), .int (et 1), .int (nI (el 1)), .int (nI (ei 1))], wI (cy 1) (eg 1) 10 (gc 1), wI (cy 1) (ef 1) 7 (xc 1), wO (ea 2) 2 [.ref (eg 2), .ref (ef 2), .int (et 2), .int (nI (el 2)), .int (nI (ei 2))], wI (cy 1) (eg 2) 10 (gc 2), wI (cy 1) (ef 2) 7 (xc 2), wO (ea 3) 2 [.ref (eg 3), .ref (ef 3), .int (et 3), .int (nI (el 3)), .int (nI (ei 3))], wI (cy 1) (eg 3) 10 (gc 3), wI (cy 1) (ef 3) 7 (xc 3)] H → va_D A [wO p0 6 [.ref p1, .ref er, .ref ro, .ref p2, .ref p3, .ref p4, .ref h0, .ref s0, .int (nI ch)], wI (cy 1) p3 4 (fne), wI (cy 1) p4 40 (fqi), wO h0 4 [.ref h1, .ref h2, .ref h3, .ref h4, .ref h5, .ref h6, .ref h7, .ref h8, .ref h9, .ref h10, .ref h11, .int ys, hv1, hv2, hv3, hv4], wI (cy 1) h1 4 (fc), wI (cy 1) h7 48 (fx), wO s0 7 [.ref s1, .ref s2, .int (nI sl), .int spl, .int svo, .int swi, .int sch], wI (cy 1) s1 10 (fw), (er, .inl (cy 4, 4, .inr (.inr (.inr (.inr (eF (ea 0) (ea 1) (ea 2) (ea 3))))))), wO (ea 0) 2 [.ref (eg 0), .ref (ef 0), .int (et 0), .int (nI (el 0)), .int (nI (ei 0))], wI (cy 1) (eg 0) 10 (gc 0), wI (cy 1) (ef 0) 7 (xc 0), wO (ea 1) 2 [.ref (eg 1), .ref (ef 1), .int (et 1), .int (nI (el 1)), .int (nI (ei 1))], wI (cy 1) (eg 1) 10 (gc 1), wI (cy 1) (ef 1) 7 (xc 1), wO (ea 2) 2 [.ref (eg 2), .ref (ef 2), .int (et 2), .int (nI (el 2)), .int (nI (ei 2))], wI (cy 1) (eg 2) 10 (gc 2), wI (cy 1) (ef 2) 7 (xc 2), wO (ea 3) 2 [.ref (eg 3), .ref (ef 3), .int (et 3), .int (nI (el 3)), .int (nI (ei 3))], wI (cy 1) (eg 3) 10 (gc 3), wI (cy 1) (ef 3) 7 (xc 3)] → va_S A s.heap H locs → ∀ ls : Array Slot, lv_has ls 11 [(6, .int (nI i42)), (5, .int lx5_42), (4, .int lx4_42), (3, .ref (ea 1)), (0, .ref p0), (1, .int (nI rk)), (2, .int cg)] → W p l e (rmk 1 0 0) s m args below meth c H locs 0 0 Q (F0 m 21 ls []) := by
      try clear hP hD hS
      intro zn
      induction zn with
      | zero => intro lx4_42 lx5_42 i42 _ hz; exact absurd hz (by omega)
      | succ zn ih42 =>
        intro lx4_42 lx5_42 i42 hf0_42 hmu42 H locs hP hD hS ls hl
        refine lv_iload hx hb dX6_canBeYesBy_21 (lv_at hl 0 rfl) ?_
        refine lv_aload_n hx hb dX6_canBeYesBy_23 rfl (lv_at hl 4 rfl) ?_
        refine va_get (D := D) (ci := 6) (v := .ref s0) (C := RX6) (T := TX6) (N := 9) hx hb hg i_X6 hown hK hP 0 rfl rfl 7 (by decide) (hg _ m_592) (fun _ h9 => h9) rfl dX6_canBeYesBy_24 ?_
        refine va_get (D := D) (ci := 7) (v := .int (nI sl)) (C := RX7) (T := TX7) (N := 7) hx hb hg i_X7 hown hK hP 6 rfl rfl 2 (by decide) (hg _ m_630) (fun _ h9 => h9) rfl dX6_canBeYesBy_27 ?_
        refine lv_icmp_ge (tgt := 162) hx hb dX6_canBeYesBy_30 (by decide) (fun c_43 => ?_) (fun c_43 => ?_)
        · have q_44 : sl ≤ i42 := q_le (a := sl) (b := i42) rfl rfl (by omega) (by omega) c_43
          refine lv_iload hx hb dX6_canBeYesBy_162 (lv_at hl 2 rfl) ?_
          refine lv_aload_n hx hb dX6_canBeYesBy_164 rfl (lv_at hl 4 rfl) ?_
          refine va_get (D := D) (ci := 6) (v := .ref h0) (C := RX6) (T := TX6) (N := 9) hx hb hg i_X6 hown hK hP 0 rfl rfl 6 (by decide) (hg _ m_591) (fun _ h9 => h9) rfl dX6_canBeYesBy_165 ?_
          refine va_get (D := D) (ci := 4) (v := .int ys) (C := RX4) (T := TX4) (N := 16) hx hb hg i_X4 hown hK hP 3 rfl rfl 11 (by decide) (hg _ m_370) (fun _ h9 => h9) rfl dX6_canBeYesBy_168 ?_
          refine lv_iand hx hb dX6_canBeYesBy_171 ?_
          refine lv_topi (fun x_45 ex_45 => ?_)
          refine lv_if_eq (tgt := 179) hx hb dX6_canBeYesBy_172 (by decide) (fun c_172 => ?_) (fun c_172 => ?_)
          · refine lv_iconst (v := 0) hx hb dX6_canBeYesBy_179 (by decide) ?_
            exact x_zret hQ hx hb hr hlocks hK hP hD hS rfl dX6_canBeYesBy_180 () ((Or.inl rfl)) [0, 1, 2, 3, 4, 5, 6, 7, 8, 9, 10, 11, 12, 13, 14, 15, 16, 17, 18, 19, 20] (by decide +kernel) rfl (Nat.le_of_ble_eq_true rfl) (Nat.le_of_ble_eq_true rfl)
          · refine lv_iconst (v := 1) hx hb dX6_canBeYesBy_175 (by decide) ?_
            refine lv_goto (tgt := 180) hx hb dX6_canBeYesBy_176 (by decide) ?_
            exact x_zret hQ hx hb hr hlocks hK hP hD hS rfl dX6_canBeYesBy_180 () ((Or.inr rfl)) [0, 1, 2, 3, 4, 5, 6, 7, 8, 9, 10, 11, 12, 13, 14, 15, 16, 17, 18, 19, 20] (by decide +kernel) rfl (Nat.le_of_ble_eq_true rfl) (Nat.le_of_ble_eq_true rfl)
        · have q_44 : i42 < sl := q_nle (a := sl) (b := i42) rfl rfl (by omega) (by omega) c_43
          refine lv_aload_n hx hb dX6_canBeYesBy_33 rfl (lv_at hl 3 rfl) ?_
          refine lv_iload hx hb dX6_canBeYesBy_34 (lv_at hl 0 rfl) ?_
          refine x_callVi (q := (RX2, TX2, 5)) (ci := 2) (q0 := 0) (wr := [wO p0 6 [.ref p1, .ref er, .ref ro, .ref p2, .ref p3, .ref p4, .ref h0, .ref s0, .int (nI ch)], wI (cy 1) p3 4 (fne), wI (cy 1) p4 40 (fqi), wO h0 4 [.ref h1, .ref h2, .ref h3, .ref h4, .ref h5, .ref h6, .ref h7, .ref h8, .ref h9, .ref h10, .ref h11, .int ys, hv1, hv2, hv3, hv4], wI (cy 1) h1 4 (fc), wI (cy 1) h7 48 (fx), wO s0 7 [.ref s1, .ref s2, .int (nI sl), .int spl, .int svo, .int swi, .int sch], wI (cy 1) s1 10 (fw), (er, .inl (cy 4, 4, .inr (.inr (.inr (.inr (eF (ea 0) (ea 1) (ea 2) (ea 3))))))), wO (ea 0) 2 [.ref (eg 0), .ref (ef 0), .int (et 0), .int (nI (el 0)), .int (nI (ei 0))], wI (cy 1) (eg 0) 10 (gc 0), wI (cy 1) (ef 0) 7 (xc 0), wI (cy 1) (eg 1) 10 (gc 1), wI (cy 1) (ef 1) 7 (xc 1), wO (ea 2) 2 [.ref (eg 2), .ref (ef 2), .int (et 2), .int (nI (el 2)), .int (nI (ei 2))], wI (cy 1) (eg 2) 10 (gc 2), wI (cy 1) (ef 2) 7 (xc 2), wO (ea 3) 2 [.ref (eg 3), .ref (ef 3), .int (et 3), .int (nI (el 3)), .int (nI (ei 3))], wI (cy 1) (eg 3) 10 (gc 3), wI (cy 1) (ef 3) 7 (xc 3)]) (rest := []) ⟨hx, hb, hml, hown, hg, hl.1⟩ k_X6_94 (s_placeOf l D cy (ea 1) (eg 1) (ef 1) (et 1) ((el 1)) ((ei 1)) i42 (by omega) (by omega)) E0_blind hK hP hD hS hA [12] [0, 1, 2, 3, 4, 5, 6, 7, 8, 9, 10, 11, 13, 14, 15, 16, 17, 18, 19, 20] ⟨rfl, rfl, by decide +kernel, by decide +kernel, by decide +kernel⟩ rfl rfl (fun _ _ _ => trivial) dX6_canBeYesBy_36 rfl rfl (Nat.le_of_ble_eq_true rfl) ⟨Nat.le_of_ble_eq_true rfl, Nat.le_of_ble_eq_true rfl⟩ ⟨Nat.le_of_ble_eq_true rfl, Nat.le_of_ble_eq_true rfl⟩ (fun zr46 zu46 H locs hw46 hP9 hD9 hS9 => ?_)
          clear hP hD hS
          obtain ⟨k_47, rfl⟩ : ∃ z, z = zu46 := ⟨_, rfl⟩
          refine reW [wO p0 6 [.ref p1, .ref er, .ref ro, .ref p2, .ref p3, .ref p4, .ref h0, .ref s0, .int (nI ch)], wI (cy 1) p3 4 (fne), wI (cy 1) p4 40 (fqi), wO h0 4 [.ref h1, .ref h2, .ref h3, .ref h4, .ref h5, .ref h6, .ref h7, .ref h8, .ref h9, .ref h10, .ref h11, .int ys, hv1, hv2, hv3, hv4], wI (cy 1) h1 4 (fc), wI (cy 1) h7 48 (fx), wO s0 7 [.ref s1, .ref s2, .int (nI sl), .int spl, .int svo, .int swi, .int sch], wI (cy 1) s1 10 (fw), (er, .inl (cy 4, 4, .inr (.inr (.inr (.inr (eF (ea 0) (ea 1) (ea 2) (ea 3))))))), wO (ea 0) 2 [.ref (eg 0), .ref (ef 0), .int (et 0), .int (nI (el 0)), .int (nI (ei 0))], wI (cy 1) (eg 0) 10 (gc 0), wI (cy 1) (ef 0) 7 (xc 0), wI (cy 1) (eg 1) 10 (gc 1), wI (cy 1) (ef 1) 7 (xc 1), wO (ea 2) 2 [.ref (eg 2), .ref (ef 2), .int (et 2), .int (nI (el 2)), .int (nI (ei 2))], wI (cy 1) (eg 2) 10 (gc 2), wI (cy 1) (ef 2) 7 (xc 2), wO (ea 3) 2 [.ref (eg 3), .ref (ef 3), .int (et 3), .int (nI (el 3)), .int (nI (ei 3))], wI (cy 1) (eg 3) 10 (gc 3), wI (cy 1) (ef 3) 7 (xc 3), wO (ea 1) 2 [.ref (eg 1), .ref (ef 1), .int (et 1), .int (nI ((el 1))), .int (nI ((ei 1)))]] hP9 hD9 hS9 (fun hP hD hS => ?_)
          clear hP9 hD9 hS9
          refine W.widen (k := 0) (n := 0) (Nat.le_of_ble_eq_true rfl) (Nat.le_of_ble_eq_true rfl) ?_
          replace hw46 : (zr46 = nI k_47) ∧ (k_47 < ((el 1))) := hw46
          obtain ⟨f_48, f_49⟩ := hw46
          subst f_48
          refine lv_istore (lv' := [(7, .int (nI k_47)), (6, .int (nI i42)), (5, .int lx5_42), (4, .int lx4_42), (3, .ref (ea 1)), (0, .ref p0), (1, .int (nI rk)), (2, .int cg)]) hx hb dX6_canBeYesBy_39 hl (by decide) rfl (fun ls hl => ?_)
          refine lv_aload_n hx hb dX6_canBeYesBy_41 rfl (lv_at hl 5 rfl) ?_
          refine lv_iload hx hb dX6_canBeYesBy_42 (lv_at hl 0 rfl) ?_
          refine lv_iload_n hx hb dX6_canBeYesBy_44 rfl (lv_at hl 7 rfl) ?_
          refine x_callVi (q := (RX6, TX6, 9)) (ci := 6) (q0 := 0) (wr := [wI (cy 1) p3 4 (fne), wI (cy 1) p4 40 (fqi), wI (cy 1) h7 48 (fx), (er, .inl (cy 4, 4, .inr (.inr (.inr (.inr (eF (ea 0) (ea 1) (ea 2) (ea 3))))))), wO (ea 0) 2 [.ref (eg 0), .ref (ef 0), .int (et 0), .int (nI (el 0)), .int (nI (ei 0))], wI (cy 1) (eg 0) 10 (gc 0), wI (cy 1) (ef 0) 7 (xc 0), wI (cy 1) (eg 1) 10 (gc 1), wI (cy 1) (ef 1) 7 (xc 1), wO (ea 2) 2 [.ref (eg 2), .ref (ef 2), .int (et 2), .int (nI (el 2)), .int (nI (ei 2))], wI (cy 1) (eg 2) 10 (gc 2), wI (cy 1) (ef 2) 7 (xc 2), wO (ea 3) 2 [.ref (eg 3), .ref (ef 3), .int (et 3), .int (nI (el 3)), .int (nI (ei 3))], wI (cy 1) (eg 3) 10 (gc 3), wI (cy 1) (ef 3) 7 (xc 3), wO (ea 1) 2 [.ref (eg 1), .ref (ef 1), .int (et 1), .int (nI ((el 1))), .int (nI ((ei 1)))]]) (rest := []) ⟨hx, hb, hml, hown, hg, hl.1⟩ k_X6_98 (s_choices l D cy p0 p1 p2 p3 p4 er ro ch h0 h1 h2 h3 h4 h5 h6 h7 h8 h9 h10 h11 ((.int ys)) hv1 hv2 hv3 hv4 fc c0 c1 c2 c3 s0 s1 s2 sl spl svo swi sch fw k_47 cg (hcn) (by omega) (by omega) (by omega) (by omega) (hsw) (by omega)) E0_blind hK hP hD hS hA [0, 3, 4, 6, 7] [1, 2, 5, 8, 9, 10, 11, 12, 13, 14, 15, 16, 17, 18, 19, 20] ⟨rfl, rfl, by decide +kernel, by decide +kernel, by decide +kernel⟩ rfl rfl (fun _ _ _ => trivial) dX6_canBeYesBy_45 rfl rfl (Nat.le_of_ble_eq_true rfl) ⟨Nat.le_of_ble_eq_true rfl, Nat.le_of_ble_eq_true rfl⟩ ⟨Nat.le_of_ble_eq_true rfl, Nat.le_of_ble_eq_true rfl⟩ (fun zr50 zu50 H locs hw50 hP9 hD9 hS9 => ?_)
          clear hP hD hS
          refine reW [wI (cy 1) p3 4 (fne), wI (cy 1) p4 40 (fqi), wI (cy 1) h7 48 (fx), (er, .inl (cy 4, 4, .inr (.inr (.inr (.inr (eF (ea 0) (ea 1) (ea 2) (ea 3))))))), wO (ea 0) 2 [.ref (eg 0), .ref (ef 0), .int (et 0), .int (nI (el 0)), .int (nI (ei 0))], wI (cy 1) (eg 0) 10 (gc 0), wI (cy 1) (ef 0) 7 (xc 0), wI (cy 1) (eg 1) 10 (gc 1), wI (cy 1) (ef 1) 7 (xc 1), wO (ea 2) 2 [.ref (eg 2), .ref (ef 2), .int (et 2), .int (nI (el 2)), .int (nI (ei 2))], wI (cy 1) (eg 2) 10 (gc 2), wI (cy 1) (ef 2) 7 (xc 2), wO (ea 3) 2 [.ref (eg 3), .ref (ef 3), .int (et 3), .int (nI (el 3)), .int (nI (ei 3))], wI (cy 1) (eg 3) 10 (gc 3), wI (cy 1) (ef 3) 7 (xc 3), wO (ea 1) 2 [.ref (eg 1), .ref (ef 1), .int (et 1), .int (nI ((el 1))), .int (nI ((ei 1)))], wO p0 6 [.ref p1, .ref er, .ref ro, .ref p2, .ref p3, .ref p4, .ref h0, .ref s0, .int (nI ch)], wO h0 4 [.ref h1, .ref h2, .ref h3, .ref h4, .ref h5, .ref h6, .ref h7, .ref h8, .ref h9, .ref h10, .ref h11, .int ys, hv1, hv2, hv3, hv4], wI (cy 1) h1 4 (fc), wO s0 7 [.ref s1, .ref s2, .int (nI sl), .int spl, .int svo, .int swi, .int sch], wI (cy 1) s1 10 (fw)] hP9 hD9 hS9 (fun hP hD hS => ?_)
          clear hP9 hD9 hS9
          refine W.widen (k := 0) (n := 0) (Nat.le_of_ble_eq_true rfl) (Nat.le_of_ble_eq_true rfl) ?_
          replace hw50 : True := hw50
          refine lv_aload_n hx hb dX6_canBeYesBy_48 rfl (lv_at hl 5 rfl) ?_
          refine va_get (D := D) (ci := 6) (v := .ref p4) (C := RX6) (T := TX6) (N := 9) hx hb hg i_X6 hown hK hP 16 rfl rfl 5 (by decide) (hg _ m_590) (fun _ h9 => h9) rfl dX6_canBeYesBy_49 ?_
          refine lv_iload_n hx hb dX6_canBeYesBy_52 rfl (lv_at hl 6 rfl) ?_
          refine lv_bipush (v := 10) hx hb dX6_canBeYesBy_53 (by decide) ?_
          refine lv_imul hx hb dX6_canBeYesBy_55 ?_
          refine lv_topi (fun y_51 hy_51 => ?_)
          obtain rfl : y_51 = nI (rk * 10) := hy_51.trans (pk_mul rk 10)
          refine lv_iload hx hb dX6_canBeYesBy_56 (lv_at hl 0 rfl) ?_
          refine lv_iadd hx hb dX6_canBeYesBy_58 ?_
          refine lv_topi (fun y_52 hy_52 => ?_)
          obtain rfl : y_52 = nI ((rk * 10) + k_47) := hy_52.trans (nI_add ((rk * 10)) k_47)
          refine va_iald hx hb hK hP 1 1 rfl rfl (vp_in_nI (by omega) (by decide)) dX6_canBeYesBy_59 ?_
          refine lv_topi (fun x_53 ex_53 => ?_)
          refine lv_iand hx hb dX6_canBeYesBy_60 ?_
          refine lv_topi (fun x_54 ex_54 => ?_)
          refine lv_istore (lv' := [(8, .int x_54), (7, .int (nI k_47)), (6, .int (nI i42)), (5, .int lx5_42), (4, .int lx4_42), (3, .ref (ea 1)), (0, .ref p0), (1, .int (nI rk)), (2, .int cg)]) hx hb dX6_canBeYesBy_61 hl (by decide) rfl (fun ls hl => ?_)
          refine lv_iload hx hb dX6_canBeYesBy_63 (lv_at hl 0 rfl) ?_
          refine lv_if_ne (tgt := 70) hx hb dX6_canBeYesBy_65 (by decide) (fun c_65 => ?_) (fun c_65 => ?_)
          · refine lv_iload hx hb dX6_canBeYesBy_70 (lv_at hl 0 rfl) ?_
            refine lv_aload_n hx hb dX6_canBeYesBy_72 rfl (lv_at hl 5 rfl) ?_
            refine va_get (D := D) (ci := 2) (v := .ref (eg 1)) (C := RX2) (T := TX2) (N := 5) hx hb hg i_X2 hown hK hP 15 rfl rfl 0 (by decide) (hg _ m_513) (fun _ h9 => h9) rfl dX6_canBeYesBy_73 ?_
            refine lv_iload hx hb dX6_canBeYesBy_76 (lv_at hl 1 rfl) ?_
            refine va_iald hx hb hK hP 7 1 rfl rfl (vp_in_nI (by omega) (by decide)) dX6_canBeYesBy_78 ?_
            refine lv_topi (fun x_55 ex_55 => ?_)
            refine lv_iand hx hb dX6_canBeYesBy_79 ?_
            refine lv_topi (fun x_56 ex_56 => ?_)
            refine lv_if_eq (tgt := 87) hx hb dX6_canBeYesBy_80 (by decide) (fun c_80 => ?_) (fun c_80 => ?_)
            · refine lv_iconst (v := 0) hx hb dX6_canBeYesBy_87 (by decide) ?_
              refine lv_istore (lv' := [(9, .int 0), (8, .int x_54), (7, .int (nI k_47)), (6, .int (nI i42)), (5, .int lx5_42), (4, .int lx4_42), (3, .ref (ea 1)), (0, .ref p0), (1, .int (nI rk)), (2, .int cg)]) hx hb dX6_canBeYesBy_88 hl (by decide) rfl (fun ls hl => ?_)
              refine lv_aload_n hx hb dX6_canBeYesBy_90 rfl (lv_at hl 7 rfl) ?_
              refine lv_iload hx hb dX6_canBeYesBy_91 (lv_at hl 4 rfl) ?_
              refine lv_if_eq (tgt := 103) hx hb dX6_canBeYesBy_93 (by decide) (fun c_93 => ?_) (fun c_93 => ?_)
              · refine lv_iload hx hb dX6_canBeYesBy_103 (lv_at hl 5 rfl) ?_
                refine lv_iload hx hb dX6_canBeYesBy_105 (lv_at hl 1 rfl) ?_
                refine lv_aload_n hx hb dX6_canBeYesBy_107 rfl (lv_at hl 6 rfl) ?_
                refine va_get (D := D) (ci := 2) (v := .ref (eg 1)) (C := RX2) (T := TX2) (N := 5) hx hb hg i_X2 hown hK hP 15 rfl rfl 0 (by decide) (hg _ m_513) (fun _ h9 => h9) rfl dX6_canBeYesBy_108 ?_
                refine lv_iload hx hb dX6_canBeYesBy_111 (lv_at hl 2 rfl) ?_
                refine va_iald hx hb hK hP 7 1 rfl rfl (vp_in_nI (by omega) (by decide)) dX6_canBeYesBy_113 ?_
                refine lv_topi (fun x_57 ex_57 => ?_)
                refine lv_iconst (v := -1) hx hb dX6_canBeYesBy_114 (by decide) ?_
                refine lv_ixor hx hb dX6_canBeYesBy_115 ?_
                refine lv_topi (fun x_58 ex_58 => ?_)
                refine lv_iand hx hb dX6_canBeYesBy_116 ?_
                refine lv_topi (fun x_59 ex_59 => ?_)
                refine x_callVi (q := (RX6, TX6, 9)) (ci := 6) (q0 := 0) (wr := [wI (cy 1) p3 4 (fne), wI (cy 1) p4 40 (fqi), (er, .inl (cy 4, 4, .inr (.inr (.inr (.inr (eF (ea 0) (ea 1) (ea 2) (ea 3))))))), wO (ea 0) 2 [.ref (eg 0), .ref (ef 0), .int (et 0), .int (nI (el 0)), .int (nI (ei 0))], wI (cy 1) (eg 0) 10 (gc 0), wI (cy 1) (ef 0) 7 (xc 0), wI (cy 1) (eg 1) 10 (gc 1), wI (cy 1) (ef 1) 7 (xc 1), wO (ea 2) 2 [.ref (eg 2), .ref (ef 2), .int (et 2), .int (nI (el 2)), .int (nI (ei 2))], wI (cy 1) (eg 2) 10 (gc 2), wI (cy 1) (ef 2) 7 (xc 2), wO (ea 3) 2 [.ref (eg 3), .ref (ef 3), .int (et 3), .int (nI (el 3)), .int (nI (ei 3))], wI (cy 1) (eg 3) 10 (gc 3), wI (cy 1) (ef 3) 7 (xc 3), wO (ea 1) 2 [.ref (eg 1), .ref (ef 1), .int (et 1), .int (nI ((el 1))), .int (nI ((ei 1)))], wO s0 7 [.ref s1, .ref s2, .int (nI sl), .int spl, .int svo, .int swi, .int sch], wI (cy 1) s1 10 (fw)]) (rest := []) ⟨hx, hb, hml, hown, hg, hl.1⟩ k_X6_101 (s_led l D cy p0 p1 p2 p3 p4 er ro ch s0 h0 h1 h2 h3 h4 h5 h6 h7 h8 h9 h10 h11 ((.int ys)) hv1 hv2 hv3 hv4 fc c0 c1 c2 c3 fx lx4_42 x_59 (hcn) (by omega) (by omega) (by omega) (by omega) (hnx)) E0_blind hK hP hD hS hA [16, 17, 18, 2] [0, 1, 3, 4, 5, 6, 7, 8, 9, 10, 11, 12, 13, 14, 15, 19, 20] ⟨rfl, rfl, by decide +kernel, by decide +kernel, by decide +kernel⟩ rfl rfl (fun _ _ _ => trivial) dX6_canBeYesBy_117 rfl rfl (Nat.le_of_ble_eq_true rfl) ⟨Nat.le_of_ble_eq_true rfl, Nat.le_of_ble_eq_true rfl⟩ ⟨Nat.le_of_ble_eq_true rfl, Nat.le_of_ble_eq_true rfl⟩ (fun zr60 zu60 H locs hw60 hP9 hD9 hS9 => ?_)
                clear hP hD hS
                refine reW [wI (cy 1) p3 4 (fne), wI (cy 1) p4 40 (fqi), (er, .inl (cy 4, 4, .inr (.inr (.inr (.inr (eF (ea 0) (ea 1) (ea 2) (ea 3))))))), wO (ea 0) 2 [.ref (eg 0), .ref (ef 0), .int (et 0), .int (nI (el 0)), .int (nI (ei 0))], wI (cy 1) (eg 0) 10 (gc 0), wI (cy 1) (ef 0) 7 (xc 0), wI (cy 1) (eg 1) 10 (gc 1), wI (cy 1) (ef 1) 7 (xc 1), wO (ea 2) 2 [.ref (eg 2), .ref (ef 2), .int (et 2), .int (nI (el 2)), .int (nI (ei 2))], wI (cy 1) (eg 2) 10 (gc 2), wI (cy 1) (ef 2) 7 (xc 2), wO (ea 3) 2 [.ref (eg 3), .ref (ef 3), .int (et 3), .int (nI (el 3)), .int (nI (ei 3))], wI (cy 1) (eg 3) 10 (gc 3), wI (cy 1) (ef 3) 7 (xc 3), wO (ea 1) 2 [.ref (eg 1), .ref (ef 1), .int (et 1), .int (nI ((el 1))), .int (nI ((ei 1)))], wO s0 7 [.ref s1, .ref s2, .int (nI sl), .int spl, .int svo, .int swi, .int sch], wI (cy 1) s1 10 (fw), wO p0 6 [.ref p1, .ref er, .ref ro, .ref p2, .ref p3, .ref p4, .ref h0, .ref s0, .int (nI ch)], wO h0 4 [.ref h1, .ref h2, .ref h3, .ref h4, .ref h5, .ref h6, .ref h7, .ref h8, .ref h9, .ref h10, .ref h11, .int ys, hv1, hv2, hv3, hv4], wI (cy 1) h1 4 (fc), wI (cy 1) h7 48 (fx)] hP9 hD9 hS9 (fun hP hD hS => ?_)
                clear hP9 hD9 hS9
                refine W.widen (k := 0) (n := 0) (Nat.le_of_ble_eq_true rfl) (Nat.le_of_ble_eq_true rfl) ?_
                replace hw60 : True := hw60
                refine lv_istore (lv' := [(10, .int zr60), (9, .int 0), (8, .int x_54), (7, .int (nI k_47)), (6, .int (nI i42)), (5, .int lx5_42), (4, .int lx4_42), (3, .ref (ea 1)), (0, .ref p0), (1, .int (nI rk)), (2, .int cg)]) hx hb dX6_canBeYesBy_120 hl (by decide) rfl (fun ls hl => ?_)
                refine lv_iload hx hb dX6_canBeYesBy_122 (lv_at hl 1 rfl) ?_
                refine lv_if_eq (tgt := 135) hx hb dX6_canBeYesBy_124 (by decide) (fun _ => ?_) (fun h => absurd (by decide) h)
                refine lv_iload hx hb dX6_canBeYesBy_135 (lv_at hl 0 rfl) ?_
                refine lv_istore (lv' := [(4, .int zr60), (10, .int zr60), (9, .int 0), (8, .int x_54), (7, .int (nI k_47)), (6, .int (nI i42)), (5, .int lx5_42), (3, .ref (ea 1)), (0, .ref p0), (1, .int (nI rk)), (2, .int cg)]) hx hb dX6_canBeYesBy_137 hl (by decide) rfl (fun ls hl => ?_)
                refine lv_iload hx hb dX6_canBeYesBy_139 (lv_at hl 6 rfl) ?_
                refine lv_if_eq (tgt := 153) hx hb dX6_canBeYesBy_141 (by decide) (fun _ => ?_) (fun h => absurd c_93 h)
                refine lv_iconst (v := 0) hx hb dX6_canBeYesBy_153 (by decide) ?_
                refine lv_istore (lv' := [(5, .int 0), (4, .int zr60), (10, .int zr60), (9, .int 0), (8, .int x_54), (7, .int (nI k_47)), (6, .int (nI i42)), (3, .ref (ea 1)), (0, .ref p0), (1, .int (nI rk)), (2, .int cg)]) hx hb dX6_canBeYesBy_154 hl (by decide) rfl (fun ls hl => ?_)
                refine lv_iinc (v := nI (i42 + 1)) (lv' := [(6, .int (nI (i42 + 1))), (5, .int 0), (4, .int zr60), (10, .int zr60), (9, .int 0), (8, .int x_54), (7, .int (nI k_47)), (3, .ref (ea 1)), (0, .ref p0), (1, .int (nI rk)), (2, .int cg)]) hx hb dX6_canBeYesBy_156 hl (k := 6) rfl (nI_add i42 1) (by decide) rfl (fun ls hl => ?_)
                refine lv_goto (tgt := 21) hx hb dX6_canBeYesBy_159 (by decide) ?_
                exact ih42  zr60 0 ((i42 + 1)) (by omega) (by omega) _ _ (hP.sub [17, 0, 1, 18, 19, 20, 15, 16, 2, 3, 4, 5, 14, 6, 7, 8, 9, 10, 11, 12, 13] rfl) (hD.sub [17, 0, 1, 18, 19, 20, 15, 16, 2, 3, 4, 5, 14, 6, 7, 8, 9, 10, 11, 12, 13] (by decide +kernel) rfl) hS ls (lv_sub hl [0, 1, 2, 7, 8, 9, 10] rfl)
              · refine lv_iload hx hb dX6_canBeYesBy_96 (lv_at hl 5 rfl) ?_
                refine lv_iconst (v := 1) hx hb dX6_canBeYesBy_98 (by decide) ?_
                refine lv_ior hx hb dX6_canBeYesBy_99 ?_
                refine lv_topi (fun x_61 ex_61 => ?_)
                refine lv_goto (tgt := 105) hx hb dX6_canBeYesBy_100 (by decide) ?_
                refine lv_iload hx hb dX6_canBeYesBy_105 (lv_at hl 1 rfl) ?_
                refine lv_aload_n hx hb dX6_canBeYesBy_107 rfl (lv_at hl 6 rfl) ?_
                refine va_get (D := D) (ci := 2) (v := .ref (eg 1)) (C := RX2) (T := TX2) (N := 5) hx hb hg i_X2 hown hK hP 15 rfl rfl 0 (by decide) (hg _ m_513) (fun _ h9 => h9) rfl dX6_canBeYesBy_108 ?_
                refine lv_iload hx hb dX6_canBeYesBy_111 (lv_at hl 2 rfl) ?_
                refine va_iald hx hb hK hP 7 1 rfl rfl (vp_in_nI (by omega) (by decide)) dX6_canBeYesBy_113 ?_
                refine lv_topi (fun x_62 ex_62 => ?_)
                refine lv_iconst (v := -1) hx hb dX6_canBeYesBy_114 (by decide) ?_
                refine lv_ixor hx hb dX6_canBeYesBy_115 ?_
                refine lv_topi (fun x_63 ex_63 => ?_)
                refine lv_iand hx hb dX6_canBeYesBy_116 ?_
                refine lv_topi (fun x_64 ex_64 => ?_)
                refine x_callVi (q := (RX6, TX6, 9)) (ci := 6) (q0 := 0) (wr := [wI (cy 1) p3 4 (fne), wI (cy 1) p4 40 (fqi), (er, .inl (cy 4, 4, .inr (.inr (.inr (.inr (eF (ea 0) (ea 1) (ea 2) (ea 3))))))), wO (ea 0) 2 [.ref (eg 0), .ref (ef 0), .int (et 0), .int (nI (el 0)), .int (nI (ei 0))], wI (cy 1) (eg 0) 10 (gc 0), wI (cy 1) (ef 0) 7 (xc 0), wI (cy 1) (eg 1) 10 (gc 1), wI (cy 1) (ef 1) 7 (xc 1), wO (ea 2) 2 [.ref (eg 2), .ref (ef 2), .int (et 2), .int (nI (el 2)), .int (nI (ei 2))], wI (cy 1) (eg 2) 10 (gc 2), wI (cy 1) (ef 2) 7 (xc 2), wO (ea 3) 2 [.ref (eg 3), .ref (ef 3), .int (et 3), .int (nI (el 3)), .int (nI (ei 3))], wI (cy 1) (eg 3) 10 (gc 3), wI (cy 1) (ef 3) 7 (xc 3), wO (ea 1) 2 [.ref (eg 1), .ref (ef 1), .int (et 1), .int (nI ((el 1))), .int (nI ((ei 1)))], wO s0 7 [.ref s1, .ref s2, .int (nI sl), .int spl, .int svo, .int swi, .int sch], wI (cy 1) s1 10 (fw)]) (rest := []) ⟨hx, hb, hml, hown, hg, hl.1⟩ k_X6_101 (s_led l D cy p0 p1 p2 p3 p4 er ro ch s0 h0 h1 h2 h3 h4 h5 h6 h7 h8 h9 h10 h11 ((.int ys)) hv1 hv2 hv3 hv4 fc c0 c1 c2 c3 fx x_61 x_64 (hcn) (by omega) (by omega) (by omega) (by omega) (hnx)) E0_blind hK hP hD hS hA [16, 17, 18, 2] [0, 1, 3, 4, 5, 6, 7, 8, 9, 10, 11, 12, 13, 14, 15, 19, 20] ⟨rfl, rfl, by decide +kernel, by decide +kernel, by decide +kernel⟩ rfl rfl (fun _ _ _ => trivial) dX6_canBeYesBy_117 rfl rfl (Nat.le_of_ble_eq_true rfl) ⟨Nat.le_of_ble_eq_true rfl, Nat.le_of_ble_eq_true rfl⟩ ⟨Nat.le_of_ble_eq_true rfl, Nat.le_of_ble_eq_true rfl⟩ (fun zr65 zu65 H locs hw65 hP9 hD9 hS9 => ?_)
                clear hP hD hS
                refine reW [wI (cy 1) p3 4 (fne), wI (cy 1) p4 40 (fqi), (er, .inl (cy 4, 4, .inr (.inr (.inr (.inr (eF (ea 0) (ea 1) (ea 2) (ea 3))))))), wO (ea 0) 2 [.ref (eg 0), .ref (ef 0), .int (et 0), .int (nI (el 0)), .int (nI (ei 0))], wI (cy 1) (eg 0) 10 (gc 0), wI (cy 1) (ef 0) 7 (xc 0), wI (cy 1) (eg 1) 10 (gc 1), wI (cy 1) (ef 1) 7 (xc 1), wO (ea 2) 2 [.ref (eg 2), .ref (ef 2), .int (et 2), .int (nI (el 2)), .int (nI (ei 2))], wI (cy 1) (eg 2) 10 (gc 2), wI (cy 1) (ef 2) 7 (xc 2), wO (ea 3) 2 [.ref (eg 3), .ref (ef 3), .int (et 3), .int (nI (el 3)), .int (nI (ei 3))], wI (cy 1) (eg 3) 10 (gc 3), wI (cy 1) (ef 3) 7 (xc 3), wO (ea 1) 2 [.ref (eg 1), .ref (ef 1), .int (et 1), .int (nI ((el 1))), .int (nI ((ei 1)))], wO s0 7 [.ref s1, .ref s2, .int (nI sl), .int spl, .int svo, .int swi, .int sch], wI (cy 1) s1 10 (fw), wO p0 6 [.ref p1, .ref er, .ref ro, .ref p2, .ref p3, .ref p4, .ref h0, .ref s0, .int (nI ch)], wO h0 4 [.ref h1, .ref h2, .ref h3, .ref h4, .ref h5, .ref h6, .ref h7, .ref h8, .ref h9, .ref h10, .ref h11, .int ys, hv1, hv2, hv3, hv4], wI (cy 1) h1 4 (fc), wI (cy 1) h7 48 (fx)] hP9 hD9 hS9 (fun hP hD hS => ?_)
                clear hP9 hD9 hS9
                refine W.widen (k := 0) (n := 0) (Nat.le_of_ble_eq_true rfl) (Nat.le_of_ble_eq_true rfl) ?_
                replace hw65 : True := hw65
                refine lv_istore (lv' := [(10, .int zr65), (9, .int 0), (8, .int x_54), (7, .int (nI k_47)), (6, .int (nI i42)), (5, .int lx5_42), (4, .int lx4_42), (3, .ref (ea 1)), (0, .ref p0), (1, .int (nI rk)), (2, .int cg)]) hx hb dX6_canBeYesBy_120 hl (by decide) rfl (fun ls hl => ?_)
                refine lv_iload hx hb dX6_canBeYesBy_122 (lv_at hl 1 rfl) ?_
                refine lv_if_eq (tgt := 135) hx hb dX6_canBeYesBy_124 (by decide) (fun _ => ?_) (fun h => absurd (by decide) h)
                refine lv_iload hx hb dX6_canBeYesBy_135 (lv_at hl 0 rfl) ?_
                refine lv_istore (lv' := [(4, .int zr65), (10, .int zr65), (9, .int 0), (8, .int x_54), (7, .int (nI k_47)), (6, .int (nI i42)), (5, .int lx5_42), (3, .ref (ea 1)), (0, .ref p0), (1, .int (nI rk)), (2, .int cg)]) hx hb dX6_canBeYesBy_137 hl (by decide) rfl (fun ls hl => ?_)
                refine lv_iload hx hb dX6_canBeYesBy_139 (lv_at hl 6 rfl) ?_
                refine lv_if_eq (tgt := 153) hx hb dX6_canBeYesBy_141 (by decide) (fun h => absurd h c_93) (fun _ => ?_)
                refine lv_iload hx hb dX6_canBeYesBy_144 (lv_at hl 2 rfl) ?_
                refine lv_if_eq (tgt := 153) hx hb dX6_canBeYesBy_146 (by decide) (fun _ => ?_) (fun h => absurd (by decide) h)
                refine lv_iconst (v := 0) hx hb dX6_canBeYesBy_153 (by decide) ?_
                refine lv_istore (lv' := [(5, .int 0), (4, .int zr65), (10, .int zr65), (9, .int 0), (8, .int x_54), (7, .int (nI k_47)), (6, .int (nI i42)), (3, .ref (ea 1)), (0, .ref p0), (1, .int (nI rk)), (2, .int cg)]) hx hb dX6_canBeYesBy_154 hl (by decide) rfl (fun ls hl => ?_)
                refine lv_iinc (v := nI (i42 + 1)) (lv' := [(6, .int (nI (i42 + 1))), (5, .int 0), (4, .int zr65), (10, .int zr65), (9, .int 0), (8, .int x_54), (7, .int (nI k_47)), (3, .ref (ea 1)), (0, .ref p0), (1, .int (nI rk)), (2, .int cg)]) hx hb dX6_canBeYesBy_156 hl (k := 6) rfl (nI_add i42 1) (by decide) rfl (fun ls hl => ?_)
                refine lv_goto (tgt := 21) hx hb dX6_canBeYesBy_159 (by decide) ?_
                exact ih42  zr65 0 ((i42 + 1)) (by omega) (by omega) _ _ (hP.sub [17, 0, 1, 18, 19, 20, 15, 16, 2, 3, 4, 5, 14, 6, 7, 8, 9, 10, 11, 12, 13] rfl) (hD.sub [17, 0, 1, 18, 19, 20, 15, 16, 2, 3, 4, 5, 14, 6, 7, 8, 9, 10, 11, 12, 13] (by decide +kernel) rfl) hS ls (lv_sub hl [0, 1, 2, 7, 8, 9, 10] rfl)
            · refine lv_iconst (v := 1) hx hb dX6_canBeYesBy_83 (by decide) ?_
              refine lv_goto (tgt := 88) hx hb dX6_canBeYesBy_84 (by decide) ?_
              refine lv_istore (lv' := [(9, .int 1), (8, .int x_54), (7, .int (nI k_47)), (6, .int (nI i42)), (5, .int lx5_42), (4, .int lx4_42), (3, .ref (ea 1)), (0, .ref p0), (1, .int (nI rk)), (2, .int cg)]) hx hb dX6_canBeYesBy_88 hl (by decide) rfl (fun ls hl => ?_)
              refine lv_aload_n hx hb dX6_canBeYesBy_90 rfl (lv_at hl 7 rfl) ?_
              refine lv_iload hx hb dX6_canBeYesBy_91 (lv_at hl 4 rfl) ?_
              refine lv_if_eq (tgt := 103) hx hb dX6_canBeYesBy_93 (by decide) (fun c_93 => ?_) (fun c_93 => ?_)
              · refine lv_iload hx hb dX6_canBeYesBy_103 (lv_at hl 5 rfl) ?_
                refine lv_iload hx hb dX6_canBeYesBy_105 (lv_at hl 1 rfl) ?_
                refine lv_aload_n hx hb dX6_canBeYesBy_107 rfl (lv_at hl 6 rfl) ?_
                refine va_get (D := D) (ci := 2) (v := .ref (eg 1)) (C := RX2) (T := TX2) (N := 5) hx hb hg i_X2 hown hK hP 15 rfl rfl 0 (by decide) (hg _ m_513) (fun _ h9 => h9) rfl dX6_canBeYesBy_108 ?_
                refine lv_iload hx hb dX6_canBeYesBy_111 (lv_at hl 2 rfl) ?_
                refine va_iald hx hb hK hP 7 1 rfl rfl (vp_in_nI (by omega) (by decide)) dX6_canBeYesBy_113 ?_
                refine lv_topi (fun x_66 ex_66 => ?_)
                refine lv_iconst (v := -1) hx hb dX6_canBeYesBy_114 (by decide) ?_
                refine lv_ixor hx hb dX6_canBeYesBy_115 ?_
                refine lv_topi (fun x_67 ex_67 => ?_)
                refine lv_iand hx hb dX6_canBeYesBy_116 ?_
                refine lv_topi (fun x_68 ex_68 => ?_)
                refine x_callVi (q := (RX6, TX6, 9)) (ci := 6) (q0 := 0) (wr := [wI (cy 1) p3 4 (fne), wI (cy 1) p4 40 (fqi), (er, .inl (cy 4, 4, .inr (.inr (.inr (.inr (eF (ea 0) (ea 1) (ea 2) (ea 3))))))), wO (ea 0) 2 [.ref (eg 0), .ref (ef 0), .int (et 0), .int (nI (el 0)), .int (nI (ei 0))], wI (cy 1) (eg 0) 10 (gc 0), wI (cy 1) (ef 0) 7 (xc 0), wI (cy 1) (eg 1) 10 (gc 1), wI (cy 1) (ef 1) 7 (xc 1), wO (ea 2) 2 [.ref (eg 2), .ref (ef 2), .int (et 2), .int (nI (el 2)), .int (nI (ei 2))], wI (cy 1) (eg 2) 10 (gc 2), wI (cy 1) (ef 2) 7 (xc 2), wO (ea 3) 2 [.ref (eg 3), .ref (ef 3), .int (et 3), .int (nI (el 3)), .int (nI (ei 3))], wI (cy 1) (eg 3) 10 (gc 3), wI (cy 1) (ef 3) 7 (xc 3), wO (ea 1) 2 [.ref (eg 1), .ref (ef 1), .int (et 1), .int (nI ((el 1))), .int (nI ((ei 1)))], wO s0 7 [.ref s1, .ref s2, .int (nI sl), .int spl, .int svo, .int swi, .int sch], wI (cy 1) s1 10 (fw)]) (rest := []) ⟨hx, hb, hml, hown, hg, hl.1⟩ k_X6_101 (s_led l D cy p0 p1 p2 p3 p4 er ro ch s0 h0 h1 h2 h3 h4 h5 h6 h7 h8 h9 h10 h11 ((.int ys)) hv1 hv2 hv3 hv4 fc c0 c1 c2 c3 fx lx4_42 x_68 (hcn) (by omega) (by omega) (by omega) (by omega) (hnx)) E0_blind hK hP hD hS hA [16, 17, 18, 2] [0, 1, 3, 4, 5, 6, 7, 8, 9, 10, 11, 12, 13, 14, 15, 19, 20] ⟨rfl, rfl, by decide +kernel, by decide +kernel, by decide +kernel⟩ rfl rfl (fun _ _ _ => trivial) dX6_canBeYesBy_117 rfl rfl (Nat.le_of_ble_eq_true rfl) ⟨Nat.le_of_ble_eq_true rfl, Nat.le_of_ble_eq_true rfl⟩ ⟨Nat.le_of_ble_eq_true rfl, Nat.le_of_ble_eq_true rfl⟩ (fun zr69 zu69 H locs hw69 hP9 hD9 hS9 => ?_)
                clear hP hD hS
                refine reW [wI (cy 1) p3 4 (fne), wI (cy 1) p4 40 (fqi), (er, .inl (cy 4, 4, .inr (.inr (.inr (.inr (eF (ea 0) (ea 1) (ea 2) (ea 3))))))), wO (ea 0) 2 [.ref (eg 0), .ref (ef 0), .int (et 0), .int (nI (el 0)), .int (nI (ei 0))], wI (cy 1) (eg 0) 10 (gc 0), wI (cy 1) (ef 0) 7 (xc 0), wI (cy 1) (eg 1) 10 (gc 1), wI (cy 1) (ef 1) 7 (xc 1), wO (ea 2) 2 [.ref (eg 2), .ref (ef 2), .int (et 2), .int (nI (el 2)), .int (nI (ei 2))], wI (cy 1) (eg 2) 10 (gc 2), wI (cy 1) (ef 2) 7 (xc 2), wO (ea 3) 2 [.ref (eg 3), .ref (ef 3), .int (et 3), .int (nI (el 3)), .int (nI (ei 3))], wI (cy 1) (eg 3) 10 (gc 3), wI (cy 1) (ef 3) 7 (xc 3), wO (ea 1) 2 [.ref (eg 1), .ref (ef 1), .int (et 1), .int (nI ((el 1))), .int (nI ((ei 1)))], wO s0 7 [.ref s1, .ref s2, .int (nI sl), .int spl, .int svo, .int swi, .int sch], wI (cy 1) s1 10 (fw), wO p0 6 [.ref p1, .ref er, .ref ro, .ref p2, .ref p3, .ref p4, .ref h0, .ref s0, .int (nI ch)], wO h0 4 [.ref h1, .ref h2, .ref h3, .ref h4, .ref h5, .ref h6, .ref h7, .ref h8, .ref h9, .ref h10, .ref h11, .int ys, hv1, hv2, hv3, hv4], wI (cy 1) h1 4 (fc), wI (cy 1) h7 48 (fx)] hP9 hD9 hS9 (fun hP hD hS => ?_)
                clear hP9 hD9 hS9
                refine W.widen (k := 0) (n := 0) (Nat.le_of_ble_eq_true rfl) (Nat.le_of_ble_eq_true rfl) ?_
                replace hw69 : True := hw69
                refine lv_istore (lv' := [(10, .int zr69), (9, .int 1), (8, .int x_54), (7, .int (nI k_47)), (6, .int (nI i42)), (5, .int lx5_42), (4, .int lx4_42), (3, .ref (ea 1)), (0, .ref p0), (1, .int (nI rk)), (2, .int cg)]) hx hb dX6_canBeYesBy_120 hl (by decide) rfl (fun ls hl => ?_)
                refine lv_iload hx hb dX6_canBeYesBy_122 (lv_at hl 1 rfl) ?_
                refine lv_if_eq (tgt := 135) hx hb dX6_canBeYesBy_124 (by decide) (fun h => absurd h (by decide)) (fun _ => ?_)
                refine lv_iload hx hb dX6_canBeYesBy_127 (lv_at hl 6 rfl) ?_
                refine lv_iload hx hb dX6_canBeYesBy_129 (lv_at hl 0 rfl) ?_
                refine lv_ior hx hb dX6_canBeYesBy_131 ?_
                refine lv_topi (fun x_70 ex_70 => ?_)
                refine lv_goto (tgt := 137) hx hb dX6_canBeYesBy_132 (by decide) ?_
                refine lv_istore (lv' := [(4, .int x_70), (10, .int zr69), (9, .int 1), (8, .int x_54), (7, .int (nI k_47)), (6, .int (nI i42)), (5, .int lx5_42), (3, .ref (ea 1)), (0, .ref p0), (1, .int (nI rk)), (2, .int cg)]) hx hb dX6_canBeYesBy_137 hl (by decide) rfl (fun ls hl => ?_)
                refine lv_iload hx hb dX6_canBeYesBy_139 (lv_at hl 6 rfl) ?_
                refine lv_if_eq (tgt := 153) hx hb dX6_canBeYesBy_141 (by decide) (fun _ => ?_) (fun h => absurd c_93 h)
                refine lv_iconst (v := 0) hx hb dX6_canBeYesBy_153 (by decide) ?_
                refine lv_istore (lv' := [(5, .int 0), (4, .int x_70), (10, .int zr69), (9, .int 1), (8, .int x_54), (7, .int (nI k_47)), (6, .int (nI i42)), (3, .ref (ea 1)), (0, .ref p0), (1, .int (nI rk)), (2, .int cg)]) hx hb dX6_canBeYesBy_154 hl (by decide) rfl (fun ls hl => ?_)
                refine lv_iinc (v := nI (i42 + 1)) (lv' := [(6, .int (nI (i42 + 1))), (5, .int 0), (4, .int x_70), (10, .int zr69), (9, .int 1), (8, .int x_54), (7, .int (nI k_47)), (3, .ref (ea 1)), (0, .ref p0), (1, .int (nI rk)), (2, .int cg)]) hx hb dX6_canBeYesBy_156 hl (k := 6) rfl (nI_add i42 1) (by decide) rfl (fun ls hl => ?_)
                refine lv_goto (tgt := 21) hx hb dX6_canBeYesBy_159 (by decide) ?_
                exact ih42  x_70 0 ((i42 + 1)) (by omega) (by omega) _ _ (hP.sub [17, 0, 1, 18, 19, 20, 15, 16, 2, 3, 4, 5, 14, 6, 7, 8, 9, 10, 11, 12, 13] rfl) (hD.sub [17, 0, 1, 18, 19, 20, 15, 16, 2, 3, 4, 5, 14, 6, 7, 8, 9, 10, 11, 12, 13] (by decide +kernel) rfl) hS ls (lv_sub hl [0, 1, 2, 7, 8, 9, 10] rfl)
              · refine lv_iload hx hb dX6_canBeYesBy_96 (lv_at hl 5 rfl) ?_
                refine lv_iconst (v := 1) hx hb dX6_canBeYesBy_98 (by decide) ?_
                refine lv_ior hx hb dX6_canBeYesBy_99 ?_
                refine lv_topi (fun x_71 ex_71 => ?_)
                refine lv_goto (tgt := 105) hx hb dX6_canBeYesBy_100 (by decide) ?_
                refine lv_iload hx hb dX6_canBeYesBy_105 (lv_at hl 1 rfl) ?_
                refine lv_aload_n hx hb dX6_canBeYesBy_107 rfl (lv_at hl 6 rfl) ?_
                refine va_get (D := D) (ci := 2) (v := .ref (eg 1)) (C := RX2) (T := TX2) (N := 5) hx hb hg i_X2 hown hK hP 15 rfl rfl 0 (by decide) (hg _ m_513) (fun _ h9 => h9) rfl dX6_canBeYesBy_108 ?_
                refine lv_iload hx hb dX6_canBeYesBy_111 (lv_at hl 2 rfl) ?_
                refine va_iald hx hb hK hP 7 1 rfl rfl (vp_in_nI (by omega) (by decide)) dX6_canBeYesBy_113 ?_
                refine lv_topi (fun x_72 ex_72 => ?_)
                refine lv_iconst (v := -1) hx hb dX6_canBeYesBy_114 (by decide) ?_
                refine lv_ixor hx hb dX6_canBeYesBy_115 ?_
                refine lv_topi (fun x_73 ex_73 => ?_)
                refine lv_iand hx hb dX6_canBeYesBy_116 ?_
                refine lv_topi (fun x_74 ex_74 => ?_)
                refine x_callVi (q := (RX6, TX6, 9)) (ci := 6) (q0 := 0) (wr := [wI (cy 1) p3 4 (fne), wI (cy 1) p4 40 (fqi), (er, .inl (cy 4, 4, .inr (.inr (.inr (.inr (eF (ea 0) (ea 1) (ea 2) (ea 3))))))), wO (ea 0) 2 [.ref (eg 0), .ref (ef 0), .int (et 0), .int (nI (el 0)), .int (nI (ei 0))], wI (cy 1) (eg 0) 10 (gc 0), wI (cy 1) (ef 0) 7 (xc 0), wI (cy 1) (eg 1) 10 (gc 1), wI (cy 1) (ef 1) 7 (xc 1), wO (ea 2) 2 [.ref (eg 2), .ref (ef 2), .int (et 2), .int (nI (el 2)), .int (nI (ei 2))], wI (cy 1) (eg 2) 10 (gc 2), wI (cy 1) (ef 2) 7 (xc 2), wO (ea 3) 2 [.ref (eg 3), .ref (ef 3), .int (et 3), .int (nI (el 3)), .int (nI (ei 3))], wI (cy 1) (eg 3) 10 (gc 3), wI (cy 1) (ef 3) 7 (xc 3), wO (ea 1) 2 [.ref (eg 1), .ref (ef 1), .int (et 1), .int (nI ((el 1))), .int (nI ((ei 1)))], wO s0 7 [.ref s1, .ref s2, .int (nI sl), .int spl, .int svo, .int swi, .int sch], wI (cy 1) s1 10 (fw)]) (rest := []) ⟨hx, hb, hml, hown, hg, hl.1⟩ k_X6_101 (s_led l D cy p0 p1 p2 p3 p4 er ro ch s0 h0 h1 h2 h3 h4 h5 h6 h7 h8 h9 h10 h11 ((.int ys)) hv1 hv2 hv3 hv4 fc c0 c1 c2 c3 fx x_71 x_74 (hcn) (by omega) (by omega) (by omega) (by omega) (hnx)) E0_blind hK hP hD hS hA [16, 17, 18, 2] [0, 1, 3, 4, 5, 6, 7, 8, 9, 10, 11, 12, 13, 14, 15, 19, 20] ⟨rfl, rfl, by decide +kernel, by decide +kernel, by decide +kernel⟩ rfl rfl (fun _ _ _ => trivial) dX6_canBeYesBy_117 rfl rfl (Nat.le_of_ble_eq_true rfl) ⟨Nat.le_of_ble_eq_true rfl, Nat.le_of_ble_eq_true rfl⟩ ⟨Nat.le_of_ble_eq_true rfl, Nat.le_of_ble_eq_true rfl⟩ (fun zr75 zu75 H locs hw75 hP9 hD9 hS9 => ?_)
                clear hP hD hS
                refine reW [wI (cy 1) p3 4 (fne), wI (cy 1) p4 40 (fqi), (er, .inl (cy 4, 4, .inr (.inr (.inr (.inr (eF (ea 0) (ea 1) (ea 2) (ea 3))))))), wO (ea 0) 2 [.ref (eg 0), .ref (ef 0), .int (et 0), .int (nI (el 0)), .int (nI (ei 0))], wI (cy 1) (eg 0) 10 (gc 0), wI (cy 1) (ef 0) 7 (xc 0), wI (cy 1) (eg 1) 10 (gc 1), wI (cy 1) (ef 1) 7 (xc 1), wO (ea 2) 2 [.ref (eg 2), .ref (ef 2), .int (et 2), .int (nI (el 2)), .int (nI (ei 2))], wI (cy 1) (eg 2) 10 (gc 2), wI (cy 1) (ef 2) 7 (xc 2), wO (ea 3) 2 [.ref (eg 3), .ref (ef 3), .int (et 3), .int (nI (el 3)), .int (nI (ei 3))], wI (cy 1) (eg 3) 10 (gc 3), wI (cy 1) (ef 3) 7 (xc 3), wO (ea 1) 2 [.ref (eg 1), .ref (ef 1), .int (et 1), .int (nI ((el 1))), .int (nI ((ei 1)))], wO s0 7 [.ref s1, .ref s2, .int (nI sl), .int spl, .int svo, .int swi, .int sch], wI (cy 1) s1 10 (fw), wO p0 6 [.ref p1, .ref er, .ref ro, .ref p2, .ref p3, .ref p4, .ref h0, .ref s0, .int (nI ch)], wO h0 4 [.ref h1, .ref h2, .ref h3, .ref h4, .ref h5, .ref h6, .ref h7, .ref h8, .ref h9, .ref h10, .ref h11, .int ys, hv1, hv2, hv3, hv4], wI (cy 1) h1 4 (fc), wI (cy 1) h7 48 (fx)] hP9 hD9 hS9 (fun hP hD hS => ?_)
                clear hP9 hD9 hS9
                refine W.widen (k := 0) (n := 0) (Nat.le_of_ble_eq_true rfl) (Nat.le_of_ble_eq_true rfl) ?_
                replace hw75 : True := hw75
                refine lv_istore (lv' := [(10, .int zr75), (9, .int 1), (8, .int x_54), (7, .int (nI k_47)), (6, .int (nI i42)), (5, .int lx5_42), (4, .int lx4_42), (3, .ref (ea 1)), (0, .ref p0), (1, .int (nI rk)), (2, .int cg)]) hx hb dX6_canBeYesBy_120 hl (by decide) rfl (fun ls hl => ?_)
                refine lv_iload hx hb dX6_canBeYesBy_122 (lv_at hl 1 rfl) ?_
                refine lv_if_eq (tgt := 135) hx hb dX6_canBeYesBy_124 (by decide) (fun h => absurd h (by decide)) (fun _ => ?_)
                refine lv_iload hx hb dX6_canBeYesBy_127 (lv_at hl 6 rfl) ?_
                refine lv_iload hx hb dX6_canBeYesBy_129 (lv_at hl 0 rfl) ?_
                refine lv_ior hx hb dX6_canBeYesBy_131 ?_
                refine lv_topi (fun x_76 ex_76 => ?_)
                refine lv_goto (tgt := 137) hx hb dX6_canBeYesBy_132 (by decide) ?_
                refine lv_istore (lv' := [(4, .int x_76), (10, .int zr75), (9, .int 1), (8, .int x_54), (7, .int (nI k_47)), (6, .int (nI i42)), (5, .int lx5_42), (3, .ref (ea 1)), (0, .ref p0), (1, .int (nI rk)), (2, .int cg)]) hx hb dX6_canBeYesBy_137 hl (by decide) rfl (fun ls hl => ?_)
                refine lv_iload hx hb dX6_canBeYesBy_139 (lv_at hl 6 rfl) ?_
                refine lv_if_eq (tgt := 153) hx hb dX6_canBeYesBy_141 (by decide) (fun h => absurd h c_93) (fun _ => ?_)
                refine lv_iload hx hb dX6_canBeYesBy_144 (lv_at hl 2 rfl) ?_
                refine lv_if_eq (tgt := 153) hx hb dX6_canBeYesBy_146 (by decide) (fun h => absurd h (by decide)) (fun _ => ?_)
                refine lv_iconst (v := 1) hx hb dX6_canBeYesBy_149 (by decide) ?_
                refine lv_goto (tgt := 154) hx hb dX6_canBeYesBy_150 (by decide) ?_
                refine lv_istore (lv' := [(5, .int 1), (4, .int x_76), (10, .int zr75), (9, .int 1), (8, .int x_54), (7, .int (nI k_47)), (6, .int (nI i42)), (3, .ref (ea 1)), (0, .ref p0), (1, .int (nI rk)), (2, .int cg)]) hx hb dX6_canBeYesBy_154 hl (by decide) rfl (fun ls hl => ?_)
                refine lv_iinc (v := nI (i42 + 1)) (lv' := [(6, .int (nI (i42 + 1))), (5, .int 1), (4, .int x_76), (10, .int zr75), (9, .int 1), (8, .int x_54), (7, .int (nI k_47)), (3, .ref (ea 1)), (0, .ref p0), (1, .int (nI rk)), (2, .int cg)]) hx hb dX6_canBeYesBy_156 hl (k := 6) rfl (nI_add i42 1) (by decide) rfl (fun ls hl => ?_)
                refine lv_goto (tgt := 21) hx hb dX6_canBeYesBy_159 (by decide) ?_
                exact ih42  x_76 1 ((i42 + 1)) (by omega) (by omega) _ _ (hP.sub [17, 0, 1, 18, 19, 20, 15, 16, 2, 3, 4, 5, 14, 6, 7, 8, 9, 10, 11, 12, 13] rfl) (hD.sub [17, 0, 1, 18, 19, 20, 15, 16, 2, 3, 4, 5, 14, 6, 7, 8, 9, 10, 11, 12, 13] (by decide +kernel) rfl) hS ls (lv_sub hl [0, 1, 2, 7, 8, 9, 10] rfl)
          · refine lv_iconst (v := 0) hx hb dX6_canBeYesBy_68 (by decide) ?_
            exact x_zret hQ hx hb hr hlocks hK hP hD hS rfl dX6_canBeYesBy_69 () ((Or.inl rfl)) [16, 0, 1, 17, 18, 2, 19, 20, 3, 4, 5, 6, 15, 7, 8, 9, 10, 11, 12, 13, 14] (by decide +kernel) rfl (Nat.le_of_ble_eq_true rfl) (Nat.le_of_ble_eq_true rfl)
    exact loop42 _ 0 1 0 (by omega) (Nat.le_refl _) _ _ (hP.sub [0, 1, 2, 3, 4, 5, 6, 7, 8, 9, 10, 11, 12, 13, 14, 15, 16, 17, 18, 19, 20] rfl) (hD.sub [0, 1, 2, 3, 4, 5, 6, 7, 8, 9, 10, 11, 12, 13, 14, 15, 16, 17, 18, 19, 20] (by decide +kernel) rfl) hS ls (lv_sub hl [0, 1, 2, 3, 4, 5, 6] rfl)
  · subst hsp
    refine va_aldq hx hb hK hP 8 4 rfl rfl (by unfold vp_in; decide) dX6_canBeYesBy_10 ?_
    refine W.eq (g2 := F0 m 11 ls [.ref (ea 2)]) rfl ?_
    have hesk := hes 2 (by omega)
    refine lv_astore_n (lv' := [(3, .ref (ea 2)), (0, .ref p0), (1, .int (nI rk)), (2, .int cg)]) hx hb dX6_canBeYesBy_11 rfl hl (by decide) rfl (fun ls hl => ?_)
    refine lv_iconst (v := 0) hx hb dX6_canBeYesBy_12 (by decide) ?_
    refine lv_istore (lv' := [(4, .int 0), (3, .ref (ea 2)), (0, .ref p0), (1, .int (nI rk)), (2, .int cg)]) hx hb dX6_canBeYesBy_13 hl (by decide) rfl (fun ls hl => ?_)
    refine lv_iconst (v := 1) hx hb dX6_canBeYesBy_15 (by decide) ?_
    refine lv_istore (lv' := [(5, .int 1), (4, .int 0), (3, .ref (ea 2)), (0, .ref p0), (1, .int (nI rk)), (2, .int cg)]) hx hb dX6_canBeYesBy_16 hl (by decide) rfl (fun ls hl => ?_)
    refine lv_iconst (v := 0) hx hb dX6_canBeYesBy_18 (by decide) ?_
    refine lv_istore (lv' := [(6, .int 0), (5, .int 1), (4, .int 0), (3, .ref (ea 2)), (0, .ref p0), (1, .int (nI rk)), (2, .int cg)]) hx hb dX6_canBeYesBy_19 hl (by decide) rfl (fun ls hl => ?_)
    have loop77 : ∀ (zn : Nat) (lx4_77 : Int32) (lx5_77 : Int32) (i77 : Nat), (i77 ≤ sl) → sl - i77 + 1 ≤ zn → ∀ (H : Heap) (locs : List Loc), va_P D vwCl [wO p0 6 [.ref p1, .ref er, .ref ro, .ref p2, .ref p3, .ref p4, .ref h0, .ref s0, .int (nI ch)], wI (cy 1) p3 4 (fne), wI (cy 1) p4 40 (fqi), wO h0 4 [.ref h1, .ref h2, .ref h3, .ref h4, .ref h5, .ref h6, .ref h7, .ref h8, .ref h9, .ref h10, .ref h11, .int ys, hv1, hv2, hv3, hv4], wI (cy 1) h1 4 (fc), wI (cy 1) h7 48 (fx), wO s0 7 [.ref s1, .ref s2, .int (nI sl), .int spl, .int svo, .int swi, .int sch], wI (cy 1) s1 10 (fw), (er, .inl (cy 4, 4, .inr (.inr (.inr (.inr (eF (ea 0) (ea 1) (ea 2) (ea 3))))))), wO (ea 0) 2 [.ref (eg 0), .ref (ef 0), .int (et 0), .int (nI (el 0)), .int (nI (ei 0))], wI (cy 1) (eg 0) 10 (gc 0), wI (cy 1) (ef 0) 7 (xc 0), wO (ea 1) 2 [.ref (eg 1), .ref (ef 1), .int (et 1), .int (nI (el 1)), .int (nI (ei 1))], wI (cy 1) (eg 1) 10 (gc 1), wI (cy 1) (ef 1) 7 (xc 1), wO (ea 2) 2 [.ref (eg 2), .ref (ef 2), .int (et 2), .int (nI (el 2)), .int (nI (ei 2))], wI (cy 1) (eg 2) 10 (gc 2), wI (cy 1) (ef 2) 7 (xc 2), wO (ea 3) 2 [.ref (eg 3), .ref (ef 3), .int (et 3), .int (nI (el 3)), .int (nI (ei 3))], wI (cy 1) (eg 3) 10 (gc 3), wI (cy 1) (ef 3) 7 (xc 3)] H → va_D A [wO p0 6 [.ref p1, .ref er, .ref ro, .ref p2, .ref p3, .ref p4, .ref h0, .ref s0, .int (nI ch)], wI (cy 1) p3 4 (fne), wI (cy 1) p4 40 (fqi), wO h0 4 [.ref h1, .ref h2, .ref h3, .ref h4, .ref h5, .ref h6, .ref h7, .ref h8, .ref h9, .ref h10, .ref h11, .int ys, hv1, hv2, hv3, hv4], wI (cy 1) h1 4 (fc), wI (cy 1) h7 48 (fx), wO s0 7 [.ref s1, .ref s2, .int (nI sl), .int spl, .int svo, .int swi, .int sch], wI (cy 1) s1 10 (fw), (er, .inl (cy 4, 4, .inr (.inr (.inr (.inr (eF (ea 0) (ea 1) (ea 2) (ea 3))))))), wO (ea 0) 2 [.ref (eg 0), .ref (ef 0), .int (et 0), .int (nI (el 0)), .int (nI (ei 0))], wI (cy 1) (eg 0) 10 (gc 0), wI (cy 1) (ef 0) 7 (xc 0), wO (ea 1) 2 [.ref (eg 1), .ref (ef 1), .int (et 1), .int (nI (el 1)), .int (nI (ei 1))], wI (cy 1) (eg 1) 10 (gc 1), wI (cy 1) (ef 1) 7 (xc 1), wO (ea 2) 2 [.ref (eg 2), .ref (ef 2), .int (et 2), .int (nI (el 2)), .int (nI (ei 2))], wI (cy 1) (eg 2) 10 (gc 2), wI (cy 1) (ef 2) 7 (xc 2), wO (ea 3) 2 [.ref (eg 3), .ref (ef 3), .int (et 3), .int (nI (el 3)), .int (nI (ei 3))], wI (cy 1) (eg 3) 10 (gc 3), wI (cy 1) (ef 3) 7 (xc 3)] → va_S A s.heap H locs → ∀ ls : Array Slot, lv_has ls 11 [(6, .int (nI i77)), (5, .int lx5_77), (4, .int lx4_77), (3, .ref (ea 2)), (0, .ref p0), (1, .int (nI rk)), (2, .int cg)] → W p l e (rmk 1 0 0) s m args below meth c H locs 0 0 Q (F0 m 21 ls []) := by
      try clear hP hD hS
      intro zn
      induction zn with
      | zero => intro lx4_77 lx5_77 i77 _ hz; exact absurd hz (by omega)
      | succ zn ih77 =>
        intro lx4_77 lx5_77 i77 hf0_77 hmu77 H locs hP hD hS ls hl
        refine lv_iload hx hb dX6_canBeYesBy_21 (lv_at hl 0 rfl) ?_
        refine lv_aload_n hx hb dX6_canBeYesBy_23 rfl (lv_at hl 4 rfl) ?_
        refine va_get (D := D) (ci := 6) (v := .ref s0) (C := RX6) (T := TX6) (N := 9) hx hb hg i_X6 hown hK hP 0 rfl rfl 7 (by decide) (hg _ m_592) (fun _ h9 => h9) rfl dX6_canBeYesBy_24 ?_
        refine va_get (D := D) (ci := 7) (v := .int (nI sl)) (C := RX7) (T := TX7) (N := 7) hx hb hg i_X7 hown hK hP 6 rfl rfl 2 (by decide) (hg _ m_630) (fun _ h9 => h9) rfl dX6_canBeYesBy_27 ?_
        refine lv_icmp_ge (tgt := 162) hx hb dX6_canBeYesBy_30 (by decide) (fun c_78 => ?_) (fun c_78 => ?_)
        · have q_79 : sl ≤ i77 := q_le (a := sl) (b := i77) rfl rfl (by omega) (by omega) c_78
          refine lv_iload hx hb dX6_canBeYesBy_162 (lv_at hl 2 rfl) ?_
          refine lv_aload_n hx hb dX6_canBeYesBy_164 rfl (lv_at hl 4 rfl) ?_
          refine va_get (D := D) (ci := 6) (v := .ref h0) (C := RX6) (T := TX6) (N := 9) hx hb hg i_X6 hown hK hP 0 rfl rfl 6 (by decide) (hg _ m_591) (fun _ h9 => h9) rfl dX6_canBeYesBy_165 ?_
          refine va_get (D := D) (ci := 4) (v := .int ys) (C := RX4) (T := TX4) (N := 16) hx hb hg i_X4 hown hK hP 3 rfl rfl 11 (by decide) (hg _ m_370) (fun _ h9 => h9) rfl dX6_canBeYesBy_168 ?_
          refine lv_iand hx hb dX6_canBeYesBy_171 ?_
          refine lv_topi (fun x_80 ex_80 => ?_)
          refine lv_if_eq (tgt := 179) hx hb dX6_canBeYesBy_172 (by decide) (fun c_172 => ?_) (fun c_172 => ?_)
          · refine lv_iconst (v := 0) hx hb dX6_canBeYesBy_179 (by decide) ?_
            exact x_zret hQ hx hb hr hlocks hK hP hD hS rfl dX6_canBeYesBy_180 () ((Or.inl rfl)) [0, 1, 2, 3, 4, 5, 6, 7, 8, 9, 10, 11, 12, 13, 14, 15, 16, 17, 18, 19, 20] (by decide +kernel) rfl (Nat.le_of_ble_eq_true rfl) (Nat.le_of_ble_eq_true rfl)
          · refine lv_iconst (v := 1) hx hb dX6_canBeYesBy_175 (by decide) ?_
            refine lv_goto (tgt := 180) hx hb dX6_canBeYesBy_176 (by decide) ?_
            exact x_zret hQ hx hb hr hlocks hK hP hD hS rfl dX6_canBeYesBy_180 () ((Or.inr rfl)) [0, 1, 2, 3, 4, 5, 6, 7, 8, 9, 10, 11, 12, 13, 14, 15, 16, 17, 18, 19, 20] (by decide +kernel) rfl (Nat.le_of_ble_eq_true rfl) (Nat.le_of_ble_eq_true rfl)
        · have q_79 : i77 < sl := q_nle (a := sl) (b := i77) rfl rfl (by omega) (by omega) c_78
          refine lv_aload_n hx hb dX6_canBeYesBy_33 rfl (lv_at hl 3 rfl) ?_
          refine lv_iload hx hb dX6_canBeYesBy_34 (lv_at hl 0 rfl) ?_
          refine x_callVi (q := (RX2, TX2, 5)) (ci := 2) (q0 := 0) (wr := [wO p0 6 [.ref p1, .ref er, .ref ro, .ref p2, .ref p3, .ref p4, .ref h0, .ref s0, .int (nI ch)], wI (cy 1) p3 4 (fne), wI (cy 1) p4 40 (fqi), wO h0 4 [.ref h1, .ref h2, .ref h3, .ref h4, .ref h5, .ref h6, .ref h7, .ref h8, .ref h9, .ref h10, .ref h11, .int ys, hv1, hv2, hv3, hv4], wI (cy 1) h1 4 (fc), wI (cy 1) h7 48 (fx), wO s0 7 [.ref s1, .ref s2, .int (nI sl), .int spl, .int svo, .int swi, .int sch], wI (cy 1) s1 10 (fw), (er, .inl (cy 4, 4, .inr (.inr (.inr (.inr (eF (ea 0) (ea 1) (ea 2) (ea 3))))))), wO (ea 0) 2 [.ref (eg 0), .ref (ef 0), .int (et 0), .int (nI (el 0)), .int (nI (ei 0))], wI (cy 1) (eg 0) 10 (gc 0), wI (cy 1) (ef 0) 7 (xc 0), wO (ea 1) 2 [.ref (eg 1), .ref (ef 1), .int (et 1), .int (nI (el 1)), .int (nI (ei 1))], wI (cy 1) (eg 1) 10 (gc 1), wI (cy 1) (ef 1) 7 (xc 1), wI (cy 1) (eg 2) 10 (gc 2), wI (cy 1) (ef 2) 7 (xc 2), wO (ea 3) 2 [.ref (eg 3), .ref (ef 3), .int (et 3), .int (nI (el 3)), .int (nI (ei 3))], wI (cy 1) (eg 3) 10 (gc 3), wI (cy 1) (ef 3) 7 (xc 3)]) (rest := []) ⟨hx, hb, hml, hown, hg, hl.1⟩ k_X6_94 (s_placeOf l D cy (ea 2) (eg 2) (ef 2) (et 2) ((el 2)) ((ei 2)) i77 (by omega) (by omega)) E0_blind hK hP hD hS hA [15] [0, 1, 2, 3, 4, 5, 6, 7, 8, 9, 10, 11, 12, 13, 14, 16, 17, 18, 19, 20] ⟨rfl, rfl, by decide +kernel, by decide +kernel, by decide +kernel⟩ rfl rfl (fun _ _ _ => trivial) dX6_canBeYesBy_36 rfl rfl (Nat.le_of_ble_eq_true rfl) ⟨Nat.le_of_ble_eq_true rfl, Nat.le_of_ble_eq_true rfl⟩ ⟨Nat.le_of_ble_eq_true rfl, Nat.le_of_ble_eq_true rfl⟩ (fun zr81 zu81 H locs hw81 hP9 hD9 hS9 => ?_)
          clear hP hD hS
          obtain ⟨k_82, rfl⟩ : ∃ z, z = zu81 := ⟨_, rfl⟩
          refine reW [wO p0 6 [.ref p1, .ref er, .ref ro, .ref p2, .ref p3, .ref p4, .ref h0, .ref s0, .int (nI ch)], wI (cy 1) p3 4 (fne), wI (cy 1) p4 40 (fqi), wO h0 4 [.ref h1, .ref h2, .ref h3, .ref h4, .ref h5, .ref h6, .ref h7, .ref h8, .ref h9, .ref h10, .ref h11, .int ys, hv1, hv2, hv3, hv4], wI (cy 1) h1 4 (fc), wI (cy 1) h7 48 (fx), wO s0 7 [.ref s1, .ref s2, .int (nI sl), .int spl, .int svo, .int swi, .int sch], wI (cy 1) s1 10 (fw), (er, .inl (cy 4, 4, .inr (.inr (.inr (.inr (eF (ea 0) (ea 1) (ea 2) (ea 3))))))), wO (ea 0) 2 [.ref (eg 0), .ref (ef 0), .int (et 0), .int (nI (el 0)), .int (nI (ei 0))], wI (cy 1) (eg 0) 10 (gc 0), wI (cy 1) (ef 0) 7 (xc 0), wO (ea 1) 2 [.ref (eg 1), .ref (ef 1), .int (et 1), .int (nI (el 1)), .int (nI (ei 1))], wI (cy 1) (eg 1) 10 (gc 1), wI (cy 1) (ef 1) 7 (xc 1), wI (cy 1) (eg 2) 10 (gc 2), wI (cy 1) (ef 2) 7 (xc 2), wO (ea 3) 2 [.ref (eg 3), .ref (ef 3), .int (et 3), .int (nI (el 3)), .int (nI (ei 3))], wI (cy 1) (eg 3) 10 (gc 3), wI (cy 1) (ef 3) 7 (xc 3), wO (ea 2) 2 [.ref (eg 2), .ref (ef 2), .int (et 2), .int (nI ((el 2))), .int (nI ((ei 2)))]] hP9 hD9 hS9 (fun hP hD hS => ?_)
          clear hP9 hD9 hS9
          refine W.widen (k := 0) (n := 0) (Nat.le_of_ble_eq_true rfl) (Nat.le_of_ble_eq_true rfl) ?_
          replace hw81 : (zr81 = nI k_82) ∧ (k_82 < ((el 2))) := hw81
          obtain ⟨f_83, f_84⟩ := hw81
          subst f_83
          refine lv_istore (lv' := [(7, .int (nI k_82)), (6, .int (nI i77)), (5, .int lx5_77), (4, .int lx4_77), (3, .ref (ea 2)), (0, .ref p0), (1, .int (nI rk)), (2, .int cg)]) hx hb dX6_canBeYesBy_39 hl (by decide) rfl (fun ls hl => ?_)
          refine lv_aload_n hx hb dX6_canBeYesBy_41 rfl (lv_at hl 5 rfl) ?_
          refine lv_iload hx hb dX6_canBeYesBy_42 (lv_at hl 0 rfl) ?_
          refine lv_iload_n hx hb dX6_canBeYesBy_44 rfl (lv_at hl 7 rfl) ?_
          refine x_callVi (q := (RX6, TX6, 9)) (ci := 6) (q0 := 0) (wr := [wI (cy 1) p3 4 (fne), wI (cy 1) p4 40 (fqi), wI (cy 1) h7 48 (fx), (er, .inl (cy 4, 4, .inr (.inr (.inr (.inr (eF (ea 0) (ea 1) (ea 2) (ea 3))))))), wO (ea 0) 2 [.ref (eg 0), .ref (ef 0), .int (et 0), .int (nI (el 0)), .int (nI (ei 0))], wI (cy 1) (eg 0) 10 (gc 0), wI (cy 1) (ef 0) 7 (xc 0), wO (ea 1) 2 [.ref (eg 1), .ref (ef 1), .int (et 1), .int (nI (el 1)), .int (nI (ei 1))], wI (cy 1) (eg 1) 10 (gc 1), wI (cy 1) (ef 1) 7 (xc 1), wI (cy 1) (eg 2) 10 (gc 2), wI (cy 1) (ef 2) 7 (xc 2), wO (ea 3) 2 [.ref (eg 3), .ref (ef 3), .int (et 3), .int (nI (el 3)), .int (nI (ei 3))], wI (cy 1) (eg 3) 10 (gc 3), wI (cy 1) (ef 3) 7 (xc 3), wO (ea 2) 2 [.ref (eg 2), .ref (ef 2), .int (et 2), .int (nI ((el 2))), .int (nI ((ei 2)))]]) (rest := []) ⟨hx, hb, hml, hown, hg, hl.1⟩ k_X6_98 (s_choices l D cy p0 p1 p2 p3 p4 er ro ch h0 h1 h2 h3 h4 h5 h6 h7 h8 h9 h10 h11 ((.int ys)) hv1 hv2 hv3 hv4 fc c0 c1 c2 c3 s0 s1 s2 sl spl svo swi sch fw k_82 cg (hcn) (by omega) (by omega) (by omega) (by omega) (hsw) (by omega)) E0_blind hK hP hD hS hA [0, 3, 4, 6, 7] [1, 2, 5, 8, 9, 10, 11, 12, 13, 14, 15, 16, 17, 18, 19, 20] ⟨rfl, rfl, by decide +kernel, by decide +kernel, by decide +kernel⟩ rfl rfl (fun _ _ _ => trivial) dX6_canBeYesBy_45 rfl rfl (Nat.le_of_ble_eq_true rfl) ⟨Nat.le_of_ble_eq_true rfl, Nat.le_of_ble_eq_true rfl⟩ ⟨Nat.le_of_ble_eq_true rfl, Nat.le_of_ble_eq_true rfl⟩ (fun zr85 zu85 H locs hw85 hP9 hD9 hS9 => ?_)
          clear hP hD hS
          refine reW [wI (cy 1) p3 4 (fne), wI (cy 1) p4 40 (fqi), wI (cy 1) h7 48 (fx), (er, .inl (cy 4, 4, .inr (.inr (.inr (.inr (eF (ea 0) (ea 1) (ea 2) (ea 3))))))), wO (ea 0) 2 [.ref (eg 0), .ref (ef 0), .int (et 0), .int (nI (el 0)), .int (nI (ei 0))], wI (cy 1) (eg 0) 10 (gc 0), wI (cy 1) (ef 0) 7 (xc 0), wO (ea 1) 2 [.ref (eg 1), .ref (ef 1), .int (et 1), .int (nI (el 1)), .int (nI (ei 1))], wI (cy 1) (eg 1) 10 (gc 1), wI (cy 1) (ef 1) 7 (xc 1), wI (cy 1) (eg 2) 10 (gc 2), wI (cy 1) (ef 2) 7 (xc 2), wO (ea 3) 2 [.ref (eg 3), .ref (ef 3), .int (et 3), .int (nI (el 3)), .int (nI (ei 3))], wI (cy 1) (eg 3) 10 (gc 3), wI (cy 1) (ef 3) 7 (xc 3), wO (ea 2) 2 [.ref (eg 2), .ref (ef 2), .int (et 2), .int (nI ((el 2))), .int (nI ((ei 2)))], wO p0 6 [.ref p1, .ref er, .ref ro, .ref p2, .ref p3, .ref p4, .ref h0, .ref s0, .int (nI ch)], wO h0 4 [.ref h1, .ref h2, .ref h3, .ref h4, .ref h5, .ref h6, .ref h7, .ref h8, .ref h9, .ref h10, .ref h11, .int ys, hv1, hv2, hv3, hv4], wI (cy 1) h1 4 (fc), wO s0 7 [.ref s1, .ref s2, .int (nI sl), .int spl, .int svo, .int swi, .int sch], wI (cy 1) s1 10 (fw)] hP9 hD9 hS9 (fun hP hD hS => ?_)
          clear hP9 hD9 hS9
          refine W.widen (k := 0) (n := 0) (Nat.le_of_ble_eq_true rfl) (Nat.le_of_ble_eq_true rfl) ?_
          replace hw85 : True := hw85
          refine lv_aload_n hx hb dX6_canBeYesBy_48 rfl (lv_at hl 5 rfl) ?_
          refine va_get (D := D) (ci := 6) (v := .ref p4) (C := RX6) (T := TX6) (N := 9) hx hb hg i_X6 hown hK hP 16 rfl rfl 5 (by decide) (hg _ m_590) (fun _ h9 => h9) rfl dX6_canBeYesBy_49 ?_
          refine lv_iload_n hx hb dX6_canBeYesBy_52 rfl (lv_at hl 6 rfl) ?_
          refine lv_bipush (v := 10) hx hb dX6_canBeYesBy_53 (by decide) ?_
          refine lv_imul hx hb dX6_canBeYesBy_55 ?_
          refine lv_topi (fun y_86 hy_86 => ?_)
          obtain rfl : y_86 = nI (rk * 10) := hy_86.trans (pk_mul rk 10)
          refine lv_iload hx hb dX6_canBeYesBy_56 (lv_at hl 0 rfl) ?_
          refine lv_iadd hx hb dX6_canBeYesBy_58 ?_
          refine lv_topi (fun y_87 hy_87 => ?_)
          obtain rfl : y_87 = nI ((rk * 10) + k_82) := hy_87.trans (nI_add ((rk * 10)) k_82)
          refine va_iald hx hb hK hP 1 1 rfl rfl (vp_in_nI (by omega) (by decide)) dX6_canBeYesBy_59 ?_
          refine lv_topi (fun x_88 ex_88 => ?_)
          refine lv_iand hx hb dX6_canBeYesBy_60 ?_
          refine lv_topi (fun x_89 ex_89 => ?_)
          refine lv_istore (lv' := [(8, .int x_89), (7, .int (nI k_82)), (6, .int (nI i77)), (5, .int lx5_77), (4, .int lx4_77), (3, .ref (ea 2)), (0, .ref p0), (1, .int (nI rk)), (2, .int cg)]) hx hb dX6_canBeYesBy_61 hl (by decide) rfl (fun ls hl => ?_)
          refine lv_iload hx hb dX6_canBeYesBy_63 (lv_at hl 0 rfl) ?_
          refine lv_if_ne (tgt := 70) hx hb dX6_canBeYesBy_65 (by decide) (fun c_65 => ?_) (fun c_65 => ?_)
          · refine lv_iload hx hb dX6_canBeYesBy_70 (lv_at hl 0 rfl) ?_
            refine lv_aload_n hx hb dX6_canBeYesBy_72 rfl (lv_at hl 5 rfl) ?_
            refine va_get (D := D) (ci := 2) (v := .ref (eg 2)) (C := RX2) (T := TX2) (N := 5) hx hb hg i_X2 hown hK hP 15 rfl rfl 0 (by decide) (hg _ m_513) (fun _ h9 => h9) rfl dX6_canBeYesBy_73 ?_
            refine lv_iload hx hb dX6_canBeYesBy_76 (lv_at hl 1 rfl) ?_
            refine va_iald hx hb hK hP 10 1 rfl rfl (vp_in_nI (by omega) (by decide)) dX6_canBeYesBy_78 ?_
            refine lv_topi (fun x_90 ex_90 => ?_)
            refine lv_iand hx hb dX6_canBeYesBy_79 ?_
            refine lv_topi (fun x_91 ex_91 => ?_)
            refine lv_if_eq (tgt := 87) hx hb dX6_canBeYesBy_80 (by decide) (fun c_80 => ?_) (fun c_80 => ?_)
            · refine lv_iconst (v := 0) hx hb dX6_canBeYesBy_87 (by decide) ?_
              refine lv_istore (lv' := [(9, .int 0), (8, .int x_89), (7, .int (nI k_82)), (6, .int (nI i77)), (5, .int lx5_77), (4, .int lx4_77), (3, .ref (ea 2)), (0, .ref p0), (1, .int (nI rk)), (2, .int cg)]) hx hb dX6_canBeYesBy_88 hl (by decide) rfl (fun ls hl => ?_)
              refine lv_aload_n hx hb dX6_canBeYesBy_90 rfl (lv_at hl 7 rfl) ?_
              refine lv_iload hx hb dX6_canBeYesBy_91 (lv_at hl 4 rfl) ?_
              refine lv_if_eq (tgt := 103) hx hb dX6_canBeYesBy_93 (by decide) (fun c_93 => ?_) (fun c_93 => ?_)
              · refine lv_iload hx hb dX6_canBeYesBy_103 (lv_at hl 5 rfl) ?_
                refine lv_iload hx hb dX6_canBeYesBy_105 (lv_at hl 1 rfl) ?_
                refine lv_aload_n hx hb dX6_canBeYesBy_107 rfl (lv_at hl 6 rfl) ?_
                refine va_get (D := D) (ci := 2) (v := .ref (eg 2)) (C := RX2) (T := TX2) (N := 5) hx hb hg i_X2 hown hK hP 15 rfl rfl 0 (by decide) (hg _ m_513) (fun _ h9 => h9) rfl dX6_canBeYesBy_108 ?_
                refine lv_iload hx hb dX6_canBeYesBy_111 (lv_at hl 2 rfl) ?_
                refine va_iald hx hb hK hP 10 1 rfl rfl (vp_in_nI (by omega) (by decide)) dX6_canBeYesBy_113 ?_
                refine lv_topi (fun x_92 ex_92 => ?_)
                refine lv_iconst (v := -1) hx hb dX6_canBeYesBy_114 (by decide) ?_
                refine lv_ixor hx hb dX6_canBeYesBy_115 ?_
                refine lv_topi (fun x_93 ex_93 => ?_)
                refine lv_iand hx hb dX6_canBeYesBy_116 ?_
                refine lv_topi (fun x_94 ex_94 => ?_)
                refine x_callVi (q := (RX6, TX6, 9)) (ci := 6) (q0 := 0) (wr := [wI (cy 1) p3 4 (fne), wI (cy 1) p4 40 (fqi), (er, .inl (cy 4, 4, .inr (.inr (.inr (.inr (eF (ea 0) (ea 1) (ea 2) (ea 3))))))), wO (ea 0) 2 [.ref (eg 0), .ref (ef 0), .int (et 0), .int (nI (el 0)), .int (nI (ei 0))], wI (cy 1) (eg 0) 10 (gc 0), wI (cy 1) (ef 0) 7 (xc 0), wO (ea 1) 2 [.ref (eg 1), .ref (ef 1), .int (et 1), .int (nI (el 1)), .int (nI (ei 1))], wI (cy 1) (eg 1) 10 (gc 1), wI (cy 1) (ef 1) 7 (xc 1), wI (cy 1) (eg 2) 10 (gc 2), wI (cy 1) (ef 2) 7 (xc 2), wO (ea 3) 2 [.ref (eg 3), .ref (ef 3), .int (et 3), .int (nI (el 3)), .int (nI (ei 3))], wI (cy 1) (eg 3) 10 (gc 3), wI (cy 1) (ef 3) 7 (xc 3), wO (ea 2) 2 [.ref (eg 2), .ref (ef 2), .int (et 2), .int (nI ((el 2))), .int (nI ((ei 2)))], wO s0 7 [.ref s1, .ref s2, .int (nI sl), .int spl, .int svo, .int swi, .int sch], wI (cy 1) s1 10 (fw)]) (rest := []) ⟨hx, hb, hml, hown, hg, hl.1⟩ k_X6_101 (s_led l D cy p0 p1 p2 p3 p4 er ro ch s0 h0 h1 h2 h3 h4 h5 h6 h7 h8 h9 h10 h11 ((.int ys)) hv1 hv2 hv3 hv4 fc c0 c1 c2 c3 fx lx4_77 x_94 (hcn) (by omega) (by omega) (by omega) (by omega) (hnx)) E0_blind hK hP hD hS hA [16, 17, 18, 2] [0, 1, 3, 4, 5, 6, 7, 8, 9, 10, 11, 12, 13, 14, 15, 19, 20] ⟨rfl, rfl, by decide +kernel, by decide +kernel, by decide +kernel⟩ rfl rfl (fun _ _ _ => trivial) dX6_canBeYesBy_117 rfl rfl (Nat.le_of_ble_eq_true rfl) ⟨Nat.le_of_ble_eq_true rfl, Nat.le_of_ble_eq_true rfl⟩ ⟨Nat.le_of_ble_eq_true rfl, Nat.le_of_ble_eq_true rfl⟩ (fun zr95 zu95 H locs hw95 hP9 hD9 hS9 => ?_)
                clear hP hD hS
                refine reW [wI (cy 1) p3 4 (fne), wI (cy 1) p4 40 (fqi), (er, .inl (cy 4, 4, .inr (.inr (.inr (.inr (eF (ea 0) (ea 1) (ea 2) (ea 3))))))), wO (ea 0) 2 [.ref (eg 0), .ref (ef 0), .int (et 0), .int (nI (el 0)), .int (nI (ei 0))], wI (cy 1) (eg 0) 10 (gc 0), wI (cy 1) (ef 0) 7 (xc 0), wO (ea 1) 2 [.ref (eg 1), .ref (ef 1), .int (et 1), .int (nI (el 1)), .int (nI (ei 1))], wI (cy 1) (eg 1) 10 (gc 1), wI (cy 1) (ef 1) 7 (xc 1), wI (cy 1) (eg 2) 10 (gc 2), wI (cy 1) (ef 2) 7 (xc 2), wO (ea 3) 2 [.ref (eg 3), .ref (ef 3), .int (et 3), .int (nI (el 3)), .int (nI (ei 3))], wI (cy 1) (eg 3) 10 (gc 3), wI (cy 1) (ef 3) 7 (xc 3), wO (ea 2) 2 [.ref (eg 2), .ref (ef 2), .int (et 2), .int (nI ((el 2))), .int (nI ((ei 2)))], wO s0 7 [.ref s1, .ref s2, .int (nI sl), .int spl, .int svo, .int swi, .int sch], wI (cy 1) s1 10 (fw), wO p0 6 [.ref p1, .ref er, .ref ro, .ref p2, .ref p3, .ref p4, .ref h0, .ref s0, .int (nI ch)], wO h0 4 [.ref h1, .ref h2, .ref h3, .ref h4, .ref h5, .ref h6, .ref h7, .ref h8, .ref h9, .ref h10, .ref h11, .int ys, hv1, hv2, hv3, hv4], wI (cy 1) h1 4 (fc), wI (cy 1) h7 48 (fx)] hP9 hD9 hS9 (fun hP hD hS => ?_)
                clear hP9 hD9 hS9
                refine W.widen (k := 0) (n := 0) (Nat.le_of_ble_eq_true rfl) (Nat.le_of_ble_eq_true rfl) ?_
                replace hw95 : True := hw95
                refine lv_istore (lv' := [(10, .int zr95), (9, .int 0), (8, .int x_89), (7, .int (nI k_82)), (6, .int (nI i77)), (5, .int lx5_77), (4, .int lx4_77), (3, .ref (ea 2)), (0, .ref p0), (1, .int (nI rk)), (2, .int cg)]) hx hb dX6_canBeYesBy_120 hl (by decide) rfl (fun ls hl => ?_)
                refine lv_iload hx hb dX6_canBeYesBy_122 (lv_at hl 1 rfl) ?_
                refine lv_if_eq (tgt := 135) hx hb dX6_canBeYesBy_124 (by decide) (fun _ => ?_) (fun h => absurd (by decide) h)
                refine lv_iload hx hb dX6_canBeYesBy_135 (lv_at hl 0 rfl) ?_
                refine lv_istore (lv' := [(4, .int zr95), (10, .int zr95), (9, .int 0), (8, .int x_89), (7, .int (nI k_82)), (6, .int (nI i77)), (5, .int lx5_77), (3, .ref (ea 2)), (0, .ref p0), (1, .int (nI rk)), (2, .int cg)]) hx hb dX6_canBeYesBy_137 hl (by decide) rfl (fun ls hl => ?_)
                refine lv_iload hx hb dX6_canBeYesBy_139 (lv_at hl 6 rfl) ?_
                refine lv_if_eq (tgt := 153) hx hb dX6_canBeYesBy_141 (by decide) (fun _ => ?_) (fun h => absurd c_93 h)
                refine lv_iconst (v := 0) hx hb dX6_canBeYesBy_153 (by decide) ?_
                refine lv_istore (lv' := [(5, .int 0), (4, .int zr95), (10, .int zr95), (9, .int 0), (8, .int x_89), (7, .int (nI k_82)), (6, .int (nI i77)), (3, .ref (ea 2)), (0, .ref p0), (1, .int (nI rk)), (2, .int cg)]) hx hb dX6_canBeYesBy_154 hl (by decide) rfl (fun ls hl => ?_)
                refine lv_iinc (v := nI (i77 + 1)) (lv' := [(6, .int (nI (i77 + 1))), (5, .int 0), (4, .int zr95), (10, .int zr95), (9, .int 0), (8, .int x_89), (7, .int (nI k_82)), (3, .ref (ea 2)), (0, .ref p0), (1, .int (nI rk)), (2, .int cg)]) hx hb dX6_canBeYesBy_156 hl (k := 6) rfl (nI_add i77 1) (by decide) rfl (fun ls hl => ?_)
                refine lv_goto (tgt := 21) hx hb dX6_canBeYesBy_159 (by decide) ?_
                exact ih77  zr95 0 ((i77 + 1)) (by omega) (by omega) _ _ (hP.sub [17, 0, 1, 18, 19, 20, 15, 16, 2, 3, 4, 5, 6, 7, 8, 14, 9, 10, 11, 12, 13] rfl) (hD.sub [17, 0, 1, 18, 19, 20, 15, 16, 2, 3, 4, 5, 6, 7, 8, 14, 9, 10, 11, 12, 13] (by decide +kernel) rfl) hS ls (lv_sub hl [0, 1, 2, 7, 8, 9, 10] rfl)
              · refine lv_iload hx hb dX6_canBeYesBy_96 (lv_at hl 5 rfl) ?_
                refine lv_iconst (v := 1) hx hb dX6_canBeYesBy_98 (by decide) ?_
                refine lv_ior hx hb dX6_canBeYesBy_99 ?_
                refine lv_topi (fun x_96 ex_96 => ?_)
                refine lv_goto (tgt := 105) hx hb dX6_canBeYesBy_100 (by decide) ?_
                refine lv_iload hx hb dX6_canBeYesBy_105 (lv_at hl 1 rfl) ?_
                refine lv_aload_n hx hb dX6_canBeYesBy_107 rfl (lv_at hl 6 rfl) ?_
                refine va_get (D := D) (ci := 2) (v := .ref (eg 2)) (C := RX2) (T := TX2) (N := 5) hx hb hg i_X2 hown hK hP 15 rfl rfl 0 (by decide) (hg _ m_513) (fun _ h9 => h9) rfl dX6_canBeYesBy_108 ?_
                refine lv_iload hx hb dX6_canBeYesBy_111 (lv_at hl 2 rfl) ?_
                refine va_iald hx hb hK hP 10 1 rfl rfl (vp_in_nI (by omega) (by decide)) dX6_canBeYesBy_113 ?_
                refine lv_topi (fun x_97 ex_97 => ?_)
                refine lv_iconst (v := -1) hx hb dX6_canBeYesBy_114 (by decide) ?_
                refine lv_ixor hx hb dX6_canBeYesBy_115 ?_
                refine lv_topi (fun x_98 ex_98 => ?_)
                refine lv_iand hx hb dX6_canBeYesBy_116 ?_
                refine lv_topi (fun x_99 ex_99 => ?_)
                refine x_callVi (q := (RX6, TX6, 9)) (ci := 6) (q0 := 0) (wr := [wI (cy 1) p3 4 (fne), wI (cy 1) p4 40 (fqi), (er, .inl (cy 4, 4, .inr (.inr (.inr (.inr (eF (ea 0) (ea 1) (ea 2) (ea 3))))))), wO (ea 0) 2 [.ref (eg 0), .ref (ef 0), .int (et 0), .int (nI (el 0)), .int (nI (ei 0))], wI (cy 1) (eg 0) 10 (gc 0), wI (cy 1) (ef 0) 7 (xc 0), wO (ea 1) 2 [.ref (eg 1), .ref (ef 1), .int (et 1), .int (nI (el 1)), .int (nI (ei 1))], wI (cy 1) (eg 1) 10 (gc 1), wI (cy 1) (ef 1) 7 (xc 1), wI (cy 1) (eg 2) 10 (gc 2), wI (cy 1) (ef 2) 7 (xc 2), wO (ea 3) 2 [.ref (eg 3), .ref (ef 3), .int (et 3), .int (nI (el 3)), .int (nI (ei 3))], wI (cy 1) (eg 3) 10 (gc 3), wI (cy 1) (ef 3) 7 (xc 3), wO (ea 2) 2 [.ref (eg 2), .ref (ef 2), .int (et 2), .int (nI ((el 2))), .int (nI ((ei 2)))], wO s0 7 [.ref s1, .ref s2, .int (nI sl), .int spl, .int svo, .int swi, .int sch], wI (cy 1) s1 10 (fw)]) (rest := []) ⟨hx, hb, hml, hown, hg, hl.1⟩ k_X6_101 (s_led l D cy p0 p1 p2 p3 p4 er ro ch s0 h0 h1 h2 h3 h4 h5 h6 h7 h8 h9 h10 h11 ((.int ys)) hv1 hv2 hv3 hv4 fc c0 c1 c2 c3 fx x_96 x_99 (hcn) (by omega) (by omega) (by omega) (by omega) (hnx)) E0_blind hK hP hD hS hA [16, 17, 18, 2] [0, 1, 3, 4, 5, 6, 7, 8, 9, 10, 11, 12, 13, 14, 15, 19, 20] ⟨rfl, rfl, by decide +kernel, by decide +kernel, by decide +kernel⟩ rfl rfl (fun _ _ _ => trivial) dX6_canBeYesBy_117 rfl rfl (Nat.le_of_ble_eq_true rfl) ⟨Nat.le_of_ble_eq_true rfl, Nat.le_of_ble_eq_true rfl⟩ ⟨Nat.le_of_ble_eq_true rfl, Nat.le_of_ble_eq_true rfl⟩ (fun zr100 zu100 H locs hw100 hP9 hD9 hS9 => ?_)
                clear hP hD hS
                refine reW [wI (cy 1) p3 4 (fne), wI (cy 1) p4 40 (fqi), (er, .inl (cy 4, 4, .inr (.inr (.inr (.inr (eF (ea 0) (ea 1) (ea 2) (ea 3))))))), wO (ea 0) 2 [.ref (eg 0), .ref (ef 0), .int (et 0), .int (nI (el 0)), .int (nI (ei 0))], wI (cy 1) (eg 0) 10 (gc 0), wI (cy 1) (ef 0) 7 (xc 0), wO (ea 1) 2 [.ref (eg 1), .ref (ef 1), .int (et 1), .int (nI (el 1)), .int (nI (ei 1))], wI (cy 1) (eg 1) 10 (gc 1), wI (cy 1) (ef 1) 7 (xc 1), wI (cy 1) (eg 2) 10 (gc 2), wI (cy 1) (ef 2) 7 (xc 2), wO (ea 3) 2 [.ref (eg 3), .ref (ef 3), .int (et 3), .int (nI (el 3)), .int (nI (ei 3))], wI (cy 1) (eg 3) 10 (gc 3), wI (cy 1) (ef 3) 7 (xc 3), wO (ea 2) 2 [.ref (eg 2), .ref (ef 2), .int (et 2), .int (nI ((el 2))), .int (nI ((ei 2)))], wO s0 7 [.ref s1, .ref s2, .int (nI sl), .int spl, .int svo, .int swi, .int sch], wI (cy 1) s1 10 (fw), wO p0 6 [.ref p1, .ref er, .ref ro, .ref p2, .ref p3, .ref p4, .ref h0, .ref s0, .int (nI ch)], wO h0 4 [.ref h1, .ref h2, .ref h3, .ref h4, .ref h5, .ref h6, .ref h7, .ref h8, .ref h9, .ref h10, .ref h11, .int ys, hv1, hv2, hv3, hv4], wI (cy 1) h1 4 (fc), wI (cy 1) h7 48 (fx)] hP9 hD9 hS9 (fun hP hD hS => ?_)
                clear hP9 hD9 hS9
                refine W.widen (k := 0) (n := 0) (Nat.le_of_ble_eq_true rfl) (Nat.le_of_ble_eq_true rfl) ?_
                replace hw100 : True := hw100
                refine lv_istore (lv' := [(10, .int zr100), (9, .int 0), (8, .int x_89), (7, .int (nI k_82)), (6, .int (nI i77)), (5, .int lx5_77), (4, .int lx4_77), (3, .ref (ea 2)), (0, .ref p0), (1, .int (nI rk)), (2, .int cg)]) hx hb dX6_canBeYesBy_120 hl (by decide) rfl (fun ls hl => ?_)
                refine lv_iload hx hb dX6_canBeYesBy_122 (lv_at hl 1 rfl) ?_
                refine lv_if_eq (tgt := 135) hx hb dX6_canBeYesBy_124 (by decide) (fun _ => ?_) (fun h => absurd (by decide) h)
                refine lv_iload hx hb dX6_canBeYesBy_135 (lv_at hl 0 rfl) ?_
                refine lv_istore (lv' := [(4, .int zr100), (10, .int zr100), (9, .int 0), (8, .int x_89), (7, .int (nI k_82)), (6, .int (nI i77)), (5, .int lx5_77), (3, .ref (ea 2)), (0, .ref p0), (1, .int (nI rk)), (2, .int cg)]) hx hb dX6_canBeYesBy_137 hl (by decide) rfl (fun ls hl => ?_)
                refine lv_iload hx hb dX6_canBeYesBy_139 (lv_at hl 6 rfl) ?_
                refine lv_if_eq (tgt := 153) hx hb dX6_canBeYesBy_141 (by decide) (fun h => absurd h c_93) (fun _ => ?_)
                refine lv_iload hx hb dX6_canBeYesBy_144 (lv_at hl 2 rfl) ?_
                refine lv_if_eq (tgt := 153) hx hb dX6_canBeYesBy_146 (by decide) (fun _ => ?_) (fun h => absurd (by decide) h)
                refine lv_iconst (v := 0) hx hb dX6_canBeYesBy_153 (by decide) ?_
                refine lv_istore (lv' := [(5, .int 0), (4, .int zr100), (10, .int zr100), (9, .int 0), (8, .int x_89), (7, .int (nI k_82)), (6, .int (nI i77)), (3, .ref (ea 2)), (0, .ref p0), (1, .int (nI rk)), (2, .int cg)]) hx hb dX6_canBeYesBy_154 hl (by decide) rfl (fun ls hl => ?_)
                refine lv_iinc (v := nI (i77 + 1)) (lv' := [(6, .int (nI (i77 + 1))), (5, .int 0), (4, .int zr100), (10, .int zr100), (9, .int 0), (8, .int x_89), (7, .int (nI k_82)), (3, .ref (ea 2)), (0, .ref p0), (1, .int (nI rk)), (2, .int cg)]) hx hb dX6_canBeYesBy_156 hl (k := 6) rfl (nI_add i77 1) (by decide) rfl (fun ls hl => ?_)
                refine lv_goto (tgt := 21) hx hb dX6_canBeYesBy_159 (by decide) ?_
                exact ih77  zr100 0 ((i77 + 1)) (by omega) (by omega) _ _ (hP.sub [17, 0, 1, 18, 19, 20, 15, 16, 2, 3, 4, 5, 6, 7, 8, 14, 9, 10, 11, 12, 13] rfl) (hD.sub [17, 0, 1, 18, 19, 20, 15, 16, 2, 3, 4, 5, 6, 7, 8, 14, 9, 10, 11, 12, 13] (by decide +kernel) rfl) hS ls (lv_sub hl [0, 1, 2, 7, 8, 9, 10] rfl)
            · refine lv_iconst (v := 1) hx hb dX6_canBeYesBy_83 (by decide) ?_
              refine lv_goto (tgt := 88) hx hb dX6_canBeYesBy_84 (by decide) ?_
              refine lv_istore (lv' := [(9, .int 1), (8, .int x_89), (7, .int (nI k_82)), (6, .int (nI i77)), (5, .int lx5_77), (4, .int lx4_77), (3, .ref (ea 2)), (0, .ref p0), (1, .int (nI rk)), (2, .int cg)]) hx hb dX6_canBeYesBy_88 hl (by decide) rfl (fun ls hl => ?_)
              refine lv_aload_n hx hb dX6_canBeYesBy_90 rfl (lv_at hl 7 rfl) ?_
              refine lv_iload hx hb dX6_canBeYesBy_91 (lv_at hl 4 rfl) ?_
              refine lv_if_eq (tgt := 103) hx hb dX6_canBeYesBy_93 (by decide) (fun c_93 => ?_) (fun c_93 => ?_)
              · refine lv_iload hx hb dX6_canBeYesBy_103 (lv_at hl 5 rfl) ?_
                refine lv_iload hx hb dX6_canBeYesBy_105 (lv_at hl 1 rfl) ?_
                refine lv_aload_n hx hb dX6_canBeYesBy_107 rfl (lv_at hl 6 rfl) ?_
                refine va_get (D := D) (ci := 2) (v := .ref (eg 2)) (C := RX2) (T := TX2) (N := 5) hx hb hg i_X2 hown hK hP 15 rfl rfl 0 (by decide) (hg _ m_513) (fun _ h9 => h9) rfl dX6_canBeYesBy_108 ?_
                refine lv_iload hx hb dX6_canBeYesBy_111 (lv_at hl 2 rfl) ?_
                refine va_iald hx hb hK hP 10 1 rfl rfl (vp_in_nI (by omega) (by decide)) dX6_canBeYesBy_113 ?_
                refine lv_topi (fun x_101 ex_101 => ?_)
                refine lv_iconst (v := -1) hx hb dX6_canBeYesBy_114 (by decide) ?_
                refine lv_ixor hx hb dX6_canBeYesBy_115 ?_
                refine lv_topi (fun x_102 ex_102 => ?_)
                refine lv_iand hx hb dX6_canBeYesBy_116 ?_
                refine lv_topi (fun x_103 ex_103 => ?_)
                refine x_callVi (q := (RX6, TX6, 9)) (ci := 6) (q0 := 0) (wr := [wI (cy 1) p3 4 (fne), wI (cy 1) p4 40 (fqi), (er, .inl (cy 4, 4, .inr (.inr (.inr (.inr (eF (ea 0) (ea 1) (ea 2) (ea 3))))))), wO (ea 0) 2 [.ref (eg 0), .ref (ef 0), .int (et 0), .int (nI (el 0)), .int (nI (ei 0))], wI (cy 1) (eg 0) 10 (gc 0), wI (cy 1) (ef 0) 7 (xc 0), wO (ea 1) 2 [.ref (eg 1), .ref (ef 1), .int (et 1), .int (nI (el 1)), .int (nI (ei 1))], wI (cy 1) (eg 1) 10 (gc 1), wI (cy 1) (ef 1) 7 (xc 1), wI (cy 1) (eg 2) 10 (gc 2), wI (cy 1) (ef 2) 7 (xc 2), wO (ea 3) 2 [.ref (eg 3), .ref (ef 3), .int (et 3), .int (nI (el 3)), .int (nI (ei 3))], wI (cy 1) (eg 3) 10 (gc 3), wI (cy 1) (ef 3) 7 (xc 3), wO (ea 2) 2 [.ref (eg 2), .ref (ef 2), .int (et 2), .int (nI ((el 2))), .int (nI ((ei 2)))], wO s0 7 [.ref s1, .ref s2, .int (nI sl), .int spl, .int svo, .int swi, .int sch], wI (cy 1) s1 10 (fw)]) (rest := []) ⟨hx, hb, hml, hown, hg, hl.1⟩ k_X6_101 (s_led l D cy p0 p1 p2 p3 p4 er ro ch s0 h0 h1 h2 h3 h4 h5 h6 h7 h8 h9 h10 h11 ((.int ys)) hv1 hv2 hv3 hv4 fc c0 c1 c2 c3 fx lx4_77 x_103 (hcn) (by omega) (by omega) (by omega) (by omega) (hnx)) E0_blind hK hP hD hS hA [16, 17, 18, 2] [0, 1, 3, 4, 5, 6, 7, 8, 9, 10, 11, 12, 13, 14, 15, 19, 20] ⟨rfl, rfl, by decide +kernel, by decide +kernel, by decide +kernel⟩ rfl rfl (fun _ _ _ => trivial) dX6_canBeYesBy_117 rfl rfl (Nat.le_of_ble_eq_true rfl) ⟨Nat.le_of_ble_eq_true rfl, Nat.le_of_ble_eq_true rfl⟩ ⟨Nat.le_of_ble_eq_true rfl, Nat.le_of_ble_eq_true rfl⟩ (fun zr104 zu104 H locs hw104 hP9 hD9 hS9 => ?_)
                clear hP hD hS
                refine reW [wI (cy 1) p3 4 (fne), wI (cy 1) p4 40 (fqi), (er, .inl (cy 4, 4, .inr (.inr (.inr (.inr (eF (ea 0) (ea 1) (ea 2) (ea 3))))))), wO (ea 0) 2 [.ref (eg 0), .ref (ef 0), .int (et 0), .int (nI (el 0)), .int (nI (ei 0))], wI (cy 1) (eg 0) 10 (gc 0), wI (cy 1) (ef 0) 7 (xc 0), wO (ea 1) 2 [.ref (eg 1), .ref (ef 1), .int (et 1), .int (nI (el 1)), .int (nI (ei 1))], wI (cy 1) (eg 1) 10 (gc 1), wI (cy 1) (ef 1) 7 (xc 1), wI (cy 1) (eg 2) 10 (gc 2), wI (cy 1) (ef 2) 7 (xc 2), wO (ea 3) 2 [.ref (eg 3), .ref (ef 3), .int (et 3), .int (nI (el 3)), .int (nI (ei 3))], wI (cy 1) (eg 3) 10 (gc 3), wI (cy 1) (ef 3) 7 (xc 3), wO (ea 2) 2 [.ref (eg 2), .ref (ef 2), .int (et 2), .int (nI ((el 2))), .int (nI ((ei 2)))], wO s0 7 [.ref s1, .ref s2, .int (nI sl), .int spl, .int svo, .int swi, .int sch], wI (cy 1) s1 10 (fw), wO p0 6 [.ref p1, .ref er, .ref ro, .ref p2, .ref p3, .ref p4, .ref h0, .ref s0, .int (nI ch)], wO h0 4 [.ref h1, .ref h2, .ref h3, .ref h4, .ref h5, .ref h6, .ref h7, .ref h8, .ref h9, .ref h10, .ref h11, .int ys, hv1, hv2, hv3, hv4], wI (cy 1) h1 4 (fc), wI (cy 1) h7 48 (fx)] hP9 hD9 hS9 (fun hP hD hS => ?_)
                clear hP9 hD9 hS9
                refine W.widen (k := 0) (n := 0) (Nat.le_of_ble_eq_true rfl) (Nat.le_of_ble_eq_true rfl) ?_
                replace hw104 : True := hw104
                refine lv_istore (lv' := [(10, .int zr104), (9, .int 1), (8, .int x_89), (7, .int (nI k_82)), (6, .int (nI i77)), (5, .int lx5_77), (4, .int lx4_77), (3, .ref (ea 2)), (0, .ref p0), (1, .int (nI rk)), (2, .int cg)]) hx hb dX6_canBeYesBy_120 hl (by decide) rfl (fun ls hl => ?_)
                refine lv_iload hx hb dX6_canBeYesBy_122 (lv_at hl 1 rfl) ?_
                refine lv_if_eq (tgt := 135) hx hb dX6_canBeYesBy_124 (by decide) (fun h => absurd h (by decide)) (fun _ => ?_)
                refine lv_iload hx hb dX6_canBeYesBy_127 (lv_at hl 6 rfl) ?_
                refine lv_iload hx hb dX6_canBeYesBy_129 (lv_at hl 0 rfl) ?_
                refine lv_ior hx hb dX6_canBeYesBy_131 ?_
                refine lv_topi (fun x_105 ex_105 => ?_)
                refine lv_goto (tgt := 137) hx hb dX6_canBeYesBy_132 (by decide) ?_
                refine lv_istore (lv' := [(4, .int x_105), (10, .int zr104), (9, .int 1), (8, .int x_89), (7, .int (nI k_82)), (6, .int (nI i77)), (5, .int lx5_77), (3, .ref (ea 2)), (0, .ref p0), (1, .int (nI rk)), (2, .int cg)]) hx hb dX6_canBeYesBy_137 hl (by decide) rfl (fun ls hl => ?_)
                refine lv_iload hx hb dX6_canBeYesBy_139 (lv_at hl 6 rfl) ?_
                refine lv_if_eq (tgt := 153) hx hb dX6_canBeYesBy_141 (by decide) (fun _ => ?_) (fun h => absurd c_93 h)
                refine lv_iconst (v := 0) hx hb dX6_canBeYesBy_153 (by decide) ?_
                refine lv_istore (lv' := [(5, .int 0), (4, .int x_105), (10, .int zr104), (9, .int 1), (8, .int x_89), (7, .int (nI k_82)), (6, .int (nI i77)), (3, .ref (ea 2)), (0, .ref p0), (1, .int (nI rk)), (2, .int cg)]) hx hb dX6_canBeYesBy_154 hl (by decide) rfl (fun ls hl => ?_)
                refine lv_iinc (v := nI (i77 + 1)) (lv' := [(6, .int (nI (i77 + 1))), (5, .int 0), (4, .int x_105), (10, .int zr104), (9, .int 1), (8, .int x_89), (7, .int (nI k_82)), (3, .ref (ea 2)), (0, .ref p0), (1, .int (nI rk)), (2, .int cg)]) hx hb dX6_canBeYesBy_156 hl (k := 6) rfl (nI_add i77 1) (by decide) rfl (fun ls hl => ?_)
                refine lv_goto (tgt := 21) hx hb dX6_canBeYesBy_159 (by decide) ?_
                exact ih77  x_105 0 ((i77 + 1)) (by omega) (by omega) _ _ (hP.sub [17, 0, 1, 18, 19, 20, 15, 16, 2, 3, 4, 5, 6, 7, 8, 14, 9, 10, 11, 12, 13] rfl) (hD.sub [17, 0, 1, 18, 19, 20, 15, 16, 2, 3, 4, 5, 6, 7, 8, 14, 9, 10, 11, 12, 13] (by decide +kernel) rfl) hS ls (lv_sub hl [0, 1, 2, 7, 8, 9, 10] rfl)
              · refine lv_iload hx hb dX6_canBeYesBy_96 (lv_at hl 5 rfl) ?_
                refine lv_iconst (v := 1) hx hb dX6_canBeYesBy_98 (by decide) ?_
                refine lv_ior hx hb dX6_canBeYesBy_99 ?_
                refine lv_topi (fun x_106 ex_106 => ?_)
                refine lv_goto (tgt := 105) hx hb dX6_canBeYesBy_100 (by decide) ?_
                refine lv_iload hx hb dX6_canBeYesBy_105 (lv_at hl 1 rfl) ?_
                refine lv_aload_n hx hb dX6_canBeYesBy_107 rfl (lv_at hl 6 rfl) ?_
                refine va_get (D := D) (ci := 2) (v := .ref (eg 2)) (C := RX2) (T := TX2) (N := 5) hx hb hg i_X2 hown hK hP 15 rfl rfl 0 (by decide) (hg _ m_513) (fun _ h9 => h9) rfl dX6_canBeYesBy_108 ?_
                refine lv_iload hx hb dX6_canBeYesBy_111 (lv_at hl 2 rfl) ?_
                refine va_iald hx hb hK hP 10 1 rfl rfl (vp_in_nI (by omega) (by decide)) dX6_canBeYesBy_113 ?_
                refine lv_topi (fun x_107 ex_107 => ?_)
                refine lv_iconst (v := -1) hx hb dX6_canBeYesBy_114 (by decide) ?_
                refine lv_ixor hx hb dX6_canBeYesBy_115 ?_
                refine lv_topi (fun x_108 ex_108 => ?_)
                refine lv_iand hx hb dX6_canBeYesBy_116 ?_
                refine lv_topi (fun x_109 ex_109 => ?_)
                refine x_callVi (q := (RX6, TX6, 9)) (ci := 6) (q0 := 0) (wr := [wI (cy 1) p3 4 (fne), wI (cy 1) p4 40 (fqi), (er, .inl (cy 4, 4, .inr (.inr (.inr (.inr (eF (ea 0) (ea 1) (ea 2) (ea 3))))))), wO (ea 0) 2 [.ref (eg 0), .ref (ef 0), .int (et 0), .int (nI (el 0)), .int (nI (ei 0))], wI (cy 1) (eg 0) 10 (gc 0), wI (cy 1) (ef 0) 7 (xc 0), wO (ea 1) 2 [.ref (eg 1), .ref (ef 1), .int (et 1), .int (nI (el 1)), .int (nI (ei 1))], wI (cy 1) (eg 1) 10 (gc 1), wI (cy 1) (ef 1) 7 (xc 1), wI (cy 1) (eg 2) 10 (gc 2), wI (cy 1) (ef 2) 7 (xc 2), wO (ea 3) 2 [.ref (eg 3), .ref (ef 3), .int (et 3), .int (nI (el 3)), .int (nI (ei 3))], wI (cy 1) (eg 3) 10 (gc 3), wI (cy 1) (ef 3) 7 (xc 3), wO (ea 2) 2 [.ref (eg 2), .ref (ef 2), .int (et 2), .int (nI ((el 2))), .int (nI ((ei 2)))], wO s0 7 [.ref s1, .ref s2, .int (nI sl), .int spl, .int svo, .int swi, .int sch], wI (cy 1) s1 10 (fw)]) (rest := []) ⟨hx, hb, hml, hown, hg, hl.1⟩ k_X6_101 (s_led l D cy p0 p1 p2 p3 p4 er ro ch s0 h0 h1 h2 h3 h4 h5 h6 h7 h8 h9 h10 h11 ((.int ys)) hv1 hv2 hv3 hv4 fc c0 c1 c2 c3 fx x_106 x_109 (hcn) (by omega) (by omega) (by omega) (by omega) (hnx)) E0_blind hK hP hD hS hA [16, 17, 18, 2] [0, 1, 3, 4, 5, 6, 7, 8, 9, 10, 11, 12, 13, 14, 15, 19, 20] ⟨rfl, rfl, by decide +kernel, by decide +kernel, by decide +kernel⟩ rfl rfl (fun _ _ _ => trivial) dX6_canBeYesBy_117 rfl rfl (Nat.le_of_ble_eq_true rfl) ⟨Nat.le_of_ble_eq_true rfl, Nat.le_of_ble_eq_true rfl⟩ ⟨Nat.le_of_ble_eq_true rfl, Nat.le_of_ble_eq_true rfl⟩ (fun zr110 zu110 H locs hw110 hP9 hD9 hS9 => ?_)
                clear hP hD hS
                refine reW [wI (cy 1) p3 4 (fne), wI (cy 1) p4 40 (fqi), (er, .inl (cy 4, 4, .inr (.inr (.inr (.inr (eF (ea 0) (ea 1) (ea 2) (ea 3))))))), wO (ea 0) 2 [.ref (eg 0), .ref (ef 0), .int (et 0), .int (nI (el 0)), .int (nI (ei 0))], wI (cy 1) (eg 0) 10 (gc 0), wI (cy 1) (ef 0) 7 (xc 0), wO (ea 1) 2 [.ref (eg 1), .ref (ef 1), .int (et 1), .int (nI (el 1)), .int (nI (ei 1))], wI (cy 1) (eg 1) 10 (gc 1), wI (cy 1) (ef 1) 7 (xc 1), wI (cy 1) (eg 2) 10 (gc 2), wI (cy 1) (ef 2) 7 (xc 2), wO (ea 3) 2 [.ref (eg 3), .ref (ef 3), .int (et 3), .int (nI (el 3)), .int (nI (ei 3))], wI (cy 1) (eg 3) 10 (gc 3), wI (cy 1) (ef 3) 7 (xc 3), wO (ea 2) 2 [.ref (eg 2), .ref (ef 2), .int (et 2), .int (nI ((el 2))), .int (nI ((ei 2)))], wO s0 7 [.ref s1, .ref s2, .int (nI sl), .int spl, .int svo, .int swi, .int sch], wI (cy 1) s1 10 (fw), wO p0 6 [.ref p1, .ref er, .ref ro, .ref p2, .ref p3, .ref p4, .ref h0, .ref s0, .int (nI ch)], wO h0 4 [.ref h1, .ref h2, .ref h3, .ref h4, .ref h5, .ref h6, .ref h7, .ref h8, .ref h9, .ref h10, .ref h11, .int ys, hv1, hv2, hv3, hv4], wI (cy 1) h1 4 (fc), wI (cy 1) h7 48 (fx)] hP9 hD9 hS9 (fun hP hD hS => ?_)
                clear hP9 hD9 hS9
                refine W.widen (k := 0) (n := 0) (Nat.le_of_ble_eq_true rfl) (Nat.le_of_ble_eq_true rfl) ?_
                replace hw110 : True := hw110
                refine lv_istore (lv' := [(10, .int zr110), (9, .int 1), (8, .int x_89), (7, .int (nI k_82)), (6, .int (nI i77)), (5, .int lx5_77), (4, .int lx4_77), (3, .ref (ea 2)), (0, .ref p0), (1, .int (nI rk)), (2, .int cg)]) hx hb dX6_canBeYesBy_120 hl (by decide) rfl (fun ls hl => ?_)
                refine lv_iload hx hb dX6_canBeYesBy_122 (lv_at hl 1 rfl) ?_
                refine lv_if_eq (tgt := 135) hx hb dX6_canBeYesBy_124 (by decide) (fun h => absurd h (by decide)) (fun _ => ?_)
                refine lv_iload hx hb dX6_canBeYesBy_127 (lv_at hl 6 rfl) ?_
                refine lv_iload hx hb dX6_canBeYesBy_129 (lv_at hl 0 rfl) ?_
                refine lv_ior hx hb dX6_canBeYesBy_131 ?_
                refine lv_topi (fun x_111 ex_111 => ?_)
                refine lv_goto (tgt := 137) hx hb dX6_canBeYesBy_132 (by decide) ?_
                refine lv_istore (lv' := [(4, .int x_111), (10, .int zr110), (9, .int 1), (8, .int x_89), (7, .int (nI k_82)), (6, .int (nI i77)), (5, .int lx5_77), (3, .ref (ea 2)), (0, .ref p0), (1, .int (nI rk)), (2, .int cg)]) hx hb dX6_canBeYesBy_137 hl (by decide) rfl (fun ls hl => ?_)
                refine lv_iload hx hb dX6_canBeYesBy_139 (lv_at hl 6 rfl) ?_
                refine lv_if_eq (tgt := 153) hx hb dX6_canBeYesBy_141 (by decide) (fun h => absurd h c_93) (fun _ => ?_)
                refine lv_iload hx hb dX6_canBeYesBy_144 (lv_at hl 2 rfl) ?_
                refine lv_if_eq (tgt := 153) hx hb dX6_canBeYesBy_146 (by decide) (fun h => absurd h (by decide)) (fun _ => ?_)
                refine lv_iconst (v := 1) hx hb dX6_canBeYesBy_149 (by decide) ?_
                refine lv_goto (tgt := 154) hx hb dX6_canBeYesBy_150 (by decide) ?_
                refine lv_istore (lv' := [(5, .int 1), (4, .int x_111), (10, .int zr110), (9, .int 1), (8, .int x_89), (7, .int (nI k_82)), (6, .int (nI i77)), (3, .ref (ea 2)), (0, .ref p0), (1, .int (nI rk)), (2, .int cg)]) hx hb dX6_canBeYesBy_154 hl (by decide) rfl (fun ls hl => ?_)
                refine lv_iinc (v := nI (i77 + 1)) (lv' := [(6, .int (nI (i77 + 1))), (5, .int 1), (4, .int x_111), (10, .int zr110), (9, .int 1), (8, .int x_89), (7, .int (nI k_82)), (3, .ref (ea 2)), (0, .ref p0), (1, .int (nI rk)), (2, .int cg)]) hx hb dX6_canBeYesBy_156 hl (k := 6) rfl (nI_add i77 1) (by decide) rfl (fun ls hl => ?_)
                refine lv_goto (tgt := 21) hx hb dX6_canBeYesBy_159 (by decide) ?_
                exact ih77  x_111 1 ((i77 + 1)) (by omega) (by omega) _ _ (hP.sub [17, 0, 1, 18, 19, 20, 15, 16, 2, 3, 4, 5, 6, 7, 8, 14, 9, 10, 11, 12, 13] rfl) (hD.sub [17, 0, 1, 18, 19, 20, 15, 16, 2, 3, 4, 5, 6, 7, 8, 14, 9, 10, 11, 12, 13] (by decide +kernel) rfl) hS ls (lv_sub hl [0, 1, 2, 7, 8, 9, 10] rfl)
          · refine lv_iconst (v := 0) hx hb dX6_canBeYesBy_68 (by decide) ?_
            exact x_zret hQ hx hb hr hlocks hK hP hD hS rfl dX6_canBeYesBy_69 () ((Or.inl rfl)) [16, 0, 1, 17, 18, 2, 19, 20, 3, 4, 5, 6, 7, 8, 9, 15, 10, 11, 12, 13, 14] (by decide +kernel) rfl (Nat.le_of_ble_eq_true rfl) (Nat.le_of_ble_eq_true rfl)
    exact loop77 _ 0 1 0 (by omega) (Nat.le_refl _) _ _ (hP.sub [0, 1, 2, 3, 4, 5, 6, 7, 8, 9, 10, 11, 12, 13, 14, 15, 16, 17, 18, 19, 20] rfl) (hD.sub [0, 1, 2, 3, 4, 5, 6, 7, 8, 9, 10, 11, 12, 13, 14, 15, 16, 17, 18, 19, 20] (by decide +kernel) rfl) hS ls (lv_sub hl [0, 1, 2, 3, 4, 5, 6] rfl)
  · subst hsp
    refine va_aldq hx hb hK hP 8 4 rfl rfl (by unfold vp_in; decide) dX6_canBeYesBy_10 ?_
    refine W.eq (g2 := F0 m 11 ls [.ref (ea 3)]) rfl ?_
    have hesk := hes 3 (by omega)
    refine lv_astore_n (lv' := [(3, .ref (ea 3)), (0, .ref p0), (1, .int (nI rk)), (2, .int cg)]) hx hb dX6_canBeYesBy_11 rfl hl (by decide) rfl (fun ls hl => ?_)
    refine lv_iconst (v := 0) hx hb dX6_canBeYesBy_12 (by decide) ?_
    refine lv_istore (lv' := [(4, .int 0), (3, .ref (ea 3)), (0, .ref p0), (1, .int (nI rk)), (2, .int cg)]) hx hb dX6_canBeYesBy_13 hl (by decide) rfl (fun ls hl => ?_)
    refine lv_iconst (v := 1) hx hb dX6_canBeYesBy_15 (by decide) ?_
    refine lv_istore (lv' := [(5, .int 1), (4, .int 0), (3, .ref (ea 3)), (0, .ref p0), (1, .int (nI rk)), (2, .int cg)]) hx hb dX6_canBeYesBy_16 hl (by decide) rfl (fun ls hl => ?_)
    refine lv_iconst (v := 0) hx hb dX6_canBeYesBy_18 (by decide) ?_
    refine lv_istore (lv' := [(6, .int 0), (5, .int 1), (4, .int 0), (3, .ref (ea 3)), (0, .ref p0), (1, .int (nI rk)), (2, .int cg)]) hx hb dX6_canBeYesBy_19 hl (by decide) rfl (fun ls hl => ?_)
    have loop112 : ∀ (zn : Nat) (lx4_112 : Int32) (lx5_112 : Int32) (i112 : Nat), (i112 ≤ sl) → sl - i112 + 1 ≤ zn → ∀ (H : Heap) (locs : List Loc), va_P D vwCl [wO p0 6 [.ref p1, .ref er, .ref ro, .ref p2, .ref p3, .ref p4, .ref h0, .ref s0, .int (nI ch)], wI (cy 1) p3 4 (fne), wI (cy 1) p4 40 (fqi), wO h0 4 [.ref h1, .ref h2, .ref h3, .ref h4, .ref h5, .ref h6, .ref h7, .ref h8, .ref h9, .ref h10, .ref h11, .int ys, hv1, hv2, hv3, hv4], wI (cy 1) h1 4 (fc), wI (cy 1) h7 48 (fx), wO s0 7 [.ref s1, .ref s2, .int (nI sl), .int spl, .int svo, .int swi, .int sch], wI (cy 1) s1 10 (fw), (er, .inl (cy 4, 4, .inr (.inr (.inr (.inr (eF (ea 0) (ea 1) (ea 2) (ea 3))))))), wO (ea 0) 2 [.ref (eg 0), .ref (ef 0), .int (et 0), .int (nI (el 0)), .int (nI (ei 0))], wI (cy 1) (eg 0) 10 (gc 0), wI (cy 1) (ef 0) 7 (xc 0), wO (ea 1) 2 [.ref (eg 1), .ref (ef 1), .int (et 1), .int (nI (el 1)), .int (nI (ei 1))], wI (cy 1) (eg 1) 10 (gc 1), wI (cy 1) (ef 1) 7 (xc 1), wO (ea 2) 2 [.ref (eg 2), .ref (ef 2), .int (et 2), .int (nI (el 2)), .int (nI (ei 2))], wI (cy 1) (eg 2) 10 (gc 2), wI (cy 1) (ef 2) 7 (xc 2), wO (ea 3) 2 [.ref (eg 3), .ref (ef 3), .int (et 3), .int (nI (el 3)), .int (nI (ei 3))], wI (cy 1) (eg 3) 10 (gc 3), wI (cy 1) (ef 3) 7 (xc 3)] H → va_D A [wO p0 6 [.ref p1, .ref er, .ref ro, .ref p2, .ref p3, .ref p4, .ref h0, .ref s0, .int (nI ch)], wI (cy 1) p3 4 (fne), wI (cy 1) p4 40 (fqi), wO h0 4 [.ref h1, .ref h2, .ref h3, .ref h4, .ref h5, .ref h6, .ref h7, .ref h8, .ref h9, .ref h10, .ref h11, .int ys, hv1, hv2, hv3, hv4], wI (cy 1) h1 4 (fc), wI (cy 1) h7 48 (fx), wO s0 7 [.ref s1, .ref s2, .int (nI sl), .int spl, .int svo, .int swi, .int sch], wI (cy 1) s1 10 (fw), (er, .inl (cy 4, 4, .inr (.inr (.inr (.inr (eF (ea 0) (ea 1) (ea 2) (ea 3))))))), wO (ea 0) 2 [.ref (eg 0), .ref (ef 0), .int (et 0), .int (nI (el 0)), .int (nI (ei 0))], wI (cy 1) (eg 0) 10 (gc 0), wI (cy 1) (ef 0) 7 (xc 0), wO (ea 1) 2 [.ref (eg 1), .ref (ef 1), .int (et 1), .int (nI (el 1)), .int (nI (ei 1))], wI (cy 1) (eg 1) 10 (gc 1), wI (cy 1) (ef 1) 7 (xc 1), wO (ea 2) 2 [.ref (eg 2), .ref (ef 2), .int (et 2), .int (nI (el 2)), .int (nI (ei 2))], wI (cy 1) (eg 2) 10 (gc 2), wI (cy 1) (ef 2) 7 (xc 2), wO (ea 3) 2 [.ref (eg 3), .ref (ef 3), .int (et 3), .int (nI (el 3)), .int (nI (ei 3))], wI (cy 1) (eg 3) 10 (gc 3), wI (cy 1) (ef 3) 7 (xc 3)] → va_S A s.heap H locs → ∀ ls : Array Slot, lv_has ls 11 [(6, .int (nI i112)), (5, .int lx5_112), (4, .int lx4_112), (3, .ref (ea 3)), (0, .ref p0), (1, .int (nI rk)), (2, .int cg)] → W p l e (rmk 1 0 0) s m args below meth c H locs 0 0 Q (F0 m 21 ls []) := by
      try clear hP hD hS
      intro zn
      induction zn with
      | zero => intro lx4_112 lx5_112 i112 _ hz; exact absurd hz (by omega)
      | succ zn ih112 =>
        intro lx4_112 lx5_112 i112 hf0_112 hmu112 H locs hP hD hS ls hl
        refine lv_iload hx hb dX6_canBeYesBy_21 (lv_at hl 0 rfl) ?_
        refine lv_aload_n hx hb dX6_canBeYesBy_23 rfl (lv_at hl 4 rfl) ?_
        refine va_get (D := D) (ci := 6) (v := .ref s0) (C := RX6) (T := TX6) (N := 9) hx hb hg i_X6 hown hK hP 0 rfl rfl 7 (by decide) (hg _ m_592) (fun _ h9 => h9) rfl dX6_canBeYesBy_24 ?_
        refine va_get (D := D) (ci := 7) (v := .int (nI sl)) (C := RX7) (T := TX7) (N := 7) hx hb hg i_X7 hown hK hP 6 rfl rfl 2 (by decide) (hg _ m_630) (fun _ h9 => h9) rfl dX6_canBeYesBy_27 ?_
        refine lv_icmp_ge (tgt := 162) hx hb dX6_canBeYesBy_30 (by decide) (fun c_113 => ?_) (fun c_113 => ?_)
        · have q_114 : sl ≤ i112 := q_le (a := sl) (b := i112) rfl rfl (by omega) (by omega) c_113
          refine lv_iload hx hb dX6_canBeYesBy_162 (lv_at hl 2 rfl) ?_
          refine lv_aload_n hx hb dX6_canBeYesBy_164 rfl (lv_at hl 4 rfl) ?_
          refine va_get (D := D) (ci := 6) (v := .ref h0) (C := RX6) (T := TX6) (N := 9) hx hb hg i_X6 hown hK hP 0 rfl rfl 6 (by decide) (hg _ m_591) (fun _ h9 => h9) rfl dX6_canBeYesBy_165 ?_
          refine va_get (D := D) (ci := 4) (v := .int ys) (C := RX4) (T := TX4) (N := 16) hx hb hg i_X4 hown hK hP 3 rfl rfl 11 (by decide) (hg _ m_370) (fun _ h9 => h9) rfl dX6_canBeYesBy_168 ?_
          refine lv_iand hx hb dX6_canBeYesBy_171 ?_
          refine lv_topi (fun x_115 ex_115 => ?_)
          refine lv_if_eq (tgt := 179) hx hb dX6_canBeYesBy_172 (by decide) (fun c_172 => ?_) (fun c_172 => ?_)
          · refine lv_iconst (v := 0) hx hb dX6_canBeYesBy_179 (by decide) ?_
            exact x_zret hQ hx hb hr hlocks hK hP hD hS rfl dX6_canBeYesBy_180 () ((Or.inl rfl)) [0, 1, 2, 3, 4, 5, 6, 7, 8, 9, 10, 11, 12, 13, 14, 15, 16, 17, 18, 19, 20] (by decide +kernel) rfl (Nat.le_of_ble_eq_true rfl) (Nat.le_of_ble_eq_true rfl)
          · refine lv_iconst (v := 1) hx hb dX6_canBeYesBy_175 (by decide) ?_
            refine lv_goto (tgt := 180) hx hb dX6_canBeYesBy_176 (by decide) ?_
            exact x_zret hQ hx hb hr hlocks hK hP hD hS rfl dX6_canBeYesBy_180 () ((Or.inr rfl)) [0, 1, 2, 3, 4, 5, 6, 7, 8, 9, 10, 11, 12, 13, 14, 15, 16, 17, 18, 19, 20] (by decide +kernel) rfl (Nat.le_of_ble_eq_true rfl) (Nat.le_of_ble_eq_true rfl)
        · have q_114 : i112 < sl := q_nle (a := sl) (b := i112) rfl rfl (by omega) (by omega) c_113
          refine lv_aload_n hx hb dX6_canBeYesBy_33 rfl (lv_at hl 3 rfl) ?_
          refine lv_iload hx hb dX6_canBeYesBy_34 (lv_at hl 0 rfl) ?_
          refine x_callVi (q := (RX2, TX2, 5)) (ci := 2) (q0 := 0) (wr := [wO p0 6 [.ref p1, .ref er, .ref ro, .ref p2, .ref p3, .ref p4, .ref h0, .ref s0, .int (nI ch)], wI (cy 1) p3 4 (fne), wI (cy 1) p4 40 (fqi), wO h0 4 [.ref h1, .ref h2, .ref h3, .ref h4, .ref h5, .ref h6, .ref h7, .ref h8, .ref h9, .ref h10, .ref h11, .int ys, hv1, hv2, hv3, hv4], wI (cy 1) h1 4 (fc), wI (cy 1) h7 48 (fx), wO s0 7 [.ref s1, .ref s2, .int (nI sl), .int spl, .int svo, .int swi, .int sch], wI (cy 1) s1 10 (fw), (er, .inl (cy 4, 4, .inr (.inr (.inr (.inr (eF (ea 0) (ea 1) (ea 2) (ea 3))))))), wO (ea 0) 2 [.ref (eg 0), .ref (ef 0), .int (et 0), .int (nI (el 0)), .int (nI (ei 0))], wI (cy 1) (eg 0) 10 (gc 0), wI (cy 1) (ef 0) 7 (xc 0), wO (ea 1) 2 [.ref (eg 1), .ref (ef 1), .int (et 1), .int (nI (el 1)), .int (nI (ei 1))], wI (cy 1) (eg 1) 10 (gc 1), wI (cy 1) (ef 1) 7 (xc 1), wO (ea 2) 2 [.ref (eg 2), .ref (ef 2), .int (et 2), .int (nI (el 2)), .int (nI (ei 2))], wI (cy 1) (eg 2) 10 (gc 2), wI (cy 1) (ef 2) 7 (xc 2), wI (cy 1) (eg 3) 10 (gc 3), wI (cy 1) (ef 3) 7 (xc 3)]) (rest := []) ⟨hx, hb, hml, hown, hg, hl.1⟩ k_X6_94 (s_placeOf l D cy (ea 3) (eg 3) (ef 3) (et 3) ((el 3)) ((ei 3)) i112 (by omega) (by omega)) E0_blind hK hP hD hS hA [18] [0, 1, 2, 3, 4, 5, 6, 7, 8, 9, 10, 11, 12, 13, 14, 15, 16, 17, 19, 20] ⟨rfl, rfl, by decide +kernel, by decide +kernel, by decide +kernel⟩ rfl rfl (fun _ _ _ => trivial) dX6_canBeYesBy_36 rfl rfl (Nat.le_of_ble_eq_true rfl) ⟨Nat.le_of_ble_eq_true rfl, Nat.le_of_ble_eq_true rfl⟩ ⟨Nat.le_of_ble_eq_true rfl, Nat.le_of_ble_eq_true rfl⟩ (fun zr116 zu116 H locs hw116 hP9 hD9 hS9 => ?_)
          clear hP hD hS
          obtain ⟨k_117, rfl⟩ : ∃ z, z = zu116 := ⟨_, rfl⟩
          refine reW [wO p0 6 [.ref p1, .ref er, .ref ro, .ref p2, .ref p3, .ref p4, .ref h0, .ref s0, .int (nI ch)], wI (cy 1) p3 4 (fne), wI (cy 1) p4 40 (fqi), wO h0 4 [.ref h1, .ref h2, .ref h3, .ref h4, .ref h5, .ref h6, .ref h7, .ref h8, .ref h9, .ref h10, .ref h11, .int ys, hv1, hv2, hv3, hv4], wI (cy 1) h1 4 (fc), wI (cy 1) h7 48 (fx), wO s0 7 [.ref s1, .ref s2, .int (nI sl), .int spl, .int svo, .int swi, .int sch], wI (cy 1) s1 10 (fw), (er, .inl (cy 4, 4, .inr (.inr (.inr (.inr (eF (ea 0) (ea 1) (ea 2) (ea 3))))))), wO (ea 0) 2 [.ref (eg 0), .ref (ef 0), .int (et 0), .int (nI (el 0)), .int (nI (ei 0))], wI (cy 1) (eg 0) 10 (gc 0), wI (cy 1) (ef 0) 7 (xc 0), wO (ea 1) 2 [.ref (eg 1), .ref (ef 1), .int (et 1), .int (nI (el 1)), .int (nI (ei 1))], wI (cy 1) (eg 1) 10 (gc 1), wI (cy 1) (ef 1) 7 (xc 1), wO (ea 2) 2 [.ref (eg 2), .ref (ef 2), .int (et 2), .int (nI (el 2)), .int (nI (ei 2))], wI (cy 1) (eg 2) 10 (gc 2), wI (cy 1) (ef 2) 7 (xc 2), wI (cy 1) (eg 3) 10 (gc 3), wI (cy 1) (ef 3) 7 (xc 3), wO (ea 3) 2 [.ref (eg 3), .ref (ef 3), .int (et 3), .int (nI ((el 3))), .int (nI ((ei 3)))]] hP9 hD9 hS9 (fun hP hD hS => ?_)
          clear hP9 hD9 hS9
          refine W.widen (k := 0) (n := 0) (Nat.le_of_ble_eq_true rfl) (Nat.le_of_ble_eq_true rfl) ?_
          replace hw116 : (zr116 = nI k_117) ∧ (k_117 < ((el 3))) := hw116
          obtain ⟨f_118, f_119⟩ := hw116
          subst f_118
          refine lv_istore (lv' := [(7, .int (nI k_117)), (6, .int (nI i112)), (5, .int lx5_112), (4, .int lx4_112), (3, .ref (ea 3)), (0, .ref p0), (1, .int (nI rk)), (2, .int cg)]) hx hb dX6_canBeYesBy_39 hl (by decide) rfl (fun ls hl => ?_)
          refine lv_aload_n hx hb dX6_canBeYesBy_41 rfl (lv_at hl 5 rfl) ?_
          refine lv_iload hx hb dX6_canBeYesBy_42 (lv_at hl 0 rfl) ?_
          refine lv_iload_n hx hb dX6_canBeYesBy_44 rfl (lv_at hl 7 rfl) ?_
          refine x_callVi (q := (RX6, TX6, 9)) (ci := 6) (q0 := 0) (wr := [wI (cy 1) p3 4 (fne), wI (cy 1) p4 40 (fqi), wI (cy 1) h7 48 (fx), (er, .inl (cy 4, 4, .inr (.inr (.inr (.inr (eF (ea 0) (ea 1) (ea 2) (ea 3))))))), wO (ea 0) 2 [.ref (eg 0), .ref (ef 0), .int (et 0), .int (nI (el 0)), .int (nI (ei 0))], wI (cy 1) (eg 0) 10 (gc 0), wI (cy 1) (ef 0) 7 (xc 0), wO (ea 1) 2 [.ref (eg 1), .ref (ef 1), .int (et 1), .int (nI (el 1)), .int (nI (ei 1))], wI (cy 1) (eg 1) 10 (gc 1), wI (cy 1) (ef 1) 7 (xc 1), wO (ea 2) 2 [.ref (eg 2), .ref (ef 2), .int (et 2), .int (nI (el 2)), .int (nI (ei 2))], wI (cy 1) (eg 2) 10 (gc 2), wI (cy 1) (ef 2) 7 (xc 2), wI (cy 1) (eg 3) 10 (gc 3), wI (cy 1) (ef 3) 7 (xc 3), wO (ea 3) 2 [.ref (eg 3), .ref (ef 3), .int (et 3), .int (nI ((el 3))), .int (nI ((ei 3)))]]) (rest := []) ⟨hx, hb, hml, hown, hg, hl.1⟩ k_X6_98 (s_choices l D cy p0 p1 p2 p3 p4 er ro ch h0 h1 h2 h3 h4 h5 h6 h7 h8 h9 h10 h11 ((.int ys)) hv1 hv2 hv3 hv4 fc c0 c1 c2 c3 s0 s1 s2 sl spl svo swi sch fw k_117 cg (hcn) (by omega) (by omega) (by omega) (by omega) (hsw) (by omega)) E0_blind hK hP hD hS hA [0, 3, 4, 6, 7] [1, 2, 5, 8, 9, 10, 11, 12, 13, 14, 15, 16, 17, 18, 19, 20] ⟨rfl, rfl, by decide +kernel, by decide +kernel, by decide +kernel⟩ rfl rfl (fun _ _ _ => trivial) dX6_canBeYesBy_45 rfl rfl (Nat.le_of_ble_eq_true rfl) ⟨Nat.le_of_ble_eq_true rfl, Nat.le_of_ble_eq_true rfl⟩ ⟨Nat.le_of_ble_eq_true rfl, Nat.le_of_ble_eq_true rfl⟩ (fun zr120 zu120 H locs hw120 hP9 hD9 hS9 => ?_)
          clear hP hD hS
          refine reW [wI (cy 1) p3 4 (fne), wI (cy 1) p4 40 (fqi), wI (cy 1) h7 48 (fx), (er, .inl (cy 4, 4, .inr (.inr (.inr (.inr (eF (ea 0) (ea 1) (ea 2) (ea 3))))))), wO (ea 0) 2 [.ref (eg 0), .ref (ef 0), .int (et 0), .int (nI (el 0)), .int (nI (ei 0))], wI (cy 1) (eg 0) 10 (gc 0), wI (cy 1) (ef 0) 7 (xc 0), wO (ea 1) 2 [.ref (eg 1), .ref (ef 1), .int (et 1), .int (nI (el 1)), .int (nI (ei 1))], wI (cy 1) (eg 1) 10 (gc 1), wI (cy 1) (ef 1) 7 (xc 1), wO (ea 2) 2 [.ref (eg 2), .ref (ef 2), .int (et 2), .int (nI (el 2)), .int (nI (ei 2))], wI (cy 1) (eg 2) 10 (gc 2), wI (cy 1) (ef 2) 7 (xc 2), wI (cy 1) (eg 3) 10 (gc 3), wI (cy 1) (ef 3) 7 (xc 3), wO (ea 3) 2 [.ref (eg 3), .ref (ef 3), .int (et 3), .int (nI ((el 3))), .int (nI ((ei 3)))], wO p0 6 [.ref p1, .ref er, .ref ro, .ref p2, .ref p3, .ref p4, .ref h0, .ref s0, .int (nI ch)], wO h0 4 [.ref h1, .ref h2, .ref h3, .ref h4, .ref h5, .ref h6, .ref h7, .ref h8, .ref h9, .ref h10, .ref h11, .int ys, hv1, hv2, hv3, hv4], wI (cy 1) h1 4 (fc), wO s0 7 [.ref s1, .ref s2, .int (nI sl), .int spl, .int svo, .int swi, .int sch], wI (cy 1) s1 10 (fw)] hP9 hD9 hS9 (fun hP hD hS => ?_)
          clear hP9 hD9 hS9
          refine W.widen (k := 0) (n := 0) (Nat.le_of_ble_eq_true rfl) (Nat.le_of_ble_eq_true rfl) ?_
          replace hw120 : True := hw120
          refine lv_aload_n hx hb dX6_canBeYesBy_48 rfl (lv_at hl 5 rfl) ?_
          refine va_get (D := D) (ci := 6) (v := .ref p4) (C := RX6) (T := TX6) (N := 9) hx hb hg i_X6 hown hK hP 16 rfl rfl 5 (by decide) (hg _ m_590) (fun _ h9 => h9) rfl dX6_canBeYesBy_49 ?_
          refine lv_iload_n hx hb dX6_canBeYesBy_52 rfl (lv_at hl 6 rfl) ?_
          refine lv_bipush (v := 10) hx hb dX6_canBeYesBy_53 (by decide) ?_
          refine lv_imul hx hb dX6_canBeYesBy_55 ?_
          refine lv_topi (fun y_121 hy_121 => ?_)
          obtain rfl : y_121 = nI (rk * 10) := hy_121.trans (pk_mul rk 10)
          refine lv_iload hx hb dX6_canBeYesBy_56 (lv_at hl 0 rfl) ?_
          refine lv_iadd hx hb dX6_canBeYesBy_58 ?_
          refine lv_topi (fun y_122 hy_122 => ?_)
          obtain rfl : y_122 = nI ((rk * 10) + k_117) := hy_122.trans (nI_add ((rk * 10)) k_117)
          refine va_iald hx hb hK hP 1 1 rfl rfl (vp_in_nI (by omega) (by decide)) dX6_canBeYesBy_59 ?_
          refine lv_topi (fun x_123 ex_123 => ?_)
          refine lv_iand hx hb dX6_canBeYesBy_60 ?_
          refine lv_topi (fun x_124 ex_124 => ?_)
          refine lv_istore (lv' := [(8, .int x_124), (7, .int (nI k_117)), (6, .int (nI i112)), (5, .int lx5_112), (4, .int lx4_112), (3, .ref (ea 3)), (0, .ref p0), (1, .int (nI rk)), (2, .int cg)]) hx hb dX6_canBeYesBy_61 hl (by decide) rfl (fun ls hl => ?_)
          refine lv_iload hx hb dX6_canBeYesBy_63 (lv_at hl 0 rfl) ?_
          refine lv_if_ne (tgt := 70) hx hb dX6_canBeYesBy_65 (by decide) (fun c_65 => ?_) (fun c_65 => ?_)
          · refine lv_iload hx hb dX6_canBeYesBy_70 (lv_at hl 0 rfl) ?_
            refine lv_aload_n hx hb dX6_canBeYesBy_72 rfl (lv_at hl 5 rfl) ?_
            refine va_get (D := D) (ci := 2) (v := .ref (eg 3)) (C := RX2) (T := TX2) (N := 5) hx hb hg i_X2 hown hK hP 15 rfl rfl 0 (by decide) (hg _ m_513) (fun _ h9 => h9) rfl dX6_canBeYesBy_73 ?_
            refine lv_iload hx hb dX6_canBeYesBy_76 (lv_at hl 1 rfl) ?_
            refine va_iald hx hb hK hP 13 1 rfl rfl (vp_in_nI (by omega) (by decide)) dX6_canBeYesBy_78 ?_
            refine lv_topi (fun x_125 ex_125 => ?_)
            refine lv_iand hx hb dX6_canBeYesBy_79 ?_
            refine lv_topi (fun x_126 ex_126 => ?_)
            refine lv_if_eq (tgt := 87) hx hb dX6_canBeYesBy_80 (by decide) (fun c_80 => ?_) (fun c_80 => ?_)
            · refine lv_iconst (v := 0) hx hb dX6_canBeYesBy_87 (by decide) ?_
              refine lv_istore (lv' := [(9, .int 0), (8, .int x_124), (7, .int (nI k_117)), (6, .int (nI i112)), (5, .int lx5_112), (4, .int lx4_112), (3, .ref (ea 3)), (0, .ref p0), (1, .int (nI rk)), (2, .int cg)]) hx hb dX6_canBeYesBy_88 hl (by decide) rfl (fun ls hl => ?_)
              refine lv_aload_n hx hb dX6_canBeYesBy_90 rfl (lv_at hl 7 rfl) ?_
              refine lv_iload hx hb dX6_canBeYesBy_91 (lv_at hl 4 rfl) ?_
              refine lv_if_eq (tgt := 103) hx hb dX6_canBeYesBy_93 (by decide) (fun c_93 => ?_) (fun c_93 => ?_)
              · refine lv_iload hx hb dX6_canBeYesBy_103 (lv_at hl 5 rfl) ?_
                refine lv_iload hx hb dX6_canBeYesBy_105 (lv_at hl 1 rfl) ?_
                refine lv_aload_n hx hb dX6_canBeYesBy_107 rfl (lv_at hl 6 rfl) ?_
                refine va_get (D := D) (ci := 2) (v := .ref (eg 3)) (C := RX2) (T := TX2) (N := 5) hx hb hg i_X2 hown hK hP 15 rfl rfl 0 (by decide) (hg _ m_513) (fun _ h9 => h9) rfl dX6_canBeYesBy_108 ?_
                refine lv_iload hx hb dX6_canBeYesBy_111 (lv_at hl 2 rfl) ?_
                refine va_iald hx hb hK hP 13 1 rfl rfl (vp_in_nI (by omega) (by decide)) dX6_canBeYesBy_113 ?_
                refine lv_topi (fun x_127 ex_127 => ?_)
                refine lv_iconst (v := -1) hx hb dX6_canBeYesBy_114 (by decide) ?_
                refine lv_ixor hx hb dX6_canBeYesBy_115 ?_
                refine lv_topi (fun x_128 ex_128 => ?_)
                refine lv_iand hx hb dX6_canBeYesBy_116 ?_
                refine lv_topi (fun x_129 ex_129 => ?_)
                refine x_callVi (q := (RX6, TX6, 9)) (ci := 6) (q0 := 0) (wr := [wI (cy 1) p3 4 (fne), wI (cy 1) p4 40 (fqi), (er, .inl (cy 4, 4, .inr (.inr (.inr (.inr (eF (ea 0) (ea 1) (ea 2) (ea 3))))))), wO (ea 0) 2 [.ref (eg 0), .ref (ef 0), .int (et 0), .int (nI (el 0)), .int (nI (ei 0))], wI (cy 1) (eg 0) 10 (gc 0), wI (cy 1) (ef 0) 7 (xc 0), wO (ea 1) 2 [.ref (eg 1), .ref (ef 1), .int (et 1), .int (nI (el 1)), .int (nI (ei 1))], wI (cy 1) (eg 1) 10 (gc 1), wI (cy 1) (ef 1) 7 (xc 1), wO (ea 2) 2 [.ref (eg 2), .ref (ef 2), .int (et 2), .int (nI (el 2)), .int (nI (ei 2))], wI (cy 1) (eg 2) 10 (gc 2), wI (cy 1) (ef 2) 7 (xc 2), wI (cy 1) (eg 3) 10 (gc 3), wI (cy 1) (ef 3) 7 (xc 3), wO (ea 3) 2 [.ref (eg 3), .ref (ef 3), .int (et 3), .int (nI ((el 3))), .int (nI ((ei 3)))], wO s0 7 [.ref s1, .ref s2, .int (nI sl), .int spl, .int svo, .int swi, .int sch], wI (cy 1) s1 10 (fw)]) (rest := []) ⟨hx, hb, hml, hown, hg, hl.1⟩ k_X6_101 (s_led l D cy p0 p1 p2 p3 p4 er ro ch s0 h0 h1 h2 h3 h4 h5 h6 h7 h8 h9 h10 h11 ((.int ys)) hv1 hv2 hv3 hv4 fc c0 c1 c2 c3 fx lx4_112 x_129 (hcn) (by omega) (by omega) (by omega) (by omega) (hnx)) E0_blind hK hP hD hS hA [16, 17, 18, 2] [0, 1, 3, 4, 5, 6, 7, 8, 9, 10, 11, 12, 13, 14, 15, 19, 20] ⟨rfl, rfl, by decide +kernel, by decide +kernel, by decide +kernel⟩ rfl rfl (fun _ _ _ => trivial) dX6_canBeYesBy_117 rfl rfl (Nat.le_of_ble_eq_true rfl) ⟨Nat.le_of_ble_eq_true rfl, Nat.le_of_ble_eq_true rfl⟩ ⟨Nat.le_of_ble_eq_true rfl, Nat.le_of_ble_eq_true rfl⟩ (fun zr130 zu130 H locs hw130 hP9 hD9 hS9 => ?_)
                clear hP hD hS
                refine reW [wI (cy 1) p3 4 (fne), wI (cy 1) p4 40 (fqi), (er, .inl (cy 4, 4, .inr (.inr (.inr (.inr (eF (ea 0) (ea 1) (ea 2) (ea 3))))))), wO (ea 0) 2 [.ref (eg 0), .ref (ef 0), .int (et 0), .int (nI (el 0)), .int (nI (ei 0))], wI (cy 1) (eg 0) 10 (gc 0), wI (cy 1) (ef 0) 7 (xc 0), wO (ea 1) 2 [.ref (eg 1), .ref (ef 1), .int (et 1), .int (nI (el 1)), .int (nI (ei 1))], wI (cy 1) (eg 1) 10 (gc 1), wI (cy 1) (ef 1) 7 (xc 1), wO (ea 2) 2 [.ref (eg 2), .ref (ef 2), .int (et 2), .int (nI (el 2)), .int (nI (ei 2))], wI (cy 1) (eg 2) 10 (gc 2), wI (cy 1) (ef 2) 7 (xc 2), wI (cy 1) (eg 3) 10 (gc 3), wI (cy 1) (ef 3) 7 (xc 3), wO (ea 3) 2 [.ref (eg 3), .ref (ef 3), .int (et 3), .int (nI ((el 3))), .int (nI ((ei 3)))], wO s0 7 [.ref s1, .ref s2, .int (nI sl), .int spl, .int svo, .int swi, .int sch], wI (cy 1) s1 10 (fw), wO p0 6 [.ref p1, .ref er, .ref ro, .ref p2, .ref p3, .ref p4, .ref h0, .ref s0, .int (nI ch)], wO h0 4 [.ref h1, .ref h2, .ref h3, .ref h4, .ref h5, .ref h6, .ref h7, .ref h8, .ref h9, .ref h10, .ref h11, .int ys, hv1, hv2, hv3, hv4], wI (cy 1) h1 4 (fc), wI (cy 1) h7 48 (fx)] hP9 hD9 hS9 (fun hP hD hS => ?_)
                clear hP9 hD9 hS9
                refine W.widen (k := 0) (n := 0) (Nat.le_of_ble_eq_true rfl) (Nat.le_of_ble_eq_true rfl) ?_
                replace hw130 : True := hw130
                refine lv_istore (lv' := [(10, .int zr130), (9, .int 0), (8, .int x_124), (7, .int (nI k_117)), (6, .int (nI i112)), (5, .int lx5_112), (4, .int lx4_112), (3, .ref (ea 3)), (0, .ref p0), (1, .int (nI rk)), (2, .int cg)]) hx hb dX6_canBeYesBy_120 hl (by decide) rfl (fun ls hl => ?_)
                refine lv_iload hx hb dX6_canBeYesBy_122 (lv_at hl 1 rfl) ?_
                refine lv_if_eq (tgt := 135) hx hb dX6_canBeYesBy_124 (by decide) (fun _ => ?_) (fun h => absurd (by decide) h)
                refine lv_iload hx hb dX6_canBeYesBy_135 (lv_at hl 0 rfl) ?_
                refine lv_istore (lv' := [(4, .int zr130), (10, .int zr130), (9, .int 0), (8, .int x_124), (7, .int (nI k_117)), (6, .int (nI i112)), (5, .int lx5_112), (3, .ref (ea 3)), (0, .ref p0), (1, .int (nI rk)), (2, .int cg)]) hx hb dX6_canBeYesBy_137 hl (by decide) rfl (fun ls hl => ?_)
                refine lv_iload hx hb dX6_canBeYesBy_139 (lv_at hl 6 rfl) ?_
                refine lv_if_eq (tgt := 153) hx hb dX6_canBeYesBy_141 (by decide) (fun _ => ?_) (fun h => absurd c_93 h)
                refine lv_iconst (v := 0) hx hb dX6_canBeYesBy_153 (by decide) ?_
                refine lv_istore (lv' := [(5, .int 0), (4, .int zr130), (10, .int zr130), (9, .int 0), (8, .int x_124), (7, .int (nI k_117)), (6, .int (nI i112)), (3, .ref (ea 3)), (0, .ref p0), (1, .int (nI rk)), (2, .int cg)]) hx hb dX6_canBeYesBy_154 hl (by decide) rfl (fun ls hl => ?_)
                refine lv_iinc (v := nI (i112 + 1)) (lv' := [(6, .int (nI (i112 + 1))), (5, .int 0), (4, .int zr130), (10, .int zr130), (9, .int 0), (8, .int x_124), (7, .int (nI k_117)), (3, .ref (ea 3)), (0, .ref p0), (1, .int (nI rk)), (2, .int cg)]) hx hb dX6_canBeYesBy_156 hl (k := 6) rfl (nI_add i112 1) (by decide) rfl (fun ls hl => ?_)
                refine lv_goto (tgt := 21) hx hb dX6_canBeYesBy_159 (by decide) ?_
                exact ih112  zr130 0 ((i112 + 1)) (by omega) (by omega) _ _ (hP.sub [17, 0, 1, 18, 19, 20, 15, 16, 2, 3, 4, 5, 6, 7, 8, 9, 10, 11, 14, 12, 13] rfl) (hD.sub [17, 0, 1, 18, 19, 20, 15, 16, 2, 3, 4, 5, 6, 7, 8, 9, 10, 11, 14, 12, 13] (by decide +kernel) rfl) hS ls (lv_sub hl [0, 1, 2, 7, 8, 9, 10] rfl)
              · refine lv_iload hx hb dX6_canBeYesBy_96 (lv_at hl 5 rfl) ?_
                refine lv_iconst (v := 1) hx hb dX6_canBeYesBy_98 (by decide) ?_
                refine lv_ior hx hb dX6_canBeYesBy_99 ?_
                refine lv_topi (fun x_131 ex_131 => ?_)
                refine lv_goto (tgt := 105) hx hb dX6_canBeYesBy_100 (by decide) ?_
                refine lv_iload hx hb dX6_canBeYesBy_105 (lv_at hl 1 rfl) ?_
                refine lv_aload_n hx hb dX6_canBeYesBy_107 rfl (lv_at hl 6 rfl) ?_
                refine va_get (D := D) (ci := 2) (v := .ref (eg 3)) (C := RX2) (T := TX2) (N := 5) hx hb hg i_X2 hown hK hP 15 rfl rfl 0 (by decide) (hg _ m_513) (fun _ h9 => h9) rfl dX6_canBeYesBy_108 ?_
                refine lv_iload hx hb dX6_canBeYesBy_111 (lv_at hl 2 rfl) ?_
                refine va_iald hx hb hK hP 13 1 rfl rfl (vp_in_nI (by omega) (by decide)) dX6_canBeYesBy_113 ?_
                refine lv_topi (fun x_132 ex_132 => ?_)
                refine lv_iconst (v := -1) hx hb dX6_canBeYesBy_114 (by decide) ?_
                refine lv_ixor hx hb dX6_canBeYesBy_115 ?_
                refine lv_topi (fun x_133 ex_133 => ?_)
                refine lv_iand hx hb dX6_canBeYesBy_116 ?_
                refine lv_topi (fun x_134 ex_134 => ?_)
                refine x_callVi (q := (RX6, TX6, 9)) (ci := 6) (q0 := 0) (wr := [wI (cy 1) p3 4 (fne), wI (cy 1) p4 40 (fqi), (er, .inl (cy 4, 4, .inr (.inr (.inr (.inr (eF (ea 0) (ea 1) (ea 2) (ea 3))))))), wO (ea 0) 2 [.ref (eg 0), .ref (ef 0), .int (et 0), .int (nI (el 0)), .int (nI (ei 0))], wI (cy 1) (eg 0) 10 (gc 0), wI (cy 1) (ef 0) 7 (xc 0), wO (ea 1) 2 [.ref (eg 1), .ref (ef 1), .int (et 1), .int (nI (el 1)), .int (nI (ei 1))], wI (cy 1) (eg 1) 10 (gc 1), wI (cy 1) (ef 1) 7 (xc 1), wO (ea 2) 2 [.ref (eg 2), .ref (ef 2), .int (et 2), .int (nI (el 2)), .int (nI (ei 2))], wI (cy 1) (eg 2) 10 (gc 2), wI (cy 1) (ef 2) 7 (xc 2), wI (cy 1) (eg 3) 10 (gc 3), wI (cy 1) (ef 3) 7 (xc 3), wO (ea 3) 2 [.ref (eg 3), .ref (ef 3), .int (et 3), .int (nI ((el 3))), .int (nI ((ei 3)))], wO s0 7 [.ref s1, .ref s2, .int (nI sl), .int spl, .int svo, .int swi, .int sch], wI (cy 1) s1 10 (fw)]) (rest := []) ⟨hx, hb, hml, hown, hg, hl.1⟩ k_X6_101 (s_led l D cy p0 p1 p2 p3 p4 er ro ch s0 h0 h1 h2 h3 h4 h5 h6 h7 h8 h9 h10 h11 ((.int ys)) hv1 hv2 hv3 hv4 fc c0 c1 c2 c3 fx x_131 x_134 (hcn) (by omega) (by omega) (by omega) (by omega) (hnx)) E0_blind hK hP hD hS hA [16, 17, 18, 2] [0, 1, 3, 4, 5, 6, 7, 8, 9, 10, 11, 12, 13, 14, 15, 19, 20] ⟨rfl, rfl, by decide +kernel, by decide +kernel, by decide +kernel⟩ rfl rfl (fun _ _ _ => trivial) dX6_canBeYesBy_117 rfl rfl (Nat.le_of_ble_eq_true rfl) ⟨Nat.le_of_ble_eq_true rfl, Nat.le_of_ble_eq_true rfl⟩ ⟨Nat.le_of_ble_eq_true rfl, Nat.le_of_ble_eq_true rfl⟩ (fun zr135 zu135 H locs hw135 hP9 hD9 hS9 => ?_)
                clear hP hD hS
                refine reW [wI (cy 1) p3 4 (fne), wI (cy 1) p4 40 (fqi), (er, .inl (cy 4, 4, .inr (.inr (.inr (.inr (eF (ea 0) (ea 1) (ea 2) (ea 3))))))), wO (ea 0) 2 [.ref (eg 0), .ref (ef 0), .int (et 0), .int (nI (el 0)), .int (nI (ei 0))], wI (cy 1) (eg 0) 10 (gc 0), wI (cy 1) (ef 0) 7 (xc 0), wO (ea 1) 2 [.ref (eg 1), .ref (ef 1), .int (et 1), .int (nI (el 1)), .int (nI (ei 1))], wI (cy 1) (eg 1) 10 (gc 1), wI (cy 1) (ef 1) 7 (xc 1), wO (ea 2) 2 [.ref (eg 2), .ref (ef 2), .int (et 2), .int (nI (el 2)), .int (nI (ei 2))], wI (cy 1) (eg 2) 10 (gc 2), wI (cy 1) (ef 2) 7 (xc 2), wI (cy 1) (eg 3) 10 (gc 3), wI (cy 1) (ef 3) 7 (xc 3), wO (ea 3) 2 [.ref (eg 3), .ref (ef 3), .int (et 3), .int (nI ((el 3))), .int (nI ((ei 3)))], wO s0 7 [.ref s1, .ref s2, .int (nI sl), .int spl, .int svo, .int swi, .int sch], wI (cy 1) s1 10 (fw), wO p0 6 [.ref p1, .ref er, .ref ro, .ref p2, .ref p3, .ref p4, .ref h0, .ref s0, .int (nI ch)], wO h0 4 [.ref h1, .ref h2, .ref h3, .ref h4, .ref h5, .ref h6, .ref h7, .ref h8, .ref h9, .ref h10, .ref h11, .int ys, hv1, hv2, hv3, hv4], wI (cy 1) h1 4 (fc), wI (cy 1) h7 48 (fx)] hP9 hD9 hS9 (fun hP hD hS => ?_)
                clear hP9 hD9 hS9
                refine W.widen (k := 0) (n := 0) (Nat.le_of_ble_eq_true rfl) (Nat.le_of_ble_eq_true rfl) ?_
                replace hw135 : True := hw135
                refine lv_istore (lv' := [(10, .int zr135), (9, .int 0), (8, .int x_124), (7, .int (nI k_117)), (6, .int (nI i112)), (5, .int lx5_112), (4, .int lx4_112), (3, .ref (ea 3)), (0, .ref p0), (1, .int (nI rk)), (2, .int cg)]) hx hb dX6_canBeYesBy_120 hl (by decide) rfl (fun ls hl => ?_)
                refine lv_iload hx hb dX6_canBeYesBy_122 (lv_at hl 1 rfl) ?_
                refine lv_if_eq (tgt := 135) hx hb dX6_canBeYesBy_124 (by decide) (fun _ => ?_) (fun h => absurd (by decide) h)
                refine lv_iload hx hb dX6_canBeYesBy_135 (lv_at hl 0 rfl) ?_
                refine lv_istore (lv' := [(4, .int zr135), (10, .int zr135), (9, .int 0), (8, .int x_124), (7, .int (nI k_117)), (6, .int (nI i112)), (5, .int lx5_112), (3, .ref (ea 3)), (0, .ref p0), (1, .int (nI rk)), (2, .int cg)]) hx hb dX6_canBeYesBy_137 hl (by decide) rfl (fun ls hl => ?_)
                refine lv_iload hx hb dX6_canBeYesBy_139 (lv_at hl 6 rfl) ?_
                refine lv_if_eq (tgt := 153) hx hb dX6_canBeYesBy_141 (by decide) (fun h => absurd h c_93) (fun _ => ?_)
                refine lv_iload hx hb dX6_canBeYesBy_144 (lv_at hl 2 rfl) ?_
                refine lv_if_eq (tgt := 153) hx hb dX6_canBeYesBy_146 (by decide) (fun _ => ?_) (fun h => absurd (by decide) h)
                refine lv_iconst (v := 0) hx hb dX6_canBeYesBy_153 (by decide) ?_
                refine lv_istore (lv' := [(5, .int 0), (4, .int zr135), (10, .int zr135), (9, .int 0), (8, .int x_124), (7, .int (nI k_117)), (6, .int (nI i112)), (3, .ref (ea 3)), (0, .ref p0), (1, .int (nI rk)), (2, .int cg)]) hx hb dX6_canBeYesBy_154 hl (by decide) rfl (fun ls hl => ?_)
                refine lv_iinc (v := nI (i112 + 1)) (lv' := [(6, .int (nI (i112 + 1))), (5, .int 0), (4, .int zr135), (10, .int zr135), (9, .int 0), (8, .int x_124), (7, .int (nI k_117)), (3, .ref (ea 3)), (0, .ref p0), (1, .int (nI rk)), (2, .int cg)]) hx hb dX6_canBeYesBy_156 hl (k := 6) rfl (nI_add i112 1) (by decide) rfl (fun ls hl => ?_)
                refine lv_goto (tgt := 21) hx hb dX6_canBeYesBy_159 (by decide) ?_
                exact ih112  zr135 0 ((i112 + 1)) (by omega) (by omega) _ _ (hP.sub [17, 0, 1, 18, 19, 20, 15, 16, 2, 3, 4, 5, 6, 7, 8, 9, 10, 11, 14, 12, 13] rfl) (hD.sub [17, 0, 1, 18, 19, 20, 15, 16, 2, 3, 4, 5, 6, 7, 8, 9, 10, 11, 14, 12, 13] (by decide +kernel) rfl) hS ls (lv_sub hl [0, 1, 2, 7, 8, 9, 10] rfl)
            · refine lv_iconst (v := 1) hx hb dX6_canBeYesBy_83 (by decide) ?_
              refine lv_goto (tgt := 88) hx hb dX6_canBeYesBy_84 (by decide) ?_
              refine lv_istore (lv' := [(9, .int 1), (8, .int x_124), (7, .int (nI k_117)), (6, .int (nI i112)), (5, .int lx5_112), (4, .int lx4_112), (3, .ref (ea 3)), (0, .ref p0), (1, .int (nI rk)), (2, .int cg)]) hx hb dX6_canBeYesBy_88 hl (by decide) rfl (fun ls hl => ?_)
              refine lv_aload_n hx hb dX6_canBeYesBy_90 rfl (lv_at hl 7 rfl) ?_
              refine lv_iload hx hb dX6_canBeYesBy_91 (lv_at hl 4 rfl) ?_
              refine lv_if_eq (tgt := 103) hx hb dX6_canBeYesBy_93 (by decide) (fun c_93 => ?_) (fun c_93 => ?_)
              · refine lv_iload hx hb dX6_canBeYesBy_103 (lv_at hl 5 rfl) ?_
                refine lv_iload hx hb dX6_canBeYesBy_105 (lv_at hl 1 rfl) ?_
                refine lv_aload_n hx hb dX6_canBeYesBy_107 rfl (lv_at hl 6 rfl) ?_
                refine va_get (D := D) (ci := 2) (v := .ref (eg 3)) (C := RX2) (T := TX2) (N := 5) hx hb hg i_X2 hown hK hP 15 rfl rfl 0 (by decide) (hg _ m_513) (fun _ h9 => h9) rfl dX6_canBeYesBy_108 ?_
                refine lv_iload hx hb dX6_canBeYesBy_111 (lv_at hl 2 rfl) ?_
                refine va_iald hx hb hK hP 13 1 rfl rfl (vp_in_nI (by omega) (by decide)) dX6_canBeYesBy_113 ?_
                refine lv_topi (fun x_136 ex_136 => ?_)
                refine lv_iconst (v := -1) hx hb dX6_canBeYesBy_114 (by decide) ?_
                refine lv_ixor hx hb dX6_canBeYesBy_115 ?_
                refine lv_topi (fun x_137 ex_137 => ?_)
                refine lv_iand hx hb dX6_canBeYesBy_116 ?_
                refine lv_topi (fun x_138 ex_138 => ?_)
                refine x_callVi (q := (RX6, TX6, 9)) (ci := 6) (q0 := 0) (wr := [wI (cy 1) p3 4 (fne), wI (cy 1) p4 40 (fqi), (er, .inl (cy 4, 4, .inr (.inr (.inr (.inr (eF (ea 0) (ea 1) (ea 2) (ea 3))))))), wO (ea 0) 2 [.ref (eg 0), .ref (ef 0), .int (et 0), .int (nI (el 0)), .int (nI (ei 0))], wI (cy 1) (eg 0) 10 (gc 0), wI (cy 1) (ef 0) 7 (xc 0), wO (ea 1) 2 [.ref (eg 1), .ref (ef 1), .int (et 1), .int (nI (el 1)), .int (nI (ei 1))], wI (cy 1) (eg 1) 10 (gc 1), wI (cy 1) (ef 1) 7 (xc 1), wO (ea 2) 2 [.ref (eg 2), .ref (ef 2), .int (et 2), .int (nI (el 2)), .int (nI (ei 2))], wI (cy 1) (eg 2) 10 (gc 2), wI (cy 1) (ef 2) 7 (xc 2), wI (cy 1) (eg 3) 10 (gc 3), wI (cy 1) (ef 3) 7 (xc 3), wO (ea 3) 2 [.ref (eg 3), .ref (ef 3), .int (et 3), .int (nI ((el 3))), .int (nI ((ei 3)))], wO s0 7 [.ref s1, .ref s2, .int (nI sl), .int spl, .int svo, .int swi, .int sch], wI (cy 1) s1 10 (fw)]) (rest := []) ⟨hx, hb, hml, hown, hg, hl.1⟩ k_X6_101 (s_led l D cy p0 p1 p2 p3 p4 er ro ch s0 h0 h1 h2 h3 h4 h5 h6 h7 h8 h9 h10 h11 ((.int ys)) hv1 hv2 hv3 hv4 fc c0 c1 c2 c3 fx lx4_112 x_138 (hcn) (by omega) (by omega) (by omega) (by omega) (hnx)) E0_blind hK hP hD hS hA [16, 17, 18, 2] [0, 1, 3, 4, 5, 6, 7, 8, 9, 10, 11, 12, 13, 14, 15, 19, 20] ⟨rfl, rfl, by decide +kernel, by decide +kernel, by decide +kernel⟩ rfl rfl (fun _ _ _ => trivial) dX6_canBeYesBy_117 rfl rfl (Nat.le_of_ble_eq_true rfl) ⟨Nat.le_of_ble_eq_true rfl, Nat.le_of_ble_eq_true rfl⟩ ⟨Nat.le_of_ble_eq_true rfl, Nat.le_of_ble_eq_true rfl⟩ (fun zr139 zu139 H locs hw139 hP9 hD9 hS9 => ?_)
                clear hP hD hS
                refine reW [wI (cy 1) p3 4 (fne), wI (cy 1) p4 40 (fqi), (er, .inl (cy 4, 4, .inr (.inr (.inr (.inr (eF (ea 0) (ea 1) (ea 2) (ea 3))))))), wO (ea 0) 2 [.ref (eg 0), .ref (ef 0), .int (et 0), .int (nI (el 0)), .int (nI (ei 0))], wI (cy 1) (eg 0) 10 (gc 0), wI (cy 1) (ef 0) 7 (xc 0), wO (ea 1) 2 [.ref (eg 1), .ref (ef 1), .int (et 1), .int (nI (el 1)), .int (nI (ei 1))], wI (cy 1) (eg 1) 10 (gc 1), wI (cy 1) (ef 1) 7 (xc 1), wO (ea 2) 2 [.ref (eg 2), .ref (ef 2), .int (et 2), .int (nI (el 2)), .int (nI (ei 2))], wI (cy 1) (eg 2) 10 (gc 2), wI (cy 1) (ef 2) 7 (xc 2), wI (cy 1) (eg 3) 10 (gc 3), wI (cy 1) (ef 3) 7 (xc 3), wO (ea 3) 2 [.ref (eg 3), .ref (ef 3), .int (et 3), .int (nI ((el 3))), .int (nI ((ei 3)))], wO s0 7 [.ref s1, .ref s2, .int (nI sl), .int spl, .int svo, .int swi, .int sch], wI (cy 1) s1 10 (fw), wO p0 6 [.ref p1, .ref er, .ref ro, .ref p2, .ref p3, .ref p4, .ref h0, .ref s0, .int (nI ch)], wO h0 4 [.ref h1, .ref h2, .ref h3, .ref h4, .ref h5, .ref h6, .ref h7, .ref h8, .ref h9, .ref h10, .ref h11, .int ys, hv1, hv2, hv3, hv4], wI (cy 1) h1 4 (fc), wI (cy 1) h7 48 (fx)] hP9 hD9 hS9 (fun hP hD hS => ?_)
                clear hP9 hD9 hS9
                refine W.widen (k := 0) (n := 0) (Nat.le_of_ble_eq_true rfl) (Nat.le_of_ble_eq_true rfl) ?_
                replace hw139 : True := hw139
                refine lv_istore (lv' := [(10, .int zr139), (9, .int 1), (8, .int x_124), (7, .int (nI k_117)), (6, .int (nI i112)), (5, .int lx5_112), (4, .int lx4_112), (3, .ref (ea 3)), (0, .ref p0), (1, .int (nI rk)), (2, .int cg)]) hx hb dX6_canBeYesBy_120 hl (by decide) rfl (fun ls hl => ?_)
                refine lv_iload hx hb dX6_canBeYesBy_122 (lv_at hl 1 rfl) ?_
                refine lv_if_eq (tgt := 135) hx hb dX6_canBeYesBy_124 (by decide) (fun h => absurd h (by decide)) (fun _ => ?_)
                refine lv_iload hx hb dX6_canBeYesBy_127 (lv_at hl 6 rfl) ?_
                refine lv_iload hx hb dX6_canBeYesBy_129 (lv_at hl 0 rfl) ?_
                refine lv_ior hx hb dX6_canBeYesBy_131 ?_
                refine lv_topi (fun x_140 ex_140 => ?_)
                refine lv_goto (tgt := 137) hx hb dX6_canBeYesBy_132 (by decide) ?_
                refine lv_istore (lv' := [(4, .int x_140), (10, .int zr139), (9, .int 1), (8, .int x_124), (7, .int (nI k_117)), (6, .int (nI i112)), (5, .int lx5_112), (3, .ref (ea 3)), (0, .ref p0), (1, .int (nI rk)), (2, .int cg)]) hx hb dX6_canBeYesBy_137 hl (by decide) rfl (fun ls hl => ?_)
                refine lv_iload hx hb dX6_canBeYesBy_139 (lv_at hl 6 rfl) ?_
                refine lv_if_eq (tgt := 153) hx hb dX6_canBeYesBy_141 (by decide) (fun _ => ?_) (fun h => absurd c_93 h)
                refine lv_iconst (v := 0) hx hb dX6_canBeYesBy_153 (by decide) ?_
                refine lv_istore (lv' := [(5, .int 0), (4, .int x_140), (10, .int zr139), (9, .int 1), (8, .int x_124), (7, .int (nI k_117)), (6, .int (nI i112)), (3, .ref (ea 3)), (0, .ref p0), (1, .int (nI rk)), (2, .int cg)]) hx hb dX6_canBeYesBy_154 hl (by decide) rfl (fun ls hl => ?_)
                refine lv_iinc (v := nI (i112 + 1)) (lv' := [(6, .int (nI (i112 + 1))), (5, .int 0), (4, .int x_140), (10, .int zr139), (9, .int 1), (8, .int x_124), (7, .int (nI k_117)), (3, .ref (ea 3)), (0, .ref p0), (1, .int (nI rk)), (2, .int cg)]) hx hb dX6_canBeYesBy_156 hl (k := 6) rfl (nI_add i112 1) (by decide) rfl (fun ls hl => ?_)
                refine lv_goto (tgt := 21) hx hb dX6_canBeYesBy_159 (by decide) ?_
                exact ih112  x_140 0 ((i112 + 1)) (by omega) (by omega) _ _ (hP.sub [17, 0, 1, 18, 19, 20, 15, 16, 2, 3, 4, 5, 6, 7, 8, 9, 10, 11, 14, 12, 13] rfl) (hD.sub [17, 0, 1, 18, 19, 20, 15, 16, 2, 3, 4, 5, 6, 7, 8, 9, 10, 11, 14, 12, 13] (by decide +kernel) rfl) hS ls (lv_sub hl [0, 1, 2, 7, 8, 9, 10] rfl)
              · refine lv_iload hx hb dX6_canBeYesBy_96 (lv_at hl 5 rfl) ?_
                refine lv_iconst (v := 1) hx hb dX6_canBeYesBy_98 (by decide) ?_
                refine lv_ior hx hb dX6_canBeYesBy_99 ?_
                refine lv_topi (fun x_141 ex_141 => ?_)
                refine lv_goto (tgt := 105) hx hb dX6_canBeYesBy_100 (by decide) ?_
                refine lv_iload hx hb dX6_canBeYesBy_105 (lv_at hl 1 rfl) ?_
                refine lv_aload_n hx hb dX6_canBeYesBy_107 rfl (lv_at hl 6 rfl) ?_
                refine va_get (D := D) (ci := 2) (v := .ref (eg 3)) (C := RX2) (T := TX2) (N := 5) hx hb hg i_X2 hown hK hP 15 rfl rfl 0 (by decide) (hg _ m_513) (fun _ h9 => h9) rfl dX6_canBeYesBy_108 ?_
                refine lv_iload hx hb dX6_canBeYesBy_111 (lv_at hl 2 rfl) ?_
                refine va_iald hx hb hK hP 13 1 rfl rfl (vp_in_nI (by omega) (by decide)) dX6_canBeYesBy_113 ?_
                refine lv_topi (fun x_142 ex_142 => ?_)
                refine lv_iconst (v := -1) hx hb dX6_canBeYesBy_114 (by decide) ?_
                refine lv_ixor hx hb dX6_canBeYesBy_115 ?_
                refine lv_topi (fun x_143 ex_143 => ?_)
                refine lv_iand hx hb dX6_canBeYesBy_116 ?_
                refine lv_topi (fun x_144 ex_144 => ?_)
                refine x_callVi (q := (RX6, TX6, 9)) (ci := 6) (q0 := 0) (wr := [wI (cy 1) p3 4 (fne), wI (cy 1) p4 40 (fqi), (er, .inl (cy 4, 4, .inr (.inr (.inr (.inr (eF (ea 0) (ea 1) (ea 2) (ea 3))))))), wO (ea 0) 2 [.ref (eg 0), .ref (ef 0), .int (et 0), .int (nI (el 0)), .int (nI (ei 0))], wI (cy 1) (eg 0) 10 (gc 0), wI (cy 1) (ef 0) 7 (xc 0), wO (ea 1) 2 [.ref (eg 1), .ref (ef 1), .int (et 1), .int (nI (el 1)), .int (nI (ei 1))], wI (cy 1) (eg 1) 10 (gc 1), wI (cy 1) (ef 1) 7 (xc 1), wO (ea 2) 2 [.ref (eg 2), .ref (ef 2), .int (et 2), .int (nI (el 2)), .int (nI (ei 2))], wI (cy 1) (eg 2) 10 (gc 2), wI (cy 1) (ef 2) 7 (xc 2), wI (cy 1) (eg 3) 10 (gc 3), wI (cy 1) (ef 3) 7 (xc 3), wO (ea 3) 2 [.ref (eg 3), .ref (ef 3), .int (et 3), .int (nI ((el 3))), .int (nI ((ei 3)))], wO s0 7 [.ref s1, .ref s2, .int (nI sl), .int spl, .int svo, .int swi, .int sch], wI (cy 1) s1 10 (fw)]) (rest := []) ⟨hx, hb, hml, hown, hg, hl.1⟩ k_X6_101 (s_led l D cy p0 p1 p2 p3 p4 er ro ch s0 h0 h1 h2 h3 h4 h5 h6 h7 h8 h9 h10 h11 ((.int ys)) hv1 hv2 hv3 hv4 fc c0 c1 c2 c3 fx x_141 x_144 (hcn) (by omega) (by omega) (by omega) (by omega) (hnx)) E0_blind hK hP hD hS hA [16, 17, 18, 2] [0, 1, 3, 4, 5, 6, 7, 8, 9, 10, 11, 12, 13, 14, 15, 19, 20] ⟨rfl, rfl, by decide +kernel, by decide +kernel, by decide +kernel⟩ rfl rfl (fun _ _ _ => trivial) dX6_canBeYesBy_117 rfl rfl (Nat.le_of_ble_eq_true rfl) ⟨Nat.le_of_ble_eq_true rfl, Nat.le_of_ble_eq_true rfl⟩ ⟨Nat.le_of_ble_eq_true rfl, Nat.le_of_ble_eq_true rfl⟩ (fun zr145 zu145 H locs hw145 hP9 hD9 hS9 => ?_)
                clear hP hD hS
                refine reW [wI (cy 1) p3 4 (fne), wI (cy 1) p4 40 (fqi), (er, .inl (cy 4, 4, .inr (.inr (.inr (.inr (eF (ea 0) (ea 1) (ea 2) (ea 3))))))), wO (ea 0) 2 [.ref (eg 0), .ref (ef 0), .int (et 0), .int (nI (el 0)), .int (nI (ei 0))], wI (cy 1) (eg 0) 10 (gc 0), wI (cy 1) (ef 0) 7 (xc 0), wO (ea 1) 2 [.ref (eg 1), .ref (ef 1), .int (et 1), .int (nI (el 1)), .int (nI (ei 1))], wI (cy 1) (eg 1) 10 (gc 1), wI (cy 1) (ef 1) 7 (xc 1), wO (ea 2) 2 [.ref (eg 2), .ref (ef 2), .int (et 2), .int (nI (el 2)), .int (nI (ei 2))], wI (cy 1) (eg 2) 10 (gc 2), wI (cy 1) (ef 2) 7 (xc 2), wI (cy 1) (eg 3) 10 (gc 3), wI (cy 1) (ef 3) 7 (xc 3), wO (ea 3) 2 [.ref (eg 3), .ref (ef 3), .int (et 3), .int (nI ((el 3))), .int (nI ((ei 3)))], wO s0 7 [.ref s1, .ref s2, .int (nI sl), .int spl, .int svo, .int swi, .int sch], wI (cy 1) s1 10 (fw), wO p0 6 [.ref p1, .ref er, .ref ro, .ref p2, .ref p3, .ref p4, .ref h0, .ref s0, .int (nI ch)], wO h0 4 [.ref h1, .ref h2, .ref h3, .ref h4, .ref h5, .ref h6, .ref h7, .ref h8, .ref h9, .ref h10, .ref h11, .int ys, hv1, hv2, hv3, hv4], wI (cy 1) h1 4 (fc), wI (cy 1) h7 48 (fx)] hP9 hD9 hS9 (fun hP hD hS => ?_)
                clear hP9 hD9 hS9
                refine W.widen (k := 0) (n := 0) (Nat.le_of_ble_eq_true rfl) (Nat.le_of_ble_eq_true rfl) ?_
                replace hw145 : True := hw145
                refine lv_istore (lv' := [(10, .int zr145), (9, .int 1), (8, .int x_124), (7, .int (nI k_117)), (6, .int (nI i112)), (5, .int lx5_112), (4, .int lx4_112), (3, .ref (ea 3)), (0, .ref p0), (1, .int (nI rk)), (2, .int cg)]) hx hb dX6_canBeYesBy_120 hl (by decide) rfl (fun ls hl => ?_)
                refine lv_iload hx hb dX6_canBeYesBy_122 (lv_at hl 1 rfl) ?_
                refine lv_if_eq (tgt := 135) hx hb dX6_canBeYesBy_124 (by decide) (fun h => absurd h (by decide)) (fun _ => ?_)
                refine lv_iload hx hb dX6_canBeYesBy_127 (lv_at hl 6 rfl) ?_
                refine lv_iload hx hb dX6_canBeYesBy_129 (lv_at hl 0 rfl) ?_
                refine lv_ior hx hb dX6_canBeYesBy_131 ?_
                refine lv_topi (fun x_146 ex_146 => ?_)
                refine lv_goto (tgt := 137) hx hb dX6_canBeYesBy_132 (by decide) ?_
                refine lv_istore (lv' := [(4, .int x_146), (10, .int zr145), (9, .int 1), (8, .int x_124), (7, .int (nI k_117)), (6, .int (nI i112)), (5, .int lx5_112), (3, .ref (ea 3)), (0, .ref p0), (1, .int (nI rk)), (2, .int cg)]) hx hb dX6_canBeYesBy_137 hl (by decide) rfl (fun ls hl => ?_)
                refine lv_iload hx hb dX6_canBeYesBy_139 (lv_at hl 6 rfl) ?_
                refine lv_if_eq (tgt := 153) hx hb dX6_canBeYesBy_141 (by decide) (fun h => absurd h c_93) (fun _ => ?_)
                refine lv_iload hx hb dX6_canBeYesBy_144 (lv_at hl 2 rfl) ?_
                refine lv_if_eq (tgt := 153) hx hb dX6_canBeYesBy_146 (by decide) (fun h => absurd h (by decide)) (fun _ => ?_)
                refine lv_iconst (v := 1) hx hb dX6_canBeYesBy_149 (by decide) ?_
                refine lv_goto (tgt := 154) hx hb dX6_canBeYesBy_150 (by decide) ?_
                refine lv_istore (lv' := [(5, .int 1), (4, .int x_146), (10, .int zr145), (9, .int 1), (8, .int x_124), (7, .int (nI k_117)), (6, .int (nI i112)), (3, .ref (ea 3)), (0, .ref p0), (1, .int (nI rk)), (2, .int cg)]) hx hb dX6_canBeYesBy_154 hl (by decide) rfl (fun ls hl => ?_)
                refine lv_iinc (v := nI (i112 + 1)) (lv' := [(6, .int (nI (i112 + 1))), (5, .int 1), (4, .int x_146), (10, .int zr145), (9, .int 1), (8, .int x_124), (7, .int (nI k_117)), (3, .ref (ea 3)), (0, .ref p0), (1, .int (nI rk)), (2, .int cg)]) hx hb dX6_canBeYesBy_156 hl (k := 6) rfl (nI_add i112 1) (by decide) rfl (fun ls hl => ?_)
                refine lv_goto (tgt := 21) hx hb dX6_canBeYesBy_159 (by decide) ?_
                exact ih112  x_146 1 ((i112 + 1)) (by omega) (by omega) _ _ (hP.sub [17, 0, 1, 18, 19, 20, 15, 16, 2, 3, 4, 5, 6, 7, 8, 9, 10, 11, 14, 12, 13] rfl) (hD.sub [17, 0, 1, 18, 19, 20, 15, 16, 2, 3, 4, 5, 6, 7, 8, 9, 10, 11, 14, 12, 13] (by decide +kernel) rfl) hS ls (lv_sub hl [0, 1, 2, 7, 8, 9, 10] rfl)
          · refine lv_iconst (v := 0) hx hb dX6_canBeYesBy_68 (by decide) ?_
            exact x_zret hQ hx hb hr hlocks hK hP hD hS rfl dX6_canBeYesBy_69 () ((Or.inl rfl)) [16, 0, 1, 17, 18, 2, 19, 20, 3, 4, 5, 6, 7, 8, 9, 10, 11, 12, 15, 13, 14] (by decide +kernel) rfl (Nat.le_of_ble_eq_true rfl) (Nat.le_of_ble_eq_true rfl)
    exact loop112 _ 0 1 0 (by omega) (Nat.le_refl _) _ _ (hP.sub [0, 1, 2, 3, 4, 5, 6, 7, 8, 9, 10, 11, 12, 13, 14, 15, 16, 17, 18, 19, 20] rfl) (hD.sub [0, 1, 2, 3, 4, 5, 6, 7, 8, 9, 10, 11, 12, 13, 14, 15, 16, 17, 18, 19, 20] (by decide +kernel) rfl) hS ls (lv_sub hl [0, 1, 2, 3, 4, 5, 6] rfl)
theorem gdX6_canBeYes_0 : decode cX6_canBeYes 0 = .ok (.iconst 0, 1) ∧ decode cX6_canBeYes 1 = .ok (.istore_n 2, 1) ∧ decode cX6_canBeYes 2 = .ok (.iload_n 2, 1) ∧ decode cX6_canBeYes 3 = .ok (.aload_n 0, 1) ∧ decode cX6_canBeYes 4 = .ok (.getfield 35, 3) ∧ decode cX6_canBeYes 7 = .ok (.getfield 43, 3) ∧ decode cX6_canBeYes 10 = .ok (.iconst 1, 1) ∧ decode cX6_canBeYes 11 = .ok (.iaload, 1) ∧ decode cX6_canBeYes 12 = .ok (.if_icmp .ge 20, 3) ∧ decode cX6_canBeYes 32 = .ok (.iconst 0, 1) ∧ decode cX6_canBeYes 33 = .ok (.ireturn, 1) ∧ decode cX6_canBeYes 15 = .ok (.aload_n 0, 1) := by decide +kernel
theorem dX6_canBeYes_0 : decode cX6_canBeYes 0 = .ok (.iconst 0, 1) := gdX6_canBeYes_0.1
theorem dX6_canBeYes_1 : decode cX6_canBeYes 1 = .ok (.istore_n 2, 1) := gdX6_canBeYes_0.2.1
theorem dX6_canBeYes_2 : decode cX6_canBeYes 2 = .ok (.iload_n 2, 1) := gdX6_canBeYes_0.2.2.1
theorem dX6_canBeYes_3 : decode cX6_canBeYes 3 = .ok (.aload_n 0, 1) := gdX6_canBeYes_0.2.2.2.1
theorem dX6_canBeYes_4 : decode cX6_canBeYes 4 = .ok (.getfield 35, 3) := gdX6_canBeYes_0.2.2.2.2.1
theorem dX6_canBeYes_7 : decode cX6_canBeYes 7 = .ok (.getfield 43, 3) := gdX6_canBeYes_0.2.2.2.2.2.1
theorem dX6_canBeYes_10 : decode cX6_canBeYes 10 = .ok (.iconst 1, 1) := gdX6_canBeYes_0.2.2.2.2.2.2.1
theorem dX6_canBeYes_11 : decode cX6_canBeYes 11 = .ok (.iaload, 1) := gdX6_canBeYes_0.2.2.2.2.2.2.2.1
theorem dX6_canBeYes_12 : decode cX6_canBeYes 12 = .ok (.if_icmp .ge 20, 3) := gdX6_canBeYes_0.2.2.2.2.2.2.2.2.1
theorem dX6_canBeYes_32 : decode cX6_canBeYes 32 = .ok (.iconst 0, 1) := gdX6_canBeYes_0.2.2.2.2.2.2.2.2.2.1
theorem dX6_canBeYes_33 : decode cX6_canBeYes 33 = .ok (.ireturn, 1) := gdX6_canBeYes_0.2.2.2.2.2.2.2.2.2.2.1
theorem dX6_canBeYes_15 : decode cX6_canBeYes 15 = .ok (.aload_n 0, 1) := gdX6_canBeYes_0.2.2.2.2.2.2.2.2.2.2.2
theorem gdX6_canBeYes_16 : decode cX6_canBeYes 16 = .ok (.iload_n 2, 1) ∧ decode cX6_canBeYes 17 = .ok (.iload_n 1, 1) ∧ decode cX6_canBeYes 18 = .ok (.invokevirtual 90, 3) := by decide +kernel
theorem dX6_canBeYes_16 : decode cX6_canBeYes 16 = .ok (.iload_n 2, 1) := gdX6_canBeYes_16.1
theorem dX6_canBeYes_17 : decode cX6_canBeYes 17 = .ok (.iload_n 1, 1) := gdX6_canBeYes_16.2.1
theorem dX6_canBeYes_18 : decode cX6_canBeYes 18 = .ok (.invokevirtual 90, 3) := gdX6_canBeYes_16.2.2
theorem k_X6_90 : xV RX6 RX6 90 yX6_canBeYesBy cX6_canBeYesBy 11 (some .boolean) 2 := ⟨⟨m_1257, m_1259, m_51, m_144, m_1260⟩, rfl, by decide, by decide, by decide +kernel⟩
theorem gdX6_canBeYes_21 : decode cX6_canBeYes 21 = .ok (.ifCond .eq 5, 3) ∧ decode cX6_canBeYes 26 = .ok (.iinc 2 1, 3) ∧ decode cX6_canBeYes 29 = .ok (.goto (-27), 3) ∧ decode cX6_canBeYes 24 = .ok (.iconst 1, 1) ∧ decode cX6_canBeYes 25 = .ok (.ireturn, 1) := by decide +kernel
theorem dX6_canBeYes_21 : decode cX6_canBeYes 21 = .ok (.ifCond .eq 5, 3) := gdX6_canBeYes_21.1
theorem dX6_canBeYes_26 : decode cX6_canBeYes 26 = .ok (.iinc 2 1, 3) := gdX6_canBeYes_21.2.1
theorem dX6_canBeYes_29 : decode cX6_canBeYes 29 = .ok (.goto (-27), 3) := gdX6_canBeYes_21.2.2.1
theorem dX6_canBeYes_24 : decode cX6_canBeYes 24 = .ok (.iconst 1, 1) := gdX6_canBeYes_21.2.2.2.1
theorem dX6_canBeYes_25 : decode cX6_canBeYes 25 = .ok (.ireturn, 1) := gdX6_canBeYes_21.2.2.2.2
set_option maxHeartbeats 1000000 in
set_option maxRecDepth 100000 in
theorem s_canBeYes (l : Launch) (D : va_G) (cy : Nat → ClassId) (p0 : Nat) (p1 : Nat) (p2 : Nat) (p3 : Nat) (p4 : Nat) (er : Nat) (ro : Nat) (ch : Nat) (fne : Nat → Int32) (fqi : Nat → Int32) (h0 : Nat) (h1 : Nat) (h2 : Nat) (h3 : Nat) (h4 : Nat) (h5 : Nat) (h6 : Nat) (h7 : Nat) (h8 : Nat) (h9 : Nat) (h10 : Nat) (h11 : Nat) (hv1 : Value) (hv2 : Value) (hv3 : Value) (hv4 : Value) (ys : Int32) (fc : Nat → Int32) (c0 : Nat) (c1 : Nat) (c2 : Nat) (c3 : Nat) (fx : Nat → Int32) (s0 : Nat) (s1 : Nat) (s2 : Nat) (sl : Nat) (spl : Int32) (svo : Int32) (swi : Int32) (sch : Int32) (fw : Nat → Int32) (ea : Nat → Nat) (eg : Nat → Nat) (ef : Nat → Nat) (et : Nat → Int32) (el : Nat → Nat) (ei : Nat → Nat) (gc : Nat → Nat → Int32) (xc : Nat → Nat → Int32) (cg : Int32) (hne : nOK fne c1) (hcn : cntOK fc c0 c1 c2 c3) (hc0 : c0 ≤ 8) (hc1 : c1 ≤ 4) (hc2 : c2 ≤ 4) (hc3 : c3 ≤ 6) (hnx : rng fx 48 5) (hel : ∀ i9, i9 < 4 → el i9 ≤ 10) (hes : ∀ i9, i9 < c1 → el i9 = sl) (hsl : sl ≤ 10) (hsw : rng fw 10 7) : XMi l D (tyL cy) E0 yX6_canBeYes cX6_canBeYes 3 (some .boolean) (rmk 2 0 0) [.ref p0, .int cg] [wO p0 6 [.ref p1, .ref er, .ref ro, .ref p2, .ref p3, .ref p4, .ref h0, .ref s0, .int (nI ch)], wI (cy 1) p3 4 (fne), wI (cy 1) p4 40 (fqi), wO h0 4 [.ref h1, .ref h2, .ref h3, .ref h4, .ref h5, .ref h6, .ref h7, .ref h8, .ref h9, .ref h10, .ref h11, .int ys, hv1, hv2, hv3, hv4], wI (cy 1) h1 4 (fc), wI (cy 1) h7 48 (fx), wO s0 7 [.ref s1, .ref s2, .int (nI sl), .int spl, .int svo, .int swi, .int sch], wI (cy 1) s1 10 (fw), (er, .inl (cy 4, 4, .inr (.inr (.inr (.inr (eF (ea 0) (ea 1) (ea 2) (ea 3))))))), wO (ea 0) 2 [.ref (eg 0), .ref (ef 0), .int (et 0), .int (nI (el 0)), .int (nI (ei 0))], wI (cy 1) (eg 0) 10 (gc 0), wI (cy 1) (ef 0) 7 (xc 0), wO (ea 1) 2 [.ref (eg 1), .ref (ef 1), .int (et 1), .int (nI (el 1)), .int (nI (ei 1))], wI (cy 1) (eg 1) 10 (gc 1), wI (cy 1) (ef 1) 7 (xc 1), wO (ea 2) 2 [.ref (eg 2), .ref (ef 2), .int (et 2), .int (nI (el 2)), .int (nI (ei 2))], wI (cy 1) (eg 2) 10 (gc 2), wI (cy 1) (ef 2) 7 (xc 2), wO (ea 3) 2 [.ref (eg 3), .ref (ef 3), .int (et 3), .int (nI (el 3)), .int (nI (ei 3))], wI (cy 1) (eg 3) 10 (gc 3), wI (cy 1) (ef 3) 7 (xc 3)] (fun (r : Int32) (_ : Unit) => (r = 0 ∨ r = 1)) (fun (_ : Unit) => [wO p0 6 [.ref p1, .ref er, .ref ro, .ref p2, .ref p3, .ref p4, .ref h0, .ref s0, .int (nI ch)], wI (cy 1) p3 4 (fne), wI (cy 1) p4 40 (fqi), wO h0 4 [.ref h1, .ref h2, .ref h3, .ref h4, .ref h5, .ref h6, .ref h7, .ref h8, .ref h9, .ref h10, .ref h11, .int ys, hv1, hv2, hv3, hv4], wI (cy 1) h1 4 (fc), wI (cy 1) h7 48 (fx), wO s0 7 [.ref s1, .ref s2, .int (nI sl), .int spl, .int svo, .int swi, .int sch], wI (cy 1) s1 10 (fw), (er, .inl (cy 4, 4, .inr (.inr (.inr (.inr (eF (ea 0) (ea 1) (ea 2) (ea 3))))))), wO (ea 0) 2 [.ref (eg 0), .ref (ef 0), .int (et 0), .int (nI (el 0)), .int (nI (ei 0))], wI (cy 1) (eg 0) 10 (gc 0), wI (cy 1) (ef 0) 7 (xc 0), wO (ea 1) 2 [.ref (eg 1), .ref (ef 1), .int (et 1), .int (nI (el 1)), .int (nI (ei 1))], wI (cy 1) (eg 1) 10 (gc 1), wI (cy 1) (ef 1) 7 (xc 1), wO (ea 2) 2 [.ref (eg 2), .ref (ef 2), .int (et 2), .int (nI (el 2)), .int (nI (ei 2))], wI (cy 1) (eg 2) 10 (gc 2), wI (cy 1) (ef 2) 7 (xc 2), wO (ea 3) 2 [.ref (eg 3), .ref (ef 3), .int (et 3), .int (nI (el 3)), .int (nI (ei 3))], wI (cy 1) (eg 3) 10 (gc 3), wI (cy 1) (ef 3) 7 (xc 3)]) := by
  refine XMi.start (by decide) (Nat.le_of_ble_eq_true rfl) ?_
  intro p e s m below meth c args A ls Q hat hQ
  obtain ⟨hx, hb, hr, hml, hown, hg, hlocks, hin, hK, hA, hP, hD, hS, hE, hl⟩ := hat
  have hown : s.vm.findClass RX6 = some m.cls := hown
  have hl : lv_has ls 3 [(0, .ref p0), (1, .int cg)] := hl
  have hk_1 := hel 0 (by decide)
  have hk_2 := hel 1 (by decide)
  have hk_3 := hel 2 (by decide)
  have hk_4 := hel 3 (by decide)
  refine lv_iconst (v := 0) hx hb dX6_canBeYes_0 (by decide) ?_
  refine lv_istore_n (lv' := [(2, .int 0), (0, .ref p0), (1, .int cg)]) hx hb dX6_canBeYes_1 rfl hl (by decide) rfl (fun ls hl => ?_)
  have loop5 : ∀ (zn : Nat) (i5 : Nat), (i5 ≤ c1) → c1 - i5 + 1 ≤ zn → ∀ (H : Heap) (locs : List Loc), va_P D vwCl [wO p0 6 [.ref p1, .ref er, .ref ro, .ref p2, .ref p3, .ref p4, .ref h0, .ref s0, .int (nI ch)], wI (cy 1) p3 4 (fne), wI (cy 1) p4 40 (fqi), wO h0 4 [.ref h1, .ref h2, .ref h3, .ref h4, .ref h5, .ref h6, .ref h7, .ref h8, .ref h9, .ref h10, .ref h11, .int ys, hv1, hv2, hv3, hv4], wI (cy 1) h1 4 (fc), wI (cy 1) h7 48 (fx), wO s0 7 [.ref s1, .ref s2, .int (nI sl), .int spl, .int svo, .int swi, .int sch], wI (cy 1) s1 10 (fw), (er, .inl (cy 4, 4, .inr (.inr (.inr (.inr (eF (ea 0) (ea 1) (ea 2) (ea 3))))))), wO (ea 0) 2 [.ref (eg 0), .ref (ef 0), .int (et 0), .int (nI (el 0)), .int (nI (ei 0))], wI (cy 1) (eg 0) 10 (gc 0), wI (cy 1) (ef 0) 7 (xc 0), wO (ea 1) 2 [.ref (eg 1), .ref (ef 1), .int (et 1), .int (nI (el 1)), .int (nI (ei 1))], wI (cy 1) (eg 1) 10 (gc 1), wI (cy 1) (ef 1) 7 (xc 1), wO (ea 2) 2 [.ref (eg 2), .ref (ef 2), .int (et 2), .int (nI (el 2)), .int (nI (ei 2))], wI (cy 1) (eg 2) 10 (gc 2), wI (cy 1) (ef 2) 7 (xc 2), wO (ea 3) 2 [.ref (eg 3), .ref (ef 3), .int (et 3), .int (nI (el 3)), .int (nI (ei 3))], wI (cy 1) (eg 3) 10 (gc 3), wI (cy 1) (ef 3) 7 (xc 3)] H → va_D A [wO p0 6 [.ref p1, .ref er, .ref ro, .ref p2, .ref p3, .ref p4, .ref h0, .ref s0, .int (nI ch)], wI (cy 1) p3 4 (fne), wI (cy 1) p4 40 (fqi), wO h0 4 [.ref h1, .ref h2, .ref h3, .ref h4, .ref h5, .ref h6, .ref h7, .ref h8, .ref h9, .ref h10, .ref h11, .int ys, hv1, hv2, hv3, hv4], wI (cy 1) h1 4 (fc), wI (cy 1) h7 48 (fx), wO s0 7 [.ref s1, .ref s2, .int (nI sl), .int spl, .int svo, .int swi, .int sch], wI (cy 1) s1 10 (fw), (er, .inl (cy 4, 4, .inr (.inr (.inr (.inr (eF (ea 0) (ea 1) (ea 2) (ea 3))))))), wO (ea 0) 2 [.ref (eg 0), .ref (ef 0), .int (et 0), .int (nI (el 0)), .int (nI (ei 0))], wI (cy 1) (eg 0) 10 (gc 0), wI (cy 1) (ef 0) 7 (xc 0), wO (ea 1) 2 [.ref (eg 1), .ref (ef 1), .int (et 1), .int (nI (el 1)), .int (nI (ei 1))], wI (cy 1) (eg 1) 10 (gc 1), wI (cy 1) (ef 1) 7 (xc 1), wO (ea 2) 2 [.ref (eg 2), .ref (ef 2), .int (et 2), .int (nI (el 2)), .int (nI (ei 2))], wI (cy 1) (eg 2) 10 (gc 2), wI (cy 1) (ef 2) 7 (xc 2), wO (ea 3) 2 [.ref (eg 3), .ref (ef 3), .int (et 3), .int (nI (el 3)), .int (nI (ei 3))], wI (cy 1) (eg 3) 10 (gc 3), wI (cy 1) (ef 3) 7 (xc 3)] → va_S A s.heap H locs → ∀ ls : Array Slot, lv_has ls 3 [(2, .int (nI i5)), (0, .ref p0), (1, .int cg)] → W p l e (rmk 2 0 0) s m args below meth c H locs 0 0 Q (F0 m 2 ls []) := by
    try clear hP hD hS
    intro zn
    induction zn with
    | zero => intro i5 _ hz; exact absurd hz (by omega)
    | succ zn ih5 =>
      intro i5 hf0_5 hmu5 H locs hP hD hS ls hl
      refine lv_iload_n hx hb dX6_canBeYes_2 rfl (lv_at hl 0 rfl) ?_
      refine lv_aload_n hx hb dX6_canBeYes_3 rfl (lv_at hl 1 rfl) ?_
      refine va_get (D := D) (ci := 6) (v := .ref h0) (C := RX6) (T := TX6) (N := 9) hx hb hg i_X6 hown hK hP 0 rfl rfl 6 (by decide) (hg _ m_591) (fun _ h9 => h9) rfl dX6_canBeYes_4 ?_
      refine va_get (D := D) (ci := 4) (v := .ref h1) (C := RX4) (T := TX4) (N := 16) hx hb hg i_X4 hown hK hP 3 rfl rfl 0 (by decide) (hg _ m_330) (fun _ h9 => h9) rfl dX6_canBeYes_7 ?_
      refine lv_iconst (v := 1) hx hb dX6_canBeYes_10 (by decide) ?_
      refine va_iald hx hb hK hP 4 1 rfl rfl (by unfold vp_in; decide) dX6_canBeYes_11 ?_
      refine lv_topi (fun y_6 hy_6 => ?_)
      obtain rfl : y_6 = nI c1 := hy_6.trans hcn.2.1
      refine lv_icmp_ge (tgt := 32) hx hb dX6_canBeYes_12 (by decide) (fun c_7 => ?_) (fun c_7 => ?_)
      · have q_8 : c1 ≤ i5 := q_le (a := c1) (b := i5) rfl rfl (by omega) (by omega) c_7
        refine lv_iconst (v := 0) hx hb dX6_canBeYes_32 (by decide) ?_
        exact x_zret hQ hx hb hr hlocks hK hP hD hS rfl dX6_canBeYes_33 () ((Or.inl rfl)) [0, 1, 2, 3, 4, 5, 6, 7, 8, 9, 10, 11, 12, 13, 14, 15, 16, 17, 18, 19, 20] (by decide +kernel) rfl (Nat.le_of_ble_eq_true rfl) (Nat.le_of_ble_eq_true rfl)
      · have q_8 : i5 < c1 := q_nle (a := c1) (b := i5) rfl rfl (by omega) (by omega) c_7
        refine lv_aload_n hx hb dX6_canBeYes_15 rfl (lv_at hl 1 rfl) ?_
        refine lv_iload_n hx hb dX6_canBeYes_16 rfl (lv_at hl 0 rfl) ?_
        refine lv_iload_n hx hb dX6_canBeYes_17 rfl (lv_at hl 2 rfl) ?_
        refine x_callVi (q := (RX6, TX6, 9)) (ci := 6) (q0 := 0) (wr := []) (rest := []) ⟨hx, hb, hml, hown, hg, hl.1⟩ k_X6_90 (s_canBeYesBy l D cy p0 p1 p2 p3 p4 er ro ch fne fqi h0 h1 h2 h3 h4 h5 h6 h7 h8 h9 h10 h11 hv1 hv2 hv3 hv4 ys fc c0 c1 c2 c3 fx s0 s1 s2 sl spl svo swi sch fw ea eg ef et el ei gc xc i5 cg (hne) (hcn) (by omega) (by omega) (by omega) (by omega) (hnx) (fun i9 h9 => by rcases (show i9 = 0 ∨ i9 = 1 ∨ i9 = 2 ∨ i9 = 3 by omega) with rfl | rfl | rfl | rfl <;> omega) (hes) (by omega) (hsw) (by omega)) E0_blind hK hP hD hS hA [0, 1, 2, 3, 4, 5, 6, 7, 8, 9, 10, 11, 12, 13, 14, 15, 16, 17, 18, 19, 20] [] ⟨rfl, rfl, by decide +kernel, by decide +kernel, by decide +kernel⟩ rfl rfl (fun _ _ _ => trivial) dX6_canBeYes_18 rfl rfl (Nat.le_of_ble_eq_true rfl) ⟨Nat.le_of_ble_eq_true rfl, Nat.le_of_ble_eq_true rfl⟩ ⟨Nat.le_of_ble_eq_true rfl, Nat.le_of_ble_eq_true rfl⟩ (fun zr9 zu9 H locs hw9 hP9 hD9 hS9 => ?_)
        clear hP hD hS
        refine reW [wO p0 6 [.ref p1, .ref er, .ref ro, .ref p2, .ref p3, .ref p4, .ref h0, .ref s0, .int (nI ch)], wI (cy 1) p3 4 (fne), wI (cy 1) p4 40 (fqi), wO h0 4 [.ref h1, .ref h2, .ref h3, .ref h4, .ref h5, .ref h6, .ref h7, .ref h8, .ref h9, .ref h10, .ref h11, .int ys, hv1, hv2, hv3, hv4], wI (cy 1) h1 4 (fc), wI (cy 1) h7 48 (fx), wO s0 7 [.ref s1, .ref s2, .int (nI sl), .int spl, .int svo, .int swi, .int sch], wI (cy 1) s1 10 (fw), (er, .inl (cy 4, 4, .inr (.inr (.inr (.inr (eF (ea 0) (ea 1) (ea 2) (ea 3))))))), wO (ea 0) 2 [.ref (eg 0), .ref (ef 0), .int (et 0), .int (nI (el 0)), .int (nI (ei 0))], wI (cy 1) (eg 0) 10 (gc 0), wI (cy 1) (ef 0) 7 (xc 0), wO (ea 1) 2 [.ref (eg 1), .ref (ef 1), .int (et 1), .int (nI (el 1)), .int (nI (ei 1))], wI (cy 1) (eg 1) 10 (gc 1), wI (cy 1) (ef 1) 7 (xc 1), wO (ea 2) 2 [.ref (eg 2), .ref (ef 2), .int (et 2), .int (nI (el 2)), .int (nI (ei 2))], wI (cy 1) (eg 2) 10 (gc 2), wI (cy 1) (ef 2) 7 (xc 2), wO (ea 3) 2 [.ref (eg 3), .ref (ef 3), .int (et 3), .int (nI (el 3)), .int (nI (ei 3))], wI (cy 1) (eg 3) 10 (gc 3), wI (cy 1) (ef 3) 7 (xc 3)] hP9 hD9 hS9 (fun hP hD hS => ?_)
        clear hP9 hD9 hS9
        refine W.widen (k := 0) (n := 0) (Nat.le_of_ble_eq_true rfl) (Nat.le_of_ble_eq_true rfl) ?_
        replace hw9 : (zr9 = 0 ∨ zr9 = 1) := hw9
        have f_10 := hw9
        refine lv_if_eq (tgt := 26) hx hb dX6_canBeYes_21 (by decide) (fun c_21 => ?_) (fun c_21 => ?_)
        · refine lv_iinc (v := nI (i5 + 1)) (lv' := [(2, .int (nI (i5 + 1))), (0, .ref p0), (1, .int cg)]) hx hb dX6_canBeYes_26 hl (k := 0) rfl (nI_add i5 1) (by decide) rfl (fun ls hl => ?_)
          refine lv_goto (tgt := 2) hx hb dX6_canBeYes_29 (by decide) ?_
          exact ih5  ((i5 + 1)) (by omega) (by omega) _ _ (hP.sub [0, 1, 2, 3, 4, 5, 6, 7, 8, 9, 10, 11, 12, 13, 14, 15, 16, 17, 18, 19, 20] rfl) (hD.sub [0, 1, 2, 3, 4, 5, 6, 7, 8, 9, 10, 11, 12, 13, 14, 15, 16, 17, 18, 19, 20] (by decide +kernel) rfl) hS ls (lv_sub hl [0, 1, 2] rfl)
        · refine lv_iconst (v := 1) hx hb dX6_canBeYes_24 (by decide) ?_
          exact x_zret hQ hx hb hr hlocks hK hP hD hS rfl dX6_canBeYes_25 () ((Or.inr rfl)) [0, 1, 2, 3, 4, 5, 6, 7, 8, 9, 10, 11, 12, 13, 14, 15, 16, 17, 18, 19, 20] (by decide +kernel) rfl (Nat.le_of_ble_eq_true rfl) (Nat.le_of_ble_eq_true rfl)
  exact loop5 _ 0 (by omega) (Nat.le_refl _) _ _ (hP.sub [0, 1, 2, 3, 4, 5, 6, 7, 8, 9, 10, 11, 12, 13, 14, 15, 16, 17, 18, 19, 20] rfl) (hD.sub [0, 1, 2, 3, 4, 5, 6, 7, 8, 9, 10, 11, 12, 13, 14, 15, 16, 17, 18, 19, 20] (by decide +kernel) rfl) hS ls (lv_sub hl [0, 1, 2] rfl)
theorem gdX6_choosePlaces_0 : decode cX6_choosePlaces 0 = .ok (.iload_n 1, 1) ∧ decode cX6_choosePlaces 1 = .ok (.aload_n 0, 1) ∧ decode cX6_choosePlaces 2 = .ok (.getfield 66, 3) ∧ decode cX6_choosePlaces 5 = .ok (.if_icmp .ge 8, 3) ∧ decode cX6_choosePlaces 13 = .ok (.aload_n 0, 1) ∧ decode cX6_choosePlaces 14 = .ok (.iload_n 3, 1) ∧ decode cX6_choosePlaces 15 = .ok (.invokevirtual 87, 3) := by decide +kernel
theorem dX6_choosePlaces_0 : decode cX6_choosePlaces 0 = .ok (.iload_n 1, 1) := gdX6_choosePlaces_0.1
theorem dX6_choosePlaces_1 : decode cX6_choosePlaces 1 = .ok (.aload_n 0, 1) := gdX6_choosePlaces_0.2.1
theorem dX6_choosePlaces_2 : decode cX6_choosePlaces 2 = .ok (.getfield 66, 3) := gdX6_choosePlaces_0.2.2.1
theorem dX6_choosePlaces_5 : decode cX6_choosePlaces 5 = .ok (.if_icmp .ge 8, 3) := gdX6_choosePlaces_0.2.2.2.1
theorem dX6_choosePlaces_13 : decode cX6_choosePlaces 13 = .ok (.aload_n 0, 1) := gdX6_choosePlaces_0.2.2.2.2.1
theorem dX6_choosePlaces_14 : decode cX6_choosePlaces 14 = .ok (.iload_n 3, 1) := gdX6_choosePlaces_0.2.2.2.2.2.1
theorem dX6_choosePlaces_15 : decode cX6_choosePlaces 15 = .ok (.invokevirtual 87, 3) := gdX6_choosePlaces_0.2.2.2.2.2.2
theorem k_X6_87 : xV RX6 RX6 87 yX6_canBeYes cX6_canBeYes 3 (some .boolean) 1 := ⟨⟨m_1253, m_1255, m_50, m_144, m_1256⟩, rfl, by decide, by decide, by decide +kernel⟩
theorem gdX6_choosePlaces_18 : decode cX6_choosePlaces 18 = .ok (.ireturn, 1) ∧ decode cX6_choosePlaces 8 = .ok (.iload_n 1, 1) ∧ decode cX6_choosePlaces 9 = .ok (.iconst 3, 1) ∧ decode cX6_choosePlaces 10 = .ok (.if_icmp .lt 9, 3) := by decide +kernel
theorem dX6_choosePlaces_18 : decode cX6_choosePlaces 18 = .ok (.ireturn, 1) := gdX6_choosePlaces_18.1
theorem dX6_choosePlaces_8 : decode cX6_choosePlaces 8 = .ok (.iload_n 1, 1) := gdX6_choosePlaces_18.2.1
theorem dX6_choosePlaces_9 : decode cX6_choosePlaces 9 = .ok (.iconst 3, 1) := gdX6_choosePlaces_18.2.2.1
theorem dX6_choosePlaces_10 : decode cX6_choosePlaces 10 = .ok (.if_icmp .lt 9, 3) := gdX6_choosePlaces_18.2.2.2
set_option maxHeartbeats 1000000 in
set_option maxRecDepth 100000 in
theorem s_choosePlaces3 (l : Launch) (D : va_G) (cy : Nat → ClassId) (p0 : Nat) (p1 : Nat) (p2 : Nat) (p3 : Nat) (p4 : Nat) (er : Nat) (ro : Nat) (ch : Nat) (fne : Nat → Int32) (fqi : Nat → Int32) (fpc : Nat → Int32) (h0 : Nat) (h1 : Nat) (h2 : Nat) (h3 : Nat) (h4 : Nat) (h5 : Nat) (h6 : Nat) (h7 : Nat) (h8 : Nat) (h9 : Nat) (h10 : Nat) (h11 : Nat) (hv1 : Value) (hv2 : Value) (hv3 : Value) (hv4 : Value) (ys : Int32) (fc : Nat → Int32) (c0 : Nat) (c1 : Nat) (c2 : Nat) (c3 : Nat) (fx : Nat → Int32) (s0 : Nat) (s1 : Nat) (s2 : Nat) (sl : Nat) (spl : Int32) (svo : Int32) (swi : Int32) (sch : Int32) (fw : Nat → Int32) (ea : Nat → Nat) (eg : Nat → Nat) (ef : Nat → Nat) (et : Nat → Int32) (el : Nat → Nat) (ei : Nat → Nat) (gc : Nat → Nat → Int32) (xc : Nat → Nat → Int32) (fm : Nat) (cg : Int32) (hne : nOK fne c1) (hpc : rng fpc 3 9) (hch : ch ≤ 3) (hcn : cntOK fc c0 c1 c2 c3) (hc0 : c0 ≤ 8) (hc1 : c1 ≤ 4) (hc2 : c2 ≤ 4) (hc3 : c3 ≤ 6) (hnx : rng fx 48 5) (hel : ∀ i9, i9 < 4 → el i9 ≤ 10) (hes : ∀ i9, i9 < c1 → el i9 = sl) (hsl : sl ≤ 10) (hsw : rng fw 10 7) (hfm : fm ≤ 10) : XMi l D (tyL cy) E0 yX6_choosePlaces cX6_choosePlaces 5 (some .boolean) (rmk 4 0 0) [.ref p0, .int 3, .int (nI fm), .int cg] [wO p0 6 [.ref p1, .ref er, .ref ro, .ref p2, .ref p3, .ref p4, .ref h0, .ref s0, .int (nI ch)], wI (cy 1) p3 4 (fne), wI (cy 1) p4 40 (fqi), wI (cy 1) p2 3 (fpc), wO h0 4 [.ref h1, .ref h2, .ref h3, .ref h4, .ref h5, .ref h6, .ref h7, .ref h8, .ref h9, .ref h10, .ref h11, .int ys, hv1, hv2, hv3, hv4], wI (cy 1) h1 4 (fc), wI (cy 1) h7 48 (fx), wO s0 7 [.ref s1, .ref s2, .int (nI sl), .int spl, .int svo, .int swi, .int sch], wI (cy 1) s1 10 (fw), (er, .inl (cy 4, 4, .inr (.inr (.inr (.inr (eF (ea 0) (ea 1) (ea 2) (ea 3))))))), wO (ea 0) 2 [.ref (eg 0), .ref (ef 0), .int (et 0), .int (nI (el 0)), .int (nI (ei 0))], wI (cy 1) (eg 0) 10 (gc 0), wI (cy 1) (ef 0) 7 (xc 0), wO (ea 1) 2 [.ref (eg 1), .ref (ef 1), .int (et 1), .int (nI (el 1)), .int (nI (ei 1))], wI (cy 1) (eg 1) 10 (gc 1), wI (cy 1) (ef 1) 7 (xc 1), wO (ea 2) 2 [.ref (eg 2), .ref (ef 2), .int (et 2), .int (nI (el 2)), .int (nI (ei 2))], wI (cy 1) (eg 2) 10 (gc 2), wI (cy 1) (ef 2) 7 (xc 2), wO (ea 3) 2 [.ref (eg 3), .ref (ef 3), .int (et 3), .int (nI (el 3)), .int (nI (ei 3))], wI (cy 1) (eg 3) 10 (gc 3), wI (cy 1) (ef 3) 7 (xc 3)] (fun (r : Int32) (fpc2 : Nat → Int32) => (r = 0 ∨ r = 1) ∧ (rng fpc2 3 9)) (fun (fpc2 : Nat → Int32) => [wO p0 6 [.ref p1, .ref er, .ref ro, .ref p2, .ref p3, .ref p4, .ref h0, .ref s0, .int (nI ch)], wI (cy 1) p3 4 (fne), wI (cy 1) p4 40 (fqi), wI (cy 1) p2 3 (fpc2), wO h0 4 [.ref h1, .ref h2, .ref h3, .ref h4, .ref h5, .ref h6, .ref h7, .ref h8, .ref h9, .ref h10, .ref h11, .int ys, hv1, hv2, hv3, hv4], wI (cy 1) h1 4 (fc), wI (cy 1) h7 48 (fx), wO s0 7 [.ref s1, .ref s2, .int (nI sl), .int spl, .int svo, .int swi, .int sch], wI (cy 1) s1 10 (fw), (er, .inl (cy 4, 4, .inr (.inr (.inr (.inr (eF (ea 0) (ea 1) (ea 2) (ea 3))))))), wO (ea 0) 2 [.ref (eg 0), .ref (ef 0), .int (et 0), .int (nI (el 0)), .int (nI (ei 0))], wI (cy 1) (eg 0) 10 (gc 0), wI (cy 1) (ef 0) 7 (xc 0), wO (ea 1) 2 [.ref (eg 1), .ref (ef 1), .int (et 1), .int (nI (el 1)), .int (nI (ei 1))], wI (cy 1) (eg 1) 10 (gc 1), wI (cy 1) (ef 1) 7 (xc 1), wO (ea 2) 2 [.ref (eg 2), .ref (ef 2), .int (et 2), .int (nI (el 2)), .int (nI (ei 2))], wI (cy 1) (eg 2) 10 (gc 2), wI (cy 1) (ef 2) 7 (xc 2), wO (ea 3) 2 [.ref (eg 3), .ref (ef 3), .int (et 3), .int (nI (el 3)), .int (nI (ei 3))], wI (cy 1) (eg 3) 10 (gc 3), wI (cy 1) (ef 3) 7 (xc 3)]) := by
  refine XMi.start (by decide) (Nat.le_of_ble_eq_true rfl) ?_
  intro p e s m below meth c args A ls Q hat hQ
  obtain ⟨hx, hb, hr, hml, hown, hg, hlocks, hin, hK, hA, hP, hD, hS, hE, hl⟩ := hat
  have hown : s.vm.findClass RX6 = some m.cls := hown
  have hl : lv_has ls 5 [(0, .ref p0), (1, .int 3), (2, .int (nI fm)), (3, .int cg)] := hl
  have hk_1 := hel 0 (by decide)
  have hk_2 := hel 1 (by decide)
  have hk_3 := hel 2 (by decide)
  have hk_4 := hel 3 (by decide)
  refine lv_iload_n hx hb dX6_choosePlaces_0 rfl (lv_at hl 1 rfl) ?_
  refine lv_aload_n hx hb dX6_choosePlaces_1 rfl (lv_at hl 0 rfl) ?_
  refine va_get (D := D) (ci := 6) (v := .int (nI ch)) (C := RX6) (T := TX6) (N := 9) hx hb hg i_X6 hown hK hP 0 rfl rfl 8 (by decide) (hg _ m_593) (fun _ h9 => h9) rfl dX6_choosePlaces_2 ?_
  refine lv_icmp_ge (tgt := 13) hx hb dX6_choosePlaces_5 (by decide) (fun c_5 => ?_) (fun c_5 => ?_)
  · have q_6 : ch ≤ 3 := q_le (a := ch) (b := 3) rfl rfl (by omega) (by omega) c_5
    refine lv_aload_n hx hb dX6_choosePlaces_13 rfl (lv_at hl 0 rfl) ?_
    refine lv_iload_n hx hb dX6_choosePlaces_14 rfl (lv_at hl 3 rfl) ?_
    refine x_callVi (q := (RX6, TX6, 9)) (ci := 6) (q0 := 0) (wr := [wI (cy 1) p2 3 (fpc)]) (rest := []) ⟨hx, hb, hml, hown, hg, hl.1⟩ k_X6_87 (s_canBeYes l D cy p0 p1 p2 p3 p4 er ro ch fne fqi h0 h1 h2 h3 h4 h5 h6 h7 h8 h9 h10 h11 hv1 hv2 hv3 hv4 ys fc c0 c1 c2 c3 fx s0 s1 s2 sl spl svo swi sch fw ea eg ef et el ei gc xc cg (hne) (hcn) (by omega) (by omega) (by omega) (by omega) (hnx) (fun i9 h9 => by rcases (show i9 = 0 ∨ i9 = 1 ∨ i9 = 2 ∨ i9 = 3 by omega) with rfl | rfl | rfl | rfl <;> omega) (hes) (by omega) (hsw)) E0_blind hK hP hD hS hA [0, 1, 2, 4, 5, 6, 7, 8, 9, 10, 11, 12, 13, 14, 15, 16, 17, 18, 19, 20, 21] [3] ⟨rfl, rfl, by decide +kernel, by decide +kernel, by decide +kernel⟩ rfl rfl (fun _ _ _ => trivial) dX6_choosePlaces_15 rfl rfl (Nat.le_of_ble_eq_true rfl) ⟨Nat.le_of_ble_eq_true rfl, Nat.le_of_ble_eq_true rfl⟩ ⟨Nat.le_of_ble_eq_true rfl, Nat.le_of_ble_eq_true rfl⟩ (fun zr7 zu7 H locs hw7 hP9 hD9 hS9 => ?_)
    clear hP hD hS
    refine reW [wI (cy 1) p2 3 (fpc), wO p0 6 [.ref p1, .ref er, .ref ro, .ref p2, .ref p3, .ref p4, .ref h0, .ref s0, .int (nI ch)], wI (cy 1) p3 4 (fne), wI (cy 1) p4 40 (fqi), wO h0 4 [.ref h1, .ref h2, .ref h3, .ref h4, .ref h5, .ref h6, .ref h7, .ref h8, .ref h9, .ref h10, .ref h11, .int ys, hv1, hv2, hv3, hv4], wI (cy 1) h1 4 (fc), wI (cy 1) h7 48 (fx), wO s0 7 [.ref s1, .ref s2, .int (nI sl), .int spl, .int svo, .int swi, .int sch], wI (cy 1) s1 10 (fw), (er, .inl (cy 4, 4, .inr (.inr (.inr (.inr (eF (ea 0) (ea 1) (ea 2) (ea 3))))))), wO (ea 0) 2 [.ref (eg 0), .ref (ef 0), .int (et 0), .int (nI (el 0)), .int (nI (ei 0))], wI (cy 1) (eg 0) 10 (gc 0), wI (cy 1) (ef 0) 7 (xc 0), wO (ea 1) 2 [.ref (eg 1), .ref (ef 1), .int (et 1), .int (nI (el 1)), .int (nI (ei 1))], wI (cy 1) (eg 1) 10 (gc 1), wI (cy 1) (ef 1) 7 (xc 1), wO (ea 2) 2 [.ref (eg 2), .ref (ef 2), .int (et 2), .int (nI (el 2)), .int (nI (ei 2))], wI (cy 1) (eg 2) 10 (gc 2), wI (cy 1) (ef 2) 7 (xc 2), wO (ea 3) 2 [.ref (eg 3), .ref (ef 3), .int (et 3), .int (nI (el 3)), .int (nI (ei 3))], wI (cy 1) (eg 3) 10 (gc 3), wI (cy 1) (ef 3) 7 (xc 3)] hP9 hD9 hS9 (fun hP hD hS => ?_)
    clear hP9 hD9 hS9
    refine W.widen (k := 0) (n := 0) (Nat.le_of_ble_eq_true rfl) (Nat.le_of_ble_eq_true rfl) ?_
    replace hw7 : (zr7 = 0 ∨ zr7 = 1) := hw7
    have f_8 := hw7
    exact x_zret hQ hx hb hr hlocks hK hP hD hS (narB f_8) dX6_choosePlaces_18 fpc (⟨f_8, hpc⟩) [1, 2, 3, 0, 4, 5, 6, 7, 8, 9, 10, 11, 12, 13, 14, 15, 16, 17, 18, 19, 20, 21] (by decide +kernel) rfl (Nat.le_of_ble_eq_true rfl) (Nat.le_of_ble_eq_true rfl)
  · have q_6 : 3 < ch := q_nle (a := ch) (b := 3) rfl rfl (by omega) (by omega) c_5
    refine lv_iload_n hx hb dX6_choosePlaces_8 rfl (lv_at hl 1 rfl) ?_
    refine lv_iconst (v := 3) hx hb dX6_choosePlaces_9 (by decide) ?_
    refine lv_icmp_lt (tgt := 19) hx hb dX6_choosePlaces_10 (by decide) (fun h => absurd h (by decide)) (fun _ => ?_)
    refine lv_aload_n hx hb dX6_choosePlaces_13 rfl (lv_at hl 0 rfl) ?_
    refine lv_iload_n hx hb dX6_choosePlaces_14 rfl (lv_at hl 3 rfl) ?_
    refine x_callVi (q := (RX6, TX6, 9)) (ci := 6) (q0 := 0) (wr := [wI (cy 1) p2 3 (fpc)]) (rest := []) ⟨hx, hb, hml, hown, hg, hl.1⟩ k_X6_87 (s_canBeYes l D cy p0 p1 p2 p3 p4 er ro ch fne fqi h0 h1 h2 h3 h4 h5 h6 h7 h8 h9 h10 h11 hv1 hv2 hv3 hv4 ys fc c0 c1 c2 c3 fx s0 s1 s2 sl spl svo swi sch fw ea eg ef et el ei gc xc cg (hne) (hcn) (by omega) (by omega) (by omega) (by omega) (hnx) (fun i9 h9 => by rcases (show i9 = 0 ∨ i9 = 1 ∨ i9 = 2 ∨ i9 = 3 by omega) with rfl | rfl | rfl | rfl <;> omega) (hes) (by omega) (hsw)) E0_blind hK hP hD hS hA [0, 1, 2, 4, 5, 6, 7, 8, 9, 10, 11, 12, 13, 14, 15, 16, 17, 18, 19, 20, 21] [3] ⟨rfl, rfl, by decide +kernel, by decide +kernel, by decide +kernel⟩ rfl rfl (fun _ _ _ => trivial) dX6_choosePlaces_15 rfl rfl (Nat.le_of_ble_eq_true rfl) ⟨Nat.le_of_ble_eq_true rfl, Nat.le_of_ble_eq_true rfl⟩ ⟨Nat.le_of_ble_eq_true rfl, Nat.le_of_ble_eq_true rfl⟩ (fun zr9 zu9 H locs hw9 hP9 hD9 hS9 => ?_)
    clear hP hD hS
    refine reW [wI (cy 1) p2 3 (fpc), wO p0 6 [.ref p1, .ref er, .ref ro, .ref p2, .ref p3, .ref p4, .ref h0, .ref s0, .int (nI ch)], wI (cy 1) p3 4 (fne), wI (cy 1) p4 40 (fqi), wO h0 4 [.ref h1, .ref h2, .ref h3, .ref h4, .ref h5, .ref h6, .ref h7, .ref h8, .ref h9, .ref h10, .ref h11, .int ys, hv1, hv2, hv3, hv4], wI (cy 1) h1 4 (fc), wI (cy 1) h7 48 (fx), wO s0 7 [.ref s1, .ref s2, .int (nI sl), .int spl, .int svo, .int swi, .int sch], wI (cy 1) s1 10 (fw), (er, .inl (cy 4, 4, .inr (.inr (.inr (.inr (eF (ea 0) (ea 1) (ea 2) (ea 3))))))), wO (ea 0) 2 [.ref (eg 0), .ref (ef 0), .int (et 0), .int (nI (el 0)), .int (nI (ei 0))], wI (cy 1) (eg 0) 10 (gc 0), wI (cy 1) (ef 0) 7 (xc 0), wO (ea 1) 2 [.ref (eg 1), .ref (ef 1), .int (et 1), .int (nI (el 1)), .int (nI (ei 1))], wI (cy 1) (eg 1) 10 (gc 1), wI (cy 1) (ef 1) 7 (xc 1), wO (ea 2) 2 [.ref (eg 2), .ref (ef 2), .int (et 2), .int (nI (el 2)), .int (nI (ei 2))], wI (cy 1) (eg 2) 10 (gc 2), wI (cy 1) (ef 2) 7 (xc 2), wO (ea 3) 2 [.ref (eg 3), .ref (ef 3), .int (et 3), .int (nI (el 3)), .int (nI (ei 3))], wI (cy 1) (eg 3) 10 (gc 3), wI (cy 1) (ef 3) 7 (xc 3)] hP9 hD9 hS9 (fun hP hD hS => ?_)
    clear hP9 hD9 hS9
    refine W.widen (k := 0) (n := 0) (Nat.le_of_ble_eq_true rfl) (Nat.le_of_ble_eq_true rfl) ?_
    replace hw9 : (zr9 = 0 ∨ zr9 = 1) := hw9
    have f_10 := hw9
    exact x_zret hQ hx hb hr hlocks hK hP hD hS (narB f_10) dX6_choosePlaces_18 fpc (⟨f_10, hpc⟩) [1, 2, 3, 0, 4, 5, 6, 7, 8, 9, 10, 11, 12, 13, 14, 15, 16, 17, 18, 19, 20, 21] (by decide +kernel) rfl (Nat.le_of_ble_eq_true rfl) (Nat.le_of_ble_eq_true rfl)
theorem gdX6_choosePlaces_19 : decode cX6_choosePlaces 19 = .ok (.iload_n 2, 1) ∧ decode cX6_choosePlaces 20 = .ok (.istore 4, 2) ∧ decode cX6_choosePlaces 22 = .ok (.iload 4, 2) ∧ decode cX6_choosePlaces 24 = .ok (.aload_n 0, 1) ∧ decode cX6_choosePlaces 25 = .ok (.getfield 39, 3) ∧ decode cX6_choosePlaces 28 = .ok (.getfield 48, 3) ∧ decode cX6_choosePlaces 31 = .ok (.if_icmp .ge 39, 3) ∧ decode cX6_choosePlaces 70 = .ok (.iconst 0, 1) ∧ decode cX6_choosePlaces 71 = .ok (.ireturn, 1) ∧ decode cX6_choosePlaces 34 = .ok (.aload_n 0, 1) ∧ decode cX6_choosePlaces 35 = .ok (.getfield 15, 3) ∧ decode cX6_choosePlaces 38 = .ok (.iload_n 1, 1) := by decide +kernel
theorem dX6_choosePlaces_19 : decode cX6_choosePlaces 19 = .ok (.iload_n 2, 1) := gdX6_choosePlaces_19.1
theorem dX6_choosePlaces_20 : decode cX6_choosePlaces 20 = .ok (.istore 4, 2) := gdX6_choosePlaces_19.2.1
theorem dX6_choosePlaces_22 : decode cX6_choosePlaces 22 = .ok (.iload 4, 2) := gdX6_choosePlaces_19.2.2.1
theorem dX6_choosePlaces_24 : decode cX6_choosePlaces 24 = .ok (.aload_n 0, 1) := gdX6_choosePlaces_19.2.2.2.1
theorem dX6_choosePlaces_25 : decode cX6_choosePlaces 25 = .ok (.getfield 39, 3) := gdX6_choosePlaces_19.2.2.2.2.1
theorem dX6_choosePlaces_28 : decode cX6_choosePlaces 28 = .ok (.getfield 48, 3) := gdX6_choosePlaces_19.2.2.2.2.2.1
theorem dX6_choosePlaces_31 : decode cX6_choosePlaces 31 = .ok (.if_icmp .ge 39, 3) := gdX6_choosePlaces_19.2.2.2.2.2.2.1
theorem dX6_choosePlaces_70 : decode cX6_choosePlaces 70 = .ok (.iconst 0, 1) := gdX6_choosePlaces_19.2.2.2.2.2.2.2.1
theorem dX6_choosePlaces_71 : decode cX6_choosePlaces 71 = .ok (.ireturn, 1) := gdX6_choosePlaces_19.2.2.2.2.2.2.2.2.1
theorem dX6_choosePlaces_34 : decode cX6_choosePlaces 34 = .ok (.aload_n 0, 1) := gdX6_choosePlaces_19.2.2.2.2.2.2.2.2.2.1
theorem dX6_choosePlaces_35 : decode cX6_choosePlaces 35 = .ok (.getfield 15, 3) := gdX6_choosePlaces_19.2.2.2.2.2.2.2.2.2.2.1
theorem dX6_choosePlaces_38 : decode cX6_choosePlaces 38 = .ok (.iload_n 1, 1) := gdX6_choosePlaces_19.2.2.2.2.2.2.2.2.2.2.2
theorem gdX6_choosePlaces_39 : decode cX6_choosePlaces 39 = .ok (.iload 4, 2) ∧ decode cX6_choosePlaces 41 = .ok (.iastore, 1) ∧ decode cX6_choosePlaces 42 = .ok (.aload_n 0, 1) ∧ decode cX6_choosePlaces 43 = .ok (.iload_n 1, 1) ∧ decode cX6_choosePlaces 44 = .ok (.iconst 1, 1) ∧ decode cX6_choosePlaces 45 = .ok (.iadd, 1) ∧ decode cX6_choosePlaces 46 = .ok (.iload 4, 2) ∧ decode cX6_choosePlaces 48 = .ok (.iconst 1, 1) ∧ decode cX6_choosePlaces 49 = .ok (.iadd, 1) ∧ decode cX6_choosePlaces 50 = .ok (.iload_n 3, 1) ∧ decode cX6_choosePlaces 51 = .ok (.iconst 1, 1) ∧ decode cX6_choosePlaces 52 = .ok (.iload 4, 2) := by decide +kernel
theorem dX6_choosePlaces_39 : decode cX6_choosePlaces 39 = .ok (.iload 4, 2) := gdX6_choosePlaces_39.1
theorem dX6_choosePlaces_41 : decode cX6_choosePlaces 41 = .ok (.iastore, 1) := gdX6_choosePlaces_39.2.1
theorem dX6_choosePlaces_42 : decode cX6_choosePlaces 42 = .ok (.aload_n 0, 1) := gdX6_choosePlaces_39.2.2.1
theorem dX6_choosePlaces_43 : decode cX6_choosePlaces 43 = .ok (.iload_n 1, 1) := gdX6_choosePlaces_39.2.2.2.1
theorem dX6_choosePlaces_44 : decode cX6_choosePlaces 44 = .ok (.iconst 1, 1) := gdX6_choosePlaces_39.2.2.2.2.1
theorem dX6_choosePlaces_45 : decode cX6_choosePlaces 45 = .ok (.iadd, 1) := gdX6_choosePlaces_39.2.2.2.2.2.1
theorem dX6_choosePlaces_46 : decode cX6_choosePlaces 46 = .ok (.iload 4, 2) := gdX6_choosePlaces_39.2.2.2.2.2.2.1
theorem dX6_choosePlaces_48 : decode cX6_choosePlaces 48 = .ok (.iconst 1, 1) := gdX6_choosePlaces_39.2.2.2.2.2.2.2.1
theorem dX6_choosePlaces_49 : decode cX6_choosePlaces 49 = .ok (.iadd, 1) := gdX6_choosePlaces_39.2.2.2.2.2.2.2.2.1
theorem dX6_choosePlaces_50 : decode cX6_choosePlaces 50 = .ok (.iload_n 3, 1) := gdX6_choosePlaces_39.2.2.2.2.2.2.2.2.2.1
theorem dX6_choosePlaces_51 : decode cX6_choosePlaces 51 = .ok (.iconst 1, 1) := gdX6_choosePlaces_39.2.2.2.2.2.2.2.2.2.2.1
theorem dX6_choosePlaces_52 : decode cX6_choosePlaces 52 = .ok (.iload 4, 2) := gdX6_choosePlaces_39.2.2.2.2.2.2.2.2.2.2.2
theorem gdX6_choosePlaces_54 : decode cX6_choosePlaces 54 = .ok (.ishl, 1) ∧ decode cX6_choosePlaces 55 = .ok (.ior, 1) ∧ decode cX6_choosePlaces 56 = .ok (.invokevirtual 69, 3) := by decide +kernel
theorem dX6_choosePlaces_54 : decode cX6_choosePlaces 54 = .ok (.ishl, 1) := gdX6_choosePlaces_54.1
theorem dX6_choosePlaces_55 : decode cX6_choosePlaces 55 = .ok (.ior, 1) := gdX6_choosePlaces_54.2.1
theorem dX6_choosePlaces_56 : decode cX6_choosePlaces 56 = .ok (.invokevirtual 69, 3) := gdX6_choosePlaces_54.2.2
theorem k_X6_69 : xV RX6 RX6 69 yX6_choosePlaces cX6_choosePlaces 5 (some .boolean) 3 := ⟨⟨m_1249, m_1251, m_49, m_144, m_1252⟩, rfl, by decide, by decide, by decide +kernel⟩
theorem gdX6_choosePlaces_59 : decode cX6_choosePlaces 59 = .ok (.ifCond .eq 5, 3) ∧ decode cX6_choosePlaces 64 = .ok (.iinc 4 1, 3) ∧ decode cX6_choosePlaces 67 = .ok (.goto (-45), 3) ∧ decode cX6_choosePlaces 62 = .ok (.iconst 1, 1) ∧ decode cX6_choosePlaces 63 = .ok (.ireturn, 1) := by decide +kernel
theorem dX6_choosePlaces_59 : decode cX6_choosePlaces 59 = .ok (.ifCond .eq 5, 3) := gdX6_choosePlaces_59.1
theorem dX6_choosePlaces_64 : decode cX6_choosePlaces 64 = .ok (.iinc 4 1, 3) := gdX6_choosePlaces_59.2.1
theorem dX6_choosePlaces_67 : decode cX6_choosePlaces 67 = .ok (.goto (-45), 3) := gdX6_choosePlaces_59.2.2.1
theorem dX6_choosePlaces_62 : decode cX6_choosePlaces 62 = .ok (.iconst 1, 1) := gdX6_choosePlaces_59.2.2.2.1
theorem dX6_choosePlaces_63 : decode cX6_choosePlaces 63 = .ok (.ireturn, 1) := gdX6_choosePlaces_59.2.2.2.2
set_option maxHeartbeats 1000000 in
set_option maxRecDepth 100000 in
theorem s_choosePlaces2 (l : Launch) (D : va_G) (cy : Nat → ClassId) (p0 : Nat) (p1 : Nat) (p2 : Nat) (p3 : Nat) (p4 : Nat) (er : Nat) (ro : Nat) (ch : Nat) (fne : Nat → Int32) (fqi : Nat → Int32) (fpc : Nat → Int32) (h0 : Nat) (h1 : Nat) (h2 : Nat) (h3 : Nat) (h4 : Nat) (h5 : Nat) (h6 : Nat) (h7 : Nat) (h8 : Nat) (h9 : Nat) (h10 : Nat) (h11 : Nat) (hv1 : Value) (hv2 : Value) (hv3 : Value) (hv4 : Value) (ys : Int32) (fc : Nat → Int32) (c0 : Nat) (c1 : Nat) (c2 : Nat) (c3 : Nat) (fx : Nat → Int32) (s0 : Nat) (s1 : Nat) (s2 : Nat) (sl : Nat) (spl : Int32) (svo : Int32) (swi : Int32) (sch : Int32) (fw : Nat → Int32) (ea : Nat → Nat) (eg : Nat → Nat) (ef : Nat → Nat) (et : Nat → Int32) (el : Nat → Nat) (ei : Nat → Nat) (gc : Nat → Nat → Int32) (xc : Nat → Nat → Int32) (fm : Nat) (cg : Int32) (hne : nOK fne c1) (hpc : rng fpc 3 9) (hch : ch ≤ 3) (hcn : cntOK fc c0 c1 c2 c3) (hc0 : c0 ≤ 8) (hc1 : c1 ≤ 4) (hc2 : c2 ≤ 4) (hc3 : c3 ≤ 6) (hnx : rng fx 48 5) (hel : ∀ i9, i9 < 4 → el i9 ≤ 10) (hes : ∀ i9, i9 < c1 → el i9 = sl) (hsl : sl ≤ 10) (hsw : rng fw 10 7) (hfm : fm ≤ 10) : XMi l D (tyL cy) E0 yX6_choosePlaces cX6_choosePlaces 5 (some .boolean) (rmk 5 0 0) [.ref p0, .int 2, .int (nI fm), .int cg] [wO p0 6 [.ref p1, .ref er, .ref ro, .ref p2, .ref p3, .ref p4, .ref h0, .ref s0, .int (nI ch)], wI (cy 1) p3 4 (fne), wI (cy 1) p4 40 (fqi), wI (cy 1) p2 3 (fpc), wO h0 4 [.ref h1, .ref h2, .ref h3, .ref h4, .ref h5, .ref h6, .ref h7, .ref h8, .ref h9, .ref h10, .ref h11, .int ys, hv1, hv2, hv3, hv4], wI (cy 1) h1 4 (fc), wI (cy 1) h7 48 (fx), wO s0 7 [.ref s1, .ref s2, .int (nI sl), .int spl, .int svo, .int swi, .int sch], wI (cy 1) s1 10 (fw), (er, .inl (cy 4, 4, .inr (.inr (.inr (.inr (eF (ea 0) (ea 1) (ea 2) (ea 3))))))), wO (ea 0) 2 [.ref (eg 0), .ref (ef 0), .int (et 0), .int (nI (el 0)), .int (nI (ei 0))], wI (cy 1) (eg 0) 10 (gc 0), wI (cy 1) (ef 0) 7 (xc 0), wO (ea 1) 2 [.ref (eg 1), .ref (ef 1), .int (et 1), .int (nI (el 1)), .int (nI (ei 1))], wI (cy 1) (eg 1) 10 (gc 1), wI (cy 1) (ef 1) 7 (xc 1), wO (ea 2) 2 [.ref (eg 2), .ref (ef 2), .int (et 2), .int (nI (el 2)), .int (nI (ei 2))], wI (cy 1) (eg 2) 10 (gc 2), wI (cy 1) (ef 2) 7 (xc 2), wO (ea 3) 2 [.ref (eg 3), .ref (ef 3), .int (et 3), .int (nI (el 3)), .int (nI (ei 3))], wI (cy 1) (eg 3) 10 (gc 3), wI (cy 1) (ef 3) 7 (xc 3)] (fun (r : Int32) (fpc2 : Nat → Int32) => (r = 0 ∨ r = 1) ∧ (rng fpc2 3 9)) (fun (fpc2 : Nat → Int32) => [wO p0 6 [.ref p1, .ref er, .ref ro, .ref p2, .ref p3, .ref p4, .ref h0, .ref s0, .int (nI ch)], wI (cy 1) p3 4 (fne), wI (cy 1) p4 40 (fqi), wI (cy 1) p2 3 (fpc2), wO h0 4 [.ref h1, .ref h2, .ref h3, .ref h4, .ref h5, .ref h6, .ref h7, .ref h8, .ref h9, .ref h10, .ref h11, .int ys, hv1, hv2, hv3, hv4], wI (cy 1) h1 4 (fc), wI (cy 1) h7 48 (fx), wO s0 7 [.ref s1, .ref s2, .int (nI sl), .int spl, .int svo, .int swi, .int sch], wI (cy 1) s1 10 (fw), (er, .inl (cy 4, 4, .inr (.inr (.inr (.inr (eF (ea 0) (ea 1) (ea 2) (ea 3))))))), wO (ea 0) 2 [.ref (eg 0), .ref (ef 0), .int (et 0), .int (nI (el 0)), .int (nI (ei 0))], wI (cy 1) (eg 0) 10 (gc 0), wI (cy 1) (ef 0) 7 (xc 0), wO (ea 1) 2 [.ref (eg 1), .ref (ef 1), .int (et 1), .int (nI (el 1)), .int (nI (ei 1))], wI (cy 1) (eg 1) 10 (gc 1), wI (cy 1) (ef 1) 7 (xc 1), wO (ea 2) 2 [.ref (eg 2), .ref (ef 2), .int (et 2), .int (nI (el 2)), .int (nI (ei 2))], wI (cy 1) (eg 2) 10 (gc 2), wI (cy 1) (ef 2) 7 (xc 2), wO (ea 3) 2 [.ref (eg 3), .ref (ef 3), .int (et 3), .int (nI (el 3)), .int (nI (ei 3))], wI (cy 1) (eg 3) 10 (gc 3), wI (cy 1) (ef 3) 7 (xc 3)]) := by
  refine XMi.start (by decide) (Nat.le_of_ble_eq_true rfl) ?_
  intro p e s m below meth c args A ls Q hat hQ
  obtain ⟨hx, hb, hr, hml, hown, hg, hlocks, hin, hK, hA, hP, hD, hS, hE, hl⟩ := hat
  have hown : s.vm.findClass RX6 = some m.cls := hown
  have hl : lv_has ls 5 [(0, .ref p0), (1, .int 2), (2, .int (nI fm)), (3, .int cg)] := hl
  have hk_1 := hel 0 (by decide)
  have hk_2 := hel 1 (by decide)
  have hk_3 := hel 2 (by decide)
  have hk_4 := hel 3 (by decide)
  refine lv_iload_n hx hb dX6_choosePlaces_0 rfl (lv_at hl 1 rfl) ?_
  refine lv_aload_n hx hb dX6_choosePlaces_1 rfl (lv_at hl 0 rfl) ?_
  refine va_get (D := D) (ci := 6) (v := .int (nI ch)) (C := RX6) (T := TX6) (N := 9) hx hb hg i_X6 hown hK hP 0 rfl rfl 8 (by decide) (hg _ m_593) (fun _ h9 => h9) rfl dX6_choosePlaces_2 ?_
  refine lv_icmp_ge (tgt := 13) hx hb dX6_choosePlaces_5 (by decide) (fun c_5 => ?_) (fun c_5 => ?_)
  · have q_6 : ch ≤ 2 := q_le (a := ch) (b := 2) rfl rfl (by omega) (by omega) c_5
    refine lv_aload_n hx hb dX6_choosePlaces_13 rfl (lv_at hl 0 rfl) ?_
    refine lv_iload_n hx hb dX6_choosePlaces_14 rfl (lv_at hl 3 rfl) ?_
    refine x_callVi (q := (RX6, TX6, 9)) (ci := 6) (q0 := 0) (wr := [wI (cy 1) p2 3 (fpc)]) (rest := []) ⟨hx, hb, hml, hown, hg, hl.1⟩ k_X6_87 (s_canBeYes l D cy p0 p1 p2 p3 p4 er ro ch fne fqi h0 h1 h2 h3 h4 h5 h6 h7 h8 h9 h10 h11 hv1 hv2 hv3 hv4 ys fc c0 c1 c2 c3 fx s0 s1 s2 sl spl svo swi sch fw ea eg ef et el ei gc xc cg (hne) (hcn) (by omega) (by omega) (by omega) (by omega) (hnx) (fun i9 h9 => by rcases (show i9 = 0 ∨ i9 = 1 ∨ i9 = 2 ∨ i9 = 3 by omega) with rfl | rfl | rfl | rfl <;> omega) (hes) (by omega) (hsw)) E0_blind hK hP hD hS hA [0, 1, 2, 4, 5, 6, 7, 8, 9, 10, 11, 12, 13, 14, 15, 16, 17, 18, 19, 20, 21] [3] ⟨rfl, rfl, by decide +kernel, by decide +kernel, by decide +kernel⟩ rfl rfl (fun _ _ _ => trivial) dX6_choosePlaces_15 rfl rfl (Nat.le_of_ble_eq_true rfl) ⟨Nat.le_of_ble_eq_true rfl, Nat.le_of_ble_eq_true rfl⟩ ⟨Nat.le_of_ble_eq_true rfl, Nat.le_of_ble_eq_true rfl⟩ (fun zr7 zu7 H locs hw7 hP9 hD9 hS9 => ?_)
    clear hP hD hS
    refine reW [wI (cy 1) p2 3 (fpc), wO p0 6 [.ref p1, .ref er, .ref ro, .ref p2, .ref p3, .ref p4, .ref h0, .ref s0, .int (nI ch)], wI (cy 1) p3 4 (fne), wI (cy 1) p4 40 (fqi), wO h0 4 [.ref h1, .ref h2, .ref h3, .ref h4, .ref h5, .ref h6, .ref h7, .ref h8, .ref h9, .ref h10, .ref h11, .int ys, hv1, hv2, hv3, hv4], wI (cy 1) h1 4 (fc), wI (cy 1) h7 48 (fx), wO s0 7 [.ref s1, .ref s2, .int (nI sl), .int spl, .int svo, .int swi, .int sch], wI (cy 1) s1 10 (fw), (er, .inl (cy 4, 4, .inr (.inr (.inr (.inr (eF (ea 0) (ea 1) (ea 2) (ea 3))))))), wO (ea 0) 2 [.ref (eg 0), .ref (ef 0), .int (et 0), .int (nI (el 0)), .int (nI (ei 0))], wI (cy 1) (eg 0) 10 (gc 0), wI (cy 1) (ef 0) 7 (xc 0), wO (ea 1) 2 [.ref (eg 1), .ref (ef 1), .int (et 1), .int (nI (el 1)), .int (nI (ei 1))], wI (cy 1) (eg 1) 10 (gc 1), wI (cy 1) (ef 1) 7 (xc 1), wO (ea 2) 2 [.ref (eg 2), .ref (ef 2), .int (et 2), .int (nI (el 2)), .int (nI (ei 2))], wI (cy 1) (eg 2) 10 (gc 2), wI (cy 1) (ef 2) 7 (xc 2), wO (ea 3) 2 [.ref (eg 3), .ref (ef 3), .int (et 3), .int (nI (el 3)), .int (nI (ei 3))], wI (cy 1) (eg 3) 10 (gc 3), wI (cy 1) (ef 3) 7 (xc 3)] hP9 hD9 hS9 (fun hP hD hS => ?_)
    clear hP9 hD9 hS9
    refine W.widen (k := 0) (n := 0) (Nat.le_of_ble_eq_true rfl) (Nat.le_of_ble_eq_true rfl) ?_
    replace hw7 : (zr7 = 0 ∨ zr7 = 1) := hw7
    have f_8 := hw7
    exact x_zret hQ hx hb hr hlocks hK hP hD hS (narB f_8) dX6_choosePlaces_18 fpc (⟨f_8, hpc⟩) [1, 2, 3, 0, 4, 5, 6, 7, 8, 9, 10, 11, 12, 13, 14, 15, 16, 17, 18, 19, 20, 21] (by decide +kernel) rfl (Nat.le_of_ble_eq_true rfl) (Nat.le_of_ble_eq_true rfl)
  · have q_6 : 2 < ch := q_nle (a := ch) (b := 2) rfl rfl (by omega) (by omega) c_5
    refine lv_iload_n hx hb dX6_choosePlaces_8 rfl (lv_at hl 1 rfl) ?_
    refine lv_iconst (v := 3) hx hb dX6_choosePlaces_9 (by decide) ?_
    refine lv_icmp_lt (tgt := 19) hx hb dX6_choosePlaces_10 (by decide) (fun _ => ?_) (fun h => absurd (by decide) h)
    refine lv_iload_n hx hb dX6_choosePlaces_19 rfl (lv_at hl 2 rfl) ?_
    refine lv_istore (lv' := [(4, .int (nI fm)), (0, .ref p0), (1, .int 2), (2, .int (nI fm)), (3, .int cg)]) hx hb dX6_choosePlaces_20 hl (by decide) rfl (fun ls hl => ?_)
    have loop9 : ∀ (zn : Nat) (i9 : Nat) (fa1_9 : Nat → Int32), (rng fa1_9 3 9) → (i9 ≤ 10) → 10 - i9 + 1 ≤ zn → ∀ (H : Heap) (locs : List Loc), va_P D vwCl [wO p0 6 [.ref p1, .ref er, .ref ro, .ref p2, .ref p3, .ref p4, .ref h0, .ref s0, .int (nI ch)], wI (cy 1) p3 4 (fne), wI (cy 1) p4 40 (fqi), wI (cy 1) p2 3 (fa1_9), wO h0 4 [.ref h1, .ref h2, .ref h3, .ref h4, .ref h5, .ref h6, .ref h7, .ref h8, .ref h9, .ref h10, .ref h11, .int ys, hv1, hv2, hv3, hv4], wI (cy 1) h1 4 (fc), wI (cy 1) h7 48 (fx), wO s0 7 [.ref s1, .ref s2, .int (nI sl), .int spl, .int svo, .int swi, .int sch], wI (cy 1) s1 10 (fw), (er, .inl (cy 4, 4, .inr (.inr (.inr (.inr (eF (ea 0) (ea 1) (ea 2) (ea 3))))))), wO (ea 0) 2 [.ref (eg 0), .ref (ef 0), .int (et 0), .int (nI (el 0)), .int (nI (ei 0))], wI (cy 1) (eg 0) 10 (gc 0), wI (cy 1) (ef 0) 7 (xc 0), wO (ea 1) 2 [.ref (eg 1), .ref (ef 1), .int (et 1), .int (nI (el 1)), .int (nI (ei 1))], wI (cy 1) (eg 1) 10 (gc 1), wI (cy 1) (ef 1) 7 (xc 1), wO (ea 2) 2 [.ref (eg 2), .ref (ef 2), .int (et 2), .int (nI (el 2)), .int (nI (ei 2))], wI (cy 1) (eg 2) 10 (gc 2), wI (cy 1) (ef 2) 7 (xc 2), wO (ea 3) 2 [.ref (eg 3), .ref (ef 3), .int (et 3), .int (nI (el 3)), .int (nI (ei 3))], wI (cy 1) (eg 3) 10 (gc 3), wI (cy 1) (ef 3) 7 (xc 3)] H → va_D A [wO p0 6 [.ref p1, .ref er, .ref ro, .ref p2, .ref p3, .ref p4, .ref h0, .ref s0, .int (nI ch)], wI (cy 1) p3 4 (fne), wI (cy 1) p4 40 (fqi), wI (cy 1) p2 3 (fa1_9), wO h0 4 [.ref h1, .ref h2, .ref h3, .ref h4, .ref h5, .ref h6, .ref h7, .ref h8, .ref h9, .ref h10, .ref h11, .int ys, hv1, hv2, hv3, hv4], wI (cy 1) h1 4 (fc), wI (cy 1) h7 48 (fx), wO s0 7 [.ref s1, .ref s2, .int (nI sl), .int spl, .int svo, .int swi, .int sch], wI (cy 1) s1 10 (fw), (er, .inl (cy 4, 4, .inr (.inr (.inr (.inr (eF (ea 0) (ea 1) (ea 2) (ea 3))))))), wO (ea 0) 2 [.ref (eg 0), .ref (ef 0), .int (et 0), .int (nI (el 0)), .int (nI (ei 0))], wI (cy 1) (eg 0) 10 (gc 0), wI (cy 1) (ef 0) 7 (xc 0), wO (ea 1) 2 [.ref (eg 1), .ref (ef 1), .int (et 1), .int (nI (el 1)), .int (nI (ei 1))], wI (cy 1) (eg 1) 10 (gc 1), wI (cy 1) (ef 1) 7 (xc 1), wO (ea 2) 2 [.ref (eg 2), .ref (ef 2), .int (et 2), .int (nI (el 2)), .int (nI (ei 2))], wI (cy 1) (eg 2) 10 (gc 2), wI (cy 1) (ef 2) 7 (xc 2), wO (ea 3) 2 [.ref (eg 3), .ref (ef 3), .int (et 3), .int (nI (el 3)), .int (nI (ei 3))], wI (cy 1) (eg 3) 10 (gc 3), wI (cy 1) (ef 3) 7 (xc 3)] → va_S A s.heap H locs → ∀ ls : Array Slot, lv_has ls 5 [(4, .int (nI i9)), (0, .ref p0), (1, .int 2), (2, .int (nI fm)), (3, .int cg)] → W p l e (rmk 5 0 0) s m args below meth c H locs 0 0 Q (F0 m 22 ls []) := by
      try clear hP hD hS
      intro zn
      induction zn with
      | zero => intro i9 fa1_9 _ _ hz; exact absurd hz (by omega)
      | succ zn ih9 =>
        intro i9 fa1_9 ha2_9 hf0_9 hmu9 H locs hP hD hS ls hl
        refine lv_iload hx hb dX6_choosePlaces_22 (lv_at hl 0 rfl) ?_
        refine lv_aload_n hx hb dX6_choosePlaces_24 rfl (lv_at hl 1 rfl) ?_
        refine va_get (D := D) (ci := 6) (v := .ref s0) (C := RX6) (T := TX6) (N := 9) hx hb hg i_X6 hown hK hP 0 rfl rfl 7 (by decide) (hg _ m_592) (fun _ h9 => h9) rfl dX6_choosePlaces_25 ?_
        refine va_get (D := D) (ci := 7) (v := .int (nI sl)) (C := RX7) (T := TX7) (N := 7) hx hb hg i_X7 hown hK hP 7 rfl rfl 2 (by decide) (hg _ m_630) (fun _ h9 => h9) rfl dX6_choosePlaces_28 ?_
        refine lv_icmp_ge (tgt := 70) hx hb dX6_choosePlaces_31 (by decide) (fun c_10 => ?_) (fun c_10 => ?_)
        · have q_11 : sl ≤ i9 := q_le (a := sl) (b := i9) rfl rfl (by omega) (by omega) c_10
          refine lv_iconst (v := 0) hx hb dX6_choosePlaces_70 (by decide) ?_
          exact x_zret hQ hx hb hr hlocks hK hP hD hS rfl dX6_choosePlaces_71 fa1_9 (⟨(Or.inl rfl), ha2_9⟩) [0, 1, 2, 3, 4, 5, 6, 7, 8, 9, 10, 11, 12, 13, 14, 15, 16, 17, 18, 19, 20, 21] (by decide +kernel) rfl (Nat.le_of_ble_eq_true rfl) (Nat.le_of_ble_eq_true rfl)
        · have q_11 : i9 < sl := q_nle (a := sl) (b := i9) rfl rfl (by omega) (by omega) c_10
          refine lv_aload_n hx hb dX6_choosePlaces_34 rfl (lv_at hl 1 rfl) ?_
          refine va_get (D := D) (ci := 6) (v := .ref p2) (C := RX6) (T := TX6) (N := 9) hx hb hg i_X6 hown hK hP 0 rfl rfl 3 (by decide) (hg _ m_588) (fun _ h9 => h9) rfl dX6_choosePlaces_35 ?_
          refine lv_iload_n hx hb dX6_choosePlaces_38 rfl (lv_at hl 2 rfl) ?_
          refine lv_iload hx hb dX6_choosePlaces_39 (lv_at hl 0 rfl) ?_
          refine va_iast hx hb hK hP hD hS 3 1 rfl rfl (by unfold vp_in; decide) dX6_choosePlaces_41 (fun H locs hP9 hD9 hS9 => ?_)
          clear hP hD hS
          have hP := hP9
          have hD := hD9
          have hS := hS9
          clear hP9 hD9 hS9
          obtain ⟨g_12, eg_12⟩ : ∃ y, upd fa1_9 (2 : Int32).toNatClampNeg (nI i9) = y := ⟨_, rfl⟩
          rw [eg_12] at hP hD
          have hr_13 : rng g_12 3 9 := eg_12 ▸ rng_put ha2_9 (j := i9) (by omega)
          replace hP : va_P D vwCl [wO p0 6 [.ref p1, .ref er, .ref ro, .ref p2, .ref p3, .ref p4, .ref h0, .ref s0, .int (nI ch)], wI (cy 1) p3 4 (fne), wI (cy 1) p4 40 (fqi), wI (cy 1) p2 3 (g_12), wO h0 4 [.ref h1, .ref h2, .ref h3, .ref h4, .ref h5, .ref h6, .ref h7, .ref h8, .ref h9, .ref h10, .ref h11, .int ys, hv1, hv2, hv3, hv4], wI (cy 1) h1 4 (fc), wI (cy 1) h7 48 (fx), wO s0 7 [.ref s1, .ref s2, .int (nI sl), .int spl, .int svo, .int swi, .int sch], wI (cy 1) s1 10 (fw), (er, .inl (cy 4, 4, .inr (.inr (.inr (.inr (eF (ea 0) (ea 1) (ea 2) (ea 3))))))), wO (ea 0) 2 [.ref (eg 0), .ref (ef 0), .int (et 0), .int (nI (el 0)), .int (nI (ei 0))], wI (cy 1) (eg 0) 10 (gc 0), wI (cy 1) (ef 0) 7 (xc 0), wO (ea 1) 2 [.ref (eg 1), .ref (ef 1), .int (et 1), .int (nI (el 1)), .int (nI (ei 1))], wI (cy 1) (eg 1) 10 (gc 1), wI (cy 1) (ef 1) 7 (xc 1), wO (ea 2) 2 [.ref (eg 2), .ref (ef 2), .int (et 2), .int (nI (el 2)), .int (nI (ei 2))], wI (cy 1) (eg 2) 10 (gc 2), wI (cy 1) (ef 2) 7 (xc 2), wO (ea 3) 2 [.ref (eg 3), .ref (ef 3), .int (et 3), .int (nI (el 3)), .int (nI (ei 3))], wI (cy 1) (eg 3) 10 (gc 3), wI (cy 1) (ef 3) 7 (xc 3)] H := hP
          replace hD : va_D A [wO p0 6 [.ref p1, .ref er, .ref ro, .ref p2, .ref p3, .ref p4, .ref h0, .ref s0, .int (nI ch)], wI (cy 1) p3 4 (fne), wI (cy 1) p4 40 (fqi), wI (cy 1) p2 3 (g_12), wO h0 4 [.ref h1, .ref h2, .ref h3, .ref h4, .ref h5, .ref h6, .ref h7, .ref h8, .ref h9, .ref h10, .ref h11, .int ys, hv1, hv2, hv3, hv4], wI (cy 1) h1 4 (fc), wI (cy 1) h7 48 (fx), wO s0 7 [.ref s1, .ref s2, .int (nI sl), .int spl, .int svo, .int swi, .int sch], wI (cy 1) s1 10 (fw), (er, .inl (cy 4, 4, .inr (.inr (.inr (.inr (eF (ea 0) (ea 1) (ea 2) (ea 3))))))), wO (ea 0) 2 [.ref (eg 0), .ref (ef 0), .int (et 0), .int (nI (el 0)), .int (nI (ei 0))], wI (cy 1) (eg 0) 10 (gc 0), wI (cy 1) (ef 0) 7 (xc 0), wO (ea 1) 2 [.ref (eg 1), .ref (ef 1), .int (et 1), .int (nI (el 1)), .int (nI (ei 1))], wI (cy 1) (eg 1) 10 (gc 1), wI (cy 1) (ef 1) 7 (xc 1), wO (ea 2) 2 [.ref (eg 2), .ref (ef 2), .int (et 2), .int (nI (el 2)), .int (nI (ei 2))], wI (cy 1) (eg 2) 10 (gc 2), wI (cy 1) (ef 2) 7 (xc 2), wO (ea 3) 2 [.ref (eg 3), .ref (ef 3), .int (et 3), .int (nI (el 3)), .int (nI (ei 3))], wI (cy 1) (eg 3) 10 (gc 3), wI (cy 1) (ef 3) 7 (xc 3)] := hD
          refine lv_aload_n hx hb dX6_choosePlaces_42 rfl (lv_at hl 1 rfl) ?_
          refine lv_iload_n hx hb dX6_choosePlaces_43 rfl (lv_at hl 2 rfl) ?_
          refine lv_iconst (v := 1) hx hb dX6_choosePlaces_44 (by decide) ?_
          refine lv_iadd hx hb dX6_choosePlaces_45 ?_
          refine lv_topi (fun y_14 hy_14 => ?_)
          obtain rfl : y_14 = 3 := hy_14.trans (by decide +kernel)
          refine lv_iload hx hb dX6_choosePlaces_46 (lv_at hl 0 rfl) ?_
          refine lv_iconst (v := 1) hx hb dX6_choosePlaces_48 (by decide) ?_
          refine lv_iadd hx hb dX6_choosePlaces_49 ?_
          refine lv_topi (fun y_15 hy_15 => ?_)
          obtain rfl : y_15 = nI (i9 + 1) := hy_15.trans (nI_add i9 1)
          refine lv_iload_n hx hb dX6_choosePlaces_50 rfl (lv_at hl 4 rfl) ?_
          refine lv_iconst (v := 1) hx hb dX6_choosePlaces_51 (by decide) ?_
          refine lv_iload hx hb dX6_choosePlaces_52 (lv_at hl 0 rfl) ?_
          refine lv_ishl hx hb dX6_choosePlaces_54 ?_
          refine lv_topi (fun x_16 ex_16 => ?_)
          refine lv_ior hx hb dX6_choosePlaces_55 ?_
          refine lv_topi (fun x_17 ex_17 => ?_)
          refine x_callVi (q := (RX6, TX6, 9)) (ci := 6) (q0 := 0) (wr := []) (rest := []) ⟨hx, hb, hml, hown, hg, hl.1⟩ k_X6_69 (s_choosePlaces3 l D cy p0 p1 p2 p3 p4 er ro ch fne fqi g_12 h0 h1 h2 h3 h4 h5 h6 h7 h8 h9 h10 h11 hv1 hv2 hv3 hv4 ys fc c0 c1 c2 c3 fx s0 s1 s2 sl spl svo swi sch fw ea eg ef et el ei gc xc ((i9 + 1)) x_17 (hne) (hr_13) (by omega) (hcn) (by omega) (by omega) (by omega) (by omega) (hnx) (fun i9 h9 => by rcases (show i9 = 0 ∨ i9 = 1 ∨ i9 = 2 ∨ i9 = 3 by omega) with rfl | rfl | rfl | rfl <;> omega) (hes) (by omega) (hsw) (by omega)) E0_blind hK hP hD hS hA [0, 1, 2, 3, 4, 5, 6, 7, 8, 9, 10, 11, 12, 13, 14, 15, 16, 17, 18, 19, 20, 21] [] ⟨rfl, rfl, by decide +kernel, by decide +kernel, by decide +kernel⟩ rfl rfl (fun _ _ _ => trivial) dX6_choosePlaces_56 rfl rfl (Nat.le_of_ble_eq_true rfl) ⟨Nat.le_of_ble_eq_true rfl, Nat.le_of_ble_eq_true rfl⟩ ⟨Nat.le_of_ble_eq_true rfl, Nat.le_of_ble_eq_true rfl⟩ (fun zr18 zu18 H locs hw18 hP9 hD9 hS9 => ?_)
          clear hP hD hS
          obtain ⟨fpc2_19, rfl⟩ : ∃ z, z = zu18 := ⟨_, rfl⟩
          refine reW [wO p0 6 [.ref p1, .ref er, .ref ro, .ref p2, .ref p3, .ref p4, .ref h0, .ref s0, .int (nI ch)], wI (cy 1) p3 4 (fne), wI (cy 1) p4 40 (fqi), wI (cy 1) p2 3 (fpc2_19), wO h0 4 [.ref h1, .ref h2, .ref h3, .ref h4, .ref h5, .ref h6, .ref h7, .ref h8, .ref h9, .ref h10, .ref h11, .int ys, hv1, hv2, hv3, hv4], wI (cy 1) h1 4 (fc), wI (cy 1) h7 48 (fx), wO s0 7 [.ref s1, .ref s2, .int (nI sl), .int spl, .int svo, .int swi, .int sch], wI (cy 1) s1 10 (fw), (er, .inl (cy 4, 4, .inr (.inr (.inr (.inr (eF (ea 0) (ea 1) (ea 2) (ea 3))))))), wO (ea 0) 2 [.ref (eg 0), .ref (ef 0), .int (et 0), .int (nI (el 0)), .int (nI (ei 0))], wI (cy 1) (eg 0) 10 (gc 0), wI (cy 1) (ef 0) 7 (xc 0), wO (ea 1) 2 [.ref (eg 1), .ref (ef 1), .int (et 1), .int (nI (el 1)), .int (nI (ei 1))], wI (cy 1) (eg 1) 10 (gc 1), wI (cy 1) (ef 1) 7 (xc 1), wO (ea 2) 2 [.ref (eg 2), .ref (ef 2), .int (et 2), .int (nI (el 2)), .int (nI (ei 2))], wI (cy 1) (eg 2) 10 (gc 2), wI (cy 1) (ef 2) 7 (xc 2), wO (ea 3) 2 [.ref (eg 3), .ref (ef 3), .int (et 3), .int (nI (el 3)), .int (nI (ei 3))], wI (cy 1) (eg 3) 10 (gc 3), wI (cy 1) (ef 3) 7 (xc 3)] hP9 hD9 hS9 (fun hP hD hS => ?_)
          clear hP9 hD9 hS9
          refine W.widen (k := 0) (n := 0) (Nat.le_of_ble_eq_true rfl) (Nat.le_of_ble_eq_true rfl) ?_
          replace hw18 : (zr18 = 0 ∨ zr18 = 1) ∧ (rng fpc2_19 3 9) := hw18
          obtain ⟨f_20, f_21⟩ := hw18
          refine lv_if_eq (tgt := 64) hx hb dX6_choosePlaces_59 (by decide) (fun c_59 => ?_) (fun c_59 => ?_)
          · refine lv_iinc (v := nI (i9 + 1)) (lv' := [(4, .int (nI (i9 + 1))), (0, .ref p0), (1, .int 2), (2, .int (nI fm)), (3, .int cg)]) hx hb dX6_choosePlaces_64 hl (k := 0) rfl (nI_add i9 1) (by decide) rfl (fun ls hl => ?_)
            refine lv_goto (tgt := 22) hx hb dX6_choosePlaces_67 (by decide) ?_
            exact ih9  ((i9 + 1)) fpc2_19 f_21 (by omega) (by omega) _ _ (hP.sub [0, 1, 2, 3, 4, 5, 6, 7, 8, 9, 10, 11, 12, 13, 14, 15, 16, 17, 18, 19, 20, 21] rfl) (hD.sub [0, 1, 2, 3, 4, 5, 6, 7, 8, 9, 10, 11, 12, 13, 14, 15, 16, 17, 18, 19, 20, 21] (by decide +kernel) rfl) hS ls (lv_sub hl [0, 1, 2, 3, 4] rfl)
          · refine lv_iconst (v := 1) hx hb dX6_choosePlaces_62 (by decide) ?_
            exact x_zret hQ hx hb hr hlocks hK hP hD hS rfl dX6_choosePlaces_63 fpc2_19 (⟨(Or.inr rfl), f_21⟩) [0, 1, 2, 3, 4, 5, 6, 7, 8, 9, 10, 11, 12, 13, 14, 15, 16, 17, 18, 19, 20, 21] (by decide +kernel) rfl (Nat.le_of_ble_eq_true rfl) (Nat.le_of_ble_eq_true rfl)
    exact loop9 _ fm fpc hpc (by omega) (Nat.le_refl _) _ _ (hP.sub [0, 1, 2, 3, 4, 5, 6, 7, 8, 9, 10, 11, 12, 13, 14, 15, 16, 17, 18, 19, 20, 21] rfl) (hD.sub [0, 1, 2, 3, 4, 5, 6, 7, 8, 9, 10, 11, 12, 13, 14, 15, 16, 17, 18, 19, 20, 21] (by decide +kernel) rfl) hS ls (lv_sub hl [0, 1, 2, 3, 4] rfl)
set_option maxHeartbeats 1000000 in
set_option maxRecDepth 100000 in
theorem s_choosePlaces1 (l : Launch) (D : va_G) (cy : Nat → ClassId) (p0 : Nat) (p1 : Nat) (p2 : Nat) (p3 : Nat) (p4 : Nat) (er : Nat) (ro : Nat) (ch : Nat) (fne : Nat → Int32) (fqi : Nat → Int32) (fpc : Nat → Int32) (h0 : Nat) (h1 : Nat) (h2 : Nat) (h3 : Nat) (h4 : Nat) (h5 : Nat) (h6 : Nat) (h7 : Nat) (h8 : Nat) (h9 : Nat) (h10 : Nat) (h11 : Nat) (hv1 : Value) (hv2 : Value) (hv3 : Value) (hv4 : Value) (ys : Int32) (fc : Nat → Int32) (c0 : Nat) (c1 : Nat) (c2 : Nat) (c3 : Nat) (fx : Nat → Int32) (s0 : Nat) (s1 : Nat) (s2 : Nat) (sl : Nat) (spl : Int32) (svo : Int32) (swi : Int32) (sch : Int32) (fw : Nat → Int32) (ea : Nat → Nat) (eg : Nat → Nat) (ef : Nat → Nat) (et : Nat → Int32) (el : Nat → Nat) (ei : Nat → Nat) (gc : Nat → Nat → Int32) (xc : Nat → Nat → Int32) (fm : Nat) (cg : Int32) (hne : nOK fne c1) (hpc : rng fpc 3 9) (hch : ch ≤ 3) (hcn : cntOK fc c0 c1 c2 c3) (hc0 : c0 ≤ 8) (hc1 : c1 ≤ 4) (hc2 : c2 ≤ 4) (hc3 : c3 ≤ 6) (hnx : rng fx 48 5) (hel : ∀ i9, i9 < 4 → el i9 ≤ 10) (hes : ∀ i9, i9 < c1 → el i9 = sl) (hsl : sl ≤ 10) (hsw : rng fw 10 7) (hfm : fm ≤ 10) : XMi l D (tyL cy) E0 yX6_choosePlaces cX6_choosePlaces 5 (some .boolean) (rmk 6 0 0) [.ref p0, .int 1, .int (nI fm), .int cg] [wO p0 6 [.ref p1, .ref er, .ref ro, .ref p2, .ref p3, .ref p4, .ref h0, .ref s0, .int (nI ch)], wI (cy 1) p3 4 (fne), wI (cy 1) p4 40 (fqi), wI (cy 1) p2 3 (fpc), wO h0 4 [.ref h1, .ref h2, .ref h3, .ref h4, .ref h5, .ref h6, .ref h7, .ref h8, .ref h9, .ref h10, .ref h11, .int ys, hv1, hv2, hv3, hv4], wI (cy 1) h1 4 (fc), wI (cy 1) h7 48 (fx), wO s0 7 [.ref s1, .ref s2, .int (nI sl), .int spl, .int svo, .int swi, .int sch], wI (cy 1) s1 10 (fw), (er, .inl (cy 4, 4, .inr (.inr (.inr (.inr (eF (ea 0) (ea 1) (ea 2) (ea 3))))))), wO (ea 0) 2 [.ref (eg 0), .ref (ef 0), .int (et 0), .int (nI (el 0)), .int (nI (ei 0))], wI (cy 1) (eg 0) 10 (gc 0), wI (cy 1) (ef 0) 7 (xc 0), wO (ea 1) 2 [.ref (eg 1), .ref (ef 1), .int (et 1), .int (nI (el 1)), .int (nI (ei 1))], wI (cy 1) (eg 1) 10 (gc 1), wI (cy 1) (ef 1) 7 (xc 1), wO (ea 2) 2 [.ref (eg 2), .ref (ef 2), .int (et 2), .int (nI (el 2)), .int (nI (ei 2))], wI (cy 1) (eg 2) 10 (gc 2), wI (cy 1) (ef 2) 7 (xc 2), wO (ea 3) 2 [.ref (eg 3), .ref (ef 3), .int (et 3), .int (nI (el 3)), .int (nI (ei 3))], wI (cy 1) (eg 3) 10 (gc 3), wI (cy 1) (ef 3) 7 (xc 3)] (fun (r : Int32) (fpc2 : Nat → Int32) => (r = 0 ∨ r = 1) ∧ (rng fpc2 3 9)) (fun (fpc2 : Nat → Int32) => [wO p0 6 [.ref p1, .ref er, .ref ro, .ref p2, .ref p3, .ref p4, .ref h0, .ref s0, .int (nI ch)], wI (cy 1) p3 4 (fne), wI (cy 1) p4 40 (fqi), wI (cy 1) p2 3 (fpc2), wO h0 4 [.ref h1, .ref h2, .ref h3, .ref h4, .ref h5, .ref h6, .ref h7, .ref h8, .ref h9, .ref h10, .ref h11, .int ys, hv1, hv2, hv3, hv4], wI (cy 1) h1 4 (fc), wI (cy 1) h7 48 (fx), wO s0 7 [.ref s1, .ref s2, .int (nI sl), .int spl, .int svo, .int swi, .int sch], wI (cy 1) s1 10 (fw), (er, .inl (cy 4, 4, .inr (.inr (.inr (.inr (eF (ea 0) (ea 1) (ea 2) (ea 3))))))), wO (ea 0) 2 [.ref (eg 0), .ref (ef 0), .int (et 0), .int (nI (el 0)), .int (nI (ei 0))], wI (cy 1) (eg 0) 10 (gc 0), wI (cy 1) (ef 0) 7 (xc 0), wO (ea 1) 2 [.ref (eg 1), .ref (ef 1), .int (et 1), .int (nI (el 1)), .int (nI (ei 1))], wI (cy 1) (eg 1) 10 (gc 1), wI (cy 1) (ef 1) 7 (xc 1), wO (ea 2) 2 [.ref (eg 2), .ref (ef 2), .int (et 2), .int (nI (el 2)), .int (nI (ei 2))], wI (cy 1) (eg 2) 10 (gc 2), wI (cy 1) (ef 2) 7 (xc 2), wO (ea 3) 2 [.ref (eg 3), .ref (ef 3), .int (et 3), .int (nI (el 3)), .int (nI (ei 3))], wI (cy 1) (eg 3) 10 (gc 3), wI (cy 1) (ef 3) 7 (xc 3)]) := by
  refine XMi.start (by decide) (Nat.le_of_ble_eq_true rfl) ?_
  intro p e s m below meth c args A ls Q hat hQ
  obtain ⟨hx, hb, hr, hml, hown, hg, hlocks, hin, hK, hA, hP, hD, hS, hE, hl⟩ := hat
  have hown : s.vm.findClass RX6 = some m.cls := hown
  have hl : lv_has ls 5 [(0, .ref p0), (1, .int 1), (2, .int (nI fm)), (3, .int cg)] := hl
  have hk_1 := hel 0 (by decide)
  have hk_2 := hel 1 (by decide)
  have hk_3 := hel 2 (by decide)
  have hk_4 := hel 3 (by decide)
  refine lv_iload_n hx hb dX6_choosePlaces_0 rfl (lv_at hl 1 rfl) ?_
  refine lv_aload_n hx hb dX6_choosePlaces_1 rfl (lv_at hl 0 rfl) ?_
  refine va_get (D := D) (ci := 6) (v := .int (nI ch)) (C := RX6) (T := TX6) (N := 9) hx hb hg i_X6 hown hK hP 0 rfl rfl 8 (by decide) (hg _ m_593) (fun _ h9 => h9) rfl dX6_choosePlaces_2 ?_
  refine lv_icmp_ge (tgt := 13) hx hb dX6_choosePlaces_5 (by decide) (fun c_5 => ?_) (fun c_5 => ?_)
  · have q_6 : ch ≤ 1 := q_le (a := ch) (b := 1) rfl rfl (by omega) (by omega) c_5
    refine lv_aload_n hx hb dX6_choosePlaces_13 rfl (lv_at hl 0 rfl) ?_
    refine lv_iload_n hx hb dX6_choosePlaces_14 rfl (lv_at hl 3 rfl) ?_
    refine x_callVi (q := (RX6, TX6, 9)) (ci := 6) (q0 := 0) (wr := [wI (cy 1) p2 3 (fpc)]) (rest := []) ⟨hx, hb, hml, hown, hg, hl.1⟩ k_X6_87 (s_canBeYes l D cy p0 p1 p2 p3 p4 er ro ch fne fqi h0 h1 h2 h3 h4 h5 h6 h7 h8 h9 h10 h11 hv1 hv2 hv3 hv4 ys fc c0 c1 c2 c3 fx s0 s1 s2 sl spl svo swi sch fw ea eg ef et el ei gc xc cg (hne) (hcn) (by omega) (by omega) (by omega) (by omega) (hnx) (fun i9 h9 => by rcases (show i9 = 0 ∨ i9 = 1 ∨ i9 = 2 ∨ i9 = 3 by omega) with rfl | rfl | rfl | rfl <;> omega) (hes) (by omega) (hsw)) E0_blind hK hP hD hS hA [0, 1, 2, 4, 5, 6, 7, 8, 9, 10, 11, 12, 13, 14, 15, 16, 17, 18, 19, 20, 21] [3] ⟨rfl, rfl, by decide +kernel, by decide +kernel, by decide +kernel⟩ rfl rfl (fun _ _ _ => trivial) dX6_choosePlaces_15 rfl rfl (Nat.le_of_ble_eq_true rfl) ⟨Nat.le_of_ble_eq_true rfl, Nat.le_of_ble_eq_true rfl⟩ ⟨Nat.le_of_ble_eq_true rfl, Nat.le_of_ble_eq_true rfl⟩ (fun zr7 zu7 H locs hw7 hP9 hD9 hS9 => ?_)
    clear hP hD hS
    refine reW [wI (cy 1) p2 3 (fpc), wO p0 6 [.ref p1, .ref er, .ref ro, .ref p2, .ref p3, .ref p4, .ref h0, .ref s0, .int (nI ch)], wI (cy 1) p3 4 (fne), wI (cy 1) p4 40 (fqi), wO h0 4 [.ref h1, .ref h2, .ref h3, .ref h4, .ref h5, .ref h6, .ref h7, .ref h8, .ref h9, .ref h10, .ref h11, .int ys, hv1, hv2, hv3, hv4], wI (cy 1) h1 4 (fc), wI (cy 1) h7 48 (fx), wO s0 7 [.ref s1, .ref s2, .int (nI sl), .int spl, .int svo, .int swi, .int sch], wI (cy 1) s1 10 (fw), (er, .inl (cy 4, 4, .inr (.inr (.inr (.inr (eF (ea 0) (ea 1) (ea 2) (ea 3))))))), wO (ea 0) 2 [.ref (eg 0), .ref (ef 0), .int (et 0), .int (nI (el 0)), .int (nI (ei 0))], wI (cy 1) (eg 0) 10 (gc 0), wI (cy 1) (ef 0) 7 (xc 0), wO (ea 1) 2 [.ref (eg 1), .ref (ef 1), .int (et 1), .int (nI (el 1)), .int (nI (ei 1))], wI (cy 1) (eg 1) 10 (gc 1), wI (cy 1) (ef 1) 7 (xc 1), wO (ea 2) 2 [.ref (eg 2), .ref (ef 2), .int (et 2), .int (nI (el 2)), .int (nI (ei 2))], wI (cy 1) (eg 2) 10 (gc 2), wI (cy 1) (ef 2) 7 (xc 2), wO (ea 3) 2 [.ref (eg 3), .ref (ef 3), .int (et 3), .int (nI (el 3)), .int (nI (ei 3))], wI (cy 1) (eg 3) 10 (gc 3), wI (cy 1) (ef 3) 7 (xc 3)] hP9 hD9 hS9 (fun hP hD hS => ?_)
    clear hP9 hD9 hS9
    refine W.widen (k := 0) (n := 0) (Nat.le_of_ble_eq_true rfl) (Nat.le_of_ble_eq_true rfl) ?_
    replace hw7 : (zr7 = 0 ∨ zr7 = 1) := hw7
    have f_8 := hw7
    exact x_zret hQ hx hb hr hlocks hK hP hD hS (narB f_8) dX6_choosePlaces_18 fpc (⟨f_8, hpc⟩) [1, 2, 3, 0, 4, 5, 6, 7, 8, 9, 10, 11, 12, 13, 14, 15, 16, 17, 18, 19, 20, 21] (by decide +kernel) rfl (Nat.le_of_ble_eq_true rfl) (Nat.le_of_ble_eq_true rfl)
  · have q_6 : 1 < ch := q_nle (a := ch) (b := 1) rfl rfl (by omega) (by omega) c_5
    refine lv_iload_n hx hb dX6_choosePlaces_8 rfl (lv_at hl 1 rfl) ?_
    refine lv_iconst (v := 3) hx hb dX6_choosePlaces_9 (by decide) ?_
    refine lv_icmp_lt (tgt := 19) hx hb dX6_choosePlaces_10 (by decide) (fun _ => ?_) (fun h => absurd (by decide) h)
    refine lv_iload_n hx hb dX6_choosePlaces_19 rfl (lv_at hl 2 rfl) ?_
    refine lv_istore (lv' := [(4, .int (nI fm)), (0, .ref p0), (1, .int 1), (2, .int (nI fm)), (3, .int cg)]) hx hb dX6_choosePlaces_20 hl (by decide) rfl (fun ls hl => ?_)
    have loop9 : ∀ (zn : Nat) (i9 : Nat) (fa1_9 : Nat → Int32), (rng fa1_9 3 9) → (i9 ≤ 10) → 10 - i9 + 1 ≤ zn → ∀ (H : Heap) (locs : List Loc), va_P D vwCl [wO p0 6 [.ref p1, .ref er, .ref ro, .ref p2, .ref p3, .ref p4, .ref h0, .ref s0, .int (nI ch)], wI (cy 1) p3 4 (fne), wI (cy 1) p4 40 (fqi), wI (cy 1) p2 3 (fa1_9), wO h0 4 [.ref h1, .ref h2, .ref h3, .ref h4, .ref h5, .ref h6, .ref h7, .ref h8, .ref h9, .ref h10, .ref h11, .int ys, hv1, hv2, hv3, hv4], wI (cy 1) h1 4 (fc), wI (cy 1) h7 48 (fx), wO s0 7 [.ref s1, .ref s2, .int (nI sl), .int spl, .int svo, .int swi, .int sch], wI (cy 1) s1 10 (fw), (er, .inl (cy 4, 4, .inr (.inr (.inr (.inr (eF (ea 0) (ea 1) (ea 2) (ea 3))))))), wO (ea 0) 2 [.ref (eg 0), .ref (ef 0), .int (et 0), .int (nI (el 0)), .int (nI (ei 0))], wI (cy 1) (eg 0) 10 (gc 0), wI (cy 1) (ef 0) 7 (xc 0), wO (ea 1) 2 [.ref (eg 1), .ref (ef 1), .int (et 1), .int (nI (el 1)), .int (nI (ei 1))], wI (cy 1) (eg 1) 10 (gc 1), wI (cy 1) (ef 1) 7 (xc 1), wO (ea 2) 2 [.ref (eg 2), .ref (ef 2), .int (et 2), .int (nI (el 2)), .int (nI (ei 2))], wI (cy 1) (eg 2) 10 (gc 2), wI (cy 1) (ef 2) 7 (xc 2), wO (ea 3) 2 [.ref (eg 3), .ref (ef 3), .int (et 3), .int (nI (el 3)), .int (nI (ei 3))], wI (cy 1) (eg 3) 10 (gc 3), wI (cy 1) (ef 3) 7 (xc 3)] H → va_D A [wO p0 6 [.ref p1, .ref er, .ref ro, .ref p2, .ref p3, .ref p4, .ref h0, .ref s0, .int (nI ch)], wI (cy 1) p3 4 (fne), wI (cy 1) p4 40 (fqi), wI (cy 1) p2 3 (fa1_9), wO h0 4 [.ref h1, .ref h2, .ref h3, .ref h4, .ref h5, .ref h6, .ref h7, .ref h8, .ref h9, .ref h10, .ref h11, .int ys, hv1, hv2, hv3, hv4], wI (cy 1) h1 4 (fc), wI (cy 1) h7 48 (fx), wO s0 7 [.ref s1, .ref s2, .int (nI sl), .int spl, .int svo, .int swi, .int sch], wI (cy 1) s1 10 (fw), (er, .inl (cy 4, 4, .inr (.inr (.inr (.inr (eF (ea 0) (ea 1) (ea 2) (ea 3))))))), wO (ea 0) 2 [.ref (eg 0), .ref (ef 0), .int (et 0), .int (nI (el 0)), .int (nI (ei 0))], wI (cy 1) (eg 0) 10 (gc 0), wI (cy 1) (ef 0) 7 (xc 0), wO (ea 1) 2 [.ref (eg 1), .ref (ef 1), .int (et 1), .int (nI (el 1)), .int (nI (ei 1))], wI (cy 1) (eg 1) 10 (gc 1), wI (cy 1) (ef 1) 7 (xc 1), wO (ea 2) 2 [.ref (eg 2), .ref (ef 2), .int (et 2), .int (nI (el 2)), .int (nI (ei 2))], wI (cy 1) (eg 2) 10 (gc 2), wI (cy 1) (ef 2) 7 (xc 2), wO (ea 3) 2 [.ref (eg 3), .ref (ef 3), .int (et 3), .int (nI (el 3)), .int (nI (ei 3))], wI (cy 1) (eg 3) 10 (gc 3), wI (cy 1) (ef 3) 7 (xc 3)] → va_S A s.heap H locs → ∀ ls : Array Slot, lv_has ls 5 [(4, .int (nI i9)), (0, .ref p0), (1, .int 1), (2, .int (nI fm)), (3, .int cg)] → W p l e (rmk 6 0 0) s m args below meth c H locs 0 0 Q (F0 m 22 ls []) := by
      try clear hP hD hS
      intro zn
      induction zn with
      | zero => intro i9 fa1_9 _ _ hz; exact absurd hz (by omega)
      | succ zn ih9 =>
        intro i9 fa1_9 ha2_9 hf0_9 hmu9 H locs hP hD hS ls hl
        refine lv_iload hx hb dX6_choosePlaces_22 (lv_at hl 0 rfl) ?_
        refine lv_aload_n hx hb dX6_choosePlaces_24 rfl (lv_at hl 1 rfl) ?_
        refine va_get (D := D) (ci := 6) (v := .ref s0) (C := RX6) (T := TX6) (N := 9) hx hb hg i_X6 hown hK hP 0 rfl rfl 7 (by decide) (hg _ m_592) (fun _ h9 => h9) rfl dX6_choosePlaces_25 ?_
        refine va_get (D := D) (ci := 7) (v := .int (nI sl)) (C := RX7) (T := TX7) (N := 7) hx hb hg i_X7 hown hK hP 7 rfl rfl 2 (by decide) (hg _ m_630) (fun _ h9 => h9) rfl dX6_choosePlaces_28 ?_
        refine lv_icmp_ge (tgt := 70) hx hb dX6_choosePlaces_31 (by decide) (fun c_10 => ?_) (fun c_10 => ?_)
        · have q_11 : sl ≤ i9 := q_le (a := sl) (b := i9) rfl rfl (by omega) (by omega) c_10
          refine lv_iconst (v := 0) hx hb dX6_choosePlaces_70 (by decide) ?_
          exact x_zret hQ hx hb hr hlocks hK hP hD hS rfl dX6_choosePlaces_71 fa1_9 (⟨(Or.inl rfl), ha2_9⟩) [0, 1, 2, 3, 4, 5, 6, 7, 8, 9, 10, 11, 12, 13, 14, 15, 16, 17, 18, 19, 20, 21] (by decide +kernel) rfl (Nat.le_of_ble_eq_true rfl) (Nat.le_of_ble_eq_true rfl)
        · have q_11 : i9 < sl := q_nle (a := sl) (b := i9) rfl rfl (by omega) (by omega) c_10
          refine lv_aload_n hx hb dX6_choosePlaces_34 rfl (lv_at hl 1 rfl) ?_
          refine va_get (D := D) (ci := 6) (v := .ref p2) (C := RX6) (T := TX6) (N := 9) hx hb hg i_X6 hown hK hP 0 rfl rfl 3 (by decide) (hg _ m_588) (fun _ h9 => h9) rfl dX6_choosePlaces_35 ?_
          refine lv_iload_n hx hb dX6_choosePlaces_38 rfl (lv_at hl 2 rfl) ?_
          refine lv_iload hx hb dX6_choosePlaces_39 (lv_at hl 0 rfl) ?_
          refine va_iast hx hb hK hP hD hS 3 1 rfl rfl (by unfold vp_in; decide) dX6_choosePlaces_41 (fun H locs hP9 hD9 hS9 => ?_)
          clear hP hD hS
          have hP := hP9
          have hD := hD9
          have hS := hS9
          clear hP9 hD9 hS9
          obtain ⟨g_12, eg_12⟩ : ∃ y, upd fa1_9 (1 : Int32).toNatClampNeg (nI i9) = y := ⟨_, rfl⟩
          rw [eg_12] at hP hD
          have hr_13 : rng g_12 3 9 := eg_12 ▸ rng_put ha2_9 (j := i9) (by omega)
          replace hP : va_P D vwCl [wO p0 6 [.ref p1, .ref er, .ref ro, .ref p2, .ref p3, .ref p4, .ref h0, .ref s0, .int (nI ch)], wI (cy 1) p3 4 (fne), wI (cy 1) p4 40 (fqi), wI (cy 1) p2 3 (g_12), wO h0 4 [.ref h1, .ref h2, .ref h3, .ref h4, .ref h5, .ref h6, .ref h7, .ref h8, .ref h9, .ref h10, .ref h11, .int ys, hv1, hv2, hv3, hv4], wI (cy 1) h1 4 (fc), wI (cy 1) h7 48 (fx), wO s0 7 [.ref s1, .ref s2, .int (nI sl), .int spl, .int svo, .int swi, .int sch], wI (cy 1) s1 10 (fw), (er, .inl (cy 4, 4, .inr (.inr (.inr (.inr (eF (ea 0) (ea 1) (ea 2) (ea 3))))))), wO (ea 0) 2 [.ref (eg 0), .ref (ef 0), .int (et 0), .int (nI (el 0)), .int (nI (ei 0))], wI (cy 1) (eg 0) 10 (gc 0), wI (cy 1) (ef 0) 7 (xc 0), wO (ea 1) 2 [.ref (eg 1), .ref (ef 1), .int (et 1), .int (nI (el 1)), .int (nI (ei 1))], wI (cy 1) (eg 1) 10 (gc 1), wI (cy 1) (ef 1) 7 (xc 1), wO (ea 2) 2 [.ref (eg 2), .ref (ef 2), .int (et 2), .int (nI (el 2)), .int (nI (ei 2))], wI (cy 1) (eg 2) 10 (gc 2), wI (cy 1) (ef 2) 7 (xc 2), wO (ea 3) 2 [.ref (eg 3), .ref (ef 3), .int (et 3), .int (nI (el 3)), .int (nI (ei 3))], wI (cy 1) (eg 3) 10 (gc 3), wI (cy 1) (ef 3) 7 (xc 3)] H := hP
          replace hD : va_D A [wO p0 6 [.ref p1, .ref er, .ref ro, .ref p2, .ref p3, .ref p4, .ref h0, .ref s0, .int (nI ch)], wI (cy 1) p3 4 (fne), wI (cy 1) p4 40 (fqi), wI (cy 1) p2 3 (g_12), wO h0 4 [.ref h1, .ref h2, .ref h3, .ref h4, .ref h5, .ref h6, .ref h7, .ref h8, .ref h9, .ref h10, .ref h11, .int ys, hv1, hv2, hv3, hv4], wI (cy 1) h1 4 (fc), wI (cy 1) h7 48 (fx), wO s0 7 [.ref s1, .ref s2, .int (nI sl), .int spl, .int svo, .int swi, .int sch], wI (cy 1) s1 10 (fw), (er, .inl (cy 4, 4, .inr (.inr (.inr (.inr (eF (ea 0) (ea 1) (ea 2) (ea 3))))))), wO (ea 0) 2 [.ref (eg 0), .ref (ef 0), .int (et 0), .int (nI (el 0)), .int (nI (ei 0))], wI (cy 1) (eg 0) 10 (gc 0), wI (cy 1) (ef 0) 7 (xc 0), wO (ea 1) 2 [.ref (eg 1), .ref (ef 1), .int (et 1), .int (nI (el 1)), .int (nI (ei 1))], wI (cy 1) (eg 1) 10 (gc 1), wI (cy 1) (ef 1) 7 (xc 1), wO (ea 2) 2 [.ref (eg 2), .ref (ef 2), .int (et 2), .int (nI (el 2)), .int (nI (ei 2))], wI (cy 1) (eg 2) 10 (gc 2), wI (cy 1) (ef 2) 7 (xc 2), wO (ea 3) 2 [.ref (eg 3), .ref (ef 3), .int (et 3), .int (nI (el 3)), .int (nI (ei 3))], wI (cy 1) (eg 3) 10 (gc 3), wI (cy 1) (ef 3) 7 (xc 3)] := hD
          refine lv_aload_n hx hb dX6_choosePlaces_42 rfl (lv_at hl 1 rfl) ?_
          refine lv_iload_n hx hb dX6_choosePlaces_43 rfl (lv_at hl 2 rfl) ?_
          refine lv_iconst (v := 1) hx hb dX6_choosePlaces_44 (by decide) ?_
          refine lv_iadd hx hb dX6_choosePlaces_45 ?_
          refine lv_topi (fun y_14 hy_14 => ?_)
          obtain rfl : y_14 = 2 := hy_14.trans (by decide +kernel)
          refine lv_iload hx hb dX6_choosePlaces_46 (lv_at hl 0 rfl) ?_
          refine lv_iconst (v := 1) hx hb dX6_choosePlaces_48 (by decide) ?_
          refine lv_iadd hx hb dX6_choosePlaces_49 ?_
          refine lv_topi (fun y_15 hy_15 => ?_)
          obtain rfl : y_15 = nI (i9 + 1) := hy_15.trans (nI_add i9 1)
          refine lv_iload_n hx hb dX6_choosePlaces_50 rfl (lv_at hl 4 rfl) ?_
          refine lv_iconst (v := 1) hx hb dX6_choosePlaces_51 (by decide) ?_
          refine lv_iload hx hb dX6_choosePlaces_52 (lv_at hl 0 rfl) ?_
          refine lv_ishl hx hb dX6_choosePlaces_54 ?_
          refine lv_topi (fun x_16 ex_16 => ?_)
          refine lv_ior hx hb dX6_choosePlaces_55 ?_
          refine lv_topi (fun x_17 ex_17 => ?_)
          refine x_callVi (q := (RX6, TX6, 9)) (ci := 6) (q0 := 0) (wr := []) (rest := []) ⟨hx, hb, hml, hown, hg, hl.1⟩ k_X6_69 (s_choosePlaces2 l D cy p0 p1 p2 p3 p4 er ro ch fne fqi g_12 h0 h1 h2 h3 h4 h5 h6 h7 h8 h9 h10 h11 hv1 hv2 hv3 hv4 ys fc c0 c1 c2 c3 fx s0 s1 s2 sl spl svo swi sch fw ea eg ef et el ei gc xc ((i9 + 1)) x_17 (hne) (hr_13) (by omega) (hcn) (by omega) (by omega) (by omega) (by omega) (hnx) (fun i9 h9 => by rcases (show i9 = 0 ∨ i9 = 1 ∨ i9 = 2 ∨ i9 = 3 by omega) with rfl | rfl | rfl | rfl <;> omega) (hes) (by omega) (hsw) (by omega)) E0_blind hK hP hD hS hA [0, 1, 2, 3, 4, 5, 6, 7, 8, 9, 10, 11, 12, 13, 14, 15, 16, 17, 18, 19, 20, 21] [] ⟨rfl, rfl, by decide +kernel, by decide +kernel, by decide +kernel⟩ rfl rfl (fun _ _ _ => trivial) dX6_choosePlaces_56 rfl rfl (Nat.le_of_ble_eq_true rfl) ⟨Nat.le_of_ble_eq_true rfl, Nat.le_of_ble_eq_true rfl⟩ ⟨Nat.le_of_ble_eq_true rfl, Nat.le_of_ble_eq_true rfl⟩ (fun zr18 zu18 H locs hw18 hP9 hD9 hS9 => ?_)
          clear hP hD hS
          obtain ⟨fpc2_19, rfl⟩ : ∃ z, z = zu18 := ⟨_, rfl⟩
          refine reW [wO p0 6 [.ref p1, .ref er, .ref ro, .ref p2, .ref p3, .ref p4, .ref h0, .ref s0, .int (nI ch)], wI (cy 1) p3 4 (fne), wI (cy 1) p4 40 (fqi), wI (cy 1) p2 3 (fpc2_19), wO h0 4 [.ref h1, .ref h2, .ref h3, .ref h4, .ref h5, .ref h6, .ref h7, .ref h8, .ref h9, .ref h10, .ref h11, .int ys, hv1, hv2, hv3, hv4], wI (cy 1) h1 4 (fc), wI (cy 1) h7 48 (fx), wO s0 7 [.ref s1, .ref s2, .int (nI sl), .int spl, .int svo, .int swi, .int sch], wI (cy 1) s1 10 (fw), (er, .inl (cy 4, 4, .inr (.inr (.inr (.inr (eF (ea 0) (ea 1) (ea 2) (ea 3))))))), wO (ea 0) 2 [.ref (eg 0), .ref (ef 0), .int (et 0), .int (nI (el 0)), .int (nI (ei 0))], wI (cy 1) (eg 0) 10 (gc 0), wI (cy 1) (ef 0) 7 (xc 0), wO (ea 1) 2 [.ref (eg 1), .ref (ef 1), .int (et 1), .int (nI (el 1)), .int (nI (ei 1))], wI (cy 1) (eg 1) 10 (gc 1), wI (cy 1) (ef 1) 7 (xc 1), wO (ea 2) 2 [.ref (eg 2), .ref (ef 2), .int (et 2), .int (nI (el 2)), .int (nI (ei 2))], wI (cy 1) (eg 2) 10 (gc 2), wI (cy 1) (ef 2) 7 (xc 2), wO (ea 3) 2 [.ref (eg 3), .ref (ef 3), .int (et 3), .int (nI (el 3)), .int (nI (ei 3))], wI (cy 1) (eg 3) 10 (gc 3), wI (cy 1) (ef 3) 7 (xc 3)] hP9 hD9 hS9 (fun hP hD hS => ?_)
          clear hP9 hD9 hS9
          refine W.widen (k := 0) (n := 0) (Nat.le_of_ble_eq_true rfl) (Nat.le_of_ble_eq_true rfl) ?_
          replace hw18 : (zr18 = 0 ∨ zr18 = 1) ∧ (rng fpc2_19 3 9) := hw18
          obtain ⟨f_20, f_21⟩ := hw18
          refine lv_if_eq (tgt := 64) hx hb dX6_choosePlaces_59 (by decide) (fun c_59 => ?_) (fun c_59 => ?_)
          · refine lv_iinc (v := nI (i9 + 1)) (lv' := [(4, .int (nI (i9 + 1))), (0, .ref p0), (1, .int 1), (2, .int (nI fm)), (3, .int cg)]) hx hb dX6_choosePlaces_64 hl (k := 0) rfl (nI_add i9 1) (by decide) rfl (fun ls hl => ?_)
            refine lv_goto (tgt := 22) hx hb dX6_choosePlaces_67 (by decide) ?_
            exact ih9  ((i9 + 1)) fpc2_19 f_21 (by omega) (by omega) _ _ (hP.sub [0, 1, 2, 3, 4, 5, 6, 7, 8, 9, 10, 11, 12, 13, 14, 15, 16, 17, 18, 19, 20, 21] rfl) (hD.sub [0, 1, 2, 3, 4, 5, 6, 7, 8, 9, 10, 11, 12, 13, 14, 15, 16, 17, 18, 19, 20, 21] (by decide +kernel) rfl) hS ls (lv_sub hl [0, 1, 2, 3, 4] rfl)
          · refine lv_iconst (v := 1) hx hb dX6_choosePlaces_62 (by decide) ?_
            exact x_zret hQ hx hb hr hlocks hK hP hD hS rfl dX6_choosePlaces_63 fpc2_19 (⟨(Or.inr rfl), f_21⟩) [0, 1, 2, 3, 4, 5, 6, 7, 8, 9, 10, 11, 12, 13, 14, 15, 16, 17, 18, 19, 20, 21] (by decide +kernel) rfl (Nat.le_of_ble_eq_true rfl) (Nat.le_of_ble_eq_true rfl)
    exact loop9 _ fm fpc hpc (by omega) (Nat.le_refl _) _ _ (hP.sub [0, 1, 2, 3, 4, 5, 6, 7, 8, 9, 10, 11, 12, 13, 14, 15, 16, 17, 18, 19, 20, 21] rfl) (hD.sub [0, 1, 2, 3, 4, 5, 6, 7, 8, 9, 10, 11, 12, 13, 14, 15, 16, 17, 18, 19, 20, 21] (by decide +kernel) rfl) hS ls (lv_sub hl [0, 1, 2, 3, 4] rfl)
set_option maxHeartbeats 1000000 in
set_option maxRecDepth 100000 in
theorem s_choosePlaces0 (l : Launch) (D : va_G) (cy : Nat → ClassId) (p0 : Nat) (p1 : Nat) (p2 : Nat) (p3 : Nat) (p4 : Nat) (er : Nat) (ro : Nat) (ch : Nat) (fne : Nat → Int32) (fqi : Nat → Int32) (fpc : Nat → Int32) (h0 : Nat) (h1 : Nat) (h2 : Nat) (h3 : Nat) (h4 : Nat) (h5 : Nat) (h6 : Nat) (h7 : Nat) (h8 : Nat) (h9 : Nat) (h10 : Nat) (h11 : Nat) (hv1 : Value) (hv2 : Value) (hv3 : Value) (hv4 : Value) (ys : Int32) (fc : Nat → Int32) (c0 : Nat) (c1 : Nat) (c2 : Nat) (c3 : Nat) (fx : Nat → Int32) (s0 : Nat) (s1 : Nat) (s2 : Nat) (sl : Nat) (spl : Int32) (svo : Int32) (swi : Int32) (sch : Int32) (fw : Nat → Int32) (ea : Nat → Nat) (eg : Nat → Nat) (ef : Nat → Nat) (et : Nat → Int32) (el : Nat → Nat) (ei : Nat → Nat) (gc : Nat → Nat → Int32) (xc : Nat → Nat → Int32) (fm : Nat) (cg : Int32) (hne : nOK fne c1) (hpc : rng fpc 3 9) (hch : ch ≤ 3) (hcn : cntOK fc c0 c1 c2 c3) (hc0 : c0 ≤ 8) (hc1 : c1 ≤ 4) (hc2 : c2 ≤ 4) (hc3 : c3 ≤ 6) (hnx : rng fx 48 5) (hel : ∀ i9, i9 < 4 → el i9 ≤ 10) (hes : ∀ i9, i9 < c1 → el i9 = sl) (hsl : sl ≤ 10) (hsw : rng fw 10 7) (hfm : fm ≤ 10) : XMi l D (tyL cy) E0 yX6_choosePlaces cX6_choosePlaces 5 (some .boolean) (rmk 7 0 0) [.ref p0, .int 0, .int (nI fm), .int cg] [wO p0 6 [.ref p1, .ref er, .ref ro, .ref p2, .ref p3, .ref p4, .ref h0, .ref s0, .int (nI ch)], wI (cy 1) p3 4 (fne), wI (cy 1) p4 40 (fqi), wI (cy 1) p2 3 (fpc), wO h0 4 [.ref h1, .ref h2, .ref h3, .ref h4, .ref h5, .ref h6, .ref h7, .ref h8, .ref h9, .ref h10, .ref h11, .int ys, hv1, hv2, hv3, hv4], wI (cy 1) h1 4 (fc), wI (cy 1) h7 48 (fx), wO s0 7 [.ref s1, .ref s2, .int (nI sl), .int spl, .int svo, .int swi, .int sch], wI (cy 1) s1 10 (fw), (er, .inl (cy 4, 4, .inr (.inr (.inr (.inr (eF (ea 0) (ea 1) (ea 2) (ea 3))))))), wO (ea 0) 2 [.ref (eg 0), .ref (ef 0), .int (et 0), .int (nI (el 0)), .int (nI (ei 0))], wI (cy 1) (eg 0) 10 (gc 0), wI (cy 1) (ef 0) 7 (xc 0), wO (ea 1) 2 [.ref (eg 1), .ref (ef 1), .int (et 1), .int (nI (el 1)), .int (nI (ei 1))], wI (cy 1) (eg 1) 10 (gc 1), wI (cy 1) (ef 1) 7 (xc 1), wO (ea 2) 2 [.ref (eg 2), .ref (ef 2), .int (et 2), .int (nI (el 2)), .int (nI (ei 2))], wI (cy 1) (eg 2) 10 (gc 2), wI (cy 1) (ef 2) 7 (xc 2), wO (ea 3) 2 [.ref (eg 3), .ref (ef 3), .int (et 3), .int (nI (el 3)), .int (nI (ei 3))], wI (cy 1) (eg 3) 10 (gc 3), wI (cy 1) (ef 3) 7 (xc 3)] (fun (r : Int32) (fpc2 : Nat → Int32) => (r = 0 ∨ r = 1) ∧ (rng fpc2 3 9)) (fun (fpc2 : Nat → Int32) => [wO p0 6 [.ref p1, .ref er, .ref ro, .ref p2, .ref p3, .ref p4, .ref h0, .ref s0, .int (nI ch)], wI (cy 1) p3 4 (fne), wI (cy 1) p4 40 (fqi), wI (cy 1) p2 3 (fpc2), wO h0 4 [.ref h1, .ref h2, .ref h3, .ref h4, .ref h5, .ref h6, .ref h7, .ref h8, .ref h9, .ref h10, .ref h11, .int ys, hv1, hv2, hv3, hv4], wI (cy 1) h1 4 (fc), wI (cy 1) h7 48 (fx), wO s0 7 [.ref s1, .ref s2, .int (nI sl), .int spl, .int svo, .int swi, .int sch], wI (cy 1) s1 10 (fw), (er, .inl (cy 4, 4, .inr (.inr (.inr (.inr (eF (ea 0) (ea 1) (ea 2) (ea 3))))))), wO (ea 0) 2 [.ref (eg 0), .ref (ef 0), .int (et 0), .int (nI (el 0)), .int (nI (ei 0))], wI (cy 1) (eg 0) 10 (gc 0), wI (cy 1) (ef 0) 7 (xc 0), wO (ea 1) 2 [.ref (eg 1), .ref (ef 1), .int (et 1), .int (nI (el 1)), .int (nI (ei 1))], wI (cy 1) (eg 1) 10 (gc 1), wI (cy 1) (ef 1) 7 (xc 1), wO (ea 2) 2 [.ref (eg 2), .ref (ef 2), .int (et 2), .int (nI (el 2)), .int (nI (ei 2))], wI (cy 1) (eg 2) 10 (gc 2), wI (cy 1) (ef 2) 7 (xc 2), wO (ea 3) 2 [.ref (eg 3), .ref (ef 3), .int (et 3), .int (nI (el 3)), .int (nI (ei 3))], wI (cy 1) (eg 3) 10 (gc 3), wI (cy 1) (ef 3) 7 (xc 3)]) := by
  refine XMi.start (by decide) (Nat.le_of_ble_eq_true rfl) ?_
  intro p e s m below meth c args A ls Q hat hQ
  obtain ⟨hx, hb, hr, hml, hown, hg, hlocks, hin, hK, hA, hP, hD, hS, hE, hl⟩ := hat
  have hown : s.vm.findClass RX6 = some m.cls := hown
  have hl : lv_has ls 5 [(0, .ref p0), (1, .int 0), (2, .int (nI fm)), (3, .int cg)] := hl
  have hk_1 := hel 0 (by decide)
  have hk_2 := hel 1 (by decide)
  have hk_3 := hel 2 (by decide)
  have hk_4 := hel 3 (by decide)
  refine lv_iload_n hx hb dX6_choosePlaces_0 rfl (lv_at hl 1 rfl) ?_
  refine lv_aload_n hx hb dX6_choosePlaces_1 rfl (lv_at hl 0 rfl) ?_
  refine va_get (D := D) (ci := 6) (v := .int (nI ch)) (C := RX6) (T := TX6) (N := 9) hx hb hg i_X6 hown hK hP 0 rfl rfl 8 (by decide) (hg _ m_593) (fun _ h9 => h9) rfl dX6_choosePlaces_2 ?_
  refine lv_icmp_ge (tgt := 13) hx hb dX6_choosePlaces_5 (by decide) (fun c_5 => ?_) (fun c_5 => ?_)
  · have q_6 : ch ≤ 0 := q_le (a := ch) (b := 0) rfl rfl (by omega) (by omega) c_5
    refine lv_aload_n hx hb dX6_choosePlaces_13 rfl (lv_at hl 0 rfl) ?_
    refine lv_iload_n hx hb dX6_choosePlaces_14 rfl (lv_at hl 3 rfl) ?_
    refine x_callVi (q := (RX6, TX6, 9)) (ci := 6) (q0 := 0) (wr := [wI (cy 1) p2 3 (fpc)]) (rest := []) ⟨hx, hb, hml, hown, hg, hl.1⟩ k_X6_87 (s_canBeYes l D cy p0 p1 p2 p3 p4 er ro ch fne fqi h0 h1 h2 h3 h4 h5 h6 h7 h8 h9 h10 h11 hv1 hv2 hv3 hv4 ys fc c0 c1 c2 c3 fx s0 s1 s2 sl spl svo swi sch fw ea eg ef et el ei gc xc cg (hne) (hcn) (by omega) (by omega) (by omega) (by omega) (hnx) (fun i9 h9 => by rcases (show i9 = 0 ∨ i9 = 1 ∨ i9 = 2 ∨ i9 = 3 by omega) with rfl | rfl | rfl | rfl <;> omega) (hes) (by omega) (hsw)) E0_blind hK hP hD hS hA [0, 1, 2, 4, 5, 6, 7, 8, 9, 10, 11, 12, 13, 14, 15, 16, 17, 18, 19, 20, 21] [3] ⟨rfl, rfl, by decide +kernel, by decide +kernel, by decide +kernel⟩ rfl rfl (fun _ _ _ => trivial) dX6_choosePlaces_15 rfl rfl (Nat.le_of_ble_eq_true rfl) ⟨Nat.le_of_ble_eq_true rfl, Nat.le_of_ble_eq_true rfl⟩ ⟨Nat.le_of_ble_eq_true rfl, Nat.le_of_ble_eq_true rfl⟩ (fun zr7 zu7 H locs hw7 hP9 hD9 hS9 => ?_)
    clear hP hD hS
    refine reW [wI (cy 1) p2 3 (fpc), wO p0 6 [.ref p1, .ref er, .ref ro, .ref p2, .ref p3, .ref p4, .ref h0, .ref s0, .int (nI ch)], wI (cy 1) p3 4 (fne), wI (cy 1) p4 40 (fqi), wO h0 4 [.ref h1, .ref h2, .ref h3, .ref h4, .ref h5, .ref h6, .ref h7, .ref h8, .ref h9, .ref h10, .ref h11, .int ys, hv1, hv2, hv3, hv4], wI (cy 1) h1 4 (fc), wI (cy 1) h7 48 (fx), wO s0 7 [.ref s1, .ref s2, .int (nI sl), .int spl, .int svo, .int swi, .int sch], wI (cy 1) s1 10 (fw), (er, .inl (cy 4, 4, .inr (.inr (.inr (.inr (eF (ea 0) (ea 1) (ea 2) (ea 3))))))), wO (ea 0) 2 [.ref (eg 0), .ref (ef 0), .int (et 0), .int (nI (el 0)), .int (nI (ei 0))], wI (cy 1) (eg 0) 10 (gc 0), wI (cy 1) (ef 0) 7 (xc 0), wO (ea 1) 2 [.ref (eg 1), .ref (ef 1), .int (et 1), .int (nI (el 1)), .int (nI (ei 1))], wI (cy 1) (eg 1) 10 (gc 1), wI (cy 1) (ef 1) 7 (xc 1), wO (ea 2) 2 [.ref (eg 2), .ref (ef 2), .int (et 2), .int (nI (el 2)), .int (nI (ei 2))], wI (cy 1) (eg 2) 10 (gc 2), wI (cy 1) (ef 2) 7 (xc 2), wO (ea 3) 2 [.ref (eg 3), .ref (ef 3), .int (et 3), .int (nI (el 3)), .int (nI (ei 3))], wI (cy 1) (eg 3) 10 (gc 3), wI (cy 1) (ef 3) 7 (xc 3)] hP9 hD9 hS9 (fun hP hD hS => ?_)
    clear hP9 hD9 hS9
    refine W.widen (k := 0) (n := 0) (Nat.le_of_ble_eq_true rfl) (Nat.le_of_ble_eq_true rfl) ?_
    replace hw7 : (zr7 = 0 ∨ zr7 = 1) := hw7
    have f_8 := hw7
    exact x_zret hQ hx hb hr hlocks hK hP hD hS (narB f_8) dX6_choosePlaces_18 fpc (⟨f_8, hpc⟩) [1, 2, 3, 0, 4, 5, 6, 7, 8, 9, 10, 11, 12, 13, 14, 15, 16, 17, 18, 19, 20, 21] (by decide +kernel) rfl (Nat.le_of_ble_eq_true rfl) (Nat.le_of_ble_eq_true rfl)
  · have q_6 : 0 < ch := q_nle (a := ch) (b := 0) rfl rfl (by omega) (by omega) c_5
    refine lv_iload_n hx hb dX6_choosePlaces_8 rfl (lv_at hl 1 rfl) ?_
    refine lv_iconst (v := 3) hx hb dX6_choosePlaces_9 (by decide) ?_
    refine lv_icmp_lt (tgt := 19) hx hb dX6_choosePlaces_10 (by decide) (fun _ => ?_) (fun h => absurd (by decide) h)
    refine lv_iload_n hx hb dX6_choosePlaces_19 rfl (lv_at hl 2 rfl) ?_
    refine lv_istore (lv' := [(4, .int (nI fm)), (0, .ref p0), (1, .int 0), (2, .int (nI fm)), (3, .int cg)]) hx hb dX6_choosePlaces_20 hl (by decide) rfl (fun ls hl => ?_)
    have loop9 : ∀ (zn : Nat) (i9 : Nat) (fa1_9 : Nat → Int32), (rng fa1_9 3 9) → (i9 ≤ 10) → 10 - i9 + 1 ≤ zn → ∀ (H : Heap) (locs : List Loc), va_P D vwCl [wO p0 6 [.ref p1, .ref er, .ref ro, .ref p2, .ref p3, .ref p4, .ref h0, .ref s0, .int (nI ch)], wI (cy 1) p3 4 (fne), wI (cy 1) p4 40 (fqi), wI (cy 1) p2 3 (fa1_9), wO h0 4 [.ref h1, .ref h2, .ref h3, .ref h4, .ref h5, .ref h6, .ref h7, .ref h8, .ref h9, .ref h10, .ref h11, .int ys, hv1, hv2, hv3, hv4], wI (cy 1) h1 4 (fc), wI (cy 1) h7 48 (fx), wO s0 7 [.ref s1, .ref s2, .int (nI sl), .int spl, .int svo, .int swi, .int sch], wI (cy 1) s1 10 (fw), (er, .inl (cy 4, 4, .inr (.inr (.inr (.inr (eF (ea 0) (ea 1) (ea 2) (ea 3))))))), wO (ea 0) 2 [.ref (eg 0), .ref (ef 0), .int (et 0), .int (nI (el 0)), .int (nI (ei 0))], wI (cy 1) (eg 0) 10 (gc 0), wI (cy 1) (ef 0) 7 (xc 0), wO (ea 1) 2 [.ref (eg 1), .ref (ef 1), .int (et 1), .int (nI (el 1)), .int (nI (ei 1))], wI (cy 1) (eg 1) 10 (gc 1), wI (cy 1) (ef 1) 7 (xc 1), wO (ea 2) 2 [.ref (eg 2), .ref (ef 2), .int (et 2), .int (nI (el 2)), .int (nI (ei 2))], wI (cy 1) (eg 2) 10 (gc 2), wI (cy 1) (ef 2) 7 (xc 2), wO (ea 3) 2 [.ref (eg 3), .ref (ef 3), .int (et 3), .int (nI (el 3)), .int (nI (ei 3))], wI (cy 1) (eg 3) 10 (gc 3), wI (cy 1) (ef 3) 7 (xc 3)] H → va_D A [wO p0 6 [.ref p1, .ref er, .ref ro, .ref p2, .ref p3, .ref p4, .ref h0, .ref s0, .int (nI ch)], wI (cy 1) p3 4 (fne), wI (cy 1) p4 40 (fqi), wI (cy 1) p2 3 (fa1_9), wO h0 4 [.ref h1, .ref h2, .ref h3, .ref h4, .ref h5, .ref h6, .ref h7, .ref h8, .ref h9, .ref h10, .ref h11, .int ys, hv1, hv2, hv3, hv4], wI (cy 1) h1 4 (fc), wI (cy 1) h7 48 (fx), wO s0 7 [.ref s1, .ref s2, .int (nI sl), .int spl, .int svo, .int swi, .int sch], wI (cy 1) s1 10 (fw), (er, .inl (cy 4, 4, .inr (.inr (.inr (.inr (eF (ea 0) (ea 1) (ea 2) (ea 3))))))), wO (ea 0) 2 [.ref (eg 0), .ref (ef 0), .int (et 0), .int (nI (el 0)), .int (nI (ei 0))], wI (cy 1) (eg 0) 10 (gc 0), wI (cy 1) (ef 0) 7 (xc 0), wO (ea 1) 2 [.ref (eg 1), .ref (ef 1), .int (et 1), .int (nI (el 1)), .int (nI (ei 1))], wI (cy 1) (eg 1) 10 (gc 1), wI (cy 1) (ef 1) 7 (xc 1), wO (ea 2) 2 [.ref (eg 2), .ref (ef 2), .int (et 2), .int (nI (el 2)), .int (nI (ei 2))], wI (cy 1) (eg 2) 10 (gc 2), wI (cy 1) (ef 2) 7 (xc 2), wO (ea 3) 2 [.ref (eg 3), .ref (ef 3), .int (et 3), .int (nI (el 3)), .int (nI (ei 3))], wI (cy 1) (eg 3) 10 (gc 3), wI (cy 1) (ef 3) 7 (xc 3)] → va_S A s.heap H locs → ∀ ls : Array Slot, lv_has ls 5 [(4, .int (nI i9)), (0, .ref p0), (1, .int 0), (2, .int (nI fm)), (3, .int cg)] → W p l e (rmk 7 0 0) s m args below meth c H locs 0 0 Q (F0 m 22 ls []) := by
      try clear hP hD hS
      intro zn
      induction zn with
      | zero => intro i9 fa1_9 _ _ hz; exact absurd hz (by omega)
      | succ zn ih9 =>
        intro i9 fa1_9 ha2_9 hf0_9 hmu9 H locs hP hD hS ls hl
        refine lv_iload hx hb dX6_choosePlaces_22 (lv_at hl 0 rfl) ?_
        refine lv_aload_n hx hb dX6_choosePlaces_24 rfl (lv_at hl 1 rfl) ?_
        refine va_get (D := D) (ci := 6) (v := .ref s0) (C := RX6) (T := TX6) (N := 9) hx hb hg i_X6 hown hK hP 0 rfl rfl 7 (by decide) (hg _ m_592) (fun _ h9 => h9) rfl dX6_choosePlaces_25 ?_
        refine va_get (D := D) (ci := 7) (v := .int (nI sl)) (C := RX7) (T := TX7) (N := 7) hx hb hg i_X7 hown hK hP 7 rfl rfl 2 (by decide) (hg _ m_630) (fun _ h9 => h9) rfl dX6_choosePlaces_28 ?_
        refine lv_icmp_ge (tgt := 70) hx hb dX6_choosePlaces_31 (by decide) (fun c_10 => ?_) (fun c_10 => ?_)
        · have q_11 : sl ≤ i9 := q_le (a := sl) (b := i9) rfl rfl (by omega) (by omega) c_10
          refine lv_iconst (v := 0) hx hb dX6_choosePlaces_70 (by decide) ?_
          exact x_zret hQ hx hb hr hlocks hK hP hD hS rfl dX6_choosePlaces_71 fa1_9 (⟨(Or.inl rfl), ha2_9⟩) [0, 1, 2, 3, 4, 5, 6, 7, 8, 9, 10, 11, 12, 13, 14, 15, 16, 17, 18, 19, 20, 21] (by decide +kernel) rfl (Nat.le_of_ble_eq_true rfl) (Nat.le_of_ble_eq_true rfl)
        · have q_11 : i9 < sl := q_nle (a := sl) (b := i9) rfl rfl (by omega) (by omega) c_10
          refine lv_aload_n hx hb dX6_choosePlaces_34 rfl (lv_at hl 1 rfl) ?_
          refine va_get (D := D) (ci := 6) (v := .ref p2) (C := RX6) (T := TX6) (N := 9) hx hb hg i_X6 hown hK hP 0 rfl rfl 3 (by decide) (hg _ m_588) (fun _ h9 => h9) rfl dX6_choosePlaces_35 ?_
          refine lv_iload_n hx hb dX6_choosePlaces_38 rfl (lv_at hl 2 rfl) ?_
          refine lv_iload hx hb dX6_choosePlaces_39 (lv_at hl 0 rfl) ?_
          refine va_iast hx hb hK hP hD hS 3 1 rfl rfl (by unfold vp_in; decide) dX6_choosePlaces_41 (fun H locs hP9 hD9 hS9 => ?_)
          clear hP hD hS
          have hP := hP9
          have hD := hD9
          have hS := hS9
          clear hP9 hD9 hS9
          obtain ⟨g_12, eg_12⟩ : ∃ y, upd fa1_9 (0 : Int32).toNatClampNeg (nI i9) = y := ⟨_, rfl⟩
          rw [eg_12] at hP hD
          have hr_13 : rng g_12 3 9 := eg_12 ▸ rng_put ha2_9 (j := i9) (by omega)
          replace hP : va_P D vwCl [wO p0 6 [.ref p1, .ref er, .ref ro, .ref p2, .ref p3, .ref p4, .ref h0, .ref s0, .int (nI ch)], wI (cy 1) p3 4 (fne), wI (cy 1) p4 40 (fqi), wI (cy 1) p2 3 (g_12), wO h0 4 [.ref h1, .ref h2, .ref h3, .ref h4, .ref h5, .ref h6, .ref h7, .ref h8, .ref h9, .ref h10, .ref h11, .int ys, hv1, hv2, hv3, hv4], wI (cy 1) h1 4 (fc), wI (cy 1) h7 48 (fx), wO s0 7 [.ref s1, .ref s2, .int (nI sl), .int spl, .int svo, .int swi, .int sch], wI (cy 1) s1 10 (fw), (er, .inl (cy 4, 4, .inr (.inr (.inr (.inr (eF (ea 0) (ea 1) (ea 2) (ea 3))))))), wO (ea 0) 2 [.ref (eg 0), .ref (ef 0), .int (et 0), .int (nI (el 0)), .int (nI (ei 0))], wI (cy 1) (eg 0) 10 (gc 0), wI (cy 1) (ef 0) 7 (xc 0), wO (ea 1) 2 [.ref (eg 1), .ref (ef 1), .int (et 1), .int (nI (el 1)), .int (nI (ei 1))], wI (cy 1) (eg 1) 10 (gc 1), wI (cy 1) (ef 1) 7 (xc 1), wO (ea 2) 2 [.ref (eg 2), .ref (ef 2), .int (et 2), .int (nI (el 2)), .int (nI (ei 2))], wI (cy 1) (eg 2) 10 (gc 2), wI (cy 1) (ef 2) 7 (xc 2), wO (ea 3) 2 [.ref (eg 3), .ref (ef 3), .int (et 3), .int (nI (el 3)), .int (nI (ei 3))], wI (cy 1) (eg 3) 10 (gc 3), wI (cy 1) (ef 3) 7 (xc 3)] H := hP
          replace hD : va_D A [wO p0 6 [.ref p1, .ref er, .ref ro, .ref p2, .ref p3, .ref p4, .ref h0, .ref s0, .int (nI ch)], wI (cy 1) p3 4 (fne), wI (cy 1) p4 40 (fqi), wI (cy 1) p2 3 (g_12), wO h0 4 [.ref h1, .ref h2, .ref h3, .ref h4, .ref h5, .ref h6, .ref h7, .ref h8, .ref h9, .ref h10, .ref h11, .int ys, hv1, hv2, hv3, hv4], wI (cy 1) h1 4 (fc), wI (cy 1) h7 48 (fx), wO s0 7 [.ref s1, .ref s2, .int (nI sl), .int spl, .int svo, .int swi, .int sch], wI (cy 1) s1 10 (fw), (er, .inl (cy 4, 4, .inr (.inr (.inr (.inr (eF (ea 0) (ea 1) (ea 2) (ea 3))))))), wO (ea 0) 2 [.ref (eg 0), .ref (ef 0), .int (et 0), .int (nI (el 0)), .int (nI (ei 0))], wI (cy 1) (eg 0) 10 (gc 0), wI (cy 1) (ef 0) 7 (xc 0), wO (ea 1) 2 [.ref (eg 1), .ref (ef 1), .int (et 1), .int (nI (el 1)), .int (nI (ei 1))], wI (cy 1) (eg 1) 10 (gc 1), wI (cy 1) (ef 1) 7 (xc 1), wO (ea 2) 2 [.ref (eg 2), .ref (ef 2), .int (et 2), .int (nI (el 2)), .int (nI (ei 2))], wI (cy 1) (eg 2) 10 (gc 2), wI (cy 1) (ef 2) 7 (xc 2), wO (ea 3) 2 [.ref (eg 3), .ref (ef 3), .int (et 3), .int (nI (el 3)), .int (nI (ei 3))], wI (cy 1) (eg 3) 10 (gc 3), wI (cy 1) (ef 3) 7 (xc 3)] := hD
          refine lv_aload_n hx hb dX6_choosePlaces_42 rfl (lv_at hl 1 rfl) ?_
          refine lv_iload_n hx hb dX6_choosePlaces_43 rfl (lv_at hl 2 rfl) ?_
          refine lv_iconst (v := 1) hx hb dX6_choosePlaces_44 (by decide) ?_
          refine lv_iadd hx hb dX6_choosePlaces_45 ?_
          refine lv_topi (fun y_14 hy_14 => ?_)
          obtain rfl : y_14 = 1 := hy_14.trans (by decide +kernel)
          refine lv_iload hx hb dX6_choosePlaces_46 (lv_at hl 0 rfl) ?_
          refine lv_iconst (v := 1) hx hb dX6_choosePlaces_48 (by decide) ?_
          refine lv_iadd hx hb dX6_choosePlaces_49 ?_
          refine lv_topi (fun y_15 hy_15 => ?_)
          obtain rfl : y_15 = nI (i9 + 1) := hy_15.trans (nI_add i9 1)
          refine lv_iload_n hx hb dX6_choosePlaces_50 rfl (lv_at hl 4 rfl) ?_
          refine lv_iconst (v := 1) hx hb dX6_choosePlaces_51 (by decide) ?_
          refine lv_iload hx hb dX6_choosePlaces_52 (lv_at hl 0 rfl) ?_
          refine lv_ishl hx hb dX6_choosePlaces_54 ?_
          refine lv_topi (fun x_16 ex_16 => ?_)
          refine lv_ior hx hb dX6_choosePlaces_55 ?_
          refine lv_topi (fun x_17 ex_17 => ?_)
          refine x_callVi (q := (RX6, TX6, 9)) (ci := 6) (q0 := 0) (wr := []) (rest := []) ⟨hx, hb, hml, hown, hg, hl.1⟩ k_X6_69 (s_choosePlaces1 l D cy p0 p1 p2 p3 p4 er ro ch fne fqi g_12 h0 h1 h2 h3 h4 h5 h6 h7 h8 h9 h10 h11 hv1 hv2 hv3 hv4 ys fc c0 c1 c2 c3 fx s0 s1 s2 sl spl svo swi sch fw ea eg ef et el ei gc xc ((i9 + 1)) x_17 (hne) (hr_13) (by omega) (hcn) (by omega) (by omega) (by omega) (by omega) (hnx) (fun i9 h9 => by rcases (show i9 = 0 ∨ i9 = 1 ∨ i9 = 2 ∨ i9 = 3 by omega) with rfl | rfl | rfl | rfl <;> omega) (hes) (by omega) (hsw) (by omega)) E0_blind hK hP hD hS hA [0, 1, 2, 3, 4, 5, 6, 7, 8, 9, 10, 11, 12, 13, 14, 15, 16, 17, 18, 19, 20, 21] [] ⟨rfl, rfl, by decide +kernel, by decide +kernel, by decide +kernel⟩ rfl rfl (fun _ _ _ => trivial) dX6_choosePlaces_56 rfl rfl (Nat.le_of_ble_eq_true rfl) ⟨Nat.le_of_ble_eq_true rfl, Nat.le_of_ble_eq_true rfl⟩ ⟨Nat.le_of_ble_eq_true rfl, Nat.le_of_ble_eq_true rfl⟩ (fun zr18 zu18 H locs hw18 hP9 hD9 hS9 => ?_)
          clear hP hD hS
          obtain ⟨fpc2_19, rfl⟩ : ∃ z, z = zu18 := ⟨_, rfl⟩
          refine reW [wO p0 6 [.ref p1, .ref er, .ref ro, .ref p2, .ref p3, .ref p4, .ref h0, .ref s0, .int (nI ch)], wI (cy 1) p3 4 (fne), wI (cy 1) p4 40 (fqi), wI (cy 1) p2 3 (fpc2_19), wO h0 4 [.ref h1, .ref h2, .ref h3, .ref h4, .ref h5, .ref h6, .ref h7, .ref h8, .ref h9, .ref h10, .ref h11, .int ys, hv1, hv2, hv3, hv4], wI (cy 1) h1 4 (fc), wI (cy 1) h7 48 (fx), wO s0 7 [.ref s1, .ref s2, .int (nI sl), .int spl, .int svo, .int swi, .int sch], wI (cy 1) s1 10 (fw), (er, .inl (cy 4, 4, .inr (.inr (.inr (.inr (eF (ea 0) (ea 1) (ea 2) (ea 3))))))), wO (ea 0) 2 [.ref (eg 0), .ref (ef 0), .int (et 0), .int (nI (el 0)), .int (nI (ei 0))], wI (cy 1) (eg 0) 10 (gc 0), wI (cy 1) (ef 0) 7 (xc 0), wO (ea 1) 2 [.ref (eg 1), .ref (ef 1), .int (et 1), .int (nI (el 1)), .int (nI (ei 1))], wI (cy 1) (eg 1) 10 (gc 1), wI (cy 1) (ef 1) 7 (xc 1), wO (ea 2) 2 [.ref (eg 2), .ref (ef 2), .int (et 2), .int (nI (el 2)), .int (nI (ei 2))], wI (cy 1) (eg 2) 10 (gc 2), wI (cy 1) (ef 2) 7 (xc 2), wO (ea 3) 2 [.ref (eg 3), .ref (ef 3), .int (et 3), .int (nI (el 3)), .int (nI (ei 3))], wI (cy 1) (eg 3) 10 (gc 3), wI (cy 1) (ef 3) 7 (xc 3)] hP9 hD9 hS9 (fun hP hD hS => ?_)
          clear hP9 hD9 hS9
          refine W.widen (k := 0) (n := 0) (Nat.le_of_ble_eq_true rfl) (Nat.le_of_ble_eq_true rfl) ?_
          replace hw18 : (zr18 = 0 ∨ zr18 = 1) ∧ (rng fpc2_19 3 9) := hw18
          obtain ⟨f_20, f_21⟩ := hw18
          refine lv_if_eq (tgt := 64) hx hb dX6_choosePlaces_59 (by decide) (fun c_59 => ?_) (fun c_59 => ?_)
          · refine lv_iinc (v := nI (i9 + 1)) (lv' := [(4, .int (nI (i9 + 1))), (0, .ref p0), (1, .int 0), (2, .int (nI fm)), (3, .int cg)]) hx hb dX6_choosePlaces_64 hl (k := 0) rfl (nI_add i9 1) (by decide) rfl (fun ls hl => ?_)
            refine lv_goto (tgt := 22) hx hb dX6_choosePlaces_67 (by decide) ?_
            exact ih9  ((i9 + 1)) fpc2_19 f_21 (by omega) (by omega) _ _ (hP.sub [0, 1, 2, 3, 4, 5, 6, 7, 8, 9, 10, 11, 12, 13, 14, 15, 16, 17, 18, 19, 20, 21] rfl) (hD.sub [0, 1, 2, 3, 4, 5, 6, 7, 8, 9, 10, 11, 12, 13, 14, 15, 16, 17, 18, 19, 20, 21] (by decide +kernel) rfl) hS ls (lv_sub hl [0, 1, 2, 3, 4] rfl)
          · refine lv_iconst (v := 1) hx hb dX6_choosePlaces_62 (by decide) ?_
            exact x_zret hQ hx hb hr hlocks hK hP hD hS rfl dX6_choosePlaces_63 fpc2_19 (⟨(Or.inr rfl), f_21⟩) [0, 1, 2, 3, 4, 5, 6, 7, 8, 9, 10, 11, 12, 13, 14, 15, 16, 17, 18, 19, 20, 21] (by decide +kernel) rfl (Nat.le_of_ble_eq_true rfl) (Nat.le_of_ble_eq_true rfl)
    exact loop9 _ fm fpc hpc (by omega) (Nat.le_refl _) _ _ (hP.sub [0, 1, 2, 3, 4, 5, 6, 7, 8, 9, 10, 11, 12, 13, 14, 15, 16, 17, 18, 19, 20, 21] rfl) (hD.sub [0, 1, 2, 3, 4, 5, 6, 7, 8, 9, 10, 11, 12, 13, 14, 15, 16, 17, 18, 19, 20, 21] (by decide +kernel) rfl) hS ls (lv_sub hl [0, 1, 2, 3, 4] rfl)
theorem gdX6_isYesNow_0 : decode cX6_isYesNow 0 = .ok (.iconst 0, 1) ∧ decode cX6_isYesNow 1 = .ok (.istore_n 1, 1) ∧ decode cX6_isYesNow 2 = .ok (.iload_n 1, 1) ∧ decode cX6_isYesNow 3 = .ok (.aload_n 0, 1) ∧ decode cX6_isYesNow 4 = .ok (.getfield 35, 3) ∧ decode cX6_isYesNow 7 = .ok (.getfield 43, 3) ∧ decode cX6_isYesNow 10 = .ok (.iconst 1, 1) ∧ decode cX6_isYesNow 11 = .ok (.iaload, 1) ∧ decode cX6_isYesNow 12 = .ok (.if_icmp .ge 53, 3) ∧ decode cX6_isYesNow 65 = .ok (.iconst 0, 1) ∧ decode cX6_isYesNow 66 = .ok (.ireturn, 1) ∧ decode cX6_isYesNow 15 = .ok (.aload_n 0, 1) := by decide +kernel
theorem dX6_isYesNow_0 : decode cX6_isYesNow 0 = .ok (.iconst 0, 1) := gdX6_isYesNow_0.1
theorem dX6_isYesNow_1 : decode cX6_isYesNow 1 = .ok (.istore_n 1, 1) := gdX6_isYesNow_0.2.1
theorem dX6_isYesNow_2 : decode cX6_isYesNow 2 = .ok (.iload_n 1, 1) := gdX6_isYesNow_0.2.2.1
theorem dX6_isYesNow_3 : decode cX6_isYesNow 3 = .ok (.aload_n 0, 1) := gdX6_isYesNow_0.2.2.2.1
theorem dX6_isYesNow_4 : decode cX6_isYesNow 4 = .ok (.getfield 35, 3) := gdX6_isYesNow_0.2.2.2.2.1
theorem dX6_isYesNow_7 : decode cX6_isYesNow 7 = .ok (.getfield 43, 3) := gdX6_isYesNow_0.2.2.2.2.2.1
theorem dX6_isYesNow_10 : decode cX6_isYesNow 10 = .ok (.iconst 1, 1) := gdX6_isYesNow_0.2.2.2.2.2.2.1
theorem dX6_isYesNow_11 : decode cX6_isYesNow 11 = .ok (.iaload, 1) := gdX6_isYesNow_0.2.2.2.2.2.2.2.1
theorem dX6_isYesNow_12 : decode cX6_isYesNow 12 = .ok (.if_icmp .ge 53, 3) := gdX6_isYesNow_0.2.2.2.2.2.2.2.2.1
theorem dX6_isYesNow_65 : decode cX6_isYesNow 65 = .ok (.iconst 0, 1) := gdX6_isYesNow_0.2.2.2.2.2.2.2.2.2.1
theorem dX6_isYesNow_66 : decode cX6_isYesNow 66 = .ok (.ireturn, 1) := gdX6_isYesNow_0.2.2.2.2.2.2.2.2.2.2.1
theorem dX6_isYesNow_15 : decode cX6_isYesNow 15 = .ok (.aload_n 0, 1) := gdX6_isYesNow_0.2.2.2.2.2.2.2.2.2.2.2
theorem gdX6_isYesNow_16 : decode cX6_isYesNow 16 = .ok (.getfield 30, 3) ∧ decode cX6_isYesNow 19 = .ok (.aload_n 0, 1) ∧ decode cX6_isYesNow 20 = .ok (.getfield 18, 3) ∧ decode cX6_isYesNow 23 = .ok (.iload_n 1, 1) ∧ decode cX6_isYesNow 24 = .ok (.iaload, 1) ∧ decode cX6_isYesNow 25 = .ok (.aaload, 1) ∧ decode cX6_isYesNow 26 = .ok (.aload_n 0, 1) ∧ decode cX6_isYesNow 27 = .ok (.getfield 39, 3) ∧ decode cX6_isYesNow 30 = .ok (.getfield 107, 3) ∧ decode cX6_isYesNow 33 = .ok (.aload_n 0, 1) ∧ decode cX6_isYesNow 34 = .ok (.getfield 34, 3) ∧ decode cX6_isYesNow 37 = .ok (.iconst 0, 1) := by decide +kernel
theorem dX6_isYesNow_16 : decode cX6_isYesNow 16 = .ok (.getfield 30, 3) := gdX6_isYesNow_16.1
theorem dX6_isYesNow_19 : decode cX6_isYesNow 19 = .ok (.aload_n 0, 1) := gdX6_isYesNow_16.2.1
theorem dX6_isYesNow_20 : decode cX6_isYesNow 20 = .ok (.getfield 18, 3) := gdX6_isYesNow_16.2.2.1
theorem dX6_isYesNow_23 : decode cX6_isYesNow 23 = .ok (.iload_n 1, 1) := gdX6_isYesNow_16.2.2.2.1
theorem dX6_isYesNow_24 : decode cX6_isYesNow 24 = .ok (.iaload, 1) := gdX6_isYesNow_16.2.2.2.2.1
theorem dX6_isYesNow_25 : decode cX6_isYesNow 25 = .ok (.aaload, 1) := gdX6_isYesNow_16.2.2.2.2.2.1
theorem dX6_isYesNow_26 : decode cX6_isYesNow 26 = .ok (.aload_n 0, 1) := gdX6_isYesNow_16.2.2.2.2.2.2.1
theorem dX6_isYesNow_27 : decode cX6_isYesNow 27 = .ok (.getfield 39, 3) := gdX6_isYesNow_16.2.2.2.2.2.2.2.1
theorem dX6_isYesNow_30 : decode cX6_isYesNow 30 = .ok (.getfield 107, 3) := gdX6_isYesNow_16.2.2.2.2.2.2.2.2.1
theorem dX6_isYesNow_33 : decode cX6_isYesNow 33 = .ok (.aload_n 0, 1) := gdX6_isYesNow_16.2.2.2.2.2.2.2.2.2.1
theorem dX6_isYesNow_34 : decode cX6_isYesNow 34 = .ok (.getfield 34, 3) := gdX6_isYesNow_16.2.2.2.2.2.2.2.2.2.2.1
theorem dX6_isYesNow_37 : decode cX6_isYesNow 37 = .ok (.iconst 0, 1) := gdX6_isYesNow_16.2.2.2.2.2.2.2.2.2.2.2
theorem dX6_isYesNow_38 : decode cX6_isYesNow 38 = .ok (.invokevirtual 117, 3) := by decide +kernel
theorem k_X6_117 : xV RX6 RX2 117 yX2_send cX2_send 7 (some .int) 3 := ⟨⟨m_1278, m_1061, m_1062, m_142, m_1063⟩, rfl, by decide, by decide, by decide +kernel⟩
theorem gdX6_isYesNow_41 : decode cX6_isYesNow 41 = .ok (.istore_n 2, 1) ∧ decode cX6_isYesNow 42 = .ok (.iload_n 2, 1) ∧ decode cX6_isYesNow 43 = .ok (.ifCond .le 16, 3) ∧ decode cX6_isYesNow 59 = .ok (.iinc 1 1, 3) ∧ decode cX6_isYesNow 62 = .ok (.goto (-60), 3) ∧ decode cX6_isYesNow 46 = .ok (.aload_n 0, 1) ∧ decode cX6_isYesNow 47 = .ok (.getfield 35, 3) ∧ decode cX6_isYesNow 50 = .ok (.aload_n 0, 1) ∧ decode cX6_isYesNow 51 = .ok (.getfield 34, 3) ∧ decode cX6_isYesNow 54 = .ok (.iload_n 2, 1) ∧ decode cX6_isYesNow 55 = .ok (.invokevirtual 121, 3) := by decide +kernel
theorem dX6_isYesNow_41 : decode cX6_isYesNow 41 = .ok (.istore_n 2, 1) := gdX6_isYesNow_41.1
theorem dX6_isYesNow_42 : decode cX6_isYesNow 42 = .ok (.iload_n 2, 1) := gdX6_isYesNow_41.2.1
theorem dX6_isYesNow_43 : decode cX6_isYesNow 43 = .ok (.ifCond .le 16, 3) := gdX6_isYesNow_41.2.2.1
theorem dX6_isYesNow_59 : decode cX6_isYesNow 59 = .ok (.iinc 1 1, 3) := gdX6_isYesNow_41.2.2.2.1
theorem dX6_isYesNow_62 : decode cX6_isYesNow 62 = .ok (.goto (-60), 3) := gdX6_isYesNow_41.2.2.2.2.1
theorem dX6_isYesNow_46 : decode cX6_isYesNow 46 = .ok (.aload_n 0, 1) := gdX6_isYesNow_41.2.2.2.2.2.1
theorem dX6_isYesNow_47 : decode cX6_isYesNow 47 = .ok (.getfield 35, 3) := gdX6_isYesNow_41.2.2.2.2.2.2.1
theorem dX6_isYesNow_50 : decode cX6_isYesNow 50 = .ok (.aload_n 0, 1) := gdX6_isYesNow_41.2.2.2.2.2.2.2.1
theorem dX6_isYesNow_51 : decode cX6_isYesNow 51 = .ok (.getfield 34, 3) := gdX6_isYesNow_41.2.2.2.2.2.2.2.2.1
theorem dX6_isYesNow_54 : decode cX6_isYesNow 54 = .ok (.iload_n 2, 1) := gdX6_isYesNow_41.2.2.2.2.2.2.2.2.2.1
theorem dX6_isYesNow_55 : decode cX6_isYesNow 55 = .ok (.invokevirtual 121, 3) := gdX6_isYesNow_41.2.2.2.2.2.2.2.2.2.2
theorem k_X6_121 : xV RX6 RX4 121 yX4_isYes cX4_isYes 5 (some .boolean) 2 := ⟨⟨m_1279, m_1073, m_1074, m_137, m_1075⟩, rfl, by decide, by decide, by decide +kernel⟩
theorem dX6_isYesNow_58 : decode cX6_isYesNow 58 = .ok (.ireturn, 1) := by decide +kernel
set_option maxHeartbeats 1000000 in
set_option maxRecDepth 100000 in
theorem s_isYesNow (l : Launch) (D : va_G) (cy : Nat → ClassId) (p0 : Nat) (p1 : Nat) (p2 : Nat) (p3 : Nat) (p4 : Nat) (er : Nat) (ro : Nat) (ch : Nat) (fne : Nat → Int32) (h0 : Nat) (h1 : Nat) (h2 : Nat) (h3 : Nat) (h4 : Nat) (h5 : Nat) (h6 : Nat) (h7 : Nat) (h8 : Nat) (h9 : Nat) (h10 : Nat) (h11 : Nat) (hv1 : Value) (hv2 : Value) (hv3 : Value) (hv4 : Value) (ys : Int32) (fc : Nat → Int32) (c0 : Nat) (c1 : Nat) (c2 : Nat) (c3 : Nat) (fx : Nat → Int32) (s0 : Nat) (s1 : Nat) (s2 : Nat) (sl : Nat) (spl : Int32) (svo : Int32) (swi : Int32) (sch : Int32) (fw : Nat → Int32) (fr : Nat → Int32) (ea : Nat → Nat) (eg : Nat → Nat) (ef : Nat → Nat) (et : Nat → Int32) (el : Nat → Nat) (ei : Nat → Nat) (gc : Nat → Nat → Int32) (xc : Nat → Nat → Int32) (hne : nOK fne c1) (hcn : cntOK fc c0 c1 c2 c3) (hc0 : c0 ≤ 8) (hc1 : c1 ≤ 4) (hc2 : c2 ≤ 4) (hc3 : c3 ≤ 6) (hnx : rng fx 48 5) (hel : ∀ i9, i9 < 4 → el i9 ≤ 10) (hsl : sl ≤ 10) (hsw : rng fw 10 7) (hrw : rng fr 20 7) : XMi l D (tyL cy) E0 yX6_isYesNow cX6_isYesNow 3 (some .boolean) (rmk 3 0 0) [.ref p0] [wO p0 6 [.ref p1, .ref er, .ref ro, .ref p2, .ref p3, .ref p4, .ref h0, .ref s0, .int (nI ch)], wI (cy 1) p3 4 (fne), wO h0 4 [.ref h1, .ref h2, .ref h3, .ref h4, .ref h5, .ref h6, .ref h7, .ref h8, .ref h9, .ref h10, .ref h11, .int ys, hv1, hv2, hv3, hv4], wI (cy 1) h1 4 (fc), wI (cy 1) h7 48 (fx), wO s0 7 [.ref s1, .ref s2, .int (nI sl), .int spl, .int svo, .int swi, .int sch], wI (cy 1) s1 10 (fw), wI (cy 1) ro 20 (fr), (er, .inl (cy 4, 4, .inr (.inr (.inr (.inr (eF (ea 0) (ea 1) (ea 2) (ea 3))))))), wO (ea 0) 2 [.ref (eg 0), .ref (ef 0), .int (et 0), .int (nI (el 0)), .int (nI (ei 0))], wI (cy 1) (eg 0) 10 (gc 0), wI (cy 1) (ef 0) 7 (xc 0), wO (ea 1) 2 [.ref (eg 1), .ref (ef 1), .int (et 1), .int (nI (el 1)), .int (nI (ei 1))], wI (cy 1) (eg 1) 10 (gc 1), wI (cy 1) (ef 1) 7 (xc 1), wO (ea 2) 2 [.ref (eg 2), .ref (ef 2), .int (et 2), .int (nI (el 2)), .int (nI (ei 2))], wI (cy 1) (eg 2) 10 (gc 2), wI (cy 1) (ef 2) 7 (xc 2), wO (ea 3) 2 [.ref (eg 3), .ref (ef 3), .int (et 3), .int (nI (el 3)), .int (nI (ei 3))], wI (cy 1) (eg 3) 10 (gc 3), wI (cy 1) (ef 3) 7 (xc 3)] (fun (r : Int32) (fr2 : Nat → Int32) => (r = 0 ∨ r = 1) ∧ (rng fr2 20 7)) (fun (fr2 : Nat → Int32) => [wO p0 6 [.ref p1, .ref er, .ref ro, .ref p2, .ref p3, .ref p4, .ref h0, .ref s0, .int (nI ch)], wI (cy 1) p3 4 (fne), wO h0 4 [.ref h1, .ref h2, .ref h3, .ref h4, .ref h5, .ref h6, .ref h7, .ref h8, .ref h9, .ref h10, .ref h11, .int ys, hv1, hv2, hv3, hv4], wI (cy 1) h1 4 (fc), wI (cy 1) h7 48 (fx), wO s0 7 [.ref s1, .ref s2, .int (nI sl), .int spl, .int svo, .int swi, .int sch], wI (cy 1) s1 10 (fw), wI (cy 1) ro 20 (fr2), (er, .inl (cy 4, 4, .inr (.inr (.inr (.inr (eF (ea 0) (ea 1) (ea 2) (ea 3))))))), wO (ea 0) 2 [.ref (eg 0), .ref (ef 0), .int (et 0), .int (nI (el 0)), .int (nI (ei 0))], wI (cy 1) (eg 0) 10 (gc 0), wI (cy 1) (ef 0) 7 (xc 0), wO (ea 1) 2 [.ref (eg 1), .ref (ef 1), .int (et 1), .int (nI (el 1)), .int (nI (ei 1))], wI (cy 1) (eg 1) 10 (gc 1), wI (cy 1) (ef 1) 7 (xc 1), wO (ea 2) 2 [.ref (eg 2), .ref (ef 2), .int (et 2), .int (nI (el 2)), .int (nI (ei 2))], wI (cy 1) (eg 2) 10 (gc 2), wI (cy 1) (ef 2) 7 (xc 2), wO (ea 3) 2 [.ref (eg 3), .ref (ef 3), .int (et 3), .int (nI (el 3)), .int (nI (ei 3))], wI (cy 1) (eg 3) 10 (gc 3), wI (cy 1) (ef 3) 7 (xc 3)]) := by
  refine XMi.start (by decide) (Nat.le_of_ble_eq_true rfl) ?_
  intro p e s m below meth c args A ls Q hat hQ
  obtain ⟨hx, hb, hr, hml, hown, hg, hlocks, hin, hK, hA, hP, hD, hS, hE, hl⟩ := hat
  have hown : s.vm.findClass RX6 = some m.cls := hown
  have hl : lv_has ls 3 [(0, .ref p0)] := hl
  have hk_1 := hel 0 (by decide)
  have hk_2 := hel 1 (by decide)
  have hk_3 := hel 2 (by decide)
  have hk_4 := hel 3 (by decide)
  refine lv_iconst (v := 0) hx hb dX6_isYesNow_0 (by decide) ?_
  refine lv_istore_n (lv' := [(1, .int 0), (0, .ref p0)]) hx hb dX6_isYesNow_1 rfl hl (by decide) rfl (fun ls hl => ?_)
  have loop5 : ∀ (zn : Nat) (i5 : Nat) (fa1_5 : Nat → Int32), (rng fa1_5 20 7) → (i5 ≤ c1) → c1 - i5 + 1 ≤ zn → ∀ (H : Heap) (locs : List Loc), va_P D vwCl [wO p0 6 [.ref p1, .ref er, .ref ro, .ref p2, .ref p3, .ref p4, .ref h0, .ref s0, .int (nI ch)], wI (cy 1) p3 4 (fne), wO h0 4 [.ref h1, .ref h2, .ref h3, .ref h4, .ref h5, .ref h6, .ref h7, .ref h8, .ref h9, .ref h10, .ref h11, .int ys, hv1, hv2, hv3, hv4], wI (cy 1) h1 4 (fc), wI (cy 1) h7 48 (fx), wO s0 7 [.ref s1, .ref s2, .int (nI sl), .int spl, .int svo, .int swi, .int sch], wI (cy 1) s1 10 (fw), wI (cy 1) ro 20 (fa1_5), (er, .inl (cy 4, 4, .inr (.inr (.inr (.inr (eF (ea 0) (ea 1) (ea 2) (ea 3))))))), wO (ea 0) 2 [.ref (eg 0), .ref (ef 0), .int (et 0), .int (nI (el 0)), .int (nI (ei 0))], wI (cy 1) (eg 0) 10 (gc 0), wI (cy 1) (ef 0) 7 (xc 0), wO (ea 1) 2 [.ref (eg 1), .ref (ef 1), .int (et 1), .int (nI (el 1)), .int (nI (ei 1))], wI (cy 1) (eg 1) 10 (gc 1), wI (cy 1) (ef 1) 7 (xc 1), wO (ea 2) 2 [.ref (eg 2), .ref (ef 2), .int (et 2), .int (nI (el 2)), .int (nI (ei 2))], wI (cy 1) (eg 2) 10 (gc 2), wI (cy 1) (ef 2) 7 (xc 2), wO (ea 3) 2 [.ref (eg 3), .ref (ef 3), .int (et 3), .int (nI (el 3)), .int (nI (ei 3))], wI (cy 1) (eg 3) 10 (gc 3), wI (cy 1) (ef 3) 7 (xc 3)] H → va_D A [wO p0 6 [.ref p1, .ref er, .ref ro, .ref p2, .ref p3, .ref p4, .ref h0, .ref s0, .int (nI ch)], wI (cy 1) p3 4 (fne), wO h0 4 [.ref h1, .ref h2, .ref h3, .ref h4, .ref h5, .ref h6, .ref h7, .ref h8, .ref h9, .ref h10, .ref h11, .int ys, hv1, hv2, hv3, hv4], wI (cy 1) h1 4 (fc), wI (cy 1) h7 48 (fx), wO s0 7 [.ref s1, .ref s2, .int (nI sl), .int spl, .int svo, .int swi, .int sch], wI (cy 1) s1 10 (fw), wI (cy 1) ro 20 (fa1_5), (er, .inl (cy 4, 4, .inr (.inr (.inr (.inr (eF (ea 0) (ea 1) (ea 2) (ea 3))))))), wO (ea 0) 2 [.ref (eg 0), .ref (ef 0), .int (et 0), .int (nI (el 0)), .int (nI (ei 0))], wI (cy 1) (eg 0) 10 (gc 0), wI (cy 1) (ef 0) 7 (xc 0), wO (ea 1) 2 [.ref (eg 1), .ref (ef 1), .int (et 1), .int (nI (el 1)), .int (nI (ei 1))], wI (cy 1) (eg 1) 10 (gc 1), wI (cy 1) (ef 1) 7 (xc 1), wO (ea 2) 2 [.ref (eg 2), .ref (ef 2), .int (et 2), .int (nI (el 2)), .int (nI (ei 2))], wI (cy 1) (eg 2) 10 (gc 2), wI (cy 1) (ef 2) 7 (xc 2), wO (ea 3) 2 [.ref (eg 3), .ref (ef 3), .int (et 3), .int (nI (el 3)), .int (nI (ei 3))], wI (cy 1) (eg 3) 10 (gc 3), wI (cy 1) (ef 3) 7 (xc 3)] → va_S A s.heap H locs → ∀ ls : Array Slot, lv_has ls 3 [(1, .int (nI i5)), (0, .ref p0)] → W p l e (rmk 3 0 0) s m args below meth c H locs 0 0 Q (F0 m 2 ls []) := by
    try clear hP hD hS
    intro zn
    induction zn with
    | zero => intro i5 fa1_5 _ _ hz; exact absurd hz (by omega)
    | succ zn ih5 =>
      intro i5 fa1_5 ha2_5 hf0_5 hmu5 H locs hP hD hS ls hl
      refine lv_iload_n hx hb dX6_isYesNow_2 rfl (lv_at hl 0 rfl) ?_
      refine lv_aload_n hx hb dX6_isYesNow_3 rfl (lv_at hl 1 rfl) ?_
      refine va_get (D := D) (ci := 6) (v := .ref h0) (C := RX6) (T := TX6) (N := 9) hx hb hg i_X6 hown hK hP 0 rfl rfl 6 (by decide) (hg _ m_591) (fun _ h9 => h9) rfl dX6_isYesNow_4 ?_
      refine va_get (D := D) (ci := 4) (v := .ref h1) (C := RX4) (T := TX4) (N := 16) hx hb hg i_X4 hown hK hP 2 rfl rfl 0 (by decide) (hg _ m_330) (fun _ h9 => h9) rfl dX6_isYesNow_7 ?_
      refine lv_iconst (v := 1) hx hb dX6_isYesNow_10 (by decide) ?_
      refine va_iald hx hb hK hP 3 1 rfl rfl (by unfold vp_in; decide) dX6_isYesNow_11 ?_
      refine lv_topi (fun y_6 hy_6 => ?_)
      obtain rfl : y_6 = nI c1 := hy_6.trans hcn.2.1
      refine lv_icmp_ge (tgt := 65) hx hb dX6_isYesNow_12 (by decide) (fun c_7 => ?_) (fun c_7 => ?_)
      · have q_8 : c1 ≤ i5 := q_le (a := c1) (b := i5) rfl rfl (by omega) (by omega) c_7
        refine lv_iconst (v := 0) hx hb dX6_isYesNow_65 (by decide) ?_
        exact x_zret hQ hx hb hr hlocks hK hP hD hS rfl dX6_isYesNow_66 fa1_5 (⟨(Or.inl rfl), ha2_5⟩) [0, 1, 2, 3, 4, 5, 6, 7, 8, 9, 10, 11, 12, 13, 14, 15, 16, 17, 18, 19, 20] (by decide +kernel) rfl (Nat.le_of_ble_eq_true rfl) (Nat.le_of_ble_eq_true rfl)
      · have q_8 : i5 < c1 := q_nle (a := c1) (b := i5) rfl rfl (by omega) (by omega) c_7
        refine lv_aload_n hx hb dX6_isYesNow_15 rfl (lv_at hl 1 rfl) ?_
        refine va_get (D := D) (ci := 6) (v := .ref er) (C := RX6) (T := TX6) (N := 9) hx hb hg i_X6 hown hK hP 0 rfl rfl 1 (by decide) (hg _ m_586) (fun _ h9 => h9) rfl dX6_isYesNow_16 ?_
        refine lv_aload_n hx hb dX6_isYesNow_19 rfl (lv_at hl 1 rfl) ?_
        refine va_get (D := D) (ci := 6) (v := .ref p3) (C := RX6) (T := TX6) (N := 9) hx hb hg i_X6 hown hK hP 0 rfl rfl 4 (by decide) (hg _ m_589) (fun _ h9 => h9) rfl dX6_isYesNow_20 ?_
        refine lv_iload_n hx hb dX6_isYesNow_23 rfl (lv_at hl 0 rfl) ?_
        refine va_iald hx hb hK hP 1 1 rfl rfl (vp_in_nI (by omega) (by decide)) dX6_isYesNow_24 ?_
        obtain ⟨j_9, hj_9, ej_9⟩ := nOK_at hne (i := i5) (by omega) (by omega)
        refine lv_topi (fun y_10 hy_10 => ?_)
        obtain rfl : y_10 = nI j_9 := hy_10.trans ej_9
        rcases (show j_9 = 0 ∨ j_9 = 1 ∨ j_9 = 2 ∨ j_9 = 3 by omega) with hsp | hsp | hsp | hsp
        · subst hsp
          refine va_aldq hx hb hK hP 8 4 rfl rfl (by unfold vp_in; decide) dX6_isYesNow_25 ?_
          refine W.eq (g2 := F0 m 26 ls [.ref (ea 0)]) rfl ?_
          refine lv_aload_n hx hb dX6_isYesNow_26 rfl (lv_at hl 1 rfl) ?_
          refine va_get (D := D) (ci := 6) (v := .ref s0) (C := RX6) (T := TX6) (N := 9) hx hb hg i_X6 hown hK hP 0 rfl rfl 7 (by decide) (hg _ m_592) (fun _ h9 => h9) rfl dX6_isYesNow_27 ?_
          refine va_get (D := D) (ci := 7) (v := .ref s1) (C := RX7) (T := TX7) (N := 7) hx hb hg i_X7 hown hK hP 5 rfl rfl 0 (by decide) (hg _ m_622) (fun _ h9 => h9) rfl dX6_isYesNow_30 ?_
          refine lv_aload_n hx hb dX6_isYesNow_33 rfl (lv_at hl 1 rfl) ?_
          refine va_get (D := D) (ci := 6) (v := .ref ro) (C := RX6) (T := TX6) (N := 9) hx hb hg i_X6 hown hK hP 0 rfl rfl 2 (by decide) (hg _ m_587) (fun _ h9 => h9) rfl dX6_isYesNow_34 ?_
          refine lv_iconst (v := 0) hx hb dX6_isYesNow_37 (by decide) ?_
          refine x_callVi (q := (RX2, TX2, 5)) (ci := 2) (q0 := 0) (wr := [wO p0 6 [.ref p1, .ref er, .ref ro, .ref p2, .ref p3, .ref p4, .ref h0, .ref s0, .int (nI ch)], wI (cy 1) p3 4 (fne), wO h0 4 [.ref h1, .ref h2, .ref h3, .ref h4, .ref h5, .ref h6, .ref h7, .ref h8, .ref h9, .ref h10, .ref h11, .int ys, hv1, hv2, hv3, hv4], wI (cy 1) h1 4 (fc), wI (cy 1) h7 48 (fx), wO s0 7 [.ref s1, .ref s2, .int (nI sl), .int spl, .int svo, .int swi, .int sch], (er, .inl (cy 4, 4, .inr (.inr (.inr (.inr (eF (ea 0) (ea 1) (ea 2) (ea 3))))))), wI (cy 1) (ef 0) 7 (xc 0), wO (ea 1) 2 [.ref (eg 1), .ref (ef 1), .int (et 1), .int (nI (el 1)), .int (nI (ei 1))], wI (cy 1) (eg 1) 10 (gc 1), wI (cy 1) (ef 1) 7 (xc 1), wO (ea 2) 2 [.ref (eg 2), .ref (ef 2), .int (et 2), .int (nI (el 2)), .int (nI (ei 2))], wI (cy 1) (eg 2) 10 (gc 2), wI (cy 1) (ef 2) 7 (xc 2), wO (ea 3) 2 [.ref (eg 3), .ref (ef 3), .int (et 3), .int (nI (el 3)), .int (nI (ei 3))], wI (cy 1) (eg 3) 10 (gc 3), wI (cy 1) (ef 3) 7 (xc 3)]) (rest := []) ⟨hx, hb, hml, hown, hg, hl.1⟩ k_X6_117 (s_send l D cy (ea 0) (eg 0) (ef 0) (et 0) ((el 0)) ((ei 0)) (gc 0) s1 fw ro fa1_5 0 (by omega) (hsw) (ha2_5) (by omega)) E0_blind hK hP hD hS hA [9, 10, 6, 7] [0, 1, 2, 3, 4, 5, 8, 11, 12, 13, 14, 15, 16, 17, 18, 19, 20] ⟨rfl, rfl, by decide +kernel, by decide +kernel, by decide +kernel⟩ rfl rfl (fun _ _ _ => trivial) dX6_isYesNow_38 rfl rfl (Nat.le_of_ble_eq_true rfl) ⟨Nat.le_of_ble_eq_true rfl, Nat.le_of_ble_eq_true rfl⟩ ⟨Nat.le_of_ble_eq_true rfl, Nat.le_of_ble_eq_true rfl⟩ (fun zr11 zu11 H locs hw11 hP9 hD9 hS9 => ?_)
          clear hP hD hS
          obtain ⟨fr2_12, k_13⟩ := zu11
          refine reW [wO p0 6 [.ref p1, .ref er, .ref ro, .ref p2, .ref p3, .ref p4, .ref h0, .ref s0, .int (nI ch)], wI (cy 1) p3 4 (fne), wO h0 4 [.ref h1, .ref h2, .ref h3, .ref h4, .ref h5, .ref h6, .ref h7, .ref h8, .ref h9, .ref h10, .ref h11, .int ys, hv1, hv2, hv3, hv4], wI (cy 1) h1 4 (fc), wI (cy 1) h7 48 (fx), wO s0 7 [.ref s1, .ref s2, .int (nI sl), .int spl, .int svo, .int swi, .int sch], (er, .inl (cy 4, 4, .inr (.inr (.inr (.inr (eF (ea 0) (ea 1) (ea 2) (ea 3))))))), wI (cy 1) (ef 0) 7 (xc 0), wO (ea 1) 2 [.ref (eg 1), .ref (ef 1), .int (et 1), .int (nI (el 1)), .int (nI (ei 1))], wI (cy 1) (eg 1) 10 (gc 1), wI (cy 1) (ef 1) 7 (xc 1), wO (ea 2) 2 [.ref (eg 2), .ref (ef 2), .int (et 2), .int (nI (el 2)), .int (nI (ei 2))], wI (cy 1) (eg 2) 10 (gc 2), wI (cy 1) (ef 2) 7 (xc 2), wO (ea 3) 2 [.ref (eg 3), .ref (ef 3), .int (et 3), .int (nI (el 3)), .int (nI (ei 3))], wI (cy 1) (eg 3) 10 (gc 3), wI (cy 1) (ef 3) 7 (xc 3), wO (ea 0) 2 [.ref (eg 0), .ref (ef 0), .int (et 0), .int (nI ((el 0))), .int (nI ((ei 0)))], wI (cy 1) (eg 0) 10 (gc 0), wI (cy 1) s1 10 (fw), wI (cy 1) ro 20 (fr2_12)] hP9 hD9 hS9 (fun hP hD hS => ?_)
          clear hP9 hD9 hS9
          refine W.widen (k := 0) (n := 0) (Nat.le_of_ble_eq_true rfl) (Nat.le_of_ble_eq_true rfl) ?_
          replace hw11 : (zr11 = nI k_13) ∧ (k_13 ≤ 20) ∧ (k_13 ≤ 0 + ((el 0))) ∧ (rng fr2_12 20 7) := hw11
          obtain ⟨f_14, f_15, f_16, f_17⟩ := hw11
          subst f_14
          refine lv_istore_n (lv' := [(2, .int (nI k_13)), (1, .int (nI i5)), (0, .ref p0)]) hx hb dX6_isYesNow_41 rfl hl (by decide) rfl (fun ls hl => ?_)
          refine lv_iload_n hx hb dX6_isYesNow_42 rfl (lv_at hl 0 rfl) ?_
          refine lv_if_le (tgt := 59) hx hb dX6_isYesNow_43 (by decide) (fun c_18 => ?_) (fun c_18 => ?_)
          · have q_19 : k_13 ≤ 0 := q_le (a := k_13) (b := 0) rfl rfl (by omega) (by omega) c_18
            refine lv_iinc (v := nI (i5 + 1)) (lv' := [(1, .int (nI (i5 + 1))), (2, .int (nI k_13)), (0, .ref p0)]) hx hb dX6_isYesNow_59 hl (k := 1) rfl (nI_add i5 1) (by decide) rfl (fun ls hl => ?_)
            refine lv_goto (tgt := 2) hx hb dX6_isYesNow_62 (by decide) ?_
            exact ih5  ((i5 + 1)) fr2_12 f_17 (by omega) (by omega) _ _ (hP.sub [0, 1, 2, 3, 4, 5, 19, 20, 6, 17, 18, 7, 8, 9, 10, 11, 12, 13, 14, 15, 16] rfl) (hD.sub [0, 1, 2, 3, 4, 5, 19, 20, 6, 17, 18, 7, 8, 9, 10, 11, 12, 13, 14, 15, 16] (by decide +kernel) rfl) hS ls (lv_sub hl [0, 2] rfl)
          · have q_19 : 0 < k_13 := q_nle (a := k_13) (b := 0) rfl rfl (by omega) (by omega) c_18
            refine lv_aload_n hx hb dX6_isYesNow_46 rfl (lv_at hl 2 rfl) ?_
            refine va_get (D := D) (ci := 6) (v := .ref h0) (C := RX6) (T := TX6) (N := 9) hx hb hg i_X6 hown hK hP 0 rfl rfl 6 (by decide) (hg _ m_591) (fun _ h9 => h9) rfl dX6_isYesNow_47 ?_
            refine lv_aload_n hx hb dX6_isYesNow_50 rfl (lv_at hl 2 rfl) ?_
            refine va_get (D := D) (ci := 6) (v := .ref ro) (C := RX6) (T := TX6) (N := 9) hx hb hg i_X6 hown hK hP 0 rfl rfl 2 (by decide) (hg _ m_587) (fun _ h9 => h9) rfl dX6_isYesNow_51 ?_
            refine lv_iload_n hx hb dX6_isYesNow_54 rfl (lv_at hl 0 rfl) ?_
            refine x_callVi (q := (RX4, TX4, 16)) (ci := 4) (q0 := 0) (wr := [wO p0 6 [.ref p1, .ref er, .ref ro, .ref p2, .ref p3, .ref p4, .ref h0, .ref s0, .int (nI ch)], wI (cy 1) p3 4 (fne), wI (cy 1) h1 4 (fc), wO s0 7 [.ref s1, .ref s2, .int (nI sl), .int spl, .int svo, .int swi, .int sch], (er, .inl (cy 4, 4, .inr (.inr (.inr (.inr (eF (ea 0) (ea 1) (ea 2) (ea 3))))))), wI (cy 1) (ef 0) 7 (xc 0), wO (ea 1) 2 [.ref (eg 1), .ref (ef 1), .int (et 1), .int (nI (el 1)), .int (nI (ei 1))], wI (cy 1) (eg 1) 10 (gc 1), wI (cy 1) (ef 1) 7 (xc 1), wO (ea 2) 2 [.ref (eg 2), .ref (ef 2), .int (et 2), .int (nI (el 2)), .int (nI (ei 2))], wI (cy 1) (eg 2) 10 (gc 2), wI (cy 1) (ef 2) 7 (xc 2), wO (ea 3) 2 [.ref (eg 3), .ref (ef 3), .int (et 3), .int (nI (el 3)), .int (nI (ei 3))], wI (cy 1) (eg 3) 10 (gc 3), wI (cy 1) (ef 3) 7 (xc 3), wO (ea 0) 2 [.ref (eg 0), .ref (ef 0), .int (et 0), .int (nI ((el 0))), .int (nI ((ei 0)))], wI (cy 1) (eg 0) 10 (gc 0), wI (cy 1) s1 10 (fw)]) (rest := []) ⟨hx, hb, hml, hown, hg, hl.1⟩ k_X6_121 (s_isYes l D cy h0 h1 h2 h3 h4 h5 h6 h7 h8 h9 h10 h11 hv1 hv2 hv3 hv4 ys fx ro fr2_12 k_13 (hnx) (f_17) (by omega)) E0_blind hK hP hD hS hA [2, 4, 20] [0, 1, 3, 5, 6, 7, 8, 9, 10, 11, 12, 13, 14, 15, 16, 17, 18, 19] ⟨rfl, rfl, by decide +kernel, by decide +kernel, by decide +kernel⟩ rfl rfl (fun _ _ _ => trivial) dX6_isYesNow_55 rfl rfl (Nat.le_of_ble_eq_true rfl) ⟨Nat.le_of_ble_eq_true rfl, Nat.le_of_ble_eq_true rfl⟩ ⟨Nat.le_of_ble_eq_true rfl, Nat.le_of_ble_eq_true rfl⟩ (fun zr20 zu20 H locs hw20 hP9 hD9 hS9 => ?_)
            clear hP hD hS
            refine reW [wO p0 6 [.ref p1, .ref er, .ref ro, .ref p2, .ref p3, .ref p4, .ref h0, .ref s0, .int (nI ch)], wI (cy 1) p3 4 (fne), wI (cy 1) h1 4 (fc), wO s0 7 [.ref s1, .ref s2, .int (nI sl), .int spl, .int svo, .int swi, .int sch], (er, .inl (cy 4, 4, .inr (.inr (.inr (.inr (eF (ea 0) (ea 1) (ea 2) (ea 3))))))), wI (cy 1) (ef 0) 7 (xc 0), wO (ea 1) 2 [.ref (eg 1), .ref (ef 1), .int (et 1), .int (nI (el 1)), .int (nI (ei 1))], wI (cy 1) (eg 1) 10 (gc 1), wI (cy 1) (ef 1) 7 (xc 1), wO (ea 2) 2 [.ref (eg 2), .ref (ef 2), .int (et 2), .int (nI (el 2)), .int (nI (ei 2))], wI (cy 1) (eg 2) 10 (gc 2), wI (cy 1) (ef 2) 7 (xc 2), wO (ea 3) 2 [.ref (eg 3), .ref (ef 3), .int (et 3), .int (nI (el 3)), .int (nI (ei 3))], wI (cy 1) (eg 3) 10 (gc 3), wI (cy 1) (ef 3) 7 (xc 3), wO (ea 0) 2 [.ref (eg 0), .ref (ef 0), .int (et 0), .int (nI ((el 0))), .int (nI ((ei 0)))], wI (cy 1) (eg 0) 10 (gc 0), wI (cy 1) s1 10 (fw), wO h0 4 [.ref h1, .ref h2, .ref h3, .ref h4, .ref h5, .ref h6, .ref h7, .ref h8, .ref h9, .ref h10, .ref h11, .int ys, hv1, hv2, hv3, hv4], wI (cy 1) h7 48 (fx), wI (cy 1) ro 20 (fr2_12)] hP9 hD9 hS9 (fun hP hD hS => ?_)
            clear hP9 hD9 hS9
            refine W.widen (k := 0) (n := 0) (Nat.le_of_ble_eq_true rfl) (Nat.le_of_ble_eq_true rfl) ?_
            replace hw20 : (zr20 = 0 ∨ zr20 = 1) := hw20
            have f_21 := hw20
            exact x_zret hQ hx hb hr hlocks hK hP hD hS (narB f_21) dX6_isYesNow_58 fr2_12 (⟨f_21, f_17⟩) [0, 1, 18, 2, 19, 3, 17, 20, 4, 15, 16, 5, 6, 7, 8, 9, 10, 11, 12, 13, 14] (by decide +kernel) rfl (Nat.le_of_ble_eq_true rfl) (Nat.le_of_ble_eq_true rfl)
        · subst hsp
          refine va_aldq hx hb hK hP 8 4 rfl rfl (by unfold vp_in; decide) dX6_isYesNow_25 ?_
          refine W.eq (g2 := F0 m 26 ls [.ref (ea 1)]) rfl ?_
          refine lv_aload_n hx hb dX6_isYesNow_26 rfl (lv_at hl 1 rfl) ?_
          refine va_get (D := D) (ci := 6) (v := .ref s0) (C := RX6) (T := TX6) (N := 9) hx hb hg i_X6 hown hK hP 0 rfl rfl 7 (by decide) (hg _ m_592) (fun _ h9 => h9) rfl dX6_isYesNow_27 ?_
          refine va_get (D := D) (ci := 7) (v := .ref s1) (C := RX7) (T := TX7) (N := 7) hx hb hg i_X7 hown hK hP 5 rfl rfl 0 (by decide) (hg _ m_622) (fun _ h9 => h9) rfl dX6_isYesNow_30 ?_
          refine lv_aload_n hx hb dX6_isYesNow_33 rfl (lv_at hl 1 rfl) ?_
          refine va_get (D := D) (ci := 6) (v := .ref ro) (C := RX6) (T := TX6) (N := 9) hx hb hg i_X6 hown hK hP 0 rfl rfl 2 (by decide) (hg _ m_587) (fun _ h9 => h9) rfl dX6_isYesNow_34 ?_
          refine lv_iconst (v := 0) hx hb dX6_isYesNow_37 (by decide) ?_
          refine x_callVi (q := (RX2, TX2, 5)) (ci := 2) (q0 := 0) (wr := [wO p0 6 [.ref p1, .ref er, .ref ro, .ref p2, .ref p3, .ref p4, .ref h0, .ref s0, .int (nI ch)], wI (cy 1) p3 4 (fne), wO h0 4 [.ref h1, .ref h2, .ref h3, .ref h4, .ref h5, .ref h6, .ref h7, .ref h8, .ref h9, .ref h10, .ref h11, .int ys, hv1, hv2, hv3, hv4], wI (cy 1) h1 4 (fc), wI (cy 1) h7 48 (fx), wO s0 7 [.ref s1, .ref s2, .int (nI sl), .int spl, .int svo, .int swi, .int sch], (er, .inl (cy 4, 4, .inr (.inr (.inr (.inr (eF (ea 0) (ea 1) (ea 2) (ea 3))))))), wO (ea 0) 2 [.ref (eg 0), .ref (ef 0), .int (et 0), .int (nI (el 0)), .int (nI (ei 0))], wI (cy 1) (eg 0) 10 (gc 0), wI (cy 1) (ef 0) 7 (xc 0), wI (cy 1) (ef 1) 7 (xc 1), wO (ea 2) 2 [.ref (eg 2), .ref (ef 2), .int (et 2), .int (nI (el 2)), .int (nI (ei 2))], wI (cy 1) (eg 2) 10 (gc 2), wI (cy 1) (ef 2) 7 (xc 2), wO (ea 3) 2 [.ref (eg 3), .ref (ef 3), .int (et 3), .int (nI (el 3)), .int (nI (ei 3))], wI (cy 1) (eg 3) 10 (gc 3), wI (cy 1) (ef 3) 7 (xc 3)]) (rest := []) ⟨hx, hb, hml, hown, hg, hl.1⟩ k_X6_117 (s_send l D cy (ea 1) (eg 1) (ef 1) (et 1) ((el 1)) ((ei 1)) (gc 1) s1 fw ro fa1_5 0 (by omega) (hsw) (ha2_5) (by omega)) E0_blind hK hP hD hS hA [12, 13, 6, 7] [0, 1, 2, 3, 4, 5, 8, 9, 10, 11, 14, 15, 16, 17, 18, 19, 20] ⟨rfl, rfl, by decide +kernel, by decide +kernel, by decide +kernel⟩ rfl rfl (fun _ _ _ => trivial) dX6_isYesNow_38 rfl rfl (Nat.le_of_ble_eq_true rfl) ⟨Nat.le_of_ble_eq_true rfl, Nat.le_of_ble_eq_true rfl⟩ ⟨Nat.le_of_ble_eq_true rfl, Nat.le_of_ble_eq_true rfl⟩ (fun zr22 zu22 H locs hw22 hP9 hD9 hS9 => ?_)
          clear hP hD hS
          obtain ⟨fr2_23, k_24⟩ := zu22
          refine reW [wO p0 6 [.ref p1, .ref er, .ref ro, .ref p2, .ref p3, .ref p4, .ref h0, .ref s0, .int (nI ch)], wI (cy 1) p3 4 (fne), wO h0 4 [.ref h1, .ref h2, .ref h3, .ref h4, .ref h5, .ref h6, .ref h7, .ref h8, .ref h9, .ref h10, .ref h11, .int ys, hv1, hv2, hv3, hv4], wI (cy 1) h1 4 (fc), wI (cy 1) h7 48 (fx), wO s0 7 [.ref s1, .ref s2, .int (nI sl), .int spl, .int svo, .int swi, .int sch], (er, .inl (cy 4, 4, .inr (.inr (.inr (.inr (eF (ea 0) (ea 1) (ea 2) (ea 3))))))), wO (ea 0) 2 [.ref (eg 0), .ref (ef 0), .int (et 0), .int (nI (el 0)), .int (nI (ei 0))], wI (cy 1) (eg 0) 10 (gc 0), wI (cy 1) (ef 0) 7 (xc 0), wI (cy 1) (ef 1) 7 (xc 1), wO (ea 2) 2 [.ref (eg 2), .ref (ef 2), .int (et 2), .int (nI (el 2)), .int (nI (ei 2))], wI (cy 1) (eg 2) 10 (gc 2), wI (cy 1) (ef 2) 7 (xc 2), wO (ea 3) 2 [.ref (eg 3), .ref (ef 3), .int (et 3), .int (nI (el 3)), .int (nI (ei 3))], wI (cy 1) (eg 3) 10 (gc 3), wI (cy 1) (ef 3) 7 (xc 3), wO (ea 1) 2 [.ref (eg 1), .ref (ef 1), .int (et 1), .int (nI ((el 1))), .int (nI ((ei 1)))], wI (cy 1) (eg 1) 10 (gc 1), wI (cy 1) s1 10 (fw), wI (cy 1) ro 20 (fr2_23)] hP9 hD9 hS9 (fun hP hD hS => ?_)
          clear hP9 hD9 hS9
          refine W.widen (k := 0) (n := 0) (Nat.le_of_ble_eq_true rfl) (Nat.le_of_ble_eq_true rfl) ?_
          replace hw22 : (zr22 = nI k_24) ∧ (k_24 ≤ 20) ∧ (k_24 ≤ 0 + ((el 1))) ∧ (rng fr2_23 20 7) := hw22
          obtain ⟨f_25, f_26, f_27, f_28⟩ := hw22
          subst f_25
          refine lv_istore_n (lv' := [(2, .int (nI k_24)), (1, .int (nI i5)), (0, .ref p0)]) hx hb dX6_isYesNow_41 rfl hl (by decide) rfl (fun ls hl => ?_)
          refine lv_iload_n hx hb dX6_isYesNow_42 rfl (lv_at hl 0 rfl) ?_
          refine lv_if_le (tgt := 59) hx hb dX6_isYesNow_43 (by decide) (fun c_29 => ?_) (fun c_29 => ?_)
          · have q_30 : k_24 ≤ 0 := q_le (a := k_24) (b := 0) rfl rfl (by omega) (by omega) c_29
            refine lv_iinc (v := nI (i5 + 1)) (lv' := [(1, .int (nI (i5 + 1))), (2, .int (nI k_24)), (0, .ref p0)]) hx hb dX6_isYesNow_59 hl (k := 1) rfl (nI_add i5 1) (by decide) rfl (fun ls hl => ?_)
            refine lv_goto (tgt := 2) hx hb dX6_isYesNow_62 (by decide) ?_
            exact ih5  ((i5 + 1)) fr2_23 f_28 (by omega) (by omega) _ _ (hP.sub [0, 1, 2, 3, 4, 5, 19, 20, 6, 7, 8, 9, 17, 18, 10, 11, 12, 13, 14, 15, 16] rfl) (hD.sub [0, 1, 2, 3, 4, 5, 19, 20, 6, 7, 8, 9, 17, 18, 10, 11, 12, 13, 14, 15, 16] (by decide +kernel) rfl) hS ls (lv_sub hl [0, 2] rfl)
          · have q_30 : 0 < k_24 := q_nle (a := k_24) (b := 0) rfl rfl (by omega) (by omega) c_29
            refine lv_aload_n hx hb dX6_isYesNow_46 rfl (lv_at hl 2 rfl) ?_
            refine va_get (D := D) (ci := 6) (v := .ref h0) (C := RX6) (T := TX6) (N := 9) hx hb hg i_X6 hown hK hP 0 rfl rfl 6 (by decide) (hg _ m_591) (fun _ h9 => h9) rfl dX6_isYesNow_47 ?_
            refine lv_aload_n hx hb dX6_isYesNow_50 rfl (lv_at hl 2 rfl) ?_
            refine va_get (D := D) (ci := 6) (v := .ref ro) (C := RX6) (T := TX6) (N := 9) hx hb hg i_X6 hown hK hP 0 rfl rfl 2 (by decide) (hg _ m_587) (fun _ h9 => h9) rfl dX6_isYesNow_51 ?_
            refine lv_iload_n hx hb dX6_isYesNow_54 rfl (lv_at hl 0 rfl) ?_
            refine x_callVi (q := (RX4, TX4, 16)) (ci := 4) (q0 := 0) (wr := [wO p0 6 [.ref p1, .ref er, .ref ro, .ref p2, .ref p3, .ref p4, .ref h0, .ref s0, .int (nI ch)], wI (cy 1) p3 4 (fne), wI (cy 1) h1 4 (fc), wO s0 7 [.ref s1, .ref s2, .int (nI sl), .int spl, .int svo, .int swi, .int sch], (er, .inl (cy 4, 4, .inr (.inr (.inr (.inr (eF (ea 0) (ea 1) (ea 2) (ea 3))))))), wO (ea 0) 2 [.ref (eg 0), .ref (ef 0), .int (et 0), .int (nI (el 0)), .int (nI (ei 0))], wI (cy 1) (eg 0) 10 (gc 0), wI (cy 1) (ef 0) 7 (xc 0), wI (cy 1) (ef 1) 7 (xc 1), wO (ea 2) 2 [.ref (eg 2), .ref (ef 2), .int (et 2), .int (nI (el 2)), .int (nI (ei 2))], wI (cy 1) (eg 2) 10 (gc 2), wI (cy 1) (ef 2) 7 (xc 2), wO (ea 3) 2 [.ref (eg 3), .ref (ef 3), .int (et 3), .int (nI (el 3)), .int (nI (ei 3))], wI (cy 1) (eg 3) 10 (gc 3), wI (cy 1) (ef 3) 7 (xc 3), wO (ea 1) 2 [.ref (eg 1), .ref (ef 1), .int (et 1), .int (nI ((el 1))), .int (nI ((ei 1)))], wI (cy 1) (eg 1) 10 (gc 1), wI (cy 1) s1 10 (fw)]) (rest := []) ⟨hx, hb, hml, hown, hg, hl.1⟩ k_X6_121 (s_isYes l D cy h0 h1 h2 h3 h4 h5 h6 h7 h8 h9 h10 h11 hv1 hv2 hv3 hv4 ys fx ro fr2_23 k_24 (hnx) (f_28) (by omega)) E0_blind hK hP hD hS hA [2, 4, 20] [0, 1, 3, 5, 6, 7, 8, 9, 10, 11, 12, 13, 14, 15, 16, 17, 18, 19] ⟨rfl, rfl, by decide +kernel, by decide +kernel, by decide +kernel⟩ rfl rfl (fun _ _ _ => trivial) dX6_isYesNow_55 rfl rfl (Nat.le_of_ble_eq_true rfl) ⟨Nat.le_of_ble_eq_true rfl, Nat.le_of_ble_eq_true rfl⟩ ⟨Nat.le_of_ble_eq_true rfl, Nat.le_of_ble_eq_true rfl⟩ (fun zr31 zu31 H locs hw31 hP9 hD9 hS9 => ?_)
            clear hP hD hS
            refine reW [wO p0 6 [.ref p1, .ref er, .ref ro, .ref p2, .ref p3, .ref p4, .ref h0, .ref s0, .int (nI ch)], wI (cy 1) p3 4 (fne), wI (cy 1) h1 4 (fc), wO s0 7 [.ref s1, .ref s2, .int (nI sl), .int spl, .int svo, .int swi, .int sch], (er, .inl (cy 4, 4, .inr (.inr (.inr (.inr (eF (ea 0) (ea 1) (ea 2) (ea 3))))))), wO (ea 0) 2 [.ref (eg 0), .ref (ef 0), .int (et 0), .int (nI (el 0)), .int (nI (ei 0))], wI (cy 1) (eg 0) 10 (gc 0), wI (cy 1) (ef 0) 7 (xc 0), wI (cy 1) (ef 1) 7 (xc 1), wO (ea 2) 2 [.ref (eg 2), .ref (ef 2), .int (et 2), .int (nI (el 2)), .int (nI (ei 2))], wI (cy 1) (eg 2) 10 (gc 2), wI (cy 1) (ef 2) 7 (xc 2), wO (ea 3) 2 [.ref (eg 3), .ref (ef 3), .int (et 3), .int (nI (el 3)), .int (nI (ei 3))], wI (cy 1) (eg 3) 10 (gc 3), wI (cy 1) (ef 3) 7 (xc 3), wO (ea 1) 2 [.ref (eg 1), .ref (ef 1), .int (et 1), .int (nI ((el 1))), .int (nI ((ei 1)))], wI (cy 1) (eg 1) 10 (gc 1), wI (cy 1) s1 10 (fw), wO h0 4 [.ref h1, .ref h2, .ref h3, .ref h4, .ref h5, .ref h6, .ref h7, .ref h8, .ref h9, .ref h10, .ref h11, .int ys, hv1, hv2, hv3, hv4], wI (cy 1) h7 48 (fx), wI (cy 1) ro 20 (fr2_23)] hP9 hD9 hS9 (fun hP hD hS => ?_)
            clear hP9 hD9 hS9
            refine W.widen (k := 0) (n := 0) (Nat.le_of_ble_eq_true rfl) (Nat.le_of_ble_eq_true rfl) ?_
            replace hw31 : (zr31 = 0 ∨ zr31 = 1) := hw31
            have f_32 := hw31
            exact x_zret hQ hx hb hr hlocks hK hP hD hS (narB f_32) dX6_isYesNow_58 fr2_23 (⟨f_32, f_28⟩) [0, 1, 18, 2, 19, 3, 17, 20, 4, 5, 6, 7, 15, 16, 8, 9, 10, 11, 12, 13, 14] (by decide +kernel) rfl (Nat.le_of_ble_eq_true rfl) (Nat.le_of_ble_eq_true rfl)
        · subst hsp
          refine va_aldq hx hb hK hP 8 4 rfl rfl (by unfold vp_in; decide) dX6_isYesNow_25 ?_
          refine W.eq (g2 := F0 m 26 ls [.ref (ea 2)]) rfl ?_
          refine lv_aload_n hx hb dX6_isYesNow_26 rfl (lv_at hl 1 rfl) ?_
          refine va_get (D := D) (ci := 6) (v := .ref s0) (C := RX6) (T := TX6) (N := 9) hx hb hg i_X6 hown hK hP 0 rfl rfl 7 (by decide) (hg _ m_592) (fun _ h9 => h9) rfl dX6_isYesNow_27 ?_
          refine va_get (D := D) (ci := 7) (v := .ref s1) (C := RX7) (T := TX7) (N := 7) hx hb hg i_X7 hown hK hP 5 rfl rfl 0 (by decide) (hg _ m_622) (fun _ h9 => h9) rfl dX6_isYesNow_30 ?_
          refine lv_aload_n hx hb dX6_isYesNow_33 rfl (lv_at hl 1 rfl) ?_
          refine va_get (D := D) (ci := 6) (v := .ref ro) (C := RX6) (T := TX6) (N := 9) hx hb hg i_X6 hown hK hP 0 rfl rfl 2 (by decide) (hg _ m_587) (fun _ h9 => h9) rfl dX6_isYesNow_34 ?_
          refine lv_iconst (v := 0) hx hb dX6_isYesNow_37 (by decide) ?_
          refine x_callVi (q := (RX2, TX2, 5)) (ci := 2) (q0 := 0) (wr := [wO p0 6 [.ref p1, .ref er, .ref ro, .ref p2, .ref p3, .ref p4, .ref h0, .ref s0, .int (nI ch)], wI (cy 1) p3 4 (fne), wO h0 4 [.ref h1, .ref h2, .ref h3, .ref h4, .ref h5, .ref h6, .ref h7, .ref h8, .ref h9, .ref h10, .ref h11, .int ys, hv1, hv2, hv3, hv4], wI (cy 1) h1 4 (fc), wI (cy 1) h7 48 (fx), wO s0 7 [.ref s1, .ref s2, .int (nI sl), .int spl, .int svo, .int swi, .int sch], (er, .inl (cy 4, 4, .inr (.inr (.inr (.inr (eF (ea 0) (ea 1) (ea 2) (ea 3))))))), wO (ea 0) 2 [.ref (eg 0), .ref (ef 0), .int (et 0), .int (nI (el 0)), .int (nI (ei 0))], wI (cy 1) (eg 0) 10 (gc 0), wI (cy 1) (ef 0) 7 (xc 0), wO (ea 1) 2 [.ref (eg 1), .ref (ef 1), .int (et 1), .int (nI (el 1)), .int (nI (ei 1))], wI (cy 1) (eg 1) 10 (gc 1), wI (cy 1) (ef 1) 7 (xc 1), wI (cy 1) (ef 2) 7 (xc 2), wO (ea 3) 2 [.ref (eg 3), .ref (ef 3), .int (et 3), .int (nI (el 3)), .int (nI (ei 3))], wI (cy 1) (eg 3) 10 (gc 3), wI (cy 1) (ef 3) 7 (xc 3)]) (rest := []) ⟨hx, hb, hml, hown, hg, hl.1⟩ k_X6_117 (s_send l D cy (ea 2) (eg 2) (ef 2) (et 2) ((el 2)) ((ei 2)) (gc 2) s1 fw ro fa1_5 0 (by omega) (hsw) (ha2_5) (by omega)) E0_blind hK hP hD hS hA [15, 16, 6, 7] [0, 1, 2, 3, 4, 5, 8, 9, 10, 11, 12, 13, 14, 17, 18, 19, 20] ⟨rfl, rfl, by decide +kernel, by decide +kernel, by decide +kernel⟩ rfl rfl (fun _ _ _ => trivial) dX6_isYesNow_38 rfl rfl (Nat.le_of_ble_eq_true rfl) ⟨Nat.le_of_ble_eq_true rfl, Nat.le_of_ble_eq_true rfl⟩ ⟨Nat.le_of_ble_eq_true rfl, Nat.le_of_ble_eq_true rfl⟩ (fun zr33 zu33 H locs hw33 hP9 hD9 hS9 => ?_)
          clear hP hD hS
          obtain ⟨fr2_34, k_35⟩ := zu33
          refine reW [wO p0 6 [.ref p1, .ref er, .ref ro, .ref p2, .ref p3, .ref p4, .ref h0, .ref s0, .int (nI ch)], wI (cy 1) p3 4 (fne), wO h0 4 [.ref h1, .ref h2, .ref h3, .ref h4, .ref h5, .ref h6, .ref h7, .ref h8, .ref h9, .ref h10, .ref h11, .int ys, hv1, hv2, hv3, hv4], wI (cy 1) h1 4 (fc), wI (cy 1) h7 48 (fx), wO s0 7 [.ref s1, .ref s2, .int (nI sl), .int spl, .int svo, .int swi, .int sch], (er, .inl (cy 4, 4, .inr (.inr (.inr (.inr (eF (ea 0) (ea 1) (ea 2) (ea 3))))))), wO (ea 0) 2 [.ref (eg 0), .ref (ef 0), .int (et 0), .int (nI (el 0)), .int (nI (ei 0))], wI (cy 1) (eg 0) 10 (gc 0), wI (cy 1) (ef 0) 7 (xc 0), wO (ea 1) 2 [.ref (eg 1), .ref (ef 1), .int (et 1), .int (nI (el 1)), .int (nI (ei 1))], wI (cy 1) (eg 1) 10 (gc 1), wI (cy 1) (ef 1) 7 (xc 1), wI (cy 1) (ef 2) 7 (xc 2), wO (ea 3) 2 [.ref (eg 3), .ref (ef 3), .int (et 3), .int (nI (el 3)), .int (nI (ei 3))], wI (cy 1) (eg 3) 10 (gc 3), wI (cy 1) (ef 3) 7 (xc 3), wO (ea 2) 2 [.ref (eg 2), .ref (ef 2), .int (et 2), .int (nI ((el 2))), .int (nI ((ei 2)))], wI (cy 1) (eg 2) 10 (gc 2), wI (cy 1) s1 10 (fw), wI (cy 1) ro 20 (fr2_34)] hP9 hD9 hS9 (fun hP hD hS => ?_)
          clear hP9 hD9 hS9
          refine W.widen (k := 0) (n := 0) (Nat.le_of_ble_eq_true rfl) (Nat.le_of_ble_eq_true rfl) ?_
          replace hw33 : (zr33 = nI k_35) ∧ (k_35 ≤ 20) ∧ (k_35 ≤ 0 + ((el 2))) ∧ (rng fr2_34 20 7) := hw33
          obtain ⟨f_36, f_37, f_38, f_39⟩ := hw33
          subst f_36
          refine lv_istore_n (lv' := [(2, .int (nI k_35)), (1, .int (nI i5)), (0, .ref p0)]) hx hb dX6_isYesNow_41 rfl hl (by decide) rfl (fun ls hl => ?_)
          refine lv_iload_n hx hb dX6_isYesNow_42 rfl (lv_at hl 0 rfl) ?_
          refine lv_if_le (tgt := 59) hx hb dX6_isYesNow_43 (by decide) (fun c_40 => ?_) (fun c_40 => ?_)
          · have q_41 : k_35 ≤ 0 := q_le (a := k_35) (b := 0) rfl rfl (by omega) (by omega) c_40
            refine lv_iinc (v := nI (i5 + 1)) (lv' := [(1, .int (nI (i5 + 1))), (2, .int (nI k_35)), (0, .ref p0)]) hx hb dX6_isYesNow_59 hl (k := 1) rfl (nI_add i5 1) (by decide) rfl (fun ls hl => ?_)
            refine lv_goto (tgt := 2) hx hb dX6_isYesNow_62 (by decide) ?_
            exact ih5  ((i5 + 1)) fr2_34 f_39 (by omega) (by omega) _ _ (hP.sub [0, 1, 2, 3, 4, 5, 19, 20, 6, 7, 8, 9, 10, 11, 12, 17, 18, 13, 14, 15, 16] rfl) (hD.sub [0, 1, 2, 3, 4, 5, 19, 20, 6, 7, 8, 9, 10, 11, 12, 17, 18, 13, 14, 15, 16] (by decide +kernel) rfl) hS ls (lv_sub hl [0, 2] rfl)
          · have q_41 : 0 < k_35 := q_nle (a := k_35) (b := 0) rfl rfl (by omega) (by omega) c_40
            refine lv_aload_n hx hb dX6_isYesNow_46 rfl (lv_at hl 2 rfl) ?_
            refine va_get (D := D) (ci := 6) (v := .ref h0) (C := RX6) (T := TX6) (N := 9) hx hb hg i_X6 hown hK hP 0 rfl rfl 6 (by decide) (hg _ m_591) (fun _ h9 => h9) rfl dX6_isYesNow_47 ?_
            refine lv_aload_n hx hb dX6_isYesNow_50 rfl (lv_at hl 2 rfl) ?_
            refine va_get (D := D) (ci := 6) (v := .ref ro) (C := RX6) (T := TX6) (N := 9) hx hb hg i_X6 hown hK hP 0 rfl rfl 2 (by decide) (hg _ m_587) (fun _ h9 => h9) rfl dX6_isYesNow_51 ?_
            refine lv_iload_n hx hb dX6_isYesNow_54 rfl (lv_at hl 0 rfl) ?_
            refine x_callVi (q := (RX4, TX4, 16)) (ci := 4) (q0 := 0) (wr := [wO p0 6 [.ref p1, .ref er, .ref ro, .ref p2, .ref p3, .ref p4, .ref h0, .ref s0, .int (nI ch)], wI (cy 1) p3 4 (fne), wI (cy 1) h1 4 (fc), wO s0 7 [.ref s1, .ref s2, .int (nI sl), .int spl, .int svo, .int swi, .int sch], (er, .inl (cy 4, 4, .inr (.inr (.inr (.inr (eF (ea 0) (ea 1) (ea 2) (ea 3))))))), wO (ea 0) 2 [.ref (eg 0), .ref (ef 0), .int (et 0), .int (nI (el 0)), .int (nI (ei 0))], wI (cy 1) (eg 0) 10 (gc 0), wI (cy 1) (ef 0) 7 (xc 0), wO (ea 1) 2 [.ref (eg 1), .ref (ef 1), .int (et 1), .int (nI (el 1)), .int (nI (ei 1))], wI (cy 1) (eg 1) 10 (gc 1), wI (cy 1) (ef 1) 7 (xc 1), wI (cy 1) (ef 2) 7 (xc 2), wO (ea 3) 2 [.ref (eg 3), .ref (ef 3), .int (et 3), .int (nI (el 3)), .int (nI (ei 3))], wI (cy 1) (eg 3) 10 (gc 3), wI (cy 1) (ef 3) 7 (xc 3), wO (ea 2) 2 [.ref (eg 2), .ref (ef 2), .int (et 2), .int (nI ((el 2))), .int (nI ((ei 2)))], wI (cy 1) (eg 2) 10 (gc 2), wI (cy 1) s1 10 (fw)]) (rest := []) ⟨hx, hb, hml, hown, hg, hl.1⟩ k_X6_121 (s_isYes l D cy h0 h1 h2 h3 h4 h5 h6 h7 h8 h9 h10 h11 hv1 hv2 hv3 hv4 ys fx ro fr2_34 k_35 (hnx) (f_39) (by omega)) E0_blind hK hP hD hS hA [2, 4, 20] [0, 1, 3, 5, 6, 7, 8, 9, 10, 11, 12, 13, 14, 15, 16, 17, 18, 19] ⟨rfl, rfl, by decide +kernel, by decide +kernel, by decide +kernel⟩ rfl rfl (fun _ _ _ => trivial) dX6_isYesNow_55 rfl rfl (Nat.le_of_ble_eq_true rfl) ⟨Nat.le_of_ble_eq_true rfl, Nat.le_of_ble_eq_true rfl⟩ ⟨Nat.le_of_ble_eq_true rfl, Nat.le_of_ble_eq_true rfl⟩ (fun zr42 zu42 H locs hw42 hP9 hD9 hS9 => ?_)
            clear hP hD hS
            refine reW [wO p0 6 [.ref p1, .ref er, .ref ro, .ref p2, .ref p3, .ref p4, .ref h0, .ref s0, .int (nI ch)], wI (cy 1) p3 4 (fne), wI (cy 1) h1 4 (fc), wO s0 7 [.ref s1, .ref s2, .int (nI sl), .int spl, .int svo, .int swi, .int sch], (er, .inl (cy 4, 4, .inr (.inr (.inr (.inr (eF (ea 0) (ea 1) (ea 2) (ea 3))))))), wO (ea 0) 2 [.ref (eg 0), .ref (ef 0), .int (et 0), .int (nI (el 0)), .int (nI (ei 0))], wI (cy 1) (eg 0) 10 (gc 0), wI (cy 1) (ef 0) 7 (xc 0), wO (ea 1) 2 [.ref (eg 1), .ref (ef 1), .int (et 1), .int (nI (el 1)), .int (nI (ei 1))], wI (cy 1) (eg 1) 10 (gc 1), wI (cy 1) (ef 1) 7 (xc 1), wI (cy 1) (ef 2) 7 (xc 2), wO (ea 3) 2 [.ref (eg 3), .ref (ef 3), .int (et 3), .int (nI (el 3)), .int (nI (ei 3))], wI (cy 1) (eg 3) 10 (gc 3), wI (cy 1) (ef 3) 7 (xc 3), wO (ea 2) 2 [.ref (eg 2), .ref (ef 2), .int (et 2), .int (nI ((el 2))), .int (nI ((ei 2)))], wI (cy 1) (eg 2) 10 (gc 2), wI (cy 1) s1 10 (fw), wO h0 4 [.ref h1, .ref h2, .ref h3, .ref h4, .ref h5, .ref h6, .ref h7, .ref h8, .ref h9, .ref h10, .ref h11, .int ys, hv1, hv2, hv3, hv4], wI (cy 1) h7 48 (fx), wI (cy 1) ro 20 (fr2_34)] hP9 hD9 hS9 (fun hP hD hS => ?_)
            clear hP9 hD9 hS9
            refine W.widen (k := 0) (n := 0) (Nat.le_of_ble_eq_true rfl) (Nat.le_of_ble_eq_true rfl) ?_
            replace hw42 : (zr42 = 0 ∨ zr42 = 1) := hw42
            have f_43 := hw42
            exact x_zret hQ hx hb hr hlocks hK hP hD hS (narB f_43) dX6_isYesNow_58 fr2_34 (⟨f_43, f_39⟩) [0, 1, 18, 2, 19, 3, 17, 20, 4, 5, 6, 7, 8, 9, 10, 15, 16, 11, 12, 13, 14] (by decide +kernel) rfl (Nat.le_of_ble_eq_true rfl) (Nat.le_of_ble_eq_true rfl)
        · subst hsp
          refine va_aldq hx hb hK hP 8 4 rfl rfl (by unfold vp_in; decide) dX6_isYesNow_25 ?_
          refine W.eq (g2 := F0 m 26 ls [.ref (ea 3)]) rfl ?_
          refine lv_aload_n hx hb dX6_isYesNow_26 rfl (lv_at hl 1 rfl) ?_
          refine va_get (D := D) (ci := 6) (v := .ref s0) (C := RX6) (T := TX6) (N := 9) hx hb hg i_X6 hown hK hP 0 rfl rfl 7 (by decide) (hg _ m_592) (fun _ h9 => h9) rfl dX6_isYesNow_27 ?_
          refine va_get (D := D) (ci := 7) (v := .ref s1) (C := RX7) (T := TX7) (N := 7) hx hb hg i_X7 hown hK hP 5 rfl rfl 0 (by decide) (hg _ m_622) (fun _ h9 => h9) rfl dX6_isYesNow_30 ?_
          refine lv_aload_n hx hb dX6_isYesNow_33 rfl (lv_at hl 1 rfl) ?_
          refine va_get (D := D) (ci := 6) (v := .ref ro) (C := RX6) (T := TX6) (N := 9) hx hb hg i_X6 hown hK hP 0 rfl rfl 2 (by decide) (hg _ m_587) (fun _ h9 => h9) rfl dX6_isYesNow_34 ?_
          refine lv_iconst (v := 0) hx hb dX6_isYesNow_37 (by decide) ?_
          refine x_callVi (q := (RX2, TX2, 5)) (ci := 2) (q0 := 0) (wr := [wO p0 6 [.ref p1, .ref er, .ref ro, .ref p2, .ref p3, .ref p4, .ref h0, .ref s0, .int (nI ch)], wI (cy 1) p3 4 (fne), wO h0 4 [.ref h1, .ref h2, .ref h3, .ref h4, .ref h5, .ref h6, .ref h7, .ref h8, .ref h9, .ref h10, .ref h11, .int ys, hv1, hv2, hv3, hv4], wI (cy 1) h1 4 (fc), wI (cy 1) h7 48 (fx), wO s0 7 [.ref s1, .ref s2, .int (nI sl), .int spl, .int svo, .int swi, .int sch], (er, .inl (cy 4, 4, .inr (.inr (.inr (.inr (eF (ea 0) (ea 1) (ea 2) (ea 3))))))), wO (ea 0) 2 [.ref (eg 0), .ref (ef 0), .int (et 0), .int (nI (el 0)), .int (nI (ei 0))], wI (cy 1) (eg 0) 10 (gc 0), wI (cy 1) (ef 0) 7 (xc 0), wO (ea 1) 2 [.ref (eg 1), .ref (ef 1), .int (et 1), .int (nI (el 1)), .int (nI (ei 1))], wI (cy 1) (eg 1) 10 (gc 1), wI (cy 1) (ef 1) 7 (xc 1), wO (ea 2) 2 [.ref (eg 2), .ref (ef 2), .int (et 2), .int (nI (el 2)), .int (nI (ei 2))], wI (cy 1) (eg 2) 10 (gc 2), wI (cy 1) (ef 2) 7 (xc 2), wI (cy 1) (ef 3) 7 (xc 3)]) (rest := []) ⟨hx, hb, hml, hown, hg, hl.1⟩ k_X6_117 (s_send l D cy (ea 3) (eg 3) (ef 3) (et 3) ((el 3)) ((ei 3)) (gc 3) s1 fw ro fa1_5 0 (by omega) (hsw) (ha2_5) (by omega)) E0_blind hK hP hD hS hA [18, 19, 6, 7] [0, 1, 2, 3, 4, 5, 8, 9, 10, 11, 12, 13, 14, 15, 16, 17, 20] ⟨rfl, rfl, by decide +kernel, by decide +kernel, by decide +kernel⟩ rfl rfl (fun _ _ _ => trivial) dX6_isYesNow_38 rfl rfl (Nat.le_of_ble_eq_true rfl) ⟨Nat.le_of_ble_eq_true rfl, Nat.le_of_ble_eq_true rfl⟩ ⟨Nat.le_of_ble_eq_true rfl, Nat.le_of_ble_eq_true rfl⟩ (fun zr44 zu44 H locs hw44 hP9 hD9 hS9 => ?_)
          clear hP hD hS
          obtain ⟨fr2_45, k_46⟩ := zu44
          refine reW [wO p0 6 [.ref p1, .ref er, .ref ro, .ref p2, .ref p3, .ref p4, .ref h0, .ref s0, .int (nI ch)], wI (cy 1) p3 4 (fne), wO h0 4 [.ref h1, .ref h2, .ref h3, .ref h4, .ref h5, .ref h6, .ref h7, .ref h8, .ref h9, .ref h10, .ref h11, .int ys, hv1, hv2, hv3, hv4], wI (cy 1) h1 4 (fc), wI (cy 1) h7 48 (fx), wO s0 7 [.ref s1, .ref s2, .int (nI sl), .int spl, .int svo, .int swi, .int sch], (er, .inl (cy 4, 4, .inr (.inr (.inr (.inr (eF (ea 0) (ea 1) (ea 2) (ea 3))))))), wO (ea 0) 2 [.ref (eg 0), .ref (ef 0), .int (et 0), .int (nI (el 0)), .int (nI (ei 0))], wI (cy 1) (eg 0) 10 (gc 0), wI (cy 1) (ef 0) 7 (xc 0), wO (ea 1) 2 [.ref (eg 1), .ref (ef 1), .int (et 1), .int (nI (el 1)), .int (nI (ei 1))], wI (cy 1) (eg 1) 10 (gc 1), wI (cy 1) (ef 1) 7 (xc 1), wO (ea 2) 2 [.ref (eg 2), .ref (ef 2), .int (et 2), .int (nI (el 2)), .int (nI (ei 2))], wI (cy 1) (eg 2) 10 (gc 2), wI (cy 1) (ef 2) 7 (xc 2), wI (cy 1) (ef 3) 7 (xc 3), wO (ea 3) 2 [.ref (eg 3), .ref (ef 3), .int (et 3), .int (nI ((el 3))), .int (nI ((ei 3)))], wI (cy 1) (eg 3) 10 (gc 3), wI (cy 1) s1 10 (fw), wI (cy 1) ro 20 (fr2_45)] hP9 hD9 hS9 (fun hP hD hS => ?_)
          clear hP9 hD9 hS9
          refine W.widen (k := 0) (n := 0) (Nat.le_of_ble_eq_true rfl) (Nat.le_of_ble_eq_true rfl) ?_
          replace hw44 : (zr44 = nI k_46) ∧ (k_46 ≤ 20) ∧ (k_46 ≤ 0 + ((el 3))) ∧ (rng fr2_45 20 7) := hw44
          obtain ⟨f_47, f_48, f_49, f_50⟩ := hw44
          subst f_47
          refine lv_istore_n (lv' := [(2, .int (nI k_46)), (1, .int (nI i5)), (0, .ref p0)]) hx hb dX6_isYesNow_41 rfl hl (by decide) rfl (fun ls hl => ?_)
          refine lv_iload_n hx hb dX6_isYesNow_42 rfl (lv_at hl 0 rfl) ?_
          refine lv_if_le (tgt := 59) hx hb dX6_isYesNow_43 (by decide) (fun c_51 => ?_) (fun c_51 => ?_)
          · have q_52 : k_46 ≤ 0 := q_le (a := k_46) (b := 0) rfl rfl (by omega) (by omega) c_51
            refine lv_iinc (v := nI (i5 + 1)) (lv' := [(1, .int (nI (i5 + 1))), (2, .int (nI k_46)), (0, .ref p0)]) hx hb dX6_isYesNow_59 hl (k := 1) rfl (nI_add i5 1) (by decide) rfl (fun ls hl => ?_)
            refine lv_goto (tgt := 2) hx hb dX6_isYesNow_62 (by decide) ?_
            exact ih5  ((i5 + 1)) fr2_45 f_50 (by omega) (by omega) _ _ (hP.sub [0, 1, 2, 3, 4, 5, 19, 20, 6, 7, 8, 9, 10, 11, 12, 13, 14, 15, 17, 18, 16] rfl) (hD.sub [0, 1, 2, 3, 4, 5, 19, 20, 6, 7, 8, 9, 10, 11, 12, 13, 14, 15, 17, 18, 16] (by decide +kernel) rfl) hS ls (lv_sub hl [0, 2] rfl)
          · have q_52 : 0 < k_46 := q_nle (a := k_46) (b := 0) rfl rfl (by omega) (by omega) c_51
            refine lv_aload_n hx hb dX6_isYesNow_46 rfl (lv_at hl 2 rfl) ?_
            refine va_get (D := D) (ci := 6) (v := .ref h0) (C := RX6) (T := TX6) (N := 9) hx hb hg i_X6 hown hK hP 0 rfl rfl 6 (by decide) (hg _ m_591) (fun _ h9 => h9) rfl dX6_isYesNow_47 ?_
            refine lv_aload_n hx hb dX6_isYesNow_50 rfl (lv_at hl 2 rfl) ?_
            refine va_get (D := D) (ci := 6) (v := .ref ro) (C := RX6) (T := TX6) (N := 9) hx hb hg i_X6 hown hK hP 0 rfl rfl 2 (by decide) (hg _ m_587) (fun _ h9 => h9) rfl dX6_isYesNow_51 ?_
            refine lv_iload_n hx hb dX6_isYesNow_54 rfl (lv_at hl 0 rfl) ?_
            refine x_callVi (q := (RX4, TX4, 16)) (ci := 4) (q0 := 0) (wr := [wO p0 6 [.ref p1, .ref er, .ref ro, .ref p2, .ref p3, .ref p4, .ref h0, .ref s0, .int (nI ch)], wI (cy 1) p3 4 (fne), wI (cy 1) h1 4 (fc), wO s0 7 [.ref s1, .ref s2, .int (nI sl), .int spl, .int svo, .int swi, .int sch], (er, .inl (cy 4, 4, .inr (.inr (.inr (.inr (eF (ea 0) (ea 1) (ea 2) (ea 3))))))), wO (ea 0) 2 [.ref (eg 0), .ref (ef 0), .int (et 0), .int (nI (el 0)), .int (nI (ei 0))], wI (cy 1) (eg 0) 10 (gc 0), wI (cy 1) (ef 0) 7 (xc 0), wO (ea 1) 2 [.ref (eg 1), .ref (ef 1), .int (et 1), .int (nI (el 1)), .int (nI (ei 1))], wI (cy 1) (eg 1) 10 (gc 1), wI (cy 1) (ef 1) 7 (xc 1), wO (ea 2) 2 [.ref (eg 2), .ref (ef 2), .int (et 2), .int (nI (el 2)), .int (nI (ei 2))], wI (cy 1) (eg 2) 10 (gc 2), wI (cy 1) (ef 2) 7 (xc 2), wI (cy 1) (ef 3) 7 (xc 3), wO (ea 3) 2 [.ref (eg 3), .ref (ef 3), .int (et 3), .int (nI ((el 3))), .int (nI ((ei 3)))], wI (cy 1) (eg 3) 10 (gc 3), wI (cy 1) s1 10 (fw)]) (rest := []) ⟨hx, hb, hml, hown, hg, hl.1⟩ k_X6_121 (s_isYes l D cy h0 h1 h2 h3 h4 h5 h6 h7 h8 h9 h10 h11 hv1 hv2 hv3 hv4 ys fx ro fr2_45 k_46 (hnx) (f_50) (by omega)) E0_blind hK hP hD hS hA [2, 4, 20] [0, 1, 3, 5, 6, 7, 8, 9, 10, 11, 12, 13, 14, 15, 16, 17, 18, 19] ⟨rfl, rfl, by decide +kernel, by decide +kernel, by decide +kernel⟩ rfl rfl (fun _ _ _ => trivial) dX6_isYesNow_55 rfl rfl (Nat.le_of_ble_eq_true rfl) ⟨Nat.le_of_ble_eq_true rfl, Nat.le_of_ble_eq_true rfl⟩ ⟨Nat.le_of_ble_eq_true rfl, Nat.le_of_ble_eq_true rfl⟩ (fun zr53 zu53 H locs hw53 hP9 hD9 hS9 => ?_)
            clear hP hD hS
            refine reW [wO p0 6 [.ref p1, .ref er, .ref ro, .ref p2, .ref p3, .ref p4, .ref h0, .ref s0, .int (nI ch)], wI (cy 1) p3 4 (fne), wI (cy 1) h1 4 (fc), wO s0 7 [.ref s1, .ref s2, .int (nI sl), .int spl, .int svo, .int swi, .int sch], (er, .inl (cy 4, 4, .inr (.inr (.inr (.inr (eF (ea 0) (ea 1) (ea 2) (ea 3))))))), wO (ea 0) 2 [.ref (eg 0), .ref (ef 0), .int (et 0), .int (nI (el 0)), .int (nI (ei 0))], wI (cy 1) (eg 0) 10 (gc 0), wI (cy 1) (ef 0) 7 (xc 0), wO (ea 1) 2 [.ref (eg 1), .ref (ef 1), .int (et 1), .int (nI (el 1)), .int (nI (ei 1))], wI (cy 1) (eg 1) 10 (gc 1), wI (cy 1) (ef 1) 7 (xc 1), wO (ea 2) 2 [.ref (eg 2), .ref (ef 2), .int (et 2), .int (nI (el 2)), .int (nI (ei 2))], wI (cy 1) (eg 2) 10 (gc 2), wI (cy 1) (ef 2) 7 (xc 2), wI (cy 1) (ef 3) 7 (xc 3), wO (ea 3) 2 [.ref (eg 3), .ref (ef 3), .int (et 3), .int (nI ((el 3))), .int (nI ((ei 3)))], wI (cy 1) (eg 3) 10 (gc 3), wI (cy 1) s1 10 (fw), wO h0 4 [.ref h1, .ref h2, .ref h3, .ref h4, .ref h5, .ref h6, .ref h7, .ref h8, .ref h9, .ref h10, .ref h11, .int ys, hv1, hv2, hv3, hv4], wI (cy 1) h7 48 (fx), wI (cy 1) ro 20 (fr2_45)] hP9 hD9 hS9 (fun hP hD hS => ?_)
            clear hP9 hD9 hS9
            refine W.widen (k := 0) (n := 0) (Nat.le_of_ble_eq_true rfl) (Nat.le_of_ble_eq_true rfl) ?_
            replace hw53 : (zr53 = 0 ∨ zr53 = 1) := hw53
            have f_54 := hw53
            exact x_zret hQ hx hb hr hlocks hK hP hD hS (narB f_54) dX6_isYesNow_58 fr2_45 (⟨f_54, f_50⟩) [0, 1, 18, 2, 19, 3, 17, 20, 4, 5, 6, 7, 8, 9, 10, 11, 12, 13, 15, 16, 14] (by decide +kernel) rfl (Nat.le_of_ble_eq_true rfl) (Nat.le_of_ble_eq_true rfl)
  exact loop5 _ 0 fr hrw (by omega) (Nat.le_refl _) _ _ (hP.sub [0, 1, 2, 3, 4, 5, 6, 7, 8, 9, 10, 11, 12, 13, 14, 15, 16, 17, 18, 19, 20] rfl) (hD.sub [0, 1, 2, 3, 4, 5, 6, 7, 8, 9, 10, 11, 12, 13, 14, 15, 16, 17, 18, 19, 20] (by decide +kernel) rfl) hS ls (lv_sub hl [0, 1] rfl)
theorem gdX6_chooseWords_0 : decode cX6_chooseWords 0 = .ok (.iload_n 1, 1) ∧ decode cX6_chooseWords 1 = .ok (.aload_n 0, 1) ∧ decode cX6_chooseWords 2 = .ok (.getfield 66, 3) ∧ decode cX6_chooseWords 5 = .ok (.if_icmp .ge 8, 3) ∧ decode cX6_chooseWords 13 = .ok (.aload_n 0, 1) ∧ decode cX6_chooseWords 14 = .ok (.invokevirtual 113, 3) := by decide +kernel
theorem dX6_chooseWords_0 : decode cX6_chooseWords 0 = .ok (.iload_n 1, 1) := gdX6_chooseWords_0.1
theorem dX6_chooseWords_1 : decode cX6_chooseWords 1 = .ok (.aload_n 0, 1) := gdX6_chooseWords_0.2.1
theorem dX6_chooseWords_2 : decode cX6_chooseWords 2 = .ok (.getfield 66, 3) := gdX6_chooseWords_0.2.2.1
theorem dX6_chooseWords_5 : decode cX6_chooseWords 5 = .ok (.if_icmp .ge 8, 3) := gdX6_chooseWords_0.2.2.2.1
theorem dX6_chooseWords_13 : decode cX6_chooseWords 13 = .ok (.aload_n 0, 1) := gdX6_chooseWords_0.2.2.2.2.1
theorem dX6_chooseWords_14 : decode cX6_chooseWords 14 = .ok (.invokevirtual 113, 3) := gdX6_chooseWords_0.2.2.2.2.2
theorem k_X6_113 : xV RX6 RX6 113 yX6_isYesNow cX6_isYesNow 3 (some .boolean) 0 := ⟨⟨m_1274, m_1276, m_55, m_144, m_1277⟩, rfl, by decide, by decide, by decide +kernel⟩
theorem gdX6_chooseWords_17 : decode cX6_chooseWords 17 = .ok (.ireturn, 1) ∧ decode cX6_chooseWords 8 = .ok (.iload_n 1, 1) ∧ decode cX6_chooseWords 9 = .ok (.iconst 3, 1) ∧ decode cX6_chooseWords 10 = .ok (.if_icmp .lt 8, 3) := by decide +kernel
theorem dX6_chooseWords_17 : decode cX6_chooseWords 17 = .ok (.ireturn, 1) := gdX6_chooseWords_17.1
theorem dX6_chooseWords_8 : decode cX6_chooseWords 8 = .ok (.iload_n 1, 1) := gdX6_chooseWords_17.2.1
theorem dX6_chooseWords_9 : decode cX6_chooseWords 9 = .ok (.iconst 3, 1) := gdX6_chooseWords_17.2.2.1
theorem dX6_chooseWords_10 : decode cX6_chooseWords 10 = .ok (.if_icmp .lt 8, 3) := gdX6_chooseWords_17.2.2.2
set_option maxHeartbeats 1000000 in
set_option maxRecDepth 100000 in
theorem s_chooseWords3 (l : Launch) (D : va_G) (cy : Nat → ClassId) (p0 : Nat) (p1 : Nat) (p2 : Nat) (p3 : Nat) (p4 : Nat) (er : Nat) (ro : Nat) (ch : Nat) (fne : Nat → Int32) (ffd : Nat → Int32) (fpc : Nat → Int32) (h0 : Nat) (h1 : Nat) (h2 : Nat) (h3 : Nat) (h4 : Nat) (h5 : Nat) (h6 : Nat) (h7 : Nat) (h8 : Nat) (h9 : Nat) (h10 : Nat) (h11 : Nat) (hv1 : Value) (hv2 : Value) (hv3 : Value) (hv4 : Value) (ys : Int32) (fc : Nat → Int32) (c0 : Nat) (c1 : Nat) (c2 : Nat) (c3 : Nat) (fx : Nat → Int32) (s0 : Nat) (s1 : Nat) (s2 : Nat) (sl : Nat) (spl : Int32) (svo : Int32) (swi : Int32) (sch : Int32) (fw : Nat → Int32) (fr : Nat → Int32) (ea : Nat → Nat) (eg : Nat → Nat) (ef : Nat → Nat) (et : Nat → Int32) (el : Nat → Nat) (ei : Nat → Nat) (gc : Nat → Nat → Int32) (xc : Nat → Nat → Int32) (hne : nOK fne c1) (hpc : rng fpc 3 9) (hch : ch ≤ 3) (hcn : cntOK fc c0 c1 c2 c3) (hc0 : c0 ≤ 8) (hc1 : c1 ≤ 4) (hc2 : c2 ≤ 4) (hc3 : c3 ≤ 6) (hnx : rng fx 48 5) (hel : ∀ i9, i9 < 4 → el i9 ≤ 10) (hsl : sl ≤ 10) (hsw : rng fw 10 7) (hrw : rng fr 20 7) : XMi l D (tyL cy) E0 yX6_chooseWords cX6_chooseWords 5 (some .boolean) (rmk 5 0 0) [.ref p0, .int 3] [wO p0 6 [.ref p1, .ref er, .ref ro, .ref p2, .ref p3, .ref p4, .ref h0, .ref s0, .int (nI ch)], wI (cy 1) p3 4 (fne), wI (cy 1) p1 3 (ffd), wI (cy 1) p2 3 (fpc), wO h0 4 [.ref h1, .ref h2, .ref h3, .ref h4, .ref h5, .ref h6, .ref h7, .ref h8, .ref h9, .ref h10, .ref h11, .int ys, hv1, hv2, hv3, hv4], wI (cy 1) h1 4 (fc), wI (cy 1) h7 48 (fx), wO s0 7 [.ref s1, .ref s2, .int (nI sl), .int spl, .int svo, .int swi, .int sch], wI (cy 1) s1 10 (fw), wI (cy 1) ro 20 (fr), (er, .inl (cy 4, 4, .inr (.inr (.inr (.inr (eF (ea 0) (ea 1) (ea 2) (ea 3))))))), wO (ea 0) 2 [.ref (eg 0), .ref (ef 0), .int (et 0), .int (nI (el 0)), .int (nI (ei 0))], wI (cy 1) (eg 0) 10 (gc 0), wI (cy 1) (ef 0) 7 (xc 0), wO (ea 1) 2 [.ref (eg 1), .ref (ef 1), .int (et 1), .int (nI (el 1)), .int (nI (ei 1))], wI (cy 1) (eg 1) 10 (gc 1), wI (cy 1) (ef 1) 7 (xc 1), wO (ea 2) 2 [.ref (eg 2), .ref (ef 2), .int (et 2), .int (nI (el 2)), .int (nI (ei 2))], wI (cy 1) (eg 2) 10 (gc 2), wI (cy 1) (ef 2) 7 (xc 2), wO (ea 3) 2 [.ref (eg 3), .ref (ef 3), .int (et 3), .int (nI (el 3)), .int (nI (ei 3))], wI (cy 1) (eg 3) 10 (gc 3), wI (cy 1) (ef 3) 7 (xc 3)] (fun (r : Int32) (u : (Nat → Int32) × (Nat → Int32) × (Nat → Int32)) => (r = 0 ∨ r = 1) ∧ (rng u.2.1 10 7) ∧ (rng u.2.2 20 7)) (fun (u : (Nat → Int32) × (Nat → Int32) × (Nat → Int32)) => [wO p0 6 [.ref p1, .ref er, .ref ro, .ref p2, .ref p3, .ref p4, .ref h0, .ref s0, .int (nI ch)], wI (cy 1) p3 4 (fne), wI (cy 1) p1 3 (u.1), wI (cy 1) p2 3 (fpc), wO h0 4 [.ref h1, .ref h2, .ref h3, .ref h4, .ref h5, .ref h6, .ref h7, .ref h8, .ref h9, .ref h10, .ref h11, .int ys, hv1, hv2, hv3, hv4], wI (cy 1) h1 4 (fc), wI (cy 1) h7 48 (fx), wO s0 7 [.ref s1, .ref s2, .int (nI sl), .int spl, .int svo, .int swi, .int sch], wI (cy 1) s1 10 (u.2.1), wI (cy 1) ro 20 (u.2.2), (er, .inl (cy 4, 4, .inr (.inr (.inr (.inr (eF (ea 0) (ea 1) (ea 2) (ea 3))))))), wO (ea 0) 2 [.ref (eg 0), .ref (ef 0), .int (et 0), .int (nI (el 0)), .int (nI (ei 0))], wI (cy 1) (eg 0) 10 (gc 0), wI (cy 1) (ef 0) 7 (xc 0), wO (ea 1) 2 [.ref (eg 1), .ref (ef 1), .int (et 1), .int (nI (el 1)), .int (nI (ei 1))], wI (cy 1) (eg 1) 10 (gc 1), wI (cy 1) (ef 1) 7 (xc 1), wO (ea 2) 2 [.ref (eg 2), .ref (ef 2), .int (et 2), .int (nI (el 2)), .int (nI (ei 2))], wI (cy 1) (eg 2) 10 (gc 2), wI (cy 1) (ef 2) 7 (xc 2), wO (ea 3) 2 [.ref (eg 3), .ref (ef 3), .int (et 3), .int (nI (el 3)), .int (nI (ei 3))], wI (cy 1) (eg 3) 10 (gc 3), wI (cy 1) (ef 3) 7 (xc 3)]) := by
  refine XMi.start (by decide) (Nat.le_of_ble_eq_true rfl) ?_
  intro p e s m below meth c args A ls Q hat hQ
  obtain ⟨hx, hb, hr, hml, hown, hg, hlocks, hin, hK, hA, hP, hD, hS, hE, hl⟩ := hat
  have hown : s.vm.findClass RX6 = some m.cls := hown
  have hl : lv_has ls 5 [(0, .ref p0), (1, .int 3)] := hl
  have hk_1 := hel 0 (by decide)
  have hk_2 := hel 1 (by decide)
  have hk_3 := hel 2 (by decide)
  have hk_4 := hel 3 (by decide)
  refine lv_iload_n hx hb dX6_chooseWords_0 rfl (lv_at hl 1 rfl) ?_
  refine lv_aload_n hx hb dX6_chooseWords_1 rfl (lv_at hl 0 rfl) ?_
  refine va_get (D := D) (ci := 6) (v := .int (nI ch)) (C := RX6) (T := TX6) (N := 9) hx hb hg i_X6 hown hK hP 0 rfl rfl 8 (by decide) (hg _ m_593) (fun _ h9 => h9) rfl dX6_chooseWords_2 ?_
  refine lv_icmp_ge (tgt := 13) hx hb dX6_chooseWords_5 (by decide) (fun c_5 => ?_) (fun c_5 => ?_)
  · have q_6 : ch ≤ 3 := q_le (a := ch) (b := 3) rfl rfl (by omega) (by omega) c_5
    refine lv_aload_n hx hb dX6_chooseWords_13 rfl (lv_at hl 0 rfl) ?_
    refine x_callVi (q := (RX6, TX6, 9)) (ci := 6) (q0 := 0) (wr := [wI (cy 1) p1 3 (ffd), wI (cy 1) p2 3 (fpc)]) (rest := []) ⟨hx, hb, hml, hown, hg, hl.1⟩ k_X6_113 (s_isYesNow l D cy p0 p1 p2 p3 p4 er ro ch fne h0 h1 h2 h3 h4 h5 h6 h7 h8 h9 h10 h11 hv1 hv2 hv3 hv4 ys fc c0 c1 c2 c3 fx s0 s1 s2 sl spl svo swi sch fw fr ea eg ef et el ei gc xc (hne) (hcn) (by omega) (by omega) (by omega) (by omega) (hnx) (fun i9 h9 => by rcases (show i9 = 0 ∨ i9 = 1 ∨ i9 = 2 ∨ i9 = 3 by omega) with rfl | rfl | rfl | rfl <;> omega) (by omega) (hsw) (hrw)) E0_blind hK hP hD hS hA [0, 1, 4, 5, 6, 7, 8, 9, 10, 11, 12, 13, 14, 15, 16, 17, 18, 19, 20, 21, 22] [2, 3] ⟨rfl, rfl, by decide +kernel, by decide +kernel, by decide +kernel⟩ rfl rfl (fun _ _ _ => trivial) dX6_chooseWords_14 rfl rfl (Nat.le_of_ble_eq_true rfl) ⟨Nat.le_of_ble_eq_true rfl, Nat.le_of_ble_eq_true rfl⟩ ⟨Nat.le_of_ble_eq_true rfl, Nat.le_of_ble_eq_true rfl⟩ (fun zr7 zu7 H locs hw7 hP9 hD9 hS9 => ?_)
    clear hP hD hS
    obtain ⟨fr2_8, rfl⟩ : ∃ z, z = zu7 := ⟨_, rfl⟩
    refine reW [wI (cy 1) p1 3 (ffd), wI (cy 1) p2 3 (fpc), wO p0 6 [.ref p1, .ref er, .ref ro, .ref p2, .ref p3, .ref p4, .ref h0, .ref s0, .int (nI ch)], wI (cy 1) p3 4 (fne), wO h0 4 [.ref h1, .ref h2, .ref h3, .ref h4, .ref h5, .ref h6, .ref h7, .ref h8, .ref h9, .ref h10, .ref h11, .int ys, hv1, hv2, hv3, hv4], wI (cy 1) h1 4 (fc), wI (cy 1) h7 48 (fx), wO s0 7 [.ref s1, .ref s2, .int (nI sl), .int spl, .int svo, .int swi, .int sch], wI (cy 1) s1 10 (fw), wI (cy 1) ro 20 (fr2_8), (er, .inl (cy 4, 4, .inr (.inr (.inr (.inr (eF (ea 0) (ea 1) (ea 2) (ea 3))))))), wO (ea 0) 2 [.ref (eg 0), .ref (ef 0), .int (et 0), .int (nI (el 0)), .int (nI (ei 0))], wI (cy 1) (eg 0) 10 (gc 0), wI (cy 1) (ef 0) 7 (xc 0), wO (ea 1) 2 [.ref (eg 1), .ref (ef 1), .int (et 1), .int (nI (el 1)), .int (nI (ei 1))], wI (cy 1) (eg 1) 10 (gc 1), wI (cy 1) (ef 1) 7 (xc 1), wO (ea 2) 2 [.ref (eg 2), .ref (ef 2), .int (et 2), .int (nI (el 2)), .int (nI (ei 2))], wI (cy 1) (eg 2) 10 (gc 2), wI (cy 1) (ef 2) 7 (xc 2), wO (ea 3) 2 [.ref (eg 3), .ref (ef 3), .int (et 3), .int (nI (el 3)), .int (nI (ei 3))], wI (cy 1) (eg 3) 10 (gc 3), wI (cy 1) (ef 3) 7 (xc 3)] hP9 hD9 hS9 (fun hP hD hS => ?_)
    clear hP9 hD9 hS9
    refine W.widen (k := 0) (n := 0) (Nat.le_of_ble_eq_true rfl) (Nat.le_of_ble_eq_true rfl) ?_
    replace hw7 : (zr7 = 0 ∨ zr7 = 1) ∧ (rng fr2_8 20 7) := hw7
    obtain ⟨f_9, f_10⟩ := hw7
    exact x_zret hQ hx hb hr hlocks hK hP hD hS (narB f_9) dX6_chooseWords_17 (ffd, fw, fr2_8) (⟨f_9, hsw, f_10⟩) [2, 3, 0, 1, 4, 5, 6, 7, 8, 9, 10, 11, 12, 13, 14, 15, 16, 17, 18, 19, 20, 21, 22] (by decide +kernel) rfl (Nat.le_of_ble_eq_true rfl) (Nat.le_of_ble_eq_true rfl)
  · have q_6 : 3 < ch := q_nle (a := ch) (b := 3) rfl rfl (by omega) (by omega) c_5
    refine lv_iload_n hx hb dX6_chooseWords_8 rfl (lv_at hl 1 rfl) ?_
    refine lv_iconst (v := 3) hx hb dX6_chooseWords_9 (by decide) ?_
    refine lv_icmp_lt (tgt := 18) hx hb dX6_chooseWords_10 (by decide) (fun h => absurd h (by decide)) (fun _ => ?_)
    refine lv_aload_n hx hb dX6_chooseWords_13 rfl (lv_at hl 0 rfl) ?_
    refine x_callVi (q := (RX6, TX6, 9)) (ci := 6) (q0 := 0) (wr := [wI (cy 1) p1 3 (ffd), wI (cy 1) p2 3 (fpc)]) (rest := []) ⟨hx, hb, hml, hown, hg, hl.1⟩ k_X6_113 (s_isYesNow l D cy p0 p1 p2 p3 p4 er ro ch fne h0 h1 h2 h3 h4 h5 h6 h7 h8 h9 h10 h11 hv1 hv2 hv3 hv4 ys fc c0 c1 c2 c3 fx s0 s1 s2 sl spl svo swi sch fw fr ea eg ef et el ei gc xc (hne) (hcn) (by omega) (by omega) (by omega) (by omega) (hnx) (fun i9 h9 => by rcases (show i9 = 0 ∨ i9 = 1 ∨ i9 = 2 ∨ i9 = 3 by omega) with rfl | rfl | rfl | rfl <;> omega) (by omega) (hsw) (hrw)) E0_blind hK hP hD hS hA [0, 1, 4, 5, 6, 7, 8, 9, 10, 11, 12, 13, 14, 15, 16, 17, 18, 19, 20, 21, 22] [2, 3] ⟨rfl, rfl, by decide +kernel, by decide +kernel, by decide +kernel⟩ rfl rfl (fun _ _ _ => trivial) dX6_chooseWords_14 rfl rfl (Nat.le_of_ble_eq_true rfl) ⟨Nat.le_of_ble_eq_true rfl, Nat.le_of_ble_eq_true rfl⟩ ⟨Nat.le_of_ble_eq_true rfl, Nat.le_of_ble_eq_true rfl⟩ (fun zr11 zu11 H locs hw11 hP9 hD9 hS9 => ?_)
    clear hP hD hS
    obtain ⟨fr2_12, rfl⟩ : ∃ z, z = zu11 := ⟨_, rfl⟩
    refine reW [wI (cy 1) p1 3 (ffd), wI (cy 1) p2 3 (fpc), wO p0 6 [.ref p1, .ref er, .ref ro, .ref p2, .ref p3, .ref p4, .ref h0, .ref s0, .int (nI ch)], wI (cy 1) p3 4 (fne), wO h0 4 [.ref h1, .ref h2, .ref h3, .ref h4, .ref h5, .ref h6, .ref h7, .ref h8, .ref h9, .ref h10, .ref h11, .int ys, hv1, hv2, hv3, hv4], wI (cy 1) h1 4 (fc), wI (cy 1) h7 48 (fx), wO s0 7 [.ref s1, .ref s2, .int (nI sl), .int spl, .int svo, .int swi, .int sch], wI (cy 1) s1 10 (fw), wI (cy 1) ro 20 (fr2_12), (er, .inl (cy 4, 4, .inr (.inr (.inr (.inr (eF (ea 0) (ea 1) (ea 2) (ea 3))))))), wO (ea 0) 2 [.ref (eg 0), .ref (ef 0), .int (et 0), .int (nI (el 0)), .int (nI (ei 0))], wI (cy 1) (eg 0) 10 (gc 0), wI (cy 1) (ef 0) 7 (xc 0), wO (ea 1) 2 [.ref (eg 1), .ref (ef 1), .int (et 1), .int (nI (el 1)), .int (nI (ei 1))], wI (cy 1) (eg 1) 10 (gc 1), wI (cy 1) (ef 1) 7 (xc 1), wO (ea 2) 2 [.ref (eg 2), .ref (ef 2), .int (et 2), .int (nI (el 2)), .int (nI (ei 2))], wI (cy 1) (eg 2) 10 (gc 2), wI (cy 1) (ef 2) 7 (xc 2), wO (ea 3) 2 [.ref (eg 3), .ref (ef 3), .int (et 3), .int (nI (el 3)), .int (nI (ei 3))], wI (cy 1) (eg 3) 10 (gc 3), wI (cy 1) (ef 3) 7 (xc 3)] hP9 hD9 hS9 (fun hP hD hS => ?_)
    clear hP9 hD9 hS9
    refine W.widen (k := 0) (n := 0) (Nat.le_of_ble_eq_true rfl) (Nat.le_of_ble_eq_true rfl) ?_
    replace hw11 : (zr11 = 0 ∨ zr11 = 1) ∧ (rng fr2_12 20 7) := hw11
    obtain ⟨f_13, f_14⟩ := hw11
    exact x_zret hQ hx hb hr hlocks hK hP hD hS (narB f_13) dX6_chooseWords_17 (ffd, fw, fr2_12) (⟨f_13, hsw, f_14⟩) [2, 3, 0, 1, 4, 5, 6, 7, 8, 9, 10, 11, 12, 13, 14, 15, 16, 17, 18, 19, 20, 21, 22] (by decide +kernel) rfl (Nat.le_of_ble_eq_true rfl) (Nat.le_of_ble_eq_true rfl)
theorem gdX6_chooseWords_18 : decode cX6_chooseWords 18 = .ok (.aload_n 0, 1) ∧ decode cX6_chooseWords 19 = .ok (.getfield 15, 3) ∧ decode cX6_chooseWords 22 = .ok (.iload_n 1, 1) ∧ decode cX6_chooseWords 23 = .ok (.iaload, 1) ∧ decode cX6_chooseWords 24 = .ok (.istore_n 2, 1) ∧ decode cX6_chooseWords 25 = .ok (.aload_n 0, 1) ∧ decode cX6_chooseWords 26 = .ok (.getfield 39, 3) ∧ decode cX6_chooseWords 29 = .ok (.getfield 107, 3) ∧ decode cX6_chooseWords 32 = .ok (.iload_n 2, 1) ∧ decode cX6_chooseWords 33 = .ok (.iaload, 1) ∧ decode cX6_chooseWords 34 = .ok (.istore_n 3, 1) ∧ decode cX6_chooseWords 35 = .ok (.iconst 0, 1) := by decide +kernel
theorem dX6_chooseWords_18 : decode cX6_chooseWords 18 = .ok (.aload_n 0, 1) := gdX6_chooseWords_18.1
theorem dX6_chooseWords_19 : decode cX6_chooseWords 19 = .ok (.getfield 15, 3) := gdX6_chooseWords_18.2.1
theorem dX6_chooseWords_22 : decode cX6_chooseWords 22 = .ok (.iload_n 1, 1) := gdX6_chooseWords_18.2.2.1
theorem dX6_chooseWords_23 : decode cX6_chooseWords 23 = .ok (.iaload, 1) := gdX6_chooseWords_18.2.2.2.1
theorem dX6_chooseWords_24 : decode cX6_chooseWords 24 = .ok (.istore_n 2, 1) := gdX6_chooseWords_18.2.2.2.2.1
theorem dX6_chooseWords_25 : decode cX6_chooseWords 25 = .ok (.aload_n 0, 1) := gdX6_chooseWords_18.2.2.2.2.2.1
theorem dX6_chooseWords_26 : decode cX6_chooseWords 26 = .ok (.getfield 39, 3) := gdX6_chooseWords_18.2.2.2.2.2.2.1
theorem dX6_chooseWords_29 : decode cX6_chooseWords 29 = .ok (.getfield 107, 3) := gdX6_chooseWords_18.2.2.2.2.2.2.2.1
theorem dX6_chooseWords_32 : decode cX6_chooseWords 32 = .ok (.iload_n 2, 1) := gdX6_chooseWords_18.2.2.2.2.2.2.2.2.1
theorem dX6_chooseWords_33 : decode cX6_chooseWords 33 = .ok (.iaload, 1) := gdX6_chooseWords_18.2.2.2.2.2.2.2.2.2.1
theorem dX6_chooseWords_34 : decode cX6_chooseWords 34 = .ok (.istore_n 3, 1) := gdX6_chooseWords_18.2.2.2.2.2.2.2.2.2.2.1
theorem dX6_chooseWords_35 : decode cX6_chooseWords 35 = .ok (.iconst 0, 1) := gdX6_chooseWords_18.2.2.2.2.2.2.2.2.2.2.2
theorem gdX6_chooseWords_36 : decode cX6_chooseWords 36 = .ok (.istore 4, 2) ∧ decode cX6_chooseWords 38 = .ok (.iload 4, 2) ∧ decode cX6_chooseWords 40 = .ok (.aload_n 0, 1) ∧ decode cX6_chooseWords 41 = .ok (.getfield 35, 3) ∧ decode cX6_chooseWords 44 = .ok (.getfield 43, 3) ∧ decode cX6_chooseWords 47 = .ok (.iconst 0, 1) ∧ decode cX6_chooseWords 48 = .ok (.iaload, 1) ∧ decode cX6_chooseWords 49 = .ok (.if_icmp .ge 51, 3) ∧ decode cX6_chooseWords 100 = .ok (.aload_n 0, 1) ∧ decode cX6_chooseWords 101 = .ok (.getfield 39, 3) ∧ decode cX6_chooseWords 104 = .ok (.getfield 107, 3) ∧ decode cX6_chooseWords 107 = .ok (.iload_n 2, 1) := by decide +kernel
theorem dX6_chooseWords_36 : decode cX6_chooseWords 36 = .ok (.istore 4, 2) := gdX6_chooseWords_36.1
theorem dX6_chooseWords_38 : decode cX6_chooseWords 38 = .ok (.iload 4, 2) := gdX6_chooseWords_36.2.1
theorem dX6_chooseWords_40 : decode cX6_chooseWords 40 = .ok (.aload_n 0, 1) := gdX6_chooseWords_36.2.2.1
theorem dX6_chooseWords_41 : decode cX6_chooseWords 41 = .ok (.getfield 35, 3) := gdX6_chooseWords_36.2.2.2.1
theorem dX6_chooseWords_44 : decode cX6_chooseWords 44 = .ok (.getfield 43, 3) := gdX6_chooseWords_36.2.2.2.2.1
theorem dX6_chooseWords_47 : decode cX6_chooseWords 47 = .ok (.iconst 0, 1) := gdX6_chooseWords_36.2.2.2.2.2.1
theorem dX6_chooseWords_48 : decode cX6_chooseWords 48 = .ok (.iaload, 1) := gdX6_chooseWords_36.2.2.2.2.2.2.1
theorem dX6_chooseWords_49 : decode cX6_chooseWords 49 = .ok (.if_icmp .ge 51, 3) := gdX6_chooseWords_36.2.2.2.2.2.2.2.1
theorem dX6_chooseWords_100 : decode cX6_chooseWords 100 = .ok (.aload_n 0, 1) := gdX6_chooseWords_36.2.2.2.2.2.2.2.2.1
theorem dX6_chooseWords_101 : decode cX6_chooseWords 101 = .ok (.getfield 39, 3) := gdX6_chooseWords_36.2.2.2.2.2.2.2.2.2.1
theorem dX6_chooseWords_104 : decode cX6_chooseWords 104 = .ok (.getfield 107, 3) := gdX6_chooseWords_36.2.2.2.2.2.2.2.2.2.2.1
theorem dX6_chooseWords_107 : decode cX6_chooseWords 107 = .ok (.iload_n 2, 1) := gdX6_chooseWords_36.2.2.2.2.2.2.2.2.2.2.2
theorem gdX6_chooseWords_108 : decode cX6_chooseWords 108 = .ok (.iload_n 3, 1) ∧ decode cX6_chooseWords 109 = .ok (.iastore, 1) ∧ decode cX6_chooseWords 110 = .ok (.iconst 0, 1) ∧ decode cX6_chooseWords 111 = .ok (.ireturn, 1) ∧ decode cX6_chooseWords 52 = .ok (.iload 4, 2) ∧ decode cX6_chooseWords 54 = .ok (.iload_n 3, 1) ∧ decode cX6_chooseWords 55 = .ok (.if_icmp .eq 39, 3) ∧ decode cX6_chooseWords 94 = .ok (.iinc 4 1, 3) ∧ decode cX6_chooseWords 97 = .ok (.goto (-59), 3) ∧ decode cX6_chooseWords 58 = .ok (.aload_n 0, 1) ∧ decode cX6_chooseWords 59 = .ok (.getfield 39, 3) ∧ decode cX6_chooseWords 62 = .ok (.getfield 107, 3) := by decide +kernel
theorem dX6_chooseWords_108 : decode cX6_chooseWords 108 = .ok (.iload_n 3, 1) := gdX6_chooseWords_108.1
theorem dX6_chooseWords_109 : decode cX6_chooseWords 109 = .ok (.iastore, 1) := gdX6_chooseWords_108.2.1
theorem dX6_chooseWords_110 : decode cX6_chooseWords 110 = .ok (.iconst 0, 1) := gdX6_chooseWords_108.2.2.1
theorem dX6_chooseWords_111 : decode cX6_chooseWords 111 = .ok (.ireturn, 1) := gdX6_chooseWords_108.2.2.2.1
theorem dX6_chooseWords_52 : decode cX6_chooseWords 52 = .ok (.iload 4, 2) := gdX6_chooseWords_108.2.2.2.2.1
theorem dX6_chooseWords_54 : decode cX6_chooseWords 54 = .ok (.iload_n 3, 1) := gdX6_chooseWords_108.2.2.2.2.2.1
theorem dX6_chooseWords_55 : decode cX6_chooseWords 55 = .ok (.if_icmp .eq 39, 3) := gdX6_chooseWords_108.2.2.2.2.2.2.1
theorem dX6_chooseWords_94 : decode cX6_chooseWords 94 = .ok (.iinc 4 1, 3) := gdX6_chooseWords_108.2.2.2.2.2.2.2.1
theorem dX6_chooseWords_97 : decode cX6_chooseWords 97 = .ok (.goto (-59), 3) := gdX6_chooseWords_108.2.2.2.2.2.2.2.2.1
theorem dX6_chooseWords_58 : decode cX6_chooseWords 58 = .ok (.aload_n 0, 1) := gdX6_chooseWords_108.2.2.2.2.2.2.2.2.2.1
theorem dX6_chooseWords_59 : decode cX6_chooseWords 59 = .ok (.getfield 39, 3) := gdX6_chooseWords_108.2.2.2.2.2.2.2.2.2.2.1
theorem dX6_chooseWords_62 : decode cX6_chooseWords 62 = .ok (.getfield 107, 3) := gdX6_chooseWords_108.2.2.2.2.2.2.2.2.2.2.2
theorem gdX6_chooseWords_65 : decode cX6_chooseWords 65 = .ok (.iload_n 2, 1) ∧ decode cX6_chooseWords 66 = .ok (.iload 4, 2) ∧ decode cX6_chooseWords 68 = .ok (.iastore, 1) ∧ decode cX6_chooseWords 69 = .ok (.aload_n 0, 1) ∧ decode cX6_chooseWords 70 = .ok (.getfield 9, 3) ∧ decode cX6_chooseWords 73 = .ok (.iload_n 1, 1) ∧ decode cX6_chooseWords 74 = .ok (.bipush 10, 2) ∧ decode cX6_chooseWords 76 = .ok (.iload_n 2, 1) ∧ decode cX6_chooseWords 77 = .ok (.imul, 1) ∧ decode cX6_chooseWords 78 = .ok (.iload 4, 2) ∧ decode cX6_chooseWords 80 = .ok (.iadd, 1) ∧ decode cX6_chooseWords 81 = .ok (.iastore, 1) := by decide +kernel
theorem dX6_chooseWords_65 : decode cX6_chooseWords 65 = .ok (.iload_n 2, 1) := gdX6_chooseWords_65.1
theorem dX6_chooseWords_66 : decode cX6_chooseWords 66 = .ok (.iload 4, 2) := gdX6_chooseWords_65.2.1
theorem dX6_chooseWords_68 : decode cX6_chooseWords 68 = .ok (.iastore, 1) := gdX6_chooseWords_65.2.2.1
theorem dX6_chooseWords_69 : decode cX6_chooseWords 69 = .ok (.aload_n 0, 1) := gdX6_chooseWords_65.2.2.2.1
theorem dX6_chooseWords_70 : decode cX6_chooseWords 70 = .ok (.getfield 9, 3) := gdX6_chooseWords_65.2.2.2.2.1
theorem dX6_chooseWords_73 : decode cX6_chooseWords 73 = .ok (.iload_n 1, 1) := gdX6_chooseWords_65.2.2.2.2.2.1
theorem dX6_chooseWords_74 : decode cX6_chooseWords 74 = .ok (.bipush 10, 2) := gdX6_chooseWords_65.2.2.2.2.2.2.1
theorem dX6_chooseWords_76 : decode cX6_chooseWords 76 = .ok (.iload_n 2, 1) := gdX6_chooseWords_65.2.2.2.2.2.2.2.1
theorem dX6_chooseWords_77 : decode cX6_chooseWords 77 = .ok (.imul, 1) := gdX6_chooseWords_65.2.2.2.2.2.2.2.2.1
theorem dX6_chooseWords_78 : decode cX6_chooseWords 78 = .ok (.iload 4, 2) := gdX6_chooseWords_65.2.2.2.2.2.2.2.2.2.1
theorem dX6_chooseWords_80 : decode cX6_chooseWords 80 = .ok (.iadd, 1) := gdX6_chooseWords_65.2.2.2.2.2.2.2.2.2.2.1
theorem dX6_chooseWords_81 : decode cX6_chooseWords 81 = .ok (.iastore, 1) := gdX6_chooseWords_65.2.2.2.2.2.2.2.2.2.2.2
theorem gdX6_chooseWords_82 : decode cX6_chooseWords 82 = .ok (.aload_n 0, 1) ∧ decode cX6_chooseWords 83 = .ok (.iload_n 1, 1) ∧ decode cX6_chooseWords 84 = .ok (.iconst 1, 1) ∧ decode cX6_chooseWords 85 = .ok (.iadd, 1) ∧ decode cX6_chooseWords 86 = .ok (.invokevirtual 73, 3) := by decide +kernel
theorem dX6_chooseWords_82 : decode cX6_chooseWords 82 = .ok (.aload_n 0, 1) := gdX6_chooseWords_82.1
theorem dX6_chooseWords_83 : decode cX6_chooseWords 83 = .ok (.iload_n 1, 1) := gdX6_chooseWords_82.2.1
theorem dX6_chooseWords_84 : decode cX6_chooseWords 84 = .ok (.iconst 1, 1) := gdX6_chooseWords_82.2.2.1
theorem dX6_chooseWords_85 : decode cX6_chooseWords 85 = .ok (.iadd, 1) := gdX6_chooseWords_82.2.2.2.1
theorem dX6_chooseWords_86 : decode cX6_chooseWords 86 = .ok (.invokevirtual 73, 3) := gdX6_chooseWords_82.2.2.2.2
theorem k_X6_73 : xV RX6 RX6 73 yX6_chooseWords cX6_chooseWords 5 (some .boolean) 1 := ⟨⟨m_1270, m_1272, m_54, m_144, m_1273⟩, rfl, by decide, by decide, by decide +kernel⟩
theorem gdX6_chooseWords_89 : decode cX6_chooseWords 89 = .ok (.ifCond .eq 5, 3) ∧ decode cX6_chooseWords 92 = .ok (.iconst 1, 1) ∧ decode cX6_chooseWords 93 = .ok (.ireturn, 1) := by decide +kernel
theorem dX6_chooseWords_89 : decode cX6_chooseWords 89 = .ok (.ifCond .eq 5, 3) := gdX6_chooseWords_89.1
theorem dX6_chooseWords_92 : decode cX6_chooseWords 92 = .ok (.iconst 1, 1) := gdX6_chooseWords_89.2.1
theorem dX6_chooseWords_93 : decode cX6_chooseWords 93 = .ok (.ireturn, 1) := gdX6_chooseWords_89.2.2
set_option maxHeartbeats 1000000 in
set_option maxRecDepth 100000 in
theorem s_chooseWords2 (l : Launch) (D : va_G) (cy : Nat → ClassId) (p0 : Nat) (p1 : Nat) (p2 : Nat) (p3 : Nat) (p4 : Nat) (er : Nat) (ro : Nat) (ch : Nat) (fne : Nat → Int32) (ffd : Nat → Int32) (fpc : Nat → Int32) (h0 : Nat) (h1 : Nat) (h2 : Nat) (h3 : Nat) (h4 : Nat) (h5 : Nat) (h6 : Nat) (h7 : Nat) (h8 : Nat) (h9 : Nat) (h10 : Nat) (h11 : Nat) (hv1 : Value) (hv2 : Value) (hv3 : Value) (hv4 : Value) (ys : Int32) (fc : Nat → Int32) (c0 : Nat) (c1 : Nat) (c2 : Nat) (c3 : Nat) (fx : Nat → Int32) (s0 : Nat) (s1 : Nat) (s2 : Nat) (sl : Nat) (spl : Int32) (svo : Int32) (swi : Int32) (sch : Int32) (fw : Nat → Int32) (fr : Nat → Int32) (ea : Nat → Nat) (eg : Nat → Nat) (ef : Nat → Nat) (et : Nat → Int32) (el : Nat → Nat) (ei : Nat → Nat) (gc : Nat → Nat → Int32) (xc : Nat → Nat → Int32) (hne : nOK fne c1) (hpc : rng fpc 3 9) (hch : ch ≤ 3) (hcn : cntOK fc c0 c1 c2 c3) (hc0 : c0 ≤ 8) (hc1 : c1 ≤ 4) (hc2 : c2 ≤ 4) (hc3 : c3 ≤ 6) (hnx : rng fx 48 5) (hel : ∀ i9, i9 < 4 → el i9 ≤ 10) (hsl : sl ≤ 10) (hsw : rng fw 10 7) (hrw : rng fr 20 7) : XMi l D (tyL cy) E0 yX6_chooseWords cX6_chooseWords 5 (some .boolean) (rmk 6 0 0) [.ref p0, .int 2] [wO p0 6 [.ref p1, .ref er, .ref ro, .ref p2, .ref p3, .ref p4, .ref h0, .ref s0, .int (nI ch)], wI (cy 1) p3 4 (fne), wI (cy 1) p1 3 (ffd), wI (cy 1) p2 3 (fpc), wO h0 4 [.ref h1, .ref h2, .ref h3, .ref h4, .ref h5, .ref h6, .ref h7, .ref h8, .ref h9, .ref h10, .ref h11, .int ys, hv1, hv2, hv3, hv4], wI (cy 1) h1 4 (fc), wI (cy 1) h7 48 (fx), wO s0 7 [.ref s1, .ref s2, .int (nI sl), .int spl, .int svo, .int swi, .int sch], wI (cy 1) s1 10 (fw), wI (cy 1) ro 20 (fr), (er, .inl (cy 4, 4, .inr (.inr (.inr (.inr (eF (ea 0) (ea 1) (ea 2) (ea 3))))))), wO (ea 0) 2 [.ref (eg 0), .ref (ef 0), .int (et 0), .int (nI (el 0)), .int (nI (ei 0))], wI (cy 1) (eg 0) 10 (gc 0), wI (cy 1) (ef 0) 7 (xc 0), wO (ea 1) 2 [.ref (eg 1), .ref (ef 1), .int (et 1), .int (nI (el 1)), .int (nI (ei 1))], wI (cy 1) (eg 1) 10 (gc 1), wI (cy 1) (ef 1) 7 (xc 1), wO (ea 2) 2 [.ref (eg 2), .ref (ef 2), .int (et 2), .int (nI (el 2)), .int (nI (ei 2))], wI (cy 1) (eg 2) 10 (gc 2), wI (cy 1) (ef 2) 7 (xc 2), wO (ea 3) 2 [.ref (eg 3), .ref (ef 3), .int (et 3), .int (nI (el 3)), .int (nI (ei 3))], wI (cy 1) (eg 3) 10 (gc 3), wI (cy 1) (ef 3) 7 (xc 3)] (fun (r : Int32) (u : (Nat → Int32) × (Nat → Int32) × (Nat → Int32)) => (r = 0 ∨ r = 1) ∧ (rng u.2.1 10 7) ∧ (rng u.2.2 20 7)) (fun (u : (Nat → Int32) × (Nat → Int32) × (Nat → Int32)) => [wO p0 6 [.ref p1, .ref er, .ref ro, .ref p2, .ref p3, .ref p4, .ref h0, .ref s0, .int (nI ch)], wI (cy 1) p3 4 (fne), wI (cy 1) p1 3 (u.1), wI (cy 1) p2 3 (fpc), wO h0 4 [.ref h1, .ref h2, .ref h3, .ref h4, .ref h5, .ref h6, .ref h7, .ref h8, .ref h9, .ref h10, .ref h11, .int ys, hv1, hv2, hv3, hv4], wI (cy 1) h1 4 (fc), wI (cy 1) h7 48 (fx), wO s0 7 [.ref s1, .ref s2, .int (nI sl), .int spl, .int svo, .int swi, .int sch], wI (cy 1) s1 10 (u.2.1), wI (cy 1) ro 20 (u.2.2), (er, .inl (cy 4, 4, .inr (.inr (.inr (.inr (eF (ea 0) (ea 1) (ea 2) (ea 3))))))), wO (ea 0) 2 [.ref (eg 0), .ref (ef 0), .int (et 0), .int (nI (el 0)), .int (nI (ei 0))], wI (cy 1) (eg 0) 10 (gc 0), wI (cy 1) (ef 0) 7 (xc 0), wO (ea 1) 2 [.ref (eg 1), .ref (ef 1), .int (et 1), .int (nI (el 1)), .int (nI (ei 1))], wI (cy 1) (eg 1) 10 (gc 1), wI (cy 1) (ef 1) 7 (xc 1), wO (ea 2) 2 [.ref (eg 2), .ref (ef 2), .int (et 2), .int (nI (el 2)), .int (nI (ei 2))], wI (cy 1) (eg 2) 10 (gc 2), wI (cy 1) (ef 2) 7 (xc 2), wO (ea 3) 2 [.ref (eg 3), .ref (ef 3), .int (et 3), .int (nI (el 3)), .int (nI (ei 3))], wI (cy 1) (eg 3) 10 (gc 3), wI (cy 1) (ef 3) 7 (xc 3)]) := by
  refine XMi.start (by decide) (Nat.le_of_ble_eq_true rfl) ?_
  intro p e s m below meth c args A ls Q hat hQ
  obtain ⟨hx, hb, hr, hml, hown, hg, hlocks, hin, hK, hA, hP, hD, hS, hE, hl⟩ := hat
  have hown : s.vm.findClass RX6 = some m.cls := hown
  have hl : lv_has ls 5 [(0, .ref p0), (1, .int 2)] := hl
  have hk_1 := hel 0 (by decide)
  have hk_2 := hel 1 (by decide)
  have hk_3 := hel 2 (by decide)
  have hk_4 := hel 3 (by decide)
  refine lv_iload_n hx hb dX6_chooseWords_0 rfl (lv_at hl 1 rfl) ?_
  refine lv_aload_n hx hb dX6_chooseWords_1 rfl (lv_at hl 0 rfl) ?_
  refine va_get (D := D) (ci := 6) (v := .int (nI ch)) (C := RX6) (T := TX6) (N := 9) hx hb hg i_X6 hown hK hP 0 rfl rfl 8 (by decide) (hg _ m_593) (fun _ h9 => h9) rfl dX6_chooseWords_2 ?_
  refine lv_icmp_ge (tgt := 13) hx hb dX6_chooseWords_5 (by decide) (fun c_5 => ?_) (fun c_5 => ?_)
  · have q_6 : ch ≤ 2 := q_le (a := ch) (b := 2) rfl rfl (by omega) (by omega) c_5
    refine lv_aload_n hx hb dX6_chooseWords_13 rfl (lv_at hl 0 rfl) ?_
    refine x_callVi (q := (RX6, TX6, 9)) (ci := 6) (q0 := 0) (wr := [wI (cy 1) p1 3 (ffd), wI (cy 1) p2 3 (fpc)]) (rest := []) ⟨hx, hb, hml, hown, hg, hl.1⟩ k_X6_113 (s_isYesNow l D cy p0 p1 p2 p3 p4 er ro ch fne h0 h1 h2 h3 h4 h5 h6 h7 h8 h9 h10 h11 hv1 hv2 hv3 hv4 ys fc c0 c1 c2 c3 fx s0 s1 s2 sl spl svo swi sch fw fr ea eg ef et el ei gc xc (hne) (hcn) (by omega) (by omega) (by omega) (by omega) (hnx) (fun i9 h9 => by rcases (show i9 = 0 ∨ i9 = 1 ∨ i9 = 2 ∨ i9 = 3 by omega) with rfl | rfl | rfl | rfl <;> omega) (by omega) (hsw) (hrw)) E0_blind hK hP hD hS hA [0, 1, 4, 5, 6, 7, 8, 9, 10, 11, 12, 13, 14, 15, 16, 17, 18, 19, 20, 21, 22] [2, 3] ⟨rfl, rfl, by decide +kernel, by decide +kernel, by decide +kernel⟩ rfl rfl (fun _ _ _ => trivial) dX6_chooseWords_14 rfl rfl (Nat.le_of_ble_eq_true rfl) ⟨Nat.le_of_ble_eq_true rfl, Nat.le_of_ble_eq_true rfl⟩ ⟨Nat.le_of_ble_eq_true rfl, Nat.le_of_ble_eq_true rfl⟩ (fun zr7 zu7 H locs hw7 hP9 hD9 hS9 => ?_)
    clear hP hD hS
    obtain ⟨fr2_8, rfl⟩ : ∃ z, z = zu7 := ⟨_, rfl⟩
    refine reW [wI (cy 1) p1 3 (ffd), wI (cy 1) p2 3 (fpc), wO p0 6 [.ref p1, .ref er, .ref ro, .ref p2, .ref p3, .ref p4, .ref h0, .ref s0, .int (nI ch)], wI (cy 1) p3 4 (fne), wO h0 4 [.ref h1, .ref h2, .ref h3, .ref h4, .ref h5, .ref h6, .ref h7, .ref h8, .ref h9, .ref h10, .ref h11, .int ys, hv1, hv2, hv3, hv4], wI (cy 1) h1 4 (fc), wI (cy 1) h7 48 (fx), wO s0 7 [.ref s1, .ref s2, .int (nI sl), .int spl, .int svo, .int swi, .int sch], wI (cy 1) s1 10 (fw), wI (cy 1) ro 20 (fr2_8), (er, .inl (cy 4, 4, .inr (.inr (.inr (.inr (eF (ea 0) (ea 1) (ea 2) (ea 3))))))), wO (ea 0) 2 [.ref (eg 0), .ref (ef 0), .int (et 0), .int (nI (el 0)), .int (nI (ei 0))], wI (cy 1) (eg 0) 10 (gc 0), wI (cy 1) (ef 0) 7 (xc 0), wO (ea 1) 2 [.ref (eg 1), .ref (ef 1), .int (et 1), .int (nI (el 1)), .int (nI (ei 1))], wI (cy 1) (eg 1) 10 (gc 1), wI (cy 1) (ef 1) 7 (xc 1), wO (ea 2) 2 [.ref (eg 2), .ref (ef 2), .int (et 2), .int (nI (el 2)), .int (nI (ei 2))], wI (cy 1) (eg 2) 10 (gc 2), wI (cy 1) (ef 2) 7 (xc 2), wO (ea 3) 2 [.ref (eg 3), .ref (ef 3), .int (et 3), .int (nI (el 3)), .int (nI (ei 3))], wI (cy 1) (eg 3) 10 (gc 3), wI (cy 1) (ef 3) 7 (xc 3)] hP9 hD9 hS9 (fun hP hD hS => ?_)
    clear hP9 hD9 hS9
    refine W.widen (k := 0) (n := 0) (Nat.le_of_ble_eq_true rfl) (Nat.le_of_ble_eq_true rfl) ?_
    replace hw7 : (zr7 = 0 ∨ zr7 = 1) ∧ (rng fr2_8 20 7) := hw7
    obtain ⟨f_9, f_10⟩ := hw7
    exact x_zret hQ hx hb hr hlocks hK hP hD hS (narB f_9) dX6_chooseWords_17 (ffd, fw, fr2_8) (⟨f_9, hsw, f_10⟩) [2, 3, 0, 1, 4, 5, 6, 7, 8, 9, 10, 11, 12, 13, 14, 15, 16, 17, 18, 19, 20, 21, 22] (by decide +kernel) rfl (Nat.le_of_ble_eq_true rfl) (Nat.le_of_ble_eq_true rfl)
  · have q_6 : 2 < ch := q_nle (a := ch) (b := 2) rfl rfl (by omega) (by omega) c_5
    refine lv_iload_n hx hb dX6_chooseWords_8 rfl (lv_at hl 1 rfl) ?_
    refine lv_iconst (v := 3) hx hb dX6_chooseWords_9 (by decide) ?_
    refine lv_icmp_lt (tgt := 18) hx hb dX6_chooseWords_10 (by decide) (fun _ => ?_) (fun h => absurd (by decide) h)
    refine lv_aload_n hx hb dX6_chooseWords_18 rfl (lv_at hl 0 rfl) ?_
    refine va_get (D := D) (ci := 6) (v := .ref p2) (C := RX6) (T := TX6) (N := 9) hx hb hg i_X6 hown hK hP 0 rfl rfl 3 (by decide) (hg _ m_588) (fun _ h9 => h9) rfl dX6_chooseWords_19 ?_
    refine lv_iload_n hx hb dX6_chooseWords_22 rfl (lv_at hl 1 rfl) ?_
    refine va_iald hx hb hK hP 3 1 rfl rfl (by unfold vp_in; decide) dX6_chooseWords_23 ?_
    obtain ⟨j_11, hj_11, ej_11⟩ := rng_at hpc (i := 2) (by omega) (by decide)
    refine lv_topi (fun y_12 hy_12 => ?_)
    obtain rfl : y_12 = nI j_11 := hy_12.trans ej_11
    refine lv_istore_n (lv' := [(2, .int (nI j_11)), (0, .ref p0), (1, .int 2)]) hx hb dX6_chooseWords_24 rfl hl (by decide) rfl (fun ls hl => ?_)
    refine lv_aload_n hx hb dX6_chooseWords_25 rfl (lv_at hl 1 rfl) ?_
    refine va_get (D := D) (ci := 6) (v := .ref s0) (C := RX6) (T := TX6) (N := 9) hx hb hg i_X6 hown hK hP 0 rfl rfl 7 (by decide) (hg _ m_592) (fun _ h9 => h9) rfl dX6_chooseWords_26 ?_
    refine va_get (D := D) (ci := 7) (v := .ref s1) (C := RX7) (T := TX7) (N := 7) hx hb hg i_X7 hown hK hP 7 rfl rfl 0 (by decide) (hg _ m_622) (fun _ h9 => h9) rfl dX6_chooseWords_29 ?_
    refine lv_iload_n hx hb dX6_chooseWords_32 rfl (lv_at hl 0 rfl) ?_
    refine va_iald hx hb hK hP 8 1 rfl rfl (vp_in_nI (by omega) (by decide)) dX6_chooseWords_33 ?_
    obtain ⟨j_13, hj_13, ej_13⟩ := rng_at hsw (i := j_11) (by omega) (by decide)
    refine lv_topi (fun y_14 hy_14 => ?_)
    obtain rfl : y_14 = nI j_13 := hy_14.trans ej_13
    refine lv_istore_n (lv' := [(3, .int (nI j_13)), (2, .int (nI j_11)), (0, .ref p0), (1, .int 2)]) hx hb dX6_chooseWords_34 rfl hl (by decide) rfl (fun ls hl => ?_)
    refine lv_iconst (v := 0) hx hb dX6_chooseWords_35 (by decide) ?_
    refine lv_istore (lv' := [(4, .int 0), (3, .int (nI j_13)), (2, .int (nI j_11)), (0, .ref p0), (1, .int 2)]) hx hb dX6_chooseWords_36 hl (by decide) rfl (fun ls hl => ?_)
    have loop15 : ∀ (zn : Nat) (wd15 : Nat) (fa1_15 : Nat → Int32) (fa2_15 : Nat → Int32) (fa3_15 : Nat → Int32), (rng fa2_15 10 7) → (rng fa3_15 20 7) → (wd15 ≤ c0) → c0 - wd15 + 1 ≤ zn → ∀ (H : Heap) (locs : List Loc), va_P D vwCl [wO p0 6 [.ref p1, .ref er, .ref ro, .ref p2, .ref p3, .ref p4, .ref h0, .ref s0, .int (nI ch)], wI (cy 1) p3 4 (fne), wI (cy 1) p1 3 (fa1_15), wI (cy 1) p2 3 (fpc), wO h0 4 [.ref h1, .ref h2, .ref h3, .ref h4, .ref h5, .ref h6, .ref h7, .ref h8, .ref h9, .ref h10, .ref h11, .int ys, hv1, hv2, hv3, hv4], wI (cy 1) h1 4 (fc), wI (cy 1) h7 48 (fx), wO s0 7 [.ref s1, .ref s2, .int (nI sl), .int spl, .int svo, .int swi, .int sch], wI (cy 1) s1 10 (fa2_15), wI (cy 1) ro 20 (fa3_15), (er, .inl (cy 4, 4, .inr (.inr (.inr (.inr (eF (ea 0) (ea 1) (ea 2) (ea 3))))))), wO (ea 0) 2 [.ref (eg 0), .ref (ef 0), .int (et 0), .int (nI (el 0)), .int (nI (ei 0))], wI (cy 1) (eg 0) 10 (gc 0), wI (cy 1) (ef 0) 7 (xc 0), wO (ea 1) 2 [.ref (eg 1), .ref (ef 1), .int (et 1), .int (nI (el 1)), .int (nI (ei 1))], wI (cy 1) (eg 1) 10 (gc 1), wI (cy 1) (ef 1) 7 (xc 1), wO (ea 2) 2 [.ref (eg 2), .ref (ef 2), .int (et 2), .int (nI (el 2)), .int (nI (ei 2))], wI (cy 1) (eg 2) 10 (gc 2), wI (cy 1) (ef 2) 7 (xc 2), wO (ea 3) 2 [.ref (eg 3), .ref (ef 3), .int (et 3), .int (nI (el 3)), .int (nI (ei 3))], wI (cy 1) (eg 3) 10 (gc 3), wI (cy 1) (ef 3) 7 (xc 3)] H → va_D A [wO p0 6 [.ref p1, .ref er, .ref ro, .ref p2, .ref p3, .ref p4, .ref h0, .ref s0, .int (nI ch)], wI (cy 1) p3 4 (fne), wI (cy 1) p1 3 (fa1_15), wI (cy 1) p2 3 (fpc), wO h0 4 [.ref h1, .ref h2, .ref h3, .ref h4, .ref h5, .ref h6, .ref h7, .ref h8, .ref h9, .ref h10, .ref h11, .int ys, hv1, hv2, hv3, hv4], wI (cy 1) h1 4 (fc), wI (cy 1) h7 48 (fx), wO s0 7 [.ref s1, .ref s2, .int (nI sl), .int spl, .int svo, .int swi, .int sch], wI (cy 1) s1 10 (fa2_15), wI (cy 1) ro 20 (fa3_15), (er, .inl (cy 4, 4, .inr (.inr (.inr (.inr (eF (ea 0) (ea 1) (ea 2) (ea 3))))))), wO (ea 0) 2 [.ref (eg 0), .ref (ef 0), .int (et 0), .int (nI (el 0)), .int (nI (ei 0))], wI (cy 1) (eg 0) 10 (gc 0), wI (cy 1) (ef 0) 7 (xc 0), wO (ea 1) 2 [.ref (eg 1), .ref (ef 1), .int (et 1), .int (nI (el 1)), .int (nI (ei 1))], wI (cy 1) (eg 1) 10 (gc 1), wI (cy 1) (ef 1) 7 (xc 1), wO (ea 2) 2 [.ref (eg 2), .ref (ef 2), .int (et 2), .int (nI (el 2)), .int (nI (ei 2))], wI (cy 1) (eg 2) 10 (gc 2), wI (cy 1) (ef 2) 7 (xc 2), wO (ea 3) 2 [.ref (eg 3), .ref (ef 3), .int (et 3), .int (nI (el 3)), .int (nI (ei 3))], wI (cy 1) (eg 3) 10 (gc 3), wI (cy 1) (ef 3) 7 (xc 3)] → va_S A s.heap H locs → ∀ ls : Array Slot, lv_has ls 5 [(4, .int (nI wd15)), (3, .int (nI j_13)), (2, .int (nI j_11)), (0, .ref p0), (1, .int 2)] → W p l e (rmk 6 0 0) s m args below meth c H locs 0 0 Q (F0 m 38 ls []) := by
      try clear hP hD hS
      intro zn
      induction zn with
      | zero => intro wd15 fa1_15 fa2_15 fa3_15 _ _ _ hz; exact absurd hz (by omega)
      | succ zn ih15 =>
        intro wd15 fa1_15 fa2_15 fa3_15 ha3_15 ha4_15 hf0_15 hmu15 H locs hP hD hS ls hl
        refine lv_iload hx hb dX6_chooseWords_38 (lv_at hl 0 rfl) ?_
        refine lv_aload_n hx hb dX6_chooseWords_40 rfl (lv_at hl 3 rfl) ?_
        refine va_get (D := D) (ci := 6) (v := .ref h0) (C := RX6) (T := TX6) (N := 9) hx hb hg i_X6 hown hK hP 0 rfl rfl 6 (by decide) (hg _ m_591) (fun _ h9 => h9) rfl dX6_chooseWords_41 ?_
        refine va_get (D := D) (ci := 4) (v := .ref h1) (C := RX4) (T := TX4) (N := 16) hx hb hg i_X4 hown hK hP 4 rfl rfl 0 (by decide) (hg _ m_330) (fun _ h9 => h9) rfl dX6_chooseWords_44 ?_
        refine lv_iconst (v := 0) hx hb dX6_chooseWords_47 (by decide) ?_
        refine va_iald hx hb hK hP 5 1 rfl rfl (by unfold vp_in; decide) dX6_chooseWords_48 ?_
        refine lv_topi (fun y_16 hy_16 => ?_)
        obtain rfl : y_16 = nI c0 := hy_16.trans hcn.1
        refine lv_icmp_ge (tgt := 100) hx hb dX6_chooseWords_49 (by decide) (fun c_17 => ?_) (fun c_17 => ?_)
        · have q_18 : c0 ≤ wd15 := q_le (a := c0) (b := wd15) rfl rfl (by omega) (by omega) c_17
          refine lv_aload_n hx hb dX6_chooseWords_100 rfl (lv_at hl 3 rfl) ?_
          refine va_get (D := D) (ci := 6) (v := .ref s0) (C := RX6) (T := TX6) (N := 9) hx hb hg i_X6 hown hK hP 0 rfl rfl 7 (by decide) (hg _ m_592) (fun _ h9 => h9) rfl dX6_chooseWords_101 ?_
          refine va_get (D := D) (ci := 7) (v := .ref s1) (C := RX7) (T := TX7) (N := 7) hx hb hg i_X7 hown hK hP 7 rfl rfl 0 (by decide) (hg _ m_622) (fun _ h9 => h9) rfl dX6_chooseWords_104 ?_
          refine lv_iload_n hx hb dX6_chooseWords_107 rfl (lv_at hl 2 rfl) ?_
          refine lv_iload_n hx hb dX6_chooseWords_108 rfl (lv_at hl 1 rfl) ?_
          refine va_iast hx hb hK hP hD hS 8 1 rfl rfl (vp_in_nI (by omega) (by decide)) dX6_chooseWords_109 (fun H locs hP9 hD9 hS9 => ?_)
          clear hP hD hS
          have hP := hP9
          have hD := hD9
          have hS := hS9
          clear hP9 hD9 hS9
          obtain ⟨g_19, eg_19⟩ : ∃ y, upd fa2_15 (nI j_11 : Int32).toNatClampNeg (nI j_13) = y := ⟨_, rfl⟩
          rw [eg_19] at hP hD
          have hr_20 : rng g_19 10 7 := eg_19 ▸ rng_put ha3_15 (j := j_13) (by omega)
          replace hP : va_P D vwCl [wO p0 6 [.ref p1, .ref er, .ref ro, .ref p2, .ref p3, .ref p4, .ref h0, .ref s0, .int (nI ch)], wI (cy 1) p3 4 (fne), wI (cy 1) p1 3 (fa1_15), wI (cy 1) p2 3 (fpc), wO h0 4 [.ref h1, .ref h2, .ref h3, .ref h4, .ref h5, .ref h6, .ref h7, .ref h8, .ref h9, .ref h10, .ref h11, .int ys, hv1, hv2, hv3, hv4], wI (cy 1) h1 4 (fc), wI (cy 1) h7 48 (fx), wO s0 7 [.ref s1, .ref s2, .int (nI sl), .int spl, .int svo, .int swi, .int sch], wI (cy 1) s1 10 (g_19), wI (cy 1) ro 20 (fa3_15), (er, .inl (cy 4, 4, .inr (.inr (.inr (.inr (eF (ea 0) (ea 1) (ea 2) (ea 3))))))), wO (ea 0) 2 [.ref (eg 0), .ref (ef 0), .int (et 0), .int (nI (el 0)), .int (nI (ei 0))], wI (cy 1) (eg 0) 10 (gc 0), wI (cy 1) (ef 0) 7 (xc 0), wO (ea 1) 2 [.ref (eg 1), .ref (ef 1), .int (et 1), .int (nI (el 1)), .int (nI (ei 1))], wI (cy 1) (eg 1) 10 (gc 1), wI (cy 1) (ef 1) 7 (xc 1), wO (ea 2) 2 [.ref (eg 2), .ref (ef 2), .int (et 2), .int (nI (el 2)), .int (nI (ei 2))], wI (cy 1) (eg 2) 10 (gc 2), wI (cy 1) (ef 2) 7 (xc 2), wO (ea 3) 2 [.ref (eg 3), .ref (ef 3), .int (et 3), .int (nI (el 3)), .int (nI (ei 3))], wI (cy 1) (eg 3) 10 (gc 3), wI (cy 1) (ef 3) 7 (xc 3)] H := hP
          replace hD : va_D A [wO p0 6 [.ref p1, .ref er, .ref ro, .ref p2, .ref p3, .ref p4, .ref h0, .ref s0, .int (nI ch)], wI (cy 1) p3 4 (fne), wI (cy 1) p1 3 (fa1_15), wI (cy 1) p2 3 (fpc), wO h0 4 [.ref h1, .ref h2, .ref h3, .ref h4, .ref h5, .ref h6, .ref h7, .ref h8, .ref h9, .ref h10, .ref h11, .int ys, hv1, hv2, hv3, hv4], wI (cy 1) h1 4 (fc), wI (cy 1) h7 48 (fx), wO s0 7 [.ref s1, .ref s2, .int (nI sl), .int spl, .int svo, .int swi, .int sch], wI (cy 1) s1 10 (g_19), wI (cy 1) ro 20 (fa3_15), (er, .inl (cy 4, 4, .inr (.inr (.inr (.inr (eF (ea 0) (ea 1) (ea 2) (ea 3))))))), wO (ea 0) 2 [.ref (eg 0), .ref (ef 0), .int (et 0), .int (nI (el 0)), .int (nI (ei 0))], wI (cy 1) (eg 0) 10 (gc 0), wI (cy 1) (ef 0) 7 (xc 0), wO (ea 1) 2 [.ref (eg 1), .ref (ef 1), .int (et 1), .int (nI (el 1)), .int (nI (ei 1))], wI (cy 1) (eg 1) 10 (gc 1), wI (cy 1) (ef 1) 7 (xc 1), wO (ea 2) 2 [.ref (eg 2), .ref (ef 2), .int (et 2), .int (nI (el 2)), .int (nI (ei 2))], wI (cy 1) (eg 2) 10 (gc 2), wI (cy 1) (ef 2) 7 (xc 2), wO (ea 3) 2 [.ref (eg 3), .ref (ef 3), .int (et 3), .int (nI (el 3)), .int (nI (ei 3))], wI (cy 1) (eg 3) 10 (gc 3), wI (cy 1) (ef 3) 7 (xc 3)] := hD
          refine lv_iconst (v := 0) hx hb dX6_chooseWords_110 (by decide) ?_
          exact x_zret hQ hx hb hr hlocks hK hP hD hS rfl dX6_chooseWords_111 (fa1_15, g_19, fa3_15) (⟨(Or.inl rfl), hr_20, ha4_15⟩) [0, 1, 2, 3, 4, 5, 6, 7, 8, 9, 10, 11, 12, 13, 14, 15, 16, 17, 18, 19, 20, 21, 22] (by decide +kernel) rfl (Nat.le_of_ble_eq_true rfl) (Nat.le_of_ble_eq_true rfl)
        · have q_18 : wd15 < c0 := q_nle (a := c0) (b := wd15) rfl rfl (by omega) (by omega) c_17
          refine lv_iload hx hb dX6_chooseWords_52 (lv_at hl 0 rfl) ?_
          refine lv_iload_n hx hb dX6_chooseWords_54 rfl (lv_at hl 1 rfl) ?_
          refine lv_icmp_eq (tgt := 94) hx hb dX6_chooseWords_55 (by decide) (fun c_21 => ?_) (fun c_21 => ?_)
          · have q_22 : wd15 = j_13 := q_eq (a := wd15) (b := j_13) rfl rfl (by omega) (by omega) c_21
            refine lv_iinc (v := nI (wd15 + 1)) (lv' := [(4, .int (nI (wd15 + 1))), (3, .int (nI j_13)), (2, .int (nI j_11)), (0, .ref p0), (1, .int 2)]) hx hb dX6_chooseWords_94 hl (k := 0) rfl (nI_add wd15 1) (by decide) rfl (fun ls hl => ?_)
            refine lv_goto (tgt := 38) hx hb dX6_chooseWords_97 (by decide) ?_
            exact ih15  ((wd15 + 1)) fa1_15 fa2_15 fa3_15 ha3_15 ha4_15 (by omega) (by omega) _ _ (hP.sub [0, 1, 2, 3, 4, 5, 6, 7, 8, 9, 10, 11, 12, 13, 14, 15, 16, 17, 18, 19, 20, 21, 22] rfl) (hD.sub [0, 1, 2, 3, 4, 5, 6, 7, 8, 9, 10, 11, 12, 13, 14, 15, 16, 17, 18, 19, 20, 21, 22] (by decide +kernel) rfl) hS ls (lv_sub hl [0, 1, 2, 3, 4] rfl)
          · have q_22 : ¬ wd15 = j_13 := q_ne (a := wd15) (b := j_13) rfl rfl (by omega) (by omega) c_21
            refine lv_aload_n hx hb dX6_chooseWords_58 rfl (lv_at hl 3 rfl) ?_
            refine va_get (D := D) (ci := 6) (v := .ref s0) (C := RX6) (T := TX6) (N := 9) hx hb hg i_X6 hown hK hP 0 rfl rfl 7 (by decide) (hg _ m_592) (fun _ h9 => h9) rfl dX6_chooseWords_59 ?_
            refine va_get (D := D) (ci := 7) (v := .ref s1) (C := RX7) (T := TX7) (N := 7) hx hb hg i_X7 hown hK hP 7 rfl rfl 0 (by decide) (hg _ m_622) (fun _ h9 => h9) rfl dX6_chooseWords_62 ?_
            refine lv_iload_n hx hb dX6_chooseWords_65 rfl (lv_at hl 2 rfl) ?_
            refine lv_iload hx hb dX6_chooseWords_66 (lv_at hl 0 rfl) ?_
            refine va_iast hx hb hK hP hD hS 8 1 rfl rfl (vp_in_nI (by omega) (by decide)) dX6_chooseWords_68 (fun H locs hP9 hD9 hS9 => ?_)
            clear hP hD hS
            have hP := hP9
            have hD := hD9
            have hS := hS9
            clear hP9 hD9 hS9
            obtain ⟨g_23, eg_23⟩ : ∃ y, upd fa2_15 (nI j_11 : Int32).toNatClampNeg (nI wd15) = y := ⟨_, rfl⟩
            rw [eg_23] at hP hD
            have hr_24 : rng g_23 10 7 := eg_23 ▸ rng_put ha3_15 (j := wd15) (by omega)
            replace hP : va_P D vwCl [wO p0 6 [.ref p1, .ref er, .ref ro, .ref p2, .ref p3, .ref p4, .ref h0, .ref s0, .int (nI ch)], wI (cy 1) p3 4 (fne), wI (cy 1) p1 3 (fa1_15), wI (cy 1) p2 3 (fpc), wO h0 4 [.ref h1, .ref h2, .ref h3, .ref h4, .ref h5, .ref h6, .ref h7, .ref h8, .ref h9, .ref h10, .ref h11, .int ys, hv1, hv2, hv3, hv4], wI (cy 1) h1 4 (fc), wI (cy 1) h7 48 (fx), wO s0 7 [.ref s1, .ref s2, .int (nI sl), .int spl, .int svo, .int swi, .int sch], wI (cy 1) s1 10 (g_23), wI (cy 1) ro 20 (fa3_15), (er, .inl (cy 4, 4, .inr (.inr (.inr (.inr (eF (ea 0) (ea 1) (ea 2) (ea 3))))))), wO (ea 0) 2 [.ref (eg 0), .ref (ef 0), .int (et 0), .int (nI (el 0)), .int (nI (ei 0))], wI (cy 1) (eg 0) 10 (gc 0), wI (cy 1) (ef 0) 7 (xc 0), wO (ea 1) 2 [.ref (eg 1), .ref (ef 1), .int (et 1), .int (nI (el 1)), .int (nI (ei 1))], wI (cy 1) (eg 1) 10 (gc 1), wI (cy 1) (ef 1) 7 (xc 1), wO (ea 2) 2 [.ref (eg 2), .ref (ef 2), .int (et 2), .int (nI (el 2)), .int (nI (ei 2))], wI (cy 1) (eg 2) 10 (gc 2), wI (cy 1) (ef 2) 7 (xc 2), wO (ea 3) 2 [.ref (eg 3), .ref (ef 3), .int (et 3), .int (nI (el 3)), .int (nI (ei 3))], wI (cy 1) (eg 3) 10 (gc 3), wI (cy 1) (ef 3) 7 (xc 3)] H := hP
            replace hD : va_D A [wO p0 6 [.ref p1, .ref er, .ref ro, .ref p2, .ref p3, .ref p4, .ref h0, .ref s0, .int (nI ch)], wI (cy 1) p3 4 (fne), wI (cy 1) p1 3 (fa1_15), wI (cy 1) p2 3 (fpc), wO h0 4 [.ref h1, .ref h2, .ref h3, .ref h4, .ref h5, .ref h6, .ref h7, .ref h8, .ref h9, .ref h10, .ref h11, .int ys, hv1, hv2, hv3, hv4], wI (cy 1) h1 4 (fc), wI (cy 1) h7 48 (fx), wO s0 7 [.ref s1, .ref s2, .int (nI sl), .int spl, .int svo, .int swi, .int sch], wI (cy 1) s1 10 (g_23), wI (cy 1) ro 20 (fa3_15), (er, .inl (cy 4, 4, .inr (.inr (.inr (.inr (eF (ea 0) (ea 1) (ea 2) (ea 3))))))), wO (ea 0) 2 [.ref (eg 0), .ref (ef 0), .int (et 0), .int (nI (el 0)), .int (nI (ei 0))], wI (cy 1) (eg 0) 10 (gc 0), wI (cy 1) (ef 0) 7 (xc 0), wO (ea 1) 2 [.ref (eg 1), .ref (ef 1), .int (et 1), .int (nI (el 1)), .int (nI (ei 1))], wI (cy 1) (eg 1) 10 (gc 1), wI (cy 1) (ef 1) 7 (xc 1), wO (ea 2) 2 [.ref (eg 2), .ref (ef 2), .int (et 2), .int (nI (el 2)), .int (nI (ei 2))], wI (cy 1) (eg 2) 10 (gc 2), wI (cy 1) (ef 2) 7 (xc 2), wO (ea 3) 2 [.ref (eg 3), .ref (ef 3), .int (et 3), .int (nI (el 3)), .int (nI (ei 3))], wI (cy 1) (eg 3) 10 (gc 3), wI (cy 1) (ef 3) 7 (xc 3)] := hD
            refine lv_aload_n hx hb dX6_chooseWords_69 rfl (lv_at hl 3 rfl) ?_
            refine va_get (D := D) (ci := 6) (v := .ref p1) (C := RX6) (T := TX6) (N := 9) hx hb hg i_X6 hown hK hP 0 rfl rfl 0 (by decide) (hg _ m_584) (fun _ h9 => h9) rfl dX6_chooseWords_70 ?_
            refine lv_iload_n hx hb dX6_chooseWords_73 rfl (lv_at hl 4 rfl) ?_
            refine lv_bipush (v := 10) hx hb dX6_chooseWords_74 (by decide) ?_
            refine lv_iload_n hx hb dX6_chooseWords_76 rfl (lv_at hl 2 rfl) ?_
            refine lv_imul hx hb dX6_chooseWords_77 ?_
            refine lv_topi (fun y_25 hy_25 => ?_)
            obtain rfl : y_25 = nI (10 * j_11) := hy_25.trans (pk_mul 10 j_11)
            refine lv_iload hx hb dX6_chooseWords_78 (lv_at hl 0 rfl) ?_
            refine lv_iadd hx hb dX6_chooseWords_80 ?_
            refine lv_topi (fun y_26 hy_26 => ?_)
            obtain rfl : y_26 = nI ((10 * j_11) + wd15) := hy_26.trans (nI_add ((10 * j_11)) wd15)
            refine va_iast hx hb hK hP hD hS 2 1 rfl rfl (by unfold vp_in; decide) dX6_chooseWords_81 (fun H locs hP9 hD9 hS9 => ?_)
            clear hP hD hS
            obtain ⟨g_27, eg_27⟩ : ∃ y, upd fa1_15 (2 : Int32).toNatClampNeg (nI ((10 * j_11) + wd15)) = y := ⟨_, rfl⟩
            rw [eg_27] at hP9 hD9
            refine reW [wO p0 6 [.ref p1, .ref er, .ref ro, .ref p2, .ref p3, .ref p4, .ref h0, .ref s0, .int (nI ch)], wI (cy 1) p3 4 (fne), wI (cy 1) p1 3 (g_27), wI (cy 1) p2 3 (fpc), wO h0 4 [.ref h1, .ref h2, .ref h3, .ref h4, .ref h5, .ref h6, .ref h7, .ref h8, .ref h9, .ref h10, .ref h11, .int ys, hv1, hv2, hv3, hv4], wI (cy 1) h1 4 (fc), wI (cy 1) h7 48 (fx), wO s0 7 [.ref s1, .ref s2, .int (nI sl), .int spl, .int svo, .int swi, .int sch], wI (cy 1) s1 10 (g_23), wI (cy 1) ro 20 (fa3_15), (er, .inl (cy 4, 4, .inr (.inr (.inr (.inr (eF (ea 0) (ea 1) (ea 2) (ea 3))))))), wO (ea 0) 2 [.ref (eg 0), .ref (ef 0), .int (et 0), .int (nI (el 0)), .int (nI (ei 0))], wI (cy 1) (eg 0) 10 (gc 0), wI (cy 1) (ef 0) 7 (xc 0), wO (ea 1) 2 [.ref (eg 1), .ref (ef 1), .int (et 1), .int (nI (el 1)), .int (nI (ei 1))], wI (cy 1) (eg 1) 10 (gc 1), wI (cy 1) (ef 1) 7 (xc 1), wO (ea 2) 2 [.ref (eg 2), .ref (ef 2), .int (et 2), .int (nI (el 2)), .int (nI (ei 2))], wI (cy 1) (eg 2) 10 (gc 2), wI (cy 1) (ef 2) 7 (xc 2), wO (ea 3) 2 [.ref (eg 3), .ref (ef 3), .int (et 3), .int (nI (el 3)), .int (nI (ei 3))], wI (cy 1) (eg 3) 10 (gc 3), wI (cy 1) (ef 3) 7 (xc 3)] hP9 hD9 hS9 (fun hP hD hS => ?_)
            clear hP9 hD9 hS9
            refine lv_aload_n hx hb dX6_chooseWords_82 rfl (lv_at hl 3 rfl) ?_
            refine lv_iload_n hx hb dX6_chooseWords_83 rfl (lv_at hl 4 rfl) ?_
            refine lv_iconst (v := 1) hx hb dX6_chooseWords_84 (by decide) ?_
            refine lv_iadd hx hb dX6_chooseWords_85 ?_
            refine lv_topi (fun y_28 hy_28 => ?_)
            obtain rfl : y_28 = 3 := hy_28.trans (by decide +kernel)
            refine x_callVi (q := (RX6, TX6, 9)) (ci := 6) (q0 := 0) (wr := []) (rest := []) ⟨hx, hb, hml, hown, hg, hl.1⟩ k_X6_73 (s_chooseWords3 l D cy p0 p1 p2 p3 p4 er ro ch fne g_27 fpc h0 h1 h2 h3 h4 h5 h6 h7 h8 h9 h10 h11 hv1 hv2 hv3 hv4 ys fc c0 c1 c2 c3 fx s0 s1 s2 sl spl svo swi sch g_23 fa3_15 ea eg ef et el ei gc xc (hne) (hpc) (by omega) (hcn) (by omega) (by omega) (by omega) (by omega) (hnx) (fun i9 h9 => by rcases (show i9 = 0 ∨ i9 = 1 ∨ i9 = 2 ∨ i9 = 3 by omega) with rfl | rfl | rfl | rfl <;> omega) (by omega) (hr_24) (ha4_15)) E0_blind hK hP hD hS hA [0, 1, 2, 3, 4, 5, 6, 7, 8, 9, 10, 11, 12, 13, 14, 15, 16, 17, 18, 19, 20, 21, 22] [] ⟨rfl, rfl, by decide +kernel, by decide +kernel, by decide +kernel⟩ rfl rfl (fun _ _ _ => trivial) dX6_chooseWords_86 rfl rfl (Nat.le_of_ble_eq_true rfl) ⟨Nat.le_of_ble_eq_true rfl, Nat.le_of_ble_eq_true rfl⟩ ⟨Nat.le_of_ble_eq_true rfl, Nat.le_of_ble_eq_true rfl⟩ (fun zr29 zu29 H locs hw29 hP9 hD9 hS9 => ?_)
            clear hP hD hS
            obtain ⟨ffd2_30, fw2_31, fr2_32⟩ := zu29
            refine reW [wO p0 6 [.ref p1, .ref er, .ref ro, .ref p2, .ref p3, .ref p4, .ref h0, .ref s0, .int (nI ch)], wI (cy 1) p3 4 (fne), wI (cy 1) p1 3 (ffd2_30), wI (cy 1) p2 3 (fpc), wO h0 4 [.ref h1, .ref h2, .ref h3, .ref h4, .ref h5, .ref h6, .ref h7, .ref h8, .ref h9, .ref h10, .ref h11, .int ys, hv1, hv2, hv3, hv4], wI (cy 1) h1 4 (fc), wI (cy 1) h7 48 (fx), wO s0 7 [.ref s1, .ref s2, .int (nI sl), .int spl, .int svo, .int swi, .int sch], wI (cy 1) s1 10 (fw2_31), wI (cy 1) ro 20 (fr2_32), (er, .inl (cy 4, 4, .inr (.inr (.inr (.inr (eF (ea 0) (ea 1) (ea 2) (ea 3))))))), wO (ea 0) 2 [.ref (eg 0), .ref (ef 0), .int (et 0), .int (nI (el 0)), .int (nI (ei 0))], wI (cy 1) (eg 0) 10 (gc 0), wI (cy 1) (ef 0) 7 (xc 0), wO (ea 1) 2 [.ref (eg 1), .ref (ef 1), .int (et 1), .int (nI (el 1)), .int (nI (ei 1))], wI (cy 1) (eg 1) 10 (gc 1), wI (cy 1) (ef 1) 7 (xc 1), wO (ea 2) 2 [.ref (eg 2), .ref (ef 2), .int (et 2), .int (nI (el 2)), .int (nI (ei 2))], wI (cy 1) (eg 2) 10 (gc 2), wI (cy 1) (ef 2) 7 (xc 2), wO (ea 3) 2 [.ref (eg 3), .ref (ef 3), .int (et 3), .int (nI (el 3)), .int (nI (ei 3))], wI (cy 1) (eg 3) 10 (gc 3), wI (cy 1) (ef 3) 7 (xc 3)] hP9 hD9 hS9 (fun hP hD hS => ?_)
            clear hP9 hD9 hS9
            refine W.widen (k := 0) (n := 0) (Nat.le_of_ble_eq_true rfl) (Nat.le_of_ble_eq_true rfl) ?_
            replace hw29 : (zr29 = 0 ∨ zr29 = 1) ∧ (rng fw2_31 10 7) ∧ (rng fr2_32 20 7) := hw29
            obtain ⟨f_33, f_34, f_35⟩ := hw29
            refine lv_if_eq (tgt := 94) hx hb dX6_chooseWords_89 (by decide) (fun c_89 => ?_) (fun c_89 => ?_)
            · refine lv_iinc (v := nI (wd15 + 1)) (lv' := [(4, .int (nI (wd15 + 1))), (3, .int (nI j_13)), (2, .int (nI j_11)), (0, .ref p0), (1, .int 2)]) hx hb dX6_chooseWords_94 hl (k := 0) rfl (nI_add wd15 1) (by decide) rfl (fun ls hl => ?_)
              refine lv_goto (tgt := 38) hx hb dX6_chooseWords_97 (by decide) ?_
              exact ih15  ((wd15 + 1)) ffd2_30 fw2_31 fr2_32 f_34 f_35 (by omega) (by omega) _ _ (hP.sub [0, 1, 2, 3, 4, 5, 6, 7, 8, 9, 10, 11, 12, 13, 14, 15, 16, 17, 18, 19, 20, 21, 22] rfl) (hD.sub [0, 1, 2, 3, 4, 5, 6, 7, 8, 9, 10, 11, 12, 13, 14, 15, 16, 17, 18, 19, 20, 21, 22] (by decide +kernel) rfl) hS ls (lv_sub hl [0, 1, 2, 3, 4] rfl)
            · refine lv_iconst (v := 1) hx hb dX6_chooseWords_92 (by decide) ?_
              exact x_zret hQ hx hb hr hlocks hK hP hD hS rfl dX6_chooseWords_93 (ffd2_30, fw2_31, fr2_32) (⟨(Or.inr rfl), f_34, f_35⟩) [0, 1, 2, 3, 4, 5, 6, 7, 8, 9, 10, 11, 12, 13, 14, 15, 16, 17, 18, 19, 20, 21, 22] (by decide +kernel) rfl (Nat.le_of_ble_eq_true rfl) (Nat.le_of_ble_eq_true rfl)
    exact loop15 _ 0 ffd fw fr hsw hrw (by omega) (Nat.le_refl _) _ _ (hP.sub [0, 1, 2, 3, 4, 5, 6, 7, 8, 9, 10, 11, 12, 13, 14, 15, 16, 17, 18, 19, 20, 21, 22] rfl) (hD.sub [0, 1, 2, 3, 4, 5, 6, 7, 8, 9, 10, 11, 12, 13, 14, 15, 16, 17, 18, 19, 20, 21, 22] (by decide +kernel) rfl) hS ls (lv_sub hl [0, 1, 2, 3, 4] rfl)
set_option maxHeartbeats 1000000 in
set_option maxRecDepth 100000 in
theorem s_chooseWords1 (l : Launch) (D : va_G) (cy : Nat → ClassId) (p0 : Nat) (p1 : Nat) (p2 : Nat) (p3 : Nat) (p4 : Nat) (er : Nat) (ro : Nat) (ch : Nat) (fne : Nat → Int32) (ffd : Nat → Int32) (fpc : Nat → Int32) (h0 : Nat) (h1 : Nat) (h2 : Nat) (h3 : Nat) (h4 : Nat) (h5 : Nat) (h6 : Nat) (h7 : Nat) (h8 : Nat) (h9 : Nat) (h10 : Nat) (h11 : Nat) (hv1 : Value) (hv2 : Value) (hv3 : Value) (hv4 : Value) (ys : Int32) (fc : Nat → Int32) (c0 : Nat) (c1 : Nat) (c2 : Nat) (c3 : Nat) (fx : Nat → Int32) (s0 : Nat) (s1 : Nat) (s2 : Nat) (sl : Nat) (spl : Int32) (svo : Int32) (swi : Int32) (sch : Int32) (fw : Nat → Int32) (fr : Nat → Int32) (ea : Nat → Nat) (eg : Nat → Nat) (ef : Nat → Nat) (et : Nat → Int32) (el : Nat → Nat) (ei : Nat → Nat) (gc : Nat → Nat → Int32) (xc : Nat → Nat → Int32) (hne : nOK fne c1) (hpc : rng fpc 3 9) (hch : ch ≤ 3) (hcn : cntOK fc c0 c1 c2 c3) (hc0 : c0 ≤ 8) (hc1 : c1 ≤ 4) (hc2 : c2 ≤ 4) (hc3 : c3 ≤ 6) (hnx : rng fx 48 5) (hel : ∀ i9, i9 < 4 → el i9 ≤ 10) (hsl : sl ≤ 10) (hsw : rng fw 10 7) (hrw : rng fr 20 7) : XMi l D (tyL cy) E0 yX6_chooseWords cX6_chooseWords 5 (some .boolean) (rmk 7 0 0) [.ref p0, .int 1] [wO p0 6 [.ref p1, .ref er, .ref ro, .ref p2, .ref p3, .ref p4, .ref h0, .ref s0, .int (nI ch)], wI (cy 1) p3 4 (fne), wI (cy 1) p1 3 (ffd), wI (cy 1) p2 3 (fpc), wO h0 4 [.ref h1, .ref h2, .ref h3, .ref h4, .ref h5, .ref h6, .ref h7, .ref h8, .ref h9, .ref h10, .ref h11, .int ys, hv1, hv2, hv3, hv4], wI (cy 1) h1 4 (fc), wI (cy 1) h7 48 (fx), wO s0 7 [.ref s1, .ref s2, .int (nI sl), .int spl, .int svo, .int swi, .int sch], wI (cy 1) s1 10 (fw), wI (cy 1) ro 20 (fr), (er, .inl (cy 4, 4, .inr (.inr (.inr (.inr (eF (ea 0) (ea 1) (ea 2) (ea 3))))))), wO (ea 0) 2 [.ref (eg 0), .ref (ef 0), .int (et 0), .int (nI (el 0)), .int (nI (ei 0))], wI (cy 1) (eg 0) 10 (gc 0), wI (cy 1) (ef 0) 7 (xc 0), wO (ea 1) 2 [.ref (eg 1), .ref (ef 1), .int (et 1), .int (nI (el 1)), .int (nI (ei 1))], wI (cy 1) (eg 1) 10 (gc 1), wI (cy 1) (ef 1) 7 (xc 1), wO (ea 2) 2 [.ref (eg 2), .ref (ef 2), .int (et 2), .int (nI (el 2)), .int (nI (ei 2))], wI (cy 1) (eg 2) 10 (gc 2), wI (cy 1) (ef 2) 7 (xc 2), wO (ea 3) 2 [.ref (eg 3), .ref (ef 3), .int (et 3), .int (nI (el 3)), .int (nI (ei 3))], wI (cy 1) (eg 3) 10 (gc 3), wI (cy 1) (ef 3) 7 (xc 3)] (fun (r : Int32) (u : (Nat → Int32) × (Nat → Int32) × (Nat → Int32)) => (r = 0 ∨ r = 1) ∧ (rng u.2.1 10 7) ∧ (rng u.2.2 20 7)) (fun (u : (Nat → Int32) × (Nat → Int32) × (Nat → Int32)) => [wO p0 6 [.ref p1, .ref er, .ref ro, .ref p2, .ref p3, .ref p4, .ref h0, .ref s0, .int (nI ch)], wI (cy 1) p3 4 (fne), wI (cy 1) p1 3 (u.1), wI (cy 1) p2 3 (fpc), wO h0 4 [.ref h1, .ref h2, .ref h3, .ref h4, .ref h5, .ref h6, .ref h7, .ref h8, .ref h9, .ref h10, .ref h11, .int ys, hv1, hv2, hv3, hv4], wI (cy 1) h1 4 (fc), wI (cy 1) h7 48 (fx), wO s0 7 [.ref s1, .ref s2, .int (nI sl), .int spl, .int svo, .int swi, .int sch], wI (cy 1) s1 10 (u.2.1), wI (cy 1) ro 20 (u.2.2), (er, .inl (cy 4, 4, .inr (.inr (.inr (.inr (eF (ea 0) (ea 1) (ea 2) (ea 3))))))), wO (ea 0) 2 [.ref (eg 0), .ref (ef 0), .int (et 0), .int (nI (el 0)), .int (nI (ei 0))], wI (cy 1) (eg 0) 10 (gc 0), wI (cy 1) (ef 0) 7 (xc 0), wO (ea 1) 2 [.ref (eg 1), .ref (ef 1), .int (et 1), .int (nI (el 1)), .int (nI (ei 1))], wI (cy 1) (eg 1) 10 (gc 1), wI (cy 1) (ef 1) 7 (xc 1), wO (ea 2) 2 [.ref (eg 2), .ref (ef 2), .int (et 2), .int (nI (el 2)), .int (nI (ei 2))], wI (cy 1) (eg 2) 10 (gc 2), wI (cy 1) (ef 2) 7 (xc 2), wO (ea 3) 2 [.ref (eg 3), .ref (ef 3), .int (et 3), .int (nI (el 3)), .int (nI (ei 3))], wI (cy 1) (eg 3) 10 (gc 3), wI (cy 1) (ef 3) 7 (xc 3)]) := by
  refine XMi.start (by decide) (Nat.le_of_ble_eq_true rfl) ?_
  intro p e s m below meth c args A ls Q hat hQ
  obtain ⟨hx, hb, hr, hml, hown, hg, hlocks, hin, hK, hA, hP, hD, hS, hE, hl⟩ := hat
  have hown : s.vm.findClass RX6 = some m.cls := hown
  have hl : lv_has ls 5 [(0, .ref p0), (1, .int 1)] := hl
  have hk_1 := hel 0 (by decide)
  have hk_2 := hel 1 (by decide)
  have hk_3 := hel 2 (by decide)
  have hk_4 := hel 3 (by decide)
  refine lv_iload_n hx hb dX6_chooseWords_0 rfl (lv_at hl 1 rfl) ?_
  refine lv_aload_n hx hb dX6_chooseWords_1 rfl (lv_at hl 0 rfl) ?_
  refine va_get (D := D) (ci := 6) (v := .int (nI ch)) (C := RX6) (T := TX6) (N := 9) hx hb hg i_X6 hown hK hP 0 rfl rfl 8 (by decide) (hg _ m_593) (fun _ h9 => h9) rfl dX6_chooseWords_2 ?_
  refine lv_icmp_ge (tgt := 13) hx hb dX6_chooseWords_5 (by decide) (fun c_5 => ?_) (fun c_5 => ?_)
  · have q_6 : ch ≤ 1 := q_le (a := ch) (b := 1) rfl rfl (by omega) (by omega) c_5
    refine lv_aload_n hx hb dX6_chooseWords_13 rfl (lv_at hl 0 rfl) ?_
    refine x_callVi (q := (RX6, TX6, 9)) (ci := 6) (q0 := 0) (wr := [wI (cy 1) p1 3 (ffd), wI (cy 1) p2 3 (fpc)]) (rest := []) ⟨hx, hb, hml, hown, hg, hl.1⟩ k_X6_113 (s_isYesNow l D cy p0 p1 p2 p3 p4 er ro ch fne h0 h1 h2 h3 h4 h5 h6 h7 h8 h9 h10 h11 hv1 hv2 hv3 hv4 ys fc c0 c1 c2 c3 fx s0 s1 s2 sl spl svo swi sch fw fr ea eg ef et el ei gc xc (hne) (hcn) (by omega) (by omega) (by omega) (by omega) (hnx) (fun i9 h9 => by rcases (show i9 = 0 ∨ i9 = 1 ∨ i9 = 2 ∨ i9 = 3 by omega) with rfl | rfl | rfl | rfl <;> omega) (by omega) (hsw) (hrw)) E0_blind hK hP hD hS hA [0, 1, 4, 5, 6, 7, 8, 9, 10, 11, 12, 13, 14, 15, 16, 17, 18, 19, 20, 21, 22] [2, 3] ⟨rfl, rfl, by decide +kernel, by decide +kernel, by decide +kernel⟩ rfl rfl (fun _ _ _ => trivial) dX6_chooseWords_14 rfl rfl (Nat.le_of_ble_eq_true rfl) ⟨Nat.le_of_ble_eq_true rfl, Nat.le_of_ble_eq_true rfl⟩ ⟨Nat.le_of_ble_eq_true rfl, Nat.le_of_ble_eq_true rfl⟩ (fun zr7 zu7 H locs hw7 hP9 hD9 hS9 => ?_)
    clear hP hD hS
    obtain ⟨fr2_8, rfl⟩ : ∃ z, z = zu7 := ⟨_, rfl⟩
    refine reW [wI (cy 1) p1 3 (ffd), wI (cy 1) p2 3 (fpc), wO p0 6 [.ref p1, .ref er, .ref ro, .ref p2, .ref p3, .ref p4, .ref h0, .ref s0, .int (nI ch)], wI (cy 1) p3 4 (fne), wO h0 4 [.ref h1, .ref h2, .ref h3, .ref h4, .ref h5, .ref h6, .ref h7, .ref h8, .ref h9, .ref h10, .ref h11, .int ys, hv1, hv2, hv3, hv4], wI (cy 1) h1 4 (fc), wI (cy 1) h7 48 (fx), wO s0 7 [.ref s1, .ref s2, .int (nI sl), .int spl, .int svo, .int swi, .int sch], wI (cy 1) s1 10 (fw), wI (cy 1) ro 20 (fr2_8), (er, .inl (cy 4, 4, .inr (.inr (.inr (.inr (eF (ea 0) (ea 1) (ea 2) (ea 3))))))), wO (ea 0) 2 [.ref (eg 0), .ref (ef 0), .int (et 0), .int (nI (el 0)), .int (nI (ei 0))], wI (cy 1) (eg 0) 10 (gc 0), wI (cy 1) (ef 0) 7 (xc 0), wO (ea 1) 2 [.ref (eg 1), .ref (ef 1), .int (et 1), .int (nI (el 1)), .int (nI (ei 1))], wI (cy 1) (eg 1) 10 (gc 1), wI (cy 1) (ef 1) 7 (xc 1), wO (ea 2) 2 [.ref (eg 2), .ref (ef 2), .int (et 2), .int (nI (el 2)), .int (nI (ei 2))], wI (cy 1) (eg 2) 10 (gc 2), wI (cy 1) (ef 2) 7 (xc 2), wO (ea 3) 2 [.ref (eg 3), .ref (ef 3), .int (et 3), .int (nI (el 3)), .int (nI (ei 3))], wI (cy 1) (eg 3) 10 (gc 3), wI (cy 1) (ef 3) 7 (xc 3)] hP9 hD9 hS9 (fun hP hD hS => ?_)
    clear hP9 hD9 hS9
    refine W.widen (k := 0) (n := 0) (Nat.le_of_ble_eq_true rfl) (Nat.le_of_ble_eq_true rfl) ?_
    replace hw7 : (zr7 = 0 ∨ zr7 = 1) ∧ (rng fr2_8 20 7) := hw7
    obtain ⟨f_9, f_10⟩ := hw7
    exact x_zret hQ hx hb hr hlocks hK hP hD hS (narB f_9) dX6_chooseWords_17 (ffd, fw, fr2_8) (⟨f_9, hsw, f_10⟩) [2, 3, 0, 1, 4, 5, 6, 7, 8, 9, 10, 11, 12, 13, 14, 15, 16, 17, 18, 19, 20, 21, 22] (by decide +kernel) rfl (Nat.le_of_ble_eq_true rfl) (Nat.le_of_ble_eq_true rfl)
  · have q_6 : 1 < ch := q_nle (a := ch) (b := 1) rfl rfl (by omega) (by omega) c_5
    refine lv_iload_n hx hb dX6_chooseWords_8 rfl (lv_at hl 1 rfl) ?_
    refine lv_iconst (v := 3) hx hb dX6_chooseWords_9 (by decide) ?_
    refine lv_icmp_lt (tgt := 18) hx hb dX6_chooseWords_10 (by decide) (fun _ => ?_) (fun h => absurd (by decide) h)
    refine lv_aload_n hx hb dX6_chooseWords_18 rfl (lv_at hl 0 rfl) ?_
    refine va_get (D := D) (ci := 6) (v := .ref p2) (C := RX6) (T := TX6) (N := 9) hx hb hg i_X6 hown hK hP 0 rfl rfl 3 (by decide) (hg _ m_588) (fun _ h9 => h9) rfl dX6_chooseWords_19 ?_
    refine lv_iload_n hx hb dX6_chooseWords_22 rfl (lv_at hl 1 rfl) ?_
    refine va_iald hx hb hK hP 3 1 rfl rfl (by unfold vp_in; decide) dX6_chooseWords_23 ?_
    obtain ⟨j_11, hj_11, ej_11⟩ := rng_at hpc (i := 1) (by omega) (by decide)
    refine lv_topi (fun y_12 hy_12 => ?_)
    obtain rfl : y_12 = nI j_11 := hy_12.trans ej_11
    refine lv_istore_n (lv' := [(2, .int (nI j_11)), (0, .ref p0), (1, .int 1)]) hx hb dX6_chooseWords_24 rfl hl (by decide) rfl (fun ls hl => ?_)
    refine lv_aload_n hx hb dX6_chooseWords_25 rfl (lv_at hl 1 rfl) ?_
    refine va_get (D := D) (ci := 6) (v := .ref s0) (C := RX6) (T := TX6) (N := 9) hx hb hg i_X6 hown hK hP 0 rfl rfl 7 (by decide) (hg _ m_592) (fun _ h9 => h9) rfl dX6_chooseWords_26 ?_
    refine va_get (D := D) (ci := 7) (v := .ref s1) (C := RX7) (T := TX7) (N := 7) hx hb hg i_X7 hown hK hP 7 rfl rfl 0 (by decide) (hg _ m_622) (fun _ h9 => h9) rfl dX6_chooseWords_29 ?_
    refine lv_iload_n hx hb dX6_chooseWords_32 rfl (lv_at hl 0 rfl) ?_
    refine va_iald hx hb hK hP 8 1 rfl rfl (vp_in_nI (by omega) (by decide)) dX6_chooseWords_33 ?_
    obtain ⟨j_13, hj_13, ej_13⟩ := rng_at hsw (i := j_11) (by omega) (by decide)
    refine lv_topi (fun y_14 hy_14 => ?_)
    obtain rfl : y_14 = nI j_13 := hy_14.trans ej_13
    refine lv_istore_n (lv' := [(3, .int (nI j_13)), (2, .int (nI j_11)), (0, .ref p0), (1, .int 1)]) hx hb dX6_chooseWords_34 rfl hl (by decide) rfl (fun ls hl => ?_)
    refine lv_iconst (v := 0) hx hb dX6_chooseWords_35 (by decide) ?_
    refine lv_istore (lv' := [(4, .int 0), (3, .int (nI j_13)), (2, .int (nI j_11)), (0, .ref p0), (1, .int 1)]) hx hb dX6_chooseWords_36 hl (by decide) rfl (fun ls hl => ?_)
    have loop15 : ∀ (zn : Nat) (wd15 : Nat) (fa1_15 : Nat → Int32) (fa2_15 : Nat → Int32) (fa3_15 : Nat → Int32), (rng fa2_15 10 7) → (rng fa3_15 20 7) → (wd15 ≤ c0) → c0 - wd15 + 1 ≤ zn → ∀ (H : Heap) (locs : List Loc), va_P D vwCl [wO p0 6 [.ref p1, .ref er, .ref ro, .ref p2, .ref p3, .ref p4, .ref h0, .ref s0, .int (nI ch)], wI (cy 1) p3 4 (fne), wI (cy 1) p1 3 (fa1_15), wI (cy 1) p2 3 (fpc), wO h0 4 [.ref h1, .ref h2, .ref h3, .ref h4, .ref h5, .ref h6, .ref h7, .ref h8, .ref h9, .ref h10, .ref h11, .int ys, hv1, hv2, hv3, hv4], wI (cy 1) h1 4 (fc), wI (cy 1) h7 48 (fx), wO s0 7 [.ref s1, .ref s2, .int (nI sl), .int spl, .int svo, .int swi, .int sch], wI (cy 1) s1 10 (fa2_15), wI (cy 1) ro 20 (fa3_15), (er, .inl (cy 4, 4, .inr (.inr (.inr (.inr (eF (ea 0) (ea 1) (ea 2) (ea 3))))))), wO (ea 0) 2 [.ref (eg 0), .ref (ef 0), .int (et 0), .int (nI (el 0)), .int (nI (ei 0))], wI (cy 1) (eg 0) 10 (gc 0), wI (cy 1) (ef 0) 7 (xc 0), wO (ea 1) 2 [.ref (eg 1), .ref (ef 1), .int (et 1), .int (nI (el 1)), .int (nI (ei 1))], wI (cy 1) (eg 1) 10 (gc 1), wI (cy 1) (ef 1) 7 (xc 1), wO (ea 2) 2 [.ref (eg 2), .ref (ef 2), .int (et 2), .int (nI (el 2)), .int (nI (ei 2))], wI (cy 1) (eg 2) 10 (gc 2), wI (cy 1) (ef 2) 7 (xc 2), wO (ea 3) 2 [.ref (eg 3), .ref (ef 3), .int (et 3), .int (nI (el 3)), .int (nI (ei 3))], wI (cy 1) (eg 3) 10 (gc 3), wI (cy 1) (ef 3) 7 (xc 3)] H → va_D A [wO p0 6 [.ref p1, .ref er, .ref ro, .ref p2, .ref p3, .ref p4, .ref h0, .ref s0, .int (nI ch)], wI (cy 1) p3 4 (fne), wI (cy 1) p1 3 (fa1_15), wI (cy 1) p2 3 (fpc), wO h0 4 [.ref h1, .ref h2, .ref h3, .ref h4, .ref h5, .ref h6, .ref h7, .ref h8, .ref h9, .ref h10, .ref h11, .int ys, hv1, hv2, hv3, hv4], wI (cy 1) h1 4 (fc), wI (cy 1) h7 48 (fx), wO s0 7 [.ref s1, .ref s2, .int (nI sl), .int spl, .int svo, .int swi, .int sch], wI (cy 1) s1 10 (fa2_15), wI (cy 1) ro 20 (fa3_15), (er, .inl (cy 4, 4, .inr (.inr (.inr (.inr (eF (ea 0) (ea 1) (ea 2) (ea 3))))))), wO (ea 0) 2 [.ref (eg 0), .ref (ef 0), .int (et 0), .int (nI (el 0)), .int (nI (ei 0))], wI (cy 1) (eg 0) 10 (gc 0), wI (cy 1) (ef 0) 7 (xc 0), wO (ea 1) 2 [.ref (eg 1), .ref (ef 1), .int (et 1), .int (nI (el 1)), .int (nI (ei 1))], wI (cy 1) (eg 1) 10 (gc 1), wI (cy 1) (ef 1) 7 (xc 1), wO (ea 2) 2 [.ref (eg 2), .ref (ef 2), .int (et 2), .int (nI (el 2)), .int (nI (ei 2))], wI (cy 1) (eg 2) 10 (gc 2), wI (cy 1) (ef 2) 7 (xc 2), wO (ea 3) 2 [.ref (eg 3), .ref (ef 3), .int (et 3), .int (nI (el 3)), .int (nI (ei 3))], wI (cy 1) (eg 3) 10 (gc 3), wI (cy 1) (ef 3) 7 (xc 3)] → va_S A s.heap H locs → ∀ ls : Array Slot, lv_has ls 5 [(4, .int (nI wd15)), (3, .int (nI j_13)), (2, .int (nI j_11)), (0, .ref p0), (1, .int 1)] → W p l e (rmk 7 0 0) s m args below meth c H locs 0 0 Q (F0 m 38 ls []) := by
      try clear hP hD hS
      intro zn
      induction zn with
      | zero => intro wd15 fa1_15 fa2_15 fa3_15 _ _ _ hz; exact absurd hz (by omega)
      | succ zn ih15 =>
        intro wd15 fa1_15 fa2_15 fa3_15 ha3_15 ha4_15 hf0_15 hmu15 H locs hP hD hS ls hl
        refine lv_iload hx hb dX6_chooseWords_38 (lv_at hl 0 rfl) ?_
        refine lv_aload_n hx hb dX6_chooseWords_40 rfl (lv_at hl 3 rfl) ?_
        refine va_get (D := D) (ci := 6) (v := .ref h0) (C := RX6) (T := TX6) (N := 9) hx hb hg i_X6 hown hK hP 0 rfl rfl 6 (by decide) (hg _ m_591) (fun _ h9 => h9) rfl dX6_chooseWords_41 ?_
        refine va_get (D := D) (ci := 4) (v := .ref h1) (C := RX4) (T := TX4) (N := 16) hx hb hg i_X4 hown hK hP 4 rfl rfl 0 (by decide) (hg _ m_330) (fun _ h9 => h9) rfl dX6_chooseWords_44 ?_
        refine lv_iconst (v := 0) hx hb dX6_chooseWords_47 (by decide) ?_
        refine va_iald hx hb hK hP 5 1 rfl rfl (by unfold vp_in; decide) dX6_chooseWords_48 ?_
        refine lv_topi (fun y_16 hy_16 => ?_)
        obtain rfl : y_16 = nI c0 := hy_16.trans hcn.1
        refine lv_icmp_ge (tgt := 100) hx hb dX6_chooseWords_49 (by decide) (fun c_17 => ?_) (fun c_17 => ?_)
        · have q_18 : c0 ≤ wd15 := q_le (a := c0) (b := wd15) rfl rfl (by omega) (by omega) c_17
          refine lv_aload_n hx hb dX6_chooseWords_100 rfl (lv_at hl 3 rfl) ?_
          refine va_get (D := D) (ci := 6) (v := .ref s0) (C := RX6) (T := TX6) (N := 9) hx hb hg i_X6 hown hK hP 0 rfl rfl 7 (by decide) (hg _ m_592) (fun _ h9 => h9) rfl dX6_chooseWords_101 ?_
          refine va_get (D := D) (ci := 7) (v := .ref s1) (C := RX7) (T := TX7) (N := 7) hx hb hg i_X7 hown hK hP 7 rfl rfl 0 (by decide) (hg _ m_622) (fun _ h9 => h9) rfl dX6_chooseWords_104 ?_
          refine lv_iload_n hx hb dX6_chooseWords_107 rfl (lv_at hl 2 rfl) ?_
          refine lv_iload_n hx hb dX6_chooseWords_108 rfl (lv_at hl 1 rfl) ?_
          refine va_iast hx hb hK hP hD hS 8 1 rfl rfl (vp_in_nI (by omega) (by decide)) dX6_chooseWords_109 (fun H locs hP9 hD9 hS9 => ?_)
          clear hP hD hS
          have hP := hP9
          have hD := hD9
          have hS := hS9
          clear hP9 hD9 hS9
          obtain ⟨g_19, eg_19⟩ : ∃ y, upd fa2_15 (nI j_11 : Int32).toNatClampNeg (nI j_13) = y := ⟨_, rfl⟩
          rw [eg_19] at hP hD
          have hr_20 : rng g_19 10 7 := eg_19 ▸ rng_put ha3_15 (j := j_13) (by omega)
          replace hP : va_P D vwCl [wO p0 6 [.ref p1, .ref er, .ref ro, .ref p2, .ref p3, .ref p4, .ref h0, .ref s0, .int (nI ch)], wI (cy 1) p3 4 (fne), wI (cy 1) p1 3 (fa1_15), wI (cy 1) p2 3 (fpc), wO h0 4 [.ref h1, .ref h2, .ref h3, .ref h4, .ref h5, .ref h6, .ref h7, .ref h8, .ref h9, .ref h10, .ref h11, .int ys, hv1, hv2, hv3, hv4], wI (cy 1) h1 4 (fc), wI (cy 1) h7 48 (fx), wO s0 7 [.ref s1, .ref s2, .int (nI sl), .int spl, .int svo, .int swi, .int sch], wI (cy 1) s1 10 (g_19), wI (cy 1) ro 20 (fa3_15), (er, .inl (cy 4, 4, .inr (.inr (.inr (.inr (eF (ea 0) (ea 1) (ea 2) (ea 3))))))), wO (ea 0) 2 [.ref (eg 0), .ref (ef 0), .int (et 0), .int (nI (el 0)), .int (nI (ei 0))], wI (cy 1) (eg 0) 10 (gc 0), wI (cy 1) (ef 0) 7 (xc 0), wO (ea 1) 2 [.ref (eg 1), .ref (ef 1), .int (et 1), .int (nI (el 1)), .int (nI (ei 1))], wI (cy 1) (eg 1) 10 (gc 1), wI (cy 1) (ef 1) 7 (xc 1), wO (ea 2) 2 [.ref (eg 2), .ref (ef 2), .int (et 2), .int (nI (el 2)), .int (nI (ei 2))], wI (cy 1) (eg 2) 10 (gc 2), wI (cy 1) (ef 2) 7 (xc 2), wO (ea 3) 2 [.ref (eg 3), .ref (ef 3), .int (et 3), .int (nI (el 3)), .int (nI (ei 3))], wI (cy 1) (eg 3) 10 (gc 3), wI (cy 1) (ef 3) 7 (xc 3)] H := hP
          replace hD : va_D A [wO p0 6 [.ref p1, .ref er, .ref ro, .ref p2, .ref p3, .ref p4, .ref h0, .ref s0, .int (nI ch)], wI (cy 1) p3 4 (fne), wI (cy 1) p1 3 (fa1_15), wI (cy 1) p2 3 (fpc), wO h0 4 [.ref h1, .ref h2, .ref h3, .ref h4, .ref h5, .ref h6, .ref h7, .ref h8, .ref h9, .ref h10, .ref h11, .int ys, hv1, hv2, hv3, hv4], wI (cy 1) h1 4 (fc), wI (cy 1) h7 48 (fx), wO s0 7 [.ref s1, .ref s2, .int (nI sl), .int spl, .int svo, .int swi, .int sch], wI (cy 1) s1 10 (g_19), wI (cy 1) ro 20 (fa3_15), (er, .inl (cy 4, 4, .inr (.inr (.inr (.inr (eF (ea 0) (ea 1) (ea 2) (ea 3))))))), wO (ea 0) 2 [.ref (eg 0), .ref (ef 0), .int (et 0), .int (nI (el 0)), .int (nI (ei 0))], wI (cy 1) (eg 0) 10 (gc 0), wI (cy 1) (ef 0) 7 (xc 0), wO (ea 1) 2 [.ref (eg 1), .ref (ef 1), .int (et 1), .int (nI (el 1)), .int (nI (ei 1))], wI (cy 1) (eg 1) 10 (gc 1), wI (cy 1) (ef 1) 7 (xc 1), wO (ea 2) 2 [.ref (eg 2), .ref (ef 2), .int (et 2), .int (nI (el 2)), .int (nI (ei 2))], wI (cy 1) (eg 2) 10 (gc 2), wI (cy 1) (ef 2) 7 (xc 2), wO (ea 3) 2 [.ref (eg 3), .ref (ef 3), .int (et 3), .int (nI (el 3)), .int (nI (ei 3))], wI (cy 1) (eg 3) 10 (gc 3), wI (cy 1) (ef 3) 7 (xc 3)] := hD
          refine lv_iconst (v := 0) hx hb dX6_chooseWords_110 (by decide) ?_
          exact x_zret hQ hx hb hr hlocks hK hP hD hS rfl dX6_chooseWords_111 (fa1_15, g_19, fa3_15) (⟨(Or.inl rfl), hr_20, ha4_15⟩) [0, 1, 2, 3, 4, 5, 6, 7, 8, 9, 10, 11, 12, 13, 14, 15, 16, 17, 18, 19, 20, 21, 22] (by decide +kernel) rfl (Nat.le_of_ble_eq_true rfl) (Nat.le_of_ble_eq_true rfl)
        · have q_18 : wd15 < c0 := q_nle (a := c0) (b := wd15) rfl rfl (by omega) (by omega) c_17
          refine lv_iload hx hb dX6_chooseWords_52 (lv_at hl 0 rfl) ?_
          refine lv_iload_n hx hb dX6_chooseWords_54 rfl (lv_at hl 1 rfl) ?_
          refine lv_icmp_eq (tgt := 94) hx hb dX6_chooseWords_55 (by decide) (fun c_21 => ?_) (fun c_21 => ?_)
          · have q_22 : wd15 = j_13 := q_eq (a := wd15) (b := j_13) rfl rfl (by omega) (by omega) c_21
            refine lv_iinc (v := nI (wd15 + 1)) (lv' := [(4, .int (nI (wd15 + 1))), (3, .int (nI j_13)), (2, .int (nI j_11)), (0, .ref p0), (1, .int 1)]) hx hb dX6_chooseWords_94 hl (k := 0) rfl (nI_add wd15 1) (by decide) rfl (fun ls hl => ?_)
            refine lv_goto (tgt := 38) hx hb dX6_chooseWords_97 (by decide) ?_
            exact ih15  ((wd15 + 1)) fa1_15 fa2_15 fa3_15 ha3_15 ha4_15 (by omega) (by omega) _ _ (hP.sub [0, 1, 2, 3, 4, 5, 6, 7, 8, 9, 10, 11, 12, 13, 14, 15, 16, 17, 18, 19, 20, 21, 22] rfl) (hD.sub [0, 1, 2, 3, 4, 5, 6, 7, 8, 9, 10, 11, 12, 13, 14, 15, 16, 17, 18, 19, 20, 21, 22] (by decide +kernel) rfl) hS ls (lv_sub hl [0, 1, 2, 3, 4] rfl)
          · have q_22 : ¬ wd15 = j_13 := q_ne (a := wd15) (b := j_13) rfl rfl (by omega) (by omega) c_21
            refine lv_aload_n hx hb dX6_chooseWords_58 rfl (lv_at hl 3 rfl) ?_
            refine va_get (D := D) (ci := 6) (v := .ref s0) (C := RX6) (T := TX6) (N := 9) hx hb hg i_X6 hown hK hP 0 rfl rfl 7 (by decide) (hg _ m_592) (fun _ h9 => h9) rfl dX6_chooseWords_59 ?_
            refine va_get (D := D) (ci := 7) (v := .ref s1) (C := RX7) (T := TX7) (N := 7) hx hb hg i_X7 hown hK hP 7 rfl rfl 0 (by decide) (hg _ m_622) (fun _ h9 => h9) rfl dX6_chooseWords_62 ?_
            refine lv_iload_n hx hb dX6_chooseWords_65 rfl (lv_at hl 2 rfl) ?_
            refine lv_iload hx hb dX6_chooseWords_66 (lv_at hl 0 rfl) ?_
            refine va_iast hx hb hK hP hD hS 8 1 rfl rfl (vp_in_nI (by omega) (by decide)) dX6_chooseWords_68 (fun H locs hP9 hD9 hS9 => ?_)
            clear hP hD hS
            have hP := hP9
            have hD := hD9
            have hS := hS9
            clear hP9 hD9 hS9
            obtain ⟨g_23, eg_23⟩ : ∃ y, upd fa2_15 (nI j_11 : Int32).toNatClampNeg (nI wd15) = y := ⟨_, rfl⟩
            rw [eg_23] at hP hD
            have hr_24 : rng g_23 10 7 := eg_23 ▸ rng_put ha3_15 (j := wd15) (by omega)
            replace hP : va_P D vwCl [wO p0 6 [.ref p1, .ref er, .ref ro, .ref p2, .ref p3, .ref p4, .ref h0, .ref s0, .int (nI ch)], wI (cy 1) p3 4 (fne), wI (cy 1) p1 3 (fa1_15), wI (cy 1) p2 3 (fpc), wO h0 4 [.ref h1, .ref h2, .ref h3, .ref h4, .ref h5, .ref h6, .ref h7, .ref h8, .ref h9, .ref h10, .ref h11, .int ys, hv1, hv2, hv3, hv4], wI (cy 1) h1 4 (fc), wI (cy 1) h7 48 (fx), wO s0 7 [.ref s1, .ref s2, .int (nI sl), .int spl, .int svo, .int swi, .int sch], wI (cy 1) s1 10 (g_23), wI (cy 1) ro 20 (fa3_15), (er, .inl (cy 4, 4, .inr (.inr (.inr (.inr (eF (ea 0) (ea 1) (ea 2) (ea 3))))))), wO (ea 0) 2 [.ref (eg 0), .ref (ef 0), .int (et 0), .int (nI (el 0)), .int (nI (ei 0))], wI (cy 1) (eg 0) 10 (gc 0), wI (cy 1) (ef 0) 7 (xc 0), wO (ea 1) 2 [.ref (eg 1), .ref (ef 1), .int (et 1), .int (nI (el 1)), .int (nI (ei 1))], wI (cy 1) (eg 1) 10 (gc 1), wI (cy 1) (ef 1) 7 (xc 1), wO (ea 2) 2 [.ref (eg 2), .ref (ef 2), .int (et 2), .int (nI (el 2)), .int (nI (ei 2))], wI (cy 1) (eg 2) 10 (gc 2), wI (cy 1) (ef 2) 7 (xc 2), wO (ea 3) 2 [.ref (eg 3), .ref (ef 3), .int (et 3), .int (nI (el 3)), .int (nI (ei 3))], wI (cy 1) (eg 3) 10 (gc 3), wI (cy 1) (ef 3) 7 (xc 3)] H := hP
            replace hD : va_D A [wO p0 6 [.ref p1, .ref er, .ref ro, .ref p2, .ref p3, .ref p4, .ref h0, .ref s0, .int (nI ch)], wI (cy 1) p3 4 (fne), wI (cy 1) p1 3 (fa1_15), wI (cy 1) p2 3 (fpc), wO h0 4 [.ref h1, .ref h2, .ref h3, .ref h4, .ref h5, .ref h6, .ref h7, .ref h8, .ref h9, .ref h10, .ref h11, .int ys, hv1, hv2, hv3, hv4], wI (cy 1) h1 4 (fc), wI (cy 1) h7 48 (fx), wO s0 7 [.ref s1, .ref s2, .int (nI sl), .int spl, .int svo, .int swi, .int sch], wI (cy 1) s1 10 (g_23), wI (cy 1) ro 20 (fa3_15), (er, .inl (cy 4, 4, .inr (.inr (.inr (.inr (eF (ea 0) (ea 1) (ea 2) (ea 3))))))), wO (ea 0) 2 [.ref (eg 0), .ref (ef 0), .int (et 0), .int (nI (el 0)), .int (nI (ei 0))], wI (cy 1) (eg 0) 10 (gc 0), wI (cy 1) (ef 0) 7 (xc 0), wO (ea 1) 2 [.ref (eg 1), .ref (ef 1), .int (et 1), .int (nI (el 1)), .int (nI (ei 1))], wI (cy 1) (eg 1) 10 (gc 1), wI (cy 1) (ef 1) 7 (xc 1), wO (ea 2) 2 [.ref (eg 2), .ref (ef 2), .int (et 2), .int (nI (el 2)), .int (nI (ei 2))], wI (cy 1) (eg 2) 10 (gc 2), wI (cy 1) (ef 2) 7 (xc 2), wO (ea 3) 2 [.ref (eg 3), .ref (ef 3), .int (et 3), .int (nI (el 3)), .int (nI (ei 3))], wI (cy 1) (eg 3) 10 (gc 3), wI (cy 1) (ef 3) 7 (xc 3)] := hD
            refine lv_aload_n hx hb dX6_chooseWords_69 rfl (lv_at hl 3 rfl) ?_
            refine va_get (D := D) (ci := 6) (v := .ref p1) (C := RX6) (T := TX6) (N := 9) hx hb hg i_X6 hown hK hP 0 rfl rfl 0 (by decide) (hg _ m_584) (fun _ h9 => h9) rfl dX6_chooseWords_70 ?_
            refine lv_iload_n hx hb dX6_chooseWords_73 rfl (lv_at hl 4 rfl) ?_
            refine lv_bipush (v := 10) hx hb dX6_chooseWords_74 (by decide) ?_
            refine lv_iload_n hx hb dX6_chooseWords_76 rfl (lv_at hl 2 rfl) ?_
            refine lv_imul hx hb dX6_chooseWords_77 ?_
            refine lv_topi (fun y_25 hy_25 => ?_)
            obtain rfl : y_25 = nI (10 * j_11) := hy_25.trans (pk_mul 10 j_11)
            refine lv_iload hx hb dX6_chooseWords_78 (lv_at hl 0 rfl) ?_
            refine lv_iadd hx hb dX6_chooseWords_80 ?_
            refine lv_topi (fun y_26 hy_26 => ?_)
            obtain rfl : y_26 = nI ((10 * j_11) + wd15) := hy_26.trans (nI_add ((10 * j_11)) wd15)
            refine va_iast hx hb hK hP hD hS 2 1 rfl rfl (by unfold vp_in; decide) dX6_chooseWords_81 (fun H locs hP9 hD9 hS9 => ?_)
            clear hP hD hS
            obtain ⟨g_27, eg_27⟩ : ∃ y, upd fa1_15 (1 : Int32).toNatClampNeg (nI ((10 * j_11) + wd15)) = y := ⟨_, rfl⟩
            rw [eg_27] at hP9 hD9
            refine reW [wO p0 6 [.ref p1, .ref er, .ref ro, .ref p2, .ref p3, .ref p4, .ref h0, .ref s0, .int (nI ch)], wI (cy 1) p3 4 (fne), wI (cy 1) p1 3 (g_27), wI (cy 1) p2 3 (fpc), wO h0 4 [.ref h1, .ref h2, .ref h3, .ref h4, .ref h5, .ref h6, .ref h7, .ref h8, .ref h9, .ref h10, .ref h11, .int ys, hv1, hv2, hv3, hv4], wI (cy 1) h1 4 (fc), wI (cy 1) h7 48 (fx), wO s0 7 [.ref s1, .ref s2, .int (nI sl), .int spl, .int svo, .int swi, .int sch], wI (cy 1) s1 10 (g_23), wI (cy 1) ro 20 (fa3_15), (er, .inl (cy 4, 4, .inr (.inr (.inr (.inr (eF (ea 0) (ea 1) (ea 2) (ea 3))))))), wO (ea 0) 2 [.ref (eg 0), .ref (ef 0), .int (et 0), .int (nI (el 0)), .int (nI (ei 0))], wI (cy 1) (eg 0) 10 (gc 0), wI (cy 1) (ef 0) 7 (xc 0), wO (ea 1) 2 [.ref (eg 1), .ref (ef 1), .int (et 1), .int (nI (el 1)), .int (nI (ei 1))], wI (cy 1) (eg 1) 10 (gc 1), wI (cy 1) (ef 1) 7 (xc 1), wO (ea 2) 2 [.ref (eg 2), .ref (ef 2), .int (et 2), .int (nI (el 2)), .int (nI (ei 2))], wI (cy 1) (eg 2) 10 (gc 2), wI (cy 1) (ef 2) 7 (xc 2), wO (ea 3) 2 [.ref (eg 3), .ref (ef 3), .int (et 3), .int (nI (el 3)), .int (nI (ei 3))], wI (cy 1) (eg 3) 10 (gc 3), wI (cy 1) (ef 3) 7 (xc 3)] hP9 hD9 hS9 (fun hP hD hS => ?_)
            clear hP9 hD9 hS9
            refine lv_aload_n hx hb dX6_chooseWords_82 rfl (lv_at hl 3 rfl) ?_
            refine lv_iload_n hx hb dX6_chooseWords_83 rfl (lv_at hl 4 rfl) ?_
            refine lv_iconst (v := 1) hx hb dX6_chooseWords_84 (by decide) ?_
            refine lv_iadd hx hb dX6_chooseWords_85 ?_
            refine lv_topi (fun y_28 hy_28 => ?_)
            obtain rfl : y_28 = 2 := hy_28.trans (by decide +kernel)
            refine x_callVi (q := (RX6, TX6, 9)) (ci := 6) (q0 := 0) (wr := []) (rest := []) ⟨hx, hb, hml, hown, hg, hl.1⟩ k_X6_73 (s_chooseWords2 l D cy p0 p1 p2 p3 p4 er ro ch fne g_27 fpc h0 h1 h2 h3 h4 h5 h6 h7 h8 h9 h10 h11 hv1 hv2 hv3 hv4 ys fc c0 c1 c2 c3 fx s0 s1 s2 sl spl svo swi sch g_23 fa3_15 ea eg ef et el ei gc xc (hne) (hpc) (by omega) (hcn) (by omega) (by omega) (by omega) (by omega) (hnx) (fun i9 h9 => by rcases (show i9 = 0 ∨ i9 = 1 ∨ i9 = 2 ∨ i9 = 3 by omega) with rfl | rfl | rfl | rfl <;> omega) (by omega) (hr_24) (ha4_15)) E0_blind hK hP hD hS hA [0, 1, 2, 3, 4, 5, 6, 7, 8, 9, 10, 11, 12, 13, 14, 15, 16, 17, 18, 19, 20, 21, 22] [] ⟨rfl, rfl, by decide +kernel, by decide +kernel, by decide +kernel⟩ rfl rfl (fun _ _ _ => trivial) dX6_chooseWords_86 rfl rfl (Nat.le_of_ble_eq_true rfl) ⟨Nat.le_of_ble_eq_true rfl, Nat.le_of_ble_eq_true rfl⟩ ⟨Nat.le_of_ble_eq_true rfl, Nat.le_of_ble_eq_true rfl⟩ (fun zr29 zu29 H locs hw29 hP9 hD9 hS9 => ?_)
            clear hP hD hS
            obtain ⟨ffd2_30, fw2_31, fr2_32⟩ := zu29
            refine reW [wO p0 6 [.ref p1, .ref er, .ref ro, .ref p2, .ref p3, .ref p4, .ref h0, .ref s0, .int (nI ch)], wI (cy 1) p3 4 (fne), wI (cy 1) p1 3 (ffd2_30), wI (cy 1) p2 3 (fpc), wO h0 4 [.ref h1, .ref h2, .ref h3, .ref h4, .ref h5, .ref h6, .ref h7, .ref h8, .ref h9, .ref h10, .ref h11, .int ys, hv1, hv2, hv3, hv4], wI (cy 1) h1 4 (fc), wI (cy 1) h7 48 (fx), wO s0 7 [.ref s1, .ref s2, .int (nI sl), .int spl, .int svo, .int swi, .int sch], wI (cy 1) s1 10 (fw2_31), wI (cy 1) ro 20 (fr2_32), (er, .inl (cy 4, 4, .inr (.inr (.inr (.inr (eF (ea 0) (ea 1) (ea 2) (ea 3))))))), wO (ea 0) 2 [.ref (eg 0), .ref (ef 0), .int (et 0), .int (nI (el 0)), .int (nI (ei 0))], wI (cy 1) (eg 0) 10 (gc 0), wI (cy 1) (ef 0) 7 (xc 0), wO (ea 1) 2 [.ref (eg 1), .ref (ef 1), .int (et 1), .int (nI (el 1)), .int (nI (ei 1))], wI (cy 1) (eg 1) 10 (gc 1), wI (cy 1) (ef 1) 7 (xc 1), wO (ea 2) 2 [.ref (eg 2), .ref (ef 2), .int (et 2), .int (nI (el 2)), .int (nI (ei 2))], wI (cy 1) (eg 2) 10 (gc 2), wI (cy 1) (ef 2) 7 (xc 2), wO (ea 3) 2 [.ref (eg 3), .ref (ef 3), .int (et 3), .int (nI (el 3)), .int (nI (ei 3))], wI (cy 1) (eg 3) 10 (gc 3), wI (cy 1) (ef 3) 7 (xc 3)] hP9 hD9 hS9 (fun hP hD hS => ?_)
            clear hP9 hD9 hS9
            refine W.widen (k := 0) (n := 0) (Nat.le_of_ble_eq_true rfl) (Nat.le_of_ble_eq_true rfl) ?_
            replace hw29 : (zr29 = 0 ∨ zr29 = 1) ∧ (rng fw2_31 10 7) ∧ (rng fr2_32 20 7) := hw29
            obtain ⟨f_33, f_34, f_35⟩ := hw29
            refine lv_if_eq (tgt := 94) hx hb dX6_chooseWords_89 (by decide) (fun c_89 => ?_) (fun c_89 => ?_)
            · refine lv_iinc (v := nI (wd15 + 1)) (lv' := [(4, .int (nI (wd15 + 1))), (3, .int (nI j_13)), (2, .int (nI j_11)), (0, .ref p0), (1, .int 1)]) hx hb dX6_chooseWords_94 hl (k := 0) rfl (nI_add wd15 1) (by decide) rfl (fun ls hl => ?_)
              refine lv_goto (tgt := 38) hx hb dX6_chooseWords_97 (by decide) ?_
              exact ih15  ((wd15 + 1)) ffd2_30 fw2_31 fr2_32 f_34 f_35 (by omega) (by omega) _ _ (hP.sub [0, 1, 2, 3, 4, 5, 6, 7, 8, 9, 10, 11, 12, 13, 14, 15, 16, 17, 18, 19, 20, 21, 22] rfl) (hD.sub [0, 1, 2, 3, 4, 5, 6, 7, 8, 9, 10, 11, 12, 13, 14, 15, 16, 17, 18, 19, 20, 21, 22] (by decide +kernel) rfl) hS ls (lv_sub hl [0, 1, 2, 3, 4] rfl)
            · refine lv_iconst (v := 1) hx hb dX6_chooseWords_92 (by decide) ?_
              exact x_zret hQ hx hb hr hlocks hK hP hD hS rfl dX6_chooseWords_93 (ffd2_30, fw2_31, fr2_32) (⟨(Or.inr rfl), f_34, f_35⟩) [0, 1, 2, 3, 4, 5, 6, 7, 8, 9, 10, 11, 12, 13, 14, 15, 16, 17, 18, 19, 20, 21, 22] (by decide +kernel) rfl (Nat.le_of_ble_eq_true rfl) (Nat.le_of_ble_eq_true rfl)
    exact loop15 _ 0 ffd fw fr hsw hrw (by omega) (Nat.le_refl _) _ _ (hP.sub [0, 1, 2, 3, 4, 5, 6, 7, 8, 9, 10, 11, 12, 13, 14, 15, 16, 17, 18, 19, 20, 21, 22] rfl) (hD.sub [0, 1, 2, 3, 4, 5, 6, 7, 8, 9, 10, 11, 12, 13, 14, 15, 16, 17, 18, 19, 20, 21, 22] (by decide +kernel) rfl) hS ls (lv_sub hl [0, 1, 2, 3, 4] rfl)
set_option maxHeartbeats 1000000 in
set_option maxRecDepth 100000 in
theorem s_chooseWords0 (l : Launch) (D : va_G) (cy : Nat → ClassId) (p0 : Nat) (p1 : Nat) (p2 : Nat) (p3 : Nat) (p4 : Nat) (er : Nat) (ro : Nat) (ch : Nat) (fne : Nat → Int32) (ffd : Nat → Int32) (fpc : Nat → Int32) (h0 : Nat) (h1 : Nat) (h2 : Nat) (h3 : Nat) (h4 : Nat) (h5 : Nat) (h6 : Nat) (h7 : Nat) (h8 : Nat) (h9 : Nat) (h10 : Nat) (h11 : Nat) (hv1 : Value) (hv2 : Value) (hv3 : Value) (hv4 : Value) (ys : Int32) (fc : Nat → Int32) (c0 : Nat) (c1 : Nat) (c2 : Nat) (c3 : Nat) (fx : Nat → Int32) (s0 : Nat) (s1 : Nat) (s2 : Nat) (sl : Nat) (spl : Int32) (svo : Int32) (swi : Int32) (sch : Int32) (fw : Nat → Int32) (fr : Nat → Int32) (ea : Nat → Nat) (eg : Nat → Nat) (ef : Nat → Nat) (et : Nat → Int32) (el : Nat → Nat) (ei : Nat → Nat) (gc : Nat → Nat → Int32) (xc : Nat → Nat → Int32) (hne : nOK fne c1) (hpc : rng fpc 3 9) (hch : ch ≤ 3) (hcn : cntOK fc c0 c1 c2 c3) (hc0 : c0 ≤ 8) (hc1 : c1 ≤ 4) (hc2 : c2 ≤ 4) (hc3 : c3 ≤ 6) (hnx : rng fx 48 5) (hel : ∀ i9, i9 < 4 → el i9 ≤ 10) (hsl : sl ≤ 10) (hsw : rng fw 10 7) (hrw : rng fr 20 7) : XMi l D (tyL cy) E0 yX6_chooseWords cX6_chooseWords 5 (some .boolean) (rmk 8 0 0) [.ref p0, .int 0] [wO p0 6 [.ref p1, .ref er, .ref ro, .ref p2, .ref p3, .ref p4, .ref h0, .ref s0, .int (nI ch)], wI (cy 1) p3 4 (fne), wI (cy 1) p1 3 (ffd), wI (cy 1) p2 3 (fpc), wO h0 4 [.ref h1, .ref h2, .ref h3, .ref h4, .ref h5, .ref h6, .ref h7, .ref h8, .ref h9, .ref h10, .ref h11, .int ys, hv1, hv2, hv3, hv4], wI (cy 1) h1 4 (fc), wI (cy 1) h7 48 (fx), wO s0 7 [.ref s1, .ref s2, .int (nI sl), .int spl, .int svo, .int swi, .int sch], wI (cy 1) s1 10 (fw), wI (cy 1) ro 20 (fr), (er, .inl (cy 4, 4, .inr (.inr (.inr (.inr (eF (ea 0) (ea 1) (ea 2) (ea 3))))))), wO (ea 0) 2 [.ref (eg 0), .ref (ef 0), .int (et 0), .int (nI (el 0)), .int (nI (ei 0))], wI (cy 1) (eg 0) 10 (gc 0), wI (cy 1) (ef 0) 7 (xc 0), wO (ea 1) 2 [.ref (eg 1), .ref (ef 1), .int (et 1), .int (nI (el 1)), .int (nI (ei 1))], wI (cy 1) (eg 1) 10 (gc 1), wI (cy 1) (ef 1) 7 (xc 1), wO (ea 2) 2 [.ref (eg 2), .ref (ef 2), .int (et 2), .int (nI (el 2)), .int (nI (ei 2))], wI (cy 1) (eg 2) 10 (gc 2), wI (cy 1) (ef 2) 7 (xc 2), wO (ea 3) 2 [.ref (eg 3), .ref (ef 3), .int (et 3), .int (nI (el 3)), .int (nI (ei 3))], wI (cy 1) (eg 3) 10 (gc 3), wI (cy 1) (ef 3) 7 (xc 3)] (fun (r : Int32) (u : (Nat → Int32) × (Nat → Int32) × (Nat → Int32)) => (r = 0 ∨ r = 1) ∧ (rng u.2.1 10 7) ∧ (rng u.2.2 20 7)) (fun (u : (Nat → Int32) × (Nat → Int32) × (Nat → Int32)) => [wO p0 6 [.ref p1, .ref er, .ref ro, .ref p2, .ref p3, .ref p4, .ref h0, .ref s0, .int (nI ch)], wI (cy 1) p3 4 (fne), wI (cy 1) p1 3 (u.1), wI (cy 1) p2 3 (fpc), wO h0 4 [.ref h1, .ref h2, .ref h3, .ref h4, .ref h5, .ref h6, .ref h7, .ref h8, .ref h9, .ref h10, .ref h11, .int ys, hv1, hv2, hv3, hv4], wI (cy 1) h1 4 (fc), wI (cy 1) h7 48 (fx), wO s0 7 [.ref s1, .ref s2, .int (nI sl), .int spl, .int svo, .int swi, .int sch], wI (cy 1) s1 10 (u.2.1), wI (cy 1) ro 20 (u.2.2), (er, .inl (cy 4, 4, .inr (.inr (.inr (.inr (eF (ea 0) (ea 1) (ea 2) (ea 3))))))), wO (ea 0) 2 [.ref (eg 0), .ref (ef 0), .int (et 0), .int (nI (el 0)), .int (nI (ei 0))], wI (cy 1) (eg 0) 10 (gc 0), wI (cy 1) (ef 0) 7 (xc 0), wO (ea 1) 2 [.ref (eg 1), .ref (ef 1), .int (et 1), .int (nI (el 1)), .int (nI (ei 1))], wI (cy 1) (eg 1) 10 (gc 1), wI (cy 1) (ef 1) 7 (xc 1), wO (ea 2) 2 [.ref (eg 2), .ref (ef 2), .int (et 2), .int (nI (el 2)), .int (nI (ei 2))], wI (cy 1) (eg 2) 10 (gc 2), wI (cy 1) (ef 2) 7 (xc 2), wO (ea 3) 2 [.ref (eg 3), .ref (ef 3), .int (et 3), .int (nI (el 3)), .int (nI (ei 3))], wI (cy 1) (eg 3) 10 (gc 3), wI (cy 1) (ef 3) 7 (xc 3)]) := by
  refine XMi.start (by decide) (Nat.le_of_ble_eq_true rfl) ?_
  intro p e s m below meth c args A ls Q hat hQ
  obtain ⟨hx, hb, hr, hml, hown, hg, hlocks, hin, hK, hA, hP, hD, hS, hE, hl⟩ := hat
  have hown : s.vm.findClass RX6 = some m.cls := hown
  have hl : lv_has ls 5 [(0, .ref p0), (1, .int 0)] := hl
  have hk_1 := hel 0 (by decide)
  have hk_2 := hel 1 (by decide)
  have hk_3 := hel 2 (by decide)
  have hk_4 := hel 3 (by decide)
  refine lv_iload_n hx hb dX6_chooseWords_0 rfl (lv_at hl 1 rfl) ?_
  refine lv_aload_n hx hb dX6_chooseWords_1 rfl (lv_at hl 0 rfl) ?_
  refine va_get (D := D) (ci := 6) (v := .int (nI ch)) (C := RX6) (T := TX6) (N := 9) hx hb hg i_X6 hown hK hP 0 rfl rfl 8 (by decide) (hg _ m_593) (fun _ h9 => h9) rfl dX6_chooseWords_2 ?_
  refine lv_icmp_ge (tgt := 13) hx hb dX6_chooseWords_5 (by decide) (fun c_5 => ?_) (fun c_5 => ?_)
  · have q_6 : ch ≤ 0 := q_le (a := ch) (b := 0) rfl rfl (by omega) (by omega) c_5
    refine lv_aload_n hx hb dX6_chooseWords_13 rfl (lv_at hl 0 rfl) ?_
    refine x_callVi (q := (RX6, TX6, 9)) (ci := 6) (q0 := 0) (wr := [wI (cy 1) p1 3 (ffd), wI (cy 1) p2 3 (fpc)]) (rest := []) ⟨hx, hb, hml, hown, hg, hl.1⟩ k_X6_113 (s_isYesNow l D cy p0 p1 p2 p3 p4 er ro ch fne h0 h1 h2 h3 h4 h5 h6 h7 h8 h9 h10 h11 hv1 hv2 hv3 hv4 ys fc c0 c1 c2 c3 fx s0 s1 s2 sl spl svo swi sch fw fr ea eg ef et el ei gc xc (hne) (hcn) (by omega) (by omega) (by omega) (by omega) (hnx) (fun i9 h9 => by rcases (show i9 = 0 ∨ i9 = 1 ∨ i9 = 2 ∨ i9 = 3 by omega) with rfl | rfl | rfl | rfl <;> omega) (by omega) (hsw) (hrw)) E0_blind hK hP hD hS hA [0, 1, 4, 5, 6, 7, 8, 9, 10, 11, 12, 13, 14, 15, 16, 17, 18, 19, 20, 21, 22] [2, 3] ⟨rfl, rfl, by decide +kernel, by decide +kernel, by decide +kernel⟩ rfl rfl (fun _ _ _ => trivial) dX6_chooseWords_14 rfl rfl (Nat.le_of_ble_eq_true rfl) ⟨Nat.le_of_ble_eq_true rfl, Nat.le_of_ble_eq_true rfl⟩ ⟨Nat.le_of_ble_eq_true rfl, Nat.le_of_ble_eq_true rfl⟩ (fun zr7 zu7 H locs hw7 hP9 hD9 hS9 => ?_)
    clear hP hD hS
    obtain ⟨fr2_8, rfl⟩ : ∃ z, z = zu7 := ⟨_, rfl⟩
    refine reW [wI (cy 1) p1 3 (ffd), wI (cy 1) p2 3 (fpc), wO p0 6 [.ref p1, .ref er, .ref ro, .ref p2, .ref p3, .ref p4, .ref h0, .ref s0, .int (nI ch)], wI (cy 1) p3 4 (fne), wO h0 4 [.ref h1, .ref h2, .ref h3, .ref h4, .ref h5, .ref h6, .ref h7, .ref h8, .ref h9, .ref h10, .ref h11, .int ys, hv1, hv2, hv3, hv4], wI (cy 1) h1 4 (fc), wI (cy 1) h7 48 (fx), wO s0 7 [.ref s1, .ref s2, .int (nI sl), .int spl, .int svo, .int swi, .int sch], wI (cy 1) s1 10 (fw), wI (cy 1) ro 20 (fr2_8), (er, .inl (cy 4, 4, .inr (.inr (.inr (.inr (eF (ea 0) (ea 1) (ea 2) (ea 3))))))), wO (ea 0) 2 [.ref (eg 0), .ref (ef 0), .int (et 0), .int (nI (el 0)), .int (nI (ei 0))], wI (cy 1) (eg 0) 10 (gc 0), wI (cy 1) (ef 0) 7 (xc 0), wO (ea 1) 2 [.ref (eg 1), .ref (ef 1), .int (et 1), .int (nI (el 1)), .int (nI (ei 1))], wI (cy 1) (eg 1) 10 (gc 1), wI (cy 1) (ef 1) 7 (xc 1), wO (ea 2) 2 [.ref (eg 2), .ref (ef 2), .int (et 2), .int (nI (el 2)), .int (nI (ei 2))], wI (cy 1) (eg 2) 10 (gc 2), wI (cy 1) (ef 2) 7 (xc 2), wO (ea 3) 2 [.ref (eg 3), .ref (ef 3), .int (et 3), .int (nI (el 3)), .int (nI (ei 3))], wI (cy 1) (eg 3) 10 (gc 3), wI (cy 1) (ef 3) 7 (xc 3)] hP9 hD9 hS9 (fun hP hD hS => ?_)
    clear hP9 hD9 hS9
    refine W.widen (k := 0) (n := 0) (Nat.le_of_ble_eq_true rfl) (Nat.le_of_ble_eq_true rfl) ?_
    replace hw7 : (zr7 = 0 ∨ zr7 = 1) ∧ (rng fr2_8 20 7) := hw7
    obtain ⟨f_9, f_10⟩ := hw7
    exact x_zret hQ hx hb hr hlocks hK hP hD hS (narB f_9) dX6_chooseWords_17 (ffd, fw, fr2_8) (⟨f_9, hsw, f_10⟩) [2, 3, 0, 1, 4, 5, 6, 7, 8, 9, 10, 11, 12, 13, 14, 15, 16, 17, 18, 19, 20, 21, 22] (by decide +kernel) rfl (Nat.le_of_ble_eq_true rfl) (Nat.le_of_ble_eq_true rfl)
  · have q_6 : 0 < ch := q_nle (a := ch) (b := 0) rfl rfl (by omega) (by omega) c_5
    refine lv_iload_n hx hb dX6_chooseWords_8 rfl (lv_at hl 1 rfl) ?_
    refine lv_iconst (v := 3) hx hb dX6_chooseWords_9 (by decide) ?_
    refine lv_icmp_lt (tgt := 18) hx hb dX6_chooseWords_10 (by decide) (fun _ => ?_) (fun h => absurd (by decide) h)
    refine lv_aload_n hx hb dX6_chooseWords_18 rfl (lv_at hl 0 rfl) ?_
    refine va_get (D := D) (ci := 6) (v := .ref p2) (C := RX6) (T := TX6) (N := 9) hx hb hg i_X6 hown hK hP 0 rfl rfl 3 (by decide) (hg _ m_588) (fun _ h9 => h9) rfl dX6_chooseWords_19 ?_
    refine lv_iload_n hx hb dX6_chooseWords_22 rfl (lv_at hl 1 rfl) ?_
    refine va_iald hx hb hK hP 3 1 rfl rfl (by unfold vp_in; decide) dX6_chooseWords_23 ?_
    obtain ⟨j_11, hj_11, ej_11⟩ := rng_at hpc (i := 0) (by omega) (by decide)
    refine lv_topi (fun y_12 hy_12 => ?_)
    obtain rfl : y_12 = nI j_11 := hy_12.trans ej_11
    refine lv_istore_n (lv' := [(2, .int (nI j_11)), (0, .ref p0), (1, .int 0)]) hx hb dX6_chooseWords_24 rfl hl (by decide) rfl (fun ls hl => ?_)
    refine lv_aload_n hx hb dX6_chooseWords_25 rfl (lv_at hl 1 rfl) ?_
    refine va_get (D := D) (ci := 6) (v := .ref s0) (C := RX6) (T := TX6) (N := 9) hx hb hg i_X6 hown hK hP 0 rfl rfl 7 (by decide) (hg _ m_592) (fun _ h9 => h9) rfl dX6_chooseWords_26 ?_
    refine va_get (D := D) (ci := 7) (v := .ref s1) (C := RX7) (T := TX7) (N := 7) hx hb hg i_X7 hown hK hP 7 rfl rfl 0 (by decide) (hg _ m_622) (fun _ h9 => h9) rfl dX6_chooseWords_29 ?_
    refine lv_iload_n hx hb dX6_chooseWords_32 rfl (lv_at hl 0 rfl) ?_
    refine va_iald hx hb hK hP 8 1 rfl rfl (vp_in_nI (by omega) (by decide)) dX6_chooseWords_33 ?_
    obtain ⟨j_13, hj_13, ej_13⟩ := rng_at hsw (i := j_11) (by omega) (by decide)
    refine lv_topi (fun y_14 hy_14 => ?_)
    obtain rfl : y_14 = nI j_13 := hy_14.trans ej_13
    refine lv_istore_n (lv' := [(3, .int (nI j_13)), (2, .int (nI j_11)), (0, .ref p0), (1, .int 0)]) hx hb dX6_chooseWords_34 rfl hl (by decide) rfl (fun ls hl => ?_)
    refine lv_iconst (v := 0) hx hb dX6_chooseWords_35 (by decide) ?_
    refine lv_istore (lv' := [(4, .int 0), (3, .int (nI j_13)), (2, .int (nI j_11)), (0, .ref p0), (1, .int 0)]) hx hb dX6_chooseWords_36 hl (by decide) rfl (fun ls hl => ?_)
    have loop15 : ∀ (zn : Nat) (wd15 : Nat) (fa1_15 : Nat → Int32) (fa2_15 : Nat → Int32) (fa3_15 : Nat → Int32), (rng fa2_15 10 7) → (rng fa3_15 20 7) → (wd15 ≤ c0) → c0 - wd15 + 1 ≤ zn → ∀ (H : Heap) (locs : List Loc), va_P D vwCl [wO p0 6 [.ref p1, .ref er, .ref ro, .ref p2, .ref p3, .ref p4, .ref h0, .ref s0, .int (nI ch)], wI (cy 1) p3 4 (fne), wI (cy 1) p1 3 (fa1_15), wI (cy 1) p2 3 (fpc), wO h0 4 [.ref h1, .ref h2, .ref h3, .ref h4, .ref h5, .ref h6, .ref h7, .ref h8, .ref h9, .ref h10, .ref h11, .int ys, hv1, hv2, hv3, hv4], wI (cy 1) h1 4 (fc), wI (cy 1) h7 48 (fx), wO s0 7 [.ref s1, .ref s2, .int (nI sl), .int spl, .int svo, .int swi, .int sch], wI (cy 1) s1 10 (fa2_15), wI (cy 1) ro 20 (fa3_15), (er, .inl (cy 4, 4, .inr (.inr (.inr (.inr (eF (ea 0) (ea 1) (ea 2) (ea 3))))))), wO (ea 0) 2 [.ref (eg 0), .ref (ef 0), .int (et 0), .int (nI (el 0)), .int (nI (ei 0))], wI (cy 1) (eg 0) 10 (gc 0), wI (cy 1) (ef 0) 7 (xc 0), wO (ea 1) 2 [.ref (eg 1), .ref (ef 1), .int (et 1), .int (nI (el 1)), .int (nI (ei 1))], wI (cy 1) (eg 1) 10 (gc 1), wI (cy 1) (ef 1) 7 (xc 1), wO (ea 2) 2 [.ref (eg 2), .ref (ef 2), .int (et 2), .int (nI (el 2)), .int (nI (ei 2))], wI (cy 1) (eg 2) 10 (gc 2), wI (cy 1) (ef 2) 7 (xc 2), wO (ea 3) 2 [.ref (eg 3), .ref (ef 3), .int (et 3), .int (nI (el 3)), .int (nI (ei 3))], wI (cy 1) (eg 3) 10 (gc 3), wI (cy 1) (ef 3) 7 (xc 3)] H → va_D A [wO p0 6 [.ref p1, .ref er, .ref ro, .ref p2, .ref p3, .ref p4, .ref h0, .ref s0, .int (nI ch)], wI (cy 1) p3 4 (fne), wI (cy 1) p1 3 (fa1_15), wI (cy 1) p2 3 (fpc), wO h0 4 [.ref h1, .ref h2, .ref h3, .ref h4, .ref h5, .ref h6, .ref h7, .ref h8, .ref h9, .ref h10, .ref h11, .int ys, hv1, hv2, hv3, hv4], wI (cy 1) h1 4 (fc), wI (cy 1) h7 48 (fx), wO s0 7 [.ref s1, .ref s2, .int (nI sl), .int spl, .int svo, .int swi, .int sch], wI (cy 1) s1 10 (fa2_15), wI (cy 1) ro 20 (fa3_15), (er, .inl (cy 4, 4, .inr (.inr (.inr (.inr (eF (ea 0) (ea 1) (ea 2) (ea 3))))))), wO (ea 0) 2 [.ref (eg 0), .ref (ef 0), .int (et 0), .int (nI (el 0)), .int (nI (ei 0))], wI (cy 1) (eg 0) 10 (gc 0), wI (cy 1) (ef 0) 7 (xc 0), wO (ea 1) 2 [.ref (eg 1), .ref (ef 1), .int (et 1), .int (nI (el 1)), .int (nI (ei 1))], wI (cy 1) (eg 1) 10 (gc 1), wI (cy 1) (ef 1) 7 (xc 1), wO (ea 2) 2 [.ref (eg 2), .ref (ef 2), .int (et 2), .int (nI (el 2)), .int (nI (ei 2))], wI (cy 1) (eg 2) 10 (gc 2), wI (cy 1) (ef 2) 7 (xc 2), wO (ea 3) 2 [.ref (eg 3), .ref (ef 3), .int (et 3), .int (nI (el 3)), .int (nI (ei 3))], wI (cy 1) (eg 3) 10 (gc 3), wI (cy 1) (ef 3) 7 (xc 3)] → va_S A s.heap H locs → ∀ ls : Array Slot, lv_has ls 5 [(4, .int (nI wd15)), (3, .int (nI j_13)), (2, .int (nI j_11)), (0, .ref p0), (1, .int 0)] → W p l e (rmk 8 0 0) s m args below meth c H locs 0 0 Q (F0 m 38 ls []) := by
      try clear hP hD hS
      intro zn
      induction zn with
      | zero => intro wd15 fa1_15 fa2_15 fa3_15 _ _ _ hz; exact absurd hz (by omega)
      | succ zn ih15 =>
        intro wd15 fa1_15 fa2_15 fa3_15 ha3_15 ha4_15 hf0_15 hmu15 H locs hP hD hS ls hl
        refine lv_iload hx hb dX6_chooseWords_38 (lv_at hl 0 rfl) ?_
        refine lv_aload_n hx hb dX6_chooseWords_40 rfl (lv_at hl 3 rfl) ?_
        refine va_get (D := D) (ci := 6) (v := .ref h0) (C := RX6) (T := TX6) (N := 9) hx hb hg i_X6 hown hK hP 0 rfl rfl 6 (by decide) (hg _ m_591) (fun _ h9 => h9) rfl dX6_chooseWords_41 ?_
        refine va_get (D := D) (ci := 4) (v := .ref h1) (C := RX4) (T := TX4) (N := 16) hx hb hg i_X4 hown hK hP 4 rfl rfl 0 (by decide) (hg _ m_330) (fun _ h9 => h9) rfl dX6_chooseWords_44 ?_
        refine lv_iconst (v := 0) hx hb dX6_chooseWords_47 (by decide) ?_
        refine va_iald hx hb hK hP 5 1 rfl rfl (by unfold vp_in; decide) dX6_chooseWords_48 ?_
        refine lv_topi (fun y_16 hy_16 => ?_)
        obtain rfl : y_16 = nI c0 := hy_16.trans hcn.1
        refine lv_icmp_ge (tgt := 100) hx hb dX6_chooseWords_49 (by decide) (fun c_17 => ?_) (fun c_17 => ?_)
        · have q_18 : c0 ≤ wd15 := q_le (a := c0) (b := wd15) rfl rfl (by omega) (by omega) c_17
          refine lv_aload_n hx hb dX6_chooseWords_100 rfl (lv_at hl 3 rfl) ?_
          refine va_get (D := D) (ci := 6) (v := .ref s0) (C := RX6) (T := TX6) (N := 9) hx hb hg i_X6 hown hK hP 0 rfl rfl 7 (by decide) (hg _ m_592) (fun _ h9 => h9) rfl dX6_chooseWords_101 ?_
          refine va_get (D := D) (ci := 7) (v := .ref s1) (C := RX7) (T := TX7) (N := 7) hx hb hg i_X7 hown hK hP 7 rfl rfl 0 (by decide) (hg _ m_622) (fun _ h9 => h9) rfl dX6_chooseWords_104 ?_
          refine lv_iload_n hx hb dX6_chooseWords_107 rfl (lv_at hl 2 rfl) ?_
          refine lv_iload_n hx hb dX6_chooseWords_108 rfl (lv_at hl 1 rfl) ?_
          refine va_iast hx hb hK hP hD hS 8 1 rfl rfl (vp_in_nI (by omega) (by decide)) dX6_chooseWords_109 (fun H locs hP9 hD9 hS9 => ?_)
          clear hP hD hS
          have hP := hP9
          have hD := hD9
          have hS := hS9
          clear hP9 hD9 hS9
          obtain ⟨g_19, eg_19⟩ : ∃ y, upd fa2_15 (nI j_11 : Int32).toNatClampNeg (nI j_13) = y := ⟨_, rfl⟩
          rw [eg_19] at hP hD
          have hr_20 : rng g_19 10 7 := eg_19 ▸ rng_put ha3_15 (j := j_13) (by omega)
          replace hP : va_P D vwCl [wO p0 6 [.ref p1, .ref er, .ref ro, .ref p2, .ref p3, .ref p4, .ref h0, .ref s0, .int (nI ch)], wI (cy 1) p3 4 (fne), wI (cy 1) p1 3 (fa1_15), wI (cy 1) p2 3 (fpc), wO h0 4 [.ref h1, .ref h2, .ref h3, .ref h4, .ref h5, .ref h6, .ref h7, .ref h8, .ref h9, .ref h10, .ref h11, .int ys, hv1, hv2, hv3, hv4], wI (cy 1) h1 4 (fc), wI (cy 1) h7 48 (fx), wO s0 7 [.ref s1, .ref s2, .int (nI sl), .int spl, .int svo, .int swi, .int sch], wI (cy 1) s1 10 (g_19), wI (cy 1) ro 20 (fa3_15), (er, .inl (cy 4, 4, .inr (.inr (.inr (.inr (eF (ea 0) (ea 1) (ea 2) (ea 3))))))), wO (ea 0) 2 [.ref (eg 0), .ref (ef 0), .int (et 0), .int (nI (el 0)), .int (nI (ei 0))], wI (cy 1) (eg 0) 10 (gc 0), wI (cy 1) (ef 0) 7 (xc 0), wO (ea 1) 2 [.ref (eg 1), .ref (ef 1), .int (et 1), .int (nI (el 1)), .int (nI (ei 1))], wI (cy 1) (eg 1) 10 (gc 1), wI (cy 1) (ef 1) 7 (xc 1), wO (ea 2) 2 [.ref (eg 2), .ref (ef 2), .int (et 2), .int (nI (el 2)), .int (nI (ei 2))], wI (cy 1) (eg 2) 10 (gc 2), wI (cy 1) (ef 2) 7 (xc 2), wO (ea 3) 2 [.ref (eg 3), .ref (ef 3), .int (et 3), .int (nI (el 3)), .int (nI (ei 3))], wI (cy 1) (eg 3) 10 (gc 3), wI (cy 1) (ef 3) 7 (xc 3)] H := hP
          replace hD : va_D A [wO p0 6 [.ref p1, .ref er, .ref ro, .ref p2, .ref p3, .ref p4, .ref h0, .ref s0, .int (nI ch)], wI (cy 1) p3 4 (fne), wI (cy 1) p1 3 (fa1_15), wI (cy 1) p2 3 (fpc), wO h0 4 [.ref h1, .ref h2, .ref h3, .ref h4, .ref h5, .ref h6, .ref h7, .ref h8, .ref h9, .ref h10, .ref h11, .int ys, hv1, hv2, hv3, hv4], wI (cy 1) h1 4 (fc), wI (cy 1) h7 48 (fx), wO s0 7 [.ref s1, .ref s2, .int (nI sl), .int spl, .int svo, .int swi, .int sch], wI (cy 1) s1 10 (g_19), wI (cy 1) ro 20 (fa3_15), (er, .inl (cy 4, 4, .inr (.inr (.inr (.inr (eF (ea 0) (ea 1) (ea 2) (ea 3))))))), wO (ea 0) 2 [.ref (eg 0), .ref (ef 0), .int (et 0), .int (nI (el 0)), .int (nI (ei 0))], wI (cy 1) (eg 0) 10 (gc 0), wI (cy 1) (ef 0) 7 (xc 0), wO (ea 1) 2 [.ref (eg 1), .ref (ef 1), .int (et 1), .int (nI (el 1)), .int (nI (ei 1))], wI (cy 1) (eg 1) 10 (gc 1), wI (cy 1) (ef 1) 7 (xc 1), wO (ea 2) 2 [.ref (eg 2), .ref (ef 2), .int (et 2), .int (nI (el 2)), .int (nI (ei 2))], wI (cy 1) (eg 2) 10 (gc 2), wI (cy 1) (ef 2) 7 (xc 2), wO (ea 3) 2 [.ref (eg 3), .ref (ef 3), .int (et 3), .int (nI (el 3)), .int (nI (ei 3))], wI (cy 1) (eg 3) 10 (gc 3), wI (cy 1) (ef 3) 7 (xc 3)] := hD
          refine lv_iconst (v := 0) hx hb dX6_chooseWords_110 (by decide) ?_
          exact x_zret hQ hx hb hr hlocks hK hP hD hS rfl dX6_chooseWords_111 (fa1_15, g_19, fa3_15) (⟨(Or.inl rfl), hr_20, ha4_15⟩) [0, 1, 2, 3, 4, 5, 6, 7, 8, 9, 10, 11, 12, 13, 14, 15, 16, 17, 18, 19, 20, 21, 22] (by decide +kernel) rfl (Nat.le_of_ble_eq_true rfl) (Nat.le_of_ble_eq_true rfl)
        · have q_18 : wd15 < c0 := q_nle (a := c0) (b := wd15) rfl rfl (by omega) (by omega) c_17
          refine lv_iload hx hb dX6_chooseWords_52 (lv_at hl 0 rfl) ?_
          refine lv_iload_n hx hb dX6_chooseWords_54 rfl (lv_at hl 1 rfl) ?_
          refine lv_icmp_eq (tgt := 94) hx hb dX6_chooseWords_55 (by decide) (fun c_21 => ?_) (fun c_21 => ?_)
          · have q_22 : wd15 = j_13 := q_eq (a := wd15) (b := j_13) rfl rfl (by omega) (by omega) c_21
            refine lv_iinc (v := nI (wd15 + 1)) (lv' := [(4, .int (nI (wd15 + 1))), (3, .int (nI j_13)), (2, .int (nI j_11)), (0, .ref p0), (1, .int 0)]) hx hb dX6_chooseWords_94 hl (k := 0) rfl (nI_add wd15 1) (by decide) rfl (fun ls hl => ?_)
            refine lv_goto (tgt := 38) hx hb dX6_chooseWords_97 (by decide) ?_
            exact ih15  ((wd15 + 1)) fa1_15 fa2_15 fa3_15 ha3_15 ha4_15 (by omega) (by omega) _ _ (hP.sub [0, 1, 2, 3, 4, 5, 6, 7, 8, 9, 10, 11, 12, 13, 14, 15, 16, 17, 18, 19, 20, 21, 22] rfl) (hD.sub [0, 1, 2, 3, 4, 5, 6, 7, 8, 9, 10, 11, 12, 13, 14, 15, 16, 17, 18, 19, 20, 21, 22] (by decide +kernel) rfl) hS ls (lv_sub hl [0, 1, 2, 3, 4] rfl)
          · have q_22 : ¬ wd15 = j_13 := q_ne (a := wd15) (b := j_13) rfl rfl (by omega) (by omega) c_21
            refine lv_aload_n hx hb dX6_chooseWords_58 rfl (lv_at hl 3 rfl) ?_
            refine va_get (D := D) (ci := 6) (v := .ref s0) (C := RX6) (T := TX6) (N := 9) hx hb hg i_X6 hown hK hP 0 rfl rfl 7 (by decide) (hg _ m_592) (fun _ h9 => h9) rfl dX6_chooseWords_59 ?_
            refine va_get (D := D) (ci := 7) (v := .ref s1) (C := RX7) (T := TX7) (N := 7) hx hb hg i_X7 hown hK hP 7 rfl rfl 0 (by decide) (hg _ m_622) (fun _ h9 => h9) rfl dX6_chooseWords_62 ?_
            refine lv_iload_n hx hb dX6_chooseWords_65 rfl (lv_at hl 2 rfl) ?_
            refine lv_iload hx hb dX6_chooseWords_66 (lv_at hl 0 rfl) ?_
            refine va_iast hx hb hK hP hD hS 8 1 rfl rfl (vp_in_nI (by omega) (by decide)) dX6_chooseWords_68 (fun H locs hP9 hD9 hS9 => ?_)
            clear hP hD hS
            have hP := hP9
            have hD := hD9
            have hS := hS9
            clear hP9 hD9 hS9
            obtain ⟨g_23, eg_23⟩ : ∃ y, upd fa2_15 (nI j_11 : Int32).toNatClampNeg (nI wd15) = y := ⟨_, rfl⟩
            rw [eg_23] at hP hD
            have hr_24 : rng g_23 10 7 := eg_23 ▸ rng_put ha3_15 (j := wd15) (by omega)
            replace hP : va_P D vwCl [wO p0 6 [.ref p1, .ref er, .ref ro, .ref p2, .ref p3, .ref p4, .ref h0, .ref s0, .int (nI ch)], wI (cy 1) p3 4 (fne), wI (cy 1) p1 3 (fa1_15), wI (cy 1) p2 3 (fpc), wO h0 4 [.ref h1, .ref h2, .ref h3, .ref h4, .ref h5, .ref h6, .ref h7, .ref h8, .ref h9, .ref h10, .ref h11, .int ys, hv1, hv2, hv3, hv4], wI (cy 1) h1 4 (fc), wI (cy 1) h7 48 (fx), wO s0 7 [.ref s1, .ref s2, .int (nI sl), .int spl, .int svo, .int swi, .int sch], wI (cy 1) s1 10 (g_23), wI (cy 1) ro 20 (fa3_15), (er, .inl (cy 4, 4, .inr (.inr (.inr (.inr (eF (ea 0) (ea 1) (ea 2) (ea 3))))))), wO (ea 0) 2 [.ref (eg 0), .ref (ef 0), .int (et 0), .int (nI (el 0)), .int (nI (ei 0))], wI (cy 1) (eg 0) 10 (gc 0), wI (cy 1) (ef 0) 7 (xc 0), wO (ea 1) 2 [.ref (eg 1), .ref (ef 1), .int (et 1), .int (nI (el 1)), .int (nI (ei 1))], wI (cy 1) (eg 1) 10 (gc 1), wI (cy 1) (ef 1) 7 (xc 1), wO (ea 2) 2 [.ref (eg 2), .ref (ef 2), .int (et 2), .int (nI (el 2)), .int (nI (ei 2))], wI (cy 1) (eg 2) 10 (gc 2), wI (cy 1) (ef 2) 7 (xc 2), wO (ea 3) 2 [.ref (eg 3), .ref (ef 3), .int (et 3), .int (nI (el 3)), .int (nI (ei 3))], wI (cy 1) (eg 3) 10 (gc 3), wI (cy 1) (ef 3) 7 (xc 3)] H := hP
            replace hD : va_D A [wO p0 6 [.ref p1, .ref er, .ref ro, .ref p2, .ref p3, .ref p4, .ref h0, .ref s0, .int (nI ch)], wI (cy 1) p3 4 (fne), wI (cy 1) p1 3 (fa1_15), wI (cy 1) p2 3 (fpc), wO h0 4 [.ref h1, .ref h2, .ref h3, .ref h4, .ref h5, .ref h6, .ref h7, .ref h8, .ref h9, .ref h10, .ref h11, .int ys, hv1, hv2, hv3, hv4], wI (cy 1) h1 4 (fc), wI (cy 1) h7 48 (fx), wO s0 7 [.ref s1, .ref s2, .int (nI sl), .int spl, .int svo, .int swi, .int sch], wI (cy 1) s1 10 (g_23), wI (cy 1) ro 20 (fa3_15), (er, .inl (cy 4, 4, .inr (.inr (.inr (.inr (eF (ea 0) (ea 1) (ea 2) (ea 3))))))), wO (ea 0) 2 [.ref (eg 0), .ref (ef 0), .int (et 0), .int (nI (el 0)), .int (nI (ei 0))], wI (cy 1) (eg 0) 10 (gc 0), wI (cy 1) (ef 0) 7 (xc 0), wO (ea 1) 2 [.ref (eg 1), .ref (ef 1), .int (et 1), .int (nI (el 1)), .int (nI (ei 1))], wI (cy 1) (eg 1) 10 (gc 1), wI (cy 1) (ef 1) 7 (xc 1), wO (ea 2) 2 [.ref (eg 2), .ref (ef 2), .int (et 2), .int (nI (el 2)), .int (nI (ei 2))], wI (cy 1) (eg 2) 10 (gc 2), wI (cy 1) (ef 2) 7 (xc 2), wO (ea 3) 2 [.ref (eg 3), .ref (ef 3), .int (et 3), .int (nI (el 3)), .int (nI (ei 3))], wI (cy 1) (eg 3) 10 (gc 3), wI (cy 1) (ef 3) 7 (xc 3)] := hD
            refine lv_aload_n hx hb dX6_chooseWords_69 rfl (lv_at hl 3 rfl) ?_
            refine va_get (D := D) (ci := 6) (v := .ref p1) (C := RX6) (T := TX6) (N := 9) hx hb hg i_X6 hown hK hP 0 rfl rfl 0 (by decide) (hg _ m_584) (fun _ h9 => h9) rfl dX6_chooseWords_70 ?_
            refine lv_iload_n hx hb dX6_chooseWords_73 rfl (lv_at hl 4 rfl) ?_
            refine lv_bipush (v := 10) hx hb dX6_chooseWords_74 (by decide) ?_
            refine lv_iload_n hx hb dX6_chooseWords_76 rfl (lv_at hl 2 rfl) ?_
            refine lv_imul hx hb dX6_chooseWords_77 ?_
            refine lv_topi (fun y_25 hy_25 => ?_)
            obtain rfl : y_25 = nI (10 * j_11) := hy_25.trans (pk_mul 10 j_11)
            refine lv_iload hx hb dX6_chooseWords_78 (lv_at hl 0 rfl) ?_
            refine lv_iadd hx hb dX6_chooseWords_80 ?_
            refine lv_topi (fun y_26 hy_26 => ?_)
            obtain rfl : y_26 = nI ((10 * j_11) + wd15) := hy_26.trans (nI_add ((10 * j_11)) wd15)
            refine va_iast hx hb hK hP hD hS 2 1 rfl rfl (by unfold vp_in; decide) dX6_chooseWords_81 (fun H locs hP9 hD9 hS9 => ?_)
            clear hP hD hS
            obtain ⟨g_27, eg_27⟩ : ∃ y, upd fa1_15 (0 : Int32).toNatClampNeg (nI ((10 * j_11) + wd15)) = y := ⟨_, rfl⟩
            rw [eg_27] at hP9 hD9
            refine reW [wO p0 6 [.ref p1, .ref er, .ref ro, .ref p2, .ref p3, .ref p4, .ref h0, .ref s0, .int (nI ch)], wI (cy 1) p3 4 (fne), wI (cy 1) p1 3 (g_27), wI (cy 1) p2 3 (fpc), wO h0 4 [.ref h1, .ref h2, .ref h3, .ref h4, .ref h5, .ref h6, .ref h7, .ref h8, .ref h9, .ref h10, .ref h11, .int ys, hv1, hv2, hv3, hv4], wI (cy 1) h1 4 (fc), wI (cy 1) h7 48 (fx), wO s0 7 [.ref s1, .ref s2, .int (nI sl), .int spl, .int svo, .int swi, .int sch], wI (cy 1) s1 10 (g_23), wI (cy 1) ro 20 (fa3_15), (er, .inl (cy 4, 4, .inr (.inr (.inr (.inr (eF (ea 0) (ea 1) (ea 2) (ea 3))))))), wO (ea 0) 2 [.ref (eg 0), .ref (ef 0), .int (et 0), .int (nI (el 0)), .int (nI (ei 0))], wI (cy 1) (eg 0) 10 (gc 0), wI (cy 1) (ef 0) 7 (xc 0), wO (ea 1) 2 [.ref (eg 1), .ref (ef 1), .int (et 1), .int (nI (el 1)), .int (nI (ei 1))], wI (cy 1) (eg 1) 10 (gc 1), wI (cy 1) (ef 1) 7 (xc 1), wO (ea 2) 2 [.ref (eg 2), .ref (ef 2), .int (et 2), .int (nI (el 2)), .int (nI (ei 2))], wI (cy 1) (eg 2) 10 (gc 2), wI (cy 1) (ef 2) 7 (xc 2), wO (ea 3) 2 [.ref (eg 3), .ref (ef 3), .int (et 3), .int (nI (el 3)), .int (nI (ei 3))], wI (cy 1) (eg 3) 10 (gc 3), wI (cy 1) (ef 3) 7 (xc 3)] hP9 hD9 hS9 (fun hP hD hS => ?_)
            clear hP9 hD9 hS9
            refine lv_aload_n hx hb dX6_chooseWords_82 rfl (lv_at hl 3 rfl) ?_
            refine lv_iload_n hx hb dX6_chooseWords_83 rfl (lv_at hl 4 rfl) ?_
            refine lv_iconst (v := 1) hx hb dX6_chooseWords_84 (by decide) ?_
            refine lv_iadd hx hb dX6_chooseWords_85 ?_
            refine lv_topi (fun y_28 hy_28 => ?_)
            obtain rfl : y_28 = 1 := hy_28.trans (by decide +kernel)
            refine x_callVi (q := (RX6, TX6, 9)) (ci := 6) (q0 := 0) (wr := []) (rest := []) ⟨hx, hb, hml, hown, hg, hl.1⟩ k_X6_73 (s_chooseWords1 l D cy p0 p1 p2 p3 p4 er ro ch fne g_27 fpc h0 h1 h2 h3 h4 h5 h6 h7 h8 h9 h10 h11 hv1 hv2 hv3 hv4 ys fc c0 c1 c2 c3 fx s0 s1 s2 sl spl svo swi sch g_23 fa3_15 ea eg ef et el ei gc xc (hne) (hpc) (by omega) (hcn) (by omega) (by omega) (by omega) (by omega) (hnx) (fun i9 h9 => by rcases (show i9 = 0 ∨ i9 = 1 ∨ i9 = 2 ∨ i9 = 3 by omega) with rfl | rfl | rfl | rfl <;> omega) (by omega) (hr_24) (ha4_15)) E0_blind hK hP hD hS hA [0, 1, 2, 3, 4, 5, 6, 7, 8, 9, 10, 11, 12, 13, 14, 15, 16, 17, 18, 19, 20, 21, 22] [] ⟨rfl, rfl, by decide +kernel, by decide +kernel, by decide +kernel⟩ rfl rfl (fun _ _ _ => trivial) dX6_chooseWords_86 rfl rfl (Nat.le_of_ble_eq_true rfl) ⟨Nat.le_of_ble_eq_true rfl, Nat.le_of_ble_eq_true rfl⟩ ⟨Nat.le_of_ble_eq_true rfl, Nat.le_of_ble_eq_true rfl⟩ (fun zr29 zu29 H locs hw29 hP9 hD9 hS9 => ?_)
            clear hP hD hS
            obtain ⟨ffd2_30, fw2_31, fr2_32⟩ := zu29
            refine reW [wO p0 6 [.ref p1, .ref er, .ref ro, .ref p2, .ref p3, .ref p4, .ref h0, .ref s0, .int (nI ch)], wI (cy 1) p3 4 (fne), wI (cy 1) p1 3 (ffd2_30), wI (cy 1) p2 3 (fpc), wO h0 4 [.ref h1, .ref h2, .ref h3, .ref h4, .ref h5, .ref h6, .ref h7, .ref h8, .ref h9, .ref h10, .ref h11, .int ys, hv1, hv2, hv3, hv4], wI (cy 1) h1 4 (fc), wI (cy 1) h7 48 (fx), wO s0 7 [.ref s1, .ref s2, .int (nI sl), .int spl, .int svo, .int swi, .int sch], wI (cy 1) s1 10 (fw2_31), wI (cy 1) ro 20 (fr2_32), (er, .inl (cy 4, 4, .inr (.inr (.inr (.inr (eF (ea 0) (ea 1) (ea 2) (ea 3))))))), wO (ea 0) 2 [.ref (eg 0), .ref (ef 0), .int (et 0), .int (nI (el 0)), .int (nI (ei 0))], wI (cy 1) (eg 0) 10 (gc 0), wI (cy 1) (ef 0) 7 (xc 0), wO (ea 1) 2 [.ref (eg 1), .ref (ef 1), .int (et 1), .int (nI (el 1)), .int (nI (ei 1))], wI (cy 1) (eg 1) 10 (gc 1), wI (cy 1) (ef 1) 7 (xc 1), wO (ea 2) 2 [.ref (eg 2), .ref (ef 2), .int (et 2), .int (nI (el 2)), .int (nI (ei 2))], wI (cy 1) (eg 2) 10 (gc 2), wI (cy 1) (ef 2) 7 (xc 2), wO (ea 3) 2 [.ref (eg 3), .ref (ef 3), .int (et 3), .int (nI (el 3)), .int (nI (ei 3))], wI (cy 1) (eg 3) 10 (gc 3), wI (cy 1) (ef 3) 7 (xc 3)] hP9 hD9 hS9 (fun hP hD hS => ?_)
            clear hP9 hD9 hS9
            refine W.widen (k := 0) (n := 0) (Nat.le_of_ble_eq_true rfl) (Nat.le_of_ble_eq_true rfl) ?_
            replace hw29 : (zr29 = 0 ∨ zr29 = 1) ∧ (rng fw2_31 10 7) ∧ (rng fr2_32 20 7) := hw29
            obtain ⟨f_33, f_34, f_35⟩ := hw29
            refine lv_if_eq (tgt := 94) hx hb dX6_chooseWords_89 (by decide) (fun c_89 => ?_) (fun c_89 => ?_)
            · refine lv_iinc (v := nI (wd15 + 1)) (lv' := [(4, .int (nI (wd15 + 1))), (3, .int (nI j_13)), (2, .int (nI j_11)), (0, .ref p0), (1, .int 0)]) hx hb dX6_chooseWords_94 hl (k := 0) rfl (nI_add wd15 1) (by decide) rfl (fun ls hl => ?_)
              refine lv_goto (tgt := 38) hx hb dX6_chooseWords_97 (by decide) ?_
              exact ih15  ((wd15 + 1)) ffd2_30 fw2_31 fr2_32 f_34 f_35 (by omega) (by omega) _ _ (hP.sub [0, 1, 2, 3, 4, 5, 6, 7, 8, 9, 10, 11, 12, 13, 14, 15, 16, 17, 18, 19, 20, 21, 22] rfl) (hD.sub [0, 1, 2, 3, 4, 5, 6, 7, 8, 9, 10, 11, 12, 13, 14, 15, 16, 17, 18, 19, 20, 21, 22] (by decide +kernel) rfl) hS ls (lv_sub hl [0, 1, 2, 3, 4] rfl)
            · refine lv_iconst (v := 1) hx hb dX6_chooseWords_92 (by decide) ?_
              exact x_zret hQ hx hb hr hlocks hK hP hD hS rfl dX6_chooseWords_93 (ffd2_30, fw2_31, fr2_32) (⟨(Or.inr rfl), f_34, f_35⟩) [0, 1, 2, 3, 4, 5, 6, 7, 8, 9, 10, 11, 12, 13, 14, 15, 16, 17, 18, 19, 20, 21, 22] (by decide +kernel) rfl (Nat.le_of_ble_eq_true rfl) (Nat.le_of_ble_eq_true rfl)
    exact loop15 _ 0 ffd fw fr hsw hrw (by omega) (Nat.le_refl _) _ _ (hP.sub [0, 1, 2, 3, 4, 5, 6, 7, 8, 9, 10, 11, 12, 13, 14, 15, 16, 17, 18, 19, 20, 21, 22] rfl) (hD.sub [0, 1, 2, 3, 4, 5, 6, 7, 8, 9, 10, 11, 12, 13, 14, 15, 16, 17, 18, 19, 20, 21, 22] (by decide +kernel) rfl) hS ls (lv_sub hl [0, 1, 2, 3, 4] rfl)
theorem gdX6_fewest_0 : decode cX6_fewest 0 = .ok (.aload_n 0, 1) ∧ decode cX6_fewest 1 = .ok (.aload_n 1, 1) ∧ decode cX6_fewest 2 = .ok (.putfield 35, 3) ∧ decode cX6_fewest 5 = .ok (.aload_n 0, 1) ∧ decode cX6_fewest 6 = .ok (.aload_n 2, 1) ∧ decode cX6_fewest 7 = .ok (.putfield 39, 3) ∧ decode cX6_fewest 10 = .ok (.iconst 0, 1) ∧ decode cX6_fewest 11 = .ok (.istore_n 3, 1) ∧ decode cX6_fewest 12 = .ok (.iload_n 3, 1) ∧ decode cX6_fewest 13 = .ok (.aload_n 1, 1) ∧ decode cX6_fewest 14 = .ok (.getfield 43, 3) ∧ decode cX6_fewest 17 = .ok (.iconst 1, 1) := by decide +kernel
theorem dX6_fewest_0 : decode cX6_fewest 0 = .ok (.aload_n 0, 1) := gdX6_fewest_0.1
theorem dX6_fewest_1 : decode cX6_fewest 1 = .ok (.aload_n 1, 1) := gdX6_fewest_0.2.1
theorem dX6_fewest_2 : decode cX6_fewest 2 = .ok (.putfield 35, 3) := gdX6_fewest_0.2.2.1
theorem dX6_fewest_5 : decode cX6_fewest 5 = .ok (.aload_n 0, 1) := gdX6_fewest_0.2.2.2.1
theorem dX6_fewest_6 : decode cX6_fewest 6 = .ok (.aload_n 2, 1) := gdX6_fewest_0.2.2.2.2.1
theorem dX6_fewest_7 : decode cX6_fewest 7 = .ok (.putfield 39, 3) := gdX6_fewest_0.2.2.2.2.2.1
theorem dX6_fewest_10 : decode cX6_fewest 10 = .ok (.iconst 0, 1) := gdX6_fewest_0.2.2.2.2.2.2.1
theorem dX6_fewest_11 : decode cX6_fewest 11 = .ok (.istore_n 3, 1) := gdX6_fewest_0.2.2.2.2.2.2.2.1
theorem dX6_fewest_12 : decode cX6_fewest 12 = .ok (.iload_n 3, 1) := gdX6_fewest_0.2.2.2.2.2.2.2.2.1
theorem dX6_fewest_13 : decode cX6_fewest 13 = .ok (.aload_n 1, 1) := gdX6_fewest_0.2.2.2.2.2.2.2.2.2.1
theorem dX6_fewest_14 : decode cX6_fewest 14 = .ok (.getfield 43, 3) := gdX6_fewest_0.2.2.2.2.2.2.2.2.2.2.1
theorem dX6_fewest_17 : decode cX6_fewest 17 = .ok (.iconst 1, 1) := gdX6_fewest_0.2.2.2.2.2.2.2.2.2.2.2
theorem gdX6_fewest_18 : decode cX6_fewest 18 = .ok (.iaload, 1) ∧ decode cX6_fewest 19 = .ok (.if_icmp .ge 25, 3) ∧ decode cX6_fewest 44 = .ok (.aload_n 0, 1) ∧ decode cX6_fewest 45 = .ok (.invokevirtual 60, 3) := by decide +kernel
theorem dX6_fewest_18 : decode cX6_fewest 18 = .ok (.iaload, 1) := gdX6_fewest_18.1
theorem dX6_fewest_19 : decode cX6_fewest 19 = .ok (.if_icmp .ge 25, 3) := gdX6_fewest_18.2.1
theorem dX6_fewest_44 : decode cX6_fewest 44 = .ok (.aload_n 0, 1) := gdX6_fewest_18.2.2.1
theorem dX6_fewest_45 : decode cX6_fewest 45 = .ok (.invokevirtual 60, 3) := gdX6_fewest_18.2.2.2
theorem k_X6_60 : xV RX6 RX6 60 yX6_orderCliffs cX6_orderCliffs 4 none 0 := ⟨⟨m_1240, m_1242, m_47, m_144, m_1243⟩, rfl, by decide, by decide, by decide +kernel⟩
theorem dX6_fewest_48 : decode cX6_fewest 48 = .ok (.aload_n 0, 1) := by decide +kernel
theorem dX6_fewest_49 : decode cX6_fewest 49 = .ok (.invokevirtual 63, 3) := by decide +kernel
theorem k_X6_63 : xV RX6 RX6 63 yX6_findQuiet cX6_findQuiet 4 none 0 := ⟨⟨m_1245, m_1247, m_48, m_144, m_1248⟩, rfl, by decide, by decide, by decide +kernel⟩
theorem gdX6_fewest_52 : decode cX6_fewest 52 = .ok (.iconst 0, 1) ∧ decode cX6_fewest 53 = .ok (.istore_n 3, 1) ∧ decode cX6_fewest 54 = .ok (.iload_n 3, 1) ∧ decode cX6_fewest 55 = .ok (.iconst 3, 1) ∧ decode cX6_fewest 56 = .ok (.if_icmp .gt 32, 3) ∧ decode cX6_fewest 88 = .ok (.iconst (-1), 1) ∧ decode cX6_fewest 89 = .ok (.ireturn, 1) ∧ decode cX6_fewest 59 = .ok (.aload_n 0, 1) ∧ decode cX6_fewest 60 = .ok (.iload_n 3, 1) ∧ decode cX6_fewest 61 = .ok (.putfield 66, 3) ∧ decode cX6_fewest 64 = .ok (.aload_n 0, 1) ∧ decode cX6_fewest 65 = .ok (.iconst 0, 1) := by decide +kernel
theorem dX6_fewest_52 : decode cX6_fewest 52 = .ok (.iconst 0, 1) := gdX6_fewest_52.1
theorem dX6_fewest_53 : decode cX6_fewest 53 = .ok (.istore_n 3, 1) := gdX6_fewest_52.2.1
theorem dX6_fewest_54 : decode cX6_fewest 54 = .ok (.iload_n 3, 1) := gdX6_fewest_52.2.2.1
theorem dX6_fewest_55 : decode cX6_fewest 55 = .ok (.iconst 3, 1) := gdX6_fewest_52.2.2.2.1
theorem dX6_fewest_56 : decode cX6_fewest 56 = .ok (.if_icmp .gt 32, 3) := gdX6_fewest_52.2.2.2.2.1
theorem dX6_fewest_88 : decode cX6_fewest 88 = .ok (.iconst (-1), 1) := gdX6_fewest_52.2.2.2.2.2.1
theorem dX6_fewest_89 : decode cX6_fewest 89 = .ok (.ireturn, 1) := gdX6_fewest_52.2.2.2.2.2.2.1
theorem dX6_fewest_59 : decode cX6_fewest 59 = .ok (.aload_n 0, 1) := gdX6_fewest_52.2.2.2.2.2.2.2.1
theorem dX6_fewest_60 : decode cX6_fewest 60 = .ok (.iload_n 3, 1) := gdX6_fewest_52.2.2.2.2.2.2.2.2.1
theorem dX6_fewest_61 : decode cX6_fewest 61 = .ok (.putfield 66, 3) := gdX6_fewest_52.2.2.2.2.2.2.2.2.2.1
theorem dX6_fewest_64 : decode cX6_fewest 64 = .ok (.aload_n 0, 1) := gdX6_fewest_52.2.2.2.2.2.2.2.2.2.2.1
theorem dX6_fewest_65 : decode cX6_fewest 65 = .ok (.iconst 0, 1) := gdX6_fewest_52.2.2.2.2.2.2.2.2.2.2.2
theorem gdX6_fewest_66 : decode cX6_fewest 66 = .ok (.iconst 0, 1) ∧ decode cX6_fewest 67 = .ok (.iconst 0, 1) ∧ decode cX6_fewest 68 = .ok (.invokevirtual 69, 3) ∧ decode cX6_fewest 71 = .ok (.ifCond .eq 11, 3) ∧ decode cX6_fewest 82 = .ok (.iinc 3 1, 3) ∧ decode cX6_fewest 85 = .ok (.goto (-31), 3) ∧ decode cX6_fewest 74 = .ok (.aload_n 0, 1) ∧ decode cX6_fewest 75 = .ok (.iconst 0, 1) ∧ decode cX6_fewest 76 = .ok (.invokevirtual 73, 3) ∧ decode cX6_fewest 79 = .ok (.pop, 1) ∧ decode cX6_fewest 80 = .ok (.iload_n 3, 1) ∧ decode cX6_fewest 81 = .ok (.ireturn, 1) := by decide +kernel
theorem dX6_fewest_66 : decode cX6_fewest 66 = .ok (.iconst 0, 1) := gdX6_fewest_66.1
theorem dX6_fewest_67 : decode cX6_fewest 67 = .ok (.iconst 0, 1) := gdX6_fewest_66.2.1
theorem dX6_fewest_68 : decode cX6_fewest 68 = .ok (.invokevirtual 69, 3) := gdX6_fewest_66.2.2.1
theorem dX6_fewest_71 : decode cX6_fewest 71 = .ok (.ifCond .eq 11, 3) := gdX6_fewest_66.2.2.2.1
theorem dX6_fewest_82 : decode cX6_fewest 82 = .ok (.iinc 3 1, 3) := gdX6_fewest_66.2.2.2.2.1
theorem dX6_fewest_85 : decode cX6_fewest 85 = .ok (.goto (-31), 3) := gdX6_fewest_66.2.2.2.2.2.1
theorem dX6_fewest_74 : decode cX6_fewest 74 = .ok (.aload_n 0, 1) := gdX6_fewest_66.2.2.2.2.2.2.1
theorem dX6_fewest_75 : decode cX6_fewest 75 = .ok (.iconst 0, 1) := gdX6_fewest_66.2.2.2.2.2.2.2.1
theorem dX6_fewest_76 : decode cX6_fewest 76 = .ok (.invokevirtual 73, 3) := gdX6_fewest_66.2.2.2.2.2.2.2.2.1
theorem dX6_fewest_79 : decode cX6_fewest 79 = .ok (.pop, 1) := gdX6_fewest_66.2.2.2.2.2.2.2.2.2.1
theorem dX6_fewest_80 : decode cX6_fewest 80 = .ok (.iload_n 3, 1) := gdX6_fewest_66.2.2.2.2.2.2.2.2.2.2.1
theorem dX6_fewest_81 : decode cX6_fewest 81 = .ok (.ireturn, 1) := gdX6_fewest_66.2.2.2.2.2.2.2.2.2.2.2
theorem gdX6_fewest_22 : decode cX6_fewest 22 = .ok (.aload_n 0, 1) ∧ decode cX6_fewest 23 = .ok (.getfield 30, 3) ∧ decode cX6_fewest 26 = .ok (.iload_n 3, 1) ∧ decode cX6_fewest 27 = .ok (.aaload, 1) ∧ decode cX6_fewest 28 = .ok (.aload_n 1, 1) ∧ decode cX6_fewest 29 = .ok (.aload_n 2, 1) ∧ decode cX6_fewest 30 = .ok (.iload_n 3, 1) ∧ decode cX6_fewest 31 = .ok (.aload_n 2, 1) ∧ decode cX6_fewest 32 = .ok (.getfield 48, 3) ∧ decode cX6_fewest 35 = .ok (.invokevirtual 54, 3) := by decide +kernel
theorem dX6_fewest_22 : decode cX6_fewest 22 = .ok (.aload_n 0, 1) := gdX6_fewest_22.1
theorem dX6_fewest_23 : decode cX6_fewest 23 = .ok (.getfield 30, 3) := gdX6_fewest_22.2.1
theorem dX6_fewest_26 : decode cX6_fewest 26 = .ok (.iload_n 3, 1) := gdX6_fewest_22.2.2.1
theorem dX6_fewest_27 : decode cX6_fewest 27 = .ok (.aaload, 1) := gdX6_fewest_22.2.2.2.1
theorem dX6_fewest_28 : decode cX6_fewest 28 = .ok (.aload_n 1, 1) := gdX6_fewest_22.2.2.2.2.1
theorem dX6_fewest_29 : decode cX6_fewest 29 = .ok (.aload_n 2, 1) := gdX6_fewest_22.2.2.2.2.2.1
theorem dX6_fewest_30 : decode cX6_fewest 30 = .ok (.iload_n 3, 1) := gdX6_fewest_22.2.2.2.2.2.2.1
theorem dX6_fewest_31 : decode cX6_fewest 31 = .ok (.aload_n 2, 1) := gdX6_fewest_22.2.2.2.2.2.2.2.1
theorem dX6_fewest_32 : decode cX6_fewest 32 = .ok (.getfield 48, 3) := gdX6_fewest_22.2.2.2.2.2.2.2.2.1
theorem dX6_fewest_35 : decode cX6_fewest 35 = .ok (.invokevirtual 54, 3) := gdX6_fewest_22.2.2.2.2.2.2.2.2.2
theorem k_X6_54 : xV RX6 RX2 54 yX2_tuneToAll cX2_tuneToAll 7 none 4 := ⟨⟨m_1239, m_1147, m_1148, m_142, m_1149⟩, rfl, by decide, by decide, by decide +kernel⟩
theorem dX6_fewest_38 : decode cX6_fewest 38 = .ok (.iinc 3 1, 3) := by decide +kernel
theorem dX6_fewest_41 : decode cX6_fewest 41 = .ok (.goto (-29), 3) := by decide +kernel
set_option maxHeartbeats 1000000 in
set_option maxRecDepth 100000 in
theorem s_fewest (l : Launch) (D : va_G) (cy : Nat → ClassId) (p0 : Nat) (p1 : Nat) (p2 : Nat) (p3 : Nat) (p4 : Nat) (er : Nat) (ro : Nat) (ch : Nat) (rh1 : Value) (rh2 : Value) (ffd : Nat → Int32) (fpc : Nat → Int32) (fne : Nat → Int32) (fqi : Nat → Int32) (h0 : Nat) (h1 : Nat) (h2 : Nat) (h3 : Nat) (h4 : Nat) (h5 : Nat) (h6 : Nat) (h7 : Nat) (h8 : Nat) (h9 : Nat) (h10 : Nat) (h11 : Nat) (hv1 : Value) (hv2 : Value) (hv3 : Value) (hv4 : Value) (ys : Int32) (fp : Nat → Int32) (flo : Nat → Int32) (fx : Nat → Int32) (fc : Nat → Int32) (c0 : Nat) (c1 : Nat) (c2 : Nat) (c3 : Nat) (h9a : Nat) (h9b : Nat) (nb : Nat) (tb : Int32) (fcb : Nat → Int32) (fsb : Nat → Int32) (h11a : Nat) (h11b : Nat) (nt : Nat) (tt : Int32) (fct : Nat → Int32) (fst : Nat → Int32) (h10a : Nat) (h10b : Nat) (nl : Nat) (tl : Int32) (fcl : Nat → Int32) (fsl : Nat → Int32) (s0 : Nat) (s1 : Nat) (s2 : Nat) (sl : Nat) (spl : Int32) (svo : Int32) (swi : Int32) (sch : Int32) (fw : Nat → Int32) (fsn : Nat → Int32) (fr : Nat → Int32) (ea : Nat → Nat) (eg : Nat → Nat) (ef : Nat → Nat) (et : Nat → Int32) (el : Nat → Nat) (ei : Nat → Nat) (gc : Nat → Nat → Int32) (xc : Nat → Nat → Int32) (hpc : rng fpc 3 9) (hch : ch ≤ 3) (hcn : cntOK fc c0 c1 c2 c3) (hc0 : c0 ≤ 8) (hc1 : c1 ≤ 4) (hc2 : c2 ≤ 4) (hc3 : c3 ≤ 6) (hnx : rng fx 48 5) (hnb : nb ≤ 280) (hcb : cOK fcb nb) (hnt : nt ≤ 280) (hct : cOK fct nt) (hnl : nl ≤ 280) (hcl : cOK fcl nl) (hel : ∀ i9, i9 < 4 → el i9 ≤ 10) (hsl : sl ≤ 10) (hsw : rng fw 10 7) (hrw : rng fr 20 7) : XMi l D (tyL cy) E0 yX6_fewest cX6_fewest 4 (some .int) (rmk 10 0 0) [.ref p0, .ref h0, .ref s0] [wO p0 6 [.ref p1, .ref er, .ref ro, .ref p2, .ref p3, .ref p4, rh1, rh2, .int (nI ch)], wI (cy 1) p3 4 (fne), wI (cy 1) p1 3 (ffd), wI (cy 1) p2 3 (fpc), wI (cy 1) p4 40 (fqi), wO h0 4 [.ref h1, .ref h2, .ref h3, .ref h4, .ref h5, .ref h6, .ref h7, .ref h8, .ref h9, .ref h10, .ref h11, .int ys, hv1, hv2, hv3, hv4], wI (cy 1) h1 4 (fc), wI (cy 1) h3 4 (fp), wI (cy 1) h2 8 (flo), wI (cy 1) h7 48 (fx), wO h9 3 [.ref h9a, .ref h9b, .int (nI nb), .int tb], wI (cy 1) h9a 280 (fcb), wI (cy 1) h9b 31 (fsb), wO h11 3 [.ref h11a, .ref h11b, .int (nI nt), .int tt], wI (cy 1) h11a 280 (fct), wI (cy 1) h11b 31 (fst), wO h10 3 [.ref h10a, .ref h10b, .int (nI nl), .int tl], wI (cy 1) h10a 280 (fcl), wI (cy 1) h10b 31 (fsl), wO s0 7 [.ref s1, .ref s2, .int (nI sl), .int spl, .int svo, .int swi, .int sch], wI (cy 1) s1 10 (fw), wI (cy 1) s2 4 (fsn), wI (cy 1) ro 20 (fr), (er, .inl (cy 4, 4, .inr (.inr (.inr (.inr (eF (ea 0) (ea 1) (ea 2) (ea 3))))))), wO (ea 0) 2 [.ref (eg 0), .ref (ef 0), .int (et 0), .int (nI (el 0)), .int (nI (ei 0))], wI (cy 1) (eg 0) 10 (gc 0), wI (cy 1) (ef 0) 7 (xc 0), wO (ea 1) 2 [.ref (eg 1), .ref (ef 1), .int (et 1), .int (nI (el 1)), .int (nI (ei 1))], wI (cy 1) (eg 1) 10 (gc 1), wI (cy 1) (ef 1) 7 (xc 1), wO (ea 2) 2 [.ref (eg 2), .ref (ef 2), .int (et 2), .int (nI (el 2)), .int (nI (ei 2))], wI (cy 1) (eg 2) 10 (gc 2), wI (cy 1) (ef 2) 7 (xc 2), wO (ea 3) 2 [.ref (eg 3), .ref (ef 3), .int (et 3), .int (nI (el 3)), .int (nI (ei 3))], wI (cy 1) (eg 3) 10 (gc 3), wI (cy 1) (ef 3) 7 (xc 3)] (fun (r : Int32) (u : Nat × (Nat → Int32) × (Nat → Int32) × (Nat → Int32) × (Nat → Int32) × (Nat → Int32) × (Nat → Int32) × (Nat → Int32) × (Nat → Nat) × (Nat → Nat) × (Nat → Nat → Int32) × (Nat → Nat → Int32) × (Nat → Int32) × (Nat → Int32) × (Nat → Int32)) => (u.1 ≤ 3) ∧ (rng u.2.2.1 3 9) ∧ (rng u.2.2.2.2.2.1 10 7) ∧ (rng u.2.2.2.2.2.2.1 20 7) ∧ (r = -1 ∨ ∃ j9 : Nat, j9 ≤ 3 ∧ r = nI j9) ∧ (∀ i9, i9 < 4 → u.2.2.2.2.2.2.2.2.1 i9 ≤ 10)) (fun (u : Nat × (Nat → Int32) × (Nat → Int32) × (Nat → Int32) × (Nat → Int32) × (Nat → Int32) × (Nat → Int32) × (Nat → Int32) × (Nat → Nat) × (Nat → Nat) × (Nat → Nat → Int32) × (Nat → Nat → Int32) × (Nat → Int32) × (Nat → Int32) × (Nat → Int32)) => [wO p0 6 [.ref p1, .ref er, .ref ro, .ref p2, .ref p3, .ref p4, .ref h0, .ref s0, .int (nI u.1)], wI (cy 1) p3 4 (u.2.2.2.1), wI (cy 1) p1 3 (u.2.1), wI (cy 1) p2 3 (u.2.2.1), wI (cy 1) p4 40 (u.2.2.2.2.1), wO h0 4 [.ref h1, .ref h2, .ref h3, .ref h4, .ref h5, .ref h6, .ref h7, .ref h8, .ref h9, .ref h10, .ref h11, .int ys, hv1, hv2, hv3, hv4], wI (cy 1) h1 4 (fc), wI (cy 1) h3 4 (fp), wI (cy 1) h2 8 (flo), wI (cy 1) h7 48 (fx), wO h9 3 [.ref h9a, .ref h9b, .int (nI nb), .int tb], wI (cy 1) h9a 280 (fcb), wI (cy 1) h9b 31 (u.2.2.2.2.2.2.2.2.2.2.2.2.1), wO h11 3 [.ref h11a, .ref h11b, .int (nI nt), .int tt], wI (cy 1) h11a 280 (fct), wI (cy 1) h11b 31 (u.2.2.2.2.2.2.2.2.2.2.2.2.2.1), wO h10 3 [.ref h10a, .ref h10b, .int (nI nl), .int tl], wI (cy 1) h10a 280 (fcl), wI (cy 1) h10b 31 (u.2.2.2.2.2.2.2.2.2.2.2.2.2.2), wO s0 7 [.ref s1, .ref s2, .int (nI sl), .int spl, .int svo, .int swi, .int sch], wI (cy 1) s1 10 (u.2.2.2.2.2.1), wI (cy 1) s2 4 (fsn), wI (cy 1) ro 20 (u.2.2.2.2.2.2.1), (er, .inl (cy 4, 4, .inr (.inr (.inr (.inr (eF (ea 0) (ea 1) (ea 2) (ea 3))))))), wO (ea 0) 2 [.ref (eg 0), .ref (ef 0), .int (u.2.2.2.2.2.2.2.1 0), .int (nI (u.2.2.2.2.2.2.2.2.1 0)), .int (nI (u.2.2.2.2.2.2.2.2.2.1 0))], wI (cy 1) (eg 0) 10 (u.2.2.2.2.2.2.2.2.2.2.1 0), wI (cy 1) (ef 0) 7 (u.2.2.2.2.2.2.2.2.2.2.2.1 0), wO (ea 1) 2 [.ref (eg 1), .ref (ef 1), .int (u.2.2.2.2.2.2.2.1 1), .int (nI (u.2.2.2.2.2.2.2.2.1 1)), .int (nI (u.2.2.2.2.2.2.2.2.2.1 1))], wI (cy 1) (eg 1) 10 (u.2.2.2.2.2.2.2.2.2.2.1 1), wI (cy 1) (ef 1) 7 (u.2.2.2.2.2.2.2.2.2.2.2.1 1), wO (ea 2) 2 [.ref (eg 2), .ref (ef 2), .int (u.2.2.2.2.2.2.2.1 2), .int (nI (u.2.2.2.2.2.2.2.2.1 2)), .int (nI (u.2.2.2.2.2.2.2.2.2.1 2))], wI (cy 1) (eg 2) 10 (u.2.2.2.2.2.2.2.2.2.2.1 2), wI (cy 1) (ef 2) 7 (u.2.2.2.2.2.2.2.2.2.2.2.1 2), wO (ea 3) 2 [.ref (eg 3), .ref (ef 3), .int (u.2.2.2.2.2.2.2.1 3), .int (nI (u.2.2.2.2.2.2.2.2.1 3)), .int (nI (u.2.2.2.2.2.2.2.2.2.1 3))], wI (cy 1) (eg 3) 10 (u.2.2.2.2.2.2.2.2.2.2.1 3), wI (cy 1) (ef 3) 7 (u.2.2.2.2.2.2.2.2.2.2.2.1 3)]) := by
  refine XMi.start (by decide) (Nat.le_of_ble_eq_true rfl) ?_
  intro p e s m below meth c args A ls Q hat hQ
  obtain ⟨hx, hb, hr, hml, hown, hg, hlocks, hin, hK, hA, hP, hD, hS, hE, hl⟩ := hat
  have hown : s.vm.findClass RX6 = some m.cls := hown
  have hl : lv_has ls 4 [(0, .ref p0), (1, .ref h0), (2, .ref s0)] := hl
  have hk_1 := hel 0 (by decide)
  have hk_2 := hel 1 (by decide)
  have hk_3 := hel 2 (by decide)
  have hk_4 := hel 3 (by decide)
  refine lv_aload_n hx hb dX6_fewest_0 rfl (lv_at hl 0 rfl) ?_
  refine lv_aload_n hx hb dX6_fewest_1 rfl (lv_at hl 1 rfl) ?_
  refine va_put (D := D) (ci := 6) (v := .ref h0) (ty := .object "CliffJudges$Hills") (C := RX6) (T := TX6) (N := 9) hx hb hg i_X6 tyX6 tyX6_ok nmX6 hown hK hP hD hS 0 rfl rfl 6 (by decide) (hg _ m_591) (fun _ h9 => h9) rfl (by decide +kernel) rfl rfl (Nat.le_of_ble_eq_true rfl) dX6_fewest_2 (fun H locs hP9 hD9 hS9 => ?_)
  clear hP hD hS
  refine reW [wO p0 6 [.ref p1, .ref er, .ref ro, .ref p2, .ref p3, .ref p4, .ref h0, rh2, .int (nI ch)], wI (cy 1) p3 4 (fne), wI (cy 1) p1 3 (ffd), wI (cy 1) p2 3 (fpc), wI (cy 1) p4 40 (fqi), wO h0 4 [.ref h1, .ref h2, .ref h3, .ref h4, .ref h5, .ref h6, .ref h7, .ref h8, .ref h9, .ref h10, .ref h11, .int ys, hv1, hv2, hv3, hv4], wI (cy 1) h1 4 (fc), wI (cy 1) h3 4 (fp), wI (cy 1) h2 8 (flo), wI (cy 1) h7 48 (fx), wO h9 3 [.ref h9a, .ref h9b, .int (nI nb), .int tb], wI (cy 1) h9a 280 (fcb), wI (cy 1) h9b 31 (fsb), wO h11 3 [.ref h11a, .ref h11b, .int (nI nt), .int tt], wI (cy 1) h11a 280 (fct), wI (cy 1) h11b 31 (fst), wO h10 3 [.ref h10a, .ref h10b, .int (nI nl), .int tl], wI (cy 1) h10a 280 (fcl), wI (cy 1) h10b 31 (fsl), wO s0 7 [.ref s1, .ref s2, .int (nI sl), .int spl, .int svo, .int swi, .int sch], wI (cy 1) s1 10 (fw), wI (cy 1) s2 4 (fsn), wI (cy 1) ro 20 (fr), (er, .inl (cy 4, 4, .inr (.inr (.inr (.inr (eF (ea 0) (ea 1) (ea 2) (ea 3))))))), wO (ea 0) 2 [.ref (eg 0), .ref (ef 0), .int (et 0), .int (nI (el 0)), .int (nI (ei 0))], wI (cy 1) (eg 0) 10 (gc 0), wI (cy 1) (ef 0) 7 (xc 0), wO (ea 1) 2 [.ref (eg 1), .ref (ef 1), .int (et 1), .int (nI (el 1)), .int (nI (ei 1))], wI (cy 1) (eg 1) 10 (gc 1), wI (cy 1) (ef 1) 7 (xc 1), wO (ea 2) 2 [.ref (eg 2), .ref (ef 2), .int (et 2), .int (nI (el 2)), .int (nI (ei 2))], wI (cy 1) (eg 2) 10 (gc 2), wI (cy 1) (ef 2) 7 (xc 2), wO (ea 3) 2 [.ref (eg 3), .ref (ef 3), .int (et 3), .int (nI (el 3)), .int (nI (ei 3))], wI (cy 1) (eg 3) 10 (gc 3), wI (cy 1) (ef 3) 7 (xc 3)] hP9 hD9 hS9 (fun hP hD hS => ?_)
  clear hP9 hD9 hS9
  refine lv_aload_n hx hb dX6_fewest_5 rfl (lv_at hl 0 rfl) ?_
  refine lv_aload_n hx hb dX6_fewest_6 rfl (lv_at hl 2 rfl) ?_
  refine va_put (D := D) (ci := 6) (v := .ref s0) (ty := .object "CliffJudges$Shout") (C := RX6) (T := TX6) (N := 9) hx hb hg i_X6 tyX6 tyX6_ok nmX6 hown hK hP hD hS 0 rfl rfl 7 (by decide) (hg _ m_592) (fun _ h9 => h9) rfl (by decide +kernel) rfl rfl (Nat.le_of_ble_eq_true rfl) dX6_fewest_7 (fun H locs hP9 hD9 hS9 => ?_)
  clear hP hD hS
  refine reW [wO p0 6 [.ref p1, .ref er, .ref ro, .ref p2, .ref p3, .ref p4, .ref h0, .ref s0, .int (nI ch)], wI (cy 1) p3 4 (fne), wI (cy 1) p1 3 (ffd), wI (cy 1) p2 3 (fpc), wI (cy 1) p4 40 (fqi), wO h0 4 [.ref h1, .ref h2, .ref h3, .ref h4, .ref h5, .ref h6, .ref h7, .ref h8, .ref h9, .ref h10, .ref h11, .int ys, hv1, hv2, hv3, hv4], wI (cy 1) h1 4 (fc), wI (cy 1) h3 4 (fp), wI (cy 1) h2 8 (flo), wI (cy 1) h7 48 (fx), wO h9 3 [.ref h9a, .ref h9b, .int (nI nb), .int tb], wI (cy 1) h9a 280 (fcb), wI (cy 1) h9b 31 (fsb), wO h11 3 [.ref h11a, .ref h11b, .int (nI nt), .int tt], wI (cy 1) h11a 280 (fct), wI (cy 1) h11b 31 (fst), wO h10 3 [.ref h10a, .ref h10b, .int (nI nl), .int tl], wI (cy 1) h10a 280 (fcl), wI (cy 1) h10b 31 (fsl), wO s0 7 [.ref s1, .ref s2, .int (nI sl), .int spl, .int svo, .int swi, .int sch], wI (cy 1) s1 10 (fw), wI (cy 1) s2 4 (fsn), wI (cy 1) ro 20 (fr), (er, .inl (cy 4, 4, .inr (.inr (.inr (.inr (eF (ea 0) (ea 1) (ea 2) (ea 3))))))), wO (ea 0) 2 [.ref (eg 0), .ref (ef 0), .int (et 0), .int (nI (el 0)), .int (nI (ei 0))], wI (cy 1) (eg 0) 10 (gc 0), wI (cy 1) (ef 0) 7 (xc 0), wO (ea 1) 2 [.ref (eg 1), .ref (ef 1), .int (et 1), .int (nI (el 1)), .int (nI (ei 1))], wI (cy 1) (eg 1) 10 (gc 1), wI (cy 1) (ef 1) 7 (xc 1), wO (ea 2) 2 [.ref (eg 2), .ref (ef 2), .int (et 2), .int (nI (el 2)), .int (nI (ei 2))], wI (cy 1) (eg 2) 10 (gc 2), wI (cy 1) (ef 2) 7 (xc 2), wO (ea 3) 2 [.ref (eg 3), .ref (ef 3), .int (et 3), .int (nI (el 3)), .int (nI (ei 3))], wI (cy 1) (eg 3) 10 (gc 3), wI (cy 1) (ef 3) 7 (xc 3)] hP9 hD9 hS9 (fun hP hD hS => ?_)
  clear hP9 hD9 hS9
  refine lv_iconst (v := 0) hx hb dX6_fewest_10 (by decide) ?_
  refine lv_istore_n (lv' := [(3, .int 0), (0, .ref p0), (1, .ref h0), (2, .ref s0)]) hx hb dX6_fewest_11 rfl hl (by decide) rfl (fun ls hl => ?_)
  have loop5 : ∀ (zn : Nat) (i5 : Nat) (fx1_5 : Int32) (l0_5 : Nat) (i0_5 : Nat) (fx4_5 : Int32) (l1_5 : Nat) (i1_5 : Nat) (fx7_5 : Int32) (l2_5 : Nat) (i2_5 : Nat) (fx10_5 : Int32) (l3_5 : Nat) (i3_5 : Nat) (fa13_5 : Nat → Int32) (fa14_5 : Nat → Int32) (fa15_5 : Nat → Int32) (fa16_5 : Nat → Int32) (fa17_5 : Nat → Int32) (fa18_5 : Nat → Int32) (fa19_5 : Nat → Int32) (fa20_5 : Nat → Int32) (fa21_5 : Nat → Int32) (fa22_5 : Nat → Int32) (fa23_5 : Nat → Int32), (i5 ≤ c1) → (l0_5 ≤ 10) → (l1_5 ≤ 10) → (l2_5 ≤ 10) → (l3_5 ≤ 10) → (0 < i5 → l0_5 = sl) → (1 < i5 → l1_5 = sl) → (2 < i5 → l2_5 = sl) → (3 < i5 → l3_5 = sl) → c1 - i5 + 1 ≤ zn → ∀ (H : Heap) (locs : List Loc), va_P D vwCl [wO p0 6 [.ref p1, .ref er, .ref ro, .ref p2, .ref p3, .ref p4, .ref h0, .ref s0, .int (nI ch)], wI (cy 1) p3 4 (fne), wI (cy 1) p1 3 (ffd), wI (cy 1) p2 3 (fpc), wI (cy 1) p4 40 (fqi), wO h0 4 [.ref h1, .ref h2, .ref h3, .ref h4, .ref h5, .ref h6, .ref h7, .ref h8, .ref h9, .ref h10, .ref h11, .int ys, hv1, hv2, hv3, hv4], wI (cy 1) h1 4 (fc), wI (cy 1) h3 4 (fp), wI (cy 1) h2 8 (flo), wI (cy 1) h7 48 (fx), wO h9 3 [.ref h9a, .ref h9b, .int (nI nb), .int tb], wI (cy 1) h9a 280 (fcb), wI (cy 1) h9b 31 (fa13_5), wO h11 3 [.ref h11a, .ref h11b, .int (nI nt), .int tt], wI (cy 1) h11a 280 (fct), wI (cy 1) h11b 31 (fa14_5), wO h10 3 [.ref h10a, .ref h10b, .int (nI nl), .int tl], wI (cy 1) h10a 280 (fcl), wI (cy 1) h10b 31 (fa15_5), wO s0 7 [.ref s1, .ref s2, .int (nI sl), .int spl, .int svo, .int swi, .int sch], wI (cy 1) s1 10 (fw), wI (cy 1) s2 4 (fsn), wI (cy 1) ro 20 (fr), (er, .inl (cy 4, 4, .inr (.inr (.inr (.inr (eF (ea 0) (ea 1) (ea 2) (ea 3))))))), wO (ea 0) 2 [.ref (eg 0), .ref (ef 0), .int fx1_5, .int (nI l0_5), .int (nI i0_5)], wI (cy 1) (eg 0) 10 (fa16_5), wI (cy 1) (ef 0) 7 (fa20_5), wO (ea 1) 2 [.ref (eg 1), .ref (ef 1), .int fx4_5, .int (nI l1_5), .int (nI i1_5)], wI (cy 1) (eg 1) 10 (fa17_5), wI (cy 1) (ef 1) 7 (fa21_5), wO (ea 2) 2 [.ref (eg 2), .ref (ef 2), .int fx7_5, .int (nI l2_5), .int (nI i2_5)], wI (cy 1) (eg 2) 10 (fa18_5), wI (cy 1) (ef 2) 7 (fa22_5), wO (ea 3) 2 [.ref (eg 3), .ref (ef 3), .int fx10_5, .int (nI l3_5), .int (nI i3_5)], wI (cy 1) (eg 3) 10 (fa19_5), wI (cy 1) (ef 3) 7 (fa23_5)] H → va_D A [wO p0 6 [.ref p1, .ref er, .ref ro, .ref p2, .ref p3, .ref p4, .ref h0, .ref s0, .int (nI ch)], wI (cy 1) p3 4 (fne), wI (cy 1) p1 3 (ffd), wI (cy 1) p2 3 (fpc), wI (cy 1) p4 40 (fqi), wO h0 4 [.ref h1, .ref h2, .ref h3, .ref h4, .ref h5, .ref h6, .ref h7, .ref h8, .ref h9, .ref h10, .ref h11, .int ys, hv1, hv2, hv3, hv4], wI (cy 1) h1 4 (fc), wI (cy 1) h3 4 (fp), wI (cy 1) h2 8 (flo), wI (cy 1) h7 48 (fx), wO h9 3 [.ref h9a, .ref h9b, .int (nI nb), .int tb], wI (cy 1) h9a 280 (fcb), wI (cy 1) h9b 31 (fa13_5), wO h11 3 [.ref h11a, .ref h11b, .int (nI nt), .int tt], wI (cy 1) h11a 280 (fct), wI (cy 1) h11b 31 (fa14_5), wO h10 3 [.ref h10a, .ref h10b, .int (nI nl), .int tl], wI (cy 1) h10a 280 (fcl), wI (cy 1) h10b 31 (fa15_5), wO s0 7 [.ref s1, .ref s2, .int (nI sl), .int spl, .int svo, .int swi, .int sch], wI (cy 1) s1 10 (fw), wI (cy 1) s2 4 (fsn), wI (cy 1) ro 20 (fr), (er, .inl (cy 4, 4, .inr (.inr (.inr (.inr (eF (ea 0) (ea 1) (ea 2) (ea 3))))))), wO (ea 0) 2 [.ref (eg 0), .ref (ef 0), .int fx1_5, .int (nI l0_5), .int (nI i0_5)], wI (cy 1) (eg 0) 10 (fa16_5), wI (cy 1) (ef 0) 7 (fa20_5), wO (ea 1) 2 [.ref (eg 1), .ref (ef 1), .int fx4_5, .int (nI l1_5), .int (nI i1_5)], wI (cy 1) (eg 1) 10 (fa17_5), wI (cy 1) (ef 1) 7 (fa21_5), wO (ea 2) 2 [.ref (eg 2), .ref (ef 2), .int fx7_5, .int (nI l2_5), .int (nI i2_5)], wI (cy 1) (eg 2) 10 (fa18_5), wI (cy 1) (ef 2) 7 (fa22_5), wO (ea 3) 2 [.ref (eg 3), .ref (ef 3), .int fx10_5, .int (nI l3_5), .int (nI i3_5)], wI (cy 1) (eg 3) 10 (fa19_5), wI (cy 1) (ef 3) 7 (fa23_5)] → va_S A s.heap H locs → ∀ ls : Array Slot, lv_has ls 4 [(3, .int (nI i5)), (0, .ref p0), (1, .ref h0), (2, .ref s0)] → W p l e (rmk 10 0 0) s m args below meth c H locs 0 0 Q (F0 m 12 ls []) := by
    try clear hP hD hS
    intro zn
    induction zn with
    | zero => intro i5 fx1_5 l0_5 i0_5 fx4_5 l1_5 i1_5 fx7_5 l2_5 i2_5 fx10_5 l3_5 i3_5 fa13_5 fa14_5 fa15_5 fa16_5 fa17_5 fa18_5 fa19_5 fa20_5 fa21_5 fa22_5 fa23_5 _ _ _ _ _ _ _ _ _ hz; exact absurd hz (by omega)
    | succ zn ih5 =>
      intro i5 fx1_5 l0_5 i0_5 fx4_5 l1_5 i1_5 fx7_5 l2_5 i2_5 fx10_5 l3_5 i3_5 fa13_5 fa14_5 fa15_5 fa16_5 fa17_5 fa18_5 fa19_5 fa20_5 fa21_5 fa22_5 fa23_5 hf0_5 hf1_5 hf2_5 hf3_5 hf4_5 hf5_5 hf6_5 hf7_5 hf8_5 hmu5 H locs hP hD hS ls hl
      refine lv_iload_n hx hb dX6_fewest_12 rfl (lv_at hl 0 rfl) ?_
      refine lv_aload_n hx hb dX6_fewest_13 rfl (lv_at hl 2 rfl) ?_
      refine va_get (D := D) (ci := 4) (v := .ref h1) (C := RX4) (T := TX4) (N := 16) hx hb hg i_X4 hown hK hP 5 rfl rfl 0 (by decide) (hg _ m_330) (fun _ h9 => h9) rfl dX6_fewest_14 ?_
      refine lv_iconst (v := 1) hx hb dX6_fewest_17 (by decide) ?_
      refine va_iald hx hb hK hP 6 1 rfl rfl (by unfold vp_in; decide) dX6_fewest_18 ?_
      refine lv_topi (fun y_6 hy_6 => ?_)
      obtain rfl : y_6 = nI c1 := hy_6.trans hcn.2.1
      refine lv_icmp_ge (tgt := 44) hx hb dX6_fewest_19 (by decide) (fun c_7 => ?_) (fun c_7 => ?_)
      · have q_8 : c1 ≤ i5 := q_le (a := c1) (b := i5) rfl rfl (by omega) (by omega) c_7
        refine lv_aload_n hx hb dX6_fewest_44 rfl (lv_at hl 1 rfl) ?_
        refine x_callVv (q := (RX6, TX6, 9)) (ci := 6) (q0 := 0) (wr := [wI (cy 1) p1 3 (ffd), wI (cy 1) p2 3 (fpc), wI (cy 1) p4 40 (fqi), wI (cy 1) h2 8 (flo), wI (cy 1) h7 48 (fx), wO h9 3 [.ref h9a, .ref h9b, .int (nI nb), .int tb], wI (cy 1) h9a 280 (fcb), wI (cy 1) h9b 31 (fa13_5), wO h11 3 [.ref h11a, .ref h11b, .int (nI nt), .int tt], wI (cy 1) h11a 280 (fct), wI (cy 1) h11b 31 (fa14_5), wO h10 3 [.ref h10a, .ref h10b, .int (nI nl), .int tl], wI (cy 1) h10a 280 (fcl), wI (cy 1) h10b 31 (fa15_5), wI (cy 1) s1 10 (fw), wI (cy 1) s2 4 (fsn), wI (cy 1) ro 20 (fr), (er, .inl (cy 4, 4, .inr (.inr (.inr (.inr (eF (ea 0) (ea 1) (ea 2) (ea 3))))))), wO (ea 0) 2 [.ref (eg 0), .ref (ef 0), .int fx1_5, .int (nI l0_5), .int (nI i0_5)], wI (cy 1) (eg 0) 10 (fa16_5), wI (cy 1) (ef 0) 7 (fa20_5), wO (ea 1) 2 [.ref (eg 1), .ref (ef 1), .int fx4_5, .int (nI l1_5), .int (nI i1_5)], wI (cy 1) (eg 1) 10 (fa17_5), wI (cy 1) (ef 1) 7 (fa21_5), wO (ea 2) 2 [.ref (eg 2), .ref (ef 2), .int fx7_5, .int (nI l2_5), .int (nI i2_5)], wI (cy 1) (eg 2) 10 (fa18_5), wI (cy 1) (ef 2) 7 (fa22_5), wO (ea 3) 2 [.ref (eg 3), .ref (ef 3), .int fx10_5, .int (nI l3_5), .int (nI i3_5)], wI (cy 1) (eg 3) 10 (fa19_5), wI (cy 1) (ef 3) 7 (fa23_5)]) (rest := []) ⟨hx, hb, hml, hown, hg, hl.1⟩ k_X6_60 (s_orderCliffs l D cy p0 p1 p2 p3 p4 er ro ch fne h0 h1 h2 h3 h4 h5 h6 h7 h8 h9 h10 h11 ((.int ys)) hv1 hv2 hv3 hv4 fc c0 c1 c2 c3 fp s0 s1 s2 sl spl svo swi sch (hcn) (by omega) (by omega) (by omega) (by omega)) E0_blind hK hP hD hS hA [0, 1, 5, 6, 7, 19] [2, 3, 4, 8, 9, 10, 11, 12, 13, 14, 15, 16, 17, 18, 20, 21, 22, 23, 24, 25, 26, 27, 28, 29, 30, 31, 32, 33, 34, 35] ⟨rfl, rfl, by decide +kernel, by decide +kernel, by decide +kernel⟩ rfl rfl (fun _ _ _ => trivial) dX6_fewest_45 rfl rfl (Nat.le_of_ble_eq_true rfl) ⟨Nat.le_of_ble_eq_true rfl, Nat.le_of_ble_eq_true rfl⟩ ⟨Nat.le_of_ble_eq_true rfl, Nat.le_of_ble_eq_true rfl⟩ (fun zu9 H locs hw9 hP9 hD9 hS9 => ?_)
        clear hP hD hS
        obtain ⟨fne2_10, rfl⟩ : ∃ z, z = zu9 := ⟨_, rfl⟩
        refine reW [wI (cy 1) p1 3 (ffd), wI (cy 1) p2 3 (fpc), wI (cy 1) p4 40 (fqi), wI (cy 1) h2 8 (flo), wI (cy 1) h7 48 (fx), wO h9 3 [.ref h9a, .ref h9b, .int (nI nb), .int tb], wI (cy 1) h9a 280 (fcb), wI (cy 1) h9b 31 (fa13_5), wO h11 3 [.ref h11a, .ref h11b, .int (nI nt), .int tt], wI (cy 1) h11a 280 (fct), wI (cy 1) h11b 31 (fa14_5), wO h10 3 [.ref h10a, .ref h10b, .int (nI nl), .int tl], wI (cy 1) h10a 280 (fcl), wI (cy 1) h10b 31 (fa15_5), wI (cy 1) s1 10 (fw), wI (cy 1) s2 4 (fsn), wI (cy 1) ro 20 (fr), (er, .inl (cy 4, 4, .inr (.inr (.inr (.inr (eF (ea 0) (ea 1) (ea 2) (ea 3))))))), wO (ea 0) 2 [.ref (eg 0), .ref (ef 0), .int fx1_5, .int (nI l0_5), .int (nI i0_5)], wI (cy 1) (eg 0) 10 (fa16_5), wI (cy 1) (ef 0) 7 (fa20_5), wO (ea 1) 2 [.ref (eg 1), .ref (ef 1), .int fx4_5, .int (nI l1_5), .int (nI i1_5)], wI (cy 1) (eg 1) 10 (fa17_5), wI (cy 1) (ef 1) 7 (fa21_5), wO (ea 2) 2 [.ref (eg 2), .ref (ef 2), .int fx7_5, .int (nI l2_5), .int (nI i2_5)], wI (cy 1) (eg 2) 10 (fa18_5), wI (cy 1) (ef 2) 7 (fa22_5), wO (ea 3) 2 [.ref (eg 3), .ref (ef 3), .int fx10_5, .int (nI l3_5), .int (nI i3_5)], wI (cy 1) (eg 3) 10 (fa19_5), wI (cy 1) (ef 3) 7 (fa23_5), wO p0 6 [.ref p1, .ref er, .ref ro, .ref p2, .ref p3, .ref p4, .ref h0, .ref s0, .int (nI ch)], wI (cy 1) p3 4 (fne2_10), wO h0 4 [.ref h1, .ref h2, .ref h3, .ref h4, .ref h5, .ref h6, .ref h7, .ref h8, .ref h9, .ref h10, .ref h11, .int ys, hv1, hv2, hv3, hv4], wI (cy 1) h1 4 (fc), wI (cy 1) h3 4 (fp), wO s0 7 [.ref s1, .ref s2, .int (nI sl), .int spl, .int svo, .int swi, .int sch]] hP9 hD9 hS9 (fun hP hD hS => ?_)
        clear hP9 hD9 hS9
        refine W.widen (k := 0) (n := 0) (Nat.le_of_ble_eq_true rfl) (Nat.le_of_ble_eq_true rfl) ?_
        replace hw9 : (nOK fne2_10 c1) := hw9
        have f_11 := hw9
        refine lv_aload_n hx hb dX6_fewest_48 rfl (lv_at hl 1 rfl) ?_
        refine x_callVv (q := (RX6, TX6, 9)) (ci := 6) (q0 := 0) (wr := [wI (cy 1) p1 3 (ffd), wI (cy 1) p2 3 (fpc), wI (cy 1) h2 8 (flo), wI (cy 1) h7 48 (fx), wO h9 3 [.ref h9a, .ref h9b, .int (nI nb), .int tb], wI (cy 1) h9a 280 (fcb), wI (cy 1) h9b 31 (fa13_5), wO h11 3 [.ref h11a, .ref h11b, .int (nI nt), .int tt], wI (cy 1) h11a 280 (fct), wI (cy 1) h11b 31 (fa14_5), wO h10 3 [.ref h10a, .ref h10b, .int (nI nl), .int tl], wI (cy 1) h10a 280 (fcl), wI (cy 1) h10b 31 (fa15_5), wI (cy 1) s1 10 (fw), wI (cy 1) s2 4 (fsn), wI (cy 1) ro 20 (fr), wI (cy 1) h3 4 (fp)]) (rest := []) ⟨hx, hb, hml, hown, hg, hl.1⟩ k_X6_63 (s_findQuiet l D cy p0 p1 p2 p3 p4 er ro ch fne2_10 fqi h0 h1 h2 h3 h4 h5 h6 h7 h8 h9 h10 h11 ((.int ys)) hv1 hv2 hv3 hv4 fc c0 c1 c2 c3 s0 s1 s2 sl spl svo swi sch ea eg ef ((fun k => [fx1_5, fx4_5, fx7_5, fx10_5].getD k 0)) ((fun k => [l0_5, l1_5, l2_5, l3_5].getD k 0)) ((fun k => [i0_5, i1_5, i2_5, i3_5].getD k 0)) ((fun k => [fa16_5, fa17_5, fa18_5, fa19_5].getD k (fun _ => 0))) ((fun k => [fa20_5, fa21_5, fa22_5, fa23_5].getD k (fun _ => 0))) (f_11) (hcn) (by omega) (by omega) (by omega) (by omega) (by omega)) E0_blind hK hP hD hS hA [30, 31, 2, 32, 33, 35, 17, 18, 19, 20, 21, 22, 23, 24, 25, 26, 27, 28, 29] [0, 1, 3, 4, 5, 6, 7, 8, 9, 10, 11, 12, 13, 14, 15, 16, 34] ⟨rfl, rfl, by decide +kernel, by decide +kernel, by decide +kernel⟩ rfl rfl (fun _ _ _ => trivial) dX6_fewest_49 rfl rfl (Nat.le_of_ble_eq_true rfl) ⟨Nat.le_of_ble_eq_true rfl, Nat.le_of_ble_eq_true rfl⟩ ⟨Nat.le_of_ble_eq_true rfl, Nat.le_of_ble_eq_true rfl⟩ (fun zu12 H locs hw12 hP9 hD9 hS9 => ?_)
        clear hP hD hS
        obtain ⟨fqi2_13, rfl⟩ : ∃ z, z = zu12 := ⟨_, rfl⟩
        refine reW [wI (cy 1) p1 3 (ffd), wI (cy 1) p2 3 (fpc), wI (cy 1) h2 8 (flo), wI (cy 1) h7 48 (fx), wO h9 3 [.ref h9a, .ref h9b, .int (nI nb), .int tb], wI (cy 1) h9a 280 (fcb), wI (cy 1) h9b 31 (fa13_5), wO h11 3 [.ref h11a, .ref h11b, .int (nI nt), .int tt], wI (cy 1) h11a 280 (fct), wI (cy 1) h11b 31 (fa14_5), wO h10 3 [.ref h10a, .ref h10b, .int (nI nl), .int tl], wI (cy 1) h10a 280 (fcl), wI (cy 1) h10b 31 (fa15_5), wI (cy 1) s1 10 (fw), wI (cy 1) s2 4 (fsn), wI (cy 1) ro 20 (fr), wI (cy 1) h3 4 (fp), wO p0 6 [.ref p1, .ref er, .ref ro, .ref p2, .ref p3, .ref p4, .ref h0, .ref s0, .int (nI ch)], wI (cy 1) p3 4 (fne2_10), wI (cy 1) p4 40 (fqi2_13), wO h0 4 [.ref h1, .ref h2, .ref h3, .ref h4, .ref h5, .ref h6, .ref h7, .ref h8, .ref h9, .ref h10, .ref h11, .int ys, hv1, hv2, hv3, hv4], wI (cy 1) h1 4 (fc), wO s0 7 [.ref s1, .ref s2, .int (nI sl), .int spl, .int svo, .int swi, .int sch], (er, .inl (cy 4, 4, .inr (.inr (.inr (.inr (eF (ea 0) (ea 1) (ea 2) (ea 3))))))), wO (ea 0) 2 [.ref (eg 0), .ref (ef 0), .int (((fun k => [fx1_5, fx4_5, fx7_5, fx10_5].getD k 0)) 0), .int (nI (((fun k => [l0_5, l1_5, l2_5, l3_5].getD k 0)) 0)), .int (nI (((fun k => [i0_5, i1_5, i2_5, i3_5].getD k 0)) 0))], wI (cy 1) (eg 0) 10 (((fun k => [fa16_5, fa17_5, fa18_5, fa19_5].getD k (fun _ => 0))) 0), wI (cy 1) (ef 0) 7 (((fun k => [fa20_5, fa21_5, fa22_5, fa23_5].getD k (fun _ => 0))) 0), wO (ea 1) 2 [.ref (eg 1), .ref (ef 1), .int (((fun k => [fx1_5, fx4_5, fx7_5, fx10_5].getD k 0)) 1), .int (nI (((fun k => [l0_5, l1_5, l2_5, l3_5].getD k 0)) 1)), .int (nI (((fun k => [i0_5, i1_5, i2_5, i3_5].getD k 0)) 1))], wI (cy 1) (eg 1) 10 (((fun k => [fa16_5, fa17_5, fa18_5, fa19_5].getD k (fun _ => 0))) 1), wI (cy 1) (ef 1) 7 (((fun k => [fa20_5, fa21_5, fa22_5, fa23_5].getD k (fun _ => 0))) 1), wO (ea 2) 2 [.ref (eg 2), .ref (ef 2), .int (((fun k => [fx1_5, fx4_5, fx7_5, fx10_5].getD k 0)) 2), .int (nI (((fun k => [l0_5, l1_5, l2_5, l3_5].getD k 0)) 2)), .int (nI (((fun k => [i0_5, i1_5, i2_5, i3_5].getD k 0)) 2))], wI (cy 1) (eg 2) 10 (((fun k => [fa16_5, fa17_5, fa18_5, fa19_5].getD k (fun _ => 0))) 2), wI (cy 1) (ef 2) 7 (((fun k => [fa20_5, fa21_5, fa22_5, fa23_5].getD k (fun _ => 0))) 2), wO (ea 3) 2 [.ref (eg 3), .ref (ef 3), .int (((fun k => [fx1_5, fx4_5, fx7_5, fx10_5].getD k 0)) 3), .int (nI (((fun k => [l0_5, l1_5, l2_5, l3_5].getD k 0)) 3)), .int (nI (((fun k => [i0_5, i1_5, i2_5, i3_5].getD k 0)) 3))], wI (cy 1) (eg 3) 10 (((fun k => [fa16_5, fa17_5, fa18_5, fa19_5].getD k (fun _ => 0))) 3), wI (cy 1) (ef 3) 7 (((fun k => [fa20_5, fa21_5, fa22_5, fa23_5].getD k (fun _ => 0))) 3)] hP9 hD9 hS9 (fun hP hD hS => ?_)
        clear hP9 hD9 hS9
        refine W.widen (k := 0) (n := 0) (Nat.le_of_ble_eq_true rfl) (Nat.le_of_ble_eq_true rfl) ?_
        replace hP : va_P D vwCl [wI (cy 1) p1 3 (ffd), wI (cy 1) p2 3 (fpc), wI (cy 1) h2 8 (flo), wI (cy 1) h7 48 (fx), wO h9 3 [.ref h9a, .ref h9b, .int (nI nb), .int tb], wI (cy 1) h9a 280 (fcb), wI (cy 1) h9b 31 (fa13_5), wO h11 3 [.ref h11a, .ref h11b, .int (nI nt), .int tt], wI (cy 1) h11a 280 (fct), wI (cy 1) h11b 31 (fa14_5), wO h10 3 [.ref h10a, .ref h10b, .int (nI nl), .int tl], wI (cy 1) h10a 280 (fcl), wI (cy 1) h10b 31 (fa15_5), wI (cy 1) s1 10 (fw), wI (cy 1) s2 4 (fsn), wI (cy 1) ro 20 (fr), wI (cy 1) h3 4 (fp), wO p0 6 [.ref p1, .ref er, .ref ro, .ref p2, .ref p3, .ref p4, .ref h0, .ref s0, .int (nI ch)], wI (cy 1) p3 4 (fne2_10), wI (cy 1) p4 40 (fqi2_13), wO h0 4 [.ref h1, .ref h2, .ref h3, .ref h4, .ref h5, .ref h6, .ref h7, .ref h8, .ref h9, .ref h10, .ref h11, .int ys, hv1, hv2, hv3, hv4], wI (cy 1) h1 4 (fc), wO s0 7 [.ref s1, .ref s2, .int (nI sl), .int spl, .int svo, .int swi, .int sch], (er, .inl (cy 4, 4, .inr (.inr (.inr (.inr (eF (ea 0) (ea 1) (ea 2) (ea 3))))))), wO (ea 0) 2 [.ref (eg 0), .ref (ef 0), .int fx1_5, .int (nI l0_5), .int (nI i0_5)], wI (cy 1) (eg 0) 10 (fa16_5), wI (cy 1) (ef 0) 7 (fa20_5), wO (ea 1) 2 [.ref (eg 1), .ref (ef 1), .int fx4_5, .int (nI l1_5), .int (nI i1_5)], wI (cy 1) (eg 1) 10 (fa17_5), wI (cy 1) (ef 1) 7 (fa21_5), wO (ea 2) 2 [.ref (eg 2), .ref (ef 2), .int fx7_5, .int (nI l2_5), .int (nI i2_5)], wI (cy 1) (eg 2) 10 (fa18_5), wI (cy 1) (ef 2) 7 (fa22_5), wO (ea 3) 2 [.ref (eg 3), .ref (ef 3), .int fx10_5, .int (nI l3_5), .int (nI i3_5)], wI (cy 1) (eg 3) 10 (fa19_5), wI (cy 1) (ef 3) 7 (fa23_5)] H := hP
        replace hD : va_D A [wI (cy 1) p1 3 (ffd), wI (cy 1) p2 3 (fpc), wI (cy 1) h2 8 (flo), wI (cy 1) h7 48 (fx), wO h9 3 [.ref h9a, .ref h9b, .int (nI nb), .int tb], wI (cy 1) h9a 280 (fcb), wI (cy 1) h9b 31 (fa13_5), wO h11 3 [.ref h11a, .ref h11b, .int (nI nt), .int tt], wI (cy 1) h11a 280 (fct), wI (cy 1) h11b 31 (fa14_5), wO h10 3 [.ref h10a, .ref h10b, .int (nI nl), .int tl], wI (cy 1) h10a 280 (fcl), wI (cy 1) h10b 31 (fa15_5), wI (cy 1) s1 10 (fw), wI (cy 1) s2 4 (fsn), wI (cy 1) ro 20 (fr), wI (cy 1) h3 4 (fp), wO p0 6 [.ref p1, .ref er, .ref ro, .ref p2, .ref p3, .ref p4, .ref h0, .ref s0, .int (nI ch)], wI (cy 1) p3 4 (fne2_10), wI (cy 1) p4 40 (fqi2_13), wO h0 4 [.ref h1, .ref h2, .ref h3, .ref h4, .ref h5, .ref h6, .ref h7, .ref h8, .ref h9, .ref h10, .ref h11, .int ys, hv1, hv2, hv3, hv4], wI (cy 1) h1 4 (fc), wO s0 7 [.ref s1, .ref s2, .int (nI sl), .int spl, .int svo, .int swi, .int sch], (er, .inl (cy 4, 4, .inr (.inr (.inr (.inr (eF (ea 0) (ea 1) (ea 2) (ea 3))))))), wO (ea 0) 2 [.ref (eg 0), .ref (ef 0), .int fx1_5, .int (nI l0_5), .int (nI i0_5)], wI (cy 1) (eg 0) 10 (fa16_5), wI (cy 1) (ef 0) 7 (fa20_5), wO (ea 1) 2 [.ref (eg 1), .ref (ef 1), .int fx4_5, .int (nI l1_5), .int (nI i1_5)], wI (cy 1) (eg 1) 10 (fa17_5), wI (cy 1) (ef 1) 7 (fa21_5), wO (ea 2) 2 [.ref (eg 2), .ref (ef 2), .int fx7_5, .int (nI l2_5), .int (nI i2_5)], wI (cy 1) (eg 2) 10 (fa18_5), wI (cy 1) (ef 2) 7 (fa22_5), wO (ea 3) 2 [.ref (eg 3), .ref (ef 3), .int fx10_5, .int (nI l3_5), .int (nI i3_5)], wI (cy 1) (eg 3) 10 (fa19_5), wI (cy 1) (ef 3) 7 (fa23_5)] := hD
        refine lv_iconst (v := 0) hx hb dX6_fewest_52 (by decide) ?_
        refine lv_istore_n (lv' := [(3, .int 0), (0, .ref p0), (1, .ref h0), (2, .ref s0)]) hx hb dX6_fewest_53 rfl hl (by decide) rfl (fun ls hl => ?_)
        have loop14 : ∀ (zn : Nat) (z14 : Nat) (cq14 : Nat) (fa2_14 : Nat → Int32), (rng fa2_14 3 9) → (z14 ≤ 4) → (cq14 ≤ 3) → 4 - z14 + 1 ≤ zn → ∀ (H : Heap) (locs : List Loc), va_P D vwCl [wI (cy 1) p1 3 (ffd), wI (cy 1) p2 3 (fa2_14), wI (cy 1) h2 8 (flo), wI (cy 1) h7 48 (fx), wO h9 3 [.ref h9a, .ref h9b, .int (nI nb), .int tb], wI (cy 1) h9a 280 (fcb), wI (cy 1) h9b 31 (fa13_5), wO h11 3 [.ref h11a, .ref h11b, .int (nI nt), .int tt], wI (cy 1) h11a 280 (fct), wI (cy 1) h11b 31 (fa14_5), wO h10 3 [.ref h10a, .ref h10b, .int (nI nl), .int tl], wI (cy 1) h10a 280 (fcl), wI (cy 1) h10b 31 (fa15_5), wI (cy 1) s1 10 (fw), wI (cy 1) s2 4 (fsn), wI (cy 1) ro 20 (fr), wI (cy 1) h3 4 (fp), wO p0 6 [.ref p1, .ref er, .ref ro, .ref p2, .ref p3, .ref p4, .ref h0, .ref s0, .int (nI cq14)], wI (cy 1) p3 4 (fne2_10), wI (cy 1) p4 40 (fqi2_13), wO h0 4 [.ref h1, .ref h2, .ref h3, .ref h4, .ref h5, .ref h6, .ref h7, .ref h8, .ref h9, .ref h10, .ref h11, .int ys, hv1, hv2, hv3, hv4], wI (cy 1) h1 4 (fc), wO s0 7 [.ref s1, .ref s2, .int (nI sl), .int spl, .int svo, .int swi, .int sch], (er, .inl (cy 4, 4, .inr (.inr (.inr (.inr (eF (ea 0) (ea 1) (ea 2) (ea 3))))))), wO (ea 0) 2 [.ref (eg 0), .ref (ef 0), .int fx1_5, .int (nI l0_5), .int (nI i0_5)], wI (cy 1) (eg 0) 10 (fa16_5), wI (cy 1) (ef 0) 7 (fa20_5), wO (ea 1) 2 [.ref (eg 1), .ref (ef 1), .int fx4_5, .int (nI l1_5), .int (nI i1_5)], wI (cy 1) (eg 1) 10 (fa17_5), wI (cy 1) (ef 1) 7 (fa21_5), wO (ea 2) 2 [.ref (eg 2), .ref (ef 2), .int fx7_5, .int (nI l2_5), .int (nI i2_5)], wI (cy 1) (eg 2) 10 (fa18_5), wI (cy 1) (ef 2) 7 (fa22_5), wO (ea 3) 2 [.ref (eg 3), .ref (ef 3), .int fx10_5, .int (nI l3_5), .int (nI i3_5)], wI (cy 1) (eg 3) 10 (fa19_5), wI (cy 1) (ef 3) 7 (fa23_5)] H → va_D A [wI (cy 1) p1 3 (ffd), wI (cy 1) p2 3 (fa2_14), wI (cy 1) h2 8 (flo), wI (cy 1) h7 48 (fx), wO h9 3 [.ref h9a, .ref h9b, .int (nI nb), .int tb], wI (cy 1) h9a 280 (fcb), wI (cy 1) h9b 31 (fa13_5), wO h11 3 [.ref h11a, .ref h11b, .int (nI nt), .int tt], wI (cy 1) h11a 280 (fct), wI (cy 1) h11b 31 (fa14_5), wO h10 3 [.ref h10a, .ref h10b, .int (nI nl), .int tl], wI (cy 1) h10a 280 (fcl), wI (cy 1) h10b 31 (fa15_5), wI (cy 1) s1 10 (fw), wI (cy 1) s2 4 (fsn), wI (cy 1) ro 20 (fr), wI (cy 1) h3 4 (fp), wO p0 6 [.ref p1, .ref er, .ref ro, .ref p2, .ref p3, .ref p4, .ref h0, .ref s0, .int (nI cq14)], wI (cy 1) p3 4 (fne2_10), wI (cy 1) p4 40 (fqi2_13), wO h0 4 [.ref h1, .ref h2, .ref h3, .ref h4, .ref h5, .ref h6, .ref h7, .ref h8, .ref h9, .ref h10, .ref h11, .int ys, hv1, hv2, hv3, hv4], wI (cy 1) h1 4 (fc), wO s0 7 [.ref s1, .ref s2, .int (nI sl), .int spl, .int svo, .int swi, .int sch], (er, .inl (cy 4, 4, .inr (.inr (.inr (.inr (eF (ea 0) (ea 1) (ea 2) (ea 3))))))), wO (ea 0) 2 [.ref (eg 0), .ref (ef 0), .int fx1_5, .int (nI l0_5), .int (nI i0_5)], wI (cy 1) (eg 0) 10 (fa16_5), wI (cy 1) (ef 0) 7 (fa20_5), wO (ea 1) 2 [.ref (eg 1), .ref (ef 1), .int fx4_5, .int (nI l1_5), .int (nI i1_5)], wI (cy 1) (eg 1) 10 (fa17_5), wI (cy 1) (ef 1) 7 (fa21_5), wO (ea 2) 2 [.ref (eg 2), .ref (ef 2), .int fx7_5, .int (nI l2_5), .int (nI i2_5)], wI (cy 1) (eg 2) 10 (fa18_5), wI (cy 1) (ef 2) 7 (fa22_5), wO (ea 3) 2 [.ref (eg 3), .ref (ef 3), .int fx10_5, .int (nI l3_5), .int (nI i3_5)], wI (cy 1) (eg 3) 10 (fa19_5), wI (cy 1) (ef 3) 7 (fa23_5)] → va_S A s.heap H locs → ∀ ls : Array Slot, lv_has ls 4 [(3, .int (nI z14)), (0, .ref p0), (1, .ref h0), (2, .ref s0)] → W p l e (rmk 10 0 0) s m args below meth c H locs 0 0 Q (F0 m 54 ls []) := by
          try clear hP hD hS
          intro zn
          induction zn with
          | zero => intro z14 cq14 fa2_14 _ _ _ hz; exact absurd hz (by omega)
          | succ zn ih14 =>
            intro z14 cq14 fa2_14 ha3_14 hf0_14 hf1_14 hmu14 H locs hP hD hS ls hl
            refine lv_iload_n hx hb dX6_fewest_54 rfl (lv_at hl 0 rfl) ?_
            refine lv_iconst (v := 3) hx hb dX6_fewest_55 (by decide) ?_
            refine lv_icmp_gt (tgt := 88) hx hb dX6_fewest_56 (by decide) (fun c_15 => ?_) (fun c_15 => ?_)
            · have q_16 : 3 < z14 := q_lt (a := 3) (b := z14) rfl rfl (by omega) (by omega) c_15
              refine lv_iconst (v := -1) hx hb dX6_fewest_88 (by decide) ?_
              exact x_iret hQ hx hb hr hlocks hK hP hD hS dX6_fewest_89 (cq14, ffd, fa2_14, fne2_10, fqi2_13, fw, fr, (fun k => [fx1_5, fx4_5, fx7_5, fx10_5].getD k 0), (fun k => [l0_5, l1_5, l2_5, l3_5].getD k 0), (fun k => [i0_5, i1_5, i2_5, i3_5].getD k 0), (fun k => [fa16_5, fa17_5, fa18_5, fa19_5].getD k (fun _ => 0)), (fun k => [fa20_5, fa21_5, fa22_5, fa23_5].getD k (fun _ => 0)), fa13_5, fa14_5, fa15_5) (⟨(show cq14 ≤ 3 from by omega), ha3_14, hsw, hrw, Or.inl rfl, get4 (by omega) (by omega) (by omega) (by omega)⟩) [17, 18, 0, 1, 19, 20, 21, 16, 2, 3, 4, 5, 6, 7, 8, 9, 10, 11, 12, 22, 13, 14, 15, 23, 24, 25, 26, 27, 28, 29, 30, 31, 32, 33, 34, 35] (by decide +kernel) rfl (Nat.le_of_ble_eq_true rfl) (Nat.le_of_ble_eq_true rfl)
            · have q_16 : z14 ≤ 3 := q_nlt (a := 3) (b := z14) rfl rfl (by omega) (by omega) c_15
              refine lv_aload_n hx hb dX6_fewest_59 rfl (lv_at hl 1 rfl) ?_
              refine lv_iload_n hx hb dX6_fewest_60 rfl (lv_at hl 0 rfl) ?_
              refine va_put (D := D) (ci := 6) (v := .int (nI z14)) (ty := .int) (C := RX6) (T := TX6) (N := 9) hx hb hg i_X6 tyX6 tyX6_ok nmX6 hown hK hP hD hS 17 rfl rfl 8 (by decide) (hg _ m_593) (fun _ h9 => h9) rfl (by decide +kernel) rfl rfl (Nat.le_of_ble_eq_true rfl) dX6_fewest_61 (fun H locs hP9 hD9 hS9 => ?_)
              clear hP hD hS
              refine reW [wI (cy 1) p1 3 (ffd), wI (cy 1) p2 3 (fa2_14), wI (cy 1) h2 8 (flo), wI (cy 1) h7 48 (fx), wO h9 3 [.ref h9a, .ref h9b, .int (nI nb), .int tb], wI (cy 1) h9a 280 (fcb), wI (cy 1) h9b 31 (fa13_5), wO h11 3 [.ref h11a, .ref h11b, .int (nI nt), .int tt], wI (cy 1) h11a 280 (fct), wI (cy 1) h11b 31 (fa14_5), wO h10 3 [.ref h10a, .ref h10b, .int (nI nl), .int tl], wI (cy 1) h10a 280 (fcl), wI (cy 1) h10b 31 (fa15_5), wI (cy 1) s1 10 (fw), wI (cy 1) s2 4 (fsn), wI (cy 1) ro 20 (fr), wI (cy 1) h3 4 (fp), wO p0 6 [.ref p1, .ref er, .ref ro, .ref p2, .ref p3, .ref p4, .ref h0, .ref s0, .int (nI z14)], wI (cy 1) p3 4 (fne2_10), wI (cy 1) p4 40 (fqi2_13), wO h0 4 [.ref h1, .ref h2, .ref h3, .ref h4, .ref h5, .ref h6, .ref h7, .ref h8, .ref h9, .ref h10, .ref h11, .int ys, hv1, hv2, hv3, hv4], wI (cy 1) h1 4 (fc), wO s0 7 [.ref s1, .ref s2, .int (nI sl), .int spl, .int svo, .int swi, .int sch], (er, .inl (cy 4, 4, .inr (.inr (.inr (.inr (eF (ea 0) (ea 1) (ea 2) (ea 3))))))), wO (ea 0) 2 [.ref (eg 0), .ref (ef 0), .int fx1_5, .int (nI l0_5), .int (nI i0_5)], wI (cy 1) (eg 0) 10 (fa16_5), wI (cy 1) (ef 0) 7 (fa20_5), wO (ea 1) 2 [.ref (eg 1), .ref (ef 1), .int fx4_5, .int (nI l1_5), .int (nI i1_5)], wI (cy 1) (eg 1) 10 (fa17_5), wI (cy 1) (ef 1) 7 (fa21_5), wO (ea 2) 2 [.ref (eg 2), .ref (ef 2), .int fx7_5, .int (nI l2_5), .int (nI i2_5)], wI (cy 1) (eg 2) 10 (fa18_5), wI (cy 1) (ef 2) 7 (fa22_5), wO (ea 3) 2 [.ref (eg 3), .ref (ef 3), .int fx10_5, .int (nI l3_5), .int (nI i3_5)], wI (cy 1) (eg 3) 10 (fa19_5), wI (cy 1) (ef 3) 7 (fa23_5)] hP9 hD9 hS9 (fun hP hD hS => ?_)
              clear hP9 hD9 hS9
              refine lv_aload_n hx hb dX6_fewest_64 rfl (lv_at hl 1 rfl) ?_
              refine lv_iconst (v := 0) hx hb dX6_fewest_65 (by decide) ?_
              refine lv_iconst (v := 0) hx hb dX6_fewest_66 (by decide) ?_
              refine lv_iconst (v := 0) hx hb dX6_fewest_67 (by decide) ?_
              refine x_callVi (q := (RX6, TX6, 9)) (ci := 6) (q0 := 0) (wr := [wI (cy 1) p1 3 (ffd), wI (cy 1) h2 8 (flo), wO h9 3 [.ref h9a, .ref h9b, .int (nI nb), .int tb], wI (cy 1) h9a 280 (fcb), wI (cy 1) h9b 31 (fa13_5), wO h11 3 [.ref h11a, .ref h11b, .int (nI nt), .int tt], wI (cy 1) h11a 280 (fct), wI (cy 1) h11b 31 (fa14_5), wO h10 3 [.ref h10a, .ref h10b, .int (nI nl), .int tl], wI (cy 1) h10a 280 (fcl), wI (cy 1) h10b 31 (fa15_5), wI (cy 1) s2 4 (fsn), wI (cy 1) ro 20 (fr), wI (cy 1) h3 4 (fp)]) (rest := []) ⟨hx, hb, hml, hown, hg, hl.1⟩ k_X6_69 (s_choosePlaces0 l D cy p0 p1 p2 p3 p4 er ro z14 fne2_10 fqi2_13 fa2_14 h0 h1 h2 h3 h4 h5 h6 h7 h8 h9 h10 h11 hv1 hv2 hv3 hv4 ys fc c0 c1 c2 c3 fx s0 s1 s2 sl spl svo swi sch fw ea eg ef ((fun k => [fx1_5, fx4_5, fx7_5, fx10_5].getD k 0)) ((fun k => [l0_5, l1_5, l2_5, l3_5].getD k 0)) ((fun k => [i0_5, i1_5, i2_5, i3_5].getD k 0)) ((fun k => [fa16_5, fa17_5, fa18_5, fa19_5].getD k (fun _ => 0))) ((fun k => [fa20_5, fa21_5, fa22_5, fa23_5].getD k (fun _ => 0))) 0 0 (f_11) (ha3_14) (by omega) (hcn) (by omega) (by omega) (by omega) (by omega) (hnx) (get4 (by omega) (by omega) (by omega) (by omega)) (get4e (by omega) (by omega) (by omega) (by omega) (by omega)) (by omega) (hsw) (by omega)) E0_blind hK hP hD hS hA [17, 18, 19, 1, 20, 21, 3, 22, 13, 23, 24, 25, 26, 27, 28, 29, 30, 31, 32, 33, 34, 35] [0, 2, 4, 5, 6, 7, 8, 9, 10, 11, 12, 14, 15, 16] ⟨rfl, rfl, by decide +kernel, by decide +kernel, by decide +kernel⟩ rfl rfl (fun _ _ _ => trivial) dX6_fewest_68 rfl rfl (Nat.le_of_ble_eq_true rfl) ⟨Nat.le_of_ble_eq_true rfl, Nat.le_of_ble_eq_true rfl⟩ ⟨Nat.le_of_ble_eq_true rfl, Nat.le_of_ble_eq_true rfl⟩ (fun zr17 zu17 H locs hw17 hP9 hD9 hS9 => ?_)
              clear hP hD hS
              obtain ⟨fpc2_18, rfl⟩ : ∃ z, z = zu17 := ⟨_, rfl⟩
              refine reW [wI (cy 1) p1 3 (ffd), wI (cy 1) h2 8 (flo), wO h9 3 [.ref h9a, .ref h9b, .int (nI nb), .int tb], wI (cy 1) h9a 280 (fcb), wI (cy 1) h9b 31 (fa13_5), wO h11 3 [.ref h11a, .ref h11b, .int (nI nt), .int tt], wI (cy 1) h11a 280 (fct), wI (cy 1) h11b 31 (fa14_5), wO h10 3 [.ref h10a, .ref h10b, .int (nI nl), .int tl], wI (cy 1) h10a 280 (fcl), wI (cy 1) h10b 31 (fa15_5), wI (cy 1) s2 4 (fsn), wI (cy 1) ro 20 (fr), wI (cy 1) h3 4 (fp), wO p0 6 [.ref p1, .ref er, .ref ro, .ref p2, .ref p3, .ref p4, .ref h0, .ref s0, .int (nI z14)], wI (cy 1) p3 4 (fne2_10), wI (cy 1) p4 40 (fqi2_13), wI (cy 1) p2 3 (fpc2_18), wO h0 4 [.ref h1, .ref h2, .ref h3, .ref h4, .ref h5, .ref h6, .ref h7, .ref h8, .ref h9, .ref h10, .ref h11, .int ys, hv1, hv2, hv3, hv4], wI (cy 1) h1 4 (fc), wI (cy 1) h7 48 (fx), wO s0 7 [.ref s1, .ref s2, .int (nI sl), .int spl, .int svo, .int swi, .int sch], wI (cy 1) s1 10 (fw), (er, .inl (cy 4, 4, .inr (.inr (.inr (.inr (eF (ea 0) (ea 1) (ea 2) (ea 3))))))), wO (ea 0) 2 [.ref (eg 0), .ref (ef 0), .int (((fun k => [fx1_5, fx4_5, fx7_5, fx10_5].getD k 0)) 0), .int (nI (((fun k => [l0_5, l1_5, l2_5, l3_5].getD k 0)) 0)), .int (nI (((fun k => [i0_5, i1_5, i2_5, i3_5].getD k 0)) 0))], wI (cy 1) (eg 0) 10 (((fun k => [fa16_5, fa17_5, fa18_5, fa19_5].getD k (fun _ => 0))) 0), wI (cy 1) (ef 0) 7 (((fun k => [fa20_5, fa21_5, fa22_5, fa23_5].getD k (fun _ => 0))) 0), wO (ea 1) 2 [.ref (eg 1), .ref (ef 1), .int (((fun k => [fx1_5, fx4_5, fx7_5, fx10_5].getD k 0)) 1), .int (nI (((fun k => [l0_5, l1_5, l2_5, l3_5].getD k 0)) 1)), .int (nI (((fun k => [i0_5, i1_5, i2_5, i3_5].getD k 0)) 1))], wI (cy 1) (eg 1) 10 (((fun k => [fa16_5, fa17_5, fa18_5, fa19_5].getD k (fun _ => 0))) 1), wI (cy 1) (ef 1) 7 (((fun k => [fa20_5, fa21_5, fa22_5, fa23_5].getD k (fun _ => 0))) 1), wO (ea 2) 2 [.ref (eg 2), .ref (ef 2), .int (((fun k => [fx1_5, fx4_5, fx7_5, fx10_5].getD k 0)) 2), .int (nI (((fun k => [l0_5, l1_5, l2_5, l3_5].getD k 0)) 2)), .int (nI (((fun k => [i0_5, i1_5, i2_5, i3_5].getD k 0)) 2))], wI (cy 1) (eg 2) 10 (((fun k => [fa16_5, fa17_5, fa18_5, fa19_5].getD k (fun _ => 0))) 2), wI (cy 1) (ef 2) 7 (((fun k => [fa20_5, fa21_5, fa22_5, fa23_5].getD k (fun _ => 0))) 2), wO (ea 3) 2 [.ref (eg 3), .ref (ef 3), .int (((fun k => [fx1_5, fx4_5, fx7_5, fx10_5].getD k 0)) 3), .int (nI (((fun k => [l0_5, l1_5, l2_5, l3_5].getD k 0)) 3)), .int (nI (((fun k => [i0_5, i1_5, i2_5, i3_5].getD k 0)) 3))], wI (cy 1) (eg 3) 10 (((fun k => [fa16_5, fa17_5, fa18_5, fa19_5].getD k (fun _ => 0))) 3), wI (cy 1) (ef 3) 7 (((fun k => [fa20_5, fa21_5, fa22_5, fa23_5].getD k (fun _ => 0))) 3)] hP9 hD9 hS9 (fun hP hD hS => ?_)
              clear hP9 hD9 hS9
              refine W.widen (k := 0) (n := 0) (Nat.le_of_ble_eq_true rfl) (Nat.le_of_ble_eq_true rfl) ?_
              replace hw17 : (zr17 = 0 ∨ zr17 = 1) ∧ (rng fpc2_18 3 9) := hw17
              obtain ⟨f_19, f_20⟩ := hw17
              replace hP : va_P D vwCl [wI (cy 1) p1 3 (ffd), wI (cy 1) h2 8 (flo), wO h9 3 [.ref h9a, .ref h9b, .int (nI nb), .int tb], wI (cy 1) h9a 280 (fcb), wI (cy 1) h9b 31 (fa13_5), wO h11 3 [.ref h11a, .ref h11b, .int (nI nt), .int tt], wI (cy 1) h11a 280 (fct), wI (cy 1) h11b 31 (fa14_5), wO h10 3 [.ref h10a, .ref h10b, .int (nI nl), .int tl], wI (cy 1) h10a 280 (fcl), wI (cy 1) h10b 31 (fa15_5), wI (cy 1) s2 4 (fsn), wI (cy 1) ro 20 (fr), wI (cy 1) h3 4 (fp), wO p0 6 [.ref p1, .ref er, .ref ro, .ref p2, .ref p3, .ref p4, .ref h0, .ref s0, .int (nI z14)], wI (cy 1) p3 4 (fne2_10), wI (cy 1) p4 40 (fqi2_13), wI (cy 1) p2 3 (fpc2_18), wO h0 4 [.ref h1, .ref h2, .ref h3, .ref h4, .ref h5, .ref h6, .ref h7, .ref h8, .ref h9, .ref h10, .ref h11, .int ys, hv1, hv2, hv3, hv4], wI (cy 1) h1 4 (fc), wI (cy 1) h7 48 (fx), wO s0 7 [.ref s1, .ref s2, .int (nI sl), .int spl, .int svo, .int swi, .int sch], wI (cy 1) s1 10 (fw), (er, .inl (cy 4, 4, .inr (.inr (.inr (.inr (eF (ea 0) (ea 1) (ea 2) (ea 3))))))), wO (ea 0) 2 [.ref (eg 0), .ref (ef 0), .int fx1_5, .int (nI l0_5), .int (nI i0_5)], wI (cy 1) (eg 0) 10 (fa16_5), wI (cy 1) (ef 0) 7 (fa20_5), wO (ea 1) 2 [.ref (eg 1), .ref (ef 1), .int fx4_5, .int (nI l1_5), .int (nI i1_5)], wI (cy 1) (eg 1) 10 (fa17_5), wI (cy 1) (ef 1) 7 (fa21_5), wO (ea 2) 2 [.ref (eg 2), .ref (ef 2), .int fx7_5, .int (nI l2_5), .int (nI i2_5)], wI (cy 1) (eg 2) 10 (fa18_5), wI (cy 1) (ef 2) 7 (fa22_5), wO (ea 3) 2 [.ref (eg 3), .ref (ef 3), .int fx10_5, .int (nI l3_5), .int (nI i3_5)], wI (cy 1) (eg 3) 10 (fa19_5), wI (cy 1) (ef 3) 7 (fa23_5)] H := hP
              replace hD : va_D A [wI (cy 1) p1 3 (ffd), wI (cy 1) h2 8 (flo), wO h9 3 [.ref h9a, .ref h9b, .int (nI nb), .int tb], wI (cy 1) h9a 280 (fcb), wI (cy 1) h9b 31 (fa13_5), wO h11 3 [.ref h11a, .ref h11b, .int (nI nt), .int tt], wI (cy 1) h11a 280 (fct), wI (cy 1) h11b 31 (fa14_5), wO h10 3 [.ref h10a, .ref h10b, .int (nI nl), .int tl], wI (cy 1) h10a 280 (fcl), wI (cy 1) h10b 31 (fa15_5), wI (cy 1) s2 4 (fsn), wI (cy 1) ro 20 (fr), wI (cy 1) h3 4 (fp), wO p0 6 [.ref p1, .ref er, .ref ro, .ref p2, .ref p3, .ref p4, .ref h0, .ref s0, .int (nI z14)], wI (cy 1) p3 4 (fne2_10), wI (cy 1) p4 40 (fqi2_13), wI (cy 1) p2 3 (fpc2_18), wO h0 4 [.ref h1, .ref h2, .ref h3, .ref h4, .ref h5, .ref h6, .ref h7, .ref h8, .ref h9, .ref h10, .ref h11, .int ys, hv1, hv2, hv3, hv4], wI (cy 1) h1 4 (fc), wI (cy 1) h7 48 (fx), wO s0 7 [.ref s1, .ref s2, .int (nI sl), .int spl, .int svo, .int swi, .int sch], wI (cy 1) s1 10 (fw), (er, .inl (cy 4, 4, .inr (.inr (.inr (.inr (eF (ea 0) (ea 1) (ea 2) (ea 3))))))), wO (ea 0) 2 [.ref (eg 0), .ref (ef 0), .int fx1_5, .int (nI l0_5), .int (nI i0_5)], wI (cy 1) (eg 0) 10 (fa16_5), wI (cy 1) (ef 0) 7 (fa20_5), wO (ea 1) 2 [.ref (eg 1), .ref (ef 1), .int fx4_5, .int (nI l1_5), .int (nI i1_5)], wI (cy 1) (eg 1) 10 (fa17_5), wI (cy 1) (ef 1) 7 (fa21_5), wO (ea 2) 2 [.ref (eg 2), .ref (ef 2), .int fx7_5, .int (nI l2_5), .int (nI i2_5)], wI (cy 1) (eg 2) 10 (fa18_5), wI (cy 1) (ef 2) 7 (fa22_5), wO (ea 3) 2 [.ref (eg 3), .ref (ef 3), .int fx10_5, .int (nI l3_5), .int (nI i3_5)], wI (cy 1) (eg 3) 10 (fa19_5), wI (cy 1) (ef 3) 7 (fa23_5)] := hD
              refine lv_if_eq (tgt := 82) hx hb dX6_fewest_71 (by decide) (fun c_71 => ?_) (fun c_71 => ?_)
              · refine lv_iinc (v := nI (z14 + 1)) (lv' := [(3, .int (nI (z14 + 1))), (0, .ref p0), (1, .ref h0), (2, .ref s0)]) hx hb dX6_fewest_82 hl (k := 0) rfl (nI_add z14 1) (by decide) rfl (fun ls hl => ?_)
                refine lv_goto (tgt := 54) hx hb dX6_fewest_85 (by decide) ?_
                exact ih14  ((z14 + 1)) z14 fpc2_18 f_20 (by omega) (by omega) (by omega) _ _ (hP.sub [0, 17, 1, 20, 2, 3, 4, 5, 6, 7, 8, 9, 10, 22, 11, 12, 13, 14, 15, 16, 18, 19, 21, 23, 24, 25, 26, 27, 28, 29, 30, 31, 32, 33, 34, 35] rfl) (hD.sub [0, 17, 1, 20, 2, 3, 4, 5, 6, 7, 8, 9, 10, 22, 11, 12, 13, 14, 15, 16, 18, 19, 21, 23, 24, 25, 26, 27, 28, 29, 30, 31, 32, 33, 34, 35] (by decide +kernel) rfl) hS ls (lv_sub hl [0, 1, 2, 3] rfl)
              · refine lv_aload_n hx hb dX6_fewest_74 rfl (lv_at hl 1 rfl) ?_
                refine lv_iconst (v := 0) hx hb dX6_fewest_75 (by decide) ?_
                refine x_callVi (q := (RX6, TX6, 9)) (ci := 6) (q0 := 0) (wr := [wI (cy 1) h2 8 (flo), wO h9 3 [.ref h9a, .ref h9b, .int (nI nb), .int tb], wI (cy 1) h9a 280 (fcb), wI (cy 1) h9b 31 (fa13_5), wO h11 3 [.ref h11a, .ref h11b, .int (nI nt), .int tt], wI (cy 1) h11a 280 (fct), wI (cy 1) h11b 31 (fa14_5), wO h10 3 [.ref h10a, .ref h10b, .int (nI nl), .int tl], wI (cy 1) h10a 280 (fcl), wI (cy 1) h10b 31 (fa15_5), wI (cy 1) s2 4 (fsn), wI (cy 1) h3 4 (fp), wI (cy 1) p4 40 (fqi2_13)]) (rest := []) ⟨hx, hb, hml, hown, hg, hl.1⟩ k_X6_73 (s_chooseWords0 l D cy p0 p1 p2 p3 p4 er ro z14 fne2_10 ffd fpc2_18 h0 h1 h2 h3 h4 h5 h6 h7 h8 h9 h10 h11 hv1 hv2 hv3 hv4 ys fc c0 c1 c2 c3 fx s0 s1 s2 sl spl svo swi sch fw fr ea eg ef ((fun k => [fx1_5, fx4_5, fx7_5, fx10_5].getD k 0)) ((fun k => [l0_5, l1_5, l2_5, l3_5].getD k 0)) ((fun k => [i0_5, i1_5, i2_5, i3_5].getD k 0)) ((fun k => [fa16_5, fa17_5, fa18_5, fa19_5].getD k (fun _ => 0))) ((fun k => [fa20_5, fa21_5, fa22_5, fa23_5].getD k (fun _ => 0))) (f_11) (f_20) (by omega) (hcn) (by omega) (by omega) (by omega) (by omega) (hnx) (get4 (by omega) (by omega) (by omega) (by omega)) (by omega) (hsw) (hrw)) E0_blind hK hP hD hS hA [14, 15, 0, 17, 18, 19, 20, 21, 22, 12, 23, 24, 25, 26, 27, 28, 29, 30, 31, 32, 33, 34, 35] [1, 2, 3, 4, 5, 6, 7, 8, 9, 10, 11, 13, 16] ⟨rfl, rfl, by decide +kernel, by decide +kernel, by decide +kernel⟩ rfl rfl (fun _ _ _ => trivial) dX6_fewest_76 rfl rfl (Nat.le_of_ble_eq_true rfl) ⟨Nat.le_of_ble_eq_true rfl, Nat.le_of_ble_eq_true rfl⟩ ⟨Nat.le_of_ble_eq_true rfl, Nat.le_of_ble_eq_true rfl⟩ (fun zr21 zu21 H locs hw21 hP9 hD9 hS9 => ?_)
                clear hP hD hS
                obtain ⟨ffd2_22, fw2_23, fr2_24⟩ := zu21
                refine reW [wI (cy 1) h2 8 (flo), wO h9 3 [.ref h9a, .ref h9b, .int (nI nb), .int tb], wI (cy 1) h9a 280 (fcb), wI (cy 1) h9b 31 (fa13_5), wO h11 3 [.ref h11a, .ref h11b, .int (nI nt), .int tt], wI (cy 1) h11a 280 (fct), wI (cy 1) h11b 31 (fa14_5), wO h10 3 [.ref h10a, .ref h10b, .int (nI nl), .int tl], wI (cy 1) h10a 280 (fcl), wI (cy 1) h10b 31 (fa15_5), wI (cy 1) s2 4 (fsn), wI (cy 1) h3 4 (fp), wI (cy 1) p4 40 (fqi2_13), wO p0 6 [.ref p1, .ref er, .ref ro, .ref p2, .ref p3, .ref p4, .ref h0, .ref s0, .int (nI z14)], wI (cy 1) p3 4 (fne2_10), wI (cy 1) p1 3 (ffd2_22), wI (cy 1) p2 3 (fpc2_18), wO h0 4 [.ref h1, .ref h2, .ref h3, .ref h4, .ref h5, .ref h6, .ref h7, .ref h8, .ref h9, .ref h10, .ref h11, .int ys, hv1, hv2, hv3, hv4], wI (cy 1) h1 4 (fc), wI (cy 1) h7 48 (fx), wO s0 7 [.ref s1, .ref s2, .int (nI sl), .int spl, .int svo, .int swi, .int sch], wI (cy 1) s1 10 (fw2_23), wI (cy 1) ro 20 (fr2_24), (er, .inl (cy 4, 4, .inr (.inr (.inr (.inr (eF (ea 0) (ea 1) (ea 2) (ea 3))))))), wO (ea 0) 2 [.ref (eg 0), .ref (ef 0), .int (((fun k => [fx1_5, fx4_5, fx7_5, fx10_5].getD k 0)) 0), .int (nI (((fun k => [l0_5, l1_5, l2_5, l3_5].getD k 0)) 0)), .int (nI (((fun k => [i0_5, i1_5, i2_5, i3_5].getD k 0)) 0))], wI (cy 1) (eg 0) 10 (((fun k => [fa16_5, fa17_5, fa18_5, fa19_5].getD k (fun _ => 0))) 0), wI (cy 1) (ef 0) 7 (((fun k => [fa20_5, fa21_5, fa22_5, fa23_5].getD k (fun _ => 0))) 0), wO (ea 1) 2 [.ref (eg 1), .ref (ef 1), .int (((fun k => [fx1_5, fx4_5, fx7_5, fx10_5].getD k 0)) 1), .int (nI (((fun k => [l0_5, l1_5, l2_5, l3_5].getD k 0)) 1)), .int (nI (((fun k => [i0_5, i1_5, i2_5, i3_5].getD k 0)) 1))], wI (cy 1) (eg 1) 10 (((fun k => [fa16_5, fa17_5, fa18_5, fa19_5].getD k (fun _ => 0))) 1), wI (cy 1) (ef 1) 7 (((fun k => [fa20_5, fa21_5, fa22_5, fa23_5].getD k (fun _ => 0))) 1), wO (ea 2) 2 [.ref (eg 2), .ref (ef 2), .int (((fun k => [fx1_5, fx4_5, fx7_5, fx10_5].getD k 0)) 2), .int (nI (((fun k => [l0_5, l1_5, l2_5, l3_5].getD k 0)) 2)), .int (nI (((fun k => [i0_5, i1_5, i2_5, i3_5].getD k 0)) 2))], wI (cy 1) (eg 2) 10 (((fun k => [fa16_5, fa17_5, fa18_5, fa19_5].getD k (fun _ => 0))) 2), wI (cy 1) (ef 2) 7 (((fun k => [fa20_5, fa21_5, fa22_5, fa23_5].getD k (fun _ => 0))) 2), wO (ea 3) 2 [.ref (eg 3), .ref (ef 3), .int (((fun k => [fx1_5, fx4_5, fx7_5, fx10_5].getD k 0)) 3), .int (nI (((fun k => [l0_5, l1_5, l2_5, l3_5].getD k 0)) 3)), .int (nI (((fun k => [i0_5, i1_5, i2_5, i3_5].getD k 0)) 3))], wI (cy 1) (eg 3) 10 (((fun k => [fa16_5, fa17_5, fa18_5, fa19_5].getD k (fun _ => 0))) 3), wI (cy 1) (ef 3) 7 (((fun k => [fa20_5, fa21_5, fa22_5, fa23_5].getD k (fun _ => 0))) 3)] hP9 hD9 hS9 (fun hP hD hS => ?_)
                clear hP9 hD9 hS9
                refine W.widen (k := 0) (n := 0) (Nat.le_of_ble_eq_true rfl) (Nat.le_of_ble_eq_true rfl) ?_
                replace hw21 : (zr21 = 0 ∨ zr21 = 1) ∧ (rng fw2_23 10 7) ∧ (rng fr2_24 20 7) := hw21
                obtain ⟨f_25, f_26, f_27⟩ := hw21
                replace hP : va_P D vwCl [wI (cy 1) h2 8 (flo), wO h9 3 [.ref h9a, .ref h9b, .int (nI nb), .int tb], wI (cy 1) h9a 280 (fcb), wI (cy 1) h9b 31 (fa13_5), wO h11 3 [.ref h11a, .ref h11b, .int (nI nt), .int tt], wI (cy 1) h11a 280 (fct), wI (cy 1) h11b 31 (fa14_5), wO h10 3 [.ref h10a, .ref h10b, .int (nI nl), .int tl], wI (cy 1) h10a 280 (fcl), wI (cy 1) h10b 31 (fa15_5), wI (cy 1) s2 4 (fsn), wI (cy 1) h3 4 (fp), wI (cy 1) p4 40 (fqi2_13), wO p0 6 [.ref p1, .ref er, .ref ro, .ref p2, .ref p3, .ref p4, .ref h0, .ref s0, .int (nI z14)], wI (cy 1) p3 4 (fne2_10), wI (cy 1) p1 3 (ffd2_22), wI (cy 1) p2 3 (fpc2_18), wO h0 4 [.ref h1, .ref h2, .ref h3, .ref h4, .ref h5, .ref h6, .ref h7, .ref h8, .ref h9, .ref h10, .ref h11, .int ys, hv1, hv2, hv3, hv4], wI (cy 1) h1 4 (fc), wI (cy 1) h7 48 (fx), wO s0 7 [.ref s1, .ref s2, .int (nI sl), .int spl, .int svo, .int swi, .int sch], wI (cy 1) s1 10 (fw2_23), wI (cy 1) ro 20 (fr2_24), (er, .inl (cy 4, 4, .inr (.inr (.inr (.inr (eF (ea 0) (ea 1) (ea 2) (ea 3))))))), wO (ea 0) 2 [.ref (eg 0), .ref (ef 0), .int fx1_5, .int (nI l0_5), .int (nI i0_5)], wI (cy 1) (eg 0) 10 (fa16_5), wI (cy 1) (ef 0) 7 (fa20_5), wO (ea 1) 2 [.ref (eg 1), .ref (ef 1), .int fx4_5, .int (nI l1_5), .int (nI i1_5)], wI (cy 1) (eg 1) 10 (fa17_5), wI (cy 1) (ef 1) 7 (fa21_5), wO (ea 2) 2 [.ref (eg 2), .ref (ef 2), .int fx7_5, .int (nI l2_5), .int (nI i2_5)], wI (cy 1) (eg 2) 10 (fa18_5), wI (cy 1) (ef 2) 7 (fa22_5), wO (ea 3) 2 [.ref (eg 3), .ref (ef 3), .int fx10_5, .int (nI l3_5), .int (nI i3_5)], wI (cy 1) (eg 3) 10 (fa19_5), wI (cy 1) (ef 3) 7 (fa23_5)] H := hP
                replace hD : va_D A [wI (cy 1) h2 8 (flo), wO h9 3 [.ref h9a, .ref h9b, .int (nI nb), .int tb], wI (cy 1) h9a 280 (fcb), wI (cy 1) h9b 31 (fa13_5), wO h11 3 [.ref h11a, .ref h11b, .int (nI nt), .int tt], wI (cy 1) h11a 280 (fct), wI (cy 1) h11b 31 (fa14_5), wO h10 3 [.ref h10a, .ref h10b, .int (nI nl), .int tl], wI (cy 1) h10a 280 (fcl), wI (cy 1) h10b 31 (fa15_5), wI (cy 1) s2 4 (fsn), wI (cy 1) h3 4 (fp), wI (cy 1) p4 40 (fqi2_13), wO p0 6 [.ref p1, .ref er, .ref ro, .ref p2, .ref p3, .ref p4, .ref h0, .ref s0, .int (nI z14)], wI (cy 1) p3 4 (fne2_10), wI (cy 1) p1 3 (ffd2_22), wI (cy 1) p2 3 (fpc2_18), wO h0 4 [.ref h1, .ref h2, .ref h3, .ref h4, .ref h5, .ref h6, .ref h7, .ref h8, .ref h9, .ref h10, .ref h11, .int ys, hv1, hv2, hv3, hv4], wI (cy 1) h1 4 (fc), wI (cy 1) h7 48 (fx), wO s0 7 [.ref s1, .ref s2, .int (nI sl), .int spl, .int svo, .int swi, .int sch], wI (cy 1) s1 10 (fw2_23), wI (cy 1) ro 20 (fr2_24), (er, .inl (cy 4, 4, .inr (.inr (.inr (.inr (eF (ea 0) (ea 1) (ea 2) (ea 3))))))), wO (ea 0) 2 [.ref (eg 0), .ref (ef 0), .int fx1_5, .int (nI l0_5), .int (nI i0_5)], wI (cy 1) (eg 0) 10 (fa16_5), wI (cy 1) (ef 0) 7 (fa20_5), wO (ea 1) 2 [.ref (eg 1), .ref (ef 1), .int fx4_5, .int (nI l1_5), .int (nI i1_5)], wI (cy 1) (eg 1) 10 (fa17_5), wI (cy 1) (ef 1) 7 (fa21_5), wO (ea 2) 2 [.ref (eg 2), .ref (ef 2), .int fx7_5, .int (nI l2_5), .int (nI i2_5)], wI (cy 1) (eg 2) 10 (fa18_5), wI (cy 1) (ef 2) 7 (fa22_5), wO (ea 3) 2 [.ref (eg 3), .ref (ef 3), .int fx10_5, .int (nI l3_5), .int (nI i3_5)], wI (cy 1) (eg 3) 10 (fa19_5), wI (cy 1) (ef 3) 7 (fa23_5)] := hD
                refine lv_pop hx hb dX6_fewest_79 rfl ?_
                refine lv_iload_n hx hb dX6_fewest_80 rfl (lv_at hl 0 rfl) ?_
                exact x_iret hQ hx hb hr hlocks hK hP hD hS dX6_fewest_81 (z14, ffd2_22, fpc2_18, fne2_10, fqi2_13, fw2_23, fr2_24, (fun k => [fx1_5, fx4_5, fx7_5, fx10_5].getD k 0), (fun k => [l0_5, l1_5, l2_5, l3_5].getD k 0), (fun k => [i0_5, i1_5, i2_5, i3_5].getD k 0), (fun k => [fa16_5, fa17_5, fa18_5, fa19_5].getD k (fun _ => 0)), (fun k => [fa20_5, fa21_5, fa22_5, fa23_5].getD k (fun _ => 0)), fa13_5, fa14_5, fa15_5) (⟨(show z14 ≤ 3 from by omega), f_20, f_26, f_27, Or.inr ⟨z14, by omega, rfl⟩, get4 (by omega) (by omega) (by omega) (by omega)⟩) [13, 14, 15, 16, 12, 17, 18, 11, 0, 19, 1, 2, 3, 4, 5, 6, 7, 8, 9, 20, 21, 10, 22, 23, 24, 25, 26, 27, 28, 29, 30, 31, 32, 33, 34, 35] (by decide +kernel) rfl (Nat.le_of_ble_eq_true rfl) (Nat.le_of_ble_eq_true rfl)
        exact loop14 _ 0 ch fpc hpc (by omega) (by omega) (Nat.le_refl _) _ _ (hP.sub [0, 1, 2, 3, 4, 5, 6, 7, 8, 9, 10, 11, 12, 13, 14, 15, 16, 17, 18, 19, 20, 21, 22, 23, 24, 25, 26, 27, 28, 29, 30, 31, 32, 33, 34, 35] rfl) (hD.sub [0, 1, 2, 3, 4, 5, 6, 7, 8, 9, 10, 11, 12, 13, 14, 15, 16, 17, 18, 19, 20, 21, 22, 23, 24, 25, 26, 27, 28, 29, 30, 31, 32, 33, 34, 35] (by decide +kernel) rfl) hS ls (lv_sub hl [0, 1, 2, 3] rfl)
      · have q_8 : i5 < c1 := q_nle (a := c1) (b := i5) rfl rfl (by omega) (by omega) c_7
        refine lv_aload_n hx hb dX6_fewest_22 rfl (lv_at hl 1 rfl) ?_
        refine va_get (D := D) (ci := 6) (v := .ref er) (C := RX6) (T := TX6) (N := 9) hx hb hg i_X6 hown hK hP 0 rfl rfl 1 (by decide) (hg _ m_586) (fun _ h9 => h9) rfl dX6_fewest_23 ?_
        refine lv_iload_n hx hb dX6_fewest_26 rfl (lv_at hl 0 rfl) ?_
        rcases (show i5 = 0 ∨ i5 = 1 ∨ i5 = 2 ∨ i5 = 3 by omega) with hsp | hsp | hsp | hsp
        · subst hsp
          refine va_aldq hx hb hK hP 23 4 rfl rfl (by unfold vp_in; decide) dX6_fewest_27 ?_
          refine W.eq (g2 := F0 m 28 ls [.ref (ea 0)]) rfl ?_
          refine lv_aload_n hx hb dX6_fewest_28 rfl (lv_at hl 2 rfl) ?_
          refine lv_aload_n hx hb dX6_fewest_29 rfl (lv_at hl 3 rfl) ?_
          refine lv_iload_n hx hb dX6_fewest_30 rfl (lv_at hl 0 rfl) ?_
          refine lv_aload_n hx hb dX6_fewest_31 rfl (lv_at hl 3 rfl) ?_
          refine va_get (D := D) (ci := 7) (v := .int (nI sl)) (C := RX7) (T := TX7) (N := 7) hx hb hg i_X7 hown hK hP 19 rfl rfl 2 (by decide) (hg _ m_630) (fun _ h9 => h9) rfl dX6_fewest_32 ?_
          refine x_callVv (q := (RX2, TX2, 5)) (ci := 2) (q0 := 0) (wr := [wO p0 6 [.ref p1, .ref er, .ref ro, .ref p2, .ref p3, .ref p4, .ref h0, .ref s0, .int (nI ch)], wI (cy 1) p3 4 (fne), wI (cy 1) p1 3 (ffd), wI (cy 1) p2 3 (fpc), wI (cy 1) p4 40 (fqi), wI (cy 1) h7 48 (fx), wI (cy 1) s1 10 (fw), wI (cy 1) ro 20 (fr), (er, .inl (cy 4, 4, .inr (.inr (.inr (.inr (eF (ea 0) (ea 1) (ea 2) (ea 3))))))), wO (ea 1) 2 [.ref (eg 1), .ref (ef 1), .int fx4_5, .int (nI l1_5), .int (nI i1_5)], wI (cy 1) (eg 1) 10 (fa17_5), wI (cy 1) (ef 1) 7 (fa21_5), wO (ea 2) 2 [.ref (eg 2), .ref (ef 2), .int fx7_5, .int (nI l2_5), .int (nI i2_5)], wI (cy 1) (eg 2) 10 (fa18_5), wI (cy 1) (ef 2) 7 (fa22_5), wO (ea 3) 2 [.ref (eg 3), .ref (ef 3), .int fx10_5, .int (nI l3_5), .int (nI i3_5)], wI (cy 1) (eg 3) 10 (fa19_5), wI (cy 1) (ef 3) 7 (fa23_5)]) (rest := []) ⟨hx, hb, hml, hown, hg, hl.1⟩ k_X6_54 (s_tuneToAll l D cy (ea 0) (eg 0) (ef 0) fx1_5 (nI l0_5) (nI i0_5) fa16_5 fa20_5 h0 h1 h2 h3 h4 h5 h6 h7 h8 h9 h10 h11 ((.int ys)) hv1 hv2 hv3 hv4 fp flo h9a h9b nb tb fcb fa13_5 h11a h11b nt tt fct fa14_5 h10a h10b nl tl fcl fa15_5 fc c0 c1 c2 c3 s0 s1 s2 sl spl svo swi sch fsn 0 sl (by omega) (hcb) (by omega) (hct) (by omega) (hcl) (hcn) (by omega) (by omega) (by omega) (by omega) (by omega) (by omega)) E0_blind hK hP hD hS hA [24, 25, 26, 5, 7, 8, 10, 11, 12, 13, 14, 15, 16, 17, 18, 6, 19, 21] [0, 1, 2, 3, 4, 9, 20, 22, 23, 27, 28, 29, 30, 31, 32, 33, 34, 35] ⟨rfl, rfl, by decide +kernel, by decide +kernel, by decide +kernel⟩ rfl rfl (fun _ _ _ => trivial) dX6_fewest_35 rfl rfl (Nat.le_of_ble_eq_true rfl) ⟨Nat.le_of_ble_eq_true rfl, Nat.le_of_ble_eq_true rfl⟩ ⟨Nat.le_of_ble_eq_true rfl, Nat.le_of_ble_eq_true rfl⟩ (fun zu28 H locs hw28 hP9 hD9 hS9 => ?_)
          clear hP hD hS
          obtain ⟨k_29, tu_30, fg2_31, ff2_32, fsb2_33, fst2_34, fsl2_35⟩ := zu28
          refine reW [wO p0 6 [.ref p1, .ref er, .ref ro, .ref p2, .ref p3, .ref p4, .ref h0, .ref s0, .int (nI ch)], wI (cy 1) p3 4 (fne), wI (cy 1) p1 3 (ffd), wI (cy 1) p2 3 (fpc), wI (cy 1) p4 40 (fqi), wI (cy 1) h7 48 (fx), wI (cy 1) s1 10 (fw), wI (cy 1) ro 20 (fr), (er, .inl (cy 4, 4, .inr (.inr (.inr (.inr (eF (ea 0) (ea 1) (ea 2) (ea 3))))))), wO (ea 1) 2 [.ref (eg 1), .ref (ef 1), .int fx4_5, .int (nI l1_5), .int (nI i1_5)], wI (cy 1) (eg 1) 10 (fa17_5), wI (cy 1) (ef 1) 7 (fa21_5), wO (ea 2) 2 [.ref (eg 2), .ref (ef 2), .int fx7_5, .int (nI l2_5), .int (nI i2_5)], wI (cy 1) (eg 2) 10 (fa18_5), wI (cy 1) (ef 2) 7 (fa22_5), wO (ea 3) 2 [.ref (eg 3), .ref (ef 3), .int fx10_5, .int (nI l3_5), .int (nI i3_5)], wI (cy 1) (eg 3) 10 (fa19_5), wI (cy 1) (ef 3) 7 (fa23_5), wO (ea 0) 2 [.ref (eg 0), .ref (ef 0), .int tu_30, .int (nI sl), .int (nI k_29)], wI (cy 1) (eg 0) 10 (fg2_31), wI (cy 1) (ef 0) 7 (ff2_32), wO h0 4 [.ref h1, .ref h2, .ref h3, .ref h4, .ref h5, .ref h6, .ref h7, .ref h8, .ref h9, .ref h10, .ref h11, .int ys, hv1, hv2, hv3, hv4], wI (cy 1) h3 4 (fp), wI (cy 1) h2 8 (flo), wO h9 3 [.ref h9a, .ref h9b, .int (nI nb), .int tb], wI (cy 1) h9a 280 (fcb), wI (cy 1) h9b 31 (fsb2_33), wO h11 3 [.ref h11a, .ref h11b, .int (nI nt), .int tt], wI (cy 1) h11a 280 (fct), wI (cy 1) h11b 31 (fst2_34), wO h10 3 [.ref h10a, .ref h10b, .int (nI nl), .int tl], wI (cy 1) h10a 280 (fcl), wI (cy 1) h10b 31 (fsl2_35), wI (cy 1) h1 4 (fc), wO s0 7 [.ref s1, .ref s2, .int (nI sl), .int spl, .int svo, .int swi, .int sch], wI (cy 1) s2 4 (fsn)] hP9 hD9 hS9 (fun hP hD hS => ?_)
          clear hP9 hD9 hS9
          refine W.widen (k := 0) (n := 0) (Nat.le_of_ble_eq_true rfl) (Nat.le_of_ble_eq_true rfl) ?_
          replace hw28 : (k_29 ≤ sl) := hw28
          have f_36 := hw28
          refine lv_iinc (v := 1) (lv' := [(3, .int 1), (0, .ref p0), (1, .ref h0), (2, .ref s0)]) hx hb dX6_fewest_38 hl (k := 0) rfl (by decide) (by decide) rfl (fun ls hl => ?_)
          refine lv_goto (tgt := 12) hx hb dX6_fewest_41 (by decide) ?_
          exact ih5  1 tu_30 sl k_29 fx4_5 l1_5 i1_5 fx7_5 l2_5 i2_5 fx10_5 l3_5 i3_5 fsb2_33 fst2_34 fsl2_35 fg2_31 fa17_5 fa18_5 fa19_5 ff2_32 fa21_5 fa22_5 fa23_5 (by omega) (by omega) (by omega) (by omega) (by omega) (by omega) (by omega) (by omega) (by omega) (by omega) _ _ (hP.sub [0, 1, 2, 3, 4, 21, 33, 22, 23, 5, 24, 25, 26, 27, 28, 29, 30, 31, 32, 34, 6, 35, 7, 8, 18, 19, 20, 9, 10, 11, 12, 13, 14, 15, 16, 17] rfl) (hD.sub [0, 1, 2, 3, 4, 21, 33, 22, 23, 5, 24, 25, 26, 27, 28, 29, 30, 31, 32, 34, 6, 35, 7, 8, 18, 19, 20, 9, 10, 11, 12, 13, 14, 15, 16, 17] (by decide +kernel) rfl) hS ls (lv_sub hl [0, 1, 2, 3] rfl)
        · subst hsp
          refine va_aldq hx hb hK hP 23 4 rfl rfl (by unfold vp_in; decide) dX6_fewest_27 ?_
          refine W.eq (g2 := F0 m 28 ls [.ref (ea 1)]) rfl ?_
          refine lv_aload_n hx hb dX6_fewest_28 rfl (lv_at hl 2 rfl) ?_
          refine lv_aload_n hx hb dX6_fewest_29 rfl (lv_at hl 3 rfl) ?_
          refine lv_iload_n hx hb dX6_fewest_30 rfl (lv_at hl 0 rfl) ?_
          refine lv_aload_n hx hb dX6_fewest_31 rfl (lv_at hl 3 rfl) ?_
          refine va_get (D := D) (ci := 7) (v := .int (nI sl)) (C := RX7) (T := TX7) (N := 7) hx hb hg i_X7 hown hK hP 19 rfl rfl 2 (by decide) (hg _ m_630) (fun _ h9 => h9) rfl dX6_fewest_32 ?_
          refine x_callVv (q := (RX2, TX2, 5)) (ci := 2) (q0 := 0) (wr := [wO p0 6 [.ref p1, .ref er, .ref ro, .ref p2, .ref p3, .ref p4, .ref h0, .ref s0, .int (nI ch)], wI (cy 1) p3 4 (fne), wI (cy 1) p1 3 (ffd), wI (cy 1) p2 3 (fpc), wI (cy 1) p4 40 (fqi), wI (cy 1) h7 48 (fx), wI (cy 1) s1 10 (fw), wI (cy 1) ro 20 (fr), (er, .inl (cy 4, 4, .inr (.inr (.inr (.inr (eF (ea 0) (ea 1) (ea 2) (ea 3))))))), wO (ea 0) 2 [.ref (eg 0), .ref (ef 0), .int fx1_5, .int (nI l0_5), .int (nI i0_5)], wI (cy 1) (eg 0) 10 (fa16_5), wI (cy 1) (ef 0) 7 (fa20_5), wO (ea 2) 2 [.ref (eg 2), .ref (ef 2), .int fx7_5, .int (nI l2_5), .int (nI i2_5)], wI (cy 1) (eg 2) 10 (fa18_5), wI (cy 1) (ef 2) 7 (fa22_5), wO (ea 3) 2 [.ref (eg 3), .ref (ef 3), .int fx10_5, .int (nI l3_5), .int (nI i3_5)], wI (cy 1) (eg 3) 10 (fa19_5), wI (cy 1) (ef 3) 7 (fa23_5)]) (rest := []) ⟨hx, hb, hml, hown, hg, hl.1⟩ k_X6_54 (s_tuneToAll l D cy (ea 1) (eg 1) (ef 1) fx4_5 (nI l1_5) (nI i1_5) fa17_5 fa21_5 h0 h1 h2 h3 h4 h5 h6 h7 h8 h9 h10 h11 ((.int ys)) hv1 hv2 hv3 hv4 fp flo h9a h9b nb tb fcb fa13_5 h11a h11b nt tt fct fa14_5 h10a h10b nl tl fcl fa15_5 fc c0 c1 c2 c3 s0 s1 s2 sl spl svo swi sch fsn 1 sl (by omega) (hcb) (by omega) (hct) (by omega) (hcl) (hcn) (by omega) (by omega) (by omega) (by omega) (by omega) (by omega)) E0_blind hK hP hD hS hA [27, 28, 29, 5, 7, 8, 10, 11, 12, 13, 14, 15, 16, 17, 18, 6, 19, 21] [0, 1, 2, 3, 4, 9, 20, 22, 23, 24, 25, 26, 30, 31, 32, 33, 34, 35] ⟨rfl, rfl, by decide +kernel, by decide +kernel, by decide +kernel⟩ rfl rfl (fun _ _ _ => trivial) dX6_fewest_35 rfl rfl (Nat.le_of_ble_eq_true rfl) ⟨Nat.le_of_ble_eq_true rfl, Nat.le_of_ble_eq_true rfl⟩ ⟨Nat.le_of_ble_eq_true rfl, Nat.le_of_ble_eq_true rfl⟩ (fun zu37 H locs hw37 hP9 hD9 hS9 => ?_)
          clear hP hD hS
          obtain ⟨k_38, tu_39, fg2_40, ff2_41, fsb2_42, fst2_43, fsl2_44⟩ := zu37
          refine reW [wO p0 6 [.ref p1, .ref er, .ref ro, .ref p2, .ref p3, .ref p4, .ref h0, .ref s0, .int (nI ch)], wI (cy 1) p3 4 (fne), wI (cy 1) p1 3 (ffd), wI (cy 1) p2 3 (fpc), wI (cy 1) p4 40 (fqi), wI (cy 1) h7 48 (fx), wI (cy 1) s1 10 (fw), wI (cy 1) ro 20 (fr), (er, .inl (cy 4, 4, .inr (.inr (.inr (.inr (eF (ea 0) (ea 1) (ea 2) (ea 3))))))), wO (ea 0) 2 [.ref (eg 0), .ref (ef 0), .int fx1_5, .int (nI l0_5), .int (nI i0_5)], wI (cy 1) (eg 0) 10 (fa16_5), wI (cy 1) (ef 0) 7 (fa20_5), wO (ea 2) 2 [.ref (eg 2), .ref (ef 2), .int fx7_5, .int (nI l2_5), .int (nI i2_5)], wI (cy 1) (eg 2) 10 (fa18_5), wI (cy 1) (ef 2) 7 (fa22_5), wO (ea 3) 2 [.ref (eg 3), .ref (ef 3), .int fx10_5, .int (nI l3_5), .int (nI i3_5)], wI (cy 1) (eg 3) 10 (fa19_5), wI (cy 1) (ef 3) 7 (fa23_5), wO (ea 1) 2 [.ref (eg 1), .ref (ef 1), .int tu_39, .int (nI sl), .int (nI k_38)], wI (cy 1) (eg 1) 10 (fg2_40), wI (cy 1) (ef 1) 7 (ff2_41), wO h0 4 [.ref h1, .ref h2, .ref h3, .ref h4, .ref h5, .ref h6, .ref h7, .ref h8, .ref h9, .ref h10, .ref h11, .int ys, hv1, hv2, hv3, hv4], wI (cy 1) h3 4 (fp), wI (cy 1) h2 8 (flo), wO h9 3 [.ref h9a, .ref h9b, .int (nI nb), .int tb], wI (cy 1) h9a 280 (fcb), wI (cy 1) h9b 31 (fsb2_42), wO h11 3 [.ref h11a, .ref h11b, .int (nI nt), .int tt], wI (cy 1) h11a 280 (fct), wI (cy 1) h11b 31 (fst2_43), wO h10 3 [.ref h10a, .ref h10b, .int (nI nl), .int tl], wI (cy 1) h10a 280 (fcl), wI (cy 1) h10b 31 (fsl2_44), wI (cy 1) h1 4 (fc), wO s0 7 [.ref s1, .ref s2, .int (nI sl), .int spl, .int svo, .int swi, .int sch], wI (cy 1) s2 4 (fsn)] hP9 hD9 hS9 (fun hP hD hS => ?_)
          clear hP9 hD9 hS9
          refine W.widen (k := 0) (n := 0) (Nat.le_of_ble_eq_true rfl) (Nat.le_of_ble_eq_true rfl) ?_
          replace hw37 : (k_38 ≤ sl) := hw37
          have f_45 := hw37
          refine lv_iinc (v := 2) (lv' := [(3, .int 2), (0, .ref p0), (1, .ref h0), (2, .ref s0)]) hx hb dX6_fewest_38 hl (k := 0) rfl (by decide) (by decide) rfl (fun ls hl => ?_)
          refine lv_goto (tgt := 12) hx hb dX6_fewest_41 (by decide) ?_
          exact ih5  2 fx1_5 l0_5 i0_5 tu_39 sl k_38 fx7_5 l2_5 i2_5 fx10_5 l3_5 i3_5 fsb2_42 fst2_43 fsl2_44 fa16_5 fg2_40 fa18_5 fa19_5 fa20_5 ff2_41 fa22_5 fa23_5 (by omega) (by omega) (by omega) (by omega) (by omega) (by omega) (by omega) (by omega) (by omega) (by omega) _ _ (hP.sub [0, 1, 2, 3, 4, 21, 33, 22, 23, 5, 24, 25, 26, 27, 28, 29, 30, 31, 32, 34, 6, 35, 7, 8, 9, 10, 11, 18, 19, 20, 12, 13, 14, 15, 16, 17] rfl) (hD.sub [0, 1, 2, 3, 4, 21, 33, 22, 23, 5, 24, 25, 26, 27, 28, 29, 30, 31, 32, 34, 6, 35, 7, 8, 9, 10, 11, 18, 19, 20, 12, 13, 14, 15, 16, 17] (by decide +kernel) rfl) hS ls (lv_sub hl [0, 1, 2, 3] rfl)
        · subst hsp
          refine va_aldq hx hb hK hP 23 4 rfl rfl (by unfold vp_in; decide) dX6_fewest_27 ?_
          refine W.eq (g2 := F0 m 28 ls [.ref (ea 2)]) rfl ?_
          refine lv_aload_n hx hb dX6_fewest_28 rfl (lv_at hl 2 rfl) ?_
          refine lv_aload_n hx hb dX6_fewest_29 rfl (lv_at hl 3 rfl) ?_
          refine lv_iload_n hx hb dX6_fewest_30 rfl (lv_at hl 0 rfl) ?_
          refine lv_aload_n hx hb dX6_fewest_31 rfl (lv_at hl 3 rfl) ?_
          refine va_get (D := D) (ci := 7) (v := .int (nI sl)) (C := RX7) (T := TX7) (N := 7) hx hb hg i_X7 hown hK hP 19 rfl rfl 2 (by decide) (hg _ m_630) (fun _ h9 => h9) rfl dX6_fewest_32 ?_
          refine x_callVv (q := (RX2, TX2, 5)) (ci := 2) (q0 := 0) (wr := [wO p0 6 [.ref p1, .ref er, .ref ro, .ref p2, .ref p3, .ref p4, .ref h0, .ref s0, .int (nI ch)], wI (cy 1) p3 4 (fne), wI (cy 1) p1 3 (ffd), wI (cy 1) p2 3 (fpc), wI (cy 1) p4 40 (fqi), wI (cy 1) h7 48 (fx), wI (cy 1) s1 10 (fw), wI (cy 1) ro 20 (fr), (er, .inl (cy 4, 4, .inr (.inr (.inr (.inr (eF (ea 0) (ea 1) (ea 2) (ea 3))))))), wO (ea 0) 2 [.ref (eg 0), .ref (ef 0), .int fx1_5, .int (nI l0_5), .int (nI i0_5)], wI (cy 1) (eg 0) 10 (fa16_5), wI (cy 1) (ef 0) 7 (fa20_5), wO (ea 1) 2 [.ref (eg 1), .ref (ef 1), .int fx4_5, .int (nI l1_5), .int (nI i1_5)], wI (cy 1) (eg 1) 10 (fa17_5), wI (cy 1) (ef 1) 7 (fa21_5), wO (ea 3) 2 [.ref (eg 3), .ref (ef 3), .int fx10_5, .int (nI l3_5), .int (nI i3_5)], wI (cy 1) (eg 3) 10 (fa19_5), wI (cy 1) (ef 3) 7 (fa23_5)]) (rest := []) ⟨hx, hb, hml, hown, hg, hl.1⟩ k_X6_54 (s_tuneToAll l D cy (ea 2) (eg 2) (ef 2) fx7_5 (nI l2_5) (nI i2_5) fa18_5 fa22_5 h0 h1 h2 h3 h4 h5 h6 h7 h8 h9 h10 h11 ((.int ys)) hv1 hv2 hv3 hv4 fp flo h9a h9b nb tb fcb fa13_5 h11a h11b nt tt fct fa14_5 h10a h10b nl tl fcl fa15_5 fc c0 c1 c2 c3 s0 s1 s2 sl spl svo swi sch fsn 2 sl (by omega) (hcb) (by omega) (hct) (by omega) (hcl) (hcn) (by omega) (by omega) (by omega) (by omega) (by omega) (by omega)) E0_blind hK hP hD hS hA [30, 31, 32, 5, 7, 8, 10, 11, 12, 13, 14, 15, 16, 17, 18, 6, 19, 21] [0, 1, 2, 3, 4, 9, 20, 22, 23, 24, 25, 26, 27, 28, 29, 33, 34, 35] ⟨rfl, rfl, by decide +kernel, by decide +kernel, by decide +kernel⟩ rfl rfl (fun _ _ _ => trivial) dX6_fewest_35 rfl rfl (Nat.le_of_ble_eq_true rfl) ⟨Nat.le_of_ble_eq_true rfl, Nat.le_of_ble_eq_true rfl⟩ ⟨Nat.le_of_ble_eq_true rfl, Nat.le_of_ble_eq_true rfl⟩ (fun zu46 H locs hw46 hP9 hD9 hS9 => ?_)
          clear hP hD hS
          obtain ⟨k_47, tu_48, fg2_49, ff2_50, fsb2_51, fst2_52, fsl2_53⟩ := zu46
          refine reW [wO p0 6 [.ref p1, .ref er, .ref ro, .ref p2, .ref p3, .ref p4, .ref h0, .ref s0, .int (nI ch)], wI (cy 1) p3 4 (fne), wI (cy 1) p1 3 (ffd), wI (cy 1) p2 3 (fpc), wI (cy 1) p4 40 (fqi), wI (cy 1) h7 48 (fx), wI (cy 1) s1 10 (fw), wI (cy 1) ro 20 (fr), (er, .inl (cy 4, 4, .inr (.inr (.inr (.inr (eF (ea 0) (ea 1) (ea 2) (ea 3))))))), wO (ea 0) 2 [.ref (eg 0), .ref (ef 0), .int fx1_5, .int (nI l0_5), .int (nI i0_5)], wI (cy 1) (eg 0) 10 (fa16_5), wI (cy 1) (ef 0) 7 (fa20_5), wO (ea 1) 2 [.ref (eg 1), .ref (ef 1), .int fx4_5, .int (nI l1_5), .int (nI i1_5)], wI (cy 1) (eg 1) 10 (fa17_5), wI (cy 1) (ef 1) 7 (fa21_5), wO (ea 3) 2 [.ref (eg 3), .ref (ef 3), .int fx10_5, .int (nI l3_5), .int (nI i3_5)], wI (cy 1) (eg 3) 10 (fa19_5), wI (cy 1) (ef 3) 7 (fa23_5), wO (ea 2) 2 [.ref (eg 2), .ref (ef 2), .int tu_48, .int (nI sl), .int (nI k_47)], wI (cy 1) (eg 2) 10 (fg2_49), wI (cy 1) (ef 2) 7 (ff2_50), wO h0 4 [.ref h1, .ref h2, .ref h3, .ref h4, .ref h5, .ref h6, .ref h7, .ref h8, .ref h9, .ref h10, .ref h11, .int ys, hv1, hv2, hv3, hv4], wI (cy 1) h3 4 (fp), wI (cy 1) h2 8 (flo), wO h9 3 [.ref h9a, .ref h9b, .int (nI nb), .int tb], wI (cy 1) h9a 280 (fcb), wI (cy 1) h9b 31 (fsb2_51), wO h11 3 [.ref h11a, .ref h11b, .int (nI nt), .int tt], wI (cy 1) h11a 280 (fct), wI (cy 1) h11b 31 (fst2_52), wO h10 3 [.ref h10a, .ref h10b, .int (nI nl), .int tl], wI (cy 1) h10a 280 (fcl), wI (cy 1) h10b 31 (fsl2_53), wI (cy 1) h1 4 (fc), wO s0 7 [.ref s1, .ref s2, .int (nI sl), .int spl, .int svo, .int swi, .int sch], wI (cy 1) s2 4 (fsn)] hP9 hD9 hS9 (fun hP hD hS => ?_)
          clear hP9 hD9 hS9
          refine W.widen (k := 0) (n := 0) (Nat.le_of_ble_eq_true rfl) (Nat.le_of_ble_eq_true rfl) ?_
          replace hw46 : (k_47 ≤ sl) := hw46
          have f_54 := hw46
          refine lv_iinc (v := 3) (lv' := [(3, .int 3), (0, .ref p0), (1, .ref h0), (2, .ref s0)]) hx hb dX6_fewest_38 hl (k := 0) rfl (by decide) (by decide) rfl (fun ls hl => ?_)
          refine lv_goto (tgt := 12) hx hb dX6_fewest_41 (by decide) ?_
          exact ih5  3 fx1_5 l0_5 i0_5 fx4_5 l1_5 i1_5 tu_48 sl k_47 fx10_5 l3_5 i3_5 fsb2_51 fst2_52 fsl2_53 fa16_5 fa17_5 fg2_49 fa19_5 fa20_5 fa21_5 ff2_50 fa23_5 (by omega) (by omega) (by omega) (by omega) (by omega) (by omega) (by omega) (by omega) (by omega) (by omega) _ _ (hP.sub [0, 1, 2, 3, 4, 21, 33, 22, 23, 5, 24, 25, 26, 27, 28, 29, 30, 31, 32, 34, 6, 35, 7, 8, 9, 10, 11, 12, 13, 14, 18, 19, 20, 15, 16, 17] rfl) (hD.sub [0, 1, 2, 3, 4, 21, 33, 22, 23, 5, 24, 25, 26, 27, 28, 29, 30, 31, 32, 34, 6, 35, 7, 8, 9, 10, 11, 12, 13, 14, 18, 19, 20, 15, 16, 17] (by decide +kernel) rfl) hS ls (lv_sub hl [0, 1, 2, 3] rfl)
        · subst hsp
          refine va_aldq hx hb hK hP 23 4 rfl rfl (by unfold vp_in; decide) dX6_fewest_27 ?_
          refine W.eq (g2 := F0 m 28 ls [.ref (ea 3)]) rfl ?_
          refine lv_aload_n hx hb dX6_fewest_28 rfl (lv_at hl 2 rfl) ?_
          refine lv_aload_n hx hb dX6_fewest_29 rfl (lv_at hl 3 rfl) ?_
          refine lv_iload_n hx hb dX6_fewest_30 rfl (lv_at hl 0 rfl) ?_
          refine lv_aload_n hx hb dX6_fewest_31 rfl (lv_at hl 3 rfl) ?_
          refine va_get (D := D) (ci := 7) (v := .int (nI sl)) (C := RX7) (T := TX7) (N := 7) hx hb hg i_X7 hown hK hP 19 rfl rfl 2 (by decide) (hg _ m_630) (fun _ h9 => h9) rfl dX6_fewest_32 ?_
          refine x_callVv (q := (RX2, TX2, 5)) (ci := 2) (q0 := 0) (wr := [wO p0 6 [.ref p1, .ref er, .ref ro, .ref p2, .ref p3, .ref p4, .ref h0, .ref s0, .int (nI ch)], wI (cy 1) p3 4 (fne), wI (cy 1) p1 3 (ffd), wI (cy 1) p2 3 (fpc), wI (cy 1) p4 40 (fqi), wI (cy 1) h7 48 (fx), wI (cy 1) s1 10 (fw), wI (cy 1) ro 20 (fr), (er, .inl (cy 4, 4, .inr (.inr (.inr (.inr (eF (ea 0) (ea 1) (ea 2) (ea 3))))))), wO (ea 0) 2 [.ref (eg 0), .ref (ef 0), .int fx1_5, .int (nI l0_5), .int (nI i0_5)], wI (cy 1) (eg 0) 10 (fa16_5), wI (cy 1) (ef 0) 7 (fa20_5), wO (ea 1) 2 [.ref (eg 1), .ref (ef 1), .int fx4_5, .int (nI l1_5), .int (nI i1_5)], wI (cy 1) (eg 1) 10 (fa17_5), wI (cy 1) (ef 1) 7 (fa21_5), wO (ea 2) 2 [.ref (eg 2), .ref (ef 2), .int fx7_5, .int (nI l2_5), .int (nI i2_5)], wI (cy 1) (eg 2) 10 (fa18_5), wI (cy 1) (ef 2) 7 (fa22_5)]) (rest := []) ⟨hx, hb, hml, hown, hg, hl.1⟩ k_X6_54 (s_tuneToAll l D cy (ea 3) (eg 3) (ef 3) fx10_5 (nI l3_5) (nI i3_5) fa19_5 fa23_5 h0 h1 h2 h3 h4 h5 h6 h7 h8 h9 h10 h11 ((.int ys)) hv1 hv2 hv3 hv4 fp flo h9a h9b nb tb fcb fa13_5 h11a h11b nt tt fct fa14_5 h10a h10b nl tl fcl fa15_5 fc c0 c1 c2 c3 s0 s1 s2 sl spl svo swi sch fsn 3 sl (by omega) (hcb) (by omega) (hct) (by omega) (hcl) (hcn) (by omega) (by omega) (by omega) (by omega) (by omega) (by omega)) E0_blind hK hP hD hS hA [33, 34, 35, 5, 7, 8, 10, 11, 12, 13, 14, 15, 16, 17, 18, 6, 19, 21] [0, 1, 2, 3, 4, 9, 20, 22, 23, 24, 25, 26, 27, 28, 29, 30, 31, 32] ⟨rfl, rfl, by decide +kernel, by decide +kernel, by decide +kernel⟩ rfl rfl (fun _ _ _ => trivial) dX6_fewest_35 rfl rfl (Nat.le_of_ble_eq_true rfl) ⟨Nat.le_of_ble_eq_true rfl, Nat.le_of_ble_eq_true rfl⟩ ⟨Nat.le_of_ble_eq_true rfl, Nat.le_of_ble_eq_true rfl⟩ (fun zu55 H locs hw55 hP9 hD9 hS9 => ?_)
          clear hP hD hS
          obtain ⟨k_56, tu_57, fg2_58, ff2_59, fsb2_60, fst2_61, fsl2_62⟩ := zu55
          refine reW [wO p0 6 [.ref p1, .ref er, .ref ro, .ref p2, .ref p3, .ref p4, .ref h0, .ref s0, .int (nI ch)], wI (cy 1) p3 4 (fne), wI (cy 1) p1 3 (ffd), wI (cy 1) p2 3 (fpc), wI (cy 1) p4 40 (fqi), wI (cy 1) h7 48 (fx), wI (cy 1) s1 10 (fw), wI (cy 1) ro 20 (fr), (er, .inl (cy 4, 4, .inr (.inr (.inr (.inr (eF (ea 0) (ea 1) (ea 2) (ea 3))))))), wO (ea 0) 2 [.ref (eg 0), .ref (ef 0), .int fx1_5, .int (nI l0_5), .int (nI i0_5)], wI (cy 1) (eg 0) 10 (fa16_5), wI (cy 1) (ef 0) 7 (fa20_5), wO (ea 1) 2 [.ref (eg 1), .ref (ef 1), .int fx4_5, .int (nI l1_5), .int (nI i1_5)], wI (cy 1) (eg 1) 10 (fa17_5), wI (cy 1) (ef 1) 7 (fa21_5), wO (ea 2) 2 [.ref (eg 2), .ref (ef 2), .int fx7_5, .int (nI l2_5), .int (nI i2_5)], wI (cy 1) (eg 2) 10 (fa18_5), wI (cy 1) (ef 2) 7 (fa22_5), wO (ea 3) 2 [.ref (eg 3), .ref (ef 3), .int tu_57, .int (nI sl), .int (nI k_56)], wI (cy 1) (eg 3) 10 (fg2_58), wI (cy 1) (ef 3) 7 (ff2_59), wO h0 4 [.ref h1, .ref h2, .ref h3, .ref h4, .ref h5, .ref h6, .ref h7, .ref h8, .ref h9, .ref h10, .ref h11, .int ys, hv1, hv2, hv3, hv4], wI (cy 1) h3 4 (fp), wI (cy 1) h2 8 (flo), wO h9 3 [.ref h9a, .ref h9b, .int (nI nb), .int tb], wI (cy 1) h9a 280 (fcb), wI (cy 1) h9b 31 (fsb2_60), wO h11 3 [.ref h11a, .ref h11b, .int (nI nt), .int tt], wI (cy 1) h11a 280 (fct), wI (cy 1) h11b 31 (fst2_61), wO h10 3 [.ref h10a, .ref h10b, .int (nI nl), .int tl], wI (cy 1) h10a 280 (fcl), wI (cy 1) h10b 31 (fsl2_62), wI (cy 1) h1 4 (fc), wO s0 7 [.ref s1, .ref s2, .int (nI sl), .int spl, .int svo, .int swi, .int sch], wI (cy 1) s2 4 (fsn)] hP9 hD9 hS9 (fun hP hD hS => ?_)
          clear hP9 hD9 hS9
          refine W.widen (k := 0) (n := 0) (Nat.le_of_ble_eq_true rfl) (Nat.le_of_ble_eq_true rfl) ?_
          replace hw55 : (k_56 ≤ sl) := hw55
          have f_63 := hw55
          refine lv_iinc (v := 4) (lv' := [(3, .int 4), (0, .ref p0), (1, .ref h0), (2, .ref s0)]) hx hb dX6_fewest_38 hl (k := 0) rfl (by decide) (by decide) rfl (fun ls hl => ?_)
          refine lv_goto (tgt := 12) hx hb dX6_fewest_41 (by decide) ?_
          exact ih5  4 fx1_5 l0_5 i0_5 fx4_5 l1_5 i1_5 fx7_5 l2_5 i2_5 tu_57 sl k_56 fsb2_60 fst2_61 fsl2_62 fa16_5 fa17_5 fa18_5 fg2_58 fa20_5 fa21_5 fa22_5 ff2_59 (by omega) (by omega) (by omega) (by omega) (by omega) (by omega) (by omega) (by omega) (by omega) (by omega) _ _ (hP.sub [0, 1, 2, 3, 4, 21, 33, 22, 23, 5, 24, 25, 26, 27, 28, 29, 30, 31, 32, 34, 6, 35, 7, 8, 9, 10, 11, 12, 13, 14, 15, 16, 17, 18, 19, 20] rfl) (hD.sub [0, 1, 2, 3, 4, 21, 33, 22, 23, 5, 24, 25, 26, 27, 28, 29, 30, 31, 32, 34, 6, 35, 7, 8, 9, 10, 11, 12, 13, 14, 15, 16, 17, 18, 19, 20] (by decide +kernel) rfl) hS ls (lv_sub hl [0, 1, 2, 3] rfl)
  exact loop5 _ 0 (et 0) ((el 0)) ((ei 0)) (et 1) ((el 1)) ((ei 1)) (et 2) ((el 2)) ((ei 2)) (et 3) ((el 3)) ((ei 3)) fsb fst fsl (gc 0) (gc 1) (gc 2) (gc 3) (xc 0) (xc 1) (xc 2) (xc 3) (by omega) (by omega) (by omega) (by omega) (by omega) (by omega) (by omega) (by omega) (by omega) (Nat.le_refl _) _ _ (hP.sub [0, 1, 2, 3, 4, 5, 6, 7, 8, 9, 10, 11, 12, 13, 14, 15, 16, 17, 18, 19, 20, 21, 22, 23, 24, 25, 26, 27, 28, 29, 30, 31, 32, 33, 34, 35] rfl) (hD.sub [0, 1, 2, 3, 4, 5, 6, 7, 8, 9, 10, 11, 12, 13, 14, 15, 16, 17, 18, 19, 20, 21, 22, 23, 24, 25, 26, 27, 28, 29, 30, 31, 32, 33, 34, 35] (by decide +kernel) rfl) hS ls (lv_sub hl [0, 1, 2, 3] rfl)
