def mL16 : List (Option Cond) := [some (Cond.selects RX6 yX6_orderCliffs yX6_orderCliffs), some (Cond.selects RX6 yX6_findQuiet yX6_findQuiet), some (Cond.selects RX6 yX6_choosePlaces yX6_choosePlaces), some (Cond.selects RX6 yX6_canBeYes yX6_canBeYes), some (Cond.selects RX6 yX6_canBeYesBy yX6_canBeYesBy), some (Cond.selects RX6 yX6_choices yX6_choices), some (Cond.selects RX6 yX6_led yX6_led), some (Cond.selects RX6 yX6_chooseWords yX6_chooseWords), some (Cond.selects RX6 yX6_isYesNow yX6_isYesNow), some (Cond.initialized RX6), some (Cond.fieldLink RX6 110 "CliffJudges$Hills" "next" "[I"), some (Cond.fieldLink RX6 104 "CliffJudges$Hills" "yesStates" "I"), some (Cond.fieldLink RX6 84 "CliffJudges$Ear" "gone" "[I"), some (Cond.fieldLink RX6 9 "CliffJudges$Rhymes" "found" "[I"), some (Cond.fieldLink RX6 30 "CliffJudges$Rhymes" "ears" "[LCliffJudges$Ear;"), some (Cond.fieldLink RX6 34 "CliffJudges$Rhymes" "row" "[I"), some (Cond.fieldLink RX6 15 "CliffJudges$Rhymes" "places" "[I"), some (Cond.fieldLink RX6 21 "CliffJudges$Rhymes" "quiet" "[I"), some (Cond.fieldLink RX6 66 "CliffJudges$Rhymes" "changes" "I"), some (Cond.fieldLink RX6 107 "CliffJudges$Shout" "words" "[I"), some (Cond.fieldLink RX6 48 "CliffJudges$Shout" "length" "I"), some (Cond.methodLink RX6 54 yX2_tuneToAll), some (Cond.methodLink RX6 60 yX6_orderCliffs), some (Cond.instanceMethod yX6_orderCliffs), some (Cond.code yX6_orderCliffs cX6_orderCliffs 4 none), some (Cond.methodLink RX6 63 yX6_findQuiet), some (Cond.instanceMethod yX6_findQuiet), some (Cond.code yX6_findQuiet cX6_findQuiet 4 none), some (Cond.methodLink RX6 69 yX6_choosePlaces), some (Cond.instanceMethod yX6_choosePlaces), some (Cond.code yX6_choosePlaces cX6_choosePlaces 5 (some .boolean)), some (Cond.methodLink RX6 87 yX6_canBeYes), some (Cond.instanceMethod yX6_canBeYes), some (Cond.code yX6_canBeYes cX6_canBeYes 3 (some .boolean)), some (Cond.methodLink RX6 90 yX6_canBeYesBy), some (Cond.instanceMethod yX6_canBeYesBy), some (Cond.code yX6_canBeYesBy cX6_canBeYesBy 11 (some .boolean)), some (Cond.methodLink RX6 94 yX2_placeOf), some (Cond.methodLink RX6 98 yX6_choices), some (Cond.instanceMethod yX6_choices), some (Cond.code yX6_choices cX6_choices 5 (some .int)), some (Cond.methodLink RX6 101 yX6_led), some (Cond.instanceMethod yX6_led), some (Cond.code yX6_led cX6_led 6 (some .int)), some (Cond.methodLink RX6 73 yX6_chooseWords), some (Cond.instanceMethod yX6_chooseWords), some (Cond.code yX6_chooseWords cX6_chooseWords 5 (some .boolean)), some (Cond.methodLink RX6 113 yX6_isYesNow), some (Cond.instanceMethod yX6_isYesNow), some (Cond.code yX6_isYesNow cX6_isYesNow 3 (some .boolean)), some (Cond.methodLink RX6 117 yX2_send), some (Cond.methodLink RX6 121 yX4_isYes)]
set_option maxRecDepth 100000 in
theorem mP16 : pick [47, 1, 1, 1, 1, 1, 1, 1, 1, 89, 214, 12, 143, 71, 2, 1, 1, 2, 3, 29, 8, 609, 1, 2, 1, 2, 2, 1, 1, 2, 1, 1, 2, 1, 1, 2, 1, 1, 1, 2, 1, 1, 2, 1, 1, 2, 1, 1, 2, 1, 1, 1] lw_tbl = mL16 := rfl
set_option maxRecDepth 100000 in
theorem mG16 : mL16.all (fun o => o.all goodWord) = true := rfl
theorem m_47 : (Cond.selects RX6 yX6_orderCliffs yX6_orderCliffs) ∈ gT := gp mP16 mG16 0 rfl
theorem m_48 : (Cond.selects RX6 yX6_findQuiet yX6_findQuiet) ∈ gT := gp mP16 mG16 1 rfl
theorem m_49 : (Cond.selects RX6 yX6_choosePlaces yX6_choosePlaces) ∈ gT := gp mP16 mG16 2 rfl
theorem m_50 : (Cond.selects RX6 yX6_canBeYes yX6_canBeYes) ∈ gT := gp mP16 mG16 3 rfl
theorem m_51 : (Cond.selects RX6 yX6_canBeYesBy yX6_canBeYesBy) ∈ gT := gp mP16 mG16 4 rfl
theorem m_52 : (Cond.selects RX6 yX6_choices yX6_choices) ∈ gT := gp mP16 mG16 5 rfl
theorem m_53 : (Cond.selects RX6 yX6_led yX6_led) ∈ gT := gp mP16 mG16 6 rfl
theorem m_54 : (Cond.selects RX6 yX6_chooseWords yX6_chooseWords) ∈ gT := gp mP16 mG16 7 rfl
theorem m_55 : (Cond.selects RX6 yX6_isYesNow yX6_isYesNow) ∈ gT := gp mP16 mG16 8 rfl
theorem m_144 : (Cond.initialized RX6) ∈ gT := gp mP16 mG16 9 rfl
theorem m_358 : (Cond.fieldLink RX6 110 "CliffJudges$Hills" "next" "[I") ∈ gT := gp mP16 mG16 10 rfl
theorem m_370 : (Cond.fieldLink RX6 104 "CliffJudges$Hills" "yesStates" "I") ∈ gT := gp mP16 mG16 11 rfl
theorem m_513 : (Cond.fieldLink RX6 84 "CliffJudges$Ear" "gone" "[I") ∈ gT := gp mP16 mG16 12 rfl
theorem m_584 : (Cond.fieldLink RX6 9 "CliffJudges$Rhymes" "found" "[I") ∈ gT := gp mP16 mG16 13 rfl
theorem m_586 : (Cond.fieldLink RX6 30 "CliffJudges$Rhymes" "ears" "[LCliffJudges$Ear;") ∈ gT := gp mP16 mG16 14 rfl
theorem m_587 : (Cond.fieldLink RX6 34 "CliffJudges$Rhymes" "row" "[I") ∈ gT := gp mP16 mG16 15 rfl
theorem m_588 : (Cond.fieldLink RX6 15 "CliffJudges$Rhymes" "places" "[I") ∈ gT := gp mP16 mG16 16 rfl
theorem m_590 : (Cond.fieldLink RX6 21 "CliffJudges$Rhymes" "quiet" "[I") ∈ gT := gp mP16 mG16 17 rfl
theorem m_593 : (Cond.fieldLink RX6 66 "CliffJudges$Rhymes" "changes" "I") ∈ gT := gp mP16 mG16 18 rfl
theorem m_622 : (Cond.fieldLink RX6 107 "CliffJudges$Shout" "words" "[I") ∈ gT := gp mP16 mG16 19 rfl
theorem m_630 : (Cond.fieldLink RX6 48 "CliffJudges$Shout" "length" "I") ∈ gT := gp mP16 mG16 20 rfl
theorem m_1239 : (Cond.methodLink RX6 54 yX2_tuneToAll) ∈ gT := gp mP16 mG16 21 rfl
theorem m_1240 : (Cond.methodLink RX6 60 yX6_orderCliffs) ∈ gT := gp mP16 mG16 22 rfl
theorem m_1242 : (Cond.instanceMethod yX6_orderCliffs) ∈ gT := gp mP16 mG16 23 rfl
theorem m_1243 : (Cond.code yX6_orderCliffs cX6_orderCliffs 4 none) ∈ gT := gp mP16 mG16 24 rfl
theorem m_1245 : (Cond.methodLink RX6 63 yX6_findQuiet) ∈ gT := gp mP16 mG16 25 rfl
theorem m_1247 : (Cond.instanceMethod yX6_findQuiet) ∈ gT := gp mP16 mG16 26 rfl
theorem m_1248 : (Cond.code yX6_findQuiet cX6_findQuiet 4 none) ∈ gT := gp mP16 mG16 27 rfl
theorem m_1249 : (Cond.methodLink RX6 69 yX6_choosePlaces) ∈ gT := gp mP16 mG16 28 rfl
theorem m_1251 : (Cond.instanceMethod yX6_choosePlaces) ∈ gT := gp mP16 mG16 29 rfl
theorem m_1252 : (Cond.code yX6_choosePlaces cX6_choosePlaces 5 (some .boolean)) ∈ gT := gp mP16 mG16 30 rfl
theorem m_1253 : (Cond.methodLink RX6 87 yX6_canBeYes) ∈ gT := gp mP16 mG16 31 rfl
theorem m_1255 : (Cond.instanceMethod yX6_canBeYes) ∈ gT := gp mP16 mG16 32 rfl
theorem m_1256 : (Cond.code yX6_canBeYes cX6_canBeYes 3 (some .boolean)) ∈ gT := gp mP16 mG16 33 rfl
theorem m_1257 : (Cond.methodLink RX6 90 yX6_canBeYesBy) ∈ gT := gp mP16 mG16 34 rfl
theorem m_1259 : (Cond.instanceMethod yX6_canBeYesBy) ∈ gT := gp mP16 mG16 35 rfl
theorem m_1260 : (Cond.code yX6_canBeYesBy cX6_canBeYesBy 11 (some .boolean)) ∈ gT := gp mP16 mG16 36 rfl
theorem m_1261 : (Cond.methodLink RX6 94 yX2_placeOf) ∈ gT := gp mP16 mG16 37 rfl
theorem m_1262 : (Cond.methodLink RX6 98 yX6_choices) ∈ gT := gp mP16 mG16 38 rfl
theorem m_1264 : (Cond.instanceMethod yX6_choices) ∈ gT := gp mP16 mG16 39 rfl
theorem m_1265 : (Cond.code yX6_choices cX6_choices 5 (some .int)) ∈ gT := gp mP16 mG16 40 rfl
theorem m_1266 : (Cond.methodLink RX6 101 yX6_led) ∈ gT := gp mP16 mG16 41 rfl
theorem m_1268 : (Cond.instanceMethod yX6_led) ∈ gT := gp mP16 mG16 42 rfl
theorem m_1269 : (Cond.code yX6_led cX6_led 6 (some .int)) ∈ gT := gp mP16 mG16 43 rfl
theorem m_1270 : (Cond.methodLink RX6 73 yX6_chooseWords) ∈ gT := gp mP16 mG16 44 rfl
theorem m_1272 : (Cond.instanceMethod yX6_chooseWords) ∈ gT := gp mP16 mG16 45 rfl
theorem m_1273 : (Cond.code yX6_chooseWords cX6_chooseWords 5 (some .boolean)) ∈ gT := gp mP16 mG16 46 rfl
theorem m_1274 : (Cond.methodLink RX6 113 yX6_isYesNow) ∈ gT := gp mP16 mG16 47 rfl
theorem m_1276 : (Cond.instanceMethod yX6_isYesNow) ∈ gT := gp mP16 mG16 48 rfl
theorem m_1277 : (Cond.code yX6_isYesNow cX6_isYesNow 3 (some .boolean)) ∈ gT := gp mP16 mG16 49 rfl
theorem m_1278 : (Cond.methodLink RX6 117 yX2_send) ∈ gT := gp mP16 mG16 50 rfl
theorem m_1279 : (Cond.methodLink RX6 121 yX4_isYes) ∈ gT := gp mP16 mG16 51 rfl
theorem get4e {a b c d x n : Nat} (hn : n ≤ 4) (h0 : 0 < n → a = x) (h1 : 1 < n → b = x) (h2 : 2 < n → c = x) (h3 : 3 < n → d = x) : ∀ i9, i9 < n → [a, b, c, d].getD i9 0 = x := by
  intro k hk
  rcases (show k = 0 ∨ k = 1 ∨ k = 2 ∨ k = 3 by omega) with rfl | rfl | rfl | rfl
  · exact h0 hk
  · exact h1 hk
  · exact h2 hk
  · exact h3 hk
theorem gdX6_findQuiet_0 : decode cX6_findQuiet 0 = .ok (.iconst 0, 1) ∧ decode cX6_findQuiet 1 = .ok (.istore_n 1, 1) ∧ decode cX6_findQuiet 2 = .ok (.iload_n 1, 1) ∧ decode cX6_findQuiet 3 = .ok (.aload_n 0, 1) ∧ decode cX6_findQuiet 4 = .ok (.getfield 39, 3) ∧ decode cX6_findQuiet 7 = .ok (.getfield 48, 3) ∧ decode cX6_findQuiet 10 = .ok (.if_icmp .ge 65, 3) ∧ decode cX6_findQuiet 75 = .ok (.return_, 1) ∧ decode cX6_findQuiet 13 = .ok (.sipush 255, 3) ∧ decode cX6_findQuiet 16 = .ok (.istore_n 2, 1) ∧ decode cX6_findQuiet 17 = .ok (.iconst 0, 1) ∧ decode cX6_findQuiet 18 = .ok (.istore_n 3, 1) := by decide +kernel
theorem dX6_findQuiet_0 : decode cX6_findQuiet 0 = .ok (.iconst 0, 1) := gdX6_findQuiet_0.1
theorem dX6_findQuiet_1 : decode cX6_findQuiet 1 = .ok (.istore_n 1, 1) := gdX6_findQuiet_0.2.1
theorem dX6_findQuiet_2 : decode cX6_findQuiet 2 = .ok (.iload_n 1, 1) := gdX6_findQuiet_0.2.2.1
theorem dX6_findQuiet_3 : decode cX6_findQuiet 3 = .ok (.aload_n 0, 1) := gdX6_findQuiet_0.2.2.2.1
theorem dX6_findQuiet_4 : decode cX6_findQuiet 4 = .ok (.getfield 39, 3) := gdX6_findQuiet_0.2.2.2.2.1
theorem dX6_findQuiet_7 : decode cX6_findQuiet 7 = .ok (.getfield 48, 3) := gdX6_findQuiet_0.2.2.2.2.2.1
theorem dX6_findQuiet_10 : decode cX6_findQuiet 10 = .ok (.if_icmp .ge 65, 3) := gdX6_findQuiet_0.2.2.2.2.2.2.1
theorem dX6_findQuiet_75 : decode cX6_findQuiet 75 = .ok (.return_, 1) := gdX6_findQuiet_0.2.2.2.2.2.2.2.1
theorem dX6_findQuiet_13 : decode cX6_findQuiet 13 = .ok (.sipush 255, 3) := gdX6_findQuiet_0.2.2.2.2.2.2.2.2.1
theorem dX6_findQuiet_16 : decode cX6_findQuiet 16 = .ok (.istore_n 2, 1) := gdX6_findQuiet_0.2.2.2.2.2.2.2.2.2.1
theorem dX6_findQuiet_17 : decode cX6_findQuiet 17 = .ok (.iconst 0, 1) := gdX6_findQuiet_0.2.2.2.2.2.2.2.2.2.2.1
theorem dX6_findQuiet_18 : decode cX6_findQuiet 18 = .ok (.istore_n 3, 1) := gdX6_findQuiet_0.2.2.2.2.2.2.2.2.2.2.2
theorem gdX6_findQuiet_19 : decode cX6_findQuiet 19 = .ok (.iload_n 3, 1) ∧ decode cX6_findQuiet 20 = .ok (.aload_n 0, 1) ∧ decode cX6_findQuiet 21 = .ok (.getfield 35, 3) ∧ decode cX6_findQuiet 24 = .ok (.getfield 43, 3) ∧ decode cX6_findQuiet 27 = .ok (.iconst 1, 1) ∧ decode cX6_findQuiet 28 = .ok (.iaload, 1) ∧ decode cX6_findQuiet 29 = .ok (.if_icmp .ge 40, 3) ∧ decode cX6_findQuiet 69 = .ok (.iinc 1 1, 3) ∧ decode cX6_findQuiet 72 = .ok (.goto (-70), 3) ∧ decode cX6_findQuiet 32 = .ok (.aload_n 0, 1) ∧ decode cX6_findQuiet 33 = .ok (.getfield 21, 3) ∧ decode cX6_findQuiet 36 = .ok (.iload_n 3, 1) := by decide +kernel
theorem dX6_findQuiet_19 : decode cX6_findQuiet 19 = .ok (.iload_n 3, 1) := gdX6_findQuiet_19.1
theorem dX6_findQuiet_20 : decode cX6_findQuiet 20 = .ok (.aload_n 0, 1) := gdX6_findQuiet_19.2.1
theorem dX6_findQuiet_21 : decode cX6_findQuiet 21 = .ok (.getfield 35, 3) := gdX6_findQuiet_19.2.2.1
theorem dX6_findQuiet_24 : decode cX6_findQuiet 24 = .ok (.getfield 43, 3) := gdX6_findQuiet_19.2.2.2.1
theorem dX6_findQuiet_27 : decode cX6_findQuiet 27 = .ok (.iconst 1, 1) := gdX6_findQuiet_19.2.2.2.2.1
theorem dX6_findQuiet_28 : decode cX6_findQuiet 28 = .ok (.iaload, 1) := gdX6_findQuiet_19.2.2.2.2.2.1
theorem dX6_findQuiet_29 : decode cX6_findQuiet 29 = .ok (.if_icmp .ge 40, 3) := gdX6_findQuiet_19.2.2.2.2.2.2.1
theorem dX6_findQuiet_69 : decode cX6_findQuiet 69 = .ok (.iinc 1 1, 3) := gdX6_findQuiet_19.2.2.2.2.2.2.2.1
theorem dX6_findQuiet_72 : decode cX6_findQuiet 72 = .ok (.goto (-70), 3) := gdX6_findQuiet_19.2.2.2.2.2.2.2.2.1
theorem dX6_findQuiet_32 : decode cX6_findQuiet 32 = .ok (.aload_n 0, 1) := gdX6_findQuiet_19.2.2.2.2.2.2.2.2.2.1
theorem dX6_findQuiet_33 : decode cX6_findQuiet 33 = .ok (.getfield 21, 3) := gdX6_findQuiet_19.2.2.2.2.2.2.2.2.2.2.1
theorem dX6_findQuiet_36 : decode cX6_findQuiet 36 = .ok (.iload_n 3, 1) := gdX6_findQuiet_19.2.2.2.2.2.2.2.2.2.2.2
theorem gdX6_findQuiet_37 : decode cX6_findQuiet 37 = .ok (.bipush 10, 2) ∧ decode cX6_findQuiet 39 = .ok (.imul, 1) ∧ decode cX6_findQuiet 40 = .ok (.iload_n 1, 1) ∧ decode cX6_findQuiet 41 = .ok (.iadd, 1) ∧ decode cX6_findQuiet 42 = .ok (.iload_n 2, 1) ∧ decode cX6_findQuiet 43 = .ok (.iastore, 1) ∧ decode cX6_findQuiet 44 = .ok (.iload_n 2, 1) ∧ decode cX6_findQuiet 45 = .ok (.aload_n 0, 1) ∧ decode cX6_findQuiet 46 = .ok (.getfield 30, 3) ∧ decode cX6_findQuiet 49 = .ok (.aload_n 0, 1) ∧ decode cX6_findQuiet 50 = .ok (.getfield 18, 3) ∧ decode cX6_findQuiet 53 = .ok (.iload_n 3, 1) := by decide +kernel
theorem dX6_findQuiet_37 : decode cX6_findQuiet 37 = .ok (.bipush 10, 2) := gdX6_findQuiet_37.1
theorem dX6_findQuiet_39 : decode cX6_findQuiet 39 = .ok (.imul, 1) := gdX6_findQuiet_37.2.1
theorem dX6_findQuiet_40 : decode cX6_findQuiet 40 = .ok (.iload_n 1, 1) := gdX6_findQuiet_37.2.2.1
theorem dX6_findQuiet_41 : decode cX6_findQuiet 41 = .ok (.iadd, 1) := gdX6_findQuiet_37.2.2.2.1
theorem dX6_findQuiet_42 : decode cX6_findQuiet 42 = .ok (.iload_n 2, 1) := gdX6_findQuiet_37.2.2.2.2.1
theorem dX6_findQuiet_43 : decode cX6_findQuiet 43 = .ok (.iastore, 1) := gdX6_findQuiet_37.2.2.2.2.2.1
theorem dX6_findQuiet_44 : decode cX6_findQuiet 44 = .ok (.iload_n 2, 1) := gdX6_findQuiet_37.2.2.2.2.2.2.1
theorem dX6_findQuiet_45 : decode cX6_findQuiet 45 = .ok (.aload_n 0, 1) := gdX6_findQuiet_37.2.2.2.2.2.2.2.1
theorem dX6_findQuiet_46 : decode cX6_findQuiet 46 = .ok (.getfield 30, 3) := gdX6_findQuiet_37.2.2.2.2.2.2.2.2.1
theorem dX6_findQuiet_49 : decode cX6_findQuiet 49 = .ok (.aload_n 0, 1) := gdX6_findQuiet_37.2.2.2.2.2.2.2.2.2.1
theorem dX6_findQuiet_50 : decode cX6_findQuiet 50 = .ok (.getfield 18, 3) := gdX6_findQuiet_37.2.2.2.2.2.2.2.2.2.2.1
theorem dX6_findQuiet_53 : decode cX6_findQuiet 53 = .ok (.iload_n 3, 1) := gdX6_findQuiet_37.2.2.2.2.2.2.2.2.2.2.2
theorem gdX6_findQuiet_54 : decode cX6_findQuiet 54 = .ok (.iaload, 1) ∧ decode cX6_findQuiet 55 = .ok (.aaload, 1) ∧ decode cX6_findQuiet 56 = .ok (.getfield 84, 3) ∧ decode cX6_findQuiet 59 = .ok (.iload_n 1, 1) ∧ decode cX6_findQuiet 60 = .ok (.iaload, 1) ∧ decode cX6_findQuiet 61 = .ok (.iand, 1) ∧ decode cX6_findQuiet 62 = .ok (.istore_n 2, 1) ∧ decode cX6_findQuiet 63 = .ok (.iinc 3 1, 3) ∧ decode cX6_findQuiet 66 = .ok (.goto (-47), 3) := by decide +kernel
theorem dX6_findQuiet_54 : decode cX6_findQuiet 54 = .ok (.iaload, 1) := gdX6_findQuiet_54.1
theorem dX6_findQuiet_55 : decode cX6_findQuiet 55 = .ok (.aaload, 1) := gdX6_findQuiet_54.2.1
theorem dX6_findQuiet_56 : decode cX6_findQuiet 56 = .ok (.getfield 84, 3) := gdX6_findQuiet_54.2.2.1
theorem dX6_findQuiet_59 : decode cX6_findQuiet 59 = .ok (.iload_n 1, 1) := gdX6_findQuiet_54.2.2.2.1
theorem dX6_findQuiet_60 : decode cX6_findQuiet 60 = .ok (.iaload, 1) := gdX6_findQuiet_54.2.2.2.2.1
theorem dX6_findQuiet_61 : decode cX6_findQuiet 61 = .ok (.iand, 1) := gdX6_findQuiet_54.2.2.2.2.2.1
theorem dX6_findQuiet_62 : decode cX6_findQuiet 62 = .ok (.istore_n 2, 1) := gdX6_findQuiet_54.2.2.2.2.2.2.1
theorem dX6_findQuiet_63 : decode cX6_findQuiet 63 = .ok (.iinc 3 1, 3) := gdX6_findQuiet_54.2.2.2.2.2.2.2.1
theorem dX6_findQuiet_66 : decode cX6_findQuiet 66 = .ok (.goto (-47), 3) := gdX6_findQuiet_54.2.2.2.2.2.2.2.2
set_option maxHeartbeats 1000000 in
set_option maxRecDepth 100000 in
theorem s_findQuiet (l : Launch) (D : va_G) (cy : Nat → ClassId) (p0 : Nat) (p1 : Nat) (p2 : Nat) (p3 : Nat) (p4 : Nat) (er : Nat) (ro : Nat) (ch : Nat) (fne : Nat → Int32) (fqi : Nat → Int32) (h0 : Nat) (h1 : Nat) (h2 : Nat) (h3 : Nat) (h4 : Nat) (h5 : Nat) (h6 : Nat) (h7 : Nat) (h8 : Nat) (h9 : Nat) (h10 : Nat) (h11 : Nat) (hv0 : Value) (hv1 : Value) (hv2 : Value) (hv3 : Value) (hv4 : Value) (fc : Nat → Int32) (c0 : Nat) (c1 : Nat) (c2 : Nat) (c3 : Nat) (s0 : Nat) (s1 : Nat) (s2 : Nat) (sl : Nat) (spl : Int32) (svo : Int32) (swi : Int32) (sch : Int32) (ea : Nat → Nat) (eg : Nat → Nat) (ef : Nat → Nat) (et : Nat → Int32) (el : Nat → Nat) (ei : Nat → Nat) (gc : Nat → Nat → Int32) (xc : Nat → Nat → Int32) (hne : nOK fne c1) (hcn : cntOK fc c0 c1 c2 c3) (hc0 : c0 ≤ 8) (hc1 : c1 ≤ 4) (hc2 : c2 ≤ 4) (hc3 : c3 ≤ 6) (hsl : sl ≤ 10) : XMv l D (tyL cy) E0 yX6_findQuiet cX6_findQuiet 4 none (rmk 0 0 0) [.ref p0] [wO p0 6 [.ref p1, .ref er, .ref ro, .ref p2, .ref p3, .ref p4, .ref h0, .ref s0, .int (nI ch)], wI (cy 1) p3 4 (fne), wI (cy 1) p4 40 (fqi), wO h0 4 [.ref h1, .ref h2, .ref h3, .ref h4, .ref h5, .ref h6, .ref h7, .ref h8, .ref h9, .ref h10, .ref h11, hv0, hv1, hv2, hv3, hv4], wI (cy 1) h1 4 (fc), wO s0 7 [.ref s1, .ref s2, .int (nI sl), .int spl, .int svo, .int swi, .int sch], (er, .inl (cy 4, 4, .inr (.inr (.inr (.inr (eF (ea 0) (ea 1) (ea 2) (ea 3))))))), wO (ea 0) 2 [.ref (eg 0), .ref (ef 0), .int (et 0), .int (nI (el 0)), .int (nI (ei 0))], wI (cy 1) (eg 0) 10 (gc 0), wI (cy 1) (ef 0) 7 (xc 0), wO (ea 1) 2 [.ref (eg 1), .ref (ef 1), .int (et 1), .int (nI (el 1)), .int (nI (ei 1))], wI (cy 1) (eg 1) 10 (gc 1), wI (cy 1) (ef 1) 7 (xc 1), wO (ea 2) 2 [.ref (eg 2), .ref (ef 2), .int (et 2), .int (nI (el 2)), .int (nI (ei 2))], wI (cy 1) (eg 2) 10 (gc 2), wI (cy 1) (ef 2) 7 (xc 2), wO (ea 3) 2 [.ref (eg 3), .ref (ef 3), .int (et 3), .int (nI (el 3)), .int (nI (ei 3))], wI (cy 1) (eg 3) 10 (gc 3), wI (cy 1) (ef 3) 7 (xc 3)] (fun (fqi2 : Nat → Int32) => (∀ rk9 i9 w9 : Nat, rk9 < c1 → i9 < sl → w9 < 8 → bt (fqi2 (rk9 * 10 + i9)) w9 = alF (quQ gc fne i9 w9) rk9)) (fun (fqi2 : Nat → Int32) => [wO p0 6 [.ref p1, .ref er, .ref ro, .ref p2, .ref p3, .ref p4, .ref h0, .ref s0, .int (nI ch)], wI (cy 1) p3 4 (fne), wI (cy 1) p4 40 (fqi2), wO h0 4 [.ref h1, .ref h2, .ref h3, .ref h4, .ref h5, .ref h6, .ref h7, .ref h8, .ref h9, .ref h10, .ref h11, hv0, hv1, hv2, hv3, hv4], wI (cy 1) h1 4 (fc), wO s0 7 [.ref s1, .ref s2, .int (nI sl), .int spl, .int svo, .int swi, .int sch], (er, .inl (cy 4, 4, .inr (.inr (.inr (.inr (eF (ea 0) (ea 1) (ea 2) (ea 3))))))), wO (ea 0) 2 [.ref (eg 0), .ref (ef 0), .int (et 0), .int (nI (el 0)), .int (nI (ei 0))], wI (cy 1) (eg 0) 10 (gc 0), wI (cy 1) (ef 0) 7 (xc 0), wO (ea 1) 2 [.ref (eg 1), .ref (ef 1), .int (et 1), .int (nI (el 1)), .int (nI (ei 1))], wI (cy 1) (eg 1) 10 (gc 1), wI (cy 1) (ef 1) 7 (xc 1), wO (ea 2) 2 [.ref (eg 2), .ref (ef 2), .int (et 2), .int (nI (el 2)), .int (nI (ei 2))], wI (cy 1) (eg 2) 10 (gc 2), wI (cy 1) (ef 2) 7 (xc 2), wO (ea 3) 2 [.ref (eg 3), .ref (ef 3), .int (et 3), .int (nI (el 3)), .int (nI (ei 3))], wI (cy 1) (eg 3) 10 (gc 3), wI (cy 1) (ef 3) 7 (xc 3)]) := by
  refine XMv.start (by decide) (Nat.le_of_ble_eq_true rfl) ?_
  intro p e s m below meth c args A ls Q hat hQ
  obtain ⟨hx, hb, hr, hml, hown, hg, hlocks, hin, hK, hA, hP, hD, hS, hE, hl⟩ := hat
  have hown : s.vm.findClass RX6 = some m.cls := hown
  have hl : lv_has ls 4 [(0, .ref p0)] := hl
  refine lv_iconst (v := 0) hx hb dX6_findQuiet_0 (by decide) ?_
  refine lv_istore_n (lv' := [(1, .int 0), (0, .ref p0)]) hx hb dX6_findQuiet_1 rfl hl (by decide) rfl (fun ls hl => ?_)
  have loop1 : ∀ (zn : Nat) (i1 : Nat) (fa1_1 : Nat → Int32), (i1 ≤ sl) → (∀ rk9 i9 w9 : Nat, rk9 < c1 → i9 < i1 → w9 < 8 → bt (fa1_1 (rk9 * 10 + i9)) w9 = alF (quQ gc fne i9 w9) rk9) → sl - i1 + 1 ≤ zn → ∀ (H : Heap) (locs : List Loc), va_P D vwCl [wO p0 6 [.ref p1, .ref er, .ref ro, .ref p2, .ref p3, .ref p4, .ref h0, .ref s0, .int (nI ch)], wI (cy 1) p3 4 (fne), wI (cy 1) p4 40 (fa1_1), wO h0 4 [.ref h1, .ref h2, .ref h3, .ref h4, .ref h5, .ref h6, .ref h7, .ref h8, .ref h9, .ref h10, .ref h11, hv0, hv1, hv2, hv3, hv4], wI (cy 1) h1 4 (fc), wO s0 7 [.ref s1, .ref s2, .int (nI sl), .int spl, .int svo, .int swi, .int sch], (er, .inl (cy 4, 4, .inr (.inr (.inr (.inr (eF (ea 0) (ea 1) (ea 2) (ea 3))))))), wO (ea 0) 2 [.ref (eg 0), .ref (ef 0), .int (et 0), .int (nI (el 0)), .int (nI (ei 0))], wI (cy 1) (eg 0) 10 (gc 0), wI (cy 1) (ef 0) 7 (xc 0), wO (ea 1) 2 [.ref (eg 1), .ref (ef 1), .int (et 1), .int (nI (el 1)), .int (nI (ei 1))], wI (cy 1) (eg 1) 10 (gc 1), wI (cy 1) (ef 1) 7 (xc 1), wO (ea 2) 2 [.ref (eg 2), .ref (ef 2), .int (et 2), .int (nI (el 2)), .int (nI (ei 2))], wI (cy 1) (eg 2) 10 (gc 2), wI (cy 1) (ef 2) 7 (xc 2), wO (ea 3) 2 [.ref (eg 3), .ref (ef 3), .int (et 3), .int (nI (el 3)), .int (nI (ei 3))], wI (cy 1) (eg 3) 10 (gc 3), wI (cy 1) (ef 3) 7 (xc 3)] H → va_D A [wO p0 6 [.ref p1, .ref er, .ref ro, .ref p2, .ref p3, .ref p4, .ref h0, .ref s0, .int (nI ch)], wI (cy 1) p3 4 (fne), wI (cy 1) p4 40 (fa1_1), wO h0 4 [.ref h1, .ref h2, .ref h3, .ref h4, .ref h5, .ref h6, .ref h7, .ref h8, .ref h9, .ref h10, .ref h11, hv0, hv1, hv2, hv3, hv4], wI (cy 1) h1 4 (fc), wO s0 7 [.ref s1, .ref s2, .int (nI sl), .int spl, .int svo, .int swi, .int sch], (er, .inl (cy 4, 4, .inr (.inr (.inr (.inr (eF (ea 0) (ea 1) (ea 2) (ea 3))))))), wO (ea 0) 2 [.ref (eg 0), .ref (ef 0), .int (et 0), .int (nI (el 0)), .int (nI (ei 0))], wI (cy 1) (eg 0) 10 (gc 0), wI (cy 1) (ef 0) 7 (xc 0), wO (ea 1) 2 [.ref (eg 1), .ref (ef 1), .int (et 1), .int (nI (el 1)), .int (nI (ei 1))], wI (cy 1) (eg 1) 10 (gc 1), wI (cy 1) (ef 1) 7 (xc 1), wO (ea 2) 2 [.ref (eg 2), .ref (ef 2), .int (et 2), .int (nI (el 2)), .int (nI (ei 2))], wI (cy 1) (eg 2) 10 (gc 2), wI (cy 1) (ef 2) 7 (xc 2), wO (ea 3) 2 [.ref (eg 3), .ref (ef 3), .int (et 3), .int (nI (el 3)), .int (nI (ei 3))], wI (cy 1) (eg 3) 10 (gc 3), wI (cy 1) (ef 3) 7 (xc 3)] → va_S A s.heap H locs → ∀ ls : Array Slot, lv_has ls 4 [(1, .int (nI i1)), (0, .ref p0)] → W p l e (rmk 0 0 0) s m args below meth c H locs 0 0 Q (F0 m 2 ls []) := by
    try clear hP hD hS
    intro zn
    induction zn with
    | zero => intro i1 fa1_1 _ _ hz; exact absurd hz (by omega)
    | succ zn ih1 =>
      intro i1 fa1_1 hf0_1 hf1_1 hmu1 H locs hP hD hS ls hl
      refine lv_iload_n hx hb dX6_findQuiet_2 rfl (lv_at hl 0 rfl) ?_
      refine lv_aload_n hx hb dX6_findQuiet_3 rfl (lv_at hl 1 rfl) ?_
      refine va_get (D := D) (ci := 6) (v := .ref s0) (C := RX6) (T := TX6) (N := 9) hx hb hg i_X6 hown hK hP 0 rfl rfl 7 (by decide) (hg _ m_592) (fun _ h9 => h9) rfl dX6_findQuiet_4 ?_
      refine va_get (D := D) (ci := 7) (v := .int (nI sl)) (C := RX7) (T := TX7) (N := 7) hx hb hg i_X7 hown hK hP 5 rfl rfl 2 (by decide) (hg _ m_630) (fun _ h9 => h9) rfl dX6_findQuiet_7 ?_
      refine lv_icmp_ge (tgt := 75) hx hb dX6_findQuiet_10 (by decide) (fun c_2 => ?_) (fun c_2 => ?_)
      · have q_3 : sl ≤ i1 := q_le (a := sl) (b := i1) rfl rfl (by omega) (by omega) c_2
        exact x_vret hQ hx hb hr hlocks hK hP hD hS dX6_findQuiet_75 fa1_1 ((fun rk9 i9 w9 h1 h2 h3 => hf1_1 rk9 i9 w9 h1 (by omega) h3)) [0, 1, 2, 3, 4, 5, 6, 7, 8, 9, 10, 11, 12, 13, 14, 15, 16, 17, 18] (by decide +kernel) rfl (Nat.le_of_ble_eq_true rfl) (Nat.le_of_ble_eq_true rfl)
      · have q_3 : i1 < sl := q_nle (a := sl) (b := i1) rfl rfl (by omega) (by omega) c_2
        refine lv_sipush (v := 255) hx hb dX6_findQuiet_13 (by decide) ?_
        refine lv_istore_n (lv' := [(2, .int 255), (1, .int (nI i1)), (0, .ref p0)]) hx hb dX6_findQuiet_16 rfl hl (by decide) rfl (fun ls hl => ?_)
        refine lv_iconst (v := 0) hx hb dX6_findQuiet_17 (by decide) ?_
        refine lv_istore_n (lv' := [(3, .int 0), (2, .int 255), (1, .int (nI i1)), (0, .ref p0)]) hx hb dX6_findQuiet_18 rfl hl (by decide) rfl (fun ls hl => ?_)
        have loop4 : ∀ (zn : Nat) (mk4 : Int32) (rk4 : Nat) (fa2_4 : Nat → Int32), (rk4 ≤ c1) → (∀ rk9 i9 w9 : Nat, rk9 < c1 → i9 < i1 → w9 < 8 → bt (fa2_4 (rk9 * 10 + i9)) w9 = alF (quQ gc fne i9 w9) rk9) → (∀ rk9 w9 : Nat, rk9 < rk4 → w9 < 8 → bt (fa2_4 (rk9 * 10 + i1)) w9 = alF (quQ gc fne i1 w9) rk9) → (∀ w9 : Nat, w9 < 8 → bt mk4 w9 = alF (quQ gc fne i1 w9) rk4) → c1 - rk4 + 1 ≤ zn → ∀ (H : Heap) (locs : List Loc), va_P D vwCl [wO p0 6 [.ref p1, .ref er, .ref ro, .ref p2, .ref p3, .ref p4, .ref h0, .ref s0, .int (nI ch)], wI (cy 1) p3 4 (fne), wI (cy 1) p4 40 (fa2_4), wO h0 4 [.ref h1, .ref h2, .ref h3, .ref h4, .ref h5, .ref h6, .ref h7, .ref h8, .ref h9, .ref h10, .ref h11, hv0, hv1, hv2, hv3, hv4], wI (cy 1) h1 4 (fc), wO s0 7 [.ref s1, .ref s2, .int (nI sl), .int spl, .int svo, .int swi, .int sch], (er, .inl (cy 4, 4, .inr (.inr (.inr (.inr (eF (ea 0) (ea 1) (ea 2) (ea 3))))))), wO (ea 0) 2 [.ref (eg 0), .ref (ef 0), .int (et 0), .int (nI (el 0)), .int (nI (ei 0))], wI (cy 1) (eg 0) 10 (gc 0), wI (cy 1) (ef 0) 7 (xc 0), wO (ea 1) 2 [.ref (eg 1), .ref (ef 1), .int (et 1), .int (nI (el 1)), .int (nI (ei 1))], wI (cy 1) (eg 1) 10 (gc 1), wI (cy 1) (ef 1) 7 (xc 1), wO (ea 2) 2 [.ref (eg 2), .ref (ef 2), .int (et 2), .int (nI (el 2)), .int (nI (ei 2))], wI (cy 1) (eg 2) 10 (gc 2), wI (cy 1) (ef 2) 7 (xc 2), wO (ea 3) 2 [.ref (eg 3), .ref (ef 3), .int (et 3), .int (nI (el 3)), .int (nI (ei 3))], wI (cy 1) (eg 3) 10 (gc 3), wI (cy 1) (ef 3) 7 (xc 3)] H → va_D A [wO p0 6 [.ref p1, .ref er, .ref ro, .ref p2, .ref p3, .ref p4, .ref h0, .ref s0, .int (nI ch)], wI (cy 1) p3 4 (fne), wI (cy 1) p4 40 (fa2_4), wO h0 4 [.ref h1, .ref h2, .ref h3, .ref h4, .ref h5, .ref h6, .ref h7, .ref h8, .ref h9, .ref h10, .ref h11, hv0, hv1, hv2, hv3, hv4], wI (cy 1) h1 4 (fc), wO s0 7 [.ref s1, .ref s2, .int (nI sl), .int spl, .int svo, .int swi, .int sch], (er, .inl (cy 4, 4, .inr (.inr (.inr (.inr (eF (ea 0) (ea 1) (ea 2) (ea 3))))))), wO (ea 0) 2 [.ref (eg 0), .ref (ef 0), .int (et 0), .int (nI (el 0)), .int (nI (ei 0))], wI (cy 1) (eg 0) 10 (gc 0), wI (cy 1) (ef 0) 7 (xc 0), wO (ea 1) 2 [.ref (eg 1), .ref (ef 1), .int (et 1), .int (nI (el 1)), .int (nI (ei 1))], wI (cy 1) (eg 1) 10 (gc 1), wI (cy 1) (ef 1) 7 (xc 1), wO (ea 2) 2 [.ref (eg 2), .ref (ef 2), .int (et 2), .int (nI (el 2)), .int (nI (ei 2))], wI (cy 1) (eg 2) 10 (gc 2), wI (cy 1) (ef 2) 7 (xc 2), wO (ea 3) 2 [.ref (eg 3), .ref (ef 3), .int (et 3), .int (nI (el 3)), .int (nI (ei 3))], wI (cy 1) (eg 3) 10 (gc 3), wI (cy 1) (ef 3) 7 (xc 3)] → va_S A s.heap H locs → ∀ ls : Array Slot, lv_has ls 4 [(3, .int (nI rk4)), (2, .int mk4), (1, .int (nI i1)), (0, .ref p0)] → W p l e (rmk 0 0 0) s m args below meth c H locs 0 0 Q (F0 m 19 ls []) := by
          try clear hP hD hS
          intro zn
          induction zn with
          | zero => intro mk4 rk4 fa2_4 _ _ _ _ hz; exact absurd hz (by omega)
          | succ zn ih4 =>
            intro mk4 rk4 fa2_4 hf0_4 hf1_4 hf2_4 hf3_4 hmu4 H locs hP hD hS ls hl
            refine lv_iload_n hx hb dX6_findQuiet_19 rfl (lv_at hl 0 rfl) ?_
            refine lv_aload_n hx hb dX6_findQuiet_20 rfl (lv_at hl 3 rfl) ?_
            refine va_get (D := D) (ci := 6) (v := .ref h0) (C := RX6) (T := TX6) (N := 9) hx hb hg i_X6 hown hK hP 0 rfl rfl 6 (by decide) (hg _ m_591) (fun _ h9 => h9) rfl dX6_findQuiet_21 ?_
            refine va_get (D := D) (ci := 4) (v := .ref h1) (C := RX4) (T := TX4) (N := 16) hx hb hg i_X4 hown hK hP 3 rfl rfl 0 (by decide) (hg _ m_330) (fun _ h9 => h9) rfl dX6_findQuiet_24 ?_
            refine lv_iconst (v := 1) hx hb dX6_findQuiet_27 (by decide) ?_
            refine va_iald hx hb hK hP 4 1 rfl rfl (by unfold vp_in; decide) dX6_findQuiet_28 ?_
            refine lv_topi (fun y_5 hy_5 => ?_)
            obtain rfl : y_5 = nI c1 := hy_5.trans hcn.2.1
            refine lv_icmp_ge (tgt := 69) hx hb dX6_findQuiet_29 (by decide) (fun c_6 => ?_) (fun c_6 => ?_)
            · have q_7 : c1 ≤ rk4 := q_le (a := c1) (b := rk4) rfl rfl (by omega) (by omega) c_6
              refine lv_iinc (v := nI (i1 + 1)) (lv' := [(1, .int (nI (i1 + 1))), (3, .int (nI rk4)), (2, .int mk4), (0, .ref p0)]) hx hb dX6_findQuiet_69 hl (k := 2) rfl (nI_add i1 1) (by decide) rfl (fun ls hl => ?_)
              refine lv_goto (tgt := 2) hx hb dX6_findQuiet_72 (by decide) ?_
              exact ih1  ((i1 + 1)) fa2_4 (by omega) (qu_N hf1_4 hf2_4 (by omega)) (by omega) _ _ (hP.sub [0, 1, 2, 3, 4, 5, 6, 7, 8, 9, 10, 11, 12, 13, 14, 15, 16, 17, 18] rfl) (hD.sub [0, 1, 2, 3, 4, 5, 6, 7, 8, 9, 10, 11, 12, 13, 14, 15, 16, 17, 18] (by decide +kernel) rfl) hS ls (lv_sub hl [0, 3] rfl)
            · have q_7 : rk4 < c1 := q_nle (a := c1) (b := rk4) rfl rfl (by omega) (by omega) c_6
              refine lv_aload_n hx hb dX6_findQuiet_32 rfl (lv_at hl 3 rfl) ?_
              refine va_get (D := D) (ci := 6) (v := .ref p4) (C := RX6) (T := TX6) (N := 9) hx hb hg i_X6 hown hK hP 0 rfl rfl 5 (by decide) (hg _ m_590) (fun _ h9 => h9) rfl dX6_findQuiet_33 ?_
              refine lv_iload_n hx hb dX6_findQuiet_36 rfl (lv_at hl 0 rfl) ?_
              refine lv_bipush (v := 10) hx hb dX6_findQuiet_37 (by decide) ?_
              refine lv_imul hx hb dX6_findQuiet_39 ?_
              refine lv_topi (fun y_8 hy_8 => ?_)
              obtain rfl : y_8 = nI (rk4 * 10) := hy_8.trans (pk_mul rk4 10)
              refine lv_iload_n hx hb dX6_findQuiet_40 rfl (lv_at hl 2 rfl) ?_
              refine lv_iadd hx hb dX6_findQuiet_41 ?_
              refine lv_topi (fun y_9 hy_9 => ?_)
              obtain rfl : y_9 = nI ((rk4 * 10) + i1) := hy_9.trans (nI_add ((rk4 * 10)) i1)
              refine lv_iload_n hx hb dX6_findQuiet_42 rfl (lv_at hl 1 rfl) ?_
              refine va_iast hx hb hK hP hD hS 2 1 rfl rfl (vp_in_nI (by omega) (by decide)) dX6_findQuiet_43 (fun H locs hP9 hD9 hS9 => ?_)
              clear hP hD hS
              obtain ⟨g_10, eg_10⟩ : ∃ y, upd fa2_4 (nI ((rk4 * 10) + i1) : Int32).toNatClampNeg mk4 = y := ⟨_, rfl⟩
              rw [eg_10] at hP9 hD9
              refine reW [wO p0 6 [.ref p1, .ref er, .ref ro, .ref p2, .ref p3, .ref p4, .ref h0, .ref s0, .int (nI ch)], wI (cy 1) p3 4 (fne), wI (cy 1) p4 40 (g_10), wO h0 4 [.ref h1, .ref h2, .ref h3, .ref h4, .ref h5, .ref h6, .ref h7, .ref h8, .ref h9, .ref h10, .ref h11, hv0, hv1, hv2, hv3, hv4], wI (cy 1) h1 4 (fc), wO s0 7 [.ref s1, .ref s2, .int (nI sl), .int spl, .int svo, .int swi, .int sch], (er, .inl (cy 4, 4, .inr (.inr (.inr (.inr (eF (ea 0) (ea 1) (ea 2) (ea 3))))))), wO (ea 0) 2 [.ref (eg 0), .ref (ef 0), .int (et 0), .int (nI (el 0)), .int (nI (ei 0))], wI (cy 1) (eg 0) 10 (gc 0), wI (cy 1) (ef 0) 7 (xc 0), wO (ea 1) 2 [.ref (eg 1), .ref (ef 1), .int (et 1), .int (nI (el 1)), .int (nI (ei 1))], wI (cy 1) (eg 1) 10 (gc 1), wI (cy 1) (ef 1) 7 (xc 1), wO (ea 2) 2 [.ref (eg 2), .ref (ef 2), .int (et 2), .int (nI (el 2)), .int (nI (ei 2))], wI (cy 1) (eg 2) 10 (gc 2), wI (cy 1) (ef 2) 7 (xc 2), wO (ea 3) 2 [.ref (eg 3), .ref (ef 3), .int (et 3), .int (nI (el 3)), .int (nI (ei 3))], wI (cy 1) (eg 3) 10 (gc 3), wI (cy 1) (ef 3) 7 (xc 3)] hP9 hD9 hS9 (fun hP hD hS => ?_)
              clear hP9 hD9 hS9
              refine lv_iload_n hx hb dX6_findQuiet_44 rfl (lv_at hl 1 rfl) ?_
              refine lv_aload_n hx hb dX6_findQuiet_45 rfl (lv_at hl 3 rfl) ?_
              refine va_get (D := D) (ci := 6) (v := .ref er) (C := RX6) (T := TX6) (N := 9) hx hb hg i_X6 hown hK hP 0 rfl rfl 1 (by decide) (hg _ m_586) (fun _ h9 => h9) rfl dX6_findQuiet_46 ?_
              refine lv_aload_n hx hb dX6_findQuiet_49 rfl (lv_at hl 3 rfl) ?_
              refine va_get (D := D) (ci := 6) (v := .ref p3) (C := RX6) (T := TX6) (N := 9) hx hb hg i_X6 hown hK hP 0 rfl rfl 4 (by decide) (hg _ m_589) (fun _ h9 => h9) rfl dX6_findQuiet_50 ?_
              refine lv_iload_n hx hb dX6_findQuiet_53 rfl (lv_at hl 0 rfl) ?_
              refine va_iald hx hb hK hP 1 1 rfl rfl (vp_in_nI (by omega) (by decide)) dX6_findQuiet_54 ?_
              obtain ⟨j_11, hj_11, ej_11⟩ := nOK_at hne (i := rk4) (by omega) (by omega)
              refine lv_topi (fun y_12 hy_12 => ?_)
              obtain rfl : y_12 = nI j_11 := hy_12.trans ej_11
              rcases (show j_11 = 0 ∨ j_11 = 1 ∨ j_11 = 2 ∨ j_11 = 3 by omega) with hsp | hsp | hsp | hsp
              · subst hsp
                refine va_aldq hx hb hK hP 6 4 rfl rfl (by unfold vp_in; decide) dX6_findQuiet_55 ?_
                refine W.eq (g2 := F0 m 56 ls [.ref (ea 0), .int mk4]) rfl ?_
                refine va_get (D := D) (ci := 2) (v := .ref (eg 0)) (C := RX2) (T := TX2) (N := 5) hx hb hg i_X2 hown hK hP 7 rfl rfl 0 (by decide) (hg _ m_513) (fun _ h9 => h9) rfl dX6_findQuiet_56 ?_
                refine lv_iload_n hx hb dX6_findQuiet_59 rfl (lv_at hl 2 rfl) ?_
                refine va_iald hx hb hK hP 8 1 rfl rfl (vp_in_nI (by omega) (by decide)) dX6_findQuiet_60 ?_
                refine lv_topi (fun x_13 ex_13 => ?_)
                refine lv_iand hx hb dX6_findQuiet_61 ?_
                refine lv_topi (fun x_14 ex_14 => ?_)
                refine lv_istore_n (lv' := [(2, .int x_14), (3, .int (nI rk4)), (1, .int (nI i1)), (0, .ref p0)]) hx hb dX6_findQuiet_62 rfl hl (by decide) rfl (fun ls hl => ?_)
                refine lv_iinc (v := nI (rk4 + 1)) (lv' := [(3, .int (nI (rk4 + 1))), (2, .int x_14), (1, .int (nI i1)), (0, .ref p0)]) hx hb dX6_findQuiet_63 hl (k := 1) rfl (nI_add rk4 1) (by decide) rfl (fun ls hl => ?_)
                refine lv_goto (tgt := 19) hx hb dX6_findQuiet_66 (by decide) ?_
                exact ih4  x_14 ((rk4 + 1)) g_10 (by omega) (qu_A hf1_4 (by omega) (by omega) eg_10) (qu_B hf2_4 hf3_4 (by omega) (by omega) eg_10) (qu_C hf3_4 (by omega) (by omega) (by decide) ej_11 ex_13 ex_14) (by omega) _ _ (hP.sub [0, 1, 2, 3, 4, 5, 6, 7, 8, 9, 10, 11, 12, 13, 14, 15, 16, 17, 18] rfl) (hD.sub [0, 1, 2, 3, 4, 5, 6, 7, 8, 9, 10, 11, 12, 13, 14, 15, 16, 17, 18] (by decide +kernel) rfl) hS ls (lv_sub hl [0, 1, 2, 3] rfl)
              · subst hsp
                refine va_aldq hx hb hK hP 6 4 rfl rfl (by unfold vp_in; decide) dX6_findQuiet_55 ?_
                refine W.eq (g2 := F0 m 56 ls [.ref (ea 1), .int mk4]) rfl ?_
                refine va_get (D := D) (ci := 2) (v := .ref (eg 1)) (C := RX2) (T := TX2) (N := 5) hx hb hg i_X2 hown hK hP 10 rfl rfl 0 (by decide) (hg _ m_513) (fun _ h9 => h9) rfl dX6_findQuiet_56 ?_
                refine lv_iload_n hx hb dX6_findQuiet_59 rfl (lv_at hl 2 rfl) ?_
                refine va_iald hx hb hK hP 11 1 rfl rfl (vp_in_nI (by omega) (by decide)) dX6_findQuiet_60 ?_
                refine lv_topi (fun x_15 ex_15 => ?_)
                refine lv_iand hx hb dX6_findQuiet_61 ?_
                refine lv_topi (fun x_16 ex_16 => ?_)
                refine lv_istore_n (lv' := [(2, .int x_16), (3, .int (nI rk4)), (1, .int (nI i1)), (0, .ref p0)]) hx hb dX6_findQuiet_62 rfl hl (by decide) rfl (fun ls hl => ?_)
                refine lv_iinc (v := nI (rk4 + 1)) (lv' := [(3, .int (nI (rk4 + 1))), (2, .int x_16), (1, .int (nI i1)), (0, .ref p0)]) hx hb dX6_findQuiet_63 hl (k := 1) rfl (nI_add rk4 1) (by decide) rfl (fun ls hl => ?_)
                refine lv_goto (tgt := 19) hx hb dX6_findQuiet_66 (by decide) ?_
                exact ih4  x_16 ((rk4 + 1)) g_10 (by omega) (qu_A hf1_4 (by omega) (by omega) eg_10) (qu_B hf2_4 hf3_4 (by omega) (by omega) eg_10) (qu_C hf3_4 (by omega) (by omega) (by decide) ej_11 ex_15 ex_16) (by omega) _ _ (hP.sub [0, 1, 2, 3, 4, 5, 6, 7, 8, 9, 10, 11, 12, 13, 14, 15, 16, 17, 18] rfl) (hD.sub [0, 1, 2, 3, 4, 5, 6, 7, 8, 9, 10, 11, 12, 13, 14, 15, 16, 17, 18] (by decide +kernel) rfl) hS ls (lv_sub hl [0, 1, 2, 3] rfl)
              · subst hsp
                refine va_aldq hx hb hK hP 6 4 rfl rfl (by unfold vp_in; decide) dX6_findQuiet_55 ?_
                refine W.eq (g2 := F0 m 56 ls [.ref (ea 2), .int mk4]) rfl ?_
                refine va_get (D := D) (ci := 2) (v := .ref (eg 2)) (C := RX2) (T := TX2) (N := 5) hx hb hg i_X2 hown hK hP 13 rfl rfl 0 (by decide) (hg _ m_513) (fun _ h9 => h9) rfl dX6_findQuiet_56 ?_
                refine lv_iload_n hx hb dX6_findQuiet_59 rfl (lv_at hl 2 rfl) ?_
                refine va_iald hx hb hK hP 14 1 rfl rfl (vp_in_nI (by omega) (by decide)) dX6_findQuiet_60 ?_
                refine lv_topi (fun x_17 ex_17 => ?_)
                refine lv_iand hx hb dX6_findQuiet_61 ?_
                refine lv_topi (fun x_18 ex_18 => ?_)
                refine lv_istore_n (lv' := [(2, .int x_18), (3, .int (nI rk4)), (1, .int (nI i1)), (0, .ref p0)]) hx hb dX6_findQuiet_62 rfl hl (by decide) rfl (fun ls hl => ?_)
                refine lv_iinc (v := nI (rk4 + 1)) (lv' := [(3, .int (nI (rk4 + 1))), (2, .int x_18), (1, .int (nI i1)), (0, .ref p0)]) hx hb dX6_findQuiet_63 hl (k := 1) rfl (nI_add rk4 1) (by decide) rfl (fun ls hl => ?_)
                refine lv_goto (tgt := 19) hx hb dX6_findQuiet_66 (by decide) ?_
                exact ih4  x_18 ((rk4 + 1)) g_10 (by omega) (qu_A hf1_4 (by omega) (by omega) eg_10) (qu_B hf2_4 hf3_4 (by omega) (by omega) eg_10) (qu_C hf3_4 (by omega) (by omega) (by decide) ej_11 ex_17 ex_18) (by omega) _ _ (hP.sub [0, 1, 2, 3, 4, 5, 6, 7, 8, 9, 10, 11, 12, 13, 14, 15, 16, 17, 18] rfl) (hD.sub [0, 1, 2, 3, 4, 5, 6, 7, 8, 9, 10, 11, 12, 13, 14, 15, 16, 17, 18] (by decide +kernel) rfl) hS ls (lv_sub hl [0, 1, 2, 3] rfl)
              · subst hsp
                refine va_aldq hx hb hK hP 6 4 rfl rfl (by unfold vp_in; decide) dX6_findQuiet_55 ?_
                refine W.eq (g2 := F0 m 56 ls [.ref (ea 3), .int mk4]) rfl ?_
                refine va_get (D := D) (ci := 2) (v := .ref (eg 3)) (C := RX2) (T := TX2) (N := 5) hx hb hg i_X2 hown hK hP 16 rfl rfl 0 (by decide) (hg _ m_513) (fun _ h9 => h9) rfl dX6_findQuiet_56 ?_
                refine lv_iload_n hx hb dX6_findQuiet_59 rfl (lv_at hl 2 rfl) ?_
                refine va_iald hx hb hK hP 17 1 rfl rfl (vp_in_nI (by omega) (by decide)) dX6_findQuiet_60 ?_
                refine lv_topi (fun x_19 ex_19 => ?_)
                refine lv_iand hx hb dX6_findQuiet_61 ?_
                refine lv_topi (fun x_20 ex_20 => ?_)
                refine lv_istore_n (lv' := [(2, .int x_20), (3, .int (nI rk4)), (1, .int (nI i1)), (0, .ref p0)]) hx hb dX6_findQuiet_62 rfl hl (by decide) rfl (fun ls hl => ?_)
                refine lv_iinc (v := nI (rk4 + 1)) (lv' := [(3, .int (nI (rk4 + 1))), (2, .int x_20), (1, .int (nI i1)), (0, .ref p0)]) hx hb dX6_findQuiet_63 hl (k := 1) rfl (nI_add rk4 1) (by decide) rfl (fun ls hl => ?_)
                refine lv_goto (tgt := 19) hx hb dX6_findQuiet_66 (by decide) ?_
                exact ih4  x_20 ((rk4 + 1)) g_10 (by omega) (qu_A hf1_4 (by omega) (by omega) eg_10) (qu_B hf2_4 hf3_4 (by omega) (by omega) eg_10) (qu_C hf3_4 (by omega) (by omega) (by decide) ej_11 ex_19 ex_20) (by omega) _ _ (hP.sub [0, 1, 2, 3, 4, 5, 6, 7, 8, 9, 10, 11, 12, 13, 14, 15, 16, 17, 18] rfl) (hD.sub [0, 1, 2, 3, 4, 5, 6, 7, 8, 9, 10, 11, 12, 13, 14, 15, 16, 17, 18] (by decide +kernel) rfl) hS ls (lv_sub hl [0, 1, 2, 3] rfl)
        exact loop4 _ 255 0 fa1_1 (by omega) (hf1_1) (fun rk9 w9 h1 => absurd h1 (Nat.not_lt_zero rk9)) (qu_0) (Nat.le_refl _) _ _ (hP.sub [0, 1, 2, 3, 4, 5, 6, 7, 8, 9, 10, 11, 12, 13, 14, 15, 16, 17, 18] rfl) (hD.sub [0, 1, 2, 3, 4, 5, 6, 7, 8, 9, 10, 11, 12, 13, 14, 15, 16, 17, 18] (by decide +kernel) rfl) hS ls (lv_sub hl [0, 1, 2, 3] rfl)
  exact loop1 _ 0 fqi (by omega) (fun rk9 i9 w9 h1 h2 => absurd h2 (Nat.not_lt_zero i9)) (Nat.le_refl _) _ _ (hP.sub [0, 1, 2, 3, 4, 5, 6, 7, 8, 9, 10, 11, 12, 13, 14, 15, 16, 17, 18] rfl) (hD.sub [0, 1, 2, 3, 4, 5, 6, 7, 8, 9, 10, 11, 12, 13, 14, 15, 16, 17, 18] (by decide +kernel) rfl) hS ls (lv_sub hl [0, 1] rfl)
theorem gdX6_choices_0 : decode cX6_choices 0 = .ok (.iconst 1, 1) ∧ decode cX6_choices 1 = .ok (.aload_n 0, 1) ∧ decode cX6_choices 2 = .ok (.getfield 39, 3) ∧ decode cX6_choices 5 = .ok (.getfield 107, 3) ∧ decode cX6_choices 8 = .ok (.iload_n 1, 1) ∧ decode cX6_choices 9 = .ok (.iaload, 1) ∧ decode cX6_choices 10 = .ok (.ishl, 1) ∧ decode cX6_choices 11 = .ok (.istore_n 3, 1) ∧ decode cX6_choices 12 = .ok (.iconst 1, 1) ∧ decode cX6_choices 13 = .ok (.aload_n 0, 1) ∧ decode cX6_choices 14 = .ok (.getfield 35, 3) ∧ decode cX6_choices 17 = .ok (.getfield 43, 3) := by decide +kernel
theorem dX6_choices_0 : decode cX6_choices 0 = .ok (.iconst 1, 1) := gdX6_choices_0.1
theorem dX6_choices_1 : decode cX6_choices 1 = .ok (.aload_n 0, 1) := gdX6_choices_0.2.1
theorem dX6_choices_2 : decode cX6_choices 2 = .ok (.getfield 39, 3) := gdX6_choices_0.2.2.1
theorem dX6_choices_5 : decode cX6_choices 5 = .ok (.getfield 107, 3) := gdX6_choices_0.2.2.2.1
theorem dX6_choices_8 : decode cX6_choices 8 = .ok (.iload_n 1, 1) := gdX6_choices_0.2.2.2.2.1
theorem dX6_choices_9 : decode cX6_choices 9 = .ok (.iaload, 1) := gdX6_choices_0.2.2.2.2.2.1
theorem dX6_choices_10 : decode cX6_choices 10 = .ok (.ishl, 1) := gdX6_choices_0.2.2.2.2.2.2.1
theorem dX6_choices_11 : decode cX6_choices 11 = .ok (.istore_n 3, 1) := gdX6_choices_0.2.2.2.2.2.2.2.1
theorem dX6_choices_12 : decode cX6_choices 12 = .ok (.iconst 1, 1) := gdX6_choices_0.2.2.2.2.2.2.2.2.1
theorem dX6_choices_13 : decode cX6_choices 13 = .ok (.aload_n 0, 1) := gdX6_choices_0.2.2.2.2.2.2.2.2.2.1
theorem dX6_choices_14 : decode cX6_choices 14 = .ok (.getfield 35, 3) := gdX6_choices_0.2.2.2.2.2.2.2.2.2.2.1
theorem dX6_choices_17 : decode cX6_choices 17 = .ok (.getfield 43, 3) := gdX6_choices_0.2.2.2.2.2.2.2.2.2.2.2
theorem gdX6_choices_20 : decode cX6_choices 20 = .ok (.iconst 0, 1) ∧ decode cX6_choices 21 = .ok (.iaload, 1) ∧ decode cX6_choices 22 = .ok (.ishl, 1) ∧ decode cX6_choices 23 = .ok (.iconst 1, 1) ∧ decode cX6_choices 24 = .ok (.isub, 1) ∧ decode cX6_choices 25 = .ok (.istore 4, 2) ∧ decode cX6_choices 27 = .ok (.iload_n 2, 1) ∧ decode cX6_choices 28 = .ok (.iload_n 1, 1) ∧ decode cX6_choices 29 = .ok (.ishr, 1) ∧ decode cX6_choices 30 = .ok (.iconst 1, 1) ∧ decode cX6_choices 31 = .ok (.iand, 1) ∧ decode cX6_choices 32 = .ok (.ifCond .ne 7, 3) := by decide +kernel
theorem dX6_choices_20 : decode cX6_choices 20 = .ok (.iconst 0, 1) := gdX6_choices_20.1
theorem dX6_choices_21 : decode cX6_choices 21 = .ok (.iaload, 1) := gdX6_choices_20.2.1
theorem dX6_choices_22 : decode cX6_choices 22 = .ok (.ishl, 1) := gdX6_choices_20.2.2.1
theorem dX6_choices_23 : decode cX6_choices 23 = .ok (.iconst 1, 1) := gdX6_choices_20.2.2.2.1
theorem dX6_choices_24 : decode cX6_choices 24 = .ok (.isub, 1) := gdX6_choices_20.2.2.2.2.1
theorem dX6_choices_25 : decode cX6_choices 25 = .ok (.istore 4, 2) := gdX6_choices_20.2.2.2.2.2.1
theorem dX6_choices_27 : decode cX6_choices 27 = .ok (.iload_n 2, 1) := gdX6_choices_20.2.2.2.2.2.2.1
theorem dX6_choices_28 : decode cX6_choices 28 = .ok (.iload_n 1, 1) := gdX6_choices_20.2.2.2.2.2.2.2.1
theorem dX6_choices_29 : decode cX6_choices 29 = .ok (.ishr, 1) := gdX6_choices_20.2.2.2.2.2.2.2.2.1
theorem dX6_choices_30 : decode cX6_choices 30 = .ok (.iconst 1, 1) := gdX6_choices_20.2.2.2.2.2.2.2.2.2.1
theorem dX6_choices_31 : decode cX6_choices 31 = .ok (.iand, 1) := gdX6_choices_20.2.2.2.2.2.2.2.2.2.2.1
theorem dX6_choices_32 : decode cX6_choices 32 = .ok (.ifCond .ne 7, 3) := gdX6_choices_20.2.2.2.2.2.2.2.2.2.2.2
theorem gdX6_choices_39 : decode cX6_choices 39 = .ok (.iload 4, 2) ∧ decode cX6_choices 41 = .ok (.iload_n 3, 1) ∧ decode cX6_choices 42 = .ok (.iconst (-1), 1) ∧ decode cX6_choices 43 = .ok (.ixor, 1) ∧ decode cX6_choices 44 = .ok (.iand, 1) ∧ decode cX6_choices 45 = .ok (.ireturn, 1) ∧ decode cX6_choices 35 = .ok (.iload_n 3, 1) ∧ decode cX6_choices 36 = .ok (.goto 9, 3) := by decide +kernel
theorem dX6_choices_39 : decode cX6_choices 39 = .ok (.iload 4, 2) := gdX6_choices_39.1
theorem dX6_choices_41 : decode cX6_choices 41 = .ok (.iload_n 3, 1) := gdX6_choices_39.2.1
theorem dX6_choices_42 : decode cX6_choices 42 = .ok (.iconst (-1), 1) := gdX6_choices_39.2.2.1
theorem dX6_choices_43 : decode cX6_choices 43 = .ok (.ixor, 1) := gdX6_choices_39.2.2.2.1
theorem dX6_choices_44 : decode cX6_choices 44 = .ok (.iand, 1) := gdX6_choices_39.2.2.2.2.1
theorem dX6_choices_45 : decode cX6_choices 45 = .ok (.ireturn, 1) := gdX6_choices_39.2.2.2.2.2.1
theorem dX6_choices_35 : decode cX6_choices 35 = .ok (.iload_n 3, 1) := gdX6_choices_39.2.2.2.2.2.2.1
theorem dX6_choices_36 : decode cX6_choices 36 = .ok (.goto 9, 3) := gdX6_choices_39.2.2.2.2.2.2.2
set_option maxHeartbeats 1000000 in
set_option maxRecDepth 100000 in
theorem s_choices (l : Launch) (D : va_G) (cy : Nat → ClassId) (p0 : Nat) (p1 : Nat) (p2 : Nat) (p3 : Nat) (p4 : Nat) (er : Nat) (ro : Nat) (ch : Nat) (h0 : Nat) (h1 : Nat) (h2 : Nat) (h3 : Nat) (h4 : Nat) (h5 : Nat) (h6 : Nat) (h7 : Nat) (h8 : Nat) (h9 : Nat) (h10 : Nat) (h11 : Nat) (hv0 : Value) (hv1 : Value) (hv2 : Value) (hv3 : Value) (hv4 : Value) (fc : Nat → Int32) (c0 : Nat) (c1 : Nat) (c2 : Nat) (c3 : Nat) (s0 : Nat) (s1 : Nat) (s2 : Nat) (sl : Nat) (spl : Int32) (svo : Int32) (swi : Int32) (sch : Int32) (fw : Nat → Int32) (ix : Nat) (cg : Int32) (hcn : cntOK fc c0 c1 c2 c3) (hc0 : c0 ≤ 8) (hc1 : c1 ≤ 4) (hc2 : c2 ≤ 4) (hc3 : c3 ≤ 6) (hsw : rng fw 10 7) (hix : ix < 10) : XMi l D (tyL cy) E0 yX6_choices cX6_choices 5 (some .int) (rmk 0 0 0) [.ref p0, .int (nI ix), .int cg] [wO p0 6 [.ref p1, .ref er, .ref ro, .ref p2, .ref p3, .ref p4, .ref h0, .ref s0, .int (nI ch)], wO h0 4 [.ref h1, .ref h2, .ref h3, .ref h4, .ref h5, .ref h6, .ref h7, .ref h8, .ref h9, .ref h10, .ref h11, hv0, hv1, hv2, hv3, hv4], wI (cy 1) h1 4 (fc), wO s0 7 [.ref s1, .ref s2, .int (nI sl), .int spl, .int svo, .int swi, .int sch], wI (cy 1) s1 10 (fw)] (fun (r : Int32) (_ : Unit) => (∀ w9 : Nat, w9 < 8 → bt r w9 = chB c0 fw cg ix w9) ∧ (∀ w9 : Nat, 8 ≤ w9 → w9 < 32 → bt r w9 = false)) (fun (_ : Unit) => [wO p0 6 [.ref p1, .ref er, .ref ro, .ref p2, .ref p3, .ref p4, .ref h0, .ref s0, .int (nI ch)], wO h0 4 [.ref h1, .ref h2, .ref h3, .ref h4, .ref h5, .ref h6, .ref h7, .ref h8, .ref h9, .ref h10, .ref h11, hv0, hv1, hv2, hv3, hv4], wI (cy 1) h1 4 (fc), wO s0 7 [.ref s1, .ref s2, .int (nI sl), .int spl, .int svo, .int swi, .int sch], wI (cy 1) s1 10 (fw)]) := by
  refine XMi.start (by decide) (Nat.le_of_ble_eq_true rfl) ?_
  intro p e s m below meth c args A ls Q hat hQ
  obtain ⟨hx, hb, hr, hml, hown, hg, hlocks, hin, hK, hA, hP, hD, hS, hE, hl⟩ := hat
  have hown : s.vm.findClass RX6 = some m.cls := hown
  have hl : lv_has ls 5 [(0, .ref p0), (1, .int (nI ix)), (2, .int cg)] := hl
  refine lv_iconst (v := 1) hx hb dX6_choices_0 (by decide) ?_
  refine lv_aload_n hx hb dX6_choices_1 rfl (lv_at hl 0 rfl) ?_
  refine va_get (D := D) (ci := 6) (v := .ref s0) (C := RX6) (T := TX6) (N := 9) hx hb hg i_X6 hown hK hP 0 rfl rfl 7 (by decide) (hg _ m_592) (fun _ h9 => h9) rfl dX6_choices_2 ?_
  refine va_get (D := D) (ci := 7) (v := .ref s1) (C := RX7) (T := TX7) (N := 7) hx hb hg i_X7 hown hK hP 3 rfl rfl 0 (by decide) (hg _ m_622) (fun _ h9 => h9) rfl dX6_choices_5 ?_
  refine lv_iload_n hx hb dX6_choices_8 rfl (lv_at hl 1 rfl) ?_
  refine va_iald hx hb hK hP 4 1 rfl rfl (vp_in_nI (by omega) (by decide)) dX6_choices_9 ?_
  obtain ⟨j_1, hj_1, ej_1⟩ := rng_at hsw (i := ix) (by omega) (by decide)
  refine lv_topi (fun y_2 hy_2 => ?_)
  obtain rfl : y_2 = nI j_1 := hy_2.trans ej_1
  refine lv_ishl hx hb dX6_choices_10 ?_
  refine lv_topi (fun x_3 ex_3 => ?_)
  refine lv_istore_n (lv' := [(3, .int x_3), (0, .ref p0), (1, .int (nI ix)), (2, .int cg)]) hx hb dX6_choices_11 rfl hl (by decide) rfl (fun ls hl => ?_)
  refine lv_iconst (v := 1) hx hb dX6_choices_12 (by decide) ?_
  refine lv_aload_n hx hb dX6_choices_13 rfl (lv_at hl 1 rfl) ?_
  refine va_get (D := D) (ci := 6) (v := .ref h0) (C := RX6) (T := TX6) (N := 9) hx hb hg i_X6 hown hK hP 0 rfl rfl 6 (by decide) (hg _ m_591) (fun _ h9 => h9) rfl dX6_choices_14 ?_
  refine va_get (D := D) (ci := 4) (v := .ref h1) (C := RX4) (T := TX4) (N := 16) hx hb hg i_X4 hown hK hP 1 rfl rfl 0 (by decide) (hg _ m_330) (fun _ h9 => h9) rfl dX6_choices_17 ?_
  refine lv_iconst (v := 0) hx hb dX6_choices_20 (by decide) ?_
  refine va_iald hx hb hK hP 2 1 rfl rfl (by unfold vp_in; decide) dX6_choices_21 ?_
  refine lv_topi (fun y_4 hy_4 => ?_)
  obtain rfl : y_4 = nI c0 := hy_4.trans hcn.1
  refine lv_ishl hx hb dX6_choices_22 ?_
  refine lv_topi (fun x_5 ex_5 => ?_)
  refine lv_iconst (v := 1) hx hb dX6_choices_23 (by decide) ?_
  refine lv_isub hx hb dX6_choices_24 ?_
  refine lv_topi (fun x_6 ex_6 => ?_)
  refine lv_istore (lv' := [(4, .int x_6), (3, .int x_3), (0, .ref p0), (1, .int (nI ix)), (2, .int cg)]) hx hb dX6_choices_25 hl (by decide) rfl (fun ls hl => ?_)
  refine lv_iload_n hx hb dX6_choices_27 rfl (lv_at hl 4 rfl) ?_
  refine lv_iload_n hx hb dX6_choices_28 rfl (lv_at hl 3 rfl) ?_
  refine lv_ishr hx hb dX6_choices_29 ?_
  refine lv_topi (fun x_7 ex_7 => ?_)
  refine lv_iconst (v := 1) hx hb dX6_choices_30 (by decide) ?_
  refine lv_iand hx hb dX6_choices_31 ?_
  refine lv_topi (fun x_8 ex_8 => ?_)
  refine lv_if_ne (tgt := 39) hx hb dX6_choices_32 (by decide) (fun c_32 => ?_) (fun c_32 => ?_)
  · refine lv_iload hx hb dX6_choices_39 (lv_at hl 0 rfl) ?_
    refine lv_iload_n hx hb dX6_choices_41 rfl (lv_at hl 1 rfl) ?_
    refine lv_iconst (v := -1) hx hb dX6_choices_42 (by decide) ?_
    refine lv_ixor hx hb dX6_choices_43 ?_
    refine lv_topi (fun x_9 ex_9 => ?_)
    refine lv_iand hx hb dX6_choices_44 ?_
    refine lv_topi (fun x_10 ex_10 => ?_)
    exact x_iret hQ hx hb hr hlocks hK hP hD hS dX6_choices_45 () (⟨ch_2 hc0 (at_cl (by omega) ej_1) (by omega) ex_3 ex_5 ex_6 ex_9 ex_10 (bs_1 (by omega) ex_7 ex_8 c_32), ch_9 hc0 ex_5 ex_6 ex_10⟩) [0, 1, 2, 3, 4] (by decide +kernel) rfl (Nat.le_of_ble_eq_true rfl) (Nat.le_of_ble_eq_true rfl)
  · refine lv_iload_n hx hb dX6_choices_35 rfl (lv_at hl 1 rfl) ?_
    refine lv_goto (tgt := 45) hx hb dX6_choices_36 (by decide) ?_
    exact x_iret hQ hx hb hr hlocks hK hP hD hS dX6_choices_45 () (⟨ch_1 (at_cl (by omega) ej_1) (by omega) ex_3 (bs_0 (by omega) ex_7 ex_8 c_32), ch_8 ex_3 (by omega)⟩) [0, 1, 2, 3, 4] (by decide +kernel) rfl (Nat.le_of_ble_eq_true rfl) (Nat.le_of_ble_eq_true rfl)
theorem gdX6_led_0 : decode cX6_led 0 = .ok (.iconst 0, 1) ∧ decode cX6_led 1 = .ok (.istore_n 3, 1) ∧ decode cX6_led 2 = .ok (.iconst 0, 1) ∧ decode cX6_led 3 = .ok (.istore 4, 2) ∧ decode cX6_led 5 = .ok (.iload 4, 2) ∧ decode cX6_led 7 = .ok (.aload_n 0, 1) ∧ decode cX6_led 8 = .ok (.getfield 35, 3) ∧ decode cX6_led 11 = .ok (.getfield 43, 3) ∧ decode cX6_led 14 = .ok (.iconst 0, 1) ∧ decode cX6_led 15 = .ok (.iaload, 1) ∧ decode cX6_led 16 = .ok (.if_icmp .ge 64, 3) ∧ decode cX6_led 80 = .ok (.iload_n 3, 1) := by decide +kernel
theorem dX6_led_0 : decode cX6_led 0 = .ok (.iconst 0, 1) := gdX6_led_0.1
theorem dX6_led_1 : decode cX6_led 1 = .ok (.istore_n 3, 1) := gdX6_led_0.2.1
theorem dX6_led_2 : decode cX6_led 2 = .ok (.iconst 0, 1) := gdX6_led_0.2.2.1
theorem dX6_led_3 : decode cX6_led 3 = .ok (.istore 4, 2) := gdX6_led_0.2.2.2.1
theorem dX6_led_5 : decode cX6_led 5 = .ok (.iload 4, 2) := gdX6_led_0.2.2.2.2.1
theorem dX6_led_7 : decode cX6_led 7 = .ok (.aload_n 0, 1) := gdX6_led_0.2.2.2.2.2.1
theorem dX6_led_8 : decode cX6_led 8 = .ok (.getfield 35, 3) := gdX6_led_0.2.2.2.2.2.2.1
theorem dX6_led_11 : decode cX6_led 11 = .ok (.getfield 43, 3) := gdX6_led_0.2.2.2.2.2.2.2.1
theorem dX6_led_14 : decode cX6_led 14 = .ok (.iconst 0, 1) := gdX6_led_0.2.2.2.2.2.2.2.2.1
theorem dX6_led_15 : decode cX6_led 15 = .ok (.iaload, 1) := gdX6_led_0.2.2.2.2.2.2.2.2.2.1
theorem dX6_led_16 : decode cX6_led 16 = .ok (.if_icmp .ge 64, 3) := gdX6_led_0.2.2.2.2.2.2.2.2.2.2.1
theorem dX6_led_80 : decode cX6_led 80 = .ok (.iload_n 3, 1) := gdX6_led_0.2.2.2.2.2.2.2.2.2.2.2
theorem gdX6_led_81 : decode cX6_led 81 = .ok (.ireturn, 1) ∧ decode cX6_led 19 = .ok (.iload_n 2, 1) ∧ decode cX6_led 20 = .ok (.iload 4, 2) ∧ decode cX6_led 22 = .ok (.ishr, 1) ∧ decode cX6_led 23 = .ok (.iconst 1, 1) ∧ decode cX6_led 24 = .ok (.iand, 1) ∧ decode cX6_led 25 = .ok (.ifCond .eq 49, 3) ∧ decode cX6_led 74 = .ok (.iinc 4 1, 3) ∧ decode cX6_led 77 = .ok (.goto (-72), 3) ∧ decode cX6_led 28 = .ok (.iconst 0, 1) ∧ decode cX6_led 29 = .ok (.istore 5, 2) ∧ decode cX6_led 31 = .ok (.iload 5, 2) := by decide +kernel
theorem dX6_led_81 : decode cX6_led 81 = .ok (.ireturn, 1) := gdX6_led_81.1
theorem dX6_led_19 : decode cX6_led 19 = .ok (.iload_n 2, 1) := gdX6_led_81.2.1
theorem dX6_led_20 : decode cX6_led 20 = .ok (.iload 4, 2) := gdX6_led_81.2.2.1
theorem dX6_led_22 : decode cX6_led 22 = .ok (.ishr, 1) := gdX6_led_81.2.2.2.1
theorem dX6_led_23 : decode cX6_led 23 = .ok (.iconst 1, 1) := gdX6_led_81.2.2.2.2.1
theorem dX6_led_24 : decode cX6_led 24 = .ok (.iand, 1) := gdX6_led_81.2.2.2.2.2.1
theorem dX6_led_25 : decode cX6_led 25 = .ok (.ifCond .eq 49, 3) := gdX6_led_81.2.2.2.2.2.2.1
theorem dX6_led_74 : decode cX6_led 74 = .ok (.iinc 4 1, 3) := gdX6_led_81.2.2.2.2.2.2.2.1
theorem dX6_led_77 : decode cX6_led 77 = .ok (.goto (-72), 3) := gdX6_led_81.2.2.2.2.2.2.2.2.1
theorem dX6_led_28 : decode cX6_led 28 = .ok (.iconst 0, 1) := gdX6_led_81.2.2.2.2.2.2.2.2.2.1
theorem dX6_led_29 : decode cX6_led 29 = .ok (.istore 5, 2) := gdX6_led_81.2.2.2.2.2.2.2.2.2.2.1
theorem dX6_led_31 : decode cX6_led 31 = .ok (.iload 5, 2) := gdX6_led_81.2.2.2.2.2.2.2.2.2.2.2
theorem gdX6_led_33 : decode cX6_led 33 = .ok (.bipush 6, 2) ∧ decode cX6_led 35 = .ok (.if_icmp .ge 39, 3) ∧ decode cX6_led 38 = .ok (.iload_n 1, 1) ∧ decode cX6_led 39 = .ok (.iload 5, 2) ∧ decode cX6_led 41 = .ok (.ishr, 1) ∧ decode cX6_led 42 = .ok (.iconst 1, 1) ∧ decode cX6_led 43 = .ok (.iand, 1) ∧ decode cX6_led 44 = .ok (.ifCond .eq 24, 3) ∧ decode cX6_led 68 = .ok (.iinc 5 1, 3) ∧ decode cX6_led 71 = .ok (.goto (-40), 3) ∧ decode cX6_led 47 = .ok (.iload_n 3, 1) ∧ decode cX6_led 48 = .ok (.iconst 1, 1) := by decide +kernel
theorem dX6_led_33 : decode cX6_led 33 = .ok (.bipush 6, 2) := gdX6_led_33.1
theorem dX6_led_35 : decode cX6_led 35 = .ok (.if_icmp .ge 39, 3) := gdX6_led_33.2.1
theorem dX6_led_38 : decode cX6_led 38 = .ok (.iload_n 1, 1) := gdX6_led_33.2.2.1
theorem dX6_led_39 : decode cX6_led 39 = .ok (.iload 5, 2) := gdX6_led_33.2.2.2.1
theorem dX6_led_41 : decode cX6_led 41 = .ok (.ishr, 1) := gdX6_led_33.2.2.2.2.1
theorem dX6_led_42 : decode cX6_led 42 = .ok (.iconst 1, 1) := gdX6_led_33.2.2.2.2.2.1
theorem dX6_led_43 : decode cX6_led 43 = .ok (.iand, 1) := gdX6_led_33.2.2.2.2.2.2.1
theorem dX6_led_44 : decode cX6_led 44 = .ok (.ifCond .eq 24, 3) := gdX6_led_33.2.2.2.2.2.2.2.1
theorem dX6_led_68 : decode cX6_led 68 = .ok (.iinc 5 1, 3) := gdX6_led_33.2.2.2.2.2.2.2.2.1
theorem dX6_led_71 : decode cX6_led 71 = .ok (.goto (-40), 3) := gdX6_led_33.2.2.2.2.2.2.2.2.2.1
theorem dX6_led_47 : decode cX6_led 47 = .ok (.iload_n 3, 1) := gdX6_led_33.2.2.2.2.2.2.2.2.2.2.1
theorem dX6_led_48 : decode cX6_led 48 = .ok (.iconst 1, 1) := gdX6_led_33.2.2.2.2.2.2.2.2.2.2.2
theorem gdX6_led_49 : decode cX6_led 49 = .ok (.aload_n 0, 1) ∧ decode cX6_led 50 = .ok (.getfield 35, 3) ∧ decode cX6_led 53 = .ok (.getfield 110, 3) ∧ decode cX6_led 56 = .ok (.iload 5, 2) ∧ decode cX6_led 58 = .ok (.bipush 8, 2) ∧ decode cX6_led 60 = .ok (.imul, 1) ∧ decode cX6_led 61 = .ok (.iload 4, 2) ∧ decode cX6_led 63 = .ok (.iadd, 1) ∧ decode cX6_led 64 = .ok (.iaload, 1) ∧ decode cX6_led 65 = .ok (.ishl, 1) ∧ decode cX6_led 66 = .ok (.ior, 1) ∧ decode cX6_led 67 = .ok (.istore_n 3, 1) := by decide +kernel
theorem dX6_led_49 : decode cX6_led 49 = .ok (.aload_n 0, 1) := gdX6_led_49.1
theorem dX6_led_50 : decode cX6_led 50 = .ok (.getfield 35, 3) := gdX6_led_49.2.1
theorem dX6_led_53 : decode cX6_led 53 = .ok (.getfield 110, 3) := gdX6_led_49.2.2.1
theorem dX6_led_56 : decode cX6_led 56 = .ok (.iload 5, 2) := gdX6_led_49.2.2.2.1
theorem dX6_led_58 : decode cX6_led 58 = .ok (.bipush 8, 2) := gdX6_led_49.2.2.2.2.1
theorem dX6_led_60 : decode cX6_led 60 = .ok (.imul, 1) := gdX6_led_49.2.2.2.2.2.1
theorem dX6_led_61 : decode cX6_led 61 = .ok (.iload 4, 2) := gdX6_led_49.2.2.2.2.2.2.1
theorem dX6_led_63 : decode cX6_led 63 = .ok (.iadd, 1) := gdX6_led_49.2.2.2.2.2.2.2.1
theorem dX6_led_64 : decode cX6_led 64 = .ok (.iaload, 1) := gdX6_led_49.2.2.2.2.2.2.2.2.1
theorem dX6_led_65 : decode cX6_led 65 = .ok (.ishl, 1) := gdX6_led_49.2.2.2.2.2.2.2.2.2.1
theorem dX6_led_66 : decode cX6_led 66 = .ok (.ior, 1) := gdX6_led_49.2.2.2.2.2.2.2.2.2.2.1
theorem dX6_led_67 : decode cX6_led 67 = .ok (.istore_n 3, 1) := gdX6_led_49.2.2.2.2.2.2.2.2.2.2.2
set_option maxHeartbeats 1000000 in
set_option maxRecDepth 100000 in
theorem s_led (l : Launch) (D : va_G) (cy : Nat → ClassId) (p0 : Nat) (p1 : Nat) (p2 : Nat) (p3 : Nat) (p4 : Nat) (er : Nat) (ro : Nat) (ch : Nat) (s0 : Nat) (h0 : Nat) (h1 : Nat) (h2 : Nat) (h3 : Nat) (h4 : Nat) (h5 : Nat) (h6 : Nat) (h7 : Nat) (h8 : Nat) (h9 : Nat) (h10 : Nat) (h11 : Nat) (hv0 : Value) (hv1 : Value) (hv2 : Value) (hv3 : Value) (hv4 : Value) (fc : Nat → Int32) (c0 : Nat) (c1 : Nat) (c2 : Nat) (c3 : Nat) (fx : Nat → Int32) (sx : Int32) (wx : Int32) (hcn : cntOK fc c0 c1 c2 c3) (hc0 : c0 ≤ 8) (hc1 : c1 ≤ 4) (hc2 : c2 ≤ 4) (hc3 : c3 ≤ 6) (hnx : rng fx 48 5) : XMi l D (tyL cy) E0 yX6_led cX6_led 6 (some .int) (rmk 0 0 0) [.ref p0, .int sx, .int wx] [wO p0 6 [.ref p1, .ref er, .ref ro, .ref p2, .ref p3, .ref p4, .ref h0, .ref s0, .int (nI ch)], wO h0 4 [.ref h1, .ref h2, .ref h3, .ref h4, .ref h5, .ref h6, .ref h7, .ref h8, .ref h9, .ref h10, .ref h11, hv0, hv1, hv2, hv3, hv4], wI (cy 1) h1 4 (fc), wI (cy 1) h7 48 (fx)] (fun (r : Int32) (_ : Unit) => (∀ s9 : Nat, s9 < 32 → bt r s9 = orF (ldO fx sx wx s9) c0)) (fun (_ : Unit) => [wO p0 6 [.ref p1, .ref er, .ref ro, .ref p2, .ref p3, .ref p4, .ref h0, .ref s0, .int (nI ch)], wO h0 4 [.ref h1, .ref h2, .ref h3, .ref h4, .ref h5, .ref h6, .ref h7, .ref h8, .ref h9, .ref h10, .ref h11, hv0, hv1, hv2, hv3, hv4], wI (cy 1) h1 4 (fc), wI (cy 1) h7 48 (fx)]) := by
  refine XMi.start (by decide) (Nat.le_of_ble_eq_true rfl) ?_
  intro p e s m below meth c args A ls Q hat hQ
  obtain ⟨hx, hb, hr, hml, hown, hg, hlocks, hin, hK, hA, hP, hD, hS, hE, hl⟩ := hat
  have hown : s.vm.findClass RX6 = some m.cls := hown
  have hl : lv_has ls 6 [(0, .ref p0), (1, .int sx), (2, .int wx)] := hl
  refine lv_iconst (v := 0) hx hb dX6_led_0 (by decide) ?_
  refine lv_istore_n (lv' := [(3, .int 0), (0, .ref p0), (1, .int sx), (2, .int wx)]) hx hb dX6_led_1 rfl hl (by decide) rfl (fun ls hl => ?_)
  refine lv_iconst (v := 0) hx hb dX6_led_2 (by decide) ?_
  refine lv_istore (lv' := [(4, .int 0), (3, .int 0), (0, .ref p0), (1, .int sx), (2, .int wx)]) hx hb dX6_led_3 hl (by decide) rfl (fun ls hl => ?_)
  have loop1 : ∀ (zn : Nat) (th1 : Int32) (i1 : Nat), (i1 ≤ c0) → (∀ s9 : Nat, s9 < 32 → bt th1 s9 = orF (ldO fx sx wx s9) i1) → c0 - i1 + 1 ≤ zn → ∀ (H : Heap) (locs : List Loc), va_P D vwCl [wO p0 6 [.ref p1, .ref er, .ref ro, .ref p2, .ref p3, .ref p4, .ref h0, .ref s0, .int (nI ch)], wO h0 4 [.ref h1, .ref h2, .ref h3, .ref h4, .ref h5, .ref h6, .ref h7, .ref h8, .ref h9, .ref h10, .ref h11, hv0, hv1, hv2, hv3, hv4], wI (cy 1) h1 4 (fc), wI (cy 1) h7 48 (fx)] H → va_D A [wO p0 6 [.ref p1, .ref er, .ref ro, .ref p2, .ref p3, .ref p4, .ref h0, .ref s0, .int (nI ch)], wO h0 4 [.ref h1, .ref h2, .ref h3, .ref h4, .ref h5, .ref h6, .ref h7, .ref h8, .ref h9, .ref h10, .ref h11, hv0, hv1, hv2, hv3, hv4], wI (cy 1) h1 4 (fc), wI (cy 1) h7 48 (fx)] → va_S A s.heap H locs → ∀ ls : Array Slot, lv_has ls 6 [(4, .int (nI i1)), (3, .int th1), (0, .ref p0), (1, .int sx), (2, .int wx)] → W p l e (rmk 0 0 0) s m args below meth c H locs 0 0 Q (F0 m 5 ls []) := by
    try clear hP hD hS
    intro zn
    induction zn with
    | zero => intro th1 i1 _ _ hz; exact absurd hz (by omega)
    | succ zn ih1 =>
      intro th1 i1 hf0_1 hf1_1 hmu1 H locs hP hD hS ls hl
      refine lv_iload hx hb dX6_led_5 (lv_at hl 0 rfl) ?_
      refine lv_aload_n hx hb dX6_led_7 rfl (lv_at hl 2 rfl) ?_
      refine va_get (D := D) (ci := 6) (v := .ref h0) (C := RX6) (T := TX6) (N := 9) hx hb hg i_X6 hown hK hP 0 rfl rfl 6 (by decide) (hg _ m_591) (fun _ h9 => h9) rfl dX6_led_8 ?_
      refine va_get (D := D) (ci := 4) (v := .ref h1) (C := RX4) (T := TX4) (N := 16) hx hb hg i_X4 hown hK hP 1 rfl rfl 0 (by decide) (hg _ m_330) (fun _ h9 => h9) rfl dX6_led_11 ?_
      refine lv_iconst (v := 0) hx hb dX6_led_14 (by decide) ?_
      refine va_iald hx hb hK hP 2 1 rfl rfl (by unfold vp_in; decide) dX6_led_15 ?_
      refine lv_topi (fun y_2 hy_2 => ?_)
      obtain rfl : y_2 = nI c0 := hy_2.trans hcn.1
      refine lv_icmp_ge (tgt := 80) hx hb dX6_led_16 (by decide) (fun c_3 => ?_) (fun c_3 => ?_)
      · have q_4 : c0 ≤ i1 := q_le (a := c0) (b := i1) rfl rfl (by omega) (by omega) c_3
        refine lv_iload_n hx hb dX6_led_80 rfl (lv_at hl 1 rfl) ?_
        exact x_iret hQ hx hb hr hlocks hK hP hD hS dX6_led_81 () ((fun s9 h9 => by have h8 := hf1_1 s9 h9; rw [show i1 = c0 by omega] at h8; exact h8)) [0, 1, 2, 3] (by decide +kernel) rfl (Nat.le_of_ble_eq_true rfl) (Nat.le_of_ble_eq_true rfl)
      · have q_4 : i1 < c0 := q_nle (a := c0) (b := i1) rfl rfl (by omega) (by omega) c_3
        refine lv_iload_n hx hb dX6_led_19 rfl (lv_at hl 4 rfl) ?_
        refine lv_iload hx hb dX6_led_20 (lv_at hl 0 rfl) ?_
        refine lv_ishr hx hb dX6_led_22 ?_
        refine lv_topi (fun x_5 ex_5 => ?_)
        refine lv_iconst (v := 1) hx hb dX6_led_23 (by decide) ?_
        refine lv_iand hx hb dX6_led_24 ?_
        refine lv_topi (fun x_6 ex_6 => ?_)
        refine lv_if_eq (tgt := 74) hx hb dX6_led_25 (by decide) (fun c_25 => ?_) (fun c_25 => ?_)
        · refine lv_iinc (v := nI (i1 + 1)) (lv' := [(4, .int (nI (i1 + 1))), (3, .int th1), (0, .ref p0), (1, .int sx), (2, .int wx)]) hx hb dX6_led_74 hl (k := 0) rfl (nI_add i1 1) (by decide) rfl (fun ls hl => ?_)
          refine lv_goto (tgt := 5) hx hb dX6_led_77 (by decide) ?_
          exact ih1  th1 ((i1 + 1)) (by omega) (leO_n hf1_1 (bs_0 (by omega) ex_5 ex_6 c_25)) (by omega) _ _ (hP.sub [0, 1, 2, 3] rfl) (hD.sub [0, 1, 2, 3] (by decide +kernel) rfl) hS ls (lv_sub hl [0, 1, 2, 3, 4] rfl)
        · refine lv_iconst (v := 0) hx hb dX6_led_28 (by decide) ?_
          refine lv_istore (lv' := [(5, .int 0), (4, .int (nI i1)), (3, .int th1), (0, .ref p0), (1, .int sx), (2, .int wx)]) hx hb dX6_led_29 hl (by decide) rfl (fun ls hl => ?_)
          have loop7 : ∀ (zn : Nat) (th7 : Int32) (k7 : Nat), (k7 ≤ 6) → (∀ s9 : Nat, s9 < 32 → bt th7 s9 = (orF (ldO fx sx wx s9) i1 || orF (ldI fx sx s9 i1) k7)) → 6 - k7 + 1 ≤ zn → ∀ (H : Heap) (locs : List Loc), va_P D vwCl [wO p0 6 [.ref p1, .ref er, .ref ro, .ref p2, .ref p3, .ref p4, .ref h0, .ref s0, .int (nI ch)], wO h0 4 [.ref h1, .ref h2, .ref h3, .ref h4, .ref h5, .ref h6, .ref h7, .ref h8, .ref h9, .ref h10, .ref h11, hv0, hv1, hv2, hv3, hv4], wI (cy 1) h1 4 (fc), wI (cy 1) h7 48 (fx)] H → va_D A [wO p0 6 [.ref p1, .ref er, .ref ro, .ref p2, .ref p3, .ref p4, .ref h0, .ref s0, .int (nI ch)], wO h0 4 [.ref h1, .ref h2, .ref h3, .ref h4, .ref h5, .ref h6, .ref h7, .ref h8, .ref h9, .ref h10, .ref h11, hv0, hv1, hv2, hv3, hv4], wI (cy 1) h1 4 (fc), wI (cy 1) h7 48 (fx)] → va_S A s.heap H locs → ∀ ls : Array Slot, lv_has ls 6 [(5, .int (nI k7)), (4, .int (nI i1)), (3, .int th7), (0, .ref p0), (1, .int sx), (2, .int wx)] → W p l e (rmk 0 0 0) s m args below meth c H locs 0 0 Q (F0 m 31 ls []) := by
            try clear hP hD hS
            intro zn
            induction zn with
            | zero => intro th7 k7 _ _ hz; exact absurd hz (by omega)
            | succ zn ih7 =>
              intro th7 k7 hf0_7 hf1_7 hmu7 H locs hP hD hS ls hl
              refine lv_iload hx hb dX6_led_31 (lv_at hl 0 rfl) ?_
              refine lv_bipush (v := 6) hx hb dX6_led_33 (by decide) ?_
              refine lv_icmp_ge (tgt := 74) hx hb dX6_led_35 (by decide) (fun c_8 => ?_) (fun c_8 => ?_)
              · have q_9 : 6 ≤ k7 := q_le (a := 6) (b := k7) rfl rfl (by omega) (by omega) c_8
                refine lv_iinc (v := nI (i1 + 1)) (lv' := [(4, .int (nI (i1 + 1))), (5, .int (nI k7)), (3, .int th7), (0, .ref p0), (1, .int sx), (2, .int wx)]) hx hb dX6_led_74 hl (k := 1) rfl (nI_add i1 1) (by decide) rfl (fun ls hl => ?_)
                refine lv_goto (tgt := 5) hx hb dX6_led_77 (by decide) ?_
                exact ih1  th7 ((i1 + 1)) (by omega) (leO_y hf1_7 (by omega) (bs_1 (by omega) ex_5 ex_6 c_25)) (by omega) _ _ (hP.sub [0, 1, 2, 3] rfl) (hD.sub [0, 1, 2, 3] (by decide +kernel) rfl) hS ls (lv_sub hl [0, 2, 3, 4, 5] rfl)
              · have q_9 : k7 < 6 := q_nle (a := 6) (b := k7) rfl rfl (by omega) (by omega) c_8
                refine lv_iload_n hx hb dX6_led_38 rfl (lv_at hl 4 rfl) ?_
                refine lv_iload hx hb dX6_led_39 (lv_at hl 0 rfl) ?_
                refine lv_ishr hx hb dX6_led_41 ?_
                refine lv_topi (fun x_10 ex_10 => ?_)
                refine lv_iconst (v := 1) hx hb dX6_led_42 (by decide) ?_
                refine lv_iand hx hb dX6_led_43 ?_
                refine lv_topi (fun x_11 ex_11 => ?_)
                refine lv_if_eq (tgt := 68) hx hb dX6_led_44 (by decide) (fun c_44 => ?_) (fun c_44 => ?_)
                · refine lv_iinc (v := nI (k7 + 1)) (lv' := [(5, .int (nI (k7 + 1))), (4, .int (nI i1)), (3, .int th7), (0, .ref p0), (1, .int sx), (2, .int wx)]) hx hb dX6_led_68 hl (k := 0) rfl (nI_add k7 1) (by decide) rfl (fun ls hl => ?_)
                  refine lv_goto (tgt := 31) hx hb dX6_led_71 (by decide) ?_
                  exact ih7  th7 ((k7 + 1)) (by omega) (leI_n hf1_7 (bs_0 (by omega) ex_10 ex_11 c_44)) (by omega) _ _ (hP.sub [0, 1, 2, 3] rfl) (hD.sub [0, 1, 2, 3] (by decide +kernel) rfl) hS ls (lv_sub hl [0, 1, 2, 3, 4, 5] rfl)
                · refine lv_iload_n hx hb dX6_led_47 rfl (lv_at hl 2 rfl) ?_
                  refine lv_iconst (v := 1) hx hb dX6_led_48 (by decide) ?_
                  refine lv_aload_n hx hb dX6_led_49 rfl (lv_at hl 3 rfl) ?_
                  refine va_get (D := D) (ci := 6) (v := .ref h0) (C := RX6) (T := TX6) (N := 9) hx hb hg i_X6 hown hK hP 0 rfl rfl 6 (by decide) (hg _ m_591) (fun _ h9 => h9) rfl dX6_led_50 ?_
                  refine va_get (D := D) (ci := 4) (v := .ref h7) (C := RX4) (T := TX4) (N := 16) hx hb hg i_X4 hown hK hP 1 rfl rfl 6 (by decide) (hg _ m_358) (fun _ h9 => h9) rfl dX6_led_53 ?_
                  refine lv_iload hx hb dX6_led_56 (lv_at hl 0 rfl) ?_
                  refine lv_bipush (v := 8) hx hb dX6_led_58 (by decide) ?_
                  refine lv_imul hx hb dX6_led_60 ?_
                  refine lv_topi (fun y_12 hy_12 => ?_)
                  obtain rfl : y_12 = nI (k7 * 8) := hy_12.trans (pk_mul k7 8)
                  refine lv_iload hx hb dX6_led_61 (lv_at hl 1 rfl) ?_
                  refine lv_iadd hx hb dX6_led_63 ?_
                  refine lv_topi (fun y_13 hy_13 => ?_)
                  obtain rfl : y_13 = nI ((k7 * 8) + i1) := hy_13.trans (nI_add ((k7 * 8)) i1)
                  refine va_iald hx hb hK hP 3 1 rfl rfl (vp_in_nI (by omega) (by decide)) dX6_led_64 ?_
                  obtain ⟨j_14, hj_14, ej_14⟩ := rng_at hnx (i := ((k7 * 8) + i1)) (by omega) (by decide)
                  refine lv_topi (fun y_15 hy_15 => ?_)
                  obtain rfl : y_15 = nI j_14 := hy_15.trans ej_14
                  refine lv_ishl hx hb dX6_led_65 ?_
                  refine lv_topi (fun x_16 ex_16 => ?_)
                  refine lv_ior hx hb dX6_led_66 ?_
                  refine lv_topi (fun x_17 ex_17 => ?_)
                  refine lv_istore_n (lv' := [(3, .int x_17), (5, .int (nI k7)), (4, .int (nI i1)), (0, .ref p0), (1, .int sx), (2, .int wx)]) hx hb dX6_led_67 rfl hl (by decide) rfl (fun ls hl => ?_)
                  refine lv_iinc (v := nI (k7 + 1)) (lv' := [(5, .int (nI (k7 + 1))), (3, .int x_17), (4, .int (nI i1)), (0, .ref p0), (1, .int sx), (2, .int wx)]) hx hb dX6_led_68 hl (k := 1) rfl (nI_add k7 1) (by decide) rfl (fun ls hl => ?_)
                  refine lv_goto (tgt := 31) hx hb dX6_led_71 (by decide) ?_
                  exact ih7  x_17 ((k7 + 1)) (by omega) (leI_y hf1_7 (bs_1 (by omega) ex_10 ex_11 c_44) (nC9_of (by omega) (by omega) (by omega) ej_14) (by omega) ex_16 ex_17) (by omega) _ _ (hP.sub [0, 1, 2, 3] rfl) (hD.sub [0, 1, 2, 3] (by decide +kernel) rfl) hS ls (lv_sub hl [0, 2, 1, 3, 4, 5] rfl)
          exact loop7 _ th1 0 (by omega) (leI_0 hf1_1) (Nat.le_refl _) _ _ (hP.sub [0, 1, 2, 3] rfl) (hD.sub [0, 1, 2, 3] (by decide +kernel) rfl) hS ls (lv_sub hl [0, 1, 2, 3, 4, 5] rfl)
  exact loop1 _ 0 0 (by omega) (leO_0) (Nat.le_refl _) _ _ (hP.sub [0, 1, 2, 3] rfl) (hD.sub [0, 1, 2, 3] (by decide +kernel) rfl) hS ls (lv_sub hl [0, 1, 2, 3, 4] rfl)
theorem gdX6_canBeYesBy_0 : decode cX6_canBeYesBy 0 = .ok (.aload_n 0, 1) ∧ decode cX6_canBeYesBy 1 = .ok (.getfield 30, 3) ∧ decode cX6_canBeYesBy 4 = .ok (.aload_n 0, 1) ∧ decode cX6_canBeYesBy 5 = .ok (.getfield 18, 3) ∧ decode cX6_canBeYesBy 8 = .ok (.iload_n 1, 1) ∧ decode cX6_canBeYesBy 9 = .ok (.iaload, 1) ∧ decode cX6_canBeYesBy 10 = .ok (.aaload, 1) ∧ decode cX6_canBeYesBy 11 = .ok (.astore_n 3, 1) ∧ decode cX6_canBeYesBy 12 = .ok (.iconst 0, 1) ∧ decode cX6_canBeYesBy 13 = .ok (.istore 4, 2) ∧ decode cX6_canBeYesBy 15 = .ok (.iconst 1, 1) ∧ decode cX6_canBeYesBy 16 = .ok (.istore 5, 2) := by decide +kernel
theorem dX6_canBeYesBy_0 : decode cX6_canBeYesBy 0 = .ok (.aload_n 0, 1) := gdX6_canBeYesBy_0.1
theorem dX6_canBeYesBy_1 : decode cX6_canBeYesBy 1 = .ok (.getfield 30, 3) := gdX6_canBeYesBy_0.2.1
theorem dX6_canBeYesBy_4 : decode cX6_canBeYesBy 4 = .ok (.aload_n 0, 1) := gdX6_canBeYesBy_0.2.2.1
theorem dX6_canBeYesBy_5 : decode cX6_canBeYesBy 5 = .ok (.getfield 18, 3) := gdX6_canBeYesBy_0.2.2.2.1
theorem dX6_canBeYesBy_8 : decode cX6_canBeYesBy 8 = .ok (.iload_n 1, 1) := gdX6_canBeYesBy_0.2.2.2.2.1
theorem dX6_canBeYesBy_9 : decode cX6_canBeYesBy 9 = .ok (.iaload, 1) := gdX6_canBeYesBy_0.2.2.2.2.2.1
theorem dX6_canBeYesBy_10 : decode cX6_canBeYesBy 10 = .ok (.aaload, 1) := gdX6_canBeYesBy_0.2.2.2.2.2.2.1
theorem dX6_canBeYesBy_11 : decode cX6_canBeYesBy 11 = .ok (.astore_n 3, 1) := gdX6_canBeYesBy_0.2.2.2.2.2.2.2.1
theorem dX6_canBeYesBy_12 : decode cX6_canBeYesBy 12 = .ok (.iconst 0, 1) := gdX6_canBeYesBy_0.2.2.2.2.2.2.2.2.1
theorem dX6_canBeYesBy_13 : decode cX6_canBeYesBy 13 = .ok (.istore 4, 2) := gdX6_canBeYesBy_0.2.2.2.2.2.2.2.2.2.1
theorem dX6_canBeYesBy_15 : decode cX6_canBeYesBy 15 = .ok (.iconst 1, 1) := gdX6_canBeYesBy_0.2.2.2.2.2.2.2.2.2.2.1
theorem dX6_canBeYesBy_16 : decode cX6_canBeYesBy 16 = .ok (.istore 5, 2) := gdX6_canBeYesBy_0.2.2.2.2.2.2.2.2.2.2.2
theorem gdX6_canBeYesBy_18 : decode cX6_canBeYesBy 18 = .ok (.iconst 0, 1) ∧ decode cX6_canBeYesBy 19 = .ok (.istore 6, 2) ∧ decode cX6_canBeYesBy 21 = .ok (.iload 6, 2) ∧ decode cX6_canBeYesBy 23 = .ok (.aload_n 0, 1) ∧ decode cX6_canBeYesBy 24 = .ok (.getfield 39, 3) ∧ decode cX6_canBeYesBy 27 = .ok (.getfield 48, 3) ∧ decode cX6_canBeYesBy 30 = .ok (.if_icmp .ge 132, 3) ∧ decode cX6_canBeYesBy 162 = .ok (.iload 4, 2) ∧ decode cX6_canBeYesBy 164 = .ok (.aload_n 0, 1) ∧ decode cX6_canBeYesBy 165 = .ok (.getfield 35, 3) ∧ decode cX6_canBeYesBy 168 = .ok (.getfield 104, 3) ∧ decode cX6_canBeYesBy 171 = .ok (.iand, 1) := by decide +kernel
theorem dX6_canBeYesBy_18 : decode cX6_canBeYesBy 18 = .ok (.iconst 0, 1) := gdX6_canBeYesBy_18.1
theorem dX6_canBeYesBy_19 : decode cX6_canBeYesBy 19 = .ok (.istore 6, 2) := gdX6_canBeYesBy_18.2.1
theorem dX6_canBeYesBy_21 : decode cX6_canBeYesBy 21 = .ok (.iload 6, 2) := gdX6_canBeYesBy_18.2.2.1
theorem dX6_canBeYesBy_23 : decode cX6_canBeYesBy 23 = .ok (.aload_n 0, 1) := gdX6_canBeYesBy_18.2.2.2.1
theorem dX6_canBeYesBy_24 : decode cX6_canBeYesBy 24 = .ok (.getfield 39, 3) := gdX6_canBeYesBy_18.2.2.2.2.1
theorem dX6_canBeYesBy_27 : decode cX6_canBeYesBy 27 = .ok (.getfield 48, 3) := gdX6_canBeYesBy_18.2.2.2.2.2.1
theorem dX6_canBeYesBy_30 : decode cX6_canBeYesBy 30 = .ok (.if_icmp .ge 132, 3) := gdX6_canBeYesBy_18.2.2.2.2.2.2.1
theorem dX6_canBeYesBy_162 : decode cX6_canBeYesBy 162 = .ok (.iload 4, 2) := gdX6_canBeYesBy_18.2.2.2.2.2.2.2.1
theorem dX6_canBeYesBy_164 : decode cX6_canBeYesBy 164 = .ok (.aload_n 0, 1) := gdX6_canBeYesBy_18.2.2.2.2.2.2.2.2.1
theorem dX6_canBeYesBy_165 : decode cX6_canBeYesBy 165 = .ok (.getfield 35, 3) := gdX6_canBeYesBy_18.2.2.2.2.2.2.2.2.2.1
theorem dX6_canBeYesBy_168 : decode cX6_canBeYesBy 168 = .ok (.getfield 104, 3) := gdX6_canBeYesBy_18.2.2.2.2.2.2.2.2.2.2.1
theorem dX6_canBeYesBy_171 : decode cX6_canBeYesBy 171 = .ok (.iand, 1) := gdX6_canBeYesBy_18.2.2.2.2.2.2.2.2.2.2.2
theorem gdX6_canBeYesBy_172 : decode cX6_canBeYesBy 172 = .ok (.ifCond .eq 7, 3) ∧ decode cX6_canBeYesBy 179 = .ok (.iconst 0, 1) ∧ decode cX6_canBeYesBy 180 = .ok (.ireturn, 1) ∧ decode cX6_canBeYesBy 175 = .ok (.iconst 1, 1) ∧ decode cX6_canBeYesBy 176 = .ok (.goto 4, 3) ∧ decode cX6_canBeYesBy 33 = .ok (.aload_n 3, 1) ∧ decode cX6_canBeYesBy 34 = .ok (.iload 6, 2) ∧ decode cX6_canBeYesBy 36 = .ok (.invokevirtual 94, 3) := by decide +kernel
theorem dX6_canBeYesBy_172 : decode cX6_canBeYesBy 172 = .ok (.ifCond .eq 7, 3) := gdX6_canBeYesBy_172.1
theorem dX6_canBeYesBy_179 : decode cX6_canBeYesBy 179 = .ok (.iconst 0, 1) := gdX6_canBeYesBy_172.2.1
theorem dX6_canBeYesBy_180 : decode cX6_canBeYesBy 180 = .ok (.ireturn, 1) := gdX6_canBeYesBy_172.2.2.1
theorem dX6_canBeYesBy_175 : decode cX6_canBeYesBy 175 = .ok (.iconst 1, 1) := gdX6_canBeYesBy_172.2.2.2.1
theorem dX6_canBeYesBy_176 : decode cX6_canBeYesBy 176 = .ok (.goto 4, 3) := gdX6_canBeYesBy_172.2.2.2.2.1
theorem dX6_canBeYesBy_33 : decode cX6_canBeYesBy 33 = .ok (.aload_n 3, 1) := gdX6_canBeYesBy_172.2.2.2.2.2.1
theorem dX6_canBeYesBy_34 : decode cX6_canBeYesBy 34 = .ok (.iload 6, 2) := gdX6_canBeYesBy_172.2.2.2.2.2.2.1
theorem dX6_canBeYesBy_36 : decode cX6_canBeYesBy 36 = .ok (.invokevirtual 94, 3) := gdX6_canBeYesBy_172.2.2.2.2.2.2.2
theorem k_X6_94 : xV RX6 RX2 94 yX2_placeOf cX2_placeOf 2 (some .int) 1 := ⟨⟨m_1261, m_1065, m_1066, m_142, m_1067⟩, rfl, by decide, by decide, by decide +kernel⟩
theorem gdX6_canBeYesBy_39 : decode cX6_canBeYesBy 39 = .ok (.istore 7, 2) ∧ decode cX6_canBeYesBy 41 = .ok (.aload_n 0, 1) ∧ decode cX6_canBeYesBy 42 = .ok (.iload 7, 2) ∧ decode cX6_canBeYesBy 44 = .ok (.iload_n 2, 1) ∧ decode cX6_canBeYesBy 45 = .ok (.invokevirtual 98, 3) := by decide +kernel
theorem dX6_canBeYesBy_39 : decode cX6_canBeYesBy 39 = .ok (.istore 7, 2) := gdX6_canBeYesBy_39.1
theorem dX6_canBeYesBy_41 : decode cX6_canBeYesBy 41 = .ok (.aload_n 0, 1) := gdX6_canBeYesBy_39.2.1
theorem dX6_canBeYesBy_42 : decode cX6_canBeYesBy 42 = .ok (.iload 7, 2) := gdX6_canBeYesBy_39.2.2.1
theorem dX6_canBeYesBy_44 : decode cX6_canBeYesBy 44 = .ok (.iload_n 2, 1) := gdX6_canBeYesBy_39.2.2.2.1
theorem dX6_canBeYesBy_45 : decode cX6_canBeYesBy 45 = .ok (.invokevirtual 98, 3) := gdX6_canBeYesBy_39.2.2.2.2
theorem k_X6_98 : xV RX6 RX6 98 yX6_choices cX6_choices 5 (some .int) 2 := ⟨⟨m_1262, m_1264, m_52, m_144, m_1265⟩, rfl, by decide, by decide, by decide +kernel⟩
theorem gdX6_canBeYesBy_48 : decode cX6_canBeYesBy 48 = .ok (.aload_n 0, 1) ∧ decode cX6_canBeYesBy 49 = .ok (.getfield 21, 3) ∧ decode cX6_canBeYesBy 52 = .ok (.iload_n 1, 1) ∧ decode cX6_canBeYesBy 53 = .ok (.bipush 10, 2) ∧ decode cX6_canBeYesBy 55 = .ok (.imul, 1) ∧ decode cX6_canBeYesBy 56 = .ok (.iload 7, 2) ∧ decode cX6_canBeYesBy 58 = .ok (.iadd, 1) ∧ decode cX6_canBeYesBy 59 = .ok (.iaload, 1) ∧ decode cX6_canBeYesBy 60 = .ok (.iand, 1) ∧ decode cX6_canBeYesBy 61 = .ok (.istore 8, 2) ∧ decode cX6_canBeYesBy 63 = .ok (.iload 8, 2) ∧ decode cX6_canBeYesBy 65 = .ok (.ifCond .ne 5, 3) := by decide +kernel
theorem dX6_canBeYesBy_48 : decode cX6_canBeYesBy 48 = .ok (.aload_n 0, 1) := gdX6_canBeYesBy_48.1
theorem dX6_canBeYesBy_49 : decode cX6_canBeYesBy 49 = .ok (.getfield 21, 3) := gdX6_canBeYesBy_48.2.1
theorem dX6_canBeYesBy_52 : decode cX6_canBeYesBy 52 = .ok (.iload_n 1, 1) := gdX6_canBeYesBy_48.2.2.1
theorem dX6_canBeYesBy_53 : decode cX6_canBeYesBy 53 = .ok (.bipush 10, 2) := gdX6_canBeYesBy_48.2.2.2.1
theorem dX6_canBeYesBy_55 : decode cX6_canBeYesBy 55 = .ok (.imul, 1) := gdX6_canBeYesBy_48.2.2.2.2.1
theorem dX6_canBeYesBy_56 : decode cX6_canBeYesBy 56 = .ok (.iload 7, 2) := gdX6_canBeYesBy_48.2.2.2.2.2.1
theorem dX6_canBeYesBy_58 : decode cX6_canBeYesBy 58 = .ok (.iadd, 1) := gdX6_canBeYesBy_48.2.2.2.2.2.2.1
theorem dX6_canBeYesBy_59 : decode cX6_canBeYesBy 59 = .ok (.iaload, 1) := gdX6_canBeYesBy_48.2.2.2.2.2.2.2.1
theorem dX6_canBeYesBy_60 : decode cX6_canBeYesBy 60 = .ok (.iand, 1) := gdX6_canBeYesBy_48.2.2.2.2.2.2.2.2.1
theorem dX6_canBeYesBy_61 : decode cX6_canBeYesBy 61 = .ok (.istore 8, 2) := gdX6_canBeYesBy_48.2.2.2.2.2.2.2.2.2.1
theorem dX6_canBeYesBy_63 : decode cX6_canBeYesBy 63 = .ok (.iload 8, 2) := gdX6_canBeYesBy_48.2.2.2.2.2.2.2.2.2.2.1
theorem dX6_canBeYesBy_65 : decode cX6_canBeYesBy 65 = .ok (.ifCond .ne 5, 3) := gdX6_canBeYesBy_48.2.2.2.2.2.2.2.2.2.2.2
theorem gdX6_canBeYesBy_70 : decode cX6_canBeYesBy 70 = .ok (.iload 8, 2) ∧ decode cX6_canBeYesBy 72 = .ok (.aload_n 3, 1) ∧ decode cX6_canBeYesBy 73 = .ok (.getfield 84, 3) ∧ decode cX6_canBeYesBy 76 = .ok (.iload 7, 2) ∧ decode cX6_canBeYesBy 78 = .ok (.iaload, 1) ∧ decode cX6_canBeYesBy 79 = .ok (.iand, 1) ∧ decode cX6_canBeYesBy 80 = .ok (.ifCond .eq 7, 3) ∧ decode cX6_canBeYesBy 87 = .ok (.iconst 0, 1) ∧ decode cX6_canBeYesBy 88 = .ok (.istore 9, 2) ∧ decode cX6_canBeYesBy 90 = .ok (.aload_n 0, 1) ∧ decode cX6_canBeYesBy 91 = .ok (.iload 5, 2) ∧ decode cX6_canBeYesBy 93 = .ok (.ifCond .eq 10, 3) := by decide +kernel
theorem dX6_canBeYesBy_70 : decode cX6_canBeYesBy 70 = .ok (.iload 8, 2) := gdX6_canBeYesBy_70.1
theorem dX6_canBeYesBy_72 : decode cX6_canBeYesBy 72 = .ok (.aload_n 3, 1) := gdX6_canBeYesBy_70.2.1
theorem dX6_canBeYesBy_73 : decode cX6_canBeYesBy 73 = .ok (.getfield 84, 3) := gdX6_canBeYesBy_70.2.2.1
theorem dX6_canBeYesBy_76 : decode cX6_canBeYesBy 76 = .ok (.iload 7, 2) := gdX6_canBeYesBy_70.2.2.2.1
theorem dX6_canBeYesBy_78 : decode cX6_canBeYesBy 78 = .ok (.iaload, 1) := gdX6_canBeYesBy_70.2.2.2.2.1
theorem dX6_canBeYesBy_79 : decode cX6_canBeYesBy 79 = .ok (.iand, 1) := gdX6_canBeYesBy_70.2.2.2.2.2.1
theorem dX6_canBeYesBy_80 : decode cX6_canBeYesBy 80 = .ok (.ifCond .eq 7, 3) := gdX6_canBeYesBy_70.2.2.2.2.2.2.1
theorem dX6_canBeYesBy_87 : decode cX6_canBeYesBy 87 = .ok (.iconst 0, 1) := gdX6_canBeYesBy_70.2.2.2.2.2.2.2.1
theorem dX6_canBeYesBy_88 : decode cX6_canBeYesBy 88 = .ok (.istore 9, 2) := gdX6_canBeYesBy_70.2.2.2.2.2.2.2.2.1
theorem dX6_canBeYesBy_90 : decode cX6_canBeYesBy 90 = .ok (.aload_n 0, 1) := gdX6_canBeYesBy_70.2.2.2.2.2.2.2.2.2.1
theorem dX6_canBeYesBy_91 : decode cX6_canBeYesBy 91 = .ok (.iload 5, 2) := gdX6_canBeYesBy_70.2.2.2.2.2.2.2.2.2.2.1
theorem dX6_canBeYesBy_93 : decode cX6_canBeYesBy 93 = .ok (.ifCond .eq 10, 3) := gdX6_canBeYesBy_70.2.2.2.2.2.2.2.2.2.2.2
theorem gdX6_canBeYesBy_103 : decode cX6_canBeYesBy 103 = .ok (.iload 4, 2) ∧ decode cX6_canBeYesBy 105 = .ok (.iload 8, 2) ∧ decode cX6_canBeYesBy 107 = .ok (.aload_n 3, 1) ∧ decode cX6_canBeYesBy 108 = .ok (.getfield 84, 3) ∧ decode cX6_canBeYesBy 111 = .ok (.iload 7, 2) ∧ decode cX6_canBeYesBy 113 = .ok (.iaload, 1) ∧ decode cX6_canBeYesBy 114 = .ok (.iconst (-1), 1) ∧ decode cX6_canBeYesBy 115 = .ok (.ixor, 1) ∧ decode cX6_canBeYesBy 116 = .ok (.iand, 1) ∧ decode cX6_canBeYesBy 117 = .ok (.invokevirtual 101, 3) := by decide +kernel
theorem dX6_canBeYesBy_103 : decode cX6_canBeYesBy 103 = .ok (.iload 4, 2) := gdX6_canBeYesBy_103.1
theorem dX6_canBeYesBy_105 : decode cX6_canBeYesBy 105 = .ok (.iload 8, 2) := gdX6_canBeYesBy_103.2.1
theorem dX6_canBeYesBy_107 : decode cX6_canBeYesBy 107 = .ok (.aload_n 3, 1) := gdX6_canBeYesBy_103.2.2.1
theorem dX6_canBeYesBy_108 : decode cX6_canBeYesBy 108 = .ok (.getfield 84, 3) := gdX6_canBeYesBy_103.2.2.2.1
theorem dX6_canBeYesBy_111 : decode cX6_canBeYesBy 111 = .ok (.iload 7, 2) := gdX6_canBeYesBy_103.2.2.2.2.1
theorem dX6_canBeYesBy_113 : decode cX6_canBeYesBy 113 = .ok (.iaload, 1) := gdX6_canBeYesBy_103.2.2.2.2.2.1
theorem dX6_canBeYesBy_114 : decode cX6_canBeYesBy 114 = .ok (.iconst (-1), 1) := gdX6_canBeYesBy_103.2.2.2.2.2.2.1
theorem dX6_canBeYesBy_115 : decode cX6_canBeYesBy 115 = .ok (.ixor, 1) := gdX6_canBeYesBy_103.2.2.2.2.2.2.2.1
theorem dX6_canBeYesBy_116 : decode cX6_canBeYesBy 116 = .ok (.iand, 1) := gdX6_canBeYesBy_103.2.2.2.2.2.2.2.2.1
theorem dX6_canBeYesBy_117 : decode cX6_canBeYesBy 117 = .ok (.invokevirtual 101, 3) := gdX6_canBeYesBy_103.2.2.2.2.2.2.2.2.2
theorem k_X6_101 : xV RX6 RX6 101 yX6_led cX6_led 6 (some .int) 2 := ⟨⟨m_1266, m_1268, m_53, m_144, m_1269⟩, rfl, by decide, by decide, by decide +kernel⟩
theorem gdX6_canBeYesBy_120 : decode cX6_canBeYesBy 120 = .ok (.istore 10, 2) ∧ decode cX6_canBeYesBy 122 = .ok (.iload 9, 2) ∧ decode cX6_canBeYesBy 124 = .ok (.ifCond .eq 11, 3) ∧ decode cX6_canBeYesBy 135 = .ok (.iload 10, 2) ∧ decode cX6_canBeYesBy 137 = .ok (.istore 4, 2) ∧ decode cX6_canBeYesBy 139 = .ok (.iload 5, 2) ∧ decode cX6_canBeYesBy 141 = .ok (.ifCond .eq 12, 3) ∧ decode cX6_canBeYesBy 153 = .ok (.iconst 0, 1) ∧ decode cX6_canBeYesBy 154 = .ok (.istore 5, 2) ∧ decode cX6_canBeYesBy 156 = .ok (.iinc 6 1, 3) ∧ decode cX6_canBeYesBy 159 = .ok (.goto (-138), 3) ∧ decode cX6_canBeYesBy 96 = .ok (.iload 4, 2) := by decide +kernel
theorem dX6_canBeYesBy_120 : decode cX6_canBeYesBy 120 = .ok (.istore 10, 2) := gdX6_canBeYesBy_120.1
theorem dX6_canBeYesBy_122 : decode cX6_canBeYesBy 122 = .ok (.iload 9, 2) := gdX6_canBeYesBy_120.2.1
theorem dX6_canBeYesBy_124 : decode cX6_canBeYesBy 124 = .ok (.ifCond .eq 11, 3) := gdX6_canBeYesBy_120.2.2.1
theorem dX6_canBeYesBy_135 : decode cX6_canBeYesBy 135 = .ok (.iload 10, 2) := gdX6_canBeYesBy_120.2.2.2.1
theorem dX6_canBeYesBy_137 : decode cX6_canBeYesBy 137 = .ok (.istore 4, 2) := gdX6_canBeYesBy_120.2.2.2.2.1
theorem dX6_canBeYesBy_139 : decode cX6_canBeYesBy 139 = .ok (.iload 5, 2) := gdX6_canBeYesBy_120.2.2.2.2.2.1
theorem dX6_canBeYesBy_141 : decode cX6_canBeYesBy 141 = .ok (.ifCond .eq 12, 3) := gdX6_canBeYesBy_120.2.2.2.2.2.2.1
theorem dX6_canBeYesBy_153 : decode cX6_canBeYesBy 153 = .ok (.iconst 0, 1) := gdX6_canBeYesBy_120.2.2.2.2.2.2.2.1
theorem dX6_canBeYesBy_154 : decode cX6_canBeYesBy 154 = .ok (.istore 5, 2) := gdX6_canBeYesBy_120.2.2.2.2.2.2.2.2.1
theorem dX6_canBeYesBy_156 : decode cX6_canBeYesBy 156 = .ok (.iinc 6 1, 3) := gdX6_canBeYesBy_120.2.2.2.2.2.2.2.2.2.1
theorem dX6_canBeYesBy_159 : decode cX6_canBeYesBy 159 = .ok (.goto (-138), 3) := gdX6_canBeYesBy_120.2.2.2.2.2.2.2.2.2.2.1
theorem dX6_canBeYesBy_96 : decode cX6_canBeYesBy 96 = .ok (.iload 4, 2) := gdX6_canBeYesBy_120.2.2.2.2.2.2.2.2.2.2.2
theorem gdX6_canBeYesBy_98 : decode cX6_canBeYesBy 98 = .ok (.iconst 1, 1) ∧ decode cX6_canBeYesBy 99 = .ok (.ior, 1) ∧ decode cX6_canBeYesBy 100 = .ok (.goto 5, 3) ∧ decode cX6_canBeYesBy 144 = .ok (.iload 9, 2) ∧ decode cX6_canBeYesBy 146 = .ok (.ifCond .eq 7, 3) ∧ decode cX6_canBeYesBy 83 = .ok (.iconst 1, 1) ∧ decode cX6_canBeYesBy 84 = .ok (.goto 4, 3) ∧ decode cX6_canBeYesBy 127 = .ok (.iload 4, 2) ∧ decode cX6_canBeYesBy 129 = .ok (.iload 10, 2) ∧ decode cX6_canBeYesBy 131 = .ok (.ior, 1) ∧ decode cX6_canBeYesBy 132 = .ok (.goto 5, 3) ∧ decode cX6_canBeYesBy 149 = .ok (.iconst 1, 1) := by decide +kernel
theorem dX6_canBeYesBy_98 : decode cX6_canBeYesBy 98 = .ok (.iconst 1, 1) := gdX6_canBeYesBy_98.1
theorem dX6_canBeYesBy_99 : decode cX6_canBeYesBy 99 = .ok (.ior, 1) := gdX6_canBeYesBy_98.2.1
theorem dX6_canBeYesBy_100 : decode cX6_canBeYesBy 100 = .ok (.goto 5, 3) := gdX6_canBeYesBy_98.2.2.1
theorem dX6_canBeYesBy_144 : decode cX6_canBeYesBy 144 = .ok (.iload 9, 2) := gdX6_canBeYesBy_98.2.2.2.1
theorem dX6_canBeYesBy_146 : decode cX6_canBeYesBy 146 = .ok (.ifCond .eq 7, 3) := gdX6_canBeYesBy_98.2.2.2.2.1
theorem dX6_canBeYesBy_83 : decode cX6_canBeYesBy 83 = .ok (.iconst 1, 1) := gdX6_canBeYesBy_98.2.2.2.2.2.1
theorem dX6_canBeYesBy_84 : decode cX6_canBeYesBy 84 = .ok (.goto 4, 3) := gdX6_canBeYesBy_98.2.2.2.2.2.2.1
theorem dX6_canBeYesBy_127 : decode cX6_canBeYesBy 127 = .ok (.iload 4, 2) := gdX6_canBeYesBy_98.2.2.2.2.2.2.2.1
theorem dX6_canBeYesBy_129 : decode cX6_canBeYesBy 129 = .ok (.iload 10, 2) := gdX6_canBeYesBy_98.2.2.2.2.2.2.2.2.1
theorem dX6_canBeYesBy_131 : decode cX6_canBeYesBy 131 = .ok (.ior, 1) := gdX6_canBeYesBy_98.2.2.2.2.2.2.2.2.2.1
theorem dX6_canBeYesBy_132 : decode cX6_canBeYesBy 132 = .ok (.goto 5, 3) := gdX6_canBeYesBy_98.2.2.2.2.2.2.2.2.2.2.1
theorem dX6_canBeYesBy_149 : decode cX6_canBeYesBy 149 = .ok (.iconst 1, 1) := gdX6_canBeYesBy_98.2.2.2.2.2.2.2.2.2.2.2
theorem gdX6_canBeYesBy_150 : decode cX6_canBeYesBy 150 = .ok (.goto 4, 3) ∧ decode cX6_canBeYesBy 68 = .ok (.iconst 0, 1) ∧ decode cX6_canBeYesBy 69 = .ok (.ireturn, 1) := by decide +kernel
theorem dX6_canBeYesBy_150 : decode cX6_canBeYesBy 150 = .ok (.goto 4, 3) := gdX6_canBeYesBy_150.1
theorem dX6_canBeYesBy_68 : decode cX6_canBeYesBy 68 = .ok (.iconst 0, 1) := gdX6_canBeYesBy_150.2.1
theorem dX6_canBeYesBy_69 : decode cX6_canBeYesBy 69 = .ok (.ireturn, 1) := gdX6_canBeYesBy_150.2.2
set_option maxHeartbeats 1000000 in
set_option maxRecDepth 100000 in
theorem s_canBeYesBy (l : Launch) (D : va_G) (cy : Nat → ClassId) (p0 : Nat) (p1 : Nat) (p2 : Nat) (p3 : Nat) (p4 : Nat) (er : Nat) (ro : Nat) (ch : Nat) (fne : Nat → Int32) (fqi : Nat → Int32) (h0 : Nat) (h1 : Nat) (h2 : Nat) (h3 : Nat) (h4 : Nat) (h5 : Nat) (h6 : Nat) (h7 : Nat) (h8 : Nat) (h9 : Nat) (h10 : Nat) (h11 : Nat) (hv1 : Value) (hv2 : Value) (hv3 : Value) (hv4 : Value) (ys : Int32) (fc : Nat → Int32) (c0 : Nat) (c1 : Nat) (c2 : Nat) (c3 : Nat) (fx : Nat → Int32) (s0 : Nat) (s1 : Nat) (s2 : Nat) (sl : Nat) (spl : Int32) (svo : Int32) (swi : Int32) (sch : Int32) (fw : Nat → Int32) (ea : Nat → Nat) (eg : Nat → Nat) (ef : Nat → Nat) (et : Nat → Int32) (el : Nat → Nat) (ei : Nat → Nat) (gc : Nat → Nat → Int32) (xc : Nat → Nat → Int32) (rk : Nat) (cg : Int32) (hne : nOK fne c1) (hcn : cntOK fc c0 c1 c2 c3) (hc0 : c0 ≤ 8) (hc1 : c1 ≤ 4) (hc2 : c2 ≤ 4) (hc3 : c3 ≤ 6) (hnx : rng fx 48 5) (hel : ∀ i9, i9 < 4 → el i9 ≤ 10) (hes : ∀ i9, i9 < c1 → el i9 = sl) (hsl : sl ≤ 10) (hsw : rng fw 10 7) (hrk : rk < c1) (hqu : ∀ rk9 i9 w9 : Nat, rk9 < c1 → i9 < sl → w9 < 8 → bt (fqi (rk9 * 10 + i9)) w9 = alF (quQ gc fne i9 w9) rk9) : XMi l D (tyL cy) E0 yX6_canBeYesBy cX6_canBeYesBy 11 (some .boolean) (rmk 1 0 0) [.ref p0, .int (nI rk), .int cg] [wO p0 6 [.ref p1, .ref er, .ref ro, .ref p2, .ref p3, .ref p4, .ref h0, .ref s0, .int (nI ch)], wI (cy 1) p3 4 (fne), wI (cy 1) p4 40 (fqi), wO h0 4 [.ref h1, .ref h2, .ref h3, .ref h4, .ref h5, .ref h6, .ref h7, .ref h8, .ref h9, .ref h10, .ref h11, .int ys, hv1, hv2, hv3, hv4], wI (cy 1) h1 4 (fc), wI (cy 1) h7 48 (fx), wO s0 7 [.ref s1, .ref s2, .int (nI sl), .int spl, .int svo, .int swi, .int sch], wI (cy 1) s1 10 (fw), (er, .inl (cy 4, 4, .inr (.inr (.inr (.inr (eF (ea 0) (ea 1) (ea 2) (ea 3))))))), wO (ea 0) 2 [.ref (eg 0), .ref (ef 0), .int (et 0), .int (nI (el 0)), .int (nI (ei 0))], wI (cy 1) (eg 0) 10 (gc 0), wI (cy 1) (ef 0) 7 (xc 0), wO (ea 1) 2 [.ref (eg 1), .ref (ef 1), .int (et 1), .int (nI (el 1)), .int (nI (ei 1))], wI (cy 1) (eg 1) 10 (gc 1), wI (cy 1) (ef 1) 7 (xc 1), wO (ea 2) 2 [.ref (eg 2), .ref (ef 2), .int (et 2), .int (nI (el 2)), .int (nI (ei 2))], wI (cy 1) (eg 2) 10 (gc 2), wI (cy 1) (ef 2) 7 (xc 2), wO (ea 3) 2 [.ref (eg 3), .ref (ef 3), .int (et 3), .int (nI (el 3)), .int (nI (ei 3))], wI (cy 1) (eg 3) 10 (gc 3), wI (cy 1) (ef 3) 7 (xc 3)] (fun (r : Int32) (_ : Unit) => (r = 0 ∨ r = 1) ∧ (okW c0 fw sl → (r = 1 ↔ byY fx (gc (fne rk).toNatClampNeg) ys (mvB c0 fw cg gc fne rk) (plS (et (fne rk).toNatClampNeg) sl) c0 sl))) (fun (_ : Unit) => [wO p0 6 [.ref p1, .ref er, .ref ro, .ref p2, .ref p3, .ref p4, .ref h0, .ref s0, .int (nI ch)], wI (cy 1) p3 4 (fne), wI (cy 1) p4 40 (fqi), wO h0 4 [.ref h1, .ref h2, .ref h3, .ref h4, .ref h5, .ref h6, .ref h7, .ref h8, .ref h9, .ref h10, .ref h11, .int ys, hv1, hv2, hv3, hv4], wI (cy 1) h1 4 (fc), wI (cy 1) h7 48 (fx), wO s0 7 [.ref s1, .ref s2, .int (nI sl), .int spl, .int svo, .int swi, .int sch], wI (cy 1) s1 10 (fw), (er, .inl (cy 4, 4, .inr (.inr (.inr (.inr (eF (ea 0) (ea 1) (ea 2) (ea 3))))))), wO (ea 0) 2 [.ref (eg 0), .ref (ef 0), .int (et 0), .int (nI (el 0)), .int (nI (ei 0))], wI (cy 1) (eg 0) 10 (gc 0), wI (cy 1) (ef 0) 7 (xc 0), wO (ea 1) 2 [.ref (eg 1), .ref (ef 1), .int (et 1), .int (nI (el 1)), .int (nI (ei 1))], wI (cy 1) (eg 1) 10 (gc 1), wI (cy 1) (ef 1) 7 (xc 1), wO (ea 2) 2 [.ref (eg 2), .ref (ef 2), .int (et 2), .int (nI (el 2)), .int (nI (ei 2))], wI (cy 1) (eg 2) 10 (gc 2), wI (cy 1) (ef 2) 7 (xc 2), wO (ea 3) 2 [.ref (eg 3), .ref (ef 3), .int (et 3), .int (nI (el 3)), .int (nI (ei 3))], wI (cy 1) (eg 3) 10 (gc 3), wI (cy 1) (ef 3) 7 (xc 3)]) := by
  refine XMi.start (by decide) (Nat.le_of_ble_eq_true rfl) ?_
  intro p e s m below meth c args A ls Q hat hQ
  obtain ⟨hx, hb, hr, hml, hown, hg, hlocks, hin, hK, hA, hP, hD, hS, hE, hl⟩ := hat
  have hown : s.vm.findClass RX6 = some m.cls := hown
  have hl : lv_has ls 11 [(0, .ref p0), (1, .int (nI rk)), (2, .int cg)] := hl
  have hk_1 := hel 0 (by decide)
  have hk_2 := hel 1 (by decide)
  have hk_3 := hel 2 (by decide)
  have hk_4 := hel 3 (by decide)
  refine lv_aload_n hx hb dX6_canBeYesBy_0 rfl (lv_at hl 0 rfl) ?_
  refine va_get (D := D) (ci := 6) (v := .ref er) (C := RX6) (T := TX6) (N := 9) hx hb hg i_X6 hown hK hP 0 rfl rfl 1 (by decide) (hg _ m_586) (fun _ h9 => h9) rfl dX6_canBeYesBy_1 ?_
  refine lv_aload_n hx hb dX6_canBeYesBy_4 rfl (lv_at hl 0 rfl) ?_
  refine va_get (D := D) (ci := 6) (v := .ref p3) (C := RX6) (T := TX6) (N := 9) hx hb hg i_X6 hown hK hP 0 rfl rfl 4 (by decide) (hg _ m_589) (fun _ h9 => h9) rfl dX6_canBeYesBy_5 ?_
  refine lv_iload_n hx hb dX6_canBeYesBy_8 rfl (lv_at hl 1 rfl) ?_
  refine va_iald hx hb hK hP 1 1 rfl rfl (vp_in_nI (by omega) (by decide)) dX6_canBeYesBy_9 ?_
  obtain ⟨j_5, hj_5, ej_5⟩ := nOK_at hne (i := rk) (by omega) (by omega)
  refine lv_topi (fun y_6 hy_6 => ?_)
  obtain rfl : y_6 = nI j_5 := hy_6.trans ej_5
  rcases (show j_5 = 0 ∨ j_5 = 1 ∨ j_5 = 2 ∨ j_5 = 3 by omega) with hsp | hsp | hsp | hsp
  · subst hsp
    refine va_aldq hx hb hK hP 8 4 rfl rfl (by unfold vp_in; decide) dX6_canBeYesBy_10 ?_
    refine W.eq (g2 := F0 m 11 ls [.ref (ea 0)]) rfl ?_
    have hesk := hes 0 (by omega)
    refine lv_astore_n (lv' := [(3, .ref (ea 0)), (0, .ref p0), (1, .int (nI rk)), (2, .int cg)]) hx hb dX6_canBeYesBy_11 rfl hl (by decide) rfl (fun ls hl => ?_)
    refine lv_iconst (v := 0) hx hb dX6_canBeYesBy_12 (by decide) ?_
    refine lv_istore (lv' := [(4, .int 0), (3, .ref (ea 0)), (0, .ref p0), (1, .int (nI rk)), (2, .int cg)]) hx hb dX6_canBeYesBy_13 hl (by decide) rfl (fun ls hl => ?_)
    refine lv_iconst (v := 1) hx hb dX6_canBeYesBy_15 (by decide) ?_
    refine lv_istore (lv' := [(5, .int 1), (4, .int 0), (3, .ref (ea 0)), (0, .ref p0), (1, .int (nI rk)), (2, .int cg)]) hx hb dX6_canBeYesBy_16 hl (by decide) rfl (fun ls hl => ?_)
    refine lv_iconst (v := 0) hx hb dX6_canBeYesBy_18 (by decide) ?_
    refine lv_istore (lv' := [(6, .int 0), (5, .int 1), (4, .int 0), (3, .ref (ea 0)), (0, .ref p0), (1, .int (nI rk)), (2, .int cg)]) hx hb dX6_canBeYesBy_19 hl (by decide) rfl (fun ls hl => ?_)
    have loop7 : ∀ (zn : Nat) (sv7 : Int32) (lb5_7 : Int32) (i7 : Nat), (lb5_7 = 0 ∨ lb5_7 = 1) → (i7 ≤ sl) → (okW c0 fw sl → byI fx (gc 0) (mvB c0 fw cg gc fne rk) (plS (et 0) sl) c0 i7 sv7 lb5_7) → sl - i7 + 1 ≤ zn → ∀ (H : Heap) (locs : List Loc), va_P D vwCl [wO p0 6 [.ref p1, .ref er, .ref ro, .ref p2, .ref p3, .ref p4, .ref h0, .ref s0, .int (nI ch)], wI (cy 1) p3 4 (fne), wI (cy 1) p4 40 (fqi), wO h0 4 [.ref h1, .ref h2, .ref h3, .ref h4, .ref h5, .ref h6, .ref h7, .ref h8, .ref h9, .ref h10, .ref h11, .int ys, hv1, hv2, hv3, hv4], wI (cy 1) h1 4 (fc), wI (cy 1) h7 48 (fx), wO s0 7 [.ref s1, .ref s2, .int (nI sl), .int spl, .int svo, .int swi, .int sch], wI (cy 1) s1 10 (fw), (er, .inl (cy 4, 4, .inr (.inr (.inr (.inr (eF (ea 0) (ea 1) (ea 2) (ea 3))))))), wO (ea 0) 2 [.ref (eg 0), .ref (ef 0), .int (et 0), .int (nI (el 0)), .int (nI (ei 0))], wI (cy 1) (eg 0) 10 (gc 0), wI (cy 1) (ef 0) 7 (xc 0), wO (ea 1) 2 [.ref (eg 1), .ref (ef 1), .int (et 1), .int (nI (el 1)), .int (nI (ei 1))], wI (cy 1) (eg 1) 10 (gc 1), wI (cy 1) (ef 1) 7 (xc 1), wO (ea 2) 2 [.ref (eg 2), .ref (ef 2), .int (et 2), .int (nI (el 2)), .int (nI (ei 2))], wI (cy 1) (eg 2) 10 (gc 2), wI (cy 1) (ef 2) 7 (xc 2), wO (ea 3) 2 [.ref (eg 3), .ref (ef 3), .int (et 3), .int (nI (el 3)), .int (nI (ei 3))], wI (cy 1) (eg 3) 10 (gc 3), wI (cy 1) (ef 3) 7 (xc 3)] H → va_D A [wO p0 6 [.ref p1, .ref er, .ref ro, .ref p2, .ref p3, .ref p4, .ref h0, .ref s0, .int (nI ch)], wI (cy 1) p3 4 (fne), wI (cy 1) p4 40 (fqi), wO h0 4 [.ref h1, .ref h2, .ref h3, .ref h4, .ref h5, .ref h6, .ref h7, .ref h8, .ref h9, .ref h10, .ref h11, .int ys, hv1, hv2, hv3, hv4], wI (cy 1) h1 4 (fc), wI (cy 1) h7 48 (fx), wO s0 7 [.ref s1, .ref s2, .int (nI sl), .int spl, .int svo, .int swi, .int sch], wI (cy 1) s1 10 (fw), (er, .inl (cy 4, 4, .inr (.inr (.inr (.inr (eF (ea 0) (ea 1) (ea 2) (ea 3))))))), wO (ea 0) 2 [.ref (eg 0), .ref (ef 0), .int (et 0), .int (nI (el 0)), .int (nI (ei 0))], wI (cy 1) (eg 0) 10 (gc 0), wI (cy 1) (ef 0) 7 (xc 0), wO (ea 1) 2 [.ref (eg 1), .ref (ef 1), .int (et 1), .int (nI (el 1)), .int (nI (ei 1))], wI (cy 1) (eg 1) 10 (gc 1), wI (cy 1) (ef 1) 7 (xc 1), wO (ea 2) 2 [.ref (eg 2), .ref (ef 2), .int (et 2), .int (nI (el 2)), .int (nI (ei 2))], wI (cy 1) (eg 2) 10 (gc 2), wI (cy 1) (ef 2) 7 (xc 2), wO (ea 3) 2 [.ref (eg 3), .ref (ef 3), .int (et 3), .int (nI (el 3)), .int (nI (ei 3))], wI (cy 1) (eg 3) 10 (gc 3), wI (cy 1) (ef 3) 7 (xc 3)] → va_S A s.heap H locs → ∀ ls : Array Slot, lv_has ls 11 [(6, .int (nI i7)), (5, .int lb5_7), (4, .int sv7), (3, .ref (ea 0)), (0, .ref p0), (1, .int (nI rk)), (2, .int cg)] → W p l e (rmk 1 0 0) s m args below meth c H locs 0 0 Q (F0 m 21 ls []) := by
      try clear hP hD hS
      intro zn
      induction zn with
      | zero => intro sv7 lb5_7 i7 _ _ _ hz; exact absurd hz (by omega)
      | succ zn ih7 =>
        intro sv7 lb5_7 i7 hb_lb5_7 hf0_7 hf1_7 hmu7 H locs hP hD hS ls hl
        refine lv_iload hx hb dX6_canBeYesBy_21 (lv_at hl 0 rfl) ?_
        refine lv_aload_n hx hb dX6_canBeYesBy_23 rfl (lv_at hl 4 rfl) ?_
        refine va_get (D := D) (ci := 6) (v := .ref s0) (C := RX6) (T := TX6) (N := 9) hx hb hg i_X6 hown hK hP 0 rfl rfl 7 (by decide) (hg _ m_592) (fun _ h9 => h9) rfl dX6_canBeYesBy_24 ?_
        refine va_get (D := D) (ci := 7) (v := .int (nI sl)) (C := RX7) (T := TX7) (N := 7) hx hb hg i_X7 hown hK hP 6 rfl rfl 2 (by decide) (hg _ m_630) (fun _ h9 => h9) rfl dX6_canBeYesBy_27 ?_
        refine lv_icmp_ge (tgt := 162) hx hb dX6_canBeYesBy_30 (by decide) (fun c_8 => ?_) (fun c_8 => ?_)
        · have q_9 : sl ≤ i7 := q_le (a := sl) (b := i7) rfl rfl (by omega) (by omega) c_8
          refine lv_iload hx hb dX6_canBeYesBy_162 (lv_at hl 2 rfl) ?_
          refine lv_aload_n hx hb dX6_canBeYesBy_164 rfl (lv_at hl 4 rfl) ?_
          refine va_get (D := D) (ci := 6) (v := .ref h0) (C := RX6) (T := TX6) (N := 9) hx hb hg i_X6 hown hK hP 0 rfl rfl 6 (by decide) (hg _ m_591) (fun _ h9 => h9) rfl dX6_canBeYesBy_165 ?_
          refine va_get (D := D) (ci := 4) (v := .int ys) (C := RX4) (T := TX4) (N := 16) hx hb hg i_X4 hown hK hP 3 rfl rfl 11 (by decide) (hg _ m_370) (fun _ h9 => h9) rfl dX6_canBeYesBy_168 ?_
          refine lv_iand hx hb dX6_canBeYesBy_171 ?_
          refine lv_topi (fun x_10 ex_10 => ?_)
          refine lv_if_eq (tgt := 179) hx hb dX6_canBeYesBy_172 (by decide) (fun c_172 => ?_) (fun c_172 => ?_)
          · refine lv_iconst (v := 0) hx hb dX6_canBeYesBy_179 (by decide) ?_
            exact x_zret hQ hx hb hr hlocks hK hP hD hS rfl dX6_canBeYesBy_180 () (⟨(Or.inl rfl), (fun hok9 => by rw [show (fne rk).toNatClampNeg = 0 from (by rw [at_cl (by omega) ej_5]; rfl)]; exact by_r0 (by_e0 hc0 hnx (by have h8 := hf1_7 hok9; rw [show i7 = sl by omega] at h8; exact h8) ex_10 c_172))⟩) [0, 1, 2, 3, 4, 5, 6, 7, 8, 9, 10, 11, 12, 13, 14, 15, 16, 17, 18, 19, 20] (by decide +kernel) rfl (Nat.le_of_ble_eq_true rfl) (Nat.le_of_ble_eq_true rfl)
          · refine lv_iconst (v := 1) hx hb dX6_canBeYesBy_175 (by decide) ?_
            refine lv_goto (tgt := 180) hx hb dX6_canBeYesBy_176 (by decide) ?_
            exact x_zret hQ hx hb hr hlocks hK hP hD hS rfl dX6_canBeYesBy_180 () (⟨(Or.inr rfl), (fun hok9 => by rw [show (fne rk).toNatClampNeg = 0 from (by rw [at_cl (by omega) ej_5]; rfl)]; exact by_r1 (by_e1 hc0 hnx (by have h8 := hf1_7 hok9; rw [show i7 = sl by omega] at h8; exact h8) ex_10 c_172))⟩) [0, 1, 2, 3, 4, 5, 6, 7, 8, 9, 10, 11, 12, 13, 14, 15, 16, 17, 18, 19, 20] (by decide +kernel) rfl (Nat.le_of_ble_eq_true rfl) (Nat.le_of_ble_eq_true rfl)
        · have q_9 : i7 < sl := q_nle (a := sl) (b := i7) rfl rfl (by omega) (by omega) c_8
          refine lv_aload_n hx hb dX6_canBeYesBy_33 rfl (lv_at hl 3 rfl) ?_
          refine lv_iload hx hb dX6_canBeYesBy_34 (lv_at hl 0 rfl) ?_
          refine x_callVi (q := (RX2, TX2, 5)) (ci := 2) (q0 := 0) (wr := [wO p0 6 [.ref p1, .ref er, .ref ro, .ref p2, .ref p3, .ref p4, .ref h0, .ref s0, .int (nI ch)], wI (cy 1) p3 4 (fne), wI (cy 1) p4 40 (fqi), wO h0 4 [.ref h1, .ref h2, .ref h3, .ref h4, .ref h5, .ref h6, .ref h7, .ref h8, .ref h9, .ref h10, .ref h11, .int ys, hv1, hv2, hv3, hv4], wI (cy 1) h1 4 (fc), wI (cy 1) h7 48 (fx), wO s0 7 [.ref s1, .ref s2, .int (nI sl), .int spl, .int svo, .int swi, .int sch], wI (cy 1) s1 10 (fw), (er, .inl (cy 4, 4, .inr (.inr (.inr (.inr (eF (ea 0) (ea 1) (ea 2) (ea 3))))))), wI (cy 1) (eg 0) 10 (gc 0), wI (cy 1) (ef 0) 7 (xc 0), wO (ea 1) 2 [.ref (eg 1), .ref (ef 1), .int (et 1), .int (nI (el 1)), .int (nI (ei 1))], wI (cy 1) (eg 1) 10 (gc 1), wI (cy 1) (ef 1) 7 (xc 1), wO (ea 2) 2 [.ref (eg 2), .ref (ef 2), .int (et 2), .int (nI (el 2)), .int (nI (ei 2))], wI (cy 1) (eg 2) 10 (gc 2), wI (cy 1) (ef 2) 7 (xc 2), wO (ea 3) 2 [.ref (eg 3), .ref (ef 3), .int (et 3), .int (nI (el 3)), .int (nI (ei 3))], wI (cy 1) (eg 3) 10 (gc 3), wI (cy 1) (ef 3) 7 (xc 3)]) (rest := []) ⟨hx, hb, hml, hown, hg, hl.1⟩ k_X6_94 (s_placeOf l D cy (ea 0) (eg 0) (ef 0) (et 0) ((el 0)) ((ei 0)) i7 (by omega) (by omega)) E0_blind hK hP hD hS hA [9] [0, 1, 2, 3, 4, 5, 6, 7, 8, 10, 11, 12, 13, 14, 15, 16, 17, 18, 19, 20] ⟨rfl, rfl, by decide +kernel, by decide +kernel, by decide +kernel⟩ rfl rfl (fun _ _ _ => trivial) dX6_canBeYesBy_36 rfl rfl (Nat.le_of_ble_eq_true rfl) ⟨Nat.le_of_ble_eq_true rfl, Nat.le_of_ble_eq_true rfl⟩ ⟨Nat.le_of_ble_eq_true rfl, Nat.le_of_ble_eq_true rfl⟩ (fun zr11 zu11 H locs hw11 hP9 hD9 hS9 => ?_)
          clear hP hD hS
          obtain ⟨k_12, rfl⟩ : ∃ z, z = zu11 := ⟨_, rfl⟩
          refine reW [wO p0 6 [.ref p1, .ref er, .ref ro, .ref p2, .ref p3, .ref p4, .ref h0, .ref s0, .int (nI ch)], wI (cy 1) p3 4 (fne), wI (cy 1) p4 40 (fqi), wO h0 4 [.ref h1, .ref h2, .ref h3, .ref h4, .ref h5, .ref h6, .ref h7, .ref h8, .ref h9, .ref h10, .ref h11, .int ys, hv1, hv2, hv3, hv4], wI (cy 1) h1 4 (fc), wI (cy 1) h7 48 (fx), wO s0 7 [.ref s1, .ref s2, .int (nI sl), .int spl, .int svo, .int swi, .int sch], wI (cy 1) s1 10 (fw), (er, .inl (cy 4, 4, .inr (.inr (.inr (.inr (eF (ea 0) (ea 1) (ea 2) (ea 3))))))), wI (cy 1) (eg 0) 10 (gc 0), wI (cy 1) (ef 0) 7 (xc 0), wO (ea 1) 2 [.ref (eg 1), .ref (ef 1), .int (et 1), .int (nI (el 1)), .int (nI (ei 1))], wI (cy 1) (eg 1) 10 (gc 1), wI (cy 1) (ef 1) 7 (xc 1), wO (ea 2) 2 [.ref (eg 2), .ref (ef 2), .int (et 2), .int (nI (el 2)), .int (nI (ei 2))], wI (cy 1) (eg 2) 10 (gc 2), wI (cy 1) (ef 2) 7 (xc 2), wO (ea 3) 2 [.ref (eg 3), .ref (ef 3), .int (et 3), .int (nI (el 3)), .int (nI (ei 3))], wI (cy 1) (eg 3) 10 (gc 3), wI (cy 1) (ef 3) 7 (xc 3), wO (ea 0) 2 [.ref (eg 0), .ref (ef 0), .int (et 0), .int (nI ((el 0))), .int (nI ((ei 0)))]] hP9 hD9 hS9 (fun hP hD hS => ?_)
          clear hP9 hD9 hS9
          refine W.widen (k := 0) (n := 0) (Nat.le_of_ble_eq_true rfl) (Nat.le_of_ble_eq_true rfl) ?_
          replace hw11 : (zr11 = nI k_12) ∧ (k_12 < ((el 0))) ∧ (k_12 = plS (et 0) ((el 0)) i7) := hw11
          obtain ⟨f_13, f_14, f_15⟩ := hw11
          subst f_13
          refine lv_istore (lv' := [(7, .int (nI k_12)), (6, .int (nI i7)), (5, .int lb5_7), (4, .int sv7), (3, .ref (ea 0)), (0, .ref p0), (1, .int (nI rk)), (2, .int cg)]) hx hb dX6_canBeYesBy_39 hl (by decide) rfl (fun ls hl => ?_)
          refine lv_aload_n hx hb dX6_canBeYesBy_41 rfl (lv_at hl 5 rfl) ?_
          refine lv_iload hx hb dX6_canBeYesBy_42 (lv_at hl 0 rfl) ?_
          refine lv_iload_n hx hb dX6_canBeYesBy_44 rfl (lv_at hl 7 rfl) ?_
          refine x_callVi (q := (RX6, TX6, 9)) (ci := 6) (q0 := 0) (wr := [wI (cy 1) p3 4 (fne), wI (cy 1) p4 40 (fqi), wI (cy 1) h7 48 (fx), (er, .inl (cy 4, 4, .inr (.inr (.inr (.inr (eF (ea 0) (ea 1) (ea 2) (ea 3))))))), wI (cy 1) (eg 0) 10 (gc 0), wI (cy 1) (ef 0) 7 (xc 0), wO (ea 1) 2 [.ref (eg 1), .ref (ef 1), .int (et 1), .int (nI (el 1)), .int (nI (ei 1))], wI (cy 1) (eg 1) 10 (gc 1), wI (cy 1) (ef 1) 7 (xc 1), wO (ea 2) 2 [.ref (eg 2), .ref (ef 2), .int (et 2), .int (nI (el 2)), .int (nI (ei 2))], wI (cy 1) (eg 2) 10 (gc 2), wI (cy 1) (ef 2) 7 (xc 2), wO (ea 3) 2 [.ref (eg 3), .ref (ef 3), .int (et 3), .int (nI (el 3)), .int (nI (ei 3))], wI (cy 1) (eg 3) 10 (gc 3), wI (cy 1) (ef 3) 7 (xc 3), wO (ea 0) 2 [.ref (eg 0), .ref (ef 0), .int (et 0), .int (nI ((el 0))), .int (nI ((ei 0)))]]) (rest := []) ⟨hx, hb, hml, hown, hg, hl.1⟩ k_X6_98 (s_choices l D cy p0 p1 p2 p3 p4 er ro ch h0 h1 h2 h3 h4 h5 h6 h7 h8 h9 h10 h11 ((.int ys)) hv1 hv2 hv3 hv4 fc c0 c1 c2 c3 s0 s1 s2 sl spl svo swi sch fw k_12 cg (hcn) (by omega) (by omega) (by omega) (by omega) (hsw) (by omega)) E0_blind hK hP hD hS hA [0, 3, 4, 6, 7] [1, 2, 5, 8, 9, 10, 11, 12, 13, 14, 15, 16, 17, 18, 19, 20] ⟨rfl, rfl, by decide +kernel, by decide +kernel, by decide +kernel⟩ rfl rfl (fun _ _ _ => trivial) dX6_canBeYesBy_45 rfl rfl (Nat.le_of_ble_eq_true rfl) ⟨Nat.le_of_ble_eq_true rfl, Nat.le_of_ble_eq_true rfl⟩ ⟨Nat.le_of_ble_eq_true rfl, Nat.le_of_ble_eq_true rfl⟩ (fun zr16 zu16 H locs hw16 hP9 hD9 hS9 => ?_)
          clear hP hD hS
          refine reW [wI (cy 1) p3 4 (fne), wI (cy 1) p4 40 (fqi), wI (cy 1) h7 48 (fx), (er, .inl (cy 4, 4, .inr (.inr (.inr (.inr (eF (ea 0) (ea 1) (ea 2) (ea 3))))))), wI (cy 1) (eg 0) 10 (gc 0), wI (cy 1) (ef 0) 7 (xc 0), wO (ea 1) 2 [.ref (eg 1), .ref (ef 1), .int (et 1), .int (nI (el 1)), .int (nI (ei 1))], wI (cy 1) (eg 1) 10 (gc 1), wI (cy 1) (ef 1) 7 (xc 1), wO (ea 2) 2 [.ref (eg 2), .ref (ef 2), .int (et 2), .int (nI (el 2)), .int (nI (ei 2))], wI (cy 1) (eg 2) 10 (gc 2), wI (cy 1) (ef 2) 7 (xc 2), wO (ea 3) 2 [.ref (eg 3), .ref (ef 3), .int (et 3), .int (nI (el 3)), .int (nI (ei 3))], wI (cy 1) (eg 3) 10 (gc 3), wI (cy 1) (ef 3) 7 (xc 3), wO (ea 0) 2 [.ref (eg 0), .ref (ef 0), .int (et 0), .int (nI ((el 0))), .int (nI ((ei 0)))], wO p0 6 [.ref p1, .ref er, .ref ro, .ref p2, .ref p3, .ref p4, .ref h0, .ref s0, .int (nI ch)], wO h0 4 [.ref h1, .ref h2, .ref h3, .ref h4, .ref h5, .ref h6, .ref h7, .ref h8, .ref h9, .ref h10, .ref h11, .int ys, hv1, hv2, hv3, hv4], wI (cy 1) h1 4 (fc), wO s0 7 [.ref s1, .ref s2, .int (nI sl), .int spl, .int svo, .int swi, .int sch], wI (cy 1) s1 10 (fw)] hP9 hD9 hS9 (fun hP hD hS => ?_)
          clear hP9 hD9 hS9
          refine W.widen (k := 0) (n := 0) (Nat.le_of_ble_eq_true rfl) (Nat.le_of_ble_eq_true rfl) ?_
          replace hw16 : (∀ w9 : Nat, w9 < 8 → bt zr16 w9 = chB c0 fw cg k_12 w9) ∧ (∀ w9 : Nat, 8 ≤ w9 → w9 < 32 → bt zr16 w9 = false) := hw16
          obtain ⟨f_17, f_18⟩ := hw16
          refine lv_aload_n hx hb dX6_canBeYesBy_48 rfl (lv_at hl 5 rfl) ?_
          refine va_get (D := D) (ci := 6) (v := .ref p4) (C := RX6) (T := TX6) (N := 9) hx hb hg i_X6 hown hK hP 16 rfl rfl 5 (by decide) (hg _ m_590) (fun _ h9 => h9) rfl dX6_canBeYesBy_49 ?_
          refine lv_iload_n hx hb dX6_canBeYesBy_52 rfl (lv_at hl 6 rfl) ?_
          refine lv_bipush (v := 10) hx hb dX6_canBeYesBy_53 (by decide) ?_
          refine lv_imul hx hb dX6_canBeYesBy_55 ?_
          refine lv_topi (fun y_19 hy_19 => ?_)
          obtain rfl : y_19 = nI (rk * 10) := hy_19.trans (pk_mul rk 10)
          refine lv_iload hx hb dX6_canBeYesBy_56 (lv_at hl 0 rfl) ?_
          refine lv_iadd hx hb dX6_canBeYesBy_58 ?_
          refine lv_topi (fun y_20 hy_20 => ?_)
          obtain rfl : y_20 = nI ((rk * 10) + k_12) := hy_20.trans (nI_add ((rk * 10)) k_12)
          refine va_iald hx hb hK hP 1 1 rfl rfl (vp_in_nI (by omega) (by decide)) dX6_canBeYesBy_59 ?_
          refine lv_topi (fun x_21 ex_21 => ?_)
          refine lv_iand hx hb dX6_canBeYesBy_60 ?_
          refine lv_topi (fun x_22 ex_22 => ?_)
          refine lv_istore (lv' := [(8, .int x_22), (7, .int (nI k_12)), (6, .int (nI i7)), (5, .int lb5_7), (4, .int sv7), (3, .ref (ea 0)), (0, .ref p0), (1, .int (nI rk)), (2, .int cg)]) hx hb dX6_canBeYesBy_61 hl (by decide) rfl (fun ls hl => ?_)
          refine lv_iload hx hb dX6_canBeYesBy_63 (lv_at hl 0 rfl) ?_
          refine lv_if_ne (tgt := 70) hx hb dX6_canBeYesBy_65 (by decide) (fun c_65 => ?_) (fun c_65 => ?_)
          · refine lv_iload hx hb dX6_canBeYesBy_70 (lv_at hl 0 rfl) ?_
            refine lv_aload_n hx hb dX6_canBeYesBy_72 rfl (lv_at hl 5 rfl) ?_
            refine va_get (D := D) (ci := 2) (v := .ref (eg 0)) (C := RX2) (T := TX2) (N := 5) hx hb hg i_X2 hown hK hP 15 rfl rfl 0 (by decide) (hg _ m_513) (fun _ h9 => h9) rfl dX6_canBeYesBy_73 ?_
            refine lv_iload hx hb dX6_canBeYesBy_76 (lv_at hl 1 rfl) ?_
            refine va_iald hx hb hK hP 4 1 rfl rfl (vp_in_nI (by omega) (by decide)) dX6_canBeYesBy_78 ?_
            refine lv_topi (fun x_23 ex_23 => ?_)
            refine lv_iand hx hb dX6_canBeYesBy_79 ?_
            refine lv_topi (fun x_24 ex_24 => ?_)
            refine lv_if_eq (tgt := 87) hx hb dX6_canBeYesBy_80 (by decide) (fun c_80 => ?_) (fun c_80 => ?_)
            · refine lv_iconst (v := 0) hx hb dX6_canBeYesBy_87 (by decide) ?_
              refine lv_istore (lv' := [(9, .int 0), (8, .int x_22), (7, .int (nI k_12)), (6, .int (nI i7)), (5, .int lb5_7), (4, .int sv7), (3, .ref (ea 0)), (0, .ref p0), (1, .int (nI rk)), (2, .int cg)]) hx hb dX6_canBeYesBy_88 hl (by decide) rfl (fun ls hl => ?_)
              refine lv_aload_n hx hb dX6_canBeYesBy_90 rfl (lv_at hl 7 rfl) ?_
              refine lv_iload hx hb dX6_canBeYesBy_91 (lv_at hl 4 rfl) ?_
              refine lv_if_eq (tgt := 103) hx hb dX6_canBeYesBy_93 (by decide) (fun c_93 => ?_) (fun c_93 => ?_)
              · refine lv_iload hx hb dX6_canBeYesBy_103 (lv_at hl 5 rfl) ?_
                refine lv_iload hx hb dX6_canBeYesBy_105 (lv_at hl 1 rfl) ?_
                refine lv_aload_n hx hb dX6_canBeYesBy_107 rfl (lv_at hl 6 rfl) ?_
                refine va_get (D := D) (ci := 2) (v := .ref (eg 0)) (C := RX2) (T := TX2) (N := 5) hx hb hg i_X2 hown hK hP 15 rfl rfl 0 (by decide) (hg _ m_513) (fun _ h9 => h9) rfl dX6_canBeYesBy_108 ?_
                refine lv_iload hx hb dX6_canBeYesBy_111 (lv_at hl 2 rfl) ?_
                refine va_iald hx hb hK hP 4 1 rfl rfl (vp_in_nI (by omega) (by decide)) dX6_canBeYesBy_113 ?_
                refine lv_topi (fun x_25 ex_25 => ?_)
                refine lv_iconst (v := -1) hx hb dX6_canBeYesBy_114 (by decide) ?_
                refine lv_ixor hx hb dX6_canBeYesBy_115 ?_
                refine lv_topi (fun x_26 ex_26 => ?_)
                refine lv_iand hx hb dX6_canBeYesBy_116 ?_
                refine lv_topi (fun x_27 ex_27 => ?_)
                refine x_callVi (q := (RX6, TX6, 9)) (ci := 6) (q0 := 0) (wr := [wI (cy 1) p3 4 (fne), wI (cy 1) p4 40 (fqi), (er, .inl (cy 4, 4, .inr (.inr (.inr (.inr (eF (ea 0) (ea 1) (ea 2) (ea 3))))))), wI (cy 1) (eg 0) 10 (gc 0), wI (cy 1) (ef 0) 7 (xc 0), wO (ea 1) 2 [.ref (eg 1), .ref (ef 1), .int (et 1), .int (nI (el 1)), .int (nI (ei 1))], wI (cy 1) (eg 1) 10 (gc 1), wI (cy 1) (ef 1) 7 (xc 1), wO (ea 2) 2 [.ref (eg 2), .ref (ef 2), .int (et 2), .int (nI (el 2)), .int (nI (ei 2))], wI (cy 1) (eg 2) 10 (gc 2), wI (cy 1) (ef 2) 7 (xc 2), wO (ea 3) 2 [.ref (eg 3), .ref (ef 3), .int (et 3), .int (nI (el 3)), .int (nI (ei 3))], wI (cy 1) (eg 3) 10 (gc 3), wI (cy 1) (ef 3) 7 (xc 3), wO (ea 0) 2 [.ref (eg 0), .ref (ef 0), .int (et 0), .int (nI ((el 0))), .int (nI ((ei 0)))], wO s0 7 [.ref s1, .ref s2, .int (nI sl), .int spl, .int svo, .int swi, .int sch], wI (cy 1) s1 10 (fw)]) (rest := []) ⟨hx, hb, hml, hown, hg, hl.1⟩ k_X6_101 (s_led l D cy p0 p1 p2 p3 p4 er ro ch s0 h0 h1 h2 h3 h4 h5 h6 h7 h8 h9 h10 h11 ((.int ys)) hv1 hv2 hv3 hv4 fc c0 c1 c2 c3 fx sv7 x_27 (hcn) (by omega) (by omega) (by omega) (by omega) (hnx)) E0_blind hK hP hD hS hA [16, 17, 18, 2] [0, 1, 3, 4, 5, 6, 7, 8, 9, 10, 11, 12, 13, 14, 15, 19, 20] ⟨rfl, rfl, by decide +kernel, by decide +kernel, by decide +kernel⟩ rfl rfl (fun _ _ _ => trivial) dX6_canBeYesBy_117 rfl rfl (Nat.le_of_ble_eq_true rfl) ⟨Nat.le_of_ble_eq_true rfl, Nat.le_of_ble_eq_true rfl⟩ ⟨Nat.le_of_ble_eq_true rfl, Nat.le_of_ble_eq_true rfl⟩ (fun zr28 zu28 H locs hw28 hP9 hD9 hS9 => ?_)
                clear hP hD hS
                refine reW [wI (cy 1) p3 4 (fne), wI (cy 1) p4 40 (fqi), (er, .inl (cy 4, 4, .inr (.inr (.inr (.inr (eF (ea 0) (ea 1) (ea 2) (ea 3))))))), wI (cy 1) (eg 0) 10 (gc 0), wI (cy 1) (ef 0) 7 (xc 0), wO (ea 1) 2 [.ref (eg 1), .ref (ef 1), .int (et 1), .int (nI (el 1)), .int (nI (ei 1))], wI (cy 1) (eg 1) 10 (gc 1), wI (cy 1) (ef 1) 7 (xc 1), wO (ea 2) 2 [.ref (eg 2), .ref (ef 2), .int (et 2), .int (nI (el 2)), .int (nI (ei 2))], wI (cy 1) (eg 2) 10 (gc 2), wI (cy 1) (ef 2) 7 (xc 2), wO (ea 3) 2 [.ref (eg 3), .ref (ef 3), .int (et 3), .int (nI (el 3)), .int (nI (ei 3))], wI (cy 1) (eg 3) 10 (gc 3), wI (cy 1) (ef 3) 7 (xc 3), wO (ea 0) 2 [.ref (eg 0), .ref (ef 0), .int (et 0), .int (nI ((el 0))), .int (nI ((ei 0)))], wO s0 7 [.ref s1, .ref s2, .int (nI sl), .int spl, .int svo, .int swi, .int sch], wI (cy 1) s1 10 (fw), wO p0 6 [.ref p1, .ref er, .ref ro, .ref p2, .ref p3, .ref p4, .ref h0, .ref s0, .int (nI ch)], wO h0 4 [.ref h1, .ref h2, .ref h3, .ref h4, .ref h5, .ref h6, .ref h7, .ref h8, .ref h9, .ref h10, .ref h11, .int ys, hv1, hv2, hv3, hv4], wI (cy 1) h1 4 (fc), wI (cy 1) h7 48 (fx)] hP9 hD9 hS9 (fun hP hD hS => ?_)
                clear hP9 hD9 hS9
                refine W.widen (k := 0) (n := 0) (Nat.le_of_ble_eq_true rfl) (Nat.le_of_ble_eq_true rfl) ?_
                replace hw28 : (∀ s9 : Nat, s9 < 32 → bt zr28 s9 = orF (ldO fx sv7 x_27 s9) c0) := hw28
                have f_29 := hw28
                refine lv_istore (lv' := [(10, .int zr28), (9, .int 0), (8, .int x_22), (7, .int (nI k_12)), (6, .int (nI i7)), (5, .int lb5_7), (4, .int sv7), (3, .ref (ea 0)), (0, .ref p0), (1, .int (nI rk)), (2, .int cg)]) hx hb dX6_canBeYesBy_120 hl (by decide) rfl (fun ls hl => ?_)
                refine lv_iload hx hb dX6_canBeYesBy_122 (lv_at hl 1 rfl) ?_
                refine lv_if_eq (tgt := 135) hx hb dX6_canBeYesBy_124 (by decide) (fun _ => ?_) (fun h => absurd (by decide) h)
                refine lv_iload hx hb dX6_canBeYesBy_135 (lv_at hl 0 rfl) ?_
                refine lv_istore (lv' := [(4, .int zr28), (10, .int zr28), (9, .int 0), (8, .int x_22), (7, .int (nI k_12)), (6, .int (nI i7)), (5, .int lb5_7), (3, .ref (ea 0)), (0, .ref p0), (1, .int (nI rk)), (2, .int cg)]) hx hb dX6_canBeYesBy_137 hl (by decide) rfl (fun ls hl => ?_)
                refine lv_iload hx hb dX6_canBeYesBy_139 (lv_at hl 6 rfl) ?_
                refine lv_if_eq (tgt := 153) hx hb dX6_canBeYesBy_141 (by decide) (fun _ => ?_) (fun h => absurd c_93 h)
                refine lv_iconst (v := 0) hx hb dX6_canBeYesBy_153 (by decide) ?_
                refine lv_istore (lv' := [(5, .int 0), (4, .int zr28), (10, .int zr28), (9, .int 0), (8, .int x_22), (7, .int (nI k_12)), (6, .int (nI i7)), (3, .ref (ea 0)), (0, .ref p0), (1, .int (nI rk)), (2, .int cg)]) hx hb dX6_canBeYesBy_154 hl (by decide) rfl (fun ls hl => ?_)
                refine lv_iinc (v := nI (i7 + 1)) (lv' := [(6, .int (nI (i7 + 1))), (5, .int 0), (4, .int zr28), (10, .int zr28), (9, .int 0), (8, .int x_22), (7, .int (nI k_12)), (3, .ref (ea 0)), (0, .ref p0), (1, .int (nI rk)), (2, .int cg)]) hx hb dX6_canBeYesBy_156 hl (k := 6) rfl (nI_add i7 1) (by decide) rfl (fun ls hl => ?_)
                refine lv_goto (tgt := 21) hx hb dX6_canBeYesBy_159 (by decide) ?_
                exact ih7  zr28 0 ((i7 + 1)) (Or.inl rfl) (by omega) (fun hok9 => by_st (sk := false) (n1 := false) hok9 hc0 hnx (hf1_7 hok9) (by omega) hsl (by rw [← hesk]; exact f_15) f_17 f_18 (fun w9 h9 => by rw [ex_21, nI_clamp (by omega)]; exact hqu rk k_12 w9 hrk (by omega) h9) ex_22 ex_23 ex_24 (decide_eq_false (fun h9 => h9 c_80)).symm (decide_eq_false (fun h9 => h9 c_93)).symm hb_lb5_7 (if_neg (by decide)).symm ex_25 ex_26 ex_27 f_29 (if_neg (by decide)).symm (if_neg (by decide)).symm) (by omega) _ _ (hP.sub [17, 0, 1, 18, 19, 20, 15, 16, 2, 14, 3, 4, 5, 6, 7, 8, 9, 10, 11, 12, 13] rfl) (hD.sub [17, 0, 1, 18, 19, 20, 15, 16, 2, 14, 3, 4, 5, 6, 7, 8, 9, 10, 11, 12, 13] (by decide +kernel) rfl) hS ls (lv_sub hl [0, 1, 2, 7, 8, 9, 10] rfl)
              · refine lv_iload hx hb dX6_canBeYesBy_96 (lv_at hl 5 rfl) ?_
                refine lv_iconst (v := 1) hx hb dX6_canBeYesBy_98 (by decide) ?_
                refine lv_ior hx hb dX6_canBeYesBy_99 ?_
                refine lv_topi (fun x_30 ex_30 => ?_)
                refine lv_goto (tgt := 105) hx hb dX6_canBeYesBy_100 (by decide) ?_
                refine lv_iload hx hb dX6_canBeYesBy_105 (lv_at hl 1 rfl) ?_
                refine lv_aload_n hx hb dX6_canBeYesBy_107 rfl (lv_at hl 6 rfl) ?_
                refine va_get (D := D) (ci := 2) (v := .ref (eg 0)) (C := RX2) (T := TX2) (N := 5) hx hb hg i_X2 hown hK hP 15 rfl rfl 0 (by decide) (hg _ m_513) (fun _ h9 => h9) rfl dX6_canBeYesBy_108 ?_
                refine lv_iload hx hb dX6_canBeYesBy_111 (lv_at hl 2 rfl) ?_
                refine va_iald hx hb hK hP 4 1 rfl rfl (vp_in_nI (by omega) (by decide)) dX6_canBeYesBy_113 ?_
                refine lv_topi (fun x_31 ex_31 => ?_)
                refine lv_iconst (v := -1) hx hb dX6_canBeYesBy_114 (by decide) ?_
                refine lv_ixor hx hb dX6_canBeYesBy_115 ?_
                refine lv_topi (fun x_32 ex_32 => ?_)
                refine lv_iand hx hb dX6_canBeYesBy_116 ?_
                refine lv_topi (fun x_33 ex_33 => ?_)
                refine x_callVi (q := (RX6, TX6, 9)) (ci := 6) (q0 := 0) (wr := [wI (cy 1) p3 4 (fne), wI (cy 1) p4 40 (fqi), (er, .inl (cy 4, 4, .inr (.inr (.inr (.inr (eF (ea 0) (ea 1) (ea 2) (ea 3))))))), wI (cy 1) (eg 0) 10 (gc 0), wI (cy 1) (ef 0) 7 (xc 0), wO (ea 1) 2 [.ref (eg 1), .ref (ef 1), .int (et 1), .int (nI (el 1)), .int (nI (ei 1))], wI (cy 1) (eg 1) 10 (gc 1), wI (cy 1) (ef 1) 7 (xc 1), wO (ea 2) 2 [.ref (eg 2), .ref (ef 2), .int (et 2), .int (nI (el 2)), .int (nI (ei 2))], wI (cy 1) (eg 2) 10 (gc 2), wI (cy 1) (ef 2) 7 (xc 2), wO (ea 3) 2 [.ref (eg 3), .ref (ef 3), .int (et 3), .int (nI (el 3)), .int (nI (ei 3))], wI (cy 1) (eg 3) 10 (gc 3), wI (cy 1) (ef 3) 7 (xc 3), wO (ea 0) 2 [.ref (eg 0), .ref (ef 0), .int (et 0), .int (nI ((el 0))), .int (nI ((ei 0)))], wO s0 7 [.ref s1, .ref s2, .int (nI sl), .int spl, .int svo, .int swi, .int sch], wI (cy 1) s1 10 (fw)]) (rest := []) ⟨hx, hb, hml, hown, hg, hl.1⟩ k_X6_101 (s_led l D cy p0 p1 p2 p3 p4 er ro ch s0 h0 h1 h2 h3 h4 h5 h6 h7 h8 h9 h10 h11 ((.int ys)) hv1 hv2 hv3 hv4 fc c0 c1 c2 c3 fx x_30 x_33 (hcn) (by omega) (by omega) (by omega) (by omega) (hnx)) E0_blind hK hP hD hS hA [16, 17, 18, 2] [0, 1, 3, 4, 5, 6, 7, 8, 9, 10, 11, 12, 13, 14, 15, 19, 20] ⟨rfl, rfl, by decide +kernel, by decide +kernel, by decide +kernel⟩ rfl rfl (fun _ _ _ => trivial) dX6_canBeYesBy_117 rfl rfl (Nat.le_of_ble_eq_true rfl) ⟨Nat.le_of_ble_eq_true rfl, Nat.le_of_ble_eq_true rfl⟩ ⟨Nat.le_of_ble_eq_true rfl, Nat.le_of_ble_eq_true rfl⟩ (fun zr34 zu34 H locs hw34 hP9 hD9 hS9 => ?_)
                clear hP hD hS
                refine reW [wI (cy 1) p3 4 (fne), wI (cy 1) p4 40 (fqi), (er, .inl (cy 4, 4, .inr (.inr (.inr (.inr (eF (ea 0) (ea 1) (ea 2) (ea 3))))))), wI (cy 1) (eg 0) 10 (gc 0), wI (cy 1) (ef 0) 7 (xc 0), wO (ea 1) 2 [.ref (eg 1), .ref (ef 1), .int (et 1), .int (nI (el 1)), .int (nI (ei 1))], wI (cy 1) (eg 1) 10 (gc 1), wI (cy 1) (ef 1) 7 (xc 1), wO (ea 2) 2 [.ref (eg 2), .ref (ef 2), .int (et 2), .int (nI (el 2)), .int (nI (ei 2))], wI (cy 1) (eg 2) 10 (gc 2), wI (cy 1) (ef 2) 7 (xc 2), wO (ea 3) 2 [.ref (eg 3), .ref (ef 3), .int (et 3), .int (nI (el 3)), .int (nI (ei 3))], wI (cy 1) (eg 3) 10 (gc 3), wI (cy 1) (ef 3) 7 (xc 3), wO (ea 0) 2 [.ref (eg 0), .ref (ef 0), .int (et 0), .int (nI ((el 0))), .int (nI ((ei 0)))], wO s0 7 [.ref s1, .ref s2, .int (nI sl), .int spl, .int svo, .int swi, .int sch], wI (cy 1) s1 10 (fw), wO p0 6 [.ref p1, .ref er, .ref ro, .ref p2, .ref p3, .ref p4, .ref h0, .ref s0, .int (nI ch)], wO h0 4 [.ref h1, .ref h2, .ref h3, .ref h4, .ref h5, .ref h6, .ref h7, .ref h8, .ref h9, .ref h10, .ref h11, .int ys, hv1, hv2, hv3, hv4], wI (cy 1) h1 4 (fc), wI (cy 1) h7 48 (fx)] hP9 hD9 hS9 (fun hP hD hS => ?_)
                clear hP9 hD9 hS9
                refine W.widen (k := 0) (n := 0) (Nat.le_of_ble_eq_true rfl) (Nat.le_of_ble_eq_true rfl) ?_
                replace hw34 : (∀ s9 : Nat, s9 < 32 → bt zr34 s9 = orF (ldO fx x_30 x_33 s9) c0) := hw34
                have f_35 := hw34
                refine lv_istore (lv' := [(10, .int zr34), (9, .int 0), (8, .int x_22), (7, .int (nI k_12)), (6, .int (nI i7)), (5, .int lb5_7), (4, .int sv7), (3, .ref (ea 0)), (0, .ref p0), (1, .int (nI rk)), (2, .int cg)]) hx hb dX6_canBeYesBy_120 hl (by decide) rfl (fun ls hl => ?_)
                refine lv_iload hx hb dX6_canBeYesBy_122 (lv_at hl 1 rfl) ?_
                refine lv_if_eq (tgt := 135) hx hb dX6_canBeYesBy_124 (by decide) (fun _ => ?_) (fun h => absurd (by decide) h)
                refine lv_iload hx hb dX6_canBeYesBy_135 (lv_at hl 0 rfl) ?_
                refine lv_istore (lv' := [(4, .int zr34), (10, .int zr34), (9, .int 0), (8, .int x_22), (7, .int (nI k_12)), (6, .int (nI i7)), (5, .int lb5_7), (3, .ref (ea 0)), (0, .ref p0), (1, .int (nI rk)), (2, .int cg)]) hx hb dX6_canBeYesBy_137 hl (by decide) rfl (fun ls hl => ?_)
                refine lv_iload hx hb dX6_canBeYesBy_139 (lv_at hl 6 rfl) ?_
                refine lv_if_eq (tgt := 153) hx hb dX6_canBeYesBy_141 (by decide) (fun h => absurd h c_93) (fun _ => ?_)
                refine lv_iload hx hb dX6_canBeYesBy_144 (lv_at hl 2 rfl) ?_
                refine lv_if_eq (tgt := 153) hx hb dX6_canBeYesBy_146 (by decide) (fun _ => ?_) (fun h => absurd (by decide) h)
                refine lv_iconst (v := 0) hx hb dX6_canBeYesBy_153 (by decide) ?_
                refine lv_istore (lv' := [(5, .int 0), (4, .int zr34), (10, .int zr34), (9, .int 0), (8, .int x_22), (7, .int (nI k_12)), (6, .int (nI i7)), (3, .ref (ea 0)), (0, .ref p0), (1, .int (nI rk)), (2, .int cg)]) hx hb dX6_canBeYesBy_154 hl (by decide) rfl (fun ls hl => ?_)
                refine lv_iinc (v := nI (i7 + 1)) (lv' := [(6, .int (nI (i7 + 1))), (5, .int 0), (4, .int zr34), (10, .int zr34), (9, .int 0), (8, .int x_22), (7, .int (nI k_12)), (3, .ref (ea 0)), (0, .ref p0), (1, .int (nI rk)), (2, .int cg)]) hx hb dX6_canBeYesBy_156 hl (k := 6) rfl (nI_add i7 1) (by decide) rfl (fun ls hl => ?_)
                refine lv_goto (tgt := 21) hx hb dX6_canBeYesBy_159 (by decide) ?_
                exact ih7  zr34 0 ((i7 + 1)) (Or.inl rfl) (by omega) (fun hok9 => by_st (sk := false) (n1 := true) hok9 hc0 hnx (hf1_7 hok9) (by omega) hsl (by rw [← hesk]; exact f_15) f_17 f_18 (fun w9 h9 => by rw [ex_21, nI_clamp (by omega)]; exact hqu rk k_12 w9 hrk (by omega) h9) ex_22 ex_23 ex_24 (decide_eq_false (fun h9 => h9 c_80)).symm (decide_eq_true c_93).symm hb_lb5_7 (ex_30.trans (if_pos rfl).symm) ex_31 ex_32 ex_33 f_35 (if_neg (by decide)).symm (if_neg (by decide)).symm) (by omega) _ _ (hP.sub [17, 0, 1, 18, 19, 20, 15, 16, 2, 14, 3, 4, 5, 6, 7, 8, 9, 10, 11, 12, 13] rfl) (hD.sub [17, 0, 1, 18, 19, 20, 15, 16, 2, 14, 3, 4, 5, 6, 7, 8, 9, 10, 11, 12, 13] (by decide +kernel) rfl) hS ls (lv_sub hl [0, 1, 2, 7, 8, 9, 10] rfl)
            · refine lv_iconst (v := 1) hx hb dX6_canBeYesBy_83 (by decide) ?_
              refine lv_goto (tgt := 88) hx hb dX6_canBeYesBy_84 (by decide) ?_
              refine lv_istore (lv' := [(9, .int 1), (8, .int x_22), (7, .int (nI k_12)), (6, .int (nI i7)), (5, .int lb5_7), (4, .int sv7), (3, .ref (ea 0)), (0, .ref p0), (1, .int (nI rk)), (2, .int cg)]) hx hb dX6_canBeYesBy_88 hl (by decide) rfl (fun ls hl => ?_)
              refine lv_aload_n hx hb dX6_canBeYesBy_90 rfl (lv_at hl 7 rfl) ?_
              refine lv_iload hx hb dX6_canBeYesBy_91 (lv_at hl 4 rfl) ?_
              refine lv_if_eq (tgt := 103) hx hb dX6_canBeYesBy_93 (by decide) (fun c_93 => ?_) (fun c_93 => ?_)
              · refine lv_iload hx hb dX6_canBeYesBy_103 (lv_at hl 5 rfl) ?_
                refine lv_iload hx hb dX6_canBeYesBy_105 (lv_at hl 1 rfl) ?_
                refine lv_aload_n hx hb dX6_canBeYesBy_107 rfl (lv_at hl 6 rfl) ?_
                refine va_get (D := D) (ci := 2) (v := .ref (eg 0)) (C := RX2) (T := TX2) (N := 5) hx hb hg i_X2 hown hK hP 15 rfl rfl 0 (by decide) (hg _ m_513) (fun _ h9 => h9) rfl dX6_canBeYesBy_108 ?_
                refine lv_iload hx hb dX6_canBeYesBy_111 (lv_at hl 2 rfl) ?_
                refine va_iald hx hb hK hP 4 1 rfl rfl (vp_in_nI (by omega) (by decide)) dX6_canBeYesBy_113 ?_
                refine lv_topi (fun x_36 ex_36 => ?_)
                refine lv_iconst (v := -1) hx hb dX6_canBeYesBy_114 (by decide) ?_
                refine lv_ixor hx hb dX6_canBeYesBy_115 ?_
                refine lv_topi (fun x_37 ex_37 => ?_)
                refine lv_iand hx hb dX6_canBeYesBy_116 ?_
                refine lv_topi (fun x_38 ex_38 => ?_)
                refine x_callVi (q := (RX6, TX6, 9)) (ci := 6) (q0 := 0) (wr := [wI (cy 1) p3 4 (fne), wI (cy 1) p4 40 (fqi), (er, .inl (cy 4, 4, .inr (.inr (.inr (.inr (eF (ea 0) (ea 1) (ea 2) (ea 3))))))), wI (cy 1) (eg 0) 10 (gc 0), wI (cy 1) (ef 0) 7 (xc 0), wO (ea 1) 2 [.ref (eg 1), .ref (ef 1), .int (et 1), .int (nI (el 1)), .int (nI (ei 1))], wI (cy 1) (eg 1) 10 (gc 1), wI (cy 1) (ef 1) 7 (xc 1), wO (ea 2) 2 [.ref (eg 2), .ref (ef 2), .int (et 2), .int (nI (el 2)), .int (nI (ei 2))], wI (cy 1) (eg 2) 10 (gc 2), wI (cy 1) (ef 2) 7 (xc 2), wO (ea 3) 2 [.ref (eg 3), .ref (ef 3), .int (et 3), .int (nI (el 3)), .int (nI (ei 3))], wI (cy 1) (eg 3) 10 (gc 3), wI (cy 1) (ef 3) 7 (xc 3), wO (ea 0) 2 [.ref (eg 0), .ref (ef 0), .int (et 0), .int (nI ((el 0))), .int (nI ((ei 0)))], wO s0 7 [.ref s1, .ref s2, .int (nI sl), .int spl, .int svo, .int swi, .int sch], wI (cy 1) s1 10 (fw)]) (rest := []) ⟨hx, hb, hml, hown, hg, hl.1⟩ k_X6_101 (s_led l D cy p0 p1 p2 p3 p4 er ro ch s0 h0 h1 h2 h3 h4 h5 h6 h7 h8 h9 h10 h11 ((.int ys)) hv1 hv2 hv3 hv4 fc c0 c1 c2 c3 fx sv7 x_38 (hcn) (by omega) (by omega) (by omega) (by omega) (hnx)) E0_blind hK hP hD hS hA [16, 17, 18, 2] [0, 1, 3, 4, 5, 6, 7, 8, 9, 10, 11, 12, 13, 14, 15, 19, 20] ⟨rfl, rfl, by decide +kernel, by decide +kernel, by decide +kernel⟩ rfl rfl (fun _ _ _ => trivial) dX6_canBeYesBy_117 rfl rfl (Nat.le_of_ble_eq_true rfl) ⟨Nat.le_of_ble_eq_true rfl, Nat.le_of_ble_eq_true rfl⟩ ⟨Nat.le_of_ble_eq_true rfl, Nat.le_of_ble_eq_true rfl⟩ (fun zr39 zu39 H locs hw39 hP9 hD9 hS9 => ?_)
                clear hP hD hS
                refine reW [wI (cy 1) p3 4 (fne), wI (cy 1) p4 40 (fqi), (er, .inl (cy 4, 4, .inr (.inr (.inr (.inr (eF (ea 0) (ea 1) (ea 2) (ea 3))))))), wI (cy 1) (eg 0) 10 (gc 0), wI (cy 1) (ef 0) 7 (xc 0), wO (ea 1) 2 [.ref (eg 1), .ref (ef 1), .int (et 1), .int (nI (el 1)), .int (nI (ei 1))], wI (cy 1) (eg 1) 10 (gc 1), wI (cy 1) (ef 1) 7 (xc 1), wO (ea 2) 2 [.ref (eg 2), .ref (ef 2), .int (et 2), .int (nI (el 2)), .int (nI (ei 2))], wI (cy 1) (eg 2) 10 (gc 2), wI (cy 1) (ef 2) 7 (xc 2), wO (ea 3) 2 [.ref (eg 3), .ref (ef 3), .int (et 3), .int (nI (el 3)), .int (nI (ei 3))], wI (cy 1) (eg 3) 10 (gc 3), wI (cy 1) (ef 3) 7 (xc 3), wO (ea 0) 2 [.ref (eg 0), .ref (ef 0), .int (et 0), .int (nI ((el 0))), .int (nI ((ei 0)))], wO s0 7 [.ref s1, .ref s2, .int (nI sl), .int spl, .int svo, .int swi, .int sch], wI (cy 1) s1 10 (fw), wO p0 6 [.ref p1, .ref er, .ref ro, .ref p2, .ref p3, .ref p4, .ref h0, .ref s0, .int (nI ch)], wO h0 4 [.ref h1, .ref h2, .ref h3, .ref h4, .ref h5, .ref h6, .ref h7, .ref h8, .ref h9, .ref h10, .ref h11, .int ys, hv1, hv2, hv3, hv4], wI (cy 1) h1 4 (fc), wI (cy 1) h7 48 (fx)] hP9 hD9 hS9 (fun hP hD hS => ?_)
                clear hP9 hD9 hS9
                refine W.widen (k := 0) (n := 0) (Nat.le_of_ble_eq_true rfl) (Nat.le_of_ble_eq_true rfl) ?_
                replace hw39 : (∀ s9 : Nat, s9 < 32 → bt zr39 s9 = orF (ldO fx sv7 x_38 s9) c0) := hw39
                have f_40 := hw39
                refine lv_istore (lv' := [(10, .int zr39), (9, .int 1), (8, .int x_22), (7, .int (nI k_12)), (6, .int (nI i7)), (5, .int lb5_7), (4, .int sv7), (3, .ref (ea 0)), (0, .ref p0), (1, .int (nI rk)), (2, .int cg)]) hx hb dX6_canBeYesBy_120 hl (by decide) rfl (fun ls hl => ?_)
                refine lv_iload hx hb dX6_canBeYesBy_122 (lv_at hl 1 rfl) ?_
                refine lv_if_eq (tgt := 135) hx hb dX6_canBeYesBy_124 (by decide) (fun h => absurd h (by decide)) (fun _ => ?_)
                refine lv_iload hx hb dX6_canBeYesBy_127 (lv_at hl 6 rfl) ?_
                refine lv_iload hx hb dX6_canBeYesBy_129 (lv_at hl 0 rfl) ?_
                refine lv_ior hx hb dX6_canBeYesBy_131 ?_
                refine lv_topi (fun x_41 ex_41 => ?_)
                refine lv_goto (tgt := 137) hx hb dX6_canBeYesBy_132 (by decide) ?_
                refine lv_istore (lv' := [(4, .int x_41), (10, .int zr39), (9, .int 1), (8, .int x_22), (7, .int (nI k_12)), (6, .int (nI i7)), (5, .int lb5_7), (3, .ref (ea 0)), (0, .ref p0), (1, .int (nI rk)), (2, .int cg)]) hx hb dX6_canBeYesBy_137 hl (by decide) rfl (fun ls hl => ?_)
                refine lv_iload hx hb dX6_canBeYesBy_139 (lv_at hl 6 rfl) ?_
                refine lv_if_eq (tgt := 153) hx hb dX6_canBeYesBy_141 (by decide) (fun _ => ?_) (fun h => absurd c_93 h)
                refine lv_iconst (v := 0) hx hb dX6_canBeYesBy_153 (by decide) ?_
                refine lv_istore (lv' := [(5, .int 0), (4, .int x_41), (10, .int zr39), (9, .int 1), (8, .int x_22), (7, .int (nI k_12)), (6, .int (nI i7)), (3, .ref (ea 0)), (0, .ref p0), (1, .int (nI rk)), (2, .int cg)]) hx hb dX6_canBeYesBy_154 hl (by decide) rfl (fun ls hl => ?_)
                refine lv_iinc (v := nI (i7 + 1)) (lv' := [(6, .int (nI (i7 + 1))), (5, .int 0), (4, .int x_41), (10, .int zr39), (9, .int 1), (8, .int x_22), (7, .int (nI k_12)), (3, .ref (ea 0)), (0, .ref p0), (1, .int (nI rk)), (2, .int cg)]) hx hb dX6_canBeYesBy_156 hl (k := 6) rfl (nI_add i7 1) (by decide) rfl (fun ls hl => ?_)
                refine lv_goto (tgt := 21) hx hb dX6_canBeYesBy_159 (by decide) ?_
                exact ih7  x_41 0 ((i7 + 1)) (Or.inl rfl) (by omega) (fun hok9 => by_st (sk := true) (n1 := false) hok9 hc0 hnx (hf1_7 hok9) (by omega) hsl (by rw [← hesk]; exact f_15) f_17 f_18 (fun w9 h9 => by rw [ex_21, nI_clamp (by omega)]; exact hqu rk k_12 w9 hrk (by omega) h9) ex_22 ex_23 ex_24 (decide_eq_true c_80).symm (decide_eq_false (fun h9 => h9 c_93)).symm hb_lb5_7 (if_neg (by decide)).symm ex_36 ex_37 ex_38 f_40 (ex_41.trans (if_pos rfl).symm) (if_neg (by decide)).symm) (by omega) _ _ (hP.sub [17, 0, 1, 18, 19, 20, 15, 16, 2, 14, 3, 4, 5, 6, 7, 8, 9, 10, 11, 12, 13] rfl) (hD.sub [17, 0, 1, 18, 19, 20, 15, 16, 2, 14, 3, 4, 5, 6, 7, 8, 9, 10, 11, 12, 13] (by decide +kernel) rfl) hS ls (lv_sub hl [0, 1, 2, 7, 8, 9, 10] rfl)
              · refine lv_iload hx hb dX6_canBeYesBy_96 (lv_at hl 5 rfl) ?_
                refine lv_iconst (v := 1) hx hb dX6_canBeYesBy_98 (by decide) ?_
                refine lv_ior hx hb dX6_canBeYesBy_99 ?_
                refine lv_topi (fun x_42 ex_42 => ?_)
                refine lv_goto (tgt := 105) hx hb dX6_canBeYesBy_100 (by decide) ?_
                refine lv_iload hx hb dX6_canBeYesBy_105 (lv_at hl 1 rfl) ?_
                refine lv_aload_n hx hb dX6_canBeYesBy_107 rfl (lv_at hl 6 rfl) ?_
                refine va_get (D := D) (ci := 2) (v := .ref (eg 0)) (C := RX2) (T := TX2) (N := 5) hx hb hg i_X2 hown hK hP 15 rfl rfl 0 (by decide) (hg _ m_513) (fun _ h9 => h9) rfl dX6_canBeYesBy_108 ?_
                refine lv_iload hx hb dX6_canBeYesBy_111 (lv_at hl 2 rfl) ?_
                refine va_iald hx hb hK hP 4 1 rfl rfl (vp_in_nI (by omega) (by decide)) dX6_canBeYesBy_113 ?_
                refine lv_topi (fun x_43 ex_43 => ?_)
                refine lv_iconst (v := -1) hx hb dX6_canBeYesBy_114 (by decide) ?_
                refine lv_ixor hx hb dX6_canBeYesBy_115 ?_
                refine lv_topi (fun x_44 ex_44 => ?_)
                refine lv_iand hx hb dX6_canBeYesBy_116 ?_
                refine lv_topi (fun x_45 ex_45 => ?_)
                refine x_callVi (q := (RX6, TX6, 9)) (ci := 6) (q0 := 0) (wr := [wI (cy 1) p3 4 (fne), wI (cy 1) p4 40 (fqi), (er, .inl (cy 4, 4, .inr (.inr (.inr (.inr (eF (ea 0) (ea 1) (ea 2) (ea 3))))))), wI (cy 1) (eg 0) 10 (gc 0), wI (cy 1) (ef 0) 7 (xc 0), wO (ea 1) 2 [.ref (eg 1), .ref (ef 1), .int (et 1), .int (nI (el 1)), .int (nI (ei 1))], wI (cy 1) (eg 1) 10 (gc 1), wI (cy 1) (ef 1) 7 (xc 1), wO (ea 2) 2 [.ref (eg 2), .ref (ef 2), .int (et 2), .int (nI (el 2)), .int (nI (ei 2))], wI (cy 1) (eg 2) 10 (gc 2), wI (cy 1) (ef 2) 7 (xc 2), wO (ea 3) 2 [.ref (eg 3), .ref (ef 3), .int (et 3), .int (nI (el 3)), .int (nI (ei 3))], wI (cy 1) (eg 3) 10 (gc 3), wI (cy 1) (ef 3) 7 (xc 3), wO (ea 0) 2 [.ref (eg 0), .ref (ef 0), .int (et 0), .int (nI ((el 0))), .int (nI ((ei 0)))], wO s0 7 [.ref s1, .ref s2, .int (nI sl), .int spl, .int svo, .int swi, .int sch], wI (cy 1) s1 10 (fw)]) (rest := []) ⟨hx, hb, hml, hown, hg, hl.1⟩ k_X6_101 (s_led l D cy p0 p1 p2 p3 p4 er ro ch s0 h0 h1 h2 h3 h4 h5 h6 h7 h8 h9 h10 h11 ((.int ys)) hv1 hv2 hv3 hv4 fc c0 c1 c2 c3 fx x_42 x_45 (hcn) (by omega) (by omega) (by omega) (by omega) (hnx)) E0_blind hK hP hD hS hA [16, 17, 18, 2] [0, 1, 3, 4, 5, 6, 7, 8, 9, 10, 11, 12, 13, 14, 15, 19, 20] ⟨rfl, rfl, by decide +kernel, by decide +kernel, by decide +kernel⟩ rfl rfl (fun _ _ _ => trivial) dX6_canBeYesBy_117 rfl rfl (Nat.le_of_ble_eq_true rfl) ⟨Nat.le_of_ble_eq_true rfl, Nat.le_of_ble_eq_true rfl⟩ ⟨Nat.le_of_ble_eq_true rfl, Nat.le_of_ble_eq_true rfl⟩ (fun zr46 zu46 H locs hw46 hP9 hD9 hS9 => ?_)
                clear hP hD hS
                refine reW [wI (cy 1) p3 4 (fne), wI (cy 1) p4 40 (fqi), (er, .inl (cy 4, 4, .inr (.inr (.inr (.inr (eF (ea 0) (ea 1) (ea 2) (ea 3))))))), wI (cy 1) (eg 0) 10 (gc 0), wI (cy 1) (ef 0) 7 (xc 0), wO (ea 1) 2 [.ref (eg 1), .ref (ef 1), .int (et 1), .int (nI (el 1)), .int (nI (ei 1))], wI (cy 1) (eg 1) 10 (gc 1), wI (cy 1) (ef 1) 7 (xc 1), wO (ea 2) 2 [.ref (eg 2), .ref (ef 2), .int (et 2), .int (nI (el 2)), .int (nI (ei 2))], wI (cy 1) (eg 2) 10 (gc 2), wI (cy 1) (ef 2) 7 (xc 2), wO (ea 3) 2 [.ref (eg 3), .ref (ef 3), .int (et 3), .int (nI (el 3)), .int (nI (ei 3))], wI (cy 1) (eg 3) 10 (gc 3), wI (cy 1) (ef 3) 7 (xc 3), wO (ea 0) 2 [.ref (eg 0), .ref (ef 0), .int (et 0), .int (nI ((el 0))), .int (nI ((ei 0)))], wO s0 7 [.ref s1, .ref s2, .int (nI sl), .int spl, .int svo, .int swi, .int sch], wI (cy 1) s1 10 (fw), wO p0 6 [.ref p1, .ref er, .ref ro, .ref p2, .ref p3, .ref p4, .ref h0, .ref s0, .int (nI ch)], wO h0 4 [.ref h1, .ref h2, .ref h3, .ref h4, .ref h5, .ref h6, .ref h7, .ref h8, .ref h9, .ref h10, .ref h11, .int ys, hv1, hv2, hv3, hv4], wI (cy 1) h1 4 (fc), wI (cy 1) h7 48 (fx)] hP9 hD9 hS9 (fun hP hD hS => ?_)
                clear hP9 hD9 hS9
                refine W.widen (k := 0) (n := 0) (Nat.le_of_ble_eq_true rfl) (Nat.le_of_ble_eq_true rfl) ?_
                replace hw46 : (∀ s9 : Nat, s9 < 32 → bt zr46 s9 = orF (ldO fx x_42 x_45 s9) c0) := hw46
                have f_47 := hw46
                refine lv_istore (lv' := [(10, .int zr46), (9, .int 1), (8, .int x_22), (7, .int (nI k_12)), (6, .int (nI i7)), (5, .int lb5_7), (4, .int sv7), (3, .ref (ea 0)), (0, .ref p0), (1, .int (nI rk)), (2, .int cg)]) hx hb dX6_canBeYesBy_120 hl (by decide) rfl (fun ls hl => ?_)
                refine lv_iload hx hb dX6_canBeYesBy_122 (lv_at hl 1 rfl) ?_
                refine lv_if_eq (tgt := 135) hx hb dX6_canBeYesBy_124 (by decide) (fun h => absurd h (by decide)) (fun _ => ?_)
                refine lv_iload hx hb dX6_canBeYesBy_127 (lv_at hl 6 rfl) ?_
                refine lv_iload hx hb dX6_canBeYesBy_129 (lv_at hl 0 rfl) ?_
                refine lv_ior hx hb dX6_canBeYesBy_131 ?_
                refine lv_topi (fun x_48 ex_48 => ?_)
                refine lv_goto (tgt := 137) hx hb dX6_canBeYesBy_132 (by decide) ?_
                refine lv_istore (lv' := [(4, .int x_48), (10, .int zr46), (9, .int 1), (8, .int x_22), (7, .int (nI k_12)), (6, .int (nI i7)), (5, .int lb5_7), (3, .ref (ea 0)), (0, .ref p0), (1, .int (nI rk)), (2, .int cg)]) hx hb dX6_canBeYesBy_137 hl (by decide) rfl (fun ls hl => ?_)
                refine lv_iload hx hb dX6_canBeYesBy_139 (lv_at hl 6 rfl) ?_
                refine lv_if_eq (tgt := 153) hx hb dX6_canBeYesBy_141 (by decide) (fun h => absurd h c_93) (fun _ => ?_)
                refine lv_iload hx hb dX6_canBeYesBy_144 (lv_at hl 2 rfl) ?_
                refine lv_if_eq (tgt := 153) hx hb dX6_canBeYesBy_146 (by decide) (fun h => absurd h (by decide)) (fun _ => ?_)
                refine lv_iconst (v := 1) hx hb dX6_canBeYesBy_149 (by decide) ?_
                refine lv_goto (tgt := 154) hx hb dX6_canBeYesBy_150 (by decide) ?_
                refine lv_istore (lv' := [(5, .int 1), (4, .int x_48), (10, .int zr46), (9, .int 1), (8, .int x_22), (7, .int (nI k_12)), (6, .int (nI i7)), (3, .ref (ea 0)), (0, .ref p0), (1, .int (nI rk)), (2, .int cg)]) hx hb dX6_canBeYesBy_154 hl (by decide) rfl (fun ls hl => ?_)
                refine lv_iinc (v := nI (i7 + 1)) (lv' := [(6, .int (nI (i7 + 1))), (5, .int 1), (4, .int x_48), (10, .int zr46), (9, .int 1), (8, .int x_22), (7, .int (nI k_12)), (3, .ref (ea 0)), (0, .ref p0), (1, .int (nI rk)), (2, .int cg)]) hx hb dX6_canBeYesBy_156 hl (k := 6) rfl (nI_add i7 1) (by decide) rfl (fun ls hl => ?_)
                refine lv_goto (tgt := 21) hx hb dX6_canBeYesBy_159 (by decide) ?_
                exact ih7  x_48 1 ((i7 + 1)) (Or.inr rfl) (by omega) (fun hok9 => by_st (sk := true) (n1 := true) hok9 hc0 hnx (hf1_7 hok9) (by omega) hsl (by rw [← hesk]; exact f_15) f_17 f_18 (fun w9 h9 => by rw [ex_21, nI_clamp (by omega)]; exact hqu rk k_12 w9 hrk (by omega) h9) ex_22 ex_23 ex_24 (decide_eq_true c_80).symm (decide_eq_true c_93).symm hb_lb5_7 (ex_42.trans (if_pos rfl).symm) ex_43 ex_44 ex_45 f_47 (ex_48.trans (if_pos rfl).symm) (if_pos rfl).symm) (by omega) _ _ (hP.sub [17, 0, 1, 18, 19, 20, 15, 16, 2, 14, 3, 4, 5, 6, 7, 8, 9, 10, 11, 12, 13] rfl) (hD.sub [17, 0, 1, 18, 19, 20, 15, 16, 2, 14, 3, 4, 5, 6, 7, 8, 9, 10, 11, 12, 13] (by decide +kernel) rfl) hS ls (lv_sub hl [0, 1, 2, 7, 8, 9, 10] rfl)
          · refine lv_iconst (v := 0) hx hb dX6_canBeYesBy_68 (by decide) ?_
            exact x_zret hQ hx hb hr hlocks hK hP hD hS rfl dX6_canBeYesBy_69 () (⟨(Or.inl rfl), (fun hok9 => by rw [show (fne rk).toNatClampNeg = 0 from (by rw [at_cl (by omega) ej_5]; rfl)]; exact by_r0 (by_m0 hc0 (by omega) (by rw [← hesk]; exact f_15) f_17 (fun w9 h9 => by rw [ex_21, nI_clamp (by omega)]; exact hqu rk k_12 w9 hrk (by omega) h9) ex_22 c_65))⟩) [16, 0, 1, 17, 18, 2, 19, 20, 3, 15, 4, 5, 6, 7, 8, 9, 10, 11, 12, 13, 14] (by decide +kernel) rfl (Nat.le_of_ble_eq_true rfl) (Nat.le_of_ble_eq_true rfl)
    exact loop7 _ 0 1 0 (Or.inr rfl) (by omega) (fun _ => by_0) (Nat.le_refl _) _ _ (hP.sub [0, 1, 2, 3, 4, 5, 6, 7, 8, 9, 10, 11, 12, 13, 14, 15, 16, 17, 18, 19, 20] rfl) (hD.sub [0, 1, 2, 3, 4, 5, 6, 7, 8, 9, 10, 11, 12, 13, 14, 15, 16, 17, 18, 19, 20] (by decide +kernel) rfl) hS ls (lv_sub hl [0, 1, 2, 3, 4, 5, 6] rfl)
  · subst hsp
    refine va_aldq hx hb hK hP 8 4 rfl rfl (by unfold vp_in; decide) dX6_canBeYesBy_10 ?_
    refine W.eq (g2 := F0 m 11 ls [.ref (ea 1)]) rfl ?_
    have hesk := hes 1 (by omega)
    refine lv_astore_n (lv' := [(3, .ref (ea 1)), (0, .ref p0), (1, .int (nI rk)), (2, .int cg)]) hx hb dX6_canBeYesBy_11 rfl hl (by decide) rfl (fun ls hl => ?_)
    refine lv_iconst (v := 0) hx hb dX6_canBeYesBy_12 (by decide) ?_
    refine lv_istore (lv' := [(4, .int 0), (3, .ref (ea 1)), (0, .ref p0), (1, .int (nI rk)), (2, .int cg)]) hx hb dX6_canBeYesBy_13 hl (by decide) rfl (fun ls hl => ?_)
    refine lv_iconst (v := 1) hx hb dX6_canBeYesBy_15 (by decide) ?_
    refine lv_istore (lv' := [(5, .int 1), (4, .int 0), (3, .ref (ea 1)), (0, .ref p0), (1, .int (nI rk)), (2, .int cg)]) hx hb dX6_canBeYesBy_16 hl (by decide) rfl (fun ls hl => ?_)
    refine lv_iconst (v := 0) hx hb dX6_canBeYesBy_18 (by decide) ?_
    refine lv_istore (lv' := [(6, .int 0), (5, .int 1), (4, .int 0), (3, .ref (ea 1)), (0, .ref p0), (1, .int (nI rk)), (2, .int cg)]) hx hb dX6_canBeYesBy_19 hl (by decide) rfl (fun ls hl => ?_)
    have loop49 : ∀ (zn : Nat) (sv49 : Int32) (lb5_49 : Int32) (i49 : Nat), (lb5_49 = 0 ∨ lb5_49 = 1) → (i49 ≤ sl) → (okW c0 fw sl → byI fx (gc 1) (mvB c0 fw cg gc fne rk) (plS (et 1) sl) c0 i49 sv49 lb5_49) → sl - i49 + 1 ≤ zn → ∀ (H : Heap) (locs : List Loc), va_P D vwCl [wO p0 6 [.ref p1, .ref er, .ref ro, .ref p2, .ref p3, .ref p4, .ref h0, .ref s0, .int (nI ch)], wI (cy 1) p3 4 (fne), wI (cy 1) p4 40 (fqi), wO h0 4 [.ref h1, .ref h2, .ref h3, .ref h4, .ref h5, .ref h6, .ref h7, .ref h8, .ref h9, .ref h10, .ref h11, .int ys, hv1, hv2, hv3, hv4], wI (cy 1) h1 4 (fc), wI (cy 1) h7 48 (fx), wO s0 7 [.ref s1, .ref s2, .int (nI sl), .int spl, .int svo, .int swi, .int sch], wI (cy 1) s1 10 (fw), (er, .inl (cy 4, 4, .inr (.inr (.inr (.inr (eF (ea 0) (ea 1) (ea 2) (ea 3))))))), wO (ea 0) 2 [.ref (eg 0), .ref (ef 0), .int (et 0), .int (nI (el 0)), .int (nI (ei 0))], wI (cy 1) (eg 0) 10 (gc 0), wI (cy 1) (ef 0) 7 (xc 0), wO (ea 1) 2 [.ref (eg 1), .ref (ef 1), .int (et 1), .int (nI (el 1)), .int (nI (ei 1))], wI (cy 1) (eg 1) 10 (gc 1), wI (cy 1) (ef 1) 7 (xc 1), wO (ea 2) 2 [.ref (eg 2), .ref (ef 2), .int (et 2), .int (nI (el 2)), .int (nI (ei 2))], wI (cy 1) (eg 2) 10 (gc 2), wI (cy 1) (ef 2) 7 (xc 2), wO (ea 3) 2 [.ref (eg 3), .ref (ef 3), .int (et 3), .int (nI (el 3)), .int (nI (ei 3))], wI (cy 1) (eg 3) 10 (gc 3), wI (cy 1) (ef 3) 7 (xc 3)] H → va_D A [wO p0 6 [.ref p1, .ref er, .ref ro, .ref p2, .ref p3, .ref p4, .ref h0, .ref s0, .int (nI ch)], wI (cy 1) p3 4 (fne), wI (cy 1) p4 40 (fqi), wO h0 4 [.ref h1, .ref h2, .ref h3, .ref h4, .ref h5, .ref h6, .ref h7, .ref h8, .ref h9, .ref h10, .ref h11, .int ys, hv1, hv2, hv3, hv4], wI (cy 1) h1 4 (fc), wI (cy 1) h7 48 (fx), wO s0 7 [.ref s1, .ref s2, .int (nI sl), .int spl, .int svo, .int swi, .int sch], wI (cy 1) s1 10 (fw), (er, .inl (cy 4, 4, .inr (.inr (.inr (.inr (eF (ea 0) (ea 1) (ea 2) (ea 3))))))), wO (ea 0) 2 [.ref (eg 0), .ref (ef 0), .int (et 0), .int (nI (el 0)), .int (nI (ei 0))], wI (cy 1) (eg 0) 10 (gc 0), wI (cy 1) (ef 0) 7 (xc 0), wO (ea 1) 2 [.ref (eg 1), .ref (ef 1), .int (et 1), .int (nI (el 1)), .int (nI (ei 1))], wI (cy 1) (eg 1) 10 (gc 1), wI (cy 1) (ef 1) 7 (xc 1), wO (ea 2) 2 [.ref (eg 2), .ref (ef 2), .int (et 2), .int (nI (el 2)), .int (nI (ei 2))], wI (cy 1) (eg 2) 10 (gc 2), wI (cy 1) (ef 2) 7 (xc 2), wO (ea 3) 2 [.ref (eg 3), .ref (ef 3), .int (et 3), .int (nI (el 3)), .int (nI (ei 3))], wI (cy 1) (eg 3) 10 (gc 3), wI (cy 1) (ef 3) 7 (xc 3)] → va_S A s.heap H locs → ∀ ls : Array Slot, lv_has ls 11 [(6, .int (nI i49)), (5, .int lb5_49), (4, .int sv49), (3, .ref (ea 1)), (0, .ref p0), (1, .int (nI rk)), (2, .int cg)] → W p l e (rmk 1 0 0) s m args below meth c H locs 0 0 Q (F0 m 21 ls []) := by
      try clear hP hD hS
      intro zn
      induction zn with
      | zero => intro sv49 lb5_49 i49 _ _ _ hz; exact absurd hz (by omega)
      | succ zn ih49 =>
        intro sv49 lb5_49 i49 hb_lb5_49 hf0_49 hf1_49 hmu49 H locs hP hD hS ls hl
        refine lv_iload hx hb dX6_canBeYesBy_21 (lv_at hl 0 rfl) ?_
        refine lv_aload_n hx hb dX6_canBeYesBy_23 rfl (lv_at hl 4 rfl) ?_
        refine va_get (D := D) (ci := 6) (v := .ref s0) (C := RX6) (T := TX6) (N := 9) hx hb hg i_X6 hown hK hP 0 rfl rfl 7 (by decide) (hg _ m_592) (fun _ h9 => h9) rfl dX6_canBeYesBy_24 ?_
        refine va_get (D := D) (ci := 7) (v := .int (nI sl)) (C := RX7) (T := TX7) (N := 7) hx hb hg i_X7 hown hK hP 6 rfl rfl 2 (by decide) (hg _ m_630) (fun _ h9 => h9) rfl dX6_canBeYesBy_27 ?_
        refine lv_icmp_ge (tgt := 162) hx hb dX6_canBeYesBy_30 (by decide) (fun c_50 => ?_) (fun c_50 => ?_)
        · have q_51 : sl ≤ i49 := q_le (a := sl) (b := i49) rfl rfl (by omega) (by omega) c_50
          refine lv_iload hx hb dX6_canBeYesBy_162 (lv_at hl 2 rfl) ?_
          refine lv_aload_n hx hb dX6_canBeYesBy_164 rfl (lv_at hl 4 rfl) ?_
          refine va_get (D := D) (ci := 6) (v := .ref h0) (C := RX6) (T := TX6) (N := 9) hx hb hg i_X6 hown hK hP 0 rfl rfl 6 (by decide) (hg _ m_591) (fun _ h9 => h9) rfl dX6_canBeYesBy_165 ?_
          refine va_get (D := D) (ci := 4) (v := .int ys) (C := RX4) (T := TX4) (N := 16) hx hb hg i_X4 hown hK hP 3 rfl rfl 11 (by decide) (hg _ m_370) (fun _ h9 => h9) rfl dX6_canBeYesBy_168 ?_
          refine lv_iand hx hb dX6_canBeYesBy_171 ?_
          refine lv_topi (fun x_52 ex_52 => ?_)
          refine lv_if_eq (tgt := 179) hx hb dX6_canBeYesBy_172 (by decide) (fun c_172 => ?_) (fun c_172 => ?_)
          · refine lv_iconst (v := 0) hx hb dX6_canBeYesBy_179 (by decide) ?_
            exact x_zret hQ hx hb hr hlocks hK hP hD hS rfl dX6_canBeYesBy_180 () (⟨(Or.inl rfl), (fun hok9 => by rw [show (fne rk).toNatClampNeg = 1 from (by rw [at_cl (by omega) ej_5]; rfl)]; exact by_r0 (by_e0 hc0 hnx (by have h8 := hf1_49 hok9; rw [show i49 = sl by omega] at h8; exact h8) ex_52 c_172))⟩) [0, 1, 2, 3, 4, 5, 6, 7, 8, 9, 10, 11, 12, 13, 14, 15, 16, 17, 18, 19, 20] (by decide +kernel) rfl (Nat.le_of_ble_eq_true rfl) (Nat.le_of_ble_eq_true rfl)
          · refine lv_iconst (v := 1) hx hb dX6_canBeYesBy_175 (by decide) ?_
            refine lv_goto (tgt := 180) hx hb dX6_canBeYesBy_176 (by decide) ?_
            exact x_zret hQ hx hb hr hlocks hK hP hD hS rfl dX6_canBeYesBy_180 () (⟨(Or.inr rfl), (fun hok9 => by rw [show (fne rk).toNatClampNeg = 1 from (by rw [at_cl (by omega) ej_5]; rfl)]; exact by_r1 (by_e1 hc0 hnx (by have h8 := hf1_49 hok9; rw [show i49 = sl by omega] at h8; exact h8) ex_52 c_172))⟩) [0, 1, 2, 3, 4, 5, 6, 7, 8, 9, 10, 11, 12, 13, 14, 15, 16, 17, 18, 19, 20] (by decide +kernel) rfl (Nat.le_of_ble_eq_true rfl) (Nat.le_of_ble_eq_true rfl)
        · have q_51 : i49 < sl := q_nle (a := sl) (b := i49) rfl rfl (by omega) (by omega) c_50
          refine lv_aload_n hx hb dX6_canBeYesBy_33 rfl (lv_at hl 3 rfl) ?_
          refine lv_iload hx hb dX6_canBeYesBy_34 (lv_at hl 0 rfl) ?_
          refine x_callVi (q := (RX2, TX2, 5)) (ci := 2) (q0 := 0) (wr := [wO p0 6 [.ref p1, .ref er, .ref ro, .ref p2, .ref p3, .ref p4, .ref h0, .ref s0, .int (nI ch)], wI (cy 1) p3 4 (fne), wI (cy 1) p4 40 (fqi), wO h0 4 [.ref h1, .ref h2, .ref h3, .ref h4, .ref h5, .ref h6, .ref h7, .ref h8, .ref h9, .ref h10, .ref h11, .int ys, hv1, hv2, hv3, hv4], wI (cy 1) h1 4 (fc), wI (cy 1) h7 48 (fx), wO s0 7 [.ref s1, .ref s2, .int (nI sl), .int spl, .int svo, .int swi, .int sch], wI (cy 1) s1 10 (fw), (er, .inl (cy 4, 4, .inr (.inr (.inr (.inr (eF (ea 0) (ea 1) (ea 2) (ea 3))))))), wO (ea 0) 2 [.ref (eg 0), .ref (ef 0), .int (et 0), .int (nI (el 0)), .int (nI (ei 0))], wI (cy 1) (eg 0) 10 (gc 0), wI (cy 1) (ef 0) 7 (xc 0), wI (cy 1) (eg 1) 10 (gc 1), wI (cy 1) (ef 1) 7 (xc 1), wO (ea 2) 2 [.ref (eg 2), .ref (ef 2), .int (et 2), .int (nI (el 2)), .int (nI (ei 2))], wI (cy 1) (eg 2) 10 (gc 2), wI (cy 1) (ef 2) 7 (xc 2), wO (ea 3) 2 [.ref (eg 3), .ref (ef 3), .int (et 3), .int (nI (el 3)), .int (nI (ei 3))], wI (cy 1) (eg 3) 10 (gc 3), wI (cy 1) (ef 3) 7 (xc 3)]) (rest := []) ⟨hx, hb, hml, hown, hg, hl.1⟩ k_X6_94 (s_placeOf l D cy (ea 1) (eg 1) (ef 1) (et 1) ((el 1)) ((ei 1)) i49 (by omega) (by omega)) E0_blind hK hP hD hS hA [12] [0, 1, 2, 3, 4, 5, 6, 7, 8, 9, 10, 11, 13, 14, 15, 16, 17, 18, 19, 20] ⟨rfl, rfl, by decide +kernel, by decide +kernel, by decide +kernel⟩ rfl rfl (fun _ _ _ => trivial) dX6_canBeYesBy_36 rfl rfl (Nat.le_of_ble_eq_true rfl) ⟨Nat.le_of_ble_eq_true rfl, Nat.le_of_ble_eq_true rfl⟩ ⟨Nat.le_of_ble_eq_true rfl, Nat.le_of_ble_eq_true rfl⟩ (fun zr53 zu53 H locs hw53 hP9 hD9 hS9 => ?_)
          clear hP hD hS
          obtain ⟨k_54, rfl⟩ : ∃ z, z = zu53 := ⟨_, rfl⟩
          refine reW [wO p0 6 [.ref p1, .ref er, .ref ro, .ref p2, .ref p3, .ref p4, .ref h0, .ref s0, .int (nI ch)], wI (cy 1) p3 4 (fne), wI (cy 1) p4 40 (fqi), wO h0 4 [.ref h1, .ref h2, .ref h3, .ref h4, .ref h5, .ref h6, .ref h7, .ref h8, .ref h9, .ref h10, .ref h11, .int ys, hv1, hv2, hv3, hv4], wI (cy 1) h1 4 (fc), wI (cy 1) h7 48 (fx), wO s0 7 [.ref s1, .ref s2, .int (nI sl), .int spl, .int svo, .int swi, .int sch], wI (cy 1) s1 10 (fw), (er, .inl (cy 4, 4, .inr (.inr (.inr (.inr (eF (ea 0) (ea 1) (ea 2) (ea 3))))))), wO (ea 0) 2 [.ref (eg 0), .ref (ef 0), .int (et 0), .int (nI (el 0)), .int (nI (ei 0))], wI (cy 1) (eg 0) 10 (gc 0), wI (cy 1) (ef 0) 7 (xc 0), wI (cy 1) (eg 1) 10 (gc 1), wI (cy 1) (ef 1) 7 (xc 1), wO (ea 2) 2 [.ref (eg 2), .ref (ef 2), .int (et 2), .int (nI (el 2)), .int (nI (ei 2))], wI (cy 1) (eg 2) 10 (gc 2), wI (cy 1) (ef 2) 7 (xc 2), wO (ea 3) 2 [.ref (eg 3), .ref (ef 3), .int (et 3), .int (nI (el 3)), .int (nI (ei 3))], wI (cy 1) (eg 3) 10 (gc 3), wI (cy 1) (ef 3) 7 (xc 3), wO (ea 1) 2 [.ref (eg 1), .ref (ef 1), .int (et 1), .int (nI ((el 1))), .int (nI ((ei 1)))]] hP9 hD9 hS9 (fun hP hD hS => ?_)
          clear hP9 hD9 hS9
          refine W.widen (k := 0) (n := 0) (Nat.le_of_ble_eq_true rfl) (Nat.le_of_ble_eq_true rfl) ?_
          replace hw53 : (zr53 = nI k_54) ∧ (k_54 < ((el 1))) ∧ (k_54 = plS (et 1) ((el 1)) i49) := hw53
          obtain ⟨f_55, f_56, f_57⟩ := hw53
          subst f_55
          refine lv_istore (lv' := [(7, .int (nI k_54)), (6, .int (nI i49)), (5, .int lb5_49), (4, .int sv49), (3, .ref (ea 1)), (0, .ref p0), (1, .int (nI rk)), (2, .int cg)]) hx hb dX6_canBeYesBy_39 hl (by decide) rfl (fun ls hl => ?_)
          refine lv_aload_n hx hb dX6_canBeYesBy_41 rfl (lv_at hl 5 rfl) ?_
          refine lv_iload hx hb dX6_canBeYesBy_42 (lv_at hl 0 rfl) ?_
          refine lv_iload_n hx hb dX6_canBeYesBy_44 rfl (lv_at hl 7 rfl) ?_
          refine x_callVi (q := (RX6, TX6, 9)) (ci := 6) (q0 := 0) (wr := [wI (cy 1) p3 4 (fne), wI (cy 1) p4 40 (fqi), wI (cy 1) h7 48 (fx), (er, .inl (cy 4, 4, .inr (.inr (.inr (.inr (eF (ea 0) (ea 1) (ea 2) (ea 3))))))), wO (ea 0) 2 [.ref (eg 0), .ref (ef 0), .int (et 0), .int (nI (el 0)), .int (nI (ei 0))], wI (cy 1) (eg 0) 10 (gc 0), wI (cy 1) (ef 0) 7 (xc 0), wI (cy 1) (eg 1) 10 (gc 1), wI (cy 1) (ef 1) 7 (xc 1), wO (ea 2) 2 [.ref (eg 2), .ref (ef 2), .int (et 2), .int (nI (el 2)), .int (nI (ei 2))], wI (cy 1) (eg 2) 10 (gc 2), wI (cy 1) (ef 2) 7 (xc 2), wO (ea 3) 2 [.ref (eg 3), .ref (ef 3), .int (et 3), .int (nI (el 3)), .int (nI (ei 3))], wI (cy 1) (eg 3) 10 (gc 3), wI (cy 1) (ef 3) 7 (xc 3), wO (ea 1) 2 [.ref (eg 1), .ref (ef 1), .int (et 1), .int (nI ((el 1))), .int (nI ((ei 1)))]]) (rest := []) ⟨hx, hb, hml, hown, hg, hl.1⟩ k_X6_98 (s_choices l D cy p0 p1 p2 p3 p4 er ro ch h0 h1 h2 h3 h4 h5 h6 h7 h8 h9 h10 h11 ((.int ys)) hv1 hv2 hv3 hv4 fc c0 c1 c2 c3 s0 s1 s2 sl spl svo swi sch fw k_54 cg (hcn) (by omega) (by omega) (by omega) (by omega) (hsw) (by omega)) E0_blind hK hP hD hS hA [0, 3, 4, 6, 7] [1, 2, 5, 8, 9, 10, 11, 12, 13, 14, 15, 16, 17, 18, 19, 20] ⟨rfl, rfl, by decide +kernel, by decide +kernel, by decide +kernel⟩ rfl rfl (fun _ _ _ => trivial) dX6_canBeYesBy_45 rfl rfl (Nat.le_of_ble_eq_true rfl) ⟨Nat.le_of_ble_eq_true rfl, Nat.le_of_ble_eq_true rfl⟩ ⟨Nat.le_of_ble_eq_true rfl, Nat.le_of_ble_eq_true rfl⟩ (fun zr58 zu58 H locs hw58 hP9 hD9 hS9 => ?_)
          clear hP hD hS
          refine reW [wI (cy 1) p3 4 (fne), wI (cy 1) p4 40 (fqi), wI (cy 1) h7 48 (fx), (er, .inl (cy 4, 4, .inr (.inr (.inr (.inr (eF (ea 0) (ea 1) (ea 2) (ea 3))))))), wO (ea 0) 2 [.ref (eg 0), .ref (ef 0), .int (et 0), .int (nI (el 0)), .int (nI (ei 0))], wI (cy 1) (eg 0) 10 (gc 0), wI (cy 1) (ef 0) 7 (xc 0), wI (cy 1) (eg 1) 10 (gc 1), wI (cy 1) (ef 1) 7 (xc 1), wO (ea 2) 2 [.ref (eg 2), .ref (ef 2), .int (et 2), .int (nI (el 2)), .int (nI (ei 2))], wI (cy 1) (eg 2) 10 (gc 2), wI (cy 1) (ef 2) 7 (xc 2), wO (ea 3) 2 [.ref (eg 3), .ref (ef 3), .int (et 3), .int (nI (el 3)), .int (nI (ei 3))], wI (cy 1) (eg 3) 10 (gc 3), wI (cy 1) (ef 3) 7 (xc 3), wO (ea 1) 2 [.ref (eg 1), .ref (ef 1), .int (et 1), .int (nI ((el 1))), .int (nI ((ei 1)))], wO p0 6 [.ref p1, .ref er, .ref ro, .ref p2, .ref p3, .ref p4, .ref h0, .ref s0, .int (nI ch)], wO h0 4 [.ref h1, .ref h2, .ref h3, .ref h4, .ref h5, .ref h6, .ref h7, .ref h8, .ref h9, .ref h10, .ref h11, .int ys, hv1, hv2, hv3, hv4], wI (cy 1) h1 4 (fc), wO s0 7 [.ref s1, .ref s2, .int (nI sl), .int spl, .int svo, .int swi, .int sch], wI (cy 1) s1 10 (fw)] hP9 hD9 hS9 (fun hP hD hS => ?_)
          clear hP9 hD9 hS9
          refine W.widen (k := 0) (n := 0) (Nat.le_of_ble_eq_true rfl) (Nat.le_of_ble_eq_true rfl) ?_
          replace hw58 : (∀ w9 : Nat, w9 < 8 → bt zr58 w9 = chB c0 fw cg k_54 w9) ∧ (∀ w9 : Nat, 8 ≤ w9 → w9 < 32 → bt zr58 w9 = false) := hw58
          obtain ⟨f_59, f_60⟩ := hw58
          refine lv_aload_n hx hb dX6_canBeYesBy_48 rfl (lv_at hl 5 rfl) ?_
          refine va_get (D := D) (ci := 6) (v := .ref p4) (C := RX6) (T := TX6) (N := 9) hx hb hg i_X6 hown hK hP 16 rfl rfl 5 (by decide) (hg _ m_590) (fun _ h9 => h9) rfl dX6_canBeYesBy_49 ?_
          refine lv_iload_n hx hb dX6_canBeYesBy_52 rfl (lv_at hl 6 rfl) ?_
          refine lv_bipush (v := 10) hx hb dX6_canBeYesBy_53 (by decide) ?_
          refine lv_imul hx hb dX6_canBeYesBy_55 ?_
          refine lv_topi (fun y_61 hy_61 => ?_)
          obtain rfl : y_61 = nI (rk * 10) := hy_61.trans (pk_mul rk 10)
          refine lv_iload hx hb dX6_canBeYesBy_56 (lv_at hl 0 rfl) ?_
          refine lv_iadd hx hb dX6_canBeYesBy_58 ?_
          refine lv_topi (fun y_62 hy_62 => ?_)
          obtain rfl : y_62 = nI ((rk * 10) + k_54) := hy_62.trans (nI_add ((rk * 10)) k_54)
          refine va_iald hx hb hK hP 1 1 rfl rfl (vp_in_nI (by omega) (by decide)) dX6_canBeYesBy_59 ?_
          refine lv_topi (fun x_63 ex_63 => ?_)
          refine lv_iand hx hb dX6_canBeYesBy_60 ?_
          refine lv_topi (fun x_64 ex_64 => ?_)
          refine lv_istore (lv' := [(8, .int x_64), (7, .int (nI k_54)), (6, .int (nI i49)), (5, .int lb5_49), (4, .int sv49), (3, .ref (ea 1)), (0, .ref p0), (1, .int (nI rk)), (2, .int cg)]) hx hb dX6_canBeYesBy_61 hl (by decide) rfl (fun ls hl => ?_)
          refine lv_iload hx hb dX6_canBeYesBy_63 (lv_at hl 0 rfl) ?_
          refine lv_if_ne (tgt := 70) hx hb dX6_canBeYesBy_65 (by decide) (fun c_65 => ?_) (fun c_65 => ?_)
          · refine lv_iload hx hb dX6_canBeYesBy_70 (lv_at hl 0 rfl) ?_
            refine lv_aload_n hx hb dX6_canBeYesBy_72 rfl (lv_at hl 5 rfl) ?_
            refine va_get (D := D) (ci := 2) (v := .ref (eg 1)) (C := RX2) (T := TX2) (N := 5) hx hb hg i_X2 hown hK hP 15 rfl rfl 0 (by decide) (hg _ m_513) (fun _ h9 => h9) rfl dX6_canBeYesBy_73 ?_
            refine lv_iload hx hb dX6_canBeYesBy_76 (lv_at hl 1 rfl) ?_
            refine va_iald hx hb hK hP 7 1 rfl rfl (vp_in_nI (by omega) (by decide)) dX6_canBeYesBy_78 ?_
            refine lv_topi (fun x_65 ex_65 => ?_)
            refine lv_iand hx hb dX6_canBeYesBy_79 ?_
            refine lv_topi (fun x_66 ex_66 => ?_)
            refine lv_if_eq (tgt := 87) hx hb dX6_canBeYesBy_80 (by decide) (fun c_80 => ?_) (fun c_80 => ?_)
            · refine lv_iconst (v := 0) hx hb dX6_canBeYesBy_87 (by decide) ?_
              refine lv_istore (lv' := [(9, .int 0), (8, .int x_64), (7, .int (nI k_54)), (6, .int (nI i49)), (5, .int lb5_49), (4, .int sv49), (3, .ref (ea 1)), (0, .ref p0), (1, .int (nI rk)), (2, .int cg)]) hx hb dX6_canBeYesBy_88 hl (by decide) rfl (fun ls hl => ?_)
              refine lv_aload_n hx hb dX6_canBeYesBy_90 rfl (lv_at hl 7 rfl) ?_
              refine lv_iload hx hb dX6_canBeYesBy_91 (lv_at hl 4 rfl) ?_
              refine lv_if_eq (tgt := 103) hx hb dX6_canBeYesBy_93 (by decide) (fun c_93 => ?_) (fun c_93 => ?_)
              · refine lv_iload hx hb dX6_canBeYesBy_103 (lv_at hl 5 rfl) ?_
                refine lv_iload hx hb dX6_canBeYesBy_105 (lv_at hl 1 rfl) ?_
                refine lv_aload_n hx hb dX6_canBeYesBy_107 rfl (lv_at hl 6 rfl) ?_
                refine va_get (D := D) (ci := 2) (v := .ref (eg 1)) (C := RX2) (T := TX2) (N := 5) hx hb hg i_X2 hown hK hP 15 rfl rfl 0 (by decide) (hg _ m_513) (fun _ h9 => h9) rfl dX6_canBeYesBy_108 ?_
                refine lv_iload hx hb dX6_canBeYesBy_111 (lv_at hl 2 rfl) ?_
                refine va_iald hx hb hK hP 7 1 rfl rfl (vp_in_nI (by omega) (by decide)) dX6_canBeYesBy_113 ?_
                refine lv_topi (fun x_67 ex_67 => ?_)
                refine lv_iconst (v := -1) hx hb dX6_canBeYesBy_114 (by decide) ?_
                refine lv_ixor hx hb dX6_canBeYesBy_115 ?_
                refine lv_topi (fun x_68 ex_68 => ?_)
                refine lv_iand hx hb dX6_canBeYesBy_116 ?_
                refine lv_topi (fun x_69 ex_69 => ?_)
                refine x_callVi (q := (RX6, TX6, 9)) (ci := 6) (q0 := 0) (wr := [wI (cy 1) p3 4 (fne), wI (cy 1) p4 40 (fqi), (er, .inl (cy 4, 4, .inr (.inr (.inr (.inr (eF (ea 0) (ea 1) (ea 2) (ea 3))))))), wO (ea 0) 2 [.ref (eg 0), .ref (ef 0), .int (et 0), .int (nI (el 0)), .int (nI (ei 0))], wI (cy 1) (eg 0) 10 (gc 0), wI (cy 1) (ef 0) 7 (xc 0), wI (cy 1) (eg 1) 10 (gc 1), wI (cy 1) (ef 1) 7 (xc 1), wO (ea 2) 2 [.ref (eg 2), .ref (ef 2), .int (et 2), .int (nI (el 2)), .int (nI (ei 2))], wI (cy 1) (eg 2) 10 (gc 2), wI (cy 1) (ef 2) 7 (xc 2), wO (ea 3) 2 [.ref (eg 3), .ref (ef 3), .int (et 3), .int (nI (el 3)), .int (nI (ei 3))], wI (cy 1) (eg 3) 10 (gc 3), wI (cy 1) (ef 3) 7 (xc 3), wO (ea 1) 2 [.ref (eg 1), .ref (ef 1), .int (et 1), .int (nI ((el 1))), .int (nI ((ei 1)))], wO s0 7 [.ref s1, .ref s2, .int (nI sl), .int spl, .int svo, .int swi, .int sch], wI (cy 1) s1 10 (fw)]) (rest := []) ⟨hx, hb, hml, hown, hg, hl.1⟩ k_X6_101 (s_led l D cy p0 p1 p2 p3 p4 er ro ch s0 h0 h1 h2 h3 h4 h5 h6 h7 h8 h9 h10 h11 ((.int ys)) hv1 hv2 hv3 hv4 fc c0 c1 c2 c3 fx sv49 x_69 (hcn) (by omega) (by omega) (by omega) (by omega) (hnx)) E0_blind hK hP hD hS hA [16, 17, 18, 2] [0, 1, 3, 4, 5, 6, 7, 8, 9, 10, 11, 12, 13, 14, 15, 19, 20] ⟨rfl, rfl, by decide +kernel, by decide +kernel, by decide +kernel⟩ rfl rfl (fun _ _ _ => trivial) dX6_canBeYesBy_117 rfl rfl (Nat.le_of_ble_eq_true rfl) ⟨Nat.le_of_ble_eq_true rfl, Nat.le_of_ble_eq_true rfl⟩ ⟨Nat.le_of_ble_eq_true rfl, Nat.le_of_ble_eq_true rfl⟩ (fun zr70 zu70 H locs hw70 hP9 hD9 hS9 => ?_)
                clear hP hD hS
                refine reW [wI (cy 1) p3 4 (fne), wI (cy 1) p4 40 (fqi), (er, .inl (cy 4, 4, .inr (.inr (.inr (.inr (eF (ea 0) (ea 1) (ea 2) (ea 3))))))), wO (ea 0) 2 [.ref (eg 0), .ref (ef 0), .int (et 0), .int (nI (el 0)), .int (nI (ei 0))], wI (cy 1) (eg 0) 10 (gc 0), wI (cy 1) (ef 0) 7 (xc 0), wI (cy 1) (eg 1) 10 (gc 1), wI (cy 1) (ef 1) 7 (xc 1), wO (ea 2) 2 [.ref (eg 2), .ref (ef 2), .int (et 2), .int (nI (el 2)), .int (nI (ei 2))], wI (cy 1) (eg 2) 10 (gc 2), wI (cy 1) (ef 2) 7 (xc 2), wO (ea 3) 2 [.ref (eg 3), .ref (ef 3), .int (et 3), .int (nI (el 3)), .int (nI (ei 3))], wI (cy 1) (eg 3) 10 (gc 3), wI (cy 1) (ef 3) 7 (xc 3), wO (ea 1) 2 [.ref (eg 1), .ref (ef 1), .int (et 1), .int (nI ((el 1))), .int (nI ((ei 1)))], wO s0 7 [.ref s1, .ref s2, .int (nI sl), .int spl, .int svo, .int swi, .int sch], wI (cy 1) s1 10 (fw), wO p0 6 [.ref p1, .ref er, .ref ro, .ref p2, .ref p3, .ref p4, .ref h0, .ref s0, .int (nI ch)], wO h0 4 [.ref h1, .ref h2, .ref h3, .ref h4, .ref h5, .ref h6, .ref h7, .ref h8, .ref h9, .ref h10, .ref h11, .int ys, hv1, hv2, hv3, hv4], wI (cy 1) h1 4 (fc), wI (cy 1) h7 48 (fx)] hP9 hD9 hS9 (fun hP hD hS => ?_)
                clear hP9 hD9 hS9
                refine W.widen (k := 0) (n := 0) (Nat.le_of_ble_eq_true rfl) (Nat.le_of_ble_eq_true rfl) ?_
                replace hw70 : (∀ s9 : Nat, s9 < 32 → bt zr70 s9 = orF (ldO fx sv49 x_69 s9) c0) := hw70
                have f_71 := hw70
                refine lv_istore (lv' := [(10, .int zr70), (9, .int 0), (8, .int x_64), (7, .int (nI k_54)), (6, .int (nI i49)), (5, .int lb5_49), (4, .int sv49), (3, .ref (ea 1)), (0, .ref p0), (1, .int (nI rk)), (2, .int cg)]) hx hb dX6_canBeYesBy_120 hl (by decide) rfl (fun ls hl => ?_)
                refine lv_iload hx hb dX6_canBeYesBy_122 (lv_at hl 1 rfl) ?_
                refine lv_if_eq (tgt := 135) hx hb dX6_canBeYesBy_124 (by decide) (fun _ => ?_) (fun h => absurd (by decide) h)
                refine lv_iload hx hb dX6_canBeYesBy_135 (lv_at hl 0 rfl) ?_
                refine lv_istore (lv' := [(4, .int zr70), (10, .int zr70), (9, .int 0), (8, .int x_64), (7, .int (nI k_54)), (6, .int (nI i49)), (5, .int lb5_49), (3, .ref (ea 1)), (0, .ref p0), (1, .int (nI rk)), (2, .int cg)]) hx hb dX6_canBeYesBy_137 hl (by decide) rfl (fun ls hl => ?_)
                refine lv_iload hx hb dX6_canBeYesBy_139 (lv_at hl 6 rfl) ?_
                refine lv_if_eq (tgt := 153) hx hb dX6_canBeYesBy_141 (by decide) (fun _ => ?_) (fun h => absurd c_93 h)
                refine lv_iconst (v := 0) hx hb dX6_canBeYesBy_153 (by decide) ?_
                refine lv_istore (lv' := [(5, .int 0), (4, .int zr70), (10, .int zr70), (9, .int 0), (8, .int x_64), (7, .int (nI k_54)), (6, .int (nI i49)), (3, .ref (ea 1)), (0, .ref p0), (1, .int (nI rk)), (2, .int cg)]) hx hb dX6_canBeYesBy_154 hl (by decide) rfl (fun ls hl => ?_)
                refine lv_iinc (v := nI (i49 + 1)) (lv' := [(6, .int (nI (i49 + 1))), (5, .int 0), (4, .int zr70), (10, .int zr70), (9, .int 0), (8, .int x_64), (7, .int (nI k_54)), (3, .ref (ea 1)), (0, .ref p0), (1, .int (nI rk)), (2, .int cg)]) hx hb dX6_canBeYesBy_156 hl (k := 6) rfl (nI_add i49 1) (by decide) rfl (fun ls hl => ?_)
                refine lv_goto (tgt := 21) hx hb dX6_canBeYesBy_159 (by decide) ?_
                exact ih49  zr70 0 ((i49 + 1)) (Or.inl rfl) (by omega) (fun hok9 => by_st (sk := false) (n1 := false) hok9 hc0 hnx (hf1_49 hok9) (by omega) hsl (by rw [← hesk]; exact f_57) f_59 f_60 (fun w9 h9 => by rw [ex_63, nI_clamp (by omega)]; exact hqu rk k_54 w9 hrk (by omega) h9) ex_64 ex_65 ex_66 (decide_eq_false (fun h9 => h9 c_80)).symm (decide_eq_false (fun h9 => h9 c_93)).symm hb_lb5_49 (if_neg (by decide)).symm ex_67 ex_68 ex_69 f_71 (if_neg (by decide)).symm (if_neg (by decide)).symm) (by omega) _ _ (hP.sub [17, 0, 1, 18, 19, 20, 15, 16, 2, 3, 4, 5, 14, 6, 7, 8, 9, 10, 11, 12, 13] rfl) (hD.sub [17, 0, 1, 18, 19, 20, 15, 16, 2, 3, 4, 5, 14, 6, 7, 8, 9, 10, 11, 12, 13] (by decide +kernel) rfl) hS ls (lv_sub hl [0, 1, 2, 7, 8, 9, 10] rfl)
              · refine lv_iload hx hb dX6_canBeYesBy_96 (lv_at hl 5 rfl) ?_
                refine lv_iconst (v := 1) hx hb dX6_canBeYesBy_98 (by decide) ?_
                refine lv_ior hx hb dX6_canBeYesBy_99 ?_
                refine lv_topi (fun x_72 ex_72 => ?_)
                refine lv_goto (tgt := 105) hx hb dX6_canBeYesBy_100 (by decide) ?_
                refine lv_iload hx hb dX6_canBeYesBy_105 (lv_at hl 1 rfl) ?_
                refine lv_aload_n hx hb dX6_canBeYesBy_107 rfl (lv_at hl 6 rfl) ?_
                refine va_get (D := D) (ci := 2) (v := .ref (eg 1)) (C := RX2) (T := TX2) (N := 5) hx hb hg i_X2 hown hK hP 15 rfl rfl 0 (by decide) (hg _ m_513) (fun _ h9 => h9) rfl dX6_canBeYesBy_108 ?_
                refine lv_iload hx hb dX6_canBeYesBy_111 (lv_at hl 2 rfl) ?_
                refine va_iald hx hb hK hP 7 1 rfl rfl (vp_in_nI (by omega) (by decide)) dX6_canBeYesBy_113 ?_
                refine lv_topi (fun x_73 ex_73 => ?_)
                refine lv_iconst (v := -1) hx hb dX6_canBeYesBy_114 (by decide) ?_
                refine lv_ixor hx hb dX6_canBeYesBy_115 ?_
                refine lv_topi (fun x_74 ex_74 => ?_)
                refine lv_iand hx hb dX6_canBeYesBy_116 ?_
                refine lv_topi (fun x_75 ex_75 => ?_)
                refine x_callVi (q := (RX6, TX6, 9)) (ci := 6) (q0 := 0) (wr := [wI (cy 1) p3 4 (fne), wI (cy 1) p4 40 (fqi), (er, .inl (cy 4, 4, .inr (.inr (.inr (.inr (eF (ea 0) (ea 1) (ea 2) (ea 3))))))), wO (ea 0) 2 [.ref (eg 0), .ref (ef 0), .int (et 0), .int (nI (el 0)), .int (nI (ei 0))], wI (cy 1) (eg 0) 10 (gc 0), wI (cy 1) (ef 0) 7 (xc 0), wI (cy 1) (eg 1) 10 (gc 1), wI (cy 1) (ef 1) 7 (xc 1), wO (ea 2) 2 [.ref (eg 2), .ref (ef 2), .int (et 2), .int (nI (el 2)), .int (nI (ei 2))], wI (cy 1) (eg 2) 10 (gc 2), wI (cy 1) (ef 2) 7 (xc 2), wO (ea 3) 2 [.ref (eg 3), .ref (ef 3), .int (et 3), .int (nI (el 3)), .int (nI (ei 3))], wI (cy 1) (eg 3) 10 (gc 3), wI (cy 1) (ef 3) 7 (xc 3), wO (ea 1) 2 [.ref (eg 1), .ref (ef 1), .int (et 1), .int (nI ((el 1))), .int (nI ((ei 1)))], wO s0 7 [.ref s1, .ref s2, .int (nI sl), .int spl, .int svo, .int swi, .int sch], wI (cy 1) s1 10 (fw)]) (rest := []) ⟨hx, hb, hml, hown, hg, hl.1⟩ k_X6_101 (s_led l D cy p0 p1 p2 p3 p4 er ro ch s0 h0 h1 h2 h3 h4 h5 h6 h7 h8 h9 h10 h11 ((.int ys)) hv1 hv2 hv3 hv4 fc c0 c1 c2 c3 fx x_72 x_75 (hcn) (by omega) (by omega) (by omega) (by omega) (hnx)) E0_blind hK hP hD hS hA [16, 17, 18, 2] [0, 1, 3, 4, 5, 6, 7, 8, 9, 10, 11, 12, 13, 14, 15, 19, 20] ⟨rfl, rfl, by decide +kernel, by decide +kernel, by decide +kernel⟩ rfl rfl (fun _ _ _ => trivial) dX6_canBeYesBy_117 rfl rfl (Nat.le_of_ble_eq_true rfl) ⟨Nat.le_of_ble_eq_true rfl, Nat.le_of_ble_eq_true rfl⟩ ⟨Nat.le_of_ble_eq_true rfl, Nat.le_of_ble_eq_true rfl⟩ (fun zr76 zu76 H locs hw76 hP9 hD9 hS9 => ?_)
                clear hP hD hS
                refine reW [wI (cy 1) p3 4 (fne), wI (cy 1) p4 40 (fqi), (er, .inl (cy 4, 4, .inr (.inr (.inr (.inr (eF (ea 0) (ea 1) (ea 2) (ea 3))))))), wO (ea 0) 2 [.ref (eg 0), .ref (ef 0), .int (et 0), .int (nI (el 0)), .int (nI (ei 0))], wI (cy 1) (eg 0) 10 (gc 0), wI (cy 1) (ef 0) 7 (xc 0), wI (cy 1) (eg 1) 10 (gc 1), wI (cy 1) (ef 1) 7 (xc 1), wO (ea 2) 2 [.ref (eg 2), .ref (ef 2), .int (et 2), .int (nI (el 2)), .int (nI (ei 2))], wI (cy 1) (eg 2) 10 (gc 2), wI (cy 1) (ef 2) 7 (xc 2), wO (ea 3) 2 [.ref (eg 3), .ref (ef 3), .int (et 3), .int (nI (el 3)), .int (nI (ei 3))], wI (cy 1) (eg 3) 10 (gc 3), wI (cy 1) (ef 3) 7 (xc 3), wO (ea 1) 2 [.ref (eg 1), .ref (ef 1), .int (et 1), .int (nI ((el 1))), .int (nI ((ei 1)))], wO s0 7 [.ref s1, .ref s2, .int (nI sl), .int spl, .int svo, .int swi, .int sch], wI (cy 1) s1 10 (fw), wO p0 6 [.ref p1, .ref er, .ref ro, .ref p2, .ref p3, .ref p4, .ref h0, .ref s0, .int (nI ch)], wO h0 4 [.ref h1, .ref h2, .ref h3, .ref h4, .ref h5, .ref h6, .ref h7, .ref h8, .ref h9, .ref h10, .ref h11, .int ys, hv1, hv2, hv3, hv4], wI (cy 1) h1 4 (fc), wI (cy 1) h7 48 (fx)] hP9 hD9 hS9 (fun hP hD hS => ?_)
                clear hP9 hD9 hS9
                refine W.widen (k := 0) (n := 0) (Nat.le_of_ble_eq_true rfl) (Nat.le_of_ble_eq_true rfl) ?_
                replace hw76 : (∀ s9 : Nat, s9 < 32 → bt zr76 s9 = orF (ldO fx x_72 x_75 s9) c0) := hw76
                have f_77 := hw76
                refine lv_istore (lv' := [(10, .int zr76), (9, .int 0), (8, .int x_64), (7, .int (nI k_54)), (6, .int (nI i49)), (5, .int lb5_49), (4, .int sv49), (3, .ref (ea 1)), (0, .ref p0), (1, .int (nI rk)), (2, .int cg)]) hx hb dX6_canBeYesBy_120 hl (by decide) rfl (fun ls hl => ?_)
                refine lv_iload hx hb dX6_canBeYesBy_122 (lv_at hl 1 rfl) ?_
                refine lv_if_eq (tgt := 135) hx hb dX6_canBeYesBy_124 (by decide) (fun _ => ?_) (fun h => absurd (by decide) h)
                refine lv_iload hx hb dX6_canBeYesBy_135 (lv_at hl 0 rfl) ?_
                refine lv_istore (lv' := [(4, .int zr76), (10, .int zr76), (9, .int 0), (8, .int x_64), (7, .int (nI k_54)), (6, .int (nI i49)), (5, .int lb5_49), (3, .ref (ea 1)), (0, .ref p0), (1, .int (nI rk)), (2, .int cg)]) hx hb dX6_canBeYesBy_137 hl (by decide) rfl (fun ls hl => ?_)
                refine lv_iload hx hb dX6_canBeYesBy_139 (lv_at hl 6 rfl) ?_
                refine lv_if_eq (tgt := 153) hx hb dX6_canBeYesBy_141 (by decide) (fun h => absurd h c_93) (fun _ => ?_)
                refine lv_iload hx hb dX6_canBeYesBy_144 (lv_at hl 2 rfl) ?_
                refine lv_if_eq (tgt := 153) hx hb dX6_canBeYesBy_146 (by decide) (fun _ => ?_) (fun h => absurd (by decide) h)
                refine lv_iconst (v := 0) hx hb dX6_canBeYesBy_153 (by decide) ?_
                refine lv_istore (lv' := [(5, .int 0), (4, .int zr76), (10, .int zr76), (9, .int 0), (8, .int x_64), (7, .int (nI k_54)), (6, .int (nI i49)), (3, .ref (ea 1)), (0, .ref p0), (1, .int (nI rk)), (2, .int cg)]) hx hb dX6_canBeYesBy_154 hl (by decide) rfl (fun ls hl => ?_)
                refine lv_iinc (v := nI (i49 + 1)) (lv' := [(6, .int (nI (i49 + 1))), (5, .int 0), (4, .int zr76), (10, .int zr76), (9, .int 0), (8, .int x_64), (7, .int (nI k_54)), (3, .ref (ea 1)), (0, .ref p0), (1, .int (nI rk)), (2, .int cg)]) hx hb dX6_canBeYesBy_156 hl (k := 6) rfl (nI_add i49 1) (by decide) rfl (fun ls hl => ?_)
                refine lv_goto (tgt := 21) hx hb dX6_canBeYesBy_159 (by decide) ?_
                exact ih49  zr76 0 ((i49 + 1)) (Or.inl rfl) (by omega) (fun hok9 => by_st (sk := false) (n1 := true) hok9 hc0 hnx (hf1_49 hok9) (by omega) hsl (by rw [← hesk]; exact f_57) f_59 f_60 (fun w9 h9 => by rw [ex_63, nI_clamp (by omega)]; exact hqu rk k_54 w9 hrk (by omega) h9) ex_64 ex_65 ex_66 (decide_eq_false (fun h9 => h9 c_80)).symm (decide_eq_true c_93).symm hb_lb5_49 (ex_72.trans (if_pos rfl).symm) ex_73 ex_74 ex_75 f_77 (if_neg (by decide)).symm (if_neg (by decide)).symm) (by omega) _ _ (hP.sub [17, 0, 1, 18, 19, 20, 15, 16, 2, 3, 4, 5, 14, 6, 7, 8, 9, 10, 11, 12, 13] rfl) (hD.sub [17, 0, 1, 18, 19, 20, 15, 16, 2, 3, 4, 5, 14, 6, 7, 8, 9, 10, 11, 12, 13] (by decide +kernel) rfl) hS ls (lv_sub hl [0, 1, 2, 7, 8, 9, 10] rfl)
            · refine lv_iconst (v := 1) hx hb dX6_canBeYesBy_83 (by decide) ?_
              refine lv_goto (tgt := 88) hx hb dX6_canBeYesBy_84 (by decide) ?_
              refine lv_istore (lv' := [(9, .int 1), (8, .int x_64), (7, .int (nI k_54)), (6, .int (nI i49)), (5, .int lb5_49), (4, .int sv49), (3, .ref (ea 1)), (0, .ref p0), (1, .int (nI rk)), (2, .int cg)]) hx hb dX6_canBeYesBy_88 hl (by decide) rfl (fun ls hl => ?_)
              refine lv_aload_n hx hb dX6_canBeYesBy_90 rfl (lv_at hl 7 rfl) ?_
              refine lv_iload hx hb dX6_canBeYesBy_91 (lv_at hl 4 rfl) ?_
              refine lv_if_eq (tgt := 103) hx hb dX6_canBeYesBy_93 (by decide) (fun c_93 => ?_) (fun c_93 => ?_)
              · refine lv_iload hx hb dX6_canBeYesBy_103 (lv_at hl 5 rfl) ?_
                refine lv_iload hx hb dX6_canBeYesBy_105 (lv_at hl 1 rfl) ?_
                refine lv_aload_n hx hb dX6_canBeYesBy_107 rfl (lv_at hl 6 rfl) ?_
                refine va_get (D := D) (ci := 2) (v := .ref (eg 1)) (C := RX2) (T := TX2) (N := 5) hx hb hg i_X2 hown hK hP 15 rfl rfl 0 (by decide) (hg _ m_513) (fun _ h9 => h9) rfl dX6_canBeYesBy_108 ?_
                refine lv_iload hx hb dX6_canBeYesBy_111 (lv_at hl 2 rfl) ?_
                refine va_iald hx hb hK hP 7 1 rfl rfl (vp_in_nI (by omega) (by decide)) dX6_canBeYesBy_113 ?_
                refine lv_topi (fun x_78 ex_78 => ?_)
                refine lv_iconst (v := -1) hx hb dX6_canBeYesBy_114 (by decide) ?_
                refine lv_ixor hx hb dX6_canBeYesBy_115 ?_
                refine lv_topi (fun x_79 ex_79 => ?_)
                refine lv_iand hx hb dX6_canBeYesBy_116 ?_
                refine lv_topi (fun x_80 ex_80 => ?_)
                refine x_callVi (q := (RX6, TX6, 9)) (ci := 6) (q0 := 0) (wr := [wI (cy 1) p3 4 (fne), wI (cy 1) p4 40 (fqi), (er, .inl (cy 4, 4, .inr (.inr (.inr (.inr (eF (ea 0) (ea 1) (ea 2) (ea 3))))))), wO (ea 0) 2 [.ref (eg 0), .ref (ef 0), .int (et 0), .int (nI (el 0)), .int (nI (ei 0))], wI (cy 1) (eg 0) 10 (gc 0), wI (cy 1) (ef 0) 7 (xc 0), wI (cy 1) (eg 1) 10 (gc 1), wI (cy 1) (ef 1) 7 (xc 1), wO (ea 2) 2 [.ref (eg 2), .ref (ef 2), .int (et 2), .int (nI (el 2)), .int (nI (ei 2))], wI (cy 1) (eg 2) 10 (gc 2), wI (cy 1) (ef 2) 7 (xc 2), wO (ea 3) 2 [.ref (eg 3), .ref (ef 3), .int (et 3), .int (nI (el 3)), .int (nI (ei 3))], wI (cy 1) (eg 3) 10 (gc 3), wI (cy 1) (ef 3) 7 (xc 3), wO (ea 1) 2 [.ref (eg 1), .ref (ef 1), .int (et 1), .int (nI ((el 1))), .int (nI ((ei 1)))], wO s0 7 [.ref s1, .ref s2, .int (nI sl), .int spl, .int svo, .int swi, .int sch], wI (cy 1) s1 10 (fw)]) (rest := []) ⟨hx, hb, hml, hown, hg, hl.1⟩ k_X6_101 (s_led l D cy p0 p1 p2 p3 p4 er ro ch s0 h0 h1 h2 h3 h4 h5 h6 h7 h8 h9 h10 h11 ((.int ys)) hv1 hv2 hv3 hv4 fc c0 c1 c2 c3 fx sv49 x_80 (hcn) (by omega) (by omega) (by omega) (by omega) (hnx)) E0_blind hK hP hD hS hA [16, 17, 18, 2] [0, 1, 3, 4, 5, 6, 7, 8, 9, 10, 11, 12, 13, 14, 15, 19, 20] ⟨rfl, rfl, by decide +kernel, by decide +kernel, by decide +kernel⟩ rfl rfl (fun _ _ _ => trivial) dX6_canBeYesBy_117 rfl rfl (Nat.le_of_ble_eq_true rfl) ⟨Nat.le_of_ble_eq_true rfl, Nat.le_of_ble_eq_true rfl⟩ ⟨Nat.le_of_ble_eq_true rfl, Nat.le_of_ble_eq_true rfl⟩ (fun zr81 zu81 H locs hw81 hP9 hD9 hS9 => ?_)
                clear hP hD hS
                refine reW [wI (cy 1) p3 4 (fne), wI (cy 1) p4 40 (fqi), (er, .inl (cy 4, 4, .inr (.inr (.inr (.inr (eF (ea 0) (ea 1) (ea 2) (ea 3))))))), wO (ea 0) 2 [.ref (eg 0), .ref (ef 0), .int (et 0), .int (nI (el 0)), .int (nI (ei 0))], wI (cy 1) (eg 0) 10 (gc 0), wI (cy 1) (ef 0) 7 (xc 0), wI (cy 1) (eg 1) 10 (gc 1), wI (cy 1) (ef 1) 7 (xc 1), wO (ea 2) 2 [.ref (eg 2), .ref (ef 2), .int (et 2), .int (nI (el 2)), .int (nI (ei 2))], wI (cy 1) (eg 2) 10 (gc 2), wI (cy 1) (ef 2) 7 (xc 2), wO (ea 3) 2 [.ref (eg 3), .ref (ef 3), .int (et 3), .int (nI (el 3)), .int (nI (ei 3))], wI (cy 1) (eg 3) 10 (gc 3), wI (cy 1) (ef 3) 7 (xc 3), wO (ea 1) 2 [.ref (eg 1), .ref (ef 1), .int (et 1), .int (nI ((el 1))), .int (nI ((ei 1)))], wO s0 7 [.ref s1, .ref s2, .int (nI sl), .int spl, .int svo, .int swi, .int sch], wI (cy 1) s1 10 (fw), wO p0 6 [.ref p1, .ref er, .ref ro, .ref p2, .ref p3, .ref p4, .ref h0, .ref s0, .int (nI ch)], wO h0 4 [.ref h1, .ref h2, .ref h3, .ref h4, .ref h5, .ref h6, .ref h7, .ref h8, .ref h9, .ref h10, .ref h11, .int ys, hv1, hv2, hv3, hv4], wI (cy 1) h1 4 (fc), wI (cy 1) h7 48 (fx)] hP9 hD9 hS9 (fun hP hD hS => ?_)
                clear hP9 hD9 hS9
                refine W.widen (k := 0) (n := 0) (Nat.le_of_ble_eq_true rfl) (Nat.le_of_ble_eq_true rfl) ?_
                replace hw81 : (∀ s9 : Nat, s9 < 32 → bt zr81 s9 = orF (ldO fx sv49 x_80 s9) c0) := hw81
                have f_82 := hw81
                refine lv_istore (lv' := [(10, .int zr81), (9, .int 1), (8, .int x_64), (7, .int (nI k_54)), (6, .int (nI i49)), (5, .int lb5_49), (4, .int sv49), (3, .ref (ea 1)), (0, .ref p0), (1, .int (nI rk)), (2, .int cg)]) hx hb dX6_canBeYesBy_120 hl (by decide) rfl (fun ls hl => ?_)
                refine lv_iload hx hb dX6_canBeYesBy_122 (lv_at hl 1 rfl) ?_
                refine lv_if_eq (tgt := 135) hx hb dX6_canBeYesBy_124 (by decide) (fun h => absurd h (by decide)) (fun _ => ?_)
                refine lv_iload hx hb dX6_canBeYesBy_127 (lv_at hl 6 rfl) ?_
                refine lv_iload hx hb dX6_canBeYesBy_129 (lv_at hl 0 rfl) ?_
                refine lv_ior hx hb dX6_canBeYesBy_131 ?_
                refine lv_topi (fun x_83 ex_83 => ?_)
                refine lv_goto (tgt := 137) hx hb dX6_canBeYesBy_132 (by decide) ?_
                refine lv_istore (lv' := [(4, .int x_83), (10, .int zr81), (9, .int 1), (8, .int x_64), (7, .int (nI k_54)), (6, .int (nI i49)), (5, .int lb5_49), (3, .ref (ea 1)), (0, .ref p0), (1, .int (nI rk)), (2, .int cg)]) hx hb dX6_canBeYesBy_137 hl (by decide) rfl (fun ls hl => ?_)
                refine lv_iload hx hb dX6_canBeYesBy_139 (lv_at hl 6 rfl) ?_
                refine lv_if_eq (tgt := 153) hx hb dX6_canBeYesBy_141 (by decide) (fun _ => ?_) (fun h => absurd c_93 h)
                refine lv_iconst (v := 0) hx hb dX6_canBeYesBy_153 (by decide) ?_
                refine lv_istore (lv' := [(5, .int 0), (4, .int x_83), (10, .int zr81), (9, .int 1), (8, .int x_64), (7, .int (nI k_54)), (6, .int (nI i49)), (3, .ref (ea 1)), (0, .ref p0), (1, .int (nI rk)), (2, .int cg)]) hx hb dX6_canBeYesBy_154 hl (by decide) rfl (fun ls hl => ?_)
                refine lv_iinc (v := nI (i49 + 1)) (lv' := [(6, .int (nI (i49 + 1))), (5, .int 0), (4, .int x_83), (10, .int zr81), (9, .int 1), (8, .int x_64), (7, .int (nI k_54)), (3, .ref (ea 1)), (0, .ref p0), (1, .int (nI rk)), (2, .int cg)]) hx hb dX6_canBeYesBy_156 hl (k := 6) rfl (nI_add i49 1) (by decide) rfl (fun ls hl => ?_)
                refine lv_goto (tgt := 21) hx hb dX6_canBeYesBy_159 (by decide) ?_
                exact ih49  x_83 0 ((i49 + 1)) (Or.inl rfl) (by omega) (fun hok9 => by_st (sk := true) (n1 := false) hok9 hc0 hnx (hf1_49 hok9) (by omega) hsl (by rw [← hesk]; exact f_57) f_59 f_60 (fun w9 h9 => by rw [ex_63, nI_clamp (by omega)]; exact hqu rk k_54 w9 hrk (by omega) h9) ex_64 ex_65 ex_66 (decide_eq_true c_80).symm (decide_eq_false (fun h9 => h9 c_93)).symm hb_lb5_49 (if_neg (by decide)).symm ex_78 ex_79 ex_80 f_82 (ex_83.trans (if_pos rfl).symm) (if_neg (by decide)).symm) (by omega) _ _ (hP.sub [17, 0, 1, 18, 19, 20, 15, 16, 2, 3, 4, 5, 14, 6, 7, 8, 9, 10, 11, 12, 13] rfl) (hD.sub [17, 0, 1, 18, 19, 20, 15, 16, 2, 3, 4, 5, 14, 6, 7, 8, 9, 10, 11, 12, 13] (by decide +kernel) rfl) hS ls (lv_sub hl [0, 1, 2, 7, 8, 9, 10] rfl)
              · refine lv_iload hx hb dX6_canBeYesBy_96 (lv_at hl 5 rfl) ?_
                refine lv_iconst (v := 1) hx hb dX6_canBeYesBy_98 (by decide) ?_
                refine lv_ior hx hb dX6_canBeYesBy_99 ?_
                refine lv_topi (fun x_84 ex_84 => ?_)
                refine lv_goto (tgt := 105) hx hb dX6_canBeYesBy_100 (by decide) ?_
                refine lv_iload hx hb dX6_canBeYesBy_105 (lv_at hl 1 rfl) ?_
                refine lv_aload_n hx hb dX6_canBeYesBy_107 rfl (lv_at hl 6 rfl) ?_
                refine va_get (D := D) (ci := 2) (v := .ref (eg 1)) (C := RX2) (T := TX2) (N := 5) hx hb hg i_X2 hown hK hP 15 rfl rfl 0 (by decide) (hg _ m_513) (fun _ h9 => h9) rfl dX6_canBeYesBy_108 ?_
                refine lv_iload hx hb dX6_canBeYesBy_111 (lv_at hl 2 rfl) ?_
                refine va_iald hx hb hK hP 7 1 rfl rfl (vp_in_nI (by omega) (by decide)) dX6_canBeYesBy_113 ?_
                refine lv_topi (fun x_85 ex_85 => ?_)
                refine lv_iconst (v := -1) hx hb dX6_canBeYesBy_114 (by decide) ?_
                refine lv_ixor hx hb dX6_canBeYesBy_115 ?_
                refine lv_topi (fun x_86 ex_86 => ?_)
                refine lv_iand hx hb dX6_canBeYesBy_116 ?_
                refine lv_topi (fun x_87 ex_87 => ?_)
                refine x_callVi (q := (RX6, TX6, 9)) (ci := 6) (q0 := 0) (wr := [wI (cy 1) p3 4 (fne), wI (cy 1) p4 40 (fqi), (er, .inl (cy 4, 4, .inr (.inr (.inr (.inr (eF (ea 0) (ea 1) (ea 2) (ea 3))))))), wO (ea 0) 2 [.ref (eg 0), .ref (ef 0), .int (et 0), .int (nI (el 0)), .int (nI (ei 0))], wI (cy 1) (eg 0) 10 (gc 0), wI (cy 1) (ef 0) 7 (xc 0), wI (cy 1) (eg 1) 10 (gc 1), wI (cy 1) (ef 1) 7 (xc 1), wO (ea 2) 2 [.ref (eg 2), .ref (ef 2), .int (et 2), .int (nI (el 2)), .int (nI (ei 2))], wI (cy 1) (eg 2) 10 (gc 2), wI (cy 1) (ef 2) 7 (xc 2), wO (ea 3) 2 [.ref (eg 3), .ref (ef 3), .int (et 3), .int (nI (el 3)), .int (nI (ei 3))], wI (cy 1) (eg 3) 10 (gc 3), wI (cy 1) (ef 3) 7 (xc 3), wO (ea 1) 2 [.ref (eg 1), .ref (ef 1), .int (et 1), .int (nI ((el 1))), .int (nI ((ei 1)))], wO s0 7 [.ref s1, .ref s2, .int (nI sl), .int spl, .int svo, .int swi, .int sch], wI (cy 1) s1 10 (fw)]) (rest := []) ⟨hx, hb, hml, hown, hg, hl.1⟩ k_X6_101 (s_led l D cy p0 p1 p2 p3 p4 er ro ch s0 h0 h1 h2 h3 h4 h5 h6 h7 h8 h9 h10 h11 ((.int ys)) hv1 hv2 hv3 hv4 fc c0 c1 c2 c3 fx x_84 x_87 (hcn) (by omega) (by omega) (by omega) (by omega) (hnx)) E0_blind hK hP hD hS hA [16, 17, 18, 2] [0, 1, 3, 4, 5, 6, 7, 8, 9, 10, 11, 12, 13, 14, 15, 19, 20] ⟨rfl, rfl, by decide +kernel, by decide +kernel, by decide +kernel⟩ rfl rfl (fun _ _ _ => trivial) dX6_canBeYesBy_117 rfl rfl (Nat.le_of_ble_eq_true rfl) ⟨Nat.le_of_ble_eq_true rfl, Nat.le_of_ble_eq_true rfl⟩ ⟨Nat.le_of_ble_eq_true rfl, Nat.le_of_ble_eq_true rfl⟩ (fun zr88 zu88 H locs hw88 hP9 hD9 hS9 => ?_)
                clear hP hD hS
                refine reW [wI (cy 1) p3 4 (fne), wI (cy 1) p4 40 (fqi), (er, .inl (cy 4, 4, .inr (.inr (.inr (.inr (eF (ea 0) (ea 1) (ea 2) (ea 3))))))), wO (ea 0) 2 [.ref (eg 0), .ref (ef 0), .int (et 0), .int (nI (el 0)), .int (nI (ei 0))], wI (cy 1) (eg 0) 10 (gc 0), wI (cy 1) (ef 0) 7 (xc 0), wI (cy 1) (eg 1) 10 (gc 1), wI (cy 1) (ef 1) 7 (xc 1), wO (ea 2) 2 [.ref (eg 2), .ref (ef 2), .int (et 2), .int (nI (el 2)), .int (nI (ei 2))], wI (cy 1) (eg 2) 10 (gc 2), wI (cy 1) (ef 2) 7 (xc 2), wO (ea 3) 2 [.ref (eg 3), .ref (ef 3), .int (et 3), .int (nI (el 3)), .int (nI (ei 3))], wI (cy 1) (eg 3) 10 (gc 3), wI (cy 1) (ef 3) 7 (xc 3), wO (ea 1) 2 [.ref (eg 1), .ref (ef 1), .int (et 1), .int (nI ((el 1))), .int (nI ((ei 1)))], wO s0 7 [.ref s1, .ref s2, .int (nI sl), .int spl, .int svo, .int swi, .int sch], wI (cy 1) s1 10 (fw), wO p0 6 [.ref p1, .ref er, .ref ro, .ref p2, .ref p3, .ref p4, .ref h0, .ref s0, .int (nI ch)], wO h0 4 [.ref h1, .ref h2, .ref h3, .ref h4, .ref h5, .ref h6, .ref h7, .ref h8, .ref h9, .ref h10, .ref h11, .int ys, hv1, hv2, hv3, hv4], wI (cy 1) h1 4 (fc), wI (cy 1) h7 48 (fx)] hP9 hD9 hS9 (fun hP hD hS => ?_)
                clear hP9 hD9 hS9
                refine W.widen (k := 0) (n := 0) (Nat.le_of_ble_eq_true rfl) (Nat.le_of_ble_eq_true rfl) ?_
                replace hw88 : (∀ s9 : Nat, s9 < 32 → bt zr88 s9 = orF (ldO fx x_84 x_87 s9) c0) := hw88
                have f_89 := hw88
                refine lv_istore (lv' := [(10, .int zr88), (9, .int 1), (8, .int x_64), (7, .int (nI k_54)), (6, .int (nI i49)), (5, .int lb5_49), (4, .int sv49), (3, .ref (ea 1)), (0, .ref p0), (1, .int (nI rk)), (2, .int cg)]) hx hb dX6_canBeYesBy_120 hl (by decide) rfl (fun ls hl => ?_)
                refine lv_iload hx hb dX6_canBeYesBy_122 (lv_at hl 1 rfl) ?_
                refine lv_if_eq (tgt := 135) hx hb dX6_canBeYesBy_124 (by decide) (fun h => absurd h (by decide)) (fun _ => ?_)
                refine lv_iload hx hb dX6_canBeYesBy_127 (lv_at hl 6 rfl) ?_
                refine lv_iload hx hb dX6_canBeYesBy_129 (lv_at hl 0 rfl) ?_
                refine lv_ior hx hb dX6_canBeYesBy_131 ?_
                refine lv_topi (fun x_90 ex_90 => ?_)
                refine lv_goto (tgt := 137) hx hb dX6_canBeYesBy_132 (by decide) ?_
                refine lv_istore (lv' := [(4, .int x_90), (10, .int zr88), (9, .int 1), (8, .int x_64), (7, .int (nI k_54)), (6, .int (nI i49)), (5, .int lb5_49), (3, .ref (ea 1)), (0, .ref p0), (1, .int (nI rk)), (2, .int cg)]) hx hb dX6_canBeYesBy_137 hl (by decide) rfl (fun ls hl => ?_)
                refine lv_iload hx hb dX6_canBeYesBy_139 (lv_at hl 6 rfl) ?_
                refine lv_if_eq (tgt := 153) hx hb dX6_canBeYesBy_141 (by decide) (fun h => absurd h c_93) (fun _ => ?_)
                refine lv_iload hx hb dX6_canBeYesBy_144 (lv_at hl 2 rfl) ?_
                refine lv_if_eq (tgt := 153) hx hb dX6_canBeYesBy_146 (by decide) (fun h => absurd h (by decide)) (fun _ => ?_)
                refine lv_iconst (v := 1) hx hb dX6_canBeYesBy_149 (by decide) ?_
                refine lv_goto (tgt := 154) hx hb dX6_canBeYesBy_150 (by decide) ?_
                refine lv_istore (lv' := [(5, .int 1), (4, .int x_90), (10, .int zr88), (9, .int 1), (8, .int x_64), (7, .int (nI k_54)), (6, .int (nI i49)), (3, .ref (ea 1)), (0, .ref p0), (1, .int (nI rk)), (2, .int cg)]) hx hb dX6_canBeYesBy_154 hl (by decide) rfl (fun ls hl => ?_)
                refine lv_iinc (v := nI (i49 + 1)) (lv' := [(6, .int (nI (i49 + 1))), (5, .int 1), (4, .int x_90), (10, .int zr88), (9, .int 1), (8, .int x_64), (7, .int (nI k_54)), (3, .ref (ea 1)), (0, .ref p0), (1, .int (nI rk)), (2, .int cg)]) hx hb dX6_canBeYesBy_156 hl (k := 6) rfl (nI_add i49 1) (by decide) rfl (fun ls hl => ?_)
                refine lv_goto (tgt := 21) hx hb dX6_canBeYesBy_159 (by decide) ?_
                exact ih49  x_90 1 ((i49 + 1)) (Or.inr rfl) (by omega) (fun hok9 => by_st (sk := true) (n1 := true) hok9 hc0 hnx (hf1_49 hok9) (by omega) hsl (by rw [← hesk]; exact f_57) f_59 f_60 (fun w9 h9 => by rw [ex_63, nI_clamp (by omega)]; exact hqu rk k_54 w9 hrk (by omega) h9) ex_64 ex_65 ex_66 (decide_eq_true c_80).symm (decide_eq_true c_93).symm hb_lb5_49 (ex_84.trans (if_pos rfl).symm) ex_85 ex_86 ex_87 f_89 (ex_90.trans (if_pos rfl).symm) (if_pos rfl).symm) (by omega) _ _ (hP.sub [17, 0, 1, 18, 19, 20, 15, 16, 2, 3, 4, 5, 14, 6, 7, 8, 9, 10, 11, 12, 13] rfl) (hD.sub [17, 0, 1, 18, 19, 20, 15, 16, 2, 3, 4, 5, 14, 6, 7, 8, 9, 10, 11, 12, 13] (by decide +kernel) rfl) hS ls (lv_sub hl [0, 1, 2, 7, 8, 9, 10] rfl)
          · refine lv_iconst (v := 0) hx hb dX6_canBeYesBy_68 (by decide) ?_
            exact x_zret hQ hx hb hr hlocks hK hP hD hS rfl dX6_canBeYesBy_69 () (⟨(Or.inl rfl), (fun hok9 => by rw [show (fne rk).toNatClampNeg = 1 from (by rw [at_cl (by omega) ej_5]; rfl)]; exact by_r0 (by_m0 hc0 (by omega) (by rw [← hesk]; exact f_57) f_59 (fun w9 h9 => by rw [ex_63, nI_clamp (by omega)]; exact hqu rk k_54 w9 hrk (by omega) h9) ex_64 c_65))⟩) [16, 0, 1, 17, 18, 2, 19, 20, 3, 4, 5, 6, 15, 7, 8, 9, 10, 11, 12, 13, 14] (by decide +kernel) rfl (Nat.le_of_ble_eq_true rfl) (Nat.le_of_ble_eq_true rfl)
    exact loop49 _ 0 1 0 (Or.inr rfl) (by omega) (fun _ => by_0) (Nat.le_refl _) _ _ (hP.sub [0, 1, 2, 3, 4, 5, 6, 7, 8, 9, 10, 11, 12, 13, 14, 15, 16, 17, 18, 19, 20] rfl) (hD.sub [0, 1, 2, 3, 4, 5, 6, 7, 8, 9, 10, 11, 12, 13, 14, 15, 16, 17, 18, 19, 20] (by decide +kernel) rfl) hS ls (lv_sub hl [0, 1, 2, 3, 4, 5, 6] rfl)
  · subst hsp
    refine va_aldq hx hb hK hP 8 4 rfl rfl (by unfold vp_in; decide) dX6_canBeYesBy_10 ?_
    refine W.eq (g2 := F0 m 11 ls [.ref (ea 2)]) rfl ?_
    have hesk := hes 2 (by omega)
    refine lv_astore_n (lv' := [(3, .ref (ea 2)), (0, .ref p0), (1, .int (nI rk)), (2, .int cg)]) hx hb dX6_canBeYesBy_11 rfl hl (by decide) rfl (fun ls hl => ?_)
    refine lv_iconst (v := 0) hx hb dX6_canBeYesBy_12 (by decide) ?_
    refine lv_istore (lv' := [(4, .int 0), (3, .ref (ea 2)), (0, .ref p0), (1, .int (nI rk)), (2, .int cg)]) hx hb dX6_canBeYesBy_13 hl (by decide) rfl (fun ls hl => ?_)
    refine lv_iconst (v := 1) hx hb dX6_canBeYesBy_15 (by decide) ?_
    refine lv_istore (lv' := [(5, .int 1), (4, .int 0), (3, .ref (ea 2)), (0, .ref p0), (1, .int (nI rk)), (2, .int cg)]) hx hb dX6_canBeYesBy_16 hl (by decide) rfl (fun ls hl => ?_)
    refine lv_iconst (v := 0) hx hb dX6_canBeYesBy_18 (by decide) ?_
    refine lv_istore (lv' := [(6, .int 0), (5, .int 1), (4, .int 0), (3, .ref (ea 2)), (0, .ref p0), (1, .int (nI rk)), (2, .int cg)]) hx hb dX6_canBeYesBy_19 hl (by decide) rfl (fun ls hl => ?_)
    have loop91 : ∀ (zn : Nat) (sv91 : Int32) (lb5_91 : Int32) (i91 : Nat), (lb5_91 = 0 ∨ lb5_91 = 1) → (i91 ≤ sl) → (okW c0 fw sl → byI fx (gc 2) (mvB c0 fw cg gc fne rk) (plS (et 2) sl) c0 i91 sv91 lb5_91) → sl - i91 + 1 ≤ zn → ∀ (H : Heap) (locs : List Loc), va_P D vwCl [wO p0 6 [.ref p1, .ref er, .ref ro, .ref p2, .ref p3, .ref p4, .ref h0, .ref s0, .int (nI ch)], wI (cy 1) p3 4 (fne), wI (cy 1) p4 40 (fqi), wO h0 4 [.ref h1, .ref h2, .ref h3, .ref h4, .ref h5, .ref h6, .ref h7, .ref h8, .ref h9, .ref h10, .ref h11, .int ys, hv1, hv2, hv3, hv4], wI (cy 1) h1 4 (fc), wI (cy 1) h7 48 (fx), wO s0 7 [.ref s1, .ref s2, .int (nI sl), .int spl, .int svo, .int swi, .int sch], wI (cy 1) s1 10 (fw), (er, .inl (cy 4, 4, .inr (.inr (.inr (.inr (eF (ea 0) (ea 1) (ea 2) (ea 3))))))), wO (ea 0) 2 [.ref (eg 0), .ref (ef 0), .int (et 0), .int (nI (el 0)), .int (nI (ei 0))], wI (cy 1) (eg 0) 10 (gc 0), wI (cy 1) (ef 0) 7 (xc 0), wO (ea 1) 2 [.ref (eg 1), .ref (ef 1), .int (et 1), .int (nI (el 1)), .int (nI (ei 1))], wI (cy 1) (eg 1) 10 (gc 1), wI (cy 1) (ef 1) 7 (xc 1), wO (ea 2) 2 [.ref (eg 2), .ref (ef 2), .int (et 2), .int (nI (el 2)), .int (nI (ei 2))], wI (cy 1) (eg 2) 10 (gc 2), wI (cy 1) (ef 2) 7 (xc 2), wO (ea 3) 2 [.ref (eg 3), .ref (ef 3), .int (et 3), .int (nI (el 3)), .int (nI (ei 3))], wI (cy 1) (eg 3) 10 (gc 3), wI (cy 1) (ef 3) 7 (xc 3)] H → va_D A [wO p0 6 [.ref p1, .ref er, .ref ro, .ref p2, .ref p3, .ref p4, .ref h0, .ref s0, .int (nI ch)], wI (cy 1) p3 4 (fne), wI (cy 1) p4 40 (fqi), wO h0 4 [.ref h1, .ref h2, .ref h3, .ref h4, .ref h5, .ref h6, .ref h7, .ref h8, .ref h9, .ref h10, .ref h11, .int ys, hv1, hv2, hv3, hv4], wI (cy 1) h1 4 (fc), wI (cy 1) h7 48 (fx), wO s0 7 [.ref s1, .ref s2, .int (nI sl), .int spl, .int svo, .int swi, .int sch], wI (cy 1) s1 10 (fw), (er, .inl (cy 4, 4, .inr (.inr (.inr (.inr (eF (ea 0) (ea 1) (ea 2) (ea 3))))))), wO (ea 0) 2 [.ref (eg 0), .ref (ef 0), .int (et 0), .int (nI (el 0)), .int (nI (ei 0))], wI (cy 1) (eg 0) 10 (gc 0), wI (cy 1) (ef 0) 7 (xc 0), wO (ea 1) 2 [.ref (eg 1), .ref (ef 1), .int (et 1), .int (nI (el 1)), .int (nI (ei 1))], wI (cy 1) (eg 1) 10 (gc 1), wI (cy 1) (ef 1) 7 (xc 1), wO (ea 2) 2 [.ref (eg 2), .ref (ef 2), .int (et 2), .int (nI (el 2)), .int (nI (ei 2))], wI (cy 1) (eg 2) 10 (gc 2), wI (cy 1) (ef 2) 7 (xc 2), wO (ea 3) 2 [.ref (eg 3), .ref (ef 3), .int (et 3), .int (nI (el 3)), .int (nI (ei 3))], wI (cy 1) (eg 3) 10 (gc 3), wI (cy 1) (ef 3) 7 (xc 3)] → va_S A s.heap H locs → ∀ ls : Array Slot, lv_has ls 11 [(6, .int (nI i91)), (5, .int lb5_91), (4, .int sv91), (3, .ref (ea 2)), (0, .ref p0), (1, .int (nI rk)), (2, .int cg)] → W p l e (rmk 1 0 0) s m args below meth c H locs 0 0 Q (F0 m 21 ls []) := by
      try clear hP hD hS
      intro zn
      induction zn with
      | zero => intro sv91 lb5_91 i91 _ _ _ hz; exact absurd hz (by omega)
      | succ zn ih91 =>
        intro sv91 lb5_91 i91 hb_lb5_91 hf0_91 hf1_91 hmu91 H locs hP hD hS ls hl
        refine lv_iload hx hb dX6_canBeYesBy_21 (lv_at hl 0 rfl) ?_
        refine lv_aload_n hx hb dX6_canBeYesBy_23 rfl (lv_at hl 4 rfl) ?_
        refine va_get (D := D) (ci := 6) (v := .ref s0) (C := RX6) (T := TX6) (N := 9) hx hb hg i_X6 hown hK hP 0 rfl rfl 7 (by decide) (hg _ m_592) (fun _ h9 => h9) rfl dX6_canBeYesBy_24 ?_
        refine va_get (D := D) (ci := 7) (v := .int (nI sl)) (C := RX7) (T := TX7) (N := 7) hx hb hg i_X7 hown hK hP 6 rfl rfl 2 (by decide) (hg _ m_630) (fun _ h9 => h9) rfl dX6_canBeYesBy_27 ?_
        refine lv_icmp_ge (tgt := 162) hx hb dX6_canBeYesBy_30 (by decide) (fun c_92 => ?_) (fun c_92 => ?_)
        · have q_93 : sl ≤ i91 := q_le (a := sl) (b := i91) rfl rfl (by omega) (by omega) c_92
          refine lv_iload hx hb dX6_canBeYesBy_162 (lv_at hl 2 rfl) ?_
          refine lv_aload_n hx hb dX6_canBeYesBy_164 rfl (lv_at hl 4 rfl) ?_
          refine va_get (D := D) (ci := 6) (v := .ref h0) (C := RX6) (T := TX6) (N := 9) hx hb hg i_X6 hown hK hP 0 rfl rfl 6 (by decide) (hg _ m_591) (fun _ h9 => h9) rfl dX6_canBeYesBy_165 ?_
          refine va_get (D := D) (ci := 4) (v := .int ys) (C := RX4) (T := TX4) (N := 16) hx hb hg i_X4 hown hK hP 3 rfl rfl 11 (by decide) (hg _ m_370) (fun _ h9 => h9) rfl dX6_canBeYesBy_168 ?_
          refine lv_iand hx hb dX6_canBeYesBy_171 ?_
          refine lv_topi (fun x_94 ex_94 => ?_)
          refine lv_if_eq (tgt := 179) hx hb dX6_canBeYesBy_172 (by decide) (fun c_172 => ?_) (fun c_172 => ?_)
          · refine lv_iconst (v := 0) hx hb dX6_canBeYesBy_179 (by decide) ?_
            exact x_zret hQ hx hb hr hlocks hK hP hD hS rfl dX6_canBeYesBy_180 () (⟨(Or.inl rfl), (fun hok9 => by rw [show (fne rk).toNatClampNeg = 2 from (by rw [at_cl (by omega) ej_5]; rfl)]; exact by_r0 (by_e0 hc0 hnx (by have h8 := hf1_91 hok9; rw [show i91 = sl by omega] at h8; exact h8) ex_94 c_172))⟩) [0, 1, 2, 3, 4, 5, 6, 7, 8, 9, 10, 11, 12, 13, 14, 15, 16, 17, 18, 19, 20] (by decide +kernel) rfl (Nat.le_of_ble_eq_true rfl) (Nat.le_of_ble_eq_true rfl)
          · refine lv_iconst (v := 1) hx hb dX6_canBeYesBy_175 (by decide) ?_
            refine lv_goto (tgt := 180) hx hb dX6_canBeYesBy_176 (by decide) ?_
            exact x_zret hQ hx hb hr hlocks hK hP hD hS rfl dX6_canBeYesBy_180 () (⟨(Or.inr rfl), (fun hok9 => by rw [show (fne rk).toNatClampNeg = 2 from (by rw [at_cl (by omega) ej_5]; rfl)]; exact by_r1 (by_e1 hc0 hnx (by have h8 := hf1_91 hok9; rw [show i91 = sl by omega] at h8; exact h8) ex_94 c_172))⟩) [0, 1, 2, 3, 4, 5, 6, 7, 8, 9, 10, 11, 12, 13, 14, 15, 16, 17, 18, 19, 20] (by decide +kernel) rfl (Nat.le_of_ble_eq_true rfl) (Nat.le_of_ble_eq_true rfl)
        · have q_93 : i91 < sl := q_nle (a := sl) (b := i91) rfl rfl (by omega) (by omega) c_92
          refine lv_aload_n hx hb dX6_canBeYesBy_33 rfl (lv_at hl 3 rfl) ?_
          refine lv_iload hx hb dX6_canBeYesBy_34 (lv_at hl 0 rfl) ?_
          refine x_callVi (q := (RX2, TX2, 5)) (ci := 2) (q0 := 0) (wr := [wO p0 6 [.ref p1, .ref er, .ref ro, .ref p2, .ref p3, .ref p4, .ref h0, .ref s0, .int (nI ch)], wI (cy 1) p3 4 (fne), wI (cy 1) p4 40 (fqi), wO h0 4 [.ref h1, .ref h2, .ref h3, .ref h4, .ref h5, .ref h6, .ref h7, .ref h8, .ref h9, .ref h10, .ref h11, .int ys, hv1, hv2, hv3, hv4], wI (cy 1) h1 4 (fc), wI (cy 1) h7 48 (fx), wO s0 7 [.ref s1, .ref s2, .int (nI sl), .int spl, .int svo, .int swi, .int sch], wI (cy 1) s1 10 (fw), (er, .inl (cy 4, 4, .inr (.inr (.inr (.inr (eF (ea 0) (ea 1) (ea 2) (ea 3))))))), wO (ea 0) 2 [.ref (eg 0), .ref (ef 0), .int (et 0), .int (nI (el 0)), .int (nI (ei 0))], wI (cy 1) (eg 0) 10 (gc 0), wI (cy 1) (ef 0) 7 (xc 0), wO (ea 1) 2 [.ref (eg 1), .ref (ef 1), .int (et 1), .int (nI (el 1)), .int (nI (ei 1))], wI (cy 1) (eg 1) 10 (gc 1), wI (cy 1) (ef 1) 7 (xc 1), wI (cy 1) (eg 2) 10 (gc 2), wI (cy 1) (ef 2) 7 (xc 2), wO (ea 3) 2 [.ref (eg 3), .ref (ef 3), .int (et 3), .int (nI (el 3)), .int (nI (ei 3))], wI (cy 1) (eg 3) 10 (gc 3), wI (cy 1) (ef 3) 7 (xc 3)]) (rest := []) ⟨hx, hb, hml, hown, hg, hl.1⟩ k_X6_94 (s_placeOf l D cy (ea 2) (eg 2) (ef 2) (et 2) ((el 2)) ((ei 2)) i91 (by omega) (by omega)) E0_blind hK hP hD hS hA [15] [0, 1, 2, 3, 4, 5, 6, 7, 8, 9, 10, 11, 12, 13, 14, 16, 17, 18, 19, 20] ⟨rfl, rfl, by decide +kernel, by decide +kernel, by decide +kernel⟩ rfl rfl (fun _ _ _ => trivial) dX6_canBeYesBy_36 rfl rfl (Nat.le_of_ble_eq_true rfl) ⟨Nat.le_of_ble_eq_true rfl, Nat.le_of_ble_eq_true rfl⟩ ⟨Nat.le_of_ble_eq_true rfl, Nat.le_of_ble_eq_true rfl⟩ (fun zr95 zu95 H locs hw95 hP9 hD9 hS9 => ?_)
          clear hP hD hS
          obtain ⟨k_96, rfl⟩ : ∃ z, z = zu95 := ⟨_, rfl⟩
          refine reW [wO p0 6 [.ref p1, .ref er, .ref ro, .ref p2, .ref p3, .ref p4, .ref h0, .ref s0, .int (nI ch)], wI (cy 1) p3 4 (fne), wI (cy 1) p4 40 (fqi), wO h0 4 [.ref h1, .ref h2, .ref h3, .ref h4, .ref h5, .ref h6, .ref h7, .ref h8, .ref h9, .ref h10, .ref h11, .int ys, hv1, hv2, hv3, hv4], wI (cy 1) h1 4 (fc), wI (cy 1) h7 48 (fx), wO s0 7 [.ref s1, .ref s2, .int (nI sl), .int spl, .int svo, .int swi, .int sch], wI (cy 1) s1 10 (fw), (er, .inl (cy 4, 4, .inr (.inr (.inr (.inr (eF (ea 0) (ea 1) (ea 2) (ea 3))))))), wO (ea 0) 2 [.ref (eg 0), .ref (ef 0), .int (et 0), .int (nI (el 0)), .int (nI (ei 0))], wI (cy 1) (eg 0) 10 (gc 0), wI (cy 1) (ef 0) 7 (xc 0), wO (ea 1) 2 [.ref (eg 1), .ref (ef 1), .int (et 1), .int (nI (el 1)), .int (nI (ei 1))], wI (cy 1) (eg 1) 10 (gc 1), wI (cy 1) (ef 1) 7 (xc 1), wI (cy 1) (eg 2) 10 (gc 2), wI (cy 1) (ef 2) 7 (xc 2), wO (ea 3) 2 [.ref (eg 3), .ref (ef 3), .int (et 3), .int (nI (el 3)), .int (nI (ei 3))], wI (cy 1) (eg 3) 10 (gc 3), wI (cy 1) (ef 3) 7 (xc 3), wO (ea 2) 2 [.ref (eg 2), .ref (ef 2), .int (et 2), .int (nI ((el 2))), .int (nI ((ei 2)))]] hP9 hD9 hS9 (fun hP hD hS => ?_)
          clear hP9 hD9 hS9
          refine W.widen (k := 0) (n := 0) (Nat.le_of_ble_eq_true rfl) (Nat.le_of_ble_eq_true rfl) ?_
          replace hw95 : (zr95 = nI k_96) ∧ (k_96 < ((el 2))) ∧ (k_96 = plS (et 2) ((el 2)) i91) := hw95
          obtain ⟨f_97, f_98, f_99⟩ := hw95
          subst f_97
          refine lv_istore (lv' := [(7, .int (nI k_96)), (6, .int (nI i91)), (5, .int lb5_91), (4, .int sv91), (3, .ref (ea 2)), (0, .ref p0), (1, .int (nI rk)), (2, .int cg)]) hx hb dX6_canBeYesBy_39 hl (by decide) rfl (fun ls hl => ?_)
          refine lv_aload_n hx hb dX6_canBeYesBy_41 rfl (lv_at hl 5 rfl) ?_
          refine lv_iload hx hb dX6_canBeYesBy_42 (lv_at hl 0 rfl) ?_
          refine lv_iload_n hx hb dX6_canBeYesBy_44 rfl (lv_at hl 7 rfl) ?_
          refine x_callVi (q := (RX6, TX6, 9)) (ci := 6) (q0 := 0) (wr := [wI (cy 1) p3 4 (fne), wI (cy 1) p4 40 (fqi), wI (cy 1) h7 48 (fx), (er, .inl (cy 4, 4, .inr (.inr (.inr (.inr (eF (ea 0) (ea 1) (ea 2) (ea 3))))))), wO (ea 0) 2 [.ref (eg 0), .ref (ef 0), .int (et 0), .int (nI (el 0)), .int (nI (ei 0))], wI (cy 1) (eg 0) 10 (gc 0), wI (cy 1) (ef 0) 7 (xc 0), wO (ea 1) 2 [.ref (eg 1), .ref (ef 1), .int (et 1), .int (nI (el 1)), .int (nI (ei 1))], wI (cy 1) (eg 1) 10 (gc 1), wI (cy 1) (ef 1) 7 (xc 1), wI (cy 1) (eg 2) 10 (gc 2), wI (cy 1) (ef 2) 7 (xc 2), wO (ea 3) 2 [.ref (eg 3), .ref (ef 3), .int (et 3), .int (nI (el 3)), .int (nI (ei 3))], wI (cy 1) (eg 3) 10 (gc 3), wI (cy 1) (ef 3) 7 (xc 3), wO (ea 2) 2 [.ref (eg 2), .ref (ef 2), .int (et 2), .int (nI ((el 2))), .int (nI ((ei 2)))]]) (rest := []) ⟨hx, hb, hml, hown, hg, hl.1⟩ k_X6_98 (s_choices l D cy p0 p1 p2 p3 p4 er ro ch h0 h1 h2 h3 h4 h5 h6 h7 h8 h9 h10 h11 ((.int ys)) hv1 hv2 hv3 hv4 fc c0 c1 c2 c3 s0 s1 s2 sl spl svo swi sch fw k_96 cg (hcn) (by omega) (by omega) (by omega) (by omega) (hsw) (by omega)) E0_blind hK hP hD hS hA [0, 3, 4, 6, 7] [1, 2, 5, 8, 9, 10, 11, 12, 13, 14, 15, 16, 17, 18, 19, 20] ⟨rfl, rfl, by decide +kernel, by decide +kernel, by decide +kernel⟩ rfl rfl (fun _ _ _ => trivial) dX6_canBeYesBy_45 rfl rfl (Nat.le_of_ble_eq_true rfl) ⟨Nat.le_of_ble_eq_true rfl, Nat.le_of_ble_eq_true rfl⟩ ⟨Nat.le_of_ble_eq_true rfl, Nat.le_of_ble_eq_true rfl⟩ (fun zr100 zu100 H locs hw100 hP9 hD9 hS9 => ?_)
          clear hP hD hS
          refine reW [wI (cy 1) p3 4 (fne), wI (cy 1) p4 40 (fqi), wI (cy 1) h7 48 (fx), (er, .inl (cy 4, 4, .inr (.inr (.inr (.inr (eF (ea 0) (ea 1) (ea 2) (ea 3))))))), wO (ea 0) 2 [.ref (eg 0), .ref (ef 0), .int (et 0), .int (nI (el 0)), .int (nI (ei 0))], wI (cy 1) (eg 0) 10 (gc 0), wI (cy 1) (ef 0) 7 (xc 0), wO (ea 1) 2 [.ref (eg 1), .ref (ef 1), .int (et 1), .int (nI (el 1)), .int (nI (ei 1))], wI (cy 1) (eg 1) 10 (gc 1), wI (cy 1) (ef 1) 7 (xc 1), wI (cy 1) (eg 2) 10 (gc 2), wI (cy 1) (ef 2) 7 (xc 2), wO (ea 3) 2 [.ref (eg 3), .ref (ef 3), .int (et 3), .int (nI (el 3)), .int (nI (ei 3))], wI (cy 1) (eg 3) 10 (gc 3), wI (cy 1) (ef 3) 7 (xc 3), wO (ea 2) 2 [.ref (eg 2), .ref (ef 2), .int (et 2), .int (nI ((el 2))), .int (nI ((ei 2)))], wO p0 6 [.ref p1, .ref er, .ref ro, .ref p2, .ref p3, .ref p4, .ref h0, .ref s0, .int (nI ch)], wO h0 4 [.ref h1, .ref h2, .ref h3, .ref h4, .ref h5, .ref h6, .ref h7, .ref h8, .ref h9, .ref h10, .ref h11, .int ys, hv1, hv2, hv3, hv4], wI (cy 1) h1 4 (fc), wO s0 7 [.ref s1, .ref s2, .int (nI sl), .int spl, .int svo, .int swi, .int sch], wI (cy 1) s1 10 (fw)] hP9 hD9 hS9 (fun hP hD hS => ?_)
          clear hP9 hD9 hS9
          refine W.widen (k := 0) (n := 0) (Nat.le_of_ble_eq_true rfl) (Nat.le_of_ble_eq_true rfl) ?_
          replace hw100 : (∀ w9 : Nat, w9 < 8 → bt zr100 w9 = chB c0 fw cg k_96 w9) ∧ (∀ w9 : Nat, 8 ≤ w9 → w9 < 32 → bt zr100 w9 = false) := hw100
          obtain ⟨f_101, f_102⟩ := hw100
          refine lv_aload_n hx hb dX6_canBeYesBy_48 rfl (lv_at hl 5 rfl) ?_
          refine va_get (D := D) (ci := 6) (v := .ref p4) (C := RX6) (T := TX6) (N := 9) hx hb hg i_X6 hown hK hP 16 rfl rfl 5 (by decide) (hg _ m_590) (fun _ h9 => h9) rfl dX6_canBeYesBy_49 ?_
          refine lv_iload_n hx hb dX6_canBeYesBy_52 rfl (lv_at hl 6 rfl) ?_
          refine lv_bipush (v := 10) hx hb dX6_canBeYesBy_53 (by decide) ?_
          refine lv_imul hx hb dX6_canBeYesBy_55 ?_
          refine lv_topi (fun y_103 hy_103 => ?_)
          obtain rfl : y_103 = nI (rk * 10) := hy_103.trans (pk_mul rk 10)
          refine lv_iload hx hb dX6_canBeYesBy_56 (lv_at hl 0 rfl) ?_
          refine lv_iadd hx hb dX6_canBeYesBy_58 ?_
          refine lv_topi (fun y_104 hy_104 => ?_)
          obtain rfl : y_104 = nI ((rk * 10) + k_96) := hy_104.trans (nI_add ((rk * 10)) k_96)
          refine va_iald hx hb hK hP 1 1 rfl rfl (vp_in_nI (by omega) (by decide)) dX6_canBeYesBy_59 ?_
          refine lv_topi (fun x_105 ex_105 => ?_)
          refine lv_iand hx hb dX6_canBeYesBy_60 ?_
          refine lv_topi (fun x_106 ex_106 => ?_)
          refine lv_istore (lv' := [(8, .int x_106), (7, .int (nI k_96)), (6, .int (nI i91)), (5, .int lb5_91), (4, .int sv91), (3, .ref (ea 2)), (0, .ref p0), (1, .int (nI rk)), (2, .int cg)]) hx hb dX6_canBeYesBy_61 hl (by decide) rfl (fun ls hl => ?_)
          refine lv_iload hx hb dX6_canBeYesBy_63 (lv_at hl 0 rfl) ?_
          refine lv_if_ne (tgt := 70) hx hb dX6_canBeYesBy_65 (by decide) (fun c_65 => ?_) (fun c_65 => ?_)
          · refine lv_iload hx hb dX6_canBeYesBy_70 (lv_at hl 0 rfl) ?_
            refine lv_aload_n hx hb dX6_canBeYesBy_72 rfl (lv_at hl 5 rfl) ?_
            refine va_get (D := D) (ci := 2) (v := .ref (eg 2)) (C := RX2) (T := TX2) (N := 5) hx hb hg i_X2 hown hK hP 15 rfl rfl 0 (by decide) (hg _ m_513) (fun _ h9 => h9) rfl dX6_canBeYesBy_73 ?_
            refine lv_iload hx hb dX6_canBeYesBy_76 (lv_at hl 1 rfl) ?_
            refine va_iald hx hb hK hP 10 1 rfl rfl (vp_in_nI (by omega) (by decide)) dX6_canBeYesBy_78 ?_
            refine lv_topi (fun x_107 ex_107 => ?_)
            refine lv_iand hx hb dX6_canBeYesBy_79 ?_
            refine lv_topi (fun x_108 ex_108 => ?_)
            refine lv_if_eq (tgt := 87) hx hb dX6_canBeYesBy_80 (by decide) (fun c_80 => ?_) (fun c_80 => ?_)
            · refine lv_iconst (v := 0) hx hb dX6_canBeYesBy_87 (by decide) ?_
              refine lv_istore (lv' := [(9, .int 0), (8, .int x_106), (7, .int (nI k_96)), (6, .int (nI i91)), (5, .int lb5_91), (4, .int sv91), (3, .ref (ea 2)), (0, .ref p0), (1, .int (nI rk)), (2, .int cg)]) hx hb dX6_canBeYesBy_88 hl (by decide) rfl (fun ls hl => ?_)
              refine lv_aload_n hx hb dX6_canBeYesBy_90 rfl (lv_at hl 7 rfl) ?_
              refine lv_iload hx hb dX6_canBeYesBy_91 (lv_at hl 4 rfl) ?_
              refine lv_if_eq (tgt := 103) hx hb dX6_canBeYesBy_93 (by decide) (fun c_93 => ?_) (fun c_93 => ?_)
              · refine lv_iload hx hb dX6_canBeYesBy_103 (lv_at hl 5 rfl) ?_
                refine lv_iload hx hb dX6_canBeYesBy_105 (lv_at hl 1 rfl) ?_
                refine lv_aload_n hx hb dX6_canBeYesBy_107 rfl (lv_at hl 6 rfl) ?_
                refine va_get (D := D) (ci := 2) (v := .ref (eg 2)) (C := RX2) (T := TX2) (N := 5) hx hb hg i_X2 hown hK hP 15 rfl rfl 0 (by decide) (hg _ m_513) (fun _ h9 => h9) rfl dX6_canBeYesBy_108 ?_
                refine lv_iload hx hb dX6_canBeYesBy_111 (lv_at hl 2 rfl) ?_
                refine va_iald hx hb hK hP 10 1 rfl rfl (vp_in_nI (by omega) (by decide)) dX6_canBeYesBy_113 ?_
                refine lv_topi (fun x_109 ex_109 => ?_)
                refine lv_iconst (v := -1) hx hb dX6_canBeYesBy_114 (by decide) ?_
                refine lv_ixor hx hb dX6_canBeYesBy_115 ?_
                refine lv_topi (fun x_110 ex_110 => ?_)
                refine lv_iand hx hb dX6_canBeYesBy_116 ?_
                refine lv_topi (fun x_111 ex_111 => ?_)
                refine x_callVi (q := (RX6, TX6, 9)) (ci := 6) (q0 := 0) (wr := [wI (cy 1) p3 4 (fne), wI (cy 1) p4 40 (fqi), (er, .inl (cy 4, 4, .inr (.inr (.inr (.inr (eF (ea 0) (ea 1) (ea 2) (ea 3))))))), wO (ea 0) 2 [.ref (eg 0), .ref (ef 0), .int (et 0), .int (nI (el 0)), .int (nI (ei 0))], wI (cy 1) (eg 0) 10 (gc 0), wI (cy 1) (ef 0) 7 (xc 0), wO (ea 1) 2 [.ref (eg 1), .ref (ef 1), .int (et 1), .int (nI (el 1)), .int (nI (ei 1))], wI (cy 1) (eg 1) 10 (gc 1), wI (cy 1) (ef 1) 7 (xc 1), wI (cy 1) (eg 2) 10 (gc 2), wI (cy 1) (ef 2) 7 (xc 2), wO (ea 3) 2 [.ref (eg 3), .ref (ef 3), .int (et 3), .int (nI (el 3)), .int (nI (ei 3))], wI (cy 1) (eg 3) 10 (gc 3), wI (cy 1) (ef 3) 7 (xc 3), wO (ea 2) 2 [.ref (eg 2), .ref (ef 2), .int (et 2), .int (nI ((el 2))), .int (nI ((ei 2)))], wO s0 7 [.ref s1, .ref s2, .int (nI sl), .int spl, .int svo, .int swi, .int sch], wI (cy 1) s1 10 (fw)]) (rest := []) ⟨hx, hb, hml, hown, hg, hl.1⟩ k_X6_101 (s_led l D cy p0 p1 p2 p3 p4 er ro ch s0 h0 h1 h2 h3 h4 h5 h6 h7 h8 h9 h10 h11 ((.int ys)) hv1 hv2 hv3 hv4 fc c0 c1 c2 c3 fx sv91 x_111 (hcn) (by omega) (by omega) (by omega) (by omega) (hnx)) E0_blind hK hP hD hS hA [16, 17, 18, 2] [0, 1, 3, 4, 5, 6, 7, 8, 9, 10, 11, 12, 13, 14, 15, 19, 20] ⟨rfl, rfl, by decide +kernel, by decide +kernel, by decide +kernel⟩ rfl rfl (fun _ _ _ => trivial) dX6_canBeYesBy_117 rfl rfl (Nat.le_of_ble_eq_true rfl) ⟨Nat.le_of_ble_eq_true rfl, Nat.le_of_ble_eq_true rfl⟩ ⟨Nat.le_of_ble_eq_true rfl, Nat.le_of_ble_eq_true rfl⟩ (fun zr112 zu112 H locs hw112 hP9 hD9 hS9 => ?_)
                clear hP hD hS
                refine reW [wI (cy 1) p3 4 (fne), wI (cy 1) p4 40 (fqi), (er, .inl (cy 4, 4, .inr (.inr (.inr (.inr (eF (ea 0) (ea 1) (ea 2) (ea 3))))))), wO (ea 0) 2 [.ref (eg 0), .ref (ef 0), .int (et 0), .int (nI (el 0)), .int (nI (ei 0))], wI (cy 1) (eg 0) 10 (gc 0), wI (cy 1) (ef 0) 7 (xc 0), wO (ea 1) 2 [.ref (eg 1), .ref (ef 1), .int (et 1), .int (nI (el 1)), .int (nI (ei 1))], wI (cy 1) (eg 1) 10 (gc 1), wI (cy 1) (ef 1) 7 (xc 1), wI (cy 1) (eg 2) 10 (gc 2), wI (cy 1) (ef 2) 7 (xc 2), wO (ea 3) 2 [.ref (eg 3), .ref (ef 3), .int (et 3), .int (nI (el 3)), .int (nI (ei 3))], wI (cy 1) (eg 3) 10 (gc 3), wI (cy 1) (ef 3) 7 (xc 3), wO (ea 2) 2 [.ref (eg 2), .ref (ef 2), .int (et 2), .int (nI ((el 2))), .int (nI ((ei 2)))], wO s0 7 [.ref s1, .ref s2, .int (nI sl), .int spl, .int svo, .int swi, .int sch], wI (cy 1) s1 10 (fw), wO p0 6 [.ref p1, .ref er, .ref ro, .ref p2, .ref p3, .ref p4, .ref h0, .ref s0, .int (nI ch)], wO h0 4 [.ref h1, .ref h2, .ref h3, .ref h4, .ref h5, .ref h6, .ref h7, .ref h8, .ref h9, .ref h10, .ref h11, .int ys, hv1, hv2, hv3, hv4], wI (cy 1) h1 4 (fc), wI (cy 1) h7 48 (fx)] hP9 hD9 hS9 (fun hP hD hS => ?_)
                clear hP9 hD9 hS9
                refine W.widen (k := 0) (n := 0) (Nat.le_of_ble_eq_true rfl) (Nat.le_of_ble_eq_true rfl) ?_
                replace hw112 : (∀ s9 : Nat, s9 < 32 → bt zr112 s9 = orF (ldO fx sv91 x_111 s9) c0) := hw112
                have f_113 := hw112
                refine lv_istore (lv' := [(10, .int zr112), (9, .int 0), (8, .int x_106), (7, .int (nI k_96)), (6, .int (nI i91)), (5, .int lb5_91), (4, .int sv91), (3, .ref (ea 2)), (0, .ref p0), (1, .int (nI rk)), (2, .int cg)]) hx hb dX6_canBeYesBy_120 hl (by decide) rfl (fun ls hl => ?_)
                refine lv_iload hx hb dX6_canBeYesBy_122 (lv_at hl 1 rfl) ?_
                refine lv_if_eq (tgt := 135) hx hb dX6_canBeYesBy_124 (by decide) (fun _ => ?_) (fun h => absurd (by decide) h)
                refine lv_iload hx hb dX6_canBeYesBy_135 (lv_at hl 0 rfl) ?_
                refine lv_istore (lv' := [(4, .int zr112), (10, .int zr112), (9, .int 0), (8, .int x_106), (7, .int (nI k_96)), (6, .int (nI i91)), (5, .int lb5_91), (3, .ref (ea 2)), (0, .ref p0), (1, .int (nI rk)), (2, .int cg)]) hx hb dX6_canBeYesBy_137 hl (by decide) rfl (fun ls hl => ?_)
                refine lv_iload hx hb dX6_canBeYesBy_139 (lv_at hl 6 rfl) ?_
                refine lv_if_eq (tgt := 153) hx hb dX6_canBeYesBy_141 (by decide) (fun _ => ?_) (fun h => absurd c_93 h)
                refine lv_iconst (v := 0) hx hb dX6_canBeYesBy_153 (by decide) ?_
                refine lv_istore (lv' := [(5, .int 0), (4, .int zr112), (10, .int zr112), (9, .int 0), (8, .int x_106), (7, .int (nI k_96)), (6, .int (nI i91)), (3, .ref (ea 2)), (0, .ref p0), (1, .int (nI rk)), (2, .int cg)]) hx hb dX6_canBeYesBy_154 hl (by decide) rfl (fun ls hl => ?_)
                refine lv_iinc (v := nI (i91 + 1)) (lv' := [(6, .int (nI (i91 + 1))), (5, .int 0), (4, .int zr112), (10, .int zr112), (9, .int 0), (8, .int x_106), (7, .int (nI k_96)), (3, .ref (ea 2)), (0, .ref p0), (1, .int (nI rk)), (2, .int cg)]) hx hb dX6_canBeYesBy_156 hl (k := 6) rfl (nI_add i91 1) (by decide) rfl (fun ls hl => ?_)
                refine lv_goto (tgt := 21) hx hb dX6_canBeYesBy_159 (by decide) ?_
                exact ih91  zr112 0 ((i91 + 1)) (Or.inl rfl) (by omega) (fun hok9 => by_st (sk := false) (n1 := false) hok9 hc0 hnx (hf1_91 hok9) (by omega) hsl (by rw [← hesk]; exact f_99) f_101 f_102 (fun w9 h9 => by rw [ex_105, nI_clamp (by omega)]; exact hqu rk k_96 w9 hrk (by omega) h9) ex_106 ex_107 ex_108 (decide_eq_false (fun h9 => h9 c_80)).symm (decide_eq_false (fun h9 => h9 c_93)).symm hb_lb5_91 (if_neg (by decide)).symm ex_109 ex_110 ex_111 f_113 (if_neg (by decide)).symm (if_neg (by decide)).symm) (by omega) _ _ (hP.sub [17, 0, 1, 18, 19, 20, 15, 16, 2, 3, 4, 5, 6, 7, 8, 14, 9, 10, 11, 12, 13] rfl) (hD.sub [17, 0, 1, 18, 19, 20, 15, 16, 2, 3, 4, 5, 6, 7, 8, 14, 9, 10, 11, 12, 13] (by decide +kernel) rfl) hS ls (lv_sub hl [0, 1, 2, 7, 8, 9, 10] rfl)
              · refine lv_iload hx hb dX6_canBeYesBy_96 (lv_at hl 5 rfl) ?_
                refine lv_iconst (v := 1) hx hb dX6_canBeYesBy_98 (by decide) ?_
                refine lv_ior hx hb dX6_canBeYesBy_99 ?_
                refine lv_topi (fun x_114 ex_114 => ?_)
                refine lv_goto (tgt := 105) hx hb dX6_canBeYesBy_100 (by decide) ?_
                refine lv_iload hx hb dX6_canBeYesBy_105 (lv_at hl 1 rfl) ?_
                refine lv_aload_n hx hb dX6_canBeYesBy_107 rfl (lv_at hl 6 rfl) ?_
                refine va_get (D := D) (ci := 2) (v := .ref (eg 2)) (C := RX2) (T := TX2) (N := 5) hx hb hg i_X2 hown hK hP 15 rfl rfl 0 (by decide) (hg _ m_513) (fun _ h9 => h9) rfl dX6_canBeYesBy_108 ?_
                refine lv_iload hx hb dX6_canBeYesBy_111 (lv_at hl 2 rfl) ?_
                refine va_iald hx hb hK hP 10 1 rfl rfl (vp_in_nI (by omega) (by decide)) dX6_canBeYesBy_113 ?_
                refine lv_topi (fun x_115 ex_115 => ?_)
                refine lv_iconst (v := -1) hx hb dX6_canBeYesBy_114 (by decide) ?_
                refine lv_ixor hx hb dX6_canBeYesBy_115 ?_
                refine lv_topi (fun x_116 ex_116 => ?_)
                refine lv_iand hx hb dX6_canBeYesBy_116 ?_
                refine lv_topi (fun x_117 ex_117 => ?_)
                refine x_callVi (q := (RX6, TX6, 9)) (ci := 6) (q0 := 0) (wr := [wI (cy 1) p3 4 (fne), wI (cy 1) p4 40 (fqi), (er, .inl (cy 4, 4, .inr (.inr (.inr (.inr (eF (ea 0) (ea 1) (ea 2) (ea 3))))))), wO (ea 0) 2 [.ref (eg 0), .ref (ef 0), .int (et 0), .int (nI (el 0)), .int (nI (ei 0))], wI (cy 1) (eg 0) 10 (gc 0), wI (cy 1) (ef 0) 7 (xc 0), wO (ea 1) 2 [.ref (eg 1), .ref (ef 1), .int (et 1), .int (nI (el 1)), .int (nI (ei 1))], wI (cy 1) (eg 1) 10 (gc 1), wI (cy 1) (ef 1) 7 (xc 1), wI (cy 1) (eg 2) 10 (gc 2), wI (cy 1) (ef 2) 7 (xc 2), wO (ea 3) 2 [.ref (eg 3), .ref (ef 3), .int (et 3), .int (nI (el 3)), .int (nI (ei 3))], wI (cy 1) (eg 3) 10 (gc 3), wI (cy 1) (ef 3) 7 (xc 3), wO (ea 2) 2 [.ref (eg 2), .ref (ef 2), .int (et 2), .int (nI ((el 2))), .int (nI ((ei 2)))], wO s0 7 [.ref s1, .ref s2, .int (nI sl), .int spl, .int svo, .int swi, .int sch], wI (cy 1) s1 10 (fw)]) (rest := []) ⟨hx, hb, hml, hown, hg, hl.1⟩ k_X6_101 (s_led l D cy p0 p1 p2 p3 p4 er ro ch s0 h0 h1 h2 h3 h4 h5 h6 h7 h8 h9 h10 h11 ((.int ys)) hv1 hv2 hv3 hv4 fc c0 c1 c2 c3 fx x_114 x_117 (hcn) (by omega) (by omega) (by omega) (by omega) (hnx)) E0_blind hK hP hD hS hA [16, 17, 18, 2] [0, 1, 3, 4, 5, 6, 7, 8, 9, 10, 11, 12, 13, 14, 15, 19, 20] ⟨rfl, rfl, by decide +kernel, by decide +kernel, by decide +kernel⟩ rfl rfl (fun _ _ _ => trivial) dX6_canBeYesBy_117 rfl rfl (Nat.le_of_ble_eq_true rfl) ⟨Nat.le_of_ble_eq_true rfl, Nat.le_of_ble_eq_true rfl⟩ ⟨Nat.le_of_ble_eq_true rfl, Nat.le_of_ble_eq_true rfl⟩ (fun zr118 zu118 H locs hw118 hP9 hD9 hS9 => ?_)
                clear hP hD hS
                refine reW [wI (cy 1) p3 4 (fne), wI (cy 1) p4 40 (fqi), (er, .inl (cy 4, 4, .inr (.inr (.inr (.inr (eF (ea 0) (ea 1) (ea 2) (ea 3))))))), wO (ea 0) 2 [.ref (eg 0), .ref (ef 0), .int (et 0), .int (nI (el 0)), .int (nI (ei 0))], wI (cy 1) (eg 0) 10 (gc 0), wI (cy 1) (ef 0) 7 (xc 0), wO (ea 1) 2 [.ref (eg 1), .ref (ef 1), .int (et 1), .int (nI (el 1)), .int (nI (ei 1))], wI (cy 1) (eg 1) 10 (gc 1), wI (cy 1) (ef 1) 7 (xc 1), wI (cy 1) (eg 2) 10 (gc 2), wI (cy 1) (ef 2) 7 (xc 2), wO (ea 3) 2 [.ref (eg 3), .ref (ef 3), .int (et 3), .int (nI (el 3)), .int (nI (ei 3))], wI (cy 1) (eg 3) 10 (gc 3), wI (cy 1) (ef 3) 7 (xc 3), wO (ea 2) 2 [.ref (eg 2), .ref (ef 2), .int (et 2), .int (nI ((el 2))), .int (nI ((ei 2)))], wO s0 7 [.ref s1, .ref s2, .int (nI sl), .int spl, .int svo, .int swi, .int sch], wI (cy 1) s1 10 (fw), wO p0 6 [.ref p1, .ref er, .ref ro, .ref p2, .ref p3, .ref p4, .ref h0, .ref s0, .int (nI ch)], wO h0 4 [.ref h1, .ref h2, .ref h3, .ref h4, .ref h5, .ref h6, .ref h7, .ref h8, .ref h9, .ref h10, .ref h11, .int ys, hv1, hv2, hv3, hv4], wI (cy 1) h1 4 (fc), wI (cy 1) h7 48 (fx)] hP9 hD9 hS9 (fun hP hD hS => ?_)
                clear hP9 hD9 hS9
                refine W.widen (k := 0) (n := 0) (Nat.le_of_ble_eq_true rfl) (Nat.le_of_ble_eq_true rfl) ?_
                replace hw118 : (∀ s9 : Nat, s9 < 32 → bt zr118 s9 = orF (ldO fx x_114 x_117 s9) c0) := hw118
                have f_119 := hw118
                refine lv_istore (lv' := [(10, .int zr118), (9, .int 0), (8, .int x_106), (7, .int (nI k_96)), (6, .int (nI i91)), (5, .int lb5_91), (4, .int sv91), (3, .ref (ea 2)), (0, .ref p0), (1, .int (nI rk)), (2, .int cg)]) hx hb dX6_canBeYesBy_120 hl (by decide) rfl (fun ls hl => ?_)
                refine lv_iload hx hb dX6_canBeYesBy_122 (lv_at hl 1 rfl) ?_
                refine lv_if_eq (tgt := 135) hx hb dX6_canBeYesBy_124 (by decide) (fun _ => ?_) (fun h => absurd (by decide) h)
                refine lv_iload hx hb dX6_canBeYesBy_135 (lv_at hl 0 rfl) ?_
                refine lv_istore (lv' := [(4, .int zr118), (10, .int zr118), (9, .int 0), (8, .int x_106), (7, .int (nI k_96)), (6, .int (nI i91)), (5, .int lb5_91), (3, .ref (ea 2)), (0, .ref p0), (1, .int (nI rk)), (2, .int cg)]) hx hb dX6_canBeYesBy_137 hl (by decide) rfl (fun ls hl => ?_)
                refine lv_iload hx hb dX6_canBeYesBy_139 (lv_at hl 6 rfl) ?_
                refine lv_if_eq (tgt := 153) hx hb dX6_canBeYesBy_141 (by decide) (fun h => absurd h c_93) (fun _ => ?_)
                refine lv_iload hx hb dX6_canBeYesBy_144 (lv_at hl 2 rfl) ?_
                refine lv_if_eq (tgt := 153) hx hb dX6_canBeYesBy_146 (by decide) (fun _ => ?_) (fun h => absurd (by decide) h)
                refine lv_iconst (v := 0) hx hb dX6_canBeYesBy_153 (by decide) ?_
                refine lv_istore (lv' := [(5, .int 0), (4, .int zr118), (10, .int zr118), (9, .int 0), (8, .int x_106), (7, .int (nI k_96)), (6, .int (nI i91)), (3, .ref (ea 2)), (0, .ref p0), (1, .int (nI rk)), (2, .int cg)]) hx hb dX6_canBeYesBy_154 hl (by decide) rfl (fun ls hl => ?_)
                refine lv_iinc (v := nI (i91 + 1)) (lv' := [(6, .int (nI (i91 + 1))), (5, .int 0), (4, .int zr118), (10, .int zr118), (9, .int 0), (8, .int x_106), (7, .int (nI k_96)), (3, .ref (ea 2)), (0, .ref p0), (1, .int (nI rk)), (2, .int cg)]) hx hb dX6_canBeYesBy_156 hl (k := 6) rfl (nI_add i91 1) (by decide) rfl (fun ls hl => ?_)
                refine lv_goto (tgt := 21) hx hb dX6_canBeYesBy_159 (by decide) ?_
                exact ih91  zr118 0 ((i91 + 1)) (Or.inl rfl) (by omega) (fun hok9 => by_st (sk := false) (n1 := true) hok9 hc0 hnx (hf1_91 hok9) (by omega) hsl (by rw [← hesk]; exact f_99) f_101 f_102 (fun w9 h9 => by rw [ex_105, nI_clamp (by omega)]; exact hqu rk k_96 w9 hrk (by omega) h9) ex_106 ex_107 ex_108 (decide_eq_false (fun h9 => h9 c_80)).symm (decide_eq_true c_93).symm hb_lb5_91 (ex_114.trans (if_pos rfl).symm) ex_115 ex_116 ex_117 f_119 (if_neg (by decide)).symm (if_neg (by decide)).symm) (by omega) _ _ (hP.sub [17, 0, 1, 18, 19, 20, 15, 16, 2, 3, 4, 5, 6, 7, 8, 14, 9, 10, 11, 12, 13] rfl) (hD.sub [17, 0, 1, 18, 19, 20, 15, 16, 2, 3, 4, 5, 6, 7, 8, 14, 9, 10, 11, 12, 13] (by decide +kernel) rfl) hS ls (lv_sub hl [0, 1, 2, 7, 8, 9, 10] rfl)
            · refine lv_iconst (v := 1) hx hb dX6_canBeYesBy_83 (by decide) ?_
              refine lv_goto (tgt := 88) hx hb dX6_canBeYesBy_84 (by decide) ?_
              refine lv_istore (lv' := [(9, .int 1), (8, .int x_106), (7, .int (nI k_96)), (6, .int (nI i91)), (5, .int lb5_91), (4, .int sv91), (3, .ref (ea 2)), (0, .ref p0), (1, .int (nI rk)), (2, .int cg)]) hx hb dX6_canBeYesBy_88 hl (by decide) rfl (fun ls hl => ?_)
              refine lv_aload_n hx hb dX6_canBeYesBy_90 rfl (lv_at hl 7 rfl) ?_
              refine lv_iload hx hb dX6_canBeYesBy_91 (lv_at hl 4 rfl) ?_
              refine lv_if_eq (tgt := 103) hx hb dX6_canBeYesBy_93 (by decide) (fun c_93 => ?_) (fun c_93 => ?_)
              · refine lv_iload hx hb dX6_canBeYesBy_103 (lv_at hl 5 rfl) ?_
                refine lv_iload hx hb dX6_canBeYesBy_105 (lv_at hl 1 rfl) ?_
                refine lv_aload_n hx hb dX6_canBeYesBy_107 rfl (lv_at hl 6 rfl) ?_
                refine va_get (D := D) (ci := 2) (v := .ref (eg 2)) (C := RX2) (T := TX2) (N := 5) hx hb hg i_X2 hown hK hP 15 rfl rfl 0 (by decide) (hg _ m_513) (fun _ h9 => h9) rfl dX6_canBeYesBy_108 ?_
                refine lv_iload hx hb dX6_canBeYesBy_111 (lv_at hl 2 rfl) ?_
                refine va_iald hx hb hK hP 10 1 rfl rfl (vp_in_nI (by omega) (by decide)) dX6_canBeYesBy_113 ?_
                refine lv_topi (fun x_120 ex_120 => ?_)
                refine lv_iconst (v := -1) hx hb dX6_canBeYesBy_114 (by decide) ?_
                refine lv_ixor hx hb dX6_canBeYesBy_115 ?_
                refine lv_topi (fun x_121 ex_121 => ?_)
                refine lv_iand hx hb dX6_canBeYesBy_116 ?_
                refine lv_topi (fun x_122 ex_122 => ?_)
                refine x_callVi (q := (RX6, TX6, 9)) (ci := 6) (q0 := 0) (wr := [wI (cy 1) p3 4 (fne), wI (cy 1) p4 40 (fqi), (er, .inl (cy 4, 4, .inr (.inr (.inr (.inr (eF (ea 0) (ea 1) (ea 2) (ea 3))))))), wO (ea 0) 2 [.ref (eg 0), .ref (ef 0), .int (et 0), .int (nI (el 0)), .int (nI (ei 0))], wI (cy 1) (eg 0) 10 (gc 0), wI (cy 1) (ef 0) 7 (xc 0), wO (ea 1) 2 [.ref (eg 1), .ref (ef 1), .int (et 1), .int (nI (el 1)), .int (nI (ei 1))], wI (cy 1) (eg 1) 10 (gc 1), wI (cy 1) (ef 1) 7 (xc 1), wI (cy 1) (eg 2) 10 (gc 2), wI (cy 1) (ef 2) 7 (xc 2), wO (ea 3) 2 [.ref (eg 3), .ref (ef 3), .int (et 3), .int (nI (el 3)), .int (nI (ei 3))], wI (cy 1) (eg 3) 10 (gc 3), wI (cy 1) (ef 3) 7 (xc 3), wO (ea 2) 2 [.ref (eg 2), .ref (ef 2), .int (et 2), .int (nI ((el 2))), .int (nI ((ei 2)))], wO s0 7 [.ref s1, .ref s2, .int (nI sl), .int spl, .int svo, .int swi, .int sch], wI (cy 1) s1 10 (fw)]) (rest := []) ⟨hx, hb, hml, hown, hg, hl.1⟩ k_X6_101 (s_led l D cy p0 p1 p2 p3 p4 er ro ch s0 h0 h1 h2 h3 h4 h5 h6 h7 h8 h9 h10 h11 ((.int ys)) hv1 hv2 hv3 hv4 fc c0 c1 c2 c3 fx sv91 x_122 (hcn) (by omega) (by omega) (by omega) (by omega) (hnx)) E0_blind hK hP hD hS hA [16, 17, 18, 2] [0, 1, 3, 4, 5, 6, 7, 8, 9, 10, 11, 12, 13, 14, 15, 19, 20] ⟨rfl, rfl, by decide +kernel, by decide +kernel, by decide +kernel⟩ rfl rfl (fun _ _ _ => trivial) dX6_canBeYesBy_117 rfl rfl (Nat.le_of_ble_eq_true rfl) ⟨Nat.le_of_ble_eq_true rfl, Nat.le_of_ble_eq_true rfl⟩ ⟨Nat.le_of_ble_eq_true rfl, Nat.le_of_ble_eq_true rfl⟩ (fun zr123 zu123 H locs hw123 hP9 hD9 hS9 => ?_)
                clear hP hD hS
                refine reW [wI (cy 1) p3 4 (fne), wI (cy 1) p4 40 (fqi), (er, .inl (cy 4, 4, .inr (.inr (.inr (.inr (eF (ea 0) (ea 1) (ea 2) (ea 3))))))), wO (ea 0) 2 [.ref (eg 0), .ref (ef 0), .int (et 0), .int (nI (el 0)), .int (nI (ei 0))], wI (cy 1) (eg 0) 10 (gc 0), wI (cy 1) (ef 0) 7 (xc 0), wO (ea 1) 2 [.ref (eg 1), .ref (ef 1), .int (et 1), .int (nI (el 1)), .int (nI (ei 1))], wI (cy 1) (eg 1) 10 (gc 1), wI (cy 1) (ef 1) 7 (xc 1), wI (cy 1) (eg 2) 10 (gc 2), wI (cy 1) (ef 2) 7 (xc 2), wO (ea 3) 2 [.ref (eg 3), .ref (ef 3), .int (et 3), .int (nI (el 3)), .int (nI (ei 3))], wI (cy 1) (eg 3) 10 (gc 3), wI (cy 1) (ef 3) 7 (xc 3), wO (ea 2) 2 [.ref (eg 2), .ref (ef 2), .int (et 2), .int (nI ((el 2))), .int (nI ((ei 2)))], wO s0 7 [.ref s1, .ref s2, .int (nI sl), .int spl, .int svo, .int swi, .int sch], wI (cy 1) s1 10 (fw), wO p0 6 [.ref p1, .ref er, .ref ro, .ref p2, .ref p3, .ref p4, .ref h0, .ref s0, .int (nI ch)], wO h0 4 [.ref h1, .ref h2, .ref h3, .ref h4, .ref h5, .ref h6, .ref h7, .ref h8, .ref h9, .ref h10, .ref h11, .int ys, hv1, hv2, hv3, hv4], wI (cy 1) h1 4 (fc), wI (cy 1) h7 48 (fx)] hP9 hD9 hS9 (fun hP hD hS => ?_)
                clear hP9 hD9 hS9
                refine W.widen (k := 0) (n := 0) (Nat.le_of_ble_eq_true rfl) (Nat.le_of_ble_eq_true rfl) ?_
                replace hw123 : (∀ s9 : Nat, s9 < 32 → bt zr123 s9 = orF (ldO fx sv91 x_122 s9) c0) := hw123
                have f_124 := hw123
                refine lv_istore (lv' := [(10, .int zr123), (9, .int 1), (8, .int x_106), (7, .int (nI k_96)), (6, .int (nI i91)), (5, .int lb5_91), (4, .int sv91), (3, .ref (ea 2)), (0, .ref p0), (1, .int (nI rk)), (2, .int cg)]) hx hb dX6_canBeYesBy_120 hl (by decide) rfl (fun ls hl => ?_)
                refine lv_iload hx hb dX6_canBeYesBy_122 (lv_at hl 1 rfl) ?_
                refine lv_if_eq (tgt := 135) hx hb dX6_canBeYesBy_124 (by decide) (fun h => absurd h (by decide)) (fun _ => ?_)
                refine lv_iload hx hb dX6_canBeYesBy_127 (lv_at hl 6 rfl) ?_
                refine lv_iload hx hb dX6_canBeYesBy_129 (lv_at hl 0 rfl) ?_
                refine lv_ior hx hb dX6_canBeYesBy_131 ?_
                refine lv_topi (fun x_125 ex_125 => ?_)
                refine lv_goto (tgt := 137) hx hb dX6_canBeYesBy_132 (by decide) ?_
                refine lv_istore (lv' := [(4, .int x_125), (10, .int zr123), (9, .int 1), (8, .int x_106), (7, .int (nI k_96)), (6, .int (nI i91)), (5, .int lb5_91), (3, .ref (ea 2)), (0, .ref p0), (1, .int (nI rk)), (2, .int cg)]) hx hb dX6_canBeYesBy_137 hl (by decide) rfl (fun ls hl => ?_)
                refine lv_iload hx hb dX6_canBeYesBy_139 (lv_at hl 6 rfl) ?_
                refine lv_if_eq (tgt := 153) hx hb dX6_canBeYesBy_141 (by decide) (fun _ => ?_) (fun h => absurd c_93 h)
                refine lv_iconst (v := 0) hx hb dX6_canBeYesBy_153 (by decide) ?_
                refine lv_istore (lv' := [(5, .int 0), (4, .int x_125), (10, .int zr123), (9, .int 1), (8, .int x_106), (7, .int (nI k_96)), (6, .int (nI i91)), (3, .ref (ea 2)), (0, .ref p0), (1, .int (nI rk)), (2, .int cg)]) hx hb dX6_canBeYesBy_154 hl (by decide) rfl (fun ls hl => ?_)
                refine lv_iinc (v := nI (i91 + 1)) (lv' := [(6, .int (nI (i91 + 1))), (5, .int 0), (4, .int x_125), (10, .int zr123), (9, .int 1), (8, .int x_106), (7, .int (nI k_96)), (3, .ref (ea 2)), (0, .ref p0), (1, .int (nI rk)), (2, .int cg)]) hx hb dX6_canBeYesBy_156 hl (k := 6) rfl (nI_add i91 1) (by decide) rfl (fun ls hl => ?_)
                refine lv_goto (tgt := 21) hx hb dX6_canBeYesBy_159 (by decide) ?_
                exact ih91  x_125 0 ((i91 + 1)) (Or.inl rfl) (by omega) (fun hok9 => by_st (sk := true) (n1 := false) hok9 hc0 hnx (hf1_91 hok9) (by omega) hsl (by rw [← hesk]; exact f_99) f_101 f_102 (fun w9 h9 => by rw [ex_105, nI_clamp (by omega)]; exact hqu rk k_96 w9 hrk (by omega) h9) ex_106 ex_107 ex_108 (decide_eq_true c_80).symm (decide_eq_false (fun h9 => h9 c_93)).symm hb_lb5_91 (if_neg (by decide)).symm ex_120 ex_121 ex_122 f_124 (ex_125.trans (if_pos rfl).symm) (if_neg (by decide)).symm) (by omega) _ _ (hP.sub [17, 0, 1, 18, 19, 20, 15, 16, 2, 3, 4, 5, 6, 7, 8, 14, 9, 10, 11, 12, 13] rfl) (hD.sub [17, 0, 1, 18, 19, 20, 15, 16, 2, 3, 4, 5, 6, 7, 8, 14, 9, 10, 11, 12, 13] (by decide +kernel) rfl) hS ls (lv_sub hl [0, 1, 2, 7, 8, 9, 10] rfl)
              · refine lv_iload hx hb dX6_canBeYesBy_96 (lv_at hl 5 rfl) ?_
                refine lv_iconst (v := 1) hx hb dX6_canBeYesBy_98 (by decide) ?_
                refine lv_ior hx hb dX6_canBeYesBy_99 ?_
                refine lv_topi (fun x_126 ex_126 => ?_)
                refine lv_goto (tgt := 105) hx hb dX6_canBeYesBy_100 (by decide) ?_
                refine lv_iload hx hb dX6_canBeYesBy_105 (lv_at hl 1 rfl) ?_
                refine lv_aload_n hx hb dX6_canBeYesBy_107 rfl (lv_at hl 6 rfl) ?_
                refine va_get (D := D) (ci := 2) (v := .ref (eg 2)) (C := RX2) (T := TX2) (N := 5) hx hb hg i_X2 hown hK hP 15 rfl rfl 0 (by decide) (hg _ m_513) (fun _ h9 => h9) rfl dX6_canBeYesBy_108 ?_
                refine lv_iload hx hb dX6_canBeYesBy_111 (lv_at hl 2 rfl) ?_
                refine va_iald hx hb hK hP 10 1 rfl rfl (vp_in_nI (by omega) (by decide)) dX6_canBeYesBy_113 ?_
                refine lv_topi (fun x_127 ex_127 => ?_)
                refine lv_iconst (v := -1) hx hb dX6_canBeYesBy_114 (by decide) ?_
                refine lv_ixor hx hb dX6_canBeYesBy_115 ?_
                refine lv_topi (fun x_128 ex_128 => ?_)
                refine lv_iand hx hb dX6_canBeYesBy_116 ?_
                refine lv_topi (fun x_129 ex_129 => ?_)
                refine x_callVi (q := (RX6, TX6, 9)) (ci := 6) (q0 := 0) (wr := [wI (cy 1) p3 4 (fne), wI (cy 1) p4 40 (fqi), (er, .inl (cy 4, 4, .inr (.inr (.inr (.inr (eF (ea 0) (ea 1) (ea 2) (ea 3))))))), wO (ea 0) 2 [.ref (eg 0), .ref (ef 0), .int (et 0), .int (nI (el 0)), .int (nI (ei 0))], wI (cy 1) (eg 0) 10 (gc 0), wI (cy 1) (ef 0) 7 (xc 0), wO (ea 1) 2 [.ref (eg 1), .ref (ef 1), .int (et 1), .int (nI (el 1)), .int (nI (ei 1))], wI (cy 1) (eg 1) 10 (gc 1), wI (cy 1) (ef 1) 7 (xc 1), wI (cy 1) (eg 2) 10 (gc 2), wI (cy 1) (ef 2) 7 (xc 2), wO (ea 3) 2 [.ref (eg 3), .ref (ef 3), .int (et 3), .int (nI (el 3)), .int (nI (ei 3))], wI (cy 1) (eg 3) 10 (gc 3), wI (cy 1) (ef 3) 7 (xc 3), wO (ea 2) 2 [.ref (eg 2), .ref (ef 2), .int (et 2), .int (nI ((el 2))), .int (nI ((ei 2)))], wO s0 7 [.ref s1, .ref s2, .int (nI sl), .int spl, .int svo, .int swi, .int sch], wI (cy 1) s1 10 (fw)]) (rest := []) ⟨hx, hb, hml, hown, hg, hl.1⟩ k_X6_101 (s_led l D cy p0 p1 p2 p3 p4 er ro ch s0 h0 h1 h2 h3 h4 h5 h6 h7 h8 h9 h10 h11 ((.int ys)) hv1 hv2 hv3 hv4 fc c0 c1 c2 c3 fx x_126 x_129 (hcn) (by omega) (by omega) (by omega) (by omega) (hnx)) E0_blind hK hP hD hS hA [16, 17, 18, 2] [0, 1, 3, 4, 5, 6, 7, 8, 9, 10, 11, 12, 13, 14, 15, 19, 20] ⟨rfl, rfl, by decide +kernel, by decide +kernel, by decide +kernel⟩ rfl rfl (fun _ _ _ => trivial) dX6_canBeYesBy_117 rfl rfl (Nat.le_of_ble_eq_true rfl) ⟨Nat.le_of_ble_eq_true rfl, Nat.le_of_ble_eq_true rfl⟩ ⟨Nat.le_of_ble_eq_true rfl, Nat.le_of_ble_eq_true rfl⟩ (fun zr130 zu130 H locs hw130 hP9 hD9 hS9 => ?_)
                clear hP hD hS
                refine reW [wI (cy 1) p3 4 (fne), wI (cy 1) p4 40 (fqi), (er, .inl (cy 4, 4, .inr (.inr (.inr (.inr (eF (ea 0) (ea 1) (ea 2) (ea 3))))))), wO (ea 0) 2 [.ref (eg 0), .ref (ef 0), .int (et 0), .int (nI (el 0)), .int (nI (ei 0))], wI (cy 1) (eg 0) 10 (gc 0), wI (cy 1) (ef 0) 7 (xc 0), wO (ea 1) 2 [.ref (eg 1), .ref (ef 1), .int (et 1), .int (nI (el 1)), .int (nI (ei 1))], wI (cy 1) (eg 1) 10 (gc 1), wI (cy 1) (ef 1) 7 (xc 1), wI (cy 1) (eg 2) 10 (gc 2), wI (cy 1) (ef 2) 7 (xc 2), wO (ea 3) 2 [.ref (eg 3), .ref (ef 3), .int (et 3), .int (nI (el 3)), .int (nI (ei 3))], wI (cy 1) (eg 3) 10 (gc 3), wI (cy 1) (ef 3) 7 (xc 3), wO (ea 2) 2 [.ref (eg 2), .ref (ef 2), .int (et 2), .int (nI ((el 2))), .int (nI ((ei 2)))], wO s0 7 [.ref s1, .ref s2, .int (nI sl), .int spl, .int svo, .int swi, .int sch], wI (cy 1) s1 10 (fw), wO p0 6 [.ref p1, .ref er, .ref ro, .ref p2, .ref p3, .ref p4, .ref h0, .ref s0, .int (nI ch)], wO h0 4 [.ref h1, .ref h2, .ref h3, .ref h4, .ref h5, .ref h6, .ref h7, .ref h8, .ref h9, .ref h10, .ref h11, .int ys, hv1, hv2, hv3, hv4], wI (cy 1) h1 4 (fc), wI (cy 1) h7 48 (fx)] hP9 hD9 hS9 (fun hP hD hS => ?_)
                clear hP9 hD9 hS9
                refine W.widen (k := 0) (n := 0) (Nat.le_of_ble_eq_true rfl) (Nat.le_of_ble_eq_true rfl) ?_
                replace hw130 : (∀ s9 : Nat, s9 < 32 → bt zr130 s9 = orF (ldO fx x_126 x_129 s9) c0) := hw130
                have f_131 := hw130
                refine lv_istore (lv' := [(10, .int zr130), (9, .int 1), (8, .int x_106), (7, .int (nI k_96)), (6, .int (nI i91)), (5, .int lb5_91), (4, .int sv91), (3, .ref (ea 2)), (0, .ref p0), (1, .int (nI rk)), (2, .int cg)]) hx hb dX6_canBeYesBy_120 hl (by decide) rfl (fun ls hl => ?_)
                refine lv_iload hx hb dX6_canBeYesBy_122 (lv_at hl 1 rfl) ?_
                refine lv_if_eq (tgt := 135) hx hb dX6_canBeYesBy_124 (by decide) (fun h => absurd h (by decide)) (fun _ => ?_)
                refine lv_iload hx hb dX6_canBeYesBy_127 (lv_at hl 6 rfl) ?_
                refine lv_iload hx hb dX6_canBeYesBy_129 (lv_at hl 0 rfl) ?_
                refine lv_ior hx hb dX6_canBeYesBy_131 ?_
                refine lv_topi (fun x_132 ex_132 => ?_)
                refine lv_goto (tgt := 137) hx hb dX6_canBeYesBy_132 (by decide) ?_
                refine lv_istore (lv' := [(4, .int x_132), (10, .int zr130), (9, .int 1), (8, .int x_106), (7, .int (nI k_96)), (6, .int (nI i91)), (5, .int lb5_91), (3, .ref (ea 2)), (0, .ref p0), (1, .int (nI rk)), (2, .int cg)]) hx hb dX6_canBeYesBy_137 hl (by decide) rfl (fun ls hl => ?_)
                refine lv_iload hx hb dX6_canBeYesBy_139 (lv_at hl 6 rfl) ?_
                refine lv_if_eq (tgt := 153) hx hb dX6_canBeYesBy_141 (by decide) (fun h => absurd h c_93) (fun _ => ?_)
                refine lv_iload hx hb dX6_canBeYesBy_144 (lv_at hl 2 rfl) ?_
                refine lv_if_eq (tgt := 153) hx hb dX6_canBeYesBy_146 (by decide) (fun h => absurd h (by decide)) (fun _ => ?_)
                refine lv_iconst (v := 1) hx hb dX6_canBeYesBy_149 (by decide) ?_
                refine lv_goto (tgt := 154) hx hb dX6_canBeYesBy_150 (by decide) ?_
                refine lv_istore (lv' := [(5, .int 1), (4, .int x_132), (10, .int zr130), (9, .int 1), (8, .int x_106), (7, .int (nI k_96)), (6, .int (nI i91)), (3, .ref (ea 2)), (0, .ref p0), (1, .int (nI rk)), (2, .int cg)]) hx hb dX6_canBeYesBy_154 hl (by decide) rfl (fun ls hl => ?_)
                refine lv_iinc (v := nI (i91 + 1)) (lv' := [(6, .int (nI (i91 + 1))), (5, .int 1), (4, .int x_132), (10, .int zr130), (9, .int 1), (8, .int x_106), (7, .int (nI k_96)), (3, .ref (ea 2)), (0, .ref p0), (1, .int (nI rk)), (2, .int cg)]) hx hb dX6_canBeYesBy_156 hl (k := 6) rfl (nI_add i91 1) (by decide) rfl (fun ls hl => ?_)
                refine lv_goto (tgt := 21) hx hb dX6_canBeYesBy_159 (by decide) ?_
                exact ih91  x_132 1 ((i91 + 1)) (Or.inr rfl) (by omega) (fun hok9 => by_st (sk := true) (n1 := true) hok9 hc0 hnx (hf1_91 hok9) (by omega) hsl (by rw [← hesk]; exact f_99) f_101 f_102 (fun w9 h9 => by rw [ex_105, nI_clamp (by omega)]; exact hqu rk k_96 w9 hrk (by omega) h9) ex_106 ex_107 ex_108 (decide_eq_true c_80).symm (decide_eq_true c_93).symm hb_lb5_91 (ex_126.trans (if_pos rfl).symm) ex_127 ex_128 ex_129 f_131 (ex_132.trans (if_pos rfl).symm) (if_pos rfl).symm) (by omega) _ _ (hP.sub [17, 0, 1, 18, 19, 20, 15, 16, 2, 3, 4, 5, 6, 7, 8, 14, 9, 10, 11, 12, 13] rfl) (hD.sub [17, 0, 1, 18, 19, 20, 15, 16, 2, 3, 4, 5, 6, 7, 8, 14, 9, 10, 11, 12, 13] (by decide +kernel) rfl) hS ls (lv_sub hl [0, 1, 2, 7, 8, 9, 10] rfl)
          · refine lv_iconst (v := 0) hx hb dX6_canBeYesBy_68 (by decide) ?_
            exact x_zret hQ hx hb hr hlocks hK hP hD hS rfl dX6_canBeYesBy_69 () (⟨(Or.inl rfl), (fun hok9 => by rw [show (fne rk).toNatClampNeg = 2 from (by rw [at_cl (by omega) ej_5]; rfl)]; exact by_r0 (by_m0 hc0 (by omega) (by rw [← hesk]; exact f_99) f_101 (fun w9 h9 => by rw [ex_105, nI_clamp (by omega)]; exact hqu rk k_96 w9 hrk (by omega) h9) ex_106 c_65))⟩) [16, 0, 1, 17, 18, 2, 19, 20, 3, 4, 5, 6, 7, 8, 9, 15, 10, 11, 12, 13, 14] (by decide +kernel) rfl (Nat.le_of_ble_eq_true rfl) (Nat.le_of_ble_eq_true rfl)
    exact loop91 _ 0 1 0 (Or.inr rfl) (by omega) (fun _ => by_0) (Nat.le_refl _) _ _ (hP.sub [0, 1, 2, 3, 4, 5, 6, 7, 8, 9, 10, 11, 12, 13, 14, 15, 16, 17, 18, 19, 20] rfl) (hD.sub [0, 1, 2, 3, 4, 5, 6, 7, 8, 9, 10, 11, 12, 13, 14, 15, 16, 17, 18, 19, 20] (by decide +kernel) rfl) hS ls (lv_sub hl [0, 1, 2, 3, 4, 5, 6] rfl)
  · subst hsp
    refine va_aldq hx hb hK hP 8 4 rfl rfl (by unfold vp_in; decide) dX6_canBeYesBy_10 ?_
    refine W.eq (g2 := F0 m 11 ls [.ref (ea 3)]) rfl ?_
    have hesk := hes 3 (by omega)
    refine lv_astore_n (lv' := [(3, .ref (ea 3)), (0, .ref p0), (1, .int (nI rk)), (2, .int cg)]) hx hb dX6_canBeYesBy_11 rfl hl (by decide) rfl (fun ls hl => ?_)
    refine lv_iconst (v := 0) hx hb dX6_canBeYesBy_12 (by decide) ?_
    refine lv_istore (lv' := [(4, .int 0), (3, .ref (ea 3)), (0, .ref p0), (1, .int (nI rk)), (2, .int cg)]) hx hb dX6_canBeYesBy_13 hl (by decide) rfl (fun ls hl => ?_)
    refine lv_iconst (v := 1) hx hb dX6_canBeYesBy_15 (by decide) ?_
    refine lv_istore (lv' := [(5, .int 1), (4, .int 0), (3, .ref (ea 3)), (0, .ref p0), (1, .int (nI rk)), (2, .int cg)]) hx hb dX6_canBeYesBy_16 hl (by decide) rfl (fun ls hl => ?_)
    refine lv_iconst (v := 0) hx hb dX6_canBeYesBy_18 (by decide) ?_
    refine lv_istore (lv' := [(6, .int 0), (5, .int 1), (4, .int 0), (3, .ref (ea 3)), (0, .ref p0), (1, .int (nI rk)), (2, .int cg)]) hx hb dX6_canBeYesBy_19 hl (by decide) rfl (fun ls hl => ?_)
    have loop133 : ∀ (zn : Nat) (sv133 : Int32) (lb5_133 : Int32) (i133 : Nat), (lb5_133 = 0 ∨ lb5_133 = 1) → (i133 ≤ sl) → (okW c0 fw sl → byI fx (gc 3) (mvB c0 fw cg gc fne rk) (plS (et 3) sl) c0 i133 sv133 lb5_133) → sl - i133 + 1 ≤ zn → ∀ (H : Heap) (locs : List Loc), va_P D vwCl [wO p0 6 [.ref p1, .ref er, .ref ro, .ref p2, .ref p3, .ref p4, .ref h0, .ref s0, .int (nI ch)], wI (cy 1) p3 4 (fne), wI (cy 1) p4 40 (fqi), wO h0 4 [.ref h1, .ref h2, .ref h3, .ref h4, .ref h5, .ref h6, .ref h7, .ref h8, .ref h9, .ref h10, .ref h11, .int ys, hv1, hv2, hv3, hv4], wI (cy 1) h1 4 (fc), wI (cy 1) h7 48 (fx), wO s0 7 [.ref s1, .ref s2, .int (nI sl), .int spl, .int svo, .int swi, .int sch], wI (cy 1) s1 10 (fw), (er, .inl (cy 4, 4, .inr (.inr (.inr (.inr (eF (ea 0) (ea 1) (ea 2) (ea 3))))))), wO (ea 0) 2 [.ref (eg 0), .ref (ef 0), .int (et 0), .int (nI (el 0)), .int (nI (ei 0))], wI (cy 1) (eg 0) 10 (gc 0), wI (cy 1) (ef 0) 7 (xc 0), wO (ea 1) 2 [.ref (eg 1), .ref (ef 1), .int (et 1), .int (nI (el 1)), .int (nI (ei 1))], wI (cy 1) (eg 1) 10 (gc 1), wI (cy 1) (ef 1) 7 (xc 1), wO (ea 2) 2 [.ref (eg 2), .ref (ef 2), .int (et 2), .int (nI (el 2)), .int (nI (ei 2))], wI (cy 1) (eg 2) 10 (gc 2), wI (cy 1) (ef 2) 7 (xc 2), wO (ea 3) 2 [.ref (eg 3), .ref (ef 3), .int (et 3), .int (nI (el 3)), .int (nI (ei 3))], wI (cy 1) (eg 3) 10 (gc 3), wI (cy 1) (ef 3) 7 (xc 3)] H → va_D A [wO p0 6 [.ref p1, .ref er, .ref ro, .ref p2, .ref p3, .ref p4, .ref h0, .ref s0, .int (nI ch)], wI (cy 1) p3 4 (fne), wI (cy 1) p4 40 (fqi), wO h0 4 [.ref h1, .ref h2, .ref h3, .ref h4, .ref h5, .ref h6, .ref h7, .ref h8, .ref h9, .ref h10, .ref h11, .int ys, hv1, hv2, hv3, hv4], wI (cy 1) h1 4 (fc), wI (cy 1) h7 48 (fx), wO s0 7 [.ref s1, .ref s2, .int (nI sl), .int spl, .int svo, .int swi, .int sch], wI (cy 1) s1 10 (fw), (er, .inl (cy 4, 4, .inr (.inr (.inr (.inr (eF (ea 0) (ea 1) (ea 2) (ea 3))))))), wO (ea 0) 2 [.ref (eg 0), .ref (ef 0), .int (et 0), .int (nI (el 0)), .int (nI (ei 0))], wI (cy 1) (eg 0) 10 (gc 0), wI (cy 1) (ef 0) 7 (xc 0), wO (ea 1) 2 [.ref (eg 1), .ref (ef 1), .int (et 1), .int (nI (el 1)), .int (nI (ei 1))], wI (cy 1) (eg 1) 10 (gc 1), wI (cy 1) (ef 1) 7 (xc 1), wO (ea 2) 2 [.ref (eg 2), .ref (ef 2), .int (et 2), .int (nI (el 2)), .int (nI (ei 2))], wI (cy 1) (eg 2) 10 (gc 2), wI (cy 1) (ef 2) 7 (xc 2), wO (ea 3) 2 [.ref (eg 3), .ref (ef 3), .int (et 3), .int (nI (el 3)), .int (nI (ei 3))], wI (cy 1) (eg 3) 10 (gc 3), wI (cy 1) (ef 3) 7 (xc 3)] → va_S A s.heap H locs → ∀ ls : Array Slot, lv_has ls 11 [(6, .int (nI i133)), (5, .int lb5_133), (4, .int sv133), (3, .ref (ea 3)), (0, .ref p0), (1, .int (nI rk)), (2, .int cg)] → W p l e (rmk 1 0 0) s m args below meth c H locs 0 0 Q (F0 m 21 ls []) := by
      try clear hP hD hS
      intro zn
      induction zn with
      | zero => intro sv133 lb5_133 i133 _ _ _ hz; exact absurd hz (by omega)
      | succ zn ih133 =>
        intro sv133 lb5_133 i133 hb_lb5_133 hf0_133 hf1_133 hmu133 H locs hP hD hS ls hl
        refine lv_iload hx hb dX6_canBeYesBy_21 (lv_at hl 0 rfl) ?_
        refine lv_aload_n hx hb dX6_canBeYesBy_23 rfl (lv_at hl 4 rfl) ?_
        refine va_get (D := D) (ci := 6) (v := .ref s0) (C := RX6) (T := TX6) (N := 9) hx hb hg i_X6 hown hK hP 0 rfl rfl 7 (by decide) (hg _ m_592) (fun _ h9 => h9) rfl dX6_canBeYesBy_24 ?_
        refine va_get (D := D) (ci := 7) (v := .int (nI sl)) (C := RX7) (T := TX7) (N := 7) hx hb hg i_X7 hown hK hP 6 rfl rfl 2 (by decide) (hg _ m_630) (fun _ h9 => h9) rfl dX6_canBeYesBy_27 ?_
        refine lv_icmp_ge (tgt := 162) hx hb dX6_canBeYesBy_30 (by decide) (fun c_134 => ?_) (fun c_134 => ?_)
        · have q_135 : sl ≤ i133 := q_le (a := sl) (b := i133) rfl rfl (by omega) (by omega) c_134
          refine lv_iload hx hb dX6_canBeYesBy_162 (lv_at hl 2 rfl) ?_
          refine lv_aload_n hx hb dX6_canBeYesBy_164 rfl (lv_at hl 4 rfl) ?_
          refine va_get (D := D) (ci := 6) (v := .ref h0) (C := RX6) (T := TX6) (N := 9) hx hb hg i_X6 hown hK hP 0 rfl rfl 6 (by decide) (hg _ m_591) (fun _ h9 => h9) rfl dX6_canBeYesBy_165 ?_
          refine va_get (D := D) (ci := 4) (v := .int ys) (C := RX4) (T := TX4) (N := 16) hx hb hg i_X4 hown hK hP 3 rfl rfl 11 (by decide) (hg _ m_370) (fun _ h9 => h9) rfl dX6_canBeYesBy_168 ?_
          refine lv_iand hx hb dX6_canBeYesBy_171 ?_
          refine lv_topi (fun x_136 ex_136 => ?_)
          refine lv_if_eq (tgt := 179) hx hb dX6_canBeYesBy_172 (by decide) (fun c_172 => ?_) (fun c_172 => ?_)
          · refine lv_iconst (v := 0) hx hb dX6_canBeYesBy_179 (by decide) ?_
            exact x_zret hQ hx hb hr hlocks hK hP hD hS rfl dX6_canBeYesBy_180 () (⟨(Or.inl rfl), (fun hok9 => by rw [show (fne rk).toNatClampNeg = 3 from (by rw [at_cl (by omega) ej_5]; rfl)]; exact by_r0 (by_e0 hc0 hnx (by have h8 := hf1_133 hok9; rw [show i133 = sl by omega] at h8; exact h8) ex_136 c_172))⟩) [0, 1, 2, 3, 4, 5, 6, 7, 8, 9, 10, 11, 12, 13, 14, 15, 16, 17, 18, 19, 20] (by decide +kernel) rfl (Nat.le_of_ble_eq_true rfl) (Nat.le_of_ble_eq_true rfl)
          · refine lv_iconst (v := 1) hx hb dX6_canBeYesBy_175 (by decide) ?_
            refine lv_goto (tgt := 180) hx hb dX6_canBeYesBy_176 (by decide) ?_
            exact x_zret hQ hx hb hr hlocks hK hP hD hS rfl dX6_canBeYesBy_180 () (⟨(Or.inr rfl), (fun hok9 => by rw [show (fne rk).toNatClampNeg = 3 from (by rw [at_cl (by omega) ej_5]; rfl)]; exact by_r1 (by_e1 hc0 hnx (by have h8 := hf1_133 hok9; rw [show i133 = sl by omega] at h8; exact h8) ex_136 c_172))⟩) [0, 1, 2, 3, 4, 5, 6, 7, 8, 9, 10, 11, 12, 13, 14, 15, 16, 17, 18, 19, 20] (by decide +kernel) rfl (Nat.le_of_ble_eq_true rfl) (Nat.le_of_ble_eq_true rfl)
        · have q_135 : i133 < sl := q_nle (a := sl) (b := i133) rfl rfl (by omega) (by omega) c_134
          refine lv_aload_n hx hb dX6_canBeYesBy_33 rfl (lv_at hl 3 rfl) ?_
          refine lv_iload hx hb dX6_canBeYesBy_34 (lv_at hl 0 rfl) ?_
          refine x_callVi (q := (RX2, TX2, 5)) (ci := 2) (q0 := 0) (wr := [wO p0 6 [.ref p1, .ref er, .ref ro, .ref p2, .ref p3, .ref p4, .ref h0, .ref s0, .int (nI ch)], wI (cy 1) p3 4 (fne), wI (cy 1) p4 40 (fqi), wO h0 4 [.ref h1, .ref h2, .ref h3, .ref h4, .ref h5, .ref h6, .ref h7, .ref h8, .ref h9, .ref h10, .ref h11, .int ys, hv1, hv2, hv3, hv4], wI (cy 1) h1 4 (fc), wI (cy 1) h7 48 (fx), wO s0 7 [.ref s1, .ref s2, .int (nI sl), .int spl, .int svo, .int swi, .int sch], wI (cy 1) s1 10 (fw), (er, .inl (cy 4, 4, .inr (.inr (.inr (.inr (eF (ea 0) (ea 1) (ea 2) (ea 3))))))), wO (ea 0) 2 [.ref (eg 0), .ref (ef 0), .int (et 0), .int (nI (el 0)), .int (nI (ei 0))], wI (cy 1) (eg 0) 10 (gc 0), wI (cy 1) (ef 0) 7 (xc 0), wO (ea 1) 2 [.ref (eg 1), .ref (ef 1), .int (et 1), .int (nI (el 1)), .int (nI (ei 1))], wI (cy 1) (eg 1) 10 (gc 1), wI (cy 1) (ef 1) 7 (xc 1), wO (ea 2) 2 [.ref (eg 2), .ref (ef 2), .int (et 2), .int (nI (el 2)), .int (nI (ei 2))], wI (cy 1) (eg 2) 10 (gc 2), wI (cy 1) (ef 2) 7 (xc 2), wI (cy 1) (eg 3) 10 (gc 3), wI (cy 1) (ef 3) 7 (xc 3)]) (rest := []) ⟨hx, hb, hml, hown, hg, hl.1⟩ k_X6_94 (s_placeOf l D cy (ea 3) (eg 3) (ef 3) (et 3) ((el 3)) ((ei 3)) i133 (by omega) (by omega)) E0_blind hK hP hD hS hA [18] [0, 1, 2, 3, 4, 5, 6, 7, 8, 9, 10, 11, 12, 13, 14, 15, 16, 17, 19, 20] ⟨rfl, rfl, by decide +kernel, by decide +kernel, by decide +kernel⟩ rfl rfl (fun _ _ _ => trivial) dX6_canBeYesBy_36 rfl rfl (Nat.le_of_ble_eq_true rfl) ⟨Nat.le_of_ble_eq_true rfl, Nat.le_of_ble_eq_true rfl⟩ ⟨Nat.le_of_ble_eq_true rfl, Nat.le_of_ble_eq_true rfl⟩ (fun zr137 zu137 H locs hw137 hP9 hD9 hS9 => ?_)
          clear hP hD hS
          obtain ⟨k_138, rfl⟩ : ∃ z, z = zu137 := ⟨_, rfl⟩
          refine reW [wO p0 6 [.ref p1, .ref er, .ref ro, .ref p2, .ref p3, .ref p4, .ref h0, .ref s0, .int (nI ch)], wI (cy 1) p3 4 (fne), wI (cy 1) p4 40 (fqi), wO h0 4 [.ref h1, .ref h2, .ref h3, .ref h4, .ref h5, .ref h6, .ref h7, .ref h8, .ref h9, .ref h10, .ref h11, .int ys, hv1, hv2, hv3, hv4], wI (cy 1) h1 4 (fc), wI (cy 1) h7 48 (fx), wO s0 7 [.ref s1, .ref s2, .int (nI sl), .int spl, .int svo, .int swi, .int sch], wI (cy 1) s1 10 (fw), (er, .inl (cy 4, 4, .inr (.inr (.inr (.inr (eF (ea 0) (ea 1) (ea 2) (ea 3))))))), wO (ea 0) 2 [.ref (eg 0), .ref (ef 0), .int (et 0), .int (nI (el 0)), .int (nI (ei 0))], wI (cy 1) (eg 0) 10 (gc 0), wI (cy 1) (ef 0) 7 (xc 0), wO (ea 1) 2 [.ref (eg 1), .ref (ef 1), .int (et 1), .int (nI (el 1)), .int (nI (ei 1))], wI (cy 1) (eg 1) 10 (gc 1), wI (cy 1) (ef 1) 7 (xc 1), wO (ea 2) 2 [.ref (eg 2), .ref (ef 2), .int (et 2), .int (nI (el 2)), .int (nI (ei 2))], wI (cy 1) (eg 2) 10 (gc 2), wI (cy 1) (ef 2) 7 (xc 2), wI (cy 1) (eg 3) 10 (gc 3), wI (cy 1) (ef 3) 7 (xc 3), wO (ea 3) 2 [.ref (eg 3), .ref (ef 3), .int (et 3), .int (nI ((el 3))), .int (nI ((ei 3)))]] hP9 hD9 hS9 (fun hP hD hS => ?_)
          clear hP9 hD9 hS9
          refine W.widen (k := 0) (n := 0) (Nat.le_of_ble_eq_true rfl) (Nat.le_of_ble_eq_true rfl) ?_
          replace hw137 : (zr137 = nI k_138) ∧ (k_138 < ((el 3))) ∧ (k_138 = plS (et 3) ((el 3)) i133) := hw137
          obtain ⟨f_139, f_140, f_141⟩ := hw137
          subst f_139
          refine lv_istore (lv' := [(7, .int (nI k_138)), (6, .int (nI i133)), (5, .int lb5_133), (4, .int sv133), (3, .ref (ea 3)), (0, .ref p0), (1, .int (nI rk)), (2, .int cg)]) hx hb dX6_canBeYesBy_39 hl (by decide) rfl (fun ls hl => ?_)
          refine lv_aload_n hx hb dX6_canBeYesBy_41 rfl (lv_at hl 5 rfl) ?_
          refine lv_iload hx hb dX6_canBeYesBy_42 (lv_at hl 0 rfl) ?_
          refine lv_iload_n hx hb dX6_canBeYesBy_44 rfl (lv_at hl 7 rfl) ?_
          refine x_callVi (q := (RX6, TX6, 9)) (ci := 6) (q0 := 0) (wr := [wI (cy 1) p3 4 (fne), wI (cy 1) p4 40 (fqi), wI (cy 1) h7 48 (fx), (er, .inl (cy 4, 4, .inr (.inr (.inr (.inr (eF (ea 0) (ea 1) (ea 2) (ea 3))))))), wO (ea 0) 2 [.ref (eg 0), .ref (ef 0), .int (et 0), .int (nI (el 0)), .int (nI (ei 0))], wI (cy 1) (eg 0) 10 (gc 0), wI (cy 1) (ef 0) 7 (xc 0), wO (ea 1) 2 [.ref (eg 1), .ref (ef 1), .int (et 1), .int (nI (el 1)), .int (nI (ei 1))], wI (cy 1) (eg 1) 10 (gc 1), wI (cy 1) (ef 1) 7 (xc 1), wO (ea 2) 2 [.ref (eg 2), .ref (ef 2), .int (et 2), .int (nI (el 2)), .int (nI (ei 2))], wI (cy 1) (eg 2) 10 (gc 2), wI (cy 1) (ef 2) 7 (xc 2), wI (cy 1) (eg 3) 10 (gc 3), wI (cy 1) (ef 3) 7 (xc 3), wO (ea 3) 2 [.ref (eg 3), .ref (ef 3), .int (et 3), .int (nI ((el 3))), .int (nI ((ei 3)))]]) (rest := []) ⟨hx, hb, hml, hown, hg, hl.1⟩ k_X6_98 (s_choices l D cy p0 p1 p2 p3 p4 er ro ch h0 h1 h2 h3 h4 h5 h6 h7 h8 h9 h10 h11 ((.int ys)) hv1 hv2 hv3 hv4 fc c0 c1 c2 c3 s0 s1 s2 sl spl svo swi sch fw k_138 cg (hcn) (by omega) (by omega) (by omega) (by omega) (hsw) (by omega)) E0_blind hK hP hD hS hA [0, 3, 4, 6, 7] [1, 2, 5, 8, 9, 10, 11, 12, 13, 14, 15, 16, 17, 18, 19, 20] ⟨rfl, rfl, by decide +kernel, by decide +kernel, by decide +kernel⟩ rfl rfl (fun _ _ _ => trivial) dX6_canBeYesBy_45 rfl rfl (Nat.le_of_ble_eq_true rfl) ⟨Nat.le_of_ble_eq_true rfl, Nat.le_of_ble_eq_true rfl⟩ ⟨Nat.le_of_ble_eq_true rfl, Nat.le_of_ble_eq_true rfl⟩ (fun zr142 zu142 H locs hw142 hP9 hD9 hS9 => ?_)
          clear hP hD hS
          refine reW [wI (cy 1) p3 4 (fne), wI (cy 1) p4 40 (fqi), wI (cy 1) h7 48 (fx), (er, .inl (cy 4, 4, .inr (.inr (.inr (.inr (eF (ea 0) (ea 1) (ea 2) (ea 3))))))), wO (ea 0) 2 [.ref (eg 0), .ref (ef 0), .int (et 0), .int (nI (el 0)), .int (nI (ei 0))], wI (cy 1) (eg 0) 10 (gc 0), wI (cy 1) (ef 0) 7 (xc 0), wO (ea 1) 2 [.ref (eg 1), .ref (ef 1), .int (et 1), .int (nI (el 1)), .int (nI (ei 1))], wI (cy 1) (eg 1) 10 (gc 1), wI (cy 1) (ef 1) 7 (xc 1), wO (ea 2) 2 [.ref (eg 2), .ref (ef 2), .int (et 2), .int (nI (el 2)), .int (nI (ei 2))], wI (cy 1) (eg 2) 10 (gc 2), wI (cy 1) (ef 2) 7 (xc 2), wI (cy 1) (eg 3) 10 (gc 3), wI (cy 1) (ef 3) 7 (xc 3), wO (ea 3) 2 [.ref (eg 3), .ref (ef 3), .int (et 3), .int (nI ((el 3))), .int (nI ((ei 3)))], wO p0 6 [.ref p1, .ref er, .ref ro, .ref p2, .ref p3, .ref p4, .ref h0, .ref s0, .int (nI ch)], wO h0 4 [.ref h1, .ref h2, .ref h3, .ref h4, .ref h5, .ref h6, .ref h7, .ref h8, .ref h9, .ref h10, .ref h11, .int ys, hv1, hv2, hv3, hv4], wI (cy 1) h1 4 (fc), wO s0 7 [.ref s1, .ref s2, .int (nI sl), .int spl, .int svo, .int swi, .int sch], wI (cy 1) s1 10 (fw)] hP9 hD9 hS9 (fun hP hD hS => ?_)
          clear hP9 hD9 hS9
          refine W.widen (k := 0) (n := 0) (Nat.le_of_ble_eq_true rfl) (Nat.le_of_ble_eq_true rfl) ?_
          replace hw142 : (∀ w9 : Nat, w9 < 8 → bt zr142 w9 = chB c0 fw cg k_138 w9) ∧ (∀ w9 : Nat, 8 ≤ w9 → w9 < 32 → bt zr142 w9 = false) := hw142
          obtain ⟨f_143, f_144⟩ := hw142
          refine lv_aload_n hx hb dX6_canBeYesBy_48 rfl (lv_at hl 5 rfl) ?_
          refine va_get (D := D) (ci := 6) (v := .ref p4) (C := RX6) (T := TX6) (N := 9) hx hb hg i_X6 hown hK hP 16 rfl rfl 5 (by decide) (hg _ m_590) (fun _ h9 => h9) rfl dX6_canBeYesBy_49 ?_
          refine lv_iload_n hx hb dX6_canBeYesBy_52 rfl (lv_at hl 6 rfl) ?_
          refine lv_bipush (v := 10) hx hb dX6_canBeYesBy_53 (by decide) ?_
          refine lv_imul hx hb dX6_canBeYesBy_55 ?_
          refine lv_topi (fun y_145 hy_145 => ?_)
          obtain rfl : y_145 = nI (rk * 10) := hy_145.trans (pk_mul rk 10)
          refine lv_iload hx hb dX6_canBeYesBy_56 (lv_at hl 0 rfl) ?_
          refine lv_iadd hx hb dX6_canBeYesBy_58 ?_
          refine lv_topi (fun y_146 hy_146 => ?_)
          obtain rfl : y_146 = nI ((rk * 10) + k_138) := hy_146.trans (nI_add ((rk * 10)) k_138)
          refine va_iald hx hb hK hP 1 1 rfl rfl (vp_in_nI (by omega) (by decide)) dX6_canBeYesBy_59 ?_
          refine lv_topi (fun x_147 ex_147 => ?_)
          refine lv_iand hx hb dX6_canBeYesBy_60 ?_
          refine lv_topi (fun x_148 ex_148 => ?_)
          refine lv_istore (lv' := [(8, .int x_148), (7, .int (nI k_138)), (6, .int (nI i133)), (5, .int lb5_133), (4, .int sv133), (3, .ref (ea 3)), (0, .ref p0), (1, .int (nI rk)), (2, .int cg)]) hx hb dX6_canBeYesBy_61 hl (by decide) rfl (fun ls hl => ?_)
          refine lv_iload hx hb dX6_canBeYesBy_63 (lv_at hl 0 rfl) ?_
          refine lv_if_ne (tgt := 70) hx hb dX6_canBeYesBy_65 (by decide) (fun c_65 => ?_) (fun c_65 => ?_)
          · refine lv_iload hx hb dX6_canBeYesBy_70 (lv_at hl 0 rfl) ?_
            refine lv_aload_n hx hb dX6_canBeYesBy_72 rfl (lv_at hl 5 rfl) ?_
            refine va_get (D := D) (ci := 2) (v := .ref (eg 3)) (C := RX2) (T := TX2) (N := 5) hx hb hg i_X2 hown hK hP 15 rfl rfl 0 (by decide) (hg _ m_513) (fun _ h9 => h9) rfl dX6_canBeYesBy_73 ?_
            refine lv_iload hx hb dX6_canBeYesBy_76 (lv_at hl 1 rfl) ?_
            refine va_iald hx hb hK hP 13 1 rfl rfl (vp_in_nI (by omega) (by decide)) dX6_canBeYesBy_78 ?_
            refine lv_topi (fun x_149 ex_149 => ?_)
            refine lv_iand hx hb dX6_canBeYesBy_79 ?_
            refine lv_topi (fun x_150 ex_150 => ?_)
            refine lv_if_eq (tgt := 87) hx hb dX6_canBeYesBy_80 (by decide) (fun c_80 => ?_) (fun c_80 => ?_)
            · refine lv_iconst (v := 0) hx hb dX6_canBeYesBy_87 (by decide) ?_
              refine lv_istore (lv' := [(9, .int 0), (8, .int x_148), (7, .int (nI k_138)), (6, .int (nI i133)), (5, .int lb5_133), (4, .int sv133), (3, .ref (ea 3)), (0, .ref p0), (1, .int (nI rk)), (2, .int cg)]) hx hb dX6_canBeYesBy_88 hl (by decide) rfl (fun ls hl => ?_)
              refine lv_aload_n hx hb dX6_canBeYesBy_90 rfl (lv_at hl 7 rfl) ?_
              refine lv_iload hx hb dX6_canBeYesBy_91 (lv_at hl 4 rfl) ?_
              refine lv_if_eq (tgt := 103) hx hb dX6_canBeYesBy_93 (by decide) (fun c_93 => ?_) (fun c_93 => ?_)
              · refine lv_iload hx hb dX6_canBeYesBy_103 (lv_at hl 5 rfl) ?_
                refine lv_iload hx hb dX6_canBeYesBy_105 (lv_at hl 1 rfl) ?_
                refine lv_aload_n hx hb dX6_canBeYesBy_107 rfl (lv_at hl 6 rfl) ?_
                refine va_get (D := D) (ci := 2) (v := .ref (eg 3)) (C := RX2) (T := TX2) (N := 5) hx hb hg i_X2 hown hK hP 15 rfl rfl 0 (by decide) (hg _ m_513) (fun _ h9 => h9) rfl dX6_canBeYesBy_108 ?_
                refine lv_iload hx hb dX6_canBeYesBy_111 (lv_at hl 2 rfl) ?_
                refine va_iald hx hb hK hP 13 1 rfl rfl (vp_in_nI (by omega) (by decide)) dX6_canBeYesBy_113 ?_
                refine lv_topi (fun x_151 ex_151 => ?_)
                refine lv_iconst (v := -1) hx hb dX6_canBeYesBy_114 (by decide) ?_
                refine lv_ixor hx hb dX6_canBeYesBy_115 ?_
                refine lv_topi (fun x_152 ex_152 => ?_)
                refine lv_iand hx hb dX6_canBeYesBy_116 ?_
                refine lv_topi (fun x_153 ex_153 => ?_)
                refine x_callVi (q := (RX6, TX6, 9)) (ci := 6) (q0 := 0) (wr := [wI (cy 1) p3 4 (fne), wI (cy 1) p4 40 (fqi), (er, .inl (cy 4, 4, .inr (.inr (.inr (.inr (eF (ea 0) (ea 1) (ea 2) (ea 3))))))), wO (ea 0) 2 [.ref (eg 0), .ref (ef 0), .int (et 0), .int (nI (el 0)), .int (nI (ei 0))], wI (cy 1) (eg 0) 10 (gc 0), wI (cy 1) (ef 0) 7 (xc 0), wO (ea 1) 2 [.ref (eg 1), .ref (ef 1), .int (et 1), .int (nI (el 1)), .int (nI (ei 1))], wI (cy 1) (eg 1) 10 (gc 1), wI (cy 1) (ef 1) 7 (xc 1), wO (ea 2) 2 [.ref (eg 2), .ref (ef 2), .int (et 2), .int (nI (el 2)), .int (nI (ei 2))], wI (cy 1) (eg 2) 10 (gc 2), wI (cy 1) (ef 2) 7 (xc 2), wI (cy 1) (eg 3) 10 (gc 3), wI (cy 1) (ef 3) 7 (xc 3), wO (ea 3) 2 [.ref (eg 3), .ref (ef 3), .int (et 3), .int (nI ((el 3))), .int (nI ((ei 3)))], wO s0 7 [.ref s1, .ref s2, .int (nI sl), .int spl, .int svo, .int swi, .int sch], wI (cy 1) s1 10 (fw)]) (rest := []) ⟨hx, hb, hml, hown, hg, hl.1⟩ k_X6_101 (s_led l D cy p0 p1 p2 p3 p4 er ro ch s0 h0 h1 h2 h3 h4 h5 h6 h7 h8 h9 h10 h11 ((.int ys)) hv1 hv2 hv3 hv4 fc c0 c1 c2 c3 fx sv133 x_153 (hcn) (by omega) (by omega) (by omega) (by omega) (hnx)) E0_blind hK hP hD hS hA [16, 17, 18, 2] [0, 1, 3, 4, 5, 6, 7, 8, 9, 10, 11, 12, 13, 14, 15, 19, 20] ⟨rfl, rfl, by decide +kernel, by decide +kernel, by decide +kernel⟩ rfl rfl (fun _ _ _ => trivial) dX6_canBeYesBy_117 rfl rfl (Nat.le_of_ble_eq_true rfl) ⟨Nat.le_of_ble_eq_true rfl, Nat.le_of_ble_eq_true rfl⟩ ⟨Nat.le_of_ble_eq_true rfl, Nat.le_of_ble_eq_true rfl⟩ (fun zr154 zu154 H locs hw154 hP9 hD9 hS9 => ?_)
                clear hP hD hS
                refine reW [wI (cy 1) p3 4 (fne), wI (cy 1) p4 40 (fqi), (er, .inl (cy 4, 4, .inr (.inr (.inr (.inr (eF (ea 0) (ea 1) (ea 2) (ea 3))))))), wO (ea 0) 2 [.ref (eg 0), .ref (ef 0), .int (et 0), .int (nI (el 0)), .int (nI (ei 0))], wI (cy 1) (eg 0) 10 (gc 0), wI (cy 1) (ef 0) 7 (xc 0), wO (ea 1) 2 [.ref (eg 1), .ref (ef 1), .int (et 1), .int (nI (el 1)), .int (nI (ei 1))], wI (cy 1) (eg 1) 10 (gc 1), wI (cy 1) (ef 1) 7 (xc 1), wO (ea 2) 2 [.ref (eg 2), .ref (ef 2), .int (et 2), .int (nI (el 2)), .int (nI (ei 2))], wI (cy 1) (eg 2) 10 (gc 2), wI (cy 1) (ef 2) 7 (xc 2), wI (cy 1) (eg 3) 10 (gc 3), wI (cy 1) (ef 3) 7 (xc 3), wO (ea 3) 2 [.ref (eg 3), .ref (ef 3), .int (et 3), .int (nI ((el 3))), .int (nI ((ei 3)))], wO s0 7 [.ref s1, .ref s2, .int (nI sl), .int spl, .int svo, .int swi, .int sch], wI (cy 1) s1 10 (fw), wO p0 6 [.ref p1, .ref er, .ref ro, .ref p2, .ref p3, .ref p4, .ref h0, .ref s0, .int (nI ch)], wO h0 4 [.ref h1, .ref h2, .ref h3, .ref h4, .ref h5, .ref h6, .ref h7, .ref h8, .ref h9, .ref h10, .ref h11, .int ys, hv1, hv2, hv3, hv4], wI (cy 1) h1 4 (fc), wI (cy 1) h7 48 (fx)] hP9 hD9 hS9 (fun hP hD hS => ?_)
                clear hP9 hD9 hS9
                refine W.widen (k := 0) (n := 0) (Nat.le_of_ble_eq_true rfl) (Nat.le_of_ble_eq_true rfl) ?_
                replace hw154 : (∀ s9 : Nat, s9 < 32 → bt zr154 s9 = orF (ldO fx sv133 x_153 s9) c0) := hw154
                have f_155 := hw154
                refine lv_istore (lv' := [(10, .int zr154), (9, .int 0), (8, .int x_148), (7, .int (nI k_138)), (6, .int (nI i133)), (5, .int lb5_133), (4, .int sv133), (3, .ref (ea 3)), (0, .ref p0), (1, .int (nI rk)), (2, .int cg)]) hx hb dX6_canBeYesBy_120 hl (by decide) rfl (fun ls hl => ?_)
                refine lv_iload hx hb dX6_canBeYesBy_122 (lv_at hl 1 rfl) ?_
                refine lv_if_eq (tgt := 135) hx hb dX6_canBeYesBy_124 (by decide) (fun _ => ?_) (fun h => absurd (by decide) h)
                refine lv_iload hx hb dX6_canBeYesBy_135 (lv_at hl 0 rfl) ?_
                refine lv_istore (lv' := [(4, .int zr154), (10, .int zr154), (9, .int 0), (8, .int x_148), (7, .int (nI k_138)), (6, .int (nI i133)), (5, .int lb5_133), (3, .ref (ea 3)), (0, .ref p0), (1, .int (nI rk)), (2, .int cg)]) hx hb dX6_canBeYesBy_137 hl (by decide) rfl (fun ls hl => ?_)
                refine lv_iload hx hb dX6_canBeYesBy_139 (lv_at hl 6 rfl) ?_
                refine lv_if_eq (tgt := 153) hx hb dX6_canBeYesBy_141 (by decide) (fun _ => ?_) (fun h => absurd c_93 h)
                refine lv_iconst (v := 0) hx hb dX6_canBeYesBy_153 (by decide) ?_
                refine lv_istore (lv' := [(5, .int 0), (4, .int zr154), (10, .int zr154), (9, .int 0), (8, .int x_148), (7, .int (nI k_138)), (6, .int (nI i133)), (3, .ref (ea 3)), (0, .ref p0), (1, .int (nI rk)), (2, .int cg)]) hx hb dX6_canBeYesBy_154 hl (by decide) rfl (fun ls hl => ?_)
                refine lv_iinc (v := nI (i133 + 1)) (lv' := [(6, .int (nI (i133 + 1))), (5, .int 0), (4, .int zr154), (10, .int zr154), (9, .int 0), (8, .int x_148), (7, .int (nI k_138)), (3, .ref (ea 3)), (0, .ref p0), (1, .int (nI rk)), (2, .int cg)]) hx hb dX6_canBeYesBy_156 hl (k := 6) rfl (nI_add i133 1) (by decide) rfl (fun ls hl => ?_)
                refine lv_goto (tgt := 21) hx hb dX6_canBeYesBy_159 (by decide) ?_
                exact ih133  zr154 0 ((i133 + 1)) (Or.inl rfl) (by omega) (fun hok9 => by_st (sk := false) (n1 := false) hok9 hc0 hnx (hf1_133 hok9) (by omega) hsl (by rw [← hesk]; exact f_141) f_143 f_144 (fun w9 h9 => by rw [ex_147, nI_clamp (by omega)]; exact hqu rk k_138 w9 hrk (by omega) h9) ex_148 ex_149 ex_150 (decide_eq_false (fun h9 => h9 c_80)).symm (decide_eq_false (fun h9 => h9 c_93)).symm hb_lb5_133 (if_neg (by decide)).symm ex_151 ex_152 ex_153 f_155 (if_neg (by decide)).symm (if_neg (by decide)).symm) (by omega) _ _ (hP.sub [17, 0, 1, 18, 19, 20, 15, 16, 2, 3, 4, 5, 6, 7, 8, 9, 10, 11, 14, 12, 13] rfl) (hD.sub [17, 0, 1, 18, 19, 20, 15, 16, 2, 3, 4, 5, 6, 7, 8, 9, 10, 11, 14, 12, 13] (by decide +kernel) rfl) hS ls (lv_sub hl [0, 1, 2, 7, 8, 9, 10] rfl)
              · refine lv_iload hx hb dX6_canBeYesBy_96 (lv_at hl 5 rfl) ?_
                refine lv_iconst (v := 1) hx hb dX6_canBeYesBy_98 (by decide) ?_
                refine lv_ior hx hb dX6_canBeYesBy_99 ?_
                refine lv_topi (fun x_156 ex_156 => ?_)
                refine lv_goto (tgt := 105) hx hb dX6_canBeYesBy_100 (by decide) ?_
                refine lv_iload hx hb dX6_canBeYesBy_105 (lv_at hl 1 rfl) ?_
                refine lv_aload_n hx hb dX6_canBeYesBy_107 rfl (lv_at hl 6 rfl) ?_
                refine va_get (D := D) (ci := 2) (v := .ref (eg 3)) (C := RX2) (T := TX2) (N := 5) hx hb hg i_X2 hown hK hP 15 rfl rfl 0 (by decide) (hg _ m_513) (fun _ h9 => h9) rfl dX6_canBeYesBy_108 ?_
                refine lv_iload hx hb dX6_canBeYesBy_111 (lv_at hl 2 rfl) ?_
                refine va_iald hx hb hK hP 13 1 rfl rfl (vp_in_nI (by omega) (by decide)) dX6_canBeYesBy_113 ?_
                refine lv_topi (fun x_157 ex_157 => ?_)
                refine lv_iconst (v := -1) hx hb dX6_canBeYesBy_114 (by decide) ?_
                refine lv_ixor hx hb dX6_canBeYesBy_115 ?_
                refine lv_topi (fun x_158 ex_158 => ?_)
                refine lv_iand hx hb dX6_canBeYesBy_116 ?_
                refine lv_topi (fun x_159 ex_159 => ?_)
                refine x_callVi (q := (RX6, TX6, 9)) (ci := 6) (q0 := 0) (wr := [wI (cy 1) p3 4 (fne), wI (cy 1) p4 40 (fqi), (er, .inl (cy 4, 4, .inr (.inr (.inr (.inr (eF (ea 0) (ea 1) (ea 2) (ea 3))))))), wO (ea 0) 2 [.ref (eg 0), .ref (ef 0), .int (et 0), .int (nI (el 0)), .int (nI (ei 0))], wI (cy 1) (eg 0) 10 (gc 0), wI (cy 1) (ef 0) 7 (xc 0), wO (ea 1) 2 [.ref (eg 1), .ref (ef 1), .int (et 1), .int (nI (el 1)), .int (nI (ei 1))], wI (cy 1) (eg 1) 10 (gc 1), wI (cy 1) (ef 1) 7 (xc 1), wO (ea 2) 2 [.ref (eg 2), .ref (ef 2), .int (et 2), .int (nI (el 2)), .int (nI (ei 2))], wI (cy 1) (eg 2) 10 (gc 2), wI (cy 1) (ef 2) 7 (xc 2), wI (cy 1) (eg 3) 10 (gc 3), wI (cy 1) (ef 3) 7 (xc 3), wO (ea 3) 2 [.ref (eg 3), .ref (ef 3), .int (et 3), .int (nI ((el 3))), .int (nI ((ei 3)))], wO s0 7 [.ref s1, .ref s2, .int (nI sl), .int spl, .int svo, .int swi, .int sch], wI (cy 1) s1 10 (fw)]) (rest := []) ⟨hx, hb, hml, hown, hg, hl.1⟩ k_X6_101 (s_led l D cy p0 p1 p2 p3 p4 er ro ch s0 h0 h1 h2 h3 h4 h5 h6 h7 h8 h9 h10 h11 ((.int ys)) hv1 hv2 hv3 hv4 fc c0 c1 c2 c3 fx x_156 x_159 (hcn) (by omega) (by omega) (by omega) (by omega) (hnx)) E0_blind hK hP hD hS hA [16, 17, 18, 2] [0, 1, 3, 4, 5, 6, 7, 8, 9, 10, 11, 12, 13, 14, 15, 19, 20] ⟨rfl, rfl, by decide +kernel, by decide +kernel, by decide +kernel⟩ rfl rfl (fun _ _ _ => trivial) dX6_canBeYesBy_117 rfl rfl (Nat.le_of_ble_eq_true rfl) ⟨Nat.le_of_ble_eq_true rfl, Nat.le_of_ble_eq_true rfl⟩ ⟨Nat.le_of_ble_eq_true rfl, Nat.le_of_ble_eq_true rfl⟩ (fun zr160 zu160 H locs hw160 hP9 hD9 hS9 => ?_)
                clear hP hD hS
                refine reW [wI (cy 1) p3 4 (fne), wI (cy 1) p4 40 (fqi), (er, .inl (cy 4, 4, .inr (.inr (.inr (.inr (eF (ea 0) (ea 1) (ea 2) (ea 3))))))), wO (ea 0) 2 [.ref (eg 0), .ref (ef 0), .int (et 0), .int (nI (el 0)), .int (nI (ei 0))], wI (cy 1) (eg 0) 10 (gc 0), wI (cy 1) (ef 0) 7 (xc 0), wO (ea 1) 2 [.ref (eg 1), .ref (ef 1), .int (et 1), .int (nI (el 1)), .int (nI (ei 1))], wI (cy 1) (eg 1) 10 (gc 1), wI (cy 1) (ef 1) 7 (xc 1), wO (ea 2) 2 [.ref (eg 2), .ref (ef 2), .int (et 2), .int (nI (el 2)), .int (nI (ei 2))], wI (cy 1) (eg 2) 10 (gc 2), wI (cy 1) (ef 2) 7 (xc 2), wI (cy 1) (eg 3) 10 (gc 3), wI (cy 1) (ef 3) 7 (xc 3), wO (ea 3) 2 [.ref (eg 3), .ref (ef 3), .int (et 3), .int (nI ((el 3))), .int (nI ((ei 3)))], wO s0 7 [.ref s1, .ref s2, .int (nI sl), .int spl, .int svo, .int swi, .int sch], wI (cy 1) s1 10 (fw), wO p0 6 [.ref p1, .ref er, .ref ro, .ref p2, .ref p3, .ref p4, .ref h0, .ref s0, .int (nI ch)], wO h0 4 [.ref h1, .ref h2, .ref h3, .ref h4, .ref h5, .ref h6, .ref h7, .ref h8, .ref h9, .ref h10, .ref h11, .int ys, hv1, hv2, hv3, hv4], wI (cy 1) h1 4 (fc), wI (cy 1) h7 48 (fx)] hP9 hD9 hS9 (fun hP hD hS => ?_)
                clear hP9 hD9 hS9
                refine W.widen (k := 0) (n := 0) (Nat.le_of_ble_eq_true rfl) (Nat.le_of_ble_eq_true rfl) ?_
                replace hw160 : (∀ s9 : Nat, s9 < 32 → bt zr160 s9 = orF (ldO fx x_156 x_159 s9) c0) := hw160
                have f_161 := hw160
                refine lv_istore (lv' := [(10, .int zr160), (9, .int 0), (8, .int x_148), (7, .int (nI k_138)), (6, .int (nI i133)), (5, .int lb5_133), (4, .int sv133), (3, .ref (ea 3)), (0, .ref p0), (1, .int (nI rk)), (2, .int cg)]) hx hb dX6_canBeYesBy_120 hl (by decide) rfl (fun ls hl => ?_)
                refine lv_iload hx hb dX6_canBeYesBy_122 (lv_at hl 1 rfl) ?_
                refine lv_if_eq (tgt := 135) hx hb dX6_canBeYesBy_124 (by decide) (fun _ => ?_) (fun h => absurd (by decide) h)
                refine lv_iload hx hb dX6_canBeYesBy_135 (lv_at hl 0 rfl) ?_
                refine lv_istore (lv' := [(4, .int zr160), (10, .int zr160), (9, .int 0), (8, .int x_148), (7, .int (nI k_138)), (6, .int (nI i133)), (5, .int lb5_133), (3, .ref (ea 3)), (0, .ref p0), (1, .int (nI rk)), (2, .int cg)]) hx hb dX6_canBeYesBy_137 hl (by decide) rfl (fun ls hl => ?_)
                refine lv_iload hx hb dX6_canBeYesBy_139 (lv_at hl 6 rfl) ?_
                refine lv_if_eq (tgt := 153) hx hb dX6_canBeYesBy_141 (by decide) (fun h => absurd h c_93) (fun _ => ?_)
                refine lv_iload hx hb dX6_canBeYesBy_144 (lv_at hl 2 rfl) ?_
                refine lv_if_eq (tgt := 153) hx hb dX6_canBeYesBy_146 (by decide) (fun _ => ?_) (fun h => absurd (by decide) h)
                refine lv_iconst (v := 0) hx hb dX6_canBeYesBy_153 (by decide) ?_
                refine lv_istore (lv' := [(5, .int 0), (4, .int zr160), (10, .int zr160), (9, .int 0), (8, .int x_148), (7, .int (nI k_138)), (6, .int (nI i133)), (3, .ref (ea 3)), (0, .ref p0), (1, .int (nI rk)), (2, .int cg)]) hx hb dX6_canBeYesBy_154 hl (by decide) rfl (fun ls hl => ?_)
                refine lv_iinc (v := nI (i133 + 1)) (lv' := [(6, .int (nI (i133 + 1))), (5, .int 0), (4, .int zr160), (10, .int zr160), (9, .int 0), (8, .int x_148), (7, .int (nI k_138)), (3, .ref (ea 3)), (0, .ref p0), (1, .int (nI rk)), (2, .int cg)]) hx hb dX6_canBeYesBy_156 hl (k := 6) rfl (nI_add i133 1) (by decide) rfl (fun ls hl => ?_)
                refine lv_goto (tgt := 21) hx hb dX6_canBeYesBy_159 (by decide) ?_
                exact ih133  zr160 0 ((i133 + 1)) (Or.inl rfl) (by omega) (fun hok9 => by_st (sk := false) (n1 := true) hok9 hc0 hnx (hf1_133 hok9) (by omega) hsl (by rw [← hesk]; exact f_141) f_143 f_144 (fun w9 h9 => by rw [ex_147, nI_clamp (by omega)]; exact hqu rk k_138 w9 hrk (by omega) h9) ex_148 ex_149 ex_150 (decide_eq_false (fun h9 => h9 c_80)).symm (decide_eq_true c_93).symm hb_lb5_133 (ex_156.trans (if_pos rfl).symm) ex_157 ex_158 ex_159 f_161 (if_neg (by decide)).symm (if_neg (by decide)).symm) (by omega) _ _ (hP.sub [17, 0, 1, 18, 19, 20, 15, 16, 2, 3, 4, 5, 6, 7, 8, 9, 10, 11, 14, 12, 13] rfl) (hD.sub [17, 0, 1, 18, 19, 20, 15, 16, 2, 3, 4, 5, 6, 7, 8, 9, 10, 11, 14, 12, 13] (by decide +kernel) rfl) hS ls (lv_sub hl [0, 1, 2, 7, 8, 9, 10] rfl)
            · refine lv_iconst (v := 1) hx hb dX6_canBeYesBy_83 (by decide) ?_
              refine lv_goto (tgt := 88) hx hb dX6_canBeYesBy_84 (by decide) ?_
              refine lv_istore (lv' := [(9, .int 1), (8, .int x_148), (7, .int (nI k_138)), (6, .int (nI i133)), (5, .int lb5_133), (4, .int sv133), (3, .ref (ea 3)), (0, .ref p0), (1, .int (nI rk)), (2, .int cg)]) hx hb dX6_canBeYesBy_88 hl (by decide) rfl (fun ls hl => ?_)
              refine lv_aload_n hx hb dX6_canBeYesBy_90 rfl (lv_at hl 7 rfl) ?_
              refine lv_iload hx hb dX6_canBeYesBy_91 (lv_at hl 4 rfl) ?_
              refine lv_if_eq (tgt := 103) hx hb dX6_canBeYesBy_93 (by decide) (fun c_93 => ?_) (fun c_93 => ?_)
              · refine lv_iload hx hb dX6_canBeYesBy_103 (lv_at hl 5 rfl) ?_
                refine lv_iload hx hb dX6_canBeYesBy_105 (lv_at hl 1 rfl) ?_
                refine lv_aload_n hx hb dX6_canBeYesBy_107 rfl (lv_at hl 6 rfl) ?_
                refine va_get (D := D) (ci := 2) (v := .ref (eg 3)) (C := RX2) (T := TX2) (N := 5) hx hb hg i_X2 hown hK hP 15 rfl rfl 0 (by decide) (hg _ m_513) (fun _ h9 => h9) rfl dX6_canBeYesBy_108 ?_
                refine lv_iload hx hb dX6_canBeYesBy_111 (lv_at hl 2 rfl) ?_
                refine va_iald hx hb hK hP 13 1 rfl rfl (vp_in_nI (by omega) (by decide)) dX6_canBeYesBy_113 ?_
                refine lv_topi (fun x_162 ex_162 => ?_)
                refine lv_iconst (v := -1) hx hb dX6_canBeYesBy_114 (by decide) ?_
                refine lv_ixor hx hb dX6_canBeYesBy_115 ?_
                refine lv_topi (fun x_163 ex_163 => ?_)
                refine lv_iand hx hb dX6_canBeYesBy_116 ?_
                refine lv_topi (fun x_164 ex_164 => ?_)
                refine x_callVi (q := (RX6, TX6, 9)) (ci := 6) (q0 := 0) (wr := [wI (cy 1) p3 4 (fne), wI (cy 1) p4 40 (fqi), (er, .inl (cy 4, 4, .inr (.inr (.inr (.inr (eF (ea 0) (ea 1) (ea 2) (ea 3))))))), wO (ea 0) 2 [.ref (eg 0), .ref (ef 0), .int (et 0), .int (nI (el 0)), .int (nI (ei 0))], wI (cy 1) (eg 0) 10 (gc 0), wI (cy 1) (ef 0) 7 (xc 0), wO (ea 1) 2 [.ref (eg 1), .ref (ef 1), .int (et 1), .int (nI (el 1)), .int (nI (ei 1))], wI (cy 1) (eg 1) 10 (gc 1), wI (cy 1) (ef 1) 7 (xc 1), wO (ea 2) 2 [.ref (eg 2), .ref (ef 2), .int (et 2), .int (nI (el 2)), .int (nI (ei 2))], wI (cy 1) (eg 2) 10 (gc 2), wI (cy 1) (ef 2) 7 (xc 2), wI (cy 1) (eg 3) 10 (gc 3), wI (cy 1) (ef 3) 7 (xc 3), wO (ea 3) 2 [.ref (eg 3), .ref (ef 3), .int (et 3), .int (nI ((el 3))), .int (nI ((ei 3)))], wO s0 7 [.ref s1, .ref s2, .int (nI sl), .int spl, .int svo, .int swi, .int sch], wI (cy 1) s1 10 (fw)]) (rest := []) ⟨hx, hb, hml, hown, hg, hl.1⟩ k_X6_101 (s_led l D cy p0 p1 p2 p3 p4 er ro ch s0 h0 h1 h2 h3 h4 h5 h6 h7 h8 h9 h10 h11 ((.int ys)) hv1 hv2 hv3 hv4 fc c0 c1 c2 c3 fx sv133 x_164 (hcn) (by omega) (by omega) (by omega) (by omega) (hnx)) E0_blind hK hP hD hS hA [16, 17, 18, 2] [0, 1, 3, 4, 5, 6, 7, 8, 9, 10, 11, 12, 13, 14, 15, 19, 20] ⟨rfl, rfl, by decide +kernel, by decide +kernel, by decide +kernel⟩ rfl rfl (fun _ _ _ => trivial) dX6_canBeYesBy_117 rfl rfl (Nat.le_of_ble_eq_true rfl) ⟨Nat.le_of_ble_eq_true rfl, Nat.le_of_ble_eq_true rfl⟩ ⟨Nat.le_of_ble_eq_true rfl, Nat.le_of_ble_eq_true rfl⟩ (fun zr165 zu165 H locs hw165 hP9 hD9 hS9 => ?_)
                clear hP hD hS
                refine reW [wI (cy 1) p3 4 (fne), wI (cy 1) p4 40 (fqi), (er, .inl (cy 4, 4, .inr (.inr (.inr (.inr (eF (ea 0) (ea 1) (ea 2) (ea 3))))))), wO (ea 0) 2 [.ref (eg 0), .ref (ef 0), .int (et 0), .int (nI (el 0)), .int (nI (ei 0))], wI (cy 1) (eg 0) 10 (gc 0), wI (cy 1) (ef 0) 7 (xc 0), wO (ea 1) 2 [.ref (eg 1), .ref (ef 1), .int (et 1), .int (nI (el 1)), .int (nI (ei 1))], wI (cy 1) (eg 1) 10 (gc 1), wI (cy 1) (ef 1) 7 (xc 1), wO (ea 2) 2 [.ref (eg 2), .ref (ef 2), .int (et 2), .int (nI (el 2)), .int (nI (ei 2))], wI (cy 1) (eg 2) 10 (gc 2), wI (cy 1) (ef 2) 7 (xc 2), wI (cy 1) (eg 3) 10 (gc 3), wI (cy 1) (ef 3) 7 (xc 3), wO (ea 3) 2 [.ref (eg 3), .ref (ef 3), .int (et 3), .int (nI ((el 3))), .int (nI ((ei 3)))], wO s0 7 [.ref s1, .ref s2, .int (nI sl), .int spl, .int svo, .int swi, .int sch], wI (cy 1) s1 10 (fw), wO p0 6 [.ref p1, .ref er, .ref ro, .ref p2, .ref p3, .ref p4, .ref h0, .ref s0, .int (nI ch)], wO h0 4 [.ref h1, .ref h2, .ref h3, .ref h4, .ref h5, .ref h6, .ref h7, .ref h8, .ref h9, .ref h10, .ref h11, .int ys, hv1, hv2, hv3, hv4], wI (cy 1) h1 4 (fc), wI (cy 1) h7 48 (fx)] hP9 hD9 hS9 (fun hP hD hS => ?_)
                clear hP9 hD9 hS9
                refine W.widen (k := 0) (n := 0) (Nat.le_of_ble_eq_true rfl) (Nat.le_of_ble_eq_true rfl) ?_
                replace hw165 : (∀ s9 : Nat, s9 < 32 → bt zr165 s9 = orF (ldO fx sv133 x_164 s9) c0) := hw165
                have f_166 := hw165
                refine lv_istore (lv' := [(10, .int zr165), (9, .int 1), (8, .int x_148), (7, .int (nI k_138)), (6, .int (nI i133)), (5, .int lb5_133), (4, .int sv133), (3, .ref (ea 3)), (0, .ref p0), (1, .int (nI rk)), (2, .int cg)]) hx hb dX6_canBeYesBy_120 hl (by decide) rfl (fun ls hl => ?_)
                refine lv_iload hx hb dX6_canBeYesBy_122 (lv_at hl 1 rfl) ?_
                refine lv_if_eq (tgt := 135) hx hb dX6_canBeYesBy_124 (by decide) (fun h => absurd h (by decide)) (fun _ => ?_)
                refine lv_iload hx hb dX6_canBeYesBy_127 (lv_at hl 6 rfl) ?_
                refine lv_iload hx hb dX6_canBeYesBy_129 (lv_at hl 0 rfl) ?_
                refine lv_ior hx hb dX6_canBeYesBy_131 ?_
                refine lv_topi (fun x_167 ex_167 => ?_)
                refine lv_goto (tgt := 137) hx hb dX6_canBeYesBy_132 (by decide) ?_
                refine lv_istore (lv' := [(4, .int x_167), (10, .int zr165), (9, .int 1), (8, .int x_148), (7, .int (nI k_138)), (6, .int (nI i133)), (5, .int lb5_133), (3, .ref (ea 3)), (0, .ref p0), (1, .int (nI rk)), (2, .int cg)]) hx hb dX6_canBeYesBy_137 hl (by decide) rfl (fun ls hl => ?_)
                refine lv_iload hx hb dX6_canBeYesBy_139 (lv_at hl 6 rfl) ?_
                refine lv_if_eq (tgt := 153) hx hb dX6_canBeYesBy_141 (by decide) (fun _ => ?_) (fun h => absurd c_93 h)
                refine lv_iconst (v := 0) hx hb dX6_canBeYesBy_153 (by decide) ?_
                refine lv_istore (lv' := [(5, .int 0), (4, .int x_167), (10, .int zr165), (9, .int 1), (8, .int x_148), (7, .int (nI k_138)), (6, .int (nI i133)), (3, .ref (ea 3)), (0, .ref p0), (1, .int (nI rk)), (2, .int cg)]) hx hb dX6_canBeYesBy_154 hl (by decide) rfl (fun ls hl => ?_)
                refine lv_iinc (v := nI (i133 + 1)) (lv' := [(6, .int (nI (i133 + 1))), (5, .int 0), (4, .int x_167), (10, .int zr165), (9, .int 1), (8, .int x_148), (7, .int (nI k_138)), (3, .ref (ea 3)), (0, .ref p0), (1, .int (nI rk)), (2, .int cg)]) hx hb dX6_canBeYesBy_156 hl (k := 6) rfl (nI_add i133 1) (by decide) rfl (fun ls hl => ?_)
                refine lv_goto (tgt := 21) hx hb dX6_canBeYesBy_159 (by decide) ?_
                exact ih133  x_167 0 ((i133 + 1)) (Or.inl rfl) (by omega) (fun hok9 => by_st (sk := true) (n1 := false) hok9 hc0 hnx (hf1_133 hok9) (by omega) hsl (by rw [← hesk]; exact f_141) f_143 f_144 (fun w9 h9 => by rw [ex_147, nI_clamp (by omega)]; exact hqu rk k_138 w9 hrk (by omega) h9) ex_148 ex_149 ex_150 (decide_eq_true c_80).symm (decide_eq_false (fun h9 => h9 c_93)).symm hb_lb5_133 (if_neg (by decide)).symm ex_162 ex_163 ex_164 f_166 (ex_167.trans (if_pos rfl).symm) (if_neg (by decide)).symm) (by omega) _ _ (hP.sub [17, 0, 1, 18, 19, 20, 15, 16, 2, 3, 4, 5, 6, 7, 8, 9, 10, 11, 14, 12, 13] rfl) (hD.sub [17, 0, 1, 18, 19, 20, 15, 16, 2, 3, 4, 5, 6, 7, 8, 9, 10, 11, 14, 12, 13] (by decide +kernel) rfl) hS ls (lv_sub hl [0, 1, 2, 7, 8, 9, 10] rfl)
              · refine lv_iload hx hb dX6_canBeYesBy_96 (lv_at hl 5 rfl) ?_
                refine lv_iconst (v := 1) hx hb dX6_canBeYesBy_98 (by decide) ?_
                refine lv_ior hx hb dX6_canBeYesBy_99 ?_
                refine lv_topi (fun x_168 ex_168 => ?_)
                refine lv_goto (tgt := 105) hx hb dX6_canBeYesBy_100 (by decide) ?_
                refine lv_iload hx hb dX6_canBeYesBy_105 (lv_at hl 1 rfl) ?_
                refine lv_aload_n hx hb dX6_canBeYesBy_107 rfl (lv_at hl 6 rfl) ?_
                refine va_get (D := D) (ci := 2) (v := .ref (eg 3)) (C := RX2) (T := TX2) (N := 5) hx hb hg i_X2 hown hK hP 15 rfl rfl 0 (by decide) (hg _ m_513) (fun _ h9 => h9) rfl dX6_canBeYesBy_108 ?_
                refine lv_iload hx hb dX6_canBeYesBy_111 (lv_at hl 2 rfl) ?_
                refine va_iald hx hb hK hP 13 1 rfl rfl (vp_in_nI (by omega) (by decide)) dX6_canBeYesBy_113 ?_
                refine lv_topi (fun x_169 ex_169 => ?_)
                refine lv_iconst (v := -1) hx hb dX6_canBeYesBy_114 (by decide) ?_
                refine lv_ixor hx hb dX6_canBeYesBy_115 ?_
                refine lv_topi (fun x_170 ex_170 => ?_)
                refine lv_iand hx hb dX6_canBeYesBy_116 ?_
                refine lv_topi (fun x_171 ex_171 => ?_)
                refine x_callVi (q := (RX6, TX6, 9)) (ci := 6) (q0 := 0) (wr := [wI (cy 1) p3 4 (fne), wI (cy 1) p4 40 (fqi), (er, .inl (cy 4, 4, .inr (.inr (.inr (.inr (eF (ea 0) (ea 1) (ea 2) (ea 3))))))), wO (ea 0) 2 [.ref (eg 0), .ref (ef 0), .int (et 0), .int (nI (el 0)), .int (nI (ei 0))], wI (cy 1) (eg 0) 10 (gc 0), wI (cy 1) (ef 0) 7 (xc 0), wO (ea 1) 2 [.ref (eg 1), .ref (ef 1), .int (et 1), .int (nI (el 1)), .int (nI (ei 1))], wI (cy 1) (eg 1) 10 (gc 1), wI (cy 1) (ef 1) 7 (xc 1), wO (ea 2) 2 [.ref (eg 2), .ref (ef 2), .int (et 2), .int (nI (el 2)), .int (nI (ei 2))], wI (cy 1) (eg 2) 10 (gc 2), wI (cy 1) (ef 2) 7 (xc 2), wI (cy 1) (eg 3) 10 (gc 3), wI (cy 1) (ef 3) 7 (xc 3), wO (ea 3) 2 [.ref (eg 3), .ref (ef 3), .int (et 3), .int (nI ((el 3))), .int (nI ((ei 3)))], wO s0 7 [.ref s1, .ref s2, .int (nI sl), .int spl, .int svo, .int swi, .int sch], wI (cy 1) s1 10 (fw)]) (rest := []) ⟨hx, hb, hml, hown, hg, hl.1⟩ k_X6_101 (s_led l D cy p0 p1 p2 p3 p4 er ro ch s0 h0 h1 h2 h3 h4 h5 h6 h7 h8 h9 h10 h11 ((.int ys)) hv1 hv2 hv3 hv4 fc c0 c1 c2 c3 fx x_168 x_171 (hcn) (by omega) (by omega) (by omega) (by omega) (hnx)) E0_blind hK hP hD hS hA [16, 17, 18, 2] [0, 1, 3, 4, 5, 6, 7, 8, 9, 10, 11, 12, 13, 14, 15, 19, 20] ⟨rfl, rfl, by decide +kernel, by decide +kernel, by decide +kernel⟩ rfl rfl (fun _ _ _ => trivial) dX6_canBeYesBy_117 rfl rfl (Nat.le_of_ble_eq_true rfl) ⟨Nat.le_of_ble_eq_true rfl, Nat.le_of_ble_eq_true rfl⟩ ⟨Nat.le_of_ble_eq_true rfl, Nat.le_of_ble_eq_true rfl⟩ (fun zr172 zu172 H locs hw172 hP9 hD9 hS9 => ?_)
                clear hP hD hS
                refine reW [wI (cy 1) p3 4 (fne), wI (cy 1) p4 40 (fqi), (er, .inl (cy 4, 4, .inr (.inr (.inr (.inr (eF (ea 0) (ea 1) (ea 2) (ea 3))))))), wO (ea 0) 2 [.ref (eg 0), .ref (ef 0), .int (et 0), .int (nI (el 0)), .int (nI (ei 0))], wI (cy 1) (eg 0) 10 (gc 0), wI (cy 1) (ef 0) 7 (xc 0), wO (ea 1) 2 [.ref (eg 1), .ref (ef 1), .int (et 1), .int (nI (el 1)), .int (nI (ei 1))], wI (cy 1) (eg 1) 10 (gc 1), wI (cy 1) (ef 1) 7 (xc 1), wO (ea 2) 2 [.ref (eg 2), .ref (ef 2), .int (et 2), .int (nI (el 2)), .int (nI (ei 2))], wI (cy 1) (eg 2) 10 (gc 2), wI (cy 1) (ef 2) 7 (xc 2), wI (cy 1) (eg 3) 10 (gc 3), wI (cy 1) (ef 3) 7 (xc 3), wO (ea 3) 2 [.ref (eg 3), .ref (ef 3), .int (et 3), .int (nI ((el 3))), .int (nI ((ei 3)))], wO s0 7 [.ref s1, .ref s2, .int (nI sl), .int spl, .int svo, .int swi, .int sch], wI (cy 1) s1 10 (fw), wO p0 6 [.ref p1, .ref er, .ref ro, .ref p2, .ref p3, .ref p4, .ref h0, .ref s0, .int (nI ch)], wO h0 4 [.ref h1, .ref h2, .ref h3, .ref h4, .ref h5, .ref h6, .ref h7, .ref h8, .ref h9, .ref h10, .ref h11, .int ys, hv1, hv2, hv3, hv4], wI (cy 1) h1 4 (fc), wI (cy 1) h7 48 (fx)] hP9 hD9 hS9 (fun hP hD hS => ?_)
                clear hP9 hD9 hS9
                refine W.widen (k := 0) (n := 0) (Nat.le_of_ble_eq_true rfl) (Nat.le_of_ble_eq_true rfl) ?_
                replace hw172 : (∀ s9 : Nat, s9 < 32 → bt zr172 s9 = orF (ldO fx x_168 x_171 s9) c0) := hw172
                have f_173 := hw172
                refine lv_istore (lv' := [(10, .int zr172), (9, .int 1), (8, .int x_148), (7, .int (nI k_138)), (6, .int (nI i133)), (5, .int lb5_133), (4, .int sv133), (3, .ref (ea 3)), (0, .ref p0), (1, .int (nI rk)), (2, .int cg)]) hx hb dX6_canBeYesBy_120 hl (by decide) rfl (fun ls hl => ?_)
                refine lv_iload hx hb dX6_canBeYesBy_122 (lv_at hl 1 rfl) ?_
                refine lv_if_eq (tgt := 135) hx hb dX6_canBeYesBy_124 (by decide) (fun h => absurd h (by decide)) (fun _ => ?_)
                refine lv_iload hx hb dX6_canBeYesBy_127 (lv_at hl 6 rfl) ?_
                refine lv_iload hx hb dX6_canBeYesBy_129 (lv_at hl 0 rfl) ?_
                refine lv_ior hx hb dX6_canBeYesBy_131 ?_
                refine lv_topi (fun x_174 ex_174 => ?_)
                refine lv_goto (tgt := 137) hx hb dX6_canBeYesBy_132 (by decide) ?_
                refine lv_istore (lv' := [(4, .int x_174), (10, .int zr172), (9, .int 1), (8, .int x_148), (7, .int (nI k_138)), (6, .int (nI i133)), (5, .int lb5_133), (3, .ref (ea 3)), (0, .ref p0), (1, .int (nI rk)), (2, .int cg)]) hx hb dX6_canBeYesBy_137 hl (by decide) rfl (fun ls hl => ?_)
                refine lv_iload hx hb dX6_canBeYesBy_139 (lv_at hl 6 rfl) ?_
                refine lv_if_eq (tgt := 153) hx hb dX6_canBeYesBy_141 (by decide) (fun h => absurd h c_93) (fun _ => ?_)
                refine lv_iload hx hb dX6_canBeYesBy_144 (lv_at hl 2 rfl) ?_
                refine lv_if_eq (tgt := 153) hx hb dX6_canBeYesBy_146 (by decide) (fun h => absurd h (by decide)) (fun _ => ?_)
                refine lv_iconst (v := 1) hx hb dX6_canBeYesBy_149 (by decide) ?_
                refine lv_goto (tgt := 154) hx hb dX6_canBeYesBy_150 (by decide) ?_
                refine lv_istore (lv' := [(5, .int 1), (4, .int x_174), (10, .int zr172), (9, .int 1), (8, .int x_148), (7, .int (nI k_138)), (6, .int (nI i133)), (3, .ref (ea 3)), (0, .ref p0), (1, .int (nI rk)), (2, .int cg)]) hx hb dX6_canBeYesBy_154 hl (by decide) rfl (fun ls hl => ?_)
                refine lv_iinc (v := nI (i133 + 1)) (lv' := [(6, .int (nI (i133 + 1))), (5, .int 1), (4, .int x_174), (10, .int zr172), (9, .int 1), (8, .int x_148), (7, .int (nI k_138)), (3, .ref (ea 3)), (0, .ref p0), (1, .int (nI rk)), (2, .int cg)]) hx hb dX6_canBeYesBy_156 hl (k := 6) rfl (nI_add i133 1) (by decide) rfl (fun ls hl => ?_)
                refine lv_goto (tgt := 21) hx hb dX6_canBeYesBy_159 (by decide) ?_
                exact ih133  x_174 1 ((i133 + 1)) (Or.inr rfl) (by omega) (fun hok9 => by_st (sk := true) (n1 := true) hok9 hc0 hnx (hf1_133 hok9) (by omega) hsl (by rw [← hesk]; exact f_141) f_143 f_144 (fun w9 h9 => by rw [ex_147, nI_clamp (by omega)]; exact hqu rk k_138 w9 hrk (by omega) h9) ex_148 ex_149 ex_150 (decide_eq_true c_80).symm (decide_eq_true c_93).symm hb_lb5_133 (ex_168.trans (if_pos rfl).symm) ex_169 ex_170 ex_171 f_173 (ex_174.trans (if_pos rfl).symm) (if_pos rfl).symm) (by omega) _ _ (hP.sub [17, 0, 1, 18, 19, 20, 15, 16, 2, 3, 4, 5, 6, 7, 8, 9, 10, 11, 14, 12, 13] rfl) (hD.sub [17, 0, 1, 18, 19, 20, 15, 16, 2, 3, 4, 5, 6, 7, 8, 9, 10, 11, 14, 12, 13] (by decide +kernel) rfl) hS ls (lv_sub hl [0, 1, 2, 7, 8, 9, 10] rfl)
          · refine lv_iconst (v := 0) hx hb dX6_canBeYesBy_68 (by decide) ?_
            exact x_zret hQ hx hb hr hlocks hK hP hD hS rfl dX6_canBeYesBy_69 () (⟨(Or.inl rfl), (fun hok9 => by rw [show (fne rk).toNatClampNeg = 3 from (by rw [at_cl (by omega) ej_5]; rfl)]; exact by_r0 (by_m0 hc0 (by omega) (by rw [← hesk]; exact f_141) f_143 (fun w9 h9 => by rw [ex_147, nI_clamp (by omega)]; exact hqu rk k_138 w9 hrk (by omega) h9) ex_148 c_65))⟩) [16, 0, 1, 17, 18, 2, 19, 20, 3, 4, 5, 6, 7, 8, 9, 10, 11, 12, 15, 13, 14] (by decide +kernel) rfl (Nat.le_of_ble_eq_true rfl) (Nat.le_of_ble_eq_true rfl)
    exact loop133 _ 0 1 0 (Or.inr rfl) (by omega) (fun _ => by_0) (Nat.le_refl _) _ _ (hP.sub [0, 1, 2, 3, 4, 5, 6, 7, 8, 9, 10, 11, 12, 13, 14, 15, 16, 17, 18, 19, 20] rfl) (hD.sub [0, 1, 2, 3, 4, 5, 6, 7, 8, 9, 10, 11, 12, 13, 14, 15, 16, 17, 18, 19, 20] (by decide +kernel) rfl) hS ls (lv_sub hl [0, 1, 2, 3, 4, 5, 6] rfl)
/-! some row that differs at chosen places has the VERDICT YES -/
theorem ny_s {ok : Prop} {P : Nat → Prop} {i : Nat} {z : Int32} (h : ok → ∀ k9, k9 < i → ¬ P k9) (hb : ok → (z = 1 ↔ P i)) (hz : z = 0) : ok → ∀ k9, k9 < i + 1 → ¬ P k9 := fun ho k hk => by
  by_cases q : k = i
  · rw [q]
    exact fun hp => absurd (hz.symm.trans ((hb ho).mpr hp)) (by decide)
  · exact h ho k (by omega)
def cpP (CY : Int32 → Prop) (n : Nat) : Nat → Nat → Int32 → Prop
  | 0, _, cg => CY cg
  | d + 1, fm, cg => ∃ i : Nat, fm ≤ i ∧ i < n ∧ cpP CY n d (i + 1) (cg ||| ((1 : Int32) <<< (nI i &&& 31)))
theorem cpP_cg {CY CZ : Int32 → Prop} {n : Nat} (h : ∀ cg, CY cg ↔ CZ cg) (d : Nat) : ∀ fm cg, cpP CY n d fm cg ↔ cpP CZ n d fm cg := by
  induction d with
  | zero => intro fm cg; exact h cg
  | succ d ih =>
    intro fm cg
    exact ⟨fun ⟨i, h1, h2, h3⟩ => ⟨i, h1, h2, (ih _ _).mp h3⟩, fun ⟨i, h1, h2, h3⟩ => ⟨i, h1, h2, (ih _ _).mpr h3⟩⟩
section CPX
variable {ok : Prop} {CY : Int32 → Prop} {n d d1 fm i : Nat} {cg x y z : Int32}
theorem cp_n (h : ok → ∀ i9 : Nat, fm ≤ i9 → i9 < i → i9 < n → ¬ cpP CY n d (i9 + 1) (cg ||| ((1 : Int32) <<< (nI i9 &&& 31)))) (hb : ok → (z = 1 ↔ cpP CY n d (i + 1) x)) (hz : z = 0) (ey : y = (1 : Int32) <<< (nI i &&& 31)) (ex : x = cg ||| y) : ok → ∀ i9 : Nat, fm ≤ i9 → i9 < i + 1 → i9 < n → ¬ cpP CY n d (i9 + 1) (cg ||| ((1 : Int32) <<< (nI i9 &&& 31))) := fun ho i9 h1 h2 h3 => by
  by_cases q : i9 = i
  · rw [q, ← ey, ← ex]
    exact fun hp => absurd (hz.symm.trans ((hb ho).mpr hp)) (by decide)
  · exact h ho i9 h1 (by omega) h3
theorem cp_1 (hd : d1 = d + 1) (hf : fm ≤ i) (hi : i < n) (hb : ok → (z = 1 ↔ cpP CY n d (i + 1) x)) (hz : z = 1) (ey : y = (1 : Int32) <<< (nI i &&& 31)) (ex : x = cg ||| y) : ok → ((1 : Int32) = 1 ↔ cpP CY n d1 fm cg) := fun ho => by
  subst hd
  refine ⟨fun _ => ⟨i, hf, hi, ?_⟩, fun _ => rfl⟩
  rw [← ey, ← ex]
  exact (hb ho).mp hz
theorem cp_0 (hd : d1 = d + 1) (h : ok → ∀ i9 : Nat, fm ≤ i9 → i9 < i → i9 < n → ¬ cpP CY n d (i9 + 1) (cg ||| ((1 : Int32) <<< (nI i9 &&& 31)))) (hi : n ≤ i) : ok → ((0 : Int32) = 1 ↔ cpP CY n d1 fm cg) := fun ho => by
  subst hd
  refine ⟨fun e => absurd e (by decide), fun ⟨i9, h1, h2, h3⟩ => absurd h3 (h ho i9 h1 (by omega) h2)⟩
theorem cp_z (hd : d1 = 0) (hb : ok → (z = 1 ↔ CY cg)) : ok → (z = 1 ↔ cpP CY n d1 fm cg) := fun ho => by
  subst hd
  exact hb ho
end CPX
def rhC (c0 n : Nat) (own : Nat → Int32) (V : FNW → Prop) (cg : Int32) : Prop := ∃ f : FNW, (∀ i, i < n → ∃ w : Nat, w < c0 ∧ f i = nI w ∧ chB c0 own cg i w = true) ∧ V f
def rhA (CY : Int32 → Prop) (n : Nat) (r : Int32) : Prop := (r = -1 ∧ ∀ q : Nat, q ≤ 3 → ¬ cpP CY n q 0 0) ∨ ∃ q : Nat, q ≤ 3 ∧ r = nI q ∧ cpP CY n q 0 0 ∧ ∀ p : Nat, p < q → ¬ cpP CY n p 0 0
theorem rhA_cg {CY CZ : Int32 → Prop} {n : Nat} {r : Int32} (h : ∀ cg, CY cg ↔ CZ cg) (hr : rhA CY n r) : rhA CZ n r := by
  rcases hr with ⟨a, b⟩ | ⟨q, a, b, c, d⟩
  · exact Or.inl ⟨a, fun q hq h9 => b q hq ((cpP_cg h q 0 0).mpr h9)⟩
  · exact Or.inr ⟨q, a, b, (cpP_cg h q 0 0).mp c, fun p hp h9 => d p hp ((cpP_cg h p 0 0).mpr h9)⟩
theorem rhA_det {CY : Int32 → Prop} {n : Nat} {r r' : Int32} (h1 : rhA CY n r) (h2 : rhA CY n r') : r = r' := by
  rcases h1 with ⟨a, b⟩ | ⟨q, a, b, c, d⟩ <;> rcases h2 with ⟨a', b'⟩ | ⟨q', a', b', c', d'⟩
  · rw [a, a']
  · exact absurd c' (b q' a')
  · exact absurd c (b' q a)
  · rcases Nat.lt_trichotomy q q' with z | z | z
    · exact absurd c (d' q z)
    · rw [b, b', z]
    · exact absurd c' (d q' z)
theorem chB_cg {c0 i w : Nat} {own own2 : Nat → Int32} {cg : Int32} (h : own i = own2 i) : chB c0 own cg i w = chB c0 own2 cg i w := by
  unfold chB
  rw [h]
theorem rhC_cg {c0 n : Nat} {own own2 : Nat → Int32} {V V2 : FNW → Prop} {cg : Int32} (ho : ∀ i, i < n → own i = own2 i) (hV : ∀ f, okW c0 f n → (V f ↔ V2 f)) : rhC c0 n own V cg ↔ rhC c0 n own2 V2 cg := by
  constructor
  · rintro ⟨f, h1, h2⟩
    refine ⟨f, fun i hi => ?_, (hV f (fun i hi => ?_)).mp h2⟩
    · obtain ⟨w, a, b, c⟩ := h1 i hi
      exact ⟨w, a, b, by rw [← chB_cg (ho i hi)]; exact c⟩
    · obtain ⟨w, a, b, _⟩ := h1 i hi
      exact ⟨w, a, b⟩
  · rintro ⟨f, h1, h2⟩
    refine ⟨f, fun i hi => ?_, (hV f (fun i hi => ?_)).mpr h2⟩
    · obtain ⟨w, a, b, c⟩ := h1 i hi
      exact ⟨w, a, b, by rw [chB_cg (ho i hi)]; exact c⟩
    · obtain ⟨w, a, b, _⟩ := h1 i hi
      exact ⟨w, a, b⟩
theorem sdL_nil {c : Nat → Bool} {fw : Nat → Int32} {pl : Nat → Nat} {m : Nat} (h : sdL c fw pl m = []) : ∀ k, k < m → c (pl k) = false := by
  induction m with
  | zero => intro k hk; exact absurd hk (Nat.not_lt_zero k)
  | succ m ih =>
    have h9 : sdL c fw pl m ++ (if c (pl m) = true then [fw (pl m)] else []) = [] := h
    obtain ⟨h1, h2⟩ := List.append_eq_nil_iff.mp h9
    intro k hk
    by_cases q : k = m
    · rw [q]
      cases hc : c (pl m) with
      | false => rfl
      | true => rw [if_pos hc] at h2; cases h2
    · exact ih h1 k (by omega)
theorem pls_sur {t : Int32} {n i : Nat} (hi : i < n) : ∃ k, k < n ∧ plS t n k = i := by
  by_cases q : t = 0
  · exact ⟨i, hi, if_pos q⟩
  · refine ⟨n - 1 - i, by omega, ?_⟩
    have e : plS t n (n - 1 - i) = n - 1 - (n - 1 - i) := if_neg q
    rw [e]
    omega
theorem rh_eq {bE lE tE : FE} {lo F sn : Nat → Int32} {wi voc cha ys cg : Int32} {c0 c1 n : Nat} {fx own fne : Nat → Int32} {et : Nat → Int32} {ei : Nat → Nat} {gc : Nat → Nat → Int32} (h8 : c0 ≤ 8) (h4 : c1 ≤ 4) (ho : ordR fne F c1) (hE : ∀ c, c < c1 → eaO bE lE tE lo (F c) wi (sn c) voc cha c0 n (et c) (ei c) (gc c)) :
    (∃ k9, k9 < c1 ∧ byY fx (gc (fne k9).toNatClampNeg) ys (mvB c0 own cg gc fne k9) (plS (et (fne k9).toNatClampNeg) n) c0 n) ↔ rhC c0 n own (fun f9 => vdS (fun c9 => ecS bE lE tE lo (F c9) wi (sn c9) voc cha f9 n) F (yeC fx ys) c1 = 2) cg := by
  have EC : ∀ c, c < c1 → ∀ f : FNW, okW c0 f n → byL (gc c) f (plS (et c) n) n = ecS bE lE tE lo (F c) wi (sn c) voc cha f n := fun c hc f hf => by
    obtain ⟨h1, h2, h3⟩ := hE c hc
    exact sd_ec h1 h2 (fun i hi => by
      obtain ⟨w, hw, e⟩ := hf i hi
      rw [e, h3 i w hi hw]
      unfold coS
      rw [e])
  constructor
  · rintro ⟨k, hk, f, f1, f2, f3⟩
    have al : ∀ i, i < n → ∃ w : Nat, w < c0 ∧ f i = nI w ∧ mvB c0 own cg gc fne k i w = true := fun i hi => by
      obtain ⟨j, hj, e⟩ := pls_sur (t := et (fne k).toNatClampNeg) hi
      have h9 := f1 j hj
      rw [e] at h9
      exact h9
    have okf : okW c0 f n := fun i hi => by
      obtain ⟨w, hw, e, _⟩ := al i hi
      exact ⟨w, hw, e⟩
    obtain ⟨q, hq, eq⟩ := ho.1 k hk
    rw [eq, nI_clamp (by omega)] at f2 f3
    refine ⟨f, fun i hi => ?_, (vd_rank (by omega) ho).mpr ⟨k, hk, fun r hr => ?_, ?_, ?_⟩⟩
    · obtain ⟨w, hw, e, h9⟩ := al i hi
      unfold mvB at h9
      rw [Bool.and_eq_true] at h9
      exact ⟨w, hw, e, h9.1⟩
    · obtain ⟨j, hj, ej⟩ := ho.1 r (by omega)
      rw [ej, nI_clamp (by omega)]
      rw [← EC j hj f okf]
      refine sdL_no (fun k9 h9 => ?_)
      obtain ⟨w, hw, e, h7⟩ := al (plS (et j) n k9) (pls_lt h9)
      unfold mvB at h7
      rw [Bool.and_eq_true] at h7
      have h6 := alF_all h7.2 r hr
      unfold quQ at h6
      rw [ej, nI_clamp (by omega)] at h6
      (try dsimp only)
      rw [e, gB_bt _ (by omega), h6]
      rfl
    · rw [eq, nI_clamp (by omega), ← EC q hq f okf]
      exact f2
    · rw [eq, nI_clamp (by omega), ← EC q hq f okf]
      exact f3
  · rintro ⟨f, f1, f2⟩
    have okf : okW c0 f n := fun i hi => by
      obtain ⟨w, hw, e, _⟩ := f1 i hi
      exact ⟨w, hw, e⟩
    obtain ⟨r, hr, s1, s2, s3⟩ := (vd_rank (by omega) ho).mp f2
    obtain ⟨q, hq, eq⟩ := ho.1 r hr
    rw [eq, nI_clamp (by omega), ← EC q hq f okf] at s2 s3
    refine ⟨r, hr, f, fun j hj => ?_, by rw [eq, nI_clamp (by omega)]; exact s2, by rw [eq, nI_clamp (by omega)]; exact s3⟩
    obtain ⟨w, hw, e, h9⟩ := f1 (plS (et (fne r).toNatClampNeg) n j) (pls_lt hj)
    refine ⟨w, hw, e, ?_⟩
    unfold mvB
    rw [Bool.and_eq_true]
    refine ⟨h9, alF_T (fun a ha => ?_)⟩
    obtain ⟨b, hb, eb⟩ := ho.1 a (by omega)
    have h7 := s1 a ha
    rw [eb, nI_clamp (by omega), ← EC b hb f okf] at h7
    obtain ⟨k9, hk9, e9⟩ := pls_sur (t := et b) (pls_lt (t := et (fne r).toNatClampNeg) hj)
    have h6 := sdL_nil h7 k9 hk9
    (try dsimp only at h6)
    rw [e9, e, gB_bt _ (by omega)] at h6
    unfold quQ
    rw [eb, nI_clamp (by omega)]
    cases hx : bt (gc b (plS (et (fne r).toNatClampNeg) n j)) w with
    | true => rfl
    | false => rw [hx] at h6; cases h6
theorem gdX6_canBeYes_0 : decode cX6_canBeYes 0 = .ok (.iconst 0, 1) ∧ decode cX6_canBeYes 1 = .ok (.istore_n 2, 1) ∧ decode cX6_canBeYes 2 = .ok (.iload_n 2, 1) ∧ decode cX6_canBeYes 3 = .ok (.aload_n 0, 1) ∧ decode cX6_canBeYes 4 = .ok (.getfield 35, 3) ∧ decode cX6_canBeYes 7 = .ok (.getfield 43, 3) ∧ decode cX6_canBeYes 10 = .ok (.iconst 1, 1) ∧ decode cX6_canBeYes 11 = .ok (.iaload, 1) ∧ decode cX6_canBeYes 12 = .ok (.if_icmp .ge 20, 3) ∧ decode cX6_canBeYes 32 = .ok (.iconst 0, 1) ∧ decode cX6_canBeYes 33 = .ok (.ireturn, 1) ∧ decode cX6_canBeYes 15 = .ok (.aload_n 0, 1) := by decide +kernel
theorem dX6_canBeYes_0 : decode cX6_canBeYes 0 = .ok (.iconst 0, 1) := gdX6_canBeYes_0.1
theorem dX6_canBeYes_1 : decode cX6_canBeYes 1 = .ok (.istore_n 2, 1) := gdX6_canBeYes_0.2.1
theorem dX6_canBeYes_2 : decode cX6_canBeYes 2 = .ok (.iload_n 2, 1) := gdX6_canBeYes_0.2.2.1
theorem dX6_canBeYes_3 : decode cX6_canBeYes 3 = .ok (.aload_n 0, 1) := gdX6_canBeYes_0.2.2.2.1
theorem dX6_canBeYes_4 : decode cX6_canBeYes 4 = .ok (.getfield 35, 3) := gdX6_canBeYes_0.2.2.2.2.1
theorem dX6_canBeYes_7 : decode cX6_canBeYes 7 = .ok (.getfield 43, 3) := gdX6_canBeYes_0.2.2.2.2.2.1
theorem dX6_canBeYes_10 : decode cX6_canBeYes 10 = .ok (.iconst 1, 1) := gdX6_canBeYes_0.2.2.2.2.2.2.1
theorem dX6_canBeYes_11 : decode cX6_canBeYes 11 = .ok (.iaload, 1) := gdX6_canBeYes_0.2.2.2.2.2.2.2.1
theorem dX6_canBeYes_12 : decode cX6_canBeYes 12 = .ok (.if_icmp .ge 20, 3) := gdX6_canBeYes_0.2.2.2.2.2.2.2.2.1
theorem dX6_canBeYes_32 : decode cX6_canBeYes 32 = .ok (.iconst 0, 1) := gdX6_canBeYes_0.2.2.2.2.2.2.2.2.2.1
theorem dX6_canBeYes_33 : decode cX6_canBeYes 33 = .ok (.ireturn, 1) := gdX6_canBeYes_0.2.2.2.2.2.2.2.2.2.2.1
theorem dX6_canBeYes_15 : decode cX6_canBeYes 15 = .ok (.aload_n 0, 1) := gdX6_canBeYes_0.2.2.2.2.2.2.2.2.2.2.2
theorem gdX6_canBeYes_16 : decode cX6_canBeYes 16 = .ok (.iload_n 2, 1) ∧ decode cX6_canBeYes 17 = .ok (.iload_n 1, 1) ∧ decode cX6_canBeYes 18 = .ok (.invokevirtual 90, 3) := by decide +kernel
theorem dX6_canBeYes_16 : decode cX6_canBeYes 16 = .ok (.iload_n 2, 1) := gdX6_canBeYes_16.1
theorem dX6_canBeYes_17 : decode cX6_canBeYes 17 = .ok (.iload_n 1, 1) := gdX6_canBeYes_16.2.1
theorem dX6_canBeYes_18 : decode cX6_canBeYes 18 = .ok (.invokevirtual 90, 3) := gdX6_canBeYes_16.2.2
theorem k_X6_90 : xV RX6 RX6 90 yX6_canBeYesBy cX6_canBeYesBy 11 (some .boolean) 2 := ⟨⟨m_1257, m_1259, m_51, m_144, m_1260⟩, rfl, by decide, by decide, by decide +kernel⟩
theorem gdX6_canBeYes_21 : decode cX6_canBeYes 21 = .ok (.ifCond .eq 5, 3) ∧ decode cX6_canBeYes 26 = .ok (.iinc 2 1, 3) ∧ decode cX6_canBeYes 29 = .ok (.goto (-27), 3) ∧ decode cX6_canBeYes 24 = .ok (.iconst 1, 1) ∧ decode cX6_canBeYes 25 = .ok (.ireturn, 1) := by decide +kernel
theorem dX6_canBeYes_21 : decode cX6_canBeYes 21 = .ok (.ifCond .eq 5, 3) := gdX6_canBeYes_21.1
theorem dX6_canBeYes_26 : decode cX6_canBeYes 26 = .ok (.iinc 2 1, 3) := gdX6_canBeYes_21.2.1
theorem dX6_canBeYes_29 : decode cX6_canBeYes 29 = .ok (.goto (-27), 3) := gdX6_canBeYes_21.2.2.1
theorem dX6_canBeYes_24 : decode cX6_canBeYes 24 = .ok (.iconst 1, 1) := gdX6_canBeYes_21.2.2.2.1
theorem dX6_canBeYes_25 : decode cX6_canBeYes 25 = .ok (.ireturn, 1) := gdX6_canBeYes_21.2.2.2.2
set_option maxHeartbeats 1000000 in
set_option maxRecDepth 100000 in
theorem s_canBeYes (l : Launch) (D : va_G) (cy : Nat → ClassId) (p0 : Nat) (p1 : Nat) (p2 : Nat) (p3 : Nat) (p4 : Nat) (er : Nat) (ro : Nat) (ch : Nat) (fne : Nat → Int32) (fqi : Nat → Int32) (h0 : Nat) (h1 : Nat) (h2 : Nat) (h3 : Nat) (h4 : Nat) (h5 : Nat) (h6 : Nat) (h7 : Nat) (h8 : Nat) (h9 : Nat) (h10 : Nat) (h11 : Nat) (hv1 : Value) (hv2 : Value) (hv3 : Value) (hv4 : Value) (ys : Int32) (fc : Nat → Int32) (c0 : Nat) (c1 : Nat) (c2 : Nat) (c3 : Nat) (fx : Nat → Int32) (s0 : Nat) (s1 : Nat) (s2 : Nat) (sl : Nat) (spl : Int32) (svo : Int32) (swi : Int32) (sch : Int32) (fw : Nat → Int32) (ea : Nat → Nat) (eg : Nat → Nat) (ef : Nat → Nat) (et : Nat → Int32) (el : Nat → Nat) (ei : Nat → Nat) (gc : Nat → Nat → Int32) (xc : Nat → Nat → Int32) (cg : Int32) (hne : nOK fne c1) (hcn : cntOK fc c0 c1 c2 c3) (hc0 : c0 ≤ 8) (hc1 : c1 ≤ 4) (hc2 : c2 ≤ 4) (hc3 : c3 ≤ 6) (hnx : rng fx 48 5) (hel : ∀ i9, i9 < 4 → el i9 ≤ 10) (hes : ∀ i9, i9 < c1 → el i9 = sl) (hsl : sl ≤ 10) (hsw : rng fw 10 7) (hqu : ∀ rk9 i9 w9 : Nat, rk9 < c1 → i9 < sl → w9 < 8 → bt (fqi (rk9 * 10 + i9)) w9 = alF (quQ gc fne i9 w9) rk9) : XMi l D (tyL cy) E0 yX6_canBeYes cX6_canBeYes 3 (some .boolean) (rmk 2 0 0) [.ref p0, .int cg] [wO p0 6 [.ref p1, .ref er, .ref ro, .ref p2, .ref p3, .ref p4, .ref h0, .ref s0, .int (nI ch)], wI (cy 1) p3 4 (fne), wI (cy 1) p4 40 (fqi), wO h0 4 [.ref h1, .ref h2, .ref h3, .ref h4, .ref h5, .ref h6, .ref h7, .ref h8, .ref h9, .ref h10, .ref h11, .int ys, hv1, hv2, hv3, hv4], wI (cy 1) h1 4 (fc), wI (cy 1) h7 48 (fx), wO s0 7 [.ref s1, .ref s2, .int (nI sl), .int spl, .int svo, .int swi, .int sch], wI (cy 1) s1 10 (fw), (er, .inl (cy 4, 4, .inr (.inr (.inr (.inr (eF (ea 0) (ea 1) (ea 2) (ea 3))))))), wO (ea 0) 2 [.ref (eg 0), .ref (ef 0), .int (et 0), .int (nI (el 0)), .int (nI (ei 0))], wI (cy 1) (eg 0) 10 (gc 0), wI (cy 1) (ef 0) 7 (xc 0), wO (ea 1) 2 [.ref (eg 1), .ref (ef 1), .int (et 1), .int (nI (el 1)), .int (nI (ei 1))], wI (cy 1) (eg 1) 10 (gc 1), wI (cy 1) (ef 1) 7 (xc 1), wO (ea 2) 2 [.ref (eg 2), .ref (ef 2), .int (et 2), .int (nI (el 2)), .int (nI (ei 2))], wI (cy 1) (eg 2) 10 (gc 2), wI (cy 1) (ef 2) 7 (xc 2), wO (ea 3) 2 [.ref (eg 3), .ref (ef 3), .int (et 3), .int (nI (el 3)), .int (nI (ei 3))], wI (cy 1) (eg 3) 10 (gc 3), wI (cy 1) (ef 3) 7 (xc 3)] (fun (r : Int32) (_ : Unit) => (r = 0 ∨ r = 1) ∧ (okW c0 fw sl → (r = 1 ↔ (∃ k9, k9 < c1 ∧ byY fx (gc (fne k9).toNatClampNeg) ys (mvB c0 fw cg gc fne k9) (plS (et (fne k9).toNatClampNeg) sl) c0 sl)))) (fun (_ : Unit) => [wO p0 6 [.ref p1, .ref er, .ref ro, .ref p2, .ref p3, .ref p4, .ref h0, .ref s0, .int (nI ch)], wI (cy 1) p3 4 (fne), wI (cy 1) p4 40 (fqi), wO h0 4 [.ref h1, .ref h2, .ref h3, .ref h4, .ref h5, .ref h6, .ref h7, .ref h8, .ref h9, .ref h10, .ref h11, .int ys, hv1, hv2, hv3, hv4], wI (cy 1) h1 4 (fc), wI (cy 1) h7 48 (fx), wO s0 7 [.ref s1, .ref s2, .int (nI sl), .int spl, .int svo, .int swi, .int sch], wI (cy 1) s1 10 (fw), (er, .inl (cy 4, 4, .inr (.inr (.inr (.inr (eF (ea 0) (ea 1) (ea 2) (ea 3))))))), wO (ea 0) 2 [.ref (eg 0), .ref (ef 0), .int (et 0), .int (nI (el 0)), .int (nI (ei 0))], wI (cy 1) (eg 0) 10 (gc 0), wI (cy 1) (ef 0) 7 (xc 0), wO (ea 1) 2 [.ref (eg 1), .ref (ef 1), .int (et 1), .int (nI (el 1)), .int (nI (ei 1))], wI (cy 1) (eg 1) 10 (gc 1), wI (cy 1) (ef 1) 7 (xc 1), wO (ea 2) 2 [.ref (eg 2), .ref (ef 2), .int (et 2), .int (nI (el 2)), .int (nI (ei 2))], wI (cy 1) (eg 2) 10 (gc 2), wI (cy 1) (ef 2) 7 (xc 2), wO (ea 3) 2 [.ref (eg 3), .ref (ef 3), .int (et 3), .int (nI (el 3)), .int (nI (ei 3))], wI (cy 1) (eg 3) 10 (gc 3), wI (cy 1) (ef 3) 7 (xc 3)]) := by
  refine XMi.start (by decide) (Nat.le_of_ble_eq_true rfl) ?_
  intro p e s m below meth c args A ls Q hat hQ
  obtain ⟨hx, hb, hr, hml, hown, hg, hlocks, hin, hK, hA, hP, hD, hS, hE, hl⟩ := hat
  have hown : s.vm.findClass RX6 = some m.cls := hown
  have hl : lv_has ls 3 [(0, .ref p0), (1, .int cg)] := hl
  have hk_1 := hel 0 (by decide)
  have hk_2 := hel 1 (by decide)
  have hk_3 := hel 2 (by decide)
  have hk_4 := hel 3 (by decide)
  refine lv_iconst (v := 0) hx hb dX6_canBeYes_0 (by decide) ?_
  refine lv_istore_n (lv' := [(2, .int 0), (0, .ref p0), (1, .int cg)]) hx hb dX6_canBeYes_1 rfl hl (by decide) rfl (fun ls hl => ?_)
  have loop5 : ∀ (zn : Nat) (i5 : Nat), (i5 ≤ c1) → (okW c0 fw sl → ∀ k9, k9 < i5 → ¬ byY fx (gc (fne k9).toNatClampNeg) ys (mvB c0 fw cg gc fne k9) (plS (et (fne k9).toNatClampNeg) sl) c0 sl) → c1 - i5 + 1 ≤ zn → ∀ (H : Heap) (locs : List Loc), va_P D vwCl [wO p0 6 [.ref p1, .ref er, .ref ro, .ref p2, .ref p3, .ref p4, .ref h0, .ref s0, .int (nI ch)], wI (cy 1) p3 4 (fne), wI (cy 1) p4 40 (fqi), wO h0 4 [.ref h1, .ref h2, .ref h3, .ref h4, .ref h5, .ref h6, .ref h7, .ref h8, .ref h9, .ref h10, .ref h11, .int ys, hv1, hv2, hv3, hv4], wI (cy 1) h1 4 (fc), wI (cy 1) h7 48 (fx), wO s0 7 [.ref s1, .ref s2, .int (nI sl), .int spl, .int svo, .int swi, .int sch], wI (cy 1) s1 10 (fw), (er, .inl (cy 4, 4, .inr (.inr (.inr (.inr (eF (ea 0) (ea 1) (ea 2) (ea 3))))))), wO (ea 0) 2 [.ref (eg 0), .ref (ef 0), .int (et 0), .int (nI (el 0)), .int (nI (ei 0))], wI (cy 1) (eg 0) 10 (gc 0), wI (cy 1) (ef 0) 7 (xc 0), wO (ea 1) 2 [.ref (eg 1), .ref (ef 1), .int (et 1), .int (nI (el 1)), .int (nI (ei 1))], wI (cy 1) (eg 1) 10 (gc 1), wI (cy 1) (ef 1) 7 (xc 1), wO (ea 2) 2 [.ref (eg 2), .ref (ef 2), .int (et 2), .int (nI (el 2)), .int (nI (ei 2))], wI (cy 1) (eg 2) 10 (gc 2), wI (cy 1) (ef 2) 7 (xc 2), wO (ea 3) 2 [.ref (eg 3), .ref (ef 3), .int (et 3), .int (nI (el 3)), .int (nI (ei 3))], wI (cy 1) (eg 3) 10 (gc 3), wI (cy 1) (ef 3) 7 (xc 3)] H → va_D A [wO p0 6 [.ref p1, .ref er, .ref ro, .ref p2, .ref p3, .ref p4, .ref h0, .ref s0, .int (nI ch)], wI (cy 1) p3 4 (fne), wI (cy 1) p4 40 (fqi), wO h0 4 [.ref h1, .ref h2, .ref h3, .ref h4, .ref h5, .ref h6, .ref h7, .ref h8, .ref h9, .ref h10, .ref h11, .int ys, hv1, hv2, hv3, hv4], wI (cy 1) h1 4 (fc), wI (cy 1) h7 48 (fx), wO s0 7 [.ref s1, .ref s2, .int (nI sl), .int spl, .int svo, .int swi, .int sch], wI (cy 1) s1 10 (fw), (er, .inl (cy 4, 4, .inr (.inr (.inr (.inr (eF (ea 0) (ea 1) (ea 2) (ea 3))))))), wO (ea 0) 2 [.ref (eg 0), .ref (ef 0), .int (et 0), .int (nI (el 0)), .int (nI (ei 0))], wI (cy 1) (eg 0) 10 (gc 0), wI (cy 1) (ef 0) 7 (xc 0), wO (ea 1) 2 [.ref (eg 1), .ref (ef 1), .int (et 1), .int (nI (el 1)), .int (nI (ei 1))], wI (cy 1) (eg 1) 10 (gc 1), wI (cy 1) (ef 1) 7 (xc 1), wO (ea 2) 2 [.ref (eg 2), .ref (ef 2), .int (et 2), .int (nI (el 2)), .int (nI (ei 2))], wI (cy 1) (eg 2) 10 (gc 2), wI (cy 1) (ef 2) 7 (xc 2), wO (ea 3) 2 [.ref (eg 3), .ref (ef 3), .int (et 3), .int (nI (el 3)), .int (nI (ei 3))], wI (cy 1) (eg 3) 10 (gc 3), wI (cy 1) (ef 3) 7 (xc 3)] → va_S A s.heap H locs → ∀ ls : Array Slot, lv_has ls 3 [(2, .int (nI i5)), (0, .ref p0), (1, .int cg)] → W p l e (rmk 2 0 0) s m args below meth c H locs 0 0 Q (F0 m 2 ls []) := by
    try clear hP hD hS
    intro zn
    induction zn with
    | zero => intro i5 _ _ hz; exact absurd hz (by omega)
    | succ zn ih5 =>
      intro i5 hf0_5 hf1_5 hmu5 H locs hP hD hS ls hl
      refine lv_iload_n hx hb dX6_canBeYes_2 rfl (lv_at hl 0 rfl) ?_
      refine lv_aload_n hx hb dX6_canBeYes_3 rfl (lv_at hl 1 rfl) ?_
      refine va_get (D := D) (ci := 6) (v := .ref h0) (C := RX6) (T := TX6) (N := 9) hx hb hg i_X6 hown hK hP 0 rfl rfl 6 (by decide) (hg _ m_591) (fun _ h9 => h9) rfl dX6_canBeYes_4 ?_
      refine va_get (D := D) (ci := 4) (v := .ref h1) (C := RX4) (T := TX4) (N := 16) hx hb hg i_X4 hown hK hP 3 rfl rfl 0 (by decide) (hg _ m_330) (fun _ h9 => h9) rfl dX6_canBeYes_7 ?_
      refine lv_iconst (v := 1) hx hb dX6_canBeYes_10 (by decide) ?_
      refine va_iald hx hb hK hP 4 1 rfl rfl (by unfold vp_in; decide) dX6_canBeYes_11 ?_
      refine lv_topi (fun y_6 hy_6 => ?_)
      obtain rfl : y_6 = nI c1 := hy_6.trans hcn.2.1
      refine lv_icmp_ge (tgt := 32) hx hb dX6_canBeYes_12 (by decide) (fun c_7 => ?_) (fun c_7 => ?_)
      · have q_8 : c1 ≤ i5 := q_le (a := c1) (b := i5) rfl rfl (by omega) (by omega) c_7
        refine lv_iconst (v := 0) hx hb dX6_canBeYes_32 (by decide) ?_
        exact x_zret hQ hx hb hr hlocks hK hP hD hS rfl dX6_canBeYes_33 () (⟨(Or.inl rfl), (fun hok9 => by_r0 (fun ⟨k9, h8, h9⟩ => hf1_5 hok9 k9 (by omega) h9))⟩) [0, 1, 2, 3, 4, 5, 6, 7, 8, 9, 10, 11, 12, 13, 14, 15, 16, 17, 18, 19, 20] (by decide +kernel) rfl (Nat.le_of_ble_eq_true rfl) (Nat.le_of_ble_eq_true rfl)
      · have q_8 : i5 < c1 := q_nle (a := c1) (b := i5) rfl rfl (by omega) (by omega) c_7
        refine lv_aload_n hx hb dX6_canBeYes_15 rfl (lv_at hl 1 rfl) ?_
        refine lv_iload_n hx hb dX6_canBeYes_16 rfl (lv_at hl 0 rfl) ?_
        refine lv_iload_n hx hb dX6_canBeYes_17 rfl (lv_at hl 2 rfl) ?_
        refine x_callVi (q := (RX6, TX6, 9)) (ci := 6) (q0 := 0) (wr := []) (rest := []) ⟨hx, hb, hml, hown, hg, hl.1⟩ k_X6_90 (s_canBeYesBy l D cy p0 p1 p2 p3 p4 er ro ch fne fqi h0 h1 h2 h3 h4 h5 h6 h7 h8 h9 h10 h11 hv1 hv2 hv3 hv4 ys fc c0 c1 c2 c3 fx s0 s1 s2 sl spl svo swi sch fw ea eg ef et el ei gc xc i5 cg (hne) (hcn) (by omega) (by omega) (by omega) (by omega) (hnx) (fun i9 h9 => by rcases (show i9 = 0 ∨ i9 = 1 ∨ i9 = 2 ∨ i9 = 3 by omega) with rfl | rfl | rfl | rfl <;> omega) (hes) (by omega) (hsw) (by omega) (hqu)) E0_blind hK hP hD hS hA [0, 1, 2, 3, 4, 5, 6, 7, 8, 9, 10, 11, 12, 13, 14, 15, 16, 17, 18, 19, 20] [] ⟨rfl, rfl, by decide +kernel, by decide +kernel, by decide +kernel⟩ rfl rfl (fun _ _ _ => trivial) dX6_canBeYes_18 rfl rfl (Nat.le_of_ble_eq_true rfl) ⟨Nat.le_of_ble_eq_true rfl, Nat.le_of_ble_eq_true rfl⟩ ⟨Nat.le_of_ble_eq_true rfl, Nat.le_of_ble_eq_true rfl⟩ (fun zr9 zu9 H locs hw9 hP9 hD9 hS9 => ?_)
        clear hP hD hS
        refine reW [wO p0 6 [.ref p1, .ref er, .ref ro, .ref p2, .ref p3, .ref p4, .ref h0, .ref s0, .int (nI ch)], wI (cy 1) p3 4 (fne), wI (cy 1) p4 40 (fqi), wO h0 4 [.ref h1, .ref h2, .ref h3, .ref h4, .ref h5, .ref h6, .ref h7, .ref h8, .ref h9, .ref h10, .ref h11, .int ys, hv1, hv2, hv3, hv4], wI (cy 1) h1 4 (fc), wI (cy 1) h7 48 (fx), wO s0 7 [.ref s1, .ref s2, .int (nI sl), .int spl, .int svo, .int swi, .int sch], wI (cy 1) s1 10 (fw), (er, .inl (cy 4, 4, .inr (.inr (.inr (.inr (eF (ea 0) (ea 1) (ea 2) (ea 3))))))), wO (ea 0) 2 [.ref (eg 0), .ref (ef 0), .int (et 0), .int (nI (el 0)), .int (nI (ei 0))], wI (cy 1) (eg 0) 10 (gc 0), wI (cy 1) (ef 0) 7 (xc 0), wO (ea 1) 2 [.ref (eg 1), .ref (ef 1), .int (et 1), .int (nI (el 1)), .int (nI (ei 1))], wI (cy 1) (eg 1) 10 (gc 1), wI (cy 1) (ef 1) 7 (xc 1), wO (ea 2) 2 [.ref (eg 2), .ref (ef 2), .int (et 2), .int (nI (el 2)), .int (nI (ei 2))], wI (cy 1) (eg 2) 10 (gc 2), wI (cy 1) (ef 2) 7 (xc 2), wO (ea 3) 2 [.ref (eg 3), .ref (ef 3), .int (et 3), .int (nI (el 3)), .int (nI (ei 3))], wI (cy 1) (eg 3) 10 (gc 3), wI (cy 1) (ef 3) 7 (xc 3)] hP9 hD9 hS9 (fun hP hD hS => ?_)
        clear hP9 hD9 hS9
        refine W.widen (k := 0) (n := 0) (Nat.le_of_ble_eq_true rfl) (Nat.le_of_ble_eq_true rfl) ?_
        replace hw9 : (zr9 = 0 ∨ zr9 = 1) ∧ (okW c0 fw sl → (zr9 = 1 ↔ byY fx (gc (fne i5).toNatClampNeg) ys (mvB c0 fw cg gc fne i5) (plS (et (fne i5).toNatClampNeg) sl) c0 sl)) := hw9
        obtain ⟨f_10, f_11⟩ := hw9
        refine lv_if_eq (tgt := 26) hx hb dX6_canBeYes_21 (by decide) (fun c_21 => ?_) (fun c_21 => ?_)
        · refine lv_iinc (v := nI (i5 + 1)) (lv' := [(2, .int (nI (i5 + 1))), (0, .ref p0), (1, .int cg)]) hx hb dX6_canBeYes_26 hl (k := 0) rfl (nI_add i5 1) (by decide) rfl (fun ls hl => ?_)
          refine lv_goto (tgt := 2) hx hb dX6_canBeYes_29 (by decide) ?_
          exact ih5  ((i5 + 1)) (by omega) (ny_s (P := fun k9 => byY fx (gc (fne k9).toNatClampNeg) ys (mvB c0 fw cg gc fne k9) (plS (et (fne k9).toNatClampNeg) sl) c0 sl) hf1_5 f_11 c_21) (by omega) _ _ (hP.sub [0, 1, 2, 3, 4, 5, 6, 7, 8, 9, 10, 11, 12, 13, 14, 15, 16, 17, 18, 19, 20] rfl) (hD.sub [0, 1, 2, 3, 4, 5, 6, 7, 8, 9, 10, 11, 12, 13, 14, 15, 16, 17, 18, 19, 20] (by decide +kernel) rfl) hS ls (lv_sub hl [0, 1, 2] rfl)
        · refine lv_iconst (v := 1) hx hb dX6_canBeYes_24 (by decide) ?_
          exact x_zret hQ hx hb hr hlocks hK hP hD hS rfl dX6_canBeYes_25 () (⟨(Or.inr rfl), (fun hok9 => by_r1 ⟨i5, by omega, (f_11 hok9).mp (f_10.resolve_left c_21)⟩)⟩) [0, 1, 2, 3, 4, 5, 6, 7, 8, 9, 10, 11, 12, 13, 14, 15, 16, 17, 18, 19, 20] (by decide +kernel) rfl (Nat.le_of_ble_eq_true rfl) (Nat.le_of_ble_eq_true rfl)
  exact loop5 _ 0 (by omega) (fun _ k9 h9 => absurd h9 (Nat.not_lt_zero k9)) (Nat.le_refl _) _ _ (hP.sub [0, 1, 2, 3, 4, 5, 6, 7, 8, 9, 10, 11, 12, 13, 14, 15, 16, 17, 18, 19, 20] rfl) (hD.sub [0, 1, 2, 3, 4, 5, 6, 7, 8, 9, 10, 11, 12, 13, 14, 15, 16, 17, 18, 19, 20] (by decide +kernel) rfl) hS ls (lv_sub hl [0, 1, 2] rfl)
theorem gdX6_choosePlaces_0 : decode cX6_choosePlaces 0 = .ok (.iload_n 1, 1) ∧ decode cX6_choosePlaces 1 = .ok (.aload_n 0, 1) ∧ decode cX6_choosePlaces 2 = .ok (.getfield 66, 3) ∧ decode cX6_choosePlaces 5 = .ok (.if_icmp .ge 8, 3) ∧ decode cX6_choosePlaces 13 = .ok (.aload_n 0, 1) ∧ decode cX6_choosePlaces 14 = .ok (.iload_n 3, 1) ∧ decode cX6_choosePlaces 15 = .ok (.invokevirtual 87, 3) := by decide +kernel
theorem dX6_choosePlaces_0 : decode cX6_choosePlaces 0 = .ok (.iload_n 1, 1) := gdX6_choosePlaces_0.1
theorem dX6_choosePlaces_1 : decode cX6_choosePlaces 1 = .ok (.aload_n 0, 1) := gdX6_choosePlaces_0.2.1
theorem dX6_choosePlaces_2 : decode cX6_choosePlaces 2 = .ok (.getfield 66, 3) := gdX6_choosePlaces_0.2.2.1
theorem dX6_choosePlaces_5 : decode cX6_choosePlaces 5 = .ok (.if_icmp .ge 8, 3) := gdX6_choosePlaces_0.2.2.2.1
theorem dX6_choosePlaces_13 : decode cX6_choosePlaces 13 = .ok (.aload_n 0, 1) := gdX6_choosePlaces_0.2.2.2.2.1
theorem dX6_choosePlaces_14 : decode cX6_choosePlaces 14 = .ok (.iload_n 3, 1) := gdX6_choosePlaces_0.2.2.2.2.2.1
theorem dX6_choosePlaces_15 : decode cX6_choosePlaces 15 = .ok (.invokevirtual 87, 3) := gdX6_choosePlaces_0.2.2.2.2.2.2
theorem k_X6_87 : xV RX6 RX6 87 yX6_canBeYes cX6_canBeYes 3 (some .boolean) 1 := ⟨⟨m_1253, m_1255, m_50, m_144, m_1256⟩, rfl, by decide, by decide, by decide +kernel⟩
theorem gdX6_choosePlaces_18 : decode cX6_choosePlaces 18 = .ok (.ireturn, 1) ∧ decode cX6_choosePlaces 8 = .ok (.iload_n 1, 1) ∧ decode cX6_choosePlaces 9 = .ok (.iconst 3, 1) ∧ decode cX6_choosePlaces 10 = .ok (.if_icmp .lt 9, 3) := by decide +kernel
theorem dX6_choosePlaces_18 : decode cX6_choosePlaces 18 = .ok (.ireturn, 1) := gdX6_choosePlaces_18.1
theorem dX6_choosePlaces_8 : decode cX6_choosePlaces 8 = .ok (.iload_n 1, 1) := gdX6_choosePlaces_18.2.1
theorem dX6_choosePlaces_9 : decode cX6_choosePlaces 9 = .ok (.iconst 3, 1) := gdX6_choosePlaces_18.2.2.1
theorem dX6_choosePlaces_10 : decode cX6_choosePlaces 10 = .ok (.if_icmp .lt 9, 3) := gdX6_choosePlaces_18.2.2.2
set_option maxHeartbeats 1000000 in
set_option maxRecDepth 100000 in
theorem s_choosePlaces3 (l : Launch) (D : va_G) (cy : Nat → ClassId) (p0 : Nat) (p1 : Nat) (p2 : Nat) (p3 : Nat) (p4 : Nat) (er : Nat) (ro : Nat) (ch : Nat) (fne : Nat → Int32) (fqi : Nat → Int32) (fpc : Nat → Int32) (h0 : Nat) (h1 : Nat) (h2 : Nat) (h3 : Nat) (h4 : Nat) (h5 : Nat) (h6 : Nat) (h7 : Nat) (h8 : Nat) (h9 : Nat) (h10 : Nat) (h11 : Nat) (hv1 : Value) (hv2 : Value) (hv3 : Value) (hv4 : Value) (ys : Int32) (fc : Nat → Int32) (c0 : Nat) (c1 : Nat) (c2 : Nat) (c3 : Nat) (fx : Nat → Int32) (s0 : Nat) (s1 : Nat) (s2 : Nat) (sl : Nat) (spl : Int32) (svo : Int32) (swi : Int32) (sch : Int32) (fw : Nat → Int32) (ea : Nat → Nat) (eg : Nat → Nat) (ef : Nat → Nat) (et : Nat → Int32) (el : Nat → Nat) (ei : Nat → Nat) (gc : Nat → Nat → Int32) (xc : Nat → Nat → Int32) (fm : Nat) (cg : Int32) (hne : nOK fne c1) (hpc : rng fpc 3 9) (hch : ch ≤ 3) (hcn : cntOK fc c0 c1 c2 c3) (hc0 : c0 ≤ 8) (hc1 : c1 ≤ 4) (hc2 : c2 ≤ 4) (hc3 : c3 ≤ 6) (hnx : rng fx 48 5) (hel : ∀ i9, i9 < 4 → el i9 ≤ 10) (hes : ∀ i9, i9 < c1 → el i9 = sl) (hsl : sl ≤ 10) (hsw : rng fw 10 7) (hfm : fm ≤ 10) (hqu : ∀ rk9 i9 w9 : Nat, rk9 < c1 → i9 < sl → w9 < 8 → bt (fqi (rk9 * 10 + i9)) w9 = alF (quQ gc fne i9 w9) rk9) : XMi l D (tyL cy) E0 yX6_choosePlaces cX6_choosePlaces 5 (some .boolean) (rmk 4 0 0) [.ref p0, .int 3, .int (nI fm), .int cg] [wO p0 6 [.ref p1, .ref er, .ref ro, .ref p2, .ref p3, .ref p4, .ref h0, .ref s0, .int (nI ch)], wI (cy 1) p3 4 (fne), wI (cy 1) p4 40 (fqi), wI (cy 1) p2 3 (fpc), wO h0 4 [.ref h1, .ref h2, .ref h3, .ref h4, .ref h5, .ref h6, .ref h7, .ref h8, .ref h9, .ref h10, .ref h11, .int ys, hv1, hv2, hv3, hv4], wI (cy 1) h1 4 (fc), wI (cy 1) h7 48 (fx), wO s0 7 [.ref s1, .ref s2, .int (nI sl), .int spl, .int svo, .int swi, .int sch], wI (cy 1) s1 10 (fw), (er, .inl (cy 4, 4, .inr (.inr (.inr (.inr (eF (ea 0) (ea 1) (ea 2) (ea 3))))))), wO (ea 0) 2 [.ref (eg 0), .ref (ef 0), .int (et 0), .int (nI (el 0)), .int (nI (ei 0))], wI (cy 1) (eg 0) 10 (gc 0), wI (cy 1) (ef 0) 7 (xc 0), wO (ea 1) 2 [.ref (eg 1), .ref (ef 1), .int (et 1), .int (nI (el 1)), .int (nI (ei 1))], wI (cy 1) (eg 1) 10 (gc 1), wI (cy 1) (ef 1) 7 (xc 1), wO (ea 2) 2 [.ref (eg 2), .ref (ef 2), .int (et 2), .int (nI (el 2)), .int (nI (ei 2))], wI (cy 1) (eg 2) 10 (gc 2), wI (cy 1) (ef 2) 7 (xc 2), wO (ea 3) 2 [.ref (eg 3), .ref (ef 3), .int (et 3), .int (nI (el 3)), .int (nI (ei 3))], wI (cy 1) (eg 3) 10 (gc 3), wI (cy 1) (ef 3) 7 (xc 3)] (fun (r : Int32) (fpc2 : Nat → Int32) => (r = 0 ∨ r = 1) ∧ (rng fpc2 3 9) ∧ (okW c0 fw sl → (r = 1 ↔ cpP (fun c9 => (∃ k9, k9 < c1 ∧ byY fx (gc (fne k9).toNatClampNeg) ys (mvB c0 fw c9 gc fne k9) (plS (et (fne k9).toNatClampNeg) sl) c0 sl)) sl (ch - 3) fm cg))) (fun (fpc2 : Nat → Int32) => [wO p0 6 [.ref p1, .ref er, .ref ro, .ref p2, .ref p3, .ref p4, .ref h0, .ref s0, .int (nI ch)], wI (cy 1) p3 4 (fne), wI (cy 1) p4 40 (fqi), wI (cy 1) p2 3 (fpc2), wO h0 4 [.ref h1, .ref h2, .ref h3, .ref h4, .ref h5, .ref h6, .ref h7, .ref h8, .ref h9, .ref h10, .ref h11, .int ys, hv1, hv2, hv3, hv4], wI (cy 1) h1 4 (fc), wI (cy 1) h7 48 (fx), wO s0 7 [.ref s1, .ref s2, .int (nI sl), .int spl, .int svo, .int swi, .int sch], wI (cy 1) s1 10 (fw), (er, .inl (cy 4, 4, .inr (.inr (.inr (.inr (eF (ea 0) (ea 1) (ea 2) (ea 3))))))), wO (ea 0) 2 [.ref (eg 0), .ref (ef 0), .int (et 0), .int (nI (el 0)), .int (nI (ei 0))], wI (cy 1) (eg 0) 10 (gc 0), wI (cy 1) (ef 0) 7 (xc 0), wO (ea 1) 2 [.ref (eg 1), .ref (ef 1), .int (et 1), .int (nI (el 1)), .int (nI (ei 1))], wI (cy 1) (eg 1) 10 (gc 1), wI (cy 1) (ef 1) 7 (xc 1), wO (ea 2) 2 [.ref (eg 2), .ref (ef 2), .int (et 2), .int (nI (el 2)), .int (nI (ei 2))], wI (cy 1) (eg 2) 10 (gc 2), wI (cy 1) (ef 2) 7 (xc 2), wO (ea 3) 2 [.ref (eg 3), .ref (ef 3), .int (et 3), .int (nI (el 3)), .int (nI (ei 3))], wI (cy 1) (eg 3) 10 (gc 3), wI (cy 1) (ef 3) 7 (xc 3)]) := by
  refine XMi.start (by decide) (Nat.le_of_ble_eq_true rfl) ?_
  intro p e s m below meth c args A ls Q hat hQ
  obtain ⟨hx, hb, hr, hml, hown, hg, hlocks, hin, hK, hA, hP, hD, hS, hE, hl⟩ := hat
  have hown : s.vm.findClass RX6 = some m.cls := hown
  have hl : lv_has ls 5 [(0, .ref p0), (1, .int 3), (2, .int (nI fm)), (3, .int cg)] := hl
  have hk_1 := hel 0 (by decide)
  have hk_2 := hel 1 (by decide)
  have hk_3 := hel 2 (by decide)
  have hk_4 := hel 3 (by decide)
  refine lv_iload_n hx hb dX6_choosePlaces_0 rfl (lv_at hl 1 rfl) ?_
  refine lv_aload_n hx hb dX6_choosePlaces_1 rfl (lv_at hl 0 rfl) ?_
  refine va_get (D := D) (ci := 6) (v := .int (nI ch)) (C := RX6) (T := TX6) (N := 9) hx hb hg i_X6 hown hK hP 0 rfl rfl 8 (by decide) (hg _ m_593) (fun _ h9 => h9) rfl dX6_choosePlaces_2 ?_
  refine lv_icmp_ge (tgt := 13) hx hb dX6_choosePlaces_5 (by decide) (fun c_5 => ?_) (fun c_5 => ?_)
  · have q_6 : ch ≤ 3 := q_le (a := ch) (b := 3) rfl rfl (by omega) (by omega) c_5
    refine lv_aload_n hx hb dX6_choosePlaces_13 rfl (lv_at hl 0 rfl) ?_
    refine lv_iload_n hx hb dX6_choosePlaces_14 rfl (lv_at hl 3 rfl) ?_
    refine x_callVi (q := (RX6, TX6, 9)) (ci := 6) (q0 := 0) (wr := [wI (cy 1) p2 3 (fpc)]) (rest := []) ⟨hx, hb, hml, hown, hg, hl.1⟩ k_X6_87 (s_canBeYes l D cy p0 p1 p2 p3 p4 er ro ch fne fqi h0 h1 h2 h3 h4 h5 h6 h7 h8 h9 h10 h11 hv1 hv2 hv3 hv4 ys fc c0 c1 c2 c3 fx s0 s1 s2 sl spl svo swi sch fw ea eg ef et el ei gc xc cg (hne) (hcn) (by omega) (by omega) (by omega) (by omega) (hnx) (fun i9 h9 => by rcases (show i9 = 0 ∨ i9 = 1 ∨ i9 = 2 ∨ i9 = 3 by omega) with rfl | rfl | rfl | rfl <;> omega) (hes) (by omega) (hsw) (hqu)) E0_blind hK hP hD hS hA [0, 1, 2, 4, 5, 6, 7, 8, 9, 10, 11, 12, 13, 14, 15, 16, 17, 18, 19, 20, 21] [3] ⟨rfl, rfl, by decide +kernel, by decide +kernel, by decide +kernel⟩ rfl rfl (fun _ _ _ => trivial) dX6_choosePlaces_15 rfl rfl (Nat.le_of_ble_eq_true rfl) ⟨Nat.le_of_ble_eq_true rfl, Nat.le_of_ble_eq_true rfl⟩ ⟨Nat.le_of_ble_eq_true rfl, Nat.le_of_ble_eq_true rfl⟩ (fun zr7 zu7 H locs hw7 hP9 hD9 hS9 => ?_)
    clear hP hD hS
    refine reW [wI (cy 1) p2 3 (fpc), wO p0 6 [.ref p1, .ref er, .ref ro, .ref p2, .ref p3, .ref p4, .ref h0, .ref s0, .int (nI ch)], wI (cy 1) p3 4 (fne), wI (cy 1) p4 40 (fqi), wO h0 4 [.ref h1, .ref h2, .ref h3, .ref h4, .ref h5, .ref h6, .ref h7, .ref h8, .ref h9, .ref h10, .ref h11, .int ys, hv1, hv2, hv3, hv4], wI (cy 1) h1 4 (fc), wI (cy 1) h7 48 (fx), wO s0 7 [.ref s1, .ref s2, .int (nI sl), .int spl, .int svo, .int swi, .int sch], wI (cy 1) s1 10 (fw), (er, .inl (cy 4, 4, .inr (.inr (.inr (.inr (eF (ea 0) (ea 1) (ea 2) (ea 3))))))), wO (ea 0) 2 [.ref (eg 0), .ref (ef 0), .int (et 0), .int (nI (el 0)), .int (nI (ei 0))], wI (cy 1) (eg 0) 10 (gc 0), wI (cy 1) (ef 0) 7 (xc 0), wO (ea 1) 2 [.ref (eg 1), .ref (ef 1), .int (et 1), .int (nI (el 1)), .int (nI (ei 1))], wI (cy 1) (eg 1) 10 (gc 1), wI (cy 1) (ef 1) 7 (xc 1), wO (ea 2) 2 [.ref (eg 2), .ref (ef 2), .int (et 2), .int (nI (el 2)), .int (nI (ei 2))], wI (cy 1) (eg 2) 10 (gc 2), wI (cy 1) (ef 2) 7 (xc 2), wO (ea 3) 2 [.ref (eg 3), .ref (ef 3), .int (et 3), .int (nI (el 3)), .int (nI (ei 3))], wI (cy 1) (eg 3) 10 (gc 3), wI (cy 1) (ef 3) 7 (xc 3)] hP9 hD9 hS9 (fun hP hD hS => ?_)
    clear hP9 hD9 hS9
    refine W.widen (k := 0) (n := 0) (Nat.le_of_ble_eq_true rfl) (Nat.le_of_ble_eq_true rfl) ?_
    replace hw7 : (zr7 = 0 ∨ zr7 = 1) ∧ (okW c0 fw sl → (zr7 = 1 ↔ (∃ k9, k9 < c1 ∧ byY fx (gc (fne k9).toNatClampNeg) ys (mvB c0 fw cg gc fne k9) (plS (et (fne k9).toNatClampNeg) sl) c0 sl))) := hw7
    obtain ⟨f_8, f_9⟩ := hw7
    exact x_zret hQ hx hb hr hlocks hK hP hD hS (narB f_8) dX6_choosePlaces_18 fpc (⟨f_8, hpc, cp_z (by omega) f_9⟩) [1, 2, 3, 0, 4, 5, 6, 7, 8, 9, 10, 11, 12, 13, 14, 15, 16, 17, 18, 19, 20, 21] (by decide +kernel) rfl (Nat.le_of_ble_eq_true rfl) (Nat.le_of_ble_eq_true rfl)
  · have q_6 : 3 < ch := q_nle (a := ch) (b := 3) rfl rfl (by omega) (by omega) c_5
    refine lv_iload_n hx hb dX6_choosePlaces_8 rfl (lv_at hl 1 rfl) ?_
    refine lv_iconst (v := 3) hx hb dX6_choosePlaces_9 (by decide) ?_
    refine lv_icmp_lt (tgt := 19) hx hb dX6_choosePlaces_10 (by decide) (fun h => absurd h (by decide)) (fun _ => ?_)
    refine lv_aload_n hx hb dX6_choosePlaces_13 rfl (lv_at hl 0 rfl) ?_
    refine lv_iload_n hx hb dX6_choosePlaces_14 rfl (lv_at hl 3 rfl) ?_
    refine x_callVi (q := (RX6, TX6, 9)) (ci := 6) (q0 := 0) (wr := [wI (cy 1) p2 3 (fpc)]) (rest := []) ⟨hx, hb, hml, hown, hg, hl.1⟩ k_X6_87 (s_canBeYes l D cy p0 p1 p2 p3 p4 er ro ch fne fqi h0 h1 h2 h3 h4 h5 h6 h7 h8 h9 h10 h11 hv1 hv2 hv3 hv4 ys fc c0 c1 c2 c3 fx s0 s1 s2 sl spl svo swi sch fw ea eg ef et el ei gc xc cg (hne) (hcn) (by omega) (by omega) (by omega) (by omega) (hnx) (fun i9 h9 => by rcases (show i9 = 0 ∨ i9 = 1 ∨ i9 = 2 ∨ i9 = 3 by omega) with rfl | rfl | rfl | rfl <;> omega) (hes) (by omega) (hsw) (hqu)) E0_blind hK hP hD hS hA [0, 1, 2, 4, 5, 6, 7, 8, 9, 10, 11, 12, 13, 14, 15, 16, 17, 18, 19, 20, 21] [3] ⟨rfl, rfl, by decide +kernel, by decide +kernel, by decide +kernel⟩ rfl rfl (fun _ _ _ => trivial) dX6_choosePlaces_15 rfl rfl (Nat.le_of_ble_eq_true rfl) ⟨Nat.le_of_ble_eq_true rfl, Nat.le_of_ble_eq_true rfl⟩ ⟨Nat.le_of_ble_eq_true rfl, Nat.le_of_ble_eq_true rfl⟩ (fun zr10 zu10 H locs hw10 hP9 hD9 hS9 => ?_)
    clear hP hD hS
    refine reW [wI (cy 1) p2 3 (fpc), wO p0 6 [.ref p1, .ref er, .ref ro, .ref p2, .ref p3, .ref p4, .ref h0, .ref s0, .int (nI ch)], wI (cy 1) p3 4 (fne), wI (cy 1) p4 40 (fqi), wO h0 4 [.ref h1, .ref h2, .ref h3, .ref h4, .ref h5, .ref h6, .ref h7, .ref h8, .ref h9, .ref h10, .ref h11, .int ys, hv1, hv2, hv3, hv4], wI (cy 1) h1 4 (fc), wI (cy 1) h7 48 (fx), wO s0 7 [.ref s1, .ref s2, .int (nI sl), .int spl, .int svo, .int swi, .int sch], wI (cy 1) s1 10 (fw), (er, .inl (cy 4, 4, .inr (.inr (.inr (.inr (eF (ea 0) (ea 1) (ea 2) (ea 3))))))), wO (ea 0) 2 [.ref (eg 0), .ref (ef 0), .int (et 0), .int (nI (el 0)), .int (nI (ei 0))], wI (cy 1) (eg 0) 10 (gc 0), wI (cy 1) (ef 0) 7 (xc 0), wO (ea 1) 2 [.ref (eg 1), .ref (ef 1), .int (et 1), .int (nI (el 1)), .int (nI (ei 1))], wI (cy 1) (eg 1) 10 (gc 1), wI (cy 1) (ef 1) 7 (xc 1), wO (ea 2) 2 [.ref (eg 2), .ref (ef 2), .int (et 2), .int (nI (el 2)), .int (nI (ei 2))], wI (cy 1) (eg 2) 10 (gc 2), wI (cy 1) (ef 2) 7 (xc 2), wO (ea 3) 2 [.ref (eg 3), .ref (ef 3), .int (et 3), .int (nI (el 3)), .int (nI (ei 3))], wI (cy 1) (eg 3) 10 (gc 3), wI (cy 1) (ef 3) 7 (xc 3)] hP9 hD9 hS9 (fun hP hD hS => ?_)
    clear hP9 hD9 hS9
    refine W.widen (k := 0) (n := 0) (Nat.le_of_ble_eq_true rfl) (Nat.le_of_ble_eq_true rfl) ?_
    replace hw10 : (zr10 = 0 ∨ zr10 = 1) ∧ (okW c0 fw sl → (zr10 = 1 ↔ (∃ k9, k9 < c1 ∧ byY fx (gc (fne k9).toNatClampNeg) ys (mvB c0 fw cg gc fne k9) (plS (et (fne k9).toNatClampNeg) sl) c0 sl))) := hw10
    obtain ⟨f_11, f_12⟩ := hw10
    exact x_zret hQ hx hb hr hlocks hK hP hD hS (narB f_11) dX6_choosePlaces_18 fpc (⟨f_11, hpc, cp_z (by omega) f_12⟩) [1, 2, 3, 0, 4, 5, 6, 7, 8, 9, 10, 11, 12, 13, 14, 15, 16, 17, 18, 19, 20, 21] (by decide +kernel) rfl (Nat.le_of_ble_eq_true rfl) (Nat.le_of_ble_eq_true rfl)
theorem gdX6_choosePlaces_19 : decode cX6_choosePlaces 19 = .ok (.iload_n 2, 1) ∧ decode cX6_choosePlaces 20 = .ok (.istore 4, 2) ∧ decode cX6_choosePlaces 22 = .ok (.iload 4, 2) ∧ decode cX6_choosePlaces 24 = .ok (.aload_n 0, 1) ∧ decode cX6_choosePlaces 25 = .ok (.getfield 39, 3) ∧ decode cX6_choosePlaces 28 = .ok (.getfield 48, 3) ∧ decode cX6_choosePlaces 31 = .ok (.if_icmp .ge 39, 3) ∧ decode cX6_choosePlaces 70 = .ok (.iconst 0, 1) ∧ decode cX6_choosePlaces 71 = .ok (.ireturn, 1) ∧ decode cX6_choosePlaces 34 = .ok (.aload_n 0, 1) ∧ decode cX6_choosePlaces 35 = .ok (.getfield 15, 3) ∧ decode cX6_choosePlaces 38 = .ok (.iload_n 1, 1) := by decide +kernel
theorem dX6_choosePlaces_19 : decode cX6_choosePlaces 19 = .ok (.iload_n 2, 1) := gdX6_choosePlaces_19.1
theorem dX6_choosePlaces_20 : decode cX6_choosePlaces 20 = .ok (.istore 4, 2) := gdX6_choosePlaces_19.2.1
theorem dX6_choosePlaces_22 : decode cX6_choosePlaces 22 = .ok (.iload 4, 2) := gdX6_choosePlaces_19.2.2.1
theorem dX6_choosePlaces_24 : decode cX6_choosePlaces 24 = .ok (.aload_n 0, 1) := gdX6_choosePlaces_19.2.2.2.1
theorem dX6_choosePlaces_25 : decode cX6_choosePlaces 25 = .ok (.getfield 39, 3) := gdX6_choosePlaces_19.2.2.2.2.1
theorem dX6_choosePlaces_28 : decode cX6_choosePlaces 28 = .ok (.getfield 48, 3) := gdX6_choosePlaces_19.2.2.2.2.2.1
theorem dX6_choosePlaces_31 : decode cX6_choosePlaces 31 = .ok (.if_icmp .ge 39, 3) := gdX6_choosePlaces_19.2.2.2.2.2.2.1
theorem dX6_choosePlaces_70 : decode cX6_choosePlaces 70 = .ok (.iconst 0, 1) := gdX6_choosePlaces_19.2.2.2.2.2.2.2.1
theorem dX6_choosePlaces_71 : decode cX6_choosePlaces 71 = .ok (.ireturn, 1) := gdX6_choosePlaces_19.2.2.2.2.2.2.2.2.1
theorem dX6_choosePlaces_34 : decode cX6_choosePlaces 34 = .ok (.aload_n 0, 1) := gdX6_choosePlaces_19.2.2.2.2.2.2.2.2.2.1
theorem dX6_choosePlaces_35 : decode cX6_choosePlaces 35 = .ok (.getfield 15, 3) := gdX6_choosePlaces_19.2.2.2.2.2.2.2.2.2.2.1
theorem dX6_choosePlaces_38 : decode cX6_choosePlaces 38 = .ok (.iload_n 1, 1) := gdX6_choosePlaces_19.2.2.2.2.2.2.2.2.2.2.2
theorem gdX6_choosePlaces_39 : decode cX6_choosePlaces 39 = .ok (.iload 4, 2) ∧ decode cX6_choosePlaces 41 = .ok (.iastore, 1) ∧ decode cX6_choosePlaces 42 = .ok (.aload_n 0, 1) ∧ decode cX6_choosePlaces 43 = .ok (.iload_n 1, 1) ∧ decode cX6_choosePlaces 44 = .ok (.iconst 1, 1) ∧ decode cX6_choosePlaces 45 = .ok (.iadd, 1) ∧ decode cX6_choosePlaces 46 = .ok (.iload 4, 2) ∧ decode cX6_choosePlaces 48 = .ok (.iconst 1, 1) ∧ decode cX6_choosePlaces 49 = .ok (.iadd, 1) ∧ decode cX6_choosePlaces 50 = .ok (.iload_n 3, 1) ∧ decode cX6_choosePlaces 51 = .ok (.iconst 1, 1) ∧ decode cX6_choosePlaces 52 = .ok (.iload 4, 2) := by decide +kernel
theorem dX6_choosePlaces_39 : decode cX6_choosePlaces 39 = .ok (.iload 4, 2) := gdX6_choosePlaces_39.1
theorem dX6_choosePlaces_41 : decode cX6_choosePlaces 41 = .ok (.iastore, 1) := gdX6_choosePlaces_39.2.1
theorem dX6_choosePlaces_42 : decode cX6_choosePlaces 42 = .ok (.aload_n 0, 1) := gdX6_choosePlaces_39.2.2.1
theorem dX6_choosePlaces_43 : decode cX6_choosePlaces 43 = .ok (.iload_n 1, 1) := gdX6_choosePlaces_39.2.2.2.1
theorem dX6_choosePlaces_44 : decode cX6_choosePlaces 44 = .ok (.iconst 1, 1) := gdX6_choosePlaces_39.2.2.2.2.1
theorem dX6_choosePlaces_45 : decode cX6_choosePlaces 45 = .ok (.iadd, 1) := gdX6_choosePlaces_39.2.2.2.2.2.1
theorem dX6_choosePlaces_46 : decode cX6_choosePlaces 46 = .ok (.iload 4, 2) := gdX6_choosePlaces_39.2.2.2.2.2.2.1
theorem dX6_choosePlaces_48 : decode cX6_choosePlaces 48 = .ok (.iconst 1, 1) := gdX6_choosePlaces_39.2.2.2.2.2.2.2.1
theorem dX6_choosePlaces_49 : decode cX6_choosePlaces 49 = .ok (.iadd, 1) := gdX6_choosePlaces_39.2.2.2.2.2.2.2.2.1
theorem dX6_choosePlaces_50 : decode cX6_choosePlaces 50 = .ok (.iload_n 3, 1) := gdX6_choosePlaces_39.2.2.2.2.2.2.2.2.2.1
theorem dX6_choosePlaces_51 : decode cX6_choosePlaces 51 = .ok (.iconst 1, 1) := gdX6_choosePlaces_39.2.2.2.2.2.2.2.2.2.2.1
theorem dX6_choosePlaces_52 : decode cX6_choosePlaces 52 = .ok (.iload 4, 2) := gdX6_choosePlaces_39.2.2.2.2.2.2.2.2.2.2.2
theorem gdX6_choosePlaces_54 : decode cX6_choosePlaces 54 = .ok (.ishl, 1) ∧ decode cX6_choosePlaces 55 = .ok (.ior, 1) ∧ decode cX6_choosePlaces 56 = .ok (.invokevirtual 69, 3) := by decide +kernel
theorem dX6_choosePlaces_54 : decode cX6_choosePlaces 54 = .ok (.ishl, 1) := gdX6_choosePlaces_54.1
theorem dX6_choosePlaces_55 : decode cX6_choosePlaces 55 = .ok (.ior, 1) := gdX6_choosePlaces_54.2.1
theorem dX6_choosePlaces_56 : decode cX6_choosePlaces 56 = .ok (.invokevirtual 69, 3) := gdX6_choosePlaces_54.2.2
theorem k_X6_69 : xV RX6 RX6 69 yX6_choosePlaces cX6_choosePlaces 5 (some .boolean) 3 := ⟨⟨m_1249, m_1251, m_49, m_144, m_1252⟩, rfl, by decide, by decide, by decide +kernel⟩
theorem gdX6_choosePlaces_59 : decode cX6_choosePlaces 59 = .ok (.ifCond .eq 5, 3) ∧ decode cX6_choosePlaces 64 = .ok (.iinc 4 1, 3) ∧ decode cX6_choosePlaces 67 = .ok (.goto (-45), 3) ∧ decode cX6_choosePlaces 62 = .ok (.iconst 1, 1) ∧ decode cX6_choosePlaces 63 = .ok (.ireturn, 1) := by decide +kernel
theorem dX6_choosePlaces_59 : decode cX6_choosePlaces 59 = .ok (.ifCond .eq 5, 3) := gdX6_choosePlaces_59.1
theorem dX6_choosePlaces_64 : decode cX6_choosePlaces 64 = .ok (.iinc 4 1, 3) := gdX6_choosePlaces_59.2.1
theorem dX6_choosePlaces_67 : decode cX6_choosePlaces 67 = .ok (.goto (-45), 3) := gdX6_choosePlaces_59.2.2.1
theorem dX6_choosePlaces_62 : decode cX6_choosePlaces 62 = .ok (.iconst 1, 1) := gdX6_choosePlaces_59.2.2.2.1
theorem dX6_choosePlaces_63 : decode cX6_choosePlaces 63 = .ok (.ireturn, 1) := gdX6_choosePlaces_59.2.2.2.2
set_option maxHeartbeats 1000000 in
set_option maxRecDepth 100000 in
theorem s_choosePlaces2 (l : Launch) (D : va_G) (cy : Nat → ClassId) (p0 : Nat) (p1 : Nat) (p2 : Nat) (p3 : Nat) (p4 : Nat) (er : Nat) (ro : Nat) (ch : Nat) (fne : Nat → Int32) (fqi : Nat → Int32) (fpc : Nat → Int32) (h0 : Nat) (h1 : Nat) (h2 : Nat) (h3 : Nat) (h4 : Nat) (h5 : Nat) (h6 : Nat) (h7 : Nat) (h8 : Nat) (h9 : Nat) (h10 : Nat) (h11 : Nat) (hv1 : Value) (hv2 : Value) (hv3 : Value) (hv4 : Value) (ys : Int32) (fc : Nat → Int32) (c0 : Nat) (c1 : Nat) (c2 : Nat) (c3 : Nat) (fx : Nat → Int32) (s0 : Nat) (s1 : Nat) (s2 : Nat) (sl : Nat) (spl : Int32) (svo : Int32) (swi : Int32) (sch : Int32) (fw : Nat → Int32) (ea : Nat → Nat) (eg : Nat → Nat) (ef : Nat → Nat) (et : Nat → Int32) (el : Nat → Nat) (ei : Nat → Nat) (gc : Nat → Nat → Int32) (xc : Nat → Nat → Int32) (fm : Nat) (cg : Int32) (hne : nOK fne c1) (hpc : rng fpc 3 9) (hch : ch ≤ 3) (hcn : cntOK fc c0 c1 c2 c3) (hc0 : c0 ≤ 8) (hc1 : c1 ≤ 4) (hc2 : c2 ≤ 4) (hc3 : c3 ≤ 6) (hnx : rng fx 48 5) (hel : ∀ i9, i9 < 4 → el i9 ≤ 10) (hes : ∀ i9, i9 < c1 → el i9 = sl) (hsl : sl ≤ 10) (hsw : rng fw 10 7) (hfm : fm ≤ 10) (hqu : ∀ rk9 i9 w9 : Nat, rk9 < c1 → i9 < sl → w9 < 8 → bt (fqi (rk9 * 10 + i9)) w9 = alF (quQ gc fne i9 w9) rk9) : XMi l D (tyL cy) E0 yX6_choosePlaces cX6_choosePlaces 5 (some .boolean) (rmk 5 0 0) [.ref p0, .int 2, .int (nI fm), .int cg] [wO p0 6 [.ref p1, .ref er, .ref ro, .ref p2, .ref p3, .ref p4, .ref h0, .ref s0, .int (nI ch)], wI (cy 1) p3 4 (fne), wI (cy 1) p4 40 (fqi), wI (cy 1) p2 3 (fpc), wO h0 4 [.ref h1, .ref h2, .ref h3, .ref h4, .ref h5, .ref h6, .ref h7, .ref h8, .ref h9, .ref h10, .ref h11, .int ys, hv1, hv2, hv3, hv4], wI (cy 1) h1 4 (fc), wI (cy 1) h7 48 (fx), wO s0 7 [.ref s1, .ref s2, .int (nI sl), .int spl, .int svo, .int swi, .int sch], wI (cy 1) s1 10 (fw), (er, .inl (cy 4, 4, .inr (.inr (.inr (.inr (eF (ea 0) (ea 1) (ea 2) (ea 3))))))), wO (ea 0) 2 [.ref (eg 0), .ref (ef 0), .int (et 0), .int (nI (el 0)), .int (nI (ei 0))], wI (cy 1) (eg 0) 10 (gc 0), wI (cy 1) (ef 0) 7 (xc 0), wO (ea 1) 2 [.ref (eg 1), .ref (ef 1), .int (et 1), .int (nI (el 1)), .int (nI (ei 1))], wI (cy 1) (eg 1) 10 (gc 1), wI (cy 1) (ef 1) 7 (xc 1), wO (ea 2) 2 [.ref (eg 2), .ref (ef 2), .int (et 2), .int (nI (el 2)), .int (nI (ei 2))], wI (cy 1) (eg 2) 10 (gc 2), wI (cy 1) (ef 2) 7 (xc 2), wO (ea 3) 2 [.ref (eg 3), .ref (ef 3), .int (et 3), .int (nI (el 3)), .int (nI (ei 3))], wI (cy 1) (eg 3) 10 (gc 3), wI (cy 1) (ef 3) 7 (xc 3)] (fun (r : Int32) (fpc2 : Nat → Int32) => (r = 0 ∨ r = 1) ∧ (rng fpc2 3 9) ∧ (okW c0 fw sl → (r = 1 ↔ cpP (fun c9 => (∃ k9, k9 < c1 ∧ byY fx (gc (fne k9).toNatClampNeg) ys (mvB c0 fw c9 gc fne k9) (plS (et (fne k9).toNatClampNeg) sl) c0 sl)) sl (ch - 2) fm cg))) (fun (fpc2 : Nat → Int32) => [wO p0 6 [.ref p1, .ref er, .ref ro, .ref p2, .ref p3, .ref p4, .ref h0, .ref s0, .int (nI ch)], wI (cy 1) p3 4 (fne), wI (cy 1) p4 40 (fqi), wI (cy 1) p2 3 (fpc2), wO h0 4 [.ref h1, .ref h2, .ref h3, .ref h4, .ref h5, .ref h6, .ref h7, .ref h8, .ref h9, .ref h10, .ref h11, .int ys, hv1, hv2, hv3, hv4], wI (cy 1) h1 4 (fc), wI (cy 1) h7 48 (fx), wO s0 7 [.ref s1, .ref s2, .int (nI sl), .int spl, .int svo, .int swi, .int sch], wI (cy 1) s1 10 (fw), (er, .inl (cy 4, 4, .inr (.inr (.inr (.inr (eF (ea 0) (ea 1) (ea 2) (ea 3))))))), wO (ea 0) 2 [.ref (eg 0), .ref (ef 0), .int (et 0), .int (nI (el 0)), .int (nI (ei 0))], wI (cy 1) (eg 0) 10 (gc 0), wI (cy 1) (ef 0) 7 (xc 0), wO (ea 1) 2 [.ref (eg 1), .ref (ef 1), .int (et 1), .int (nI (el 1)), .int (nI (ei 1))], wI (cy 1) (eg 1) 10 (gc 1), wI (cy 1) (ef 1) 7 (xc 1), wO (ea 2) 2 [.ref (eg 2), .ref (ef 2), .int (et 2), .int (nI (el 2)), .int (nI (ei 2))], wI (cy 1) (eg 2) 10 (gc 2), wI (cy 1) (ef 2) 7 (xc 2), wO (ea 3) 2 [.ref (eg 3), .ref (ef 3), .int (et 3), .int (nI (el 3)), .int (nI (ei 3))], wI (cy 1) (eg 3) 10 (gc 3), wI (cy 1) (ef 3) 7 (xc 3)]) := by
  refine XMi.start (by decide) (Nat.le_of_ble_eq_true rfl) ?_
  intro p e s m below meth c args A ls Q hat hQ
  obtain ⟨hx, hb, hr, hml, hown, hg, hlocks, hin, hK, hA, hP, hD, hS, hE, hl⟩ := hat
  have hown : s.vm.findClass RX6 = some m.cls := hown
  have hl : lv_has ls 5 [(0, .ref p0), (1, .int 2), (2, .int (nI fm)), (3, .int cg)] := hl
  have hk_1 := hel 0 (by decide)
  have hk_2 := hel 1 (by decide)
  have hk_3 := hel 2 (by decide)
  have hk_4 := hel 3 (by decide)
  refine lv_iload_n hx hb dX6_choosePlaces_0 rfl (lv_at hl 1 rfl) ?_
  refine lv_aload_n hx hb dX6_choosePlaces_1 rfl (lv_at hl 0 rfl) ?_
  refine va_get (D := D) (ci := 6) (v := .int (nI ch)) (C := RX6) (T := TX6) (N := 9) hx hb hg i_X6 hown hK hP 0 rfl rfl 8 (by decide) (hg _ m_593) (fun _ h9 => h9) rfl dX6_choosePlaces_2 ?_
  refine lv_icmp_ge (tgt := 13) hx hb dX6_choosePlaces_5 (by decide) (fun c_5 => ?_) (fun c_5 => ?_)
  · have q_6 : ch ≤ 2 := q_le (a := ch) (b := 2) rfl rfl (by omega) (by omega) c_5
    refine lv_aload_n hx hb dX6_choosePlaces_13 rfl (lv_at hl 0 rfl) ?_
    refine lv_iload_n hx hb dX6_choosePlaces_14 rfl (lv_at hl 3 rfl) ?_
    refine x_callVi (q := (RX6, TX6, 9)) (ci := 6) (q0 := 0) (wr := [wI (cy 1) p2 3 (fpc)]) (rest := []) ⟨hx, hb, hml, hown, hg, hl.1⟩ k_X6_87 (s_canBeYes l D cy p0 p1 p2 p3 p4 er ro ch fne fqi h0 h1 h2 h3 h4 h5 h6 h7 h8 h9 h10 h11 hv1 hv2 hv3 hv4 ys fc c0 c1 c2 c3 fx s0 s1 s2 sl spl svo swi sch fw ea eg ef et el ei gc xc cg (hne) (hcn) (by omega) (by omega) (by omega) (by omega) (hnx) (fun i9 h9 => by rcases (show i9 = 0 ∨ i9 = 1 ∨ i9 = 2 ∨ i9 = 3 by omega) with rfl | rfl | rfl | rfl <;> omega) (hes) (by omega) (hsw) (hqu)) E0_blind hK hP hD hS hA [0, 1, 2, 4, 5, 6, 7, 8, 9, 10, 11, 12, 13, 14, 15, 16, 17, 18, 19, 20, 21] [3] ⟨rfl, rfl, by decide +kernel, by decide +kernel, by decide +kernel⟩ rfl rfl (fun _ _ _ => trivial) dX6_choosePlaces_15 rfl rfl (Nat.le_of_ble_eq_true rfl) ⟨Nat.le_of_ble_eq_true rfl, Nat.le_of_ble_eq_true rfl⟩ ⟨Nat.le_of_ble_eq_true rfl, Nat.le_of_ble_eq_true rfl⟩ (fun zr7 zu7 H locs hw7 hP9 hD9 hS9 => ?_)
    clear hP hD hS
    refine reW [wI (cy 1) p2 3 (fpc), wO p0 6 [.ref p1, .ref er, .ref ro, .ref p2, .ref p3, .ref p4, .ref h0, .ref s0, .int (nI ch)], wI (cy 1) p3 4 (fne), wI (cy 1) p4 40 (fqi), wO h0 4 [.ref h1, .ref h2, .ref h3, .ref h4, .ref h5, .ref h6, .ref h7, .ref h8, .ref h9, .ref h10, .ref h11, .int ys, hv1, hv2, hv3, hv4], wI (cy 1) h1 4 (fc), wI (cy 1) h7 48 (fx), wO s0 7 [.ref s1, .ref s2, .int (nI sl), .int spl, .int svo, .int swi, .int sch], wI (cy 1) s1 10 (fw), (er, .inl (cy 4, 4, .inr (.inr (.inr (.inr (eF (ea 0) (ea 1) (ea 2) (ea 3))))))), wO (ea 0) 2 [.ref (eg 0), .ref (ef 0), .int (et 0), .int (nI (el 0)), .int (nI (ei 0))], wI (cy 1) (eg 0) 10 (gc 0), wI (cy 1) (ef 0) 7 (xc 0), wO (ea 1) 2 [.ref (eg 1), .ref (ef 1), .int (et 1), .int (nI (el 1)), .int (nI (ei 1))], wI (cy 1) (eg 1) 10 (gc 1), wI (cy 1) (ef 1) 7 (xc 1), wO (ea 2) 2 [.ref (eg 2), .ref (ef 2), .int (et 2), .int (nI (el 2)), .int (nI (ei 2))], wI (cy 1) (eg 2) 10 (gc 2), wI (cy 1) (ef 2) 7 (xc 2), wO (ea 3) 2 [.ref (eg 3), .ref (ef 3), .int (et 3), .int (nI (el 3)), .int (nI (ei 3))], wI (cy 1) (eg 3) 10 (gc 3), wI (cy 1) (ef 3) 7 (xc 3)] hP9 hD9 hS9 (fun hP hD hS => ?_)
    clear hP9 hD9 hS9
    refine W.widen (k := 0) (n := 0) (Nat.le_of_ble_eq_true rfl) (Nat.le_of_ble_eq_true rfl) ?_
    replace hw7 : (zr7 = 0 ∨ zr7 = 1) ∧ (okW c0 fw sl → (zr7 = 1 ↔ (∃ k9, k9 < c1 ∧ byY fx (gc (fne k9).toNatClampNeg) ys (mvB c0 fw cg gc fne k9) (plS (et (fne k9).toNatClampNeg) sl) c0 sl))) := hw7
    obtain ⟨f_8, f_9⟩ := hw7
    exact x_zret hQ hx hb hr hlocks hK hP hD hS (narB f_8) dX6_choosePlaces_18 fpc (⟨f_8, hpc, cp_z (by omega) f_9⟩) [1, 2, 3, 0, 4, 5, 6, 7, 8, 9, 10, 11, 12, 13, 14, 15, 16, 17, 18, 19, 20, 21] (by decide +kernel) rfl (Nat.le_of_ble_eq_true rfl) (Nat.le_of_ble_eq_true rfl)
  · have q_6 : 2 < ch := q_nle (a := ch) (b := 2) rfl rfl (by omega) (by omega) c_5
    refine lv_iload_n hx hb dX6_choosePlaces_8 rfl (lv_at hl 1 rfl) ?_
    refine lv_iconst (v := 3) hx hb dX6_choosePlaces_9 (by decide) ?_
    refine lv_icmp_lt (tgt := 19) hx hb dX6_choosePlaces_10 (by decide) (fun _ => ?_) (fun h => absurd (by decide) h)
    refine lv_iload_n hx hb dX6_choosePlaces_19 rfl (lv_at hl 2 rfl) ?_
    refine lv_istore (lv' := [(4, .int (nI fm)), (0, .ref p0), (1, .int 2), (2, .int (nI fm)), (3, .int cg)]) hx hb dX6_choosePlaces_20 hl (by decide) rfl (fun ls hl => ?_)
    have loop10 : ∀ (zn : Nat) (i10 : Nat) (fa1_10 : Nat → Int32), (rng fa1_10 3 9) → (i10 ≤ 10) → (fm ≤ i10) → (okW c0 fw sl → ∀ i9 : Nat, fm ≤ i9 → i9 < i10 → i9 < sl → ¬ cpP (fun c9 => (∃ k9, k9 < c1 ∧ byY fx (gc (fne k9).toNatClampNeg) ys (mvB c0 fw c9 gc fne k9) (plS (et (fne k9).toNatClampNeg) sl) c0 sl)) sl (ch - 3) (i9 + 1) (cg ||| ((1 : Int32) <<< (nI i9 &&& 31)))) → 10 - i10 + 1 ≤ zn → ∀ (H : Heap) (locs : List Loc), va_P D vwCl [wO p0 6 [.ref p1, .ref er, .ref ro, .ref p2, .ref p3, .ref p4, .ref h0, .ref s0, .int (nI ch)], wI (cy 1) p3 4 (fne), wI (cy 1) p4 40 (fqi), wI (cy 1) p2 3 (fa1_10), wO h0 4 [.ref h1, .ref h2, .ref h3, .ref h4, .ref h5, .ref h6, .ref h7, .ref h8, .ref h9, .ref h10, .ref h11, .int ys, hv1, hv2, hv3, hv4], wI (cy 1) h1 4 (fc), wI (cy 1) h7 48 (fx), wO s0 7 [.ref s1, .ref s2, .int (nI sl), .int spl, .int svo, .int swi, .int sch], wI (cy 1) s1 10 (fw), (er, .inl (cy 4, 4, .inr (.inr (.inr (.inr (eF (ea 0) (ea 1) (ea 2) (ea 3))))))), wO (ea 0) 2 [.ref (eg 0), .ref (ef 0), .int (et 0), .int (nI (el 0)), .int (nI (ei 0))], wI (cy 1) (eg 0) 10 (gc 0), wI (cy 1) (ef 0) 7 (xc 0), wO (ea 1) 2 [.ref (eg 1), .ref (ef 1), .int (et 1), .int (nI (el 1)), .int (nI (ei 1))], wI (cy 1) (eg 1) 10 (gc 1), wI (cy 1) (ef 1) 7 (xc 1), wO (ea 2) 2 [.ref (eg 2), .ref (ef 2), .int (et 2), .int (nI (el 2)), .int (nI (ei 2))], wI (cy 1) (eg 2) 10 (gc 2), wI (cy 1) (ef 2) 7 (xc 2), wO (ea 3) 2 [.ref (eg 3), .ref (ef 3), .int (et 3), .int (nI (el 3)), .int (nI (ei 3))], wI (cy 1) (eg 3) 10 (gc 3), wI (cy 1) (ef 3) 7 (xc 3)] H → va_D A [wO p0 6 [.ref p1, .ref er, .ref ro, .ref p2, .ref p3, .ref p4, .ref h0, .ref s0, .int (nI ch)], wI (cy 1) p3 4 (fne), wI (cy 1) p4 40 (fqi), wI (cy 1) p2 3 (fa1_10), wO h0 4 [.ref h1, .ref h2, .ref h3, .ref h4, .ref h5, .ref h6, .ref h7, .ref h8, .ref h9, .ref h10, .ref h11, .int ys, hv1, hv2, hv3, hv4], wI (cy 1) h1 4 (fc), wI (cy 1) h7 48 (fx), wO s0 7 [.ref s1, .ref s2, .int (nI sl), .int spl, .int svo, .int swi, .int sch], wI (cy 1) s1 10 (fw), (er, .inl (cy 4, 4, .inr (.inr (.inr (.inr (eF (ea 0) (ea 1) (ea 2) (ea 3))))))), wO (ea 0) 2 [.ref (eg 0), .ref (ef 0), .int (et 0), .int (nI (el 0)), .int (nI (ei 0))], wI (cy 1) (eg 0) 10 (gc 0), wI (cy 1) (ef 0) 7 (xc 0), wO (ea 1) 2 [.ref (eg 1), .ref (ef 1), .int (et 1), .int (nI (el 1)), .int (nI (ei 1))], wI (cy 1) (eg 1) 10 (gc 1), wI (cy 1) (ef 1) 7 (xc 1), wO (ea 2) 2 [.ref (eg 2), .ref (ef 2), .int (et 2), .int (nI (el 2)), .int (nI (ei 2))], wI (cy 1) (eg 2) 10 (gc 2), wI (cy 1) (ef 2) 7 (xc 2), wO (ea 3) 2 [.ref (eg 3), .ref (ef 3), .int (et 3), .int (nI (el 3)), .int (nI (ei 3))], wI (cy 1) (eg 3) 10 (gc 3), wI (cy 1) (ef 3) 7 (xc 3)] → va_S A s.heap H locs → ∀ ls : Array Slot, lv_has ls 5 [(4, .int (nI i10)), (0, .ref p0), (1, .int 2), (2, .int (nI fm)), (3, .int cg)] → W p l e (rmk 5 0 0) s m args below meth c H locs 0 0 Q (F0 m 22 ls []) := by
      try clear hP hD hS
      intro zn
      induction zn with
      | zero => intro i10 fa1_10 _ _ _ _ hz; exact absurd hz (by omega)
      | succ zn ih10 =>
        intro i10 fa1_10 ha2_10 hf0_10 hf1_10 hf2_10 hmu10 H locs hP hD hS ls hl
        refine lv_iload hx hb dX6_choosePlaces_22 (lv_at hl 0 rfl) ?_
        refine lv_aload_n hx hb dX6_choosePlaces_24 rfl (lv_at hl 1 rfl) ?_
        refine va_get (D := D) (ci := 6) (v := .ref s0) (C := RX6) (T := TX6) (N := 9) hx hb hg i_X6 hown hK hP 0 rfl rfl 7 (by decide) (hg _ m_592) (fun _ h9 => h9) rfl dX6_choosePlaces_25 ?_
        refine va_get (D := D) (ci := 7) (v := .int (nI sl)) (C := RX7) (T := TX7) (N := 7) hx hb hg i_X7 hown hK hP 7 rfl rfl 2 (by decide) (hg _ m_630) (fun _ h9 => h9) rfl dX6_choosePlaces_28 ?_
        refine lv_icmp_ge (tgt := 70) hx hb dX6_choosePlaces_31 (by decide) (fun c_11 => ?_) (fun c_11 => ?_)
        · have q_12 : sl ≤ i10 := q_le (a := sl) (b := i10) rfl rfl (by omega) (by omega) c_11
          refine lv_iconst (v := 0) hx hb dX6_choosePlaces_70 (by decide) ?_
          exact x_zret hQ hx hb hr hlocks hK hP hD hS rfl dX6_choosePlaces_71 fa1_10 (⟨(Or.inl rfl), ha2_10, cp_0 (d := ch - 3) (i := i10) (by omega) hf2_10 (by omega)⟩) [0, 1, 2, 3, 4, 5, 6, 7, 8, 9, 10, 11, 12, 13, 14, 15, 16, 17, 18, 19, 20, 21] (by decide +kernel) rfl (Nat.le_of_ble_eq_true rfl) (Nat.le_of_ble_eq_true rfl)
        · have q_12 : i10 < sl := q_nle (a := sl) (b := i10) rfl rfl (by omega) (by omega) c_11
          refine lv_aload_n hx hb dX6_choosePlaces_34 rfl (lv_at hl 1 rfl) ?_
          refine va_get (D := D) (ci := 6) (v := .ref p2) (C := RX6) (T := TX6) (N := 9) hx hb hg i_X6 hown hK hP 0 rfl rfl 3 (by decide) (hg _ m_588) (fun _ h9 => h9) rfl dX6_choosePlaces_35 ?_
          refine lv_iload_n hx hb dX6_choosePlaces_38 rfl (lv_at hl 2 rfl) ?_
          refine lv_iload hx hb dX6_choosePlaces_39 (lv_at hl 0 rfl) ?_
          refine va_iast hx hb hK hP hD hS 3 1 rfl rfl (by unfold vp_in; decide) dX6_choosePlaces_41 (fun H locs hP9 hD9 hS9 => ?_)
          clear hP hD hS
          have hP := hP9
          have hD := hD9
          have hS := hS9
          clear hP9 hD9 hS9
          obtain ⟨g_13, eg_13⟩ : ∃ y, upd fa1_10 (2 : Int32).toNatClampNeg (nI i10) = y := ⟨_, rfl⟩
          rw [eg_13] at hP hD
          have hr_14 : rng g_13 3 9 := eg_13 ▸ rng_put ha2_10 (j := i10) (by omega)
          replace hP : va_P D vwCl [wO p0 6 [.ref p1, .ref er, .ref ro, .ref p2, .ref p3, .ref p4, .ref h0, .ref s0, .int (nI ch)], wI (cy 1) p3 4 (fne), wI (cy 1) p4 40 (fqi), wI (cy 1) p2 3 (g_13), wO h0 4 [.ref h1, .ref h2, .ref h3, .ref h4, .ref h5, .ref h6, .ref h7, .ref h8, .ref h9, .ref h10, .ref h11, .int ys, hv1, hv2, hv3, hv4], wI (cy 1) h1 4 (fc), wI (cy 1) h7 48 (fx), wO s0 7 [.ref s1, .ref s2, .int (nI sl), .int spl, .int svo, .int swi, .int sch], wI (cy 1) s1 10 (fw), (er, .inl (cy 4, 4, .inr (.inr (.inr (.inr (eF (ea 0) (ea 1) (ea 2) (ea 3))))))), wO (ea 0) 2 [.ref (eg 0), .ref (ef 0), .int (et 0), .int (nI (el 0)), .int (nI (ei 0))], wI (cy 1) (eg 0) 10 (gc 0), wI (cy 1) (ef 0) 7 (xc 0), wO (ea 1) 2 [.ref (eg 1), .ref (ef 1), .int (et 1), .int (nI (el 1)), .int (nI (ei 1))], wI (cy 1) (eg 1) 10 (gc 1), wI (cy 1) (ef 1) 7 (xc 1), wO (ea 2) 2 [.ref (eg 2), .ref (ef 2), .int (et 2), .int (nI (el 2)), .int (nI (ei 2))], wI (cy 1) (eg 2) 10 (gc 2), wI (cy 1) (ef 2) 7 (xc 2), wO (ea 3) 2 [.ref (eg 3), .ref (ef 3), .int (et 3), .int (nI (el 3)), .int (nI (ei 3))], wI (cy 1) (eg 3) 10 (gc 3), wI (cy 1) (ef 3) 7 (xc 3)] H := hP
          replace hD : va_D A [wO p0 6 [.ref p1, .ref er, .ref ro, .ref p2, .ref p3, .ref p4, .ref h0, .ref s0, .int (nI ch)], wI (cy 1) p3 4 (fne), wI (cy 1) p4 40 (fqi), wI (cy 1) p2 3 (g_13), wO h0 4 [.ref h1, .ref h2, .ref h3, .ref h4, .ref h5, .ref h6, .ref h7, .ref h8, .ref h9, .ref h10, .ref h11, .int ys, hv1, hv2, hv3, hv4], wI (cy 1) h1 4 (fc), wI (cy 1) h7 48 (fx), wO s0 7 [.ref s1, .ref s2, .int (nI sl), .int spl, .int svo, .int swi, .int sch], wI (cy 1) s1 10 (fw), (er, .inl (cy 4, 4, .inr (.inr (.inr (.inr (eF (ea 0) (ea 1) (ea 2) (ea 3))))))), wO (ea 0) 2 [.ref (eg 0), .ref (ef 0), .int (et 0), .int (nI (el 0)), .int (nI (ei 0))], wI (cy 1) (eg 0) 10 (gc 0), wI (cy 1) (ef 0) 7 (xc 0), wO (ea 1) 2 [.ref (eg 1), .ref (ef 1), .int (et 1), .int (nI (el 1)), .int (nI (ei 1))], wI (cy 1) (eg 1) 10 (gc 1), wI (cy 1) (ef 1) 7 (xc 1), wO (ea 2) 2 [.ref (eg 2), .ref (ef 2), .int (et 2), .int (nI (el 2)), .int (nI (ei 2))], wI (cy 1) (eg 2) 10 (gc 2), wI (cy 1) (ef 2) 7 (xc 2), wO (ea 3) 2 [.ref (eg 3), .ref (ef 3), .int (et 3), .int (nI (el 3)), .int (nI (ei 3))], wI (cy 1) (eg 3) 10 (gc 3), wI (cy 1) (ef 3) 7 (xc 3)] := hD
          refine lv_aload_n hx hb dX6_choosePlaces_42 rfl (lv_at hl 1 rfl) ?_
          refine lv_iload_n hx hb dX6_choosePlaces_43 rfl (lv_at hl 2 rfl) ?_
          refine lv_iconst (v := 1) hx hb dX6_choosePlaces_44 (by decide) ?_
          refine lv_iadd hx hb dX6_choosePlaces_45 ?_
          refine lv_topi (fun y_15 hy_15 => ?_)
          obtain rfl : y_15 = 3 := hy_15.trans (by decide +kernel)
          refine lv_iload hx hb dX6_choosePlaces_46 (lv_at hl 0 rfl) ?_
          refine lv_iconst (v := 1) hx hb dX6_choosePlaces_48 (by decide) ?_
          refine lv_iadd hx hb dX6_choosePlaces_49 ?_
          refine lv_topi (fun y_16 hy_16 => ?_)
          obtain rfl : y_16 = nI (i10 + 1) := hy_16.trans (nI_add i10 1)
          refine lv_iload_n hx hb dX6_choosePlaces_50 rfl (lv_at hl 4 rfl) ?_
          refine lv_iconst (v := 1) hx hb dX6_choosePlaces_51 (by decide) ?_
          refine lv_iload hx hb dX6_choosePlaces_52 (lv_at hl 0 rfl) ?_
          refine lv_ishl hx hb dX6_choosePlaces_54 ?_
          refine lv_topi (fun x_17 ex_17 => ?_)
          refine lv_ior hx hb dX6_choosePlaces_55 ?_
          refine lv_topi (fun x_18 ex_18 => ?_)
          refine x_callVi (q := (RX6, TX6, 9)) (ci := 6) (q0 := 0) (wr := []) (rest := []) ⟨hx, hb, hml, hown, hg, hl.1⟩ k_X6_69 (s_choosePlaces3 l D cy p0 p1 p2 p3 p4 er ro ch fne fqi g_13 h0 h1 h2 h3 h4 h5 h6 h7 h8 h9 h10 h11 hv1 hv2 hv3 hv4 ys fc c0 c1 c2 c3 fx s0 s1 s2 sl spl svo swi sch fw ea eg ef et el ei gc xc ((i10 + 1)) x_18 (hne) (hr_14) (by omega) (hcn) (by omega) (by omega) (by omega) (by omega) (hnx) (fun i9 h9 => by rcases (show i9 = 0 ∨ i9 = 1 ∨ i9 = 2 ∨ i9 = 3 by omega) with rfl | rfl | rfl | rfl <;> omega) (hes) (by omega) (hsw) (by omega) (hqu)) E0_blind hK hP hD hS hA [0, 1, 2, 3, 4, 5, 6, 7, 8, 9, 10, 11, 12, 13, 14, 15, 16, 17, 18, 19, 20, 21] [] ⟨rfl, rfl, by decide +kernel, by decide +kernel, by decide +kernel⟩ rfl rfl (fun _ _ _ => trivial) dX6_choosePlaces_56 rfl rfl (Nat.le_of_ble_eq_true rfl) ⟨Nat.le_of_ble_eq_true rfl, Nat.le_of_ble_eq_true rfl⟩ ⟨Nat.le_of_ble_eq_true rfl, Nat.le_of_ble_eq_true rfl⟩ (fun zr19 zu19 H locs hw19 hP9 hD9 hS9 => ?_)
          clear hP hD hS
          obtain ⟨fpc2_20, rfl⟩ : ∃ z, z = zu19 := ⟨_, rfl⟩
          refine reW [wO p0 6 [.ref p1, .ref er, .ref ro, .ref p2, .ref p3, .ref p4, .ref h0, .ref s0, .int (nI ch)], wI (cy 1) p3 4 (fne), wI (cy 1) p4 40 (fqi), wI (cy 1) p2 3 (fpc2_20), wO h0 4 [.ref h1, .ref h2, .ref h3, .ref h4, .ref h5, .ref h6, .ref h7, .ref h8, .ref h9, .ref h10, .ref h11, .int ys, hv1, hv2, hv3, hv4], wI (cy 1) h1 4 (fc), wI (cy 1) h7 48 (fx), wO s0 7 [.ref s1, .ref s2, .int (nI sl), .int spl, .int svo, .int swi, .int sch], wI (cy 1) s1 10 (fw), (er, .inl (cy 4, 4, .inr (.inr (.inr (.inr (eF (ea 0) (ea 1) (ea 2) (ea 3))))))), wO (ea 0) 2 [.ref (eg 0), .ref (ef 0), .int (et 0), .int (nI (el 0)), .int (nI (ei 0))], wI (cy 1) (eg 0) 10 (gc 0), wI (cy 1) (ef 0) 7 (xc 0), wO (ea 1) 2 [.ref (eg 1), .ref (ef 1), .int (et 1), .int (nI (el 1)), .int (nI (ei 1))], wI (cy 1) (eg 1) 10 (gc 1), wI (cy 1) (ef 1) 7 (xc 1), wO (ea 2) 2 [.ref (eg 2), .ref (ef 2), .int (et 2), .int (nI (el 2)), .int (nI (ei 2))], wI (cy 1) (eg 2) 10 (gc 2), wI (cy 1) (ef 2) 7 (xc 2), wO (ea 3) 2 [.ref (eg 3), .ref (ef 3), .int (et 3), .int (nI (el 3)), .int (nI (ei 3))], wI (cy 1) (eg 3) 10 (gc 3), wI (cy 1) (ef 3) 7 (xc 3)] hP9 hD9 hS9 (fun hP hD hS => ?_)
          clear hP9 hD9 hS9
          refine W.widen (k := 0) (n := 0) (Nat.le_of_ble_eq_true rfl) (Nat.le_of_ble_eq_true rfl) ?_
          replace hw19 : (zr19 = 0 ∨ zr19 = 1) ∧ (rng fpc2_20 3 9) ∧ (okW c0 fw sl → (zr19 = 1 ↔ cpP (fun c9 => (∃ k9, k9 < c1 ∧ byY fx (gc (fne k9).toNatClampNeg) ys (mvB c0 fw c9 gc fne k9) (plS (et (fne k9).toNatClampNeg) sl) c0 sl)) sl (ch - 3) ((i10 + 1)) x_18)) := hw19
          obtain ⟨f_21, f_22, f_23⟩ := hw19
          refine lv_if_eq (tgt := 64) hx hb dX6_choosePlaces_59 (by decide) (fun c_59 => ?_) (fun c_59 => ?_)
          · refine lv_iinc (v := nI (i10 + 1)) (lv' := [(4, .int (nI (i10 + 1))), (0, .ref p0), (1, .int 2), (2, .int (nI fm)), (3, .int cg)]) hx hb dX6_choosePlaces_64 hl (k := 0) rfl (nI_add i10 1) (by decide) rfl (fun ls hl => ?_)
            refine lv_goto (tgt := 22) hx hb dX6_choosePlaces_67 (by decide) ?_
            exact ih10  ((i10 + 1)) fpc2_20 f_22 (by omega) (by omega) (cp_n hf2_10 f_23 c_59 ex_17 ex_18) (by omega) _ _ (hP.sub [0, 1, 2, 3, 4, 5, 6, 7, 8, 9, 10, 11, 12, 13, 14, 15, 16, 17, 18, 19, 20, 21] rfl) (hD.sub [0, 1, 2, 3, 4, 5, 6, 7, 8, 9, 10, 11, 12, 13, 14, 15, 16, 17, 18, 19, 20, 21] (by decide +kernel) rfl) hS ls (lv_sub hl [0, 1, 2, 3, 4] rfl)
          · refine lv_iconst (v := 1) hx hb dX6_choosePlaces_62 (by decide) ?_
            exact x_zret hQ hx hb hr hlocks hK hP hD hS rfl dX6_choosePlaces_63 fpc2_20 (⟨(Or.inr rfl), f_22, cp_1 (d := ch - 3) (i := i10) (by omega) (by omega) (by omega) f_23 (f_21.resolve_left c_59) ex_17 ex_18⟩) [0, 1, 2, 3, 4, 5, 6, 7, 8, 9, 10, 11, 12, 13, 14, 15, 16, 17, 18, 19, 20, 21] (by decide +kernel) rfl (Nat.le_of_ble_eq_true rfl) (Nat.le_of_ble_eq_true rfl)
    exact loop10 _ fm fpc hpc (by omega) (by omega) (fun _ i9 h1 h2 => absurd h2 (by omega)) (Nat.le_refl _) _ _ (hP.sub [0, 1, 2, 3, 4, 5, 6, 7, 8, 9, 10, 11, 12, 13, 14, 15, 16, 17, 18, 19, 20, 21] rfl) (hD.sub [0, 1, 2, 3, 4, 5, 6, 7, 8, 9, 10, 11, 12, 13, 14, 15, 16, 17, 18, 19, 20, 21] (by decide +kernel) rfl) hS ls (lv_sub hl [0, 1, 2, 3, 4] rfl)
set_option maxHeartbeats 1000000 in
set_option maxRecDepth 100000 in
theorem s_choosePlaces1 (l : Launch) (D : va_G) (cy : Nat → ClassId) (p0 : Nat) (p1 : Nat) (p2 : Nat) (p3 : Nat) (p4 : Nat) (er : Nat) (ro : Nat) (ch : Nat) (fne : Nat → Int32) (fqi : Nat → Int32) (fpc : Nat → Int32) (h0 : Nat) (h1 : Nat) (h2 : Nat) (h3 : Nat) (h4 : Nat) (h5 : Nat) (h6 : Nat) (h7 : Nat) (h8 : Nat) (h9 : Nat) (h10 : Nat) (h11 : Nat) (hv1 : Value) (hv2 : Value) (hv3 : Value) (hv4 : Value) (ys : Int32) (fc : Nat → Int32) (c0 : Nat) (c1 : Nat) (c2 : Nat) (c3 : Nat) (fx : Nat → Int32) (s0 : Nat) (s1 : Nat) (s2 : Nat) (sl : Nat) (spl : Int32) (svo : Int32) (swi : Int32) (sch : Int32) (fw : Nat → Int32) (ea : Nat → Nat) (eg : Nat → Nat) (ef : Nat → Nat) (et : Nat → Int32) (el : Nat → Nat) (ei : Nat → Nat) (gc : Nat → Nat → Int32) (xc : Nat → Nat → Int32) (fm : Nat) (cg : Int32) (hne : nOK fne c1) (hpc : rng fpc 3 9) (hch : ch ≤ 3) (hcn : cntOK fc c0 c1 c2 c3) (hc0 : c0 ≤ 8) (hc1 : c1 ≤ 4) (hc2 : c2 ≤ 4) (hc3 : c3 ≤ 6) (hnx : rng fx 48 5) (hel : ∀ i9, i9 < 4 → el i9 ≤ 10) (hes : ∀ i9, i9 < c1 → el i9 = sl) (hsl : sl ≤ 10) (hsw : rng fw 10 7) (hfm : fm ≤ 10) (hqu : ∀ rk9 i9 w9 : Nat, rk9 < c1 → i9 < sl → w9 < 8 → bt (fqi (rk9 * 10 + i9)) w9 = alF (quQ gc fne i9 w9) rk9) : XMi l D (tyL cy) E0 yX6_choosePlaces cX6_choosePlaces 5 (some .boolean) (rmk 6 0 0) [.ref p0, .int 1, .int (nI fm), .int cg] [wO p0 6 [.ref p1, .ref er, .ref ro, .ref p2, .ref p3, .ref p4, .ref h0, .ref s0, .int (nI ch)], wI (cy 1) p3 4 (fne), wI (cy 1) p4 40 (fqi), wI (cy 1) p2 3 (fpc), wO h0 4 [.ref h1, .ref h2, .ref h3, .ref h4, .ref h5, .ref h6, .ref h7, .ref h8, .ref h9, .ref h10, .ref h11, .int ys, hv1, hv2, hv3, hv4], wI (cy 1) h1 4 (fc), wI (cy 1) h7 48 (fx), wO s0 7 [.ref s1, .ref s2, .int (nI sl), .int spl, .int svo, .int swi, .int sch], wI (cy 1) s1 10 (fw), (er, .inl (cy 4, 4, .inr (.inr (.inr (.inr (eF (ea 0) (ea 1) (ea 2) (ea 3))))))), wO (ea 0) 2 [.ref (eg 0), .ref (ef 0), .int (et 0), .int (nI (el 0)), .int (nI (ei 0))], wI (cy 1) (eg 0) 10 (gc 0), wI (cy 1) (ef 0) 7 (xc 0), wO (ea 1) 2 [.ref (eg 1), .ref (ef 1), .int (et 1), .int (nI (el 1)), .int (nI (ei 1))], wI (cy 1) (eg 1) 10 (gc 1), wI (cy 1) (ef 1) 7 (xc 1), wO (ea 2) 2 [.ref (eg 2), .ref (ef 2), .int (et 2), .int (nI (el 2)), .int (nI (ei 2))], wI (cy 1) (eg 2) 10 (gc 2), wI (cy 1) (ef 2) 7 (xc 2), wO (ea 3) 2 [.ref (eg 3), .ref (ef 3), .int (et 3), .int (nI (el 3)), .int (nI (ei 3))], wI (cy 1) (eg 3) 10 (gc 3), wI (cy 1) (ef 3) 7 (xc 3)] (fun (r : Int32) (fpc2 : Nat → Int32) => (r = 0 ∨ r = 1) ∧ (rng fpc2 3 9) ∧ (okW c0 fw sl → (r = 1 ↔ cpP (fun c9 => (∃ k9, k9 < c1 ∧ byY fx (gc (fne k9).toNatClampNeg) ys (mvB c0 fw c9 gc fne k9) (plS (et (fne k9).toNatClampNeg) sl) c0 sl)) sl (ch - 1) fm cg))) (fun (fpc2 : Nat → Int32) => [wO p0 6 [.ref p1, .ref er, .ref ro, .ref p2, .ref p3, .ref p4, .ref h0, .ref s0, .int (nI ch)], wI (cy 1) p3 4 (fne), wI (cy 1) p4 40 (fqi), wI (cy 1) p2 3 (fpc2), wO h0 4 [.ref h1, .ref h2, .ref h3, .ref h4, .ref h5, .ref h6, .ref h7, .ref h8, .ref h9, .ref h10, .ref h11, .int ys, hv1, hv2, hv3, hv4], wI (cy 1) h1 4 (fc), wI (cy 1) h7 48 (fx), wO s0 7 [.ref s1, .ref s2, .int (nI sl), .int spl, .int svo, .int swi, .int sch], wI (cy 1) s1 10 (fw), (er, .inl (cy 4, 4, .inr (.inr (.inr (.inr (eF (ea 0) (ea 1) (ea 2) (ea 3))))))), wO (ea 0) 2 [.ref (eg 0), .ref (ef 0), .int (et 0), .int (nI (el 0)), .int (nI (ei 0))], wI (cy 1) (eg 0) 10 (gc 0), wI (cy 1) (ef 0) 7 (xc 0), wO (ea 1) 2 [.ref (eg 1), .ref (ef 1), .int (et 1), .int (nI (el 1)), .int (nI (ei 1))], wI (cy 1) (eg 1) 10 (gc 1), wI (cy 1) (ef 1) 7 (xc 1), wO (ea 2) 2 [.ref (eg 2), .ref (ef 2), .int (et 2), .int (nI (el 2)), .int (nI (ei 2))], wI (cy 1) (eg 2) 10 (gc 2), wI (cy 1) (ef 2) 7 (xc 2), wO (ea 3) 2 [.ref (eg 3), .ref (ef 3), .int (et 3), .int (nI (el 3)), .int (nI (ei 3))], wI (cy 1) (eg 3) 10 (gc 3), wI (cy 1) (ef 3) 7 (xc 3)]) := by
  refine XMi.start (by decide) (Nat.le_of_ble_eq_true rfl) ?_
  intro p e s m below meth c args A ls Q hat hQ
  obtain ⟨hx, hb, hr, hml, hown, hg, hlocks, hin, hK, hA, hP, hD, hS, hE, hl⟩ := hat
  have hown : s.vm.findClass RX6 = some m.cls := hown
  have hl : lv_has ls 5 [(0, .ref p0), (1, .int 1), (2, .int (nI fm)), (3, .int cg)] := hl
  have hk_1 := hel 0 (by decide)
  have hk_2 := hel 1 (by decide)
  have hk_3 := hel 2 (by decide)
  have hk_4 := hel 3 (by decide)
  refine lv_iload_n hx hb dX6_choosePlaces_0 rfl (lv_at hl 1 rfl) ?_
  refine lv_aload_n hx hb dX6_choosePlaces_1 rfl (lv_at hl 0 rfl) ?_
  refine va_get (D := D) (ci := 6) (v := .int (nI ch)) (C := RX6) (T := TX6) (N := 9) hx hb hg i_X6 hown hK hP 0 rfl rfl 8 (by decide) (hg _ m_593) (fun _ h9 => h9) rfl dX6_choosePlaces_2 ?_
  refine lv_icmp_ge (tgt := 13) hx hb dX6_choosePlaces_5 (by decide) (fun c_5 => ?_) (fun c_5 => ?_)
  · have q_6 : ch ≤ 1 := q_le (a := ch) (b := 1) rfl rfl (by omega) (by omega) c_5
    refine lv_aload_n hx hb dX6_choosePlaces_13 rfl (lv_at hl 0 rfl) ?_
    refine lv_iload_n hx hb dX6_choosePlaces_14 rfl (lv_at hl 3 rfl) ?_
    refine x_callVi (q := (RX6, TX6, 9)) (ci := 6) (q0 := 0) (wr := [wI (cy 1) p2 3 (fpc)]) (rest := []) ⟨hx, hb, hml, hown, hg, hl.1⟩ k_X6_87 (s_canBeYes l D cy p0 p1 p2 p3 p4 er ro ch fne fqi h0 h1 h2 h3 h4 h5 h6 h7 h8 h9 h10 h11 hv1 hv2 hv3 hv4 ys fc c0 c1 c2 c3 fx s0 s1 s2 sl spl svo swi sch fw ea eg ef et el ei gc xc cg (hne) (hcn) (by omega) (by omega) (by omega) (by omega) (hnx) (fun i9 h9 => by rcases (show i9 = 0 ∨ i9 = 1 ∨ i9 = 2 ∨ i9 = 3 by omega) with rfl | rfl | rfl | rfl <;> omega) (hes) (by omega) (hsw) (hqu)) E0_blind hK hP hD hS hA [0, 1, 2, 4, 5, 6, 7, 8, 9, 10, 11, 12, 13, 14, 15, 16, 17, 18, 19, 20, 21] [3] ⟨rfl, rfl, by decide +kernel, by decide +kernel, by decide +kernel⟩ rfl rfl (fun _ _ _ => trivial) dX6_choosePlaces_15 rfl rfl (Nat.le_of_ble_eq_true rfl) ⟨Nat.le_of_ble_eq_true rfl, Nat.le_of_ble_eq_true rfl⟩ ⟨Nat.le_of_ble_eq_true rfl, Nat.le_of_ble_eq_true rfl⟩ (fun zr7 zu7 H locs hw7 hP9 hD9 hS9 => ?_)
    clear hP hD hS
    refine reW [wI (cy 1) p2 3 (fpc), wO p0 6 [.ref p1, .ref er, .ref ro, .ref p2, .ref p3, .ref p4, .ref h0, .ref s0, .int (nI ch)], wI (cy 1) p3 4 (fne), wI (cy 1) p4 40 (fqi), wO h0 4 [.ref h1, .ref h2, .ref h3, .ref h4, .ref h5, .ref h6, .ref h7, .ref h8, .ref h9, .ref h10, .ref h11, .int ys, hv1, hv2, hv3, hv4], wI (cy 1) h1 4 (fc), wI (cy 1) h7 48 (fx), wO s0 7 [.ref s1, .ref s2, .int (nI sl), .int spl, .int svo, .int swi, .int sch], wI (cy 1) s1 10 (fw), (er, .inl (cy 4, 4, .inr (.inr (.inr (.inr (eF (ea 0) (ea 1) (ea 2) (ea 3))))))), wO (ea 0) 2 [.ref (eg 0), .ref (ef 0), .int (et 0), .int (nI (el 0)), .int (nI (ei 0))], wI (cy 1) (eg 0) 10 (gc 0), wI (cy 1) (ef 0) 7 (xc 0), wO (ea 1) 2 [.ref (eg 1), .ref (ef 1), .int (et 1), .int (nI (el 1)), .int (nI (ei 1))], wI (cy 1) (eg 1) 10 (gc 1), wI (cy 1) (ef 1) 7 (xc 1), wO (ea 2) 2 [.ref (eg 2), .ref (ef 2), .int (et 2), .int (nI (el 2)), .int (nI (ei 2))], wI (cy 1) (eg 2) 10 (gc 2), wI (cy 1) (ef 2) 7 (xc 2), wO (ea 3) 2 [.ref (eg 3), .ref (ef 3), .int (et 3), .int (nI (el 3)), .int (nI (ei 3))], wI (cy 1) (eg 3) 10 (gc 3), wI (cy 1) (ef 3) 7 (xc 3)] hP9 hD9 hS9 (fun hP hD hS => ?_)
    clear hP9 hD9 hS9
    refine W.widen (k := 0) (n := 0) (Nat.le_of_ble_eq_true rfl) (Nat.le_of_ble_eq_true rfl) ?_
    replace hw7 : (zr7 = 0 ∨ zr7 = 1) ∧ (okW c0 fw sl → (zr7 = 1 ↔ (∃ k9, k9 < c1 ∧ byY fx (gc (fne k9).toNatClampNeg) ys (mvB c0 fw cg gc fne k9) (plS (et (fne k9).toNatClampNeg) sl) c0 sl))) := hw7
    obtain ⟨f_8, f_9⟩ := hw7
    exact x_zret hQ hx hb hr hlocks hK hP hD hS (narB f_8) dX6_choosePlaces_18 fpc (⟨f_8, hpc, cp_z (by omega) f_9⟩) [1, 2, 3, 0, 4, 5, 6, 7, 8, 9, 10, 11, 12, 13, 14, 15, 16, 17, 18, 19, 20, 21] (by decide +kernel) rfl (Nat.le_of_ble_eq_true rfl) (Nat.le_of_ble_eq_true rfl)
  · have q_6 : 1 < ch := q_nle (a := ch) (b := 1) rfl rfl (by omega) (by omega) c_5
    refine lv_iload_n hx hb dX6_choosePlaces_8 rfl (lv_at hl 1 rfl) ?_
    refine lv_iconst (v := 3) hx hb dX6_choosePlaces_9 (by decide) ?_
    refine lv_icmp_lt (tgt := 19) hx hb dX6_choosePlaces_10 (by decide) (fun _ => ?_) (fun h => absurd (by decide) h)
    refine lv_iload_n hx hb dX6_choosePlaces_19 rfl (lv_at hl 2 rfl) ?_
    refine lv_istore (lv' := [(4, .int (nI fm)), (0, .ref p0), (1, .int 1), (2, .int (nI fm)), (3, .int cg)]) hx hb dX6_choosePlaces_20 hl (by decide) rfl (fun ls hl => ?_)
    have loop10 : ∀ (zn : Nat) (i10 : Nat) (fa1_10 : Nat → Int32), (rng fa1_10 3 9) → (i10 ≤ 10) → (fm ≤ i10) → (okW c0 fw sl → ∀ i9 : Nat, fm ≤ i9 → i9 < i10 → i9 < sl → ¬ cpP (fun c9 => (∃ k9, k9 < c1 ∧ byY fx (gc (fne k9).toNatClampNeg) ys (mvB c0 fw c9 gc fne k9) (plS (et (fne k9).toNatClampNeg) sl) c0 sl)) sl (ch - 2) (i9 + 1) (cg ||| ((1 : Int32) <<< (nI i9 &&& 31)))) → 10 - i10 + 1 ≤ zn → ∀ (H : Heap) (locs : List Loc), va_P D vwCl [wO p0 6 [.ref p1, .ref er, .ref ro, .ref p2, .ref p3, .ref p4, .ref h0, .ref s0, .int (nI ch)], wI (cy 1) p3 4 (fne), wI (cy 1) p4 40 (fqi), wI (cy 1) p2 3 (fa1_10), wO h0 4 [.ref h1, .ref h2, .ref h3, .ref h4, .ref h5, .ref h6, .ref h7, .ref h8, .ref h9, .ref h10, .ref h11, .int ys, hv1, hv2, hv3, hv4], wI (cy 1) h1 4 (fc), wI (cy 1) h7 48 (fx), wO s0 7 [.ref s1, .ref s2, .int (nI sl), .int spl, .int svo, .int swi, .int sch], wI (cy 1) s1 10 (fw), (er, .inl (cy 4, 4, .inr (.inr (.inr (.inr (eF (ea 0) (ea 1) (ea 2) (ea 3))))))), wO (ea 0) 2 [.ref (eg 0), .ref (ef 0), .int (et 0), .int (nI (el 0)), .int (nI (ei 0))], wI (cy 1) (eg 0) 10 (gc 0), wI (cy 1) (ef 0) 7 (xc 0), wO (ea 1) 2 [.ref (eg 1), .ref (ef 1), .int (et 1), .int (nI (el 1)), .int (nI (ei 1))], wI (cy 1) (eg 1) 10 (gc 1), wI (cy 1) (ef 1) 7 (xc 1), wO (ea 2) 2 [.ref (eg 2), .ref (ef 2), .int (et 2), .int (nI (el 2)), .int (nI (ei 2))], wI (cy 1) (eg 2) 10 (gc 2), wI (cy 1) (ef 2) 7 (xc 2), wO (ea 3) 2 [.ref (eg 3), .ref (ef 3), .int (et 3), .int (nI (el 3)), .int (nI (ei 3))], wI (cy 1) (eg 3) 10 (gc 3), wI (cy 1) (ef 3) 7 (xc 3)] H → va_D A [wO p0 6 [.ref p1, .ref er, .ref ro, .ref p2, .ref p3, .ref p4, .ref h0, .ref s0, .int (nI ch)], wI (cy 1) p3 4 (fne), wI (cy 1) p4 40 (fqi), wI (cy 1) p2 3 (fa1_10), wO h0 4 [.ref h1, .ref h2, .ref h3, .ref h4, .ref h5, .ref h6, .ref h7, .ref h8, .ref h9, .ref h10, .ref h11, .int ys, hv1, hv2, hv3, hv4], wI (cy 1) h1 4 (fc), wI (cy 1) h7 48 (fx), wO s0 7 [.ref s1, .ref s2, .int (nI sl), .int spl, .int svo, .int swi, .int sch], wI (cy 1) s1 10 (fw), (er, .inl (cy 4, 4, .inr (.inr (.inr (.inr (eF (ea 0) (ea 1) (ea 2) (ea 3))))))), wO (ea 0) 2 [.ref (eg 0), .ref (ef 0), .int (et 0), .int (nI (el 0)), .int (nI (ei 0))], wI (cy 1) (eg 0) 10 (gc 0), wI (cy 1) (ef 0) 7 (xc 0), wO (ea 1) 2 [.ref (eg 1), .ref (ef 1), .int (et 1), .int (nI (el 1)), .int (nI (ei 1))], wI (cy 1) (eg 1) 10 (gc 1), wI (cy 1) (ef 1) 7 (xc 1), wO (ea 2) 2 [.ref (eg 2), .ref (ef 2), .int (et 2), .int (nI (el 2)), .int (nI (ei 2))], wI (cy 1) (eg 2) 10 (gc 2), wI (cy 1) (ef 2) 7 (xc 2), wO (ea 3) 2 [.ref (eg 3), .ref (ef 3), .int (et 3), .int (nI (el 3)), .int (nI (ei 3))], wI (cy 1) (eg 3) 10 (gc 3), wI (cy 1) (ef 3) 7 (xc 3)] → va_S A s.heap H locs → ∀ ls : Array Slot, lv_has ls 5 [(4, .int (nI i10)), (0, .ref p0), (1, .int 1), (2, .int (nI fm)), (3, .int cg)] → W p l e (rmk 6 0 0) s m args below meth c H locs 0 0 Q (F0 m 22 ls []) := by
      try clear hP hD hS
      intro zn
      induction zn with
      | zero => intro i10 fa1_10 _ _ _ _ hz; exact absurd hz (by omega)
      | succ zn ih10 =>
        intro i10 fa1_10 ha2_10 hf0_10 hf1_10 hf2_10 hmu10 H locs hP hD hS ls hl
        refine lv_iload hx hb dX6_choosePlaces_22 (lv_at hl 0 rfl) ?_
        refine lv_aload_n hx hb dX6_choosePlaces_24 rfl (lv_at hl 1 rfl) ?_
        refine va_get (D := D) (ci := 6) (v := .ref s0) (C := RX6) (T := TX6) (N := 9) hx hb hg i_X6 hown hK hP 0 rfl rfl 7 (by decide) (hg _ m_592) (fun _ h9 => h9) rfl dX6_choosePlaces_25 ?_
        refine va_get (D := D) (ci := 7) (v := .int (nI sl)) (C := RX7) (T := TX7) (N := 7) hx hb hg i_X7 hown hK hP 7 rfl rfl 2 (by decide) (hg _ m_630) (fun _ h9 => h9) rfl dX6_choosePlaces_28 ?_
        refine lv_icmp_ge (tgt := 70) hx hb dX6_choosePlaces_31 (by decide) (fun c_11 => ?_) (fun c_11 => ?_)
        · have q_12 : sl ≤ i10 := q_le (a := sl) (b := i10) rfl rfl (by omega) (by omega) c_11
          refine lv_iconst (v := 0) hx hb dX6_choosePlaces_70 (by decide) ?_
          exact x_zret hQ hx hb hr hlocks hK hP hD hS rfl dX6_choosePlaces_71 fa1_10 (⟨(Or.inl rfl), ha2_10, cp_0 (d := ch - 2) (i := i10) (by omega) hf2_10 (by omega)⟩) [0, 1, 2, 3, 4, 5, 6, 7, 8, 9, 10, 11, 12, 13, 14, 15, 16, 17, 18, 19, 20, 21] (by decide +kernel) rfl (Nat.le_of_ble_eq_true rfl) (Nat.le_of_ble_eq_true rfl)
        · have q_12 : i10 < sl := q_nle (a := sl) (b := i10) rfl rfl (by omega) (by omega) c_11
          refine lv_aload_n hx hb dX6_choosePlaces_34 rfl (lv_at hl 1 rfl) ?_
          refine va_get (D := D) (ci := 6) (v := .ref p2) (C := RX6) (T := TX6) (N := 9) hx hb hg i_X6 hown hK hP 0 rfl rfl 3 (by decide) (hg _ m_588) (fun _ h9 => h9) rfl dX6_choosePlaces_35 ?_
          refine lv_iload_n hx hb dX6_choosePlaces_38 rfl (lv_at hl 2 rfl) ?_
          refine lv_iload hx hb dX6_choosePlaces_39 (lv_at hl 0 rfl) ?_
          refine va_iast hx hb hK hP hD hS 3 1 rfl rfl (by unfold vp_in; decide) dX6_choosePlaces_41 (fun H locs hP9 hD9 hS9 => ?_)
          clear hP hD hS
          have hP := hP9
          have hD := hD9
          have hS := hS9
          clear hP9 hD9 hS9
          obtain ⟨g_13, eg_13⟩ : ∃ y, upd fa1_10 (1 : Int32).toNatClampNeg (nI i10) = y := ⟨_, rfl⟩
          rw [eg_13] at hP hD
          have hr_14 : rng g_13 3 9 := eg_13 ▸ rng_put ha2_10 (j := i10) (by omega)
          replace hP : va_P D vwCl [wO p0 6 [.ref p1, .ref er, .ref ro, .ref p2, .ref p3, .ref p4, .ref h0, .ref s0, .int (nI ch)], wI (cy 1) p3 4 (fne), wI (cy 1) p4 40 (fqi), wI (cy 1) p2 3 (g_13), wO h0 4 [.ref h1, .ref h2, .ref h3, .ref h4, .ref h5, .ref h6, .ref h7, .ref h8, .ref h9, .ref h10, .ref h11, .int ys, hv1, hv2, hv3, hv4], wI (cy 1) h1 4 (fc), wI (cy 1) h7 48 (fx), wO s0 7 [.ref s1, .ref s2, .int (nI sl), .int spl, .int svo, .int swi, .int sch], wI (cy 1) s1 10 (fw), (er, .inl (cy 4, 4, .inr (.inr (.inr (.inr (eF (ea 0) (ea 1) (ea 2) (ea 3))))))), wO (ea 0) 2 [.ref (eg 0), .ref (ef 0), .int (et 0), .int (nI (el 0)), .int (nI (ei 0))], wI (cy 1) (eg 0) 10 (gc 0), wI (cy 1) (ef 0) 7 (xc 0), wO (ea 1) 2 [.ref (eg 1), .ref (ef 1), .int (et 1), .int (nI (el 1)), .int (nI (ei 1))], wI (cy 1) (eg 1) 10 (gc 1), wI (cy 1) (ef 1) 7 (xc 1), wO (ea 2) 2 [.ref (eg 2), .ref (ef 2), .int (et 2), .int (nI (el 2)), .int (nI (ei 2))], wI (cy 1) (eg 2) 10 (gc 2), wI (cy 1) (ef 2) 7 (xc 2), wO (ea 3) 2 [.ref (eg 3), .ref (ef 3), .int (et 3), .int (nI (el 3)), .int (nI (ei 3))], wI (cy 1) (eg 3) 10 (gc 3), wI (cy 1) (ef 3) 7 (xc 3)] H := hP
          replace hD : va_D A [wO p0 6 [.ref p1, .ref er, .ref ro, .ref p2, .ref p3, .ref p4, .ref h0, .ref s0, .int (nI ch)], wI (cy 1) p3 4 (fne), wI (cy 1) p4 40 (fqi), wI (cy 1) p2 3 (g_13), wO h0 4 [.ref h1, .ref h2, .ref h3, .ref h4, .ref h5, .ref h6, .ref h7, .ref h8, .ref h9, .ref h10, .ref h11, .int ys, hv1, hv2, hv3, hv4], wI (cy 1) h1 4 (fc), wI (cy 1) h7 48 (fx), wO s0 7 [.ref s1, .ref s2, .int (nI sl), .int spl, .int svo, .int swi, .int sch], wI (cy 1) s1 10 (fw), (er, .inl (cy 4, 4, .inr (.inr (.inr (.inr (eF (ea 0) (ea 1) (ea 2) (ea 3))))))), wO (ea 0) 2 [.ref (eg 0), .ref (ef 0), .int (et 0), .int (nI (el 0)), .int (nI (ei 0))], wI (cy 1) (eg 0) 10 (gc 0), wI (cy 1) (ef 0) 7 (xc 0), wO (ea 1) 2 [.ref (eg 1), .ref (ef 1), .int (et 1), .int (nI (el 1)), .int (nI (ei 1))], wI (cy 1) (eg 1) 10 (gc 1), wI (cy 1) (ef 1) 7 (xc 1), wO (ea 2) 2 [.ref (eg 2), .ref (ef 2), .int (et 2), .int (nI (el 2)), .int (nI (ei 2))], wI (cy 1) (eg 2) 10 (gc 2), wI (cy 1) (ef 2) 7 (xc 2), wO (ea 3) 2 [.ref (eg 3), .ref (ef 3), .int (et 3), .int (nI (el 3)), .int (nI (ei 3))], wI (cy 1) (eg 3) 10 (gc 3), wI (cy 1) (ef 3) 7 (xc 3)] := hD
          refine lv_aload_n hx hb dX6_choosePlaces_42 rfl (lv_at hl 1 rfl) ?_
          refine lv_iload_n hx hb dX6_choosePlaces_43 rfl (lv_at hl 2 rfl) ?_
          refine lv_iconst (v := 1) hx hb dX6_choosePlaces_44 (by decide) ?_
          refine lv_iadd hx hb dX6_choosePlaces_45 ?_
          refine lv_topi (fun y_15 hy_15 => ?_)
          obtain rfl : y_15 = 2 := hy_15.trans (by decide +kernel)
          refine lv_iload hx hb dX6_choosePlaces_46 (lv_at hl 0 rfl) ?_
          refine lv_iconst (v := 1) hx hb dX6_choosePlaces_48 (by decide) ?_
          refine lv_iadd hx hb dX6_choosePlaces_49 ?_
          refine lv_topi (fun y_16 hy_16 => ?_)
          obtain rfl : y_16 = nI (i10 + 1) := hy_16.trans (nI_add i10 1)
          refine lv_iload_n hx hb dX6_choosePlaces_50 rfl (lv_at hl 4 rfl) ?_
          refine lv_iconst (v := 1) hx hb dX6_choosePlaces_51 (by decide) ?_
          refine lv_iload hx hb dX6_choosePlaces_52 (lv_at hl 0 rfl) ?_
          refine lv_ishl hx hb dX6_choosePlaces_54 ?_
          refine lv_topi (fun x_17 ex_17 => ?_)
          refine lv_ior hx hb dX6_choosePlaces_55 ?_
          refine lv_topi (fun x_18 ex_18 => ?_)
          refine x_callVi (q := (RX6, TX6, 9)) (ci := 6) (q0 := 0) (wr := []) (rest := []) ⟨hx, hb, hml, hown, hg, hl.1⟩ k_X6_69 (s_choosePlaces2 l D cy p0 p1 p2 p3 p4 er ro ch fne fqi g_13 h0 h1 h2 h3 h4 h5 h6 h7 h8 h9 h10 h11 hv1 hv2 hv3 hv4 ys fc c0 c1 c2 c3 fx s0 s1 s2 sl spl svo swi sch fw ea eg ef et el ei gc xc ((i10 + 1)) x_18 (hne) (hr_14) (by omega) (hcn) (by omega) (by omega) (by omega) (by omega) (hnx) (fun i9 h9 => by rcases (show i9 = 0 ∨ i9 = 1 ∨ i9 = 2 ∨ i9 = 3 by omega) with rfl | rfl | rfl | rfl <;> omega) (hes) (by omega) (hsw) (by omega) (hqu)) E0_blind hK hP hD hS hA [0, 1, 2, 3, 4, 5, 6, 7, 8, 9, 10, 11, 12, 13, 14, 15, 16, 17, 18, 19, 20, 21] [] ⟨rfl, rfl, by decide +kernel, by decide +kernel, by decide +kernel⟩ rfl rfl (fun _ _ _ => trivial) dX6_choosePlaces_56 rfl rfl (Nat.le_of_ble_eq_true rfl) ⟨Nat.le_of_ble_eq_true rfl, Nat.le_of_ble_eq_true rfl⟩ ⟨Nat.le_of_ble_eq_true rfl, Nat.le_of_ble_eq_true rfl⟩ (fun zr19 zu19 H locs hw19 hP9 hD9 hS9 => ?_)
          clear hP hD hS
          obtain ⟨fpc2_20, rfl⟩ : ∃ z, z = zu19 := ⟨_, rfl⟩
          refine reW [wO p0 6 [.ref p1, .ref er, .ref ro, .ref p2, .ref p3, .ref p4, .ref h0, .ref s0, .int (nI ch)], wI (cy 1) p3 4 (fne), wI (cy 1) p4 40 (fqi), wI (cy 1) p2 3 (fpc2_20), wO h0 4 [.ref h1, .ref h2, .ref h3, .ref h4, .ref h5, .ref h6, .ref h7, .ref h8, .ref h9, .ref h10, .ref h11, .int ys, hv1, hv2, hv3, hv4], wI (cy 1) h1 4 (fc), wI (cy 1) h7 48 (fx), wO s0 7 [.ref s1, .ref s2, .int (nI sl), .int spl, .int svo, .int swi, .int sch], wI (cy 1) s1 10 (fw), (er, .inl (cy 4, 4, .inr (.inr (.inr (.inr (eF (ea 0) (ea 1) (ea 2) (ea 3))))))), wO (ea 0) 2 [.ref (eg 0), .ref (ef 0), .int (et 0), .int (nI (el 0)), .int (nI (ei 0))], wI (cy 1) (eg 0) 10 (gc 0), wI (cy 1) (ef 0) 7 (xc 0), wO (ea 1) 2 [.ref (eg 1), .ref (ef 1), .int (et 1), .int (nI (el 1)), .int (nI (ei 1))], wI (cy 1) (eg 1) 10 (gc 1), wI (cy 1) (ef 1) 7 (xc 1), wO (ea 2) 2 [.ref (eg 2), .ref (ef 2), .int (et 2), .int (nI (el 2)), .int (nI (ei 2))], wI (cy 1) (eg 2) 10 (gc 2), wI (cy 1) (ef 2) 7 (xc 2), wO (ea 3) 2 [.ref (eg 3), .ref (ef 3), .int (et 3), .int (nI (el 3)), .int (nI (ei 3))], wI (cy 1) (eg 3) 10 (gc 3), wI (cy 1) (ef 3) 7 (xc 3)] hP9 hD9 hS9 (fun hP hD hS => ?_)
          clear hP9 hD9 hS9
          refine W.widen (k := 0) (n := 0) (Nat.le_of_ble_eq_true rfl) (Nat.le_of_ble_eq_true rfl) ?_
          replace hw19 : (zr19 = 0 ∨ zr19 = 1) ∧ (rng fpc2_20 3 9) ∧ (okW c0 fw sl → (zr19 = 1 ↔ cpP (fun c9 => (∃ k9, k9 < c1 ∧ byY fx (gc (fne k9).toNatClampNeg) ys (mvB c0 fw c9 gc fne k9) (plS (et (fne k9).toNatClampNeg) sl) c0 sl)) sl (ch - 2) ((i10 + 1)) x_18)) := hw19
          obtain ⟨f_21, f_22, f_23⟩ := hw19
          refine lv_if_eq (tgt := 64) hx hb dX6_choosePlaces_59 (by decide) (fun c_59 => ?_) (fun c_59 => ?_)
          · refine lv_iinc (v := nI (i10 + 1)) (lv' := [(4, .int (nI (i10 + 1))), (0, .ref p0), (1, .int 1), (2, .int (nI fm)), (3, .int cg)]) hx hb dX6_choosePlaces_64 hl (k := 0) rfl (nI_add i10 1) (by decide) rfl (fun ls hl => ?_)
            refine lv_goto (tgt := 22) hx hb dX6_choosePlaces_67 (by decide) ?_
            exact ih10  ((i10 + 1)) fpc2_20 f_22 (by omega) (by omega) (cp_n hf2_10 f_23 c_59 ex_17 ex_18) (by omega) _ _ (hP.sub [0, 1, 2, 3, 4, 5, 6, 7, 8, 9, 10, 11, 12, 13, 14, 15, 16, 17, 18, 19, 20, 21] rfl) (hD.sub [0, 1, 2, 3, 4, 5, 6, 7, 8, 9, 10, 11, 12, 13, 14, 15, 16, 17, 18, 19, 20, 21] (by decide +kernel) rfl) hS ls (lv_sub hl [0, 1, 2, 3, 4] rfl)
          · refine lv_iconst (v := 1) hx hb dX6_choosePlaces_62 (by decide) ?_
            exact x_zret hQ hx hb hr hlocks hK hP hD hS rfl dX6_choosePlaces_63 fpc2_20 (⟨(Or.inr rfl), f_22, cp_1 (d := ch - 2) (i := i10) (by omega) (by omega) (by omega) f_23 (f_21.resolve_left c_59) ex_17 ex_18⟩) [0, 1, 2, 3, 4, 5, 6, 7, 8, 9, 10, 11, 12, 13, 14, 15, 16, 17, 18, 19, 20, 21] (by decide +kernel) rfl (Nat.le_of_ble_eq_true rfl) (Nat.le_of_ble_eq_true rfl)
    exact loop10 _ fm fpc hpc (by omega) (by omega) (fun _ i9 h1 h2 => absurd h2 (by omega)) (Nat.le_refl _) _ _ (hP.sub [0, 1, 2, 3, 4, 5, 6, 7, 8, 9, 10, 11, 12, 13, 14, 15, 16, 17, 18, 19, 20, 21] rfl) (hD.sub [0, 1, 2, 3, 4, 5, 6, 7, 8, 9, 10, 11, 12, 13, 14, 15, 16, 17, 18, 19, 20, 21] (by decide +kernel) rfl) hS ls (lv_sub hl [0, 1, 2, 3, 4] rfl)
set_option maxHeartbeats 1000000 in
set_option maxRecDepth 100000 in
theorem s_choosePlaces0 (l : Launch) (D : va_G) (cy : Nat → ClassId) (p0 : Nat) (p1 : Nat) (p2 : Nat) (p3 : Nat) (p4 : Nat) (er : Nat) (ro : Nat) (ch : Nat) (fne : Nat → Int32) (fqi : Nat → Int32) (fpc : Nat → Int32) (h0 : Nat) (h1 : Nat) (h2 : Nat) (h3 : Nat) (h4 : Nat) (h5 : Nat) (h6 : Nat) (h7 : Nat) (h8 : Nat) (h9 : Nat) (h10 : Nat) (h11 : Nat) (hv1 : Value) (hv2 : Value) (hv3 : Value) (hv4 : Value) (ys : Int32) (fc : Nat → Int32) (c0 : Nat) (c1 : Nat) (c2 : Nat) (c3 : Nat) (fx : Nat → Int32) (s0 : Nat) (s1 : Nat) (s2 : Nat) (sl : Nat) (spl : Int32) (svo : Int32) (swi : Int32) (sch : Int32) (fw : Nat → Int32) (ea : Nat → Nat) (eg : Nat → Nat) (ef : Nat → Nat) (et : Nat → Int32) (el : Nat → Nat) (ei : Nat → Nat) (gc : Nat → Nat → Int32) (xc : Nat → Nat → Int32) (fm : Nat) (cg : Int32) (hne : nOK fne c1) (hpc : rng fpc 3 9) (hch : ch ≤ 3) (hcn : cntOK fc c0 c1 c2 c3) (hc0 : c0 ≤ 8) (hc1 : c1 ≤ 4) (hc2 : c2 ≤ 4) (hc3 : c3 ≤ 6) (hnx : rng fx 48 5) (hel : ∀ i9, i9 < 4 → el i9 ≤ 10) (hes : ∀ i9, i9 < c1 → el i9 = sl) (hsl : sl ≤ 10) (hsw : rng fw 10 7) (hfm : fm ≤ 10) (hqu : ∀ rk9 i9 w9 : Nat, rk9 < c1 → i9 < sl → w9 < 8 → bt (fqi (rk9 * 10 + i9)) w9 = alF (quQ gc fne i9 w9) rk9) : XMi l D (tyL cy) E0 yX6_choosePlaces cX6_choosePlaces 5 (some .boolean) (rmk 7 0 0) [.ref p0, .int 0, .int (nI fm), .int cg] [wO p0 6 [.ref p1, .ref er, .ref ro, .ref p2, .ref p3, .ref p4, .ref h0, .ref s0, .int (nI ch)], wI (cy 1) p3 4 (fne), wI (cy 1) p4 40 (fqi), wI (cy 1) p2 3 (fpc), wO h0 4 [.ref h1, .ref h2, .ref h3, .ref h4, .ref h5, .ref h6, .ref h7, .ref h8, .ref h9, .ref h10, .ref h11, .int ys, hv1, hv2, hv3, hv4], wI (cy 1) h1 4 (fc), wI (cy 1) h7 48 (fx), wO s0 7 [.ref s1, .ref s2, .int (nI sl), .int spl, .int svo, .int swi, .int sch], wI (cy 1) s1 10 (fw), (er, .inl (cy 4, 4, .inr (.inr (.inr (.inr (eF (ea 0) (ea 1) (ea 2) (ea 3))))))), wO (ea 0) 2 [.ref (eg 0), .ref (ef 0), .int (et 0), .int (nI (el 0)), .int (nI (ei 0))], wI (cy 1) (eg 0) 10 (gc 0), wI (cy 1) (ef 0) 7 (xc 0), wO (ea 1) 2 [.ref (eg 1), .ref (ef 1), .int (et 1), .int (nI (el 1)), .int (nI (ei 1))], wI (cy 1) (eg 1) 10 (gc 1), wI (cy 1) (ef 1) 7 (xc 1), wO (ea 2) 2 [.ref (eg 2), .ref (ef 2), .int (et 2), .int (nI (el 2)), .int (nI (ei 2))], wI (cy 1) (eg 2) 10 (gc 2), wI (cy 1) (ef 2) 7 (xc 2), wO (ea 3) 2 [.ref (eg 3), .ref (ef 3), .int (et 3), .int (nI (el 3)), .int (nI (ei 3))], wI (cy 1) (eg 3) 10 (gc 3), wI (cy 1) (ef 3) 7 (xc 3)] (fun (r : Int32) (fpc2 : Nat → Int32) => (r = 0 ∨ r = 1) ∧ (rng fpc2 3 9) ∧ (okW c0 fw sl → (r = 1 ↔ cpP (fun c9 => (∃ k9, k9 < c1 ∧ byY fx (gc (fne k9).toNatClampNeg) ys (mvB c0 fw c9 gc fne k9) (plS (et (fne k9).toNatClampNeg) sl) c0 sl)) sl (ch - 0) fm cg))) (fun (fpc2 : Nat → Int32) => [wO p0 6 [.ref p1, .ref er, .ref ro, .ref p2, .ref p3, .ref p4, .ref h0, .ref s0, .int (nI ch)], wI (cy 1) p3 4 (fne), wI (cy 1) p4 40 (fqi), wI (cy 1) p2 3 (fpc2), wO h0 4 [.ref h1, .ref h2, .ref h3, .ref h4, .ref h5, .ref h6, .ref h7, .ref h8, .ref h9, .ref h10, .ref h11, .int ys, hv1, hv2, hv3, hv4], wI (cy 1) h1 4 (fc), wI (cy 1) h7 48 (fx), wO s0 7 [.ref s1, .ref s2, .int (nI sl), .int spl, .int svo, .int swi, .int sch], wI (cy 1) s1 10 (fw), (er, .inl (cy 4, 4, .inr (.inr (.inr (.inr (eF (ea 0) (ea 1) (ea 2) (ea 3))))))), wO (ea 0) 2 [.ref (eg 0), .ref (ef 0), .int (et 0), .int (nI (el 0)), .int (nI (ei 0))], wI (cy 1) (eg 0) 10 (gc 0), wI (cy 1) (ef 0) 7 (xc 0), wO (ea 1) 2 [.ref (eg 1), .ref (ef 1), .int (et 1), .int (nI (el 1)), .int (nI (ei 1))], wI (cy 1) (eg 1) 10 (gc 1), wI (cy 1) (ef 1) 7 (xc 1), wO (ea 2) 2 [.ref (eg 2), .ref (ef 2), .int (et 2), .int (nI (el 2)), .int (nI (ei 2))], wI (cy 1) (eg 2) 10 (gc 2), wI (cy 1) (ef 2) 7 (xc 2), wO (ea 3) 2 [.ref (eg 3), .ref (ef 3), .int (et 3), .int (nI (el 3)), .int (nI (ei 3))], wI (cy 1) (eg 3) 10 (gc 3), wI (cy 1) (ef 3) 7 (xc 3)]) := by
  refine XMi.start (by decide) (Nat.le_of_ble_eq_true rfl) ?_
  intro p e s m below meth c args A ls Q hat hQ
  obtain ⟨hx, hb, hr, hml, hown, hg, hlocks, hin, hK, hA, hP, hD, hS, hE, hl⟩ := hat
  have hown : s.vm.findClass RX6 = some m.cls := hown
  have hl : lv_has ls 5 [(0, .ref p0), (1, .int 0), (2, .int (nI fm)), (3, .int cg)] := hl
  have hk_1 := hel 0 (by decide)
  have hk_2 := hel 1 (by decide)
  have hk_3 := hel 2 (by decide)
  have hk_4 := hel 3 (by decide)
  refine lv_iload_n hx hb dX6_choosePlaces_0 rfl (lv_at hl 1 rfl) ?_
  refine lv_aload_n hx hb dX6_choosePlaces_1 rfl (lv_at hl 0 rfl) ?_
  refine va_get (D := D) (ci := 6) (v := .int (nI ch)) (C := RX6) (T := TX6) (N := 9) hx hb hg i_X6 hown hK hP 0 rfl rfl 8 (by decide) (hg _ m_593) (fun _ h9 => h9) rfl dX6_choosePlaces_2 ?_
  refine lv_icmp_ge (tgt := 13) hx hb dX6_choosePlaces_5 (by decide) (fun c_5 => ?_) (fun c_5 => ?_)
  · have q_6 : ch ≤ 0 := q_le (a := ch) (b := 0) rfl rfl (by omega) (by omega) c_5
    refine lv_aload_n hx hb dX6_choosePlaces_13 rfl (lv_at hl 0 rfl) ?_
    refine lv_iload_n hx hb dX6_choosePlaces_14 rfl (lv_at hl 3 rfl) ?_
    refine x_callVi (q := (RX6, TX6, 9)) (ci := 6) (q0 := 0) (wr := [wI (cy 1) p2 3 (fpc)]) (rest := []) ⟨hx, hb, hml, hown, hg, hl.1⟩ k_X6_87 (s_canBeYes l D cy p0 p1 p2 p3 p4 er ro ch fne fqi h0 h1 h2 h3 h4 h5 h6 h7 h8 h9 h10 h11 hv1 hv2 hv3 hv4 ys fc c0 c1 c2 c3 fx s0 s1 s2 sl spl svo swi sch fw ea eg ef et el ei gc xc cg (hne) (hcn) (by omega) (by omega) (by omega) (by omega) (hnx) (fun i9 h9 => by rcases (show i9 = 0 ∨ i9 = 1 ∨ i9 = 2 ∨ i9 = 3 by omega) with rfl | rfl | rfl | rfl <;> omega) (hes) (by omega) (hsw) (hqu)) E0_blind hK hP hD hS hA [0, 1, 2, 4, 5, 6, 7, 8, 9, 10, 11, 12, 13, 14, 15, 16, 17, 18, 19, 20, 21] [3] ⟨rfl, rfl, by decide +kernel, by decide +kernel, by decide +kernel⟩ rfl rfl (fun _ _ _ => trivial) dX6_choosePlaces_15 rfl rfl (Nat.le_of_ble_eq_true rfl) ⟨Nat.le_of_ble_eq_true rfl, Nat.le_of_ble_eq_true rfl⟩ ⟨Nat.le_of_ble_eq_true rfl, Nat.le_of_ble_eq_true rfl⟩ (fun zr7 zu7 H locs hw7 hP9 hD9 hS9 => ?_)
    clear hP hD hS
    refine reW [wI (cy 1) p2 3 (fpc), wO p0 6 [.ref p1, .ref er, .ref ro, .ref p2, .ref p3, .ref p4, .ref h0, .ref s0, .int (nI ch)], wI (cy 1) p3 4 (fne), wI (cy 1) p4 40 (fqi), wO h0 4 [.ref h1, .ref h2, .ref h3, .ref h4, .ref h5, .ref h6, .ref h7, .ref h8, .ref h9, .ref h10, .ref h11, .int ys, hv1, hv2, hv3, hv4], wI (cy 1) h1 4 (fc), wI (cy 1) h7 48 (fx), wO s0 7 [.ref s1, .ref s2, .int (nI sl), .int spl, .int svo, .int swi, .int sch], wI (cy 1) s1 10 (fw), (er, .inl (cy 4, 4, .inr (.inr (.inr (.inr (eF (ea 0) (ea 1) (ea 2) (ea 3))))))), wO (ea 0) 2 [.ref (eg 0), .ref (ef 0), .int (et 0), .int (nI (el 0)), .int (nI (ei 0))], wI (cy 1) (eg 0) 10 (gc 0), wI (cy 1) (ef 0) 7 (xc 0), wO (ea 1) 2 [.ref (eg 1), .ref (ef 1), .int (et 1), .int (nI (el 1)), .int (nI (ei 1))], wI (cy 1) (eg 1) 10 (gc 1), wI (cy 1) (ef 1) 7 (xc 1), wO (ea 2) 2 [.ref (eg 2), .ref (ef 2), .int (et 2), .int (nI (el 2)), .int (nI (ei 2))], wI (cy 1) (eg 2) 10 (gc 2), wI (cy 1) (ef 2) 7 (xc 2), wO (ea 3) 2 [.ref (eg 3), .ref (ef 3), .int (et 3), .int (nI (el 3)), .int (nI (ei 3))], wI (cy 1) (eg 3) 10 (gc 3), wI (cy 1) (ef 3) 7 (xc 3)] hP9 hD9 hS9 (fun hP hD hS => ?_)
    clear hP9 hD9 hS9
    refine W.widen (k := 0) (n := 0) (Nat.le_of_ble_eq_true rfl) (Nat.le_of_ble_eq_true rfl) ?_
    replace hw7 : (zr7 = 0 ∨ zr7 = 1) ∧ (okW c0 fw sl → (zr7 = 1 ↔ (∃ k9, k9 < c1 ∧ byY fx (gc (fne k9).toNatClampNeg) ys (mvB c0 fw cg gc fne k9) (plS (et (fne k9).toNatClampNeg) sl) c0 sl))) := hw7
    obtain ⟨f_8, f_9⟩ := hw7
    exact x_zret hQ hx hb hr hlocks hK hP hD hS (narB f_8) dX6_choosePlaces_18 fpc (⟨f_8, hpc, cp_z (by omega) f_9⟩) [1, 2, 3, 0, 4, 5, 6, 7, 8, 9, 10, 11, 12, 13, 14, 15, 16, 17, 18, 19, 20, 21] (by decide +kernel) rfl (Nat.le_of_ble_eq_true rfl) (Nat.le_of_ble_eq_true rfl)
  · have q_6 : 0 < ch := q_nle (a := ch) (b := 0) rfl rfl (by omega) (by omega) c_5
    refine lv_iload_n hx hb dX6_choosePlaces_8 rfl (lv_at hl 1 rfl) ?_
    refine lv_iconst (v := 3) hx hb dX6_choosePlaces_9 (by decide) ?_
    refine lv_icmp_lt (tgt := 19) hx hb dX6_choosePlaces_10 (by decide) (fun _ => ?_) (fun h => absurd (by decide) h)
    refine lv_iload_n hx hb dX6_choosePlaces_19 rfl (lv_at hl 2 rfl) ?_
    refine lv_istore (lv' := [(4, .int (nI fm)), (0, .ref p0), (1, .int 0), (2, .int (nI fm)), (3, .int cg)]) hx hb dX6_choosePlaces_20 hl (by decide) rfl (fun ls hl => ?_)
    have loop10 : ∀ (zn : Nat) (i10 : Nat) (fa1_10 : Nat → Int32), (rng fa1_10 3 9) → (i10 ≤ 10) → (fm ≤ i10) → (okW c0 fw sl → ∀ i9 : Nat, fm ≤ i9 → i9 < i10 → i9 < sl → ¬ cpP (fun c9 => (∃ k9, k9 < c1 ∧ byY fx (gc (fne k9).toNatClampNeg) ys (mvB c0 fw c9 gc fne k9) (plS (et (fne k9).toNatClampNeg) sl) c0 sl)) sl (ch - 1) (i9 + 1) (cg ||| ((1 : Int32) <<< (nI i9 &&& 31)))) → 10 - i10 + 1 ≤ zn → ∀ (H : Heap) (locs : List Loc), va_P D vwCl [wO p0 6 [.ref p1, .ref er, .ref ro, .ref p2, .ref p3, .ref p4, .ref h0, .ref s0, .int (nI ch)], wI (cy 1) p3 4 (fne), wI (cy 1) p4 40 (fqi), wI (cy 1) p2 3 (fa1_10), wO h0 4 [.ref h1, .ref h2, .ref h3, .ref h4, .ref h5, .ref h6, .ref h7, .ref h8, .ref h9, .ref h10, .ref h11, .int ys, hv1, hv2, hv3, hv4], wI (cy 1) h1 4 (fc), wI (cy 1) h7 48 (fx), wO s0 7 [.ref s1, .ref s2, .int (nI sl), .int spl, .int svo, .int swi, .int sch], wI (cy 1) s1 10 (fw), (er, .inl (cy 4, 4, .inr (.inr (.inr (.inr (eF (ea 0) (ea 1) (ea 2) (ea 3))))))), wO (ea 0) 2 [.ref (eg 0), .ref (ef 0), .int (et 0), .int (nI (el 0)), .int (nI (ei 0))], wI (cy 1) (eg 0) 10 (gc 0), wI (cy 1) (ef 0) 7 (xc 0), wO (ea 1) 2 [.ref (eg 1), .ref (ef 1), .int (et 1), .int (nI (el 1)), .int (nI (ei 1))], wI (cy 1) (eg 1) 10 (gc 1), wI (cy 1) (ef 1) 7 (xc 1), wO (ea 2) 2 [.ref (eg 2), .ref (ef 2), .int (et 2), .int (nI (el 2)), .int (nI (ei 2))], wI (cy 1) (eg 2) 10 (gc 2), wI (cy 1) (ef 2) 7 (xc 2), wO (ea 3) 2 [.ref (eg 3), .ref (ef 3), .int (et 3), .int (nI (el 3)), .int (nI (ei 3))], wI (cy 1) (eg 3) 10 (gc 3), wI (cy 1) (ef 3) 7 (xc 3)] H → va_D A [wO p0 6 [.ref p1, .ref er, .ref ro, .ref p2, .ref p3, .ref p4, .ref h0, .ref s0, .int (nI ch)], wI (cy 1) p3 4 (fne), wI (cy 1) p4 40 (fqi), wI (cy 1) p2 3 (fa1_10), wO h0 4 [.ref h1, .ref h2, .ref h3, .ref h4, .ref h5, .ref h6, .ref h7, .ref h8, .ref h9, .ref h10, .ref h11, .int ys, hv1, hv2, hv3, hv4], wI (cy 1) h1 4 (fc), wI (cy 1) h7 48 (fx), wO s0 7 [.ref s1, .ref s2, .int (nI sl), .int spl, .int svo, .int swi, .int sch], wI (cy 1) s1 10 (fw), (er, .inl (cy 4, 4, .inr (.inr (.inr (.inr (eF (ea 0) (ea 1) (ea 2) (ea 3))))))), wO (ea 0) 2 [.ref (eg 0), .ref (ef 0), .int (et 0), .int (nI (el 0)), .int (nI (ei 0))], wI (cy 1) (eg 0) 10 (gc 0), wI (cy 1) (ef 0) 7 (xc 0), wO (ea 1) 2 [.ref (eg 1), .ref (ef 1), .int (et 1), .int (nI (el 1)), .int (nI (ei 1))], wI (cy 1) (eg 1) 10 (gc 1), wI (cy 1) (ef 1) 7 (xc 1), wO (ea 2) 2 [.ref (eg 2), .ref (ef 2), .int (et 2), .int (nI (el 2)), .int (nI (ei 2))], wI (cy 1) (eg 2) 10 (gc 2), wI (cy 1) (ef 2) 7 (xc 2), wO (ea 3) 2 [.ref (eg 3), .ref (ef 3), .int (et 3), .int (nI (el 3)), .int (nI (ei 3))], wI (cy 1) (eg 3) 10 (gc 3), wI (cy 1) (ef 3) 7 (xc 3)] → va_S A s.heap H locs → ∀ ls : Array Slot, lv_has ls 5 [(4, .int (nI i10)), (0, .ref p0), (1, .int 0), (2, .int (nI fm)), (3, .int cg)] → W p l e (rmk 7 0 0) s m args below meth c H locs 0 0 Q (F0 m 22 ls []) := by
      try clear hP hD hS
      intro zn
      induction zn with
      | zero => intro i10 fa1_10 _ _ _ _ hz; exact absurd hz (by omega)
      | succ zn ih10 =>
        intro i10 fa1_10 ha2_10 hf0_10 hf1_10 hf2_10 hmu10 H locs hP hD hS ls hl
        refine lv_iload hx hb dX6_choosePlaces_22 (lv_at hl 0 rfl) ?_
        refine lv_aload_n hx hb dX6_choosePlaces_24 rfl (lv_at hl 1 rfl) ?_
        refine va_get (D := D) (ci := 6) (v := .ref s0) (C := RX6) (T := TX6) (N := 9) hx hb hg i_X6 hown hK hP 0 rfl rfl 7 (by decide) (hg _ m_592) (fun _ h9 => h9) rfl dX6_choosePlaces_25 ?_
        refine va_get (D := D) (ci := 7) (v := .int (nI sl)) (C := RX7) (T := TX7) (N := 7) hx hb hg i_X7 hown hK hP 7 rfl rfl 2 (by decide) (hg _ m_630) (fun _ h9 => h9) rfl dX6_choosePlaces_28 ?_
        refine lv_icmp_ge (tgt := 70) hx hb dX6_choosePlaces_31 (by decide) (fun c_11 => ?_) (fun c_11 => ?_)
        · have q_12 : sl ≤ i10 := q_le (a := sl) (b := i10) rfl rfl (by omega) (by omega) c_11
          refine lv_iconst (v := 0) hx hb dX6_choosePlaces_70 (by decide) ?_
          exact x_zret hQ hx hb hr hlocks hK hP hD hS rfl dX6_choosePlaces_71 fa1_10 (⟨(Or.inl rfl), ha2_10, cp_0 (d := ch - 1) (i := i10) (by omega) hf2_10 (by omega)⟩) [0, 1, 2, 3, 4, 5, 6, 7, 8, 9, 10, 11, 12, 13, 14, 15, 16, 17, 18, 19, 20, 21] (by decide +kernel) rfl (Nat.le_of_ble_eq_true rfl) (Nat.le_of_ble_eq_true rfl)
        · have q_12 : i10 < sl := q_nle (a := sl) (b := i10) rfl rfl (by omega) (by omega) c_11
          refine lv_aload_n hx hb dX6_choosePlaces_34 rfl (lv_at hl 1 rfl) ?_
          refine va_get (D := D) (ci := 6) (v := .ref p2) (C := RX6) (T := TX6) (N := 9) hx hb hg i_X6 hown hK hP 0 rfl rfl 3 (by decide) (hg _ m_588) (fun _ h9 => h9) rfl dX6_choosePlaces_35 ?_
          refine lv_iload_n hx hb dX6_choosePlaces_38 rfl (lv_at hl 2 rfl) ?_
          refine lv_iload hx hb dX6_choosePlaces_39 (lv_at hl 0 rfl) ?_
          refine va_iast hx hb hK hP hD hS 3 1 rfl rfl (by unfold vp_in; decide) dX6_choosePlaces_41 (fun H locs hP9 hD9 hS9 => ?_)
          clear hP hD hS
          have hP := hP9
          have hD := hD9
          have hS := hS9
          clear hP9 hD9 hS9
          obtain ⟨g_13, eg_13⟩ : ∃ y, upd fa1_10 (0 : Int32).toNatClampNeg (nI i10) = y := ⟨_, rfl⟩
          rw [eg_13] at hP hD
          have hr_14 : rng g_13 3 9 := eg_13 ▸ rng_put ha2_10 (j := i10) (by omega)
          replace hP : va_P D vwCl [wO p0 6 [.ref p1, .ref er, .ref ro, .ref p2, .ref p3, .ref p4, .ref h0, .ref s0, .int (nI ch)], wI (cy 1) p3 4 (fne), wI (cy 1) p4 40 (fqi), wI (cy 1) p2 3 (g_13), wO h0 4 [.ref h1, .ref h2, .ref h3, .ref h4, .ref h5, .ref h6, .ref h7, .ref h8, .ref h9, .ref h10, .ref h11, .int ys, hv1, hv2, hv3, hv4], wI (cy 1) h1 4 (fc), wI (cy 1) h7 48 (fx), wO s0 7 [.ref s1, .ref s2, .int (nI sl), .int spl, .int svo, .int swi, .int sch], wI (cy 1) s1 10 (fw), (er, .inl (cy 4, 4, .inr (.inr (.inr (.inr (eF (ea 0) (ea 1) (ea 2) (ea 3))))))), wO (ea 0) 2 [.ref (eg 0), .ref (ef 0), .int (et 0), .int (nI (el 0)), .int (nI (ei 0))], wI (cy 1) (eg 0) 10 (gc 0), wI (cy 1) (ef 0) 7 (xc 0), wO (ea 1) 2 [.ref (eg 1), .ref (ef 1), .int (et 1), .int (nI (el 1)), .int (nI (ei 1))], wI (cy 1) (eg 1) 10 (gc 1), wI (cy 1) (ef 1) 7 (xc 1), wO (ea 2) 2 [.ref (eg 2), .ref (ef 2), .int (et 2), .int (nI (el 2)), .int (nI (ei 2))], wI (cy 1) (eg 2) 10 (gc 2), wI (cy 1) (ef 2) 7 (xc 2), wO (ea 3) 2 [.ref (eg 3), .ref (ef 3), .int (et 3), .int (nI (el 3)), .int (nI (ei 3))], wI (cy 1) (eg 3) 10 (gc 3), wI (cy 1) (ef 3) 7 (xc 3)] H := hP
          replace hD : va_D A [wO p0 6 [.ref p1, .ref er, .ref ro, .ref p2, .ref p3, .ref p4, .ref h0, .ref s0, .int (nI ch)], wI (cy 1) p3 4 (fne), wI (cy 1) p4 40 (fqi), wI (cy 1) p2 3 (g_13), wO h0 4 [.ref h1, .ref h2, .ref h3, .ref h4, .ref h5, .ref h6, .ref h7, .ref h8, .ref h9, .ref h10, .ref h11, .int ys, hv1, hv2, hv3, hv4], wI (cy 1) h1 4 (fc), wI (cy 1) h7 48 (fx), wO s0 7 [.ref s1, .ref s2, .int (nI sl), .int spl, .int svo, .int swi, .int sch], wI (cy 1) s1 10 (fw), (er, .inl (cy 4, 4, .inr (.inr (.inr (.inr (eF (ea 0) (ea 1) (ea 2) (ea 3))))))), wO (ea 0) 2 [.ref (eg 0), .ref (ef 0), .int (et 0), .int (nI (el 0)), .int (nI (ei 0))], wI (cy 1) (eg 0) 10 (gc 0), wI (cy 1) (ef 0) 7 (xc 0), wO (ea 1) 2 [.ref (eg 1), .ref (ef 1), .int (et 1), .int (nI (el 1)), .int (nI (ei 1))], wI (cy 1) (eg 1) 10 (gc 1), wI (cy 1) (ef 1) 7 (xc 1), wO (ea 2) 2 [.ref (eg 2), .ref (ef 2), .int (et 2), .int (nI (el 2)), .int (nI (ei 2))], wI (cy 1) (eg 2) 10 (gc 2), wI (cy 1) (ef 2) 7 (xc 2), wO (ea 3) 2 [.ref (eg 3), .ref (ef 3), .int (et 3), .int (nI (el 3)), .int (nI (ei 3))], wI (cy 1) (eg 3) 10 (gc 3), wI (cy 1) (ef 3) 7 (xc 3)] := hD
          refine lv_aload_n hx hb dX6_choosePlaces_42 rfl (lv_at hl 1 rfl) ?_
          refine lv_iload_n hx hb dX6_choosePlaces_43 rfl (lv_at hl 2 rfl) ?_
          refine lv_iconst (v := 1) hx hb dX6_choosePlaces_44 (by decide) ?_
          refine lv_iadd hx hb dX6_choosePlaces_45 ?_
          refine lv_topi (fun y_15 hy_15 => ?_)
          obtain rfl : y_15 = 1 := hy_15.trans (by decide +kernel)
          refine lv_iload hx hb dX6_choosePlaces_46 (lv_at hl 0 rfl) ?_
          refine lv_iconst (v := 1) hx hb dX6_choosePlaces_48 (by decide) ?_
          refine lv_iadd hx hb dX6_choosePlaces_49 ?_
          refine lv_topi (fun y_16 hy_16 => ?_)
          obtain rfl : y_16 = nI (i10 + 1) := hy_16.trans (nI_add i10 1)
          refine lv_iload_n hx hb dX6_choosePlaces_50 rfl (lv_at hl 4 rfl) ?_
          refine lv_iconst (v := 1) hx hb dX6_choosePlaces_51 (by decide) ?_
          refine lv_iload hx hb dX6_choosePlaces_52 (lv_at hl 0 rfl) ?_
          refine lv_ishl hx hb dX6_choosePlaces_54 ?_
          refine lv_topi (fun x_17 ex_17 => ?_)
          refine lv_ior hx hb dX6_choosePlaces_55 ?_
          refine lv_topi (fun x_18 ex_18 => ?_)
          refine x_callVi (q := (RX6, TX6, 9)) (ci := 6) (q0 := 0) (wr := []) (rest := []) ⟨hx, hb, hml, hown, hg, hl.1⟩ k_X6_69 (s_choosePlaces1 l D cy p0 p1 p2 p3 p4 er ro ch fne fqi g_13 h0 h1 h2 h3 h4 h5 h6 h7 h8 h9 h10 h11 hv1 hv2 hv3 hv4 ys fc c0 c1 c2 c3 fx s0 s1 s2 sl spl svo swi sch fw ea eg ef et el ei gc xc ((i10 + 1)) x_18 (hne) (hr_14) (by omega) (hcn) (by omega) (by omega) (by omega) (by omega) (hnx) (fun i9 h9 => by rcases (show i9 = 0 ∨ i9 = 1 ∨ i9 = 2 ∨ i9 = 3 by omega) with rfl | rfl | rfl | rfl <;> omega) (hes) (by omega) (hsw) (by omega) (hqu)) E0_blind hK hP hD hS hA [0, 1, 2, 3, 4, 5, 6, 7, 8, 9, 10, 11, 12, 13, 14, 15, 16, 17, 18, 19, 20, 21] [] ⟨rfl, rfl, by decide +kernel, by decide +kernel, by decide +kernel⟩ rfl rfl (fun _ _ _ => trivial) dX6_choosePlaces_56 rfl rfl (Nat.le_of_ble_eq_true rfl) ⟨Nat.le_of_ble_eq_true rfl, Nat.le_of_ble_eq_true rfl⟩ ⟨Nat.le_of_ble_eq_true rfl, Nat.le_of_ble_eq_true rfl⟩ (fun zr19 zu19 H locs hw19 hP9 hD9 hS9 => ?_)
          clear hP hD hS
          obtain ⟨fpc2_20, rfl⟩ : ∃ z, z = zu19 := ⟨_, rfl⟩
          refine reW [wO p0 6 [.ref p1, .ref er, .ref ro, .ref p2, .ref p3, .ref p4, .ref h0, .ref s0, .int (nI ch)], wI (cy 1) p3 4 (fne), wI (cy 1) p4 40 (fqi), wI (cy 1) p2 3 (fpc2_20), wO h0 4 [.ref h1, .ref h2, .ref h3, .ref h4, .ref h5, .ref h6, .ref h7, .ref h8, .ref h9, .ref h10, .ref h11, .int ys, hv1, hv2, hv3, hv4], wI (cy 1) h1 4 (fc), wI (cy 1) h7 48 (fx), wO s0 7 [.ref s1, .ref s2, .int (nI sl), .int spl, .int svo, .int swi, .int sch], wI (cy 1) s1 10 (fw), (er, .inl (cy 4, 4, .inr (.inr (.inr (.inr (eF (ea 0) (ea 1) (ea 2) (ea 3))))))), wO (ea 0) 2 [.ref (eg 0), .ref (ef 0), .int (et 0), .int (nI (el 0)), .int (nI (ei 0))], wI (cy 1) (eg 0) 10 (gc 0), wI (cy 1) (ef 0) 7 (xc 0), wO (ea 1) 2 [.ref (eg 1), .ref (ef 1), .int (et 1), .int (nI (el 1)), .int (nI (ei 1))], wI (cy 1) (eg 1) 10 (gc 1), wI (cy 1) (ef 1) 7 (xc 1), wO (ea 2) 2 [.ref (eg 2), .ref (ef 2), .int (et 2), .int (nI (el 2)), .int (nI (ei 2))], wI (cy 1) (eg 2) 10 (gc 2), wI (cy 1) (ef 2) 7 (xc 2), wO (ea 3) 2 [.ref (eg 3), .ref (ef 3), .int (et 3), .int (nI (el 3)), .int (nI (ei 3))], wI (cy 1) (eg 3) 10 (gc 3), wI (cy 1) (ef 3) 7 (xc 3)] hP9 hD9 hS9 (fun hP hD hS => ?_)
          clear hP9 hD9 hS9
          refine W.widen (k := 0) (n := 0) (Nat.le_of_ble_eq_true rfl) (Nat.le_of_ble_eq_true rfl) ?_
          replace hw19 : (zr19 = 0 ∨ zr19 = 1) ∧ (rng fpc2_20 3 9) ∧ (okW c0 fw sl → (zr19 = 1 ↔ cpP (fun c9 => (∃ k9, k9 < c1 ∧ byY fx (gc (fne k9).toNatClampNeg) ys (mvB c0 fw c9 gc fne k9) (plS (et (fne k9).toNatClampNeg) sl) c0 sl)) sl (ch - 1) ((i10 + 1)) x_18)) := hw19
          obtain ⟨f_21, f_22, f_23⟩ := hw19
          refine lv_if_eq (tgt := 64) hx hb dX6_choosePlaces_59 (by decide) (fun c_59 => ?_) (fun c_59 => ?_)
          · refine lv_iinc (v := nI (i10 + 1)) (lv' := [(4, .int (nI (i10 + 1))), (0, .ref p0), (1, .int 0), (2, .int (nI fm)), (3, .int cg)]) hx hb dX6_choosePlaces_64 hl (k := 0) rfl (nI_add i10 1) (by decide) rfl (fun ls hl => ?_)
            refine lv_goto (tgt := 22) hx hb dX6_choosePlaces_67 (by decide) ?_
            exact ih10  ((i10 + 1)) fpc2_20 f_22 (by omega) (by omega) (cp_n hf2_10 f_23 c_59 ex_17 ex_18) (by omega) _ _ (hP.sub [0, 1, 2, 3, 4, 5, 6, 7, 8, 9, 10, 11, 12, 13, 14, 15, 16, 17, 18, 19, 20, 21] rfl) (hD.sub [0, 1, 2, 3, 4, 5, 6, 7, 8, 9, 10, 11, 12, 13, 14, 15, 16, 17, 18, 19, 20, 21] (by decide +kernel) rfl) hS ls (lv_sub hl [0, 1, 2, 3, 4] rfl)
          · refine lv_iconst (v := 1) hx hb dX6_choosePlaces_62 (by decide) ?_
            exact x_zret hQ hx hb hr hlocks hK hP hD hS rfl dX6_choosePlaces_63 fpc2_20 (⟨(Or.inr rfl), f_22, cp_1 (d := ch - 1) (i := i10) (by omega) (by omega) (by omega) f_23 (f_21.resolve_left c_59) ex_17 ex_18⟩) [0, 1, 2, 3, 4, 5, 6, 7, 8, 9, 10, 11, 12, 13, 14, 15, 16, 17, 18, 19, 20, 21] (by decide +kernel) rfl (Nat.le_of_ble_eq_true rfl) (Nat.le_of_ble_eq_true rfl)
    exact loop10 _ fm fpc hpc (by omega) (by omega) (fun _ i9 h1 h2 => absurd h2 (by omega)) (Nat.le_refl _) _ _ (hP.sub [0, 1, 2, 3, 4, 5, 6, 7, 8, 9, 10, 11, 12, 13, 14, 15, 16, 17, 18, 19, 20, 21] rfl) (hD.sub [0, 1, 2, 3, 4, 5, 6, 7, 8, 9, 10, 11, 12, 13, 14, 15, 16, 17, 18, 19, 20, 21] (by decide +kernel) rfl) hS ls (lv_sub hl [0, 1, 2, 3, 4] rfl)
theorem gdX6_isYesNow_0 : decode cX6_isYesNow 0 = .ok (.iconst 0, 1) ∧ decode cX6_isYesNow 1 = .ok (.istore_n 1, 1) ∧ decode cX6_isYesNow 2 = .ok (.iload_n 1, 1) ∧ decode cX6_isYesNow 3 = .ok (.aload_n 0, 1) ∧ decode cX6_isYesNow 4 = .ok (.getfield 35, 3) ∧ decode cX6_isYesNow 7 = .ok (.getfield 43, 3) ∧ decode cX6_isYesNow 10 = .ok (.iconst 1, 1) ∧ decode cX6_isYesNow 11 = .ok (.iaload, 1) ∧ decode cX6_isYesNow 12 = .ok (.if_icmp .ge 53, 3) ∧ decode cX6_isYesNow 65 = .ok (.iconst 0, 1) ∧ decode cX6_isYesNow 66 = .ok (.ireturn, 1) ∧ decode cX6_isYesNow 15 = .ok (.aload_n 0, 1) := by decide +kernel
theorem dX6_isYesNow_0 : decode cX6_isYesNow 0 = .ok (.iconst 0, 1) := gdX6_isYesNow_0.1
theorem dX6_isYesNow_1 : decode cX6_isYesNow 1 = .ok (.istore_n 1, 1) := gdX6_isYesNow_0.2.1
theorem dX6_isYesNow_2 : decode cX6_isYesNow 2 = .ok (.iload_n 1, 1) := gdX6_isYesNow_0.2.2.1
theorem dX6_isYesNow_3 : decode cX6_isYesNow 3 = .ok (.aload_n 0, 1) := gdX6_isYesNow_0.2.2.2.1
theorem dX6_isYesNow_4 : decode cX6_isYesNow 4 = .ok (.getfield 35, 3) := gdX6_isYesNow_0.2.2.2.2.1
theorem dX6_isYesNow_7 : decode cX6_isYesNow 7 = .ok (.getfield 43, 3) := gdX6_isYesNow_0.2.2.2.2.2.1
theorem dX6_isYesNow_10 : decode cX6_isYesNow 10 = .ok (.iconst 1, 1) := gdX6_isYesNow_0.2.2.2.2.2.2.1
theorem dX6_isYesNow_11 : decode cX6_isYesNow 11 = .ok (.iaload, 1) := gdX6_isYesNow_0.2.2.2.2.2.2.2.1
theorem dX6_isYesNow_12 : decode cX6_isYesNow 12 = .ok (.if_icmp .ge 53, 3) := gdX6_isYesNow_0.2.2.2.2.2.2.2.2.1
theorem dX6_isYesNow_65 : decode cX6_isYesNow 65 = .ok (.iconst 0, 1) := gdX6_isYesNow_0.2.2.2.2.2.2.2.2.2.1
theorem dX6_isYesNow_66 : decode cX6_isYesNow 66 = .ok (.ireturn, 1) := gdX6_isYesNow_0.2.2.2.2.2.2.2.2.2.2.1
theorem dX6_isYesNow_15 : decode cX6_isYesNow 15 = .ok (.aload_n 0, 1) := gdX6_isYesNow_0.2.2.2.2.2.2.2.2.2.2.2
theorem gdX6_isYesNow_16 : decode cX6_isYesNow 16 = .ok (.getfield 30, 3) ∧ decode cX6_isYesNow 19 = .ok (.aload_n 0, 1) ∧ decode cX6_isYesNow 20 = .ok (.getfield 18, 3) ∧ decode cX6_isYesNow 23 = .ok (.iload_n 1, 1) ∧ decode cX6_isYesNow 24 = .ok (.iaload, 1) ∧ decode cX6_isYesNow 25 = .ok (.aaload, 1) ∧ decode cX6_isYesNow 26 = .ok (.aload_n 0, 1) ∧ decode cX6_isYesNow 27 = .ok (.getfield 39, 3) ∧ decode cX6_isYesNow 30 = .ok (.getfield 107, 3) ∧ decode cX6_isYesNow 33 = .ok (.aload_n 0, 1) ∧ decode cX6_isYesNow 34 = .ok (.getfield 34, 3) ∧ decode cX6_isYesNow 37 = .ok (.iconst 0, 1) := by decide +kernel
theorem dX6_isYesNow_16 : decode cX6_isYesNow 16 = .ok (.getfield 30, 3) := gdX6_isYesNow_16.1
theorem dX6_isYesNow_19 : decode cX6_isYesNow 19 = .ok (.aload_n 0, 1) := gdX6_isYesNow_16.2.1
theorem dX6_isYesNow_20 : decode cX6_isYesNow 20 = .ok (.getfield 18, 3) := gdX6_isYesNow_16.2.2.1
theorem dX6_isYesNow_23 : decode cX6_isYesNow 23 = .ok (.iload_n 1, 1) := gdX6_isYesNow_16.2.2.2.1
theorem dX6_isYesNow_24 : decode cX6_isYesNow 24 = .ok (.iaload, 1) := gdX6_isYesNow_16.2.2.2.2.1
theorem dX6_isYesNow_25 : decode cX6_isYesNow 25 = .ok (.aaload, 1) := gdX6_isYesNow_16.2.2.2.2.2.1
theorem dX6_isYesNow_26 : decode cX6_isYesNow 26 = .ok (.aload_n 0, 1) := gdX6_isYesNow_16.2.2.2.2.2.2.1
theorem dX6_isYesNow_27 : decode cX6_isYesNow 27 = .ok (.getfield 39, 3) := gdX6_isYesNow_16.2.2.2.2.2.2.2.1
theorem dX6_isYesNow_30 : decode cX6_isYesNow 30 = .ok (.getfield 107, 3) := gdX6_isYesNow_16.2.2.2.2.2.2.2.2.1
theorem dX6_isYesNow_33 : decode cX6_isYesNow 33 = .ok (.aload_n 0, 1) := gdX6_isYesNow_16.2.2.2.2.2.2.2.2.2.1
theorem dX6_isYesNow_34 : decode cX6_isYesNow 34 = .ok (.getfield 34, 3) := gdX6_isYesNow_16.2.2.2.2.2.2.2.2.2.2.1
theorem dX6_isYesNow_37 : decode cX6_isYesNow 37 = .ok (.iconst 0, 1) := gdX6_isYesNow_16.2.2.2.2.2.2.2.2.2.2.2
theorem dX6_isYesNow_38 : decode cX6_isYesNow 38 = .ok (.invokevirtual 117, 3) := by decide +kernel
theorem k_X6_117 : xV RX6 RX2 117 yX2_send cX2_send 7 (some .int) 3 := ⟨⟨m_1278, m_1061, m_1062, m_142, m_1063⟩, rfl, by decide, by decide, by decide +kernel⟩
theorem gdX6_isYesNow_41 : decode cX6_isYesNow 41 = .ok (.istore_n 2, 1) ∧ decode cX6_isYesNow 42 = .ok (.iload_n 2, 1) ∧ decode cX6_isYesNow 43 = .ok (.ifCond .le 16, 3) ∧ decode cX6_isYesNow 59 = .ok (.iinc 1 1, 3) ∧ decode cX6_isYesNow 62 = .ok (.goto (-60), 3) ∧ decode cX6_isYesNow 46 = .ok (.aload_n 0, 1) ∧ decode cX6_isYesNow 47 = .ok (.getfield 35, 3) ∧ decode cX6_isYesNow 50 = .ok (.aload_n 0, 1) ∧ decode cX6_isYesNow 51 = .ok (.getfield 34, 3) ∧ decode cX6_isYesNow 54 = .ok (.iload_n 2, 1) ∧ decode cX6_isYesNow 55 = .ok (.invokevirtual 121, 3) := by decide +kernel
theorem dX6_isYesNow_41 : decode cX6_isYesNow 41 = .ok (.istore_n 2, 1) := gdX6_isYesNow_41.1
theorem dX6_isYesNow_42 : decode cX6_isYesNow 42 = .ok (.iload_n 2, 1) := gdX6_isYesNow_41.2.1
theorem dX6_isYesNow_43 : decode cX6_isYesNow 43 = .ok (.ifCond .le 16, 3) := gdX6_isYesNow_41.2.2.1
theorem dX6_isYesNow_59 : decode cX6_isYesNow 59 = .ok (.iinc 1 1, 3) := gdX6_isYesNow_41.2.2.2.1
theorem dX6_isYesNow_62 : decode cX6_isYesNow 62 = .ok (.goto (-60), 3) := gdX6_isYesNow_41.2.2.2.2.1
theorem dX6_isYesNow_46 : decode cX6_isYesNow 46 = .ok (.aload_n 0, 1) := gdX6_isYesNow_41.2.2.2.2.2.1
theorem dX6_isYesNow_47 : decode cX6_isYesNow 47 = .ok (.getfield 35, 3) := gdX6_isYesNow_41.2.2.2.2.2.2.1
theorem dX6_isYesNow_50 : decode cX6_isYesNow 50 = .ok (.aload_n 0, 1) := gdX6_isYesNow_41.2.2.2.2.2.2.2.1
theorem dX6_isYesNow_51 : decode cX6_isYesNow 51 = .ok (.getfield 34, 3) := gdX6_isYesNow_41.2.2.2.2.2.2.2.2.1
theorem dX6_isYesNow_54 : decode cX6_isYesNow 54 = .ok (.iload_n 2, 1) := gdX6_isYesNow_41.2.2.2.2.2.2.2.2.2.1
theorem dX6_isYesNow_55 : decode cX6_isYesNow 55 = .ok (.invokevirtual 121, 3) := gdX6_isYesNow_41.2.2.2.2.2.2.2.2.2.2
theorem k_X6_121 : xV RX6 RX4 121 yX4_isYes cX4_isYes 5 (some .boolean) 2 := ⟨⟨m_1279, m_1073, m_1074, m_137, m_1075⟩, rfl, by decide, by decide, by decide +kernel⟩
theorem dX6_isYesNow_58 : decode cX6_isYesNow 58 = .ok (.ireturn, 1) := by decide +kernel
set_option maxHeartbeats 1000000 in
set_option maxRecDepth 100000 in
theorem s_isYesNow (l : Launch) (D : va_G) (cy : Nat → ClassId) (p0 : Nat) (p1 : Nat) (p2 : Nat) (p3 : Nat) (p4 : Nat) (er : Nat) (ro : Nat) (ch : Nat) (fne : Nat → Int32) (h0 : Nat) (h1 : Nat) (h2 : Nat) (h3 : Nat) (h4 : Nat) (h5 : Nat) (h6 : Nat) (h7 : Nat) (h8 : Nat) (h9 : Nat) (h10 : Nat) (h11 : Nat) (hv1 : Value) (hv2 : Value) (hv3 : Value) (hv4 : Value) (ys : Int32) (fc : Nat → Int32) (c0 : Nat) (c1 : Nat) (c2 : Nat) (c3 : Nat) (fx : Nat → Int32) (s0 : Nat) (s1 : Nat) (s2 : Nat) (sl : Nat) (spl : Int32) (svo : Int32) (swi : Int32) (sch : Int32) (fw : Nat → Int32) (fr : Nat → Int32) (ea : Nat → Nat) (eg : Nat → Nat) (ef : Nat → Nat) (et : Nat → Int32) (el : Nat → Nat) (ei : Nat → Nat) (gc : Nat → Nat → Int32) (xc : Nat → Nat → Int32) (hne : nOK fne c1) (hcn : cntOK fc c0 c1 c2 c3) (hc0 : c0 ≤ 8) (hc1 : c1 ≤ 4) (hc2 : c2 ≤ 4) (hc3 : c3 ≤ 6) (hnx : rng fx 48 5) (hel : ∀ i9, i9 < 4 → el i9 ≤ 10) (hsl : sl ≤ 10) (hsw : rng fw 10 7) (hrw : rng fr 20 7) : XMi l D (tyL cy) E0 yX6_isYesNow cX6_isYesNow 3 (some .boolean) (rmk 3 0 0) [.ref p0] [wO p0 6 [.ref p1, .ref er, .ref ro, .ref p2, .ref p3, .ref p4, .ref h0, .ref s0, .int (nI ch)], wI (cy 1) p3 4 (fne), wO h0 4 [.ref h1, .ref h2, .ref h3, .ref h4, .ref h5, .ref h6, .ref h7, .ref h8, .ref h9, .ref h10, .ref h11, .int ys, hv1, hv2, hv3, hv4], wI (cy 1) h1 4 (fc), wI (cy 1) h7 48 (fx), wO s0 7 [.ref s1, .ref s2, .int (nI sl), .int spl, .int svo, .int swi, .int sch], wI (cy 1) s1 10 (fw), wI (cy 1) ro 20 (fr), (er, .inl (cy 4, 4, .inr (.inr (.inr (.inr (eF (ea 0) (ea 1) (ea 2) (ea 3))))))), wO (ea 0) 2 [.ref (eg 0), .ref (ef 0), .int (et 0), .int (nI (el 0)), .int (nI (ei 0))], wI (cy 1) (eg 0) 10 (gc 0), wI (cy 1) (ef 0) 7 (xc 0), wO (ea 1) 2 [.ref (eg 1), .ref (ef 1), .int (et 1), .int (nI (el 1)), .int (nI (ei 1))], wI (cy 1) (eg 1) 10 (gc 1), wI (cy 1) (ef 1) 7 (xc 1), wO (ea 2) 2 [.ref (eg 2), .ref (ef 2), .int (et 2), .int (nI (el 2)), .int (nI (ei 2))], wI (cy 1) (eg 2) 10 (gc 2), wI (cy 1) (ef 2) 7 (xc 2), wO (ea 3) 2 [.ref (eg 3), .ref (ef 3), .int (et 3), .int (nI (el 3)), .int (nI (ei 3))], wI (cy 1) (eg 3) 10 (gc 3), wI (cy 1) (ef 3) 7 (xc 3)] (fun (r : Int32) (fr2 : Nat → Int32) => (r = 0 ∨ r = 1) ∧ (rng fr2 20 7)) (fun (fr2 : Nat → Int32) => [wO p0 6 [.ref p1, .ref er, .ref ro, .ref p2, .ref p3, .ref p4, .ref h0, .ref s0, .int (nI ch)], wI (cy 1) p3 4 (fne), wO h0 4 [.ref h1, .ref h2, .ref h3, .ref h4, .ref h5, .ref h6, .ref h7, .ref h8, .ref h9, .ref h10, .ref h11, .int ys, hv1, hv2, hv3, hv4], wI (cy 1) h1 4 (fc), wI (cy 1) h7 48 (fx), wO s0 7 [.ref s1, .ref s2, .int (nI sl), .int spl, .int svo, .int swi, .int sch], wI (cy 1) s1 10 (fw), wI (cy 1) ro 20 (fr2), (er, .inl (cy 4, 4, .inr (.inr (.inr (.inr (eF (ea 0) (ea 1) (ea 2) (ea 3))))))), wO (ea 0) 2 [.ref (eg 0), .ref (ef 0), .int (et 0), .int (nI (el 0)), .int (nI (ei 0))], wI (cy 1) (eg 0) 10 (gc 0), wI (cy 1) (ef 0) 7 (xc 0), wO (ea 1) 2 [.ref (eg 1), .ref (ef 1), .int (et 1), .int (nI (el 1)), .int (nI (ei 1))], wI (cy 1) (eg 1) 10 (gc 1), wI (cy 1) (ef 1) 7 (xc 1), wO (ea 2) 2 [.ref (eg 2), .ref (ef 2), .int (et 2), .int (nI (el 2)), .int (nI (ei 2))], wI (cy 1) (eg 2) 10 (gc 2), wI (cy 1) (ef 2) 7 (xc 2), wO (ea 3) 2 [.ref (eg 3), .ref (ef 3), .int (et 3), .int (nI (el 3)), .int (nI (ei 3))], wI (cy 1) (eg 3) 10 (gc 3), wI (cy 1) (ef 3) 7 (xc 3)]) := by
  refine XMi.start (by decide) (Nat.le_of_ble_eq_true rfl) ?_
  intro p e s m below meth c args A ls Q hat hQ
  obtain ⟨hx, hb, hr, hml, hown, hg, hlocks, hin, hK, hA, hP, hD, hS, hE, hl⟩ := hat
  have hown : s.vm.findClass RX6 = some m.cls := hown
  have hl : lv_has ls 3 [(0, .ref p0)] := hl
  have hk_1 := hel 0 (by decide)
  have hk_2 := hel 1 (by decide)
  have hk_3 := hel 2 (by decide)
  have hk_4 := hel 3 (by decide)
  refine lv_iconst (v := 0) hx hb dX6_isYesNow_0 (by decide) ?_
  refine lv_istore_n (lv' := [(1, .int 0), (0, .ref p0)]) hx hb dX6_isYesNow_1 rfl hl (by decide) rfl (fun ls hl => ?_)
  have loop5 : ∀ (zn : Nat) (i5 : Nat) (fa1_5 : Nat → Int32), (rng fa1_5 20 7) → (i5 ≤ c1) → c1 - i5 + 1 ≤ zn → ∀ (H : Heap) (locs : List Loc), va_P D vwCl [wO p0 6 [.ref p1, .ref er, .ref ro, .ref p2, .ref p3, .ref p4, .ref h0, .ref s0, .int (nI ch)], wI (cy 1) p3 4 (fne), wO h0 4 [.ref h1, .ref h2, .ref h3, .ref h4, .ref h5, .ref h6, .ref h7, .ref h8, .ref h9, .ref h10, .ref h11, .int ys, hv1, hv2, hv3, hv4], wI (cy 1) h1 4 (fc), wI (cy 1) h7 48 (fx), wO s0 7 [.ref s1, .ref s2, .int (nI sl), .int spl, .int svo, .int swi, .int sch], wI (cy 1) s1 10 (fw), wI (cy 1) ro 20 (fa1_5), (er, .inl (cy 4, 4, .inr (.inr (.inr (.inr (eF (ea 0) (ea 1) (ea 2) (ea 3))))))), wO (ea 0) 2 [.ref (eg 0), .ref (ef 0), .int (et 0), .int (nI (el 0)), .int (nI (ei 0))], wI (cy 1) (eg 0) 10 (gc 0), wI (cy 1) (ef 0) 7 (xc 0), wO (ea 1) 2 [.ref (eg 1), .ref (ef 1), .int (et 1), .int (nI (el 1)), .int (nI (ei 1))], wI (cy 1) (eg 1) 10 (gc 1), wI (cy 1) (ef 1) 7 (xc 1), wO (ea 2) 2 [.ref (eg 2), .ref (ef 2), .int (et 2), .int (nI (el 2)), .int (nI (ei 2))], wI (cy 1) (eg 2) 10 (gc 2), wI (cy 1) (ef 2) 7 (xc 2), wO (ea 3) 2 [.ref (eg 3), .ref (ef 3), .int (et 3), .int (nI (el 3)), .int (nI (ei 3))], wI (cy 1) (eg 3) 10 (gc 3), wI (cy 1) (ef 3) 7 (xc 3)] H → va_D A [wO p0 6 [.ref p1, .ref er, .ref ro, .ref p2, .ref p3, .ref p4, .ref h0, .ref s0, .int (nI ch)], wI (cy 1) p3 4 (fne), wO h0 4 [.ref h1, .ref h2, .ref h3, .ref h4, .ref h5, .ref h6, .ref h7, .ref h8, .ref h9, .ref h10, .ref h11, .int ys, hv1, hv2, hv3, hv4], wI (cy 1) h1 4 (fc), wI (cy 1) h7 48 (fx), wO s0 7 [.ref s1, .ref s2, .int (nI sl), .int spl, .int svo, .int swi, .int sch], wI (cy 1) s1 10 (fw), wI (cy 1) ro 20 (fa1_5), (er, .inl (cy 4, 4, .inr (.inr (.inr (.inr (eF (ea 0) (ea 1) (ea 2) (ea 3))))))), wO (ea 0) 2 [.ref (eg 0), .ref (ef 0), .int (et 0), .int (nI (el 0)), .int (nI (ei 0))], wI (cy 1) (eg 0) 10 (gc 0), wI (cy 1) (ef 0) 7 (xc 0), wO (ea 1) 2 [.ref (eg 1), .ref (ef 1), .int (et 1), .int (nI (el 1)), .int (nI (ei 1))], wI (cy 1) (eg 1) 10 (gc 1), wI (cy 1) (ef 1) 7 (xc 1), wO (ea 2) 2 [.ref (eg 2), .ref (ef 2), .int (et 2), .int (nI (el 2)), .int (nI (ei 2))], wI (cy 1) (eg 2) 10 (gc 2), wI (cy 1) (ef 2) 7 (xc 2), wO (ea 3) 2 [.ref (eg 3), .ref (ef 3), .int (et 3), .int (nI (el 3)), .int (nI (ei 3))], wI (cy 1) (eg 3) 10 (gc 3), wI (cy 1) (ef 3) 7 (xc 3)] → va_S A s.heap H locs → ∀ ls : Array Slot, lv_has ls 3 [(1, .int (nI i5)), (0, .ref p0)] → W p l e (rmk 3 0 0) s m args below meth c H locs 0 0 Q (F0 m 2 ls []) := by
    try clear hP hD hS
    intro zn
    induction zn with
    | zero => intro i5 fa1_5 _ _ hz; exact absurd hz (by omega)
    | succ zn ih5 =>
      intro i5 fa1_5 ha2_5 hf0_5 hmu5 H locs hP hD hS ls hl
      refine lv_iload_n hx hb dX6_isYesNow_2 rfl (lv_at hl 0 rfl) ?_
      refine lv_aload_n hx hb dX6_isYesNow_3 rfl (lv_at hl 1 rfl) ?_
      refine va_get (D := D) (ci := 6) (v := .ref h0) (C := RX6) (T := TX6) (N := 9) hx hb hg i_X6 hown hK hP 0 rfl rfl 6 (by decide) (hg _ m_591) (fun _ h9 => h9) rfl dX6_isYesNow_4 ?_
      refine va_get (D := D) (ci := 4) (v := .ref h1) (C := RX4) (T := TX4) (N := 16) hx hb hg i_X4 hown hK hP 2 rfl rfl 0 (by decide) (hg _ m_330) (fun _ h9 => h9) rfl dX6_isYesNow_7 ?_
      refine lv_iconst (v := 1) hx hb dX6_isYesNow_10 (by decide) ?_
      refine va_iald hx hb hK hP 3 1 rfl rfl (by unfold vp_in; decide) dX6_isYesNow_11 ?_
      refine lv_topi (fun y_6 hy_6 => ?_)
      obtain rfl : y_6 = nI c1 := hy_6.trans hcn.2.1
      refine lv_icmp_ge (tgt := 65) hx hb dX6_isYesNow_12 (by decide) (fun c_7 => ?_) (fun c_7 => ?_)
      · have q_8 : c1 ≤ i5 := q_le (a := c1) (b := i5) rfl rfl (by omega) (by omega) c_7
        refine lv_iconst (v := 0) hx hb dX6_isYesNow_65 (by decide) ?_
        exact x_zret hQ hx hb hr hlocks hK hP hD hS rfl dX6_isYesNow_66 fa1_5 (⟨(Or.inl rfl), ha2_5⟩) [0, 1, 2, 3, 4, 5, 6, 7, 8, 9, 10, 11, 12, 13, 14, 15, 16, 17, 18, 19, 20] (by decide +kernel) rfl (Nat.le_of_ble_eq_true rfl) (Nat.le_of_ble_eq_true rfl)
      · have q_8 : i5 < c1 := q_nle (a := c1) (b := i5) rfl rfl (by omega) (by omega) c_7
        refine lv_aload_n hx hb dX6_isYesNow_15 rfl (lv_at hl 1 rfl) ?_
        refine va_get (D := D) (ci := 6) (v := .ref er) (C := RX6) (T := TX6) (N := 9) hx hb hg i_X6 hown hK hP 0 rfl rfl 1 (by decide) (hg _ m_586) (fun _ h9 => h9) rfl dX6_isYesNow_16 ?_
        refine lv_aload_n hx hb dX6_isYesNow_19 rfl (lv_at hl 1 rfl) ?_
        refine va_get (D := D) (ci := 6) (v := .ref p3) (C := RX6) (T := TX6) (N := 9) hx hb hg i_X6 hown hK hP 0 rfl rfl 4 (by decide) (hg _ m_589) (fun _ h9 => h9) rfl dX6_isYesNow_20 ?_
        refine lv_iload_n hx hb dX6_isYesNow_23 rfl (lv_at hl 0 rfl) ?_
        refine va_iald hx hb hK hP 1 1 rfl rfl (vp_in_nI (by omega) (by decide)) dX6_isYesNow_24 ?_
        obtain ⟨j_9, hj_9, ej_9⟩ := nOK_at hne (i := i5) (by omega) (by omega)
        refine lv_topi (fun y_10 hy_10 => ?_)
        obtain rfl : y_10 = nI j_9 := hy_10.trans ej_9
        rcases (show j_9 = 0 ∨ j_9 = 1 ∨ j_9 = 2 ∨ j_9 = 3 by omega) with hsp | hsp | hsp | hsp
        · subst hsp
          refine va_aldq hx hb hK hP 8 4 rfl rfl (by unfold vp_in; decide) dX6_isYesNow_25 ?_
          refine W.eq (g2 := F0 m 26 ls [.ref (ea 0)]) rfl ?_
          refine lv_aload_n hx hb dX6_isYesNow_26 rfl (lv_at hl 1 rfl) ?_
          refine va_get (D := D) (ci := 6) (v := .ref s0) (C := RX6) (T := TX6) (N := 9) hx hb hg i_X6 hown hK hP 0 rfl rfl 7 (by decide) (hg _ m_592) (fun _ h9 => h9) rfl dX6_isYesNow_27 ?_
          refine va_get (D := D) (ci := 7) (v := .ref s1) (C := RX7) (T := TX7) (N := 7) hx hb hg i_X7 hown hK hP 5 rfl rfl 0 (by decide) (hg _ m_622) (fun _ h9 => h9) rfl dX6_isYesNow_30 ?_
          refine lv_aload_n hx hb dX6_isYesNow_33 rfl (lv_at hl 1 rfl) ?_
          refine va_get (D := D) (ci := 6) (v := .ref ro) (C := RX6) (T := TX6) (N := 9) hx hb hg i_X6 hown hK hP 0 rfl rfl 2 (by decide) (hg _ m_587) (fun _ h9 => h9) rfl dX6_isYesNow_34 ?_
          refine lv_iconst (v := 0) hx hb dX6_isYesNow_37 (by decide) ?_
          refine x_callVi (q := (RX2, TX2, 5)) (ci := 2) (q0 := 0) (wr := [wO p0 6 [.ref p1, .ref er, .ref ro, .ref p2, .ref p3, .ref p4, .ref h0, .ref s0, .int (nI ch)], wI (cy 1) p3 4 (fne), wO h0 4 [.ref h1, .ref h2, .ref h3, .ref h4, .ref h5, .ref h6, .ref h7, .ref h8, .ref h9, .ref h10, .ref h11, .int ys, hv1, hv2, hv3, hv4], wI (cy 1) h1 4 (fc), wI (cy 1) h7 48 (fx), wO s0 7 [.ref s1, .ref s2, .int (nI sl), .int spl, .int svo, .int swi, .int sch], (er, .inl (cy 4, 4, .inr (.inr (.inr (.inr (eF (ea 0) (ea 1) (ea 2) (ea 3))))))), wI (cy 1) (ef 0) 7 (xc 0), wO (ea 1) 2 [.ref (eg 1), .ref (ef 1), .int (et 1), .int (nI (el 1)), .int (nI (ei 1))], wI (cy 1) (eg 1) 10 (gc 1), wI (cy 1) (ef 1) 7 (xc 1), wO (ea 2) 2 [.ref (eg 2), .ref (ef 2), .int (et 2), .int (nI (el 2)), .int (nI (ei 2))], wI (cy 1) (eg 2) 10 (gc 2), wI (cy 1) (ef 2) 7 (xc 2), wO (ea 3) 2 [.ref (eg 3), .ref (ef 3), .int (et 3), .int (nI (el 3)), .int (nI (ei 3))], wI (cy 1) (eg 3) 10 (gc 3), wI (cy 1) (ef 3) 7 (xc 3)]) (rest := []) ⟨hx, hb, hml, hown, hg, hl.1⟩ k_X6_117 (s_send l D cy (ea 0) (eg 0) (ef 0) (et 0) ((el 0)) ((ei 0)) (gc 0) s1 fw ro fa1_5 0 (by omega) (hsw) (ha2_5) (by omega) (by omega)) E0_blind hK hP hD hS hA [9, 10, 6, 7] [0, 1, 2, 3, 4, 5, 8, 11, 12, 13, 14, 15, 16, 17, 18, 19, 20] ⟨rfl, rfl, by decide +kernel, by decide +kernel, by decide +kernel⟩ rfl rfl (fun _ _ _ => trivial) dX6_isYesNow_38 rfl rfl (Nat.le_of_ble_eq_true rfl) ⟨Nat.le_of_ble_eq_true rfl, Nat.le_of_ble_eq_true rfl⟩ ⟨Nat.le_of_ble_eq_true rfl, Nat.le_of_ble_eq_true rfl⟩ (fun zr11 zu11 H locs hw11 hP9 hD9 hS9 => ?_)
          clear hP hD hS
          obtain ⟨fr2_12, k_13⟩ := zu11
          refine reW [wO p0 6 [.ref p1, .ref er, .ref ro, .ref p2, .ref p3, .ref p4, .ref h0, .ref s0, .int (nI ch)], wI (cy 1) p3 4 (fne), wO h0 4 [.ref h1, .ref h2, .ref h3, .ref h4, .ref h5, .ref h6, .ref h7, .ref h8, .ref h9, .ref h10, .ref h11, .int ys, hv1, hv2, hv3, hv4], wI (cy 1) h1 4 (fc), wI (cy 1) h7 48 (fx), wO s0 7 [.ref s1, .ref s2, .int (nI sl), .int spl, .int svo, .int swi, .int sch], (er, .inl (cy 4, 4, .inr (.inr (.inr (.inr (eF (ea 0) (ea 1) (ea 2) (ea 3))))))), wI (cy 1) (ef 0) 7 (xc 0), wO (ea 1) 2 [.ref (eg 1), .ref (ef 1), .int (et 1), .int (nI (el 1)), .int (nI (ei 1))], wI (cy 1) (eg 1) 10 (gc 1), wI (cy 1) (ef 1) 7 (xc 1), wO (ea 2) 2 [.ref (eg 2), .ref (ef 2), .int (et 2), .int (nI (el 2)), .int (nI (ei 2))], wI (cy 1) (eg 2) 10 (gc 2), wI (cy 1) (ef 2) 7 (xc 2), wO (ea 3) 2 [.ref (eg 3), .ref (ef 3), .int (et 3), .int (nI (el 3)), .int (nI (ei 3))], wI (cy 1) (eg 3) 10 (gc 3), wI (cy 1) (ef 3) 7 (xc 3), wO (ea 0) 2 [.ref (eg 0), .ref (ef 0), .int (et 0), .int (nI ((el 0))), .int (nI ((ei 0)))], wI (cy 1) (eg 0) 10 (gc 0), wI (cy 1) s1 10 (fw), wI (cy 1) ro 20 (fr2_12)] hP9 hD9 hS9 (fun hP hD hS => ?_)
          clear hP9 hD9 hS9
          refine W.widen (k := 0) (n := 0) (Nat.le_of_ble_eq_true rfl) (Nat.le_of_ble_eq_true rfl) ?_
          replace hw11 : (zr11 = nI k_13) ∧ (k_13 ≤ 20) ∧ (k_13 ≤ 0 + ((el 0))) ∧ (rng fr2_12 20 7) ∧ (exC fa1_5 0 fr2_12 k_13 (sdL (fun i9 => gB ((gc 0) i9) (fw i9)) fw (plS (et 0) ((el 0))) ((el 0)))) := hw11
          obtain ⟨f_14, f_15, f_16, f_17, f_18⟩ := hw11
          subst f_14
          refine lv_istore_n (lv' := [(2, .int (nI k_13)), (1, .int (nI i5)), (0, .ref p0)]) hx hb dX6_isYesNow_41 rfl hl (by decide) rfl (fun ls hl => ?_)
          refine lv_iload_n hx hb dX6_isYesNow_42 rfl (lv_at hl 0 rfl) ?_
          refine lv_if_le (tgt := 59) hx hb dX6_isYesNow_43 (by decide) (fun c_19 => ?_) (fun c_19 => ?_)
          · have q_20 : k_13 ≤ 0 := q_le (a := k_13) (b := 0) rfl rfl (by omega) (by omega) c_19
            refine lv_iinc (v := nI (i5 + 1)) (lv' := [(1, .int (nI (i5 + 1))), (2, .int (nI k_13)), (0, .ref p0)]) hx hb dX6_isYesNow_59 hl (k := 1) rfl (nI_add i5 1) (by decide) rfl (fun ls hl => ?_)
            refine lv_goto (tgt := 2) hx hb dX6_isYesNow_62 (by decide) ?_
            exact ih5  ((i5 + 1)) fr2_12 f_17 (by omega) (by omega) _ _ (hP.sub [0, 1, 2, 3, 4, 5, 19, 20, 6, 17, 18, 7, 8, 9, 10, 11, 12, 13, 14, 15, 16] rfl) (hD.sub [0, 1, 2, 3, 4, 5, 19, 20, 6, 17, 18, 7, 8, 9, 10, 11, 12, 13, 14, 15, 16] (by decide +kernel) rfl) hS ls (lv_sub hl [0, 2] rfl)
          · have q_20 : 0 < k_13 := q_nle (a := k_13) (b := 0) rfl rfl (by omega) (by omega) c_19
            refine lv_aload_n hx hb dX6_isYesNow_46 rfl (lv_at hl 2 rfl) ?_
            refine va_get (D := D) (ci := 6) (v := .ref h0) (C := RX6) (T := TX6) (N := 9) hx hb hg i_X6 hown hK hP 0 rfl rfl 6 (by decide) (hg _ m_591) (fun _ h9 => h9) rfl dX6_isYesNow_47 ?_
            refine lv_aload_n hx hb dX6_isYesNow_50 rfl (lv_at hl 2 rfl) ?_
            refine va_get (D := D) (ci := 6) (v := .ref ro) (C := RX6) (T := TX6) (N := 9) hx hb hg i_X6 hown hK hP 0 rfl rfl 2 (by decide) (hg _ m_587) (fun _ h9 => h9) rfl dX6_isYesNow_51 ?_
            refine lv_iload_n hx hb dX6_isYesNow_54 rfl (lv_at hl 0 rfl) ?_
            refine x_callVi (q := (RX4, TX4, 16)) (ci := 4) (q0 := 0) (wr := [wO p0 6 [.ref p1, .ref er, .ref ro, .ref p2, .ref p3, .ref p4, .ref h0, .ref s0, .int (nI ch)], wI (cy 1) p3 4 (fne), wI (cy 1) h1 4 (fc), wO s0 7 [.ref s1, .ref s2, .int (nI sl), .int spl, .int svo, .int swi, .int sch], (er, .inl (cy 4, 4, .inr (.inr (.inr (.inr (eF (ea 0) (ea 1) (ea 2) (ea 3))))))), wI (cy 1) (ef 0) 7 (xc 0), wO (ea 1) 2 [.ref (eg 1), .ref (ef 1), .int (et 1), .int (nI (el 1)), .int (nI (ei 1))], wI (cy 1) (eg 1) 10 (gc 1), wI (cy 1) (ef 1) 7 (xc 1), wO (ea 2) 2 [.ref (eg 2), .ref (ef 2), .int (et 2), .int (nI (el 2)), .int (nI (ei 2))], wI (cy 1) (eg 2) 10 (gc 2), wI (cy 1) (ef 2) 7 (xc 2), wO (ea 3) 2 [.ref (eg 3), .ref (ef 3), .int (et 3), .int (nI (el 3)), .int (nI (ei 3))], wI (cy 1) (eg 3) 10 (gc 3), wI (cy 1) (ef 3) 7 (xc 3), wO (ea 0) 2 [.ref (eg 0), .ref (ef 0), .int (et 0), .int (nI ((el 0))), .int (nI ((ei 0)))], wI (cy 1) (eg 0) 10 (gc 0), wI (cy 1) s1 10 (fw)]) (rest := []) ⟨hx, hb, hml, hown, hg, hl.1⟩ k_X6_121 (s_isYes l D cy h0 h1 h2 h3 h4 h5 h6 h7 h8 h9 h10 h11 hv1 hv2 hv3 hv4 ys fx ro fr2_12 k_13 (hnx) (f_17) (by omega)) E0_blind hK hP hD hS hA [2, 4, 20] [0, 1, 3, 5, 6, 7, 8, 9, 10, 11, 12, 13, 14, 15, 16, 17, 18, 19] ⟨rfl, rfl, by decide +kernel, by decide +kernel, by decide +kernel⟩ rfl rfl (fun _ _ _ => trivial) dX6_isYesNow_55 rfl rfl (Nat.le_of_ble_eq_true rfl) ⟨Nat.le_of_ble_eq_true rfl, Nat.le_of_ble_eq_true rfl⟩ ⟨Nat.le_of_ble_eq_true rfl, Nat.le_of_ble_eq_true rfl⟩ (fun zr21 zu21 H locs hw21 hP9 hD9 hS9 => ?_)
            clear hP hD hS
            refine reW [wO p0 6 [.ref p1, .ref er, .ref ro, .ref p2, .ref p3, .ref p4, .ref h0, .ref s0, .int (nI ch)], wI (cy 1) p3 4 (fne), wI (cy 1) h1 4 (fc), wO s0 7 [.ref s1, .ref s2, .int (nI sl), .int spl, .int svo, .int swi, .int sch], (er, .inl (cy 4, 4, .inr (.inr (.inr (.inr (eF (ea 0) (ea 1) (ea 2) (ea 3))))))), wI (cy 1) (ef 0) 7 (xc 0), wO (ea 1) 2 [.ref (eg 1), .ref (ef 1), .int (et 1), .int (nI (el 1)), .int (nI (ei 1))], wI (cy 1) (eg 1) 10 (gc 1), wI (cy 1) (ef 1) 7 (xc 1), wO (ea 2) 2 [.ref (eg 2), .ref (ef 2), .int (et 2), .int (nI (el 2)), .int (nI (ei 2))], wI (cy 1) (eg 2) 10 (gc 2), wI (cy 1) (ef 2) 7 (xc 2), wO (ea 3) 2 [.ref (eg 3), .ref (ef 3), .int (et 3), .int (nI (el 3)), .int (nI (ei 3))], wI (cy 1) (eg 3) 10 (gc 3), wI (cy 1) (ef 3) 7 (xc 3), wO (ea 0) 2 [.ref (eg 0), .ref (ef 0), .int (et 0), .int (nI ((el 0))), .int (nI ((ei 0)))], wI (cy 1) (eg 0) 10 (gc 0), wI (cy 1) s1 10 (fw), wO h0 4 [.ref h1, .ref h2, .ref h3, .ref h4, .ref h5, .ref h6, .ref h7, .ref h8, .ref h9, .ref h10, .ref h11, .int ys, hv1, hv2, hv3, hv4], wI (cy 1) h7 48 (fx), wI (cy 1) ro 20 (fr2_12)] hP9 hD9 hS9 (fun hP hD hS => ?_)
            clear hP9 hD9 hS9
            refine W.widen (k := 0) (n := 0) (Nat.le_of_ble_eq_true rfl) (Nat.le_of_ble_eq_true rfl) ?_
            replace hw21 : (zr21 = 0 ∨ zr21 = 1) ∧ (bR zr21 (ysB ys (stA fx fr2_12 k_13))) := hw21
            obtain ⟨f_22, f_23⟩ := hw21
            exact x_zret hQ hx hb hr hlocks hK hP hD hS (narB f_22) dX6_isYesNow_58 fr2_12 (⟨f_22, f_17⟩) [0, 1, 18, 2, 19, 3, 17, 20, 4, 15, 16, 5, 6, 7, 8, 9, 10, 11, 12, 13, 14] (by decide +kernel) rfl (Nat.le_of_ble_eq_true rfl) (Nat.le_of_ble_eq_true rfl)
        · subst hsp
          refine va_aldq hx hb hK hP 8 4 rfl rfl (by unfold vp_in; decide) dX6_isYesNow_25 ?_
          refine W.eq (g2 := F0 m 26 ls [.ref (ea 1)]) rfl ?_
          refine lv_aload_n hx hb dX6_isYesNow_26 rfl (lv_at hl 1 rfl) ?_
          refine va_get (D := D) (ci := 6) (v := .ref s0) (C := RX6) (T := TX6) (N := 9) hx hb hg i_X6 hown hK hP 0 rfl rfl 7 (by decide) (hg _ m_592) (fun _ h9 => h9) rfl dX6_isYesNow_27 ?_
          refine va_get (D := D) (ci := 7) (v := .ref s1) (C := RX7) (T := TX7) (N := 7) hx hb hg i_X7 hown hK hP 5 rfl rfl 0 (by decide) (hg _ m_622) (fun _ h9 => h9) rfl dX6_isYesNow_30 ?_
          refine lv_aload_n hx hb dX6_isYesNow_33 rfl (lv_at hl 1 rfl) ?_
          refine va_get (D := D) (ci := 6) (v := .ref ro) (C := RX6) (T := TX6) (N := 9) hx hb hg i_X6 hown hK hP 0 rfl rfl 2 (by decide) (hg _ m_587) (fun _ h9 => h9) rfl dX6_isYesNow_34 ?_
          refine lv_iconst (v := 0) hx hb dX6_isYesNow_37 (by decide) ?_
          refine x_callVi (q := (RX2, TX2, 5)) (ci := 2) (q0 := 0) (wr := [wO p0 6 [.ref p1, .ref er, .ref ro, .ref p2, .ref p3, .ref p4, .ref h0, .ref s0, .int (nI ch)], wI (cy 1) p3 4 (fne), wO h0 4 [.ref h1, .ref h2, .ref h3, .ref h4, .ref h5, .ref h6, .ref h7, .ref h8, .ref h9, .ref h10, .ref h11, .int ys, hv1, hv2, hv3, hv4], wI (cy 1) h1 4 (fc), wI (cy 1) h7 48 (fx), wO s0 7 [.ref s1, .ref s2, .int (nI sl), .int spl, .int svo, .int swi, .int sch], (er, .inl (cy 4, 4, .inr (.inr (.inr (.inr (eF (ea 0) (ea 1) (ea 2) (ea 3))))))), wO (ea 0) 2 [.ref (eg 0), .ref (ef 0), .int (et 0), .int (nI (el 0)), .int (nI (ei 0))], wI (cy 1) (eg 0) 10 (gc 0), wI (cy 1) (ef 0) 7 (xc 0), wI (cy 1) (ef 1) 7 (xc 1), wO (ea 2) 2 [.ref (eg 2), .ref (ef 2), .int (et 2), .int (nI (el 2)), .int (nI (ei 2))], wI (cy 1) (eg 2) 10 (gc 2), wI (cy 1) (ef 2) 7 (xc 2), wO (ea 3) 2 [.ref (eg 3), .ref (ef 3), .int (et 3), .int (nI (el 3)), .int (nI (ei 3))], wI (cy 1) (eg 3) 10 (gc 3), wI (cy 1) (ef 3) 7 (xc 3)]) (rest := []) ⟨hx, hb, hml, hown, hg, hl.1⟩ k_X6_117 (s_send l D cy (ea 1) (eg 1) (ef 1) (et 1) ((el 1)) ((ei 1)) (gc 1) s1 fw ro fa1_5 0 (by omega) (hsw) (ha2_5) (by omega) (by omega)) E0_blind hK hP hD hS hA [12, 13, 6, 7] [0, 1, 2, 3, 4, 5, 8, 9, 10, 11, 14, 15, 16, 17, 18, 19, 20] ⟨rfl, rfl, by decide +kernel, by decide +kernel, by decide +kernel⟩ rfl rfl (fun _ _ _ => trivial) dX6_isYesNow_38 rfl rfl (Nat.le_of_ble_eq_true rfl) ⟨Nat.le_of_ble_eq_true rfl, Nat.le_of_ble_eq_true rfl⟩ ⟨Nat.le_of_ble_eq_true rfl, Nat.le_of_ble_eq_true rfl⟩ (fun zr24 zu24 H locs hw24 hP9 hD9 hS9 => ?_)
          clear hP hD hS
          obtain ⟨fr2_25, k_26⟩ := zu24
          refine reW [wO p0 6 [.ref p1, .ref er, .ref ro, .ref p2, .ref p3, .ref p4, .ref h0, .ref s0, .int (nI ch)], wI (cy 1) p3 4 (fne), wO h0 4 [.ref h1, .ref h2, .ref h3, .ref h4, .ref h5, .ref h6, .ref h7, .ref h8, .ref h9, .ref h10, .ref h11, .int ys, hv1, hv2, hv3, hv4], wI (cy 1) h1 4 (fc), wI (cy 1) h7 48 (fx), wO s0 7 [.ref s1, .ref s2, .int (nI sl), .int spl, .int svo, .int swi, .int sch], (er, .inl (cy 4, 4, .inr (.inr (.inr (.inr (eF (ea 0) (ea 1) (ea 2) (ea 3))))))), wO (ea 0) 2 [.ref (eg 0), .ref (ef 0), .int (et 0), .int (nI (el 0)), .int (nI (ei 0))], wI (cy 1) (eg 0) 10 (gc 0), wI (cy 1) (ef 0) 7 (xc 0), wI (cy 1) (ef 1) 7 (xc 1), wO (ea 2) 2 [.ref (eg 2), .ref (ef 2), .int (et 2), .int (nI (el 2)), .int (nI (ei 2))], wI (cy 1) (eg 2) 10 (gc 2), wI (cy 1) (ef 2) 7 (xc 2), wO (ea 3) 2 [.ref (eg 3), .ref (ef 3), .int (et 3), .int (nI (el 3)), .int (nI (ei 3))], wI (cy 1) (eg 3) 10 (gc 3), wI (cy 1) (ef 3) 7 (xc 3), wO (ea 1) 2 [.ref (eg 1), .ref (ef 1), .int (et 1), .int (nI ((el 1))), .int (nI ((ei 1)))], wI (cy 1) (eg 1) 10 (gc 1), wI (cy 1) s1 10 (fw), wI (cy 1) ro 20 (fr2_25)] hP9 hD9 hS9 (fun hP hD hS => ?_)
          clear hP9 hD9 hS9
          refine W.widen (k := 0) (n := 0) (Nat.le_of_ble_eq_true rfl) (Nat.le_of_ble_eq_true rfl) ?_
          replace hw24 : (zr24 = nI k_26) ∧ (k_26 ≤ 20) ∧ (k_26 ≤ 0 + ((el 1))) ∧ (rng fr2_25 20 7) ∧ (exC fa1_5 0 fr2_25 k_26 (sdL (fun i9 => gB ((gc 1) i9) (fw i9)) fw (plS (et 1) ((el 1))) ((el 1)))) := hw24
          obtain ⟨f_27, f_28, f_29, f_30, f_31⟩ := hw24
          subst f_27
          refine lv_istore_n (lv' := [(2, .int (nI k_26)), (1, .int (nI i5)), (0, .ref p0)]) hx hb dX6_isYesNow_41 rfl hl (by decide) rfl (fun ls hl => ?_)
          refine lv_iload_n hx hb dX6_isYesNow_42 rfl (lv_at hl 0 rfl) ?_
          refine lv_if_le (tgt := 59) hx hb dX6_isYesNow_43 (by decide) (fun c_32 => ?_) (fun c_32 => ?_)
          · have q_33 : k_26 ≤ 0 := q_le (a := k_26) (b := 0) rfl rfl (by omega) (by omega) c_32
            refine lv_iinc (v := nI (i5 + 1)) (lv' := [(1, .int (nI (i5 + 1))), (2, .int (nI k_26)), (0, .ref p0)]) hx hb dX6_isYesNow_59 hl (k := 1) rfl (nI_add i5 1) (by decide) rfl (fun ls hl => ?_)
            refine lv_goto (tgt := 2) hx hb dX6_isYesNow_62 (by decide) ?_
            exact ih5  ((i5 + 1)) fr2_25 f_30 (by omega) (by omega) _ _ (hP.sub [0, 1, 2, 3, 4, 5, 19, 20, 6, 7, 8, 9, 17, 18, 10, 11, 12, 13, 14, 15, 16] rfl) (hD.sub [0, 1, 2, 3, 4, 5, 19, 20, 6, 7, 8, 9, 17, 18, 10, 11, 12, 13, 14, 15, 16] (by decide +kernel) rfl) hS ls (lv_sub hl [0, 2] rfl)
          · have q_33 : 0 < k_26 := q_nle (a := k_26) (b := 0) rfl rfl (by omega) (by omega) c_32
            refine lv_aload_n hx hb dX6_isYesNow_46 rfl (lv_at hl 2 rfl) ?_
            refine va_get (D := D) (ci := 6) (v := .ref h0) (C := RX6) (T := TX6) (N := 9) hx hb hg i_X6 hown hK hP 0 rfl rfl 6 (by decide) (hg _ m_591) (fun _ h9 => h9) rfl dX6_isYesNow_47 ?_
            refine lv_aload_n hx hb dX6_isYesNow_50 rfl (lv_at hl 2 rfl) ?_
            refine va_get (D := D) (ci := 6) (v := .ref ro) (C := RX6) (T := TX6) (N := 9) hx hb hg i_X6 hown hK hP 0 rfl rfl 2 (by decide) (hg _ m_587) (fun _ h9 => h9) rfl dX6_isYesNow_51 ?_
            refine lv_iload_n hx hb dX6_isYesNow_54 rfl (lv_at hl 0 rfl) ?_
            refine x_callVi (q := (RX4, TX4, 16)) (ci := 4) (q0 := 0) (wr := [wO p0 6 [.ref p1, .ref er, .ref ro, .ref p2, .ref p3, .ref p4, .ref h0, .ref s0, .int (nI ch)], wI (cy 1) p3 4 (fne), wI (cy 1) h1 4 (fc), wO s0 7 [.ref s1, .ref s2, .int (nI sl), .int spl, .int svo, .int swi, .int sch], (er, .inl (cy 4, 4, .inr (.inr (.inr (.inr (eF (ea 0) (ea 1) (ea 2) (ea 3))))))), wO (ea 0) 2 [.ref (eg 0), .ref (ef 0), .int (et 0), .int (nI (el 0)), .int (nI (ei 0))], wI (cy 1) (eg 0) 10 (gc 0), wI (cy 1) (ef 0) 7 (xc 0), wI (cy 1) (ef 1) 7 (xc 1), wO (ea 2) 2 [.ref (eg 2), .ref (ef 2), .int (et 2), .int (nI (el 2)), .int (nI (ei 2))], wI (cy 1) (eg 2) 10 (gc 2), wI (cy 1) (ef 2) 7 (xc 2), wO (ea 3) 2 [.ref (eg 3), .ref (ef 3), .int (et 3), .int (nI (el 3)), .int (nI (ei 3))], wI (cy 1) (eg 3) 10 (gc 3), wI (cy 1) (ef 3) 7 (xc 3), wO (ea 1) 2 [.ref (eg 1), .ref (ef 1), .int (et 1), .int (nI ((el 1))), .int (nI ((ei 1)))], wI (cy 1) (eg 1) 10 (gc 1), wI (cy 1) s1 10 (fw)]) (rest := []) ⟨hx, hb, hml, hown, hg, hl.1⟩ k_X6_121 (s_isYes l D cy h0 h1 h2 h3 h4 h5 h6 h7 h8 h9 h10 h11 hv1 hv2 hv3 hv4 ys fx ro fr2_25 k_26 (hnx) (f_30) (by omega)) E0_blind hK hP hD hS hA [2, 4, 20] [0, 1, 3, 5, 6, 7, 8, 9, 10, 11, 12, 13, 14, 15, 16, 17, 18, 19] ⟨rfl, rfl, by decide +kernel, by decide +kernel, by decide +kernel⟩ rfl rfl (fun _ _ _ => trivial) dX6_isYesNow_55 rfl rfl (Nat.le_of_ble_eq_true rfl) ⟨Nat.le_of_ble_eq_true rfl, Nat.le_of_ble_eq_true rfl⟩ ⟨Nat.le_of_ble_eq_true rfl, Nat.le_of_ble_eq_true rfl⟩ (fun zr34 zu34 H locs hw34 hP9 hD9 hS9 => ?_)
            clear hP hD hS
            refine reW [wO p0 6 [.ref p1, .ref er, .ref ro, .ref p2, .ref p3, .ref p4, .ref h0, .ref s0, .int (nI ch)], wI (cy 1) p3 4 (fne), wI (cy 1) h1 4 (fc), wO s0 7 [.ref s1, .ref s2, .int (nI sl), .int spl, .int svo, .int swi, .int sch], (er, .inl (cy 4, 4, .inr (.inr (.inr (.inr (eF (ea 0) (ea 1) (ea 2) (ea 3))))))), wO (ea 0) 2 [.ref (eg 0), .ref (ef 0), .int (et 0), .int (nI (el 0)), .int (nI (ei 0))], wI (cy 1) (eg 0) 10 (gc 0), wI (cy 1) (ef 0) 7 (xc 0), wI (cy 1) (ef 1) 7 (xc 1), wO (ea 2) 2 [.ref (eg 2), .ref (ef 2), .int (et 2), .int (nI (el 2)), .int (nI (ei 2))], wI (cy 1) (eg 2) 10 (gc 2), wI (cy 1) (ef 2) 7 (xc 2), wO (ea 3) 2 [.ref (eg 3), .ref (ef 3), .int (et 3), .int (nI (el 3)), .int (nI (ei 3))], wI (cy 1) (eg 3) 10 (gc 3), wI (cy 1) (ef 3) 7 (xc 3), wO (ea 1) 2 [.ref (eg 1), .ref (ef 1), .int (et 1), .int (nI ((el 1))), .int (nI ((ei 1)))], wI (cy 1) (eg 1) 10 (gc 1), wI (cy 1) s1 10 (fw), wO h0 4 [.ref h1, .ref h2, .ref h3, .ref h4, .ref h5, .ref h6, .ref h7, .ref h8, .ref h9, .ref h10, .ref h11, .int ys, hv1, hv2, hv3, hv4], wI (cy 1) h7 48 (fx), wI (cy 1) ro 20 (fr2_25)] hP9 hD9 hS9 (fun hP hD hS => ?_)
            clear hP9 hD9 hS9
            refine W.widen (k := 0) (n := 0) (Nat.le_of_ble_eq_true rfl) (Nat.le_of_ble_eq_true rfl) ?_
            replace hw34 : (zr34 = 0 ∨ zr34 = 1) ∧ (bR zr34 (ysB ys (stA fx fr2_25 k_26))) := hw34
            obtain ⟨f_35, f_36⟩ := hw34
            exact x_zret hQ hx hb hr hlocks hK hP hD hS (narB f_35) dX6_isYesNow_58 fr2_25 (⟨f_35, f_30⟩) [0, 1, 18, 2, 19, 3, 17, 20, 4, 5, 6, 7, 15, 16, 8, 9, 10, 11, 12, 13, 14] (by decide +kernel) rfl (Nat.le_of_ble_eq_true rfl) (Nat.le_of_ble_eq_true rfl)
        · subst hsp
          refine va_aldq hx hb hK hP 8 4 rfl rfl (by unfold vp_in; decide) dX6_isYesNow_25 ?_
          refine W.eq (g2 := F0 m 26 ls [.ref (ea 2)]) rfl ?_
          refine lv_aload_n hx hb dX6_isYesNow_26 rfl (lv_at hl 1 rfl) ?_
          refine va_get (D := D) (ci := 6) (v := .ref s0) (C := RX6) (T := TX6) (N := 9) hx hb hg i_X6 hown hK hP 0 rfl rfl 7 (by decide) (hg _ m_592) (fun _ h9 => h9) rfl dX6_isYesNow_27 ?_
          refine va_get (D := D) (ci := 7) (v := .ref s1) (C := RX7) (T := TX7) (N := 7) hx hb hg i_X7 hown hK hP 5 rfl rfl 0 (by decide) (hg _ m_622) (fun _ h9 => h9) rfl dX6_isYesNow_30 ?_
          refine lv_aload_n hx hb dX6_isYesNow_33 rfl (lv_at hl 1 rfl) ?_
          refine va_get (D := D) (ci := 6) (v := .ref ro) (C := RX6) (T := TX6) (N := 9) hx hb hg i_X6 hown hK hP 0 rfl rfl 2 (by decide) (hg _ m_587) (fun _ h9 => h9) rfl dX6_isYesNow_34 ?_
          refine lv_iconst (v := 0) hx hb dX6_isYesNow_37 (by decide) ?_
          refine x_callVi (q := (RX2, TX2, 5)) (ci := 2) (q0 := 0) (wr := [wO p0 6 [.ref p1, .ref er, .ref ro, .ref p2, .ref p3, .ref p4, .ref h0, .ref s0, .int (nI ch)], wI (cy 1) p3 4 (fne), wO h0 4 [.ref h1, .ref h2, .ref h3, .ref h4, .ref h5, .ref h6, .ref h7, .ref h8, .ref h9, .ref h10, .ref h11, .int ys, hv1, hv2, hv3, hv4], wI (cy 1) h1 4 (fc), wI (cy 1) h7 48 (fx), wO s0 7 [.ref s1, .ref s2, .int (nI sl), .int spl, .int svo, .int swi, .int sch], (er, .inl (cy 4, 4, .inr (.inr (.inr (.inr (eF (ea 0) (ea 1) (ea 2) (ea 3))))))), wO (ea 0) 2 [.ref (eg 0), .ref (ef 0), .int (et 0), .int (nI (el 0)), .int (nI (ei 0))], wI (cy 1) (eg 0) 10 (gc 0), wI (cy 1) (ef 0) 7 (xc 0), wO (ea 1) 2 [.ref (eg 1), .ref (ef 1), .int (et 1), .int (nI (el 1)), .int (nI (ei 1))], wI (cy 1) (eg 1) 10 (gc 1), wI (cy 1) (ef 1) 7 (xc 1), wI (cy 1) (ef 2) 7 (xc 2), wO (ea 3) 2 [.ref (eg 3), .ref (ef 3), .int (et 3), .int (nI (el 3)), .int (nI (ei 3))], wI (cy 1) (eg 3) 10 (gc 3), wI (cy 1) (ef 3) 7 (xc 3)]) (rest := []) ⟨hx, hb, hml, hown, hg, hl.1⟩ k_X6_117 (s_send l D cy (ea 2) (eg 2) (ef 2) (et 2) ((el 2)) ((ei 2)) (gc 2) s1 fw ro fa1_5 0 (by omega) (hsw) (ha2_5) (by omega) (by omega)) E0_blind hK hP hD hS hA [15, 16, 6, 7] [0, 1, 2, 3, 4, 5, 8, 9, 10, 11, 12, 13, 14, 17, 18, 19, 20] ⟨rfl, rfl, by decide +kernel, by decide +kernel, by decide +kernel⟩ rfl rfl (fun _ _ _ => trivial) dX6_isYesNow_38 rfl rfl (Nat.le_of_ble_eq_true rfl) ⟨Nat.le_of_ble_eq_true rfl, Nat.le_of_ble_eq_true rfl⟩ ⟨Nat.le_of_ble_eq_true rfl, Nat.le_of_ble_eq_true rfl⟩ (fun zr37 zu37 H locs hw37 hP9 hD9 hS9 => ?_)
          clear hP hD hS
          obtain ⟨fr2_38, k_39⟩ := zu37
          refine reW [wO p0 6 [.ref p1, .ref er, .ref ro, .ref p2, .ref p3, .ref p4, .ref h0, .ref s0, .int (nI ch)], wI (cy 1) p3 4 (fne), wO h0 4 [.ref h1, .ref h2, .ref h3, .ref h4, .ref h5, .ref h6, .ref h7, .ref h8, .ref h9, .ref h10, .ref h11, .int ys, hv1, hv2, hv3, hv4], wI (cy 1) h1 4 (fc), wI (cy 1) h7 48 (fx), wO s0 7 [.ref s1, .ref s2, .int (nI sl), .int spl, .int svo, .int swi, .int sch], (er, .inl (cy 4, 4, .inr (.inr (.inr (.inr (eF (ea 0) (ea 1) (ea 2) (ea 3))))))), wO (ea 0) 2 [.ref (eg 0), .ref (ef 0), .int (et 0), .int (nI (el 0)), .int (nI (ei 0))], wI (cy 1) (eg 0) 10 (gc 0), wI (cy 1) (ef 0) 7 (xc 0), wO (ea 1) 2 [.ref (eg 1), .ref (ef 1), .int (et 1), .int (nI (el 1)), .int (nI (ei 1))], wI (cy 1) (eg 1) 10 (gc 1), wI (cy 1) (ef 1) 7 (xc 1), wI (cy 1) (ef 2) 7 (xc 2), wO (ea 3) 2 [.ref (eg 3), .ref (ef 3), .int (et 3), .int (nI (el 3)), .int (nI (ei 3))], wI (cy 1) (eg 3) 10 (gc 3), wI (cy 1) (ef 3) 7 (xc 3), wO (ea 2) 2 [.ref (eg 2), .ref (ef 2), .int (et 2), .int (nI ((el 2))), .int (nI ((ei 2)))], wI (cy 1) (eg 2) 10 (gc 2), wI (cy 1) s1 10 (fw), wI (cy 1) ro 20 (fr2_38)] hP9 hD9 hS9 (fun hP hD hS => ?_)
          clear hP9 hD9 hS9
          refine W.widen (k := 0) (n := 0) (Nat.le_of_ble_eq_true rfl) (Nat.le_of_ble_eq_true rfl) ?_
          replace hw37 : (zr37 = nI k_39) ∧ (k_39 ≤ 20) ∧ (k_39 ≤ 0 + ((el 2))) ∧ (rng fr2_38 20 7) ∧ (exC fa1_5 0 fr2_38 k_39 (sdL (fun i9 => gB ((gc 2) i9) (fw i9)) fw (plS (et 2) ((el 2))) ((el 2)))) := hw37
          obtain ⟨f_40, f_41, f_42, f_43, f_44⟩ := hw37
          subst f_40
          refine lv_istore_n (lv' := [(2, .int (nI k_39)), (1, .int (nI i5)), (0, .ref p0)]) hx hb dX6_isYesNow_41 rfl hl (by decide) rfl (fun ls hl => ?_)
          refine lv_iload_n hx hb dX6_isYesNow_42 rfl (lv_at hl 0 rfl) ?_
          refine lv_if_le (tgt := 59) hx hb dX6_isYesNow_43 (by decide) (fun c_45 => ?_) (fun c_45 => ?_)
          · have q_46 : k_39 ≤ 0 := q_le (a := k_39) (b := 0) rfl rfl (by omega) (by omega) c_45
            refine lv_iinc (v := nI (i5 + 1)) (lv' := [(1, .int (nI (i5 + 1))), (2, .int (nI k_39)), (0, .ref p0)]) hx hb dX6_isYesNow_59 hl (k := 1) rfl (nI_add i5 1) (by decide) rfl (fun ls hl => ?_)
            refine lv_goto (tgt := 2) hx hb dX6_isYesNow_62 (by decide) ?_
            exact ih5  ((i5 + 1)) fr2_38 f_43 (by omega) (by omega) _ _ (hP.sub [0, 1, 2, 3, 4, 5, 19, 20, 6, 7, 8, 9, 10, 11, 12, 17, 18, 13, 14, 15, 16] rfl) (hD.sub [0, 1, 2, 3, 4, 5, 19, 20, 6, 7, 8, 9, 10, 11, 12, 17, 18, 13, 14, 15, 16] (by decide +kernel) rfl) hS ls (lv_sub hl [0, 2] rfl)
          · have q_46 : 0 < k_39 := q_nle (a := k_39) (b := 0) rfl rfl (by omega) (by omega) c_45
            refine lv_aload_n hx hb dX6_isYesNow_46 rfl (lv_at hl 2 rfl) ?_
            refine va_get (D := D) (ci := 6) (v := .ref h0) (C := RX6) (T := TX6) (N := 9) hx hb hg i_X6 hown hK hP 0 rfl rfl 6 (by decide) (hg _ m_591) (fun _ h9 => h9) rfl dX6_isYesNow_47 ?_
            refine lv_aload_n hx hb dX6_isYesNow_50 rfl (lv_at hl 2 rfl) ?_
            refine va_get (D := D) (ci := 6) (v := .ref ro) (C := RX6) (T := TX6) (N := 9) hx hb hg i_X6 hown hK hP 0 rfl rfl 2 (by decide) (hg _ m_587) (fun _ h9 => h9) rfl dX6_isYesNow_51 ?_
            refine lv_iload_n hx hb dX6_isYesNow_54 rfl (lv_at hl 0 rfl) ?_
            refine x_callVi (q := (RX4, TX4, 16)) (ci := 4) (q0 := 0) (wr := [wO p0 6 [.ref p1, .ref er, .ref ro, .ref p2, .ref p3, .ref p4, .ref h0, .ref s0, .int (nI ch)], wI (cy 1) p3 4 (fne), wI (cy 1) h1 4 (fc), wO s0 7 [.ref s1, .ref s2, .int (nI sl), .int spl, .int svo, .int swi, .int sch], (er, .inl (cy 4, 4, .inr (.inr (.inr (.inr (eF (ea 0) (ea 1) (ea 2) (ea 3))))))), wO (ea 0) 2 [.ref (eg 0), .ref (ef 0), .int (et 0), .int (nI (el 0)), .int (nI (ei 0))], wI (cy 1) (eg 0) 10 (gc 0), wI (cy 1) (ef 0) 7 (xc 0), wO (ea 1) 2 [.ref (eg 1), .ref (ef 1), .int (et 1), .int (nI (el 1)), .int (nI (ei 1))], wI (cy 1) (eg 1) 10 (gc 1), wI (cy 1) (ef 1) 7 (xc 1), wI (cy 1) (ef 2) 7 (xc 2), wO (ea 3) 2 [.ref (eg 3), .ref (ef 3), .int (et 3), .int (nI (el 3)), .int (nI (ei 3))], wI (cy 1) (eg 3) 10 (gc 3), wI (cy 1) (ef 3) 7 (xc 3), wO (ea 2) 2 [.ref (eg 2), .ref (ef 2), .int (et 2), .int (nI ((el 2))), .int (nI ((ei 2)))], wI (cy 1) (eg 2) 10 (gc 2), wI (cy 1) s1 10 (fw)]) (rest := []) ⟨hx, hb, hml, hown, hg, hl.1⟩ k_X6_121 (s_isYes l D cy h0 h1 h2 h3 h4 h5 h6 h7 h8 h9 h10 h11 hv1 hv2 hv3 hv4 ys fx ro fr2_38 k_39 (hnx) (f_43) (by omega)) E0_blind hK hP hD hS hA [2, 4, 20] [0, 1, 3, 5, 6, 7, 8, 9, 10, 11, 12, 13, 14, 15, 16, 17, 18, 19] ⟨rfl, rfl, by decide +kernel, by decide +kernel, by decide +kernel⟩ rfl rfl (fun _ _ _ => trivial) dX6_isYesNow_55 rfl rfl (Nat.le_of_ble_eq_true rfl) ⟨Nat.le_of_ble_eq_true rfl, Nat.le_of_ble_eq_true rfl⟩ ⟨Nat.le_of_ble_eq_true rfl, Nat.le_of_ble_eq_true rfl⟩ (fun zr47 zu47 H locs hw47 hP9 hD9 hS9 => ?_)
            clear hP hD hS
            refine reW [wO p0 6 [.ref p1, .ref er, .ref ro, .ref p2, .ref p3, .ref p4, .ref h0, .ref s0, .int (nI ch)], wI (cy 1) p3 4 (fne), wI (cy 1) h1 4 (fc), wO s0 7 [.ref s1, .ref s2, .int (nI sl), .int spl, .int svo, .int swi, .int sch], (er, .inl (cy 4, 4, .inr (.inr (.inr (.inr (eF (ea 0) (ea 1) (ea 2) (ea 3))))))), wO (ea 0) 2 [.ref (eg 0), .ref (ef 0), .int (et 0), .int (nI (el 0)), .int (nI (ei 0))], wI (cy 1) (eg 0) 10 (gc 0), wI (cy 1) (ef 0) 7 (xc 0), wO (ea 1) 2 [.ref (eg 1), .ref (ef 1), .int (et 1), .int (nI (el 1)), .int (nI (ei 1))], wI (cy 1) (eg 1) 10 (gc 1), wI (cy 1) (ef 1) 7 (xc 1), wI (cy 1) (ef 2) 7 (xc 2), wO (ea 3) 2 [.ref (eg 3), .ref (ef 3), .int (et 3), .int (nI (el 3)), .int (nI (ei 3))], wI (cy 1) (eg 3) 10 (gc 3), wI (cy 1) (ef 3) 7 (xc 3), wO (ea 2) 2 [.ref (eg 2), .ref (ef 2), .int (et 2), .int (nI ((el 2))), .int (nI ((ei 2)))], wI (cy 1) (eg 2) 10 (gc 2), wI (cy 1) s1 10 (fw), wO h0 4 [.ref h1, .ref h2, .ref h3, .ref h4, .ref h5, .ref h6, .ref h7, .ref h8, .ref h9, .ref h10, .ref h11, .int ys, hv1, hv2, hv3, hv4], wI (cy 1) h7 48 (fx), wI (cy 1) ro 20 (fr2_38)] hP9 hD9 hS9 (fun hP hD hS => ?_)
            clear hP9 hD9 hS9
            refine W.widen (k := 0) (n := 0) (Nat.le_of_ble_eq_true rfl) (Nat.le_of_ble_eq_true rfl) ?_
            replace hw47 : (zr47 = 0 ∨ zr47 = 1) ∧ (bR zr47 (ysB ys (stA fx fr2_38 k_39))) := hw47
            obtain ⟨f_48, f_49⟩ := hw47
            exact x_zret hQ hx hb hr hlocks hK hP hD hS (narB f_48) dX6_isYesNow_58 fr2_38 (⟨f_48, f_43⟩) [0, 1, 18, 2, 19, 3, 17, 20, 4, 5, 6, 7, 8, 9, 10, 15, 16, 11, 12, 13, 14] (by decide +kernel) rfl (Nat.le_of_ble_eq_true rfl) (Nat.le_of_ble_eq_true rfl)
        · subst hsp
          refine va_aldq hx hb hK hP 8 4 rfl rfl (by unfold vp_in; decide) dX6_isYesNow_25 ?_
          refine W.eq (g2 := F0 m 26 ls [.ref (ea 3)]) rfl ?_
          refine lv_aload_n hx hb dX6_isYesNow_26 rfl (lv_at hl 1 rfl) ?_
          refine va_get (D := D) (ci := 6) (v := .ref s0) (C := RX6) (T := TX6) (N := 9) hx hb hg i_X6 hown hK hP 0 rfl rfl 7 (by decide) (hg _ m_592) (fun _ h9 => h9) rfl dX6_isYesNow_27 ?_
          refine va_get (D := D) (ci := 7) (v := .ref s1) (C := RX7) (T := TX7) (N := 7) hx hb hg i_X7 hown hK hP 5 rfl rfl 0 (by decide) (hg _ m_622) (fun _ h9 => h9) rfl dX6_isYesNow_30 ?_
          refine lv_aload_n hx hb dX6_isYesNow_33 rfl (lv_at hl 1 rfl) ?_
          refine va_get (D := D) (ci := 6) (v := .ref ro) (C := RX6) (T := TX6) (N := 9) hx hb hg i_X6 hown hK hP 0 rfl rfl 2 (by decide) (hg _ m_587) (fun _ h9 => h9) rfl dX6_isYesNow_34 ?_
          refine lv_iconst (v := 0) hx hb dX6_isYesNow_37 (by decide) ?_
          refine x_callVi (q := (RX2, TX2, 5)) (ci := 2) (q0 := 0) (wr := [wO p0 6 [.ref p1, .ref er, .ref ro, .ref p2, .ref p3, .ref p4, .ref h0, .ref s0, .int (nI ch)], wI (cy 1) p3 4 (fne), wO h0 4 [.ref h1, .ref h2, .ref h3, .ref h4, .ref h5, .ref h6, .ref h7, .ref h8, .ref h9, .ref h10, .ref h11, .int ys, hv1, hv2, hv3, hv4], wI (cy 1) h1 4 (fc), wI (cy 1) h7 48 (fx), wO s0 7 [.ref s1, .ref s2, .int (nI sl), .int spl, .int svo, .int swi, .int sch], (er, .inl (cy 4, 4, .inr (.inr (.inr (.inr (eF (ea 0) (ea 1) (ea 2) (ea 3))))))), wO (ea 0) 2 [.ref (eg 0), .ref (ef 0), .int (et 0), .int (nI (el 0)), .int (nI (ei 0))], wI (cy 1) (eg 0) 10 (gc 0), wI (cy 1) (ef 0) 7 (xc 0), wO (ea 1) 2 [.ref (eg 1), .ref (ef 1), .int (et 1), .int (nI (el 1)), .int (nI (ei 1))], wI (cy 1) (eg 1) 10 (gc 1), wI (cy 1) (ef 1) 7 (xc 1), wO (ea 2) 2 [.ref (eg 2), .ref (ef 2), .int (et 2), .int (nI (el 2)), .int (nI (ei 2))], wI (cy 1) (eg 2) 10 (gc 2), wI (cy 1) (ef 2) 7 (xc 2), wI (cy 1) (ef 3) 7 (xc 3)]) (rest := []) ⟨hx, hb, hml, hown, hg, hl.1⟩ k_X6_117 (s_send l D cy (ea 3) (eg 3) (ef 3) (et 3) ((el 3)) ((ei 3)) (gc 3) s1 fw ro fa1_5 0 (by omega) (hsw) (ha2_5) (by omega) (by omega)) E0_blind hK hP hD hS hA [18, 19, 6, 7] [0, 1, 2, 3, 4, 5, 8, 9, 10, 11, 12, 13, 14, 15, 16, 17, 20] ⟨rfl, rfl, by decide +kernel, by decide +kernel, by decide +kernel⟩ rfl rfl (fun _ _ _ => trivial) dX6_isYesNow_38 rfl rfl (Nat.le_of_ble_eq_true rfl) ⟨Nat.le_of_ble_eq_true rfl, Nat.le_of_ble_eq_true rfl⟩ ⟨Nat.le_of_ble_eq_true rfl, Nat.le_of_ble_eq_true rfl⟩ (fun zr50 zu50 H locs hw50 hP9 hD9 hS9 => ?_)
          clear hP hD hS
          obtain ⟨fr2_51, k_52⟩ := zu50
          refine reW [wO p0 6 [.ref p1, .ref er, .ref ro, .ref p2, .ref p3, .ref p4, .ref h0, .ref s0, .int (nI ch)], wI (cy 1) p3 4 (fne), wO h0 4 [.ref h1, .ref h2, .ref h3, .ref h4, .ref h5, .ref h6, .ref h7, .ref h8, .ref h9, .ref h10, .ref h11, .int ys, hv1, hv2, hv3, hv4], wI (cy 1) h1 4 (fc), wI (cy 1) h7 48 (fx), wO s0 7 [.ref s1, .ref s2, .int (nI sl), .int spl, .int svo, .int swi, .int sch], (er, .inl (cy 4, 4, .inr (.inr (.inr (.inr (eF (ea 0) (ea 1) (ea 2) (ea 3))))))), wO (ea 0) 2 [.ref (eg 0), .ref (ef 0), .int (et 0), .int (nI (el 0)), .int (nI (ei 0))], wI (cy 1) (eg 0) 10 (gc 0), wI (cy 1) (ef 0) 7 (xc 0), wO (ea 1) 2 [.ref (eg 1), .ref (ef 1), .int (et 1), .int (nI (el 1)), .int (nI (ei 1))], wI (cy 1) (eg 1) 10 (gc 1), wI (cy 1) (ef 1) 7 (xc 1), wO (ea 2) 2 [.ref (eg 2), .ref (ef 2), .int (et 2), .int (nI (el 2)), .int (nI (ei 2))], wI (cy 1) (eg 2) 10 (gc 2), wI (cy 1) (ef 2) 7 (xc 2), wI (cy 1) (ef 3) 7 (xc 3), wO (ea 3) 2 [.ref (eg 3), .ref (ef 3), .int (et 3), .int (nI ((el 3))), .int (nI ((ei 3)))], wI (cy 1) (eg 3) 10 (gc 3), wI (cy 1) s1 10 (fw), wI (cy 1) ro 20 (fr2_51)] hP9 hD9 hS9 (fun hP hD hS => ?_)
          clear hP9 hD9 hS9
          refine W.widen (k := 0) (n := 0) (Nat.le_of_ble_eq_true rfl) (Nat.le_of_ble_eq_true rfl) ?_
          replace hw50 : (zr50 = nI k_52) ∧ (k_52 ≤ 20) ∧ (k_52 ≤ 0 + ((el 3))) ∧ (rng fr2_51 20 7) ∧ (exC fa1_5 0 fr2_51 k_52 (sdL (fun i9 => gB ((gc 3) i9) (fw i9)) fw (plS (et 3) ((el 3))) ((el 3)))) := hw50
          obtain ⟨f_53, f_54, f_55, f_56, f_57⟩ := hw50
          subst f_53
          refine lv_istore_n (lv' := [(2, .int (nI k_52)), (1, .int (nI i5)), (0, .ref p0)]) hx hb dX6_isYesNow_41 rfl hl (by decide) rfl (fun ls hl => ?_)
          refine lv_iload_n hx hb dX6_isYesNow_42 rfl (lv_at hl 0 rfl) ?_
          refine lv_if_le (tgt := 59) hx hb dX6_isYesNow_43 (by decide) (fun c_58 => ?_) (fun c_58 => ?_)
          · have q_59 : k_52 ≤ 0 := q_le (a := k_52) (b := 0) rfl rfl (by omega) (by omega) c_58
            refine lv_iinc (v := nI (i5 + 1)) (lv' := [(1, .int (nI (i5 + 1))), (2, .int (nI k_52)), (0, .ref p0)]) hx hb dX6_isYesNow_59 hl (k := 1) rfl (nI_add i5 1) (by decide) rfl (fun ls hl => ?_)
            refine lv_goto (tgt := 2) hx hb dX6_isYesNow_62 (by decide) ?_
            exact ih5  ((i5 + 1)) fr2_51 f_56 (by omega) (by omega) _ _ (hP.sub [0, 1, 2, 3, 4, 5, 19, 20, 6, 7, 8, 9, 10, 11, 12, 13, 14, 15, 17, 18, 16] rfl) (hD.sub [0, 1, 2, 3, 4, 5, 19, 20, 6, 7, 8, 9, 10, 11, 12, 13, 14, 15, 17, 18, 16] (by decide +kernel) rfl) hS ls (lv_sub hl [0, 2] rfl)
          · have q_59 : 0 < k_52 := q_nle (a := k_52) (b := 0) rfl rfl (by omega) (by omega) c_58
            refine lv_aload_n hx hb dX6_isYesNow_46 rfl (lv_at hl 2 rfl) ?_
            refine va_get (D := D) (ci := 6) (v := .ref h0) (C := RX6) (T := TX6) (N := 9) hx hb hg i_X6 hown hK hP 0 rfl rfl 6 (by decide) (hg _ m_591) (fun _ h9 => h9) rfl dX6_isYesNow_47 ?_
            refine lv_aload_n hx hb dX6_isYesNow_50 rfl (lv_at hl 2 rfl) ?_
            refine va_get (D := D) (ci := 6) (v := .ref ro) (C := RX6) (T := TX6) (N := 9) hx hb hg i_X6 hown hK hP 0 rfl rfl 2 (by decide) (hg _ m_587) (fun _ h9 => h9) rfl dX6_isYesNow_51 ?_
            refine lv_iload_n hx hb dX6_isYesNow_54 rfl (lv_at hl 0 rfl) ?_
            refine x_callVi (q := (RX4, TX4, 16)) (ci := 4) (q0 := 0) (wr := [wO p0 6 [.ref p1, .ref er, .ref ro, .ref p2, .ref p3, .ref p4, .ref h0, .ref s0, .int (nI ch)], wI (cy 1) p3 4 (fne), wI (cy 1) h1 4 (fc), wO s0 7 [.ref s1, .ref s2, .int (nI sl), .int spl, .int svo, .int swi, .int sch], (er, .inl (cy 4, 4, .inr (.inr (.inr (.inr (eF (ea 0) (ea 1) (ea 2) (ea 3))))))), wO (ea 0) 2 [.ref (eg 0), .ref (ef 0), .int (et 0), .int (nI (el 0)), .int (nI (ei 0))], wI (cy 1) (eg 0) 10 (gc 0), wI (cy 1) (ef 0) 7 (xc 0), wO (ea 1) 2 [.ref (eg 1), .ref (ef 1), .int (et 1), .int (nI (el 1)), .int (nI (ei 1))], wI (cy 1) (eg 1) 10 (gc 1), wI (cy 1) (ef 1) 7 (xc 1), wO (ea 2) 2 [.ref (eg 2), .ref (ef 2), .int (et 2), .int (nI (el 2)), .int (nI (ei 2))], wI (cy 1) (eg 2) 10 (gc 2), wI (cy 1) (ef 2) 7 (xc 2), wI (cy 1) (ef 3) 7 (xc 3), wO (ea 3) 2 [.ref (eg 3), .ref (ef 3), .int (et 3), .int (nI ((el 3))), .int (nI ((ei 3)))], wI (cy 1) (eg 3) 10 (gc 3), wI (cy 1) s1 10 (fw)]) (rest := []) ⟨hx, hb, hml, hown, hg, hl.1⟩ k_X6_121 (s_isYes l D cy h0 h1 h2 h3 h4 h5 h6 h7 h8 h9 h10 h11 hv1 hv2 hv3 hv4 ys fx ro fr2_51 k_52 (hnx) (f_56) (by omega)) E0_blind hK hP hD hS hA [2, 4, 20] [0, 1, 3, 5, 6, 7, 8, 9, 10, 11, 12, 13, 14, 15, 16, 17, 18, 19] ⟨rfl, rfl, by decide +kernel, by decide +kernel, by decide +kernel⟩ rfl rfl (fun _ _ _ => trivial) dX6_isYesNow_55 rfl rfl (Nat.le_of_ble_eq_true rfl) ⟨Nat.le_of_ble_eq_true rfl, Nat.le_of_ble_eq_true rfl⟩ ⟨Nat.le_of_ble_eq_true rfl, Nat.le_of_ble_eq_true rfl⟩ (fun zr60 zu60 H locs hw60 hP9 hD9 hS9 => ?_)
            clear hP hD hS
            refine reW [wO p0 6 [.ref p1, .ref er, .ref ro, .ref p2, .ref p3, .ref p4, .ref h0, .ref s0, .int (nI ch)], wI (cy 1) p3 4 (fne), wI (cy 1) h1 4 (fc), wO s0 7 [.ref s1, .ref s2, .int (nI sl), .int spl, .int svo, .int swi, .int sch], (er, .inl (cy 4, 4, .inr (.inr (.inr (.inr (eF (ea 0) (ea 1) (ea 2) (ea 3))))))), wO (ea 0) 2 [.ref (eg 0), .ref (ef 0), .int (et 0), .int (nI (el 0)), .int (nI (ei 0))], wI (cy 1) (eg 0) 10 (gc 0), wI (cy 1) (ef 0) 7 (xc 0), wO (ea 1) 2 [.ref (eg 1), .ref (ef 1), .int (et 1), .int (nI (el 1)), .int (nI (ei 1))], wI (cy 1) (eg 1) 10 (gc 1), wI (cy 1) (ef 1) 7 (xc 1), wO (ea 2) 2 [.ref (eg 2), .ref (ef 2), .int (et 2), .int (nI (el 2)), .int (nI (ei 2))], wI (cy 1) (eg 2) 10 (gc 2), wI (cy 1) (ef 2) 7 (xc 2), wI (cy 1) (ef 3) 7 (xc 3), wO (ea 3) 2 [.ref (eg 3), .ref (ef 3), .int (et 3), .int (nI ((el 3))), .int (nI ((ei 3)))], wI (cy 1) (eg 3) 10 (gc 3), wI (cy 1) s1 10 (fw), wO h0 4 [.ref h1, .ref h2, .ref h3, .ref h4, .ref h5, .ref h6, .ref h7, .ref h8, .ref h9, .ref h10, .ref h11, .int ys, hv1, hv2, hv3, hv4], wI (cy 1) h7 48 (fx), wI (cy 1) ro 20 (fr2_51)] hP9 hD9 hS9 (fun hP hD hS => ?_)
            clear hP9 hD9 hS9
            refine W.widen (k := 0) (n := 0) (Nat.le_of_ble_eq_true rfl) (Nat.le_of_ble_eq_true rfl) ?_
            replace hw60 : (zr60 = 0 ∨ zr60 = 1) ∧ (bR zr60 (ysB ys (stA fx fr2_51 k_52))) := hw60
            obtain ⟨f_61, f_62⟩ := hw60
            exact x_zret hQ hx hb hr hlocks hK hP hD hS (narB f_61) dX6_isYesNow_58 fr2_51 (⟨f_61, f_56⟩) [0, 1, 18, 2, 19, 3, 17, 20, 4, 5, 6, 7, 8, 9, 10, 11, 12, 13, 15, 16, 14] (by decide +kernel) rfl (Nat.le_of_ble_eq_true rfl) (Nat.le_of_ble_eq_true rfl)
  exact loop5 _ 0 fr hrw (by omega) (Nat.le_refl _) _ _ (hP.sub [0, 1, 2, 3, 4, 5, 6, 7, 8, 9, 10, 11, 12, 13, 14, 15, 16, 17, 18, 19, 20] rfl) (hD.sub [0, 1, 2, 3, 4, 5, 6, 7, 8, 9, 10, 11, 12, 13, 14, 15, 16, 17, 18, 19, 20] (by decide +kernel) rfl) hS ls (lv_sub hl [0, 1] rfl)
theorem gdX6_chooseWords_0 : decode cX6_chooseWords 0 = .ok (.iload_n 1, 1) ∧ decode cX6_chooseWords 1 = .ok (.aload_n 0, 1) ∧ decode cX6_chooseWords 2 = .ok (.getfield 66, 3) ∧ decode cX6_chooseWords 5 = .ok (.if_icmp .ge 8, 3) ∧ decode cX6_chooseWords 13 = .ok (.aload_n 0, 1) ∧ decode cX6_chooseWords 14 = .ok (.invokevirtual 113, 3) := by decide +kernel
theorem dX6_chooseWords_0 : decode cX6_chooseWords 0 = .ok (.iload_n 1, 1) := gdX6_chooseWords_0.1
theorem dX6_chooseWords_1 : decode cX6_chooseWords 1 = .ok (.aload_n 0, 1) := gdX6_chooseWords_0.2.1
theorem dX6_chooseWords_2 : decode cX6_chooseWords 2 = .ok (.getfield 66, 3) := gdX6_chooseWords_0.2.2.1
theorem dX6_chooseWords_5 : decode cX6_chooseWords 5 = .ok (.if_icmp .ge 8, 3) := gdX6_chooseWords_0.2.2.2.1
theorem dX6_chooseWords_13 : decode cX6_chooseWords 13 = .ok (.aload_n 0, 1) := gdX6_chooseWords_0.2.2.2.2.1
theorem dX6_chooseWords_14 : decode cX6_chooseWords 14 = .ok (.invokevirtual 113, 3) := gdX6_chooseWords_0.2.2.2.2.2
theorem k_X6_113 : xV RX6 RX6 113 yX6_isYesNow cX6_isYesNow 3 (some .boolean) 0 := ⟨⟨m_1274, m_1276, m_55, m_144, m_1277⟩, rfl, by decide, by decide, by decide +kernel⟩
theorem gdX6_chooseWords_17 : decode cX6_chooseWords 17 = .ok (.ireturn, 1) ∧ decode cX6_chooseWords 8 = .ok (.iload_n 1, 1) ∧ decode cX6_chooseWords 9 = .ok (.iconst 3, 1) ∧ decode cX6_chooseWords 10 = .ok (.if_icmp .lt 8, 3) := by decide +kernel
theorem dX6_chooseWords_17 : decode cX6_chooseWords 17 = .ok (.ireturn, 1) := gdX6_chooseWords_17.1
theorem dX6_chooseWords_8 : decode cX6_chooseWords 8 = .ok (.iload_n 1, 1) := gdX6_chooseWords_17.2.1
theorem dX6_chooseWords_9 : decode cX6_chooseWords 9 = .ok (.iconst 3, 1) := gdX6_chooseWords_17.2.2.1
theorem dX6_chooseWords_10 : decode cX6_chooseWords 10 = .ok (.if_icmp .lt 8, 3) := gdX6_chooseWords_17.2.2.2
set_option maxHeartbeats 1000000 in
set_option maxRecDepth 100000 in
theorem s_chooseWords3 (l : Launch) (D : va_G) (cy : Nat → ClassId) (p0 : Nat) (p1 : Nat) (p2 : Nat) (p3 : Nat) (p4 : Nat) (er : Nat) (ro : Nat) (ch : Nat) (fne : Nat → Int32) (ffd : Nat → Int32) (fpc : Nat → Int32) (h0 : Nat) (h1 : Nat) (h2 : Nat) (h3 : Nat) (h4 : Nat) (h5 : Nat) (h6 : Nat) (h7 : Nat) (h8 : Nat) (h9 : Nat) (h10 : Nat) (h11 : Nat) (hv1 : Value) (hv2 : Value) (hv3 : Value) (hv4 : Value) (ys : Int32) (fc : Nat → Int32) (c0 : Nat) (c1 : Nat) (c2 : Nat) (c3 : Nat) (fx : Nat → Int32) (s0 : Nat) (s1 : Nat) (s2 : Nat) (sl : Nat) (spl : Int32) (svo : Int32) (swi : Int32) (sch : Int32) (fw : Nat → Int32) (fr : Nat → Int32) (ea : Nat → Nat) (eg : Nat → Nat) (ef : Nat → Nat) (et : Nat → Int32) (el : Nat → Nat) (ei : Nat → Nat) (gc : Nat → Nat → Int32) (xc : Nat → Nat → Int32) (hne : nOK fne c1) (hpc : rng fpc 3 9) (hch : ch ≤ 3) (hcn : cntOK fc c0 c1 c2 c3) (hc0 : c0 ≤ 8) (hc1 : c1 ≤ 4) (hc2 : c2 ≤ 4) (hc3 : c3 ≤ 6) (hnx : rng fx 48 5) (hel : ∀ i9, i9 < 4 → el i9 ≤ 10) (hsl : sl ≤ 10) (hsw : rng fw 10 7) (hrw : rng fr 20 7) : XMi l D (tyL cy) E0 yX6_chooseWords cX6_chooseWords 5 (some .boolean) (rmk 5 0 0) [.ref p0, .int 3] [wO p0 6 [.ref p1, .ref er, .ref ro, .ref p2, .ref p3, .ref p4, .ref h0, .ref s0, .int (nI ch)], wI (cy 1) p3 4 (fne), wI (cy 1) p1 3 (ffd), wI (cy 1) p2 3 (fpc), wO h0 4 [.ref h1, .ref h2, .ref h3, .ref h4, .ref h5, .ref h6, .ref h7, .ref h8, .ref h9, .ref h10, .ref h11, .int ys, hv1, hv2, hv3, hv4], wI (cy 1) h1 4 (fc), wI (cy 1) h7 48 (fx), wO s0 7 [.ref s1, .ref s2, .int (nI sl), .int spl, .int svo, .int swi, .int sch], wI (cy 1) s1 10 (fw), wI (cy 1) ro 20 (fr), (er, .inl (cy 4, 4, .inr (.inr (.inr (.inr (eF (ea 0) (ea 1) (ea 2) (ea 3))))))), wO (ea 0) 2 [.ref (eg 0), .ref (ef 0), .int (et 0), .int (nI (el 0)), .int (nI (ei 0))], wI (cy 1) (eg 0) 10 (gc 0), wI (cy 1) (ef 0) 7 (xc 0), wO (ea 1) 2 [.ref (eg 1), .ref (ef 1), .int (et 1), .int (nI (el 1)), .int (nI (ei 1))], wI (cy 1) (eg 1) 10 (gc 1), wI (cy 1) (ef 1) 7 (xc 1), wO (ea 2) 2 [.ref (eg 2), .ref (ef 2), .int (et 2), .int (nI (el 2)), .int (nI (ei 2))], wI (cy 1) (eg 2) 10 (gc 2), wI (cy 1) (ef 2) 7 (xc 2), wO (ea 3) 2 [.ref (eg 3), .ref (ef 3), .int (et 3), .int (nI (el 3)), .int (nI (ei 3))], wI (cy 1) (eg 3) 10 (gc 3), wI (cy 1) (ef 3) 7 (xc 3)] (fun (r : Int32) (u : (Nat → Int32) × (Nat → Int32) × (Nat → Int32)) => (r = 0 ∨ r = 1) ∧ (rng u.2.1 10 7) ∧ (rng u.2.2 20 7)) (fun (u : (Nat → Int32) × (Nat → Int32) × (Nat → Int32)) => [wO p0 6 [.ref p1, .ref er, .ref ro, .ref p2, .ref p3, .ref p4, .ref h0, .ref s0, .int (nI ch)], wI (cy 1) p3 4 (fne), wI (cy 1) p1 3 (u.1), wI (cy 1) p2 3 (fpc), wO h0 4 [.ref h1, .ref h2, .ref h3, .ref h4, .ref h5, .ref h6, .ref h7, .ref h8, .ref h9, .ref h10, .ref h11, .int ys, hv1, hv2, hv3, hv4], wI (cy 1) h1 4 (fc), wI (cy 1) h7 48 (fx), wO s0 7 [.ref s1, .ref s2, .int (nI sl), .int spl, .int svo, .int swi, .int sch], wI (cy 1) s1 10 (u.2.1), wI (cy 1) ro 20 (u.2.2), (er, .inl (cy 4, 4, .inr (.inr (.inr (.inr (eF (ea 0) (ea 1) (ea 2) (ea 3))))))), wO (ea 0) 2 [.ref (eg 0), .ref (ef 0), .int (et 0), .int (nI (el 0)), .int (nI (ei 0))], wI (cy 1) (eg 0) 10 (gc 0), wI (cy 1) (ef 0) 7 (xc 0), wO (ea 1) 2 [.ref (eg 1), .ref (ef 1), .int (et 1), .int (nI (el 1)), .int (nI (ei 1))], wI (cy 1) (eg 1) 10 (gc 1), wI (cy 1) (ef 1) 7 (xc 1), wO (ea 2) 2 [.ref (eg 2), .ref (ef 2), .int (et 2), .int (nI (el 2)), .int (nI (ei 2))], wI (cy 1) (eg 2) 10 (gc 2), wI (cy 1) (ef 2) 7 (xc 2), wO (ea 3) 2 [.ref (eg 3), .ref (ef 3), .int (et 3), .int (nI (el 3)), .int (nI (ei 3))], wI (cy 1) (eg 3) 10 (gc 3), wI (cy 1) (ef 3) 7 (xc 3)]) := by
  refine XMi.start (by decide) (Nat.le_of_ble_eq_true rfl) ?_
  intro p e s m below meth c args A ls Q hat hQ
  obtain ⟨hx, hb, hr, hml, hown, hg, hlocks, hin, hK, hA, hP, hD, hS, hE, hl⟩ := hat
  have hown : s.vm.findClass RX6 = some m.cls := hown
  have hl : lv_has ls 5 [(0, .ref p0), (1, .int 3)] := hl
  have hk_1 := hel 0 (by decide)
  have hk_2 := hel 1 (by decide)
  have hk_3 := hel 2 (by decide)
  have hk_4 := hel 3 (by decide)
  refine lv_iload_n hx hb dX6_chooseWords_0 rfl (lv_at hl 1 rfl) ?_
  refine lv_aload_n hx hb dX6_chooseWords_1 rfl (lv_at hl 0 rfl) ?_
  refine va_get (D := D) (ci := 6) (v := .int (nI ch)) (C := RX6) (T := TX6) (N := 9) hx hb hg i_X6 hown hK hP 0 rfl rfl 8 (by decide) (hg _ m_593) (fun _ h9 => h9) rfl dX6_chooseWords_2 ?_
  refine lv_icmp_ge (tgt := 13) hx hb dX6_chooseWords_5 (by decide) (fun c_5 => ?_) (fun c_5 => ?_)
  · have q_6 : ch ≤ 3 := q_le (a := ch) (b := 3) rfl rfl (by omega) (by omega) c_5
    refine lv_aload_n hx hb dX6_chooseWords_13 rfl (lv_at hl 0 rfl) ?_
    refine x_callVi (q := (RX6, TX6, 9)) (ci := 6) (q0 := 0) (wr := [wI (cy 1) p1 3 (ffd), wI (cy 1) p2 3 (fpc)]) (rest := []) ⟨hx, hb, hml, hown, hg, hl.1⟩ k_X6_113 (s_isYesNow l D cy p0 p1 p2 p3 p4 er ro ch fne h0 h1 h2 h3 h4 h5 h6 h7 h8 h9 h10 h11 hv1 hv2 hv3 hv4 ys fc c0 c1 c2 c3 fx s0 s1 s2 sl spl svo swi sch fw fr ea eg ef et el ei gc xc (hne) (hcn) (by omega) (by omega) (by omega) (by omega) (hnx) (fun i9 h9 => by rcases (show i9 = 0 ∨ i9 = 1 ∨ i9 = 2 ∨ i9 = 3 by omega) with rfl | rfl | rfl | rfl <;> omega) (by omega) (hsw) (hrw)) E0_blind hK hP hD hS hA [0, 1, 4, 5, 6, 7, 8, 9, 10, 11, 12, 13, 14, 15, 16, 17, 18, 19, 20, 21, 22] [2, 3] ⟨rfl, rfl, by decide +kernel, by decide +kernel, by decide +kernel⟩ rfl rfl (fun _ _ _ => trivial) dX6_chooseWords_14 rfl rfl (Nat.le_of_ble_eq_true rfl) ⟨Nat.le_of_ble_eq_true rfl, Nat.le_of_ble_eq_true rfl⟩ ⟨Nat.le_of_ble_eq_true rfl, Nat.le_of_ble_eq_true rfl⟩ (fun zr7 zu7 H locs hw7 hP9 hD9 hS9 => ?_)
    clear hP hD hS
    obtain ⟨fr2_8, rfl⟩ : ∃ z, z = zu7 := ⟨_, rfl⟩
    refine reW [wI (cy 1) p1 3 (ffd), wI (cy 1) p2 3 (fpc), wO p0 6 [.ref p1, .ref er, .ref ro, .ref p2, .ref p3, .ref p4, .ref h0, .ref s0, .int (nI ch)], wI (cy 1) p3 4 (fne), wO h0 4 [.ref h1, .ref h2, .ref h3, .ref h4, .ref h5, .ref h6, .ref h7, .ref h8, .ref h9, .ref h10, .ref h11, .int ys, hv1, hv2, hv3, hv4], wI (cy 1) h1 4 (fc), wI (cy 1) h7 48 (fx), wO s0 7 [.ref s1, .ref s2, .int (nI sl), .int spl, .int svo, .int swi, .int sch], wI (cy 1) s1 10 (fw), wI (cy 1) ro 20 (fr2_8), (er, .inl (cy 4, 4, .inr (.inr (.inr (.inr (eF (ea 0) (ea 1) (ea 2) (ea 3))))))), wO (ea 0) 2 [.ref (eg 0), .ref (ef 0), .int (et 0), .int (nI (el 0)), .int (nI (ei 0))], wI (cy 1) (eg 0) 10 (gc 0), wI (cy 1) (ef 0) 7 (xc 0), wO (ea 1) 2 [.ref (eg 1), .ref (ef 1), .int (et 1), .int (nI (el 1)), .int (nI (ei 1))], wI (cy 1) (eg 1) 10 (gc 1), wI (cy 1) (ef 1) 7 (xc 1), wO (ea 2) 2 [.ref (eg 2), .ref (ef 2), .int (et 2), .int (nI (el 2)), .int (nI (ei 2))], wI (cy 1) (eg 2) 10 (gc 2), wI (cy 1) (ef 2) 7 (xc 2), wO (ea 3) 2 [.ref (eg 3), .ref (ef 3), .int (et 3), .int (nI (el 3)), .int (nI (ei 3))], wI (cy 1) (eg 3) 10 (gc 3), wI (cy 1) (ef 3) 7 (xc 3)] hP9 hD9 hS9 (fun hP hD hS => ?_)
    clear hP9 hD9 hS9
    refine W.widen (k := 0) (n := 0) (Nat.le_of_ble_eq_true rfl) (Nat.le_of_ble_eq_true rfl) ?_
    replace hw7 : (zr7 = 0 ∨ zr7 = 1) ∧ (rng fr2_8 20 7) := hw7
    obtain ⟨f_9, f_10⟩ := hw7
    exact x_zret hQ hx hb hr hlocks hK hP hD hS (narB f_9) dX6_chooseWords_17 (ffd, fw, fr2_8) (⟨f_9, hsw, f_10⟩) [2, 3, 0, 1, 4, 5, 6, 7, 8, 9, 10, 11, 12, 13, 14, 15, 16, 17, 18, 19, 20, 21, 22] (by decide +kernel) rfl (Nat.le_of_ble_eq_true rfl) (Nat.le_of_ble_eq_true rfl)
  · have q_6 : 3 < ch := q_nle (a := ch) (b := 3) rfl rfl (by omega) (by omega) c_5
    refine lv_iload_n hx hb dX6_chooseWords_8 rfl (lv_at hl 1 rfl) ?_
    refine lv_iconst (v := 3) hx hb dX6_chooseWords_9 (by decide) ?_
    refine lv_icmp_lt (tgt := 18) hx hb dX6_chooseWords_10 (by decide) (fun h => absurd h (by decide)) (fun _ => ?_)
    refine lv_aload_n hx hb dX6_chooseWords_13 rfl (lv_at hl 0 rfl) ?_
    refine x_callVi (q := (RX6, TX6, 9)) (ci := 6) (q0 := 0) (wr := [wI (cy 1) p1 3 (ffd), wI (cy 1) p2 3 (fpc)]) (rest := []) ⟨hx, hb, hml, hown, hg, hl.1⟩ k_X6_113 (s_isYesNow l D cy p0 p1 p2 p3 p4 er ro ch fne h0 h1 h2 h3 h4 h5 h6 h7 h8 h9 h10 h11 hv1 hv2 hv3 hv4 ys fc c0 c1 c2 c3 fx s0 s1 s2 sl spl svo swi sch fw fr ea eg ef et el ei gc xc (hne) (hcn) (by omega) (by omega) (by omega) (by omega) (hnx) (fun i9 h9 => by rcases (show i9 = 0 ∨ i9 = 1 ∨ i9 = 2 ∨ i9 = 3 by omega) with rfl | rfl | rfl | rfl <;> omega) (by omega) (hsw) (hrw)) E0_blind hK hP hD hS hA [0, 1, 4, 5, 6, 7, 8, 9, 10, 11, 12, 13, 14, 15, 16, 17, 18, 19, 20, 21, 22] [2, 3] ⟨rfl, rfl, by decide +kernel, by decide +kernel, by decide +kernel⟩ rfl rfl (fun _ _ _ => trivial) dX6_chooseWords_14 rfl rfl (Nat.le_of_ble_eq_true rfl) ⟨Nat.le_of_ble_eq_true rfl, Nat.le_of_ble_eq_true rfl⟩ ⟨Nat.le_of_ble_eq_true rfl, Nat.le_of_ble_eq_true rfl⟩ (fun zr11 zu11 H locs hw11 hP9 hD9 hS9 => ?_)
    clear hP hD hS
    obtain ⟨fr2_12, rfl⟩ : ∃ z, z = zu11 := ⟨_, rfl⟩
    refine reW [wI (cy 1) p1 3 (ffd), wI (cy 1) p2 3 (fpc), wO p0 6 [.ref p1, .ref er, .ref ro, .ref p2, .ref p3, .ref p4, .ref h0, .ref s0, .int (nI ch)], wI (cy 1) p3 4 (fne), wO h0 4 [.ref h1, .ref h2, .ref h3, .ref h4, .ref h5, .ref h6, .ref h7, .ref h8, .ref h9, .ref h10, .ref h11, .int ys, hv1, hv2, hv3, hv4], wI (cy 1) h1 4 (fc), wI (cy 1) h7 48 (fx), wO s0 7 [.ref s1, .ref s2, .int (nI sl), .int spl, .int svo, .int swi, .int sch], wI (cy 1) s1 10 (fw), wI (cy 1) ro 20 (fr2_12), (er, .inl (cy 4, 4, .inr (.inr (.inr (.inr (eF (ea 0) (ea 1) (ea 2) (ea 3))))))), wO (ea 0) 2 [.ref (eg 0), .ref (ef 0), .int (et 0), .int (nI (el 0)), .int (nI (ei 0))], wI (cy 1) (eg 0) 10 (gc 0), wI (cy 1) (ef 0) 7 (xc 0), wO (ea 1) 2 [.ref (eg 1), .ref (ef 1), .int (et 1), .int (nI (el 1)), .int (nI (ei 1))], wI (cy 1) (eg 1) 10 (gc 1), wI (cy 1) (ef 1) 7 (xc 1), wO (ea 2) 2 [.ref (eg 2), .ref (ef 2), .int (et 2), .int (nI (el 2)), .int (nI (ei 2))], wI (cy 1) (eg 2) 10 (gc 2), wI (cy 1) (ef 2) 7 (xc 2), wO (ea 3) 2 [.ref (eg 3), .ref (ef 3), .int (et 3), .int (nI (el 3)), .int (nI (ei 3))], wI (cy 1) (eg 3) 10 (gc 3), wI (cy 1) (ef 3) 7 (xc 3)] hP9 hD9 hS9 (fun hP hD hS => ?_)
    clear hP9 hD9 hS9
    refine W.widen (k := 0) (n := 0) (Nat.le_of_ble_eq_true rfl) (Nat.le_of_ble_eq_true rfl) ?_
    replace hw11 : (zr11 = 0 ∨ zr11 = 1) ∧ (rng fr2_12 20 7) := hw11
    obtain ⟨f_13, f_14⟩ := hw11
    exact x_zret hQ hx hb hr hlocks hK hP hD hS (narB f_13) dX6_chooseWords_17 (ffd, fw, fr2_12) (⟨f_13, hsw, f_14⟩) [2, 3, 0, 1, 4, 5, 6, 7, 8, 9, 10, 11, 12, 13, 14, 15, 16, 17, 18, 19, 20, 21, 22] (by decide +kernel) rfl (Nat.le_of_ble_eq_true rfl) (Nat.le_of_ble_eq_true rfl)
theorem gdX6_chooseWords_18 : decode cX6_chooseWords 18 = .ok (.aload_n 0, 1) ∧ decode cX6_chooseWords 19 = .ok (.getfield 15, 3) ∧ decode cX6_chooseWords 22 = .ok (.iload_n 1, 1) ∧ decode cX6_chooseWords 23 = .ok (.iaload, 1) ∧ decode cX6_chooseWords 24 = .ok (.istore_n 2, 1) ∧ decode cX6_chooseWords 25 = .ok (.aload_n 0, 1) ∧ decode cX6_chooseWords 26 = .ok (.getfield 39, 3) ∧ decode cX6_chooseWords 29 = .ok (.getfield 107, 3) ∧ decode cX6_chooseWords 32 = .ok (.iload_n 2, 1) ∧ decode cX6_chooseWords 33 = .ok (.iaload, 1) ∧ decode cX6_chooseWords 34 = .ok (.istore_n 3, 1) ∧ decode cX6_chooseWords 35 = .ok (.iconst 0, 1) := by decide +kernel
theorem dX6_chooseWords_18 : decode cX6_chooseWords 18 = .ok (.aload_n 0, 1) := gdX6_chooseWords_18.1
theorem dX6_chooseWords_19 : decode cX6_chooseWords 19 = .ok (.getfield 15, 3) := gdX6_chooseWords_18.2.1
theorem dX6_chooseWords_22 : decode cX6_chooseWords 22 = .ok (.iload_n 1, 1) := gdX6_chooseWords_18.2.2.1
theorem dX6_chooseWords_23 : decode cX6_chooseWords 23 = .ok (.iaload, 1) := gdX6_chooseWords_18.2.2.2.1
theorem dX6_chooseWords_24 : decode cX6_chooseWords 24 = .ok (.istore_n 2, 1) := gdX6_chooseWords_18.2.2.2.2.1
theorem dX6_chooseWords_25 : decode cX6_chooseWords 25 = .ok (.aload_n 0, 1) := gdX6_chooseWords_18.2.2.2.2.2.1
theorem dX6_chooseWords_26 : decode cX6_chooseWords 26 = .ok (.getfield 39, 3) := gdX6_chooseWords_18.2.2.2.2.2.2.1
theorem dX6_chooseWords_29 : decode cX6_chooseWords 29 = .ok (.getfield 107, 3) := gdX6_chooseWords_18.2.2.2.2.2.2.2.1
theorem dX6_chooseWords_32 : decode cX6_chooseWords 32 = .ok (.iload_n 2, 1) := gdX6_chooseWords_18.2.2.2.2.2.2.2.2.1
theorem dX6_chooseWords_33 : decode cX6_chooseWords 33 = .ok (.iaload, 1) := gdX6_chooseWords_18.2.2.2.2.2.2.2.2.2.1
theorem dX6_chooseWords_34 : decode cX6_chooseWords 34 = .ok (.istore_n 3, 1) := gdX6_chooseWords_18.2.2.2.2.2.2.2.2.2.2.1
theorem dX6_chooseWords_35 : decode cX6_chooseWords 35 = .ok (.iconst 0, 1) := gdX6_chooseWords_18.2.2.2.2.2.2.2.2.2.2.2
theorem gdX6_chooseWords_36 : decode cX6_chooseWords 36 = .ok (.istore 4, 2) ∧ decode cX6_chooseWords 38 = .ok (.iload 4, 2) ∧ decode cX6_chooseWords 40 = .ok (.aload_n 0, 1) ∧ decode cX6_chooseWords 41 = .ok (.getfield 35, 3) ∧ decode cX6_chooseWords 44 = .ok (.getfield 43, 3) ∧ decode cX6_chooseWords 47 = .ok (.iconst 0, 1) ∧ decode cX6_chooseWords 48 = .ok (.iaload, 1) ∧ decode cX6_chooseWords 49 = .ok (.if_icmp .ge 51, 3) ∧ decode cX6_chooseWords 100 = .ok (.aload_n 0, 1) ∧ decode cX6_chooseWords 101 = .ok (.getfield 39, 3) ∧ decode cX6_chooseWords 104 = .ok (.getfield 107, 3) ∧ decode cX6_chooseWords 107 = .ok (.iload_n 2, 1) := by decide +kernel
theorem dX6_chooseWords_36 : decode cX6_chooseWords 36 = .ok (.istore 4, 2) := gdX6_chooseWords_36.1
theorem dX6_chooseWords_38 : decode cX6_chooseWords 38 = .ok (.iload 4, 2) := gdX6_chooseWords_36.2.1
theorem dX6_chooseWords_40 : decode cX6_chooseWords 40 = .ok (.aload_n 0, 1) := gdX6_chooseWords_36.2.2.1
theorem dX6_chooseWords_41 : decode cX6_chooseWords 41 = .ok (.getfield 35, 3) := gdX6_chooseWords_36.2.2.2.1
theorem dX6_chooseWords_44 : decode cX6_chooseWords 44 = .ok (.getfield 43, 3) := gdX6_chooseWords_36.2.2.2.2.1
theorem dX6_chooseWords_47 : decode cX6_chooseWords 47 = .ok (.iconst 0, 1) := gdX6_chooseWords_36.2.2.2.2.2.1
theorem dX6_chooseWords_48 : decode cX6_chooseWords 48 = .ok (.iaload, 1) := gdX6_chooseWords_36.2.2.2.2.2.2.1
theorem dX6_chooseWords_49 : decode cX6_chooseWords 49 = .ok (.if_icmp .ge 51, 3) := gdX6_chooseWords_36.2.2.2.2.2.2.2.1
theorem dX6_chooseWords_100 : decode cX6_chooseWords 100 = .ok (.aload_n 0, 1) := gdX6_chooseWords_36.2.2.2.2.2.2.2.2.1
theorem dX6_chooseWords_101 : decode cX6_chooseWords 101 = .ok (.getfield 39, 3) := gdX6_chooseWords_36.2.2.2.2.2.2.2.2.2.1
theorem dX6_chooseWords_104 : decode cX6_chooseWords 104 = .ok (.getfield 107, 3) := gdX6_chooseWords_36.2.2.2.2.2.2.2.2.2.2.1
theorem dX6_chooseWords_107 : decode cX6_chooseWords 107 = .ok (.iload_n 2, 1) := gdX6_chooseWords_36.2.2.2.2.2.2.2.2.2.2.2
theorem gdX6_chooseWords_108 : decode cX6_chooseWords 108 = .ok (.iload_n 3, 1) ∧ decode cX6_chooseWords 109 = .ok (.iastore, 1) ∧ decode cX6_chooseWords 110 = .ok (.iconst 0, 1) ∧ decode cX6_chooseWords 111 = .ok (.ireturn, 1) ∧ decode cX6_chooseWords 52 = .ok (.iload 4, 2) ∧ decode cX6_chooseWords 54 = .ok (.iload_n 3, 1) ∧ decode cX6_chooseWords 55 = .ok (.if_icmp .eq 39, 3) ∧ decode cX6_chooseWords 94 = .ok (.iinc 4 1, 3) ∧ decode cX6_chooseWords 97 = .ok (.goto (-59), 3) ∧ decode cX6_chooseWords 58 = .ok (.aload_n 0, 1) ∧ decode cX6_chooseWords 59 = .ok (.getfield 39, 3) ∧ decode cX6_chooseWords 62 = .ok (.getfield 107, 3) := by decide +kernel
theorem dX6_chooseWords_108 : decode cX6_chooseWords 108 = .ok (.iload_n 3, 1) := gdX6_chooseWords_108.1
theorem dX6_chooseWords_109 : decode cX6_chooseWords 109 = .ok (.iastore, 1) := gdX6_chooseWords_108.2.1
theorem dX6_chooseWords_110 : decode cX6_chooseWords 110 = .ok (.iconst 0, 1) := gdX6_chooseWords_108.2.2.1
theorem dX6_chooseWords_111 : decode cX6_chooseWords 111 = .ok (.ireturn, 1) := gdX6_chooseWords_108.2.2.2.1
theorem dX6_chooseWords_52 : decode cX6_chooseWords 52 = .ok (.iload 4, 2) := gdX6_chooseWords_108.2.2.2.2.1
theorem dX6_chooseWords_54 : decode cX6_chooseWords 54 = .ok (.iload_n 3, 1) := gdX6_chooseWords_108.2.2.2.2.2.1
theorem dX6_chooseWords_55 : decode cX6_chooseWords 55 = .ok (.if_icmp .eq 39, 3) := gdX6_chooseWords_108.2.2.2.2.2.2.1
theorem dX6_chooseWords_94 : decode cX6_chooseWords 94 = .ok (.iinc 4 1, 3) := gdX6_chooseWords_108.2.2.2.2.2.2.2.1
theorem dX6_chooseWords_97 : decode cX6_chooseWords 97 = .ok (.goto (-59), 3) := gdX6_chooseWords_108.2.2.2.2.2.2.2.2.1
theorem dX6_chooseWords_58 : decode cX6_chooseWords 58 = .ok (.aload_n 0, 1) := gdX6_chooseWords_108.2.2.2.2.2.2.2.2.2.1
theorem dX6_chooseWords_59 : decode cX6_chooseWords 59 = .ok (.getfield 39, 3) := gdX6_chooseWords_108.2.2.2.2.2.2.2.2.2.2.1
theorem dX6_chooseWords_62 : decode cX6_chooseWords 62 = .ok (.getfield 107, 3) := gdX6_chooseWords_108.2.2.2.2.2.2.2.2.2.2.2
theorem gdX6_chooseWords_65 : decode cX6_chooseWords 65 = .ok (.iload_n 2, 1) ∧ decode cX6_chooseWords 66 = .ok (.iload 4, 2) ∧ decode cX6_chooseWords 68 = .ok (.iastore, 1) ∧ decode cX6_chooseWords 69 = .ok (.aload_n 0, 1) ∧ decode cX6_chooseWords 70 = .ok (.getfield 9, 3) ∧ decode cX6_chooseWords 73 = .ok (.iload_n 1, 1) ∧ decode cX6_chooseWords 74 = .ok (.bipush 10, 2) ∧ decode cX6_chooseWords 76 = .ok (.iload_n 2, 1) ∧ decode cX6_chooseWords 77 = .ok (.imul, 1) ∧ decode cX6_chooseWords 78 = .ok (.iload 4, 2) ∧ decode cX6_chooseWords 80 = .ok (.iadd, 1) ∧ decode cX6_chooseWords 81 = .ok (.iastore, 1) := by decide +kernel
theorem dX6_chooseWords_65 : decode cX6_chooseWords 65 = .ok (.iload_n 2, 1) := gdX6_chooseWords_65.1
theorem dX6_chooseWords_66 : decode cX6_chooseWords 66 = .ok (.iload 4, 2) := gdX6_chooseWords_65.2.1
theorem dX6_chooseWords_68 : decode cX6_chooseWords 68 = .ok (.iastore, 1) := gdX6_chooseWords_65.2.2.1
theorem dX6_chooseWords_69 : decode cX6_chooseWords 69 = .ok (.aload_n 0, 1) := gdX6_chooseWords_65.2.2.2.1
theorem dX6_chooseWords_70 : decode cX6_chooseWords 70 = .ok (.getfield 9, 3) := gdX6_chooseWords_65.2.2.2.2.1
theorem dX6_chooseWords_73 : decode cX6_chooseWords 73 = .ok (.iload_n 1, 1) := gdX6_chooseWords_65.2.2.2.2.2.1
theorem dX6_chooseWords_74 : decode cX6_chooseWords 74 = .ok (.bipush 10, 2) := gdX6_chooseWords_65.2.2.2.2.2.2.1
theorem dX6_chooseWords_76 : decode cX6_chooseWords 76 = .ok (.iload_n 2, 1) := gdX6_chooseWords_65.2.2.2.2.2.2.2.1
theorem dX6_chooseWords_77 : decode cX6_chooseWords 77 = .ok (.imul, 1) := gdX6_chooseWords_65.2.2.2.2.2.2.2.2.1
theorem dX6_chooseWords_78 : decode cX6_chooseWords 78 = .ok (.iload 4, 2) := gdX6_chooseWords_65.2.2.2.2.2.2.2.2.2.1
theorem dX6_chooseWords_80 : decode cX6_chooseWords 80 = .ok (.iadd, 1) := gdX6_chooseWords_65.2.2.2.2.2.2.2.2.2.2.1
theorem dX6_chooseWords_81 : decode cX6_chooseWords 81 = .ok (.iastore, 1) := gdX6_chooseWords_65.2.2.2.2.2.2.2.2.2.2.2
theorem gdX6_chooseWords_82 : decode cX6_chooseWords 82 = .ok (.aload_n 0, 1) ∧ decode cX6_chooseWords 83 = .ok (.iload_n 1, 1) ∧ decode cX6_chooseWords 84 = .ok (.iconst 1, 1) ∧ decode cX6_chooseWords 85 = .ok (.iadd, 1) ∧ decode cX6_chooseWords 86 = .ok (.invokevirtual 73, 3) := by decide +kernel
theorem dX6_chooseWords_82 : decode cX6_chooseWords 82 = .ok (.aload_n 0, 1) := gdX6_chooseWords_82.1
theorem dX6_chooseWords_83 : decode cX6_chooseWords 83 = .ok (.iload_n 1, 1) := gdX6_chooseWords_82.2.1
theorem dX6_chooseWords_84 : decode cX6_chooseWords 84 = .ok (.iconst 1, 1) := gdX6_chooseWords_82.2.2.1
theorem dX6_chooseWords_85 : decode cX6_chooseWords 85 = .ok (.iadd, 1) := gdX6_chooseWords_82.2.2.2.1
theorem dX6_chooseWords_86 : decode cX6_chooseWords 86 = .ok (.invokevirtual 73, 3) := gdX6_chooseWords_82.2.2.2.2
theorem k_X6_73 : xV RX6 RX6 73 yX6_chooseWords cX6_chooseWords 5 (some .boolean) 1 := ⟨⟨m_1270, m_1272, m_54, m_144, m_1273⟩, rfl, by decide, by decide, by decide +kernel⟩
theorem gdX6_chooseWords_89 : decode cX6_chooseWords 89 = .ok (.ifCond .eq 5, 3) ∧ decode cX6_chooseWords 92 = .ok (.iconst 1, 1) ∧ decode cX6_chooseWords 93 = .ok (.ireturn, 1) := by decide +kernel
theorem dX6_chooseWords_89 : decode cX6_chooseWords 89 = .ok (.ifCond .eq 5, 3) := gdX6_chooseWords_89.1
theorem dX6_chooseWords_92 : decode cX6_chooseWords 92 = .ok (.iconst 1, 1) := gdX6_chooseWords_89.2.1
theorem dX6_chooseWords_93 : decode cX6_chooseWords 93 = .ok (.ireturn, 1) := gdX6_chooseWords_89.2.2
set_option maxHeartbeats 1000000 in
set_option maxRecDepth 100000 in
theorem s_chooseWords2 (l : Launch) (D : va_G) (cy : Nat → ClassId) (p0 : Nat) (p1 : Nat) (p2 : Nat) (p3 : Nat) (p4 : Nat) (er : Nat) (ro : Nat) (ch : Nat) (fne : Nat → Int32) (ffd : Nat → Int32) (fpc : Nat → Int32) (h0 : Nat) (h1 : Nat) (h2 : Nat) (h3 : Nat) (h4 : Nat) (h5 : Nat) (h6 : Nat) (h7 : Nat) (h8 : Nat) (h9 : Nat) (h10 : Nat) (h11 : Nat) (hv1 : Value) (hv2 : Value) (hv3 : Value) (hv4 : Value) (ys : Int32) (fc : Nat → Int32) (c0 : Nat) (c1 : Nat) (c2 : Nat) (c3 : Nat) (fx : Nat → Int32) (s0 : Nat) (s1 : Nat) (s2 : Nat) (sl : Nat) (spl : Int32) (svo : Int32) (swi : Int32) (sch : Int32) (fw : Nat → Int32) (fr : Nat → Int32) (ea : Nat → Nat) (eg : Nat → Nat) (ef : Nat → Nat) (et : Nat → Int32) (el : Nat → Nat) (ei : Nat → Nat) (gc : Nat → Nat → Int32) (xc : Nat → Nat → Int32) (hne : nOK fne c1) (hpc : rng fpc 3 9) (hch : ch ≤ 3) (hcn : cntOK fc c0 c1 c2 c3) (hc0 : c0 ≤ 8) (hc1 : c1 ≤ 4) (hc2 : c2 ≤ 4) (hc3 : c3 ≤ 6) (hnx : rng fx 48 5) (hel : ∀ i9, i9 < 4 → el i9 ≤ 10) (hsl : sl ≤ 10) (hsw : rng fw 10 7) (hrw : rng fr 20 7) : XMi l D (tyL cy) E0 yX6_chooseWords cX6_chooseWords 5 (some .boolean) (rmk 6 0 0) [.ref p0, .int 2] [wO p0 6 [.ref p1, .ref er, .ref ro, .ref p2, .ref p3, .ref p4, .ref h0, .ref s0, .int (nI ch)], wI (cy 1) p3 4 (fne), wI (cy 1) p1 3 (ffd), wI (cy 1) p2 3 (fpc), wO h0 4 [.ref h1, .ref h2, .ref h3, .ref h4, .ref h5, .ref h6, .ref h7, .ref h8, .ref h9, .ref h10, .ref h11, .int ys, hv1, hv2, hv3, hv4], wI (cy 1) h1 4 (fc), wI (cy 1) h7 48 (fx), wO s0 7 [.ref s1, .ref s2, .int (nI sl), .int spl, .int svo, .int swi, .int sch], wI (cy 1) s1 10 (fw), wI (cy 1) ro 20 (fr), (er, .inl (cy 4, 4, .inr (.inr (.inr (.inr (eF (ea 0) (ea 1) (ea 2) (ea 3))))))), wO (ea 0) 2 [.ref (eg 0), .ref (ef 0), .int (et 0), .int (nI (el 0)), .int (nI (ei 0))], wI (cy 1) (eg 0) 10 (gc 0), wI (cy 1) (ef 0) 7 (xc 0), wO (ea 1) 2 [.ref (eg 1), .ref (ef 1), .int (et 1), .int (nI (el 1)), .int (nI (ei 1))], wI (cy 1) (eg 1) 10 (gc 1), wI (cy 1) (ef 1) 7 (xc 1), wO (ea 2) 2 [.ref (eg 2), .ref (ef 2), .int (et 2), .int (nI (el 2)), .int (nI (ei 2))], wI (cy 1) (eg 2) 10 (gc 2), wI (cy 1) (ef 2) 7 (xc 2), wO (ea 3) 2 [.ref (eg 3), .ref (ef 3), .int (et 3), .int (nI (el 3)), .int (nI (ei 3))], wI (cy 1) (eg 3) 10 (gc 3), wI (cy 1) (ef 3) 7 (xc 3)] (fun (r : Int32) (u : (Nat → Int32) × (Nat → Int32) × (Nat → Int32)) => (r = 0 ∨ r = 1) ∧ (rng u.2.1 10 7) ∧ (rng u.2.2 20 7)) (fun (u : (Nat → Int32) × (Nat → Int32) × (Nat → Int32)) => [wO p0 6 [.ref p1, .ref er, .ref ro, .ref p2, .ref p3, .ref p4, .ref h0, .ref s0, .int (nI ch)], wI (cy 1) p3 4 (fne), wI (cy 1) p1 3 (u.1), wI (cy 1) p2 3 (fpc), wO h0 4 [.ref h1, .ref h2, .ref h3, .ref h4, .ref h5, .ref h6, .ref h7, .ref h8, .ref h9, .ref h10, .ref h11, .int ys, hv1, hv2, hv3, hv4], wI (cy 1) h1 4 (fc), wI (cy 1) h7 48 (fx), wO s0 7 [.ref s1, .ref s2, .int (nI sl), .int spl, .int svo, .int swi, .int sch], wI (cy 1) s1 10 (u.2.1), wI (cy 1) ro 20 (u.2.2), (er, .inl (cy 4, 4, .inr (.inr (.inr (.inr (eF (ea 0) (ea 1) (ea 2) (ea 3))))))), wO (ea 0) 2 [.ref (eg 0), .ref (ef 0), .int (et 0), .int (nI (el 0)), .int (nI (ei 0))], wI (cy 1) (eg 0) 10 (gc 0), wI (cy 1) (ef 0) 7 (xc 0), wO (ea 1) 2 [.ref (eg 1), .ref (ef 1), .int (et 1), .int (nI (el 1)), .int (nI (ei 1))], wI (cy 1) (eg 1) 10 (gc 1), wI (cy 1) (ef 1) 7 (xc 1), wO (ea 2) 2 [.ref (eg 2), .ref (ef 2), .int (et 2), .int (nI (el 2)), .int (nI (ei 2))], wI (cy 1) (eg 2) 10 (gc 2), wI (cy 1) (ef 2) 7 (xc 2), wO (ea 3) 2 [.ref (eg 3), .ref (ef 3), .int (et 3), .int (nI (el 3)), .int (nI (ei 3))], wI (cy 1) (eg 3) 10 (gc 3), wI (cy 1) (ef 3) 7 (xc 3)]) := by
  refine XMi.start (by decide) (Nat.le_of_ble_eq_true rfl) ?_
  intro p e s m below meth c args A ls Q hat hQ
  obtain ⟨hx, hb, hr, hml, hown, hg, hlocks, hin, hK, hA, hP, hD, hS, hE, hl⟩ := hat
  have hown : s.vm.findClass RX6 = some m.cls := hown
  have hl : lv_has ls 5 [(0, .ref p0), (1, .int 2)] := hl
  have hk_1 := hel 0 (by decide)
  have hk_2 := hel 1 (by decide)
  have hk_3 := hel 2 (by decide)
  have hk_4 := hel 3 (by decide)
  refine lv_iload_n hx hb dX6_chooseWords_0 rfl (lv_at hl 1 rfl) ?_
  refine lv_aload_n hx hb dX6_chooseWords_1 rfl (lv_at hl 0 rfl) ?_
  refine va_get (D := D) (ci := 6) (v := .int (nI ch)) (C := RX6) (T := TX6) (N := 9) hx hb hg i_X6 hown hK hP 0 rfl rfl 8 (by decide) (hg _ m_593) (fun _ h9 => h9) rfl dX6_chooseWords_2 ?_
  refine lv_icmp_ge (tgt := 13) hx hb dX6_chooseWords_5 (by decide) (fun c_5 => ?_) (fun c_5 => ?_)
  · have q_6 : ch ≤ 2 := q_le (a := ch) (b := 2) rfl rfl (by omega) (by omega) c_5
    refine lv_aload_n hx hb dX6_chooseWords_13 rfl (lv_at hl 0 rfl) ?_
    refine x_callVi (q := (RX6, TX6, 9)) (ci := 6) (q0 := 0) (wr := [wI (cy 1) p1 3 (ffd), wI (cy 1) p2 3 (fpc)]) (rest := []) ⟨hx, hb, hml, hown, hg, hl.1⟩ k_X6_113 (s_isYesNow l D cy p0 p1 p2 p3 p4 er ro ch fne h0 h1 h2 h3 h4 h5 h6 h7 h8 h9 h10 h11 hv1 hv2 hv3 hv4 ys fc c0 c1 c2 c3 fx s0 s1 s2 sl spl svo swi sch fw fr ea eg ef et el ei gc xc (hne) (hcn) (by omega) (by omega) (by omega) (by omega) (hnx) (fun i9 h9 => by rcases (show i9 = 0 ∨ i9 = 1 ∨ i9 = 2 ∨ i9 = 3 by omega) with rfl | rfl | rfl | rfl <;> omega) (by omega) (hsw) (hrw)) E0_blind hK hP hD hS hA [0, 1, 4, 5, 6, 7, 8, 9, 10, 11, 12, 13, 14, 15, 16, 17, 18, 19, 20, 21, 22] [2, 3] ⟨rfl, rfl, by decide +kernel, by decide +kernel, by decide +kernel⟩ rfl rfl (fun _ _ _ => trivial) dX6_chooseWords_14 rfl rfl (Nat.le_of_ble_eq_true rfl) ⟨Nat.le_of_ble_eq_true rfl, Nat.le_of_ble_eq_true rfl⟩ ⟨Nat.le_of_ble_eq_true rfl, Nat.le_of_ble_eq_true rfl⟩ (fun zr7 zu7 H locs hw7 hP9 hD9 hS9 => ?_)
    clear hP hD hS
    obtain ⟨fr2_8, rfl⟩ : ∃ z, z = zu7 := ⟨_, rfl⟩
    refine reW [wI (cy 1) p1 3 (ffd), wI (cy 1) p2 3 (fpc), wO p0 6 [.ref p1, .ref er, .ref ro, .ref p2, .ref p3, .ref p4, .ref h0, .ref s0, .int (nI ch)], wI (cy 1) p3 4 (fne), wO h0 4 [.ref h1, .ref h2, .ref h3, .ref h4, .ref h5, .ref h6, .ref h7, .ref h8, .ref h9, .ref h10, .ref h11, .int ys, hv1, hv2, hv3, hv4], wI (cy 1) h1 4 (fc), wI (cy 1) h7 48 (fx), wO s0 7 [.ref s1, .ref s2, .int (nI sl), .int spl, .int svo, .int swi, .int sch], wI (cy 1) s1 10 (fw), wI (cy 1) ro 20 (fr2_8), (er, .inl (cy 4, 4, .inr (.inr (.inr (.inr (eF (ea 0) (ea 1) (ea 2) (ea 3))))))), wO (ea 0) 2 [.ref (eg 0), .ref (ef 0), .int (et 0), .int (nI (el 0)), .int (nI (ei 0))], wI (cy 1) (eg 0) 10 (gc 0), wI (cy 1) (ef 0) 7 (xc 0), wO (ea 1) 2 [.ref (eg 1), .ref (ef 1), .int (et 1), .int (nI (el 1)), .int (nI (ei 1))], wI (cy 1) (eg 1) 10 (gc 1), wI (cy 1) (ef 1) 7 (xc 1), wO (ea 2) 2 [.ref (eg 2), .ref (ef 2), .int (et 2), .int (nI (el 2)), .int (nI (ei 2))], wI (cy 1) (eg 2) 10 (gc 2), wI (cy 1) (ef 2) 7 (xc 2), wO (ea 3) 2 [.ref (eg 3), .ref (ef 3), .int (et 3), .int (nI (el 3)), .int (nI (ei 3))], wI (cy 1) (eg 3) 10 (gc 3), wI (cy 1) (ef 3) 7 (xc 3)] hP9 hD9 hS9 (fun hP hD hS => ?_)
    clear hP9 hD9 hS9
    refine W.widen (k := 0) (n := 0) (Nat.le_of_ble_eq_true rfl) (Nat.le_of_ble_eq_true rfl) ?_
    replace hw7 : (zr7 = 0 ∨ zr7 = 1) ∧ (rng fr2_8 20 7) := hw7
    obtain ⟨f_9, f_10⟩ := hw7
    exact x_zret hQ hx hb hr hlocks hK hP hD hS (narB f_9) dX6_chooseWords_17 (ffd, fw, fr2_8) (⟨f_9, hsw, f_10⟩) [2, 3, 0, 1, 4, 5, 6, 7, 8, 9, 10, 11, 12, 13, 14, 15, 16, 17, 18, 19, 20, 21, 22] (by decide +kernel) rfl (Nat.le_of_ble_eq_true rfl) (Nat.le_of_ble_eq_true rfl)
  · have q_6 : 2 < ch := q_nle (a := ch) (b := 2) rfl rfl (by omega) (by omega) c_5
    refine lv_iload_n hx hb dX6_chooseWords_8 rfl (lv_at hl 1 rfl) ?_
    refine lv_iconst (v := 3) hx hb dX6_chooseWords_9 (by decide) ?_
    refine lv_icmp_lt (tgt := 18) hx hb dX6_chooseWords_10 (by decide) (fun _ => ?_) (fun h => absurd (by decide) h)
    refine lv_aload_n hx hb dX6_chooseWords_18 rfl (lv_at hl 0 rfl) ?_
    refine va_get (D := D) (ci := 6) (v := .ref p2) (C := RX6) (T := TX6) (N := 9) hx hb hg i_X6 hown hK hP 0 rfl rfl 3 (by decide) (hg _ m_588) (fun _ h9 => h9) rfl dX6_chooseWords_19 ?_
    refine lv_iload_n hx hb dX6_chooseWords_22 rfl (lv_at hl 1 rfl) ?_
    refine va_iald hx hb hK hP 3 1 rfl rfl (by unfold vp_in; decide) dX6_chooseWords_23 ?_
    obtain ⟨j_11, hj_11, ej_11⟩ := rng_at hpc (i := 2) (by omega) (by decide)
    refine lv_topi (fun y_12 hy_12 => ?_)
    obtain rfl : y_12 = nI j_11 := hy_12.trans ej_11
    refine lv_istore_n (lv' := [(2, .int (nI j_11)), (0, .ref p0), (1, .int 2)]) hx hb dX6_chooseWords_24 rfl hl (by decide) rfl (fun ls hl => ?_)
    refine lv_aload_n hx hb dX6_chooseWords_25 rfl (lv_at hl 1 rfl) ?_
    refine va_get (D := D) (ci := 6) (v := .ref s0) (C := RX6) (T := TX6) (N := 9) hx hb hg i_X6 hown hK hP 0 rfl rfl 7 (by decide) (hg _ m_592) (fun _ h9 => h9) rfl dX6_chooseWords_26 ?_
    refine va_get (D := D) (ci := 7) (v := .ref s1) (C := RX7) (T := TX7) (N := 7) hx hb hg i_X7 hown hK hP 7 rfl rfl 0 (by decide) (hg _ m_622) (fun _ h9 => h9) rfl dX6_chooseWords_29 ?_
    refine lv_iload_n hx hb dX6_chooseWords_32 rfl (lv_at hl 0 rfl) ?_
    refine va_iald hx hb hK hP 8 1 rfl rfl (vp_in_nI (by omega) (by decide)) dX6_chooseWords_33 ?_
    obtain ⟨j_13, hj_13, ej_13⟩ := rng_at hsw (i := j_11) (by omega) (by decide)
    refine lv_topi (fun y_14 hy_14 => ?_)
    obtain rfl : y_14 = nI j_13 := hy_14.trans ej_13
    refine lv_istore_n (lv' := [(3, .int (nI j_13)), (2, .int (nI j_11)), (0, .ref p0), (1, .int 2)]) hx hb dX6_chooseWords_34 rfl hl (by decide) rfl (fun ls hl => ?_)
    refine lv_iconst (v := 0) hx hb dX6_chooseWords_35 (by decide) ?_
    refine lv_istore (lv' := [(4, .int 0), (3, .int (nI j_13)), (2, .int (nI j_11)), (0, .ref p0), (1, .int 2)]) hx hb dX6_chooseWords_36 hl (by decide) rfl (fun ls hl => ?_)
    have loop15 : ∀ (zn : Nat) (wd15 : Nat) (fa1_15 : Nat → Int32) (fa2_15 : Nat → Int32) (fa3_15 : Nat → Int32), (rng fa2_15 10 7) → (rng fa3_15 20 7) → (wd15 ≤ c0) → c0 - wd15 + 1 ≤ zn → ∀ (H : Heap) (locs : List Loc), va_P D vwCl [wO p0 6 [.ref p1, .ref er, .ref ro, .ref p2, .ref p3, .ref p4, .ref h0, .ref s0, .int (nI ch)], wI (cy 1) p3 4 (fne), wI (cy 1) p1 3 (fa1_15), wI (cy 1) p2 3 (fpc), wO h0 4 [.ref h1, .ref h2, .ref h3, .ref h4, .ref h5, .ref h6, .ref h7, .ref h8, .ref h9, .ref h10, .ref h11, .int ys, hv1, hv2, hv3, hv4], wI (cy 1) h1 4 (fc), wI (cy 1) h7 48 (fx), wO s0 7 [.ref s1, .ref s2, .int (nI sl), .int spl, .int svo, .int swi, .int sch], wI (cy 1) s1 10 (fa2_15), wI (cy 1) ro 20 (fa3_15), (er, .inl (cy 4, 4, .inr (.inr (.inr (.inr (eF (ea 0) (ea 1) (ea 2) (ea 3))))))), wO (ea 0) 2 [.ref (eg 0), .ref (ef 0), .int (et 0), .int (nI (el 0)), .int (nI (ei 0))], wI (cy 1) (eg 0) 10 (gc 0), wI (cy 1) (ef 0) 7 (xc 0), wO (ea 1) 2 [.ref (eg 1), .ref (ef 1), .int (et 1), .int (nI (el 1)), .int (nI (ei 1))], wI (cy 1) (eg 1) 10 (gc 1), wI (cy 1) (ef 1) 7 (xc 1), wO (ea 2) 2 [.ref (eg 2), .ref (ef 2), .int (et 2), .int (nI (el 2)), .int (nI (ei 2))], wI (cy 1) (eg 2) 10 (gc 2), wI (cy 1) (ef 2) 7 (xc 2), wO (ea 3) 2 [.ref (eg 3), .ref (ef 3), .int (et 3), .int (nI (el 3)), .int (nI (ei 3))], wI (cy 1) (eg 3) 10 (gc 3), wI (cy 1) (ef 3) 7 (xc 3)] H → va_D A [wO p0 6 [.ref p1, .ref er, .ref ro, .ref p2, .ref p3, .ref p4, .ref h0, .ref s0, .int (nI ch)], wI (cy 1) p3 4 (fne), wI (cy 1) p1 3 (fa1_15), wI (cy 1) p2 3 (fpc), wO h0 4 [.ref h1, .ref h2, .ref h3, .ref h4, .ref h5, .ref h6, .ref h7, .ref h8, .ref h9, .ref h10, .ref h11, .int ys, hv1, hv2, hv3, hv4], wI (cy 1) h1 4 (fc), wI (cy 1) h7 48 (fx), wO s0 7 [.ref s1, .ref s2, .int (nI sl), .int spl, .int svo, .int swi, .int sch], wI (cy 1) s1 10 (fa2_15), wI (cy 1) ro 20 (fa3_15), (er, .inl (cy 4, 4, .inr (.inr (.inr (.inr (eF (ea 0) (ea 1) (ea 2) (ea 3))))))), wO (ea 0) 2 [.ref (eg 0), .ref (ef 0), .int (et 0), .int (nI (el 0)), .int (nI (ei 0))], wI (cy 1) (eg 0) 10 (gc 0), wI (cy 1) (ef 0) 7 (xc 0), wO (ea 1) 2 [.ref (eg 1), .ref (ef 1), .int (et 1), .int (nI (el 1)), .int (nI (ei 1))], wI (cy 1) (eg 1) 10 (gc 1), wI (cy 1) (ef 1) 7 (xc 1), wO (ea 2) 2 [.ref (eg 2), .ref (ef 2), .int (et 2), .int (nI (el 2)), .int (nI (ei 2))], wI (cy 1) (eg 2) 10 (gc 2), wI (cy 1) (ef 2) 7 (xc 2), wO (ea 3) 2 [.ref (eg 3), .ref (ef 3), .int (et 3), .int (nI (el 3)), .int (nI (ei 3))], wI (cy 1) (eg 3) 10 (gc 3), wI (cy 1) (ef 3) 7 (xc 3)] → va_S A s.heap H locs → ∀ ls : Array Slot, lv_has ls 5 [(4, .int (nI wd15)), (3, .int (nI j_13)), (2, .int (nI j_11)), (0, .ref p0), (1, .int 2)] → W p l e (rmk 6 0 0) s m args below meth c H locs 0 0 Q (F0 m 38 ls []) := by
      try clear hP hD hS
      intro zn
      induction zn with
      | zero => intro wd15 fa1_15 fa2_15 fa3_15 _ _ _ hz; exact absurd hz (by omega)
      | succ zn ih15 =>
        intro wd15 fa1_15 fa2_15 fa3_15 ha3_15 ha4_15 hf0_15 hmu15 H locs hP hD hS ls hl
        refine lv_iload hx hb dX6_chooseWords_38 (lv_at hl 0 rfl) ?_
        refine lv_aload_n hx hb dX6_chooseWords_40 rfl (lv_at hl 3 rfl) ?_
        refine va_get (D := D) (ci := 6) (v := .ref h0) (C := RX6) (T := TX6) (N := 9) hx hb hg i_X6 hown hK hP 0 rfl rfl 6 (by decide) (hg _ m_591) (fun _ h9 => h9) rfl dX6_chooseWords_41 ?_
        refine va_get (D := D) (ci := 4) (v := .ref h1) (C := RX4) (T := TX4) (N := 16) hx hb hg i_X4 hown hK hP 4 rfl rfl 0 (by decide) (hg _ m_330) (fun _ h9 => h9) rfl dX6_chooseWords_44 ?_
        refine lv_iconst (v := 0) hx hb dX6_chooseWords_47 (by decide) ?_
        refine va_iald hx hb hK hP 5 1 rfl rfl (by unfold vp_in; decide) dX6_chooseWords_48 ?_
        refine lv_topi (fun y_16 hy_16 => ?_)
        obtain rfl : y_16 = nI c0 := hy_16.trans hcn.1
        refine lv_icmp_ge (tgt := 100) hx hb dX6_chooseWords_49 (by decide) (fun c_17 => ?_) (fun c_17 => ?_)
        · have q_18 : c0 ≤ wd15 := q_le (a := c0) (b := wd15) rfl rfl (by omega) (by omega) c_17
          refine lv_aload_n hx hb dX6_chooseWords_100 rfl (lv_at hl 3 rfl) ?_
          refine va_get (D := D) (ci := 6) (v := .ref s0) (C := RX6) (T := TX6) (N := 9) hx hb hg i_X6 hown hK hP 0 rfl rfl 7 (by decide) (hg _ m_592) (fun _ h9 => h9) rfl dX6_chooseWords_101 ?_
          refine va_get (D := D) (ci := 7) (v := .ref s1) (C := RX7) (T := TX7) (N := 7) hx hb hg i_X7 hown hK hP 7 rfl rfl 0 (by decide) (hg _ m_622) (fun _ h9 => h9) rfl dX6_chooseWords_104 ?_
          refine lv_iload_n hx hb dX6_chooseWords_107 rfl (lv_at hl 2 rfl) ?_
          refine lv_iload_n hx hb dX6_chooseWords_108 rfl (lv_at hl 1 rfl) ?_
          refine va_iast hx hb hK hP hD hS 8 1 rfl rfl (vp_in_nI (by omega) (by decide)) dX6_chooseWords_109 (fun H locs hP9 hD9 hS9 => ?_)
          clear hP hD hS
          have hP := hP9
          have hD := hD9
          have hS := hS9
          clear hP9 hD9 hS9
          obtain ⟨g_19, eg_19⟩ : ∃ y, upd fa2_15 (nI j_11 : Int32).toNatClampNeg (nI j_13) = y := ⟨_, rfl⟩
          rw [eg_19] at hP hD
          have hr_20 : rng g_19 10 7 := eg_19 ▸ rng_put ha3_15 (j := j_13) (by omega)
          replace hP : va_P D vwCl [wO p0 6 [.ref p1, .ref er, .ref ro, .ref p2, .ref p3, .ref p4, .ref h0, .ref s0, .int (nI ch)], wI (cy 1) p3 4 (fne), wI (cy 1) p1 3 (fa1_15), wI (cy 1) p2 3 (fpc), wO h0 4 [.ref h1, .ref h2, .ref h3, .ref h4, .ref h5, .ref h6, .ref h7, .ref h8, .ref h9, .ref h10, .ref h11, .int ys, hv1, hv2, hv3, hv4], wI (cy 1) h1 4 (fc), wI (cy 1) h7 48 (fx), wO s0 7 [.ref s1, .ref s2, .int (nI sl), .int spl, .int svo, .int swi, .int sch], wI (cy 1) s1 10 (g_19), wI (cy 1) ro 20 (fa3_15), (er, .inl (cy 4, 4, .inr (.inr (.inr (.inr (eF (ea 0) (ea 1) (ea 2) (ea 3))))))), wO (ea 0) 2 [.ref (eg 0), .ref (ef 0), .int (et 0), .int (nI (el 0)), .int (nI (ei 0))], wI (cy 1) (eg 0) 10 (gc 0), wI (cy 1) (ef 0) 7 (xc 0), wO (ea 1) 2 [.ref (eg 1), .ref (ef 1), .int (et 1), .int (nI (el 1)), .int (nI (ei 1))], wI (cy 1) (eg 1) 10 (gc 1), wI (cy 1) (ef 1) 7 (xc 1), wO (ea 2) 2 [.ref (eg 2), .ref (ef 2), .int (et 2), .int (nI (el 2)), .int (nI (ei 2))], wI (cy 1) (eg 2) 10 (gc 2), wI (cy 1) (ef 2) 7 (xc 2), wO (ea 3) 2 [.ref (eg 3), .ref (ef 3), .int (et 3), .int (nI (el 3)), .int (nI (ei 3))], wI (cy 1) (eg 3) 10 (gc 3), wI (cy 1) (ef 3) 7 (xc 3)] H := hP
          replace hD : va_D A [wO p0 6 [.ref p1, .ref er, .ref ro, .ref p2, .ref p3, .ref p4, .ref h0, .ref s0, .int (nI ch)], wI (cy 1) p3 4 (fne), wI (cy 1) p1 3 (fa1_15), wI (cy 1) p2 3 (fpc), wO h0 4 [.ref h1, .ref h2, .ref h3, .ref h4, .ref h5, .ref h6, .ref h7, .ref h8, .ref h9, .ref h10, .ref h11, .int ys, hv1, hv2, hv3, hv4], wI (cy 1) h1 4 (fc), wI (cy 1) h7 48 (fx), wO s0 7 [.ref s1, .ref s2, .int (nI sl), .int spl, .int svo, .int swi, .int sch], wI (cy 1) s1 10 (g_19), wI (cy 1) ro 20 (fa3_15), (er, .inl (cy 4, 4, .inr (.inr (.inr (.inr (eF (ea 0) (ea 1) (ea 2) (ea 3))))))), wO (ea 0) 2 [.ref (eg 0), .ref (ef 0), .int (et 0), .int (nI (el 0)), .int (nI (ei 0))], wI (cy 1) (eg 0) 10 (gc 0), wI (cy 1) (ef 0) 7 (xc 0), wO (ea 1) 2 [.ref (eg 1), .ref (ef 1), .int (et 1), .int (nI (el 1)), .int (nI (ei 1))], wI (cy 1) (eg 1) 10 (gc 1), wI (cy 1) (ef 1) 7 (xc 1), wO (ea 2) 2 [.ref (eg 2), .ref (ef 2), .int (et 2), .int (nI (el 2)), .int (nI (ei 2))], wI (cy 1) (eg 2) 10 (gc 2), wI (cy 1) (ef 2) 7 (xc 2), wO (ea 3) 2 [.ref (eg 3), .ref (ef 3), .int (et 3), .int (nI (el 3)), .int (nI (ei 3))], wI (cy 1) (eg 3) 10 (gc 3), wI (cy 1) (ef 3) 7 (xc 3)] := hD
          refine lv_iconst (v := 0) hx hb dX6_chooseWords_110 (by decide) ?_
          exact x_zret hQ hx hb hr hlocks hK hP hD hS rfl dX6_chooseWords_111 (fa1_15, g_19, fa3_15) (⟨(Or.inl rfl), hr_20, ha4_15⟩) [0, 1, 2, 3, 4, 5, 6, 7, 8, 9, 10, 11, 12, 13, 14, 15, 16, 17, 18, 19, 20, 21, 22] (by decide +kernel) rfl (Nat.le_of_ble_eq_true rfl) (Nat.le_of_ble_eq_true rfl)
        · have q_18 : wd15 < c0 := q_nle (a := c0) (b := wd15) rfl rfl (by omega) (by omega) c_17
          refine lv_iload hx hb dX6_chooseWords_52 (lv_at hl 0 rfl) ?_
          refine lv_iload_n hx hb dX6_chooseWords_54 rfl (lv_at hl 1 rfl) ?_
          refine lv_icmp_eq (tgt := 94) hx hb dX6_chooseWords_55 (by decide) (fun c_21 => ?_) (fun c_21 => ?_)
          · have q_22 : wd15 = j_13 := q_eq (a := wd15) (b := j_13) rfl rfl (by omega) (by omega) c_21
            refine lv_iinc (v := nI (wd15 + 1)) (lv' := [(4, .int (nI (wd15 + 1))), (3, .int (nI j_13)), (2, .int (nI j_11)), (0, .ref p0), (1, .int 2)]) hx hb dX6_chooseWords_94 hl (k := 0) rfl (nI_add wd15 1) (by decide) rfl (fun ls hl => ?_)
            refine lv_goto (tgt := 38) hx hb dX6_chooseWords_97 (by decide) ?_
            exact ih15  ((wd15 + 1)) fa1_15 fa2_15 fa3_15 ha3_15 ha4_15 (by omega) (by omega) _ _ (hP.sub [0, 1, 2, 3, 4, 5, 6, 7, 8, 9, 10, 11, 12, 13, 14, 15, 16, 17, 18, 19, 20, 21, 22] rfl) (hD.sub [0, 1, 2, 3, 4, 5, 6, 7, 8, 9, 10, 11, 12, 13, 14, 15, 16, 17, 18, 19, 20, 21, 22] (by decide +kernel) rfl) hS ls (lv_sub hl [0, 1, 2, 3, 4] rfl)
          · have q_22 : ¬ wd15 = j_13 := q_ne (a := wd15) (b := j_13) rfl rfl (by omega) (by omega) c_21
            refine lv_aload_n hx hb dX6_chooseWords_58 rfl (lv_at hl 3 rfl) ?_
            refine va_get (D := D) (ci := 6) (v := .ref s0) (C := RX6) (T := TX6) (N := 9) hx hb hg i_X6 hown hK hP 0 rfl rfl 7 (by decide) (hg _ m_592) (fun _ h9 => h9) rfl dX6_chooseWords_59 ?_
            refine va_get (D := D) (ci := 7) (v := .ref s1) (C := RX7) (T := TX7) (N := 7) hx hb hg i_X7 hown hK hP 7 rfl rfl 0 (by decide) (hg _ m_622) (fun _ h9 => h9) rfl dX6_chooseWords_62 ?_
            refine lv_iload_n hx hb dX6_chooseWords_65 rfl (lv_at hl 2 rfl) ?_
            refine lv_iload hx hb dX6_chooseWords_66 (lv_at hl 0 rfl) ?_
            refine va_iast hx hb hK hP hD hS 8 1 rfl rfl (vp_in_nI (by omega) (by decide)) dX6_chooseWords_68 (fun H locs hP9 hD9 hS9 => ?_)
            clear hP hD hS
            have hP := hP9
            have hD := hD9
            have hS := hS9
            clear hP9 hD9 hS9
            obtain ⟨g_23, eg_23⟩ : ∃ y, upd fa2_15 (nI j_11 : Int32).toNatClampNeg (nI wd15) = y := ⟨_, rfl⟩
            rw [eg_23] at hP hD
            have hr_24 : rng g_23 10 7 := eg_23 ▸ rng_put ha3_15 (j := wd15) (by omega)
            replace hP : va_P D vwCl [wO p0 6 [.ref p1, .ref er, .ref ro, .ref p2, .ref p3, .ref p4, .ref h0, .ref s0, .int (nI ch)], wI (cy 1) p3 4 (fne), wI (cy 1) p1 3 (fa1_15), wI (cy 1) p2 3 (fpc), wO h0 4 [.ref h1, .ref h2, .ref h3, .ref h4, .ref h5, .ref h6, .ref h7, .ref h8, .ref h9, .ref h10, .ref h11, .int ys, hv1, hv2, hv3, hv4], wI (cy 1) h1 4 (fc), wI (cy 1) h7 48 (fx), wO s0 7 [.ref s1, .ref s2, .int (nI sl), .int spl, .int svo, .int swi, .int sch], wI (cy 1) s1 10 (g_23), wI (cy 1) ro 20 (fa3_15), (er, .inl (cy 4, 4, .inr (.inr (.inr (.inr (eF (ea 0) (ea 1) (ea 2) (ea 3))))))), wO (ea 0) 2 [.ref (eg 0), .ref (ef 0), .int (et 0), .int (nI (el 0)), .int (nI (ei 0))], wI (cy 1) (eg 0) 10 (gc 0), wI (cy 1) (ef 0) 7 (xc 0), wO (ea 1) 2 [.ref (eg 1), .ref (ef 1), .int (et 1), .int (nI (el 1)), .int (nI (ei 1))], wI (cy 1) (eg 1) 10 (gc 1), wI (cy 1) (ef 1) 7 (xc 1), wO (ea 2) 2 [.ref (eg 2), .ref (ef 2), .int (et 2), .int (nI (el 2)), .int (nI (ei 2))], wI (cy 1) (eg 2) 10 (gc 2), wI (cy 1) (ef 2) 7 (xc 2), wO (ea 3) 2 [.ref (eg 3), .ref (ef 3), .int (et 3), .int (nI (el 3)), .int (nI (ei 3))], wI (cy 1) (eg 3) 10 (gc 3), wI (cy 1) (ef 3) 7 (xc 3)] H := hP
            replace hD : va_D A [wO p0 6 [.ref p1, .ref er, .ref ro, .ref p2, .ref p3, .ref p4, .ref h0, .ref s0, .int (nI ch)], wI (cy 1) p3 4 (fne), wI (cy 1) p1 3 (fa1_15), wI (cy 1) p2 3 (fpc), wO h0 4 [.ref h1, .ref h2, .ref h3, .ref h4, .ref h5, .ref h6, .ref h7, .ref h8, .ref h9, .ref h10, .ref h11, .int ys, hv1, hv2, hv3, hv4], wI (cy 1) h1 4 (fc), wI (cy 1) h7 48 (fx), wO s0 7 [.ref s1, .ref s2, .int (nI sl), .int spl, .int svo, .int swi, .int sch], wI (cy 1) s1 10 (g_23), wI (cy 1) ro 20 (fa3_15), (er, .inl (cy 4, 4, .inr (.inr (.inr (.inr (eF (ea 0) (ea 1) (ea 2) (ea 3))))))), wO (ea 0) 2 [.ref (eg 0), .ref (ef 0), .int (et 0), .int (nI (el 0)), .int (nI (ei 0))], wI (cy 1) (eg 0) 10 (gc 0), wI (cy 1) (ef 0) 7 (xc 0), wO (ea 1) 2 [.ref (eg 1), .ref (ef 1), .int (et 1), .int (nI (el 1)), .int (nI (ei 1))], wI (cy 1) (eg 1) 10 (gc 1), wI (cy 1) (ef 1) 7 (xc 1), wO (ea 2) 2 [.ref (eg 2), .ref (ef 2), .int (et 2), .int (nI (el 2)), .int (nI (ei 2))], wI (cy 1) (eg 2) 10 (gc 2), wI (cy 1) (ef 2) 7 (xc 2), wO (ea 3) 2 [.ref (eg 3), .ref (ef 3), .int (et 3), .int (nI (el 3)), .int (nI (ei 3))], wI (cy 1) (eg 3) 10 (gc 3), wI (cy 1) (ef 3) 7 (xc 3)] := hD
            refine lv_aload_n hx hb dX6_chooseWords_69 rfl (lv_at hl 3 rfl) ?_
            refine va_get (D := D) (ci := 6) (v := .ref p1) (C := RX6) (T := TX6) (N := 9) hx hb hg i_X6 hown hK hP 0 rfl rfl 0 (by decide) (hg _ m_584) (fun _ h9 => h9) rfl dX6_chooseWords_70 ?_
            refine lv_iload_n hx hb dX6_chooseWords_73 rfl (lv_at hl 4 rfl) ?_
            refine lv_bipush (v := 10) hx hb dX6_chooseWords_74 (by decide) ?_
            refine lv_iload_n hx hb dX6_chooseWords_76 rfl (lv_at hl 2 rfl) ?_
            refine lv_imul hx hb dX6_chooseWords_77 ?_
            refine lv_topi (fun y_25 hy_25 => ?_)
            obtain rfl : y_25 = nI (10 * j_11) := hy_25.trans (pk_mul 10 j_11)
            refine lv_iload hx hb dX6_chooseWords_78 (lv_at hl 0 rfl) ?_
            refine lv_iadd hx hb dX6_chooseWords_80 ?_
            refine lv_topi (fun y_26 hy_26 => ?_)
            obtain rfl : y_26 = nI ((10 * j_11) + wd15) := hy_26.trans (nI_add ((10 * j_11)) wd15)
            refine va_iast hx hb hK hP hD hS 2 1 rfl rfl (by unfold vp_in; decide) dX6_chooseWords_81 (fun H locs hP9 hD9 hS9 => ?_)
            clear hP hD hS
            obtain ⟨g_27, eg_27⟩ : ∃ y, upd fa1_15 (2 : Int32).toNatClampNeg (nI ((10 * j_11) + wd15)) = y := ⟨_, rfl⟩
            rw [eg_27] at hP9 hD9
            refine reW [wO p0 6 [.ref p1, .ref er, .ref ro, .ref p2, .ref p3, .ref p4, .ref h0, .ref s0, .int (nI ch)], wI (cy 1) p3 4 (fne), wI (cy 1) p1 3 (g_27), wI (cy 1) p2 3 (fpc), wO h0 4 [.ref h1, .ref h2, .ref h3, .ref h4, .ref h5, .ref h6, .ref h7, .ref h8, .ref h9, .ref h10, .ref h11, .int ys, hv1, hv2, hv3, hv4], wI (cy 1) h1 4 (fc), wI (cy 1) h7 48 (fx), wO s0 7 [.ref s1, .ref s2, .int (nI sl), .int spl, .int svo, .int swi, .int sch], wI (cy 1) s1 10 (g_23), wI (cy 1) ro 20 (fa3_15), (er, .inl (cy 4, 4, .inr (.inr (.inr (.inr (eF (ea 0) (ea 1) (ea 2) (ea 3))))))), wO (ea 0) 2 [.ref (eg 0), .ref (ef 0), .int (et 0), .int (nI (el 0)), .int (nI (ei 0))], wI (cy 1) (eg 0) 10 (gc 0), wI (cy 1) (ef 0) 7 (xc 0), wO (ea 1) 2 [.ref (eg 1), .ref (ef 1), .int (et 1), .int (nI (el 1)), .int (nI (ei 1))], wI (cy 1) (eg 1) 10 (gc 1), wI (cy 1) (ef 1) 7 (xc 1), wO (ea 2) 2 [.ref (eg 2), .ref (ef 2), .int (et 2), .int (nI (el 2)), .int (nI (ei 2))], wI (cy 1) (eg 2) 10 (gc 2), wI (cy 1) (ef 2) 7 (xc 2), wO (ea 3) 2 [.ref (eg 3), .ref (ef 3), .int (et 3), .int (nI (el 3)), .int (nI (ei 3))], wI (cy 1) (eg 3) 10 (gc 3), wI (cy 1) (ef 3) 7 (xc 3)] hP9 hD9 hS9 (fun hP hD hS => ?_)
            clear hP9 hD9 hS9
            refine lv_aload_n hx hb dX6_chooseWords_82 rfl (lv_at hl 3 rfl) ?_
            refine lv_iload_n hx hb dX6_chooseWords_83 rfl (lv_at hl 4 rfl) ?_
            refine lv_iconst (v := 1) hx hb dX6_chooseWords_84 (by decide) ?_
            refine lv_iadd hx hb dX6_chooseWords_85 ?_
            refine lv_topi (fun y_28 hy_28 => ?_)
            obtain rfl : y_28 = 3 := hy_28.trans (by decide +kernel)
            refine x_callVi (q := (RX6, TX6, 9)) (ci := 6) (q0 := 0) (wr := []) (rest := []) ⟨hx, hb, hml, hown, hg, hl.1⟩ k_X6_73 (s_chooseWords3 l D cy p0 p1 p2 p3 p4 er ro ch fne g_27 fpc h0 h1 h2 h3 h4 h5 h6 h7 h8 h9 h10 h11 hv1 hv2 hv3 hv4 ys fc c0 c1 c2 c3 fx s0 s1 s2 sl spl svo swi sch g_23 fa3_15 ea eg ef et el ei gc xc (hne) (hpc) (by omega) (hcn) (by omega) (by omega) (by omega) (by omega) (hnx) (fun i9 h9 => by rcases (show i9 = 0 ∨ i9 = 1 ∨ i9 = 2 ∨ i9 = 3 by omega) with rfl | rfl | rfl | rfl <;> omega) (by omega) (hr_24) (ha4_15)) E0_blind hK hP hD hS hA [0, 1, 2, 3, 4, 5, 6, 7, 8, 9, 10, 11, 12, 13, 14, 15, 16, 17, 18, 19, 20, 21, 22] [] ⟨rfl, rfl, by decide +kernel, by decide +kernel, by decide +kernel⟩ rfl rfl (fun _ _ _ => trivial) dX6_chooseWords_86 rfl rfl (Nat.le_of_ble_eq_true rfl) ⟨Nat.le_of_ble_eq_true rfl, Nat.le_of_ble_eq_true rfl⟩ ⟨Nat.le_of_ble_eq_true rfl, Nat.le_of_ble_eq_true rfl⟩ (fun zr29 zu29 H locs hw29 hP9 hD9 hS9 => ?_)
            clear hP hD hS
            obtain ⟨ffd2_30, fw2_31, fr2_32⟩ := zu29
            refine reW [wO p0 6 [.ref p1, .ref er, .ref ro, .ref p2, .ref p3, .ref p4, .ref h0, .ref s0, .int (nI ch)], wI (cy 1) p3 4 (fne), wI (cy 1) p1 3 (ffd2_30), wI (cy 1) p2 3 (fpc), wO h0 4 [.ref h1, .ref h2, .ref h3, .ref h4, .ref h5, .ref h6, .ref h7, .ref h8, .ref h9, .ref h10, .ref h11, .int ys, hv1, hv2, hv3, hv4], wI (cy 1) h1 4 (fc), wI (cy 1) h7 48 (fx), wO s0 7 [.ref s1, .ref s2, .int (nI sl), .int spl, .int svo, .int swi, .int sch], wI (cy 1) s1 10 (fw2_31), wI (cy 1) ro 20 (fr2_32), (er, .inl (cy 4, 4, .inr (.inr (.inr (.inr (eF (ea 0) (ea 1) (ea 2) (ea 3))))))), wO (ea 0) 2 [.ref (eg 0), .ref (ef 0), .int (et 0), .int (nI (el 0)), .int (nI (ei 0))], wI (cy 1) (eg 0) 10 (gc 0), wI (cy 1) (ef 0) 7 (xc 0), wO (ea 1) 2 [.ref (eg 1), .ref (ef 1), .int (et 1), .int (nI (el 1)), .int (nI (ei 1))], wI (cy 1) (eg 1) 10 (gc 1), wI (cy 1) (ef 1) 7 (xc 1), wO (ea 2) 2 [.ref (eg 2), .ref (ef 2), .int (et 2), .int (nI (el 2)), .int (nI (ei 2))], wI (cy 1) (eg 2) 10 (gc 2), wI (cy 1) (ef 2) 7 (xc 2), wO (ea 3) 2 [.ref (eg 3), .ref (ef 3), .int (et 3), .int (nI (el 3)), .int (nI (ei 3))], wI (cy 1) (eg 3) 10 (gc 3), wI (cy 1) (ef 3) 7 (xc 3)] hP9 hD9 hS9 (fun hP hD hS => ?_)
            clear hP9 hD9 hS9
            refine W.widen (k := 0) (n := 0) (Nat.le_of_ble_eq_true rfl) (Nat.le_of_ble_eq_true rfl) ?_
            replace hw29 : (zr29 = 0 ∨ zr29 = 1) ∧ (rng fw2_31 10 7) ∧ (rng fr2_32 20 7) := hw29
            obtain ⟨f_33, f_34, f_35⟩ := hw29
            refine lv_if_eq (tgt := 94) hx hb dX6_chooseWords_89 (by decide) (fun c_89 => ?_) (fun c_89 => ?_)
            · refine lv_iinc (v := nI (wd15 + 1)) (lv' := [(4, .int (nI (wd15 + 1))), (3, .int (nI j_13)), (2, .int (nI j_11)), (0, .ref p0), (1, .int 2)]) hx hb dX6_chooseWords_94 hl (k := 0) rfl (nI_add wd15 1) (by decide) rfl (fun ls hl => ?_)
              refine lv_goto (tgt := 38) hx hb dX6_chooseWords_97 (by decide) ?_
              exact ih15  ((wd15 + 1)) ffd2_30 fw2_31 fr2_32 f_34 f_35 (by omega) (by omega) _ _ (hP.sub [0, 1, 2, 3, 4, 5, 6, 7, 8, 9, 10, 11, 12, 13, 14, 15, 16, 17, 18, 19, 20, 21, 22] rfl) (hD.sub [0, 1, 2, 3, 4, 5, 6, 7, 8, 9, 10, 11, 12, 13, 14, 15, 16, 17, 18, 19, 20, 21, 22] (by decide +kernel) rfl) hS ls (lv_sub hl [0, 1, 2, 3, 4] rfl)
            · refine lv_iconst (v := 1) hx hb dX6_chooseWords_92 (by decide) ?_
              exact x_zret hQ hx hb hr hlocks hK hP hD hS rfl dX6_chooseWords_93 (ffd2_30, fw2_31, fr2_32) (⟨(Or.inr rfl), f_34, f_35⟩) [0, 1, 2, 3, 4, 5, 6, 7, 8, 9, 10, 11, 12, 13, 14, 15, 16, 17, 18, 19, 20, 21, 22] (by decide +kernel) rfl (Nat.le_of_ble_eq_true rfl) (Nat.le_of_ble_eq_true rfl)
    exact loop15 _ 0 ffd fw fr hsw hrw (by omega) (Nat.le_refl _) _ _ (hP.sub [0, 1, 2, 3, 4, 5, 6, 7, 8, 9, 10, 11, 12, 13, 14, 15, 16, 17, 18, 19, 20, 21, 22] rfl) (hD.sub [0, 1, 2, 3, 4, 5, 6, 7, 8, 9, 10, 11, 12, 13, 14, 15, 16, 17, 18, 19, 20, 21, 22] (by decide +kernel) rfl) hS ls (lv_sub hl [0, 1, 2, 3, 4] rfl)
set_option maxHeartbeats 1000000 in
set_option maxRecDepth 100000 in
theorem s_chooseWords1 (l : Launch) (D : va_G) (cy : Nat → ClassId) (p0 : Nat) (p1 : Nat) (p2 : Nat) (p3 : Nat) (p4 : Nat) (er : Nat) (ro : Nat) (ch : Nat) (fne : Nat → Int32) (ffd : Nat → Int32) (fpc : Nat → Int32) (h0 : Nat) (h1 : Nat) (h2 : Nat) (h3 : Nat) (h4 : Nat) (h5 : Nat) (h6 : Nat) (h7 : Nat) (h8 : Nat) (h9 : Nat) (h10 : Nat) (h11 : Nat) (hv1 : Value) (hv2 : Value) (hv3 : Value) (hv4 : Value) (ys : Int32) (fc : Nat → Int32) (c0 : Nat) (c1 : Nat) (c2 : Nat) (c3 : Nat) (fx : Nat → Int32) (s0 : Nat) (s1 : Nat) (s2 : Nat) (sl : Nat) (spl : Int32) (svo : Int32) (swi : Int32) (sch : Int32) (fw : Nat → Int32) (fr : Nat → Int32) (ea : Nat → Nat) (eg : Nat → Nat) (ef : Nat → Nat) (et : Nat → Int32) (el : Nat → Nat) (ei : Nat → Nat) (gc : Nat → Nat → Int32) (xc : Nat → Nat → Int32) (hne : nOK fne c1) (hpc : rng fpc 3 9) (hch : ch ≤ 3) (hcn : cntOK fc c0 c1 c2 c3) (hc0 : c0 ≤ 8) (hc1 : c1 ≤ 4) (hc2 : c2 ≤ 4) (hc3 : c3 ≤ 6) (hnx : rng fx 48 5) (hel : ∀ i9, i9 < 4 → el i9 ≤ 10) (hsl : sl ≤ 10) (hsw : rng fw 10 7) (hrw : rng fr 20 7) : XMi l D (tyL cy) E0 yX6_chooseWords cX6_chooseWords 5 (some .boolean) (rmk 7 0 0) [.ref p0, .int 1] [wO p0 6 [.ref p1, .ref er, .ref ro, .ref p2, .ref p3, .ref p4, .ref h0, .ref s0, .int (nI ch)], wI (cy 1) p3 4 (fne), wI (cy 1) p1 3 (ffd), wI (cy 1) p2 3 (fpc), wO h0 4 [.ref h1, .ref h2, .ref h3, .ref h4, .ref h5, .ref h6, .ref h7, .ref h8, .ref h9, .ref h10, .ref h11, .int ys, hv1, hv2, hv3, hv4], wI (cy 1) h1 4 (fc), wI (cy 1) h7 48 (fx), wO s0 7 [.ref s1, .ref s2, .int (nI sl), .int spl, .int svo, .int swi, .int sch], wI (cy 1) s1 10 (fw), wI (cy 1) ro 20 (fr), (er, .inl (cy 4, 4, .inr (.inr (.inr (.inr (eF (ea 0) (ea 1) (ea 2) (ea 3))))))), wO (ea 0) 2 [.ref (eg 0), .ref (ef 0), .int (et 0), .int (nI (el 0)), .int (nI (ei 0))], wI (cy 1) (eg 0) 10 (gc 0), wI (cy 1) (ef 0) 7 (xc 0), wO (ea 1) 2 [.ref (eg 1), .ref (ef 1), .int (et 1), .int (nI (el 1)), .int (nI (ei 1))], wI (cy 1) (eg 1) 10 (gc 1), wI (cy 1) (ef 1) 7 (xc 1), wO (ea 2) 2 [.ref (eg 2), .ref (ef 2), .int (et 2), .int (nI (el 2)), .int (nI (ei 2))], wI (cy 1) (eg 2) 10 (gc 2), wI (cy 1) (ef 2) 7 (xc 2), wO (ea 3) 2 [.ref (eg 3), .ref (ef 3), .int (et 3), .int (nI (el 3)), .int (nI (ei 3))], wI (cy 1) (eg 3) 10 (gc 3), wI (cy 1) (ef 3) 7 (xc 3)] (fun (r : Int32) (u : (Nat → Int32) × (Nat → Int32) × (Nat → Int32)) => (r = 0 ∨ r = 1) ∧ (rng u.2.1 10 7) ∧ (rng u.2.2 20 7)) (fun (u : (Nat → Int32) × (Nat → Int32) × (Nat → Int32)) => [wO p0 6 [.ref p1, .ref er, .ref ro, .ref p2, .ref p3, .ref p4, .ref h0, .ref s0, .int (nI ch)], wI (cy 1) p3 4 (fne), wI (cy 1) p1 3 (u.1), wI (cy 1) p2 3 (fpc), wO h0 4 [.ref h1, .ref h2, .ref h3, .ref h4, .ref h5, .ref h6, .ref h7, .ref h8, .ref h9, .ref h10, .ref h11, .int ys, hv1, hv2, hv3, hv4], wI (cy 1) h1 4 (fc), wI (cy 1) h7 48 (fx), wO s0 7 [.ref s1, .ref s2, .int (nI sl), .int spl, .int svo, .int swi, .int sch], wI (cy 1) s1 10 (u.2.1), wI (cy 1) ro 20 (u.2.2), (er, .inl (cy 4, 4, .inr (.inr (.inr (.inr (eF (ea 0) (ea 1) (ea 2) (ea 3))))))), wO (ea 0) 2 [.ref (eg 0), .ref (ef 0), .int (et 0), .int (nI (el 0)), .int (nI (ei 0))], wI (cy 1) (eg 0) 10 (gc 0), wI (cy 1) (ef 0) 7 (xc 0), wO (ea 1) 2 [.ref (eg 1), .ref (ef 1), .int (et 1), .int (nI (el 1)), .int (nI (ei 1))], wI (cy 1) (eg 1) 10 (gc 1), wI (cy 1) (ef 1) 7 (xc 1), wO (ea 2) 2 [.ref (eg 2), .ref (ef 2), .int (et 2), .int (nI (el 2)), .int (nI (ei 2))], wI (cy 1) (eg 2) 10 (gc 2), wI (cy 1) (ef 2) 7 (xc 2), wO (ea 3) 2 [.ref (eg 3), .ref (ef 3), .int (et 3), .int (nI (el 3)), .int (nI (ei 3))], wI (cy 1) (eg 3) 10 (gc 3), wI (cy 1) (ef 3) 7 (xc 3)]) := by
  refine XMi.start (by decide) (Nat.le_of_ble_eq_true rfl) ?_
  intro p e s m below meth c args A ls Q hat hQ
  obtain ⟨hx, hb, hr, hml, hown, hg, hlocks, hin, hK, hA, hP, hD, hS, hE, hl⟩ := hat
  have hown : s.vm.findClass RX6 = some m.cls := hown
  have hl : lv_has ls 5 [(0, .ref p0), (1, .int 1)] := hl
  have hk_1 := hel 0 (by decide)
  have hk_2 := hel 1 (by decide)
  have hk_3 := hel 2 (by decide)
  have hk_4 := hel 3 (by decide)
  refine lv_iload_n hx hb dX6_chooseWords_0 rfl (lv_at hl 1 rfl) ?_
  refine lv_aload_n hx hb dX6_chooseWords_1 rfl (lv_at hl 0 rfl) ?_
  refine va_get (D := D) (ci := 6) (v := .int (nI ch)) (C := RX6) (T := TX6) (N := 9) hx hb hg i_X6 hown hK hP 0 rfl rfl 8 (by decide) (hg _ m_593) (fun _ h9 => h9) rfl dX6_chooseWords_2 ?_
  refine lv_icmp_ge (tgt := 13) hx hb dX6_chooseWords_5 (by decide) (fun c_5 => ?_) (fun c_5 => ?_)
  · have q_6 : ch ≤ 1 := q_le (a := ch) (b := 1) rfl rfl (by omega) (by omega) c_5
    refine lv_aload_n hx hb dX6_chooseWords_13 rfl (lv_at hl 0 rfl) ?_
    refine x_callVi (q := (RX6, TX6, 9)) (ci := 6) (q0 := 0) (wr := [wI (cy 1) p1 3 (ffd), wI (cy 1) p2 3 (fpc)]) (rest := []) ⟨hx, hb, hml, hown, hg, hl.1⟩ k_X6_113 (s_isYesNow l D cy p0 p1 p2 p3 p4 er ro ch fne h0 h1 h2 h3 h4 h5 h6 h7 h8 h9 h10 h11 hv1 hv2 hv3 hv4 ys fc c0 c1 c2 c3 fx s0 s1 s2 sl spl svo swi sch fw fr ea eg ef et el ei gc xc (hne) (hcn) (by omega) (by omega) (by omega) (by omega) (hnx) (fun i9 h9 => by rcases (show i9 = 0 ∨ i9 = 1 ∨ i9 = 2 ∨ i9 = 3 by omega) with rfl | rfl | rfl | rfl <;> omega) (by omega) (hsw) (hrw)) E0_blind hK hP hD hS hA [0, 1, 4, 5, 6, 7, 8, 9, 10, 11, 12, 13, 14, 15, 16, 17, 18, 19, 20, 21, 22] [2, 3] ⟨rfl, rfl, by decide +kernel, by decide +kernel, by decide +kernel⟩ rfl rfl (fun _ _ _ => trivial) dX6_chooseWords_14 rfl rfl (Nat.le_of_ble_eq_true rfl) ⟨Nat.le_of_ble_eq_true rfl, Nat.le_of_ble_eq_true rfl⟩ ⟨Nat.le_of_ble_eq_true rfl, Nat.le_of_ble_eq_true rfl⟩ (fun zr7 zu7 H locs hw7 hP9 hD9 hS9 => ?_)
    clear hP hD hS
    obtain ⟨fr2_8, rfl⟩ : ∃ z, z = zu7 := ⟨_, rfl⟩
    refine reW [wI (cy 1) p1 3 (ffd), wI (cy 1) p2 3 (fpc), wO p0 6 [.ref p1, .ref er, .ref ro, .ref p2, .ref p3, .ref p4, .ref h0, .ref s0, .int (nI ch)], wI (cy 1) p3 4 (fne), wO h0 4 [.ref h1, .ref h2, .ref h3, .ref h4, .ref h5, .ref h6, .ref h7, .ref h8, .ref h9, .ref h10, .ref h11, .int ys, hv1, hv2, hv3, hv4], wI (cy 1) h1 4 (fc), wI (cy 1) h7 48 (fx), wO s0 7 [.ref s1, .ref s2, .int (nI sl), .int spl, .int svo, .int swi, .int sch], wI (cy 1) s1 10 (fw), wI (cy 1) ro 20 (fr2_8), (er, .inl (cy 4, 4, .inr (.inr (.inr (.inr (eF (ea 0) (ea 1) (ea 2) (ea 3))))))), wO (ea 0) 2 [.ref (eg 0), .ref (ef 0), .int (et 0), .int (nI (el 0)), .int (nI (ei 0))], wI (cy 1) (eg 0) 10 (gc 0), wI (cy 1) (ef 0) 7 (xc 0), wO (ea 1) 2 [.ref (eg 1), .ref (ef 1), .int (et 1), .int (nI (el 1)), .int (nI (ei 1))], wI (cy 1) (eg 1) 10 (gc 1), wI (cy 1) (ef 1) 7 (xc 1), wO (ea 2) 2 [.ref (eg 2), .ref (ef 2), .int (et 2), .int (nI (el 2)), .int (nI (ei 2))], wI (cy 1) (eg 2) 10 (gc 2), wI (cy 1) (ef 2) 7 (xc 2), wO (ea 3) 2 [.ref (eg 3), .ref (ef 3), .int (et 3), .int (nI (el 3)), .int (nI (ei 3))], wI (cy 1) (eg 3) 10 (gc 3), wI (cy 1) (ef 3) 7 (xc 3)] hP9 hD9 hS9 (fun hP hD hS => ?_)
    clear hP9 hD9 hS9
    refine W.widen (k := 0) (n := 0) (Nat.le_of_ble_eq_true rfl) (Nat.le_of_ble_eq_true rfl) ?_
    replace hw7 : (zr7 = 0 ∨ zr7 = 1) ∧ (rng fr2_8 20 7) := hw7
    obtain ⟨f_9, f_10⟩ := hw7
    exact x_zret hQ hx hb hr hlocks hK hP hD hS (narB f_9) dX6_chooseWords_17 (ffd, fw, fr2_8) (⟨f_9, hsw, f_10⟩) [2, 3, 0, 1, 4, 5, 6, 7, 8, 9, 10, 11, 12, 13, 14, 15, 16, 17, 18, 19, 20, 21, 22] (by decide +kernel) rfl (Nat.le_of_ble_eq_true rfl) (Nat.le_of_ble_eq_true rfl)
  · have q_6 : 1 < ch := q_nle (a := ch) (b := 1) rfl rfl (by omega) (by omega) c_5
    refine lv_iload_n hx hb dX6_chooseWords_8 rfl (lv_at hl 1 rfl) ?_
    refine lv_iconst (v := 3) hx hb dX6_chooseWords_9 (by decide) ?_
    refine lv_icmp_lt (tgt := 18) hx hb dX6_chooseWords_10 (by decide) (fun _ => ?_) (fun h => absurd (by decide) h)
    refine lv_aload_n hx hb dX6_chooseWords_18 rfl (lv_at hl 0 rfl) ?_
    refine va_get (D := D) (ci := 6) (v := .ref p2) (C := RX6) (T := TX6) (N := 9) hx hb hg i_X6 hown hK hP 0 rfl rfl 3 (by decide) (hg _ m_588) (fun _ h9 => h9) rfl dX6_chooseWords_19 ?_
    refine lv_iload_n hx hb dX6_chooseWords_22 rfl (lv_at hl 1 rfl) ?_
    refine va_iald hx hb hK hP 3 1 rfl rfl (by unfold vp_in; decide) dX6_chooseWords_23 ?_
    obtain ⟨j_11, hj_11, ej_11⟩ := rng_at hpc (i := 1) (by omega) (by decide)
    refine lv_topi (fun y_12 hy_12 => ?_)
    obtain rfl : y_12 = nI j_11 := hy_12.trans ej_11
    refine lv_istore_n (lv' := [(2, .int (nI j_11)), (0, .ref p0), (1, .int 1)]) hx hb dX6_chooseWords_24 rfl hl (by decide) rfl (fun ls hl => ?_)
    refine lv_aload_n hx hb dX6_chooseWords_25 rfl (lv_at hl 1 rfl) ?_
    refine va_get (D := D) (ci := 6) (v := .ref s0) (C := RX6) (T := TX6) (N := 9) hx hb hg i_X6 hown hK hP 0 rfl rfl 7 (by decide) (hg _ m_592) (fun _ h9 => h9) rfl dX6_chooseWords_26 ?_
    refine va_get (D := D) (ci := 7) (v := .ref s1) (C := RX7) (T := TX7) (N := 7) hx hb hg i_X7 hown hK hP 7 rfl rfl 0 (by decide) (hg _ m_622) (fun _ h9 => h9) rfl dX6_chooseWords_29 ?_
    refine lv_iload_n hx hb dX6_chooseWords_32 rfl (lv_at hl 0 rfl) ?_
    refine va_iald hx hb hK hP 8 1 rfl rfl (vp_in_nI (by omega) (by decide)) dX6_chooseWords_33 ?_
    obtain ⟨j_13, hj_13, ej_13⟩ := rng_at hsw (i := j_11) (by omega) (by decide)
    refine lv_topi (fun y_14 hy_14 => ?_)
    obtain rfl : y_14 = nI j_13 := hy_14.trans ej_13
    refine lv_istore_n (lv' := [(3, .int (nI j_13)), (2, .int (nI j_11)), (0, .ref p0), (1, .int 1)]) hx hb dX6_chooseWords_34 rfl hl (by decide) rfl (fun ls hl => ?_)
    refine lv_iconst (v := 0) hx hb dX6_chooseWords_35 (by decide) ?_
    refine lv_istore (lv' := [(4, .int 0), (3, .int (nI j_13)), (2, .int (nI j_11)), (0, .ref p0), (1, .int 1)]) hx hb dX6_chooseWords_36 hl (by decide) rfl (fun ls hl => ?_)
    have loop15 : ∀ (zn : Nat) (wd15 : Nat) (fa1_15 : Nat → Int32) (fa2_15 : Nat → Int32) (fa3_15 : Nat → Int32), (rng fa2_15 10 7) → (rng fa3_15 20 7) → (wd15 ≤ c0) → c0 - wd15 + 1 ≤ zn → ∀ (H : Heap) (locs : List Loc), va_P D vwCl [wO p0 6 [.ref p1, .ref er, .ref ro, .ref p2, .ref p3, .ref p4, .ref h0, .ref s0, .int (nI ch)], wI (cy 1) p3 4 (fne), wI (cy 1) p1 3 (fa1_15), wI (cy 1) p2 3 (fpc), wO h0 4 [.ref h1, .ref h2, .ref h3, .ref h4, .ref h5, .ref h6, .ref h7, .ref h8, .ref h9, .ref h10, .ref h11, .int ys, hv1, hv2, hv3, hv4], wI (cy 1) h1 4 (fc), wI (cy 1) h7 48 (fx), wO s0 7 [.ref s1, .ref s2, .int (nI sl), .int spl, .int svo, .int swi, .int sch], wI (cy 1) s1 10 (fa2_15), wI (cy 1) ro 20 (fa3_15), (er, .inl (cy 4, 4, .inr (.inr (.inr (.inr (eF (ea 0) (ea 1) (ea 2) (ea 3))))))), wO (ea 0) 2 [.ref (eg 0), .ref (ef 0), .int (et 0), .int (nI (el 0)), .int (nI (ei 0))], wI (cy 1) (eg 0) 10 (gc 0), wI (cy 1) (ef 0) 7 (xc 0), wO (ea 1) 2 [.ref (eg 1), .ref (ef 1), .int (et 1), .int (nI (el 1)), .int (nI (ei 1))], wI (cy 1) (eg 1) 10 (gc 1), wI (cy 1) (ef 1) 7 (xc 1), wO (ea 2) 2 [.ref (eg 2), .ref (ef 2), .int (et 2), .int (nI (el 2)), .int (nI (ei 2))], wI (cy 1) (eg 2) 10 (gc 2), wI (cy 1) (ef 2) 7 (xc 2), wO (ea 3) 2 [.ref (eg 3), .ref (ef 3), .int (et 3), .int (nI (el 3)), .int (nI (ei 3))], wI (cy 1) (eg 3) 10 (gc 3), wI (cy 1) (ef 3) 7 (xc 3)] H → va_D A [wO p0 6 [.ref p1, .ref er, .ref ro, .ref p2, .ref p3, .ref p4, .ref h0, .ref s0, .int (nI ch)], wI (cy 1) p3 4 (fne), wI (cy 1) p1 3 (fa1_15), wI (cy 1) p2 3 (fpc), wO h0 4 [.ref h1, .ref h2, .ref h3, .ref h4, .ref h5, .ref h6, .ref h7, .ref h8, .ref h9, .ref h10, .ref h11, .int ys, hv1, hv2, hv3, hv4], wI (cy 1) h1 4 (fc), wI (cy 1) h7 48 (fx), wO s0 7 [.ref s1, .ref s2, .int (nI sl), .int spl, .int svo, .int swi, .int sch], wI (cy 1) s1 10 (fa2_15), wI (cy 1) ro 20 (fa3_15), (er, .inl (cy 4, 4, .inr (.inr (.inr (.inr (eF (ea 0) (ea 1) (ea 2) (ea 3))))))), wO (ea 0) 2 [.ref (eg 0), .ref (ef 0), .int (et 0), .int (nI (el 0)), .int (nI (ei 0))], wI (cy 1) (eg 0) 10 (gc 0), wI (cy 1) (ef 0) 7 (xc 0), wO (ea 1) 2 [.ref (eg 1), .ref (ef 1), .int (et 1), .int (nI (el 1)), .int (nI (ei 1))], wI (cy 1) (eg 1) 10 (gc 1), wI (cy 1) (ef 1) 7 (xc 1), wO (ea 2) 2 [.ref (eg 2), .ref (ef 2), .int (et 2), .int (nI (el 2)), .int (nI (ei 2))], wI (cy 1) (eg 2) 10 (gc 2), wI (cy 1) (ef 2) 7 (xc 2), wO (ea 3) 2 [.ref (eg 3), .ref (ef 3), .int (et 3), .int (nI (el 3)), .int (nI (ei 3))], wI (cy 1) (eg 3) 10 (gc 3), wI (cy 1) (ef 3) 7 (xc 3)] → va_S A s.heap H locs → ∀ ls : Array Slot, lv_has ls 5 [(4, .int (nI wd15)), (3, .int (nI j_13)), (2, .int (nI j_11)), (0, .ref p0), (1, .int 1)] → W p l e (rmk 7 0 0) s m args below meth c H locs 0 0 Q (F0 m 38 ls []) := by
      try clear hP hD hS
      intro zn
      induction zn with
      | zero => intro wd15 fa1_15 fa2_15 fa3_15 _ _ _ hz; exact absurd hz (by omega)
      | succ zn ih15 =>
        intro wd15 fa1_15 fa2_15 fa3_15 ha3_15 ha4_15 hf0_15 hmu15 H locs hP hD hS ls hl
        refine lv_iload hx hb dX6_chooseWords_38 (lv_at hl 0 rfl) ?_
        refine lv_aload_n hx hb dX6_chooseWords_40 rfl (lv_at hl 3 rfl) ?_
        refine va_get (D := D) (ci := 6) (v := .ref h0) (C := RX6) (T := TX6) (N := 9) hx hb hg i_X6 hown hK hP 0 rfl rfl 6 (by decide) (hg _ m_591) (fun _ h9 => h9) rfl dX6_chooseWords_41 ?_
        refine va_get (D := D) (ci := 4) (v := .ref h1) (C := RX4) (T := TX4) (N := 16) hx hb hg i_X4 hown hK hP 4 rfl rfl 0 (by decide) (hg _ m_330) (fun _ h9 => h9) rfl dX6_chooseWords_44 ?_
        refine lv_iconst (v := 0) hx hb dX6_chooseWords_47 (by decide) ?_
        refine va_iald hx hb hK hP 5 1 rfl rfl (by unfold vp_in; decide) dX6_chooseWords_48 ?_
        refine lv_topi (fun y_16 hy_16 => ?_)
        obtain rfl : y_16 = nI c0 := hy_16.trans hcn.1
        refine lv_icmp_ge (tgt := 100) hx hb dX6_chooseWords_49 (by decide) (fun c_17 => ?_) (fun c_17 => ?_)
        · have q_18 : c0 ≤ wd15 := q_le (a := c0) (b := wd15) rfl rfl (by omega) (by omega) c_17
          refine lv_aload_n hx hb dX6_chooseWords_100 rfl (lv_at hl 3 rfl) ?_
          refine va_get (D := D) (ci := 6) (v := .ref s0) (C := RX6) (T := TX6) (N := 9) hx hb hg i_X6 hown hK hP 0 rfl rfl 7 (by decide) (hg _ m_592) (fun _ h9 => h9) rfl dX6_chooseWords_101 ?_
          refine va_get (D := D) (ci := 7) (v := .ref s1) (C := RX7) (T := TX7) (N := 7) hx hb hg i_X7 hown hK hP 7 rfl rfl 0 (by decide) (hg _ m_622) (fun _ h9 => h9) rfl dX6_chooseWords_104 ?_
          refine lv_iload_n hx hb dX6_chooseWords_107 rfl (lv_at hl 2 rfl) ?_
          refine lv_iload_n hx hb dX6_chooseWords_108 rfl (lv_at hl 1 rfl) ?_
          refine va_iast hx hb hK hP hD hS 8 1 rfl rfl (vp_in_nI (by omega) (by decide)) dX6_chooseWords_109 (fun H locs hP9 hD9 hS9 => ?_)
          clear hP hD hS
          have hP := hP9
          have hD := hD9
          have hS := hS9
          clear hP9 hD9 hS9
          obtain ⟨g_19, eg_19⟩ : ∃ y, upd fa2_15 (nI j_11 : Int32).toNatClampNeg (nI j_13) = y := ⟨_, rfl⟩
          rw [eg_19] at hP hD
          have hr_20 : rng g_19 10 7 := eg_19 ▸ rng_put ha3_15 (j := j_13) (by omega)
          replace hP : va_P D vwCl [wO p0 6 [.ref p1, .ref er, .ref ro, .ref p2, .ref p3, .ref p4, .ref h0, .ref s0, .int (nI ch)], wI (cy 1) p3 4 (fne), wI (cy 1) p1 3 (fa1_15), wI (cy 1) p2 3 (fpc), wO h0 4 [.ref h1, .ref h2, .ref h3, .ref h4, .ref h5, .ref h6, .ref h7, .ref h8, .ref h9, .ref h10, .ref h11, .int ys, hv1, hv2, hv3, hv4], wI (cy 1) h1 4 (fc), wI (cy 1) h7 48 (fx), wO s0 7 [.ref s1, .ref s2, .int (nI sl), .int spl, .int svo, .int swi, .int sch], wI (cy 1) s1 10 (g_19), wI (cy 1) ro 20 (fa3_15), (er, .inl (cy 4, 4, .inr (.inr (.inr (.inr (eF (ea 0) (ea 1) (ea 2) (ea 3))))))), wO (ea 0) 2 [.ref (eg 0), .ref (ef 0), .int (et 0), .int (nI (el 0)), .int (nI (ei 0))], wI (cy 1) (eg 0) 10 (gc 0), wI (cy 1) (ef 0) 7 (xc 0), wO (ea 1) 2 [.ref (eg 1), .ref (ef 1), .int (et 1), .int (nI (el 1)), .int (nI (ei 1))], wI (cy 1) (eg 1) 10 (gc 1), wI (cy 1) (ef 1) 7 (xc 1), wO (ea 2) 2 [.ref (eg 2), .ref (ef 2), .int (et 2), .int (nI (el 2)), .int (nI (ei 2))], wI (cy 1) (eg 2) 10 (gc 2), wI (cy 1) (ef 2) 7 (xc 2), wO (ea 3) 2 [.ref (eg 3), .ref (ef 3), .int (et 3), .int (nI (el 3)), .int (nI (ei 3))], wI (cy 1) (eg 3) 10 (gc 3), wI (cy 1) (ef 3) 7 (xc 3)] H := hP
          replace hD : va_D A [wO p0 6 [.ref p1, .ref er, .ref ro, .ref p2, .ref p3, .ref p4, .ref h0, .ref s0, .int (nI ch)], wI (cy 1) p3 4 (fne), wI (cy 1) p1 3 (fa1_15), wI (cy 1) p2 3 (fpc), wO h0 4 [.ref h1, .ref h2, .ref h3, .ref h4, .ref h5, .ref h6, .ref h7, .ref h8, .ref h9, .ref h10, .ref h11, .int ys, hv1, hv2, hv3, hv4], wI (cy 1) h1 4 (fc), wI (cy 1) h7 48 (fx), wO s0 7 [.ref s1, .ref s2, .int (nI sl), .int spl, .int svo, .int swi, .int sch], wI (cy 1) s1 10 (g_19), wI (cy 1) ro 20 (fa3_15), (er, .inl (cy 4, 4, .inr (.inr (.inr (.inr (eF (ea 0) (ea 1) (ea 2) (ea 3))))))), wO (ea 0) 2 [.ref (eg 0), .ref (ef 0), .int (et 0), .int (nI (el 0)), .int (nI (ei 0))], wI (cy 1) (eg 0) 10 (gc 0), wI (cy 1) (ef 0) 7 (xc 0), wO (ea 1) 2 [.ref (eg 1), .ref (ef 1), .int (et 1), .int (nI (el 1)), .int (nI (ei 1))], wI (cy 1) (eg 1) 10 (gc 1), wI (cy 1) (ef 1) 7 (xc 1), wO (ea 2) 2 [.ref (eg 2), .ref (ef 2), .int (et 2), .int (nI (el 2)), .int (nI (ei 2))], wI (cy 1) (eg 2) 10 (gc 2), wI (cy 1) (ef 2) 7 (xc 2), wO (ea 3) 2 [.ref (eg 3), .ref (ef 3), .int (et 3), .int (nI (el 3)), .int (nI (ei 3))], wI (cy 1) (eg 3) 10 (gc 3), wI (cy 1) (ef 3) 7 (xc 3)] := hD
          refine lv_iconst (v := 0) hx hb dX6_chooseWords_110 (by decide) ?_
          exact x_zret hQ hx hb hr hlocks hK hP hD hS rfl dX6_chooseWords_111 (fa1_15, g_19, fa3_15) (⟨(Or.inl rfl), hr_20, ha4_15⟩) [0, 1, 2, 3, 4, 5, 6, 7, 8, 9, 10, 11, 12, 13, 14, 15, 16, 17, 18, 19, 20, 21, 22] (by decide +kernel) rfl (Nat.le_of_ble_eq_true rfl) (Nat.le_of_ble_eq_true rfl)
        · have q_18 : wd15 < c0 := q_nle (a := c0) (b := wd15) rfl rfl (by omega) (by omega) c_17
          refine lv_iload hx hb dX6_chooseWords_52 (lv_at hl 0 rfl) ?_
          refine lv_iload_n hx hb dX6_chooseWords_54 rfl (lv_at hl 1 rfl) ?_
          refine lv_icmp_eq (tgt := 94) hx hb dX6_chooseWords_55 (by decide) (fun c_21 => ?_) (fun c_21 => ?_)
          · have q_22 : wd15 = j_13 := q_eq (a := wd15) (b := j_13) rfl rfl (by omega) (by omega) c_21
            refine lv_iinc (v := nI (wd15 + 1)) (lv' := [(4, .int (nI (wd15 + 1))), (3, .int (nI j_13)), (2, .int (nI j_11)), (0, .ref p0), (1, .int 1)]) hx hb dX6_chooseWords_94 hl (k := 0) rfl (nI_add wd15 1) (by decide) rfl (fun ls hl => ?_)
            refine lv_goto (tgt := 38) hx hb dX6_chooseWords_97 (by decide) ?_
            exact ih15  ((wd15 + 1)) fa1_15 fa2_15 fa3_15 ha3_15 ha4_15 (by omega) (by omega) _ _ (hP.sub [0, 1, 2, 3, 4, 5, 6, 7, 8, 9, 10, 11, 12, 13, 14, 15, 16, 17, 18, 19, 20, 21, 22] rfl) (hD.sub [0, 1, 2, 3, 4, 5, 6, 7, 8, 9, 10, 11, 12, 13, 14, 15, 16, 17, 18, 19, 20, 21, 22] (by decide +kernel) rfl) hS ls (lv_sub hl [0, 1, 2, 3, 4] rfl)
          · have q_22 : ¬ wd15 = j_13 := q_ne (a := wd15) (b := j_13) rfl rfl (by omega) (by omega) c_21
            refine lv_aload_n hx hb dX6_chooseWords_58 rfl (lv_at hl 3 rfl) ?_
            refine va_get (D := D) (ci := 6) (v := .ref s0) (C := RX6) (T := TX6) (N := 9) hx hb hg i_X6 hown hK hP 0 rfl rfl 7 (by decide) (hg _ m_592) (fun _ h9 => h9) rfl dX6_chooseWords_59 ?_
            refine va_get (D := D) (ci := 7) (v := .ref s1) (C := RX7) (T := TX7) (N := 7) hx hb hg i_X7 hown hK hP 7 rfl rfl 0 (by decide) (hg _ m_622) (fun _ h9 => h9) rfl dX6_chooseWords_62 ?_
            refine lv_iload_n hx hb dX6_chooseWords_65 rfl (lv_at hl 2 rfl) ?_
            refine lv_iload hx hb dX6_chooseWords_66 (lv_at hl 0 rfl) ?_
            refine va_iast hx hb hK hP hD hS 8 1 rfl rfl (vp_in_nI (by omega) (by decide)) dX6_chooseWords_68 (fun H locs hP9 hD9 hS9 => ?_)
            clear hP hD hS
            have hP := hP9
            have hD := hD9
            have hS := hS9
            clear hP9 hD9 hS9
            obtain ⟨g_23, eg_23⟩ : ∃ y, upd fa2_15 (nI j_11 : Int32).toNatClampNeg (nI wd15) = y := ⟨_, rfl⟩
            rw [eg_23] at hP hD
            have hr_24 : rng g_23 10 7 := eg_23 ▸ rng_put ha3_15 (j := wd15) (by omega)
            replace hP : va_P D vwCl [wO p0 6 [.ref p1, .ref er, .ref ro, .ref p2, .ref p3, .ref p4, .ref h0, .ref s0, .int (nI ch)], wI (cy 1) p3 4 (fne), wI (cy 1) p1 3 (fa1_15), wI (cy 1) p2 3 (fpc), wO h0 4 [.ref h1, .ref h2, .ref h3, .ref h4, .ref h5, .ref h6, .ref h7, .ref h8, .ref h9, .ref h10, .ref h11, .int ys, hv1, hv2, hv3, hv4], wI (cy 1) h1 4 (fc), wI (cy 1) h7 48 (fx), wO s0 7 [.ref s1, .ref s2, .int (nI sl), .int spl, .int svo, .int swi, .int sch], wI (cy 1) s1 10 (g_23), wI (cy 1) ro 20 (fa3_15), (er, .inl (cy 4, 4, .inr (.inr (.inr (.inr (eF (ea 0) (ea 1) (ea 2) (ea 3))))))), wO (ea 0) 2 [.ref (eg 0), .ref (ef 0), .int (et 0), .int (nI (el 0)), .int (nI (ei 0))], wI (cy 1) (eg 0) 10 (gc 0), wI (cy 1) (ef 0) 7 (xc 0), wO (ea 1) 2 [.ref (eg 1), .ref (ef 1), .int (et 1), .int (nI (el 1)), .int (nI (ei 1))], wI (cy 1) (eg 1) 10 (gc 1), wI (cy 1) (ef 1) 7 (xc 1), wO (ea 2) 2 [.ref (eg 2), .ref (ef 2), .int (et 2), .int (nI (el 2)), .int (nI (ei 2))], wI (cy 1) (eg 2) 10 (gc 2), wI (cy 1) (ef 2) 7 (xc 2), wO (ea 3) 2 [.ref (eg 3), .ref (ef 3), .int (et 3), .int (nI (el 3)), .int (nI (ei 3))], wI (cy 1) (eg 3) 10 (gc 3), wI (cy 1) (ef 3) 7 (xc 3)] H := hP
            replace hD : va_D A [wO p0 6 [.ref p1, .ref er, .ref ro, .ref p2, .ref p3, .ref p4, .ref h0, .ref s0, .int (nI ch)], wI (cy 1) p3 4 (fne), wI (cy 1) p1 3 (fa1_15), wI (cy 1) p2 3 (fpc), wO h0 4 [.ref h1, .ref h2, .ref h3, .ref h4, .ref h5, .ref h6, .ref h7, .ref h8, .ref h9, .ref h10, .ref h11, .int ys, hv1, hv2, hv3, hv4], wI (cy 1) h1 4 (fc), wI (cy 1) h7 48 (fx), wO s0 7 [.ref s1, .ref s2, .int (nI sl), .int spl, .int svo, .int swi, .int sch], wI (cy 1) s1 10 (g_23), wI (cy 1) ro 20 (fa3_15), (er, .inl (cy 4, 4, .inr (.inr (.inr (.inr (eF (ea 0) (ea 1) (ea 2) (ea 3))))))), wO (ea 0) 2 [.ref (eg 0), .ref (ef 0), .int (et 0), .int (nI (el 0)), .int (nI (ei 0))], wI (cy 1) (eg 0) 10 (gc 0), wI (cy 1) (ef 0) 7 (xc 0), wO (ea 1) 2 [.ref (eg 1), .ref (ef 1), .int (et 1), .int (nI (el 1)), .int (nI (ei 1))], wI (cy 1) (eg 1) 10 (gc 1), wI (cy 1) (ef 1) 7 (xc 1), wO (ea 2) 2 [.ref (eg 2), .ref (ef 2), .int (et 2), .int (nI (el 2)), .int (nI (ei 2))], wI (cy 1) (eg 2) 10 (gc 2), wI (cy 1) (ef 2) 7 (xc 2), wO (ea 3) 2 [.ref (eg 3), .ref (ef 3), .int (et 3), .int (nI (el 3)), .int (nI (ei 3))], wI (cy 1) (eg 3) 10 (gc 3), wI (cy 1) (ef 3) 7 (xc 3)] := hD
            refine lv_aload_n hx hb dX6_chooseWords_69 rfl (lv_at hl 3 rfl) ?_
            refine va_get (D := D) (ci := 6) (v := .ref p1) (C := RX6) (T := TX6) (N := 9) hx hb hg i_X6 hown hK hP 0 rfl rfl 0 (by decide) (hg _ m_584) (fun _ h9 => h9) rfl dX6_chooseWords_70 ?_
            refine lv_iload_n hx hb dX6_chooseWords_73 rfl (lv_at hl 4 rfl) ?_
            refine lv_bipush (v := 10) hx hb dX6_chooseWords_74 (by decide) ?_
            refine lv_iload_n hx hb dX6_chooseWords_76 rfl (lv_at hl 2 rfl) ?_
            refine lv_imul hx hb dX6_chooseWords_77 ?_
            refine lv_topi (fun y_25 hy_25 => ?_)
            obtain rfl : y_25 = nI (10 * j_11) := hy_25.trans (pk_mul 10 j_11)
            refine lv_iload hx hb dX6_chooseWords_78 (lv_at hl 0 rfl) ?_
            refine lv_iadd hx hb dX6_chooseWords_80 ?_
            refine lv_topi (fun y_26 hy_26 => ?_)
            obtain rfl : y_26 = nI ((10 * j_11) + wd15) := hy_26.trans (nI_add ((10 * j_11)) wd15)
            refine va_iast hx hb hK hP hD hS 2 1 rfl rfl (by unfold vp_in; decide) dX6_chooseWords_81 (fun H locs hP9 hD9 hS9 => ?_)
            clear hP hD hS
            obtain ⟨g_27, eg_27⟩ : ∃ y, upd fa1_15 (1 : Int32).toNatClampNeg (nI ((10 * j_11) + wd15)) = y := ⟨_, rfl⟩
            rw [eg_27] at hP9 hD9
            refine reW [wO p0 6 [.ref p1, .ref er, .ref ro, .ref p2, .ref p3, .ref p4, .ref h0, .ref s0, .int (nI ch)], wI (cy 1) p3 4 (fne), wI (cy 1) p1 3 (g_27), wI (cy 1) p2 3 (fpc), wO h0 4 [.ref h1, .ref h2, .ref h3, .ref h4, .ref h5, .ref h6, .ref h7, .ref h8, .ref h9, .ref h10, .ref h11, .int ys, hv1, hv2, hv3, hv4], wI (cy 1) h1 4 (fc), wI (cy 1) h7 48 (fx), wO s0 7 [.ref s1, .ref s2, .int (nI sl), .int spl, .int svo, .int swi, .int sch], wI (cy 1) s1 10 (g_23), wI (cy 1) ro 20 (fa3_15), (er, .inl (cy 4, 4, .inr (.inr (.inr (.inr (eF (ea 0) (ea 1) (ea 2) (ea 3))))))), wO (ea 0) 2 [.ref (eg 0), .ref (ef 0), .int (et 0), .int (nI (el 0)), .int (nI (ei 0))], wI (cy 1) (eg 0) 10 (gc 0), wI (cy 1) (ef 0) 7 (xc 0), wO (ea 1) 2 [.ref (eg 1), .ref (ef 1), .int (et 1), .int (nI (el 1)), .int (nI (ei 1))], wI (cy 1) (eg 1) 10 (gc 1), wI (cy 1) (ef 1) 7 (xc 1), wO (ea 2) 2 [.ref (eg 2), .ref (ef 2), .int (et 2), .int (nI (el 2)), .int (nI (ei 2))], wI (cy 1) (eg 2) 10 (gc 2), wI (cy 1) (ef 2) 7 (xc 2), wO (ea 3) 2 [.ref (eg 3), .ref (ef 3), .int (et 3), .int (nI (el 3)), .int (nI (ei 3))], wI (cy 1) (eg 3) 10 (gc 3), wI (cy 1) (ef 3) 7 (xc 3)] hP9 hD9 hS9 (fun hP hD hS => ?_)
            clear hP9 hD9 hS9
            refine lv_aload_n hx hb dX6_chooseWords_82 rfl (lv_at hl 3 rfl) ?_
            refine lv_iload_n hx hb dX6_chooseWords_83 rfl (lv_at hl 4 rfl) ?_
            refine lv_iconst (v := 1) hx hb dX6_chooseWords_84 (by decide) ?_
            refine lv_iadd hx hb dX6_chooseWords_85 ?_
            refine lv_topi (fun y_28 hy_28 => ?_)
            obtain rfl : y_28 = 2 := hy_28.trans (by decide +kernel)
            refine x_callVi (q := (RX6, TX6, 9)) (ci := 6) (q0 := 0) (wr := []) (rest := []) ⟨hx, hb, hml, hown, hg, hl.1⟩ k_X6_73 (s_chooseWords2 l D cy p0 p1 p2 p3 p4 er ro ch fne g_27 fpc h0 h1 h2 h3 h4 h5 h6 h7 h8 h9 h10 h11 hv1 hv2 hv3 hv4 ys fc c0 c1 c2 c3 fx s0 s1 s2 sl spl svo swi sch g_23 fa3_15 ea eg ef et el ei gc xc (hne) (hpc) (by omega) (hcn) (by omega) (by omega) (by omega) (by omega) (hnx) (fun i9 h9 => by rcases (show i9 = 0 ∨ i9 = 1 ∨ i9 = 2 ∨ i9 = 3 by omega) with rfl | rfl | rfl | rfl <;> omega) (by omega) (hr_24) (ha4_15)) E0_blind hK hP hD hS hA [0, 1, 2, 3, 4, 5, 6, 7, 8, 9, 10, 11, 12, 13, 14, 15, 16, 17, 18, 19, 20, 21, 22] [] ⟨rfl, rfl, by decide +kernel, by decide +kernel, by decide +kernel⟩ rfl rfl (fun _ _ _ => trivial) dX6_chooseWords_86 rfl rfl (Nat.le_of_ble_eq_true rfl) ⟨Nat.le_of_ble_eq_true rfl, Nat.le_of_ble_eq_true rfl⟩ ⟨Nat.le_of_ble_eq_true rfl, Nat.le_of_ble_eq_true rfl⟩ (fun zr29 zu29 H locs hw29 hP9 hD9 hS9 => ?_)
            clear hP hD hS
            obtain ⟨ffd2_30, fw2_31, fr2_32⟩ := zu29
            refine reW [wO p0 6 [.ref p1, .ref er, .ref ro, .ref p2, .ref p3, .ref p4, .ref h0, .ref s0, .int (nI ch)], wI (cy 1) p3 4 (fne), wI (cy 1) p1 3 (ffd2_30), wI (cy 1) p2 3 (fpc), wO h0 4 [.ref h1, .ref h2, .ref h3, .ref h4, .ref h5, .ref h6, .ref h7, .ref h8, .ref h9, .ref h10, .ref h11, .int ys, hv1, hv2, hv3, hv4], wI (cy 1) h1 4 (fc), wI (cy 1) h7 48 (fx), wO s0 7 [.ref s1, .ref s2, .int (nI sl), .int spl, .int svo, .int swi, .int sch], wI (cy 1) s1 10 (fw2_31), wI (cy 1) ro 20 (fr2_32), (er, .inl (cy 4, 4, .inr (.inr (.inr (.inr (eF (ea 0) (ea 1) (ea 2) (ea 3))))))), wO (ea 0) 2 [.ref (eg 0), .ref (ef 0), .int (et 0), .int (nI (el 0)), .int (nI (ei 0))], wI (cy 1) (eg 0) 10 (gc 0), wI (cy 1) (ef 0) 7 (xc 0), wO (ea 1) 2 [.ref (eg 1), .ref (ef 1), .int (et 1), .int (nI (el 1)), .int (nI (ei 1))], wI (cy 1) (eg 1) 10 (gc 1), wI (cy 1) (ef 1) 7 (xc 1), wO (ea 2) 2 [.ref (eg 2), .ref (ef 2), .int (et 2), .int (nI (el 2)), .int (nI (ei 2))], wI (cy 1) (eg 2) 10 (gc 2), wI (cy 1) (ef 2) 7 (xc 2), wO (ea 3) 2 [.ref (eg 3), .ref (ef 3), .int (et 3), .int (nI (el 3)), .int (nI (ei 3))], wI (cy 1) (eg 3) 10 (gc 3), wI (cy 1) (ef 3) 7 (xc 3)] hP9 hD9 hS9 (fun hP hD hS => ?_)
            clear hP9 hD9 hS9
            refine W.widen (k := 0) (n := 0) (Nat.le_of_ble_eq_true rfl) (Nat.le_of_ble_eq_true rfl) ?_
            replace hw29 : (zr29 = 0 ∨ zr29 = 1) ∧ (rng fw2_31 10 7) ∧ (rng fr2_32 20 7) := hw29
            obtain ⟨f_33, f_34, f_35⟩ := hw29
            refine lv_if_eq (tgt := 94) hx hb dX6_chooseWords_89 (by decide) (fun c_89 => ?_) (fun c_89 => ?_)
            · refine lv_iinc (v := nI (wd15 + 1)) (lv' := [(4, .int (nI (wd15 + 1))), (3, .int (nI j_13)), (2, .int (nI j_11)), (0, .ref p0), (1, .int 1)]) hx hb dX6_chooseWords_94 hl (k := 0) rfl (nI_add wd15 1) (by decide) rfl (fun ls hl => ?_)
              refine lv_goto (tgt := 38) hx hb dX6_chooseWords_97 (by decide) ?_
              exact ih15  ((wd15 + 1)) ffd2_30 fw2_31 fr2_32 f_34 f_35 (by omega) (by omega) _ _ (hP.sub [0, 1, 2, 3, 4, 5, 6, 7, 8, 9, 10, 11, 12, 13, 14, 15, 16, 17, 18, 19, 20, 21, 22] rfl) (hD.sub [0, 1, 2, 3, 4, 5, 6, 7, 8, 9, 10, 11, 12, 13, 14, 15, 16, 17, 18, 19, 20, 21, 22] (by decide +kernel) rfl) hS ls (lv_sub hl [0, 1, 2, 3, 4] rfl)
            · refine lv_iconst (v := 1) hx hb dX6_chooseWords_92 (by decide) ?_
              exact x_zret hQ hx hb hr hlocks hK hP hD hS rfl dX6_chooseWords_93 (ffd2_30, fw2_31, fr2_32) (⟨(Or.inr rfl), f_34, f_35⟩) [0, 1, 2, 3, 4, 5, 6, 7, 8, 9, 10, 11, 12, 13, 14, 15, 16, 17, 18, 19, 20, 21, 22] (by decide +kernel) rfl (Nat.le_of_ble_eq_true rfl) (Nat.le_of_ble_eq_true rfl)
    exact loop15 _ 0 ffd fw fr hsw hrw (by omega) (Nat.le_refl _) _ _ (hP.sub [0, 1, 2, 3, 4, 5, 6, 7, 8, 9, 10, 11, 12, 13, 14, 15, 16, 17, 18, 19, 20, 21, 22] rfl) (hD.sub [0, 1, 2, 3, 4, 5, 6, 7, 8, 9, 10, 11, 12, 13, 14, 15, 16, 17, 18, 19, 20, 21, 22] (by decide +kernel) rfl) hS ls (lv_sub hl [0, 1, 2, 3, 4] rfl)
set_option maxHeartbeats 1000000 in
set_option maxRecDepth 100000 in
theorem s_chooseWords0 (l : Launch) (D : va_G) (cy : Nat → ClassId) (p0 : Nat) (p1 : Nat) (p2 : Nat) (p3 : Nat) (p4 : Nat) (er : Nat) (ro : Nat) (ch : Nat) (fne : Nat → Int32) (ffd : Nat → Int32) (fpc : Nat → Int32) (h0 : Nat) (h1 : Nat) (h2 : Nat) (h3 : Nat) (h4 : Nat) (h5 : Nat) (h6 : Nat) (h7 : Nat) (h8 : Nat) (h9 : Nat) (h10 : Nat) (h11 : Nat) (hv1 : Value) (hv2 : Value) (hv3 : Value) (hv4 : Value) (ys : Int32) (fc : Nat → Int32) (c0 : Nat) (c1 : Nat) (c2 : Nat) (c3 : Nat) (fx : Nat → Int32) (s0 : Nat) (s1 : Nat) (s2 : Nat) (sl : Nat) (spl : Int32) (svo : Int32) (swi : Int32) (sch : Int32) (fw : Nat → Int32) (fr : Nat → Int32) (ea : Nat → Nat) (eg : Nat → Nat) (ef : Nat → Nat) (et : Nat → Int32) (el : Nat → Nat) (ei : Nat → Nat) (gc : Nat → Nat → Int32) (xc : Nat → Nat → Int32) (hne : nOK fne c1) (hpc : rng fpc 3 9) (hch : ch ≤ 3) (hcn : cntOK fc c0 c1 c2 c3) (hc0 : c0 ≤ 8) (hc1 : c1 ≤ 4) (hc2 : c2 ≤ 4) (hc3 : c3 ≤ 6) (hnx : rng fx 48 5) (hel : ∀ i9, i9 < 4 → el i9 ≤ 10) (hsl : sl ≤ 10) (hsw : rng fw 10 7) (hrw : rng fr 20 7) : XMi l D (tyL cy) E0 yX6_chooseWords cX6_chooseWords 5 (some .boolean) (rmk 8 0 0) [.ref p0, .int 0] [wO p0 6 [.ref p1, .ref er, .ref ro, .ref p2, .ref p3, .ref p4, .ref h0, .ref s0, .int (nI ch)], wI (cy 1) p3 4 (fne), wI (cy 1) p1 3 (ffd), wI (cy 1) p2 3 (fpc), wO h0 4 [.ref h1, .ref h2, .ref h3, .ref h4, .ref h5, .ref h6, .ref h7, .ref h8, .ref h9, .ref h10, .ref h11, .int ys, hv1, hv2, hv3, hv4], wI (cy 1) h1 4 (fc), wI (cy 1) h7 48 (fx), wO s0 7 [.ref s1, .ref s2, .int (nI sl), .int spl, .int svo, .int swi, .int sch], wI (cy 1) s1 10 (fw), wI (cy 1) ro 20 (fr), (er, .inl (cy 4, 4, .inr (.inr (.inr (.inr (eF (ea 0) (ea 1) (ea 2) (ea 3))))))), wO (ea 0) 2 [.ref (eg 0), .ref (ef 0), .int (et 0), .int (nI (el 0)), .int (nI (ei 0))], wI (cy 1) (eg 0) 10 (gc 0), wI (cy 1) (ef 0) 7 (xc 0), wO (ea 1) 2 [.ref (eg 1), .ref (ef 1), .int (et 1), .int (nI (el 1)), .int (nI (ei 1))], wI (cy 1) (eg 1) 10 (gc 1), wI (cy 1) (ef 1) 7 (xc 1), wO (ea 2) 2 [.ref (eg 2), .ref (ef 2), .int (et 2), .int (nI (el 2)), .int (nI (ei 2))], wI (cy 1) (eg 2) 10 (gc 2), wI (cy 1) (ef 2) 7 (xc 2), wO (ea 3) 2 [.ref (eg 3), .ref (ef 3), .int (et 3), .int (nI (el 3)), .int (nI (ei 3))], wI (cy 1) (eg 3) 10 (gc 3), wI (cy 1) (ef 3) 7 (xc 3)] (fun (r : Int32) (u : (Nat → Int32) × (Nat → Int32) × (Nat → Int32)) => (r = 0 ∨ r = 1) ∧ (rng u.2.1 10 7) ∧ (rng u.2.2 20 7)) (fun (u : (Nat → Int32) × (Nat → Int32) × (Nat → Int32)) => [wO p0 6 [.ref p1, .ref er, .ref ro, .ref p2, .ref p3, .ref p4, .ref h0, .ref s0, .int (nI ch)], wI (cy 1) p3 4 (fne), wI (cy 1) p1 3 (u.1), wI (cy 1) p2 3 (fpc), wO h0 4 [.ref h1, .ref h2, .ref h3, .ref h4, .ref h5, .ref h6, .ref h7, .ref h8, .ref h9, .ref h10, .ref h11, .int ys, hv1, hv2, hv3, hv4], wI (cy 1) h1 4 (fc), wI (cy 1) h7 48 (fx), wO s0 7 [.ref s1, .ref s2, .int (nI sl), .int spl, .int svo, .int swi, .int sch], wI (cy 1) s1 10 (u.2.1), wI (cy 1) ro 20 (u.2.2), (er, .inl (cy 4, 4, .inr (.inr (.inr (.inr (eF (ea 0) (ea 1) (ea 2) (ea 3))))))), wO (ea 0) 2 [.ref (eg 0), .ref (ef 0), .int (et 0), .int (nI (el 0)), .int (nI (ei 0))], wI (cy 1) (eg 0) 10 (gc 0), wI (cy 1) (ef 0) 7 (xc 0), wO (ea 1) 2 [.ref (eg 1), .ref (ef 1), .int (et 1), .int (nI (el 1)), .int (nI (ei 1))], wI (cy 1) (eg 1) 10 (gc 1), wI (cy 1) (ef 1) 7 (xc 1), wO (ea 2) 2 [.ref (eg 2), .ref (ef 2), .int (et 2), .int (nI (el 2)), .int (nI (ei 2))], wI (cy 1) (eg 2) 10 (gc 2), wI (cy 1) (ef 2) 7 (xc 2), wO (ea 3) 2 [.ref (eg 3), .ref (ef 3), .int (et 3), .int (nI (el 3)), .int (nI (ei 3))], wI (cy 1) (eg 3) 10 (gc 3), wI (cy 1) (ef 3) 7 (xc 3)]) := by
  refine XMi.start (by decide) (Nat.le_of_ble_eq_true rfl) ?_
  intro p e s m below meth c args A ls Q hat hQ
  obtain ⟨hx, hb, hr, hml, hown, hg, hlocks, hin, hK, hA, hP, hD, hS, hE, hl⟩ := hat
  have hown : s.vm.findClass RX6 = some m.cls := hown
  have hl : lv_has ls 5 [(0, .ref p0), (1, .int 0)] := hl
  have hk_1 := hel 0 (by decide)
  have hk_2 := hel 1 (by decide)
  have hk_3 := hel 2 (by decide)
  have hk_4 := hel 3 (by decide)
  refine lv_iload_n hx hb dX6_chooseWords_0 rfl (lv_at hl 1 rfl) ?_
  refine lv_aload_n hx hb dX6_chooseWords_1 rfl (lv_at hl 0 rfl) ?_
  refine va_get (D := D) (ci := 6) (v := .int (nI ch)) (C := RX6) (T := TX6) (N := 9) hx hb hg i_X6 hown hK hP 0 rfl rfl 8 (by decide) (hg _ m_593) (fun _ h9 => h9) rfl dX6_chooseWords_2 ?_
  refine lv_icmp_ge (tgt := 13) hx hb dX6_chooseWords_5 (by decide) (fun c_5 => ?_) (fun c_5 => ?_)
  · have q_6 : ch ≤ 0 := q_le (a := ch) (b := 0) rfl rfl (by omega) (by omega) c_5
    refine lv_aload_n hx hb dX6_chooseWords_13 rfl (lv_at hl 0 rfl) ?_
    refine x_callVi (q := (RX6, TX6, 9)) (ci := 6) (q0 := 0) (wr := [wI (cy 1) p1 3 (ffd), wI (cy 1) p2 3 (fpc)]) (rest := []) ⟨hx, hb, hml, hown, hg, hl.1⟩ k_X6_113 (s_isYesNow l D cy p0 p1 p2 p3 p4 er ro ch fne h0 h1 h2 h3 h4 h5 h6 h7 h8 h9 h10 h11 hv1 hv2 hv3 hv4 ys fc c0 c1 c2 c3 fx s0 s1 s2 sl spl svo swi sch fw fr ea eg ef et el ei gc xc (hne) (hcn) (by omega) (by omega) (by omega) (by omega) (hnx) (fun i9 h9 => by rcases (show i9 = 0 ∨ i9 = 1 ∨ i9 = 2 ∨ i9 = 3 by omega) with rfl | rfl | rfl | rfl <;> omega) (by omega) (hsw) (hrw)) E0_blind hK hP hD hS hA [0, 1, 4, 5, 6, 7, 8, 9, 10, 11, 12, 13, 14, 15, 16, 17, 18, 19, 20, 21, 22] [2, 3] ⟨rfl, rfl, by decide +kernel, by decide +kernel, by decide +kernel⟩ rfl rfl (fun _ _ _ => trivial) dX6_chooseWords_14 rfl rfl (Nat.le_of_ble_eq_true rfl) ⟨Nat.le_of_ble_eq_true rfl, Nat.le_of_ble_eq_true rfl⟩ ⟨Nat.le_of_ble_eq_true rfl, Nat.le_of_ble_eq_true rfl⟩ (fun zr7 zu7 H locs hw7 hP9 hD9 hS9 => ?_)
    clear hP hD hS
    obtain ⟨fr2_8, rfl⟩ : ∃ z, z = zu7 := ⟨_, rfl⟩
    refine reW [wI (cy 1) p1 3 (ffd), wI (cy 1) p2 3 (fpc), wO p0 6 [.ref p1, .ref er, .ref ro, .ref p2, .ref p3, .ref p4, .ref h0, .ref s0, .int (nI ch)], wI (cy 1) p3 4 (fne), wO h0 4 [.ref h1, .ref h2, .ref h3, .ref h4, .ref h5, .ref h6, .ref h7, .ref h8, .ref h9, .ref h10, .ref h11, .int ys, hv1, hv2, hv3, hv4], wI (cy 1) h1 4 (fc), wI (cy 1) h7 48 (fx), wO s0 7 [.ref s1, .ref s2, .int (nI sl), .int spl, .int svo, .int swi, .int sch], wI (cy 1) s1 10 (fw), wI (cy 1) ro 20 (fr2_8), (er, .inl (cy 4, 4, .inr (.inr (.inr (.inr (eF (ea 0) (ea 1) (ea 2) (ea 3))))))), wO (ea 0) 2 [.ref (eg 0), .ref (ef 0), .int (et 0), .int (nI (el 0)), .int (nI (ei 0))], wI (cy 1) (eg 0) 10 (gc 0), wI (cy 1) (ef 0) 7 (xc 0), wO (ea 1) 2 [.ref (eg 1), .ref (ef 1), .int (et 1), .int (nI (el 1)), .int (nI (ei 1))], wI (cy 1) (eg 1) 10 (gc 1), wI (cy 1) (ef 1) 7 (xc 1), wO (ea 2) 2 [.ref (eg 2), .ref (ef 2), .int (et 2), .int (nI (el 2)), .int (nI (ei 2))], wI (cy 1) (eg 2) 10 (gc 2), wI (cy 1) (ef 2) 7 (xc 2), wO (ea 3) 2 [.ref (eg 3), .ref (ef 3), .int (et 3), .int (nI (el 3)), .int (nI (ei 3))], wI (cy 1) (eg 3) 10 (gc 3), wI (cy 1) (ef 3) 7 (xc 3)] hP9 hD9 hS9 (fun hP hD hS => ?_)
    clear hP9 hD9 hS9
    refine W.widen (k := 0) (n := 0) (Nat.le_of_ble_eq_true rfl) (Nat.le_of_ble_eq_true rfl) ?_
    replace hw7 : (zr7 = 0 ∨ zr7 = 1) ∧ (rng fr2_8 20 7) := hw7
    obtain ⟨f_9, f_10⟩ := hw7
    exact x_zret hQ hx hb hr hlocks hK hP hD hS (narB f_9) dX6_chooseWords_17 (ffd, fw, fr2_8) (⟨f_9, hsw, f_10⟩) [2, 3, 0, 1, 4, 5, 6, 7, 8, 9, 10, 11, 12, 13, 14, 15, 16, 17, 18, 19, 20, 21, 22] (by decide +kernel) rfl (Nat.le_of_ble_eq_true rfl) (Nat.le_of_ble_eq_true rfl)
  · have q_6 : 0 < ch := q_nle (a := ch) (b := 0) rfl rfl (by omega) (by omega) c_5
    refine lv_iload_n hx hb dX6_chooseWords_8 rfl (lv_at hl 1 rfl) ?_
    refine lv_iconst (v := 3) hx hb dX6_chooseWords_9 (by decide) ?_
    refine lv_icmp_lt (tgt := 18) hx hb dX6_chooseWords_10 (by decide) (fun _ => ?_) (fun h => absurd (by decide) h)
    refine lv_aload_n hx hb dX6_chooseWords_18 rfl (lv_at hl 0 rfl) ?_
    refine va_get (D := D) (ci := 6) (v := .ref p2) (C := RX6) (T := TX6) (N := 9) hx hb hg i_X6 hown hK hP 0 rfl rfl 3 (by decide) (hg _ m_588) (fun _ h9 => h9) rfl dX6_chooseWords_19 ?_
    refine lv_iload_n hx hb dX6_chooseWords_22 rfl (lv_at hl 1 rfl) ?_
    refine va_iald hx hb hK hP 3 1 rfl rfl (by unfold vp_in; decide) dX6_chooseWords_23 ?_
    obtain ⟨j_11, hj_11, ej_11⟩ := rng_at hpc (i := 0) (by omega) (by decide)
    refine lv_topi (fun y_12 hy_12 => ?_)
    obtain rfl : y_12 = nI j_11 := hy_12.trans ej_11
    refine lv_istore_n (lv' := [(2, .int (nI j_11)), (0, .ref p0), (1, .int 0)]) hx hb dX6_chooseWords_24 rfl hl (by decide) rfl (fun ls hl => ?_)
    refine lv_aload_n hx hb dX6_chooseWords_25 rfl (lv_at hl 1 rfl) ?_
    refine va_get (D := D) (ci := 6) (v := .ref s0) (C := RX6) (T := TX6) (N := 9) hx hb hg i_X6 hown hK hP 0 rfl rfl 7 (by decide) (hg _ m_592) (fun _ h9 => h9) rfl dX6_chooseWords_26 ?_
    refine va_get (D := D) (ci := 7) (v := .ref s1) (C := RX7) (T := TX7) (N := 7) hx hb hg i_X7 hown hK hP 7 rfl rfl 0 (by decide) (hg _ m_622) (fun _ h9 => h9) rfl dX6_chooseWords_29 ?_
    refine lv_iload_n hx hb dX6_chooseWords_32 rfl (lv_at hl 0 rfl) ?_
    refine va_iald hx hb hK hP 8 1 rfl rfl (vp_in_nI (by omega) (by decide)) dX6_chooseWords_33 ?_
    obtain ⟨j_13, hj_13, ej_13⟩ := rng_at hsw (i := j_11) (by omega) (by decide)
    refine lv_topi (fun y_14 hy_14 => ?_)
    obtain rfl : y_14 = nI j_13 := hy_14.trans ej_13
    refine lv_istore_n (lv' := [(3, .int (nI j_13)), (2, .int (nI j_11)), (0, .ref p0), (1, .int 0)]) hx hb dX6_chooseWords_34 rfl hl (by decide) rfl (fun ls hl => ?_)
    refine lv_iconst (v := 0) hx hb dX6_chooseWords_35 (by decide) ?_
    refine lv_istore (lv' := [(4, .int 0), (3, .int (nI j_13)), (2, .int (nI j_11)), (0, .ref p0), (1, .int 0)]) hx hb dX6_chooseWords_36 hl (by decide) rfl (fun ls hl => ?_)
    have loop15 : ∀ (zn : Nat) (wd15 : Nat) (fa1_15 : Nat → Int32) (fa2_15 : Nat → Int32) (fa3_15 : Nat → Int32), (rng fa2_15 10 7) → (rng fa3_15 20 7) → (wd15 ≤ c0) → c0 - wd15 + 1 ≤ zn → ∀ (H : Heap) (locs : List Loc), va_P D vwCl [wO p0 6 [.ref p1, .ref er, .ref ro, .ref p2, .ref p3, .ref p4, .ref h0, .ref s0, .int (nI ch)], wI (cy 1) p3 4 (fne), wI (cy 1) p1 3 (fa1_15), wI (cy 1) p2 3 (fpc), wO h0 4 [.ref h1, .ref h2, .ref h3, .ref h4, .ref h5, .ref h6, .ref h7, .ref h8, .ref h9, .ref h10, .ref h11, .int ys, hv1, hv2, hv3, hv4], wI (cy 1) h1 4 (fc), wI (cy 1) h7 48 (fx), wO s0 7 [.ref s1, .ref s2, .int (nI sl), .int spl, .int svo, .int swi, .int sch], wI (cy 1) s1 10 (fa2_15), wI (cy 1) ro 20 (fa3_15), (er, .inl (cy 4, 4, .inr (.inr (.inr (.inr (eF (ea 0) (ea 1) (ea 2) (ea 3))))))), wO (ea 0) 2 [.ref (eg 0), .ref (ef 0), .int (et 0), .int (nI (el 0)), .int (nI (ei 0))], wI (cy 1) (eg 0) 10 (gc 0), wI (cy 1) (ef 0) 7 (xc 0), wO (ea 1) 2 [.ref (eg 1), .ref (ef 1), .int (et 1), .int (nI (el 1)), .int (nI (ei 1))], wI (cy 1) (eg 1) 10 (gc 1), wI (cy 1) (ef 1) 7 (xc 1), wO (ea 2) 2 [.ref (eg 2), .ref (ef 2), .int (et 2), .int (nI (el 2)), .int (nI (ei 2))], wI (cy 1) (eg 2) 10 (gc 2), wI (cy 1) (ef 2) 7 (xc 2), wO (ea 3) 2 [.ref (eg 3), .ref (ef 3), .int (et 3), .int (nI (el 3)), .int (nI (ei 3))], wI (cy 1) (eg 3) 10 (gc 3), wI (cy 1) (ef 3) 7 (xc 3)] H → va_D A [wO p0 6 [.ref p1, .ref er, .ref ro, .ref p2, .ref p3, .ref p4, .ref h0, .ref s0, .int (nI ch)], wI (cy 1) p3 4 (fne), wI (cy 1) p1 3 (fa1_15), wI (cy 1) p2 3 (fpc), wO h0 4 [.ref h1, .ref h2, .ref h3, .ref h4, .ref h5, .ref h6, .ref h7, .ref h8, .ref h9, .ref h10, .ref h11, .int ys, hv1, hv2, hv3, hv4], wI (cy 1) h1 4 (fc), wI (cy 1) h7 48 (fx), wO s0 7 [.ref s1, .ref s2, .int (nI sl), .int spl, .int svo, .int swi, .int sch], wI (cy 1) s1 10 (fa2_15), wI (cy 1) ro 20 (fa3_15), (er, .inl (cy 4, 4, .inr (.inr (.inr (.inr (eF (ea 0) (ea 1) (ea 2) (ea 3))))))), wO (ea 0) 2 [.ref (eg 0), .ref (ef 0), .int (et 0), .int (nI (el 0)), .int (nI (ei 0))], wI (cy 1) (eg 0) 10 (gc 0), wI (cy 1) (ef 0) 7 (xc 0), wO (ea 1) 2 [.ref (eg 1), .ref (ef 1), .int (et 1), .int (nI (el 1)), .int (nI (ei 1))], wI (cy 1) (eg 1) 10 (gc 1), wI (cy 1) (ef 1) 7 (xc 1), wO (ea 2) 2 [.ref (eg 2), .ref (ef 2), .int (et 2), .int (nI (el 2)), .int (nI (ei 2))], wI (cy 1) (eg 2) 10 (gc 2), wI (cy 1) (ef 2) 7 (xc 2), wO (ea 3) 2 [.ref (eg 3), .ref (ef 3), .int (et 3), .int (nI (el 3)), .int (nI (ei 3))], wI (cy 1) (eg 3) 10 (gc 3), wI (cy 1) (ef 3) 7 (xc 3)] → va_S A s.heap H locs → ∀ ls : Array Slot, lv_has ls 5 [(4, .int (nI wd15)), (3, .int (nI j_13)), (2, .int (nI j_11)), (0, .ref p0), (1, .int 0)] → W p l e (rmk 8 0 0) s m args below meth c H locs 0 0 Q (F0 m 38 ls []) := by
      try clear hP hD hS
      intro zn
      induction zn with
      | zero => intro wd15 fa1_15 fa2_15 fa3_15 _ _ _ hz; exact absurd hz (by omega)
      | succ zn ih15 =>
        intro wd15 fa1_15 fa2_15 fa3_15 ha3_15 ha4_15 hf0_15 hmu15 H locs hP hD hS ls hl
        refine lv_iload hx hb dX6_chooseWords_38 (lv_at hl 0 rfl) ?_
        refine lv_aload_n hx hb dX6_chooseWords_40 rfl (lv_at hl 3 rfl) ?_
        refine va_get (D := D) (ci := 6) (v := .ref h0) (C := RX6) (T := TX6) (N := 9) hx hb hg i_X6 hown hK hP 0 rfl rfl 6 (by decide) (hg _ m_591) (fun _ h9 => h9) rfl dX6_chooseWords_41 ?_
        refine va_get (D := D) (ci := 4) (v := .ref h1) (C := RX4) (T := TX4) (N := 16) hx hb hg i_X4 hown hK hP 4 rfl rfl 0 (by decide) (hg _ m_330) (fun _ h9 => h9) rfl dX6_chooseWords_44 ?_
        refine lv_iconst (v := 0) hx hb dX6_chooseWords_47 (by decide) ?_
        refine va_iald hx hb hK hP 5 1 rfl rfl (by unfold vp_in; decide) dX6_chooseWords_48 ?_
        refine lv_topi (fun y_16 hy_16 => ?_)
        obtain rfl : y_16 = nI c0 := hy_16.trans hcn.1
        refine lv_icmp_ge (tgt := 100) hx hb dX6_chooseWords_49 (by decide) (fun c_17 => ?_) (fun c_17 => ?_)
        · have q_18 : c0 ≤ wd15 := q_le (a := c0) (b := wd15) rfl rfl (by omega) (by omega) c_17
          refine lv_aload_n hx hb dX6_chooseWords_100 rfl (lv_at hl 3 rfl) ?_
          refine va_get (D := D) (ci := 6) (v := .ref s0) (C := RX6) (T := TX6) (N := 9) hx hb hg i_X6 hown hK hP 0 rfl rfl 7 (by decide) (hg _ m_592) (fun _ h9 => h9) rfl dX6_chooseWords_101 ?_
          refine va_get (D := D) (ci := 7) (v := .ref s1) (C := RX7) (T := TX7) (N := 7) hx hb hg i_X7 hown hK hP 7 rfl rfl 0 (by decide) (hg _ m_622) (fun _ h9 => h9) rfl dX6_chooseWords_104 ?_
          refine lv_iload_n hx hb dX6_chooseWords_107 rfl (lv_at hl 2 rfl) ?_
          refine lv_iload_n hx hb dX6_chooseWords_108 rfl (lv_at hl 1 rfl) ?_
          refine va_iast hx hb hK hP hD hS 8 1 rfl rfl (vp_in_nI (by omega) (by decide)) dX6_chooseWords_109 (fun H locs hP9 hD9 hS9 => ?_)
          clear hP hD hS
          have hP := hP9
          have hD := hD9
          have hS := hS9
          clear hP9 hD9 hS9
          obtain ⟨g_19, eg_19⟩ : ∃ y, upd fa2_15 (nI j_11 : Int32).toNatClampNeg (nI j_13) = y := ⟨_, rfl⟩
          rw [eg_19] at hP hD
          have hr_20 : rng g_19 10 7 := eg_19 ▸ rng_put ha3_15 (j := j_13) (by omega)
          replace hP : va_P D vwCl [wO p0 6 [.ref p1, .ref er, .ref ro, .ref p2, .ref p3, .ref p4, .ref h0, .ref s0, .int (nI ch)], wI (cy 1) p3 4 (fne), wI (cy 1) p1 3 (fa1_15), wI (cy 1) p2 3 (fpc), wO h0 4 [.ref h1, .ref h2, .ref h3, .ref h4, .ref h5, .ref h6, .ref h7, .ref h8, .ref h9, .ref h10, .ref h11, .int ys, hv1, hv2, hv3, hv4], wI (cy 1) h1 4 (fc), wI (cy 1) h7 48 (fx), wO s0 7 [.ref s1, .ref s2, .int (nI sl), .int spl, .int svo, .int swi, .int sch], wI (cy 1) s1 10 (g_19), wI (cy 1) ro 20 (fa3_15), (er, .inl (cy 4, 4, .inr (.inr (.inr (.inr (eF (ea 0) (ea 1) (ea 2) (ea 3))))))), wO (ea 0) 2 [.ref (eg 0), .ref (ef 0), .int (et 0), .int (nI (el 0)), .int (nI (ei 0))], wI (cy 1) (eg 0) 10 (gc 0), wI (cy 1) (ef 0) 7 (xc 0), wO (ea 1) 2 [.ref (eg 1), .ref (ef 1), .int (et 1), .int (nI (el 1)), .int (nI (ei 1))], wI (cy 1) (eg 1) 10 (gc 1), wI (cy 1) (ef 1) 7 (xc 1), wO (ea 2) 2 [.ref (eg 2), .ref (ef 2), .int (et 2), .int (nI (el 2)), .int (nI (ei 2))], wI (cy 1) (eg 2) 10 (gc 2), wI (cy 1) (ef 2) 7 (xc 2), wO (ea 3) 2 [.ref (eg 3), .ref (ef 3), .int (et 3), .int (nI (el 3)), .int (nI (ei 3))], wI (cy 1) (eg 3) 10 (gc 3), wI (cy 1) (ef 3) 7 (xc 3)] H := hP
          replace hD : va_D A [wO p0 6 [.ref p1, .ref er, .ref ro, .ref p2, .ref p3, .ref p4, .ref h0, .ref s0, .int (nI ch)], wI (cy 1) p3 4 (fne), wI (cy 1) p1 3 (fa1_15), wI (cy 1) p2 3 (fpc), wO h0 4 [.ref h1, .ref h2, .ref h3, .ref h4, .ref h5, .ref h6, .ref h7, .ref h8, .ref h9, .ref h10, .ref h11, .int ys, hv1, hv2, hv3, hv4], wI (cy 1) h1 4 (fc), wI (cy 1) h7 48 (fx), wO s0 7 [.ref s1, .ref s2, .int (nI sl), .int spl, .int svo, .int swi, .int sch], wI (cy 1) s1 10 (g_19), wI (cy 1) ro 20 (fa3_15), (er, .inl (cy 4, 4, .inr (.inr (.inr (.inr (eF (ea 0) (ea 1) (ea 2) (ea 3))))))), wO (ea 0) 2 [.ref (eg 0), .ref (ef 0), .int (et 0), .int (nI (el 0)), .int (nI (ei 0))], wI (cy 1) (eg 0) 10 (gc 0), wI (cy 1) (ef 0) 7 (xc 0), wO (ea 1) 2 [.ref (eg 1), .ref (ef 1), .int (et 1), .int (nI (el 1)), .int (nI (ei 1))], wI (cy 1) (eg 1) 10 (gc 1), wI (cy 1) (ef 1) 7 (xc 1), wO (ea 2) 2 [.ref (eg 2), .ref (ef 2), .int (et 2), .int (nI (el 2)), .int (nI (ei 2))], wI (cy 1) (eg 2) 10 (gc 2), wI (cy 1) (ef 2) 7 (xc 2), wO (ea 3) 2 [.ref (eg 3), .ref (ef 3), .int (et 3), .int (nI (el 3)), .int (nI (ei 3))], wI (cy 1) (eg 3) 10 (gc 3), wI (cy 1) (ef 3) 7 (xc 3)] := hD
          refine lv_iconst (v := 0) hx hb dX6_chooseWords_110 (by decide) ?_
          exact x_zret hQ hx hb hr hlocks hK hP hD hS rfl dX6_chooseWords_111 (fa1_15, g_19, fa3_15) (⟨(Or.inl rfl), hr_20, ha4_15⟩) [0, 1, 2, 3, 4, 5, 6, 7, 8, 9, 10, 11, 12, 13, 14, 15, 16, 17, 18, 19, 20, 21, 22] (by decide +kernel) rfl (Nat.le_of_ble_eq_true rfl) (Nat.le_of_ble_eq_true rfl)
        · have q_18 : wd15 < c0 := q_nle (a := c0) (b := wd15) rfl rfl (by omega) (by omega) c_17
          refine lv_iload hx hb dX6_chooseWords_52 (lv_at hl 0 rfl) ?_
          refine lv_iload_n hx hb dX6_chooseWords_54 rfl (lv_at hl 1 rfl) ?_
          refine lv_icmp_eq (tgt := 94) hx hb dX6_chooseWords_55 (by decide) (fun c_21 => ?_) (fun c_21 => ?_)
          · have q_22 : wd15 = j_13 := q_eq (a := wd15) (b := j_13) rfl rfl (by omega) (by omega) c_21
            refine lv_iinc (v := nI (wd15 + 1)) (lv' := [(4, .int (nI (wd15 + 1))), (3, .int (nI j_13)), (2, .int (nI j_11)), (0, .ref p0), (1, .int 0)]) hx hb dX6_chooseWords_94 hl (k := 0) rfl (nI_add wd15 1) (by decide) rfl (fun ls hl => ?_)
            refine lv_goto (tgt := 38) hx hb dX6_chooseWords_97 (by decide) ?_
            exact ih15  ((wd15 + 1)) fa1_15 fa2_15 fa3_15 ha3_15 ha4_15 (by omega) (by omega) _ _ (hP.sub [0, 1, 2, 3, 4, 5, 6, 7, 8, 9, 10, 11, 12, 13, 14, 15, 16, 17, 18, 19, 20, 21, 22] rfl) (hD.sub [0, 1, 2, 3, 4, 5, 6, 7, 8, 9, 10, 11, 12, 13, 14, 15, 16, 17, 18, 19, 20, 21, 22] (by decide +kernel) rfl) hS ls (lv_sub hl [0, 1, 2, 3, 4] rfl)
          · have q_22 : ¬ wd15 = j_13 := q_ne (a := wd15) (b := j_13) rfl rfl (by omega) (by omega) c_21
            refine lv_aload_n hx hb dX6_chooseWords_58 rfl (lv_at hl 3 rfl) ?_
            refine va_get (D := D) (ci := 6) (v := .ref s0) (C := RX6) (T := TX6) (N := 9) hx hb hg i_X6 hown hK hP 0 rfl rfl 7 (by decide) (hg _ m_592) (fun _ h9 => h9) rfl dX6_chooseWords_59 ?_
            refine va_get (D := D) (ci := 7) (v := .ref s1) (C := RX7) (T := TX7) (N := 7) hx hb hg i_X7 hown hK hP 7 rfl rfl 0 (by decide) (hg _ m_622) (fun _ h9 => h9) rfl dX6_chooseWords_62 ?_
            refine lv_iload_n hx hb dX6_chooseWords_65 rfl (lv_at hl 2 rfl) ?_
            refine lv_iload hx hb dX6_chooseWords_66 (lv_at hl 0 rfl) ?_
            refine va_iast hx hb hK hP hD hS 8 1 rfl rfl (vp_in_nI (by omega) (by decide)) dX6_chooseWords_68 (fun H locs hP9 hD9 hS9 => ?_)
            clear hP hD hS
            have hP := hP9
            have hD := hD9
            have hS := hS9
            clear hP9 hD9 hS9
            obtain ⟨g_23, eg_23⟩ : ∃ y, upd fa2_15 (nI j_11 : Int32).toNatClampNeg (nI wd15) = y := ⟨_, rfl⟩
            rw [eg_23] at hP hD
            have hr_24 : rng g_23 10 7 := eg_23 ▸ rng_put ha3_15 (j := wd15) (by omega)
            replace hP : va_P D vwCl [wO p0 6 [.ref p1, .ref er, .ref ro, .ref p2, .ref p3, .ref p4, .ref h0, .ref s0, .int (nI ch)], wI (cy 1) p3 4 (fne), wI (cy 1) p1 3 (fa1_15), wI (cy 1) p2 3 (fpc), wO h0 4 [.ref h1, .ref h2, .ref h3, .ref h4, .ref h5, .ref h6, .ref h7, .ref h8, .ref h9, .ref h10, .ref h11, .int ys, hv1, hv2, hv3, hv4], wI (cy 1) h1 4 (fc), wI (cy 1) h7 48 (fx), wO s0 7 [.ref s1, .ref s2, .int (nI sl), .int spl, .int svo, .int swi, .int sch], wI (cy 1) s1 10 (g_23), wI (cy 1) ro 20 (fa3_15), (er, .inl (cy 4, 4, .inr (.inr (.inr (.inr (eF (ea 0) (ea 1) (ea 2) (ea 3))))))), wO (ea 0) 2 [.ref (eg 0), .ref (ef 0), .int (et 0), .int (nI (el 0)), .int (nI (ei 0))], wI (cy 1) (eg 0) 10 (gc 0), wI (cy 1) (ef 0) 7 (xc 0), wO (ea 1) 2 [.ref (eg 1), .ref (ef 1), .int (et 1), .int (nI (el 1)), .int (nI (ei 1))], wI (cy 1) (eg 1) 10 (gc 1), wI (cy 1) (ef 1) 7 (xc 1), wO (ea 2) 2 [.ref (eg 2), .ref (ef 2), .int (et 2), .int (nI (el 2)), .int (nI (ei 2))], wI (cy 1) (eg 2) 10 (gc 2), wI (cy 1) (ef 2) 7 (xc 2), wO (ea 3) 2 [.ref (eg 3), .ref (ef 3), .int (et 3), .int (nI (el 3)), .int (nI (ei 3))], wI (cy 1) (eg 3) 10 (gc 3), wI (cy 1) (ef 3) 7 (xc 3)] H := hP
            replace hD : va_D A [wO p0 6 [.ref p1, .ref er, .ref ro, .ref p2, .ref p3, .ref p4, .ref h0, .ref s0, .int (nI ch)], wI (cy 1) p3 4 (fne), wI (cy 1) p1 3 (fa1_15), wI (cy 1) p2 3 (fpc), wO h0 4 [.ref h1, .ref h2, .ref h3, .ref h4, .ref h5, .ref h6, .ref h7, .ref h8, .ref h9, .ref h10, .ref h11, .int ys, hv1, hv2, hv3, hv4], wI (cy 1) h1 4 (fc), wI (cy 1) h7 48 (fx), wO s0 7 [.ref s1, .ref s2, .int (nI sl), .int spl, .int svo, .int swi, .int sch], wI (cy 1) s1 10 (g_23), wI (cy 1) ro 20 (fa3_15), (er, .inl (cy 4, 4, .inr (.inr (.inr (.inr (eF (ea 0) (ea 1) (ea 2) (ea 3))))))), wO (ea 0) 2 [.ref (eg 0), .ref (ef 0), .int (et 0), .int (nI (el 0)), .int (nI (ei 0))], wI (cy 1) (eg 0) 10 (gc 0), wI (cy 1) (ef 0) 7 (xc 0), wO (ea 1) 2 [.ref (eg 1), .ref (ef 1), .int (et 1), .int (nI (el 1)), .int (nI (ei 1))], wI (cy 1) (eg 1) 10 (gc 1), wI (cy 1) (ef 1) 7 (xc 1), wO (ea 2) 2 [.ref (eg 2), .ref (ef 2), .int (et 2), .int (nI (el 2)), .int (nI (ei 2))], wI (cy 1) (eg 2) 10 (gc 2), wI (cy 1) (ef 2) 7 (xc 2), wO (ea 3) 2 [.ref (eg 3), .ref (ef 3), .int (et 3), .int (nI (el 3)), .int (nI (ei 3))], wI (cy 1) (eg 3) 10 (gc 3), wI (cy 1) (ef 3) 7 (xc 3)] := hD
            refine lv_aload_n hx hb dX6_chooseWords_69 rfl (lv_at hl 3 rfl) ?_
            refine va_get (D := D) (ci := 6) (v := .ref p1) (C := RX6) (T := TX6) (N := 9) hx hb hg i_X6 hown hK hP 0 rfl rfl 0 (by decide) (hg _ m_584) (fun _ h9 => h9) rfl dX6_chooseWords_70 ?_
            refine lv_iload_n hx hb dX6_chooseWords_73 rfl (lv_at hl 4 rfl) ?_
            refine lv_bipush (v := 10) hx hb dX6_chooseWords_74 (by decide) ?_
            refine lv_iload_n hx hb dX6_chooseWords_76 rfl (lv_at hl 2 rfl) ?_
            refine lv_imul hx hb dX6_chooseWords_77 ?_
            refine lv_topi (fun y_25 hy_25 => ?_)
            obtain rfl : y_25 = nI (10 * j_11) := hy_25.trans (pk_mul 10 j_11)
            refine lv_iload hx hb dX6_chooseWords_78 (lv_at hl 0 rfl) ?_
            refine lv_iadd hx hb dX6_chooseWords_80 ?_
            refine lv_topi (fun y_26 hy_26 => ?_)
            obtain rfl : y_26 = nI ((10 * j_11) + wd15) := hy_26.trans (nI_add ((10 * j_11)) wd15)
            refine va_iast hx hb hK hP hD hS 2 1 rfl rfl (by unfold vp_in; decide) dX6_chooseWords_81 (fun H locs hP9 hD9 hS9 => ?_)
            clear hP hD hS
            obtain ⟨g_27, eg_27⟩ : ∃ y, upd fa1_15 (0 : Int32).toNatClampNeg (nI ((10 * j_11) + wd15)) = y := ⟨_, rfl⟩
            rw [eg_27] at hP9 hD9
            refine reW [wO p0 6 [.ref p1, .ref er, .ref ro, .ref p2, .ref p3, .ref p4, .ref h0, .ref s0, .int (nI ch)], wI (cy 1) p3 4 (fne), wI (cy 1) p1 3 (g_27), wI (cy 1) p2 3 (fpc), wO h0 4 [.ref h1, .ref h2, .ref h3, .ref h4, .ref h5, .ref h6, .ref h7, .ref h8, .ref h9, .ref h10, .ref h11, .int ys, hv1, hv2, hv3, hv4], wI (cy 1) h1 4 (fc), wI (cy 1) h7 48 (fx), wO s0 7 [.ref s1, .ref s2, .int (nI sl), .int spl, .int svo, .int swi, .int sch], wI (cy 1) s1 10 (g_23), wI (cy 1) ro 20 (fa3_15), (er, .inl (cy 4, 4, .inr (.inr (.inr (.inr (eF (ea 0) (ea 1) (ea 2) (ea 3))))))), wO (ea 0) 2 [.ref (eg 0), .ref (ef 0), .int (et 0), .int (nI (el 0)), .int (nI (ei 0))], wI (cy 1) (eg 0) 10 (gc 0), wI (cy 1) (ef 0) 7 (xc 0), wO (ea 1) 2 [.ref (eg 1), .ref (ef 1), .int (et 1), .int (nI (el 1)), .int (nI (ei 1))], wI (cy 1) (eg 1) 10 (gc 1), wI (cy 1) (ef 1) 7 (xc 1), wO (ea 2) 2 [.ref (eg 2), .ref (ef 2), .int (et 2), .int (nI (el 2)), .int (nI (ei 2))], wI (cy 1) (eg 2) 10 (gc 2), wI (cy 1) (ef 2) 7 (xc 2), wO (ea 3) 2 [.ref (eg 3), .ref (ef 3), .int (et 3), .int (nI (el 3)), .int (nI (ei 3))], wI (cy 1) (eg 3) 10 (gc 3), wI (cy 1) (ef 3) 7 (xc 3)] hP9 hD9 hS9 (fun hP hD hS => ?_)
            clear hP9 hD9 hS9
            refine lv_aload_n hx hb dX6_chooseWords_82 rfl (lv_at hl 3 rfl) ?_
            refine lv_iload_n hx hb dX6_chooseWords_83 rfl (lv_at hl 4 rfl) ?_
            refine lv_iconst (v := 1) hx hb dX6_chooseWords_84 (by decide) ?_
            refine lv_iadd hx hb dX6_chooseWords_85 ?_
            refine lv_topi (fun y_28 hy_28 => ?_)
            obtain rfl : y_28 = 1 := hy_28.trans (by decide +kernel)
            refine x_callVi (q := (RX6, TX6, 9)) (ci := 6) (q0 := 0) (wr := []) (rest := []) ⟨hx, hb, hml, hown, hg, hl.1⟩ k_X6_73 (s_chooseWords1 l D cy p0 p1 p2 p3 p4 er ro ch fne g_27 fpc h0 h1 h2 h3 h4 h5 h6 h7 h8 h9 h10 h11 hv1 hv2 hv3 hv4 ys fc c0 c1 c2 c3 fx s0 s1 s2 sl spl svo swi sch g_23 fa3_15 ea eg ef et el ei gc xc (hne) (hpc) (by omega) (hcn) (by omega) (by omega) (by omega) (by omega) (hnx) (fun i9 h9 => by rcases (show i9 = 0 ∨ i9 = 1 ∨ i9 = 2 ∨ i9 = 3 by omega) with rfl | rfl | rfl | rfl <;> omega) (by omega) (hr_24) (ha4_15)) E0_blind hK hP hD hS hA [0, 1, 2, 3, 4, 5, 6, 7, 8, 9, 10, 11, 12, 13, 14, 15, 16, 17, 18, 19, 20, 21, 22] [] ⟨rfl, rfl, by decide +kernel, by decide +kernel, by decide +kernel⟩ rfl rfl (fun _ _ _ => trivial) dX6_chooseWords_86 rfl rfl (Nat.le_of_ble_eq_true rfl) ⟨Nat.le_of_ble_eq_true rfl, Nat.le_of_ble_eq_true rfl⟩ ⟨Nat.le_of_ble_eq_true rfl, Nat.le_of_ble_eq_true rfl⟩ (fun zr29 zu29 H locs hw29 hP9 hD9 hS9 => ?_)
            clear hP hD hS
            obtain ⟨ffd2_30, fw2_31, fr2_32⟩ := zu29
            refine reW [wO p0 6 [.ref p1, .ref er, .ref ro, .ref p2, .ref p3, .ref p4, .ref h0, .ref s0, .int (nI ch)], wI (cy 1) p3 4 (fne), wI (cy 1) p1 3 (ffd2_30), wI (cy 1) p2 3 (fpc), wO h0 4 [.ref h1, .ref h2, .ref h3, .ref h4, .ref h5, .ref h6, .ref h7, .ref h8, .ref h9, .ref h10, .ref h11, .int ys, hv1, hv2, hv3, hv4], wI (cy 1) h1 4 (fc), wI (cy 1) h7 48 (fx), wO s0 7 [.ref s1, .ref s2, .int (nI sl), .int spl, .int svo, .int swi, .int sch], wI (cy 1) s1 10 (fw2_31), wI (cy 1) ro 20 (fr2_32), (er, .inl (cy 4, 4, .inr (.inr (.inr (.inr (eF (ea 0) (ea 1) (ea 2) (ea 3))))))), wO (ea 0) 2 [.ref (eg 0), .ref (ef 0), .int (et 0), .int (nI (el 0)), .int (nI (ei 0))], wI (cy 1) (eg 0) 10 (gc 0), wI (cy 1) (ef 0) 7 (xc 0), wO (ea 1) 2 [.ref (eg 1), .ref (ef 1), .int (et 1), .int (nI (el 1)), .int (nI (ei 1))], wI (cy 1) (eg 1) 10 (gc 1), wI (cy 1) (ef 1) 7 (xc 1), wO (ea 2) 2 [.ref (eg 2), .ref (ef 2), .int (et 2), .int (nI (el 2)), .int (nI (ei 2))], wI (cy 1) (eg 2) 10 (gc 2), wI (cy 1) (ef 2) 7 (xc 2), wO (ea 3) 2 [.ref (eg 3), .ref (ef 3), .int (et 3), .int (nI (el 3)), .int (nI (ei 3))], wI (cy 1) (eg 3) 10 (gc 3), wI (cy 1) (ef 3) 7 (xc 3)] hP9 hD9 hS9 (fun hP hD hS => ?_)
            clear hP9 hD9 hS9
            refine W.widen (k := 0) (n := 0) (Nat.le_of_ble_eq_true rfl) (Nat.le_of_ble_eq_true rfl) ?_
            replace hw29 : (zr29 = 0 ∨ zr29 = 1) ∧ (rng fw2_31 10 7) ∧ (rng fr2_32 20 7) := hw29
            obtain ⟨f_33, f_34, f_35⟩ := hw29
            refine lv_if_eq (tgt := 94) hx hb dX6_chooseWords_89 (by decide) (fun c_89 => ?_) (fun c_89 => ?_)
            · refine lv_iinc (v := nI (wd15 + 1)) (lv' := [(4, .int (nI (wd15 + 1))), (3, .int (nI j_13)), (2, .int (nI j_11)), (0, .ref p0), (1, .int 0)]) hx hb dX6_chooseWords_94 hl (k := 0) rfl (nI_add wd15 1) (by decide) rfl (fun ls hl => ?_)
              refine lv_goto (tgt := 38) hx hb dX6_chooseWords_97 (by decide) ?_
              exact ih15  ((wd15 + 1)) ffd2_30 fw2_31 fr2_32 f_34 f_35 (by omega) (by omega) _ _ (hP.sub [0, 1, 2, 3, 4, 5, 6, 7, 8, 9, 10, 11, 12, 13, 14, 15, 16, 17, 18, 19, 20, 21, 22] rfl) (hD.sub [0, 1, 2, 3, 4, 5, 6, 7, 8, 9, 10, 11, 12, 13, 14, 15, 16, 17, 18, 19, 20, 21, 22] (by decide +kernel) rfl) hS ls (lv_sub hl [0, 1, 2, 3, 4] rfl)
            · refine lv_iconst (v := 1) hx hb dX6_chooseWords_92 (by decide) ?_
              exact x_zret hQ hx hb hr hlocks hK hP hD hS rfl dX6_chooseWords_93 (ffd2_30, fw2_31, fr2_32) (⟨(Or.inr rfl), f_34, f_35⟩) [0, 1, 2, 3, 4, 5, 6, 7, 8, 9, 10, 11, 12, 13, 14, 15, 16, 17, 18, 19, 20, 21, 22] (by decide +kernel) rfl (Nat.le_of_ble_eq_true rfl) (Nat.le_of_ble_eq_true rfl)
    exact loop15 _ 0 ffd fw fr hsw hrw (by omega) (Nat.le_refl _) _ _ (hP.sub [0, 1, 2, 3, 4, 5, 6, 7, 8, 9, 10, 11, 12, 13, 14, 15, 16, 17, 18, 19, 20, 21, 22] rfl) (hD.sub [0, 1, 2, 3, 4, 5, 6, 7, 8, 9, 10, 11, 12, 13, 14, 15, 16, 17, 18, 19, 20, 21, 22] (by decide +kernel) rfl) hS ls (lv_sub hl [0, 1, 2, 3, 4] rfl)
theorem gdX6_fewest_0 : decode cX6_fewest 0 = .ok (.aload_n 0, 1) ∧ decode cX6_fewest 1 = .ok (.aload_n 1, 1) ∧ decode cX6_fewest 2 = .ok (.putfield 35, 3) ∧ decode cX6_fewest 5 = .ok (.aload_n 0, 1) ∧ decode cX6_fewest 6 = .ok (.aload_n 2, 1) ∧ decode cX6_fewest 7 = .ok (.putfield 39, 3) ∧ decode cX6_fewest 10 = .ok (.iconst 0, 1) ∧ decode cX6_fewest 11 = .ok (.istore_n 3, 1) ∧ decode cX6_fewest 12 = .ok (.iload_n 3, 1) ∧ decode cX6_fewest 13 = .ok (.aload_n 1, 1) ∧ decode cX6_fewest 14 = .ok (.getfield 43, 3) ∧ decode cX6_fewest 17 = .ok (.iconst 1, 1) := by decide +kernel
theorem dX6_fewest_0 : decode cX6_fewest 0 = .ok (.aload_n 0, 1) := gdX6_fewest_0.1
theorem dX6_fewest_1 : decode cX6_fewest 1 = .ok (.aload_n 1, 1) := gdX6_fewest_0.2.1
theorem dX6_fewest_2 : decode cX6_fewest 2 = .ok (.putfield 35, 3) := gdX6_fewest_0.2.2.1
theorem dX6_fewest_5 : decode cX6_fewest 5 = .ok (.aload_n 0, 1) := gdX6_fewest_0.2.2.2.1
theorem dX6_fewest_6 : decode cX6_fewest 6 = .ok (.aload_n 2, 1) := gdX6_fewest_0.2.2.2.2.1
theorem dX6_fewest_7 : decode cX6_fewest 7 = .ok (.putfield 39, 3) := gdX6_fewest_0.2.2.2.2.2.1
theorem dX6_fewest_10 : decode cX6_fewest 10 = .ok (.iconst 0, 1) := gdX6_fewest_0.2.2.2.2.2.2.1
theorem dX6_fewest_11 : decode cX6_fewest 11 = .ok (.istore_n 3, 1) := gdX6_fewest_0.2.2.2.2.2.2.2.1
theorem dX6_fewest_12 : decode cX6_fewest 12 = .ok (.iload_n 3, 1) := gdX6_fewest_0.2.2.2.2.2.2.2.2.1
theorem dX6_fewest_13 : decode cX6_fewest 13 = .ok (.aload_n 1, 1) := gdX6_fewest_0.2.2.2.2.2.2.2.2.2.1
theorem dX6_fewest_14 : decode cX6_fewest 14 = .ok (.getfield 43, 3) := gdX6_fewest_0.2.2.2.2.2.2.2.2.2.2.1
theorem dX6_fewest_17 : decode cX6_fewest 17 = .ok (.iconst 1, 1) := gdX6_fewest_0.2.2.2.2.2.2.2.2.2.2.2
theorem gdX6_fewest_18 : decode cX6_fewest 18 = .ok (.iaload, 1) ∧ decode cX6_fewest 19 = .ok (.if_icmp .ge 25, 3) ∧ decode cX6_fewest 44 = .ok (.aload_n 0, 1) ∧ decode cX6_fewest 45 = .ok (.invokevirtual 60, 3) := by decide +kernel
theorem dX6_fewest_18 : decode cX6_fewest 18 = .ok (.iaload, 1) := gdX6_fewest_18.1
theorem dX6_fewest_19 : decode cX6_fewest 19 = .ok (.if_icmp .ge 25, 3) := gdX6_fewest_18.2.1
theorem dX6_fewest_44 : decode cX6_fewest 44 = .ok (.aload_n 0, 1) := gdX6_fewest_18.2.2.1
theorem dX6_fewest_45 : decode cX6_fewest 45 = .ok (.invokevirtual 60, 3) := gdX6_fewest_18.2.2.2
theorem k_X6_60 : xV RX6 RX6 60 yX6_orderCliffs cX6_orderCliffs 4 none 0 := ⟨⟨m_1240, m_1242, m_47, m_144, m_1243⟩, rfl, by decide, by decide, by decide +kernel⟩
theorem dX6_fewest_48 : decode cX6_fewest 48 = .ok (.aload_n 0, 1) := by decide +kernel
theorem dX6_fewest_49 : decode cX6_fewest 49 = .ok (.invokevirtual 63, 3) := by decide +kernel
theorem k_X6_63 : xV RX6 RX6 63 yX6_findQuiet cX6_findQuiet 4 none 0 := ⟨⟨m_1245, m_1247, m_48, m_144, m_1248⟩, rfl, by decide, by decide, by decide +kernel⟩
theorem gdX6_fewest_52 : decode cX6_fewest 52 = .ok (.iconst 0, 1) ∧ decode cX6_fewest 53 = .ok (.istore_n 3, 1) ∧ decode cX6_fewest 54 = .ok (.iload_n 3, 1) ∧ decode cX6_fewest 55 = .ok (.iconst 3, 1) ∧ decode cX6_fewest 56 = .ok (.if_icmp .gt 32, 3) ∧ decode cX6_fewest 88 = .ok (.iconst (-1), 1) ∧ decode cX6_fewest 89 = .ok (.ireturn, 1) ∧ decode cX6_fewest 59 = .ok (.aload_n 0, 1) ∧ decode cX6_fewest 60 = .ok (.iload_n 3, 1) ∧ decode cX6_fewest 61 = .ok (.putfield 66, 3) ∧ decode cX6_fewest 64 = .ok (.aload_n 0, 1) ∧ decode cX6_fewest 65 = .ok (.iconst 0, 1) := by decide +kernel
theorem dX6_fewest_52 : decode cX6_fewest 52 = .ok (.iconst 0, 1) := gdX6_fewest_52.1
theorem dX6_fewest_53 : decode cX6_fewest 53 = .ok (.istore_n 3, 1) := gdX6_fewest_52.2.1
theorem dX6_fewest_54 : decode cX6_fewest 54 = .ok (.iload_n 3, 1) := gdX6_fewest_52.2.2.1
theorem dX6_fewest_55 : decode cX6_fewest 55 = .ok (.iconst 3, 1) := gdX6_fewest_52.2.2.2.1
theorem dX6_fewest_56 : decode cX6_fewest 56 = .ok (.if_icmp .gt 32, 3) := gdX6_fewest_52.2.2.2.2.1
theorem dX6_fewest_88 : decode cX6_fewest 88 = .ok (.iconst (-1), 1) := gdX6_fewest_52.2.2.2.2.2.1
theorem dX6_fewest_89 : decode cX6_fewest 89 = .ok (.ireturn, 1) := gdX6_fewest_52.2.2.2.2.2.2.1
theorem dX6_fewest_59 : decode cX6_fewest 59 = .ok (.aload_n 0, 1) := gdX6_fewest_52.2.2.2.2.2.2.2.1
theorem dX6_fewest_60 : decode cX6_fewest 60 = .ok (.iload_n 3, 1) := gdX6_fewest_52.2.2.2.2.2.2.2.2.1
theorem dX6_fewest_61 : decode cX6_fewest 61 = .ok (.putfield 66, 3) := gdX6_fewest_52.2.2.2.2.2.2.2.2.2.1
theorem dX6_fewest_64 : decode cX6_fewest 64 = .ok (.aload_n 0, 1) := gdX6_fewest_52.2.2.2.2.2.2.2.2.2.2.1
theorem dX6_fewest_65 : decode cX6_fewest 65 = .ok (.iconst 0, 1) := gdX6_fewest_52.2.2.2.2.2.2.2.2.2.2.2
theorem gdX6_fewest_66 : decode cX6_fewest 66 = .ok (.iconst 0, 1) ∧ decode cX6_fewest 67 = .ok (.iconst 0, 1) ∧ decode cX6_fewest 68 = .ok (.invokevirtual 69, 3) ∧ decode cX6_fewest 71 = .ok (.ifCond .eq 11, 3) ∧ decode cX6_fewest 82 = .ok (.iinc 3 1, 3) ∧ decode cX6_fewest 85 = .ok (.goto (-31), 3) ∧ decode cX6_fewest 74 = .ok (.aload_n 0, 1) ∧ decode cX6_fewest 75 = .ok (.iconst 0, 1) ∧ decode cX6_fewest 76 = .ok (.invokevirtual 73, 3) ∧ decode cX6_fewest 79 = .ok (.pop, 1) ∧ decode cX6_fewest 80 = .ok (.iload_n 3, 1) ∧ decode cX6_fewest 81 = .ok (.ireturn, 1) := by decide +kernel
theorem dX6_fewest_66 : decode cX6_fewest 66 = .ok (.iconst 0, 1) := gdX6_fewest_66.1
theorem dX6_fewest_67 : decode cX6_fewest 67 = .ok (.iconst 0, 1) := gdX6_fewest_66.2.1
theorem dX6_fewest_68 : decode cX6_fewest 68 = .ok (.invokevirtual 69, 3) := gdX6_fewest_66.2.2.1
theorem dX6_fewest_71 : decode cX6_fewest 71 = .ok (.ifCond .eq 11, 3) := gdX6_fewest_66.2.2.2.1
theorem dX6_fewest_82 : decode cX6_fewest 82 = .ok (.iinc 3 1, 3) := gdX6_fewest_66.2.2.2.2.1
theorem dX6_fewest_85 : decode cX6_fewest 85 = .ok (.goto (-31), 3) := gdX6_fewest_66.2.2.2.2.2.1
theorem dX6_fewest_74 : decode cX6_fewest 74 = .ok (.aload_n 0, 1) := gdX6_fewest_66.2.2.2.2.2.2.1
theorem dX6_fewest_75 : decode cX6_fewest 75 = .ok (.iconst 0, 1) := gdX6_fewest_66.2.2.2.2.2.2.2.1
theorem dX6_fewest_76 : decode cX6_fewest 76 = .ok (.invokevirtual 73, 3) := gdX6_fewest_66.2.2.2.2.2.2.2.2.1
theorem dX6_fewest_79 : decode cX6_fewest 79 = .ok (.pop, 1) := gdX6_fewest_66.2.2.2.2.2.2.2.2.2.1
theorem dX6_fewest_80 : decode cX6_fewest 80 = .ok (.iload_n 3, 1) := gdX6_fewest_66.2.2.2.2.2.2.2.2.2.2.1
theorem dX6_fewest_81 : decode cX6_fewest 81 = .ok (.ireturn, 1) := gdX6_fewest_66.2.2.2.2.2.2.2.2.2.2.2
theorem gdX6_fewest_22 : decode cX6_fewest 22 = .ok (.aload_n 0, 1) ∧ decode cX6_fewest 23 = .ok (.getfield 30, 3) ∧ decode cX6_fewest 26 = .ok (.iload_n 3, 1) ∧ decode cX6_fewest 27 = .ok (.aaload, 1) ∧ decode cX6_fewest 28 = .ok (.aload_n 1, 1) ∧ decode cX6_fewest 29 = .ok (.aload_n 2, 1) ∧ decode cX6_fewest 30 = .ok (.iload_n 3, 1) ∧ decode cX6_fewest 31 = .ok (.aload_n 2, 1) ∧ decode cX6_fewest 32 = .ok (.getfield 48, 3) ∧ decode cX6_fewest 35 = .ok (.invokevirtual 54, 3) := by decide +kernel
theorem dX6_fewest_22 : decode cX6_fewest 22 = .ok (.aload_n 0, 1) := gdX6_fewest_22.1
theorem dX6_fewest_23 : decode cX6_fewest 23 = .ok (.getfield 30, 3) := gdX6_fewest_22.2.1
theorem dX6_fewest_26 : decode cX6_fewest 26 = .ok (.iload_n 3, 1) := gdX6_fewest_22.2.2.1
theorem dX6_fewest_27 : decode cX6_fewest 27 = .ok (.aaload, 1) := gdX6_fewest_22.2.2.2.1
theorem dX6_fewest_28 : decode cX6_fewest 28 = .ok (.aload_n 1, 1) := gdX6_fewest_22.2.2.2.2.1
theorem dX6_fewest_29 : decode cX6_fewest 29 = .ok (.aload_n 2, 1) := gdX6_fewest_22.2.2.2.2.2.1
theorem dX6_fewest_30 : decode cX6_fewest 30 = .ok (.iload_n 3, 1) := gdX6_fewest_22.2.2.2.2.2.2.1
theorem dX6_fewest_31 : decode cX6_fewest 31 = .ok (.aload_n 2, 1) := gdX6_fewest_22.2.2.2.2.2.2.2.1
theorem dX6_fewest_32 : decode cX6_fewest 32 = .ok (.getfield 48, 3) := gdX6_fewest_22.2.2.2.2.2.2.2.2.1
theorem dX6_fewest_35 : decode cX6_fewest 35 = .ok (.invokevirtual 54, 3) := gdX6_fewest_22.2.2.2.2.2.2.2.2.2
theorem k_X6_54 : xV RX6 RX2 54 yX2_tuneToAll cX2_tuneToAll 7 none 4 := ⟨⟨m_1239, m_1147, m_1148, m_142, m_1149⟩, rfl, by decide, by decide, by decide +kernel⟩
theorem dX6_fewest_38 : decode cX6_fewest 38 = .ok (.iinc 3 1, 3) := by decide +kernel
theorem dX6_fewest_41 : decode cX6_fewest 41 = .ok (.goto (-29), 3) := by decide +kernel
set_option maxHeartbeats 1000000 in
set_option maxRecDepth 100000 in
theorem s_fewest (l : Launch) (D : va_G) (cy : Nat → ClassId) (p0 : Nat) (p1 : Nat) (p2 : Nat) (p3 : Nat) (p4 : Nat) (er : Nat) (ro : Nat) (ch : Nat) (rh1 : Value) (rh2 : Value) (ffd : Nat → Int32) (fpc : Nat → Int32) (fne : Nat → Int32) (fqi : Nat → Int32) (h0 : Nat) (h1 : Nat) (h2 : Nat) (h3 : Nat) (h4 : Nat) (h5 : Nat) (h6 : Nat) (h7 : Nat) (h8 : Nat) (h9 : Nat) (h10 : Nat) (h11 : Nat) (hv1 : Value) (hv2 : Value) (hv3 : Value) (hv4 : Value) (ys : Int32) (fp : Nat → Int32) (flo : Nat → Int32) (fx : Nat → Int32) (fc : Nat → Int32) (c0 : Nat) (c1 : Nat) (c2 : Nat) (c3 : Nat) (h9a : Nat) (h9b : Nat) (nb : Nat) (tb : Int32) (fcb : Nat → Int32) (fsb : Nat → Int32) (h11a : Nat) (h11b : Nat) (nt : Nat) (tt : Int32) (fct : Nat → Int32) (fst : Nat → Int32) (h10a : Nat) (h10b : Nat) (nl : Nat) (tl : Int32) (fcl : Nat → Int32) (fsl : Nat → Int32) (s0 : Nat) (s1 : Nat) (s2 : Nat) (sl : Nat) (spl : Int32) (svo : Int32) (swi : Int32) (sch : Int32) (fw : Nat → Int32) (fsn : Nat → Int32) (fr : Nat → Int32) (ea : Nat → Nat) (eg : Nat → Nat) (ef : Nat → Nat) (et : Nat → Int32) (el : Nat → Nat) (ei : Nat → Nat) (gc : Nat → Nat → Int32) (xc : Nat → Nat → Int32) (hpc : rng fpc 3 9) (hch : ch ≤ 3) (hcn : cntOK fc c0 c1 c2 c3) (hc0 : c0 ≤ 8) (hc1 : c1 ≤ 4) (hc2 : c2 ≤ 4) (hc3 : c3 ≤ 6) (hnx : rng fx 48 5) (hnb : nb ≤ 280) (hcb : cOK fcb nb) (hwb : fmW tb fcb nb) (hnt : nt ≤ 280) (hct : cOK fct nt) (hwt : fmW tt fct nt) (hnl : nl ≤ 280) (hcl : cOK fcl nl) (hwl : fmW tl fcl nl) (hel : ∀ i9, i9 < 4 → el i9 ≤ 10) (hsl : sl ≤ 10) (hsw : rng fw 10 7) (hrw : rng fr 20 7) : XMi l D (tyL cy) E0 yX6_fewest cX6_fewest 4 (some .int) (rmk 10 0 0) [.ref p0, .ref h0, .ref s0] [wO p0 6 [.ref p1, .ref er, .ref ro, .ref p2, .ref p3, .ref p4, rh1, rh2, .int (nI ch)], wI (cy 1) p3 4 (fne), wI (cy 1) p1 3 (ffd), wI (cy 1) p2 3 (fpc), wI (cy 1) p4 40 (fqi), wO h0 4 [.ref h1, .ref h2, .ref h3, .ref h4, .ref h5, .ref h6, .ref h7, .ref h8, .ref h9, .ref h10, .ref h11, .int ys, hv1, hv2, hv3, hv4], wI (cy 1) h1 4 (fc), wI (cy 1) h3 4 (fp), wI (cy 1) h2 8 (flo), wI (cy 1) h7 48 (fx), wO h9 3 [.ref h9a, .ref h9b, .int (nI nb), .int tb], wI (cy 1) h9a 280 (fcb), wI (cy 1) h9b 31 (fsb), wO h11 3 [.ref h11a, .ref h11b, .int (nI nt), .int tt], wI (cy 1) h11a 280 (fct), wI (cy 1) h11b 31 (fst), wO h10 3 [.ref h10a, .ref h10b, .int (nI nl), .int tl], wI (cy 1) h10a 280 (fcl), wI (cy 1) h10b 31 (fsl), wO s0 7 [.ref s1, .ref s2, .int (nI sl), .int spl, .int svo, .int swi, .int sch], wI (cy 1) s1 10 (fw), wI (cy 1) s2 4 (fsn), wI (cy 1) ro 20 (fr), (er, .inl (cy 4, 4, .inr (.inr (.inr (.inr (eF (ea 0) (ea 1) (ea 2) (ea 3))))))), wO (ea 0) 2 [.ref (eg 0), .ref (ef 0), .int (et 0), .int (nI (el 0)), .int (nI (ei 0))], wI (cy 1) (eg 0) 10 (gc 0), wI (cy 1) (ef 0) 7 (xc 0), wO (ea 1) 2 [.ref (eg 1), .ref (ef 1), .int (et 1), .int (nI (el 1)), .int (nI (ei 1))], wI (cy 1) (eg 1) 10 (gc 1), wI (cy 1) (ef 1) 7 (xc 1), wO (ea 2) 2 [.ref (eg 2), .ref (ef 2), .int (et 2), .int (nI (el 2)), .int (nI (ei 2))], wI (cy 1) (eg 2) 10 (gc 2), wI (cy 1) (ef 2) 7 (xc 2), wO (ea 3) 2 [.ref (eg 3), .ref (ef 3), .int (et 3), .int (nI (el 3)), .int (nI (ei 3))], wI (cy 1) (eg 3) 10 (gc 3), wI (cy 1) (ef 3) 7 (xc 3)] (fun (r : Int32) (u : Nat × (Nat → Int32) × (Nat → Int32) × (Nat → Int32) × (Nat → Int32) × (Nat → Int32) × (Nat → Int32) × (Nat → Int32) × (Nat → Nat) × (Nat → Nat) × (Nat → Nat → Int32) × (Nat → Nat → Int32) × (Nat → Int32) × (Nat → Int32) × (Nat → Int32)) => (u.1 ≤ 3) ∧ (rng u.2.2.1 3 9) ∧ (rng u.2.2.2.2.2.1 10 7) ∧ (rng u.2.2.2.2.2.2.1 20 7) ∧ (r = -1 ∨ ∃ j9 : Nat, j9 ≤ 3 ∧ r = nI j9) ∧ (okW c0 fw sl → rhA (rhC c0 sl fw (fun f9 => vdS (fun c9 => ecS (vlC tb fcb nb 3) (vlC tl fcl nl 0) (vlC tt fct nt 0) flo (farC spl (fp c9)) swi (fsn c9) svo sch f9 sl) (fun c9 => farC spl (fp c9)) (yeC fx ys) c1 = 2)) sl r) ∧ (∀ i9, i9 < 4 → u.2.2.2.2.2.2.2.2.1 i9 ≤ 10)) (fun (u : Nat × (Nat → Int32) × (Nat → Int32) × (Nat → Int32) × (Nat → Int32) × (Nat → Int32) × (Nat → Int32) × (Nat → Int32) × (Nat → Nat) × (Nat → Nat) × (Nat → Nat → Int32) × (Nat → Nat → Int32) × (Nat → Int32) × (Nat → Int32) × (Nat → Int32)) => [wO p0 6 [.ref p1, .ref er, .ref ro, .ref p2, .ref p3, .ref p4, .ref h0, .ref s0, .int (nI u.1)], wI (cy 1) p3 4 (u.2.2.2.1), wI (cy 1) p1 3 (u.2.1), wI (cy 1) p2 3 (u.2.2.1), wI (cy 1) p4 40 (u.2.2.2.2.1), wO h0 4 [.ref h1, .ref h2, .ref h3, .ref h4, .ref h5, .ref h6, .ref h7, .ref h8, .ref h9, .ref h10, .ref h11, .int ys, hv1, hv2, hv3, hv4], wI (cy 1) h1 4 (fc), wI (cy 1) h3 4 (fp), wI (cy 1) h2 8 (flo), wI (cy 1) h7 48 (fx), wO h9 3 [.ref h9a, .ref h9b, .int (nI nb), .int tb], wI (cy 1) h9a 280 (fcb), wI (cy 1) h9b 31 (u.2.2.2.2.2.2.2.2.2.2.2.2.1), wO h11 3 [.ref h11a, .ref h11b, .int (nI nt), .int tt], wI (cy 1) h11a 280 (fct), wI (cy 1) h11b 31 (u.2.2.2.2.2.2.2.2.2.2.2.2.2.1), wO h10 3 [.ref h10a, .ref h10b, .int (nI nl), .int tl], wI (cy 1) h10a 280 (fcl), wI (cy 1) h10b 31 (u.2.2.2.2.2.2.2.2.2.2.2.2.2.2), wO s0 7 [.ref s1, .ref s2, .int (nI sl), .int spl, .int svo, .int swi, .int sch], wI (cy 1) s1 10 (u.2.2.2.2.2.1), wI (cy 1) s2 4 (fsn), wI (cy 1) ro 20 (u.2.2.2.2.2.2.1), (er, .inl (cy 4, 4, .inr (.inr (.inr (.inr (eF (ea 0) (ea 1) (ea 2) (ea 3))))))), wO (ea 0) 2 [.ref (eg 0), .ref (ef 0), .int (u.2.2.2.2.2.2.2.1 0), .int (nI (u.2.2.2.2.2.2.2.2.1 0)), .int (nI (u.2.2.2.2.2.2.2.2.2.1 0))], wI (cy 1) (eg 0) 10 (u.2.2.2.2.2.2.2.2.2.2.1 0), wI (cy 1) (ef 0) 7 (u.2.2.2.2.2.2.2.2.2.2.2.1 0), wO (ea 1) 2 [.ref (eg 1), .ref (ef 1), .int (u.2.2.2.2.2.2.2.1 1), .int (nI (u.2.2.2.2.2.2.2.2.1 1)), .int (nI (u.2.2.2.2.2.2.2.2.2.1 1))], wI (cy 1) (eg 1) 10 (u.2.2.2.2.2.2.2.2.2.2.1 1), wI (cy 1) (ef 1) 7 (u.2.2.2.2.2.2.2.2.2.2.2.1 1), wO (ea 2) 2 [.ref (eg 2), .ref (ef 2), .int (u.2.2.2.2.2.2.2.1 2), .int (nI (u.2.2.2.2.2.2.2.2.1 2)), .int (nI (u.2.2.2.2.2.2.2.2.2.1 2))], wI (cy 1) (eg 2) 10 (u.2.2.2.2.2.2.2.2.2.2.1 2), wI (cy 1) (ef 2) 7 (u.2.2.2.2.2.2.2.2.2.2.2.1 2), wO (ea 3) 2 [.ref (eg 3), .ref (ef 3), .int (u.2.2.2.2.2.2.2.1 3), .int (nI (u.2.2.2.2.2.2.2.2.1 3)), .int (nI (u.2.2.2.2.2.2.2.2.2.1 3))], wI (cy 1) (eg 3) 10 (u.2.2.2.2.2.2.2.2.2.2.1 3), wI (cy 1) (ef 3) 7 (u.2.2.2.2.2.2.2.2.2.2.2.1 3)]) := by
  refine XMi.start (by decide) (Nat.le_of_ble_eq_true rfl) ?_
  intro p e s m below meth c args A ls Q hat hQ
  obtain ⟨hx, hb, hr, hml, hown, hg, hlocks, hin, hK, hA, hP, hD, hS, hE, hl⟩ := hat
  have hown : s.vm.findClass RX6 = some m.cls := hown
  have hl : lv_has ls 4 [(0, .ref p0), (1, .ref h0), (2, .ref s0)] := hl
  have hk_1 := hel 0 (by decide)
  have hk_2 := hel 1 (by decide)
  have hk_3 := hel 2 (by decide)
  have hk_4 := hel 3 (by decide)
  refine lv_aload_n hx hb dX6_fewest_0 rfl (lv_at hl 0 rfl) ?_
  refine lv_aload_n hx hb dX6_fewest_1 rfl (lv_at hl 1 rfl) ?_
  refine va_put (D := D) (ci := 6) (v := .ref h0) (ty := .object "CliffJudges$Hills") (C := RX6) (T := TX6) (N := 9) hx hb hg i_X6 tyX6 tyX6_ok nmX6 hown hK hP hD hS 0 rfl rfl 6 (by decide) (hg _ m_591) (fun _ h9 => h9) rfl (by decide +kernel) rfl rfl (Nat.le_of_ble_eq_true rfl) dX6_fewest_2 (fun H locs hP9 hD9 hS9 => ?_)
  clear hP hD hS
  refine reW [wO p0 6 [.ref p1, .ref er, .ref ro, .ref p2, .ref p3, .ref p4, .ref h0, rh2, .int (nI ch)], wI (cy 1) p3 4 (fne), wI (cy 1) p1 3 (ffd), wI (cy 1) p2 3 (fpc), wI (cy 1) p4 40 (fqi), wO h0 4 [.ref h1, .ref h2, .ref h3, .ref h4, .ref h5, .ref h6, .ref h7, .ref h8, .ref h9, .ref h10, .ref h11, .int ys, hv1, hv2, hv3, hv4], wI (cy 1) h1 4 (fc), wI (cy 1) h3 4 (fp), wI (cy 1) h2 8 (flo), wI (cy 1) h7 48 (fx), wO h9 3 [.ref h9a, .ref h9b, .int (nI nb), .int tb], wI (cy 1) h9a 280 (fcb), wI (cy 1) h9b 31 (fsb), wO h11 3 [.ref h11a, .ref h11b, .int (nI nt), .int tt], wI (cy 1) h11a 280 (fct), wI (cy 1) h11b 31 (fst), wO h10 3 [.ref h10a, .ref h10b, .int (nI nl), .int tl], wI (cy 1) h10a 280 (fcl), wI (cy 1) h10b 31 (fsl), wO s0 7 [.ref s1, .ref s2, .int (nI sl), .int spl, .int svo, .int swi, .int sch], wI (cy 1) s1 10 (fw), wI (cy 1) s2 4 (fsn), wI (cy 1) ro 20 (fr), (er, .inl (cy 4, 4, .inr (.inr (.inr (.inr (eF (ea 0) (ea 1) (ea 2) (ea 3))))))), wO (ea 0) 2 [.ref (eg 0), .ref (ef 0), .int (et 0), .int (nI (el 0)), .int (nI (ei 0))], wI (cy 1) (eg 0) 10 (gc 0), wI (cy 1) (ef 0) 7 (xc 0), wO (ea 1) 2 [.ref (eg 1), .ref (ef 1), .int (et 1), .int (nI (el 1)), .int (nI (ei 1))], wI (cy 1) (eg 1) 10 (gc 1), wI (cy 1) (ef 1) 7 (xc 1), wO (ea 2) 2 [.ref (eg 2), .ref (ef 2), .int (et 2), .int (nI (el 2)), .int (nI (ei 2))], wI (cy 1) (eg 2) 10 (gc 2), wI (cy 1) (ef 2) 7 (xc 2), wO (ea 3) 2 [.ref (eg 3), .ref (ef 3), .int (et 3), .int (nI (el 3)), .int (nI (ei 3))], wI (cy 1) (eg 3) 10 (gc 3), wI (cy 1) (ef 3) 7 (xc 3)] hP9 hD9 hS9 (fun hP hD hS => ?_)
  clear hP9 hD9 hS9
  refine lv_aload_n hx hb dX6_fewest_5 rfl (lv_at hl 0 rfl) ?_
  refine lv_aload_n hx hb dX6_fewest_6 rfl (lv_at hl 2 rfl) ?_
  refine va_put (D := D) (ci := 6) (v := .ref s0) (ty := .object "CliffJudges$Shout") (C := RX6) (T := TX6) (N := 9) hx hb hg i_X6 tyX6 tyX6_ok nmX6 hown hK hP hD hS 0 rfl rfl 7 (by decide) (hg _ m_592) (fun _ h9 => h9) rfl (by decide +kernel) rfl rfl (Nat.le_of_ble_eq_true rfl) dX6_fewest_7 (fun H locs hP9 hD9 hS9 => ?_)
  clear hP hD hS
  refine reW [wO p0 6 [.ref p1, .ref er, .ref ro, .ref p2, .ref p3, .ref p4, .ref h0, .ref s0, .int (nI ch)], wI (cy 1) p3 4 (fne), wI (cy 1) p1 3 (ffd), wI (cy 1) p2 3 (fpc), wI (cy 1) p4 40 (fqi), wO h0 4 [.ref h1, .ref h2, .ref h3, .ref h4, .ref h5, .ref h6, .ref h7, .ref h8, .ref h9, .ref h10, .ref h11, .int ys, hv1, hv2, hv3, hv4], wI (cy 1) h1 4 (fc), wI (cy 1) h3 4 (fp), wI (cy 1) h2 8 (flo), wI (cy 1) h7 48 (fx), wO h9 3 [.ref h9a, .ref h9b, .int (nI nb), .int tb], wI (cy 1) h9a 280 (fcb), wI (cy 1) h9b 31 (fsb), wO h11 3 [.ref h11a, .ref h11b, .int (nI nt), .int tt], wI (cy 1) h11a 280 (fct), wI (cy 1) h11b 31 (fst), wO h10 3 [.ref h10a, .ref h10b, .int (nI nl), .int tl], wI (cy 1) h10a 280 (fcl), wI (cy 1) h10b 31 (fsl), wO s0 7 [.ref s1, .ref s2, .int (nI sl), .int spl, .int svo, .int swi, .int sch], wI (cy 1) s1 10 (fw), wI (cy 1) s2 4 (fsn), wI (cy 1) ro 20 (fr), (er, .inl (cy 4, 4, .inr (.inr (.inr (.inr (eF (ea 0) (ea 1) (ea 2) (ea 3))))))), wO (ea 0) 2 [.ref (eg 0), .ref (ef 0), .int (et 0), .int (nI (el 0)), .int (nI (ei 0))], wI (cy 1) (eg 0) 10 (gc 0), wI (cy 1) (ef 0) 7 (xc 0), wO (ea 1) 2 [.ref (eg 1), .ref (ef 1), .int (et 1), .int (nI (el 1)), .int (nI (ei 1))], wI (cy 1) (eg 1) 10 (gc 1), wI (cy 1) (ef 1) 7 (xc 1), wO (ea 2) 2 [.ref (eg 2), .ref (ef 2), .int (et 2), .int (nI (el 2)), .int (nI (ei 2))], wI (cy 1) (eg 2) 10 (gc 2), wI (cy 1) (ef 2) 7 (xc 2), wO (ea 3) 2 [.ref (eg 3), .ref (ef 3), .int (et 3), .int (nI (el 3)), .int (nI (ei 3))], wI (cy 1) (eg 3) 10 (gc 3), wI (cy 1) (ef 3) 7 (xc 3)] hP9 hD9 hS9 (fun hP hD hS => ?_)
  clear hP9 hD9 hS9
  refine lv_iconst (v := 0) hx hb dX6_fewest_10 (by decide) ?_
  refine lv_istore_n (lv' := [(3, .int 0), (0, .ref p0), (1, .ref h0), (2, .ref s0)]) hx hb dX6_fewest_11 rfl hl (by decide) rfl (fun ls hl => ?_)
  have loop5 : ∀ (zn : Nat) (i5 : Nat) (t0_5 : Int32) (l0_5 : Nat) (i0_5 : Nat) (t1_5 : Int32) (l1_5 : Nat) (i1_5 : Nat) (t2_5 : Int32) (l2_5 : Nat) (i2_5 : Nat) (t3_5 : Int32) (l3_5 : Nat) (i3_5 : Nat) (fa13_5 : Nat → Int32) (fa14_5 : Nat → Int32) (fa15_5 : Nat → Int32) (fa16_5 : Nat → Int32) (fa17_5 : Nat → Int32) (fa18_5 : Nat → Int32) (fa19_5 : Nat → Int32) (fa20_5 : Nat → Int32) (fa21_5 : Nat → Int32) (fa22_5 : Nat → Int32) (fa23_5 : Nat → Int32), (i5 ≤ c1) → (l0_5 ≤ 10) → (l1_5 ≤ 10) → (l2_5 ≤ 10) → (l3_5 ≤ 10) → (0 < i5 → l0_5 = sl) → (1 < i5 → l1_5 = sl) → (2 < i5 → l2_5 = sl) → (3 < i5 → l3_5 = sl) → (0 < i5 → eaO (vlC tb fcb nb 3) (vlC tl fcl nl 0) (vlC tt fct nt 0) flo (farC spl (fp 0)) swi (fsn 0) svo sch c0 sl t0_5 i0_5 fa16_5) → (1 < i5 → eaO (vlC tb fcb nb 3) (vlC tl fcl nl 0) (vlC tt fct nt 0) flo (farC spl (fp 1)) swi (fsn 1) svo sch c0 sl t1_5 i1_5 fa17_5) → (2 < i5 → eaO (vlC tb fcb nb 3) (vlC tl fcl nl 0) (vlC tt fct nt 0) flo (farC spl (fp 2)) swi (fsn 2) svo sch c0 sl t2_5 i2_5 fa18_5) → (3 < i5 → eaO (vlC tb fcb nb 3) (vlC tl fcl nl 0) (vlC tt fct nt 0) flo (farC spl (fp 3)) swi (fsn 3) svo sch c0 sl t3_5 i3_5 fa19_5) → c1 - i5 + 1 ≤ zn → ∀ (H : Heap) (locs : List Loc), va_P D vwCl [wO p0 6 [.ref p1, .ref er, .ref ro, .ref p2, .ref p3, .ref p4, .ref h0, .ref s0, .int (nI ch)], wI (cy 1) p3 4 (fne), wI (cy 1) p1 3 (ffd), wI (cy 1) p2 3 (fpc), wI (cy 1) p4 40 (fqi), wO h0 4 [.ref h1, .ref h2, .ref h3, .ref h4, .ref h5, .ref h6, .ref h7, .ref h8, .ref h9, .ref h10, .ref h11, .int ys, hv1, hv2, hv3, hv4], wI (cy 1) h1 4 (fc), wI (cy 1) h3 4 (fp), wI (cy 1) h2 8 (flo), wI (cy 1) h7 48 (fx), wO h9 3 [.ref h9a, .ref h9b, .int (nI nb), .int tb], wI (cy 1) h9a 280 (fcb), wI (cy 1) h9b 31 (fa13_5), wO h11 3 [.ref h11a, .ref h11b, .int (nI nt), .int tt], wI (cy 1) h11a 280 (fct), wI (cy 1) h11b 31 (fa14_5), wO h10 3 [.ref h10a, .ref h10b, .int (nI nl), .int tl], wI (cy 1) h10a 280 (fcl), wI (cy 1) h10b 31 (fa15_5), wO s0 7 [.ref s1, .ref s2, .int (nI sl), .int spl, .int svo, .int swi, .int sch], wI (cy 1) s1 10 (fw), wI (cy 1) s2 4 (fsn), wI (cy 1) ro 20 (fr), (er, .inl (cy 4, 4, .inr (.inr (.inr (.inr (eF (ea 0) (ea 1) (ea 2) (ea 3))))))), wO (ea 0) 2 [.ref (eg 0), .ref (ef 0), .int t0_5, .int (nI l0_5), .int (nI i0_5)], wI (cy 1) (eg 0) 10 (fa16_5), wI (cy 1) (ef 0) 7 (fa20_5), wO (ea 1) 2 [.ref (eg 1), .ref (ef 1), .int t1_5, .int (nI l1_5), .int (nI i1_5)], wI (cy 1) (eg 1) 10 (fa17_5), wI (cy 1) (ef 1) 7 (fa21_5), wO (ea 2) 2 [.ref (eg 2), .ref (ef 2), .int t2_5, .int (nI l2_5), .int (nI i2_5)], wI (cy 1) (eg 2) 10 (fa18_5), wI (cy 1) (ef 2) 7 (fa22_5), wO (ea 3) 2 [.ref (eg 3), .ref (ef 3), .int t3_5, .int (nI l3_5), .int (nI i3_5)], wI (cy 1) (eg 3) 10 (fa19_5), wI (cy 1) (ef 3) 7 (fa23_5)] H → va_D A [wO p0 6 [.ref p1, .ref er, .ref ro, .ref p2, .ref p3, .ref p4, .ref h0, .ref s0, .int (nI ch)], wI (cy 1) p3 4 (fne), wI (cy 1) p1 3 (ffd), wI (cy 1) p2 3 (fpc), wI (cy 1) p4 40 (fqi), wO h0 4 [.ref h1, .ref h2, .ref h3, .ref h4, .ref h5, .ref h6, .ref h7, .ref h8, .ref h9, .ref h10, .ref h11, .int ys, hv1, hv2, hv3, hv4], wI (cy 1) h1 4 (fc), wI (cy 1) h3 4 (fp), wI (cy 1) h2 8 (flo), wI (cy 1) h7 48 (fx), wO h9 3 [.ref h9a, .ref h9b, .int (nI nb), .int tb], wI (cy 1) h9a 280 (fcb), wI (cy 1) h9b 31 (fa13_5), wO h11 3 [.ref h11a, .ref h11b, .int (nI nt), .int tt], wI (cy 1) h11a 280 (fct), wI (cy 1) h11b 31 (fa14_5), wO h10 3 [.ref h10a, .ref h10b, .int (nI nl), .int tl], wI (cy 1) h10a 280 (fcl), wI (cy 1) h10b 31 (fa15_5), wO s0 7 [.ref s1, .ref s2, .int (nI sl), .int spl, .int svo, .int swi, .int sch], wI (cy 1) s1 10 (fw), wI (cy 1) s2 4 (fsn), wI (cy 1) ro 20 (fr), (er, .inl (cy 4, 4, .inr (.inr (.inr (.inr (eF (ea 0) (ea 1) (ea 2) (ea 3))))))), wO (ea 0) 2 [.ref (eg 0), .ref (ef 0), .int t0_5, .int (nI l0_5), .int (nI i0_5)], wI (cy 1) (eg 0) 10 (fa16_5), wI (cy 1) (ef 0) 7 (fa20_5), wO (ea 1) 2 [.ref (eg 1), .ref (ef 1), .int t1_5, .int (nI l1_5), .int (nI i1_5)], wI (cy 1) (eg 1) 10 (fa17_5), wI (cy 1) (ef 1) 7 (fa21_5), wO (ea 2) 2 [.ref (eg 2), .ref (ef 2), .int t2_5, .int (nI l2_5), .int (nI i2_5)], wI (cy 1) (eg 2) 10 (fa18_5), wI (cy 1) (ef 2) 7 (fa22_5), wO (ea 3) 2 [.ref (eg 3), .ref (ef 3), .int t3_5, .int (nI l3_5), .int (nI i3_5)], wI (cy 1) (eg 3) 10 (fa19_5), wI (cy 1) (ef 3) 7 (fa23_5)] → va_S A s.heap H locs → ∀ ls : Array Slot, lv_has ls 4 [(3, .int (nI i5)), (0, .ref p0), (1, .ref h0), (2, .ref s0)] → W p l e (rmk 10 0 0) s m args below meth c H locs 0 0 Q (F0 m 12 ls []) := by
    try clear hP hD hS
    intro zn
    induction zn with
    | zero => intro i5 t0_5 l0_5 i0_5 t1_5 l1_5 i1_5 t2_5 l2_5 i2_5 t3_5 l3_5 i3_5 fa13_5 fa14_5 fa15_5 fa16_5 fa17_5 fa18_5 fa19_5 fa20_5 fa21_5 fa22_5 fa23_5 _ _ _ _ _ _ _ _ _ _ _ _ _ hz; exact absurd hz (by omega)
    | succ zn ih5 =>
      intro i5 t0_5 l0_5 i0_5 t1_5 l1_5 i1_5 t2_5 l2_5 i2_5 t3_5 l3_5 i3_5 fa13_5 fa14_5 fa15_5 fa16_5 fa17_5 fa18_5 fa19_5 fa20_5 fa21_5 fa22_5 fa23_5 hf0_5 hf1_5 hf2_5 hf3_5 hf4_5 hf5_5 hf6_5 hf7_5 hf8_5 hf9_5 hf10_5 hf11_5 hf12_5 hmu5 H locs hP hD hS ls hl
      refine lv_iload_n hx hb dX6_fewest_12 rfl (lv_at hl 0 rfl) ?_
      refine lv_aload_n hx hb dX6_fewest_13 rfl (lv_at hl 2 rfl) ?_
      refine va_get (D := D) (ci := 4) (v := .ref h1) (C := RX4) (T := TX4) (N := 16) hx hb hg i_X4 hown hK hP 5 rfl rfl 0 (by decide) (hg _ m_330) (fun _ h9 => h9) rfl dX6_fewest_14 ?_
      refine lv_iconst (v := 1) hx hb dX6_fewest_17 (by decide) ?_
      refine va_iald hx hb hK hP 6 1 rfl rfl (by unfold vp_in; decide) dX6_fewest_18 ?_
      refine lv_topi (fun y_6 hy_6 => ?_)
      obtain rfl : y_6 = nI c1 := hy_6.trans hcn.2.1
      refine lv_icmp_ge (tgt := 44) hx hb dX6_fewest_19 (by decide) (fun c_7 => ?_) (fun c_7 => ?_)
      · have q_8 : c1 ≤ i5 := q_le (a := c1) (b := i5) rfl rfl (by omega) (by omega) c_7
        refine lv_aload_n hx hb dX6_fewest_44 rfl (lv_at hl 1 rfl) ?_
        refine x_callVv (q := (RX6, TX6, 9)) (ci := 6) (q0 := 0) (wr := [wI (cy 1) p1 3 (ffd), wI (cy 1) p2 3 (fpc), wI (cy 1) p4 40 (fqi), wI (cy 1) h2 8 (flo), wI (cy 1) h7 48 (fx), wO h9 3 [.ref h9a, .ref h9b, .int (nI nb), .int tb], wI (cy 1) h9a 280 (fcb), wI (cy 1) h9b 31 (fa13_5), wO h11 3 [.ref h11a, .ref h11b, .int (nI nt), .int tt], wI (cy 1) h11a 280 (fct), wI (cy 1) h11b 31 (fa14_5), wO h10 3 [.ref h10a, .ref h10b, .int (nI nl), .int tl], wI (cy 1) h10a 280 (fcl), wI (cy 1) h10b 31 (fa15_5), wI (cy 1) s1 10 (fw), wI (cy 1) s2 4 (fsn), wI (cy 1) ro 20 (fr), (er, .inl (cy 4, 4, .inr (.inr (.inr (.inr (eF (ea 0) (ea 1) (ea 2) (ea 3))))))), wO (ea 0) 2 [.ref (eg 0), .ref (ef 0), .int t0_5, .int (nI l0_5), .int (nI i0_5)], wI (cy 1) (eg 0) 10 (fa16_5), wI (cy 1) (ef 0) 7 (fa20_5), wO (ea 1) 2 [.ref (eg 1), .ref (ef 1), .int t1_5, .int (nI l1_5), .int (nI i1_5)], wI (cy 1) (eg 1) 10 (fa17_5), wI (cy 1) (ef 1) 7 (fa21_5), wO (ea 2) 2 [.ref (eg 2), .ref (ef 2), .int t2_5, .int (nI l2_5), .int (nI i2_5)], wI (cy 1) (eg 2) 10 (fa18_5), wI (cy 1) (ef 2) 7 (fa22_5), wO (ea 3) 2 [.ref (eg 3), .ref (ef 3), .int t3_5, .int (nI l3_5), .int (nI i3_5)], wI (cy 1) (eg 3) 10 (fa19_5), wI (cy 1) (ef 3) 7 (fa23_5)]) (rest := []) ⟨hx, hb, hml, hown, hg, hl.1⟩ k_X6_60 (s_orderCliffs l D cy p0 p1 p2 p3 p4 er ro ch fne h0 h1 h2 h3 h4 h5 h6 h7 h8 h9 h10 h11 ((.int ys)) hv1 hv2 hv3 hv4 fc c0 c1 c2 c3 fp s0 s1 s2 sl spl svo swi sch (hcn) (by omega) (by omega) (by omega) (by omega)) E0_blind hK hP hD hS hA [0, 1, 5, 6, 7, 19] [2, 3, 4, 8, 9, 10, 11, 12, 13, 14, 15, 16, 17, 18, 20, 21, 22, 23, 24, 25, 26, 27, 28, 29, 30, 31, 32, 33, 34, 35] ⟨rfl, rfl, by decide +kernel, by decide +kernel, by decide +kernel⟩ rfl rfl (fun _ _ _ => trivial) dX6_fewest_45 rfl rfl (Nat.le_of_ble_eq_true rfl) ⟨Nat.le_of_ble_eq_true rfl, Nat.le_of_ble_eq_true rfl⟩ ⟨Nat.le_of_ble_eq_true rfl, Nat.le_of_ble_eq_true rfl⟩ (fun zu9 H locs hw9 hP9 hD9 hS9 => ?_)
        clear hP hD hS
        obtain ⟨fne2_10, rfl⟩ : ∃ z, z = zu9 := ⟨_, rfl⟩
        refine reW [wI (cy 1) p1 3 (ffd), wI (cy 1) p2 3 (fpc), wI (cy 1) p4 40 (fqi), wI (cy 1) h2 8 (flo), wI (cy 1) h7 48 (fx), wO h9 3 [.ref h9a, .ref h9b, .int (nI nb), .int tb], wI (cy 1) h9a 280 (fcb), wI (cy 1) h9b 31 (fa13_5), wO h11 3 [.ref h11a, .ref h11b, .int (nI nt), .int tt], wI (cy 1) h11a 280 (fct), wI (cy 1) h11b 31 (fa14_5), wO h10 3 [.ref h10a, .ref h10b, .int (nI nl), .int tl], wI (cy 1) h10a 280 (fcl), wI (cy 1) h10b 31 (fa15_5), wI (cy 1) s1 10 (fw), wI (cy 1) s2 4 (fsn), wI (cy 1) ro 20 (fr), (er, .inl (cy 4, 4, .inr (.inr (.inr (.inr (eF (ea 0) (ea 1) (ea 2) (ea 3))))))), wO (ea 0) 2 [.ref (eg 0), .ref (ef 0), .int t0_5, .int (nI l0_5), .int (nI i0_5)], wI (cy 1) (eg 0) 10 (fa16_5), wI (cy 1) (ef 0) 7 (fa20_5), wO (ea 1) 2 [.ref (eg 1), .ref (ef 1), .int t1_5, .int (nI l1_5), .int (nI i1_5)], wI (cy 1) (eg 1) 10 (fa17_5), wI (cy 1) (ef 1) 7 (fa21_5), wO (ea 2) 2 [.ref (eg 2), .ref (ef 2), .int t2_5, .int (nI l2_5), .int (nI i2_5)], wI (cy 1) (eg 2) 10 (fa18_5), wI (cy 1) (ef 2) 7 (fa22_5), wO (ea 3) 2 [.ref (eg 3), .ref (ef 3), .int t3_5, .int (nI l3_5), .int (nI i3_5)], wI (cy 1) (eg 3) 10 (fa19_5), wI (cy 1) (ef 3) 7 (fa23_5), wO p0 6 [.ref p1, .ref er, .ref ro, .ref p2, .ref p3, .ref p4, .ref h0, .ref s0, .int (nI ch)], wI (cy 1) p3 4 (fne2_10), wO h0 4 [.ref h1, .ref h2, .ref h3, .ref h4, .ref h5, .ref h6, .ref h7, .ref h8, .ref h9, .ref h10, .ref h11, .int ys, hv1, hv2, hv3, hv4], wI (cy 1) h1 4 (fc), wI (cy 1) h3 4 (fp), wO s0 7 [.ref s1, .ref s2, .int (nI sl), .int spl, .int svo, .int swi, .int sch]] hP9 hD9 hS9 (fun hP hD hS => ?_)
        clear hP9 hD9 hS9
        refine W.widen (k := 0) (n := 0) (Nat.le_of_ble_eq_true rfl) (Nat.le_of_ble_eq_true rfl) ?_
        replace hw9 : (nOK fne2_10 c1) ∧ (ordR fne2_10 (fun c9 => farC spl (fp c9)) c1) := hw9
        obtain ⟨f_11, f_12⟩ := hw9
        refine lv_aload_n hx hb dX6_fewest_48 rfl (lv_at hl 1 rfl) ?_
        refine x_callVv (q := (RX6, TX6, 9)) (ci := 6) (q0 := 0) (wr := [wI (cy 1) p1 3 (ffd), wI (cy 1) p2 3 (fpc), wI (cy 1) h2 8 (flo), wI (cy 1) h7 48 (fx), wO h9 3 [.ref h9a, .ref h9b, .int (nI nb), .int tb], wI (cy 1) h9a 280 (fcb), wI (cy 1) h9b 31 (fa13_5), wO h11 3 [.ref h11a, .ref h11b, .int (nI nt), .int tt], wI (cy 1) h11a 280 (fct), wI (cy 1) h11b 31 (fa14_5), wO h10 3 [.ref h10a, .ref h10b, .int (nI nl), .int tl], wI (cy 1) h10a 280 (fcl), wI (cy 1) h10b 31 (fa15_5), wI (cy 1) s1 10 (fw), wI (cy 1) s2 4 (fsn), wI (cy 1) ro 20 (fr), wI (cy 1) h3 4 (fp)]) (rest := []) ⟨hx, hb, hml, hown, hg, hl.1⟩ k_X6_63 (s_findQuiet l D cy p0 p1 p2 p3 p4 er ro ch fne2_10 fqi h0 h1 h2 h3 h4 h5 h6 h7 h8 h9 h10 h11 ((.int ys)) hv1 hv2 hv3 hv4 fc c0 c1 c2 c3 s0 s1 s2 sl spl svo swi sch ea eg ef ((fun k => [t0_5, t1_5, t2_5, t3_5].getD k 0)) ((fun k => [l0_5, l1_5, l2_5, l3_5].getD k 0)) ((fun k => [i0_5, i1_5, i2_5, i3_5].getD k 0)) ((fun k => [fa16_5, fa17_5, fa18_5, fa19_5].getD k (fun _ => 0))) ((fun k => [fa20_5, fa21_5, fa22_5, fa23_5].getD k (fun _ => 0))) (f_11) (hcn) (by omega) (by omega) (by omega) (by omega) (by omega)) E0_blind hK hP hD hS hA [30, 31, 2, 32, 33, 35, 17, 18, 19, 20, 21, 22, 23, 24, 25, 26, 27, 28, 29] [0, 1, 3, 4, 5, 6, 7, 8, 9, 10, 11, 12, 13, 14, 15, 16, 34] ⟨rfl, rfl, by decide +kernel, by decide +kernel, by decide +kernel⟩ rfl rfl (fun _ _ _ => trivial) dX6_fewest_49 rfl rfl (Nat.le_of_ble_eq_true rfl) ⟨Nat.le_of_ble_eq_true rfl, Nat.le_of_ble_eq_true rfl⟩ ⟨Nat.le_of_ble_eq_true rfl, Nat.le_of_ble_eq_true rfl⟩ (fun zu13 H locs hw13 hP9 hD9 hS9 => ?_)
        clear hP hD hS
        obtain ⟨fqi2_14, rfl⟩ : ∃ z, z = zu13 := ⟨_, rfl⟩
        refine reW [wI (cy 1) p1 3 (ffd), wI (cy 1) p2 3 (fpc), wI (cy 1) h2 8 (flo), wI (cy 1) h7 48 (fx), wO h9 3 [.ref h9a, .ref h9b, .int (nI nb), .int tb], wI (cy 1) h9a 280 (fcb), wI (cy 1) h9b 31 (fa13_5), wO h11 3 [.ref h11a, .ref h11b, .int (nI nt), .int tt], wI (cy 1) h11a 280 (fct), wI (cy 1) h11b 31 (fa14_5), wO h10 3 [.ref h10a, .ref h10b, .int (nI nl), .int tl], wI (cy 1) h10a 280 (fcl), wI (cy 1) h10b 31 (fa15_5), wI (cy 1) s1 10 (fw), wI (cy 1) s2 4 (fsn), wI (cy 1) ro 20 (fr), wI (cy 1) h3 4 (fp), wO p0 6 [.ref p1, .ref er, .ref ro, .ref p2, .ref p3, .ref p4, .ref h0, .ref s0, .int (nI ch)], wI (cy 1) p3 4 (fne2_10), wI (cy 1) p4 40 (fqi2_14), wO h0 4 [.ref h1, .ref h2, .ref h3, .ref h4, .ref h5, .ref h6, .ref h7, .ref h8, .ref h9, .ref h10, .ref h11, .int ys, hv1, hv2, hv3, hv4], wI (cy 1) h1 4 (fc), wO s0 7 [.ref s1, .ref s2, .int (nI sl), .int spl, .int svo, .int swi, .int sch], (er, .inl (cy 4, 4, .inr (.inr (.inr (.inr (eF (ea 0) (ea 1) (ea 2) (ea 3))))))), wO (ea 0) 2 [.ref (eg 0), .ref (ef 0), .int (((fun k => [t0_5, t1_5, t2_5, t3_5].getD k 0)) 0), .int (nI (((fun k => [l0_5, l1_5, l2_5, l3_5].getD k 0)) 0)), .int (nI (((fun k => [i0_5, i1_5, i2_5, i3_5].getD k 0)) 0))], wI (cy 1) (eg 0) 10 (((fun k => [fa16_5, fa17_5, fa18_5, fa19_5].getD k (fun _ => 0))) 0), wI (cy 1) (ef 0) 7 (((fun k => [fa20_5, fa21_5, fa22_5, fa23_5].getD k (fun _ => 0))) 0), wO (ea 1) 2 [.ref (eg 1), .ref (ef 1), .int (((fun k => [t0_5, t1_5, t2_5, t3_5].getD k 0)) 1), .int (nI (((fun k => [l0_5, l1_5, l2_5, l3_5].getD k 0)) 1)), .int (nI (((fun k => [i0_5, i1_5, i2_5, i3_5].getD k 0)) 1))], wI (cy 1) (eg 1) 10 (((fun k => [fa16_5, fa17_5, fa18_5, fa19_5].getD k (fun _ => 0))) 1), wI (cy 1) (ef 1) 7 (((fun k => [fa20_5, fa21_5, fa22_5, fa23_5].getD k (fun _ => 0))) 1), wO (ea 2) 2 [.ref (eg 2), .ref (ef 2), .int (((fun k => [t0_5, t1_5, t2_5, t3_5].getD k 0)) 2), .int (nI (((fun k => [l0_5, l1_5, l2_5, l3_5].getD k 0)) 2)), .int (nI (((fun k => [i0_5, i1_5, i2_5, i3_5].getD k 0)) 2))], wI (cy 1) (eg 2) 10 (((fun k => [fa16_5, fa17_5, fa18_5, fa19_5].getD k (fun _ => 0))) 2), wI (cy 1) (ef 2) 7 (((fun k => [fa20_5, fa21_5, fa22_5, fa23_5].getD k (fun _ => 0))) 2), wO (ea 3) 2 [.ref (eg 3), .ref (ef 3), .int (((fun k => [t0_5, t1_5, t2_5, t3_5].getD k 0)) 3), .int (nI (((fun k => [l0_5, l1_5, l2_5, l3_5].getD k 0)) 3)), .int (nI (((fun k => [i0_5, i1_5, i2_5, i3_5].getD k 0)) 3))], wI (cy 1) (eg 3) 10 (((fun k => [fa16_5, fa17_5, fa18_5, fa19_5].getD k (fun _ => 0))) 3), wI (cy 1) (ef 3) 7 (((fun k => [fa20_5, fa21_5, fa22_5, fa23_5].getD k (fun _ => 0))) 3)] hP9 hD9 hS9 (fun hP hD hS => ?_)
        clear hP9 hD9 hS9
        refine W.widen (k := 0) (n := 0) (Nat.le_of_ble_eq_true rfl) (Nat.le_of_ble_eq_true rfl) ?_
        replace hw13 : (∀ rk9 i9 w9 : Nat, rk9 < c1 → i9 < sl → w9 < 8 → bt (fqi2_14 (rk9 * 10 + i9)) w9 = alF (quQ ((fun k => [fa16_5, fa17_5, fa18_5, fa19_5].getD k (fun _ => 0))) fne2_10 i9 w9) rk9) := hw13
        have f_15 := hw13
        replace hP : va_P D vwCl [wI (cy 1) p1 3 (ffd), wI (cy 1) p2 3 (fpc), wI (cy 1) h2 8 (flo), wI (cy 1) h7 48 (fx), wO h9 3 [.ref h9a, .ref h9b, .int (nI nb), .int tb], wI (cy 1) h9a 280 (fcb), wI (cy 1) h9b 31 (fa13_5), wO h11 3 [.ref h11a, .ref h11b, .int (nI nt), .int tt], wI (cy 1) h11a 280 (fct), wI (cy 1) h11b 31 (fa14_5), wO h10 3 [.ref h10a, .ref h10b, .int (nI nl), .int tl], wI (cy 1) h10a 280 (fcl), wI (cy 1) h10b 31 (fa15_5), wI (cy 1) s1 10 (fw), wI (cy 1) s2 4 (fsn), wI (cy 1) ro 20 (fr), wI (cy 1) h3 4 (fp), wO p0 6 [.ref p1, .ref er, .ref ro, .ref p2, .ref p3, .ref p4, .ref h0, .ref s0, .int (nI ch)], wI (cy 1) p3 4 (fne2_10), wI (cy 1) p4 40 (fqi2_14), wO h0 4 [.ref h1, .ref h2, .ref h3, .ref h4, .ref h5, .ref h6, .ref h7, .ref h8, .ref h9, .ref h10, .ref h11, .int ys, hv1, hv2, hv3, hv4], wI (cy 1) h1 4 (fc), wO s0 7 [.ref s1, .ref s2, .int (nI sl), .int spl, .int svo, .int swi, .int sch], (er, .inl (cy 4, 4, .inr (.inr (.inr (.inr (eF (ea 0) (ea 1) (ea 2) (ea 3))))))), wO (ea 0) 2 [.ref (eg 0), .ref (ef 0), .int t0_5, .int (nI l0_5), .int (nI i0_5)], wI (cy 1) (eg 0) 10 (fa16_5), wI (cy 1) (ef 0) 7 (fa20_5), wO (ea 1) 2 [.ref (eg 1), .ref (ef 1), .int t1_5, .int (nI l1_5), .int (nI i1_5)], wI (cy 1) (eg 1) 10 (fa17_5), wI (cy 1) (ef 1) 7 (fa21_5), wO (ea 2) 2 [.ref (eg 2), .ref (ef 2), .int t2_5, .int (nI l2_5), .int (nI i2_5)], wI (cy 1) (eg 2) 10 (fa18_5), wI (cy 1) (ef 2) 7 (fa22_5), wO (ea 3) 2 [.ref (eg 3), .ref (ef 3), .int t3_5, .int (nI l3_5), .int (nI i3_5)], wI (cy 1) (eg 3) 10 (fa19_5), wI (cy 1) (ef 3) 7 (fa23_5)] H := hP
        replace hD : va_D A [wI (cy 1) p1 3 (ffd), wI (cy 1) p2 3 (fpc), wI (cy 1) h2 8 (flo), wI (cy 1) h7 48 (fx), wO h9 3 [.ref h9a, .ref h9b, .int (nI nb), .int tb], wI (cy 1) h9a 280 (fcb), wI (cy 1) h9b 31 (fa13_5), wO h11 3 [.ref h11a, .ref h11b, .int (nI nt), .int tt], wI (cy 1) h11a 280 (fct), wI (cy 1) h11b 31 (fa14_5), wO h10 3 [.ref h10a, .ref h10b, .int (nI nl), .int tl], wI (cy 1) h10a 280 (fcl), wI (cy 1) h10b 31 (fa15_5), wI (cy 1) s1 10 (fw), wI (cy 1) s2 4 (fsn), wI (cy 1) ro 20 (fr), wI (cy 1) h3 4 (fp), wO p0 6 [.ref p1, .ref er, .ref ro, .ref p2, .ref p3, .ref p4, .ref h0, .ref s0, .int (nI ch)], wI (cy 1) p3 4 (fne2_10), wI (cy 1) p4 40 (fqi2_14), wO h0 4 [.ref h1, .ref h2, .ref h3, .ref h4, .ref h5, .ref h6, .ref h7, .ref h8, .ref h9, .ref h10, .ref h11, .int ys, hv1, hv2, hv3, hv4], wI (cy 1) h1 4 (fc), wO s0 7 [.ref s1, .ref s2, .int (nI sl), .int spl, .int svo, .int swi, .int sch], (er, .inl (cy 4, 4, .inr (.inr (.inr (.inr (eF (ea 0) (ea 1) (ea 2) (ea 3))))))), wO (ea 0) 2 [.ref (eg 0), .ref (ef 0), .int t0_5, .int (nI l0_5), .int (nI i0_5)], wI (cy 1) (eg 0) 10 (fa16_5), wI (cy 1) (ef 0) 7 (fa20_5), wO (ea 1) 2 [.ref (eg 1), .ref (ef 1), .int t1_5, .int (nI l1_5), .int (nI i1_5)], wI (cy 1) (eg 1) 10 (fa17_5), wI (cy 1) (ef 1) 7 (fa21_5), wO (ea 2) 2 [.ref (eg 2), .ref (ef 2), .int t2_5, .int (nI l2_5), .int (nI i2_5)], wI (cy 1) (eg 2) 10 (fa18_5), wI (cy 1) (ef 2) 7 (fa22_5), wO (ea 3) 2 [.ref (eg 3), .ref (ef 3), .int t3_5, .int (nI l3_5), .int (nI i3_5)], wI (cy 1) (eg 3) 10 (fa19_5), wI (cy 1) (ef 3) 7 (fa23_5)] := hD
        refine lv_iconst (v := 0) hx hb dX6_fewest_52 (by decide) ?_
        refine lv_istore_n (lv' := [(3, .int 0), (0, .ref p0), (1, .ref h0), (2, .ref s0)]) hx hb dX6_fewest_53 rfl hl (by decide) rfl (fun ls hl => ?_)
        have loop16 : ∀ (zn : Nat) (z16 : Nat) (cq16 : Nat) (fa2_16 : Nat → Int32), (rng fa2_16 3 9) → (z16 ≤ 4) → (cq16 ≤ 3) → (okW c0 fw sl → ∀ q9, q9 < z16 → ¬ cpP (fun c9 => (∃ k9, k9 < c1 ∧ byY fx ((fun k => [fa16_5, fa17_5, fa18_5, fa19_5].getD k (fun _ => 0)) (fne2_10 k9).toNatClampNeg) ys (mvB c0 fw c9 (fun k => [fa16_5, fa17_5, fa18_5, fa19_5].getD k (fun _ => 0)) fne2_10 k9) (plS ((fun k => [t0_5, t1_5, t2_5, t3_5].getD k 0) (fne2_10 k9).toNatClampNeg) sl) c0 sl)) sl q9 0 0) → 4 - z16 + 1 ≤ zn → ∀ (H : Heap) (locs : List Loc), va_P D vwCl [wI (cy 1) p1 3 (ffd), wI (cy 1) p2 3 (fa2_16), wI (cy 1) h2 8 (flo), wI (cy 1) h7 48 (fx), wO h9 3 [.ref h9a, .ref h9b, .int (nI nb), .int tb], wI (cy 1) h9a 280 (fcb), wI (cy 1) h9b 31 (fa13_5), wO h11 3 [.ref h11a, .ref h11b, .int (nI nt), .int tt], wI (cy 1) h11a 280 (fct), wI (cy 1) h11b 31 (fa14_5), wO h10 3 [.ref h10a, .ref h10b, .int (nI nl), .int tl], wI (cy 1) h10a 280 (fcl), wI (cy 1) h10b 31 (fa15_5), wI (cy 1) s1 10 (fw), wI (cy 1) s2 4 (fsn), wI (cy 1) ro 20 (fr), wI (cy 1) h3 4 (fp), wO p0 6 [.ref p1, .ref er, .ref ro, .ref p2, .ref p3, .ref p4, .ref h0, .ref s0, .int (nI cq16)], wI (cy 1) p3 4 (fne2_10), wI (cy 1) p4 40 (fqi2_14), wO h0 4 [.ref h1, .ref h2, .ref h3, .ref h4, .ref h5, .ref h6, .ref h7, .ref h8, .ref h9, .ref h10, .ref h11, .int ys, hv1, hv2, hv3, hv4], wI (cy 1) h1 4 (fc), wO s0 7 [.ref s1, .ref s2, .int (nI sl), .int spl, .int svo, .int swi, .int sch], (er, .inl (cy 4, 4, .inr (.inr (.inr (.inr (eF (ea 0) (ea 1) (ea 2) (ea 3))))))), wO (ea 0) 2 [.ref (eg 0), .ref (ef 0), .int t0_5, .int (nI l0_5), .int (nI i0_5)], wI (cy 1) (eg 0) 10 (fa16_5), wI (cy 1) (ef 0) 7 (fa20_5), wO (ea 1) 2 [.ref (eg 1), .ref (ef 1), .int t1_5, .int (nI l1_5), .int (nI i1_5)], wI (cy 1) (eg 1) 10 (fa17_5), wI (cy 1) (ef 1) 7 (fa21_5), wO (ea 2) 2 [.ref (eg 2), .ref (ef 2), .int t2_5, .int (nI l2_5), .int (nI i2_5)], wI (cy 1) (eg 2) 10 (fa18_5), wI (cy 1) (ef 2) 7 (fa22_5), wO (ea 3) 2 [.ref (eg 3), .ref (ef 3), .int t3_5, .int (nI l3_5), .int (nI i3_5)], wI (cy 1) (eg 3) 10 (fa19_5), wI (cy 1) (ef 3) 7 (fa23_5)] H → va_D A [wI (cy 1) p1 3 (ffd), wI (cy 1) p2 3 (fa2_16), wI (cy 1) h2 8 (flo), wI (cy 1) h7 48 (fx), wO h9 3 [.ref h9a, .ref h9b, .int (nI nb), .int tb], wI (cy 1) h9a 280 (fcb), wI (cy 1) h9b 31 (fa13_5), wO h11 3 [.ref h11a, .ref h11b, .int (nI nt), .int tt], wI (cy 1) h11a 280 (fct), wI (cy 1) h11b 31 (fa14_5), wO h10 3 [.ref h10a, .ref h10b, .int (nI nl), .int tl], wI (cy 1) h10a 280 (fcl), wI (cy 1) h10b 31 (fa15_5), wI (cy 1) s1 10 (fw), wI (cy 1) s2 4 (fsn), wI (cy 1) ro 20 (fr), wI (cy 1) h3 4 (fp), wO p0 6 [.ref p1, .ref er, .ref ro, .ref p2, .ref p3, .ref p4, .ref h0, .ref s0, .int (nI cq16)], wI (cy 1) p3 4 (fne2_10), wI (cy 1) p4 40 (fqi2_14), wO h0 4 [.ref h1, .ref h2, .ref h3, .ref h4, .ref h5, .ref h6, .ref h7, .ref h8, .ref h9, .ref h10, .ref h11, .int ys, hv1, hv2, hv3, hv4], wI (cy 1) h1 4 (fc), wO s0 7 [.ref s1, .ref s2, .int (nI sl), .int spl, .int svo, .int swi, .int sch], (er, .inl (cy 4, 4, .inr (.inr (.inr (.inr (eF (ea 0) (ea 1) (ea 2) (ea 3))))))), wO (ea 0) 2 [.ref (eg 0), .ref (ef 0), .int t0_5, .int (nI l0_5), .int (nI i0_5)], wI (cy 1) (eg 0) 10 (fa16_5), wI (cy 1) (ef 0) 7 (fa20_5), wO (ea 1) 2 [.ref (eg 1), .ref (ef 1), .int t1_5, .int (nI l1_5), .int (nI i1_5)], wI (cy 1) (eg 1) 10 (fa17_5), wI (cy 1) (ef 1) 7 (fa21_5), wO (ea 2) 2 [.ref (eg 2), .ref (ef 2), .int t2_5, .int (nI l2_5), .int (nI i2_5)], wI (cy 1) (eg 2) 10 (fa18_5), wI (cy 1) (ef 2) 7 (fa22_5), wO (ea 3) 2 [.ref (eg 3), .ref (ef 3), .int t3_5, .int (nI l3_5), .int (nI i3_5)], wI (cy 1) (eg 3) 10 (fa19_5), wI (cy 1) (ef 3) 7 (fa23_5)] → va_S A s.heap H locs → ∀ ls : Array Slot, lv_has ls 4 [(3, .int (nI z16)), (0, .ref p0), (1, .ref h0), (2, .ref s0)] → W p l e (rmk 10 0 0) s m args below meth c H locs 0 0 Q (F0 m 54 ls []) := by
          try clear hP hD hS
          intro zn
          induction zn with
          | zero => intro z16 cq16 fa2_16 _ _ _ _ hz; exact absurd hz (by omega)
          | succ zn ih16 =>
            intro z16 cq16 fa2_16 ha3_16 hf0_16 hf1_16 hf2_16 hmu16 H locs hP hD hS ls hl
            refine lv_iload_n hx hb dX6_fewest_54 rfl (lv_at hl 0 rfl) ?_
            refine lv_iconst (v := 3) hx hb dX6_fewest_55 (by decide) ?_
            refine lv_icmp_gt (tgt := 88) hx hb dX6_fewest_56 (by decide) (fun c_17 => ?_) (fun c_17 => ?_)
            · have q_18 : 3 < z16 := q_lt (a := 3) (b := z16) rfl rfl (by omega) (by omega) c_17
              refine lv_iconst (v := -1) hx hb dX6_fewest_88 (by decide) ?_
              exact x_iret hQ hx hb hr hlocks hK hP hD hS dX6_fewest_89 (cq16, ffd, fa2_16, fne2_10, fqi2_14, fw, fr, (fun k => [t0_5, t1_5, t2_5, t3_5].getD k 0), (fun k => [l0_5, l1_5, l2_5, l3_5].getD k 0), (fun k => [i0_5, i1_5, i2_5, i3_5].getD k 0), (fun k => [fa16_5, fa17_5, fa18_5, fa19_5].getD k (fun _ => 0)), (fun k => [fa20_5, fa21_5, fa22_5, fa23_5].getD k (fun _ => 0)), fa13_5, fa14_5, fa15_5) (⟨(show cq16 ≤ 3 from by omega), ha3_16, hsw, hrw, Or.inl rfl, (fun hok9 => rhA_cg (fun cg9 => rh_eq hc0 (by omega) f_12 (get4P (P := fun c9 => eaO (vlC tb fcb nb 3) (vlC tl fcl nl 0) (vlC tt fct nt 0) flo (farC spl (fp c9)) swi (fsn c9) svo sch c0 sl ((fun k => [t0_5, t1_5, t2_5, t3_5].getD k 0) c9) ((fun k => [i0_5, i1_5, i2_5, i3_5].getD k 0) c9) ((fun k => [fa16_5, fa17_5, fa18_5, fa19_5].getD k (fun _ => 0)) c9)) (fun h9 => hf9_5 (by omega)) (fun h9 => hf10_5 (by omega)) (fun h9 => hf11_5 (by omega)) (fun h9 => hf12_5 (by omega)) (by omega))) (Or.inl ⟨rfl, fun q9 h9 => hf2_16 hok9 q9 (by omega)⟩)), get4 (by omega) (by omega) (by omega) (by omega)⟩) [17, 18, 0, 1, 19, 20, 21, 16, 2, 3, 4, 5, 6, 7, 8, 9, 10, 11, 12, 22, 13, 14, 15, 23, 24, 25, 26, 27, 28, 29, 30, 31, 32, 33, 34, 35] (by decide +kernel) rfl (Nat.le_of_ble_eq_true rfl) (Nat.le_of_ble_eq_true rfl)
            · have q_18 : z16 ≤ 3 := q_nlt (a := 3) (b := z16) rfl rfl (by omega) (by omega) c_17
              refine lv_aload_n hx hb dX6_fewest_59 rfl (lv_at hl 1 rfl) ?_
              refine lv_iload_n hx hb dX6_fewest_60 rfl (lv_at hl 0 rfl) ?_
              refine va_put (D := D) (ci := 6) (v := .int (nI z16)) (ty := .int) (C := RX6) (T := TX6) (N := 9) hx hb hg i_X6 tyX6 tyX6_ok nmX6 hown hK hP hD hS 17 rfl rfl 8 (by decide) (hg _ m_593) (fun _ h9 => h9) rfl (by decide +kernel) rfl rfl (Nat.le_of_ble_eq_true rfl) dX6_fewest_61 (fun H locs hP9 hD9 hS9 => ?_)
              clear hP hD hS
              refine reW [wI (cy 1) p1 3 (ffd), wI (cy 1) p2 3 (fa2_16), wI (cy 1) h2 8 (flo), wI (cy 1) h7 48 (fx), wO h9 3 [.ref h9a, .ref h9b, .int (nI nb), .int tb], wI (cy 1) h9a 280 (fcb), wI (cy 1) h9b 31 (fa13_5), wO h11 3 [.ref h11a, .ref h11b, .int (nI nt), .int tt], wI (cy 1) h11a 280 (fct), wI (cy 1) h11b 31 (fa14_5), wO h10 3 [.ref h10a, .ref h10b, .int (nI nl), .int tl], wI (cy 1) h10a 280 (fcl), wI (cy 1) h10b 31 (fa15_5), wI (cy 1) s1 10 (fw), wI (cy 1) s2 4 (fsn), wI (cy 1) ro 20 (fr), wI (cy 1) h3 4 (fp), wO p0 6 [.ref p1, .ref er, .ref ro, .ref p2, .ref p3, .ref p4, .ref h0, .ref s0, .int (nI z16)], wI (cy 1) p3 4 (fne2_10), wI (cy 1) p4 40 (fqi2_14), wO h0 4 [.ref h1, .ref h2, .ref h3, .ref h4, .ref h5, .ref h6, .ref h7, .ref h8, .ref h9, .ref h10, .ref h11, .int ys, hv1, hv2, hv3, hv4], wI (cy 1) h1 4 (fc), wO s0 7 [.ref s1, .ref s2, .int (nI sl), .int spl, .int svo, .int swi, .int sch], (er, .inl (cy 4, 4, .inr (.inr (.inr (.inr (eF (ea 0) (ea 1) (ea 2) (ea 3))))))), wO (ea 0) 2 [.ref (eg 0), .ref (ef 0), .int t0_5, .int (nI l0_5), .int (nI i0_5)], wI (cy 1) (eg 0) 10 (fa16_5), wI (cy 1) (ef 0) 7 (fa20_5), wO (ea 1) 2 [.ref (eg 1), .ref (ef 1), .int t1_5, .int (nI l1_5), .int (nI i1_5)], wI (cy 1) (eg 1) 10 (fa17_5), wI (cy 1) (ef 1) 7 (fa21_5), wO (ea 2) 2 [.ref (eg 2), .ref (ef 2), .int t2_5, .int (nI l2_5), .int (nI i2_5)], wI (cy 1) (eg 2) 10 (fa18_5), wI (cy 1) (ef 2) 7 (fa22_5), wO (ea 3) 2 [.ref (eg 3), .ref (ef 3), .int t3_5, .int (nI l3_5), .int (nI i3_5)], wI (cy 1) (eg 3) 10 (fa19_5), wI (cy 1) (ef 3) 7 (fa23_5)] hP9 hD9 hS9 (fun hP hD hS => ?_)
              clear hP9 hD9 hS9
              refine lv_aload_n hx hb dX6_fewest_64 rfl (lv_at hl 1 rfl) ?_
              refine lv_iconst (v := 0) hx hb dX6_fewest_65 (by decide) ?_
              refine lv_iconst (v := 0) hx hb dX6_fewest_66 (by decide) ?_
              refine lv_iconst (v := 0) hx hb dX6_fewest_67 (by decide) ?_
              refine x_callVi (q := (RX6, TX6, 9)) (ci := 6) (q0 := 0) (wr := [wI (cy 1) p1 3 (ffd), wI (cy 1) h2 8 (flo), wO h9 3 [.ref h9a, .ref h9b, .int (nI nb), .int tb], wI (cy 1) h9a 280 (fcb), wI (cy 1) h9b 31 (fa13_5), wO h11 3 [.ref h11a, .ref h11b, .int (nI nt), .int tt], wI (cy 1) h11a 280 (fct), wI (cy 1) h11b 31 (fa14_5), wO h10 3 [.ref h10a, .ref h10b, .int (nI nl), .int tl], wI (cy 1) h10a 280 (fcl), wI (cy 1) h10b 31 (fa15_5), wI (cy 1) s2 4 (fsn), wI (cy 1) ro 20 (fr), wI (cy 1) h3 4 (fp)]) (rest := []) ⟨hx, hb, hml, hown, hg, hl.1⟩ k_X6_69 (s_choosePlaces0 l D cy p0 p1 p2 p3 p4 er ro z16 fne2_10 fqi2_14 fa2_16 h0 h1 h2 h3 h4 h5 h6 h7 h8 h9 h10 h11 hv1 hv2 hv3 hv4 ys fc c0 c1 c2 c3 fx s0 s1 s2 sl spl svo swi sch fw ea eg ef ((fun k => [t0_5, t1_5, t2_5, t3_5].getD k 0)) ((fun k => [l0_5, l1_5, l2_5, l3_5].getD k 0)) ((fun k => [i0_5, i1_5, i2_5, i3_5].getD k 0)) ((fun k => [fa16_5, fa17_5, fa18_5, fa19_5].getD k (fun _ => 0))) ((fun k => [fa20_5, fa21_5, fa22_5, fa23_5].getD k (fun _ => 0))) 0 0 (f_11) (ha3_16) (by omega) (hcn) (by omega) (by omega) (by omega) (by omega) (hnx) (get4 (by omega) (by omega) (by omega) (by omega)) (get4e (by omega) (by omega) (by omega) (by omega) (by omega)) (by omega) (hsw) (by omega) (f_15)) E0_blind hK hP hD hS hA [17, 18, 19, 1, 20, 21, 3, 22, 13, 23, 24, 25, 26, 27, 28, 29, 30, 31, 32, 33, 34, 35] [0, 2, 4, 5, 6, 7, 8, 9, 10, 11, 12, 14, 15, 16] ⟨rfl, rfl, by decide +kernel, by decide +kernel, by decide +kernel⟩ rfl rfl (fun _ _ _ => trivial) dX6_fewest_68 rfl rfl (Nat.le_of_ble_eq_true rfl) ⟨Nat.le_of_ble_eq_true rfl, Nat.le_of_ble_eq_true rfl⟩ ⟨Nat.le_of_ble_eq_true rfl, Nat.le_of_ble_eq_true rfl⟩ (fun zr19 zu19 H locs hw19 hP9 hD9 hS9 => ?_)
              clear hP hD hS
              obtain ⟨fpc2_20, rfl⟩ : ∃ z, z = zu19 := ⟨_, rfl⟩
              refine reW [wI (cy 1) p1 3 (ffd), wI (cy 1) h2 8 (flo), wO h9 3 [.ref h9a, .ref h9b, .int (nI nb), .int tb], wI (cy 1) h9a 280 (fcb), wI (cy 1) h9b 31 (fa13_5), wO h11 3 [.ref h11a, .ref h11b, .int (nI nt), .int tt], wI (cy 1) h11a 280 (fct), wI (cy 1) h11b 31 (fa14_5), wO h10 3 [.ref h10a, .ref h10b, .int (nI nl), .int tl], wI (cy 1) h10a 280 (fcl), wI (cy 1) h10b 31 (fa15_5), wI (cy 1) s2 4 (fsn), wI (cy 1) ro 20 (fr), wI (cy 1) h3 4 (fp), wO p0 6 [.ref p1, .ref er, .ref ro, .ref p2, .ref p3, .ref p4, .ref h0, .ref s0, .int (nI z16)], wI (cy 1) p3 4 (fne2_10), wI (cy 1) p4 40 (fqi2_14), wI (cy 1) p2 3 (fpc2_20), wO h0 4 [.ref h1, .ref h2, .ref h3, .ref h4, .ref h5, .ref h6, .ref h7, .ref h8, .ref h9, .ref h10, .ref h11, .int ys, hv1, hv2, hv3, hv4], wI (cy 1) h1 4 (fc), wI (cy 1) h7 48 (fx), wO s0 7 [.ref s1, .ref s2, .int (nI sl), .int spl, .int svo, .int swi, .int sch], wI (cy 1) s1 10 (fw), (er, .inl (cy 4, 4, .inr (.inr (.inr (.inr (eF (ea 0) (ea 1) (ea 2) (ea 3))))))), wO (ea 0) 2 [.ref (eg 0), .ref (ef 0), .int (((fun k => [t0_5, t1_5, t2_5, t3_5].getD k 0)) 0), .int (nI (((fun k => [l0_5, l1_5, l2_5, l3_5].getD k 0)) 0)), .int (nI (((fun k => [i0_5, i1_5, i2_5, i3_5].getD k 0)) 0))], wI (cy 1) (eg 0) 10 (((fun k => [fa16_5, fa17_5, fa18_5, fa19_5].getD k (fun _ => 0))) 0), wI (cy 1) (ef 0) 7 (((fun k => [fa20_5, fa21_5, fa22_5, fa23_5].getD k (fun _ => 0))) 0), wO (ea 1) 2 [.ref (eg 1), .ref (ef 1), .int (((fun k => [t0_5, t1_5, t2_5, t3_5].getD k 0)) 1), .int (nI (((fun k => [l0_5, l1_5, l2_5, l3_5].getD k 0)) 1)), .int (nI (((fun k => [i0_5, i1_5, i2_5, i3_5].getD k 0)) 1))], wI (cy 1) (eg 1) 10 (((fun k => [fa16_5, fa17_5, fa18_5, fa19_5].getD k (fun _ => 0))) 1), wI (cy 1) (ef 1) 7 (((fun k => [fa20_5, fa21_5, fa22_5, fa23_5].getD k (fun _ => 0))) 1), wO (ea 2) 2 [.ref (eg 2), .ref (ef 2), .int (((fun k => [t0_5, t1_5, t2_5, t3_5].getD k 0)) 2), .int (nI (((fun k => [l0_5, l1_5, l2_5, l3_5].getD k 0)) 2)), .int (nI (((fun k => [i0_5, i1_5, i2_5, i3_5].getD k 0)) 2))], wI (cy 1) (eg 2) 10 (((fun k => [fa16_5, fa17_5, fa18_5, fa19_5].getD k (fun _ => 0))) 2), wI (cy 1) (ef 2) 7 (((fun k => [fa20_5, fa21_5, fa22_5, fa23_5].getD k (fun _ => 0))) 2), wO (ea 3) 2 [.ref (eg 3), .ref (ef 3), .int (((fun k => [t0_5, t1_5, t2_5, t3_5].getD k 0)) 3), .int (nI (((fun k => [l0_5, l1_5, l2_5, l3_5].getD k 0)) 3)), .int (nI (((fun k => [i0_5, i1_5, i2_5, i3_5].getD k 0)) 3))], wI (cy 1) (eg 3) 10 (((fun k => [fa16_5, fa17_5, fa18_5, fa19_5].getD k (fun _ => 0))) 3), wI (cy 1) (ef 3) 7 (((fun k => [fa20_5, fa21_5, fa22_5, fa23_5].getD k (fun _ => 0))) 3)] hP9 hD9 hS9 (fun hP hD hS => ?_)
              clear hP9 hD9 hS9
              refine W.widen (k := 0) (n := 0) (Nat.le_of_ble_eq_true rfl) (Nat.le_of_ble_eq_true rfl) ?_
              replace hw19 : (zr19 = 0 ∨ zr19 = 1) ∧ (rng fpc2_20 3 9) ∧ (okW c0 fw sl → (zr19 = 1 ↔ cpP (fun c9 => (∃ k9, k9 < c1 ∧ byY fx (((fun k => [fa16_5, fa17_5, fa18_5, fa19_5].getD k (fun _ => 0))) (fne2_10 k9).toNatClampNeg) ys (mvB c0 fw c9 ((fun k => [fa16_5, fa17_5, fa18_5, fa19_5].getD k (fun _ => 0))) fne2_10 k9) (plS (((fun k => [t0_5, t1_5, t2_5, t3_5].getD k 0)) (fne2_10 k9).toNatClampNeg) sl) c0 sl)) sl (z16 - 0) 0 (0 : Int32))) := hw19
              obtain ⟨f_21, f_22, f_23⟩ := hw19
              replace hP : va_P D vwCl [wI (cy 1) p1 3 (ffd), wI (cy 1) h2 8 (flo), wO h9 3 [.ref h9a, .ref h9b, .int (nI nb), .int tb], wI (cy 1) h9a 280 (fcb), wI (cy 1) h9b 31 (fa13_5), wO h11 3 [.ref h11a, .ref h11b, .int (nI nt), .int tt], wI (cy 1) h11a 280 (fct), wI (cy 1) h11b 31 (fa14_5), wO h10 3 [.ref h10a, .ref h10b, .int (nI nl), .int tl], wI (cy 1) h10a 280 (fcl), wI (cy 1) h10b 31 (fa15_5), wI (cy 1) s2 4 (fsn), wI (cy 1) ro 20 (fr), wI (cy 1) h3 4 (fp), wO p0 6 [.ref p1, .ref er, .ref ro, .ref p2, .ref p3, .ref p4, .ref h0, .ref s0, .int (nI z16)], wI (cy 1) p3 4 (fne2_10), wI (cy 1) p4 40 (fqi2_14), wI (cy 1) p2 3 (fpc2_20), wO h0 4 [.ref h1, .ref h2, .ref h3, .ref h4, .ref h5, .ref h6, .ref h7, .ref h8, .ref h9, .ref h10, .ref h11, .int ys, hv1, hv2, hv3, hv4], wI (cy 1) h1 4 (fc), wI (cy 1) h7 48 (fx), wO s0 7 [.ref s1, .ref s2, .int (nI sl), .int spl, .int svo, .int swi, .int sch], wI (cy 1) s1 10 (fw), (er, .inl (cy 4, 4, .inr (.inr (.inr (.inr (eF (ea 0) (ea 1) (ea 2) (ea 3))))))), wO (ea 0) 2 [.ref (eg 0), .ref (ef 0), .int t0_5, .int (nI l0_5), .int (nI i0_5)], wI (cy 1) (eg 0) 10 (fa16_5), wI (cy 1) (ef 0) 7 (fa20_5), wO (ea 1) 2 [.ref (eg 1), .ref (ef 1), .int t1_5, .int (nI l1_5), .int (nI i1_5)], wI (cy 1) (eg 1) 10 (fa17_5), wI (cy 1) (ef 1) 7 (fa21_5), wO (ea 2) 2 [.ref (eg 2), .ref (ef 2), .int t2_5, .int (nI l2_5), .int (nI i2_5)], wI (cy 1) (eg 2) 10 (fa18_5), wI (cy 1) (ef 2) 7 (fa22_5), wO (ea 3) 2 [.ref (eg 3), .ref (ef 3), .int t3_5, .int (nI l3_5), .int (nI i3_5)], wI (cy 1) (eg 3) 10 (fa19_5), wI (cy 1) (ef 3) 7 (fa23_5)] H := hP
              replace hD : va_D A [wI (cy 1) p1 3 (ffd), wI (cy 1) h2 8 (flo), wO h9 3 [.ref h9a, .ref h9b, .int (nI nb), .int tb], wI (cy 1) h9a 280 (fcb), wI (cy 1) h9b 31 (fa13_5), wO h11 3 [.ref h11a, .ref h11b, .int (nI nt), .int tt], wI (cy 1) h11a 280 (fct), wI (cy 1) h11b 31 (fa14_5), wO h10 3 [.ref h10a, .ref h10b, .int (nI nl), .int tl], wI (cy 1) h10a 280 (fcl), wI (cy 1) h10b 31 (fa15_5), wI (cy 1) s2 4 (fsn), wI (cy 1) ro 20 (fr), wI (cy 1) h3 4 (fp), wO p0 6 [.ref p1, .ref er, .ref ro, .ref p2, .ref p3, .ref p4, .ref h0, .ref s0, .int (nI z16)], wI (cy 1) p3 4 (fne2_10), wI (cy 1) p4 40 (fqi2_14), wI (cy 1) p2 3 (fpc2_20), wO h0 4 [.ref h1, .ref h2, .ref h3, .ref h4, .ref h5, .ref h6, .ref h7, .ref h8, .ref h9, .ref h10, .ref h11, .int ys, hv1, hv2, hv3, hv4], wI (cy 1) h1 4 (fc), wI (cy 1) h7 48 (fx), wO s0 7 [.ref s1, .ref s2, .int (nI sl), .int spl, .int svo, .int swi, .int sch], wI (cy 1) s1 10 (fw), (er, .inl (cy 4, 4, .inr (.inr (.inr (.inr (eF (ea 0) (ea 1) (ea 2) (ea 3))))))), wO (ea 0) 2 [.ref (eg 0), .ref (ef 0), .int t0_5, .int (nI l0_5), .int (nI i0_5)], wI (cy 1) (eg 0) 10 (fa16_5), wI (cy 1) (ef 0) 7 (fa20_5), wO (ea 1) 2 [.ref (eg 1), .ref (ef 1), .int t1_5, .int (nI l1_5), .int (nI i1_5)], wI (cy 1) (eg 1) 10 (fa17_5), wI (cy 1) (ef 1) 7 (fa21_5), wO (ea 2) 2 [.ref (eg 2), .ref (ef 2), .int t2_5, .int (nI l2_5), .int (nI i2_5)], wI (cy 1) (eg 2) 10 (fa18_5), wI (cy 1) (ef 2) 7 (fa22_5), wO (ea 3) 2 [.ref (eg 3), .ref (ef 3), .int t3_5, .int (nI l3_5), .int (nI i3_5)], wI (cy 1) (eg 3) 10 (fa19_5), wI (cy 1) (ef 3) 7 (fa23_5)] := hD
              refine lv_if_eq (tgt := 82) hx hb dX6_fewest_71 (by decide) (fun c_71 => ?_) (fun c_71 => ?_)
              · refine lv_iinc (v := nI (z16 + 1)) (lv' := [(3, .int (nI (z16 + 1))), (0, .ref p0), (1, .ref h0), (2, .ref s0)]) hx hb dX6_fewest_82 hl (k := 0) rfl (nI_add z16 1) (by decide) rfl (fun ls hl => ?_)
                refine lv_goto (tgt := 54) hx hb dX6_fewest_85 (by decide) ?_
                exact ih16  ((z16 + 1)) z16 fpc2_20 f_22 (by omega) (by omega) (ny_s (P := fun q9 => cpP (fun c9 => (∃ k9, k9 < c1 ∧ byY fx ((fun k => [fa16_5, fa17_5, fa18_5, fa19_5].getD k (fun _ => 0)) (fne2_10 k9).toNatClampNeg) ys (mvB c0 fw c9 (fun k => [fa16_5, fa17_5, fa18_5, fa19_5].getD k (fun _ => 0)) fne2_10 k9) (plS ((fun k => [t0_5, t1_5, t2_5, t3_5].getD k 0) (fne2_10 k9).toNatClampNeg) sl) c0 sl)) sl q9 0 0) hf2_16 f_23 c_71) (by omega) _ _ (hP.sub [0, 17, 1, 20, 2, 3, 4, 5, 6, 7, 8, 9, 10, 22, 11, 12, 13, 14, 15, 16, 18, 19, 21, 23, 24, 25, 26, 27, 28, 29, 30, 31, 32, 33, 34, 35] rfl) (hD.sub [0, 17, 1, 20, 2, 3, 4, 5, 6, 7, 8, 9, 10, 22, 11, 12, 13, 14, 15, 16, 18, 19, 21, 23, 24, 25, 26, 27, 28, 29, 30, 31, 32, 33, 34, 35] (by decide +kernel) rfl) hS ls (lv_sub hl [0, 1, 2, 3] rfl)
              · refine lv_aload_n hx hb dX6_fewest_74 rfl (lv_at hl 1 rfl) ?_
                refine lv_iconst (v := 0) hx hb dX6_fewest_75 (by decide) ?_
                refine x_callVi (q := (RX6, TX6, 9)) (ci := 6) (q0 := 0) (wr := [wI (cy 1) h2 8 (flo), wO h9 3 [.ref h9a, .ref h9b, .int (nI nb), .int tb], wI (cy 1) h9a 280 (fcb), wI (cy 1) h9b 31 (fa13_5), wO h11 3 [.ref h11a, .ref h11b, .int (nI nt), .int tt], wI (cy 1) h11a 280 (fct), wI (cy 1) h11b 31 (fa14_5), wO h10 3 [.ref h10a, .ref h10b, .int (nI nl), .int tl], wI (cy 1) h10a 280 (fcl), wI (cy 1) h10b 31 (fa15_5), wI (cy 1) s2 4 (fsn), wI (cy 1) h3 4 (fp), wI (cy 1) p4 40 (fqi2_14)]) (rest := []) ⟨hx, hb, hml, hown, hg, hl.1⟩ k_X6_73 (s_chooseWords0 l D cy p0 p1 p2 p3 p4 er ro z16 fne2_10 ffd fpc2_20 h0 h1 h2 h3 h4 h5 h6 h7 h8 h9 h10 h11 hv1 hv2 hv3 hv4 ys fc c0 c1 c2 c3 fx s0 s1 s2 sl spl svo swi sch fw fr ea eg ef ((fun k => [t0_5, t1_5, t2_5, t3_5].getD k 0)) ((fun k => [l0_5, l1_5, l2_5, l3_5].getD k 0)) ((fun k => [i0_5, i1_5, i2_5, i3_5].getD k 0)) ((fun k => [fa16_5, fa17_5, fa18_5, fa19_5].getD k (fun _ => 0))) ((fun k => [fa20_5, fa21_5, fa22_5, fa23_5].getD k (fun _ => 0))) (f_11) (f_22) (by omega) (hcn) (by omega) (by omega) (by omega) (by omega) (hnx) (get4 (by omega) (by omega) (by omega) (by omega)) (by omega) (hsw) (hrw)) E0_blind hK hP hD hS hA [14, 15, 0, 17, 18, 19, 20, 21, 22, 12, 23, 24, 25, 26, 27, 28, 29, 30, 31, 32, 33, 34, 35] [1, 2, 3, 4, 5, 6, 7, 8, 9, 10, 11, 13, 16] ⟨rfl, rfl, by decide +kernel, by decide +kernel, by decide +kernel⟩ rfl rfl (fun _ _ _ => trivial) dX6_fewest_76 rfl rfl (Nat.le_of_ble_eq_true rfl) ⟨Nat.le_of_ble_eq_true rfl, Nat.le_of_ble_eq_true rfl⟩ ⟨Nat.le_of_ble_eq_true rfl, Nat.le_of_ble_eq_true rfl⟩ (fun zr24 zu24 H locs hw24 hP9 hD9 hS9 => ?_)
                clear hP hD hS
                obtain ⟨ffd2_25, fw2_26, fr2_27⟩ := zu24
                refine reW [wI (cy 1) h2 8 (flo), wO h9 3 [.ref h9a, .ref h9b, .int (nI nb), .int tb], wI (cy 1) h9a 280 (fcb), wI (cy 1) h9b 31 (fa13_5), wO h11 3 [.ref h11a, .ref h11b, .int (nI nt), .int tt], wI (cy 1) h11a 280 (fct), wI (cy 1) h11b 31 (fa14_5), wO h10 3 [.ref h10a, .ref h10b, .int (nI nl), .int tl], wI (cy 1) h10a 280 (fcl), wI (cy 1) h10b 31 (fa15_5), wI (cy 1) s2 4 (fsn), wI (cy 1) h3 4 (fp), wI (cy 1) p4 40 (fqi2_14), wO p0 6 [.ref p1, .ref er, .ref ro, .ref p2, .ref p3, .ref p4, .ref h0, .ref s0, .int (nI z16)], wI (cy 1) p3 4 (fne2_10), wI (cy 1) p1 3 (ffd2_25), wI (cy 1) p2 3 (fpc2_20), wO h0 4 [.ref h1, .ref h2, .ref h3, .ref h4, .ref h5, .ref h6, .ref h7, .ref h8, .ref h9, .ref h10, .ref h11, .int ys, hv1, hv2, hv3, hv4], wI (cy 1) h1 4 (fc), wI (cy 1) h7 48 (fx), wO s0 7 [.ref s1, .ref s2, .int (nI sl), .int spl, .int svo, .int swi, .int sch], wI (cy 1) s1 10 (fw2_26), wI (cy 1) ro 20 (fr2_27), (er, .inl (cy 4, 4, .inr (.inr (.inr (.inr (eF (ea 0) (ea 1) (ea 2) (ea 3))))))), wO (ea 0) 2 [.ref (eg 0), .ref (ef 0), .int (((fun k => [t0_5, t1_5, t2_5, t3_5].getD k 0)) 0), .int (nI (((fun k => [l0_5, l1_5, l2_5, l3_5].getD k 0)) 0)), .int (nI (((fun k => [i0_5, i1_5, i2_5, i3_5].getD k 0)) 0))], wI (cy 1) (eg 0) 10 (((fun k => [fa16_5, fa17_5, fa18_5, fa19_5].getD k (fun _ => 0))) 0), wI (cy 1) (ef 0) 7 (((fun k => [fa20_5, fa21_5, fa22_5, fa23_5].getD k (fun _ => 0))) 0), wO (ea 1) 2 [.ref (eg 1), .ref (ef 1), .int (((fun k => [t0_5, t1_5, t2_5, t3_5].getD k 0)) 1), .int (nI (((fun k => [l0_5, l1_5, l2_5, l3_5].getD k 0)) 1)), .int (nI (((fun k => [i0_5, i1_5, i2_5, i3_5].getD k 0)) 1))], wI (cy 1) (eg 1) 10 (((fun k => [fa16_5, fa17_5, fa18_5, fa19_5].getD k (fun _ => 0))) 1), wI (cy 1) (ef 1) 7 (((fun k => [fa20_5, fa21_5, fa22_5, fa23_5].getD k (fun _ => 0))) 1), wO (ea 2) 2 [.ref (eg 2), .ref (ef 2), .int (((fun k => [t0_5, t1_5, t2_5, t3_5].getD k 0)) 2), .int (nI (((fun k => [l0_5, l1_5, l2_5, l3_5].getD k 0)) 2)), .int (nI (((fun k => [i0_5, i1_5, i2_5, i3_5].getD k 0)) 2))], wI (cy 1) (eg 2) 10 (((fun k => [fa16_5, fa17_5, fa18_5, fa19_5].getD k (fun _ => 0))) 2), wI (cy 1) (ef 2) 7 (((fun k => [fa20_5, fa21_5, fa22_5, fa23_5].getD k (fun _ => 0))) 2), wO (ea 3) 2 [.ref (eg 3), .ref (ef 3), .int (((fun k => [t0_5, t1_5, t2_5, t3_5].getD k 0)) 3), .int (nI (((fun k => [l0_5, l1_5, l2_5, l3_5].getD k 0)) 3)), .int (nI (((fun k => [i0_5, i1_5, i2_5, i3_5].getD k 0)) 3))], wI (cy 1) (eg 3) 10 (((fun k => [fa16_5, fa17_5, fa18_5, fa19_5].getD k (fun _ => 0))) 3), wI (cy 1) (ef 3) 7 (((fun k => [fa20_5, fa21_5, fa22_5, fa23_5].getD k (fun _ => 0))) 3)] hP9 hD9 hS9 (fun hP hD hS => ?_)
                clear hP9 hD9 hS9
                refine W.widen (k := 0) (n := 0) (Nat.le_of_ble_eq_true rfl) (Nat.le_of_ble_eq_true rfl) ?_
                replace hw24 : (zr24 = 0 ∨ zr24 = 1) ∧ (rng fw2_26 10 7) ∧ (rng fr2_27 20 7) := hw24
                obtain ⟨f_28, f_29, f_30⟩ := hw24
                replace hP : va_P D vwCl [wI (cy 1) h2 8 (flo), wO h9 3 [.ref h9a, .ref h9b, .int (nI nb), .int tb], wI (cy 1) h9a 280 (fcb), wI (cy 1) h9b 31 (fa13_5), wO h11 3 [.ref h11a, .ref h11b, .int (nI nt), .int tt], wI (cy 1) h11a 280 (fct), wI (cy 1) h11b 31 (fa14_5), wO h10 3 [.ref h10a, .ref h10b, .int (nI nl), .int tl], wI (cy 1) h10a 280 (fcl), wI (cy 1) h10b 31 (fa15_5), wI (cy 1) s2 4 (fsn), wI (cy 1) h3 4 (fp), wI (cy 1) p4 40 (fqi2_14), wO p0 6 [.ref p1, .ref er, .ref ro, .ref p2, .ref p3, .ref p4, .ref h0, .ref s0, .int (nI z16)], wI (cy 1) p3 4 (fne2_10), wI (cy 1) p1 3 (ffd2_25), wI (cy 1) p2 3 (fpc2_20), wO h0 4 [.ref h1, .ref h2, .ref h3, .ref h4, .ref h5, .ref h6, .ref h7, .ref h8, .ref h9, .ref h10, .ref h11, .int ys, hv1, hv2, hv3, hv4], wI (cy 1) h1 4 (fc), wI (cy 1) h7 48 (fx), wO s0 7 [.ref s1, .ref s2, .int (nI sl), .int spl, .int svo, .int swi, .int sch], wI (cy 1) s1 10 (fw2_26), wI (cy 1) ro 20 (fr2_27), (er, .inl (cy 4, 4, .inr (.inr (.inr (.inr (eF (ea 0) (ea 1) (ea 2) (ea 3))))))), wO (ea 0) 2 [.ref (eg 0), .ref (ef 0), .int t0_5, .int (nI l0_5), .int (nI i0_5)], wI (cy 1) (eg 0) 10 (fa16_5), wI (cy 1) (ef 0) 7 (fa20_5), wO (ea 1) 2 [.ref (eg 1), .ref (ef 1), .int t1_5, .int (nI l1_5), .int (nI i1_5)], wI (cy 1) (eg 1) 10 (fa17_5), wI (cy 1) (ef 1) 7 (fa21_5), wO (ea 2) 2 [.ref (eg 2), .ref (ef 2), .int t2_5, .int (nI l2_5), .int (nI i2_5)], wI (cy 1) (eg 2) 10 (fa18_5), wI (cy 1) (ef 2) 7 (fa22_5), wO (ea 3) 2 [.ref (eg 3), .ref (ef 3), .int t3_5, .int (nI l3_5), .int (nI i3_5)], wI (cy 1) (eg 3) 10 (fa19_5), wI (cy 1) (ef 3) 7 (fa23_5)] H := hP
                replace hD : va_D A [wI (cy 1) h2 8 (flo), wO h9 3 [.ref h9a, .ref h9b, .int (nI nb), .int tb], wI (cy 1) h9a 280 (fcb), wI (cy 1) h9b 31 (fa13_5), wO h11 3 [.ref h11a, .ref h11b, .int (nI nt), .int tt], wI (cy 1) h11a 280 (fct), wI (cy 1) h11b 31 (fa14_5), wO h10 3 [.ref h10a, .ref h10b, .int (nI nl), .int tl], wI (cy 1) h10a 280 (fcl), wI (cy 1) h10b 31 (fa15_5), wI (cy 1) s2 4 (fsn), wI (cy 1) h3 4 (fp), wI (cy 1) p4 40 (fqi2_14), wO p0 6 [.ref p1, .ref er, .ref ro, .ref p2, .ref p3, .ref p4, .ref h0, .ref s0, .int (nI z16)], wI (cy 1) p3 4 (fne2_10), wI (cy 1) p1 3 (ffd2_25), wI (cy 1) p2 3 (fpc2_20), wO h0 4 [.ref h1, .ref h2, .ref h3, .ref h4, .ref h5, .ref h6, .ref h7, .ref h8, .ref h9, .ref h10, .ref h11, .int ys, hv1, hv2, hv3, hv4], wI (cy 1) h1 4 (fc), wI (cy 1) h7 48 (fx), wO s0 7 [.ref s1, .ref s2, .int (nI sl), .int spl, .int svo, .int swi, .int sch], wI (cy 1) s1 10 (fw2_26), wI (cy 1) ro 20 (fr2_27), (er, .inl (cy 4, 4, .inr (.inr (.inr (.inr (eF (ea 0) (ea 1) (ea 2) (ea 3))))))), wO (ea 0) 2 [.ref (eg 0), .ref (ef 0), .int t0_5, .int (nI l0_5), .int (nI i0_5)], wI (cy 1) (eg 0) 10 (fa16_5), wI (cy 1) (ef 0) 7 (fa20_5), wO (ea 1) 2 [.ref (eg 1), .ref (ef 1), .int t1_5, .int (nI l1_5), .int (nI i1_5)], wI (cy 1) (eg 1) 10 (fa17_5), wI (cy 1) (ef 1) 7 (fa21_5), wO (ea 2) 2 [.ref (eg 2), .ref (ef 2), .int t2_5, .int (nI l2_5), .int (nI i2_5)], wI (cy 1) (eg 2) 10 (fa18_5), wI (cy 1) (ef 2) 7 (fa22_5), wO (ea 3) 2 [.ref (eg 3), .ref (ef 3), .int t3_5, .int (nI l3_5), .int (nI i3_5)], wI (cy 1) (eg 3) 10 (fa19_5), wI (cy 1) (ef 3) 7 (fa23_5)] := hD
                refine lv_pop hx hb dX6_fewest_79 rfl ?_
                refine lv_iload_n hx hb dX6_fewest_80 rfl (lv_at hl 0 rfl) ?_
                exact x_iret hQ hx hb hr hlocks hK hP hD hS dX6_fewest_81 (z16, ffd2_25, fpc2_20, fne2_10, fqi2_14, fw2_26, fr2_27, (fun k => [t0_5, t1_5, t2_5, t3_5].getD k 0), (fun k => [l0_5, l1_5, l2_5, l3_5].getD k 0), (fun k => [i0_5, i1_5, i2_5, i3_5].getD k 0), (fun k => [fa16_5, fa17_5, fa18_5, fa19_5].getD k (fun _ => 0)), (fun k => [fa20_5, fa21_5, fa22_5, fa23_5].getD k (fun _ => 0)), fa13_5, fa14_5, fa15_5) (⟨(show z16 ≤ 3 from by omega), f_22, f_29, f_30, Or.inr ⟨z16, by omega, rfl⟩, (fun hok9 => rhA_cg (fun cg9 => rh_eq hc0 (by omega) f_12 (get4P (P := fun c9 => eaO (vlC tb fcb nb 3) (vlC tl fcl nl 0) (vlC tt fct nt 0) flo (farC spl (fp c9)) swi (fsn c9) svo sch c0 sl ((fun k => [t0_5, t1_5, t2_5, t3_5].getD k 0) c9) ((fun k => [i0_5, i1_5, i2_5, i3_5].getD k 0) c9) ((fun k => [fa16_5, fa17_5, fa18_5, fa19_5].getD k (fun _ => 0)) c9)) (fun h9 => hf9_5 (by omega)) (fun h9 => hf10_5 (by omega)) (fun h9 => hf11_5 (by omega)) (fun h9 => hf12_5 (by omega)) (by omega))) (Or.inr ⟨z16, by omega, rfl, (f_23 hok9).mp (f_21.resolve_left c_71), fun p9 h9 => hf2_16 hok9 p9 (by omega)⟩)), get4 (by omega) (by omega) (by omega) (by omega)⟩) [13, 14, 15, 16, 12, 17, 18, 11, 0, 19, 1, 2, 3, 4, 5, 6, 7, 8, 9, 20, 21, 10, 22, 23, 24, 25, 26, 27, 28, 29, 30, 31, 32, 33, 34, 35] (by decide +kernel) rfl (Nat.le_of_ble_eq_true rfl) (Nat.le_of_ble_eq_true rfl)
        exact loop16 _ 0 ch fpc hpc (by omega) (by omega) (fun _ q9 h9 => absurd h9 (Nat.not_lt_zero q9)) (Nat.le_refl _) _ _ (hP.sub [0, 1, 2, 3, 4, 5, 6, 7, 8, 9, 10, 11, 12, 13, 14, 15, 16, 17, 18, 19, 20, 21, 22, 23, 24, 25, 26, 27, 28, 29, 30, 31, 32, 33, 34, 35] rfl) (hD.sub [0, 1, 2, 3, 4, 5, 6, 7, 8, 9, 10, 11, 12, 13, 14, 15, 16, 17, 18, 19, 20, 21, 22, 23, 24, 25, 26, 27, 28, 29, 30, 31, 32, 33, 34, 35] (by decide +kernel) rfl) hS ls (lv_sub hl [0, 1, 2, 3] rfl)
      · have q_8 : i5 < c1 := q_nle (a := c1) (b := i5) rfl rfl (by omega) (by omega) c_7
        refine lv_aload_n hx hb dX6_fewest_22 rfl (lv_at hl 1 rfl) ?_
        refine va_get (D := D) (ci := 6) (v := .ref er) (C := RX6) (T := TX6) (N := 9) hx hb hg i_X6 hown hK hP 0 rfl rfl 1 (by decide) (hg _ m_586) (fun _ h9 => h9) rfl dX6_fewest_23 ?_
        refine lv_iload_n hx hb dX6_fewest_26 rfl (lv_at hl 0 rfl) ?_
        rcases (show i5 = 0 ∨ i5 = 1 ∨ i5 = 2 ∨ i5 = 3 by omega) with hsp | hsp | hsp | hsp
        · subst hsp
          refine va_aldq hx hb hK hP 23 4 rfl rfl (by unfold vp_in; decide) dX6_fewest_27 ?_
          refine W.eq (g2 := F0 m 28 ls [.ref (ea 0)]) rfl ?_
          refine lv_aload_n hx hb dX6_fewest_28 rfl (lv_at hl 2 rfl) ?_
          refine lv_aload_n hx hb dX6_fewest_29 rfl (lv_at hl 3 rfl) ?_
          refine lv_iload_n hx hb dX6_fewest_30 rfl (lv_at hl 0 rfl) ?_
          refine lv_aload_n hx hb dX6_fewest_31 rfl (lv_at hl 3 rfl) ?_
          refine va_get (D := D) (ci := 7) (v := .int (nI sl)) (C := RX7) (T := TX7) (N := 7) hx hb hg i_X7 hown hK hP 19 rfl rfl 2 (by decide) (hg _ m_630) (fun _ h9 => h9) rfl dX6_fewest_32 ?_
          refine x_callVv (q := (RX2, TX2, 5)) (ci := 2) (q0 := 0) (wr := [wO p0 6 [.ref p1, .ref er, .ref ro, .ref p2, .ref p3, .ref p4, .ref h0, .ref s0, .int (nI ch)], wI (cy 1) p3 4 (fne), wI (cy 1) p1 3 (ffd), wI (cy 1) p2 3 (fpc), wI (cy 1) p4 40 (fqi), wI (cy 1) h7 48 (fx), wI (cy 1) s1 10 (fw), wI (cy 1) ro 20 (fr), (er, .inl (cy 4, 4, .inr (.inr (.inr (.inr (eF (ea 0) (ea 1) (ea 2) (ea 3))))))), wO (ea 1) 2 [.ref (eg 1), .ref (ef 1), .int t1_5, .int (nI l1_5), .int (nI i1_5)], wI (cy 1) (eg 1) 10 (fa17_5), wI (cy 1) (ef 1) 7 (fa21_5), wO (ea 2) 2 [.ref (eg 2), .ref (ef 2), .int t2_5, .int (nI l2_5), .int (nI i2_5)], wI (cy 1) (eg 2) 10 (fa18_5), wI (cy 1) (ef 2) 7 (fa22_5), wO (ea 3) 2 [.ref (eg 3), .ref (ef 3), .int t3_5, .int (nI l3_5), .int (nI i3_5)], wI (cy 1) (eg 3) 10 (fa19_5), wI (cy 1) (ef 3) 7 (fa23_5)]) (rest := []) ⟨hx, hb, hml, hown, hg, hl.1⟩ k_X6_54 (s_tuneToAll l D cy (ea 0) (eg 0) (ef 0) t0_5 (nI l0_5) (nI i0_5) fa16_5 fa20_5 h0 h1 h2 h3 h4 h5 h6 h7 h8 h9 h10 h11 ((.int ys)) hv1 hv2 hv3 hv4 fp flo h9a h9b nb tb fcb fa13_5 h11a h11b nt tt fct fa14_5 h10a h10b nl tl fcl fa15_5 fc c0 c1 c2 c3 s0 s1 s2 sl spl svo swi sch fsn 0 sl (by omega) (hcb) (by omega) (by omega) (hct) (by omega) (by omega) (hcl) (by omega) (hcn) (by omega) (by omega) (by omega) (by omega) (by omega) (by omega)) E0_blind hK hP hD hS hA [24, 25, 26, 5, 7, 8, 10, 11, 12, 13, 14, 15, 16, 17, 18, 6, 19, 21] [0, 1, 2, 3, 4, 9, 20, 22, 23, 27, 28, 29, 30, 31, 32, 33, 34, 35] ⟨rfl, rfl, by decide +kernel, by decide +kernel, by decide +kernel⟩ rfl rfl (fun _ _ _ => trivial) dX6_fewest_35 rfl rfl (Nat.le_of_ble_eq_true rfl) ⟨Nat.le_of_ble_eq_true rfl, Nat.le_of_ble_eq_true rfl⟩ ⟨Nat.le_of_ble_eq_true rfl, Nat.le_of_ble_eq_true rfl⟩ (fun zu31 H locs hw31 hP9 hD9 hS9 => ?_)
          clear hP hD hS
          obtain ⟨k_32, tu_33, fg2_34, ff2_35, fsb2_36, fst2_37, fsl2_38⟩ := zu31
          refine reW [wO p0 6 [.ref p1, .ref er, .ref ro, .ref p2, .ref p3, .ref p4, .ref h0, .ref s0, .int (nI ch)], wI (cy 1) p3 4 (fne), wI (cy 1) p1 3 (ffd), wI (cy 1) p2 3 (fpc), wI (cy 1) p4 40 (fqi), wI (cy 1) h7 48 (fx), wI (cy 1) s1 10 (fw), wI (cy 1) ro 20 (fr), (er, .inl (cy 4, 4, .inr (.inr (.inr (.inr (eF (ea 0) (ea 1) (ea 2) (ea 3))))))), wO (ea 1) 2 [.ref (eg 1), .ref (ef 1), .int t1_5, .int (nI l1_5), .int (nI i1_5)], wI (cy 1) (eg 1) 10 (fa17_5), wI (cy 1) (ef 1) 7 (fa21_5), wO (ea 2) 2 [.ref (eg 2), .ref (ef 2), .int t2_5, .int (nI l2_5), .int (nI i2_5)], wI (cy 1) (eg 2) 10 (fa18_5), wI (cy 1) (ef 2) 7 (fa22_5), wO (ea 3) 2 [.ref (eg 3), .ref (ef 3), .int t3_5, .int (nI l3_5), .int (nI i3_5)], wI (cy 1) (eg 3) 10 (fa19_5), wI (cy 1) (ef 3) 7 (fa23_5), wO (ea 0) 2 [.ref (eg 0), .ref (ef 0), .int tu_33, .int (nI sl), .int (nI k_32)], wI (cy 1) (eg 0) 10 (fg2_34), wI (cy 1) (ef 0) 7 (ff2_35), wO h0 4 [.ref h1, .ref h2, .ref h3, .ref h4, .ref h5, .ref h6, .ref h7, .ref h8, .ref h9, .ref h10, .ref h11, .int ys, hv1, hv2, hv3, hv4], wI (cy 1) h3 4 (fp), wI (cy 1) h2 8 (flo), wO h9 3 [.ref h9a, .ref h9b, .int (nI nb), .int tb], wI (cy 1) h9a 280 (fcb), wI (cy 1) h9b 31 (fsb2_36), wO h11 3 [.ref h11a, .ref h11b, .int (nI nt), .int tt], wI (cy 1) h11a 280 (fct), wI (cy 1) h11b 31 (fst2_37), wO h10 3 [.ref h10a, .ref h10b, .int (nI nl), .int tl], wI (cy 1) h10a 280 (fcl), wI (cy 1) h10b 31 (fsl2_38), wI (cy 1) h1 4 (fc), wO s0 7 [.ref s1, .ref s2, .int (nI sl), .int spl, .int svo, .int swi, .int sch], wI (cy 1) s2 4 (fsn)] hP9 hD9 hS9 (fun hP hD hS => ?_)
          clear hP9 hD9 hS9
          refine W.widen (k := 0) (n := 0) (Nat.le_of_ble_eq_true rfl) (Nat.le_of_ble_eq_true rfl) ?_
          replace hw31 : (k_32 ≤ sl) ∧ (eaO (vlC tb fcb nb 3) (vlC tl fcl nl 0) (vlC tt fct nt 0) flo (farC spl (fp 0)) swi (fsn 0) svo sch c0 sl tu_33 k_32 fg2_34) := hw31
          obtain ⟨f_39, f_40⟩ := hw31
          refine lv_iinc (v := 1) (lv' := [(3, .int 1), (0, .ref p0), (1, .ref h0), (2, .ref s0)]) hx hb dX6_fewest_38 hl (k := 0) rfl (by decide) (by decide) rfl (fun ls hl => ?_)
          refine lv_goto (tgt := 12) hx hb dX6_fewest_41 (by decide) ?_
          exact ih5  1 tu_33 sl k_32 t1_5 l1_5 i1_5 t2_5 l2_5 i2_5 t3_5 l3_5 i3_5 fsb2_36 fst2_37 fsl2_38 fg2_34 fa17_5 fa18_5 fa19_5 ff2_35 fa21_5 fa22_5 fa23_5 (by omega) (by omega) (by omega) (by omega) (by omega) (by omega) (by omega) (by omega) (by omega) (fun _ => f_40) (fun h9 => absurd h9 (by omega)) (fun h9 => absurd h9 (by omega)) (fun h9 => absurd h9 (by omega)) (by omega) _ _ (hP.sub [0, 1, 2, 3, 4, 21, 33, 22, 23, 5, 24, 25, 26, 27, 28, 29, 30, 31, 32, 34, 6, 35, 7, 8, 18, 19, 20, 9, 10, 11, 12, 13, 14, 15, 16, 17] rfl) (hD.sub [0, 1, 2, 3, 4, 21, 33, 22, 23, 5, 24, 25, 26, 27, 28, 29, 30, 31, 32, 34, 6, 35, 7, 8, 18, 19, 20, 9, 10, 11, 12, 13, 14, 15, 16, 17] (by decide +kernel) rfl) hS ls (lv_sub hl [0, 1, 2, 3] rfl)
        · subst hsp
          refine va_aldq hx hb hK hP 23 4 rfl rfl (by unfold vp_in; decide) dX6_fewest_27 ?_
          refine W.eq (g2 := F0 m 28 ls [.ref (ea 1)]) rfl ?_
          refine lv_aload_n hx hb dX6_fewest_28 rfl (lv_at hl 2 rfl) ?_
          refine lv_aload_n hx hb dX6_fewest_29 rfl (lv_at hl 3 rfl) ?_
          refine lv_iload_n hx hb dX6_fewest_30 rfl (lv_at hl 0 rfl) ?_
          refine lv_aload_n hx hb dX6_fewest_31 rfl (lv_at hl 3 rfl) ?_
          refine va_get (D := D) (ci := 7) (v := .int (nI sl)) (C := RX7) (T := TX7) (N := 7) hx hb hg i_X7 hown hK hP 19 rfl rfl 2 (by decide) (hg _ m_630) (fun _ h9 => h9) rfl dX6_fewest_32 ?_
          refine x_callVv (q := (RX2, TX2, 5)) (ci := 2) (q0 := 0) (wr := [wO p0 6 [.ref p1, .ref er, .ref ro, .ref p2, .ref p3, .ref p4, .ref h0, .ref s0, .int (nI ch)], wI (cy 1) p3 4 (fne), wI (cy 1) p1 3 (ffd), wI (cy 1) p2 3 (fpc), wI (cy 1) p4 40 (fqi), wI (cy 1) h7 48 (fx), wI (cy 1) s1 10 (fw), wI (cy 1) ro 20 (fr), (er, .inl (cy 4, 4, .inr (.inr (.inr (.inr (eF (ea 0) (ea 1) (ea 2) (ea 3))))))), wO (ea 0) 2 [.ref (eg 0), .ref (ef 0), .int t0_5, .int (nI l0_5), .int (nI i0_5)], wI (cy 1) (eg 0) 10 (fa16_5), wI (cy 1) (ef 0) 7 (fa20_5), wO (ea 2) 2 [.ref (eg 2), .ref (ef 2), .int t2_5, .int (nI l2_5), .int (nI i2_5)], wI (cy 1) (eg 2) 10 (fa18_5), wI (cy 1) (ef 2) 7 (fa22_5), wO (ea 3) 2 [.ref (eg 3), .ref (ef 3), .int t3_5, .int (nI l3_5), .int (nI i3_5)], wI (cy 1) (eg 3) 10 (fa19_5), wI (cy 1) (ef 3) 7 (fa23_5)]) (rest := []) ⟨hx, hb, hml, hown, hg, hl.1⟩ k_X6_54 (s_tuneToAll l D cy (ea 1) (eg 1) (ef 1) t1_5 (nI l1_5) (nI i1_5) fa17_5 fa21_5 h0 h1 h2 h3 h4 h5 h6 h7 h8 h9 h10 h11 ((.int ys)) hv1 hv2 hv3 hv4 fp flo h9a h9b nb tb fcb fa13_5 h11a h11b nt tt fct fa14_5 h10a h10b nl tl fcl fa15_5 fc c0 c1 c2 c3 s0 s1 s2 sl spl svo swi sch fsn 1 sl (by omega) (hcb) (by omega) (by omega) (hct) (by omega) (by omega) (hcl) (by omega) (hcn) (by omega) (by omega) (by omega) (by omega) (by omega) (by omega)) E0_blind hK hP hD hS hA [27, 28, 29, 5, 7, 8, 10, 11, 12, 13, 14, 15, 16, 17, 18, 6, 19, 21] [0, 1, 2, 3, 4, 9, 20, 22, 23, 24, 25, 26, 30, 31, 32, 33, 34, 35] ⟨rfl, rfl, by decide +kernel, by decide +kernel, by decide +kernel⟩ rfl rfl (fun _ _ _ => trivial) dX6_fewest_35 rfl rfl (Nat.le_of_ble_eq_true rfl) ⟨Nat.le_of_ble_eq_true rfl, Nat.le_of_ble_eq_true rfl⟩ ⟨Nat.le_of_ble_eq_true rfl, Nat.le_of_ble_eq_true rfl⟩ (fun zu41 H locs hw41 hP9 hD9 hS9 => ?_)
          clear hP hD hS
          obtain ⟨k_42, tu_43, fg2_44, ff2_45, fsb2_46, fst2_47, fsl2_48⟩ := zu41
          refine reW [wO p0 6 [.ref p1, .ref er, .ref ro, .ref p2, .ref p3, .ref p4, .ref h0, .ref s0, .int (nI ch)], wI (cy 1) p3 4 (fne), wI (cy 1) p1 3 (ffd), wI (cy 1) p2 3 (fpc), wI (cy 1) p4 40 (fqi), wI (cy 1) h7 48 (fx), wI (cy 1) s1 10 (fw), wI (cy 1) ro 20 (fr), (er, .inl (cy 4, 4, .inr (.inr (.inr (.inr (eF (ea 0) (ea 1) (ea 2) (ea 3))))))), wO (ea 0) 2 [.ref (eg 0), .ref (ef 0), .int t0_5, .int (nI l0_5), .int (nI i0_5)], wI (cy 1) (eg 0) 10 (fa16_5), wI (cy 1) (ef 0) 7 (fa20_5), wO (ea 2) 2 [.ref (eg 2), .ref (ef 2), .int t2_5, .int (nI l2_5), .int (nI i2_5)], wI (cy 1) (eg 2) 10 (fa18_5), wI (cy 1) (ef 2) 7 (fa22_5), wO (ea 3) 2 [.ref (eg 3), .ref (ef 3), .int t3_5, .int (nI l3_5), .int (nI i3_5)], wI (cy 1) (eg 3) 10 (fa19_5), wI (cy 1) (ef 3) 7 (fa23_5), wO (ea 1) 2 [.ref (eg 1), .ref (ef 1), .int tu_43, .int (nI sl), .int (nI k_42)], wI (cy 1) (eg 1) 10 (fg2_44), wI (cy 1) (ef 1) 7 (ff2_45), wO h0 4 [.ref h1, .ref h2, .ref h3, .ref h4, .ref h5, .ref h6, .ref h7, .ref h8, .ref h9, .ref h10, .ref h11, .int ys, hv1, hv2, hv3, hv4], wI (cy 1) h3 4 (fp), wI (cy 1) h2 8 (flo), wO h9 3 [.ref h9a, .ref h9b, .int (nI nb), .int tb], wI (cy 1) h9a 280 (fcb), wI (cy 1) h9b 31 (fsb2_46), wO h11 3 [.ref h11a, .ref h11b, .int (nI nt), .int tt], wI (cy 1) h11a 280 (fct), wI (cy 1) h11b 31 (fst2_47), wO h10 3 [.ref h10a, .ref h10b, .int (nI nl), .int tl], wI (cy 1) h10a 280 (fcl), wI (cy 1) h10b 31 (fsl2_48), wI (cy 1) h1 4 (fc), wO s0 7 [.ref s1, .ref s2, .int (nI sl), .int spl, .int svo, .int swi, .int sch], wI (cy 1) s2 4 (fsn)] hP9 hD9 hS9 (fun hP hD hS => ?_)
          clear hP9 hD9 hS9
          refine W.widen (k := 0) (n := 0) (Nat.le_of_ble_eq_true rfl) (Nat.le_of_ble_eq_true rfl) ?_
          replace hw41 : (k_42 ≤ sl) ∧ (eaO (vlC tb fcb nb 3) (vlC tl fcl nl 0) (vlC tt fct nt 0) flo (farC spl (fp 1)) swi (fsn 1) svo sch c0 sl tu_43 k_42 fg2_44) := hw41
          obtain ⟨f_49, f_50⟩ := hw41
          refine lv_iinc (v := 2) (lv' := [(3, .int 2), (0, .ref p0), (1, .ref h0), (2, .ref s0)]) hx hb dX6_fewest_38 hl (k := 0) rfl (by decide) (by decide) rfl (fun ls hl => ?_)
          refine lv_goto (tgt := 12) hx hb dX6_fewest_41 (by decide) ?_
          exact ih5  2 t0_5 l0_5 i0_5 tu_43 sl k_42 t2_5 l2_5 i2_5 t3_5 l3_5 i3_5 fsb2_46 fst2_47 fsl2_48 fa16_5 fg2_44 fa18_5 fa19_5 fa20_5 ff2_45 fa22_5 fa23_5 (by omega) (by omega) (by omega) (by omega) (by omega) (by omega) (by omega) (by omega) (by omega) (fun _ => hf9_5 (by omega)) (fun _ => f_50) (fun h9 => absurd h9 (by omega)) (fun h9 => absurd h9 (by omega)) (by omega) _ _ (hP.sub [0, 1, 2, 3, 4, 21, 33, 22, 23, 5, 24, 25, 26, 27, 28, 29, 30, 31, 32, 34, 6, 35, 7, 8, 9, 10, 11, 18, 19, 20, 12, 13, 14, 15, 16, 17] rfl) (hD.sub [0, 1, 2, 3, 4, 21, 33, 22, 23, 5, 24, 25, 26, 27, 28, 29, 30, 31, 32, 34, 6, 35, 7, 8, 9, 10, 11, 18, 19, 20, 12, 13, 14, 15, 16, 17] (by decide +kernel) rfl) hS ls (lv_sub hl [0, 1, 2, 3] rfl)
        · subst hsp
          refine va_aldq hx hb hK hP 23 4 rfl rfl (by unfold vp_in; decide) dX6_fewest_27 ?_
          refine W.eq (g2 := F0 m 28 ls [.ref (ea 2)]) rfl ?_
          refine lv_aload_n hx hb dX6_fewest_28 rfl (lv_at hl 2 rfl) ?_
          refine lv_aload_n hx hb dX6_fewest_29 rfl (lv_at hl 3 rfl) ?_
          refine lv_iload_n hx hb dX6_fewest_30 rfl (lv_at hl 0 rfl) ?_
          refine lv_aload_n hx hb dX6_fewest_31 rfl (lv_at hl 3 rfl) ?_
          refine va_get (D := D) (ci := 7) (v := .int (nI sl)) (C := RX7) (T := TX7) (N := 7) hx hb hg i_X7 hown hK hP 19 rfl rfl 2 (by decide) (hg _ m_630) (fun _ h9 => h9) rfl dX6_fewest_32 ?_
          refine x_callVv (q := (RX2, TX2, 5)) (ci := 2) (q0 := 0) (wr := [wO p0 6 [.ref p1, .ref er, .ref ro, .ref p2, .ref p3, .ref p4, .ref h0, .ref s0, .int (nI ch)], wI (cy 1) p3 4 (fne), wI (cy 1) p1 3 (ffd), wI (cy 1) p2 3 (fpc), wI (cy 1) p4 40 (fqi), wI (cy 1) h7 48 (fx), wI (cy 1) s1 10 (fw), wI (cy 1) ro 20 (fr), (er, .inl (cy 4, 4, .inr (.inr (.inr (.inr (eF (ea 0) (ea 1) (ea 2) (ea 3))))))), wO (ea 0) 2 [.ref (eg 0), .ref (ef 0), .int t0_5, .int (nI l0_5), .int (nI i0_5)], wI (cy 1) (eg 0) 10 (fa16_5), wI (cy 1) (ef 0) 7 (fa20_5), wO (ea 1) 2 [.ref (eg 1), .ref (ef 1), .int t1_5, .int (nI l1_5), .int (nI i1_5)], wI (cy 1) (eg 1) 10 (fa17_5), wI (cy 1) (ef 1) 7 (fa21_5), wO (ea 3) 2 [.ref (eg 3), .ref (ef 3), .int t3_5, .int (nI l3_5), .int (nI i3_5)], wI (cy 1) (eg 3) 10 (fa19_5), wI (cy 1) (ef 3) 7 (fa23_5)]) (rest := []) ⟨hx, hb, hml, hown, hg, hl.1⟩ k_X6_54 (s_tuneToAll l D cy (ea 2) (eg 2) (ef 2) t2_5 (nI l2_5) (nI i2_5) fa18_5 fa22_5 h0 h1 h2 h3 h4 h5 h6 h7 h8 h9 h10 h11 ((.int ys)) hv1 hv2 hv3 hv4 fp flo h9a h9b nb tb fcb fa13_5 h11a h11b nt tt fct fa14_5 h10a h10b nl tl fcl fa15_5 fc c0 c1 c2 c3 s0 s1 s2 sl spl svo swi sch fsn 2 sl (by omega) (hcb) (by omega) (by omega) (hct) (by omega) (by omega) (hcl) (by omega) (hcn) (by omega) (by omega) (by omega) (by omega) (by omega) (by omega)) E0_blind hK hP hD hS hA [30, 31, 32, 5, 7, 8, 10, 11, 12, 13, 14, 15, 16, 17, 18, 6, 19, 21] [0, 1, 2, 3, 4, 9, 20, 22, 23, 24, 25, 26, 27, 28, 29, 33, 34, 35] ⟨rfl, rfl, by decide +kernel, by decide +kernel, by decide +kernel⟩ rfl rfl (fun _ _ _ => trivial) dX6_fewest_35 rfl rfl (Nat.le_of_ble_eq_true rfl) ⟨Nat.le_of_ble_eq_true rfl, Nat.le_of_ble_eq_true rfl⟩ ⟨Nat.le_of_ble_eq_true rfl, Nat.le_of_ble_eq_true rfl⟩ (fun zu51 H locs hw51 hP9 hD9 hS9 => ?_)
          clear hP hD hS
          obtain ⟨k_52, tu_53, fg2_54, ff2_55, fsb2_56, fst2_57, fsl2_58⟩ := zu51
          refine reW [wO p0 6 [.ref p1, .ref er, .ref ro, .ref p2, .ref p3, .ref p4, .ref h0, .ref s0, .int (nI ch)], wI (cy 1) p3 4 (fne), wI (cy 1) p1 3 (ffd), wI (cy 1) p2 3 (fpc), wI (cy 1) p4 40 (fqi), wI (cy 1) h7 48 (fx), wI (cy 1) s1 10 (fw), wI (cy 1) ro 20 (fr), (er, .inl (cy 4, 4, .inr (.inr (.inr (.inr (eF (ea 0) (ea 1) (ea 2) (ea 3))))))), wO (ea 0) 2 [.ref (eg 0), .ref (ef 0), .int t0_5, .int (nI l0_5), .int (nI i0_5)], wI (cy 1) (eg 0) 10 (fa16_5), wI (cy 1) (ef 0) 7 (fa20_5), wO (ea 1) 2 [.ref (eg 1), .ref (ef 1), .int t1_5, .int (nI l1_5), .int (nI i1_5)], wI (cy 1) (eg 1) 10 (fa17_5), wI (cy 1) (ef 1) 7 (fa21_5), wO (ea 3) 2 [.ref (eg 3), .ref (ef 3), .int t3_5, .int (nI l3_5), .int (nI i3_5)], wI (cy 1) (eg 3) 10 (fa19_5), wI (cy 1) (ef 3) 7 (fa23_5), wO (ea 2) 2 [.ref (eg 2), .ref (ef 2), .int tu_53, .int (nI sl), .int (nI k_52)], wI (cy 1) (eg 2) 10 (fg2_54), wI (cy 1) (ef 2) 7 (ff2_55), wO h0 4 [.ref h1, .ref h2, .ref h3, .ref h4, .ref h5, .ref h6, .ref h7, .ref h8, .ref h9, .ref h10, .ref h11, .int ys, hv1, hv2, hv3, hv4], wI (cy 1) h3 4 (fp), wI (cy 1) h2 8 (flo), wO h9 3 [.ref h9a, .ref h9b, .int (nI nb), .int tb], wI (cy 1) h9a 280 (fcb), wI (cy 1) h9b 31 (fsb2_56), wO h11 3 [.ref h11a, .ref h11b, .int (nI nt), .int tt], wI (cy 1) h11a 280 (fct), wI (cy 1) h11b 31 (fst2_57), wO h10 3 [.ref h10a, .ref h10b, .int (nI nl), .int tl], wI (cy 1) h10a 280 (fcl), wI (cy 1) h10b 31 (fsl2_58), wI (cy 1) h1 4 (fc), wO s0 7 [.ref s1, .ref s2, .int (nI sl), .int spl, .int svo, .int swi, .int sch], wI (cy 1) s2 4 (fsn)] hP9 hD9 hS9 (fun hP hD hS => ?_)
          clear hP9 hD9 hS9
          refine W.widen (k := 0) (n := 0) (Nat.le_of_ble_eq_true rfl) (Nat.le_of_ble_eq_true rfl) ?_
          replace hw51 : (k_52 ≤ sl) ∧ (eaO (vlC tb fcb nb 3) (vlC tl fcl nl 0) (vlC tt fct nt 0) flo (farC spl (fp 2)) swi (fsn 2) svo sch c0 sl tu_53 k_52 fg2_54) := hw51
          obtain ⟨f_59, f_60⟩ := hw51
          refine lv_iinc (v := 3) (lv' := [(3, .int 3), (0, .ref p0), (1, .ref h0), (2, .ref s0)]) hx hb dX6_fewest_38 hl (k := 0) rfl (by decide) (by decide) rfl (fun ls hl => ?_)
          refine lv_goto (tgt := 12) hx hb dX6_fewest_41 (by decide) ?_
          exact ih5  3 t0_5 l0_5 i0_5 t1_5 l1_5 i1_5 tu_53 sl k_52 t3_5 l3_5 i3_5 fsb2_56 fst2_57 fsl2_58 fa16_5 fa17_5 fg2_54 fa19_5 fa20_5 fa21_5 ff2_55 fa23_5 (by omega) (by omega) (by omega) (by omega) (by omega) (by omega) (by omega) (by omega) (by omega) (fun _ => hf9_5 (by omega)) (fun _ => hf10_5 (by omega)) (fun _ => f_60) (fun h9 => absurd h9 (by omega)) (by omega) _ _ (hP.sub [0, 1, 2, 3, 4, 21, 33, 22, 23, 5, 24, 25, 26, 27, 28, 29, 30, 31, 32, 34, 6, 35, 7, 8, 9, 10, 11, 12, 13, 14, 18, 19, 20, 15, 16, 17] rfl) (hD.sub [0, 1, 2, 3, 4, 21, 33, 22, 23, 5, 24, 25, 26, 27, 28, 29, 30, 31, 32, 34, 6, 35, 7, 8, 9, 10, 11, 12, 13, 14, 18, 19, 20, 15, 16, 17] (by decide +kernel) rfl) hS ls (lv_sub hl [0, 1, 2, 3] rfl)
        · subst hsp
          refine va_aldq hx hb hK hP 23 4 rfl rfl (by unfold vp_in; decide) dX6_fewest_27 ?_
          refine W.eq (g2 := F0 m 28 ls [.ref (ea 3)]) rfl ?_
          refine lv_aload_n hx hb dX6_fewest_28 rfl (lv_at hl 2 rfl) ?_
          refine lv_aload_n hx hb dX6_fewest_29 rfl (lv_at hl 3 rfl) ?_
          refine lv_iload_n hx hb dX6_fewest_30 rfl (lv_at hl 0 rfl) ?_
          refine lv_aload_n hx hb dX6_fewest_31 rfl (lv_at hl 3 rfl) ?_
          refine va_get (D := D) (ci := 7) (v := .int (nI sl)) (C := RX7) (T := TX7) (N := 7) hx hb hg i_X7 hown hK hP 19 rfl rfl 2 (by decide) (hg _ m_630) (fun _ h9 => h9) rfl dX6_fewest_32 ?_
          refine x_callVv (q := (RX2, TX2, 5)) (ci := 2) (q0 := 0) (wr := [wO p0 6 [.ref p1, .ref er, .ref ro, .ref p2, .ref p3, .ref p4, .ref h0, .ref s0, .int (nI ch)], wI (cy 1) p3 4 (fne), wI (cy 1) p1 3 (ffd), wI (cy 1) p2 3 (fpc), wI (cy 1) p4 40 (fqi), wI (cy 1) h7 48 (fx), wI (cy 1) s1 10 (fw), wI (cy 1) ro 20 (fr), (er, .inl (cy 4, 4, .inr (.inr (.inr (.inr (eF (ea 0) (ea 1) (ea 2) (ea 3))))))), wO (ea 0) 2 [.ref (eg 0), .ref (ef 0), .int t0_5, .int (nI l0_5), .int (nI i0_5)], wI (cy 1) (eg 0) 10 (fa16_5), wI (cy 1) (ef 0) 7 (fa20_5), wO (ea 1) 2 [.ref (eg 1), .ref (ef 1), .int t1_5, .int (nI l1_5), .int (nI i1_5)], wI (cy 1) (eg 1) 10 (fa17_5), wI (cy 1) (ef 1) 7 (fa21_5), wO (ea 2) 2 [.ref (eg 2), .ref (ef 2), .int t2_5, .int (nI l2_5), .int (nI i2_5)], wI (cy 1) (eg 2) 10 (fa18_5), wI (cy 1) (ef 2) 7 (fa22_5)]) (rest := []) ⟨hx, hb, hml, hown, hg, hl.1⟩ k_X6_54 (s_tuneToAll l D cy (ea 3) (eg 3) (ef 3) t3_5 (nI l3_5) (nI i3_5) fa19_5 fa23_5 h0 h1 h2 h3 h4 h5 h6 h7 h8 h9 h10 h11 ((.int ys)) hv1 hv2 hv3 hv4 fp flo h9a h9b nb tb fcb fa13_5 h11a h11b nt tt fct fa14_5 h10a h10b nl tl fcl fa15_5 fc c0 c1 c2 c3 s0 s1 s2 sl spl svo swi sch fsn 3 sl (by omega) (hcb) (by omega) (by omega) (hct) (by omega) (by omega) (hcl) (by omega) (hcn) (by omega) (by omega) (by omega) (by omega) (by omega) (by omega)) E0_blind hK hP hD hS hA [33, 34, 35, 5, 7, 8, 10, 11, 12, 13, 14, 15, 16, 17, 18, 6, 19, 21] [0, 1, 2, 3, 4, 9, 20, 22, 23, 24, 25, 26, 27, 28, 29, 30, 31, 32] ⟨rfl, rfl, by decide +kernel, by decide +kernel, by decide +kernel⟩ rfl rfl (fun _ _ _ => trivial) dX6_fewest_35 rfl rfl (Nat.le_of_ble_eq_true rfl) ⟨Nat.le_of_ble_eq_true rfl, Nat.le_of_ble_eq_true rfl⟩ ⟨Nat.le_of_ble_eq_true rfl, Nat.le_of_ble_eq_true rfl⟩ (fun zu61 H locs hw61 hP9 hD9 hS9 => ?_)
          clear hP hD hS
          obtain ⟨k_62, tu_63, fg2_64, ff2_65, fsb2_66, fst2_67, fsl2_68⟩ := zu61
          refine reW [wO p0 6 [.ref p1, .ref er, .ref ro, .ref p2, .ref p3, .ref p4, .ref h0, .ref s0, .int (nI ch)], wI (cy 1) p3 4 (fne), wI (cy 1) p1 3 (ffd), wI (cy 1) p2 3 (fpc), wI (cy 1) p4 40 (fqi), wI (cy 1) h7 48 (fx), wI (cy 1) s1 10 (fw), wI (cy 1) ro 20 (fr), (er, .inl (cy 4, 4, .inr (.inr (.inr (.inr (eF (ea 0) (ea 1) (ea 2) (ea 3))))))), wO (ea 0) 2 [.ref (eg 0), .ref (ef 0), .int t0_5, .int (nI l0_5), .int (nI i0_5)], wI (cy 1) (eg 0) 10 (fa16_5), wI (cy 1) (ef 0) 7 (fa20_5), wO (ea 1) 2 [.ref (eg 1), .ref (ef 1), .int t1_5, .int (nI l1_5), .int (nI i1_5)], wI (cy 1) (eg 1) 10 (fa17_5), wI (cy 1) (ef 1) 7 (fa21_5), wO (ea 2) 2 [.ref (eg 2), .ref (ef 2), .int t2_5, .int (nI l2_5), .int (nI i2_5)], wI (cy 1) (eg 2) 10 (fa18_5), wI (cy 1) (ef 2) 7 (fa22_5), wO (ea 3) 2 [.ref (eg 3), .ref (ef 3), .int tu_63, .int (nI sl), .int (nI k_62)], wI (cy 1) (eg 3) 10 (fg2_64), wI (cy 1) (ef 3) 7 (ff2_65), wO h0 4 [.ref h1, .ref h2, .ref h3, .ref h4, .ref h5, .ref h6, .ref h7, .ref h8, .ref h9, .ref h10, .ref h11, .int ys, hv1, hv2, hv3, hv4], wI (cy 1) h3 4 (fp), wI (cy 1) h2 8 (flo), wO h9 3 [.ref h9a, .ref h9b, .int (nI nb), .int tb], wI (cy 1) h9a 280 (fcb), wI (cy 1) h9b 31 (fsb2_66), wO h11 3 [.ref h11a, .ref h11b, .int (nI nt), .int tt], wI (cy 1) h11a 280 (fct), wI (cy 1) h11b 31 (fst2_67), wO h10 3 [.ref h10a, .ref h10b, .int (nI nl), .int tl], wI (cy 1) h10a 280 (fcl), wI (cy 1) h10b 31 (fsl2_68), wI (cy 1) h1 4 (fc), wO s0 7 [.ref s1, .ref s2, .int (nI sl), .int spl, .int svo, .int swi, .int sch], wI (cy 1) s2 4 (fsn)] hP9 hD9 hS9 (fun hP hD hS => ?_)
          clear hP9 hD9 hS9
          refine W.widen (k := 0) (n := 0) (Nat.le_of_ble_eq_true rfl) (Nat.le_of_ble_eq_true rfl) ?_
          replace hw61 : (k_62 ≤ sl) ∧ (eaO (vlC tb fcb nb 3) (vlC tl fcl nl 0) (vlC tt fct nt 0) flo (farC spl (fp 3)) swi (fsn 3) svo sch c0 sl tu_63 k_62 fg2_64) := hw61
          obtain ⟨f_69, f_70⟩ := hw61
          refine lv_iinc (v := 4) (lv' := [(3, .int 4), (0, .ref p0), (1, .ref h0), (2, .ref s0)]) hx hb dX6_fewest_38 hl (k := 0) rfl (by decide) (by decide) rfl (fun ls hl => ?_)
          refine lv_goto (tgt := 12) hx hb dX6_fewest_41 (by decide) ?_
          exact ih5  4 t0_5 l0_5 i0_5 t1_5 l1_5 i1_5 t2_5 l2_5 i2_5 tu_63 sl k_62 fsb2_66 fst2_67 fsl2_68 fa16_5 fa17_5 fa18_5 fg2_64 fa20_5 fa21_5 fa22_5 ff2_65 (by omega) (by omega) (by omega) (by omega) (by omega) (by omega) (by omega) (by omega) (by omega) (fun _ => hf9_5 (by omega)) (fun _ => hf10_5 (by omega)) (fun _ => hf11_5 (by omega)) (fun _ => f_70) (by omega) _ _ (hP.sub [0, 1, 2, 3, 4, 21, 33, 22, 23, 5, 24, 25, 26, 27, 28, 29, 30, 31, 32, 34, 6, 35, 7, 8, 9, 10, 11, 12, 13, 14, 15, 16, 17, 18, 19, 20] rfl) (hD.sub [0, 1, 2, 3, 4, 21, 33, 22, 23, 5, 24, 25, 26, 27, 28, 29, 30, 31, 32, 34, 6, 35, 7, 8, 9, 10, 11, 12, 13, 14, 15, 16, 17, 18, 19, 20] (by decide +kernel) rfl) hS ls (lv_sub hl [0, 1, 2, 3] rfl)
  exact loop5 _ 0 (et 0) ((el 0)) ((ei 0)) (et 1) ((el 1)) ((ei 1)) (et 2) ((el 2)) ((ei 2)) (et 3) ((el 3)) ((ei 3)) fsb fst fsl (gc 0) (gc 1) (gc 2) (gc 3) (xc 0) (xc 1) (xc 2) (xc 3) (by omega) (by omega) (by omega) (by omega) (by omega) (by omega) (by omega) (by omega) (by omega) (fun h9 => absurd h9 (Nat.not_lt_zero _)) (fun h9 => absurd h9 (Nat.not_lt_zero _)) (fun h9 => absurd h9 (Nat.not_lt_zero _)) (fun h9 => absurd h9 (Nat.not_lt_zero _)) (Nat.le_refl _) _ _ (hP.sub [0, 1, 2, 3, 4, 5, 6, 7, 8, 9, 10, 11, 12, 13, 14, 15, 16, 17, 18, 19, 20, 21, 22, 23, 24, 25, 26, 27, 28, 29, 30, 31, 32, 33, 34, 35] rfl) (hD.sub [0, 1, 2, 3, 4, 5, 6, 7, 8, 9, 10, 11, 12, 13, 14, 15, 16, 17, 18, 19, 20, 21, 22, 23, 24, 25, 26, 27, 28, 29, 30, 31, 32, 33, 34, 35] (by decide +kernel) rfl) hS ls (lv_sub hl [0, 1, 2, 3] rfl)
