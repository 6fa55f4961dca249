def mL07 : List (Option Cond) := [some (Cond.selects RX2 yX2_place yX2_place), some (Cond.selects RX2 yX2_isLost yX2_isLost), some (Cond.initialized RX2), some (Cond.fieldLink RX2 66 "CliffJudges$Formula" "told" "Z"), some (Cond.fieldLink RX2 41 "CliffJudges$Hills" "counts" "[I"), some (Cond.fieldLink RX2 79 "CliffJudges$Hills" "loud" "[I"), some (Cond.fieldLink RX2 76 "CliffJudges$Hills" "lost" "LCliffJudges$Formula;"), some (Cond.fieldLink RX2 62 "CliffJudges$Hills" "turn" "LCliffJudges$Formula;"), some (Cond.fieldLink RX2 9 "CliffJudges$Ear" "gone" "[I"), some (Cond.fieldLink RX2 17 "CliffJudges$Ear" "facts" "[I"), some (Cond.fieldLink RX2 73 "CliffJudges$Ear" "turned" "Z"), some (Cond.fieldLink RX2 33 "CliffJudges$Ear" "length" "I"), some (Cond.fieldLink RX2 30 "CliffJudges$Ear" "first" "I"), some (Cond.fieldLink RX2 34 "CliffJudges$Shout" "words" "[I"), some (Cond.fieldLink RX2 55 "CliffJudges$Shout" "snow" "[I"), some (Cond.fieldLink RX2 20 "CliffJudges$Shout" "length" "I"), some (Cond.fieldLink RX2 46 "CliffJudges$Shout" "place" "I"), some (Cond.fieldLink RX2 82 "CliffJudges$Shout" "voice" "I"), some (Cond.fieldLink RX2 52 "CliffJudges$Shout" "wind" "I"), some (Cond.fieldLink RX2 85 "CliffJudges$Shout" "chance" "I"), some (Cond.instanceMethod yX4_far), some (Cond.selects RX4 yX4_far yX4_far), some (Cond.code yX4_far cX4_far 3 (some .int)), some (Cond.methodLink RX2 26 yX2_place), some (Cond.instanceMethod yX2_place), some (Cond.code yX2_place cX2_place 6 none), some (Cond.methodLink RX2 48 yX4_far), some (Cond.methodLink RX2 58 yX4_comes), some (Cond.instanceMethod yX4_comes), some (Cond.selects RX4 yX4_comes yX4_comes), some (Cond.code yX4_comes cX4_comes 4 (some .int)), some (Cond.methodLink RX2 70 yX3_value), some (Cond.methodLink RX2 37 yX2_isLost), some (Cond.instanceMethod yX2_isLost), some (Cond.code yX2_isLost cX2_isLost 5 (some .boolean)), some (Cond.methodLink RX2 88 yX2_placeOf), some (Cond.instanceMethod yX2_placeOf), some (Cond.selects RX2 yX2_placeOf yX2_placeOf), some (Cond.code yX2_placeOf cX2_placeOf 2 (some .int)), some (Cond.methodLink RX2 92 yX2_comesBack), some (Cond.instanceMethod yX2_comesBack), some (Cond.selects RX2 yX2_comesBack yX2_comesBack), some (Cond.code yX2_comesBack cX2_comesBack 3 (some .boolean))]
set_option maxRecDepth 100000 in
theorem mP07 : pick [34, 1, 107, 162, 30, 5, 25, 2, 146, 3, 1, 2, 1, 101, 6, 3, 6, 2, 2, 2, 382, 1, 1, 12, 2, 1, 1, 1, 1, 1, 1, 10, 1, 2, 1, 5, 1, 1, 1, 1, 1, 1, 1] lw_tbl = mL07 := rfl
set_option maxRecDepth 100000 in
theorem mG07 : mL07.all (fun o => o.all goodWord) = true := rfl
theorem m_34 : (Cond.selects RX2 yX2_place yX2_place) ∈ gT := gp mP07 mG07 0 rfl
theorem m_35 : (Cond.selects RX2 yX2_isLost yX2_isLost) ∈ gT := gp mP07 mG07 1 rfl
theorem m_142 : (Cond.initialized RX2) ∈ gT := gp mP07 mG07 2 rfl
theorem m_304 : (Cond.fieldLink RX2 66 "CliffJudges$Formula" "told" "Z") ∈ gT := gp mP07 mG07 3 rfl
theorem m_334 : (Cond.fieldLink RX2 41 "CliffJudges$Hills" "counts" "[I") ∈ gT := gp mP07 mG07 4 rfl
theorem m_339 : (Cond.fieldLink RX2 79 "CliffJudges$Hills" "loud" "[I") ∈ gT := gp mP07 mG07 5 rfl
theorem m_364 : (Cond.fieldLink RX2 76 "CliffJudges$Hills" "lost" "LCliffJudges$Formula;") ∈ gT := gp mP07 mG07 6 rfl
theorem m_366 : (Cond.fieldLink RX2 62 "CliffJudges$Hills" "turn" "LCliffJudges$Formula;") ∈ gT := gp mP07 mG07 7 rfl
theorem m_512 : (Cond.fieldLink RX2 9 "CliffJudges$Ear" "gone" "[I") ∈ gT := gp mP07 mG07 8 rfl
theorem m_515 : (Cond.fieldLink RX2 17 "CliffJudges$Ear" "facts" "[I") ∈ gT := gp mP07 mG07 9 rfl
theorem m_516 : (Cond.fieldLink RX2 73 "CliffJudges$Ear" "turned" "Z") ∈ gT := gp mP07 mG07 10 rfl
theorem m_518 : (Cond.fieldLink RX2 33 "CliffJudges$Ear" "length" "I") ∈ gT := gp mP07 mG07 11 rfl
theorem m_519 : (Cond.fieldLink RX2 30 "CliffJudges$Ear" "first" "I") ∈ gT := gp mP07 mG07 12 rfl
theorem m_620 : (Cond.fieldLink RX2 34 "CliffJudges$Shout" "words" "[I") ∈ gT := gp mP07 mG07 13 rfl
theorem m_626 : (Cond.fieldLink RX2 55 "CliffJudges$Shout" "snow" "[I") ∈ gT := gp mP07 mG07 14 rfl
theorem m_629 : (Cond.fieldLink RX2 20 "CliffJudges$Shout" "length" "I") ∈ gT := gp mP07 mG07 15 rfl
theorem m_635 : (Cond.fieldLink RX2 46 "CliffJudges$Shout" "place" "I") ∈ gT := gp mP07 mG07 16 rfl
theorem m_637 : (Cond.fieldLink RX2 82 "CliffJudges$Shout" "voice" "I") ∈ gT := gp mP07 mG07 17 rfl
theorem m_639 : (Cond.fieldLink RX2 52 "CliffJudges$Shout" "wind" "I") ∈ gT := gp mP07 mG07 18 rfl
theorem m_641 : (Cond.fieldLink RX2 85 "CliffJudges$Shout" "chance" "I") ∈ gT := gp mP07 mG07 19 rfl
theorem m_1023 : (Cond.instanceMethod yX4_far) ∈ gT := gp mP07 mG07 20 rfl
theorem m_1024 : (Cond.selects RX4 yX4_far yX4_far) ∈ gT := gp mP07 mG07 21 rfl
theorem m_1025 : (Cond.code yX4_far cX4_far 3 (some .int)) ∈ gT := gp mP07 mG07 22 rfl
theorem m_1037 : (Cond.methodLink RX2 26 yX2_place) ∈ gT := gp mP07 mG07 23 rfl
theorem m_1039 : (Cond.instanceMethod yX2_place) ∈ gT := gp mP07 mG07 24 rfl
theorem m_1040 : (Cond.code yX2_place cX2_place 6 none) ∈ gT := gp mP07 mG07 25 rfl
theorem m_1041 : (Cond.methodLink RX2 48 yX4_far) ∈ gT := gp mP07 mG07 26 rfl
theorem m_1042 : (Cond.methodLink RX2 58 yX4_comes) ∈ gT := gp mP07 mG07 27 rfl
theorem m_1043 : (Cond.instanceMethod yX4_comes) ∈ gT := gp mP07 mG07 28 rfl
theorem m_1044 : (Cond.selects RX4 yX4_comes yX4_comes) ∈ gT := gp mP07 mG07 29 rfl
theorem m_1045 : (Cond.code yX4_comes cX4_comes 4 (some .int)) ∈ gT := gp mP07 mG07 30 rfl
theorem m_1055 : (Cond.methodLink RX2 70 yX3_value) ∈ gT := gp mP07 mG07 31 rfl
theorem m_1056 : (Cond.methodLink RX2 37 yX2_isLost) ∈ gT := gp mP07 mG07 32 rfl
theorem m_1058 : (Cond.instanceMethod yX2_isLost) ∈ gT := gp mP07 mG07 33 rfl
theorem m_1059 : (Cond.code yX2_isLost cX2_isLost 5 (some .boolean)) ∈ gT := gp mP07 mG07 34 rfl
theorem m_1064 : (Cond.methodLink RX2 88 yX2_placeOf) ∈ gT := gp mP07 mG07 35 rfl
theorem m_1065 : (Cond.instanceMethod yX2_placeOf) ∈ gT := gp mP07 mG07 36 rfl
theorem m_1066 : (Cond.selects RX2 yX2_placeOf yX2_placeOf) ∈ gT := gp mP07 mG07 37 rfl
theorem m_1067 : (Cond.code yX2_placeOf cX2_placeOf 2 (some .int)) ∈ gT := gp mP07 mG07 38 rfl
theorem m_1068 : (Cond.methodLink RX2 92 yX2_comesBack) ∈ gT := gp mP07 mG07 39 rfl
theorem m_1069 : (Cond.instanceMethod yX2_comesBack) ∈ gT := gp mP07 mG07 40 rfl
theorem m_1070 : (Cond.selects RX2 yX2_comesBack yX2_comesBack) ∈ gT := gp mP07 mG07 41 rfl
theorem m_1071 : (Cond.code yX2_comesBack cX2_comesBack 3 (some .boolean)) ∈ gT := gp mP07 mG07 42 rfl
theorem dX2_place_0 : decode cX2_place 0 = .ok (.aload_n 0, 1) := by decide +kernel
theorem dX2_place_1 : decode cX2_place 1 = .ok (.getfield 17, 3) := by decide +kernel
set_option maxRecDepth 20000 in
theorem i_X2 : ∀ w ∈ u_ws RX2 TX2 5, w ∈ gT := gin [520, 522, 524, 526, 528] (by decide +kernel) (by decide +kernel)
theorem gdX2_place_4 : decode cX2_place 4 = .ok (.iconst 0, 1) ∧ decode cX2_place 5 = .ok (.aload_n 1, 1) ∧ decode cX2_place 6 = .ok (.iload_n 3, 1) ∧ decode cX2_place 7 = .ok (.aload_n 2, 1) ∧ decode cX2_place 8 = .ok (.getfield 46, 3) := by decide +kernel
theorem dX2_place_4 : decode cX2_place 4 = .ok (.iconst 0, 1) := gdX2_place_4.1
theorem dX2_place_5 : decode cX2_place 5 = .ok (.aload_n 1, 1) := gdX2_place_4.2.1
theorem dX2_place_6 : decode cX2_place 6 = .ok (.iload_n 3, 1) := gdX2_place_4.2.2.1
theorem dX2_place_7 : decode cX2_place 7 = .ok (.aload_n 2, 1) := gdX2_place_4.2.2.2.1
theorem dX2_place_8 : decode cX2_place 8 = .ok (.getfield 46, 3) := gdX2_place_4.2.2.2.2
set_option maxRecDepth 20000 in
theorem i_X7 : ∀ w ∈ u_ws RX7 TX7 7, w ∈ gT := gin [643, 645, 647, 649, 651, 653, 655] (by decide +kernel) (by decide +kernel)
theorem dX2_place_11 : decode cX2_place 11 = .ok (.invokevirtual 48, 3) := by decide +kernel
theorem k_X2_48 : xV RX2 RX4 48 yX4_far cX4_far 3 (some .int) 2 := ⟨⟨m_1041, m_1023, m_1024, m_137, m_1025⟩, rfl, by decide, by decide, by decide +kernel⟩
theorem gdX2_place_14 : decode cX2_place 14 = .ok (.iastore, 1) ∧ decode cX2_place 15 = .ok (.aload_n 0, 1) ∧ decode cX2_place 16 = .ok (.getfield 17, 3) ∧ decode cX2_place 19 = .ok (.iconst 1, 1) ∧ decode cX2_place 20 = .ok (.aload_n 2, 1) ∧ decode cX2_place 21 = .ok (.getfield 52, 3) ∧ decode cX2_place 24 = .ok (.iastore, 1) ∧ decode cX2_place 25 = .ok (.aload_n 0, 1) ∧ decode cX2_place 26 = .ok (.getfield 17, 3) ∧ decode cX2_place 29 = .ok (.iconst 2, 1) ∧ decode cX2_place 30 = .ok (.aload_n 2, 1) ∧ decode cX2_place 31 = .ok (.getfield 55, 3) := by decide +kernel
theorem dX2_place_14 : decode cX2_place 14 = .ok (.iastore, 1) := gdX2_place_14.1
theorem dX2_place_15 : decode cX2_place 15 = .ok (.aload_n 0, 1) := gdX2_place_14.2.1
theorem dX2_place_16 : decode cX2_place 16 = .ok (.getfield 17, 3) := gdX2_place_14.2.2.1
theorem dX2_place_19 : decode cX2_place 19 = .ok (.iconst 1, 1) := gdX2_place_14.2.2.2.1
theorem dX2_place_20 : decode cX2_place 20 = .ok (.aload_n 2, 1) := gdX2_place_14.2.2.2.2.1
theorem dX2_place_21 : decode cX2_place 21 = .ok (.getfield 52, 3) := gdX2_place_14.2.2.2.2.2.1
theorem dX2_place_24 : decode cX2_place 24 = .ok (.iastore, 1) := gdX2_place_14.2.2.2.2.2.2.1
theorem dX2_place_25 : decode cX2_place 25 = .ok (.aload_n 0, 1) := gdX2_place_14.2.2.2.2.2.2.2.1
theorem dX2_place_26 : decode cX2_place 26 = .ok (.getfield 17, 3) := gdX2_place_14.2.2.2.2.2.2.2.2.1
theorem dX2_place_29 : decode cX2_place 29 = .ok (.iconst 2, 1) := gdX2_place_14.2.2.2.2.2.2.2.2.2.1
theorem dX2_place_30 : decode cX2_place 30 = .ok (.aload_n 2, 1) := gdX2_place_14.2.2.2.2.2.2.2.2.2.2.1
theorem dX2_place_31 : decode cX2_place 31 = .ok (.getfield 55, 3) := gdX2_place_14.2.2.2.2.2.2.2.2.2.2.2
theorem gdX2_place_34 : decode cX2_place 34 = .ok (.iload_n 3, 1) ∧ decode cX2_place 35 = .ok (.iaload, 1) ∧ decode cX2_place 36 = .ok (.iastore, 1) ∧ decode cX2_place 37 = .ok (.aload_n 0, 1) ∧ decode cX2_place 38 = .ok (.getfield 17, 3) ∧ decode cX2_place 41 = .ok (.iconst 3, 1) ∧ decode cX2_place 42 = .ok (.iload 4, 2) ∧ decode cX2_place 44 = .ok (.iastore, 1) ∧ decode cX2_place 45 = .ok (.aload_n 0, 1) ∧ decode cX2_place 46 = .ok (.getfield 17, 3) ∧ decode cX2_place 49 = .ok (.iconst 4, 1) ∧ decode cX2_place 50 = .ok (.iconst 0, 1) := by decide +kernel
theorem dX2_place_34 : decode cX2_place 34 = .ok (.iload_n 3, 1) := gdX2_place_34.1
theorem dX2_place_35 : decode cX2_place 35 = .ok (.iaload, 1) := gdX2_place_34.2.1
theorem dX2_place_36 : decode cX2_place 36 = .ok (.iastore, 1) := gdX2_place_34.2.2.1
theorem dX2_place_37 : decode cX2_place 37 = .ok (.aload_n 0, 1) := gdX2_place_34.2.2.2.1
theorem dX2_place_38 : decode cX2_place 38 = .ok (.getfield 17, 3) := gdX2_place_34.2.2.2.2.1
theorem dX2_place_41 : decode cX2_place 41 = .ok (.iconst 3, 1) := gdX2_place_34.2.2.2.2.2.1
theorem dX2_place_42 : decode cX2_place 42 = .ok (.iload 4, 2) := gdX2_place_34.2.2.2.2.2.2.1
theorem dX2_place_44 : decode cX2_place 44 = .ok (.iastore, 1) := gdX2_place_34.2.2.2.2.2.2.2.1
theorem dX2_place_45 : decode cX2_place 45 = .ok (.aload_n 0, 1) := gdX2_place_34.2.2.2.2.2.2.2.2.1
theorem dX2_place_46 : decode cX2_place 46 = .ok (.getfield 17, 3) := gdX2_place_34.2.2.2.2.2.2.2.2.2.1
theorem dX2_place_49 : decode cX2_place 49 = .ok (.iconst 4, 1) := gdX2_place_34.2.2.2.2.2.2.2.2.2.2.1
theorem dX2_place_50 : decode cX2_place 50 = .ok (.iconst 0, 1) := gdX2_place_34.2.2.2.2.2.2.2.2.2.2.2
theorem gdX2_place_51 : decode cX2_place 51 = .ok (.iastore, 1) ∧ decode cX2_place 52 = .ok (.aload_n 0, 1) ∧ decode cX2_place 53 = .ok (.getfield 17, 3) ∧ decode cX2_place 56 = .ok (.iconst 5, 1) ∧ decode cX2_place 57 = .ok (.iconst 0, 1) ∧ decode cX2_place 58 = .ok (.iastore, 1) ∧ decode cX2_place 59 = .ok (.aload_n 0, 1) ∧ decode cX2_place 60 = .ok (.getfield 17, 3) ∧ decode cX2_place 63 = .ok (.bipush 6, 2) ∧ decode cX2_place 65 = .ok (.iconst 0, 1) ∧ decode cX2_place 66 = .ok (.iastore, 1) ∧ decode cX2_place 67 = .ok (.aload_n 0, 1) := by decide +kernel
theorem dX2_place_51 : decode cX2_place 51 = .ok (.iastore, 1) := gdX2_place_51.1
theorem dX2_place_52 : decode cX2_place 52 = .ok (.aload_n 0, 1) := gdX2_place_51.2.1
theorem dX2_place_53 : decode cX2_place 53 = .ok (.getfield 17, 3) := gdX2_place_51.2.2.1
theorem dX2_place_56 : decode cX2_place 56 = .ok (.iconst 5, 1) := gdX2_place_51.2.2.2.1
theorem dX2_place_57 : decode cX2_place 57 = .ok (.iconst 0, 1) := gdX2_place_51.2.2.2.2.1
theorem dX2_place_58 : decode cX2_place 58 = .ok (.iastore, 1) := gdX2_place_51.2.2.2.2.2.1
theorem dX2_place_59 : decode cX2_place 59 = .ok (.aload_n 0, 1) := gdX2_place_51.2.2.2.2.2.2.1
theorem dX2_place_60 : decode cX2_place 60 = .ok (.getfield 17, 3) := gdX2_place_51.2.2.2.2.2.2.2.1
theorem dX2_place_63 : decode cX2_place 63 = .ok (.bipush 6, 2) := gdX2_place_51.2.2.2.2.2.2.2.2.1
theorem dX2_place_65 : decode cX2_place 65 = .ok (.iconst 0, 1) := gdX2_place_51.2.2.2.2.2.2.2.2.2.1
theorem dX2_place_66 : decode cX2_place 66 = .ok (.iastore, 1) := gdX2_place_51.2.2.2.2.2.2.2.2.2.2.1
theorem dX2_place_67 : decode cX2_place 67 = .ok (.aload_n 0, 1) := gdX2_place_51.2.2.2.2.2.2.2.2.2.2.2
theorem gdX2_place_68 : decode cX2_place 68 = .ok (.iload 4, 2) ∧ decode cX2_place 70 = .ok (.putfield 33, 3) ∧ decode cX2_place 73 = .ok (.aload_n 0, 1) ∧ decode cX2_place 74 = .ok (.iload 4, 2) ∧ decode cX2_place 76 = .ok (.aload_n 1, 1) ∧ decode cX2_place 77 = .ok (.aload_n 0, 1) ∧ decode cX2_place 78 = .ok (.getfield 17, 3) ∧ decode cX2_place 81 = .ok (.invokevirtual 58, 3) := by decide +kernel
theorem dX2_place_68 : decode cX2_place 68 = .ok (.iload 4, 2) := gdX2_place_68.1
theorem dX2_place_70 : decode cX2_place 70 = .ok (.putfield 33, 3) := gdX2_place_68.2.1
theorem dX2_place_73 : decode cX2_place 73 = .ok (.aload_n 0, 1) := gdX2_place_68.2.2.1
theorem dX2_place_74 : decode cX2_place 74 = .ok (.iload 4, 2) := gdX2_place_68.2.2.2.1
theorem dX2_place_76 : decode cX2_place 76 = .ok (.aload_n 1, 1) := gdX2_place_68.2.2.2.2.1
theorem dX2_place_77 : decode cX2_place 77 = .ok (.aload_n 0, 1) := gdX2_place_68.2.2.2.2.2.1
theorem dX2_place_78 : decode cX2_place 78 = .ok (.getfield 17, 3) := gdX2_place_68.2.2.2.2.2.2.1
theorem dX2_place_81 : decode cX2_place 81 = .ok (.invokevirtual 58, 3) := gdX2_place_68.2.2.2.2.2.2.2
theorem k_X2_58 : xV RX2 RX4 58 yX4_comes cX4_comes 4 (some .int) 1 := ⟨⟨m_1042, m_1043, m_1044, m_137, m_1045⟩, rfl, by decide, by decide, by decide +kernel⟩
theorem gdX2_place_84 : decode cX2_place 84 = .ok (.isub, 1) ∧ decode cX2_place 85 = .ok (.putfield 30, 3) ∧ decode cX2_place 88 = .ok (.aload_n 0, 1) ∧ decode cX2_place 89 = .ok (.aload_n 0, 1) ∧ decode cX2_place 90 = .ok (.getfield 30, 3) ∧ decode cX2_place 93 = .ok (.iload 4, 2) ∧ decode cX2_place 95 = .ok (.if_icmp .ge 31, 3) ∧ decode cX2_place 126 = .ok (.iconst 0, 1) ∧ decode cX2_place 127 = .ok (.putfield 73, 3) ∧ decode cX2_place 130 = .ok (.iconst 0, 1) ∧ decode cX2_place 131 = .ok (.istore 5, 2) ∧ decode cX2_place 133 = .ok (.iload 5, 2) := by decide +kernel
theorem dX2_place_84 : decode cX2_place 84 = .ok (.isub, 1) := gdX2_place_84.1
theorem dX2_place_85 : decode cX2_place 85 = .ok (.putfield 30, 3) := gdX2_place_84.2.1
theorem dX2_place_88 : decode cX2_place 88 = .ok (.aload_n 0, 1) := gdX2_place_84.2.2.1
theorem dX2_place_89 : decode cX2_place 89 = .ok (.aload_n 0, 1) := gdX2_place_84.2.2.2.1
theorem dX2_place_90 : decode cX2_place 90 = .ok (.getfield 30, 3) := gdX2_place_84.2.2.2.2.1
theorem dX2_place_93 : decode cX2_place 93 = .ok (.iload 4, 2) := gdX2_place_84.2.2.2.2.2.1
theorem dX2_place_95 : decode cX2_place 95 = .ok (.if_icmp .ge 31, 3) := gdX2_place_84.2.2.2.2.2.2.1
theorem dX2_place_126 : decode cX2_place 126 = .ok (.iconst 0, 1) := gdX2_place_84.2.2.2.2.2.2.2.1
theorem dX2_place_127 : decode cX2_place 127 = .ok (.putfield 73, 3) := gdX2_place_84.2.2.2.2.2.2.2.2.1
theorem dX2_place_130 : decode cX2_place 130 = .ok (.iconst 0, 1) := gdX2_place_84.2.2.2.2.2.2.2.2.2.1
theorem dX2_place_131 : decode cX2_place 131 = .ok (.istore 5, 2) := gdX2_place_84.2.2.2.2.2.2.2.2.2.2.1
theorem dX2_place_133 : decode cX2_place 133 = .ok (.iload 5, 2) := gdX2_place_84.2.2.2.2.2.2.2.2.2.2.2
theorem gdX2_place_135 : decode cX2_place 135 = .ok (.aload_n 0, 1) ∧ decode cX2_place 136 = .ok (.getfield 30, 3) ∧ decode cX2_place 139 = .ok (.if_icmp .ge 19, 3) ∧ decode cX2_place 158 = .ok (.return_, 1) ∧ decode cX2_place 142 = .ok (.aload_n 0, 1) ∧ decode cX2_place 143 = .ok (.getfield 9, 3) ∧ decode cX2_place 146 = .ok (.iload 5, 2) ∧ decode cX2_place 148 = .ok (.sipush 255, 3) ∧ decode cX2_place 151 = .ok (.iastore, 1) ∧ decode cX2_place 152 = .ok (.iinc 5 1, 3) ∧ decode cX2_place 155 = .ok (.goto (-22), 3) ∧ decode cX2_place 98 = .ok (.aload_n 1, 1) := by decide +kernel
theorem dX2_place_135 : decode cX2_place 135 = .ok (.aload_n 0, 1) := gdX2_place_135.1
theorem dX2_place_136 : decode cX2_place 136 = .ok (.getfield 30, 3) := gdX2_place_135.2.1
theorem dX2_place_139 : decode cX2_place 139 = .ok (.if_icmp .ge 19, 3) := gdX2_place_135.2.2.1
theorem dX2_place_158 : decode cX2_place 158 = .ok (.return_, 1) := gdX2_place_135.2.2.2.1
theorem dX2_place_142 : decode cX2_place 142 = .ok (.aload_n 0, 1) := gdX2_place_135.2.2.2.2.1
theorem dX2_place_143 : decode cX2_place 143 = .ok (.getfield 9, 3) := gdX2_place_135.2.2.2.2.2.1
theorem dX2_place_146 : decode cX2_place 146 = .ok (.iload 5, 2) := gdX2_place_135.2.2.2.2.2.2.1
theorem dX2_place_148 : decode cX2_place 148 = .ok (.sipush 255, 3) := gdX2_place_135.2.2.2.2.2.2.2.1
theorem dX2_place_151 : decode cX2_place 151 = .ok (.iastore, 1) := gdX2_place_135.2.2.2.2.2.2.2.2.1
theorem dX2_place_152 : decode cX2_place 152 = .ok (.iinc 5 1, 3) := gdX2_place_135.2.2.2.2.2.2.2.2.2.1
theorem dX2_place_155 : decode cX2_place 155 = .ok (.goto (-22), 3) := gdX2_place_135.2.2.2.2.2.2.2.2.2.2.1
theorem dX2_place_98 : decode cX2_place 98 = .ok (.aload_n 1, 1) := gdX2_place_135.2.2.2.2.2.2.2.2.2.2.2
theorem gdX2_place_99 : decode cX2_place 99 = .ok (.getfield 62, 3) ∧ decode cX2_place 102 = .ok (.getfield 66, 3) ∧ decode cX2_place 105 = .ok (.ifCond .eq 21, 3) ∧ decode cX2_place 108 = .ok (.aload_n 1, 1) ∧ decode cX2_place 109 = .ok (.getfield 62, 3) ∧ decode cX2_place 112 = .ok (.aload_n 0, 1) ∧ decode cX2_place 113 = .ok (.getfield 17, 3) ∧ decode cX2_place 116 = .ok (.invokevirtual 70, 3) := by decide +kernel
theorem dX2_place_99 : decode cX2_place 99 = .ok (.getfield 62, 3) := gdX2_place_99.1
theorem dX2_place_102 : decode cX2_place 102 = .ok (.getfield 66, 3) := gdX2_place_99.2.1
theorem dX2_place_105 : decode cX2_place 105 = .ok (.ifCond .eq 21, 3) := gdX2_place_99.2.2.1
theorem dX2_place_108 : decode cX2_place 108 = .ok (.aload_n 1, 1) := gdX2_place_99.2.2.2.1
theorem dX2_place_109 : decode cX2_place 109 = .ok (.getfield 62, 3) := gdX2_place_99.2.2.2.2.1
theorem dX2_place_112 : decode cX2_place 112 = .ok (.aload_n 0, 1) := gdX2_place_99.2.2.2.2.2.1
theorem dX2_place_113 : decode cX2_place 113 = .ok (.getfield 17, 3) := gdX2_place_99.2.2.2.2.2.2.1
theorem dX2_place_116 : decode cX2_place 116 = .ok (.invokevirtual 70, 3) := gdX2_place_99.2.2.2.2.2.2.2
theorem k_X2_70 : xV RX2 RX3 70 yX3_value cX3_value 6 (some .int) 1 := ⟨⟨m_1055, m_1047, m_1048, m_138, m_1049⟩, rfl, by decide, by decide, by decide +kernel⟩
theorem gdX2_place_119 : decode cX2_place 119 = .ok (.ifCond .eq 7, 3) ∧ decode cX2_place 122 = .ok (.iconst 1, 1) ∧ decode cX2_place 123 = .ok (.goto 4, 3) := by decide +kernel
theorem dX2_place_119 : decode cX2_place 119 = .ok (.ifCond .eq 7, 3) := gdX2_place_119.1
theorem dX2_place_122 : decode cX2_place 122 = .ok (.iconst 1, 1) := gdX2_place_119.2.1
theorem dX2_place_123 : decode cX2_place 123 = .ok (.goto 4, 3) := gdX2_place_119.2.2
set_option maxHeartbeats 1000000 in
set_option maxRecDepth 100000 in
theorem s_place (l : Launch) (D : va_G) (cy : Nat → ClassId) (e0 : Nat) (e1 : Nat) (e2 : Nat) (et : Int32) (el : Int32) (ef : Int32) (fg : Nat → Int32) (ff : Nat → Int32) (h0 : Nat) (h1 : Nat) (h2 : Nat) (h3 : Nat) (h4 : Nat) (h5 : Nat) (h6 : Nat) (h7 : Nat) (h8 : Nat) (h9 : Nat) (h10 : Nat) (h11 : Nat) (hv0 : Value) (hv1 : Value) (hv2 : Value) (hv3 : Value) (hv4 : Value) (fp : Nat → Int32) (h9a : Nat) (h9b : Nat) (nb : Nat) (tb : Int32) (fcb : Nat → Int32) (fsb : Nat → Int32) (h11a : Nat) (h11b : Nat) (nt : Nat) (tt : Int32) (fct : Nat → Int32) (fst : Nat → Int32) (s0 : Nat) (s1 : Nat) (s2 : Nat) (sl : Nat) (spl : Int32) (svo : Int32) (swi : Int32) (sch : Int32) (fsn : Nat → Int32) (j : Nat) (mm : Nat) (hnb : nb ≤ 280) (hcb : cOK fcb nb) (hnt : nt ≤ 280) (hct : cOK fct nt) (hj : j < 4) (hm : mm ≤ 10) : XMv l D (tyL cy) E0 yX2_place cX2_place 6 none (rmk 3 0 0) [.ref e0, .ref h0, .ref s0, .int (nI j), .int (nI mm)] [wO e0 2 [.ref e1, .ref e2, .int et, .int el, .int ef], wI (cy 1) e1 10 (fg), wI (cy 1) e2 7 (ff), wO h0 4 [.ref h1, .ref h2, .ref h3, .ref h4, .ref h5, .ref h6, .ref h7, .ref h8, .ref h9, .ref h10, .ref h11, hv0, hv1, hv2, hv3, hv4], wI (cy 1) h3 4 (fp), wO h9 3 [.ref h9a, .ref h9b, .int (nI nb), .int tb], wI (cy 1) h9a 280 (fcb), wI (cy 1) h9b 31 (fsb), wO h11 3 [.ref h11a, .ref h11b, .int (nI nt), .int tt], wI (cy 1) h11a 280 (fct), wI (cy 1) h11b 31 (fst), wO s0 7 [.ref s1, .ref s2, .int (nI sl), .int spl, .int svo, .int swi, .int sch], wI (cy 1) s2 4 (fsn)] (fun (u : Nat × Int32 × (Nat → Int32) × (Nat → Int32) × (Nat → Int32) × (Nat → Int32)) => (u.1 ≤ mm)) (fun (u : Nat × Int32 × (Nat → Int32) × (Nat → Int32) × (Nat → Int32) × (Nat → Int32)) => [wO e0 2 [.ref e1, .ref e2, .int u.2.1, .int (nI mm), .int (nI u.1)], wI (cy 1) e1 10 (u.2.2.1), wI (cy 1) e2 7 (u.2.2.2.1), wO h0 4 [.ref h1, .ref h2, .ref h3, .ref h4, .ref h5, .ref h6, .ref h7, .ref h8, .ref h9, .ref h10, .ref h11, hv0, hv1, hv2, hv3, hv4], wI (cy 1) h3 4 (fp), wO h9 3 [.ref h9a, .ref h9b, .int (nI nb), .int tb], wI (cy 1) h9a 280 (fcb), wI (cy 1) h9b 31 (u.2.2.2.2.1), wO h11 3 [.ref h11a, .ref h11b, .int (nI nt), .int tt], wI (cy 1) h11a 280 (fct), wI (cy 1) h11b 31 (u.2.2.2.2.2), wO s0 7 [.ref s1, .ref s2, .int (nI sl), .int spl, .int svo, .int swi, .int sch], wI (cy 1) s2 4 (fsn)]) := by
  refine XMv.start (by decide) (Nat.le_of_ble_eq_true rfl) ?_
  intro p e s m below meth c args A ls Q hat hQ
  obtain ⟨hx, hb, hr, hml, hown, hg, hlocks, hin, hK, hA, hP, hD, hS, hE, hl⟩ := hat
  have hown : s.vm.findClass RX2 = some m.cls := hown
  have hl : lv_has ls 6 [(0, .ref e0), (1, .ref h0), (2, .ref s0), (3, .int (nI j)), (4, .int (nI mm))] := hl
  refine lv_aload_n hx hb dX2_place_0 rfl (lv_at hl 0 rfl) ?_
  refine va_get (D := D) (ci := 2) (v := .ref e2) (C := RX2) (T := TX2) (N := 5) hx hb hg i_X2 hown hK hP 0 rfl rfl 1 (by decide) (hg _ m_515) (fun _ h9 => h9) rfl dX2_place_1 ?_
  refine lv_iconst (v := 0) hx hb dX2_place_4 (by decide) ?_
  refine lv_aload_n hx hb dX2_place_5 rfl (lv_at hl 1 rfl) ?_
  refine lv_iload_n hx hb dX2_place_6 rfl (lv_at hl 3 rfl) ?_
  refine lv_aload_n hx hb dX2_place_7 rfl (lv_at hl 2 rfl) ?_
  refine va_get (D := D) (ci := 7) (v := .int spl) (C := RX7) (T := TX7) (N := 7) hx hb hg i_X7 hown hK hP 11 rfl rfl 3 (by decide) (hg _ m_635) (fun _ h9 => h9) rfl dX2_place_8 ?_
  refine x_callVi (q := (RX4, TX4, 16)) (ci := 4) (q0 := 0) (wr := [wO e0 2 [.ref e1, .ref e2, .int et, .int el, .int ef], wI (cy 1) e1 10 (fg), wI (cy 1) e2 7 (ff), wO h9 3 [.ref h9a, .ref h9b, .int (nI nb), .int tb], wI (cy 1) h9a 280 (fcb), wI (cy 1) h9b 31 (fsb), wO h11 3 [.ref h11a, .ref h11b, .int (nI nt), .int tt], wI (cy 1) h11a 280 (fct), wI (cy 1) h11b 31 (fst), wO s0 7 [.ref s1, .ref s2, .int (nI sl), .int spl, .int svo, .int swi, .int sch], wI (cy 1) s2 4 (fsn)]) (rest := [.int 0, .ref e2]) ⟨hx, hb, hml, hown, hg, hl.1⟩ k_X2_48 (s_far l D cy h0 h1 h2 h3 h4 h5 h6 h7 h8 h9 h10 h11 hv0 hv1 hv2 hv3 hv4 fp j spl (by omega)) E0_blind hK hP hD hS hA [3, 4] [0, 1, 2, 5, 6, 7, 8, 9, 10, 11, 12] ⟨rfl, rfl, by decide +kernel, by decide +kernel, by decide +kernel⟩ rfl rfl (fun _ _ _ => trivial) dX2_place_11 rfl rfl (Nat.le_of_ble_eq_true rfl) ⟨Nat.le_of_ble_eq_true rfl, Nat.le_of_ble_eq_true rfl⟩ ⟨Nat.le_of_ble_eq_true rfl, Nat.le_of_ble_eq_true rfl⟩ (fun zr1 zu1 H locs hw1 hP9 hD9 hS9 => ?_)
  clear hP hD hS
  refine reW [wO e0 2 [.ref e1, .ref e2, .int et, .int el, .int ef], wI (cy 1) e1 10 (fg), wI (cy 1) e2 7 (ff), wO h9 3 [.ref h9a, .ref h9b, .int (nI nb), .int tb], wI (cy 1) h9a 280 (fcb), wI (cy 1) h9b 31 (fsb), wO h11 3 [.ref h11a, .ref h11b, .int (nI nt), .int tt], wI (cy 1) h11a 280 (fct), wI (cy 1) h11b 31 (fst), wO s0 7 [.ref s1, .ref s2, .int (nI sl), .int spl, .int svo, .int swi, .int sch], wI (cy 1) s2 4 (fsn), wO h0 4 [.ref h1, .ref h2, .ref h3, .ref h4, .ref h5, .ref h6, .ref h7, .ref h8, .ref h9, .ref h10, .ref h11, hv0, hv1, hv2, hv3, hv4], wI (cy 1) h3 4 (fp)] hP9 hD9 hS9 (fun hP hD hS => ?_)
  clear hP9 hD9 hS9
  refine W.widen (k := 0) (n := 0) (Nat.le_of_ble_eq_true rfl) (Nat.le_of_ble_eq_true rfl) ?_
  replace hw1 : True := hw1
  refine va_iast hx hb hK hP hD hS 2 1 rfl rfl (by unfold vp_in; decide) dX2_place_14 (fun H locs hP9 hD9 hS9 => ?_)
  clear hP hD hS
  refine reW [wO e0 2 [.ref e1, .ref e2, .int et, .int el, .int ef], wI (cy 1) e1 10 (fg), wI (cy 1) e2 7 (upd ff (0 : Int32).toNatClampNeg zr1), wO h9 3 [.ref h9a, .ref h9b, .int (nI nb), .int tb], wI (cy 1) h9a 280 (fcb), wI (cy 1) h9b 31 (fsb), wO h11 3 [.ref h11a, .ref h11b, .int (nI nt), .int tt], wI (cy 1) h11a 280 (fct), wI (cy 1) h11b 31 (fst), wO s0 7 [.ref s1, .ref s2, .int (nI sl), .int spl, .int svo, .int swi, .int sch], wI (cy 1) s2 4 (fsn), wO h0 4 [.ref h1, .ref h2, .ref h3, .ref h4, .ref h5, .ref h6, .ref h7, .ref h8, .ref h9, .ref h10, .ref h11, hv0, hv1, hv2, hv3, hv4], wI (cy 1) h3 4 (fp)] hP9 hD9 hS9 (fun hP hD hS => ?_)
  clear hP9 hD9 hS9
  refine lv_aload_n hx hb dX2_place_15 rfl (lv_at hl 0 rfl) ?_
  refine va_get (D := D) (ci := 2) (v := .ref e2) (C := RX2) (T := TX2) (N := 5) hx hb hg i_X2 hown hK hP 0 rfl rfl 1 (by decide) (hg _ m_515) (fun _ h9 => h9) rfl dX2_place_16 ?_
  refine lv_iconst (v := 1) hx hb dX2_place_19 (by decide) ?_
  refine lv_aload_n hx hb dX2_place_20 rfl (lv_at hl 2 rfl) ?_
  refine va_get (D := D) (ci := 7) (v := .int swi) (C := RX7) (T := TX7) (N := 7) hx hb hg i_X7 hown hK hP 9 rfl rfl 5 (by decide) (hg _ m_639) (fun _ h9 => h9) rfl dX2_place_21 ?_
  refine va_iast hx hb hK hP hD hS 2 1 rfl rfl (by unfold vp_in; decide) dX2_place_24 (fun H locs hP9 hD9 hS9 => ?_)
  clear hP hD hS
  refine reW [wO e0 2 [.ref e1, .ref e2, .int et, .int el, .int ef], wI (cy 1) e1 10 (fg), wI (cy 1) e2 7 (upd (upd ff (0 : Int32).toNatClampNeg zr1) (1 : Int32).toNatClampNeg swi), wO h9 3 [.ref h9a, .ref h9b, .int (nI nb), .int tb], wI (cy 1) h9a 280 (fcb), wI (cy 1) h9b 31 (fsb), wO h11 3 [.ref h11a, .ref h11b, .int (nI nt), .int tt], wI (cy 1) h11a 280 (fct), wI (cy 1) h11b 31 (fst), wO s0 7 [.ref s1, .ref s2, .int (nI sl), .int spl, .int svo, .int swi, .int sch], wI (cy 1) s2 4 (fsn), wO h0 4 [.ref h1, .ref h2, .ref h3, .ref h4, .ref h5, .ref h6, .ref h7, .ref h8, .ref h9, .ref h10, .ref h11, hv0, hv1, hv2, hv3, hv4], wI (cy 1) h3 4 (fp)] hP9 hD9 hS9 (fun hP hD hS => ?_)
  clear hP9 hD9 hS9
  refine lv_aload_n hx hb dX2_place_25 rfl (lv_at hl 0 rfl) ?_
  refine va_get (D := D) (ci := 2) (v := .ref e2) (C := RX2) (T := TX2) (N := 5) hx hb hg i_X2 hown hK hP 0 rfl rfl 1 (by decide) (hg _ m_515) (fun _ h9 => h9) rfl dX2_place_26 ?_
  refine lv_iconst (v := 2) hx hb dX2_place_29 (by decide) ?_
  refine lv_aload_n hx hb dX2_place_30 rfl (lv_at hl 2 rfl) ?_
  refine va_get (D := D) (ci := 7) (v := .ref s2) (C := RX7) (T := TX7) (N := 7) hx hb hg i_X7 hown hK hP 9 rfl rfl 1 (by decide) (hg _ m_626) (fun _ h9 => h9) rfl dX2_place_31 ?_
  refine lv_iload_n hx hb dX2_place_34 rfl (lv_at hl 3 rfl) ?_
  refine va_iald hx hb hK hP 10 1 rfl rfl (vp_in_nI (by omega) (by decide)) dX2_place_35 ?_
  refine lv_topi (fun x_2 ex_2 => ?_)
  refine va_iast hx hb hK hP hD hS 2 1 rfl rfl (by unfold vp_in; decide) dX2_place_36 (fun H locs hP9 hD9 hS9 => ?_)
  clear hP hD hS
  refine reW [wO e0 2 [.ref e1, .ref e2, .int et, .int el, .int ef], wI (cy 1) e1 10 (fg), wI (cy 1) e2 7 (upd (upd (upd ff (0 : Int32).toNatClampNeg zr1) (1 : Int32).toNatClampNeg swi) (2 : Int32).toNatClampNeg x_2), wO h9 3 [.ref h9a, .ref h9b, .int (nI nb), .int tb], wI (cy 1) h9a 280 (fcb), wI (cy 1) h9b 31 (fsb), wO h11 3 [.ref h11a, .ref h11b, .int (nI nt), .int tt], wI (cy 1) h11a 280 (fct), wI (cy 1) h11b 31 (fst), wO s0 7 [.ref s1, .ref s2, .int (nI sl), .int spl, .int svo, .int swi, .int sch], wI (cy 1) s2 4 (fsn), wO h0 4 [.ref h1, .ref h2, .ref h3, .ref h4, .ref h5, .ref h6, .ref h7, .ref h8, .ref h9, .ref h10, .ref h11, hv0, hv1, hv2, hv3, hv4], wI (cy 1) h3 4 (fp)] hP9 hD9 hS9 (fun hP hD hS => ?_)
  clear hP9 hD9 hS9
  refine lv_aload_n hx hb dX2_place_37 rfl (lv_at hl 0 rfl) ?_
  refine va_get (D := D) (ci := 2) (v := .ref e2) (C := RX2) (T := TX2) (N := 5) hx hb hg i_X2 hown hK hP 0 rfl rfl 1 (by decide) (hg _ m_515) (fun _ h9 => h9) rfl dX2_place_38 ?_
  refine lv_iconst (v := 3) hx hb dX2_place_41 (by decide) ?_
  refine lv_iload hx hb dX2_place_42 (lv_at hl 4 rfl) ?_
  refine va_iast hx hb hK hP hD hS 2 1 rfl rfl (by unfold vp_in; decide) dX2_place_44 (fun H locs hP9 hD9 hS9 => ?_)
  clear hP hD hS
  refine reW [wO e0 2 [.ref e1, .ref e2, .int et, .int el, .int ef], wI (cy 1) e1 10 (fg), wI (cy 1) e2 7 (upd (upd (upd (upd ff (0 : Int32).toNatClampNeg zr1) (1 : Int32).toNatClampNeg swi) (2 : Int32).toNatClampNeg x_2) (3 : Int32).toNatClampNeg (nI mm)), wO h9 3 [.ref h9a, .ref h9b, .int (nI nb), .int tb], wI (cy 1) h9a 280 (fcb), wI (cy 1) h9b 31 (fsb), wO h11 3 [.ref h11a, .ref h11b, .int (nI nt), .int tt], wI (cy 1) h11a 280 (fct), wI (cy 1) h11b 31 (fst), wO s0 7 [.ref s1, .ref s2, .int (nI sl), .int spl, .int svo, .int swi, .int sch], wI (cy 1) s2 4 (fsn), wO h0 4 [.ref h1, .ref h2, .ref h3, .ref h4, .ref h5, .ref h6, .ref h7, .ref h8, .ref h9, .ref h10, .ref h11, hv0, hv1, hv2, hv3, hv4], wI (cy 1) h3 4 (fp)] hP9 hD9 hS9 (fun hP hD hS => ?_)
  clear hP9 hD9 hS9
  refine lv_aload_n hx hb dX2_place_45 rfl (lv_at hl 0 rfl) ?_
  refine va_get (D := D) (ci := 2) (v := .ref e2) (C := RX2) (T := TX2) (N := 5) hx hb hg i_X2 hown hK hP 0 rfl rfl 1 (by decide) (hg _ m_515) (fun _ h9 => h9) rfl dX2_place_46 ?_
  refine lv_iconst (v := 4) hx hb dX2_place_49 (by decide) ?_
  refine lv_iconst (v := 0) hx hb dX2_place_50 (by decide) ?_
  refine va_iast hx hb hK hP hD hS 2 1 rfl rfl (by unfold vp_in; decide) dX2_place_51 (fun H locs hP9 hD9 hS9 => ?_)
  clear hP hD hS
  refine reW [wO e0 2 [.ref e1, .ref e2, .int et, .int el, .int ef], wI (cy 1) e1 10 (fg), wI (cy 1) e2 7 (upd (upd (upd (upd (upd ff (0 : Int32).toNatClampNeg zr1) (1 : Int32).toNatClampNeg swi) (2 : Int32).toNatClampNeg x_2) (3 : Int32).toNatClampNeg (nI mm)) (4 : Int32).toNatClampNeg 0), wO h9 3 [.ref h9a, .ref h9b, .int (nI nb), .int tb], wI (cy 1) h9a 280 (fcb), wI (cy 1) h9b 31 (fsb), wO h11 3 [.ref h11a, .ref h11b, .int (nI nt), .int tt], wI (cy 1) h11a 280 (fct), wI (cy 1) h11b 31 (fst), wO s0 7 [.ref s1, .ref s2, .int (nI sl), .int spl, .int svo, .int swi, .int sch], wI (cy 1) s2 4 (fsn), wO h0 4 [.ref h1, .ref h2, .ref h3, .ref h4, .ref h5, .ref h6, .ref h7, .ref h8, .ref h9, .ref h10, .ref h11, hv0, hv1, hv2, hv3, hv4], wI (cy 1) h3 4 (fp)] hP9 hD9 hS9 (fun hP hD hS => ?_)
  clear hP9 hD9 hS9
  refine lv_aload_n hx hb dX2_place_52 rfl (lv_at hl 0 rfl) ?_
  refine va_get (D := D) (ci := 2) (v := .ref e2) (C := RX2) (T := TX2) (N := 5) hx hb hg i_X2 hown hK hP 0 rfl rfl 1 (by decide) (hg _ m_515) (fun _ h9 => h9) rfl dX2_place_53 ?_
  refine lv_iconst (v := 5) hx hb dX2_place_56 (by decide) ?_
  refine lv_iconst (v := 0) hx hb dX2_place_57 (by decide) ?_
  refine va_iast hx hb hK hP hD hS 2 1 rfl rfl (by unfold vp_in; decide) dX2_place_58 (fun H locs hP9 hD9 hS9 => ?_)
  clear hP hD hS
  refine reW [wO e0 2 [.ref e1, .ref e2, .int et, .int el, .int ef], wI (cy 1) e1 10 (fg), wI (cy 1) e2 7 (upd (upd (upd (upd (upd (upd ff (0 : Int32).toNatClampNeg zr1) (1 : Int32).toNatClampNeg swi) (2 : Int32).toNatClampNeg x_2) (3 : Int32).toNatClampNeg (nI mm)) (4 : Int32).toNatClampNeg 0) (5 : Int32).toNatClampNeg 0), wO h9 3 [.ref h9a, .ref h9b, .int (nI nb), .int tb], wI (cy 1) h9a 280 (fcb), wI (cy 1) h9b 31 (fsb), wO h11 3 [.ref h11a, .ref h11b, .int (nI nt), .int tt], wI (cy 1) h11a 280 (fct), wI (cy 1) h11b 31 (fst), wO s0 7 [.ref s1, .ref s2, .int (nI sl), .int spl, .int svo, .int swi, .int sch], wI (cy 1) s2 4 (fsn), wO h0 4 [.ref h1, .ref h2, .ref h3, .ref h4, .ref h5, .ref h6, .ref h7, .ref h8, .ref h9, .ref h10, .ref h11, hv0, hv1, hv2, hv3, hv4], wI (cy 1) h3 4 (fp)] hP9 hD9 hS9 (fun hP hD hS => ?_)
  clear hP9 hD9 hS9
  refine lv_aload_n hx hb dX2_place_59 rfl (lv_at hl 0 rfl) ?_
  refine va_get (D := D) (ci := 2) (v := .ref e2) (C := RX2) (T := TX2) (N := 5) hx hb hg i_X2 hown hK hP 0 rfl rfl 1 (by decide) (hg _ m_515) (fun _ h9 => h9) rfl dX2_place_60 ?_
  refine lv_bipush (v := 6) hx hb dX2_place_63 (by decide) ?_
  refine lv_iconst (v := 0) hx hb dX2_place_65 (by decide) ?_
  refine va_iast hx hb hK hP hD hS 2 1 rfl rfl (by unfold vp_in; decide) dX2_place_66 (fun H locs hP9 hD9 hS9 => ?_)
  clear hP hD hS
  refine reW [wO e0 2 [.ref e1, .ref e2, .int et, .int el, .int ef], wI (cy 1) e1 10 (fg), wI (cy 1) e2 7 (upd (upd (upd (upd (upd (upd (upd ff (0 : Int32).toNatClampNeg zr1) (1 : Int32).toNatClampNeg swi) (2 : Int32).toNatClampNeg x_2) (3 : Int32).toNatClampNeg (nI mm)) (4 : Int32).toNatClampNeg 0) (5 : Int32).toNatClampNeg 0) (6 : Int32).toNatClampNeg 0), wO h9 3 [.ref h9a, .ref h9b, .int (nI nb), .int tb], wI (cy 1) h9a 280 (fcb), wI (cy 1) h9b 31 (fsb), wO h11 3 [.ref h11a, .ref h11b, .int (nI nt), .int tt], wI (cy 1) h11a 280 (fct), wI (cy 1) h11b 31 (fst), wO s0 7 [.ref s1, .ref s2, .int (nI sl), .int spl, .int svo, .int swi, .int sch], wI (cy 1) s2 4 (fsn), wO h0 4 [.ref h1, .ref h2, .ref h3, .ref h4, .ref h5, .ref h6, .ref h7, .ref h8, .ref h9, .ref h10, .ref h11, hv0, hv1, hv2, hv3, hv4], wI (cy 1) h3 4 (fp)] hP9 hD9 hS9 (fun hP hD hS => ?_)
  clear hP9 hD9 hS9
  refine lv_aload_n hx hb dX2_place_67 rfl (lv_at hl 0 rfl) ?_
  refine lv_iload hx hb dX2_place_68 (lv_at hl 4 rfl) ?_
  refine va_put (D := D) (ci := 2) (v := .int (nI mm)) (ty := .int) (C := RX2) (T := TX2) (N := 5) hx hb hg i_X2 tyX2 tyX2_ok nmX2 hown hK hP hD hS 0 rfl rfl 3 (by decide) (hg _ m_518) (fun _ h9 => h9) rfl (by decide +kernel) rfl rfl (Nat.le_of_ble_eq_true rfl) dX2_place_70 (fun H locs hP9 hD9 hS9 => ?_)
  clear hP hD hS
  refine reW [wO e0 2 [.ref e1, .ref e2, .int et, .int (nI mm), .int ef], wI (cy 1) e1 10 (fg), wI (cy 1) e2 7 (upd (upd (upd (upd (upd (upd (upd ff (0 : Int32).toNatClampNeg zr1) (1 : Int32).toNatClampNeg swi) (2 : Int32).toNatClampNeg x_2) (3 : Int32).toNatClampNeg (nI mm)) (4 : Int32).toNatClampNeg 0) (5 : Int32).toNatClampNeg 0) (6 : Int32).toNatClampNeg 0), wO h9 3 [.ref h9a, .ref h9b, .int (nI nb), .int tb], wI (cy 1) h9a 280 (fcb), wI (cy 1) h9b 31 (fsb), wO h11 3 [.ref h11a, .ref h11b, .int (nI nt), .int tt], wI (cy 1) h11a 280 (fct), wI (cy 1) h11b 31 (fst), wO s0 7 [.ref s1, .ref s2, .int (nI sl), .int spl, .int svo, .int swi, .int sch], wI (cy 1) s2 4 (fsn), wO h0 4 [.ref h1, .ref h2, .ref h3, .ref h4, .ref h5, .ref h6, .ref h7, .ref h8, .ref h9, .ref h10, .ref h11, hv0, hv1, hv2, hv3, hv4], wI (cy 1) h3 4 (fp)] hP9 hD9 hS9 (fun hP hD hS => ?_)
  clear hP9 hD9 hS9
  refine lv_aload_n hx hb dX2_place_73 rfl (lv_at hl 0 rfl) ?_
  refine lv_iload hx hb dX2_place_74 (lv_at hl 4 rfl) ?_
  refine lv_aload_n hx hb dX2_place_76 rfl (lv_at hl 1 rfl) ?_
  refine lv_aload_n hx hb dX2_place_77 rfl (lv_at hl 0 rfl) ?_
  refine va_get (D := D) (ci := 2) (v := .ref e2) (C := RX2) (T := TX2) (N := 5) hx hb hg i_X2 hown hK hP 0 rfl rfl 1 (by decide) (hg _ m_515) (fun _ h9 => h9) rfl dX2_place_78 ?_
  refine x_callVi (q := (RX4, TX4, 16)) (ci := 4) (q0 := 0) (wr := [wO e0 2 [.ref e1, .ref e2, .int et, .int (nI mm), .int ef], wI (cy 1) e1 10 (fg), wO h11 3 [.ref h11a, .ref h11b, .int (nI nt), .int tt], wI (cy 1) h11a 280 (fct), wI (cy 1) h11b 31 (fst), wO s0 7 [.ref s1, .ref s2, .int (nI sl), .int spl, .int svo, .int swi, .int sch], wI (cy 1) s2 4 (fsn), wI (cy 1) h3 4 (fp)]) (rest := [.int (nI mm), .ref e0]) ⟨hx, hb, hml, hown, hg, hl.1⟩ k_X2_58 (s_comes l D cy h0 h1 h2 h3 h4 h5 h6 h7 h8 h9 h10 h11 hv0 hv1 hv2 hv3 hv4 h9a h9b nb tb fcb fsb e2 (upd (upd (upd (upd (upd (upd (upd ff (0 : Int32).toNatClampNeg zr1) (1 : Int32).toNatClampNeg swi) (2 : Int32).toNatClampNeg x_2) (3 : Int32).toNatClampNeg (nI mm)) (4 : Int32).toNatClampNeg 0) (5 : Int32).toNatClampNeg 0) (6 : Int32).toNatClampNeg 0) mm (by omega) (hcb) (rfl) (by omega)) E0_blind hK hP hD hS hA [11, 3, 4, 5, 2] [0, 1, 6, 7, 8, 9, 10, 12] ⟨rfl, rfl, by decide +kernel, by decide +kernel, by decide +kernel⟩ rfl rfl (fun _ _ _ => trivial) dX2_place_81 rfl rfl (Nat.le_of_ble_eq_true rfl) ⟨Nat.le_of_ble_eq_true rfl, Nat.le_of_ble_eq_true rfl⟩ ⟨Nat.le_of_ble_eq_true rfl, Nat.le_of_ble_eq_true rfl⟩ (fun zr3 zu3 H locs hw3 hP9 hD9 hS9 => ?_)
  clear hP hD hS
  obtain ⟨fs2_4, k_5⟩ := zu3
  refine reW [wO e0 2 [.ref e1, .ref e2, .int et, .int (nI mm), .int ef], wI (cy 1) e1 10 (fg), wO h11 3 [.ref h11a, .ref h11b, .int (nI nt), .int tt], wI (cy 1) h11a 280 (fct), wI (cy 1) h11b 31 (fst), wO s0 7 [.ref s1, .ref s2, .int (nI sl), .int spl, .int svo, .int swi, .int sch], wI (cy 1) s2 4 (fsn), wI (cy 1) h3 4 (fp), wO h0 4 [.ref h1, .ref h2, .ref h3, .ref h4, .ref h5, .ref h6, .ref h7, .ref h8, .ref h9, .ref h10, .ref h11, hv0, hv1, hv2, hv3, hv4], wO h9 3 [.ref h9a, .ref h9b, .int (nI nb), .int tb], wI (cy 1) h9a 280 (fcb), wI (cy 1) h9b 31 (fs2_4), wI (cy 1) e2 7 (upd (upd (upd (upd (upd (upd (upd ff (0 : Int32).toNatClampNeg zr1) (1 : Int32).toNatClampNeg swi) (2 : Int32).toNatClampNeg x_2) (3 : Int32).toNatClampNeg (nI mm)) (4 : Int32).toNatClampNeg 0) (5 : Int32).toNatClampNeg 0) (6 : Int32).toNatClampNeg 0)] hP9 hD9 hS9 (fun hP hD hS => ?_)
  clear hP9 hD9 hS9
  refine W.widen (k := 0) (n := 0) (Nat.le_of_ble_eq_true rfl) (Nat.le_of_ble_eq_true rfl) ?_
  replace hw3 : (zr3 = nI k_5) ∧ (k_5 ≤ mm) := hw3
  obtain ⟨f_6, f_7⟩ := hw3
  subst f_6
  refine lv_isub hx hb dX2_place_84 ?_
  refine lv_topi (fun y_8 hy_8 => ?_)
  obtain rfl : y_8 = nI (mm - k_5) := hy_8.trans (pk_sub (a := mm) (b := k_5) (by omega))
  refine va_put (D := D) (ci := 2) (v := .int (nI (mm - k_5))) (ty := .int) (C := RX2) (T := TX2) (N := 5) hx hb hg i_X2 tyX2 tyX2_ok nmX2 hown hK hP hD hS 0 rfl rfl 4 (by decide) (hg _ m_519) (fun _ h9 => h9) rfl (by decide +kernel) rfl rfl (Nat.le_of_ble_eq_true rfl) dX2_place_85 (fun H locs hP9 hD9 hS9 => ?_)
  clear hP hD hS
  refine reW [wO e0 2 [.ref e1, .ref e2, .int et, .int (nI mm), .int (nI (mm - k_5))], wI (cy 1) e1 10 (fg), wO h11 3 [.ref h11a, .ref h11b, .int (nI nt), .int tt], wI (cy 1) h11a 280 (fct), wI (cy 1) h11b 31 (fst), wO s0 7 [.ref s1, .ref s2, .int (nI sl), .int spl, .int svo, .int swi, .int sch], wI (cy 1) s2 4 (fsn), wI (cy 1) h3 4 (fp), wO h0 4 [.ref h1, .ref h2, .ref h3, .ref h4, .ref h5, .ref h6, .ref h7, .ref h8, .ref h9, .ref h10, .ref h11, hv0, hv1, hv2, hv3, hv4], wO h9 3 [.ref h9a, .ref h9b, .int (nI nb), .int tb], wI (cy 1) h9a 280 (fcb), wI (cy 1) h9b 31 (fs2_4), wI (cy 1) e2 7 (upd (upd (upd (upd (upd (upd (upd ff (0 : Int32).toNatClampNeg zr1) (1 : Int32).toNatClampNeg swi) (2 : Int32).toNatClampNeg x_2) (3 : Int32).toNatClampNeg (nI mm)) (4 : Int32).toNatClampNeg 0) (5 : Int32).toNatClampNeg 0) (6 : Int32).toNatClampNeg 0)] hP9 hD9 hS9 (fun hP hD hS => ?_)
  clear hP9 hD9 hS9
  refine lv_aload_n hx hb dX2_place_88 rfl (lv_at hl 0 rfl) ?_
  refine lv_aload_n hx hb dX2_place_89 rfl (lv_at hl 0 rfl) ?_
  refine va_get (D := D) (ci := 2) (v := .int (nI (mm - k_5))) (C := RX2) (T := TX2) (N := 5) hx hb hg i_X2 hown hK hP 0 rfl rfl 4 (by decide) (hg _ m_519) (fun _ h9 => h9) rfl dX2_place_90 ?_
  refine lv_iload hx hb dX2_place_93 (lv_at hl 4 rfl) ?_
  refine lv_icmp_ge (tgt := 126) hx hb dX2_place_95 (by decide) (fun c_9 => ?_) (fun c_9 => ?_)
  · have q_10 : mm ≤ (mm - k_5) := q_le (a := mm) (b := (mm - k_5)) rfl rfl (by omega) (by omega) c_9
    refine lv_iconst (v := 0) hx hb dX2_place_126 (by decide) ?_
    refine va_put (D := D) (ci := 2) (v := .int 0) (ty := .boolean) (C := RX2) (T := TX2) (N := 5) hx hb hg i_X2 tyX2 tyX2_ok nmX2 hown hK hP hD hS 0 rfl rfl 2 (by decide) (hg _ m_516) (fun _ h9 => h9) rfl (by decide +kernel) rfl rfl (Nat.le_of_ble_eq_true rfl) dX2_place_127 (fun H locs hP9 hD9 hS9 => ?_)
    clear hP hD hS
    refine reW [wO e0 2 [.ref e1, .ref e2, .int 0, .int (nI mm), .int (nI (mm - k_5))], wI (cy 1) e1 10 (fg), wO h11 3 [.ref h11a, .ref h11b, .int (nI nt), .int tt], wI (cy 1) h11a 280 (fct), wI (cy 1) h11b 31 (fst), wO s0 7 [.ref s1, .ref s2, .int (nI sl), .int spl, .int svo, .int swi, .int sch], wI (cy 1) s2 4 (fsn), wI (cy 1) h3 4 (fp), wO h0 4 [.ref h1, .ref h2, .ref h3, .ref h4, .ref h5, .ref h6, .ref h7, .ref h8, .ref h9, .ref h10, .ref h11, hv0, hv1, hv2, hv3, hv4], wO h9 3 [.ref h9a, .ref h9b, .int (nI nb), .int tb], wI (cy 1) h9a 280 (fcb), wI (cy 1) h9b 31 (fs2_4), wI (cy 1) e2 7 (upd (upd (upd (upd (upd (upd (upd ff (0 : Int32).toNatClampNeg zr1) (1 : Int32).toNatClampNeg swi) (2 : Int32).toNatClampNeg x_2) (3 : Int32).toNatClampNeg (nI mm)) (4 : Int32).toNatClampNeg 0) (5 : Int32).toNatClampNeg 0) (6 : Int32).toNatClampNeg 0)] hP9 hD9 hS9 (fun hP hD hS => ?_)
    clear hP9 hD9 hS9
    refine lv_iconst (v := 0) hx hb dX2_place_130 (by decide) ?_
    refine lv_istore (lv' := [(5, .int 0), (0, .ref e0), (1, .ref h0), (2, .ref s0), (3, .int (nI j)), (4, .int (nI mm))]) hx hb dX2_place_131 hl (by decide) rfl (fun ls hl => ?_)
    have loop11 : ∀ (zn : Nat) (i11 : Nat) (fa1_11 : Nat → Int32), (i11 ≤ 10) → 10 - i11 + 1 ≤ zn → ∀ (H : Heap) (locs : List Loc), va_P D vwCl [wO e0 2 [.ref e1, .ref e2, .int 0, .int (nI mm), .int (nI (mm - k_5))], wI (cy 1) e1 10 (fa1_11), wO h11 3 [.ref h11a, .ref h11b, .int (nI nt), .int tt], wI (cy 1) h11a 280 (fct), wI (cy 1) h11b 31 (fst), wO s0 7 [.ref s1, .ref s2, .int (nI sl), .int spl, .int svo, .int swi, .int sch], wI (cy 1) s2 4 (fsn), wI (cy 1) h3 4 (fp), wO h0 4 [.ref h1, .ref h2, .ref h3, .ref h4, .ref h5, .ref h6, .ref h7, .ref h8, .ref h9, .ref h10, .ref h11, hv0, hv1, hv2, hv3, hv4], wO h9 3 [.ref h9a, .ref h9b, .int (nI nb), .int tb], wI (cy 1) h9a 280 (fcb), wI (cy 1) h9b 31 (fs2_4), wI (cy 1) e2 7 (upd (upd (upd (upd (upd (upd (upd ff (0 : Int32).toNatClampNeg zr1) (1 : Int32).toNatClampNeg swi) (2 : Int32).toNatClampNeg x_2) (3 : Int32).toNatClampNeg (nI mm)) (4 : Int32).toNatClampNeg 0) (5 : Int32).toNatClampNeg 0) (6 : Int32).toNatClampNeg 0)] H → va_D A [wO e0 2 [.ref e1, .ref e2, .int 0, .int (nI mm), .int (nI (mm - k_5))], wI (cy 1) e1 10 (fa1_11), wO h11 3 [.ref h11a, .ref h11b, .int (nI nt), .int tt], wI (cy 1) h11a 280 (fct), wI (cy 1) h11b 31 (fst), wO s0 7 [.ref s1, .ref s2, .int (nI sl), .int spl, .int svo, .int swi, .int sch], wI (cy 1) s2 4 (fsn), wI (cy 1) h3 4 (fp), wO h0 4 [.ref h1, .ref h2, .ref h3, .ref h4, .ref h5, .ref h6, .ref h7, .ref h8, .ref h9, .ref h10, .ref h11, hv0, hv1, hv2, hv3, hv4], wO h9 3 [.ref h9a, .ref h9b, .int (nI nb), .int tb], wI (cy 1) h9a 280 (fcb), wI (cy 1) h9b 31 (fs2_4), wI (cy 1) e2 7 (upd (upd (upd (upd (upd (upd (upd ff (0 : Int32).toNatClampNeg zr1) (1 : Int32).toNatClampNeg swi) (2 : Int32).toNatClampNeg x_2) (3 : Int32).toNatClampNeg (nI mm)) (4 : Int32).toNatClampNeg 0) (5 : Int32).toNatClampNeg 0) (6 : Int32).toNatClampNeg 0)] → va_S A s.heap H locs → ∀ ls : Array Slot, lv_has ls 6 [(5, .int (nI i11)), (0, .ref e0), (1, .ref h0), (2, .ref s0), (3, .int (nI j)), (4, .int (nI mm))] → W p l e (rmk 3 0 0) s m args below meth c H locs 0 0 Q (F0 m 133 ls []) := by
      try clear hP hD hS
      intro zn
      induction zn with
      | zero => intro i11 fa1_11 _ hz; exact absurd hz (by omega)
      | succ zn ih11 =>
        intro i11 fa1_11 hf0_11 hmu11 H locs hP hD hS ls hl
        refine lv_iload hx hb dX2_place_133 (lv_at hl 0 rfl) ?_
        refine lv_aload_n hx hb dX2_place_135 rfl (lv_at hl 1 rfl) ?_
        refine va_get (D := D) (ci := 2) (v := .int (nI (mm - k_5))) (C := RX2) (T := TX2) (N := 5) hx hb hg i_X2 hown hK hP 0 rfl rfl 4 (by decide) (hg _ m_519) (fun _ h9 => h9) rfl dX2_place_136 ?_
        refine lv_icmp_ge (tgt := 158) hx hb dX2_place_139 (by decide) (fun c_12 => ?_) (fun c_12 => ?_)
        · have q_13 : (mm - k_5) ≤ i11 := q_le (a := (mm - k_5)) (b := i11) rfl rfl (by omega) (by omega) c_12
          exact x_vret hQ hx hb hr hlocks hK hP hD hS dX2_place_158 ((mm - k_5), 0, fa1_11, upd (upd (upd (upd (upd (upd (upd ff (0 : Int32).toNatClampNeg zr1) (1 : Int32).toNatClampNeg swi) (2 : Int32).toNatClampNeg x_2) (3 : Int32).toNatClampNeg (nI mm)) (4 : Int32).toNatClampNeg 0) (5 : Int32).toNatClampNeg 0) (6 : Int32).toNatClampNeg 0, fs2_4, fst) ((show ((mm - k_5)) ≤ mm from by omega)) [0, 1, 12, 8, 7, 9, 10, 11, 2, 3, 4, 5, 6] (by decide +kernel) rfl (Nat.le_of_ble_eq_true rfl) (Nat.le_of_ble_eq_true rfl)
        · have q_13 : i11 < (mm - k_5) := q_nle (a := (mm - k_5)) (b := i11) rfl rfl (by omega) (by omega) c_12
          refine lv_aload_n hx hb dX2_place_142 rfl (lv_at hl 1 rfl) ?_
          refine va_get (D := D) (ci := 2) (v := .ref e1) (C := RX2) (T := TX2) (N := 5) hx hb hg i_X2 hown hK hP 0 rfl rfl 0 (by decide) (hg _ m_512) (fun _ h9 => h9) rfl dX2_place_143 ?_
          refine lv_iload hx hb dX2_place_146 (lv_at hl 0 rfl) ?_
          refine lv_sipush (v := 255) hx hb dX2_place_148 (by decide) ?_
          refine va_iast hx hb hK hP hD hS 1 1 rfl rfl (vp_in_nI (by omega) (by decide)) dX2_place_151 (fun H locs hP9 hD9 hS9 => ?_)
          clear hP hD hS
          obtain ⟨g_14, eg_14⟩ : ∃ y, upd fa1_11 (nI i11 : Int32).toNatClampNeg 255 = y := ⟨_, rfl⟩
          rw [eg_14] at hP9 hD9
          refine reW [wO e0 2 [.ref e1, .ref e2, .int 0, .int (nI mm), .int (nI (mm - k_5))], wI (cy 1) e1 10 (g_14), wO h11 3 [.ref h11a, .ref h11b, .int (nI nt), .int tt], wI (cy 1) h11a 280 (fct), wI (cy 1) h11b 31 (fst), wO s0 7 [.ref s1, .ref s2, .int (nI sl), .int spl, .int svo, .int swi, .int sch], wI (cy 1) s2 4 (fsn), wI (cy 1) h3 4 (fp), wO h0 4 [.ref h1, .ref h2, .ref h3, .ref h4, .ref h5, .ref h6, .ref h7, .ref h8, .ref h9, .ref h10, .ref h11, hv0, hv1, hv2, hv3, hv4], wO h9 3 [.ref h9a, .ref h9b, .int (nI nb), .int tb], wI (cy 1) h9a 280 (fcb), wI (cy 1) h9b 31 (fs2_4), wI (cy 1) e2 7 (upd (upd (upd (upd (upd (upd (upd ff (0 : Int32).toNatClampNeg zr1) (1 : Int32).toNatClampNeg swi) (2 : Int32).toNatClampNeg x_2) (3 : Int32).toNatClampNeg (nI mm)) (4 : Int32).toNatClampNeg 0) (5 : Int32).toNatClampNeg 0) (6 : Int32).toNatClampNeg 0)] hP9 hD9 hS9 (fun hP hD hS => ?_)
          clear hP9 hD9 hS9
          refine lv_iinc (v := nI (i11 + 1)) (lv' := [(5, .int (nI (i11 + 1))), (0, .ref e0), (1, .ref h0), (2, .ref s0), (3, .int (nI j)), (4, .int (nI mm))]) hx hb dX2_place_152 hl (k := 0) rfl (nI_add i11 1) (by decide) rfl (fun ls hl => ?_)
          refine lv_goto (tgt := 133) hx hb dX2_place_155 (by decide) ?_
          exact ih11  ((i11 + 1)) g_14 (by omega) (by omega) _ _ (hP.sub [0, 1, 2, 3, 4, 5, 6, 7, 8, 9, 10, 11, 12] rfl) (hD.sub [0, 1, 2, 3, 4, 5, 6, 7, 8, 9, 10, 11, 12] (by decide +kernel) rfl) hS ls (lv_sub hl [0, 1, 2, 3, 4, 5] rfl)
    exact loop11 _ 0 fg (by omega) (Nat.le_refl _) _ _ (hP.sub [0, 1, 2, 3, 4, 5, 6, 7, 8, 9, 10, 11, 12] rfl) (hD.sub [0, 1, 2, 3, 4, 5, 6, 7, 8, 9, 10, 11, 12] (by decide +kernel) rfl) hS ls (lv_sub hl [0, 1, 2, 3, 4, 5] rfl)
  · have q_10 : (mm - k_5) < mm := q_nle (a := mm) (b := (mm - k_5)) rfl rfl (by omega) (by omega) c_9
    refine lv_aload_n hx hb dX2_place_98 rfl (lv_at hl 1 rfl) ?_
    refine va_get (D := D) (ci := 4) (v := .ref h11) (C := RX4) (T := TX4) (N := 16) hx hb hg i_X4 hown hK hP 8 rfl rfl 10 (by decide) (hg _ m_366) (fun _ h9 => h9) rfl dX2_place_99 ?_
    refine va_get (D := D) (ci := 3) (v := .int tt) (C := RX3) (T := TX3) (N := 4) hx hb hg i_X3 hown hK hP 2 rfl rfl 3 (by decide) (hg _ m_304) (fun _ h9 => h9) rfl dX2_place_102 ?_
    refine lv_if_eq (tgt := 126) hx hb dX2_place_105 (by decide) (fun c_105 => ?_) (fun c_105 => ?_)
    · refine lv_iconst (v := 0) hx hb dX2_place_126 (by decide) ?_
      refine va_put (D := D) (ci := 2) (v := .int 0) (ty := .boolean) (C := RX2) (T := TX2) (N := 5) hx hb hg i_X2 tyX2 tyX2_ok nmX2 hown hK hP hD hS 0 rfl rfl 2 (by decide) (hg _ m_516) (fun _ h9 => h9) rfl (by decide +kernel) rfl rfl (Nat.le_of_ble_eq_true rfl) dX2_place_127 (fun H locs hP9 hD9 hS9 => ?_)
      clear hP hD hS
      refine reW [wO e0 2 [.ref e1, .ref e2, .int 0, .int (nI mm), .int (nI (mm - k_5))], wI (cy 1) e1 10 (fg), wO h11 3 [.ref h11a, .ref h11b, .int (nI nt), .int tt], wI (cy 1) h11a 280 (fct), wI (cy 1) h11b 31 (fst), wO s0 7 [.ref s1, .ref s2, .int (nI sl), .int spl, .int svo, .int swi, .int sch], wI (cy 1) s2 4 (fsn), wI (cy 1) h3 4 (fp), wO h0 4 [.ref h1, .ref h2, .ref h3, .ref h4, .ref h5, .ref h6, .ref h7, .ref h8, .ref h9, .ref h10, .ref h11, hv0, hv1, hv2, hv3, hv4], wO h9 3 [.ref h9a, .ref h9b, .int (nI nb), .int tb], wI (cy 1) h9a 280 (fcb), wI (cy 1) h9b 31 (fs2_4), wI (cy 1) e2 7 (upd (upd (upd (upd (upd (upd (upd ff (0 : Int32).toNatClampNeg zr1) (1 : Int32).toNatClampNeg swi) (2 : Int32).toNatClampNeg x_2) (3 : Int32).toNatClampNeg (nI mm)) (4 : Int32).toNatClampNeg 0) (5 : Int32).toNatClampNeg 0) (6 : Int32).toNatClampNeg 0)] hP9 hD9 hS9 (fun hP hD hS => ?_)
      clear hP9 hD9 hS9
      refine lv_iconst (v := 0) hx hb dX2_place_130 (by decide) ?_
      refine lv_istore (lv' := [(5, .int 0), (0, .ref e0), (1, .ref h0), (2, .ref s0), (3, .int (nI j)), (4, .int (nI mm))]) hx hb dX2_place_131 hl (by decide) rfl (fun ls hl => ?_)
      have loop15 : ∀ (zn : Nat) (i15 : Nat) (fa1_15 : Nat → Int32), (i15 ≤ 10) → 10 - i15 + 1 ≤ zn → ∀ (H : Heap) (locs : List Loc), va_P D vwCl [wO e0 2 [.ref e1, .ref e2, .int 0, .int (nI mm), .int (nI (mm - k_5))], wI (cy 1) e1 10 (fa1_15), wO h11 3 [.ref h11a, .ref h11b, .int (nI nt), .int tt], wI (cy 1) h11a 280 (fct), wI (cy 1) h11b 31 (fst), wO s0 7 [.ref s1, .ref s2, .int (nI sl), .int spl, .int svo, .int swi, .int sch], wI (cy 1) s2 4 (fsn), wI (cy 1) h3 4 (fp), wO h0 4 [.ref h1, .ref h2, .ref h3, .ref h4, .ref h5, .ref h6, .ref h7, .ref h8, .ref h9, .ref h10, .ref h11, hv0, hv1, hv2, hv3, hv4], wO h9 3 [.ref h9a, .ref h9b, .int (nI nb), .int tb], wI (cy 1) h9a 280 (fcb), wI (cy 1) h9b 31 (fs2_4), wI (cy 1) e2 7 (upd (upd (upd (upd (upd (upd (upd ff (0 : Int32).toNatClampNeg zr1) (1 : Int32).toNatClampNeg swi) (2 : Int32).toNatClampNeg x_2) (3 : Int32).toNatClampNeg (nI mm)) (4 : Int32).toNatClampNeg 0) (5 : Int32).toNatClampNeg 0) (6 : Int32).toNatClampNeg 0)] H → va_D A [wO e0 2 [.ref e1, .ref e2, .int 0, .int (nI mm), .int (nI (mm - k_5))], wI (cy 1) e1 10 (fa1_15), wO h11 3 [.ref h11a, .ref h11b, .int (nI nt), .int tt], wI (cy 1) h11a 280 (fct), wI (cy 1) h11b 31 (fst), wO s0 7 [.ref s1, .ref s2, .int (nI sl), .int spl, .int svo, .int swi, .int sch], wI (cy 1) s2 4 (fsn), wI (cy 1) h3 4 (fp), wO h0 4 [.ref h1, .ref h2, .ref h3, .ref h4, .ref h5, .ref h6, .ref h7, .ref h8, .ref h9, .ref h10, .ref h11, hv0, hv1, hv2, hv3, hv4], wO h9 3 [.ref h9a, .ref h9b, .int (nI nb), .int tb], wI (cy 1) h9a 280 (fcb), wI (cy 1) h9b 31 (fs2_4), wI (cy 1) e2 7 (upd (upd (upd (upd (upd (upd (upd ff (0 : Int32).toNatClampNeg zr1) (1 : Int32).toNatClampNeg swi) (2 : Int32).toNatClampNeg x_2) (3 : Int32).toNatClampNeg (nI mm)) (4 : Int32).toNatClampNeg 0) (5 : Int32).toNatClampNeg 0) (6 : Int32).toNatClampNeg 0)] → va_S A s.heap H locs → ∀ ls : Array Slot, lv_has ls 6 [(5, .int (nI i15)), (0, .ref e0), (1, .ref h0), (2, .ref s0), (3, .int (nI j)), (4, .int (nI mm))] → W p l e (rmk 3 0 0) s m args below meth c H locs 0 0 Q (F0 m 133 ls []) := by
        try clear hP hD hS
        intro zn
        induction zn with
        | zero => intro i15 fa1_15 _ hz; exact absurd hz (by omega)
        | succ zn ih15 =>
          intro i15 fa1_15 hf0_15 hmu15 H locs hP hD hS ls hl
          refine lv_iload hx hb dX2_place_133 (lv_at hl 0 rfl) ?_
          refine lv_aload_n hx hb dX2_place_135 rfl (lv_at hl 1 rfl) ?_
          refine va_get (D := D) (ci := 2) (v := .int (nI (mm - k_5))) (C := RX2) (T := TX2) (N := 5) hx hb hg i_X2 hown hK hP 0 rfl rfl 4 (by decide) (hg _ m_519) (fun _ h9 => h9) rfl dX2_place_136 ?_
          refine lv_icmp_ge (tgt := 158) hx hb dX2_place_139 (by decide) (fun c_16 => ?_) (fun c_16 => ?_)
          · have q_17 : (mm - k_5) ≤ i15 := q_le (a := (mm - k_5)) (b := i15) rfl rfl (by omega) (by omega) c_16
            exact x_vret hQ hx hb hr hlocks hK hP hD hS dX2_place_158 ((mm - k_5), 0, fa1_15, upd (upd (upd (upd (upd (upd (upd ff (0 : Int32).toNatClampNeg zr1) (1 : Int32).toNatClampNeg swi) (2 : Int32).toNatClampNeg x_2) (3 : Int32).toNatClampNeg (nI mm)) (4 : Int32).toNatClampNeg 0) (5 : Int32).toNatClampNeg 0) (6 : Int32).toNatClampNeg 0, fs2_4, fst) ((show ((mm - k_5)) ≤ mm from by omega)) [0, 1, 12, 8, 7, 9, 10, 11, 2, 3, 4, 5, 6] (by decide +kernel) rfl (Nat.le_of_ble_eq_true rfl) (Nat.le_of_ble_eq_true rfl)
          · have q_17 : i15 < (mm - k_5) := q_nle (a := (mm - k_5)) (b := i15) rfl rfl (by omega) (by omega) c_16
            refine lv_aload_n hx hb dX2_place_142 rfl (lv_at hl 1 rfl) ?_
            refine va_get (D := D) (ci := 2) (v := .ref e1) (C := RX2) (T := TX2) (N := 5) hx hb hg i_X2 hown hK hP 0 rfl rfl 0 (by decide) (hg _ m_512) (fun _ h9 => h9) rfl dX2_place_143 ?_
            refine lv_iload hx hb dX2_place_146 (lv_at hl 0 rfl) ?_
            refine lv_sipush (v := 255) hx hb dX2_place_148 (by decide) ?_
            refine va_iast hx hb hK hP hD hS 1 1 rfl rfl (vp_in_nI (by omega) (by decide)) dX2_place_151 (fun H locs hP9 hD9 hS9 => ?_)
            clear hP hD hS
            obtain ⟨g_18, eg_18⟩ : ∃ y, upd fa1_15 (nI i15 : Int32).toNatClampNeg 255 = y := ⟨_, rfl⟩
            rw [eg_18] at hP9 hD9
            refine reW [wO e0 2 [.ref e1, .ref e2, .int 0, .int (nI mm), .int (nI (mm - k_5))], wI (cy 1) e1 10 (g_18), wO h11 3 [.ref h11a, .ref h11b, .int (nI nt), .int tt], wI (cy 1) h11a 280 (fct), wI (cy 1) h11b 31 (fst), wO s0 7 [.ref s1, .ref s2, .int (nI sl), .int spl, .int svo, .int swi, .int sch], wI (cy 1) s2 4 (fsn), wI (cy 1) h3 4 (fp), wO h0 4 [.ref h1, .ref h2, .ref h3, .ref h4, .ref h5, .ref h6, .ref h7, .ref h8, .ref h9, .ref h10, .ref h11, hv0, hv1, hv2, hv3, hv4], wO h9 3 [.ref h9a, .ref h9b, .int (nI nb), .int tb], wI (cy 1) h9a 280 (fcb), wI (cy 1) h9b 31 (fs2_4), wI (cy 1) e2 7 (upd (upd (upd (upd (upd (upd (upd ff (0 : Int32).toNatClampNeg zr1) (1 : Int32).toNatClampNeg swi) (2 : Int32).toNatClampNeg x_2) (3 : Int32).toNatClampNeg (nI mm)) (4 : Int32).toNatClampNeg 0) (5 : Int32).toNatClampNeg 0) (6 : Int32).toNatClampNeg 0)] hP9 hD9 hS9 (fun hP hD hS => ?_)
            clear hP9 hD9 hS9
            refine lv_iinc (v := nI (i15 + 1)) (lv' := [(5, .int (nI (i15 + 1))), (0, .ref e0), (1, .ref h0), (2, .ref s0), (3, .int (nI j)), (4, .int (nI mm))]) hx hb dX2_place_152 hl (k := 0) rfl (nI_add i15 1) (by decide) rfl (fun ls hl => ?_)
            refine lv_goto (tgt := 133) hx hb dX2_place_155 (by decide) ?_
            exact ih15  ((i15 + 1)) g_18 (by omega) (by omega) _ _ (hP.sub [0, 1, 2, 3, 4, 5, 6, 7, 8, 9, 10, 11, 12] rfl) (hD.sub [0, 1, 2, 3, 4, 5, 6, 7, 8, 9, 10, 11, 12] (by decide +kernel) rfl) hS ls (lv_sub hl [0, 1, 2, 3, 4, 5] rfl)
      exact loop15 _ 0 fg (by omega) (Nat.le_refl _) _ _ (hP.sub [0, 1, 2, 3, 4, 5, 6, 7, 8, 9, 10, 11, 12] rfl) (hD.sub [0, 1, 2, 3, 4, 5, 6, 7, 8, 9, 10, 11, 12] (by decide +kernel) rfl) hS ls (lv_sub hl [0, 1, 2, 3, 4, 5] rfl)
    · refine lv_aload_n hx hb dX2_place_108 rfl (lv_at hl 1 rfl) ?_
      refine va_get (D := D) (ci := 4) (v := .ref h11) (C := RX4) (T := TX4) (N := 16) hx hb hg i_X4 hown hK hP 8 rfl rfl 10 (by decide) (hg _ m_366) (fun _ h9 => h9) rfl dX2_place_109 ?_
      refine lv_aload_n hx hb dX2_place_112 rfl (lv_at hl 0 rfl) ?_
      refine va_get (D := D) (ci := 2) (v := .ref e2) (C := RX2) (T := TX2) (N := 5) hx hb hg i_X2 hown hK hP 0 rfl rfl 1 (by decide) (hg _ m_515) (fun _ h9 => h9) rfl dX2_place_113 ?_
      refine x_callVi (q := (RX3, TX3, 4)) (ci := 3) (q0 := 0) (wr := [wO e0 2 [.ref e1, .ref e2, .int et, .int (nI mm), .int (nI (mm - k_5))], wI (cy 1) e1 10 (fg), wO s0 7 [.ref s1, .ref s2, .int (nI sl), .int spl, .int svo, .int swi, .int sch], wI (cy 1) s2 4 (fsn), wI (cy 1) h3 4 (fp), wO h0 4 [.ref h1, .ref h2, .ref h3, .ref h4, .ref h5, .ref h6, .ref h7, .ref h8, .ref h9, .ref h10, .ref h11, hv0, hv1, hv2, hv3, hv4], wO h9 3 [.ref h9a, .ref h9b, .int (nI nb), .int tb], wI (cy 1) h9a 280 (fcb), wI (cy 1) h9b 31 (fs2_4)]) (rest := [.ref e0]) ⟨hx, hb, hml, hown, hg, hl.1⟩ k_X2_70 (s_value l D cy h11 h11a h11b nt ((.int tt)) fct fst e2 (upd (upd (upd (upd (upd (upd (upd ff (0 : Int32).toNatClampNeg zr1) (1 : Int32).toNatClampNeg swi) (2 : Int32).toNatClampNeg x_2) (3 : Int32).toNatClampNeg (nI mm)) (4 : Int32).toNatClampNeg 0) (5 : Int32).toNatClampNeg 0) (6 : Int32).toNatClampNeg 0) (by omega) (hct)) E0_blind hK hP hD hS hA [2, 3, 4, 12] [0, 1, 5, 6, 7, 8, 9, 10, 11] ⟨rfl, rfl, by decide +kernel, by decide +kernel, by decide +kernel⟩ rfl rfl (fun _ _ _ => trivial) dX2_place_116 rfl rfl (Nat.le_of_ble_eq_true rfl) ⟨Nat.le_of_ble_eq_true rfl, Nat.le_of_ble_eq_true rfl⟩ ⟨Nat.le_of_ble_eq_true rfl, Nat.le_of_ble_eq_true rfl⟩ (fun zr19 zu19 H locs hw19 hP9 hD9 hS9 => ?_)
      clear hP hD hS
      obtain ⟨fs2_20, rfl⟩ : ∃ z, z = zu19 := ⟨_, rfl⟩
      refine reW [wO e0 2 [.ref e1, .ref e2, .int et, .int (nI mm), .int (nI (mm - k_5))], wI (cy 1) e1 10 (fg), wO s0 7 [.ref s1, .ref s2, .int (nI sl), .int spl, .int svo, .int swi, .int sch], wI (cy 1) s2 4 (fsn), wI (cy 1) h3 4 (fp), wO h0 4 [.ref h1, .ref h2, .ref h3, .ref h4, .ref h5, .ref h6, .ref h7, .ref h8, .ref h9, .ref h10, .ref h11, hv0, hv1, hv2, hv3, hv4], wO h9 3 [.ref h9a, .ref h9b, .int (nI nb), .int tb], wI (cy 1) h9a 280 (fcb), wI (cy 1) h9b 31 (fs2_4), wO h11 3 [.ref h11a, .ref h11b, .int (nI nt), .int tt], wI (cy 1) h11a 280 (fct), wI (cy 1) h11b 31 (fs2_20), wI (cy 1) e2 7 (upd (upd (upd (upd (upd (upd (upd ff (0 : Int32).toNatClampNeg zr1) (1 : Int32).toNatClampNeg swi) (2 : Int32).toNatClampNeg x_2) (3 : Int32).toNatClampNeg (nI mm)) (4 : Int32).toNatClampNeg 0) (5 : Int32).toNatClampNeg 0) (6 : Int32).toNatClampNeg 0)] hP9 hD9 hS9 (fun hP hD hS => ?_)
      clear hP9 hD9 hS9
      refine W.widen (k := 0) (n := 0) (Nat.le_of_ble_eq_true rfl) (Nat.le_of_ble_eq_true rfl) ?_
      replace hw19 : True := hw19
      refine lv_if_eq (tgt := 126) hx hb dX2_place_119 (by decide) (fun c_119 => ?_) (fun c_119 => ?_)
      · refine lv_iconst (v := 0) hx hb dX2_place_126 (by decide) ?_
        refine va_put (D := D) (ci := 2) (v := .int 0) (ty := .boolean) (C := RX2) (T := TX2) (N := 5) hx hb hg i_X2 tyX2 tyX2_ok nmX2 hown hK hP hD hS 0 rfl rfl 2 (by decide) (hg _ m_516) (fun _ h9 => h9) rfl (by decide +kernel) rfl rfl (Nat.le_of_ble_eq_true rfl) dX2_place_127 (fun H locs hP9 hD9 hS9 => ?_)
        clear hP hD hS
        refine reW [wO e0 2 [.ref e1, .ref e2, .int 0, .int (nI mm), .int (nI (mm - k_5))], wI (cy 1) e1 10 (fg), wO s0 7 [.ref s1, .ref s2, .int (nI sl), .int spl, .int svo, .int swi, .int sch], wI (cy 1) s2 4 (fsn), wI (cy 1) h3 4 (fp), wO h0 4 [.ref h1, .ref h2, .ref h3, .ref h4, .ref h5, .ref h6, .ref h7, .ref h8, .ref h9, .ref h10, .ref h11, hv0, hv1, hv2, hv3, hv4], wO h9 3 [.ref h9a, .ref h9b, .int (nI nb), .int tb], wI (cy 1) h9a 280 (fcb), wI (cy 1) h9b 31 (fs2_4), wO h11 3 [.ref h11a, .ref h11b, .int (nI nt), .int tt], wI (cy 1) h11a 280 (fct), wI (cy 1) h11b 31 (fs2_20), wI (cy 1) e2 7 (upd (upd (upd (upd (upd (upd (upd ff (0 : Int32).toNatClampNeg zr1) (1 : Int32).toNatClampNeg swi) (2 : Int32).toNatClampNeg x_2) (3 : Int32).toNatClampNeg (nI mm)) (4 : Int32).toNatClampNeg 0) (5 : Int32).toNatClampNeg 0) (6 : Int32).toNatClampNeg 0)] hP9 hD9 hS9 (fun hP hD hS => ?_)
        clear hP9 hD9 hS9
        refine lv_iconst (v := 0) hx hb dX2_place_130 (by decide) ?_
        refine lv_istore (lv' := [(5, .int 0), (0, .ref e0), (1, .ref h0), (2, .ref s0), (3, .int (nI j)), (4, .int (nI mm))]) hx hb dX2_place_131 hl (by decide) rfl (fun ls hl => ?_)
        have loop21 : ∀ (zn : Nat) (i21 : Nat) (fa1_21 : Nat → Int32), (i21 ≤ 10) → 10 - i21 + 1 ≤ zn → ∀ (H : Heap) (locs : List Loc), va_P D vwCl [wO e0 2 [.ref e1, .ref e2, .int 0, .int (nI mm), .int (nI (mm - k_5))], wI (cy 1) e1 10 (fa1_21), wO s0 7 [.ref s1, .ref s2, .int (nI sl), .int spl, .int svo, .int swi, .int sch], wI (cy 1) s2 4 (fsn), wI (cy 1) h3 4 (fp), wO h0 4 [.ref h1, .ref h2, .ref h3, .ref h4, .ref h5, .ref h6, .ref h7, .ref h8, .ref h9, .ref h10, .ref h11, hv0, hv1, hv2, hv3, hv4], wO h9 3 [.ref h9a, .ref h9b, .int (nI nb), .int tb], wI (cy 1) h9a 280 (fcb), wI (cy 1) h9b 31 (fs2_4), wO h11 3 [.ref h11a, .ref h11b, .int (nI nt), .int tt], wI (cy 1) h11a 280 (fct), wI (cy 1) h11b 31 (fs2_20), wI (cy 1) e2 7 (upd (upd (upd (upd (upd (upd (upd ff (0 : Int32).toNatClampNeg zr1) (1 : Int32).toNatClampNeg swi) (2 : Int32).toNatClampNeg x_2) (3 : Int32).toNatClampNeg (nI mm)) (4 : Int32).toNatClampNeg 0) (5 : Int32).toNatClampNeg 0) (6 : Int32).toNatClampNeg 0)] H → va_D A [wO e0 2 [.ref e1, .ref e2, .int 0, .int (nI mm), .int (nI (mm - k_5))], wI (cy 1) e1 10 (fa1_21), wO s0 7 [.ref s1, .ref s2, .int (nI sl), .int spl, .int svo, .int swi, .int sch], wI (cy 1) s2 4 (fsn), wI (cy 1) h3 4 (fp), wO h0 4 [.ref h1, .ref h2, .ref h3, .ref h4, .ref h5, .ref h6, .ref h7, .ref h8, .ref h9, .ref h10, .ref h11, hv0, hv1, hv2, hv3, hv4], wO h9 3 [.ref h9a, .ref h9b, .int (nI nb), .int tb], wI (cy 1) h9a 280 (fcb), wI (cy 1) h9b 31 (fs2_4), wO h11 3 [.ref h11a, .ref h11b, .int (nI nt), .int tt], wI (cy 1) h11a 280 (fct), wI (cy 1) h11b 31 (fs2_20), wI (cy 1) e2 7 (upd (upd (upd (upd (upd (upd (upd ff (0 : Int32).toNatClampNeg zr1) (1 : Int32).toNatClampNeg swi) (2 : Int32).toNatClampNeg x_2) (3 : Int32).toNatClampNeg (nI mm)) (4 : Int32).toNatClampNeg 0) (5 : Int32).toNatClampNeg 0) (6 : Int32).toNatClampNeg 0)] → va_S A s.heap H locs → ∀ ls : Array Slot, lv_has ls 6 [(5, .int (nI i21)), (0, .ref e0), (1, .ref h0), (2, .ref s0), (3, .int (nI j)), (4, .int (nI mm))] → W p l e (rmk 3 0 0) s m args below meth c H locs 0 0 Q (F0 m 133 ls []) := by
          try clear hP hD hS
          intro zn
          induction zn with
          | zero => intro i21 fa1_21 _ hz; exact absurd hz (by omega)
          | succ zn ih21 =>
            intro i21 fa1_21 hf0_21 hmu21 H locs hP hD hS ls hl
            refine lv_iload hx hb dX2_place_133 (lv_at hl 0 rfl) ?_
            refine lv_aload_n hx hb dX2_place_135 rfl (lv_at hl 1 rfl) ?_
            refine va_get (D := D) (ci := 2) (v := .int (nI (mm - k_5))) (C := RX2) (T := TX2) (N := 5) hx hb hg i_X2 hown hK hP 0 rfl rfl 4 (by decide) (hg _ m_519) (fun _ h9 => h9) rfl dX2_place_136 ?_
            refine lv_icmp_ge (tgt := 158) hx hb dX2_place_139 (by decide) (fun c_22 => ?_) (fun c_22 => ?_)
            · have q_23 : (mm - k_5) ≤ i21 := q_le (a := (mm - k_5)) (b := i21) rfl rfl (by omega) (by omega) c_22
              exact x_vret hQ hx hb hr hlocks hK hP hD hS dX2_place_158 ((mm - k_5), 0, fa1_21, upd (upd (upd (upd (upd (upd (upd ff (0 : Int32).toNatClampNeg zr1) (1 : Int32).toNatClampNeg swi) (2 : Int32).toNatClampNeg x_2) (3 : Int32).toNatClampNeg (nI mm)) (4 : Int32).toNatClampNeg 0) (5 : Int32).toNatClampNeg 0) (6 : Int32).toNatClampNeg 0, fs2_4, fs2_20) ((show ((mm - k_5)) ≤ mm from by omega)) [0, 1, 12, 5, 4, 6, 7, 8, 9, 10, 11, 2, 3] (by decide +kernel) rfl (Nat.le_of_ble_eq_true rfl) (Nat.le_of_ble_eq_true rfl)
            · have q_23 : i21 < (mm - k_5) := q_nle (a := (mm - k_5)) (b := i21) rfl rfl (by omega) (by omega) c_22
              refine lv_aload_n hx hb dX2_place_142 rfl (lv_at hl 1 rfl) ?_
              refine va_get (D := D) (ci := 2) (v := .ref e1) (C := RX2) (T := TX2) (N := 5) hx hb hg i_X2 hown hK hP 0 rfl rfl 0 (by decide) (hg _ m_512) (fun _ h9 => h9) rfl dX2_place_143 ?_
              refine lv_iload hx hb dX2_place_146 (lv_at hl 0 rfl) ?_
              refine lv_sipush (v := 255) hx hb dX2_place_148 (by decide) ?_
              refine va_iast hx hb hK hP hD hS 1 1 rfl rfl (vp_in_nI (by omega) (by decide)) dX2_place_151 (fun H locs hP9 hD9 hS9 => ?_)
              clear hP hD hS
              obtain ⟨g_24, eg_24⟩ : ∃ y, upd fa1_21 (nI i21 : Int32).toNatClampNeg 255 = y := ⟨_, rfl⟩
              rw [eg_24] at hP9 hD9
              refine reW [wO e0 2 [.ref e1, .ref e2, .int 0, .int (nI mm), .int (nI (mm - k_5))], wI (cy 1) e1 10 (g_24), wO s0 7 [.ref s1, .ref s2, .int (nI sl), .int spl, .int svo, .int swi, .int sch], wI (cy 1) s2 4 (fsn), wI (cy 1) h3 4 (fp), wO h0 4 [.ref h1, .ref h2, .ref h3, .ref h4, .ref h5, .ref h6, .ref h7, .ref h8, .ref h9, .ref h10, .ref h11, hv0, hv1, hv2, hv3, hv4], wO h9 3 [.ref h9a, .ref h9b, .int (nI nb), .int tb], wI (cy 1) h9a 280 (fcb), wI (cy 1) h9b 31 (fs2_4), wO h11 3 [.ref h11a, .ref h11b, .int (nI nt), .int tt], wI (cy 1) h11a 280 (fct), wI (cy 1) h11b 31 (fs2_20), wI (cy 1) e2 7 (upd (upd (upd (upd (upd (upd (upd ff (0 : Int32).toNatClampNeg zr1) (1 : Int32).toNatClampNeg swi) (2 : Int32).toNatClampNeg x_2) (3 : Int32).toNatClampNeg (nI mm)) (4 : Int32).toNatClampNeg 0) (5 : Int32).toNatClampNeg 0) (6 : Int32).toNatClampNeg 0)] hP9 hD9 hS9 (fun hP hD hS => ?_)
              clear hP9 hD9 hS9
              refine lv_iinc (v := nI (i21 + 1)) (lv' := [(5, .int (nI (i21 + 1))), (0, .ref e0), (1, .ref h0), (2, .ref s0), (3, .int (nI j)), (4, .int (nI mm))]) hx hb dX2_place_152 hl (k := 0) rfl (nI_add i21 1) (by decide) rfl (fun ls hl => ?_)
              refine lv_goto (tgt := 133) hx hb dX2_place_155 (by decide) ?_
              exact ih21  ((i21 + 1)) g_24 (by omega) (by omega) _ _ (hP.sub [0, 1, 2, 3, 4, 5, 6, 7, 8, 9, 10, 11, 12] rfl) (hD.sub [0, 1, 2, 3, 4, 5, 6, 7, 8, 9, 10, 11, 12] (by decide +kernel) rfl) hS ls (lv_sub hl [0, 1, 2, 3, 4, 5] rfl)
        exact loop21 _ 0 fg (by omega) (Nat.le_refl _) _ _ (hP.sub [0, 1, 2, 3, 4, 5, 6, 7, 8, 9, 10, 11, 12] rfl) (hD.sub [0, 1, 2, 3, 4, 5, 6, 7, 8, 9, 10, 11, 12] (by decide +kernel) rfl) hS ls (lv_sub hl [0, 1, 2, 3, 4, 5] rfl)
      · refine lv_iconst (v := 1) hx hb dX2_place_122 (by decide) ?_
        refine lv_goto (tgt := 127) hx hb dX2_place_123 (by decide) ?_
        refine va_put (D := D) (ci := 2) (v := .int 1) (ty := .boolean) (C := RX2) (T := TX2) (N := 5) hx hb hg i_X2 tyX2 tyX2_ok nmX2 hown hK hP hD hS 0 rfl rfl 2 (by decide) (hg _ m_516) (fun _ h9 => h9) rfl (by decide +kernel) rfl rfl (Nat.le_of_ble_eq_true rfl) dX2_place_127 (fun H locs hP9 hD9 hS9 => ?_)
        clear hP hD hS
        refine reW [wO e0 2 [.ref e1, .ref e2, .int 1, .int (nI mm), .int (nI (mm - k_5))], wI (cy 1) e1 10 (fg), wO s0 7 [.ref s1, .ref s2, .int (nI sl), .int spl, .int svo, .int swi, .int sch], wI (cy 1) s2 4 (fsn), wI (cy 1) h3 4 (fp), wO h0 4 [.ref h1, .ref h2, .ref h3, .ref h4, .ref h5, .ref h6, .ref h7, .ref h8, .ref h9, .ref h10, .ref h11, hv0, hv1, hv2, hv3, hv4], wO h9 3 [.ref h9a, .ref h9b, .int (nI nb), .int tb], wI (cy 1) h9a 280 (fcb), wI (cy 1) h9b 31 (fs2_4), wO h11 3 [.ref h11a, .ref h11b, .int (nI nt), .int tt], wI (cy 1) h11a 280 (fct), wI (cy 1) h11b 31 (fs2_20), wI (cy 1) e2 7 (upd (upd (upd (upd (upd (upd (upd ff (0 : Int32).toNatClampNeg zr1) (1 : Int32).toNatClampNeg swi) (2 : Int32).toNatClampNeg x_2) (3 : Int32).toNatClampNeg (nI mm)) (4 : Int32).toNatClampNeg 0) (5 : Int32).toNatClampNeg 0) (6 : Int32).toNatClampNeg 0)] hP9 hD9 hS9 (fun hP hD hS => ?_)
        clear hP9 hD9 hS9
        refine lv_iconst (v := 0) hx hb dX2_place_130 (by decide) ?_
        refine lv_istore (lv' := [(5, .int 0), (0, .ref e0), (1, .ref h0), (2, .ref s0), (3, .int (nI j)), (4, .int (nI mm))]) hx hb dX2_place_131 hl (by decide) rfl (fun ls hl => ?_)
        have loop25 : ∀ (zn : Nat) (i25 : Nat) (fa1_25 : Nat → Int32), (i25 ≤ 10) → 10 - i25 + 1 ≤ zn → ∀ (H : Heap) (locs : List Loc), va_P D vwCl [wO e0 2 [.ref e1, .ref e2, .int 1, .int (nI mm), .int (nI (mm - k_5))], wI (cy 1) e1 10 (fa1_25), wO s0 7 [.ref s1, .ref s2, .int (nI sl), .int spl, .int svo, .int swi, .int sch], wI (cy 1) s2 4 (fsn), wI (cy 1) h3 4 (fp), wO h0 4 [.ref h1, .ref h2, .ref h3, .ref h4, .ref h5, .ref h6, .ref h7, .ref h8, .ref h9, .ref h10, .ref h11, hv0, hv1, hv2, hv3, hv4], wO h9 3 [.ref h9a, .ref h9b, .int (nI nb), .int tb], wI (cy 1) h9a 280 (fcb), wI (cy 1) h9b 31 (fs2_4), wO h11 3 [.ref h11a, .ref h11b, .int (nI nt), .int tt], wI (cy 1) h11a 280 (fct), wI (cy 1) h11b 31 (fs2_20), wI (cy 1) e2 7 (upd (upd (upd (upd (upd (upd (upd ff (0 : Int32).toNatClampNeg zr1) (1 : Int32).toNatClampNeg swi) (2 : Int32).toNatClampNeg x_2) (3 : Int32).toNatClampNeg (nI mm)) (4 : Int32).toNatClampNeg 0) (5 : Int32).toNatClampNeg 0) (6 : Int32).toNatClampNeg 0)] H → va_D A [wO e0 2 [.ref e1, .ref e2, .int 1, .int (nI mm), .int (nI (mm - k_5))], wI (cy 1) e1 10 (fa1_25), wO s0 7 [.ref s1, .ref s2, .int (nI sl), .int spl, .int svo, .int swi, .int sch], wI (cy 1) s2 4 (fsn), wI (cy 1) h3 4 (fp), wO h0 4 [.ref h1, .ref h2, .ref h3, .ref h4, .ref h5, .ref h6, .ref h7, .ref h8, .ref h9, .ref h10, .ref h11, hv0, hv1, hv2, hv3, hv4], wO h9 3 [.ref h9a, .ref h9b, .int (nI nb), .int tb], wI (cy 1) h9a 280 (fcb), wI (cy 1) h9b 31 (fs2_4), wO h11 3 [.ref h11a, .ref h11b, .int (nI nt), .int tt], wI (cy 1) h11a 280 (fct), wI (cy 1) h11b 31 (fs2_20), wI (cy 1) e2 7 (upd (upd (upd (upd (upd (upd (upd ff (0 : Int32).toNatClampNeg zr1) (1 : Int32).toNatClampNeg swi) (2 : Int32).toNatClampNeg x_2) (3 : Int32).toNatClampNeg (nI mm)) (4 : Int32).toNatClampNeg 0) (5 : Int32).toNatClampNeg 0) (6 : Int32).toNatClampNeg 0)] → va_S A s.heap H locs → ∀ ls : Array Slot, lv_has ls 6 [(5, .int (nI i25)), (0, .ref e0), (1, .ref h0), (2, .ref s0), (3, .int (nI j)), (4, .int (nI mm))] → W p l e (rmk 3 0 0) s m args below meth c H locs 0 0 Q (F0 m 133 ls []) := by
          try clear hP hD hS
          intro zn
          induction zn with
          | zero => intro i25 fa1_25 _ hz; exact absurd hz (by omega)
          | succ zn ih25 =>
            intro i25 fa1_25 hf0_25 hmu25 H locs hP hD hS ls hl
            refine lv_iload hx hb dX2_place_133 (lv_at hl 0 rfl) ?_
            refine lv_aload_n hx hb dX2_place_135 rfl (lv_at hl 1 rfl) ?_
            refine va_get (D := D) (ci := 2) (v := .int (nI (mm - k_5))) (C := RX2) (T := TX2) (N := 5) hx hb hg i_X2 hown hK hP 0 rfl rfl 4 (by decide) (hg _ m_519) (fun _ h9 => h9) rfl dX2_place_136 ?_
            refine lv_icmp_ge (tgt := 158) hx hb dX2_place_139 (by decide) (fun c_26 => ?_) (fun c_26 => ?_)
            · have q_27 : (mm - k_5) ≤ i25 := q_le (a := (mm - k_5)) (b := i25) rfl rfl (by omega) (by omega) c_26
              exact x_vret hQ hx hb hr hlocks hK hP hD hS dX2_place_158 ((mm - k_5), 1, fa1_25, upd (upd (upd (upd (upd (upd (upd ff (0 : Int32).toNatClampNeg zr1) (1 : Int32).toNatClampNeg swi) (2 : Int32).toNatClampNeg x_2) (3 : Int32).toNatClampNeg (nI mm)) (4 : Int32).toNatClampNeg 0) (5 : Int32).toNatClampNeg 0) (6 : Int32).toNatClampNeg 0, fs2_4, fs2_20) ((show ((mm - k_5)) ≤ mm from by omega)) [0, 1, 12, 5, 4, 6, 7, 8, 9, 10, 11, 2, 3] (by decide +kernel) rfl (Nat.le_of_ble_eq_true rfl) (Nat.le_of_ble_eq_true rfl)
            · have q_27 : i25 < (mm - k_5) := q_nle (a := (mm - k_5)) (b := i25) rfl rfl (by omega) (by omega) c_26
              refine lv_aload_n hx hb dX2_place_142 rfl (lv_at hl 1 rfl) ?_
              refine va_get (D := D) (ci := 2) (v := .ref e1) (C := RX2) (T := TX2) (N := 5) hx hb hg i_X2 hown hK hP 0 rfl rfl 0 (by decide) (hg _ m_512) (fun _ h9 => h9) rfl dX2_place_143 ?_
              refine lv_iload hx hb dX2_place_146 (lv_at hl 0 rfl) ?_
              refine lv_sipush (v := 255) hx hb dX2_place_148 (by decide) ?_
              refine va_iast hx hb hK hP hD hS 1 1 rfl rfl (vp_in_nI (by omega) (by decide)) dX2_place_151 (fun H locs hP9 hD9 hS9 => ?_)
              clear hP hD hS
              obtain ⟨g_28, eg_28⟩ : ∃ y, upd fa1_25 (nI i25 : Int32).toNatClampNeg 255 = y := ⟨_, rfl⟩
              rw [eg_28] at hP9 hD9
              refine reW [wO e0 2 [.ref e1, .ref e2, .int 1, .int (nI mm), .int (nI (mm - k_5))], wI (cy 1) e1 10 (g_28), wO s0 7 [.ref s1, .ref s2, .int (nI sl), .int spl, .int svo, .int swi, .int sch], wI (cy 1) s2 4 (fsn), wI (cy 1) h3 4 (fp), wO h0 4 [.ref h1, .ref h2, .ref h3, .ref h4, .ref h5, .ref h6, .ref h7, .ref h8, .ref h9, .ref h10, .ref h11, hv0, hv1, hv2, hv3, hv4], wO h9 3 [.ref h9a, .ref h9b, .int (nI nb), .int tb], wI (cy 1) h9a 280 (fcb), wI (cy 1) h9b 31 (fs2_4), wO h11 3 [.ref h11a, .ref h11b, .int (nI nt), .int tt], wI (cy 1) h11a 280 (fct), wI (cy 1) h11b 31 (fs2_20), wI (cy 1) e2 7 (upd (upd (upd (upd (upd (upd (upd ff (0 : Int32).toNatClampNeg zr1) (1 : Int32).toNatClampNeg swi) (2 : Int32).toNatClampNeg x_2) (3 : Int32).toNatClampNeg (nI mm)) (4 : Int32).toNatClampNeg 0) (5 : Int32).toNatClampNeg 0) (6 : Int32).toNatClampNeg 0)] hP9 hD9 hS9 (fun hP hD hS => ?_)
              clear hP9 hD9 hS9
              refine lv_iinc (v := nI (i25 + 1)) (lv' := [(5, .int (nI (i25 + 1))), (0, .ref e0), (1, .ref h0), (2, .ref s0), (3, .int (nI j)), (4, .int (nI mm))]) hx hb dX2_place_152 hl (k := 0) rfl (nI_add i25 1) (by decide) rfl (fun ls hl => ?_)
              refine lv_goto (tgt := 133) hx hb dX2_place_155 (by decide) ?_
              exact ih25  ((i25 + 1)) g_28 (by omega) (by omega) _ _ (hP.sub [0, 1, 2, 3, 4, 5, 6, 7, 8, 9, 10, 11, 12] rfl) (hD.sub [0, 1, 2, 3, 4, 5, 6, 7, 8, 9, 10, 11, 12] (by decide +kernel) rfl) hS ls (lv_sub hl [0, 1, 2, 3, 4, 5] rfl)
        exact loop25 _ 0 fg (by omega) (Nat.le_refl _) _ _ (hP.sub [0, 1, 2, 3, 4, 5, 6, 7, 8, 9, 10, 11, 12] rfl) (hD.sub [0, 1, 2, 3, 4, 5, 6, 7, 8, 9, 10, 11, 12] (by decide +kernel) rfl) hS ls (lv_sub hl [0, 1, 2, 3, 4, 5] rfl)
theorem gdX2_isLost_0 : decode cX2_isLost 0 = .ok (.aload_n 1, 1) ∧ decode cX2_isLost 1 = .ok (.getfield 76, 3) ∧ decode cX2_isLost 4 = .ok (.getfield 66, 3) ∧ decode cX2_isLost 7 = .ok (.ifCond .ne 5, 3) ∧ decode cX2_isLost 12 = .ok (.aload_n 0, 1) ∧ decode cX2_isLost 13 = .ok (.getfield 17, 3) ∧ decode cX2_isLost 16 = .ok (.iconst 4, 1) ∧ decode cX2_isLost 17 = .ok (.aload_n 1, 1) ∧ decode cX2_isLost 18 = .ok (.getfield 79, 3) ∧ decode cX2_isLost 21 = .ok (.iload_n 3, 1) ∧ decode cX2_isLost 22 = .ok (.iaload, 1) ∧ decode cX2_isLost 23 = .ok (.aload_n 2, 1) := by decide +kernel
theorem dX2_isLost_0 : decode cX2_isLost 0 = .ok (.aload_n 1, 1) := gdX2_isLost_0.1
theorem dX2_isLost_1 : decode cX2_isLost 1 = .ok (.getfield 76, 3) := gdX2_isLost_0.2.1
theorem dX2_isLost_4 : decode cX2_isLost 4 = .ok (.getfield 66, 3) := gdX2_isLost_0.2.2.1
theorem dX2_isLost_7 : decode cX2_isLost 7 = .ok (.ifCond .ne 5, 3) := gdX2_isLost_0.2.2.2.1
theorem dX2_isLost_12 : decode cX2_isLost 12 = .ok (.aload_n 0, 1) := gdX2_isLost_0.2.2.2.2.1
theorem dX2_isLost_13 : decode cX2_isLost 13 = .ok (.getfield 17, 3) := gdX2_isLost_0.2.2.2.2.2.1
theorem dX2_isLost_16 : decode cX2_isLost 16 = .ok (.iconst 4, 1) := gdX2_isLost_0.2.2.2.2.2.2.1
theorem dX2_isLost_17 : decode cX2_isLost 17 = .ok (.aload_n 1, 1) := gdX2_isLost_0.2.2.2.2.2.2.2.1
theorem dX2_isLost_18 : decode cX2_isLost 18 = .ok (.getfield 79, 3) := gdX2_isLost_0.2.2.2.2.2.2.2.2.1
theorem dX2_isLost_21 : decode cX2_isLost 21 = .ok (.iload_n 3, 1) := gdX2_isLost_0.2.2.2.2.2.2.2.2.2.1
theorem dX2_isLost_22 : decode cX2_isLost 22 = .ok (.iaload, 1) := gdX2_isLost_0.2.2.2.2.2.2.2.2.2.2.1
theorem dX2_isLost_23 : decode cX2_isLost 23 = .ok (.aload_n 2, 1) := gdX2_isLost_0.2.2.2.2.2.2.2.2.2.2.2
theorem gdX2_isLost_24 : decode cX2_isLost 24 = .ok (.getfield 82, 3) ∧ decode cX2_isLost 27 = .ok (.iadd, 1) ∧ decode cX2_isLost 28 = .ok (.iastore, 1) ∧ decode cX2_isLost 29 = .ok (.aload_n 0, 1) ∧ decode cX2_isLost 30 = .ok (.getfield 17, 3) ∧ decode cX2_isLost 33 = .ok (.iconst 5, 1) ∧ decode cX2_isLost 34 = .ok (.aload_n 0, 1) ∧ decode cX2_isLost 35 = .ok (.getfield 33, 3) ∧ decode cX2_isLost 38 = .ok (.iconst 1, 1) ∧ decode cX2_isLost 39 = .ok (.isub, 1) ∧ decode cX2_isLost 40 = .ok (.iload 4, 2) ∧ decode cX2_isLost 42 = .ok (.isub, 1) := by decide +kernel
theorem dX2_isLost_24 : decode cX2_isLost 24 = .ok (.getfield 82, 3) := gdX2_isLost_24.1
theorem dX2_isLost_27 : decode cX2_isLost 27 = .ok (.iadd, 1) := gdX2_isLost_24.2.1
theorem dX2_isLost_28 : decode cX2_isLost 28 = .ok (.iastore, 1) := gdX2_isLost_24.2.2.1
theorem dX2_isLost_29 : decode cX2_isLost 29 = .ok (.aload_n 0, 1) := gdX2_isLost_24.2.2.2.1
theorem dX2_isLost_30 : decode cX2_isLost 30 = .ok (.getfield 17, 3) := gdX2_isLost_24.2.2.2.2.1
theorem dX2_isLost_33 : decode cX2_isLost 33 = .ok (.iconst 5, 1) := gdX2_isLost_24.2.2.2.2.2.1
theorem dX2_isLost_34 : decode cX2_isLost 34 = .ok (.aload_n 0, 1) := gdX2_isLost_24.2.2.2.2.2.2.1
theorem dX2_isLost_35 : decode cX2_isLost 35 = .ok (.getfield 33, 3) := gdX2_isLost_24.2.2.2.2.2.2.2.1
theorem dX2_isLost_38 : decode cX2_isLost 38 = .ok (.iconst 1, 1) := gdX2_isLost_24.2.2.2.2.2.2.2.2.1
theorem dX2_isLost_39 : decode cX2_isLost 39 = .ok (.isub, 1) := gdX2_isLost_24.2.2.2.2.2.2.2.2.2.1
theorem dX2_isLost_40 : decode cX2_isLost 40 = .ok (.iload 4, 2) := gdX2_isLost_24.2.2.2.2.2.2.2.2.2.2.1
theorem dX2_isLost_42 : decode cX2_isLost 42 = .ok (.isub, 1) := gdX2_isLost_24.2.2.2.2.2.2.2.2.2.2.2
theorem gdX2_isLost_43 : decode cX2_isLost 43 = .ok (.iastore, 1) ∧ decode cX2_isLost 44 = .ok (.aload_n 0, 1) ∧ decode cX2_isLost 45 = .ok (.getfield 17, 3) ∧ decode cX2_isLost 48 = .ok (.bipush 6, 2) ∧ decode cX2_isLost 50 = .ok (.aload_n 2, 1) ∧ decode cX2_isLost 51 = .ok (.getfield 85, 3) ∧ decode cX2_isLost 54 = .ok (.iastore, 1) ∧ decode cX2_isLost 55 = .ok (.aload_n 1, 1) ∧ decode cX2_isLost 56 = .ok (.getfield 76, 3) ∧ decode cX2_isLost 59 = .ok (.aload_n 0, 1) ∧ decode cX2_isLost 60 = .ok (.getfield 17, 3) ∧ decode cX2_isLost 63 = .ok (.invokevirtual 70, 3) := by decide +kernel
theorem dX2_isLost_43 : decode cX2_isLost 43 = .ok (.iastore, 1) := gdX2_isLost_43.1
theorem dX2_isLost_44 : decode cX2_isLost 44 = .ok (.aload_n 0, 1) := gdX2_isLost_43.2.1
theorem dX2_isLost_45 : decode cX2_isLost 45 = .ok (.getfield 17, 3) := gdX2_isLost_43.2.2.1
theorem dX2_isLost_48 : decode cX2_isLost 48 = .ok (.bipush 6, 2) := gdX2_isLost_43.2.2.2.1
theorem dX2_isLost_50 : decode cX2_isLost 50 = .ok (.aload_n 2, 1) := gdX2_isLost_43.2.2.2.2.1
theorem dX2_isLost_51 : decode cX2_isLost 51 = .ok (.getfield 85, 3) := gdX2_isLost_43.2.2.2.2.2.1
theorem dX2_isLost_54 : decode cX2_isLost 54 = .ok (.iastore, 1) := gdX2_isLost_43.2.2.2.2.2.2.1
theorem dX2_isLost_55 : decode cX2_isLost 55 = .ok (.aload_n 1, 1) := gdX2_isLost_43.2.2.2.2.2.2.2.1
theorem dX2_isLost_56 : decode cX2_isLost 56 = .ok (.getfield 76, 3) := gdX2_isLost_43.2.2.2.2.2.2.2.2.1
theorem dX2_isLost_59 : decode cX2_isLost 59 = .ok (.aload_n 0, 1) := gdX2_isLost_43.2.2.2.2.2.2.2.2.2.1
theorem dX2_isLost_60 : decode cX2_isLost 60 = .ok (.getfield 17, 3) := gdX2_isLost_43.2.2.2.2.2.2.2.2.2.2.1
theorem dX2_isLost_63 : decode cX2_isLost 63 = .ok (.invokevirtual 70, 3) := gdX2_isLost_43.2.2.2.2.2.2.2.2.2.2.2
theorem gdX2_isLost_66 : decode cX2_isLost 66 = .ok (.ifCond .eq 7, 3) ∧ decode cX2_isLost 73 = .ok (.iconst 0, 1) ∧ decode cX2_isLost 74 = .ok (.ireturn, 1) ∧ decode cX2_isLost 69 = .ok (.iconst 1, 1) ∧ decode cX2_isLost 70 = .ok (.goto 4, 3) ∧ decode cX2_isLost 10 = .ok (.iconst 0, 1) ∧ decode cX2_isLost 11 = .ok (.ireturn, 1) := by decide +kernel
theorem dX2_isLost_66 : decode cX2_isLost 66 = .ok (.ifCond .eq 7, 3) := gdX2_isLost_66.1
theorem dX2_isLost_73 : decode cX2_isLost 73 = .ok (.iconst 0, 1) := gdX2_isLost_66.2.1
theorem dX2_isLost_74 : decode cX2_isLost 74 = .ok (.ireturn, 1) := gdX2_isLost_66.2.2.1
theorem dX2_isLost_69 : decode cX2_isLost 69 = .ok (.iconst 1, 1) := gdX2_isLost_66.2.2.2.1
theorem dX2_isLost_70 : decode cX2_isLost 70 = .ok (.goto 4, 3) := gdX2_isLost_66.2.2.2.2.1
theorem dX2_isLost_10 : decode cX2_isLost 10 = .ok (.iconst 0, 1) := gdX2_isLost_66.2.2.2.2.2.1
theorem dX2_isLost_11 : decode cX2_isLost 11 = .ok (.ireturn, 1) := gdX2_isLost_66.2.2.2.2.2.2
set_option maxHeartbeats 1000000 in
set_option maxRecDepth 100000 in
theorem s_isLost (l : Launch) (D : va_G) (cy : Nat → ClassId) (e0 : Nat) (e1 : Nat) (e2 : Nat) (et : Int32) (el : Nat) (ef : Nat) (ff : Nat → Int32) (h0 : Nat) (h1 : Nat) (h2 : Nat) (h3 : Nat) (h4 : Nat) (h5 : Nat) (h6 : Nat) (h7 : Nat) (h8 : Nat) (h9 : Nat) (h10 : Nat) (h11 : Nat) (hv0 : Value) (hv1 : Value) (hv2 : Value) (hv3 : Value) (hv4 : Value) (flo : Nat → Int32) (h10a : Nat) (h10b : Nat) (nl : Nat) (tl : Int32) (fcl : Nat → Int32) (fsl : Nat → Int32) (s0 : Nat) (s1 : Nat) (s2 : Nat) (sl : Nat) (spl : Int32) (svo : Int32) (swi : Int32) (sch : Int32) (wd : Nat) (ix : Nat) (hnl : nl ≤ 280) (hcl : cOK fcl nl) (hwd : wd ≤ 7) : XMi l D (tyL cy) E0 yX2_isLost cX2_isLost 5 (some .boolean) (rmk 2 0 0) [.ref e0, .ref h0, .ref s0, .int (nI wd), .int (nI ix)] [wO e0 2 [.ref e1, .ref e2, .int et, .int (nI el), .int (nI ef)], wI (cy 1) e2 7 (ff), wO h0 4 [.ref h1, .ref h2, .ref h3, .ref h4, .ref h5, .ref h6, .ref h7, .ref h8, .ref h9, .ref h10, .ref h11, hv0, hv1, hv2, hv3, hv4], wI (cy 1) h2 8 (flo), wO h10 3 [.ref h10a, .ref h10b, .int (nI nl), .int tl], wI (cy 1) h10a 280 (fcl), wI (cy 1) h10b 31 (fsl), wO s0 7 [.ref s1, .ref s2, .int (nI sl), .int spl, .int svo, .int swi, .int sch]] (fun (r : Int32) (u : (Nat → Int32) × (Nat → Int32)) => (r = 0 ∨ r = 1)) (fun (u : (Nat → Int32) × (Nat → Int32)) => [wO e0 2 [.ref e1, .ref e2, .int et, .int (nI el), .int (nI ef)], wI (cy 1) e2 7 (u.1), wO h0 4 [.ref h1, .ref h2, .ref h3, .ref h4, .ref h5, .ref h6, .ref h7, .ref h8, .ref h9, .ref h10, .ref h11, hv0, hv1, hv2, hv3, hv4], wI (cy 1) h2 8 (flo), wO h10 3 [.ref h10a, .ref h10b, .int (nI nl), .int tl], wI (cy 1) h10a 280 (fcl), wI (cy 1) h10b 31 (u.2), wO s0 7 [.ref s1, .ref s2, .int (nI sl), .int spl, .int svo, .int swi, .int sch]]) := by
  refine XMi.start (by decide) (Nat.le_of_ble_eq_true rfl) ?_
  intro p e s m below meth c args A ls Q hat hQ
  obtain ⟨hx, hb, hr, hml, hown, hg, hlocks, hin, hK, hA, hP, hD, hS, hE, hl⟩ := hat
  have hown : s.vm.findClass RX2 = some m.cls := hown
  have hl : lv_has ls 5 [(0, .ref e0), (1, .ref h0), (2, .ref s0), (3, .int (nI wd)), (4, .int (nI ix))] := hl
  refine lv_aload_n hx hb dX2_isLost_0 rfl (lv_at hl 1 rfl) ?_
  refine va_get (D := D) (ci := 4) (v := .ref h10) (C := RX4) (T := TX4) (N := 16) hx hb hg i_X4 hown hK hP 2 rfl rfl 9 (by decide) (hg _ m_364) (fun _ h9 => h9) rfl dX2_isLost_1 ?_
  refine va_get (D := D) (ci := 3) (v := .int tl) (C := RX3) (T := TX3) (N := 4) hx hb hg i_X3 hown hK hP 4 rfl rfl 3 (by decide) (hg _ m_304) (fun _ h9 => h9) rfl dX2_isLost_4 ?_
  refine lv_if_ne (tgt := 12) hx hb dX2_isLost_7 (by decide) (fun c_7 => ?_) (fun c_7 => ?_)
  · refine lv_aload_n hx hb dX2_isLost_12 rfl (lv_at hl 0 rfl) ?_
    refine va_get (D := D) (ci := 2) (v := .ref e2) (C := RX2) (T := TX2) (N := 5) hx hb hg i_X2 hown hK hP 0 rfl rfl 1 (by decide) (hg _ m_515) (fun _ h9 => h9) rfl dX2_isLost_13 ?_
    refine lv_iconst (v := 4) hx hb dX2_isLost_16 (by decide) ?_
    refine lv_aload_n hx hb dX2_isLost_17 rfl (lv_at hl 1 rfl) ?_
    refine va_get (D := D) (ci := 4) (v := .ref h2) (C := RX4) (T := TX4) (N := 16) hx hb hg i_X4 hown hK hP 2 rfl rfl 1 (by decide) (hg _ m_339) (fun _ h9 => h9) rfl dX2_isLost_18 ?_
    refine lv_iload_n hx hb dX2_isLost_21 rfl (lv_at hl 3 rfl) ?_
    refine va_iald hx hb hK hP 3 1 rfl rfl (vp_in_nI (by omega) (by decide)) dX2_isLost_22 ?_
    refine lv_topi (fun x_1 ex_1 => ?_)
    refine lv_aload_n hx hb dX2_isLost_23 rfl (lv_at hl 2 rfl) ?_
    refine va_get (D := D) (ci := 7) (v := .int svo) (C := RX7) (T := TX7) (N := 7) hx hb hg i_X7 hown hK hP 7 rfl rfl 4 (by decide) (hg _ m_637) (fun _ h9 => h9) rfl dX2_isLost_24 ?_
    refine lv_iadd hx hb dX2_isLost_27 ?_
    refine lv_topi (fun x_2 ex_2 => ?_)
    refine va_iast hx hb hK hP hD hS 1 1 rfl rfl (by unfold vp_in; decide) dX2_isLost_28 (fun H locs hP9 hD9 hS9 => ?_)
    clear hP hD hS
    obtain ⟨g_3, eg_3⟩ : ∃ y, upd ff (4 : Int32).toNatClampNeg x_2 = y := ⟨_, rfl⟩
    rw [eg_3] at hP9 hD9
    refine reW [wO e0 2 [.ref e1, .ref e2, .int et, .int (nI el), .int (nI ef)], wI (cy 1) e2 7 (g_3), wO h0 4 [.ref h1, .ref h2, .ref h3, .ref h4, .ref h5, .ref h6, .ref h7, .ref h8, .ref h9, .ref h10, .ref h11, hv0, hv1, hv2, hv3, hv4], wI (cy 1) h2 8 (flo), wO h10 3 [.ref h10a, .ref h10b, .int (nI nl), .int tl], wI (cy 1) h10a 280 (fcl), wI (cy 1) h10b 31 (fsl), wO s0 7 [.ref s1, .ref s2, .int (nI sl), .int spl, .int svo, .int swi, .int sch]] hP9 hD9 hS9 (fun hP hD hS => ?_)
    clear hP9 hD9 hS9
    refine lv_aload_n hx hb dX2_isLost_29 rfl (lv_at hl 0 rfl) ?_
    refine va_get (D := D) (ci := 2) (v := .ref e2) (C := RX2) (T := TX2) (N := 5) hx hb hg i_X2 hown hK hP 0 rfl rfl 1 (by decide) (hg _ m_515) (fun _ h9 => h9) rfl dX2_isLost_30 ?_
    refine lv_iconst (v := 5) hx hb dX2_isLost_33 (by decide) ?_
    refine lv_aload_n hx hb dX2_isLost_34 rfl (lv_at hl 0 rfl) ?_
    refine va_get (D := D) (ci := 2) (v := .int (nI el)) (C := RX2) (T := TX2) (N := 5) hx hb hg i_X2 hown hK hP 0 rfl rfl 3 (by decide) (hg _ m_518) (fun _ h9 => h9) rfl dX2_isLost_35 ?_
    refine lv_iconst (v := 1) hx hb dX2_isLost_38 (by decide) ?_
    refine lv_isub hx hb dX2_isLost_39 ?_
    refine lv_topi (fun x_4 ex_4 => ?_)
    refine lv_iload hx hb dX2_isLost_40 (lv_at hl 4 rfl) ?_
    refine lv_isub hx hb dX2_isLost_42 ?_
    refine lv_topi (fun x_5 ex_5 => ?_)
    refine va_iast hx hb hK hP hD hS 1 1 rfl rfl (by unfold vp_in; decide) dX2_isLost_43 (fun H locs hP9 hD9 hS9 => ?_)
    clear hP hD hS
    obtain ⟨g_6, eg_6⟩ : ∃ y, upd g_3 (5 : Int32).toNatClampNeg x_5 = y := ⟨_, rfl⟩
    rw [eg_6] at hP9 hD9
    refine reW [wO e0 2 [.ref e1, .ref e2, .int et, .int (nI el), .int (nI ef)], wI (cy 1) e2 7 (g_6), wO h0 4 [.ref h1, .ref h2, .ref h3, .ref h4, .ref h5, .ref h6, .ref h7, .ref h8, .ref h9, .ref h10, .ref h11, hv0, hv1, hv2, hv3, hv4], wI (cy 1) h2 8 (flo), wO h10 3 [.ref h10a, .ref h10b, .int (nI nl), .int tl], wI (cy 1) h10a 280 (fcl), wI (cy 1) h10b 31 (fsl), wO s0 7 [.ref s1, .ref s2, .int (nI sl), .int spl, .int svo, .int swi, .int sch]] hP9 hD9 hS9 (fun hP hD hS => ?_)
    clear hP9 hD9 hS9
    refine lv_aload_n hx hb dX2_isLost_44 rfl (lv_at hl 0 rfl) ?_
    refine va_get (D := D) (ci := 2) (v := .ref e2) (C := RX2) (T := TX2) (N := 5) hx hb hg i_X2 hown hK hP 0 rfl rfl 1 (by decide) (hg _ m_515) (fun _ h9 => h9) rfl dX2_isLost_45 ?_
    refine lv_bipush (v := 6) hx hb dX2_isLost_48 (by decide) ?_
    refine lv_aload_n hx hb dX2_isLost_50 rfl (lv_at hl 2 rfl) ?_
    refine va_get (D := D) (ci := 7) (v := .int sch) (C := RX7) (T := TX7) (N := 7) hx hb hg i_X7 hown hK hP 7 rfl rfl 6 (by decide) (hg _ m_641) (fun _ h9 => h9) rfl dX2_isLost_51 ?_
    refine va_iast hx hb hK hP hD hS 1 1 rfl rfl (by unfold vp_in; decide) dX2_isLost_54 (fun H locs hP9 hD9 hS9 => ?_)
    clear hP hD hS
    obtain ⟨g_7, eg_7⟩ : ∃ y, upd g_6 (6 : Int32).toNatClampNeg sch = y := ⟨_, rfl⟩
    rw [eg_7] at hP9 hD9
    refine reW [wO e0 2 [.ref e1, .ref e2, .int et, .int (nI el), .int (nI ef)], wI (cy 1) e2 7 (g_7), wO h0 4 [.ref h1, .ref h2, .ref h3, .ref h4, .ref h5, .ref h6, .ref h7, .ref h8, .ref h9, .ref h10, .ref h11, hv0, hv1, hv2, hv3, hv4], wI (cy 1) h2 8 (flo), wO h10 3 [.ref h10a, .ref h10b, .int (nI nl), .int tl], wI (cy 1) h10a 280 (fcl), wI (cy 1) h10b 31 (fsl), wO s0 7 [.ref s1, .ref s2, .int (nI sl), .int spl, .int svo, .int swi, .int sch]] hP9 hD9 hS9 (fun hP hD hS => ?_)
    clear hP9 hD9 hS9
    refine lv_aload_n hx hb dX2_isLost_55 rfl (lv_at hl 1 rfl) ?_
    refine va_get (D := D) (ci := 4) (v := .ref h10) (C := RX4) (T := TX4) (N := 16) hx hb hg i_X4 hown hK hP 2 rfl rfl 9 (by decide) (hg _ m_364) (fun _ h9 => h9) rfl dX2_isLost_56 ?_
    refine lv_aload_n hx hb dX2_isLost_59 rfl (lv_at hl 0 rfl) ?_
    refine va_get (D := D) (ci := 2) (v := .ref e2) (C := RX2) (T := TX2) (N := 5) hx hb hg i_X2 hown hK hP 0 rfl rfl 1 (by decide) (hg _ m_515) (fun _ h9 => h9) rfl dX2_isLost_60 ?_
    refine x_callVi (q := (RX3, TX3, 4)) (ci := 3) (q0 := 0) (wr := [wO e0 2 [.ref e1, .ref e2, .int et, .int (nI el), .int (nI ef)], wO h0 4 [.ref h1, .ref h2, .ref h3, .ref h4, .ref h5, .ref h6, .ref h7, .ref h8, .ref h9, .ref h10, .ref h11, hv0, hv1, hv2, hv3, hv4], wI (cy 1) h2 8 (flo), wO s0 7 [.ref s1, .ref s2, .int (nI sl), .int spl, .int svo, .int swi, .int sch]]) (rest := []) ⟨hx, hb, hml, hown, hg, hl.1⟩ k_X2_70 (s_value l D cy h10 h10a h10b nl ((.int tl)) fcl fsl e2 g_7 (by omega) (hcl)) E0_blind hK hP hD hS hA [4, 5, 6, 1] [0, 2, 3, 7] ⟨rfl, rfl, by decide +kernel, by decide +kernel, by decide +kernel⟩ rfl rfl (fun _ _ _ => trivial) dX2_isLost_63 rfl rfl (Nat.le_of_ble_eq_true rfl) ⟨Nat.le_of_ble_eq_true rfl, Nat.le_of_ble_eq_true rfl⟩ ⟨Nat.le_of_ble_eq_true rfl, Nat.le_of_ble_eq_true rfl⟩ (fun zr8 zu8 H locs hw8 hP9 hD9 hS9 => ?_)
    clear hP hD hS
    obtain ⟨fs2_9, rfl⟩ : ∃ z, z = zu8 := ⟨_, rfl⟩
    refine reW [wO e0 2 [.ref e1, .ref e2, .int et, .int (nI el), .int (nI ef)], wO h0 4 [.ref h1, .ref h2, .ref h3, .ref h4, .ref h5, .ref h6, .ref h7, .ref h8, .ref h9, .ref h10, .ref h11, hv0, hv1, hv2, hv3, hv4], wI (cy 1) h2 8 (flo), wO s0 7 [.ref s1, .ref s2, .int (nI sl), .int spl, .int svo, .int swi, .int sch], wO h10 3 [.ref h10a, .ref h10b, .int (nI nl), .int tl], wI (cy 1) h10a 280 (fcl), wI (cy 1) h10b 31 (fs2_9), wI (cy 1) e2 7 (g_7)] hP9 hD9 hS9 (fun hP hD hS => ?_)
    clear hP9 hD9 hS9
    refine W.widen (k := 0) (n := 0) (Nat.le_of_ble_eq_true rfl) (Nat.le_of_ble_eq_true rfl) ?_
    replace hw8 : True := hw8
    refine lv_if_eq (tgt := 73) hx hb dX2_isLost_66 (by decide) (fun c_66 => ?_) (fun c_66 => ?_)
    · refine lv_iconst (v := 0) hx hb dX2_isLost_73 (by decide) ?_
      exact x_zret hQ hx hb hr hlocks hK hP hD hS rfl dX2_isLost_74 (g_7, fs2_9) ((Or.inl rfl)) [0, 7, 1, 2, 4, 5, 6, 3] (by decide +kernel) rfl (Nat.le_of_ble_eq_true rfl) (Nat.le_of_ble_eq_true rfl)
    · refine lv_iconst (v := 1) hx hb dX2_isLost_69 (by decide) ?_
      refine lv_goto (tgt := 74) hx hb dX2_isLost_70 (by decide) ?_
      exact x_zret hQ hx hb hr hlocks hK hP hD hS rfl dX2_isLost_74 (g_7, fs2_9) ((Or.inr rfl)) [0, 7, 1, 2, 4, 5, 6, 3] (by decide +kernel) rfl (Nat.le_of_ble_eq_true rfl) (Nat.le_of_ble_eq_true rfl)
  · refine lv_iconst (v := 0) hx hb dX2_isLost_10 (by decide) ?_
    exact x_zret hQ hx hb hr hlocks hK hP hD hS rfl dX2_isLost_11 (ff, fsl) ((Or.inl rfl)) [0, 1, 2, 3, 4, 5, 6, 7] (by decide +kernel) rfl (Nat.le_of_ble_eq_true rfl) (Nat.le_of_ble_eq_true rfl)
theorem gdX2_comesBack_0 : decode cX2_comesBack 0 = .ok (.aload_n 0, 1) ∧ decode cX2_comesBack 1 = .ok (.getfield 9, 3) ∧ decode cX2_comesBack 4 = .ok (.iload_n 1, 1) ∧ decode cX2_comesBack 5 = .ok (.iaload, 1) ∧ decode cX2_comesBack 6 = .ok (.iload_n 2, 1) ∧ decode cX2_comesBack 7 = .ok (.ishr, 1) ∧ decode cX2_comesBack 8 = .ok (.iconst 1, 1) ∧ decode cX2_comesBack 9 = .ok (.iand, 1) ∧ decode cX2_comesBack 10 = .ok (.ifCond .ne 7, 3) ∧ decode cX2_comesBack 17 = .ok (.iconst 0, 1) ∧ decode cX2_comesBack 18 = .ok (.ireturn, 1) ∧ decode cX2_comesBack 13 = .ok (.iconst 1, 1) := by decide +kernel
theorem dX2_comesBack_0 : decode cX2_comesBack 0 = .ok (.aload_n 0, 1) := gdX2_comesBack_0.1
theorem dX2_comesBack_1 : decode cX2_comesBack 1 = .ok (.getfield 9, 3) := gdX2_comesBack_0.2.1
theorem dX2_comesBack_4 : decode cX2_comesBack 4 = .ok (.iload_n 1, 1) := gdX2_comesBack_0.2.2.1
theorem dX2_comesBack_5 : decode cX2_comesBack 5 = .ok (.iaload, 1) := gdX2_comesBack_0.2.2.2.1
theorem dX2_comesBack_6 : decode cX2_comesBack 6 = .ok (.iload_n 2, 1) := gdX2_comesBack_0.2.2.2.2.1
theorem dX2_comesBack_7 : decode cX2_comesBack 7 = .ok (.ishr, 1) := gdX2_comesBack_0.2.2.2.2.2.1
theorem dX2_comesBack_8 : decode cX2_comesBack 8 = .ok (.iconst 1, 1) := gdX2_comesBack_0.2.2.2.2.2.2.1
theorem dX2_comesBack_9 : decode cX2_comesBack 9 = .ok (.iand, 1) := gdX2_comesBack_0.2.2.2.2.2.2.2.1
theorem dX2_comesBack_10 : decode cX2_comesBack 10 = .ok (.ifCond .ne 7, 3) := gdX2_comesBack_0.2.2.2.2.2.2.2.2.1
theorem dX2_comesBack_17 : decode cX2_comesBack 17 = .ok (.iconst 0, 1) := gdX2_comesBack_0.2.2.2.2.2.2.2.2.2.1
theorem dX2_comesBack_18 : decode cX2_comesBack 18 = .ok (.ireturn, 1) := gdX2_comesBack_0.2.2.2.2.2.2.2.2.2.2.1
theorem dX2_comesBack_13 : decode cX2_comesBack 13 = .ok (.iconst 1, 1) := gdX2_comesBack_0.2.2.2.2.2.2.2.2.2.2.2
theorem dX2_comesBack_14 : decode cX2_comesBack 14 = .ok (.goto 4, 3) := by decide +kernel
set_option maxHeartbeats 1000000 in
set_option maxRecDepth 100000 in
theorem s_comesBack (l : Launch) (D : va_G) (cy : Nat → ClassId) (e0 : Nat) (e1 : Nat) (e2 : Nat) (et : Int32) (el : Nat) (ef : Nat) (fg : Nat → Int32) (ix : Nat) (wd : Int32) (hix : ix < 10) : XMi l D (tyL cy) E0 yX2_comesBack cX2_comesBack 3 (some .boolean) (rmk 0 0 0) [.ref e0, .int (nI ix), .int wd] [wO e0 2 [.ref e1, .ref e2, .int et, .int (nI el), .int (nI ef)], wI (cy 1) e1 10 (fg)] (fun (r : Int32) (_ : Unit) => (r = 0 ∨ r = 1)) (fun (_ : Unit) => [wO e0 2 [.ref e1, .ref e2, .int et, .int (nI el), .int (nI ef)], wI (cy 1) e1 10 (fg)]) := by
  refine XMi.start (by decide) (Nat.le_of_ble_eq_true rfl) ?_
  intro p e s m below meth c args A ls Q hat hQ
  obtain ⟨hx, hb, hr, hml, hown, hg, hlocks, hin, hK, hA, hP, hD, hS, hE, hl⟩ := hat
  have hown : s.vm.findClass RX2 = some m.cls := hown
  have hl : lv_has ls 3 [(0, .ref e0), (1, .int (nI ix)), (2, .int wd)] := hl
  refine lv_aload_n hx hb dX2_comesBack_0 rfl (lv_at hl 0 rfl) ?_
  refine va_get (D := D) (ci := 2) (v := .ref e1) (C := RX2) (T := TX2) (N := 5) hx hb hg i_X2 hown hK hP 0 rfl rfl 0 (by decide) (hg _ m_512) (fun _ h9 => h9) rfl dX2_comesBack_1 ?_
  refine lv_iload_n hx hb dX2_comesBack_4 rfl (lv_at hl 1 rfl) ?_
  refine va_iald hx hb hK hP 1 1 rfl rfl (vp_in_nI (by omega) (by decide)) dX2_comesBack_5 ?_
  refine lv_topi (fun x_1 ex_1 => ?_)
  refine lv_iload_n hx hb dX2_comesBack_6 rfl (lv_at hl 2 rfl) ?_
  refine lv_ishr hx hb dX2_comesBack_7 ?_
  refine lv_topi (fun x_2 ex_2 => ?_)
  refine lv_iconst (v := 1) hx hb dX2_comesBack_8 (by decide) ?_
  refine lv_iand hx hb dX2_comesBack_9 ?_
  refine lv_topi (fun x_3 ex_3 => ?_)
  refine lv_if_ne (tgt := 17) hx hb dX2_comesBack_10 (by decide) (fun c_10 => ?_) (fun c_10 => ?_)
  · refine lv_iconst (v := 0) hx hb dX2_comesBack_17 (by decide) ?_
    exact x_zret hQ hx hb hr hlocks hK hP hD hS rfl dX2_comesBack_18 () ((Or.inl rfl)) [0, 1] (by decide +kernel) rfl (Nat.le_of_ble_eq_true rfl) (Nat.le_of_ble_eq_true rfl)
  · refine lv_iconst (v := 1) hx hb dX2_comesBack_13 (by decide) ?_
    refine lv_goto (tgt := 18) hx hb dX2_comesBack_14 (by decide) ?_
    exact x_zret hQ hx hb hr hlocks hK hP hD hS rfl dX2_comesBack_18 () ((Or.inr rfl)) [0, 1] (by decide +kernel) rfl (Nat.le_of_ble_eq_true rfl) (Nat.le_of_ble_eq_true rfl)
theorem gdX2_placeOf_0 : decode cX2_placeOf 0 = .ok (.aload_n 0, 1) ∧ decode cX2_placeOf 1 = .ok (.getfield 73, 3) ∧ decode cX2_placeOf 4 = .ok (.ifCond .eq 14, 3) ∧ decode cX2_placeOf 18 = .ok (.iload_n 1, 1) ∧ decode cX2_placeOf 19 = .ok (.ireturn, 1) ∧ decode cX2_placeOf 7 = .ok (.aload_n 0, 1) ∧ decode cX2_placeOf 8 = .ok (.getfield 33, 3) ∧ decode cX2_placeOf 11 = .ok (.iconst 1, 1) ∧ decode cX2_placeOf 12 = .ok (.isub, 1) ∧ decode cX2_placeOf 13 = .ok (.iload_n 1, 1) ∧ decode cX2_placeOf 14 = .ok (.isub, 1) ∧ decode cX2_placeOf 15 = .ok (.goto 4, 3) := by decide +kernel
theorem dX2_placeOf_0 : decode cX2_placeOf 0 = .ok (.aload_n 0, 1) := gdX2_placeOf_0.1
theorem dX2_placeOf_1 : decode cX2_placeOf 1 = .ok (.getfield 73, 3) := gdX2_placeOf_0.2.1
theorem dX2_placeOf_4 : decode cX2_placeOf 4 = .ok (.ifCond .eq 14, 3) := gdX2_placeOf_0.2.2.1
theorem dX2_placeOf_18 : decode cX2_placeOf 18 = .ok (.iload_n 1, 1) := gdX2_placeOf_0.2.2.2.1
theorem dX2_placeOf_19 : decode cX2_placeOf 19 = .ok (.ireturn, 1) := gdX2_placeOf_0.2.2.2.2.1
theorem dX2_placeOf_7 : decode cX2_placeOf 7 = .ok (.aload_n 0, 1) := gdX2_placeOf_0.2.2.2.2.2.1
theorem dX2_placeOf_8 : decode cX2_placeOf 8 = .ok (.getfield 33, 3) := gdX2_placeOf_0.2.2.2.2.2.2.1
theorem dX2_placeOf_11 : decode cX2_placeOf 11 = .ok (.iconst 1, 1) := gdX2_placeOf_0.2.2.2.2.2.2.2.1
theorem dX2_placeOf_12 : decode cX2_placeOf 12 = .ok (.isub, 1) := gdX2_placeOf_0.2.2.2.2.2.2.2.2.1
theorem dX2_placeOf_13 : decode cX2_placeOf 13 = .ok (.iload_n 1, 1) := gdX2_placeOf_0.2.2.2.2.2.2.2.2.2.1
theorem dX2_placeOf_14 : decode cX2_placeOf 14 = .ok (.isub, 1) := gdX2_placeOf_0.2.2.2.2.2.2.2.2.2.2.1
theorem dX2_placeOf_15 : decode cX2_placeOf 15 = .ok (.goto 4, 3) := gdX2_placeOf_0.2.2.2.2.2.2.2.2.2.2.2
set_option maxHeartbeats 1000000 in
set_option maxRecDepth 100000 in
theorem s_placeOf (l : Launch) (D : va_G) (cy : Nat → ClassId) (e0 : Nat) (e1 : Nat) (e2 : Nat) (et : Int32) (el : Nat) (ef : Nat) (kx : Nat) (hkx : kx < el) (hel : el ≤ 10) : XMi l D (tyL cy) E0 yX2_placeOf cX2_placeOf 2 (some .int) (rmk 0 0 0) [.ref e0, .int (nI kx)] [wO e0 2 [.ref e1, .ref e2, .int et, .int (nI el), .int (nI ef)]] (fun (r : Int32) (k : Nat) => (r = nI k) ∧ (k < el)) (fun (k : Nat) => [wO e0 2 [.ref e1, .ref e2, .int et, .int (nI el), .int (nI ef)]]) := by
  refine XMi.start (by decide) (Nat.le_of_ble_eq_true rfl) ?_
  intro p e s m below meth c args A ls Q hat hQ
  obtain ⟨hx, hb, hr, hml, hown, hg, hlocks, hin, hK, hA, hP, hD, hS, hE, hl⟩ := hat
  have hown : s.vm.findClass RX2 = some m.cls := hown
  have hl : lv_has ls 2 [(0, .ref e0), (1, .int (nI kx))] := hl
  refine lv_aload_n hx hb dX2_placeOf_0 rfl (lv_at hl 0 rfl) ?_
  refine va_get (D := D) (ci := 2) (v := .int et) (C := RX2) (T := TX2) (N := 5) hx hb hg i_X2 hown hK hP 0 rfl rfl 2 (by decide) (hg _ m_516) (fun _ h9 => h9) rfl dX2_placeOf_1 ?_
  refine lv_if_eq (tgt := 18) hx hb dX2_placeOf_4 (by decide) (fun c_4 => ?_) (fun c_4 => ?_)
  · refine lv_iload_n hx hb dX2_placeOf_18 rfl (lv_at hl 1 rfl) ?_
    exact x_iret hQ hx hb hr hlocks hK hP hD hS dX2_placeOf_19 kx (⟨rfl, (show kx < el from by omega)⟩) [0] (by decide +kernel) rfl (Nat.le_of_ble_eq_true rfl) (Nat.le_of_ble_eq_true rfl)
  · refine lv_aload_n hx hb dX2_placeOf_7 rfl (lv_at hl 0 rfl) ?_
    refine va_get (D := D) (ci := 2) (v := .int (nI el)) (C := RX2) (T := TX2) (N := 5) hx hb hg i_X2 hown hK hP 0 rfl rfl 3 (by decide) (hg _ m_518) (fun _ h9 => h9) rfl dX2_placeOf_8 ?_
    refine lv_iconst (v := 1) hx hb dX2_placeOf_11 (by decide) ?_
    refine lv_isub hx hb dX2_placeOf_12 ?_
    refine lv_topi (fun y_1 hy_1 => ?_)
    obtain rfl : y_1 = nI (el - 1) := hy_1.trans (pk_sub (a := el) (b := 1) (by omega))
    refine lv_iload_n hx hb dX2_placeOf_13 rfl (lv_at hl 1 rfl) ?_
    refine lv_isub hx hb dX2_placeOf_14 ?_
    refine lv_topi (fun y_2 hy_2 => ?_)
    obtain rfl : y_2 = nI ((el - 1) - kx) := hy_2.trans (pk_sub (a := (el - 1)) (b := kx) (by omega))
    refine lv_goto (tgt := 19) hx hb dX2_placeOf_15 (by decide) ?_
    exact x_iret hQ hx hb hr hlocks hK hP hD hS dX2_placeOf_19 (((el - 1) - kx)) (⟨rfl, (show (((el - 1) - kx)) < el from by omega)⟩) [0] (by decide +kernel) rfl (Nat.le_of_ble_eq_true rfl) (Nat.le_of_ble_eq_true rfl)
theorem gdX2_tune_0 : decode cX2_tune 0 = .ok (.aload_n 0, 1) ∧ decode cX2_tune 1 = .ok (.aload_n 1, 1) ∧ decode cX2_tune 2 = .ok (.aload_n 2, 1) ∧ decode cX2_tune 3 = .ok (.iload_n 3, 1) ∧ decode cX2_tune 4 = .ok (.aload_n 2, 1) ∧ decode cX2_tune 5 = .ok (.getfield 20, 3) ∧ decode cX2_tune 8 = .ok (.invokevirtual 26, 3) := by decide +kernel
theorem dX2_tune_0 : decode cX2_tune 0 = .ok (.aload_n 0, 1) := gdX2_tune_0.1
theorem dX2_tune_1 : decode cX2_tune 1 = .ok (.aload_n 1, 1) := gdX2_tune_0.2.1
theorem dX2_tune_2 : decode cX2_tune 2 = .ok (.aload_n 2, 1) := gdX2_tune_0.2.2.1
theorem dX2_tune_3 : decode cX2_tune 3 = .ok (.iload_n 3, 1) := gdX2_tune_0.2.2.2.1
theorem dX2_tune_4 : decode cX2_tune 4 = .ok (.aload_n 2, 1) := gdX2_tune_0.2.2.2.2.1
theorem dX2_tune_5 : decode cX2_tune 5 = .ok (.getfield 20, 3) := gdX2_tune_0.2.2.2.2.2.1
theorem dX2_tune_8 : decode cX2_tune 8 = .ok (.invokevirtual 26, 3) := gdX2_tune_0.2.2.2.2.2.2
theorem k_X2_26 : xV RX2 RX2 26 yX2_place cX2_place 6 none 4 := ⟨⟨m_1037, m_1039, m_34, m_142, m_1040⟩, rfl, by decide, by decide, by decide +kernel⟩
theorem gdX2_tune_11 : decode cX2_tune 11 = .ok (.aload_n 0, 1) ∧ decode cX2_tune 12 = .ok (.getfield 30, 3) ∧ decode cX2_tune 15 = .ok (.istore 4, 2) ∧ decode cX2_tune 17 = .ok (.iload 4, 2) ∧ decode cX2_tune 19 = .ok (.aload_n 0, 1) ∧ decode cX2_tune 20 = .ok (.getfield 33, 3) ∧ decode cX2_tune 23 = .ok (.if_icmp .ge 46, 3) ∧ decode cX2_tune 69 = .ok (.return_, 1) ∧ decode cX2_tune 26 = .ok (.aload_n 2, 1) ∧ decode cX2_tune 27 = .ok (.getfield 34, 3) ∧ decode cX2_tune 30 = .ok (.iload 4, 2) ∧ decode cX2_tune 32 = .ok (.iaload, 1) := by decide +kernel
theorem dX2_tune_11 : decode cX2_tune 11 = .ok (.aload_n 0, 1) := gdX2_tune_11.1
theorem dX2_tune_12 : decode cX2_tune 12 = .ok (.getfield 30, 3) := gdX2_tune_11.2.1
theorem dX2_tune_15 : decode cX2_tune 15 = .ok (.istore 4, 2) := gdX2_tune_11.2.2.1
theorem dX2_tune_17 : decode cX2_tune 17 = .ok (.iload 4, 2) := gdX2_tune_11.2.2.2.1
theorem dX2_tune_19 : decode cX2_tune 19 = .ok (.aload_n 0, 1) := gdX2_tune_11.2.2.2.2.1
theorem dX2_tune_20 : decode cX2_tune 20 = .ok (.getfield 33, 3) := gdX2_tune_11.2.2.2.2.2.1
theorem dX2_tune_23 : decode cX2_tune 23 = .ok (.if_icmp .ge 46, 3) := gdX2_tune_11.2.2.2.2.2.2.1
theorem dX2_tune_69 : decode cX2_tune 69 = .ok (.return_, 1) := gdX2_tune_11.2.2.2.2.2.2.2.1
theorem dX2_tune_26 : decode cX2_tune 26 = .ok (.aload_n 2, 1) := gdX2_tune_11.2.2.2.2.2.2.2.2.1
theorem dX2_tune_27 : decode cX2_tune 27 = .ok (.getfield 34, 3) := gdX2_tune_11.2.2.2.2.2.2.2.2.2.1
theorem dX2_tune_30 : decode cX2_tune 30 = .ok (.iload 4, 2) := gdX2_tune_11.2.2.2.2.2.2.2.2.2.2.1
theorem dX2_tune_32 : decode cX2_tune 32 = .ok (.iaload, 1) := gdX2_tune_11.2.2.2.2.2.2.2.2.2.2.2
theorem gdX2_tune_33 : decode cX2_tune 33 = .ok (.istore 5, 2) ∧ decode cX2_tune 35 = .ok (.aload_n 0, 1) ∧ decode cX2_tune 36 = .ok (.getfield 9, 3) ∧ decode cX2_tune 39 = .ok (.iload 4, 2) ∧ decode cX2_tune 41 = .ok (.aload_n 0, 1) ∧ decode cX2_tune 42 = .ok (.aload_n 1, 1) ∧ decode cX2_tune 43 = .ok (.aload_n 2, 1) ∧ decode cX2_tune 44 = .ok (.iload 5, 2) ∧ decode cX2_tune 46 = .ok (.iload 4, 2) ∧ decode cX2_tune 48 = .ok (.invokevirtual 37, 3) := by decide +kernel
theorem dX2_tune_33 : decode cX2_tune 33 = .ok (.istore 5, 2) := gdX2_tune_33.1
theorem dX2_tune_35 : decode cX2_tune 35 = .ok (.aload_n 0, 1) := gdX2_tune_33.2.1
theorem dX2_tune_36 : decode cX2_tune 36 = .ok (.getfield 9, 3) := gdX2_tune_33.2.2.1
theorem dX2_tune_39 : decode cX2_tune 39 = .ok (.iload 4, 2) := gdX2_tune_33.2.2.2.1
theorem dX2_tune_41 : decode cX2_tune 41 = .ok (.aload_n 0, 1) := gdX2_tune_33.2.2.2.2.1
theorem dX2_tune_42 : decode cX2_tune 42 = .ok (.aload_n 1, 1) := gdX2_tune_33.2.2.2.2.2.1
theorem dX2_tune_43 : decode cX2_tune 43 = .ok (.aload_n 2, 1) := gdX2_tune_33.2.2.2.2.2.2.1
theorem dX2_tune_44 : decode cX2_tune 44 = .ok (.iload 5, 2) := gdX2_tune_33.2.2.2.2.2.2.2.1
theorem dX2_tune_46 : decode cX2_tune 46 = .ok (.iload 4, 2) := gdX2_tune_33.2.2.2.2.2.2.2.2.1
theorem dX2_tune_48 : decode cX2_tune 48 = .ok (.invokevirtual 37, 3) := gdX2_tune_33.2.2.2.2.2.2.2.2.2
theorem k_X2_37 : xV RX2 RX2 37 yX2_isLost cX2_isLost 5 (some .boolean) 4 := ⟨⟨m_1056, m_1058, m_35, m_142, m_1059⟩, rfl, by decide, by decide, by decide +kernel⟩
theorem gdX2_tune_51 : decode cX2_tune 51 = .ok (.ifCond .eq 10, 3) ∧ decode cX2_tune 61 = .ok (.iconst 0, 1) ∧ decode cX2_tune 62 = .ok (.iastore, 1) ∧ decode cX2_tune 63 = .ok (.iinc 4 1, 3) ∧ decode cX2_tune 66 = .ok (.goto (-49), 3) ∧ decode cX2_tune 54 = .ok (.iconst 1, 1) ∧ decode cX2_tune 55 = .ok (.iload 5, 2) ∧ decode cX2_tune 57 = .ok (.ishl, 1) ∧ decode cX2_tune 58 = .ok (.goto 4, 3) := by decide +kernel
theorem dX2_tune_51 : decode cX2_tune 51 = .ok (.ifCond .eq 10, 3) := gdX2_tune_51.1
theorem dX2_tune_61 : decode cX2_tune 61 = .ok (.iconst 0, 1) := gdX2_tune_51.2.1
theorem dX2_tune_62 : decode cX2_tune 62 = .ok (.iastore, 1) := gdX2_tune_51.2.2.1
theorem dX2_tune_63 : decode cX2_tune 63 = .ok (.iinc 4 1, 3) := gdX2_tune_51.2.2.2.1
theorem dX2_tune_66 : decode cX2_tune 66 = .ok (.goto (-49), 3) := gdX2_tune_51.2.2.2.2.1
theorem dX2_tune_54 : decode cX2_tune 54 = .ok (.iconst 1, 1) := gdX2_tune_51.2.2.2.2.2.1
theorem dX2_tune_55 : decode cX2_tune 55 = .ok (.iload 5, 2) := gdX2_tune_51.2.2.2.2.2.2.1
theorem dX2_tune_57 : decode cX2_tune 57 = .ok (.ishl, 1) := gdX2_tune_51.2.2.2.2.2.2.2.1
theorem dX2_tune_58 : decode cX2_tune 58 = .ok (.goto 4, 3) := gdX2_tune_51.2.2.2.2.2.2.2.2
set_option maxHeartbeats 1000000 in
set_option maxRecDepth 100000 in
theorem s_tune (l : Launch) (D : va_G) (cy : Nat → ClassId) (e0 : Nat) (e1 : Nat) (e2 : Nat) (et : Int32) (el : Int32) (ef : Int32) (fg : Nat → Int32) (ff : Nat → Int32) (h0 : Nat) (h1 : Nat) (h2 : Nat) (h3 : Nat) (h4 : Nat) (h5 : Nat) (h6 : Nat) (h7 : Nat) (h8 : Nat) (h9 : Nat) (h10 : Nat) (h11 : Nat) (hv0 : Value) (hv1 : Value) (hv2 : Value) (hv3 : Value) (hv4 : Value) (fp : Nat → Int32) (flo : Nat → Int32) (h9a : Nat) (h9b : Nat) (nb : Nat) (tb : Int32) (fcb : Nat → Int32) (fsb : Nat → Int32) (h11a : Nat) (h11b : Nat) (nt : Nat) (tt : Int32) (fct : Nat → Int32) (fst : Nat → Int32) (h10a : Nat) (h10b : Nat) (nl : Nat) (tl : Int32) (fcl : Nat → Int32) (fsl : Nat → Int32) (s0 : Nat) (s1 : Nat) (s2 : Nat) (sl : Nat) (spl : Int32) (svo : Int32) (swi : Int32) (sch : Int32) (fw : Nat → Int32) (fsn : Nat → Int32) (j : Nat) (hnb : nb ≤ 280) (hcb : cOK fcb nb) (hnt : nt ≤ 280) (hct : cOK fct nt) (hnl : nl ≤ 280) (hcl : cOK fcl nl) (hj : j < 4) (hsl : sl ≤ 10) (hsw : rng fw 10 7) : XMv l D (tyL cy) E0 yX2_tune cX2_tune 6 none (rmk 4 0 0) [.ref e0, .ref h0, .ref s0, .int (nI j)] [wO e0 2 [.ref e1, .ref e2, .int et, .int el, .int ef], wI (cy 1) e1 10 (fg), wI (cy 1) e2 7 (ff), wO h0 4 [.ref h1, .ref h2, .ref h3, .ref h4, .ref h5, .ref h6, .ref h7, .ref h8, .ref h9, .ref h10, .ref h11, hv0, hv1, hv2, hv3, hv4], wI (cy 1) h3 4 (fp), wI (cy 1) h2 8 (flo), wO h9 3 [.ref h9a, .ref h9b, .int (nI nb), .int tb], wI (cy 1) h9a 280 (fcb), wI (cy 1) h9b 31 (fsb), wO h11 3 [.ref h11a, .ref h11b, .int (nI nt), .int tt], wI (cy 1) h11a 280 (fct), wI (cy 1) h11b 31 (fst), wO h10 3 [.ref h10a, .ref h10b, .int (nI nl), .int tl], wI (cy 1) h10a 280 (fcl), wI (cy 1) h10b 31 (fsl), wO s0 7 [.ref s1, .ref s2, .int (nI sl), .int spl, .int svo, .int swi, .int sch], wI (cy 1) s1 10 (fw), wI (cy 1) s2 4 (fsn)] (fun (u : Nat × Int32 × (Nat → Int32) × (Nat → Int32) × (Nat → Int32) × (Nat → Int32) × (Nat → Int32)) => (u.1 ≤ sl)) (fun (u : Nat × Int32 × (Nat → Int32) × (Nat → Int32) × (Nat → Int32) × (Nat → Int32) × (Nat → Int32)) => [wO e0 2 [.ref e1, .ref e2, .int u.2.1, .int (nI sl), .int (nI u.1)], wI (cy 1) e1 10 (u.2.2.1), wI (cy 1) e2 7 (u.2.2.2.1), wO h0 4 [.ref h1, .ref h2, .ref h3, .ref h4, .ref h5, .ref h6, .ref h7, .ref h8, .ref h9, .ref h10, .ref h11, hv0, hv1, hv2, hv3, hv4], wI (cy 1) h3 4 (fp), wI (cy 1) h2 8 (flo), wO h9 3 [.ref h9a, .ref h9b, .int (nI nb), .int tb], wI (cy 1) h9a 280 (fcb), wI (cy 1) h9b 31 (u.2.2.2.2.1), wO h11 3 [.ref h11a, .ref h11b, .int (nI nt), .int tt], wI (cy 1) h11a 280 (fct), wI (cy 1) h11b 31 (u.2.2.2.2.2.1), wO h10 3 [.ref h10a, .ref h10b, .int (nI nl), .int tl], wI (cy 1) h10a 280 (fcl), wI (cy 1) h10b 31 (u.2.2.2.2.2.2), wO s0 7 [.ref s1, .ref s2, .int (nI sl), .int spl, .int svo, .int swi, .int sch], wI (cy 1) s1 10 (fw), wI (cy 1) s2 4 (fsn)]) := by
  refine XMv.start (by decide) (Nat.le_of_ble_eq_true rfl) ?_
  intro p e s m below meth c args A ls Q hat hQ
  obtain ⟨hx, hb, hr, hml, hown, hg, hlocks, hin, hK, hA, hP, hD, hS, hE, hl⟩ := hat
  have hown : s.vm.findClass RX2 = some m.cls := hown
  have hl : lv_has ls 6 [(0, .ref e0), (1, .ref h0), (2, .ref s0), (3, .int (nI j))] := hl
  refine lv_aload_n hx hb dX2_tune_0 rfl (lv_at hl 0 rfl) ?_
  refine lv_aload_n hx hb dX2_tune_1 rfl (lv_at hl 1 rfl) ?_
  refine lv_aload_n hx hb dX2_tune_2 rfl (lv_at hl 2 rfl) ?_
  refine lv_iload_n hx hb dX2_tune_3 rfl (lv_at hl 3 rfl) ?_
  refine lv_aload_n hx hb dX2_tune_4 rfl (lv_at hl 2 rfl) ?_
  refine va_get (D := D) (ci := 7) (v := .int (nI sl)) (C := RX7) (T := TX7) (N := 7) hx hb hg i_X7 hown hK hP 15 rfl rfl 2 (by decide) (hg _ m_629) (fun _ h9 => h9) rfl dX2_tune_5 ?_
  refine x_callVv (q := (RX2, TX2, 5)) (ci := 2) (q0 := 0) (wr := [wI (cy 1) h2 8 (flo), wO h10 3 [.ref h10a, .ref h10b, .int (nI nl), .int tl], wI (cy 1) h10a 280 (fcl), wI (cy 1) h10b 31 (fsl), wI (cy 1) s1 10 (fw)]) (rest := []) ⟨hx, hb, hml, hown, hg, hl.1⟩ k_X2_26 (s_place l D cy e0 e1 e2 et el ef fg ff h0 h1 h2 h3 h4 h5 h6 h7 h8 h9 h10 h11 hv0 hv1 hv2 hv3 hv4 fp h9a h9b nb tb fcb fsb h11a h11b nt tt fct fst s0 s1 s2 sl spl svo swi sch fsn j sl (by omega) (hcb) (by omega) (hct) (by omega) (by omega)) E0_blind hK hP hD hS hA [0, 1, 2, 3, 4, 6, 7, 8, 9, 10, 11, 15, 17] [5, 12, 13, 14, 16] ⟨rfl, rfl, by decide +kernel, by decide +kernel, by decide +kernel⟩ rfl rfl (fun _ _ _ => trivial) dX2_tune_8 rfl rfl (Nat.le_of_ble_eq_true rfl) ⟨Nat.le_of_ble_eq_true rfl, Nat.le_of_ble_eq_true rfl⟩ ⟨Nat.le_of_ble_eq_true rfl, Nat.le_of_ble_eq_true rfl⟩ (fun zu1 H locs hw1 hP9 hD9 hS9 => ?_)
  clear hP hD hS
  obtain ⟨k_2, tu_3, fg2_4, ff2_5, fsb2_6, fst2_7⟩ := zu1
  refine reW [wI (cy 1) h2 8 (flo), wO h10 3 [.ref h10a, .ref h10b, .int (nI nl), .int tl], wI (cy 1) h10a 280 (fcl), wI (cy 1) h10b 31 (fsl), wI (cy 1) s1 10 (fw), wO e0 2 [.ref e1, .ref e2, .int tu_3, .int (nI sl), .int (nI k_2)], wI (cy 1) e1 10 (fg2_4), wI (cy 1) e2 7 (ff2_5), wO h0 4 [.ref h1, .ref h2, .ref h3, .ref h4, .ref h5, .ref h6, .ref h7, .ref h8, .ref h9, .ref h10, .ref h11, hv0, hv1, hv2, hv3, hv4], wI (cy 1) h3 4 (fp), wO h9 3 [.ref h9a, .ref h9b, .int (nI nb), .int tb], wI (cy 1) h9a 280 (fcb), wI (cy 1) h9b 31 (fsb2_6), wO h11 3 [.ref h11a, .ref h11b, .int (nI nt), .int tt], wI (cy 1) h11a 280 (fct), wI (cy 1) h11b 31 (fst2_7), wO s0 7 [.ref s1, .ref s2, .int (nI sl), .int spl, .int svo, .int swi, .int sch], wI (cy 1) s2 4 (fsn)] hP9 hD9 hS9 (fun hP hD hS => ?_)
  clear hP9 hD9 hS9
  refine W.widen (k := 0) (n := 0) (Nat.le_of_ble_eq_true rfl) (Nat.le_of_ble_eq_true rfl) ?_
  replace hw1 : (k_2 ≤ sl) := hw1
  have f_8 := hw1
  refine lv_aload_n hx hb dX2_tune_11 rfl (lv_at hl 0 rfl) ?_
  refine va_get (D := D) (ci := 2) (v := .int (nI k_2)) (C := RX2) (T := TX2) (N := 5) hx hb hg i_X2 hown hK hP 5 rfl rfl 4 (by decide) (hg _ m_519) (fun _ h9 => h9) rfl dX2_tune_12 ?_
  refine lv_istore (lv' := [(4, .int (nI k_2)), (0, .ref e0), (1, .ref h0), (2, .ref s0), (3, .int (nI j))]) hx hb dX2_tune_15 hl (by decide) rfl (fun ls hl => ?_)
  have loop9 : ∀ (zn : Nat) (i9 : Nat) (fa1_9 : Nat → Int32) (fa2_9 : Nat → Int32) (fa3_9 : Nat → Int32), (i9 ≤ 10) → 10 - i9 + 1 ≤ zn → ∀ (H : Heap) (locs : List Loc), va_P D vwCl [wI (cy 1) h2 8 (flo), wO h10 3 [.ref h10a, .ref h10b, .int (nI nl), .int tl], wI (cy 1) h10a 280 (fcl), wI (cy 1) h10b 31 (fa3_9), wI (cy 1) s1 10 (fw), wO e0 2 [.ref e1, .ref e2, .int tu_3, .int (nI sl), .int (nI k_2)], wI (cy 1) e1 10 (fa1_9), wI (cy 1) e2 7 (fa2_9), wO h0 4 [.ref h1, .ref h2, .ref h3, .ref h4, .ref h5, .ref h6, .ref h7, .ref h8, .ref h9, .ref h10, .ref h11, hv0, hv1, hv2, hv3, hv4], wI (cy 1) h3 4 (fp), wO h9 3 [.ref h9a, .ref h9b, .int (nI nb), .int tb], wI (cy 1) h9a 280 (fcb), wI (cy 1) h9b 31 (fsb2_6), wO h11 3 [.ref h11a, .ref h11b, .int (nI nt), .int tt], wI (cy 1) h11a 280 (fct), wI (cy 1) h11b 31 (fst2_7), wO s0 7 [.ref s1, .ref s2, .int (nI sl), .int spl, .int svo, .int swi, .int sch], wI (cy 1) s2 4 (fsn)] H → va_D A [wI (cy 1) h2 8 (flo), wO h10 3 [.ref h10a, .ref h10b, .int (nI nl), .int tl], wI (cy 1) h10a 280 (fcl), wI (cy 1) h10b 31 (fa3_9), wI (cy 1) s1 10 (fw), wO e0 2 [.ref e1, .ref e2, .int tu_3, .int (nI sl), .int (nI k_2)], wI (cy 1) e1 10 (fa1_9), wI (cy 1) e2 7 (fa2_9), wO h0 4 [.ref h1, .ref h2, .ref h3, .ref h4, .ref h5, .ref h6, .ref h7, .ref h8, .ref h9, .ref h10, .ref h11, hv0, hv1, hv2, hv3, hv4], wI (cy 1) h3 4 (fp), wO h9 3 [.ref h9a, .ref h9b, .int (nI nb), .int tb], wI (cy 1) h9a 280 (fcb), wI (cy 1) h9b 31 (fsb2_6), wO h11 3 [.ref h11a, .ref h11b, .int (nI nt), .int tt], wI (cy 1) h11a 280 (fct), wI (cy 1) h11b 31 (fst2_7), wO s0 7 [.ref s1, .ref s2, .int (nI sl), .int spl, .int svo, .int swi, .int sch], wI (cy 1) s2 4 (fsn)] → va_S A s.heap H locs → ∀ ls : Array Slot, lv_has ls 6 [(4, .int (nI i9)), (0, .ref e0), (1, .ref h0), (2, .ref s0), (3, .int (nI j))] → W p l e (rmk 4 0 0) s m args below meth c H locs 0 0 Q (F0 m 17 ls []) := by
    try clear hP hD hS
    intro zn
    induction zn with
    | zero => intro i9 fa1_9 fa2_9 fa3_9 _ hz; exact absurd hz (by omega)
    | succ zn ih9 =>
      intro i9 fa1_9 fa2_9 fa3_9 hf0_9 hmu9 H locs hP hD hS ls hl
      refine lv_iload hx hb dX2_tune_17 (lv_at hl 0 rfl) ?_
      refine lv_aload_n hx hb dX2_tune_19 rfl (lv_at hl 1 rfl) ?_
      refine va_get (D := D) (ci := 2) (v := .int (nI sl)) (C := RX2) (T := TX2) (N := 5) hx hb hg i_X2 hown hK hP 5 rfl rfl 3 (by decide) (hg _ m_518) (fun _ h9 => h9) rfl dX2_tune_20 ?_
      refine lv_icmp_ge (tgt := 69) hx hb dX2_tune_23 (by decide) (fun c_10 => ?_) (fun c_10 => ?_)
      · have q_11 : sl ≤ i9 := q_le (a := sl) (b := i9) rfl rfl (by omega) (by omega) c_10
        exact x_vret hQ hx hb hr hlocks hK hP hD hS dX2_tune_69 (k_2, tu_3, fa1_9, fa2_9, fsb2_6, fst2_7, fa3_9) ((show k_2 ≤ sl from by omega)) [5, 6, 7, 8, 9, 0, 10, 11, 12, 13, 14, 15, 1, 2, 3, 16, 4, 17] (by decide +kernel) rfl (Nat.le_of_ble_eq_true rfl) (Nat.le_of_ble_eq_true rfl)
      · have q_11 : i9 < sl := q_nle (a := sl) (b := i9) rfl rfl (by omega) (by omega) c_10
        refine lv_aload_n hx hb dX2_tune_26 rfl (lv_at hl 3 rfl) ?_
        refine va_get (D := D) (ci := 7) (v := .ref s1) (C := RX7) (T := TX7) (N := 7) hx hb hg i_X7 hown hK hP 16 rfl rfl 0 (by decide) (hg _ m_620) (fun _ h9 => h9) rfl dX2_tune_27 ?_
        refine lv_iload hx hb dX2_tune_30 (lv_at hl 0 rfl) ?_
        refine va_iald hx hb hK hP 4 1 rfl rfl (vp_in_nI (by omega) (by decide)) dX2_tune_32 ?_
        obtain ⟨j_12, hj_12, ej_12⟩ := rng_at hsw (i := i9) (by omega) (by decide)
        refine lv_topi (fun y_13 hy_13 => ?_)
        obtain rfl : y_13 = nI j_12 := hy_13.trans ej_12
        refine lv_istore (lv' := [(5, .int (nI j_12)), (4, .int (nI i9)), (0, .ref e0), (1, .ref h0), (2, .ref s0), (3, .int (nI j))]) hx hb dX2_tune_33 hl (by decide) rfl (fun ls hl => ?_)
        refine lv_aload_n hx hb dX2_tune_35 rfl (lv_at hl 2 rfl) ?_
        refine va_get (D := D) (ci := 2) (v := .ref e1) (C := RX2) (T := TX2) (N := 5) hx hb hg i_X2 hown hK hP 5 rfl rfl 0 (by decide) (hg _ m_512) (fun _ h9 => h9) rfl dX2_tune_36 ?_
        refine lv_iload hx hb dX2_tune_39 (lv_at hl 1 rfl) ?_
        refine lv_aload_n hx hb dX2_tune_41 rfl (lv_at hl 2 rfl) ?_
        refine lv_aload_n hx hb dX2_tune_42 rfl (lv_at hl 3 rfl) ?_
        refine lv_aload_n hx hb dX2_tune_43 rfl (lv_at hl 4 rfl) ?_
        refine lv_iload hx hb dX2_tune_44 (lv_at hl 0 rfl) ?_
        refine lv_iload hx hb dX2_tune_46 (lv_at hl 1 rfl) ?_
        refine x_callVi (q := (RX2, TX2, 5)) (ci := 2) (q0 := 0) (wr := [wI (cy 1) s1 10 (fw), wI (cy 1) e1 10 (fa1_9), wI (cy 1) h3 4 (fp), wO h9 3 [.ref h9a, .ref h9b, .int (nI nb), .int tb], wI (cy 1) h9a 280 (fcb), wI (cy 1) h9b 31 (fsb2_6), wO h11 3 [.ref h11a, .ref h11b, .int (nI nt), .int tt], wI (cy 1) h11a 280 (fct), wI (cy 1) h11b 31 (fst2_7), wI (cy 1) s2 4 (fsn)]) (rest := [.int (nI i9), .ref e1]) ⟨hx, hb, hml, hown, hg, hl.1⟩ k_X2_37 (s_isLost l D cy e0 e1 e2 tu_3 sl k_2 fa2_9 h0 h1 h2 h3 h4 h5 h6 h7 h8 h9 h10 h11 hv0 hv1 hv2 hv3 hv4 flo h10a h10b nl tl fcl fa3_9 s0 s1 s2 sl spl svo swi sch j_12 i9 (by omega) (hcl) (by omega)) E0_blind hK hP hD hS hA [5, 7, 8, 0, 1, 2, 3, 16] [4, 6, 9, 10, 11, 12, 13, 14, 15, 17] ⟨rfl, rfl, by decide +kernel, by decide +kernel, by decide +kernel⟩ rfl rfl (fun _ _ _ => trivial) dX2_tune_48 rfl rfl (Nat.le_of_ble_eq_true rfl) ⟨Nat.le_of_ble_eq_true rfl, Nat.le_of_ble_eq_true rfl⟩ ⟨Nat.le_of_ble_eq_true rfl, Nat.le_of_ble_eq_true rfl⟩ (fun zr14 zu14 H locs hw14 hP9 hD9 hS9 => ?_)
        clear hP hD hS
        obtain ⟨ff2_15, fsl2_16⟩ := zu14
        refine reW [wI (cy 1) s1 10 (fw), wI (cy 1) e1 10 (fa1_9), wI (cy 1) h3 4 (fp), wO h9 3 [.ref h9a, .ref h9b, .int (nI nb), .int tb], wI (cy 1) h9a 280 (fcb), wI (cy 1) h9b 31 (fsb2_6), wO h11 3 [.ref h11a, .ref h11b, .int (nI nt), .int tt], wI (cy 1) h11a 280 (fct), wI (cy 1) h11b 31 (fst2_7), wI (cy 1) s2 4 (fsn), wO e0 2 [.ref e1, .ref e2, .int tu_3, .int (nI sl), .int (nI k_2)], wI (cy 1) e2 7 (ff2_15), wO h0 4 [.ref h1, .ref h2, .ref h3, .ref h4, .ref h5, .ref h6, .ref h7, .ref h8, .ref h9, .ref h10, .ref h11, hv0, hv1, hv2, hv3, hv4], wI (cy 1) h2 8 (flo), wO h10 3 [.ref h10a, .ref h10b, .int (nI nl), .int tl], wI (cy 1) h10a 280 (fcl), wI (cy 1) h10b 31 (fsl2_16), wO s0 7 [.ref s1, .ref s2, .int (nI sl), .int spl, .int svo, .int swi, .int sch]] hP9 hD9 hS9 (fun hP hD hS => ?_)
        clear hP9 hD9 hS9
        refine W.widen (k := 0) (n := 0) (Nat.le_of_ble_eq_true rfl) (Nat.le_of_ble_eq_true rfl) ?_
        replace hw14 : (zr14 = 0 ∨ zr14 = 1) := hw14
        have f_17 := hw14
        refine lv_if_eq (tgt := 61) hx hb dX2_tune_51 (by decide) (fun c_51 => ?_) (fun c_51 => ?_)
        · refine lv_iconst (v := 0) hx hb dX2_tune_61 (by decide) ?_
          refine va_iast hx hb hK hP hD hS 1 1 rfl rfl (vp_in_nI (by omega) (by decide)) dX2_tune_62 (fun H locs hP9 hD9 hS9 => ?_)
          clear hP hD hS
          obtain ⟨g_18, eg_18⟩ : ∃ y, upd fa1_9 (nI i9 : Int32).toNatClampNeg 0 = y := ⟨_, rfl⟩
          rw [eg_18] at hP9 hD9
          refine reW [wI (cy 1) s1 10 (fw), wI (cy 1) e1 10 (g_18), wI (cy 1) h3 4 (fp), wO h9 3 [.ref h9a, .ref h9b, .int (nI nb), .int tb], wI (cy 1) h9a 280 (fcb), wI (cy 1) h9b 31 (fsb2_6), wO h11 3 [.ref h11a, .ref h11b, .int (nI nt), .int tt], wI (cy 1) h11a 280 (fct), wI (cy 1) h11b 31 (fst2_7), wI (cy 1) s2 4 (fsn), wO e0 2 [.ref e1, .ref e2, .int tu_3, .int (nI sl), .int (nI k_2)], wI (cy 1) e2 7 (ff2_15), wO h0 4 [.ref h1, .ref h2, .ref h3, .ref h4, .ref h5, .ref h6, .ref h7, .ref h8, .ref h9, .ref h10, .ref h11, hv0, hv1, hv2, hv3, hv4], wI (cy 1) h2 8 (flo), wO h10 3 [.ref h10a, .ref h10b, .int (nI nl), .int tl], wI (cy 1) h10a 280 (fcl), wI (cy 1) h10b 31 (fsl2_16), wO s0 7 [.ref s1, .ref s2, .int (nI sl), .int spl, .int svo, .int swi, .int sch]] hP9 hD9 hS9 (fun hP hD hS => ?_)
          clear hP9 hD9 hS9
          refine lv_iinc (v := nI (i9 + 1)) (lv' := [(4, .int (nI (i9 + 1))), (5, .int (nI j_12)), (0, .ref e0), (1, .ref h0), (2, .ref s0), (3, .int (nI j))]) hx hb dX2_tune_63 hl (k := 1) rfl (nI_add i9 1) (by decide) rfl (fun ls hl => ?_)
          refine lv_goto (tgt := 17) hx hb dX2_tune_66 (by decide) ?_
          exact ih9  ((i9 + 1)) g_18 ff2_15 fsl2_16 (by omega) (by omega) _ _ (hP.sub [13, 14, 15, 16, 0, 10, 1, 11, 12, 2, 3, 4, 5, 6, 7, 8, 17, 9] rfl) (hD.sub [13, 14, 15, 16, 0, 10, 1, 11, 12, 2, 3, 4, 5, 6, 7, 8, 17, 9] (by decide +kernel) rfl) hS ls (lv_sub hl [0, 2, 3, 4, 5] rfl)
        · refine lv_iconst (v := 1) hx hb dX2_tune_54 (by decide) ?_
          refine lv_iload hx hb dX2_tune_55 (lv_at hl 0 rfl) ?_
          refine lv_ishl hx hb dX2_tune_57 ?_
          refine lv_topi (fun x_19 ex_19 => ?_)
          refine lv_goto (tgt := 62) hx hb dX2_tune_58 (by decide) ?_
          refine va_iast hx hb hK hP hD hS 1 1 rfl rfl (vp_in_nI (by omega) (by decide)) dX2_tune_62 (fun H locs hP9 hD9 hS9 => ?_)
          clear hP hD hS
          obtain ⟨g_20, eg_20⟩ : ∃ y, upd fa1_9 (nI i9 : Int32).toNatClampNeg x_19 = y := ⟨_, rfl⟩
          rw [eg_20] at hP9 hD9
          refine reW [wI (cy 1) s1 10 (fw), wI (cy 1) e1 10 (g_20), wI (cy 1) h3 4 (fp), wO h9 3 [.ref h9a, .ref h9b, .int (nI nb), .int tb], wI (cy 1) h9a 280 (fcb), wI (cy 1) h9b 31 (fsb2_6), wO h11 3 [.ref h11a, .ref h11b, .int (nI nt), .int tt], wI (cy 1) h11a 280 (fct), wI (cy 1) h11b 31 (fst2_7), wI (cy 1) s2 4 (fsn), wO e0 2 [.ref e1, .ref e2, .int tu_3, .int (nI sl), .int (nI k_2)], wI (cy 1) e2 7 (ff2_15), wO h0 4 [.ref h1, .ref h2, .ref h3, .ref h4, .ref h5, .ref h6, .ref h7, .ref h8, .ref h9, .ref h10, .ref h11, hv0, hv1, hv2, hv3, hv4], wI (cy 1) h2 8 (flo), wO h10 3 [.ref h10a, .ref h10b, .int (nI nl), .int tl], wI (cy 1) h10a 280 (fcl), wI (cy 1) h10b 31 (fsl2_16), wO s0 7 [.ref s1, .ref s2, .int (nI sl), .int spl, .int svo, .int swi, .int sch]] hP9 hD9 hS9 (fun hP hD hS => ?_)
          clear hP9 hD9 hS9
          refine lv_iinc (v := nI (i9 + 1)) (lv' := [(4, .int (nI (i9 + 1))), (5, .int (nI j_12)), (0, .ref e0), (1, .ref h0), (2, .ref s0), (3, .int (nI j))]) hx hb dX2_tune_63 hl (k := 1) rfl (nI_add i9 1) (by decide) rfl (fun ls hl => ?_)
          refine lv_goto (tgt := 17) hx hb dX2_tune_66 (by decide) ?_
          exact ih9  ((i9 + 1)) g_20 ff2_15 fsl2_16 (by omega) (by omega) _ _ (hP.sub [13, 14, 15, 16, 0, 10, 1, 11, 12, 2, 3, 4, 5, 6, 7, 8, 17, 9] rfl) (hD.sub [13, 14, 15, 16, 0, 10, 1, 11, 12, 2, 3, 4, 5, 6, 7, 8, 17, 9] (by decide +kernel) rfl) hS ls (lv_sub hl [0, 2, 3, 4, 5] rfl)
  exact loop9 _ k_2 fg2_4 ff2_5 fsl (by omega) (Nat.le_refl _) _ _ (hP.sub [0, 1, 2, 3, 4, 5, 6, 7, 8, 9, 10, 11, 12, 13, 14, 15, 16, 17] rfl) (hD.sub [0, 1, 2, 3, 4, 5, 6, 7, 8, 9, 10, 11, 12, 13, 14, 15, 16, 17] (by decide +kernel) rfl) hS ls (lv_sub hl [0, 1, 2, 3, 4] rfl)
theorem gdX2_tuneToAll_0 : decode cX2_tuneToAll 0 = .ok (.aload_n 0, 1) ∧ decode cX2_tuneToAll 1 = .ok (.aload_n 1, 1) ∧ decode cX2_tuneToAll 2 = .ok (.aload_n 2, 1) ∧ decode cX2_tuneToAll 3 = .ok (.iload_n 3, 1) ∧ decode cX2_tuneToAll 4 = .ok (.iload 4, 2) ∧ decode cX2_tuneToAll 6 = .ok (.invokevirtual 26, 3) ∧ decode cX2_tuneToAll 9 = .ok (.aload_n 0, 1) ∧ decode cX2_tuneToAll 10 = .ok (.getfield 30, 3) ∧ decode cX2_tuneToAll 13 = .ok (.istore 5, 2) ∧ decode cX2_tuneToAll 15 = .ok (.iload 5, 2) ∧ decode cX2_tuneToAll 17 = .ok (.aload_n 0, 1) ∧ decode cX2_tuneToAll 18 = .ok (.getfield 33, 3) := by decide +kernel
theorem dX2_tuneToAll_0 : decode cX2_tuneToAll 0 = .ok (.aload_n 0, 1) := gdX2_tuneToAll_0.1
theorem dX2_tuneToAll_1 : decode cX2_tuneToAll 1 = .ok (.aload_n 1, 1) := gdX2_tuneToAll_0.2.1
theorem dX2_tuneToAll_2 : decode cX2_tuneToAll 2 = .ok (.aload_n 2, 1) := gdX2_tuneToAll_0.2.2.1
theorem dX2_tuneToAll_3 : decode cX2_tuneToAll 3 = .ok (.iload_n 3, 1) := gdX2_tuneToAll_0.2.2.2.1
theorem dX2_tuneToAll_4 : decode cX2_tuneToAll 4 = .ok (.iload 4, 2) := gdX2_tuneToAll_0.2.2.2.2.1
theorem dX2_tuneToAll_6 : decode cX2_tuneToAll 6 = .ok (.invokevirtual 26, 3) := gdX2_tuneToAll_0.2.2.2.2.2.1
theorem dX2_tuneToAll_9 : decode cX2_tuneToAll 9 = .ok (.aload_n 0, 1) := gdX2_tuneToAll_0.2.2.2.2.2.2.1
theorem dX2_tuneToAll_10 : decode cX2_tuneToAll 10 = .ok (.getfield 30, 3) := gdX2_tuneToAll_0.2.2.2.2.2.2.2.1
theorem dX2_tuneToAll_13 : decode cX2_tuneToAll 13 = .ok (.istore 5, 2) := gdX2_tuneToAll_0.2.2.2.2.2.2.2.2.1
theorem dX2_tuneToAll_15 : decode cX2_tuneToAll 15 = .ok (.iload 5, 2) := gdX2_tuneToAll_0.2.2.2.2.2.2.2.2.2.1
theorem dX2_tuneToAll_17 : decode cX2_tuneToAll 17 = .ok (.aload_n 0, 1) := gdX2_tuneToAll_0.2.2.2.2.2.2.2.2.2.2.1
theorem dX2_tuneToAll_18 : decode cX2_tuneToAll 18 = .ok (.getfield 33, 3) := gdX2_tuneToAll_0.2.2.2.2.2.2.2.2.2.2.2
theorem gdX2_tuneToAll_21 : decode cX2_tuneToAll 21 = .ok (.if_icmp .ge 64, 3) ∧ decode cX2_tuneToAll 85 = .ok (.return_, 1) ∧ decode cX2_tuneToAll 24 = .ok (.aload_n 0, 1) ∧ decode cX2_tuneToAll 25 = .ok (.getfield 9, 3) ∧ decode cX2_tuneToAll 28 = .ok (.iload 5, 2) ∧ decode cX2_tuneToAll 30 = .ok (.iconst 0, 1) ∧ decode cX2_tuneToAll 31 = .ok (.iastore, 1) ∧ decode cX2_tuneToAll 32 = .ok (.iconst 0, 1) ∧ decode cX2_tuneToAll 33 = .ok (.istore 6, 2) ∧ decode cX2_tuneToAll 35 = .ok (.iload 6, 2) ∧ decode cX2_tuneToAll 37 = .ok (.aload_n 1, 1) ∧ decode cX2_tuneToAll 38 = .ok (.getfield 41, 3) := by decide +kernel
theorem dX2_tuneToAll_21 : decode cX2_tuneToAll 21 = .ok (.if_icmp .ge 64, 3) := gdX2_tuneToAll_21.1
theorem dX2_tuneToAll_85 : decode cX2_tuneToAll 85 = .ok (.return_, 1) := gdX2_tuneToAll_21.2.1
theorem dX2_tuneToAll_24 : decode cX2_tuneToAll 24 = .ok (.aload_n 0, 1) := gdX2_tuneToAll_21.2.2.1
theorem dX2_tuneToAll_25 : decode cX2_tuneToAll 25 = .ok (.getfield 9, 3) := gdX2_tuneToAll_21.2.2.2.1
theorem dX2_tuneToAll_28 : decode cX2_tuneToAll 28 = .ok (.iload 5, 2) := gdX2_tuneToAll_21.2.2.2.2.1
theorem dX2_tuneToAll_30 : decode cX2_tuneToAll 30 = .ok (.iconst 0, 1) := gdX2_tuneToAll_21.2.2.2.2.2.1
theorem dX2_tuneToAll_31 : decode cX2_tuneToAll 31 = .ok (.iastore, 1) := gdX2_tuneToAll_21.2.2.2.2.2.2.1
theorem dX2_tuneToAll_32 : decode cX2_tuneToAll 32 = .ok (.iconst 0, 1) := gdX2_tuneToAll_21.2.2.2.2.2.2.2.1
theorem dX2_tuneToAll_33 : decode cX2_tuneToAll 33 = .ok (.istore 6, 2) := gdX2_tuneToAll_21.2.2.2.2.2.2.2.2.1
theorem dX2_tuneToAll_35 : decode cX2_tuneToAll 35 = .ok (.iload 6, 2) := gdX2_tuneToAll_21.2.2.2.2.2.2.2.2.2.1
theorem dX2_tuneToAll_37 : decode cX2_tuneToAll 37 = .ok (.aload_n 1, 1) := gdX2_tuneToAll_21.2.2.2.2.2.2.2.2.2.2.1
theorem dX2_tuneToAll_38 : decode cX2_tuneToAll 38 = .ok (.getfield 41, 3) := gdX2_tuneToAll_21.2.2.2.2.2.2.2.2.2.2.2
theorem gdX2_tuneToAll_41 : decode cX2_tuneToAll 41 = .ok (.iconst 0, 1) ∧ decode cX2_tuneToAll 42 = .ok (.iaload, 1) ∧ decode cX2_tuneToAll 43 = .ok (.if_icmp .ge 36, 3) ∧ decode cX2_tuneToAll 79 = .ok (.iinc 5 1, 3) ∧ decode cX2_tuneToAll 82 = .ok (.goto (-67), 3) ∧ decode cX2_tuneToAll 46 = .ok (.aload_n 0, 1) ∧ decode cX2_tuneToAll 47 = .ok (.aload_n 1, 1) ∧ decode cX2_tuneToAll 48 = .ok (.aload_n 2, 1) ∧ decode cX2_tuneToAll 49 = .ok (.iload 6, 2) ∧ decode cX2_tuneToAll 51 = .ok (.iload 5, 2) ∧ decode cX2_tuneToAll 53 = .ok (.invokevirtual 37, 3) ∧ decode cX2_tuneToAll 56 = .ok (.ifCond .eq 17, 3) := by decide +kernel
theorem dX2_tuneToAll_41 : decode cX2_tuneToAll 41 = .ok (.iconst 0, 1) := gdX2_tuneToAll_41.1
theorem dX2_tuneToAll_42 : decode cX2_tuneToAll 42 = .ok (.iaload, 1) := gdX2_tuneToAll_41.2.1
theorem dX2_tuneToAll_43 : decode cX2_tuneToAll 43 = .ok (.if_icmp .ge 36, 3) := gdX2_tuneToAll_41.2.2.1
theorem dX2_tuneToAll_79 : decode cX2_tuneToAll 79 = .ok (.iinc 5 1, 3) := gdX2_tuneToAll_41.2.2.2.1
theorem dX2_tuneToAll_82 : decode cX2_tuneToAll 82 = .ok (.goto (-67), 3) := gdX2_tuneToAll_41.2.2.2.2.1
theorem dX2_tuneToAll_46 : decode cX2_tuneToAll 46 = .ok (.aload_n 0, 1) := gdX2_tuneToAll_41.2.2.2.2.2.1
theorem dX2_tuneToAll_47 : decode cX2_tuneToAll 47 = .ok (.aload_n 1, 1) := gdX2_tuneToAll_41.2.2.2.2.2.2.1
theorem dX2_tuneToAll_48 : decode cX2_tuneToAll 48 = .ok (.aload_n 2, 1) := gdX2_tuneToAll_41.2.2.2.2.2.2.2.1
theorem dX2_tuneToAll_49 : decode cX2_tuneToAll 49 = .ok (.iload 6, 2) := gdX2_tuneToAll_41.2.2.2.2.2.2.2.2.1
theorem dX2_tuneToAll_51 : decode cX2_tuneToAll 51 = .ok (.iload 5, 2) := gdX2_tuneToAll_41.2.2.2.2.2.2.2.2.2.1
theorem dX2_tuneToAll_53 : decode cX2_tuneToAll 53 = .ok (.invokevirtual 37, 3) := gdX2_tuneToAll_41.2.2.2.2.2.2.2.2.2.2.1
theorem dX2_tuneToAll_56 : decode cX2_tuneToAll 56 = .ok (.ifCond .eq 17, 3) := gdX2_tuneToAll_41.2.2.2.2.2.2.2.2.2.2.2
theorem gdX2_tuneToAll_73 : decode cX2_tuneToAll 73 = .ok (.iinc 6 1, 3) ∧ decode cX2_tuneToAll 76 = .ok (.goto (-41), 3) ∧ decode cX2_tuneToAll 59 = .ok (.aload_n 0, 1) ∧ decode cX2_tuneToAll 60 = .ok (.getfield 9, 3) ∧ decode cX2_tuneToAll 63 = .ok (.iload 5, 2) ∧ decode cX2_tuneToAll 65 = .ok (.dup2, 1) ∧ decode cX2_tuneToAll 66 = .ok (.iaload, 1) ∧ decode cX2_tuneToAll 67 = .ok (.iconst 1, 1) ∧ decode cX2_tuneToAll 68 = .ok (.iload 6, 2) ∧ decode cX2_tuneToAll 70 = .ok (.ishl, 1) ∧ decode cX2_tuneToAll 71 = .ok (.ior, 1) ∧ decode cX2_tuneToAll 72 = .ok (.iastore, 1) := by decide +kernel
theorem dX2_tuneToAll_73 : decode cX2_tuneToAll 73 = .ok (.iinc 6 1, 3) := gdX2_tuneToAll_73.1
theorem dX2_tuneToAll_76 : decode cX2_tuneToAll 76 = .ok (.goto (-41), 3) := gdX2_tuneToAll_73.2.1
theorem dX2_tuneToAll_59 : decode cX2_tuneToAll 59 = .ok (.aload_n 0, 1) := gdX2_tuneToAll_73.2.2.1
theorem dX2_tuneToAll_60 : decode cX2_tuneToAll 60 = .ok (.getfield 9, 3) := gdX2_tuneToAll_73.2.2.2.1
theorem dX2_tuneToAll_63 : decode cX2_tuneToAll 63 = .ok (.iload 5, 2) := gdX2_tuneToAll_73.2.2.2.2.1
theorem dX2_tuneToAll_65 : decode cX2_tuneToAll 65 = .ok (.dup2, 1) := gdX2_tuneToAll_73.2.2.2.2.2.1
theorem dX2_tuneToAll_66 : decode cX2_tuneToAll 66 = .ok (.iaload, 1) := gdX2_tuneToAll_73.2.2.2.2.2.2.1
theorem dX2_tuneToAll_67 : decode cX2_tuneToAll 67 = .ok (.iconst 1, 1) := gdX2_tuneToAll_73.2.2.2.2.2.2.2.1
theorem dX2_tuneToAll_68 : decode cX2_tuneToAll 68 = .ok (.iload 6, 2) := gdX2_tuneToAll_73.2.2.2.2.2.2.2.2.1
theorem dX2_tuneToAll_70 : decode cX2_tuneToAll 70 = .ok (.ishl, 1) := gdX2_tuneToAll_73.2.2.2.2.2.2.2.2.2.1
theorem dX2_tuneToAll_71 : decode cX2_tuneToAll 71 = .ok (.ior, 1) := gdX2_tuneToAll_73.2.2.2.2.2.2.2.2.2.2.1
theorem dX2_tuneToAll_72 : decode cX2_tuneToAll 72 = .ok (.iastore, 1) := gdX2_tuneToAll_73.2.2.2.2.2.2.2.2.2.2.2
set_option maxHeartbeats 1000000 in
set_option maxRecDepth 100000 in
theorem s_tuneToAll (l : Launch) (D : va_G) (cy : Nat → ClassId) (e0 : Nat) (e1 : Nat) (e2 : Nat) (et : Int32) (el : Int32) (ef : Int32) (fg : Nat → Int32) (ff : Nat → Int32) (h0 : Nat) (h1 : Nat) (h2 : Nat) (h3 : Nat) (h4 : Nat) (h5 : Nat) (h6 : Nat) (h7 : Nat) (h8 : Nat) (h9 : Nat) (h10 : Nat) (h11 : Nat) (hv0 : Value) (hv1 : Value) (hv2 : Value) (hv3 : Value) (hv4 : Value) (fp : Nat → Int32) (flo : Nat → Int32) (h9a : Nat) (h9b : Nat) (nb : Nat) (tb : Int32) (fcb : Nat → Int32) (fsb : Nat → Int32) (h11a : Nat) (h11b : Nat) (nt : Nat) (tt : Int32) (fct : Nat → Int32) (fst : Nat → Int32) (h10a : Nat) (h10b : Nat) (nl : Nat) (tl : Int32) (fcl : Nat → Int32) (fsl : Nat → Int32) (fc : Nat → Int32) (c0 : Nat) (c1 : Nat) (c2 : Nat) (c3 : Nat) (s0 : Nat) (s1 : Nat) (s2 : Nat) (sl : Nat) (spl : Int32) (svo : Int32) (swi : Int32) (sch : Int32) (fsn : Nat → Int32) (j : Nat) (mm : Nat) (hnb : nb ≤ 280) (hcb : cOK fcb nb) (hnt : nt ≤ 280) (hct : cOK fct nt) (hnl : nl ≤ 280) (hcl : cOK fcl nl) (hcn : cntOK fc c0 c1 c2 c3) (hc0 : c0 ≤ 8) (hc1 : c1 ≤ 4) (hc2 : c2 ≤ 4) (hc3 : c3 ≤ 6) (hj : j < 4) (hm : mm ≤ 10) : XMv l D (tyL cy) E0 yX2_tuneToAll cX2_tuneToAll 7 none (rmk 4 0 0) [.ref e0, .ref h0, .ref s0, .int (nI j), .int (nI mm)] [wO e0 2 [.ref e1, .ref e2, .int et, .int el, .int ef], wI (cy 1) e1 10 (fg), wI (cy 1) e2 7 (ff), wO h0 4 [.ref h1, .ref h2, .ref h3, .ref h4, .ref h5, .ref h6, .ref h7, .ref h8, .ref h9, .ref h10, .ref h11, hv0, hv1, hv2, hv3, hv4], wI (cy 1) h3 4 (fp), wI (cy 1) h2 8 (flo), wO h9 3 [.ref h9a, .ref h9b, .int (nI nb), .int tb], wI (cy 1) h9a 280 (fcb), wI (cy 1) h9b 31 (fsb), wO h11 3 [.ref h11a, .ref h11b, .int (nI nt), .int tt], wI (cy 1) h11a 280 (fct), wI (cy 1) h11b 31 (fst), wO h10 3 [.ref h10a, .ref h10b, .int (nI nl), .int tl], wI (cy 1) h10a 280 (fcl), wI (cy 1) h10b 31 (fsl), wI (cy 1) h1 4 (fc), wO s0 7 [.ref s1, .ref s2, .int (nI sl), .int spl, .int svo, .int swi, .int sch], wI (cy 1) s2 4 (fsn)] (fun (u : Nat × Int32 × (Nat → Int32) × (Nat → Int32) × (Nat → Int32) × (Nat → Int32) × (Nat → Int32)) => (u.1 ≤ mm)) (fun (u : Nat × Int32 × (Nat → Int32) × (Nat → Int32) × (Nat → Int32) × (Nat → Int32) × (Nat → Int32)) => [wO e0 2 [.ref e1, .ref e2, .int u.2.1, .int (nI mm), .int (nI u.1)], wI (cy 1) e1 10 (u.2.2.1), wI (cy 1) e2 7 (u.2.2.2.1), wO h0 4 [.ref h1, .ref h2, .ref h3, .ref h4, .ref h5, .ref h6, .ref h7, .ref h8, .ref h9, .ref h10, .ref h11, hv0, hv1, hv2, hv3, hv4], wI (cy 1) h3 4 (fp), wI (cy 1) h2 8 (flo), wO h9 3 [.ref h9a, .ref h9b, .int (nI nb), .int tb], wI (cy 1) h9a 280 (fcb), wI (cy 1) h9b 31 (u.2.2.2.2.1), wO h11 3 [.ref h11a, .ref h11b, .int (nI nt), .int tt], wI (cy 1) h11a 280 (fct), wI (cy 1) h11b 31 (u.2.2.2.2.2.1), wO h10 3 [.ref h10a, .ref h10b, .int (nI nl), .int tl], wI (cy 1) h10a 280 (fcl), wI (cy 1) h10b 31 (u.2.2.2.2.2.2), wI (cy 1) h1 4 (fc), wO s0 7 [.ref s1, .ref s2, .int (nI sl), .int spl, .int svo, .int swi, .int sch], wI (cy 1) s2 4 (fsn)]) := by
  refine XMv.start (by decide) (Nat.le_of_ble_eq_true rfl) ?_
  intro p e s m below meth c args A ls Q hat hQ
  obtain ⟨hx, hb, hr, hml, hown, hg, hlocks, hin, hK, hA, hP, hD, hS, hE, hl⟩ := hat
  have hown : s.vm.findClass RX2 = some m.cls := hown
  have hl : lv_has ls 7 [(0, .ref e0), (1, .ref h0), (2, .ref s0), (3, .int (nI j)), (4, .int (nI mm))] := hl
  refine lv_aload_n hx hb dX2_tuneToAll_0 rfl (lv_at hl 0 rfl) ?_
  refine lv_aload_n hx hb dX2_tuneToAll_1 rfl (lv_at hl 1 rfl) ?_
  refine lv_aload_n hx hb dX2_tuneToAll_2 rfl (lv_at hl 2 rfl) ?_
  refine lv_iload_n hx hb dX2_tuneToAll_3 rfl (lv_at hl 3 rfl) ?_
  refine lv_iload hx hb dX2_tuneToAll_4 (lv_at hl 4 rfl) ?_
  refine x_callVv (q := (RX2, TX2, 5)) (ci := 2) (q0 := 0) (wr := [wI (cy 1) h2 8 (flo), wO h10 3 [.ref h10a, .ref h10b, .int (nI nl), .int tl], wI (cy 1) h10a 280 (fcl), wI (cy 1) h10b 31 (fsl), wI (cy 1) h1 4 (fc)]) (rest := []) ⟨hx, hb, hml, hown, hg, hl.1⟩ k_X2_26 (s_place l D cy e0 e1 e2 et el ef fg ff h0 h1 h2 h3 h4 h5 h6 h7 h8 h9 h10 h11 hv0 hv1 hv2 hv3 hv4 fp h9a h9b nb tb fcb fsb h11a h11b nt tt fct fst s0 s1 s2 sl spl svo swi sch fsn j mm (by omega) (hcb) (by omega) (hct) (by omega) (by omega)) E0_blind hK hP hD hS hA [0, 1, 2, 3, 4, 6, 7, 8, 9, 10, 11, 16, 17] [5, 12, 13, 14, 15] ⟨rfl, rfl, by decide +kernel, by decide +kernel, by decide +kernel⟩ rfl rfl (fun _ _ _ => trivial) dX2_tuneToAll_6 rfl rfl (Nat.le_of_ble_eq_true rfl) ⟨Nat.le_of_ble_eq_true rfl, Nat.le_of_ble_eq_true rfl⟩ ⟨Nat.le_of_ble_eq_true rfl, Nat.le_of_ble_eq_true rfl⟩ (fun zu1 H locs hw1 hP9 hD9 hS9 => ?_)
  clear hP hD hS
  obtain ⟨k_2, tu_3, fg2_4, ff2_5, fsb2_6, fst2_7⟩ := zu1
  refine reW [wI (cy 1) h2 8 (flo), wO h10 3 [.ref h10a, .ref h10b, .int (nI nl), .int tl], wI (cy 1) h10a 280 (fcl), wI (cy 1) h10b 31 (fsl), wI (cy 1) h1 4 (fc), wO e0 2 [.ref e1, .ref e2, .int tu_3, .int (nI mm), .int (nI k_2)], wI (cy 1) e1 10 (fg2_4), wI (cy 1) e2 7 (ff2_5), wO h0 4 [.ref h1, .ref h2, .ref h3, .ref h4, .ref h5, .ref h6, .ref h7, .ref h8, .ref h9, .ref h10, .ref h11, hv0, hv1, hv2, hv3, hv4], wI (cy 1) h3 4 (fp), wO h9 3 [.ref h9a, .ref h9b, .int (nI nb), .int tb], wI (cy 1) h9a 280 (fcb), wI (cy 1) h9b 31 (fsb2_6), wO h11 3 [.ref h11a, .ref h11b, .int (nI nt), .int tt], wI (cy 1) h11a 280 (fct), wI (cy 1) h11b 31 (fst2_7), wO s0 7 [.ref s1, .ref s2, .int (nI sl), .int spl, .int svo, .int swi, .int sch], wI (cy 1) s2 4 (fsn)] hP9 hD9 hS9 (fun hP hD hS => ?_)
  clear hP9 hD9 hS9
  refine W.widen (k := 0) (n := 0) (Nat.le_of_ble_eq_true rfl) (Nat.le_of_ble_eq_true rfl) ?_
  replace hw1 : (k_2 ≤ mm) := hw1
  have f_8 := hw1
  refine lv_aload_n hx hb dX2_tuneToAll_9 rfl (lv_at hl 0 rfl) ?_
  refine va_get (D := D) (ci := 2) (v := .int (nI k_2)) (C := RX2) (T := TX2) (N := 5) hx hb hg i_X2 hown hK hP 5 rfl rfl 4 (by decide) (hg _ m_519) (fun _ h9 => h9) rfl dX2_tuneToAll_10 ?_
  refine lv_istore (lv' := [(5, .int (nI k_2)), (0, .ref e0), (1, .ref h0), (2, .ref s0), (3, .int (nI j)), (4, .int (nI mm))]) hx hb dX2_tuneToAll_13 hl (by decide) rfl (fun ls hl => ?_)
  have loop9 : ∀ (zn : Nat) (i9 : Nat) (fa1_9 : Nat → Int32) (fa2_9 : Nat → Int32) (fa3_9 : Nat → Int32), (i9 ≤ 10) → 10 - i9 + 1 ≤ zn → ∀ (H : Heap) (locs : List Loc), va_P D vwCl [wI (cy 1) h2 8 (flo), wO h10 3 [.ref h10a, .ref h10b, .int (nI nl), .int tl], wI (cy 1) h10a 280 (fcl), wI (cy 1) h10b 31 (fa3_9), wI (cy 1) h1 4 (fc), wO e0 2 [.ref e1, .ref e2, .int tu_3, .int (nI mm), .int (nI k_2)], wI (cy 1) e1 10 (fa1_9), wI (cy 1) e2 7 (fa2_9), wO h0 4 [.ref h1, .ref h2, .ref h3, .ref h4, .ref h5, .ref h6, .ref h7, .ref h8, .ref h9, .ref h10, .ref h11, hv0, hv1, hv2, hv3, hv4], wI (cy 1) h3 4 (fp), wO h9 3 [.ref h9a, .ref h9b, .int (nI nb), .int tb], wI (cy 1) h9a 280 (fcb), wI (cy 1) h9b 31 (fsb2_6), wO h11 3 [.ref h11a, .ref h11b, .int (nI nt), .int tt], wI (cy 1) h11a 280 (fct), wI (cy 1) h11b 31 (fst2_7), wO s0 7 [.ref s1, .ref s2, .int (nI sl), .int spl, .int svo, .int swi, .int sch], wI (cy 1) s2 4 (fsn)] H → va_D A [wI (cy 1) h2 8 (flo), wO h10 3 [.ref h10a, .ref h10b, .int (nI nl), .int tl], wI (cy 1) h10a 280 (fcl), wI (cy 1) h10b 31 (fa3_9), wI (cy 1) h1 4 (fc), wO e0 2 [.ref e1, .ref e2, .int tu_3, .int (nI mm), .int (nI k_2)], wI (cy 1) e1 10 (fa1_9), wI (cy 1) e2 7 (fa2_9), wO h0 4 [.ref h1, .ref h2, .ref h3, .ref h4, .ref h5, .ref h6, .ref h7, .ref h8, .ref h9, .ref h10, .ref h11, hv0, hv1, hv2, hv3, hv4], wI (cy 1) h3 4 (fp), wO h9 3 [.ref h9a, .ref h9b, .int (nI nb), .int tb], wI (cy 1) h9a 280 (fcb), wI (cy 1) h9b 31 (fsb2_6), wO h11 3 [.ref h11a, .ref h11b, .int (nI nt), .int tt], wI (cy 1) h11a 280 (fct), wI (cy 1) h11b 31 (fst2_7), wO s0 7 [.ref s1, .ref s2, .int (nI sl), .int spl, .int svo, .int swi, .int sch], wI (cy 1) s2 4 (fsn)] → va_S A s.heap H locs → ∀ ls : Array Slot, lv_has ls 7 [(5, .int (nI i9)), (0, .ref e0), (1, .ref h0), (2, .ref s0), (3, .int (nI j)), (4, .int (nI mm))] → W p l e (rmk 4 0 0) s m args below meth c H locs 0 0 Q (F0 m 15 ls []) := by
    try clear hP hD hS
    intro zn
    induction zn with
    | zero => intro i9 fa1_9 fa2_9 fa3_9 _ hz; exact absurd hz (by omega)
    | succ zn ih9 =>
      intro i9 fa1_9 fa2_9 fa3_9 hf0_9 hmu9 H locs hP hD hS ls hl
      refine lv_iload hx hb dX2_tuneToAll_15 (lv_at hl 0 rfl) ?_
      refine lv_aload_n hx hb dX2_tuneToAll_17 rfl (lv_at hl 1 rfl) ?_
      refine va_get (D := D) (ci := 2) (v := .int (nI mm)) (C := RX2) (T := TX2) (N := 5) hx hb hg i_X2 hown hK hP 5 rfl rfl 3 (by decide) (hg _ m_518) (fun _ h9 => h9) rfl dX2_tuneToAll_18 ?_
      refine lv_icmp_ge (tgt := 85) hx hb dX2_tuneToAll_21 (by decide) (fun c_10 => ?_) (fun c_10 => ?_)
      · have q_11 : mm ≤ i9 := q_le (a := mm) (b := i9) rfl rfl (by omega) (by omega) c_10
        exact x_vret hQ hx hb hr hlocks hK hP hD hS dX2_tuneToAll_85 (k_2, tu_3, fa1_9, fa2_9, fsb2_6, fst2_7, fa3_9) ((show k_2 ≤ mm from by omega)) [5, 6, 7, 8, 9, 0, 10, 11, 12, 13, 14, 15, 1, 2, 3, 4, 16, 17] (by decide +kernel) rfl (Nat.le_of_ble_eq_true rfl) (Nat.le_of_ble_eq_true rfl)
      · have q_11 : i9 < mm := q_nle (a := mm) (b := i9) rfl rfl (by omega) (by omega) c_10
        refine lv_aload_n hx hb dX2_tuneToAll_24 rfl (lv_at hl 1 rfl) ?_
        refine va_get (D := D) (ci := 2) (v := .ref e1) (C := RX2) (T := TX2) (N := 5) hx hb hg i_X2 hown hK hP 5 rfl rfl 0 (by decide) (hg _ m_512) (fun _ h9 => h9) rfl dX2_tuneToAll_25 ?_
        refine lv_iload hx hb dX2_tuneToAll_28 (lv_at hl 0 rfl) ?_
        refine lv_iconst (v := 0) hx hb dX2_tuneToAll_30 (by decide) ?_
        refine va_iast hx hb hK hP hD hS 6 1 rfl rfl (vp_in_nI (by omega) (by decide)) dX2_tuneToAll_31 (fun H locs hP9 hD9 hS9 => ?_)
        clear hP hD hS
        obtain ⟨g_12, eg_12⟩ : ∃ y, upd fa1_9 (nI i9 : Int32).toNatClampNeg 0 = y := ⟨_, rfl⟩
        rw [eg_12] at hP9 hD9
        refine reW [wI (cy 1) h2 8 (flo), wO h10 3 [.ref h10a, .ref h10b, .int (nI nl), .int tl], wI (cy 1) h10a 280 (fcl), wI (cy 1) h10b 31 (fa3_9), wI (cy 1) h1 4 (fc), wO e0 2 [.ref e1, .ref e2, .int tu_3, .int (nI mm), .int (nI k_2)], wI (cy 1) e1 10 (g_12), wI (cy 1) e2 7 (fa2_9), wO h0 4 [.ref h1, .ref h2, .ref h3, .ref h4, .ref h5, .ref h6, .ref h7, .ref h8, .ref h9, .ref h10, .ref h11, hv0, hv1, hv2, hv3, hv4], wI (cy 1) h3 4 (fp), wO h9 3 [.ref h9a, .ref h9b, .int (nI nb), .int tb], wI (cy 1) h9a 280 (fcb), wI (cy 1) h9b 31 (fsb2_6), wO h11 3 [.ref h11a, .ref h11b, .int (nI nt), .int tt], wI (cy 1) h11a 280 (fct), wI (cy 1) h11b 31 (fst2_7), wO s0 7 [.ref s1, .ref s2, .int (nI sl), .int spl, .int svo, .int swi, .int sch], wI (cy 1) s2 4 (fsn)] hP9 hD9 hS9 (fun hP hD hS => ?_)
        clear hP9 hD9 hS9
        refine lv_iconst (v := 0) hx hb dX2_tuneToAll_32 (by decide) ?_
        refine lv_istore (lv' := [(6, .int 0), (5, .int (nI i9)), (0, .ref e0), (1, .ref h0), (2, .ref s0), (3, .int (nI j)), (4, .int (nI mm))]) hx hb dX2_tuneToAll_33 hl (by decide) rfl (fun ls hl => ?_)
        have loop13 : ∀ (zn : Nat) (wd13 : Nat) (fa1_13 : Nat → Int32) (fa2_13 : Nat → Int32) (fa3_13 : Nat → Int32), (wd13 ≤ c0) → c0 - wd13 + 1 ≤ zn → ∀ (H : Heap) (locs : List Loc), va_P D vwCl [wI (cy 1) h2 8 (flo), wO h10 3 [.ref h10a, .ref h10b, .int (nI nl), .int tl], wI (cy 1) h10a 280 (fcl), wI (cy 1) h10b 31 (fa3_13), wI (cy 1) h1 4 (fc), wO e0 2 [.ref e1, .ref e2, .int tu_3, .int (nI mm), .int (nI k_2)], wI (cy 1) e1 10 (fa1_13), wI (cy 1) e2 7 (fa2_13), wO h0 4 [.ref h1, .ref h2, .ref h3, .ref h4, .ref h5, .ref h6, .ref h7, .ref h8, .ref h9, .ref h10, .ref h11, hv0, hv1, hv2, hv3, hv4], wI (cy 1) h3 4 (fp), wO h9 3 [.ref h9a, .ref h9b, .int (nI nb), .int tb], wI (cy 1) h9a 280 (fcb), wI (cy 1) h9b 31 (fsb2_6), wO h11 3 [.ref h11a, .ref h11b, .int (nI nt), .int tt], wI (cy 1) h11a 280 (fct), wI (cy 1) h11b 31 (fst2_7), wO s0 7 [.ref s1, .ref s2, .int (nI sl), .int spl, .int svo, .int swi, .int sch], wI (cy 1) s2 4 (fsn)] H → va_D A [wI (cy 1) h2 8 (flo), wO h10 3 [.ref h10a, .ref h10b, .int (nI nl), .int tl], wI (cy 1) h10a 280 (fcl), wI (cy 1) h10b 31 (fa3_13), wI (cy 1) h1 4 (fc), wO e0 2 [.ref e1, .ref e2, .int tu_3, .int (nI mm), .int (nI k_2)], wI (cy 1) e1 10 (fa1_13), wI (cy 1) e2 7 (fa2_13), wO h0 4 [.ref h1, .ref h2, .ref h3, .ref h4, .ref h5, .ref h6, .ref h7, .ref h8, .ref h9, .ref h10, .ref h11, hv0, hv1, hv2, hv3, hv4], wI (cy 1) h3 4 (fp), wO h9 3 [.ref h9a, .ref h9b, .int (nI nb), .int tb], wI (cy 1) h9a 280 (fcb), wI (cy 1) h9b 31 (fsb2_6), wO h11 3 [.ref h11a, .ref h11b, .int (nI nt), .int tt], wI (cy 1) h11a 280 (fct), wI (cy 1) h11b 31 (fst2_7), wO s0 7 [.ref s1, .ref s2, .int (nI sl), .int spl, .int svo, .int swi, .int sch], wI (cy 1) s2 4 (fsn)] → va_S A s.heap H locs → ∀ ls : Array Slot, lv_has ls 7 [(6, .int (nI wd13)), (5, .int (nI i9)), (0, .ref e0), (1, .ref h0), (2, .ref s0), (3, .int (nI j)), (4, .int (nI mm))] → W p l e (rmk 4 0 0) s m args below meth c H locs 0 0 Q (F0 m 35 ls []) := by
          try clear hP hD hS
          intro zn
          induction zn with
          | zero => intro wd13 fa1_13 fa2_13 fa3_13 _ hz; exact absurd hz (by omega)
          | succ zn ih13 =>
            intro wd13 fa1_13 fa2_13 fa3_13 hf0_13 hmu13 H locs hP hD hS ls hl
            refine lv_iload hx hb dX2_tuneToAll_35 (lv_at hl 0 rfl) ?_
            refine lv_aload_n hx hb dX2_tuneToAll_37 rfl (lv_at hl 3 rfl) ?_
            refine va_get (D := D) (ci := 4) (v := .ref h1) (C := RX4) (T := TX4) (N := 16) hx hb hg i_X4 hown hK hP 8 rfl rfl 0 (by decide) (hg _ m_334) (fun _ h9 => h9) rfl dX2_tuneToAll_38 ?_
            refine lv_iconst (v := 0) hx hb dX2_tuneToAll_41 (by decide) ?_
            refine va_iald hx hb hK hP 4 1 rfl rfl (by unfold vp_in; decide) dX2_tuneToAll_42 ?_
            refine lv_topi (fun y_14 hy_14 => ?_)
            obtain rfl : y_14 = nI c0 := hy_14.trans hcn.1
            refine lv_icmp_ge (tgt := 79) hx hb dX2_tuneToAll_43 (by decide) (fun c_15 => ?_) (fun c_15 => ?_)
            · have q_16 : c0 ≤ wd13 := q_le (a := c0) (b := wd13) rfl rfl (by omega) (by omega) c_15
              refine lv_iinc (v := nI (i9 + 1)) (lv' := [(5, .int (nI (i9 + 1))), (6, .int (nI wd13)), (0, .ref e0), (1, .ref h0), (2, .ref s0), (3, .int (nI j)), (4, .int (nI mm))]) hx hb dX2_tuneToAll_79 hl (k := 1) rfl (nI_add i9 1) (by decide) rfl (fun ls hl => ?_)
              refine lv_goto (tgt := 15) hx hb dX2_tuneToAll_82 (by decide) ?_
              exact ih9  ((i9 + 1)) fa1_13 fa2_13 fa3_13 (by omega) (by omega) _ _ (hP.sub [0, 1, 2, 3, 4, 5, 6, 7, 8, 9, 10, 11, 12, 13, 14, 15, 16, 17] rfl) (hD.sub [0, 1, 2, 3, 4, 5, 6, 7, 8, 9, 10, 11, 12, 13, 14, 15, 16, 17] (by decide +kernel) rfl) hS ls (lv_sub hl [0, 2, 3, 4, 5, 6] rfl)
            · have q_16 : wd13 < c0 := q_nle (a := c0) (b := wd13) rfl rfl (by omega) (by omega) c_15
              refine lv_aload_n hx hb dX2_tuneToAll_46 rfl (lv_at hl 2 rfl) ?_
              refine lv_aload_n hx hb dX2_tuneToAll_47 rfl (lv_at hl 3 rfl) ?_
              refine lv_aload_n hx hb dX2_tuneToAll_48 rfl (lv_at hl 4 rfl) ?_
              refine lv_iload hx hb dX2_tuneToAll_49 (lv_at hl 0 rfl) ?_
              refine lv_iload hx hb dX2_tuneToAll_51 (lv_at hl 1 rfl) ?_
              refine x_callVi (q := (RX2, TX2, 5)) (ci := 2) (q0 := 0) (wr := [wI (cy 1) h1 4 (fc), wI (cy 1) e1 10 (fa1_13), wI (cy 1) h3 4 (fp), wO h9 3 [.ref h9a, .ref h9b, .int (nI nb), .int tb], wI (cy 1) h9a 280 (fcb), wI (cy 1) h9b 31 (fsb2_6), wO h11 3 [.ref h11a, .ref h11b, .int (nI nt), .int tt], wI (cy 1) h11a 280 (fct), wI (cy 1) h11b 31 (fst2_7), wI (cy 1) s2 4 (fsn)]) (rest := []) ⟨hx, hb, hml, hown, hg, hl.1⟩ k_X2_37 (s_isLost l D cy e0 e1 e2 tu_3 mm k_2 fa2_13 h0 h1 h2 h3 h4 h5 h6 h7 h8 h9 h10 h11 hv0 hv1 hv2 hv3 hv4 flo h10a h10b nl tl fcl fa3_13 s0 s1 s2 sl spl svo swi sch wd13 i9 (by omega) (hcl) (by omega)) E0_blind hK hP hD hS hA [5, 7, 8, 0, 1, 2, 3, 16] [4, 6, 9, 10, 11, 12, 13, 14, 15, 17] ⟨rfl, rfl, by decide +kernel, by decide +kernel, by decide +kernel⟩ rfl rfl (fun _ _ _ => trivial) dX2_tuneToAll_53 rfl rfl (Nat.le_of_ble_eq_true rfl) ⟨Nat.le_of_ble_eq_true rfl, Nat.le_of_ble_eq_true rfl⟩ ⟨Nat.le_of_ble_eq_true rfl, Nat.le_of_ble_eq_true rfl⟩ (fun zr17 zu17 H locs hw17 hP9 hD9 hS9 => ?_)
              clear hP hD hS
              obtain ⟨ff2_18, fsl2_19⟩ := zu17
              refine reW [wI (cy 1) h1 4 (fc), wI (cy 1) e1 10 (fa1_13), wI (cy 1) h3 4 (fp), wO h9 3 [.ref h9a, .ref h9b, .int (nI nb), .int tb], wI (cy 1) h9a 280 (fcb), wI (cy 1) h9b 31 (fsb2_6), wO h11 3 [.ref h11a, .ref h11b, .int (nI nt), .int tt], wI (cy 1) h11a 280 (fct), wI (cy 1) h11b 31 (fst2_7), wI (cy 1) s2 4 (fsn), wO e0 2 [.ref e1, .ref e2, .int tu_3, .int (nI mm), .int (nI k_2)], wI (cy 1) e2 7 (ff2_18), wO h0 4 [.ref h1, .ref h2, .ref h3, .ref h4, .ref h5, .ref h6, .ref h7, .ref h8, .ref h9, .ref h10, .ref h11, hv0, hv1, hv2, hv3, hv4], wI (cy 1) h2 8 (flo), wO h10 3 [.ref h10a, .ref h10b, .int (nI nl), .int tl], wI (cy 1) h10a 280 (fcl), wI (cy 1) h10b 31 (fsl2_19), wO s0 7 [.ref s1, .ref s2, .int (nI sl), .int spl, .int svo, .int swi, .int sch]] hP9 hD9 hS9 (fun hP hD hS => ?_)
              clear hP9 hD9 hS9
              refine W.widen (k := 0) (n := 0) (Nat.le_of_ble_eq_true rfl) (Nat.le_of_ble_eq_true rfl) ?_
              replace hw17 : (zr17 = 0 ∨ zr17 = 1) := hw17
              have f_20 := hw17
              refine lv_if_eq (tgt := 73) hx hb dX2_tuneToAll_56 (by decide) (fun c_56 => ?_) (fun c_56 => ?_)
              · refine lv_iinc (v := nI (wd13 + 1)) (lv' := [(6, .int (nI (wd13 + 1))), (5, .int (nI i9)), (0, .ref e0), (1, .ref h0), (2, .ref s0), (3, .int (nI j)), (4, .int (nI mm))]) hx hb dX2_tuneToAll_73 hl (k := 0) rfl (nI_add wd13 1) (by decide) rfl (fun ls hl => ?_)
                refine lv_goto (tgt := 35) hx hb dX2_tuneToAll_76 (by decide) ?_
                exact ih13  ((wd13 + 1)) fa1_13 ff2_18 fsl2_19 (by omega) (by omega) _ _ (hP.sub [13, 14, 15, 16, 0, 10, 1, 11, 12, 2, 3, 4, 5, 6, 7, 8, 17, 9] rfl) (hD.sub [13, 14, 15, 16, 0, 10, 1, 11, 12, 2, 3, 4, 5, 6, 7, 8, 17, 9] (by decide +kernel) rfl) hS ls (lv_sub hl [0, 1, 2, 3, 4, 5, 6] rfl)
              · refine lv_aload_n hx hb dX2_tuneToAll_59 rfl (lv_at hl 2 rfl) ?_
                refine va_get (D := D) (ci := 2) (v := .ref e1) (C := RX2) (T := TX2) (N := 5) hx hb hg i_X2 hown hK hP 10 rfl rfl 0 (by decide) (hg _ m_512) (fun _ h9 => h9) rfl dX2_tuneToAll_60 ?_
                refine lv_iload hx hb dX2_tuneToAll_63 (lv_at hl 1 rfl) ?_
                refine lv_dup2_11 hx hb dX2_tuneToAll_65 rfl rfl ?_
                refine va_iald hx hb hK hP 1 1 rfl rfl (vp_in_nI (by omega) (by decide)) dX2_tuneToAll_66 ?_
                refine lv_topi (fun x_21 ex_21 => ?_)
                refine lv_iconst (v := 1) hx hb dX2_tuneToAll_67 (by decide) ?_
                refine lv_iload hx hb dX2_tuneToAll_68 (lv_at hl 0 rfl) ?_
                refine lv_ishl hx hb dX2_tuneToAll_70 ?_
                refine lv_topi (fun x_22 ex_22 => ?_)
                refine lv_ior hx hb dX2_tuneToAll_71 ?_
                refine lv_topi (fun x_23 ex_23 => ?_)
                refine va_iast hx hb hK hP hD hS 1 1 rfl rfl (vp_in_nI (by omega) (by decide)) dX2_tuneToAll_72 (fun H locs hP9 hD9 hS9 => ?_)
                clear hP hD hS
                obtain ⟨g_24, eg_24⟩ : ∃ y, upd fa1_13 (nI i9 : Int32).toNatClampNeg x_23 = y := ⟨_, rfl⟩
                rw [eg_24] at hP9 hD9
                refine reW [wI (cy 1) h1 4 (fc), wI (cy 1) e1 10 (g_24), wI (cy 1) h3 4 (fp), wO h9 3 [.ref h9a, .ref h9b, .int (nI nb), .int tb], wI (cy 1) h9a 280 (fcb), wI (cy 1) h9b 31 (fsb2_6), wO h11 3 [.ref h11a, .ref h11b, .int (nI nt), .int tt], wI (cy 1) h11a 280 (fct), wI (cy 1) h11b 31 (fst2_7), wI (cy 1) s2 4 (fsn), wO e0 2 [.ref e1, .ref e2, .int tu_3, .int (nI mm), .int (nI k_2)], wI (cy 1) e2 7 (ff2_18), wO h0 4 [.ref h1, .ref h2, .ref h3, .ref h4, .ref h5, .ref h6, .ref h7, .ref h8, .ref h9, .ref h10, .ref h11, hv0, hv1, hv2, hv3, hv4], wI (cy 1) h2 8 (flo), wO h10 3 [.ref h10a, .ref h10b, .int (nI nl), .int tl], wI (cy 1) h10a 280 (fcl), wI (cy 1) h10b 31 (fsl2_19), wO s0 7 [.ref s1, .ref s2, .int (nI sl), .int spl, .int svo, .int swi, .int sch]] hP9 hD9 hS9 (fun hP hD hS => ?_)
                clear hP9 hD9 hS9
                refine lv_iinc (v := nI (wd13 + 1)) (lv' := [(6, .int (nI (wd13 + 1))), (5, .int (nI i9)), (0, .ref e0), (1, .ref h0), (2, .ref s0), (3, .int (nI j)), (4, .int (nI mm))]) hx hb dX2_tuneToAll_73 hl (k := 0) rfl (nI_add wd13 1) (by decide) rfl (fun ls hl => ?_)
                refine lv_goto (tgt := 35) hx hb dX2_tuneToAll_76 (by decide) ?_
                exact ih13  ((wd13 + 1)) g_24 ff2_18 fsl2_19 (by omega) (by omega) _ _ (hP.sub [13, 14, 15, 16, 0, 10, 1, 11, 12, 2, 3, 4, 5, 6, 7, 8, 17, 9] rfl) (hD.sub [13, 14, 15, 16, 0, 10, 1, 11, 12, 2, 3, 4, 5, 6, 7, 8, 17, 9] (by decide +kernel) rfl) hS ls (lv_sub hl [0, 1, 2, 3, 4, 5, 6] rfl)
        exact loop13 _ 0 g_12 fa2_9 fa3_9 (by omega) (Nat.le_refl _) _ _ (hP.sub [0, 1, 2, 3, 4, 5, 6, 7, 8, 9, 10, 11, 12, 13, 14, 15, 16, 17] rfl) (hD.sub [0, 1, 2, 3, 4, 5, 6, 7, 8, 9, 10, 11, 12, 13, 14, 15, 16, 17] (by decide +kernel) rfl) hS ls (lv_sub hl [0, 1, 2, 3, 4, 5, 6] rfl)
  exact loop9 _ k_2 fg2_4 ff2_5 fsl (by omega) (Nat.le_refl _) _ _ (hP.sub [0, 1, 2, 3, 4, 5, 6, 7, 8, 9, 10, 11, 12, 13, 14, 15, 16, 17] rfl) (hD.sub [0, 1, 2, 3, 4, 5, 6, 7, 8, 9, 10, 11, 12, 13, 14, 15, 16, 17] (by decide +kernel) rfl) hS ls (lv_sub hl [0, 1, 2, 3, 4, 5] rfl)
theorem gdX2_send_0 : decode cX2_send 0 = .ok (.iload_n 3, 1) ∧ decode cX2_send 1 = .ok (.istore 4, 2) ∧ decode cX2_send 3 = .ok (.iconst 0, 1) ∧ decode cX2_send 4 = .ok (.istore 5, 2) ∧ decode cX2_send 6 = .ok (.iload 5, 2) ∧ decode cX2_send 8 = .ok (.aload_n 0, 1) ∧ decode cX2_send 9 = .ok (.getfield 33, 3) ∧ decode cX2_send 12 = .ok (.if_icmp .ge 48, 3) ∧ decode cX2_send 60 = .ok (.iload 4, 2) ∧ decode cX2_send 62 = .ok (.ireturn, 1) ∧ decode cX2_send 15 = .ok (.aload_n 0, 1) ∧ decode cX2_send 16 = .ok (.iload 5, 2) := by decide +kernel
theorem dX2_send_0 : decode cX2_send 0 = .ok (.iload_n 3, 1) := gdX2_send_0.1
theorem dX2_send_1 : decode cX2_send 1 = .ok (.istore 4, 2) := gdX2_send_0.2.1
theorem dX2_send_3 : decode cX2_send 3 = .ok (.iconst 0, 1) := gdX2_send_0.2.2.1
theorem dX2_send_4 : decode cX2_send 4 = .ok (.istore 5, 2) := gdX2_send_0.2.2.2.1
theorem dX2_send_6 : decode cX2_send 6 = .ok (.iload 5, 2) := gdX2_send_0.2.2.2.2.1
theorem dX2_send_8 : decode cX2_send 8 = .ok (.aload_n 0, 1) := gdX2_send_0.2.2.2.2.2.1
theorem dX2_send_9 : decode cX2_send 9 = .ok (.getfield 33, 3) := gdX2_send_0.2.2.2.2.2.2.1
theorem dX2_send_12 : decode cX2_send 12 = .ok (.if_icmp .ge 48, 3) := gdX2_send_0.2.2.2.2.2.2.2.1
theorem dX2_send_60 : decode cX2_send 60 = .ok (.iload 4, 2) := gdX2_send_0.2.2.2.2.2.2.2.2.1
theorem dX2_send_62 : decode cX2_send 62 = .ok (.ireturn, 1) := gdX2_send_0.2.2.2.2.2.2.2.2.2.1
theorem dX2_send_15 : decode cX2_send 15 = .ok (.aload_n 0, 1) := gdX2_send_0.2.2.2.2.2.2.2.2.2.2.1
theorem dX2_send_16 : decode cX2_send 16 = .ok (.iload 5, 2) := gdX2_send_0.2.2.2.2.2.2.2.2.2.2.2
theorem dX2_send_18 : decode cX2_send 18 = .ok (.invokevirtual 88, 3) := by decide +kernel
theorem k_X2_88 : xV RX2 RX2 88 yX2_placeOf cX2_placeOf 2 (some .int) 1 := ⟨⟨m_1064, m_1065, m_1066, m_142, m_1067⟩, rfl, by decide, by decide, by decide +kernel⟩
theorem gdX2_send_21 : decode cX2_send 21 = .ok (.istore 6, 2) ∧ decode cX2_send 23 = .ok (.aload_n 0, 1) ∧ decode cX2_send 24 = .ok (.iload 6, 2) ∧ decode cX2_send 26 = .ok (.aload_n 1, 1) ∧ decode cX2_send 27 = .ok (.iload 6, 2) ∧ decode cX2_send 29 = .ok (.iaload, 1) ∧ decode cX2_send 30 = .ok (.invokevirtual 92, 3) := by decide +kernel
theorem dX2_send_21 : decode cX2_send 21 = .ok (.istore 6, 2) := gdX2_send_21.1
theorem dX2_send_23 : decode cX2_send 23 = .ok (.aload_n 0, 1) := gdX2_send_21.2.1
theorem dX2_send_24 : decode cX2_send 24 = .ok (.iload 6, 2) := gdX2_send_21.2.2.1
theorem dX2_send_26 : decode cX2_send 26 = .ok (.aload_n 1, 1) := gdX2_send_21.2.2.2.1
theorem dX2_send_27 : decode cX2_send 27 = .ok (.iload 6, 2) := gdX2_send_21.2.2.2.2.1
theorem dX2_send_29 : decode cX2_send 29 = .ok (.iaload, 1) := gdX2_send_21.2.2.2.2.2.1
theorem dX2_send_30 : decode cX2_send 30 = .ok (.invokevirtual 92, 3) := gdX2_send_21.2.2.2.2.2.2
theorem k_X2_92 : xV RX2 RX2 92 yX2_comesBack cX2_comesBack 3 (some .boolean) 2 := ⟨⟨m_1068, m_1069, m_1070, m_142, m_1071⟩, rfl, by decide, by decide, by decide +kernel⟩
theorem gdX2_send_33 : decode cX2_send 33 = .ok (.ifCond .eq 21, 3) ∧ decode cX2_send 54 = .ok (.iinc 5 1, 3) ∧ decode cX2_send 57 = .ok (.goto (-51), 3) ∧ decode cX2_send 36 = .ok (.iload 4, 2) ∧ decode cX2_send 38 = .ok (.aload_n 2, 1) ∧ decode cX2_send 39 = .ok (.arraylength, 1) ∧ decode cX2_send 40 = .ok (.if_icmp .ge 14, 3) ∧ decode cX2_send 43 = .ok (.aload_n 2, 1) ∧ decode cX2_send 44 = .ok (.iload 4, 2) ∧ decode cX2_send 46 = .ok (.aload_n 1, 1) ∧ decode cX2_send 47 = .ok (.iload 6, 2) ∧ decode cX2_send 49 = .ok (.iaload, 1) := by decide +kernel
theorem dX2_send_33 : decode cX2_send 33 = .ok (.ifCond .eq 21, 3) := gdX2_send_33.1
theorem dX2_send_54 : decode cX2_send 54 = .ok (.iinc 5 1, 3) := gdX2_send_33.2.1
theorem dX2_send_57 : decode cX2_send 57 = .ok (.goto (-51), 3) := gdX2_send_33.2.2.1
theorem dX2_send_36 : decode cX2_send 36 = .ok (.iload 4, 2) := gdX2_send_33.2.2.2.1
theorem dX2_send_38 : decode cX2_send 38 = .ok (.aload_n 2, 1) := gdX2_send_33.2.2.2.2.1
theorem dX2_send_39 : decode cX2_send 39 = .ok (.arraylength, 1) := gdX2_send_33.2.2.2.2.2.1
theorem dX2_send_40 : decode cX2_send 40 = .ok (.if_icmp .ge 14, 3) := gdX2_send_33.2.2.2.2.2.2.1
theorem dX2_send_43 : decode cX2_send 43 = .ok (.aload_n 2, 1) := gdX2_send_33.2.2.2.2.2.2.2.1
theorem dX2_send_44 : decode cX2_send 44 = .ok (.iload 4, 2) := gdX2_send_33.2.2.2.2.2.2.2.2.1
theorem dX2_send_46 : decode cX2_send 46 = .ok (.aload_n 1, 1) := gdX2_send_33.2.2.2.2.2.2.2.2.2.1
theorem dX2_send_47 : decode cX2_send 47 = .ok (.iload 6, 2) := gdX2_send_33.2.2.2.2.2.2.2.2.2.2.1
theorem dX2_send_49 : decode cX2_send 49 = .ok (.iaload, 1) := gdX2_send_33.2.2.2.2.2.2.2.2.2.2.2
theorem dX2_send_50 : decode cX2_send 50 = .ok (.iastore, 1) := by decide +kernel
theorem dX2_send_51 : decode cX2_send 51 = .ok (.iinc 4 1, 3) := by decide +kernel
set_option maxHeartbeats 1000000 in
set_option maxRecDepth 100000 in
theorem s_send (l : Launch) (D : va_G) (cy : Nat → ClassId) (e0 : Nat) (e1 : Nat) (e2 : Nat) (et : Int32) (el : Nat) (ef : Nat) (fg : Nat → Int32) (wo : Nat) (fw : Nat → Int32) (ro : Nat) (fr : Nat → Int32) (cn : Nat) (hel : el ≤ 10) (hsw : rng fw 10 7) (hrw : rng fr 20 7) (hcn : cn ≤ 20) : XMi l D (tyL cy) E0 yX2_send cX2_send 7 (some .int) (rmk 1 0 0) [.ref e0, .ref wo, .ref ro, .int (nI cn)] [wO e0 2 [.ref e1, .ref e2, .int et, .int (nI el), .int (nI ef)], wI (cy 1) e1 10 (fg), wI (cy 1) wo 10 (fw), wI (cy 1) ro 20 (fr)] (fun (r : Int32) (u : (Nat → Int32) × Nat) => (r = nI u.2) ∧ (u.2 ≤ 20) ∧ (u.2 ≤ cn + el) ∧ (rng u.1 20 7)) (fun (u : (Nat → Int32) × Nat) => [wO e0 2 [.ref e1, .ref e2, .int et, .int (nI el), .int (nI ef)], wI (cy 1) e1 10 (fg), wI (cy 1) wo 10 (fw), wI (cy 1) ro 20 (u.1)]) := by
  refine XMi.start (by decide) (Nat.le_of_ble_eq_true rfl) ?_
  intro p e s m below meth c args A ls Q hat hQ
  obtain ⟨hx, hb, hr, hml, hown, hg, hlocks, hin, hK, hA, hP, hD, hS, hE, hl⟩ := hat
  have hown : s.vm.findClass RX2 = some m.cls := hown
  have hl : lv_has ls 7 [(0, .ref e0), (1, .ref wo), (2, .ref ro), (3, .int (nI cn))] := hl
  refine lv_iload_n hx hb dX2_send_0 rfl (lv_at hl 3 rfl) ?_
  refine lv_istore (lv' := [(4, .int (nI cn)), (0, .ref e0), (1, .ref wo), (2, .ref ro), (3, .int (nI cn))]) hx hb dX2_send_1 hl (by decide) rfl (fun ls hl => ?_)
  refine lv_iconst (v := 0) hx hb dX2_send_3 (by decide) ?_
  refine lv_istore (lv' := [(5, .int 0), (4, .int (nI cn)), (0, .ref e0), (1, .ref wo), (2, .ref ro), (3, .int (nI cn))]) hx hb dX2_send_4 hl (by decide) rfl (fun ls hl => ?_)
  have loop1 : ∀ (zn : Nat) (en1 : Nat) (i1 : Nat) (fa2_1 : Nat → Int32), (rng fa2_1 20 7) → (i1 ≤ el) → (en1 ≤ 20) → (en1 ≤ cn + i1) → el - i1 + 1 ≤ zn → ∀ (H : Heap) (locs : List Loc), va_P D vwCl [wO e0 2 [.ref e1, .ref e2, .int et, .int (nI el), .int (nI ef)], wI (cy 1) e1 10 (fg), wI (cy 1) wo 10 (fw), wI (cy 1) ro 20 (fa2_1)] H → va_D A [wO e0 2 [.ref e1, .ref e2, .int et, .int (nI el), .int (nI ef)], wI (cy 1) e1 10 (fg), wI (cy 1) wo 10 (fw), wI (cy 1) ro 20 (fa2_1)] → va_S A s.heap H locs → ∀ ls : Array Slot, lv_has ls 7 [(5, .int (nI i1)), (4, .int (nI en1)), (0, .ref e0), (1, .ref wo), (2, .ref ro), (3, .int (nI cn))] → W p l e (rmk 1 0 0) s m args below meth c H locs 0 0 Q (F0 m 6 ls []) := by
    try clear hP hD hS
    intro zn
    induction zn with
    | zero => intro en1 i1 fa2_1 _ _ _ _ hz; exact absurd hz (by omega)
    | succ zn ih1 =>
      intro en1 i1 fa2_1 ha3_1 hf0_1 hf1_1 hf2_1 hmu1 H locs hP hD hS ls hl
      refine lv_iload hx hb dX2_send_6 (lv_at hl 0 rfl) ?_
      refine lv_aload_n hx hb dX2_send_8 rfl (lv_at hl 2 rfl) ?_
      refine va_get (D := D) (ci := 2) (v := .int (nI el)) (C := RX2) (T := TX2) (N := 5) hx hb hg i_X2 hown hK hP 0 rfl rfl 3 (by decide) (hg _ m_518) (fun _ h9 => h9) rfl dX2_send_9 ?_
      refine lv_icmp_ge (tgt := 60) hx hb dX2_send_12 (by decide) (fun c_2 => ?_) (fun c_2 => ?_)
      · have q_3 : el ≤ i1 := q_le (a := el) (b := i1) rfl rfl (by omega) (by omega) c_2
        refine lv_iload hx hb dX2_send_60 (lv_at hl 1 rfl) ?_
        exact x_iret hQ hx hb hr hlocks hK hP hD hS dX2_send_62 (fa2_1, en1) (⟨rfl, (show en1 ≤ 20 from by omega), (show en1 ≤ cn + el from by omega), ha3_1⟩) [0, 1, 2, 3] (by decide +kernel) rfl (Nat.le_of_ble_eq_true rfl) (Nat.le_of_ble_eq_true rfl)
      · have q_3 : i1 < el := q_nle (a := el) (b := i1) rfl rfl (by omega) (by omega) c_2
        refine lv_aload_n hx hb dX2_send_15 rfl (lv_at hl 2 rfl) ?_
        refine lv_iload hx hb dX2_send_16 (lv_at hl 0 rfl) ?_
        refine x_callVi (q := (RX2, TX2, 5)) (ci := 2) (q0 := 0) (wr := [wI (cy 1) e1 10 (fg), wI (cy 1) wo 10 (fw), wI (cy 1) ro 20 (fa2_1)]) (rest := []) ⟨hx, hb, hml, hown, hg, hl.1⟩ k_X2_88 (s_placeOf l D cy e0 e1 e2 et el ef i1 (by omega) (by omega)) E0_blind hK hP hD hS hA [0] [1, 2, 3] ⟨rfl, rfl, by decide +kernel, by decide +kernel, by decide +kernel⟩ rfl rfl (fun _ _ _ => trivial) dX2_send_18 rfl rfl (Nat.le_of_ble_eq_true rfl) ⟨Nat.le_of_ble_eq_true rfl, Nat.le_of_ble_eq_true rfl⟩ ⟨Nat.le_of_ble_eq_true rfl, Nat.le_of_ble_eq_true rfl⟩ (fun zr4 zu4 H locs hw4 hP9 hD9 hS9 => ?_)
        clear hP hD hS
        obtain ⟨k_5, rfl⟩ : ∃ z, z = zu4 := ⟨_, rfl⟩
        refine reW [wI (cy 1) e1 10 (fg), wI (cy 1) wo 10 (fw), wI (cy 1) ro 20 (fa2_1), wO e0 2 [.ref e1, .ref e2, .int et, .int (nI el), .int (nI ef)]] hP9 hD9 hS9 (fun hP hD hS => ?_)
        clear hP9 hD9 hS9
        refine W.widen (k := 0) (n := 0) (Nat.le_of_ble_eq_true rfl) (Nat.le_of_ble_eq_true rfl) ?_
        replace hw4 : (zr4 = nI k_5) ∧ (k_5 < el) := hw4
        obtain ⟨f_6, f_7⟩ := hw4
        subst f_6
        refine lv_istore (lv' := [(6, .int (nI k_5)), (5, .int (nI i1)), (4, .int (nI en1)), (0, .ref e0), (1, .ref wo), (2, .ref ro), (3, .int (nI cn))]) hx hb dX2_send_21 hl (by decide) rfl (fun ls hl => ?_)
        refine lv_aload_n hx hb dX2_send_23 rfl (lv_at hl 3 rfl) ?_
        refine lv_iload hx hb dX2_send_24 (lv_at hl 0 rfl) ?_
        refine lv_aload_n hx hb dX2_send_26 rfl (lv_at hl 4 rfl) ?_
        refine lv_iload hx hb dX2_send_27 (lv_at hl 0 rfl) ?_
        refine va_iald hx hb hK hP 1 1 rfl rfl (vp_in_nI (by omega) (by decide)) dX2_send_29 ?_
        obtain ⟨j_8, hj_8, ej_8⟩ := rng_at hsw (i := k_5) (by omega) (by decide)
        refine lv_topi (fun y_9 hy_9 => ?_)
        obtain rfl : y_9 = nI j_8 := hy_9.trans ej_8
        refine x_callVi (q := (RX2, TX2, 5)) (ci := 2) (q0 := 0) (wr := [wI (cy 1) wo 10 (fw), wI (cy 1) ro 20 (fa2_1)]) (rest := []) ⟨hx, hb, hml, hown, hg, hl.1⟩ k_X2_92 (s_comesBack l D cy e0 e1 e2 et el ef fg k_5 (nI j_8) (by omega)) E0_blind hK hP hD hS hA [3, 0] [1, 2] ⟨rfl, rfl, by decide +kernel, by decide +kernel, by decide +kernel⟩ rfl rfl (fun _ _ _ => trivial) dX2_send_30 rfl rfl (Nat.le_of_ble_eq_true rfl) ⟨Nat.le_of_ble_eq_true rfl, Nat.le_of_ble_eq_true rfl⟩ ⟨Nat.le_of_ble_eq_true rfl, Nat.le_of_ble_eq_true rfl⟩ (fun zr10 zu10 H locs hw10 hP9 hD9 hS9 => ?_)
        clear hP hD hS
        refine reW [wI (cy 1) wo 10 (fw), wI (cy 1) ro 20 (fa2_1), wO e0 2 [.ref e1, .ref e2, .int et, .int (nI el), .int (nI ef)], wI (cy 1) e1 10 (fg)] hP9 hD9 hS9 (fun hP hD hS => ?_)
        clear hP9 hD9 hS9
        refine W.widen (k := 0) (n := 0) (Nat.le_of_ble_eq_true rfl) (Nat.le_of_ble_eq_true rfl) ?_
        replace hw10 : (zr10 = 0 ∨ zr10 = 1) := hw10
        have f_11 := hw10
        refine lv_if_eq (tgt := 54) hx hb dX2_send_33 (by decide) (fun c_33 => ?_) (fun c_33 => ?_)
        · refine lv_iinc (v := nI (i1 + 1)) (lv' := [(5, .int (nI (i1 + 1))), (6, .int (nI k_5)), (4, .int (nI en1)), (0, .ref e0), (1, .ref wo), (2, .ref ro), (3, .int (nI cn))]) hx hb dX2_send_54 hl (k := 1) rfl (nI_add i1 1) (by decide) rfl (fun ls hl => ?_)
          refine lv_goto (tgt := 6) hx hb dX2_send_57 (by decide) ?_
          exact ih1  en1 ((i1 + 1)) fa2_1 ha3_1 (by omega) (by omega) (by omega) (by omega) _ _ (hP.sub [2, 3, 0, 1] rfl) (hD.sub [2, 3, 0, 1] (by decide +kernel) rfl) hS ls (lv_sub hl [0, 2, 3, 4, 5, 6] rfl)
        · refine lv_iload hx hb dX2_send_36 (lv_at hl 2 rfl) ?_
          refine lv_aload_n hx hb dX2_send_38 rfl (lv_at hl 5 rfl) ?_
          refine va_alen (v := 20) hx hb hK hP 1 1 rfl rfl rfl dX2_send_39 ?_
          refine lv_icmp_ge (tgt := 54) hx hb dX2_send_40 (by decide) (fun c_12 => ?_) (fun c_12 => ?_)
          · have q_13 : 20 ≤ en1 := q_le (a := 20) (b := en1) rfl rfl (by omega) (by omega) c_12
            refine lv_iinc (v := nI (i1 + 1)) (lv' := [(5, .int (nI (i1 + 1))), (6, .int (nI k_5)), (4, .int (nI en1)), (0, .ref e0), (1, .ref wo), (2, .ref ro), (3, .int (nI cn))]) hx hb dX2_send_54 hl (k := 1) rfl (nI_add i1 1) (by decide) rfl (fun ls hl => ?_)
            refine lv_goto (tgt := 6) hx hb dX2_send_57 (by decide) ?_
            exact ih1  en1 ((i1 + 1)) fa2_1 ha3_1 (by omega) (by omega) (by omega) (by omega) _ _ (hP.sub [2, 3, 0, 1] rfl) (hD.sub [2, 3, 0, 1] (by decide +kernel) rfl) hS ls (lv_sub hl [0, 2, 3, 4, 5, 6] rfl)
          · have q_13 : en1 < 20 := q_nle (a := 20) (b := en1) rfl rfl (by omega) (by omega) c_12
            refine lv_aload_n hx hb dX2_send_43 rfl (lv_at hl 5 rfl) ?_
            refine lv_iload hx hb dX2_send_44 (lv_at hl 2 rfl) ?_
            refine lv_aload_n hx hb dX2_send_46 rfl (lv_at hl 4 rfl) ?_
            refine lv_iload hx hb dX2_send_47 (lv_at hl 0 rfl) ?_
            refine va_iald hx hb hK hP 0 1 rfl rfl (vp_in_nI (by omega) (by decide)) dX2_send_49 ?_
            obtain ⟨j_14, hj_14, ej_14⟩ := rng_at hsw (i := k_5) (by omega) (by decide)
            refine lv_topi (fun y_15 hy_15 => ?_)
            obtain rfl : y_15 = nI j_14 := hy_15.trans ej_14
            refine va_iast hx hb hK hP hD hS 1 1 rfl rfl (vp_in_nI (by omega) (by decide)) dX2_send_50 (fun H locs hP9 hD9 hS9 => ?_)
            clear hP hD hS
            have hP := hP9
            have hD := hD9
            have hS := hS9
            clear hP9 hD9 hS9
            obtain ⟨g_16, eg_16⟩ : ∃ y, upd fa2_1 (nI en1 : Int32).toNatClampNeg (nI j_14) = y := ⟨_, rfl⟩
            rw [eg_16] at hP hD
            have hr_17 : rng g_16 20 7 := eg_16 ▸ rng_put ha3_1 (j := j_14) (by omega)
            replace hP : va_P D vwCl [wI (cy 1) wo 10 (fw), wI (cy 1) ro 20 (g_16), wO e0 2 [.ref e1, .ref e2, .int et, .int (nI el), .int (nI ef)], wI (cy 1) e1 10 (fg)] H := hP
            replace hD : va_D A [wI (cy 1) wo 10 (fw), wI (cy 1) ro 20 (g_16), wO e0 2 [.ref e1, .ref e2, .int et, .int (nI el), .int (nI ef)], wI (cy 1) e1 10 (fg)] := hD
            refine lv_iinc (v := nI (en1 + 1)) (lv' := [(4, .int (nI (en1 + 1))), (6, .int (nI k_5)), (5, .int (nI i1)), (0, .ref e0), (1, .ref wo), (2, .ref ro), (3, .int (nI cn))]) hx hb dX2_send_51 hl (k := 2) rfl (nI_add en1 1) (by decide) rfl (fun ls hl => ?_)
            refine lv_iinc (v := nI (i1 + 1)) (lv' := [(5, .int (nI (i1 + 1))), (4, .int (nI (en1 + 1))), (6, .int (nI k_5)), (0, .ref e0), (1, .ref wo), (2, .ref ro), (3, .int (nI cn))]) hx hb dX2_send_54 hl (k := 2) rfl (nI_add i1 1) (by decide) rfl (fun ls hl => ?_)
            refine lv_goto (tgt := 6) hx hb dX2_send_57 (by decide) ?_
            exact ih1  ((en1 + 1)) ((i1 + 1)) g_16 hr_17 (by omega) (by omega) (by omega) (by omega) _ _ (hP.sub [2, 3, 0, 1] rfl) (hD.sub [2, 3, 0, 1] (by decide +kernel) rfl) hS ls (lv_sub hl [0, 1, 3, 4, 5, 6] rfl)
  exact loop1 _ cn 0 fr hrw (by omega) (by omega) (by omega) (Nat.le_refl _) _ _ (hP.sub [0, 1, 2, 3] rfl) (hD.sub [0, 1, 2, 3] (by decide +kernel) rfl) hS ls (lv_sub hl [0, 1, 2, 3, 4, 5] rfl)
