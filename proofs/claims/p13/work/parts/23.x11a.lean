def mL23 : List (Option Cond) := [some (Cond.selects RX11 yX11_prepare yX11_prepare), some (Cond.selects RX11 yX11_loadWeather yX11_loadWeather), some (Cond.selects RX11 yX11_loadCry yX11_loadCry), some (Cond.selects RX11 yX11_layDown yX11_layDown), some (Cond.initialized RX11), some (Cond.fieldLink RX11 114 "CliffJudges$Teller" "fault" "I"), some (Cond.fieldLink RX11 117 "CliffJudges$Teller" "place" "I"), some (Cond.fieldLink RX11 111 "CliffJudges$Hills" "counts" "[I"), some (Cond.fieldLink RX11 124 "CliffJudges$Hills" "cliffPlace" "[I"), some (Cond.fieldLink RX11 130 "CliffJudges$Hills" "manPlace" "[I"), some (Cond.fieldLink RX11 133 "CliffJudges$Hills" "manVoice" "[I"), some (Cond.fieldLink RX11 140 "CliffJudges$Hills" "next" "[I"), some (Cond.fieldLink RX11 127 "CliffJudges$Moments" "now" "[I"), some (Cond.fieldLink RX11 188 "CliffJudges$Court" "row" "[I"), some (Cond.fieldLink RX11 199 "CliffJudges$Court" "bound" "I"), some (Cond.fieldLink RX11 254 "CliffJudges$Shout" "words" "[I"), some (Cond.fieldLink RX11 319 "CliffJudges$Shout" "snow" "[I"), some (Cond.fieldLink RX11 253 "CliffJudges$Shout" "length" "I"), some (Cond.fieldLink RX11 227 "CliffJudges$Shout" "place" "I"), some (Cond.fieldLink RX11 224 "CliffJudges$Shout" "voice" "I"), some (Cond.fieldLink RX11 250 "CliffJudges$Shout" "wind" "I"), some (Cond.fieldLink RX11 247 "CliffJudges$Shout" "chance" "I"), some (Cond.fieldLink RX11 21 "CliffJudges" "teller" "LCliffJudges$Teller;"), some (Cond.fieldLink RX11 28 "CliffJudges" "told" "LCliffJudges$Hills;"), some (Cond.fieldLink RX11 38 "CliffJudges" "moments" "LCliffJudges$Moments;"), some (Cond.fieldLink RX11 52 "CliffJudges" "court" "LCliffJudges$Court;"), some (Cond.fieldLink RX11 75 "CliffJudges" "shout" "LCliffJudges$Shout;"), some (Cond.fieldLink RX11 82 "CliffJudges" "silence" "LCliffJudges$Shout;"), some (Cond.fieldLink RX11 85 "CliffJudges" "lying" "[I"), some (Cond.fieldLink RX11 89 "CliffJudges" "lyingCount" "I"), some (Cond.methodLink RX11 120 yX4_has), some (Cond.instanceMethod yX4_has), some (Cond.selects RX4 yX4_has yX4_has), some (Cond.code yX4_has cX4_has 3 (some .boolean)), some (Cond.methodLink RX11 136 yX5_verdicts), some (Cond.instanceMethod yX5_verdicts), some (Cond.selects RX5 yX5_verdicts yX5_verdicts), some (Cond.code yX5_verdicts cX5_verdicts 3 (some .int)), some (Cond.methodLink RX11 143 yX11_isCry), some (Cond.static yX11_isCry), some (Cond.code yX11_isCry cX11_isCry 1 (some .boolean)), some (Cond.methodLink RX11 147 yX5_cryLength), some (Cond.instanceMethod yX5_cryLength), some (Cond.selects RX5 yX5_cryLength yX5_cryLength), some (Cond.code yX5_cryLength cX5_cryLength 2 (some .int)), some (Cond.methodLink RX11 151 yX5_addWord), some (Cond.instanceMethod yX5_addWord), some (Cond.selects RX5 yX5_addWord yX5_addWord), some (Cond.code yX5_addWord cX5_addWord 4 none), some (Cond.methodLink RX11 155 yX5_dropWord), some (Cond.instanceMethod yX5_dropWord), some (Cond.selects RX5 yX5_dropWord yX5_dropWord), some (Cond.code yX5_dropWord cX5_dropWord 4 (some .int)), some (Cond.methodLink RX11 158 yX5_wordAt), some (Cond.instanceMethod yX5_wordAt), some (Cond.selects RX5 yX5_wordAt yX5_wordAt), some (Cond.code yX5_wordAt cX5_wordAt 3 (some .int)), some (Cond.methodLink RX11 161 yX11_prepare), some (Cond.instanceMethod yX11_prepare), some (Cond.code yX11_prepare cX11_prepare 2 none), some (Cond.methodLink RX11 220 yX11_loadWeather), some (Cond.instanceMethod yX11_loadWeather), some (Cond.code yX11_loadWeather cX11_loadWeather 2 none), some (Cond.methodLink RX11 322 ⟨"java/lang/System", "arraycopy", "(Ljava/lang/Object;ILjava/lang/Object;II)V"⟩), some (Cond.methodLink RX11 212 yX11_loadCry), some (Cond.instanceMethod yX11_loadCry), some (Cond.code yX11_loadCry cX11_loadCry 4 none), some (Cond.methodLink RX11 164 yX0_verdict), some (Cond.instanceMethod yX0_verdict), some (Cond.selects RX0 yX0_verdict yX0_verdict), some (Cond.code yX0_verdict cX0_verdict 7 (some .int)), some (Cond.methodLink RX11 168 yX5_countVerdict), some (Cond.instanceMethod yX5_countVerdict), some (Cond.selects RX5 yX5_countVerdict yX5_countVerdict), some (Cond.code yX5_countVerdict cX5_countVerdict 3 none), some (Cond.methodLink RX11 171 yX5_passNoon), some (Cond.instanceMethod yX5_passNoon), some (Cond.selects RX5 yX5_passNoon yX5_passNoon), some (Cond.code yX5_passNoon cX5_passNoon 4 none), some (Cond.methodLink RX11 174 yX5_clearLedge), some (Cond.instanceMethod yX5_clearLedge), some (Cond.selects RX5 yX5_clearLedge yX5_clearLedge), some (Cond.code yX5_clearLedge cX5_clearLedge 3 (some .int)), some (Cond.methodLink RX11 177 yX5_stepBack), some (Cond.instanceMethod yX5_stepBack), some (Cond.selects RX5 yX5_stepBack yX5_stepBack), some (Cond.code yX5_stepBack cX5_stepBack 1 (some .boolean)), some (Cond.methodLink RX11 181 yX5_stepOn), some (Cond.instanceMethod yX5_stepOn), some (Cond.selects RX5 yX5_stepOn yX5_stepOn), some (Cond.code yX5_stepOn cX5_stepOn 1 (some .boolean)), some (Cond.methodLink RX11 184 yX0_listen), some (Cond.methodLink RX11 191 yX11_layDown), some (Cond.instanceMethod yX11_layDown), some (Cond.code yX11_layDown cX11_layDown 3 none), some (Cond.methodLink RX11 195 yX4_isYes)]
set_option maxRecDepth 100000 in
theorem mP23 : pick [31, 1, 1, 4, 93, 134, 2, 69, 8, 7, 3, 3, 68, 112, 2, 86, 3, 5, 4, 2, 2, 2, 17, 1, 2, 2, 3, 2, 1, 1, 278, 1, 1, 1, 5, 1, 1, 1, 9, 1, 1, 1, 1, 1, 1, 1, 1, 1, 1, 10, 1, 1, 1, 5, 1, 1, 1, 5, 2, 1, 1, 2, 1, 1, 1, 2, 1, 1, 1, 1, 1, 59, 1, 1, 1, 5, 1, 1, 1, 5, 1, 1, 1, 5, 1, 1, 1, 9, 1, 1, 1, 5, 1, 2, 1, 5] lw_tbl = mL23 := rfl
set_option maxRecDepth 100000 in
theorem mG23 : mL23.all (fun o => o.all goodWord) = true := rfl
theorem m_31 : (Cond.selects RX11 yX11_prepare yX11_prepare) ∈ gT := gp mP23 mG23 0 rfl
theorem m_32 : (Cond.selects RX11 yX11_loadWeather yX11_loadWeather) ∈ gT := gp mP23 mG23 1 rfl
theorem m_33 : (Cond.selects RX11 yX11_loadCry yX11_loadCry) ∈ gT := gp mP23 mG23 2 rfl
theorem m_37 : (Cond.selects RX11 yX11_layDown yX11_layDown) ∈ gT := gp mP23 mG23 3 rfl
theorem m_130 : (Cond.initialized RX11) ∈ gT := gp mP23 mG23 4 rfl
theorem m_264 : (Cond.fieldLink RX11 114 "CliffJudges$Teller" "fault" "I") ∈ gT := gp mP23 mG23 5 rfl
theorem m_266 : (Cond.fieldLink RX11 117 "CliffJudges$Teller" "place" "I") ∈ gT := gp mP23 mG23 6 rfl
theorem m_335 : (Cond.fieldLink RX11 111 "CliffJudges$Hills" "counts" "[I") ∈ gT := gp mP23 mG23 7 rfl
theorem m_343 : (Cond.fieldLink RX11 124 "CliffJudges$Hills" "cliffPlace" "[I") ∈ gT := gp mP23 mG23 8 rfl
theorem m_350 : (Cond.fieldLink RX11 130 "CliffJudges$Hills" "manPlace" "[I") ∈ gT := gp mP23 mG23 9 rfl
theorem m_353 : (Cond.fieldLink RX11 133 "CliffJudges$Hills" "manVoice" "[I") ∈ gT := gp mP23 mG23 10 rfl
theorem m_356 : (Cond.fieldLink RX11 140 "CliffJudges$Hills" "next" "[I") ∈ gT := gp mP23 mG23 11 rfl
theorem m_424 : (Cond.fieldLink RX11 127 "CliffJudges$Moments" "now" "[I") ∈ gT := gp mP23 mG23 12 rfl
theorem m_536 : (Cond.fieldLink RX11 188 "CliffJudges$Court" "row" "[I") ∈ gT := gp mP23 mG23 13 rfl
theorem m_538 : (Cond.fieldLink RX11 199 "CliffJudges$Court" "bound" "I") ∈ gT := gp mP23 mG23 14 rfl
theorem m_624 : (Cond.fieldLink RX11 254 "CliffJudges$Shout" "words" "[I") ∈ gT := gp mP23 mG23 15 rfl
theorem m_627 : (Cond.fieldLink RX11 319 "CliffJudges$Shout" "snow" "[I") ∈ gT := gp mP23 mG23 16 rfl
theorem m_632 : (Cond.fieldLink RX11 253 "CliffJudges$Shout" "length" "I") ∈ gT := gp mP23 mG23 17 rfl
theorem m_636 : (Cond.fieldLink RX11 227 "CliffJudges$Shout" "place" "I") ∈ gT := gp mP23 mG23 18 rfl
theorem m_638 : (Cond.fieldLink RX11 224 "CliffJudges$Shout" "voice" "I") ∈ gT := gp mP23 mG23 19 rfl
theorem m_640 : (Cond.fieldLink RX11 250 "CliffJudges$Shout" "wind" "I") ∈ gT := gp mP23 mG23 20 rfl
theorem m_642 : (Cond.fieldLink RX11 247 "CliffJudges$Shout" "chance" "I") ∈ gT := gp mP23 mG23 21 rfl
theorem m_659 : (Cond.fieldLink RX11 21 "CliffJudges" "teller" "LCliffJudges$Teller;") ∈ gT := gp mP23 mG23 22 rfl
theorem m_660 : (Cond.fieldLink RX11 28 "CliffJudges" "told" "LCliffJudges$Hills;") ∈ gT := gp mP23 mG23 23 rfl
theorem m_662 : (Cond.fieldLink RX11 38 "CliffJudges" "moments" "LCliffJudges$Moments;") ∈ gT := gp mP23 mG23 24 rfl
theorem m_664 : (Cond.fieldLink RX11 52 "CliffJudges" "court" "LCliffJudges$Court;") ∈ gT := gp mP23 mG23 25 rfl
theorem m_667 : (Cond.fieldLink RX11 75 "CliffJudges" "shout" "LCliffJudges$Shout;") ∈ gT := gp mP23 mG23 26 rfl
theorem m_669 : (Cond.fieldLink RX11 82 "CliffJudges" "silence" "LCliffJudges$Shout;") ∈ gT := gp mP23 mG23 27 rfl
theorem m_670 : (Cond.fieldLink RX11 85 "CliffJudges" "lying" "[I") ∈ gT := gp mP23 mG23 28 rfl
theorem m_671 : (Cond.fieldLink RX11 89 "CliffJudges" "lyingCount" "I") ∈ gT := gp mP23 mG23 29 rfl
theorem m_949 : (Cond.methodLink RX11 120 yX4_has) ∈ gT := gp mP23 mG23 30 rfl
theorem m_950 : (Cond.instanceMethod yX4_has) ∈ gT := gp mP23 mG23 31 rfl
theorem m_951 : (Cond.selects RX4 yX4_has yX4_has) ∈ gT := gp mP23 mG23 32 rfl
theorem m_952 : (Cond.code yX4_has cX4_has 3 (some .boolean)) ∈ gT := gp mP23 mG23 33 rfl
theorem m_957 : (Cond.methodLink RX11 136 yX5_verdicts) ∈ gT := gp mP23 mG23 34 rfl
theorem m_958 : (Cond.instanceMethod yX5_verdicts) ∈ gT := gp mP23 mG23 35 rfl
theorem m_959 : (Cond.selects RX5 yX5_verdicts yX5_verdicts) ∈ gT := gp mP23 mG23 36 rfl
theorem m_960 : (Cond.code yX5_verdicts cX5_verdicts 3 (some .int)) ∈ gT := gp mP23 mG23 37 rfl
theorem m_969 : (Cond.methodLink RX11 143 yX11_isCry) ∈ gT := gp mP23 mG23 38 rfl
theorem m_970 : (Cond.static yX11_isCry) ∈ gT := gp mP23 mG23 39 rfl
theorem m_971 : (Cond.code yX11_isCry cX11_isCry 1 (some .boolean)) ∈ gT := gp mP23 mG23 40 rfl
theorem m_972 : (Cond.methodLink RX11 147 yX5_cryLength) ∈ gT := gp mP23 mG23 41 rfl
theorem m_973 : (Cond.instanceMethod yX5_cryLength) ∈ gT := gp mP23 mG23 42 rfl
theorem m_974 : (Cond.selects RX5 yX5_cryLength yX5_cryLength) ∈ gT := gp mP23 mG23 43 rfl
theorem m_975 : (Cond.code yX5_cryLength cX5_cryLength 2 (some .int)) ∈ gT := gp mP23 mG23 44 rfl
theorem m_976 : (Cond.methodLink RX11 151 yX5_addWord) ∈ gT := gp mP23 mG23 45 rfl
theorem m_977 : (Cond.instanceMethod yX5_addWord) ∈ gT := gp mP23 mG23 46 rfl
theorem m_978 : (Cond.selects RX5 yX5_addWord yX5_addWord) ∈ gT := gp mP23 mG23 47 rfl
theorem m_979 : (Cond.code yX5_addWord cX5_addWord 4 none) ∈ gT := gp mP23 mG23 48 rfl
theorem m_989 : (Cond.methodLink RX11 155 yX5_dropWord) ∈ gT := gp mP23 mG23 49 rfl
theorem m_990 : (Cond.instanceMethod yX5_dropWord) ∈ gT := gp mP23 mG23 50 rfl
theorem m_991 : (Cond.selects RX5 yX5_dropWord yX5_dropWord) ∈ gT := gp mP23 mG23 51 rfl
theorem m_992 : (Cond.code yX5_dropWord cX5_dropWord 4 (some .int)) ∈ gT := gp mP23 mG23 52 rfl
theorem m_997 : (Cond.methodLink RX11 158 yX5_wordAt) ∈ gT := gp mP23 mG23 53 rfl
theorem m_998 : (Cond.instanceMethod yX5_wordAt) ∈ gT := gp mP23 mG23 54 rfl
theorem m_999 : (Cond.selects RX5 yX5_wordAt yX5_wordAt) ∈ gT := gp mP23 mG23 55 rfl
theorem m_1000 : (Cond.code yX5_wordAt cX5_wordAt 3 (some .int)) ∈ gT := gp mP23 mG23 56 rfl
theorem m_1005 : (Cond.methodLink RX11 161 yX11_prepare) ∈ gT := gp mP23 mG23 57 rfl
theorem m_1007 : (Cond.instanceMethod yX11_prepare) ∈ gT := gp mP23 mG23 58 rfl
theorem m_1008 : (Cond.code yX11_prepare cX11_prepare 2 none) ∈ gT := gp mP23 mG23 59 rfl
theorem m_1009 : (Cond.methodLink RX11 220 yX11_loadWeather) ∈ gT := gp mP23 mG23 60 rfl
theorem m_1011 : (Cond.instanceMethod yX11_loadWeather) ∈ gT := gp mP23 mG23 61 rfl
theorem m_1012 : (Cond.code yX11_loadWeather cX11_loadWeather 2 none) ∈ gT := gp mP23 mG23 62 rfl
theorem m_1013 : (Cond.methodLink RX11 322 ⟨"java/lang/System", "arraycopy", "(Ljava/lang/Object;ILjava/lang/Object;II)V"⟩) ∈ gT := gp mP23 mG23 63 rfl
theorem m_1014 : (Cond.methodLink RX11 212 yX11_loadCry) ∈ gT := gp mP23 mG23 64 rfl
theorem m_1016 : (Cond.instanceMethod yX11_loadCry) ∈ gT := gp mP23 mG23 65 rfl
theorem m_1017 : (Cond.code yX11_loadCry cX11_loadCry 4 none) ∈ gT := gp mP23 mG23 66 rfl
theorem m_1018 : (Cond.methodLink RX11 164 yX0_verdict) ∈ gT := gp mP23 mG23 67 rfl
theorem m_1019 : (Cond.instanceMethod yX0_verdict) ∈ gT := gp mP23 mG23 68 rfl
theorem m_1020 : (Cond.selects RX0 yX0_verdict yX0_verdict) ∈ gT := gp mP23 mG23 69 rfl
theorem m_1021 : (Cond.code yX0_verdict cX0_verdict 7 (some .int)) ∈ gT := gp mP23 mG23 70 rfl
theorem m_1080 : (Cond.methodLink RX11 168 yX5_countVerdict) ∈ gT := gp mP23 mG23 71 rfl
theorem m_1081 : (Cond.instanceMethod yX5_countVerdict) ∈ gT := gp mP23 mG23 72 rfl
theorem m_1082 : (Cond.selects RX5 yX5_countVerdict yX5_countVerdict) ∈ gT := gp mP23 mG23 73 rfl
theorem m_1083 : (Cond.code yX5_countVerdict cX5_countVerdict 3 none) ∈ gT := gp mP23 mG23 74 rfl
theorem m_1088 : (Cond.methodLink RX11 171 yX5_passNoon) ∈ gT := gp mP23 mG23 75 rfl
theorem m_1089 : (Cond.instanceMethod yX5_passNoon) ∈ gT := gp mP23 mG23 76 rfl
theorem m_1090 : (Cond.selects RX5 yX5_passNoon yX5_passNoon) ∈ gT := gp mP23 mG23 77 rfl
theorem m_1091 : (Cond.code yX5_passNoon cX5_passNoon 4 none) ∈ gT := gp mP23 mG23 78 rfl
theorem m_1096 : (Cond.methodLink RX11 174 yX5_clearLedge) ∈ gT := gp mP23 mG23 79 rfl
theorem m_1097 : (Cond.instanceMethod yX5_clearLedge) ∈ gT := gp mP23 mG23 80 rfl
theorem m_1098 : (Cond.selects RX5 yX5_clearLedge yX5_clearLedge) ∈ gT := gp mP23 mG23 81 rfl
theorem m_1099 : (Cond.code yX5_clearLedge cX5_clearLedge 3 (some .int)) ∈ gT := gp mP23 mG23 82 rfl
theorem m_1104 : (Cond.methodLink RX11 177 yX5_stepBack) ∈ gT := gp mP23 mG23 83 rfl
theorem m_1105 : (Cond.instanceMethod yX5_stepBack) ∈ gT := gp mP23 mG23 84 rfl
theorem m_1106 : (Cond.selects RX5 yX5_stepBack yX5_stepBack) ∈ gT := gp mP23 mG23 85 rfl
theorem m_1107 : (Cond.code yX5_stepBack cX5_stepBack 1 (some .boolean)) ∈ gT := gp mP23 mG23 86 rfl
theorem m_1116 : (Cond.methodLink RX11 181 yX5_stepOn) ∈ gT := gp mP23 mG23 87 rfl
theorem m_1117 : (Cond.instanceMethod yX5_stepOn) ∈ gT := gp mP23 mG23 88 rfl
theorem m_1118 : (Cond.selects RX5 yX5_stepOn yX5_stepOn) ∈ gT := gp mP23 mG23 89 rfl
theorem m_1119 : (Cond.code yX5_stepOn cX5_stepOn 1 (some .boolean)) ∈ gT := gp mP23 mG23 90 rfl
theorem m_1124 : (Cond.methodLink RX11 184 yX0_listen) ∈ gT := gp mP23 mG23 91 rfl
theorem m_1125 : (Cond.methodLink RX11 191 yX11_layDown) ∈ gT := gp mP23 mG23 92 rfl
theorem m_1127 : (Cond.instanceMethod yX11_layDown) ∈ gT := gp mP23 mG23 93 rfl
theorem m_1128 : (Cond.code yX11_layDown cX11_layDown 3 none) ∈ gT := gp mP23 mG23 94 rfl
theorem m_1133 : (Cond.methodLink RX11 195 yX4_isYes) ∈ gT := gp mP23 mG23 95 rfl
theorem btw {ix : Int32} {a b : Nat} (ha : a < 2 ^ 31) (hb : b < 2 ^ 31) (h1 : ¬ ix < nI a) (h2 : ¬ nI b < ix) : ∃ j : Nat, a ≤ j ∧ j ≤ b ∧ ix = nI j := by
  have h0 : ¬ ix < 0 := by
    intro h
    rw [fa_lt] at h h1
    rw [nI_toInt ha] at h1
    have z0 : (0 : Int32).toInt = 0 := by decide
    omega
  obtain ⟨j, hj, e⟩ := nI_of h0
  rw [fa_lt, e, nI_toInt hj] at h1 h2
  rw [nI_toInt ha] at h1
  rw [nI_toInt hb] at h2
  exact ⟨j, by omega, by omega, e⟩
theorem shl1 {k : Nat} (hk : k ≤ 9) : (1 : Int32) <<< (nI k &&& 31) = nI (2 ^ k) := by
  have h : ∀ k, k < 10 → (1 : Int32) <<< (nI k &&& 31) = nI (2 ^ k) := by decide +kernel
  exact h k (by omega)
theorem hasl {ix : Int32} {c : Nat} (hc : c < 2 ^ 31) (h0 : ¬ ix < 0) (h : ix < nI c) : ∃ j : Nat, j < c ∧ ix = nI j := by
  obtain ⟨j, hj, e⟩ := nI_of h0
  rw [e] at h
  exact ⟨j, (nI_ltI hj hc).mp h, e⟩
theorem hasle {ix : Int32} {c : Nat} (hc : c < 2 ^ 31) (h0 : ¬ ix < 0) (h : ix ≤ nI c) : ∃ j : Nat, j ≤ c ∧ ix = nI j := by
  obtain ⟨j, hj, e⟩ := nI_of h0
  rw [e] at h
  exact ⟨j, (nI_leI hj hc).mp h, e⟩
theorem shl4 {k : Nat} (hk : k ≤ 4) : ∃ pw : Nat, pw ≤ 16 ∧ (1 : Int32) <<< (nI k &&& 31) = nI pw := by
  rcases (show k = 0 ∨ k = 1 ∨ k = 2 ∨ k = 3 ∨ k = 4 by omega) with rfl | rfl | rfl | rfl | rfl
  · exact ⟨1, by decide, by decide +kernel⟩
  · exact ⟨2, by decide, by decide +kernel⟩
  · exact ⟨4, by decide, by decide +kernel⟩
  · exact ⟨8, by decide, by decide +kernel⟩
  · exact ⟨16, by decide, by decide +kernel⟩
theorem pos_in {x : Int32} {n : Nat} (hn : n < 2 ^ 31) (h : x = -1 ∨ ∃ k : Nat, k ≤ n ∧ x = nI k) (hx : ¬ x ≤ 0) : ∃ k : Nat, k ≤ n ∧ x = nI k := by
  rcases h with h | h
  · exact absurd (by rw [h]; decide) hx
  · exact h
/-- a WORD is said, by the class -/
def syC (c0 : Nat) (fn fq : FN9) (cu un re : Nat) (xc xw r : Int32) (fn2 fq2 : FN9) (cu2 un2 re2 : Nat) : Prop :=
  (r = -1 ∧ (fn2 = fn ∧ fq2 = fq ∧ cu2 = cu ∧ un2 = un ∧ re2 = re) ∧ (¬ (xc = 0 ∨ xc = 1) ∨ ¬ inR xw c0 ∨ ∃ c : Nat, c < 2 ∧ xc = nI c ∧ fn (11 * c) = nI 10)) ∨
  ∃ c w le : Nat, c < 2 ∧ xc = nI c ∧ w < c0 ∧ xw = nI w ∧ le ≤ 9 ∧ fn (11 * c) = nI le ∧ r = nI (le + 1) ∧ fn2 = upd (upd fn (11 * c) (nI (le + 1))) (11 * c + (le + 1)) (nI w) ∧ actC fn2 fq cu un fq2 cu2 un2 re2
theorem sy_r {fn fn2 : FN9} {a le m : Nat} {x : Int32} (h : fn2 = upd (upd fn a (nI (le + 1))) (a + (le + 1)) x) (e : fn2 a = nI m) : nI m = nI (le + 1) := by
  rw [h, pk_un (by omega), pk_us] at e
  exact e.symm
/-- the last WORD is taken back, by the class -/
def uyC (fn fq : FN9) (cu un re : Nat) (xc r : Int32) (fn2 fq2 : FN9) (cu2 un2 re2 : Nat) : Prop :=
  (r = -1 ∧ (fn2 = fn ∧ fq2 = fq ∧ cu2 = cu ∧ un2 = un ∧ re2 = re) ∧ (¬ (xc = 0 ∨ xc = 1) ∨ ∃ c : Nat, c < 2 ∧ xc = nI c ∧ fn (11 * c) = nI 0)) ∨
  ∃ c le : Nat, c < 2 ∧ xc = nI c ∧ 1 ≤ le ∧ le ≤ 10 ∧ fn (11 * c) = nI le ∧ r = fn (11 * c + le) ∧ fn2 = upd fn (11 * c) (nI (le - 1)) ∧ actC fn2 fq cu un fq2 cu2 un2 re2
/-- what was said -/
def sdC (fn : FN9) (xc xi r : Int32) : Prop :=
  (r = -1 ∧ (¬ (xc = 0 ∨ xc = 1) ∨ ∃ c le : Nat, c < 2 ∧ xc = nI c ∧ le ≤ 10 ∧ fn (11 * c) = nI le ∧ ¬ inR xi le)) ∨
  ∃ c le i : Nat, c < 2 ∧ xc = nI c ∧ le ≤ 10 ∧ fn (11 * c) = nI le ∧ i < le ∧ xi = nI i ∧ r = fn (11 * c + 1 + i)
def clC (c1 : Nat) (fp fn : FN9) (xm wh r : Int32) : Prop := (r = -1 ∧ (¬ inR xm c1 ∨ (¬ wh = 0 ∧ ¬ wh = 1))) ∨ ∃ j : Nat, j < c1 ∧ xm = nI j ∧ ((wh = 0 ∧ r = fp j) ∨ (wh = 1 ∧ r = fn (25 + j)))
def caC (c2 : Nat) (fn fq : FN9) (cu un re : Nat) (xm : Int32) (fn2 fq2 : FN9) (cu2 un2 re2 : Nat) : Prop :=
  ((fn2 = fn ∧ fq2 = fq ∧ cu2 = cu ∧ un2 = un ∧ re2 = re) ∧ ¬ inR xm c2) ∨ (inR xm c2 ∧ (∃ (k : Nat) (x9 : Int32), 29 ≤ k ∧ k < 41 ∧ fn2 = upd fn k x9) ∧ actC fn2 fq cu un fq2 cu2 un2 re2)
def noC (c1 : Nat) (fn fq : FN9) (cu un re : Nat) (r : Int32) (fn2 fq2 : FN9) (cu2 un2 re2 : Nat) : Prop :=
  (r = -1 ∧ (fn2 = fn ∧ fq2 = fq ∧ cu2 = cu ∧ un2 = un ∧ re2 = re) ∧ 999 ≤ fn 24) ∨ (¬ 999 ≤ fn 24 ∧ nnC fn c1 fn2 ∧ r = fn2 22 ∧ actC fn2 fq cu un fq2 cu2 un2 re2)
def swC (c1 : Nat) (fn fq : FN9) (cu un re : Nat) (xm r : Int32) (fn2 fq2 : FN9) (cu2 un2 re2 : Nat) : Prop :=
  (r = -1 ∧ (fn2 = fn ∧ fq2 = fq ∧ cu2 = cu ∧ un2 = un ∧ re2 = re) ∧ ¬ inR xm c1) ∨ ∃ j : Nat, j < c1 ∧ xm = nI j ∧ r = fn (25 + j) ∧ fn2 = upd fn (25 + j) 0 ∧ actC fn2 fq cu un fq2 cu2 un2 re2
def imC (fn fb : FN9) (fu xb r : Int32) (fb2 : FN9) (fu2 : Int32) : Prop := (r = -1 ∧ fb2 = fb ∧ fu2 = fu ∧ ¬ inR xb 3) ∨ ∃ b : Nat, b < 3 ∧ xb = nI b ∧ kiC b fn fb fu fb2 fu2 ∧ r = fn 24
def bkC (fn fq fb : FN9) (fu : Int32) (cu un re : Nat) (xb r : Int32) (fn2 fq2 : FN9) (cu2 un2 re2 : Nat) : Prop :=
  (r = -1 ∧ (fn2 = fn ∧ fq2 = fq ∧ cu2 = cu ∧ un2 = un ∧ re2 = re) ∧ ¬ inR xb 3) ∨ ∃ (b : Nat) (q : Int32), b < 3 ∧ xb = nI b ∧ gbC q b fn fq fb fu cu un re fn2 fq2 cu2 un2 re2 ∧ r = if q = 0 then -1 else fn2 24
theorem sd_neg {fn : FN9} {c : Nat} {xi : Int32} (hc : c < 2) (h : ∃ a : Nat, a ≤ 10 ∧ fn (11 * c) = nI a) (hx : xi < 0) : ∃ c' le : Nat, c' < 2 ∧ nI c = nI c' ∧ le ≤ 10 ∧ fn (11 * c') = nI le ∧ ¬ inR xi le := by
  obtain ⟨a, ha, e⟩ := h
  exact ⟨c, a, hc, rfl, ha, e, inR_neg (by omega) hx⟩
theorem i_nle {a b : Int32} (h : a < b) : ¬ b ≤ a := by
  rw [fa_lt] at h
  rw [fa_le]
  omega
theorem ldk {f : FN9} {x z : Int32} {k : Nat} (hz : z.toNatClampNeg = k) (e : x = f z.toNatClampNeg) : x = f k := by rw [hz] at e; exact e
theorem gdX11_isCry_0 : decode cX11_isCry 0 = .ok (.iload_n 0, 1) ∧ decode cX11_isCry 1 = .ok (.ifCond .eq 8, 3) ∧ decode cX11_isCry 9 = .ok (.iconst 1, 1) ∧ decode cX11_isCry 10 = .ok (.goto 4, 3) ∧ decode cX11_isCry 14 = .ok (.ireturn, 1) ∧ decode cX11_isCry 4 = .ok (.iload_n 0, 1) ∧ decode cX11_isCry 5 = .ok (.iconst 1, 1) ∧ decode cX11_isCry 6 = .ok (.if_icmp .ne 7, 3) ∧ decode cX11_isCry 13 = .ok (.iconst 0, 1) := by decide +kernel
theorem dX11_isCry_0 : decode cX11_isCry 0 = .ok (.iload_n 0, 1) := gdX11_isCry_0.1
theorem dX11_isCry_1 : decode cX11_isCry 1 = .ok (.ifCond .eq 8, 3) := gdX11_isCry_0.2.1
theorem dX11_isCry_9 : decode cX11_isCry 9 = .ok (.iconst 1, 1) := gdX11_isCry_0.2.2.1
theorem dX11_isCry_10 : decode cX11_isCry 10 = .ok (.goto 4, 3) := gdX11_isCry_0.2.2.2.1
theorem dX11_isCry_14 : decode cX11_isCry 14 = .ok (.ireturn, 1) := gdX11_isCry_0.2.2.2.2.1
theorem dX11_isCry_4 : decode cX11_isCry 4 = .ok (.iload_n 0, 1) := gdX11_isCry_0.2.2.2.2.2.1
theorem dX11_isCry_5 : decode cX11_isCry 5 = .ok (.iconst 1, 1) := gdX11_isCry_0.2.2.2.2.2.2.1
theorem dX11_isCry_6 : decode cX11_isCry 6 = .ok (.if_icmp .ne 7, 3) := gdX11_isCry_0.2.2.2.2.2.2.2.1
theorem dX11_isCry_13 : decode cX11_isCry 13 = .ok (.iconst 0, 1) := gdX11_isCry_0.2.2.2.2.2.2.2.2
set_option maxHeartbeats 1000000 in
set_option maxRecDepth 100000 in
theorem s_xisCry (l : Launch) (D : va_G) (cy : Nat → ClassId) (ix : Int32)  : XMi l D (tyL cy) E0 yX11_isCry cX11_isCry 1 (some .boolean) (rmk 0 0 0) [.int ix] [] (fun (r : Int32) (_ : Unit) => (r = 0 ∨ r = 1) ∧ (r = 0 ∨ (r = 1 ∧ (ix = 0 ∨ ix = 1))) ∧ (r = 0 → ¬ (ix = 0 ∨ ix = 1))) (fun (_ : Unit) => []) := by
  refine XMi.start (by decide) (Nat.le_of_ble_eq_true rfl) ?_
  intro p e s m below meth c args A ls Q hat hQ
  obtain ⟨hx, hb, hr, hml, hown, hg, hlocks, hin, hK, hA, hP, hD, hS, hE, hl⟩ := hat
  have hown : s.vm.findClass RX11 = some m.cls := hown
  have hl : lv_has ls 1 [(0, .int ix)] := hl
  refine lv_iload_n hx hb dX11_isCry_0 rfl (lv_at hl 0 rfl) ?_
  refine lv_if_eq (tgt := 9) hx hb dX11_isCry_1 (by decide) (fun c_1 => ?_) (fun c_1 => ?_)
  · refine lv_iconst (v := 1) hx hb dX11_isCry_9 (by decide) ?_
    refine lv_goto (tgt := 14) hx hb dX11_isCry_10 (by decide) ?_
    exact x_zret hQ hx hb hr hlocks hK hP hD hS rfl dX11_isCry_14 () (⟨(Or.inr rfl), Or.inr ⟨rfl, Or.inl c_1⟩, fun h9 => absurd h9 (by decide)⟩) [] (by decide +kernel) rfl (Nat.le_of_ble_eq_true rfl) (Nat.le_of_ble_eq_true rfl)
  · refine lv_iload_n hx hb dX11_isCry_4 rfl (lv_at hl 0 rfl) ?_
    refine lv_iconst (v := 1) hx hb dX11_isCry_5 (by decide) ?_
    refine lv_icmp_ne (tgt := 13) hx hb dX11_isCry_6 (by decide) (fun c_6 => ?_) (fun c_6 => ?_)
    · refine lv_iconst (v := 0) hx hb dX11_isCry_13 (by decide) ?_
      exact x_zret hQ hx hb hr hlocks hK hP hD hS rfl dX11_isCry_14 () (⟨(Or.inl rfl), Or.inl rfl, fun _ h9 => h9.elim c_1 c_6⟩) [] (by decide +kernel) rfl (Nat.le_of_ble_eq_true rfl) (Nat.le_of_ble_eq_true rfl)
    · refine lv_iconst (v := 1) hx hb dX11_isCry_9 (by decide) ?_
      refine lv_goto (tgt := 14) hx hb dX11_isCry_10 (by decide) ?_
      exact x_zret hQ hx hb hr hlocks hK hP hD hS rfl dX11_isCry_14 () (⟨(Or.inr rfl), Or.inr ⟨rfl, Or.inr c_6⟩, fun h9 => absurd h9 (by decide)⟩) [] (by decide +kernel) rfl (Nat.le_of_ble_eq_true rfl) (Nat.le_of_ble_eq_true rfl)
theorem gdX11_isBox_0 : decode cX11_isBox 0 = .ok (.iload_n 0, 1) ∧ decode cX11_isBox 1 = .ok (.ifCond .lt 12, 3) ∧ decode cX11_isBox 13 = .ok (.iconst 0, 1) ∧ decode cX11_isBox 14 = .ok (.ireturn, 1) ∧ decode cX11_isBox 4 = .ok (.iload_n 0, 1) ∧ decode cX11_isBox 5 = .ok (.iconst 3, 1) ∧ decode cX11_isBox 6 = .ok (.if_icmp .ge 7, 3) ∧ decode cX11_isBox 9 = .ok (.iconst 1, 1) ∧ decode cX11_isBox 10 = .ok (.goto 4, 3) := by decide +kernel
theorem dX11_isBox_0 : decode cX11_isBox 0 = .ok (.iload_n 0, 1) := gdX11_isBox_0.1
theorem dX11_isBox_1 : decode cX11_isBox 1 = .ok (.ifCond .lt 12, 3) := gdX11_isBox_0.2.1
theorem dX11_isBox_13 : decode cX11_isBox 13 = .ok (.iconst 0, 1) := gdX11_isBox_0.2.2.1
theorem dX11_isBox_14 : decode cX11_isBox 14 = .ok (.ireturn, 1) := gdX11_isBox_0.2.2.2.1
theorem dX11_isBox_4 : decode cX11_isBox 4 = .ok (.iload_n 0, 1) := gdX11_isBox_0.2.2.2.2.1
theorem dX11_isBox_5 : decode cX11_isBox 5 = .ok (.iconst 3, 1) := gdX11_isBox_0.2.2.2.2.2.1
theorem dX11_isBox_6 : decode cX11_isBox 6 = .ok (.if_icmp .ge 7, 3) := gdX11_isBox_0.2.2.2.2.2.2.1
theorem dX11_isBox_9 : decode cX11_isBox 9 = .ok (.iconst 1, 1) := gdX11_isBox_0.2.2.2.2.2.2.2.1
theorem dX11_isBox_10 : decode cX11_isBox 10 = .ok (.goto 4, 3) := gdX11_isBox_0.2.2.2.2.2.2.2.2
set_option maxHeartbeats 1000000 in
set_option maxRecDepth 100000 in
theorem s_xisBox (l : Launch) (D : va_G) (cy : Nat → ClassId) (ix : Int32)  : XMi l D (tyL cy) E0 yX11_isBox cX11_isBox 1 (some .boolean) (rmk 0 0 0) [.int ix] [] (fun (r : Int32) (_ : Unit) => (r = 0 ∨ r = 1) ∧ (r = 0 ∨ (r = 1 ∧ ∃ j9 : Nat, j9 < 3 ∧ ix = nI j9)) ∧ (r = 0 → ¬ inR ix 3)) (fun (_ : Unit) => []) := by
  refine XMi.start (by decide) (Nat.le_of_ble_eq_true rfl) ?_
  intro p e s m below meth c args A ls Q hat hQ
  obtain ⟨hx, hb, hr, hml, hown, hg, hlocks, hin, hK, hA, hP, hD, hS, hE, hl⟩ := hat
  have hown : s.vm.findClass RX11 = some m.cls := hown
  have hl : lv_has ls 1 [(0, .int ix)] := hl
  refine lv_iload_n hx hb dX11_isBox_0 rfl (lv_at hl 0 rfl) ?_
  refine lv_if_lt (tgt := 13) hx hb dX11_isBox_1 (by decide) (fun c_1 => ?_) (fun c_1 => ?_)
  · refine lv_iconst (v := 0) hx hb dX11_isBox_13 (by decide) ?_
    exact x_zret hQ hx hb hr hlocks hK hP hD hS rfl dX11_isBox_14 () (⟨(Or.inl rfl), Or.inl rfl, fun _ => inR_neg (c := 3) (by decide) c_1⟩) [] (by decide +kernel) rfl (Nat.le_of_ble_eq_true rfl) (Nat.le_of_ble_eq_true rfl)
  · refine lv_iload_n hx hb dX11_isBox_4 rfl (lv_at hl 0 rfl) ?_
    refine lv_iconst (v := 3) hx hb dX11_isBox_5 (by decide) ?_
    refine lv_icmp_ge (tgt := 13) hx hb dX11_isBox_6 (by decide) (fun c_6 => ?_) (fun c_6 => ?_)
    · refine lv_iconst (v := 0) hx hb dX11_isBox_13 (by decide) ?_
      exact x_zret hQ hx hb hr hlocks hK hP hD hS rfl dX11_isBox_14 () (⟨(Or.inl rfl), Or.inl rfl, fun _ => inR_ge (c := 3) (by decide) c_6⟩) [] (by decide +kernel) rfl (Nat.le_of_ble_eq_true rfl) (Nat.le_of_ble_eq_true rfl)
    · refine lv_iconst (v := 1) hx hb dX11_isBox_9 (by decide) ?_
      refine lv_goto (tgt := 14) hx hb dX11_isBox_10 (by decide) ?_
      exact x_zret hQ hx hb hr hlocks hK hP hD hS rfl dX11_isBox_14 () (⟨(Or.inr rfl), Or.inr ⟨rfl, has_in (c := 3) (by decide) c_1 c_6⟩, fun h9 => absurd h9 (by decide)⟩) [] (by decide +kernel) rfl (Nat.le_of_ble_eq_true rfl) (Nat.le_of_ble_eq_true rfl)
theorem gdX11_isSought_0 : decode cX11_isSought 0 = .ok (.iload_n 0, 1) ∧ decode cX11_isSought 1 = .ok (.iconst 1, 1) ∧ decode cX11_isSought 2 = .ok (.if_icmp .lt 12, 3) ∧ decode cX11_isSought 14 = .ok (.iconst 0, 1) ∧ decode cX11_isSought 15 = .ok (.ireturn, 1) ∧ decode cX11_isSought 5 = .ok (.iload_n 0, 1) ∧ decode cX11_isSought 6 = .ok (.iconst 5, 1) ∧ decode cX11_isSought 7 = .ok (.if_icmp .gt 7, 3) ∧ decode cX11_isSought 10 = .ok (.iconst 1, 1) ∧ decode cX11_isSought 11 = .ok (.goto 4, 3) := by decide +kernel
theorem dX11_isSought_0 : decode cX11_isSought 0 = .ok (.iload_n 0, 1) := gdX11_isSought_0.1
theorem dX11_isSought_1 : decode cX11_isSought 1 = .ok (.iconst 1, 1) := gdX11_isSought_0.2.1
theorem dX11_isSought_2 : decode cX11_isSought 2 = .ok (.if_icmp .lt 12, 3) := gdX11_isSought_0.2.2.1
theorem dX11_isSought_14 : decode cX11_isSought 14 = .ok (.iconst 0, 1) := gdX11_isSought_0.2.2.2.1
theorem dX11_isSought_15 : decode cX11_isSought 15 = .ok (.ireturn, 1) := gdX11_isSought_0.2.2.2.2.1
theorem dX11_isSought_5 : decode cX11_isSought 5 = .ok (.iload_n 0, 1) := gdX11_isSought_0.2.2.2.2.2.1
theorem dX11_isSought_6 : decode cX11_isSought 6 = .ok (.iconst 5, 1) := gdX11_isSought_0.2.2.2.2.2.2.1
theorem dX11_isSought_7 : decode cX11_isSought 7 = .ok (.if_icmp .gt 7, 3) := gdX11_isSought_0.2.2.2.2.2.2.2.1
theorem dX11_isSought_10 : decode cX11_isSought 10 = .ok (.iconst 1, 1) := gdX11_isSought_0.2.2.2.2.2.2.2.2.1
theorem dX11_isSought_11 : decode cX11_isSought 11 = .ok (.goto 4, 3) := gdX11_isSought_0.2.2.2.2.2.2.2.2.2
set_option maxHeartbeats 1000000 in
set_option maxRecDepth 100000 in
theorem s_xisSought (l : Launch) (D : va_G) (cy : Nat → ClassId) (ix : Int32)  : XMi l D (tyL cy) E0 yX11_isSought cX11_isSought 1 (some .boolean) (rmk 0 0 0) [.int ix] [] (fun (r : Int32) (_ : Unit) => (r = 0 ∨ r = 1) ∧ (r = 0 ∨ (r = 1 ∧ ∃ j9 : Nat, 1 ≤ j9 ∧ j9 ≤ 5 ∧ ix = nI j9))) (fun (_ : Unit) => []) := by
  refine XMi.start (by decide) (Nat.le_of_ble_eq_true rfl) ?_
  intro p e s m below meth c args A ls Q hat hQ
  obtain ⟨hx, hb, hr, hml, hown, hg, hlocks, hin, hK, hA, hP, hD, hS, hE, hl⟩ := hat
  have hown : s.vm.findClass RX11 = some m.cls := hown
  have hl : lv_has ls 1 [(0, .int ix)] := hl
  refine lv_iload_n hx hb dX11_isSought_0 rfl (lv_at hl 0 rfl) ?_
  refine lv_iconst (v := 1) hx hb dX11_isSought_1 (by decide) ?_
  refine lv_icmp_lt (tgt := 14) hx hb dX11_isSought_2 (by decide) (fun c_2 => ?_) (fun c_2 => ?_)
  · refine lv_iconst (v := 0) hx hb dX11_isSought_14 (by decide) ?_
    exact x_zret hQ hx hb hr hlocks hK hP hD hS rfl dX11_isSought_15 () (⟨(Or.inl rfl), Or.inl rfl⟩) [] (by decide +kernel) rfl (Nat.le_of_ble_eq_true rfl) (Nat.le_of_ble_eq_true rfl)
  · refine lv_iload_n hx hb dX11_isSought_5 rfl (lv_at hl 0 rfl) ?_
    refine lv_iconst (v := 5) hx hb dX11_isSought_6 (by decide) ?_
    refine lv_icmp_gt (tgt := 14) hx hb dX11_isSought_7 (by decide) (fun c_7 => ?_) (fun c_7 => ?_)
    · refine lv_iconst (v := 0) hx hb dX11_isSought_14 (by decide) ?_
      exact x_zret hQ hx hb hr hlocks hK hP hD hS rfl dX11_isSought_15 () (⟨(Or.inl rfl), Or.inl rfl⟩) [] (by decide +kernel) rfl (Nat.le_of_ble_eq_true rfl) (Nat.le_of_ble_eq_true rfl)
    · refine lv_iconst (v := 1) hx hb dX11_isSought_10 (by decide) ?_
      refine lv_goto (tgt := 15) hx hb dX11_isSought_11 (by decide) ?_
      exact x_zret hQ hx hb hr hlocks hK hP hD hS rfl dX11_isSought_15 () (⟨(Or.inr rfl), Or.inr ⟨rfl, btw (a := 1) (b := 5) (by decide) (by decide) c_2 c_7⟩⟩) [] (by decide +kernel) rfl (Nat.le_of_ble_eq_true rfl) (Nat.le_of_ble_eq_true rfl)
theorem gdX11_oneOf_0 : decode cX11_oneOf 0 = .ok (.iload_n 0, 1) ∧ decode cX11_oneOf 1 = .ok (.ifCond .ne 5, 3) ∧ decode cX11_oneOf 6 = .ok (.iload_n 0, 1) ∧ decode cX11_oneOf 7 = .ok (.iconst 1, 1) ∧ decode cX11_oneOf 8 = .ok (.if_icmp .ne 7, 3) ∧ decode cX11_oneOf 15 = .ok (.iload_n 3, 1) ∧ decode cX11_oneOf 16 = .ok (.ireturn, 1) ∧ decode cX11_oneOf 11 = .ok (.iload_n 2, 1) ∧ decode cX11_oneOf 12 = .ok (.goto 4, 3) ∧ decode cX11_oneOf 4 = .ok (.iload_n 1, 1) ∧ decode cX11_oneOf 5 = .ok (.ireturn, 1) := by decide +kernel
theorem dX11_oneOf_0 : decode cX11_oneOf 0 = .ok (.iload_n 0, 1) := gdX11_oneOf_0.1
theorem dX11_oneOf_1 : decode cX11_oneOf 1 = .ok (.ifCond .ne 5, 3) := gdX11_oneOf_0.2.1
theorem dX11_oneOf_6 : decode cX11_oneOf 6 = .ok (.iload_n 0, 1) := gdX11_oneOf_0.2.2.1
theorem dX11_oneOf_7 : decode cX11_oneOf 7 = .ok (.iconst 1, 1) := gdX11_oneOf_0.2.2.2.1
theorem dX11_oneOf_8 : decode cX11_oneOf 8 = .ok (.if_icmp .ne 7, 3) := gdX11_oneOf_0.2.2.2.2.1
theorem dX11_oneOf_15 : decode cX11_oneOf 15 = .ok (.iload_n 3, 1) := gdX11_oneOf_0.2.2.2.2.2.1
theorem dX11_oneOf_16 : decode cX11_oneOf 16 = .ok (.ireturn, 1) := gdX11_oneOf_0.2.2.2.2.2.2.1
theorem dX11_oneOf_11 : decode cX11_oneOf 11 = .ok (.iload_n 2, 1) := gdX11_oneOf_0.2.2.2.2.2.2.2.1
theorem dX11_oneOf_12 : decode cX11_oneOf 12 = .ok (.goto 4, 3) := gdX11_oneOf_0.2.2.2.2.2.2.2.2.1
theorem dX11_oneOf_4 : decode cX11_oneOf 4 = .ok (.iload_n 1, 1) := gdX11_oneOf_0.2.2.2.2.2.2.2.2.2.1
theorem dX11_oneOf_5 : decode cX11_oneOf 5 = .ok (.ireturn, 1) := gdX11_oneOf_0.2.2.2.2.2.2.2.2.2.2
set_option maxHeartbeats 1000000 in
set_option maxRecDepth 100000 in
theorem s_xoneOf (l : Launch) (D : va_G) (cy : Nat → ClassId) (xa : Int32) (xb : Int32) (xc9 : Int32) (xd : Int32)  : XMi l D (tyL cy) E0 yX11_oneOf cX11_oneOf 4 (some .int) (rmk 0 0 0) [.int xa, .int xb, .int xc9, .int xd] [] (fun (r : Int32) (_ : Unit) => True) (fun (_ : Unit) => []) := by
  refine XMi.start (by decide) (Nat.le_of_ble_eq_true rfl) ?_
  intro p e s m below meth c args A ls Q hat hQ
  obtain ⟨hx, hb, hr, hml, hown, hg, hlocks, hin, hK, hA, hP, hD, hS, hE, hl⟩ := hat
  have hown : s.vm.findClass RX11 = some m.cls := hown
  have hl : lv_has ls 4 [(0, .int xa), (1, .int xb), (2, .int xc9), (3, .int xd)] := hl
  refine lv_iload_n hx hb dX11_oneOf_0 rfl (lv_at hl 0 rfl) ?_
  refine lv_if_ne (tgt := 6) hx hb dX11_oneOf_1 (by decide) (fun c_1 => ?_) (fun c_1 => ?_)
  · refine lv_iload_n hx hb dX11_oneOf_6 rfl (lv_at hl 0 rfl) ?_
    refine lv_iconst (v := 1) hx hb dX11_oneOf_7 (by decide) ?_
    refine lv_icmp_ne (tgt := 15) hx hb dX11_oneOf_8 (by decide) (fun c_8 => ?_) (fun c_8 => ?_)
    · refine lv_iload_n hx hb dX11_oneOf_15 rfl (lv_at hl 3 rfl) ?_
      exact x_iret hQ hx hb hr hlocks hK hP hD hS dX11_oneOf_16 () (trivial) [] (by decide +kernel) rfl (Nat.le_of_ble_eq_true rfl) (Nat.le_of_ble_eq_true rfl)
    · refine lv_iload_n hx hb dX11_oneOf_11 rfl (lv_at hl 2 rfl) ?_
      refine lv_goto (tgt := 16) hx hb dX11_oneOf_12 (by decide) ?_
      exact x_iret hQ hx hb hr hlocks hK hP hD hS dX11_oneOf_16 () (trivial) [] (by decide +kernel) rfl (Nat.le_of_ble_eq_true rfl) (Nat.le_of_ble_eq_true rfl)
  · refine lv_iload_n hx hb dX11_oneOf_4 rfl (lv_at hl 1 rfl) ?_
    exact x_iret hQ hx hb hr hlocks hK hP hD hS dX11_oneOf_5 () (trivial) [] (by decide +kernel) rfl (Nat.le_of_ble_eq_true rfl) (Nat.le_of_ble_eq_true rfl)
set_option maxHeartbeats 1000000 in
set_option maxRecDepth 100000 in
theorem s_cryLen0 (l : Launch) (D : va_G) (cy : Nat → ClassId) (n0 : Nat) (n1 : Nat) (n2 : Nat) (n3 : Nat) (fu : Int32) (cu : Nat) (un : Nat) (re : Nat) (fn : Nat → Int32) (hno : mRows fn 1) : XMi l D (tyL cy) E0 yX5_cryLength cX5_cryLength 2 (some .int) (rmk 0 0 0) [.ref n0, .int 0] [wO n0 5 [.ref n1, .ref n2, .ref n3, .int fu, .int (nI cu), .int (nI un), .int (nI re)], wI (cy 1) n1 41 (fn)] (fun (r : Int32) (k : Nat) => (r = nI k) ∧ (k ≤ 10) ∧ (fn 0 = nI k)) (fun (k : Nat) => [wO n0 5 [.ref n1, .ref n2, .ref n3, .int fu, .int (nI cu), .int (nI un), .int (nI re)], wI (cy 1) n1 41 (fn)]) := by
  refine XMi.start (by decide) (Nat.le_of_ble_eq_true rfl) ?_
  intro p e s m below meth c args A ls Q hat hQ
  obtain ⟨hx, hb, hr, hml, hown, hg, hlocks, hin, hK, hA, hP, hD, hS, hE, hl⟩ := hat
  have hown : s.vm.findClass RX5 = some m.cls := hown
  have hl : lv_has ls 2 [(0, .ref n0), (1, .int 0)] := hl
  refine lv_aload_n hx hb dX5_cryLength_0 rfl (lv_at hl 0 rfl) ?_
  refine va_get (D := D) (ci := 5) (v := .ref n1) (C := RX5) (T := TX5) (N := 7) hx hb hg i_X5 hown hK hP 0 rfl rfl 0 (by decide) (hg _ m_423) (fun _ h9 => h9) rfl dX5_cryLength_1 ?_
  refine lv_iload_n hx hb dX5_cryLength_4 rfl (lv_at hl 1 rfl) ?_
  refine lv_bipush (v := 11) hx hb dX5_cryLength_5 (by decide) ?_
  refine lv_imul hx hb dX5_cryLength_7 ?_
  refine lv_topi (fun y_1 hy_1 => ?_)
  obtain rfl : y_1 = 0 := hy_1.trans (by decide +kernel)
  refine va_iald hx hb hK hP 1 1 rfl rfl (by unfold vp_in; decide) dX5_cryLength_8 ?_
  obtain ⟨j_2, hj_2, ej_2⟩ := (m_lenAt hno).1
  refine lv_topi (fun y_3 hy_3 => ?_)
  obtain rfl : y_3 = nI j_2 := hy_3.trans ej_2
  exact x_iret hQ hx hb hr hlocks hK hP hD hS dX5_cryLength_9 j_2 (⟨rfl, (show j_2 ≤ 10 from by omega), ej_2⟩) [0, 1] (by decide +kernel) rfl (Nat.le_of_ble_eq_true rfl) (Nat.le_of_ble_eq_true rfl)
set_option maxHeartbeats 1000000 in
set_option maxRecDepth 100000 in
theorem s_cryLen1 (l : Launch) (D : va_G) (cy : Nat → ClassId) (n0 : Nat) (n1 : Nat) (n2 : Nat) (n3 : Nat) (fu : Int32) (cu : Nat) (un : Nat) (re : Nat) (fn : Nat → Int32) (hno : mRows fn 1) : XMi l D (tyL cy) E0 yX5_cryLength cX5_cryLength 2 (some .int) (rmk 0 0 0) [.ref n0, .int 1] [wO n0 5 [.ref n1, .ref n2, .ref n3, .int fu, .int (nI cu), .int (nI un), .int (nI re)], wI (cy 1) n1 41 (fn)] (fun (r : Int32) (k : Nat) => (r = nI k) ∧ (k ≤ 10) ∧ (fn 11 = nI k)) (fun (k : Nat) => [wO n0 5 [.ref n1, .ref n2, .ref n3, .int fu, .int (nI cu), .int (nI un), .int (nI re)], wI (cy 1) n1 41 (fn)]) := by
  refine XMi.start (by decide) (Nat.le_of_ble_eq_true rfl) ?_
  intro p e s m below meth c args A ls Q hat hQ
  obtain ⟨hx, hb, hr, hml, hown, hg, hlocks, hin, hK, hA, hP, hD, hS, hE, hl⟩ := hat
  have hown : s.vm.findClass RX5 = some m.cls := hown
  have hl : lv_has ls 2 [(0, .ref n0), (1, .int 1)] := hl
  refine lv_aload_n hx hb dX5_cryLength_0 rfl (lv_at hl 0 rfl) ?_
  refine va_get (D := D) (ci := 5) (v := .ref n1) (C := RX5) (T := TX5) (N := 7) hx hb hg i_X5 hown hK hP 0 rfl rfl 0 (by decide) (hg _ m_423) (fun _ h9 => h9) rfl dX5_cryLength_1 ?_
  refine lv_iload_n hx hb dX5_cryLength_4 rfl (lv_at hl 1 rfl) ?_
  refine lv_bipush (v := 11) hx hb dX5_cryLength_5 (by decide) ?_
  refine lv_imul hx hb dX5_cryLength_7 ?_
  refine lv_topi (fun y_1 hy_1 => ?_)
  obtain rfl : y_1 = 11 := hy_1.trans (by decide +kernel)
  refine va_iald hx hb hK hP 1 1 rfl rfl (by unfold vp_in; decide) dX5_cryLength_8 ?_
  obtain ⟨j_2, hj_2, ej_2⟩ := (m_lenAt hno).2
  refine lv_topi (fun y_3 hy_3 => ?_)
  obtain rfl : y_3 = nI j_2 := hy_3.trans ej_2
  exact x_iret hQ hx hb hr hlocks hK hP hD hS dX5_cryLength_9 j_2 (⟨rfl, (show j_2 ≤ 10 from by omega), ej_2⟩) [0, 1] (by decide +kernel) rfl (Nat.le_of_ble_eq_true rfl) (Nat.le_of_ble_eq_true rfl)
theorem gdX11_layDown_0 : decode cX11_layDown 0 = .ok (.aload_n 1, 1) ∧ decode cX11_layDown 1 = .ok (.iconst 0, 1) ∧ decode cX11_layDown 2 = .ok (.aload_n 0, 1) ∧ decode cX11_layDown 3 = .ok (.getfield 85, 3) := by decide +kernel
theorem dX11_layDown_0 : decode cX11_layDown 0 = .ok (.aload_n 1, 1) := gdX11_layDown_0.1
theorem dX11_layDown_1 : decode cX11_layDown 1 = .ok (.iconst 0, 1) := gdX11_layDown_0.2.1
theorem dX11_layDown_2 : decode cX11_layDown 2 = .ok (.aload_n 0, 1) := gdX11_layDown_0.2.2.1
theorem dX11_layDown_3 : decode cX11_layDown 3 = .ok (.getfield 85, 3) := gdX11_layDown_0.2.2.2
set_option maxRecDepth 20000 in
theorem i_X11 : ∀ w ∈ u_ws RX11 TX11 14, w ∈ gT := gin [672, 674, 676, 678, 680, 682, 684, 686, 688, 690, 692, 694, 696, 698] (by decide +kernel) (by decide +kernel)
theorem gdX11_layDown_6 : decode cX11_layDown 6 = .ok (.iconst 0, 1) ∧ decode cX11_layDown 7 = .ok (.iload_n 2, 1) ∧ decode cX11_layDown 8 = .ok (.invokestatic 322, 3) ∧ decode cX11_layDown 11 = .ok (.aload_n 0, 1) ∧ decode cX11_layDown 12 = .ok (.iload_n 2, 1) ∧ decode cX11_layDown 13 = .ok (.putfield 89, 3) ∧ decode cX11_layDown 16 = .ok (.return_, 1) := by decide +kernel
theorem dX11_layDown_6 : decode cX11_layDown 6 = .ok (.iconst 0, 1) := gdX11_layDown_6.1
theorem dX11_layDown_7 : decode cX11_layDown 7 = .ok (.iload_n 2, 1) := gdX11_layDown_6.2.1
theorem dX11_layDown_8 : decode cX11_layDown 8 = .ok (.invokestatic 322, 3) := gdX11_layDown_6.2.2.1
theorem dX11_layDown_11 : decode cX11_layDown 11 = .ok (.aload_n 0, 1) := gdX11_layDown_6.2.2.2.1
theorem dX11_layDown_12 : decode cX11_layDown 12 = .ok (.iload_n 2, 1) := gdX11_layDown_6.2.2.2.2.1
theorem dX11_layDown_13 : decode cX11_layDown 13 = .ok (.putfield 89, 3) := gdX11_layDown_6.2.2.2.2.2.1
theorem dX11_layDown_16 : decode cX11_layDown 16 = .ok (.return_, 1) := gdX11_layDown_6.2.2.2.2.2.2
set_option maxHeartbeats 1000000 in
set_option maxRecDepth 100000 in
theorem s_xlayDown_ro (l : Launch) (D : va_G) (cy : Nat → ClassId) (x0 : Nat) (t0 : Nat) (d0 : Nat) (h0 : Nat) (o0 : Nat) (n0 : Nat) (u0 : Nat) (k0 : Nat) (q0 : Nat) (p0 : Nat) (s0 : Nat) (b0 : Nat) (z0 : Nat) (ly : Nat) (yc : Nat) (rw : Nat) (fa9 : Nat → Int32) (fyl : Nat → Int32) (cn : Nat) (hcn : cn ≤ 10) (hrw9 : rng fa9 20 7) : XMv l D (tyL cy) E0 yX11_layDown cX11_layDown 3 none (rmk 1 0 0) [.ref x0, .ref rw, .int (nI cn)] [wO x0 11 [.ref t0, .ref d0, .ref h0, .ref o0, .ref n0, .ref u0, .ref k0, .ref q0, .ref p0, .ref s0, .ref b0, .ref z0, .ref ly, .int (nI yc)], wI (cy 1) rw 20 (fa9), wI (cy 1) ly 10 (fyl)] (fun (fyl2 : Nat → Int32) => True) (fun (fyl2 : Nat → Int32) => [wO x0 11 [.ref t0, .ref d0, .ref h0, .ref o0, .ref n0, .ref u0, .ref k0, .ref q0, .ref p0, .ref s0, .ref b0, .ref z0, .ref ly, .int (nI cn)], wI (cy 1) rw 20 (fa9), wI (cy 1) ly 10 (fyl2)]) := by
  refine XMv.start (by decide) (Nat.le_of_ble_eq_true rfl) ?_
  intro p e s m below meth c args A ls Q hat hQ
  obtain ⟨hx, hb, hr, hml, hown, hg, hlocks, hin, hK, hA, hP, hD, hS, hE, hl⟩ := hat
  have hown : s.vm.findClass RX11 = some m.cls := hown
  have hl : lv_has ls 3 [(0, .ref x0), (1, .ref rw), (2, .int (nI cn))] := hl
  refine lv_aload_n hx hb dX11_layDown_0 rfl (lv_at hl 1 rfl) ?_
  refine lv_iconst (v := 0) hx hb dX11_layDown_1 (by decide) ?_
  refine lv_aload_n hx hb dX11_layDown_2 rfl (lv_at hl 0 rfl) ?_
  refine va_get (D := D) (ci := 11) (v := .ref ly) (C := RX11) (T := TX11) (N := 14) hx hb hg i_X11 hown hK hP 0 rfl rfl 12 (by decide) (hg _ m_670) (fun _ h9 => h9) rfl dX11_layDown_3 ?_
  refine lv_iconst (v := 0) hx hb dX11_layDown_6 (by decide) ?_
  refine lv_iload_n hx hb dX11_layDown_7 rfl (lv_at hl 2 rfl) ?_
  refine va_copyi hx hb (hml.trans hl.1.symm) hown (hg _ m_1013) (hg _ m_936) (hg _ m_935) (hg _ m_149) hK hP hD hS 1 2 1 1 rfl rfl rfl rfl rfl (by decide) (by decide) (nI_pos (by omega)) (by rw [nI_clamp (n := cn) (by omega)]; show 0 + cn ≤ 20; omega) (by rw [nI_clamp (n := cn) (by omega)]; show 0 + cn ≤ 10; omega) (fun _ _ => rfl) (by decide) (Nat.le_of_ble_eq_true rfl) dX11_layDown_8 (fun H locs hP9 hD9 hS9 => ?_)
  clear hP hD hS
  obtain ⟨g_1, eg_1⟩ : ∃ y, va_cpy (fa9) (fyl) (0 : Int32).toNatClampNeg (0 : Int32).toNatClampNeg (nI cn : Int32).toNatClampNeg = y := ⟨_, rfl⟩
  rw [eg_1] at hP9 hD9
  refine reW [wO x0 11 [.ref t0, .ref d0, .ref h0, .ref o0, .ref n0, .ref u0, .ref k0, .ref q0, .ref p0, .ref s0, .ref b0, .ref z0, .ref ly, .int (nI yc)], wI (cy 1) rw 20 (fa9), wI (cy 1) ly 10 (g_1)] hP9 hD9 hS9 (fun hP hD hS => ?_)
  clear hP9 hD9 hS9
  refine lv_aload_n hx hb dX11_layDown_11 rfl (lv_at hl 0 rfl) ?_
  refine lv_iload_n hx hb dX11_layDown_12 rfl (lv_at hl 2 rfl) ?_
  refine va_put (D := D) (ci := 11) (v := .int (nI cn)) (ty := .int) (C := RX11) (T := TX11) (N := 14) hx hb hg i_X11 tyX11 tyX11_ok nmX11 hown hK hP hD hS 0 rfl rfl 13 (by decide) (hg _ m_671) (fun _ h9 => h9) rfl (by decide +kernel) rfl rfl (Nat.le_of_ble_eq_true rfl) dX11_layDown_13 (fun H locs hP9 hD9 hS9 => ?_)
  clear hP hD hS
  refine reW [wO x0 11 [.ref t0, .ref d0, .ref h0, .ref o0, .ref n0, .ref u0, .ref k0, .ref q0, .ref p0, .ref s0, .ref b0, .ref z0, .ref ly, .int (nI cn)], wI (cy 1) rw 20 (fa9), wI (cy 1) ly 10 (g_1)] hP9 hD9 hS9 (fun hP hD hS => ?_)
  clear hP9 hD9 hS9
  exact x_vret hQ hx hb hr hlocks hK hP hD hS dX11_layDown_16 g_1 (trivial) [0, 1, 2] (by decide +kernel) rfl (Nat.le_of_ble_eq_true rfl) (Nat.le_of_ble_eq_true rfl)
set_option maxHeartbeats 1000000 in
set_option maxRecDepth 100000 in
theorem s_xlayDown_q1 (l : Launch) (D : va_G) (cy : Nat → ClassId) (x0 : Nat) (t0 : Nat) (d0 : Nat) (h0 : Nat) (o0 : Nat) (n0 : Nat) (u0 : Nat) (k0 : Nat) (q0 : Nat) (p0 : Nat) (s0 : Nat) (b0 : Nat) (z0 : Nat) (ly : Nat) (yc : Nat) (rw : Nat) (fa9 : Nat → Int32) (fyl : Nat → Int32) (cn : Nat) (hcn : cn ≤ 5) : XMv l D (tyL cy) E0 yX11_layDown cX11_layDown 3 none (rmk 1 0 0) [.ref x0, .ref rw, .int (nI cn)] [wO x0 11 [.ref t0, .ref d0, .ref h0, .ref o0, .ref n0, .ref u0, .ref k0, .ref q0, .ref p0, .ref s0, .ref b0, .ref z0, .ref ly, .int (nI yc)], wI (cy 1) rw 5 (fa9), wI (cy 1) ly 10 (fyl)] (fun (fyl2 : Nat → Int32) => True) (fun (fyl2 : Nat → Int32) => [wO x0 11 [.ref t0, .ref d0, .ref h0, .ref o0, .ref n0, .ref u0, .ref k0, .ref q0, .ref p0, .ref s0, .ref b0, .ref z0, .ref ly, .int (nI cn)], wI (cy 1) rw 5 (fa9), wI (cy 1) ly 10 (fyl2)]) := by
  refine XMv.start (by decide) (Nat.le_of_ble_eq_true rfl) ?_
  intro p e s m below meth c args A ls Q hat hQ
  obtain ⟨hx, hb, hr, hml, hown, hg, hlocks, hin, hK, hA, hP, hD, hS, hE, hl⟩ := hat
  have hown : s.vm.findClass RX11 = some m.cls := hown
  have hl : lv_has ls 3 [(0, .ref x0), (1, .ref rw), (2, .int (nI cn))] := hl
  refine lv_aload_n hx hb dX11_layDown_0 rfl (lv_at hl 1 rfl) ?_
  refine lv_iconst (v := 0) hx hb dX11_layDown_1 (by decide) ?_
  refine lv_aload_n hx hb dX11_layDown_2 rfl (lv_at hl 0 rfl) ?_
  refine va_get (D := D) (ci := 11) (v := .ref ly) (C := RX11) (T := TX11) (N := 14) hx hb hg i_X11 hown hK hP 0 rfl rfl 12 (by decide) (hg _ m_670) (fun _ h9 => h9) rfl dX11_layDown_3 ?_
  refine lv_iconst (v := 0) hx hb dX11_layDown_6 (by decide) ?_
  refine lv_iload_n hx hb dX11_layDown_7 rfl (lv_at hl 2 rfl) ?_
  refine va_copyi hx hb (hml.trans hl.1.symm) hown (hg _ m_1013) (hg _ m_936) (hg _ m_935) (hg _ m_149) hK hP hD hS 1 2 1 1 rfl rfl rfl rfl rfl (by decide) (by decide) (nI_pos (by omega)) (by rw [nI_clamp (n := cn) (by omega)]; show 0 + cn ≤ 5; omega) (by rw [nI_clamp (n := cn) (by omega)]; show 0 + cn ≤ 10; omega) (fun _ _ => rfl) (by decide) (Nat.le_of_ble_eq_true rfl) dX11_layDown_8 (fun H locs hP9 hD9 hS9 => ?_)
  clear hP hD hS
  obtain ⟨g_1, eg_1⟩ : ∃ y, va_cpy (fa9) (fyl) (0 : Int32).toNatClampNeg (0 : Int32).toNatClampNeg (nI cn : Int32).toNatClampNeg = y := ⟨_, rfl⟩
  rw [eg_1] at hP9 hD9
  refine reW [wO x0 11 [.ref t0, .ref d0, .ref h0, .ref o0, .ref n0, .ref u0, .ref k0, .ref q0, .ref p0, .ref s0, .ref b0, .ref z0, .ref ly, .int (nI yc)], wI (cy 1) rw 5 (fa9), wI (cy 1) ly 10 (g_1)] hP9 hD9 hS9 (fun hP hD hS => ?_)
  clear hP9 hD9 hS9
  refine lv_aload_n hx hb dX11_layDown_11 rfl (lv_at hl 0 rfl) ?_
  refine lv_iload_n hx hb dX11_layDown_12 rfl (lv_at hl 2 rfl) ?_
  refine va_put (D := D) (ci := 11) (v := .int (nI cn)) (ty := .int) (C := RX11) (T := TX11) (N := 14) hx hb hg i_X11 tyX11 tyX11_ok nmX11 hown hK hP hD hS 0 rfl rfl 13 (by decide) (hg _ m_671) (fun _ h9 => h9) rfl (by decide +kernel) rfl rfl (Nat.le_of_ble_eq_true rfl) dX11_layDown_13 (fun H locs hP9 hD9 hS9 => ?_)
  clear hP hD hS
  refine reW [wO x0 11 [.ref t0, .ref d0, .ref h0, .ref o0, .ref n0, .ref u0, .ref k0, .ref q0, .ref p0, .ref s0, .ref b0, .ref z0, .ref ly, .int (nI cn)], wI (cy 1) rw 5 (fa9), wI (cy 1) ly 10 (g_1)] hP9 hD9 hS9 (fun hP hD hS => ?_)
  clear hP9 hD9 hS9
  exact x_vret hQ hx hb hr hlocks hK hP hD hS dX11_layDown_16 g_1 (trivial) [0, 1, 2] (by decide +kernel) rfl (Nat.le_of_ble_eq_true rfl) (Nat.le_of_ble_eq_true rfl)
set_option maxHeartbeats 1000000 in
set_option maxRecDepth 100000 in
theorem s_xlayDown_p1 (l : Launch) (D : va_G) (cy : Nat → ClassId) (x0 : Nat) (t0 : Nat) (d0 : Nat) (h0 : Nat) (o0 : Nat) (n0 : Nat) (u0 : Nat) (k0 : Nat) (q0 : Nat) (p0 : Nat) (s0 : Nat) (b0 : Nat) (z0 : Nat) (ly : Nat) (yc : Nat) (rw : Nat) (fa9 : Nat → Int32) (fyl : Nat → Int32) (cn : Nat) (hcn : cn ≤ 3) : XMv l D (tyL cy) E0 yX11_layDown cX11_layDown 3 none (rmk 1 0 0) [.ref x0, .ref rw, .int (nI cn)] [wO x0 11 [.ref t0, .ref d0, .ref h0, .ref o0, .ref n0, .ref u0, .ref k0, .ref q0, .ref p0, .ref s0, .ref b0, .ref z0, .ref ly, .int (nI yc)], wI (cy 1) rw 3 (fa9), wI (cy 1) ly 10 (fyl)] (fun (fyl2 : Nat → Int32) => True) (fun (fyl2 : Nat → Int32) => [wO x0 11 [.ref t0, .ref d0, .ref h0, .ref o0, .ref n0, .ref u0, .ref k0, .ref q0, .ref p0, .ref s0, .ref b0, .ref z0, .ref ly, .int (nI cn)], wI (cy 1) rw 3 (fa9), wI (cy 1) ly 10 (fyl2)]) := by
  refine XMv.start (by decide) (Nat.le_of_ble_eq_true rfl) ?_
  intro p e s m below meth c args A ls Q hat hQ
  obtain ⟨hx, hb, hr, hml, hown, hg, hlocks, hin, hK, hA, hP, hD, hS, hE, hl⟩ := hat
  have hown : s.vm.findClass RX11 = some m.cls := hown
  have hl : lv_has ls 3 [(0, .ref x0), (1, .ref rw), (2, .int (nI cn))] := hl
  refine lv_aload_n hx hb dX11_layDown_0 rfl (lv_at hl 1 rfl) ?_
  refine lv_iconst (v := 0) hx hb dX11_layDown_1 (by decide) ?_
  refine lv_aload_n hx hb dX11_layDown_2 rfl (lv_at hl 0 rfl) ?_
  refine va_get (D := D) (ci := 11) (v := .ref ly) (C := RX11) (T := TX11) (N := 14) hx hb hg i_X11 hown hK hP 0 rfl rfl 12 (by decide) (hg _ m_670) (fun _ h9 => h9) rfl dX11_layDown_3 ?_
  refine lv_iconst (v := 0) hx hb dX11_layDown_6 (by decide) ?_
  refine lv_iload_n hx hb dX11_layDown_7 rfl (lv_at hl 2 rfl) ?_
  refine va_copyi hx hb (hml.trans hl.1.symm) hown (hg _ m_1013) (hg _ m_936) (hg _ m_935) (hg _ m_149) hK hP hD hS 1 2 1 1 rfl rfl rfl rfl rfl (by decide) (by decide) (nI_pos (by omega)) (by rw [nI_clamp (n := cn) (by omega)]; show 0 + cn ≤ 3; omega) (by rw [nI_clamp (n := cn) (by omega)]; show 0 + cn ≤ 10; omega) (fun _ _ => rfl) (by decide) (Nat.le_of_ble_eq_true rfl) dX11_layDown_8 (fun H locs hP9 hD9 hS9 => ?_)
  clear hP hD hS
  obtain ⟨g_1, eg_1⟩ : ∃ y, va_cpy (fa9) (fyl) (0 : Int32).toNatClampNeg (0 : Int32).toNatClampNeg (nI cn : Int32).toNatClampNeg = y := ⟨_, rfl⟩
  rw [eg_1] at hP9 hD9
  refine reW [wO x0 11 [.ref t0, .ref d0, .ref h0, .ref o0, .ref n0, .ref u0, .ref k0, .ref q0, .ref p0, .ref s0, .ref b0, .ref z0, .ref ly, .int (nI yc)], wI (cy 1) rw 3 (fa9), wI (cy 1) ly 10 (g_1)] hP9 hD9 hS9 (fun hP hD hS => ?_)
  clear hP9 hD9 hS9
  refine lv_aload_n hx hb dX11_layDown_11 rfl (lv_at hl 0 rfl) ?_
  refine lv_iload_n hx hb dX11_layDown_12 rfl (lv_at hl 2 rfl) ?_
  refine va_put (D := D) (ci := 11) (v := .int (nI cn)) (ty := .int) (C := RX11) (T := TX11) (N := 14) hx hb hg i_X11 tyX11 tyX11_ok nmX11 hown hK hP hD hS 0 rfl rfl 13 (by decide) (hg _ m_671) (fun _ h9 => h9) rfl (by decide +kernel) rfl rfl (Nat.le_of_ble_eq_true rfl) dX11_layDown_13 (fun H locs hP9 hD9 hS9 => ?_)
  clear hP hD hS
  refine reW [wO x0 11 [.ref t0, .ref d0, .ref h0, .ref o0, .ref n0, .ref u0, .ref k0, .ref q0, .ref p0, .ref s0, .ref b0, .ref z0, .ref ly, .int (nI cn)], wI (cy 1) rw 3 (fa9), wI (cy 1) ly 10 (g_1)] hP9 hD9 hS9 (fun hP hD hS => ?_)
  clear hP9 hD9 hS9
  exact x_vret hQ hx hb hr hlocks hK hP hD hS dX11_layDown_16 g_1 (trivial) [0, 1, 2] (by decide +kernel) rfl (Nat.le_of_ble_eq_true rfl) (Nat.le_of_ble_eq_true rfl)
theorem gdX11_loadWeather_0 : decode cX11_loadWeather 0 = .ok (.aload_n 1, 1) ∧ decode cX11_loadWeather 1 = .ok (.aload_n 0, 1) ∧ decode cX11_loadWeather 2 = .ok (.getfield 38, 3) ∧ decode cX11_loadWeather 5 = .ok (.getfield 127, 3) ∧ decode cX11_loadWeather 8 = .ok (.bipush 22, 2) ∧ decode cX11_loadWeather 10 = .ok (.iaload, 1) ∧ decode cX11_loadWeather 11 = .ok (.putfield 250, 3) ∧ decode cX11_loadWeather 14 = .ok (.aload_n 1, 1) ∧ decode cX11_loadWeather 15 = .ok (.iconst 0, 1) ∧ decode cX11_loadWeather 16 = .ok (.putfield 247, 3) ∧ decode cX11_loadWeather 19 = .ok (.aload_n 0, 1) ∧ decode cX11_loadWeather 20 = .ok (.getfield 38, 3) := by decide +kernel
theorem dX11_loadWeather_0 : decode cX11_loadWeather 0 = .ok (.aload_n 1, 1) := gdX11_loadWeather_0.1
theorem dX11_loadWeather_1 : decode cX11_loadWeather 1 = .ok (.aload_n 0, 1) := gdX11_loadWeather_0.2.1
theorem dX11_loadWeather_2 : decode cX11_loadWeather 2 = .ok (.getfield 38, 3) := gdX11_loadWeather_0.2.2.1
theorem dX11_loadWeather_5 : decode cX11_loadWeather 5 = .ok (.getfield 127, 3) := gdX11_loadWeather_0.2.2.2.1
theorem dX11_loadWeather_8 : decode cX11_loadWeather 8 = .ok (.bipush 22, 2) := gdX11_loadWeather_0.2.2.2.2.1
theorem dX11_loadWeather_10 : decode cX11_loadWeather 10 = .ok (.iaload, 1) := gdX11_loadWeather_0.2.2.2.2.2.1
theorem dX11_loadWeather_11 : decode cX11_loadWeather 11 = .ok (.putfield 250, 3) := gdX11_loadWeather_0.2.2.2.2.2.2.1
theorem dX11_loadWeather_14 : decode cX11_loadWeather 14 = .ok (.aload_n 1, 1) := gdX11_loadWeather_0.2.2.2.2.2.2.2.1
theorem dX11_loadWeather_15 : decode cX11_loadWeather 15 = .ok (.iconst 0, 1) := gdX11_loadWeather_0.2.2.2.2.2.2.2.2.1
theorem dX11_loadWeather_16 : decode cX11_loadWeather 16 = .ok (.putfield 247, 3) := gdX11_loadWeather_0.2.2.2.2.2.2.2.2.2.1
theorem dX11_loadWeather_19 : decode cX11_loadWeather 19 = .ok (.aload_n 0, 1) := gdX11_loadWeather_0.2.2.2.2.2.2.2.2.2.2.1
theorem dX11_loadWeather_20 : decode cX11_loadWeather 20 = .ok (.getfield 38, 3) := gdX11_loadWeather_0.2.2.2.2.2.2.2.2.2.2.2
theorem gdX11_loadWeather_23 : decode cX11_loadWeather 23 = .ok (.getfield 127, 3) ∧ decode cX11_loadWeather 26 = .ok (.bipush 25, 2) ∧ decode cX11_loadWeather 28 = .ok (.aload_n 1, 1) ∧ decode cX11_loadWeather 29 = .ok (.getfield 319, 3) ∧ decode cX11_loadWeather 32 = .ok (.iconst 0, 1) ∧ decode cX11_loadWeather 33 = .ok (.iconst 4, 1) ∧ decode cX11_loadWeather 34 = .ok (.invokestatic 322, 3) ∧ decode cX11_loadWeather 37 = .ok (.return_, 1) := by decide +kernel
theorem dX11_loadWeather_23 : decode cX11_loadWeather 23 = .ok (.getfield 127, 3) := gdX11_loadWeather_23.1
theorem dX11_loadWeather_26 : decode cX11_loadWeather 26 = .ok (.bipush 25, 2) := gdX11_loadWeather_23.2.1
theorem dX11_loadWeather_28 : decode cX11_loadWeather 28 = .ok (.aload_n 1, 1) := gdX11_loadWeather_23.2.2.1
theorem dX11_loadWeather_29 : decode cX11_loadWeather 29 = .ok (.getfield 319, 3) := gdX11_loadWeather_23.2.2.2.1
theorem dX11_loadWeather_32 : decode cX11_loadWeather 32 = .ok (.iconst 0, 1) := gdX11_loadWeather_23.2.2.2.2.1
theorem dX11_loadWeather_33 : decode cX11_loadWeather 33 = .ok (.iconst 4, 1) := gdX11_loadWeather_23.2.2.2.2.2.1
theorem dX11_loadWeather_34 : decode cX11_loadWeather 34 = .ok (.invokestatic 322, 3) := gdX11_loadWeather_23.2.2.2.2.2.2.1
theorem dX11_loadWeather_37 : decode cX11_loadWeather 37 = .ok (.return_, 1) := gdX11_loadWeather_23.2.2.2.2.2.2.2
set_option maxHeartbeats 1000000 in
set_option maxRecDepth 100000 in
theorem s_xloadWeather (l : Launch) (D : va_G) (cy : Nat → ClassId) (x0 : Nat) (t0 : Nat) (d0 : Nat) (h0 : Nat) (o0 : Nat) (n0 : Nat) (u0 : Nat) (k0 : Nat) (q0 : Nat) (p0 : Nat) (s0 : Nat) (b0 : Nat) (z0 : Nat) (ly : Nat) (yc : Nat) (n1 : Nat) (n2 : Nat) (n3 : Nat) (fu : Int32) (cu : Nat) (un : Nat) (re : Nat) (fn : Nat → Int32) (a0 : Nat) (a1 : Nat) (a2 : Nat) (al : Nat) (apl : Int32) (avo : Int32) (awi : Int32) (ach : Int32) (fan : Nat → Int32) (hno : mRows fn 1) : XMv l D (tyL cy) E0 yX11_loadWeather cX11_loadWeather 2 none (rmk 1 0 0) [.ref x0, .ref a0] [wO x0 11 [.ref t0, .ref d0, .ref h0, .ref o0, .ref n0, .ref u0, .ref k0, .ref q0, .ref p0, .ref s0, .ref b0, .ref z0, .ref ly, .int (nI yc)], wO n0 5 [.ref n1, .ref n2, .ref n3, .int fu, .int (nI cu), .int (nI un), .int (nI re)], wI (cy 1) n1 41 (fn), wO a0 7 [.ref a1, .ref a2, .int (nI al), .int apl, .int avo, .int awi, .int ach], wI (cy 1) a2 4 (fan)] (fun (u : Int32 × (Nat → Int32)) => True) (fun (u : Int32 × (Nat → Int32)) => [wO x0 11 [.ref t0, .ref d0, .ref h0, .ref o0, .ref n0, .ref u0, .ref k0, .ref q0, .ref p0, .ref s0, .ref b0, .ref z0, .ref ly, .int (nI yc)], wO n0 5 [.ref n1, .ref n2, .ref n3, .int fu, .int (nI cu), .int (nI un), .int (nI re)], wI (cy 1) n1 41 (fn), wO a0 7 [.ref a1, .ref a2, .int (nI al), .int apl, .int avo, .int u.1, .int 0], wI (cy 1) a2 4 (u.2)]) := by
  refine XMv.start (by decide) (Nat.le_of_ble_eq_true rfl) ?_
  intro p e s m below meth c args A ls Q hat hQ
  obtain ⟨hx, hb, hr, hml, hown, hg, hlocks, hin, hK, hA, hP, hD, hS, hE, hl⟩ := hat
  have hown : s.vm.findClass RX11 = some m.cls := hown
  have hl : lv_has ls 2 [(0, .ref x0), (1, .ref a0)] := hl
  refine lv_aload_n hx hb dX11_loadWeather_0 rfl (lv_at hl 1 rfl) ?_
  refine lv_aload_n hx hb dX11_loadWeather_1 rfl (lv_at hl 0 rfl) ?_
  refine va_get (D := D) (ci := 11) (v := .ref n0) (C := RX11) (T := TX11) (N := 14) hx hb hg i_X11 hown hK hP 0 rfl rfl 4 (by decide) (hg _ m_662) (fun _ h9 => h9) rfl dX11_loadWeather_2 ?_
  refine va_get (D := D) (ci := 5) (v := .ref n1) (C := RX5) (T := TX5) (N := 7) hx hb hg i_X5 hown hK hP 1 rfl rfl 0 (by decide) (hg _ m_424) (fun _ h9 => h9) rfl dX11_loadWeather_5 ?_
  refine lv_bipush (v := 22) hx hb dX11_loadWeather_8 (by decide) ?_
  refine va_iald hx hb hK hP 2 1 rfl rfl (by unfold vp_in; decide) dX11_loadWeather_10 ?_
  refine lv_topi (fun x_1 ex_1 => ?_)
  refine va_put (D := D) (ci := 7) (v := .int x_1) (ty := .int) (C := RX7) (T := TX7) (N := 7) hx hb hg i_X7 tyX7 tyX7_ok nmX7 hown hK hP hD hS 3 rfl rfl 5 (by decide) (hg _ m_640) (fun _ h9 => h9) rfl (by decide +kernel) rfl rfl (Nat.le_of_ble_eq_true rfl) dX11_loadWeather_11 (fun H locs hP9 hD9 hS9 => ?_)
  clear hP hD hS
  refine reW [wO x0 11 [.ref t0, .ref d0, .ref h0, .ref o0, .ref n0, .ref u0, .ref k0, .ref q0, .ref p0, .ref s0, .ref b0, .ref z0, .ref ly, .int (nI yc)], wO n0 5 [.ref n1, .ref n2, .ref n3, .int fu, .int (nI cu), .int (nI un), .int (nI re)], wI (cy 1) n1 41 (fn), wO a0 7 [.ref a1, .ref a2, .int (nI al), .int apl, .int avo, .int x_1, .int ach], wI (cy 1) a2 4 (fan)] hP9 hD9 hS9 (fun hP hD hS => ?_)
  clear hP9 hD9 hS9
  refine lv_aload_n hx hb dX11_loadWeather_14 rfl (lv_at hl 1 rfl) ?_
  refine lv_iconst (v := 0) hx hb dX11_loadWeather_15 (by decide) ?_
  refine va_put (D := D) (ci := 7) (v := .int 0) (ty := .int) (C := RX7) (T := TX7) (N := 7) hx hb hg i_X7 tyX7 tyX7_ok nmX7 hown hK hP hD hS 3 rfl rfl 6 (by decide) (hg _ m_642) (fun _ h9 => h9) rfl (by decide +kernel) rfl rfl (Nat.le_of_ble_eq_true rfl) dX11_loadWeather_16 (fun H locs hP9 hD9 hS9 => ?_)
  clear hP hD hS
  refine reW [wO x0 11 [.ref t0, .ref d0, .ref h0, .ref o0, .ref n0, .ref u0, .ref k0, .ref q0, .ref p0, .ref s0, .ref b0, .ref z0, .ref ly, .int (nI yc)], wO n0 5 [.ref n1, .ref n2, .ref n3, .int fu, .int (nI cu), .int (nI un), .int (nI re)], wI (cy 1) n1 41 (fn), wO a0 7 [.ref a1, .ref a2, .int (nI al), .int apl, .int avo, .int x_1, .int 0], wI (cy 1) a2 4 (fan)] hP9 hD9 hS9 (fun hP hD hS => ?_)
  clear hP9 hD9 hS9
  refine lv_aload_n hx hb dX11_loadWeather_19 rfl (lv_at hl 0 rfl) ?_
  refine va_get (D := D) (ci := 11) (v := .ref n0) (C := RX11) (T := TX11) (N := 14) hx hb hg i_X11 hown hK hP 0 rfl rfl 4 (by decide) (hg _ m_662) (fun _ h9 => h9) rfl dX11_loadWeather_20 ?_
  refine va_get (D := D) (ci := 5) (v := .ref n1) (C := RX5) (T := TX5) (N := 7) hx hb hg i_X5 hown hK hP 1 rfl rfl 0 (by decide) (hg _ m_424) (fun _ h9 => h9) rfl dX11_loadWeather_23 ?_
  refine lv_bipush (v := 25) hx hb dX11_loadWeather_26 (by decide) ?_
  refine lv_aload_n hx hb dX11_loadWeather_28 rfl (lv_at hl 1 rfl) ?_
  refine va_get (D := D) (ci := 7) (v := .ref a2) (C := RX7) (T := TX7) (N := 7) hx hb hg i_X7 hown hK hP 3 rfl rfl 1 (by decide) (hg _ m_627) (fun _ h9 => h9) rfl dX11_loadWeather_29 ?_
  refine lv_iconst (v := 0) hx hb dX11_loadWeather_32 (by decide) ?_
  refine lv_iconst (v := 4) hx hb dX11_loadWeather_33 (by decide) ?_
  refine va_copyi hx hb (hml.trans hl.1.symm) hown (hg _ m_1013) (hg _ m_936) (hg _ m_935) (hg _ m_149) hK hP hD hS 2 4 1 1 rfl rfl rfl rfl rfl (by decide) (by decide) (by decide) (by decide) (by decide) (fun _ _ => rfl) (by decide) (Nat.le_of_ble_eq_true rfl) dX11_loadWeather_34 (fun H locs hP9 hD9 hS9 => ?_)
  clear hP hD hS
  obtain ⟨g_2, eg_2⟩ : ∃ y, va_cpy (fn) (fan) (25 : Int32).toNatClampNeg (0 : Int32).toNatClampNeg (4 : Int32).toNatClampNeg = y := ⟨_, rfl⟩
  rw [eg_2] at hP9 hD9
  refine reW [wO x0 11 [.ref t0, .ref d0, .ref h0, .ref o0, .ref n0, .ref u0, .ref k0, .ref q0, .ref p0, .ref s0, .ref b0, .ref z0, .ref ly, .int (nI yc)], wO n0 5 [.ref n1, .ref n2, .ref n3, .int fu, .int (nI cu), .int (nI un), .int (nI re)], wI (cy 1) n1 41 (fn), wO a0 7 [.ref a1, .ref a2, .int (nI al), .int apl, .int avo, .int x_1, .int 0], wI (cy 1) a2 4 (g_2)] hP9 hD9 hS9 (fun hP hD hS => ?_)
  clear hP9 hD9 hS9
  exact x_vret hQ hx hb hr hlocks hK hP hD hS dX11_loadWeather_37 (x_1, g_2) (trivial) [0, 1, 2, 3, 4] (by decide +kernel) rfl (Nat.le_of_ble_eq_true rfl) (Nat.le_of_ble_eq_true rfl)
theorem gdX11_loadCry_0 : decode cX11_loadCry 0 = .ok (.aload_n 1, 1) ∧ decode cX11_loadCry 1 = .ok (.aload_n 0, 1) ∧ decode cX11_loadCry 2 = .ok (.getfield 38, 3) ∧ decode cX11_loadCry 5 = .ok (.iload_n 2, 1) ∧ decode cX11_loadCry 6 = .ok (.invokevirtual 147, 3) := by decide +kernel
theorem dX11_loadCry_0 : decode cX11_loadCry 0 = .ok (.aload_n 1, 1) := gdX11_loadCry_0.1
theorem dX11_loadCry_1 : decode cX11_loadCry 1 = .ok (.aload_n 0, 1) := gdX11_loadCry_0.2.1
theorem dX11_loadCry_2 : decode cX11_loadCry 2 = .ok (.getfield 38, 3) := gdX11_loadCry_0.2.2.1
theorem dX11_loadCry_5 : decode cX11_loadCry 5 = .ok (.iload_n 2, 1) := gdX11_loadCry_0.2.2.2.1
theorem dX11_loadCry_6 : decode cX11_loadCry 6 = .ok (.invokevirtual 147, 3) := gdX11_loadCry_0.2.2.2.2
theorem k_X11_147 : xV RX11 RX5 147 yX5_cryLength cX5_cryLength 2 (some .int) 1 := ⟨⟨m_972, m_973, m_974, m_139, m_975⟩, rfl, by decide, by decide, by decide +kernel⟩
theorem gdX11_loadCry_9 : decode cX11_loadCry 9 = .ok (.putfield 253, 3) ∧ decode cX11_loadCry 12 = .ok (.iconst 0, 1) ∧ decode cX11_loadCry 13 = .ok (.istore_n 3, 1) ∧ decode cX11_loadCry 14 = .ok (.iload_n 3, 1) ∧ decode cX11_loadCry 15 = .ok (.aload_n 1, 1) ∧ decode cX11_loadCry 16 = .ok (.getfield 253, 3) ∧ decode cX11_loadCry 19 = .ok (.if_icmp .ge 24, 3) ∧ decode cX11_loadCry 43 = .ok (.return_, 1) ∧ decode cX11_loadCry 22 = .ok (.aload_n 1, 1) ∧ decode cX11_loadCry 23 = .ok (.getfield 254, 3) ∧ decode cX11_loadCry 26 = .ok (.iload_n 3, 1) ∧ decode cX11_loadCry 27 = .ok (.aload_n 0, 1) := by decide +kernel
theorem dX11_loadCry_9 : decode cX11_loadCry 9 = .ok (.putfield 253, 3) := gdX11_loadCry_9.1
theorem dX11_loadCry_12 : decode cX11_loadCry 12 = .ok (.iconst 0, 1) := gdX11_loadCry_9.2.1
theorem dX11_loadCry_13 : decode cX11_loadCry 13 = .ok (.istore_n 3, 1) := gdX11_loadCry_9.2.2.1
theorem dX11_loadCry_14 : decode cX11_loadCry 14 = .ok (.iload_n 3, 1) := gdX11_loadCry_9.2.2.2.1
theorem dX11_loadCry_15 : decode cX11_loadCry 15 = .ok (.aload_n 1, 1) := gdX11_loadCry_9.2.2.2.2.1
theorem dX11_loadCry_16 : decode cX11_loadCry 16 = .ok (.getfield 253, 3) := gdX11_loadCry_9.2.2.2.2.2.1
theorem dX11_loadCry_19 : decode cX11_loadCry 19 = .ok (.if_icmp .ge 24, 3) := gdX11_loadCry_9.2.2.2.2.2.2.1
theorem dX11_loadCry_43 : decode cX11_loadCry 43 = .ok (.return_, 1) := gdX11_loadCry_9.2.2.2.2.2.2.2.1
theorem dX11_loadCry_22 : decode cX11_loadCry 22 = .ok (.aload_n 1, 1) := gdX11_loadCry_9.2.2.2.2.2.2.2.2.1
theorem dX11_loadCry_23 : decode cX11_loadCry 23 = .ok (.getfield 254, 3) := gdX11_loadCry_9.2.2.2.2.2.2.2.2.2.1
theorem dX11_loadCry_26 : decode cX11_loadCry 26 = .ok (.iload_n 3, 1) := gdX11_loadCry_9.2.2.2.2.2.2.2.2.2.2.1
theorem dX11_loadCry_27 : decode cX11_loadCry 27 = .ok (.aload_n 0, 1) := gdX11_loadCry_9.2.2.2.2.2.2.2.2.2.2.2
theorem gdX11_loadCry_28 : decode cX11_loadCry 28 = .ok (.getfield 38, 3) ∧ decode cX11_loadCry 31 = .ok (.iload_n 2, 1) ∧ decode cX11_loadCry 32 = .ok (.iload_n 3, 1) ∧ decode cX11_loadCry 33 = .ok (.invokevirtual 158, 3) := by decide +kernel
theorem dX11_loadCry_28 : decode cX11_loadCry 28 = .ok (.getfield 38, 3) := gdX11_loadCry_28.1
theorem dX11_loadCry_31 : decode cX11_loadCry 31 = .ok (.iload_n 2, 1) := gdX11_loadCry_28.2.1
theorem dX11_loadCry_32 : decode cX11_loadCry 32 = .ok (.iload_n 3, 1) := gdX11_loadCry_28.2.2.1
theorem dX11_loadCry_33 : decode cX11_loadCry 33 = .ok (.invokevirtual 158, 3) := gdX11_loadCry_28.2.2.2
theorem k_X11_158 : xV RX11 RX5 158 yX5_wordAt cX5_wordAt 3 (some .int) 2 := ⟨⟨m_997, m_998, m_999, m_139, m_1000⟩, rfl, by decide, by decide, by decide +kernel⟩
theorem gdX11_loadCry_36 : decode cX11_loadCry 36 = .ok (.iastore, 1) ∧ decode cX11_loadCry 37 = .ok (.iinc 3 1, 3) ∧ decode cX11_loadCry 40 = .ok (.goto (-26), 3) := by decide +kernel
theorem dX11_loadCry_36 : decode cX11_loadCry 36 = .ok (.iastore, 1) := gdX11_loadCry_36.1
theorem dX11_loadCry_37 : decode cX11_loadCry 37 = .ok (.iinc 3 1, 3) := gdX11_loadCry_36.2.1
theorem dX11_loadCry_40 : decode cX11_loadCry 40 = .ok (.goto (-26), 3) := gdX11_loadCry_36.2.2
set_option maxHeartbeats 1000000 in
set_option maxRecDepth 100000 in
theorem s_xloadCry0 (l : Launch) (D : va_G) (cy : Nat → ClassId) (x0 : Nat) (t0 : Nat) (d0 : Nat) (h0 : Nat) (o0 : Nat) (n0 : Nat) (u0 : Nat) (k0 : Nat) (q0 : Nat) (p0 : Nat) (s0 : Nat) (b0 : Nat) (z0 : Nat) (ly : Nat) (yc : Nat) (n1 : Nat) (n2 : Nat) (n3 : Nat) (fu : Int32) (cu : Nat) (un : Nat) (re : Nat) (fn : Nat → Int32) (a0 : Nat) (a1 : Nat) (a2 : Nat) (al : Nat) (apl : Int32) (avo : Int32) (awi : Int32) (ach : Int32) (faw : Nat → Int32) (hno : mRows fn 1) (haw : rng faw 10 7) : XMv l D (tyL cy) E0 yX11_loadCry cX11_loadCry 4 none (rmk 1 0 0) [.ref x0, .ref a0, .int 0] [wO x0 11 [.ref t0, .ref d0, .ref h0, .ref o0, .ref n0, .ref u0, .ref k0, .ref q0, .ref p0, .ref s0, .ref b0, .ref z0, .ref ly, .int (nI yc)], wO n0 5 [.ref n1, .ref n2, .ref n3, .int fu, .int (nI cu), .int (nI un), .int (nI re)], wI (cy 1) n1 41 (fn), wO a0 7 [.ref a1, .ref a2, .int (nI al), .int apl, .int avo, .int awi, .int ach], wI (cy 1) a1 10 (faw)] (fun (u : Nat × (Nat → Int32)) => (u.1 ≤ 10) ∧ (rng u.2 10 7)) (fun (u : Nat × (Nat → Int32)) => [wO x0 11 [.ref t0, .ref d0, .ref h0, .ref o0, .ref n0, .ref u0, .ref k0, .ref q0, .ref p0, .ref s0, .ref b0, .ref z0, .ref ly, .int (nI yc)], wO n0 5 [.ref n1, .ref n2, .ref n3, .int fu, .int (nI cu), .int (nI un), .int (nI re)], wI (cy 1) n1 41 (fn), wO a0 7 [.ref a1, .ref a2, .int (nI u.1), .int apl, .int avo, .int awi, .int ach], wI (cy 1) a1 10 (u.2)]) := by
  refine XMv.start (by decide) (Nat.le_of_ble_eq_true rfl) ?_
  intro p e s m below meth c args A ls Q hat hQ
  obtain ⟨hx, hb, hr, hml, hown, hg, hlocks, hin, hK, hA, hP, hD, hS, hE, hl⟩ := hat
  have hown : s.vm.findClass RX11 = some m.cls := hown
  have hl : lv_has ls 4 [(0, .ref x0), (1, .ref a0), (2, .int 0)] := hl
  refine lv_aload_n hx hb dX11_loadCry_0 rfl (lv_at hl 1 rfl) ?_
  refine lv_aload_n hx hb dX11_loadCry_1 rfl (lv_at hl 0 rfl) ?_
  refine va_get (D := D) (ci := 11) (v := .ref n0) (C := RX11) (T := TX11) (N := 14) hx hb hg i_X11 hown hK hP 0 rfl rfl 4 (by decide) (hg _ m_662) (fun _ h9 => h9) rfl dX11_loadCry_2 ?_
  refine lv_iload_n hx hb dX11_loadCry_5 rfl (lv_at hl 2 rfl) ?_
  refine x_callVi (q := (RX5, TX5, 7)) (ci := 5) (q0 := 0) (wr := [wO x0 11 [.ref t0, .ref d0, .ref h0, .ref o0, .ref n0, .ref u0, .ref k0, .ref q0, .ref p0, .ref s0, .ref b0, .ref z0, .ref ly, .int (nI yc)], wO a0 7 [.ref a1, .ref a2, .int (nI al), .int apl, .int avo, .int awi, .int ach], wI (cy 1) a1 10 (faw)]) (rest := [.ref a0]) ⟨hx, hb, hml, hown, hg, hl.1⟩ k_X11_147 (s_cryLen0 l D cy n0 n1 n2 n3 fu cu un re fn (hno)) E0_blind hK hP hD hS hA [1, 2] [0, 3, 4] ⟨rfl, rfl, by decide +kernel, by decide +kernel, by decide +kernel⟩ rfl rfl (fun _ _ _ => trivial) dX11_loadCry_6 rfl rfl (Nat.le_of_ble_eq_true rfl) ⟨Nat.le_of_ble_eq_true rfl, Nat.le_of_ble_eq_true rfl⟩ ⟨Nat.le_of_ble_eq_true rfl, Nat.le_of_ble_eq_true rfl⟩ (fun zr1 zu1 H locs hw1 hP9 hD9 hS9 => ?_)
  clear hP hD hS
  obtain ⟨k_2, rfl⟩ : ∃ z, z = zu1 := ⟨_, rfl⟩
  refine reW [wO x0 11 [.ref t0, .ref d0, .ref h0, .ref o0, .ref n0, .ref u0, .ref k0, .ref q0, .ref p0, .ref s0, .ref b0, .ref z0, .ref ly, .int (nI yc)], wO a0 7 [.ref a1, .ref a2, .int (nI al), .int apl, .int avo, .int awi, .int ach], wI (cy 1) a1 10 (faw), wO n0 5 [.ref n1, .ref n2, .ref n3, .int fu, .int (nI cu), .int (nI un), .int (nI re)], wI (cy 1) n1 41 (fn)] hP9 hD9 hS9 (fun hP hD hS => ?_)
  clear hP9 hD9 hS9
  refine W.widen (k := 0) (n := 0) (Nat.le_of_ble_eq_true rfl) (Nat.le_of_ble_eq_true rfl) ?_
  replace hw1 : (zr1 = nI k_2) ∧ (k_2 ≤ 10) ∧ (fn 0 = nI k_2) := hw1
  obtain ⟨f_3, f_4, f_5⟩ := hw1
  subst f_3
  refine va_put (D := D) (ci := 7) (v := .int (nI k_2)) (ty := .int) (C := RX7) (T := TX7) (N := 7) hx hb hg i_X7 tyX7 tyX7_ok nmX7 hown hK hP hD hS 1 rfl rfl 2 (by decide) (hg _ m_632) (fun _ h9 => h9) rfl (by decide +kernel) rfl rfl (Nat.le_of_ble_eq_true rfl) dX11_loadCry_9 (fun H locs hP9 hD9 hS9 => ?_)
  clear hP hD hS
  refine reW [wO x0 11 [.ref t0, .ref d0, .ref h0, .ref o0, .ref n0, .ref u0, .ref k0, .ref q0, .ref p0, .ref s0, .ref b0, .ref z0, .ref ly, .int (nI yc)], wO a0 7 [.ref a1, .ref a2, .int (nI k_2), .int apl, .int avo, .int awi, .int ach], wI (cy 1) a1 10 (faw), wO n0 5 [.ref n1, .ref n2, .ref n3, .int fu, .int (nI cu), .int (nI un), .int (nI re)], wI (cy 1) n1 41 (fn)] hP9 hD9 hS9 (fun hP hD hS => ?_)
  clear hP9 hD9 hS9
  refine lv_iconst (v := 0) hx hb dX11_loadCry_12 (by decide) ?_
  refine lv_istore_n (lv' := [(3, .int 0), (0, .ref x0), (1, .ref a0), (2, .int 0)]) hx hb dX11_loadCry_13 rfl hl (by decide) rfl (fun ls hl => ?_)
  have loop6 : ∀ (zn : Nat) (i6 : Nat) (fa1_6 : Nat → Int32), (rng fa1_6 10 7) → (i6 ≤ 10) → 10 - i6 + 1 ≤ zn → ∀ (H : Heap) (locs : List Loc), va_P D vwCl [wO x0 11 [.ref t0, .ref d0, .ref h0, .ref o0, .ref n0, .ref u0, .ref k0, .ref q0, .ref p0, .ref s0, .ref b0, .ref z0, .ref ly, .int (nI yc)], wO a0 7 [.ref a1, .ref a2, .int (nI k_2), .int apl, .int avo, .int awi, .int ach], wI (cy 1) a1 10 (fa1_6), wO n0 5 [.ref n1, .ref n2, .ref n3, .int fu, .int (nI cu), .int (nI un), .int (nI re)], wI (cy 1) n1 41 (fn)] H → va_D A [wO x0 11 [.ref t0, .ref d0, .ref h0, .ref o0, .ref n0, .ref u0, .ref k0, .ref q0, .ref p0, .ref s0, .ref b0, .ref z0, .ref ly, .int (nI yc)], wO a0 7 [.ref a1, .ref a2, .int (nI k_2), .int apl, .int avo, .int awi, .int ach], wI (cy 1) a1 10 (fa1_6), wO n0 5 [.ref n1, .ref n2, .ref n3, .int fu, .int (nI cu), .int (nI un), .int (nI re)], wI (cy 1) n1 41 (fn)] → va_S A s.heap H locs → ∀ ls : Array Slot, lv_has ls 4 [(3, .int (nI i6)), (0, .ref x0), (1, .ref a0), (2, .int 0)] → W p l e (rmk 1 0 0) s m args below meth c H locs 0 0 Q (F0 m 14 ls []) := by
    try clear hP hD hS
    intro zn
    induction zn with
    | zero => intro i6 fa1_6 _ _ hz; exact absurd hz (by omega)
    | succ zn ih6 =>
      intro i6 fa1_6 ha2_6 hf0_6 hmu6 H locs hP hD hS ls hl
      refine lv_iload_n hx hb dX11_loadCry_14 rfl (lv_at hl 0 rfl) ?_
      refine lv_aload_n hx hb dX11_loadCry_15 rfl (lv_at hl 2 rfl) ?_
      refine va_get (D := D) (ci := 7) (v := .int (nI k_2)) (C := RX7) (T := TX7) (N := 7) hx hb hg i_X7 hown hK hP 1 rfl rfl 2 (by decide) (hg _ m_632) (fun _ h9 => h9) rfl dX11_loadCry_16 ?_
      refine lv_icmp_ge (tgt := 43) hx hb dX11_loadCry_19 (by decide) (fun c_7 => ?_) (fun c_7 => ?_)
      · have q_8 : k_2 ≤ i6 := q_le (a := k_2) (b := i6) rfl rfl (by omega) (by omega) c_7
        exact x_vret hQ hx hb hr hlocks hK hP hD hS dX11_loadCry_43 (k_2, fa1_6) (⟨(show k_2 ≤ 10 from by omega), ha2_6⟩) [0, 3, 4, 1, 2] (by decide +kernel) rfl (Nat.le_of_ble_eq_true rfl) (Nat.le_of_ble_eq_true rfl)
      · have q_8 : i6 < k_2 := q_nle (a := k_2) (b := i6) rfl rfl (by omega) (by omega) c_7
        refine lv_aload_n hx hb dX11_loadCry_22 rfl (lv_at hl 2 rfl) ?_
        refine va_get (D := D) (ci := 7) (v := .ref a1) (C := RX7) (T := TX7) (N := 7) hx hb hg i_X7 hown hK hP 1 rfl rfl 0 (by decide) (hg _ m_624) (fun _ h9 => h9) rfl dX11_loadCry_23 ?_
        refine lv_iload_n hx hb dX11_loadCry_26 rfl (lv_at hl 0 rfl) ?_
        refine lv_aload_n hx hb dX11_loadCry_27 rfl (lv_at hl 1 rfl) ?_
        refine va_get (D := D) (ci := 11) (v := .ref n0) (C := RX11) (T := TX11) (N := 14) hx hb hg i_X11 hown hK hP 0 rfl rfl 4 (by decide) (hg _ m_662) (fun _ h9 => h9) rfl dX11_loadCry_28 ?_
        refine lv_iload_n hx hb dX11_loadCry_31 rfl (lv_at hl 3 rfl) ?_
        refine lv_iload_n hx hb dX11_loadCry_32 rfl (lv_at hl 0 rfl) ?_
        refine x_callVi (q := (RX5, TX5, 7)) (ci := 5) (q0 := 0) (wr := [wO x0 11 [.ref t0, .ref d0, .ref h0, .ref o0, .ref n0, .ref u0, .ref k0, .ref q0, .ref p0, .ref s0, .ref b0, .ref z0, .ref ly, .int (nI yc)], wO a0 7 [.ref a1, .ref a2, .int (nI k_2), .int apl, .int avo, .int awi, .int ach], wI (cy 1) a1 10 (fa1_6)]) (rest := [.int (nI i6), .ref a1]) ⟨hx, hb, hml, hown, hg, hl.1⟩ k_X11_158 (s_wordAt0 l D cy n0 n1 n2 n3 fu cu un re fn i6 (hno) (by omega)) E0_blind hK hP hD hS hA [3, 4] [0, 1, 2] ⟨rfl, rfl, by decide +kernel, by decide +kernel, by decide +kernel⟩ rfl rfl (fun _ _ _ => trivial) dX11_loadCry_33 rfl rfl (Nat.le_of_ble_eq_true rfl) ⟨Nat.le_of_ble_eq_true rfl, Nat.le_of_ble_eq_true rfl⟩ ⟨Nat.le_of_ble_eq_true rfl, Nat.le_of_ble_eq_true rfl⟩ (fun zr9 zu9 H locs hw9 hP9 hD9 hS9 => ?_)
        clear hP hD hS
        obtain ⟨k_10, rfl⟩ : ∃ z, z = zu9 := ⟨_, rfl⟩
        refine reW [wO x0 11 [.ref t0, .ref d0, .ref h0, .ref o0, .ref n0, .ref u0, .ref k0, .ref q0, .ref p0, .ref s0, .ref b0, .ref z0, .ref ly, .int (nI yc)], wO a0 7 [.ref a1, .ref a2, .int (nI k_2), .int apl, .int avo, .int awi, .int ach], wI (cy 1) a1 10 (fa1_6), wO n0 5 [.ref n1, .ref n2, .ref n3, .int fu, .int (nI cu), .int (nI un), .int (nI re)], wI (cy 1) n1 41 (fn)] hP9 hD9 hS9 (fun hP hD hS => ?_)
        clear hP9 hD9 hS9
        refine W.widen (k := 0) (n := 0) (Nat.le_of_ble_eq_true rfl) (Nat.le_of_ble_eq_true rfl) ?_
        replace hw9 : (zr9 = nI k_10) ∧ (k_10 ≤ 7) ∧ (nI k_10 = fn (1 + i6)) := hw9
        obtain ⟨f_11, f_12, f_13⟩ := hw9
        subst f_11
        refine va_iast hx hb hK hP hD hS 2 1 rfl rfl (vp_in_nI (by omega) (by decide)) dX11_loadCry_36 (fun H locs hP9 hD9 hS9 => ?_)
        clear hP hD hS
        have hP := hP9
        have hD := hD9
        have hS := hS9
        clear hP9 hD9 hS9
        obtain ⟨g_14, eg_14⟩ : ∃ y, upd fa1_6 (nI i6 : Int32).toNatClampNeg (nI k_10) = y := ⟨_, rfl⟩
        rw [eg_14] at hP hD
        have hr_15 : rng g_14 10 7 := eg_14 ▸ rng_put ha2_6 (j := k_10) (by omega)
        replace hP : va_P D vwCl [wO x0 11 [.ref t0, .ref d0, .ref h0, .ref o0, .ref n0, .ref u0, .ref k0, .ref q0, .ref p0, .ref s0, .ref b0, .ref z0, .ref ly, .int (nI yc)], wO a0 7 [.ref a1, .ref a2, .int (nI k_2), .int apl, .int avo, .int awi, .int ach], wI (cy 1) a1 10 (g_14), wO n0 5 [.ref n1, .ref n2, .ref n3, .int fu, .int (nI cu), .int (nI un), .int (nI re)], wI (cy 1) n1 41 (fn)] H := hP
        replace hD : va_D A [wO x0 11 [.ref t0, .ref d0, .ref h0, .ref o0, .ref n0, .ref u0, .ref k0, .ref q0, .ref p0, .ref s0, .ref b0, .ref z0, .ref ly, .int (nI yc)], wO a0 7 [.ref a1, .ref a2, .int (nI k_2), .int apl, .int avo, .int awi, .int ach], wI (cy 1) a1 10 (g_14), wO n0 5 [.ref n1, .ref n2, .ref n3, .int fu, .int (nI cu), .int (nI un), .int (nI re)], wI (cy 1) n1 41 (fn)] := hD
        refine lv_iinc (v := nI (i6 + 1)) (lv' := [(3, .int (nI (i6 + 1))), (0, .ref x0), (1, .ref a0), (2, .int 0)]) hx hb dX11_loadCry_37 hl (k := 0) rfl (nI_add i6 1) (by decide) rfl (fun ls hl => ?_)
        refine lv_goto (tgt := 14) hx hb dX11_loadCry_40 (by decide) ?_
        exact ih6  ((i6 + 1)) g_14 hr_15 (by omega) (by omega) _ _ (hP.sub [0, 1, 2, 3, 4] rfl) (hD.sub [0, 1, 2, 3, 4] (by decide +kernel) rfl) hS ls (lv_sub hl [0, 1, 2, 3] rfl)
  exact loop6 _ 0 faw haw (by omega) (Nat.le_refl _) _ _ (hP.sub [0, 1, 2, 3, 4] rfl) (hD.sub [0, 1, 2, 3, 4] (by decide +kernel) rfl) hS ls (lv_sub hl [0, 1, 2, 3] rfl)
set_option maxHeartbeats 1000000 in
set_option maxRecDepth 100000 in
theorem s_xloadCry1 (l : Launch) (D : va_G) (cy : Nat → ClassId) (x0 : Nat) (t0 : Nat) (d0 : Nat) (h0 : Nat) (o0 : Nat) (n0 : Nat) (u0 : Nat) (k0 : Nat) (q0 : Nat) (p0 : Nat) (s0 : Nat) (b0 : Nat) (z0 : Nat) (ly : Nat) (yc : Nat) (n1 : Nat) (n2 : Nat) (n3 : Nat) (fu : Int32) (cu : Nat) (un : Nat) (re : Nat) (fn : Nat → Int32) (a0 : Nat) (a1 : Nat) (a2 : Nat) (al : Nat) (apl : Int32) (avo : Int32) (awi : Int32) (ach : Int32) (faw : Nat → Int32) (hno : mRows fn 1) (haw : rng faw 10 7) : XMv l D (tyL cy) E0 yX11_loadCry cX11_loadCry 4 none (rmk 1 0 0) [.ref x0, .ref a0, .int 1] [wO x0 11 [.ref t0, .ref d0, .ref h0, .ref o0, .ref n0, .ref u0, .ref k0, .ref q0, .ref p0, .ref s0, .ref b0, .ref z0, .ref ly, .int (nI yc)], wO n0 5 [.ref n1, .ref n2, .ref n3, .int fu, .int (nI cu), .int (nI un), .int (nI re)], wI (cy 1) n1 41 (fn), wO a0 7 [.ref a1, .ref a2, .int (nI al), .int apl, .int avo, .int awi, .int ach], wI (cy 1) a1 10 (faw)] (fun (u : Nat × (Nat → Int32)) => (u.1 ≤ 10) ∧ (rng u.2 10 7)) (fun (u : Nat × (Nat → Int32)) => [wO x0 11 [.ref t0, .ref d0, .ref h0, .ref o0, .ref n0, .ref u0, .ref k0, .ref q0, .ref p0, .ref s0, .ref b0, .ref z0, .ref ly, .int (nI yc)], wO n0 5 [.ref n1, .ref n2, .ref n3, .int fu, .int (nI cu), .int (nI un), .int (nI re)], wI (cy 1) n1 41 (fn), wO a0 7 [.ref a1, .ref a2, .int (nI u.1), .int apl, .int avo, .int awi, .int ach], wI (cy 1) a1 10 (u.2)]) := by
  refine XMv.start (by decide) (Nat.le_of_ble_eq_true rfl) ?_
  intro p e s m below meth c args A ls Q hat hQ
  obtain ⟨hx, hb, hr, hml, hown, hg, hlocks, hin, hK, hA, hP, hD, hS, hE, hl⟩ := hat
  have hown : s.vm.findClass RX11 = some m.cls := hown
  have hl : lv_has ls 4 [(0, .ref x0), (1, .ref a0), (2, .int 1)] := hl
  refine lv_aload_n hx hb dX11_loadCry_0 rfl (lv_at hl 1 rfl) ?_
  refine lv_aload_n hx hb dX11_loadCry_1 rfl (lv_at hl 0 rfl) ?_
  refine va_get (D := D) (ci := 11) (v := .ref n0) (C := RX11) (T := TX11) (N := 14) hx hb hg i_X11 hown hK hP 0 rfl rfl 4 (by decide) (hg _ m_662) (fun _ h9 => h9) rfl dX11_loadCry_2 ?_
  refine lv_iload_n hx hb dX11_loadCry_5 rfl (lv_at hl 2 rfl) ?_
  refine x_callVi (q := (RX5, TX5, 7)) (ci := 5) (q0 := 0) (wr := [wO x0 11 [.ref t0, .ref d0, .ref h0, .ref o0, .ref n0, .ref u0, .ref k0, .ref q0, .ref p0, .ref s0, .ref b0, .ref z0, .ref ly, .int (nI yc)], wO a0 7 [.ref a1, .ref a2, .int (nI al), .int apl, .int avo, .int awi, .int ach], wI (cy 1) a1 10 (faw)]) (rest := [.ref a0]) ⟨hx, hb, hml, hown, hg, hl.1⟩ k_X11_147 (s_cryLen1 l D cy n0 n1 n2 n3 fu cu un re fn (hno)) E0_blind hK hP hD hS hA [1, 2] [0, 3, 4] ⟨rfl, rfl, by decide +kernel, by decide +kernel, by decide +kernel⟩ rfl rfl (fun _ _ _ => trivial) dX11_loadCry_6 rfl rfl (Nat.le_of_ble_eq_true rfl) ⟨Nat.le_of_ble_eq_true rfl, Nat.le_of_ble_eq_true rfl⟩ ⟨Nat.le_of_ble_eq_true rfl, Nat.le_of_ble_eq_true rfl⟩ (fun zr1 zu1 H locs hw1 hP9 hD9 hS9 => ?_)
  clear hP hD hS
  obtain ⟨k_2, rfl⟩ : ∃ z, z = zu1 := ⟨_, rfl⟩
  refine reW [wO x0 11 [.ref t0, .ref d0, .ref h0, .ref o0, .ref n0, .ref u0, .ref k0, .ref q0, .ref p0, .ref s0, .ref b0, .ref z0, .ref ly, .int (nI yc)], wO a0 7 [.ref a1, .ref a2, .int (nI al), .int apl, .int avo, .int awi, .int ach], wI (cy 1) a1 10 (faw), wO n0 5 [.ref n1, .ref n2, .ref n3, .int fu, .int (nI cu), .int (nI un), .int (nI re)], wI (cy 1) n1 41 (fn)] hP9 hD9 hS9 (fun hP hD hS => ?_)
  clear hP9 hD9 hS9
  refine W.widen (k := 0) (n := 0) (Nat.le_of_ble_eq_true rfl) (Nat.le_of_ble_eq_true rfl) ?_
  replace hw1 : (zr1 = nI k_2) ∧ (k_2 ≤ 10) ∧ (fn 11 = nI k_2) := hw1
  obtain ⟨f_3, f_4, f_5⟩ := hw1
  subst f_3
  refine va_put (D := D) (ci := 7) (v := .int (nI k_2)) (ty := .int) (C := RX7) (T := TX7) (N := 7) hx hb hg i_X7 tyX7 tyX7_ok nmX7 hown hK hP hD hS 1 rfl rfl 2 (by decide) (hg _ m_632) (fun _ h9 => h9) rfl (by decide +kernel) rfl rfl (Nat.le_of_ble_eq_true rfl) dX11_loadCry_9 (fun H locs hP9 hD9 hS9 => ?_)
  clear hP hD hS
  refine reW [wO x0 11 [.ref t0, .ref d0, .ref h0, .ref o0, .ref n0, .ref u0, .ref k0, .ref q0, .ref p0, .ref s0, .ref b0, .ref z0, .ref ly, .int (nI yc)], wO a0 7 [.ref a1, .ref a2, .int (nI k_2), .int apl, .int avo, .int awi, .int ach], wI (cy 1) a1 10 (faw), wO n0 5 [.ref n1, .ref n2, .ref n3, .int fu, .int (nI cu), .int (nI un), .int (nI re)], wI (cy 1) n1 41 (fn)] hP9 hD9 hS9 (fun hP hD hS => ?_)
  clear hP9 hD9 hS9
  refine lv_iconst (v := 0) hx hb dX11_loadCry_12 (by decide) ?_
  refine lv_istore_n (lv' := [(3, .int 0), (0, .ref x0), (1, .ref a0), (2, .int 1)]) hx hb dX11_loadCry_13 rfl hl (by decide) rfl (fun ls hl => ?_)
  have loop6 : ∀ (zn : Nat) (i6 : Nat) (fa1_6 : Nat → Int32), (rng fa1_6 10 7) → (i6 ≤ 10) → 10 - i6 + 1 ≤ zn → ∀ (H : Heap) (locs : List Loc), va_P D vwCl [wO x0 11 [.ref t0, .ref d0, .ref h0, .ref o0, .ref n0, .ref u0, .ref k0, .ref q0, .ref p0, .ref s0, .ref b0, .ref z0, .ref ly, .int (nI yc)], wO a0 7 [.ref a1, .ref a2, .int (nI k_2), .int apl, .int avo, .int awi, .int ach], wI (cy 1) a1 10 (fa1_6), wO n0 5 [.ref n1, .ref n2, .ref n3, .int fu, .int (nI cu), .int (nI un), .int (nI re)], wI (cy 1) n1 41 (fn)] H → va_D A [wO x0 11 [.ref t0, .ref d0, .ref h0, .ref o0, .ref n0, .ref u0, .ref k0, .ref q0, .ref p0, .ref s0, .ref b0, .ref z0, .ref ly, .int (nI yc)], wO a0 7 [.ref a1, .ref a2, .int (nI k_2), .int apl, .int avo, .int awi, .int ach], wI (cy 1) a1 10 (fa1_6), wO n0 5 [.ref n1, .ref n2, .ref n3, .int fu, .int (nI cu), .int (nI un), .int (nI re)], wI (cy 1) n1 41 (fn)] → va_S A s.heap H locs → ∀ ls : Array Slot, lv_has ls 4 [(3, .int (nI i6)), (0, .ref x0), (1, .ref a0), (2, .int 1)] → W p l e (rmk 1 0 0) s m args below meth c H locs 0 0 Q (F0 m 14 ls []) := by
    try clear hP hD hS
    intro zn
    induction zn with
    | zero => intro i6 fa1_6 _ _ hz; exact absurd hz (by omega)
    | succ zn ih6 =>
      intro i6 fa1_6 ha2_6 hf0_6 hmu6 H locs hP hD hS ls hl
      refine lv_iload_n hx hb dX11_loadCry_14 rfl (lv_at hl 0 rfl) ?_
      refine lv_aload_n hx hb dX11_loadCry_15 rfl (lv_at hl 2 rfl) ?_
      refine va_get (D := D) (ci := 7) (v := .int (nI k_2)) (C := RX7) (T := TX7) (N := 7) hx hb hg i_X7 hown hK hP 1 rfl rfl 2 (by decide) (hg _ m_632) (fun _ h9 => h9) rfl dX11_loadCry_16 ?_
      refine lv_icmp_ge (tgt := 43) hx hb dX11_loadCry_19 (by decide) (fun c_7 => ?_) (fun c_7 => ?_)
      · have q_8 : k_2 ≤ i6 := q_le (a := k_2) (b := i6) rfl rfl (by omega) (by omega) c_7
        exact x_vret hQ hx hb hr hlocks hK hP hD hS dX11_loadCry_43 (k_2, fa1_6) (⟨(show k_2 ≤ 10 from by omega), ha2_6⟩) [0, 3, 4, 1, 2] (by decide +kernel) rfl (Nat.le_of_ble_eq_true rfl) (Nat.le_of_ble_eq_true rfl)
      · have q_8 : i6 < k_2 := q_nle (a := k_2) (b := i6) rfl rfl (by omega) (by omega) c_7
        refine lv_aload_n hx hb dX11_loadCry_22 rfl (lv_at hl 2 rfl) ?_
        refine va_get (D := D) (ci := 7) (v := .ref a1) (C := RX7) (T := TX7) (N := 7) hx hb hg i_X7 hown hK hP 1 rfl rfl 0 (by decide) (hg _ m_624) (fun _ h9 => h9) rfl dX11_loadCry_23 ?_
        refine lv_iload_n hx hb dX11_loadCry_26 rfl (lv_at hl 0 rfl) ?_
        refine lv_aload_n hx hb dX11_loadCry_27 rfl (lv_at hl 1 rfl) ?_
        refine va_get (D := D) (ci := 11) (v := .ref n0) (C := RX11) (T := TX11) (N := 14) hx hb hg i_X11 hown hK hP 0 rfl rfl 4 (by decide) (hg _ m_662) (fun _ h9 => h9) rfl dX11_loadCry_28 ?_
        refine lv_iload_n hx hb dX11_loadCry_31 rfl (lv_at hl 3 rfl) ?_
        refine lv_iload_n hx hb dX11_loadCry_32 rfl (lv_at hl 0 rfl) ?_
        refine x_callVi (q := (RX5, TX5, 7)) (ci := 5) (q0 := 0) (wr := [wO x0 11 [.ref t0, .ref d0, .ref h0, .ref o0, .ref n0, .ref u0, .ref k0, .ref q0, .ref p0, .ref s0, .ref b0, .ref z0, .ref ly, .int (nI yc)], wO a0 7 [.ref a1, .ref a2, .int (nI k_2), .int apl, .int avo, .int awi, .int ach], wI (cy 1) a1 10 (fa1_6)]) (rest := [.int (nI i6), .ref a1]) ⟨hx, hb, hml, hown, hg, hl.1⟩ k_X11_158 (s_wordAt1 l D cy n0 n1 n2 n3 fu cu un re fn i6 (hno) (by omega)) E0_blind hK hP hD hS hA [3, 4] [0, 1, 2] ⟨rfl, rfl, by decide +kernel, by decide +kernel, by decide +kernel⟩ rfl rfl (fun _ _ _ => trivial) dX11_loadCry_33 rfl rfl (Nat.le_of_ble_eq_true rfl) ⟨Nat.le_of_ble_eq_true rfl, Nat.le_of_ble_eq_true rfl⟩ ⟨Nat.le_of_ble_eq_true rfl, Nat.le_of_ble_eq_true rfl⟩ (fun zr9 zu9 H locs hw9 hP9 hD9 hS9 => ?_)
        clear hP hD hS
        obtain ⟨k_10, rfl⟩ : ∃ z, z = zu9 := ⟨_, rfl⟩
        refine reW [wO x0 11 [.ref t0, .ref d0, .ref h0, .ref o0, .ref n0, .ref u0, .ref k0, .ref q0, .ref p0, .ref s0, .ref b0, .ref z0, .ref ly, .int (nI yc)], wO a0 7 [.ref a1, .ref a2, .int (nI k_2), .int apl, .int avo, .int awi, .int ach], wI (cy 1) a1 10 (fa1_6), wO n0 5 [.ref n1, .ref n2, .ref n3, .int fu, .int (nI cu), .int (nI un), .int (nI re)], wI (cy 1) n1 41 (fn)] hP9 hD9 hS9 (fun hP hD hS => ?_)
        clear hP9 hD9 hS9
        refine W.widen (k := 0) (n := 0) (Nat.le_of_ble_eq_true rfl) (Nat.le_of_ble_eq_true rfl) ?_
        replace hw9 : (zr9 = nI k_10) ∧ (k_10 ≤ 7) ∧ (nI k_10 = fn (12 + i6)) := hw9
        obtain ⟨f_11, f_12, f_13⟩ := hw9
        subst f_11
        refine va_iast hx hb hK hP hD hS 2 1 rfl rfl (vp_in_nI (by omega) (by decide)) dX11_loadCry_36 (fun H locs hP9 hD9 hS9 => ?_)
        clear hP hD hS
        have hP := hP9
        have hD := hD9
        have hS := hS9
        clear hP9 hD9 hS9
        obtain ⟨g_14, eg_14⟩ : ∃ y, upd fa1_6 (nI i6 : Int32).toNatClampNeg (nI k_10) = y := ⟨_, rfl⟩
        rw [eg_14] at hP hD
        have hr_15 : rng g_14 10 7 := eg_14 ▸ rng_put ha2_6 (j := k_10) (by omega)
        replace hP : va_P D vwCl [wO x0 11 [.ref t0, .ref d0, .ref h0, .ref o0, .ref n0, .ref u0, .ref k0, .ref q0, .ref p0, .ref s0, .ref b0, .ref z0, .ref ly, .int (nI yc)], wO a0 7 [.ref a1, .ref a2, .int (nI k_2), .int apl, .int avo, .int awi, .int ach], wI (cy 1) a1 10 (g_14), wO n0 5 [.ref n1, .ref n2, .ref n3, .int fu, .int (nI cu), .int (nI un), .int (nI re)], wI (cy 1) n1 41 (fn)] H := hP
        replace hD : va_D A [wO x0 11 [.ref t0, .ref d0, .ref h0, .ref o0, .ref n0, .ref u0, .ref k0, .ref q0, .ref p0, .ref s0, .ref b0, .ref z0, .ref ly, .int (nI yc)], wO a0 7 [.ref a1, .ref a2, .int (nI k_2), .int apl, .int avo, .int awi, .int ach], wI (cy 1) a1 10 (g_14), wO n0 5 [.ref n1, .ref n2, .ref n3, .int fu, .int (nI cu), .int (nI un), .int (nI re)], wI (cy 1) n1 41 (fn)] := hD
        refine lv_iinc (v := nI (i6 + 1)) (lv' := [(3, .int (nI (i6 + 1))), (0, .ref x0), (1, .ref a0), (2, .int 1)]) hx hb dX11_loadCry_37 hl (k := 0) rfl (nI_add i6 1) (by decide) rfl (fun ls hl => ?_)
        refine lv_goto (tgt := 14) hx hb dX11_loadCry_40 (by decide) ?_
        exact ih6  ((i6 + 1)) g_14 hr_15 (by omega) (by omega) _ _ (hP.sub [0, 1, 2, 3, 4] rfl) (hD.sub [0, 1, 2, 3, 4] (by decide +kernel) rfl) hS ls (lv_sub hl [0, 1, 2, 3] rfl)
  exact loop6 _ 0 faw haw (by omega) (Nat.le_refl _) _ _ (hP.sub [0, 1, 2, 3, 4] rfl) (hD.sub [0, 1, 2, 3, 4] (by decide +kernel) rfl) hS ls (lv_sub hl [0, 1, 2, 3] rfl)
theorem gdX11_prepare_0 : decode cX11_prepare 0 = .ok (.aload_n 0, 1) ∧ decode cX11_prepare 1 = .ok (.aload_n 0, 1) ∧ decode cX11_prepare 2 = .ok (.getfield 75, 3) ∧ decode cX11_prepare 5 = .ok (.invokevirtual 220, 3) := by decide +kernel
theorem dX11_prepare_0 : decode cX11_prepare 0 = .ok (.aload_n 0, 1) := gdX11_prepare_0.1
theorem dX11_prepare_1 : decode cX11_prepare 1 = .ok (.aload_n 0, 1) := gdX11_prepare_0.2.1
theorem dX11_prepare_2 : decode cX11_prepare 2 = .ok (.getfield 75, 3) := gdX11_prepare_0.2.2.1
theorem dX11_prepare_5 : decode cX11_prepare 5 = .ok (.invokevirtual 220, 3) := gdX11_prepare_0.2.2.2
theorem k_X11_220 : xV RX11 RX11 220 yX11_loadWeather cX11_loadWeather 2 none 1 := ⟨⟨m_1009, m_1011, m_32, m_130, m_1012⟩, rfl, by decide, by decide, by decide +kernel⟩
theorem gdX11_prepare_8 : decode cX11_prepare 8 = .ok (.aload_n 0, 1) ∧ decode cX11_prepare 9 = .ok (.aload_n 0, 1) ∧ decode cX11_prepare 10 = .ok (.getfield 75, 3) ∧ decode cX11_prepare 13 = .ok (.iconst 0, 1) ∧ decode cX11_prepare 14 = .ok (.invokevirtual 212, 3) := by decide +kernel
theorem dX11_prepare_8 : decode cX11_prepare 8 = .ok (.aload_n 0, 1) := gdX11_prepare_8.1
theorem dX11_prepare_9 : decode cX11_prepare 9 = .ok (.aload_n 0, 1) := gdX11_prepare_8.2.1
theorem dX11_prepare_10 : decode cX11_prepare 10 = .ok (.getfield 75, 3) := gdX11_prepare_8.2.2.1
theorem dX11_prepare_13 : decode cX11_prepare 13 = .ok (.iconst 0, 1) := gdX11_prepare_8.2.2.2.1
theorem dX11_prepare_14 : decode cX11_prepare 14 = .ok (.invokevirtual 212, 3) := gdX11_prepare_8.2.2.2.2
theorem k_X11_212 : xV RX11 RX11 212 yX11_loadCry cX11_loadCry 4 none 2 := ⟨⟨m_1014, m_1016, m_33, m_130, m_1017⟩, rfl, by decide, by decide, by decide +kernel⟩
theorem gdX11_prepare_17 : decode cX11_prepare 17 = .ok (.aload_n 0, 1) ∧ decode cX11_prepare 18 = .ok (.getfield 75, 3) ∧ decode cX11_prepare 21 = .ok (.aload_n 0, 1) ∧ decode cX11_prepare 22 = .ok (.getfield 28, 3) ∧ decode cX11_prepare 25 = .ok (.getfield 130, 3) ∧ decode cX11_prepare 28 = .ok (.iload_n 1, 1) ∧ decode cX11_prepare 29 = .ok (.iaload, 1) ∧ decode cX11_prepare 30 = .ok (.putfield 227, 3) ∧ decode cX11_prepare 33 = .ok (.aload_n 0, 1) ∧ decode cX11_prepare 34 = .ok (.getfield 75, 3) ∧ decode cX11_prepare 37 = .ok (.aload_n 0, 1) ∧ decode cX11_prepare 38 = .ok (.getfield 28, 3) := by decide +kernel
theorem dX11_prepare_17 : decode cX11_prepare 17 = .ok (.aload_n 0, 1) := gdX11_prepare_17.1
theorem dX11_prepare_18 : decode cX11_prepare 18 = .ok (.getfield 75, 3) := gdX11_prepare_17.2.1
theorem dX11_prepare_21 : decode cX11_prepare 21 = .ok (.aload_n 0, 1) := gdX11_prepare_17.2.2.1
theorem dX11_prepare_22 : decode cX11_prepare 22 = .ok (.getfield 28, 3) := gdX11_prepare_17.2.2.2.1
theorem dX11_prepare_25 : decode cX11_prepare 25 = .ok (.getfield 130, 3) := gdX11_prepare_17.2.2.2.2.1
theorem dX11_prepare_28 : decode cX11_prepare 28 = .ok (.iload_n 1, 1) := gdX11_prepare_17.2.2.2.2.2.1
theorem dX11_prepare_29 : decode cX11_prepare 29 = .ok (.iaload, 1) := gdX11_prepare_17.2.2.2.2.2.2.1
theorem dX11_prepare_30 : decode cX11_prepare 30 = .ok (.putfield 227, 3) := gdX11_prepare_17.2.2.2.2.2.2.2.1
theorem dX11_prepare_33 : decode cX11_prepare 33 = .ok (.aload_n 0, 1) := gdX11_prepare_17.2.2.2.2.2.2.2.2.1
theorem dX11_prepare_34 : decode cX11_prepare 34 = .ok (.getfield 75, 3) := gdX11_prepare_17.2.2.2.2.2.2.2.2.2.1
theorem dX11_prepare_37 : decode cX11_prepare 37 = .ok (.aload_n 0, 1) := gdX11_prepare_17.2.2.2.2.2.2.2.2.2.2.1
theorem dX11_prepare_38 : decode cX11_prepare 38 = .ok (.getfield 28, 3) := gdX11_prepare_17.2.2.2.2.2.2.2.2.2.2.2
theorem gdX11_prepare_41 : decode cX11_prepare 41 = .ok (.getfield 133, 3) ∧ decode cX11_prepare 44 = .ok (.iload_n 1, 1) ∧ decode cX11_prepare 45 = .ok (.iaload, 1) ∧ decode cX11_prepare 46 = .ok (.putfield 224, 3) ∧ decode cX11_prepare 49 = .ok (.return_, 1) := by decide +kernel
theorem dX11_prepare_41 : decode cX11_prepare 41 = .ok (.getfield 133, 3) := gdX11_prepare_41.1
theorem dX11_prepare_44 : decode cX11_prepare 44 = .ok (.iload_n 1, 1) := gdX11_prepare_41.2.1
theorem dX11_prepare_45 : decode cX11_prepare 45 = .ok (.iaload, 1) := gdX11_prepare_41.2.2.1
theorem dX11_prepare_46 : decode cX11_prepare 46 = .ok (.putfield 224, 3) := gdX11_prepare_41.2.2.2.1
theorem dX11_prepare_49 : decode cX11_prepare 49 = .ok (.return_, 1) := gdX11_prepare_41.2.2.2.2
set_option maxHeartbeats 1000000 in
set_option maxRecDepth 100000 in
theorem s_xprepare (l : Launch) (D : va_G) (cy : Nat → ClassId) (x0 : Nat) (t0 : Nat) (d0 : Nat) (h0 : Nat) (h1 : Nat) (h2 : Nat) (h3 : Nat) (h4 : Nat) (h5 : Nat) (h6 : Nat) (h7 : Nat) (h8 : Nat) (h9 : Nat) (h10 : Nat) (h11 : Nat) (o0 : Nat) (n0 : Nat) (n1 : Nat) (n2 : Nat) (n3 : Nat) (u0 : Nat) (k0 : Nat) (q0 : Nat) (p0 : Nat) (s0 : Nat) (s1 : Nat) (s2 : Nat) (b0 : Nat) (z0 : Nat) (ly : Nat) (ys : Int32) (hon : Int32) (hwi : Int32) (hdr : Int32) (hu : Int32) (fmp : Nat → Int32) (fmv : Nat → Int32) (fu : Int32) (cu : Nat) (un : Nat) (re : Nat) (fn : Nat → Int32) (sl : Nat) (spl : Int32) (svo : Int32) (swi : Int32) (sch : Int32) (fw : Nat → Int32) (fsn : Nat → Int32) (yc : Nat) (j : Nat) (hcu : cu ≤ 40) (hur : un + re ≤ 40) (hno : mRows fn 1) (hsl : sl ≤ 10) (hsw : rng fw 10 7) (hyc : yc ≤ 10) (hj : j < 4) : XMv l D (tyL cy) E0 yX11_prepare cX11_prepare 2 none (rmk 2 0 0) [.ref x0, .int (nI j)] [wO x0 11 [.ref t0, .ref d0, .ref h0, .ref o0, .ref n0, .ref u0, .ref k0, .ref q0, .ref p0, .ref s0, .ref b0, .ref z0, .ref ly, .int (nI yc)], wO n0 5 [.ref n1, .ref n2, .ref n3, .int fu, .int (nI cu), .int (nI un), .int (nI re)], wI (cy 1) n1 41 (fn), wO s0 7 [.ref s1, .ref s2, .int (nI sl), .int spl, .int svo, .int swi, .int sch], wI (cy 1) s1 10 (fw), wI (cy 1) s2 4 (fsn), wO h0 4 [.ref h1, .ref h2, .ref h3, .ref h4, .ref h5, .ref h6, .ref h7, .ref h8, .ref h9, .ref h10, .ref h11, .int ys, .int hon, .int hwi, .int hdr, .int hu], wI (cy 1) h5 4 (fmp), wI (cy 1) h6 4 (fmv)] (fun (u : Nat × Int32 × Int32 × Int32 × Int32 × (Nat → Int32) × (Nat → Int32)) => (u.1 ≤ 10) ∧ (rng u.2.2.2.2.2.1 10 7)) (fun (u : Nat × Int32 × Int32 × Int32 × Int32 × (Nat → Int32) × (Nat → Int32)) => [wO x0 11 [.ref t0, .ref d0, .ref h0, .ref o0, .ref n0, .ref u0, .ref k0, .ref q0, .ref p0, .ref s0, .ref b0, .ref z0, .ref ly, .int (nI yc)], wO n0 5 [.ref n1, .ref n2, .ref n3, .int fu, .int (nI cu), .int (nI un), .int (nI re)], wI (cy 1) n1 41 (fn), wO s0 7 [.ref s1, .ref s2, .int (nI u.1), .int u.2.1, .int u.2.2.1, .int u.2.2.2.1, .int u.2.2.2.2.1], wI (cy 1) s1 10 (u.2.2.2.2.2.1), wI (cy 1) s2 4 (u.2.2.2.2.2.2), wO h0 4 [.ref h1, .ref h2, .ref h3, .ref h4, .ref h5, .ref h6, .ref h7, .ref h8, .ref h9, .ref h10, .ref h11, .int ys, .int hon, .int hwi, .int hdr, .int hu], wI (cy 1) h5 4 (fmp), wI (cy 1) h6 4 (fmv)]) := by
  refine XMv.start (by decide) (Nat.le_of_ble_eq_true rfl) ?_
  intro p e s m below meth c args A ls Q hat hQ
  obtain ⟨hx, hb, hr, hml, hown, hg, hlocks, hin, hK, hA, hP, hD, hS, hE, hl⟩ := hat
  have hown : s.vm.findClass RX11 = some m.cls := hown
  have hl : lv_has ls 2 [(0, .ref x0), (1, .int (nI j))] := hl
  refine lv_aload_n hx hb dX11_prepare_0 rfl (lv_at hl 0 rfl) ?_
  refine lv_aload_n hx hb dX11_prepare_1 rfl (lv_at hl 0 rfl) ?_
  refine va_get (D := D) (ci := 11) (v := .ref s0) (C := RX11) (T := TX11) (N := 14) hx hb hg i_X11 hown hK hP 0 rfl rfl 9 (by decide) (hg _ m_667) (fun _ h9 => h9) rfl dX11_prepare_2 ?_
  refine x_callVv (q := (RX11, TX11, 14)) (ci := 11) (q0 := 0) (wr := [wI (cy 1) s1 10 (fw), wO h0 4 [.ref h1, .ref h2, .ref h3, .ref h4, .ref h5, .ref h6, .ref h7, .ref h8, .ref h9, .ref h10, .ref h11, .int ys, .int hon, .int hwi, .int hdr, .int hu], wI (cy 1) h5 4 (fmp), wI (cy 1) h6 4 (fmv)]) (rest := []) ⟨hx, hb, hml, hown, hg, hl.1⟩ k_X11_220 (s_xloadWeather l D cy x0 t0 d0 h0 o0 n0 u0 k0 q0 p0 s0 b0 z0 ly yc n1 n2 n3 fu cu un re fn s0 s1 s2 sl spl svo swi sch fsn (hno)) E0_blind hK hP hD hS hA [0, 1, 2, 3, 5] [4, 6, 7, 8] ⟨rfl, rfl, by decide +kernel, by decide +kernel, by decide +kernel⟩ rfl rfl (fun _ _ _ => trivial) dX11_prepare_5 rfl rfl (Nat.le_of_ble_eq_true rfl) ⟨Nat.le_of_ble_eq_true rfl, Nat.le_of_ble_eq_true rfl⟩ ⟨Nat.le_of_ble_eq_true rfl, Nat.le_of_ble_eq_true rfl⟩ (fun zu1 H locs hw1 hP9 hD9 hS9 => ?_)
  clear hP hD hS
  obtain ⟨awi2_2, fan2_3⟩ := zu1
  refine reW [wI (cy 1) s1 10 (fw), wO h0 4 [.ref h1, .ref h2, .ref h3, .ref h4, .ref h5, .ref h6, .ref h7, .ref h8, .ref h9, .ref h10, .ref h11, .int ys, .int hon, .int hwi, .int hdr, .int hu], wI (cy 1) h5 4 (fmp), wI (cy 1) h6 4 (fmv), wO x0 11 [.ref t0, .ref d0, .ref h0, .ref o0, .ref n0, .ref u0, .ref k0, .ref q0, .ref p0, .ref s0, .ref b0, .ref z0, .ref ly, .int (nI yc)], wO n0 5 [.ref n1, .ref n2, .ref n3, .int fu, .int (nI cu), .int (nI un), .int (nI re)], wI (cy 1) n1 41 (fn), wO s0 7 [.ref s1, .ref s2, .int (nI sl), .int spl, .int svo, .int awi2_2, .int 0], wI (cy 1) s2 4 (fan2_3)] hP9 hD9 hS9 (fun hP hD hS => ?_)
  clear hP9 hD9 hS9
  refine W.widen (k := 0) (n := 0) (Nat.le_of_ble_eq_true rfl) (Nat.le_of_ble_eq_true rfl) ?_
  refine lv_aload_n hx hb dX11_prepare_8 rfl (lv_at hl 0 rfl) ?_
  refine lv_aload_n hx hb dX11_prepare_9 rfl (lv_at hl 0 rfl) ?_
  refine va_get (D := D) (ci := 11) (v := .ref s0) (C := RX11) (T := TX11) (N := 14) hx hb hg i_X11 hown hK hP 4 rfl rfl 9 (by decide) (hg _ m_667) (fun _ h9 => h9) rfl dX11_prepare_10 ?_
  refine lv_iconst (v := 0) hx hb dX11_prepare_13 (by decide) ?_
  refine x_callVv (q := (RX11, TX11, 14)) (ci := 11) (q0 := 0) (wr := [wO h0 4 [.ref h1, .ref h2, .ref h3, .ref h4, .ref h5, .ref h6, .ref h7, .ref h8, .ref h9, .ref h10, .ref h11, .int ys, .int hon, .int hwi, .int hdr, .int hu], wI (cy 1) h5 4 (fmp), wI (cy 1) h6 4 (fmv), wI (cy 1) s2 4 (fan2_3)]) (rest := []) ⟨hx, hb, hml, hown, hg, hl.1⟩ k_X11_212 (s_xloadCry0 l D cy x0 t0 d0 h0 o0 n0 u0 k0 q0 p0 s0 b0 z0 ly yc n1 n2 n3 fu cu un re fn s0 s1 s2 sl spl svo awi2_2 0 fw (hno) (hsw)) E0_blind hK hP hD hS hA [4, 5, 6, 7, 0] [1, 2, 3, 8] ⟨rfl, rfl, by decide +kernel, by decide +kernel, by decide +kernel⟩ rfl rfl (fun _ _ _ => trivial) dX11_prepare_14 rfl rfl (Nat.le_of_ble_eq_true rfl) ⟨Nat.le_of_ble_eq_true rfl, Nat.le_of_ble_eq_true rfl⟩ ⟨Nat.le_of_ble_eq_true rfl, Nat.le_of_ble_eq_true rfl⟩ (fun zu4 H locs hw4 hP9 hD9 hS9 => ?_)
  clear hP hD hS
  obtain ⟨al2_5, faw2_6⟩ := zu4
  refine reW [wO h0 4 [.ref h1, .ref h2, .ref h3, .ref h4, .ref h5, .ref h6, .ref h7, .ref h8, .ref h9, .ref h10, .ref h11, .int ys, .int hon, .int hwi, .int hdr, .int hu], wI (cy 1) h5 4 (fmp), wI (cy 1) h6 4 (fmv), wI (cy 1) s2 4 (fan2_3), wO x0 11 [.ref t0, .ref d0, .ref h0, .ref o0, .ref n0, .ref u0, .ref k0, .ref q0, .ref p0, .ref s0, .ref b0, .ref z0, .ref ly, .int (nI yc)], wO n0 5 [.ref n1, .ref n2, .ref n3, .int fu, .int (nI cu), .int (nI un), .int (nI re)], wI (cy 1) n1 41 (fn), wO s0 7 [.ref s1, .ref s2, .int (nI al2_5), .int spl, .int svo, .int awi2_2, .int 0], wI (cy 1) s1 10 (faw2_6)] hP9 hD9 hS9 (fun hP hD hS => ?_)
  clear hP9 hD9 hS9
  refine W.widen (k := 0) (n := 0) (Nat.le_of_ble_eq_true rfl) (Nat.le_of_ble_eq_true rfl) ?_
  replace hw4 : (al2_5 ≤ 10) ∧ (rng faw2_6 10 7) := hw4
  obtain ⟨f_7, f_8⟩ := hw4
  refine lv_aload_n hx hb dX11_prepare_17 rfl (lv_at hl 0 rfl) ?_
  refine va_get (D := D) (ci := 11) (v := .ref s0) (C := RX11) (T := TX11) (N := 14) hx hb hg i_X11 hown hK hP 4 rfl rfl 9 (by decide) (hg _ m_667) (fun _ h9 => h9) rfl dX11_prepare_18 ?_
  refine lv_aload_n hx hb dX11_prepare_21 rfl (lv_at hl 0 rfl) ?_
  refine va_get (D := D) (ci := 11) (v := .ref h0) (C := RX11) (T := TX11) (N := 14) hx hb hg i_X11 hown hK hP 4 rfl rfl 2 (by decide) (hg _ m_660) (fun _ h9 => h9) rfl dX11_prepare_22 ?_
  refine va_get (D := D) (ci := 4) (v := .ref h5) (C := RX4) (T := TX4) (N := 16) hx hb hg i_X4 hown hK hP 0 rfl rfl 4 (by decide) (hg _ m_350) (fun _ h9 => h9) rfl dX11_prepare_25 ?_
  refine lv_iload_n hx hb dX11_prepare_28 rfl (lv_at hl 1 rfl) ?_
  refine va_iald hx hb hK hP 1 1 rfl rfl (vp_in_nI (by omega) (by decide)) dX11_prepare_29 ?_
  refine lv_topi (fun x_9 ex_9 => ?_)
  refine va_put (D := D) (ci := 7) (v := .int x_9) (ty := .int) (C := RX7) (T := TX7) (N := 7) hx hb hg i_X7 tyX7 tyX7_ok nmX7 hown hK hP hD hS 7 rfl rfl 3 (by decide) (hg _ m_636) (fun _ h9 => h9) rfl (by decide +kernel) rfl rfl (Nat.le_of_ble_eq_true rfl) dX11_prepare_30 (fun H locs hP9 hD9 hS9 => ?_)
  clear hP hD hS
  refine reW [wO h0 4 [.ref h1, .ref h2, .ref h3, .ref h4, .ref h5, .ref h6, .ref h7, .ref h8, .ref h9, .ref h10, .ref h11, .int ys, .int hon, .int hwi, .int hdr, .int hu], wI (cy 1) h5 4 (fmp), wI (cy 1) h6 4 (fmv), wI (cy 1) s2 4 (fan2_3), wO x0 11 [.ref t0, .ref d0, .ref h0, .ref o0, .ref n0, .ref u0, .ref k0, .ref q0, .ref p0, .ref s0, .ref b0, .ref z0, .ref ly, .int (nI yc)], wO n0 5 [.ref n1, .ref n2, .ref n3, .int fu, .int (nI cu), .int (nI un), .int (nI re)], wI (cy 1) n1 41 (fn), wO s0 7 [.ref s1, .ref s2, .int (nI al2_5), .int x_9, .int svo, .int awi2_2, .int 0], wI (cy 1) s1 10 (faw2_6)] hP9 hD9 hS9 (fun hP hD hS => ?_)
  clear hP9 hD9 hS9
  refine lv_aload_n hx hb dX11_prepare_33 rfl (lv_at hl 0 rfl) ?_
  refine va_get (D := D) (ci := 11) (v := .ref s0) (C := RX11) (T := TX11) (N := 14) hx hb hg i_X11 hown hK hP 4 rfl rfl 9 (by decide) (hg _ m_667) (fun _ h9 => h9) rfl dX11_prepare_34 ?_
  refine lv_aload_n hx hb dX11_prepare_37 rfl (lv_at hl 0 rfl) ?_
  refine va_get (D := D) (ci := 11) (v := .ref h0) (C := RX11) (T := TX11) (N := 14) hx hb hg i_X11 hown hK hP 4 rfl rfl 2 (by decide) (hg _ m_660) (fun _ h9 => h9) rfl dX11_prepare_38 ?_
  refine va_get (D := D) (ci := 4) (v := .ref h6) (C := RX4) (T := TX4) (N := 16) hx hb hg i_X4 hown hK hP 0 rfl rfl 5 (by decide) (hg _ m_353) (fun _ h9 => h9) rfl dX11_prepare_41 ?_
  refine lv_iload_n hx hb dX11_prepare_44 rfl (lv_at hl 1 rfl) ?_
  refine va_iald hx hb hK hP 2 1 rfl rfl (vp_in_nI (by omega) (by decide)) dX11_prepare_45 ?_
  refine lv_topi (fun x_10 ex_10 => ?_)
  refine va_put (D := D) (ci := 7) (v := .int x_10) (ty := .int) (C := RX7) (T := TX7) (N := 7) hx hb hg i_X7 tyX7 tyX7_ok nmX7 hown hK hP hD hS 7 rfl rfl 4 (by decide) (hg _ m_638) (fun _ h9 => h9) rfl (by decide +kernel) rfl rfl (Nat.le_of_ble_eq_true rfl) dX11_prepare_46 (fun H locs hP9 hD9 hS9 => ?_)
  clear hP hD hS
  refine reW [wO h0 4 [.ref h1, .ref h2, .ref h3, .ref h4, .ref h5, .ref h6, .ref h7, .ref h8, .ref h9, .ref h10, .ref h11, .int ys, .int hon, .int hwi, .int hdr, .int hu], wI (cy 1) h5 4 (fmp), wI (cy 1) h6 4 (fmv), wI (cy 1) s2 4 (fan2_3), wO x0 11 [.ref t0, .ref d0, .ref h0, .ref o0, .ref n0, .ref u0, .ref k0, .ref q0, .ref p0, .ref s0, .ref b0, .ref z0, .ref ly, .int (nI yc)], wO n0 5 [.ref n1, .ref n2, .ref n3, .int fu, .int (nI cu), .int (nI un), .int (nI re)], wI (cy 1) n1 41 (fn), wO s0 7 [.ref s1, .ref s2, .int (nI al2_5), .int x_9, .int x_10, .int awi2_2, .int 0], wI (cy 1) s1 10 (faw2_6)] hP9 hD9 hS9 (fun hP hD hS => ?_)
  clear hP9 hD9 hS9
  exact x_vret hQ hx hb hr hlocks hK hP hD hS dX11_prepare_49 (al2_5, x_9, x_10, awi2_2, 0, faw2_6, fan2_3) (⟨(show al2_5 ≤ 10 from by omega), f_8⟩) [4, 5, 6, 7, 8, 3, 0, 1, 2] (by decide +kernel) rfl (Nat.le_of_ble_eq_true rfl) (Nat.le_of_ble_eq_true rfl)
theorem gdX11_clearLedges_0 : decode cX11_clearLedges 0 = .ok (.iconst 0, 1) ∧ decode cX11_clearLedges 1 = .ok (.istore_n 2, 1) ∧ decode cX11_clearLedges 2 = .ok (.iload_n 2, 1) ∧ decode cX11_clearLedges 3 = .ok (.aload_n 0, 1) ∧ decode cX11_clearLedges 4 = .ok (.getfield 28, 3) ∧ decode cX11_clearLedges 7 = .ok (.getfield 111, 3) ∧ decode cX11_clearLedges 10 = .ok (.iconst 1, 1) ∧ decode cX11_clearLedges 11 = .ok (.iaload, 1) ∧ decode cX11_clearLedges 12 = .ok (.if_icmp .ge 52, 3) ∧ decode cX11_clearLedges 64 = .ok (.return_, 1) ∧ decode cX11_clearLedges 15 = .ok (.iload_n 1, 1) ∧ decode cX11_clearLedges 16 = .ok (.iload_n 2, 1) := by decide +kernel
theorem dX11_clearLedges_0 : decode cX11_clearLedges 0 = .ok (.iconst 0, 1) := gdX11_clearLedges_0.1
theorem dX11_clearLedges_1 : decode cX11_clearLedges 1 = .ok (.istore_n 2, 1) := gdX11_clearLedges_0.2.1
theorem dX11_clearLedges_2 : decode cX11_clearLedges 2 = .ok (.iload_n 2, 1) := gdX11_clearLedges_0.2.2.1
theorem dX11_clearLedges_3 : decode cX11_clearLedges 3 = .ok (.aload_n 0, 1) := gdX11_clearLedges_0.2.2.2.1
theorem dX11_clearLedges_4 : decode cX11_clearLedges 4 = .ok (.getfield 28, 3) := gdX11_clearLedges_0.2.2.2.2.1
theorem dX11_clearLedges_7 : decode cX11_clearLedges 7 = .ok (.getfield 111, 3) := gdX11_clearLedges_0.2.2.2.2.2.1
theorem dX11_clearLedges_10 : decode cX11_clearLedges 10 = .ok (.iconst 1, 1) := gdX11_clearLedges_0.2.2.2.2.2.2.1
theorem dX11_clearLedges_11 : decode cX11_clearLedges 11 = .ok (.iaload, 1) := gdX11_clearLedges_0.2.2.2.2.2.2.2.1
theorem dX11_clearLedges_12 : decode cX11_clearLedges 12 = .ok (.if_icmp .ge 52, 3) := gdX11_clearLedges_0.2.2.2.2.2.2.2.2.1
theorem dX11_clearLedges_64 : decode cX11_clearLedges 64 = .ok (.return_, 1) := gdX11_clearLedges_0.2.2.2.2.2.2.2.2.2.1
theorem dX11_clearLedges_15 : decode cX11_clearLedges 15 = .ok (.iload_n 1, 1) := gdX11_clearLedges_0.2.2.2.2.2.2.2.2.2.2.1
theorem dX11_clearLedges_16 : decode cX11_clearLedges 16 = .ok (.iload_n 2, 1) := gdX11_clearLedges_0.2.2.2.2.2.2.2.2.2.2.2
theorem gdX11_clearLedges_17 : decode cX11_clearLedges 17 = .ok (.ishr, 1) ∧ decode cX11_clearLedges 18 = .ok (.iconst 1, 1) ∧ decode cX11_clearLedges 19 = .ok (.iand, 1) ∧ decode cX11_clearLedges 20 = .ok (.ifCond .eq 7, 3) ∧ decode cX11_clearLedges 27 = .ok (.iconst 0, 1) ∧ decode cX11_clearLedges 28 = .ok (.istore_n 3, 1) ∧ decode cX11_clearLedges 29 = .ok (.aload_n 0, 1) ∧ decode cX11_clearLedges 30 = .ok (.getfield 75, 3) ∧ decode cX11_clearLedges 33 = .ok (.getfield 319, 3) ∧ decode cX11_clearLedges 36 = .ok (.iload_n 2, 1) ∧ decode cX11_clearLedges 37 = .ok (.iload_n 3, 1) ∧ decode cX11_clearLedges 38 = .ok (.ifCond .eq 7, 3) := by decide +kernel
theorem dX11_clearLedges_17 : decode cX11_clearLedges 17 = .ok (.ishr, 1) := gdX11_clearLedges_17.1
theorem dX11_clearLedges_18 : decode cX11_clearLedges 18 = .ok (.iconst 1, 1) := gdX11_clearLedges_17.2.1
theorem dX11_clearLedges_19 : decode cX11_clearLedges 19 = .ok (.iand, 1) := gdX11_clearLedges_17.2.2.1
theorem dX11_clearLedges_20 : decode cX11_clearLedges 20 = .ok (.ifCond .eq 7, 3) := gdX11_clearLedges_17.2.2.2.1
theorem dX11_clearLedges_27 : decode cX11_clearLedges 27 = .ok (.iconst 0, 1) := gdX11_clearLedges_17.2.2.2.2.1
theorem dX11_clearLedges_28 : decode cX11_clearLedges 28 = .ok (.istore_n 3, 1) := gdX11_clearLedges_17.2.2.2.2.2.1
theorem dX11_clearLedges_29 : decode cX11_clearLedges 29 = .ok (.aload_n 0, 1) := gdX11_clearLedges_17.2.2.2.2.2.2.1
theorem dX11_clearLedges_30 : decode cX11_clearLedges 30 = .ok (.getfield 75, 3) := gdX11_clearLedges_17.2.2.2.2.2.2.2.1
theorem dX11_clearLedges_33 : decode cX11_clearLedges 33 = .ok (.getfield 319, 3) := gdX11_clearLedges_17.2.2.2.2.2.2.2.2.1
theorem dX11_clearLedges_36 : decode cX11_clearLedges 36 = .ok (.iload_n 2, 1) := gdX11_clearLedges_17.2.2.2.2.2.2.2.2.2.1
theorem dX11_clearLedges_37 : decode cX11_clearLedges 37 = .ok (.iload_n 3, 1) := gdX11_clearLedges_17.2.2.2.2.2.2.2.2.2.2.1
theorem dX11_clearLedges_38 : decode cX11_clearLedges 38 = .ok (.ifCond .eq 7, 3) := gdX11_clearLedges_17.2.2.2.2.2.2.2.2.2.2.2
theorem gdX11_clearLedges_45 : decode cX11_clearLedges 45 = .ok (.aload_n 0, 1) ∧ decode cX11_clearLedges 46 = .ok (.getfield 38, 3) ∧ decode cX11_clearLedges 49 = .ok (.getfield 127, 3) ∧ decode cX11_clearLedges 52 = .ok (.bipush 25, 2) ∧ decode cX11_clearLedges 54 = .ok (.iload_n 2, 1) ∧ decode cX11_clearLedges 55 = .ok (.iadd, 1) ∧ decode cX11_clearLedges 56 = .ok (.iaload, 1) ∧ decode cX11_clearLedges 57 = .ok (.iastore, 1) ∧ decode cX11_clearLedges 58 = .ok (.iinc 2 1, 3) ∧ decode cX11_clearLedges 61 = .ok (.goto (-59), 3) ∧ decode cX11_clearLedges 23 = .ok (.iconst 1, 1) ∧ decode cX11_clearLedges 24 = .ok (.goto 4, 3) := by decide +kernel
theorem dX11_clearLedges_45 : decode cX11_clearLedges 45 = .ok (.aload_n 0, 1) := gdX11_clearLedges_45.1
theorem dX11_clearLedges_46 : decode cX11_clearLedges 46 = .ok (.getfield 38, 3) := gdX11_clearLedges_45.2.1
theorem dX11_clearLedges_49 : decode cX11_clearLedges 49 = .ok (.getfield 127, 3) := gdX11_clearLedges_45.2.2.1
theorem dX11_clearLedges_52 : decode cX11_clearLedges 52 = .ok (.bipush 25, 2) := gdX11_clearLedges_45.2.2.2.1
theorem dX11_clearLedges_54 : decode cX11_clearLedges 54 = .ok (.iload_n 2, 1) := gdX11_clearLedges_45.2.2.2.2.1
theorem dX11_clearLedges_55 : decode cX11_clearLedges 55 = .ok (.iadd, 1) := gdX11_clearLedges_45.2.2.2.2.2.1
theorem dX11_clearLedges_56 : decode cX11_clearLedges 56 = .ok (.iaload, 1) := gdX11_clearLedges_45.2.2.2.2.2.2.1
theorem dX11_clearLedges_57 : decode cX11_clearLedges 57 = .ok (.iastore, 1) := gdX11_clearLedges_45.2.2.2.2.2.2.2.1
theorem dX11_clearLedges_58 : decode cX11_clearLedges 58 = .ok (.iinc 2 1, 3) := gdX11_clearLedges_45.2.2.2.2.2.2.2.2.1
theorem dX11_clearLedges_61 : decode cX11_clearLedges 61 = .ok (.goto (-59), 3) := gdX11_clearLedges_45.2.2.2.2.2.2.2.2.2.1
theorem dX11_clearLedges_23 : decode cX11_clearLedges 23 = .ok (.iconst 1, 1) := gdX11_clearLedges_45.2.2.2.2.2.2.2.2.2.2.1
theorem dX11_clearLedges_24 : decode cX11_clearLedges 24 = .ok (.goto 4, 3) := gdX11_clearLedges_45.2.2.2.2.2.2.2.2.2.2.2
theorem dX11_clearLedges_41 : decode cX11_clearLedges 41 = .ok (.iconst 0, 1) := by decide +kernel
theorem dX11_clearLedges_42 : decode cX11_clearLedges 42 = .ok (.goto 15, 3) := by decide +kernel
set_option maxHeartbeats 1000000 in
set_option maxRecDepth 100000 in
theorem s_xclearLedges (l : Launch) (D : va_G) (cy : Nat → ClassId) (x0 : Nat) (t0 : Nat) (d0 : Nat) (h0 : Nat) (h1 : Nat) (h2 : Nat) (h3 : Nat) (h4 : Nat) (h5 : Nat) (h6 : Nat) (h7 : Nat) (h8 : Nat) (h9 : Nat) (h10 : Nat) (h11 : Nat) (o0 : Nat) (n0 : Nat) (n1 : Nat) (n2 : Nat) (n3 : Nat) (u0 : Nat) (k0 : Nat) (q0 : Nat) (p0 : Nat) (s0 : Nat) (s1 : Nat) (s2 : Nat) (b0 : Nat) (z0 : Nat) (ly : Nat) (ys : Int32) (hon : Int32) (hwi : Int32) (hdr : Int32) (hu : Int32) (fc : Nat → Int32) (c0 : Nat) (c1 : Nat) (c2 : Nat) (c3 : Nat) (fu : Int32) (cu : Nat) (un : Nat) (re : Nat) (fn : Nat → Int32) (sl : Nat) (spl : Int32) (svo : Int32) (swi : Int32) (sch : Int32) (fsn : Nat → Int32) (yc : Nat) (bs : Int32) (hcn : cntOK fc c0 c1 c2 c3) (hc0 : c0 ≤ 8) (hc1 : c1 ≤ 4) (hc2 : c2 ≤ 4) (hc3 : c3 ≤ 6) (hcu : cu ≤ 40) (hur : un + re ≤ 40) (hno : mRows fn 1) (hsl : sl ≤ 10) (hyc : yc ≤ 10) : XMv l D (tyL cy) E0 yX11_clearLedges cX11_clearLedges 4 none (rmk 0 0 0) [.ref x0, .int bs] [wO x0 11 [.ref t0, .ref d0, .ref h0, .ref o0, .ref n0, .ref u0, .ref k0, .ref q0, .ref p0, .ref s0, .ref b0, .ref z0, .ref ly, .int (nI yc)], wO n0 5 [.ref n1, .ref n2, .ref n3, .int fu, .int (nI cu), .int (nI un), .int (nI re)], wI (cy 1) n1 41 (fn), wO s0 7 [.ref s1, .ref s2, .int (nI sl), .int spl, .int svo, .int swi, .int sch], wI (cy 1) s2 4 (fsn), wO h0 4 [.ref h1, .ref h2, .ref h3, .ref h4, .ref h5, .ref h6, .ref h7, .ref h8, .ref h9, .ref h10, .ref h11, .int ys, .int hon, .int hwi, .int hdr, .int hu], wI (cy 1) h1 4 (fc)] (fun (fsn2 : Nat → Int32) => True) (fun (fsn2 : Nat → Int32) => [wO x0 11 [.ref t0, .ref d0, .ref h0, .ref o0, .ref n0, .ref u0, .ref k0, .ref q0, .ref p0, .ref s0, .ref b0, .ref z0, .ref ly, .int (nI yc)], wO n0 5 [.ref n1, .ref n2, .ref n3, .int fu, .int (nI cu), .int (nI un), .int (nI re)], wI (cy 1) n1 41 (fn), wO s0 7 [.ref s1, .ref s2, .int (nI sl), .int spl, .int svo, .int swi, .int sch], wI (cy 1) s2 4 (fsn2), wO h0 4 [.ref h1, .ref h2, .ref h3, .ref h4, .ref h5, .ref h6, .ref h7, .ref h8, .ref h9, .ref h10, .ref h11, .int ys, .int hon, .int hwi, .int hdr, .int hu], wI (cy 1) h1 4 (fc)]) := by
  refine XMv.start (by decide) (Nat.le_of_ble_eq_true rfl) ?_
  intro p e s m below meth c args A ls Q hat hQ
  obtain ⟨hx, hb, hr, hml, hown, hg, hlocks, hin, hK, hA, hP, hD, hS, hE, hl⟩ := hat
  have hown : s.vm.findClass RX11 = some m.cls := hown
  have hl : lv_has ls 4 [(0, .ref x0), (1, .int bs)] := hl
  refine lv_iconst (v := 0) hx hb dX11_clearLedges_0 (by decide) ?_
  refine lv_istore_n (lv' := [(2, .int 0), (0, .ref x0), (1, .int bs)]) hx hb dX11_clearLedges_1 rfl hl (by decide) rfl (fun ls hl => ?_)
  have loop1 : ∀ (zn : Nat) (i1 : Nat) (fa1_1 : Nat → Int32), (i1 ≤ c1) → c1 - i1 + 1 ≤ zn → ∀ (H : Heap) (locs : List Loc), va_P D vwCl [wO x0 11 [.ref t0, .ref d0, .ref h0, .ref o0, .ref n0, .ref u0, .ref k0, .ref q0, .ref p0, .ref s0, .ref b0, .ref z0, .ref ly, .int (nI yc)], wO n0 5 [.ref n1, .ref n2, .ref n3, .int fu, .int (nI cu), .int (nI un), .int (nI re)], wI (cy 1) n1 41 (fn), wO s0 7 [.ref s1, .ref s2, .int (nI sl), .int spl, .int svo, .int swi, .int sch], wI (cy 1) s2 4 (fa1_1), wO h0 4 [.ref h1, .ref h2, .ref h3, .ref h4, .ref h5, .ref h6, .ref h7, .ref h8, .ref h9, .ref h10, .ref h11, .int ys, .int hon, .int hwi, .int hdr, .int hu], wI (cy 1) h1 4 (fc)] H → va_D A [wO x0 11 [.ref t0, .ref d0, .ref h0, .ref o0, .ref n0, .ref u0, .ref k0, .ref q0, .ref p0, .ref s0, .ref b0, .ref z0, .ref ly, .int (nI yc)], wO n0 5 [.ref n1, .ref n2, .ref n3, .int fu, .int (nI cu), .int (nI un), .int (nI re)], wI (cy 1) n1 41 (fn), wO s0 7 [.ref s1, .ref s2, .int (nI sl), .int spl, .int svo, .int swi, .int sch], wI (cy 1) s2 4 (fa1_1), wO h0 4 [.ref h1, .ref h2, .ref h3, .ref h4, .ref h5, .ref h6, .ref h7, .ref h8, .ref h9, .ref h10, .ref h11, .int ys, .int hon, .int hwi, .int hdr, .int hu], wI (cy 1) h1 4 (fc)] → va_S A s.heap H locs → ∀ ls : Array Slot, lv_has ls 4 [(2, .int (nI i1)), (0, .ref x0), (1, .int bs)] → W p l e (rmk 0 0 0) s m args below meth c H locs 0 0 Q (F0 m 2 ls []) := by
    try clear hP hD hS
    intro zn
    induction zn with
    | zero => intro i1 fa1_1 _ hz; exact absurd hz (by omega)
    | succ zn ih1 =>
      intro i1 fa1_1 hf0_1 hmu1 H locs hP hD hS ls hl
      refine lv_iload_n hx hb dX11_clearLedges_2 rfl (lv_at hl 0 rfl) ?_
      refine lv_aload_n hx hb dX11_clearLedges_3 rfl (lv_at hl 1 rfl) ?_
      refine va_get (D := D) (ci := 11) (v := .ref h0) (C := RX11) (T := TX11) (N := 14) hx hb hg i_X11 hown hK hP 0 rfl rfl 2 (by decide) (hg _ m_660) (fun _ h9 => h9) rfl dX11_clearLedges_4 ?_
      refine va_get (D := D) (ci := 4) (v := .ref h1) (C := RX4) (T := TX4) (N := 16) hx hb hg i_X4 hown hK hP 5 rfl rfl 0 (by decide) (hg _ m_335) (fun _ h9 => h9) rfl dX11_clearLedges_7 ?_
      refine lv_iconst (v := 1) hx hb dX11_clearLedges_10 (by decide) ?_
      refine va_iald hx hb hK hP 6 1 rfl rfl (by unfold vp_in; decide) dX11_clearLedges_11 ?_
      refine lv_topi (fun y_2 hy_2 => ?_)
      obtain rfl : y_2 = nI c1 := hy_2.trans hcn.2.1
      refine lv_icmp_ge (tgt := 64) hx hb dX11_clearLedges_12 (by decide) (fun c_3 => ?_) (fun c_3 => ?_)
      · have q_4 : c1 ≤ i1 := q_le (a := c1) (b := i1) rfl rfl (by omega) (by omega) c_3
        exact x_vret hQ hx hb hr hlocks hK hP hD hS dX11_clearLedges_64 fa1_1 (trivial) [0, 1, 2, 3, 4, 5, 6] (by decide +kernel) rfl (Nat.le_of_ble_eq_true rfl) (Nat.le_of_ble_eq_true rfl)
      · have q_4 : i1 < c1 := q_nle (a := c1) (b := i1) rfl rfl (by omega) (by omega) c_3
        refine lv_iload_n hx hb dX11_clearLedges_15 rfl (lv_at hl 2 rfl) ?_
        refine lv_iload_n hx hb dX11_clearLedges_16 rfl (lv_at hl 0 rfl) ?_
        refine lv_ishr hx hb dX11_clearLedges_17 ?_
        refine lv_topi (fun x_5 ex_5 => ?_)
        refine lv_iconst (v := 1) hx hb dX11_clearLedges_18 (by decide) ?_
        refine lv_iand hx hb dX11_clearLedges_19 ?_
        refine lv_topi (fun x_6 ex_6 => ?_)
        refine lv_if_eq (tgt := 27) hx hb dX11_clearLedges_20 (by decide) (fun c_20 => ?_) (fun c_20 => ?_)
        · refine lv_iconst (v := 0) hx hb dX11_clearLedges_27 (by decide) ?_
          refine lv_istore_n (lv' := [(3, .int 0), (2, .int (nI i1)), (0, .ref x0), (1, .int bs)]) hx hb dX11_clearLedges_28 rfl hl (by decide) rfl (fun ls hl => ?_)
          refine lv_aload_n hx hb dX11_clearLedges_29 rfl (lv_at hl 2 rfl) ?_
          refine va_get (D := D) (ci := 11) (v := .ref s0) (C := RX11) (T := TX11) (N := 14) hx hb hg i_X11 hown hK hP 0 rfl rfl 9 (by decide) (hg _ m_667) (fun _ h9 => h9) rfl dX11_clearLedges_30 ?_
          refine va_get (D := D) (ci := 7) (v := .ref s2) (C := RX7) (T := TX7) (N := 7) hx hb hg i_X7 hown hK hP 3 rfl rfl 1 (by decide) (hg _ m_627) (fun _ h9 => h9) rfl dX11_clearLedges_33 ?_
          refine lv_iload_n hx hb dX11_clearLedges_36 rfl (lv_at hl 1 rfl) ?_
          refine lv_iload_n hx hb dX11_clearLedges_37 rfl (lv_at hl 0 rfl) ?_
          refine lv_if_eq (tgt := 45) hx hb dX11_clearLedges_38 (by decide) (fun _ => ?_) (fun h => absurd (by decide) h)
          refine lv_aload_n hx hb dX11_clearLedges_45 rfl (lv_at hl 2 rfl) ?_
          refine va_get (D := D) (ci := 11) (v := .ref n0) (C := RX11) (T := TX11) (N := 14) hx hb hg i_X11 hown hK hP 0 rfl rfl 4 (by decide) (hg _ m_662) (fun _ h9 => h9) rfl dX11_clearLedges_46 ?_
          refine va_get (D := D) (ci := 5) (v := .ref n1) (C := RX5) (T := TX5) (N := 7) hx hb hg i_X5 hown hK hP 1 rfl rfl 0 (by decide) (hg _ m_424) (fun _ h9 => h9) rfl dX11_clearLedges_49 ?_
          refine lv_bipush (v := 25) hx hb dX11_clearLedges_52 (by decide) ?_
          refine lv_iload_n hx hb dX11_clearLedges_54 rfl (lv_at hl 1 rfl) ?_
          refine lv_iadd hx hb dX11_clearLedges_55 ?_
          refine lv_topi (fun y_7 hy_7 => ?_)
          obtain rfl : y_7 = nI (25 + i1) := hy_7.trans (nI_add 25 i1)
          refine va_iald hx hb hK hP 2 1 rfl rfl (vp_in_nI (by omega) (by decide)) dX11_clearLedges_56 ?_
          refine lv_topi (fun x_8 ex_8 => ?_)
          refine va_iast hx hb hK hP hD hS 4 1 rfl rfl (vp_in_nI (by omega) (by decide)) dX11_clearLedges_57 (fun H locs hP9 hD9 hS9 => ?_)
          clear hP hD hS
          obtain ⟨g_9, eg_9⟩ : ∃ y, upd fa1_1 (nI i1 : Int32).toNatClampNeg x_8 = y := ⟨_, rfl⟩
          rw [eg_9] at hP9 hD9
          refine reW [wO x0 11 [.ref t0, .ref d0, .ref h0, .ref o0, .ref n0, .ref u0, .ref k0, .ref q0, .ref p0, .ref s0, .ref b0, .ref z0, .ref ly, .int (nI yc)], wO n0 5 [.ref n1, .ref n2, .ref n3, .int fu, .int (nI cu), .int (nI un), .int (nI re)], wI (cy 1) n1 41 (fn), wO s0 7 [.ref s1, .ref s2, .int (nI sl), .int spl, .int svo, .int swi, .int sch], wI (cy 1) s2 4 (g_9), wO h0 4 [.ref h1, .ref h2, .ref h3, .ref h4, .ref h5, .ref h6, .ref h7, .ref h8, .ref h9, .ref h10, .ref h11, .int ys, .int hon, .int hwi, .int hdr, .int hu], wI (cy 1) h1 4 (fc)] hP9 hD9 hS9 (fun hP hD hS => ?_)
          clear hP9 hD9 hS9
          refine lv_iinc (v := nI (i1 + 1)) (lv' := [(2, .int (nI (i1 + 1))), (3, .int 0), (0, .ref x0), (1, .int bs)]) hx hb dX11_clearLedges_58 hl (k := 1) rfl (nI_add i1 1) (by decide) rfl (fun ls hl => ?_)
          refine lv_goto (tgt := 2) hx hb dX11_clearLedges_61 (by decide) ?_
          exact ih1  ((i1 + 1)) g_9 (by omega) (by omega) _ _ (hP.sub [0, 1, 2, 3, 4, 5, 6] rfl) (hD.sub [0, 1, 2, 3, 4, 5, 6] (by decide +kernel) rfl) hS ls (lv_sub hl [0, 2, 3] rfl)
        · refine lv_iconst (v := 1) hx hb dX11_clearLedges_23 (by decide) ?_
          refine lv_goto (tgt := 28) hx hb dX11_clearLedges_24 (by decide) ?_
          refine lv_istore_n (lv' := [(3, .int 1), (2, .int (nI i1)), (0, .ref x0), (1, .int bs)]) hx hb dX11_clearLedges_28 rfl hl (by decide) rfl (fun ls hl => ?_)
          refine lv_aload_n hx hb dX11_clearLedges_29 rfl (lv_at hl 2 rfl) ?_
          refine va_get (D := D) (ci := 11) (v := .ref s0) (C := RX11) (T := TX11) (N := 14) hx hb hg i_X11 hown hK hP 0 rfl rfl 9 (by decide) (hg _ m_667) (fun _ h9 => h9) rfl dX11_clearLedges_30 ?_
          refine va_get (D := D) (ci := 7) (v := .ref s2) (C := RX7) (T := TX7) (N := 7) hx hb hg i_X7 hown hK hP 3 rfl rfl 1 (by decide) (hg _ m_627) (fun _ h9 => h9) rfl dX11_clearLedges_33 ?_
          refine lv_iload_n hx hb dX11_clearLedges_36 rfl (lv_at hl 1 rfl) ?_
          refine lv_iload_n hx hb dX11_clearLedges_37 rfl (lv_at hl 0 rfl) ?_
          refine lv_if_eq (tgt := 45) hx hb dX11_clearLedges_38 (by decide) (fun h => absurd h (by decide)) (fun _ => ?_)
          refine lv_iconst (v := 0) hx hb dX11_clearLedges_41 (by decide) ?_
          refine lv_goto (tgt := 57) hx hb dX11_clearLedges_42 (by decide) ?_
          refine va_iast hx hb hK hP hD hS 4 1 rfl rfl (vp_in_nI (by omega) (by decide)) dX11_clearLedges_57 (fun H locs hP9 hD9 hS9 => ?_)
          clear hP hD hS
          obtain ⟨g_10, eg_10⟩ : ∃ y, upd fa1_1 (nI i1 : Int32).toNatClampNeg 0 = y := ⟨_, rfl⟩
          rw [eg_10] at hP9 hD9
          refine reW [wO x0 11 [.ref t0, .ref d0, .ref h0, .ref o0, .ref n0, .ref u0, .ref k0, .ref q0, .ref p0, .ref s0, .ref b0, .ref z0, .ref ly, .int (nI yc)], wO n0 5 [.ref n1, .ref n2, .ref n3, .int fu, .int (nI cu), .int (nI un), .int (nI re)], wI (cy 1) n1 41 (fn), wO s0 7 [.ref s1, .ref s2, .int (nI sl), .int spl, .int svo, .int swi, .int sch], wI (cy 1) s2 4 (g_10), wO h0 4 [.ref h1, .ref h2, .ref h3, .ref h4, .ref h5, .ref h6, .ref h7, .ref h8, .ref h9, .ref h10, .ref h11, .int ys, .int hon, .int hwi, .int hdr, .int hu], wI (cy 1) h1 4 (fc)] hP9 hD9 hS9 (fun hP hD hS => ?_)
          clear hP9 hD9 hS9
          refine lv_iinc (v := nI (i1 + 1)) (lv' := [(2, .int (nI (i1 + 1))), (3, .int 1), (0, .ref x0), (1, .int bs)]) hx hb dX11_clearLedges_58 hl (k := 1) rfl (nI_add i1 1) (by decide) rfl (fun ls hl => ?_)
          refine lv_goto (tgt := 2) hx hb dX11_clearLedges_61 (by decide) ?_
          exact ih1  ((i1 + 1)) g_10 (by omega) (by omega) _ _ (hP.sub [0, 1, 2, 3, 4, 5, 6] rfl) (hD.sub [0, 1, 2, 3, 4, 5, 6] (by decide +kernel) rfl) hS ls (lv_sub hl [0, 2, 3] rfl)
  exact loop1 _ 0 fsn (by omega) (Nat.le_refl _) _ _ (hP.sub [0, 1, 2, 3, 4, 5, 6] rfl) (hD.sub [0, 1, 2, 3, 4, 5, 6] (by decide +kernel) rfl) hS ls (lv_sub hl [0, 1, 2] rfl)
def ftF (a b w : Int32) : Int32 := if w = 0 then a else if w = 1 then b else -1
theorem ftF_0 {a b : Int32} : a = ftF a b 0 := rfl
theorem ftF_1 {a b : Int32} : b = ftF a b 1 := rfl
theorem ftF_n {a b w : Int32} (h0 : ¬ w = 0) (h1 : ¬ w = 1) : -1 = ftF a b w := by unfold ftF; rw [if_neg h0, if_neg h1]
theorem gdX11_fault_0 : decode cX11_fault 0 = .ok (.iload_n 1, 1) ∧ decode cX11_fault 1 = .ok (.lookupswitch 43 #[(0, 27), (1, 35)], 27) ∧ decode cX11_fault 28 = .ok (.aload_n 0, 1) ∧ decode cX11_fault 29 = .ok (.getfield 21, 3) ∧ decode cX11_fault 32 = .ok (.getfield 114, 3) ∧ decode cX11_fault 35 = .ok (.ireturn, 1) ∧ decode cX11_fault 36 = .ok (.aload_n 0, 1) ∧ decode cX11_fault 37 = .ok (.getfield 21, 3) ∧ decode cX11_fault 40 = .ok (.getfield 117, 3) ∧ decode cX11_fault 43 = .ok (.ireturn, 1) ∧ decode cX11_fault 44 = .ok (.iconst (-1), 1) ∧ decode cX11_fault 45 = .ok (.ireturn, 1) := by decide +kernel
theorem dX11_fault_0 : decode cX11_fault 0 = .ok (.iload_n 1, 1) := gdX11_fault_0.1
theorem dX11_fault_1 : decode cX11_fault 1 = .ok (.lookupswitch 43 #[(0, 27), (1, 35)], 27) := gdX11_fault_0.2.1
theorem dX11_fault_28 : decode cX11_fault 28 = .ok (.aload_n 0, 1) := gdX11_fault_0.2.2.1
theorem dX11_fault_29 : decode cX11_fault 29 = .ok (.getfield 21, 3) := gdX11_fault_0.2.2.2.1
theorem dX11_fault_32 : decode cX11_fault 32 = .ok (.getfield 114, 3) := gdX11_fault_0.2.2.2.2.1
theorem dX11_fault_35 : decode cX11_fault 35 = .ok (.ireturn, 1) := gdX11_fault_0.2.2.2.2.2.1
theorem dX11_fault_36 : decode cX11_fault 36 = .ok (.aload_n 0, 1) := gdX11_fault_0.2.2.2.2.2.2.1
theorem dX11_fault_37 : decode cX11_fault 37 = .ok (.getfield 21, 3) := gdX11_fault_0.2.2.2.2.2.2.2.1
theorem dX11_fault_40 : decode cX11_fault 40 = .ok (.getfield 117, 3) := gdX11_fault_0.2.2.2.2.2.2.2.2.1
theorem dX11_fault_43 : decode cX11_fault 43 = .ok (.ireturn, 1) := gdX11_fault_0.2.2.2.2.2.2.2.2.2.1
theorem dX11_fault_44 : decode cX11_fault 44 = .ok (.iconst (-1), 1) := gdX11_fault_0.2.2.2.2.2.2.2.2.2.2.1
theorem dX11_fault_45 : decode cX11_fault 45 = .ok (.ireturn, 1) := gdX11_fault_0.2.2.2.2.2.2.2.2.2.2.2
set_option maxHeartbeats 1000000 in
set_option maxRecDepth 100000 in
theorem s_xfault (l : Launch) (D : va_G) (cy : Nat → ClassId) (x0 : Nat) (t0 : Nat) (d0 : Nat) (d1 : Nat) (h0 : Nat) (o0 : Nat) (n0 : Nat) (u0 : Nat) (k0 : Nat) (q0 : Nat) (p0 : Nat) (s0 : Nat) (b0 : Nat) (z0 : Nat) (ly : Nat) (yh : Value) (yf : Value) (uh : Int32) (wt : Int32) (dt : Int32) (vv : Int32) (tq : Int32) (pq : Int32) (yc : Nat) (wh : Int32) (hyc : yc ≤ 10) : XMi l D (tyL cy) E0 yX11_fault cX11_fault 2 (some .int) (rmk 1 0 0) [.ref x0, .int wh] [wO x0 11 [.ref t0, .ref d0, .ref h0, .ref o0, .ref n0, .ref u0, .ref k0, .ref q0, .ref p0, .ref s0, .ref b0, .ref z0, .ref ly, .int (nI yc)], wO d0 10 [.ref t0, .ref d1, yh, yf, .int uh, .int wt, .int dt, .int vv, .int tq, .int pq]] (fun (r : Int32) (_ : Unit) => (r = ftF tq pq wh)) (fun (_ : Unit) => [wO x0 11 [.ref t0, .ref d0, .ref h0, .ref o0, .ref n0, .ref u0, .ref k0, .ref q0, .ref p0, .ref s0, .ref b0, .ref z0, .ref ly, .int (nI yc)], wO d0 10 [.ref t0, .ref d1, yh, yf, .int uh, .int wt, .int dt, .int vv, .int tq, .int pq]]) := by
  refine XMi.start (by decide) (Nat.le_of_ble_eq_true rfl) ?_
  intro p e s m below meth c args A ls Q hat hQ
  obtain ⟨hx, hb, hr, hml, hown, hg, hlocks, hin, hK, hA, hP, hD, hS, hE, hl⟩ := hat
  have hown : s.vm.findClass RX11 = some m.cls := hown
  have hl : lv_has ls 2 [(0, .ref x0), (1, .int wh)] := hl
  refine lv_iload_n hx hb dX11_fault_0 rfl (lv_at hl 1 rfl) ?_
  rcases (show wh = 0 ∨ wh = 1 ∨ (¬ wh = 0 ∧ ¬ wh = 1) from by by_cases h0 : wh = 0; exact Or.inl h0; by_cases h1 : wh = 1; exact Or.inr (Or.inl h1); exact Or.inr (Or.inr (⟨h0, h1⟩))) with rfl | rfl | hs
  · refine lv_lookup (off := 27) (tgt := 28) hx hb dX11_fault_1 (by decide) (by decide) (by decide) ?_
    refine lv_aload_n hx hb dX11_fault_28 rfl (lv_at hl 0 rfl) ?_
    refine va_get (D := D) (ci := 11) (v := .ref d0) (C := RX11) (T := TX11) (N := 14) hx hb hg i_X11 hown hK hP 0 rfl rfl 1 (by decide) (hg _ m_659) (fun _ h9 => h9) rfl dX11_fault_29 ?_
    refine va_get (D := D) (ci := 10) (v := .int tq) (C := RX10) (T := TX10) (N := 10) hx hb hg i_X10 hown hK hP 1 rfl rfl 8 (by decide) (hg _ m_264) (fun _ h9 => h9) rfl dX11_fault_32 ?_
    exact x_iret hQ hx hb hr hlocks hK hP hD hS dX11_fault_35 () (ftF_0) [0, 1] (by decide +kernel) rfl (Nat.le_of_ble_eq_true rfl) (Nat.le_of_ble_eq_true rfl)
  · refine lv_lookup (off := 35) (tgt := 36) hx hb dX11_fault_1 (by decide) (by decide) (by decide) ?_
    refine lv_aload_n hx hb dX11_fault_36 rfl (lv_at hl 0 rfl) ?_
    refine va_get (D := D) (ci := 11) (v := .ref d0) (C := RX11) (T := TX11) (N := 14) hx hb hg i_X11 hown hK hP 0 rfl rfl 1 (by decide) (hg _ m_659) (fun _ h9 => h9) rfl dX11_fault_37 ?_
    refine va_get (D := D) (ci := 10) (v := .int pq) (C := RX10) (T := TX10) (N := 10) hx hb hg i_X10 hown hK hP 1 rfl rfl 9 (by decide) (hg _ m_266) (fun _ h9 => h9) rfl dX11_fault_40 ?_
    exact x_iret hQ hx hb hr hlocks hK hP hD hS dX11_fault_43 () (ftF_1) [0, 1] (by decide +kernel) rfl (Nat.le_of_ble_eq_true rfl) (Nat.le_of_ble_eq_true rfl)
  · have hs0 : ¬ (0 : Int) = (wh : Int32).toInt := fun h => hs.1 ((fa_eq _ _).mpr h.symm)
    have hs1 : ¬ (1 : Int) = (wh : Int32).toInt := fun h => hs.2 ((fa_eq _ _).mpr h.symm)
    refine lv_lookup (off := 43) (tgt := 44) hx hb dX11_fault_1 (by decide) (by simp [Op.lookupswitch.offset, hs0, hs1]) (by decide) ?_
    refine lv_iconst (v := -1) hx hb dX11_fault_44 (by decide) ?_
    exact x_iret hQ hx hb hr hlocks hK hP hD hS dX11_fault_45 () (ftF_n hs.1 hs.2) [0, 1] (by decide +kernel) rfl (Nat.le_of_ble_eq_true rfl) (Nat.le_of_ble_eq_true rfl)
theorem gdX11_cliff_0 : decode cX11_cliff 0 = .ok (.aload_n 0, 1) ∧ decode cX11_cliff 1 = .ok (.getfield 28, 3) ∧ decode cX11_cliff 4 = .ok (.iconst 1, 1) ∧ decode cX11_cliff 5 = .ok (.iload_n 1, 1) ∧ decode cX11_cliff 6 = .ok (.invokevirtual 120, 3) := by decide +kernel
theorem dX11_cliff_0 : decode cX11_cliff 0 = .ok (.aload_n 0, 1) := gdX11_cliff_0.1
theorem dX11_cliff_1 : decode cX11_cliff 1 = .ok (.getfield 28, 3) := gdX11_cliff_0.2.1
theorem dX11_cliff_4 : decode cX11_cliff 4 = .ok (.iconst 1, 1) := gdX11_cliff_0.2.2.1
theorem dX11_cliff_5 : decode cX11_cliff 5 = .ok (.iload_n 1, 1) := gdX11_cliff_0.2.2.2.1
theorem dX11_cliff_6 : decode cX11_cliff 6 = .ok (.invokevirtual 120, 3) := gdX11_cliff_0.2.2.2.2
theorem k_X11_120 : xV RX11 RX4 120 yX4_has cX4_has 3 (some .boolean) 2 := ⟨⟨m_949, m_950, m_951, m_137, m_952⟩, rfl, by decide, by decide, by decide +kernel⟩
theorem gdX11_cliff_9 : decode cX11_cliff 9 = .ok (.ifCond .ne 5, 3) ∧ decode cX11_cliff 12 = .ok (.iconst (-1), 1) ∧ decode cX11_cliff 13 = .ok (.ireturn, 1) ∧ decode cX11_cliff 14 = .ok (.iload_n 2, 1) ∧ decode cX11_cliff 15 = .ok (.lookupswitch 48 #[(0, 25), (1, 35)], 25) ∧ decode cX11_cliff 40 = .ok (.aload_n 0, 1) ∧ decode cX11_cliff 41 = .ok (.getfield 28, 3) ∧ decode cX11_cliff 44 = .ok (.getfield 124, 3) ∧ decode cX11_cliff 47 = .ok (.iload_n 1, 1) ∧ decode cX11_cliff 48 = .ok (.iaload, 1) ∧ decode cX11_cliff 49 = .ok (.ireturn, 1) ∧ decode cX11_cliff 50 = .ok (.aload_n 0, 1) := by decide +kernel
theorem dX11_cliff_9 : decode cX11_cliff 9 = .ok (.ifCond .ne 5, 3) := gdX11_cliff_9.1
theorem dX11_cliff_12 : decode cX11_cliff 12 = .ok (.iconst (-1), 1) := gdX11_cliff_9.2.1
theorem dX11_cliff_13 : decode cX11_cliff 13 = .ok (.ireturn, 1) := gdX11_cliff_9.2.2.1
theorem dX11_cliff_14 : decode cX11_cliff 14 = .ok (.iload_n 2, 1) := gdX11_cliff_9.2.2.2.1
theorem dX11_cliff_15 : decode cX11_cliff 15 = .ok (.lookupswitch 48 #[(0, 25), (1, 35)], 25) := gdX11_cliff_9.2.2.2.2.1
theorem dX11_cliff_40 : decode cX11_cliff 40 = .ok (.aload_n 0, 1) := gdX11_cliff_9.2.2.2.2.2.1
theorem dX11_cliff_41 : decode cX11_cliff 41 = .ok (.getfield 28, 3) := gdX11_cliff_9.2.2.2.2.2.2.1
theorem dX11_cliff_44 : decode cX11_cliff 44 = .ok (.getfield 124, 3) := gdX11_cliff_9.2.2.2.2.2.2.2.1
theorem dX11_cliff_47 : decode cX11_cliff 47 = .ok (.iload_n 1, 1) := gdX11_cliff_9.2.2.2.2.2.2.2.2.1
theorem dX11_cliff_48 : decode cX11_cliff 48 = .ok (.iaload, 1) := gdX11_cliff_9.2.2.2.2.2.2.2.2.2.1
theorem dX11_cliff_49 : decode cX11_cliff 49 = .ok (.ireturn, 1) := gdX11_cliff_9.2.2.2.2.2.2.2.2.2.2.1
theorem dX11_cliff_50 : decode cX11_cliff 50 = .ok (.aload_n 0, 1) := gdX11_cliff_9.2.2.2.2.2.2.2.2.2.2.2
theorem gdX11_cliff_51 : decode cX11_cliff 51 = .ok (.getfield 38, 3) ∧ decode cX11_cliff 54 = .ok (.getfield 127, 3) ∧ decode cX11_cliff 57 = .ok (.bipush 25, 2) ∧ decode cX11_cliff 59 = .ok (.iload_n 1, 1) ∧ decode cX11_cliff 60 = .ok (.iadd, 1) ∧ decode cX11_cliff 61 = .ok (.iaload, 1) ∧ decode cX11_cliff 62 = .ok (.ireturn, 1) ∧ decode cX11_cliff 63 = .ok (.iconst (-1), 1) ∧ decode cX11_cliff 64 = .ok (.ireturn, 1) := by decide +kernel
theorem dX11_cliff_51 : decode cX11_cliff 51 = .ok (.getfield 38, 3) := gdX11_cliff_51.1
theorem dX11_cliff_54 : decode cX11_cliff 54 = .ok (.getfield 127, 3) := gdX11_cliff_51.2.1
theorem dX11_cliff_57 : decode cX11_cliff 57 = .ok (.bipush 25, 2) := gdX11_cliff_51.2.2.1
theorem dX11_cliff_59 : decode cX11_cliff 59 = .ok (.iload_n 1, 1) := gdX11_cliff_51.2.2.2.1
theorem dX11_cliff_60 : decode cX11_cliff 60 = .ok (.iadd, 1) := gdX11_cliff_51.2.2.2.2.1
theorem dX11_cliff_61 : decode cX11_cliff 61 = .ok (.iaload, 1) := gdX11_cliff_51.2.2.2.2.2.1
theorem dX11_cliff_62 : decode cX11_cliff 62 = .ok (.ireturn, 1) := gdX11_cliff_51.2.2.2.2.2.2.1
theorem dX11_cliff_63 : decode cX11_cliff 63 = .ok (.iconst (-1), 1) := gdX11_cliff_51.2.2.2.2.2.2.2.1
theorem dX11_cliff_64 : decode cX11_cliff 64 = .ok (.ireturn, 1) := gdX11_cliff_51.2.2.2.2.2.2.2.2
set_option maxHeartbeats 1000000 in
set_option maxRecDepth 100000 in
theorem s_xcliff (l : Launch) (D : va_G) (cy : Nat → ClassId) (x0 : Nat) (t0 : Nat) (d0 : Nat) (h0 : Nat) (h1 : Nat) (h2 : Nat) (h3 : Nat) (h4 : Nat) (h5 : Nat) (h6 : Nat) (h7 : Nat) (h8 : Nat) (h9 : Nat) (h10 : Nat) (h11 : Nat) (o0 : Nat) (n0 : Nat) (n1 : Nat) (n2 : Nat) (n3 : Nat) (u0 : Nat) (k0 : Nat) (q0 : Nat) (p0 : Nat) (s0 : Nat) (b0 : Nat) (z0 : Nat) (ly : Nat) (ys : Int32) (hon : Int32) (hwi : Int32) (hdr : Int32) (hu : Int32) (fc : Nat → Int32) (c0 : Nat) (c1 : Nat) (c2 : Nat) (c3 : Nat) (fp : Nat → Int32) (fu : Int32) (cu : Nat) (un : Nat) (re : Nat) (fn : Nat → Int32) (yc : Nat) (xm : Int32) (wh : Int32) (hcn : cntOK fc c0 c1 c2 c3) (hc0 : c0 ≤ 8) (hc1 : c1 ≤ 4) (hc2 : c2 ≤ 4) (hc3 : c3 ≤ 6) (hcu : cu ≤ 40) (hur : un + re ≤ 40) (hno : mRows fn 1) (hyc : yc ≤ 10) : XMi l D (tyL cy) E0 yX11_cliff cX11_cliff 3 (some .int) (rmk 1 0 0) [.ref x0, .int xm, .int wh] [wO x0 11 [.ref t0, .ref d0, .ref h0, .ref o0, .ref n0, .ref u0, .ref k0, .ref q0, .ref p0, .ref s0, .ref b0, .ref z0, .ref ly, .int (nI yc)], wO h0 4 [.ref h1, .ref h2, .ref h3, .ref h4, .ref h5, .ref h6, .ref h7, .ref h8, .ref h9, .ref h10, .ref h11, .int ys, .int hon, .int hwi, .int hdr, .int hu], wI (cy 1) h1 4 (fc), wI (cy 1) h3 4 (fp), wO n0 5 [.ref n1, .ref n2, .ref n3, .int fu, .int (nI cu), .int (nI un), .int (nI re)], wI (cy 1) n1 41 (fn)] (fun (r : Int32) (_ : Unit) => (clC c1 fp fn xm wh r)) (fun (_ : Unit) => [wO x0 11 [.ref t0, .ref d0, .ref h0, .ref o0, .ref n0, .ref u0, .ref k0, .ref q0, .ref p0, .ref s0, .ref b0, .ref z0, .ref ly, .int (nI yc)], wO h0 4 [.ref h1, .ref h2, .ref h3, .ref h4, .ref h5, .ref h6, .ref h7, .ref h8, .ref h9, .ref h10, .ref h11, .int ys, .int hon, .int hwi, .int hdr, .int hu], wI (cy 1) h1 4 (fc), wI (cy 1) h3 4 (fp), wO n0 5 [.ref n1, .ref n2, .ref n3, .int fu, .int (nI cu), .int (nI un), .int (nI re)], wI (cy 1) n1 41 (fn)]) := by
  refine XMi.start (by decide) (Nat.le_of_ble_eq_true rfl) ?_
  intro p e s m below meth c args A ls Q hat hQ
  obtain ⟨hx, hb, hr, hml, hown, hg, hlocks, hin, hK, hA, hP, hD, hS, hE, hl⟩ := hat
  have hown : s.vm.findClass RX11 = some m.cls := hown
  have hl : lv_has ls 3 [(0, .ref x0), (1, .int xm), (2, .int wh)] := hl
  refine lv_aload_n hx hb dX11_cliff_0 rfl (lv_at hl 0 rfl) ?_
  refine va_get (D := D) (ci := 11) (v := .ref h0) (C := RX11) (T := TX11) (N := 14) hx hb hg i_X11 hown hK hP 0 rfl rfl 2 (by decide) (hg _ m_660) (fun _ h9 => h9) rfl dX11_cliff_1 ?_
  refine lv_iconst (v := 1) hx hb dX11_cliff_4 (by decide) ?_
  refine lv_iload_n hx hb dX11_cliff_5 rfl (lv_at hl 1 rfl) ?_
  refine x_callVi (q := (RX4, TX4, 16)) (ci := 4) (q0 := 0) (wr := [wO x0 11 [.ref t0, .ref d0, .ref h0, .ref o0, .ref n0, .ref u0, .ref k0, .ref q0, .ref p0, .ref s0, .ref b0, .ref z0, .ref ly, .int (nI yc)], wI (cy 1) h3 4 (fp), wO n0 5 [.ref n1, .ref n2, .ref n3, .int fu, .int (nI cu), .int (nI un), .int (nI re)], wI (cy 1) n1 41 (fn)]) (rest := []) ⟨hx, hb, hml, hown, hg, hl.1⟩ k_X11_120 (s_has1 l D cy h0 h1 h2 h3 h4 h5 h6 h7 h8 h9 h10 h11 ((.int ys)) ((.int hon)) ((.int hwi)) ((.int hdr)) ((.int hu)) fc c0 c1 c2 c3 xm (hcn) (by omega) (by omega) (by omega) (by omega)) E0_blind hK hP hD hS hA [1, 2] [0, 3, 4, 5] ⟨rfl, rfl, by decide +kernel, by decide +kernel, by decide +kernel⟩ rfl rfl (fun _ _ _ => trivial) dX11_cliff_6 rfl rfl (Nat.le_of_ble_eq_true rfl) ⟨Nat.le_of_ble_eq_true rfl, Nat.le_of_ble_eq_true rfl⟩ ⟨Nat.le_of_ble_eq_true rfl, Nat.le_of_ble_eq_true rfl⟩ (fun zr1 zu1 H locs hw1 hP9 hD9 hS9 => ?_)
  clear hP hD hS
  refine reW [wO x0 11 [.ref t0, .ref d0, .ref h0, .ref o0, .ref n0, .ref u0, .ref k0, .ref q0, .ref p0, .ref s0, .ref b0, .ref z0, .ref ly, .int (nI yc)], wI (cy 1) h3 4 (fp), wO n0 5 [.ref n1, .ref n2, .ref n3, .int fu, .int (nI cu), .int (nI un), .int (nI re)], wI (cy 1) n1 41 (fn), wO h0 4 [.ref h1, .ref h2, .ref h3, .ref h4, .ref h5, .ref h6, .ref h7, .ref h8, .ref h9, .ref h10, .ref h11, .int ys, .int hon, .int hwi, .int hdr, .int hu], wI (cy 1) h1 4 (fc)] hP9 hD9 hS9 (fun hP hD hS => ?_)
  clear hP9 hD9 hS9
  refine W.widen (k := 0) (n := 0) (Nat.le_of_ble_eq_true rfl) (Nat.le_of_ble_eq_true rfl) ?_
  replace hw1 : (zr1 = 0 ∨ (zr1 = 1 ∧ ∃ j : Nat, j < c1 ∧ xm = nI j)) ∧ (zr1 = 0 → ¬ inR xm c1) := hw1
  obtain ⟨f_2, f_3⟩ := hw1
  rcases f_2 with hz_5 | ⟨hz_5, j_4, hj_4, ej_4⟩
  · subst hz_5
    refine lv_if_ne (tgt := 14) hx hb dX11_cliff_9 (by decide) (fun h => absurd (by decide) h) (fun _ => ?_)
    refine lv_iconst (v := -1) hx hb dX11_cliff_12 (by decide) ?_
    exact x_iret hQ hx hb hr hlocks hK hP hD hS dX11_cliff_13 () (Or.inl ⟨rfl, Or.inl (f_3 rfl)⟩) [0, 4, 5, 1, 2, 3] (by decide +kernel) rfl (Nat.le_of_ble_eq_true rfl) (Nat.le_of_ble_eq_true rfl)
  · subst hz_5
    subst ej_4
    refine lv_if_ne (tgt := 14) hx hb dX11_cliff_9 (by decide) (fun _ => ?_) (fun h => absurd h (by decide))
    refine lv_iload_n hx hb dX11_cliff_14 rfl (lv_at hl 2 rfl) ?_
    rcases (show wh = 0 ∨ wh = 1 ∨ (¬ wh = 0 ∧ ¬ wh = 1) from by by_cases h0 : wh = 0; exact Or.inl h0; by_cases h1 : wh = 1; exact Or.inr (Or.inl h1); exact Or.inr (Or.inr (⟨h0, h1⟩))) with rfl | rfl | hs
    · refine lv_lookup (off := 25) (tgt := 40) hx hb dX11_cliff_15 (by decide) (by decide) (by decide) ?_
      refine lv_aload_n hx hb dX11_cliff_40 rfl (lv_at hl 0 rfl) ?_
      refine va_get (D := D) (ci := 11) (v := .ref h0) (C := RX11) (T := TX11) (N := 14) hx hb hg i_X11 hown hK hP 0 rfl rfl 2 (by decide) (hg _ m_660) (fun _ h9 => h9) rfl dX11_cliff_41 ?_
      refine va_get (D := D) (ci := 4) (v := .ref h3) (C := RX4) (T := TX4) (N := 16) hx hb hg i_X4 hown hK hP 4 rfl rfl 2 (by decide) (hg _ m_343) (fun _ h9 => h9) rfl dX11_cliff_44 ?_
      refine lv_iload_n hx hb dX11_cliff_47 rfl (lv_at hl 1 rfl) ?_
      refine va_iald hx hb hK hP 1 1 rfl rfl (vp_in_nI (by omega) (by decide)) dX11_cliff_48 ?_
      refine lv_topi (fun x_6 ex_6 => ?_)
      exact x_iret hQ hx hb hr hlocks hK hP hD hS dX11_cliff_49 () (Or.inr ⟨j_4, hj_4, rfl, Or.inl ⟨rfl, ld_at (by omega) ex_6⟩⟩) [0, 4, 5, 1, 2, 3] (by decide +kernel) rfl (Nat.le_of_ble_eq_true rfl) (Nat.le_of_ble_eq_true rfl)
    · refine lv_lookup (off := 35) (tgt := 50) hx hb dX11_cliff_15 (by decide) (by decide) (by decide) ?_
      refine lv_aload_n hx hb dX11_cliff_50 rfl (lv_at hl 0 rfl) ?_
      refine va_get (D := D) (ci := 11) (v := .ref n0) (C := RX11) (T := TX11) (N := 14) hx hb hg i_X11 hown hK hP 0 rfl rfl 4 (by decide) (hg _ m_662) (fun _ h9 => h9) rfl dX11_cliff_51 ?_
      refine va_get (D := D) (ci := 5) (v := .ref n1) (C := RX5) (T := TX5) (N := 7) hx hb hg i_X5 hown hK hP 2 rfl rfl 0 (by decide) (hg _ m_424) (fun _ h9 => h9) rfl dX11_cliff_54 ?_
      refine lv_bipush (v := 25) hx hb dX11_cliff_57 (by decide) ?_
      refine lv_iload_n hx hb dX11_cliff_59 rfl (lv_at hl 1 rfl) ?_
      refine lv_iadd hx hb dX11_cliff_60 ?_
      refine lv_topi (fun y_7 hy_7 => ?_)
      obtain rfl : y_7 = nI (25 + j_4) := hy_7.trans (nI_add 25 j_4)
      refine va_iald hx hb hK hP 3 1 rfl rfl (vp_in_nI (by omega) (by decide)) dX11_cliff_61 ?_
      refine lv_topi (fun x_8 ex_8 => ?_)
      exact x_iret hQ hx hb hr hlocks hK hP hD hS dX11_cliff_62 () (Or.inr ⟨j_4, hj_4, rfl, Or.inr ⟨rfl, ld_at (by omega) ex_8⟩⟩) [0, 4, 5, 1, 2, 3] (by decide +kernel) rfl (Nat.le_of_ble_eq_true rfl) (Nat.le_of_ble_eq_true rfl)
    · have hs0 : ¬ (0 : Int) = (wh : Int32).toInt := fun h => hs.1 ((fa_eq _ _).mpr h.symm)
      have hs1 : ¬ (1 : Int) = (wh : Int32).toInt := fun h => hs.2 ((fa_eq _ _).mpr h.symm)
      refine lv_lookup (off := 48) (tgt := 63) hx hb dX11_cliff_15 (by decide) (by simp [Op.lookupswitch.offset, hs0, hs1]) (by decide) ?_
      refine lv_iconst (v := -1) hx hb dX11_cliff_63 (by decide) ?_
      exact x_iret hQ hx hb hr hlocks hK hP hD hS dX11_cliff_64 () (Or.inl ⟨rfl, Or.inr ⟨hs.1, hs.2⟩⟩) [0, 4, 5, 1, 2, 3] (by decide +kernel) rfl (Nat.le_of_ble_eq_true rfl) (Nat.le_of_ble_eq_true rfl)
theorem gdX11_man_0 : decode cX11_man 0 = .ok (.aload_n 0, 1) ∧ decode cX11_man 1 = .ok (.getfield 28, 3) ∧ decode cX11_man 4 = .ok (.iconst 2, 1) ∧ decode cX11_man 5 = .ok (.iload_n 1, 1) ∧ decode cX11_man 6 = .ok (.invokevirtual 120, 3) ∧ decode cX11_man 9 = .ok (.ifCond .ne 5, 3) ∧ decode cX11_man 12 = .ok (.iconst (-1), 1) ∧ decode cX11_man 13 = .ok (.ireturn, 1) ∧ decode cX11_man 14 = .ok (.iload_n 2, 1) ∧ decode cX11_man 15 = .ok (.tableswitch 83 0 4 #[33, 43, 53, 63, 73], 33) ∧ decode cX11_man 98 = .ok (.iconst (-1), 1) ∧ decode cX11_man 99 = .ok (.ireturn, 1) := by decide +kernel
theorem dX11_man_0 : decode cX11_man 0 = .ok (.aload_n 0, 1) := gdX11_man_0.1
theorem dX11_man_1 : decode cX11_man 1 = .ok (.getfield 28, 3) := gdX11_man_0.2.1
theorem dX11_man_4 : decode cX11_man 4 = .ok (.iconst 2, 1) := gdX11_man_0.2.2.1
theorem dX11_man_5 : decode cX11_man 5 = .ok (.iload_n 1, 1) := gdX11_man_0.2.2.2.1
theorem dX11_man_6 : decode cX11_man 6 = .ok (.invokevirtual 120, 3) := gdX11_man_0.2.2.2.2.1
theorem dX11_man_9 : decode cX11_man 9 = .ok (.ifCond .ne 5, 3) := gdX11_man_0.2.2.2.2.2.1
theorem dX11_man_12 : decode cX11_man 12 = .ok (.iconst (-1), 1) := gdX11_man_0.2.2.2.2.2.2.1
theorem dX11_man_13 : decode cX11_man 13 = .ok (.ireturn, 1) := gdX11_man_0.2.2.2.2.2.2.2.1
theorem dX11_man_14 : decode cX11_man 14 = .ok (.iload_n 2, 1) := gdX11_man_0.2.2.2.2.2.2.2.2.1
theorem dX11_man_15 : decode cX11_man 15 = .ok (.tableswitch 83 0 4 #[33, 43, 53, 63, 73], 33) := gdX11_man_0.2.2.2.2.2.2.2.2.2.1
theorem dX11_man_98 : decode cX11_man 98 = .ok (.iconst (-1), 1) := gdX11_man_0.2.2.2.2.2.2.2.2.2.2.1
theorem dX11_man_99 : decode cX11_man 99 = .ok (.ireturn, 1) := gdX11_man_0.2.2.2.2.2.2.2.2.2.2.2
theorem gdX11_man_48 : decode cX11_man 48 = .ok (.aload_n 0, 1) ∧ decode cX11_man 49 = .ok (.getfield 28, 3) ∧ decode cX11_man 52 = .ok (.getfield 130, 3) ∧ decode cX11_man 55 = .ok (.iload_n 1, 1) ∧ decode cX11_man 56 = .ok (.iaload, 1) ∧ decode cX11_man 57 = .ok (.ireturn, 1) ∧ decode cX11_man 58 = .ok (.aload_n 0, 1) ∧ decode cX11_man 59 = .ok (.getfield 28, 3) ∧ decode cX11_man 62 = .ok (.getfield 133, 3) ∧ decode cX11_man 65 = .ok (.iload_n 1, 1) ∧ decode cX11_man 66 = .ok (.iaload, 1) ∧ decode cX11_man 67 = .ok (.ireturn, 1) := by decide +kernel
theorem dX11_man_48 : decode cX11_man 48 = .ok (.aload_n 0, 1) := gdX11_man_48.1
theorem dX11_man_49 : decode cX11_man 49 = .ok (.getfield 28, 3) := gdX11_man_48.2.1
theorem dX11_man_52 : decode cX11_man 52 = .ok (.getfield 130, 3) := gdX11_man_48.2.2.1
theorem dX11_man_55 : decode cX11_man 55 = .ok (.iload_n 1, 1) := gdX11_man_48.2.2.2.1
theorem dX11_man_56 : decode cX11_man 56 = .ok (.iaload, 1) := gdX11_man_48.2.2.2.2.1
theorem dX11_man_57 : decode cX11_man 57 = .ok (.ireturn, 1) := gdX11_man_48.2.2.2.2.2.1
theorem dX11_man_58 : decode cX11_man 58 = .ok (.aload_n 0, 1) := gdX11_man_48.2.2.2.2.2.2.1
theorem dX11_man_59 : decode cX11_man 59 = .ok (.getfield 28, 3) := gdX11_man_48.2.2.2.2.2.2.2.1
theorem dX11_man_62 : decode cX11_man 62 = .ok (.getfield 133, 3) := gdX11_man_48.2.2.2.2.2.2.2.2.1
theorem dX11_man_65 : decode cX11_man 65 = .ok (.iload_n 1, 1) := gdX11_man_48.2.2.2.2.2.2.2.2.2.1
theorem dX11_man_66 : decode cX11_man 66 = .ok (.iaload, 1) := gdX11_man_48.2.2.2.2.2.2.2.2.2.2.1
theorem dX11_man_67 : decode cX11_man 67 = .ok (.ireturn, 1) := gdX11_man_48.2.2.2.2.2.2.2.2.2.2.2
theorem gdX11_man_68 : decode cX11_man 68 = .ok (.aload_n 0, 1) ∧ decode cX11_man 69 = .ok (.getfield 38, 3) ∧ decode cX11_man 72 = .ok (.iload_n 1, 1) ∧ decode cX11_man 73 = .ok (.iconst 2, 1) ∧ decode cX11_man 74 = .ok (.invokevirtual 136, 3) := by decide +kernel
theorem dX11_man_68 : decode cX11_man 68 = .ok (.aload_n 0, 1) := gdX11_man_68.1
theorem dX11_man_69 : decode cX11_man 69 = .ok (.getfield 38, 3) := gdX11_man_68.2.1
theorem dX11_man_72 : decode cX11_man 72 = .ok (.iload_n 1, 1) := gdX11_man_68.2.2.1
theorem dX11_man_73 : decode cX11_man 73 = .ok (.iconst 2, 1) := gdX11_man_68.2.2.2.1
theorem dX11_man_74 : decode cX11_man 74 = .ok (.invokevirtual 136, 3) := gdX11_man_68.2.2.2.2
theorem k_X11_136 : xV RX11 RX5 136 yX5_verdicts cX5_verdicts 3 (some .int) 2 := ⟨⟨m_957, m_958, m_959, m_139, m_960⟩, rfl, by decide, by decide, by decide +kernel⟩
theorem gdX11_man_77 : decode cX11_man 77 = .ok (.ireturn, 1) ∧ decode cX11_man 78 = .ok (.aload_n 0, 1) ∧ decode cX11_man 79 = .ok (.getfield 38, 3) ∧ decode cX11_man 82 = .ok (.iload_n 1, 1) ∧ decode cX11_man 83 = .ok (.iconst 1, 1) ∧ decode cX11_man 84 = .ok (.invokevirtual 136, 3) ∧ decode cX11_man 87 = .ok (.ireturn, 1) ∧ decode cX11_man 88 = .ok (.aload_n 0, 1) ∧ decode cX11_man 89 = .ok (.getfield 38, 3) ∧ decode cX11_man 92 = .ok (.iload_n 1, 1) ∧ decode cX11_man 93 = .ok (.iconst 0, 1) ∧ decode cX11_man 94 = .ok (.invokevirtual 136, 3) := by decide +kernel
theorem dX11_man_77 : decode cX11_man 77 = .ok (.ireturn, 1) := gdX11_man_77.1
theorem dX11_man_78 : decode cX11_man 78 = .ok (.aload_n 0, 1) := gdX11_man_77.2.1
theorem dX11_man_79 : decode cX11_man 79 = .ok (.getfield 38, 3) := gdX11_man_77.2.2.1
theorem dX11_man_82 : decode cX11_man 82 = .ok (.iload_n 1, 1) := gdX11_man_77.2.2.2.1
theorem dX11_man_83 : decode cX11_man 83 = .ok (.iconst 1, 1) := gdX11_man_77.2.2.2.2.1
theorem dX11_man_84 : decode cX11_man 84 = .ok (.invokevirtual 136, 3) := gdX11_man_77.2.2.2.2.2.1
theorem dX11_man_87 : decode cX11_man 87 = .ok (.ireturn, 1) := gdX11_man_77.2.2.2.2.2.2.1
theorem dX11_man_88 : decode cX11_man 88 = .ok (.aload_n 0, 1) := gdX11_man_77.2.2.2.2.2.2.2.1
theorem dX11_man_89 : decode cX11_man 89 = .ok (.getfield 38, 3) := gdX11_man_77.2.2.2.2.2.2.2.2.1
theorem dX11_man_92 : decode cX11_man 92 = .ok (.iload_n 1, 1) := gdX11_man_77.2.2.2.2.2.2.2.2.2.1
theorem dX11_man_93 : decode cX11_man 93 = .ok (.iconst 0, 1) := gdX11_man_77.2.2.2.2.2.2.2.2.2.2.1
theorem dX11_man_94 : decode cX11_man 94 = .ok (.invokevirtual 136, 3) := gdX11_man_77.2.2.2.2.2.2.2.2.2.2.2
theorem dX11_man_97 : decode cX11_man 97 = .ok (.ireturn, 1) := by decide +kernel
set_option maxHeartbeats 1000000 in
set_option maxRecDepth 100000 in
theorem s_xman (l : Launch) (D : va_G) (cy : Nat → ClassId) (x0 : Nat) (t0 : Nat) (d0 : Nat) (h0 : Nat) (h1 : Nat) (h2 : Nat) (h3 : Nat) (h4 : Nat) (h5 : Nat) (h6 : Nat) (h7 : Nat) (h8 : Nat) (h9 : Nat) (h10 : Nat) (h11 : Nat) (o0 : Nat) (n0 : Nat) (n1 : Nat) (n2 : Nat) (n3 : Nat) (u0 : Nat) (k0 : Nat) (q0 : Nat) (p0 : Nat) (s0 : Nat) (b0 : Nat) (z0 : Nat) (ly : Nat) (ys : Int32) (hon : Int32) (hwi : Int32) (hdr : Int32) (hu : Int32) (fc : Nat → Int32) (c0 : Nat) (c1 : Nat) (c2 : Nat) (c3 : Nat) (fmp : Nat → Int32) (fmv : Nat → Int32) (fu : Int32) (cu : Nat) (un : Nat) (re : Nat) (fn : Nat → Int32) (yc : Nat) (xm : Int32) (wh : Int32) (hcn : cntOK fc c0 c1 c2 c3) (hc0 : c0 ≤ 8) (hc1 : c1 ≤ 4) (hc2 : c2 ≤ 4) (hc3 : c3 ≤ 6) (hcu : cu ≤ 40) (hur : un + re ≤ 40) (hno : mRows fn 1) (hyc : yc ≤ 10) : XMi l D (tyL cy) E0 yX11_man cX11_man 3 (some .int) (rmk 1 0 0) [.ref x0, .int xm, .int wh] [wO x0 11 [.ref t0, .ref d0, .ref h0, .ref o0, .ref n0, .ref u0, .ref k0, .ref q0, .ref p0, .ref s0, .ref b0, .ref z0, .ref ly, .int (nI yc)], wO h0 4 [.ref h1, .ref h2, .ref h3, .ref h4, .ref h5, .ref h6, .ref h7, .ref h8, .ref h9, .ref h10, .ref h11, .int ys, .int hon, .int hwi, .int hdr, .int hu], wI (cy 1) h1 4 (fc), wI (cy 1) h5 4 (fmp), wI (cy 1) h6 4 (fmv), wO n0 5 [.ref n1, .ref n2, .ref n3, .int fu, .int (nI cu), .int (nI un), .int (nI re)], wI (cy 1) n1 41 (fn)] (fun (r : Int32) (_ : Unit) => True) (fun (_ : Unit) => [wO x0 11 [.ref t0, .ref d0, .ref h0, .ref o0, .ref n0, .ref u0, .ref k0, .ref q0, .ref p0, .ref s0, .ref b0, .ref z0, .ref ly, .int (nI yc)], wO h0 4 [.ref h1, .ref h2, .ref h3, .ref h4, .ref h5, .ref h6, .ref h7, .ref h8, .ref h9, .ref h10, .ref h11, .int ys, .int hon, .int hwi, .int hdr, .int hu], wI (cy 1) h1 4 (fc), wI (cy 1) h5 4 (fmp), wI (cy 1) h6 4 (fmv), wO n0 5 [.ref n1, .ref n2, .ref n3, .int fu, .int (nI cu), .int (nI un), .int (nI re)], wI (cy 1) n1 41 (fn)]) := by
  refine XMi.start (by decide) (Nat.le_of_ble_eq_true rfl) ?_
  intro p e s m below meth c args A ls Q hat hQ
  obtain ⟨hx, hb, hr, hml, hown, hg, hlocks, hin, hK, hA, hP, hD, hS, hE, hl⟩ := hat
  have hown : s.vm.findClass RX11 = some m.cls := hown
  have hl : lv_has ls 3 [(0, .ref x0), (1, .int xm), (2, .int wh)] := hl
  refine lv_aload_n hx hb dX11_man_0 rfl (lv_at hl 0 rfl) ?_
  refine va_get (D := D) (ci := 11) (v := .ref h0) (C := RX11) (T := TX11) (N := 14) hx hb hg i_X11 hown hK hP 0 rfl rfl 2 (by decide) (hg _ m_660) (fun _ h9 => h9) rfl dX11_man_1 ?_
  refine lv_iconst (v := 2) hx hb dX11_man_4 (by decide) ?_
  refine lv_iload_n hx hb dX11_man_5 rfl (lv_at hl 1 rfl) ?_
  refine x_callVi (q := (RX4, TX4, 16)) (ci := 4) (q0 := 0) (wr := [wO x0 11 [.ref t0, .ref d0, .ref h0, .ref o0, .ref n0, .ref u0, .ref k0, .ref q0, .ref p0, .ref s0, .ref b0, .ref z0, .ref ly, .int (nI yc)], wI (cy 1) h5 4 (fmp), wI (cy 1) h6 4 (fmv), wO n0 5 [.ref n1, .ref n2, .ref n3, .int fu, .int (nI cu), .int (nI un), .int (nI re)], wI (cy 1) n1 41 (fn)]) (rest := []) ⟨hx, hb, hml, hown, hg, hl.1⟩ k_X11_120 (s_has2 l D cy h0 h1 h2 h3 h4 h5 h6 h7 h8 h9 h10 h11 ((.int ys)) ((.int hon)) ((.int hwi)) ((.int hdr)) ((.int hu)) fc c0 c1 c2 c3 xm (hcn) (by omega) (by omega) (by omega) (by omega)) E0_blind hK hP hD hS hA [1, 2] [0, 3, 4, 5, 6] ⟨rfl, rfl, by decide +kernel, by decide +kernel, by decide +kernel⟩ rfl rfl (fun _ _ _ => trivial) dX11_man_6 rfl rfl (Nat.le_of_ble_eq_true rfl) ⟨Nat.le_of_ble_eq_true rfl, Nat.le_of_ble_eq_true rfl⟩ ⟨Nat.le_of_ble_eq_true rfl, Nat.le_of_ble_eq_true rfl⟩ (fun zr1 zu1 H locs hw1 hP9 hD9 hS9 => ?_)
  clear hP hD hS
  refine reW [wO x0 11 [.ref t0, .ref d0, .ref h0, .ref o0, .ref n0, .ref u0, .ref k0, .ref q0, .ref p0, .ref s0, .ref b0, .ref z0, .ref ly, .int (nI yc)], wI (cy 1) h5 4 (fmp), wI (cy 1) h6 4 (fmv), wO n0 5 [.ref n1, .ref n2, .ref n3, .int fu, .int (nI cu), .int (nI un), .int (nI re)], wI (cy 1) n1 41 (fn), wO h0 4 [.ref h1, .ref h2, .ref h3, .ref h4, .ref h5, .ref h6, .ref h7, .ref h8, .ref h9, .ref h10, .ref h11, .int ys, .int hon, .int hwi, .int hdr, .int hu], wI (cy 1) h1 4 (fc)] hP9 hD9 hS9 (fun hP hD hS => ?_)
  clear hP9 hD9 hS9
  refine W.widen (k := 0) (n := 0) (Nat.le_of_ble_eq_true rfl) (Nat.le_of_ble_eq_true rfl) ?_
  replace hw1 : (zr1 = 0 ∨ (zr1 = 1 ∧ ∃ j : Nat, j < c2 ∧ xm = nI j)) ∧ (zr1 = 0 → ¬ inR xm c2) := hw1
  obtain ⟨f_2, f_3⟩ := hw1
  rcases f_2 with hz_5 | ⟨hz_5, j_4, hj_4, ej_4⟩
  · subst hz_5
    refine lv_if_ne (tgt := 14) hx hb dX11_man_9 (by decide) (fun h => absurd (by decide) h) (fun _ => ?_)
    refine lv_iconst (v := -1) hx hb dX11_man_12 (by decide) ?_
    exact x_iret hQ hx hb hr hlocks hK hP hD hS dX11_man_13 () (trivial) [0, 5, 6, 1, 2, 3, 4] (by decide +kernel) rfl (Nat.le_of_ble_eq_true rfl) (Nat.le_of_ble_eq_true rfl)
  · subst hz_5
    subst ej_4
    refine lv_if_ne (tgt := 14) hx hb dX11_man_9 (by decide) (fun _ => ?_) (fun h => absurd h (by decide))
    refine lv_iload_n hx hb dX11_man_14 rfl (lv_at hl 2 rfl) ?_
    rcases sw_split wh 5 (by decide) with hs | ⟨j, hj, rfl⟩
    · refine lv_tableOut (tgt := 98) hx hb dX11_man_15 (by omega) (by decide) ?_
      refine lv_iconst (v := -1) hx hb dX11_man_98 (by decide) ?_
      exact x_iret hQ hx hb hr hlocks hK hP hD hS dX11_man_99 () (trivial) [0, 5, 6, 1, 2, 3, 4] (by decide +kernel) rfl (Nat.le_of_ble_eq_true rfl) (Nat.le_of_ble_eq_true rfl)
    · rcases (show j = 0 ∨ j = 1 ∨ j = 2 ∨ j = 3 ∨ j = 4 by omega) with rfl | rfl | rfl | rfl | rfl
      · refine lv_tableIn (off := 33) (tgt := 48) hx hb dX11_man_15 (by decide) (by decide) (by decide) (by decide) ?_
        refine lv_aload_n hx hb dX11_man_48 rfl (lv_at hl 0 rfl) ?_
        refine va_get (D := D) (ci := 11) (v := .ref h0) (C := RX11) (T := TX11) (N := 14) hx hb hg i_X11 hown hK hP 0 rfl rfl 2 (by decide) (hg _ m_660) (fun _ h9 => h9) rfl dX11_man_49 ?_
        refine va_get (D := D) (ci := 4) (v := .ref h5) (C := RX4) (T := TX4) (N := 16) hx hb hg i_X4 hown hK hP 5 rfl rfl 4 (by decide) (hg _ m_350) (fun _ h9 => h9) rfl dX11_man_52 ?_
        refine lv_iload_n hx hb dX11_man_55 rfl (lv_at hl 1 rfl) ?_
        refine va_iald hx hb hK hP 1 1 rfl rfl (vp_in_nI (by omega) (by decide)) dX11_man_56 ?_
        refine lv_topi (fun x_6 ex_6 => ?_)
        exact x_iret hQ hx hb hr hlocks hK hP hD hS dX11_man_57 () (trivial) [0, 5, 6, 1, 2, 3, 4] (by decide +kernel) rfl (Nat.le_of_ble_eq_true rfl) (Nat.le_of_ble_eq_true rfl)
      · refine lv_tableIn (off := 43) (tgt := 58) hx hb dX11_man_15 (by decide) (by decide) (by decide) (by decide) ?_
        refine lv_aload_n hx hb dX11_man_58 rfl (lv_at hl 0 rfl) ?_
        refine va_get (D := D) (ci := 11) (v := .ref h0) (C := RX11) (T := TX11) (N := 14) hx hb hg i_X11 hown hK hP 0 rfl rfl 2 (by decide) (hg _ m_660) (fun _ h9 => h9) rfl dX11_man_59 ?_
        refine va_get (D := D) (ci := 4) (v := .ref h6) (C := RX4) (T := TX4) (N := 16) hx hb hg i_X4 hown hK hP 5 rfl rfl 5 (by decide) (hg _ m_353) (fun _ h9 => h9) rfl dX11_man_62 ?_
        refine lv_iload_n hx hb dX11_man_65 rfl (lv_at hl 1 rfl) ?_
        refine va_iald hx hb hK hP 2 1 rfl rfl (vp_in_nI (by omega) (by decide)) dX11_man_66 ?_
        refine lv_topi (fun x_7 ex_7 => ?_)
        exact x_iret hQ hx hb hr hlocks hK hP hD hS dX11_man_67 () (trivial) [0, 5, 6, 1, 2, 3, 4] (by decide +kernel) rfl (Nat.le_of_ble_eq_true rfl) (Nat.le_of_ble_eq_true rfl)
      · refine lv_tableIn (off := 53) (tgt := 68) hx hb dX11_man_15 (by decide) (by decide) (by decide) (by decide) ?_
        refine lv_aload_n hx hb dX11_man_68 rfl (lv_at hl 0 rfl) ?_
        refine va_get (D := D) (ci := 11) (v := .ref n0) (C := RX11) (T := TX11) (N := 14) hx hb hg i_X11 hown hK hP 0 rfl rfl 4 (by decide) (hg _ m_662) (fun _ h9 => h9) rfl dX11_man_69 ?_
        refine lv_iload_n hx hb dX11_man_72 rfl (lv_at hl 1 rfl) ?_
        refine lv_iconst (v := 2) hx hb dX11_man_73 (by decide) ?_
        refine x_callVi (q := (RX5, TX5, 7)) (ci := 5) (q0 := 0) (wr := [wO x0 11 [.ref t0, .ref d0, .ref h0, .ref o0, .ref n0, .ref u0, .ref k0, .ref q0, .ref p0, .ref s0, .ref b0, .ref z0, .ref ly, .int (nI yc)], wI (cy 1) h5 4 (fmp), wI (cy 1) h6 4 (fmv), wO h0 4 [.ref h1, .ref h2, .ref h3, .ref h4, .ref h5, .ref h6, .ref h7, .ref h8, .ref h9, .ref h10, .ref h11, .int ys, .int hon, .int hwi, .int hdr, .int hu], wI (cy 1) h1 4 (fc)]) (rest := []) ⟨hx, hb, hml, hown, hg, hl.1⟩ k_X11_136 (s_verdicts2 l D cy n0 n1 n2 n3 fu cu un re fn j_4 (by omega)) E0_blind hK hP hD hS hA [3, 4] [0, 1, 2, 5, 6] ⟨rfl, rfl, by decide +kernel, by decide +kernel, by decide +kernel⟩ rfl rfl (fun _ _ _ => trivial) dX11_man_74 rfl rfl (Nat.le_of_ble_eq_true rfl) ⟨Nat.le_of_ble_eq_true rfl, Nat.le_of_ble_eq_true rfl⟩ ⟨Nat.le_of_ble_eq_true rfl, Nat.le_of_ble_eq_true rfl⟩ (fun zr8 zu8 H locs hw8 hP9 hD9 hS9 => ?_)
        clear hP hD hS
        refine reW [wO x0 11 [.ref t0, .ref d0, .ref h0, .ref o0, .ref n0, .ref u0, .ref k0, .ref q0, .ref p0, .ref s0, .ref b0, .ref z0, .ref ly, .int (nI yc)], wI (cy 1) h5 4 (fmp), wI (cy 1) h6 4 (fmv), wO h0 4 [.ref h1, .ref h2, .ref h3, .ref h4, .ref h5, .ref h6, .ref h7, .ref h8, .ref h9, .ref h10, .ref h11, .int ys, .int hon, .int hwi, .int hdr, .int hu], wI (cy 1) h1 4 (fc), wO n0 5 [.ref n1, .ref n2, .ref n3, .int fu, .int (nI cu), .int (nI un), .int (nI re)], wI (cy 1) n1 41 (fn)] hP9 hD9 hS9 (fun hP hD hS => ?_)
        clear hP9 hD9 hS9
        refine W.widen (k := 0) (n := 0) (Nat.le_of_ble_eq_true rfl) (Nat.le_of_ble_eq_true rfl) ?_
        replace hw8 : True := hw8
        exact x_iret hQ hx hb hr hlocks hK hP hD hS dX11_man_77 () (trivial) [0, 3, 4, 1, 2, 5, 6] (by decide +kernel) rfl (Nat.le_of_ble_eq_true rfl) (Nat.le_of_ble_eq_true rfl)
      · refine lv_tableIn (off := 63) (tgt := 78) hx hb dX11_man_15 (by decide) (by decide) (by decide) (by decide) ?_
        refine lv_aload_n hx hb dX11_man_78 rfl (lv_at hl 0 rfl) ?_
        refine va_get (D := D) (ci := 11) (v := .ref n0) (C := RX11) (T := TX11) (N := 14) hx hb hg i_X11 hown hK hP 0 rfl rfl 4 (by decide) (hg _ m_662) (fun _ h9 => h9) rfl dX11_man_79 ?_
        refine lv_iload_n hx hb dX11_man_82 rfl (lv_at hl 1 rfl) ?_
        refine lv_iconst (v := 1) hx hb dX11_man_83 (by decide) ?_
        refine x_callVi (q := (RX5, TX5, 7)) (ci := 5) (q0 := 0) (wr := [wO x0 11 [.ref t0, .ref d0, .ref h0, .ref o0, .ref n0, .ref u0, .ref k0, .ref q0, .ref p0, .ref s0, .ref b0, .ref z0, .ref ly, .int (nI yc)], wI (cy 1) h5 4 (fmp), wI (cy 1) h6 4 (fmv), wO h0 4 [.ref h1, .ref h2, .ref h3, .ref h4, .ref h5, .ref h6, .ref h7, .ref h8, .ref h9, .ref h10, .ref h11, .int ys, .int hon, .int hwi, .int hdr, .int hu], wI (cy 1) h1 4 (fc)]) (rest := []) ⟨hx, hb, hml, hown, hg, hl.1⟩ k_X11_136 (s_verdicts1 l D cy n0 n1 n2 n3 fu cu un re fn j_4 (by omega)) E0_blind hK hP hD hS hA [3, 4] [0, 1, 2, 5, 6] ⟨rfl, rfl, by decide +kernel, by decide +kernel, by decide +kernel⟩ rfl rfl (fun _ _ _ => trivial) dX11_man_84 rfl rfl (Nat.le_of_ble_eq_true rfl) ⟨Nat.le_of_ble_eq_true rfl, Nat.le_of_ble_eq_true rfl⟩ ⟨Nat.le_of_ble_eq_true rfl, Nat.le_of_ble_eq_true rfl⟩ (fun zr9 zu9 H locs hw9 hP9 hD9 hS9 => ?_)
        clear hP hD hS
        refine reW [wO x0 11 [.ref t0, .ref d0, .ref h0, .ref o0, .ref n0, .ref u0, .ref k0, .ref q0, .ref p0, .ref s0, .ref b0, .ref z0, .ref ly, .int (nI yc)], wI (cy 1) h5 4 (fmp), wI (cy 1) h6 4 (fmv), wO h0 4 [.ref h1, .ref h2, .ref h3, .ref h4, .ref h5, .ref h6, .ref h7, .ref h8, .ref h9, .ref h10, .ref h11, .int ys, .int hon, .int hwi, .int hdr, .int hu], wI (cy 1) h1 4 (fc), wO n0 5 [.ref n1, .ref n2, .ref n3, .int fu, .int (nI cu), .int (nI un), .int (nI re)], wI (cy 1) n1 41 (fn)] hP9 hD9 hS9 (fun hP hD hS => ?_)
        clear hP9 hD9 hS9
        refine W.widen (k := 0) (n := 0) (Nat.le_of_ble_eq_true rfl) (Nat.le_of_ble_eq_true rfl) ?_
        replace hw9 : True := hw9
        exact x_iret hQ hx hb hr hlocks hK hP hD hS dX11_man_87 () (trivial) [0, 3, 4, 1, 2, 5, 6] (by decide +kernel) rfl (Nat.le_of_ble_eq_true rfl) (Nat.le_of_ble_eq_true rfl)
      · refine lv_tableIn (off := 73) (tgt := 88) hx hb dX11_man_15 (by decide) (by decide) (by decide) (by decide) ?_
        refine lv_aload_n hx hb dX11_man_88 rfl (lv_at hl 0 rfl) ?_
        refine va_get (D := D) (ci := 11) (v := .ref n0) (C := RX11) (T := TX11) (N := 14) hx hb hg i_X11 hown hK hP 0 rfl rfl 4 (by decide) (hg _ m_662) (fun _ h9 => h9) rfl dX11_man_89 ?_
        refine lv_iload_n hx hb dX11_man_92 rfl (lv_at hl 1 rfl) ?_
        refine lv_iconst (v := 0) hx hb dX11_man_93 (by decide) ?_
        refine x_callVi (q := (RX5, TX5, 7)) (ci := 5) (q0 := 0) (wr := [wO x0 11 [.ref t0, .ref d0, .ref h0, .ref o0, .ref n0, .ref u0, .ref k0, .ref q0, .ref p0, .ref s0, .ref b0, .ref z0, .ref ly, .int (nI yc)], wI (cy 1) h5 4 (fmp), wI (cy 1) h6 4 (fmv), wO h0 4 [.ref h1, .ref h2, .ref h3, .ref h4, .ref h5, .ref h6, .ref h7, .ref h8, .ref h9, .ref h10, .ref h11, .int ys, .int hon, .int hwi, .int hdr, .int hu], wI (cy 1) h1 4 (fc)]) (rest := []) ⟨hx, hb, hml, hown, hg, hl.1⟩ k_X11_136 (s_verdicts0 l D cy n0 n1 n2 n3 fu cu un re fn j_4 (by omega)) E0_blind hK hP hD hS hA [3, 4] [0, 1, 2, 5, 6] ⟨rfl, rfl, by decide +kernel, by decide +kernel, by decide +kernel⟩ rfl rfl (fun _ _ _ => trivial) dX11_man_94 rfl rfl (Nat.le_of_ble_eq_true rfl) ⟨Nat.le_of_ble_eq_true rfl, Nat.le_of_ble_eq_true rfl⟩ ⟨Nat.le_of_ble_eq_true rfl, Nat.le_of_ble_eq_true rfl⟩ (fun zr10 zu10 H locs hw10 hP9 hD9 hS9 => ?_)
        clear hP hD hS
        refine reW [wO x0 11 [.ref t0, .ref d0, .ref h0, .ref o0, .ref n0, .ref u0, .ref k0, .ref q0, .ref p0, .ref s0, .ref b0, .ref z0, .ref ly, .int (nI yc)], wI (cy 1) h5 4 (fmp), wI (cy 1) h6 4 (fmv), wO h0 4 [.ref h1, .ref h2, .ref h3, .ref h4, .ref h5, .ref h6, .ref h7, .ref h8, .ref h9, .ref h10, .ref h11, .int ys, .int hon, .int hwi, .int hdr, .int hu], wI (cy 1) h1 4 (fc), wO n0 5 [.ref n1, .ref n2, .ref n3, .int fu, .int (nI cu), .int (nI un), .int (nI re)], wI (cy 1) n1 41 (fn)] hP9 hD9 hS9 (fun hP hD hS => ?_)
        clear hP9 hD9 hS9
        refine W.widen (k := 0) (n := 0) (Nat.le_of_ble_eq_true rfl) (Nat.le_of_ble_eq_true rfl) ?_
        replace hw10 : True := hw10
        exact x_iret hQ hx hb hr hlocks hK hP hD hS dX11_man_97 () (trivial) [0, 3, 4, 1, 2, 5, 6] (by decide +kernel) rfl (Nat.le_of_ble_eq_true rfl) (Nat.le_of_ble_eq_true rfl)
/-- what leads answers, of a row of NEXTS -/
def ldS (nx : Nat → Nat → Int32) (c3 c0 : Nat) (xs xw r : Int32) : Prop := (r = -1 ∧ (¬ inR xs c3 ∨ ¬ inR xw c0)) ∨ ∃ s9 w9 : Nat, s9 < c3 ∧ w9 < c0 ∧ xs = nI s9 ∧ xw = nI w9 ∧ r = nx s9 w9
def nxC (fx : Nat → Int32) (s w : Nat) : Int32 := fx (8 * s + w)
theorem nxC_of {fx : Nat → Int32} {s w : Nat} {r : Int32} (h : s ≤ 5) (hw : w ≤ 7) (e : fx (nI (s * 8 + w)).toNatClampNeg = r) : r = nxC fx s w := by
  rw [nI_clamp (by omega)] at e
  rw [← e]
  unfold nxC
  congr 1
  omega
/-- a SOUND is told, or refused -/
def soS (c1 uc : Nat) (f1 f2 f3 f4 f5 : Nat → Int32) (t x n z r : Int32) (uc2 : Nat) (g1 g2 g3 g4 g5 : Nat → Int32) : Prop :=
  (r = -1 ∧ uc2 = uc ∧ (g1 = f1 ∧ g2 = f2 ∧ g3 = f3 ∧ g4 = f4 ∧ g5 = f5) ∧ (¬ inR x c1 ∨ n < 1 ∨ 10 < n ∨ z < 0 ∨ n < z)) ∨ ((inR x c1 ∧ ¬ n < 1 ∧ ¬ 10 < n ∧ ¬ z < 0 ∧ ¬ n < z) ∧ adS uc f1 f2 f3 f4 f5 t x n z r uc2 g1 g2 g3 g4 g5)
theorem gdX11_leads_0 : decode cX11_leads 0 = .ok (.aload_n 0, 1) ∧ decode cX11_leads 1 = .ok (.getfield 28, 3) ∧ decode cX11_leads 4 = .ok (.iconst 3, 1) ∧ decode cX11_leads 5 = .ok (.iload_n 1, 1) ∧ decode cX11_leads 6 = .ok (.invokevirtual 120, 3) ∧ decode cX11_leads 9 = .ok (.ifCond .eq 15, 3) ∧ decode cX11_leads 24 = .ok (.iconst (-1), 1) ∧ decode cX11_leads 25 = .ok (.ireturn, 1) ∧ decode cX11_leads 12 = .ok (.aload_n 0, 1) ∧ decode cX11_leads 13 = .ok (.getfield 28, 3) ∧ decode cX11_leads 16 = .ok (.iconst 0, 1) ∧ decode cX11_leads 17 = .ok (.iload_n 2, 1) := by decide +kernel
theorem dX11_leads_0 : decode cX11_leads 0 = .ok (.aload_n 0, 1) := gdX11_leads_0.1
theorem dX11_leads_1 : decode cX11_leads 1 = .ok (.getfield 28, 3) := gdX11_leads_0.2.1
theorem dX11_leads_4 : decode cX11_leads 4 = .ok (.iconst 3, 1) := gdX11_leads_0.2.2.1
theorem dX11_leads_5 : decode cX11_leads 5 = .ok (.iload_n 1, 1) := gdX11_leads_0.2.2.2.1
theorem dX11_leads_6 : decode cX11_leads 6 = .ok (.invokevirtual 120, 3) := gdX11_leads_0.2.2.2.2.1
theorem dX11_leads_9 : decode cX11_leads 9 = .ok (.ifCond .eq 15, 3) := gdX11_leads_0.2.2.2.2.2.1
theorem dX11_leads_24 : decode cX11_leads 24 = .ok (.iconst (-1), 1) := gdX11_leads_0.2.2.2.2.2.2.1
theorem dX11_leads_25 : decode cX11_leads 25 = .ok (.ireturn, 1) := gdX11_leads_0.2.2.2.2.2.2.2.1
theorem dX11_leads_12 : decode cX11_leads 12 = .ok (.aload_n 0, 1) := gdX11_leads_0.2.2.2.2.2.2.2.2.1
theorem dX11_leads_13 : decode cX11_leads 13 = .ok (.getfield 28, 3) := gdX11_leads_0.2.2.2.2.2.2.2.2.2.1
theorem dX11_leads_16 : decode cX11_leads 16 = .ok (.iconst 0, 1) := gdX11_leads_0.2.2.2.2.2.2.2.2.2.2.1
theorem dX11_leads_17 : decode cX11_leads 17 = .ok (.iload_n 2, 1) := gdX11_leads_0.2.2.2.2.2.2.2.2.2.2.2
theorem gdX11_leads_18 : decode cX11_leads 18 = .ok (.invokevirtual 120, 3) ∧ decode cX11_leads 21 = .ok (.ifCond .ne 5, 3) ∧ decode cX11_leads 26 = .ok (.aload_n 0, 1) ∧ decode cX11_leads 27 = .ok (.getfield 28, 3) ∧ decode cX11_leads 30 = .ok (.getfield 140, 3) ∧ decode cX11_leads 33 = .ok (.iload_n 1, 1) ∧ decode cX11_leads 34 = .ok (.bipush 8, 2) ∧ decode cX11_leads 36 = .ok (.imul, 1) ∧ decode cX11_leads 37 = .ok (.iload_n 2, 1) ∧ decode cX11_leads 38 = .ok (.iadd, 1) ∧ decode cX11_leads 39 = .ok (.iaload, 1) ∧ decode cX11_leads 40 = .ok (.ireturn, 1) := by decide +kernel
theorem dX11_leads_18 : decode cX11_leads 18 = .ok (.invokevirtual 120, 3) := gdX11_leads_18.1
theorem dX11_leads_21 : decode cX11_leads 21 = .ok (.ifCond .ne 5, 3) := gdX11_leads_18.2.1
theorem dX11_leads_26 : decode cX11_leads 26 = .ok (.aload_n 0, 1) := gdX11_leads_18.2.2.1
theorem dX11_leads_27 : decode cX11_leads 27 = .ok (.getfield 28, 3) := gdX11_leads_18.2.2.2.1
theorem dX11_leads_30 : decode cX11_leads 30 = .ok (.getfield 140, 3) := gdX11_leads_18.2.2.2.2.1
theorem dX11_leads_33 : decode cX11_leads 33 = .ok (.iload_n 1, 1) := gdX11_leads_18.2.2.2.2.2.1
theorem dX11_leads_34 : decode cX11_leads 34 = .ok (.bipush 8, 2) := gdX11_leads_18.2.2.2.2.2.2.1
theorem dX11_leads_36 : decode cX11_leads 36 = .ok (.imul, 1) := gdX11_leads_18.2.2.2.2.2.2.2.1
theorem dX11_leads_37 : decode cX11_leads 37 = .ok (.iload_n 2, 1) := gdX11_leads_18.2.2.2.2.2.2.2.2.1
theorem dX11_leads_38 : decode cX11_leads 38 = .ok (.iadd, 1) := gdX11_leads_18.2.2.2.2.2.2.2.2.2.1
theorem dX11_leads_39 : decode cX11_leads 39 = .ok (.iaload, 1) := gdX11_leads_18.2.2.2.2.2.2.2.2.2.2.1
theorem dX11_leads_40 : decode cX11_leads 40 = .ok (.ireturn, 1) := gdX11_leads_18.2.2.2.2.2.2.2.2.2.2.2
set_option maxHeartbeats 1000000 in
set_option maxRecDepth 100000 in
theorem s_xleads (l : Launch) (D : va_G) (cy : Nat → ClassId) (x0 : Nat) (t0 : Nat) (d0 : Nat) (h0 : Nat) (h1 : Nat) (h2 : Nat) (h3 : Nat) (h4 : Nat) (h5 : Nat) (h6 : Nat) (h7 : Nat) (h8 : Nat) (h9 : Nat) (h10 : Nat) (h11 : Nat) (o0 : Nat) (n0 : Nat) (u0 : Nat) (k0 : Nat) (q0 : Nat) (p0 : Nat) (s0 : Nat) (b0 : Nat) (z0 : Nat) (ly : Nat) (ys : Int32) (hon : Int32) (hwi : Int32) (hdr : Int32) (hu : Int32) (fc : Nat → Int32) (c0 : Nat) (c1 : Nat) (c2 : Nat) (c3 : Nat) (fx : Nat → Int32) (yc : Nat) (xs : Int32) (xw : Int32) (hcn : cntOK fc c0 c1 c2 c3) (hc0 : c0 ≤ 8) (hc1 : c1 ≤ 4) (hc2 : c2 ≤ 4) (hc3 : c3 ≤ 6) (hnx : rng fx 48 5) (hyc : yc ≤ 10) : XMi l D (tyL cy) E0 yX11_leads cX11_leads 3 (some .int) (rmk 1 0 0) [.ref x0, .int xs, .int xw] [wO x0 11 [.ref t0, .ref d0, .ref h0, .ref o0, .ref n0, .ref u0, .ref k0, .ref q0, .ref p0, .ref s0, .ref b0, .ref z0, .ref ly, .int (nI yc)], wO h0 4 [.ref h1, .ref h2, .ref h3, .ref h4, .ref h5, .ref h6, .ref h7, .ref h8, .ref h9, .ref h10, .ref h11, .int ys, .int hon, .int hwi, .int hdr, .int hu], wI (cy 1) h1 4 (fc), wI (cy 1) h7 48 (fx)] (fun (r : Int32) (_ : Unit) => (ldS (nxC fx) c3 c0 xs xw r)) (fun (_ : Unit) => [wO x0 11 [.ref t0, .ref d0, .ref h0, .ref o0, .ref n0, .ref u0, .ref k0, .ref q0, .ref p0, .ref s0, .ref b0, .ref z0, .ref ly, .int (nI yc)], wO h0 4 [.ref h1, .ref h2, .ref h3, .ref h4, .ref h5, .ref h6, .ref h7, .ref h8, .ref h9, .ref h10, .ref h11, .int ys, .int hon, .int hwi, .int hdr, .int hu], wI (cy 1) h1 4 (fc), wI (cy 1) h7 48 (fx)]) := by
  refine XMi.start (by decide) (Nat.le_of_ble_eq_true rfl) ?_
  intro p e s m below meth c args A ls Q hat hQ
  obtain ⟨hx, hb, hr, hml, hown, hg, hlocks, hin, hK, hA, hP, hD, hS, hE, hl⟩ := hat
  have hown : s.vm.findClass RX11 = some m.cls := hown
  have hl : lv_has ls 3 [(0, .ref x0), (1, .int xs), (2, .int xw)] := hl
  refine lv_aload_n hx hb dX11_leads_0 rfl (lv_at hl 0 rfl) ?_
  refine va_get (D := D) (ci := 11) (v := .ref h0) (C := RX11) (T := TX11) (N := 14) hx hb hg i_X11 hown hK hP 0 rfl rfl 2 (by decide) (hg _ m_660) (fun _ h9 => h9) rfl dX11_leads_1 ?_
  refine lv_iconst (v := 3) hx hb dX11_leads_4 (by decide) ?_
  refine lv_iload_n hx hb dX11_leads_5 rfl (lv_at hl 1 rfl) ?_
  refine x_callVi (q := (RX4, TX4, 16)) (ci := 4) (q0 := 0) (wr := [wO x0 11 [.ref t0, .ref d0, .ref h0, .ref o0, .ref n0, .ref u0, .ref k0, .ref q0, .ref p0, .ref s0, .ref b0, .ref z0, .ref ly, .int (nI yc)], wI (cy 1) h7 48 (fx)]) (rest := []) ⟨hx, hb, hml, hown, hg, hl.1⟩ k_X11_120 (s_has3 l D cy h0 h1 h2 h3 h4 h5 h6 h7 h8 h9 h10 h11 ((.int ys)) ((.int hon)) ((.int hwi)) ((.int hdr)) ((.int hu)) fc c0 c1 c2 c3 xs (hcn) (by omega) (by omega) (by omega) (by omega)) E0_blind hK hP hD hS hA [1, 2] [0, 3] ⟨rfl, rfl, by decide +kernel, by decide +kernel, by decide +kernel⟩ rfl rfl (fun _ _ _ => trivial) dX11_leads_6 rfl rfl (Nat.le_of_ble_eq_true rfl) ⟨Nat.le_of_ble_eq_true rfl, Nat.le_of_ble_eq_true rfl⟩ ⟨Nat.le_of_ble_eq_true rfl, Nat.le_of_ble_eq_true rfl⟩ (fun zr1 zu1 H locs hw1 hP9 hD9 hS9 => ?_)
  clear hP hD hS
  refine reW [wO x0 11 [.ref t0, .ref d0, .ref h0, .ref o0, .ref n0, .ref u0, .ref k0, .ref q0, .ref p0, .ref s0, .ref b0, .ref z0, .ref ly, .int (nI yc)], wI (cy 1) h7 48 (fx), wO h0 4 [.ref h1, .ref h2, .ref h3, .ref h4, .ref h5, .ref h6, .ref h7, .ref h8, .ref h9, .ref h10, .ref h11, .int ys, .int hon, .int hwi, .int hdr, .int hu], wI (cy 1) h1 4 (fc)] hP9 hD9 hS9 (fun hP hD hS => ?_)
  clear hP9 hD9 hS9
  refine W.widen (k := 0) (n := 0) (Nat.le_of_ble_eq_true rfl) (Nat.le_of_ble_eq_true rfl) ?_
  replace hw1 : (zr1 = 0 ∨ (zr1 = 1 ∧ ∃ j : Nat, j < c3 ∧ xs = nI j)) ∧ (zr1 = 0 → ¬ inR xs c3) := hw1
  obtain ⟨f_2, f_3⟩ := hw1
  rcases f_2 with hz_5 | ⟨hz_5, j_4, hj_4, ej_4⟩
  · subst hz_5
    refine lv_if_eq (tgt := 24) hx hb dX11_leads_9 (by decide) (fun _ => ?_) (fun h => absurd (by decide) h)
    refine lv_iconst (v := -1) hx hb dX11_leads_24 (by decide) ?_
    exact x_iret hQ hx hb hr hlocks hK hP hD hS dX11_leads_25 () (Or.inl ⟨rfl, Or.inl (f_3 rfl)⟩) [0, 2, 3, 1] (by decide +kernel) rfl (Nat.le_of_ble_eq_true rfl) (Nat.le_of_ble_eq_true rfl)
  · subst hz_5
    subst ej_4
    refine lv_if_eq (tgt := 24) hx hb dX11_leads_9 (by decide) (fun h => absurd h (by decide)) (fun _ => ?_)
    refine lv_aload_n hx hb dX11_leads_12 rfl (lv_at hl 0 rfl) ?_
    refine va_get (D := D) (ci := 11) (v := .ref h0) (C := RX11) (T := TX11) (N := 14) hx hb hg i_X11 hown hK hP 0 rfl rfl 2 (by decide) (hg _ m_660) (fun _ h9 => h9) rfl dX11_leads_13 ?_
    refine lv_iconst (v := 0) hx hb dX11_leads_16 (by decide) ?_
    refine lv_iload_n hx hb dX11_leads_17 rfl (lv_at hl 2 rfl) ?_
    refine x_callVi (q := (RX4, TX4, 16)) (ci := 4) (q0 := 0) (wr := [wO x0 11 [.ref t0, .ref d0, .ref h0, .ref o0, .ref n0, .ref u0, .ref k0, .ref q0, .ref p0, .ref s0, .ref b0, .ref z0, .ref ly, .int (nI yc)], wI (cy 1) h7 48 (fx)]) (rest := []) ⟨hx, hb, hml, hown, hg, hl.1⟩ k_X11_120 (s_has0 l D cy h0 h1 h2 h3 h4 h5 h6 h7 h8 h9 h10 h11 ((.int ys)) ((.int hon)) ((.int hwi)) ((.int hdr)) ((.int hu)) fc c0 c1 c2 c3 xw (hcn) (by omega) (by omega) (by omega) (by omega)) E0_blind hK hP hD hS hA [2, 3] [0, 1] ⟨rfl, rfl, by decide +kernel, by decide +kernel, by decide +kernel⟩ rfl rfl (fun _ _ _ => trivial) dX11_leads_18 rfl rfl (Nat.le_of_ble_eq_true rfl) ⟨Nat.le_of_ble_eq_true rfl, Nat.le_of_ble_eq_true rfl⟩ ⟨Nat.le_of_ble_eq_true rfl, Nat.le_of_ble_eq_true rfl⟩ (fun zr6 zu6 H locs hw6 hP9 hD9 hS9 => ?_)
    clear hP hD hS
    refine reW [wO x0 11 [.ref t0, .ref d0, .ref h0, .ref o0, .ref n0, .ref u0, .ref k0, .ref q0, .ref p0, .ref s0, .ref b0, .ref z0, .ref ly, .int (nI yc)], wI (cy 1) h7 48 (fx), wO h0 4 [.ref h1, .ref h2, .ref h3, .ref h4, .ref h5, .ref h6, .ref h7, .ref h8, .ref h9, .ref h10, .ref h11, .int ys, .int hon, .int hwi, .int hdr, .int hu], wI (cy 1) h1 4 (fc)] hP9 hD9 hS9 (fun hP hD hS => ?_)
    clear hP9 hD9 hS9
    refine W.widen (k := 0) (n := 0) (Nat.le_of_ble_eq_true rfl) (Nat.le_of_ble_eq_true rfl) ?_
    replace hw6 : (zr6 = 0 ∨ (zr6 = 1 ∧ ∃ j : Nat, j < c0 ∧ xw = nI j)) ∧ (zr6 = 0 → ¬ inR xw c0) := hw6
    obtain ⟨f_7, f_8⟩ := hw6
    rcases f_7 with hz_10 | ⟨hz_10, j_9, hj_9, ej_9⟩
    · subst hz_10
      refine lv_if_ne (tgt := 26) hx hb dX11_leads_21 (by decide) (fun h => absurd (by decide) h) (fun _ => ?_)
      refine lv_iconst (v := -1) hx hb dX11_leads_24 (by decide) ?_
      exact x_iret hQ hx hb hr hlocks hK hP hD hS dX11_leads_25 () (Or.inl ⟨rfl, Or.inr (f_8 rfl)⟩) [0, 2, 3, 1] (by decide +kernel) rfl (Nat.le_of_ble_eq_true rfl) (Nat.le_of_ble_eq_true rfl)
    · subst hz_10
      subst ej_9
      refine lv_if_ne (tgt := 26) hx hb dX11_leads_21 (by decide) (fun _ => ?_) (fun h => absurd h (by decide))
      refine lv_aload_n hx hb dX11_leads_26 rfl (lv_at hl 0 rfl) ?_
      refine va_get (D := D) (ci := 11) (v := .ref h0) (C := RX11) (T := TX11) (N := 14) hx hb hg i_X11 hown hK hP 0 rfl rfl 2 (by decide) (hg _ m_660) (fun _ h9 => h9) rfl dX11_leads_27 ?_
      refine va_get (D := D) (ci := 4) (v := .ref h7) (C := RX4) (T := TX4) (N := 16) hx hb hg i_X4 hown hK hP 2 rfl rfl 6 (by decide) (hg _ m_356) (fun _ h9 => h9) rfl dX11_leads_30 ?_
      refine lv_iload_n hx hb dX11_leads_33 rfl (lv_at hl 1 rfl) ?_
      refine lv_bipush (v := 8) hx hb dX11_leads_34 (by decide) ?_
      refine lv_imul hx hb dX11_leads_36 ?_
      refine lv_topi (fun y_11 hy_11 => ?_)
      obtain rfl : y_11 = nI (j_4 * 8) := hy_11.trans (pk_mul j_4 8)
      refine lv_iload_n hx hb dX11_leads_37 rfl (lv_at hl 2 rfl) ?_
      refine lv_iadd hx hb dX11_leads_38 ?_
      refine lv_topi (fun y_12 hy_12 => ?_)
      obtain rfl : y_12 = nI ((j_4 * 8) + j_9) := hy_12.trans (nI_add ((j_4 * 8)) j_9)
      refine va_iald hx hb hK hP 1 1 rfl rfl (vp_in_nI (by omega) (by decide)) dX11_leads_39 ?_
      obtain ⟨j_13, hj_13, ej_13⟩ := rng_at hnx (i := ((j_4 * 8) + j_9)) (by omega) (by decide)
      refine lv_topi (fun y_14 hy_14 => ?_)
      obtain rfl : y_14 = nI j_13 := hy_14.trans ej_13
      exact x_iret hQ hx hb hr hlocks hK hP hD hS dX11_leads_40 () (Or.inr ⟨j_4, j_9, hj_4, hj_9, rfl, rfl, nxC_of (by omega) (by omega) ej_13⟩) [0, 2, 3, 1] (by decide +kernel) rfl (Nat.le_of_ble_eq_true rfl) (Nat.le_of_ble_eq_true rfl)
theorem dX11_say_0 : decode cX11_say 0 = .ok (.iload_n 1, 1) := by decide +kernel
theorem dX11_say_1 : decode cX11_say 1 = .ok (.invokestatic 143, 3) := by decide +kernel
theorem k_X11_143 : xS RX11 143 yX11_isCry cX11_isCry 1 (some .boolean) 1 := ⟨⟨m_969, m_970, m_130, m_971⟩, by decide, by decide, by decide +kernel⟩
theorem gdX11_say_4 : decode cX11_say 4 = .ok (.ifCond .eq 28, 3) ∧ decode cX11_say 32 = .ok (.iconst (-1), 1) ∧ decode cX11_say 33 = .ok (.ireturn, 1) ∧ decode cX11_say 7 = .ok (.aload_n 0, 1) ∧ decode cX11_say 8 = .ok (.getfield 28, 3) ∧ decode cX11_say 11 = .ok (.iconst 0, 1) ∧ decode cX11_say 12 = .ok (.iload_n 2, 1) ∧ decode cX11_say 13 = .ok (.invokevirtual 120, 3) ∧ decode cX11_say 16 = .ok (.ifCond .eq 16, 3) ∧ decode cX11_say 19 = .ok (.aload_n 0, 1) ∧ decode cX11_say 20 = .ok (.getfield 38, 3) ∧ decode cX11_say 23 = .ok (.iload_n 1, 1) := by decide +kernel
theorem dX11_say_4 : decode cX11_say 4 = .ok (.ifCond .eq 28, 3) := gdX11_say_4.1
theorem dX11_say_32 : decode cX11_say 32 = .ok (.iconst (-1), 1) := gdX11_say_4.2.1
theorem dX11_say_33 : decode cX11_say 33 = .ok (.ireturn, 1) := gdX11_say_4.2.2.1
theorem dX11_say_7 : decode cX11_say 7 = .ok (.aload_n 0, 1) := gdX11_say_4.2.2.2.1
theorem dX11_say_8 : decode cX11_say 8 = .ok (.getfield 28, 3) := gdX11_say_4.2.2.2.2.1
theorem dX11_say_11 : decode cX11_say 11 = .ok (.iconst 0, 1) := gdX11_say_4.2.2.2.2.2.1
theorem dX11_say_12 : decode cX11_say 12 = .ok (.iload_n 2, 1) := gdX11_say_4.2.2.2.2.2.2.1
theorem dX11_say_13 : decode cX11_say 13 = .ok (.invokevirtual 120, 3) := gdX11_say_4.2.2.2.2.2.2.2.1
theorem dX11_say_16 : decode cX11_say 16 = .ok (.ifCond .eq 16, 3) := gdX11_say_4.2.2.2.2.2.2.2.2.1
theorem dX11_say_19 : decode cX11_say 19 = .ok (.aload_n 0, 1) := gdX11_say_4.2.2.2.2.2.2.2.2.2.1
theorem dX11_say_20 : decode cX11_say 20 = .ok (.getfield 38, 3) := gdX11_say_4.2.2.2.2.2.2.2.2.2.2.1
theorem dX11_say_23 : decode cX11_say 23 = .ok (.iload_n 1, 1) := gdX11_say_4.2.2.2.2.2.2.2.2.2.2.2
theorem gdX11_say_24 : decode cX11_say 24 = .ok (.invokevirtual 147, 3) ∧ decode cX11_say 27 = .ok (.bipush 10, 2) ∧ decode cX11_say 29 = .ok (.if_icmp .lt 5, 3) ∧ decode cX11_say 34 = .ok (.aload_n 0, 1) ∧ decode cX11_say 35 = .ok (.getfield 38, 3) ∧ decode cX11_say 38 = .ok (.iload_n 1, 1) ∧ decode cX11_say 39 = .ok (.iload_n 2, 1) ∧ decode cX11_say 40 = .ok (.invokevirtual 151, 3) := by decide +kernel
theorem dX11_say_24 : decode cX11_say 24 = .ok (.invokevirtual 147, 3) := gdX11_say_24.1
theorem dX11_say_27 : decode cX11_say 27 = .ok (.bipush 10, 2) := gdX11_say_24.2.1
theorem dX11_say_29 : decode cX11_say 29 = .ok (.if_icmp .lt 5, 3) := gdX11_say_24.2.2.1
theorem dX11_say_34 : decode cX11_say 34 = .ok (.aload_n 0, 1) := gdX11_say_24.2.2.2.1
theorem dX11_say_35 : decode cX11_say 35 = .ok (.getfield 38, 3) := gdX11_say_24.2.2.2.2.1
theorem dX11_say_38 : decode cX11_say 38 = .ok (.iload_n 1, 1) := gdX11_say_24.2.2.2.2.2.1
theorem dX11_say_39 : decode cX11_say 39 = .ok (.iload_n 2, 1) := gdX11_say_24.2.2.2.2.2.2.1
theorem dX11_say_40 : decode cX11_say 40 = .ok (.invokevirtual 151, 3) := gdX11_say_24.2.2.2.2.2.2.2
theorem k_X11_151 : xV RX11 RX5 151 yX5_addWord cX5_addWord 4 none 2 := ⟨⟨m_976, m_977, m_978, m_139, m_979⟩, rfl, by decide, by decide, by decide +kernel⟩
theorem gdX11_say_43 : decode cX11_say 43 = .ok (.aload_n 0, 1) ∧ decode cX11_say 44 = .ok (.getfield 38, 3) ∧ decode cX11_say 47 = .ok (.iload_n 1, 1) ∧ decode cX11_say 48 = .ok (.invokevirtual 147, 3) ∧ decode cX11_say 51 = .ok (.ireturn, 1) := by decide +kernel
theorem dX11_say_43 : decode cX11_say 43 = .ok (.aload_n 0, 1) := gdX11_say_43.1
theorem dX11_say_44 : decode cX11_say 44 = .ok (.getfield 38, 3) := gdX11_say_43.2.1
theorem dX11_say_47 : decode cX11_say 47 = .ok (.iload_n 1, 1) := gdX11_say_43.2.2.1
theorem dX11_say_48 : decode cX11_say 48 = .ok (.invokevirtual 147, 3) := gdX11_say_43.2.2.2.1
theorem dX11_say_51 : decode cX11_say 51 = .ok (.ireturn, 1) := gdX11_say_43.2.2.2.2
set_option maxHeartbeats 1000000 in
set_option maxRecDepth 100000 in
theorem s_xsay (l : Launch) (D : va_G) (cy : Nat → ClassId) (x0 : Nat) (t0 : Nat) (d0 : Nat) (h0 : Nat) (h1 : Nat) (h2 : Nat) (h3 : Nat) (h4 : Nat) (h5 : Nat) (h6 : Nat) (h7 : Nat) (h8 : Nat) (h9 : Nat) (h10 : Nat) (h11 : Nat) (o0 : Nat) (n0 : Nat) (n1 : Nat) (n2 : Nat) (n3 : Nat) (u0 : Nat) (k0 : Nat) (q0 : Nat) (p0 : Nat) (s0 : Nat) (b0 : Nat) (z0 : Nat) (ly : Nat) (ys : Int32) (hon : Int32) (hwi : Int32) (hdr : Int32) (hu : Int32) (fc : Nat → Int32) (c0 : Nat) (c1 : Nat) (c2 : Nat) (c3 : Nat) (fu : Int32) (cu : Nat) (un : Nat) (re : Nat) (fn : Nat → Int32) (frw : Nat → Int32) (yc : Nat) (xc9 : Int32) (xw : Int32) (hcn : cntOK fc c0 c1 c2 c3) (hc0 : c0 ≤ 8) (hc1 : c1 ≤ 4) (hc2 : c2 ≤ 4) (hc3 : c3 ≤ 6) (hcu : cu ≤ 40) (hur : un + re ≤ 40) (hno : mRows fn 1) (hro : mRows frw 41) (hyc : yc ≤ 10) : XMi l D (tyL cy) E0 yX11_say cX11_say 3 (some .int) (rmk 3 0 0) [.ref x0, .int xc9, .int xw] [wO x0 11 [.ref t0, .ref d0, .ref h0, .ref o0, .ref n0, .ref u0, .ref k0, .ref q0, .ref p0, .ref s0, .ref b0, .ref z0, .ref ly, .int (nI yc)], wO h0 4 [.ref h1, .ref h2, .ref h3, .ref h4, .ref h5, .ref h6, .ref h7, .ref h8, .ref h9, .ref h10, .ref h11, .int ys, .int hon, .int hwi, .int hdr, .int hu], wI (cy 1) h1 4 (fc), wO n0 5 [.ref n1, .ref n2, .ref n3, .int fu, .int (nI cu), .int (nI un), .int (nI re)], wI (cy 1) n1 41 (fn), wI (cy 1) n2 1681 (frw)] (fun (r : Int32) (u : Nat × Nat × Nat × (Nat → Int32) × (Nat → Int32)) => (u.1 ≤ 40) ∧ (u.2.1 + u.2.2.1 ≤ 40) ∧ (mRows u.2.2.2.1 1) ∧ (mRows u.2.2.2.2 41) ∧ (syC c0 fn frw cu un re xc9 xw r u.2.2.2.1 u.2.2.2.2 u.1 u.2.1 u.2.2.1)) (fun (u : Nat × Nat × Nat × (Nat → Int32) × (Nat → Int32)) => [wO x0 11 [.ref t0, .ref d0, .ref h0, .ref o0, .ref n0, .ref u0, .ref k0, .ref q0, .ref p0, .ref s0, .ref b0, .ref z0, .ref ly, .int (nI yc)], wO h0 4 [.ref h1, .ref h2, .ref h3, .ref h4, .ref h5, .ref h6, .ref h7, .ref h8, .ref h9, .ref h10, .ref h11, .int ys, .int hon, .int hwi, .int hdr, .int hu], wI (cy 1) h1 4 (fc), wO n0 5 [.ref n1, .ref n2, .ref n3, .int fu, .int (nI u.1), .int (nI u.2.1), .int (nI u.2.2.1)], wI (cy 1) n1 41 (u.2.2.2.1), wI (cy 1) n2 1681 (u.2.2.2.2)]) := by
  refine XMi.start (by decide) (Nat.le_of_ble_eq_true rfl) ?_
  intro p e s m below meth c args A ls Q hat hQ
  obtain ⟨hx, hb, hr, hml, hown, hg, hlocks, hin, hK, hA, hP, hD, hS, hE, hl⟩ := hat
  have hown : s.vm.findClass RX11 = some m.cls := hown
  have hl : lv_has ls 3 [(0, .ref x0), (1, .int xc9), (2, .int xw)] := hl
  refine lv_iload_n hx hb dX11_say_0 rfl (lv_at hl 1 rfl) ?_
  refine x_callSi (wr := [wO x0 11 [.ref t0, .ref d0, .ref h0, .ref o0, .ref n0, .ref u0, .ref k0, .ref q0, .ref p0, .ref s0, .ref b0, .ref z0, .ref ly, .int (nI yc)], wO h0 4 [.ref h1, .ref h2, .ref h3, .ref h4, .ref h5, .ref h6, .ref h7, .ref h8, .ref h9, .ref h10, .ref h11, .int ys, .int hon, .int hwi, .int hdr, .int hu], wI (cy 1) h1 4 (fc), wO n0 5 [.ref n1, .ref n2, .ref n3, .int fu, .int (nI cu), .int (nI un), .int (nI re)], wI (cy 1) n1 41 (fn), wI (cy 1) n2 1681 (frw)]) (rest := []) ⟨hx, hb, hml, hown, hg, hl.1⟩ k_X11_143 (s_xisCry l D cy xc9) E0_blind hK hP hD hS hA [] [0, 1, 2, 3, 4, 5] ⟨rfl, rfl, by decide +kernel, by decide +kernel, by decide +kernel⟩ (fun _ _ _ => trivial) dX11_say_1 rfl rfl (Nat.le_of_ble_eq_true rfl) ⟨Nat.le_of_ble_eq_true rfl, Nat.le_of_ble_eq_true rfl⟩ ⟨Nat.le_of_ble_eq_true rfl, Nat.le_of_ble_eq_true rfl⟩ (fun zr1 zu1 H locs hw1 hP9 hD9 hS9 => ?_)
  clear hP hD hS
  refine reW [wO x0 11 [.ref t0, .ref d0, .ref h0, .ref o0, .ref n0, .ref u0, .ref k0, .ref q0, .ref p0, .ref s0, .ref b0, .ref z0, .ref ly, .int (nI yc)], wO h0 4 [.ref h1, .ref h2, .ref h3, .ref h4, .ref h5, .ref h6, .ref h7, .ref h8, .ref h9, .ref h10, .ref h11, .int ys, .int hon, .int hwi, .int hdr, .int hu], wI (cy 1) h1 4 (fc), wO n0 5 [.ref n1, .ref n2, .ref n3, .int fu, .int (nI cu), .int (nI un), .int (nI re)], wI (cy 1) n1 41 (fn), wI (cy 1) n2 1681 (frw)] hP9 hD9 hS9 (fun hP hD hS => ?_)
  clear hP9 hD9 hS9
  refine W.widen (k := 0) (n := 0) (Nat.le_of_ble_eq_true rfl) (Nat.le_of_ble_eq_true rfl) ?_
  replace hw1 : (zr1 = 0 ∨ zr1 = 1) ∧ (zr1 = 0 ∨ (zr1 = 1 ∧ (xc9 = 0 ∨ xc9 = 1))) ∧ (zr1 = 0 → ¬ (xc9 = 0 ∨ xc9 = 1)) := hw1
  obtain ⟨f_2, f_3, f_4⟩ := hw1
  rcases f_3 with hz_6 | ⟨hz_6, hj_5 | hj_5⟩
  · subst hz_6
    refine lv_if_eq (tgt := 32) hx hb dX11_say_4 (by decide) (fun _ => ?_) (fun h => absurd (by decide) h)
    refine lv_iconst (v := -1) hx hb dX11_say_32 (by decide) ?_
    exact x_iret hQ hx hb hr hlocks hK hP hD hS dX11_say_33 (cu, un, re, fn, frw) (⟨(show cu ≤ 40 from by omega), (show un + re ≤ 40 from by omega), hno, hro, Or.inl ⟨rfl, ⟨rfl, rfl, rfl, rfl, rfl⟩, Or.inl (f_4 rfl)⟩⟩) [0, 1, 2, 3, 4, 5] (by decide +kernel) rfl (Nat.le_of_ble_eq_true rfl) (Nat.le_of_ble_eq_true rfl)
  · subst hz_6
    subst hj_5
    refine lv_if_eq (tgt := 32) hx hb dX11_say_4 (by decide) (fun h => absurd h (by decide)) (fun _ => ?_)
    refine lv_aload_n hx hb dX11_say_7 rfl (lv_at hl 0 rfl) ?_
    refine va_get (D := D) (ci := 11) (v := .ref h0) (C := RX11) (T := TX11) (N := 14) hx hb hg i_X11 hown hK hP 0 rfl rfl 2 (by decide) (hg _ m_660) (fun _ h9 => h9) rfl dX11_say_8 ?_
    refine lv_iconst (v := 0) hx hb dX11_say_11 (by decide) ?_
    refine lv_iload_n hx hb dX11_say_12 rfl (lv_at hl 2 rfl) ?_
    refine x_callVi (q := (RX4, TX4, 16)) (ci := 4) (q0 := 0) (wr := [wO x0 11 [.ref t0, .ref d0, .ref h0, .ref o0, .ref n0, .ref u0, .ref k0, .ref q0, .ref p0, .ref s0, .ref b0, .ref z0, .ref ly, .int (nI yc)], wO n0 5 [.ref n1, .ref n2, .ref n3, .int fu, .int (nI cu), .int (nI un), .int (nI re)], wI (cy 1) n1 41 (fn), wI (cy 1) n2 1681 (frw)]) (rest := []) ⟨hx, hb, hml, hown, hg, hl.1⟩ k_X11_120 (s_has0 l D cy h0 h1 h2 h3 h4 h5 h6 h7 h8 h9 h10 h11 ((.int ys)) ((.int hon)) ((.int hwi)) ((.int hdr)) ((.int hu)) fc c0 c1 c2 c3 xw (hcn) (by omega) (by omega) (by omega) (by omega)) E0_blind hK hP hD hS hA [1, 2] [0, 3, 4, 5] ⟨rfl, rfl, by decide +kernel, by decide +kernel, by decide +kernel⟩ rfl rfl (fun _ _ _ => trivial) dX11_say_13 rfl rfl (Nat.le_of_ble_eq_true rfl) ⟨Nat.le_of_ble_eq_true rfl, Nat.le_of_ble_eq_true rfl⟩ ⟨Nat.le_of_ble_eq_true rfl, Nat.le_of_ble_eq_true rfl⟩ (fun zr7 zu7 H locs hw7 hP9 hD9 hS9 => ?_)
    clear hP hD hS
    refine reW [wO x0 11 [.ref t0, .ref d0, .ref h0, .ref o0, .ref n0, .ref u0, .ref k0, .ref q0, .ref p0, .ref s0, .ref b0, .ref z0, .ref ly, .int (nI yc)], wO n0 5 [.ref n1, .ref n2, .ref n3, .int fu, .int (nI cu), .int (nI un), .int (nI re)], wI (cy 1) n1 41 (fn), wI (cy 1) n2 1681 (frw), wO h0 4 [.ref h1, .ref h2, .ref h3, .ref h4, .ref h5, .ref h6, .ref h7, .ref h8, .ref h9, .ref h10, .ref h11, .int ys, .int hon, .int hwi, .int hdr, .int hu], wI (cy 1) h1 4 (fc)] hP9 hD9 hS9 (fun hP hD hS => ?_)
    clear hP9 hD9 hS9
    refine W.widen (k := 0) (n := 0) (Nat.le_of_ble_eq_true rfl) (Nat.le_of_ble_eq_true rfl) ?_
    replace hw7 : (zr7 = 0 ∨ (zr7 = 1 ∧ ∃ j : Nat, j < c0 ∧ xw = nI j)) ∧ (zr7 = 0 → ¬ inR xw c0) := hw7
    obtain ⟨f_8, f_9⟩ := hw7
    rcases f_8 with hz_11 | ⟨hz_11, j_10, hj_10, ej_10⟩
    · subst hz_11
      refine lv_if_eq (tgt := 32) hx hb dX11_say_16 (by decide) (fun _ => ?_) (fun h => absurd (by decide) h)
      refine lv_iconst (v := -1) hx hb dX11_say_32 (by decide) ?_
      exact x_iret hQ hx hb hr hlocks hK hP hD hS dX11_say_33 (cu, un, re, fn, frw) (⟨(show cu ≤ 40 from by omega), (show un + re ≤ 40 from by omega), hno, hro, Or.inl ⟨rfl, ⟨rfl, rfl, rfl, rfl, rfl⟩, Or.inr (Or.inl (f_9 rfl))⟩⟩) [0, 4, 5, 1, 2, 3] (by decide +kernel) rfl (Nat.le_of_ble_eq_true rfl) (Nat.le_of_ble_eq_true rfl)
    · subst hz_11
      subst ej_10
      refine lv_if_eq (tgt := 32) hx hb dX11_say_16 (by decide) (fun h => absurd h (by decide)) (fun _ => ?_)
      refine lv_aload_n hx hb dX11_say_19 rfl (lv_at hl 0 rfl) ?_
      refine va_get (D := D) (ci := 11) (v := .ref n0) (C := RX11) (T := TX11) (N := 14) hx hb hg i_X11 hown hK hP 0 rfl rfl 4 (by decide) (hg _ m_662) (fun _ h9 => h9) rfl dX11_say_20 ?_
      refine lv_iload_n hx hb dX11_say_23 rfl (lv_at hl 1 rfl) ?_
      refine x_callVi (q := (RX5, TX5, 7)) (ci := 5) (q0 := 0) (wr := [wO x0 11 [.ref t0, .ref d0, .ref h0, .ref o0, .ref n0, .ref u0, .ref k0, .ref q0, .ref p0, .ref s0, .ref b0, .ref z0, .ref ly, .int (nI yc)], wI (cy 1) n2 1681 (frw), wO h0 4 [.ref h1, .ref h2, .ref h3, .ref h4, .ref h5, .ref h6, .ref h7, .ref h8, .ref h9, .ref h10, .ref h11, .int ys, .int hon, .int hwi, .int hdr, .int hu], wI (cy 1) h1 4 (fc)]) (rest := []) ⟨hx, hb, hml, hown, hg, hl.1⟩ k_X11_147 (s_cryLen0 l D cy n0 n1 n2 n3 fu cu un re fn (hno)) E0_blind hK hP hD hS hA [1, 2] [0, 3, 4, 5] ⟨rfl, rfl, by decide +kernel, by decide +kernel, by decide +kernel⟩ rfl rfl (fun _ _ _ => trivial) dX11_say_24 rfl rfl (Nat.le_of_ble_eq_true rfl) ⟨Nat.le_of_ble_eq_true rfl, Nat.le_of_ble_eq_true rfl⟩ ⟨Nat.le_of_ble_eq_true rfl, Nat.le_of_ble_eq_true rfl⟩ (fun zr12 zu12 H locs hw12 hP9 hD9 hS9 => ?_)
      clear hP hD hS
      obtain ⟨k_13, rfl⟩ : ∃ z, z = zu12 := ⟨_, rfl⟩
      refine reW [wO x0 11 [.ref t0, .ref d0, .ref h0, .ref o0, .ref n0, .ref u0, .ref k0, .ref q0, .ref p0, .ref s0, .ref b0, .ref z0, .ref ly, .int (nI yc)], wI (cy 1) n2 1681 (frw), wO h0 4 [.ref h1, .ref h2, .ref h3, .ref h4, .ref h5, .ref h6, .ref h7, .ref h8, .ref h9, .ref h10, .ref h11, .int ys, .int hon, .int hwi, .int hdr, .int hu], wI (cy 1) h1 4 (fc), wO n0 5 [.ref n1, .ref n2, .ref n3, .int fu, .int (nI cu), .int (nI un), .int (nI re)], wI (cy 1) n1 41 (fn)] hP9 hD9 hS9 (fun hP hD hS => ?_)
      clear hP9 hD9 hS9
      refine W.widen (k := 0) (n := 0) (Nat.le_of_ble_eq_true rfl) (Nat.le_of_ble_eq_true rfl) ?_
      replace hw12 : (zr12 = nI k_13) ∧ (k_13 ≤ 10) ∧ (fn 0 = nI k_13) := hw12
      obtain ⟨f_14, f_15, f_16⟩ := hw12
      subst f_14
      refine lv_bipush (v := 10) hx hb dX11_say_27 (by decide) ?_
      refine lv_icmp_lt (tgt := 34) hx hb dX11_say_29 (by decide) (fun c_17 => ?_) (fun c_17 => ?_)
      · have q_18 : k_13 < 10 := q_lt (a := k_13) (b := 10) rfl rfl (by omega) (by omega) c_17
        refine lv_aload_n hx hb dX11_say_34 rfl (lv_at hl 0 rfl) ?_
        refine va_get (D := D) (ci := 11) (v := .ref n0) (C := RX11) (T := TX11) (N := 14) hx hb hg i_X11 hown hK hP 0 rfl rfl 4 (by decide) (hg _ m_662) (fun _ h9 => h9) rfl dX11_say_35 ?_
        refine lv_iload_n hx hb dX11_say_38 rfl (lv_at hl 1 rfl) ?_
        refine lv_iload_n hx hb dX11_say_39 rfl (lv_at hl 2 rfl) ?_
        refine x_callVv (q := (RX5, TX5, 7)) (ci := 5) (q0 := 0) (wr := [wO x0 11 [.ref t0, .ref d0, .ref h0, .ref o0, .ref n0, .ref u0, .ref k0, .ref q0, .ref p0, .ref s0, .ref b0, .ref z0, .ref ly, .int (nI yc)], wO h0 4 [.ref h1, .ref h2, .ref h3, .ref h4, .ref h5, .ref h6, .ref h7, .ref h8, .ref h9, .ref h10, .ref h11, .int ys, .int hon, .int hwi, .int hdr, .int hu], wI (cy 1) h1 4 (fc)]) (rest := []) ⟨hx, hb, hml, hown, hg, hl.1⟩ k_X11_151 (s_addWord0 l D cy n0 n1 n2 n3 fu cu un re fn frw j_10 k_13 (by omega) (by omega) (hno) (hro) (by omega) (f_16) (by omega)) E0_blind hK hP hD hS hA [4, 5, 1] [0, 2, 3] ⟨rfl, rfl, by decide +kernel, by decide +kernel, by decide +kernel⟩ rfl rfl (fun _ _ _ => trivial) dX11_say_40 rfl rfl (Nat.le_of_ble_eq_true rfl) ⟨Nat.le_of_ble_eq_true rfl, Nat.le_of_ble_eq_true rfl⟩ ⟨Nat.le_of_ble_eq_true rfl, Nat.le_of_ble_eq_true rfl⟩ (fun zu19 H locs hw19 hP9 hD9 hS9 => ?_)
        clear hP hD hS
        obtain ⟨cu2_20, un2_21, re2_22, fq2_23, fn2_24⟩ := zu19
        refine reW [wO x0 11 [.ref t0, .ref d0, .ref h0, .ref o0, .ref n0, .ref u0, .ref k0, .ref q0, .ref p0, .ref s0, .ref b0, .ref z0, .ref ly, .int (nI yc)], wO h0 4 [.ref h1, .ref h2, .ref h3, .ref h4, .ref h5, .ref h6, .ref h7, .ref h8, .ref h9, .ref h10, .ref h11, .int ys, .int hon, .int hwi, .int hdr, .int hu], wI (cy 1) h1 4 (fc), wO n0 5 [.ref n1, .ref n2, .ref n3, .int fu, .int (nI cu2_20), .int (nI un2_21), .int (nI re2_22)], wI (cy 1) n1 41 (fn2_24), wI (cy 1) n2 1681 (fq2_23)] hP9 hD9 hS9 (fun hP hD hS => ?_)
        clear hP9 hD9 hS9
        refine W.widen (k := 0) (n := 0) (Nat.le_of_ble_eq_true rfl) (Nat.le_of_ble_eq_true rfl) ?_
        replace hw19 : (cu2_20 ≤ 40) ∧ (un2_21 + re2_22 ≤ 40) ∧ (mRows fq2_23 41) ∧ (mRows fn2_24 1) ∧ (actC fn2_24 frw cu un fq2_23 cu2_20 un2_21 re2_22) ∧ (fn2_24 = upd (upd fn 0 (nI (k_13 + 1))) (0 + (k_13 + 1)) (nI j_10)) := hw19
        obtain ⟨f_25, f_26, f_27, f_28, f_29, f_30⟩ := hw19
        refine lv_aload_n hx hb dX11_say_43 rfl (lv_at hl 0 rfl) ?_
        refine va_get (D := D) (ci := 11) (v := .ref n0) (C := RX11) (T := TX11) (N := 14) hx hb hg i_X11 hown hK hP 0 rfl rfl 4 (by decide) (hg _ m_662) (fun _ h9 => h9) rfl dX11_say_44 ?_
        refine lv_iload_n hx hb dX11_say_47 rfl (lv_at hl 1 rfl) ?_
        refine x_callVi (q := (RX5, TX5, 7)) (ci := 5) (q0 := 0) (wr := [wO x0 11 [.ref t0, .ref d0, .ref h0, .ref o0, .ref n0, .ref u0, .ref k0, .ref q0, .ref p0, .ref s0, .ref b0, .ref z0, .ref ly, .int (nI yc)], wO h0 4 [.ref h1, .ref h2, .ref h3, .ref h4, .ref h5, .ref h6, .ref h7, .ref h8, .ref h9, .ref h10, .ref h11, .int ys, .int hon, .int hwi, .int hdr, .int hu], wI (cy 1) h1 4 (fc), wI (cy 1) n2 1681 (fq2_23)]) (rest := []) ⟨hx, hb, hml, hown, hg, hl.1⟩ k_X11_147 (s_cryLen0 l D cy n0 n1 n2 n3 fu cu2_20 un2_21 re2_22 fn2_24 (f_28)) E0_blind hK hP hD hS hA [3, 4] [0, 1, 2, 5] ⟨rfl, rfl, by decide +kernel, by decide +kernel, by decide +kernel⟩ rfl rfl (fun _ _ _ => trivial) dX11_say_48 rfl rfl (Nat.le_of_ble_eq_true rfl) ⟨Nat.le_of_ble_eq_true rfl, Nat.le_of_ble_eq_true rfl⟩ ⟨Nat.le_of_ble_eq_true rfl, Nat.le_of_ble_eq_true rfl⟩ (fun zr31 zu31 H locs hw31 hP9 hD9 hS9 => ?_)
        clear hP hD hS
        obtain ⟨k_32, rfl⟩ : ∃ z, z = zu31 := ⟨_, rfl⟩
        refine reW [wO x0 11 [.ref t0, .ref d0, .ref h0, .ref o0, .ref n0, .ref u0, .ref k0, .ref q0, .ref p0, .ref s0, .ref b0, .ref z0, .ref ly, .int (nI yc)], wO h0 4 [.ref h1, .ref h2, .ref h3, .ref h4, .ref h5, .ref h6, .ref h7, .ref h8, .ref h9, .ref h10, .ref h11, .int ys, .int hon, .int hwi, .int hdr, .int hu], wI (cy 1) h1 4 (fc), wI (cy 1) n2 1681 (fq2_23), wO n0 5 [.ref n1, .ref n2, .ref n3, .int fu, .int (nI cu2_20), .int (nI un2_21), .int (nI re2_22)], wI (cy 1) n1 41 (fn2_24)] hP9 hD9 hS9 (fun hP hD hS => ?_)
        clear hP9 hD9 hS9
        refine W.widen (k := 0) (n := 0) (Nat.le_of_ble_eq_true rfl) (Nat.le_of_ble_eq_true rfl) ?_
        replace hw31 : (zr31 = nI k_32) ∧ (k_32 ≤ 10) ∧ (fn2_24 0 = nI k_32) := hw31
        obtain ⟨f_33, f_34, f_35⟩ := hw31
        subst f_33
        exact x_iret hQ hx hb hr hlocks hK hP hD hS dX11_say_51 (cu2_20, un2_21, re2_22, fn2_24, fq2_23) (⟨(show cu2_20 ≤ 40 from by omega), (show un2_21 + re2_22 ≤ 40 from by omega), f_28, f_27, Or.inr ⟨0, j_10, k_13, by decide, rfl, hj_10, rfl, by omega, f_16, sy_r f_30 f_35, f_30, f_29⟩⟩) [0, 1, 2, 4, 5, 3] (by decide +kernel) rfl (Nat.le_of_ble_eq_true rfl) (Nat.le_of_ble_eq_true rfl)
      · have q_18 : 10 ≤ k_13 := q_nlt (a := k_13) (b := 10) rfl rfl (by omega) (by omega) c_17
        refine lv_iconst (v := -1) hx hb dX11_say_32 (by decide) ?_
        exact x_iret hQ hx hb hr hlocks hK hP hD hS dX11_say_33 (cu, un, re, fn, frw) (⟨(show cu ≤ 40 from by omega), (show un + re ≤ 40 from by omega), hno, hro, Or.inl ⟨rfl, ⟨rfl, rfl, rfl, rfl, rfl⟩, Or.inr (Or.inr ⟨0, by decide, rfl, (by rw [show k_13 = 10 by omega] at f_16; exact f_16)⟩)⟩⟩) [0, 2, 3, 4, 5, 1] (by decide +kernel) rfl (Nat.le_of_ble_eq_true rfl) (Nat.le_of_ble_eq_true rfl)
  · subst hz_6
    subst hj_5
    refine lv_if_eq (tgt := 32) hx hb dX11_say_4 (by decide) (fun h => absurd h (by decide)) (fun _ => ?_)
    refine lv_aload_n hx hb dX11_say_7 rfl (lv_at hl 0 rfl) ?_
    refine va_get (D := D) (ci := 11) (v := .ref h0) (C := RX11) (T := TX11) (N := 14) hx hb hg i_X11 hown hK hP 0 rfl rfl 2 (by decide) (hg _ m_660) (fun _ h9 => h9) rfl dX11_say_8 ?_
    refine lv_iconst (v := 0) hx hb dX11_say_11 (by decide) ?_
    refine lv_iload_n hx hb dX11_say_12 rfl (lv_at hl 2 rfl) ?_
    refine x_callVi (q := (RX4, TX4, 16)) (ci := 4) (q0 := 0) (wr := [wO x0 11 [.ref t0, .ref d0, .ref h0, .ref o0, .ref n0, .ref u0, .ref k0, .ref q0, .ref p0, .ref s0, .ref b0, .ref z0, .ref ly, .int (nI yc)], wO n0 5 [.ref n1, .ref n2, .ref n3, .int fu, .int (nI cu), .int (nI un), .int (nI re)], wI (cy 1) n1 41 (fn), wI (cy 1) n2 1681 (frw)]) (rest := []) ⟨hx, hb, hml, hown, hg, hl.1⟩ k_X11_120 (s_has0 l D cy h0 h1 h2 h3 h4 h5 h6 h7 h8 h9 h10 h11 ((.int ys)) ((.int hon)) ((.int hwi)) ((.int hdr)) ((.int hu)) fc c0 c1 c2 c3 xw (hcn) (by omega) (by omega) (by omega) (by omega)) E0_blind hK hP hD hS hA [1, 2] [0, 3, 4, 5] ⟨rfl, rfl, by decide +kernel, by decide +kernel, by decide +kernel⟩ rfl rfl (fun _ _ _ => trivial) dX11_say_13 rfl rfl (Nat.le_of_ble_eq_true rfl) ⟨Nat.le_of_ble_eq_true rfl, Nat.le_of_ble_eq_true rfl⟩ ⟨Nat.le_of_ble_eq_true rfl, Nat.le_of_ble_eq_true rfl⟩ (fun zr36 zu36 H locs hw36 hP9 hD9 hS9 => ?_)
    clear hP hD hS
    refine reW [wO x0 11 [.ref t0, .ref d0, .ref h0, .ref o0, .ref n0, .ref u0, .ref k0, .ref q0, .ref p0, .ref s0, .ref b0, .ref z0, .ref ly, .int (nI yc)], wO n0 5 [.ref n1, .ref n2, .ref n3, .int fu, .int (nI cu), .int (nI un), .int (nI re)], wI (cy 1) n1 41 (fn), wI (cy 1) n2 1681 (frw), wO h0 4 [.ref h1, .ref h2, .ref h3, .ref h4, .ref h5, .ref h6, .ref h7, .ref h8, .ref h9, .ref h10, .ref h11, .int ys, .int hon, .int hwi, .int hdr, .int hu], wI (cy 1) h1 4 (fc)] hP9 hD9 hS9 (fun hP hD hS => ?_)
    clear hP9 hD9 hS9
    refine W.widen (k := 0) (n := 0) (Nat.le_of_ble_eq_true rfl) (Nat.le_of_ble_eq_true rfl) ?_
    replace hw36 : (zr36 = 0 ∨ (zr36 = 1 ∧ ∃ j : Nat, j < c0 ∧ xw = nI j)) ∧ (zr36 = 0 → ¬ inR xw c0) := hw36
    obtain ⟨f_37, f_38⟩ := hw36
    rcases f_37 with hz_40 | ⟨hz_40, j_39, hj_39, ej_39⟩
    · subst hz_40
      refine lv_if_eq (tgt := 32) hx hb dX11_say_16 (by decide) (fun _ => ?_) (fun h => absurd (by decide) h)
      refine lv_iconst (v := -1) hx hb dX11_say_32 (by decide) ?_
      exact x_iret hQ hx hb hr hlocks hK hP hD hS dX11_say_33 (cu, un, re, fn, frw) (⟨(show cu ≤ 40 from by omega), (show un + re ≤ 40 from by omega), hno, hro, Or.inl ⟨rfl, ⟨rfl, rfl, rfl, rfl, rfl⟩, Or.inr (Or.inl (f_38 rfl))⟩⟩) [0, 4, 5, 1, 2, 3] (by decide +kernel) rfl (Nat.le_of_ble_eq_true rfl) (Nat.le_of_ble_eq_true rfl)
    · subst hz_40
      subst ej_39
      refine lv_if_eq (tgt := 32) hx hb dX11_say_16 (by decide) (fun h => absurd h (by decide)) (fun _ => ?_)
      refine lv_aload_n hx hb dX11_say_19 rfl (lv_at hl 0 rfl) ?_
      refine va_get (D := D) (ci := 11) (v := .ref n0) (C := RX11) (T := TX11) (N := 14) hx hb hg i_X11 hown hK hP 0 rfl rfl 4 (by decide) (hg _ m_662) (fun _ h9 => h9) rfl dX11_say_20 ?_
      refine lv_iload_n hx hb dX11_say_23 rfl (lv_at hl 1 rfl) ?_
      refine x_callVi (q := (RX5, TX5, 7)) (ci := 5) (q0 := 0) (wr := [wO x0 11 [.ref t0, .ref d0, .ref h0, .ref o0, .ref n0, .ref u0, .ref k0, .ref q0, .ref p0, .ref s0, .ref b0, .ref z0, .ref ly, .int (nI yc)], wI (cy 1) n2 1681 (frw), wO h0 4 [.ref h1, .ref h2, .ref h3, .ref h4, .ref h5, .ref h6, .ref h7, .ref h8, .ref h9, .ref h10, .ref h11, .int ys, .int hon, .int hwi, .int hdr, .int hu], wI (cy 1) h1 4 (fc)]) (rest := []) ⟨hx, hb, hml, hown, hg, hl.1⟩ k_X11_147 (s_cryLen1 l D cy n0 n1 n2 n3 fu cu un re fn (hno)) E0_blind hK hP hD hS hA [1, 2] [0, 3, 4, 5] ⟨rfl, rfl, by decide +kernel, by decide +kernel, by decide +kernel⟩ rfl rfl (fun _ _ _ => trivial) dX11_say_24 rfl rfl (Nat.le_of_ble_eq_true rfl) ⟨Nat.le_of_ble_eq_true rfl, Nat.le_of_ble_eq_true rfl⟩ ⟨Nat.le_of_ble_eq_true rfl, Nat.le_of_ble_eq_true rfl⟩ (fun zr41 zu41 H locs hw41 hP9 hD9 hS9 => ?_)
      clear hP hD hS
      obtain ⟨k_42, rfl⟩ : ∃ z, z = zu41 := ⟨_, rfl⟩
      refine reW [wO x0 11 [.ref t0, .ref d0, .ref h0, .ref o0, .ref n0, .ref u0, .ref k0, .ref q0, .ref p0, .ref s0, .ref b0, .ref z0, .ref ly, .int (nI yc)], wI (cy 1) n2 1681 (frw), wO h0 4 [.ref h1, .ref h2, .ref h3, .ref h4, .ref h5, .ref h6, .ref h7, .ref h8, .ref h9, .ref h10, .ref h11, .int ys, .int hon, .int hwi, .int hdr, .int hu], wI (cy 1) h1 4 (fc), wO n0 5 [.ref n1, .ref n2, .ref n3, .int fu, .int (nI cu), .int (nI un), .int (nI re)], wI (cy 1) n1 41 (fn)] hP9 hD9 hS9 (fun hP hD hS => ?_)
      clear hP9 hD9 hS9
      refine W.widen (k := 0) (n := 0) (Nat.le_of_ble_eq_true rfl) (Nat.le_of_ble_eq_true rfl) ?_
      replace hw41 : (zr41 = nI k_42) ∧ (k_42 ≤ 10) ∧ (fn 11 = nI k_42) := hw41
      obtain ⟨f_43, f_44, f_45⟩ := hw41
      subst f_43
      refine lv_bipush (v := 10) hx hb dX11_say_27 (by decide) ?_
      refine lv_icmp_lt (tgt := 34) hx hb dX11_say_29 (by decide) (fun c_46 => ?_) (fun c_46 => ?_)
      · have q_47 : k_42 < 10 := q_lt (a := k_42) (b := 10) rfl rfl (by omega) (by omega) c_46
        refine lv_aload_n hx hb dX11_say_34 rfl (lv_at hl 0 rfl) ?_
        refine va_get (D := D) (ci := 11) (v := .ref n0) (C := RX11) (T := TX11) (N := 14) hx hb hg i_X11 hown hK hP 0 rfl rfl 4 (by decide) (hg _ m_662) (fun _ h9 => h9) rfl dX11_say_35 ?_
        refine lv_iload_n hx hb dX11_say_38 rfl (lv_at hl 1 rfl) ?_
        refine lv_iload_n hx hb dX11_say_39 rfl (lv_at hl 2 rfl) ?_
        refine x_callVv (q := (RX5, TX5, 7)) (ci := 5) (q0 := 0) (wr := [wO x0 11 [.ref t0, .ref d0, .ref h0, .ref o0, .ref n0, .ref u0, .ref k0, .ref q0, .ref p0, .ref s0, .ref b0, .ref z0, .ref ly, .int (nI yc)], wO h0 4 [.ref h1, .ref h2, .ref h3, .ref h4, .ref h5, .ref h6, .ref h7, .ref h8, .ref h9, .ref h10, .ref h11, .int ys, .int hon, .int hwi, .int hdr, .int hu], wI (cy 1) h1 4 (fc)]) (rest := []) ⟨hx, hb, hml, hown, hg, hl.1⟩ k_X11_151 (s_addWord1 l D cy n0 n1 n2 n3 fu cu un re fn frw j_39 k_42 (by omega) (by omega) (hno) (hro) (by omega) (f_45) (by omega)) E0_blind hK hP hD hS hA [4, 5, 1] [0, 2, 3] ⟨rfl, rfl, by decide +kernel, by decide +kernel, by decide +kernel⟩ rfl rfl (fun _ _ _ => trivial) dX11_say_40 rfl rfl (Nat.le_of_ble_eq_true rfl) ⟨Nat.le_of_ble_eq_true rfl, Nat.le_of_ble_eq_true rfl⟩ ⟨Nat.le_of_ble_eq_true rfl, Nat.le_of_ble_eq_true rfl⟩ (fun zu48 H locs hw48 hP9 hD9 hS9 => ?_)
        clear hP hD hS
        obtain ⟨cu2_49, un2_50, re2_51, fq2_52, fn2_53⟩ := zu48
        refine reW [wO x0 11 [.ref t0, .ref d0, .ref h0, .ref o0, .ref n0, .ref u0, .ref k0, .ref q0, .ref p0, .ref s0, .ref b0, .ref z0, .ref ly, .int (nI yc)], wO h0 4 [.ref h1, .ref h2, .ref h3, .ref h4, .ref h5, .ref h6, .ref h7, .ref h8, .ref h9, .ref h10, .ref h11, .int ys, .int hon, .int hwi, .int hdr, .int hu], wI (cy 1) h1 4 (fc), wO n0 5 [.ref n1, .ref n2, .ref n3, .int fu, .int (nI cu2_49), .int (nI un2_50), .int (nI re2_51)], wI (cy 1) n1 41 (fn2_53), wI (cy 1) n2 1681 (fq2_52)] hP9 hD9 hS9 (fun hP hD hS => ?_)
        clear hP9 hD9 hS9
        refine W.widen (k := 0) (n := 0) (Nat.le_of_ble_eq_true rfl) (Nat.le_of_ble_eq_true rfl) ?_
        replace hw48 : (cu2_49 ≤ 40) ∧ (un2_50 + re2_51 ≤ 40) ∧ (mRows fq2_52 41) ∧ (mRows fn2_53 1) ∧ (actC fn2_53 frw cu un fq2_52 cu2_49 un2_50 re2_51) ∧ (fn2_53 = upd (upd fn 11 (nI (k_42 + 1))) (11 + (k_42 + 1)) (nI j_39)) := hw48
        obtain ⟨f_54, f_55, f_56, f_57, f_58, f_59⟩ := hw48
        refine lv_aload_n hx hb dX11_say_43 rfl (lv_at hl 0 rfl) ?_
        refine va_get (D := D) (ci := 11) (v := .ref n0) (C := RX11) (T := TX11) (N := 14) hx hb hg i_X11 hown hK hP 0 rfl rfl 4 (by decide) (hg _ m_662) (fun _ h9 => h9) rfl dX11_say_44 ?_
        refine lv_iload_n hx hb dX11_say_47 rfl (lv_at hl 1 rfl) ?_
        refine x_callVi (q := (RX5, TX5, 7)) (ci := 5) (q0 := 0) (wr := [wO x0 11 [.ref t0, .ref d0, .ref h0, .ref o0, .ref n0, .ref u0, .ref k0, .ref q0, .ref p0, .ref s0, .ref b0, .ref z0, .ref ly, .int (nI yc)], wO h0 4 [.ref h1, .ref h2, .ref h3, .ref h4, .ref h5, .ref h6, .ref h7, .ref h8, .ref h9, .ref h10, .ref h11, .int ys, .int hon, .int hwi, .int hdr, .int hu], wI (cy 1) h1 4 (fc), wI (cy 1) n2 1681 (fq2_52)]) (rest := []) ⟨hx, hb, hml, hown, hg, hl.1⟩ k_X11_147 (s_cryLen1 l D cy n0 n1 n2 n3 fu cu2_49 un2_50 re2_51 fn2_53 (f_57)) E0_blind hK hP hD hS hA [3, 4] [0, 1, 2, 5] ⟨rfl, rfl, by decide +kernel, by decide +kernel, by decide +kernel⟩ rfl rfl (fun _ _ _ => trivial) dX11_say_48 rfl rfl (Nat.le_of_ble_eq_true rfl) ⟨Nat.le_of_ble_eq_true rfl, Nat.le_of_ble_eq_true rfl⟩ ⟨Nat.le_of_ble_eq_true rfl, Nat.le_of_ble_eq_true rfl⟩ (fun zr60 zu60 H locs hw60 hP9 hD9 hS9 => ?_)
        clear hP hD hS
        obtain ⟨k_61, rfl⟩ : ∃ z, z = zu60 := ⟨_, rfl⟩
        refine reW [wO x0 11 [.ref t0, .ref d0, .ref h0, .ref o0, .ref n0, .ref u0, .ref k0, .ref q0, .ref p0, .ref s0, .ref b0, .ref z0, .ref ly, .int (nI yc)], wO h0 4 [.ref h1, .ref h2, .ref h3, .ref h4, .ref h5, .ref h6, .ref h7, .ref h8, .ref h9, .ref h10, .ref h11, .int ys, .int hon, .int hwi, .int hdr, .int hu], wI (cy 1) h1 4 (fc), wI (cy 1) n2 1681 (fq2_52), wO n0 5 [.ref n1, .ref n2, .ref n3, .int fu, .int (nI cu2_49), .int (nI un2_50), .int (nI re2_51)], wI (cy 1) n1 41 (fn2_53)] hP9 hD9 hS9 (fun hP hD hS => ?_)
        clear hP9 hD9 hS9
        refine W.widen (k := 0) (n := 0) (Nat.le_of_ble_eq_true rfl) (Nat.le_of_ble_eq_true rfl) ?_
        replace hw60 : (zr60 = nI k_61) ∧ (k_61 ≤ 10) ∧ (fn2_53 11 = nI k_61) := hw60
        obtain ⟨f_62, f_63, f_64⟩ := hw60
        subst f_62
        exact x_iret hQ hx hb hr hlocks hK hP hD hS dX11_say_51 (cu2_49, un2_50, re2_51, fn2_53, fq2_52) (⟨(show cu2_49 ≤ 40 from by omega), (show un2_50 + re2_51 ≤ 40 from by omega), f_57, f_56, Or.inr ⟨1, j_39, k_42, by decide, rfl, hj_39, rfl, by omega, f_45, sy_r f_59 f_64, f_59, f_58⟩⟩) [0, 1, 2, 4, 5, 3] (by decide +kernel) rfl (Nat.le_of_ble_eq_true rfl) (Nat.le_of_ble_eq_true rfl)
      · have q_47 : 10 ≤ k_42 := q_nlt (a := k_42) (b := 10) rfl rfl (by omega) (by omega) c_46
        refine lv_iconst (v := -1) hx hb dX11_say_32 (by decide) ?_
        exact x_iret hQ hx hb hr hlocks hK hP hD hS dX11_say_33 (cu, un, re, fn, frw) (⟨(show cu ≤ 40 from by omega), (show un + re ≤ 40 from by omega), hno, hro, Or.inl ⟨rfl, ⟨rfl, rfl, rfl, rfl, rfl⟩, Or.inr (Or.inr ⟨1, by decide, rfl, (by rw [show k_42 = 10 by omega] at f_45; exact f_45)⟩)⟩⟩) [0, 2, 3, 4, 5, 1] (by decide +kernel) rfl (Nat.le_of_ble_eq_true rfl) (Nat.le_of_ble_eq_true rfl)
theorem gdX11_unsay_0 : decode cX11_unsay 0 = .ok (.iload_n 1, 1) ∧ decode cX11_unsay 1 = .ok (.invokestatic 143, 3) ∧ decode cX11_unsay 4 = .ok (.ifCond .eq 14, 3) ∧ decode cX11_unsay 18 = .ok (.iconst (-1), 1) ∧ decode cX11_unsay 19 = .ok (.ireturn, 1) ∧ decode cX11_unsay 7 = .ok (.aload_n 0, 1) ∧ decode cX11_unsay 8 = .ok (.getfield 38, 3) ∧ decode cX11_unsay 11 = .ok (.iload_n 1, 1) ∧ decode cX11_unsay 12 = .ok (.invokevirtual 147, 3) ∧ decode cX11_unsay 15 = .ok (.ifCond .gt 5, 3) ∧ decode cX11_unsay 20 = .ok (.aload_n 0, 1) ∧ decode cX11_unsay 21 = .ok (.getfield 38, 3) := by decide +kernel
theorem dX11_unsay_0 : decode cX11_unsay 0 = .ok (.iload_n 1, 1) := gdX11_unsay_0.1
theorem dX11_unsay_1 : decode cX11_unsay 1 = .ok (.invokestatic 143, 3) := gdX11_unsay_0.2.1
theorem dX11_unsay_4 : decode cX11_unsay 4 = .ok (.ifCond .eq 14, 3) := gdX11_unsay_0.2.2.1
theorem dX11_unsay_18 : decode cX11_unsay 18 = .ok (.iconst (-1), 1) := gdX11_unsay_0.2.2.2.1
theorem dX11_unsay_19 : decode cX11_unsay 19 = .ok (.ireturn, 1) := gdX11_unsay_0.2.2.2.2.1
theorem dX11_unsay_7 : decode cX11_unsay 7 = .ok (.aload_n 0, 1) := gdX11_unsay_0.2.2.2.2.2.1
theorem dX11_unsay_8 : decode cX11_unsay 8 = .ok (.getfield 38, 3) := gdX11_unsay_0.2.2.2.2.2.2.1
theorem dX11_unsay_11 : decode cX11_unsay 11 = .ok (.iload_n 1, 1) := gdX11_unsay_0.2.2.2.2.2.2.2.1
theorem dX11_unsay_12 : decode cX11_unsay 12 = .ok (.invokevirtual 147, 3) := gdX11_unsay_0.2.2.2.2.2.2.2.2.1
theorem dX11_unsay_15 : decode cX11_unsay 15 = .ok (.ifCond .gt 5, 3) := gdX11_unsay_0.2.2.2.2.2.2.2.2.2.1
theorem dX11_unsay_20 : decode cX11_unsay 20 = .ok (.aload_n 0, 1) := gdX11_unsay_0.2.2.2.2.2.2.2.2.2.2.1
theorem dX11_unsay_21 : decode cX11_unsay 21 = .ok (.getfield 38, 3) := gdX11_unsay_0.2.2.2.2.2.2.2.2.2.2.2
theorem dX11_unsay_24 : decode cX11_unsay 24 = .ok (.iload_n 1, 1) := by decide +kernel
theorem dX11_unsay_25 : decode cX11_unsay 25 = .ok (.invokevirtual 155, 3) := by decide +kernel
theorem k_X11_155 : xV RX11 RX5 155 yX5_dropWord cX5_dropWord 4 (some .int) 1 := ⟨⟨m_989, m_990, m_991, m_139, m_992⟩, rfl, by decide, by decide, by decide +kernel⟩
theorem dX11_unsay_28 : decode cX11_unsay 28 = .ok (.ireturn, 1) := by decide +kernel
set_option maxHeartbeats 1000000 in
set_option maxRecDepth 100000 in
theorem s_xunsay (l : Launch) (D : va_G) (cy : Nat → ClassId) (x0 : Nat) (t0 : Nat) (d0 : Nat) (h0 : Nat) (o0 : Nat) (n0 : Nat) (n1 : Nat) (n2 : Nat) (n3 : Nat) (u0 : Nat) (k0 : Nat) (q0 : Nat) (p0 : Nat) (s0 : Nat) (b0 : Nat) (z0 : Nat) (ly : Nat) (fu : Int32) (cu : Nat) (un : Nat) (re : Nat) (fn : Nat → Int32) (frw : Nat → Int32) (yc : Nat) (xc9 : Int32) (hcu : cu ≤ 40) (hur : un + re ≤ 40) (hno : mRows fn 1) (hro : mRows frw 41) (hyc : yc ≤ 10) : XMi l D (tyL cy) E0 yX11_unsay cX11_unsay 2 (some .int) (rmk 3 0 0) [.ref x0, .int xc9] [wO x0 11 [.ref t0, .ref d0, .ref h0, .ref o0, .ref n0, .ref u0, .ref k0, .ref q0, .ref p0, .ref s0, .ref b0, .ref z0, .ref ly, .int (nI yc)], wO n0 5 [.ref n1, .ref n2, .ref n3, .int fu, .int (nI cu), .int (nI un), .int (nI re)], wI (cy 1) n1 41 (fn), wI (cy 1) n2 1681 (frw)] (fun (r : Int32) (u : Nat × Nat × Nat × (Nat → Int32) × (Nat → Int32)) => (u.1 ≤ 40) ∧ (u.2.1 + u.2.2.1 ≤ 40) ∧ (mRows u.2.2.2.1 1) ∧ (mRows u.2.2.2.2 41) ∧ (uyC fn frw cu un re xc9 r u.2.2.2.1 u.2.2.2.2 u.1 u.2.1 u.2.2.1)) (fun (u : Nat × Nat × Nat × (Nat → Int32) × (Nat → Int32)) => [wO x0 11 [.ref t0, .ref d0, .ref h0, .ref o0, .ref n0, .ref u0, .ref k0, .ref q0, .ref p0, .ref s0, .ref b0, .ref z0, .ref ly, .int (nI yc)], wO n0 5 [.ref n1, .ref n2, .ref n3, .int fu, .int (nI u.1), .int (nI u.2.1), .int (nI u.2.2.1)], wI (cy 1) n1 41 (u.2.2.2.1), wI (cy 1) n2 1681 (u.2.2.2.2)]) := by
  refine XMi.start (by decide) (Nat.le_of_ble_eq_true rfl) ?_
  intro p e s m below meth c args A ls Q hat hQ
  obtain ⟨hx, hb, hr, hml, hown, hg, hlocks, hin, hK, hA, hP, hD, hS, hE, hl⟩ := hat
  have hown : s.vm.findClass RX11 = some m.cls := hown
  have hl : lv_has ls 2 [(0, .ref x0), (1, .int xc9)] := hl
  refine lv_iload_n hx hb dX11_unsay_0 rfl (lv_at hl 1 rfl) ?_
  refine x_callSi (wr := [wO x0 11 [.ref t0, .ref d0, .ref h0, .ref o0, .ref n0, .ref u0, .ref k0, .ref q0, .ref p0, .ref s0, .ref b0, .ref z0, .ref ly, .int (nI yc)], wO n0 5 [.ref n1, .ref n2, .ref n3, .int fu, .int (nI cu), .int (nI un), .int (nI re)], wI (cy 1) n1 41 (fn), wI (cy 1) n2 1681 (frw)]) (rest := []) ⟨hx, hb, hml, hown, hg, hl.1⟩ k_X11_143 (s_xisCry l D cy xc9) E0_blind hK hP hD hS hA [] [0, 1, 2, 3] ⟨rfl, rfl, by decide +kernel, by decide +kernel, by decide +kernel⟩ (fun _ _ _ => trivial) dX11_unsay_1 rfl rfl (Nat.le_of_ble_eq_true rfl) ⟨Nat.le_of_ble_eq_true rfl, Nat.le_of_ble_eq_true rfl⟩ ⟨Nat.le_of_ble_eq_true rfl, Nat.le_of_ble_eq_true rfl⟩ (fun zr1 zu1 H locs hw1 hP9 hD9 hS9 => ?_)
  clear hP hD hS
  refine reW [wO x0 11 [.ref t0, .ref d0, .ref h0, .ref o0, .ref n0, .ref u0, .ref k0, .ref q0, .ref p0, .ref s0, .ref b0, .ref z0, .ref ly, .int (nI yc)], wO n0 5 [.ref n1, .ref n2, .ref n3, .int fu, .int (nI cu), .int (nI un), .int (nI re)], wI (cy 1) n1 41 (fn), wI (cy 1) n2 1681 (frw)] hP9 hD9 hS9 (fun hP hD hS => ?_)
  clear hP9 hD9 hS9
  refine W.widen (k := 0) (n := 0) (Nat.le_of_ble_eq_true rfl) (Nat.le_of_ble_eq_true rfl) ?_
  replace hw1 : (zr1 = 0 ∨ zr1 = 1) ∧ (zr1 = 0 ∨ (zr1 = 1 ∧ (xc9 = 0 ∨ xc9 = 1))) ∧ (zr1 = 0 → ¬ (xc9 = 0 ∨ xc9 = 1)) := hw1
  obtain ⟨f_2, f_3, f_4⟩ := hw1
  rcases f_3 with hz_6 | ⟨hz_6, hj_5 | hj_5⟩
  · subst hz_6
    refine lv_if_eq (tgt := 18) hx hb dX11_unsay_4 (by decide) (fun _ => ?_) (fun h => absurd (by decide) h)
    refine lv_iconst (v := -1) hx hb dX11_unsay_18 (by decide) ?_
    exact x_iret hQ hx hb hr hlocks hK hP hD hS dX11_unsay_19 (cu, un, re, fn, frw) (⟨(show cu ≤ 40 from by omega), (show un + re ≤ 40 from by omega), hno, hro, Or.inl ⟨rfl, ⟨rfl, rfl, rfl, rfl, rfl⟩, Or.inl (f_4 rfl)⟩⟩) [0, 1, 2, 3] (by decide +kernel) rfl (Nat.le_of_ble_eq_true rfl) (Nat.le_of_ble_eq_true rfl)
  · subst hz_6
    subst hj_5
    refine lv_if_eq (tgt := 18) hx hb dX11_unsay_4 (by decide) (fun h => absurd h (by decide)) (fun _ => ?_)
    refine lv_aload_n hx hb dX11_unsay_7 rfl (lv_at hl 0 rfl) ?_
    refine va_get (D := D) (ci := 11) (v := .ref n0) (C := RX11) (T := TX11) (N := 14) hx hb hg i_X11 hown hK hP 0 rfl rfl 4 (by decide) (hg _ m_662) (fun _ h9 => h9) rfl dX11_unsay_8 ?_
    refine lv_iload_n hx hb dX11_unsay_11 rfl (lv_at hl 1 rfl) ?_
    refine x_callVi (q := (RX5, TX5, 7)) (ci := 5) (q0 := 0) (wr := [wO x0 11 [.ref t0, .ref d0, .ref h0, .ref o0, .ref n0, .ref u0, .ref k0, .ref q0, .ref p0, .ref s0, .ref b0, .ref z0, .ref ly, .int (nI yc)], wI (cy 1) n2 1681 (frw)]) (rest := []) ⟨hx, hb, hml, hown, hg, hl.1⟩ k_X11_147 (s_cryLen0 l D cy n0 n1 n2 n3 fu cu un re fn (hno)) E0_blind hK hP hD hS hA [1, 2] [0, 3] ⟨rfl, rfl, by decide +kernel, by decide +kernel, by decide +kernel⟩ rfl rfl (fun _ _ _ => trivial) dX11_unsay_12 rfl rfl (Nat.le_of_ble_eq_true rfl) ⟨Nat.le_of_ble_eq_true rfl, Nat.le_of_ble_eq_true rfl⟩ ⟨Nat.le_of_ble_eq_true rfl, Nat.le_of_ble_eq_true rfl⟩ (fun zr7 zu7 H locs hw7 hP9 hD9 hS9 => ?_)
    clear hP hD hS
    obtain ⟨k_8, rfl⟩ : ∃ z, z = zu7 := ⟨_, rfl⟩
    refine reW [wO x0 11 [.ref t0, .ref d0, .ref h0, .ref o0, .ref n0, .ref u0, .ref k0, .ref q0, .ref p0, .ref s0, .ref b0, .ref z0, .ref ly, .int (nI yc)], wI (cy 1) n2 1681 (frw), wO n0 5 [.ref n1, .ref n2, .ref n3, .int fu, .int (nI cu), .int (nI un), .int (nI re)], wI (cy 1) n1 41 (fn)] hP9 hD9 hS9 (fun hP hD hS => ?_)
    clear hP9 hD9 hS9
    refine W.widen (k := 0) (n := 0) (Nat.le_of_ble_eq_true rfl) (Nat.le_of_ble_eq_true rfl) ?_
    replace hw7 : (zr7 = nI k_8) ∧ (k_8 ≤ 10) ∧ (fn 0 = nI k_8) := hw7
    obtain ⟨f_9, f_10, f_11⟩ := hw7
    subst f_9
    refine lv_if_gt (tgt := 20) hx hb dX11_unsay_15 (by decide) (fun c_12 => ?_) (fun c_12 => ?_)
    · have q_13 : 0 < k_8 := q_lt (a := 0) (b := k_8) rfl rfl (by omega) (by omega) c_12
      refine lv_aload_n hx hb dX11_unsay_20 rfl (lv_at hl 0 rfl) ?_
      refine va_get (D := D) (ci := 11) (v := .ref n0) (C := RX11) (T := TX11) (N := 14) hx hb hg i_X11 hown hK hP 0 rfl rfl 4 (by decide) (hg _ m_662) (fun _ h9 => h9) rfl dX11_unsay_21 ?_
      refine lv_iload_n hx hb dX11_unsay_24 rfl (lv_at hl 1 rfl) ?_
      refine x_callVi (q := (RX5, TX5, 7)) (ci := 5) (q0 := 0) (wr := [wO x0 11 [.ref t0, .ref d0, .ref h0, .ref o0, .ref n0, .ref u0, .ref k0, .ref q0, .ref p0, .ref s0, .ref b0, .ref z0, .ref ly, .int (nI yc)]]) (rest := []) ⟨hx, hb, hml, hown, hg, hl.1⟩ k_X11_155 (s_dropWord0 l D cy n0 n1 n2 n3 fu cu un re fn frw k_8 (by omega) (by omega) (hno) (hro) (f_11) (by omega) (by omega)) E0_blind hK hP hD hS hA [2, 3, 1] [0] ⟨rfl, rfl, by decide +kernel, by decide +kernel, by decide +kernel⟩ rfl rfl (fun _ _ _ => trivial) dX11_unsay_25 rfl rfl (Nat.le_of_ble_eq_true rfl) ⟨Nat.le_of_ble_eq_true rfl, Nat.le_of_ble_eq_true rfl⟩ ⟨Nat.le_of_ble_eq_true rfl, Nat.le_of_ble_eq_true rfl⟩ (fun zr14 zu14 H locs hw14 hP9 hD9 hS9 => ?_)
      clear hP hD hS
      obtain ⟨cu2_15, un2_16, re2_17, fq2_18, fn2_19, wd_20⟩ := zu14
      refine reW [wO x0 11 [.ref t0, .ref d0, .ref h0, .ref o0, .ref n0, .ref u0, .ref k0, .ref q0, .ref p0, .ref s0, .ref b0, .ref z0, .ref ly, .int (nI yc)], wO n0 5 [.ref n1, .ref n2, .ref n3, .int fu, .int (nI cu2_15), .int (nI un2_16), .int (nI re2_17)], wI (cy 1) n1 41 (fn2_19), wI (cy 1) n2 1681 (fq2_18)] hP9 hD9 hS9 (fun hP hD hS => ?_)
      clear hP9 hD9 hS9
      refine W.widen (k := 0) (n := 0) (Nat.le_of_ble_eq_true rfl) (Nat.le_of_ble_eq_true rfl) ?_
      replace hw14 : (zr14 = nI wd_20) ∧ (wd_20 ≤ 7) ∧ (cu2_15 ≤ 40) ∧ (un2_16 + re2_17 ≤ 40) ∧ (mRows fq2_18 41) ∧ (mRows fn2_19 1) ∧ (actC fn2_19 frw cu un fq2_18 cu2_15 un2_16 re2_17) ∧ (fn2_19 = upd fn 0 (nI (k_8 - 1)) ∧ nI wd_20 = fn (0 + k_8)) := hw14
      obtain ⟨f_21, f_22, f_23, f_24, f_25, f_26, f_27, f_28⟩ := hw14
      subst f_21
      exact x_iret hQ hx hb hr hlocks hK hP hD hS dX11_unsay_28 (cu2_15, un2_16, re2_17, fn2_19, fq2_18) (⟨(show cu2_15 ≤ 40 from by omega), (show un2_16 + re2_17 ≤ 40 from by omega), f_26, f_25, Or.inr ⟨0, k_8, by decide, rfl, by omega, by omega, f_11, f_28.2, f_28.1, f_27⟩⟩) [0, 1, 2, 3] (by decide +kernel) rfl (Nat.le_of_ble_eq_true rfl) (Nat.le_of_ble_eq_true rfl)
    · have q_13 : k_8 ≤ 0 := q_nlt (a := 0) (b := k_8) rfl rfl (by omega) (by omega) c_12
      refine lv_iconst (v := -1) hx hb dX11_unsay_18 (by decide) ?_
      exact x_iret hQ hx hb hr hlocks hK hP hD hS dX11_unsay_19 (cu, un, re, fn, frw) (⟨(show cu ≤ 40 from by omega), (show un + re ≤ 40 from by omega), hno, hro, Or.inl ⟨rfl, ⟨rfl, rfl, rfl, rfl, rfl⟩, Or.inr ⟨0, by decide, rfl, (by rw [show k_8 = 0 by omega] at f_11; exact f_11)⟩⟩⟩) [0, 2, 3, 1] (by decide +kernel) rfl (Nat.le_of_ble_eq_true rfl) (Nat.le_of_ble_eq_true rfl)
  · subst hz_6
    subst hj_5
    refine lv_if_eq (tgt := 18) hx hb dX11_unsay_4 (by decide) (fun h => absurd h (by decide)) (fun _ => ?_)
    refine lv_aload_n hx hb dX11_unsay_7 rfl (lv_at hl 0 rfl) ?_
    refine va_get (D := D) (ci := 11) (v := .ref n0) (C := RX11) (T := TX11) (N := 14) hx hb hg i_X11 hown hK hP 0 rfl rfl 4 (by decide) (hg _ m_662) (fun _ h9 => h9) rfl dX11_unsay_8 ?_
    refine lv_iload_n hx hb dX11_unsay_11 rfl (lv_at hl 1 rfl) ?_
    refine x_callVi (q := (RX5, TX5, 7)) (ci := 5) (q0 := 0) (wr := [wO x0 11 [.ref t0, .ref d0, .ref h0, .ref o0, .ref n0, .ref u0, .ref k0, .ref q0, .ref p0, .ref s0, .ref b0, .ref z0, .ref ly, .int (nI yc)], wI (cy 1) n2 1681 (frw)]) (rest := []) ⟨hx, hb, hml, hown, hg, hl.1⟩ k_X11_147 (s_cryLen1 l D cy n0 n1 n2 n3 fu cu un re fn (hno)) E0_blind hK hP hD hS hA [1, 2] [0, 3] ⟨rfl, rfl, by decide +kernel, by decide +kernel, by decide +kernel⟩ rfl rfl (fun _ _ _ => trivial) dX11_unsay_12 rfl rfl (Nat.le_of_ble_eq_true rfl) ⟨Nat.le_of_ble_eq_true rfl, Nat.le_of_ble_eq_true rfl⟩ ⟨Nat.le_of_ble_eq_true rfl, Nat.le_of_ble_eq_true rfl⟩ (fun zr29 zu29 H locs hw29 hP9 hD9 hS9 => ?_)
    clear hP hD hS
    obtain ⟨k_30, rfl⟩ : ∃ z, z = zu29 := ⟨_, rfl⟩
    refine reW [wO x0 11 [.ref t0, .ref d0, .ref h0, .ref o0, .ref n0, .ref u0, .ref k0, .ref q0, .ref p0, .ref s0, .ref b0, .ref z0, .ref ly, .int (nI yc)], wI (cy 1) n2 1681 (frw), wO n0 5 [.ref n1, .ref n2, .ref n3, .int fu, .int (nI cu), .int (nI un), .int (nI re)], wI (cy 1) n1 41 (fn)] hP9 hD9 hS9 (fun hP hD hS => ?_)
    clear hP9 hD9 hS9
    refine W.widen (k := 0) (n := 0) (Nat.le_of_ble_eq_true rfl) (Nat.le_of_ble_eq_true rfl) ?_
    replace hw29 : (zr29 = nI k_30) ∧ (k_30 ≤ 10) ∧ (fn 11 = nI k_30) := hw29
    obtain ⟨f_31, f_32, f_33⟩ := hw29
    subst f_31
    refine lv_if_gt (tgt := 20) hx hb dX11_unsay_15 (by decide) (fun c_34 => ?_) (fun c_34 => ?_)
    · have q_35 : 0 < k_30 := q_lt (a := 0) (b := k_30) rfl rfl (by omega) (by omega) c_34
      refine lv_aload_n hx hb dX11_unsay_20 rfl (lv_at hl 0 rfl) ?_
      refine va_get (D := D) (ci := 11) (v := .ref n0) (C := RX11) (T := TX11) (N := 14) hx hb hg i_X11 hown hK hP 0 rfl rfl 4 (by decide) (hg _ m_662) (fun _ h9 => h9) rfl dX11_unsay_21 ?_
      refine lv_iload_n hx hb dX11_unsay_24 rfl (lv_at hl 1 rfl) ?_
      refine x_callVi (q := (RX5, TX5, 7)) (ci := 5) (q0 := 0) (wr := [wO x0 11 [.ref t0, .ref d0, .ref h0, .ref o0, .ref n0, .ref u0, .ref k0, .ref q0, .ref p0, .ref s0, .ref b0, .ref z0, .ref ly, .int (nI yc)]]) (rest := []) ⟨hx, hb, hml, hown, hg, hl.1⟩ k_X11_155 (s_dropWord1 l D cy n0 n1 n2 n3 fu cu un re fn frw k_30 (by omega) (by omega) (hno) (hro) (f_33) (by omega) (by omega)) E0_blind hK hP hD hS hA [2, 3, 1] [0] ⟨rfl, rfl, by decide +kernel, by decide +kernel, by decide +kernel⟩ rfl rfl (fun _ _ _ => trivial) dX11_unsay_25 rfl rfl (Nat.le_of_ble_eq_true rfl) ⟨Nat.le_of_ble_eq_true rfl, Nat.le_of_ble_eq_true rfl⟩ ⟨Nat.le_of_ble_eq_true rfl, Nat.le_of_ble_eq_true rfl⟩ (fun zr36 zu36 H locs hw36 hP9 hD9 hS9 => ?_)
      clear hP hD hS
      obtain ⟨cu2_37, un2_38, re2_39, fq2_40, fn2_41, wd_42⟩ := zu36
      refine reW [wO x0 11 [.ref t0, .ref d0, .ref h0, .ref o0, .ref n0, .ref u0, .ref k0, .ref q0, .ref p0, .ref s0, .ref b0, .ref z0, .ref ly, .int (nI yc)], wO n0 5 [.ref n1, .ref n2, .ref n3, .int fu, .int (nI cu2_37), .int (nI un2_38), .int (nI re2_39)], wI (cy 1) n1 41 (fn2_41), wI (cy 1) n2 1681 (fq2_40)] hP9 hD9 hS9 (fun hP hD hS => ?_)
      clear hP9 hD9 hS9
      refine W.widen (k := 0) (n := 0) (Nat.le_of_ble_eq_true rfl) (Nat.le_of_ble_eq_true rfl) ?_
      replace hw36 : (zr36 = nI wd_42) ∧ (wd_42 ≤ 7) ∧ (cu2_37 ≤ 40) ∧ (un2_38 + re2_39 ≤ 40) ∧ (mRows fq2_40 41) ∧ (mRows fn2_41 1) ∧ (actC fn2_41 frw cu un fq2_40 cu2_37 un2_38 re2_39) ∧ (fn2_41 = upd fn 11 (nI (k_30 - 1)) ∧ nI wd_42 = fn (11 + k_30)) := hw36
      obtain ⟨f_43, f_44, f_45, f_46, f_47, f_48, f_49, f_50⟩ := hw36
      subst f_43
      exact x_iret hQ hx hb hr hlocks hK hP hD hS dX11_unsay_28 (cu2_37, un2_38, re2_39, fn2_41, fq2_40) (⟨(show cu2_37 ≤ 40 from by omega), (show un2_38 + re2_39 ≤ 40 from by omega), f_48, f_47, Or.inr ⟨1, k_30, by decide, rfl, by omega, by omega, f_33, f_50.2, f_50.1, f_49⟩⟩) [0, 1, 2, 3] (by decide +kernel) rfl (Nat.le_of_ble_eq_true rfl) (Nat.le_of_ble_eq_true rfl)
    · have q_35 : k_30 ≤ 0 := q_nlt (a := 0) (b := k_30) rfl rfl (by omega) (by omega) c_34
      refine lv_iconst (v := -1) hx hb dX11_unsay_18 (by decide) ?_
      exact x_iret hQ hx hb hr hlocks hK hP hD hS dX11_unsay_19 (cu, un, re, fn, frw) (⟨(show cu ≤ 40 from by omega), (show un + re ≤ 40 from by omega), hno, hro, Or.inl ⟨rfl, ⟨rfl, rfl, rfl, rfl, rfl⟩, Or.inr ⟨1, by decide, rfl, (by rw [show k_30 = 0 by omega] at f_33; exact f_33)⟩⟩⟩) [0, 2, 3, 1] (by decide +kernel) rfl (Nat.le_of_ble_eq_true rfl) (Nat.le_of_ble_eq_true rfl)
theorem gdX11_said_0 : decode cX11_said 0 = .ok (.iload_n 1, 1) ∧ decode cX11_said 1 = .ok (.invokestatic 143, 3) ∧ decode cX11_said 4 = .ok (.ifCond .eq 19, 3) ∧ decode cX11_said 23 = .ok (.iconst (-1), 1) ∧ decode cX11_said 24 = .ok (.ireturn, 1) ∧ decode cX11_said 7 = .ok (.iload_n 2, 1) ∧ decode cX11_said 8 = .ok (.ifCond .lt 15, 3) ∧ decode cX11_said 11 = .ok (.iload_n 2, 1) ∧ decode cX11_said 12 = .ok (.aload_n 0, 1) ∧ decode cX11_said 13 = .ok (.getfield 38, 3) ∧ decode cX11_said 16 = .ok (.iload_n 1, 1) ∧ decode cX11_said 17 = .ok (.invokevirtual 147, 3) := by decide +kernel
theorem dX11_said_0 : decode cX11_said 0 = .ok (.iload_n 1, 1) := gdX11_said_0.1
theorem dX11_said_1 : decode cX11_said 1 = .ok (.invokestatic 143, 3) := gdX11_said_0.2.1
theorem dX11_said_4 : decode cX11_said 4 = .ok (.ifCond .eq 19, 3) := gdX11_said_0.2.2.1
theorem dX11_said_23 : decode cX11_said 23 = .ok (.iconst (-1), 1) := gdX11_said_0.2.2.2.1
theorem dX11_said_24 : decode cX11_said 24 = .ok (.ireturn, 1) := gdX11_said_0.2.2.2.2.1
theorem dX11_said_7 : decode cX11_said 7 = .ok (.iload_n 2, 1) := gdX11_said_0.2.2.2.2.2.1
theorem dX11_said_8 : decode cX11_said 8 = .ok (.ifCond .lt 15, 3) := gdX11_said_0.2.2.2.2.2.2.1
theorem dX11_said_11 : decode cX11_said 11 = .ok (.iload_n 2, 1) := gdX11_said_0.2.2.2.2.2.2.2.1
theorem dX11_said_12 : decode cX11_said 12 = .ok (.aload_n 0, 1) := gdX11_said_0.2.2.2.2.2.2.2.2.1
theorem dX11_said_13 : decode cX11_said 13 = .ok (.getfield 38, 3) := gdX11_said_0.2.2.2.2.2.2.2.2.2.1
theorem dX11_said_16 : decode cX11_said 16 = .ok (.iload_n 1, 1) := gdX11_said_0.2.2.2.2.2.2.2.2.2.2.1
theorem dX11_said_17 : decode cX11_said 17 = .ok (.invokevirtual 147, 3) := gdX11_said_0.2.2.2.2.2.2.2.2.2.2.2
theorem gdX11_said_20 : decode cX11_said 20 = .ok (.if_icmp .lt 5, 3) ∧ decode cX11_said 25 = .ok (.aload_n 0, 1) ∧ decode cX11_said 26 = .ok (.getfield 38, 3) ∧ decode cX11_said 29 = .ok (.iload_n 1, 1) ∧ decode cX11_said 30 = .ok (.iload_n 2, 1) ∧ decode cX11_said 31 = .ok (.invokevirtual 158, 3) ∧ decode cX11_said 34 = .ok (.ireturn, 1) := by decide +kernel
theorem dX11_said_20 : decode cX11_said 20 = .ok (.if_icmp .lt 5, 3) := gdX11_said_20.1
theorem dX11_said_25 : decode cX11_said 25 = .ok (.aload_n 0, 1) := gdX11_said_20.2.1
theorem dX11_said_26 : decode cX11_said 26 = .ok (.getfield 38, 3) := gdX11_said_20.2.2.1
theorem dX11_said_29 : decode cX11_said 29 = .ok (.iload_n 1, 1) := gdX11_said_20.2.2.2.1
theorem dX11_said_30 : decode cX11_said 30 = .ok (.iload_n 2, 1) := gdX11_said_20.2.2.2.2.1
theorem dX11_said_31 : decode cX11_said 31 = .ok (.invokevirtual 158, 3) := gdX11_said_20.2.2.2.2.2.1
theorem dX11_said_34 : decode cX11_said 34 = .ok (.ireturn, 1) := gdX11_said_20.2.2.2.2.2.2
set_option maxHeartbeats 1000000 in
set_option maxRecDepth 100000 in
theorem s_xsaid (l : Launch) (D : va_G) (cy : Nat → ClassId) (x0 : Nat) (t0 : Nat) (d0 : Nat) (h0 : Nat) (o0 : Nat) (n0 : Nat) (n1 : Nat) (n2 : Nat) (n3 : Nat) (u0 : Nat) (k0 : Nat) (q0 : Nat) (p0 : Nat) (s0 : Nat) (b0 : Nat) (z0 : Nat) (ly : Nat) (fu : Int32) (cu : Nat) (un : Nat) (re : Nat) (fn : Nat → Int32) (yc : Nat) (xc9 : Int32) (xi : Int32) (hcu : cu ≤ 40) (hur : un + re ≤ 40) (hno : mRows fn 1) (hyc : yc ≤ 10) : XMi l D (tyL cy) E0 yX11_said cX11_said 3 (some .int) (rmk 1 0 0) [.ref x0, .int xc9, .int xi] [wO x0 11 [.ref t0, .ref d0, .ref h0, .ref o0, .ref n0, .ref u0, .ref k0, .ref q0, .ref p0, .ref s0, .ref b0, .ref z0, .ref ly, .int (nI yc)], wO n0 5 [.ref n1, .ref n2, .ref n3, .int fu, .int (nI cu), .int (nI un), .int (nI re)], wI (cy 1) n1 41 (fn)] (fun (r : Int32) (_ : Unit) => (sdC fn xc9 xi r)) (fun (_ : Unit) => [wO x0 11 [.ref t0, .ref d0, .ref h0, .ref o0, .ref n0, .ref u0, .ref k0, .ref q0, .ref p0, .ref s0, .ref b0, .ref z0, .ref ly, .int (nI yc)], wO n0 5 [.ref n1, .ref n2, .ref n3, .int fu, .int (nI cu), .int (nI un), .int (nI re)], wI (cy 1) n1 41 (fn)]) := by
  refine XMi.start (by decide) (Nat.le_of_ble_eq_true rfl) ?_
  intro p e s m below meth c args A ls Q hat hQ
  obtain ⟨hx, hb, hr, hml, hown, hg, hlocks, hin, hK, hA, hP, hD, hS, hE, hl⟩ := hat
  have hown : s.vm.findClass RX11 = some m.cls := hown
  have hl : lv_has ls 3 [(0, .ref x0), (1, .int xc9), (2, .int xi)] := hl
  refine lv_iload_n hx hb dX11_said_0 rfl (lv_at hl 1 rfl) ?_
  refine x_callSi (wr := [wO x0 11 [.ref t0, .ref d0, .ref h0, .ref o0, .ref n0, .ref u0, .ref k0, .ref q0, .ref p0, .ref s0, .ref b0, .ref z0, .ref ly, .int (nI yc)], wO n0 5 [.ref n1, .ref n2, .ref n3, .int fu, .int (nI cu), .int (nI un), .int (nI re)], wI (cy 1) n1 41 (fn)]) (rest := []) ⟨hx, hb, hml, hown, hg, hl.1⟩ k_X11_143 (s_xisCry l D cy xc9) E0_blind hK hP hD hS hA [] [0, 1, 2] ⟨rfl, rfl, by decide +kernel, by decide +kernel, by decide +kernel⟩ (fun _ _ _ => trivial) dX11_said_1 rfl rfl (Nat.le_of_ble_eq_true rfl) ⟨Nat.le_of_ble_eq_true rfl, Nat.le_of_ble_eq_true rfl⟩ ⟨Nat.le_of_ble_eq_true rfl, Nat.le_of_ble_eq_true rfl⟩ (fun zr1 zu1 H locs hw1 hP9 hD9 hS9 => ?_)
  clear hP hD hS
  refine reW [wO x0 11 [.ref t0, .ref d0, .ref h0, .ref o0, .ref n0, .ref u0, .ref k0, .ref q0, .ref p0, .ref s0, .ref b0, .ref z0, .ref ly, .int (nI yc)], wO n0 5 [.ref n1, .ref n2, .ref n3, .int fu, .int (nI cu), .int (nI un), .int (nI re)], wI (cy 1) n1 41 (fn)] hP9 hD9 hS9 (fun hP hD hS => ?_)
  clear hP9 hD9 hS9
  refine W.widen (k := 0) (n := 0) (Nat.le_of_ble_eq_true rfl) (Nat.le_of_ble_eq_true rfl) ?_
  replace hw1 : (zr1 = 0 ∨ zr1 = 1) ∧ (zr1 = 0 ∨ (zr1 = 1 ∧ (xc9 = 0 ∨ xc9 = 1))) ∧ (zr1 = 0 → ¬ (xc9 = 0 ∨ xc9 = 1)) := hw1
  obtain ⟨f_2, f_3, f_4⟩ := hw1
  rcases f_3 with hz_6 | ⟨hz_6, hj_5 | hj_5⟩
  · subst hz_6
    refine lv_if_eq (tgt := 23) hx hb dX11_said_4 (by decide) (fun _ => ?_) (fun h => absurd (by decide) h)
    refine lv_iconst (v := -1) hx hb dX11_said_23 (by decide) ?_
    exact x_iret hQ hx hb hr hlocks hK hP hD hS dX11_said_24 () (Or.inl ⟨rfl, Or.inl (f_4 rfl)⟩) [0, 1, 2] (by decide +kernel) rfl (Nat.le_of_ble_eq_true rfl) (Nat.le_of_ble_eq_true rfl)
  · subst hz_6
    subst hj_5
    refine lv_if_eq (tgt := 23) hx hb dX11_said_4 (by decide) (fun h => absurd h (by decide)) (fun _ => ?_)
    refine lv_iload_n hx hb dX11_said_7 rfl (lv_at hl 2 rfl) ?_
    refine lv_if_lt (tgt := 23) hx hb dX11_said_8 (by decide) (fun c_8 => ?_) (fun c_8 => ?_)
    · refine lv_iconst (v := -1) hx hb dX11_said_23 (by decide) ?_
      exact x_iret hQ hx hb hr hlocks hK hP hD hS dX11_said_24 () (Or.inl ⟨rfl, Or.inr (sd_neg (c := 0) (by decide) (m_lenAt hno).1 c_8)⟩) [0, 1, 2] (by decide +kernel) rfl (Nat.le_of_ble_eq_true rfl) (Nat.le_of_ble_eq_true rfl)
    · refine lv_iload_n hx hb dX11_said_11 rfl (lv_at hl 2 rfl) ?_
      refine lv_aload_n hx hb dX11_said_12 rfl (lv_at hl 0 rfl) ?_
      refine va_get (D := D) (ci := 11) (v := .ref n0) (C := RX11) (T := TX11) (N := 14) hx hb hg i_X11 hown hK hP 0 rfl rfl 4 (by decide) (hg _ m_662) (fun _ h9 => h9) rfl dX11_said_13 ?_
      refine lv_iload_n hx hb dX11_said_16 rfl (lv_at hl 1 rfl) ?_
      refine x_callVi (q := (RX5, TX5, 7)) (ci := 5) (q0 := 0) (wr := [wO x0 11 [.ref t0, .ref d0, .ref h0, .ref o0, .ref n0, .ref u0, .ref k0, .ref q0, .ref p0, .ref s0, .ref b0, .ref z0, .ref ly, .int (nI yc)]]) (rest := [.int xi]) ⟨hx, hb, hml, hown, hg, hl.1⟩ k_X11_147 (s_cryLen0 l D cy n0 n1 n2 n3 fu cu un re fn (hno)) E0_blind hK hP hD hS hA [1, 2] [0] ⟨rfl, rfl, by decide +kernel, by decide +kernel, by decide +kernel⟩ rfl rfl (fun _ _ _ => trivial) dX11_said_17 rfl rfl (Nat.le_of_ble_eq_true rfl) ⟨Nat.le_of_ble_eq_true rfl, Nat.le_of_ble_eq_true rfl⟩ ⟨Nat.le_of_ble_eq_true rfl, Nat.le_of_ble_eq_true rfl⟩ (fun zr7 zu7 H locs hw7 hP9 hD9 hS9 => ?_)
      clear hP hD hS
      obtain ⟨k_8, rfl⟩ : ∃ z, z = zu7 := ⟨_, rfl⟩
      refine reW [wO x0 11 [.ref t0, .ref d0, .ref h0, .ref o0, .ref n0, .ref u0, .ref k0, .ref q0, .ref p0, .ref s0, .ref b0, .ref z0, .ref ly, .int (nI yc)], wO n0 5 [.ref n1, .ref n2, .ref n3, .int fu, .int (nI cu), .int (nI un), .int (nI re)], wI (cy 1) n1 41 (fn)] hP9 hD9 hS9 (fun hP hD hS => ?_)
      clear hP9 hD9 hS9
      refine W.widen (k := 0) (n := 0) (Nat.le_of_ble_eq_true rfl) (Nat.le_of_ble_eq_true rfl) ?_
      replace hw7 : (zr7 = nI k_8) ∧ (k_8 ≤ 10) ∧ (fn 0 = nI k_8) := hw7
      obtain ⟨f_9, f_10, f_11⟩ := hw7
      subst f_9
      refine lv_icmp_lt (tgt := 25) hx hb dX11_said_20 (by decide) (fun c_20 => ?_) (fun c_20 => ?_)
      · obtain ⟨j_12, hj_12, ej_12⟩ := hasl (by omega) c_8 c_20
        subst ej_12
        refine lv_aload_n hx hb dX11_said_25 rfl (lv_at hl 0 rfl) ?_
        refine va_get (D := D) (ci := 11) (v := .ref n0) (C := RX11) (T := TX11) (N := 14) hx hb hg i_X11 hown hK hP 0 rfl rfl 4 (by decide) (hg _ m_662) (fun _ h9 => h9) rfl dX11_said_26 ?_
        refine lv_iload_n hx hb dX11_said_29 rfl (lv_at hl 1 rfl) ?_
        refine lv_iload_n hx hb dX11_said_30 rfl (lv_at hl 2 rfl) ?_
        refine x_callVi (q := (RX5, TX5, 7)) (ci := 5) (q0 := 0) (wr := [wO x0 11 [.ref t0, .ref d0, .ref h0, .ref o0, .ref n0, .ref u0, .ref k0, .ref q0, .ref p0, .ref s0, .ref b0, .ref z0, .ref ly, .int (nI yc)]]) (rest := []) ⟨hx, hb, hml, hown, hg, hl.1⟩ k_X11_158 (s_wordAt0 l D cy n0 n1 n2 n3 fu cu un re fn j_12 (hno) (by omega)) E0_blind hK hP hD hS hA [1, 2] [0] ⟨rfl, rfl, by decide +kernel, by decide +kernel, by decide +kernel⟩ rfl rfl (fun _ _ _ => trivial) dX11_said_31 rfl rfl (Nat.le_of_ble_eq_true rfl) ⟨Nat.le_of_ble_eq_true rfl, Nat.le_of_ble_eq_true rfl⟩ ⟨Nat.le_of_ble_eq_true rfl, Nat.le_of_ble_eq_true rfl⟩ (fun zr13 zu13 H locs hw13 hP9 hD9 hS9 => ?_)
        clear hP hD hS
        obtain ⟨k_14, rfl⟩ : ∃ z, z = zu13 := ⟨_, rfl⟩
        refine reW [wO x0 11 [.ref t0, .ref d0, .ref h0, .ref o0, .ref n0, .ref u0, .ref k0, .ref q0, .ref p0, .ref s0, .ref b0, .ref z0, .ref ly, .int (nI yc)], wO n0 5 [.ref n1, .ref n2, .ref n3, .int fu, .int (nI cu), .int (nI un), .int (nI re)], wI (cy 1) n1 41 (fn)] hP9 hD9 hS9 (fun hP hD hS => ?_)
        clear hP9 hD9 hS9
        refine W.widen (k := 0) (n := 0) (Nat.le_of_ble_eq_true rfl) (Nat.le_of_ble_eq_true rfl) ?_
        replace hw13 : (zr13 = nI k_14) ∧ (k_14 ≤ 7) ∧ (nI k_14 = fn (1 + j_12)) := hw13
        obtain ⟨f_15, f_16, f_17⟩ := hw13
        subst f_15
        exact x_iret hQ hx hb hr hlocks hK hP hD hS dX11_said_34 () (Or.inr ⟨0, k_8, j_12, by decide, rfl, by omega, f_11, hj_12, rfl, f_17⟩) [0, 1, 2] (by decide +kernel) rfl (Nat.le_of_ble_eq_true rfl) (Nat.le_of_ble_eq_true rfl)
      · refine lv_iconst (v := -1) hx hb dX11_said_23 (by decide) ?_
        exact x_iret hQ hx hb hr hlocks hK hP hD hS dX11_said_24 () (Or.inl ⟨rfl, Or.inr ⟨0, k_8, by decide, rfl, by omega, f_11, inR_ge (by omega) (nlt_le c_20)⟩⟩) [0, 1, 2] (by decide +kernel) rfl (Nat.le_of_ble_eq_true rfl) (Nat.le_of_ble_eq_true rfl)
  · subst hz_6
    subst hj_5
    refine lv_if_eq (tgt := 23) hx hb dX11_said_4 (by decide) (fun h => absurd h (by decide)) (fun _ => ?_)
    refine lv_iload_n hx hb dX11_said_7 rfl (lv_at hl 2 rfl) ?_
    refine lv_if_lt (tgt := 23) hx hb dX11_said_8 (by decide) (fun c_8 => ?_) (fun c_8 => ?_)
    · refine lv_iconst (v := -1) hx hb dX11_said_23 (by decide) ?_
      exact x_iret hQ hx hb hr hlocks hK hP hD hS dX11_said_24 () (Or.inl ⟨rfl, Or.inr (sd_neg (c := 1) (by decide) (m_lenAt hno).2 c_8)⟩) [0, 1, 2] (by decide +kernel) rfl (Nat.le_of_ble_eq_true rfl) (Nat.le_of_ble_eq_true rfl)
    · refine lv_iload_n hx hb dX11_said_11 rfl (lv_at hl 2 rfl) ?_
      refine lv_aload_n hx hb dX11_said_12 rfl (lv_at hl 0 rfl) ?_
      refine va_get (D := D) (ci := 11) (v := .ref n0) (C := RX11) (T := TX11) (N := 14) hx hb hg i_X11 hown hK hP 0 rfl rfl 4 (by decide) (hg _ m_662) (fun _ h9 => h9) rfl dX11_said_13 ?_
      refine lv_iload_n hx hb dX11_said_16 rfl (lv_at hl 1 rfl) ?_
      refine x_callVi (q := (RX5, TX5, 7)) (ci := 5) (q0 := 0) (wr := [wO x0 11 [.ref t0, .ref d0, .ref h0, .ref o0, .ref n0, .ref u0, .ref k0, .ref q0, .ref p0, .ref s0, .ref b0, .ref z0, .ref ly, .int (nI yc)]]) (rest := [.int xi]) ⟨hx, hb, hml, hown, hg, hl.1⟩ k_X11_147 (s_cryLen1 l D cy n0 n1 n2 n3 fu cu un re fn (hno)) E0_blind hK hP hD hS hA [1, 2] [0] ⟨rfl, rfl, by decide +kernel, by decide +kernel, by decide +kernel⟩ rfl rfl (fun _ _ _ => trivial) dX11_said_17 rfl rfl (Nat.le_of_ble_eq_true rfl) ⟨Nat.le_of_ble_eq_true rfl, Nat.le_of_ble_eq_true rfl⟩ ⟨Nat.le_of_ble_eq_true rfl, Nat.le_of_ble_eq_true rfl⟩ (fun zr18 zu18 H locs hw18 hP9 hD9 hS9 => ?_)
      clear hP hD hS
      obtain ⟨k_19, rfl⟩ : ∃ z, z = zu18 := ⟨_, rfl⟩
      refine reW [wO x0 11 [.ref t0, .ref d0, .ref h0, .ref o0, .ref n0, .ref u0, .ref k0, .ref q0, .ref p0, .ref s0, .ref b0, .ref z0, .ref ly, .int (nI yc)], wO n0 5 [.ref n1, .ref n2, .ref n3, .int fu, .int (nI cu), .int (nI un), .int (nI re)], wI (cy 1) n1 41 (fn)] hP9 hD9 hS9 (fun hP hD hS => ?_)
      clear hP9 hD9 hS9
      refine W.widen (k := 0) (n := 0) (Nat.le_of_ble_eq_true rfl) (Nat.le_of_ble_eq_true rfl) ?_
      replace hw18 : (zr18 = nI k_19) ∧ (k_19 ≤ 10) ∧ (fn 11 = nI k_19) := hw18
      obtain ⟨f_20, f_21, f_22⟩ := hw18
      subst f_20
      refine lv_icmp_lt (tgt := 25) hx hb dX11_said_20 (by decide) (fun c_20 => ?_) (fun c_20 => ?_)
      · obtain ⟨j_23, hj_23, ej_23⟩ := hasl (by omega) c_8 c_20
        subst ej_23
        refine lv_aload_n hx hb dX11_said_25 rfl (lv_at hl 0 rfl) ?_
        refine va_get (D := D) (ci := 11) (v := .ref n0) (C := RX11) (T := TX11) (N := 14) hx hb hg i_X11 hown hK hP 0 rfl rfl 4 (by decide) (hg _ m_662) (fun _ h9 => h9) rfl dX11_said_26 ?_
        refine lv_iload_n hx hb dX11_said_29 rfl (lv_at hl 1 rfl) ?_
        refine lv_iload_n hx hb dX11_said_30 rfl (lv_at hl 2 rfl) ?_
        refine x_callVi (q := (RX5, TX5, 7)) (ci := 5) (q0 := 0) (wr := [wO x0 11 [.ref t0, .ref d0, .ref h0, .ref o0, .ref n0, .ref u0, .ref k0, .ref q0, .ref p0, .ref s0, .ref b0, .ref z0, .ref ly, .int (nI yc)]]) (rest := []) ⟨hx, hb, hml, hown, hg, hl.1⟩ k_X11_158 (s_wordAt1 l D cy n0 n1 n2 n3 fu cu un re fn j_23 (hno) (by omega)) E0_blind hK hP hD hS hA [1, 2] [0] ⟨rfl, rfl, by decide +kernel, by decide +kernel, by decide +kernel⟩ rfl rfl (fun _ _ _ => trivial) dX11_said_31 rfl rfl (Nat.le_of_ble_eq_true rfl) ⟨Nat.le_of_ble_eq_true rfl, Nat.le_of_ble_eq_true rfl⟩ ⟨Nat.le_of_ble_eq_true rfl, Nat.le_of_ble_eq_true rfl⟩ (fun zr24 zu24 H locs hw24 hP9 hD9 hS9 => ?_)
        clear hP hD hS
        obtain ⟨k_25, rfl⟩ : ∃ z, z = zu24 := ⟨_, rfl⟩
        refine reW [wO x0 11 [.ref t0, .ref d0, .ref h0, .ref o0, .ref n0, .ref u0, .ref k0, .ref q0, .ref p0, .ref s0, .ref b0, .ref z0, .ref ly, .int (nI yc)], wO n0 5 [.ref n1, .ref n2, .ref n3, .int fu, .int (nI cu), .int (nI un), .int (nI re)], wI (cy 1) n1 41 (fn)] hP9 hD9 hS9 (fun hP hD hS => ?_)
        clear hP9 hD9 hS9
        refine W.widen (k := 0) (n := 0) (Nat.le_of_ble_eq_true rfl) (Nat.le_of_ble_eq_true rfl) ?_
        replace hw24 : (zr24 = nI k_25) ∧ (k_25 ≤ 7) ∧ (nI k_25 = fn (12 + j_23)) := hw24
        obtain ⟨f_26, f_27, f_28⟩ := hw24
        subst f_26
        exact x_iret hQ hx hb hr hlocks hK hP hD hS dX11_said_34 () (Or.inr ⟨1, k_19, j_23, by decide, rfl, by omega, f_22, hj_23, rfl, f_28⟩) [0, 1, 2] (by decide +kernel) rfl (Nat.le_of_ble_eq_true rfl) (Nat.le_of_ble_eq_true rfl)
      · refine lv_iconst (v := -1) hx hb dX11_said_23 (by decide) ?_
        exact x_iret hQ hx hb hr hlocks hK hP hD hS dX11_said_24 () (Or.inl ⟨rfl, Or.inr ⟨1, k_19, by decide, rfl, by omega, f_22, inR_ge (by omega) (nlt_le c_20)⟩⟩) [0, 1, 2] (by decide +kernel) rfl (Nat.le_of_ble_eq_true rfl) (Nat.le_of_ble_eq_true rfl)
theorem gdX11_call_0 : decode cX11_call 0 = .ok (.aload_n 0, 1) ∧ decode cX11_call 1 = .ok (.getfield 28, 3) ∧ decode cX11_call 4 = .ok (.iconst 2, 1) ∧ decode cX11_call 5 = .ok (.iload_n 1, 1) ∧ decode cX11_call 6 = .ok (.invokevirtual 120, 3) ∧ decode cX11_call 9 = .ok (.ifCond .ne 5, 3) ∧ decode cX11_call 12 = .ok (.iconst (-1), 1) ∧ decode cX11_call 13 = .ok (.ireturn, 1) ∧ decode cX11_call 14 = .ok (.aload_n 0, 1) ∧ decode cX11_call 15 = .ok (.iload_n 1, 1) ∧ decode cX11_call 16 = .ok (.invokevirtual 161, 3) := by decide +kernel
theorem dX11_call_0 : decode cX11_call 0 = .ok (.aload_n 0, 1) := gdX11_call_0.1
theorem dX11_call_1 : decode cX11_call 1 = .ok (.getfield 28, 3) := gdX11_call_0.2.1
theorem dX11_call_4 : decode cX11_call 4 = .ok (.iconst 2, 1) := gdX11_call_0.2.2.1
theorem dX11_call_5 : decode cX11_call 5 = .ok (.iload_n 1, 1) := gdX11_call_0.2.2.2.1
theorem dX11_call_6 : decode cX11_call 6 = .ok (.invokevirtual 120, 3) := gdX11_call_0.2.2.2.2.1
theorem dX11_call_9 : decode cX11_call 9 = .ok (.ifCond .ne 5, 3) := gdX11_call_0.2.2.2.2.2.1
theorem dX11_call_12 : decode cX11_call 12 = .ok (.iconst (-1), 1) := gdX11_call_0.2.2.2.2.2.2.1
theorem dX11_call_13 : decode cX11_call 13 = .ok (.ireturn, 1) := gdX11_call_0.2.2.2.2.2.2.2.1
theorem dX11_call_14 : decode cX11_call 14 = .ok (.aload_n 0, 1) := gdX11_call_0.2.2.2.2.2.2.2.2.1
theorem dX11_call_15 : decode cX11_call 15 = .ok (.iload_n 1, 1) := gdX11_call_0.2.2.2.2.2.2.2.2.2.1
theorem dX11_call_16 : decode cX11_call 16 = .ok (.invokevirtual 161, 3) := gdX11_call_0.2.2.2.2.2.2.2.2.2.2
theorem k_X11_161 : xV RX11 RX11 161 yX11_prepare cX11_prepare 2 none 1 := ⟨⟨m_1005, m_1007, m_31, m_130, m_1008⟩, rfl, by decide, by decide, by decide +kernel⟩
theorem gdX11_call_19 : decode cX11_call 19 = .ok (.aload_n 0, 1) ∧ decode cX11_call 20 = .ok (.getfield 52, 3) ∧ decode cX11_call 23 = .ok (.aload_n 0, 1) ∧ decode cX11_call 24 = .ok (.getfield 28, 3) ∧ decode cX11_call 27 = .ok (.aload_n 0, 1) ∧ decode cX11_call 28 = .ok (.getfield 75, 3) ∧ decode cX11_call 31 = .ok (.aload_n 0, 1) ∧ decode cX11_call 32 = .ok (.getfield 82, 3) ∧ decode cX11_call 35 = .ok (.invokevirtual 164, 3) := by decide +kernel
theorem dX11_call_19 : decode cX11_call 19 = .ok (.aload_n 0, 1) := gdX11_call_19.1
theorem dX11_call_20 : decode cX11_call 20 = .ok (.getfield 52, 3) := gdX11_call_19.2.1
theorem dX11_call_23 : decode cX11_call 23 = .ok (.aload_n 0, 1) := gdX11_call_19.2.2.1
theorem dX11_call_24 : decode cX11_call 24 = .ok (.getfield 28, 3) := gdX11_call_19.2.2.2.1
theorem dX11_call_27 : decode cX11_call 27 = .ok (.aload_n 0, 1) := gdX11_call_19.2.2.2.2.1
theorem dX11_call_28 : decode cX11_call 28 = .ok (.getfield 75, 3) := gdX11_call_19.2.2.2.2.2.1
theorem dX11_call_31 : decode cX11_call 31 = .ok (.aload_n 0, 1) := gdX11_call_19.2.2.2.2.2.2.1
theorem dX11_call_32 : decode cX11_call 32 = .ok (.getfield 82, 3) := gdX11_call_19.2.2.2.2.2.2.2.1
theorem dX11_call_35 : decode cX11_call 35 = .ok (.invokevirtual 164, 3) := gdX11_call_19.2.2.2.2.2.2.2.2
theorem k_X11_164 : xV RX11 RX0 164 yX0_verdict cX0_verdict 7 (some .int) 3 := ⟨⟨m_1018, m_1019, m_1020, m_141, m_1021⟩, rfl, by decide, by decide, by decide +kernel⟩
theorem gdX11_call_38 : decode cX11_call 38 = .ok (.istore_n 2, 1) ∧ decode cX11_call 39 = .ok (.aload_n 0, 1) ∧ decode cX11_call 40 = .ok (.getfield 38, 3) ∧ decode cX11_call 43 = .ok (.iload_n 1, 1) ∧ decode cX11_call 44 = .ok (.iload_n 2, 1) ∧ decode cX11_call 45 = .ok (.invokevirtual 168, 3) := by decide +kernel
theorem dX11_call_38 : decode cX11_call 38 = .ok (.istore_n 2, 1) := gdX11_call_38.1
theorem dX11_call_39 : decode cX11_call 39 = .ok (.aload_n 0, 1) := gdX11_call_38.2.1
theorem dX11_call_40 : decode cX11_call 40 = .ok (.getfield 38, 3) := gdX11_call_38.2.2.1
theorem dX11_call_43 : decode cX11_call 43 = .ok (.iload_n 1, 1) := gdX11_call_38.2.2.2.1
theorem dX11_call_44 : decode cX11_call 44 = .ok (.iload_n 2, 1) := gdX11_call_38.2.2.2.2.1
theorem dX11_call_45 : decode cX11_call 45 = .ok (.invokevirtual 168, 3) := gdX11_call_38.2.2.2.2.2
theorem k_X11_168 : xV RX11 RX5 168 yX5_countVerdict cX5_countVerdict 3 none 2 := ⟨⟨m_1080, m_1081, m_1082, m_139, m_1083⟩, rfl, by decide, by decide, by decide +kernel⟩
theorem dX11_call_48 : decode cX11_call 48 = .ok (.iload_n 2, 1) := by decide +kernel
theorem dX11_call_49 : decode cX11_call 49 = .ok (.ireturn, 1) := by decide +kernel
set_option maxHeartbeats 1000000 in
set_option maxRecDepth 100000 in
theorem s_xcall (l : Launch) (D : va_G) (cy : Nat → ClassId) (x0 : Nat) (t0 : Nat) (d0 : Nat) (h0 : Nat) (h1 : Nat) (h2 : Nat) (h3 : Nat) (h4 : Nat) (h5 : Nat) (h6 : Nat) (h7 : Nat) (h8 : Nat) (h9 : Nat) (h10 : Nat) (h11 : Nat) (h9a : Nat) (h9b : Nat) (h10a : Nat) (h10b : Nat) (h11a : Nat) (h11b : Nat) (o0 : Nat) (n0 : Nat) (n1 : Nat) (n2 : Nat) (n3 : Nat) (u0 : Nat) (k0 : Nat) (er : Nat) (ro : Nat) (ea : Nat → Nat) (eg : Nat → Nat) (ef : Nat → Nat) (q0 : Nat) (p0 : Nat) (s0 : Nat) (s1 : Nat) (s2 : Nat) (b0 : Nat) (z0 : Nat) (z1 : Nat) (z2 : Nat) (ly : Nat) (ys : Int32) (hon : Int32) (hwi : Int32) (hdr : Int32) (hu : Int32) (fc : Nat → Int32) (c0 : Nat) (c1 : Nat) (c2 : Nat) (c3 : Nat) (flo : Nat → Int32) (fp : Nat → Int32) (fmp : Nat → Int32) (fmv : Nat → Int32) (fx : Nat → Int32) (nb : Nat) (tb : Int32) (fcb : Nat → Int32) (fsb : Nat → Int32) (nl : Nat) (tl : Int32) (fcl : Nat → Int32) (fsl : Nat → Int32) (nt : Nat) (tt : Int32) (fct : Nat → Int32) (fst : Nat → Int32) (fu : Int32) (cu : Nat) (un : Nat) (re : Nat) (fn : Nat → Int32) (frw : Nat → Int32) (bo : Int32) (fr : Nat → Int32) (et : Nat → Int32) (el : Nat → Nat) (ei : Nat → Nat) (gc : Nat → Nat → Int32) (xc : Nat → Nat → Int32) (sl : Nat) (spl : Int32) (svo : Int32) (swi : Int32) (sch : Int32) (fw : Nat → Int32) (fsn : Nat → Int32) (zl : Nat) (zpl : Int32) (zvo : Int32) (zwi : Int32) (zch : Int32) (fzw : Nat → Int32) (fzn : Nat → Int32) (yc : Nat) (xm : Int32) (hcn : cntOK fc c0 c1 c2 c3) (hc0 : c0 ≤ 8) (hc1 : c1 ≤ 4) (hc2 : c2 ≤ 4) (hc3 : c3 ≤ 6) (hnx : rng fx 48 5) (hnb : nb ≤ 280) (hcb : cOK fcb nb) (hnt : nt ≤ 280) (hct : cOK fct nt) (hnl : nl ≤ 280) (hcl : cOK fcl nl) (hcu : cu ≤ 40) (hur : un + re ≤ 40) (hno : mRows fn 1) (hro : mRows frw 41) (hel : ∀ i9, i9 < 4 → el i9 ≤ 10) (hrw : rng fr 20 7) (hsl : sl ≤ 10) (hsw : rng fw 10 7) (hzl : zl ≤ 10) (hzw : rng fzw 10 7) (hyc : yc ≤ 10) : XMi l D (tyL cy) E0 yX11_call cX11_call 3 (some .int) (rmk 7 0 0) [.ref x0, .int xm] [wO x0 11 [.ref t0, .ref d0, .ref h0, .ref o0, .ref n0, .ref u0, .ref k0, .ref q0, .ref p0, .ref s0, .ref b0, .ref z0, .ref ly, .int (nI yc)], wO n0 5 [.ref n1, .ref n2, .ref n3, .int fu, .int (nI cu), .int (nI un), .int (nI re)], wI (cy 1) n1 41 (fn), wO s0 7 [.ref s1, .ref s2, .int (nI sl), .int spl, .int svo, .int swi, .int sch], wI (cy 1) s1 10 (fw), wI (cy 1) s2 4 (fsn), wO h0 4 [.ref h1, .ref h2, .ref h3, .ref h4, .ref h5, .ref h6, .ref h7, .ref h8, .ref h9, .ref h10, .ref h11, .int ys, .int hon, .int hwi, .int hdr, .int hu], wI (cy 1) h5 4 (fmp), wI (cy 1) h6 4 (fmv), wI (cy 1) n2 1681 (frw), wO k0 0 [.ref er, .ref ro, .int bo], (er, .inl (cy 4, 4, .inr (.inr (.inr (.inr (eF (ea 0) (ea 1) (ea 2) (ea 3))))))), wI (cy 1) ro 20 (fr), wO (ea 0) 2 [.ref (eg 0), .ref (ef 0), .int (et 0), .int (nI (el 0)), .int (nI (ei 0))], wI (cy 1) (eg 0) 10 (gc 0), wI (cy 1) (ef 0) 7 (xc 0), wO (ea 1) 2 [.ref (eg 1), .ref (ef 1), .int (et 1), .int (nI (el 1)), .int (nI (ei 1))], wI (cy 1) (eg 1) 10 (gc 1), wI (cy 1) (ef 1) 7 (xc 1), wO (ea 2) 2 [.ref (eg 2), .ref (ef 2), .int (et 2), .int (nI (el 2)), .int (nI (ei 2))], wI (cy 1) (eg 2) 10 (gc 2), wI (cy 1) (ef 2) 7 (xc 2), wO (ea 3) 2 [.ref (eg 3), .ref (ef 3), .int (et 3), .int (nI (el 3)), .int (nI (ei 3))], wI (cy 1) (eg 3) 10 (gc 3), wI (cy 1) (ef 3) 7 (xc 3), wI (cy 1) h1 4 (fc), wI (cy 1) h3 4 (fp), wI (cy 1) h2 8 (flo), wI (cy 1) h7 48 (fx), wO h9 3 [.ref h9a, .ref h9b, .int (nI nb), .int tb], wI (cy 1) h9a 280 (fcb), wI (cy 1) h9b 31 (fsb), wO h11 3 [.ref h11a, .ref h11b, .int (nI nt), .int tt], wI (cy 1) h11a 280 (fct), wI (cy 1) h11b 31 (fst), wO h10 3 [.ref h10a, .ref h10b, .int (nI nl), .int tl], wI (cy 1) h10a 280 (fcl), wI (cy 1) h10b 31 (fsl), wO z0 7 [.ref z1, .ref z2, .int (nI zl), .int zpl, .int zvo, .int zwi, .int zch], wI (cy 1) z1 10 (fzw), wI (cy 1) z2 4 (fzn)] (fun (r : Int32) (u : (Nat → Int32) × (Nat → Int32) × (Nat → Int32) × Nat × Nat × Nat × (Nat → Int32) × (Nat → Int32) × Int32 × (Nat → Int32) × (Nat → Int32) × (Nat → Nat) × (Nat → Nat) × (Nat → Nat → Int32) × (Nat → Nat → Int32) × Nat × Int32 × Int32 × Int32 × Int32 × (Nat → Int32) × (Nat → Int32)) => (u.2.2.2.1 ≤ 40) ∧ (u.2.2.2.2.1 + u.2.2.2.2.2.1 ≤ 40) ∧ (mRows u.2.2.2.2.2.2.1 1) ∧ (mRows u.2.2.2.2.2.2.2.1 41) ∧ (∀ i9, i9 < 4 → u.2.2.2.2.2.2.2.2.2.2.2.1 i9 ≤ 10) ∧ (rng u.2.2.2.2.2.2.2.2.2.1 20 7) ∧ (u.2.2.2.2.2.2.2.2.2.2.2.2.2.2.2.1 ≤ 10) ∧ (rng u.2.2.2.2.2.2.2.2.2.2.2.2.2.2.2.2.2.2.2.2.1 10 7) ∧ (caC c2 fn frw cu un re xm u.2.2.2.2.2.2.1 u.2.2.2.2.2.2.2.1 u.2.2.2.1 u.2.2.2.2.1 u.2.2.2.2.2.1)) (fun (u : (Nat → Int32) × (Nat → Int32) × (Nat → Int32) × Nat × Nat × Nat × (Nat → Int32) × (Nat → Int32) × Int32 × (Nat → Int32) × (Nat → Int32) × (Nat → Nat) × (Nat → Nat) × (Nat → Nat → Int32) × (Nat → Nat → Int32) × Nat × Int32 × Int32 × Int32 × Int32 × (Nat → Int32) × (Nat → Int32)) => [wO x0 11 [.ref t0, .ref d0, .ref h0, .ref o0, .ref n0, .ref u0, .ref k0, .ref q0, .ref p0, .ref s0, .ref b0, .ref z0, .ref ly, .int (nI yc)], wO n0 5 [.ref n1, .ref n2, .ref n3, .int fu, .int (nI u.2.2.2.1), .int (nI u.2.2.2.2.1), .int (nI u.2.2.2.2.2.1)], wI (cy 1) n1 41 (u.2.2.2.2.2.2.1), wO s0 7 [.ref s1, .ref s2, .int (nI u.2.2.2.2.2.2.2.2.2.2.2.2.2.2.2.1), .int u.2.2.2.2.2.2.2.2.2.2.2.2.2.2.2.2.1, .int u.2.2.2.2.2.2.2.2.2.2.2.2.2.2.2.2.2.1, .int u.2.2.2.2.2.2.2.2.2.2.2.2.2.2.2.2.2.2.1, .int u.2.2.2.2.2.2.2.2.2.2.2.2.2.2.2.2.2.2.2.1], wI (cy 1) s1 10 (u.2.2.2.2.2.2.2.2.2.2.2.2.2.2.2.2.2.2.2.2.1), wI (cy 1) s2 4 (u.2.2.2.2.2.2.2.2.2.2.2.2.2.2.2.2.2.2.2.2.2), wO h0 4 [.ref h1, .ref h2, .ref h3, .ref h4, .ref h5, .ref h6, .ref h7, .ref h8, .ref h9, .ref h10, .ref h11, .int ys, .int hon, .int hwi, .int hdr, .int hu], wI (cy 1) h5 4 (fmp), wI (cy 1) h6 4 (fmv), wI (cy 1) n2 1681 (u.2.2.2.2.2.2.2.1), wO k0 0 [.ref er, .ref ro, .int u.2.2.2.2.2.2.2.2.1], (er, .inl (cy 4, 4, .inr (.inr (.inr (.inr (eF (ea 0) (ea 1) (ea 2) (ea 3))))))), wI (cy 1) ro 20 (u.2.2.2.2.2.2.2.2.2.1), wO (ea 0) 2 [.ref (eg 0), .ref (ef 0), .int (u.2.2.2.2.2.2.2.2.2.2.1 0), .int (nI (u.2.2.2.2.2.2.2.2.2.2.2.1 0)), .int (nI (u.2.2.2.2.2.2.2.2.2.2.2.2.1 0))], wI (cy 1) (eg 0) 10 (u.2.2.2.2.2.2.2.2.2.2.2.2.2.1 0), wI (cy 1) (ef 0) 7 (u.2.2.2.2.2.2.2.2.2.2.2.2.2.2.1 0), wO (ea 1) 2 [.ref (eg 1), .ref (ef 1), .int (u.2.2.2.2.2.2.2.2.2.2.1 1), .int (nI (u.2.2.2.2.2.2.2.2.2.2.2.1 1)), .int (nI (u.2.2.2.2.2.2.2.2.2.2.2.2.1 1))], wI (cy 1) (eg 1) 10 (u.2.2.2.2.2.2.2.2.2.2.2.2.2.1 1), wI (cy 1) (ef 1) 7 (u.2.2.2.2.2.2.2.2.2.2.2.2.2.2.1 1), wO (ea 2) 2 [.ref (eg 2), .ref (ef 2), .int (u.2.2.2.2.2.2.2.2.2.2.1 2), .int (nI (u.2.2.2.2.2.2.2.2.2.2.2.1 2)), .int (nI (u.2.2.2.2.2.2.2.2.2.2.2.2.1 2))], wI (cy 1) (eg 2) 10 (u.2.2.2.2.2.2.2.2.2.2.2.2.2.1 2), wI (cy 1) (ef 2) 7 (u.2.2.2.2.2.2.2.2.2.2.2.2.2.2.1 2), wO (ea 3) 2 [.ref (eg 3), .ref (ef 3), .int (u.2.2.2.2.2.2.2.2.2.2.1 3), .int (nI (u.2.2.2.2.2.2.2.2.2.2.2.1 3)), .int (nI (u.2.2.2.2.2.2.2.2.2.2.2.2.1 3))], wI (cy 1) (eg 3) 10 (u.2.2.2.2.2.2.2.2.2.2.2.2.2.1 3), wI (cy 1) (ef 3) 7 (u.2.2.2.2.2.2.2.2.2.2.2.2.2.2.1 3), wI (cy 1) h1 4 (fc), wI (cy 1) h3 4 (fp), wI (cy 1) h2 8 (flo), wI (cy 1) h7 48 (fx), wO h9 3 [.ref h9a, .ref h9b, .int (nI nb), .int tb], wI (cy 1) h9a 280 (fcb), wI (cy 1) h9b 31 (u.1), wO h11 3 [.ref h11a, .ref h11b, .int (nI nt), .int tt], wI (cy 1) h11a 280 (fct), wI (cy 1) h11b 31 (u.2.2.1), wO h10 3 [.ref h10a, .ref h10b, .int (nI nl), .int tl], wI (cy 1) h10a 280 (fcl), wI (cy 1) h10b 31 (u.2.1), wO z0 7 [.ref z1, .ref z2, .int (nI zl), .int zpl, .int zvo, .int zwi, .int zch], wI (cy 1) z1 10 (fzw), wI (cy 1) z2 4 (fzn)]) := by
  refine XMi.start (by decide) (Nat.le_of_ble_eq_true rfl) ?_
  intro p e s m below meth c args A ls Q hat hQ
  obtain ⟨hx, hb, hr, hml, hown, hg, hlocks, hin, hK, hA, hP, hD, hS, hE, hl⟩ := hat
  have hown : s.vm.findClass RX11 = some m.cls := hown
  have hl : lv_has ls 3 [(0, .ref x0), (1, .int xm)] := hl
  have hk_1 := hel 0 (by decide)
  have hk_2 := hel 1 (by decide)
  have hk_3 := hel 2 (by decide)
  have hk_4 := hel 3 (by decide)
  refine lv_aload_n hx hb dX11_call_0 rfl (lv_at hl 0 rfl) ?_
  refine va_get (D := D) (ci := 11) (v := .ref h0) (C := RX11) (T := TX11) (N := 14) hx hb hg i_X11 hown hK hP 0 rfl rfl 2 (by decide) (hg _ m_660) (fun _ h9 => h9) rfl dX11_call_1 ?_
  refine lv_iconst (v := 2) hx hb dX11_call_4 (by decide) ?_
  refine lv_iload_n hx hb dX11_call_5 rfl (lv_at hl 1 rfl) ?_
  refine x_callVi (q := (RX4, TX4, 16)) (ci := 4) (q0 := 0) (wr := [wO x0 11 [.ref t0, .ref d0, .ref h0, .ref o0, .ref n0, .ref u0, .ref k0, .ref q0, .ref p0, .ref s0, .ref b0, .ref z0, .ref ly, .int (nI yc)], wO n0 5 [.ref n1, .ref n2, .ref n3, .int fu, .int (nI cu), .int (nI un), .int (nI re)], wI (cy 1) n1 41 (fn), wO s0 7 [.ref s1, .ref s2, .int (nI sl), .int spl, .int svo, .int swi, .int sch], wI (cy 1) s1 10 (fw), wI (cy 1) s2 4 (fsn), wI (cy 1) h5 4 (fmp), wI (cy 1) h6 4 (fmv), wI (cy 1) n2 1681 (frw), wO k0 0 [.ref er, .ref ro, .int bo], (er, .inl (cy 4, 4, .inr (.inr (.inr (.inr (eF (ea 0) (ea 1) (ea 2) (ea 3))))))), wI (cy 1) ro 20 (fr), wO (ea 0) 2 [.ref (eg 0), .ref (ef 0), .int (et 0), .int (nI (el 0)), .int (nI (ei 0))], wI (cy 1) (eg 0) 10 (gc 0), wI (cy 1) (ef 0) 7 (xc 0), wO (ea 1) 2 [.ref (eg 1), .ref (ef 1), .int (et 1), .int (nI (el 1)), .int (nI (ei 1))], wI (cy 1) (eg 1) 10 (gc 1), wI (cy 1) (ef 1) 7 (xc 1), wO (ea 2) 2 [.ref (eg 2), .ref (ef 2), .int (et 2), .int (nI (el 2)), .int (nI (ei 2))], wI (cy 1) (eg 2) 10 (gc 2), wI (cy 1) (ef 2) 7 (xc 2), wO (ea 3) 2 [.ref (eg 3), .ref (ef 3), .int (et 3), .int (nI (el 3)), .int (nI (ei 3))], wI (cy 1) (eg 3) 10 (gc 3), wI (cy 1) (ef 3) 7 (xc 3), wI (cy 1) h3 4 (fp), wI (cy 1) h2 8 (flo), wI (cy 1) h7 48 (fx), wO h9 3 [.ref h9a, .ref h9b, .int (nI nb), .int tb], wI (cy 1) h9a 280 (fcb), wI (cy 1) h9b 31 (fsb), wO h11 3 [.ref h11a, .ref h11b, .int (nI nt), .int tt], wI (cy 1) h11a 280 (fct), wI (cy 1) h11b 31 (fst), wO h10 3 [.ref h10a, .ref h10b, .int (nI nl), .int tl], wI (cy 1) h10a 280 (fcl), wI (cy 1) h10b 31 (fsl), wO z0 7 [.ref z1, .ref z2, .int (nI zl), .int zpl, .int zvo, .int zwi, .int zch], wI (cy 1) z1 10 (fzw), wI (cy 1) z2 4 (fzn)]) (rest := []) ⟨hx, hb, hml, hown, hg, hl.1⟩ k_X11_120 (s_has2 l D cy h0 h1 h2 h3 h4 h5 h6 h7 h8 h9 h10 h11 ((.int ys)) ((.int hon)) ((.int hwi)) ((.int hdr)) ((.int hu)) fc c0 c1 c2 c3 xm (hcn) (by omega) (by omega) (by omega) (by omega)) E0_blind hK hP hD hS hA [6, 25] [0, 1, 2, 3, 4, 5, 7, 8, 9, 10, 11, 12, 13, 14, 15, 16, 17, 18, 19, 20, 21, 22, 23, 24, 26, 27, 28, 29, 30, 31, 32, 33, 34, 35, 36, 37, 38, 39, 40] ⟨rfl, rfl, by decide +kernel, by decide +kernel, by decide +kernel⟩ rfl rfl (fun _ _ _ => trivial) dX11_call_6 rfl rfl (Nat.le_of_ble_eq_true rfl) ⟨Nat.le_of_ble_eq_true rfl, Nat.le_of_ble_eq_true rfl⟩ ⟨Nat.le_of_ble_eq_true rfl, Nat.le_of_ble_eq_true rfl⟩ (fun zr5 zu5 H locs hw5 hP9 hD9 hS9 => ?_)
  clear hP hD hS
  refine reW [wO x0 11 [.ref t0, .ref d0, .ref h0, .ref o0, .ref n0, .ref u0, .ref k0, .ref q0, .ref p0, .ref s0, .ref b0, .ref z0, .ref ly, .int (nI yc)], wO n0 5 [.ref n1, .ref n2, .ref n3, .int fu, .int (nI cu), .int (nI un), .int (nI re)], wI (cy 1) n1 41 (fn), wO s0 7 [.ref s1, .ref s2, .int (nI sl), .int spl, .int svo, .int swi, .int sch], wI (cy 1) s1 10 (fw), wI (cy 1) s2 4 (fsn), wI (cy 1) h5 4 (fmp), wI (cy 1) h6 4 (fmv), wI (cy 1) n2 1681 (frw), wO k0 0 [.ref er, .ref ro, .int bo], (er, .inl (cy 4, 4, .inr (.inr (.inr (.inr (eF (ea 0) (ea 1) (ea 2) (ea 3))))))), wI (cy 1) ro 20 (fr), wO (ea 0) 2 [.ref (eg 0), .ref (ef 0), .int (et 0), .int (nI (el 0)), .int (nI (ei 0))], wI (cy 1) (eg 0) 10 (gc 0), wI (cy 1) (ef 0) 7 (xc 0), wO (ea 1) 2 [.ref (eg 1), .ref (ef 1), .int (et 1), .int (nI (el 1)), .int (nI (ei 1))], wI (cy 1) (eg 1) 10 (gc 1), wI (cy 1) (ef 1) 7 (xc 1), wO (ea 2) 2 [.ref (eg 2), .ref (ef 2), .int (et 2), .int (nI (el 2)), .int (nI (ei 2))], wI (cy 1) (eg 2) 10 (gc 2), wI (cy 1) (ef 2) 7 (xc 2), wO (ea 3) 2 [.ref (eg 3), .ref (ef 3), .int (et 3), .int (nI (el 3)), .int (nI (ei 3))], wI (cy 1) (eg 3) 10 (gc 3), wI (cy 1) (ef 3) 7 (xc 3), wI (cy 1) h3 4 (fp), wI (cy 1) h2 8 (flo), wI (cy 1) h7 48 (fx), wO h9 3 [.ref h9a, .ref h9b, .int (nI nb), .int tb], wI (cy 1) h9a 280 (fcb), wI (cy 1) h9b 31 (fsb), wO h11 3 [.ref h11a, .ref h11b, .int (nI nt), .int tt], wI (cy 1) h11a 280 (fct), wI (cy 1) h11b 31 (fst), wO h10 3 [.ref h10a, .ref h10b, .int (nI nl), .int tl], wI (cy 1) h10a 280 (fcl), wI (cy 1) h10b 31 (fsl), wO z0 7 [.ref z1, .ref z2, .int (nI zl), .int zpl, .int zvo, .int zwi, .int zch], wI (cy 1) z1 10 (fzw), wI (cy 1) z2 4 (fzn), wO h0 4 [.ref h1, .ref h2, .ref h3, .ref h4, .ref h5, .ref h6, .ref h7, .ref h8, .ref h9, .ref h10, .ref h11, .int ys, .int hon, .int hwi, .int hdr, .int hu], wI (cy 1) h1 4 (fc)] hP9 hD9 hS9 (fun hP hD hS => ?_)
  clear hP9 hD9 hS9
  refine W.widen (k := 0) (n := 0) (Nat.le_of_ble_eq_true rfl) (Nat.le_of_ble_eq_true rfl) ?_
  replace hw5 : (zr5 = 0 ∨ (zr5 = 1 ∧ ∃ j : Nat, j < c2 ∧ xm = nI j)) ∧ (zr5 = 0 → ¬ inR xm c2) := hw5
  obtain ⟨f_6, f_7⟩ := hw5
  rcases f_6 with hz_9 | ⟨hz_9, j_8, hj_8, ej_8⟩
  · subst hz_9
    refine lv_if_ne (tgt := 14) hx hb dX11_call_9 (by decide) (fun h => absurd (by decide) h) (fun _ => ?_)
    refine lv_iconst (v := -1) hx hb dX11_call_12 (by decide) ?_
    exact x_iret hQ hx hb hr hlocks hK hP hD hS dX11_call_13 (fsb, fsl, fst, cu, un, re, fn, frw, bo, fr, (fun k => [et 0, et 1, et 2, et 3].getD k 0), (fun k => [(el 0), (el 1), (el 2), (el 3)].getD k 0), (fun k => [(ei 0), (ei 1), (ei 2), (ei 3)].getD k 0), (fun k => [gc 0, gc 1, gc 2, gc 3].getD k (fun _ => 0)), (fun k => [xc 0, xc 1, xc 2, xc 3].getD k (fun _ => 0)), sl, spl, svo, swi, sch, fw, fsn) (⟨(show cu ≤ 40 from by omega), (show un + re ≤ 40 from by omega), hno, hro, get4 (by omega) (by omega) (by omega) (by omega), hrw, (show sl ≤ 10 from by omega), hsw, Or.inl ⟨⟨rfl, rfl, rfl, rfl, rfl⟩, (f_7 rfl)⟩⟩) [0, 1, 2, 3, 4, 5, 39, 6, 7, 8, 9, 10, 11, 12, 13, 14, 15, 16, 17, 18, 19, 20, 21, 22, 23, 40, 24, 25, 26, 27, 28, 29, 30, 31, 32, 33, 34, 35, 36, 37, 38] (by decide +kernel) rfl (Nat.le_of_ble_eq_true rfl) (Nat.le_of_ble_eq_true rfl)
  · subst hz_9
    subst ej_8
    refine lv_if_ne (tgt := 14) hx hb dX11_call_9 (by decide) (fun _ => ?_) (fun h => absurd h (by decide))
    refine lv_aload_n hx hb dX11_call_14 rfl (lv_at hl 0 rfl) ?_
    refine lv_iload_n hx hb dX11_call_15 rfl (lv_at hl 1 rfl) ?_
    refine x_callVv (q := (RX11, TX11, 14)) (ci := 11) (q0 := 0) (wr := [wI (cy 1) n2 1681 (frw), wO k0 0 [.ref er, .ref ro, .int bo], (er, .inl (cy 4, 4, .inr (.inr (.inr (.inr (eF (ea 0) (ea 1) (ea 2) (ea 3))))))), wI (cy 1) ro 20 (fr), wO (ea 0) 2 [.ref (eg 0), .ref (ef 0), .int (et 0), .int (nI (el 0)), .int (nI (ei 0))], wI (cy 1) (eg 0) 10 (gc 0), wI (cy 1) (ef 0) 7 (xc 0), wO (ea 1) 2 [.ref (eg 1), .ref (ef 1), .int (et 1), .int (nI (el 1)), .int (nI (ei 1))], wI (cy 1) (eg 1) 10 (gc 1), wI (cy 1) (ef 1) 7 (xc 1), wO (ea 2) 2 [.ref (eg 2), .ref (ef 2), .int (et 2), .int (nI (el 2)), .int (nI (ei 2))], wI (cy 1) (eg 2) 10 (gc 2), wI (cy 1) (ef 2) 7 (xc 2), wO (ea 3) 2 [.ref (eg 3), .ref (ef 3), .int (et 3), .int (nI (el 3)), .int (nI (ei 3))], wI (cy 1) (eg 3) 10 (gc 3), wI (cy 1) (ef 3) 7 (xc 3), wI (cy 1) h3 4 (fp), wI (cy 1) h2 8 (flo), wI (cy 1) h7 48 (fx), wO h9 3 [.ref h9a, .ref h9b, .int (nI nb), .int tb], wI (cy 1) h9a 280 (fcb), wI (cy 1) h9b 31 (fsb), wO h11 3 [.ref h11a, .ref h11b, .int (nI nt), .int tt], wI (cy 1) h11a 280 (fct), wI (cy 1) h11b 31 (fst), wO h10 3 [.ref h10a, .ref h10b, .int (nI nl), .int tl], wI (cy 1) h10a 280 (fcl), wI (cy 1) h10b 31 (fsl), wO z0 7 [.ref z1, .ref z2, .int (nI zl), .int zpl, .int zvo, .int zwi, .int zch], wI (cy 1) z1 10 (fzw), wI (cy 1) z2 4 (fzn), wI (cy 1) h1 4 (fc)]) (rest := []) ⟨hx, hb, hml, hown, hg, hl.1⟩ k_X11_161 (s_xprepare l D cy x0 t0 d0 h0 h1 h2 h3 h4 h5 h6 h7 h8 h9 h10 h11 o0 n0 n1 n2 n3 u0 k0 q0 p0 s0 s1 s2 b0 z0 ly ys hon hwi hdr hu fmp fmv fu cu un re fn sl spl svo swi sch fw fsn yc j_8 (by omega) (by omega) (hno) (by omega) (hsw) (by omega) (by omega)) E0_blind hK hP hD hS hA [0, 1, 2, 3, 4, 5, 39, 6, 7] [8, 9, 10, 11, 12, 13, 14, 15, 16, 17, 18, 19, 20, 21, 22, 23, 24, 25, 26, 27, 28, 29, 30, 31, 32, 33, 34, 35, 36, 37, 38, 40] ⟨rfl, rfl, by decide +kernel, by decide +kernel, by decide +kernel⟩ rfl rfl (fun _ _ _ => trivial) dX11_call_16 rfl rfl (Nat.le_of_ble_eq_true rfl) ⟨Nat.le_of_ble_eq_true rfl, Nat.le_of_ble_eq_true rfl⟩ ⟨Nat.le_of_ble_eq_true rfl, Nat.le_of_ble_eq_true rfl⟩ (fun zu10 H locs hw10 hP9 hD9 hS9 => ?_)
    clear hP hD hS
    obtain ⟨sl2_11, spl2_12, svo2_13, swi2_14, sch2_15, fw2_16, fsn2_17⟩ := zu10
    refine reW [wI (cy 1) n2 1681 (frw), wO k0 0 [.ref er, .ref ro, .int bo], (er, .inl (cy 4, 4, .inr (.inr (.inr (.inr (eF (ea 0) (ea 1) (ea 2) (ea 3))))))), wI (cy 1) ro 20 (fr), wO (ea 0) 2 [.ref (eg 0), .ref (ef 0), .int (et 0), .int (nI (el 0)), .int (nI (ei 0))], wI (cy 1) (eg 0) 10 (gc 0), wI (cy 1) (ef 0) 7 (xc 0), wO (ea 1) 2 [.ref (eg 1), .ref (ef 1), .int (et 1), .int (nI (el 1)), .int (nI (ei 1))], wI (cy 1) (eg 1) 10 (gc 1), wI (cy 1) (ef 1) 7 (xc 1), wO (ea 2) 2 [.ref (eg 2), .ref (ef 2), .int (et 2), .int (nI (el 2)), .int (nI (ei 2))], wI (cy 1) (eg 2) 10 (gc 2), wI (cy 1) (ef 2) 7 (xc 2), wO (ea 3) 2 [.ref (eg 3), .ref (ef 3), .int (et 3), .int (nI (el 3)), .int (nI (ei 3))], wI (cy 1) (eg 3) 10 (gc 3), wI (cy 1) (ef 3) 7 (xc 3), wI (cy 1) h3 4 (fp), wI (cy 1) h2 8 (flo), wI (cy 1) h7 48 (fx), wO h9 3 [.ref h9a, .ref h9b, .int (nI nb), .int tb], wI (cy 1) h9a 280 (fcb), wI (cy 1) h9b 31 (fsb), wO h11 3 [.ref h11a, .ref h11b, .int (nI nt), .int tt], wI (cy 1) h11a 280 (fct), wI (cy 1) h11b 31 (fst), wO h10 3 [.ref h10a, .ref h10b, .int (nI nl), .int tl], wI (cy 1) h10a 280 (fcl), wI (cy 1) h10b 31 (fsl), wO z0 7 [.ref z1, .ref z2, .int (nI zl), .int zpl, .int zvo, .int zwi, .int zch], wI (cy 1) z1 10 (fzw), wI (cy 1) z2 4 (fzn), wI (cy 1) h1 4 (fc), wO x0 11 [.ref t0, .ref d0, .ref h0, .ref o0, .ref n0, .ref u0, .ref k0, .ref q0, .ref p0, .ref s0, .ref b0, .ref z0, .ref ly, .int (nI yc)], wO n0 5 [.ref n1, .ref n2, .ref n3, .int fu, .int (nI cu), .int (nI un), .int (nI re)], wI (cy 1) n1 41 (fn), wO s0 7 [.ref s1, .ref s2, .int (nI sl2_11), .int spl2_12, .int svo2_13, .int swi2_14, .int sch2_15], wI (cy 1) s1 10 (fw2_16), wI (cy 1) s2 4 (fsn2_17), wO h0 4 [.ref h1, .ref h2, .ref h3, .ref h4, .ref h5, .ref h6, .ref h7, .ref h8, .ref h9, .ref h10, .ref h11, .int ys, .int hon, .int hwi, .int hdr, .int hu], wI (cy 1) h5 4 (fmp), wI (cy 1) h6 4 (fmv)] hP9 hD9 hS9 (fun hP hD hS => ?_)
    clear hP9 hD9 hS9
    refine W.widen (k := 0) (n := 0) (Nat.le_of_ble_eq_true rfl) (Nat.le_of_ble_eq_true rfl) ?_
    replace hw10 : (sl2_11 ≤ 10) ∧ (rng fw2_16 10 7) := hw10
    obtain ⟨f_18, f_19⟩ := hw10
    refine lv_aload_n hx hb dX11_call_19 rfl (lv_at hl 0 rfl) ?_
    refine va_get (D := D) (ci := 11) (v := .ref k0) (C := RX11) (T := TX11) (N := 14) hx hb hg i_X11 hown hK hP 32 rfl rfl 6 (by decide) (hg _ m_664) (fun _ h9 => h9) rfl dX11_call_20 ?_
    refine lv_aload_n hx hb dX11_call_23 rfl (lv_at hl 0 rfl) ?_
    refine va_get (D := D) (ci := 11) (v := .ref h0) (C := RX11) (T := TX11) (N := 14) hx hb hg i_X11 hown hK hP 32 rfl rfl 2 (by decide) (hg _ m_660) (fun _ h9 => h9) rfl dX11_call_24 ?_
    refine lv_aload_n hx hb dX11_call_27 rfl (lv_at hl 0 rfl) ?_
    refine va_get (D := D) (ci := 11) (v := .ref s0) (C := RX11) (T := TX11) (N := 14) hx hb hg i_X11 hown hK hP 32 rfl rfl 9 (by decide) (hg _ m_667) (fun _ h9 => h9) rfl dX11_call_28 ?_
    refine lv_aload_n hx hb dX11_call_31 rfl (lv_at hl 0 rfl) ?_
    refine va_get (D := D) (ci := 11) (v := .ref z0) (C := RX11) (T := TX11) (N := 14) hx hb hg i_X11 hown hK hP 32 rfl rfl 11 (by decide) (hg _ m_669) (fun _ h9 => h9) rfl dX11_call_32 ?_
    refine x_callVi (q := (RX0, TX0, 3)) (ci := 0) (q0 := 0) (wr := [wI (cy 1) n2 1681 (frw), wO x0 11 [.ref t0, .ref d0, .ref h0, .ref o0, .ref n0, .ref u0, .ref k0, .ref q0, .ref p0, .ref s0, .ref b0, .ref z0, .ref ly, .int (nI yc)], wO n0 5 [.ref n1, .ref n2, .ref n3, .int fu, .int (nI cu), .int (nI un), .int (nI re)], wI (cy 1) n1 41 (fn), wI (cy 1) h5 4 (fmp), wI (cy 1) h6 4 (fmv)]) (rest := []) ⟨hx, hb, hml, hown, hg, hl.1⟩ k_X11_164 (s_verdict l D cy k0 ro bo fr er ea eg ef et el ei gc xc h0 h1 h2 h3 h4 h5 h6 h7 h8 h9 h10 h11 ((.int hon)) ((.int hwi)) ((.int hdr)) ((.int hu)) ys fp flo fx fc c0 c1 c2 c3 h9a h9b nb tb fcb fsb h11a h11b nt tt fct fst h10a h10b nl tl fcl fsl s0 s1 s2 sl2_11 spl2_12 svo2_13 swi2_14 sch2_15 fw2_16 fsn2_17 z0 z1 z2 zl zpl zvo zwi zch fzw fzn (fun i9 h9 => by rcases (show i9 = 0 ∨ i9 = 1 ∨ i9 = 2 ∨ i9 = 3 by omega) with rfl | rfl | rfl | rfl <;> omega) (hrw) (hcn) (by omega) (by omega) (by omega) (by omega) (hnx) (by omega) (hcb) (by omega) (hct) (by omega) (hcl) (by omega) (f_19) (by omega) (hzw)) E0_blind hK hP hD hS hA [1, 2, 3, 4, 5, 6, 7, 8, 9, 10, 11, 12, 13, 14, 15, 38, 31, 16, 17, 18, 19, 20, 21, 22, 23, 24, 25, 26, 27, 35, 36, 37, 28, 29, 30] [0, 32, 33, 34, 39, 40] ⟨rfl, rfl, by decide +kernel, by decide +kernel, by decide +kernel⟩ rfl rfl (fun _ _ _ => trivial) dX11_call_35 rfl rfl (Nat.le_of_ble_eq_true rfl) ⟨Nat.le_of_ble_eq_true rfl, Nat.le_of_ble_eq_true rfl⟩ ⟨Nat.le_of_ble_eq_true rfl, Nat.le_of_ble_eq_true rfl⟩ (fun zr20 zu20 H locs hw20 hP9 hD9 hS9 => ?_)
    clear hP hD hS
    obtain ⟨bo2_21, et2_22, el2_23, ei2_24, gc2_25, xc2_26, fsb2_27, fst2_28, fsl2_29, fr2_30, vd2_31⟩ := zu20
    refine reW [wI (cy 1) n2 1681 (frw), wO x0 11 [.ref t0, .ref d0, .ref h0, .ref o0, .ref n0, .ref u0, .ref k0, .ref q0, .ref p0, .ref s0, .ref b0, .ref z0, .ref ly, .int (nI yc)], wO n0 5 [.ref n1, .ref n2, .ref n3, .int fu, .int (nI cu), .int (nI un), .int (nI re)], wI (cy 1) n1 41 (fn), wI (cy 1) h5 4 (fmp), wI (cy 1) h6 4 (fmv), wO k0 0 [.ref er, .ref ro, .int bo2_21], (er, .inl (cy 4, 4, .inr (.inr (.inr (.inr (eF (ea 0) (ea 1) (ea 2) (ea 3))))))), wI (cy 1) ro 20 (fr2_30), wO (ea 0) 2 [.ref (eg 0), .ref (ef 0), .int (et2_22 0), .int (nI (el2_23 0)), .int (nI (ei2_24 0))], wI (cy 1) (eg 0) 10 (gc2_25 0), wI (cy 1) (ef 0) 7 (xc2_26 0), wO (ea 1) 2 [.ref (eg 1), .ref (ef 1), .int (et2_22 1), .int (nI (el2_23 1)), .int (nI (ei2_24 1))], wI (cy 1) (eg 1) 10 (gc2_25 1), wI (cy 1) (ef 1) 7 (xc2_26 1), wO (ea 2) 2 [.ref (eg 2), .ref (ef 2), .int (et2_22 2), .int (nI (el2_23 2)), .int (nI (ei2_24 2))], wI (cy 1) (eg 2) 10 (gc2_25 2), wI (cy 1) (ef 2) 7 (xc2_26 2), wO (ea 3) 2 [.ref (eg 3), .ref (ef 3), .int (et2_22 3), .int (nI (el2_23 3)), .int (nI (ei2_24 3))], wI (cy 1) (eg 3) 10 (gc2_25 3), wI (cy 1) (ef 3) 7 (xc2_26 3), wO h0 4 [.ref h1, .ref h2, .ref h3, .ref h4, .ref h5, .ref h6, .ref h7, .ref h8, .ref h9, .ref h10, .ref h11, .int ys, .int hon, .int hwi, .int hdr, .int hu], wI (cy 1) h1 4 (fc), wI (cy 1) h3 4 (fp), wI (cy 1) h2 8 (flo), wI (cy 1) h7 48 (fx), wO h9 3 [.ref h9a, .ref h9b, .int (nI nb), .int tb], wI (cy 1) h9a 280 (fcb), wI (cy 1) h9b 31 (fsb2_27), wO h11 3 [.ref h11a, .ref h11b, .int (nI nt), .int tt], wI (cy 1) h11a 280 (fct), wI (cy 1) h11b 31 (fst2_28), wO h10 3 [.ref h10a, .ref h10b, .int (nI nl), .int tl], wI (cy 1) h10a 280 (fcl), wI (cy 1) h10b 31 (fsl2_29), wO s0 7 [.ref s1, .ref s2, .int (nI sl2_11), .int spl2_12, .int svo2_13, .int swi2_14, .int sch2_15], wI (cy 1) s1 10 (fw2_16), wI (cy 1) s2 4 (fsn2_17), wO z0 7 [.ref z1, .ref z2, .int (nI zl), .int zpl, .int zvo, .int zwi, .int zch], wI (cy 1) z1 10 (fzw), wI (cy 1) z2 4 (fzn)] hP9 hD9 hS9 (fun hP hD hS => ?_)
    clear hP9 hD9 hS9
    refine W.widen (k := 0) (n := 0) (Nat.le_of_ble_eq_true rfl) (Nat.le_of_ble_eq_true rfl) ?_
    replace hw20 : (zr20 = nI vd2_31) ∧ (vd2_31 ≤ 2) ∧ (bo2_21 = -1 ∨ ∃ j9 : Nat, j9 < 4 ∧ bo2_21 = nI j9) ∧ (rng fr2_30 20 7) ∧ (∀ i9, i9 < 4 → el2_23 i9 ≤ 10) := hw20
    obtain ⟨f_32, f_33, f_34, f_35, f_36⟩ := hw20
    subst f_32
    have hk_37 := f_36 0 (by decide)
    have hk_38 := f_36 1 (by decide)
    have hk_39 := f_36 2 (by decide)
    have hk_40 := f_36 3 (by decide)
    refine lv_istore_n (lv' := [(2, .int (nI vd2_31)), (0, .ref x0), (1, .int (nI j_8))]) hx hb dX11_call_38 rfl hl (by decide) rfl (fun ls hl => ?_)
    refine lv_aload_n hx hb dX11_call_39 rfl (lv_at hl 1 rfl) ?_
    refine va_get (D := D) (ci := 11) (v := .ref n0) (C := RX11) (T := TX11) (N := 14) hx hb hg i_X11 hown hK hP 1 rfl rfl 4 (by decide) (hg _ m_662) (fun _ h9 => h9) rfl dX11_call_40 ?_
    refine lv_iload_n hx hb dX11_call_43 rfl (lv_at hl 2 rfl) ?_
    refine lv_iload_n hx hb dX11_call_44 rfl (lv_at hl 0 rfl) ?_
    refine x_callVv (q := (RX5, TX5, 7)) (ci := 5) (q0 := 0) (wr := [wO x0 11 [.ref t0, .ref d0, .ref h0, .ref o0, .ref n0, .ref u0, .ref k0, .ref q0, .ref p0, .ref s0, .ref b0, .ref z0, .ref ly, .int (nI yc)], wI (cy 1) h5 4 (fmp), wI (cy 1) h6 4 (fmv), wO k0 0 [.ref er, .ref ro, .int bo2_21], (er, .inl (cy 4, 4, .inr (.inr (.inr (.inr (eF (ea 0) (ea 1) (ea 2) (ea 3))))))), wI (cy 1) ro 20 (fr2_30), wO (ea 0) 2 [.ref (eg 0), .ref (ef 0), .int (et2_22 0), .int (nI (el2_23 0)), .int (nI (ei2_24 0))], wI (cy 1) (eg 0) 10 (gc2_25 0), wI (cy 1) (ef 0) 7 (xc2_26 0), wO (ea 1) 2 [.ref (eg 1), .ref (ef 1), .int (et2_22 1), .int (nI (el2_23 1)), .int (nI (ei2_24 1))], wI (cy 1) (eg 1) 10 (gc2_25 1), wI (cy 1) (ef 1) 7 (xc2_26 1), wO (ea 2) 2 [.ref (eg 2), .ref (ef 2), .int (et2_22 2), .int (nI (el2_23 2)), .int (nI (ei2_24 2))], wI (cy 1) (eg 2) 10 (gc2_25 2), wI (cy 1) (ef 2) 7 (xc2_26 2), wO (ea 3) 2 [.ref (eg 3), .ref (ef 3), .int (et2_22 3), .int (nI (el2_23 3)), .int (nI (ei2_24 3))], wI (cy 1) (eg 3) 10 (gc2_25 3), wI (cy 1) (ef 3) 7 (xc2_26 3), wO h0 4 [.ref h1, .ref h2, .ref h3, .ref h4, .ref h5, .ref h6, .ref h7, .ref h8, .ref h9, .ref h10, .ref h11, .int ys, .int hon, .int hwi, .int hdr, .int hu], wI (cy 1) h1 4 (fc), wI (cy 1) h3 4 (fp), wI (cy 1) h2 8 (flo), wI (cy 1) h7 48 (fx), wO h9 3 [.ref h9a, .ref h9b, .int (nI nb), .int tb], wI (cy 1) h9a 280 (fcb), wI (cy 1) h9b 31 (fsb2_27), wO h11 3 [.ref h11a, .ref h11b, .int (nI nt), .int tt], wI (cy 1) h11a 280 (fct), wI (cy 1) h11b 31 (fst2_28), wO h10 3 [.ref h10a, .ref h10b, .int (nI nl), .int tl], wI (cy 1) h10a 280 (fcl), wI (cy 1) h10b 31 (fsl2_29), wO s0 7 [.ref s1, .ref s2, .int (nI sl2_11), .int spl2_12, .int svo2_13, .int swi2_14, .int sch2_15], wI (cy 1) s1 10 (fw2_16), wI (cy 1) s2 4 (fsn2_17), wO z0 7 [.ref z1, .ref z2, .int (nI zl), .int zpl, .int zvo, .int zwi, .int zch], wI (cy 1) z1 10 (fzw), wI (cy 1) z2 4 (fzn)]) (rest := []) ⟨hx, hb, hml, hown, hg, hl.1⟩ k_X11_168 (s_countVerdict l D cy n0 n1 n2 n3 fu cu un re fn frw j_8 vd2_31 (by omega) (by omega) (hno) (hro) (by omega) (by omega)) E0_blind hK hP hD hS hA [2, 3, 0] [1, 4, 5, 6, 7, 8, 9, 10, 11, 12, 13, 14, 15, 16, 17, 18, 19, 20, 21, 22, 23, 24, 25, 26, 27, 28, 29, 30, 31, 32, 33, 34, 35, 36, 37, 38, 39, 40] ⟨rfl, rfl, by decide +kernel, by decide +kernel, by decide +kernel⟩ rfl rfl (fun _ _ _ => trivial) dX11_call_45 rfl rfl (Nat.le_of_ble_eq_true rfl) ⟨Nat.le_of_ble_eq_true rfl, Nat.le_of_ble_eq_true rfl⟩ ⟨Nat.le_of_ble_eq_true rfl, Nat.le_of_ble_eq_true rfl⟩ (fun zu41 H locs hw41 hP9 hD9 hS9 => ?_)
    clear hP hD hS
    obtain ⟨cu2_42, un2_43, re2_44, fq2_45, fn2_46⟩ := zu41
    refine reW [wO x0 11 [.ref t0, .ref d0, .ref h0, .ref o0, .ref n0, .ref u0, .ref k0, .ref q0, .ref p0, .ref s0, .ref b0, .ref z0, .ref ly, .int (nI yc)], wI (cy 1) h5 4 (fmp), wI (cy 1) h6 4 (fmv), wO k0 0 [.ref er, .ref ro, .int bo2_21], (er, .inl (cy 4, 4, .inr (.inr (.inr (.inr (eF (ea 0) (ea 1) (ea 2) (ea 3))))))), wI (cy 1) ro 20 (fr2_30), wO (ea 0) 2 [.ref (eg 0), .ref (ef 0), .int (et2_22 0), .int (nI (el2_23 0)), .int (nI (ei2_24 0))], wI (cy 1) (eg 0) 10 (gc2_25 0), wI (cy 1) (ef 0) 7 (xc2_26 0), wO (ea 1) 2 [.ref (eg 1), .ref (ef 1), .int (et2_22 1), .int (nI (el2_23 1)), .int (nI (ei2_24 1))], wI (cy 1) (eg 1) 10 (gc2_25 1), wI (cy 1) (ef 1) 7 (xc2_26 1), wO (ea 2) 2 [.ref (eg 2), .ref (ef 2), .int (et2_22 2), .int (nI (el2_23 2)), .int (nI (ei2_24 2))], wI (cy 1) (eg 2) 10 (gc2_25 2), wI (cy 1) (ef 2) 7 (xc2_26 2), wO (ea 3) 2 [.ref (eg 3), .ref (ef 3), .int (et2_22 3), .int (nI (el2_23 3)), .int (nI (ei2_24 3))], wI (cy 1) (eg 3) 10 (gc2_25 3), wI (cy 1) (ef 3) 7 (xc2_26 3), wO h0 4 [.ref h1, .ref h2, .ref h3, .ref h4, .ref h5, .ref h6, .ref h7, .ref h8, .ref h9, .ref h10, .ref h11, .int ys, .int hon, .int hwi, .int hdr, .int hu], wI (cy 1) h1 4 (fc), wI (cy 1) h3 4 (fp), wI (cy 1) h2 8 (flo), wI (cy 1) h7 48 (fx), wO h9 3 [.ref h9a, .ref h9b, .int (nI nb), .int tb], wI (cy 1) h9a 280 (fcb), wI (cy 1) h9b 31 (fsb2_27), wO h11 3 [.ref h11a, .ref h11b, .int (nI nt), .int tt], wI (cy 1) h11a 280 (fct), wI (cy 1) h11b 31 (fst2_28), wO h10 3 [.ref h10a, .ref h10b, .int (nI nl), .int tl], wI (cy 1) h10a 280 (fcl), wI (cy 1) h10b 31 (fsl2_29), wO s0 7 [.ref s1, .ref s2, .int (nI sl2_11), .int spl2_12, .int svo2_13, .int swi2_14, .int sch2_15], wI (cy 1) s1 10 (fw2_16), wI (cy 1) s2 4 (fsn2_17), wO z0 7 [.ref z1, .ref z2, .int (nI zl), .int zpl, .int zvo, .int zwi, .int zch], wI (cy 1) z1 10 (fzw), wI (cy 1) z2 4 (fzn), wO n0 5 [.ref n1, .ref n2, .ref n3, .int fu, .int (nI cu2_42), .int (nI un2_43), .int (nI re2_44)], wI (cy 1) n1 41 (fn2_46), wI (cy 1) n2 1681 (fq2_45)] hP9 hD9 hS9 (fun hP hD hS => ?_)
    clear hP9 hD9 hS9
    refine W.widen (k := 0) (n := 0) (Nat.le_of_ble_eq_true rfl) (Nat.le_of_ble_eq_true rfl) ?_
    replace hw41 : (cu2_42 ≤ 40) ∧ (un2_43 + re2_44 ≤ 40) ∧ (mRows fq2_45 41) ∧ (mRows fn2_46 1) ∧ (actC fn2_46 frw cu un fq2_45 cu2_42 un2_43 re2_44) ∧ (∃ x9 : Int32, fn2_46 = upd fn (29 + 3 * j_8 + vd2_31) x9) := hw41
    obtain ⟨f_47, f_48, f_49, f_50, f_51, f_52⟩ := hw41
    refine lv_iload_n hx hb dX11_call_48 rfl (lv_at hl 0 rfl) ?_
    exact x_iret hQ hx hb hr hlocks hK hP hD hS dX11_call_49 (fsb2_27, fsl2_29, fst2_28, cu2_42, un2_43, re2_44, fn2_46, fq2_45, bo2_21, fr2_30, (fun k => [et2_22 0, et2_22 1, et2_22 2, et2_22 3].getD k 0), (fun k => [(el2_23 0), (el2_23 1), (el2_23 2), (el2_23 3)].getD k 0), (fun k => [(ei2_24 0), (ei2_24 1), (ei2_24 2), (ei2_24 3)].getD k 0), (fun k => [gc2_25 0, gc2_25 1, gc2_25 2, gc2_25 3].getD k (fun _ => 0)), (fun k => [xc2_26 0, xc2_26 1, xc2_26 2, xc2_26 3].getD k (fun _ => 0)), sl2_11, spl2_12, svo2_13, swi2_14, sch2_15, fw2_16, fsn2_17) (⟨(show cu2_42 ≤ 40 from by omega), (show un2_43 + re2_44 ≤ 40 from by omega), f_50, f_49, get4 (by omega) (by omega) (by omega) (by omega), f_35, (show sl2_11 ≤ 10 from by omega), f_19, Or.inr ⟨⟨j_8, hj_8, rfl⟩, f_52.elim (fun x9 h9 => ⟨_, x9, by omega, by omega, h9⟩), f_51⟩⟩) [0, 38, 39, 32, 33, 34, 18, 1, 2, 40, 3, 4, 5, 6, 7, 8, 9, 10, 11, 12, 13, 14, 15, 16, 17, 19, 20, 21, 22, 23, 24, 25, 26, 27, 28, 29, 30, 31, 35, 36, 37] (by decide +kernel) rfl (Nat.le_of_ble_eq_true rfl) (Nat.le_of_ble_eq_true rfl)
theorem gdX11_noon_0 : decode cX11_noon 0 = .ok (.aload_n 0, 1) ∧ decode cX11_noon 1 = .ok (.getfield 38, 3) ∧ decode cX11_noon 4 = .ok (.getfield 127, 3) ∧ decode cX11_noon 7 = .ok (.bipush 24, 2) ∧ decode cX11_noon 9 = .ok (.iaload, 1) ∧ decode cX11_noon 10 = .ok (.sipush 999, 3) ∧ decode cX11_noon 13 = .ok (.if_icmp .lt 5, 3) ∧ decode cX11_noon 18 = .ok (.aload_n 0, 1) ∧ decode cX11_noon 19 = .ok (.getfield 38, 3) ∧ decode cX11_noon 22 = .ok (.aload_n 0, 1) ∧ decode cX11_noon 23 = .ok (.getfield 28, 3) ∧ decode cX11_noon 26 = .ok (.getfield 111, 3) := by decide +kernel
theorem dX11_noon_0 : decode cX11_noon 0 = .ok (.aload_n 0, 1) := gdX11_noon_0.1
theorem dX11_noon_1 : decode cX11_noon 1 = .ok (.getfield 38, 3) := gdX11_noon_0.2.1
theorem dX11_noon_4 : decode cX11_noon 4 = .ok (.getfield 127, 3) := gdX11_noon_0.2.2.1
theorem dX11_noon_7 : decode cX11_noon 7 = .ok (.bipush 24, 2) := gdX11_noon_0.2.2.2.1
theorem dX11_noon_9 : decode cX11_noon 9 = .ok (.iaload, 1) := gdX11_noon_0.2.2.2.2.1
theorem dX11_noon_10 : decode cX11_noon 10 = .ok (.sipush 999, 3) := gdX11_noon_0.2.2.2.2.2.1
theorem dX11_noon_13 : decode cX11_noon 13 = .ok (.if_icmp .lt 5, 3) := gdX11_noon_0.2.2.2.2.2.2.1
theorem dX11_noon_18 : decode cX11_noon 18 = .ok (.aload_n 0, 1) := gdX11_noon_0.2.2.2.2.2.2.2.1
theorem dX11_noon_19 : decode cX11_noon 19 = .ok (.getfield 38, 3) := gdX11_noon_0.2.2.2.2.2.2.2.2.1
theorem dX11_noon_22 : decode cX11_noon 22 = .ok (.aload_n 0, 1) := gdX11_noon_0.2.2.2.2.2.2.2.2.2.1
theorem dX11_noon_23 : decode cX11_noon 23 = .ok (.getfield 28, 3) := gdX11_noon_0.2.2.2.2.2.2.2.2.2.2.1
theorem dX11_noon_26 : decode cX11_noon 26 = .ok (.getfield 111, 3) := gdX11_noon_0.2.2.2.2.2.2.2.2.2.2.2
theorem gdX11_noon_29 : decode cX11_noon 29 = .ok (.iconst 1, 1) ∧ decode cX11_noon 30 = .ok (.iaload, 1) ∧ decode cX11_noon 31 = .ok (.invokevirtual 171, 3) := by decide +kernel
theorem dX11_noon_29 : decode cX11_noon 29 = .ok (.iconst 1, 1) := gdX11_noon_29.1
theorem dX11_noon_30 : decode cX11_noon 30 = .ok (.iaload, 1) := gdX11_noon_29.2.1
theorem dX11_noon_31 : decode cX11_noon 31 = .ok (.invokevirtual 171, 3) := gdX11_noon_29.2.2
theorem k_X11_171 : xV RX11 RX5 171 yX5_passNoon cX5_passNoon 4 none 1 := ⟨⟨m_1088, m_1089, m_1090, m_139, m_1091⟩, rfl, by decide, by decide, by decide +kernel⟩
theorem gdX11_noon_34 : decode cX11_noon 34 = .ok (.aload_n 0, 1) ∧ decode cX11_noon 35 = .ok (.getfield 38, 3) ∧ decode cX11_noon 38 = .ok (.getfield 127, 3) ∧ decode cX11_noon 41 = .ok (.bipush 22, 2) ∧ decode cX11_noon 43 = .ok (.iaload, 1) ∧ decode cX11_noon 44 = .ok (.ireturn, 1) ∧ decode cX11_noon 16 = .ok (.iconst (-1), 1) ∧ decode cX11_noon 17 = .ok (.ireturn, 1) := by decide +kernel
theorem dX11_noon_34 : decode cX11_noon 34 = .ok (.aload_n 0, 1) := gdX11_noon_34.1
theorem dX11_noon_35 : decode cX11_noon 35 = .ok (.getfield 38, 3) := gdX11_noon_34.2.1
theorem dX11_noon_38 : decode cX11_noon 38 = .ok (.getfield 127, 3) := gdX11_noon_34.2.2.1
theorem dX11_noon_41 : decode cX11_noon 41 = .ok (.bipush 22, 2) := gdX11_noon_34.2.2.2.1
theorem dX11_noon_43 : decode cX11_noon 43 = .ok (.iaload, 1) := gdX11_noon_34.2.2.2.2.1
theorem dX11_noon_44 : decode cX11_noon 44 = .ok (.ireturn, 1) := gdX11_noon_34.2.2.2.2.2.1
theorem dX11_noon_16 : decode cX11_noon 16 = .ok (.iconst (-1), 1) := gdX11_noon_34.2.2.2.2.2.2.1
theorem dX11_noon_17 : decode cX11_noon 17 = .ok (.ireturn, 1) := gdX11_noon_34.2.2.2.2.2.2.2
set_option maxHeartbeats 1000000 in
set_option maxRecDepth 100000 in
theorem s_xnoon (l : Launch) (D : va_G) (cy : Nat → ClassId) (x0 : Nat) (t0 : Nat) (d0 : Nat) (h0 : Nat) (h1 : Nat) (h2 : Nat) (h3 : Nat) (h4 : Nat) (h5 : Nat) (h6 : Nat) (h7 : Nat) (h8 : Nat) (h9 : Nat) (h10 : Nat) (h11 : Nat) (o0 : Nat) (n0 : Nat) (n1 : Nat) (n2 : Nat) (n3 : Nat) (u0 : Nat) (k0 : Nat) (q0 : Nat) (p0 : Nat) (s0 : Nat) (b0 : Nat) (z0 : Nat) (ly : Nat) (ys : Int32) (hon : Int32) (hwi : Int32) (hdr : Int32) (hu : Int32) (fc : Nat → Int32) (c0 : Nat) (c1 : Nat) (c2 : Nat) (c3 : Nat) (fu : Int32) (cu : Nat) (un : Nat) (re : Nat) (fn : Nat → Int32) (frw : Nat → Int32) (yc : Nat) (hcn : cntOK fc c0 c1 c2 c3) (hc0 : c0 ≤ 8) (hc1 : c1 ≤ 4) (hc2 : c2 ≤ 4) (hc3 : c3 ≤ 6) (hcu : cu ≤ 40) (hur : un + re ≤ 40) (hno : mRows fn 1) (hro : mRows frw 41) (hyc : yc ≤ 10) : XMi l D (tyL cy) E0 yX11_noon cX11_noon 1 (some .int) (rmk 3 0 0) [.ref x0] [wO x0 11 [.ref t0, .ref d0, .ref h0, .ref o0, .ref n0, .ref u0, .ref k0, .ref q0, .ref p0, .ref s0, .ref b0, .ref z0, .ref ly, .int (nI yc)], wO h0 4 [.ref h1, .ref h2, .ref h3, .ref h4, .ref h5, .ref h6, .ref h7, .ref h8, .ref h9, .ref h10, .ref h11, .int ys, .int hon, .int hwi, .int hdr, .int hu], wI (cy 1) h1 4 (fc), wO n0 5 [.ref n1, .ref n2, .ref n3, .int fu, .int (nI cu), .int (nI un), .int (nI re)], wI (cy 1) n1 41 (fn), wI (cy 1) n2 1681 (frw)] (fun (r : Int32) (u : Nat × Nat × Nat × (Nat → Int32) × (Nat → Int32)) => (u.1 ≤ 40) ∧ (u.2.1 + u.2.2.1 ≤ 40) ∧ (mRows u.2.2.2.1 1) ∧ (mRows u.2.2.2.2 41) ∧ (noC c1 fn frw cu un re r u.2.2.2.1 u.2.2.2.2 u.1 u.2.1 u.2.2.1)) (fun (u : Nat × Nat × Nat × (Nat → Int32) × (Nat → Int32)) => [wO x0 11 [.ref t0, .ref d0, .ref h0, .ref o0, .ref n0, .ref u0, .ref k0, .ref q0, .ref p0, .ref s0, .ref b0, .ref z0, .ref ly, .int (nI yc)], wO h0 4 [.ref h1, .ref h2, .ref h3, .ref h4, .ref h5, .ref h6, .ref h7, .ref h8, .ref h9, .ref h10, .ref h11, .int ys, .int hon, .int hwi, .int hdr, .int hu], wI (cy 1) h1 4 (fc), wO n0 5 [.ref n1, .ref n2, .ref n3, .int fu, .int (nI u.1), .int (nI u.2.1), .int (nI u.2.2.1)], wI (cy 1) n1 41 (u.2.2.2.1), wI (cy 1) n2 1681 (u.2.2.2.2)]) := by
  refine XMi.start (by decide) (Nat.le_of_ble_eq_true rfl) ?_
  intro p e s m below meth c args A ls Q hat hQ
  obtain ⟨hx, hb, hr, hml, hown, hg, hlocks, hin, hK, hA, hP, hD, hS, hE, hl⟩ := hat
  have hown : s.vm.findClass RX11 = some m.cls := hown
  have hl : lv_has ls 1 [(0, .ref x0)] := hl
  refine lv_aload_n hx hb dX11_noon_0 rfl (lv_at hl 0 rfl) ?_
  refine va_get (D := D) (ci := 11) (v := .ref n0) (C := RX11) (T := TX11) (N := 14) hx hb hg i_X11 hown hK hP 0 rfl rfl 4 (by decide) (hg _ m_662) (fun _ h9 => h9) rfl dX11_noon_1 ?_
  refine va_get (D := D) (ci := 5) (v := .ref n1) (C := RX5) (T := TX5) (N := 7) hx hb hg i_X5 hown hK hP 3 rfl rfl 0 (by decide) (hg _ m_424) (fun _ h9 => h9) rfl dX11_noon_4 ?_
  refine lv_bipush (v := 24) hx hb dX11_noon_7 (by decide) ?_
  refine va_iald hx hb hK hP 4 1 rfl rfl (by unfold vp_in; decide) dX11_noon_9 ?_
  refine lv_topi (fun x_1 ex_1 => ?_)
  refine lv_sipush (v := 999) hx hb dX11_noon_10 (by decide) ?_
  refine lv_icmp_lt (tgt := 18) hx hb dX11_noon_13 (by decide) (fun c_13 => ?_) (fun c_13 => ?_)
  · refine lv_aload_n hx hb dX11_noon_18 rfl (lv_at hl 0 rfl) ?_
    refine va_get (D := D) (ci := 11) (v := .ref n0) (C := RX11) (T := TX11) (N := 14) hx hb hg i_X11 hown hK hP 0 rfl rfl 4 (by decide) (hg _ m_662) (fun _ h9 => h9) rfl dX11_noon_19 ?_
    refine lv_aload_n hx hb dX11_noon_22 rfl (lv_at hl 0 rfl) ?_
    refine va_get (D := D) (ci := 11) (v := .ref h0) (C := RX11) (T := TX11) (N := 14) hx hb hg i_X11 hown hK hP 0 rfl rfl 2 (by decide) (hg _ m_660) (fun _ h9 => h9) rfl dX11_noon_23 ?_
    refine va_get (D := D) (ci := 4) (v := .ref h1) (C := RX4) (T := TX4) (N := 16) hx hb hg i_X4 hown hK hP 1 rfl rfl 0 (by decide) (hg _ m_335) (fun _ h9 => h9) rfl dX11_noon_26 ?_
    refine lv_iconst (v := 1) hx hb dX11_noon_29 (by decide) ?_
    refine va_iald hx hb hK hP 2 1 rfl rfl (by unfold vp_in; decide) dX11_noon_30 ?_
    refine lv_topi (fun y_2 hy_2 => ?_)
    obtain rfl : y_2 = nI c1 := hy_2.trans hcn.2.1
    refine x_callVv (q := (RX5, TX5, 7)) (ci := 5) (q0 := 0) (wr := [wO x0 11 [.ref t0, .ref d0, .ref h0, .ref o0, .ref n0, .ref u0, .ref k0, .ref q0, .ref p0, .ref s0, .ref b0, .ref z0, .ref ly, .int (nI yc)], wO h0 4 [.ref h1, .ref h2, .ref h3, .ref h4, .ref h5, .ref h6, .ref h7, .ref h8, .ref h9, .ref h10, .ref h11, .int ys, .int hon, .int hwi, .int hdr, .int hu], wI (cy 1) h1 4 (fc)]) (rest := []) ⟨hx, hb, hml, hown, hg, hl.1⟩ k_X11_171 (s_passNoon l D cy n0 n1 n2 n3 fu cu un re fn frw c1 (by omega) (by omega) (hno) (hro) (by omega)) E0_blind hK hP hD hS hA [3, 4, 5] [0, 1, 2] ⟨rfl, rfl, by decide +kernel, by decide +kernel, by decide +kernel⟩ rfl rfl (fun _ _ _ => trivial) dX11_noon_31 rfl rfl (Nat.le_of_ble_eq_true rfl) ⟨Nat.le_of_ble_eq_true rfl, Nat.le_of_ble_eq_true rfl⟩ ⟨Nat.le_of_ble_eq_true rfl, Nat.le_of_ble_eq_true rfl⟩ (fun zu3 H locs hw3 hP9 hD9 hS9 => ?_)
    clear hP hD hS
    obtain ⟨cu2_4, un2_5, re2_6, fq2_7, fn2_8⟩ := zu3
    refine reW [wO x0 11 [.ref t0, .ref d0, .ref h0, .ref o0, .ref n0, .ref u0, .ref k0, .ref q0, .ref p0, .ref s0, .ref b0, .ref z0, .ref ly, .int (nI yc)], wO h0 4 [.ref h1, .ref h2, .ref h3, .ref h4, .ref h5, .ref h6, .ref h7, .ref h8, .ref h9, .ref h10, .ref h11, .int ys, .int hon, .int hwi, .int hdr, .int hu], wI (cy 1) h1 4 (fc), wO n0 5 [.ref n1, .ref n2, .ref n3, .int fu, .int (nI cu2_4), .int (nI un2_5), .int (nI re2_6)], wI (cy 1) n1 41 (fn2_8), wI (cy 1) n2 1681 (fq2_7)] hP9 hD9 hS9 (fun hP hD hS => ?_)
    clear hP9 hD9 hS9
    refine W.widen (k := 0) (n := 0) (Nat.le_of_ble_eq_true rfl) (Nat.le_of_ble_eq_true rfl) ?_
    replace hw3 : (cu2_4 ≤ 40) ∧ (un2_5 + re2_6 ≤ 40) ∧ (mRows fq2_7 41) ∧ (mRows fn2_8 1) ∧ (actC fn2_8 frw cu un fq2_7 cu2_4 un2_5 re2_6) ∧ (nnC fn c1 fn2_8) := hw3
    obtain ⟨f_9, f_10, f_11, f_12, f_13, f_14⟩ := hw3
    refine lv_aload_n hx hb dX11_noon_34 rfl (lv_at hl 0 rfl) ?_
    refine va_get (D := D) (ci := 11) (v := .ref n0) (C := RX11) (T := TX11) (N := 14) hx hb hg i_X11 hown hK hP 0 rfl rfl 4 (by decide) (hg _ m_662) (fun _ h9 => h9) rfl dX11_noon_35 ?_
    refine va_get (D := D) (ci := 5) (v := .ref n1) (C := RX5) (T := TX5) (N := 7) hx hb hg i_X5 hown hK hP 3 rfl rfl 0 (by decide) (hg _ m_424) (fun _ h9 => h9) rfl dX11_noon_38 ?_
    refine lv_bipush (v := 22) hx hb dX11_noon_41 (by decide) ?_
    refine va_iald hx hb hK hP 4 1 rfl rfl (by unfold vp_in; decide) dX11_noon_43 ?_
    refine lv_topi (fun x_15 ex_15 => ?_)
    exact x_iret hQ hx hb hr hlocks hK hP hD hS dX11_noon_44 (cu2_4, un2_5, re2_6, fn2_8, fq2_7) (⟨(show cu2_4 ≤ 40 from by omega), (show un2_5 + re2_6 ≤ 40 from by omega), f_12, f_11, Or.inr ⟨ldk (k := 24) (by decide) ex_1 ▸ i_nle c_13, f_14, ldk (by decide) ex_15, f_13⟩⟩) [0, 1, 2, 3, 4, 5] (by decide +kernel) rfl (Nat.le_of_ble_eq_true rfl) (Nat.le_of_ble_eq_true rfl)
  · refine lv_iconst (v := -1) hx hb dX11_noon_16 (by decide) ?_
    exact x_iret hQ hx hb hr hlocks hK hP hD hS dX11_noon_17 (cu, un, re, fn, frw) (⟨(show cu ≤ 40 from by omega), (show un + re ≤ 40 from by omega), hno, hro, Or.inl ⟨rfl, ⟨rfl, rfl, rfl, rfl, rfl⟩, ldk (k := 24) (by decide) ex_1 ▸ nlt_le c_13⟩⟩) [0, 1, 2, 3, 4, 5] (by decide +kernel) rfl (Nat.le_of_ble_eq_true rfl) (Nat.le_of_ble_eq_true rfl)
theorem gdX11_sweep_0 : decode cX11_sweep 0 = .ok (.aload_n 0, 1) ∧ decode cX11_sweep 1 = .ok (.getfield 28, 3) ∧ decode cX11_sweep 4 = .ok (.iconst 1, 1) ∧ decode cX11_sweep 5 = .ok (.iload_n 1, 1) ∧ decode cX11_sweep 6 = .ok (.invokevirtual 120, 3) ∧ decode cX11_sweep 9 = .ok (.ifCond .ne 5, 3) ∧ decode cX11_sweep 12 = .ok (.iconst (-1), 1) ∧ decode cX11_sweep 13 = .ok (.ireturn, 1) ∧ decode cX11_sweep 14 = .ok (.aload_n 0, 1) ∧ decode cX11_sweep 15 = .ok (.getfield 38, 3) ∧ decode cX11_sweep 18 = .ok (.iload_n 1, 1) ∧ decode cX11_sweep 19 = .ok (.invokevirtual 174, 3) := by decide +kernel
theorem dX11_sweep_0 : decode cX11_sweep 0 = .ok (.aload_n 0, 1) := gdX11_sweep_0.1
theorem dX11_sweep_1 : decode cX11_sweep 1 = .ok (.getfield 28, 3) := gdX11_sweep_0.2.1
theorem dX11_sweep_4 : decode cX11_sweep 4 = .ok (.iconst 1, 1) := gdX11_sweep_0.2.2.1
theorem dX11_sweep_5 : decode cX11_sweep 5 = .ok (.iload_n 1, 1) := gdX11_sweep_0.2.2.2.1
theorem dX11_sweep_6 : decode cX11_sweep 6 = .ok (.invokevirtual 120, 3) := gdX11_sweep_0.2.2.2.2.1
theorem dX11_sweep_9 : decode cX11_sweep 9 = .ok (.ifCond .ne 5, 3) := gdX11_sweep_0.2.2.2.2.2.1
theorem dX11_sweep_12 : decode cX11_sweep 12 = .ok (.iconst (-1), 1) := gdX11_sweep_0.2.2.2.2.2.2.1
theorem dX11_sweep_13 : decode cX11_sweep 13 = .ok (.ireturn, 1) := gdX11_sweep_0.2.2.2.2.2.2.2.1
theorem dX11_sweep_14 : decode cX11_sweep 14 = .ok (.aload_n 0, 1) := gdX11_sweep_0.2.2.2.2.2.2.2.2.1
theorem dX11_sweep_15 : decode cX11_sweep 15 = .ok (.getfield 38, 3) := gdX11_sweep_0.2.2.2.2.2.2.2.2.2.1
theorem dX11_sweep_18 : decode cX11_sweep 18 = .ok (.iload_n 1, 1) := gdX11_sweep_0.2.2.2.2.2.2.2.2.2.2.1
theorem dX11_sweep_19 : decode cX11_sweep 19 = .ok (.invokevirtual 174, 3) := gdX11_sweep_0.2.2.2.2.2.2.2.2.2.2.2
theorem k_X11_174 : xV RX11 RX5 174 yX5_clearLedge cX5_clearLedge 3 (some .int) 1 := ⟨⟨m_1096, m_1097, m_1098, m_139, m_1099⟩, rfl, by decide, by decide, by decide +kernel⟩
theorem dX11_sweep_22 : decode cX11_sweep 22 = .ok (.ireturn, 1) := by decide +kernel
set_option maxHeartbeats 1000000 in
set_option maxRecDepth 100000 in
theorem s_xsweep (l : Launch) (D : va_G) (cy : Nat → ClassId) (x0 : Nat) (t0 : Nat) (d0 : Nat) (h0 : Nat) (h1 : Nat) (h2 : Nat) (h3 : Nat) (h4 : Nat) (h5 : Nat) (h6 : Nat) (h7 : Nat) (h8 : Nat) (h9 : Nat) (h10 : Nat) (h11 : Nat) (o0 : Nat) (n0 : Nat) (n1 : Nat) (n2 : Nat) (n3 : Nat) (u0 : Nat) (k0 : Nat) (q0 : Nat) (p0 : Nat) (s0 : Nat) (b0 : Nat) (z0 : Nat) (ly : Nat) (ys : Int32) (hon : Int32) (hwi : Int32) (hdr : Int32) (hu : Int32) (fc : Nat → Int32) (c0 : Nat) (c1 : Nat) (c2 : Nat) (c3 : Nat) (fu : Int32) (cu : Nat) (un : Nat) (re : Nat) (fn : Nat → Int32) (frw : Nat → Int32) (yc : Nat) (xm : Int32) (hcn : cntOK fc c0 c1 c2 c3) (hc0 : c0 ≤ 8) (hc1 : c1 ≤ 4) (hc2 : c2 ≤ 4) (hc3 : c3 ≤ 6) (hcu : cu ≤ 40) (hur : un + re ≤ 40) (hno : mRows fn 1) (hro : mRows frw 41) (hyc : yc ≤ 10) : XMi l D (tyL cy) E0 yX11_sweep cX11_sweep 2 (some .int) (rmk 3 0 0) [.ref x0, .int xm] [wO x0 11 [.ref t0, .ref d0, .ref h0, .ref o0, .ref n0, .ref u0, .ref k0, .ref q0, .ref p0, .ref s0, .ref b0, .ref z0, .ref ly, .int (nI yc)], wO h0 4 [.ref h1, .ref h2, .ref h3, .ref h4, .ref h5, .ref h6, .ref h7, .ref h8, .ref h9, .ref h10, .ref h11, .int ys, .int hon, .int hwi, .int hdr, .int hu], wI (cy 1) h1 4 (fc), wO n0 5 [.ref n1, .ref n2, .ref n3, .int fu, .int (nI cu), .int (nI un), .int (nI re)], wI (cy 1) n1 41 (fn), wI (cy 1) n2 1681 (frw)] (fun (r : Int32) (u : Nat × Nat × Nat × (Nat → Int32) × (Nat → Int32)) => (u.1 ≤ 40) ∧ (u.2.1 + u.2.2.1 ≤ 40) ∧ (mRows u.2.2.2.1 1) ∧ (mRows u.2.2.2.2 41) ∧ (swC c1 fn frw cu un re xm r u.2.2.2.1 u.2.2.2.2 u.1 u.2.1 u.2.2.1)) (fun (u : Nat × Nat × Nat × (Nat → Int32) × (Nat → Int32)) => [wO x0 11 [.ref t0, .ref d0, .ref h0, .ref o0, .ref n0, .ref u0, .ref k0, .ref q0, .ref p0, .ref s0, .ref b0, .ref z0, .ref ly, .int (nI yc)], wO h0 4 [.ref h1, .ref h2, .ref h3, .ref h4, .ref h5, .ref h6, .ref h7, .ref h8, .ref h9, .ref h10, .ref h11, .int ys, .int hon, .int hwi, .int hdr, .int hu], wI (cy 1) h1 4 (fc), wO n0 5 [.ref n1, .ref n2, .ref n3, .int fu, .int (nI u.1), .int (nI u.2.1), .int (nI u.2.2.1)], wI (cy 1) n1 41 (u.2.2.2.1), wI (cy 1) n2 1681 (u.2.2.2.2)]) := by
  refine XMi.start (by decide) (Nat.le_of_ble_eq_true rfl) ?_
  intro p e s m below meth c args A ls Q hat hQ
  obtain ⟨hx, hb, hr, hml, hown, hg, hlocks, hin, hK, hA, hP, hD, hS, hE, hl⟩ := hat
  have hown : s.vm.findClass RX11 = some m.cls := hown
  have hl : lv_has ls 2 [(0, .ref x0), (1, .int xm)] := hl
  refine lv_aload_n hx hb dX11_sweep_0 rfl (lv_at hl 0 rfl) ?_
  refine va_get (D := D) (ci := 11) (v := .ref h0) (C := RX11) (T := TX11) (N := 14) hx hb hg i_X11 hown hK hP 0 rfl rfl 2 (by decide) (hg _ m_660) (fun _ h9 => h9) rfl dX11_sweep_1 ?_
  refine lv_iconst (v := 1) hx hb dX11_sweep_4 (by decide) ?_
  refine lv_iload_n hx hb dX11_sweep_5 rfl (lv_at hl 1 rfl) ?_
  refine x_callVi (q := (RX4, TX4, 16)) (ci := 4) (q0 := 0) (wr := [wO x0 11 [.ref t0, .ref d0, .ref h0, .ref o0, .ref n0, .ref u0, .ref k0, .ref q0, .ref p0, .ref s0, .ref b0, .ref z0, .ref ly, .int (nI yc)], wO n0 5 [.ref n1, .ref n2, .ref n3, .int fu, .int (nI cu), .int (nI un), .int (nI re)], wI (cy 1) n1 41 (fn), wI (cy 1) n2 1681 (frw)]) (rest := []) ⟨hx, hb, hml, hown, hg, hl.1⟩ k_X11_120 (s_has1 l D cy h0 h1 h2 h3 h4 h5 h6 h7 h8 h9 h10 h11 ((.int ys)) ((.int hon)) ((.int hwi)) ((.int hdr)) ((.int hu)) fc c0 c1 c2 c3 xm (hcn) (by omega) (by omega) (by omega) (by omega)) E0_blind hK hP hD hS hA [1, 2] [0, 3, 4, 5] ⟨rfl, rfl, by decide +kernel, by decide +kernel, by decide +kernel⟩ rfl rfl (fun _ _ _ => trivial) dX11_sweep_6 rfl rfl (Nat.le_of_ble_eq_true rfl) ⟨Nat.le_of_ble_eq_true rfl, Nat.le_of_ble_eq_true rfl⟩ ⟨Nat.le_of_ble_eq_true rfl, Nat.le_of_ble_eq_true rfl⟩ (fun zr1 zu1 H locs hw1 hP9 hD9 hS9 => ?_)
  clear hP hD hS
  refine reW [wO x0 11 [.ref t0, .ref d0, .ref h0, .ref o0, .ref n0, .ref u0, .ref k0, .ref q0, .ref p0, .ref s0, .ref b0, .ref z0, .ref ly, .int (nI yc)], wO n0 5 [.ref n1, .ref n2, .ref n3, .int fu, .int (nI cu), .int (nI un), .int (nI re)], wI (cy 1) n1 41 (fn), wI (cy 1) n2 1681 (frw), wO h0 4 [.ref h1, .ref h2, .ref h3, .ref h4, .ref h5, .ref h6, .ref h7, .ref h8, .ref h9, .ref h10, .ref h11, .int ys, .int hon, .int hwi, .int hdr, .int hu], wI (cy 1) h1 4 (fc)] hP9 hD9 hS9 (fun hP hD hS => ?_)
  clear hP9 hD9 hS9
  refine W.widen (k := 0) (n := 0) (Nat.le_of_ble_eq_true rfl) (Nat.le_of_ble_eq_true rfl) ?_
  replace hw1 : (zr1 = 0 ∨ (zr1 = 1 ∧ ∃ j : Nat, j < c1 ∧ xm = nI j)) ∧ (zr1 = 0 → ¬ inR xm c1) := hw1
  obtain ⟨f_2, f_3⟩ := hw1
  rcases f_2 with hz_5 | ⟨hz_5, j_4, hj_4, ej_4⟩
  · subst hz_5
    refine lv_if_ne (tgt := 14) hx hb dX11_sweep_9 (by decide) (fun h => absurd (by decide) h) (fun _ => ?_)
    refine lv_iconst (v := -1) hx hb dX11_sweep_12 (by decide) ?_
    exact x_iret hQ hx hb hr hlocks hK hP hD hS dX11_sweep_13 (cu, un, re, fn, frw) (⟨(show cu ≤ 40 from by omega), (show un + re ≤ 40 from by omega), hno, hro, Or.inl ⟨rfl, ⟨rfl, rfl, rfl, rfl, rfl⟩, (f_3 rfl)⟩⟩) [0, 4, 5, 1, 2, 3] (by decide +kernel) rfl (Nat.le_of_ble_eq_true rfl) (Nat.le_of_ble_eq_true rfl)
  · subst hz_5
    subst ej_4
    refine lv_if_ne (tgt := 14) hx hb dX11_sweep_9 (by decide) (fun _ => ?_) (fun h => absurd h (by decide))
    refine lv_aload_n hx hb dX11_sweep_14 rfl (lv_at hl 0 rfl) ?_
    refine va_get (D := D) (ci := 11) (v := .ref n0) (C := RX11) (T := TX11) (N := 14) hx hb hg i_X11 hown hK hP 0 rfl rfl 4 (by decide) (hg _ m_662) (fun _ h9 => h9) rfl dX11_sweep_15 ?_
    refine lv_iload_n hx hb dX11_sweep_18 rfl (lv_at hl 1 rfl) ?_
    refine x_callVi (q := (RX5, TX5, 7)) (ci := 5) (q0 := 0) (wr := [wO x0 11 [.ref t0, .ref d0, .ref h0, .ref o0, .ref n0, .ref u0, .ref k0, .ref q0, .ref p0, .ref s0, .ref b0, .ref z0, .ref ly, .int (nI yc)], wO h0 4 [.ref h1, .ref h2, .ref h3, .ref h4, .ref h5, .ref h6, .ref h7, .ref h8, .ref h9, .ref h10, .ref h11, .int ys, .int hon, .int hwi, .int hdr, .int hu], wI (cy 1) h1 4 (fc)]) (rest := []) ⟨hx, hb, hml, hown, hg, hl.1⟩ k_X11_174 (s_clearLedge l D cy n0 n1 n2 n3 fu cu un re fn frw j_4 (by omega) (by omega) (hno) (hro) (by omega)) E0_blind hK hP hD hS hA [1, 2, 3] [0, 4, 5] ⟨rfl, rfl, by decide +kernel, by decide +kernel, by decide +kernel⟩ rfl rfl (fun _ _ _ => trivial) dX11_sweep_19 rfl rfl (Nat.le_of_ble_eq_true rfl) ⟨Nat.le_of_ble_eq_true rfl, Nat.le_of_ble_eq_true rfl⟩ ⟨Nat.le_of_ble_eq_true rfl, Nat.le_of_ble_eq_true rfl⟩ (fun zr6 zu6 H locs hw6 hP9 hD9 hS9 => ?_)
    clear hP hD hS
    obtain ⟨cu2_7, un2_8, re2_9, fq2_10, fn2_11⟩ := zu6
    refine reW [wO x0 11 [.ref t0, .ref d0, .ref h0, .ref o0, .ref n0, .ref u0, .ref k0, .ref q0, .ref p0, .ref s0, .ref b0, .ref z0, .ref ly, .int (nI yc)], wO h0 4 [.ref h1, .ref h2, .ref h3, .ref h4, .ref h5, .ref h6, .ref h7, .ref h8, .ref h9, .ref h10, .ref h11, .int ys, .int hon, .int hwi, .int hdr, .int hu], wI (cy 1) h1 4 (fc), wO n0 5 [.ref n1, .ref n2, .ref n3, .int fu, .int (nI cu2_7), .int (nI un2_8), .int (nI re2_9)], wI (cy 1) n1 41 (fn2_11), wI (cy 1) n2 1681 (fq2_10)] hP9 hD9 hS9 (fun hP hD hS => ?_)
    clear hP9 hD9 hS9
    refine W.widen (k := 0) (n := 0) (Nat.le_of_ble_eq_true rfl) (Nat.le_of_ble_eq_true rfl) ?_
    replace hw6 : (cu2_7 ≤ 40) ∧ (un2_8 + re2_9 ≤ 40) ∧ (mRows fq2_10 41) ∧ (mRows fn2_11 1) ∧ (actC fn2_11 frw cu un fq2_10 cu2_7 un2_8 re2_9) ∧ (fn2_11 = upd fn (25 + j_4) 0 ∧ zr6 = fn (25 + j_4)) := hw6
    obtain ⟨f_12, f_13, f_14, f_15, f_16, f_17⟩ := hw6
    exact x_iret hQ hx hb hr hlocks hK hP hD hS dX11_sweep_22 (cu2_7, un2_8, re2_9, fn2_11, fq2_10) (⟨(show cu2_7 ≤ 40 from by omega), (show un2_8 + re2_9 ≤ 40 from by omega), f_15, f_14, Or.inr ⟨j_4, hj_4, rfl, f_17.2, f_17.1, f_16⟩⟩) [0, 1, 2, 3, 4, 5] (by decide +kernel) rfl (Nat.le_of_ble_eq_true rfl) (Nat.le_of_ble_eq_true rfl)
theorem gdX11_undo_0 : decode cX11_undo 0 = .ok (.aload_n 0, 1) ∧ decode cX11_undo 1 = .ok (.getfield 38, 3) ∧ decode cX11_undo 4 = .ok (.invokevirtual 177, 3) := by decide +kernel
theorem dX11_undo_0 : decode cX11_undo 0 = .ok (.aload_n 0, 1) := gdX11_undo_0.1
theorem dX11_undo_1 : decode cX11_undo 1 = .ok (.getfield 38, 3) := gdX11_undo_0.2.1
theorem dX11_undo_4 : decode cX11_undo 4 = .ok (.invokevirtual 177, 3) := gdX11_undo_0.2.2
theorem k_X11_177 : xV RX11 RX5 177 yX5_stepBack cX5_stepBack 1 (some .boolean) 0 := ⟨⟨m_1104, m_1105, m_1106, m_139, m_1107⟩, rfl, by decide, by decide, by decide +kernel⟩
theorem dX11_undo_7 : decode cX11_undo 7 = .ok (.ireturn, 1) := by decide +kernel
set_option maxHeartbeats 1000000 in
set_option maxRecDepth 100000 in
theorem s_xundo (l : Launch) (D : va_G) (cy : Nat → ClassId) (x0 : Nat) (t0 : Nat) (d0 : Nat) (h0 : Nat) (o0 : Nat) (n0 : Nat) (n1 : Nat) (n2 : Nat) (n3 : Nat) (u0 : Nat) (k0 : Nat) (q0 : Nat) (p0 : Nat) (s0 : Nat) (b0 : Nat) (z0 : Nat) (ly : Nat) (fu : Int32) (cu : Nat) (un : Nat) (re : Nat) (fn : Nat → Int32) (frw : Nat → Int32) (yc : Nat) (hcu : cu ≤ 40) (hur : un + re ≤ 40) (hno : mRows fn 1) (hro : mRows frw 41) (hyc : yc ≤ 10) : XMi l D (tyL cy) E0 yX11_undo cX11_undo 1 (some .boolean) (rmk 3 0 0) [.ref x0] [wO x0 11 [.ref t0, .ref d0, .ref h0, .ref o0, .ref n0, .ref u0, .ref k0, .ref q0, .ref p0, .ref s0, .ref b0, .ref z0, .ref ly, .int (nI yc)], wO n0 5 [.ref n1, .ref n2, .ref n3, .int fu, .int (nI cu), .int (nI un), .int (nI re)], wI (cy 1) n1 41 (fn), wI (cy 1) n2 1681 (frw)] (fun (r : Int32) (u : Nat × Nat × Nat × (Nat → Int32)) => (r = 0 ∨ r = 1) ∧ (u.1 ≤ 40) ∧ (u.2.1 + u.2.2.1 ≤ 40) ∧ (mRows u.2.2.2 1) ∧ (sbC r fn frw cu un re u.2.2.2 u.1 u.2.1 u.2.2.1)) (fun (u : Nat × Nat × Nat × (Nat → Int32)) => [wO x0 11 [.ref t0, .ref d0, .ref h0, .ref o0, .ref n0, .ref u0, .ref k0, .ref q0, .ref p0, .ref s0, .ref b0, .ref z0, .ref ly, .int (nI yc)], wO n0 5 [.ref n1, .ref n2, .ref n3, .int fu, .int (nI u.1), .int (nI u.2.1), .int (nI u.2.2.1)], wI (cy 1) n1 41 (u.2.2.2), wI (cy 1) n2 1681 (frw)]) := by
  refine XMi.start (by decide) (Nat.le_of_ble_eq_true rfl) ?_
  intro p e s m below meth c args A ls Q hat hQ
  obtain ⟨hx, hb, hr, hml, hown, hg, hlocks, hin, hK, hA, hP, hD, hS, hE, hl⟩ := hat
  have hown : s.vm.findClass RX11 = some m.cls := hown
  have hl : lv_has ls 1 [(0, .ref x0)] := hl
  refine lv_aload_n hx hb dX11_undo_0 rfl (lv_at hl 0 rfl) ?_
  refine va_get (D := D) (ci := 11) (v := .ref n0) (C := RX11) (T := TX11) (N := 14) hx hb hg i_X11 hown hK hP 0 rfl rfl 4 (by decide) (hg _ m_662) (fun _ h9 => h9) rfl dX11_undo_1 ?_
  refine x_callVi (q := (RX5, TX5, 7)) (ci := 5) (q0 := 0) (wr := [wO x0 11 [.ref t0, .ref d0, .ref h0, .ref o0, .ref n0, .ref u0, .ref k0, .ref q0, .ref p0, .ref s0, .ref b0, .ref z0, .ref ly, .int (nI yc)]]) (rest := []) ⟨hx, hb, hml, hown, hg, hl.1⟩ k_X11_177 (s_stepBack l D cy n0 n1 n2 n3 fu cu un re fn frw (by omega) (by omega) (hno) (hro)) E0_blind hK hP hD hS hA [1, 2, 3] [0] ⟨rfl, rfl, by decide +kernel, by decide +kernel, by decide +kernel⟩ rfl rfl (fun _ _ _ => trivial) dX11_undo_4 rfl rfl (Nat.le_of_ble_eq_true rfl) ⟨Nat.le_of_ble_eq_true rfl, Nat.le_of_ble_eq_true rfl⟩ ⟨Nat.le_of_ble_eq_true rfl, Nat.le_of_ble_eq_true rfl⟩ (fun zr1 zu1 H locs hw1 hP9 hD9 hS9 => ?_)
  clear hP hD hS
  obtain ⟨cu2_2, un2_3, re2_4, fn2_5⟩ := zu1
  refine reW [wO x0 11 [.ref t0, .ref d0, .ref h0, .ref o0, .ref n0, .ref u0, .ref k0, .ref q0, .ref p0, .ref s0, .ref b0, .ref z0, .ref ly, .int (nI yc)], wO n0 5 [.ref n1, .ref n2, .ref n3, .int fu, .int (nI cu2_2), .int (nI un2_3), .int (nI re2_4)], wI (cy 1) n1 41 (fn2_5), wI (cy 1) n2 1681 (frw)] hP9 hD9 hS9 (fun hP hD hS => ?_)
  clear hP9 hD9 hS9
  refine W.widen (k := 0) (n := 0) (Nat.le_of_ble_eq_true rfl) (Nat.le_of_ble_eq_true rfl) ?_
  replace hw1 : (zr1 = 0 ∨ zr1 = 1) ∧ (cu2_2 ≤ 40) ∧ (un2_3 + re2_4 ≤ 40) ∧ (mRows fn2_5 1) ∧ (sbC zr1 fn frw cu un re fn2_5 cu2_2 un2_3 re2_4) := hw1
  obtain ⟨f_6, f_7, f_8, f_9, f_10⟩ := hw1
  exact x_zret hQ hx hb hr hlocks hK hP hD hS (narB f_6) dX11_undo_7 (cu2_2, un2_3, re2_4, fn2_5) (⟨f_6, (show cu2_2 ≤ 40 from by omega), (show un2_3 + re2_4 ≤ 40 from by omega), f_9, f_10⟩) [0, 1, 2, 3] (by decide +kernel) rfl (Nat.le_of_ble_eq_true rfl) (Nat.le_of_ble_eq_true rfl)
theorem gdX11_redo_0 : decode cX11_redo 0 = .ok (.aload_n 0, 1) ∧ decode cX11_redo 1 = .ok (.getfield 38, 3) ∧ decode cX11_redo 4 = .ok (.invokevirtual 181, 3) := by decide +kernel
theorem dX11_redo_0 : decode cX11_redo 0 = .ok (.aload_n 0, 1) := gdX11_redo_0.1
theorem dX11_redo_1 : decode cX11_redo 1 = .ok (.getfield 38, 3) := gdX11_redo_0.2.1
theorem dX11_redo_4 : decode cX11_redo 4 = .ok (.invokevirtual 181, 3) := gdX11_redo_0.2.2
theorem k_X11_181 : xV RX11 RX5 181 yX5_stepOn cX5_stepOn 1 (some .boolean) 0 := ⟨⟨m_1116, m_1117, m_1118, m_139, m_1119⟩, rfl, by decide, by decide, by decide +kernel⟩
theorem dX11_redo_7 : decode cX11_redo 7 = .ok (.ireturn, 1) := by decide +kernel
set_option maxHeartbeats 1000000 in
set_option maxRecDepth 100000 in
theorem s_xredo (l : Launch) (D : va_G) (cy : Nat → ClassId) (x0 : Nat) (t0 : Nat) (d0 : Nat) (h0 : Nat) (o0 : Nat) (n0 : Nat) (n1 : Nat) (n2 : Nat) (n3 : Nat) (u0 : Nat) (k0 : Nat) (q0 : Nat) (p0 : Nat) (s0 : Nat) (b0 : Nat) (z0 : Nat) (ly : Nat) (fu : Int32) (cu : Nat) (un : Nat) (re : Nat) (fn : Nat → Int32) (frw : Nat → Int32) (yc : Nat) (hcu : cu ≤ 40) (hur : un + re ≤ 40) (hno : mRows fn 1) (hro : mRows frw 41) (hyc : yc ≤ 10) : XMi l D (tyL cy) E0 yX11_redo cX11_redo 1 (some .boolean) (rmk 3 0 0) [.ref x0] [wO x0 11 [.ref t0, .ref d0, .ref h0, .ref o0, .ref n0, .ref u0, .ref k0, .ref q0, .ref p0, .ref s0, .ref b0, .ref z0, .ref ly, .int (nI yc)], wO n0 5 [.ref n1, .ref n2, .ref n3, .int fu, .int (nI cu), .int (nI un), .int (nI re)], wI (cy 1) n1 41 (fn), wI (cy 1) n2 1681 (frw)] (fun (r : Int32) (u : Nat × Nat × Nat × (Nat → Int32)) => (r = 0 ∨ r = 1) ∧ (u.1 ≤ 40) ∧ (u.2.1 + u.2.2.1 ≤ 40) ∧ (mRows u.2.2.2 1) ∧ (snC r fn frw cu un re u.2.2.2 u.1 u.2.1 u.2.2.1)) (fun (u : Nat × Nat × Nat × (Nat → Int32)) => [wO x0 11 [.ref t0, .ref d0, .ref h0, .ref o0, .ref n0, .ref u0, .ref k0, .ref q0, .ref p0, .ref s0, .ref b0, .ref z0, .ref ly, .int (nI yc)], wO n0 5 [.ref n1, .ref n2, .ref n3, .int fu, .int (nI u.1), .int (nI u.2.1), .int (nI u.2.2.1)], wI (cy 1) n1 41 (u.2.2.2), wI (cy 1) n2 1681 (frw)]) := by
  refine XMi.start (by decide) (Nat.le_of_ble_eq_true rfl) ?_
  intro p e s m below meth c args A ls Q hat hQ
  obtain ⟨hx, hb, hr, hml, hown, hg, hlocks, hin, hK, hA, hP, hD, hS, hE, hl⟩ := hat
  have hown : s.vm.findClass RX11 = some m.cls := hown
  have hl : lv_has ls 1 [(0, .ref x0)] := hl
  refine lv_aload_n hx hb dX11_redo_0 rfl (lv_at hl 0 rfl) ?_
  refine va_get (D := D) (ci := 11) (v := .ref n0) (C := RX11) (T := TX11) (N := 14) hx hb hg i_X11 hown hK hP 0 rfl rfl 4 (by decide) (hg _ m_662) (fun _ h9 => h9) rfl dX11_redo_1 ?_
  refine x_callVi (q := (RX5, TX5, 7)) (ci := 5) (q0 := 0) (wr := [wO x0 11 [.ref t0, .ref d0, .ref h0, .ref o0, .ref n0, .ref u0, .ref k0, .ref q0, .ref p0, .ref s0, .ref b0, .ref z0, .ref ly, .int (nI yc)]]) (rest := []) ⟨hx, hb, hml, hown, hg, hl.1⟩ k_X11_181 (s_stepOn l D cy n0 n1 n2 n3 fu cu un re fn frw (by omega) (by omega) (hno) (hro)) E0_blind hK hP hD hS hA [1, 2, 3] [0] ⟨rfl, rfl, by decide +kernel, by decide +kernel, by decide +kernel⟩ rfl rfl (fun _ _ _ => trivial) dX11_redo_4 rfl rfl (Nat.le_of_ble_eq_true rfl) ⟨Nat.le_of_ble_eq_true rfl, Nat.le_of_ble_eq_true rfl⟩ ⟨Nat.le_of_ble_eq_true rfl, Nat.le_of_ble_eq_true rfl⟩ (fun zr1 zu1 H locs hw1 hP9 hD9 hS9 => ?_)
  clear hP hD hS
  obtain ⟨cu2_2, un2_3, re2_4, fn2_5⟩ := zu1
  refine reW [wO x0 11 [.ref t0, .ref d0, .ref h0, .ref o0, .ref n0, .ref u0, .ref k0, .ref q0, .ref p0, .ref s0, .ref b0, .ref z0, .ref ly, .int (nI yc)], wO n0 5 [.ref n1, .ref n2, .ref n3, .int fu, .int (nI cu2_2), .int (nI un2_3), .int (nI re2_4)], wI (cy 1) n1 41 (fn2_5), wI (cy 1) n2 1681 (frw)] hP9 hD9 hS9 (fun hP hD hS => ?_)
  clear hP9 hD9 hS9
  refine W.widen (k := 0) (n := 0) (Nat.le_of_ble_eq_true rfl) (Nat.le_of_ble_eq_true rfl) ?_
  replace hw1 : (zr1 = 0 ∨ zr1 = 1) ∧ (cu2_2 ≤ 40) ∧ (un2_3 + re2_4 ≤ 40) ∧ (mRows fn2_5 1) ∧ (snC zr1 fn frw cu un re fn2_5 cu2_2 un2_3 re2_4) := hw1
  obtain ⟨f_6, f_7, f_8, f_9, f_10⟩ := hw1
  exact x_zret hQ hx hb hr hlocks hK hP hD hS (narB f_6) dX11_redo_7 (cu2_2, un2_3, re2_4, fn2_5) (⟨f_6, (show cu2_2 ≤ 40 from by omega), (show un2_3 + re2_4 ≤ 40 from by omega), f_9, f_10⟩) [0, 1, 2, 3] (by decide +kernel) rfl (Nat.le_of_ble_eq_true rfl) (Nat.le_of_ble_eq_true rfl)
theorem gdX11_echo_0 : decode cX11_echo 0 = .ok (.aload_n 0, 1) ∧ decode cX11_echo 1 = .ok (.iconst 0, 1) ∧ decode cX11_echo 2 = .ok (.putfield 89, 3) ∧ decode cX11_echo 5 = .ok (.aload_n 0, 1) ∧ decode cX11_echo 6 = .ok (.getfield 28, 3) ∧ decode cX11_echo 9 = .ok (.iconst 2, 1) ∧ decode cX11_echo 10 = .ok (.iload_n 1, 1) ∧ decode cX11_echo 11 = .ok (.invokevirtual 120, 3) ∧ decode cX11_echo 14 = .ok (.ifCond .eq 15, 3) ∧ decode cX11_echo 29 = .ok (.iconst (-1), 1) ∧ decode cX11_echo 30 = .ok (.ireturn, 1) ∧ decode cX11_echo 17 = .ok (.aload_n 0, 1) := by decide +kernel
theorem dX11_echo_0 : decode cX11_echo 0 = .ok (.aload_n 0, 1) := gdX11_echo_0.1
theorem dX11_echo_1 : decode cX11_echo 1 = .ok (.iconst 0, 1) := gdX11_echo_0.2.1
theorem dX11_echo_2 : decode cX11_echo 2 = .ok (.putfield 89, 3) := gdX11_echo_0.2.2.1
theorem dX11_echo_5 : decode cX11_echo 5 = .ok (.aload_n 0, 1) := gdX11_echo_0.2.2.2.1
theorem dX11_echo_6 : decode cX11_echo 6 = .ok (.getfield 28, 3) := gdX11_echo_0.2.2.2.2.1
theorem dX11_echo_9 : decode cX11_echo 9 = .ok (.iconst 2, 1) := gdX11_echo_0.2.2.2.2.2.1
theorem dX11_echo_10 : decode cX11_echo 10 = .ok (.iload_n 1, 1) := gdX11_echo_0.2.2.2.2.2.2.1
theorem dX11_echo_11 : decode cX11_echo 11 = .ok (.invokevirtual 120, 3) := gdX11_echo_0.2.2.2.2.2.2.2.1
theorem dX11_echo_14 : decode cX11_echo 14 = .ok (.ifCond .eq 15, 3) := gdX11_echo_0.2.2.2.2.2.2.2.2.1
theorem dX11_echo_29 : decode cX11_echo 29 = .ok (.iconst (-1), 1) := gdX11_echo_0.2.2.2.2.2.2.2.2.2.1
theorem dX11_echo_30 : decode cX11_echo 30 = .ok (.ireturn, 1) := gdX11_echo_0.2.2.2.2.2.2.2.2.2.2.1
theorem dX11_echo_17 : decode cX11_echo 17 = .ok (.aload_n 0, 1) := gdX11_echo_0.2.2.2.2.2.2.2.2.2.2.2
theorem gdX11_echo_18 : decode cX11_echo 18 = .ok (.getfield 28, 3) ∧ decode cX11_echo 21 = .ok (.iconst 1, 1) ∧ decode cX11_echo 22 = .ok (.iload_n 2, 1) ∧ decode cX11_echo 23 = .ok (.invokevirtual 120, 3) ∧ decode cX11_echo 26 = .ok (.ifCond .ne 5, 3) ∧ decode cX11_echo 31 = .ok (.aload_n 0, 1) ∧ decode cX11_echo 32 = .ok (.iload_n 1, 1) ∧ decode cX11_echo 33 = .ok (.invokevirtual 161, 3) ∧ decode cX11_echo 36 = .ok (.aload_n 0, 1) ∧ decode cX11_echo 37 = .ok (.getfield 52, 3) ∧ decode cX11_echo 40 = .ok (.aload_n 0, 1) ∧ decode cX11_echo 41 = .ok (.getfield 28, 3) := by decide +kernel
theorem dX11_echo_18 : decode cX11_echo 18 = .ok (.getfield 28, 3) := gdX11_echo_18.1
theorem dX11_echo_21 : decode cX11_echo 21 = .ok (.iconst 1, 1) := gdX11_echo_18.2.1
theorem dX11_echo_22 : decode cX11_echo 22 = .ok (.iload_n 2, 1) := gdX11_echo_18.2.2.1
theorem dX11_echo_23 : decode cX11_echo 23 = .ok (.invokevirtual 120, 3) := gdX11_echo_18.2.2.2.1
theorem dX11_echo_26 : decode cX11_echo 26 = .ok (.ifCond .ne 5, 3) := gdX11_echo_18.2.2.2.2.1
theorem dX11_echo_31 : decode cX11_echo 31 = .ok (.aload_n 0, 1) := gdX11_echo_18.2.2.2.2.2.1
theorem dX11_echo_32 : decode cX11_echo 32 = .ok (.iload_n 1, 1) := gdX11_echo_18.2.2.2.2.2.2.1
theorem dX11_echo_33 : decode cX11_echo 33 = .ok (.invokevirtual 161, 3) := gdX11_echo_18.2.2.2.2.2.2.2.1
theorem dX11_echo_36 : decode cX11_echo 36 = .ok (.aload_n 0, 1) := gdX11_echo_18.2.2.2.2.2.2.2.2.1
theorem dX11_echo_37 : decode cX11_echo 37 = .ok (.getfield 52, 3) := gdX11_echo_18.2.2.2.2.2.2.2.2.2.1
theorem dX11_echo_40 : decode cX11_echo 40 = .ok (.aload_n 0, 1) := gdX11_echo_18.2.2.2.2.2.2.2.2.2.2.1
theorem dX11_echo_41 : decode cX11_echo 41 = .ok (.getfield 28, 3) := gdX11_echo_18.2.2.2.2.2.2.2.2.2.2.2
theorem gdX11_echo_44 : decode cX11_echo 44 = .ok (.aload_n 0, 1) ∧ decode cX11_echo 45 = .ok (.getfield 75, 3) ∧ decode cX11_echo 48 = .ok (.iload_n 2, 1) ∧ decode cX11_echo 49 = .ok (.iconst 0, 1) ∧ decode cX11_echo 50 = .ok (.invokevirtual 184, 3) := by decide +kernel
theorem dX11_echo_44 : decode cX11_echo 44 = .ok (.aload_n 0, 1) := gdX11_echo_44.1
theorem dX11_echo_45 : decode cX11_echo 45 = .ok (.getfield 75, 3) := gdX11_echo_44.2.1
theorem dX11_echo_48 : decode cX11_echo 48 = .ok (.iload_n 2, 1) := gdX11_echo_44.2.2.1
theorem dX11_echo_49 : decode cX11_echo 49 = .ok (.iconst 0, 1) := gdX11_echo_44.2.2.2.1
theorem dX11_echo_50 : decode cX11_echo 50 = .ok (.invokevirtual 184, 3) := gdX11_echo_44.2.2.2.2
theorem k_X11_184 : xV RX11 RX0 184 yX0_listen cX0_listen 6 (some .int) 4 := ⟨⟨m_1124, m_1030, m_1031, m_141, m_1032⟩, rfl, by decide, by decide, by decide +kernel⟩
theorem gdX11_echo_53 : decode cX11_echo 53 = .ok (.istore_n 3, 1) ∧ decode cX11_echo 54 = .ok (.aload_n 0, 1) ∧ decode cX11_echo 55 = .ok (.aload_n 0, 1) ∧ decode cX11_echo 56 = .ok (.getfield 52, 3) ∧ decode cX11_echo 59 = .ok (.getfield 188, 3) ∧ decode cX11_echo 62 = .ok (.iload_n 3, 1) ∧ decode cX11_echo 63 = .ok (.invokevirtual 191, 3) := by decide +kernel
theorem dX11_echo_53 : decode cX11_echo 53 = .ok (.istore_n 3, 1) := gdX11_echo_53.1
theorem dX11_echo_54 : decode cX11_echo 54 = .ok (.aload_n 0, 1) := gdX11_echo_53.2.1
theorem dX11_echo_55 : decode cX11_echo 55 = .ok (.aload_n 0, 1) := gdX11_echo_53.2.2.1
theorem dX11_echo_56 : decode cX11_echo 56 = .ok (.getfield 52, 3) := gdX11_echo_53.2.2.2.1
theorem dX11_echo_59 : decode cX11_echo 59 = .ok (.getfield 188, 3) := gdX11_echo_53.2.2.2.2.1
theorem dX11_echo_62 : decode cX11_echo 62 = .ok (.iload_n 3, 1) := gdX11_echo_53.2.2.2.2.2.1
theorem dX11_echo_63 : decode cX11_echo 63 = .ok (.invokevirtual 191, 3) := gdX11_echo_53.2.2.2.2.2.2
theorem k_X11_191 : xV RX11 RX11 191 yX11_layDown cX11_layDown 3 none 2 := ⟨⟨m_1125, m_1127, m_37, m_130, m_1128⟩, rfl, by decide, by decide, by decide +kernel⟩
theorem dX11_echo_66 : decode cX11_echo 66 = .ok (.iload_n 3, 1) := by decide +kernel
theorem dX11_echo_67 : decode cX11_echo 67 = .ok (.ireturn, 1) := by decide +kernel
set_option maxHeartbeats 1000000 in
set_option maxRecDepth 100000 in
theorem s_xecho (l : Launch) (D : va_G) (cy : Nat → ClassId) (x0 : Nat) (t0 : Nat) (d0 : Nat) (h0 : Nat) (h1 : Nat) (h2 : Nat) (h3 : Nat) (h4 : Nat) (h5 : Nat) (h6 : Nat) (h7 : Nat) (h8 : Nat) (h9 : Nat) (h10 : Nat) (h11 : Nat) (h9a : Nat) (h9b : Nat) (h10a : Nat) (h10b : Nat) (h11a : Nat) (h11b : Nat) (o0 : Nat) (n0 : Nat) (n1 : Nat) (n2 : Nat) (n3 : Nat) (u0 : Nat) (k0 : Nat) (er : Nat) (ro : Nat) (ea : Nat → Nat) (eg : Nat → Nat) (ef : Nat → Nat) (q0 : Nat) (p0 : Nat) (s0 : Nat) (s1 : Nat) (s2 : Nat) (b0 : Nat) (z0 : Nat) (ly : Nat) (ys : Int32) (hon : Int32) (hwi : Int32) (hdr : Int32) (hu : Int32) (fc : Nat → Int32) (c0 : Nat) (c1 : Nat) (c2 : Nat) (c3 : Nat) (flo : Nat → Int32) (fp : Nat → Int32) (fmp : Nat → Int32) (fmv : Nat → Int32) (nb : Nat) (tb : Int32) (fcb : Nat → Int32) (fsb : Nat → Int32) (nl : Nat) (tl : Int32) (fcl : Nat → Int32) (fsl : Nat → Int32) (nt : Nat) (tt : Int32) (fct : Nat → Int32) (fst : Nat → Int32) (fu : Int32) (cu : Nat) (un : Nat) (re : Nat) (fn : Nat → Int32) (bo : Int32) (fr : Nat → Int32) (et : Nat → Int32) (el : Nat → Nat) (ei : Nat → Nat) (gc : Nat → Nat → Int32) (xc : Nat → Nat → Int32) (sl : Nat) (spl : Int32) (svo : Int32) (swi : Int32) (sch : Int32) (fw : Nat → Int32) (fsn : Nat → Int32) (yc : Nat) (fyl : Nat → Int32) (xm : Int32) (xk : Int32) (hcn : cntOK fc c0 c1 c2 c3) (hc0 : c0 ≤ 8) (hc1 : c1 ≤ 4) (hc2 : c2 ≤ 4) (hc3 : c3 ≤ 6) (hnb : nb ≤ 280) (hcb : cOK fcb nb) (hnt : nt ≤ 280) (hct : cOK fct nt) (hnl : nl ≤ 280) (hcl : cOK fcl nl) (hcu : cu ≤ 40) (hur : un + re ≤ 40) (hno : mRows fn 1) (hel : ∀ i9, i9 < 4 → el i9 ≤ 10) (hrw : rng fr 20 7) (hsl : sl ≤ 10) (hsw : rng fw 10 7) (hyc : yc ≤ 10) : XMi l D (tyL cy) E0 yX11_echo cX11_echo 4 (some .int) (rmk 6 0 0) [.ref x0, .int xm, .int xk] [wO x0 11 [.ref t0, .ref d0, .ref h0, .ref o0, .ref n0, .ref u0, .ref k0, .ref q0, .ref p0, .ref s0, .ref b0, .ref z0, .ref ly, .int (nI yc)], wO n0 5 [.ref n1, .ref n2, .ref n3, .int fu, .int (nI cu), .int (nI un), .int (nI re)], wI (cy 1) n1 41 (fn), wO s0 7 [.ref s1, .ref s2, .int (nI sl), .int spl, .int svo, .int swi, .int sch], wI (cy 1) s1 10 (fw), wI (cy 1) s2 4 (fsn), wO h0 4 [.ref h1, .ref h2, .ref h3, .ref h4, .ref h5, .ref h6, .ref h7, .ref h8, .ref h9, .ref h10, .ref h11, .int ys, .int hon, .int hwi, .int hdr, .int hu], wI (cy 1) h5 4 (fmp), wI (cy 1) h6 4 (fmv), wI (cy 1) h1 4 (fc), wO k0 0 [.ref er, .ref ro, .int bo], (er, .inl (cy 4, 4, .inr (.inr (.inr (.inr (eF (ea 0) (ea 1) (ea 2) (ea 3))))))), wI (cy 1) ro 20 (fr), wO (ea 0) 2 [.ref (eg 0), .ref (ef 0), .int (et 0), .int (nI (el 0)), .int (nI (ei 0))], wI (cy 1) (eg 0) 10 (gc 0), wI (cy 1) (ef 0) 7 (xc 0), wO (ea 1) 2 [.ref (eg 1), .ref (ef 1), .int (et 1), .int (nI (el 1)), .int (nI (ei 1))], wI (cy 1) (eg 1) 10 (gc 1), wI (cy 1) (ef 1) 7 (xc 1), wO (ea 2) 2 [.ref (eg 2), .ref (ef 2), .int (et 2), .int (nI (el 2)), .int (nI (ei 2))], wI (cy 1) (eg 2) 10 (gc 2), wI (cy 1) (ef 2) 7 (xc 2), wO (ea 3) 2 [.ref (eg 3), .ref (ef 3), .int (et 3), .int (nI (el 3)), .int (nI (ei 3))], wI (cy 1) (eg 3) 10 (gc 3), wI (cy 1) (ef 3) 7 (xc 3), wI (cy 1) h3 4 (fp), wI (cy 1) h2 8 (flo), wO h9 3 [.ref h9a, .ref h9b, .int (nI nb), .int tb], wI (cy 1) h9a 280 (fcb), wI (cy 1) h9b 31 (fsb), wO h11 3 [.ref h11a, .ref h11b, .int (nI nt), .int tt], wI (cy 1) h11a 280 (fct), wI (cy 1) h11b 31 (fst), wO h10 3 [.ref h10a, .ref h10b, .int (nI nl), .int tl], wI (cy 1) h10a 280 (fcl), wI (cy 1) h10b 31 (fsl), wI (cy 1) ly 10 (fyl)] (fun (r : Int32) (u : (Nat → Int32) × (Nat → Int32) × (Nat → Int32) × (Nat → Int32) × (Nat → Int32) × (Nat → Nat) × (Nat → Nat) × (Nat → Nat → Int32) × (Nat → Nat → Int32) × Nat × Int32 × Int32 × Int32 × Int32 × (Nat → Int32) × (Nat → Int32) × Nat × (Nat → Int32)) => (∀ i9, i9 < 4 → u.2.2.2.2.2.1 i9 ≤ 10) ∧ (rng u.2.2.2.1 20 7) ∧ (u.2.2.2.2.2.2.2.2.2.1 ≤ 10) ∧ (rng u.2.2.2.2.2.2.2.2.2.2.2.2.2.2.1 10 7) ∧ (u.2.2.2.2.2.2.2.2.2.2.2.2.2.2.2.2.1 ≤ 10)) (fun (u : (Nat → Int32) × (Nat → Int32) × (Nat → Int32) × (Nat → Int32) × (Nat → Int32) × (Nat → Nat) × (Nat → Nat) × (Nat → Nat → Int32) × (Nat → Nat → Int32) × Nat × Int32 × Int32 × Int32 × Int32 × (Nat → Int32) × (Nat → Int32) × Nat × (Nat → Int32)) => [wO x0 11 [.ref t0, .ref d0, .ref h0, .ref o0, .ref n0, .ref u0, .ref k0, .ref q0, .ref p0, .ref s0, .ref b0, .ref z0, .ref ly, .int (nI u.2.2.2.2.2.2.2.2.2.2.2.2.2.2.2.2.1)], wO n0 5 [.ref n1, .ref n2, .ref n3, .int fu, .int (nI cu), .int (nI un), .int (nI re)], wI (cy 1) n1 41 (fn), wO s0 7 [.ref s1, .ref s2, .int (nI u.2.2.2.2.2.2.2.2.2.1), .int u.2.2.2.2.2.2.2.2.2.2.1, .int u.2.2.2.2.2.2.2.2.2.2.2.1, .int u.2.2.2.2.2.2.2.2.2.2.2.2.1, .int u.2.2.2.2.2.2.2.2.2.2.2.2.2.1], wI (cy 1) s1 10 (u.2.2.2.2.2.2.2.2.2.2.2.2.2.2.1), wI (cy 1) s2 4 (u.2.2.2.2.2.2.2.2.2.2.2.2.2.2.2.1), wO h0 4 [.ref h1, .ref h2, .ref h3, .ref h4, .ref h5, .ref h6, .ref h7, .ref h8, .ref h9, .ref h10, .ref h11, .int ys, .int hon, .int hwi, .int hdr, .int hu], wI (cy 1) h5 4 (fmp), wI (cy 1) h6 4 (fmv), wI (cy 1) h1 4 (fc), wO k0 0 [.ref er, .ref ro, .int bo], (er, .inl (cy 4, 4, .inr (.inr (.inr (.inr (eF (ea 0) (ea 1) (ea 2) (ea 3))))))), wI (cy 1) ro 20 (u.2.2.2.1), wO (ea 0) 2 [.ref (eg 0), .ref (ef 0), .int (u.2.2.2.2.1 0), .int (nI (u.2.2.2.2.2.1 0)), .int (nI (u.2.2.2.2.2.2.1 0))], wI (cy 1) (eg 0) 10 (u.2.2.2.2.2.2.2.1 0), wI (cy 1) (ef 0) 7 (u.2.2.2.2.2.2.2.2.1 0), wO (ea 1) 2 [.ref (eg 1), .ref (ef 1), .int (u.2.2.2.2.1 1), .int (nI (u.2.2.2.2.2.1 1)), .int (nI (u.2.2.2.2.2.2.1 1))], wI (cy 1) (eg 1) 10 (u.2.2.2.2.2.2.2.1 1), wI (cy 1) (ef 1) 7 (u.2.2.2.2.2.2.2.2.1 1), wO (ea 2) 2 [.ref (eg 2), .ref (ef 2), .int (u.2.2.2.2.1 2), .int (nI (u.2.2.2.2.2.1 2)), .int (nI (u.2.2.2.2.2.2.1 2))], wI (cy 1) (eg 2) 10 (u.2.2.2.2.2.2.2.1 2), wI (cy 1) (ef 2) 7 (u.2.2.2.2.2.2.2.2.1 2), wO (ea 3) 2 [.ref (eg 3), .ref (ef 3), .int (u.2.2.2.2.1 3), .int (nI (u.2.2.2.2.2.1 3)), .int (nI (u.2.2.2.2.2.2.1 3))], wI (cy 1) (eg 3) 10 (u.2.2.2.2.2.2.2.1 3), wI (cy 1) (ef 3) 7 (u.2.2.2.2.2.2.2.2.1 3), wI (cy 1) h3 4 (fp), wI (cy 1) h2 8 (flo), wO h9 3 [.ref h9a, .ref h9b, .int (nI nb), .int tb], wI (cy 1) h9a 280 (fcb), wI (cy 1) h9b 31 (u.1), wO h11 3 [.ref h11a, .ref h11b, .int (nI nt), .int tt], wI (cy 1) h11a 280 (fct), wI (cy 1) h11b 31 (u.2.2.1), wO h10 3 [.ref h10a, .ref h10b, .int (nI nl), .int tl], wI (cy 1) h10a 280 (fcl), wI (cy 1) h10b 31 (u.2.1), wI (cy 1) ly 10 (u.2.2.2.2.2.2.2.2.2.2.2.2.2.2.2.2.2)]) := by
  refine XMi.start (by decide) (Nat.le_of_ble_eq_true rfl) ?_
  intro p e s m below meth c args A ls Q hat hQ
  obtain ⟨hx, hb, hr, hml, hown, hg, hlocks, hin, hK, hA, hP, hD, hS, hE, hl⟩ := hat
  have hown : s.vm.findClass RX11 = some m.cls := hown
  have hl : lv_has ls 4 [(0, .ref x0), (1, .int xm), (2, .int xk)] := hl
  have hk_1 := hel 0 (by decide)
  have hk_2 := hel 1 (by decide)
  have hk_3 := hel 2 (by decide)
  have hk_4 := hel 3 (by decide)
  refine lv_aload_n hx hb dX11_echo_0 rfl (lv_at hl 0 rfl) ?_
  refine lv_iconst (v := 0) hx hb dX11_echo_1 (by decide) ?_
  refine va_put (D := D) (ci := 11) (v := .int 0) (ty := .int) (C := RX11) (T := TX11) (N := 14) hx hb hg i_X11 tyX11 tyX11_ok nmX11 hown hK hP hD hS 0 rfl rfl 13 (by decide) (hg _ m_671) (fun _ h9 => h9) rfl (by decide +kernel) rfl rfl (Nat.le_of_ble_eq_true rfl) dX11_echo_2 (fun H locs hP9 hD9 hS9 => ?_)
  clear hP hD hS
  refine reW [wO x0 11 [.ref t0, .ref d0, .ref h0, .ref o0, .ref n0, .ref u0, .ref k0, .ref q0, .ref p0, .ref s0, .ref b0, .ref z0, .ref ly, .int 0], wO n0 5 [.ref n1, .ref n2, .ref n3, .int fu, .int (nI cu), .int (nI un), .int (nI re)], wI (cy 1) n1 41 (fn), wO s0 7 [.ref s1, .ref s2, .int (nI sl), .int spl, .int svo, .int swi, .int sch], wI (cy 1) s1 10 (fw), wI (cy 1) s2 4 (fsn), wO h0 4 [.ref h1, .ref h2, .ref h3, .ref h4, .ref h5, .ref h6, .ref h7, .ref h8, .ref h9, .ref h10, .ref h11, .int ys, .int hon, .int hwi, .int hdr, .int hu], wI (cy 1) h5 4 (fmp), wI (cy 1) h6 4 (fmv), wI (cy 1) h1 4 (fc), wO k0 0 [.ref er, .ref ro, .int bo], (er, .inl (cy 4, 4, .inr (.inr (.inr (.inr (eF (ea 0) (ea 1) (ea 2) (ea 3))))))), wI (cy 1) ro 20 (fr), wO (ea 0) 2 [.ref (eg 0), .ref (ef 0), .int (et 0), .int (nI (el 0)), .int (nI (ei 0))], wI (cy 1) (eg 0) 10 (gc 0), wI (cy 1) (ef 0) 7 (xc 0), wO (ea 1) 2 [.ref (eg 1), .ref (ef 1), .int (et 1), .int (nI (el 1)), .int (nI (ei 1))], wI (cy 1) (eg 1) 10 (gc 1), wI (cy 1) (ef 1) 7 (xc 1), wO (ea 2) 2 [.ref (eg 2), .ref (ef 2), .int (et 2), .int (nI (el 2)), .int (nI (ei 2))], wI (cy 1) (eg 2) 10 (gc 2), wI (cy 1) (ef 2) 7 (xc 2), wO (ea 3) 2 [.ref (eg 3), .ref (ef 3), .int (et 3), .int (nI (el 3)), .int (nI (ei 3))], wI (cy 1) (eg 3) 10 (gc 3), wI (cy 1) (ef 3) 7 (xc 3), wI (cy 1) h3 4 (fp), wI (cy 1) h2 8 (flo), wO h9 3 [.ref h9a, .ref h9b, .int (nI nb), .int tb], wI (cy 1) h9a 280 (fcb), wI (cy 1) h9b 31 (fsb), wO h11 3 [.ref h11a, .ref h11b, .int (nI nt), .int tt], wI (cy 1) h11a 280 (fct), wI (cy 1) h11b 31 (fst), wO h10 3 [.ref h10a, .ref h10b, .int (nI nl), .int tl], wI (cy 1) h10a 280 (fcl), wI (cy 1) h10b 31 (fsl), wI (cy 1) ly 10 (fyl)] hP9 hD9 hS9 (fun hP hD hS => ?_)
  clear hP9 hD9 hS9
  refine lv_aload_n hx hb dX11_echo_5 rfl (lv_at hl 0 rfl) ?_
  refine va_get (D := D) (ci := 11) (v := .ref h0) (C := RX11) (T := TX11) (N := 14) hx hb hg i_X11 hown hK hP 0 rfl rfl 2 (by decide) (hg _ m_660) (fun _ h9 => h9) rfl dX11_echo_6 ?_
  refine lv_iconst (v := 2) hx hb dX11_echo_9 (by decide) ?_
  refine lv_iload_n hx hb dX11_echo_10 rfl (lv_at hl 1 rfl) ?_
  refine x_callVi (q := (RX4, TX4, 16)) (ci := 4) (q0 := 0) (wr := [wO x0 11 [.ref t0, .ref d0, .ref h0, .ref o0, .ref n0, .ref u0, .ref k0, .ref q0, .ref p0, .ref s0, .ref b0, .ref z0, .ref ly, .int 0], wO n0 5 [.ref n1, .ref n2, .ref n3, .int fu, .int (nI cu), .int (nI un), .int (nI re)], wI (cy 1) n1 41 (fn), wO s0 7 [.ref s1, .ref s2, .int (nI sl), .int spl, .int svo, .int swi, .int sch], wI (cy 1) s1 10 (fw), wI (cy 1) s2 4 (fsn), wI (cy 1) h5 4 (fmp), wI (cy 1) h6 4 (fmv), wO k0 0 [.ref er, .ref ro, .int bo], (er, .inl (cy 4, 4, .inr (.inr (.inr (.inr (eF (ea 0) (ea 1) (ea 2) (ea 3))))))), wI (cy 1) ro 20 (fr), wO (ea 0) 2 [.ref (eg 0), .ref (ef 0), .int (et 0), .int (nI (el 0)), .int (nI (ei 0))], wI (cy 1) (eg 0) 10 (gc 0), wI (cy 1) (ef 0) 7 (xc 0), wO (ea 1) 2 [.ref (eg 1), .ref (ef 1), .int (et 1), .int (nI (el 1)), .int (nI (ei 1))], wI (cy 1) (eg 1) 10 (gc 1), wI (cy 1) (ef 1) 7 (xc 1), wO (ea 2) 2 [.ref (eg 2), .ref (ef 2), .int (et 2), .int (nI (el 2)), .int (nI (ei 2))], wI (cy 1) (eg 2) 10 (gc 2), wI (cy 1) (ef 2) 7 (xc 2), wO (ea 3) 2 [.ref (eg 3), .ref (ef 3), .int (et 3), .int (nI (el 3)), .int (nI (ei 3))], wI (cy 1) (eg 3) 10 (gc 3), wI (cy 1) (ef 3) 7 (xc 3), wI (cy 1) h3 4 (fp), wI (cy 1) h2 8 (flo), wO h9 3 [.ref h9a, .ref h9b, .int (nI nb), .int tb], wI (cy 1) h9a 280 (fcb), wI (cy 1) h9b 31 (fsb), wO h11 3 [.ref h11a, .ref h11b, .int (nI nt), .int tt], wI (cy 1) h11a 280 (fct), wI (cy 1) h11b 31 (fst), wO h10 3 [.ref h10a, .ref h10b, .int (nI nl), .int tl], wI (cy 1) h10a 280 (fcl), wI (cy 1) h10b 31 (fsl), wI (cy 1) ly 10 (fyl)]) (rest := []) ⟨hx, hb, hml, hown, hg, hl.1⟩ k_X11_120 (s_has2 l D cy h0 h1 h2 h3 h4 h5 h6 h7 h8 h9 h10 h11 ((.int ys)) ((.int hon)) ((.int hwi)) ((.int hdr)) ((.int hu)) fc c0 c1 c2 c3 xm (hcn) (by omega) (by omega) (by omega) (by omega)) E0_blind hK hP hD hS hA [6, 9] [0, 1, 2, 3, 4, 5, 7, 8, 10, 11, 12, 13, 14, 15, 16, 17, 18, 19, 20, 21, 22, 23, 24, 25, 26, 27, 28, 29, 30, 31, 32, 33, 34, 35, 36] ⟨rfl, rfl, by decide +kernel, by decide +kernel, by decide +kernel⟩ rfl rfl (fun _ _ _ => trivial) dX11_echo_11 rfl rfl (Nat.le_of_ble_eq_true rfl) ⟨Nat.le_of_ble_eq_true rfl, Nat.le_of_ble_eq_true rfl⟩ ⟨Nat.le_of_ble_eq_true rfl, Nat.le_of_ble_eq_true rfl⟩ (fun zr5 zu5 H locs hw5 hP9 hD9 hS9 => ?_)
  clear hP hD hS
  refine reW [wO x0 11 [.ref t0, .ref d0, .ref h0, .ref o0, .ref n0, .ref u0, .ref k0, .ref q0, .ref p0, .ref s0, .ref b0, .ref z0, .ref ly, .int 0], wO n0 5 [.ref n1, .ref n2, .ref n3, .int fu, .int (nI cu), .int (nI un), .int (nI re)], wI (cy 1) n1 41 (fn), wO s0 7 [.ref s1, .ref s2, .int (nI sl), .int spl, .int svo, .int swi, .int sch], wI (cy 1) s1 10 (fw), wI (cy 1) s2 4 (fsn), wI (cy 1) h5 4 (fmp), wI (cy 1) h6 4 (fmv), wO k0 0 [.ref er, .ref ro, .int bo], (er, .inl (cy 4, 4, .inr (.inr (.inr (.inr (eF (ea 0) (ea 1) (ea 2) (ea 3))))))), wI (cy 1) ro 20 (fr), wO (ea 0) 2 [.ref (eg 0), .ref (ef 0), .int (et 0), .int (nI (el 0)), .int (nI (ei 0))], wI (cy 1) (eg 0) 10 (gc 0), wI (cy 1) (ef 0) 7 (xc 0), wO (ea 1) 2 [.ref (eg 1), .ref (ef 1), .int (et 1), .int (nI (el 1)), .int (nI (ei 1))], wI (cy 1) (eg 1) 10 (gc 1), wI (cy 1) (ef 1) 7 (xc 1), wO (ea 2) 2 [.ref (eg 2), .ref (ef 2), .int (et 2), .int (nI (el 2)), .int (nI (ei 2))], wI (cy 1) (eg 2) 10 (gc 2), wI (cy 1) (ef 2) 7 (xc 2), wO (ea 3) 2 [.ref (eg 3), .ref (ef 3), .int (et 3), .int (nI (el 3)), .int (nI (ei 3))], wI (cy 1) (eg 3) 10 (gc 3), wI (cy 1) (ef 3) 7 (xc 3), wI (cy 1) h3 4 (fp), wI (cy 1) h2 8 (flo), wO h9 3 [.ref h9a, .ref h9b, .int (nI nb), .int tb], wI (cy 1) h9a 280 (fcb), wI (cy 1) h9b 31 (fsb), wO h11 3 [.ref h11a, .ref h11b, .int (nI nt), .int tt], wI (cy 1) h11a 280 (fct), wI (cy 1) h11b 31 (fst), wO h10 3 [.ref h10a, .ref h10b, .int (nI nl), .int tl], wI (cy 1) h10a 280 (fcl), wI (cy 1) h10b 31 (fsl), wI (cy 1) ly 10 (fyl), wO h0 4 [.ref h1, .ref h2, .ref h3, .ref h4, .ref h5, .ref h6, .ref h7, .ref h8, .ref h9, .ref h10, .ref h11, .int ys, .int hon, .int hwi, .int hdr, .int hu], wI (cy 1) h1 4 (fc)] hP9 hD9 hS9 (fun hP hD hS => ?_)
  clear hP9 hD9 hS9
  refine W.widen (k := 0) (n := 0) (Nat.le_of_ble_eq_true rfl) (Nat.le_of_ble_eq_true rfl) ?_
  replace hw5 : (zr5 = 0 ∨ (zr5 = 1 ∧ ∃ j : Nat, j < c2 ∧ xm = nI j)) ∧ (zr5 = 0 → ¬ inR xm c2) := hw5
  obtain ⟨f_6, f_7⟩ := hw5
  rcases f_6 with hz_9 | ⟨hz_9, j_8, hj_8, ej_8⟩
  · subst hz_9
    refine lv_if_eq (tgt := 29) hx hb dX11_echo_14 (by decide) (fun _ => ?_) (fun h => absurd (by decide) h)
    refine lv_iconst (v := -1) hx hb dX11_echo_29 (by decide) ?_
    exact x_iret hQ hx hb hr hlocks hK hP hD hS dX11_echo_30 (fsb, fsl, fst, fr, (fun k => [et 0, et 1, et 2, et 3].getD k 0), (fun k => [(el 0), (el 1), (el 2), (el 3)].getD k 0), (fun k => [(ei 0), (ei 1), (ei 2), (ei 3)].getD k 0), (fun k => [gc 0, gc 1, gc 2, gc 3].getD k (fun _ => 0)), (fun k => [xc 0, xc 1, xc 2, xc 3].getD k (fun _ => 0)), sl, spl, svo, swi, sch, fw, fsn, 0, fyl) (⟨get4 (by omega) (by omega) (by omega) (by omega), hrw, (show sl ≤ 10 from by omega), hsw, (show 0 ≤ 10 from by omega)⟩) [0, 1, 2, 3, 4, 5, 35, 6, 7, 36, 8, 9, 10, 11, 12, 13, 14, 15, 16, 17, 18, 19, 20, 21, 22, 23, 24, 25, 26, 27, 28, 29, 30, 31, 32, 33, 34] (by decide +kernel) rfl (Nat.le_of_ble_eq_true rfl) (Nat.le_of_ble_eq_true rfl)
  · subst hz_9
    subst ej_8
    refine lv_if_eq (tgt := 29) hx hb dX11_echo_14 (by decide) (fun h => absurd h (by decide)) (fun _ => ?_)
    refine lv_aload_n hx hb dX11_echo_17 rfl (lv_at hl 0 rfl) ?_
    refine va_get (D := D) (ci := 11) (v := .ref h0) (C := RX11) (T := TX11) (N := 14) hx hb hg i_X11 hown hK hP 0 rfl rfl 2 (by decide) (hg _ m_660) (fun _ h9 => h9) rfl dX11_echo_18 ?_
    refine lv_iconst (v := 1) hx hb dX11_echo_21 (by decide) ?_
    refine lv_iload_n hx hb dX11_echo_22 rfl (lv_at hl 2 rfl) ?_
    refine x_callVi (q := (RX4, TX4, 16)) (ci := 4) (q0 := 0) (wr := [wO x0 11 [.ref t0, .ref d0, .ref h0, .ref o0, .ref n0, .ref u0, .ref k0, .ref q0, .ref p0, .ref s0, .ref b0, .ref z0, .ref ly, .int 0], wO n0 5 [.ref n1, .ref n2, .ref n3, .int fu, .int (nI cu), .int (nI un), .int (nI re)], wI (cy 1) n1 41 (fn), wO s0 7 [.ref s1, .ref s2, .int (nI sl), .int spl, .int svo, .int swi, .int sch], wI (cy 1) s1 10 (fw), wI (cy 1) s2 4 (fsn), wI (cy 1) h5 4 (fmp), wI (cy 1) h6 4 (fmv), wO k0 0 [.ref er, .ref ro, .int bo], (er, .inl (cy 4, 4, .inr (.inr (.inr (.inr (eF (ea 0) (ea 1) (ea 2) (ea 3))))))), wI (cy 1) ro 20 (fr), wO (ea 0) 2 [.ref (eg 0), .ref (ef 0), .int (et 0), .int (nI (el 0)), .int (nI (ei 0))], wI (cy 1) (eg 0) 10 (gc 0), wI (cy 1) (ef 0) 7 (xc 0), wO (ea 1) 2 [.ref (eg 1), .ref (ef 1), .int (et 1), .int (nI (el 1)), .int (nI (ei 1))], wI (cy 1) (eg 1) 10 (gc 1), wI (cy 1) (ef 1) 7 (xc 1), wO (ea 2) 2 [.ref (eg 2), .ref (ef 2), .int (et 2), .int (nI (el 2)), .int (nI (ei 2))], wI (cy 1) (eg 2) 10 (gc 2), wI (cy 1) (ef 2) 7 (xc 2), wO (ea 3) 2 [.ref (eg 3), .ref (ef 3), .int (et 3), .int (nI (el 3)), .int (nI (ei 3))], wI (cy 1) (eg 3) 10 (gc 3), wI (cy 1) (ef 3) 7 (xc 3), wI (cy 1) h3 4 (fp), wI (cy 1) h2 8 (flo), wO h9 3 [.ref h9a, .ref h9b, .int (nI nb), .int tb], wI (cy 1) h9a 280 (fcb), wI (cy 1) h9b 31 (fsb), wO h11 3 [.ref h11a, .ref h11b, .int (nI nt), .int tt], wI (cy 1) h11a 280 (fct), wI (cy 1) h11b 31 (fst), wO h10 3 [.ref h10a, .ref h10b, .int (nI nl), .int tl], wI (cy 1) h10a 280 (fcl), wI (cy 1) h10b 31 (fsl), wI (cy 1) ly 10 (fyl)]) (rest := []) ⟨hx, hb, hml, hown, hg, hl.1⟩ k_X11_120 (s_has1 l D cy h0 h1 h2 h3 h4 h5 h6 h7 h8 h9 h10 h11 ((.int ys)) ((.int hon)) ((.int hwi)) ((.int hdr)) ((.int hu)) fc c0 c1 c2 c3 xk (hcn) (by omega) (by omega) (by omega) (by omega)) E0_blind hK hP hD hS hA [35, 36] [0, 1, 2, 3, 4, 5, 6, 7, 8, 9, 10, 11, 12, 13, 14, 15, 16, 17, 18, 19, 20, 21, 22, 23, 24, 25, 26, 27, 28, 29, 30, 31, 32, 33, 34] ⟨rfl, rfl, by decide +kernel, by decide +kernel, by decide +kernel⟩ rfl rfl (fun _ _ _ => trivial) dX11_echo_23 rfl rfl (Nat.le_of_ble_eq_true rfl) ⟨Nat.le_of_ble_eq_true rfl, Nat.le_of_ble_eq_true rfl⟩ ⟨Nat.le_of_ble_eq_true rfl, Nat.le_of_ble_eq_true rfl⟩ (fun zr10 zu10 H locs hw10 hP9 hD9 hS9 => ?_)
    clear hP hD hS
    refine reW [wO x0 11 [.ref t0, .ref d0, .ref h0, .ref o0, .ref n0, .ref u0, .ref k0, .ref q0, .ref p0, .ref s0, .ref b0, .ref z0, .ref ly, .int 0], wO n0 5 [.ref n1, .ref n2, .ref n3, .int fu, .int (nI cu), .int (nI un), .int (nI re)], wI (cy 1) n1 41 (fn), wO s0 7 [.ref s1, .ref s2, .int (nI sl), .int spl, .int svo, .int swi, .int sch], wI (cy 1) s1 10 (fw), wI (cy 1) s2 4 (fsn), wI (cy 1) h5 4 (fmp), wI (cy 1) h6 4 (fmv), wO k0 0 [.ref er, .ref ro, .int bo], (er, .inl (cy 4, 4, .inr (.inr (.inr (.inr (eF (ea 0) (ea 1) (ea 2) (ea 3))))))), wI (cy 1) ro 20 (fr), wO (ea 0) 2 [.ref (eg 0), .ref (ef 0), .int (et 0), .int (nI (el 0)), .int (nI (ei 0))], wI (cy 1) (eg 0) 10 (gc 0), wI (cy 1) (ef 0) 7 (xc 0), wO (ea 1) 2 [.ref (eg 1), .ref (ef 1), .int (et 1), .int (nI (el 1)), .int (nI (ei 1))], wI (cy 1) (eg 1) 10 (gc 1), wI (cy 1) (ef 1) 7 (xc 1), wO (ea 2) 2 [.ref (eg 2), .ref (ef 2), .int (et 2), .int (nI (el 2)), .int (nI (ei 2))], wI (cy 1) (eg 2) 10 (gc 2), wI (cy 1) (ef 2) 7 (xc 2), wO (ea 3) 2 [.ref (eg 3), .ref (ef 3), .int (et 3), .int (nI (el 3)), .int (nI (ei 3))], wI (cy 1) (eg 3) 10 (gc 3), wI (cy 1) (ef 3) 7 (xc 3), wI (cy 1) h3 4 (fp), wI (cy 1) h2 8 (flo), wO h9 3 [.ref h9a, .ref h9b, .int (nI nb), .int tb], wI (cy 1) h9a 280 (fcb), wI (cy 1) h9b 31 (fsb), wO h11 3 [.ref h11a, .ref h11b, .int (nI nt), .int tt], wI (cy 1) h11a 280 (fct), wI (cy 1) h11b 31 (fst), wO h10 3 [.ref h10a, .ref h10b, .int (nI nl), .int tl], wI (cy 1) h10a 280 (fcl), wI (cy 1) h10b 31 (fsl), wI (cy 1) ly 10 (fyl), wO h0 4 [.ref h1, .ref h2, .ref h3, .ref h4, .ref h5, .ref h6, .ref h7, .ref h8, .ref h9, .ref h10, .ref h11, .int ys, .int hon, .int hwi, .int hdr, .int hu], wI (cy 1) h1 4 (fc)] hP9 hD9 hS9 (fun hP hD hS => ?_)
    clear hP9 hD9 hS9
    refine W.widen (k := 0) (n := 0) (Nat.le_of_ble_eq_true rfl) (Nat.le_of_ble_eq_true rfl) ?_
    replace hw10 : (zr10 = 0 ∨ (zr10 = 1 ∧ ∃ j : Nat, j < c1 ∧ xk = nI j)) ∧ (zr10 = 0 → ¬ inR xk c1) := hw10
    obtain ⟨f_11, f_12⟩ := hw10
    rcases f_11 with hz_14 | ⟨hz_14, j_13, hj_13, ej_13⟩
    · subst hz_14
      refine lv_if_ne (tgt := 31) hx hb dX11_echo_26 (by decide) (fun h => absurd (by decide) h) (fun _ => ?_)
      refine lv_iconst (v := -1) hx hb dX11_echo_29 (by decide) ?_
      exact x_iret hQ hx hb hr hlocks hK hP hD hS dX11_echo_30 (fsb, fsl, fst, fr, (fun k => [et 0, et 1, et 2, et 3].getD k 0), (fun k => [(el 0), (el 1), (el 2), (el 3)].getD k 0), (fun k => [(ei 0), (ei 1), (ei 2), (ei 3)].getD k 0), (fun k => [gc 0, gc 1, gc 2, gc 3].getD k (fun _ => 0)), (fun k => [xc 0, xc 1, xc 2, xc 3].getD k (fun _ => 0)), sl, spl, svo, swi, sch, fw, fsn, 0, fyl) (⟨get4 (by omega) (by omega) (by omega) (by omega), hrw, (show sl ≤ 10 from by omega), hsw, (show 0 ≤ 10 from by omega)⟩) [0, 1, 2, 3, 4, 5, 35, 6, 7, 36, 8, 9, 10, 11, 12, 13, 14, 15, 16, 17, 18, 19, 20, 21, 22, 23, 24, 25, 26, 27, 28, 29, 30, 31, 32, 33, 34] (by decide +kernel) rfl (Nat.le_of_ble_eq_true rfl) (Nat.le_of_ble_eq_true rfl)
    · subst hz_14
      subst ej_13
      refine lv_if_ne (tgt := 31) hx hb dX11_echo_26 (by decide) (fun _ => ?_) (fun h => absurd h (by decide))
      refine lv_aload_n hx hb dX11_echo_31 rfl (lv_at hl 0 rfl) ?_
      refine lv_iload_n hx hb dX11_echo_32 rfl (lv_at hl 1 rfl) ?_
      refine x_callVv (q := (RX11, TX11, 14)) (ci := 11) (q0 := 0) (wr := [wO k0 0 [.ref er, .ref ro, .int bo], (er, .inl (cy 4, 4, .inr (.inr (.inr (.inr (eF (ea 0) (ea 1) (ea 2) (ea 3))))))), wI (cy 1) ro 20 (fr), wO (ea 0) 2 [.ref (eg 0), .ref (ef 0), .int (et 0), .int (nI (el 0)), .int (nI (ei 0))], wI (cy 1) (eg 0) 10 (gc 0), wI (cy 1) (ef 0) 7 (xc 0), wO (ea 1) 2 [.ref (eg 1), .ref (ef 1), .int (et 1), .int (nI (el 1)), .int (nI (ei 1))], wI (cy 1) (eg 1) 10 (gc 1), wI (cy 1) (ef 1) 7 (xc 1), wO (ea 2) 2 [.ref (eg 2), .ref (ef 2), .int (et 2), .int (nI (el 2)), .int (nI (ei 2))], wI (cy 1) (eg 2) 10 (gc 2), wI (cy 1) (ef 2) 7 (xc 2), wO (ea 3) 2 [.ref (eg 3), .ref (ef 3), .int (et 3), .int (nI (el 3)), .int (nI (ei 3))], wI (cy 1) (eg 3) 10 (gc 3), wI (cy 1) (ef 3) 7 (xc 3), wI (cy 1) h3 4 (fp), wI (cy 1) h2 8 (flo), wO h9 3 [.ref h9a, .ref h9b, .int (nI nb), .int tb], wI (cy 1) h9a 280 (fcb), wI (cy 1) h9b 31 (fsb), wO h11 3 [.ref h11a, .ref h11b, .int (nI nt), .int tt], wI (cy 1) h11a 280 (fct), wI (cy 1) h11b 31 (fst), wO h10 3 [.ref h10a, .ref h10b, .int (nI nl), .int tl], wI (cy 1) h10a 280 (fcl), wI (cy 1) h10b 31 (fsl), wI (cy 1) ly 10 (fyl), wI (cy 1) h1 4 (fc)]) (rest := []) ⟨hx, hb, hml, hown, hg, hl.1⟩ k_X11_161 (s_xprepare l D cy x0 t0 d0 h0 h1 h2 h3 h4 h5 h6 h7 h8 h9 h10 h11 o0 n0 n1 n2 n3 u0 k0 q0 p0 s0 s1 s2 b0 z0 ly ys hon hwi hdr hu fmp fmv fu cu un re fn sl spl svo swi sch fw fsn 0 j_8 (by omega) (by omega) (hno) (by omega) (hsw) (by omega) (by omega)) E0_blind hK hP hD hS hA [0, 1, 2, 3, 4, 5, 35, 6, 7] [8, 9, 10, 11, 12, 13, 14, 15, 16, 17, 18, 19, 20, 21, 22, 23, 24, 25, 26, 27, 28, 29, 30, 31, 32, 33, 34, 36] ⟨rfl, rfl, by decide +kernel, by decide +kernel, by decide +kernel⟩ rfl rfl (fun _ _ _ => trivial) dX11_echo_33 rfl rfl (Nat.le_of_ble_eq_true rfl) ⟨Nat.le_of_ble_eq_true rfl, Nat.le_of_ble_eq_true rfl⟩ ⟨Nat.le_of_ble_eq_true rfl, Nat.le_of_ble_eq_true rfl⟩ (fun zu15 H locs hw15 hP9 hD9 hS9 => ?_)
      clear hP hD hS
      obtain ⟨sl2_16, spl2_17, svo2_18, swi2_19, sch2_20, fw2_21, fsn2_22⟩ := zu15
      refine reW [wO k0 0 [.ref er, .ref ro, .int bo], (er, .inl (cy 4, 4, .inr (.inr (.inr (.inr (eF (ea 0) (ea 1) (ea 2) (ea 3))))))), wI (cy 1) ro 20 (fr), wO (ea 0) 2 [.ref (eg 0), .ref (ef 0), .int (et 0), .int (nI (el 0)), .int (nI (ei 0))], wI (cy 1) (eg 0) 10 (gc 0), wI (cy 1) (ef 0) 7 (xc 0), wO (ea 1) 2 [.ref (eg 1), .ref (ef 1), .int (et 1), .int (nI (el 1)), .int (nI (ei 1))], wI (cy 1) (eg 1) 10 (gc 1), wI (cy 1) (ef 1) 7 (xc 1), wO (ea 2) 2 [.ref (eg 2), .ref (ef 2), .int (et 2), .int (nI (el 2)), .int (nI (ei 2))], wI (cy 1) (eg 2) 10 (gc 2), wI (cy 1) (ef 2) 7 (xc 2), wO (ea 3) 2 [.ref (eg 3), .ref (ef 3), .int (et 3), .int (nI (el 3)), .int (nI (ei 3))], wI (cy 1) (eg 3) 10 (gc 3), wI (cy 1) (ef 3) 7 (xc 3), wI (cy 1) h3 4 (fp), wI (cy 1) h2 8 (flo), wO h9 3 [.ref h9a, .ref h9b, .int (nI nb), .int tb], wI (cy 1) h9a 280 (fcb), wI (cy 1) h9b 31 (fsb), wO h11 3 [.ref h11a, .ref h11b, .int (nI nt), .int tt], wI (cy 1) h11a 280 (fct), wI (cy 1) h11b 31 (fst), wO h10 3 [.ref h10a, .ref h10b, .int (nI nl), .int tl], wI (cy 1) h10a 280 (fcl), wI (cy 1) h10b 31 (fsl), wI (cy 1) ly 10 (fyl), wI (cy 1) h1 4 (fc), wO x0 11 [.ref t0, .ref d0, .ref h0, .ref o0, .ref n0, .ref u0, .ref k0, .ref q0, .ref p0, .ref s0, .ref b0, .ref z0, .ref ly, .int (nI 0)], wO n0 5 [.ref n1, .ref n2, .ref n3, .int fu, .int (nI cu), .int (nI un), .int (nI re)], wI (cy 1) n1 41 (fn), wO s0 7 [.ref s1, .ref s2, .int (nI sl2_16), .int spl2_17, .int svo2_18, .int swi2_19, .int sch2_20], wI (cy 1) s1 10 (fw2_21), wI (cy 1) s2 4 (fsn2_22), wO h0 4 [.ref h1, .ref h2, .ref h3, .ref h4, .ref h5, .ref h6, .ref h7, .ref h8, .ref h9, .ref h10, .ref h11, .int ys, .int hon, .int hwi, .int hdr, .int hu], wI (cy 1) h5 4 (fmp), wI (cy 1) h6 4 (fmv)] hP9 hD9 hS9 (fun hP hD hS => ?_)
      clear hP9 hD9 hS9
      refine W.widen (k := 0) (n := 0) (Nat.le_of_ble_eq_true rfl) (Nat.le_of_ble_eq_true rfl) ?_
      replace hw15 : (sl2_16 ≤ 10) ∧ (rng fw2_21 10 7) := hw15
      obtain ⟨f_23, f_24⟩ := hw15
      refine lv_aload_n hx hb dX11_echo_36 rfl (lv_at hl 0 rfl) ?_
      refine va_get (D := D) (ci := 11) (v := .ref k0) (C := RX11) (T := TX11) (N := 14) hx hb hg i_X11 hown hK hP 28 rfl rfl 6 (by decide) (hg _ m_664) (fun _ h9 => h9) rfl dX11_echo_37 ?_
      refine lv_aload_n hx hb dX11_echo_40 rfl (lv_at hl 0 rfl) ?_
      refine va_get (D := D) (ci := 11) (v := .ref h0) (C := RX11) (T := TX11) (N := 14) hx hb hg i_X11 hown hK hP 28 rfl rfl 2 (by decide) (hg _ m_660) (fun _ h9 => h9) rfl dX11_echo_41 ?_
      refine lv_aload_n hx hb dX11_echo_44 rfl (lv_at hl 0 rfl) ?_
      refine va_get (D := D) (ci := 11) (v := .ref s0) (C := RX11) (T := TX11) (N := 14) hx hb hg i_X11 hown hK hP 28 rfl rfl 9 (by decide) (hg _ m_667) (fun _ h9 => h9) rfl dX11_echo_45 ?_
      refine lv_iload_n hx hb dX11_echo_48 rfl (lv_at hl 2 rfl) ?_
      refine lv_iconst (v := 0) hx hb dX11_echo_49 (by decide) ?_
      refine x_callVi (q := (RX0, TX0, 3)) (ci := 0) (q0 := 0) (wr := [wI (cy 1) ly 10 (fyl), wI (cy 1) h1 4 (fc), wO x0 11 [.ref t0, .ref d0, .ref h0, .ref o0, .ref n0, .ref u0, .ref k0, .ref q0, .ref p0, .ref s0, .ref b0, .ref z0, .ref ly, .int (nI 0)], wO n0 5 [.ref n1, .ref n2, .ref n3, .int fu, .int (nI cu), .int (nI un), .int (nI re)], wI (cy 1) n1 41 (fn), wI (cy 1) h5 4 (fmp), wI (cy 1) h6 4 (fmv)]) (rest := []) ⟨hx, hb, hml, hown, hg, hl.1⟩ k_X11_184 (s_listen l D cy k0 ro bo fr er ea eg ef et el ei gc xc h0 h1 h2 h3 h4 h5 h6 h7 h8 h9 h10 h11 ((.int ys)) ((.int hon)) ((.int hwi)) ((.int hdr)) ((.int hu)) fp flo h9a h9b nb tb fcb fsb h11a h11b nt tt fct fst h10a h10b nl tl fcl fsl s0 s1 s2 sl2_16 spl2_17 svo2_18 swi2_19 sch2_20 fw2_21 fsn2_22 j_13 0 (fun i9 h9 => by rcases (show i9 = 0 ∨ i9 = 1 ∨ i9 = 2 ∨ i9 = 3 by omega) with rfl | rfl | rfl | rfl <;> omega) (by omega) (hcb) (by omega) (hct) (by omega) (hcl) (hrw) (by omega) (by omega) (f_24) (by omega)) E0_blind hK hP hD hS hA [0, 1, 2, 3, 4, 5, 6, 7, 8, 9, 10, 11, 12, 13, 14, 34, 15, 16, 17, 18, 19, 20, 21, 22, 23, 24, 25, 31, 32, 33] [26, 27, 28, 29, 30, 35, 36] ⟨rfl, rfl, by decide +kernel, by decide +kernel, by decide +kernel⟩ rfl rfl (fun _ _ _ => trivial) dX11_echo_50 rfl rfl (Nat.le_of_ble_eq_true rfl) ⟨Nat.le_of_ble_eq_true rfl, Nat.le_of_ble_eq_true rfl⟩ ⟨Nat.le_of_ble_eq_true rfl, Nat.le_of_ble_eq_true rfl⟩ (fun zr25 zu25 H locs hw25 hP9 hD9 hS9 => ?_)
      clear hP hD hS
      obtain ⟨et2_26, el2_27, ei2_28, gc2_29, xc2_30, fsb2_31, fst2_32, fsl2_33, fr2_34, k_35⟩ := zu25
      refine reW [wI (cy 1) ly 10 (fyl), wI (cy 1) h1 4 (fc), wO x0 11 [.ref t0, .ref d0, .ref h0, .ref o0, .ref n0, .ref u0, .ref k0, .ref q0, .ref p0, .ref s0, .ref b0, .ref z0, .ref ly, .int (nI 0)], wO n0 5 [.ref n1, .ref n2, .ref n3, .int fu, .int (nI cu), .int (nI un), .int (nI re)], wI (cy 1) n1 41 (fn), wI (cy 1) h5 4 (fmp), wI (cy 1) h6 4 (fmv), wO k0 0 [.ref er, .ref ro, .int bo], (er, .inl (cy 4, 4, .inr (.inr (.inr (.inr (eF (ea 0) (ea 1) (ea 2) (ea 3))))))), wI (cy 1) ro 20 (fr2_34), wO (ea 0) 2 [.ref (eg 0), .ref (ef 0), .int (et2_26 0), .int (nI (el2_27 0)), .int (nI (ei2_28 0))], wI (cy 1) (eg 0) 10 (gc2_29 0), wI (cy 1) (ef 0) 7 (xc2_30 0), wO (ea 1) 2 [.ref (eg 1), .ref (ef 1), .int (et2_26 1), .int (nI (el2_27 1)), .int (nI (ei2_28 1))], wI (cy 1) (eg 1) 10 (gc2_29 1), wI (cy 1) (ef 1) 7 (xc2_30 1), wO (ea 2) 2 [.ref (eg 2), .ref (ef 2), .int (et2_26 2), .int (nI (el2_27 2)), .int (nI (ei2_28 2))], wI (cy 1) (eg 2) 10 (gc2_29 2), wI (cy 1) (ef 2) 7 (xc2_30 2), wO (ea 3) 2 [.ref (eg 3), .ref (ef 3), .int (et2_26 3), .int (nI (el2_27 3)), .int (nI (ei2_28 3))], wI (cy 1) (eg 3) 10 (gc2_29 3), wI (cy 1) (ef 3) 7 (xc2_30 3), wO h0 4 [.ref h1, .ref h2, .ref h3, .ref h4, .ref h5, .ref h6, .ref h7, .ref h8, .ref h9, .ref h10, .ref h11, .int ys, .int hon, .int hwi, .int hdr, .int hu], wI (cy 1) h3 4 (fp), wI (cy 1) h2 8 (flo), wO h9 3 [.ref h9a, .ref h9b, .int (nI nb), .int tb], wI (cy 1) h9a 280 (fcb), wI (cy 1) h9b 31 (fsb2_31), wO h11 3 [.ref h11a, .ref h11b, .int (nI nt), .int tt], wI (cy 1) h11a 280 (fct), wI (cy 1) h11b 31 (fst2_32), wO h10 3 [.ref h10a, .ref h10b, .int (nI nl), .int tl], wI (cy 1) h10a 280 (fcl), wI (cy 1) h10b 31 (fsl2_33), wO s0 7 [.ref s1, .ref s2, .int (nI sl2_16), .int spl2_17, .int svo2_18, .int swi2_19, .int sch2_20], wI (cy 1) s1 10 (fw2_21), wI (cy 1) s2 4 (fsn2_22)] hP9 hD9 hS9 (fun hP hD hS => ?_)
      clear hP9 hD9 hS9
      refine W.widen (k := 0) (n := 0) (Nat.le_of_ble_eq_true rfl) (Nat.le_of_ble_eq_true rfl) ?_
      replace hw25 : (zr25 = nI k_35) ∧ (k_35 ≤ 20) ∧ (k_35 ≤ 0 + sl2_16) ∧ (rng fr2_34 20 7) ∧ (∀ i9, i9 < 4 → el2_27 i9 ≤ 10) := hw25
      obtain ⟨f_36, f_37, f_38, f_39, f_40⟩ := hw25
      subst f_36
      have hk_41 := f_40 0 (by decide)
      have hk_42 := f_40 1 (by decide)
      have hk_43 := f_40 2 (by decide)
      have hk_44 := f_40 3 (by decide)
      refine lv_istore_n (lv' := [(3, .int (nI k_35)), (0, .ref x0), (1, .int (nI j_8)), (2, .int (nI j_13))]) hx hb dX11_echo_53 rfl hl (by decide) rfl (fun ls hl => ?_)
      refine lv_aload_n hx hb dX11_echo_54 rfl (lv_at hl 1 rfl) ?_
      refine lv_aload_n hx hb dX11_echo_55 rfl (lv_at hl 1 rfl) ?_
      refine va_get (D := D) (ci := 11) (v := .ref k0) (C := RX11) (T := TX11) (N := 14) hx hb hg i_X11 hown hK hP 2 rfl rfl 6 (by decide) (hg _ m_664) (fun _ h9 => h9) rfl dX11_echo_56 ?_
      refine va_get (D := D) (ci := 0) (v := .ref ro) (C := RX0) (T := TX0) (N := 3) hx hb hg i_X0 hown hK hP 7 rfl rfl 1 (by decide) (hg _ m_536) (fun _ h9 => h9) rfl dX11_echo_59 ?_
      refine lv_iload_n hx hb dX11_echo_62 rfl (lv_at hl 0 rfl) ?_
      refine x_callVv (q := (RX11, TX11, 14)) (ci := 11) (q0 := 0) (wr := [wI (cy 1) h1 4 (fc), wO n0 5 [.ref n1, .ref n2, .ref n3, .int fu, .int (nI cu), .int (nI un), .int (nI re)], wI (cy 1) n1 41 (fn), wI (cy 1) h5 4 (fmp), wI (cy 1) h6 4 (fmv), wO k0 0 [.ref er, .ref ro, .int bo], (er, .inl (cy 4, 4, .inr (.inr (.inr (.inr (eF (ea 0) (ea 1) (ea 2) (ea 3))))))), wO (ea 0) 2 [.ref (eg 0), .ref (ef 0), .int (et2_26 0), .int (nI (el2_27 0)), .int (nI (ei2_28 0))], wI (cy 1) (eg 0) 10 (gc2_29 0), wI (cy 1) (ef 0) 7 (xc2_30 0), wO (ea 1) 2 [.ref (eg 1), .ref (ef 1), .int (et2_26 1), .int (nI (el2_27 1)), .int (nI (ei2_28 1))], wI (cy 1) (eg 1) 10 (gc2_29 1), wI (cy 1) (ef 1) 7 (xc2_30 1), wO (ea 2) 2 [.ref (eg 2), .ref (ef 2), .int (et2_26 2), .int (nI (el2_27 2)), .int (nI (ei2_28 2))], wI (cy 1) (eg 2) 10 (gc2_29 2), wI (cy 1) (ef 2) 7 (xc2_30 2), wO (ea 3) 2 [.ref (eg 3), .ref (ef 3), .int (et2_26 3), .int (nI (el2_27 3)), .int (nI (ei2_28 3))], wI (cy 1) (eg 3) 10 (gc2_29 3), wI (cy 1) (ef 3) 7 (xc2_30 3), wO h0 4 [.ref h1, .ref h2, .ref h3, .ref h4, .ref h5, .ref h6, .ref h7, .ref h8, .ref h9, .ref h10, .ref h11, .int ys, .int hon, .int hwi, .int hdr, .int hu], wI (cy 1) h3 4 (fp), wI (cy 1) h2 8 (flo), wO h9 3 [.ref h9a, .ref h9b, .int (nI nb), .int tb], wI (cy 1) h9a 280 (fcb), wI (cy 1) h9b 31 (fsb2_31), wO h11 3 [.ref h11a, .ref h11b, .int (nI nt), .int tt], wI (cy 1) h11a 280 (fct), wI (cy 1) h11b 31 (fst2_32), wO h10 3 [.ref h10a, .ref h10b, .int (nI nl), .int tl], wI (cy 1) h10a 280 (fcl), wI (cy 1) h10b 31 (fsl2_33), wO s0 7 [.ref s1, .ref s2, .int (nI sl2_16), .int spl2_17, .int svo2_18, .int swi2_19, .int sch2_20], wI (cy 1) s1 10 (fw2_21), wI (cy 1) s2 4 (fsn2_22)]) (rest := []) ⟨hx, hb, hml, hown, hg, hl.1⟩ k_X11_191 (s_xlayDown_ro l D cy x0 t0 d0 h0 o0 n0 u0 k0 q0 p0 s0 b0 z0 ly 0 ro fr2_34 fyl k_35 (by omega) (f_39)) E0_blind hK hP hD hS hA [2, 9, 0] [1, 3, 4, 5, 6, 7, 8, 10, 11, 12, 13, 14, 15, 16, 17, 18, 19, 20, 21, 22, 23, 24, 25, 26, 27, 28, 29, 30, 31, 32, 33, 34, 35, 36] ⟨rfl, rfl, by decide +kernel, by decide +kernel, by decide +kernel⟩ rfl rfl (fun _ _ _ => trivial) dX11_echo_63 rfl rfl (Nat.le_of_ble_eq_true rfl) ⟨Nat.le_of_ble_eq_true rfl, Nat.le_of_ble_eq_true rfl⟩ ⟨Nat.le_of_ble_eq_true rfl, Nat.le_of_ble_eq_true rfl⟩ (fun zu45 H locs hw45 hP9 hD9 hS9 => ?_)
      clear hP hD hS
      obtain ⟨fyl2_46, rfl⟩ : ∃ z, z = zu45 := ⟨_, rfl⟩
      refine reW [wI (cy 1) h1 4 (fc), wO n0 5 [.ref n1, .ref n2, .ref n3, .int fu, .int (nI cu), .int (nI un), .int (nI re)], wI (cy 1) n1 41 (fn), wI (cy 1) h5 4 (fmp), wI (cy 1) h6 4 (fmv), wO k0 0 [.ref er, .ref ro, .int bo], (er, .inl (cy 4, 4, .inr (.inr (.inr (.inr (eF (ea 0) (ea 1) (ea 2) (ea 3))))))), wO (ea 0) 2 [.ref (eg 0), .ref (ef 0), .int (et2_26 0), .int (nI (el2_27 0)), .int (nI (ei2_28 0))], wI (cy 1) (eg 0) 10 (gc2_29 0), wI (cy 1) (ef 0) 7 (xc2_30 0), wO (ea 1) 2 [.ref (eg 1), .ref (ef 1), .int (et2_26 1), .int (nI (el2_27 1)), .int (nI (ei2_28 1))], wI (cy 1) (eg 1) 10 (gc2_29 1), wI (cy 1) (ef 1) 7 (xc2_30 1), wO (ea 2) 2 [.ref (eg 2), .ref (ef 2), .int (et2_26 2), .int (nI (el2_27 2)), .int (nI (ei2_28 2))], wI (cy 1) (eg 2) 10 (gc2_29 2), wI (cy 1) (ef 2) 7 (xc2_30 2), wO (ea 3) 2 [.ref (eg 3), .ref (ef 3), .int (et2_26 3), .int (nI (el2_27 3)), .int (nI (ei2_28 3))], wI (cy 1) (eg 3) 10 (gc2_29 3), wI (cy 1) (ef 3) 7 (xc2_30 3), wO h0 4 [.ref h1, .ref h2, .ref h3, .ref h4, .ref h5, .ref h6, .ref h7, .ref h8, .ref h9, .ref h10, .ref h11, .int ys, .int hon, .int hwi, .int hdr, .int hu], wI (cy 1) h3 4 (fp), wI (cy 1) h2 8 (flo), wO h9 3 [.ref h9a, .ref h9b, .int (nI nb), .int tb], wI (cy 1) h9a 280 (fcb), wI (cy 1) h9b 31 (fsb2_31), wO h11 3 [.ref h11a, .ref h11b, .int (nI nt), .int tt], wI (cy 1) h11a 280 (fct), wI (cy 1) h11b 31 (fst2_32), wO h10 3 [.ref h10a, .ref h10b, .int (nI nl), .int tl], wI (cy 1) h10a 280 (fcl), wI (cy 1) h10b 31 (fsl2_33), wO s0 7 [.ref s1, .ref s2, .int (nI sl2_16), .int spl2_17, .int svo2_18, .int swi2_19, .int sch2_20], wI (cy 1) s1 10 (fw2_21), wI (cy 1) s2 4 (fsn2_22), wO x0 11 [.ref t0, .ref d0, .ref h0, .ref o0, .ref n0, .ref u0, .ref k0, .ref q0, .ref p0, .ref s0, .ref b0, .ref z0, .ref ly, .int (nI k_35)], wI (cy 1) ro 20 (fr2_34), wI (cy 1) ly 10 (fyl2_46)] hP9 hD9 hS9 (fun hP hD hS => ?_)
      clear hP9 hD9 hS9
      refine W.widen (k := 0) (n := 0) (Nat.le_of_ble_eq_true rfl) (Nat.le_of_ble_eq_true rfl) ?_
      refine lv_iload_n hx hb dX11_echo_66 rfl (lv_at hl 0 rfl) ?_
      exact x_iret hQ hx hb hr hlocks hK hP hD hS dX11_echo_67 (fsb2_31, fsl2_33, fst2_32, fr2_34, (fun k => [et2_26 0, et2_26 1, et2_26 2, et2_26 3].getD k 0), (fun k => [(el2_27 0), (el2_27 1), (el2_27 2), (el2_27 3)].getD k 0), (fun k => [(ei2_28 0), (ei2_28 1), (ei2_28 2), (ei2_28 3)].getD k 0), (fun k => [gc2_29 0, gc2_29 1, gc2_29 2, gc2_29 3].getD k (fun _ => 0)), (fun k => [xc2_30 0, xc2_30 1, xc2_30 2, xc2_30 3].getD k (fun _ => 0)), sl2_16, spl2_17, svo2_18, swi2_19, sch2_20, fw2_21, fsn2_22, k_35, fyl2_46) (⟨get4 (by omega) (by omega) (by omega) (by omega), f_39, (show sl2_16 ≤ 10 from by omega), f_24, (show k_35 ≤ 10 from by omega)⟩) [34, 1, 2, 31, 32, 33, 19, 3, 4, 0, 5, 6, 35, 7, 8, 9, 10, 11, 12, 13, 14, 15, 16, 17, 18, 20, 21, 22, 23, 24, 25, 26, 27, 28, 29, 30, 36] (by decide +kernel) rfl (Nat.le_of_ble_eq_true rfl) (Nat.le_of_ble_eq_true rfl)
theorem gdX11_answers_0 : decode cX11_answers 0 = .ok (.aload_n 0, 1) ∧ decode cX11_answers 1 = .ok (.getfield 28, 3) ∧ decode cX11_answers 4 = .ok (.iconst 2, 1) ∧ decode cX11_answers 5 = .ok (.iload_n 1, 1) ∧ decode cX11_answers 6 = .ok (.invokevirtual 120, 3) ∧ decode cX11_answers 9 = .ok (.ifCond .eq 12, 3) ∧ decode cX11_answers 21 = .ok (.iconst (-1), 1) ∧ decode cX11_answers 22 = .ok (.ireturn, 1) ∧ decode cX11_answers 12 = .ok (.iload_n 2, 1) ∧ decode cX11_answers 13 = .ok (.ifCond .lt 8, 3) ∧ decode cX11_answers 16 = .ok (.iload_n 2, 1) ∧ decode cX11_answers 17 = .ok (.iconst 1, 1) := by decide +kernel
theorem dX11_answers_0 : decode cX11_answers 0 = .ok (.aload_n 0, 1) := gdX11_answers_0.1
theorem dX11_answers_1 : decode cX11_answers 1 = .ok (.getfield 28, 3) := gdX11_answers_0.2.1
theorem dX11_answers_4 : decode cX11_answers 4 = .ok (.iconst 2, 1) := gdX11_answers_0.2.2.1
theorem dX11_answers_5 : decode cX11_answers 5 = .ok (.iload_n 1, 1) := gdX11_answers_0.2.2.2.1
theorem dX11_answers_6 : decode cX11_answers 6 = .ok (.invokevirtual 120, 3) := gdX11_answers_0.2.2.2.2.1
theorem dX11_answers_9 : decode cX11_answers 9 = .ok (.ifCond .eq 12, 3) := gdX11_answers_0.2.2.2.2.2.1
theorem dX11_answers_21 : decode cX11_answers 21 = .ok (.iconst (-1), 1) := gdX11_answers_0.2.2.2.2.2.2.1
theorem dX11_answers_22 : decode cX11_answers 22 = .ok (.ireturn, 1) := gdX11_answers_0.2.2.2.2.2.2.2.1
theorem dX11_answers_12 : decode cX11_answers 12 = .ok (.iload_n 2, 1) := gdX11_answers_0.2.2.2.2.2.2.2.2.1
theorem dX11_answers_13 : decode cX11_answers 13 = .ok (.ifCond .lt 8, 3) := gdX11_answers_0.2.2.2.2.2.2.2.2.2.1
theorem dX11_answers_16 : decode cX11_answers 16 = .ok (.iload_n 2, 1) := gdX11_answers_0.2.2.2.2.2.2.2.2.2.2.1
theorem dX11_answers_17 : decode cX11_answers 17 = .ok (.iconst 1, 1) := gdX11_answers_0.2.2.2.2.2.2.2.2.2.2.2
theorem gdX11_answers_18 : decode cX11_answers 18 = .ok (.if_icmp .le 5, 3) ∧ decode cX11_answers 23 = .ok (.aload_n 0, 1) ∧ decode cX11_answers 24 = .ok (.iload_n 1, 1) ∧ decode cX11_answers 25 = .ok (.invokevirtual 161, 3) ∧ decode cX11_answers 28 = .ok (.iconst 0, 1) ∧ decode cX11_answers 29 = .ok (.istore_n 3, 1) ∧ decode cX11_answers 30 = .ok (.iconst 0, 1) ∧ decode cX11_answers 31 = .ok (.istore 4, 2) ∧ decode cX11_answers 33 = .ok (.iload 4, 2) ∧ decode cX11_answers 35 = .ok (.aload_n 0, 1) ∧ decode cX11_answers 36 = .ok (.getfield 28, 3) ∧ decode cX11_answers 39 = .ok (.getfield 111, 3) := by decide +kernel
theorem dX11_answers_18 : decode cX11_answers 18 = .ok (.if_icmp .le 5, 3) := gdX11_answers_18.1
theorem dX11_answers_23 : decode cX11_answers 23 = .ok (.aload_n 0, 1) := gdX11_answers_18.2.1
theorem dX11_answers_24 : decode cX11_answers 24 = .ok (.iload_n 1, 1) := gdX11_answers_18.2.2.1
theorem dX11_answers_25 : decode cX11_answers 25 = .ok (.invokevirtual 161, 3) := gdX11_answers_18.2.2.2.1
theorem dX11_answers_28 : decode cX11_answers 28 = .ok (.iconst 0, 1) := gdX11_answers_18.2.2.2.2.1
theorem dX11_answers_29 : decode cX11_answers 29 = .ok (.istore_n 3, 1) := gdX11_answers_18.2.2.2.2.2.1
theorem dX11_answers_30 : decode cX11_answers 30 = .ok (.iconst 0, 1) := gdX11_answers_18.2.2.2.2.2.2.1
theorem dX11_answers_31 : decode cX11_answers 31 = .ok (.istore 4, 2) := gdX11_answers_18.2.2.2.2.2.2.2.1
theorem dX11_answers_33 : decode cX11_answers 33 = .ok (.iload 4, 2) := gdX11_answers_18.2.2.2.2.2.2.2.2.1
theorem dX11_answers_35 : decode cX11_answers 35 = .ok (.aload_n 0, 1) := gdX11_answers_18.2.2.2.2.2.2.2.2.2.1
theorem dX11_answers_36 : decode cX11_answers 36 = .ok (.getfield 28, 3) := gdX11_answers_18.2.2.2.2.2.2.2.2.2.2.1
theorem dX11_answers_39 : decode cX11_answers 39 = .ok (.getfield 111, 3) := gdX11_answers_18.2.2.2.2.2.2.2.2.2.2.2
theorem gdX11_answers_42 : decode cX11_answers 42 = .ok (.iconst 1, 1) ∧ decode cX11_answers 43 = .ok (.iaload, 1) ∧ decode cX11_answers 44 = .ok (.if_icmp .ge 67, 3) ∧ decode cX11_answers 111 = .ok (.iload_n 3, 1) ∧ decode cX11_answers 112 = .ok (.ireturn, 1) ∧ decode cX11_answers 47 = .ok (.aload_n 0, 1) ∧ decode cX11_answers 48 = .ok (.getfield 52, 3) ∧ decode cX11_answers 51 = .ok (.aload_n 0, 1) ∧ decode cX11_answers 52 = .ok (.getfield 28, 3) ∧ decode cX11_answers 55 = .ok (.aload_n 0, 1) ∧ decode cX11_answers 56 = .ok (.getfield 75, 3) ∧ decode cX11_answers 59 = .ok (.iload 4, 2) := by decide +kernel
theorem dX11_answers_42 : decode cX11_answers 42 = .ok (.iconst 1, 1) := gdX11_answers_42.1
theorem dX11_answers_43 : decode cX11_answers 43 = .ok (.iaload, 1) := gdX11_answers_42.2.1
theorem dX11_answers_44 : decode cX11_answers 44 = .ok (.if_icmp .ge 67, 3) := gdX11_answers_42.2.2.1
theorem dX11_answers_111 : decode cX11_answers 111 = .ok (.iload_n 3, 1) := gdX11_answers_42.2.2.2.1
theorem dX11_answers_112 : decode cX11_answers 112 = .ok (.ireturn, 1) := gdX11_answers_42.2.2.2.2.1
theorem dX11_answers_47 : decode cX11_answers 47 = .ok (.aload_n 0, 1) := gdX11_answers_42.2.2.2.2.2.1
theorem dX11_answers_48 : decode cX11_answers 48 = .ok (.getfield 52, 3) := gdX11_answers_42.2.2.2.2.2.2.1
theorem dX11_answers_51 : decode cX11_answers 51 = .ok (.aload_n 0, 1) := gdX11_answers_42.2.2.2.2.2.2.2.1
theorem dX11_answers_52 : decode cX11_answers 52 = .ok (.getfield 28, 3) := gdX11_answers_42.2.2.2.2.2.2.2.2.1
theorem dX11_answers_55 : decode cX11_answers 55 = .ok (.aload_n 0, 1) := gdX11_answers_42.2.2.2.2.2.2.2.2.2.1
theorem dX11_answers_56 : decode cX11_answers 56 = .ok (.getfield 75, 3) := gdX11_answers_42.2.2.2.2.2.2.2.2.2.2.1
theorem dX11_answers_59 : decode cX11_answers 59 = .ok (.iload 4, 2) := gdX11_answers_42.2.2.2.2.2.2.2.2.2.2.2
theorem gdX11_answers_61 : decode cX11_answers 61 = .ok (.iconst 0, 1) ∧ decode cX11_answers 62 = .ok (.invokevirtual 184, 3) ∧ decode cX11_answers 65 = .ok (.istore 5, 2) ∧ decode cX11_answers 67 = .ok (.iload_n 2, 1) ∧ decode cX11_answers 68 = .ok (.ifCond .ne 11, 3) ∧ decode cX11_answers 79 = .ok (.aload_n 0, 1) ∧ decode cX11_answers 80 = .ok (.getfield 28, 3) ∧ decode cX11_answers 83 = .ok (.aload_n 0, 1) ∧ decode cX11_answers 84 = .ok (.getfield 52, 3) ∧ decode cX11_answers 87 = .ok (.getfield 188, 3) ∧ decode cX11_answers 90 = .ok (.iload 5, 2) ∧ decode cX11_answers 92 = .ok (.invokevirtual 195, 3) := by decide +kernel
theorem dX11_answers_61 : decode cX11_answers 61 = .ok (.iconst 0, 1) := gdX11_answers_61.1
theorem dX11_answers_62 : decode cX11_answers 62 = .ok (.invokevirtual 184, 3) := gdX11_answers_61.2.1
theorem dX11_answers_65 : decode cX11_answers 65 = .ok (.istore 5, 2) := gdX11_answers_61.2.2.1
theorem dX11_answers_67 : decode cX11_answers 67 = .ok (.iload_n 2, 1) := gdX11_answers_61.2.2.2.1
theorem dX11_answers_68 : decode cX11_answers 68 = .ok (.ifCond .ne 11, 3) := gdX11_answers_61.2.2.2.2.1
theorem dX11_answers_79 : decode cX11_answers 79 = .ok (.aload_n 0, 1) := gdX11_answers_61.2.2.2.2.2.1
theorem dX11_answers_80 : decode cX11_answers 80 = .ok (.getfield 28, 3) := gdX11_answers_61.2.2.2.2.2.2.1
theorem dX11_answers_83 : decode cX11_answers 83 = .ok (.aload_n 0, 1) := gdX11_answers_61.2.2.2.2.2.2.2.1
theorem dX11_answers_84 : decode cX11_answers 84 = .ok (.getfield 52, 3) := gdX11_answers_61.2.2.2.2.2.2.2.2.1
theorem dX11_answers_87 : decode cX11_answers 87 = .ok (.getfield 188, 3) := gdX11_answers_61.2.2.2.2.2.2.2.2.2.1
theorem dX11_answers_90 : decode cX11_answers 90 = .ok (.iload 5, 2) := gdX11_answers_61.2.2.2.2.2.2.2.2.2.2.1
theorem dX11_answers_92 : decode cX11_answers 92 = .ok (.invokevirtual 195, 3) := gdX11_answers_61.2.2.2.2.2.2.2.2.2.2.2
theorem k_X11_195 : xV RX11 RX4 195 yX4_isYes cX4_isYes 5 (some .boolean) 2 := ⟨⟨m_1133, m_1073, m_1074, m_137, m_1075⟩, rfl, by decide, by decide, by decide +kernel⟩
theorem gdX11_answers_95 : decode cX11_answers 95 = .ok (.ifCond .eq 10, 3) ∧ decode cX11_answers 105 = .ok (.iinc 4 1, 3) ∧ decode cX11_answers 108 = .ok (.goto (-75), 3) ∧ decode cX11_answers 98 = .ok (.iload_n 3, 1) ∧ decode cX11_answers 99 = .ok (.iconst 1, 1) ∧ decode cX11_answers 100 = .ok (.iload 4, 2) ∧ decode cX11_answers 102 = .ok (.ishl, 1) ∧ decode cX11_answers 103 = .ok (.ior, 1) ∧ decode cX11_answers 104 = .ok (.istore_n 3, 1) ∧ decode cX11_answers 71 = .ok (.iload 5, 2) ∧ decode cX11_answers 73 = .ok (.ifCond .le 32, 3) ∧ decode cX11_answers 76 = .ok (.goto 22, 3) := by decide +kernel
theorem dX11_answers_95 : decode cX11_answers 95 = .ok (.ifCond .eq 10, 3) := gdX11_answers_95.1
theorem dX11_answers_105 : decode cX11_answers 105 = .ok (.iinc 4 1, 3) := gdX11_answers_95.2.1
theorem dX11_answers_108 : decode cX11_answers 108 = .ok (.goto (-75), 3) := gdX11_answers_95.2.2.1
theorem dX11_answers_98 : decode cX11_answers 98 = .ok (.iload_n 3, 1) := gdX11_answers_95.2.2.2.1
theorem dX11_answers_99 : decode cX11_answers 99 = .ok (.iconst 1, 1) := gdX11_answers_95.2.2.2.2.1
theorem dX11_answers_100 : decode cX11_answers 100 = .ok (.iload 4, 2) := gdX11_answers_95.2.2.2.2.2.1
theorem dX11_answers_102 : decode cX11_answers 102 = .ok (.ishl, 1) := gdX11_answers_95.2.2.2.2.2.2.1
theorem dX11_answers_103 : decode cX11_answers 103 = .ok (.ior, 1) := gdX11_answers_95.2.2.2.2.2.2.2.1
theorem dX11_answers_104 : decode cX11_answers 104 = .ok (.istore_n 3, 1) := gdX11_answers_95.2.2.2.2.2.2.2.2.1
theorem dX11_answers_71 : decode cX11_answers 71 = .ok (.iload 5, 2) := gdX11_answers_95.2.2.2.2.2.2.2.2.2.1
theorem dX11_answers_73 : decode cX11_answers 73 = .ok (.ifCond .le 32, 3) := gdX11_answers_95.2.2.2.2.2.2.2.2.2.2.1
theorem dX11_answers_76 : decode cX11_answers 76 = .ok (.goto 22, 3) := gdX11_answers_95.2.2.2.2.2.2.2.2.2.2.2
set_option maxHeartbeats 1000000 in
set_option maxRecDepth 100000 in
theorem s_xanswers (l : Launch) (D : va_G) (cy : Nat → ClassId) (x0 : Nat) (t0 : Nat) (d0 : Nat) (h0 : Nat) (h1 : Nat) (h2 : Nat) (h3 : Nat) (h4 : Nat) (h5 : Nat) (h6 : Nat) (h7 : Nat) (h8 : Nat) (h9 : Nat) (h10 : Nat) (h11 : Nat) (h9a : Nat) (h9b : Nat) (h10a : Nat) (h10b : Nat) (h11a : Nat) (h11b : Nat) (o0 : Nat) (n0 : Nat) (n1 : Nat) (n2 : Nat) (n3 : Nat) (u0 : Nat) (k0 : Nat) (er : Nat) (ro : Nat) (ea : Nat → Nat) (eg : Nat → Nat) (ef : Nat → Nat) (q0 : Nat) (p0 : Nat) (s0 : Nat) (s1 : Nat) (s2 : Nat) (b0 : Nat) (z0 : Nat) (ly : Nat) (ys : Int32) (hon : Int32) (hwi : Int32) (hdr : Int32) (hu : Int32) (fc : Nat → Int32) (c0 : Nat) (c1 : Nat) (c2 : Nat) (c3 : Nat) (flo : Nat → Int32) (fp : Nat → Int32) (fmp : Nat → Int32) (fmv : Nat → Int32) (fx : Nat → Int32) (nb : Nat) (tb : Int32) (fcb : Nat → Int32) (fsb : Nat → Int32) (nl : Nat) (tl : Int32) (fcl : Nat → Int32) (fsl : Nat → Int32) (nt : Nat) (tt : Int32) (fct : Nat → Int32) (fst : Nat → Int32) (fu : Int32) (cu : Nat) (un : Nat) (re : Nat) (fn : Nat → Int32) (bo : Int32) (fr : Nat → Int32) (et : Nat → Int32) (el : Nat → Nat) (ei : Nat → Nat) (gc : Nat → Nat → Int32) (xc : Nat → Nat → Int32) (sl : Nat) (spl : Int32) (svo : Int32) (swi : Int32) (sch : Int32) (fw : Nat → Int32) (fsn : Nat → Int32) (yc : Nat) (xm : Int32) (wh : Int32) (hcn : cntOK fc c0 c1 c2 c3) (hc0 : c0 ≤ 8) (hc1 : c1 ≤ 4) (hc2 : c2 ≤ 4) (hc3 : c3 ≤ 6) (hnx : rng fx 48 5) (hnb : nb ≤ 280) (hcb : cOK fcb nb) (hnt : nt ≤ 280) (hct : cOK fct nt) (hnl : nl ≤ 280) (hcl : cOK fcl nl) (hcu : cu ≤ 40) (hur : un + re ≤ 40) (hno : mRows fn 1) (hel : ∀ i9, i9 < 4 → el i9 ≤ 10) (hrw : rng fr 20 7) (hsl : sl ≤ 10) (hsw : rng fw 10 7) (hyc : yc ≤ 10) : XMi l D (tyL cy) E0 yX11_answers cX11_answers 6 (some .int) (rmk 6 0 0) [.ref x0, .int xm, .int wh] [wO x0 11 [.ref t0, .ref d0, .ref h0, .ref o0, .ref n0, .ref u0, .ref k0, .ref q0, .ref p0, .ref s0, .ref b0, .ref z0, .ref ly, .int (nI yc)], wO n0 5 [.ref n1, .ref n2, .ref n3, .int fu, .int (nI cu), .int (nI un), .int (nI re)], wI (cy 1) n1 41 (fn), wO s0 7 [.ref s1, .ref s2, .int (nI sl), .int spl, .int svo, .int swi, .int sch], wI (cy 1) s1 10 (fw), wI (cy 1) s2 4 (fsn), wO h0 4 [.ref h1, .ref h2, .ref h3, .ref h4, .ref h5, .ref h6, .ref h7, .ref h8, .ref h9, .ref h10, .ref h11, .int ys, .int hon, .int hwi, .int hdr, .int hu], wI (cy 1) h5 4 (fmp), wI (cy 1) h6 4 (fmv), wO k0 0 [.ref er, .ref ro, .int bo], (er, .inl (cy 4, 4, .inr (.inr (.inr (.inr (eF (ea 0) (ea 1) (ea 2) (ea 3))))))), wI (cy 1) ro 20 (fr), wO (ea 0) 2 [.ref (eg 0), .ref (ef 0), .int (et 0), .int (nI (el 0)), .int (nI (ei 0))], wI (cy 1) (eg 0) 10 (gc 0), wI (cy 1) (ef 0) 7 (xc 0), wO (ea 1) 2 [.ref (eg 1), .ref (ef 1), .int (et 1), .int (nI (el 1)), .int (nI (ei 1))], wI (cy 1) (eg 1) 10 (gc 1), wI (cy 1) (ef 1) 7 (xc 1), wO (ea 2) 2 [.ref (eg 2), .ref (ef 2), .int (et 2), .int (nI (el 2)), .int (nI (ei 2))], wI (cy 1) (eg 2) 10 (gc 2), wI (cy 1) (ef 2) 7 (xc 2), wO (ea 3) 2 [.ref (eg 3), .ref (ef 3), .int (et 3), .int (nI (el 3)), .int (nI (ei 3))], wI (cy 1) (eg 3) 10 (gc 3), wI (cy 1) (ef 3) 7 (xc 3), wI (cy 1) h3 4 (fp), wI (cy 1) h2 8 (flo), wO h9 3 [.ref h9a, .ref h9b, .int (nI nb), .int tb], wI (cy 1) h9a 280 (fcb), wI (cy 1) h9b 31 (fsb), wO h11 3 [.ref h11a, .ref h11b, .int (nI nt), .int tt], wI (cy 1) h11a 280 (fct), wI (cy 1) h11b 31 (fst), wO h10 3 [.ref h10a, .ref h10b, .int (nI nl), .int tl], wI (cy 1) h10a 280 (fcl), wI (cy 1) h10b 31 (fsl), wI (cy 1) h1 4 (fc), wI (cy 1) h7 48 (fx)] (fun (r : Int32) (u : (Nat → Int32) × (Nat → Int32) × (Nat → Int32) × (Nat → Int32) × (Nat → Int32) × (Nat → Nat) × (Nat → Nat) × (Nat → Nat → Int32) × (Nat → Nat → Int32) × Nat × Int32 × Int32 × Int32 × Int32 × (Nat → Int32) × (Nat → Int32)) => (∀ i9, i9 < 4 → u.2.2.2.2.2.1 i9 ≤ 10) ∧ (rng u.2.2.2.1 20 7) ∧ (u.2.2.2.2.2.2.2.2.2.1 ≤ 10) ∧ (rng u.2.2.2.2.2.2.2.2.2.2.2.2.2.2.1 10 7)) (fun (u : (Nat → Int32) × (Nat → Int32) × (Nat → Int32) × (Nat → Int32) × (Nat → Int32) × (Nat → Nat) × (Nat → Nat) × (Nat → Nat → Int32) × (Nat → Nat → Int32) × Nat × Int32 × Int32 × Int32 × Int32 × (Nat → Int32) × (Nat → Int32)) => [wO x0 11 [.ref t0, .ref d0, .ref h0, .ref o0, .ref n0, .ref u0, .ref k0, .ref q0, .ref p0, .ref s0, .ref b0, .ref z0, .ref ly, .int (nI yc)], wO n0 5 [.ref n1, .ref n2, .ref n3, .int fu, .int (nI cu), .int (nI un), .int (nI re)], wI (cy 1) n1 41 (fn), wO s0 7 [.ref s1, .ref s2, .int (nI u.2.2.2.2.2.2.2.2.2.1), .int u.2.2.2.2.2.2.2.2.2.2.1, .int u.2.2.2.2.2.2.2.2.2.2.2.1, .int u.2.2.2.2.2.2.2.2.2.2.2.2.1, .int u.2.2.2.2.2.2.2.2.2.2.2.2.2.1], wI (cy 1) s1 10 (u.2.2.2.2.2.2.2.2.2.2.2.2.2.2.1), wI (cy 1) s2 4 (u.2.2.2.2.2.2.2.2.2.2.2.2.2.2.2), wO h0 4 [.ref h1, .ref h2, .ref h3, .ref h4, .ref h5, .ref h6, .ref h7, .ref h8, .ref h9, .ref h10, .ref h11, .int ys, .int hon, .int hwi, .int hdr, .int hu], wI (cy 1) h5 4 (fmp), wI (cy 1) h6 4 (fmv), wO k0 0 [.ref er, .ref ro, .int bo], (er, .inl (cy 4, 4, .inr (.inr (.inr (.inr (eF (ea 0) (ea 1) (ea 2) (ea 3))))))), wI (cy 1) ro 20 (u.2.2.2.1), wO (ea 0) 2 [.ref (eg 0), .ref (ef 0), .int (u.2.2.2.2.1 0), .int (nI (u.2.2.2.2.2.1 0)), .int (nI (u.2.2.2.2.2.2.1 0))], wI (cy 1) (eg 0) 10 (u.2.2.2.2.2.2.2.1 0), wI (cy 1) (ef 0) 7 (u.2.2.2.2.2.2.2.2.1 0), wO (ea 1) 2 [.ref (eg 1), .ref (ef 1), .int (u.2.2.2.2.1 1), .int (nI (u.2.2.2.2.2.1 1)), .int (nI (u.2.2.2.2.2.2.1 1))], wI (cy 1) (eg 1) 10 (u.2.2.2.2.2.2.2.1 1), wI (cy 1) (ef 1) 7 (u.2.2.2.2.2.2.2.2.1 1), wO (ea 2) 2 [.ref (eg 2), .ref (ef 2), .int (u.2.2.2.2.1 2), .int (nI (u.2.2.2.2.2.1 2)), .int (nI (u.2.2.2.2.2.2.1 2))], wI (cy 1) (eg 2) 10 (u.2.2.2.2.2.2.2.1 2), wI (cy 1) (ef 2) 7 (u.2.2.2.2.2.2.2.2.1 2), wO (ea 3) 2 [.ref (eg 3), .ref (ef 3), .int (u.2.2.2.2.1 3), .int (nI (u.2.2.2.2.2.1 3)), .int (nI (u.2.2.2.2.2.2.1 3))], wI (cy 1) (eg 3) 10 (u.2.2.2.2.2.2.2.1 3), wI (cy 1) (ef 3) 7 (u.2.2.2.2.2.2.2.2.1 3), wI (cy 1) h3 4 (fp), wI (cy 1) h2 8 (flo), wO h9 3 [.ref h9a, .ref h9b, .int (nI nb), .int tb], wI (cy 1) h9a 280 (fcb), wI (cy 1) h9b 31 (u.1), wO h11 3 [.ref h11a, .ref h11b, .int (nI nt), .int tt], wI (cy 1) h11a 280 (fct), wI (cy 1) h11b 31 (u.2.2.1), wO h10 3 [.ref h10a, .ref h10b, .int (nI nl), .int tl], wI (cy 1) h10a 280 (fcl), wI (cy 1) h10b 31 (u.2.1), wI (cy 1) h1 4 (fc), wI (cy 1) h7 48 (fx)]) := by
  refine XMi.start (by decide) (Nat.le_of_ble_eq_true rfl) ?_
  intro p e s m below meth c args A ls Q hat hQ
  obtain ⟨hx, hb, hr, hml, hown, hg, hlocks, hin, hK, hA, hP, hD, hS, hE, hl⟩ := hat
  have hown : s.vm.findClass RX11 = some m.cls := hown
  have hl : lv_has ls 6 [(0, .ref x0), (1, .int xm), (2, .int wh)] := hl
  have hk_1 := hel 0 (by decide)
  have hk_2 := hel 1 (by decide)
  have hk_3 := hel 2 (by decide)
  have hk_4 := hel 3 (by decide)
  refine lv_aload_n hx hb dX11_answers_0 rfl (lv_at hl 0 rfl) ?_
  refine va_get (D := D) (ci := 11) (v := .ref h0) (C := RX11) (T := TX11) (N := 14) hx hb hg i_X11 hown hK hP 0 rfl rfl 2 (by decide) (hg _ m_660) (fun _ h9 => h9) rfl dX11_answers_1 ?_
  refine lv_iconst (v := 2) hx hb dX11_answers_4 (by decide) ?_
  refine lv_iload_n hx hb dX11_answers_5 rfl (lv_at hl 1 rfl) ?_
  refine x_callVi (q := (RX4, TX4, 16)) (ci := 4) (q0 := 0) (wr := [wO x0 11 [.ref t0, .ref d0, .ref h0, .ref o0, .ref n0, .ref u0, .ref k0, .ref q0, .ref p0, .ref s0, .ref b0, .ref z0, .ref ly, .int (nI yc)], wO n0 5 [.ref n1, .ref n2, .ref n3, .int fu, .int (nI cu), .int (nI un), .int (nI re)], wI (cy 1) n1 41 (fn), wO s0 7 [.ref s1, .ref s2, .int (nI sl), .int spl, .int svo, .int swi, .int sch], wI (cy 1) s1 10 (fw), wI (cy 1) s2 4 (fsn), wI (cy 1) h5 4 (fmp), wI (cy 1) h6 4 (fmv), wO k0 0 [.ref er, .ref ro, .int bo], (er, .inl (cy 4, 4, .inr (.inr (.inr (.inr (eF (ea 0) (ea 1) (ea 2) (ea 3))))))), wI (cy 1) ro 20 (fr), wO (ea 0) 2 [.ref (eg 0), .ref (ef 0), .int (et 0), .int (nI (el 0)), .int (nI (ei 0))], wI (cy 1) (eg 0) 10 (gc 0), wI (cy 1) (ef 0) 7 (xc 0), wO (ea 1) 2 [.ref (eg 1), .ref (ef 1), .int (et 1), .int (nI (el 1)), .int (nI (ei 1))], wI (cy 1) (eg 1) 10 (gc 1), wI (cy 1) (ef 1) 7 (xc 1), wO (ea 2) 2 [.ref (eg 2), .ref (ef 2), .int (et 2), .int (nI (el 2)), .int (nI (ei 2))], wI (cy 1) (eg 2) 10 (gc 2), wI (cy 1) (ef 2) 7 (xc 2), wO (ea 3) 2 [.ref (eg 3), .ref (ef 3), .int (et 3), .int (nI (el 3)), .int (nI (ei 3))], wI (cy 1) (eg 3) 10 (gc 3), wI (cy 1) (ef 3) 7 (xc 3), wI (cy 1) h3 4 (fp), wI (cy 1) h2 8 (flo), wO h9 3 [.ref h9a, .ref h9b, .int (nI nb), .int tb], wI (cy 1) h9a 280 (fcb), wI (cy 1) h9b 31 (fsb), wO h11 3 [.ref h11a, .ref h11b, .int (nI nt), .int tt], wI (cy 1) h11a 280 (fct), wI (cy 1) h11b 31 (fst), wO h10 3 [.ref h10a, .ref h10b, .int (nI nl), .int tl], wI (cy 1) h10a 280 (fcl), wI (cy 1) h10b 31 (fsl), wI (cy 1) h7 48 (fx)]) (rest := []) ⟨hx, hb, hml, hown, hg, hl.1⟩ k_X11_120 (s_has2 l D cy h0 h1 h2 h3 h4 h5 h6 h7 h8 h9 h10 h11 ((.int ys)) ((.int hon)) ((.int hwi)) ((.int hdr)) ((.int hu)) fc c0 c1 c2 c3 xm (hcn) (by omega) (by omega) (by omega) (by omega)) E0_blind hK hP hD hS hA [6, 35] [0, 1, 2, 3, 4, 5, 7, 8, 9, 10, 11, 12, 13, 14, 15, 16, 17, 18, 19, 20, 21, 22, 23, 24, 25, 26, 27, 28, 29, 30, 31, 32, 33, 34, 36] ⟨rfl, rfl, by decide +kernel, by decide +kernel, by decide +kernel⟩ rfl rfl (fun _ _ _ => trivial) dX11_answers_6 rfl rfl (Nat.le_of_ble_eq_true rfl) ⟨Nat.le_of_ble_eq_true rfl, Nat.le_of_ble_eq_true rfl⟩ ⟨Nat.le_of_ble_eq_true rfl, Nat.le_of_ble_eq_true rfl⟩ (fun zr5 zu5 H locs hw5 hP9 hD9 hS9 => ?_)
  clear hP hD hS
  refine reW [wO x0 11 [.ref t0, .ref d0, .ref h0, .ref o0, .ref n0, .ref u0, .ref k0, .ref q0, .ref p0, .ref s0, .ref b0, .ref z0, .ref ly, .int (nI yc)], wO n0 5 [.ref n1, .ref n2, .ref n3, .int fu, .int (nI cu), .int (nI un), .int (nI re)], wI (cy 1) n1 41 (fn), wO s0 7 [.ref s1, .ref s2, .int (nI sl), .int spl, .int svo, .int swi, .int sch], wI (cy 1) s1 10 (fw), wI (cy 1) s2 4 (fsn), wI (cy 1) h5 4 (fmp), wI (cy 1) h6 4 (fmv), wO k0 0 [.ref er, .ref ro, .int bo], (er, .inl (cy 4, 4, .inr (.inr (.inr (.inr (eF (ea 0) (ea 1) (ea 2) (ea 3))))))), wI (cy 1) ro 20 (fr), wO (ea 0) 2 [.ref (eg 0), .ref (ef 0), .int (et 0), .int (nI (el 0)), .int (nI (ei 0))], wI (cy 1) (eg 0) 10 (gc 0), wI (cy 1) (ef 0) 7 (xc 0), wO (ea 1) 2 [.ref (eg 1), .ref (ef 1), .int (et 1), .int (nI (el 1)), .int (nI (ei 1))], wI (cy 1) (eg 1) 10 (gc 1), wI (cy 1) (ef 1) 7 (xc 1), wO (ea 2) 2 [.ref (eg 2), .ref (ef 2), .int (et 2), .int (nI (el 2)), .int (nI (ei 2))], wI (cy 1) (eg 2) 10 (gc 2), wI (cy 1) (ef 2) 7 (xc 2), wO (ea 3) 2 [.ref (eg 3), .ref (ef 3), .int (et 3), .int (nI (el 3)), .int (nI (ei 3))], wI (cy 1) (eg 3) 10 (gc 3), wI (cy 1) (ef 3) 7 (xc 3), wI (cy 1) h3 4 (fp), wI (cy 1) h2 8 (flo), wO h9 3 [.ref h9a, .ref h9b, .int (nI nb), .int tb], wI (cy 1) h9a 280 (fcb), wI (cy 1) h9b 31 (fsb), wO h11 3 [.ref h11a, .ref h11b, .int (nI nt), .int tt], wI (cy 1) h11a 280 (fct), wI (cy 1) h11b 31 (fst), wO h10 3 [.ref h10a, .ref h10b, .int (nI nl), .int tl], wI (cy 1) h10a 280 (fcl), wI (cy 1) h10b 31 (fsl), wI (cy 1) h7 48 (fx), wO h0 4 [.ref h1, .ref h2, .ref h3, .ref h4, .ref h5, .ref h6, .ref h7, .ref h8, .ref h9, .ref h10, .ref h11, .int ys, .int hon, .int hwi, .int hdr, .int hu], wI (cy 1) h1 4 (fc)] hP9 hD9 hS9 (fun hP hD hS => ?_)
  clear hP9 hD9 hS9
  refine W.widen (k := 0) (n := 0) (Nat.le_of_ble_eq_true rfl) (Nat.le_of_ble_eq_true rfl) ?_
  replace hw5 : (zr5 = 0 ∨ (zr5 = 1 ∧ ∃ j : Nat, j < c2 ∧ xm = nI j)) ∧ (zr5 = 0 → ¬ inR xm c2) := hw5
  obtain ⟨f_6, f_7⟩ := hw5
  rcases f_6 with hz_9 | ⟨hz_9, j_8, hj_8, ej_8⟩
  · subst hz_9
    refine lv_if_eq (tgt := 21) hx hb dX11_answers_9 (by decide) (fun _ => ?_) (fun h => absurd (by decide) h)
    refine lv_iconst (v := -1) hx hb dX11_answers_21 (by decide) ?_
    exact x_iret hQ hx hb hr hlocks hK hP hD hS dX11_answers_22 (fsb, fsl, fst, fr, (fun k => [et 0, et 1, et 2, et 3].getD k 0), (fun k => [(el 0), (el 1), (el 2), (el 3)].getD k 0), (fun k => [(ei 0), (ei 1), (ei 2), (ei 3)].getD k 0), (fun k => [gc 0, gc 1, gc 2, gc 3].getD k (fun _ => 0)), (fun k => [xc 0, xc 1, xc 2, xc 3].getD k (fun _ => 0)), sl, spl, svo, swi, sch, fw, fsn) (⟨get4 (by omega) (by omega) (by omega) (by omega), hrw, (show sl ≤ 10 from by omega), hsw⟩) [0, 1, 2, 3, 4, 5, 35, 6, 7, 8, 9, 10, 11, 12, 13, 14, 15, 16, 17, 18, 19, 20, 21, 22, 23, 24, 25, 26, 27, 28, 29, 30, 31, 32, 33, 36, 34] (by decide +kernel) rfl (Nat.le_of_ble_eq_true rfl) (Nat.le_of_ble_eq_true rfl)
  · subst hz_9
    subst ej_8
    refine lv_if_eq (tgt := 21) hx hb dX11_answers_9 (by decide) (fun h => absurd h (by decide)) (fun _ => ?_)
    refine lv_iload_n hx hb dX11_answers_12 rfl (lv_at hl 2 rfl) ?_
    refine lv_if_lt (tgt := 21) hx hb dX11_answers_13 (by decide) (fun c_13 => ?_) (fun c_13 => ?_)
    · refine lv_iconst (v := -1) hx hb dX11_answers_21 (by decide) ?_
      exact x_iret hQ hx hb hr hlocks hK hP hD hS dX11_answers_22 (fsb, fsl, fst, fr, (fun k => [et 0, et 1, et 2, et 3].getD k 0), (fun k => [(el 0), (el 1), (el 2), (el 3)].getD k 0), (fun k => [(ei 0), (ei 1), (ei 2), (ei 3)].getD k 0), (fun k => [gc 0, gc 1, gc 2, gc 3].getD k (fun _ => 0)), (fun k => [xc 0, xc 1, xc 2, xc 3].getD k (fun _ => 0)), sl, spl, svo, swi, sch, fw, fsn) (⟨get4 (by omega) (by omega) (by omega) (by omega), hrw, (show sl ≤ 10 from by omega), hsw⟩) [0, 1, 2, 3, 4, 5, 35, 6, 7, 8, 9, 10, 11, 12, 13, 14, 15, 16, 17, 18, 19, 20, 21, 22, 23, 24, 25, 26, 27, 28, 29, 30, 31, 32, 33, 36, 34] (by decide +kernel) rfl (Nat.le_of_ble_eq_true rfl) (Nat.le_of_ble_eq_true rfl)
    · refine lv_iload_n hx hb dX11_answers_16 rfl (lv_at hl 2 rfl) ?_
      refine lv_iconst (v := 1) hx hb dX11_answers_17 (by decide) ?_
      refine lv_icmp_le (tgt := 23) hx hb dX11_answers_18 (by decide) (fun c_18 => ?_) (fun c_18 => ?_)
      · refine lv_aload_n hx hb dX11_answers_23 rfl (lv_at hl 0 rfl) ?_
        refine lv_iload_n hx hb dX11_answers_24 rfl (lv_at hl 1 rfl) ?_
        refine x_callVv (q := (RX11, TX11, 14)) (ci := 11) (q0 := 0) (wr := [wO k0 0 [.ref er, .ref ro, .int bo], (er, .inl (cy 4, 4, .inr (.inr (.inr (.inr (eF (ea 0) (ea 1) (ea 2) (ea 3))))))), wI (cy 1) ro 20 (fr), wO (ea 0) 2 [.ref (eg 0), .ref (ef 0), .int (et 0), .int (nI (el 0)), .int (nI (ei 0))], wI (cy 1) (eg 0) 10 (gc 0), wI (cy 1) (ef 0) 7 (xc 0), wO (ea 1) 2 [.ref (eg 1), .ref (ef 1), .int (et 1), .int (nI (el 1)), .int (nI (ei 1))], wI (cy 1) (eg 1) 10 (gc 1), wI (cy 1) (ef 1) 7 (xc 1), wO (ea 2) 2 [.ref (eg 2), .ref (ef 2), .int (et 2), .int (nI (el 2)), .int (nI (ei 2))], wI (cy 1) (eg 2) 10 (gc 2), wI (cy 1) (ef 2) 7 (xc 2), wO (ea 3) 2 [.ref (eg 3), .ref (ef 3), .int (et 3), .int (nI (el 3)), .int (nI (ei 3))], wI (cy 1) (eg 3) 10 (gc 3), wI (cy 1) (ef 3) 7 (xc 3), wI (cy 1) h3 4 (fp), wI (cy 1) h2 8 (flo), wO h9 3 [.ref h9a, .ref h9b, .int (nI nb), .int tb], wI (cy 1) h9a 280 (fcb), wI (cy 1) h9b 31 (fsb), wO h11 3 [.ref h11a, .ref h11b, .int (nI nt), .int tt], wI (cy 1) h11a 280 (fct), wI (cy 1) h11b 31 (fst), wO h10 3 [.ref h10a, .ref h10b, .int (nI nl), .int tl], wI (cy 1) h10a 280 (fcl), wI (cy 1) h10b 31 (fsl), wI (cy 1) h7 48 (fx), wI (cy 1) h1 4 (fc)]) (rest := []) ⟨hx, hb, hml, hown, hg, hl.1⟩ k_X11_161 (s_xprepare l D cy x0 t0 d0 h0 h1 h2 h3 h4 h5 h6 h7 h8 h9 h10 h11 o0 n0 n1 n2 n3 u0 k0 q0 p0 s0 s1 s2 b0 z0 ly ys hon hwi hdr hu fmp fmv fu cu un re fn sl spl svo swi sch fw fsn yc j_8 (by omega) (by omega) (hno) (by omega) (hsw) (by omega) (by omega)) E0_blind hK hP hD hS hA [0, 1, 2, 3, 4, 5, 35, 6, 7] [8, 9, 10, 11, 12, 13, 14, 15, 16, 17, 18, 19, 20, 21, 22, 23, 24, 25, 26, 27, 28, 29, 30, 31, 32, 33, 34, 36] ⟨rfl, rfl, by decide +kernel, by decide +kernel, by decide +kernel⟩ rfl rfl (fun _ _ _ => trivial) dX11_answers_25 rfl rfl (Nat.le_of_ble_eq_true rfl) ⟨Nat.le_of_ble_eq_true rfl, Nat.le_of_ble_eq_true rfl⟩ ⟨Nat.le_of_ble_eq_true rfl, Nat.le_of_ble_eq_true rfl⟩ (fun zu10 H locs hw10 hP9 hD9 hS9 => ?_)
        clear hP hD hS
        obtain ⟨sl2_11, spl2_12, svo2_13, swi2_14, sch2_15, fw2_16, fsn2_17⟩ := zu10
        refine reW [wO k0 0 [.ref er, .ref ro, .int bo], (er, .inl (cy 4, 4, .inr (.inr (.inr (.inr (eF (ea 0) (ea 1) (ea 2) (ea 3))))))), wI (cy 1) ro 20 (fr), wO (ea 0) 2 [.ref (eg 0), .ref (ef 0), .int (et 0), .int (nI (el 0)), .int (nI (ei 0))], wI (cy 1) (eg 0) 10 (gc 0), wI (cy 1) (ef 0) 7 (xc 0), wO (ea 1) 2 [.ref (eg 1), .ref (ef 1), .int (et 1), .int (nI (el 1)), .int (nI (ei 1))], wI (cy 1) (eg 1) 10 (gc 1), wI (cy 1) (ef 1) 7 (xc 1), wO (ea 2) 2 [.ref (eg 2), .ref (ef 2), .int (et 2), .int (nI (el 2)), .int (nI (ei 2))], wI (cy 1) (eg 2) 10 (gc 2), wI (cy 1) (ef 2) 7 (xc 2), wO (ea 3) 2 [.ref (eg 3), .ref (ef 3), .int (et 3), .int (nI (el 3)), .int (nI (ei 3))], wI (cy 1) (eg 3) 10 (gc 3), wI (cy 1) (ef 3) 7 (xc 3), wI (cy 1) h3 4 (fp), wI (cy 1) h2 8 (flo), wO h9 3 [.ref h9a, .ref h9b, .int (nI nb), .int tb], wI (cy 1) h9a 280 (fcb), wI (cy 1) h9b 31 (fsb), wO h11 3 [.ref h11a, .ref h11b, .int (nI nt), .int tt], wI (cy 1) h11a 280 (fct), wI (cy 1) h11b 31 (fst), wO h10 3 [.ref h10a, .ref h10b, .int (nI nl), .int tl], wI (cy 1) h10a 280 (fcl), wI (cy 1) h10b 31 (fsl), wI (cy 1) h7 48 (fx), wI (cy 1) h1 4 (fc), wO x0 11 [.ref t0, .ref d0, .ref h0, .ref o0, .ref n0, .ref u0, .ref k0, .ref q0, .ref p0, .ref s0, .ref b0, .ref z0, .ref ly, .int (nI yc)], wO n0 5 [.ref n1, .ref n2, .ref n3, .int fu, .int (nI cu), .int (nI un), .int (nI re)], wI (cy 1) n1 41 (fn), wO s0 7 [.ref s1, .ref s2, .int (nI sl2_11), .int spl2_12, .int svo2_13, .int swi2_14, .int sch2_15], wI (cy 1) s1 10 (fw2_16), wI (cy 1) s2 4 (fsn2_17), wO h0 4 [.ref h1, .ref h2, .ref h3, .ref h4, .ref h5, .ref h6, .ref h7, .ref h8, .ref h9, .ref h10, .ref h11, .int ys, .int hon, .int hwi, .int hdr, .int hu], wI (cy 1) h5 4 (fmp), wI (cy 1) h6 4 (fmv)] hP9 hD9 hS9 (fun hP hD hS => ?_)
        clear hP9 hD9 hS9
        refine W.widen (k := 0) (n := 0) (Nat.le_of_ble_eq_true rfl) (Nat.le_of_ble_eq_true rfl) ?_
        replace hw10 : (sl2_11 ≤ 10) ∧ (rng fw2_16 10 7) := hw10
        obtain ⟨f_18, f_19⟩ := hw10
        refine lv_iconst (v := 0) hx hb dX11_answers_28 (by decide) ?_
        refine lv_istore_n (lv' := [(3, .int 0), (0, .ref x0), (1, .int (nI j_8)), (2, .int wh)]) hx hb dX11_answers_29 rfl hl (by decide) rfl (fun ls hl => ?_)
        refine lv_iconst (v := 0) hx hb dX11_answers_30 (by decide) ?_
        refine lv_istore (lv' := [(4, .int 0), (3, .int 0), (0, .ref x0), (1, .int (nI j_8)), (2, .int wh)]) hx hb dX11_answers_31 hl (by decide) rfl (fun ls hl => ?_)
        have loop20 : ∀ (zn : Nat) (lx3_20 : Int32) (i20 : Nat) (fx2_20 : Int32) (l0_20 : Nat) (i0_20 : Nat) (fx5_20 : Int32) (l1_20 : Nat) (i1_20 : Nat) (fx8_20 : Int32) (l2_20 : Nat) (i2_20 : Nat) (fx11_20 : Int32) (l3_20 : Nat) (i3_20 : Nat) (fa14_20 : Nat → Int32) (fa15_20 : Nat → Int32) (fa16_20 : Nat → Int32) (fa17_20 : Nat → Int32) (fa18_20 : Nat → Int32) (fa19_20 : Nat → Int32) (fa20_20 : Nat → Int32) (fa21_20 : Nat → Int32) (fa22_20 : Nat → Int32) (fa23_20 : Nat → Int32) (fa24_20 : Nat → Int32) (fa25_20 : Nat → Int32), (rng fa14_20 20 7) → (i20 ≤ c1) → (l0_20 ≤ 10) → (l1_20 ≤ 10) → (l2_20 ≤ 10) → (l3_20 ≤ 10) → c1 - i20 + 1 ≤ zn → ∀ (H : Heap) (locs : List Loc), va_P D vwCl [wO k0 0 [.ref er, .ref ro, .int bo], (er, .inl (cy 4, 4, .inr (.inr (.inr (.inr (eF (ea 0) (ea 1) (ea 2) (ea 3))))))), wI (cy 1) ro 20 (fa14_20), wO (ea 0) 2 [.ref (eg 0), .ref (ef 0), .int fx2_20, .int (nI l0_20), .int (nI i0_20)], wI (cy 1) (eg 0) 10 (fa18_20), wI (cy 1) (ef 0) 7 (fa22_20), wO (ea 1) 2 [.ref (eg 1), .ref (ef 1), .int fx5_20, .int (nI l1_20), .int (nI i1_20)], wI (cy 1) (eg 1) 10 (fa19_20), wI (cy 1) (ef 1) 7 (fa23_20), wO (ea 2) 2 [.ref (eg 2), .ref (ef 2), .int fx8_20, .int (nI l2_20), .int (nI i2_20)], wI (cy 1) (eg 2) 10 (fa20_20), wI (cy 1) (ef 2) 7 (fa24_20), wO (ea 3) 2 [.ref (eg 3), .ref (ef 3), .int fx11_20, .int (nI l3_20), .int (nI i3_20)], wI (cy 1) (eg 3) 10 (fa21_20), wI (cy 1) (ef 3) 7 (fa25_20), wI (cy 1) h3 4 (fp), wI (cy 1) h2 8 (flo), wO h9 3 [.ref h9a, .ref h9b, .int (nI nb), .int tb], wI (cy 1) h9a 280 (fcb), wI (cy 1) h9b 31 (fa15_20), wO h11 3 [.ref h11a, .ref h11b, .int (nI nt), .int tt], wI (cy 1) h11a 280 (fct), wI (cy 1) h11b 31 (fa16_20), wO h10 3 [.ref h10a, .ref h10b, .int (nI nl), .int tl], wI (cy 1) h10a 280 (fcl), wI (cy 1) h10b 31 (fa17_20), wI (cy 1) h7 48 (fx), wI (cy 1) h1 4 (fc), wO x0 11 [.ref t0, .ref d0, .ref h0, .ref o0, .ref n0, .ref u0, .ref k0, .ref q0, .ref p0, .ref s0, .ref b0, .ref z0, .ref ly, .int (nI yc)], wO n0 5 [.ref n1, .ref n2, .ref n3, .int fu, .int (nI cu), .int (nI un), .int (nI re)], wI (cy 1) n1 41 (fn), wO s0 7 [.ref s1, .ref s2, .int (nI sl2_11), .int spl2_12, .int svo2_13, .int swi2_14, .int sch2_15], wI (cy 1) s1 10 (fw2_16), wI (cy 1) s2 4 (fsn2_17), wO h0 4 [.ref h1, .ref h2, .ref h3, .ref h4, .ref h5, .ref h6, .ref h7, .ref h8, .ref h9, .ref h10, .ref h11, .int ys, .int hon, .int hwi, .int hdr, .int hu], wI (cy 1) h5 4 (fmp), wI (cy 1) h6 4 (fmv)] H → va_D A [wO k0 0 [.ref er, .ref ro, .int bo], (er, .inl (cy 4, 4, .inr (.inr (.inr (.inr (eF (ea 0) (ea 1) (ea 2) (ea 3))))))), wI (cy 1) ro 20 (fa14_20), wO (ea 0) 2 [.ref (eg 0), .ref (ef 0), .int fx2_20, .int (nI l0_20), .int (nI i0_20)], wI (cy 1) (eg 0) 10 (fa18_20), wI (cy 1) (ef 0) 7 (fa22_20), wO (ea 1) 2 [.ref (eg 1), .ref (ef 1), .int fx5_20, .int (nI l1_20), .int (nI i1_20)], wI (cy 1) (eg 1) 10 (fa19_20), wI (cy 1) (ef 1) 7 (fa23_20), wO (ea 2) 2 [.ref (eg 2), .ref (ef 2), .int fx8_20, .int (nI l2_20), .int (nI i2_20)], wI (cy 1) (eg 2) 10 (fa20_20), wI (cy 1) (ef 2) 7 (fa24_20), wO (ea 3) 2 [.ref (eg 3), .ref (ef 3), .int fx11_20, .int (nI l3_20), .int (nI i3_20)], wI (cy 1) (eg 3) 10 (fa21_20), wI (cy 1) (ef 3) 7 (fa25_20), wI (cy 1) h3 4 (fp), wI (cy 1) h2 8 (flo), wO h9 3 [.ref h9a, .ref h9b, .int (nI nb), .int tb], wI (cy 1) h9a 280 (fcb), wI (cy 1) h9b 31 (fa15_20), wO h11 3 [.ref h11a, .ref h11b, .int (nI nt), .int tt], wI (cy 1) h11a 280 (fct), wI (cy 1) h11b 31 (fa16_20), wO h10 3 [.ref h10a, .ref h10b, .int (nI nl), .int tl], wI (cy 1) h10a 280 (fcl), wI (cy 1) h10b 31 (fa17_20), wI (cy 1) h7 48 (fx), wI (cy 1) h1 4 (fc), wO x0 11 [.ref t0, .ref d0, .ref h0, .ref o0, .ref n0, .ref u0, .ref k0, .ref q0, .ref p0, .ref s0, .ref b0, .ref z0, .ref ly, .int (nI yc)], wO n0 5 [.ref n1, .ref n2, .ref n3, .int fu, .int (nI cu), .int (nI un), .int (nI re)], wI (cy 1) n1 41 (fn), wO s0 7 [.ref s1, .ref s2, .int (nI sl2_11), .int spl2_12, .int svo2_13, .int swi2_14, .int sch2_15], wI (cy 1) s1 10 (fw2_16), wI (cy 1) s2 4 (fsn2_17), wO h0 4 [.ref h1, .ref h2, .ref h3, .ref h4, .ref h5, .ref h6, .ref h7, .ref h8, .ref h9, .ref h10, .ref h11, .int ys, .int hon, .int hwi, .int hdr, .int hu], wI (cy 1) h5 4 (fmp), wI (cy 1) h6 4 (fmv)] → va_S A s.heap H locs → ∀ ls : Array Slot, lv_has ls 6 [(4, .int (nI i20)), (3, .int lx3_20), (0, .ref x0), (1, .int (nI j_8)), (2, .int wh)] → W p l e (rmk 6 0 0) s m args below meth c H locs 0 0 Q (F0 m 33 ls []) := by
          try clear hP hD hS
          intro zn
          induction zn with
          | zero => intro lx3_20 i20 fx2_20 l0_20 i0_20 fx5_20 l1_20 i1_20 fx8_20 l2_20 i2_20 fx11_20 l3_20 i3_20 fa14_20 fa15_20 fa16_20 fa17_20 fa18_20 fa19_20 fa20_20 fa21_20 fa22_20 fa23_20 fa24_20 fa25_20 _ _ _ _ _ _ hz; exact absurd hz (by omega)
          | succ zn ih20 =>
            intro lx3_20 i20 fx2_20 l0_20 i0_20 fx5_20 l1_20 i1_20 fx8_20 l2_20 i2_20 fx11_20 l3_20 i3_20 fa14_20 fa15_20 fa16_20 fa17_20 fa18_20 fa19_20 fa20_20 fa21_20 fa22_20 fa23_20 fa24_20 fa25_20 ha15_20 hf0_20 hf1_20 hf2_20 hf3_20 hf4_20 hmu20 H locs hP hD hS ls hl
            refine lv_iload hx hb dX11_answers_33 (lv_at hl 0 rfl) ?_
            refine lv_aload_n hx hb dX11_answers_35 rfl (lv_at hl 2 rfl) ?_
            refine va_get (D := D) (ci := 11) (v := .ref h0) (C := RX11) (T := TX11) (N := 14) hx hb hg i_X11 hown hK hP 28 rfl rfl 2 (by decide) (hg _ m_660) (fun _ h9 => h9) rfl dX11_answers_36 ?_
            refine va_get (D := D) (ci := 4) (v := .ref h1) (C := RX4) (T := TX4) (N := 16) hx hb hg i_X4 hown hK hP 34 rfl rfl 0 (by decide) (hg _ m_335) (fun _ h9 => h9) rfl dX11_answers_39 ?_
            refine lv_iconst (v := 1) hx hb dX11_answers_42 (by decide) ?_
            refine va_iald hx hb hK hP 27 1 rfl rfl (by unfold vp_in; decide) dX11_answers_43 ?_
            refine lv_topi (fun y_21 hy_21 => ?_)
            obtain rfl : y_21 = nI c1 := hy_21.trans hcn.2.1
            refine lv_icmp_ge (tgt := 111) hx hb dX11_answers_44 (by decide) (fun c_22 => ?_) (fun c_22 => ?_)
            · have q_23 : c1 ≤ i20 := q_le (a := c1) (b := i20) rfl rfl (by omega) (by omega) c_22
              refine lv_iload_n hx hb dX11_answers_111 rfl (lv_at hl 1 rfl) ?_
              exact x_iret hQ hx hb hr hlocks hK hP hD hS dX11_answers_112 (fa15_20, fa17_20, fa16_20, fa14_20, (fun k => [fx2_20, fx5_20, fx8_20, fx11_20].getD k 0), (fun k => [l0_20, l1_20, l2_20, l3_20].getD k 0), (fun k => [i0_20, i1_20, i2_20, i3_20].getD k 0), (fun k => [fa18_20, fa19_20, fa20_20, fa21_20].getD k (fun _ => 0)), (fun k => [fa22_20, fa23_20, fa24_20, fa25_20].getD k (fun _ => 0)), sl2_11, spl2_12, svo2_13, swi2_14, sch2_15, fw2_16, fsn2_17) (⟨get4 (by omega) (by omega) (by omega) (by omega), ha15_20, (show sl2_11 ≤ 10 from by omega), f_19⟩) [28, 29, 30, 31, 32, 33, 34, 35, 36, 0, 1, 2, 3, 4, 5, 6, 7, 8, 9, 10, 11, 12, 13, 14, 15, 16, 17, 18, 19, 20, 21, 22, 23, 24, 25, 27, 26] (by decide +kernel) rfl (Nat.le_of_ble_eq_true rfl) (Nat.le_of_ble_eq_true rfl)
            · have q_23 : i20 < c1 := q_nle (a := c1) (b := i20) rfl rfl (by omega) (by omega) c_22
              refine lv_aload_n hx hb dX11_answers_47 rfl (lv_at hl 2 rfl) ?_
              refine va_get (D := D) (ci := 11) (v := .ref k0) (C := RX11) (T := TX11) (N := 14) hx hb hg i_X11 hown hK hP 28 rfl rfl 6 (by decide) (hg _ m_664) (fun _ h9 => h9) rfl dX11_answers_48 ?_
              refine lv_aload_n hx hb dX11_answers_51 rfl (lv_at hl 2 rfl) ?_
              refine va_get (D := D) (ci := 11) (v := .ref h0) (C := RX11) (T := TX11) (N := 14) hx hb hg i_X11 hown hK hP 28 rfl rfl 2 (by decide) (hg _ m_660) (fun _ h9 => h9) rfl dX11_answers_52 ?_
              refine lv_aload_n hx hb dX11_answers_55 rfl (lv_at hl 2 rfl) ?_
              refine va_get (D := D) (ci := 11) (v := .ref s0) (C := RX11) (T := TX11) (N := 14) hx hb hg i_X11 hown hK hP 28 rfl rfl 9 (by decide) (hg _ m_667) (fun _ h9 => h9) rfl dX11_answers_56 ?_
              refine lv_iload hx hb dX11_answers_59 (lv_at hl 0 rfl) ?_
              refine lv_iconst (v := 0) hx hb dX11_answers_61 (by decide) ?_
              refine x_callVi (q := (RX0, TX0, 3)) (ci := 0) (q0 := 0) (wr := [wI (cy 1) h7 48 (fx), wI (cy 1) h1 4 (fc), wO x0 11 [.ref t0, .ref d0, .ref h0, .ref o0, .ref n0, .ref u0, .ref k0, .ref q0, .ref p0, .ref s0, .ref b0, .ref z0, .ref ly, .int (nI yc)], wO n0 5 [.ref n1, .ref n2, .ref n3, .int fu, .int (nI cu), .int (nI un), .int (nI re)], wI (cy 1) n1 41 (fn), wI (cy 1) h5 4 (fmp), wI (cy 1) h6 4 (fmv)]) (rest := []) ⟨hx, hb, hml, hown, hg, hl.1⟩ k_X11_184 (s_listen l D cy k0 ro bo fa14_20 er ea eg ef ((fun k => [fx2_20, fx5_20, fx8_20, fx11_20].getD k 0)) ((fun k => [l0_20, l1_20, l2_20, l3_20].getD k 0)) ((fun k => [i0_20, i1_20, i2_20, i3_20].getD k 0)) ((fun k => [fa18_20, fa19_20, fa20_20, fa21_20].getD k (fun _ => 0))) ((fun k => [fa22_20, fa23_20, fa24_20, fa25_20].getD k (fun _ => 0))) h0 h1 h2 h3 h4 h5 h6 h7 h8 h9 h10 h11 ((.int ys)) ((.int hon)) ((.int hwi)) ((.int hdr)) ((.int hu)) fp flo h9a h9b nb tb fcb fa15_20 h11a h11b nt tt fct fa16_20 h10a h10b nl tl fcl fa17_20 s0 s1 s2 sl2_11 spl2_12 svo2_13 swi2_14 sch2_15 fw2_16 fsn2_17 i20 0 (get4 (by omega) (by omega) (by omega) (by omega)) (by omega) (hcb) (by omega) (hct) (by omega) (hcl) (ha15_20) (by omega) (by omega) (f_19) (by omega)) E0_blind hK hP hD hS hA [0, 1, 2, 3, 4, 5, 6, 7, 8, 9, 10, 11, 12, 13, 14, 34, 15, 16, 17, 18, 19, 20, 21, 22, 23, 24, 25, 31, 32, 33] [26, 27, 28, 29, 30, 35, 36] ⟨rfl, rfl, by decide +kernel, by decide +kernel, by decide +kernel⟩ rfl rfl (fun _ _ _ => trivial) dX11_answers_62 rfl rfl (Nat.le_of_ble_eq_true rfl) ⟨Nat.le_of_ble_eq_true rfl, Nat.le_of_ble_eq_true rfl⟩ ⟨Nat.le_of_ble_eq_true rfl, Nat.le_of_ble_eq_true rfl⟩ (fun zr24 zu24 H locs hw24 hP9 hD9 hS9 => ?_)
              clear hP hD hS
              obtain ⟨et2_25, el2_26, ei2_27, gc2_28, xc2_29, fsb2_30, fst2_31, fsl2_32, fr2_33, k_34⟩ := zu24
              refine reW [wI (cy 1) h7 48 (fx), wI (cy 1) h1 4 (fc), wO x0 11 [.ref t0, .ref d0, .ref h0, .ref o0, .ref n0, .ref u0, .ref k0, .ref q0, .ref p0, .ref s0, .ref b0, .ref z0, .ref ly, .int (nI yc)], wO n0 5 [.ref n1, .ref n2, .ref n3, .int fu, .int (nI cu), .int (nI un), .int (nI re)], wI (cy 1) n1 41 (fn), wI (cy 1) h5 4 (fmp), wI (cy 1) h6 4 (fmv), wO k0 0 [.ref er, .ref ro, .int bo], (er, .inl (cy 4, 4, .inr (.inr (.inr (.inr (eF (ea 0) (ea 1) (ea 2) (ea 3))))))), wI (cy 1) ro 20 (fr2_33), wO (ea 0) 2 [.ref (eg 0), .ref (ef 0), .int (et2_25 0), .int (nI (el2_26 0)), .int (nI (ei2_27 0))], wI (cy 1) (eg 0) 10 (gc2_28 0), wI (cy 1) (ef 0) 7 (xc2_29 0), wO (ea 1) 2 [.ref (eg 1), .ref (ef 1), .int (et2_25 1), .int (nI (el2_26 1)), .int (nI (ei2_27 1))], wI (cy 1) (eg 1) 10 (gc2_28 1), wI (cy 1) (ef 1) 7 (xc2_29 1), wO (ea 2) 2 [.ref (eg 2), .ref (ef 2), .int (et2_25 2), .int (nI (el2_26 2)), .int (nI (ei2_27 2))], wI (cy 1) (eg 2) 10 (gc2_28 2), wI (cy 1) (ef 2) 7 (xc2_29 2), wO (ea 3) 2 [.ref (eg 3), .ref (ef 3), .int (et2_25 3), .int (nI (el2_26 3)), .int (nI (ei2_27 3))], wI (cy 1) (eg 3) 10 (gc2_28 3), wI (cy 1) (ef 3) 7 (xc2_29 3), wO h0 4 [.ref h1, .ref h2, .ref h3, .ref h4, .ref h5, .ref h6, .ref h7, .ref h8, .ref h9, .ref h10, .ref h11, .int ys, .int hon, .int hwi, .int hdr, .int hu], wI (cy 1) h3 4 (fp), wI (cy 1) h2 8 (flo), wO h9 3 [.ref h9a, .ref h9b, .int (nI nb), .int tb], wI (cy 1) h9a 280 (fcb), wI (cy 1) h9b 31 (fsb2_30), wO h11 3 [.ref h11a, .ref h11b, .int (nI nt), .int tt], wI (cy 1) h11a 280 (fct), wI (cy 1) h11b 31 (fst2_31), wO h10 3 [.ref h10a, .ref h10b, .int (nI nl), .int tl], wI (cy 1) h10a 280 (fcl), wI (cy 1) h10b 31 (fsl2_32), wO s0 7 [.ref s1, .ref s2, .int (nI sl2_11), .int spl2_12, .int svo2_13, .int swi2_14, .int sch2_15], wI (cy 1) s1 10 (fw2_16), wI (cy 1) s2 4 (fsn2_17)] hP9 hD9 hS9 (fun hP hD hS => ?_)
              clear hP9 hD9 hS9
              refine W.widen (k := 0) (n := 0) (Nat.le_of_ble_eq_true rfl) (Nat.le_of_ble_eq_true rfl) ?_
              replace hw24 : (zr24 = nI k_34) ∧ (k_34 ≤ 20) ∧ (k_34 ≤ 0 + sl2_11) ∧ (rng fr2_33 20 7) ∧ (∀ i9, i9 < 4 → el2_26 i9 ≤ 10) := hw24
              obtain ⟨f_35, f_36, f_37, f_38, f_39⟩ := hw24
              subst f_35
              have hk_40 := f_39 0 (by decide)
              have hk_41 := f_39 1 (by decide)
              have hk_42 := f_39 2 (by decide)
              have hk_43 := f_39 3 (by decide)
              refine lv_istore (lv' := [(5, .int (nI k_34)), (4, .int (nI i20)), (3, .int lx3_20), (0, .ref x0), (1, .int (nI j_8)), (2, .int wh)]) hx hb dX11_answers_65 hl (by decide) rfl (fun ls hl => ?_)
              refine lv_iload_n hx hb dX11_answers_67 rfl (lv_at hl 5 rfl) ?_
              refine lv_if_ne (tgt := 79) hx hb dX11_answers_68 (by decide) (fun c_68 => ?_) (fun c_68 => ?_)
              · refine lv_aload_n hx hb dX11_answers_79 rfl (lv_at hl 3 rfl) ?_
                refine va_get (D := D) (ci := 11) (v := .ref h0) (C := RX11) (T := TX11) (N := 14) hx hb hg i_X11 hown hK hP 2 rfl rfl 2 (by decide) (hg _ m_660) (fun _ h9 => h9) rfl dX11_answers_80 ?_
                refine lv_aload_n hx hb dX11_answers_83 rfl (lv_at hl 3 rfl) ?_
                refine va_get (D := D) (ci := 11) (v := .ref k0) (C := RX11) (T := TX11) (N := 14) hx hb hg i_X11 hown hK hP 2 rfl rfl 6 (by decide) (hg _ m_664) (fun _ h9 => h9) rfl dX11_answers_84 ?_
                refine va_get (D := D) (ci := 0) (v := .ref ro) (C := RX0) (T := TX0) (N := 3) hx hb hg i_X0 hown hK hP 7 rfl rfl 1 (by decide) (hg _ m_536) (fun _ h9 => h9) rfl dX11_answers_87 ?_
                refine lv_iload hx hb dX11_answers_90 (lv_at hl 0 rfl) ?_
                refine x_callVi (q := (RX4, TX4, 16)) (ci := 4) (q0 := 0) (wr := [wI (cy 1) h1 4 (fc), wO x0 11 [.ref t0, .ref d0, .ref h0, .ref o0, .ref n0, .ref u0, .ref k0, .ref q0, .ref p0, .ref s0, .ref b0, .ref z0, .ref ly, .int (nI yc)], wO n0 5 [.ref n1, .ref n2, .ref n3, .int fu, .int (nI cu), .int (nI un), .int (nI re)], wI (cy 1) n1 41 (fn), wI (cy 1) h5 4 (fmp), wI (cy 1) h6 4 (fmv), wO k0 0 [.ref er, .ref ro, .int bo], (er, .inl (cy 4, 4, .inr (.inr (.inr (.inr (eF (ea 0) (ea 1) (ea 2) (ea 3))))))), wO (ea 0) 2 [.ref (eg 0), .ref (ef 0), .int (et2_25 0), .int (nI (el2_26 0)), .int (nI (ei2_27 0))], wI (cy 1) (eg 0) 10 (gc2_28 0), wI (cy 1) (ef 0) 7 (xc2_29 0), wO (ea 1) 2 [.ref (eg 1), .ref (ef 1), .int (et2_25 1), .int (nI (el2_26 1)), .int (nI (ei2_27 1))], wI (cy 1) (eg 1) 10 (gc2_28 1), wI (cy 1) (ef 1) 7 (xc2_29 1), wO (ea 2) 2 [.ref (eg 2), .ref (ef 2), .int (et2_25 2), .int (nI (el2_26 2)), .int (nI (ei2_27 2))], wI (cy 1) (eg 2) 10 (gc2_28 2), wI (cy 1) (ef 2) 7 (xc2_29 2), wO (ea 3) 2 [.ref (eg 3), .ref (ef 3), .int (et2_25 3), .int (nI (el2_26 3)), .int (nI (ei2_27 3))], wI (cy 1) (eg 3) 10 (gc2_28 3), wI (cy 1) (ef 3) 7 (xc2_29 3), wI (cy 1) h3 4 (fp), wI (cy 1) h2 8 (flo), wO h9 3 [.ref h9a, .ref h9b, .int (nI nb), .int tb], wI (cy 1) h9a 280 (fcb), wI (cy 1) h9b 31 (fsb2_30), wO h11 3 [.ref h11a, .ref h11b, .int (nI nt), .int tt], wI (cy 1) h11a 280 (fct), wI (cy 1) h11b 31 (fst2_31), wO h10 3 [.ref h10a, .ref h10b, .int (nI nl), .int tl], wI (cy 1) h10a 280 (fcl), wI (cy 1) h10b 31 (fsl2_32), wO s0 7 [.ref s1, .ref s2, .int (nI sl2_11), .int spl2_12, .int svo2_13, .int swi2_14, .int sch2_15], wI (cy 1) s1 10 (fw2_16), wI (cy 1) s2 4 (fsn2_17)]) (rest := []) ⟨hx, hb, hml, hown, hg, hl.1⟩ k_X11_195 (s_isYes l D cy h0 h1 h2 h3 h4 h5 h6 h7 h8 h9 h10 h11 ((.int hon)) ((.int hwi)) ((.int hdr)) ((.int hu)) ys fx ro fr2_33 k_34 (hnx) (f_38) (by omega)) E0_blind hK hP hD hS hA [22, 0, 9] [1, 2, 3, 4, 5, 6, 7, 8, 10, 11, 12, 13, 14, 15, 16, 17, 18, 19, 20, 21, 23, 24, 25, 26, 27, 28, 29, 30, 31, 32, 33, 34, 35, 36] ⟨rfl, rfl, by decide +kernel, by decide +kernel, by decide +kernel⟩ rfl rfl (fun _ _ _ => trivial) dX11_answers_92 rfl rfl (Nat.le_of_ble_eq_true rfl) ⟨Nat.le_of_ble_eq_true rfl, Nat.le_of_ble_eq_true rfl⟩ ⟨Nat.le_of_ble_eq_true rfl, Nat.le_of_ble_eq_true rfl⟩ (fun zr44 zu44 H locs hw44 hP9 hD9 hS9 => ?_)
                clear hP hD hS
                refine reW [wI (cy 1) h1 4 (fc), wO x0 11 [.ref t0, .ref d0, .ref h0, .ref o0, .ref n0, .ref u0, .ref k0, .ref q0, .ref p0, .ref s0, .ref b0, .ref z0, .ref ly, .int (nI yc)], wO n0 5 [.ref n1, .ref n2, .ref n3, .int fu, .int (nI cu), .int (nI un), .int (nI re)], wI (cy 1) n1 41 (fn), wI (cy 1) h5 4 (fmp), wI (cy 1) h6 4 (fmv), wO k0 0 [.ref er, .ref ro, .int bo], (er, .inl (cy 4, 4, .inr (.inr (.inr (.inr (eF (ea 0) (ea 1) (ea 2) (ea 3))))))), wO (ea 0) 2 [.ref (eg 0), .ref (ef 0), .int (et2_25 0), .int (nI (el2_26 0)), .int (nI (ei2_27 0))], wI (cy 1) (eg 0) 10 (gc2_28 0), wI (cy 1) (ef 0) 7 (xc2_29 0), wO (ea 1) 2 [.ref (eg 1), .ref (ef 1), .int (et2_25 1), .int (nI (el2_26 1)), .int (nI (ei2_27 1))], wI (cy 1) (eg 1) 10 (gc2_28 1), wI (cy 1) (ef 1) 7 (xc2_29 1), wO (ea 2) 2 [.ref (eg 2), .ref (ef 2), .int (et2_25 2), .int (nI (el2_26 2)), .int (nI (ei2_27 2))], wI (cy 1) (eg 2) 10 (gc2_28 2), wI (cy 1) (ef 2) 7 (xc2_29 2), wO (ea 3) 2 [.ref (eg 3), .ref (ef 3), .int (et2_25 3), .int (nI (el2_26 3)), .int (nI (ei2_27 3))], wI (cy 1) (eg 3) 10 (gc2_28 3), wI (cy 1) (ef 3) 7 (xc2_29 3), wI (cy 1) h3 4 (fp), wI (cy 1) h2 8 (flo), wO h9 3 [.ref h9a, .ref h9b, .int (nI nb), .int tb], wI (cy 1) h9a 280 (fcb), wI (cy 1) h9b 31 (fsb2_30), wO h11 3 [.ref h11a, .ref h11b, .int (nI nt), .int tt], wI (cy 1) h11a 280 (fct), wI (cy 1) h11b 31 (fst2_31), wO h10 3 [.ref h10a, .ref h10b, .int (nI nl), .int tl], wI (cy 1) h10a 280 (fcl), wI (cy 1) h10b 31 (fsl2_32), wO s0 7 [.ref s1, .ref s2, .int (nI sl2_11), .int spl2_12, .int svo2_13, .int swi2_14, .int sch2_15], wI (cy 1) s1 10 (fw2_16), wI (cy 1) s2 4 (fsn2_17), wO h0 4 [.ref h1, .ref h2, .ref h3, .ref h4, .ref h5, .ref h6, .ref h7, .ref h8, .ref h9, .ref h10, .ref h11, .int ys, .int hon, .int hwi, .int hdr, .int hu], wI (cy 1) h7 48 (fx), wI (cy 1) ro 20 (fr2_33)] hP9 hD9 hS9 (fun hP hD hS => ?_)
                clear hP9 hD9 hS9
                refine W.widen (k := 0) (n := 0) (Nat.le_of_ble_eq_true rfl) (Nat.le_of_ble_eq_true rfl) ?_
                replace hw44 : (zr44 = 0 ∨ zr44 = 1) := hw44
                have f_45 := hw44
                refine lv_if_eq (tgt := 105) hx hb dX11_answers_95 (by decide) (fun c_95 => ?_) (fun c_95 => ?_)
                · refine lv_iinc (v := nI (i20 + 1)) (lv' := [(4, .int (nI (i20 + 1))), (5, .int (nI k_34)), (3, .int lx3_20), (0, .ref x0), (1, .int (nI j_8)), (2, .int wh)]) hx hb dX11_answers_105 hl (k := 1) rfl (nI_add i20 1) (by decide) rfl (fun ls hl => ?_)
                  refine lv_goto (tgt := 33) hx hb dX11_answers_108 (by decide) ?_
                  exact ih20  lx3_20 ((i20 + 1)) (et2_25 0) ((el2_26 0)) ((ei2_27 0)) (et2_25 1) ((el2_26 1)) ((ei2_27 1)) (et2_25 2) ((el2_26 2)) ((ei2_27 2)) (et2_25 3) ((el2_26 3)) ((ei2_27 3)) fr2_33 fsb2_30 fst2_31 fsl2_32 (gc2_28 0) (gc2_28 1) (gc2_28 2) (gc2_28 3) (xc2_29 0) (xc2_29 1) (xc2_29 2) (xc2_29 3) f_38 (by omega) (by omega) (by omega) (by omega) (by omega) (by omega) _ _ (hP.sub [6, 7, 36, 8, 9, 10, 11, 12, 13, 14, 15, 16, 17, 18, 19, 20, 21, 22, 23, 24, 25, 26, 27, 28, 29, 30, 35, 0, 1, 2, 3, 31, 32, 33, 34, 4, 5] rfl) (hD.sub [6, 7, 36, 8, 9, 10, 11, 12, 13, 14, 15, 16, 17, 18, 19, 20, 21, 22, 23, 24, 25, 26, 27, 28, 29, 30, 35, 0, 1, 2, 3, 31, 32, 33, 34, 4, 5] (by decide +kernel) rfl) hS ls (lv_sub hl [0, 2, 3, 4, 5] rfl)
                · refine lv_iload_n hx hb dX11_answers_98 rfl (lv_at hl 2 rfl) ?_
                  refine lv_iconst (v := 1) hx hb dX11_answers_99 (by decide) ?_
                  refine lv_iload hx hb dX11_answers_100 (lv_at hl 1 rfl) ?_
                  refine lv_ishl hx hb dX11_answers_102 ?_
                  refine lv_topi (fun x_46 ex_46 => ?_)
                  refine lv_ior hx hb dX11_answers_103 ?_
                  refine lv_topi (fun x_47 ex_47 => ?_)
                  refine lv_istore_n (lv' := [(3, .int x_47), (5, .int (nI k_34)), (4, .int (nI i20)), (0, .ref x0), (1, .int (nI j_8)), (2, .int wh)]) hx hb dX11_answers_104 rfl hl (by decide) rfl (fun ls hl => ?_)
                  refine lv_iinc (v := nI (i20 + 1)) (lv' := [(4, .int (nI (i20 + 1))), (3, .int x_47), (5, .int (nI k_34)), (0, .ref x0), (1, .int (nI j_8)), (2, .int wh)]) hx hb dX11_answers_105 hl (k := 2) rfl (nI_add i20 1) (by decide) rfl (fun ls hl => ?_)
                  refine lv_goto (tgt := 33) hx hb dX11_answers_108 (by decide) ?_
                  exact ih20  x_47 ((i20 + 1)) (et2_25 0) ((el2_26 0)) ((ei2_27 0)) (et2_25 1) ((el2_26 1)) ((ei2_27 1)) (et2_25 2) ((el2_26 2)) ((ei2_27 2)) (et2_25 3) ((el2_26 3)) ((ei2_27 3)) fr2_33 fsb2_30 fst2_31 fsl2_32 (gc2_28 0) (gc2_28 1) (gc2_28 2) (gc2_28 3) (xc2_29 0) (xc2_29 1) (xc2_29 2) (xc2_29 3) f_38 (by omega) (by omega) (by omega) (by omega) (by omega) (by omega) _ _ (hP.sub [6, 7, 36, 8, 9, 10, 11, 12, 13, 14, 15, 16, 17, 18, 19, 20, 21, 22, 23, 24, 25, 26, 27, 28, 29, 30, 35, 0, 1, 2, 3, 31, 32, 33, 34, 4, 5] rfl) (hD.sub [6, 7, 36, 8, 9, 10, 11, 12, 13, 14, 15, 16, 17, 18, 19, 20, 21, 22, 23, 24, 25, 26, 27, 28, 29, 30, 35, 0, 1, 2, 3, 31, 32, 33, 34, 4, 5] (by decide +kernel) rfl) hS ls (lv_sub hl [0, 1, 3, 4, 5] rfl)
              · refine lv_iload hx hb dX11_answers_71 (lv_at hl 0 rfl) ?_
                refine lv_if_le (tgt := 105) hx hb dX11_answers_73 (by decide) (fun c_48 => ?_) (fun c_48 => ?_)
                · have q_49 : k_34 ≤ 0 := q_le (a := k_34) (b := 0) rfl rfl (by omega) (by omega) c_48
                  refine lv_iinc (v := nI (i20 + 1)) (lv' := [(4, .int (nI (i20 + 1))), (5, .int (nI k_34)), (3, .int lx3_20), (0, .ref x0), (1, .int (nI j_8)), (2, .int wh)]) hx hb dX11_answers_105 hl (k := 1) rfl (nI_add i20 1) (by decide) rfl (fun ls hl => ?_)
                  refine lv_goto (tgt := 33) hx hb dX11_answers_108 (by decide) ?_
                  exact ih20  lx3_20 ((i20 + 1)) (et2_25 0) ((el2_26 0)) ((ei2_27 0)) (et2_25 1) ((el2_26 1)) ((ei2_27 1)) (et2_25 2) ((el2_26 2)) ((ei2_27 2)) (et2_25 3) ((el2_26 3)) ((ei2_27 3)) fr2_33 fsb2_30 fst2_31 fsl2_32 (gc2_28 0) (gc2_28 1) (gc2_28 2) (gc2_28 3) (xc2_29 0) (xc2_29 1) (xc2_29 2) (xc2_29 3) f_38 (by omega) (by omega) (by omega) (by omega) (by omega) (by omega) _ _ (hP.sub [7, 8, 9, 10, 11, 12, 13, 14, 15, 16, 17, 18, 19, 20, 21, 23, 24, 25, 26, 27, 28, 29, 30, 31, 32, 33, 0, 1, 2, 3, 4, 34, 35, 36, 22, 5, 6] rfl) (hD.sub [7, 8, 9, 10, 11, 12, 13, 14, 15, 16, 17, 18, 19, 20, 21, 23, 24, 25, 26, 27, 28, 29, 30, 31, 32, 33, 0, 1, 2, 3, 4, 34, 35, 36, 22, 5, 6] (by decide +kernel) rfl) hS ls (lv_sub hl [0, 2, 3, 4, 5] rfl)
                · have q_49 : 0 < k_34 := q_nle (a := k_34) (b := 0) rfl rfl (by omega) (by omega) c_48
                  refine lv_goto (tgt := 98) hx hb dX11_answers_76 (by decide) ?_
                  refine lv_iload_n hx hb dX11_answers_98 rfl (lv_at hl 2 rfl) ?_
                  refine lv_iconst (v := 1) hx hb dX11_answers_99 (by decide) ?_
                  refine lv_iload hx hb dX11_answers_100 (lv_at hl 1 rfl) ?_
                  refine lv_ishl hx hb dX11_answers_102 ?_
                  refine lv_topi (fun x_50 ex_50 => ?_)
                  refine lv_ior hx hb dX11_answers_103 ?_
                  refine lv_topi (fun x_51 ex_51 => ?_)
                  refine lv_istore_n (lv' := [(3, .int x_51), (5, .int (nI k_34)), (4, .int (nI i20)), (0, .ref x0), (1, .int (nI j_8)), (2, .int wh)]) hx hb dX11_answers_104 rfl hl (by decide) rfl (fun ls hl => ?_)
                  refine lv_iinc (v := nI (i20 + 1)) (lv' := [(4, .int (nI (i20 + 1))), (3, .int x_51), (5, .int (nI k_34)), (0, .ref x0), (1, .int (nI j_8)), (2, .int wh)]) hx hb dX11_answers_105 hl (k := 2) rfl (nI_add i20 1) (by decide) rfl (fun ls hl => ?_)
                  refine lv_goto (tgt := 33) hx hb dX11_answers_108 (by decide) ?_
                  exact ih20  x_51 ((i20 + 1)) (et2_25 0) ((el2_26 0)) ((ei2_27 0)) (et2_25 1) ((el2_26 1)) ((ei2_27 1)) (et2_25 2) ((el2_26 2)) ((ei2_27 2)) (et2_25 3) ((el2_26 3)) ((ei2_27 3)) fr2_33 fsb2_30 fst2_31 fsl2_32 (gc2_28 0) (gc2_28 1) (gc2_28 2) (gc2_28 3) (xc2_29 0) (xc2_29 1) (xc2_29 2) (xc2_29 3) f_38 (by omega) (by omega) (by omega) (by omega) (by omega) (by omega) _ _ (hP.sub [7, 8, 9, 10, 11, 12, 13, 14, 15, 16, 17, 18, 19, 20, 21, 23, 24, 25, 26, 27, 28, 29, 30, 31, 32, 33, 0, 1, 2, 3, 4, 34, 35, 36, 22, 5, 6] rfl) (hD.sub [7, 8, 9, 10, 11, 12, 13, 14, 15, 16, 17, 18, 19, 20, 21, 23, 24, 25, 26, 27, 28, 29, 30, 31, 32, 33, 0, 1, 2, 3, 4, 34, 35, 36, 22, 5, 6] (by decide +kernel) rfl) hS ls (lv_sub hl [0, 1, 3, 4, 5] rfl)
        exact loop20 _ 0 0 (et 0) ((el 0)) ((ei 0)) (et 1) ((el 1)) ((ei 1)) (et 2) ((el 2)) ((ei 2)) (et 3) ((el 3)) ((ei 3)) fr fsb fst fsl (gc 0) (gc 1) (gc 2) (gc 3) (xc 0) (xc 1) (xc 2) (xc 3) hrw (by omega) (by omega) (by omega) (by omega) (by omega) (Nat.le_refl _) _ _ (hP.sub [0, 1, 2, 3, 4, 5, 6, 7, 8, 9, 10, 11, 12, 13, 14, 15, 16, 17, 18, 19, 20, 21, 22, 23, 24, 25, 26, 27, 28, 29, 30, 31, 32, 33, 34, 35, 36] rfl) (hD.sub [0, 1, 2, 3, 4, 5, 6, 7, 8, 9, 10, 11, 12, 13, 14, 15, 16, 17, 18, 19, 20, 21, 22, 23, 24, 25, 26, 27, 28, 29, 30, 31, 32, 33, 34, 35, 36] (by decide +kernel) rfl) hS ls (lv_sub hl [0, 1, 2, 3, 4] rfl)
      · refine lv_iconst (v := -1) hx hb dX11_answers_21 (by decide) ?_
        exact x_iret hQ hx hb hr hlocks hK hP hD hS dX11_answers_22 (fsb, fsl, fst, fr, (fun k => [et 0, et 1, et 2, et 3].getD k 0), (fun k => [(el 0), (el 1), (el 2), (el 3)].getD k 0), (fun k => [(ei 0), (ei 1), (ei 2), (ei 3)].getD k 0), (fun k => [gc 0, gc 1, gc 2, gc 3].getD k (fun _ => 0)), (fun k => [xc 0, xc 1, xc 2, xc 3].getD k (fun _ => 0)), sl, spl, svo, swi, sch, fw, fsn) (⟨get4 (by omega) (by omega) (by omega) (by omega), hrw, (show sl ≤ 10 from by omega), hsw⟩) [0, 1, 2, 3, 4, 5, 35, 6, 7, 8, 9, 10, 11, 12, 13, 14, 15, 16, 17, 18, 19, 20, 21, 22, 23, 24, 25, 26, 27, 28, 29, 30, 31, 32, 33, 36, 34] (by decide +kernel) rfl (Nat.le_of_ble_eq_true rfl) (Nat.le_of_ble_eq_true rfl)
theorem gdX11_binds_0 : decode cX11_binds 0 = .ok (.aload_n 0, 1) ∧ decode cX11_binds 1 = .ok (.getfield 28, 3) ∧ decode cX11_binds 4 = .ok (.iconst 2, 1) ∧ decode cX11_binds 5 = .ok (.iload_n 1, 1) ∧ decode cX11_binds 6 = .ok (.invokevirtual 120, 3) ∧ decode cX11_binds 9 = .ok (.ifCond .ne 5, 3) ∧ decode cX11_binds 12 = .ok (.iconst (-1), 1) ∧ decode cX11_binds 13 = .ok (.ireturn, 1) ∧ decode cX11_binds 14 = .ok (.aload_n 0, 1) ∧ decode cX11_binds 15 = .ok (.iload_n 1, 1) ∧ decode cX11_binds 16 = .ok (.invokevirtual 161, 3) ∧ decode cX11_binds 19 = .ok (.aload_n 0, 1) := by decide +kernel
theorem dX11_binds_0 : decode cX11_binds 0 = .ok (.aload_n 0, 1) := gdX11_binds_0.1
theorem dX11_binds_1 : decode cX11_binds 1 = .ok (.getfield 28, 3) := gdX11_binds_0.2.1
theorem dX11_binds_4 : decode cX11_binds 4 = .ok (.iconst 2, 1) := gdX11_binds_0.2.2.1
theorem dX11_binds_5 : decode cX11_binds 5 = .ok (.iload_n 1, 1) := gdX11_binds_0.2.2.2.1
theorem dX11_binds_6 : decode cX11_binds 6 = .ok (.invokevirtual 120, 3) := gdX11_binds_0.2.2.2.2.1
theorem dX11_binds_9 : decode cX11_binds 9 = .ok (.ifCond .ne 5, 3) := gdX11_binds_0.2.2.2.2.2.1
theorem dX11_binds_12 : decode cX11_binds 12 = .ok (.iconst (-1), 1) := gdX11_binds_0.2.2.2.2.2.2.1
theorem dX11_binds_13 : decode cX11_binds 13 = .ok (.ireturn, 1) := gdX11_binds_0.2.2.2.2.2.2.2.1
theorem dX11_binds_14 : decode cX11_binds 14 = .ok (.aload_n 0, 1) := gdX11_binds_0.2.2.2.2.2.2.2.2.1
theorem dX11_binds_15 : decode cX11_binds 15 = .ok (.iload_n 1, 1) := gdX11_binds_0.2.2.2.2.2.2.2.2.2.1
theorem dX11_binds_16 : decode cX11_binds 16 = .ok (.invokevirtual 161, 3) := gdX11_binds_0.2.2.2.2.2.2.2.2.2.2.1
theorem dX11_binds_19 : decode cX11_binds 19 = .ok (.aload_n 0, 1) := gdX11_binds_0.2.2.2.2.2.2.2.2.2.2.2
theorem gdX11_binds_20 : decode cX11_binds 20 = .ok (.getfield 52, 3) ∧ decode cX11_binds 23 = .ok (.aload_n 0, 1) ∧ decode cX11_binds 24 = .ok (.getfield 28, 3) ∧ decode cX11_binds 27 = .ok (.aload_n 0, 1) ∧ decode cX11_binds 28 = .ok (.getfield 75, 3) ∧ decode cX11_binds 31 = .ok (.aload_n 0, 1) ∧ decode cX11_binds 32 = .ok (.getfield 82, 3) ∧ decode cX11_binds 35 = .ok (.invokevirtual 164, 3) ∧ decode cX11_binds 38 = .ok (.pop, 1) ∧ decode cX11_binds 39 = .ok (.aload_n 0, 1) ∧ decode cX11_binds 40 = .ok (.getfield 52, 3) ∧ decode cX11_binds 43 = .ok (.getfield 199, 3) := by decide +kernel
theorem dX11_binds_20 : decode cX11_binds 20 = .ok (.getfield 52, 3) := gdX11_binds_20.1
theorem dX11_binds_23 : decode cX11_binds 23 = .ok (.aload_n 0, 1) := gdX11_binds_20.2.1
theorem dX11_binds_24 : decode cX11_binds 24 = .ok (.getfield 28, 3) := gdX11_binds_20.2.2.1
theorem dX11_binds_27 : decode cX11_binds 27 = .ok (.aload_n 0, 1) := gdX11_binds_20.2.2.2.1
theorem dX11_binds_28 : decode cX11_binds 28 = .ok (.getfield 75, 3) := gdX11_binds_20.2.2.2.2.1
theorem dX11_binds_31 : decode cX11_binds 31 = .ok (.aload_n 0, 1) := gdX11_binds_20.2.2.2.2.2.1
theorem dX11_binds_32 : decode cX11_binds 32 = .ok (.getfield 82, 3) := gdX11_binds_20.2.2.2.2.2.2.1
theorem dX11_binds_35 : decode cX11_binds 35 = .ok (.invokevirtual 164, 3) := gdX11_binds_20.2.2.2.2.2.2.2.1
theorem dX11_binds_38 : decode cX11_binds 38 = .ok (.pop, 1) := gdX11_binds_20.2.2.2.2.2.2.2.2.1
theorem dX11_binds_39 : decode cX11_binds 39 = .ok (.aload_n 0, 1) := gdX11_binds_20.2.2.2.2.2.2.2.2.2.1
theorem dX11_binds_40 : decode cX11_binds 40 = .ok (.getfield 52, 3) := gdX11_binds_20.2.2.2.2.2.2.2.2.2.2.1
theorem dX11_binds_43 : decode cX11_binds 43 = .ok (.getfield 199, 3) := gdX11_binds_20.2.2.2.2.2.2.2.2.2.2.2
theorem dX11_binds_46 : decode cX11_binds 46 = .ok (.ireturn, 1) := by decide +kernel
set_option maxHeartbeats 1000000 in
set_option maxRecDepth 100000 in
theorem s_xbinds (l : Launch) (D : va_G) (cy : Nat → ClassId) (x0 : Nat) (t0 : Nat) (d0 : Nat) (h0 : Nat) (h1 : Nat) (h2 : Nat) (h3 : Nat) (h4 : Nat) (h5 : Nat) (h6 : Nat) (h7 : Nat) (h8 : Nat) (h9 : Nat) (h10 : Nat) (h11 : Nat) (h9a : Nat) (h9b : Nat) (h10a : Nat) (h10b : Nat) (h11a : Nat) (h11b : Nat) (o0 : Nat) (n0 : Nat) (n1 : Nat) (n2 : Nat) (n3 : Nat) (u0 : Nat) (k0 : Nat) (er : Nat) (ro : Nat) (ea : Nat → Nat) (eg : Nat → Nat) (ef : Nat → Nat) (q0 : Nat) (p0 : Nat) (s0 : Nat) (s1 : Nat) (s2 : Nat) (b0 : Nat) (z0 : Nat) (z1 : Nat) (z2 : Nat) (ly : Nat) (ys : Int32) (hon : Int32) (hwi : Int32) (hdr : Int32) (hu : Int32) (fc : Nat → Int32) (c0 : Nat) (c1 : Nat) (c2 : Nat) (c3 : Nat) (flo : Nat → Int32) (fp : Nat → Int32) (fmp : Nat → Int32) (fmv : Nat → Int32) (fx : Nat → Int32) (nb : Nat) (tb : Int32) (fcb : Nat → Int32) (fsb : Nat → Int32) (nl : Nat) (tl : Int32) (fcl : Nat → Int32) (fsl : Nat → Int32) (nt : Nat) (tt : Int32) (fct : Nat → Int32) (fst : Nat → Int32) (fu : Int32) (cu : Nat) (un : Nat) (re : Nat) (fn : Nat → Int32) (bo : Int32) (fr : Nat → Int32) (et : Nat → Int32) (el : Nat → Nat) (ei : Nat → Nat) (gc : Nat → Nat → Int32) (xc : Nat → Nat → Int32) (sl : Nat) (spl : Int32) (svo : Int32) (swi : Int32) (sch : Int32) (fw : Nat → Int32) (fsn : Nat → Int32) (zl : Nat) (zpl : Int32) (zvo : Int32) (zwi : Int32) (zch : Int32) (fzw : Nat → Int32) (fzn : Nat → Int32) (yc : Nat) (xm : Int32) (hcn : cntOK fc c0 c1 c2 c3) (hc0 : c0 ≤ 8) (hc1 : c1 ≤ 4) (hc2 : c2 ≤ 4) (hc3 : c3 ≤ 6) (hnx : rng fx 48 5) (hnb : nb ≤ 280) (hcb : cOK fcb nb) (hnt : nt ≤ 280) (hct : cOK fct nt) (hnl : nl ≤ 280) (hcl : cOK fcl nl) (hcu : cu ≤ 40) (hur : un + re ≤ 40) (hno : mRows fn 1) (hel : ∀ i9, i9 < 4 → el i9 ≤ 10) (hrw : rng fr 20 7) (hsl : sl ≤ 10) (hsw : rng fw 10 7) (hzl : zl ≤ 10) (hzw : rng fzw 10 7) (hyc : yc ≤ 10) : XMi l D (tyL cy) E0 yX11_binds cX11_binds 2 (some .int) (rmk 7 0 0) [.ref x0, .int xm] [wO x0 11 [.ref t0, .ref d0, .ref h0, .ref o0, .ref n0, .ref u0, .ref k0, .ref q0, .ref p0, .ref s0, .ref b0, .ref z0, .ref ly, .int (nI yc)], wO n0 5 [.ref n1, .ref n2, .ref n3, .int fu, .int (nI cu), .int (nI un), .int (nI re)], wI (cy 1) n1 41 (fn), wO s0 7 [.ref s1, .ref s2, .int (nI sl), .int spl, .int svo, .int swi, .int sch], wI (cy 1) s1 10 (fw), wI (cy 1) s2 4 (fsn), wO h0 4 [.ref h1, .ref h2, .ref h3, .ref h4, .ref h5, .ref h6, .ref h7, .ref h8, .ref h9, .ref h10, .ref h11, .int ys, .int hon, .int hwi, .int hdr, .int hu], wI (cy 1) h5 4 (fmp), wI (cy 1) h6 4 (fmv), wO k0 0 [.ref er, .ref ro, .int bo], (er, .inl (cy 4, 4, .inr (.inr (.inr (.inr (eF (ea 0) (ea 1) (ea 2) (ea 3))))))), wI (cy 1) ro 20 (fr), wO (ea 0) 2 [.ref (eg 0), .ref (ef 0), .int (et 0), .int (nI (el 0)), .int (nI (ei 0))], wI (cy 1) (eg 0) 10 (gc 0), wI (cy 1) (ef 0) 7 (xc 0), wO (ea 1) 2 [.ref (eg 1), .ref (ef 1), .int (et 1), .int (nI (el 1)), .int (nI (ei 1))], wI (cy 1) (eg 1) 10 (gc 1), wI (cy 1) (ef 1) 7 (xc 1), wO (ea 2) 2 [.ref (eg 2), .ref (ef 2), .int (et 2), .int (nI (el 2)), .int (nI (ei 2))], wI (cy 1) (eg 2) 10 (gc 2), wI (cy 1) (ef 2) 7 (xc 2), wO (ea 3) 2 [.ref (eg 3), .ref (ef 3), .int (et 3), .int (nI (el 3)), .int (nI (ei 3))], wI (cy 1) (eg 3) 10 (gc 3), wI (cy 1) (ef 3) 7 (xc 3), wI (cy 1) h1 4 (fc), wI (cy 1) h3 4 (fp), wI (cy 1) h2 8 (flo), wI (cy 1) h7 48 (fx), wO h9 3 [.ref h9a, .ref h9b, .int (nI nb), .int tb], wI (cy 1) h9a 280 (fcb), wI (cy 1) h9b 31 (fsb), wO h11 3 [.ref h11a, .ref h11b, .int (nI nt), .int tt], wI (cy 1) h11a 280 (fct), wI (cy 1) h11b 31 (fst), wO h10 3 [.ref h10a, .ref h10b, .int (nI nl), .int tl], wI (cy 1) h10a 280 (fcl), wI (cy 1) h10b 31 (fsl), wO z0 7 [.ref z1, .ref z2, .int (nI zl), .int zpl, .int zvo, .int zwi, .int zch], wI (cy 1) z1 10 (fzw), wI (cy 1) z2 4 (fzn)] (fun (r : Int32) (u : (Nat → Int32) × (Nat → Int32) × (Nat → Int32) × Int32 × (Nat → Int32) × (Nat → Int32) × (Nat → Nat) × (Nat → Nat) × (Nat → Nat → Int32) × (Nat → Nat → Int32) × Nat × Int32 × Int32 × Int32 × Int32 × (Nat → Int32) × (Nat → Int32)) => (∀ i9, i9 < 4 → u.2.2.2.2.2.2.1 i9 ≤ 10) ∧ (rng u.2.2.2.2.1 20 7) ∧ (u.2.2.2.2.2.2.2.2.2.2.1 ≤ 10) ∧ (rng u.2.2.2.2.2.2.2.2.2.2.2.2.2.2.2.1 10 7)) (fun (u : (Nat → Int32) × (Nat → Int32) × (Nat → Int32) × Int32 × (Nat → Int32) × (Nat → Int32) × (Nat → Nat) × (Nat → Nat) × (Nat → Nat → Int32) × (Nat → Nat → Int32) × Nat × Int32 × Int32 × Int32 × Int32 × (Nat → Int32) × (Nat → Int32)) => [wO x0 11 [.ref t0, .ref d0, .ref h0, .ref o0, .ref n0, .ref u0, .ref k0, .ref q0, .ref p0, .ref s0, .ref b0, .ref z0, .ref ly, .int (nI yc)], wO n0 5 [.ref n1, .ref n2, .ref n3, .int fu, .int (nI cu), .int (nI un), .int (nI re)], wI (cy 1) n1 41 (fn), wO s0 7 [.ref s1, .ref s2, .int (nI u.2.2.2.2.2.2.2.2.2.2.1), .int u.2.2.2.2.2.2.2.2.2.2.2.1, .int u.2.2.2.2.2.2.2.2.2.2.2.2.1, .int u.2.2.2.2.2.2.2.2.2.2.2.2.2.1, .int u.2.2.2.2.2.2.2.2.2.2.2.2.2.2.1], wI (cy 1) s1 10 (u.2.2.2.2.2.2.2.2.2.2.2.2.2.2.2.1), wI (cy 1) s2 4 (u.2.2.2.2.2.2.2.2.2.2.2.2.2.2.2.2), wO h0 4 [.ref h1, .ref h2, .ref h3, .ref h4, .ref h5, .ref h6, .ref h7, .ref h8, .ref h9, .ref h10, .ref h11, .int ys, .int hon, .int hwi, .int hdr, .int hu], wI (cy 1) h5 4 (fmp), wI (cy 1) h6 4 (fmv), wO k0 0 [.ref er, .ref ro, .int u.2.2.2.1], (er, .inl (cy 4, 4, .inr (.inr (.inr (.inr (eF (ea 0) (ea 1) (ea 2) (ea 3))))))), wI (cy 1) ro 20 (u.2.2.2.2.1), wO (ea 0) 2 [.ref (eg 0), .ref (ef 0), .int (u.2.2.2.2.2.1 0), .int (nI (u.2.2.2.2.2.2.1 0)), .int (nI (u.2.2.2.2.2.2.2.1 0))], wI (cy 1) (eg 0) 10 (u.2.2.2.2.2.2.2.2.1 0), wI (cy 1) (ef 0) 7 (u.2.2.2.2.2.2.2.2.2.1 0), wO (ea 1) 2 [.ref (eg 1), .ref (ef 1), .int (u.2.2.2.2.2.1 1), .int (nI (u.2.2.2.2.2.2.1 1)), .int (nI (u.2.2.2.2.2.2.2.1 1))], wI (cy 1) (eg 1) 10 (u.2.2.2.2.2.2.2.2.1 1), wI (cy 1) (ef 1) 7 (u.2.2.2.2.2.2.2.2.2.1 1), wO (ea 2) 2 [.ref (eg 2), .ref (ef 2), .int (u.2.2.2.2.2.1 2), .int (nI (u.2.2.2.2.2.2.1 2)), .int (nI (u.2.2.2.2.2.2.2.1 2))], wI (cy 1) (eg 2) 10 (u.2.2.2.2.2.2.2.2.1 2), wI (cy 1) (ef 2) 7 (u.2.2.2.2.2.2.2.2.2.1 2), wO (ea 3) 2 [.ref (eg 3), .ref (ef 3), .int (u.2.2.2.2.2.1 3), .int (nI (u.2.2.2.2.2.2.1 3)), .int (nI (u.2.2.2.2.2.2.2.1 3))], wI (cy 1) (eg 3) 10 (u.2.2.2.2.2.2.2.2.1 3), wI (cy 1) (ef 3) 7 (u.2.2.2.2.2.2.2.2.2.1 3), wI (cy 1) h1 4 (fc), wI (cy 1) h3 4 (fp), wI (cy 1) h2 8 (flo), wI (cy 1) h7 48 (fx), wO h9 3 [.ref h9a, .ref h9b, .int (nI nb), .int tb], wI (cy 1) h9a 280 (fcb), wI (cy 1) h9b 31 (u.1), wO h11 3 [.ref h11a, .ref h11b, .int (nI nt), .int tt], wI (cy 1) h11a 280 (fct), wI (cy 1) h11b 31 (u.2.2.1), wO h10 3 [.ref h10a, .ref h10b, .int (nI nl), .int tl], wI (cy 1) h10a 280 (fcl), wI (cy 1) h10b 31 (u.2.1), wO z0 7 [.ref z1, .ref z2, .int (nI zl), .int zpl, .int zvo, .int zwi, .int zch], wI (cy 1) z1 10 (fzw), wI (cy 1) z2 4 (fzn)]) := by
  refine XMi.start (by decide) (Nat.le_of_ble_eq_true rfl) ?_
  intro p e s m below meth c args A ls Q hat hQ
  obtain ⟨hx, hb, hr, hml, hown, hg, hlocks, hin, hK, hA, hP, hD, hS, hE, hl⟩ := hat
  have hown : s.vm.findClass RX11 = some m.cls := hown
  have hl : lv_has ls 2 [(0, .ref x0), (1, .int xm)] := hl
  have hk_1 := hel 0 (by decide)
  have hk_2 := hel 1 (by decide)
  have hk_3 := hel 2 (by decide)
  have hk_4 := hel 3 (by decide)
  refine lv_aload_n hx hb dX11_binds_0 rfl (lv_at hl 0 rfl) ?_
  refine va_get (D := D) (ci := 11) (v := .ref h0) (C := RX11) (T := TX11) (N := 14) hx hb hg i_X11 hown hK hP 0 rfl rfl 2 (by decide) (hg _ m_660) (fun _ h9 => h9) rfl dX11_binds_1 ?_
  refine lv_iconst (v := 2) hx hb dX11_binds_4 (by decide) ?_
  refine lv_iload_n hx hb dX11_binds_5 rfl (lv_at hl 1 rfl) ?_
  refine x_callVi (q := (RX4, TX4, 16)) (ci := 4) (q0 := 0) (wr := [wO x0 11 [.ref t0, .ref d0, .ref h0, .ref o0, .ref n0, .ref u0, .ref k0, .ref q0, .ref p0, .ref s0, .ref b0, .ref z0, .ref ly, .int (nI yc)], wO n0 5 [.ref n1, .ref n2, .ref n3, .int fu, .int (nI cu), .int (nI un), .int (nI re)], wI (cy 1) n1 41 (fn), wO s0 7 [.ref s1, .ref s2, .int (nI sl), .int spl, .int svo, .int swi, .int sch], wI (cy 1) s1 10 (fw), wI (cy 1) s2 4 (fsn), wI (cy 1) h5 4 (fmp), wI (cy 1) h6 4 (fmv), wO k0 0 [.ref er, .ref ro, .int bo], (er, .inl (cy 4, 4, .inr (.inr (.inr (.inr (eF (ea 0) (ea 1) (ea 2) (ea 3))))))), wI (cy 1) ro 20 (fr), wO (ea 0) 2 [.ref (eg 0), .ref (ef 0), .int (et 0), .int (nI (el 0)), .int (nI (ei 0))], wI (cy 1) (eg 0) 10 (gc 0), wI (cy 1) (ef 0) 7 (xc 0), wO (ea 1) 2 [.ref (eg 1), .ref (ef 1), .int (et 1), .int (nI (el 1)), .int (nI (ei 1))], wI (cy 1) (eg 1) 10 (gc 1), wI (cy 1) (ef 1) 7 (xc 1), wO (ea 2) 2 [.ref (eg 2), .ref (ef 2), .int (et 2), .int (nI (el 2)), .int (nI (ei 2))], wI (cy 1) (eg 2) 10 (gc 2), wI (cy 1) (ef 2) 7 (xc 2), wO (ea 3) 2 [.ref (eg 3), .ref (ef 3), .int (et 3), .int (nI (el 3)), .int (nI (ei 3))], wI (cy 1) (eg 3) 10 (gc 3), wI (cy 1) (ef 3) 7 (xc 3), wI (cy 1) h3 4 (fp), wI (cy 1) h2 8 (flo), wI (cy 1) h7 48 (fx), wO h9 3 [.ref h9a, .ref h9b, .int (nI nb), .int tb], wI (cy 1) h9a 280 (fcb), wI (cy 1) h9b 31 (fsb), wO h11 3 [.ref h11a, .ref h11b, .int (nI nt), .int tt], wI (cy 1) h11a 280 (fct), wI (cy 1) h11b 31 (fst), wO h10 3 [.ref h10a, .ref h10b, .int (nI nl), .int tl], wI (cy 1) h10a 280 (fcl), wI (cy 1) h10b 31 (fsl), wO z0 7 [.ref z1, .ref z2, .int (nI zl), .int zpl, .int zvo, .int zwi, .int zch], wI (cy 1) z1 10 (fzw), wI (cy 1) z2 4 (fzn)]) (rest := []) ⟨hx, hb, hml, hown, hg, hl.1⟩ k_X11_120 (s_has2 l D cy h0 h1 h2 h3 h4 h5 h6 h7 h8 h9 h10 h11 ((.int ys)) ((.int hon)) ((.int hwi)) ((.int hdr)) ((.int hu)) fc c0 c1 c2 c3 xm (hcn) (by omega) (by omega) (by omega) (by omega)) E0_blind hK hP hD hS hA [6, 24] [0, 1, 2, 3, 4, 5, 7, 8, 9, 10, 11, 12, 13, 14, 15, 16, 17, 18, 19, 20, 21, 22, 23, 25, 26, 27, 28, 29, 30, 31, 32, 33, 34, 35, 36, 37, 38, 39] ⟨rfl, rfl, by decide +kernel, by decide +kernel, by decide +kernel⟩ rfl rfl (fun _ _ _ => trivial) dX11_binds_6 rfl rfl (Nat.le_of_ble_eq_true rfl) ⟨Nat.le_of_ble_eq_true rfl, Nat.le_of_ble_eq_true rfl⟩ ⟨Nat.le_of_ble_eq_true rfl, Nat.le_of_ble_eq_true rfl⟩ (fun zr5 zu5 H locs hw5 hP9 hD9 hS9 => ?_)
  clear hP hD hS
  refine reW [wO x0 11 [.ref t0, .ref d0, .ref h0, .ref o0, .ref n0, .ref u0, .ref k0, .ref q0, .ref p0, .ref s0, .ref b0, .ref z0, .ref ly, .int (nI yc)], wO n0 5 [.ref n1, .ref n2, .ref n3, .int fu, .int (nI cu), .int (nI un), .int (nI re)], wI (cy 1) n1 41 (fn), wO s0 7 [.ref s1, .ref s2, .int (nI sl), .int spl, .int svo, .int swi, .int sch], wI (cy 1) s1 10 (fw), wI (cy 1) s2 4 (fsn), wI (cy 1) h5 4 (fmp), wI (cy 1) h6 4 (fmv), wO k0 0 [.ref er, .ref ro, .int bo], (er, .inl (cy 4, 4, .inr (.inr (.inr (.inr (eF (ea 0) (ea 1) (ea 2) (ea 3))))))), wI (cy 1) ro 20 (fr), wO (ea 0) 2 [.ref (eg 0), .ref (ef 0), .int (et 0), .int (nI (el 0)), .int (nI (ei 0))], wI (cy 1) (eg 0) 10 (gc 0), wI (cy 1) (ef 0) 7 (xc 0), wO (ea 1) 2 [.ref (eg 1), .ref (ef 1), .int (et 1), .int (nI (el 1)), .int (nI (ei 1))], wI (cy 1) (eg 1) 10 (gc 1), wI (cy 1) (ef 1) 7 (xc 1), wO (ea 2) 2 [.ref (eg 2), .ref (ef 2), .int (et 2), .int (nI (el 2)), .int (nI (ei 2))], wI (cy 1) (eg 2) 10 (gc 2), wI (cy 1) (ef 2) 7 (xc 2), wO (ea 3) 2 [.ref (eg 3), .ref (ef 3), .int (et 3), .int (nI (el 3)), .int (nI (ei 3))], wI (cy 1) (eg 3) 10 (gc 3), wI (cy 1) (ef 3) 7 (xc 3), wI (cy 1) h3 4 (fp), wI (cy 1) h2 8 (flo), wI (cy 1) h7 48 (fx), wO h9 3 [.ref h9a, .ref h9b, .int (nI nb), .int tb], wI (cy 1) h9a 280 (fcb), wI (cy 1) h9b 31 (fsb), wO h11 3 [.ref h11a, .ref h11b, .int (nI nt), .int tt], wI (cy 1) h11a 280 (fct), wI (cy 1) h11b 31 (fst), wO h10 3 [.ref h10a, .ref h10b, .int (nI nl), .int tl], wI (cy 1) h10a 280 (fcl), wI (cy 1) h10b 31 (fsl), wO z0 7 [.ref z1, .ref z2, .int (nI zl), .int zpl, .int zvo, .int zwi, .int zch], wI (cy 1) z1 10 (fzw), wI (cy 1) z2 4 (fzn), wO h0 4 [.ref h1, .ref h2, .ref h3, .ref h4, .ref h5, .ref h6, .ref h7, .ref h8, .ref h9, .ref h10, .ref h11, .int ys, .int hon, .int hwi, .int hdr, .int hu], wI (cy 1) h1 4 (fc)] hP9 hD9 hS9 (fun hP hD hS => ?_)
  clear hP9 hD9 hS9
  refine W.widen (k := 0) (n := 0) (Nat.le_of_ble_eq_true rfl) (Nat.le_of_ble_eq_true rfl) ?_
  replace hw5 : (zr5 = 0 ∨ (zr5 = 1 ∧ ∃ j : Nat, j < c2 ∧ xm = nI j)) ∧ (zr5 = 0 → ¬ inR xm c2) := hw5
  obtain ⟨f_6, f_7⟩ := hw5
  rcases f_6 with hz_9 | ⟨hz_9, j_8, hj_8, ej_8⟩
  · subst hz_9
    refine lv_if_ne (tgt := 14) hx hb dX11_binds_9 (by decide) (fun h => absurd (by decide) h) (fun _ => ?_)
    refine lv_iconst (v := -1) hx hb dX11_binds_12 (by decide) ?_
    exact x_iret hQ hx hb hr hlocks hK hP hD hS dX11_binds_13 (fsb, fsl, fst, bo, fr, (fun k => [et 0, et 1, et 2, et 3].getD k 0), (fun k => [(el 0), (el 1), (el 2), (el 3)].getD k 0), (fun k => [(ei 0), (ei 1), (ei 2), (ei 3)].getD k 0), (fun k => [gc 0, gc 1, gc 2, gc 3].getD k (fun _ => 0)), (fun k => [xc 0, xc 1, xc 2, xc 3].getD k (fun _ => 0)), sl, spl, svo, swi, sch, fw, fsn) (⟨get4 (by omega) (by omega) (by omega) (by omega), hrw, (show sl ≤ 10 from by omega), hsw⟩) [0, 1, 2, 3, 4, 5, 38, 6, 7, 8, 9, 10, 11, 12, 13, 14, 15, 16, 17, 18, 19, 20, 21, 22, 39, 23, 24, 25, 26, 27, 28, 29, 30, 31, 32, 33, 34, 35, 36, 37] (by decide +kernel) rfl (Nat.le_of_ble_eq_true rfl) (Nat.le_of_ble_eq_true rfl)
  · subst hz_9
    subst ej_8
    refine lv_if_ne (tgt := 14) hx hb dX11_binds_9 (by decide) (fun _ => ?_) (fun h => absurd h (by decide))
    refine lv_aload_n hx hb dX11_binds_14 rfl (lv_at hl 0 rfl) ?_
    refine lv_iload_n hx hb dX11_binds_15 rfl (lv_at hl 1 rfl) ?_
    refine x_callVv (q := (RX11, TX11, 14)) (ci := 11) (q0 := 0) (wr := [wO k0 0 [.ref er, .ref ro, .int bo], (er, .inl (cy 4, 4, .inr (.inr (.inr (.inr (eF (ea 0) (ea 1) (ea 2) (ea 3))))))), wI (cy 1) ro 20 (fr), wO (ea 0) 2 [.ref (eg 0), .ref (ef 0), .int (et 0), .int (nI (el 0)), .int (nI (ei 0))], wI (cy 1) (eg 0) 10 (gc 0), wI (cy 1) (ef 0) 7 (xc 0), wO (ea 1) 2 [.ref (eg 1), .ref (ef 1), .int (et 1), .int (nI (el 1)), .int (nI (ei 1))], wI (cy 1) (eg 1) 10 (gc 1), wI (cy 1) (ef 1) 7 (xc 1), wO (ea 2) 2 [.ref (eg 2), .ref (ef 2), .int (et 2), .int (nI (el 2)), .int (nI (ei 2))], wI (cy 1) (eg 2) 10 (gc 2), wI (cy 1) (ef 2) 7 (xc 2), wO (ea 3) 2 [.ref (eg 3), .ref (ef 3), .int (et 3), .int (nI (el 3)), .int (nI (ei 3))], wI (cy 1) (eg 3) 10 (gc 3), wI (cy 1) (ef 3) 7 (xc 3), wI (cy 1) h3 4 (fp), wI (cy 1) h2 8 (flo), wI (cy 1) h7 48 (fx), wO h9 3 [.ref h9a, .ref h9b, .int (nI nb), .int tb], wI (cy 1) h9a 280 (fcb), wI (cy 1) h9b 31 (fsb), wO h11 3 [.ref h11a, .ref h11b, .int (nI nt), .int tt], wI (cy 1) h11a 280 (fct), wI (cy 1) h11b 31 (fst), wO h10 3 [.ref h10a, .ref h10b, .int (nI nl), .int tl], wI (cy 1) h10a 280 (fcl), wI (cy 1) h10b 31 (fsl), wO z0 7 [.ref z1, .ref z2, .int (nI zl), .int zpl, .int zvo, .int zwi, .int zch], wI (cy 1) z1 10 (fzw), wI (cy 1) z2 4 (fzn), wI (cy 1) h1 4 (fc)]) (rest := []) ⟨hx, hb, hml, hown, hg, hl.1⟩ k_X11_161 (s_xprepare l D cy x0 t0 d0 h0 h1 h2 h3 h4 h5 h6 h7 h8 h9 h10 h11 o0 n0 n1 n2 n3 u0 k0 q0 p0 s0 s1 s2 b0 z0 ly ys hon hwi hdr hu fmp fmv fu cu un re fn sl spl svo swi sch fw fsn yc j_8 (by omega) (by omega) (hno) (by omega) (hsw) (by omega) (by omega)) E0_blind hK hP hD hS hA [0, 1, 2, 3, 4, 5, 38, 6, 7] [8, 9, 10, 11, 12, 13, 14, 15, 16, 17, 18, 19, 20, 21, 22, 23, 24, 25, 26, 27, 28, 29, 30, 31, 32, 33, 34, 35, 36, 37, 39] ⟨rfl, rfl, by decide +kernel, by decide +kernel, by decide +kernel⟩ rfl rfl (fun _ _ _ => trivial) dX11_binds_16 rfl rfl (Nat.le_of_ble_eq_true rfl) ⟨Nat.le_of_ble_eq_true rfl, Nat.le_of_ble_eq_true rfl⟩ ⟨Nat.le_of_ble_eq_true rfl, Nat.le_of_ble_eq_true rfl⟩ (fun zu10 H locs hw10 hP9 hD9 hS9 => ?_)
    clear hP hD hS
    obtain ⟨sl2_11, spl2_12, svo2_13, swi2_14, sch2_15, fw2_16, fsn2_17⟩ := zu10
    refine reW [wO k0 0 [.ref er, .ref ro, .int bo], (er, .inl (cy 4, 4, .inr (.inr (.inr (.inr (eF (ea 0) (ea 1) (ea 2) (ea 3))))))), wI (cy 1) ro 20 (fr), wO (ea 0) 2 [.ref (eg 0), .ref (ef 0), .int (et 0), .int (nI (el 0)), .int (nI (ei 0))], wI (cy 1) (eg 0) 10 (gc 0), wI (cy 1) (ef 0) 7 (xc 0), wO (ea 1) 2 [.ref (eg 1), .ref (ef 1), .int (et 1), .int (nI (el 1)), .int (nI (ei 1))], wI (cy 1) (eg 1) 10 (gc 1), wI (cy 1) (ef 1) 7 (xc 1), wO (ea 2) 2 [.ref (eg 2), .ref (ef 2), .int (et 2), .int (nI (el 2)), .int (nI (ei 2))], wI (cy 1) (eg 2) 10 (gc 2), wI (cy 1) (ef 2) 7 (xc 2), wO (ea 3) 2 [.ref (eg 3), .ref (ef 3), .int (et 3), .int (nI (el 3)), .int (nI (ei 3))], wI (cy 1) (eg 3) 10 (gc 3), wI (cy 1) (ef 3) 7 (xc 3), wI (cy 1) h3 4 (fp), wI (cy 1) h2 8 (flo), wI (cy 1) h7 48 (fx), wO h9 3 [.ref h9a, .ref h9b, .int (nI nb), .int tb], wI (cy 1) h9a 280 (fcb), wI (cy 1) h9b 31 (fsb), wO h11 3 [.ref h11a, .ref h11b, .int (nI nt), .int tt], wI (cy 1) h11a 280 (fct), wI (cy 1) h11b 31 (fst), wO h10 3 [.ref h10a, .ref h10b, .int (nI nl), .int tl], wI (cy 1) h10a 280 (fcl), wI (cy 1) h10b 31 (fsl), wO z0 7 [.ref z1, .ref z2, .int (nI zl), .int zpl, .int zvo, .int zwi, .int zch], wI (cy 1) z1 10 (fzw), wI (cy 1) z2 4 (fzn), wI (cy 1) h1 4 (fc), wO x0 11 [.ref t0, .ref d0, .ref h0, .ref o0, .ref n0, .ref u0, .ref k0, .ref q0, .ref p0, .ref s0, .ref b0, .ref z0, .ref ly, .int (nI yc)], wO n0 5 [.ref n1, .ref n2, .ref n3, .int fu, .int (nI cu), .int (nI un), .int (nI re)], wI (cy 1) n1 41 (fn), wO s0 7 [.ref s1, .ref s2, .int (nI sl2_11), .int spl2_12, .int svo2_13, .int swi2_14, .int sch2_15], wI (cy 1) s1 10 (fw2_16), wI (cy 1) s2 4 (fsn2_17), wO h0 4 [.ref h1, .ref h2, .ref h3, .ref h4, .ref h5, .ref h6, .ref h7, .ref h8, .ref h9, .ref h10, .ref h11, .int ys, .int hon, .int hwi, .int hdr, .int hu], wI (cy 1) h5 4 (fmp), wI (cy 1) h6 4 (fmv)] hP9 hD9 hS9 (fun hP hD hS => ?_)
    clear hP9 hD9 hS9
    refine W.widen (k := 0) (n := 0) (Nat.le_of_ble_eq_true rfl) (Nat.le_of_ble_eq_true rfl) ?_
    replace hw10 : (sl2_11 ≤ 10) ∧ (rng fw2_16 10 7) := hw10
    obtain ⟨f_18, f_19⟩ := hw10
    refine lv_aload_n hx hb dX11_binds_19 rfl (lv_at hl 0 rfl) ?_
    refine va_get (D := D) (ci := 11) (v := .ref k0) (C := RX11) (T := TX11) (N := 14) hx hb hg i_X11 hown hK hP 31 rfl rfl 6 (by decide) (hg _ m_664) (fun _ h9 => h9) rfl dX11_binds_20 ?_
    refine lv_aload_n hx hb dX11_binds_23 rfl (lv_at hl 0 rfl) ?_
    refine va_get (D := D) (ci := 11) (v := .ref h0) (C := RX11) (T := TX11) (N := 14) hx hb hg i_X11 hown hK hP 31 rfl rfl 2 (by decide) (hg _ m_660) (fun _ h9 => h9) rfl dX11_binds_24 ?_
    refine lv_aload_n hx hb dX11_binds_27 rfl (lv_at hl 0 rfl) ?_
    refine va_get (D := D) (ci := 11) (v := .ref s0) (C := RX11) (T := TX11) (N := 14) hx hb hg i_X11 hown hK hP 31 rfl rfl 9 (by decide) (hg _ m_667) (fun _ h9 => h9) rfl dX11_binds_28 ?_
    refine lv_aload_n hx hb dX11_binds_31 rfl (lv_at hl 0 rfl) ?_
    refine va_get (D := D) (ci := 11) (v := .ref z0) (C := RX11) (T := TX11) (N := 14) hx hb hg i_X11 hown hK hP 31 rfl rfl 11 (by decide) (hg _ m_669) (fun _ h9 => h9) rfl dX11_binds_32 ?_
    refine x_callVi (q := (RX0, TX0, 3)) (ci := 0) (q0 := 0) (wr := [wO x0 11 [.ref t0, .ref d0, .ref h0, .ref o0, .ref n0, .ref u0, .ref k0, .ref q0, .ref p0, .ref s0, .ref b0, .ref z0, .ref ly, .int (nI yc)], wO n0 5 [.ref n1, .ref n2, .ref n3, .int fu, .int (nI cu), .int (nI un), .int (nI re)], wI (cy 1) n1 41 (fn), wI (cy 1) h5 4 (fmp), wI (cy 1) h6 4 (fmv)]) (rest := []) ⟨hx, hb, hml, hown, hg, hl.1⟩ k_X11_164 (s_verdict l D cy k0 ro bo fr er ea eg ef et el ei gc xc h0 h1 h2 h3 h4 h5 h6 h7 h8 h9 h10 h11 ((.int hon)) ((.int hwi)) ((.int hdr)) ((.int hu)) ys fp flo fx fc c0 c1 c2 c3 h9a h9b nb tb fcb fsb h11a h11b nt tt fct fst h10a h10b nl tl fcl fsl s0 s1 s2 sl2_11 spl2_12 svo2_13 swi2_14 sch2_15 fw2_16 fsn2_17 z0 z1 z2 zl zpl zvo zwi zch fzw fzn (fun i9 h9 => by rcases (show i9 = 0 ∨ i9 = 1 ∨ i9 = 2 ∨ i9 = 3 by omega) with rfl | rfl | rfl | rfl <;> omega) (hrw) (hcn) (by omega) (by omega) (by omega) (by omega) (hnx) (by omega) (hcb) (by omega) (hct) (by omega) (hcl) (by omega) (f_19) (by omega) (hzw)) E0_blind hK hP hD hS hA [0, 1, 2, 3, 4, 5, 6, 7, 8, 9, 10, 11, 12, 13, 14, 37, 30, 15, 16, 17, 18, 19, 20, 21, 22, 23, 24, 25, 26, 34, 35, 36, 27, 28, 29] [31, 32, 33, 38, 39] ⟨rfl, rfl, by decide +kernel, by decide +kernel, by decide +kernel⟩ rfl rfl (fun _ _ _ => trivial) dX11_binds_35 rfl rfl (Nat.le_of_ble_eq_true rfl) ⟨Nat.le_of_ble_eq_true rfl, Nat.le_of_ble_eq_true rfl⟩ ⟨Nat.le_of_ble_eq_true rfl, Nat.le_of_ble_eq_true rfl⟩ (fun zr20 zu20 H locs hw20 hP9 hD9 hS9 => ?_)
    clear hP hD hS
    obtain ⟨bo2_21, et2_22, el2_23, ei2_24, gc2_25, xc2_26, fsb2_27, fst2_28, fsl2_29, fr2_30, vd2_31⟩ := zu20
    refine reW [wO x0 11 [.ref t0, .ref d0, .ref h0, .ref o0, .ref n0, .ref u0, .ref k0, .ref q0, .ref p0, .ref s0, .ref b0, .ref z0, .ref ly, .int (nI yc)], wO n0 5 [.ref n1, .ref n2, .ref n3, .int fu, .int (nI cu), .int (nI un), .int (nI re)], wI (cy 1) n1 41 (fn), wI (cy 1) h5 4 (fmp), wI (cy 1) h6 4 (fmv), wO k0 0 [.ref er, .ref ro, .int bo2_21], (er, .inl (cy 4, 4, .inr (.inr (.inr (.inr (eF (ea 0) (ea 1) (ea 2) (ea 3))))))), wI (cy 1) ro 20 (fr2_30), wO (ea 0) 2 [.ref (eg 0), .ref (ef 0), .int (et2_22 0), .int (nI (el2_23 0)), .int (nI (ei2_24 0))], wI (cy 1) (eg 0) 10 (gc2_25 0), wI (cy 1) (ef 0) 7 (xc2_26 0), wO (ea 1) 2 [.ref (eg 1), .ref (ef 1), .int (et2_22 1), .int (nI (el2_23 1)), .int (nI (ei2_24 1))], wI (cy 1) (eg 1) 10 (gc2_25 1), wI (cy 1) (ef 1) 7 (xc2_26 1), wO (ea 2) 2 [.ref (eg 2), .ref (ef 2), .int (et2_22 2), .int (nI (el2_23 2)), .int (nI (ei2_24 2))], wI (cy 1) (eg 2) 10 (gc2_25 2), wI (cy 1) (ef 2) 7 (xc2_26 2), wO (ea 3) 2 [.ref (eg 3), .ref (ef 3), .int (et2_22 3), .int (nI (el2_23 3)), .int (nI (ei2_24 3))], wI (cy 1) (eg 3) 10 (gc2_25 3), wI (cy 1) (ef 3) 7 (xc2_26 3), wO h0 4 [.ref h1, .ref h2, .ref h3, .ref h4, .ref h5, .ref h6, .ref h7, .ref h8, .ref h9, .ref h10, .ref h11, .int ys, .int hon, .int hwi, .int hdr, .int hu], wI (cy 1) h1 4 (fc), wI (cy 1) h3 4 (fp), wI (cy 1) h2 8 (flo), wI (cy 1) h7 48 (fx), wO h9 3 [.ref h9a, .ref h9b, .int (nI nb), .int tb], wI (cy 1) h9a 280 (fcb), wI (cy 1) h9b 31 (fsb2_27), wO h11 3 [.ref h11a, .ref h11b, .int (nI nt), .int tt], wI (cy 1) h11a 280 (fct), wI (cy 1) h11b 31 (fst2_28), wO h10 3 [.ref h10a, .ref h10b, .int (nI nl), .int tl], wI (cy 1) h10a 280 (fcl), wI (cy 1) h10b 31 (fsl2_29), wO s0 7 [.ref s1, .ref s2, .int (nI sl2_11), .int spl2_12, .int svo2_13, .int swi2_14, .int sch2_15], wI (cy 1) s1 10 (fw2_16), wI (cy 1) s2 4 (fsn2_17), wO z0 7 [.ref z1, .ref z2, .int (nI zl), .int zpl, .int zvo, .int zwi, .int zch], wI (cy 1) z1 10 (fzw), wI (cy 1) z2 4 (fzn)] hP9 hD9 hS9 (fun hP hD hS => ?_)
    clear hP9 hD9 hS9
    refine W.widen (k := 0) (n := 0) (Nat.le_of_ble_eq_true rfl) (Nat.le_of_ble_eq_true rfl) ?_
    replace hw20 : (zr20 = nI vd2_31) ∧ (vd2_31 ≤ 2) ∧ (bo2_21 = -1 ∨ ∃ j9 : Nat, j9 < 4 ∧ bo2_21 = nI j9) ∧ (rng fr2_30 20 7) ∧ (∀ i9, i9 < 4 → el2_23 i9 ≤ 10) := hw20
    obtain ⟨f_32, f_33, f_34, f_35, f_36⟩ := hw20
    subst f_32
    have hk_37 := f_36 0 (by decide)
    have hk_38 := f_36 1 (by decide)
    have hk_39 := f_36 2 (by decide)
    have hk_40 := f_36 3 (by decide)
    refine lv_pop hx hb dX11_binds_38 rfl ?_
    refine lv_aload_n hx hb dX11_binds_39 rfl (lv_at hl 0 rfl) ?_
    refine va_get (D := D) (ci := 11) (v := .ref k0) (C := RX11) (T := TX11) (N := 14) hx hb hg i_X11 hown hK hP 0 rfl rfl 6 (by decide) (hg _ m_664) (fun _ h9 => h9) rfl dX11_binds_40 ?_
    refine va_get (D := D) (ci := 0) (v := .int bo2_21) (C := RX0) (T := TX0) (N := 3) hx hb hg i_X0 hown hK hP 5 rfl rfl 2 (by decide) (hg _ m_538) (fun _ h9 => h9) rfl dX11_binds_43 ?_
    exact x_iret hQ hx hb hr hlocks hK hP hD hS dX11_binds_46 (fsb2_27, fsl2_29, fst2_28, bo2_21, fr2_30, (fun k => [et2_22 0, et2_22 1, et2_22 2, et2_22 3].getD k 0), (fun k => [(el2_23 0), (el2_23 1), (el2_23 2), (el2_23 3)].getD k 0), (fun k => [(ei2_24 0), (ei2_24 1), (ei2_24 2), (ei2_24 3)].getD k 0), (fun k => [gc2_25 0, gc2_25 1, gc2_25 2, gc2_25 3].getD k (fun _ => 0)), (fun k => [xc2_26 0, xc2_26 1, xc2_26 2, xc2_26 3].getD k (fun _ => 0)), sl2_11, spl2_12, svo2_13, swi2_14, sch2_15, fw2_16, fsn2_17) (⟨get4 (by omega) (by omega) (by omega) (by omega), f_35, (show sl2_11 ≤ 10 from by omega), f_19⟩) [0, 1, 2, 34, 35, 36, 20, 3, 4, 5, 6, 7, 8, 9, 10, 11, 12, 13, 14, 15, 16, 17, 18, 19, 21, 22, 23, 24, 25, 26, 27, 28, 29, 30, 31, 32, 33, 37, 38, 39] (by decide +kernel) rfl (Nat.le_of_ble_eq_true rfl) (Nat.le_of_ble_eq_true rfl)
