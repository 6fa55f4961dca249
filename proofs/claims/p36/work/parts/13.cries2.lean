def mL13 : List (Option Cond) := [some (Cond.selects RX1 yX1_countFrom yX1_countFrom), some (Cond.selects RX1 yX1_pardonsWithLast yX1_pardonsWithLast), some (Cond.selects RX1 yX1_endState yX1_endState), some (Cond.selects RX1 yX1_goOn yX1_goOn), some (Cond.selects RX1 yX1_turnedPath yX1_turnedPath), some (Cond.fieldLink RX1 11 "CliffJudges$Cries" "cry" "[I"), some (Cond.fieldLink RX1 30 "CliffJudges$Cries" "ears" "[LCliffJudges$Ear;"), some (Cond.fieldLink RX1 15 "CliffJudges$Cries" "paths" "[I"), some (Cond.fieldLink RX1 35 "CliffJudges$Cries" "length" "I"), some (Cond.fieldLink RX1 39 "CliffJudges$Cries" "oneWillDo" "Z"), some (Cond.methodLink RX1 58 yX1_countFrom), some (Cond.instanceMethod yX1_countFrom), some (Cond.code yX1_countFrom cX1_countFrom 4 (some .int)), some (Cond.methodLink RX1 62 yX1_pardonsWithLast), some (Cond.instanceMethod yX1_pardonsWithLast), some (Cond.code yX1_pardonsWithLast cX1_pardonsWithLast 7 (some .boolean)), some (Cond.methodLink RX1 70 yX2_comesBack), some (Cond.constant RX1 73 (262144)), some (Cond.methodLink RX1 90 yX1_endState), some (Cond.instanceMethod yX1_endState), some (Cond.code yX1_endState cX1_endState 4 (some .int)), some (Cond.methodLink RX1 94 yX4_isYesState), some (Cond.methodLink RX1 66 yX1_goOn), some (Cond.instanceMethod yX1_goOn), some (Cond.code yX1_goOn cX1_goOn 6 none), some (Cond.methodLink RX1 77 yX1_turnedPath), some (Cond.instanceMethod yX1_turnedPath), some (Cond.code yX1_turnedPath cX1_turnedPath 6 (some .int))]
set_option maxRecDepth 100000 in
theorem mP13 : pick [38, 1, 1, 2, 1, 509, 2, 1, 4, 1, 593, 2, 1, 1, 2, 1, 1, 1, 1, 2, 1, 8, 1, 2, 1, 1, 2, 1] lw_tbl = mL13 := rfl
set_option maxRecDepth 100000 in
theorem mG13 : mL13.all (fun o => o.all goodWord) = true := rfl
theorem m_38 : (Cond.selects RX1 yX1_countFrom yX1_countFrom) ∈ gT := gp mP13 mG13 0 rfl
theorem m_39 : (Cond.selects RX1 yX1_pardonsWithLast yX1_pardonsWithLast) ∈ gT := gp mP13 mG13 1 rfl
theorem m_40 : (Cond.selects RX1 yX1_endState yX1_endState) ∈ gT := gp mP13 mG13 2 rfl
theorem m_42 : (Cond.selects RX1 yX1_goOn yX1_goOn) ∈ gT := gp mP13 mG13 3 rfl
theorem m_43 : (Cond.selects RX1 yX1_turnedPath yX1_turnedPath) ∈ gT := gp mP13 mG13 4 rfl
theorem m_552 : (Cond.fieldLink RX1 11 "CliffJudges$Cries" "cry" "[I") ∈ gT := gp mP13 mG13 5 rfl
theorem m_554 : (Cond.fieldLink RX1 30 "CliffJudges$Cries" "ears" "[LCliffJudges$Ear;") ∈ gT := gp mP13 mG13 6 rfl
theorem m_555 : (Cond.fieldLink RX1 15 "CliffJudges$Cries" "paths" "[I") ∈ gT := gp mP13 mG13 7 rfl
theorem m_559 : (Cond.fieldLink RX1 35 "CliffJudges$Cries" "length" "I") ∈ gT := gp mP13 mG13 8 rfl
theorem m_560 : (Cond.fieldLink RX1 39 "CliffJudges$Cries" "oneWillDo" "Z") ∈ gT := gp mP13 mG13 9 rfl
theorem m_1153 : (Cond.methodLink RX1 58 yX1_countFrom) ∈ gT := gp mP13 mG13 10 rfl
theorem m_1155 : (Cond.instanceMethod yX1_countFrom) ∈ gT := gp mP13 mG13 11 rfl
theorem m_1156 : (Cond.code yX1_countFrom cX1_countFrom 4 (some .int)) ∈ gT := gp mP13 mG13 12 rfl
theorem m_1157 : (Cond.methodLink RX1 62 yX1_pardonsWithLast) ∈ gT := gp mP13 mG13 13 rfl
theorem m_1159 : (Cond.instanceMethod yX1_pardonsWithLast) ∈ gT := gp mP13 mG13 14 rfl
theorem m_1160 : (Cond.code yX1_pardonsWithLast cX1_pardonsWithLast 7 (some .boolean)) ∈ gT := gp mP13 mG13 15 rfl
theorem m_1161 : (Cond.methodLink RX1 70 yX2_comesBack) ∈ gT := gp mP13 mG13 16 rfl
theorem m_1162 : (Cond.constant RX1 73 (262144)) ∈ gT := gp mP13 mG13 17 rfl
theorem m_1163 : (Cond.methodLink RX1 90 yX1_endState) ∈ gT := gp mP13 mG13 18 rfl
theorem m_1165 : (Cond.instanceMethod yX1_endState) ∈ gT := gp mP13 mG13 19 rfl
theorem m_1166 : (Cond.code yX1_endState cX1_endState 4 (some .int)) ∈ gT := gp mP13 mG13 20 rfl
theorem m_1174 : (Cond.methodLink RX1 94 yX4_isYesState) ∈ gT := gp mP13 mG13 21 rfl
theorem m_1175 : (Cond.methodLink RX1 66 yX1_goOn) ∈ gT := gp mP13 mG13 22 rfl
theorem m_1177 : (Cond.instanceMethod yX1_goOn) ∈ gT := gp mP13 mG13 23 rfl
theorem m_1178 : (Cond.code yX1_goOn cX1_goOn 6 none) ∈ gT := gp mP13 mG13 24 rfl
theorem m_1179 : (Cond.methodLink RX1 77 yX1_turnedPath) ∈ gT := gp mP13 mG13 25 rfl
theorem m_1181 : (Cond.instanceMethod yX1_turnedPath) ∈ gT := gp mP13 mG13 26 rfl
theorem m_1182 : (Cond.code yX1_turnedPath cX1_turnedPath 6 (some .int)) ∈ gT := gp mP13 mG13 27 rfl
theorem or_ans {v : Nat} (h : v < 262144) : (262144 : Int32) ||| nI v = nI (262144 + v) := by
  have := fa_or 262144 v
  rw [show (262144 : Nat) = 2 ^ 18 * 1 by decide, ← Nat.two_pow_add_eq_or_of_lt (by omega)] at this
  exact this
theorem pOK_un : pOK 181896 := by unfold pOK; decide
theorem gdX1_goOn_0 : decode cX1_goOn 0 = .ok (.iconst 0, 1) ∧ decode cX1_goOn 1 = .ok (.istore_n 3, 1) ∧ decode cX1_goOn 2 = .ok (.iload_n 3, 1) ∧ decode cX1_goOn 3 = .ok (.aload_n 0, 1) ∧ decode cX1_goOn 4 = .ok (.getfield 31, 3) ∧ decode cX1_goOn 7 = .ok (.getfield 43, 3) ∧ decode cX1_goOn 10 = .ok (.iconst 1, 1) ∧ decode cX1_goOn 11 = .ok (.iaload, 1) ∧ decode cX1_goOn 12 = .ok (.if_icmp .ge 83, 3) ∧ decode cX1_goOn 95 = .ok (.return_, 1) ∧ decode cX1_goOn 15 = .ok (.aload_n 0, 1) ∧ decode cX1_goOn 16 = .ok (.getfield 15, 3) := by decide +kernel
theorem dX1_goOn_0 : decode cX1_goOn 0 = .ok (.iconst 0, 1) := gdX1_goOn_0.1
theorem dX1_goOn_1 : decode cX1_goOn 1 = .ok (.istore_n 3, 1) := gdX1_goOn_0.2.1
theorem dX1_goOn_2 : decode cX1_goOn 2 = .ok (.iload_n 3, 1) := gdX1_goOn_0.2.2.1
theorem dX1_goOn_3 : decode cX1_goOn 3 = .ok (.aload_n 0, 1) := gdX1_goOn_0.2.2.2.1
theorem dX1_goOn_4 : decode cX1_goOn 4 = .ok (.getfield 31, 3) := gdX1_goOn_0.2.2.2.2.1
theorem dX1_goOn_7 : decode cX1_goOn 7 = .ok (.getfield 43, 3) := gdX1_goOn_0.2.2.2.2.2.1
theorem dX1_goOn_10 : decode cX1_goOn 10 = .ok (.iconst 1, 1) := gdX1_goOn_0.2.2.2.2.2.2.1
theorem dX1_goOn_11 : decode cX1_goOn 11 = .ok (.iaload, 1) := gdX1_goOn_0.2.2.2.2.2.2.2.1
theorem dX1_goOn_12 : decode cX1_goOn 12 = .ok (.if_icmp .ge 83, 3) := gdX1_goOn_0.2.2.2.2.2.2.2.2.1
theorem dX1_goOn_95 : decode cX1_goOn 95 = .ok (.return_, 1) := gdX1_goOn_0.2.2.2.2.2.2.2.2.2.1
theorem dX1_goOn_15 : decode cX1_goOn 15 = .ok (.aload_n 0, 1) := gdX1_goOn_0.2.2.2.2.2.2.2.2.2.2.1
theorem dX1_goOn_16 : decode cX1_goOn 16 = .ok (.getfield 15, 3) := gdX1_goOn_0.2.2.2.2.2.2.2.2.2.2.2
theorem gdX1_goOn_19 : decode cX1_goOn 19 = .ok (.iload_n 1, 1) ∧ decode cX1_goOn 20 = .ok (.iconst 4, 1) ∧ decode cX1_goOn 21 = .ok (.imul, 1) ∧ decode cX1_goOn 22 = .ok (.iload_n 3, 1) ∧ decode cX1_goOn 23 = .ok (.iadd, 1) ∧ decode cX1_goOn 24 = .ok (.iaload, 1) ∧ decode cX1_goOn 25 = .ok (.istore 4, 2) ∧ decode cX1_goOn 27 = .ok (.aload_n 0, 1) ∧ decode cX1_goOn 28 = .ok (.getfield 30, 3) ∧ decode cX1_goOn 31 = .ok (.iload_n 3, 1) ∧ decode cX1_goOn 32 = .ok (.aaload, 1) ∧ decode cX1_goOn 33 = .ok (.astore 5, 2) := by decide +kernel
theorem dX1_goOn_19 : decode cX1_goOn 19 = .ok (.iload_n 1, 1) := gdX1_goOn_19.1
theorem dX1_goOn_20 : decode cX1_goOn 20 = .ok (.iconst 4, 1) := gdX1_goOn_19.2.1
theorem dX1_goOn_21 : decode cX1_goOn 21 = .ok (.imul, 1) := gdX1_goOn_19.2.2.1
theorem dX1_goOn_22 : decode cX1_goOn 22 = .ok (.iload_n 3, 1) := gdX1_goOn_19.2.2.2.1
theorem dX1_goOn_23 : decode cX1_goOn 23 = .ok (.iadd, 1) := gdX1_goOn_19.2.2.2.2.1
theorem dX1_goOn_24 : decode cX1_goOn 24 = .ok (.iaload, 1) := gdX1_goOn_19.2.2.2.2.2.1
theorem dX1_goOn_25 : decode cX1_goOn 25 = .ok (.istore 4, 2) := gdX1_goOn_19.2.2.2.2.2.2.1
theorem dX1_goOn_27 : decode cX1_goOn 27 = .ok (.aload_n 0, 1) := gdX1_goOn_19.2.2.2.2.2.2.2.1
theorem dX1_goOn_28 : decode cX1_goOn 28 = .ok (.getfield 30, 3) := gdX1_goOn_19.2.2.2.2.2.2.2.2.1
theorem dX1_goOn_31 : decode cX1_goOn 31 = .ok (.iload_n 3, 1) := gdX1_goOn_19.2.2.2.2.2.2.2.2.2.1
theorem dX1_goOn_32 : decode cX1_goOn 32 = .ok (.aaload, 1) := gdX1_goOn_19.2.2.2.2.2.2.2.2.2.2.1
theorem dX1_goOn_33 : decode cX1_goOn 33 = .ok (.astore 5, 2) := gdX1_goOn_19.2.2.2.2.2.2.2.2.2.2.2
theorem gdX1_goOn_35 : decode cX1_goOn 35 = .ok (.aload 5, 2) ∧ decode cX1_goOn 37 = .ok (.iload_n 1, 1) ∧ decode cX1_goOn 38 = .ok (.iload_n 2, 1) ∧ decode cX1_goOn 39 = .ok (.invokevirtual 70, 3) := by decide +kernel
theorem dX1_goOn_35 : decode cX1_goOn 35 = .ok (.aload 5, 2) := gdX1_goOn_35.1
theorem dX1_goOn_37 : decode cX1_goOn 37 = .ok (.iload_n 1, 1) := gdX1_goOn_35.2.1
theorem dX1_goOn_38 : decode cX1_goOn 38 = .ok (.iload_n 2, 1) := gdX1_goOn_35.2.2.1
theorem dX1_goOn_39 : decode cX1_goOn 39 = .ok (.invokevirtual 70, 3) := gdX1_goOn_35.2.2.2
theorem k_X1_70 : xV RX1 RX2 70 yX2_comesBack cX2_comesBack 3 (some .boolean) 2 := ⟨⟨m_1161, m_1069, m_1070, m_142, m_1071⟩, rfl, by decide, by decide, by decide +kernel⟩
theorem gdX1_goOn_42 : decode cX1_goOn 42 = .ok (.ifCond .eq 33, 3) ∧ decode cX1_goOn 75 = .ok (.aload_n 0, 1) ∧ decode cX1_goOn 76 = .ok (.getfield 15, 3) ∧ decode cX1_goOn 79 = .ok (.iload_n 1, 1) ∧ decode cX1_goOn 80 = .ok (.iconst 1, 1) ∧ decode cX1_goOn 81 = .ok (.iadd, 1) ∧ decode cX1_goOn 82 = .ok (.iconst 4, 1) ∧ decode cX1_goOn 83 = .ok (.imul, 1) ∧ decode cX1_goOn 84 = .ok (.iload_n 3, 1) ∧ decode cX1_goOn 85 = .ok (.iadd, 1) ∧ decode cX1_goOn 86 = .ok (.iload 4, 2) ∧ decode cX1_goOn 88 = .ok (.iastore, 1) := by decide +kernel
theorem dX1_goOn_42 : decode cX1_goOn 42 = .ok (.ifCond .eq 33, 3) := gdX1_goOn_42.1
theorem dX1_goOn_75 : decode cX1_goOn 75 = .ok (.aload_n 0, 1) := gdX1_goOn_42.2.1
theorem dX1_goOn_76 : decode cX1_goOn 76 = .ok (.getfield 15, 3) := gdX1_goOn_42.2.2.1
theorem dX1_goOn_79 : decode cX1_goOn 79 = .ok (.iload_n 1, 1) := gdX1_goOn_42.2.2.2.1
theorem dX1_goOn_80 : decode cX1_goOn 80 = .ok (.iconst 1, 1) := gdX1_goOn_42.2.2.2.2.1
theorem dX1_goOn_81 : decode cX1_goOn 81 = .ok (.iadd, 1) := gdX1_goOn_42.2.2.2.2.2.1
theorem dX1_goOn_82 : decode cX1_goOn 82 = .ok (.iconst 4, 1) := gdX1_goOn_42.2.2.2.2.2.2.1
theorem dX1_goOn_83 : decode cX1_goOn 83 = .ok (.imul, 1) := gdX1_goOn_42.2.2.2.2.2.2.2.1
theorem dX1_goOn_84 : decode cX1_goOn 84 = .ok (.iload_n 3, 1) := gdX1_goOn_42.2.2.2.2.2.2.2.2.1
theorem dX1_goOn_85 : decode cX1_goOn 85 = .ok (.iadd, 1) := gdX1_goOn_42.2.2.2.2.2.2.2.2.2.1
theorem dX1_goOn_86 : decode cX1_goOn 86 = .ok (.iload 4, 2) := gdX1_goOn_42.2.2.2.2.2.2.2.2.2.2.1
theorem dX1_goOn_88 : decode cX1_goOn 88 = .ok (.iastore, 1) := gdX1_goOn_42.2.2.2.2.2.2.2.2.2.2.2
theorem gdX1_goOn_89 : decode cX1_goOn 89 = .ok (.iinc 3 1, 3) ∧ decode cX1_goOn 92 = .ok (.goto (-90), 3) ∧ decode cX1_goOn 45 = .ok (.ldc 73, 2) ∧ decode cX1_goOn 47 = .ok (.aload 5, 2) ∧ decode cX1_goOn 49 = .ok (.getfield 74, 3) ∧ decode cX1_goOn 52 = .ok (.ifCond .eq 13, 3) ∧ decode cX1_goOn 65 = .ok (.aload_n 0, 1) ∧ decode cX1_goOn 66 = .ok (.iload 4, 2) ∧ decode cX1_goOn 68 = .ok (.iload_n 2, 1) ∧ decode cX1_goOn 69 = .ok (.invokevirtual 81, 3) ∧ decode cX1_goOn 72 = .ok (.ior, 1) ∧ decode cX1_goOn 73 = .ok (.istore 4, 2) := by decide +kernel
theorem dX1_goOn_89 : decode cX1_goOn 89 = .ok (.iinc 3 1, 3) := gdX1_goOn_89.1
theorem dX1_goOn_92 : decode cX1_goOn 92 = .ok (.goto (-90), 3) := gdX1_goOn_89.2.1
theorem dX1_goOn_45 : decode cX1_goOn 45 = .ok (.ldc 73, 2) := gdX1_goOn_89.2.2.1
theorem dX1_goOn_47 : decode cX1_goOn 47 = .ok (.aload 5, 2) := gdX1_goOn_89.2.2.2.1
theorem dX1_goOn_49 : decode cX1_goOn 49 = .ok (.getfield 74, 3) := gdX1_goOn_89.2.2.2.2.1
theorem dX1_goOn_52 : decode cX1_goOn 52 = .ok (.ifCond .eq 13, 3) := gdX1_goOn_89.2.2.2.2.2.1
theorem dX1_goOn_65 : decode cX1_goOn 65 = .ok (.aload_n 0, 1) := gdX1_goOn_89.2.2.2.2.2.2.1
theorem dX1_goOn_66 : decode cX1_goOn 66 = .ok (.iload 4, 2) := gdX1_goOn_89.2.2.2.2.2.2.2.1
theorem dX1_goOn_68 : decode cX1_goOn 68 = .ok (.iload_n 2, 1) := gdX1_goOn_89.2.2.2.2.2.2.2.2.1
theorem dX1_goOn_69 : decode cX1_goOn 69 = .ok (.invokevirtual 81, 3) := gdX1_goOn_89.2.2.2.2.2.2.2.2.2.1
theorem dX1_goOn_72 : decode cX1_goOn 72 = .ok (.ior, 1) := gdX1_goOn_89.2.2.2.2.2.2.2.2.2.2.1
theorem dX1_goOn_73 : decode cX1_goOn 73 = .ok (.istore 4, 2) := gdX1_goOn_89.2.2.2.2.2.2.2.2.2.2.2
theorem gdX1_goOn_55 : decode cX1_goOn 55 = .ok (.aload_n 0, 1) ∧ decode cX1_goOn 56 = .ok (.iload 4, 2) ∧ decode cX1_goOn 58 = .ok (.iload_n 2, 1) ∧ decode cX1_goOn 59 = .ok (.invokevirtual 77, 3) := by decide +kernel
theorem dX1_goOn_55 : decode cX1_goOn 55 = .ok (.aload_n 0, 1) := gdX1_goOn_55.1
theorem dX1_goOn_56 : decode cX1_goOn 56 = .ok (.iload 4, 2) := gdX1_goOn_55.2.1
theorem dX1_goOn_58 : decode cX1_goOn 58 = .ok (.iload_n 2, 1) := gdX1_goOn_55.2.2.1
theorem dX1_goOn_59 : decode cX1_goOn 59 = .ok (.invokevirtual 77, 3) := gdX1_goOn_55.2.2.2
theorem k_X1_77 : xV RX1 RX1 77 yX1_turnedPath cX1_turnedPath 6 (some .int) 2 := ⟨⟨m_1179, m_1181, m_43, m_143, m_1182⟩, rfl, by decide, by decide, by decide +kernel⟩
theorem dX1_goOn_62 : decode cX1_goOn 62 = .ok (.goto 10, 3) := by decide +kernel
set_option maxHeartbeats 1000000 in
set_option maxRecDepth 100000 in
theorem s_goOn (l : Launch) (D : va_G) (cy : Nat → ClassId) (q0 : Nat) (q1 : Nat) (q2 : Nat) (q3 : Nat) (q4 : Nat) (er : Nat) (ql : Nat) (qo : Int32) (fph : Nat → Int32) (h0 : Nat) (h1 : Nat) (h2 : Nat) (h3 : Nat) (h4 : Nat) (h5 : Nat) (h6 : Nat) (h7 : Nat) (h8 : Nat) (h9 : Nat) (h10 : Nat) (h11 : Nat) (hv0 : Value) (hv1 : Value) (hv2 : Value) (hv3 : Value) (hv4 : Value) (fx : Nat → Int32) (fc : Nat → Int32) (c0 : Nat) (c1 : Nat) (c2 : Nat) (c3 : Nat) (ea : Nat → Nat) (eg : Nat → Nat) (ef : Nat → Nat) (et : Nat → Int32) (el : Nat → Nat) (ei : Nat → Nat) (gc : Nat → Nat → Int32) (xc : Nat → Nat → Int32) (dp : Nat) (wd : Nat) (Lp : Nat → List Int32) (hph : pRow fph) (hnx : rng fx 48 5) (hcn : cntOK fc c0 c1 c2 c3) (hc0 : c0 ≤ 8) (hc1 : c1 ≤ 4) (hc2 : c2 ≤ 4) (hc3 : c3 ≤ 6) (hdp : dp ≤ 3) (hwd : wd ≤ 7) (hcA : clA fx c3) (hpt : ∀ c9 : Nat, c9 < c1 → ptR fx c3 (et c9) (Lp c9) (fph (dp * 4 + c9)).toNatClampNeg) : XMv l D (tyL cy) E0 yX1_goOn cX1_goOn 6 none (rmk 3 0 0) [.ref q0, .int (nI dp), .int (nI wd)] [wO q0 1 [.ref q1, .ref er, .ref q2, .ref q3, .ref q4, .ref h0, .int (nI ql), .int qo], wI (cy 1) q2 24 (fph), wO h0 4 [.ref h1, .ref h2, .ref h3, .ref h4, .ref h5, .ref h6, .ref h7, .ref h8, .ref h9, .ref h10, .ref h11, hv0, hv1, hv2, hv3, hv4], wI (cy 1) h7 48 (fx), wI (cy 1) h1 4 (fc), (er, .inl (cy 4, 4, .inr (.inr (.inr (.inr (eF (ea 0) (ea 1) (ea 2) (ea 3))))))), wO (ea 0) 2 [.ref (eg 0), .ref (ef 0), .int (et 0), .int (nI (el 0)), .int (nI (ei 0))], wI (cy 1) (eg 0) 10 (gc 0), wI (cy 1) (ef 0) 7 (xc 0), wO (ea 1) 2 [.ref (eg 1), .ref (ef 1), .int (et 1), .int (nI (el 1)), .int (nI (ei 1))], wI (cy 1) (eg 1) 10 (gc 1), wI (cy 1) (ef 1) 7 (xc 1), wO (ea 2) 2 [.ref (eg 2), .ref (ef 2), .int (et 2), .int (nI (el 2)), .int (nI (ei 2))], wI (cy 1) (eg 2) 10 (gc 2), wI (cy 1) (ef 2) 7 (xc 2), wO (ea 3) 2 [.ref (eg 3), .ref (ef 3), .int (et 3), .int (nI (el 3)), .int (nI (ei 3))], wI (cy 1) (eg 3) 10 (gc 3), wI (cy 1) (ef 3) 7 (xc 3)] (fun (fph2 : Nat → Int32) => (pRow fph2) ∧ (∀ c9 : Nat, c9 < c1 → ptR fx c3 (et c9) (nxL (gc c9) dp wd (Lp c9)) (fph2 ((dp + 1) * 4 + c9)).toNatClampNeg) ∧ (∀ k9 : Nat, k9 < (dp + 1) * 4 → fph2 k9 = fph k9)) (fun (fph2 : Nat → Int32) => [wO q0 1 [.ref q1, .ref er, .ref q2, .ref q3, .ref q4, .ref h0, .int (nI ql), .int qo], wI (cy 1) q2 24 (fph2), wO h0 4 [.ref h1, .ref h2, .ref h3, .ref h4, .ref h5, .ref h6, .ref h7, .ref h8, .ref h9, .ref h10, .ref h11, hv0, hv1, hv2, hv3, hv4], wI (cy 1) h7 48 (fx), wI (cy 1) h1 4 (fc), (er, .inl (cy 4, 4, .inr (.inr (.inr (.inr (eF (ea 0) (ea 1) (ea 2) (ea 3))))))), wO (ea 0) 2 [.ref (eg 0), .ref (ef 0), .int (et 0), .int (nI (el 0)), .int (nI (ei 0))], wI (cy 1) (eg 0) 10 (gc 0), wI (cy 1) (ef 0) 7 (xc 0), wO (ea 1) 2 [.ref (eg 1), .ref (ef 1), .int (et 1), .int (nI (el 1)), .int (nI (ei 1))], wI (cy 1) (eg 1) 10 (gc 1), wI (cy 1) (ef 1) 7 (xc 1), wO (ea 2) 2 [.ref (eg 2), .ref (ef 2), .int (et 2), .int (nI (el 2)), .int (nI (ei 2))], wI (cy 1) (eg 2) 10 (gc 2), wI (cy 1) (ef 2) 7 (xc 2), wO (ea 3) 2 [.ref (eg 3), .ref (ef 3), .int (et 3), .int (nI (el 3)), .int (nI (ei 3))], wI (cy 1) (eg 3) 10 (gc 3), wI (cy 1) (ef 3) 7 (xc 3)]) := by
  refine XMv.start (by decide) (Nat.le_of_ble_eq_true rfl) ?_
  intro p e s m below meth c args A ls Q hat hQ
  obtain ⟨hx, hb, hr, hml, hown, hg, hlocks, hin, hK, hA, hP, hD, hS, hE, hl⟩ := hat
  have hown : s.vm.findClass RX1 = some m.cls := hown
  have hl : lv_has ls 6 [(0, .ref q0), (1, .int (nI dp)), (2, .int (nI wd))] := hl
  refine lv_iconst (v := 0) hx hb dX1_goOn_0 (by decide) ?_
  refine lv_istore_n (lv' := [(3, .int 0), (0, .ref q0), (1, .int (nI dp)), (2, .int (nI wd))]) hx hb dX1_goOn_1 rfl hl (by decide) rfl (fun ls hl => ?_)
  have loop1 : ∀ (zn : Nat) (i1 : Nat) (fa1_1 : Nat → Int32), (pRow fa1_1) → (i1 ≤ c1) → (∀ c9 : Nat, c9 < i1 → ptR fx c3 (et c9) (nxL (gc c9) dp wd (Lp c9)) (fa1_1 ((dp + 1) * 4 + c9)).toNatClampNeg) → (∀ k9 : Nat, k9 < (dp + 1) * 4 → fa1_1 k9 = fph k9) → c1 - i1 + 1 ≤ zn → ∀ (H : Heap) (locs : List Loc), va_P D vwCl [wO q0 1 [.ref q1, .ref er, .ref q2, .ref q3, .ref q4, .ref h0, .int (nI ql), .int qo], wI (cy 1) q2 24 (fa1_1), wO h0 4 [.ref h1, .ref h2, .ref h3, .ref h4, .ref h5, .ref h6, .ref h7, .ref h8, .ref h9, .ref h10, .ref h11, hv0, hv1, hv2, hv3, hv4], wI (cy 1) h7 48 (fx), wI (cy 1) h1 4 (fc), (er, .inl (cy 4, 4, .inr (.inr (.inr (.inr (eF (ea 0) (ea 1) (ea 2) (ea 3))))))), wO (ea 0) 2 [.ref (eg 0), .ref (ef 0), .int (et 0), .int (nI (el 0)), .int (nI (ei 0))], wI (cy 1) (eg 0) 10 (gc 0), wI (cy 1) (ef 0) 7 (xc 0), wO (ea 1) 2 [.ref (eg 1), .ref (ef 1), .int (et 1), .int (nI (el 1)), .int (nI (ei 1))], wI (cy 1) (eg 1) 10 (gc 1), wI (cy 1) (ef 1) 7 (xc 1), wO (ea 2) 2 [.ref (eg 2), .ref (ef 2), .int (et 2), .int (nI (el 2)), .int (nI (ei 2))], wI (cy 1) (eg 2) 10 (gc 2), wI (cy 1) (ef 2) 7 (xc 2), wO (ea 3) 2 [.ref (eg 3), .ref (ef 3), .int (et 3), .int (nI (el 3)), .int (nI (ei 3))], wI (cy 1) (eg 3) 10 (gc 3), wI (cy 1) (ef 3) 7 (xc 3)] H → va_D A [wO q0 1 [.ref q1, .ref er, .ref q2, .ref q3, .ref q4, .ref h0, .int (nI ql), .int qo], wI (cy 1) q2 24 (fa1_1), wO h0 4 [.ref h1, .ref h2, .ref h3, .ref h4, .ref h5, .ref h6, .ref h7, .ref h8, .ref h9, .ref h10, .ref h11, hv0, hv1, hv2, hv3, hv4], wI (cy 1) h7 48 (fx), wI (cy 1) h1 4 (fc), (er, .inl (cy 4, 4, .inr (.inr (.inr (.inr (eF (ea 0) (ea 1) (ea 2) (ea 3))))))), wO (ea 0) 2 [.ref (eg 0), .ref (ef 0), .int (et 0), .int (nI (el 0)), .int (nI (ei 0))], wI (cy 1) (eg 0) 10 (gc 0), wI (cy 1) (ef 0) 7 (xc 0), wO (ea 1) 2 [.ref (eg 1), .ref (ef 1), .int (et 1), .int (nI (el 1)), .int (nI (ei 1))], wI (cy 1) (eg 1) 10 (gc 1), wI (cy 1) (ef 1) 7 (xc 1), wO (ea 2) 2 [.ref (eg 2), .ref (ef 2), .int (et 2), .int (nI (el 2)), .int (nI (ei 2))], wI (cy 1) (eg 2) 10 (gc 2), wI (cy 1) (ef 2) 7 (xc 2), wO (ea 3) 2 [.ref (eg 3), .ref (ef 3), .int (et 3), .int (nI (el 3)), .int (nI (ei 3))], wI (cy 1) (eg 3) 10 (gc 3), wI (cy 1) (ef 3) 7 (xc 3)] → va_S A s.heap H locs → ∀ ls : Array Slot, lv_has ls 6 [(3, .int (nI i1)), (0, .ref q0), (1, .int (nI dp)), (2, .int (nI wd))] → W p l e (rmk 3 0 0) s m args below meth c H locs 0 0 Q (F0 m 2 ls []) := by
    try clear hP hD hS
    intro zn
    induction zn with
    | zero => intro i1 fa1_1 _ _ _ _ hz; exact absurd hz (by omega)
    | succ zn ih1 =>
      intro i1 fa1_1 ha2_1 hf0_1 hf1_1 hf2_1 hmu1 H locs hP hD hS ls hl
      refine lv_iload_n hx hb dX1_goOn_2 rfl (lv_at hl 0 rfl) ?_
      refine lv_aload_n hx hb dX1_goOn_3 rfl (lv_at hl 1 rfl) ?_
      refine va_get (D := D) (ci := 1) (v := .ref h0) (C := RX1) (T := TX1) (N := 8) hx hb hg i_X1 hown hK hP 0 rfl rfl 5 (by decide) (hg _ m_558) (fun _ h9 => h9) rfl dX1_goOn_4 ?_
      refine va_get (D := D) (ci := 4) (v := .ref h1) (C := RX4) (T := TX4) (N := 16) hx hb hg i_X4 hown hK hP 2 rfl rfl 0 (by decide) (hg _ m_331) (fun _ h9 => h9) rfl dX1_goOn_7 ?_
      refine lv_iconst (v := 1) hx hb dX1_goOn_10 (by decide) ?_
      refine va_iald hx hb hK hP 4 1 rfl rfl (by unfold vp_in; decide) dX1_goOn_11 ?_
      refine lv_topi (fun y_2 hy_2 => ?_)
      obtain rfl : y_2 = nI c1 := hy_2.trans hcn.2.1
      refine lv_icmp_ge (tgt := 95) hx hb dX1_goOn_12 (by decide) (fun c_3 => ?_) (fun c_3 => ?_)
      · have q_4 : c1 ≤ i1 := q_le (a := c1) (b := i1) rfl rfl (by omega) (by omega) c_3
        exact x_vret hQ hx hb hr hlocks hK hP hD hS dX1_goOn_95 fa1_1 (⟨ha2_1, (fun c9 h9 => hf1_1 c9 (by omega)), hf2_1⟩) [0, 1, 2, 3, 4, 5, 6, 7, 8, 9, 10, 11, 12, 13, 14, 15, 16, 17] (by decide +kernel) rfl (Nat.le_of_ble_eq_true rfl) (Nat.le_of_ble_eq_true rfl)
      · have q_4 : i1 < c1 := q_nle (a := c1) (b := i1) rfl rfl (by omega) (by omega) c_3
        refine lv_aload_n hx hb dX1_goOn_15 rfl (lv_at hl 1 rfl) ?_
        refine va_get (D := D) (ci := 1) (v := .ref q2) (C := RX1) (T := TX1) (N := 8) hx hb hg i_X1 hown hK hP 0 rfl rfl 2 (by decide) (hg _ m_555) (fun _ h9 => h9) rfl dX1_goOn_16 ?_
        refine lv_iload_n hx hb dX1_goOn_19 rfl (lv_at hl 2 rfl) ?_
        refine lv_iconst (v := 4) hx hb dX1_goOn_20 (by decide) ?_
        refine lv_imul hx hb dX1_goOn_21 ?_
        refine lv_topi (fun y_5 hy_5 => ?_)
        obtain rfl : y_5 = nI (dp * 4) := hy_5.trans (pk_mul dp 4)
        refine lv_iload_n hx hb dX1_goOn_22 rfl (lv_at hl 0 rfl) ?_
        refine lv_iadd hx hb dX1_goOn_23 ?_
        refine lv_topi (fun y_6 hy_6 => ?_)
        obtain rfl : y_6 = nI ((dp * 4) + i1) := hy_6.trans (nI_add ((dp * 4)) i1)
        refine va_iald hx hb hK hP 1 1 rfl rfl (vp_in_nI (by omega) (by decide)) dX1_goOn_24 ?_
        obtain ⟨v_7, hv_7, ev_7⟩ := pRow_at ha2_1 (i := ((dp * 4) + i1)) (by omega)
        have hbv_7 := hv_7.1
        refine lv_topi (fun y_8 hy_8 => ?_)
        obtain rfl : y_8 = nI v_7 := hy_8.trans ev_7
        refine lv_istore (lv' := [(4, .int (nI v_7)), (3, .int (nI i1)), (0, .ref q0), (1, .int (nI dp)), (2, .int (nI wd))]) hx hb dX1_goOn_25 hl (by decide) rfl (fun ls hl => ?_)
        refine lv_aload_n hx hb dX1_goOn_27 rfl (lv_at hl 2 rfl) ?_
        refine va_get (D := D) (ci := 1) (v := .ref er) (C := RX1) (T := TX1) (N := 8) hx hb hg i_X1 hown hK hP 0 rfl rfl 1 (by decide) (hg _ m_554) (fun _ h9 => h9) rfl dX1_goOn_28 ?_
        refine lv_iload_n hx hb dX1_goOn_31 rfl (lv_at hl 1 rfl) ?_
        rcases (show i1 = 0 ∨ i1 = 1 ∨ i1 = 2 ∨ i1 = 3 by omega) with hsp | hsp | hsp | hsp
        · subst hsp
          refine va_aldq hx hb hK hP 5 4 rfl rfl (by unfold vp_in; decide) dX1_goOn_32 ?_
          refine W.eq (g2 := F0 m 33 ls [.ref (ea 0)]) rfl ?_
          refine lv_astore (lv' := [(5, .ref (ea 0)), (4, .int (nI v_7)), (3, .int 0), (0, .ref q0), (1, .int (nI dp)), (2, .int (nI wd))]) hx hb dX1_goOn_33 hl (by decide) rfl (fun ls hl => ?_)
          refine lv_aload hx hb dX1_goOn_35 (lv_at hl 0 rfl) ?_
          refine lv_iload_n hx hb dX1_goOn_37 rfl (lv_at hl 4 rfl) ?_
          refine lv_iload_n hx hb dX1_goOn_38 rfl (lv_at hl 5 rfl) ?_
          refine x_callVi (q := (RX2, TX2, 5)) (ci := 2) (q0 := 0) (wr := [wO q0 1 [.ref q1, .ref er, .ref q2, .ref q3, .ref q4, .ref h0, .int (nI ql), .int qo], wI (cy 1) q2 24 (fa1_1), wO h0 4 [.ref h1, .ref h2, .ref h3, .ref h4, .ref h5, .ref h6, .ref h7, .ref h8, .ref h9, .ref h10, .ref h11, hv0, hv1, hv2, hv3, hv4], wI (cy 1) h7 48 (fx), wI (cy 1) h1 4 (fc), (er, .inl (cy 4, 4, .inr (.inr (.inr (.inr (eF (ea 0) (ea 1) (ea 2) (ea 3))))))), wI (cy 1) (ef 0) 7 (xc 0), wO (ea 1) 2 [.ref (eg 1), .ref (ef 1), .int (et 1), .int (nI (el 1)), .int (nI (ei 1))], wI (cy 1) (eg 1) 10 (gc 1), wI (cy 1) (ef 1) 7 (xc 1), wO (ea 2) 2 [.ref (eg 2), .ref (ef 2), .int (et 2), .int (nI (el 2)), .int (nI (ei 2))], wI (cy 1) (eg 2) 10 (gc 2), wI (cy 1) (ef 2) 7 (xc 2), wO (ea 3) 2 [.ref (eg 3), .ref (ef 3), .int (et 3), .int (nI (el 3)), .int (nI (ei 3))], wI (cy 1) (eg 3) 10 (gc 3), wI (cy 1) (ef 3) 7 (xc 3)]) (rest := []) ⟨hx, hb, hml, hown, hg, hl.1⟩ k_X1_70 (s_comesBack l D cy (ea 0) (eg 0) (ef 0) (et 0) ((el 0)) ((ei 0)) (gc 0) dp (nI wd) (by omega)) E0_blind hK hP hD hS hA [6, 7] [0, 1, 2, 3, 4, 5, 8, 9, 10, 11, 12, 13, 14, 15, 16, 17] ⟨rfl, rfl, by decide +kernel, by decide +kernel, by decide +kernel⟩ rfl rfl (fun _ _ _ => trivial) dX1_goOn_39 rfl rfl (Nat.le_of_ble_eq_true rfl) ⟨Nat.le_of_ble_eq_true rfl, Nat.le_of_ble_eq_true rfl⟩ ⟨Nat.le_of_ble_eq_true rfl, Nat.le_of_ble_eq_true rfl⟩ (fun zr9 zu9 H locs hw9 hP9 hD9 hS9 => ?_)
          clear hP hD hS
          refine reW [wO q0 1 [.ref q1, .ref er, .ref q2, .ref q3, .ref q4, .ref h0, .int (nI ql), .int qo], wI (cy 1) q2 24 (fa1_1), wO h0 4 [.ref h1, .ref h2, .ref h3, .ref h4, .ref h5, .ref h6, .ref h7, .ref h8, .ref h9, .ref h10, .ref h11, hv0, hv1, hv2, hv3, hv4], wI (cy 1) h7 48 (fx), wI (cy 1) h1 4 (fc), (er, .inl (cy 4, 4, .inr (.inr (.inr (.inr (eF (ea 0) (ea 1) (ea 2) (ea 3))))))), wI (cy 1) (ef 0) 7 (xc 0), wO (ea 1) 2 [.ref (eg 1), .ref (ef 1), .int (et 1), .int (nI (el 1)), .int (nI (ei 1))], wI (cy 1) (eg 1) 10 (gc 1), wI (cy 1) (ef 1) 7 (xc 1), wO (ea 2) 2 [.ref (eg 2), .ref (ef 2), .int (et 2), .int (nI (el 2)), .int (nI (ei 2))], wI (cy 1) (eg 2) 10 (gc 2), wI (cy 1) (ef 2) 7 (xc 2), wO (ea 3) 2 [.ref (eg 3), .ref (ef 3), .int (et 3), .int (nI (el 3)), .int (nI (ei 3))], wI (cy 1) (eg 3) 10 (gc 3), wI (cy 1) (ef 3) 7 (xc 3), wO (ea 0) 2 [.ref (eg 0), .ref (ef 0), .int (et 0), .int (nI ((el 0))), .int (nI ((ei 0)))], wI (cy 1) (eg 0) 10 (gc 0)] hP9 hD9 hS9 (fun hP hD hS => ?_)
          clear hP9 hD9 hS9
          refine W.widen (k := 0) (n := 0) (Nat.le_of_ble_eq_true rfl) (Nat.le_of_ble_eq_true rfl) ?_
          replace hw9 : (zr9 = 0 ∨ zr9 = 1) ∧ (bR zr9 (gB ((gc 0) dp) (nI wd))) := hw9
          obtain ⟨f_10, f_11⟩ := hw9
          refine lv_if_eq (tgt := 75) hx hb dX1_goOn_42 (by decide) (fun c_42 => ?_) (fun c_42 => ?_)
          · refine lv_aload_n hx hb dX1_goOn_75 rfl (lv_at hl 3 rfl) ?_
            refine va_get (D := D) (ci := 1) (v := .ref q2) (C := RX1) (T := TX1) (N := 8) hx hb hg i_X1 hown hK hP 0 rfl rfl 2 (by decide) (hg _ m_555) (fun _ h9 => h9) rfl dX1_goOn_76 ?_
            refine lv_iload_n hx hb dX1_goOn_79 rfl (lv_at hl 4 rfl) ?_
            refine lv_iconst (v := 1) hx hb dX1_goOn_80 (by decide) ?_
            refine lv_iadd hx hb dX1_goOn_81 ?_
            refine lv_topi (fun y_12 hy_12 => ?_)
            obtain rfl : y_12 = nI (dp + 1) := hy_12.trans (nI_add dp 1)
            refine lv_iconst (v := 4) hx hb dX1_goOn_82 (by decide) ?_
            refine lv_imul hx hb dX1_goOn_83 ?_
            refine lv_topi (fun y_13 hy_13 => ?_)
            obtain rfl : y_13 = nI ((dp + 1) * 4) := hy_13.trans (pk_mul ((dp + 1)) 4)
            refine lv_iload_n hx hb dX1_goOn_84 rfl (lv_at hl 2 rfl) ?_
            refine lv_iadd hx hb dX1_goOn_85 ?_
            refine lv_topi (fun y_14 hy_14 => ?_)
            obtain rfl : y_14 = nI (((dp + 1) * 4) + 0) := hy_14.trans (nI_add (((dp + 1) * 4)) 0)
            refine lv_iload hx hb dX1_goOn_86 (lv_at hl 1 rfl) ?_
            refine va_iast hx hb hK hP hD hS 1 1 rfl rfl (vp_in_nI (by omega) (by decide)) dX1_goOn_88 (fun H locs hP9 hD9 hS9 => ?_)
            clear hP hD hS
            have hP := hP9
            have hD := hD9
            have hS := hS9
            clear hP9 hD9 hS9
            obtain ⟨g_15, eg_15⟩ : ∃ y, upd fa1_1 (nI (((dp + 1) * 4) + 0) : Int32).toNatClampNeg (nI v_7) = y := ⟨_, rfl⟩
            rw [eg_15] at hP hD
            have hr_16 : pRow g_15 := eg_15 ▸ pRow_put (v := v_7) ha2_1 hv_7
            replace hP : va_P D vwCl [wO q0 1 [.ref q1, .ref er, .ref q2, .ref q3, .ref q4, .ref h0, .int (nI ql), .int qo], wI (cy 1) q2 24 (g_15), wO h0 4 [.ref h1, .ref h2, .ref h3, .ref h4, .ref h5, .ref h6, .ref h7, .ref h8, .ref h9, .ref h10, .ref h11, hv0, hv1, hv2, hv3, hv4], wI (cy 1) h7 48 (fx), wI (cy 1) h1 4 (fc), (er, .inl (cy 4, 4, .inr (.inr (.inr (.inr (eF (ea 0) (ea 1) (ea 2) (ea 3))))))), wI (cy 1) (ef 0) 7 (xc 0), wO (ea 1) 2 [.ref (eg 1), .ref (ef 1), .int (et 1), .int (nI (el 1)), .int (nI (ei 1))], wI (cy 1) (eg 1) 10 (gc 1), wI (cy 1) (ef 1) 7 (xc 1), wO (ea 2) 2 [.ref (eg 2), .ref (ef 2), .int (et 2), .int (nI (el 2)), .int (nI (ei 2))], wI (cy 1) (eg 2) 10 (gc 2), wI (cy 1) (ef 2) 7 (xc 2), wO (ea 3) 2 [.ref (eg 3), .ref (ef 3), .int (et 3), .int (nI (el 3)), .int (nI (ei 3))], wI (cy 1) (eg 3) 10 (gc 3), wI (cy 1) (ef 3) 7 (xc 3), wO (ea 0) 2 [.ref (eg 0), .ref (ef 0), .int (et 0), .int (nI ((el 0))), .int (nI ((ei 0)))], wI (cy 1) (eg 0) 10 (gc 0)] H := hP
            replace hD : va_D A [wO q0 1 [.ref q1, .ref er, .ref q2, .ref q3, .ref q4, .ref h0, .int (nI ql), .int qo], wI (cy 1) q2 24 (g_15), wO h0 4 [.ref h1, .ref h2, .ref h3, .ref h4, .ref h5, .ref h6, .ref h7, .ref h8, .ref h9, .ref h10, .ref h11, hv0, hv1, hv2, hv3, hv4], wI (cy 1) h7 48 (fx), wI (cy 1) h1 4 (fc), (er, .inl (cy 4, 4, .inr (.inr (.inr (.inr (eF (ea 0) (ea 1) (ea 2) (ea 3))))))), wI (cy 1) (ef 0) 7 (xc 0), wO (ea 1) 2 [.ref (eg 1), .ref (ef 1), .int (et 1), .int (nI (el 1)), .int (nI (ei 1))], wI (cy 1) (eg 1) 10 (gc 1), wI (cy 1) (ef 1) 7 (xc 1), wO (ea 2) 2 [.ref (eg 2), .ref (ef 2), .int (et 2), .int (nI (el 2)), .int (nI (ei 2))], wI (cy 1) (eg 2) 10 (gc 2), wI (cy 1) (ef 2) 7 (xc 2), wO (ea 3) 2 [.ref (eg 3), .ref (ef 3), .int (et 3), .int (nI (el 3)), .int (nI (ei 3))], wI (cy 1) (eg 3) 10 (gc 3), wI (cy 1) (ef 3) 7 (xc 3), wO (ea 0) 2 [.ref (eg 0), .ref (ef 0), .int (et 0), .int (nI ((el 0))), .int (nI ((ei 0)))], wI (cy 1) (eg 0) 10 (gc 0)] := hD
            refine lv_iinc (v := 1) (lv' := [(3, .int 1), (5, .ref (ea 0)), (4, .int (nI v_7)), (0, .ref q0), (1, .int (nI dp)), (2, .int (nI wd))]) hx hb dX1_goOn_89 hl (k := 2) rfl (by decide) (by decide) rfl (fun ls hl => ?_)
            refine lv_goto (tgt := 2) hx hb dX1_goOn_92 (by decide) ?_
            exact ih1  1 g_15 hr_16 (by omega) (pt_put (Lp := fun c9 => nxL (gc c9) dp wd (Lp c9)) hf1_1 (by omega) (by decide) (by rw [nx_0 (bR_f f_11 c_42)]; exact (pt_at (hpt 0 (by omega)) (hf2_1 (dp * 4 + 0) (by omega)) ev_7 (by omega) (by omega))) eg_15) (pt_keep (b := (dp + 1) * 4) (i := 0) hf2_1 (by omega) (by omega) eg_15) (by omega) _ _ (hP.sub [0, 1, 2, 3, 4, 5, 16, 17, 6, 7, 8, 9, 10, 11, 12, 13, 14, 15] rfl) (hD.sub [0, 1, 2, 3, 4, 5, 16, 17, 6, 7, 8, 9, 10, 11, 12, 13, 14, 15] (by decide +kernel) rfl) hS ls (lv_sub hl [0, 3, 4, 5] rfl)
          · refine lv_ldc (v := 262144) hx hb hown (hg _ m_1162) dX1_goOn_45 ?_
            refine lv_aload hx hb dX1_goOn_47 (lv_at hl 0 rfl) ?_
            refine va_get (D := D) (ci := 2) (v := .int (et 0)) (C := RX2) (T := TX2) (N := 5) hx hb hg i_X2 hown hK hP 16 rfl rfl 2 (by decide) (hg _ m_517) (fun _ h9 => h9) rfl dX1_goOn_49 ?_
            refine lv_if_eq (tgt := 65) hx hb dX1_goOn_52 (by decide) (fun c_52 => ?_) (fun c_52 => ?_)
            · refine lv_aload_n hx hb dX1_goOn_65 rfl (lv_at hl 3 rfl) ?_
              refine lv_iload hx hb dX1_goOn_66 (lv_at hl 1 rfl) ?_
              refine lv_iload_n hx hb dX1_goOn_68 rfl (lv_at hl 5 rfl) ?_
              refine x_callVi (q := (RX1, TX1, 8)) (ci := 1) (q0 := 0) (wr := [wI (cy 1) q2 24 (fa1_1), wI (cy 1) h1 4 (fc), (er, .inl (cy 4, 4, .inr (.inr (.inr (.inr (eF (ea 0) (ea 1) (ea 2) (ea 3))))))), wI (cy 1) (ef 0) 7 (xc 0), wO (ea 1) 2 [.ref (eg 1), .ref (ef 1), .int (et 1), .int (nI (el 1)), .int (nI (ei 1))], wI (cy 1) (eg 1) 10 (gc 1), wI (cy 1) (ef 1) 7 (xc 1), wO (ea 2) 2 [.ref (eg 2), .ref (ef 2), .int (et 2), .int (nI (el 2)), .int (nI (ei 2))], wI (cy 1) (eg 2) 10 (gc 2), wI (cy 1) (ef 2) 7 (xc 2), wO (ea 3) 2 [.ref (eg 3), .ref (ef 3), .int (et 3), .int (nI (el 3)), .int (nI (ei 3))], wI (cy 1) (eg 3) 10 (gc 3), wI (cy 1) (ef 3) 7 (xc 3), wO (ea 0) 2 [.ref (eg 0), .ref (ef 0), .int (et 0), .int (nI ((el 0))), .int (nI ((ei 0)))], wI (cy 1) (eg 0) 10 (gc 0)]) (rest := [.int 262144]) ⟨hx, hb, hml, hown, hg, hl.1⟩ k_X1_81 (s_straightPath l D cy q0 q1 q2 q3 q4 er ql qo h0 h1 h2 h3 h4 h5 h6 h7 h8 h9 h10 h11 hv0 hv1 hv2 hv3 hv4 fx v_7 wd (hnx) (hv_7) (by omega)) E0_blind hK hP hD hS hA [0, 2, 3] [1, 4, 5, 6, 7, 8, 9, 10, 11, 12, 13, 14, 15, 16, 17] ⟨rfl, rfl, by decide +kernel, by decide +kernel, by decide +kernel⟩ rfl rfl (fun _ _ _ => trivial) dX1_goOn_69 rfl rfl (Nat.le_of_ble_eq_true rfl) ⟨Nat.le_of_ble_eq_true rfl, Nat.le_of_ble_eq_true rfl⟩ ⟨Nat.le_of_ble_eq_true rfl, Nat.le_of_ble_eq_true rfl⟩ (fun zr17 zu17 H locs hw17 hP9 hD9 hS9 => ?_)
              clear hP hD hS
              obtain ⟨k_18, rfl⟩ : ∃ z, z = zu17 := ⟨_, rfl⟩
              refine reW [wI (cy 1) q2 24 (fa1_1), wI (cy 1) h1 4 (fc), (er, .inl (cy 4, 4, .inr (.inr (.inr (.inr (eF (ea 0) (ea 1) (ea 2) (ea 3))))))), wI (cy 1) (ef 0) 7 (xc 0), wO (ea 1) 2 [.ref (eg 1), .ref (ef 1), .int (et 1), .int (nI (el 1)), .int (nI (ei 1))], wI (cy 1) (eg 1) 10 (gc 1), wI (cy 1) (ef 1) 7 (xc 1), wO (ea 2) 2 [.ref (eg 2), .ref (ef 2), .int (et 2), .int (nI (el 2)), .int (nI (ei 2))], wI (cy 1) (eg 2) 10 (gc 2), wI (cy 1) (ef 2) 7 (xc 2), wO (ea 3) 2 [.ref (eg 3), .ref (ef 3), .int (et 3), .int (nI (el 3)), .int (nI (ei 3))], wI (cy 1) (eg 3) 10 (gc 3), wI (cy 1) (ef 3) 7 (xc 3), wO (ea 0) 2 [.ref (eg 0), .ref (ef 0), .int (et 0), .int (nI ((el 0))), .int (nI ((ei 0)))], wI (cy 1) (eg 0) 10 (gc 0), wO q0 1 [.ref q1, .ref er, .ref q2, .ref q3, .ref q4, .ref h0, .int (nI ql), .int qo], wO h0 4 [.ref h1, .ref h2, .ref h3, .ref h4, .ref h5, .ref h6, .ref h7, .ref h8, .ref h9, .ref h10, .ref h11, hv0, hv1, hv2, hv3, hv4], wI (cy 1) h7 48 (fx)] hP9 hD9 hS9 (fun hP hD hS => ?_)
              clear hP9 hD9 hS9
              refine W.widen (k := 0) (n := 0) (Nat.le_of_ble_eq_true rfl) (Nat.le_of_ble_eq_true rfl) ?_
              replace hw17 : (zr17 = nI k_18) ∧ (k_18 ≤ 5) ∧ (k_18 = nC9 fx (dg9 v_7 0) wd) := hw17
              obtain ⟨f_19, f_20, f_21⟩ := hw17
              subst f_19
              refine lv_ior hx hb dX1_goOn_72 ?_
              refine lv_topi (fun x_22 ex_22 => ?_)
              have hlt9 : k_18 < 262144 := by omega
              obtain rfl : x_22 = nI (262144 + k_18) := ex_22.trans (or_ans hlt9)
              have hpk_23 : pOK (262144 + k_18) := pOK_up (pOK_small (by omega)) hlt9
              refine lv_istore (lv' := [(4, .int (nI (262144 + k_18))), (5, .ref (ea 0)), (3, .int 0), (0, .ref q0), (1, .int (nI dp)), (2, .int (nI wd))]) hx hb dX1_goOn_73 hl (by decide) rfl (fun ls hl => ?_)
              refine lv_aload_n hx hb dX1_goOn_75 rfl (lv_at hl 3 rfl) ?_
              refine va_get (D := D) (ci := 1) (v := .ref q2) (C := RX1) (T := TX1) (N := 8) hx hb hg i_X1 hown hK hP 15 rfl rfl 2 (by decide) (hg _ m_555) (fun _ h9 => h9) rfl dX1_goOn_76 ?_
              refine lv_iload_n hx hb dX1_goOn_79 rfl (lv_at hl 4 rfl) ?_
              refine lv_iconst (v := 1) hx hb dX1_goOn_80 (by decide) ?_
              refine lv_iadd hx hb dX1_goOn_81 ?_
              refine lv_topi (fun y_24 hy_24 => ?_)
              obtain rfl : y_24 = nI (dp + 1) := hy_24.trans (nI_add dp 1)
              refine lv_iconst (v := 4) hx hb dX1_goOn_82 (by decide) ?_
              refine lv_imul hx hb dX1_goOn_83 ?_
              refine lv_topi (fun y_25 hy_25 => ?_)
              obtain rfl : y_25 = nI ((dp + 1) * 4) := hy_25.trans (pk_mul ((dp + 1)) 4)
              refine lv_iload_n hx hb dX1_goOn_84 rfl (lv_at hl 2 rfl) ?_
              refine lv_iadd hx hb dX1_goOn_85 ?_
              refine lv_topi (fun y_26 hy_26 => ?_)
              obtain rfl : y_26 = nI (((dp + 1) * 4) + 0) := hy_26.trans (nI_add (((dp + 1) * 4)) 0)
              refine lv_iload hx hb dX1_goOn_86 (lv_at hl 0 rfl) ?_
              refine va_iast hx hb hK hP hD hS 0 1 rfl rfl (vp_in_nI (by omega) (by decide)) dX1_goOn_88 (fun H locs hP9 hD9 hS9 => ?_)
              clear hP hD hS
              have hP := hP9
              have hD := hD9
              have hS := hS9
              clear hP9 hD9 hS9
              obtain ⟨g_27, eg_27⟩ : ∃ y, upd fa1_1 (nI (((dp + 1) * 4) + 0) : Int32).toNatClampNeg (nI (262144 + k_18)) = y := ⟨_, rfl⟩
              rw [eg_27] at hP hD
              have hr_28 : pRow g_27 := eg_27 ▸ pRow_put (v := (262144 + k_18)) ha2_1 hpk_23
              replace hP : va_P D vwCl [wI (cy 1) q2 24 (g_27), wI (cy 1) h1 4 (fc), (er, .inl (cy 4, 4, .inr (.inr (.inr (.inr (eF (ea 0) (ea 1) (ea 2) (ea 3))))))), wI (cy 1) (ef 0) 7 (xc 0), wO (ea 1) 2 [.ref (eg 1), .ref (ef 1), .int (et 1), .int (nI (el 1)), .int (nI (ei 1))], wI (cy 1) (eg 1) 10 (gc 1), wI (cy 1) (ef 1) 7 (xc 1), wO (ea 2) 2 [.ref (eg 2), .ref (ef 2), .int (et 2), .int (nI (el 2)), .int (nI (ei 2))], wI (cy 1) (eg 2) 10 (gc 2), wI (cy 1) (ef 2) 7 (xc 2), wO (ea 3) 2 [.ref (eg 3), .ref (ef 3), .int (et 3), .int (nI (el 3)), .int (nI (ei 3))], wI (cy 1) (eg 3) 10 (gc 3), wI (cy 1) (ef 3) 7 (xc 3), wO (ea 0) 2 [.ref (eg 0), .ref (ef 0), .int (et 0), .int (nI ((el 0))), .int (nI ((ei 0)))], wI (cy 1) (eg 0) 10 (gc 0), wO q0 1 [.ref q1, .ref er, .ref q2, .ref q3, .ref q4, .ref h0, .int (nI ql), .int qo], wO h0 4 [.ref h1, .ref h2, .ref h3, .ref h4, .ref h5, .ref h6, .ref h7, .ref h8, .ref h9, .ref h10, .ref h11, hv0, hv1, hv2, hv3, hv4], wI (cy 1) h7 48 (fx)] H := hP
              replace hD : va_D A [wI (cy 1) q2 24 (g_27), wI (cy 1) h1 4 (fc), (er, .inl (cy 4, 4, .inr (.inr (.inr (.inr (eF (ea 0) (ea 1) (ea 2) (ea 3))))))), wI (cy 1) (ef 0) 7 (xc 0), wO (ea 1) 2 [.ref (eg 1), .ref (ef 1), .int (et 1), .int (nI (el 1)), .int (nI (ei 1))], wI (cy 1) (eg 1) 10 (gc 1), wI (cy 1) (ef 1) 7 (xc 1), wO (ea 2) 2 [.ref (eg 2), .ref (ef 2), .int (et 2), .int (nI (el 2)), .int (nI (ei 2))], wI (cy 1) (eg 2) 10 (gc 2), wI (cy 1) (ef 2) 7 (xc 2), wO (ea 3) 2 [.ref (eg 3), .ref (ef 3), .int (et 3), .int (nI (el 3)), .int (nI (ei 3))], wI (cy 1) (eg 3) 10 (gc 3), wI (cy 1) (ef 3) 7 (xc 3), wO (ea 0) 2 [.ref (eg 0), .ref (ef 0), .int (et 0), .int (nI ((el 0))), .int (nI ((ei 0)))], wI (cy 1) (eg 0) 10 (gc 0), wO q0 1 [.ref q1, .ref er, .ref q2, .ref q3, .ref q4, .ref h0, .int (nI ql), .int qo], wO h0 4 [.ref h1, .ref h2, .ref h3, .ref h4, .ref h5, .ref h6, .ref h7, .ref h8, .ref h9, .ref h10, .ref h11, hv0, hv1, hv2, hv3, hv4], wI (cy 1) h7 48 (fx)] := hD
              refine lv_iinc (v := 1) (lv' := [(3, .int 1), (4, .int (nI (262144 + k_18))), (5, .ref (ea 0)), (0, .ref q0), (1, .int (nI dp)), (2, .int (nI wd))]) hx hb dX1_goOn_89 hl (k := 2) rfl (by decide) (by decide) rfl (fun ls hl => ?_)
              refine lv_goto (tgt := 2) hx hb dX1_goOn_92 (by decide) ?_
              exact ih1  1 g_27 hr_28 (by omega) (pt_put (Lp := fun c9 => nxL (gc c9) dp wd (Lp c9)) hf1_1 (by omega) (by decide) (by rw [nx_1 (bR_t f_11 c_42)]; exact pt_s (pt_at (hpt 0 (by omega)) (hf2_1 (dp * 4 + 0) (by omega)) ev_7 (by omega) (by omega)) c_52 (by omega) f_21 (by omega)) eg_27) (pt_keep (b := (dp + 1) * 4) (i := 0) hf2_1 (by omega) (by omega) eg_27) (by omega) _ _ (hP.sub [15, 0, 16, 17, 1, 2, 13, 14, 3, 4, 5, 6, 7, 8, 9, 10, 11, 12] rfl) (hD.sub [15, 0, 16, 17, 1, 2, 13, 14, 3, 4, 5, 6, 7, 8, 9, 10, 11, 12] (by decide +kernel) rfl) hS ls (lv_sub hl [0, 3, 4, 5] rfl)
            · refine lv_aload_n hx hb dX1_goOn_55 rfl (lv_at hl 3 rfl) ?_
              refine lv_iload hx hb dX1_goOn_56 (lv_at hl 1 rfl) ?_
              refine lv_iload_n hx hb dX1_goOn_58 rfl (lv_at hl 5 rfl) ?_
              refine x_callVi (q := (RX1, TX1, 8)) (ci := 1) (q0 := 0) (wr := [wI (cy 1) q2 24 (fa1_1), (er, .inl (cy 4, 4, .inr (.inr (.inr (.inr (eF (ea 0) (ea 1) (ea 2) (ea 3))))))), wI (cy 1) (ef 0) 7 (xc 0), wO (ea 1) 2 [.ref (eg 1), .ref (ef 1), .int (et 1), .int (nI (el 1)), .int (nI (ei 1))], wI (cy 1) (eg 1) 10 (gc 1), wI (cy 1) (ef 1) 7 (xc 1), wO (ea 2) 2 [.ref (eg 2), .ref (ef 2), .int (et 2), .int (nI (el 2)), .int (nI (ei 2))], wI (cy 1) (eg 2) 10 (gc 2), wI (cy 1) (ef 2) 7 (xc 2), wO (ea 3) 2 [.ref (eg 3), .ref (ef 3), .int (et 3), .int (nI (el 3)), .int (nI (ei 3))], wI (cy 1) (eg 3) 10 (gc 3), wI (cy 1) (ef 3) 7 (xc 3), wO (ea 0) 2 [.ref (eg 0), .ref (ef 0), .int (et 0), .int (nI ((el 0))), .int (nI ((ei 0)))], wI (cy 1) (eg 0) 10 (gc 0)]) (rest := [.int 262144]) ⟨hx, hb, hml, hown, hg, hl.1⟩ k_X1_77 (s_turnedPath l D cy q0 q1 q2 q3 q4 er ql qo h0 h1 h2 h3 h4 h5 h6 h7 h8 h9 h10 h11 hv0 hv1 hv2 hv3 hv4 fx fc c0 c1 c2 c3 v_7 wd (hnx) (hcn) (by omega) (by omega) (by omega) (by omega) (hv_7) (by omega)) E0_blind hK hP hD hS hA [0, 2, 3, 4] [1, 5, 6, 7, 8, 9, 10, 11, 12, 13, 14, 15, 16, 17] ⟨rfl, rfl, by decide +kernel, by decide +kernel, by decide +kernel⟩ rfl rfl (fun _ _ _ => trivial) dX1_goOn_59 rfl rfl (Nat.le_of_ble_eq_true rfl) ⟨Nat.le_of_ble_eq_true rfl, Nat.le_of_ble_eq_true rfl⟩ ⟨Nat.le_of_ble_eq_true rfl, Nat.le_of_ble_eq_true rfl⟩ (fun zr29 zu29 H locs hw29 hP9 hD9 hS9 => ?_)
              clear hP hD hS
              obtain ⟨k_30, rfl⟩ : ∃ z, z = zu29 := ⟨_, rfl⟩
              refine reW [wI (cy 1) q2 24 (fa1_1), (er, .inl (cy 4, 4, .inr (.inr (.inr (.inr (eF (ea 0) (ea 1) (ea 2) (ea 3))))))), wI (cy 1) (ef 0) 7 (xc 0), wO (ea 1) 2 [.ref (eg 1), .ref (ef 1), .int (et 1), .int (nI (el 1)), .int (nI (ei 1))], wI (cy 1) (eg 1) 10 (gc 1), wI (cy 1) (ef 1) 7 (xc 1), wO (ea 2) 2 [.ref (eg 2), .ref (ef 2), .int (et 2), .int (nI (el 2)), .int (nI (ei 2))], wI (cy 1) (eg 2) 10 (gc 2), wI (cy 1) (ef 2) 7 (xc 2), wO (ea 3) 2 [.ref (eg 3), .ref (ef 3), .int (et 3), .int (nI (el 3)), .int (nI (ei 3))], wI (cy 1) (eg 3) 10 (gc 3), wI (cy 1) (ef 3) 7 (xc 3), wO (ea 0) 2 [.ref (eg 0), .ref (ef 0), .int (et 0), .int (nI ((el 0))), .int (nI ((ei 0)))], wI (cy 1) (eg 0) 10 (gc 0), wO q0 1 [.ref q1, .ref er, .ref q2, .ref q3, .ref q4, .ref h0, .int (nI ql), .int qo], wO h0 4 [.ref h1, .ref h2, .ref h3, .ref h4, .ref h5, .ref h6, .ref h7, .ref h8, .ref h9, .ref h10, .ref h11, hv0, hv1, hv2, hv3, hv4], wI (cy 1) h7 48 (fx), wI (cy 1) h1 4 (fc)] hP9 hD9 hS9 (fun hP hD hS => ?_)
              clear hP9 hD9 hS9
              refine W.widen (k := 0) (n := 0) (Nat.le_of_ble_eq_true rfl) (Nat.le_of_ble_eq_true rfl) ?_
              replace hw29 : (zr29 = nI k_30) ∧ (pOK k_30) ∧ (k_30 < 262144) ∧ (∀ s9 : Nat, s9 < c3 → dg9 k_30 s9 = dg9 v_7 (nC9 fx s9 wd)) := hw29
              obtain ⟨f_31, f_32, f_33, f_34⟩ := hw29
              subst f_31
              refine lv_goto (tgt := 72) hx hb dX1_goOn_62 (by decide) ?_
              refine lv_ior hx hb dX1_goOn_72 ?_
              refine lv_topi (fun x_35 ex_35 => ?_)
              have hlt9 : k_30 < 262144 := by omega
              obtain rfl : x_35 = nI (262144 + k_30) := ex_35.trans (or_ans hlt9)
              have hpk_36 : pOK (262144 + k_30) := pOK_up (f_32) hlt9
              refine lv_istore (lv' := [(4, .int (nI (262144 + k_30))), (5, .ref (ea 0)), (3, .int 0), (0, .ref q0), (1, .int (nI dp)), (2, .int (nI wd))]) hx hb dX1_goOn_73 hl (by decide) rfl (fun ls hl => ?_)
              refine lv_aload_n hx hb dX1_goOn_75 rfl (lv_at hl 3 rfl) ?_
              refine va_get (D := D) (ci := 1) (v := .ref q2) (C := RX1) (T := TX1) (N := 8) hx hb hg i_X1 hown hK hP 14 rfl rfl 2 (by decide) (hg _ m_555) (fun _ h9 => h9) rfl dX1_goOn_76 ?_
              refine lv_iload_n hx hb dX1_goOn_79 rfl (lv_at hl 4 rfl) ?_
              refine lv_iconst (v := 1) hx hb dX1_goOn_80 (by decide) ?_
              refine lv_iadd hx hb dX1_goOn_81 ?_
              refine lv_topi (fun y_37 hy_37 => ?_)
              obtain rfl : y_37 = nI (dp + 1) := hy_37.trans (nI_add dp 1)
              refine lv_iconst (v := 4) hx hb dX1_goOn_82 (by decide) ?_
              refine lv_imul hx hb dX1_goOn_83 ?_
              refine lv_topi (fun y_38 hy_38 => ?_)
              obtain rfl : y_38 = nI ((dp + 1) * 4) := hy_38.trans (pk_mul ((dp + 1)) 4)
              refine lv_iload_n hx hb dX1_goOn_84 rfl (lv_at hl 2 rfl) ?_
              refine lv_iadd hx hb dX1_goOn_85 ?_
              refine lv_topi (fun y_39 hy_39 => ?_)
              obtain rfl : y_39 = nI (((dp + 1) * 4) + 0) := hy_39.trans (nI_add (((dp + 1) * 4)) 0)
              refine lv_iload hx hb dX1_goOn_86 (lv_at hl 0 rfl) ?_
              refine va_iast hx hb hK hP hD hS 0 1 rfl rfl (vp_in_nI (by omega) (by decide)) dX1_goOn_88 (fun H locs hP9 hD9 hS9 => ?_)
              clear hP hD hS
              have hP := hP9
              have hD := hD9
              have hS := hS9
              clear hP9 hD9 hS9
              obtain ⟨g_40, eg_40⟩ : ∃ y, upd fa1_1 (nI (((dp + 1) * 4) + 0) : Int32).toNatClampNeg (nI (262144 + k_30)) = y := ⟨_, rfl⟩
              rw [eg_40] at hP hD
              have hr_41 : pRow g_40 := eg_40 ▸ pRow_put (v := (262144 + k_30)) ha2_1 hpk_36
              replace hP : va_P D vwCl [wI (cy 1) q2 24 (g_40), (er, .inl (cy 4, 4, .inr (.inr (.inr (.inr (eF (ea 0) (ea 1) (ea 2) (ea 3))))))), wI (cy 1) (ef 0) 7 (xc 0), wO (ea 1) 2 [.ref (eg 1), .ref (ef 1), .int (et 1), .int (nI (el 1)), .int (nI (ei 1))], wI (cy 1) (eg 1) 10 (gc 1), wI (cy 1) (ef 1) 7 (xc 1), wO (ea 2) 2 [.ref (eg 2), .ref (ef 2), .int (et 2), .int (nI (el 2)), .int (nI (ei 2))], wI (cy 1) (eg 2) 10 (gc 2), wI (cy 1) (ef 2) 7 (xc 2), wO (ea 3) 2 [.ref (eg 3), .ref (ef 3), .int (et 3), .int (nI (el 3)), .int (nI (ei 3))], wI (cy 1) (eg 3) 10 (gc 3), wI (cy 1) (ef 3) 7 (xc 3), wO (ea 0) 2 [.ref (eg 0), .ref (ef 0), .int (et 0), .int (nI ((el 0))), .int (nI ((ei 0)))], wI (cy 1) (eg 0) 10 (gc 0), wO q0 1 [.ref q1, .ref er, .ref q2, .ref q3, .ref q4, .ref h0, .int (nI ql), .int qo], wO h0 4 [.ref h1, .ref h2, .ref h3, .ref h4, .ref h5, .ref h6, .ref h7, .ref h8, .ref h9, .ref h10, .ref h11, hv0, hv1, hv2, hv3, hv4], wI (cy 1) h7 48 (fx), wI (cy 1) h1 4 (fc)] H := hP
              replace hD : va_D A [wI (cy 1) q2 24 (g_40), (er, .inl (cy 4, 4, .inr (.inr (.inr (.inr (eF (ea 0) (ea 1) (ea 2) (ea 3))))))), wI (cy 1) (ef 0) 7 (xc 0), wO (ea 1) 2 [.ref (eg 1), .ref (ef 1), .int (et 1), .int (nI (el 1)), .int (nI (ei 1))], wI (cy 1) (eg 1) 10 (gc 1), wI (cy 1) (ef 1) 7 (xc 1), wO (ea 2) 2 [.ref (eg 2), .ref (ef 2), .int (et 2), .int (nI (el 2)), .int (nI (ei 2))], wI (cy 1) (eg 2) 10 (gc 2), wI (cy 1) (ef 2) 7 (xc 2), wO (ea 3) 2 [.ref (eg 3), .ref (ef 3), .int (et 3), .int (nI (el 3)), .int (nI (ei 3))], wI (cy 1) (eg 3) 10 (gc 3), wI (cy 1) (ef 3) 7 (xc 3), wO (ea 0) 2 [.ref (eg 0), .ref (ef 0), .int (et 0), .int (nI ((el 0))), .int (nI ((ei 0)))], wI (cy 1) (eg 0) 10 (gc 0), wO q0 1 [.ref q1, .ref er, .ref q2, .ref q3, .ref q4, .ref h0, .int (nI ql), .int qo], wO h0 4 [.ref h1, .ref h2, .ref h3, .ref h4, .ref h5, .ref h6, .ref h7, .ref h8, .ref h9, .ref h10, .ref h11, hv0, hv1, hv2, hv3, hv4], wI (cy 1) h7 48 (fx), wI (cy 1) h1 4 (fc)] := hD
              refine lv_iinc (v := 1) (lv' := [(3, .int 1), (4, .int (nI (262144 + k_30))), (5, .ref (ea 0)), (0, .ref q0), (1, .int (nI dp)), (2, .int (nI wd))]) hx hb dX1_goOn_89 hl (k := 2) rfl (by decide) (by decide) rfl (fun ls hl => ?_)
              refine lv_goto (tgt := 2) hx hb dX1_goOn_92 (by decide) ?_
              exact ih1  1 g_40 hr_41 (by omega) (pt_put (Lp := fun c9 => nxL (gc c9) dp wd (Lp c9)) hf1_1 (by omega) (by decide) (by rw [nx_1 (bR_t f_11 c_42)]; exact pt_t (pt_at (hpt 0 (by omega)) (hf2_1 (dp * 4 + 0) (by omega)) ev_7 (by omega) (by omega)) c_52 hcA (by omega) (by omega) f_34 (by omega)) eg_40) (pt_keep (b := (dp + 1) * 4) (i := 0) hf2_1 (by omega) (by omega) eg_40) (by omega) _ _ (hP.sub [14, 0, 15, 16, 17, 1, 12, 13, 2, 3, 4, 5, 6, 7, 8, 9, 10, 11] rfl) (hD.sub [14, 0, 15, 16, 17, 1, 12, 13, 2, 3, 4, 5, 6, 7, 8, 9, 10, 11] (by decide +kernel) rfl) hS ls (lv_sub hl [0, 3, 4, 5] rfl)
        · subst hsp
          refine va_aldq hx hb hK hP 5 4 rfl rfl (by unfold vp_in; decide) dX1_goOn_32 ?_
          refine W.eq (g2 := F0 m 33 ls [.ref (ea 1)]) rfl ?_
          refine lv_astore (lv' := [(5, .ref (ea 1)), (4, .int (nI v_7)), (3, .int 1), (0, .ref q0), (1, .int (nI dp)), (2, .int (nI wd))]) hx hb dX1_goOn_33 hl (by decide) rfl (fun ls hl => ?_)
          refine lv_aload hx hb dX1_goOn_35 (lv_at hl 0 rfl) ?_
          refine lv_iload_n hx hb dX1_goOn_37 rfl (lv_at hl 4 rfl) ?_
          refine lv_iload_n hx hb dX1_goOn_38 rfl (lv_at hl 5 rfl) ?_
          refine x_callVi (q := (RX2, TX2, 5)) (ci := 2) (q0 := 0) (wr := [wO q0 1 [.ref q1, .ref er, .ref q2, .ref q3, .ref q4, .ref h0, .int (nI ql), .int qo], wI (cy 1) q2 24 (fa1_1), wO h0 4 [.ref h1, .ref h2, .ref h3, .ref h4, .ref h5, .ref h6, .ref h7, .ref h8, .ref h9, .ref h10, .ref h11, hv0, hv1, hv2, hv3, hv4], wI (cy 1) h7 48 (fx), wI (cy 1) h1 4 (fc), (er, .inl (cy 4, 4, .inr (.inr (.inr (.inr (eF (ea 0) (ea 1) (ea 2) (ea 3))))))), wO (ea 0) 2 [.ref (eg 0), .ref (ef 0), .int (et 0), .int (nI (el 0)), .int (nI (ei 0))], wI (cy 1) (eg 0) 10 (gc 0), wI (cy 1) (ef 0) 7 (xc 0), wI (cy 1) (ef 1) 7 (xc 1), wO (ea 2) 2 [.ref (eg 2), .ref (ef 2), .int (et 2), .int (nI (el 2)), .int (nI (ei 2))], wI (cy 1) (eg 2) 10 (gc 2), wI (cy 1) (ef 2) 7 (xc 2), wO (ea 3) 2 [.ref (eg 3), .ref (ef 3), .int (et 3), .int (nI (el 3)), .int (nI (ei 3))], wI (cy 1) (eg 3) 10 (gc 3), wI (cy 1) (ef 3) 7 (xc 3)]) (rest := []) ⟨hx, hb, hml, hown, hg, hl.1⟩ k_X1_70 (s_comesBack l D cy (ea 1) (eg 1) (ef 1) (et 1) ((el 1)) ((ei 1)) (gc 1) dp (nI wd) (by omega)) E0_blind hK hP hD hS hA [9, 10] [0, 1, 2, 3, 4, 5, 6, 7, 8, 11, 12, 13, 14, 15, 16, 17] ⟨rfl, rfl, by decide +kernel, by decide +kernel, by decide +kernel⟩ rfl rfl (fun _ _ _ => trivial) dX1_goOn_39 rfl rfl (Nat.le_of_ble_eq_true rfl) ⟨Nat.le_of_ble_eq_true rfl, Nat.le_of_ble_eq_true rfl⟩ ⟨Nat.le_of_ble_eq_true rfl, Nat.le_of_ble_eq_true rfl⟩ (fun zr42 zu42 H locs hw42 hP9 hD9 hS9 => ?_)
          clear hP hD hS
          refine reW [wO q0 1 [.ref q1, .ref er, .ref q2, .ref q3, .ref q4, .ref h0, .int (nI ql), .int qo], wI (cy 1) q2 24 (fa1_1), wO h0 4 [.ref h1, .ref h2, .ref h3, .ref h4, .ref h5, .ref h6, .ref h7, .ref h8, .ref h9, .ref h10, .ref h11, hv0, hv1, hv2, hv3, hv4], wI (cy 1) h7 48 (fx), wI (cy 1) h1 4 (fc), (er, .inl (cy 4, 4, .inr (.inr (.inr (.inr (eF (ea 0) (ea 1) (ea 2) (ea 3))))))), wO (ea 0) 2 [.ref (eg 0), .ref (ef 0), .int (et 0), .int (nI (el 0)), .int (nI (ei 0))], wI (cy 1) (eg 0) 10 (gc 0), wI (cy 1) (ef 0) 7 (xc 0), wI (cy 1) (ef 1) 7 (xc 1), wO (ea 2) 2 [.ref (eg 2), .ref (ef 2), .int (et 2), .int (nI (el 2)), .int (nI (ei 2))], wI (cy 1) (eg 2) 10 (gc 2), wI (cy 1) (ef 2) 7 (xc 2), wO (ea 3) 2 [.ref (eg 3), .ref (ef 3), .int (et 3), .int (nI (el 3)), .int (nI (ei 3))], wI (cy 1) (eg 3) 10 (gc 3), wI (cy 1) (ef 3) 7 (xc 3), wO (ea 1) 2 [.ref (eg 1), .ref (ef 1), .int (et 1), .int (nI ((el 1))), .int (nI ((ei 1)))], wI (cy 1) (eg 1) 10 (gc 1)] hP9 hD9 hS9 (fun hP hD hS => ?_)
          clear hP9 hD9 hS9
          refine W.widen (k := 0) (n := 0) (Nat.le_of_ble_eq_true rfl) (Nat.le_of_ble_eq_true rfl) ?_
          replace hw42 : (zr42 = 0 ∨ zr42 = 1) ∧ (bR zr42 (gB ((gc 1) dp) (nI wd))) := hw42
          obtain ⟨f_43, f_44⟩ := hw42
          refine lv_if_eq (tgt := 75) hx hb dX1_goOn_42 (by decide) (fun c_42 => ?_) (fun c_42 => ?_)
          · refine lv_aload_n hx hb dX1_goOn_75 rfl (lv_at hl 3 rfl) ?_
            refine va_get (D := D) (ci := 1) (v := .ref q2) (C := RX1) (T := TX1) (N := 8) hx hb hg i_X1 hown hK hP 0 rfl rfl 2 (by decide) (hg _ m_555) (fun _ h9 => h9) rfl dX1_goOn_76 ?_
            refine lv_iload_n hx hb dX1_goOn_79 rfl (lv_at hl 4 rfl) ?_
            refine lv_iconst (v := 1) hx hb dX1_goOn_80 (by decide) ?_
            refine lv_iadd hx hb dX1_goOn_81 ?_
            refine lv_topi (fun y_45 hy_45 => ?_)
            obtain rfl : y_45 = nI (dp + 1) := hy_45.trans (nI_add dp 1)
            refine lv_iconst (v := 4) hx hb dX1_goOn_82 (by decide) ?_
            refine lv_imul hx hb dX1_goOn_83 ?_
            refine lv_topi (fun y_46 hy_46 => ?_)
            obtain rfl : y_46 = nI ((dp + 1) * 4) := hy_46.trans (pk_mul ((dp + 1)) 4)
            refine lv_iload_n hx hb dX1_goOn_84 rfl (lv_at hl 2 rfl) ?_
            refine lv_iadd hx hb dX1_goOn_85 ?_
            refine lv_topi (fun y_47 hy_47 => ?_)
            obtain rfl : y_47 = nI (((dp + 1) * 4) + 1) := hy_47.trans (nI_add (((dp + 1) * 4)) 1)
            refine lv_iload hx hb dX1_goOn_86 (lv_at hl 1 rfl) ?_
            refine va_iast hx hb hK hP hD hS 1 1 rfl rfl (vp_in_nI (by omega) (by decide)) dX1_goOn_88 (fun H locs hP9 hD9 hS9 => ?_)
            clear hP hD hS
            have hP := hP9
            have hD := hD9
            have hS := hS9
            clear hP9 hD9 hS9
            obtain ⟨g_48, eg_48⟩ : ∃ y, upd fa1_1 (nI (((dp + 1) * 4) + 1) : Int32).toNatClampNeg (nI v_7) = y := ⟨_, rfl⟩
            rw [eg_48] at hP hD
            have hr_49 : pRow g_48 := eg_48 ▸ pRow_put (v := v_7) ha2_1 hv_7
            replace hP : va_P D vwCl [wO q0 1 [.ref q1, .ref er, .ref q2, .ref q3, .ref q4, .ref h0, .int (nI ql), .int qo], wI (cy 1) q2 24 (g_48), wO h0 4 [.ref h1, .ref h2, .ref h3, .ref h4, .ref h5, .ref h6, .ref h7, .ref h8, .ref h9, .ref h10, .ref h11, hv0, hv1, hv2, hv3, hv4], wI (cy 1) h7 48 (fx), wI (cy 1) h1 4 (fc), (er, .inl (cy 4, 4, .inr (.inr (.inr (.inr (eF (ea 0) (ea 1) (ea 2) (ea 3))))))), wO (ea 0) 2 [.ref (eg 0), .ref (ef 0), .int (et 0), .int (nI (el 0)), .int (nI (ei 0))], wI (cy 1) (eg 0) 10 (gc 0), wI (cy 1) (ef 0) 7 (xc 0), wI (cy 1) (ef 1) 7 (xc 1), wO (ea 2) 2 [.ref (eg 2), .ref (ef 2), .int (et 2), .int (nI (el 2)), .int (nI (ei 2))], wI (cy 1) (eg 2) 10 (gc 2), wI (cy 1) (ef 2) 7 (xc 2), wO (ea 3) 2 [.ref (eg 3), .ref (ef 3), .int (et 3), .int (nI (el 3)), .int (nI (ei 3))], wI (cy 1) (eg 3) 10 (gc 3), wI (cy 1) (ef 3) 7 (xc 3), wO (ea 1) 2 [.ref (eg 1), .ref (ef 1), .int (et 1), .int (nI ((el 1))), .int (nI ((ei 1)))], wI (cy 1) (eg 1) 10 (gc 1)] H := hP
            replace hD : va_D A [wO q0 1 [.ref q1, .ref er, .ref q2, .ref q3, .ref q4, .ref h0, .int (nI ql), .int qo], wI (cy 1) q2 24 (g_48), wO h0 4 [.ref h1, .ref h2, .ref h3, .ref h4, .ref h5, .ref h6, .ref h7, .ref h8, .ref h9, .ref h10, .ref h11, hv0, hv1, hv2, hv3, hv4], wI (cy 1) h7 48 (fx), wI (cy 1) h1 4 (fc), (er, .inl (cy 4, 4, .inr (.inr (.inr (.inr (eF (ea 0) (ea 1) (ea 2) (ea 3))))))), wO (ea 0) 2 [.ref (eg 0), .ref (ef 0), .int (et 0), .int (nI (el 0)), .int (nI (ei 0))], wI (cy 1) (eg 0) 10 (gc 0), wI (cy 1) (ef 0) 7 (xc 0), wI (cy 1) (ef 1) 7 (xc 1), wO (ea 2) 2 [.ref (eg 2), .ref (ef 2), .int (et 2), .int (nI (el 2)), .int (nI (ei 2))], wI (cy 1) (eg 2) 10 (gc 2), wI (cy 1) (ef 2) 7 (xc 2), wO (ea 3) 2 [.ref (eg 3), .ref (ef 3), .int (et 3), .int (nI (el 3)), .int (nI (ei 3))], wI (cy 1) (eg 3) 10 (gc 3), wI (cy 1) (ef 3) 7 (xc 3), wO (ea 1) 2 [.ref (eg 1), .ref (ef 1), .int (et 1), .int (nI ((el 1))), .int (nI ((ei 1)))], wI (cy 1) (eg 1) 10 (gc 1)] := hD
            refine lv_iinc (v := 2) (lv' := [(3, .int 2), (5, .ref (ea 1)), (4, .int (nI v_7)), (0, .ref q0), (1, .int (nI dp)), (2, .int (nI wd))]) hx hb dX1_goOn_89 hl (k := 2) rfl (by decide) (by decide) rfl (fun ls hl => ?_)
            refine lv_goto (tgt := 2) hx hb dX1_goOn_92 (by decide) ?_
            exact ih1  2 g_48 hr_49 (by omega) (pt_put (Lp := fun c9 => nxL (gc c9) dp wd (Lp c9)) hf1_1 (by omega) (by decide) (by rw [nx_0 (bR_f f_44 c_42)]; exact (pt_at (hpt 1 (by omega)) (hf2_1 (dp * 4 + 1) (by omega)) ev_7 (by omega) (by omega))) eg_48) (pt_keep (b := (dp + 1) * 4) (i := 1) hf2_1 (by omega) (by omega) eg_48) (by omega) _ _ (hP.sub [0, 1, 2, 3, 4, 5, 6, 7, 8, 16, 17, 9, 10, 11, 12, 13, 14, 15] rfl) (hD.sub [0, 1, 2, 3, 4, 5, 6, 7, 8, 16, 17, 9, 10, 11, 12, 13, 14, 15] (by decide +kernel) rfl) hS ls (lv_sub hl [0, 3, 4, 5] rfl)
          · refine lv_ldc (v := 262144) hx hb hown (hg _ m_1162) dX1_goOn_45 ?_
            refine lv_aload hx hb dX1_goOn_47 (lv_at hl 0 rfl) ?_
            refine va_get (D := D) (ci := 2) (v := .int (et 1)) (C := RX2) (T := TX2) (N := 5) hx hb hg i_X2 hown hK hP 16 rfl rfl 2 (by decide) (hg _ m_517) (fun _ h9 => h9) rfl dX1_goOn_49 ?_
            refine lv_if_eq (tgt := 65) hx hb dX1_goOn_52 (by decide) (fun c_52 => ?_) (fun c_52 => ?_)
            · refine lv_aload_n hx hb dX1_goOn_65 rfl (lv_at hl 3 rfl) ?_
              refine lv_iload hx hb dX1_goOn_66 (lv_at hl 1 rfl) ?_
              refine lv_iload_n hx hb dX1_goOn_68 rfl (lv_at hl 5 rfl) ?_
              refine x_callVi (q := (RX1, TX1, 8)) (ci := 1) (q0 := 0) (wr := [wI (cy 1) q2 24 (fa1_1), wI (cy 1) h1 4 (fc), (er, .inl (cy 4, 4, .inr (.inr (.inr (.inr (eF (ea 0) (ea 1) (ea 2) (ea 3))))))), wO (ea 0) 2 [.ref (eg 0), .ref (ef 0), .int (et 0), .int (nI (el 0)), .int (nI (ei 0))], wI (cy 1) (eg 0) 10 (gc 0), wI (cy 1) (ef 0) 7 (xc 0), wI (cy 1) (ef 1) 7 (xc 1), wO (ea 2) 2 [.ref (eg 2), .ref (ef 2), .int (et 2), .int (nI (el 2)), .int (nI (ei 2))], wI (cy 1) (eg 2) 10 (gc 2), wI (cy 1) (ef 2) 7 (xc 2), wO (ea 3) 2 [.ref (eg 3), .ref (ef 3), .int (et 3), .int (nI (el 3)), .int (nI (ei 3))], wI (cy 1) (eg 3) 10 (gc 3), wI (cy 1) (ef 3) 7 (xc 3), wO (ea 1) 2 [.ref (eg 1), .ref (ef 1), .int (et 1), .int (nI ((el 1))), .int (nI ((ei 1)))], wI (cy 1) (eg 1) 10 (gc 1)]) (rest := [.int 262144]) ⟨hx, hb, hml, hown, hg, hl.1⟩ k_X1_81 (s_straightPath l D cy q0 q1 q2 q3 q4 er ql qo h0 h1 h2 h3 h4 h5 h6 h7 h8 h9 h10 h11 hv0 hv1 hv2 hv3 hv4 fx v_7 wd (hnx) (hv_7) (by omega)) E0_blind hK hP hD hS hA [0, 2, 3] [1, 4, 5, 6, 7, 8, 9, 10, 11, 12, 13, 14, 15, 16, 17] ⟨rfl, rfl, by decide +kernel, by decide +kernel, by decide +kernel⟩ rfl rfl (fun _ _ _ => trivial) dX1_goOn_69 rfl rfl (Nat.le_of_ble_eq_true rfl) ⟨Nat.le_of_ble_eq_true rfl, Nat.le_of_ble_eq_true rfl⟩ ⟨Nat.le_of_ble_eq_true rfl, Nat.le_of_ble_eq_true rfl⟩ (fun zr50 zu50 H locs hw50 hP9 hD9 hS9 => ?_)
              clear hP hD hS
              obtain ⟨k_51, rfl⟩ : ∃ z, z = zu50 := ⟨_, rfl⟩
              refine reW [wI (cy 1) q2 24 (fa1_1), wI (cy 1) h1 4 (fc), (er, .inl (cy 4, 4, .inr (.inr (.inr (.inr (eF (ea 0) (ea 1) (ea 2) (ea 3))))))), wO (ea 0) 2 [.ref (eg 0), .ref (ef 0), .int (et 0), .int (nI (el 0)), .int (nI (ei 0))], wI (cy 1) (eg 0) 10 (gc 0), wI (cy 1) (ef 0) 7 (xc 0), wI (cy 1) (ef 1) 7 (xc 1), wO (ea 2) 2 [.ref (eg 2), .ref (ef 2), .int (et 2), .int (nI (el 2)), .int (nI (ei 2))], wI (cy 1) (eg 2) 10 (gc 2), wI (cy 1) (ef 2) 7 (xc 2), wO (ea 3) 2 [.ref (eg 3), .ref (ef 3), .int (et 3), .int (nI (el 3)), .int (nI (ei 3))], wI (cy 1) (eg 3) 10 (gc 3), wI (cy 1) (ef 3) 7 (xc 3), wO (ea 1) 2 [.ref (eg 1), .ref (ef 1), .int (et 1), .int (nI ((el 1))), .int (nI ((ei 1)))], wI (cy 1) (eg 1) 10 (gc 1), wO q0 1 [.ref q1, .ref er, .ref q2, .ref q3, .ref q4, .ref h0, .int (nI ql), .int qo], wO h0 4 [.ref h1, .ref h2, .ref h3, .ref h4, .ref h5, .ref h6, .ref h7, .ref h8, .ref h9, .ref h10, .ref h11, hv0, hv1, hv2, hv3, hv4], wI (cy 1) h7 48 (fx)] hP9 hD9 hS9 (fun hP hD hS => ?_)
              clear hP9 hD9 hS9
              refine W.widen (k := 0) (n := 0) (Nat.le_of_ble_eq_true rfl) (Nat.le_of_ble_eq_true rfl) ?_
              replace hw50 : (zr50 = nI k_51) ∧ (k_51 ≤ 5) ∧ (k_51 = nC9 fx (dg9 v_7 0) wd) := hw50
              obtain ⟨f_52, f_53, f_54⟩ := hw50
              subst f_52
              refine lv_ior hx hb dX1_goOn_72 ?_
              refine lv_topi (fun x_55 ex_55 => ?_)
              have hlt9 : k_51 < 262144 := by omega
              obtain rfl : x_55 = nI (262144 + k_51) := ex_55.trans (or_ans hlt9)
              have hpk_56 : pOK (262144 + k_51) := pOK_up (pOK_small (by omega)) hlt9
              refine lv_istore (lv' := [(4, .int (nI (262144 + k_51))), (5, .ref (ea 1)), (3, .int 1), (0, .ref q0), (1, .int (nI dp)), (2, .int (nI wd))]) hx hb dX1_goOn_73 hl (by decide) rfl (fun ls hl => ?_)
              refine lv_aload_n hx hb dX1_goOn_75 rfl (lv_at hl 3 rfl) ?_
              refine va_get (D := D) (ci := 1) (v := .ref q2) (C := RX1) (T := TX1) (N := 8) hx hb hg i_X1 hown hK hP 15 rfl rfl 2 (by decide) (hg _ m_555) (fun _ h9 => h9) rfl dX1_goOn_76 ?_
              refine lv_iload_n hx hb dX1_goOn_79 rfl (lv_at hl 4 rfl) ?_
              refine lv_iconst (v := 1) hx hb dX1_goOn_80 (by decide) ?_
              refine lv_iadd hx hb dX1_goOn_81 ?_
              refine lv_topi (fun y_57 hy_57 => ?_)
              obtain rfl : y_57 = nI (dp + 1) := hy_57.trans (nI_add dp 1)
              refine lv_iconst (v := 4) hx hb dX1_goOn_82 (by decide) ?_
              refine lv_imul hx hb dX1_goOn_83 ?_
              refine lv_topi (fun y_58 hy_58 => ?_)
              obtain rfl : y_58 = nI ((dp + 1) * 4) := hy_58.trans (pk_mul ((dp + 1)) 4)
              refine lv_iload_n hx hb dX1_goOn_84 rfl (lv_at hl 2 rfl) ?_
              refine lv_iadd hx hb dX1_goOn_85 ?_
              refine lv_topi (fun y_59 hy_59 => ?_)
              obtain rfl : y_59 = nI (((dp + 1) * 4) + 1) := hy_59.trans (nI_add (((dp + 1) * 4)) 1)
              refine lv_iload hx hb dX1_goOn_86 (lv_at hl 0 rfl) ?_
              refine va_iast hx hb hK hP hD hS 0 1 rfl rfl (vp_in_nI (by omega) (by decide)) dX1_goOn_88 (fun H locs hP9 hD9 hS9 => ?_)
              clear hP hD hS
              have hP := hP9
              have hD := hD9
              have hS := hS9
              clear hP9 hD9 hS9
              obtain ⟨g_60, eg_60⟩ : ∃ y, upd fa1_1 (nI (((dp + 1) * 4) + 1) : Int32).toNatClampNeg (nI (262144 + k_51)) = y := ⟨_, rfl⟩
              rw [eg_60] at hP hD
              have hr_61 : pRow g_60 := eg_60 ▸ pRow_put (v := (262144 + k_51)) ha2_1 hpk_56
              replace hP : va_P D vwCl [wI (cy 1) q2 24 (g_60), wI (cy 1) h1 4 (fc), (er, .inl (cy 4, 4, .inr (.inr (.inr (.inr (eF (ea 0) (ea 1) (ea 2) (ea 3))))))), wO (ea 0) 2 [.ref (eg 0), .ref (ef 0), .int (et 0), .int (nI (el 0)), .int (nI (ei 0))], wI (cy 1) (eg 0) 10 (gc 0), wI (cy 1) (ef 0) 7 (xc 0), wI (cy 1) (ef 1) 7 (xc 1), wO (ea 2) 2 [.ref (eg 2), .ref (ef 2), .int (et 2), .int (nI (el 2)), .int (nI (ei 2))], wI (cy 1) (eg 2) 10 (gc 2), wI (cy 1) (ef 2) 7 (xc 2), wO (ea 3) 2 [.ref (eg 3), .ref (ef 3), .int (et 3), .int (nI (el 3)), .int (nI (ei 3))], wI (cy 1) (eg 3) 10 (gc 3), wI (cy 1) (ef 3) 7 (xc 3), wO (ea 1) 2 [.ref (eg 1), .ref (ef 1), .int (et 1), .int (nI ((el 1))), .int (nI ((ei 1)))], wI (cy 1) (eg 1) 10 (gc 1), wO q0 1 [.ref q1, .ref er, .ref q2, .ref q3, .ref q4, .ref h0, .int (nI ql), .int qo], wO h0 4 [.ref h1, .ref h2, .ref h3, .ref h4, .ref h5, .ref h6, .ref h7, .ref h8, .ref h9, .ref h10, .ref h11, hv0, hv1, hv2, hv3, hv4], wI (cy 1) h7 48 (fx)] H := hP
              replace hD : va_D A [wI (cy 1) q2 24 (g_60), wI (cy 1) h1 4 (fc), (er, .inl (cy 4, 4, .inr (.inr (.inr (.inr (eF (ea 0) (ea 1) (ea 2) (ea 3))))))), wO (ea 0) 2 [.ref (eg 0), .ref (ef 0), .int (et 0), .int (nI (el 0)), .int (nI (ei 0))], wI (cy 1) (eg 0) 10 (gc 0), wI (cy 1) (ef 0) 7 (xc 0), wI (cy 1) (ef 1) 7 (xc 1), wO (ea 2) 2 [.ref (eg 2), .ref (ef 2), .int (et 2), .int (nI (el 2)), .int (nI (ei 2))], wI (cy 1) (eg 2) 10 (gc 2), wI (cy 1) (ef 2) 7 (xc 2), wO (ea 3) 2 [.ref (eg 3), .ref (ef 3), .int (et 3), .int (nI (el 3)), .int (nI (ei 3))], wI (cy 1) (eg 3) 10 (gc 3), wI (cy 1) (ef 3) 7 (xc 3), wO (ea 1) 2 [.ref (eg 1), .ref (ef 1), .int (et 1), .int (nI ((el 1))), .int (nI ((ei 1)))], wI (cy 1) (eg 1) 10 (gc 1), wO q0 1 [.ref q1, .ref er, .ref q2, .ref q3, .ref q4, .ref h0, .int (nI ql), .int qo], wO h0 4 [.ref h1, .ref h2, .ref h3, .ref h4, .ref h5, .ref h6, .ref h7, .ref h8, .ref h9, .ref h10, .ref h11, hv0, hv1, hv2, hv3, hv4], wI (cy 1) h7 48 (fx)] := hD
              refine lv_iinc (v := 2) (lv' := [(3, .int 2), (4, .int (nI (262144 + k_51))), (5, .ref (ea 1)), (0, .ref q0), (1, .int (nI dp)), (2, .int (nI wd))]) hx hb dX1_goOn_89 hl (k := 2) rfl (by decide) (by decide) rfl (fun ls hl => ?_)
              refine lv_goto (tgt := 2) hx hb dX1_goOn_92 (by decide) ?_
              exact ih1  2 g_60 hr_61 (by omega) (pt_put (Lp := fun c9 => nxL (gc c9) dp wd (Lp c9)) hf1_1 (by omega) (by decide) (by rw [nx_1 (bR_t f_44 c_42)]; exact pt_s (pt_at (hpt 1 (by omega)) (hf2_1 (dp * 4 + 1) (by omega)) ev_7 (by omega) (by omega)) c_52 (by omega) f_54 (by omega)) eg_60) (pt_keep (b := (dp + 1) * 4) (i := 1) hf2_1 (by omega) (by omega) eg_60) (by omega) _ _ (hP.sub [15, 0, 16, 17, 1, 2, 3, 4, 5, 13, 14, 6, 7, 8, 9, 10, 11, 12] rfl) (hD.sub [15, 0, 16, 17, 1, 2, 3, 4, 5, 13, 14, 6, 7, 8, 9, 10, 11, 12] (by decide +kernel) rfl) hS ls (lv_sub hl [0, 3, 4, 5] rfl)
            · refine lv_aload_n hx hb dX1_goOn_55 rfl (lv_at hl 3 rfl) ?_
              refine lv_iload hx hb dX1_goOn_56 (lv_at hl 1 rfl) ?_
              refine lv_iload_n hx hb dX1_goOn_58 rfl (lv_at hl 5 rfl) ?_
              refine x_callVi (q := (RX1, TX1, 8)) (ci := 1) (q0 := 0) (wr := [wI (cy 1) q2 24 (fa1_1), (er, .inl (cy 4, 4, .inr (.inr (.inr (.inr (eF (ea 0) (ea 1) (ea 2) (ea 3))))))), wO (ea 0) 2 [.ref (eg 0), .ref (ef 0), .int (et 0), .int (nI (el 0)), .int (nI (ei 0))], wI (cy 1) (eg 0) 10 (gc 0), wI (cy 1) (ef 0) 7 (xc 0), wI (cy 1) (ef 1) 7 (xc 1), wO (ea 2) 2 [.ref (eg 2), .ref (ef 2), .int (et 2), .int (nI (el 2)), .int (nI (ei 2))], wI (cy 1) (eg 2) 10 (gc 2), wI (cy 1) (ef 2) 7 (xc 2), wO (ea 3) 2 [.ref (eg 3), .ref (ef 3), .int (et 3), .int (nI (el 3)), .int (nI (ei 3))], wI (cy 1) (eg 3) 10 (gc 3), wI (cy 1) (ef 3) 7 (xc 3), wO (ea 1) 2 [.ref (eg 1), .ref (ef 1), .int (et 1), .int (nI ((el 1))), .int (nI ((ei 1)))], wI (cy 1) (eg 1) 10 (gc 1)]) (rest := [.int 262144]) ⟨hx, hb, hml, hown, hg, hl.1⟩ k_X1_77 (s_turnedPath l D cy q0 q1 q2 q3 q4 er ql qo h0 h1 h2 h3 h4 h5 h6 h7 h8 h9 h10 h11 hv0 hv1 hv2 hv3 hv4 fx fc c0 c1 c2 c3 v_7 wd (hnx) (hcn) (by omega) (by omega) (by omega) (by omega) (hv_7) (by omega)) E0_blind hK hP hD hS hA [0, 2, 3, 4] [1, 5, 6, 7, 8, 9, 10, 11, 12, 13, 14, 15, 16, 17] ⟨rfl, rfl, by decide +kernel, by decide +kernel, by decide +kernel⟩ rfl rfl (fun _ _ _ => trivial) dX1_goOn_59 rfl rfl (Nat.le_of_ble_eq_true rfl) ⟨Nat.le_of_ble_eq_true rfl, Nat.le_of_ble_eq_true rfl⟩ ⟨Nat.le_of_ble_eq_true rfl, Nat.le_of_ble_eq_true rfl⟩ (fun zr62 zu62 H locs hw62 hP9 hD9 hS9 => ?_)
              clear hP hD hS
              obtain ⟨k_63, rfl⟩ : ∃ z, z = zu62 := ⟨_, rfl⟩
              refine reW [wI (cy 1) q2 24 (fa1_1), (er, .inl (cy 4, 4, .inr (.inr (.inr (.inr (eF (ea 0) (ea 1) (ea 2) (ea 3))))))), wO (ea 0) 2 [.ref (eg 0), .ref (ef 0), .int (et 0), .int (nI (el 0)), .int (nI (ei 0))], wI (cy 1) (eg 0) 10 (gc 0), wI (cy 1) (ef 0) 7 (xc 0), wI (cy 1) (ef 1) 7 (xc 1), wO (ea 2) 2 [.ref (eg 2), .ref (ef 2), .int (et 2), .int (nI (el 2)), .int (nI (ei 2))], wI (cy 1) (eg 2) 10 (gc 2), wI (cy 1) (ef 2) 7 (xc 2), wO (ea 3) 2 [.ref (eg 3), .ref (ef 3), .int (et 3), .int (nI (el 3)), .int (nI (ei 3))], wI (cy 1) (eg 3) 10 (gc 3), wI (cy 1) (ef 3) 7 (xc 3), wO (ea 1) 2 [.ref (eg 1), .ref (ef 1), .int (et 1), .int (nI ((el 1))), .int (nI ((ei 1)))], wI (cy 1) (eg 1) 10 (gc 1), wO q0 1 [.ref q1, .ref er, .ref q2, .ref q3, .ref q4, .ref h0, .int (nI ql), .int qo], wO h0 4 [.ref h1, .ref h2, .ref h3, .ref h4, .ref h5, .ref h6, .ref h7, .ref h8, .ref h9, .ref h10, .ref h11, hv0, hv1, hv2, hv3, hv4], wI (cy 1) h7 48 (fx), wI (cy 1) h1 4 (fc)] hP9 hD9 hS9 (fun hP hD hS => ?_)
              clear hP9 hD9 hS9
              refine W.widen (k := 0) (n := 0) (Nat.le_of_ble_eq_true rfl) (Nat.le_of_ble_eq_true rfl) ?_
              replace hw62 : (zr62 = nI k_63) ∧ (pOK k_63) ∧ (k_63 < 262144) ∧ (∀ s9 : Nat, s9 < c3 → dg9 k_63 s9 = dg9 v_7 (nC9 fx s9 wd)) := hw62
              obtain ⟨f_64, f_65, f_66, f_67⟩ := hw62
              subst f_64
              refine lv_goto (tgt := 72) hx hb dX1_goOn_62 (by decide) ?_
              refine lv_ior hx hb dX1_goOn_72 ?_
              refine lv_topi (fun x_68 ex_68 => ?_)
              have hlt9 : k_63 < 262144 := by omega
              obtain rfl : x_68 = nI (262144 + k_63) := ex_68.trans (or_ans hlt9)
              have hpk_69 : pOK (262144 + k_63) := pOK_up (f_65) hlt9
              refine lv_istore (lv' := [(4, .int (nI (262144 + k_63))), (5, .ref (ea 1)), (3, .int 1), (0, .ref q0), (1, .int (nI dp)), (2, .int (nI wd))]) hx hb dX1_goOn_73 hl (by decide) rfl (fun ls hl => ?_)
              refine lv_aload_n hx hb dX1_goOn_75 rfl (lv_at hl 3 rfl) ?_
              refine va_get (D := D) (ci := 1) (v := .ref q2) (C := RX1) (T := TX1) (N := 8) hx hb hg i_X1 hown hK hP 14 rfl rfl 2 (by decide) (hg _ m_555) (fun _ h9 => h9) rfl dX1_goOn_76 ?_
              refine lv_iload_n hx hb dX1_goOn_79 rfl (lv_at hl 4 rfl) ?_
              refine lv_iconst (v := 1) hx hb dX1_goOn_80 (by decide) ?_
              refine lv_iadd hx hb dX1_goOn_81 ?_
              refine lv_topi (fun y_70 hy_70 => ?_)
              obtain rfl : y_70 = nI (dp + 1) := hy_70.trans (nI_add dp 1)
              refine lv_iconst (v := 4) hx hb dX1_goOn_82 (by decide) ?_
              refine lv_imul hx hb dX1_goOn_83 ?_
              refine lv_topi (fun y_71 hy_71 => ?_)
              obtain rfl : y_71 = nI ((dp + 1) * 4) := hy_71.trans (pk_mul ((dp + 1)) 4)
              refine lv_iload_n hx hb dX1_goOn_84 rfl (lv_at hl 2 rfl) ?_
              refine lv_iadd hx hb dX1_goOn_85 ?_
              refine lv_topi (fun y_72 hy_72 => ?_)
              obtain rfl : y_72 = nI (((dp + 1) * 4) + 1) := hy_72.trans (nI_add (((dp + 1) * 4)) 1)
              refine lv_iload hx hb dX1_goOn_86 (lv_at hl 0 rfl) ?_
              refine va_iast hx hb hK hP hD hS 0 1 rfl rfl (vp_in_nI (by omega) (by decide)) dX1_goOn_88 (fun H locs hP9 hD9 hS9 => ?_)
              clear hP hD hS
              have hP := hP9
              have hD := hD9
              have hS := hS9
              clear hP9 hD9 hS9
              obtain ⟨g_73, eg_73⟩ : ∃ y, upd fa1_1 (nI (((dp + 1) * 4) + 1) : Int32).toNatClampNeg (nI (262144 + k_63)) = y := ⟨_, rfl⟩
              rw [eg_73] at hP hD
              have hr_74 : pRow g_73 := eg_73 ▸ pRow_put (v := (262144 + k_63)) ha2_1 hpk_69
              replace hP : va_P D vwCl [wI (cy 1) q2 24 (g_73), (er, .inl (cy 4, 4, .inr (.inr (.inr (.inr (eF (ea 0) (ea 1) (ea 2) (ea 3))))))), wO (ea 0) 2 [.ref (eg 0), .ref (ef 0), .int (et 0), .int (nI (el 0)), .int (nI (ei 0))], wI (cy 1) (eg 0) 10 (gc 0), wI (cy 1) (ef 0) 7 (xc 0), wI (cy 1) (ef 1) 7 (xc 1), wO (ea 2) 2 [.ref (eg 2), .ref (ef 2), .int (et 2), .int (nI (el 2)), .int (nI (ei 2))], wI (cy 1) (eg 2) 10 (gc 2), wI (cy 1) (ef 2) 7 (xc 2), wO (ea 3) 2 [.ref (eg 3), .ref (ef 3), .int (et 3), .int (nI (el 3)), .int (nI (ei 3))], wI (cy 1) (eg 3) 10 (gc 3), wI (cy 1) (ef 3) 7 (xc 3), wO (ea 1) 2 [.ref (eg 1), .ref (ef 1), .int (et 1), .int (nI ((el 1))), .int (nI ((ei 1)))], wI (cy 1) (eg 1) 10 (gc 1), wO q0 1 [.ref q1, .ref er, .ref q2, .ref q3, .ref q4, .ref h0, .int (nI ql), .int qo], wO h0 4 [.ref h1, .ref h2, .ref h3, .ref h4, .ref h5, .ref h6, .ref h7, .ref h8, .ref h9, .ref h10, .ref h11, hv0, hv1, hv2, hv3, hv4], wI (cy 1) h7 48 (fx), wI (cy 1) h1 4 (fc)] H := hP
              replace hD : va_D A [wI (cy 1) q2 24 (g_73), (er, .inl (cy 4, 4, .inr (.inr (.inr (.inr (eF (ea 0) (ea 1) (ea 2) (ea 3))))))), wO (ea 0) 2 [.ref (eg 0), .ref (ef 0), .int (et 0), .int (nI (el 0)), .int (nI (ei 0))], wI (cy 1) (eg 0) 10 (gc 0), wI (cy 1) (ef 0) 7 (xc 0), wI (cy 1) (ef 1) 7 (xc 1), wO (ea 2) 2 [.ref (eg 2), .ref (ef 2), .int (et 2), .int (nI (el 2)), .int (nI (ei 2))], wI (cy 1) (eg 2) 10 (gc 2), wI (cy 1) (ef 2) 7 (xc 2), wO (ea 3) 2 [.ref (eg 3), .ref (ef 3), .int (et 3), .int (nI (el 3)), .int (nI (ei 3))], wI (cy 1) (eg 3) 10 (gc 3), wI (cy 1) (ef 3) 7 (xc 3), wO (ea 1) 2 [.ref (eg 1), .ref (ef 1), .int (et 1), .int (nI ((el 1))), .int (nI ((ei 1)))], wI (cy 1) (eg 1) 10 (gc 1), wO q0 1 [.ref q1, .ref er, .ref q2, .ref q3, .ref q4, .ref h0, .int (nI ql), .int qo], wO h0 4 [.ref h1, .ref h2, .ref h3, .ref h4, .ref h5, .ref h6, .ref h7, .ref h8, .ref h9, .ref h10, .ref h11, hv0, hv1, hv2, hv3, hv4], wI (cy 1) h7 48 (fx), wI (cy 1) h1 4 (fc)] := hD
              refine lv_iinc (v := 2) (lv' := [(3, .int 2), (4, .int (nI (262144 + k_63))), (5, .ref (ea 1)), (0, .ref q0), (1, .int (nI dp)), (2, .int (nI wd))]) hx hb dX1_goOn_89 hl (k := 2) rfl (by decide) (by decide) rfl (fun ls hl => ?_)
              refine lv_goto (tgt := 2) hx hb dX1_goOn_92 (by decide) ?_
              exact ih1  2 g_73 hr_74 (by omega) (pt_put (Lp := fun c9 => nxL (gc c9) dp wd (Lp c9)) hf1_1 (by omega) (by decide) (by rw [nx_1 (bR_t f_44 c_42)]; exact pt_t (pt_at (hpt 1 (by omega)) (hf2_1 (dp * 4 + 1) (by omega)) ev_7 (by omega) (by omega)) c_52 hcA (by omega) (by omega) f_67 (by omega)) eg_73) (pt_keep (b := (dp + 1) * 4) (i := 1) hf2_1 (by omega) (by omega) eg_73) (by omega) _ _ (hP.sub [14, 0, 15, 16, 17, 1, 2, 3, 4, 12, 13, 5, 6, 7, 8, 9, 10, 11] rfl) (hD.sub [14, 0, 15, 16, 17, 1, 2, 3, 4, 12, 13, 5, 6, 7, 8, 9, 10, 11] (by decide +kernel) rfl) hS ls (lv_sub hl [0, 3, 4, 5] rfl)
        · subst hsp
          refine va_aldq hx hb hK hP 5 4 rfl rfl (by unfold vp_in; decide) dX1_goOn_32 ?_
          refine W.eq (g2 := F0 m 33 ls [.ref (ea 2)]) rfl ?_
          refine lv_astore (lv' := [(5, .ref (ea 2)), (4, .int (nI v_7)), (3, .int 2), (0, .ref q0), (1, .int (nI dp)), (2, .int (nI wd))]) hx hb dX1_goOn_33 hl (by decide) rfl (fun ls hl => ?_)
          refine lv_aload hx hb dX1_goOn_35 (lv_at hl 0 rfl) ?_
          refine lv_iload_n hx hb dX1_goOn_37 rfl (lv_at hl 4 rfl) ?_
          refine lv_iload_n hx hb dX1_goOn_38 rfl (lv_at hl 5 rfl) ?_
          refine x_callVi (q := (RX2, TX2, 5)) (ci := 2) (q0 := 0) (wr := [wO q0 1 [.ref q1, .ref er, .ref q2, .ref q3, .ref q4, .ref h0, .int (nI ql), .int qo], wI (cy 1) q2 24 (fa1_1), wO h0 4 [.ref h1, .ref h2, .ref h3, .ref h4, .ref h5, .ref h6, .ref h7, .ref h8, .ref h9, .ref h10, .ref h11, hv0, hv1, hv2, hv3, hv4], wI (cy 1) h7 48 (fx), wI (cy 1) h1 4 (fc), (er, .inl (cy 4, 4, .inr (.inr (.inr (.inr (eF (ea 0) (ea 1) (ea 2) (ea 3))))))), wO (ea 0) 2 [.ref (eg 0), .ref (ef 0), .int (et 0), .int (nI (el 0)), .int (nI (ei 0))], wI (cy 1) (eg 0) 10 (gc 0), wI (cy 1) (ef 0) 7 (xc 0), wO (ea 1) 2 [.ref (eg 1), .ref (ef 1), .int (et 1), .int (nI (el 1)), .int (nI (ei 1))], wI (cy 1) (eg 1) 10 (gc 1), wI (cy 1) (ef 1) 7 (xc 1), wI (cy 1) (ef 2) 7 (xc 2), wO (ea 3) 2 [.ref (eg 3), .ref (ef 3), .int (et 3), .int (nI (el 3)), .int (nI (ei 3))], wI (cy 1) (eg 3) 10 (gc 3), wI (cy 1) (ef 3) 7 (xc 3)]) (rest := []) ⟨hx, hb, hml, hown, hg, hl.1⟩ k_X1_70 (s_comesBack l D cy (ea 2) (eg 2) (ef 2) (et 2) ((el 2)) ((ei 2)) (gc 2) dp (nI wd) (by omega)) E0_blind hK hP hD hS hA [12, 13] [0, 1, 2, 3, 4, 5, 6, 7, 8, 9, 10, 11, 14, 15, 16, 17] ⟨rfl, rfl, by decide +kernel, by decide +kernel, by decide +kernel⟩ rfl rfl (fun _ _ _ => trivial) dX1_goOn_39 rfl rfl (Nat.le_of_ble_eq_true rfl) ⟨Nat.le_of_ble_eq_true rfl, Nat.le_of_ble_eq_true rfl⟩ ⟨Nat.le_of_ble_eq_true rfl, Nat.le_of_ble_eq_true rfl⟩ (fun zr75 zu75 H locs hw75 hP9 hD9 hS9 => ?_)
          clear hP hD hS
          refine reW [wO q0 1 [.ref q1, .ref er, .ref q2, .ref q3, .ref q4, .ref h0, .int (nI ql), .int qo], wI (cy 1) q2 24 (fa1_1), wO h0 4 [.ref h1, .ref h2, .ref h3, .ref h4, .ref h5, .ref h6, .ref h7, .ref h8, .ref h9, .ref h10, .ref h11, hv0, hv1, hv2, hv3, hv4], wI (cy 1) h7 48 (fx), wI (cy 1) h1 4 (fc), (er, .inl (cy 4, 4, .inr (.inr (.inr (.inr (eF (ea 0) (ea 1) (ea 2) (ea 3))))))), wO (ea 0) 2 [.ref (eg 0), .ref (ef 0), .int (et 0), .int (nI (el 0)), .int (nI (ei 0))], wI (cy 1) (eg 0) 10 (gc 0), wI (cy 1) (ef 0) 7 (xc 0), wO (ea 1) 2 [.ref (eg 1), .ref (ef 1), .int (et 1), .int (nI (el 1)), .int (nI (ei 1))], wI (cy 1) (eg 1) 10 (gc 1), wI (cy 1) (ef 1) 7 (xc 1), wI (cy 1) (ef 2) 7 (xc 2), wO (ea 3) 2 [.ref (eg 3), .ref (ef 3), .int (et 3), .int (nI (el 3)), .int (nI (ei 3))], wI (cy 1) (eg 3) 10 (gc 3), wI (cy 1) (ef 3) 7 (xc 3), wO (ea 2) 2 [.ref (eg 2), .ref (ef 2), .int (et 2), .int (nI ((el 2))), .int (nI ((ei 2)))], wI (cy 1) (eg 2) 10 (gc 2)] hP9 hD9 hS9 (fun hP hD hS => ?_)
          clear hP9 hD9 hS9
          refine W.widen (k := 0) (n := 0) (Nat.le_of_ble_eq_true rfl) (Nat.le_of_ble_eq_true rfl) ?_
          replace hw75 : (zr75 = 0 ∨ zr75 = 1) ∧ (bR zr75 (gB ((gc 2) dp) (nI wd))) := hw75
          obtain ⟨f_76, f_77⟩ := hw75
          refine lv_if_eq (tgt := 75) hx hb dX1_goOn_42 (by decide) (fun c_42 => ?_) (fun c_42 => ?_)
          · refine lv_aload_n hx hb dX1_goOn_75 rfl (lv_at hl 3 rfl) ?_
            refine va_get (D := D) (ci := 1) (v := .ref q2) (C := RX1) (T := TX1) (N := 8) hx hb hg i_X1 hown hK hP 0 rfl rfl 2 (by decide) (hg _ m_555) (fun _ h9 => h9) rfl dX1_goOn_76 ?_
            refine lv_iload_n hx hb dX1_goOn_79 rfl (lv_at hl 4 rfl) ?_
            refine lv_iconst (v := 1) hx hb dX1_goOn_80 (by decide) ?_
            refine lv_iadd hx hb dX1_goOn_81 ?_
            refine lv_topi (fun y_78 hy_78 => ?_)
            obtain rfl : y_78 = nI (dp + 1) := hy_78.trans (nI_add dp 1)
            refine lv_iconst (v := 4) hx hb dX1_goOn_82 (by decide) ?_
            refine lv_imul hx hb dX1_goOn_83 ?_
            refine lv_topi (fun y_79 hy_79 => ?_)
            obtain rfl : y_79 = nI ((dp + 1) * 4) := hy_79.trans (pk_mul ((dp + 1)) 4)
            refine lv_iload_n hx hb dX1_goOn_84 rfl (lv_at hl 2 rfl) ?_
            refine lv_iadd hx hb dX1_goOn_85 ?_
            refine lv_topi (fun y_80 hy_80 => ?_)
            obtain rfl : y_80 = nI (((dp + 1) * 4) + 2) := hy_80.trans (nI_add (((dp + 1) * 4)) 2)
            refine lv_iload hx hb dX1_goOn_86 (lv_at hl 1 rfl) ?_
            refine va_iast hx hb hK hP hD hS 1 1 rfl rfl (vp_in_nI (by omega) (by decide)) dX1_goOn_88 (fun H locs hP9 hD9 hS9 => ?_)
            clear hP hD hS
            have hP := hP9
            have hD := hD9
            have hS := hS9
            clear hP9 hD9 hS9
            obtain ⟨g_81, eg_81⟩ : ∃ y, upd fa1_1 (nI (((dp + 1) * 4) + 2) : Int32).toNatClampNeg (nI v_7) = y := ⟨_, rfl⟩
            rw [eg_81] at hP hD
            have hr_82 : pRow g_81 := eg_81 ▸ pRow_put (v := v_7) ha2_1 hv_7
            replace hP : va_P D vwCl [wO q0 1 [.ref q1, .ref er, .ref q2, .ref q3, .ref q4, .ref h0, .int (nI ql), .int qo], wI (cy 1) q2 24 (g_81), wO h0 4 [.ref h1, .ref h2, .ref h3, .ref h4, .ref h5, .ref h6, .ref h7, .ref h8, .ref h9, .ref h10, .ref h11, hv0, hv1, hv2, hv3, hv4], wI (cy 1) h7 48 (fx), wI (cy 1) h1 4 (fc), (er, .inl (cy 4, 4, .inr (.inr (.inr (.inr (eF (ea 0) (ea 1) (ea 2) (ea 3))))))), wO (ea 0) 2 [.ref (eg 0), .ref (ef 0), .int (et 0), .int (nI (el 0)), .int (nI (ei 0))], wI (cy 1) (eg 0) 10 (gc 0), wI (cy 1) (ef 0) 7 (xc 0), wO (ea 1) 2 [.ref (eg 1), .ref (ef 1), .int (et 1), .int (nI (el 1)), .int (nI (ei 1))], wI (cy 1) (eg 1) 10 (gc 1), wI (cy 1) (ef 1) 7 (xc 1), wI (cy 1) (ef 2) 7 (xc 2), wO (ea 3) 2 [.ref (eg 3), .ref (ef 3), .int (et 3), .int (nI (el 3)), .int (nI (ei 3))], wI (cy 1) (eg 3) 10 (gc 3), wI (cy 1) (ef 3) 7 (xc 3), wO (ea 2) 2 [.ref (eg 2), .ref (ef 2), .int (et 2), .int (nI ((el 2))), .int (nI ((ei 2)))], wI (cy 1) (eg 2) 10 (gc 2)] H := hP
            replace hD : va_D A [wO q0 1 [.ref q1, .ref er, .ref q2, .ref q3, .ref q4, .ref h0, .int (nI ql), .int qo], wI (cy 1) q2 24 (g_81), wO h0 4 [.ref h1, .ref h2, .ref h3, .ref h4, .ref h5, .ref h6, .ref h7, .ref h8, .ref h9, .ref h10, .ref h11, hv0, hv1, hv2, hv3, hv4], wI (cy 1) h7 48 (fx), wI (cy 1) h1 4 (fc), (er, .inl (cy 4, 4, .inr (.inr (.inr (.inr (eF (ea 0) (ea 1) (ea 2) (ea 3))))))), wO (ea 0) 2 [.ref (eg 0), .ref (ef 0), .int (et 0), .int (nI (el 0)), .int (nI (ei 0))], wI (cy 1) (eg 0) 10 (gc 0), wI (cy 1) (ef 0) 7 (xc 0), wO (ea 1) 2 [.ref (eg 1), .ref (ef 1), .int (et 1), .int (nI (el 1)), .int (nI (ei 1))], wI (cy 1) (eg 1) 10 (gc 1), wI (cy 1) (ef 1) 7 (xc 1), wI (cy 1) (ef 2) 7 (xc 2), wO (ea 3) 2 [.ref (eg 3), .ref (ef 3), .int (et 3), .int (nI (el 3)), .int (nI (ei 3))], wI (cy 1) (eg 3) 10 (gc 3), wI (cy 1) (ef 3) 7 (xc 3), wO (ea 2) 2 [.ref (eg 2), .ref (ef 2), .int (et 2), .int (nI ((el 2))), .int (nI ((ei 2)))], wI (cy 1) (eg 2) 10 (gc 2)] := hD
            refine lv_iinc (v := 3) (lv' := [(3, .int 3), (5, .ref (ea 2)), (4, .int (nI v_7)), (0, .ref q0), (1, .int (nI dp)), (2, .int (nI wd))]) hx hb dX1_goOn_89 hl (k := 2) rfl (by decide) (by decide) rfl (fun ls hl => ?_)
            refine lv_goto (tgt := 2) hx hb dX1_goOn_92 (by decide) ?_
            exact ih1  3 g_81 hr_82 (by omega) (pt_put (Lp := fun c9 => nxL (gc c9) dp wd (Lp c9)) hf1_1 (by omega) (by decide) (by rw [nx_0 (bR_f f_77 c_42)]; exact (pt_at (hpt 2 (by omega)) (hf2_1 (dp * 4 + 2) (by omega)) ev_7 (by omega) (by omega))) eg_81) (pt_keep (b := (dp + 1) * 4) (i := 2) hf2_1 (by omega) (by omega) eg_81) (by omega) _ _ (hP.sub [0, 1, 2, 3, 4, 5, 6, 7, 8, 9, 10, 11, 16, 17, 12, 13, 14, 15] rfl) (hD.sub [0, 1, 2, 3, 4, 5, 6, 7, 8, 9, 10, 11, 16, 17, 12, 13, 14, 15] (by decide +kernel) rfl) hS ls (lv_sub hl [0, 3, 4, 5] rfl)
          · refine lv_ldc (v := 262144) hx hb hown (hg _ m_1162) dX1_goOn_45 ?_
            refine lv_aload hx hb dX1_goOn_47 (lv_at hl 0 rfl) ?_
            refine va_get (D := D) (ci := 2) (v := .int (et 2)) (C := RX2) (T := TX2) (N := 5) hx hb hg i_X2 hown hK hP 16 rfl rfl 2 (by decide) (hg _ m_517) (fun _ h9 => h9) rfl dX1_goOn_49 ?_
            refine lv_if_eq (tgt := 65) hx hb dX1_goOn_52 (by decide) (fun c_52 => ?_) (fun c_52 => ?_)
            · refine lv_aload_n hx hb dX1_goOn_65 rfl (lv_at hl 3 rfl) ?_
              refine lv_iload hx hb dX1_goOn_66 (lv_at hl 1 rfl) ?_
              refine lv_iload_n hx hb dX1_goOn_68 rfl (lv_at hl 5 rfl) ?_
              refine x_callVi (q := (RX1, TX1, 8)) (ci := 1) (q0 := 0) (wr := [wI (cy 1) q2 24 (fa1_1), wI (cy 1) h1 4 (fc), (er, .inl (cy 4, 4, .inr (.inr (.inr (.inr (eF (ea 0) (ea 1) (ea 2) (ea 3))))))), wO (ea 0) 2 [.ref (eg 0), .ref (ef 0), .int (et 0), .int (nI (el 0)), .int (nI (ei 0))], wI (cy 1) (eg 0) 10 (gc 0), wI (cy 1) (ef 0) 7 (xc 0), wO (ea 1) 2 [.ref (eg 1), .ref (ef 1), .int (et 1), .int (nI (el 1)), .int (nI (ei 1))], wI (cy 1) (eg 1) 10 (gc 1), wI (cy 1) (ef 1) 7 (xc 1), wI (cy 1) (ef 2) 7 (xc 2), wO (ea 3) 2 [.ref (eg 3), .ref (ef 3), .int (et 3), .int (nI (el 3)), .int (nI (ei 3))], wI (cy 1) (eg 3) 10 (gc 3), wI (cy 1) (ef 3) 7 (xc 3), wO (ea 2) 2 [.ref (eg 2), .ref (ef 2), .int (et 2), .int (nI ((el 2))), .int (nI ((ei 2)))], wI (cy 1) (eg 2) 10 (gc 2)]) (rest := [.int 262144]) ⟨hx, hb, hml, hown, hg, hl.1⟩ k_X1_81 (s_straightPath l D cy q0 q1 q2 q3 q4 er ql qo h0 h1 h2 h3 h4 h5 h6 h7 h8 h9 h10 h11 hv0 hv1 hv2 hv3 hv4 fx v_7 wd (hnx) (hv_7) (by omega)) E0_blind hK hP hD hS hA [0, 2, 3] [1, 4, 5, 6, 7, 8, 9, 10, 11, 12, 13, 14, 15, 16, 17] ⟨rfl, rfl, by decide +kernel, by decide +kernel, by decide +kernel⟩ rfl rfl (fun _ _ _ => trivial) dX1_goOn_69 rfl rfl (Nat.le_of_ble_eq_true rfl) ⟨Nat.le_of_ble_eq_true rfl, Nat.le_of_ble_eq_true rfl⟩ ⟨Nat.le_of_ble_eq_true rfl, Nat.le_of_ble_eq_true rfl⟩ (fun zr83 zu83 H locs hw83 hP9 hD9 hS9 => ?_)
              clear hP hD hS
              obtain ⟨k_84, rfl⟩ : ∃ z, z = zu83 := ⟨_, rfl⟩
              refine reW [wI (cy 1) q2 24 (fa1_1), wI (cy 1) h1 4 (fc), (er, .inl (cy 4, 4, .inr (.inr (.inr (.inr (eF (ea 0) (ea 1) (ea 2) (ea 3))))))), wO (ea 0) 2 [.ref (eg 0), .ref (ef 0), .int (et 0), .int (nI (el 0)), .int (nI (ei 0))], wI (cy 1) (eg 0) 10 (gc 0), wI (cy 1) (ef 0) 7 (xc 0), wO (ea 1) 2 [.ref (eg 1), .ref (ef 1), .int (et 1), .int (nI (el 1)), .int (nI (ei 1))], wI (cy 1) (eg 1) 10 (gc 1), wI (cy 1) (ef 1) 7 (xc 1), wI (cy 1) (ef 2) 7 (xc 2), wO (ea 3) 2 [.ref (eg 3), .ref (ef 3), .int (et 3), .int (nI (el 3)), .int (nI (ei 3))], wI (cy 1) (eg 3) 10 (gc 3), wI (cy 1) (ef 3) 7 (xc 3), wO (ea 2) 2 [.ref (eg 2), .ref (ef 2), .int (et 2), .int (nI ((el 2))), .int (nI ((ei 2)))], wI (cy 1) (eg 2) 10 (gc 2), wO q0 1 [.ref q1, .ref er, .ref q2, .ref q3, .ref q4, .ref h0, .int (nI ql), .int qo], wO h0 4 [.ref h1, .ref h2, .ref h3, .ref h4, .ref h5, .ref h6, .ref h7, .ref h8, .ref h9, .ref h10, .ref h11, hv0, hv1, hv2, hv3, hv4], wI (cy 1) h7 48 (fx)] hP9 hD9 hS9 (fun hP hD hS => ?_)
              clear hP9 hD9 hS9
              refine W.widen (k := 0) (n := 0) (Nat.le_of_ble_eq_true rfl) (Nat.le_of_ble_eq_true rfl) ?_
              replace hw83 : (zr83 = nI k_84) ∧ (k_84 ≤ 5) ∧ (k_84 = nC9 fx (dg9 v_7 0) wd) := hw83
              obtain ⟨f_85, f_86, f_87⟩ := hw83
              subst f_85
              refine lv_ior hx hb dX1_goOn_72 ?_
              refine lv_topi (fun x_88 ex_88 => ?_)
              have hlt9 : k_84 < 262144 := by omega
              obtain rfl : x_88 = nI (262144 + k_84) := ex_88.trans (or_ans hlt9)
              have hpk_89 : pOK (262144 + k_84) := pOK_up (pOK_small (by omega)) hlt9
              refine lv_istore (lv' := [(4, .int (nI (262144 + k_84))), (5, .ref (ea 2)), (3, .int 2), (0, .ref q0), (1, .int (nI dp)), (2, .int (nI wd))]) hx hb dX1_goOn_73 hl (by decide) rfl (fun ls hl => ?_)
              refine lv_aload_n hx hb dX1_goOn_75 rfl (lv_at hl 3 rfl) ?_
              refine va_get (D := D) (ci := 1) (v := .ref q2) (C := RX1) (T := TX1) (N := 8) hx hb hg i_X1 hown hK hP 15 rfl rfl 2 (by decide) (hg _ m_555) (fun _ h9 => h9) rfl dX1_goOn_76 ?_
              refine lv_iload_n hx hb dX1_goOn_79 rfl (lv_at hl 4 rfl) ?_
              refine lv_iconst (v := 1) hx hb dX1_goOn_80 (by decide) ?_
              refine lv_iadd hx hb dX1_goOn_81 ?_
              refine lv_topi (fun y_90 hy_90 => ?_)
              obtain rfl : y_90 = nI (dp + 1) := hy_90.trans (nI_add dp 1)
              refine lv_iconst (v := 4) hx hb dX1_goOn_82 (by decide) ?_
              refine lv_imul hx hb dX1_goOn_83 ?_
              refine lv_topi (fun y_91 hy_91 => ?_)
              obtain rfl : y_91 = nI ((dp + 1) * 4) := hy_91.trans (pk_mul ((dp + 1)) 4)
              refine lv_iload_n hx hb dX1_goOn_84 rfl (lv_at hl 2 rfl) ?_
              refine lv_iadd hx hb dX1_goOn_85 ?_
              refine lv_topi (fun y_92 hy_92 => ?_)
              obtain rfl : y_92 = nI (((dp + 1) * 4) + 2) := hy_92.trans (nI_add (((dp + 1) * 4)) 2)
              refine lv_iload hx hb dX1_goOn_86 (lv_at hl 0 rfl) ?_
              refine va_iast hx hb hK hP hD hS 0 1 rfl rfl (vp_in_nI (by omega) (by decide)) dX1_goOn_88 (fun H locs hP9 hD9 hS9 => ?_)
              clear hP hD hS
              have hP := hP9
              have hD := hD9
              have hS := hS9
              clear hP9 hD9 hS9
              obtain ⟨g_93, eg_93⟩ : ∃ y, upd fa1_1 (nI (((dp + 1) * 4) + 2) : Int32).toNatClampNeg (nI (262144 + k_84)) = y := ⟨_, rfl⟩
              rw [eg_93] at hP hD
              have hr_94 : pRow g_93 := eg_93 ▸ pRow_put (v := (262144 + k_84)) ha2_1 hpk_89
              replace hP : va_P D vwCl [wI (cy 1) q2 24 (g_93), wI (cy 1) h1 4 (fc), (er, .inl (cy 4, 4, .inr (.inr (.inr (.inr (eF (ea 0) (ea 1) (ea 2) (ea 3))))))), wO (ea 0) 2 [.ref (eg 0), .ref (ef 0), .int (et 0), .int (nI (el 0)), .int (nI (ei 0))], wI (cy 1) (eg 0) 10 (gc 0), wI (cy 1) (ef 0) 7 (xc 0), wO (ea 1) 2 [.ref (eg 1), .ref (ef 1), .int (et 1), .int (nI (el 1)), .int (nI (ei 1))], wI (cy 1) (eg 1) 10 (gc 1), wI (cy 1) (ef 1) 7 (xc 1), wI (cy 1) (ef 2) 7 (xc 2), wO (ea 3) 2 [.ref (eg 3), .ref (ef 3), .int (et 3), .int (nI (el 3)), .int (nI (ei 3))], wI (cy 1) (eg 3) 10 (gc 3), wI (cy 1) (ef 3) 7 (xc 3), wO (ea 2) 2 [.ref (eg 2), .ref (ef 2), .int (et 2), .int (nI ((el 2))), .int (nI ((ei 2)))], wI (cy 1) (eg 2) 10 (gc 2), wO q0 1 [.ref q1, .ref er, .ref q2, .ref q3, .ref q4, .ref h0, .int (nI ql), .int qo], wO h0 4 [.ref h1, .ref h2, .ref h3, .ref h4, .ref h5, .ref h6, .ref h7, .ref h8, .ref h9, .ref h10, .ref h11, hv0, hv1, hv2, hv3, hv4], wI (cy 1) h7 48 (fx)] H := hP
              replace hD : va_D A [wI (cy 1) q2 24 (g_93), wI (cy 1) h1 4 (fc), (er, .inl (cy 4, 4, .inr (.inr (.inr (.inr (eF (ea 0) (ea 1) (ea 2) (ea 3))))))), wO (ea 0) 2 [.ref (eg 0), .ref (ef 0), .int (et 0), .int (nI (el 0)), .int (nI (ei 0))], wI (cy 1) (eg 0) 10 (gc 0), wI (cy 1) (ef 0) 7 (xc 0), wO (ea 1) 2 [.ref (eg 1), .ref (ef 1), .int (et 1), .int (nI (el 1)), .int (nI (ei 1))], wI (cy 1) (eg 1) 10 (gc 1), wI (cy 1) (ef 1) 7 (xc 1), wI (cy 1) (ef 2) 7 (xc 2), wO (ea 3) 2 [.ref (eg 3), .ref (ef 3), .int (et 3), .int (nI (el 3)), .int (nI (ei 3))], wI (cy 1) (eg 3) 10 (gc 3), wI (cy 1) (ef 3) 7 (xc 3), wO (ea 2) 2 [.ref (eg 2), .ref (ef 2), .int (et 2), .int (nI ((el 2))), .int (nI ((ei 2)))], wI (cy 1) (eg 2) 10 (gc 2), wO q0 1 [.ref q1, .ref er, .ref q2, .ref q3, .ref q4, .ref h0, .int (nI ql), .int qo], wO h0 4 [.ref h1, .ref h2, .ref h3, .ref h4, .ref h5, .ref h6, .ref h7, .ref h8, .ref h9, .ref h10, .ref h11, hv0, hv1, hv2, hv3, hv4], wI (cy 1) h7 48 (fx)] := hD
              refine lv_iinc (v := 3) (lv' := [(3, .int 3), (4, .int (nI (262144 + k_84))), (5, .ref (ea 2)), (0, .ref q0), (1, .int (nI dp)), (2, .int (nI wd))]) hx hb dX1_goOn_89 hl (k := 2) rfl (by decide) (by decide) rfl (fun ls hl => ?_)
              refine lv_goto (tgt := 2) hx hb dX1_goOn_92 (by decide) ?_
              exact ih1  3 g_93 hr_94 (by omega) (pt_put (Lp := fun c9 => nxL (gc c9) dp wd (Lp c9)) hf1_1 (by omega) (by decide) (by rw [nx_1 (bR_t f_77 c_42)]; exact pt_s (pt_at (hpt 2 (by omega)) (hf2_1 (dp * 4 + 2) (by omega)) ev_7 (by omega) (by omega)) c_52 (by omega) f_87 (by omega)) eg_93) (pt_keep (b := (dp + 1) * 4) (i := 2) hf2_1 (by omega) (by omega) eg_93) (by omega) _ _ (hP.sub [15, 0, 16, 17, 1, 2, 3, 4, 5, 6, 7, 8, 13, 14, 9, 10, 11, 12] rfl) (hD.sub [15, 0, 16, 17, 1, 2, 3, 4, 5, 6, 7, 8, 13, 14, 9, 10, 11, 12] (by decide +kernel) rfl) hS ls (lv_sub hl [0, 3, 4, 5] rfl)
            · refine lv_aload_n hx hb dX1_goOn_55 rfl (lv_at hl 3 rfl) ?_
              refine lv_iload hx hb dX1_goOn_56 (lv_at hl 1 rfl) ?_
              refine lv_iload_n hx hb dX1_goOn_58 rfl (lv_at hl 5 rfl) ?_
              refine x_callVi (q := (RX1, TX1, 8)) (ci := 1) (q0 := 0) (wr := [wI (cy 1) q2 24 (fa1_1), (er, .inl (cy 4, 4, .inr (.inr (.inr (.inr (eF (ea 0) (ea 1) (ea 2) (ea 3))))))), wO (ea 0) 2 [.ref (eg 0), .ref (ef 0), .int (et 0), .int (nI (el 0)), .int (nI (ei 0))], wI (cy 1) (eg 0) 10 (gc 0), wI (cy 1) (ef 0) 7 (xc 0), wO (ea 1) 2 [.ref (eg 1), .ref (ef 1), .int (et 1), .int (nI (el 1)), .int (nI (ei 1))], wI (cy 1) (eg 1) 10 (gc 1), wI (cy 1) (ef 1) 7 (xc 1), wI (cy 1) (ef 2) 7 (xc 2), wO (ea 3) 2 [.ref (eg 3), .ref (ef 3), .int (et 3), .int (nI (el 3)), .int (nI (ei 3))], wI (cy 1) (eg 3) 10 (gc 3), wI (cy 1) (ef 3) 7 (xc 3), wO (ea 2) 2 [.ref (eg 2), .ref (ef 2), .int (et 2), .int (nI ((el 2))), .int (nI ((ei 2)))], wI (cy 1) (eg 2) 10 (gc 2)]) (rest := [.int 262144]) ⟨hx, hb, hml, hown, hg, hl.1⟩ k_X1_77 (s_turnedPath l D cy q0 q1 q2 q3 q4 er ql qo h0 h1 h2 h3 h4 h5 h6 h7 h8 h9 h10 h11 hv0 hv1 hv2 hv3 hv4 fx fc c0 c1 c2 c3 v_7 wd (hnx) (hcn) (by omega) (by omega) (by omega) (by omega) (hv_7) (by omega)) E0_blind hK hP hD hS hA [0, 2, 3, 4] [1, 5, 6, 7, 8, 9, 10, 11, 12, 13, 14, 15, 16, 17] ⟨rfl, rfl, by decide +kernel, by decide +kernel, by decide +kernel⟩ rfl rfl (fun _ _ _ => trivial) dX1_goOn_59 rfl rfl (Nat.le_of_ble_eq_true rfl) ⟨Nat.le_of_ble_eq_true rfl, Nat.le_of_ble_eq_true rfl⟩ ⟨Nat.le_of_ble_eq_true rfl, Nat.le_of_ble_eq_true rfl⟩ (fun zr95 zu95 H locs hw95 hP9 hD9 hS9 => ?_)
              clear hP hD hS
              obtain ⟨k_96, rfl⟩ : ∃ z, z = zu95 := ⟨_, rfl⟩
              refine reW [wI (cy 1) q2 24 (fa1_1), (er, .inl (cy 4, 4, .inr (.inr (.inr (.inr (eF (ea 0) (ea 1) (ea 2) (ea 3))))))), wO (ea 0) 2 [.ref (eg 0), .ref (ef 0), .int (et 0), .int (nI (el 0)), .int (nI (ei 0))], wI (cy 1) (eg 0) 10 (gc 0), wI (cy 1) (ef 0) 7 (xc 0), wO (ea 1) 2 [.ref (eg 1), .ref (ef 1), .int (et 1), .int (nI (el 1)), .int (nI (ei 1))], wI (cy 1) (eg 1) 10 (gc 1), wI (cy 1) (ef 1) 7 (xc 1), wI (cy 1) (ef 2) 7 (xc 2), wO (ea 3) 2 [.ref (eg 3), .ref (ef 3), .int (et 3), .int (nI (el 3)), .int (nI (ei 3))], wI (cy 1) (eg 3) 10 (gc 3), wI (cy 1) (ef 3) 7 (xc 3), wO (ea 2) 2 [.ref (eg 2), .ref (ef 2), .int (et 2), .int (nI ((el 2))), .int (nI ((ei 2)))], wI (cy 1) (eg 2) 10 (gc 2), wO q0 1 [.ref q1, .ref er, .ref q2, .ref q3, .ref q4, .ref h0, .int (nI ql), .int qo], wO h0 4 [.ref h1, .ref h2, .ref h3, .ref h4, .ref h5, .ref h6, .ref h7, .ref h8, .ref h9, .ref h10, .ref h11, hv0, hv1, hv2, hv3, hv4], wI (cy 1) h7 48 (fx), wI (cy 1) h1 4 (fc)] hP9 hD9 hS9 (fun hP hD hS => ?_)
              clear hP9 hD9 hS9
              refine W.widen (k := 0) (n := 0) (Nat.le_of_ble_eq_true rfl) (Nat.le_of_ble_eq_true rfl) ?_
              replace hw95 : (zr95 = nI k_96) ∧ (pOK k_96) ∧ (k_96 < 262144) ∧ (∀ s9 : Nat, s9 < c3 → dg9 k_96 s9 = dg9 v_7 (nC9 fx s9 wd)) := hw95
              obtain ⟨f_97, f_98, f_99, f_100⟩ := hw95
              subst f_97
              refine lv_goto (tgt := 72) hx hb dX1_goOn_62 (by decide) ?_
              refine lv_ior hx hb dX1_goOn_72 ?_
              refine lv_topi (fun x_101 ex_101 => ?_)
              have hlt9 : k_96 < 262144 := by omega
              obtain rfl : x_101 = nI (262144 + k_96) := ex_101.trans (or_ans hlt9)
              have hpk_102 : pOK (262144 + k_96) := pOK_up (f_98) hlt9
              refine lv_istore (lv' := [(4, .int (nI (262144 + k_96))), (5, .ref (ea 2)), (3, .int 2), (0, .ref q0), (1, .int (nI dp)), (2, .int (nI wd))]) hx hb dX1_goOn_73 hl (by decide) rfl (fun ls hl => ?_)
              refine lv_aload_n hx hb dX1_goOn_75 rfl (lv_at hl 3 rfl) ?_
              refine va_get (D := D) (ci := 1) (v := .ref q2) (C := RX1) (T := TX1) (N := 8) hx hb hg i_X1 hown hK hP 14 rfl rfl 2 (by decide) (hg _ m_555) (fun _ h9 => h9) rfl dX1_goOn_76 ?_
              refine lv_iload_n hx hb dX1_goOn_79 rfl (lv_at hl 4 rfl) ?_
              refine lv_iconst (v := 1) hx hb dX1_goOn_80 (by decide) ?_
              refine lv_iadd hx hb dX1_goOn_81 ?_
              refine lv_topi (fun y_103 hy_103 => ?_)
              obtain rfl : y_103 = nI (dp + 1) := hy_103.trans (nI_add dp 1)
              refine lv_iconst (v := 4) hx hb dX1_goOn_82 (by decide) ?_
              refine lv_imul hx hb dX1_goOn_83 ?_
              refine lv_topi (fun y_104 hy_104 => ?_)
              obtain rfl : y_104 = nI ((dp + 1) * 4) := hy_104.trans (pk_mul ((dp + 1)) 4)
              refine lv_iload_n hx hb dX1_goOn_84 rfl (lv_at hl 2 rfl) ?_
              refine lv_iadd hx hb dX1_goOn_85 ?_
              refine lv_topi (fun y_105 hy_105 => ?_)
              obtain rfl : y_105 = nI (((dp + 1) * 4) + 2) := hy_105.trans (nI_add (((dp + 1) * 4)) 2)
              refine lv_iload hx hb dX1_goOn_86 (lv_at hl 0 rfl) ?_
              refine va_iast hx hb hK hP hD hS 0 1 rfl rfl (vp_in_nI (by omega) (by decide)) dX1_goOn_88 (fun H locs hP9 hD9 hS9 => ?_)
              clear hP hD hS
              have hP := hP9
              have hD := hD9
              have hS := hS9
              clear hP9 hD9 hS9
              obtain ⟨g_106, eg_106⟩ : ∃ y, upd fa1_1 (nI (((dp + 1) * 4) + 2) : Int32).toNatClampNeg (nI (262144 + k_96)) = y := ⟨_, rfl⟩
              rw [eg_106] at hP hD
              have hr_107 : pRow g_106 := eg_106 ▸ pRow_put (v := (262144 + k_96)) ha2_1 hpk_102
              replace hP : va_P D vwCl [wI (cy 1) q2 24 (g_106), (er, .inl (cy 4, 4, .inr (.inr (.inr (.inr (eF (ea 0) (ea 1) (ea 2) (ea 3))))))), wO (ea 0) 2 [.ref (eg 0), .ref (ef 0), .int (et 0), .int (nI (el 0)), .int (nI (ei 0))], wI (cy 1) (eg 0) 10 (gc 0), wI (cy 1) (ef 0) 7 (xc 0), wO (ea 1) 2 [.ref (eg 1), .ref (ef 1), .int (et 1), .int (nI (el 1)), .int (nI (ei 1))], wI (cy 1) (eg 1) 10 (gc 1), wI (cy 1) (ef 1) 7 (xc 1), wI (cy 1) (ef 2) 7 (xc 2), wO (ea 3) 2 [.ref (eg 3), .ref (ef 3), .int (et 3), .int (nI (el 3)), .int (nI (ei 3))], wI (cy 1) (eg 3) 10 (gc 3), wI (cy 1) (ef 3) 7 (xc 3), wO (ea 2) 2 [.ref (eg 2), .ref (ef 2), .int (et 2), .int (nI ((el 2))), .int (nI ((ei 2)))], wI (cy 1) (eg 2) 10 (gc 2), wO q0 1 [.ref q1, .ref er, .ref q2, .ref q3, .ref q4, .ref h0, .int (nI ql), .int qo], wO h0 4 [.ref h1, .ref h2, .ref h3, .ref h4, .ref h5, .ref h6, .ref h7, .ref h8, .ref h9, .ref h10, .ref h11, hv0, hv1, hv2, hv3, hv4], wI (cy 1) h7 48 (fx), wI (cy 1) h1 4 (fc)] H := hP
              replace hD : va_D A [wI (cy 1) q2 24 (g_106), (er, .inl (cy 4, 4, .inr (.inr (.inr (.inr (eF (ea 0) (ea 1) (ea 2) (ea 3))))))), wO (ea 0) 2 [.ref (eg 0), .ref (ef 0), .int (et 0), .int (nI (el 0)), .int (nI (ei 0))], wI (cy 1) (eg 0) 10 (gc 0), wI (cy 1) (ef 0) 7 (xc 0), wO (ea 1) 2 [.ref (eg 1), .ref (ef 1), .int (et 1), .int (nI (el 1)), .int (nI (ei 1))], wI (cy 1) (eg 1) 10 (gc 1), wI (cy 1) (ef 1) 7 (xc 1), wI (cy 1) (ef 2) 7 (xc 2), wO (ea 3) 2 [.ref (eg 3), .ref (ef 3), .int (et 3), .int (nI (el 3)), .int (nI (ei 3))], wI (cy 1) (eg 3) 10 (gc 3), wI (cy 1) (ef 3) 7 (xc 3), wO (ea 2) 2 [.ref (eg 2), .ref (ef 2), .int (et 2), .int (nI ((el 2))), .int (nI ((ei 2)))], wI (cy 1) (eg 2) 10 (gc 2), wO q0 1 [.ref q1, .ref er, .ref q2, .ref q3, .ref q4, .ref h0, .int (nI ql), .int qo], wO h0 4 [.ref h1, .ref h2, .ref h3, .ref h4, .ref h5, .ref h6, .ref h7, .ref h8, .ref h9, .ref h10, .ref h11, hv0, hv1, hv2, hv3, hv4], wI (cy 1) h7 48 (fx), wI (cy 1) h1 4 (fc)] := hD
              refine lv_iinc (v := 3) (lv' := [(3, .int 3), (4, .int (nI (262144 + k_96))), (5, .ref (ea 2)), (0, .ref q0), (1, .int (nI dp)), (2, .int (nI wd))]) hx hb dX1_goOn_89 hl (k := 2) rfl (by decide) (by decide) rfl (fun ls hl => ?_)
              refine lv_goto (tgt := 2) hx hb dX1_goOn_92 (by decide) ?_
              exact ih1  3 g_106 hr_107 (by omega) (pt_put (Lp := fun c9 => nxL (gc c9) dp wd (Lp c9)) hf1_1 (by omega) (by decide) (by rw [nx_1 (bR_t f_77 c_42)]; exact pt_t (pt_at (hpt 2 (by omega)) (hf2_1 (dp * 4 + 2) (by omega)) ev_7 (by omega) (by omega)) c_52 hcA (by omega) (by omega) f_100 (by omega)) eg_106) (pt_keep (b := (dp + 1) * 4) (i := 2) hf2_1 (by omega) (by omega) eg_106) (by omega) _ _ (hP.sub [14, 0, 15, 16, 17, 1, 2, 3, 4, 5, 6, 7, 12, 13, 8, 9, 10, 11] rfl) (hD.sub [14, 0, 15, 16, 17, 1, 2, 3, 4, 5, 6, 7, 12, 13, 8, 9, 10, 11] (by decide +kernel) rfl) hS ls (lv_sub hl [0, 3, 4, 5] rfl)
        · subst hsp
          refine va_aldq hx hb hK hP 5 4 rfl rfl (by unfold vp_in; decide) dX1_goOn_32 ?_
          refine W.eq (g2 := F0 m 33 ls [.ref (ea 3)]) rfl ?_
          refine lv_astore (lv' := [(5, .ref (ea 3)), (4, .int (nI v_7)), (3, .int 3), (0, .ref q0), (1, .int (nI dp)), (2, .int (nI wd))]) hx hb dX1_goOn_33 hl (by decide) rfl (fun ls hl => ?_)
          refine lv_aload hx hb dX1_goOn_35 (lv_at hl 0 rfl) ?_
          refine lv_iload_n hx hb dX1_goOn_37 rfl (lv_at hl 4 rfl) ?_
          refine lv_iload_n hx hb dX1_goOn_38 rfl (lv_at hl 5 rfl) ?_
          refine x_callVi (q := (RX2, TX2, 5)) (ci := 2) (q0 := 0) (wr := [wO q0 1 [.ref q1, .ref er, .ref q2, .ref q3, .ref q4, .ref h0, .int (nI ql), .int qo], wI (cy 1) q2 24 (fa1_1), wO h0 4 [.ref h1, .ref h2, .ref h3, .ref h4, .ref h5, .ref h6, .ref h7, .ref h8, .ref h9, .ref h10, .ref h11, hv0, hv1, hv2, hv3, hv4], wI (cy 1) h7 48 (fx), wI (cy 1) h1 4 (fc), (er, .inl (cy 4, 4, .inr (.inr (.inr (.inr (eF (ea 0) (ea 1) (ea 2) (ea 3))))))), wO (ea 0) 2 [.ref (eg 0), .ref (ef 0), .int (et 0), .int (nI (el 0)), .int (nI (ei 0))], wI (cy 1) (eg 0) 10 (gc 0), wI (cy 1) (ef 0) 7 (xc 0), wO (ea 1) 2 [.ref (eg 1), .ref (ef 1), .int (et 1), .int (nI (el 1)), .int (nI (ei 1))], wI (cy 1) (eg 1) 10 (gc 1), wI (cy 1) (ef 1) 7 (xc 1), wO (ea 2) 2 [.ref (eg 2), .ref (ef 2), .int (et 2), .int (nI (el 2)), .int (nI (ei 2))], wI (cy 1) (eg 2) 10 (gc 2), wI (cy 1) (ef 2) 7 (xc 2), wI (cy 1) (ef 3) 7 (xc 3)]) (rest := []) ⟨hx, hb, hml, hown, hg, hl.1⟩ k_X1_70 (s_comesBack l D cy (ea 3) (eg 3) (ef 3) (et 3) ((el 3)) ((ei 3)) (gc 3) dp (nI wd) (by omega)) E0_blind hK hP hD hS hA [15, 16] [0, 1, 2, 3, 4, 5, 6, 7, 8, 9, 10, 11, 12, 13, 14, 17] ⟨rfl, rfl, by decide +kernel, by decide +kernel, by decide +kernel⟩ rfl rfl (fun _ _ _ => trivial) dX1_goOn_39 rfl rfl (Nat.le_of_ble_eq_true rfl) ⟨Nat.le_of_ble_eq_true rfl, Nat.le_of_ble_eq_true rfl⟩ ⟨Nat.le_of_ble_eq_true rfl, Nat.le_of_ble_eq_true rfl⟩ (fun zr108 zu108 H locs hw108 hP9 hD9 hS9 => ?_)
          clear hP hD hS
          refine reW [wO q0 1 [.ref q1, .ref er, .ref q2, .ref q3, .ref q4, .ref h0, .int (nI ql), .int qo], wI (cy 1) q2 24 (fa1_1), wO h0 4 [.ref h1, .ref h2, .ref h3, .ref h4, .ref h5, .ref h6, .ref h7, .ref h8, .ref h9, .ref h10, .ref h11, hv0, hv1, hv2, hv3, hv4], wI (cy 1) h7 48 (fx), wI (cy 1) h1 4 (fc), (er, .inl (cy 4, 4, .inr (.inr (.inr (.inr (eF (ea 0) (ea 1) (ea 2) (ea 3))))))), wO (ea 0) 2 [.ref (eg 0), .ref (ef 0), .int (et 0), .int (nI (el 0)), .int (nI (ei 0))], wI (cy 1) (eg 0) 10 (gc 0), wI (cy 1) (ef 0) 7 (xc 0), wO (ea 1) 2 [.ref (eg 1), .ref (ef 1), .int (et 1), .int (nI (el 1)), .int (nI (ei 1))], wI (cy 1) (eg 1) 10 (gc 1), wI (cy 1) (ef 1) 7 (xc 1), wO (ea 2) 2 [.ref (eg 2), .ref (ef 2), .int (et 2), .int (nI (el 2)), .int (nI (ei 2))], wI (cy 1) (eg 2) 10 (gc 2), wI (cy 1) (ef 2) 7 (xc 2), wI (cy 1) (ef 3) 7 (xc 3), wO (ea 3) 2 [.ref (eg 3), .ref (ef 3), .int (et 3), .int (nI ((el 3))), .int (nI ((ei 3)))], wI (cy 1) (eg 3) 10 (gc 3)] hP9 hD9 hS9 (fun hP hD hS => ?_)
          clear hP9 hD9 hS9
          refine W.widen (k := 0) (n := 0) (Nat.le_of_ble_eq_true rfl) (Nat.le_of_ble_eq_true rfl) ?_
          replace hw108 : (zr108 = 0 ∨ zr108 = 1) ∧ (bR zr108 (gB ((gc 3) dp) (nI wd))) := hw108
          obtain ⟨f_109, f_110⟩ := hw108
          refine lv_if_eq (tgt := 75) hx hb dX1_goOn_42 (by decide) (fun c_42 => ?_) (fun c_42 => ?_)
          · refine lv_aload_n hx hb dX1_goOn_75 rfl (lv_at hl 3 rfl) ?_
            refine va_get (D := D) (ci := 1) (v := .ref q2) (C := RX1) (T := TX1) (N := 8) hx hb hg i_X1 hown hK hP 0 rfl rfl 2 (by decide) (hg _ m_555) (fun _ h9 => h9) rfl dX1_goOn_76 ?_
            refine lv_iload_n hx hb dX1_goOn_79 rfl (lv_at hl 4 rfl) ?_
            refine lv_iconst (v := 1) hx hb dX1_goOn_80 (by decide) ?_
            refine lv_iadd hx hb dX1_goOn_81 ?_
            refine lv_topi (fun y_111 hy_111 => ?_)
            obtain rfl : y_111 = nI (dp + 1) := hy_111.trans (nI_add dp 1)
            refine lv_iconst (v := 4) hx hb dX1_goOn_82 (by decide) ?_
            refine lv_imul hx hb dX1_goOn_83 ?_
            refine lv_topi (fun y_112 hy_112 => ?_)
            obtain rfl : y_112 = nI ((dp + 1) * 4) := hy_112.trans (pk_mul ((dp + 1)) 4)
            refine lv_iload_n hx hb dX1_goOn_84 rfl (lv_at hl 2 rfl) ?_
            refine lv_iadd hx hb dX1_goOn_85 ?_
            refine lv_topi (fun y_113 hy_113 => ?_)
            obtain rfl : y_113 = nI (((dp + 1) * 4) + 3) := hy_113.trans (nI_add (((dp + 1) * 4)) 3)
            refine lv_iload hx hb dX1_goOn_86 (lv_at hl 1 rfl) ?_
            refine va_iast hx hb hK hP hD hS 1 1 rfl rfl (vp_in_nI (by omega) (by decide)) dX1_goOn_88 (fun H locs hP9 hD9 hS9 => ?_)
            clear hP hD hS
            have hP := hP9
            have hD := hD9
            have hS := hS9
            clear hP9 hD9 hS9
            obtain ⟨g_114, eg_114⟩ : ∃ y, upd fa1_1 (nI (((dp + 1) * 4) + 3) : Int32).toNatClampNeg (nI v_7) = y := ⟨_, rfl⟩
            rw [eg_114] at hP hD
            have hr_115 : pRow g_114 := eg_114 ▸ pRow_put (v := v_7) ha2_1 hv_7
            replace hP : va_P D vwCl [wO q0 1 [.ref q1, .ref er, .ref q2, .ref q3, .ref q4, .ref h0, .int (nI ql), .int qo], wI (cy 1) q2 24 (g_114), wO h0 4 [.ref h1, .ref h2, .ref h3, .ref h4, .ref h5, .ref h6, .ref h7, .ref h8, .ref h9, .ref h10, .ref h11, hv0, hv1, hv2, hv3, hv4], wI (cy 1) h7 48 (fx), wI (cy 1) h1 4 (fc), (er, .inl (cy 4, 4, .inr (.inr (.inr (.inr (eF (ea 0) (ea 1) (ea 2) (ea 3))))))), wO (ea 0) 2 [.ref (eg 0), .ref (ef 0), .int (et 0), .int (nI (el 0)), .int (nI (ei 0))], wI (cy 1) (eg 0) 10 (gc 0), wI (cy 1) (ef 0) 7 (xc 0), wO (ea 1) 2 [.ref (eg 1), .ref (ef 1), .int (et 1), .int (nI (el 1)), .int (nI (ei 1))], wI (cy 1) (eg 1) 10 (gc 1), wI (cy 1) (ef 1) 7 (xc 1), wO (ea 2) 2 [.ref (eg 2), .ref (ef 2), .int (et 2), .int (nI (el 2)), .int (nI (ei 2))], wI (cy 1) (eg 2) 10 (gc 2), wI (cy 1) (ef 2) 7 (xc 2), wI (cy 1) (ef 3) 7 (xc 3), wO (ea 3) 2 [.ref (eg 3), .ref (ef 3), .int (et 3), .int (nI ((el 3))), .int (nI ((ei 3)))], wI (cy 1) (eg 3) 10 (gc 3)] H := hP
            replace hD : va_D A [wO q0 1 [.ref q1, .ref er, .ref q2, .ref q3, .ref q4, .ref h0, .int (nI ql), .int qo], wI (cy 1) q2 24 (g_114), wO h0 4 [.ref h1, .ref h2, .ref h3, .ref h4, .ref h5, .ref h6, .ref h7, .ref h8, .ref h9, .ref h10, .ref h11, hv0, hv1, hv2, hv3, hv4], wI (cy 1) h7 48 (fx), wI (cy 1) h1 4 (fc), (er, .inl (cy 4, 4, .inr (.inr (.inr (.inr (eF (ea 0) (ea 1) (ea 2) (ea 3))))))), wO (ea 0) 2 [.ref (eg 0), .ref (ef 0), .int (et 0), .int (nI (el 0)), .int (nI (ei 0))], wI (cy 1) (eg 0) 10 (gc 0), wI (cy 1) (ef 0) 7 (xc 0), wO (ea 1) 2 [.ref (eg 1), .ref (ef 1), .int (et 1), .int (nI (el 1)), .int (nI (ei 1))], wI (cy 1) (eg 1) 10 (gc 1), wI (cy 1) (ef 1) 7 (xc 1), wO (ea 2) 2 [.ref (eg 2), .ref (ef 2), .int (et 2), .int (nI (el 2)), .int (nI (ei 2))], wI (cy 1) (eg 2) 10 (gc 2), wI (cy 1) (ef 2) 7 (xc 2), wI (cy 1) (ef 3) 7 (xc 3), wO (ea 3) 2 [.ref (eg 3), .ref (ef 3), .int (et 3), .int (nI ((el 3))), .int (nI ((ei 3)))], wI (cy 1) (eg 3) 10 (gc 3)] := hD
            refine lv_iinc (v := 4) (lv' := [(3, .int 4), (5, .ref (ea 3)), (4, .int (nI v_7)), (0, .ref q0), (1, .int (nI dp)), (2, .int (nI wd))]) hx hb dX1_goOn_89 hl (k := 2) rfl (by decide) (by decide) rfl (fun ls hl => ?_)
            refine lv_goto (tgt := 2) hx hb dX1_goOn_92 (by decide) ?_
            exact ih1  4 g_114 hr_115 (by omega) (pt_put (Lp := fun c9 => nxL (gc c9) dp wd (Lp c9)) hf1_1 (by omega) (by decide) (by rw [nx_0 (bR_f f_110 c_42)]; exact (pt_at (hpt 3 (by omega)) (hf2_1 (dp * 4 + 3) (by omega)) ev_7 (by omega) (by omega))) eg_114) (pt_keep (b := (dp + 1) * 4) (i := 3) hf2_1 (by omega) (by omega) eg_114) (by omega) _ _ (hP.sub [0, 1, 2, 3, 4, 5, 6, 7, 8, 9, 10, 11, 12, 13, 14, 16, 17, 15] rfl) (hD.sub [0, 1, 2, 3, 4, 5, 6, 7, 8, 9, 10, 11, 12, 13, 14, 16, 17, 15] (by decide +kernel) rfl) hS ls (lv_sub hl [0, 3, 4, 5] rfl)
          · refine lv_ldc (v := 262144) hx hb hown (hg _ m_1162) dX1_goOn_45 ?_
            refine lv_aload hx hb dX1_goOn_47 (lv_at hl 0 rfl) ?_
            refine va_get (D := D) (ci := 2) (v := .int (et 3)) (C := RX2) (T := TX2) (N := 5) hx hb hg i_X2 hown hK hP 16 rfl rfl 2 (by decide) (hg _ m_517) (fun _ h9 => h9) rfl dX1_goOn_49 ?_
            refine lv_if_eq (tgt := 65) hx hb dX1_goOn_52 (by decide) (fun c_52 => ?_) (fun c_52 => ?_)
            · refine lv_aload_n hx hb dX1_goOn_65 rfl (lv_at hl 3 rfl) ?_
              refine lv_iload hx hb dX1_goOn_66 (lv_at hl 1 rfl) ?_
              refine lv_iload_n hx hb dX1_goOn_68 rfl (lv_at hl 5 rfl) ?_
              refine x_callVi (q := (RX1, TX1, 8)) (ci := 1) (q0 := 0) (wr := [wI (cy 1) q2 24 (fa1_1), wI (cy 1) h1 4 (fc), (er, .inl (cy 4, 4, .inr (.inr (.inr (.inr (eF (ea 0) (ea 1) (ea 2) (ea 3))))))), wO (ea 0) 2 [.ref (eg 0), .ref (ef 0), .int (et 0), .int (nI (el 0)), .int (nI (ei 0))], wI (cy 1) (eg 0) 10 (gc 0), wI (cy 1) (ef 0) 7 (xc 0), wO (ea 1) 2 [.ref (eg 1), .ref (ef 1), .int (et 1), .int (nI (el 1)), .int (nI (ei 1))], wI (cy 1) (eg 1) 10 (gc 1), wI (cy 1) (ef 1) 7 (xc 1), wO (ea 2) 2 [.ref (eg 2), .ref (ef 2), .int (et 2), .int (nI (el 2)), .int (nI (ei 2))], wI (cy 1) (eg 2) 10 (gc 2), wI (cy 1) (ef 2) 7 (xc 2), wI (cy 1) (ef 3) 7 (xc 3), wO (ea 3) 2 [.ref (eg 3), .ref (ef 3), .int (et 3), .int (nI ((el 3))), .int (nI ((ei 3)))], wI (cy 1) (eg 3) 10 (gc 3)]) (rest := [.int 262144]) ⟨hx, hb, hml, hown, hg, hl.1⟩ k_X1_81 (s_straightPath l D cy q0 q1 q2 q3 q4 er ql qo h0 h1 h2 h3 h4 h5 h6 h7 h8 h9 h10 h11 hv0 hv1 hv2 hv3 hv4 fx v_7 wd (hnx) (hv_7) (by omega)) E0_blind hK hP hD hS hA [0, 2, 3] [1, 4, 5, 6, 7, 8, 9, 10, 11, 12, 13, 14, 15, 16, 17] ⟨rfl, rfl, by decide +kernel, by decide +kernel, by decide +kernel⟩ rfl rfl (fun _ _ _ => trivial) dX1_goOn_69 rfl rfl (Nat.le_of_ble_eq_true rfl) ⟨Nat.le_of_ble_eq_true rfl, Nat.le_of_ble_eq_true rfl⟩ ⟨Nat.le_of_ble_eq_true rfl, Nat.le_of_ble_eq_true rfl⟩ (fun zr116 zu116 H locs hw116 hP9 hD9 hS9 => ?_)
              clear hP hD hS
              obtain ⟨k_117, rfl⟩ : ∃ z, z = zu116 := ⟨_, rfl⟩
              refine reW [wI (cy 1) q2 24 (fa1_1), wI (cy 1) h1 4 (fc), (er, .inl (cy 4, 4, .inr (.inr (.inr (.inr (eF (ea 0) (ea 1) (ea 2) (ea 3))))))), wO (ea 0) 2 [.ref (eg 0), .ref (ef 0), .int (et 0), .int (nI (el 0)), .int (nI (ei 0))], wI (cy 1) (eg 0) 10 (gc 0), wI (cy 1) (ef 0) 7 (xc 0), wO (ea 1) 2 [.ref (eg 1), .ref (ef 1), .int (et 1), .int (nI (el 1)), .int (nI (ei 1))], wI (cy 1) (eg 1) 10 (gc 1), wI (cy 1) (ef 1) 7 (xc 1), wO (ea 2) 2 [.ref (eg 2), .ref (ef 2), .int (et 2), .int (nI (el 2)), .int (nI (ei 2))], wI (cy 1) (eg 2) 10 (gc 2), wI (cy 1) (ef 2) 7 (xc 2), wI (cy 1) (ef 3) 7 (xc 3), wO (ea 3) 2 [.ref (eg 3), .ref (ef 3), .int (et 3), .int (nI ((el 3))), .int (nI ((ei 3)))], wI (cy 1) (eg 3) 10 (gc 3), wO q0 1 [.ref q1, .ref er, .ref q2, .ref q3, .ref q4, .ref h0, .int (nI ql), .int qo], wO h0 4 [.ref h1, .ref h2, .ref h3, .ref h4, .ref h5, .ref h6, .ref h7, .ref h8, .ref h9, .ref h10, .ref h11, hv0, hv1, hv2, hv3, hv4], wI (cy 1) h7 48 (fx)] hP9 hD9 hS9 (fun hP hD hS => ?_)
              clear hP9 hD9 hS9
              refine W.widen (k := 0) (n := 0) (Nat.le_of_ble_eq_true rfl) (Nat.le_of_ble_eq_true rfl) ?_
              replace hw116 : (zr116 = nI k_117) ∧ (k_117 ≤ 5) ∧ (k_117 = nC9 fx (dg9 v_7 0) wd) := hw116
              obtain ⟨f_118, f_119, f_120⟩ := hw116
              subst f_118
              refine lv_ior hx hb dX1_goOn_72 ?_
              refine lv_topi (fun x_121 ex_121 => ?_)
              have hlt9 : k_117 < 262144 := by omega
              obtain rfl : x_121 = nI (262144 + k_117) := ex_121.trans (or_ans hlt9)
              have hpk_122 : pOK (262144 + k_117) := pOK_up (pOK_small (by omega)) hlt9
              refine lv_istore (lv' := [(4, .int (nI (262144 + k_117))), (5, .ref (ea 3)), (3, .int 3), (0, .ref q0), (1, .int (nI dp)), (2, .int (nI wd))]) hx hb dX1_goOn_73 hl (by decide) rfl (fun ls hl => ?_)
              refine lv_aload_n hx hb dX1_goOn_75 rfl (lv_at hl 3 rfl) ?_
              refine va_get (D := D) (ci := 1) (v := .ref q2) (C := RX1) (T := TX1) (N := 8) hx hb hg i_X1 hown hK hP 15 rfl rfl 2 (by decide) (hg _ m_555) (fun _ h9 => h9) rfl dX1_goOn_76 ?_
              refine lv_iload_n hx hb dX1_goOn_79 rfl (lv_at hl 4 rfl) ?_
              refine lv_iconst (v := 1) hx hb dX1_goOn_80 (by decide) ?_
              refine lv_iadd hx hb dX1_goOn_81 ?_
              refine lv_topi (fun y_123 hy_123 => ?_)
              obtain rfl : y_123 = nI (dp + 1) := hy_123.trans (nI_add dp 1)
              refine lv_iconst (v := 4) hx hb dX1_goOn_82 (by decide) ?_
              refine lv_imul hx hb dX1_goOn_83 ?_
              refine lv_topi (fun y_124 hy_124 => ?_)
              obtain rfl : y_124 = nI ((dp + 1) * 4) := hy_124.trans (pk_mul ((dp + 1)) 4)
              refine lv_iload_n hx hb dX1_goOn_84 rfl (lv_at hl 2 rfl) ?_
              refine lv_iadd hx hb dX1_goOn_85 ?_
              refine lv_topi (fun y_125 hy_125 => ?_)
              obtain rfl : y_125 = nI (((dp + 1) * 4) + 3) := hy_125.trans (nI_add (((dp + 1) * 4)) 3)
              refine lv_iload hx hb dX1_goOn_86 (lv_at hl 0 rfl) ?_
              refine va_iast hx hb hK hP hD hS 0 1 rfl rfl (vp_in_nI (by omega) (by decide)) dX1_goOn_88 (fun H locs hP9 hD9 hS9 => ?_)
              clear hP hD hS
              have hP := hP9
              have hD := hD9
              have hS := hS9
              clear hP9 hD9 hS9
              obtain ⟨g_126, eg_126⟩ : ∃ y, upd fa1_1 (nI (((dp + 1) * 4) + 3) : Int32).toNatClampNeg (nI (262144 + k_117)) = y := ⟨_, rfl⟩
              rw [eg_126] at hP hD
              have hr_127 : pRow g_126 := eg_126 ▸ pRow_put (v := (262144 + k_117)) ha2_1 hpk_122
              replace hP : va_P D vwCl [wI (cy 1) q2 24 (g_126), wI (cy 1) h1 4 (fc), (er, .inl (cy 4, 4, .inr (.inr (.inr (.inr (eF (ea 0) (ea 1) (ea 2) (ea 3))))))), wO (ea 0) 2 [.ref (eg 0), .ref (ef 0), .int (et 0), .int (nI (el 0)), .int (nI (ei 0))], wI (cy 1) (eg 0) 10 (gc 0), wI (cy 1) (ef 0) 7 (xc 0), wO (ea 1) 2 [.ref (eg 1), .ref (ef 1), .int (et 1), .int (nI (el 1)), .int (nI (ei 1))], wI (cy 1) (eg 1) 10 (gc 1), wI (cy 1) (ef 1) 7 (xc 1), wO (ea 2) 2 [.ref (eg 2), .ref (ef 2), .int (et 2), .int (nI (el 2)), .int (nI (ei 2))], wI (cy 1) (eg 2) 10 (gc 2), wI (cy 1) (ef 2) 7 (xc 2), wI (cy 1) (ef 3) 7 (xc 3), wO (ea 3) 2 [.ref (eg 3), .ref (ef 3), .int (et 3), .int (nI ((el 3))), .int (nI ((ei 3)))], wI (cy 1) (eg 3) 10 (gc 3), wO q0 1 [.ref q1, .ref er, .ref q2, .ref q3, .ref q4, .ref h0, .int (nI ql), .int qo], wO h0 4 [.ref h1, .ref h2, .ref h3, .ref h4, .ref h5, .ref h6, .ref h7, .ref h8, .ref h9, .ref h10, .ref h11, hv0, hv1, hv2, hv3, hv4], wI (cy 1) h7 48 (fx)] H := hP
              replace hD : va_D A [wI (cy 1) q2 24 (g_126), wI (cy 1) h1 4 (fc), (er, .inl (cy 4, 4, .inr (.inr (.inr (.inr (eF (ea 0) (ea 1) (ea 2) (ea 3))))))), wO (ea 0) 2 [.ref (eg 0), .ref (ef 0), .int (et 0), .int (nI (el 0)), .int (nI (ei 0))], wI (cy 1) (eg 0) 10 (gc 0), wI (cy 1) (ef 0) 7 (xc 0), wO (ea 1) 2 [.ref (eg 1), .ref (ef 1), .int (et 1), .int (nI (el 1)), .int (nI (ei 1))], wI (cy 1) (eg 1) 10 (gc 1), wI (cy 1) (ef 1) 7 (xc 1), wO (ea 2) 2 [.ref (eg 2), .ref (ef 2), .int (et 2), .int (nI (el 2)), .int (nI (ei 2))], wI (cy 1) (eg 2) 10 (gc 2), wI (cy 1) (ef 2) 7 (xc 2), wI (cy 1) (ef 3) 7 (xc 3), wO (ea 3) 2 [.ref (eg 3), .ref (ef 3), .int (et 3), .int (nI ((el 3))), .int (nI ((ei 3)))], wI (cy 1) (eg 3) 10 (gc 3), wO q0 1 [.ref q1, .ref er, .ref q2, .ref q3, .ref q4, .ref h0, .int (nI ql), .int qo], wO h0 4 [.ref h1, .ref h2, .ref h3, .ref h4, .ref h5, .ref h6, .ref h7, .ref h8, .ref h9, .ref h10, .ref h11, hv0, hv1, hv2, hv3, hv4], wI (cy 1) h7 48 (fx)] := hD
              refine lv_iinc (v := 4) (lv' := [(3, .int 4), (4, .int (nI (262144 + k_117))), (5, .ref (ea 3)), (0, .ref q0), (1, .int (nI dp)), (2, .int (nI wd))]) hx hb dX1_goOn_89 hl (k := 2) rfl (by decide) (by decide) rfl (fun ls hl => ?_)
              refine lv_goto (tgt := 2) hx hb dX1_goOn_92 (by decide) ?_
              exact ih1  4 g_126 hr_127 (by omega) (pt_put (Lp := fun c9 => nxL (gc c9) dp wd (Lp c9)) hf1_1 (by omega) (by decide) (by rw [nx_1 (bR_t f_110 c_42)]; exact pt_s (pt_at (hpt 3 (by omega)) (hf2_1 (dp * 4 + 3) (by omega)) ev_7 (by omega) (by omega)) c_52 (by omega) f_120 (by omega)) eg_126) (pt_keep (b := (dp + 1) * 4) (i := 3) hf2_1 (by omega) (by omega) eg_126) (by omega) _ _ (hP.sub [15, 0, 16, 17, 1, 2, 3, 4, 5, 6, 7, 8, 9, 10, 11, 13, 14, 12] rfl) (hD.sub [15, 0, 16, 17, 1, 2, 3, 4, 5, 6, 7, 8, 9, 10, 11, 13, 14, 12] (by decide +kernel) rfl) hS ls (lv_sub hl [0, 3, 4, 5] rfl)
            · refine lv_aload_n hx hb dX1_goOn_55 rfl (lv_at hl 3 rfl) ?_
              refine lv_iload hx hb dX1_goOn_56 (lv_at hl 1 rfl) ?_
              refine lv_iload_n hx hb dX1_goOn_58 rfl (lv_at hl 5 rfl) ?_
              refine x_callVi (q := (RX1, TX1, 8)) (ci := 1) (q0 := 0) (wr := [wI (cy 1) q2 24 (fa1_1), (er, .inl (cy 4, 4, .inr (.inr (.inr (.inr (eF (ea 0) (ea 1) (ea 2) (ea 3))))))), wO (ea 0) 2 [.ref (eg 0), .ref (ef 0), .int (et 0), .int (nI (el 0)), .int (nI (ei 0))], wI (cy 1) (eg 0) 10 (gc 0), wI (cy 1) (ef 0) 7 (xc 0), wO (ea 1) 2 [.ref (eg 1), .ref (ef 1), .int (et 1), .int (nI (el 1)), .int (nI (ei 1))], wI (cy 1) (eg 1) 10 (gc 1), wI (cy 1) (ef 1) 7 (xc 1), wO (ea 2) 2 [.ref (eg 2), .ref (ef 2), .int (et 2), .int (nI (el 2)), .int (nI (ei 2))], wI (cy 1) (eg 2) 10 (gc 2), wI (cy 1) (ef 2) 7 (xc 2), wI (cy 1) (ef 3) 7 (xc 3), wO (ea 3) 2 [.ref (eg 3), .ref (ef 3), .int (et 3), .int (nI ((el 3))), .int (nI ((ei 3)))], wI (cy 1) (eg 3) 10 (gc 3)]) (rest := [.int 262144]) ⟨hx, hb, hml, hown, hg, hl.1⟩ k_X1_77 (s_turnedPath l D cy q0 q1 q2 q3 q4 er ql qo h0 h1 h2 h3 h4 h5 h6 h7 h8 h9 h10 h11 hv0 hv1 hv2 hv3 hv4 fx fc c0 c1 c2 c3 v_7 wd (hnx) (hcn) (by omega) (by omega) (by omega) (by omega) (hv_7) (by omega)) E0_blind hK hP hD hS hA [0, 2, 3, 4] [1, 5, 6, 7, 8, 9, 10, 11, 12, 13, 14, 15, 16, 17] ⟨rfl, rfl, by decide +kernel, by decide +kernel, by decide +kernel⟩ rfl rfl (fun _ _ _ => trivial) dX1_goOn_59 rfl rfl (Nat.le_of_ble_eq_true rfl) ⟨Nat.le_of_ble_eq_true rfl, Nat.le_of_ble_eq_true rfl⟩ ⟨Nat.le_of_ble_eq_true rfl, Nat.le_of_ble_eq_true rfl⟩ (fun zr128 zu128 H locs hw128 hP9 hD9 hS9 => ?_)
              clear hP hD hS
              obtain ⟨k_129, rfl⟩ : ∃ z, z = zu128 := ⟨_, rfl⟩
              refine reW [wI (cy 1) q2 24 (fa1_1), (er, .inl (cy 4, 4, .inr (.inr (.inr (.inr (eF (ea 0) (ea 1) (ea 2) (ea 3))))))), wO (ea 0) 2 [.ref (eg 0), .ref (ef 0), .int (et 0), .int (nI (el 0)), .int (nI (ei 0))], wI (cy 1) (eg 0) 10 (gc 0), wI (cy 1) (ef 0) 7 (xc 0), wO (ea 1) 2 [.ref (eg 1), .ref (ef 1), .int (et 1), .int (nI (el 1)), .int (nI (ei 1))], wI (cy 1) (eg 1) 10 (gc 1), wI (cy 1) (ef 1) 7 (xc 1), wO (ea 2) 2 [.ref (eg 2), .ref (ef 2), .int (et 2), .int (nI (el 2)), .int (nI (ei 2))], wI (cy 1) (eg 2) 10 (gc 2), wI (cy 1) (ef 2) 7 (xc 2), wI (cy 1) (ef 3) 7 (xc 3), wO (ea 3) 2 [.ref (eg 3), .ref (ef 3), .int (et 3), .int (nI ((el 3))), .int (nI ((ei 3)))], wI (cy 1) (eg 3) 10 (gc 3), wO q0 1 [.ref q1, .ref er, .ref q2, .ref q3, .ref q4, .ref h0, .int (nI ql), .int qo], wO h0 4 [.ref h1, .ref h2, .ref h3, .ref h4, .ref h5, .ref h6, .ref h7, .ref h8, .ref h9, .ref h10, .ref h11, hv0, hv1, hv2, hv3, hv4], wI (cy 1) h7 48 (fx), wI (cy 1) h1 4 (fc)] hP9 hD9 hS9 (fun hP hD hS => ?_)
              clear hP9 hD9 hS9
              refine W.widen (k := 0) (n := 0) (Nat.le_of_ble_eq_true rfl) (Nat.le_of_ble_eq_true rfl) ?_
              replace hw128 : (zr128 = nI k_129) ∧ (pOK k_129) ∧ (k_129 < 262144) ∧ (∀ s9 : Nat, s9 < c3 → dg9 k_129 s9 = dg9 v_7 (nC9 fx s9 wd)) := hw128
              obtain ⟨f_130, f_131, f_132, f_133⟩ := hw128
              subst f_130
              refine lv_goto (tgt := 72) hx hb dX1_goOn_62 (by decide) ?_
              refine lv_ior hx hb dX1_goOn_72 ?_
              refine lv_topi (fun x_134 ex_134 => ?_)
              have hlt9 : k_129 < 262144 := by omega
              obtain rfl : x_134 = nI (262144 + k_129) := ex_134.trans (or_ans hlt9)
              have hpk_135 : pOK (262144 + k_129) := pOK_up (f_131) hlt9
              refine lv_istore (lv' := [(4, .int (nI (262144 + k_129))), (5, .ref (ea 3)), (3, .int 3), (0, .ref q0), (1, .int (nI dp)), (2, .int (nI wd))]) hx hb dX1_goOn_73 hl (by decide) rfl (fun ls hl => ?_)
              refine lv_aload_n hx hb dX1_goOn_75 rfl (lv_at hl 3 rfl) ?_
              refine va_get (D := D) (ci := 1) (v := .ref q2) (C := RX1) (T := TX1) (N := 8) hx hb hg i_X1 hown hK hP 14 rfl rfl 2 (by decide) (hg _ m_555) (fun _ h9 => h9) rfl dX1_goOn_76 ?_
              refine lv_iload_n hx hb dX1_goOn_79 rfl (lv_at hl 4 rfl) ?_
              refine lv_iconst (v := 1) hx hb dX1_goOn_80 (by decide) ?_
              refine lv_iadd hx hb dX1_goOn_81 ?_
              refine lv_topi (fun y_136 hy_136 => ?_)
              obtain rfl : y_136 = nI (dp + 1) := hy_136.trans (nI_add dp 1)
              refine lv_iconst (v := 4) hx hb dX1_goOn_82 (by decide) ?_
              refine lv_imul hx hb dX1_goOn_83 ?_
              refine lv_topi (fun y_137 hy_137 => ?_)
              obtain rfl : y_137 = nI ((dp + 1) * 4) := hy_137.trans (pk_mul ((dp + 1)) 4)
              refine lv_iload_n hx hb dX1_goOn_84 rfl (lv_at hl 2 rfl) ?_
              refine lv_iadd hx hb dX1_goOn_85 ?_
              refine lv_topi (fun y_138 hy_138 => ?_)
              obtain rfl : y_138 = nI (((dp + 1) * 4) + 3) := hy_138.trans (nI_add (((dp + 1) * 4)) 3)
              refine lv_iload hx hb dX1_goOn_86 (lv_at hl 0 rfl) ?_
              refine va_iast hx hb hK hP hD hS 0 1 rfl rfl (vp_in_nI (by omega) (by decide)) dX1_goOn_88 (fun H locs hP9 hD9 hS9 => ?_)
              clear hP hD hS
              have hP := hP9
              have hD := hD9
              have hS := hS9
              clear hP9 hD9 hS9
              obtain ⟨g_139, eg_139⟩ : ∃ y, upd fa1_1 (nI (((dp + 1) * 4) + 3) : Int32).toNatClampNeg (nI (262144 + k_129)) = y := ⟨_, rfl⟩
              rw [eg_139] at hP hD
              have hr_140 : pRow g_139 := eg_139 ▸ pRow_put (v := (262144 + k_129)) ha2_1 hpk_135
              replace hP : va_P D vwCl [wI (cy 1) q2 24 (g_139), (er, .inl (cy 4, 4, .inr (.inr (.inr (.inr (eF (ea 0) (ea 1) (ea 2) (ea 3))))))), wO (ea 0) 2 [.ref (eg 0), .ref (ef 0), .int (et 0), .int (nI (el 0)), .int (nI (ei 0))], wI (cy 1) (eg 0) 10 (gc 0), wI (cy 1) (ef 0) 7 (xc 0), wO (ea 1) 2 [.ref (eg 1), .ref (ef 1), .int (et 1), .int (nI (el 1)), .int (nI (ei 1))], wI (cy 1) (eg 1) 10 (gc 1), wI (cy 1) (ef 1) 7 (xc 1), wO (ea 2) 2 [.ref (eg 2), .ref (ef 2), .int (et 2), .int (nI (el 2)), .int (nI (ei 2))], wI (cy 1) (eg 2) 10 (gc 2), wI (cy 1) (ef 2) 7 (xc 2), wI (cy 1) (ef 3) 7 (xc 3), wO (ea 3) 2 [.ref (eg 3), .ref (ef 3), .int (et 3), .int (nI ((el 3))), .int (nI ((ei 3)))], wI (cy 1) (eg 3) 10 (gc 3), wO q0 1 [.ref q1, .ref er, .ref q2, .ref q3, .ref q4, .ref h0, .int (nI ql), .int qo], wO h0 4 [.ref h1, .ref h2, .ref h3, .ref h4, .ref h5, .ref h6, .ref h7, .ref h8, .ref h9, .ref h10, .ref h11, hv0, hv1, hv2, hv3, hv4], wI (cy 1) h7 48 (fx), wI (cy 1) h1 4 (fc)] H := hP
              replace hD : va_D A [wI (cy 1) q2 24 (g_139), (er, .inl (cy 4, 4, .inr (.inr (.inr (.inr (eF (ea 0) (ea 1) (ea 2) (ea 3))))))), wO (ea 0) 2 [.ref (eg 0), .ref (ef 0), .int (et 0), .int (nI (el 0)), .int (nI (ei 0))], wI (cy 1) (eg 0) 10 (gc 0), wI (cy 1) (ef 0) 7 (xc 0), wO (ea 1) 2 [.ref (eg 1), .ref (ef 1), .int (et 1), .int (nI (el 1)), .int (nI (ei 1))], wI (cy 1) (eg 1) 10 (gc 1), wI (cy 1) (ef 1) 7 (xc 1), wO (ea 2) 2 [.ref (eg 2), .ref (ef 2), .int (et 2), .int (nI (el 2)), .int (nI (ei 2))], wI (cy 1) (eg 2) 10 (gc 2), wI (cy 1) (ef 2) 7 (xc 2), wI (cy 1) (ef 3) 7 (xc 3), wO (ea 3) 2 [.ref (eg 3), .ref (ef 3), .int (et 3), .int (nI ((el 3))), .int (nI ((ei 3)))], wI (cy 1) (eg 3) 10 (gc 3), wO q0 1 [.ref q1, .ref er, .ref q2, .ref q3, .ref q4, .ref h0, .int (nI ql), .int qo], wO h0 4 [.ref h1, .ref h2, .ref h3, .ref h4, .ref h5, .ref h6, .ref h7, .ref h8, .ref h9, .ref h10, .ref h11, hv0, hv1, hv2, hv3, hv4], wI (cy 1) h7 48 (fx), wI (cy 1) h1 4 (fc)] := hD
              refine lv_iinc (v := 4) (lv' := [(3, .int 4), (4, .int (nI (262144 + k_129))), (5, .ref (ea 3)), (0, .ref q0), (1, .int (nI dp)), (2, .int (nI wd))]) hx hb dX1_goOn_89 hl (k := 2) rfl (by decide) (by decide) rfl (fun ls hl => ?_)
              refine lv_goto (tgt := 2) hx hb dX1_goOn_92 (by decide) ?_
              exact ih1  4 g_139 hr_140 (by omega) (pt_put (Lp := fun c9 => nxL (gc c9) dp wd (Lp c9)) hf1_1 (by omega) (by decide) (by rw [nx_1 (bR_t f_110 c_42)]; exact pt_t (pt_at (hpt 3 (by omega)) (hf2_1 (dp * 4 + 3) (by omega)) ev_7 (by omega) (by omega)) c_52 hcA (by omega) (by omega) f_133 (by omega)) eg_139) (pt_keep (b := (dp + 1) * 4) (i := 3) hf2_1 (by omega) (by omega) eg_139) (by omega) _ _ (hP.sub [14, 0, 15, 16, 17, 1, 2, 3, 4, 5, 6, 7, 8, 9, 10, 12, 13, 11] rfl) (hD.sub [14, 0, 15, 16, 17, 1, 2, 3, 4, 5, 6, 7, 8, 9, 10, 12, 13, 11] (by decide +kernel) rfl) hS ls (lv_sub hl [0, 3, 4, 5] rfl)
  exact loop1 _ 0 fph hph (by omega) (fun c9 h9 => absurd h9 (Nat.not_lt_zero c9)) (fun k9 h9 => rfl) (Nat.le_refl _) _ _ (hP.sub [0, 1, 2, 3, 4, 5, 6, 7, 8, 9, 10, 11, 12, 13, 14, 15, 16, 17] rfl) (hD.sub [0, 1, 2, 3, 4, 5, 6, 7, 8, 9, 10, 11, 12, 13, 14, 15, 16, 17] (by decide +kernel) rfl) hS ls (lv_sub hl [0, 1, 2, 3] rfl)
theorem gdX1_pardonsWithLast_0 : decode cX1_pardonsWithLast 0 = .ok (.iconst 0, 1) ∧ decode cX1_pardonsWithLast 1 = .ok (.istore_n 3, 1) ∧ decode cX1_pardonsWithLast 2 = .ok (.iload_n 3, 1) ∧ decode cX1_pardonsWithLast 3 = .ok (.aload_n 0, 1) ∧ decode cX1_pardonsWithLast 4 = .ok (.getfield 31, 3) ∧ decode cX1_pardonsWithLast 7 = .ok (.getfield 43, 3) ∧ decode cX1_pardonsWithLast 10 = .ok (.iconst 1, 1) ∧ decode cX1_pardonsWithLast 11 = .ok (.iaload, 1) ∧ decode cX1_pardonsWithLast 12 = .ok (.if_icmp .ge 88, 3) ∧ decode cX1_pardonsWithLast 100 = .ok (.iconst 1, 1) ∧ decode cX1_pardonsWithLast 101 = .ok (.ireturn, 1) ∧ decode cX1_pardonsWithLast 15 = .ok (.aload_n 0, 1) := by decide +kernel
theorem dX1_pardonsWithLast_0 : decode cX1_pardonsWithLast 0 = .ok (.iconst 0, 1) := gdX1_pardonsWithLast_0.1
theorem dX1_pardonsWithLast_1 : decode cX1_pardonsWithLast 1 = .ok (.istore_n 3, 1) := gdX1_pardonsWithLast_0.2.1
theorem dX1_pardonsWithLast_2 : decode cX1_pardonsWithLast 2 = .ok (.iload_n 3, 1) := gdX1_pardonsWithLast_0.2.2.1
theorem dX1_pardonsWithLast_3 : decode cX1_pardonsWithLast 3 = .ok (.aload_n 0, 1) := gdX1_pardonsWithLast_0.2.2.2.1
theorem dX1_pardonsWithLast_4 : decode cX1_pardonsWithLast 4 = .ok (.getfield 31, 3) := gdX1_pardonsWithLast_0.2.2.2.2.1
theorem dX1_pardonsWithLast_7 : decode cX1_pardonsWithLast 7 = .ok (.getfield 43, 3) := gdX1_pardonsWithLast_0.2.2.2.2.2.1
theorem dX1_pardonsWithLast_10 : decode cX1_pardonsWithLast 10 = .ok (.iconst 1, 1) := gdX1_pardonsWithLast_0.2.2.2.2.2.2.1
theorem dX1_pardonsWithLast_11 : decode cX1_pardonsWithLast 11 = .ok (.iaload, 1) := gdX1_pardonsWithLast_0.2.2.2.2.2.2.2.1
theorem dX1_pardonsWithLast_12 : decode cX1_pardonsWithLast 12 = .ok (.if_icmp .ge 88, 3) := gdX1_pardonsWithLast_0.2.2.2.2.2.2.2.2.1
theorem dX1_pardonsWithLast_100 : decode cX1_pardonsWithLast 100 = .ok (.iconst 1, 1) := gdX1_pardonsWithLast_0.2.2.2.2.2.2.2.2.2.1
theorem dX1_pardonsWithLast_101 : decode cX1_pardonsWithLast 101 = .ok (.ireturn, 1) := gdX1_pardonsWithLast_0.2.2.2.2.2.2.2.2.2.2.1
theorem dX1_pardonsWithLast_15 : decode cX1_pardonsWithLast 15 = .ok (.aload_n 0, 1) := gdX1_pardonsWithLast_0.2.2.2.2.2.2.2.2.2.2.2
theorem gdX1_pardonsWithLast_16 : decode cX1_pardonsWithLast 16 = .ok (.getfield 15, 3) ∧ decode cX1_pardonsWithLast 19 = .ok (.iload_n 1, 1) ∧ decode cX1_pardonsWithLast 20 = .ok (.iconst 4, 1) ∧ decode cX1_pardonsWithLast 21 = .ok (.imul, 1) ∧ decode cX1_pardonsWithLast 22 = .ok (.iload_n 3, 1) ∧ decode cX1_pardonsWithLast 23 = .ok (.iadd, 1) ∧ decode cX1_pardonsWithLast 24 = .ok (.iaload, 1) ∧ decode cX1_pardonsWithLast 25 = .ok (.istore 4, 2) ∧ decode cX1_pardonsWithLast 27 = .ok (.aload_n 0, 1) ∧ decode cX1_pardonsWithLast 28 = .ok (.getfield 30, 3) ∧ decode cX1_pardonsWithLast 31 = .ok (.iload_n 3, 1) ∧ decode cX1_pardonsWithLast 32 = .ok (.aaload, 1) := by decide +kernel
theorem dX1_pardonsWithLast_16 : decode cX1_pardonsWithLast 16 = .ok (.getfield 15, 3) := gdX1_pardonsWithLast_16.1
theorem dX1_pardonsWithLast_19 : decode cX1_pardonsWithLast 19 = .ok (.iload_n 1, 1) := gdX1_pardonsWithLast_16.2.1
theorem dX1_pardonsWithLast_20 : decode cX1_pardonsWithLast 20 = .ok (.iconst 4, 1) := gdX1_pardonsWithLast_16.2.2.1
theorem dX1_pardonsWithLast_21 : decode cX1_pardonsWithLast 21 = .ok (.imul, 1) := gdX1_pardonsWithLast_16.2.2.2.1
theorem dX1_pardonsWithLast_22 : decode cX1_pardonsWithLast 22 = .ok (.iload_n 3, 1) := gdX1_pardonsWithLast_16.2.2.2.2.1
theorem dX1_pardonsWithLast_23 : decode cX1_pardonsWithLast 23 = .ok (.iadd, 1) := gdX1_pardonsWithLast_16.2.2.2.2.2.1
theorem dX1_pardonsWithLast_24 : decode cX1_pardonsWithLast 24 = .ok (.iaload, 1) := gdX1_pardonsWithLast_16.2.2.2.2.2.2.1
theorem dX1_pardonsWithLast_25 : decode cX1_pardonsWithLast 25 = .ok (.istore 4, 2) := gdX1_pardonsWithLast_16.2.2.2.2.2.2.2.1
theorem dX1_pardonsWithLast_27 : decode cX1_pardonsWithLast 27 = .ok (.aload_n 0, 1) := gdX1_pardonsWithLast_16.2.2.2.2.2.2.2.2.1
theorem dX1_pardonsWithLast_28 : decode cX1_pardonsWithLast 28 = .ok (.getfield 30, 3) := gdX1_pardonsWithLast_16.2.2.2.2.2.2.2.2.2.1
theorem dX1_pardonsWithLast_31 : decode cX1_pardonsWithLast 31 = .ok (.iload_n 3, 1) := gdX1_pardonsWithLast_16.2.2.2.2.2.2.2.2.2.2.1
theorem dX1_pardonsWithLast_32 : decode cX1_pardonsWithLast 32 = .ok (.aaload, 1) := gdX1_pardonsWithLast_16.2.2.2.2.2.2.2.2.2.2.2
theorem gdX1_pardonsWithLast_33 : decode cX1_pardonsWithLast 33 = .ok (.astore 5, 2) ∧ decode cX1_pardonsWithLast 35 = .ok (.aload 5, 2) ∧ decode cX1_pardonsWithLast 37 = .ok (.iload_n 1, 1) ∧ decode cX1_pardonsWithLast 38 = .ok (.iload_n 2, 1) ∧ decode cX1_pardonsWithLast 39 = .ok (.invokevirtual 70, 3) ∧ decode cX1_pardonsWithLast 42 = .ok (.istore 6, 2) ∧ decode cX1_pardonsWithLast 44 = .ok (.iload 6, 2) ∧ decode cX1_pardonsWithLast 46 = .ok (.ifCond .ne 13, 3) ∧ decode cX1_pardonsWithLast 59 = .ok (.aload_n 0, 1) ∧ decode cX1_pardonsWithLast 60 = .ok (.getfield 31, 3) ∧ decode cX1_pardonsWithLast 63 = .ok (.iload 6, 2) ∧ decode cX1_pardonsWithLast 65 = .ok (.ifCond .eq 15, 3) := by decide +kernel
theorem dX1_pardonsWithLast_33 : decode cX1_pardonsWithLast 33 = .ok (.astore 5, 2) := gdX1_pardonsWithLast_33.1
theorem dX1_pardonsWithLast_35 : decode cX1_pardonsWithLast 35 = .ok (.aload 5, 2) := gdX1_pardonsWithLast_33.2.1
theorem dX1_pardonsWithLast_37 : decode cX1_pardonsWithLast 37 = .ok (.iload_n 1, 1) := gdX1_pardonsWithLast_33.2.2.1
theorem dX1_pardonsWithLast_38 : decode cX1_pardonsWithLast 38 = .ok (.iload_n 2, 1) := gdX1_pardonsWithLast_33.2.2.2.1
theorem dX1_pardonsWithLast_39 : decode cX1_pardonsWithLast 39 = .ok (.invokevirtual 70, 3) := gdX1_pardonsWithLast_33.2.2.2.2.1
theorem dX1_pardonsWithLast_42 : decode cX1_pardonsWithLast 42 = .ok (.istore 6, 2) := gdX1_pardonsWithLast_33.2.2.2.2.2.1
theorem dX1_pardonsWithLast_44 : decode cX1_pardonsWithLast 44 = .ok (.iload 6, 2) := gdX1_pardonsWithLast_33.2.2.2.2.2.2.1
theorem dX1_pardonsWithLast_46 : decode cX1_pardonsWithLast 46 = .ok (.ifCond .ne 13, 3) := gdX1_pardonsWithLast_33.2.2.2.2.2.2.2.1
theorem dX1_pardonsWithLast_59 : decode cX1_pardonsWithLast 59 = .ok (.aload_n 0, 1) := gdX1_pardonsWithLast_33.2.2.2.2.2.2.2.2.1
theorem dX1_pardonsWithLast_60 : decode cX1_pardonsWithLast 60 = .ok (.getfield 31, 3) := gdX1_pardonsWithLast_33.2.2.2.2.2.2.2.2.2.1
theorem dX1_pardonsWithLast_63 : decode cX1_pardonsWithLast 63 = .ok (.iload 6, 2) := gdX1_pardonsWithLast_33.2.2.2.2.2.2.2.2.2.2.1
theorem dX1_pardonsWithLast_65 : decode cX1_pardonsWithLast 65 = .ok (.ifCond .eq 15, 3) := gdX1_pardonsWithLast_33.2.2.2.2.2.2.2.2.2.2.2
theorem gdX1_pardonsWithLast_68 : decode cX1_pardonsWithLast 68 = .ok (.aload_n 0, 1) ∧ decode cX1_pardonsWithLast 69 = .ok (.aload 5, 2) ∧ decode cX1_pardonsWithLast 71 = .ok (.iload 4, 2) ∧ decode cX1_pardonsWithLast 73 = .ok (.iload_n 2, 1) ∧ decode cX1_pardonsWithLast 74 = .ok (.invokevirtual 90, 3) := by decide +kernel
theorem dX1_pardonsWithLast_68 : decode cX1_pardonsWithLast 68 = .ok (.aload_n 0, 1) := gdX1_pardonsWithLast_68.1
theorem dX1_pardonsWithLast_69 : decode cX1_pardonsWithLast 69 = .ok (.aload 5, 2) := gdX1_pardonsWithLast_68.2.1
theorem dX1_pardonsWithLast_71 : decode cX1_pardonsWithLast 71 = .ok (.iload 4, 2) := gdX1_pardonsWithLast_68.2.2.1
theorem dX1_pardonsWithLast_73 : decode cX1_pardonsWithLast 73 = .ok (.iload_n 2, 1) := gdX1_pardonsWithLast_68.2.2.2.1
theorem dX1_pardonsWithLast_74 : decode cX1_pardonsWithLast 74 = .ok (.invokevirtual 90, 3) := gdX1_pardonsWithLast_68.2.2.2.2
theorem k_X1_90 : xV RX1 RX1 90 yX1_endState cX1_endState 4 (some .int) 3 := ⟨⟨m_1163, m_1165, m_40, m_143, m_1166⟩, rfl, by decide, by decide, by decide +kernel⟩
theorem dX1_pardonsWithLast_77 : decode cX1_pardonsWithLast 77 = .ok (.goto 9, 3) := by decide +kernel
theorem dX1_pardonsWithLast_86 : decode cX1_pardonsWithLast 86 = .ok (.invokevirtual 94, 3) := by decide +kernel
theorem k_X1_94 : xV RX1 RX4 94 yX4_isYesState cX4_isYesState 2 (some .boolean) 1 := ⟨⟨m_1174, m_1077, m_1078, m_137, m_1079⟩, rfl, by decide, by decide, by decide +kernel⟩
theorem gdX1_pardonsWithLast_89 : decode cX1_pardonsWithLast 89 = .ok (.ifCond .ne 5, 3) ∧ decode cX1_pardonsWithLast 94 = .ok (.iinc 3 1, 3) ∧ decode cX1_pardonsWithLast 97 = .ok (.goto (-95), 3) ∧ decode cX1_pardonsWithLast 92 = .ok (.iconst 0, 1) ∧ decode cX1_pardonsWithLast 93 = .ok (.ireturn, 1) ∧ decode cX1_pardonsWithLast 49 = .ok (.iload 4, 2) ∧ decode cX1_pardonsWithLast 51 = .ok (.ldc 73, 2) ∧ decode cX1_pardonsWithLast 53 = .ok (.iand, 1) ∧ decode cX1_pardonsWithLast 54 = .ok (.ifCond .ne 5, 3) ∧ decode cX1_pardonsWithLast 80 = .ok (.iload 4, 2) ∧ decode cX1_pardonsWithLast 82 = .ok (.iconst 0, 1) ∧ decode cX1_pardonsWithLast 83 = .ok (.invokestatic 87, 3) := by decide +kernel
theorem dX1_pardonsWithLast_89 : decode cX1_pardonsWithLast 89 = .ok (.ifCond .ne 5, 3) := gdX1_pardonsWithLast_89.1
theorem dX1_pardonsWithLast_94 : decode cX1_pardonsWithLast 94 = .ok (.iinc 3 1, 3) := gdX1_pardonsWithLast_89.2.1
theorem dX1_pardonsWithLast_97 : decode cX1_pardonsWithLast 97 = .ok (.goto (-95), 3) := gdX1_pardonsWithLast_89.2.2.1
theorem dX1_pardonsWithLast_92 : decode cX1_pardonsWithLast 92 = .ok (.iconst 0, 1) := gdX1_pardonsWithLast_89.2.2.2.1
theorem dX1_pardonsWithLast_93 : decode cX1_pardonsWithLast 93 = .ok (.ireturn, 1) := gdX1_pardonsWithLast_89.2.2.2.2.1
theorem dX1_pardonsWithLast_49 : decode cX1_pardonsWithLast 49 = .ok (.iload 4, 2) := gdX1_pardonsWithLast_89.2.2.2.2.2.1
theorem dX1_pardonsWithLast_51 : decode cX1_pardonsWithLast 51 = .ok (.ldc 73, 2) := gdX1_pardonsWithLast_89.2.2.2.2.2.2.1
theorem dX1_pardonsWithLast_53 : decode cX1_pardonsWithLast 53 = .ok (.iand, 1) := gdX1_pardonsWithLast_89.2.2.2.2.2.2.2.1
theorem dX1_pardonsWithLast_54 : decode cX1_pardonsWithLast 54 = .ok (.ifCond .ne 5, 3) := gdX1_pardonsWithLast_89.2.2.2.2.2.2.2.2.1
theorem dX1_pardonsWithLast_80 : decode cX1_pardonsWithLast 80 = .ok (.iload 4, 2) := gdX1_pardonsWithLast_89.2.2.2.2.2.2.2.2.2.1
theorem dX1_pardonsWithLast_82 : decode cX1_pardonsWithLast 82 = .ok (.iconst 0, 1) := gdX1_pardonsWithLast_89.2.2.2.2.2.2.2.2.2.2.1
theorem dX1_pardonsWithLast_83 : decode cX1_pardonsWithLast 83 = .ok (.invokestatic 87, 3) := gdX1_pardonsWithLast_89.2.2.2.2.2.2.2.2.2.2.2
theorem dX1_pardonsWithLast_57 : decode cX1_pardonsWithLast 57 = .ok (.iconst 0, 1) := by decide +kernel
theorem dX1_pardonsWithLast_58 : decode cX1_pardonsWithLast 58 = .ok (.ireturn, 1) := by decide +kernel
set_option maxHeartbeats 1000000 in
set_option maxRecDepth 100000 in
theorem s_pardonsWithLast (l : Launch) (D : va_G) (cy : Nat → ClassId) (q0 : Nat) (q1 : Nat) (q2 : Nat) (q3 : Nat) (q4 : Nat) (er : Nat) (ql : Nat) (qo : Int32) (fph : Nat → Int32) (h0 : Nat) (h1 : Nat) (h2 : Nat) (h3 : Nat) (h4 : Nat) (h5 : Nat) (h6 : Nat) (h7 : Nat) (h8 : Nat) (h9 : Nat) (h10 : Nat) (h11 : Nat) (hv1 : Value) (hv2 : Value) (hv3 : Value) (hv4 : Value) (ys : Int32) (fx : Nat → Int32) (fc : Nat → Int32) (c0 : Nat) (c1 : Nat) (c2 : Nat) (c3 : Nat) (ea : Nat → Nat) (eg : Nat → Nat) (ef : Nat → Nat) (et : Nat → Int32) (el : Nat → Nat) (ei : Nat → Nat) (gc : Nat → Nat → Int32) (xc : Nat → Nat → Int32) (dp : Nat) (wd : Nat) (Lp : Nat → List Int32) (hph : pRow fph) (hnx : rng fx 48 5) (hcn : cntOK fc c0 c1 c2 c3) (hc0 : c0 ≤ 8) (hc1 : c1 ≤ 4) (hc2 : c2 ≤ 4) (hc3 : c3 ≤ 6) (hdp : dp ≤ 4) (hwd : wd ≤ 7) (hcl9 : cl9 fx ys c3) (hpt : ∀ c9 : Nat, c9 < c1 → ptR fx c3 (et c9) (Lp c9) (fph (dp * 4 + c9)).toNatClampNeg) (hLw : ∀ c9 : Nat, ∀ x9, c9 < c1 → x9 ∈ Lp c9 → ∃ j9 : Nat, j9 ≤ 7 ∧ x9 = nI j9) : XMi l D (tyL cy) E0 yX1_pardonsWithLast cX1_pardonsWithLast 7 (some .boolean) (rmk 3 0 0) [.ref q0, .int (nI dp), .int (nI wd)] [wO q0 1 [.ref q1, .ref er, .ref q2, .ref q3, .ref q4, .ref h0, .int (nI ql), .int qo], wI (cy 1) q2 24 (fph), wO h0 4 [.ref h1, .ref h2, .ref h3, .ref h4, .ref h5, .ref h6, .ref h7, .ref h8, .ref h9, .ref h10, .ref h11, .int ys, hv1, hv2, hv3, hv4], wI (cy 1) h7 48 (fx), wI (cy 1) h1 4 (fc), (er, .inl (cy 4, 4, .inr (.inr (.inr (.inr (eF (ea 0) (ea 1) (ea 2) (ea 3))))))), wO (ea 0) 2 [.ref (eg 0), .ref (ef 0), .int (et 0), .int (nI (el 0)), .int (nI (ei 0))], wI (cy 1) (eg 0) 10 (gc 0), wI (cy 1) (ef 0) 7 (xc 0), wO (ea 1) 2 [.ref (eg 1), .ref (ef 1), .int (et 1), .int (nI (el 1)), .int (nI (ei 1))], wI (cy 1) (eg 1) 10 (gc 1), wI (cy 1) (ef 1) 7 (xc 1), wO (ea 2) 2 [.ref (eg 2), .ref (ef 2), .int (et 2), .int (nI (el 2)), .int (nI (ei 2))], wI (cy 1) (eg 2) 10 (gc 2), wI (cy 1) (ef 2) 7 (xc 2), wO (ea 3) 2 [.ref (eg 3), .ref (ef 3), .int (et 3), .int (nI (el 3)), .int (nI (ei 3))], wI (cy 1) (eg 3) 10 (gc 3), wI (cy 1) (ef 3) 7 (xc 3)] (fun (r : Int32) (_ : Unit) => (r = 0 ∨ r = 1) ∧ (bR r (alF (fun c9 => pdL fx ys (et c9) (nxL (gc c9) dp wd (Lp c9))) c1))) (fun (_ : Unit) => [wO q0 1 [.ref q1, .ref er, .ref q2, .ref q3, .ref q4, .ref h0, .int (nI ql), .int qo], wI (cy 1) q2 24 (fph), wO h0 4 [.ref h1, .ref h2, .ref h3, .ref h4, .ref h5, .ref h6, .ref h7, .ref h8, .ref h9, .ref h10, .ref h11, .int ys, hv1, hv2, hv3, hv4], wI (cy 1) h7 48 (fx), wI (cy 1) h1 4 (fc), (er, .inl (cy 4, 4, .inr (.inr (.inr (.inr (eF (ea 0) (ea 1) (ea 2) (ea 3))))))), wO (ea 0) 2 [.ref (eg 0), .ref (ef 0), .int (et 0), .int (nI (el 0)), .int (nI (ei 0))], wI (cy 1) (eg 0) 10 (gc 0), wI (cy 1) (ef 0) 7 (xc 0), wO (ea 1) 2 [.ref (eg 1), .ref (ef 1), .int (et 1), .int (nI (el 1)), .int (nI (ei 1))], wI (cy 1) (eg 1) 10 (gc 1), wI (cy 1) (ef 1) 7 (xc 1), wO (ea 2) 2 [.ref (eg 2), .ref (ef 2), .int (et 2), .int (nI (el 2)), .int (nI (ei 2))], wI (cy 1) (eg 2) 10 (gc 2), wI (cy 1) (ef 2) 7 (xc 2), wO (ea 3) 2 [.ref (eg 3), .ref (ef 3), .int (et 3), .int (nI (el 3)), .int (nI (ei 3))], wI (cy 1) (eg 3) 10 (gc 3), wI (cy 1) (ef 3) 7 (xc 3)]) := by
  refine XMi.start (by decide) (Nat.le_of_ble_eq_true rfl) ?_
  intro p e s m below meth c args A ls Q hat hQ
  obtain ⟨hx, hb, hr, hml, hown, hg, hlocks, hin, hK, hA, hP, hD, hS, hE, hl⟩ := hat
  have hown : s.vm.findClass RX1 = some m.cls := hown
  have hl : lv_has ls 7 [(0, .ref q0), (1, .int (nI dp)), (2, .int (nI wd))] := hl
  refine lv_iconst (v := 0) hx hb dX1_pardonsWithLast_0 (by decide) ?_
  refine lv_istore_n (lv' := [(3, .int 0), (0, .ref q0), (1, .int (nI dp)), (2, .int (nI wd))]) hx hb dX1_pardonsWithLast_1 rfl hl (by decide) rfl (fun ls hl => ?_)
  have loop1 : ∀ (zn : Nat) (i1 : Nat), (i1 ≤ c1) → (alF (fun c9 => pdL fx ys (et c9) (nxL (gc c9) dp wd (Lp c9))) i1 = true) → c1 - i1 + 1 ≤ zn → ∀ (H : Heap) (locs : List Loc), va_P D vwCl [wO q0 1 [.ref q1, .ref er, .ref q2, .ref q3, .ref q4, .ref h0, .int (nI ql), .int qo], wI (cy 1) q2 24 (fph), wO h0 4 [.ref h1, .ref h2, .ref h3, .ref h4, .ref h5, .ref h6, .ref h7, .ref h8, .ref h9, .ref h10, .ref h11, .int ys, hv1, hv2, hv3, hv4], wI (cy 1) h7 48 (fx), wI (cy 1) h1 4 (fc), (er, .inl (cy 4, 4, .inr (.inr (.inr (.inr (eF (ea 0) (ea 1) (ea 2) (ea 3))))))), wO (ea 0) 2 [.ref (eg 0), .ref (ef 0), .int (et 0), .int (nI (el 0)), .int (nI (ei 0))], wI (cy 1) (eg 0) 10 (gc 0), wI (cy 1) (ef 0) 7 (xc 0), wO (ea 1) 2 [.ref (eg 1), .ref (ef 1), .int (et 1), .int (nI (el 1)), .int (nI (ei 1))], wI (cy 1) (eg 1) 10 (gc 1), wI (cy 1) (ef 1) 7 (xc 1), wO (ea 2) 2 [.ref (eg 2), .ref (ef 2), .int (et 2), .int (nI (el 2)), .int (nI (ei 2))], wI (cy 1) (eg 2) 10 (gc 2), wI (cy 1) (ef 2) 7 (xc 2), wO (ea 3) 2 [.ref (eg 3), .ref (ef 3), .int (et 3), .int (nI (el 3)), .int (nI (ei 3))], wI (cy 1) (eg 3) 10 (gc 3), wI (cy 1) (ef 3) 7 (xc 3)] H → va_D A [wO q0 1 [.ref q1, .ref er, .ref q2, .ref q3, .ref q4, .ref h0, .int (nI ql), .int qo], wI (cy 1) q2 24 (fph), wO h0 4 [.ref h1, .ref h2, .ref h3, .ref h4, .ref h5, .ref h6, .ref h7, .ref h8, .ref h9, .ref h10, .ref h11, .int ys, hv1, hv2, hv3, hv4], wI (cy 1) h7 48 (fx), wI (cy 1) h1 4 (fc), (er, .inl (cy 4, 4, .inr (.inr (.inr (.inr (eF (ea 0) (ea 1) (ea 2) (ea 3))))))), wO (ea 0) 2 [.ref (eg 0), .ref (ef 0), .int (et 0), .int (nI (el 0)), .int (nI (ei 0))], wI (cy 1) (eg 0) 10 (gc 0), wI (cy 1) (ef 0) 7 (xc 0), wO (ea 1) 2 [.ref (eg 1), .ref (ef 1), .int (et 1), .int (nI (el 1)), .int (nI (ei 1))], wI (cy 1) (eg 1) 10 (gc 1), wI (cy 1) (ef 1) 7 (xc 1), wO (ea 2) 2 [.ref (eg 2), .ref (ef 2), .int (et 2), .int (nI (el 2)), .int (nI (ei 2))], wI (cy 1) (eg 2) 10 (gc 2), wI (cy 1) (ef 2) 7 (xc 2), wO (ea 3) 2 [.ref (eg 3), .ref (ef 3), .int (et 3), .int (nI (el 3)), .int (nI (ei 3))], wI (cy 1) (eg 3) 10 (gc 3), wI (cy 1) (ef 3) 7 (xc 3)] → va_S A s.heap H locs → ∀ ls : Array Slot, lv_has ls 7 [(3, .int (nI i1)), (0, .ref q0), (1, .int (nI dp)), (2, .int (nI wd))] → W p l e (rmk 3 0 0) s m args below meth c H locs 0 0 Q (F0 m 2 ls []) := by
    try clear hP hD hS
    intro zn
    induction zn with
    | zero => intro i1 _ _ hz; exact absurd hz (by omega)
    | succ zn ih1 =>
      intro i1 hf0_1 hf1_1 hmu1 H locs hP hD hS ls hl
      refine lv_iload_n hx hb dX1_pardonsWithLast_2 rfl (lv_at hl 0 rfl) ?_
      refine lv_aload_n hx hb dX1_pardonsWithLast_3 rfl (lv_at hl 1 rfl) ?_
      refine va_get (D := D) (ci := 1) (v := .ref h0) (C := RX1) (T := TX1) (N := 8) hx hb hg i_X1 hown hK hP 0 rfl rfl 5 (by decide) (hg _ m_558) (fun _ h9 => h9) rfl dX1_pardonsWithLast_4 ?_
      refine va_get (D := D) (ci := 4) (v := .ref h1) (C := RX4) (T := TX4) (N := 16) hx hb hg i_X4 hown hK hP 2 rfl rfl 0 (by decide) (hg _ m_331) (fun _ h9 => h9) rfl dX1_pardonsWithLast_7 ?_
      refine lv_iconst (v := 1) hx hb dX1_pardonsWithLast_10 (by decide) ?_
      refine va_iald hx hb hK hP 4 1 rfl rfl (by unfold vp_in; decide) dX1_pardonsWithLast_11 ?_
      refine lv_topi (fun y_2 hy_2 => ?_)
      obtain rfl : y_2 = nI c1 := hy_2.trans hcn.2.1
      refine lv_icmp_ge (tgt := 100) hx hb dX1_pardonsWithLast_12 (by decide) (fun c_3 => ?_) (fun c_3 => ?_)
      · have q_4 : c1 ≤ i1 := q_le (a := c1) (b := i1) rfl rfl (by omega) (by omega) c_3
        refine lv_iconst (v := 1) hx hb dX1_pardonsWithLast_100 (by decide) ?_
        exact x_zret hQ hx hb hr hlocks hK hP hD hS rfl dX1_pardonsWithLast_101 () (⟨(Or.inr rfl), bR_1 (by have h9 := hf1_1; rwa [show i1 = c1 by omega] at h9)⟩) [0, 1, 2, 3, 4, 5, 6, 7, 8, 9, 10, 11, 12, 13, 14, 15, 16, 17] (by decide +kernel) rfl (Nat.le_of_ble_eq_true rfl) (Nat.le_of_ble_eq_true rfl)
      · have q_4 : i1 < c1 := q_nle (a := c1) (b := i1) rfl rfl (by omega) (by omega) c_3
        refine lv_aload_n hx hb dX1_pardonsWithLast_15 rfl (lv_at hl 1 rfl) ?_
        refine va_get (D := D) (ci := 1) (v := .ref q2) (C := RX1) (T := TX1) (N := 8) hx hb hg i_X1 hown hK hP 0 rfl rfl 2 (by decide) (hg _ m_555) (fun _ h9 => h9) rfl dX1_pardonsWithLast_16 ?_
        refine lv_iload_n hx hb dX1_pardonsWithLast_19 rfl (lv_at hl 2 rfl) ?_
        refine lv_iconst (v := 4) hx hb dX1_pardonsWithLast_20 (by decide) ?_
        refine lv_imul hx hb dX1_pardonsWithLast_21 ?_
        refine lv_topi (fun y_5 hy_5 => ?_)
        obtain rfl : y_5 = nI (dp * 4) := hy_5.trans (pk_mul dp 4)
        refine lv_iload_n hx hb dX1_pardonsWithLast_22 rfl (lv_at hl 0 rfl) ?_
        refine lv_iadd hx hb dX1_pardonsWithLast_23 ?_
        refine lv_topi (fun y_6 hy_6 => ?_)
        obtain rfl : y_6 = nI ((dp * 4) + i1) := hy_6.trans (nI_add ((dp * 4)) i1)
        refine va_iald hx hb hK hP 1 1 rfl rfl (vp_in_nI (by omega) (by decide)) dX1_pardonsWithLast_24 ?_
        obtain ⟨v_7, hv_7, ev_7⟩ := pRow_at hph (i := ((dp * 4) + i1)) (by omega)
        have hbv_7 := hv_7.1
        refine lv_topi (fun y_8 hy_8 => ?_)
        obtain rfl : y_8 = nI v_7 := hy_8.trans ev_7
        refine lv_istore (lv' := [(4, .int (nI v_7)), (3, .int (nI i1)), (0, .ref q0), (1, .int (nI dp)), (2, .int (nI wd))]) hx hb dX1_pardonsWithLast_25 hl (by decide) rfl (fun ls hl => ?_)
        refine lv_aload_n hx hb dX1_pardonsWithLast_27 rfl (lv_at hl 2 rfl) ?_
        refine va_get (D := D) (ci := 1) (v := .ref er) (C := RX1) (T := TX1) (N := 8) hx hb hg i_X1 hown hK hP 0 rfl rfl 1 (by decide) (hg _ m_554) (fun _ h9 => h9) rfl dX1_pardonsWithLast_28 ?_
        refine lv_iload_n hx hb dX1_pardonsWithLast_31 rfl (lv_at hl 1 rfl) ?_
        rcases (show i1 = 0 ∨ i1 = 1 ∨ i1 = 2 ∨ i1 = 3 by omega) with hsp | hsp | hsp | hsp
        · subst hsp
          refine va_aldq hx hb hK hP 5 4 rfl rfl (by unfold vp_in; decide) dX1_pardonsWithLast_32 ?_
          refine W.eq (g2 := F0 m 33 ls [.ref (ea 0)]) rfl ?_
          refine lv_astore (lv' := [(5, .ref (ea 0)), (4, .int (nI v_7)), (3, .int 0), (0, .ref q0), (1, .int (nI dp)), (2, .int (nI wd))]) hx hb dX1_pardonsWithLast_33 hl (by decide) rfl (fun ls hl => ?_)
          refine lv_aload hx hb dX1_pardonsWithLast_35 (lv_at hl 0 rfl) ?_
          refine lv_iload_n hx hb dX1_pardonsWithLast_37 rfl (lv_at hl 4 rfl) ?_
          refine lv_iload_n hx hb dX1_pardonsWithLast_38 rfl (lv_at hl 5 rfl) ?_
          refine x_callVi (q := (RX2, TX2, 5)) (ci := 2) (q0 := 0) (wr := [wO q0 1 [.ref q1, .ref er, .ref q2, .ref q3, .ref q4, .ref h0, .int (nI ql), .int qo], wI (cy 1) q2 24 (fph), wO h0 4 [.ref h1, .ref h2, .ref h3, .ref h4, .ref h5, .ref h6, .ref h7, .ref h8, .ref h9, .ref h10, .ref h11, .int ys, hv1, hv2, hv3, hv4], wI (cy 1) h7 48 (fx), wI (cy 1) h1 4 (fc), (er, .inl (cy 4, 4, .inr (.inr (.inr (.inr (eF (ea 0) (ea 1) (ea 2) (ea 3))))))), wI (cy 1) (ef 0) 7 (xc 0), wO (ea 1) 2 [.ref (eg 1), .ref (ef 1), .int (et 1), .int (nI (el 1)), .int (nI (ei 1))], wI (cy 1) (eg 1) 10 (gc 1), wI (cy 1) (ef 1) 7 (xc 1), wO (ea 2) 2 [.ref (eg 2), .ref (ef 2), .int (et 2), .int (nI (el 2)), .int (nI (ei 2))], wI (cy 1) (eg 2) 10 (gc 2), wI (cy 1) (ef 2) 7 (xc 2), wO (ea 3) 2 [.ref (eg 3), .ref (ef 3), .int (et 3), .int (nI (el 3)), .int (nI (ei 3))], wI (cy 1) (eg 3) 10 (gc 3), wI (cy 1) (ef 3) 7 (xc 3)]) (rest := []) ⟨hx, hb, hml, hown, hg, hl.1⟩ k_X1_70 (s_comesBack l D cy (ea 0) (eg 0) (ef 0) (et 0) ((el 0)) ((ei 0)) (gc 0) dp (nI wd) (by omega)) E0_blind hK hP hD hS hA [6, 7] [0, 1, 2, 3, 4, 5, 8, 9, 10, 11, 12, 13, 14, 15, 16, 17] ⟨rfl, rfl, by decide +kernel, by decide +kernel, by decide +kernel⟩ rfl rfl (fun _ _ _ => trivial) dX1_pardonsWithLast_39 rfl rfl (Nat.le_of_ble_eq_true rfl) ⟨Nat.le_of_ble_eq_true rfl, Nat.le_of_ble_eq_true rfl⟩ ⟨Nat.le_of_ble_eq_true rfl, Nat.le_of_ble_eq_true rfl⟩ (fun zr9 zu9 H locs hw9 hP9 hD9 hS9 => ?_)
          clear hP hD hS
          refine reW [wO q0 1 [.ref q1, .ref er, .ref q2, .ref q3, .ref q4, .ref h0, .int (nI ql), .int qo], wI (cy 1) q2 24 (fph), wO h0 4 [.ref h1, .ref h2, .ref h3, .ref h4, .ref h5, .ref h6, .ref h7, .ref h8, .ref h9, .ref h10, .ref h11, .int ys, hv1, hv2, hv3, hv4], wI (cy 1) h7 48 (fx), wI (cy 1) h1 4 (fc), (er, .inl (cy 4, 4, .inr (.inr (.inr (.inr (eF (ea 0) (ea 1) (ea 2) (ea 3))))))), wI (cy 1) (ef 0) 7 (xc 0), wO (ea 1) 2 [.ref (eg 1), .ref (ef 1), .int (et 1), .int (nI (el 1)), .int (nI (ei 1))], wI (cy 1) (eg 1) 10 (gc 1), wI (cy 1) (ef 1) 7 (xc 1), wO (ea 2) 2 [.ref (eg 2), .ref (ef 2), .int (et 2), .int (nI (el 2)), .int (nI (ei 2))], wI (cy 1) (eg 2) 10 (gc 2), wI (cy 1) (ef 2) 7 (xc 2), wO (ea 3) 2 [.ref (eg 3), .ref (ef 3), .int (et 3), .int (nI (el 3)), .int (nI (ei 3))], wI (cy 1) (eg 3) 10 (gc 3), wI (cy 1) (ef 3) 7 (xc 3), wO (ea 0) 2 [.ref (eg 0), .ref (ef 0), .int (et 0), .int (nI ((el 0))), .int (nI ((ei 0)))], wI (cy 1) (eg 0) 10 (gc 0)] hP9 hD9 hS9 (fun hP hD hS => ?_)
          clear hP9 hD9 hS9
          refine W.widen (k := 0) (n := 0) (Nat.le_of_ble_eq_true rfl) (Nat.le_of_ble_eq_true rfl) ?_
          replace hw9 : (zr9 = 0 ∨ zr9 = 1) ∧ (bR zr9 (gB ((gc 0) dp) (nI wd))) := hw9
          obtain ⟨f_10, f_11⟩ := hw9
          refine lv_istore (lv' := [(6, .int zr9), (5, .ref (ea 0)), (4, .int (nI v_7)), (3, .int 0), (0, .ref q0), (1, .int (nI dp)), (2, .int (nI wd))]) hx hb dX1_pardonsWithLast_42 hl (by decide) rfl (fun ls hl => ?_)
          refine lv_iload hx hb dX1_pardonsWithLast_44 (lv_at hl 0 rfl) ?_
          refine lv_if_ne (tgt := 59) hx hb dX1_pardonsWithLast_46 (by decide) (fun c_46 => ?_) (fun c_46 => ?_)
          · refine lv_aload_n hx hb dX1_pardonsWithLast_59 rfl (lv_at hl 4 rfl) ?_
            refine va_get (D := D) (ci := 1) (v := .ref h0) (C := RX1) (T := TX1) (N := 8) hx hb hg i_X1 hown hK hP 0 rfl rfl 5 (by decide) (hg _ m_558) (fun _ h9 => h9) rfl dX1_pardonsWithLast_60 ?_
            refine lv_iload hx hb dX1_pardonsWithLast_63 (lv_at hl 0 rfl) ?_
            refine lv_if_eq (tgt := 80) hx hb dX1_pardonsWithLast_65 (by decide) (fun h => absurd h c_46) (fun _ => ?_)
            refine lv_aload_n hx hb dX1_pardonsWithLast_68 rfl (lv_at hl 4 rfl) ?_
            refine lv_aload hx hb dX1_pardonsWithLast_69 (lv_at hl 1 rfl) ?_
            refine lv_iload hx hb dX1_pardonsWithLast_71 (lv_at hl 2 rfl) ?_
            refine lv_iload_n hx hb dX1_pardonsWithLast_73 rfl (lv_at hl 6 rfl) ?_
            refine x_callVi (q := (RX1, TX1, 8)) (ci := 1) (q0 := 0) (wr := [wI (cy 1) q2 24 (fph), wI (cy 1) h1 4 (fc), (er, .inl (cy 4, 4, .inr (.inr (.inr (.inr (eF (ea 0) (ea 1) (ea 2) (ea 3))))))), wI (cy 1) (ef 0) 7 (xc 0), wO (ea 1) 2 [.ref (eg 1), .ref (ef 1), .int (et 1), .int (nI (el 1)), .int (nI (ei 1))], wI (cy 1) (eg 1) 10 (gc 1), wI (cy 1) (ef 1) 7 (xc 1), wO (ea 2) 2 [.ref (eg 2), .ref (ef 2), .int (et 2), .int (nI (el 2)), .int (nI (ei 2))], wI (cy 1) (eg 2) 10 (gc 2), wI (cy 1) (ef 2) 7 (xc 2), wO (ea 3) 2 [.ref (eg 3), .ref (ef 3), .int (et 3), .int (nI (el 3)), .int (nI (ei 3))], wI (cy 1) (eg 3) 10 (gc 3), wI (cy 1) (ef 3) 7 (xc 3), wI (cy 1) (eg 0) 10 (gc 0)]) (rest := [.ref h0]) ⟨hx, hb, hml, hown, hg, hl.1⟩ k_X1_90 (s_endState l D cy q0 q1 q2 q3 q4 er ql qo h0 h1 h2 h3 h4 h5 h6 h7 h8 h9 h10 h11 ((.int ys)) hv1 hv2 hv3 hv4 fx (ea 0) (eg 0) (ef 0) (et 0) (((el 0))) (((ei 0))) v_7 wd (hnx) (hv_7) (by omega)) E0_blind hK hP hD hS hA [0, 2, 3, 16] [1, 4, 5, 6, 7, 8, 9, 10, 11, 12, 13, 14, 15, 17] ⟨rfl, rfl, by decide +kernel, by decide +kernel, by decide +kernel⟩ rfl rfl (fun _ _ _ => trivial) dX1_pardonsWithLast_74 rfl rfl (Nat.le_of_ble_eq_true rfl) ⟨Nat.le_of_ble_eq_true rfl, Nat.le_of_ble_eq_true rfl⟩ ⟨Nat.le_of_ble_eq_true rfl, Nat.le_of_ble_eq_true rfl⟩ (fun zr12 zu12 H locs hw12 hP9 hD9 hS9 => ?_)
            clear hP hD hS
            obtain ⟨k_13, rfl⟩ : ∃ z, z = zu12 := ⟨_, rfl⟩
            refine reW [wI (cy 1) q2 24 (fph), wI (cy 1) h1 4 (fc), (er, .inl (cy 4, 4, .inr (.inr (.inr (.inr (eF (ea 0) (ea 1) (ea 2) (ea 3))))))), wI (cy 1) (ef 0) 7 (xc 0), wO (ea 1) 2 [.ref (eg 1), .ref (ef 1), .int (et 1), .int (nI (el 1)), .int (nI (ei 1))], wI (cy 1) (eg 1) 10 (gc 1), wI (cy 1) (ef 1) 7 (xc 1), wO (ea 2) 2 [.ref (eg 2), .ref (ef 2), .int (et 2), .int (nI (el 2)), .int (nI (ei 2))], wI (cy 1) (eg 2) 10 (gc 2), wI (cy 1) (ef 2) 7 (xc 2), wO (ea 3) 2 [.ref (eg 3), .ref (ef 3), .int (et 3), .int (nI (el 3)), .int (nI (ei 3))], wI (cy 1) (eg 3) 10 (gc 3), wI (cy 1) (ef 3) 7 (xc 3), wI (cy 1) (eg 0) 10 (gc 0), wO q0 1 [.ref q1, .ref er, .ref q2, .ref q3, .ref q4, .ref h0, .int (nI ql), .int qo], wO h0 4 [.ref h1, .ref h2, .ref h3, .ref h4, .ref h5, .ref h6, .ref h7, .ref h8, .ref h9, .ref h10, .ref h11, .int ys, hv1, hv2, hv3, hv4], wI (cy 1) h7 48 (fx), wO (ea 0) 2 [.ref (eg 0), .ref (ef 0), .int (et 0), .int (nI (((el 0)))), .int (nI (((ei 0))))]] hP9 hD9 hS9 (fun hP hD hS => ?_)
            clear hP9 hD9 hS9
            refine W.widen (k := 0) (n := 0) (Nat.le_of_ble_eq_true rfl) (Nat.le_of_ble_eq_true rfl) ?_
            replace hw12 : (zr12 = nI k_13) ∧ (k_13 ≤ 5) ∧ (k_13 = if (et 0) = 0 then nC9 fx (dg9 v_7 0) wd else dg9 v_7 (nC9 fx 0 wd)) := hw12
            obtain ⟨f_14, f_15, f_16⟩ := hw12
            subst f_14
            refine lv_goto (tgt := 86) hx hb dX1_pardonsWithLast_77 (by decide) ?_
            refine x_callVi (q := (RX4, TX4, 16)) (ci := 4) (q0 := 0) (wr := [wI (cy 1) q2 24 (fph), wI (cy 1) h1 4 (fc), (er, .inl (cy 4, 4, .inr (.inr (.inr (.inr (eF (ea 0) (ea 1) (ea 2) (ea 3))))))), wI (cy 1) (ef 0) 7 (xc 0), wO (ea 1) 2 [.ref (eg 1), .ref (ef 1), .int (et 1), .int (nI (el 1)), .int (nI (ei 1))], wI (cy 1) (eg 1) 10 (gc 1), wI (cy 1) (ef 1) 7 (xc 1), wO (ea 2) 2 [.ref (eg 2), .ref (ef 2), .int (et 2), .int (nI (el 2)), .int (nI (ei 2))], wI (cy 1) (eg 2) 10 (gc 2), wI (cy 1) (ef 2) 7 (xc 2), wO (ea 3) 2 [.ref (eg 3), .ref (ef 3), .int (et 3), .int (nI (el 3)), .int (nI (ei 3))], wI (cy 1) (eg 3) 10 (gc 3), wI (cy 1) (ef 3) 7 (xc 3), wI (cy 1) (eg 0) 10 (gc 0), wO q0 1 [.ref q1, .ref er, .ref q2, .ref q3, .ref q4, .ref h0, .int (nI ql), .int qo], wI (cy 1) h7 48 (fx), wO (ea 0) 2 [.ref (eg 0), .ref (ef 0), .int (et 0), .int (nI (((el 0)))), .int (nI (((ei 0))))]]) (rest := []) ⟨hx, hb, hml, hown, hg, hl.1⟩ k_X1_94 (s_isYesState l D cy h0 h1 h2 h3 h4 h5 h6 h7 h8 h9 h10 h11 hv1 hv2 hv3 hv4 ys (nI k_13)) E0_blind hK hP hD hS hA [15] [0, 1, 2, 3, 4, 5, 6, 7, 8, 9, 10, 11, 12, 13, 14, 16, 17] ⟨rfl, rfl, by decide +kernel, by decide +kernel, by decide +kernel⟩ rfl rfl (fun _ _ _ => trivial) dX1_pardonsWithLast_86 rfl rfl (Nat.le_of_ble_eq_true rfl) ⟨Nat.le_of_ble_eq_true rfl, Nat.le_of_ble_eq_true rfl⟩ ⟨Nat.le_of_ble_eq_true rfl, Nat.le_of_ble_eq_true rfl⟩ (fun zr17 zu17 H locs hw17 hP9 hD9 hS9 => ?_)
            clear hP hD hS
            refine reW [wI (cy 1) q2 24 (fph), wI (cy 1) h1 4 (fc), (er, .inl (cy 4, 4, .inr (.inr (.inr (.inr (eF (ea 0) (ea 1) (ea 2) (ea 3))))))), wI (cy 1) (ef 0) 7 (xc 0), wO (ea 1) 2 [.ref (eg 1), .ref (ef 1), .int (et 1), .int (nI (el 1)), .int (nI (ei 1))], wI (cy 1) (eg 1) 10 (gc 1), wI (cy 1) (ef 1) 7 (xc 1), wO (ea 2) 2 [.ref (eg 2), .ref (ef 2), .int (et 2), .int (nI (el 2)), .int (nI (ei 2))], wI (cy 1) (eg 2) 10 (gc 2), wI (cy 1) (ef 2) 7 (xc 2), wO (ea 3) 2 [.ref (eg 3), .ref (ef 3), .int (et 3), .int (nI (el 3)), .int (nI (ei 3))], wI (cy 1) (eg 3) 10 (gc 3), wI (cy 1) (ef 3) 7 (xc 3), wI (cy 1) (eg 0) 10 (gc 0), wO q0 1 [.ref q1, .ref er, .ref q2, .ref q3, .ref q4, .ref h0, .int (nI ql), .int qo], wI (cy 1) h7 48 (fx), wO (ea 0) 2 [.ref (eg 0), .ref (ef 0), .int (et 0), .int (nI (((el 0)))), .int (nI (((ei 0))))], wO h0 4 [.ref h1, .ref h2, .ref h3, .ref h4, .ref h5, .ref h6, .ref h7, .ref h8, .ref h9, .ref h10, .ref h11, .int ys, hv1, hv2, hv3, hv4]] hP9 hD9 hS9 (fun hP hD hS => ?_)
            clear hP9 hD9 hS9
            refine W.widen (k := 0) (n := 0) (Nat.le_of_ble_eq_true rfl) (Nat.le_of_ble_eq_true rfl) ?_
            replace hw17 : (zr17 = 0 ∨ zr17 = 1) ∧ (bR zr17 (decide (¬ (ys >>> ((nI k_13) &&& 31)) &&& 1 = 0))) := hw17
            obtain ⟨f_18, f_19⟩ := hw17
            refine lv_if_ne (tgt := 94) hx hb dX1_pardonsWithLast_89 (by decide) (fun c_89 => ?_) (fun c_89 => ?_)
            · refine lv_iinc (v := 1) (lv' := [(3, .int 1), (6, .int zr9), (5, .ref (ea 0)), (4, .int (nI v_7)), (0, .ref q0), (1, .int (nI dp)), (2, .int (nI wd))]) hx hb dX1_pardonsWithLast_94 hl (k := 3) rfl (by decide) (by decide) rfl (fun ls hl => ?_)
              refine lv_goto (tgt := 2) hx hb dX1_pardonsWithLast_97 (by decide) ?_
              exact ih1  1 (by omega) (alF_y (p := (fun c9 => pdL fx ys (et c9) (nxL (gc c9) dp wd (Lp c9)))) (k := 0) hf1_1 ((show ysB ys k_13 = pdL fx ys (et 0) (nxL (gc 0) dp wd (Lp 0)) from (by rw [nx_1 (bR_t f_11 c_46)]; exact pd_new (pt_at (hpt 0 (by omega)) rfl ev_7 (by omega) (by omega)) hcl9 (by omega) (by omega) f_16 (by omega) rfl hnx (fun x9 h9 => hLw 0 x9 (by omega) h9))).symm.trans (bR_t f_19 c_89))) (by omega) _ _ (hP.sub [14, 0, 17, 15, 1, 2, 16, 13, 3, 4, 5, 6, 7, 8, 9, 10, 11, 12] rfl) (hD.sub [14, 0, 17, 15, 1, 2, 16, 13, 3, 4, 5, 6, 7, 8, 9, 10, 11, 12] (by decide +kernel) rfl) hS ls (lv_sub hl [0, 4, 5, 6] rfl)
            · refine lv_iconst (v := 0) hx hb dX1_pardonsWithLast_92 (by decide) ?_
              exact x_zret hQ hx hb hr hlocks hK hP hD hS rfl dX1_pardonsWithLast_93 () (⟨(Or.inl rfl), bR_0 (alF_f (p := (fun c9 => pdL fx ys (et c9) (nxL (gc c9) dp wd (Lp c9)))) (k := 0) ((show ysB ys k_13 = pdL fx ys (et 0) (nxL (gc 0) dp wd (Lp 0)) from (by rw [nx_1 (bR_t f_11 c_46)]; exact pd_new (pt_at (hpt 0 (by omega)) rfl ev_7 (by omega) (by omega)) hcl9 (by omega) (by omega) f_16 (by omega) rfl hnx (fun x9 h9 => hLw 0 x9 (by omega) h9))).symm.trans (bR_f f_19 c_89)) (by omega))⟩) [14, 0, 17, 15, 1, 2, 16, 13, 3, 4, 5, 6, 7, 8, 9, 10, 11, 12] (by decide +kernel) rfl (Nat.le_of_ble_eq_true rfl) (Nat.le_of_ble_eq_true rfl)
          · refine lv_iload hx hb dX1_pardonsWithLast_49 (lv_at hl 2 rfl) ?_
            refine lv_ldc (v := 262144) hx hb hown (hg _ m_1162) dX1_pardonsWithLast_51 ?_
            refine lv_iand hx hb dX1_pardonsWithLast_53 ?_
            refine lv_topi (fun x_20 ex_20 => ?_)
            refine lv_if_ne (tgt := 59) hx hb dX1_pardonsWithLast_54 (by decide) (fun c_54 => ?_) (fun c_54 => ?_)
            · refine lv_aload_n hx hb dX1_pardonsWithLast_59 rfl (lv_at hl 4 rfl) ?_
              refine va_get (D := D) (ci := 1) (v := .ref h0) (C := RX1) (T := TX1) (N := 8) hx hb hg i_X1 hown hK hP 0 rfl rfl 5 (by decide) (hg _ m_558) (fun _ h9 => h9) rfl dX1_pardonsWithLast_60 ?_
              refine lv_iload hx hb dX1_pardonsWithLast_63 (lv_at hl 0 rfl) ?_
              refine lv_if_eq (tgt := 80) hx hb dX1_pardonsWithLast_65 (by decide) (fun _ => ?_) (fun h => absurd c_46 h)
              refine lv_iload hx hb dX1_pardonsWithLast_80 (lv_at hl 2 rfl) ?_
              refine lv_iconst (v := 0) hx hb dX1_pardonsWithLast_82 (by decide) ?_
              refine x_callSi (wr := [wO q0 1 [.ref q1, .ref er, .ref q2, .ref q3, .ref q4, .ref h0, .int (nI ql), .int qo], wI (cy 1) q2 24 (fph), wO h0 4 [.ref h1, .ref h2, .ref h3, .ref h4, .ref h5, .ref h6, .ref h7, .ref h8, .ref h9, .ref h10, .ref h11, .int ys, hv1, hv2, hv3, hv4], wI (cy 1) h7 48 (fx), wI (cy 1) h1 4 (fc), (er, .inl (cy 4, 4, .inr (.inr (.inr (.inr (eF (ea 0) (ea 1) (ea 2) (ea 3))))))), wI (cy 1) (ef 0) 7 (xc 0), wO (ea 1) 2 [.ref (eg 1), .ref (ef 1), .int (et 1), .int (nI (el 1)), .int (nI (ei 1))], wI (cy 1) (eg 1) 10 (gc 1), wI (cy 1) (ef 1) 7 (xc 1), wO (ea 2) 2 [.ref (eg 2), .ref (ef 2), .int (et 2), .int (nI (el 2)), .int (nI (ei 2))], wI (cy 1) (eg 2) 10 (gc 2), wI (cy 1) (ef 2) 7 (xc 2), wO (ea 3) 2 [.ref (eg 3), .ref (ef 3), .int (et 3), .int (nI (el 3)), .int (nI (ei 3))], wI (cy 1) (eg 3) 10 (gc 3), wI (cy 1) (ef 3) 7 (xc 3), wO (ea 0) 2 [.ref (eg 0), .ref (ef 0), .int (et 0), .int (nI ((el 0))), .int (nI ((ei 0)))], wI (cy 1) (eg 0) 10 (gc 0)]) (rest := [.ref h0]) ⟨hx, hb, hml, hown, hg, hl.1⟩ k_X1_87 (s_stateOf l D cy v_7 0 (hv_7) (by omega)) E0_blind hK hP hD hS hA [] [0, 1, 2, 3, 4, 5, 6, 7, 8, 9, 10, 11, 12, 13, 14, 15, 16, 17] ⟨rfl, rfl, by decide +kernel, by decide +kernel, by decide +kernel⟩ (fun _ _ _ => trivial) dX1_pardonsWithLast_83 rfl rfl (Nat.le_of_ble_eq_true rfl) ⟨Nat.le_of_ble_eq_true rfl, Nat.le_of_ble_eq_true rfl⟩ ⟨Nat.le_of_ble_eq_true rfl, Nat.le_of_ble_eq_true rfl⟩ (fun zr21 zu21 H locs hw21 hP9 hD9 hS9 => ?_)
              clear hP hD hS
              obtain ⟨k_22, rfl⟩ : ∃ z, z = zu21 := ⟨_, rfl⟩
              refine reW [wO q0 1 [.ref q1, .ref er, .ref q2, .ref q3, .ref q4, .ref h0, .int (nI ql), .int qo], wI (cy 1) q2 24 (fph), wO h0 4 [.ref h1, .ref h2, .ref h3, .ref h4, .ref h5, .ref h6, .ref h7, .ref h8, .ref h9, .ref h10, .ref h11, .int ys, hv1, hv2, hv3, hv4], wI (cy 1) h7 48 (fx), wI (cy 1) h1 4 (fc), (er, .inl (cy 4, 4, .inr (.inr (.inr (.inr (eF (ea 0) (ea 1) (ea 2) (ea 3))))))), wI (cy 1) (ef 0) 7 (xc 0), wO (ea 1) 2 [.ref (eg 1), .ref (ef 1), .int (et 1), .int (nI (el 1)), .int (nI (ei 1))], wI (cy 1) (eg 1) 10 (gc 1), wI (cy 1) (ef 1) 7 (xc 1), wO (ea 2) 2 [.ref (eg 2), .ref (ef 2), .int (et 2), .int (nI (el 2)), .int (nI (ei 2))], wI (cy 1) (eg 2) 10 (gc 2), wI (cy 1) (ef 2) 7 (xc 2), wO (ea 3) 2 [.ref (eg 3), .ref (ef 3), .int (et 3), .int (nI (el 3)), .int (nI (ei 3))], wI (cy 1) (eg 3) 10 (gc 3), wI (cy 1) (ef 3) 7 (xc 3), wO (ea 0) 2 [.ref (eg 0), .ref (ef 0), .int (et 0), .int (nI ((el 0))), .int (nI ((ei 0)))], wI (cy 1) (eg 0) 10 (gc 0)] hP9 hD9 hS9 (fun hP hD hS => ?_)
              clear hP9 hD9 hS9
              refine W.widen (k := 0) (n := 0) (Nat.le_of_ble_eq_true rfl) (Nat.le_of_ble_eq_true rfl) ?_
              replace hw21 : (zr21 = nI k_22) ∧ (k_22 ≤ 5) ∧ (k_22 = dg9 v_7 0) := hw21
              obtain ⟨f_23, f_24, f_25⟩ := hw21
              subst f_23
              refine x_callVi (q := (RX4, TX4, 16)) (ci := 4) (q0 := 0) (wr := [wO q0 1 [.ref q1, .ref er, .ref q2, .ref q3, .ref q4, .ref h0, .int (nI ql), .int qo], wI (cy 1) q2 24 (fph), wI (cy 1) h7 48 (fx), wI (cy 1) h1 4 (fc), (er, .inl (cy 4, 4, .inr (.inr (.inr (.inr (eF (ea 0) (ea 1) (ea 2) (ea 3))))))), wI (cy 1) (ef 0) 7 (xc 0), wO (ea 1) 2 [.ref (eg 1), .ref (ef 1), .int (et 1), .int (nI (el 1)), .int (nI (ei 1))], wI (cy 1) (eg 1) 10 (gc 1), wI (cy 1) (ef 1) 7 (xc 1), wO (ea 2) 2 [.ref (eg 2), .ref (ef 2), .int (et 2), .int (nI (el 2)), .int (nI (ei 2))], wI (cy 1) (eg 2) 10 (gc 2), wI (cy 1) (ef 2) 7 (xc 2), wO (ea 3) 2 [.ref (eg 3), .ref (ef 3), .int (et 3), .int (nI (el 3)), .int (nI (ei 3))], wI (cy 1) (eg 3) 10 (gc 3), wI (cy 1) (ef 3) 7 (xc 3), wO (ea 0) 2 [.ref (eg 0), .ref (ef 0), .int (et 0), .int (nI ((el 0))), .int (nI ((ei 0)))], wI (cy 1) (eg 0) 10 (gc 0)]) (rest := []) ⟨hx, hb, hml, hown, hg, hl.1⟩ k_X1_94 (s_isYesState l D cy h0 h1 h2 h3 h4 h5 h6 h7 h8 h9 h10 h11 hv1 hv2 hv3 hv4 ys (nI k_22)) E0_blind hK hP hD hS hA [2] [0, 1, 3, 4, 5, 6, 7, 8, 9, 10, 11, 12, 13, 14, 15, 16, 17] ⟨rfl, rfl, by decide +kernel, by decide +kernel, by decide +kernel⟩ rfl rfl (fun _ _ _ => trivial) dX1_pardonsWithLast_86 rfl rfl (Nat.le_of_ble_eq_true rfl) ⟨Nat.le_of_ble_eq_true rfl, Nat.le_of_ble_eq_true rfl⟩ ⟨Nat.le_of_ble_eq_true rfl, Nat.le_of_ble_eq_true rfl⟩ (fun zr26 zu26 H locs hw26 hP9 hD9 hS9 => ?_)
              clear hP hD hS
              refine reW [wO q0 1 [.ref q1, .ref er, .ref q2, .ref q3, .ref q4, .ref h0, .int (nI ql), .int qo], wI (cy 1) q2 24 (fph), wI (cy 1) h7 48 (fx), wI (cy 1) h1 4 (fc), (er, .inl (cy 4, 4, .inr (.inr (.inr (.inr (eF (ea 0) (ea 1) (ea 2) (ea 3))))))), wI (cy 1) (ef 0) 7 (xc 0), wO (ea 1) 2 [.ref (eg 1), .ref (ef 1), .int (et 1), .int (nI (el 1)), .int (nI (ei 1))], wI (cy 1) (eg 1) 10 (gc 1), wI (cy 1) (ef 1) 7 (xc 1), wO (ea 2) 2 [.ref (eg 2), .ref (ef 2), .int (et 2), .int (nI (el 2)), .int (nI (ei 2))], wI (cy 1) (eg 2) 10 (gc 2), wI (cy 1) (ef 2) 7 (xc 2), wO (ea 3) 2 [.ref (eg 3), .ref (ef 3), .int (et 3), .int (nI (el 3)), .int (nI (ei 3))], wI (cy 1) (eg 3) 10 (gc 3), wI (cy 1) (ef 3) 7 (xc 3), wO (ea 0) 2 [.ref (eg 0), .ref (ef 0), .int (et 0), .int (nI ((el 0))), .int (nI ((ei 0)))], wI (cy 1) (eg 0) 10 (gc 0), wO h0 4 [.ref h1, .ref h2, .ref h3, .ref h4, .ref h5, .ref h6, .ref h7, .ref h8, .ref h9, .ref h10, .ref h11, .int ys, hv1, hv2, hv3, hv4]] hP9 hD9 hS9 (fun hP hD hS => ?_)
              clear hP9 hD9 hS9
              refine W.widen (k := 0) (n := 0) (Nat.le_of_ble_eq_true rfl) (Nat.le_of_ble_eq_true rfl) ?_
              replace hw26 : (zr26 = 0 ∨ zr26 = 1) ∧ (bR zr26 (decide (¬ (ys >>> ((nI k_22) &&& 31)) &&& 1 = 0))) := hw26
              obtain ⟨f_27, f_28⟩ := hw26
              refine lv_if_ne (tgt := 94) hx hb dX1_pardonsWithLast_89 (by decide) (fun c_89 => ?_) (fun c_89 => ?_)
              · refine lv_iinc (v := 1) (lv' := [(3, .int 1), (6, .int zr9), (5, .ref (ea 0)), (4, .int (nI v_7)), (0, .ref q0), (1, .int (nI dp)), (2, .int (nI wd))]) hx hb dX1_pardonsWithLast_94 hl (k := 3) rfl (by decide) (by decide) rfl (fun ls hl => ?_)
                refine lv_goto (tgt := 2) hx hb dX1_pardonsWithLast_97 (by decide) ?_
                exact ih1  1 (by omega) (alF_y (p := (fun c9 => pdL fx ys (et c9) (nxL (gc c9) dp wd (Lp c9)))) (k := 0) hf1_1 ((show ysB ys k_22 = pdL fx ys (et 0) (nxL (gc 0) dp wd (Lp 0)) from (by rw [nx_0 (bR_f f_11 c_46)]; exact pd_old (pt_at (hpt 0 (by omega)) rfl ev_7 (by omega) (by omega)) (an_1 (by omega) ex_20 c_54) hcl9 f_25 (by omega) rfl hnx (fun x9 h9 => hLw 0 x9 (by omega) h9))).symm.trans (bR_t f_28 c_89))) (by omega) _ _ (hP.sub [0, 1, 17, 2, 3, 4, 15, 16, 5, 6, 7, 8, 9, 10, 11, 12, 13, 14] rfl) (hD.sub [0, 1, 17, 2, 3, 4, 15, 16, 5, 6, 7, 8, 9, 10, 11, 12, 13, 14] (by decide +kernel) rfl) hS ls (lv_sub hl [0, 4, 5, 6] rfl)
              · refine lv_iconst (v := 0) hx hb dX1_pardonsWithLast_92 (by decide) ?_
                exact x_zret hQ hx hb hr hlocks hK hP hD hS rfl dX1_pardonsWithLast_93 () (⟨(Or.inl rfl), bR_0 (alF_f (p := (fun c9 => pdL fx ys (et c9) (nxL (gc c9) dp wd (Lp c9)))) (k := 0) ((show ysB ys k_22 = pdL fx ys (et 0) (nxL (gc 0) dp wd (Lp 0)) from (by rw [nx_0 (bR_f f_11 c_46)]; exact pd_old (pt_at (hpt 0 (by omega)) rfl ev_7 (by omega) (by omega)) (an_1 (by omega) ex_20 c_54) hcl9 f_25 (by omega) rfl hnx (fun x9 h9 => hLw 0 x9 (by omega) h9))).symm.trans (bR_f f_28 c_89)) (by omega))⟩) [0, 1, 17, 2, 3, 4, 15, 16, 5, 6, 7, 8, 9, 10, 11, 12, 13, 14] (by decide +kernel) rfl (Nat.le_of_ble_eq_true rfl) (Nat.le_of_ble_eq_true rfl)
            · refine lv_iconst (v := 0) hx hb dX1_pardonsWithLast_57 (by decide) ?_
              exact x_zret hQ hx hb hr hlocks hK hP hD hS rfl dX1_pardonsWithLast_58 () (⟨(Or.inl rfl), bR_0 (alF_f (p := (fun c9 => pdL fx ys (et c9) (nxL (gc c9) dp wd (Lp c9)))) (k := 0) (by show pdL fx ys (et 0) (nxL (gc 0) dp wd (Lp 0)) = false; rw [nx_0 (bR_f f_11 c_46)]; exact pd_none (pt_at (hpt 0 (by omega)) rfl ev_7 (by omega) (by omega)) (an_0 (by omega) ex_20 c_54)) (by omega))⟩) [0, 1, 2, 3, 4, 5, 16, 17, 6, 7, 8, 9, 10, 11, 12, 13, 14, 15] (by decide +kernel) rfl (Nat.le_of_ble_eq_true rfl) (Nat.le_of_ble_eq_true rfl)
        · subst hsp
          refine va_aldq hx hb hK hP 5 4 rfl rfl (by unfold vp_in; decide) dX1_pardonsWithLast_32 ?_
          refine W.eq (g2 := F0 m 33 ls [.ref (ea 1)]) rfl ?_
          refine lv_astore (lv' := [(5, .ref (ea 1)), (4, .int (nI v_7)), (3, .int 1), (0, .ref q0), (1, .int (nI dp)), (2, .int (nI wd))]) hx hb dX1_pardonsWithLast_33 hl (by decide) rfl (fun ls hl => ?_)
          refine lv_aload hx hb dX1_pardonsWithLast_35 (lv_at hl 0 rfl) ?_
          refine lv_iload_n hx hb dX1_pardonsWithLast_37 rfl (lv_at hl 4 rfl) ?_
          refine lv_iload_n hx hb dX1_pardonsWithLast_38 rfl (lv_at hl 5 rfl) ?_
          refine x_callVi (q := (RX2, TX2, 5)) (ci := 2) (q0 := 0) (wr := [wO q0 1 [.ref q1, .ref er, .ref q2, .ref q3, .ref q4, .ref h0, .int (nI ql), .int qo], wI (cy 1) q2 24 (fph), wO h0 4 [.ref h1, .ref h2, .ref h3, .ref h4, .ref h5, .ref h6, .ref h7, .ref h8, .ref h9, .ref h10, .ref h11, .int ys, hv1, hv2, hv3, hv4], wI (cy 1) h7 48 (fx), wI (cy 1) h1 4 (fc), (er, .inl (cy 4, 4, .inr (.inr (.inr (.inr (eF (ea 0) (ea 1) (ea 2) (ea 3))))))), wO (ea 0) 2 [.ref (eg 0), .ref (ef 0), .int (et 0), .int (nI (el 0)), .int (nI (ei 0))], wI (cy 1) (eg 0) 10 (gc 0), wI (cy 1) (ef 0) 7 (xc 0), wI (cy 1) (ef 1) 7 (xc 1), wO (ea 2) 2 [.ref (eg 2), .ref (ef 2), .int (et 2), .int (nI (el 2)), .int (nI (ei 2))], wI (cy 1) (eg 2) 10 (gc 2), wI (cy 1) (ef 2) 7 (xc 2), wO (ea 3) 2 [.ref (eg 3), .ref (ef 3), .int (et 3), .int (nI (el 3)), .int (nI (ei 3))], wI (cy 1) (eg 3) 10 (gc 3), wI (cy 1) (ef 3) 7 (xc 3)]) (rest := []) ⟨hx, hb, hml, hown, hg, hl.1⟩ k_X1_70 (s_comesBack l D cy (ea 1) (eg 1) (ef 1) (et 1) ((el 1)) ((ei 1)) (gc 1) dp (nI wd) (by omega)) E0_blind hK hP hD hS hA [9, 10] [0, 1, 2, 3, 4, 5, 6, 7, 8, 11, 12, 13, 14, 15, 16, 17] ⟨rfl, rfl, by decide +kernel, by decide +kernel, by decide +kernel⟩ rfl rfl (fun _ _ _ => trivial) dX1_pardonsWithLast_39 rfl rfl (Nat.le_of_ble_eq_true rfl) ⟨Nat.le_of_ble_eq_true rfl, Nat.le_of_ble_eq_true rfl⟩ ⟨Nat.le_of_ble_eq_true rfl, Nat.le_of_ble_eq_true rfl⟩ (fun zr29 zu29 H locs hw29 hP9 hD9 hS9 => ?_)
          clear hP hD hS
          refine reW [wO q0 1 [.ref q1, .ref er, .ref q2, .ref q3, .ref q4, .ref h0, .int (nI ql), .int qo], wI (cy 1) q2 24 (fph), wO h0 4 [.ref h1, .ref h2, .ref h3, .ref h4, .ref h5, .ref h6, .ref h7, .ref h8, .ref h9, .ref h10, .ref h11, .int ys, hv1, hv2, hv3, hv4], wI (cy 1) h7 48 (fx), wI (cy 1) h1 4 (fc), (er, .inl (cy 4, 4, .inr (.inr (.inr (.inr (eF (ea 0) (ea 1) (ea 2) (ea 3))))))), wO (ea 0) 2 [.ref (eg 0), .ref (ef 0), .int (et 0), .int (nI (el 0)), .int (nI (ei 0))], wI (cy 1) (eg 0) 10 (gc 0), wI (cy 1) (ef 0) 7 (xc 0), wI (cy 1) (ef 1) 7 (xc 1), wO (ea 2) 2 [.ref (eg 2), .ref (ef 2), .int (et 2), .int (nI (el 2)), .int (nI (ei 2))], wI (cy 1) (eg 2) 10 (gc 2), wI (cy 1) (ef 2) 7 (xc 2), wO (ea 3) 2 [.ref (eg 3), .ref (ef 3), .int (et 3), .int (nI (el 3)), .int (nI (ei 3))], wI (cy 1) (eg 3) 10 (gc 3), wI (cy 1) (ef 3) 7 (xc 3), wO (ea 1) 2 [.ref (eg 1), .ref (ef 1), .int (et 1), .int (nI ((el 1))), .int (nI ((ei 1)))], wI (cy 1) (eg 1) 10 (gc 1)] hP9 hD9 hS9 (fun hP hD hS => ?_)
          clear hP9 hD9 hS9
          refine W.widen (k := 0) (n := 0) (Nat.le_of_ble_eq_true rfl) (Nat.le_of_ble_eq_true rfl) ?_
          replace hw29 : (zr29 = 0 ∨ zr29 = 1) ∧ (bR zr29 (gB ((gc 1) dp) (nI wd))) := hw29
          obtain ⟨f_30, f_31⟩ := hw29
          refine lv_istore (lv' := [(6, .int zr29), (5, .ref (ea 1)), (4, .int (nI v_7)), (3, .int 1), (0, .ref q0), (1, .int (nI dp)), (2, .int (nI wd))]) hx hb dX1_pardonsWithLast_42 hl (by decide) rfl (fun ls hl => ?_)
          refine lv_iload hx hb dX1_pardonsWithLast_44 (lv_at hl 0 rfl) ?_
          refine lv_if_ne (tgt := 59) hx hb dX1_pardonsWithLast_46 (by decide) (fun c_46 => ?_) (fun c_46 => ?_)
          · refine lv_aload_n hx hb dX1_pardonsWithLast_59 rfl (lv_at hl 4 rfl) ?_
            refine va_get (D := D) (ci := 1) (v := .ref h0) (C := RX1) (T := TX1) (N := 8) hx hb hg i_X1 hown hK hP 0 rfl rfl 5 (by decide) (hg _ m_558) (fun _ h9 => h9) rfl dX1_pardonsWithLast_60 ?_
            refine lv_iload hx hb dX1_pardonsWithLast_63 (lv_at hl 0 rfl) ?_
            refine lv_if_eq (tgt := 80) hx hb dX1_pardonsWithLast_65 (by decide) (fun h => absurd h c_46) (fun _ => ?_)
            refine lv_aload_n hx hb dX1_pardonsWithLast_68 rfl (lv_at hl 4 rfl) ?_
            refine lv_aload hx hb dX1_pardonsWithLast_69 (lv_at hl 1 rfl) ?_
            refine lv_iload hx hb dX1_pardonsWithLast_71 (lv_at hl 2 rfl) ?_
            refine lv_iload_n hx hb dX1_pardonsWithLast_73 rfl (lv_at hl 6 rfl) ?_
            refine x_callVi (q := (RX1, TX1, 8)) (ci := 1) (q0 := 0) (wr := [wI (cy 1) q2 24 (fph), wI (cy 1) h1 4 (fc), (er, .inl (cy 4, 4, .inr (.inr (.inr (.inr (eF (ea 0) (ea 1) (ea 2) (ea 3))))))), wO (ea 0) 2 [.ref (eg 0), .ref (ef 0), .int (et 0), .int (nI (el 0)), .int (nI (ei 0))], wI (cy 1) (eg 0) 10 (gc 0), wI (cy 1) (ef 0) 7 (xc 0), wI (cy 1) (ef 1) 7 (xc 1), wO (ea 2) 2 [.ref (eg 2), .ref (ef 2), .int (et 2), .int (nI (el 2)), .int (nI (ei 2))], wI (cy 1) (eg 2) 10 (gc 2), wI (cy 1) (ef 2) 7 (xc 2), wO (ea 3) 2 [.ref (eg 3), .ref (ef 3), .int (et 3), .int (nI (el 3)), .int (nI (ei 3))], wI (cy 1) (eg 3) 10 (gc 3), wI (cy 1) (ef 3) 7 (xc 3), wI (cy 1) (eg 1) 10 (gc 1)]) (rest := [.ref h0]) ⟨hx, hb, hml, hown, hg, hl.1⟩ k_X1_90 (s_endState l D cy q0 q1 q2 q3 q4 er ql qo h0 h1 h2 h3 h4 h5 h6 h7 h8 h9 h10 h11 ((.int ys)) hv1 hv2 hv3 hv4 fx (ea 1) (eg 1) (ef 1) (et 1) (((el 1))) (((ei 1))) v_7 wd (hnx) (hv_7) (by omega)) E0_blind hK hP hD hS hA [0, 2, 3, 16] [1, 4, 5, 6, 7, 8, 9, 10, 11, 12, 13, 14, 15, 17] ⟨rfl, rfl, by decide +kernel, by decide +kernel, by decide +kernel⟩ rfl rfl (fun _ _ _ => trivial) dX1_pardonsWithLast_74 rfl rfl (Nat.le_of_ble_eq_true rfl) ⟨Nat.le_of_ble_eq_true rfl, Nat.le_of_ble_eq_true rfl⟩ ⟨Nat.le_of_ble_eq_true rfl, Nat.le_of_ble_eq_true rfl⟩ (fun zr32 zu32 H locs hw32 hP9 hD9 hS9 => ?_)
            clear hP hD hS
            obtain ⟨k_33, rfl⟩ : ∃ z, z = zu32 := ⟨_, rfl⟩
            refine reW [wI (cy 1) q2 24 (fph), wI (cy 1) h1 4 (fc), (er, .inl (cy 4, 4, .inr (.inr (.inr (.inr (eF (ea 0) (ea 1) (ea 2) (ea 3))))))), wO (ea 0) 2 [.ref (eg 0), .ref (ef 0), .int (et 0), .int (nI (el 0)), .int (nI (ei 0))], wI (cy 1) (eg 0) 10 (gc 0), wI (cy 1) (ef 0) 7 (xc 0), wI (cy 1) (ef 1) 7 (xc 1), wO (ea 2) 2 [.ref (eg 2), .ref (ef 2), .int (et 2), .int (nI (el 2)), .int (nI (ei 2))], wI (cy 1) (eg 2) 10 (gc 2), wI (cy 1) (ef 2) 7 (xc 2), wO (ea 3) 2 [.ref (eg 3), .ref (ef 3), .int (et 3), .int (nI (el 3)), .int (nI (ei 3))], wI (cy 1) (eg 3) 10 (gc 3), wI (cy 1) (ef 3) 7 (xc 3), wI (cy 1) (eg 1) 10 (gc 1), wO q0 1 [.ref q1, .ref er, .ref q2, .ref q3, .ref q4, .ref h0, .int (nI ql), .int qo], wO h0 4 [.ref h1, .ref h2, .ref h3, .ref h4, .ref h5, .ref h6, .ref h7, .ref h8, .ref h9, .ref h10, .ref h11, .int ys, hv1, hv2, hv3, hv4], wI (cy 1) h7 48 (fx), wO (ea 1) 2 [.ref (eg 1), .ref (ef 1), .int (et 1), .int (nI (((el 1)))), .int (nI (((ei 1))))]] hP9 hD9 hS9 (fun hP hD hS => ?_)
            clear hP9 hD9 hS9
            refine W.widen (k := 0) (n := 0) (Nat.le_of_ble_eq_true rfl) (Nat.le_of_ble_eq_true rfl) ?_
            replace hw32 : (zr32 = nI k_33) ∧ (k_33 ≤ 5) ∧ (k_33 = if (et 1) = 0 then nC9 fx (dg9 v_7 0) wd else dg9 v_7 (nC9 fx 0 wd)) := hw32
            obtain ⟨f_34, f_35, f_36⟩ := hw32
            subst f_34
            refine lv_goto (tgt := 86) hx hb dX1_pardonsWithLast_77 (by decide) ?_
            refine x_callVi (q := (RX4, TX4, 16)) (ci := 4) (q0 := 0) (wr := [wI (cy 1) q2 24 (fph), wI (cy 1) h1 4 (fc), (er, .inl (cy 4, 4, .inr (.inr (.inr (.inr (eF (ea 0) (ea 1) (ea 2) (ea 3))))))), wO (ea 0) 2 [.ref (eg 0), .ref (ef 0), .int (et 0), .int (nI (el 0)), .int (nI (ei 0))], wI (cy 1) (eg 0) 10 (gc 0), wI (cy 1) (ef 0) 7 (xc 0), wI (cy 1) (ef 1) 7 (xc 1), wO (ea 2) 2 [.ref (eg 2), .ref (ef 2), .int (et 2), .int (nI (el 2)), .int (nI (ei 2))], wI (cy 1) (eg 2) 10 (gc 2), wI (cy 1) (ef 2) 7 (xc 2), wO (ea 3) 2 [.ref (eg 3), .ref (ef 3), .int (et 3), .int (nI (el 3)), .int (nI (ei 3))], wI (cy 1) (eg 3) 10 (gc 3), wI (cy 1) (ef 3) 7 (xc 3), wI (cy 1) (eg 1) 10 (gc 1), wO q0 1 [.ref q1, .ref er, .ref q2, .ref q3, .ref q4, .ref h0, .int (nI ql), .int qo], wI (cy 1) h7 48 (fx), wO (ea 1) 2 [.ref (eg 1), .ref (ef 1), .int (et 1), .int (nI (((el 1)))), .int (nI (((ei 1))))]]) (rest := []) ⟨hx, hb, hml, hown, hg, hl.1⟩ k_X1_94 (s_isYesState l D cy h0 h1 h2 h3 h4 h5 h6 h7 h8 h9 h10 h11 hv1 hv2 hv3 hv4 ys (nI k_33)) E0_blind hK hP hD hS hA [15] [0, 1, 2, 3, 4, 5, 6, 7, 8, 9, 10, 11, 12, 13, 14, 16, 17] ⟨rfl, rfl, by decide +kernel, by decide +kernel, by decide +kernel⟩ rfl rfl (fun _ _ _ => trivial) dX1_pardonsWithLast_86 rfl rfl (Nat.le_of_ble_eq_true rfl) ⟨Nat.le_of_ble_eq_true rfl, Nat.le_of_ble_eq_true rfl⟩ ⟨Nat.le_of_ble_eq_true rfl, Nat.le_of_ble_eq_true rfl⟩ (fun zr37 zu37 H locs hw37 hP9 hD9 hS9 => ?_)
            clear hP hD hS
            refine reW [wI (cy 1) q2 24 (fph), wI (cy 1) h1 4 (fc), (er, .inl (cy 4, 4, .inr (.inr (.inr (.inr (eF (ea 0) (ea 1) (ea 2) (ea 3))))))), wO (ea 0) 2 [.ref (eg 0), .ref (ef 0), .int (et 0), .int (nI (el 0)), .int (nI (ei 0))], wI (cy 1) (eg 0) 10 (gc 0), wI (cy 1) (ef 0) 7 (xc 0), wI (cy 1) (ef 1) 7 (xc 1), wO (ea 2) 2 [.ref (eg 2), .ref (ef 2), .int (et 2), .int (nI (el 2)), .int (nI (ei 2))], wI (cy 1) (eg 2) 10 (gc 2), wI (cy 1) (ef 2) 7 (xc 2), wO (ea 3) 2 [.ref (eg 3), .ref (ef 3), .int (et 3), .int (nI (el 3)), .int (nI (ei 3))], wI (cy 1) (eg 3) 10 (gc 3), wI (cy 1) (ef 3) 7 (xc 3), wI (cy 1) (eg 1) 10 (gc 1), wO q0 1 [.ref q1, .ref er, .ref q2, .ref q3, .ref q4, .ref h0, .int (nI ql), .int qo], wI (cy 1) h7 48 (fx), wO (ea 1) 2 [.ref (eg 1), .ref (ef 1), .int (et 1), .int (nI (((el 1)))), .int (nI (((ei 1))))], wO h0 4 [.ref h1, .ref h2, .ref h3, .ref h4, .ref h5, .ref h6, .ref h7, .ref h8, .ref h9, .ref h10, .ref h11, .int ys, hv1, hv2, hv3, hv4]] hP9 hD9 hS9 (fun hP hD hS => ?_)
            clear hP9 hD9 hS9
            refine W.widen (k := 0) (n := 0) (Nat.le_of_ble_eq_true rfl) (Nat.le_of_ble_eq_true rfl) ?_
            replace hw37 : (zr37 = 0 ∨ zr37 = 1) ∧ (bR zr37 (decide (¬ (ys >>> ((nI k_33) &&& 31)) &&& 1 = 0))) := hw37
            obtain ⟨f_38, f_39⟩ := hw37
            refine lv_if_ne (tgt := 94) hx hb dX1_pardonsWithLast_89 (by decide) (fun c_89 => ?_) (fun c_89 => ?_)
            · refine lv_iinc (v := 2) (lv' := [(3, .int 2), (6, .int zr29), (5, .ref (ea 1)), (4, .int (nI v_7)), (0, .ref q0), (1, .int (nI dp)), (2, .int (nI wd))]) hx hb dX1_pardonsWithLast_94 hl (k := 3) rfl (by decide) (by decide) rfl (fun ls hl => ?_)
              refine lv_goto (tgt := 2) hx hb dX1_pardonsWithLast_97 (by decide) ?_
              exact ih1  2 (by omega) (alF_y (p := (fun c9 => pdL fx ys (et c9) (nxL (gc c9) dp wd (Lp c9)))) (k := 1) hf1_1 ((show ysB ys k_33 = pdL fx ys (et 1) (nxL (gc 1) dp wd (Lp 1)) from (by rw [nx_1 (bR_t f_31 c_46)]; exact pd_new (pt_at (hpt 1 (by omega)) rfl ev_7 (by omega) (by omega)) hcl9 (by omega) (by omega) f_36 (by omega) rfl hnx (fun x9 h9 => hLw 1 x9 (by omega) h9))).symm.trans (bR_t f_39 c_89))) (by omega) _ _ (hP.sub [14, 0, 17, 15, 1, 2, 3, 4, 5, 16, 13, 6, 7, 8, 9, 10, 11, 12] rfl) (hD.sub [14, 0, 17, 15, 1, 2, 3, 4, 5, 16, 13, 6, 7, 8, 9, 10, 11, 12] (by decide +kernel) rfl) hS ls (lv_sub hl [0, 4, 5, 6] rfl)
            · refine lv_iconst (v := 0) hx hb dX1_pardonsWithLast_92 (by decide) ?_
              exact x_zret hQ hx hb hr hlocks hK hP hD hS rfl dX1_pardonsWithLast_93 () (⟨(Or.inl rfl), bR_0 (alF_f (p := (fun c9 => pdL fx ys (et c9) (nxL (gc c9) dp wd (Lp c9)))) (k := 1) ((show ysB ys k_33 = pdL fx ys (et 1) (nxL (gc 1) dp wd (Lp 1)) from (by rw [nx_1 (bR_t f_31 c_46)]; exact pd_new (pt_at (hpt 1 (by omega)) rfl ev_7 (by omega) (by omega)) hcl9 (by omega) (by omega) f_36 (by omega) rfl hnx (fun x9 h9 => hLw 1 x9 (by omega) h9))).symm.trans (bR_f f_39 c_89)) (by omega))⟩) [14, 0, 17, 15, 1, 2, 3, 4, 5, 16, 13, 6, 7, 8, 9, 10, 11, 12] (by decide +kernel) rfl (Nat.le_of_ble_eq_true rfl) (Nat.le_of_ble_eq_true rfl)
          · refine lv_iload hx hb dX1_pardonsWithLast_49 (lv_at hl 2 rfl) ?_
            refine lv_ldc (v := 262144) hx hb hown (hg _ m_1162) dX1_pardonsWithLast_51 ?_
            refine lv_iand hx hb dX1_pardonsWithLast_53 ?_
            refine lv_topi (fun x_40 ex_40 => ?_)
            refine lv_if_ne (tgt := 59) hx hb dX1_pardonsWithLast_54 (by decide) (fun c_54 => ?_) (fun c_54 => ?_)
            · refine lv_aload_n hx hb dX1_pardonsWithLast_59 rfl (lv_at hl 4 rfl) ?_
              refine va_get (D := D) (ci := 1) (v := .ref h0) (C := RX1) (T := TX1) (N := 8) hx hb hg i_X1 hown hK hP 0 rfl rfl 5 (by decide) (hg _ m_558) (fun _ h9 => h9) rfl dX1_pardonsWithLast_60 ?_
              refine lv_iload hx hb dX1_pardonsWithLast_63 (lv_at hl 0 rfl) ?_
              refine lv_if_eq (tgt := 80) hx hb dX1_pardonsWithLast_65 (by decide) (fun _ => ?_) (fun h => absurd c_46 h)
              refine lv_iload hx hb dX1_pardonsWithLast_80 (lv_at hl 2 rfl) ?_
              refine lv_iconst (v := 0) hx hb dX1_pardonsWithLast_82 (by decide) ?_
              refine x_callSi (wr := [wO q0 1 [.ref q1, .ref er, .ref q2, .ref q3, .ref q4, .ref h0, .int (nI ql), .int qo], wI (cy 1) q2 24 (fph), wO h0 4 [.ref h1, .ref h2, .ref h3, .ref h4, .ref h5, .ref h6, .ref h7, .ref h8, .ref h9, .ref h10, .ref h11, .int ys, hv1, hv2, hv3, hv4], wI (cy 1) h7 48 (fx), wI (cy 1) h1 4 (fc), (er, .inl (cy 4, 4, .inr (.inr (.inr (.inr (eF (ea 0) (ea 1) (ea 2) (ea 3))))))), wO (ea 0) 2 [.ref (eg 0), .ref (ef 0), .int (et 0), .int (nI (el 0)), .int (nI (ei 0))], wI (cy 1) (eg 0) 10 (gc 0), wI (cy 1) (ef 0) 7 (xc 0), wI (cy 1) (ef 1) 7 (xc 1), wO (ea 2) 2 [.ref (eg 2), .ref (ef 2), .int (et 2), .int (nI (el 2)), .int (nI (ei 2))], wI (cy 1) (eg 2) 10 (gc 2), wI (cy 1) (ef 2) 7 (xc 2), wO (ea 3) 2 [.ref (eg 3), .ref (ef 3), .int (et 3), .int (nI (el 3)), .int (nI (ei 3))], wI (cy 1) (eg 3) 10 (gc 3), wI (cy 1) (ef 3) 7 (xc 3), wO (ea 1) 2 [.ref (eg 1), .ref (ef 1), .int (et 1), .int (nI ((el 1))), .int (nI ((ei 1)))], wI (cy 1) (eg 1) 10 (gc 1)]) (rest := [.ref h0]) ⟨hx, hb, hml, hown, hg, hl.1⟩ k_X1_87 (s_stateOf l D cy v_7 0 (hv_7) (by omega)) E0_blind hK hP hD hS hA [] [0, 1, 2, 3, 4, 5, 6, 7, 8, 9, 10, 11, 12, 13, 14, 15, 16, 17] ⟨rfl, rfl, by decide +kernel, by decide +kernel, by decide +kernel⟩ (fun _ _ _ => trivial) dX1_pardonsWithLast_83 rfl rfl (Nat.le_of_ble_eq_true rfl) ⟨Nat.le_of_ble_eq_true rfl, Nat.le_of_ble_eq_true rfl⟩ ⟨Nat.le_of_ble_eq_true rfl, Nat.le_of_ble_eq_true rfl⟩ (fun zr41 zu41 H locs hw41 hP9 hD9 hS9 => ?_)
              clear hP hD hS
              obtain ⟨k_42, rfl⟩ : ∃ z, z = zu41 := ⟨_, rfl⟩
              refine reW [wO q0 1 [.ref q1, .ref er, .ref q2, .ref q3, .ref q4, .ref h0, .int (nI ql), .int qo], wI (cy 1) q2 24 (fph), wO h0 4 [.ref h1, .ref h2, .ref h3, .ref h4, .ref h5, .ref h6, .ref h7, .ref h8, .ref h9, .ref h10, .ref h11, .int ys, hv1, hv2, hv3, hv4], wI (cy 1) h7 48 (fx), wI (cy 1) h1 4 (fc), (er, .inl (cy 4, 4, .inr (.inr (.inr (.inr (eF (ea 0) (ea 1) (ea 2) (ea 3))))))), wO (ea 0) 2 [.ref (eg 0), .ref (ef 0), .int (et 0), .int (nI (el 0)), .int (nI (ei 0))], wI (cy 1) (eg 0) 10 (gc 0), wI (cy 1) (ef 0) 7 (xc 0), wI (cy 1) (ef 1) 7 (xc 1), wO (ea 2) 2 [.ref (eg 2), .ref (ef 2), .int (et 2), .int (nI (el 2)), .int (nI (ei 2))], wI (cy 1) (eg 2) 10 (gc 2), wI (cy 1) (ef 2) 7 (xc 2), wO (ea 3) 2 [.ref (eg 3), .ref (ef 3), .int (et 3), .int (nI (el 3)), .int (nI (ei 3))], wI (cy 1) (eg 3) 10 (gc 3), wI (cy 1) (ef 3) 7 (xc 3), wO (ea 1) 2 [.ref (eg 1), .ref (ef 1), .int (et 1), .int (nI ((el 1))), .int (nI ((ei 1)))], wI (cy 1) (eg 1) 10 (gc 1)] hP9 hD9 hS9 (fun hP hD hS => ?_)
              clear hP9 hD9 hS9
              refine W.widen (k := 0) (n := 0) (Nat.le_of_ble_eq_true rfl) (Nat.le_of_ble_eq_true rfl) ?_
              replace hw41 : (zr41 = nI k_42) ∧ (k_42 ≤ 5) ∧ (k_42 = dg9 v_7 0) := hw41
              obtain ⟨f_43, f_44, f_45⟩ := hw41
              subst f_43
              refine x_callVi (q := (RX4, TX4, 16)) (ci := 4) (q0 := 0) (wr := [wO q0 1 [.ref q1, .ref er, .ref q2, .ref q3, .ref q4, .ref h0, .int (nI ql), .int qo], wI (cy 1) q2 24 (fph), wI (cy 1) h7 48 (fx), wI (cy 1) h1 4 (fc), (er, .inl (cy 4, 4, .inr (.inr (.inr (.inr (eF (ea 0) (ea 1) (ea 2) (ea 3))))))), wO (ea 0) 2 [.ref (eg 0), .ref (ef 0), .int (et 0), .int (nI (el 0)), .int (nI (ei 0))], wI (cy 1) (eg 0) 10 (gc 0), wI (cy 1) (ef 0) 7 (xc 0), wI (cy 1) (ef 1) 7 (xc 1), wO (ea 2) 2 [.ref (eg 2), .ref (ef 2), .int (et 2), .int (nI (el 2)), .int (nI (ei 2))], wI (cy 1) (eg 2) 10 (gc 2), wI (cy 1) (ef 2) 7 (xc 2), wO (ea 3) 2 [.ref (eg 3), .ref (ef 3), .int (et 3), .int (nI (el 3)), .int (nI (ei 3))], wI (cy 1) (eg 3) 10 (gc 3), wI (cy 1) (ef 3) 7 (xc 3), wO (ea 1) 2 [.ref (eg 1), .ref (ef 1), .int (et 1), .int (nI ((el 1))), .int (nI ((ei 1)))], wI (cy 1) (eg 1) 10 (gc 1)]) (rest := []) ⟨hx, hb, hml, hown, hg, hl.1⟩ k_X1_94 (s_isYesState l D cy h0 h1 h2 h3 h4 h5 h6 h7 h8 h9 h10 h11 hv1 hv2 hv3 hv4 ys (nI k_42)) E0_blind hK hP hD hS hA [2] [0, 1, 3, 4, 5, 6, 7, 8, 9, 10, 11, 12, 13, 14, 15, 16, 17] ⟨rfl, rfl, by decide +kernel, by decide +kernel, by decide +kernel⟩ rfl rfl (fun _ _ _ => trivial) dX1_pardonsWithLast_86 rfl rfl (Nat.le_of_ble_eq_true rfl) ⟨Nat.le_of_ble_eq_true rfl, Nat.le_of_ble_eq_true rfl⟩ ⟨Nat.le_of_ble_eq_true rfl, Nat.le_of_ble_eq_true rfl⟩ (fun zr46 zu46 H locs hw46 hP9 hD9 hS9 => ?_)
              clear hP hD hS
              refine reW [wO q0 1 [.ref q1, .ref er, .ref q2, .ref q3, .ref q4, .ref h0, .int (nI ql), .int qo], wI (cy 1) q2 24 (fph), wI (cy 1) h7 48 (fx), wI (cy 1) h1 4 (fc), (er, .inl (cy 4, 4, .inr (.inr (.inr (.inr (eF (ea 0) (ea 1) (ea 2) (ea 3))))))), wO (ea 0) 2 [.ref (eg 0), .ref (ef 0), .int (et 0), .int (nI (el 0)), .int (nI (ei 0))], wI (cy 1) (eg 0) 10 (gc 0), wI (cy 1) (ef 0) 7 (xc 0), wI (cy 1) (ef 1) 7 (xc 1), wO (ea 2) 2 [.ref (eg 2), .ref (ef 2), .int (et 2), .int (nI (el 2)), .int (nI (ei 2))], wI (cy 1) (eg 2) 10 (gc 2), wI (cy 1) (ef 2) 7 (xc 2), wO (ea 3) 2 [.ref (eg 3), .ref (ef 3), .int (et 3), .int (nI (el 3)), .int (nI (ei 3))], wI (cy 1) (eg 3) 10 (gc 3), wI (cy 1) (ef 3) 7 (xc 3), wO (ea 1) 2 [.ref (eg 1), .ref (ef 1), .int (et 1), .int (nI ((el 1))), .int (nI ((ei 1)))], wI (cy 1) (eg 1) 10 (gc 1), wO h0 4 [.ref h1, .ref h2, .ref h3, .ref h4, .ref h5, .ref h6, .ref h7, .ref h8, .ref h9, .ref h10, .ref h11, .int ys, hv1, hv2, hv3, hv4]] hP9 hD9 hS9 (fun hP hD hS => ?_)
              clear hP9 hD9 hS9
              refine W.widen (k := 0) (n := 0) (Nat.le_of_ble_eq_true rfl) (Nat.le_of_ble_eq_true rfl) ?_
              replace hw46 : (zr46 = 0 ∨ zr46 = 1) ∧ (bR zr46 (decide (¬ (ys >>> ((nI k_42) &&& 31)) &&& 1 = 0))) := hw46
              obtain ⟨f_47, f_48⟩ := hw46
              refine lv_if_ne (tgt := 94) hx hb dX1_pardonsWithLast_89 (by decide) (fun c_89 => ?_) (fun c_89 => ?_)
              · refine lv_iinc (v := 2) (lv' := [(3, .int 2), (6, .int zr29), (5, .ref (ea 1)), (4, .int (nI v_7)), (0, .ref q0), (1, .int (nI dp)), (2, .int (nI wd))]) hx hb dX1_pardonsWithLast_94 hl (k := 3) rfl (by decide) (by decide) rfl (fun ls hl => ?_)
                refine lv_goto (tgt := 2) hx hb dX1_pardonsWithLast_97 (by decide) ?_
                exact ih1  2 (by omega) (alF_y (p := (fun c9 => pdL fx ys (et c9) (nxL (gc c9) dp wd (Lp c9)))) (k := 1) hf1_1 ((show ysB ys k_42 = pdL fx ys (et 1) (nxL (gc 1) dp wd (Lp 1)) from (by rw [nx_0 (bR_f f_31 c_46)]; exact pd_old (pt_at (hpt 1 (by omega)) rfl ev_7 (by omega) (by omega)) (an_1 (by omega) ex_40 c_54) hcl9 f_45 (by omega) rfl hnx (fun x9 h9 => hLw 1 x9 (by omega) h9))).symm.trans (bR_t f_48 c_89))) (by omega) _ _ (hP.sub [0, 1, 17, 2, 3, 4, 5, 6, 7, 15, 16, 8, 9, 10, 11, 12, 13, 14] rfl) (hD.sub [0, 1, 17, 2, 3, 4, 5, 6, 7, 15, 16, 8, 9, 10, 11, 12, 13, 14] (by decide +kernel) rfl) hS ls (lv_sub hl [0, 4, 5, 6] rfl)
              · refine lv_iconst (v := 0) hx hb dX1_pardonsWithLast_92 (by decide) ?_
                exact x_zret hQ hx hb hr hlocks hK hP hD hS rfl dX1_pardonsWithLast_93 () (⟨(Or.inl rfl), bR_0 (alF_f (p := (fun c9 => pdL fx ys (et c9) (nxL (gc c9) dp wd (Lp c9)))) (k := 1) ((show ysB ys k_42 = pdL fx ys (et 1) (nxL (gc 1) dp wd (Lp 1)) from (by rw [nx_0 (bR_f f_31 c_46)]; exact pd_old (pt_at (hpt 1 (by omega)) rfl ev_7 (by omega) (by omega)) (an_1 (by omega) ex_40 c_54) hcl9 f_45 (by omega) rfl hnx (fun x9 h9 => hLw 1 x9 (by omega) h9))).symm.trans (bR_f f_48 c_89)) (by omega))⟩) [0, 1, 17, 2, 3, 4, 5, 6, 7, 15, 16, 8, 9, 10, 11, 12, 13, 14] (by decide +kernel) rfl (Nat.le_of_ble_eq_true rfl) (Nat.le_of_ble_eq_true rfl)
            · refine lv_iconst (v := 0) hx hb dX1_pardonsWithLast_57 (by decide) ?_
              exact x_zret hQ hx hb hr hlocks hK hP hD hS rfl dX1_pardonsWithLast_58 () (⟨(Or.inl rfl), bR_0 (alF_f (p := (fun c9 => pdL fx ys (et c9) (nxL (gc c9) dp wd (Lp c9)))) (k := 1) (by show pdL fx ys (et 1) (nxL (gc 1) dp wd (Lp 1)) = false; rw [nx_0 (bR_f f_31 c_46)]; exact pd_none (pt_at (hpt 1 (by omega)) rfl ev_7 (by omega) (by omega)) (an_0 (by omega) ex_40 c_54)) (by omega))⟩) [0, 1, 2, 3, 4, 5, 6, 7, 8, 16, 17, 9, 10, 11, 12, 13, 14, 15] (by decide +kernel) rfl (Nat.le_of_ble_eq_true rfl) (Nat.le_of_ble_eq_true rfl)
        · subst hsp
          refine va_aldq hx hb hK hP 5 4 rfl rfl (by unfold vp_in; decide) dX1_pardonsWithLast_32 ?_
          refine W.eq (g2 := F0 m 33 ls [.ref (ea 2)]) rfl ?_
          refine lv_astore (lv' := [(5, .ref (ea 2)), (4, .int (nI v_7)), (3, .int 2), (0, .ref q0), (1, .int (nI dp)), (2, .int (nI wd))]) hx hb dX1_pardonsWithLast_33 hl (by decide) rfl (fun ls hl => ?_)
          refine lv_aload hx hb dX1_pardonsWithLast_35 (lv_at hl 0 rfl) ?_
          refine lv_iload_n hx hb dX1_pardonsWithLast_37 rfl (lv_at hl 4 rfl) ?_
          refine lv_iload_n hx hb dX1_pardonsWithLast_38 rfl (lv_at hl 5 rfl) ?_
          refine x_callVi (q := (RX2, TX2, 5)) (ci := 2) (q0 := 0) (wr := [wO q0 1 [.ref q1, .ref er, .ref q2, .ref q3, .ref q4, .ref h0, .int (nI ql), .int qo], wI (cy 1) q2 24 (fph), wO h0 4 [.ref h1, .ref h2, .ref h3, .ref h4, .ref h5, .ref h6, .ref h7, .ref h8, .ref h9, .ref h10, .ref h11, .int ys, hv1, hv2, hv3, hv4], wI (cy 1) h7 48 (fx), wI (cy 1) h1 4 (fc), (er, .inl (cy 4, 4, .inr (.inr (.inr (.inr (eF (ea 0) (ea 1) (ea 2) (ea 3))))))), wO (ea 0) 2 [.ref (eg 0), .ref (ef 0), .int (et 0), .int (nI (el 0)), .int (nI (ei 0))], wI (cy 1) (eg 0) 10 (gc 0), wI (cy 1) (ef 0) 7 (xc 0), wO (ea 1) 2 [.ref (eg 1), .ref (ef 1), .int (et 1), .int (nI (el 1)), .int (nI (ei 1))], wI (cy 1) (eg 1) 10 (gc 1), wI (cy 1) (ef 1) 7 (xc 1), wI (cy 1) (ef 2) 7 (xc 2), wO (ea 3) 2 [.ref (eg 3), .ref (ef 3), .int (et 3), .int (nI (el 3)), .int (nI (ei 3))], wI (cy 1) (eg 3) 10 (gc 3), wI (cy 1) (ef 3) 7 (xc 3)]) (rest := []) ⟨hx, hb, hml, hown, hg, hl.1⟩ k_X1_70 (s_comesBack l D cy (ea 2) (eg 2) (ef 2) (et 2) ((el 2)) ((ei 2)) (gc 2) dp (nI wd) (by omega)) E0_blind hK hP hD hS hA [12, 13] [0, 1, 2, 3, 4, 5, 6, 7, 8, 9, 10, 11, 14, 15, 16, 17] ⟨rfl, rfl, by decide +kernel, by decide +kernel, by decide +kernel⟩ rfl rfl (fun _ _ _ => trivial) dX1_pardonsWithLast_39 rfl rfl (Nat.le_of_ble_eq_true rfl) ⟨Nat.le_of_ble_eq_true rfl, Nat.le_of_ble_eq_true rfl⟩ ⟨Nat.le_of_ble_eq_true rfl, Nat.le_of_ble_eq_true rfl⟩ (fun zr49 zu49 H locs hw49 hP9 hD9 hS9 => ?_)
          clear hP hD hS
          refine reW [wO q0 1 [.ref q1, .ref er, .ref q2, .ref q3, .ref q4, .ref h0, .int (nI ql), .int qo], wI (cy 1) q2 24 (fph), wO h0 4 [.ref h1, .ref h2, .ref h3, .ref h4, .ref h5, .ref h6, .ref h7, .ref h8, .ref h9, .ref h10, .ref h11, .int ys, hv1, hv2, hv3, hv4], wI (cy 1) h7 48 (fx), wI (cy 1) h1 4 (fc), (er, .inl (cy 4, 4, .inr (.inr (.inr (.inr (eF (ea 0) (ea 1) (ea 2) (ea 3))))))), wO (ea 0) 2 [.ref (eg 0), .ref (ef 0), .int (et 0), .int (nI (el 0)), .int (nI (ei 0))], wI (cy 1) (eg 0) 10 (gc 0), wI (cy 1) (ef 0) 7 (xc 0), wO (ea 1) 2 [.ref (eg 1), .ref (ef 1), .int (et 1), .int (nI (el 1)), .int (nI (ei 1))], wI (cy 1) (eg 1) 10 (gc 1), wI (cy 1) (ef 1) 7 (xc 1), wI (cy 1) (ef 2) 7 (xc 2), wO (ea 3) 2 [.ref (eg 3), .ref (ef 3), .int (et 3), .int (nI (el 3)), .int (nI (ei 3))], wI (cy 1) (eg 3) 10 (gc 3), wI (cy 1) (ef 3) 7 (xc 3), wO (ea 2) 2 [.ref (eg 2), .ref (ef 2), .int (et 2), .int (nI ((el 2))), .int (nI ((ei 2)))], wI (cy 1) (eg 2) 10 (gc 2)] hP9 hD9 hS9 (fun hP hD hS => ?_)
          clear hP9 hD9 hS9
          refine W.widen (k := 0) (n := 0) (Nat.le_of_ble_eq_true rfl) (Nat.le_of_ble_eq_true rfl) ?_
          replace hw49 : (zr49 = 0 ∨ zr49 = 1) ∧ (bR zr49 (gB ((gc 2) dp) (nI wd))) := hw49
          obtain ⟨f_50, f_51⟩ := hw49
          refine lv_istore (lv' := [(6, .int zr49), (5, .ref (ea 2)), (4, .int (nI v_7)), (3, .int 2), (0, .ref q0), (1, .int (nI dp)), (2, .int (nI wd))]) hx hb dX1_pardonsWithLast_42 hl (by decide) rfl (fun ls hl => ?_)
          refine lv_iload hx hb dX1_pardonsWithLast_44 (lv_at hl 0 rfl) ?_
          refine lv_if_ne (tgt := 59) hx hb dX1_pardonsWithLast_46 (by decide) (fun c_46 => ?_) (fun c_46 => ?_)
          · refine lv_aload_n hx hb dX1_pardonsWithLast_59 rfl (lv_at hl 4 rfl) ?_
            refine va_get (D := D) (ci := 1) (v := .ref h0) (C := RX1) (T := TX1) (N := 8) hx hb hg i_X1 hown hK hP 0 rfl rfl 5 (by decide) (hg _ m_558) (fun _ h9 => h9) rfl dX1_pardonsWithLast_60 ?_
            refine lv_iload hx hb dX1_pardonsWithLast_63 (lv_at hl 0 rfl) ?_
            refine lv_if_eq (tgt := 80) hx hb dX1_pardonsWithLast_65 (by decide) (fun h => absurd h c_46) (fun _ => ?_)
            refine lv_aload_n hx hb dX1_pardonsWithLast_68 rfl (lv_at hl 4 rfl) ?_
            refine lv_aload hx hb dX1_pardonsWithLast_69 (lv_at hl 1 rfl) ?_
            refine lv_iload hx hb dX1_pardonsWithLast_71 (lv_at hl 2 rfl) ?_
            refine lv_iload_n hx hb dX1_pardonsWithLast_73 rfl (lv_at hl 6 rfl) ?_
            refine x_callVi (q := (RX1, TX1, 8)) (ci := 1) (q0 := 0) (wr := [wI (cy 1) q2 24 (fph), wI (cy 1) h1 4 (fc), (er, .inl (cy 4, 4, .inr (.inr (.inr (.inr (eF (ea 0) (ea 1) (ea 2) (ea 3))))))), wO (ea 0) 2 [.ref (eg 0), .ref (ef 0), .int (et 0), .int (nI (el 0)), .int (nI (ei 0))], wI (cy 1) (eg 0) 10 (gc 0), wI (cy 1) (ef 0) 7 (xc 0), wO (ea 1) 2 [.ref (eg 1), .ref (ef 1), .int (et 1), .int (nI (el 1)), .int (nI (ei 1))], wI (cy 1) (eg 1) 10 (gc 1), wI (cy 1) (ef 1) 7 (xc 1), wI (cy 1) (ef 2) 7 (xc 2), wO (ea 3) 2 [.ref (eg 3), .ref (ef 3), .int (et 3), .int (nI (el 3)), .int (nI (ei 3))], wI (cy 1) (eg 3) 10 (gc 3), wI (cy 1) (ef 3) 7 (xc 3), wI (cy 1) (eg 2) 10 (gc 2)]) (rest := [.ref h0]) ⟨hx, hb, hml, hown, hg, hl.1⟩ k_X1_90 (s_endState l D cy q0 q1 q2 q3 q4 er ql qo h0 h1 h2 h3 h4 h5 h6 h7 h8 h9 h10 h11 ((.int ys)) hv1 hv2 hv3 hv4 fx (ea 2) (eg 2) (ef 2) (et 2) (((el 2))) (((ei 2))) v_7 wd (hnx) (hv_7) (by omega)) E0_blind hK hP hD hS hA [0, 2, 3, 16] [1, 4, 5, 6, 7, 8, 9, 10, 11, 12, 13, 14, 15, 17] ⟨rfl, rfl, by decide +kernel, by decide +kernel, by decide +kernel⟩ rfl rfl (fun _ _ _ => trivial) dX1_pardonsWithLast_74 rfl rfl (Nat.le_of_ble_eq_true rfl) ⟨Nat.le_of_ble_eq_true rfl, Nat.le_of_ble_eq_true rfl⟩ ⟨Nat.le_of_ble_eq_true rfl, Nat.le_of_ble_eq_true rfl⟩ (fun zr52 zu52 H locs hw52 hP9 hD9 hS9 => ?_)
            clear hP hD hS
            obtain ⟨k_53, rfl⟩ : ∃ z, z = zu52 := ⟨_, rfl⟩
            refine reW [wI (cy 1) q2 24 (fph), wI (cy 1) h1 4 (fc), (er, .inl (cy 4, 4, .inr (.inr (.inr (.inr (eF (ea 0) (ea 1) (ea 2) (ea 3))))))), wO (ea 0) 2 [.ref (eg 0), .ref (ef 0), .int (et 0), .int (nI (el 0)), .int (nI (ei 0))], wI (cy 1) (eg 0) 10 (gc 0), wI (cy 1) (ef 0) 7 (xc 0), wO (ea 1) 2 [.ref (eg 1), .ref (ef 1), .int (et 1), .int (nI (el 1)), .int (nI (ei 1))], wI (cy 1) (eg 1) 10 (gc 1), wI (cy 1) (ef 1) 7 (xc 1), wI (cy 1) (ef 2) 7 (xc 2), wO (ea 3) 2 [.ref (eg 3), .ref (ef 3), .int (et 3), .int (nI (el 3)), .int (nI (ei 3))], wI (cy 1) (eg 3) 10 (gc 3), wI (cy 1) (ef 3) 7 (xc 3), wI (cy 1) (eg 2) 10 (gc 2), wO q0 1 [.ref q1, .ref er, .ref q2, .ref q3, .ref q4, .ref h0, .int (nI ql), .int qo], wO h0 4 [.ref h1, .ref h2, .ref h3, .ref h4, .ref h5, .ref h6, .ref h7, .ref h8, .ref h9, .ref h10, .ref h11, .int ys, hv1, hv2, hv3, hv4], wI (cy 1) h7 48 (fx), wO (ea 2) 2 [.ref (eg 2), .ref (ef 2), .int (et 2), .int (nI (((el 2)))), .int (nI (((ei 2))))]] hP9 hD9 hS9 (fun hP hD hS => ?_)
            clear hP9 hD9 hS9
            refine W.widen (k := 0) (n := 0) (Nat.le_of_ble_eq_true rfl) (Nat.le_of_ble_eq_true rfl) ?_
            replace hw52 : (zr52 = nI k_53) ∧ (k_53 ≤ 5) ∧ (k_53 = if (et 2) = 0 then nC9 fx (dg9 v_7 0) wd else dg9 v_7 (nC9 fx 0 wd)) := hw52
            obtain ⟨f_54, f_55, f_56⟩ := hw52
            subst f_54
            refine lv_goto (tgt := 86) hx hb dX1_pardonsWithLast_77 (by decide) ?_
            refine x_callVi (q := (RX4, TX4, 16)) (ci := 4) (q0 := 0) (wr := [wI (cy 1) q2 24 (fph), wI (cy 1) h1 4 (fc), (er, .inl (cy 4, 4, .inr (.inr (.inr (.inr (eF (ea 0) (ea 1) (ea 2) (ea 3))))))), wO (ea 0) 2 [.ref (eg 0), .ref (ef 0), .int (et 0), .int (nI (el 0)), .int (nI (ei 0))], wI (cy 1) (eg 0) 10 (gc 0), wI (cy 1) (ef 0) 7 (xc 0), wO (ea 1) 2 [.ref (eg 1), .ref (ef 1), .int (et 1), .int (nI (el 1)), .int (nI (ei 1))], wI (cy 1) (eg 1) 10 (gc 1), wI (cy 1) (ef 1) 7 (xc 1), wI (cy 1) (ef 2) 7 (xc 2), wO (ea 3) 2 [.ref (eg 3), .ref (ef 3), .int (et 3), .int (nI (el 3)), .int (nI (ei 3))], wI (cy 1) (eg 3) 10 (gc 3), wI (cy 1) (ef 3) 7 (xc 3), wI (cy 1) (eg 2) 10 (gc 2), wO q0 1 [.ref q1, .ref er, .ref q2, .ref q3, .ref q4, .ref h0, .int (nI ql), .int qo], wI (cy 1) h7 48 (fx), wO (ea 2) 2 [.ref (eg 2), .ref (ef 2), .int (et 2), .int (nI (((el 2)))), .int (nI (((ei 2))))]]) (rest := []) ⟨hx, hb, hml, hown, hg, hl.1⟩ k_X1_94 (s_isYesState l D cy h0 h1 h2 h3 h4 h5 h6 h7 h8 h9 h10 h11 hv1 hv2 hv3 hv4 ys (nI k_53)) E0_blind hK hP hD hS hA [15] [0, 1, 2, 3, 4, 5, 6, 7, 8, 9, 10, 11, 12, 13, 14, 16, 17] ⟨rfl, rfl, by decide +kernel, by decide +kernel, by decide +kernel⟩ rfl rfl (fun _ _ _ => trivial) dX1_pardonsWithLast_86 rfl rfl (Nat.le_of_ble_eq_true rfl) ⟨Nat.le_of_ble_eq_true rfl, Nat.le_of_ble_eq_true rfl⟩ ⟨Nat.le_of_ble_eq_true rfl, Nat.le_of_ble_eq_true rfl⟩ (fun zr57 zu57 H locs hw57 hP9 hD9 hS9 => ?_)
            clear hP hD hS
            refine reW [wI (cy 1) q2 24 (fph), wI (cy 1) h1 4 (fc), (er, .inl (cy 4, 4, .inr (.inr (.inr (.inr (eF (ea 0) (ea 1) (ea 2) (ea 3))))))), wO (ea 0) 2 [.ref (eg 0), .ref (ef 0), .int (et 0), .int (nI (el 0)), .int (nI (ei 0))], wI (cy 1) (eg 0) 10 (gc 0), wI (cy 1) (ef 0) 7 (xc 0), wO (ea 1) 2 [.ref (eg 1), .ref (ef 1), .int (et 1), .int (nI (el 1)), .int (nI (ei 1))], wI (cy 1) (eg 1) 10 (gc 1), wI (cy 1) (ef 1) 7 (xc 1), wI (cy 1) (ef 2) 7 (xc 2), wO (ea 3) 2 [.ref (eg 3), .ref (ef 3), .int (et 3), .int (nI (el 3)), .int (nI (ei 3))], wI (cy 1) (eg 3) 10 (gc 3), wI (cy 1) (ef 3) 7 (xc 3), wI (cy 1) (eg 2) 10 (gc 2), wO q0 1 [.ref q1, .ref er, .ref q2, .ref q3, .ref q4, .ref h0, .int (nI ql), .int qo], wI (cy 1) h7 48 (fx), wO (ea 2) 2 [.ref (eg 2), .ref (ef 2), .int (et 2), .int (nI (((el 2)))), .int (nI (((ei 2))))], wO h0 4 [.ref h1, .ref h2, .ref h3, .ref h4, .ref h5, .ref h6, .ref h7, .ref h8, .ref h9, .ref h10, .ref h11, .int ys, hv1, hv2, hv3, hv4]] hP9 hD9 hS9 (fun hP hD hS => ?_)
            clear hP9 hD9 hS9
            refine W.widen (k := 0) (n := 0) (Nat.le_of_ble_eq_true rfl) (Nat.le_of_ble_eq_true rfl) ?_
            replace hw57 : (zr57 = 0 ∨ zr57 = 1) ∧ (bR zr57 (decide (¬ (ys >>> ((nI k_53) &&& 31)) &&& 1 = 0))) := hw57
            obtain ⟨f_58, f_59⟩ := hw57
            refine lv_if_ne (tgt := 94) hx hb dX1_pardonsWithLast_89 (by decide) (fun c_89 => ?_) (fun c_89 => ?_)
            · refine lv_iinc (v := 3) (lv' := [(3, .int 3), (6, .int zr49), (5, .ref (ea 2)), (4, .int (nI v_7)), (0, .ref q0), (1, .int (nI dp)), (2, .int (nI wd))]) hx hb dX1_pardonsWithLast_94 hl (k := 3) rfl (by decide) (by decide) rfl (fun ls hl => ?_)
              refine lv_goto (tgt := 2) hx hb dX1_pardonsWithLast_97 (by decide) ?_
              exact ih1  3 (by omega) (alF_y (p := (fun c9 => pdL fx ys (et c9) (nxL (gc c9) dp wd (Lp c9)))) (k := 2) hf1_1 ((show ysB ys k_53 = pdL fx ys (et 2) (nxL (gc 2) dp wd (Lp 2)) from (by rw [nx_1 (bR_t f_51 c_46)]; exact pd_new (pt_at (hpt 2 (by omega)) rfl ev_7 (by omega) (by omega)) hcl9 (by omega) (by omega) f_56 (by omega) rfl hnx (fun x9 h9 => hLw 2 x9 (by omega) h9))).symm.trans (bR_t f_59 c_89))) (by omega) _ _ (hP.sub [14, 0, 17, 15, 1, 2, 3, 4, 5, 6, 7, 8, 16, 13, 9, 10, 11, 12] rfl) (hD.sub [14, 0, 17, 15, 1, 2, 3, 4, 5, 6, 7, 8, 16, 13, 9, 10, 11, 12] (by decide +kernel) rfl) hS ls (lv_sub hl [0, 4, 5, 6] rfl)
            · refine lv_iconst (v := 0) hx hb dX1_pardonsWithLast_92 (by decide) ?_
              exact x_zret hQ hx hb hr hlocks hK hP hD hS rfl dX1_pardonsWithLast_93 () (⟨(Or.inl rfl), bR_0 (alF_f (p := (fun c9 => pdL fx ys (et c9) (nxL (gc c9) dp wd (Lp c9)))) (k := 2) ((show ysB ys k_53 = pdL fx ys (et 2) (nxL (gc 2) dp wd (Lp 2)) from (by rw [nx_1 (bR_t f_51 c_46)]; exact pd_new (pt_at (hpt 2 (by omega)) rfl ev_7 (by omega) (by omega)) hcl9 (by omega) (by omega) f_56 (by omega) rfl hnx (fun x9 h9 => hLw 2 x9 (by omega) h9))).symm.trans (bR_f f_59 c_89)) (by omega))⟩) [14, 0, 17, 15, 1, 2, 3, 4, 5, 6, 7, 8, 16, 13, 9, 10, 11, 12] (by decide +kernel) rfl (Nat.le_of_ble_eq_true rfl) (Nat.le_of_ble_eq_true rfl)
          · refine lv_iload hx hb dX1_pardonsWithLast_49 (lv_at hl 2 rfl) ?_
            refine lv_ldc (v := 262144) hx hb hown (hg _ m_1162) dX1_pardonsWithLast_51 ?_
            refine lv_iand hx hb dX1_pardonsWithLast_53 ?_
            refine lv_topi (fun x_60 ex_60 => ?_)
            refine lv_if_ne (tgt := 59) hx hb dX1_pardonsWithLast_54 (by decide) (fun c_54 => ?_) (fun c_54 => ?_)
            · refine lv_aload_n hx hb dX1_pardonsWithLast_59 rfl (lv_at hl 4 rfl) ?_
              refine va_get (D := D) (ci := 1) (v := .ref h0) (C := RX1) (T := TX1) (N := 8) hx hb hg i_X1 hown hK hP 0 rfl rfl 5 (by decide) (hg _ m_558) (fun _ h9 => h9) rfl dX1_pardonsWithLast_60 ?_
              refine lv_iload hx hb dX1_pardonsWithLast_63 (lv_at hl 0 rfl) ?_
              refine lv_if_eq (tgt := 80) hx hb dX1_pardonsWithLast_65 (by decide) (fun _ => ?_) (fun h => absurd c_46 h)
              refine lv_iload hx hb dX1_pardonsWithLast_80 (lv_at hl 2 rfl) ?_
              refine lv_iconst (v := 0) hx hb dX1_pardonsWithLast_82 (by decide) ?_
              refine x_callSi (wr := [wO q0 1 [.ref q1, .ref er, .ref q2, .ref q3, .ref q4, .ref h0, .int (nI ql), .int qo], wI (cy 1) q2 24 (fph), wO h0 4 [.ref h1, .ref h2, .ref h3, .ref h4, .ref h5, .ref h6, .ref h7, .ref h8, .ref h9, .ref h10, .ref h11, .int ys, hv1, hv2, hv3, hv4], wI (cy 1) h7 48 (fx), wI (cy 1) h1 4 (fc), (er, .inl (cy 4, 4, .inr (.inr (.inr (.inr (eF (ea 0) (ea 1) (ea 2) (ea 3))))))), wO (ea 0) 2 [.ref (eg 0), .ref (ef 0), .int (et 0), .int (nI (el 0)), .int (nI (ei 0))], wI (cy 1) (eg 0) 10 (gc 0), wI (cy 1) (ef 0) 7 (xc 0), wO (ea 1) 2 [.ref (eg 1), .ref (ef 1), .int (et 1), .int (nI (el 1)), .int (nI (ei 1))], wI (cy 1) (eg 1) 10 (gc 1), wI (cy 1) (ef 1) 7 (xc 1), wI (cy 1) (ef 2) 7 (xc 2), wO (ea 3) 2 [.ref (eg 3), .ref (ef 3), .int (et 3), .int (nI (el 3)), .int (nI (ei 3))], wI (cy 1) (eg 3) 10 (gc 3), wI (cy 1) (ef 3) 7 (xc 3), wO (ea 2) 2 [.ref (eg 2), .ref (ef 2), .int (et 2), .int (nI ((el 2))), .int (nI ((ei 2)))], wI (cy 1) (eg 2) 10 (gc 2)]) (rest := [.ref h0]) ⟨hx, hb, hml, hown, hg, hl.1⟩ k_X1_87 (s_stateOf l D cy v_7 0 (hv_7) (by omega)) E0_blind hK hP hD hS hA [] [0, 1, 2, 3, 4, 5, 6, 7, 8, 9, 10, 11, 12, 13, 14, 15, 16, 17] ⟨rfl, rfl, by decide +kernel, by decide +kernel, by decide +kernel⟩ (fun _ _ _ => trivial) dX1_pardonsWithLast_83 rfl rfl (Nat.le_of_ble_eq_true rfl) ⟨Nat.le_of_ble_eq_true rfl, Nat.le_of_ble_eq_true rfl⟩ ⟨Nat.le_of_ble_eq_true rfl, Nat.le_of_ble_eq_true rfl⟩ (fun zr61 zu61 H locs hw61 hP9 hD9 hS9 => ?_)
              clear hP hD hS
              obtain ⟨k_62, rfl⟩ : ∃ z, z = zu61 := ⟨_, rfl⟩
              refine reW [wO q0 1 [.ref q1, .ref er, .ref q2, .ref q3, .ref q4, .ref h0, .int (nI ql), .int qo], wI (cy 1) q2 24 (fph), wO h0 4 [.ref h1, .ref h2, .ref h3, .ref h4, .ref h5, .ref h6, .ref h7, .ref h8, .ref h9, .ref h10, .ref h11, .int ys, hv1, hv2, hv3, hv4], wI (cy 1) h7 48 (fx), wI (cy 1) h1 4 (fc), (er, .inl (cy 4, 4, .inr (.inr (.inr (.inr (eF (ea 0) (ea 1) (ea 2) (ea 3))))))), wO (ea 0) 2 [.ref (eg 0), .ref (ef 0), .int (et 0), .int (nI (el 0)), .int (nI (ei 0))], wI (cy 1) (eg 0) 10 (gc 0), wI (cy 1) (ef 0) 7 (xc 0), wO (ea 1) 2 [.ref (eg 1), .ref (ef 1), .int (et 1), .int (nI (el 1)), .int (nI (ei 1))], wI (cy 1) (eg 1) 10 (gc 1), wI (cy 1) (ef 1) 7 (xc 1), wI (cy 1) (ef 2) 7 (xc 2), wO (ea 3) 2 [.ref (eg 3), .ref (ef 3), .int (et 3), .int (nI (el 3)), .int (nI (ei 3))], wI (cy 1) (eg 3) 10 (gc 3), wI (cy 1) (ef 3) 7 (xc 3), wO (ea 2) 2 [.ref (eg 2), .ref (ef 2), .int (et 2), .int (nI ((el 2))), .int (nI ((ei 2)))], wI (cy 1) (eg 2) 10 (gc 2)] hP9 hD9 hS9 (fun hP hD hS => ?_)
              clear hP9 hD9 hS9
              refine W.widen (k := 0) (n := 0) (Nat.le_of_ble_eq_true rfl) (Nat.le_of_ble_eq_true rfl) ?_
              replace hw61 : (zr61 = nI k_62) ∧ (k_62 ≤ 5) ∧ (k_62 = dg9 v_7 0) := hw61
              obtain ⟨f_63, f_64, f_65⟩ := hw61
              subst f_63
              refine x_callVi (q := (RX4, TX4, 16)) (ci := 4) (q0 := 0) (wr := [wO q0 1 [.ref q1, .ref er, .ref q2, .ref q3, .ref q4, .ref h0, .int (nI ql), .int qo], wI (cy 1) q2 24 (fph), wI (cy 1) h7 48 (fx), wI (cy 1) h1 4 (fc), (er, .inl (cy 4, 4, .inr (.inr (.inr (.inr (eF (ea 0) (ea 1) (ea 2) (ea 3))))))), wO (ea 0) 2 [.ref (eg 0), .ref (ef 0), .int (et 0), .int (nI (el 0)), .int (nI (ei 0))], wI (cy 1) (eg 0) 10 (gc 0), wI (cy 1) (ef 0) 7 (xc 0), wO (ea 1) 2 [.ref (eg 1), .ref (ef 1), .int (et 1), .int (nI (el 1)), .int (nI (ei 1))], wI (cy 1) (eg 1) 10 (gc 1), wI (cy 1) (ef 1) 7 (xc 1), wI (cy 1) (ef 2) 7 (xc 2), wO (ea 3) 2 [.ref (eg 3), .ref (ef 3), .int (et 3), .int (nI (el 3)), .int (nI (ei 3))], wI (cy 1) (eg 3) 10 (gc 3), wI (cy 1) (ef 3) 7 (xc 3), wO (ea 2) 2 [.ref (eg 2), .ref (ef 2), .int (et 2), .int (nI ((el 2))), .int (nI ((ei 2)))], wI (cy 1) (eg 2) 10 (gc 2)]) (rest := []) ⟨hx, hb, hml, hown, hg, hl.1⟩ k_X1_94 (s_isYesState l D cy h0 h1 h2 h3 h4 h5 h6 h7 h8 h9 h10 h11 hv1 hv2 hv3 hv4 ys (nI k_62)) E0_blind hK hP hD hS hA [2] [0, 1, 3, 4, 5, 6, 7, 8, 9, 10, 11, 12, 13, 14, 15, 16, 17] ⟨rfl, rfl, by decide +kernel, by decide +kernel, by decide +kernel⟩ rfl rfl (fun _ _ _ => trivial) dX1_pardonsWithLast_86 rfl rfl (Nat.le_of_ble_eq_true rfl) ⟨Nat.le_of_ble_eq_true rfl, Nat.le_of_ble_eq_true rfl⟩ ⟨Nat.le_of_ble_eq_true rfl, Nat.le_of_ble_eq_true rfl⟩ (fun zr66 zu66 H locs hw66 hP9 hD9 hS9 => ?_)
              clear hP hD hS
              refine reW [wO q0 1 [.ref q1, .ref er, .ref q2, .ref q3, .ref q4, .ref h0, .int (nI ql), .int qo], wI (cy 1) q2 24 (fph), wI (cy 1) h7 48 (fx), wI (cy 1) h1 4 (fc), (er, .inl (cy 4, 4, .inr (.inr (.inr (.inr (eF (ea 0) (ea 1) (ea 2) (ea 3))))))), wO (ea 0) 2 [.ref (eg 0), .ref (ef 0), .int (et 0), .int (nI (el 0)), .int (nI (ei 0))], wI (cy 1) (eg 0) 10 (gc 0), wI (cy 1) (ef 0) 7 (xc 0), wO (ea 1) 2 [.ref (eg 1), .ref (ef 1), .int (et 1), .int (nI (el 1)), .int (nI (ei 1))], wI (cy 1) (eg 1) 10 (gc 1), wI (cy 1) (ef 1) 7 (xc 1), wI (cy 1) (ef 2) 7 (xc 2), wO (ea 3) 2 [.ref (eg 3), .ref (ef 3), .int (et 3), .int (nI (el 3)), .int (nI (ei 3))], wI (cy 1) (eg 3) 10 (gc 3), wI (cy 1) (ef 3) 7 (xc 3), wO (ea 2) 2 [.ref (eg 2), .ref (ef 2), .int (et 2), .int (nI ((el 2))), .int (nI ((ei 2)))], wI (cy 1) (eg 2) 10 (gc 2), wO h0 4 [.ref h1, .ref h2, .ref h3, .ref h4, .ref h5, .ref h6, .ref h7, .ref h8, .ref h9, .ref h10, .ref h11, .int ys, hv1, hv2, hv3, hv4]] hP9 hD9 hS9 (fun hP hD hS => ?_)
              clear hP9 hD9 hS9
              refine W.widen (k := 0) (n := 0) (Nat.le_of_ble_eq_true rfl) (Nat.le_of_ble_eq_true rfl) ?_
              replace hw66 : (zr66 = 0 ∨ zr66 = 1) ∧ (bR zr66 (decide (¬ (ys >>> ((nI k_62) &&& 31)) &&& 1 = 0))) := hw66
              obtain ⟨f_67, f_68⟩ := hw66
              refine lv_if_ne (tgt := 94) hx hb dX1_pardonsWithLast_89 (by decide) (fun c_89 => ?_) (fun c_89 => ?_)
              · refine lv_iinc (v := 3) (lv' := [(3, .int 3), (6, .int zr49), (5, .ref (ea 2)), (4, .int (nI v_7)), (0, .ref q0), (1, .int (nI dp)), (2, .int (nI wd))]) hx hb dX1_pardonsWithLast_94 hl (k := 3) rfl (by decide) (by decide) rfl (fun ls hl => ?_)
                refine lv_goto (tgt := 2) hx hb dX1_pardonsWithLast_97 (by decide) ?_
                exact ih1  3 (by omega) (alF_y (p := (fun c9 => pdL fx ys (et c9) (nxL (gc c9) dp wd (Lp c9)))) (k := 2) hf1_1 ((show ysB ys k_62 = pdL fx ys (et 2) (nxL (gc 2) dp wd (Lp 2)) from (by rw [nx_0 (bR_f f_51 c_46)]; exact pd_old (pt_at (hpt 2 (by omega)) rfl ev_7 (by omega) (by omega)) (an_1 (by omega) ex_60 c_54) hcl9 f_65 (by omega) rfl hnx (fun x9 h9 => hLw 2 x9 (by omega) h9))).symm.trans (bR_t f_68 c_89))) (by omega) _ _ (hP.sub [0, 1, 17, 2, 3, 4, 5, 6, 7, 8, 9, 10, 15, 16, 11, 12, 13, 14] rfl) (hD.sub [0, 1, 17, 2, 3, 4, 5, 6, 7, 8, 9, 10, 15, 16, 11, 12, 13, 14] (by decide +kernel) rfl) hS ls (lv_sub hl [0, 4, 5, 6] rfl)
              · refine lv_iconst (v := 0) hx hb dX1_pardonsWithLast_92 (by decide) ?_
                exact x_zret hQ hx hb hr hlocks hK hP hD hS rfl dX1_pardonsWithLast_93 () (⟨(Or.inl rfl), bR_0 (alF_f (p := (fun c9 => pdL fx ys (et c9) (nxL (gc c9) dp wd (Lp c9)))) (k := 2) ((show ysB ys k_62 = pdL fx ys (et 2) (nxL (gc 2) dp wd (Lp 2)) from (by rw [nx_0 (bR_f f_51 c_46)]; exact pd_old (pt_at (hpt 2 (by omega)) rfl ev_7 (by omega) (by omega)) (an_1 (by omega) ex_60 c_54) hcl9 f_65 (by omega) rfl hnx (fun x9 h9 => hLw 2 x9 (by omega) h9))).symm.trans (bR_f f_68 c_89)) (by omega))⟩) [0, 1, 17, 2, 3, 4, 5, 6, 7, 8, 9, 10, 15, 16, 11, 12, 13, 14] (by decide +kernel) rfl (Nat.le_of_ble_eq_true rfl) (Nat.le_of_ble_eq_true rfl)
            · refine lv_iconst (v := 0) hx hb dX1_pardonsWithLast_57 (by decide) ?_
              exact x_zret hQ hx hb hr hlocks hK hP hD hS rfl dX1_pardonsWithLast_58 () (⟨(Or.inl rfl), bR_0 (alF_f (p := (fun c9 => pdL fx ys (et c9) (nxL (gc c9) dp wd (Lp c9)))) (k := 2) (by show pdL fx ys (et 2) (nxL (gc 2) dp wd (Lp 2)) = false; rw [nx_0 (bR_f f_51 c_46)]; exact pd_none (pt_at (hpt 2 (by omega)) rfl ev_7 (by omega) (by omega)) (an_0 (by omega) ex_60 c_54)) (by omega))⟩) [0, 1, 2, 3, 4, 5, 6, 7, 8, 9, 10, 11, 16, 17, 12, 13, 14, 15] (by decide +kernel) rfl (Nat.le_of_ble_eq_true rfl) (Nat.le_of_ble_eq_true rfl)
        · subst hsp
          refine va_aldq hx hb hK hP 5 4 rfl rfl (by unfold vp_in; decide) dX1_pardonsWithLast_32 ?_
          refine W.eq (g2 := F0 m 33 ls [.ref (ea 3)]) rfl ?_
          refine lv_astore (lv' := [(5, .ref (ea 3)), (4, .int (nI v_7)), (3, .int 3), (0, .ref q0), (1, .int (nI dp)), (2, .int (nI wd))]) hx hb dX1_pardonsWithLast_33 hl (by decide) rfl (fun ls hl => ?_)
          refine lv_aload hx hb dX1_pardonsWithLast_35 (lv_at hl 0 rfl) ?_
          refine lv_iload_n hx hb dX1_pardonsWithLast_37 rfl (lv_at hl 4 rfl) ?_
          refine lv_iload_n hx hb dX1_pardonsWithLast_38 rfl (lv_at hl 5 rfl) ?_
          refine x_callVi (q := (RX2, TX2, 5)) (ci := 2) (q0 := 0) (wr := [wO q0 1 [.ref q1, .ref er, .ref q2, .ref q3, .ref q4, .ref h0, .int (nI ql), .int qo], wI (cy 1) q2 24 (fph), wO h0 4 [.ref h1, .ref h2, .ref h3, .ref h4, .ref h5, .ref h6, .ref h7, .ref h8, .ref h9, .ref h10, .ref h11, .int ys, hv1, hv2, hv3, hv4], wI (cy 1) h7 48 (fx), wI (cy 1) h1 4 (fc), (er, .inl (cy 4, 4, .inr (.inr (.inr (.inr (eF (ea 0) (ea 1) (ea 2) (ea 3))))))), wO (ea 0) 2 [.ref (eg 0), .ref (ef 0), .int (et 0), .int (nI (el 0)), .int (nI (ei 0))], wI (cy 1) (eg 0) 10 (gc 0), wI (cy 1) (ef 0) 7 (xc 0), wO (ea 1) 2 [.ref (eg 1), .ref (ef 1), .int (et 1), .int (nI (el 1)), .int (nI (ei 1))], wI (cy 1) (eg 1) 10 (gc 1), wI (cy 1) (ef 1) 7 (xc 1), wO (ea 2) 2 [.ref (eg 2), .ref (ef 2), .int (et 2), .int (nI (el 2)), .int (nI (ei 2))], wI (cy 1) (eg 2) 10 (gc 2), wI (cy 1) (ef 2) 7 (xc 2), wI (cy 1) (ef 3) 7 (xc 3)]) (rest := []) ⟨hx, hb, hml, hown, hg, hl.1⟩ k_X1_70 (s_comesBack l D cy (ea 3) (eg 3) (ef 3) (et 3) ((el 3)) ((ei 3)) (gc 3) dp (nI wd) (by omega)) E0_blind hK hP hD hS hA [15, 16] [0, 1, 2, 3, 4, 5, 6, 7, 8, 9, 10, 11, 12, 13, 14, 17] ⟨rfl, rfl, by decide +kernel, by decide +kernel, by decide +kernel⟩ rfl rfl (fun _ _ _ => trivial) dX1_pardonsWithLast_39 rfl rfl (Nat.le_of_ble_eq_true rfl) ⟨Nat.le_of_ble_eq_true rfl, Nat.le_of_ble_eq_true rfl⟩ ⟨Nat.le_of_ble_eq_true rfl, Nat.le_of_ble_eq_true rfl⟩ (fun zr69 zu69 H locs hw69 hP9 hD9 hS9 => ?_)
          clear hP hD hS
          refine reW [wO q0 1 [.ref q1, .ref er, .ref q2, .ref q3, .ref q4, .ref h0, .int (nI ql), .int qo], wI (cy 1) q2 24 (fph), wO h0 4 [.ref h1, .ref h2, .ref h3, .ref h4, .ref h5, .ref h6, .ref h7, .ref h8, .ref h9, .ref h10, .ref h11, .int ys, hv1, hv2, hv3, hv4], wI (cy 1) h7 48 (fx), wI (cy 1) h1 4 (fc), (er, .inl (cy 4, 4, .inr (.inr (.inr (.inr (eF (ea 0) (ea 1) (ea 2) (ea 3))))))), wO (ea 0) 2 [.ref (eg 0), .ref (ef 0), .int (et 0), .int (nI (el 0)), .int (nI (ei 0))], wI (cy 1) (eg 0) 10 (gc 0), wI (cy 1) (ef 0) 7 (xc 0), wO (ea 1) 2 [.ref (eg 1), .ref (ef 1), .int (et 1), .int (nI (el 1)), .int (nI (ei 1))], wI (cy 1) (eg 1) 10 (gc 1), wI (cy 1) (ef 1) 7 (xc 1), wO (ea 2) 2 [.ref (eg 2), .ref (ef 2), .int (et 2), .int (nI (el 2)), .int (nI (ei 2))], wI (cy 1) (eg 2) 10 (gc 2), wI (cy 1) (ef 2) 7 (xc 2), wI (cy 1) (ef 3) 7 (xc 3), wO (ea 3) 2 [.ref (eg 3), .ref (ef 3), .int (et 3), .int (nI ((el 3))), .int (nI ((ei 3)))], wI (cy 1) (eg 3) 10 (gc 3)] hP9 hD9 hS9 (fun hP hD hS => ?_)
          clear hP9 hD9 hS9
          refine W.widen (k := 0) (n := 0) (Nat.le_of_ble_eq_true rfl) (Nat.le_of_ble_eq_true rfl) ?_
          replace hw69 : (zr69 = 0 ∨ zr69 = 1) ∧ (bR zr69 (gB ((gc 3) dp) (nI wd))) := hw69
          obtain ⟨f_70, f_71⟩ := hw69
          refine lv_istore (lv' := [(6, .int zr69), (5, .ref (ea 3)), (4, .int (nI v_7)), (3, .int 3), (0, .ref q0), (1, .int (nI dp)), (2, .int (nI wd))]) hx hb dX1_pardonsWithLast_42 hl (by decide) rfl (fun ls hl => ?_)
          refine lv_iload hx hb dX1_pardonsWithLast_44 (lv_at hl 0 rfl) ?_
          refine lv_if_ne (tgt := 59) hx hb dX1_pardonsWithLast_46 (by decide) (fun c_46 => ?_) (fun c_46 => ?_)
          · refine lv_aload_n hx hb dX1_pardonsWithLast_59 rfl (lv_at hl 4 rfl) ?_
            refine va_get (D := D) (ci := 1) (v := .ref h0) (C := RX1) (T := TX1) (N := 8) hx hb hg i_X1 hown hK hP 0 rfl rfl 5 (by decide) (hg _ m_558) (fun _ h9 => h9) rfl dX1_pardonsWithLast_60 ?_
            refine lv_iload hx hb dX1_pardonsWithLast_63 (lv_at hl 0 rfl) ?_
            refine lv_if_eq (tgt := 80) hx hb dX1_pardonsWithLast_65 (by decide) (fun h => absurd h c_46) (fun _ => ?_)
            refine lv_aload_n hx hb dX1_pardonsWithLast_68 rfl (lv_at hl 4 rfl) ?_
            refine lv_aload hx hb dX1_pardonsWithLast_69 (lv_at hl 1 rfl) ?_
            refine lv_iload hx hb dX1_pardonsWithLast_71 (lv_at hl 2 rfl) ?_
            refine lv_iload_n hx hb dX1_pardonsWithLast_73 rfl (lv_at hl 6 rfl) ?_
            refine x_callVi (q := (RX1, TX1, 8)) (ci := 1) (q0 := 0) (wr := [wI (cy 1) q2 24 (fph), wI (cy 1) h1 4 (fc), (er, .inl (cy 4, 4, .inr (.inr (.inr (.inr (eF (ea 0) (ea 1) (ea 2) (ea 3))))))), wO (ea 0) 2 [.ref (eg 0), .ref (ef 0), .int (et 0), .int (nI (el 0)), .int (nI (ei 0))], wI (cy 1) (eg 0) 10 (gc 0), wI (cy 1) (ef 0) 7 (xc 0), wO (ea 1) 2 [.ref (eg 1), .ref (ef 1), .int (et 1), .int (nI (el 1)), .int (nI (ei 1))], wI (cy 1) (eg 1) 10 (gc 1), wI (cy 1) (ef 1) 7 (xc 1), wO (ea 2) 2 [.ref (eg 2), .ref (ef 2), .int (et 2), .int (nI (el 2)), .int (nI (ei 2))], wI (cy 1) (eg 2) 10 (gc 2), wI (cy 1) (ef 2) 7 (xc 2), wI (cy 1) (ef 3) 7 (xc 3), wI (cy 1) (eg 3) 10 (gc 3)]) (rest := [.ref h0]) ⟨hx, hb, hml, hown, hg, hl.1⟩ k_X1_90 (s_endState l D cy q0 q1 q2 q3 q4 er ql qo h0 h1 h2 h3 h4 h5 h6 h7 h8 h9 h10 h11 ((.int ys)) hv1 hv2 hv3 hv4 fx (ea 3) (eg 3) (ef 3) (et 3) (((el 3))) (((ei 3))) v_7 wd (hnx) (hv_7) (by omega)) E0_blind hK hP hD hS hA [0, 2, 3, 16] [1, 4, 5, 6, 7, 8, 9, 10, 11, 12, 13, 14, 15, 17] ⟨rfl, rfl, by decide +kernel, by decide +kernel, by decide +kernel⟩ rfl rfl (fun _ _ _ => trivial) dX1_pardonsWithLast_74 rfl rfl (Nat.le_of_ble_eq_true rfl) ⟨Nat.le_of_ble_eq_true rfl, Nat.le_of_ble_eq_true rfl⟩ ⟨Nat.le_of_ble_eq_true rfl, Nat.le_of_ble_eq_true rfl⟩ (fun zr72 zu72 H locs hw72 hP9 hD9 hS9 => ?_)
            clear hP hD hS
            obtain ⟨k_73, rfl⟩ : ∃ z, z = zu72 := ⟨_, rfl⟩
            refine reW [wI (cy 1) q2 24 (fph), wI (cy 1) h1 4 (fc), (er, .inl (cy 4, 4, .inr (.inr (.inr (.inr (eF (ea 0) (ea 1) (ea 2) (ea 3))))))), wO (ea 0) 2 [.ref (eg 0), .ref (ef 0), .int (et 0), .int (nI (el 0)), .int (nI (ei 0))], wI (cy 1) (eg 0) 10 (gc 0), wI (cy 1) (ef 0) 7 (xc 0), wO (ea 1) 2 [.ref (eg 1), .ref (ef 1), .int (et 1), .int (nI (el 1)), .int (nI (ei 1))], wI (cy 1) (eg 1) 10 (gc 1), wI (cy 1) (ef 1) 7 (xc 1), wO (ea 2) 2 [.ref (eg 2), .ref (ef 2), .int (et 2), .int (nI (el 2)), .int (nI (ei 2))], wI (cy 1) (eg 2) 10 (gc 2), wI (cy 1) (ef 2) 7 (xc 2), wI (cy 1) (ef 3) 7 (xc 3), wI (cy 1) (eg 3) 10 (gc 3), wO q0 1 [.ref q1, .ref er, .ref q2, .ref q3, .ref q4, .ref h0, .int (nI ql), .int qo], wO h0 4 [.ref h1, .ref h2, .ref h3, .ref h4, .ref h5, .ref h6, .ref h7, .ref h8, .ref h9, .ref h10, .ref h11, .int ys, hv1, hv2, hv3, hv4], wI (cy 1) h7 48 (fx), wO (ea 3) 2 [.ref (eg 3), .ref (ef 3), .int (et 3), .int (nI (((el 3)))), .int (nI (((ei 3))))]] hP9 hD9 hS9 (fun hP hD hS => ?_)
            clear hP9 hD9 hS9
            refine W.widen (k := 0) (n := 0) (Nat.le_of_ble_eq_true rfl) (Nat.le_of_ble_eq_true rfl) ?_
            replace hw72 : (zr72 = nI k_73) ∧ (k_73 ≤ 5) ∧ (k_73 = if (et 3) = 0 then nC9 fx (dg9 v_7 0) wd else dg9 v_7 (nC9 fx 0 wd)) := hw72
            obtain ⟨f_74, f_75, f_76⟩ := hw72
            subst f_74
            refine lv_goto (tgt := 86) hx hb dX1_pardonsWithLast_77 (by decide) ?_
            refine x_callVi (q := (RX4, TX4, 16)) (ci := 4) (q0 := 0) (wr := [wI (cy 1) q2 24 (fph), wI (cy 1) h1 4 (fc), (er, .inl (cy 4, 4, .inr (.inr (.inr (.inr (eF (ea 0) (ea 1) (ea 2) (ea 3))))))), wO (ea 0) 2 [.ref (eg 0), .ref (ef 0), .int (et 0), .int (nI (el 0)), .int (nI (ei 0))], wI (cy 1) (eg 0) 10 (gc 0), wI (cy 1) (ef 0) 7 (xc 0), wO (ea 1) 2 [.ref (eg 1), .ref (ef 1), .int (et 1), .int (nI (el 1)), .int (nI (ei 1))], wI (cy 1) (eg 1) 10 (gc 1), wI (cy 1) (ef 1) 7 (xc 1), wO (ea 2) 2 [.ref (eg 2), .ref (ef 2), .int (et 2), .int (nI (el 2)), .int (nI (ei 2))], wI (cy 1) (eg 2) 10 (gc 2), wI (cy 1) (ef 2) 7 (xc 2), wI (cy 1) (ef 3) 7 (xc 3), wI (cy 1) (eg 3) 10 (gc 3), wO q0 1 [.ref q1, .ref er, .ref q2, .ref q3, .ref q4, .ref h0, .int (nI ql), .int qo], wI (cy 1) h7 48 (fx), wO (ea 3) 2 [.ref (eg 3), .ref (ef 3), .int (et 3), .int (nI (((el 3)))), .int (nI (((ei 3))))]]) (rest := []) ⟨hx, hb, hml, hown, hg, hl.1⟩ k_X1_94 (s_isYesState l D cy h0 h1 h2 h3 h4 h5 h6 h7 h8 h9 h10 h11 hv1 hv2 hv3 hv4 ys (nI k_73)) E0_blind hK hP hD hS hA [15] [0, 1, 2, 3, 4, 5, 6, 7, 8, 9, 10, 11, 12, 13, 14, 16, 17] ⟨rfl, rfl, by decide +kernel, by decide +kernel, by decide +kernel⟩ rfl rfl (fun _ _ _ => trivial) dX1_pardonsWithLast_86 rfl rfl (Nat.le_of_ble_eq_true rfl) ⟨Nat.le_of_ble_eq_true rfl, Nat.le_of_ble_eq_true rfl⟩ ⟨Nat.le_of_ble_eq_true rfl, Nat.le_of_ble_eq_true rfl⟩ (fun zr77 zu77 H locs hw77 hP9 hD9 hS9 => ?_)
            clear hP hD hS
            refine reW [wI (cy 1) q2 24 (fph), wI (cy 1) h1 4 (fc), (er, .inl (cy 4, 4, .inr (.inr (.inr (.inr (eF (ea 0) (ea 1) (ea 2) (ea 3))))))), wO (ea 0) 2 [.ref (eg 0), .ref (ef 0), .int (et 0), .int (nI (el 0)), .int (nI (ei 0))], wI (cy 1) (eg 0) 10 (gc 0), wI (cy 1) (ef 0) 7 (xc 0), wO (ea 1) 2 [.ref (eg 1), .ref (ef 1), .int (et 1), .int (nI (el 1)), .int (nI (ei 1))], wI (cy 1) (eg 1) 10 (gc 1), wI (cy 1) (ef 1) 7 (xc 1), wO (ea 2) 2 [.ref (eg 2), .ref (ef 2), .int (et 2), .int (nI (el 2)), .int (nI (ei 2))], wI (cy 1) (eg 2) 10 (gc 2), wI (cy 1) (ef 2) 7 (xc 2), wI (cy 1) (ef 3) 7 (xc 3), wI (cy 1) (eg 3) 10 (gc 3), wO q0 1 [.ref q1, .ref er, .ref q2, .ref q3, .ref q4, .ref h0, .int (nI ql), .int qo], wI (cy 1) h7 48 (fx), wO (ea 3) 2 [.ref (eg 3), .ref (ef 3), .int (et 3), .int (nI (((el 3)))), .int (nI (((ei 3))))], wO h0 4 [.ref h1, .ref h2, .ref h3, .ref h4, .ref h5, .ref h6, .ref h7, .ref h8, .ref h9, .ref h10, .ref h11, .int ys, hv1, hv2, hv3, hv4]] hP9 hD9 hS9 (fun hP hD hS => ?_)
            clear hP9 hD9 hS9
            refine W.widen (k := 0) (n := 0) (Nat.le_of_ble_eq_true rfl) (Nat.le_of_ble_eq_true rfl) ?_
            replace hw77 : (zr77 = 0 ∨ zr77 = 1) ∧ (bR zr77 (decide (¬ (ys >>> ((nI k_73) &&& 31)) &&& 1 = 0))) := hw77
            obtain ⟨f_78, f_79⟩ := hw77
            refine lv_if_ne (tgt := 94) hx hb dX1_pardonsWithLast_89 (by decide) (fun c_89 => ?_) (fun c_89 => ?_)
            · refine lv_iinc (v := 4) (lv' := [(3, .int 4), (6, .int zr69), (5, .ref (ea 3)), (4, .int (nI v_7)), (0, .ref q0), (1, .int (nI dp)), (2, .int (nI wd))]) hx hb dX1_pardonsWithLast_94 hl (k := 3) rfl (by decide) (by decide) rfl (fun ls hl => ?_)
              refine lv_goto (tgt := 2) hx hb dX1_pardonsWithLast_97 (by decide) ?_
              exact ih1  4 (by omega) (alF_y (p := (fun c9 => pdL fx ys (et c9) (nxL (gc c9) dp wd (Lp c9)))) (k := 3) hf1_1 ((show ysB ys k_73 = pdL fx ys (et 3) (nxL (gc 3) dp wd (Lp 3)) from (by rw [nx_1 (bR_t f_71 c_46)]; exact pd_new (pt_at (hpt 3 (by omega)) rfl ev_7 (by omega) (by omega)) hcl9 (by omega) (by omega) f_76 (by omega) rfl hnx (fun x9 h9 => hLw 3 x9 (by omega) h9))).symm.trans (bR_t f_79 c_89))) (by omega) _ _ (hP.sub [14, 0, 17, 15, 1, 2, 3, 4, 5, 6, 7, 8, 9, 10, 11, 16, 13, 12] rfl) (hD.sub [14, 0, 17, 15, 1, 2, 3, 4, 5, 6, 7, 8, 9, 10, 11, 16, 13, 12] (by decide +kernel) rfl) hS ls (lv_sub hl [0, 4, 5, 6] rfl)
            · refine lv_iconst (v := 0) hx hb dX1_pardonsWithLast_92 (by decide) ?_
              exact x_zret hQ hx hb hr hlocks hK hP hD hS rfl dX1_pardonsWithLast_93 () (⟨(Or.inl rfl), bR_0 (alF_f (p := (fun c9 => pdL fx ys (et c9) (nxL (gc c9) dp wd (Lp c9)))) (k := 3) ((show ysB ys k_73 = pdL fx ys (et 3) (nxL (gc 3) dp wd (Lp 3)) from (by rw [nx_1 (bR_t f_71 c_46)]; exact pd_new (pt_at (hpt 3 (by omega)) rfl ev_7 (by omega) (by omega)) hcl9 (by omega) (by omega) f_76 (by omega) rfl hnx (fun x9 h9 => hLw 3 x9 (by omega) h9))).symm.trans (bR_f f_79 c_89)) (by omega))⟩) [14, 0, 17, 15, 1, 2, 3, 4, 5, 6, 7, 8, 9, 10, 11, 16, 13, 12] (by decide +kernel) rfl (Nat.le_of_ble_eq_true rfl) (Nat.le_of_ble_eq_true rfl)
          · refine lv_iload hx hb dX1_pardonsWithLast_49 (lv_at hl 2 rfl) ?_
            refine lv_ldc (v := 262144) hx hb hown (hg _ m_1162) dX1_pardonsWithLast_51 ?_
            refine lv_iand hx hb dX1_pardonsWithLast_53 ?_
            refine lv_topi (fun x_80 ex_80 => ?_)
            refine lv_if_ne (tgt := 59) hx hb dX1_pardonsWithLast_54 (by decide) (fun c_54 => ?_) (fun c_54 => ?_)
            · refine lv_aload_n hx hb dX1_pardonsWithLast_59 rfl (lv_at hl 4 rfl) ?_
              refine va_get (D := D) (ci := 1) (v := .ref h0) (C := RX1) (T := TX1) (N := 8) hx hb hg i_X1 hown hK hP 0 rfl rfl 5 (by decide) (hg _ m_558) (fun _ h9 => h9) rfl dX1_pardonsWithLast_60 ?_
              refine lv_iload hx hb dX1_pardonsWithLast_63 (lv_at hl 0 rfl) ?_
              refine lv_if_eq (tgt := 80) hx hb dX1_pardonsWithLast_65 (by decide) (fun _ => ?_) (fun h => absurd c_46 h)
              refine lv_iload hx hb dX1_pardonsWithLast_80 (lv_at hl 2 rfl) ?_
              refine lv_iconst (v := 0) hx hb dX1_pardonsWithLast_82 (by decide) ?_
              refine x_callSi (wr := [wO q0 1 [.ref q1, .ref er, .ref q2, .ref q3, .ref q4, .ref h0, .int (nI ql), .int qo], wI (cy 1) q2 24 (fph), wO h0 4 [.ref h1, .ref h2, .ref h3, .ref h4, .ref h5, .ref h6, .ref h7, .ref h8, .ref h9, .ref h10, .ref h11, .int ys, hv1, hv2, hv3, hv4], wI (cy 1) h7 48 (fx), wI (cy 1) h1 4 (fc), (er, .inl (cy 4, 4, .inr (.inr (.inr (.inr (eF (ea 0) (ea 1) (ea 2) (ea 3))))))), wO (ea 0) 2 [.ref (eg 0), .ref (ef 0), .int (et 0), .int (nI (el 0)), .int (nI (ei 0))], wI (cy 1) (eg 0) 10 (gc 0), wI (cy 1) (ef 0) 7 (xc 0), wO (ea 1) 2 [.ref (eg 1), .ref (ef 1), .int (et 1), .int (nI (el 1)), .int (nI (ei 1))], wI (cy 1) (eg 1) 10 (gc 1), wI (cy 1) (ef 1) 7 (xc 1), wO (ea 2) 2 [.ref (eg 2), .ref (ef 2), .int (et 2), .int (nI (el 2)), .int (nI (ei 2))], wI (cy 1) (eg 2) 10 (gc 2), wI (cy 1) (ef 2) 7 (xc 2), wI (cy 1) (ef 3) 7 (xc 3), wO (ea 3) 2 [.ref (eg 3), .ref (ef 3), .int (et 3), .int (nI ((el 3))), .int (nI ((ei 3)))], wI (cy 1) (eg 3) 10 (gc 3)]) (rest := [.ref h0]) ⟨hx, hb, hml, hown, hg, hl.1⟩ k_X1_87 (s_stateOf l D cy v_7 0 (hv_7) (by omega)) E0_blind hK hP hD hS hA [] [0, 1, 2, 3, 4, 5, 6, 7, 8, 9, 10, 11, 12, 13, 14, 15, 16, 17] ⟨rfl, rfl, by decide +kernel, by decide +kernel, by decide +kernel⟩ (fun _ _ _ => trivial) dX1_pardonsWithLast_83 rfl rfl (Nat.le_of_ble_eq_true rfl) ⟨Nat.le_of_ble_eq_true rfl, Nat.le_of_ble_eq_true rfl⟩ ⟨Nat.le_of_ble_eq_true rfl, Nat.le_of_ble_eq_true rfl⟩ (fun zr81 zu81 H locs hw81 hP9 hD9 hS9 => ?_)
              clear hP hD hS
              obtain ⟨k_82, rfl⟩ : ∃ z, z = zu81 := ⟨_, rfl⟩
              refine reW [wO q0 1 [.ref q1, .ref er, .ref q2, .ref q3, .ref q4, .ref h0, .int (nI ql), .int qo], wI (cy 1) q2 24 (fph), wO h0 4 [.ref h1, .ref h2, .ref h3, .ref h4, .ref h5, .ref h6, .ref h7, .ref h8, .ref h9, .ref h10, .ref h11, .int ys, hv1, hv2, hv3, hv4], wI (cy 1) h7 48 (fx), wI (cy 1) h1 4 (fc), (er, .inl (cy 4, 4, .inr (.inr (.inr (.inr (eF (ea 0) (ea 1) (ea 2) (ea 3))))))), wO (ea 0) 2 [.ref (eg 0), .ref (ef 0), .int (et 0), .int (nI (el 0)), .int (nI (ei 0))], wI (cy 1) (eg 0) 10 (gc 0), wI (cy 1) (ef 0) 7 (xc 0), wO (ea 1) 2 [.ref (eg 1), .ref (ef 1), .int (et 1), .int (nI (el 1)), .int (nI (ei 1))], wI (cy 1) (eg 1) 10 (gc 1), wI (cy 1) (ef 1) 7 (xc 1), wO (ea 2) 2 [.ref (eg 2), .ref (ef 2), .int (et 2), .int (nI (el 2)), .int (nI (ei 2))], wI (cy 1) (eg 2) 10 (gc 2), wI (cy 1) (ef 2) 7 (xc 2), wI (cy 1) (ef 3) 7 (xc 3), wO (ea 3) 2 [.ref (eg 3), .ref (ef 3), .int (et 3), .int (nI ((el 3))), .int (nI ((ei 3)))], wI (cy 1) (eg 3) 10 (gc 3)] hP9 hD9 hS9 (fun hP hD hS => ?_)
              clear hP9 hD9 hS9
              refine W.widen (k := 0) (n := 0) (Nat.le_of_ble_eq_true rfl) (Nat.le_of_ble_eq_true rfl) ?_
              replace hw81 : (zr81 = nI k_82) ∧ (k_82 ≤ 5) ∧ (k_82 = dg9 v_7 0) := hw81
              obtain ⟨f_83, f_84, f_85⟩ := hw81
              subst f_83
              refine x_callVi (q := (RX4, TX4, 16)) (ci := 4) (q0 := 0) (wr := [wO q0 1 [.ref q1, .ref er, .ref q2, .ref q3, .ref q4, .ref h0, .int (nI ql), .int qo], wI (cy 1) q2 24 (fph), wI (cy 1) h7 48 (fx), wI (cy 1) h1 4 (fc), (er, .inl (cy 4, 4, .inr (.inr (.inr (.inr (eF (ea 0) (ea 1) (ea 2) (ea 3))))))), wO (ea 0) 2 [.ref (eg 0), .ref (ef 0), .int (et 0), .int (nI (el 0)), .int (nI (ei 0))], wI (cy 1) (eg 0) 10 (gc 0), wI (cy 1) (ef 0) 7 (xc 0), wO (ea 1) 2 [.ref (eg 1), .ref (ef 1), .int (et 1), .int (nI (el 1)), .int (nI (ei 1))], wI (cy 1) (eg 1) 10 (gc 1), wI (cy 1) (ef 1) 7 (xc 1), wO (ea 2) 2 [.ref (eg 2), .ref (ef 2), .int (et 2), .int (nI (el 2)), .int (nI (ei 2))], wI (cy 1) (eg 2) 10 (gc 2), wI (cy 1) (ef 2) 7 (xc 2), wI (cy 1) (ef 3) 7 (xc 3), wO (ea 3) 2 [.ref (eg 3), .ref (ef 3), .int (et 3), .int (nI ((el 3))), .int (nI ((ei 3)))], wI (cy 1) (eg 3) 10 (gc 3)]) (rest := []) ⟨hx, hb, hml, hown, hg, hl.1⟩ k_X1_94 (s_isYesState l D cy h0 h1 h2 h3 h4 h5 h6 h7 h8 h9 h10 h11 hv1 hv2 hv3 hv4 ys (nI k_82)) E0_blind hK hP hD hS hA [2] [0, 1, 3, 4, 5, 6, 7, 8, 9, 10, 11, 12, 13, 14, 15, 16, 17] ⟨rfl, rfl, by decide +kernel, by decide +kernel, by decide +kernel⟩ rfl rfl (fun _ _ _ => trivial) dX1_pardonsWithLast_86 rfl rfl (Nat.le_of_ble_eq_true rfl) ⟨Nat.le_of_ble_eq_true rfl, Nat.le_of_ble_eq_true rfl⟩ ⟨Nat.le_of_ble_eq_true rfl, Nat.le_of_ble_eq_true rfl⟩ (fun zr86 zu86 H locs hw86 hP9 hD9 hS9 => ?_)
              clear hP hD hS
              refine reW [wO q0 1 [.ref q1, .ref er, .ref q2, .ref q3, .ref q4, .ref h0, .int (nI ql), .int qo], wI (cy 1) q2 24 (fph), wI (cy 1) h7 48 (fx), wI (cy 1) h1 4 (fc), (er, .inl (cy 4, 4, .inr (.inr (.inr (.inr (eF (ea 0) (ea 1) (ea 2) (ea 3))))))), wO (ea 0) 2 [.ref (eg 0), .ref (ef 0), .int (et 0), .int (nI (el 0)), .int (nI (ei 0))], wI (cy 1) (eg 0) 10 (gc 0), wI (cy 1) (ef 0) 7 (xc 0), wO (ea 1) 2 [.ref (eg 1), .ref (ef 1), .int (et 1), .int (nI (el 1)), .int (nI (ei 1))], wI (cy 1) (eg 1) 10 (gc 1), wI (cy 1) (ef 1) 7 (xc 1), wO (ea 2) 2 [.ref (eg 2), .ref (ef 2), .int (et 2), .int (nI (el 2)), .int (nI (ei 2))], wI (cy 1) (eg 2) 10 (gc 2), wI (cy 1) (ef 2) 7 (xc 2), wI (cy 1) (ef 3) 7 (xc 3), wO (ea 3) 2 [.ref (eg 3), .ref (ef 3), .int (et 3), .int (nI ((el 3))), .int (nI ((ei 3)))], wI (cy 1) (eg 3) 10 (gc 3), wO h0 4 [.ref h1, .ref h2, .ref h3, .ref h4, .ref h5, .ref h6, .ref h7, .ref h8, .ref h9, .ref h10, .ref h11, .int ys, hv1, hv2, hv3, hv4]] hP9 hD9 hS9 (fun hP hD hS => ?_)
              clear hP9 hD9 hS9
              refine W.widen (k := 0) (n := 0) (Nat.le_of_ble_eq_true rfl) (Nat.le_of_ble_eq_true rfl) ?_
              replace hw86 : (zr86 = 0 ∨ zr86 = 1) ∧ (bR zr86 (decide (¬ (ys >>> ((nI k_82) &&& 31)) &&& 1 = 0))) := hw86
              obtain ⟨f_87, f_88⟩ := hw86
              refine lv_if_ne (tgt := 94) hx hb dX1_pardonsWithLast_89 (by decide) (fun c_89 => ?_) (fun c_89 => ?_)
              · refine lv_iinc (v := 4) (lv' := [(3, .int 4), (6, .int zr69), (5, .ref (ea 3)), (4, .int (nI v_7)), (0, .ref q0), (1, .int (nI dp)), (2, .int (nI wd))]) hx hb dX1_pardonsWithLast_94 hl (k := 3) rfl (by decide) (by decide) rfl (fun ls hl => ?_)
                refine lv_goto (tgt := 2) hx hb dX1_pardonsWithLast_97 (by decide) ?_
                exact ih1  4 (by omega) (alF_y (p := (fun c9 => pdL fx ys (et c9) (nxL (gc c9) dp wd (Lp c9)))) (k := 3) hf1_1 ((show ysB ys k_82 = pdL fx ys (et 3) (nxL (gc 3) dp wd (Lp 3)) from (by rw [nx_0 (bR_f f_71 c_46)]; exact pd_old (pt_at (hpt 3 (by omega)) rfl ev_7 (by omega) (by omega)) (an_1 (by omega) ex_80 c_54) hcl9 f_85 (by omega) rfl hnx (fun x9 h9 => hLw 3 x9 (by omega) h9))).symm.trans (bR_t f_88 c_89))) (by omega) _ _ (hP.sub [0, 1, 17, 2, 3, 4, 5, 6, 7, 8, 9, 10, 11, 12, 13, 15, 16, 14] rfl) (hD.sub [0, 1, 17, 2, 3, 4, 5, 6, 7, 8, 9, 10, 11, 12, 13, 15, 16, 14] (by decide +kernel) rfl) hS ls (lv_sub hl [0, 4, 5, 6] rfl)
              · refine lv_iconst (v := 0) hx hb dX1_pardonsWithLast_92 (by decide) ?_
                exact x_zret hQ hx hb hr hlocks hK hP hD hS rfl dX1_pardonsWithLast_93 () (⟨(Or.inl rfl), bR_0 (alF_f (p := (fun c9 => pdL fx ys (et c9) (nxL (gc c9) dp wd (Lp c9)))) (k := 3) ((show ysB ys k_82 = pdL fx ys (et 3) (nxL (gc 3) dp wd (Lp 3)) from (by rw [nx_0 (bR_f f_71 c_46)]; exact pd_old (pt_at (hpt 3 (by omega)) rfl ev_7 (by omega) (by omega)) (an_1 (by omega) ex_80 c_54) hcl9 f_85 (by omega) rfl hnx (fun x9 h9 => hLw 3 x9 (by omega) h9))).symm.trans (bR_f f_88 c_89)) (by omega))⟩) [0, 1, 17, 2, 3, 4, 5, 6, 7, 8, 9, 10, 11, 12, 13, 15, 16, 14] (by decide +kernel) rfl (Nat.le_of_ble_eq_true rfl) (Nat.le_of_ble_eq_true rfl)
            · refine lv_iconst (v := 0) hx hb dX1_pardonsWithLast_57 (by decide) ?_
              exact x_zret hQ hx hb hr hlocks hK hP hD hS rfl dX1_pardonsWithLast_58 () (⟨(Or.inl rfl), bR_0 (alF_f (p := (fun c9 => pdL fx ys (et c9) (nxL (gc c9) dp wd (Lp c9)))) (k := 3) (by show pdL fx ys (et 3) (nxL (gc 3) dp wd (Lp 3)) = false; rw [nx_0 (bR_f f_71 c_46)]; exact pd_none (pt_at (hpt 3 (by omega)) rfl ev_7 (by omega) (by omega)) (an_0 (by omega) ex_80 c_54)) (by omega))⟩) [0, 1, 2, 3, 4, 5, 6, 7, 8, 9, 10, 11, 12, 13, 14, 16, 17, 15] (by decide +kernel) rfl (Nat.le_of_ble_eq_true rfl) (Nat.le_of_ble_eq_true rfl)
  exact loop1 _ 0 (by omega) (rfl) (Nat.le_refl _) _ _ (hP.sub [0, 1, 2, 3, 4, 5, 6, 7, 8, 9, 10, 11, 12, 13, 14, 15, 16, 17] rfl) (hD.sub [0, 1, 2, 3, 4, 5, 6, 7, 8, 9, 10, 11, 12, 13, 14, 15, 16, 17] (by decide +kernel) rfl) hS ls (lv_sub hl [0, 1, 2, 3] rfl)
theorem gdX1_countFrom_0 : decode cX1_countFrom 0 = .ok (.iconst 0, 1) ∧ decode cX1_countFrom 1 = .ok (.istore_n 2, 1) ∧ decode cX1_countFrom 2 = .ok (.iload_n 1, 1) ∧ decode cX1_countFrom 3 = .ok (.aload_n 0, 1) ∧ decode cX1_countFrom 4 = .ok (.getfield 35, 3) ∧ decode cX1_countFrom 7 = .ok (.if_icmp .ge 8, 3) ∧ decode cX1_countFrom 10 = .ok (.iload_n 1, 1) ∧ decode cX1_countFrom 11 = .ok (.iconst 5, 1) ∧ decode cX1_countFrom 12 = .ok (.if_icmp .lt 5, 3) ∧ decode cX1_countFrom 17 = .ok (.iconst 0, 1) ∧ decode cX1_countFrom 18 = .ok (.istore_n 3, 1) ∧ decode cX1_countFrom 19 = .ok (.iload_n 3, 1) := by decide +kernel
theorem dX1_countFrom_0 : decode cX1_countFrom 0 = .ok (.iconst 0, 1) := gdX1_countFrom_0.1
theorem dX1_countFrom_1 : decode cX1_countFrom 1 = .ok (.istore_n 2, 1) := gdX1_countFrom_0.2.1
theorem dX1_countFrom_2 : decode cX1_countFrom 2 = .ok (.iload_n 1, 1) := gdX1_countFrom_0.2.2.1
theorem dX1_countFrom_3 : decode cX1_countFrom 3 = .ok (.aload_n 0, 1) := gdX1_countFrom_0.2.2.2.1
theorem dX1_countFrom_4 : decode cX1_countFrom 4 = .ok (.getfield 35, 3) := gdX1_countFrom_0.2.2.2.2.1
theorem dX1_countFrom_7 : decode cX1_countFrom 7 = .ok (.if_icmp .ge 8, 3) := gdX1_countFrom_0.2.2.2.2.2.1
theorem dX1_countFrom_10 : decode cX1_countFrom 10 = .ok (.iload_n 1, 1) := gdX1_countFrom_0.2.2.2.2.2.2.1
theorem dX1_countFrom_11 : decode cX1_countFrom 11 = .ok (.iconst 5, 1) := gdX1_countFrom_0.2.2.2.2.2.2.2.1
theorem dX1_countFrom_12 : decode cX1_countFrom 12 = .ok (.if_icmp .lt 5, 3) := gdX1_countFrom_0.2.2.2.2.2.2.2.2.1
theorem dX1_countFrom_17 : decode cX1_countFrom 17 = .ok (.iconst 0, 1) := gdX1_countFrom_0.2.2.2.2.2.2.2.2.2.1
theorem dX1_countFrom_18 : decode cX1_countFrom 18 = .ok (.istore_n 3, 1) := gdX1_countFrom_0.2.2.2.2.2.2.2.2.2.2.1
theorem dX1_countFrom_19 : decode cX1_countFrom 19 = .ok (.iload_n 3, 1) := gdX1_countFrom_0.2.2.2.2.2.2.2.2.2.2.2
theorem gdX1_countFrom_20 : decode cX1_countFrom 20 = .ok (.aload_n 0, 1) ∧ decode cX1_countFrom 21 = .ok (.getfield 31, 3) ∧ decode cX1_countFrom 24 = .ok (.getfield 43, 3) ∧ decode cX1_countFrom 27 = .ok (.iconst 0, 1) ∧ decode cX1_countFrom 28 = .ok (.iaload, 1) ∧ decode cX1_countFrom 29 = .ok (.if_icmp .ge 75, 3) ∧ decode cX1_countFrom 104 = .ok (.iload_n 2, 1) ∧ decode cX1_countFrom 105 = .ok (.ireturn, 1) ∧ decode cX1_countFrom 32 = .ok (.aload_n 0, 1) ∧ decode cX1_countFrom 33 = .ok (.getfield 11, 3) ∧ decode cX1_countFrom 36 = .ok (.iload_n 1, 1) ∧ decode cX1_countFrom 37 = .ok (.iload_n 3, 1) := by decide +kernel
theorem dX1_countFrom_20 : decode cX1_countFrom 20 = .ok (.aload_n 0, 1) := gdX1_countFrom_20.1
theorem dX1_countFrom_21 : decode cX1_countFrom 21 = .ok (.getfield 31, 3) := gdX1_countFrom_20.2.1
theorem dX1_countFrom_24 : decode cX1_countFrom 24 = .ok (.getfield 43, 3) := gdX1_countFrom_20.2.2.1
theorem dX1_countFrom_27 : decode cX1_countFrom 27 = .ok (.iconst 0, 1) := gdX1_countFrom_20.2.2.2.1
theorem dX1_countFrom_28 : decode cX1_countFrom 28 = .ok (.iaload, 1) := gdX1_countFrom_20.2.2.2.2.1
theorem dX1_countFrom_29 : decode cX1_countFrom 29 = .ok (.if_icmp .ge 75, 3) := gdX1_countFrom_20.2.2.2.2.2.1
theorem dX1_countFrom_104 : decode cX1_countFrom 104 = .ok (.iload_n 2, 1) := gdX1_countFrom_20.2.2.2.2.2.2.1
theorem dX1_countFrom_105 : decode cX1_countFrom 105 = .ok (.ireturn, 1) := gdX1_countFrom_20.2.2.2.2.2.2.2.1
theorem dX1_countFrom_32 : decode cX1_countFrom 32 = .ok (.aload_n 0, 1) := gdX1_countFrom_20.2.2.2.2.2.2.2.2.1
theorem dX1_countFrom_33 : decode cX1_countFrom 33 = .ok (.getfield 11, 3) := gdX1_countFrom_20.2.2.2.2.2.2.2.2.2.1
theorem dX1_countFrom_36 : decode cX1_countFrom 36 = .ok (.iload_n 1, 1) := gdX1_countFrom_20.2.2.2.2.2.2.2.2.2.2.1
theorem dX1_countFrom_37 : decode cX1_countFrom 37 = .ok (.iload_n 3, 1) := gdX1_countFrom_20.2.2.2.2.2.2.2.2.2.2.2
theorem gdX1_countFrom_38 : decode cX1_countFrom 38 = .ok (.iastore, 1) ∧ decode cX1_countFrom 39 = .ok (.iload_n 1, 1) ∧ decode cX1_countFrom 40 = .ok (.aload_n 0, 1) ∧ decode cX1_countFrom 41 = .ok (.getfield 35, 3) ∧ decode cX1_countFrom 44 = .ok (.iconst 1, 1) ∧ decode cX1_countFrom 45 = .ok (.isub, 1) ∧ decode cX1_countFrom 46 = .ok (.if_icmp .ne 23, 3) ∧ decode cX1_countFrom 49 = .ok (.iload_n 2, 1) ∧ decode cX1_countFrom 50 = .ok (.aload_n 0, 1) ∧ decode cX1_countFrom 51 = .ok (.iload_n 1, 1) ∧ decode cX1_countFrom 52 = .ok (.iload_n 3, 1) ∧ decode cX1_countFrom 53 = .ok (.invokevirtual 62, 3) := by decide +kernel
theorem dX1_countFrom_38 : decode cX1_countFrom 38 = .ok (.iastore, 1) := gdX1_countFrom_38.1
theorem dX1_countFrom_39 : decode cX1_countFrom 39 = .ok (.iload_n 1, 1) := gdX1_countFrom_38.2.1
theorem dX1_countFrom_40 : decode cX1_countFrom 40 = .ok (.aload_n 0, 1) := gdX1_countFrom_38.2.2.1
theorem dX1_countFrom_41 : decode cX1_countFrom 41 = .ok (.getfield 35, 3) := gdX1_countFrom_38.2.2.2.1
theorem dX1_countFrom_44 : decode cX1_countFrom 44 = .ok (.iconst 1, 1) := gdX1_countFrom_38.2.2.2.2.1
theorem dX1_countFrom_45 : decode cX1_countFrom 45 = .ok (.isub, 1) := gdX1_countFrom_38.2.2.2.2.2.1
theorem dX1_countFrom_46 : decode cX1_countFrom 46 = .ok (.if_icmp .ne 23, 3) := gdX1_countFrom_38.2.2.2.2.2.2.1
theorem dX1_countFrom_49 : decode cX1_countFrom 49 = .ok (.iload_n 2, 1) := gdX1_countFrom_38.2.2.2.2.2.2.2.1
theorem dX1_countFrom_50 : decode cX1_countFrom 50 = .ok (.aload_n 0, 1) := gdX1_countFrom_38.2.2.2.2.2.2.2.2.1
theorem dX1_countFrom_51 : decode cX1_countFrom 51 = .ok (.iload_n 1, 1) := gdX1_countFrom_38.2.2.2.2.2.2.2.2.2.1
theorem dX1_countFrom_52 : decode cX1_countFrom 52 = .ok (.iload_n 3, 1) := gdX1_countFrom_38.2.2.2.2.2.2.2.2.2.2.1
theorem dX1_countFrom_53 : decode cX1_countFrom 53 = .ok (.invokevirtual 62, 3) := gdX1_countFrom_38.2.2.2.2.2.2.2.2.2.2.2
theorem k_X1_62 : xV RX1 RX1 62 yX1_pardonsWithLast cX1_pardonsWithLast 7 (some .boolean) 2 := ⟨⟨m_1157, m_1159, m_39, m_143, m_1160⟩, rfl, by decide, by decide, by decide +kernel⟩
theorem gdX1_countFrom_56 : decode cX1_countFrom 56 = .ok (.ifCond .eq 7, 3) ∧ decode cX1_countFrom 63 = .ok (.iconst 0, 1) ∧ decode cX1_countFrom 64 = .ok (.iadd, 1) ∧ decode cX1_countFrom 65 = .ok (.istore_n 2, 1) ∧ decode cX1_countFrom 66 = .ok (.goto 19, 3) ∧ decode cX1_countFrom 85 = .ok (.aload_n 0, 1) ∧ decode cX1_countFrom 86 = .ok (.getfield 39, 3) ∧ decode cX1_countFrom 89 = .ok (.ifCond .eq 9, 3) ∧ decode cX1_countFrom 98 = .ok (.iinc 3 1, 3) ∧ decode cX1_countFrom 101 = .ok (.goto (-82), 3) ∧ decode cX1_countFrom 92 = .ok (.iload_n 2, 1) ∧ decode cX1_countFrom 93 = .ok (.ifCond .le 5, 3) := by decide +kernel
theorem dX1_countFrom_56 : decode cX1_countFrom 56 = .ok (.ifCond .eq 7, 3) := gdX1_countFrom_56.1
theorem dX1_countFrom_63 : decode cX1_countFrom 63 = .ok (.iconst 0, 1) := gdX1_countFrom_56.2.1
theorem dX1_countFrom_64 : decode cX1_countFrom 64 = .ok (.iadd, 1) := gdX1_countFrom_56.2.2.1
theorem dX1_countFrom_65 : decode cX1_countFrom 65 = .ok (.istore_n 2, 1) := gdX1_countFrom_56.2.2.2.1
theorem dX1_countFrom_66 : decode cX1_countFrom 66 = .ok (.goto 19, 3) := gdX1_countFrom_56.2.2.2.2.1
theorem dX1_countFrom_85 : decode cX1_countFrom 85 = .ok (.aload_n 0, 1) := gdX1_countFrom_56.2.2.2.2.2.1
theorem dX1_countFrom_86 : decode cX1_countFrom 86 = .ok (.getfield 39, 3) := gdX1_countFrom_56.2.2.2.2.2.2.1
theorem dX1_countFrom_89 : decode cX1_countFrom 89 = .ok (.ifCond .eq 9, 3) := gdX1_countFrom_56.2.2.2.2.2.2.2.1
theorem dX1_countFrom_98 : decode cX1_countFrom 98 = .ok (.iinc 3 1, 3) := gdX1_countFrom_56.2.2.2.2.2.2.2.2.1
theorem dX1_countFrom_101 : decode cX1_countFrom 101 = .ok (.goto (-82), 3) := gdX1_countFrom_56.2.2.2.2.2.2.2.2.2.1
theorem dX1_countFrom_92 : decode cX1_countFrom 92 = .ok (.iload_n 2, 1) := gdX1_countFrom_56.2.2.2.2.2.2.2.2.2.2.1
theorem dX1_countFrom_93 : decode cX1_countFrom 93 = .ok (.ifCond .le 5, 3) := gdX1_countFrom_56.2.2.2.2.2.2.2.2.2.2.2
theorem gdX1_countFrom_59 : decode cX1_countFrom 59 = .ok (.iconst 1, 1) ∧ decode cX1_countFrom 60 = .ok (.goto 4, 3) ∧ decode cX1_countFrom 96 = .ok (.iload_n 2, 1) ∧ decode cX1_countFrom 97 = .ok (.ireturn, 1) := by decide +kernel
theorem dX1_countFrom_59 : decode cX1_countFrom 59 = .ok (.iconst 1, 1) := gdX1_countFrom_59.1
theorem dX1_countFrom_60 : decode cX1_countFrom 60 = .ok (.goto 4, 3) := gdX1_countFrom_59.2.1
theorem dX1_countFrom_96 : decode cX1_countFrom 96 = .ok (.iload_n 2, 1) := gdX1_countFrom_59.2.2.1
theorem dX1_countFrom_97 : decode cX1_countFrom 97 = .ok (.ireturn, 1) := gdX1_countFrom_59.2.2.2
set_option maxHeartbeats 1000000 in
set_option maxRecDepth 100000 in
theorem s_countFrom4 (l : Launch) (D : va_G) (cy : Nat → ClassId) (q0 : Nat) (q1 : Nat) (q2 : Nat) (q3 : Nat) (q4 : Nat) (er : Nat) (ql : Nat) (qo : Int32) (fph : Nat → Int32) (fy : Nat → Int32) (h0 : Nat) (h1 : Nat) (h2 : Nat) (h3 : Nat) (h4 : Nat) (h5 : Nat) (h6 : Nat) (h7 : Nat) (h8 : Nat) (h9 : Nat) (h10 : Nat) (h11 : Nat) (hv1 : Value) (hv2 : Value) (hv3 : Value) (hv4 : Value) (ys : Int32) (fx : Nat → Int32) (fc : Nat → Int32) (c0 : Nat) (c1 : Nat) (c2 : Nat) (c3 : Nat) (ea : Nat → Nat) (eg : Nat → Nat) (ef : Nat → Nat) (et : Nat → Int32) (el : Nat → Nat) (ei : Nat → Nat) (gc : Nat → Nat → Int32) (xc : Nat → Nat → Int32) (hph : pRow fph) (hnx : rng fx 48 5) (hcn : cntOK fc c0 c1 c2 c3) (hc0 : c0 ≤ 8) (hc1 : c1 ≤ 4) (hc2 : c2 ≤ 4) (hc3 : c3 ≤ 6) (hql : ql ≤ 5) (hdl : 4 < ql) (hcl9 : cl9 fx ys c3) (hfy : okW c0 fy 4) (hpt : ∀ c9 : Nat, c9 < c1 → ptR fx c3 (et c9) (pre9 (gc c9) fy 4) (fph (4 * 4 + c9)).toNatClampNeg) : XMi l D (tyL cy) E0 yX1_countFrom cX1_countFrom 4 (some .int) (rmk 6 0 0) [.ref q0, .int 4] [wO q0 1 [.ref q1, .ref er, .ref q2, .ref q3, .ref q4, .ref h0, .int (nI ql), .int qo], wI (cy 1) q2 24 (fph), wI (cy 1) q1 5 (fy), wO h0 4 [.ref h1, .ref h2, .ref h3, .ref h4, .ref h5, .ref h6, .ref h7, .ref h8, .ref h9, .ref h10, .ref h11, .int ys, hv1, hv2, hv3, hv4], wI (cy 1) h7 48 (fx), wI (cy 1) h1 4 (fc), (er, .inl (cy 4, 4, .inr (.inr (.inr (.inr (eF (ea 0) (ea 1) (ea 2) (ea 3))))))), wO (ea 0) 2 [.ref (eg 0), .ref (ef 0), .int (et 0), .int (nI (el 0)), .int (nI (ei 0))], wI (cy 1) (eg 0) 10 (gc 0), wI (cy 1) (ef 0) 7 (xc 0), wO (ea 1) 2 [.ref (eg 1), .ref (ef 1), .int (et 1), .int (nI (el 1)), .int (nI (ei 1))], wI (cy 1) (eg 1) 10 (gc 1), wI (cy 1) (ef 1) 7 (xc 1), wO (ea 2) 2 [.ref (eg 2), .ref (ef 2), .int (et 2), .int (nI (el 2)), .int (nI (ei 2))], wI (cy 1) (eg 2) 10 (gc 2), wI (cy 1) (ef 2) 7 (xc 2), wO (ea 3) 2 [.ref (eg 3), .ref (ef 3), .int (et 3), .int (nI (el 3)), .int (nI (ei 3))], wI (cy 1) (eg 3) 10 (gc 3), wI (cy 1) (ef 3) 7 (xc 3)] (fun (r : Int32) (u : (Nat → Int32) × (Nat → Int32) × Nat) => (r = nI u.2.2) ∧ (pRow u.1) ∧ (qo = 0 → u.2.2 = cnP (pdA fx ys et gc c1 ql) c0 ql (ql - 4) fy) ∧ (¬ qo = 0 → (u.2.2 = 1 ∧ ∃ g9, fdP (pdA fx ys et gc c1 ql) c0 ql (ql - 4) fy = some g9 ∧ ∀ i9, i9 < ql → u.2.1 i9 = g9 i9) ∨ (u.2.2 = 0 ∧ fdP (pdA fx ys et gc c1 ql) c0 ql (ql - 4) fy = none)) ∧ (∀ i9, i9 < 4 → u.2.1 i9 = fy i9) ∧ (∀ k9 : Nat, k9 < (4 + 1) * 4 → u.1 k9 = fph k9)) (fun (u : (Nat → Int32) × (Nat → Int32) × Nat) => [wO q0 1 [.ref q1, .ref er, .ref q2, .ref q3, .ref q4, .ref h0, .int (nI ql), .int qo], wI (cy 1) q2 24 (u.1), wI (cy 1) q1 5 (u.2.1), wO h0 4 [.ref h1, .ref h2, .ref h3, .ref h4, .ref h5, .ref h6, .ref h7, .ref h8, .ref h9, .ref h10, .ref h11, .int ys, hv1, hv2, hv3, hv4], wI (cy 1) h7 48 (fx), wI (cy 1) h1 4 (fc), (er, .inl (cy 4, 4, .inr (.inr (.inr (.inr (eF (ea 0) (ea 1) (ea 2) (ea 3))))))), wO (ea 0) 2 [.ref (eg 0), .ref (ef 0), .int (et 0), .int (nI (el 0)), .int (nI (ei 0))], wI (cy 1) (eg 0) 10 (gc 0), wI (cy 1) (ef 0) 7 (xc 0), wO (ea 1) 2 [.ref (eg 1), .ref (ef 1), .int (et 1), .int (nI (el 1)), .int (nI (ei 1))], wI (cy 1) (eg 1) 10 (gc 1), wI (cy 1) (ef 1) 7 (xc 1), wO (ea 2) 2 [.ref (eg 2), .ref (ef 2), .int (et 2), .int (nI (el 2)), .int (nI (ei 2))], wI (cy 1) (eg 2) 10 (gc 2), wI (cy 1) (ef 2) 7 (xc 2), wO (ea 3) 2 [.ref (eg 3), .ref (ef 3), .int (et 3), .int (nI (el 3)), .int (nI (ei 3))], wI (cy 1) (eg 3) 10 (gc 3), wI (cy 1) (ef 3) 7 (xc 3)]) := by
  refine XMi.start (by decide) (Nat.le_of_ble_eq_true rfl) ?_
  intro p e s m below meth c args A ls Q hat hQ
  obtain ⟨hx, hb, hr, hml, hown, hg, hlocks, hin, hK, hA, hP, hD, hS, hE, hl⟩ := hat
  have hown : s.vm.findClass RX1 = some m.cls := hown
  have hl : lv_has ls 4 [(0, .ref q0), (1, .int 4)] := hl
  refine lv_iconst (v := 0) hx hb dX1_countFrom_0 (by decide) ?_
  refine lv_istore_n (lv' := [(2, .int 0), (0, .ref q0), (1, .int 4)]) hx hb dX1_countFrom_1 rfl hl (by decide) rfl (fun ls hl => ?_)
  refine lv_iload_n hx hb dX1_countFrom_2 rfl (lv_at hl 2 rfl) ?_
  refine lv_aload_n hx hb dX1_countFrom_3 rfl (lv_at hl 1 rfl) ?_
  refine va_get (D := D) (ci := 1) (v := .int (nI ql)) (C := RX1) (T := TX1) (N := 8) hx hb hg i_X1 hown hK hP 0 rfl rfl 6 (by decide) (hg _ m_559) (fun _ h9 => h9) rfl dX1_countFrom_4 ?_
  refine lv_icmp_ge (tgt := 15) hx hb dX1_countFrom_7 (by decide) (fun c_1 => ?_) (fun c_1 => ?_)
  · have q_2 : ql ≤ 4 := q_le (a := ql) (b := 4) rfl rfl (by omega) (by omega) c_1
    exact absurd q_2 (by omega)
  · have q_2 : 4 < ql := q_nle (a := ql) (b := 4) rfl rfl (by omega) (by omega) c_1
    refine lv_iload_n hx hb dX1_countFrom_10 rfl (lv_at hl 2 rfl) ?_
    refine lv_iconst (v := 5) hx hb dX1_countFrom_11 (by decide) ?_
    refine lv_icmp_lt (tgt := 17) hx hb dX1_countFrom_12 (by decide) (fun _ => ?_) (fun h => absurd (by decide) h)
    refine lv_iconst (v := 0) hx hb dX1_countFrom_17 (by decide) ?_
    refine lv_istore_n (lv' := [(3, .int 0), (2, .int 0), (0, .ref q0), (1, .int 4)]) hx hb dX1_countFrom_18 rfl hl (by decide) rfl (fun ls hl => ?_)
    have loop3 : ∀ (zn : Nat) (ct3 : Nat) (wd3 : Nat) (fa2_3 : Nat → Int32) (fa3_3 : Nat → Int32), (pRow fa3_3) → (wd3 ≤ c0) → (qo = 0 → ct3 = smF (fun w9 => cnP (pdA fx ys et gc c1 ql) c0 ql (ql - (4 + 1)) (upd fy 4 (nI w9))) wd3) → (¬ qo = 0 → ct3 = 0 ∧ foF (fun w9 => fdP (pdA fx ys et gc c1 ql) c0 ql (ql - (4 + 1)) (upd fy 4 (nI w9))) wd3 = none) → (∀ i9 : Nat, i9 < 4 → fa2_3 i9 = fy i9) → (∀ k9 : Nat, k9 < (4 + 1) * 4 → fa3_3 k9 = fph k9) → c0 - wd3 + 1 ≤ zn → ∀ (H : Heap) (locs : List Loc), va_P D vwCl [wO q0 1 [.ref q1, .ref er, .ref q2, .ref q3, .ref q4, .ref h0, .int (nI ql), .int qo], wI (cy 1) q2 24 (fa3_3), wI (cy 1) q1 5 (fa2_3), wO h0 4 [.ref h1, .ref h2, .ref h3, .ref h4, .ref h5, .ref h6, .ref h7, .ref h8, .ref h9, .ref h10, .ref h11, .int ys, hv1, hv2, hv3, hv4], wI (cy 1) h7 48 (fx), wI (cy 1) h1 4 (fc), (er, .inl (cy 4, 4, .inr (.inr (.inr (.inr (eF (ea 0) (ea 1) (ea 2) (ea 3))))))), wO (ea 0) 2 [.ref (eg 0), .ref (ef 0), .int (et 0), .int (nI (el 0)), .int (nI (ei 0))], wI (cy 1) (eg 0) 10 (gc 0), wI (cy 1) (ef 0) 7 (xc 0), wO (ea 1) 2 [.ref (eg 1), .ref (ef 1), .int (et 1), .int (nI (el 1)), .int (nI (ei 1))], wI (cy 1) (eg 1) 10 (gc 1), wI (cy 1) (ef 1) 7 (xc 1), wO (ea 2) 2 [.ref (eg 2), .ref (ef 2), .int (et 2), .int (nI (el 2)), .int (nI (ei 2))], wI (cy 1) (eg 2) 10 (gc 2), wI (cy 1) (ef 2) 7 (xc 2), wO (ea 3) 2 [.ref (eg 3), .ref (ef 3), .int (et 3), .int (nI (el 3)), .int (nI (ei 3))], wI (cy 1) (eg 3) 10 (gc 3), wI (cy 1) (ef 3) 7 (xc 3)] H → va_D A [wO q0 1 [.ref q1, .ref er, .ref q2, .ref q3, .ref q4, .ref h0, .int (nI ql), .int qo], wI (cy 1) q2 24 (fa3_3), wI (cy 1) q1 5 (fa2_3), wO h0 4 [.ref h1, .ref h2, .ref h3, .ref h4, .ref h5, .ref h6, .ref h7, .ref h8, .ref h9, .ref h10, .ref h11, .int ys, hv1, hv2, hv3, hv4], wI (cy 1) h7 48 (fx), wI (cy 1) h1 4 (fc), (er, .inl (cy 4, 4, .inr (.inr (.inr (.inr (eF (ea 0) (ea 1) (ea 2) (ea 3))))))), wO (ea 0) 2 [.ref (eg 0), .ref (ef 0), .int (et 0), .int (nI (el 0)), .int (nI (ei 0))], wI (cy 1) (eg 0) 10 (gc 0), wI (cy 1) (ef 0) 7 (xc 0), wO (ea 1) 2 [.ref (eg 1), .ref (ef 1), .int (et 1), .int (nI (el 1)), .int (nI (ei 1))], wI (cy 1) (eg 1) 10 (gc 1), wI (cy 1) (ef 1) 7 (xc 1), wO (ea 2) 2 [.ref (eg 2), .ref (ef 2), .int (et 2), .int (nI (el 2)), .int (nI (ei 2))], wI (cy 1) (eg 2) 10 (gc 2), wI (cy 1) (ef 2) 7 (xc 2), wO (ea 3) 2 [.ref (eg 3), .ref (ef 3), .int (et 3), .int (nI (el 3)), .int (nI (ei 3))], wI (cy 1) (eg 3) 10 (gc 3), wI (cy 1) (ef 3) 7 (xc 3)] → va_S A s.heap H locs → ∀ ls : Array Slot, lv_has ls 4 [(3, .int (nI wd3)), (2, .int (nI ct3)), (0, .ref q0), (1, .int 4)] → W p l e (rmk 6 0 0) s m args below meth c H locs 0 0 Q (F0 m 19 ls []) := by
      try clear hP hD hS
      intro zn
      induction zn with
      | zero => intro ct3 wd3 fa2_3 fa3_3 _ _ _ _ _ _ hz; exact absurd hz (by omega)
      | succ zn ih3 =>
        intro ct3 wd3 fa2_3 fa3_3 ha4_3 hf0_3 hf1_3 hf2_3 hf3_3 hf4_3 hmu3 H locs hP hD hS ls hl
        refine lv_iload_n hx hb dX1_countFrom_19 rfl (lv_at hl 0 rfl) ?_
        refine lv_aload_n hx hb dX1_countFrom_20 rfl (lv_at hl 2 rfl) ?_
        refine va_get (D := D) (ci := 1) (v := .ref h0) (C := RX1) (T := TX1) (N := 8) hx hb hg i_X1 hown hK hP 0 rfl rfl 5 (by decide) (hg _ m_558) (fun _ h9 => h9) rfl dX1_countFrom_21 ?_
        refine va_get (D := D) (ci := 4) (v := .ref h1) (C := RX4) (T := TX4) (N := 16) hx hb hg i_X4 hown hK hP 3 rfl rfl 0 (by decide) (hg _ m_331) (fun _ h9 => h9) rfl dX1_countFrom_24 ?_
        refine lv_iconst (v := 0) hx hb dX1_countFrom_27 (by decide) ?_
        refine va_iald hx hb hK hP 5 1 rfl rfl (by unfold vp_in; decide) dX1_countFrom_28 ?_
        refine lv_topi (fun y_4 hy_4 => ?_)
        obtain rfl : y_4 = nI c0 := hy_4.trans hcn.1
        refine lv_icmp_ge (tgt := 104) hx hb dX1_countFrom_29 (by decide) (fun c_5 => ?_) (fun c_5 => ?_)
        · have q_6 : c0 ≤ wd3 := q_le (a := c0) (b := wd3) rfl rfl (by omega) (by omega) c_5
          refine lv_iload_n hx hb dX1_countFrom_104 rfl (lv_at hl 1 rfl) ?_
          exact x_iret hQ hx hb hr hlocks hK hP hD hS dX1_countFrom_105 (fa3_3, fa2_3, ct3) (⟨rfl, ha4_3, fun h9 => (hf1_3 h9).trans (by rw [show wd3 = c0 by omega]; exact (cn_s hdl).symm), fun h9 => Or.inr ⟨(hf2_3 h9).1, (by have h8 := (hf2_3 h9).2; rw [show wd3 = c0 by omega] at h8; rw [fd_s hdl]; exact h8)⟩, (hf3_3), (hf4_3)⟩) [0, 1, 2, 3, 4, 5, 6, 7, 8, 9, 10, 11, 12, 13, 14, 15, 16, 17, 18] (by decide +kernel) rfl (Nat.le_of_ble_eq_true rfl) (Nat.le_of_ble_eq_true rfl)
        · have q_6 : wd3 < c0 := q_nle (a := c0) (b := wd3) rfl rfl (by omega) (by omega) c_5
          refine lv_aload_n hx hb dX1_countFrom_32 rfl (lv_at hl 2 rfl) ?_
          refine va_get (D := D) (ci := 1) (v := .ref q1) (C := RX1) (T := TX1) (N := 8) hx hb hg i_X1 hown hK hP 0 rfl rfl 0 (by decide) (hg _ m_552) (fun _ h9 => h9) rfl dX1_countFrom_33 ?_
          refine lv_iload_n hx hb dX1_countFrom_36 rfl (lv_at hl 3 rfl) ?_
          refine lv_iload_n hx hb dX1_countFrom_37 rfl (lv_at hl 0 rfl) ?_
          refine va_iast hx hb hK hP hD hS 2 1 rfl rfl (by unfold vp_in; decide) dX1_countFrom_38 (fun H locs hP9 hD9 hS9 => ?_)
          clear hP hD hS
          obtain ⟨g_7, eg_7⟩ : ∃ y, upd fa2_3 (4 : Int32).toNatClampNeg (nI wd3) = y := ⟨_, rfl⟩
          rw [eg_7] at hP9 hD9
          refine reW [wO q0 1 [.ref q1, .ref er, .ref q2, .ref q3, .ref q4, .ref h0, .int (nI ql), .int qo], wI (cy 1) q2 24 (fa3_3), wI (cy 1) q1 5 (g_7), wO h0 4 [.ref h1, .ref h2, .ref h3, .ref h4, .ref h5, .ref h6, .ref h7, .ref h8, .ref h9, .ref h10, .ref h11, .int ys, hv1, hv2, hv3, hv4], wI (cy 1) h7 48 (fx), wI (cy 1) h1 4 (fc), (er, .inl (cy 4, 4, .inr (.inr (.inr (.inr (eF (ea 0) (ea 1) (ea 2) (ea 3))))))), wO (ea 0) 2 [.ref (eg 0), .ref (ef 0), .int (et 0), .int (nI (el 0)), .int (nI (ei 0))], wI (cy 1) (eg 0) 10 (gc 0), wI (cy 1) (ef 0) 7 (xc 0), wO (ea 1) 2 [.ref (eg 1), .ref (ef 1), .int (et 1), .int (nI (el 1)), .int (nI (ei 1))], wI (cy 1) (eg 1) 10 (gc 1), wI (cy 1) (ef 1) 7 (xc 1), wO (ea 2) 2 [.ref (eg 2), .ref (ef 2), .int (et 2), .int (nI (el 2)), .int (nI (ei 2))], wI (cy 1) (eg 2) 10 (gc 2), wI (cy 1) (ef 2) 7 (xc 2), wO (ea 3) 2 [.ref (eg 3), .ref (ef 3), .int (et 3), .int (nI (el 3)), .int (nI (ei 3))], wI (cy 1) (eg 3) 10 (gc 3), wI (cy 1) (ef 3) 7 (xc 3)] hP9 hD9 hS9 (fun hP hD hS => ?_)
          clear hP9 hD9 hS9
          have hgd_8 := cf_at (k := 4) (by decide) eg_7
          have hgk_9 := cf_kp (k := 4) (by decide) hf3_3 eg_7
          refine lv_iload_n hx hb dX1_countFrom_39 rfl (lv_at hl 3 rfl) ?_
          refine lv_aload_n hx hb dX1_countFrom_40 rfl (lv_at hl 2 rfl) ?_
          refine va_get (D := D) (ci := 1) (v := .int (nI ql)) (C := RX1) (T := TX1) (N := 8) hx hb hg i_X1 hown hK hP 0 rfl rfl 6 (by decide) (hg _ m_559) (fun _ h9 => h9) rfl dX1_countFrom_41 ?_
          refine lv_iconst (v := 1) hx hb dX1_countFrom_44 (by decide) ?_
          refine lv_isub hx hb dX1_countFrom_45 ?_
          refine lv_topi (fun y_10 hy_10 => ?_)
          obtain rfl : y_10 = nI (ql - 1) := hy_10.trans (pk_sub (a := ql) (b := 1) (by omega))
          refine lv_icmp_ne (tgt := 69) hx hb dX1_countFrom_46 (by decide) (fun c_11 => ?_) (fun c_11 => ?_)
          · have q_12 : ¬ 4 = (ql - 1) := q_ne (a := 4) (b := (ql - 1)) rfl rfl (by omega) (by omega) c_11
            exact absurd q_12 (by omega)
          · have q_12 : 4 = (ql - 1) := q_eq (a := 4) (b := (ql - 1)) rfl rfl (by omega) (by omega) c_11
            refine lv_iload_n hx hb dX1_countFrom_49 rfl (lv_at hl 1 rfl) ?_
            refine lv_aload_n hx hb dX1_countFrom_50 rfl (lv_at hl 2 rfl) ?_
            refine lv_iload_n hx hb dX1_countFrom_51 rfl (lv_at hl 3 rfl) ?_
            refine lv_iload_n hx hb dX1_countFrom_52 rfl (lv_at hl 0 rfl) ?_
            refine x_callVi (q := (RX1, TX1, 8)) (ci := 1) (q0 := 0) (wr := [wI (cy 1) q1 5 (g_7)]) (rest := [.int (nI ct3)]) ⟨hx, hb, hml, hown, hg, hl.1⟩ k_X1_62 (s_pardonsWithLast l D cy q0 q1 q2 q3 q4 er ql qo fa3_3 h0 h1 h2 h3 h4 h5 h6 h7 h8 h9 h10 h11 hv1 hv2 hv3 hv4 ys fx fc c0 c1 c2 c3 ea eg ef et el ei gc xc 4 wd3 ((fun c9 => pre9 (gc c9) fy 4)) (ha4_3) (hnx) (hcn) (by omega) (by omega) (by omega) (by omega) (by omega) (by omega) (hcl9) (cf_pt (b := 4 * 4) hpt hf4_3 (by decide) hc1) (fun c9 x9 _ h9 => pre_mem hfy hc0 h9)) E0_blind hK hP hD hS hA [0, 1, 3, 4, 5, 6, 7, 8, 9, 10, 11, 12, 13, 14, 15, 16, 17, 18] [2] ⟨rfl, rfl, by decide +kernel, by decide +kernel, by decide +kernel⟩ rfl rfl (fun _ _ _ => trivial) dX1_countFrom_53 rfl rfl (Nat.le_of_ble_eq_true rfl) ⟨Nat.le_of_ble_eq_true rfl, Nat.le_of_ble_eq_true rfl⟩ ⟨Nat.le_of_ble_eq_true rfl, Nat.le_of_ble_eq_true rfl⟩ (fun zr13 zu13 H locs hw13 hP9 hD9 hS9 => ?_)
            clear hP hD hS
            refine reW [wI (cy 1) q1 5 (g_7), wO q0 1 [.ref q1, .ref er, .ref q2, .ref q3, .ref q4, .ref h0, .int (nI ql), .int qo], wI (cy 1) q2 24 (fa3_3), wO h0 4 [.ref h1, .ref h2, .ref h3, .ref h4, .ref h5, .ref h6, .ref h7, .ref h8, .ref h9, .ref h10, .ref h11, .int ys, hv1, hv2, hv3, hv4], wI (cy 1) h7 48 (fx), wI (cy 1) h1 4 (fc), (er, .inl (cy 4, 4, .inr (.inr (.inr (.inr (eF (ea 0) (ea 1) (ea 2) (ea 3))))))), wO (ea 0) 2 [.ref (eg 0), .ref (ef 0), .int (et 0), .int (nI (el 0)), .int (nI (ei 0))], wI (cy 1) (eg 0) 10 (gc 0), wI (cy 1) (ef 0) 7 (xc 0), wO (ea 1) 2 [.ref (eg 1), .ref (ef 1), .int (et 1), .int (nI (el 1)), .int (nI (ei 1))], wI (cy 1) (eg 1) 10 (gc 1), wI (cy 1) (ef 1) 7 (xc 1), wO (ea 2) 2 [.ref (eg 2), .ref (ef 2), .int (et 2), .int (nI (el 2)), .int (nI (ei 2))], wI (cy 1) (eg 2) 10 (gc 2), wI (cy 1) (ef 2) 7 (xc 2), wO (ea 3) 2 [.ref (eg 3), .ref (ef 3), .int (et 3), .int (nI (el 3)), .int (nI (ei 3))], wI (cy 1) (eg 3) 10 (gc 3), wI (cy 1) (ef 3) 7 (xc 3)] hP9 hD9 hS9 (fun hP hD hS => ?_)
            clear hP9 hD9 hS9
            refine W.widen (k := 0) (n := 0) (Nat.le_of_ble_eq_true rfl) (Nat.le_of_ble_eq_true rfl) ?_
            replace hw13 : (zr13 = 0 ∨ zr13 = 1) ∧ (bR zr13 (alF (fun c9 => pdL fx ys (et c9) (nxL (gc c9) 4 wd3 (((fun c9 => pre9 (gc c9) fy 4)) c9))) c1)) := hw13
            obtain ⟨f_14, f_15⟩ := hw13
            have hPv_16 : bR zr13 ((pdA fx ys et gc c1 ql) (upd fy 4 (nI wd3))) := by rw [pdA_s (by omega)]; exact f_15
            refine lv_if_eq (tgt := 63) hx hb dX1_countFrom_56 (by decide) (fun c_56 => ?_) (fun c_56 => ?_)
            · refine lv_iconst (v := 0) hx hb dX1_countFrom_63 (by decide) ?_
              refine lv_iadd hx hb dX1_countFrom_64 ?_
              refine lv_topi (fun y_17 hy_17 => ?_)
              obtain rfl : y_17 = nI (ct3 + 0) := hy_17.trans (nI_add ct3 0)
              refine lv_istore_n (lv' := [(2, .int (nI (ct3 + 0))), (3, .int (nI wd3)), (0, .ref q0), (1, .int 4)]) hx hb dX1_countFrom_65 rfl hl (by decide) rfl (fun ls hl => ?_)
              refine lv_goto (tgt := 85) hx hb dX1_countFrom_66 (by decide) ?_
              refine lv_aload_n hx hb dX1_countFrom_85 rfl (lv_at hl 2 rfl) ?_
              refine va_get (D := D) (ci := 1) (v := .int qo) (C := RX1) (T := TX1) (N := 8) hx hb hg i_X1 hown hK hP 1 rfl rfl 7 (by decide) (hg _ m_560) (fun _ h9 => h9) rfl dX1_countFrom_86 ?_
              refine lv_if_eq (tgt := 98) hx hb dX1_countFrom_89 (by decide) (fun c_89 => ?_) (fun c_89 => ?_)
              · refine lv_iinc (v := nI (wd3 + 1)) (lv' := [(3, .int (nI (wd3 + 1))), (2, .int (nI (ct3 + 0))), (0, .ref q0), (1, .int 4)]) hx hb dX1_countFrom_98 hl (k := 1) rfl (nI_add wd3 1) (by decide) rfl (fun ls hl => ?_)
                refine lv_goto (tgt := 19) hx hb dX1_countFrom_101 (by decide) ?_
                exact ih3  ((ct3 + 0)) ((wd3 + 1)) g_7 fa3_3 ha4_3 (by omega) (fun h9 => sm_s (G := (fun w9 => cnP (pdA fx ys et gc c1 ql) c0 ql (ql - (4 + 1)) (upd fy 4 (nI w9)))) (hf1_3 h9) (cn_l0 (by omega) (bR_f hPv_16 c_56))) (fun h9 => absurd c_89 h9) (hgk_9) (hf4_3) (by omega) _ _ (hP.sub [1, 2, 0, 3, 4, 5, 6, 7, 8, 9, 10, 11, 12, 13, 14, 15, 16, 17, 18] rfl) (hD.sub [1, 2, 0, 3, 4, 5, 6, 7, 8, 9, 10, 11, 12, 13, 14, 15, 16, 17, 18] (by decide +kernel) rfl) hS ls (lv_sub hl [0, 1, 2, 3] rfl)
              · obtain ⟨hct0, hfn0⟩ := hf2_3 c_89
                refine lv_iload_n hx hb dX1_countFrom_92 rfl (lv_at hl 0 rfl) ?_
                refine lv_if_le (tgt := 98) hx hb dX1_countFrom_93 (by decide) (fun c_18 => ?_) (fun c_18 => ?_)
                · have q_19 : (ct3 + 0) ≤ 0 := q_le (a := (ct3 + 0)) (b := 0) rfl rfl (by omega) (by omega) c_18
                  refine lv_iinc (v := nI (wd3 + 1)) (lv' := [(3, .int (nI (wd3 + 1))), (2, .int (nI (ct3 + 0))), (0, .ref q0), (1, .int 4)]) hx hb dX1_countFrom_98 hl (k := 1) rfl (nI_add wd3 1) (by decide) rfl (fun ls hl => ?_)
                  refine lv_goto (tgt := 19) hx hb dX1_countFrom_101 (by decide) ?_
                  exact ih3  ((ct3 + 0)) ((wd3 + 1)) g_7 fa3_3 ha4_3 (by omega) (fun h9 => absurd h9 c_89) (fun _ => ⟨by omega, foF_n hfn0 (fd_l0 (by omega) (bR_f hPv_16 c_56))⟩) (hgk_9) (hf4_3) (by omega) _ _ (hP.sub [1, 2, 0, 3, 4, 5, 6, 7, 8, 9, 10, 11, 12, 13, 14, 15, 16, 17, 18] rfl) (hD.sub [1, 2, 0, 3, 4, 5, 6, 7, 8, 9, 10, 11, 12, 13, 14, 15, 16, 17, 18] (by decide +kernel) rfl) hS ls (lv_sub hl [0, 1, 2, 3] rfl)
                · have q_19 : 0 < (ct3 + 0) := q_nle (a := (ct3 + 0)) (b := 0) rfl rfl (by omega) (by omega) c_18
                  exact absurd q_19 (by omega)
            · refine lv_iconst (v := 1) hx hb dX1_countFrom_59 (by decide) ?_
              refine lv_goto (tgt := 64) hx hb dX1_countFrom_60 (by decide) ?_
              refine lv_iadd hx hb dX1_countFrom_64 ?_
              refine lv_topi (fun y_20 hy_20 => ?_)
              obtain rfl : y_20 = nI (ct3 + 1) := hy_20.trans (nI_add ct3 1)
              refine lv_istore_n (lv' := [(2, .int (nI (ct3 + 1))), (3, .int (nI wd3)), (0, .ref q0), (1, .int 4)]) hx hb dX1_countFrom_65 rfl hl (by decide) rfl (fun ls hl => ?_)
              refine lv_goto (tgt := 85) hx hb dX1_countFrom_66 (by decide) ?_
              refine lv_aload_n hx hb dX1_countFrom_85 rfl (lv_at hl 2 rfl) ?_
              refine va_get (D := D) (ci := 1) (v := .int qo) (C := RX1) (T := TX1) (N := 8) hx hb hg i_X1 hown hK hP 1 rfl rfl 7 (by decide) (hg _ m_560) (fun _ h9 => h9) rfl dX1_countFrom_86 ?_
              refine lv_if_eq (tgt := 98) hx hb dX1_countFrom_89 (by decide) (fun c_89 => ?_) (fun c_89 => ?_)
              · refine lv_iinc (v := nI (wd3 + 1)) (lv' := [(3, .int (nI (wd3 + 1))), (2, .int (nI (ct3 + 1))), (0, .ref q0), (1, .int 4)]) hx hb dX1_countFrom_98 hl (k := 1) rfl (nI_add wd3 1) (by decide) rfl (fun ls hl => ?_)
                refine lv_goto (tgt := 19) hx hb dX1_countFrom_101 (by decide) ?_
                exact ih3  ((ct3 + 1)) ((wd3 + 1)) g_7 fa3_3 ha4_3 (by omega) (fun h9 => sm_s (G := (fun w9 => cnP (pdA fx ys et gc c1 ql) c0 ql (ql - (4 + 1)) (upd fy 4 (nI w9)))) (hf1_3 h9) (cn_l1 (by omega) (bR_t hPv_16 c_56))) (fun h9 => absurd c_89 h9) (hgk_9) (hf4_3) (by omega) _ _ (hP.sub [1, 2, 0, 3, 4, 5, 6, 7, 8, 9, 10, 11, 12, 13, 14, 15, 16, 17, 18] rfl) (hD.sub [1, 2, 0, 3, 4, 5, 6, 7, 8, 9, 10, 11, 12, 13, 14, 15, 16, 17, 18] (by decide +kernel) rfl) hS ls (lv_sub hl [0, 1, 2, 3] rfl)
              · obtain ⟨hct0, hfn0⟩ := hf2_3 c_89
                refine lv_iload_n hx hb dX1_countFrom_92 rfl (lv_at hl 0 rfl) ?_
                refine lv_if_le (tgt := 98) hx hb dX1_countFrom_93 (by decide) (fun c_21 => ?_) (fun c_21 => ?_)
                · have q_22 : (ct3 + 1) ≤ 0 := q_le (a := (ct3 + 1)) (b := 0) rfl rfl (by omega) (by omega) c_21
                  exact absurd q_22 (by omega)
                · have q_22 : 0 < (ct3 + 1) := q_nle (a := (ct3 + 1)) (b := 0) rfl rfl (by omega) (by omega) c_21
                  refine lv_iload_n hx hb dX1_countFrom_96 rfl (lv_at hl 0 rfl) ?_
                  exact x_iret hQ hx hb hr hlocks hK hP hD hS dX1_countFrom_97 (fa3_3, g_7, (ct3 + 1)) (⟨rfl, ha4_3, fun h9 => absurd h9 c_89, fun _ => Or.inl ⟨(by show (ct3 + 1) = 1; omega), _, (by rw [fd_s hdl]; exact foF_y hfn0 (fd_l1 (by omega) (bR_t hPv_16 c_56)) (by omega)), (cf_tr hgd_8 hgk_9 (by omega))⟩, (hgk_9), (hf4_3)⟩) [1, 2, 0, 3, 4, 5, 6, 7, 8, 9, 10, 11, 12, 13, 14, 15, 16, 17, 18] (by decide +kernel) rfl (Nat.le_of_ble_eq_true rfl) (Nat.le_of_ble_eq_true rfl)
    exact loop3 _ 0 0 fy fph hph (by omega) (fun _ => rfl) (fun _ => ⟨rfl, rfl⟩) (fun i9 h9 => rfl) (fun k9 h9 => rfl) (Nat.le_refl _) _ _ (hP.sub [0, 1, 2, 3, 4, 5, 6, 7, 8, 9, 10, 11, 12, 13, 14, 15, 16, 17, 18] rfl) (hD.sub [0, 1, 2, 3, 4, 5, 6, 7, 8, 9, 10, 11, 12, 13, 14, 15, 16, 17, 18] (by decide +kernel) rfl) hS ls (lv_sub hl [0, 1, 2, 3] rfl)
theorem gdX1_countFrom_69 : decode cX1_countFrom 69 = .ok (.aload_n 0, 1) ∧ decode cX1_countFrom 70 = .ok (.iload_n 1, 1) ∧ decode cX1_countFrom 71 = .ok (.iload_n 3, 1) ∧ decode cX1_countFrom 72 = .ok (.invokevirtual 66, 3) := by decide +kernel
theorem dX1_countFrom_69 : decode cX1_countFrom 69 = .ok (.aload_n 0, 1) := gdX1_countFrom_69.1
theorem dX1_countFrom_70 : decode cX1_countFrom 70 = .ok (.iload_n 1, 1) := gdX1_countFrom_69.2.1
theorem dX1_countFrom_71 : decode cX1_countFrom 71 = .ok (.iload_n 3, 1) := gdX1_countFrom_69.2.2.1
theorem dX1_countFrom_72 : decode cX1_countFrom 72 = .ok (.invokevirtual 66, 3) := gdX1_countFrom_69.2.2.2
theorem k_X1_66 : xV RX1 RX1 66 yX1_goOn cX1_goOn 6 none 2 := ⟨⟨m_1175, m_1177, m_42, m_143, m_1178⟩, rfl, by decide, by decide, by decide +kernel⟩
theorem gdX1_countFrom_75 : decode cX1_countFrom 75 = .ok (.iload_n 2, 1) ∧ decode cX1_countFrom 76 = .ok (.aload_n 0, 1) ∧ decode cX1_countFrom 77 = .ok (.iload_n 1, 1) ∧ decode cX1_countFrom 78 = .ok (.iconst 1, 1) ∧ decode cX1_countFrom 79 = .ok (.iadd, 1) ∧ decode cX1_countFrom 80 = .ok (.invokevirtual 58, 3) := by decide +kernel
theorem dX1_countFrom_75 : decode cX1_countFrom 75 = .ok (.iload_n 2, 1) := gdX1_countFrom_75.1
theorem dX1_countFrom_76 : decode cX1_countFrom 76 = .ok (.aload_n 0, 1) := gdX1_countFrom_75.2.1
theorem dX1_countFrom_77 : decode cX1_countFrom 77 = .ok (.iload_n 1, 1) := gdX1_countFrom_75.2.2.1
theorem dX1_countFrom_78 : decode cX1_countFrom 78 = .ok (.iconst 1, 1) := gdX1_countFrom_75.2.2.2.1
theorem dX1_countFrom_79 : decode cX1_countFrom 79 = .ok (.iadd, 1) := gdX1_countFrom_75.2.2.2.2.1
theorem dX1_countFrom_80 : decode cX1_countFrom 80 = .ok (.invokevirtual 58, 3) := gdX1_countFrom_75.2.2.2.2.2
theorem k_X1_58 : xV RX1 RX1 58 yX1_countFrom cX1_countFrom 4 (some .int) 1 := ⟨⟨m_1153, m_1155, m_38, m_143, m_1156⟩, rfl, by decide, by decide, by decide +kernel⟩
theorem dX1_countFrom_83 : decode cX1_countFrom 83 = .ok (.iadd, 1) := by decide +kernel
theorem dX1_countFrom_84 : decode cX1_countFrom 84 = .ok (.istore_n 2, 1) := by decide +kernel
set_option maxHeartbeats 1000000 in
set_option maxRecDepth 100000 in
theorem s_countFrom3 (l : Launch) (D : va_G) (cy : Nat → ClassId) (q0 : Nat) (q1 : Nat) (q2 : Nat) (q3 : Nat) (q4 : Nat) (er : Nat) (ql : Nat) (qo : Int32) (fph : Nat → Int32) (fy : Nat → Int32) (h0 : Nat) (h1 : Nat) (h2 : Nat) (h3 : Nat) (h4 : Nat) (h5 : Nat) (h6 : Nat) (h7 : Nat) (h8 : Nat) (h9 : Nat) (h10 : Nat) (h11 : Nat) (hv1 : Value) (hv2 : Value) (hv3 : Value) (hv4 : Value) (ys : Int32) (fx : Nat → Int32) (fc : Nat → Int32) (c0 : Nat) (c1 : Nat) (c2 : Nat) (c3 : Nat) (ea : Nat → Nat) (eg : Nat → Nat) (ef : Nat → Nat) (et : Nat → Int32) (el : Nat → Nat) (ei : Nat → Nat) (gc : Nat → Nat → Int32) (xc : Nat → Nat → Int32) (hph : pRow fph) (hnx : rng fx 48 5) (hcn : cntOK fc c0 c1 c2 c3) (hc0 : c0 ≤ 8) (hc1 : c1 ≤ 4) (hc2 : c2 ≤ 4) (hc3 : c3 ≤ 6) (hql : ql ≤ 5) (hdl : 3 < ql) (hcl9 : cl9 fx ys c3) (hfy : okW c0 fy 3) (hpt : ∀ c9 : Nat, c9 < c1 → ptR fx c3 (et c9) (pre9 (gc c9) fy 3) (fph (3 * 4 + c9)).toNatClampNeg) : XMi l D (tyL cy) E0 yX1_countFrom cX1_countFrom 4 (some .int) (rmk 7 0 0) [.ref q0, .int 3] [wO q0 1 [.ref q1, .ref er, .ref q2, .ref q3, .ref q4, .ref h0, .int (nI ql), .int qo], wI (cy 1) q2 24 (fph), wI (cy 1) q1 5 (fy), wO h0 4 [.ref h1, .ref h2, .ref h3, .ref h4, .ref h5, .ref h6, .ref h7, .ref h8, .ref h9, .ref h10, .ref h11, .int ys, hv1, hv2, hv3, hv4], wI (cy 1) h7 48 (fx), wI (cy 1) h1 4 (fc), (er, .inl (cy 4, 4, .inr (.inr (.inr (.inr (eF (ea 0) (ea 1) (ea 2) (ea 3))))))), wO (ea 0) 2 [.ref (eg 0), .ref (ef 0), .int (et 0), .int (nI (el 0)), .int (nI (ei 0))], wI (cy 1) (eg 0) 10 (gc 0), wI (cy 1) (ef 0) 7 (xc 0), wO (ea 1) 2 [.ref (eg 1), .ref (ef 1), .int (et 1), .int (nI (el 1)), .int (nI (ei 1))], wI (cy 1) (eg 1) 10 (gc 1), wI (cy 1) (ef 1) 7 (xc 1), wO (ea 2) 2 [.ref (eg 2), .ref (ef 2), .int (et 2), .int (nI (el 2)), .int (nI (ei 2))], wI (cy 1) (eg 2) 10 (gc 2), wI (cy 1) (ef 2) 7 (xc 2), wO (ea 3) 2 [.ref (eg 3), .ref (ef 3), .int (et 3), .int (nI (el 3)), .int (nI (ei 3))], wI (cy 1) (eg 3) 10 (gc 3), wI (cy 1) (ef 3) 7 (xc 3)] (fun (r : Int32) (u : (Nat → Int32) × (Nat → Int32) × Nat) => (r = nI u.2.2) ∧ (pRow u.1) ∧ (qo = 0 → u.2.2 = cnP (pdA fx ys et gc c1 ql) c0 ql (ql - 3) fy) ∧ (¬ qo = 0 → (u.2.2 = 1 ∧ ∃ g9, fdP (pdA fx ys et gc c1 ql) c0 ql (ql - 3) fy = some g9 ∧ ∀ i9, i9 < ql → u.2.1 i9 = g9 i9) ∨ (u.2.2 = 0 ∧ fdP (pdA fx ys et gc c1 ql) c0 ql (ql - 3) fy = none)) ∧ (∀ i9, i9 < 3 → u.2.1 i9 = fy i9) ∧ (∀ k9 : Nat, k9 < (3 + 1) * 4 → u.1 k9 = fph k9)) (fun (u : (Nat → Int32) × (Nat → Int32) × Nat) => [wO q0 1 [.ref q1, .ref er, .ref q2, .ref q3, .ref q4, .ref h0, .int (nI ql), .int qo], wI (cy 1) q2 24 (u.1), wI (cy 1) q1 5 (u.2.1), wO h0 4 [.ref h1, .ref h2, .ref h3, .ref h4, .ref h5, .ref h6, .ref h7, .ref h8, .ref h9, .ref h10, .ref h11, .int ys, hv1, hv2, hv3, hv4], wI (cy 1) h7 48 (fx), wI (cy 1) h1 4 (fc), (er, .inl (cy 4, 4, .inr (.inr (.inr (.inr (eF (ea 0) (ea 1) (ea 2) (ea 3))))))), wO (ea 0) 2 [.ref (eg 0), .ref (ef 0), .int (et 0), .int (nI (el 0)), .int (nI (ei 0))], wI (cy 1) (eg 0) 10 (gc 0), wI (cy 1) (ef 0) 7 (xc 0), wO (ea 1) 2 [.ref (eg 1), .ref (ef 1), .int (et 1), .int (nI (el 1)), .int (nI (ei 1))], wI (cy 1) (eg 1) 10 (gc 1), wI (cy 1) (ef 1) 7 (xc 1), wO (ea 2) 2 [.ref (eg 2), .ref (ef 2), .int (et 2), .int (nI (el 2)), .int (nI (ei 2))], wI (cy 1) (eg 2) 10 (gc 2), wI (cy 1) (ef 2) 7 (xc 2), wO (ea 3) 2 [.ref (eg 3), .ref (ef 3), .int (et 3), .int (nI (el 3)), .int (nI (ei 3))], wI (cy 1) (eg 3) 10 (gc 3), wI (cy 1) (ef 3) 7 (xc 3)]) := by
  refine XMi.start (by decide) (Nat.le_of_ble_eq_true rfl) ?_
  intro p e s m below meth c args A ls Q hat hQ
  obtain ⟨hx, hb, hr, hml, hown, hg, hlocks, hin, hK, hA, hP, hD, hS, hE, hl⟩ := hat
  have hown : s.vm.findClass RX1 = some m.cls := hown
  have hl : lv_has ls 4 [(0, .ref q0), (1, .int 3)] := hl
  refine lv_iconst (v := 0) hx hb dX1_countFrom_0 (by decide) ?_
  refine lv_istore_n (lv' := [(2, .int 0), (0, .ref q0), (1, .int 3)]) hx hb dX1_countFrom_1 rfl hl (by decide) rfl (fun ls hl => ?_)
  refine lv_iload_n hx hb dX1_countFrom_2 rfl (lv_at hl 2 rfl) ?_
  refine lv_aload_n hx hb dX1_countFrom_3 rfl (lv_at hl 1 rfl) ?_
  refine va_get (D := D) (ci := 1) (v := .int (nI ql)) (C := RX1) (T := TX1) (N := 8) hx hb hg i_X1 hown hK hP 0 rfl rfl 6 (by decide) (hg _ m_559) (fun _ h9 => h9) rfl dX1_countFrom_4 ?_
  refine lv_icmp_ge (tgt := 15) hx hb dX1_countFrom_7 (by decide) (fun c_1 => ?_) (fun c_1 => ?_)
  · have q_2 : ql ≤ 3 := q_le (a := ql) (b := 3) rfl rfl (by omega) (by omega) c_1
    exact absurd q_2 (by omega)
  · have q_2 : 3 < ql := q_nle (a := ql) (b := 3) rfl rfl (by omega) (by omega) c_1
    refine lv_iload_n hx hb dX1_countFrom_10 rfl (lv_at hl 2 rfl) ?_
    refine lv_iconst (v := 5) hx hb dX1_countFrom_11 (by decide) ?_
    refine lv_icmp_lt (tgt := 17) hx hb dX1_countFrom_12 (by decide) (fun _ => ?_) (fun h => absurd (by decide) h)
    refine lv_iconst (v := 0) hx hb dX1_countFrom_17 (by decide) ?_
    refine lv_istore_n (lv' := [(3, .int 0), (2, .int 0), (0, .ref q0), (1, .int 3)]) hx hb dX1_countFrom_18 rfl hl (by decide) rfl (fun ls hl => ?_)
    have loop3 : ∀ (zn : Nat) (ct3 : Nat) (wd3 : Nat) (fa2_3 : Nat → Int32) (fa3_3 : Nat → Int32), (pRow fa3_3) → (wd3 ≤ c0) → (qo = 0 → ct3 = smF (fun w9 => cnP (pdA fx ys et gc c1 ql) c0 ql (ql - (3 + 1)) (upd fy 3 (nI w9))) wd3) → (¬ qo = 0 → ct3 = 0 ∧ foF (fun w9 => fdP (pdA fx ys et gc c1 ql) c0 ql (ql - (3 + 1)) (upd fy 3 (nI w9))) wd3 = none) → (∀ i9 : Nat, i9 < 3 → fa2_3 i9 = fy i9) → (∀ k9 : Nat, k9 < (3 + 1) * 4 → fa3_3 k9 = fph k9) → c0 - wd3 + 1 ≤ zn → ∀ (H : Heap) (locs : List Loc), va_P D vwCl [wO q0 1 [.ref q1, .ref er, .ref q2, .ref q3, .ref q4, .ref h0, .int (nI ql), .int qo], wI (cy 1) q2 24 (fa3_3), wI (cy 1) q1 5 (fa2_3), wO h0 4 [.ref h1, .ref h2, .ref h3, .ref h4, .ref h5, .ref h6, .ref h7, .ref h8, .ref h9, .ref h10, .ref h11, .int ys, hv1, hv2, hv3, hv4], wI (cy 1) h7 48 (fx), wI (cy 1) h1 4 (fc), (er, .inl (cy 4, 4, .inr (.inr (.inr (.inr (eF (ea 0) (ea 1) (ea 2) (ea 3))))))), wO (ea 0) 2 [.ref (eg 0), .ref (ef 0), .int (et 0), .int (nI (el 0)), .int (nI (ei 0))], wI (cy 1) (eg 0) 10 (gc 0), wI (cy 1) (ef 0) 7 (xc 0), wO (ea 1) 2 [.ref (eg 1), .ref (ef 1), .int (et 1), .int (nI (el 1)), .int (nI (ei 1))], wI (cy 1) (eg 1) 10 (gc 1), wI (cy 1) (ef 1) 7 (xc 1), wO (ea 2) 2 [.ref (eg 2), .ref (ef 2), .int (et 2), .int (nI (el 2)), .int (nI (ei 2))], wI (cy 1) (eg 2) 10 (gc 2), wI (cy 1) (ef 2) 7 (xc 2), wO (ea 3) 2 [.ref (eg 3), .ref (ef 3), .int (et 3), .int (nI (el 3)), .int (nI (ei 3))], wI (cy 1) (eg 3) 10 (gc 3), wI (cy 1) (ef 3) 7 (xc 3)] H → va_D A [wO q0 1 [.ref q1, .ref er, .ref q2, .ref q3, .ref q4, .ref h0, .int (nI ql), .int qo], wI (cy 1) q2 24 (fa3_3), wI (cy 1) q1 5 (fa2_3), wO h0 4 [.ref h1, .ref h2, .ref h3, .ref h4, .ref h5, .ref h6, .ref h7, .ref h8, .ref h9, .ref h10, .ref h11, .int ys, hv1, hv2, hv3, hv4], wI (cy 1) h7 48 (fx), wI (cy 1) h1 4 (fc), (er, .inl (cy 4, 4, .inr (.inr (.inr (.inr (eF (ea 0) (ea 1) (ea 2) (ea 3))))))), wO (ea 0) 2 [.ref (eg 0), .ref (ef 0), .int (et 0), .int (nI (el 0)), .int (nI (ei 0))], wI (cy 1) (eg 0) 10 (gc 0), wI (cy 1) (ef 0) 7 (xc 0), wO (ea 1) 2 [.ref (eg 1), .ref (ef 1), .int (et 1), .int (nI (el 1)), .int (nI (ei 1))], wI (cy 1) (eg 1) 10 (gc 1), wI (cy 1) (ef 1) 7 (xc 1), wO (ea 2) 2 [.ref (eg 2), .ref (ef 2), .int (et 2), .int (nI (el 2)), .int (nI (ei 2))], wI (cy 1) (eg 2) 10 (gc 2), wI (cy 1) (ef 2) 7 (xc 2), wO (ea 3) 2 [.ref (eg 3), .ref (ef 3), .int (et 3), .int (nI (el 3)), .int (nI (ei 3))], wI (cy 1) (eg 3) 10 (gc 3), wI (cy 1) (ef 3) 7 (xc 3)] → va_S A s.heap H locs → ∀ ls : Array Slot, lv_has ls 4 [(3, .int (nI wd3)), (2, .int (nI ct3)), (0, .ref q0), (1, .int 3)] → W p l e (rmk 7 0 0) s m args below meth c H locs 0 0 Q (F0 m 19 ls []) := by
      try clear hP hD hS
      intro zn
      induction zn with
      | zero => intro ct3 wd3 fa2_3 fa3_3 _ _ _ _ _ _ hz; exact absurd hz (by omega)
      | succ zn ih3 =>
        intro ct3 wd3 fa2_3 fa3_3 ha4_3 hf0_3 hf1_3 hf2_3 hf3_3 hf4_3 hmu3 H locs hP hD hS ls hl
        refine lv_iload_n hx hb dX1_countFrom_19 rfl (lv_at hl 0 rfl) ?_
        refine lv_aload_n hx hb dX1_countFrom_20 rfl (lv_at hl 2 rfl) ?_
        refine va_get (D := D) (ci := 1) (v := .ref h0) (C := RX1) (T := TX1) (N := 8) hx hb hg i_X1 hown hK hP 0 rfl rfl 5 (by decide) (hg _ m_558) (fun _ h9 => h9) rfl dX1_countFrom_21 ?_
        refine va_get (D := D) (ci := 4) (v := .ref h1) (C := RX4) (T := TX4) (N := 16) hx hb hg i_X4 hown hK hP 3 rfl rfl 0 (by decide) (hg _ m_331) (fun _ h9 => h9) rfl dX1_countFrom_24 ?_
        refine lv_iconst (v := 0) hx hb dX1_countFrom_27 (by decide) ?_
        refine va_iald hx hb hK hP 5 1 rfl rfl (by unfold vp_in; decide) dX1_countFrom_28 ?_
        refine lv_topi (fun y_4 hy_4 => ?_)
        obtain rfl : y_4 = nI c0 := hy_4.trans hcn.1
        refine lv_icmp_ge (tgt := 104) hx hb dX1_countFrom_29 (by decide) (fun c_5 => ?_) (fun c_5 => ?_)
        · have q_6 : c0 ≤ wd3 := q_le (a := c0) (b := wd3) rfl rfl (by omega) (by omega) c_5
          refine lv_iload_n hx hb dX1_countFrom_104 rfl (lv_at hl 1 rfl) ?_
          exact x_iret hQ hx hb hr hlocks hK hP hD hS dX1_countFrom_105 (fa3_3, fa2_3, ct3) (⟨rfl, ha4_3, fun h9 => (hf1_3 h9).trans (by rw [show wd3 = c0 by omega]; exact (cn_s hdl).symm), fun h9 => Or.inr ⟨(hf2_3 h9).1, (by have h8 := (hf2_3 h9).2; rw [show wd3 = c0 by omega] at h8; rw [fd_s hdl]; exact h8)⟩, (hf3_3), (hf4_3)⟩) [0, 1, 2, 3, 4, 5, 6, 7, 8, 9, 10, 11, 12, 13, 14, 15, 16, 17, 18] (by decide +kernel) rfl (Nat.le_of_ble_eq_true rfl) (Nat.le_of_ble_eq_true rfl)
        · have q_6 : wd3 < c0 := q_nle (a := c0) (b := wd3) rfl rfl (by omega) (by omega) c_5
          refine lv_aload_n hx hb dX1_countFrom_32 rfl (lv_at hl 2 rfl) ?_
          refine va_get (D := D) (ci := 1) (v := .ref q1) (C := RX1) (T := TX1) (N := 8) hx hb hg i_X1 hown hK hP 0 rfl rfl 0 (by decide) (hg _ m_552) (fun _ h9 => h9) rfl dX1_countFrom_33 ?_
          refine lv_iload_n hx hb dX1_countFrom_36 rfl (lv_at hl 3 rfl) ?_
          refine lv_iload_n hx hb dX1_countFrom_37 rfl (lv_at hl 0 rfl) ?_
          refine va_iast hx hb hK hP hD hS 2 1 rfl rfl (by unfold vp_in; decide) dX1_countFrom_38 (fun H locs hP9 hD9 hS9 => ?_)
          clear hP hD hS
          obtain ⟨g_7, eg_7⟩ : ∃ y, upd fa2_3 (3 : Int32).toNatClampNeg (nI wd3) = y := ⟨_, rfl⟩
          rw [eg_7] at hP9 hD9
          refine reW [wO q0 1 [.ref q1, .ref er, .ref q2, .ref q3, .ref q4, .ref h0, .int (nI ql), .int qo], wI (cy 1) q2 24 (fa3_3), wI (cy 1) q1 5 (g_7), wO h0 4 [.ref h1, .ref h2, .ref h3, .ref h4, .ref h5, .ref h6, .ref h7, .ref h8, .ref h9, .ref h10, .ref h11, .int ys, hv1, hv2, hv3, hv4], wI (cy 1) h7 48 (fx), wI (cy 1) h1 4 (fc), (er, .inl (cy 4, 4, .inr (.inr (.inr (.inr (eF (ea 0) (ea 1) (ea 2) (ea 3))))))), wO (ea 0) 2 [.ref (eg 0), .ref (ef 0), .int (et 0), .int (nI (el 0)), .int (nI (ei 0))], wI (cy 1) (eg 0) 10 (gc 0), wI (cy 1) (ef 0) 7 (xc 0), wO (ea 1) 2 [.ref (eg 1), .ref (ef 1), .int (et 1), .int (nI (el 1)), .int (nI (ei 1))], wI (cy 1) (eg 1) 10 (gc 1), wI (cy 1) (ef 1) 7 (xc 1), wO (ea 2) 2 [.ref (eg 2), .ref (ef 2), .int (et 2), .int (nI (el 2)), .int (nI (ei 2))], wI (cy 1) (eg 2) 10 (gc 2), wI (cy 1) (ef 2) 7 (xc 2), wO (ea 3) 2 [.ref (eg 3), .ref (ef 3), .int (et 3), .int (nI (el 3)), .int (nI (ei 3))], wI (cy 1) (eg 3) 10 (gc 3), wI (cy 1) (ef 3) 7 (xc 3)] hP9 hD9 hS9 (fun hP hD hS => ?_)
          clear hP9 hD9 hS9
          have hgd_8 := cf_at (k := 3) (by decide) eg_7
          have hgk_9 := cf_kp (k := 3) (by decide) hf3_3 eg_7
          refine lv_iload_n hx hb dX1_countFrom_39 rfl (lv_at hl 3 rfl) ?_
          refine lv_aload_n hx hb dX1_countFrom_40 rfl (lv_at hl 2 rfl) ?_
          refine va_get (D := D) (ci := 1) (v := .int (nI ql)) (C := RX1) (T := TX1) (N := 8) hx hb hg i_X1 hown hK hP 0 rfl rfl 6 (by decide) (hg _ m_559) (fun _ h9 => h9) rfl dX1_countFrom_41 ?_
          refine lv_iconst (v := 1) hx hb dX1_countFrom_44 (by decide) ?_
          refine lv_isub hx hb dX1_countFrom_45 ?_
          refine lv_topi (fun y_10 hy_10 => ?_)
          obtain rfl : y_10 = nI (ql - 1) := hy_10.trans (pk_sub (a := ql) (b := 1) (by omega))
          refine lv_icmp_ne (tgt := 69) hx hb dX1_countFrom_46 (by decide) (fun c_11 => ?_) (fun c_11 => ?_)
          · have q_12 : ¬ 3 = (ql - 1) := q_ne (a := 3) (b := (ql - 1)) rfl rfl (by omega) (by omega) c_11
            refine lv_aload_n hx hb dX1_countFrom_69 rfl (lv_at hl 2 rfl) ?_
            refine lv_iload_n hx hb dX1_countFrom_70 rfl (lv_at hl 3 rfl) ?_
            refine lv_iload_n hx hb dX1_countFrom_71 rfl (lv_at hl 0 rfl) ?_
            refine x_callVv (q := (RX1, TX1, 8)) (ci := 1) (q0 := 0) (wr := [wI (cy 1) q1 5 (g_7)]) (rest := []) ⟨hx, hb, hml, hown, hg, hl.1⟩ k_X1_66 (s_goOn l D cy q0 q1 q2 q3 q4 er ql qo fa3_3 h0 h1 h2 h3 h4 h5 h6 h7 h8 h9 h10 h11 ((.int ys)) hv1 hv2 hv3 hv4 fx fc c0 c1 c2 c3 ea eg ef et el ei gc xc 3 wd3 ((fun c9 => pre9 (gc c9) fy 3)) (ha4_3) (hnx) (hcn) (by omega) (by omega) (by omega) (by omega) (by omega) (by omega) (hcl9.1) (cf_pt (b := 3 * 4) hpt hf4_3 (by decide) hc1)) E0_blind hK hP hD hS hA [0, 1, 3, 4, 5, 6, 7, 8, 9, 10, 11, 12, 13, 14, 15, 16, 17, 18] [2] ⟨rfl, rfl, by decide +kernel, by decide +kernel, by decide +kernel⟩ rfl rfl (fun _ _ _ => trivial) dX1_countFrom_72 rfl rfl (Nat.le_of_ble_eq_true rfl) ⟨Nat.le_of_ble_eq_true rfl, Nat.le_of_ble_eq_true rfl⟩ ⟨Nat.le_of_ble_eq_true rfl, Nat.le_of_ble_eq_true rfl⟩ (fun zu13 H locs hw13 hP9 hD9 hS9 => ?_)
            clear hP hD hS
            obtain ⟨fph2_14, rfl⟩ : ∃ z, z = zu13 := ⟨_, rfl⟩
            refine reW [wI (cy 1) q1 5 (g_7), wO q0 1 [.ref q1, .ref er, .ref q2, .ref q3, .ref q4, .ref h0, .int (nI ql), .int qo], wI (cy 1) q2 24 (fph2_14), wO h0 4 [.ref h1, .ref h2, .ref h3, .ref h4, .ref h5, .ref h6, .ref h7, .ref h8, .ref h9, .ref h10, .ref h11, .int ys, hv1, hv2, hv3, hv4], wI (cy 1) h7 48 (fx), wI (cy 1) h1 4 (fc), (er, .inl (cy 4, 4, .inr (.inr (.inr (.inr (eF (ea 0) (ea 1) (ea 2) (ea 3))))))), wO (ea 0) 2 [.ref (eg 0), .ref (ef 0), .int (et 0), .int (nI (el 0)), .int (nI (ei 0))], wI (cy 1) (eg 0) 10 (gc 0), wI (cy 1) (ef 0) 7 (xc 0), wO (ea 1) 2 [.ref (eg 1), .ref (ef 1), .int (et 1), .int (nI (el 1)), .int (nI (ei 1))], wI (cy 1) (eg 1) 10 (gc 1), wI (cy 1) (ef 1) 7 (xc 1), wO (ea 2) 2 [.ref (eg 2), .ref (ef 2), .int (et 2), .int (nI (el 2)), .int (nI (ei 2))], wI (cy 1) (eg 2) 10 (gc 2), wI (cy 1) (ef 2) 7 (xc 2), wO (ea 3) 2 [.ref (eg 3), .ref (ef 3), .int (et 3), .int (nI (el 3)), .int (nI (ei 3))], wI (cy 1) (eg 3) 10 (gc 3), wI (cy 1) (ef 3) 7 (xc 3)] hP9 hD9 hS9 (fun hP hD hS => ?_)
            clear hP9 hD9 hS9
            refine W.widen (k := 0) (n := 0) (Nat.le_of_ble_eq_true rfl) (Nat.le_of_ble_eq_true rfl) ?_
            replace hw13 : (pRow fph2_14) ∧ (∀ c9 : Nat, c9 < c1 → ptR fx c3 (et c9) (nxL (gc c9) 3 wd3 (((fun c9 => pre9 (gc c9) fy 3)) c9)) (fph2_14 ((3 + 1) * 4 + c9)).toNatClampNeg) ∧ (∀ k9 : Nat, k9 < (3 + 1) * 4 → fph2_14 k9 = fa3_3 k9) := hw13
            obtain ⟨f_15, f_16, f_17⟩ := hw13
            refine lv_iload_n hx hb dX1_countFrom_75 rfl (lv_at hl 1 rfl) ?_
            refine lv_aload_n hx hb dX1_countFrom_76 rfl (lv_at hl 2 rfl) ?_
            refine lv_iload_n hx hb dX1_countFrom_77 rfl (lv_at hl 3 rfl) ?_
            refine lv_iconst (v := 1) hx hb dX1_countFrom_78 (by decide) ?_
            refine lv_iadd hx hb dX1_countFrom_79 ?_
            refine lv_topi (fun y_18 hy_18 => ?_)
            obtain rfl : y_18 = 4 := hy_18.trans (by decide +kernel)
            refine x_callVi (q := (RX1, TX1, 8)) (ci := 1) (q0 := 0) (wr := []) (rest := [.int (nI ct3)]) ⟨hx, hb, hml, hown, hg, hl.1⟩ k_X1_58 (s_countFrom4 l D cy q0 q1 q2 q3 q4 er ql qo fph2_14 g_7 h0 h1 h2 h3 h4 h5 h6 h7 h8 h9 h10 h11 hv1 hv2 hv3 hv4 ys fx fc c0 c1 c2 c3 ea eg ef et el ei gc xc (f_15) (hnx) (hcn) (by omega) (by omega) (by omega) (by omega) (by omega) (by omega) (hcl9) (cf_ok hfy hgd_8 hgk_9 (by omega)) (fun c9 h9 => by have h8 := f_16 c9 h9; rw [← pre_s (fw := fy) (f2 := g_7) (d := 3) (w := wd3) hgk_9 hgd_8] at h8; exact h8)) E0_blind hK hP hD hS hA [1, 2, 0, 3, 4, 5, 6, 7, 8, 9, 10, 11, 12, 13, 14, 15, 16, 17, 18] [] ⟨rfl, rfl, by decide +kernel, by decide +kernel, by decide +kernel⟩ rfl rfl (fun _ _ _ => trivial) dX1_countFrom_80 rfl rfl (Nat.le_of_ble_eq_true rfl) ⟨Nat.le_of_ble_eq_true rfl, Nat.le_of_ble_eq_true rfl⟩ ⟨Nat.le_of_ble_eq_true rfl, Nat.le_of_ble_eq_true rfl⟩ (fun zr19 zu19 H locs hw19 hP9 hD9 hS9 => ?_)
            clear hP hD hS
            obtain ⟨fph2_20, fy2_21, kc_22⟩ := zu19
            refine reW [wO q0 1 [.ref q1, .ref er, .ref q2, .ref q3, .ref q4, .ref h0, .int (nI ql), .int qo], wI (cy 1) q2 24 (fph2_20), wI (cy 1) q1 5 (fy2_21), wO h0 4 [.ref h1, .ref h2, .ref h3, .ref h4, .ref h5, .ref h6, .ref h7, .ref h8, .ref h9, .ref h10, .ref h11, .int ys, hv1, hv2, hv3, hv4], wI (cy 1) h7 48 (fx), wI (cy 1) h1 4 (fc), (er, .inl (cy 4, 4, .inr (.inr (.inr (.inr (eF (ea 0) (ea 1) (ea 2) (ea 3))))))), wO (ea 0) 2 [.ref (eg 0), .ref (ef 0), .int (et 0), .int (nI (el 0)), .int (nI (ei 0))], wI (cy 1) (eg 0) 10 (gc 0), wI (cy 1) (ef 0) 7 (xc 0), wO (ea 1) 2 [.ref (eg 1), .ref (ef 1), .int (et 1), .int (nI (el 1)), .int (nI (ei 1))], wI (cy 1) (eg 1) 10 (gc 1), wI (cy 1) (ef 1) 7 (xc 1), wO (ea 2) 2 [.ref (eg 2), .ref (ef 2), .int (et 2), .int (nI (el 2)), .int (nI (ei 2))], wI (cy 1) (eg 2) 10 (gc 2), wI (cy 1) (ef 2) 7 (xc 2), wO (ea 3) 2 [.ref (eg 3), .ref (ef 3), .int (et 3), .int (nI (el 3)), .int (nI (ei 3))], wI (cy 1) (eg 3) 10 (gc 3), wI (cy 1) (ef 3) 7 (xc 3)] hP9 hD9 hS9 (fun hP hD hS => ?_)
            clear hP9 hD9 hS9
            refine W.widen (k := 0) (n := 0) (Nat.le_of_ble_eq_true rfl) (Nat.le_of_ble_eq_true rfl) ?_
            replace hw19 : (zr19 = nI kc_22) ∧ (pRow fph2_20) ∧ (qo = 0 → kc_22 = cnP (pdA fx ys et gc c1 ql) c0 ql (ql - 4) g_7) ∧ (¬ qo = 0 → (kc_22 = 1 ∧ ∃ g9, fdP (pdA fx ys et gc c1 ql) c0 ql (ql - 4) g_7 = some g9 ∧ ∀ i9, i9 < ql → fy2_21 i9 = g9 i9) ∨ (kc_22 = 0 ∧ fdP (pdA fx ys et gc c1 ql) c0 ql (ql - 4) g_7 = none)) ∧ (∀ i9, i9 < 4 → fy2_21 i9 = g_7 i9) ∧ (∀ k9 : Nat, k9 < (4 + 1) * 4 → fph2_20 k9 = fph2_14 k9) := hw19
            obtain ⟨f_23, f_24, f_25, f_26, f_27, f_28⟩ := hw19
            subst f_23
            refine lv_iadd hx hb dX1_countFrom_83 ?_
            refine lv_topi (fun y_29 hy_29 => ?_)
            obtain rfl : y_29 = nI (ct3 + kc_22) := hy_29.trans (nI_add ct3 kc_22)
            refine lv_istore_n (lv' := [(2, .int (nI (ct3 + kc_22))), (3, .int (nI wd3)), (0, .ref q0), (1, .int 3)]) hx hb dX1_countFrom_84 rfl hl (by decide) rfl (fun ls hl => ?_)
            refine lv_aload_n hx hb dX1_countFrom_85 rfl (lv_at hl 2 rfl) ?_
            refine va_get (D := D) (ci := 1) (v := .int qo) (C := RX1) (T := TX1) (N := 8) hx hb hg i_X1 hown hK hP 0 rfl rfl 7 (by decide) (hg _ m_560) (fun _ h9 => h9) rfl dX1_countFrom_86 ?_
            refine lv_if_eq (tgt := 98) hx hb dX1_countFrom_89 (by decide) (fun c_89 => ?_) (fun c_89 => ?_)
            · refine lv_iinc (v := nI (wd3 + 1)) (lv' := [(3, .int (nI (wd3 + 1))), (2, .int (nI (ct3 + kc_22))), (0, .ref q0), (1, .int 3)]) hx hb dX1_countFrom_98 hl (k := 1) rfl (nI_add wd3 1) (by decide) rfl (fun ls hl => ?_)
              refine lv_goto (tgt := 19) hx hb dX1_countFrom_101 (by decide) ?_
              exact ih3  ((ct3 + kc_22)) ((wd3 + 1)) fy2_21 fph2_20 f_24 (by omega) (fun h9 => sm_s (G := (fun w9 => cnP (pdA fx ys et gc c1 ql) c0 ql (ql - (3 + 1)) (upd fy 3 (nI w9)))) (hf1_3 h9) ((f_25 h9).trans (cnP_ag pdA_ex _ _ _ (by omega) (cf_ag hgd_8 hgk_9 (by omega))))) (fun h9 => absurd c_89 h9) (fun i9 h9 => (f_27 i9 (by omega)).trans (hgk_9 i9 h9)) (fun k9 h9 => ((f_28 k9 (by omega)).trans (f_17 k9 h9)).trans (hf4_3 k9 h9)) (by omega) _ _ (hP.sub [0, 1, 2, 3, 4, 5, 6, 7, 8, 9, 10, 11, 12, 13, 14, 15, 16, 17, 18] rfl) (hD.sub [0, 1, 2, 3, 4, 5, 6, 7, 8, 9, 10, 11, 12, 13, 14, 15, 16, 17, 18] (by decide +kernel) rfl) hS ls (lv_sub hl [0, 1, 2, 3] rfl)
            · obtain ⟨hct0, hfn0⟩ := hf2_3 c_89
              rcases f_26 c_89 with ⟨hk1, g9, hsm, hrw⟩ | ⟨hk0, hnn⟩
              · refine lv_iload_n hx hb dX1_countFrom_92 rfl (lv_at hl 0 rfl) ?_
                refine lv_if_le (tgt := 98) hx hb dX1_countFrom_93 (by decide) (fun c_30 => ?_) (fun c_30 => ?_)
                · have q_31 : (ct3 + kc_22) ≤ 0 := q_le (a := (ct3 + kc_22)) (b := 0) rfl rfl (by omega) (by omega) c_30
                  exact absurd q_31 (by omega)
                · have q_31 : 0 < (ct3 + kc_22) := q_nle (a := (ct3 + kc_22)) (b := 0) rfl rfl (by omega) (by omega) c_30
                  refine lv_iload_n hx hb dX1_countFrom_96 rfl (lv_at hl 0 rfl) ?_
                  exact x_iret hQ hx hb hr hlocks hK hP hD hS dX1_countFrom_97 (fph2_20, fy2_21, (ct3 + kc_22)) (⟨rfl, f_24, fun h9 => absurd h9 c_89, fun _ => Or.inl ⟨(by show (ct3 + kc_22) = 1; omega), _, (by rw [fd_s hdl]; exact foF_y hfn0 ((fdP_ag pdA_ex _ _ _ (by omega) (cf_ag hgd_8 hgk_9 (by omega))).symm.trans hsm) (by omega)), hrw⟩, (fun i9 h9 => (f_27 i9 (by omega)).trans (hgk_9 i9 h9)), (fun k9 h9 => ((f_28 k9 (by omega)).trans (f_17 k9 h9)).trans (hf4_3 k9 h9))⟩) [0, 1, 2, 3, 4, 5, 6, 7, 8, 9, 10, 11, 12, 13, 14, 15, 16, 17, 18] (by decide +kernel) rfl (Nat.le_of_ble_eq_true rfl) (Nat.le_of_ble_eq_true rfl)
              · refine lv_iload_n hx hb dX1_countFrom_92 rfl (lv_at hl 0 rfl) ?_
                refine lv_if_le (tgt := 98) hx hb dX1_countFrom_93 (by decide) (fun c_32 => ?_) (fun c_32 => ?_)
                · have q_33 : (ct3 + kc_22) ≤ 0 := q_le (a := (ct3 + kc_22)) (b := 0) rfl rfl (by omega) (by omega) c_32
                  refine lv_iinc (v := nI (wd3 + 1)) (lv' := [(3, .int (nI (wd3 + 1))), (2, .int (nI (ct3 + kc_22))), (0, .ref q0), (1, .int 3)]) hx hb dX1_countFrom_98 hl (k := 1) rfl (nI_add wd3 1) (by decide) rfl (fun ls hl => ?_)
                  refine lv_goto (tgt := 19) hx hb dX1_countFrom_101 (by decide) ?_
                  exact ih3  ((ct3 + kc_22)) ((wd3 + 1)) fy2_21 fph2_20 f_24 (by omega) (fun h9 => absurd h9 c_89) (fun _ => ⟨by omega, foF_n hfn0 ((fdP_ag pdA_ex _ _ _ (by omega) (cf_ag hgd_8 hgk_9 (by omega))).symm.trans hnn)⟩) (fun i9 h9 => (f_27 i9 (by omega)).trans (hgk_9 i9 h9)) (fun k9 h9 => ((f_28 k9 (by omega)).trans (f_17 k9 h9)).trans (hf4_3 k9 h9)) (by omega) _ _ (hP.sub [0, 1, 2, 3, 4, 5, 6, 7, 8, 9, 10, 11, 12, 13, 14, 15, 16, 17, 18] rfl) (hD.sub [0, 1, 2, 3, 4, 5, 6, 7, 8, 9, 10, 11, 12, 13, 14, 15, 16, 17, 18] (by decide +kernel) rfl) hS ls (lv_sub hl [0, 1, 2, 3] rfl)
                · have q_33 : 0 < (ct3 + kc_22) := q_nle (a := (ct3 + kc_22)) (b := 0) rfl rfl (by omega) (by omega) c_32
                  exact absurd q_33 (by omega)
          · have q_12 : 3 = (ql - 1) := q_eq (a := 3) (b := (ql - 1)) rfl rfl (by omega) (by omega) c_11
            refine lv_iload_n hx hb dX1_countFrom_49 rfl (lv_at hl 1 rfl) ?_
            refine lv_aload_n hx hb dX1_countFrom_50 rfl (lv_at hl 2 rfl) ?_
            refine lv_iload_n hx hb dX1_countFrom_51 rfl (lv_at hl 3 rfl) ?_
            refine lv_iload_n hx hb dX1_countFrom_52 rfl (lv_at hl 0 rfl) ?_
            refine x_callVi (q := (RX1, TX1, 8)) (ci := 1) (q0 := 0) (wr := [wI (cy 1) q1 5 (g_7)]) (rest := [.int (nI ct3)]) ⟨hx, hb, hml, hown, hg, hl.1⟩ k_X1_62 (s_pardonsWithLast l D cy q0 q1 q2 q3 q4 er ql qo fa3_3 h0 h1 h2 h3 h4 h5 h6 h7 h8 h9 h10 h11 hv1 hv2 hv3 hv4 ys fx fc c0 c1 c2 c3 ea eg ef et el ei gc xc 3 wd3 ((fun c9 => pre9 (gc c9) fy 3)) (ha4_3) (hnx) (hcn) (by omega) (by omega) (by omega) (by omega) (by omega) (by omega) (hcl9) (cf_pt (b := 3 * 4) hpt hf4_3 (by decide) hc1) (fun c9 x9 _ h9 => pre_mem hfy hc0 h9)) E0_blind hK hP hD hS hA [0, 1, 3, 4, 5, 6, 7, 8, 9, 10, 11, 12, 13, 14, 15, 16, 17, 18] [2] ⟨rfl, rfl, by decide +kernel, by decide +kernel, by decide +kernel⟩ rfl rfl (fun _ _ _ => trivial) dX1_countFrom_53 rfl rfl (Nat.le_of_ble_eq_true rfl) ⟨Nat.le_of_ble_eq_true rfl, Nat.le_of_ble_eq_true rfl⟩ ⟨Nat.le_of_ble_eq_true rfl, Nat.le_of_ble_eq_true rfl⟩ (fun zr34 zu34 H locs hw34 hP9 hD9 hS9 => ?_)
            clear hP hD hS
            refine reW [wI (cy 1) q1 5 (g_7), wO q0 1 [.ref q1, .ref er, .ref q2, .ref q3, .ref q4, .ref h0, .int (nI ql), .int qo], wI (cy 1) q2 24 (fa3_3), wO h0 4 [.ref h1, .ref h2, .ref h3, .ref h4, .ref h5, .ref h6, .ref h7, .ref h8, .ref h9, .ref h10, .ref h11, .int ys, hv1, hv2, hv3, hv4], wI (cy 1) h7 48 (fx), wI (cy 1) h1 4 (fc), (er, .inl (cy 4, 4, .inr (.inr (.inr (.inr (eF (ea 0) (ea 1) (ea 2) (ea 3))))))), wO (ea 0) 2 [.ref (eg 0), .ref (ef 0), .int (et 0), .int (nI (el 0)), .int (nI (ei 0))], wI (cy 1) (eg 0) 10 (gc 0), wI (cy 1) (ef 0) 7 (xc 0), wO (ea 1) 2 [.ref (eg 1), .ref (ef 1), .int (et 1), .int (nI (el 1)), .int (nI (ei 1))], wI (cy 1) (eg 1) 10 (gc 1), wI (cy 1) (ef 1) 7 (xc 1), wO (ea 2) 2 [.ref (eg 2), .ref (ef 2), .int (et 2), .int (nI (el 2)), .int (nI (ei 2))], wI (cy 1) (eg 2) 10 (gc 2), wI (cy 1) (ef 2) 7 (xc 2), wO (ea 3) 2 [.ref (eg 3), .ref (ef 3), .int (et 3), .int (nI (el 3)), .int (nI (ei 3))], wI (cy 1) (eg 3) 10 (gc 3), wI (cy 1) (ef 3) 7 (xc 3)] hP9 hD9 hS9 (fun hP hD hS => ?_)
            clear hP9 hD9 hS9
            refine W.widen (k := 0) (n := 0) (Nat.le_of_ble_eq_true rfl) (Nat.le_of_ble_eq_true rfl) ?_
            replace hw34 : (zr34 = 0 ∨ zr34 = 1) ∧ (bR zr34 (alF (fun c9 => pdL fx ys (et c9) (nxL (gc c9) 3 wd3 (((fun c9 => pre9 (gc c9) fy 3)) c9))) c1)) := hw34
            obtain ⟨f_35, f_36⟩ := hw34
            have hPv_37 : bR zr34 ((pdA fx ys et gc c1 ql) (upd fy 3 (nI wd3))) := by rw [pdA_s (by omega)]; exact f_36
            refine lv_if_eq (tgt := 63) hx hb dX1_countFrom_56 (by decide) (fun c_56 => ?_) (fun c_56 => ?_)
            · refine lv_iconst (v := 0) hx hb dX1_countFrom_63 (by decide) ?_
              refine lv_iadd hx hb dX1_countFrom_64 ?_
              refine lv_topi (fun y_38 hy_38 => ?_)
              obtain rfl : y_38 = nI (ct3 + 0) := hy_38.trans (nI_add ct3 0)
              refine lv_istore_n (lv' := [(2, .int (nI (ct3 + 0))), (3, .int (nI wd3)), (0, .ref q0), (1, .int 3)]) hx hb dX1_countFrom_65 rfl hl (by decide) rfl (fun ls hl => ?_)
              refine lv_goto (tgt := 85) hx hb dX1_countFrom_66 (by decide) ?_
              refine lv_aload_n hx hb dX1_countFrom_85 rfl (lv_at hl 2 rfl) ?_
              refine va_get (D := D) (ci := 1) (v := .int qo) (C := RX1) (T := TX1) (N := 8) hx hb hg i_X1 hown hK hP 1 rfl rfl 7 (by decide) (hg _ m_560) (fun _ h9 => h9) rfl dX1_countFrom_86 ?_
              refine lv_if_eq (tgt := 98) hx hb dX1_countFrom_89 (by decide) (fun c_89 => ?_) (fun c_89 => ?_)
              · refine lv_iinc (v := nI (wd3 + 1)) (lv' := [(3, .int (nI (wd3 + 1))), (2, .int (nI (ct3 + 0))), (0, .ref q0), (1, .int 3)]) hx hb dX1_countFrom_98 hl (k := 1) rfl (nI_add wd3 1) (by decide) rfl (fun ls hl => ?_)
                refine lv_goto (tgt := 19) hx hb dX1_countFrom_101 (by decide) ?_
                exact ih3  ((ct3 + 0)) ((wd3 + 1)) g_7 fa3_3 ha4_3 (by omega) (fun h9 => sm_s (G := (fun w9 => cnP (pdA fx ys et gc c1 ql) c0 ql (ql - (3 + 1)) (upd fy 3 (nI w9)))) (hf1_3 h9) (cn_l0 (by omega) (bR_f hPv_37 c_56))) (fun h9 => absurd c_89 h9) (hgk_9) (hf4_3) (by omega) _ _ (hP.sub [1, 2, 0, 3, 4, 5, 6, 7, 8, 9, 10, 11, 12, 13, 14, 15, 16, 17, 18] rfl) (hD.sub [1, 2, 0, 3, 4, 5, 6, 7, 8, 9, 10, 11, 12, 13, 14, 15, 16, 17, 18] (by decide +kernel) rfl) hS ls (lv_sub hl [0, 1, 2, 3] rfl)
              · obtain ⟨hct0, hfn0⟩ := hf2_3 c_89
                refine lv_iload_n hx hb dX1_countFrom_92 rfl (lv_at hl 0 rfl) ?_
                refine lv_if_le (tgt := 98) hx hb dX1_countFrom_93 (by decide) (fun c_39 => ?_) (fun c_39 => ?_)
                · have q_40 : (ct3 + 0) ≤ 0 := q_le (a := (ct3 + 0)) (b := 0) rfl rfl (by omega) (by omega) c_39
                  refine lv_iinc (v := nI (wd3 + 1)) (lv' := [(3, .int (nI (wd3 + 1))), (2, .int (nI (ct3 + 0))), (0, .ref q0), (1, .int 3)]) hx hb dX1_countFrom_98 hl (k := 1) rfl (nI_add wd3 1) (by decide) rfl (fun ls hl => ?_)
                  refine lv_goto (tgt := 19) hx hb dX1_countFrom_101 (by decide) ?_
                  exact ih3  ((ct3 + 0)) ((wd3 + 1)) g_7 fa3_3 ha4_3 (by omega) (fun h9 => absurd h9 c_89) (fun _ => ⟨by omega, foF_n hfn0 (fd_l0 (by omega) (bR_f hPv_37 c_56))⟩) (hgk_9) (hf4_3) (by omega) _ _ (hP.sub [1, 2, 0, 3, 4, 5, 6, 7, 8, 9, 10, 11, 12, 13, 14, 15, 16, 17, 18] rfl) (hD.sub [1, 2, 0, 3, 4, 5, 6, 7, 8, 9, 10, 11, 12, 13, 14, 15, 16, 17, 18] (by decide +kernel) rfl) hS ls (lv_sub hl [0, 1, 2, 3] rfl)
                · have q_40 : 0 < (ct3 + 0) := q_nle (a := (ct3 + 0)) (b := 0) rfl rfl (by omega) (by omega) c_39
                  exact absurd q_40 (by omega)
            · refine lv_iconst (v := 1) hx hb dX1_countFrom_59 (by decide) ?_
              refine lv_goto (tgt := 64) hx hb dX1_countFrom_60 (by decide) ?_
              refine lv_iadd hx hb dX1_countFrom_64 ?_
              refine lv_topi (fun y_41 hy_41 => ?_)
              obtain rfl : y_41 = nI (ct3 + 1) := hy_41.trans (nI_add ct3 1)
              refine lv_istore_n (lv' := [(2, .int (nI (ct3 + 1))), (3, .int (nI wd3)), (0, .ref q0), (1, .int 3)]) hx hb dX1_countFrom_65 rfl hl (by decide) rfl (fun ls hl => ?_)
              refine lv_goto (tgt := 85) hx hb dX1_countFrom_66 (by decide) ?_
              refine lv_aload_n hx hb dX1_countFrom_85 rfl (lv_at hl 2 rfl) ?_
              refine va_get (D := D) (ci := 1) (v := .int qo) (C := RX1) (T := TX1) (N := 8) hx hb hg i_X1 hown hK hP 1 rfl rfl 7 (by decide) (hg _ m_560) (fun _ h9 => h9) rfl dX1_countFrom_86 ?_
              refine lv_if_eq (tgt := 98) hx hb dX1_countFrom_89 (by decide) (fun c_89 => ?_) (fun c_89 => ?_)
              · refine lv_iinc (v := nI (wd3 + 1)) (lv' := [(3, .int (nI (wd3 + 1))), (2, .int (nI (ct3 + 1))), (0, .ref q0), (1, .int 3)]) hx hb dX1_countFrom_98 hl (k := 1) rfl (nI_add wd3 1) (by decide) rfl (fun ls hl => ?_)
                refine lv_goto (tgt := 19) hx hb dX1_countFrom_101 (by decide) ?_
                exact ih3  ((ct3 + 1)) ((wd3 + 1)) g_7 fa3_3 ha4_3 (by omega) (fun h9 => sm_s (G := (fun w9 => cnP (pdA fx ys et gc c1 ql) c0 ql (ql - (3 + 1)) (upd fy 3 (nI w9)))) (hf1_3 h9) (cn_l1 (by omega) (bR_t hPv_37 c_56))) (fun h9 => absurd c_89 h9) (hgk_9) (hf4_3) (by omega) _ _ (hP.sub [1, 2, 0, 3, 4, 5, 6, 7, 8, 9, 10, 11, 12, 13, 14, 15, 16, 17, 18] rfl) (hD.sub [1, 2, 0, 3, 4, 5, 6, 7, 8, 9, 10, 11, 12, 13, 14, 15, 16, 17, 18] (by decide +kernel) rfl) hS ls (lv_sub hl [0, 1, 2, 3] rfl)
              · obtain ⟨hct0, hfn0⟩ := hf2_3 c_89
                refine lv_iload_n hx hb dX1_countFrom_92 rfl (lv_at hl 0 rfl) ?_
                refine lv_if_le (tgt := 98) hx hb dX1_countFrom_93 (by decide) (fun c_42 => ?_) (fun c_42 => ?_)
                · have q_43 : (ct3 + 1) ≤ 0 := q_le (a := (ct3 + 1)) (b := 0) rfl rfl (by omega) (by omega) c_42
                  exact absurd q_43 (by omega)
                · have q_43 : 0 < (ct3 + 1) := q_nle (a := (ct3 + 1)) (b := 0) rfl rfl (by omega) (by omega) c_42
                  refine lv_iload_n hx hb dX1_countFrom_96 rfl (lv_at hl 0 rfl) ?_
                  exact x_iret hQ hx hb hr hlocks hK hP hD hS dX1_countFrom_97 (fa3_3, g_7, (ct3 + 1)) (⟨rfl, ha4_3, fun h9 => absurd h9 c_89, fun _ => Or.inl ⟨(by show (ct3 + 1) = 1; omega), _, (by rw [fd_s hdl]; exact foF_y hfn0 (fd_l1 (by omega) (bR_t hPv_37 c_56)) (by omega)), (cf_tr hgd_8 hgk_9 (by omega))⟩, (hgk_9), (hf4_3)⟩) [1, 2, 0, 3, 4, 5, 6, 7, 8, 9, 10, 11, 12, 13, 14, 15, 16, 17, 18] (by decide +kernel) rfl (Nat.le_of_ble_eq_true rfl) (Nat.le_of_ble_eq_true rfl)
    exact loop3 _ 0 0 fy fph hph (by omega) (fun _ => rfl) (fun _ => ⟨rfl, rfl⟩) (fun i9 h9 => rfl) (fun k9 h9 => rfl) (Nat.le_refl _) _ _ (hP.sub [0, 1, 2, 3, 4, 5, 6, 7, 8, 9, 10, 11, 12, 13, 14, 15, 16, 17, 18] rfl) (hD.sub [0, 1, 2, 3, 4, 5, 6, 7, 8, 9, 10, 11, 12, 13, 14, 15, 16, 17, 18] (by decide +kernel) rfl) hS ls (lv_sub hl [0, 1, 2, 3] rfl)
set_option maxHeartbeats 1000000 in
set_option maxRecDepth 100000 in
theorem s_countFrom2 (l : Launch) (D : va_G) (cy : Nat → ClassId) (q0 : Nat) (q1 : Nat) (q2 : Nat) (q3 : Nat) (q4 : Nat) (er : Nat) (ql : Nat) (qo : Int32) (fph : Nat → Int32) (fy : Nat → Int32) (h0 : Nat) (h1 : Nat) (h2 : Nat) (h3 : Nat) (h4 : Nat) (h5 : Nat) (h6 : Nat) (h7 : Nat) (h8 : Nat) (h9 : Nat) (h10 : Nat) (h11 : Nat) (hv1 : Value) (hv2 : Value) (hv3 : Value) (hv4 : Value) (ys : Int32) (fx : Nat → Int32) (fc : Nat → Int32) (c0 : Nat) (c1 : Nat) (c2 : Nat) (c3 : Nat) (ea : Nat → Nat) (eg : Nat → Nat) (ef : Nat → Nat) (et : Nat → Int32) (el : Nat → Nat) (ei : Nat → Nat) (gc : Nat → Nat → Int32) (xc : Nat → Nat → Int32) (hph : pRow fph) (hnx : rng fx 48 5) (hcn : cntOK fc c0 c1 c2 c3) (hc0 : c0 ≤ 8) (hc1 : c1 ≤ 4) (hc2 : c2 ≤ 4) (hc3 : c3 ≤ 6) (hql : ql ≤ 5) (hdl : 2 < ql) (hcl9 : cl9 fx ys c3) (hfy : okW c0 fy 2) (hpt : ∀ c9 : Nat, c9 < c1 → ptR fx c3 (et c9) (pre9 (gc c9) fy 2) (fph (2 * 4 + c9)).toNatClampNeg) : XMi l D (tyL cy) E0 yX1_countFrom cX1_countFrom 4 (some .int) (rmk 8 0 0) [.ref q0, .int 2] [wO q0 1 [.ref q1, .ref er, .ref q2, .ref q3, .ref q4, .ref h0, .int (nI ql), .int qo], wI (cy 1) q2 24 (fph), wI (cy 1) q1 5 (fy), wO h0 4 [.ref h1, .ref h2, .ref h3, .ref h4, .ref h5, .ref h6, .ref h7, .ref h8, .ref h9, .ref h10, .ref h11, .int ys, hv1, hv2, hv3, hv4], wI (cy 1) h7 48 (fx), wI (cy 1) h1 4 (fc), (er, .inl (cy 4, 4, .inr (.inr (.inr (.inr (eF (ea 0) (ea 1) (ea 2) (ea 3))))))), wO (ea 0) 2 [.ref (eg 0), .ref (ef 0), .int (et 0), .int (nI (el 0)), .int (nI (ei 0))], wI (cy 1) (eg 0) 10 (gc 0), wI (cy 1) (ef 0) 7 (xc 0), wO (ea 1) 2 [.ref (eg 1), .ref (ef 1), .int (et 1), .int (nI (el 1)), .int (nI (ei 1))], wI (cy 1) (eg 1) 10 (gc 1), wI (cy 1) (ef 1) 7 (xc 1), wO (ea 2) 2 [.ref (eg 2), .ref (ef 2), .int (et 2), .int (nI (el 2)), .int (nI (ei 2))], wI (cy 1) (eg 2) 10 (gc 2), wI (cy 1) (ef 2) 7 (xc 2), wO (ea 3) 2 [.ref (eg 3), .ref (ef 3), .int (et 3), .int (nI (el 3)), .int (nI (ei 3))], wI (cy 1) (eg 3) 10 (gc 3), wI (cy 1) (ef 3) 7 (xc 3)] (fun (r : Int32) (u : (Nat → Int32) × (Nat → Int32) × Nat) => (r = nI u.2.2) ∧ (pRow u.1) ∧ (qo = 0 → u.2.2 = cnP (pdA fx ys et gc c1 ql) c0 ql (ql - 2) fy) ∧ (¬ qo = 0 → (u.2.2 = 1 ∧ ∃ g9, fdP (pdA fx ys et gc c1 ql) c0 ql (ql - 2) fy = some g9 ∧ ∀ i9, i9 < ql → u.2.1 i9 = g9 i9) ∨ (u.2.2 = 0 ∧ fdP (pdA fx ys et gc c1 ql) c0 ql (ql - 2) fy = none)) ∧ (∀ i9, i9 < 2 → u.2.1 i9 = fy i9) ∧ (∀ k9 : Nat, k9 < (2 + 1) * 4 → u.1 k9 = fph k9)) (fun (u : (Nat → Int32) × (Nat → Int32) × Nat) => [wO q0 1 [.ref q1, .ref er, .ref q2, .ref q3, .ref q4, .ref h0, .int (nI ql), .int qo], wI (cy 1) q2 24 (u.1), wI (cy 1) q1 5 (u.2.1), wO h0 4 [.ref h1, .ref h2, .ref h3, .ref h4, .ref h5, .ref h6, .ref h7, .ref h8, .ref h9, .ref h10, .ref h11, .int ys, hv1, hv2, hv3, hv4], wI (cy 1) h7 48 (fx), wI (cy 1) h1 4 (fc), (er, .inl (cy 4, 4, .inr (.inr (.inr (.inr (eF (ea 0) (ea 1) (ea 2) (ea 3))))))), wO (ea 0) 2 [.ref (eg 0), .ref (ef 0), .int (et 0), .int (nI (el 0)), .int (nI (ei 0))], wI (cy 1) (eg 0) 10 (gc 0), wI (cy 1) (ef 0) 7 (xc 0), wO (ea 1) 2 [.ref (eg 1), .ref (ef 1), .int (et 1), .int (nI (el 1)), .int (nI (ei 1))], wI (cy 1) (eg 1) 10 (gc 1), wI (cy 1) (ef 1) 7 (xc 1), wO (ea 2) 2 [.ref (eg 2), .ref (ef 2), .int (et 2), .int (nI (el 2)), .int (nI (ei 2))], wI (cy 1) (eg 2) 10 (gc 2), wI (cy 1) (ef 2) 7 (xc 2), wO (ea 3) 2 [.ref (eg 3), .ref (ef 3), .int (et 3), .int (nI (el 3)), .int (nI (ei 3))], wI (cy 1) (eg 3) 10 (gc 3), wI (cy 1) (ef 3) 7 (xc 3)]) := by
  refine XMi.start (by decide) (Nat.le_of_ble_eq_true rfl) ?_
  intro p e s m below meth c args A ls Q hat hQ
  obtain ⟨hx, hb, hr, hml, hown, hg, hlocks, hin, hK, hA, hP, hD, hS, hE, hl⟩ := hat
  have hown : s.vm.findClass RX1 = some m.cls := hown
  have hl : lv_has ls 4 [(0, .ref q0), (1, .int 2)] := hl
  refine lv_iconst (v := 0) hx hb dX1_countFrom_0 (by decide) ?_
  refine lv_istore_n (lv' := [(2, .int 0), (0, .ref q0), (1, .int 2)]) hx hb dX1_countFrom_1 rfl hl (by decide) rfl (fun ls hl => ?_)
  refine lv_iload_n hx hb dX1_countFrom_2 rfl (lv_at hl 2 rfl) ?_
  refine lv_aload_n hx hb dX1_countFrom_3 rfl (lv_at hl 1 rfl) ?_
  refine va_get (D := D) (ci := 1) (v := .int (nI ql)) (C := RX1) (T := TX1) (N := 8) hx hb hg i_X1 hown hK hP 0 rfl rfl 6 (by decide) (hg _ m_559) (fun _ h9 => h9) rfl dX1_countFrom_4 ?_
  refine lv_icmp_ge (tgt := 15) hx hb dX1_countFrom_7 (by decide) (fun c_1 => ?_) (fun c_1 => ?_)
  · have q_2 : ql ≤ 2 := q_le (a := ql) (b := 2) rfl rfl (by omega) (by omega) c_1
    exact absurd q_2 (by omega)
  · have q_2 : 2 < ql := q_nle (a := ql) (b := 2) rfl rfl (by omega) (by omega) c_1
    refine lv_iload_n hx hb dX1_countFrom_10 rfl (lv_at hl 2 rfl) ?_
    refine lv_iconst (v := 5) hx hb dX1_countFrom_11 (by decide) ?_
    refine lv_icmp_lt (tgt := 17) hx hb dX1_countFrom_12 (by decide) (fun _ => ?_) (fun h => absurd (by decide) h)
    refine lv_iconst (v := 0) hx hb dX1_countFrom_17 (by decide) ?_
    refine lv_istore_n (lv' := [(3, .int 0), (2, .int 0), (0, .ref q0), (1, .int 2)]) hx hb dX1_countFrom_18 rfl hl (by decide) rfl (fun ls hl => ?_)
    have loop3 : ∀ (zn : Nat) (ct3 : Nat) (wd3 : Nat) (fa2_3 : Nat → Int32) (fa3_3 : Nat → Int32), (pRow fa3_3) → (wd3 ≤ c0) → (qo = 0 → ct3 = smF (fun w9 => cnP (pdA fx ys et gc c1 ql) c0 ql (ql - (2 + 1)) (upd fy 2 (nI w9))) wd3) → (¬ qo = 0 → ct3 = 0 ∧ foF (fun w9 => fdP (pdA fx ys et gc c1 ql) c0 ql (ql - (2 + 1)) (upd fy 2 (nI w9))) wd3 = none) → (∀ i9 : Nat, i9 < 2 → fa2_3 i9 = fy i9) → (∀ k9 : Nat, k9 < (2 + 1) * 4 → fa3_3 k9 = fph k9) → c0 - wd3 + 1 ≤ zn → ∀ (H : Heap) (locs : List Loc), va_P D vwCl [wO q0 1 [.ref q1, .ref er, .ref q2, .ref q3, .ref q4, .ref h0, .int (nI ql), .int qo], wI (cy 1) q2 24 (fa3_3), wI (cy 1) q1 5 (fa2_3), wO h0 4 [.ref h1, .ref h2, .ref h3, .ref h4, .ref h5, .ref h6, .ref h7, .ref h8, .ref h9, .ref h10, .ref h11, .int ys, hv1, hv2, hv3, hv4], wI (cy 1) h7 48 (fx), wI (cy 1) h1 4 (fc), (er, .inl (cy 4, 4, .inr (.inr (.inr (.inr (eF (ea 0) (ea 1) (ea 2) (ea 3))))))), wO (ea 0) 2 [.ref (eg 0), .ref (ef 0), .int (et 0), .int (nI (el 0)), .int (nI (ei 0))], wI (cy 1) (eg 0) 10 (gc 0), wI (cy 1) (ef 0) 7 (xc 0), wO (ea 1) 2 [.ref (eg 1), .ref (ef 1), .int (et 1), .int (nI (el 1)), .int (nI (ei 1))], wI (cy 1) (eg 1) 10 (gc 1), wI (cy 1) (ef 1) 7 (xc 1), wO (ea 2) 2 [.ref (eg 2), .ref (ef 2), .int (et 2), .int (nI (el 2)), .int (nI (ei 2))], wI (cy 1) (eg 2) 10 (gc 2), wI (cy 1) (ef 2) 7 (xc 2), wO (ea 3) 2 [.ref (eg 3), .ref (ef 3), .int (et 3), .int (nI (el 3)), .int (nI (ei 3))], wI (cy 1) (eg 3) 10 (gc 3), wI (cy 1) (ef 3) 7 (xc 3)] H → va_D A [wO q0 1 [.ref q1, .ref er, .ref q2, .ref q3, .ref q4, .ref h0, .int (nI ql), .int qo], wI (cy 1) q2 24 (fa3_3), wI (cy 1) q1 5 (fa2_3), wO h0 4 [.ref h1, .ref h2, .ref h3, .ref h4, .ref h5, .ref h6, .ref h7, .ref h8, .ref h9, .ref h10, .ref h11, .int ys, hv1, hv2, hv3, hv4], wI (cy 1) h7 48 (fx), wI (cy 1) h1 4 (fc), (er, .inl (cy 4, 4, .inr (.inr (.inr (.inr (eF (ea 0) (ea 1) (ea 2) (ea 3))))))), wO (ea 0) 2 [.ref (eg 0), .ref (ef 0), .int (et 0), .int (nI (el 0)), .int (nI (ei 0))], wI (cy 1) (eg 0) 10 (gc 0), wI (cy 1) (ef 0) 7 (xc 0), wO (ea 1) 2 [.ref (eg 1), .ref (ef 1), .int (et 1), .int (nI (el 1)), .int (nI (ei 1))], wI (cy 1) (eg 1) 10 (gc 1), wI (cy 1) (ef 1) 7 (xc 1), wO (ea 2) 2 [.ref (eg 2), .ref (ef 2), .int (et 2), .int (nI (el 2)), .int (nI (ei 2))], wI (cy 1) (eg 2) 10 (gc 2), wI (cy 1) (ef 2) 7 (xc 2), wO (ea 3) 2 [.ref (eg 3), .ref (ef 3), .int (et 3), .int (nI (el 3)), .int (nI (ei 3))], wI (cy 1) (eg 3) 10 (gc 3), wI (cy 1) (ef 3) 7 (xc 3)] → va_S A s.heap H locs → ∀ ls : Array Slot, lv_has ls 4 [(3, .int (nI wd3)), (2, .int (nI ct3)), (0, .ref q0), (1, .int 2)] → W p l e (rmk 8 0 0) s m args below meth c H locs 0 0 Q (F0 m 19 ls []) := by
      try clear hP hD hS
      intro zn
      induction zn with
      | zero => intro ct3 wd3 fa2_3 fa3_3 _ _ _ _ _ _ hz; exact absurd hz (by omega)
      | succ zn ih3 =>
        intro ct3 wd3 fa2_3 fa3_3 ha4_3 hf0_3 hf1_3 hf2_3 hf3_3 hf4_3 hmu3 H locs hP hD hS ls hl
        refine lv_iload_n hx hb dX1_countFrom_19 rfl (lv_at hl 0 rfl) ?_
        refine lv_aload_n hx hb dX1_countFrom_20 rfl (lv_at hl 2 rfl) ?_
        refine va_get (D := D) (ci := 1) (v := .ref h0) (C := RX1) (T := TX1) (N := 8) hx hb hg i_X1 hown hK hP 0 rfl rfl 5 (by decide) (hg _ m_558) (fun _ h9 => h9) rfl dX1_countFrom_21 ?_
        refine va_get (D := D) (ci := 4) (v := .ref h1) (C := RX4) (T := TX4) (N := 16) hx hb hg i_X4 hown hK hP 3 rfl rfl 0 (by decide) (hg _ m_331) (fun _ h9 => h9) rfl dX1_countFrom_24 ?_
        refine lv_iconst (v := 0) hx hb dX1_countFrom_27 (by decide) ?_
        refine va_iald hx hb hK hP 5 1 rfl rfl (by unfold vp_in; decide) dX1_countFrom_28 ?_
        refine lv_topi (fun y_4 hy_4 => ?_)
        obtain rfl : y_4 = nI c0 := hy_4.trans hcn.1
        refine lv_icmp_ge (tgt := 104) hx hb dX1_countFrom_29 (by decide) (fun c_5 => ?_) (fun c_5 => ?_)
        · have q_6 : c0 ≤ wd3 := q_le (a := c0) (b := wd3) rfl rfl (by omega) (by omega) c_5
          refine lv_iload_n hx hb dX1_countFrom_104 rfl (lv_at hl 1 rfl) ?_
          exact x_iret hQ hx hb hr hlocks hK hP hD hS dX1_countFrom_105 (fa3_3, fa2_3, ct3) (⟨rfl, ha4_3, fun h9 => (hf1_3 h9).trans (by rw [show wd3 = c0 by omega]; exact (cn_s hdl).symm), fun h9 => Or.inr ⟨(hf2_3 h9).1, (by have h8 := (hf2_3 h9).2; rw [show wd3 = c0 by omega] at h8; rw [fd_s hdl]; exact h8)⟩, (hf3_3), (hf4_3)⟩) [0, 1, 2, 3, 4, 5, 6, 7, 8, 9, 10, 11, 12, 13, 14, 15, 16, 17, 18] (by decide +kernel) rfl (Nat.le_of_ble_eq_true rfl) (Nat.le_of_ble_eq_true rfl)
        · have q_6 : wd3 < c0 := q_nle (a := c0) (b := wd3) rfl rfl (by omega) (by omega) c_5
          refine lv_aload_n hx hb dX1_countFrom_32 rfl (lv_at hl 2 rfl) ?_
          refine va_get (D := D) (ci := 1) (v := .ref q1) (C := RX1) (T := TX1) (N := 8) hx hb hg i_X1 hown hK hP 0 rfl rfl 0 (by decide) (hg _ m_552) (fun _ h9 => h9) rfl dX1_countFrom_33 ?_
          refine lv_iload_n hx hb dX1_countFrom_36 rfl (lv_at hl 3 rfl) ?_
          refine lv_iload_n hx hb dX1_countFrom_37 rfl (lv_at hl 0 rfl) ?_
          refine va_iast hx hb hK hP hD hS 2 1 rfl rfl (by unfold vp_in; decide) dX1_countFrom_38 (fun H locs hP9 hD9 hS9 => ?_)
          clear hP hD hS
          obtain ⟨g_7, eg_7⟩ : ∃ y, upd fa2_3 (2 : Int32).toNatClampNeg (nI wd3) = y := ⟨_, rfl⟩
          rw [eg_7] at hP9 hD9
          refine reW [wO q0 1 [.ref q1, .ref er, .ref q2, .ref q3, .ref q4, .ref h0, .int (nI ql), .int qo], wI (cy 1) q2 24 (fa3_3), wI (cy 1) q1 5 (g_7), wO h0 4 [.ref h1, .ref h2, .ref h3, .ref h4, .ref h5, .ref h6, .ref h7, .ref h8, .ref h9, .ref h10, .ref h11, .int ys, hv1, hv2, hv3, hv4], wI (cy 1) h7 48 (fx), wI (cy 1) h1 4 (fc), (er, .inl (cy 4, 4, .inr (.inr (.inr (.inr (eF (ea 0) (ea 1) (ea 2) (ea 3))))))), wO (ea 0) 2 [.ref (eg 0), .ref (ef 0), .int (et 0), .int (nI (el 0)), .int (nI (ei 0))], wI (cy 1) (eg 0) 10 (gc 0), wI (cy 1) (ef 0) 7 (xc 0), wO (ea 1) 2 [.ref (eg 1), .ref (ef 1), .int (et 1), .int (nI (el 1)), .int (nI (ei 1))], wI (cy 1) (eg 1) 10 (gc 1), wI (cy 1) (ef 1) 7 (xc 1), wO (ea 2) 2 [.ref (eg 2), .ref (ef 2), .int (et 2), .int (nI (el 2)), .int (nI (ei 2))], wI (cy 1) (eg 2) 10 (gc 2), wI (cy 1) (ef 2) 7 (xc 2), wO (ea 3) 2 [.ref (eg 3), .ref (ef 3), .int (et 3), .int (nI (el 3)), .int (nI (ei 3))], wI (cy 1) (eg 3) 10 (gc 3), wI (cy 1) (ef 3) 7 (xc 3)] hP9 hD9 hS9 (fun hP hD hS => ?_)
          clear hP9 hD9 hS9
          have hgd_8 := cf_at (k := 2) (by decide) eg_7
          have hgk_9 := cf_kp (k := 2) (by decide) hf3_3 eg_7
          refine lv_iload_n hx hb dX1_countFrom_39 rfl (lv_at hl 3 rfl) ?_
          refine lv_aload_n hx hb dX1_countFrom_40 rfl (lv_at hl 2 rfl) ?_
          refine va_get (D := D) (ci := 1) (v := .int (nI ql)) (C := RX1) (T := TX1) (N := 8) hx hb hg i_X1 hown hK hP 0 rfl rfl 6 (by decide) (hg _ m_559) (fun _ h9 => h9) rfl dX1_countFrom_41 ?_
          refine lv_iconst (v := 1) hx hb dX1_countFrom_44 (by decide) ?_
          refine lv_isub hx hb dX1_countFrom_45 ?_
          refine lv_topi (fun y_10 hy_10 => ?_)
          obtain rfl : y_10 = nI (ql - 1) := hy_10.trans (pk_sub (a := ql) (b := 1) (by omega))
          refine lv_icmp_ne (tgt := 69) hx hb dX1_countFrom_46 (by decide) (fun c_11 => ?_) (fun c_11 => ?_)
          · have q_12 : ¬ 2 = (ql - 1) := q_ne (a := 2) (b := (ql - 1)) rfl rfl (by omega) (by omega) c_11
            refine lv_aload_n hx hb dX1_countFrom_69 rfl (lv_at hl 2 rfl) ?_
            refine lv_iload_n hx hb dX1_countFrom_70 rfl (lv_at hl 3 rfl) ?_
            refine lv_iload_n hx hb dX1_countFrom_71 rfl (lv_at hl 0 rfl) ?_
            refine x_callVv (q := (RX1, TX1, 8)) (ci := 1) (q0 := 0) (wr := [wI (cy 1) q1 5 (g_7)]) (rest := []) ⟨hx, hb, hml, hown, hg, hl.1⟩ k_X1_66 (s_goOn l D cy q0 q1 q2 q3 q4 er ql qo fa3_3 h0 h1 h2 h3 h4 h5 h6 h7 h8 h9 h10 h11 ((.int ys)) hv1 hv2 hv3 hv4 fx fc c0 c1 c2 c3 ea eg ef et el ei gc xc 2 wd3 ((fun c9 => pre9 (gc c9) fy 2)) (ha4_3) (hnx) (hcn) (by omega) (by omega) (by omega) (by omega) (by omega) (by omega) (hcl9.1) (cf_pt (b := 2 * 4) hpt hf4_3 (by decide) hc1)) E0_blind hK hP hD hS hA [0, 1, 3, 4, 5, 6, 7, 8, 9, 10, 11, 12, 13, 14, 15, 16, 17, 18] [2] ⟨rfl, rfl, by decide +kernel, by decide +kernel, by decide +kernel⟩ rfl rfl (fun _ _ _ => trivial) dX1_countFrom_72 rfl rfl (Nat.le_of_ble_eq_true rfl) ⟨Nat.le_of_ble_eq_true rfl, Nat.le_of_ble_eq_true rfl⟩ ⟨Nat.le_of_ble_eq_true rfl, Nat.le_of_ble_eq_true rfl⟩ (fun zu13 H locs hw13 hP9 hD9 hS9 => ?_)
            clear hP hD hS
            obtain ⟨fph2_14, rfl⟩ : ∃ z, z = zu13 := ⟨_, rfl⟩
            refine reW [wI (cy 1) q1 5 (g_7), wO q0 1 [.ref q1, .ref er, .ref q2, .ref q3, .ref q4, .ref h0, .int (nI ql), .int qo], wI (cy 1) q2 24 (fph2_14), wO h0 4 [.ref h1, .ref h2, .ref h3, .ref h4, .ref h5, .ref h6, .ref h7, .ref h8, .ref h9, .ref h10, .ref h11, .int ys, hv1, hv2, hv3, hv4], wI (cy 1) h7 48 (fx), wI (cy 1) h1 4 (fc), (er, .inl (cy 4, 4, .inr (.inr (.inr (.inr (eF (ea 0) (ea 1) (ea 2) (ea 3))))))), wO (ea 0) 2 [.ref (eg 0), .ref (ef 0), .int (et 0), .int (nI (el 0)), .int (nI (ei 0))], wI (cy 1) (eg 0) 10 (gc 0), wI (cy 1) (ef 0) 7 (xc 0), wO (ea 1) 2 [.ref (eg 1), .ref (ef 1), .int (et 1), .int (nI (el 1)), .int (nI (ei 1))], wI (cy 1) (eg 1) 10 (gc 1), wI (cy 1) (ef 1) 7 (xc 1), wO (ea 2) 2 [.ref (eg 2), .ref (ef 2), .int (et 2), .int (nI (el 2)), .int (nI (ei 2))], wI (cy 1) (eg 2) 10 (gc 2), wI (cy 1) (ef 2) 7 (xc 2), wO (ea 3) 2 [.ref (eg 3), .ref (ef 3), .int (et 3), .int (nI (el 3)), .int (nI (ei 3))], wI (cy 1) (eg 3) 10 (gc 3), wI (cy 1) (ef 3) 7 (xc 3)] hP9 hD9 hS9 (fun hP hD hS => ?_)
            clear hP9 hD9 hS9
            refine W.widen (k := 0) (n := 0) (Nat.le_of_ble_eq_true rfl) (Nat.le_of_ble_eq_true rfl) ?_
            replace hw13 : (pRow fph2_14) ∧ (∀ c9 : Nat, c9 < c1 → ptR fx c3 (et c9) (nxL (gc c9) 2 wd3 (((fun c9 => pre9 (gc c9) fy 2)) c9)) (fph2_14 ((2 + 1) * 4 + c9)).toNatClampNeg) ∧ (∀ k9 : Nat, k9 < (2 + 1) * 4 → fph2_14 k9 = fa3_3 k9) := hw13
            obtain ⟨f_15, f_16, f_17⟩ := hw13
            refine lv_iload_n hx hb dX1_countFrom_75 rfl (lv_at hl 1 rfl) ?_
            refine lv_aload_n hx hb dX1_countFrom_76 rfl (lv_at hl 2 rfl) ?_
            refine lv_iload_n hx hb dX1_countFrom_77 rfl (lv_at hl 3 rfl) ?_
            refine lv_iconst (v := 1) hx hb dX1_countFrom_78 (by decide) ?_
            refine lv_iadd hx hb dX1_countFrom_79 ?_
            refine lv_topi (fun y_18 hy_18 => ?_)
            obtain rfl : y_18 = 3 := hy_18.trans (by decide +kernel)
            refine x_callVi (q := (RX1, TX1, 8)) (ci := 1) (q0 := 0) (wr := []) (rest := [.int (nI ct3)]) ⟨hx, hb, hml, hown, hg, hl.1⟩ k_X1_58 (s_countFrom3 l D cy q0 q1 q2 q3 q4 er ql qo fph2_14 g_7 h0 h1 h2 h3 h4 h5 h6 h7 h8 h9 h10 h11 hv1 hv2 hv3 hv4 ys fx fc c0 c1 c2 c3 ea eg ef et el ei gc xc (f_15) (hnx) (hcn) (by omega) (by omega) (by omega) (by omega) (by omega) (by omega) (hcl9) (cf_ok hfy hgd_8 hgk_9 (by omega)) (fun c9 h9 => by have h8 := f_16 c9 h9; rw [← pre_s (fw := fy) (f2 := g_7) (d := 2) (w := wd3) hgk_9 hgd_8] at h8; exact h8)) E0_blind hK hP hD hS hA [1, 2, 0, 3, 4, 5, 6, 7, 8, 9, 10, 11, 12, 13, 14, 15, 16, 17, 18] [] ⟨rfl, rfl, by decide +kernel, by decide +kernel, by decide +kernel⟩ rfl rfl (fun _ _ _ => trivial) dX1_countFrom_80 rfl rfl (Nat.le_of_ble_eq_true rfl) ⟨Nat.le_of_ble_eq_true rfl, Nat.le_of_ble_eq_true rfl⟩ ⟨Nat.le_of_ble_eq_true rfl, Nat.le_of_ble_eq_true rfl⟩ (fun zr19 zu19 H locs hw19 hP9 hD9 hS9 => ?_)
            clear hP hD hS
            obtain ⟨fph2_20, fy2_21, kc_22⟩ := zu19
            refine reW [wO q0 1 [.ref q1, .ref er, .ref q2, .ref q3, .ref q4, .ref h0, .int (nI ql), .int qo], wI (cy 1) q2 24 (fph2_20), wI (cy 1) q1 5 (fy2_21), wO h0 4 [.ref h1, .ref h2, .ref h3, .ref h4, .ref h5, .ref h6, .ref h7, .ref h8, .ref h9, .ref h10, .ref h11, .int ys, hv1, hv2, hv3, hv4], wI (cy 1) h7 48 (fx), wI (cy 1) h1 4 (fc), (er, .inl (cy 4, 4, .inr (.inr (.inr (.inr (eF (ea 0) (ea 1) (ea 2) (ea 3))))))), wO (ea 0) 2 [.ref (eg 0), .ref (ef 0), .int (et 0), .int (nI (el 0)), .int (nI (ei 0))], wI (cy 1) (eg 0) 10 (gc 0), wI (cy 1) (ef 0) 7 (xc 0), wO (ea 1) 2 [.ref (eg 1), .ref (ef 1), .int (et 1), .int (nI (el 1)), .int (nI (ei 1))], wI (cy 1) (eg 1) 10 (gc 1), wI (cy 1) (ef 1) 7 (xc 1), wO (ea 2) 2 [.ref (eg 2), .ref (ef 2), .int (et 2), .int (nI (el 2)), .int (nI (ei 2))], wI (cy 1) (eg 2) 10 (gc 2), wI (cy 1) (ef 2) 7 (xc 2), wO (ea 3) 2 [.ref (eg 3), .ref (ef 3), .int (et 3), .int (nI (el 3)), .int (nI (ei 3))], wI (cy 1) (eg 3) 10 (gc 3), wI (cy 1) (ef 3) 7 (xc 3)] hP9 hD9 hS9 (fun hP hD hS => ?_)
            clear hP9 hD9 hS9
            refine W.widen (k := 0) (n := 0) (Nat.le_of_ble_eq_true rfl) (Nat.le_of_ble_eq_true rfl) ?_
            replace hw19 : (zr19 = nI kc_22) ∧ (pRow fph2_20) ∧ (qo = 0 → kc_22 = cnP (pdA fx ys et gc c1 ql) c0 ql (ql - 3) g_7) ∧ (¬ qo = 0 → (kc_22 = 1 ∧ ∃ g9, fdP (pdA fx ys et gc c1 ql) c0 ql (ql - 3) g_7 = some g9 ∧ ∀ i9, i9 < ql → fy2_21 i9 = g9 i9) ∨ (kc_22 = 0 ∧ fdP (pdA fx ys et gc c1 ql) c0 ql (ql - 3) g_7 = none)) ∧ (∀ i9, i9 < 3 → fy2_21 i9 = g_7 i9) ∧ (∀ k9 : Nat, k9 < (3 + 1) * 4 → fph2_20 k9 = fph2_14 k9) := hw19
            obtain ⟨f_23, f_24, f_25, f_26, f_27, f_28⟩ := hw19
            subst f_23
            refine lv_iadd hx hb dX1_countFrom_83 ?_
            refine lv_topi (fun y_29 hy_29 => ?_)
            obtain rfl : y_29 = nI (ct3 + kc_22) := hy_29.trans (nI_add ct3 kc_22)
            refine lv_istore_n (lv' := [(2, .int (nI (ct3 + kc_22))), (3, .int (nI wd3)), (0, .ref q0), (1, .int 2)]) hx hb dX1_countFrom_84 rfl hl (by decide) rfl (fun ls hl => ?_)
            refine lv_aload_n hx hb dX1_countFrom_85 rfl (lv_at hl 2 rfl) ?_
            refine va_get (D := D) (ci := 1) (v := .int qo) (C := RX1) (T := TX1) (N := 8) hx hb hg i_X1 hown hK hP 0 rfl rfl 7 (by decide) (hg _ m_560) (fun _ h9 => h9) rfl dX1_countFrom_86 ?_
            refine lv_if_eq (tgt := 98) hx hb dX1_countFrom_89 (by decide) (fun c_89 => ?_) (fun c_89 => ?_)
            · refine lv_iinc (v := nI (wd3 + 1)) (lv' := [(3, .int (nI (wd3 + 1))), (2, .int (nI (ct3 + kc_22))), (0, .ref q0), (1, .int 2)]) hx hb dX1_countFrom_98 hl (k := 1) rfl (nI_add wd3 1) (by decide) rfl (fun ls hl => ?_)
              refine lv_goto (tgt := 19) hx hb dX1_countFrom_101 (by decide) ?_
              exact ih3  ((ct3 + kc_22)) ((wd3 + 1)) fy2_21 fph2_20 f_24 (by omega) (fun h9 => sm_s (G := (fun w9 => cnP (pdA fx ys et gc c1 ql) c0 ql (ql - (2 + 1)) (upd fy 2 (nI w9)))) (hf1_3 h9) ((f_25 h9).trans (cnP_ag pdA_ex _ _ _ (by omega) (cf_ag hgd_8 hgk_9 (by omega))))) (fun h9 => absurd c_89 h9) (fun i9 h9 => (f_27 i9 (by omega)).trans (hgk_9 i9 h9)) (fun k9 h9 => ((f_28 k9 (by omega)).trans (f_17 k9 h9)).trans (hf4_3 k9 h9)) (by omega) _ _ (hP.sub [0, 1, 2, 3, 4, 5, 6, 7, 8, 9, 10, 11, 12, 13, 14, 15, 16, 17, 18] rfl) (hD.sub [0, 1, 2, 3, 4, 5, 6, 7, 8, 9, 10, 11, 12, 13, 14, 15, 16, 17, 18] (by decide +kernel) rfl) hS ls (lv_sub hl [0, 1, 2, 3] rfl)
            · obtain ⟨hct0, hfn0⟩ := hf2_3 c_89
              rcases f_26 c_89 with ⟨hk1, g9, hsm, hrw⟩ | ⟨hk0, hnn⟩
              · refine lv_iload_n hx hb dX1_countFrom_92 rfl (lv_at hl 0 rfl) ?_
                refine lv_if_le (tgt := 98) hx hb dX1_countFrom_93 (by decide) (fun c_30 => ?_) (fun c_30 => ?_)
                · have q_31 : (ct3 + kc_22) ≤ 0 := q_le (a := (ct3 + kc_22)) (b := 0) rfl rfl (by omega) (by omega) c_30
                  exact absurd q_31 (by omega)
                · have q_31 : 0 < (ct3 + kc_22) := q_nle (a := (ct3 + kc_22)) (b := 0) rfl rfl (by omega) (by omega) c_30
                  refine lv_iload_n hx hb dX1_countFrom_96 rfl (lv_at hl 0 rfl) ?_
                  exact x_iret hQ hx hb hr hlocks hK hP hD hS dX1_countFrom_97 (fph2_20, fy2_21, (ct3 + kc_22)) (⟨rfl, f_24, fun h9 => absurd h9 c_89, fun _ => Or.inl ⟨(by show (ct3 + kc_22) = 1; omega), _, (by rw [fd_s hdl]; exact foF_y hfn0 ((fdP_ag pdA_ex _ _ _ (by omega) (cf_ag hgd_8 hgk_9 (by omega))).symm.trans hsm) (by omega)), hrw⟩, (fun i9 h9 => (f_27 i9 (by omega)).trans (hgk_9 i9 h9)), (fun k9 h9 => ((f_28 k9 (by omega)).trans (f_17 k9 h9)).trans (hf4_3 k9 h9))⟩) [0, 1, 2, 3, 4, 5, 6, 7, 8, 9, 10, 11, 12, 13, 14, 15, 16, 17, 18] (by decide +kernel) rfl (Nat.le_of_ble_eq_true rfl) (Nat.le_of_ble_eq_true rfl)
              · refine lv_iload_n hx hb dX1_countFrom_92 rfl (lv_at hl 0 rfl) ?_
                refine lv_if_le (tgt := 98) hx hb dX1_countFrom_93 (by decide) (fun c_32 => ?_) (fun c_32 => ?_)
                · have q_33 : (ct3 + kc_22) ≤ 0 := q_le (a := (ct3 + kc_22)) (b := 0) rfl rfl (by omega) (by omega) c_32
                  refine lv_iinc (v := nI (wd3 + 1)) (lv' := [(3, .int (nI (wd3 + 1))), (2, .int (nI (ct3 + kc_22))), (0, .ref q0), (1, .int 2)]) hx hb dX1_countFrom_98 hl (k := 1) rfl (nI_add wd3 1) (by decide) rfl (fun ls hl => ?_)
                  refine lv_goto (tgt := 19) hx hb dX1_countFrom_101 (by decide) ?_
                  exact ih3  ((ct3 + kc_22)) ((wd3 + 1)) fy2_21 fph2_20 f_24 (by omega) (fun h9 => absurd h9 c_89) (fun _ => ⟨by omega, foF_n hfn0 ((fdP_ag pdA_ex _ _ _ (by omega) (cf_ag hgd_8 hgk_9 (by omega))).symm.trans hnn)⟩) (fun i9 h9 => (f_27 i9 (by omega)).trans (hgk_9 i9 h9)) (fun k9 h9 => ((f_28 k9 (by omega)).trans (f_17 k9 h9)).trans (hf4_3 k9 h9)) (by omega) _ _ (hP.sub [0, 1, 2, 3, 4, 5, 6, 7, 8, 9, 10, 11, 12, 13, 14, 15, 16, 17, 18] rfl) (hD.sub [0, 1, 2, 3, 4, 5, 6, 7, 8, 9, 10, 11, 12, 13, 14, 15, 16, 17, 18] (by decide +kernel) rfl) hS ls (lv_sub hl [0, 1, 2, 3] rfl)
                · have q_33 : 0 < (ct3 + kc_22) := q_nle (a := (ct3 + kc_22)) (b := 0) rfl rfl (by omega) (by omega) c_32
                  exact absurd q_33 (by omega)
          · have q_12 : 2 = (ql - 1) := q_eq (a := 2) (b := (ql - 1)) rfl rfl (by omega) (by omega) c_11
            refine lv_iload_n hx hb dX1_countFrom_49 rfl (lv_at hl 1 rfl) ?_
            refine lv_aload_n hx hb dX1_countFrom_50 rfl (lv_at hl 2 rfl) ?_
            refine lv_iload_n hx hb dX1_countFrom_51 rfl (lv_at hl 3 rfl) ?_
            refine lv_iload_n hx hb dX1_countFrom_52 rfl (lv_at hl 0 rfl) ?_
            refine x_callVi (q := (RX1, TX1, 8)) (ci := 1) (q0 := 0) (wr := [wI (cy 1) q1 5 (g_7)]) (rest := [.int (nI ct3)]) ⟨hx, hb, hml, hown, hg, hl.1⟩ k_X1_62 (s_pardonsWithLast l D cy q0 q1 q2 q3 q4 er ql qo fa3_3 h0 h1 h2 h3 h4 h5 h6 h7 h8 h9 h10 h11 hv1 hv2 hv3 hv4 ys fx fc c0 c1 c2 c3 ea eg ef et el ei gc xc 2 wd3 ((fun c9 => pre9 (gc c9) fy 2)) (ha4_3) (hnx) (hcn) (by omega) (by omega) (by omega) (by omega) (by omega) (by omega) (hcl9) (cf_pt (b := 2 * 4) hpt hf4_3 (by decide) hc1) (fun c9 x9 _ h9 => pre_mem hfy hc0 h9)) E0_blind hK hP hD hS hA [0, 1, 3, 4, 5, 6, 7, 8, 9, 10, 11, 12, 13, 14, 15, 16, 17, 18] [2] ⟨rfl, rfl, by decide +kernel, by decide +kernel, by decide +kernel⟩ rfl rfl (fun _ _ _ => trivial) dX1_countFrom_53 rfl rfl (Nat.le_of_ble_eq_true rfl) ⟨Nat.le_of_ble_eq_true rfl, Nat.le_of_ble_eq_true rfl⟩ ⟨Nat.le_of_ble_eq_true rfl, Nat.le_of_ble_eq_true rfl⟩ (fun zr34 zu34 H locs hw34 hP9 hD9 hS9 => ?_)
            clear hP hD hS
            refine reW [wI (cy 1) q1 5 (g_7), wO q0 1 [.ref q1, .ref er, .ref q2, .ref q3, .ref q4, .ref h0, .int (nI ql), .int qo], wI (cy 1) q2 24 (fa3_3), wO h0 4 [.ref h1, .ref h2, .ref h3, .ref h4, .ref h5, .ref h6, .ref h7, .ref h8, .ref h9, .ref h10, .ref h11, .int ys, hv1, hv2, hv3, hv4], wI (cy 1) h7 48 (fx), wI (cy 1) h1 4 (fc), (er, .inl (cy 4, 4, .inr (.inr (.inr (.inr (eF (ea 0) (ea 1) (ea 2) (ea 3))))))), wO (ea 0) 2 [.ref (eg 0), .ref (ef 0), .int (et 0), .int (nI (el 0)), .int (nI (ei 0))], wI (cy 1) (eg 0) 10 (gc 0), wI (cy 1) (ef 0) 7 (xc 0), wO (ea 1) 2 [.ref (eg 1), .ref (ef 1), .int (et 1), .int (nI (el 1)), .int (nI (ei 1))], wI (cy 1) (eg 1) 10 (gc 1), wI (cy 1) (ef 1) 7 (xc 1), wO (ea 2) 2 [.ref (eg 2), .ref (ef 2), .int (et 2), .int (nI (el 2)), .int (nI (ei 2))], wI (cy 1) (eg 2) 10 (gc 2), wI (cy 1) (ef 2) 7 (xc 2), wO (ea 3) 2 [.ref (eg 3), .ref (ef 3), .int (et 3), .int (nI (el 3)), .int (nI (ei 3))], wI (cy 1) (eg 3) 10 (gc 3), wI (cy 1) (ef 3) 7 (xc 3)] hP9 hD9 hS9 (fun hP hD hS => ?_)
            clear hP9 hD9 hS9
            refine W.widen (k := 0) (n := 0) (Nat.le_of_ble_eq_true rfl) (Nat.le_of_ble_eq_true rfl) ?_
            replace hw34 : (zr34 = 0 ∨ zr34 = 1) ∧ (bR zr34 (alF (fun c9 => pdL fx ys (et c9) (nxL (gc c9) 2 wd3 (((fun c9 => pre9 (gc c9) fy 2)) c9))) c1)) := hw34
            obtain ⟨f_35, f_36⟩ := hw34
            have hPv_37 : bR zr34 ((pdA fx ys et gc c1 ql) (upd fy 2 (nI wd3))) := by rw [pdA_s (by omega)]; exact f_36
            refine lv_if_eq (tgt := 63) hx hb dX1_countFrom_56 (by decide) (fun c_56 => ?_) (fun c_56 => ?_)
            · refine lv_iconst (v := 0) hx hb dX1_countFrom_63 (by decide) ?_
              refine lv_iadd hx hb dX1_countFrom_64 ?_
              refine lv_topi (fun y_38 hy_38 => ?_)
              obtain rfl : y_38 = nI (ct3 + 0) := hy_38.trans (nI_add ct3 0)
              refine lv_istore_n (lv' := [(2, .int (nI (ct3 + 0))), (3, .int (nI wd3)), (0, .ref q0), (1, .int 2)]) hx hb dX1_countFrom_65 rfl hl (by decide) rfl (fun ls hl => ?_)
              refine lv_goto (tgt := 85) hx hb dX1_countFrom_66 (by decide) ?_
              refine lv_aload_n hx hb dX1_countFrom_85 rfl (lv_at hl 2 rfl) ?_
              refine va_get (D := D) (ci := 1) (v := .int qo) (C := RX1) (T := TX1) (N := 8) hx hb hg i_X1 hown hK hP 1 rfl rfl 7 (by decide) (hg _ m_560) (fun _ h9 => h9) rfl dX1_countFrom_86 ?_
              refine lv_if_eq (tgt := 98) hx hb dX1_countFrom_89 (by decide) (fun c_89 => ?_) (fun c_89 => ?_)
              · refine lv_iinc (v := nI (wd3 + 1)) (lv' := [(3, .int (nI (wd3 + 1))), (2, .int (nI (ct3 + 0))), (0, .ref q0), (1, .int 2)]) hx hb dX1_countFrom_98 hl (k := 1) rfl (nI_add wd3 1) (by decide) rfl (fun ls hl => ?_)
                refine lv_goto (tgt := 19) hx hb dX1_countFrom_101 (by decide) ?_
                exact ih3  ((ct3 + 0)) ((wd3 + 1)) g_7 fa3_3 ha4_3 (by omega) (fun h9 => sm_s (G := (fun w9 => cnP (pdA fx ys et gc c1 ql) c0 ql (ql - (2 + 1)) (upd fy 2 (nI w9)))) (hf1_3 h9) (cn_l0 (by omega) (bR_f hPv_37 c_56))) (fun h9 => absurd c_89 h9) (hgk_9) (hf4_3) (by omega) _ _ (hP.sub [1, 2, 0, 3, 4, 5, 6, 7, 8, 9, 10, 11, 12, 13, 14, 15, 16, 17, 18] rfl) (hD.sub [1, 2, 0, 3, 4, 5, 6, 7, 8, 9, 10, 11, 12, 13, 14, 15, 16, 17, 18] (by decide +kernel) rfl) hS ls (lv_sub hl [0, 1, 2, 3] rfl)
              · obtain ⟨hct0, hfn0⟩ := hf2_3 c_89
                refine lv_iload_n hx hb dX1_countFrom_92 rfl (lv_at hl 0 rfl) ?_
                refine lv_if_le (tgt := 98) hx hb dX1_countFrom_93 (by decide) (fun c_39 => ?_) (fun c_39 => ?_)
                · have q_40 : (ct3 + 0) ≤ 0 := q_le (a := (ct3 + 0)) (b := 0) rfl rfl (by omega) (by omega) c_39
                  refine lv_iinc (v := nI (wd3 + 1)) (lv' := [(3, .int (nI (wd3 + 1))), (2, .int (nI (ct3 + 0))), (0, .ref q0), (1, .int 2)]) hx hb dX1_countFrom_98 hl (k := 1) rfl (nI_add wd3 1) (by decide) rfl (fun ls hl => ?_)
                  refine lv_goto (tgt := 19) hx hb dX1_countFrom_101 (by decide) ?_
                  exact ih3  ((ct3 + 0)) ((wd3 + 1)) g_7 fa3_3 ha4_3 (by omega) (fun h9 => absurd h9 c_89) (fun _ => ⟨by omega, foF_n hfn0 (fd_l0 (by omega) (bR_f hPv_37 c_56))⟩) (hgk_9) (hf4_3) (by omega) _ _ (hP.sub [1, 2, 0, 3, 4, 5, 6, 7, 8, 9, 10, 11, 12, 13, 14, 15, 16, 17, 18] rfl) (hD.sub [1, 2, 0, 3, 4, 5, 6, 7, 8, 9, 10, 11, 12, 13, 14, 15, 16, 17, 18] (by decide +kernel) rfl) hS ls (lv_sub hl [0, 1, 2, 3] rfl)
                · have q_40 : 0 < (ct3 + 0) := q_nle (a := (ct3 + 0)) (b := 0) rfl rfl (by omega) (by omega) c_39
                  exact absurd q_40 (by omega)
            · refine lv_iconst (v := 1) hx hb dX1_countFrom_59 (by decide) ?_
              refine lv_goto (tgt := 64) hx hb dX1_countFrom_60 (by decide) ?_
              refine lv_iadd hx hb dX1_countFrom_64 ?_
              refine lv_topi (fun y_41 hy_41 => ?_)
              obtain rfl : y_41 = nI (ct3 + 1) := hy_41.trans (nI_add ct3 1)
              refine lv_istore_n (lv' := [(2, .int (nI (ct3 + 1))), (3, .int (nI wd3)), (0, .ref q0), (1, .int 2)]) hx hb dX1_countFrom_65 rfl hl (by decide) rfl (fun ls hl => ?_)
              refine lv_goto (tgt := 85) hx hb dX1_countFrom_66 (by decide) ?_
              refine lv_aload_n hx hb dX1_countFrom_85 rfl (lv_at hl 2 rfl) ?_
              refine va_get (D := D) (ci := 1) (v := .int qo) (C := RX1) (T := TX1) (N := 8) hx hb hg i_X1 hown hK hP 1 rfl rfl 7 (by decide) (hg _ m_560) (fun _ h9 => h9) rfl dX1_countFrom_86 ?_
              refine lv_if_eq (tgt := 98) hx hb dX1_countFrom_89 (by decide) (fun c_89 => ?_) (fun c_89 => ?_)
              · refine lv_iinc (v := nI (wd3 + 1)) (lv' := [(3, .int (nI (wd3 + 1))), (2, .int (nI (ct3 + 1))), (0, .ref q0), (1, .int 2)]) hx hb dX1_countFrom_98 hl (k := 1) rfl (nI_add wd3 1) (by decide) rfl (fun ls hl => ?_)
                refine lv_goto (tgt := 19) hx hb dX1_countFrom_101 (by decide) ?_
                exact ih3  ((ct3 + 1)) ((wd3 + 1)) g_7 fa3_3 ha4_3 (by omega) (fun h9 => sm_s (G := (fun w9 => cnP (pdA fx ys et gc c1 ql) c0 ql (ql - (2 + 1)) (upd fy 2 (nI w9)))) (hf1_3 h9) (cn_l1 (by omega) (bR_t hPv_37 c_56))) (fun h9 => absurd c_89 h9) (hgk_9) (hf4_3) (by omega) _ _ (hP.sub [1, 2, 0, 3, 4, 5, 6, 7, 8, 9, 10, 11, 12, 13, 14, 15, 16, 17, 18] rfl) (hD.sub [1, 2, 0, 3, 4, 5, 6, 7, 8, 9, 10, 11, 12, 13, 14, 15, 16, 17, 18] (by decide +kernel) rfl) hS ls (lv_sub hl [0, 1, 2, 3] rfl)
              · obtain ⟨hct0, hfn0⟩ := hf2_3 c_89
                refine lv_iload_n hx hb dX1_countFrom_92 rfl (lv_at hl 0 rfl) ?_
                refine lv_if_le (tgt := 98) hx hb dX1_countFrom_93 (by decide) (fun c_42 => ?_) (fun c_42 => ?_)
                · have q_43 : (ct3 + 1) ≤ 0 := q_le (a := (ct3 + 1)) (b := 0) rfl rfl (by omega) (by omega) c_42
                  exact absurd q_43 (by omega)
                · have q_43 : 0 < (ct3 + 1) := q_nle (a := (ct3 + 1)) (b := 0) rfl rfl (by omega) (by omega) c_42
                  refine lv_iload_n hx hb dX1_countFrom_96 rfl (lv_at hl 0 rfl) ?_
                  exact x_iret hQ hx hb hr hlocks hK hP hD hS dX1_countFrom_97 (fa3_3, g_7, (ct3 + 1)) (⟨rfl, ha4_3, fun h9 => absurd h9 c_89, fun _ => Or.inl ⟨(by show (ct3 + 1) = 1; omega), _, (by rw [fd_s hdl]; exact foF_y hfn0 (fd_l1 (by omega) (bR_t hPv_37 c_56)) (by omega)), (cf_tr hgd_8 hgk_9 (by omega))⟩, (hgk_9), (hf4_3)⟩) [1, 2, 0, 3, 4, 5, 6, 7, 8, 9, 10, 11, 12, 13, 14, 15, 16, 17, 18] (by decide +kernel) rfl (Nat.le_of_ble_eq_true rfl) (Nat.le_of_ble_eq_true rfl)
    exact loop3 _ 0 0 fy fph hph (by omega) (fun _ => rfl) (fun _ => ⟨rfl, rfl⟩) (fun i9 h9 => rfl) (fun k9 h9 => rfl) (Nat.le_refl _) _ _ (hP.sub [0, 1, 2, 3, 4, 5, 6, 7, 8, 9, 10, 11, 12, 13, 14, 15, 16, 17, 18] rfl) (hD.sub [0, 1, 2, 3, 4, 5, 6, 7, 8, 9, 10, 11, 12, 13, 14, 15, 16, 17, 18] (by decide +kernel) rfl) hS ls (lv_sub hl [0, 1, 2, 3] rfl)
set_option maxHeartbeats 1000000 in
set_option maxRecDepth 100000 in
theorem s_countFrom1 (l : Launch) (D : va_G) (cy : Nat → ClassId) (q0 : Nat) (q1 : Nat) (q2 : Nat) (q3 : Nat) (q4 : Nat) (er : Nat) (ql : Nat) (qo : Int32) (fph : Nat → Int32) (fy : Nat → Int32) (h0 : Nat) (h1 : Nat) (h2 : Nat) (h3 : Nat) (h4 : Nat) (h5 : Nat) (h6 : Nat) (h7 : Nat) (h8 : Nat) (h9 : Nat) (h10 : Nat) (h11 : Nat) (hv1 : Value) (hv2 : Value) (hv3 : Value) (hv4 : Value) (ys : Int32) (fx : Nat → Int32) (fc : Nat → Int32) (c0 : Nat) (c1 : Nat) (c2 : Nat) (c3 : Nat) (ea : Nat → Nat) (eg : Nat → Nat) (ef : Nat → Nat) (et : Nat → Int32) (el : Nat → Nat) (ei : Nat → Nat) (gc : Nat → Nat → Int32) (xc : Nat → Nat → Int32) (hph : pRow fph) (hnx : rng fx 48 5) (hcn : cntOK fc c0 c1 c2 c3) (hc0 : c0 ≤ 8) (hc1 : c1 ≤ 4) (hc2 : c2 ≤ 4) (hc3 : c3 ≤ 6) (hql : ql ≤ 5) (hdl : 1 < ql) (hcl9 : cl9 fx ys c3) (hfy : okW c0 fy 1) (hpt : ∀ c9 : Nat, c9 < c1 → ptR fx c3 (et c9) (pre9 (gc c9) fy 1) (fph (1 * 4 + c9)).toNatClampNeg) : XMi l D (tyL cy) E0 yX1_countFrom cX1_countFrom 4 (some .int) (rmk 9 0 0) [.ref q0, .int 1] [wO q0 1 [.ref q1, .ref er, .ref q2, .ref q3, .ref q4, .ref h0, .int (nI ql), .int qo], wI (cy 1) q2 24 (fph), wI (cy 1) q1 5 (fy), wO h0 4 [.ref h1, .ref h2, .ref h3, .ref h4, .ref h5, .ref h6, .ref h7, .ref h8, .ref h9, .ref h10, .ref h11, .int ys, hv1, hv2, hv3, hv4], wI (cy 1) h7 48 (fx), wI (cy 1) h1 4 (fc), (er, .inl (cy 4, 4, .inr (.inr (.inr (.inr (eF (ea 0) (ea 1) (ea 2) (ea 3))))))), wO (ea 0) 2 [.ref (eg 0), .ref (ef 0), .int (et 0), .int (nI (el 0)), .int (nI (ei 0))], wI (cy 1) (eg 0) 10 (gc 0), wI (cy 1) (ef 0) 7 (xc 0), wO (ea 1) 2 [.ref (eg 1), .ref (ef 1), .int (et 1), .int (nI (el 1)), .int (nI (ei 1))], wI (cy 1) (eg 1) 10 (gc 1), wI (cy 1) (ef 1) 7 (xc 1), wO (ea 2) 2 [.ref (eg 2), .ref (ef 2), .int (et 2), .int (nI (el 2)), .int (nI (ei 2))], wI (cy 1) (eg 2) 10 (gc 2), wI (cy 1) (ef 2) 7 (xc 2), wO (ea 3) 2 [.ref (eg 3), .ref (ef 3), .int (et 3), .int (nI (el 3)), .int (nI (ei 3))], wI (cy 1) (eg 3) 10 (gc 3), wI (cy 1) (ef 3) 7 (xc 3)] (fun (r : Int32) (u : (Nat → Int32) × (Nat → Int32) × Nat) => (r = nI u.2.2) ∧ (pRow u.1) ∧ (qo = 0 → u.2.2 = cnP (pdA fx ys et gc c1 ql) c0 ql (ql - 1) fy) ∧ (¬ qo = 0 → (u.2.2 = 1 ∧ ∃ g9, fdP (pdA fx ys et gc c1 ql) c0 ql (ql - 1) fy = some g9 ∧ ∀ i9, i9 < ql → u.2.1 i9 = g9 i9) ∨ (u.2.2 = 0 ∧ fdP (pdA fx ys et gc c1 ql) c0 ql (ql - 1) fy = none)) ∧ (∀ i9, i9 < 1 → u.2.1 i9 = fy i9) ∧ (∀ k9 : Nat, k9 < (1 + 1) * 4 → u.1 k9 = fph k9)) (fun (u : (Nat → Int32) × (Nat → Int32) × Nat) => [wO q0 1 [.ref q1, .ref er, .ref q2, .ref q3, .ref q4, .ref h0, .int (nI ql), .int qo], wI (cy 1) q2 24 (u.1), wI (cy 1) q1 5 (u.2.1), wO h0 4 [.ref h1, .ref h2, .ref h3, .ref h4, .ref h5, .ref h6, .ref h7, .ref h8, .ref h9, .ref h10, .ref h11, .int ys, hv1, hv2, hv3, hv4], wI (cy 1) h7 48 (fx), wI (cy 1) h1 4 (fc), (er, .inl (cy 4, 4, .inr (.inr (.inr (.inr (eF (ea 0) (ea 1) (ea 2) (ea 3))))))), wO (ea 0) 2 [.ref (eg 0), .ref (ef 0), .int (et 0), .int (nI (el 0)), .int (nI (ei 0))], wI (cy 1) (eg 0) 10 (gc 0), wI (cy 1) (ef 0) 7 (xc 0), wO (ea 1) 2 [.ref (eg 1), .ref (ef 1), .int (et 1), .int (nI (el 1)), .int (nI (ei 1))], wI (cy 1) (eg 1) 10 (gc 1), wI (cy 1) (ef 1) 7 (xc 1), wO (ea 2) 2 [.ref (eg 2), .ref (ef 2), .int (et 2), .int (nI (el 2)), .int (nI (ei 2))], wI (cy 1) (eg 2) 10 (gc 2), wI (cy 1) (ef 2) 7 (xc 2), wO (ea 3) 2 [.ref (eg 3), .ref (ef 3), .int (et 3), .int (nI (el 3)), .int (nI (ei 3))], wI (cy 1) (eg 3) 10 (gc 3), wI (cy 1) (ef 3) 7 (xc 3)]) := by
  refine XMi.start (by decide) (Nat.le_of_ble_eq_true rfl) ?_
  intro p e s m below meth c args A ls Q hat hQ
  obtain ⟨hx, hb, hr, hml, hown, hg, hlocks, hin, hK, hA, hP, hD, hS, hE, hl⟩ := hat
  have hown : s.vm.findClass RX1 = some m.cls := hown
  have hl : lv_has ls 4 [(0, .ref q0), (1, .int 1)] := hl
  refine lv_iconst (v := 0) hx hb dX1_countFrom_0 (by decide) ?_
  refine lv_istore_n (lv' := [(2, .int 0), (0, .ref q0), (1, .int 1)]) hx hb dX1_countFrom_1 rfl hl (by decide) rfl (fun ls hl => ?_)
  refine lv_iload_n hx hb dX1_countFrom_2 rfl (lv_at hl 2 rfl) ?_
  refine lv_aload_n hx hb dX1_countFrom_3 rfl (lv_at hl 1 rfl) ?_
  refine va_get (D := D) (ci := 1) (v := .int (nI ql)) (C := RX1) (T := TX1) (N := 8) hx hb hg i_X1 hown hK hP 0 rfl rfl 6 (by decide) (hg _ m_559) (fun _ h9 => h9) rfl dX1_countFrom_4 ?_
  refine lv_icmp_ge (tgt := 15) hx hb dX1_countFrom_7 (by decide) (fun c_1 => ?_) (fun c_1 => ?_)
  · have q_2 : ql ≤ 1 := q_le (a := ql) (b := 1) rfl rfl (by omega) (by omega) c_1
    exact absurd q_2 (by omega)
  · have q_2 : 1 < ql := q_nle (a := ql) (b := 1) rfl rfl (by omega) (by omega) c_1
    refine lv_iload_n hx hb dX1_countFrom_10 rfl (lv_at hl 2 rfl) ?_
    refine lv_iconst (v := 5) hx hb dX1_countFrom_11 (by decide) ?_
    refine lv_icmp_lt (tgt := 17) hx hb dX1_countFrom_12 (by decide) (fun _ => ?_) (fun h => absurd (by decide) h)
    refine lv_iconst (v := 0) hx hb dX1_countFrom_17 (by decide) ?_
    refine lv_istore_n (lv' := [(3, .int 0), (2, .int 0), (0, .ref q0), (1, .int 1)]) hx hb dX1_countFrom_18 rfl hl (by decide) rfl (fun ls hl => ?_)
    have loop3 : ∀ (zn : Nat) (ct3 : Nat) (wd3 : Nat) (fa2_3 : Nat → Int32) (fa3_3 : Nat → Int32), (pRow fa3_3) → (wd3 ≤ c0) → (qo = 0 → ct3 = smF (fun w9 => cnP (pdA fx ys et gc c1 ql) c0 ql (ql - (1 + 1)) (upd fy 1 (nI w9))) wd3) → (¬ qo = 0 → ct3 = 0 ∧ foF (fun w9 => fdP (pdA fx ys et gc c1 ql) c0 ql (ql - (1 + 1)) (upd fy 1 (nI w9))) wd3 = none) → (∀ i9 : Nat, i9 < 1 → fa2_3 i9 = fy i9) → (∀ k9 : Nat, k9 < (1 + 1) * 4 → fa3_3 k9 = fph k9) → c0 - wd3 + 1 ≤ zn → ∀ (H : Heap) (locs : List Loc), va_P D vwCl [wO q0 1 [.ref q1, .ref er, .ref q2, .ref q3, .ref q4, .ref h0, .int (nI ql), .int qo], wI (cy 1) q2 24 (fa3_3), wI (cy 1) q1 5 (fa2_3), wO h0 4 [.ref h1, .ref h2, .ref h3, .ref h4, .ref h5, .ref h6, .ref h7, .ref h8, .ref h9, .ref h10, .ref h11, .int ys, hv1, hv2, hv3, hv4], wI (cy 1) h7 48 (fx), wI (cy 1) h1 4 (fc), (er, .inl (cy 4, 4, .inr (.inr (.inr (.inr (eF (ea 0) (ea 1) (ea 2) (ea 3))))))), wO (ea 0) 2 [.ref (eg 0), .ref (ef 0), .int (et 0), .int (nI (el 0)), .int (nI (ei 0))], wI (cy 1) (eg 0) 10 (gc 0), wI (cy 1) (ef 0) 7 (xc 0), wO (ea 1) 2 [.ref (eg 1), .ref (ef 1), .int (et 1), .int (nI (el 1)), .int (nI (ei 1))], wI (cy 1) (eg 1) 10 (gc 1), wI (cy 1) (ef 1) 7 (xc 1), wO (ea 2) 2 [.ref (eg 2), .ref (ef 2), .int (et 2), .int (nI (el 2)), .int (nI (ei 2))], wI (cy 1) (eg 2) 10 (gc 2), wI (cy 1) (ef 2) 7 (xc 2), wO (ea 3) 2 [.ref (eg 3), .ref (ef 3), .int (et 3), .int (nI (el 3)), .int (nI (ei 3))], wI (cy 1) (eg 3) 10 (gc 3), wI (cy 1) (ef 3) 7 (xc 3)] H → va_D A [wO q0 1 [.ref q1, .ref er, .ref q2, .ref q3, .ref q4, .ref h0, .int (nI ql), .int qo], wI (cy 1) q2 24 (fa3_3), wI (cy 1) q1 5 (fa2_3), wO h0 4 [.ref h1, .ref h2, .ref h3, .ref h4, .ref h5, .ref h6, .ref h7, .ref h8, .ref h9, .ref h10, .ref h11, .int ys, hv1, hv2, hv3, hv4], wI (cy 1) h7 48 (fx), wI (cy 1) h1 4 (fc), (er, .inl (cy 4, 4, .inr (.inr (.inr (.inr (eF (ea 0) (ea 1) (ea 2) (ea 3))))))), wO (ea 0) 2 [.ref (eg 0), .ref (ef 0), .int (et 0), .int (nI (el 0)), .int (nI (ei 0))], wI (cy 1) (eg 0) 10 (gc 0), wI (cy 1) (ef 0) 7 (xc 0), wO (ea 1) 2 [.ref (eg 1), .ref (ef 1), .int (et 1), .int (nI (el 1)), .int (nI (ei 1))], wI (cy 1) (eg 1) 10 (gc 1), wI (cy 1) (ef 1) 7 (xc 1), wO (ea 2) 2 [.ref (eg 2), .ref (ef 2), .int (et 2), .int (nI (el 2)), .int (nI (ei 2))], wI (cy 1) (eg 2) 10 (gc 2), wI (cy 1) (ef 2) 7 (xc 2), wO (ea 3) 2 [.ref (eg 3), .ref (ef 3), .int (et 3), .int (nI (el 3)), .int (nI (ei 3))], wI (cy 1) (eg 3) 10 (gc 3), wI (cy 1) (ef 3) 7 (xc 3)] → va_S A s.heap H locs → ∀ ls : Array Slot, lv_has ls 4 [(3, .int (nI wd3)), (2, .int (nI ct3)), (0, .ref q0), (1, .int 1)] → W p l e (rmk 9 0 0) s m args below meth c H locs 0 0 Q (F0 m 19 ls []) := by
      try clear hP hD hS
      intro zn
      induction zn with
      | zero => intro ct3 wd3 fa2_3 fa3_3 _ _ _ _ _ _ hz; exact absurd hz (by omega)
      | succ zn ih3 =>
        intro ct3 wd3 fa2_3 fa3_3 ha4_3 hf0_3 hf1_3 hf2_3 hf3_3 hf4_3 hmu3 H locs hP hD hS ls hl
        refine lv_iload_n hx hb dX1_countFrom_19 rfl (lv_at hl 0 rfl) ?_
        refine lv_aload_n hx hb dX1_countFrom_20 rfl (lv_at hl 2 rfl) ?_
        refine va_get (D := D) (ci := 1) (v := .ref h0) (C := RX1) (T := TX1) (N := 8) hx hb hg i_X1 hown hK hP 0 rfl rfl 5 (by decide) (hg _ m_558) (fun _ h9 => h9) rfl dX1_countFrom_21 ?_
        refine va_get (D := D) (ci := 4) (v := .ref h1) (C := RX4) (T := TX4) (N := 16) hx hb hg i_X4 hown hK hP 3 rfl rfl 0 (by decide) (hg _ m_331) (fun _ h9 => h9) rfl dX1_countFrom_24 ?_
        refine lv_iconst (v := 0) hx hb dX1_countFrom_27 (by decide) ?_
        refine va_iald hx hb hK hP 5 1 rfl rfl (by unfold vp_in; decide) dX1_countFrom_28 ?_
        refine lv_topi (fun y_4 hy_4 => ?_)
        obtain rfl : y_4 = nI c0 := hy_4.trans hcn.1
        refine lv_icmp_ge (tgt := 104) hx hb dX1_countFrom_29 (by decide) (fun c_5 => ?_) (fun c_5 => ?_)
        · have q_6 : c0 ≤ wd3 := q_le (a := c0) (b := wd3) rfl rfl (by omega) (by omega) c_5
          refine lv_iload_n hx hb dX1_countFrom_104 rfl (lv_at hl 1 rfl) ?_
          exact x_iret hQ hx hb hr hlocks hK hP hD hS dX1_countFrom_105 (fa3_3, fa2_3, ct3) (⟨rfl, ha4_3, fun h9 => (hf1_3 h9).trans (by rw [show wd3 = c0 by omega]; exact (cn_s hdl).symm), fun h9 => Or.inr ⟨(hf2_3 h9).1, (by have h8 := (hf2_3 h9).2; rw [show wd3 = c0 by omega] at h8; rw [fd_s hdl]; exact h8)⟩, (hf3_3), (hf4_3)⟩) [0, 1, 2, 3, 4, 5, 6, 7, 8, 9, 10, 11, 12, 13, 14, 15, 16, 17, 18] (by decide +kernel) rfl (Nat.le_of_ble_eq_true rfl) (Nat.le_of_ble_eq_true rfl)
        · have q_6 : wd3 < c0 := q_nle (a := c0) (b := wd3) rfl rfl (by omega) (by omega) c_5
          refine lv_aload_n hx hb dX1_countFrom_32 rfl (lv_at hl 2 rfl) ?_
          refine va_get (D := D) (ci := 1) (v := .ref q1) (C := RX1) (T := TX1) (N := 8) hx hb hg i_X1 hown hK hP 0 rfl rfl 0 (by decide) (hg _ m_552) (fun _ h9 => h9) rfl dX1_countFrom_33 ?_
          refine lv_iload_n hx hb dX1_countFrom_36 rfl (lv_at hl 3 rfl) ?_
          refine lv_iload_n hx hb dX1_countFrom_37 rfl (lv_at hl 0 rfl) ?_
          refine va_iast hx hb hK hP hD hS 2 1 rfl rfl (by unfold vp_in; decide) dX1_countFrom_38 (fun H locs hP9 hD9 hS9 => ?_)
          clear hP hD hS
          obtain ⟨g_7, eg_7⟩ : ∃ y, upd fa2_3 (1 : Int32).toNatClampNeg (nI wd3) = y := ⟨_, rfl⟩
          rw [eg_7] at hP9 hD9
          refine reW [wO q0 1 [.ref q1, .ref er, .ref q2, .ref q3, .ref q4, .ref h0, .int (nI ql), .int qo], wI (cy 1) q2 24 (fa3_3), wI (cy 1) q1 5 (g_7), wO h0 4 [.ref h1, .ref h2, .ref h3, .ref h4, .ref h5, .ref h6, .ref h7, .ref h8, .ref h9, .ref h10, .ref h11, .int ys, hv1, hv2, hv3, hv4], wI (cy 1) h7 48 (fx), wI (cy 1) h1 4 (fc), (er, .inl (cy 4, 4, .inr (.inr (.inr (.inr (eF (ea 0) (ea 1) (ea 2) (ea 3))))))), wO (ea 0) 2 [.ref (eg 0), .ref (ef 0), .int (et 0), .int (nI (el 0)), .int (nI (ei 0))], wI (cy 1) (eg 0) 10 (gc 0), wI (cy 1) (ef 0) 7 (xc 0), wO (ea 1) 2 [.ref (eg 1), .ref (ef 1), .int (et 1), .int (nI (el 1)), .int (nI (ei 1))], wI (cy 1) (eg 1) 10 (gc 1), wI (cy 1) (ef 1) 7 (xc 1), wO (ea 2) 2 [.ref (eg 2), .ref (ef 2), .int (et 2), .int (nI (el 2)), .int (nI (ei 2))], wI (cy 1) (eg 2) 10 (gc 2), wI (cy 1) (ef 2) 7 (xc 2), wO (ea 3) 2 [.ref (eg 3), .ref (ef 3), .int (et 3), .int (nI (el 3)), .int (nI (ei 3))], wI (cy 1) (eg 3) 10 (gc 3), wI (cy 1) (ef 3) 7 (xc 3)] hP9 hD9 hS9 (fun hP hD hS => ?_)
          clear hP9 hD9 hS9
          have hgd_8 := cf_at (k := 1) (by decide) eg_7
          have hgk_9 := cf_kp (k := 1) (by decide) hf3_3 eg_7
          refine lv_iload_n hx hb dX1_countFrom_39 rfl (lv_at hl 3 rfl) ?_
          refine lv_aload_n hx hb dX1_countFrom_40 rfl (lv_at hl 2 rfl) ?_
          refine va_get (D := D) (ci := 1) (v := .int (nI ql)) (C := RX1) (T := TX1) (N := 8) hx hb hg i_X1 hown hK hP 0 rfl rfl 6 (by decide) (hg _ m_559) (fun _ h9 => h9) rfl dX1_countFrom_41 ?_
          refine lv_iconst (v := 1) hx hb dX1_countFrom_44 (by decide) ?_
          refine lv_isub hx hb dX1_countFrom_45 ?_
          refine lv_topi (fun y_10 hy_10 => ?_)
          obtain rfl : y_10 = nI (ql - 1) := hy_10.trans (pk_sub (a := ql) (b := 1) (by omega))
          refine lv_icmp_ne (tgt := 69) hx hb dX1_countFrom_46 (by decide) (fun c_11 => ?_) (fun c_11 => ?_)
          · have q_12 : ¬ 1 = (ql - 1) := q_ne (a := 1) (b := (ql - 1)) rfl rfl (by omega) (by omega) c_11
            refine lv_aload_n hx hb dX1_countFrom_69 rfl (lv_at hl 2 rfl) ?_
            refine lv_iload_n hx hb dX1_countFrom_70 rfl (lv_at hl 3 rfl) ?_
            refine lv_iload_n hx hb dX1_countFrom_71 rfl (lv_at hl 0 rfl) ?_
            refine x_callVv (q := (RX1, TX1, 8)) (ci := 1) (q0 := 0) (wr := [wI (cy 1) q1 5 (g_7)]) (rest := []) ⟨hx, hb, hml, hown, hg, hl.1⟩ k_X1_66 (s_goOn l D cy q0 q1 q2 q3 q4 er ql qo fa3_3 h0 h1 h2 h3 h4 h5 h6 h7 h8 h9 h10 h11 ((.int ys)) hv1 hv2 hv3 hv4 fx fc c0 c1 c2 c3 ea eg ef et el ei gc xc 1 wd3 ((fun c9 => pre9 (gc c9) fy 1)) (ha4_3) (hnx) (hcn) (by omega) (by omega) (by omega) (by omega) (by omega) (by omega) (hcl9.1) (cf_pt (b := 1 * 4) hpt hf4_3 (by decide) hc1)) E0_blind hK hP hD hS hA [0, 1, 3, 4, 5, 6, 7, 8, 9, 10, 11, 12, 13, 14, 15, 16, 17, 18] [2] ⟨rfl, rfl, by decide +kernel, by decide +kernel, by decide +kernel⟩ rfl rfl (fun _ _ _ => trivial) dX1_countFrom_72 rfl rfl (Nat.le_of_ble_eq_true rfl) ⟨Nat.le_of_ble_eq_true rfl, Nat.le_of_ble_eq_true rfl⟩ ⟨Nat.le_of_ble_eq_true rfl, Nat.le_of_ble_eq_true rfl⟩ (fun zu13 H locs hw13 hP9 hD9 hS9 => ?_)
            clear hP hD hS
            obtain ⟨fph2_14, rfl⟩ : ∃ z, z = zu13 := ⟨_, rfl⟩
            refine reW [wI (cy 1) q1 5 (g_7), wO q0 1 [.ref q1, .ref er, .ref q2, .ref q3, .ref q4, .ref h0, .int (nI ql), .int qo], wI (cy 1) q2 24 (fph2_14), wO h0 4 [.ref h1, .ref h2, .ref h3, .ref h4, .ref h5, .ref h6, .ref h7, .ref h8, .ref h9, .ref h10, .ref h11, .int ys, hv1, hv2, hv3, hv4], wI (cy 1) h7 48 (fx), wI (cy 1) h1 4 (fc), (er, .inl (cy 4, 4, .inr (.inr (.inr (.inr (eF (ea 0) (ea 1) (ea 2) (ea 3))))))), wO (ea 0) 2 [.ref (eg 0), .ref (ef 0), .int (et 0), .int (nI (el 0)), .int (nI (ei 0))], wI (cy 1) (eg 0) 10 (gc 0), wI (cy 1) (ef 0) 7 (xc 0), wO (ea 1) 2 [.ref (eg 1), .ref (ef 1), .int (et 1), .int (nI (el 1)), .int (nI (ei 1))], wI (cy 1) (eg 1) 10 (gc 1), wI (cy 1) (ef 1) 7 (xc 1), wO (ea 2) 2 [.ref (eg 2), .ref (ef 2), .int (et 2), .int (nI (el 2)), .int (nI (ei 2))], wI (cy 1) (eg 2) 10 (gc 2), wI (cy 1) (ef 2) 7 (xc 2), wO (ea 3) 2 [.ref (eg 3), .ref (ef 3), .int (et 3), .int (nI (el 3)), .int (nI (ei 3))], wI (cy 1) (eg 3) 10 (gc 3), wI (cy 1) (ef 3) 7 (xc 3)] hP9 hD9 hS9 (fun hP hD hS => ?_)
            clear hP9 hD9 hS9
            refine W.widen (k := 0) (n := 0) (Nat.le_of_ble_eq_true rfl) (Nat.le_of_ble_eq_true rfl) ?_
            replace hw13 : (pRow fph2_14) ∧ (∀ c9 : Nat, c9 < c1 → ptR fx c3 (et c9) (nxL (gc c9) 1 wd3 (((fun c9 => pre9 (gc c9) fy 1)) c9)) (fph2_14 ((1 + 1) * 4 + c9)).toNatClampNeg) ∧ (∀ k9 : Nat, k9 < (1 + 1) * 4 → fph2_14 k9 = fa3_3 k9) := hw13
            obtain ⟨f_15, f_16, f_17⟩ := hw13
            refine lv_iload_n hx hb dX1_countFrom_75 rfl (lv_at hl 1 rfl) ?_
            refine lv_aload_n hx hb dX1_countFrom_76 rfl (lv_at hl 2 rfl) ?_
            refine lv_iload_n hx hb dX1_countFrom_77 rfl (lv_at hl 3 rfl) ?_
            refine lv_iconst (v := 1) hx hb dX1_countFrom_78 (by decide) ?_
            refine lv_iadd hx hb dX1_countFrom_79 ?_
            refine lv_topi (fun y_18 hy_18 => ?_)
            obtain rfl : y_18 = 2 := hy_18.trans (by decide +kernel)
            refine x_callVi (q := (RX1, TX1, 8)) (ci := 1) (q0 := 0) (wr := []) (rest := [.int (nI ct3)]) ⟨hx, hb, hml, hown, hg, hl.1⟩ k_X1_58 (s_countFrom2 l D cy q0 q1 q2 q3 q4 er ql qo fph2_14 g_7 h0 h1 h2 h3 h4 h5 h6 h7 h8 h9 h10 h11 hv1 hv2 hv3 hv4 ys fx fc c0 c1 c2 c3 ea eg ef et el ei gc xc (f_15) (hnx) (hcn) (by omega) (by omega) (by omega) (by omega) (by omega) (by omega) (hcl9) (cf_ok hfy hgd_8 hgk_9 (by omega)) (fun c9 h9 => by have h8 := f_16 c9 h9; rw [← pre_s (fw := fy) (f2 := g_7) (d := 1) (w := wd3) hgk_9 hgd_8] at h8; exact h8)) E0_blind hK hP hD hS hA [1, 2, 0, 3, 4, 5, 6, 7, 8, 9, 10, 11, 12, 13, 14, 15, 16, 17, 18] [] ⟨rfl, rfl, by decide +kernel, by decide +kernel, by decide +kernel⟩ rfl rfl (fun _ _ _ => trivial) dX1_countFrom_80 rfl rfl (Nat.le_of_ble_eq_true rfl) ⟨Nat.le_of_ble_eq_true rfl, Nat.le_of_ble_eq_true rfl⟩ ⟨Nat.le_of_ble_eq_true rfl, Nat.le_of_ble_eq_true rfl⟩ (fun zr19 zu19 H locs hw19 hP9 hD9 hS9 => ?_)
            clear hP hD hS
            obtain ⟨fph2_20, fy2_21, kc_22⟩ := zu19
            refine reW [wO q0 1 [.ref q1, .ref er, .ref q2, .ref q3, .ref q4, .ref h0, .int (nI ql), .int qo], wI (cy 1) q2 24 (fph2_20), wI (cy 1) q1 5 (fy2_21), wO h0 4 [.ref h1, .ref h2, .ref h3, .ref h4, .ref h5, .ref h6, .ref h7, .ref h8, .ref h9, .ref h10, .ref h11, .int ys, hv1, hv2, hv3, hv4], wI (cy 1) h7 48 (fx), wI (cy 1) h1 4 (fc), (er, .inl (cy 4, 4, .inr (.inr (.inr (.inr (eF (ea 0) (ea 1) (ea 2) (ea 3))))))), wO (ea 0) 2 [.ref (eg 0), .ref (ef 0), .int (et 0), .int (nI (el 0)), .int (nI (ei 0))], wI (cy 1) (eg 0) 10 (gc 0), wI (cy 1) (ef 0) 7 (xc 0), wO (ea 1) 2 [.ref (eg 1), .ref (ef 1), .int (et 1), .int (nI (el 1)), .int (nI (ei 1))], wI (cy 1) (eg 1) 10 (gc 1), wI (cy 1) (ef 1) 7 (xc 1), wO (ea 2) 2 [.ref (eg 2), .ref (ef 2), .int (et 2), .int (nI (el 2)), .int (nI (ei 2))], wI (cy 1) (eg 2) 10 (gc 2), wI (cy 1) (ef 2) 7 (xc 2), wO (ea 3) 2 [.ref (eg 3), .ref (ef 3), .int (et 3), .int (nI (el 3)), .int (nI (ei 3))], wI (cy 1) (eg 3) 10 (gc 3), wI (cy 1) (ef 3) 7 (xc 3)] hP9 hD9 hS9 (fun hP hD hS => ?_)
            clear hP9 hD9 hS9
            refine W.widen (k := 0) (n := 0) (Nat.le_of_ble_eq_true rfl) (Nat.le_of_ble_eq_true rfl) ?_
            replace hw19 : (zr19 = nI kc_22) ∧ (pRow fph2_20) ∧ (qo = 0 → kc_22 = cnP (pdA fx ys et gc c1 ql) c0 ql (ql - 2) g_7) ∧ (¬ qo = 0 → (kc_22 = 1 ∧ ∃ g9, fdP (pdA fx ys et gc c1 ql) c0 ql (ql - 2) g_7 = some g9 ∧ ∀ i9, i9 < ql → fy2_21 i9 = g9 i9) ∨ (kc_22 = 0 ∧ fdP (pdA fx ys et gc c1 ql) c0 ql (ql - 2) g_7 = none)) ∧ (∀ i9, i9 < 2 → fy2_21 i9 = g_7 i9) ∧ (∀ k9 : Nat, k9 < (2 + 1) * 4 → fph2_20 k9 = fph2_14 k9) := hw19
            obtain ⟨f_23, f_24, f_25, f_26, f_27, f_28⟩ := hw19
            subst f_23
            refine lv_iadd hx hb dX1_countFrom_83 ?_
            refine lv_topi (fun y_29 hy_29 => ?_)
            obtain rfl : y_29 = nI (ct3 + kc_22) := hy_29.trans (nI_add ct3 kc_22)
            refine lv_istore_n (lv' := [(2, .int (nI (ct3 + kc_22))), (3, .int (nI wd3)), (0, .ref q0), (1, .int 1)]) hx hb dX1_countFrom_84 rfl hl (by decide) rfl (fun ls hl => ?_)
            refine lv_aload_n hx hb dX1_countFrom_85 rfl (lv_at hl 2 rfl) ?_
            refine va_get (D := D) (ci := 1) (v := .int qo) (C := RX1) (T := TX1) (N := 8) hx hb hg i_X1 hown hK hP 0 rfl rfl 7 (by decide) (hg _ m_560) (fun _ h9 => h9) rfl dX1_countFrom_86 ?_
            refine lv_if_eq (tgt := 98) hx hb dX1_countFrom_89 (by decide) (fun c_89 => ?_) (fun c_89 => ?_)
            · refine lv_iinc (v := nI (wd3 + 1)) (lv' := [(3, .int (nI (wd3 + 1))), (2, .int (nI (ct3 + kc_22))), (0, .ref q0), (1, .int 1)]) hx hb dX1_countFrom_98 hl (k := 1) rfl (nI_add wd3 1) (by decide) rfl (fun ls hl => ?_)
              refine lv_goto (tgt := 19) hx hb dX1_countFrom_101 (by decide) ?_
              exact ih3  ((ct3 + kc_22)) ((wd3 + 1)) fy2_21 fph2_20 f_24 (by omega) (fun h9 => sm_s (G := (fun w9 => cnP (pdA fx ys et gc c1 ql) c0 ql (ql - (1 + 1)) (upd fy 1 (nI w9)))) (hf1_3 h9) ((f_25 h9).trans (cnP_ag pdA_ex _ _ _ (by omega) (cf_ag hgd_8 hgk_9 (by omega))))) (fun h9 => absurd c_89 h9) (fun i9 h9 => (f_27 i9 (by omega)).trans (hgk_9 i9 h9)) (fun k9 h9 => ((f_28 k9 (by omega)).trans (f_17 k9 h9)).trans (hf4_3 k9 h9)) (by omega) _ _ (hP.sub [0, 1, 2, 3, 4, 5, 6, 7, 8, 9, 10, 11, 12, 13, 14, 15, 16, 17, 18] rfl) (hD.sub [0, 1, 2, 3, 4, 5, 6, 7, 8, 9, 10, 11, 12, 13, 14, 15, 16, 17, 18] (by decide +kernel) rfl) hS ls (lv_sub hl [0, 1, 2, 3] rfl)
            · obtain ⟨hct0, hfn0⟩ := hf2_3 c_89
              rcases f_26 c_89 with ⟨hk1, g9, hsm, hrw⟩ | ⟨hk0, hnn⟩
              · refine lv_iload_n hx hb dX1_countFrom_92 rfl (lv_at hl 0 rfl) ?_
                refine lv_if_le (tgt := 98) hx hb dX1_countFrom_93 (by decide) (fun c_30 => ?_) (fun c_30 => ?_)
                · have q_31 : (ct3 + kc_22) ≤ 0 := q_le (a := (ct3 + kc_22)) (b := 0) rfl rfl (by omega) (by omega) c_30
                  exact absurd q_31 (by omega)
                · have q_31 : 0 < (ct3 + kc_22) := q_nle (a := (ct3 + kc_22)) (b := 0) rfl rfl (by omega) (by omega) c_30
                  refine lv_iload_n hx hb dX1_countFrom_96 rfl (lv_at hl 0 rfl) ?_
                  exact x_iret hQ hx hb hr hlocks hK hP hD hS dX1_countFrom_97 (fph2_20, fy2_21, (ct3 + kc_22)) (⟨rfl, f_24, fun h9 => absurd h9 c_89, fun _ => Or.inl ⟨(by show (ct3 + kc_22) = 1; omega), _, (by rw [fd_s hdl]; exact foF_y hfn0 ((fdP_ag pdA_ex _ _ _ (by omega) (cf_ag hgd_8 hgk_9 (by omega))).symm.trans hsm) (by omega)), hrw⟩, (fun i9 h9 => (f_27 i9 (by omega)).trans (hgk_9 i9 h9)), (fun k9 h9 => ((f_28 k9 (by omega)).trans (f_17 k9 h9)).trans (hf4_3 k9 h9))⟩) [0, 1, 2, 3, 4, 5, 6, 7, 8, 9, 10, 11, 12, 13, 14, 15, 16, 17, 18] (by decide +kernel) rfl (Nat.le_of_ble_eq_true rfl) (Nat.le_of_ble_eq_true rfl)
              · refine lv_iload_n hx hb dX1_countFrom_92 rfl (lv_at hl 0 rfl) ?_
                refine lv_if_le (tgt := 98) hx hb dX1_countFrom_93 (by decide) (fun c_32 => ?_) (fun c_32 => ?_)
                · have q_33 : (ct3 + kc_22) ≤ 0 := q_le (a := (ct3 + kc_22)) (b := 0) rfl rfl (by omega) (by omega) c_32
                  refine lv_iinc (v := nI (wd3 + 1)) (lv' := [(3, .int (nI (wd3 + 1))), (2, .int (nI (ct3 + kc_22))), (0, .ref q0), (1, .int 1)]) hx hb dX1_countFrom_98 hl (k := 1) rfl (nI_add wd3 1) (by decide) rfl (fun ls hl => ?_)
                  refine lv_goto (tgt := 19) hx hb dX1_countFrom_101 (by decide) ?_
                  exact ih3  ((ct3 + kc_22)) ((wd3 + 1)) fy2_21 fph2_20 f_24 (by omega) (fun h9 => absurd h9 c_89) (fun _ => ⟨by omega, foF_n hfn0 ((fdP_ag pdA_ex _ _ _ (by omega) (cf_ag hgd_8 hgk_9 (by omega))).symm.trans hnn)⟩) (fun i9 h9 => (f_27 i9 (by omega)).trans (hgk_9 i9 h9)) (fun k9 h9 => ((f_28 k9 (by omega)).trans (f_17 k9 h9)).trans (hf4_3 k9 h9)) (by omega) _ _ (hP.sub [0, 1, 2, 3, 4, 5, 6, 7, 8, 9, 10, 11, 12, 13, 14, 15, 16, 17, 18] rfl) (hD.sub [0, 1, 2, 3, 4, 5, 6, 7, 8, 9, 10, 11, 12, 13, 14, 15, 16, 17, 18] (by decide +kernel) rfl) hS ls (lv_sub hl [0, 1, 2, 3] rfl)
                · have q_33 : 0 < (ct3 + kc_22) := q_nle (a := (ct3 + kc_22)) (b := 0) rfl rfl (by omega) (by omega) c_32
                  exact absurd q_33 (by omega)
          · have q_12 : 1 = (ql - 1) := q_eq (a := 1) (b := (ql - 1)) rfl rfl (by omega) (by omega) c_11
            refine lv_iload_n hx hb dX1_countFrom_49 rfl (lv_at hl 1 rfl) ?_
            refine lv_aload_n hx hb dX1_countFrom_50 rfl (lv_at hl 2 rfl) ?_
            refine lv_iload_n hx hb dX1_countFrom_51 rfl (lv_at hl 3 rfl) ?_
            refine lv_iload_n hx hb dX1_countFrom_52 rfl (lv_at hl 0 rfl) ?_
            refine x_callVi (q := (RX1, TX1, 8)) (ci := 1) (q0 := 0) (wr := [wI (cy 1) q1 5 (g_7)]) (rest := [.int (nI ct3)]) ⟨hx, hb, hml, hown, hg, hl.1⟩ k_X1_62 (s_pardonsWithLast l D cy q0 q1 q2 q3 q4 er ql qo fa3_3 h0 h1 h2 h3 h4 h5 h6 h7 h8 h9 h10 h11 hv1 hv2 hv3 hv4 ys fx fc c0 c1 c2 c3 ea eg ef et el ei gc xc 1 wd3 ((fun c9 => pre9 (gc c9) fy 1)) (ha4_3) (hnx) (hcn) (by omega) (by omega) (by omega) (by omega) (by omega) (by omega) (hcl9) (cf_pt (b := 1 * 4) hpt hf4_3 (by decide) hc1) (fun c9 x9 _ h9 => pre_mem hfy hc0 h9)) E0_blind hK hP hD hS hA [0, 1, 3, 4, 5, 6, 7, 8, 9, 10, 11, 12, 13, 14, 15, 16, 17, 18] [2] ⟨rfl, rfl, by decide +kernel, by decide +kernel, by decide +kernel⟩ rfl rfl (fun _ _ _ => trivial) dX1_countFrom_53 rfl rfl (Nat.le_of_ble_eq_true rfl) ⟨Nat.le_of_ble_eq_true rfl, Nat.le_of_ble_eq_true rfl⟩ ⟨Nat.le_of_ble_eq_true rfl, Nat.le_of_ble_eq_true rfl⟩ (fun zr34 zu34 H locs hw34 hP9 hD9 hS9 => ?_)
            clear hP hD hS
            refine reW [wI (cy 1) q1 5 (g_7), wO q0 1 [.ref q1, .ref er, .ref q2, .ref q3, .ref q4, .ref h0, .int (nI ql), .int qo], wI (cy 1) q2 24 (fa3_3), wO h0 4 [.ref h1, .ref h2, .ref h3, .ref h4, .ref h5, .ref h6, .ref h7, .ref h8, .ref h9, .ref h10, .ref h11, .int ys, hv1, hv2, hv3, hv4], wI (cy 1) h7 48 (fx), wI (cy 1) h1 4 (fc), (er, .inl (cy 4, 4, .inr (.inr (.inr (.inr (eF (ea 0) (ea 1) (ea 2) (ea 3))))))), wO (ea 0) 2 [.ref (eg 0), .ref (ef 0), .int (et 0), .int (nI (el 0)), .int (nI (ei 0))], wI (cy 1) (eg 0) 10 (gc 0), wI (cy 1) (ef 0) 7 (xc 0), wO (ea 1) 2 [.ref (eg 1), .ref (ef 1), .int (et 1), .int (nI (el 1)), .int (nI (ei 1))], wI (cy 1) (eg 1) 10 (gc 1), wI (cy 1) (ef 1) 7 (xc 1), wO (ea 2) 2 [.ref (eg 2), .ref (ef 2), .int (et 2), .int (nI (el 2)), .int (nI (ei 2))], wI (cy 1) (eg 2) 10 (gc 2), wI (cy 1) (ef 2) 7 (xc 2), wO (ea 3) 2 [.ref (eg 3), .ref (ef 3), .int (et 3), .int (nI (el 3)), .int (nI (ei 3))], wI (cy 1) (eg 3) 10 (gc 3), wI (cy 1) (ef 3) 7 (xc 3)] hP9 hD9 hS9 (fun hP hD hS => ?_)
            clear hP9 hD9 hS9
            refine W.widen (k := 0) (n := 0) (Nat.le_of_ble_eq_true rfl) (Nat.le_of_ble_eq_true rfl) ?_
            replace hw34 : (zr34 = 0 ∨ zr34 = 1) ∧ (bR zr34 (alF (fun c9 => pdL fx ys (et c9) (nxL (gc c9) 1 wd3 (((fun c9 => pre9 (gc c9) fy 1)) c9))) c1)) := hw34
            obtain ⟨f_35, f_36⟩ := hw34
            have hPv_37 : bR zr34 ((pdA fx ys et gc c1 ql) (upd fy 1 (nI wd3))) := by rw [pdA_s (by omega)]; exact f_36
            refine lv_if_eq (tgt := 63) hx hb dX1_countFrom_56 (by decide) (fun c_56 => ?_) (fun c_56 => ?_)
            · refine lv_iconst (v := 0) hx hb dX1_countFrom_63 (by decide) ?_
              refine lv_iadd hx hb dX1_countFrom_64 ?_
              refine lv_topi (fun y_38 hy_38 => ?_)
              obtain rfl : y_38 = nI (ct3 + 0) := hy_38.trans (nI_add ct3 0)
              refine lv_istore_n (lv' := [(2, .int (nI (ct3 + 0))), (3, .int (nI wd3)), (0, .ref q0), (1, .int 1)]) hx hb dX1_countFrom_65 rfl hl (by decide) rfl (fun ls hl => ?_)
              refine lv_goto (tgt := 85) hx hb dX1_countFrom_66 (by decide) ?_
              refine lv_aload_n hx hb dX1_countFrom_85 rfl (lv_at hl 2 rfl) ?_
              refine va_get (D := D) (ci := 1) (v := .int qo) (C := RX1) (T := TX1) (N := 8) hx hb hg i_X1 hown hK hP 1 rfl rfl 7 (by decide) (hg _ m_560) (fun _ h9 => h9) rfl dX1_countFrom_86 ?_
              refine lv_if_eq (tgt := 98) hx hb dX1_countFrom_89 (by decide) (fun c_89 => ?_) (fun c_89 => ?_)
              · refine lv_iinc (v := nI (wd3 + 1)) (lv' := [(3, .int (nI (wd3 + 1))), (2, .int (nI (ct3 + 0))), (0, .ref q0), (1, .int 1)]) hx hb dX1_countFrom_98 hl (k := 1) rfl (nI_add wd3 1) (by decide) rfl (fun ls hl => ?_)
                refine lv_goto (tgt := 19) hx hb dX1_countFrom_101 (by decide) ?_
                exact ih3  ((ct3 + 0)) ((wd3 + 1)) g_7 fa3_3 ha4_3 (by omega) (fun h9 => sm_s (G := (fun w9 => cnP (pdA fx ys et gc c1 ql) c0 ql (ql - (1 + 1)) (upd fy 1 (nI w9)))) (hf1_3 h9) (cn_l0 (by omega) (bR_f hPv_37 c_56))) (fun h9 => absurd c_89 h9) (hgk_9) (hf4_3) (by omega) _ _ (hP.sub [1, 2, 0, 3, 4, 5, 6, 7, 8, 9, 10, 11, 12, 13, 14, 15, 16, 17, 18] rfl) (hD.sub [1, 2, 0, 3, 4, 5, 6, 7, 8, 9, 10, 11, 12, 13, 14, 15, 16, 17, 18] (by decide +kernel) rfl) hS ls (lv_sub hl [0, 1, 2, 3] rfl)
              · obtain ⟨hct0, hfn0⟩ := hf2_3 c_89
                refine lv_iload_n hx hb dX1_countFrom_92 rfl (lv_at hl 0 rfl) ?_
                refine lv_if_le (tgt := 98) hx hb dX1_countFrom_93 (by decide) (fun c_39 => ?_) (fun c_39 => ?_)
                · have q_40 : (ct3 + 0) ≤ 0 := q_le (a := (ct3 + 0)) (b := 0) rfl rfl (by omega) (by omega) c_39
                  refine lv_iinc (v := nI (wd3 + 1)) (lv' := [(3, .int (nI (wd3 + 1))), (2, .int (nI (ct3 + 0))), (0, .ref q0), (1, .int 1)]) hx hb dX1_countFrom_98 hl (k := 1) rfl (nI_add wd3 1) (by decide) rfl (fun ls hl => ?_)
                  refine lv_goto (tgt := 19) hx hb dX1_countFrom_101 (by decide) ?_
                  exact ih3  ((ct3 + 0)) ((wd3 + 1)) g_7 fa3_3 ha4_3 (by omega) (fun h9 => absurd h9 c_89) (fun _ => ⟨by omega, foF_n hfn0 (fd_l0 (by omega) (bR_f hPv_37 c_56))⟩) (hgk_9) (hf4_3) (by omega) _ _ (hP.sub [1, 2, 0, 3, 4, 5, 6, 7, 8, 9, 10, 11, 12, 13, 14, 15, 16, 17, 18] rfl) (hD.sub [1, 2, 0, 3, 4, 5, 6, 7, 8, 9, 10, 11, 12, 13, 14, 15, 16, 17, 18] (by decide +kernel) rfl) hS ls (lv_sub hl [0, 1, 2, 3] rfl)
                · have q_40 : 0 < (ct3 + 0) := q_nle (a := (ct3 + 0)) (b := 0) rfl rfl (by omega) (by omega) c_39
                  exact absurd q_40 (by omega)
            · refine lv_iconst (v := 1) hx hb dX1_countFrom_59 (by decide) ?_
              refine lv_goto (tgt := 64) hx hb dX1_countFrom_60 (by decide) ?_
              refine lv_iadd hx hb dX1_countFrom_64 ?_
              refine lv_topi (fun y_41 hy_41 => ?_)
              obtain rfl : y_41 = nI (ct3 + 1) := hy_41.trans (nI_add ct3 1)
              refine lv_istore_n (lv' := [(2, .int (nI (ct3 + 1))), (3, .int (nI wd3)), (0, .ref q0), (1, .int 1)]) hx hb dX1_countFrom_65 rfl hl (by decide) rfl (fun ls hl => ?_)
              refine lv_goto (tgt := 85) hx hb dX1_countFrom_66 (by decide) ?_
              refine lv_aload_n hx hb dX1_countFrom_85 rfl (lv_at hl 2 rfl) ?_
              refine va_get (D := D) (ci := 1) (v := .int qo) (C := RX1) (T := TX1) (N := 8) hx hb hg i_X1 hown hK hP 1 rfl rfl 7 (by decide) (hg _ m_560) (fun _ h9 => h9) rfl dX1_countFrom_86 ?_
              refine lv_if_eq (tgt := 98) hx hb dX1_countFrom_89 (by decide) (fun c_89 => ?_) (fun c_89 => ?_)
              · refine lv_iinc (v := nI (wd3 + 1)) (lv' := [(3, .int (nI (wd3 + 1))), (2, .int (nI (ct3 + 1))), (0, .ref q0), (1, .int 1)]) hx hb dX1_countFrom_98 hl (k := 1) rfl (nI_add wd3 1) (by decide) rfl (fun ls hl => ?_)
                refine lv_goto (tgt := 19) hx hb dX1_countFrom_101 (by decide) ?_
                exact ih3  ((ct3 + 1)) ((wd3 + 1)) g_7 fa3_3 ha4_3 (by omega) (fun h9 => sm_s (G := (fun w9 => cnP (pdA fx ys et gc c1 ql) c0 ql (ql - (1 + 1)) (upd fy 1 (nI w9)))) (hf1_3 h9) (cn_l1 (by omega) (bR_t hPv_37 c_56))) (fun h9 => absurd c_89 h9) (hgk_9) (hf4_3) (by omega) _ _ (hP.sub [1, 2, 0, 3, 4, 5, 6, 7, 8, 9, 10, 11, 12, 13, 14, 15, 16, 17, 18] rfl) (hD.sub [1, 2, 0, 3, 4, 5, 6, 7, 8, 9, 10, 11, 12, 13, 14, 15, 16, 17, 18] (by decide +kernel) rfl) hS ls (lv_sub hl [0, 1, 2, 3] rfl)
              · obtain ⟨hct0, hfn0⟩ := hf2_3 c_89
                refine lv_iload_n hx hb dX1_countFrom_92 rfl (lv_at hl 0 rfl) ?_
                refine lv_if_le (tgt := 98) hx hb dX1_countFrom_93 (by decide) (fun c_42 => ?_) (fun c_42 => ?_)
                · have q_43 : (ct3 + 1) ≤ 0 := q_le (a := (ct3 + 1)) (b := 0) rfl rfl (by omega) (by omega) c_42
                  exact absurd q_43 (by omega)
                · have q_43 : 0 < (ct3 + 1) := q_nle (a := (ct3 + 1)) (b := 0) rfl rfl (by omega) (by omega) c_42
                  refine lv_iload_n hx hb dX1_countFrom_96 rfl (lv_at hl 0 rfl) ?_
                  exact x_iret hQ hx hb hr hlocks hK hP hD hS dX1_countFrom_97 (fa3_3, g_7, (ct3 + 1)) (⟨rfl, ha4_3, fun h9 => absurd h9 c_89, fun _ => Or.inl ⟨(by show (ct3 + 1) = 1; omega), _, (by rw [fd_s hdl]; exact foF_y hfn0 (fd_l1 (by omega) (bR_t hPv_37 c_56)) (by omega)), (cf_tr hgd_8 hgk_9 (by omega))⟩, (hgk_9), (hf4_3)⟩) [1, 2, 0, 3, 4, 5, 6, 7, 8, 9, 10, 11, 12, 13, 14, 15, 16, 17, 18] (by decide +kernel) rfl (Nat.le_of_ble_eq_true rfl) (Nat.le_of_ble_eq_true rfl)
    exact loop3 _ 0 0 fy fph hph (by omega) (fun _ => rfl) (fun _ => ⟨rfl, rfl⟩) (fun i9 h9 => rfl) (fun k9 h9 => rfl) (Nat.le_refl _) _ _ (hP.sub [0, 1, 2, 3, 4, 5, 6, 7, 8, 9, 10, 11, 12, 13, 14, 15, 16, 17, 18] rfl) (hD.sub [0, 1, 2, 3, 4, 5, 6, 7, 8, 9, 10, 11, 12, 13, 14, 15, 16, 17, 18] (by decide +kernel) rfl) hS ls (lv_sub hl [0, 1, 2, 3] rfl)
set_option maxHeartbeats 1000000 in
set_option maxRecDepth 100000 in
theorem s_countFrom0 (l : Launch) (D : va_G) (cy : Nat → ClassId) (q0 : Nat) (q1 : Nat) (q2 : Nat) (q3 : Nat) (q4 : Nat) (er : Nat) (ql : Nat) (qo : Int32) (fph : Nat → Int32) (fy : Nat → Int32) (h0 : Nat) (h1 : Nat) (h2 : Nat) (h3 : Nat) (h4 : Nat) (h5 : Nat) (h6 : Nat) (h7 : Nat) (h8 : Nat) (h9 : Nat) (h10 : Nat) (h11 : Nat) (hv1 : Value) (hv2 : Value) (hv3 : Value) (hv4 : Value) (ys : Int32) (fx : Nat → Int32) (fc : Nat → Int32) (c0 : Nat) (c1 : Nat) (c2 : Nat) (c3 : Nat) (ea : Nat → Nat) (eg : Nat → Nat) (ef : Nat → Nat) (et : Nat → Int32) (el : Nat → Nat) (ei : Nat → Nat) (gc : Nat → Nat → Int32) (xc : Nat → Nat → Int32) (hph : pRow fph) (hnx : rng fx 48 5) (hcn : cntOK fc c0 c1 c2 c3) (hc0 : c0 ≤ 8) (hc1 : c1 ≤ 4) (hc2 : c2 ≤ 4) (hc3 : c3 ≤ 6) (hql : ql ≤ 5) (hdl : 0 < ql) (hcl9 : cl9 fx ys c3) (hfy : okW c0 fy 0) (hpt : ∀ c9 : Nat, c9 < c1 → ptR fx c3 (et c9) (pre9 (gc c9) fy 0) (fph (0 * 4 + c9)).toNatClampNeg) : XMi l D (tyL cy) E0 yX1_countFrom cX1_countFrom 4 (some .int) (rmk 10 0 0) [.ref q0, .int 0] [wO q0 1 [.ref q1, .ref er, .ref q2, .ref q3, .ref q4, .ref h0, .int (nI ql), .int qo], wI (cy 1) q2 24 (fph), wI (cy 1) q1 5 (fy), wO h0 4 [.ref h1, .ref h2, .ref h3, .ref h4, .ref h5, .ref h6, .ref h7, .ref h8, .ref h9, .ref h10, .ref h11, .int ys, hv1, hv2, hv3, hv4], wI (cy 1) h7 48 (fx), wI (cy 1) h1 4 (fc), (er, .inl (cy 4, 4, .inr (.inr (.inr (.inr (eF (ea 0) (ea 1) (ea 2) (ea 3))))))), wO (ea 0) 2 [.ref (eg 0), .ref (ef 0), .int (et 0), .int (nI (el 0)), .int (nI (ei 0))], wI (cy 1) (eg 0) 10 (gc 0), wI (cy 1) (ef 0) 7 (xc 0), wO (ea 1) 2 [.ref (eg 1), .ref (ef 1), .int (et 1), .int (nI (el 1)), .int (nI (ei 1))], wI (cy 1) (eg 1) 10 (gc 1), wI (cy 1) (ef 1) 7 (xc 1), wO (ea 2) 2 [.ref (eg 2), .ref (ef 2), .int (et 2), .int (nI (el 2)), .int (nI (ei 2))], wI (cy 1) (eg 2) 10 (gc 2), wI (cy 1) (ef 2) 7 (xc 2), wO (ea 3) 2 [.ref (eg 3), .ref (ef 3), .int (et 3), .int (nI (el 3)), .int (nI (ei 3))], wI (cy 1) (eg 3) 10 (gc 3), wI (cy 1) (ef 3) 7 (xc 3)] (fun (r : Int32) (u : (Nat → Int32) × (Nat → Int32) × Nat) => (r = nI u.2.2) ∧ (pRow u.1) ∧ (qo = 0 → u.2.2 = cnP (pdA fx ys et gc c1 ql) c0 ql (ql - 0) fy) ∧ (¬ qo = 0 → (u.2.2 = 1 ∧ ∃ g9, fdP (pdA fx ys et gc c1 ql) c0 ql (ql - 0) fy = some g9 ∧ ∀ i9, i9 < ql → u.2.1 i9 = g9 i9) ∨ (u.2.2 = 0 ∧ fdP (pdA fx ys et gc c1 ql) c0 ql (ql - 0) fy = none)) ∧ (∀ i9, i9 < 0 → u.2.1 i9 = fy i9) ∧ (∀ k9 : Nat, k9 < (0 + 1) * 4 → u.1 k9 = fph k9)) (fun (u : (Nat → Int32) × (Nat → Int32) × Nat) => [wO q0 1 [.ref q1, .ref er, .ref q2, .ref q3, .ref q4, .ref h0, .int (nI ql), .int qo], wI (cy 1) q2 24 (u.1), wI (cy 1) q1 5 (u.2.1), wO h0 4 [.ref h1, .ref h2, .ref h3, .ref h4, .ref h5, .ref h6, .ref h7, .ref h8, .ref h9, .ref h10, .ref h11, .int ys, hv1, hv2, hv3, hv4], wI (cy 1) h7 48 (fx), wI (cy 1) h1 4 (fc), (er, .inl (cy 4, 4, .inr (.inr (.inr (.inr (eF (ea 0) (ea 1) (ea 2) (ea 3))))))), wO (ea 0) 2 [.ref (eg 0), .ref (ef 0), .int (et 0), .int (nI (el 0)), .int (nI (ei 0))], wI (cy 1) (eg 0) 10 (gc 0), wI (cy 1) (ef 0) 7 (xc 0), wO (ea 1) 2 [.ref (eg 1), .ref (ef 1), .int (et 1), .int (nI (el 1)), .int (nI (ei 1))], wI (cy 1) (eg 1) 10 (gc 1), wI (cy 1) (ef 1) 7 (xc 1), wO (ea 2) 2 [.ref (eg 2), .ref (ef 2), .int (et 2), .int (nI (el 2)), .int (nI (ei 2))], wI (cy 1) (eg 2) 10 (gc 2), wI (cy 1) (ef 2) 7 (xc 2), wO (ea 3) 2 [.ref (eg 3), .ref (ef 3), .int (et 3), .int (nI (el 3)), .int (nI (ei 3))], wI (cy 1) (eg 3) 10 (gc 3), wI (cy 1) (ef 3) 7 (xc 3)]) := by
  refine XMi.start (by decide) (Nat.le_of_ble_eq_true rfl) ?_
  intro p e s m below meth c args A ls Q hat hQ
  obtain ⟨hx, hb, hr, hml, hown, hg, hlocks, hin, hK, hA, hP, hD, hS, hE, hl⟩ := hat
  have hown : s.vm.findClass RX1 = some m.cls := hown
  have hl : lv_has ls 4 [(0, .ref q0), (1, .int 0)] := hl
  refine lv_iconst (v := 0) hx hb dX1_countFrom_0 (by decide) ?_
  refine lv_istore_n (lv' := [(2, .int 0), (0, .ref q0), (1, .int 0)]) hx hb dX1_countFrom_1 rfl hl (by decide) rfl (fun ls hl => ?_)
  refine lv_iload_n hx hb dX1_countFrom_2 rfl (lv_at hl 2 rfl) ?_
  refine lv_aload_n hx hb dX1_countFrom_3 rfl (lv_at hl 1 rfl) ?_
  refine va_get (D := D) (ci := 1) (v := .int (nI ql)) (C := RX1) (T := TX1) (N := 8) hx hb hg i_X1 hown hK hP 0 rfl rfl 6 (by decide) (hg _ m_559) (fun _ h9 => h9) rfl dX1_countFrom_4 ?_
  refine lv_icmp_ge (tgt := 15) hx hb dX1_countFrom_7 (by decide) (fun c_1 => ?_) (fun c_1 => ?_)
  · have q_2 : ql ≤ 0 := q_le (a := ql) (b := 0) rfl rfl (by omega) (by omega) c_1
    exact absurd q_2 (by omega)
  · have q_2 : 0 < ql := q_nle (a := ql) (b := 0) rfl rfl (by omega) (by omega) c_1
    refine lv_iload_n hx hb dX1_countFrom_10 rfl (lv_at hl 2 rfl) ?_
    refine lv_iconst (v := 5) hx hb dX1_countFrom_11 (by decide) ?_
    refine lv_icmp_lt (tgt := 17) hx hb dX1_countFrom_12 (by decide) (fun _ => ?_) (fun h => absurd (by decide) h)
    refine lv_iconst (v := 0) hx hb dX1_countFrom_17 (by decide) ?_
    refine lv_istore_n (lv' := [(3, .int 0), (2, .int 0), (0, .ref q0), (1, .int 0)]) hx hb dX1_countFrom_18 rfl hl (by decide) rfl (fun ls hl => ?_)
    have loop3 : ∀ (zn : Nat) (ct3 : Nat) (wd3 : Nat) (fa2_3 : Nat → Int32) (fa3_3 : Nat → Int32), (pRow fa3_3) → (wd3 ≤ c0) → (qo = 0 → ct3 = smF (fun w9 => cnP (pdA fx ys et gc c1 ql) c0 ql (ql - (0 + 1)) (upd fy 0 (nI w9))) wd3) → (¬ qo = 0 → ct3 = 0 ∧ foF (fun w9 => fdP (pdA fx ys et gc c1 ql) c0 ql (ql - (0 + 1)) (upd fy 0 (nI w9))) wd3 = none) → (∀ i9 : Nat, i9 < 0 → fa2_3 i9 = fy i9) → (∀ k9 : Nat, k9 < (0 + 1) * 4 → fa3_3 k9 = fph k9) → c0 - wd3 + 1 ≤ zn → ∀ (H : Heap) (locs : List Loc), va_P D vwCl [wO q0 1 [.ref q1, .ref er, .ref q2, .ref q3, .ref q4, .ref h0, .int (nI ql), .int qo], wI (cy 1) q2 24 (fa3_3), wI (cy 1) q1 5 (fa2_3), wO h0 4 [.ref h1, .ref h2, .ref h3, .ref h4, .ref h5, .ref h6, .ref h7, .ref h8, .ref h9, .ref h10, .ref h11, .int ys, hv1, hv2, hv3, hv4], wI (cy 1) h7 48 (fx), wI (cy 1) h1 4 (fc), (er, .inl (cy 4, 4, .inr (.inr (.inr (.inr (eF (ea 0) (ea 1) (ea 2) (ea 3))))))), wO (ea 0) 2 [.ref (eg 0), .ref (ef 0), .int (et 0), .int (nI (el 0)), .int (nI (ei 0))], wI (cy 1) (eg 0) 10 (gc 0), wI (cy 1) (ef 0) 7 (xc 0), wO (ea 1) 2 [.ref (eg 1), .ref (ef 1), .int (et 1), .int (nI (el 1)), .int (nI (ei 1))], wI (cy 1) (eg 1) 10 (gc 1), wI (cy 1) (ef 1) 7 (xc 1), wO (ea 2) 2 [.ref (eg 2), .ref (ef 2), .int (et 2), .int (nI (el 2)), .int (nI (ei 2))], wI (cy 1) (eg 2) 10 (gc 2), wI (cy 1) (ef 2) 7 (xc 2), wO (ea 3) 2 [.ref (eg 3), .ref (ef 3), .int (et 3), .int (nI (el 3)), .int (nI (ei 3))], wI (cy 1) (eg 3) 10 (gc 3), wI (cy 1) (ef 3) 7 (xc 3)] H → va_D A [wO q0 1 [.ref q1, .ref er, .ref q2, .ref q3, .ref q4, .ref h0, .int (nI ql), .int qo], wI (cy 1) q2 24 (fa3_3), wI (cy 1) q1 5 (fa2_3), wO h0 4 [.ref h1, .ref h2, .ref h3, .ref h4, .ref h5, .ref h6, .ref h7, .ref h8, .ref h9, .ref h10, .ref h11, .int ys, hv1, hv2, hv3, hv4], wI (cy 1) h7 48 (fx), wI (cy 1) h1 4 (fc), (er, .inl (cy 4, 4, .inr (.inr (.inr (.inr (eF (ea 0) (ea 1) (ea 2) (ea 3))))))), wO (ea 0) 2 [.ref (eg 0), .ref (ef 0), .int (et 0), .int (nI (el 0)), .int (nI (ei 0))], wI (cy 1) (eg 0) 10 (gc 0), wI (cy 1) (ef 0) 7 (xc 0), wO (ea 1) 2 [.ref (eg 1), .ref (ef 1), .int (et 1), .int (nI (el 1)), .int (nI (ei 1))], wI (cy 1) (eg 1) 10 (gc 1), wI (cy 1) (ef 1) 7 (xc 1), wO (ea 2) 2 [.ref (eg 2), .ref (ef 2), .int (et 2), .int (nI (el 2)), .int (nI (ei 2))], wI (cy 1) (eg 2) 10 (gc 2), wI (cy 1) (ef 2) 7 (xc 2), wO (ea 3) 2 [.ref (eg 3), .ref (ef 3), .int (et 3), .int (nI (el 3)), .int (nI (ei 3))], wI (cy 1) (eg 3) 10 (gc 3), wI (cy 1) (ef 3) 7 (xc 3)] → va_S A s.heap H locs → ∀ ls : Array Slot, lv_has ls 4 [(3, .int (nI wd3)), (2, .int (nI ct3)), (0, .ref q0), (1, .int 0)] → W p l e (rmk 10 0 0) s m args below meth c H locs 0 0 Q (F0 m 19 ls []) := by
      try clear hP hD hS
      intro zn
      induction zn with
      | zero => intro ct3 wd3 fa2_3 fa3_3 _ _ _ _ _ _ hz; exact absurd hz (by omega)
      | succ zn ih3 =>
        intro ct3 wd3 fa2_3 fa3_3 ha4_3 hf0_3 hf1_3 hf2_3 hf3_3 hf4_3 hmu3 H locs hP hD hS ls hl
        refine lv_iload_n hx hb dX1_countFrom_19 rfl (lv_at hl 0 rfl) ?_
        refine lv_aload_n hx hb dX1_countFrom_20 rfl (lv_at hl 2 rfl) ?_
        refine va_get (D := D) (ci := 1) (v := .ref h0) (C := RX1) (T := TX1) (N := 8) hx hb hg i_X1 hown hK hP 0 rfl rfl 5 (by decide) (hg _ m_558) (fun _ h9 => h9) rfl dX1_countFrom_21 ?_
        refine va_get (D := D) (ci := 4) (v := .ref h1) (C := RX4) (T := TX4) (N := 16) hx hb hg i_X4 hown hK hP 3 rfl rfl 0 (by decide) (hg _ m_331) (fun _ h9 => h9) rfl dX1_countFrom_24 ?_
        refine lv_iconst (v := 0) hx hb dX1_countFrom_27 (by decide) ?_
        refine va_iald hx hb hK hP 5 1 rfl rfl (by unfold vp_in; decide) dX1_countFrom_28 ?_
        refine lv_topi (fun y_4 hy_4 => ?_)
        obtain rfl : y_4 = nI c0 := hy_4.trans hcn.1
        refine lv_icmp_ge (tgt := 104) hx hb dX1_countFrom_29 (by decide) (fun c_5 => ?_) (fun c_5 => ?_)
        · have q_6 : c0 ≤ wd3 := q_le (a := c0) (b := wd3) rfl rfl (by omega) (by omega) c_5
          refine lv_iload_n hx hb dX1_countFrom_104 rfl (lv_at hl 1 rfl) ?_
          exact x_iret hQ hx hb hr hlocks hK hP hD hS dX1_countFrom_105 (fa3_3, fa2_3, ct3) (⟨rfl, ha4_3, fun h9 => (hf1_3 h9).trans (by rw [show wd3 = c0 by omega]; exact (cn_s hdl).symm), fun h9 => Or.inr ⟨(hf2_3 h9).1, (by have h8 := (hf2_3 h9).2; rw [show wd3 = c0 by omega] at h8; rw [fd_s hdl]; exact h8)⟩, (hf3_3), (hf4_3)⟩) [0, 1, 2, 3, 4, 5, 6, 7, 8, 9, 10, 11, 12, 13, 14, 15, 16, 17, 18] (by decide +kernel) rfl (Nat.le_of_ble_eq_true rfl) (Nat.le_of_ble_eq_true rfl)
        · have q_6 : wd3 < c0 := q_nle (a := c0) (b := wd3) rfl rfl (by omega) (by omega) c_5
          refine lv_aload_n hx hb dX1_countFrom_32 rfl (lv_at hl 2 rfl) ?_
          refine va_get (D := D) (ci := 1) (v := .ref q1) (C := RX1) (T := TX1) (N := 8) hx hb hg i_X1 hown hK hP 0 rfl rfl 0 (by decide) (hg _ m_552) (fun _ h9 => h9) rfl dX1_countFrom_33 ?_
          refine lv_iload_n hx hb dX1_countFrom_36 rfl (lv_at hl 3 rfl) ?_
          refine lv_iload_n hx hb dX1_countFrom_37 rfl (lv_at hl 0 rfl) ?_
          refine va_iast hx hb hK hP hD hS 2 1 rfl rfl (by unfold vp_in; decide) dX1_countFrom_38 (fun H locs hP9 hD9 hS9 => ?_)
          clear hP hD hS
          obtain ⟨g_7, eg_7⟩ : ∃ y, upd fa2_3 (0 : Int32).toNatClampNeg (nI wd3) = y := ⟨_, rfl⟩
          rw [eg_7] at hP9 hD9
          refine reW [wO q0 1 [.ref q1, .ref er, .ref q2, .ref q3, .ref q4, .ref h0, .int (nI ql), .int qo], wI (cy 1) q2 24 (fa3_3), wI (cy 1) q1 5 (g_7), wO h0 4 [.ref h1, .ref h2, .ref h3, .ref h4, .ref h5, .ref h6, .ref h7, .ref h8, .ref h9, .ref h10, .ref h11, .int ys, hv1, hv2, hv3, hv4], wI (cy 1) h7 48 (fx), wI (cy 1) h1 4 (fc), (er, .inl (cy 4, 4, .inr (.inr (.inr (.inr (eF (ea 0) (ea 1) (ea 2) (ea 3))))))), wO (ea 0) 2 [.ref (eg 0), .ref (ef 0), .int (et 0), .int (nI (el 0)), .int (nI (ei 0))], wI (cy 1) (eg 0) 10 (gc 0), wI (cy 1) (ef 0) 7 (xc 0), wO (ea 1) 2 [.ref (eg 1), .ref (ef 1), .int (et 1), .int (nI (el 1)), .int (nI (ei 1))], wI (cy 1) (eg 1) 10 (gc 1), wI (cy 1) (ef 1) 7 (xc 1), wO (ea 2) 2 [.ref (eg 2), .ref (ef 2), .int (et 2), .int (nI (el 2)), .int (nI (ei 2))], wI (cy 1) (eg 2) 10 (gc 2), wI (cy 1) (ef 2) 7 (xc 2), wO (ea 3) 2 [.ref (eg 3), .ref (ef 3), .int (et 3), .int (nI (el 3)), .int (nI (ei 3))], wI (cy 1) (eg 3) 10 (gc 3), wI (cy 1) (ef 3) 7 (xc 3)] hP9 hD9 hS9 (fun hP hD hS => ?_)
          clear hP9 hD9 hS9
          have hgd_8 := cf_at (k := 0) (by decide) eg_7
          have hgk_9 := cf_kp (k := 0) (by decide) hf3_3 eg_7
          refine lv_iload_n hx hb dX1_countFrom_39 rfl (lv_at hl 3 rfl) ?_
          refine lv_aload_n hx hb dX1_countFrom_40 rfl (lv_at hl 2 rfl) ?_
          refine va_get (D := D) (ci := 1) (v := .int (nI ql)) (C := RX1) (T := TX1) (N := 8) hx hb hg i_X1 hown hK hP 0 rfl rfl 6 (by decide) (hg _ m_559) (fun _ h9 => h9) rfl dX1_countFrom_41 ?_
          refine lv_iconst (v := 1) hx hb dX1_countFrom_44 (by decide) ?_
          refine lv_isub hx hb dX1_countFrom_45 ?_
          refine lv_topi (fun y_10 hy_10 => ?_)
          obtain rfl : y_10 = nI (ql - 1) := hy_10.trans (pk_sub (a := ql) (b := 1) (by omega))
          refine lv_icmp_ne (tgt := 69) hx hb dX1_countFrom_46 (by decide) (fun c_11 => ?_) (fun c_11 => ?_)
          · have q_12 : ¬ 0 = (ql - 1) := q_ne (a := 0) (b := (ql - 1)) rfl rfl (by omega) (by omega) c_11
            refine lv_aload_n hx hb dX1_countFrom_69 rfl (lv_at hl 2 rfl) ?_
            refine lv_iload_n hx hb dX1_countFrom_70 rfl (lv_at hl 3 rfl) ?_
            refine lv_iload_n hx hb dX1_countFrom_71 rfl (lv_at hl 0 rfl) ?_
            refine x_callVv (q := (RX1, TX1, 8)) (ci := 1) (q0 := 0) (wr := [wI (cy 1) q1 5 (g_7)]) (rest := []) ⟨hx, hb, hml, hown, hg, hl.1⟩ k_X1_66 (s_goOn l D cy q0 q1 q2 q3 q4 er ql qo fa3_3 h0 h1 h2 h3 h4 h5 h6 h7 h8 h9 h10 h11 ((.int ys)) hv1 hv2 hv3 hv4 fx fc c0 c1 c2 c3 ea eg ef et el ei gc xc 0 wd3 ((fun c9 => pre9 (gc c9) fy 0)) (ha4_3) (hnx) (hcn) (by omega) (by omega) (by omega) (by omega) (by omega) (by omega) (hcl9.1) (cf_pt (b := 0 * 4) hpt hf4_3 (by decide) hc1)) E0_blind hK hP hD hS hA [0, 1, 3, 4, 5, 6, 7, 8, 9, 10, 11, 12, 13, 14, 15, 16, 17, 18] [2] ⟨rfl, rfl, by decide +kernel, by decide +kernel, by decide +kernel⟩ rfl rfl (fun _ _ _ => trivial) dX1_countFrom_72 rfl rfl (Nat.le_of_ble_eq_true rfl) ⟨Nat.le_of_ble_eq_true rfl, Nat.le_of_ble_eq_true rfl⟩ ⟨Nat.le_of_ble_eq_true rfl, Nat.le_of_ble_eq_true rfl⟩ (fun zu13 H locs hw13 hP9 hD9 hS9 => ?_)
            clear hP hD hS
            obtain ⟨fph2_14, rfl⟩ : ∃ z, z = zu13 := ⟨_, rfl⟩
            refine reW [wI (cy 1) q1 5 (g_7), wO q0 1 [.ref q1, .ref er, .ref q2, .ref q3, .ref q4, .ref h0, .int (nI ql), .int qo], wI (cy 1) q2 24 (fph2_14), wO h0 4 [.ref h1, .ref h2, .ref h3, .ref h4, .ref h5, .ref h6, .ref h7, .ref h8, .ref h9, .ref h10, .ref h11, .int ys, hv1, hv2, hv3, hv4], wI (cy 1) h7 48 (fx), wI (cy 1) h1 4 (fc), (er, .inl (cy 4, 4, .inr (.inr (.inr (.inr (eF (ea 0) (ea 1) (ea 2) (ea 3))))))), wO (ea 0) 2 [.ref (eg 0), .ref (ef 0), .int (et 0), .int (nI (el 0)), .int (nI (ei 0))], wI (cy 1) (eg 0) 10 (gc 0), wI (cy 1) (ef 0) 7 (xc 0), wO (ea 1) 2 [.ref (eg 1), .ref (ef 1), .int (et 1), .int (nI (el 1)), .int (nI (ei 1))], wI (cy 1) (eg 1) 10 (gc 1), wI (cy 1) (ef 1) 7 (xc 1), wO (ea 2) 2 [.ref (eg 2), .ref (ef 2), .int (et 2), .int (nI (el 2)), .int (nI (ei 2))], wI (cy 1) (eg 2) 10 (gc 2), wI (cy 1) (ef 2) 7 (xc 2), wO (ea 3) 2 [.ref (eg 3), .ref (ef 3), .int (et 3), .int (nI (el 3)), .int (nI (ei 3))], wI (cy 1) (eg 3) 10 (gc 3), wI (cy 1) (ef 3) 7 (xc 3)] hP9 hD9 hS9 (fun hP hD hS => ?_)
            clear hP9 hD9 hS9
            refine W.widen (k := 0) (n := 0) (Nat.le_of_ble_eq_true rfl) (Nat.le_of_ble_eq_true rfl) ?_
            replace hw13 : (pRow fph2_14) ∧ (∀ c9 : Nat, c9 < c1 → ptR fx c3 (et c9) (nxL (gc c9) 0 wd3 (((fun c9 => pre9 (gc c9) fy 0)) c9)) (fph2_14 ((0 + 1) * 4 + c9)).toNatClampNeg) ∧ (∀ k9 : Nat, k9 < (0 + 1) * 4 → fph2_14 k9 = fa3_3 k9) := hw13
            obtain ⟨f_15, f_16, f_17⟩ := hw13
            refine lv_iload_n hx hb dX1_countFrom_75 rfl (lv_at hl 1 rfl) ?_
            refine lv_aload_n hx hb dX1_countFrom_76 rfl (lv_at hl 2 rfl) ?_
            refine lv_iload_n hx hb dX1_countFrom_77 rfl (lv_at hl 3 rfl) ?_
            refine lv_iconst (v := 1) hx hb dX1_countFrom_78 (by decide) ?_
            refine lv_iadd hx hb dX1_countFrom_79 ?_
            refine lv_topi (fun y_18 hy_18 => ?_)
            obtain rfl : y_18 = 1 := hy_18.trans (by decide +kernel)
            refine x_callVi (q := (RX1, TX1, 8)) (ci := 1) (q0 := 0) (wr := []) (rest := [.int (nI ct3)]) ⟨hx, hb, hml, hown, hg, hl.1⟩ k_X1_58 (s_countFrom1 l D cy q0 q1 q2 q3 q4 er ql qo fph2_14 g_7 h0 h1 h2 h3 h4 h5 h6 h7 h8 h9 h10 h11 hv1 hv2 hv3 hv4 ys fx fc c0 c1 c2 c3 ea eg ef et el ei gc xc (f_15) (hnx) (hcn) (by omega) (by omega) (by omega) (by omega) (by omega) (by omega) (hcl9) (cf_ok hfy hgd_8 hgk_9 (by omega)) (fun c9 h9 => by have h8 := f_16 c9 h9; rw [← pre_s (fw := fy) (f2 := g_7) (d := 0) (w := wd3) hgk_9 hgd_8] at h8; exact h8)) E0_blind hK hP hD hS hA [1, 2, 0, 3, 4, 5, 6, 7, 8, 9, 10, 11, 12, 13, 14, 15, 16, 17, 18] [] ⟨rfl, rfl, by decide +kernel, by decide +kernel, by decide +kernel⟩ rfl rfl (fun _ _ _ => trivial) dX1_countFrom_80 rfl rfl (Nat.le_of_ble_eq_true rfl) ⟨Nat.le_of_ble_eq_true rfl, Nat.le_of_ble_eq_true rfl⟩ ⟨Nat.le_of_ble_eq_true rfl, Nat.le_of_ble_eq_true rfl⟩ (fun zr19 zu19 H locs hw19 hP9 hD9 hS9 => ?_)
            clear hP hD hS
            obtain ⟨fph2_20, fy2_21, kc_22⟩ := zu19
            refine reW [wO q0 1 [.ref q1, .ref er, .ref q2, .ref q3, .ref q4, .ref h0, .int (nI ql), .int qo], wI (cy 1) q2 24 (fph2_20), wI (cy 1) q1 5 (fy2_21), wO h0 4 [.ref h1, .ref h2, .ref h3, .ref h4, .ref h5, .ref h6, .ref h7, .ref h8, .ref h9, .ref h10, .ref h11, .int ys, hv1, hv2, hv3, hv4], wI (cy 1) h7 48 (fx), wI (cy 1) h1 4 (fc), (er, .inl (cy 4, 4, .inr (.inr (.inr (.inr (eF (ea 0) (ea 1) (ea 2) (ea 3))))))), wO (ea 0) 2 [.ref (eg 0), .ref (ef 0), .int (et 0), .int (nI (el 0)), .int (nI (ei 0))], wI (cy 1) (eg 0) 10 (gc 0), wI (cy 1) (ef 0) 7 (xc 0), wO (ea 1) 2 [.ref (eg 1), .ref (ef 1), .int (et 1), .int (nI (el 1)), .int (nI (ei 1))], wI (cy 1) (eg 1) 10 (gc 1), wI (cy 1) (ef 1) 7 (xc 1), wO (ea 2) 2 [.ref (eg 2), .ref (ef 2), .int (et 2), .int (nI (el 2)), .int (nI (ei 2))], wI (cy 1) (eg 2) 10 (gc 2), wI (cy 1) (ef 2) 7 (xc 2), wO (ea 3) 2 [.ref (eg 3), .ref (ef 3), .int (et 3), .int (nI (el 3)), .int (nI (ei 3))], wI (cy 1) (eg 3) 10 (gc 3), wI (cy 1) (ef 3) 7 (xc 3)] hP9 hD9 hS9 (fun hP hD hS => ?_)
            clear hP9 hD9 hS9
            refine W.widen (k := 0) (n := 0) (Nat.le_of_ble_eq_true rfl) (Nat.le_of_ble_eq_true rfl) ?_
            replace hw19 : (zr19 = nI kc_22) ∧ (pRow fph2_20) ∧ (qo = 0 → kc_22 = cnP (pdA fx ys et gc c1 ql) c0 ql (ql - 1) g_7) ∧ (¬ qo = 0 → (kc_22 = 1 ∧ ∃ g9, fdP (pdA fx ys et gc c1 ql) c0 ql (ql - 1) g_7 = some g9 ∧ ∀ i9, i9 < ql → fy2_21 i9 = g9 i9) ∨ (kc_22 = 0 ∧ fdP (pdA fx ys et gc c1 ql) c0 ql (ql - 1) g_7 = none)) ∧ (∀ i9, i9 < 1 → fy2_21 i9 = g_7 i9) ∧ (∀ k9 : Nat, k9 < (1 + 1) * 4 → fph2_20 k9 = fph2_14 k9) := hw19
            obtain ⟨f_23, f_24, f_25, f_26, f_27, f_28⟩ := hw19
            subst f_23
            refine lv_iadd hx hb dX1_countFrom_83 ?_
            refine lv_topi (fun y_29 hy_29 => ?_)
            obtain rfl : y_29 = nI (ct3 + kc_22) := hy_29.trans (nI_add ct3 kc_22)
            refine lv_istore_n (lv' := [(2, .int (nI (ct3 + kc_22))), (3, .int (nI wd3)), (0, .ref q0), (1, .int 0)]) hx hb dX1_countFrom_84 rfl hl (by decide) rfl (fun ls hl => ?_)
            refine lv_aload_n hx hb dX1_countFrom_85 rfl (lv_at hl 2 rfl) ?_
            refine va_get (D := D) (ci := 1) (v := .int qo) (C := RX1) (T := TX1) (N := 8) hx hb hg i_X1 hown hK hP 0 rfl rfl 7 (by decide) (hg _ m_560) (fun _ h9 => h9) rfl dX1_countFrom_86 ?_
            refine lv_if_eq (tgt := 98) hx hb dX1_countFrom_89 (by decide) (fun c_89 => ?_) (fun c_89 => ?_)
            · refine lv_iinc (v := nI (wd3 + 1)) (lv' := [(3, .int (nI (wd3 + 1))), (2, .int (nI (ct3 + kc_22))), (0, .ref q0), (1, .int 0)]) hx hb dX1_countFrom_98 hl (k := 1) rfl (nI_add wd3 1) (by decide) rfl (fun ls hl => ?_)
              refine lv_goto (tgt := 19) hx hb dX1_countFrom_101 (by decide) ?_
              exact ih3  ((ct3 + kc_22)) ((wd3 + 1)) fy2_21 fph2_20 f_24 (by omega) (fun h9 => sm_s (G := (fun w9 => cnP (pdA fx ys et gc c1 ql) c0 ql (ql - (0 + 1)) (upd fy 0 (nI w9)))) (hf1_3 h9) ((f_25 h9).trans (cnP_ag pdA_ex _ _ _ (by omega) (cf_ag hgd_8 hgk_9 (by omega))))) (fun h9 => absurd c_89 h9) (fun i9 h9 => (f_27 i9 (by omega)).trans (hgk_9 i9 h9)) (fun k9 h9 => ((f_28 k9 (by omega)).trans (f_17 k9 h9)).trans (hf4_3 k9 h9)) (by omega) _ _ (hP.sub [0, 1, 2, 3, 4, 5, 6, 7, 8, 9, 10, 11, 12, 13, 14, 15, 16, 17, 18] rfl) (hD.sub [0, 1, 2, 3, 4, 5, 6, 7, 8, 9, 10, 11, 12, 13, 14, 15, 16, 17, 18] (by decide +kernel) rfl) hS ls (lv_sub hl [0, 1, 2, 3] rfl)
            · obtain ⟨hct0, hfn0⟩ := hf2_3 c_89
              rcases f_26 c_89 with ⟨hk1, g9, hsm, hrw⟩ | ⟨hk0, hnn⟩
              · refine lv_iload_n hx hb dX1_countFrom_92 rfl (lv_at hl 0 rfl) ?_
                refine lv_if_le (tgt := 98) hx hb dX1_countFrom_93 (by decide) (fun c_30 => ?_) (fun c_30 => ?_)
                · have q_31 : (ct3 + kc_22) ≤ 0 := q_le (a := (ct3 + kc_22)) (b := 0) rfl rfl (by omega) (by omega) c_30
                  exact absurd q_31 (by omega)
                · have q_31 : 0 < (ct3 + kc_22) := q_nle (a := (ct3 + kc_22)) (b := 0) rfl rfl (by omega) (by omega) c_30
                  refine lv_iload_n hx hb dX1_countFrom_96 rfl (lv_at hl 0 rfl) ?_
                  exact x_iret hQ hx hb hr hlocks hK hP hD hS dX1_countFrom_97 (fph2_20, fy2_21, (ct3 + kc_22)) (⟨rfl, f_24, fun h9 => absurd h9 c_89, fun _ => Or.inl ⟨(by show (ct3 + kc_22) = 1; omega), _, (by rw [fd_s hdl]; exact foF_y hfn0 ((fdP_ag pdA_ex _ _ _ (by omega) (cf_ag hgd_8 hgk_9 (by omega))).symm.trans hsm) (by omega)), hrw⟩, (fun i9 h9 => (f_27 i9 (by omega)).trans (hgk_9 i9 h9)), (fun k9 h9 => ((f_28 k9 (by omega)).trans (f_17 k9 h9)).trans (hf4_3 k9 h9))⟩) [0, 1, 2, 3, 4, 5, 6, 7, 8, 9, 10, 11, 12, 13, 14, 15, 16, 17, 18] (by decide +kernel) rfl (Nat.le_of_ble_eq_true rfl) (Nat.le_of_ble_eq_true rfl)
              · refine lv_iload_n hx hb dX1_countFrom_92 rfl (lv_at hl 0 rfl) ?_
                refine lv_if_le (tgt := 98) hx hb dX1_countFrom_93 (by decide) (fun c_32 => ?_) (fun c_32 => ?_)
                · have q_33 : (ct3 + kc_22) ≤ 0 := q_le (a := (ct3 + kc_22)) (b := 0) rfl rfl (by omega) (by omega) c_32
                  refine lv_iinc (v := nI (wd3 + 1)) (lv' := [(3, .int (nI (wd3 + 1))), (2, .int (nI (ct3 + kc_22))), (0, .ref q0), (1, .int 0)]) hx hb dX1_countFrom_98 hl (k := 1) rfl (nI_add wd3 1) (by decide) rfl (fun ls hl => ?_)
                  refine lv_goto (tgt := 19) hx hb dX1_countFrom_101 (by decide) ?_
                  exact ih3  ((ct3 + kc_22)) ((wd3 + 1)) fy2_21 fph2_20 f_24 (by omega) (fun h9 => absurd h9 c_89) (fun _ => ⟨by omega, foF_n hfn0 ((fdP_ag pdA_ex _ _ _ (by omega) (cf_ag hgd_8 hgk_9 (by omega))).symm.trans hnn)⟩) (fun i9 h9 => (f_27 i9 (by omega)).trans (hgk_9 i9 h9)) (fun k9 h9 => ((f_28 k9 (by omega)).trans (f_17 k9 h9)).trans (hf4_3 k9 h9)) (by omega) _ _ (hP.sub [0, 1, 2, 3, 4, 5, 6, 7, 8, 9, 10, 11, 12, 13, 14, 15, 16, 17, 18] rfl) (hD.sub [0, 1, 2, 3, 4, 5, 6, 7, 8, 9, 10, 11, 12, 13, 14, 15, 16, 17, 18] (by decide +kernel) rfl) hS ls (lv_sub hl [0, 1, 2, 3] rfl)
                · have q_33 : 0 < (ct3 + kc_22) := q_nle (a := (ct3 + kc_22)) (b := 0) rfl rfl (by omega) (by omega) c_32
                  exact absurd q_33 (by omega)
          · have q_12 : 0 = (ql - 1) := q_eq (a := 0) (b := (ql - 1)) rfl rfl (by omega) (by omega) c_11
            refine lv_iload_n hx hb dX1_countFrom_49 rfl (lv_at hl 1 rfl) ?_
            refine lv_aload_n hx hb dX1_countFrom_50 rfl (lv_at hl 2 rfl) ?_
            refine lv_iload_n hx hb dX1_countFrom_51 rfl (lv_at hl 3 rfl) ?_
            refine lv_iload_n hx hb dX1_countFrom_52 rfl (lv_at hl 0 rfl) ?_
            refine x_callVi (q := (RX1, TX1, 8)) (ci := 1) (q0 := 0) (wr := [wI (cy 1) q1 5 (g_7)]) (rest := [.int (nI ct3)]) ⟨hx, hb, hml, hown, hg, hl.1⟩ k_X1_62 (s_pardonsWithLast l D cy q0 q1 q2 q3 q4 er ql qo fa3_3 h0 h1 h2 h3 h4 h5 h6 h7 h8 h9 h10 h11 hv1 hv2 hv3 hv4 ys fx fc c0 c1 c2 c3 ea eg ef et el ei gc xc 0 wd3 ((fun c9 => pre9 (gc c9) fy 0)) (ha4_3) (hnx) (hcn) (by omega) (by omega) (by omega) (by omega) (by omega) (by omega) (hcl9) (cf_pt (b := 0 * 4) hpt hf4_3 (by decide) hc1) (fun c9 x9 _ h9 => pre_mem hfy hc0 h9)) E0_blind hK hP hD hS hA [0, 1, 3, 4, 5, 6, 7, 8, 9, 10, 11, 12, 13, 14, 15, 16, 17, 18] [2] ⟨rfl, rfl, by decide +kernel, by decide +kernel, by decide +kernel⟩ rfl rfl (fun _ _ _ => trivial) dX1_countFrom_53 rfl rfl (Nat.le_of_ble_eq_true rfl) ⟨Nat.le_of_ble_eq_true rfl, Nat.le_of_ble_eq_true rfl⟩ ⟨Nat.le_of_ble_eq_true rfl, Nat.le_of_ble_eq_true rfl⟩ (fun zr34 zu34 H locs hw34 hP9 hD9 hS9 => ?_)
            clear hP hD hS
            refine reW [wI (cy 1) q1 5 (g_7), wO q0 1 [.ref q1, .ref er, .ref q2, .ref q3, .ref q4, .ref h0, .int (nI ql), .int qo], wI (cy 1) q2 24 (fa3_3), wO h0 4 [.ref h1, .ref h2, .ref h3, .ref h4, .ref h5, .ref h6, .ref h7, .ref h8, .ref h9, .ref h10, .ref h11, .int ys, hv1, hv2, hv3, hv4], wI (cy 1) h7 48 (fx), wI (cy 1) h1 4 (fc), (er, .inl (cy 4, 4, .inr (.inr (.inr (.inr (eF (ea 0) (ea 1) (ea 2) (ea 3))))))), wO (ea 0) 2 [.ref (eg 0), .ref (ef 0), .int (et 0), .int (nI (el 0)), .int (nI (ei 0))], wI (cy 1) (eg 0) 10 (gc 0), wI (cy 1) (ef 0) 7 (xc 0), wO (ea 1) 2 [.ref (eg 1), .ref (ef 1), .int (et 1), .int (nI (el 1)), .int (nI (ei 1))], wI (cy 1) (eg 1) 10 (gc 1), wI (cy 1) (ef 1) 7 (xc 1), wO (ea 2) 2 [.ref (eg 2), .ref (ef 2), .int (et 2), .int (nI (el 2)), .int (nI (ei 2))], wI (cy 1) (eg 2) 10 (gc 2), wI (cy 1) (ef 2) 7 (xc 2), wO (ea 3) 2 [.ref (eg 3), .ref (ef 3), .int (et 3), .int (nI (el 3)), .int (nI (ei 3))], wI (cy 1) (eg 3) 10 (gc 3), wI (cy 1) (ef 3) 7 (xc 3)] hP9 hD9 hS9 (fun hP hD hS => ?_)
            clear hP9 hD9 hS9
            refine W.widen (k := 0) (n := 0) (Nat.le_of_ble_eq_true rfl) (Nat.le_of_ble_eq_true rfl) ?_
            replace hw34 : (zr34 = 0 ∨ zr34 = 1) ∧ (bR zr34 (alF (fun c9 => pdL fx ys (et c9) (nxL (gc c9) 0 wd3 (((fun c9 => pre9 (gc c9) fy 0)) c9))) c1)) := hw34
            obtain ⟨f_35, f_36⟩ := hw34
            have hPv_37 : bR zr34 ((pdA fx ys et gc c1 ql) (upd fy 0 (nI wd3))) := by rw [pdA_s (by omega)]; exact f_36
            refine lv_if_eq (tgt := 63) hx hb dX1_countFrom_56 (by decide) (fun c_56 => ?_) (fun c_56 => ?_)
            · refine lv_iconst (v := 0) hx hb dX1_countFrom_63 (by decide) ?_
              refine lv_iadd hx hb dX1_countFrom_64 ?_
              refine lv_topi (fun y_38 hy_38 => ?_)
              obtain rfl : y_38 = nI (ct3 + 0) := hy_38.trans (nI_add ct3 0)
              refine lv_istore_n (lv' := [(2, .int (nI (ct3 + 0))), (3, .int (nI wd3)), (0, .ref q0), (1, .int 0)]) hx hb dX1_countFrom_65 rfl hl (by decide) rfl (fun ls hl => ?_)
              refine lv_goto (tgt := 85) hx hb dX1_countFrom_66 (by decide) ?_
              refine lv_aload_n hx hb dX1_countFrom_85 rfl (lv_at hl 2 rfl) ?_
              refine va_get (D := D) (ci := 1) (v := .int qo) (C := RX1) (T := TX1) (N := 8) hx hb hg i_X1 hown hK hP 1 rfl rfl 7 (by decide) (hg _ m_560) (fun _ h9 => h9) rfl dX1_countFrom_86 ?_
              refine lv_if_eq (tgt := 98) hx hb dX1_countFrom_89 (by decide) (fun c_89 => ?_) (fun c_89 => ?_)
              · refine lv_iinc (v := nI (wd3 + 1)) (lv' := [(3, .int (nI (wd3 + 1))), (2, .int (nI (ct3 + 0))), (0, .ref q0), (1, .int 0)]) hx hb dX1_countFrom_98 hl (k := 1) rfl (nI_add wd3 1) (by decide) rfl (fun ls hl => ?_)
                refine lv_goto (tgt := 19) hx hb dX1_countFrom_101 (by decide) ?_
                exact ih3  ((ct3 + 0)) ((wd3 + 1)) g_7 fa3_3 ha4_3 (by omega) (fun h9 => sm_s (G := (fun w9 => cnP (pdA fx ys et gc c1 ql) c0 ql (ql - (0 + 1)) (upd fy 0 (nI w9)))) (hf1_3 h9) (cn_l0 (by omega) (bR_f hPv_37 c_56))) (fun h9 => absurd c_89 h9) (hgk_9) (hf4_3) (by omega) _ _ (hP.sub [1, 2, 0, 3, 4, 5, 6, 7, 8, 9, 10, 11, 12, 13, 14, 15, 16, 17, 18] rfl) (hD.sub [1, 2, 0, 3, 4, 5, 6, 7, 8, 9, 10, 11, 12, 13, 14, 15, 16, 17, 18] (by decide +kernel) rfl) hS ls (lv_sub hl [0, 1, 2, 3] rfl)
              · obtain ⟨hct0, hfn0⟩ := hf2_3 c_89
                refine lv_iload_n hx hb dX1_countFrom_92 rfl (lv_at hl 0 rfl) ?_
                refine lv_if_le (tgt := 98) hx hb dX1_countFrom_93 (by decide) (fun c_39 => ?_) (fun c_39 => ?_)
                · have q_40 : (ct3 + 0) ≤ 0 := q_le (a := (ct3 + 0)) (b := 0) rfl rfl (by omega) (by omega) c_39
                  refine lv_iinc (v := nI (wd3 + 1)) (lv' := [(3, .int (nI (wd3 + 1))), (2, .int (nI (ct3 + 0))), (0, .ref q0), (1, .int 0)]) hx hb dX1_countFrom_98 hl (k := 1) rfl (nI_add wd3 1) (by decide) rfl (fun ls hl => ?_)
                  refine lv_goto (tgt := 19) hx hb dX1_countFrom_101 (by decide) ?_
                  exact ih3  ((ct3 + 0)) ((wd3 + 1)) g_7 fa3_3 ha4_3 (by omega) (fun h9 => absurd h9 c_89) (fun _ => ⟨by omega, foF_n hfn0 (fd_l0 (by omega) (bR_f hPv_37 c_56))⟩) (hgk_9) (hf4_3) (by omega) _ _ (hP.sub [1, 2, 0, 3, 4, 5, 6, 7, 8, 9, 10, 11, 12, 13, 14, 15, 16, 17, 18] rfl) (hD.sub [1, 2, 0, 3, 4, 5, 6, 7, 8, 9, 10, 11, 12, 13, 14, 15, 16, 17, 18] (by decide +kernel) rfl) hS ls (lv_sub hl [0, 1, 2, 3] rfl)
                · have q_40 : 0 < (ct3 + 0) := q_nle (a := (ct3 + 0)) (b := 0) rfl rfl (by omega) (by omega) c_39
                  exact absurd q_40 (by omega)
            · refine lv_iconst (v := 1) hx hb dX1_countFrom_59 (by decide) ?_
              refine lv_goto (tgt := 64) hx hb dX1_countFrom_60 (by decide) ?_
              refine lv_iadd hx hb dX1_countFrom_64 ?_
              refine lv_topi (fun y_41 hy_41 => ?_)
              obtain rfl : y_41 = nI (ct3 + 1) := hy_41.trans (nI_add ct3 1)
              refine lv_istore_n (lv' := [(2, .int (nI (ct3 + 1))), (3, .int (nI wd3)), (0, .ref q0), (1, .int 0)]) hx hb dX1_countFrom_65 rfl hl (by decide) rfl (fun ls hl => ?_)
              refine lv_goto (tgt := 85) hx hb dX1_countFrom_66 (by decide) ?_
              refine lv_aload_n hx hb dX1_countFrom_85 rfl (lv_at hl 2 rfl) ?_
              refine va_get (D := D) (ci := 1) (v := .int qo) (C := RX1) (T := TX1) (N := 8) hx hb hg i_X1 hown hK hP 1 rfl rfl 7 (by decide) (hg _ m_560) (fun _ h9 => h9) rfl dX1_countFrom_86 ?_
              refine lv_if_eq (tgt := 98) hx hb dX1_countFrom_89 (by decide) (fun c_89 => ?_) (fun c_89 => ?_)
              · refine lv_iinc (v := nI (wd3 + 1)) (lv' := [(3, .int (nI (wd3 + 1))), (2, .int (nI (ct3 + 1))), (0, .ref q0), (1, .int 0)]) hx hb dX1_countFrom_98 hl (k := 1) rfl (nI_add wd3 1) (by decide) rfl (fun ls hl => ?_)
                refine lv_goto (tgt := 19) hx hb dX1_countFrom_101 (by decide) ?_
                exact ih3  ((ct3 + 1)) ((wd3 + 1)) g_7 fa3_3 ha4_3 (by omega) (fun h9 => sm_s (G := (fun w9 => cnP (pdA fx ys et gc c1 ql) c0 ql (ql - (0 + 1)) (upd fy 0 (nI w9)))) (hf1_3 h9) (cn_l1 (by omega) (bR_t hPv_37 c_56))) (fun h9 => absurd c_89 h9) (hgk_9) (hf4_3) (by omega) _ _ (hP.sub [1, 2, 0, 3, 4, 5, 6, 7, 8, 9, 10, 11, 12, 13, 14, 15, 16, 17, 18] rfl) (hD.sub [1, 2, 0, 3, 4, 5, 6, 7, 8, 9, 10, 11, 12, 13, 14, 15, 16, 17, 18] (by decide +kernel) rfl) hS ls (lv_sub hl [0, 1, 2, 3] rfl)
              · obtain ⟨hct0, hfn0⟩ := hf2_3 c_89
                refine lv_iload_n hx hb dX1_countFrom_92 rfl (lv_at hl 0 rfl) ?_
                refine lv_if_le (tgt := 98) hx hb dX1_countFrom_93 (by decide) (fun c_42 => ?_) (fun c_42 => ?_)
                · have q_43 : (ct3 + 1) ≤ 0 := q_le (a := (ct3 + 1)) (b := 0) rfl rfl (by omega) (by omega) c_42
                  exact absurd q_43 (by omega)
                · have q_43 : 0 < (ct3 + 1) := q_nle (a := (ct3 + 1)) (b := 0) rfl rfl (by omega) (by omega) c_42
                  refine lv_iload_n hx hb dX1_countFrom_96 rfl (lv_at hl 0 rfl) ?_
                  exact x_iret hQ hx hb hr hlocks hK hP hD hS dX1_countFrom_97 (fa3_3, g_7, (ct3 + 1)) (⟨rfl, ha4_3, fun h9 => absurd h9 c_89, fun _ => Or.inl ⟨(by show (ct3 + 1) = 1; omega), _, (by rw [fd_s hdl]; exact foF_y hfn0 (fd_l1 (by omega) (bR_t hPv_37 c_56)) (by omega)), (cf_tr hgd_8 hgk_9 (by omega))⟩, (hgk_9), (hf4_3)⟩) [1, 2, 0, 3, 4, 5, 6, 7, 8, 9, 10, 11, 12, 13, 14, 15, 16, 17, 18] (by decide +kernel) rfl (Nat.le_of_ble_eq_true rfl) (Nat.le_of_ble_eq_true rfl)
    exact loop3 _ 0 0 fy fph hph (by omega) (fun _ => rfl) (fun _ => ⟨rfl, rfl⟩) (fun i9 h9 => rfl) (fun k9 h9 => rfl) (Nat.le_refl _) _ _ (hP.sub [0, 1, 2, 3, 4, 5, 6, 7, 8, 9, 10, 11, 12, 13, 14, 15, 16, 17, 18] rfl) (hD.sub [0, 1, 2, 3, 4, 5, 6, 7, 8, 9, 10, 11, 12, 13, 14, 15, 16, 17, 18] (by decide +kernel) rfl) hS ls (lv_sub hl [0, 1, 2, 3] rfl)
