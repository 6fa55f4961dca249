def mL13 : List (Option Cond) := [some (Cond.selects RX1 yX1_countFrom yX1_countFrom), some (Cond.selects RX1 yX1_pardonsWithLast yX1_pardonsWithLast), some (Cond.selects RX1 yX1_endState yX1_endState), some (Cond.selects RX1 yX1_goOn yX1_goOn), some (Cond.selects RX1 yX1_turnedPath yX1_turnedPath), some (Cond.fieldLink RX1 11 "CliffJudges$Cries" "cry" "[I"), some (Cond.fieldLink RX1 30 "CliffJudges$Cries" "ears" "[LCliffJudges$Ear;"), some (Cond.fieldLink RX1 15 "CliffJudges$Cries" "paths" "[I"), some (Cond.fieldLink RX1 35 "CliffJudges$Cries" "length" "I"), some (Cond.fieldLink RX1 39 "CliffJudges$Cries" "oneWillDo" "Z"), some (Cond.methodLink RX1 58 yX1_countFrom), some (Cond.instanceMethod yX1_countFrom), some (Cond.code yX1_countFrom cX1_countFrom 4 (some .int)), some (Cond.methodLink RX1 62 yX1_pardonsWithLast), some (Cond.instanceMethod yX1_pardonsWithLast), some (Cond.code yX1_pardonsWithLast cX1_pardonsWithLast 7 (some .boolean)), some (Cond.methodLink RX1 70 yX2_comesBack), some (Cond.constant RX1 73 (262144)), some (Cond.methodLink RX1 90 yX1_endState), some (Cond.instanceMethod yX1_endState), some (Cond.code yX1_endState cX1_endState 4 (some .int)), some (Cond.methodLink RX1 94 yX4_isYesState), some (Cond.methodLink RX1 66 yX1_goOn), some (Cond.instanceMethod yX1_goOn), some (Cond.code yX1_goOn cX1_goOn 6 none), some (Cond.methodLink RX1 77 yX1_turnedPath), some (Cond.instanceMethod yX1_turnedPath), some (Cond.code yX1_turnedPath cX1_turnedPath 6 (some .int))]
set_option maxRecDepth 100000 in
theorem mP13 : pick [38, 1, 1, 2, 1, 509, 2, 1, 4, 1, 593, 2, 1, 1, 2, 1, 1, 1, 1, 2, 1, 8, 1, 2, 1, 1, 2, 1] lw_tbl = mL13 := rfl
set_option maxRecDepth 100000 in
theorem mG13 : mL13.all (fun o => o.all goodWord) = true := rfl
theorem m_38 : (Cond.selects RX1 yX1_countFrom yX1_countFrom) ∈ gT := gp mP13 mG13 0 rfl
theorem m_39 : (Cond.selects RX1 yX1_pardonsWithLast yX1_pardonsWithLast) ∈ gT := gp mP13 mG13 1 rfl
theorem m_40 : (Cond.selects RX1 yX1_endState yX1_endState) ∈ gT := gp mP13 mG13 2 rfl
theorem m_42 : (Cond.selects RX1 yX1_goOn yX1_goOn) ∈ gT := gp mP13 mG13 3 rfl
theorem m_43 : (Cond.selects RX1 yX1_turnedPath yX1_turnedPath) ∈ gT := gp mP13 mG13 4 rfl
theorem m_552 : (Cond.fieldLink RX1 11 "CliffJudges$Cries" "cry" "[I") ∈ gT := gp mP13 mG13 5 rfl
theorem m_554 : (Cond.fieldLink RX1 30 "CliffJudges$Cries" "ears" "[LCliffJudges$Ear;") ∈ gT := gp mP13 mG13 6 rfl
theorem m_555 : (Cond.fieldLink RX1 15 "CliffJudges$Cries" "paths" "[I") ∈ gT := gp mP13 mG13 7 rfl
theorem m_559 : (Cond.fieldLink RX1 35 "CliffJudges$Cries" "length" "I") ∈ gT := gp mP13 mG13 8 rfl
theorem m_560 : (Cond.fieldLink RX1 39 "CliffJudges$Cries" "oneWillDo" "Z") ∈ gT := gp mP13 mG13 9 rfl
theorem m_1153 : (Cond.methodLink RX1 58 yX1_countFrom) ∈ gT := gp mP13 mG13 10 rfl
theorem m_1155 : (Cond.instanceMethod yX1_countFrom) ∈ gT := gp mP13 mG13 11 rfl
theorem m_1156 : (Cond.code yX1_countFrom cX1_countFrom 4 (some .int)) ∈ gT := gp mP13 mG13 12 rfl
theorem m_1157 : (Cond.methodLink RX1 62 yX1_pardonsWithLast) ∈ gT := gp mP13 mG13 13 rfl
theorem m_1159 : (Cond.instanceMethod yX1_pardonsWithLast) ∈ gT := gp mP13 mG13 14 rfl
theorem m_1160 : (Cond.code yX1_pardonsWithLast cX1_pardonsWithLast 7 (some .boolean)) ∈ gT := gp mP13 mG13 15 rfl
theorem m_1161 : (Cond.methodLink RX1 70 yX2_comesBack) ∈ gT := gp mP13 mG13 16 rfl
theorem m_1162 : (Cond.constant RX1 73 (262144)) ∈ gT := gp mP13 mG13 17 rfl
theorem m_1163 : (Cond.methodLink RX1 90 yX1_endState) ∈ gT := gp mP13 mG13 18 rfl
theorem m_1165 : (Cond.instanceMethod yX1_endState) ∈ gT := gp mP13 mG13 19 rfl
theorem m_1166 : (Cond.code yX1_endState cX1_endState 4 (some .int)) ∈ gT := gp mP13 mG13 20 rfl
theorem m_1174 : (Cond.methodLink RX1 94 yX4_isYesState) ∈ gT := gp mP13 mG13 21 rfl
theorem m_1175 : (Cond.methodLink RX1 66 yX1_goOn) ∈ gT := gp mP13 mG13 22 rfl
theorem m_1177 : (Cond.instanceMethod yX1_goOn) ∈ gT := gp mP13 mG13 23 rfl
theorem m_1178 : (Cond.code yX1_goOn cX1_goOn 6 none) ∈ gT := gp mP13 mG13 24 rfl
theorem m_1179 : (Cond.methodLink RX1 77 yX1_turnedPath) ∈ gT := gp mP13 mG13 25 rfl
theorem m_1181 : (Cond.instanceMethod yX1_turnedPath) ∈ gT := gp mP13 mG13 26 rfl
theorem m_1182 : (Cond.code yX1_turnedPath cX1_turnedPath 6 (some .int)) ∈ gT := gp mP13 mG13 27 rfl
theorem or_ans {v : Nat} (h : v < 262144) : (262144 : Int32) ||| nI v = nI (262144 + v) := by
  have := fa_or 262144 v
  rw [show (262144 : Nat) = 2 ^ 18 * 1 by decide, ← Nat.two_pow_add_eq_or_of_lt (by omega)] at this
  exact this
theorem pOK_un : pOK 181896 := by unfold pOK; decide
theorem gdX1_goOn_0 : decode cX1_goOn 0 = .ok (.iconst 0, 1) ∧ decode cX1_goOn 1 = .ok (.istore_n 3, 1) ∧ decode cX1_goOn 2 = .ok (.iload_n 3, 1) ∧ decode cX1_goOn 3 = .ok (.aload_n 0, 1) ∧ decode cX1_goOn 4 = .ok (.getfield 31, 3) ∧ decode cX1_goOn 7 = .ok (.getfield 43, 3) ∧ decode cX1_goOn 10 = .ok (.iconst 1, 1) ∧ decode cX1_goOn 11 = .ok (.iaload, 1) ∧ decode cX1_goOn 12 = .ok (.if_icmp .ge 83, 3) ∧ decode cX1_goOn 95 = .ok (.return_, 1) ∧ decode cX1_goOn 15 = .ok (.aload_n 0, 1) ∧ decode cX1_goOn 16 = .ok (.getfield 15, 3) := by decide +kernel
theorem dX1_goOn_0 : decode cX1_goOn 0 = .ok (.iconst 0, 1) := gdX1_goOn_0.1
theorem dX1_goOn_1 : decode cX1_goOn 1 = .ok (.istore_n 3, 1) := gdX1_goOn_0.2.1
theorem dX1_goOn_2 : decode cX1_goOn 2 = .ok (.iload_n 3, 1) := gdX1_goOn_0.2.2.1
theorem dX1_goOn_3 : decode cX1_goOn 3 = .ok (.aload_n 0, 1) := gdX1_goOn_0.2.2.2.1
theorem dX1_goOn_4 : decode cX1_goOn 4 = .ok (.getfield 31, 3) := gdX1_goOn_0.2.2.2.2.1
theorem dX1_goOn_7 : decode cX1_goOn 7 = .ok (.getfield 43, 3) := gdX1_goOn_0.2.2.2.2.2.1
theorem dX1_goOn_10 : decode cX1_goOn 10 = .ok (.iconst 1, 1) := gdX1_goOn_0.2.2.2.2.2.2.1
theorem dX1_goOn_11 : decode cX1_goOn 11 = .ok (.iaload, 1) := gdX1_goOn_0.2.2.2.2.2.2.2.1
theorem dX1_goOn_12 : decode cX1_goOn 12 = .ok (.if_icmp .ge 83, 3) := gdX1_goOn_0.2.2.2.2.2.2.2.2.1
theorem dX1_goOn_95 : decode cX1_goOn 95 = .ok (.return_, 1) := gdX1_goOn_0.2.2.2.2.2.2.2.2.2.1
theorem dX1_goOn_15 : decode cX1_goOn 15 = .ok (.aload_n 0, 1) := gdX1_goOn_0.2.2.2.2.2.2.2.2.2.2.1
theorem dX1_goOn_16 : decode cX1_goOn 16 = .ok (.getfield 15, 3) := gdX1_goOn_0.2.2.2.2.2.2.2.2.2.2.2
theorem gdX1_goOn_19 : decode cX1_goOn 19 = .ok (.iload_n 1, 1) ∧ decode cX1_goOn 20 = .ok (.iconst 4, 1) ∧ decode cX1_goOn 21 = .ok (.imul, 1) ∧ decode cX1_goOn 22 = .ok (.iload_n 3, 1) ∧ decode cX1_goOn 23 = .ok (.iadd, 1) ∧ decode cX1_goOn 24 = .ok (.iaload, 1) ∧ decode cX1_goOn 25 = .ok (.istore 4, 2) ∧ decode cX1_goOn 27 = .ok (.aload_n 0, 1) ∧ decode cX1_goOn 28 = .ok (.getfield 30, 3) ∧ decode cX1_goOn 31 = .ok (.iload_n 3, 1) ∧ decode cX1_goOn 32 = .ok (.aaload, 1) ∧ decode cX1_goOn 33 = .ok (.astore 5, 2) := by decide +kernel
theorem dX1_goOn_19 : decode cX1_goOn 19 = .ok (.iload_n 1, 1) := gdX1_goOn_19.1
theorem dX1_goOn_20 : decode cX1_goOn 20 = .ok (.iconst 4, 1) := gdX1_goOn_19.2.1
theorem dX1_goOn_21 : decode cX1_goOn 21 = .ok (.imul, 1) := gdX1_goOn_19.2.2.1
theorem dX1_goOn_22 : decode cX1_goOn 22 = .ok (.iload_n 3, 1) := gdX1_goOn_19.2.2.2.1
theorem dX1_goOn_23 : decode cX1_goOn 23 = .ok (.iadd, 1) := gdX1_goOn_19.2.2.2.2.1
theorem dX1_goOn_24 : decode cX1_goOn 24 = .ok (.iaload, 1) := gdX1_goOn_19.2.2.2.2.2.1
theorem dX1_goOn_25 : decode cX1_goOn 25 = .ok (.istore 4, 2) := gdX1_goOn_19.2.2.2.2.2.2.1
theorem dX1_goOn_27 : decode cX1_goOn 27 = .ok (.aload_n 0, 1) := gdX1_goOn_19.2.2.2.2.2.2.2.1
theorem dX1_goOn_28 : decode cX1_goOn 28 = .ok (.getfield 30, 3) := gdX1_goOn_19.2.2.2.2.2.2.2.2.1
theorem dX1_goOn_31 : decode cX1_goOn 31 = .ok (.iload_n 3, 1) := gdX1_goOn_19.2.2.2.2.2.2.2.2.2.1
theorem dX1_goOn_32 : decode cX1_goOn 32 = .ok (.aaload, 1) := gdX1_goOn_19.2.2.2.2.2.2.2.2.2.2.1
theorem dX1_goOn_33 : decode cX1_goOn 33 = .ok (.astore 5, 2) := gdX1_goOn_19.2.2.2.2.2.2.2.2.2.2.2
theorem gdX1_goOn_35 : decode cX1_goOn 35 = .ok (.aload 5, 2) ∧ decode cX1_goOn 37 = .ok (.iload_n 1, 1) ∧ decode cX1_goOn 38 = .ok (.iload_n 2, 1) ∧ decode cX1_goOn 39 = .ok (.invokevirtual 70, 3) := by decide +kernel
theorem dX1_goOn_35 : decode cX1_goOn 35 = .ok (.aload 5, 2) := gdX1_goOn_35.1
theorem dX1_goOn_37 : decode cX1_goOn 37 = .ok (.iload_n 1, 1) := gdX1_goOn_35.2.1
theorem dX1_goOn_38 : decode cX1_goOn 38 = .ok (.iload_n 2, 1) := gdX1_goOn_35.2.2.1
theorem dX1_goOn_39 : decode cX1_goOn 39 = .ok (.invokevirtual 70, 3) := gdX1_goOn_35.2.2.2
theorem k_X1_70 : xV RX1 RX2 70 yX2_comesBack cX2_comesBack 3 (some .boolean) 2 := ⟨⟨m_1161, m_1069, m_1070, m_142, m_1071⟩, rfl, by decide, by decide, by decide +kernel⟩
theorem gdX1_goOn_42 : decode cX1_goOn 42 = .ok (.ifCond .eq 33, 3) ∧ decode cX1_goOn 75 = .ok (.aload_n 0, 1) ∧ decode cX1_goOn 76 = .ok (.getfield 15, 3) ∧ decode cX1_goOn 79 = .ok (.iload_n 1, 1) ∧ decode cX1_goOn 80 = .ok (.iconst 1, 1) ∧ decode cX1_goOn 81 = .ok (.iadd, 1) ∧ decode cX1_goOn 82 = .ok (.iconst 4, 1) ∧ decode cX1_goOn 83 = .ok (.imul, 1) ∧ decode cX1_goOn 84 = .ok (.iload_n 3, 1) ∧ decode cX1_goOn 85 = .ok (.iadd, 1) ∧ decode cX1_goOn 86 = .ok (.iload 4, 2) ∧ decode cX1_goOn 88 = .ok (.iastore, 1) := by decide +kernel
theorem dX1_goOn_42 : decode cX1_goOn 42 = .ok (.ifCond .eq 33, 3) := gdX1_goOn_42.1
theorem dX1_goOn_75 : decode cX1_goOn 75 = .ok (.aload_n 0, 1) := gdX1_goOn_42.2.1
theorem dX1_goOn_76 : decode cX1_goOn 76 = .ok (.getfield 15, 3) := gdX1_goOn_42.2.2.1
theorem dX1_goOn_79 : decode cX1_goOn 79 = .ok (.iload_n 1, 1) := gdX1_goOn_42.2.2.2.1
theorem dX1_goOn_80 : decode cX1_goOn 80 = .ok (.iconst 1, 1) := gdX1_goOn_42.2.2.2.2.1
theorem dX1_goOn_81 : decode cX1_goOn 81 = .ok (.iadd, 1) := gdX1_goOn_42.2.2.2.2.2.1
theorem dX1_goOn_82 : decode cX1_goOn 82 = .ok (.iconst 4, 1) := gdX1_goOn_42.2.2.2.2.2.2.1
theorem dX1_goOn_83 : decode cX1_goOn 83 = .ok (.imul, 1) := gdX1_goOn_42.2.2.2.2.2.2.2.1
theorem dX1_goOn_84 : decode cX1_goOn 84 = .ok (.iload_n 3, 1) := gdX1_goOn_42.2.2.2.2.2.2.2.2.1
theorem dX1_goOn_85 : decode cX1_goOn 85 = .ok (.iadd, 1) := gdX1_goOn_42.2.2.2.2.2.2.2.2.2.1
theorem dX1_goOn_86 : decode cX1_goOn 86 = .ok (.iload 4, 2) := gdX1_goOn_42.2.2.2.2.2.2.2.2.2.2.1
theorem dX1_goOn_88 : decode cX1_goOn 88 = .ok (.iastore, 1) := gdX1_goOn_42.2.2.2.2.2.2.2.2.2.2.2
theorem gdX1_goOn_89 : decode cX1_goOn 89 = .ok (.iinc 3 1, 3) ∧ decode cX1_goOn 92 = .ok (.goto (-90), 3) ∧ decode cX1_goOn 45 = .ok (.ldc 73, 2) ∧ decode cX1_goOn 47 = .ok (.aload 5, 2) ∧ decode cX1_goOn 49 = .ok (.getfield 74, 3) ∧ decode cX1_goOn 52 = .ok (.ifCond .eq 13, 3) ∧ decode cX1_goOn 65 = .ok (.aload_n 0, 1) ∧ decode cX1_goOn 66 = .ok (.iload 4, 2) ∧ decode cX1_goOn 68 = .ok (.iload_n 2, 1) ∧ decode cX1_goOn 69 = .ok (.invokevirtual 81, 3) ∧ decode cX1_goOn 72 = .ok (.ior, 1) ∧ decode cX1_goOn 73 = .ok (.istore 4, 2) := by decide +kernel
theorem dX1_goOn_89 : decode cX1_goOn 89 = .ok (.iinc 3 1, 3) := gdX1_goOn_89.1
theorem dX1_goOn_92 : decode cX1_goOn 92 = .ok (.goto (-90), 3) := gdX1_goOn_89.2.1
theorem dX1_goOn_45 : decode cX1_goOn 45 = .ok (.ldc 73, 2) := gdX1_goOn_89.2.2.1
theorem dX1_goOn_47 : decode cX1_goOn 47 = .ok (.aload 5, 2) := gdX1_goOn_89.2.2.2.1
theorem dX1_goOn_49 : decode cX1_goOn 49 = .ok (.getfield 74, 3) := gdX1_goOn_89.2.2.2.2.1
theorem dX1_goOn_52 : decode cX1_goOn 52 = .ok (.ifCond .eq 13, 3) := gdX1_goOn_89.2.2.2.2.2.1
theorem dX1_goOn_65 : decode cX1_goOn 65 = .ok (.aload_n 0, 1) := gdX1_goOn_89.2.2.2.2.2.2.1
theorem dX1_goOn_66 : decode cX1_goOn 66 = .ok (.iload 4, 2) := gdX1_goOn_89.2.2.2.2.2.2.2.1
theorem dX1_goOn_68 : decode cX1_goOn 68 = .ok (.iload_n 2, 1) := gdX1_goOn_89.2.2.2.2.2.2.2.2.1
theorem dX1_goOn_69 : decode cX1_goOn 69 = .ok (.invokevirtual 81, 3) := gdX1_goOn_89.2.2.2.2.2.2.2.2.2.1
theorem dX1_goOn_72 : decode cX1_goOn 72 = .ok (.ior, 1) := gdX1_goOn_89.2.2.2.2.2.2.2.2.2.2.1
theorem dX1_goOn_73 : decode cX1_goOn 73 = .ok (.istore 4, 2) := gdX1_goOn_89.2.2.2.2.2.2.2.2.2.2.2
theorem gdX1_goOn_55 : decode cX1_goOn 55 = .ok (.aload_n 0, 1) ∧ decode cX1_goOn 56 = .ok (.iload 4, 2) ∧ decode cX1_goOn 58 = .ok (.iload_n 2, 1) ∧ decode cX1_goOn 59 = .ok (.invokevirtual 77, 3) := by decide +kernel
theorem dX1_goOn_55 : decode cX1_goOn 55 = .ok (.aload_n 0, 1) := gdX1_goOn_55.1
theorem dX1_goOn_56 : decode cX1_goOn 56 = .ok (.iload 4, 2) := gdX1_goOn_55.2.1
theorem dX1_goOn_58 : decode cX1_goOn 58 = .ok (.iload_n 2, 1) := gdX1_goOn_55.2.2.1
theorem dX1_goOn_59 : decode cX1_goOn 59 = .ok (.invokevirtual 77, 3) := gdX1_goOn_55.2.2.2
theorem k_X1_77 : xV RX1 RX1 77 yX1_turnedPath cX1_turnedPath 6 (some .int) 2 := ⟨⟨m_1179, m_1181, m_43, m_143, m_1182⟩, rfl, by decide, by decide, by decide +kernel⟩
theorem dX1_goOn_62 : decode cX1_goOn 62 = .ok (.goto 10, 3) := by decide +kernel
set_option maxHeartbeats 1000000 in
set_option maxRecDepth 100000 in
theorem s_goOn (l : Launch) (D : va_G) (cy : Nat → ClassId) (q0 : Nat) (q1 : Nat) (q2 : Nat) (q3 : Nat) (q4 : Nat) (er : Nat) (ql : Nat) (qo : Int32) (fph : Nat → Int32) (h0 : Nat) (h1 : Nat) (h2 : Nat) (h3 : Nat) (h4 : Nat) (h5 : Nat) (h6 : Nat) (h7 : Nat) (h8 : Nat) (h9 : Nat) (h10 : Nat) (h11 : Nat) (hv0 : Value) (hv1 : Value) (hv2 : Value) (hv3 : Value) (hv4 : Value) (fx : Nat → Int32) (fc : Nat → Int32) (c0 : Nat) (c1 : Nat) (c2 : Nat) (c3 : Nat) (ea : Nat → Nat) (eg : Nat → Nat) (ef : Nat → Nat) (et : Nat → Int32) (el : Nat → Nat) (ei : Nat → Nat) (gc : Nat → Nat → Int32) (xc : Nat → Nat → Int32) (dp : Nat) (wd : Nat) (hph : pRow fph) (hnx : rng fx 48 5) (hcn : cntOK fc c0 c1 c2 c3) (hc0 : c0 ≤ 8) (hc1 : c1 ≤ 4) (hc2 : c2 ≤ 4) (hc3 : c3 ≤ 6) (hdp : dp ≤ 3) (hwd : wd ≤ 7) : XMv l D (tyL cy) E0 yX1_goOn cX1_goOn 6 none (rmk 3 0 0) [.ref q0, .int (nI dp), .int (nI wd)] [wO q0 1 [.ref q1, .ref er, .ref q2, .ref q3, .ref q4, .ref h0, .int (nI ql), .int qo], wI (cy 1) q2 24 (fph), wO h0 4 [.ref h1, .ref h2, .ref h3, .ref h4, .ref h5, .ref h6, .ref h7, .ref h8, .ref h9, .ref h10, .ref h11, hv0, hv1, hv2, hv3, hv4], wI (cy 1) h7 48 (fx), wI (cy 1) h1 4 (fc), (er, .inl (cy 4, 4, .inr (.inr (.inr (.inr (eF (ea 0) (ea 1) (ea 2) (ea 3))))))), wO (ea 0) 2 [.ref (eg 0), .ref (ef 0), .int (et 0), .int (nI (el 0)), .int (nI (ei 0))], wI (cy 1) (eg 0) 10 (gc 0), wI (cy 1) (ef 0) 7 (xc 0), wO (ea 1) 2 [.ref (eg 1), .ref (ef 1), .int (et 1), .int (nI (el 1)), .int (nI (ei 1))], wI (cy 1) (eg 1) 10 (gc 1), wI (cy 1) (ef 1) 7 (xc 1), wO (ea 2) 2 [.ref (eg 2), .ref (ef 2), .int (et 2), .int (nI (el 2)), .int (nI (ei 2))], wI (cy 1) (eg 2) 10 (gc 2), wI (cy 1) (ef 2) 7 (xc 2), wO (ea 3) 2 [.ref (eg 3), .ref (ef 3), .int (et 3), .int (nI (el 3)), .int (nI (ei 3))], wI (cy 1) (eg 3) 10 (gc 3), wI (cy 1) (ef 3) 7 (xc 3)] (fun (fph2 : Nat → Int32) => (pRow fph2)) (fun (fph2 : Nat → Int32) => [wO q0 1 [.ref q1, .ref er, .ref q2, .ref q3, .ref q4, .ref h0, .int (nI ql), .int qo], wI (cy 1) q2 24 (fph2), wO h0 4 [.ref h1, .ref h2, .ref h3, .ref h4, .ref h5, .ref h6, .ref h7, .ref h8, .ref h9, .ref h10, .ref h11, hv0, hv1, hv2, hv3, hv4], wI (cy 1) h7 48 (fx), wI (cy 1) h1 4 (fc), (er, .inl (cy 4, 4, .inr (.inr (.inr (.inr (eF (ea 0) (ea 1) (ea 2) (ea 3))))))), wO (ea 0) 2 [.ref (eg 0), .ref (ef 0), .int (et 0), .int (nI (el 0)), .int (nI (ei 0))], wI (cy 1) (eg 0) 10 (gc 0), wI (cy 1) (ef 0) 7 (xc 0), wO (ea 1) 2 [.ref (eg 1), .ref (ef 1), .int (et 1), .int (nI (el 1)), .int (nI (ei 1))], wI (cy 1) (eg 1) 10 (gc 1), wI (cy 1) (ef 1) 7 (xc 1), wO (ea 2) 2 [.ref (eg 2), .ref (ef 2), .int (et 2), .int (nI (el 2)), .int (nI (ei 2))], wI (cy 1) (eg 2) 10 (gc 2), wI (cy 1) (ef 2) 7 (xc 2), wO (ea 3) 2 [.ref (eg 3), .ref (ef 3), .int (et 3), .int (nI (el 3)), .int (nI (ei 3))], wI (cy 1) (eg 3) 10 (gc 3), wI (cy 1) (ef 3) 7 (xc 3)]) := by
  refine XMv.start (by decide) (Nat.le_of_ble_eq_true rfl) ?_
  intro p e s m below meth c args A ls Q hat hQ
  obtain ⟨hx, hb, hr, hml, hown, hg, hlocks, hin, hK, hA, hP, hD, hS, hE, hl⟩ := hat
  have hown : s.vm.findClass RX1 = some m.cls := hown
  have hl : lv_has ls 6 [(0, .ref q0), (1, .int (nI dp)), (2, .int (nI wd))] := hl
  refine lv_iconst (v := 0) hx hb dX1_goOn_0 (by decide) ?_
  refine lv_istore_n (lv' := [(3, .int 0), (0, .ref q0), (1, .int (nI dp)), (2, .int (nI wd))]) hx hb dX1_goOn_1 rfl hl (by decide) rfl (fun ls hl => ?_)
  have loop1 : ∀ (zn : Nat) (i1 : Nat) (fa1_1 : Nat → Int32), (pRow fa1_1) → (i1 ≤ c1) → c1 - i1 + 1 ≤ zn → ∀ (H : Heap) (locs : List Loc), va_P D vwCl [wO q0 1 [.ref q1, .ref er, .ref q2, .ref q3, .ref q4, .ref h0, .int (nI ql), .int qo], wI (cy 1) q2 24 (fa1_1), wO h0 4 [.ref h1, .ref h2, .ref h3, .ref h4, .ref h5, .ref h6, .ref h7, .ref h8, .ref h9, .ref h10, .ref h11, hv0, hv1, hv2, hv3, hv4], wI (cy 1) h7 48 (fx), wI (cy 1) h1 4 (fc), (er, .inl (cy 4, 4, .inr (.inr (.inr (.inr (eF (ea 0) (ea 1) (ea 2) (ea 3))))))), wO (ea 0) 2 [.ref (eg 0), .ref (ef 0), .int (et 0), .int (nI (el 0)), .int (nI (ei 0))], wI (cy 1) (eg 0) 10 (gc 0), wI (cy 1) (ef 0) 7 (xc 0), wO (ea 1) 2 [.ref (eg 1), .ref (ef 1), .int (et 1), .int (nI (el 1)), .int (nI (ei 1))], wI (cy 1) (eg 1) 10 (gc 1), wI (cy 1) (ef 1) 7 (xc 1), wO (ea 2) 2 [.ref (eg 2), .ref (ef 2), .int (et 2), .int (nI (el 2)), .int (nI (ei 2))], wI (cy 1) (eg 2) 10 (gc 2), wI (cy 1) (ef 2) 7 (xc 2), wO (ea 3) 2 [.ref (eg 3), .ref (ef 3), .int (et 3), .int (nI (el 3)), .int (nI (ei 3))], wI (cy 1) (eg 3) 10 (gc 3), wI (cy 1) (ef 3) 7 (xc 3)] H → va_D A [wO q0 1 [.ref q1, .ref er, .ref q2, .ref q3, .ref q4, .ref h0, .int (nI ql), .int qo], wI (cy 1) q2 24 (fa1_1), wO h0 4 [.ref h1, .ref h2, .ref h3, .ref h4, .ref h5, .ref h6, .ref h7, .ref h8, .ref h9, .ref h10, .ref h11, hv0, hv1, hv2, hv3, hv4], wI (cy 1) h7 48 (fx), wI (cy 1) h1 4 (fc), (er, .inl (cy 4, 4, .inr (.inr (.inr (.inr (eF (ea 0) (ea 1) (ea 2) (ea 3))))))), wO (ea 0) 2 [.ref (eg 0), .ref (ef 0), .int (et 0), .int (nI (el 0)), .int (nI (ei 0))], wI (cy 1) (eg 0) 10 (gc 0), wI (cy 1) (ef 0) 7 (xc 0), wO (ea 1) 2 [.ref (eg 1), .ref (ef 1), .int (et 1), .int (nI (el 1)), .int (nI (ei 1))], wI (cy 1) (eg 1) 10 (gc 1), wI (cy 1) (ef 1) 7 (xc 1), wO (ea 2) 2 [.ref (eg 2), .ref (ef 2), .int (et 2), .int (nI (el 2)), .int (nI (ei 2))], wI (cy 1) (eg 2) 10 (gc 2), wI (cy 1) (ef 2) 7 (xc 2), wO (ea 3) 2 [.ref (eg 3), .ref (ef 3), .int (et 3), .int (nI (el 3)), .int (nI (ei 3))], wI (cy 1) (eg 3) 10 (gc 3), wI (cy 1) (ef 3) 7 (xc 3)] → va_S A s.heap H locs → ∀ ls : Array Slot, lv_has ls 6 [(3, .int (nI i1)), (0, .ref q0), (1, .int (nI dp)), (2, .int (nI wd))] → W p l e (rmk 3 0 0) s m args below meth c H locs 0 0 Q (F0 m 2 ls []) := by
    try clear hP hD hS
    intro zn
    induction zn with
    | zero => intro i1 fa1_1 _ _ hz; exact absurd hz (by omega)
    | succ zn ih1 =>
      intro i1 fa1_1 ha2_1 hf0_1 hmu1 H locs hP hD hS ls hl
      refine lv_iload_n hx hb dX1_goOn_2 rfl (lv_at hl 0 rfl) ?_
      refine lv_aload_n hx hb dX1_goOn_3 rfl (lv_at hl 1 rfl) ?_
      refine va_get (D := D) (ci := 1) (v := .ref h0) (C := RX1) (T := TX1) (N := 8) hx hb hg i_X1 hown hK hP 0 rfl rfl 5 (by decide) (hg _ m_558) (fun _ h9 => h9) rfl dX1_goOn_4 ?_
      refine va_get (D := D) (ci := 4) (v := .ref h1) (C := RX4) (T := TX4) (N := 16) hx hb hg i_X4 hown hK hP 2 rfl rfl 0 (by decide) (hg _ m_331) (fun _ h9 => h9) rfl dX1_goOn_7 ?_
      refine lv_iconst (v := 1) hx hb dX1_goOn_10 (by decide) ?_
      refine va_iald hx hb hK hP 4 1 rfl rfl (by unfold vp_in; decide) dX1_goOn_11 ?_
      refine lv_topi (fun y_2 hy_2 => ?_)
      obtain rfl : y_2 = nI c1 := hy_2.trans hcn.2.1
      refine lv_icmp_ge (tgt := 95) hx hb dX1_goOn_12 (by decide) (fun c_3 => ?_) (fun c_3 => ?_)
      · have q_4 : c1 ≤ i1 := q_le (a := c1) (b := i1) rfl rfl (by omega) (by omega) c_3
        exact x_vret hQ hx hb hr hlocks hK hP hD hS dX1_goOn_95 fa1_1 (ha2_1) [0, 1, 2, 3, 4, 5, 6, 7, 8, 9, 10, 11, 12, 13, 14, 15, 16, 17] (by decide +kernel) rfl (Nat.le_of_ble_eq_true rfl) (Nat.le_of_ble_eq_true rfl)
      · have q_4 : i1 < c1 := q_nle (a := c1) (b := i1) rfl rfl (by omega) (by omega) c_3
        refine lv_aload_n hx hb dX1_goOn_15 rfl (lv_at hl 1 rfl) ?_
        refine va_get (D := D) (ci := 1) (v := .ref q2) (C := RX1) (T := TX1) (N := 8) hx hb hg i_X1 hown hK hP 0 rfl rfl 2 (by decide) (hg _ m_555) (fun _ h9 => h9) rfl dX1_goOn_16 ?_
        refine lv_iload_n hx hb dX1_goOn_19 rfl (lv_at hl 2 rfl) ?_
        refine lv_iconst (v := 4) hx hb dX1_goOn_20 (by decide) ?_
        refine lv_imul hx hb dX1_goOn_21 ?_
        refine lv_topi (fun y_5 hy_5 => ?_)
        obtain rfl : y_5 = nI (dp * 4) := hy_5.trans (pk_mul dp 4)
        refine lv_iload_n hx hb dX1_goOn_22 rfl (lv_at hl 0 rfl) ?_
        refine lv_iadd hx hb dX1_goOn_23 ?_
        refine lv_topi (fun y_6 hy_6 => ?_)
        obtain rfl : y_6 = nI ((dp * 4) + i1) := hy_6.trans (nI_add ((dp * 4)) i1)
        refine va_iald hx hb hK hP 1 1 rfl rfl (vp_in_nI (by omega) (by decide)) dX1_goOn_24 ?_
        obtain ⟨v_7, hv_7, ev_7⟩ := pRow_at ha2_1 (i := ((dp * 4) + i1)) (by omega)
        have hbv_7 := hv_7.1
        refine lv_topi (fun y_8 hy_8 => ?_)
        obtain rfl : y_8 = nI v_7 := hy_8.trans ev_7
        refine lv_istore (lv' := [(4, .int (nI v_7)), (3, .int (nI i1)), (0, .ref q0), (1, .int (nI dp)), (2, .int (nI wd))]) hx hb dX1_goOn_25 hl (by decide) rfl (fun ls hl => ?_)
        refine lv_aload_n hx hb dX1_goOn_27 rfl (lv_at hl 2 rfl) ?_
        refine va_get (D := D) (ci := 1) (v := .ref er) (C := RX1) (T := TX1) (N := 8) hx hb hg i_X1 hown hK hP 0 rfl rfl 1 (by decide) (hg _ m_554) (fun _ h9 => h9) rfl dX1_goOn_28 ?_
        refine lv_iload_n hx hb dX1_goOn_31 rfl (lv_at hl 1 rfl) ?_
        rcases (show i1 = 0 ∨ i1 = 1 ∨ i1 = 2 ∨ i1 = 3 by omega) with hsp | hsp | hsp | hsp
        · subst hsp
          refine va_aldq hx hb hK hP 5 4 rfl rfl (by unfold vp_in; decide) dX1_goOn_32 ?_
          refine W.eq (g2 := F0 m 33 ls [.ref (ea 0)]) rfl ?_
          refine lv_astore (lv' := [(5, .ref (ea 0)), (4, .int (nI v_7)), (3, .int 0), (0, .ref q0), (1, .int (nI dp)), (2, .int (nI wd))]) hx hb dX1_goOn_33 hl (by decide) rfl (fun ls hl => ?_)
          refine lv_aload hx hb dX1_goOn_35 (lv_at hl 0 rfl) ?_
          refine lv_iload_n hx hb dX1_goOn_37 rfl (lv_at hl 4 rfl) ?_
          refine lv_iload_n hx hb dX1_goOn_38 rfl (lv_at hl 5 rfl) ?_
          refine x_callVi (q := (RX2, TX2, 5)) (ci := 2) (q0 := 0) (wr := [wO q0 1 [.ref q1, .ref er, .ref q2, .ref q3, .ref q4, .ref h0, .int (nI ql), .int qo], wI (cy 1) q2 24 (fa1_1), wO h0 4 [.ref h1, .ref h2, .ref h3, .ref h4, .ref h5, .ref h6, .ref h7, .ref h8, .ref h9, .ref h10, .ref h11, hv0, hv1, hv2, hv3, hv4], wI (cy 1) h7 48 (fx), wI (cy 1) h1 4 (fc), (er, .inl (cy 4, 4, .inr (.inr (.inr (.inr (eF (ea 0) (ea 1) (ea 2) (ea 3))))))), wI (cy 1) (ef 0) 7 (xc 0), wO (ea 1) 2 [.ref (eg 1), .ref (ef 1), .int (et 1), .int (nI (el 1)), .int (nI (ei 1))], wI (cy 1) (eg 1) 10 (gc 1), wI (cy 1) (ef 1) 7 (xc 1), wO (ea 2) 2 [.ref (eg 2), .ref (ef 2), .int (et 2), .int (nI (el 2)), .int (nI (ei 2))], wI (cy 1) (eg 2) 10 (gc 2), wI (cy 1) (ef 2) 7 (xc 2), wO (ea 3) 2 [.ref (eg 3), .ref (ef 3), .int (et 3), .int (nI (el 3)), .int (nI (ei 3))], wI (cy 1) (eg 3) 10 (gc 3), wI (cy 1) (ef 3) 7 (xc 3)]) (rest := []) ⟨hx, hb, hml, hown, hg, hl.1⟩ k_X1_70 (s_comesBack l D cy (ea 0) (eg 0) (ef 0) (et 0) ((el 0)) ((ei 0)) (gc 0) dp (nI wd) (by omega)) E0_blind hK hP hD hS hA [6, 7] [0, 1, 2, 3, 4, 5, 8, 9, 10, 11, 12, 13, 14, 15, 16, 17] ⟨rfl, rfl, by decide +kernel, by decide +kernel, by decide +kernel⟩ rfl rfl (fun _ _ _ => trivial) dX1_goOn_39 rfl rfl (Nat.le_of_ble_eq_true rfl) ⟨Nat.le_of_ble_eq_true rfl, Nat.le_of_ble_eq_true rfl⟩ ⟨Nat.le_of_ble_eq_true rfl, Nat.le_of_ble_eq_true rfl⟩ (fun zr9 zu9 H locs hw9 hP9 hD9 hS9 => ?_)
          clear hP hD hS
          refine reW [wO q0 1 [.ref q1, .ref er, .ref q2, .ref q3, .ref q4, .ref h0, .int (nI ql), .int qo], wI (cy 1) q2 24 (fa1_1), wO h0 4 [.ref h1, .ref h2, .ref h3, .ref h4, .ref h5, .ref h6, .ref h7, .ref h8, .ref h9, .ref h10, .ref h11, hv0, hv1, hv2, hv3, hv4], wI (cy 1) h7 48 (fx), wI (cy 1) h1 4 (fc), (er, .inl (cy 4, 4, .inr (.inr (.inr (.inr (eF (ea 0) (ea 1) (ea 2) (ea 3))))))), wI (cy 1) (ef 0) 7 (xc 0), wO (ea 1) 2 [.ref (eg 1), .ref (ef 1), .int (et 1), .int (nI (el 1)), .int (nI (ei 1))], wI (cy 1) (eg 1) 10 (gc 1), wI (cy 1) (ef 1) 7 (xc 1), wO (ea 2) 2 [.ref (eg 2), .ref (ef 2), .int (et 2), .int (nI (el 2)), .int (nI (ei 2))], wI (cy 1) (eg 2) 10 (gc 2), wI (cy 1) (ef 2) 7 (xc 2), wO (ea 3) 2 [.ref (eg 3), .ref (ef 3), .int (et 3), .int (nI (el 3)), .int (nI (ei 3))], wI (cy 1) (eg 3) 10 (gc 3), wI (cy 1) (ef 3) 7 (xc 3), wO (ea 0) 2 [.ref (eg 0), .ref (ef 0), .int (et 0), .int (nI ((el 0))), .int (nI ((ei 0)))], wI (cy 1) (eg 0) 10 (gc 0)] hP9 hD9 hS9 (fun hP hD hS => ?_)
          clear hP9 hD9 hS9
          refine W.widen (k := 0) (n := 0) (Nat.le_of_ble_eq_true rfl) (Nat.le_of_ble_eq_true rfl) ?_
          replace hw9 : (zr9 = 0 ∨ zr9 = 1) := hw9
          have f_10 := hw9
          refine lv_if_eq (tgt := 75) hx hb dX1_goOn_42 (by decide) (fun c_42 => ?_) (fun c_42 => ?_)
          · refine lv_aload_n hx hb dX1_goOn_75 rfl (lv_at hl 3 rfl) ?_
            refine va_get (D := D) (ci := 1) (v := .ref q2) (C := RX1) (T := TX1) (N := 8) hx hb hg i_X1 hown hK hP 0 rfl rfl 2 (by decide) (hg _ m_555) (fun _ h9 => h9) rfl dX1_goOn_76 ?_
            refine lv_iload_n hx hb dX1_goOn_79 rfl (lv_at hl 4 rfl) ?_
            refine lv_iconst (v := 1) hx hb dX1_goOn_80 (by decide) ?_
            refine lv_iadd hx hb dX1_goOn_81 ?_
            refine lv_topi (fun y_11 hy_11 => ?_)
            obtain rfl : y_11 = nI (dp + 1) := hy_11.trans (nI_add dp 1)
            refine lv_iconst (v := 4) hx hb dX1_goOn_82 (by decide) ?_
            refine lv_imul hx hb dX1_goOn_83 ?_
            refine lv_topi (fun y_12 hy_12 => ?_)
            obtain rfl : y_12 = nI ((dp + 1) * 4) := hy_12.trans (pk_mul ((dp + 1)) 4)
            refine lv_iload_n hx hb dX1_goOn_84 rfl (lv_at hl 2 rfl) ?_
            refine lv_iadd hx hb dX1_goOn_85 ?_
            refine lv_topi (fun y_13 hy_13 => ?_)
            obtain rfl : y_13 = nI (((dp + 1) * 4) + 0) := hy_13.trans (nI_add (((dp + 1) * 4)) 0)
            refine lv_iload hx hb dX1_goOn_86 (lv_at hl 1 rfl) ?_
            refine va_iast hx hb hK hP hD hS 1 1 rfl rfl (vp_in_nI (by omega) (by decide)) dX1_goOn_88 (fun H locs hP9 hD9 hS9 => ?_)
            clear hP hD hS
            have hP := hP9
            have hD := hD9
            have hS := hS9
            clear hP9 hD9 hS9
            obtain ⟨g_14, eg_14⟩ : ∃ y, upd fa1_1 (nI (((dp + 1) * 4) + 0) : Int32).toNatClampNeg (nI v_7) = y := ⟨_, rfl⟩
            rw [eg_14] at hP hD
            have hr_15 : pRow g_14 := eg_14 ▸ pRow_put (v := v_7) ha2_1 hv_7
            replace hP : va_P D vwCl [wO q0 1 [.ref q1, .ref er, .ref q2, .ref q3, .ref q4, .ref h0, .int (nI ql), .int qo], wI (cy 1) q2 24 (g_14), wO h0 4 [.ref h1, .ref h2, .ref h3, .ref h4, .ref h5, .ref h6, .ref h7, .ref h8, .ref h9, .ref h10, .ref h11, hv0, hv1, hv2, hv3, hv4], wI (cy 1) h7 48 (fx), wI (cy 1) h1 4 (fc), (er, .inl (cy 4, 4, .inr (.inr (.inr (.inr (eF (ea 0) (ea 1) (ea 2) (ea 3))))))), wI (cy 1) (ef 0) 7 (xc 0), wO (ea 1) 2 [.ref (eg 1), .ref (ef 1), .int (et 1), .int (nI (el 1)), .int (nI (ei 1))], wI (cy 1) (eg 1) 10 (gc 1), wI (cy 1) (ef 1) 7 (xc 1), wO (ea 2) 2 [.ref (eg 2), .ref (ef 2), .int (et 2), .int (nI (el 2)), .int (nI (ei 2))], wI (cy 1) (eg 2) 10 (gc 2), wI (cy 1) (ef 2) 7 (xc 2), wO (ea 3) 2 [.ref (eg 3), .ref (ef 3), .int (et 3), .int (nI (el 3)), .int (nI (ei 3))], wI (cy 1) (eg 3) 10 (gc 3), wI (cy 1) (ef 3) 7 (xc 3), wO (ea 0) 2 [.ref (eg 0), .ref (ef 0), .int (et 0), .int (nI ((el 0))), .int (nI ((ei 0)))], wI (cy 1) (eg 0) 10 (gc 0)] H := hP
            replace hD : va_D A [wO q0 1 [.ref q1, .ref er, .ref q2, .ref q3, .ref q4, .ref h0, .int (nI ql), .int qo], wI (cy 1) q2 24 (g_14), wO h0 4 [.ref h1, .ref h2, .ref h3, .ref h4, .ref h5, .ref h6, .ref h7, .ref h8, .ref h9, .ref h10, .ref h11, hv0, hv1, hv2, hv3, hv4], wI (cy 1) h7 48 (fx), wI (cy 1) h1 4 (fc), (er, .inl (cy 4, 4, .inr (.inr (.inr (.inr (eF (ea 0) (ea 1) (ea 2) (ea 3))))))), wI (cy 1) (ef 0) 7 (xc 0), wO (ea 1) 2 [.ref (eg 1), .ref (ef 1), .int (et 1), .int (nI (el 1)), .int (nI (ei 1))], wI (cy 1) (eg 1) 10 (gc 1), wI (cy 1) (ef 1) 7 (xc 1), wO (ea 2) 2 [.ref (eg 2), .ref (ef 2), .int (et 2), .int (nI (el 2)), .int (nI (ei 2))], wI (cy 1) (eg 2) 10 (gc 2), wI (cy 1) (ef 2) 7 (xc 2), wO (ea 3) 2 [.ref (eg 3), .ref (ef 3), .int (et 3), .int (nI (el 3)), .int (nI (ei 3))], wI (cy 1) (eg 3) 10 (gc 3), wI (cy 1) (ef 3) 7 (xc 3), wO (ea 0) 2 [.ref (eg 0), .ref (ef 0), .int (et 0), .int (nI ((el 0))), .int (nI ((ei 0)))], wI (cy 1) (eg 0) 10 (gc 0)] := hD
            refine lv_iinc (v := 1) (lv' := [(3, .int 1), (5, .ref (ea 0)), (4, .int (nI v_7)), (0, .ref q0), (1, .int (nI dp)), (2, .int (nI wd))]) hx hb dX1_goOn_89 hl (k := 2) rfl (by decide) (by decide) rfl (fun ls hl => ?_)
            refine lv_goto (tgt := 2) hx hb dX1_goOn_92 (by decide) ?_
            exact ih1  1 g_14 hr_15 (by omega) (by omega) _ _ (hP.sub [0, 1, 2, 3, 4, 5, 16, 17, 6, 7, 8, 9, 10, 11, 12, 13, 14, 15] rfl) (hD.sub [0, 1, 2, 3, 4, 5, 16, 17, 6, 7, 8, 9, 10, 11, 12, 13, 14, 15] (by decide +kernel) rfl) hS ls (lv_sub hl [0, 3, 4, 5] rfl)
          · refine lv_ldc (v := 262144) hx hb hown (hg _ m_1162) dX1_goOn_45 ?_
            refine lv_aload hx hb dX1_goOn_47 (lv_at hl 0 rfl) ?_
            refine va_get (D := D) (ci := 2) (v := .int (et 0)) (C := RX2) (T := TX2) (N := 5) hx hb hg i_X2 hown hK hP 16 rfl rfl 2 (by decide) (hg _ m_517) (fun _ h9 => h9) rfl dX1_goOn_49 ?_
            refine lv_if_eq (tgt := 65) hx hb dX1_goOn_52 (by decide) (fun c_52 => ?_) (fun c_52 => ?_)
            · refine lv_aload_n hx hb dX1_goOn_65 rfl (lv_at hl 3 rfl) ?_
              refine lv_iload hx hb dX1_goOn_66 (lv_at hl 1 rfl) ?_
              refine lv_iload_n hx hb dX1_goOn_68 rfl (lv_at hl 5 rfl) ?_
              refine x_callVi (q := (RX1, TX1, 8)) (ci := 1) (q0 := 0) (wr := [wI (cy 1) q2 24 (fa1_1), wI (cy 1) h1 4 (fc), (er, .inl (cy 4, 4, .inr (.inr (.inr (.inr (eF (ea 0) (ea 1) (ea 2) (ea 3))))))), wI (cy 1) (ef 0) 7 (xc 0), wO (ea 1) 2 [.ref (eg 1), .ref (ef 1), .int (et 1), .int (nI (el 1)), .int (nI (ei 1))], wI (cy 1) (eg 1) 10 (gc 1), wI (cy 1) (ef 1) 7 (xc 1), wO (ea 2) 2 [.ref (eg 2), .ref (ef 2), .int (et 2), .int (nI (el 2)), .int (nI (ei 2))], wI (cy 1) (eg 2) 10 (gc 2), wI (cy 1) (ef 2) 7 (xc 2), wO (ea 3) 2 [.ref (eg 3), .ref (ef 3), .int (et 3), .int (nI (el 3)), .int (nI (ei 3))], wI (cy 1) (eg 3) 10 (gc 3), wI (cy 1) (ef 3) 7 (xc 3), wO (ea 0) 2 [.ref (eg 0), .ref (ef 0), .int (et 0), .int (nI ((el 0))), .int (nI ((ei 0)))], wI (cy 1) (eg 0) 10 (gc 0)]) (rest := [.int 262144]) ⟨hx, hb, hml, hown, hg, hl.1⟩ k_X1_81 (s_straightPath l D cy q0 q1 q2 q3 q4 er ql qo h0 h1 h2 h3 h4 h5 h6 h7 h8 h9 h10 h11 hv0 hv1 hv2 hv3 hv4 fx v_7 wd (hnx) (hv_7) (by omega)) E0_blind hK hP hD hS hA [0, 2, 3] [1, 4, 5, 6, 7, 8, 9, 10, 11, 12, 13, 14, 15, 16, 17] ⟨rfl, rfl, by decide +kernel, by decide +kernel, by decide +kernel⟩ rfl rfl (fun _ _ _ => trivial) dX1_goOn_69 rfl rfl (Nat.le_of_ble_eq_true rfl) ⟨Nat.le_of_ble_eq_true rfl, Nat.le_of_ble_eq_true rfl⟩ ⟨Nat.le_of_ble_eq_true rfl, Nat.le_of_ble_eq_true rfl⟩ (fun zr16 zu16 H locs hw16 hP9 hD9 hS9 => ?_)
              clear hP hD hS
              obtain ⟨k_17, rfl⟩ : ∃ z, z = zu16 := ⟨_, rfl⟩
              refine reW [wI (cy 1) q2 24 (fa1_1), wI (cy 1) h1 4 (fc), (er, .inl (cy 4, 4, .inr (.inr (.inr (.inr (eF (ea 0) (ea 1) (ea 2) (ea 3))))))), wI (cy 1) (ef 0) 7 (xc 0), wO (ea 1) 2 [.ref (eg 1), .ref (ef 1), .int (et 1), .int (nI (el 1)), .int (nI (ei 1))], wI (cy 1) (eg 1) 10 (gc 1), wI (cy 1) (ef 1) 7 (xc 1), wO (ea 2) 2 [.ref (eg 2), .ref (ef 2), .int (et 2), .int (nI (el 2)), .int (nI (ei 2))], wI (cy 1) (eg 2) 10 (gc 2), wI (cy 1) (ef 2) 7 (xc 2), wO (ea 3) 2 [.ref (eg 3), .ref (ef 3), .int (et 3), .int (nI (el 3)), .int (nI (ei 3))], wI (cy 1) (eg 3) 10 (gc 3), wI (cy 1) (ef 3) 7 (xc 3), wO (ea 0) 2 [.ref (eg 0), .ref (ef 0), .int (et 0), .int (nI ((el 0))), .int (nI ((ei 0)))], wI (cy 1) (eg 0) 10 (gc 0), wO q0 1 [.ref q1, .ref er, .ref q2, .ref q3, .ref q4, .ref h0, .int (nI ql), .int qo], wO h0 4 [.ref h1, .ref h2, .ref h3, .ref h4, .ref h5, .ref h6, .ref h7, .ref h8, .ref h9, .ref h10, .ref h11, hv0, hv1, hv2, hv3, hv4], wI (cy 1) h7 48 (fx)] hP9 hD9 hS9 (fun hP hD hS => ?_)
              clear hP9 hD9 hS9
              refine W.widen (k := 0) (n := 0) (Nat.le_of_ble_eq_true rfl) (Nat.le_of_ble_eq_true rfl) ?_
              replace hw16 : (zr16 = nI k_17) ∧ (k_17 ≤ 5) := hw16
              obtain ⟨f_18, f_19⟩ := hw16
              subst f_18
              refine lv_ior hx hb dX1_goOn_72 ?_
              refine lv_topi (fun x_20 ex_20 => ?_)
              have hlt9 : k_17 < 262144 := by omega
              obtain rfl : x_20 = nI (262144 + k_17) := ex_20.trans (or_ans hlt9)
              have hpk_21 : pOK (262144 + k_17) := pOK_up (pOK_small (by omega)) hlt9
              refine lv_istore (lv' := [(4, .int (nI (262144 + k_17))), (5, .ref (ea 0)), (3, .int 0), (0, .ref q0), (1, .int (nI dp)), (2, .int (nI wd))]) hx hb dX1_goOn_73 hl (by decide) rfl (fun ls hl => ?_)
              refine lv_aload_n hx hb dX1_goOn_75 rfl (lv_at hl 3 rfl) ?_
              refine va_get (D := D) (ci := 1) (v := .ref q2) (C := RX1) (T := TX1) (N := 8) hx hb hg i_X1 hown hK hP 15 rfl rfl 2 (by decide) (hg _ m_555) (fun _ h9 => h9) rfl dX1_goOn_76 ?_
              refine lv_iload_n hx hb dX1_goOn_79 rfl (lv_at hl 4 rfl) ?_
              refine lv_iconst (v := 1) hx hb dX1_goOn_80 (by decide) ?_
              refine lv_iadd hx hb dX1_goOn_81 ?_
              refine lv_topi (fun y_22 hy_22 => ?_)
              obtain rfl : y_22 = nI (dp + 1) := hy_22.trans (nI_add dp 1)
              refine lv_iconst (v := 4) hx hb dX1_goOn_82 (by decide) ?_
              refine lv_imul hx hb dX1_goOn_83 ?_
              refine lv_topi (fun y_23 hy_23 => ?_)
              obtain rfl : y_23 = nI ((dp + 1) * 4) := hy_23.trans (pk_mul ((dp + 1)) 4)
              refine lv_iload_n hx hb dX1_goOn_84 rfl (lv_at hl 2 rfl) ?_
              refine lv_iadd hx hb dX1_goOn_85 ?_
              refine lv_topi (fun y_24 hy_24 => ?_)
              obtain rfl : y_24 = nI (((dp + 1) * 4) + 0) := hy_24.trans (nI_add (((dp + 1) * 4)) 0)
              refine lv_iload hx hb dX1_goOn_86 (lv_at hl 0 rfl) ?_
              refine va_iast hx hb hK hP hD hS 0 1 rfl rfl (vp_in_nI (by omega) (by decide)) dX1_goOn_88 (fun H locs hP9 hD9 hS9 => ?_)
              clear hP hD hS
              have hP := hP9
              have hD := hD9
              have hS := hS9
              clear hP9 hD9 hS9
              obtain ⟨g_25, eg_25⟩ : ∃ y, upd fa1_1 (nI (((dp + 1) * 4) + 0) : Int32).toNatClampNeg (nI (262144 + k_17)) = y := ⟨_, rfl⟩
              rw [eg_25] at hP hD
              have hr_26 : pRow g_25 := eg_25 ▸ pRow_put (v := (262144 + k_17)) ha2_1 hpk_21
              replace hP : va_P D vwCl [wI (cy 1) q2 24 (g_25), wI (cy 1) h1 4 (fc), (er, .inl (cy 4, 4, .inr (.inr (.inr (.inr (eF (ea 0) (ea 1) (ea 2) (ea 3))))))), wI (cy 1) (ef 0) 7 (xc 0), wO (ea 1) 2 [.ref (eg 1), .ref (ef 1), .int (et 1), .int (nI (el 1)), .int (nI (ei 1))], wI (cy 1) (eg 1) 10 (gc 1), wI (cy 1) (ef 1) 7 (xc 1), wO (ea 2) 2 [.ref (eg 2), .ref (ef 2), .int (et 2), .int (nI (el 2)), .int (nI (ei 2))], wI (cy 1) (eg 2) 10 (gc 2), wI (cy 1) (ef 2) 7 (xc 2), wO (ea 3) 2 [.ref (eg 3), .ref (ef 3), .int (et 3), .int (nI (el 3)), .int (nI (ei 3))], wI (cy 1) (eg 3) 10 (gc 3), wI (cy 1) (ef 3) 7 (xc 3), wO (ea 0) 2 [.ref (eg 0), .ref (ef 0), .int (et 0), .int (nI ((el 0))), .int (nI ((ei 0)))], wI (cy 1) (eg 0) 10 (gc 0), wO q0 1 [.ref q1, .ref er, .ref q2, .ref q3, .ref q4, .ref h0, .int (nI ql), .int qo], wO h0 4 [.ref h1, .ref h2, .ref h3, .ref h4, .ref h5, .ref h6, .ref h7, .ref h8, .ref h9, .ref h10, .ref h11, hv0, hv1, hv2, hv3, hv4], wI (cy 1) h7 48 (fx)] H := hP
              replace hD : va_D A [wI (cy 1) q2 24 (g_25), wI (cy 1) h1 4 (fc), (er, .inl (cy 4, 4, .inr (.inr (.inr (.inr (eF (ea 0) (ea 1) (ea 2) (ea 3))))))), wI (cy 1) (ef 0) 7 (xc 0), wO (ea 1) 2 [.ref (eg 1), .ref (ef 1), .int (et 1), .int (nI (el 1)), .int (nI (ei 1))], wI (cy 1) (eg 1) 10 (gc 1), wI (cy 1) (ef 1) 7 (xc 1), wO (ea 2) 2 [.ref (eg 2), .ref (ef 2), .int (et 2), .int (nI (el 2)), .int (nI (ei 2))], wI (cy 1) (eg 2) 10 (gc 2), wI (cy 1) (ef 2) 7 (xc 2), wO (ea 3) 2 [.ref (eg 3), .ref (ef 3), .int (et 3), .int (nI (el 3)), .int (nI (ei 3))], wI (cy 1) (eg 3) 10 (gc 3), wI (cy 1) (ef 3) 7 (xc 3), wO (ea 0) 2 [.ref (eg 0), .ref (ef 0), .int (et 0), .int (nI ((el 0))), .int (nI ((ei 0)))], wI (cy 1) (eg 0) 10 (gc 0), wO q0 1 [.ref q1, .ref er, .ref q2, .ref q3, .ref q4, .ref h0, .int (nI ql), .int qo], wO h0 4 [.ref h1, .ref h2, .ref h3, .ref h4, .ref h5, .ref h6, .ref h7, .ref h8, .ref h9, .ref h10, .ref h11, hv0, hv1, hv2, hv3, hv4], wI (cy 1) h7 48 (fx)] := hD
              refine lv_iinc (v := 1) (lv' := [(3, .int 1), (4, .int (nI (262144 + k_17))), (5, .ref (ea 0)), (0, .ref q0), (1, .int (nI dp)), (2, .int (nI wd))]) hx hb dX1_goOn_89 hl (k := 2) rfl (by decide) (by decide) rfl (fun ls hl => ?_)
              refine lv_goto (tgt := 2) hx hb dX1_goOn_92 (by decide) ?_
              exact ih1  1 g_25 hr_26 (by omega) (by omega) _ _ (hP.sub [15, 0, 16, 17, 1, 2, 13, 14, 3, 4, 5, 6, 7, 8, 9, 10, 11, 12] rfl) (hD.sub [15, 0, 16, 17, 1, 2, 13, 14, 3, 4, 5, 6, 7, 8, 9, 10, 11, 12] (by decide +kernel) rfl) hS ls (lv_sub hl [0, 3, 4, 5] rfl)
            · refine lv_aload_n hx hb dX1_goOn_55 rfl (lv_at hl 3 rfl) ?_
              refine lv_iload hx hb dX1_goOn_56 (lv_at hl 1 rfl) ?_
              refine lv_iload_n hx hb dX1_goOn_58 rfl (lv_at hl 5 rfl) ?_
              refine x_callVi (q := (RX1, TX1, 8)) (ci := 1) (q0 := 0) (wr := [wI (cy 1) q2 24 (fa1_1), (er, .inl (cy 4, 4, .inr (.inr (.inr (.inr (eF (ea 0) (ea 1) (ea 2) (ea 3))))))), wI (cy 1) (ef 0) 7 (xc 0), wO (ea 1) 2 [.ref (eg 1), .ref (ef 1), .int (et 1), .int (nI (el 1)), .int (nI (ei 1))], wI (cy 1) (eg 1) 10 (gc 1), wI (cy 1) (ef 1) 7 (xc 1), wO (ea 2) 2 [.ref (eg 2), .ref (ef 2), .int (et 2), .int (nI (el 2)), .int (nI (ei 2))], wI (cy 1) (eg 2) 10 (gc 2), wI (cy 1) (ef 2) 7 (xc 2), wO (ea 3) 2 [.ref (eg 3), .ref (ef 3), .int (et 3), .int (nI (el 3)), .int (nI (ei 3))], wI (cy 1) (eg 3) 10 (gc 3), wI (cy 1) (ef 3) 7 (xc 3), wO (ea 0) 2 [.ref (eg 0), .ref (ef 0), .int (et 0), .int (nI ((el 0))), .int (nI ((ei 0)))], wI (cy 1) (eg 0) 10 (gc 0)]) (rest := [.int 262144]) ⟨hx, hb, hml, hown, hg, hl.1⟩ k_X1_77 (s_turnedPath l D cy q0 q1 q2 q3 q4 er ql qo h0 h1 h2 h3 h4 h5 h6 h7 h8 h9 h10 h11 hv0 hv1 hv2 hv3 hv4 fx fc c0 c1 c2 c3 v_7 wd (hnx) (hcn) (by omega) (by omega) (by omega) (by omega) (hv_7) (by omega)) E0_blind hK hP hD hS hA [0, 2, 3, 4] [1, 5, 6, 7, 8, 9, 10, 11, 12, 13, 14, 15, 16, 17] ⟨rfl, rfl, by decide +kernel, by decide +kernel, by decide +kernel⟩ rfl rfl (fun _ _ _ => trivial) dX1_goOn_59 rfl rfl (Nat.le_of_ble_eq_true rfl) ⟨Nat.le_of_ble_eq_true rfl, Nat.le_of_ble_eq_true rfl⟩ ⟨Nat.le_of_ble_eq_true rfl, Nat.le_of_ble_eq_true rfl⟩ (fun zr27 zu27 H locs hw27 hP9 hD9 hS9 => ?_)
              clear hP hD hS
              obtain ⟨k_28, rfl⟩ : ∃ z, z = zu27 := ⟨_, rfl⟩
              refine reW [wI (cy 1) q2 24 (fa1_1), (er, .inl (cy 4, 4, .inr (.inr (.inr (.inr (eF (ea 0) (ea 1) (ea 2) (ea 3))))))), wI (cy 1) (ef 0) 7 (xc 0), wO (ea 1) 2 [.ref (eg 1), .ref (ef 1), .int (et 1), .int (nI (el 1)), .int (nI (ei 1))], wI (cy 1) (eg 1) 10 (gc 1), wI (cy 1) (ef 1) 7 (xc 1), wO (ea 2) 2 [.ref (eg 2), .ref (ef 2), .int (et 2), .int (nI (el 2)), .int (nI (ei 2))], wI (cy 1) (eg 2) 10 (gc 2), wI (cy 1) (ef 2) 7 (xc 2), wO (ea 3) 2 [.ref (eg 3), .ref (ef 3), .int (et 3), .int (nI (el 3)), .int (nI (ei 3))], wI (cy 1) (eg 3) 10 (gc 3), wI (cy 1) (ef 3) 7 (xc 3), wO (ea 0) 2 [.ref (eg 0), .ref (ef 0), .int (et 0), .int (nI ((el 0))), .int (nI ((ei 0)))], wI (cy 1) (eg 0) 10 (gc 0), wO q0 1 [.ref q1, .ref er, .ref q2, .ref q3, .ref q4, .ref h0, .int (nI ql), .int qo], wO h0 4 [.ref h1, .ref h2, .ref h3, .ref h4, .ref h5, .ref h6, .ref h7, .ref h8, .ref h9, .ref h10, .ref h11, hv0, hv1, hv2, hv3, hv4], wI (cy 1) h7 48 (fx), wI (cy 1) h1 4 (fc)] hP9 hD9 hS9 (fun hP hD hS => ?_)
              clear hP9 hD9 hS9
              refine W.widen (k := 0) (n := 0) (Nat.le_of_ble_eq_true rfl) (Nat.le_of_ble_eq_true rfl) ?_
              replace hw27 : (zr27 = nI k_28) ∧ (pOK k_28) ∧ (k_28 < 262144) := hw27
              obtain ⟨f_29, f_30, f_31⟩ := hw27
              subst f_29
              refine lv_goto (tgt := 72) hx hb dX1_goOn_62 (by decide) ?_
              refine lv_ior hx hb dX1_goOn_72 ?_
              refine lv_topi (fun x_32 ex_32 => ?_)
              have hlt9 : k_28 < 262144 := by omega
              obtain rfl : x_32 = nI (262144 + k_28) := ex_32.trans (or_ans hlt9)
              have hpk_33 : pOK (262144 + k_28) := pOK_up (f_30) hlt9
              refine lv_istore (lv' := [(4, .int (nI (262144 + k_28))), (5, .ref (ea 0)), (3, .int 0), (0, .ref q0), (1, .int (nI dp)), (2, .int (nI wd))]) hx hb dX1_goOn_73 hl (by decide) rfl (fun ls hl => ?_)
              refine lv_aload_n hx hb dX1_goOn_75 rfl (lv_at hl 3 rfl) ?_
              refine va_get (D := D) (ci := 1) (v := .ref q2) (C := RX1) (T := TX1) (N := 8) hx hb hg i_X1 hown hK hP 14 rfl rfl 2 (by decide) (hg _ m_555) (fun _ h9 => h9) rfl dX1_goOn_76 ?_
              refine lv_iload_n hx hb dX1_goOn_79 rfl (lv_at hl 4 rfl) ?_
              refine lv_iconst (v := 1) hx hb dX1_goOn_80 (by decide) ?_
              refine lv_iadd hx hb dX1_goOn_81 ?_
              refine lv_topi (fun y_34 hy_34 => ?_)
              obtain rfl : y_34 = nI (dp + 1) := hy_34.trans (nI_add dp 1)
              refine lv_iconst (v := 4) hx hb dX1_goOn_82 (by decide) ?_
              refine lv_imul hx hb dX1_goOn_83 ?_
              refine lv_topi (fun y_35 hy_35 => ?_)
              obtain rfl : y_35 = nI ((dp + 1) * 4) := hy_35.trans (pk_mul ((dp + 1)) 4)
              refine lv_iload_n hx hb dX1_goOn_84 rfl (lv_at hl 2 rfl) ?_
              refine lv_iadd hx hb dX1_goOn_85 ?_
              refine lv_topi (fun y_36 hy_36 => ?_)
              obtain rfl : y_36 = nI (((dp + 1) * 4) + 0) := hy_36.trans (nI_add (((dp + 1) * 4)) 0)
              refine lv_iload hx hb dX1_goOn_86 (lv_at hl 0 rfl) ?_
              refine va_iast hx hb hK hP hD hS 0 1 rfl rfl (vp_in_nI (by omega) (by decide)) dX1_goOn_88 (fun H locs hP9 hD9 hS9 => ?_)
              clear hP hD hS
              have hP := hP9
              have hD := hD9
              have hS := hS9
              clear hP9 hD9 hS9
              obtain ⟨g_37, eg_37⟩ : ∃ y, upd fa1_1 (nI (((dp + 1) * 4) + 0) : Int32).toNatClampNeg (nI (262144 + k_28)) = y := ⟨_, rfl⟩
              rw [eg_37] at hP hD
              have hr_38 : pRow g_37 := eg_37 ▸ pRow_put (v := (262144 + k_28)) ha2_1 hpk_33
              replace hP : va_P D vwCl [wI (cy 1) q2 24 (g_37), (er, .inl (cy 4, 4, .inr (.inr (.inr (.inr (eF (ea 0) (ea 1) (ea 2) (ea 3))))))), wI (cy 1) (ef 0) 7 (xc 0), wO (ea 1) 2 [.ref (eg 1), .ref (ef 1), .int (et 1), .int (nI (el 1)), .int (nI (ei 1))], wI (cy 1) (eg 1) 10 (gc 1), wI (cy 1) (ef 1) 7 (xc 1), wO (ea 2) 2 [.ref (eg 2), .ref (ef 2), .int (et 2), .int (nI (el 2)), .int (nI (ei 2))], wI (cy 1) (eg 2) 10 (gc 2), wI (cy 1) (ef 2) 7 (xc 2), wO (ea 3) 2 [.ref (eg 3), .ref (ef 3), .int (et 3), .int (nI (el 3)), .int (nI (ei 3))], wI (cy 1) (eg 3) 10 (gc 3), wI (cy 1) (ef 3) 7 (xc 3), wO (ea 0) 2 [.ref (eg 0), .ref (ef 0), .int (et 0), .int (nI ((el 0))), .int (nI ((ei 0)))], wI (cy 1) (eg 0) 10 (gc 0), wO q0 1 [.ref q1, .ref er, .ref q2, .ref q3, .ref q4, .ref h0, .int (nI ql), .int qo], wO h0 4 [.ref h1, .ref h2, .ref h3, .ref h4, .ref h5, .ref h6, .ref h7, .ref h8, .ref h9, .ref h10, .ref h11, hv0, hv1, hv2, hv3, hv4], wI (cy 1) h7 48 (fx), wI (cy 1) h1 4 (fc)] H := hP
              replace hD : va_D A [wI (cy 1) q2 24 (g_37), (er, .inl (cy 4, 4, .inr (.inr (.inr (.inr (eF (ea 0) (ea 1) (ea 2) (ea 3))))))), wI (cy 1) (ef 0) 7 (xc 0), wO (ea 1) 2 [.ref (eg 1), .ref (ef 1), .int (et 1), .int (nI (el 1)), .int (nI (ei 1))], wI (cy 1) (eg 1) 10 (gc 1), wI (cy 1) (ef 1) 7 (xc 1), wO (ea 2) 2 [.ref (eg 2), .ref (ef 2), .int (et 2), .int (nI (el 2)), .int (nI (ei 2))], wI (cy 1) (eg 2) 10 (gc 2), wI (cy 1) (ef 2) 7 (xc 2), wO (ea 3) 2 [.ref (eg 3), .ref (ef 3), .int (et 3), .int (nI (el 3)), .int (nI (ei 3))], wI (cy 1) (eg 3) 10 (gc 3), wI (cy 1) (ef 3) 7 (xc 3), wO (ea 0) 2 [.ref (eg 0), .ref (ef 0), .int (et 0), .int (nI ((el 0))), .int (nI ((ei 0)))], wI (cy 1) (eg 0) 10 (gc 0), wO q0 1 [.ref q1, .ref er, .ref q2, .ref q3, .ref q4, .ref h0, .int (nI ql), .int qo], wO h0 4 [.ref h1, .ref h2, .ref h3, .ref h4, .ref h5, .ref h6, .ref h7, .ref h8, .ref h9, .ref h10, .ref h11, hv0, hv1, hv2, hv3, hv4], wI (cy 1) h7 48 (fx), wI (cy 1) h1 4 (fc)] := hD
              refine lv_iinc (v := 1) (lv' := [(3, .int 1), (4, .int (nI (262144 + k_28))), (5, .ref (ea 0)), (0, .ref q0), (1, .int (nI dp)), (2, .int (nI wd))]) hx hb dX1_goOn_89 hl (k := 2) rfl (by decide) (by decide) rfl (fun ls hl => ?_)
              refine lv_goto (tgt := 2) hx hb dX1_goOn_92 (by decide) ?_
              exact ih1  1 g_37 hr_38 (by omega) (by omega) _ _ (hP.sub [14, 0, 15, 16, 17, 1, 12, 13, 2, 3, 4, 5, 6, 7, 8, 9, 10, 11] rfl) (hD.sub [14, 0, 15, 16, 17, 1, 12, 13, 2, 3, 4, 5, 6, 7, 8, 9, 10, 11] (by decide +kernel) rfl) hS ls (lv_sub hl [0, 3, 4, 5] rfl)
        · subst hsp
          refine va_aldq hx hb hK hP 5 4 rfl rfl (by unfold vp_in; decide) dX1_goOn_32 ?_
          refine W.eq (g2 := F0 m 33 ls [.ref (ea 1)]) rfl ?_
          refine lv_astore (lv' := [(5, .ref (ea 1)), (4, .int (nI v_7)), (3, .int 1), (0, .ref q0), (1, .int (nI dp)), (2, .int (nI wd))]) hx hb dX1_goOn_33 hl (by decide) rfl (fun ls hl => ?_)
          refine lv_aload hx hb dX1_goOn_35 (lv_at hl 0 rfl) ?_
          refine lv_iload_n hx hb dX1_goOn_37 rfl (lv_at hl 4 rfl) ?_
          refine lv_iload_n hx hb dX1_goOn_38 rfl (lv_at hl 5 rfl) ?_
          refine x_callVi (q := (RX2, TX2, 5)) (ci := 2) (q0 := 0) (wr := [wO q0 1 [.ref q1, .ref er, .ref q2, .ref q3, .ref q4, .ref h0, .int (nI ql), .int qo], wI (cy 1) q2 24 (fa1_1), wO h0 4 [.ref h1, .ref h2, .ref h3, .ref h4, .ref h5, .ref h6, .ref h7, .ref h8, .ref h9, .ref h10, .ref h11, hv0, hv1, hv2, hv3, hv4], wI (cy 1) h7 48 (fx), wI (cy 1) h1 4 (fc), (er, .inl (cy 4, 4, .inr (.inr (.inr (.inr (eF (ea 0) (ea 1) (ea 2) (ea 3))))))), wO (ea 0) 2 [.ref (eg 0), .ref (ef 0), .int (et 0), .int (nI (el 0)), .int (nI (ei 0))], wI (cy 1) (eg 0) 10 (gc 0), wI (cy 1) (ef 0) 7 (xc 0), wI (cy 1) (ef 1) 7 (xc 1), wO (ea 2) 2 [.ref (eg 2), .ref (ef 2), .int (et 2), .int (nI (el 2)), .int (nI (ei 2))], wI (cy 1) (eg 2) 10 (gc 2), wI (cy 1) (ef 2) 7 (xc 2), wO (ea 3) 2 [.ref (eg 3), .ref (ef 3), .int (et 3), .int (nI (el 3)), .int (nI (ei 3))], wI (cy 1) (eg 3) 10 (gc 3), wI (cy 1) (ef 3) 7 (xc 3)]) (rest := []) ⟨hx, hb, hml, hown, hg, hl.1⟩ k_X1_70 (s_comesBack l D cy (ea 1) (eg 1) (ef 1) (et 1) ((el 1)) ((ei 1)) (gc 1) dp (nI wd) (by omega)) E0_blind hK hP hD hS hA [9, 10] [0, 1, 2, 3, 4, 5, 6, 7, 8, 11, 12, 13, 14, 15, 16, 17] ⟨rfl, rfl, by decide +kernel, by decide +kernel, by decide +kernel⟩ rfl rfl (fun _ _ _ => trivial) dX1_goOn_39 rfl rfl (Nat.le_of_ble_eq_true rfl) ⟨Nat.le_of_ble_eq_true rfl, Nat.le_of_ble_eq_true rfl⟩ ⟨Nat.le_of_ble_eq_true rfl, Nat.le_of_ble_eq_true rfl⟩ (fun zr39 zu39 H locs hw39 hP9 hD9 hS9 => ?_)
          clear hP hD hS
          refine reW [wO q0 1 [.ref q1, .ref er, .ref q2, .ref q3, .ref q4, .ref h0, .int (nI ql), .int qo], wI (cy 1) q2 24 (fa1_1), wO h0 4 [.ref h1, .ref h2, .ref h3, .ref h4, .ref h5, .ref h6, .ref h7, .ref h8, .ref h9, .ref h10, .ref h11, hv0, hv1, hv2, hv3, hv4], wI (cy 1) h7 48 (fx), wI (cy 1) h1 4 (fc), (er, .inl (cy 4, 4, .inr (.inr (.inr (.inr (eF (ea 0) (ea 1) (ea 2) (ea 3))))))), wO (ea 0) 2 [.ref (eg 0), .ref (ef 0), .int (et 0), .int (nI (el 0)), .int (nI (ei 0))], wI (cy 1) (eg 0) 10 (gc 0), wI (cy 1) (ef 0) 7 (xc 0), wI (cy 1) (ef 1) 7 (xc 1), wO (ea 2) 2 [.ref (eg 2), .ref (ef 2), .int (et 2), .int (nI (el 2)), .int (nI (ei 2))], wI (cy 1) (eg 2) 10 (gc 2), wI (cy 1) (ef 2) 7 (xc 2), wO (ea 3) 2 [.ref (eg 3), .ref (ef 3), .int (et 3), .int (nI (el 3)), .int (nI (ei 3))], wI (cy 1) (eg 3) 10 (gc 3), wI (cy 1) (ef 3) 7 (xc 3), wO (ea 1) 2 [.ref (eg 1), .ref (ef 1), .int (et 1), .int (nI ((el 1))), .int (nI ((ei 1)))], wI (cy 1) (eg 1) 10 (gc 1)] hP9 hD9 hS9 (fun hP hD hS => ?_)
          clear hP9 hD9 hS9
          refine W.widen (k := 0) (n := 0) (Nat.le_of_ble_eq_true rfl) (Nat.le_of_ble_eq_true rfl) ?_
          replace hw39 : (zr39 = 0 ∨ zr39 = 1) := hw39
          have f_40 := hw39
          refine lv_if_eq (tgt := 75) hx hb dX1_goOn_42 (by decide) (fun c_42 => ?_) (fun c_42 => ?_)
          · refine lv_aload_n hx hb dX1_goOn_75 rfl (lv_at hl 3 rfl) ?_
            refine va_get (D := D) (ci := 1) (v := .ref q2) (C := RX1) (T := TX1) (N := 8) hx hb hg i_X1 hown hK hP 0 rfl rfl 2 (by decide) (hg _ m_555) (fun _ h9 => h9) rfl dX1_goOn_76 ?_
            refine lv_iload_n hx hb dX1_goOn_79 rfl (lv_at hl 4 rfl) ?_
            refine lv_iconst (v := 1) hx hb dX1_goOn_80 (by decide) ?_
            refine lv_iadd hx hb dX1_goOn_81 ?_
            refine lv_topi (fun y_41 hy_41 => ?_)
            obtain rfl : y_41 = nI (dp + 1) := hy_41.trans (nI_add dp 1)
            refine lv_iconst (v := 4) hx hb dX1_goOn_82 (by decide) ?_
            refine lv_imul hx hb dX1_goOn_83 ?_
            refine lv_topi (fun y_42 hy_42 => ?_)
            obtain rfl : y_42 = nI ((dp + 1) * 4) := hy_42.trans (pk_mul ((dp + 1)) 4)
            refine lv_iload_n hx hb dX1_goOn_84 rfl (lv_at hl 2 rfl) ?_
            refine lv_iadd hx hb dX1_goOn_85 ?_
            refine lv_topi (fun y_43 hy_43 => ?_)
            obtain rfl : y_43 = nI (((dp + 1) * 4) + 1) := hy_43.trans (nI_add (((dp + 1) * 4)) 1)
            refine lv_iload hx hb dX1_goOn_86 (lv_at hl 1 rfl) ?_
            refine va_iast hx hb hK hP hD hS 1 1 rfl rfl (vp_in_nI (by omega) (by decide)) dX1_goOn_88 (fun H locs hP9 hD9 hS9 => ?_)
            clear hP hD hS
            have hP := hP9
            have hD := hD9
            have hS := hS9
            clear hP9 hD9 hS9
            obtain ⟨g_44, eg_44⟩ : ∃ y, upd fa1_1 (nI (((dp + 1) * 4) + 1) : Int32).toNatClampNeg (nI v_7) = y := ⟨_, rfl⟩
            rw [eg_44] at hP hD
            have hr_45 : pRow g_44 := eg_44 ▸ pRow_put (v := v_7) ha2_1 hv_7
            replace hP : va_P D vwCl [wO q0 1 [.ref q1, .ref er, .ref q2, .ref q3, .ref q4, .ref h0, .int (nI ql), .int qo], wI (cy 1) q2 24 (g_44), wO h0 4 [.ref h1, .ref h2, .ref h3, .ref h4, .ref h5, .ref h6, .ref h7, .ref h8, .ref h9, .ref h10, .ref h11, hv0, hv1, hv2, hv3, hv4], wI (cy 1) h7 48 (fx), wI (cy 1) h1 4 (fc), (er, .inl (cy 4, 4, .inr (.inr (.inr (.inr (eF (ea 0) (ea 1) (ea 2) (ea 3))))))), wO (ea 0) 2 [.ref (eg 0), .ref (ef 0), .int (et 0), .int (nI (el 0)), .int (nI (ei 0))], wI (cy 1) (eg 0) 10 (gc 0), wI (cy 1) (ef 0) 7 (xc 0), wI (cy 1) (ef 1) 7 (xc 1), wO (ea 2) 2 [.ref (eg 2), .ref (ef 2), .int (et 2), .int (nI (el 2)), .int (nI (ei 2))], wI (cy 1) (eg 2) 10 (gc 2), wI (cy 1) (ef 2) 7 (xc 2), wO (ea 3) 2 [.ref (eg 3), .ref (ef 3), .int (et 3), .int (nI (el 3)), .int (nI (ei 3))], wI (cy 1) (eg 3) 10 (gc 3), wI (cy 1) (ef 3) 7 (xc 3), wO (ea 1) 2 [.ref (eg 1), .ref (ef 1), .int (et 1), .int (nI ((el 1))), .int (nI ((ei 1)))], wI (cy 1) (eg 1) 10 (gc 1)] H := hP
            replace hD : va_D A [wO q0 1 [.ref q1, .ref er, .ref q2, .ref q3, .ref q4, .ref h0, .int (nI ql), .int qo], wI (cy 1) q2 24 (g_44), wO h0 4 [.ref h1, .ref h2, .ref h3, .ref h4, .ref h5, .ref h6, .ref h7, .ref h8, .ref h9, .ref h10, .ref h11, hv0, hv1, hv2, hv3, hv4], wI (cy 1) h7 48 (fx), wI (cy 1) h1 4 (fc), (er, .inl (cy 4, 4, .inr (.inr (.inr (.inr (eF (ea 0) (ea 1) (ea 2) (ea 3))))))), wO (ea 0) 2 [.ref (eg 0), .ref (ef 0), .int (et 0), .int (nI (el 0)), .int (nI (ei 0))], wI (cy 1) (eg 0) 10 (gc 0), wI (cy 1) (ef 0) 7 (xc 0), wI (cy 1) (ef 1) 7 (xc 1), wO (ea 2) 2 [.ref (eg 2), .ref (ef 2), .int (et 2), .int (nI (el 2)), .int (nI (ei 2))], wI (cy 1) (eg 2) 10 (gc 2), wI (cy 1) (ef 2) 7 (xc 2), wO (ea 3) 2 [.ref (eg 3), .ref (ef 3), .int (et 3), .int (nI (el 3)), .int (nI (ei 3))], wI (cy 1) (eg 3) 10 (gc 3), wI (cy 1) (ef 3) 7 (xc 3), wO (ea 1) 2 [.ref (eg 1), .ref (ef 1), .int (et 1), .int (nI ((el 1))), .int (nI ((ei 1)))], wI (cy 1) (eg 1) 10 (gc 1)] := hD
            refine lv_iinc (v := 2) (lv' := [(3, .int 2), (5, .ref (ea 1)), (4, .int (nI v_7)), (0, .ref q0), (1, .int (nI dp)), (2, .int (nI wd))]) hx hb dX1_goOn_89 hl (k := 2) rfl (by decide) (by decide) rfl (fun ls hl => ?_)
            refine lv_goto (tgt := 2) hx hb dX1_goOn_92 (by decide) ?_
            exact ih1  2 g_44 hr_45 (by omega) (by omega) _ _ (hP.sub [0, 1, 2, 3, 4, 5, 6, 7, 8, 16, 17, 9, 10, 11, 12, 13, 14, 15] rfl) (hD.sub [0, 1, 2, 3, 4, 5, 6, 7, 8, 16, 17, 9, 10, 11, 12, 13, 14, 15] (by decide +kernel) rfl) hS ls (lv_sub hl [0, 3, 4, 5] rfl)
          · refine lv_ldc (v := 262144) hx hb hown (hg _ m_1162) dX1_goOn_45 ?_
            refine lv_aload hx hb dX1_goOn_47 (lv_at hl 0 rfl) ?_
            refine va_get (D := D) (ci := 2) (v := .int (et 1)) (C := RX2) (T := TX2) (N := 5) hx hb hg i_X2 hown hK hP 16 rfl rfl 2 (by decide) (hg _ m_517) (fun _ h9 => h9) rfl dX1_goOn_49 ?_
            refine lv_if_eq (tgt := 65) hx hb dX1_goOn_52 (by decide) (fun c_52 => ?_) (fun c_52 => ?_)
            · refine lv_aload_n hx hb dX1_goOn_65 rfl (lv_at hl 3 rfl) ?_
              refine lv_iload hx hb dX1_goOn_66 (lv_at hl 1 rfl) ?_
              refine lv_iload_n hx hb dX1_goOn_68 rfl (lv_at hl 5 rfl) ?_
              refine x_callVi (q := (RX1, TX1, 8)) (ci := 1) (q0 := 0) (wr := [wI (cy 1) q2 24 (fa1_1), wI (cy 1) h1 4 (fc), (er, .inl (cy 4, 4, .inr (.inr (.inr (.inr (eF (ea 0) (ea 1) (ea 2) (ea 3))))))), wO (ea 0) 2 [.ref (eg 0), .ref (ef 0), .int (et 0), .int (nI (el 0)), .int (nI (ei 0))], wI (cy 1) (eg 0) 10 (gc 0), wI (cy 1) (ef 0) 7 (xc 0), wI (cy 1) (ef 1) 7 (xc 1), wO (ea 2) 2 [.ref (eg 2), .ref (ef 2), .int (et 2), .int (nI (el 2)), .int (nI (ei 2))], wI (cy 1) (eg 2) 10 (gc 2), wI (cy 1) (ef 2) 7 (xc 2), wO (ea 3) 2 [.ref (eg 3), .ref (ef 3), .int (et 3), .int (nI (el 3)), .int (nI (ei 3))], wI (cy 1) (eg 3) 10 (gc 3), wI (cy 1) (ef 3) 7 (xc 3), wO (ea 1) 2 [.ref (eg 1), .ref (ef 1), .int (et 1), .int (nI ((el 1))), .int (nI ((ei 1)))], wI (cy 1) (eg 1) 10 (gc 1)]) (rest := [.int 262144]) ⟨hx, hb, hml, hown, hg, hl.1⟩ k_X1_81 (s_straightPath l D cy q0 q1 q2 q3 q4 er ql qo h0 h1 h2 h3 h4 h5 h6 h7 h8 h9 h10 h11 hv0 hv1 hv2 hv3 hv4 fx v_7 wd (hnx) (hv_7) (by omega)) E0_blind hK hP hD hS hA [0, 2, 3] [1, 4, 5, 6, 7, 8, 9, 10, 11, 12, 13, 14, 15, 16, 17] ⟨rfl, rfl, by decide +kernel, by decide +kernel, by decide +kernel⟩ rfl rfl (fun _ _ _ => trivial) dX1_goOn_69 rfl rfl (Nat.le_of_ble_eq_true rfl) ⟨Nat.le_of_ble_eq_true rfl, Nat.le_of_ble_eq_true rfl⟩ ⟨Nat.le_of_ble_eq_true rfl, Nat.le_of_ble_eq_true rfl⟩ (fun zr46 zu46 H locs hw46 hP9 hD9 hS9 => ?_)
              clear hP hD hS
              obtain ⟨k_47, rfl⟩ : ∃ z, z = zu46 := ⟨_, rfl⟩
              refine reW [wI (cy 1) q2 24 (fa1_1), wI (cy 1) h1 4 (fc), (er, .inl (cy 4, 4, .inr (.inr (.inr (.inr (eF (ea 0) (ea 1) (ea 2) (ea 3))))))), wO (ea 0) 2 [.ref (eg 0), .ref (ef 0), .int (et 0), .int (nI (el 0)), .int (nI (ei 0))], wI (cy 1) (eg 0) 10 (gc 0), wI (cy 1) (ef 0) 7 (xc 0), wI (cy 1) (ef 1) 7 (xc 1), wO (ea 2) 2 [.ref (eg 2), .ref (ef 2), .int (et 2), .int (nI (el 2)), .int (nI (ei 2))], wI (cy 1) (eg 2) 10 (gc 2), wI (cy 1) (ef 2) 7 (xc 2), wO (ea 3) 2 [.ref (eg 3), .ref (ef 3), .int (et 3), .int (nI (el 3)), .int (nI (ei 3))], wI (cy 1) (eg 3) 10 (gc 3), wI (cy 1) (ef 3) 7 (xc 3), wO (ea 1) 2 [.ref (eg 1), .ref (ef 1), .int (et 1), .int (nI ((el 1))), .int (nI ((ei 1)))], wI (cy 1) (eg 1) 10 (gc 1), wO q0 1 [.ref q1, .ref er, .ref q2, .ref q3, .ref q4, .ref h0, .int (nI ql), .int qo], wO h0 4 [.ref h1, .ref h2, .ref h3, .ref h4, .ref h5, .ref h6, .ref h7, .ref h8, .ref h9, .ref h10, .ref h11, hv0, hv1, hv2, hv3, hv4], wI (cy 1) h7 48 (fx)] hP9 hD9 hS9 (fun hP hD hS => ?_)
              clear hP9 hD9 hS9
              refine W.widen (k := 0) (n := 0) (Nat.le_of_ble_eq_true rfl) (Nat.le_of_ble_eq_true rfl) ?_
              replace hw46 : (zr46 = nI k_47) ∧ (k_47 ≤ 5) := hw46
              obtain ⟨f_48, f_49⟩ := hw46
              subst f_48
              refine lv_ior hx hb dX1_goOn_72 ?_
              refine lv_topi (fun x_50 ex_50 => ?_)
              have hlt9 : k_47 < 262144 := by omega
              obtain rfl : x_50 = nI (262144 + k_47) := ex_50.trans (or_ans hlt9)
              have hpk_51 : pOK (262144 + k_47) := pOK_up (pOK_small (by omega)) hlt9
              refine lv_istore (lv' := [(4, .int (nI (262144 + k_47))), (5, .ref (ea 1)), (3, .int 1), (0, .ref q0), (1, .int (nI dp)), (2, .int (nI wd))]) hx hb dX1_goOn_73 hl (by decide) rfl (fun ls hl => ?_)
              refine lv_aload_n hx hb dX1_goOn_75 rfl (lv_at hl 3 rfl) ?_
              refine va_get (D := D) (ci := 1) (v := .ref q2) (C := RX1) (T := TX1) (N := 8) hx hb hg i_X1 hown hK hP 15 rfl rfl 2 (by decide) (hg _ m_555) (fun _ h9 => h9) rfl dX1_goOn_76 ?_
              refine lv_iload_n hx hb dX1_goOn_79 rfl (lv_at hl 4 rfl) ?_
              refine lv_iconst (v := 1) hx hb dX1_goOn_80 (by decide) ?_
              refine lv_iadd hx hb dX1_goOn_81 ?_
              refine lv_topi (fun y_52 hy_52 => ?_)
              obtain rfl : y_52 = nI (dp + 1) := hy_52.trans (nI_add dp 1)
              refine lv_iconst (v := 4) hx hb dX1_goOn_82 (by decide) ?_
              refine lv_imul hx hb dX1_goOn_83 ?_
              refine lv_topi (fun y_53 hy_53 => ?_)
              obtain rfl : y_53 = nI ((dp + 1) * 4) := hy_53.trans (pk_mul ((dp + 1)) 4)
              refine lv_iload_n hx hb dX1_goOn_84 rfl (lv_at hl 2 rfl) ?_
              refine lv_iadd hx hb dX1_goOn_85 ?_
              refine lv_topi (fun y_54 hy_54 => ?_)
              obtain rfl : y_54 = nI (((dp + 1) * 4) + 1) := hy_54.trans (nI_add (((dp + 1) * 4)) 1)
              refine lv_iload hx hb dX1_goOn_86 (lv_at hl 0 rfl) ?_
              refine va_iast hx hb hK hP hD hS 0 1 rfl rfl (vp_in_nI (by omega) (by decide)) dX1_goOn_88 (fun H locs hP9 hD9 hS9 => ?_)
              clear hP hD hS
              have hP := hP9
              have hD := hD9
              have hS := hS9
              clear hP9 hD9 hS9
              obtain ⟨g_55, eg_55⟩ : ∃ y, upd fa1_1 (nI (((dp + 1) * 4) + 1) : Int32).toNatClampNeg (nI (262144 + k_47)) = y := ⟨_, rfl⟩
              rw [eg_55] at hP hD
              have hr_56 : pRow g_55 := eg_55 ▸ pRow_put (v := (262144 + k_47)) ha2_1 hpk_51
              replace hP : va_P D vwCl [wI (cy 1) q2 24 (g_55), wI (cy 1) h1 4 (fc), (er, .inl (cy 4, 4, .inr (.inr (.inr (.inr (eF (ea 0) (ea 1) (ea 2) (ea 3))))))), wO (ea 0) 2 [.ref (eg 0), .ref (ef 0), .int (et 0), .int (nI (el 0)), .int (nI (ei 0))], wI (cy 1) (eg 0) 10 (gc 0), wI (cy 1) (ef 0) 7 (xc 0), wI (cy 1) (ef 1) 7 (xc 1), wO (ea 2) 2 [.ref (eg 2), .ref (ef 2), .int (et 2), .int (nI (el 2)), .int (nI (ei 2))], wI (cy 1) (eg 2) 10 (gc 2), wI (cy 1) (ef 2) 7 (xc 2), wO (ea 3) 2 [.ref (eg 3), .ref (ef 3), .int (et 3), .int (nI (el 3)), .int (nI (ei 3))], wI (cy 1) (eg 3) 10 (gc 3), wI (cy 1) (ef 3) 7 (xc 3), wO (ea 1) 2 [.ref (eg 1), .ref (ef 1), .int (et 1), .int (nI ((el 1))), .int (nI ((ei 1)))], wI (cy 1) (eg 1) 10 (gc 1), wO q0 1 [.ref q1, .ref er, .ref q2, .ref q3, .ref q4, .ref h0, .int (nI ql), .int qo], wO h0 4 [.ref h1, .ref h2, .ref h3, .ref h4, .ref h5, .ref h6, .ref h7, .ref h8, .ref h9, .ref h10, .ref h11, hv0, hv1, hv2, hv3, hv4], wI (cy 1) h7 48 (fx)] H := hP
              replace hD : va_D A [wI (cy 1) q2 24 (g_55), wI (cy 1) h1 4 (fc), (er, .inl (cy 4, 4, .inr (.inr (.inr (.inr (eF (ea 0) (ea 1) (ea 2) (ea 3))))))), wO (ea 0) 2 [.ref (eg 0), .ref (ef 0), .int (et 0), .int (nI (el 0)), .int (nI (ei 0))], wI (cy 1) (eg 0) 10 (gc 0), wI (cy 1) (ef 0) 7 (xc 0), wI (cy 1) (ef 1) 7 (xc 1), wO (ea 2) 2 [.ref (eg 2), .ref (ef 2), .int (et 2), .int (nI (el 2)), .int (nI (ei 2))], wI (cy 1) (eg 2) 10 (gc 2), wI (cy 1) (ef 2) 7 (xc 2), wO (ea 3) 2 [.ref (eg 3), .ref (ef 3), .int (et 3), .int (nI (el 3)), .int (nI (ei 3))], wI (cy 1) (eg 3) 10 (gc 3), wI (cy 1) (ef 3) 7 (xc 3), wO (ea 1) 2 [.ref (eg 1), .ref (ef 1), .int (et 1), .int (nI ((el 1))), .int (nI ((ei 1)))], wI (cy 1) (eg 1) 10 (gc 1), wO q0 1 [.ref q1, .ref er, .ref q2, .ref q3, .ref q4, .ref h0, .int (nI ql), .int qo], wO h0 4 [.ref h1, .ref h2, .ref h3, .ref h4, .ref h5, .ref h6, .ref h7, .ref h8, .ref h9, .ref h10, .ref h11, hv0, hv1, hv2, hv3, hv4], wI (cy 1) h7 48 (fx)] := hD
              refine lv_iinc (v := 2) (lv' := [(3, .int 2), (4, .int (nI (262144 + k_47))), (5, .ref (ea 1)), (0, .ref q0), (1, .int (nI dp)), (2, .int (nI wd))]) hx hb dX1_goOn_89 hl (k := 2) rfl (by decide) (by decide) rfl (fun ls hl => ?_)
              refine lv_goto (tgt := 2) hx hb dX1_goOn_92 (by decide) ?_
              exact ih1  2 g_55 hr_56 (by omega) (by omega) _ _ (hP.sub [15, 0, 16, 17, 1, 2, 3, 4, 5, 13, 14, 6, 7, 8, 9, 10, 11, 12] rfl) (hD.sub [15, 0, 16, 17, 1, 2, 3, 4, 5, 13, 14, 6, 7, 8, 9, 10, 11, 12] (by decide +kernel) rfl) hS ls (lv_sub hl [0, 3, 4, 5] rfl)
            · refine lv_aload_n hx hb dX1_goOn_55 rfl (lv_at hl 3 rfl) ?_
              refine lv_iload hx hb dX1_goOn_56 (lv_at hl 1 rfl) ?_
              refine lv_iload_n hx hb dX1_goOn_58 rfl (lv_at hl 5 rfl) ?_
              refine x_callVi (q := (RX1, TX1, 8)) (ci := 1) (q0 := 0) (wr := [wI (cy 1) q2 24 (fa1_1), (er, .inl (cy 4, 4, .inr (.inr (.inr (.inr (eF (ea 0) (ea 1) (ea 2) (ea 3))))))), wO (ea 0) 2 [.ref (eg 0), .ref (ef 0), .int (et 0), .int (nI (el 0)), .int (nI (ei 0))], wI (cy 1) (eg 0) 10 (gc 0), wI (cy 1) (ef 0) 7 (xc 0), wI (cy 1) (ef 1) 7 (xc 1), wO (ea 2) 2 [.ref (eg 2), .ref (ef 2), .int (et 2), .int (nI (el 2)), .int (nI (ei 2))], wI (cy 1) (eg 2) 10 (gc 2), wI (cy 1) (ef 2) 7 (xc 2), wO (ea 3) 2 [.ref (eg 3), .ref (ef 3), .int (et 3), .int (nI (el 3)), .int (nI (ei 3))], wI (cy 1) (eg 3) 10 (gc 3), wI (cy 1) (ef 3) 7 (xc 3), wO (ea 1) 2 [.ref (eg 1), .ref (ef 1), .int (et 1), .int (nI ((el 1))), .int (nI ((ei 1)))], wI (cy 1) (eg 1) 10 (gc 1)]) (rest := [.int 262144]) ⟨hx, hb, hml, hown, hg, hl.1⟩ k_X1_77 (s_turnedPath l D cy q0 q1 q2 q3 q4 er ql qo h0 h1 h2 h3 h4 h5 h6 h7 h8 h9 h10 h11 hv0 hv1 hv2 hv3 hv4 fx fc c0 c1 c2 c3 v_7 wd (hnx) (hcn) (by omega) (by omega) (by omega) (by omega) (hv_7) (by omega)) E0_blind hK hP hD hS hA [0, 2, 3, 4] [1, 5, 6, 7, 8, 9, 10, 11, 12, 13, 14, 15, 16, 17] ⟨rfl, rfl, by decide +kernel, by decide +kernel, by decide +kernel⟩ rfl rfl (fun _ _ _ => trivial) dX1_goOn_59 rfl rfl (Nat.le_of_ble_eq_true rfl) ⟨Nat.le_of_ble_eq_true rfl, Nat.le_of_ble_eq_true rfl⟩ ⟨Nat.le_of_ble_eq_true rfl, Nat.le_of_ble_eq_true rfl⟩ (fun zr57 zu57 H locs hw57 hP9 hD9 hS9 => ?_)
              clear hP hD hS
              obtain ⟨k_58, rfl⟩ : ∃ z, z = zu57 := ⟨_, rfl⟩
              refine reW [wI (cy 1) q2 24 (fa1_1), (er, .inl (cy 4, 4, .inr (.inr (.inr (.inr (eF (ea 0) (ea 1) (ea 2) (ea 3))))))), wO (ea 0) 2 [.ref (eg 0), .ref (ef 0), .int (et 0), .int (nI (el 0)), .int (nI (ei 0))], wI (cy 1) (eg 0) 10 (gc 0), wI (cy 1) (ef 0) 7 (xc 0), wI (cy 1) (ef 1) 7 (xc 1), wO (ea 2) 2 [.ref (eg 2), .ref (ef 2), .int (et 2), .int (nI (el 2)), .int (nI (ei 2))], wI (cy 1) (eg 2) 10 (gc 2), wI (cy 1) (ef 2) 7 (xc 2), wO (ea 3) 2 [.ref (eg 3), .ref (ef 3), .int (et 3), .int (nI (el 3)), .int (nI (ei 3))], wI (cy 1) (eg 3) 10 (gc 3), wI (cy 1) (ef 3) 7 (xc 3), wO (ea 1) 2 [.ref (eg 1), .ref (ef 1), .int (et 1), .int (nI ((el 1))), .int (nI ((ei 1)))], wI (cy 1) (eg 1) 10 (gc 1), wO q0 1 [.ref q1, .ref er, .ref q2, .ref q3, .ref q4, .ref h0, .int (nI ql), .int qo], wO h0 4 [.ref h1, .ref h2, .ref h3, .ref h4, .ref h5, .ref h6, .ref h7, .ref h8, .ref h9, .ref h10, .ref h11, hv0, hv1, hv2, hv3, hv4], wI (cy 1) h7 48 (fx), wI (cy 1) h1 4 (fc)] hP9 hD9 hS9 (fun hP hD hS => ?_)
              clear hP9 hD9 hS9
              refine W.widen (k := 0) (n := 0) (Nat.le_of_ble_eq_true rfl) (Nat.le_of_ble_eq_true rfl) ?_
              replace hw57 : (zr57 = nI k_58) ∧ (pOK k_58) ∧ (k_58 < 262144) := hw57
              obtain ⟨f_59, f_60, f_61⟩ := hw57
              subst f_59
              refine lv_goto (tgt := 72) hx hb dX1_goOn_62 (by decide) ?_
              refine lv_ior hx hb dX1_goOn_72 ?_
              refine lv_topi (fun x_62 ex_62 => ?_)
              have hlt9 : k_58 < 262144 := by omega
              obtain rfl : x_62 = nI (262144 + k_58) := ex_62.trans (or_ans hlt9)
              have hpk_63 : pOK (262144 + k_58) := pOK_up (f_60) hlt9
              refine lv_istore (lv' := [(4, .int (nI (262144 + k_58))), (5, .ref (ea 1)), (3, .int 1), (0, .ref q0), (1, .int (nI dp)), (2, .int (nI wd))]) hx hb dX1_goOn_73 hl (by decide) rfl (fun ls hl => ?_)
              refine lv_aload_n hx hb dX1_goOn_75 rfl (lv_at hl 3 rfl) ?_
              refine va_get (D := D) (ci := 1) (v := .ref q2) (C := RX1) (T := TX1) (N := 8) hx hb hg i_X1 hown hK hP 14 rfl rfl 2 (by decide) (hg _ m_555) (fun _ h9 => h9) rfl dX1_goOn_76 ?_
              refine lv_iload_n hx hb dX1_goOn_79 rfl (lv_at hl 4 rfl) ?_
              refine lv_iconst (v := 1) hx hb dX1_goOn_80 (by decide) ?_
              refine lv_iadd hx hb dX1_goOn_81 ?_
              refine lv_topi (fun y_64 hy_64 => ?_)
              obtain rfl : y_64 = nI (dp + 1) := hy_64.trans (nI_add dp 1)
              refine lv_iconst (v := 4) hx hb dX1_goOn_82 (by decide) ?_
              refine lv_imul hx hb dX1_goOn_83 ?_
              refine lv_topi (fun y_65 hy_65 => ?_)
              obtain rfl : y_65 = nI ((dp + 1) * 4) := hy_65.trans (pk_mul ((dp + 1)) 4)
              refine lv_iload_n hx hb dX1_goOn_84 rfl (lv_at hl 2 rfl) ?_
              refine lv_iadd hx hb dX1_goOn_85 ?_
              refine lv_topi (fun y_66 hy_66 => ?_)
              obtain rfl : y_66 = nI (((dp + 1) * 4) + 1) := hy_66.trans (nI_add (((dp + 1) * 4)) 1)
              refine lv_iload hx hb dX1_goOn_86 (lv_at hl 0 rfl) ?_
              refine va_iast hx hb hK hP hD hS 0 1 rfl rfl (vp_in_nI (by omega) (by decide)) dX1_goOn_88 (fun H locs hP9 hD9 hS9 => ?_)
              clear hP hD hS
              have hP := hP9
              have hD := hD9
              have hS := hS9
              clear hP9 hD9 hS9
              obtain ⟨g_67, eg_67⟩ : ∃ y, upd fa1_1 (nI (((dp + 1) * 4) + 1) : Int32).toNatClampNeg (nI (262144 + k_58)) = y := ⟨_, rfl⟩
              rw [eg_67] at hP hD
              have hr_68 : pRow g_67 := eg_67 ▸ pRow_put (v := (262144 + k_58)) ha2_1 hpk_63
              replace hP : va_P D vwCl [wI (cy 1) q2 24 (g_67), (er, .inl (cy 4, 4, .inr (.inr (.inr (.inr (eF (ea 0) (ea 1) (ea 2) (ea 3))))))), wO (ea 0) 2 [.ref (eg 0), .ref (ef 0), .int (et 0), .int (nI (el 0)), .int (nI (ei 0))], wI (cy 1) (eg 0) 10 (gc 0), wI (cy 1) (ef 0) 7 (xc 0), wI (cy 1) (ef 1) 7 (xc 1), wO (ea 2) 2 [.ref (eg 2), .ref (ef 2), .int (et 2), .int (nI (el 2)), .int (nI (ei 2))], wI (cy 1) (eg 2) 10 (gc 2), wI (cy 1) (ef 2) 7 (xc 2), wO (ea 3) 2 [.ref (eg 3), .ref (ef 3), .int (et 3), .int (nI (el 3)), .int (nI (ei 3))], wI (cy 1) (eg 3) 10 (gc 3), wI (cy 1) (ef 3) 7 (xc 3), wO (ea 1) 2 [.ref (eg 1), .ref (ef 1), .int (et 1), .int (nI ((el 1))), .int (nI ((ei 1)))], wI (cy 1) (eg 1) 10 (gc 1), wO q0 1 [.ref q1, .ref er, .ref q2, .ref q3, .ref q4, .ref h0, .int (nI ql), .int qo], wO h0 4 [.ref h1, .ref h2, .ref h3, .ref h4, .ref h5, .ref h6, .ref h7, .ref h8, .ref h9, .ref h10, .ref h11, hv0, hv1, hv2, hv3, hv4], wI (cy 1) h7 48 (fx), wI (cy 1) h1 4 (fc)] H := hP
              replace hD : va_D A [wI (cy 1) q2 24 (g_67), (er, .inl (cy 4, 4, .inr (.inr (.inr (.inr (eF (ea 0) (ea 1) (ea 2) (ea 3))))))), wO (ea 0) 2 [.ref (eg 0), .ref (ef 0), .int (et 0), .int (nI (el 0)), .int (nI (ei 0))], wI (cy 1) (eg 0) 10 (gc 0), wI (cy 1) (ef 0) 7 (xc 0), wI (cy 1) (ef 1) 7 (xc 1), wO (ea 2) 2 [.ref (eg 2), .ref (ef 2), .int (et 2), .int (nI (el 2)), .int (nI (ei 2))], wI (cy 1) (eg 2) 10 (gc 2), wI (cy 1) (ef 2) 7 (xc 2), wO (ea 3) 2 [.ref (eg 3), .ref (ef 3), .int (et 3), .int (nI (el 3)), .int (nI (ei 3))], wI (cy 1) (eg 3) 10 (gc 3), wI (cy 1) (ef 3) 7 (xc 3), wO (ea 1) 2 [.ref (eg 1), .ref (ef 1), .int (et 1), .int (nI ((el 1))), .int (nI ((ei 1)))], wI (cy 1) (eg 1) 10 (gc 1), wO q0 1 [.ref q1, .ref er, .ref q2, .ref q3, .ref q4, .ref h0, .int (nI ql), .int qo], wO h0 4 [.ref h1, .ref h2, .ref h3, .ref h4, .ref h5, .ref h6, .ref h7, .ref h8, .ref h9, .ref h10, .ref h11, hv0, hv1, hv2, hv3, hv4], wI (cy 1) h7 48 (fx), wI (cy 1) h1 4 (fc)] := hD
              refine lv_iinc (v := 2) (lv' := [(3, .int 2), (4, .int (nI (262144 + k_58))), (5, .ref (ea 1)), (0, .ref q0), (1, .int (nI dp)), (2, .int (nI wd))]) hx hb dX1_goOn_89 hl (k := 2) rfl (by decide) (by decide) rfl (fun ls hl => ?_)
              refine lv_goto (tgt := 2) hx hb dX1_goOn_92 (by decide) ?_
              exact ih1  2 g_67 hr_68 (by omega) (by omega) _ _ (hP.sub [14, 0, 15, 16, 17, 1, 2, 3, 4, 12, 13, 5, 6, 7, 8, 9, 10, 11] rfl) (hD.sub [14, 0, 15, 16, 17, 1, 2, 3, 4, 12, 13, 5, 6, 7, 8, 9, 10, 11] (by decide +kernel) rfl) hS ls (lv_sub hl [0, 3, 4, 5] rfl)
        · subst hsp
          refine va_aldq hx hb hK hP 5 4 rfl rfl (by unfold vp_in; decide) dX1_goOn_32 ?_
          refine W.eq (g2 := F0 m 33 ls [.ref (ea 2)]) rfl ?_
          refine lv_astore (lv' := [(5, .ref (ea 2)), (4, .int (nI v_7)), (3, .int 2), (0, .ref q0), (1, .int (nI dp)), (2, .int (nI wd))]) hx hb dX1_goOn_33 hl (by decide) rfl (fun ls hl => ?_)
          refine lv_aload hx hb dX1_goOn_35 (lv_at hl 0 rfl) ?_
          refine lv_iload_n hx hb dX1_goOn_37 rfl (lv_at hl 4 rfl) ?_
          refine lv_iload_n hx hb dX1_goOn_38 rfl (lv_at hl 5 rfl) ?_
          refine x_callVi (q := (RX2, TX2, 5)) (ci := 2) (q0 := 0) (wr := [wO q0 1 [.ref q1, .ref er, .ref q2, .ref q3, .ref q4, .ref h0, .int (nI ql), .int qo], wI (cy 1) q2 24 (fa1_1), wO h0 4 [.ref h1, .ref h2, .ref h3, .ref h4, .ref h5, .ref h6, .ref h7, .ref h8, .ref h9, .ref h10, .ref h11, hv0, hv1, hv2, hv3, hv4], wI (cy 1) h7 48 (fx), wI (cy 1) h1 4 (fc), (er, .inl (cy 4, 4, .inr (.inr (.inr (.inr (eF (ea 0) (ea 1) (ea 2) (ea 3))))))), wO (ea 0) 2 [.ref (eg 0), .ref (ef 0), .int (et 0), .int (nI (el 0)), .int (nI (ei 0))], wI (cy 1) (eg 0) 10 (gc 0), wI (cy 1) (ef 0) 7 (xc 0), wO (ea 1) 2 [.ref (eg 1), .ref (ef 1), .int (et 1), .int (nI (el 1)), .int (nI (ei 1))], wI (cy 1) (eg 1) 10 (gc 1), wI (cy 1) (ef 1) 7 (xc 1), wI (cy 1) (ef 2) 7 (xc 2), wO (ea 3) 2 [.ref (eg 3), .ref (ef 3), .int (et 3), .int (nI (el 3)), .int (nI (ei 3))], wI (cy 1) (eg 3) 10 (gc 3), wI (cy 1) (ef 3) 7 (xc 3)]) (rest := []) ⟨hx, hb, hml, hown, hg, hl.1⟩ k_X1_70 (s_comesBack l D cy (ea 2) (eg 2) (ef 2) (et 2) ((el 2)) ((ei 2)) (gc 2) dp (nI wd) (by omega)) E0_blind hK hP hD hS hA [12, 13] [0, 1, 2, 3, 4, 5, 6, 7, 8, 9, 10, 11, 14, 15, 16, 17] ⟨rfl, rfl, by decide +kernel, by decide +kernel, by decide +kernel⟩ rfl rfl (fun _ _ _ => trivial) dX1_goOn_39 rfl rfl (Nat.le_of_ble_eq_true rfl) ⟨Nat.le_of_ble_eq_true rfl, Nat.le_of_ble_eq_true rfl⟩ ⟨Nat.le_of_ble_eq_true rfl, Nat.le_of_ble_eq_true rfl⟩ (fun zr69 zu69 H locs hw69 hP9 hD9 hS9 => ?_)
          clear hP hD hS
          refine reW [wO q0 1 [.ref q1, .ref er, .ref q2, .ref q3, .ref q4, .ref h0, .int (nI ql), .int qo], wI (cy 1) q2 24 (fa1_1), wO h0 4 [.ref h1, .ref h2, .ref h3, .ref h4, .ref h5, .ref h6, .ref h7, .ref h8, .ref h9, .ref h10, .ref h11, hv0, hv1, hv2, hv3, hv4], wI (cy 1) h7 48 (fx), wI (cy 1) h1 4 (fc), (er, .inl (cy 4, 4, .inr (.inr (.inr (.inr (eF (ea 0) (ea 1) (ea 2) (ea 3))))))), wO (ea 0) 2 [.ref (eg 0), .ref (ef 0), .int (et 0), .int (nI (el 0)), .int (nI (ei 0))], wI (cy 1) (eg 0) 10 (gc 0), wI (cy 1) (ef 0) 7 (xc 0), wO (ea 1) 2 [.ref (eg 1), .ref (ef 1), .int (et 1), .int (nI (el 1)), .int (nI (ei 1))], wI (cy 1) (eg 1) 10 (gc 1), wI (cy 1) (ef 1) 7 (xc 1), wI (cy 1) (ef 2) 7 (xc 2), wO (ea 3) 2 [.ref (eg 3), .ref (ef 3), .int (et 3), .int (nI (el 3)), .int (nI (ei 3))], wI (cy 1) (eg 3) 10 (gc 3), wI (cy 1) (ef 3) 7 (xc 3), wO (ea 2) 2 [.ref (eg 2), .ref (ef 2), .int (et 2), .int (nI ((el 2))), .int (nI ((ei 2)))], wI (cy 1) (eg 2) 10 (gc 2)] hP9 hD9 hS9 (fun hP hD hS => ?_)
          clear hP9 hD9 hS9
          refine W.widen (k := 0) (n := 0) (Nat.le_of_ble_eq_true rfl) (Nat.le_of_ble_eq_true rfl) ?_
          replace hw69 : (zr69 = 0 ∨ zr69 = 1) := hw69
          have f_70 := hw69
          refine lv_if_eq (tgt := 75) hx hb dX1_goOn_42 (by decide) (fun c_42 => ?_) (fun c_42 => ?_)
          · refine lv_aload_n hx hb dX1_goOn_75 rfl (lv_at hl 3 rfl) ?_
            refine va_get (D := D) (ci := 1) (v := .ref q2) (C := RX1) (T := TX1) (N := 8) hx hb hg i_X1 hown hK hP 0 rfl rfl 2 (by decide) (hg _ m_555) (fun _ h9 => h9) rfl dX1_goOn_76 ?_
            refine lv_iload_n hx hb dX1_goOn_79 rfl (lv_at hl 4 rfl) ?_
            refine lv_iconst (v := 1) hx hb dX1_goOn_80 (by decide) ?_
            refine lv_iadd hx hb dX1_goOn_81 ?_
            refine lv_topi (fun y_71 hy_71 => ?_)
            obtain rfl : y_71 = nI (dp + 1) := hy_71.trans (nI_add dp 1)
            refine lv_iconst (v := 4) hx hb dX1_goOn_82 (by decide) ?_
            refine lv_imul hx hb dX1_goOn_83 ?_
            refine lv_topi (fun y_72 hy_72 => ?_)
            obtain rfl : y_72 = nI ((dp + 1) * 4) := hy_72.trans (pk_mul ((dp + 1)) 4)
            refine lv_iload_n hx hb dX1_goOn_84 rfl (lv_at hl 2 rfl) ?_
            refine lv_iadd hx hb dX1_goOn_85 ?_
            refine lv_topi (fun y_73 hy_73 => ?_)
            obtain rfl : y_73 = nI (((dp + 1) * 4) + 2) := hy_73.trans (nI_add (((dp + 1) * 4)) 2)
            refine lv_iload hx hb dX1_goOn_86 (lv_at hl 1 rfl) ?_
            refine va_iast hx hb hK hP hD hS 1 1 rfl rfl (vp_in_nI (by omega) (by decide)) dX1_goOn_88 (fun H locs hP9 hD9 hS9 => ?_)
            clear hP hD hS
            have hP := hP9
            have hD := hD9
            have hS := hS9
            clear hP9 hD9 hS9
            obtain ⟨g_74, eg_74⟩ : ∃ y, upd fa1_1 (nI (((dp + 1) * 4) + 2) : Int32).toNatClampNeg (nI v_7) = y := ⟨_, rfl⟩
            rw [eg_74] at hP hD
            have hr_75 : pRow g_74 := eg_74 ▸ pRow_put (v := v_7) ha2_1 hv_7
            replace hP : va_P D vwCl [wO q0 1 [.ref q1, .ref er, .ref q2, .ref q3, .ref q4, .ref h0, .int (nI ql), .int qo], wI (cy 1) q2 24 (g_74), wO h0 4 [.ref h1, .ref h2, .ref h3, .ref h4, .ref h5, .ref h6, .ref h7, .ref h8, .ref h9, .ref h10, .ref h11, hv0, hv1, hv2, hv3, hv4], wI (cy 1) h7 48 (fx), wI (cy 1) h1 4 (fc), (er, .inl (cy 4, 4, .inr (.inr (.inr (.inr (eF (ea 0) (ea 1) (ea 2) (ea 3))))))), wO (ea 0) 2 [.ref (eg 0), .ref (ef 0), .int (et 0), .int (nI (el 0)), .int (nI (ei 0))], wI (cy 1) (eg 0) 10 (gc 0), wI (cy 1) (ef 0) 7 (xc 0), wO (ea 1) 2 [.ref (eg 1), .ref (ef 1), .int (et 1), .int (nI (el 1)), .int (nI (ei 1))], wI (cy 1) (eg 1) 10 (gc 1), wI (cy 1) (ef 1) 7 (xc 1), wI (cy 1) (ef 2) 7 (xc 2), wO (ea 3) 2 [.ref (eg 3), .ref (ef 3), .int (et 3), .int (nI (el 3)), .int (nI (ei 3))], wI (cy 1) (eg 3) 10 (gc 3), wI (cy 1) (ef 3) 7 (xc 3), wO (ea 2) 2 [.ref (eg 2), .ref (ef 2), .int (et 2), .int (nI ((el 2))), .int (nI ((ei 2)))], wI (cy 1) (eg 2) 10 (gc 2)] H := hP
            replace hD : va_D A [wO q0 1 [.ref q1, .ref er, .ref q2, .ref q3, .ref q4, .ref h0, .int (nI ql), .int qo], wI (cy 1) q2 24 (g_74), wO h0 4 [.ref h1, .ref h2, .ref h3, .ref h4, .ref h5, .ref h6, .ref h7, .ref h8, .ref h9, .ref h10, .ref h11, hv0, hv1, hv2, hv3, hv4], wI (cy 1) h7 48 (fx), wI (cy 1) h1 4 (fc), (er, .inl (cy 4, 4, .inr (.inr (.inr (.inr (eF (ea 0) (ea 1) (ea 2) (ea 3))))))), wO (ea 0) 2 [.ref (eg 0), .ref (ef 0), .int (et 0), .int (nI (el 0)), .int (nI (ei 0))], wI (cy 1) (eg 0) 10 (gc 0), wI (cy 1) (ef 0) 7 (xc 0), wO (ea 1) 2 [.ref (eg 1), .ref (ef 1), .int (et 1), .int (nI (el 1)), .int (nI (ei 1))], wI (cy 1) (eg 1) 10 (gc 1), wI (cy 1) (ef 1) 7 (xc 1), wI (cy 1) (ef 2) 7 (xc 2), wO (ea 3) 2 [.ref (eg 3), .ref (ef 3), .int (et 3), .int (nI (el 3)), .int (nI (ei 3))], wI (cy 1) (eg 3) 10 (gc 3), wI (cy 1) (ef 3) 7 (xc 3), wO (ea 2) 2 [.ref (eg 2), .ref (ef 2), .int (et 2), .int (nI ((el 2))), .int (nI ((ei 2)))], wI (cy 1) (eg 2) 10 (gc 2)] := hD
            refine lv_iinc (v := 3) (lv' := [(3, .int 3), (5, .ref (ea 2)), (4, .int (nI v_7)), (0, .ref q0), (1, .int (nI dp)), (2, .int (nI wd))]) hx hb dX1_goOn_89 hl (k := 2) rfl (by decide) (by decide) rfl (fun ls hl => ?_)
            refine lv_goto (tgt := 2) hx hb dX1_goOn_92 (by decide) ?_
            exact ih1  3 g_74 hr_75 (by omega) (by omega) _ _ (hP.sub [0, 1, 2, 3, 4, 5, 6, 7, 8, 9, 10, 11, 16, 17, 12, 13, 14, 15] rfl) (hD.sub [0, 1, 2, 3, 4, 5, 6, 7, 8, 9, 10, 11, 16, 17, 12, 13, 14, 15] (by decide +kernel) rfl) hS ls (lv_sub hl [0, 3, 4, 5] rfl)
          · refine lv_ldc (v := 262144) hx hb hown (hg _ m_1162) dX1_goOn_45 ?_
            refine lv_aload hx hb dX1_goOn_47 (lv_at hl 0 rfl) ?_
            refine va_get (D := D) (ci := 2) (v := .int (et 2)) (C := RX2) (T := TX2) (N := 5) hx hb hg i_X2 hown hK hP 16 rfl rfl 2 (by decide) (hg _ m_517) (fun _ h9 => h9) rfl dX1_goOn_49 ?_
            refine lv_if_eq (tgt := 65) hx hb dX1_goOn_52 (by decide) (fun c_52 => ?_) (fun c_52 => ?_)
            · refine lv_aload_n hx hb dX1_goOn_65 rfl (lv_at hl 3 rfl) ?_
              refine lv_iload hx hb dX1_goOn_66 (lv_at hl 1 rfl) ?_
              refine lv_iload_n hx hb dX1_goOn_68 rfl (lv_at hl 5 rfl) ?_
              refine x_callVi (q := (RX1, TX1, 8)) (ci := 1) (q0 := 0) (wr := [wI (cy 1) q2 24 (fa1_1), wI (cy 1) h1 4 (fc), (er, .inl (cy 4, 4, .inr (.inr (.inr (.inr (eF (ea 0) (ea 1) (ea 2) (ea 3))))))), wO (ea 0) 2 [.ref (eg 0), .ref (ef 0), .int (et 0), .int (nI (el 0)), .int (nI (ei 0))], wI (cy 1) (eg 0) 10 (gc 0), wI (cy 1) (ef 0) 7 (xc 0), wO (ea 1) 2 [.ref (eg 1), .ref (ef 1), .int (et 1), .int (nI (el 1)), .int (nI (ei 1))], wI (cy 1) (eg 1) 10 (gc 1), wI (cy 1) (ef 1) 7 (xc 1), wI (cy 1) (ef 2) 7 (xc 2), wO (ea 3) 2 [.ref (eg 3), .ref (ef 3), .int (et 3), .int (nI (el 3)), .int (nI (ei 3))], wI (cy 1) (eg 3) 10 (gc 3), wI (cy 1) (ef 3) 7 (xc 3), wO (ea 2) 2 [.ref (eg 2), .ref (ef 2), .int (et 2), .int (nI ((el 2))), .int (nI ((ei 2)))], wI (cy 1) (eg 2) 10 (gc 2)]) (rest := [.int 262144]) ⟨hx, hb, hml, hown, hg, hl.1⟩ k_X1_81 (s_straightPath l D cy q0 q1 q2 q3 q4 er ql qo h0 h1 h2 h3 h4 h5 h6 h7 h8 h9 h10 h11 hv0 hv1 hv2 hv3 hv4 fx v_7 wd (hnx) (hv_7) (by omega)) E0_blind hK hP hD hS hA [0, 2, 3] [1, 4, 5, 6, 7, 8, 9, 10, 11, 12, 13, 14, 15, 16, 17] ⟨rfl, rfl, by decide +kernel, by decide +kernel, by decide +kernel⟩ rfl rfl (fun _ _ _ => trivial) dX1_goOn_69 rfl rfl (Nat.le_of_ble_eq_true rfl) ⟨Nat.le_of_ble_eq_true rfl, Nat.le_of_ble_eq_true rfl⟩ ⟨Nat.le_of_ble_eq_true rfl, Nat.le_of_ble_eq_true rfl⟩ (fun zr76 zu76 H locs hw76 hP9 hD9 hS9 => ?_)
              clear hP hD hS
              obtain ⟨k_77, rfl⟩ : ∃ z, z = zu76 := ⟨_, rfl⟩
              refine reW [wI (cy 1) q2 24 (fa1_1), wI (cy 1) h1 4 (fc), (er, .inl (cy 4, 4, .inr (.inr (.inr (.inr (eF (ea 0) (ea 1) (ea 2) (ea 3))))))), wO (ea 0) 2 [.ref (eg 0), .ref (ef 0), .int (et 0), .int (nI (el 0)), .int (nI (ei 0))], wI (cy 1) (eg 0) 10 (gc 0), wI (cy 1) (ef 0) 7 (xc 0), wO (ea 1) 2 [.ref (eg 1), .ref (ef 1), .int (et 1), .int (nI (el 1)), .int (nI (ei 1))], wI (cy 1) (eg 1) 10 (gc 1), wI (cy 1) (ef 1) 7 (xc 1), wI (cy 1) (ef 2) 7 (xc 2), wO (ea 3) 2 [.ref (eg 3), .ref (ef 3), .int (et 3), .int (nI (el 3)), .int (nI (ei 3))], wI (cy 1) (eg 3) 10 (gc 3), wI (cy 1) (ef 3) 7 (xc 3), wO (ea 2) 2 [.ref (eg 2), .ref (ef 2), .int (et 2), .int (nI ((el 2))), .int (nI ((ei 2)))], wI (cy 1) (eg 2) 10 (gc 2), wO q0 1 [.ref q1, .ref er, .ref q2, .ref q3, .ref q4, .ref h0, .int (nI ql), .int qo], wO h0 4 [.ref h1, .ref h2, .ref h3, .ref h4, .ref h5, .ref h6, .ref h7, .ref h8, .ref h9, .ref h10, .ref h11, hv0, hv1, hv2, hv3, hv4], wI (cy 1) h7 48 (fx)] hP9 hD9 hS9 (fun hP hD hS => ?_)
              clear hP9 hD9 hS9
              refine W.widen (k := 0) (n := 0) (Nat.le_of_ble_eq_true rfl) (Nat.le_of_ble_eq_true rfl) ?_
              replace hw76 : (zr76 = nI k_77) ∧ (k_77 ≤ 5) := hw76
              obtain ⟨f_78, f_79⟩ := hw76
              subst f_78
              refine lv_ior hx hb dX1_goOn_72 ?_
              refine lv_topi (fun x_80 ex_80 => ?_)
              have hlt9 : k_77 < 262144 := by omega
              obtain rfl : x_80 = nI (262144 + k_77) := ex_80.trans (or_ans hlt9)
              have hpk_81 : pOK (262144 + k_77) := pOK_up (pOK_small (by omega)) hlt9
              refine lv_istore (lv' := [(4, .int (nI (262144 + k_77))), (5, .ref (ea 2)), (3, .int 2), (0, .ref q0), (1, .int (nI dp)), (2, .int (nI wd))]) hx hb dX1_goOn_73 hl (by decide) rfl (fun ls hl => ?_)
              refine lv_aload_n hx hb dX1_goOn_75 rfl (lv_at hl 3 rfl) ?_
              refine va_get (D := D) (ci := 1) (v := .ref q2) (C := RX1) (T := TX1) (N := 8) hx hb hg i_X1 hown hK hP 15 rfl rfl 2 (by decide) (hg _ m_555) (fun _ h9 => h9) rfl dX1_goOn_76 ?_
              refine lv_iload_n hx hb dX1_goOn_79 rfl (lv_at hl 4 rfl) ?_
              refine lv_iconst (v := 1) hx hb dX1_goOn_80 (by decide) ?_
              refine lv_iadd hx hb dX1_goOn_81 ?_
              refine lv_topi (fun y_82 hy_82 => ?_)
              obtain rfl : y_82 = nI (dp + 1) := hy_82.trans (nI_add dp 1)
              refine lv_iconst (v := 4) hx hb dX1_goOn_82 (by decide) ?_
              refine lv_imul hx hb dX1_goOn_83 ?_
              refine lv_topi (fun y_83 hy_83 => ?_)
              obtain rfl : y_83 = nI ((dp + 1) * 4) := hy_83.trans (pk_mul ((dp + 1)) 4)
              refine lv_iload_n hx hb dX1_goOn_84 rfl (lv_at hl 2 rfl) ?_
              refine lv_iadd hx hb dX1_goOn_85 ?_
              refine lv_topi (fun y_84 hy_84 => ?_)
              obtain rfl : y_84 = nI (((dp + 1) * 4) + 2) := hy_84.trans (nI_add (((dp + 1) * 4)) 2)
              refine lv_iload hx hb dX1_goOn_86 (lv_at hl 0 rfl) ?_
              refine va_iast hx hb hK hP hD hS 0 1 rfl rfl (vp_in_nI (by omega) (by decide)) dX1_goOn_88 (fun H locs hP9 hD9 hS9 => ?_)
              clear hP hD hS
              have hP := hP9
              have hD := hD9
              have hS := hS9
              clear hP9 hD9 hS9
              obtain ⟨g_85, eg_85⟩ : ∃ y, upd fa1_1 (nI (((dp + 1) * 4) + 2) : Int32).toNatClampNeg (nI (262144 + k_77)) = y := ⟨_, rfl⟩
              rw [eg_85] at hP hD
              have hr_86 : pRow g_85 := eg_85 ▸ pRow_put (v := (262144 + k_77)) ha2_1 hpk_81
              replace hP : va_P D vwCl [wI (cy 1) q2 24 (g_85), wI (cy 1) h1 4 (fc), (er, .inl (cy 4, 4, .inr (.inr (.inr (.inr (eF (ea 0) (ea 1) (ea 2) (ea 3))))))), wO (ea 0) 2 [.ref (eg 0), .ref (ef 0), .int (et 0), .int (nI (el 0)), .int (nI (ei 0))], wI (cy 1) (eg 0) 10 (gc 0), wI (cy 1) (ef 0) 7 (xc 0), wO (ea 1) 2 [.ref (eg 1), .ref (ef 1), .int (et 1), .int (nI (el 1)), .int (nI (ei 1))], wI (cy 1) (eg 1) 10 (gc 1), wI (cy 1) (ef 1) 7 (xc 1), wI (cy 1) (ef 2) 7 (xc 2), wO (ea 3) 2 [.ref (eg 3), .ref (ef 3), .int (et 3), .int (nI (el 3)), .int (nI (ei 3))], wI (cy 1) (eg 3) 10 (gc 3), wI (cy 1) (ef 3) 7 (xc 3), wO (ea 2) 2 [.ref (eg 2), .ref (ef 2), .int (et 2), .int (nI ((el 2))), .int (nI ((ei 2)))], wI (cy 1) (eg 2) 10 (gc 2), wO q0 1 [.ref q1, .ref er, .ref q2, .ref q3, .ref q4, .ref h0, .int (nI ql), .int qo], wO h0 4 [.ref h1, .ref h2, .ref h3, .ref h4, .ref h5, .ref h6, .ref h7, .ref h8, .ref h9, .ref h10, .ref h11, hv0, hv1, hv2, hv3, hv4], wI (cy 1) h7 48 (fx)] H := hP
              replace hD : va_D A [wI (cy 1) q2 24 (g_85), wI (cy 1) h1 4 (fc), (er, .inl (cy 4, 4, .inr (.inr (.inr (.inr (eF (ea 0) (ea 1) (ea 2) (ea 3))))))), wO (ea 0) 2 [.ref (eg 0), .ref (ef 0), .int (et 0), .int (nI (el 0)), .int (nI (ei 0))], wI (cy 1) (eg 0) 10 (gc 0), wI (cy 1) (ef 0) 7 (xc 0), wO (ea 1) 2 [.ref (eg 1), .ref (ef 1), .int (et 1), .int (nI (el 1)), .int (nI (ei 1))], wI (cy 1) (eg 1) 10 (gc 1), wI (cy 1) (ef 1) 7 (xc 1), wI (cy 1) (ef 2) 7 (xc 2), wO (ea 3) 2 [.ref (eg 3), .ref (ef 3), .int (et 3), .int (nI (el 3)), .int (nI (ei 3))], wI (cy 1) (eg 3) 10 (gc 3), wI (cy 1) (ef 3) 7 (xc 3), wO (ea 2) 2 [.ref (eg 2), .ref (ef 2), .int (et 2), .int (nI ((el 2))), .int (nI ((ei 2)))], wI (cy 1) (eg 2) 10 (gc 2), wO q0 1 [.ref q1, .ref er, .ref q2, .ref q3, .ref q4, .ref h0, .int (nI ql), .int qo], wO h0 4 [.ref h1, .ref h2, .ref h3, .ref h4, .ref h5, .ref h6, .ref h7, .ref h8, .ref h9, .ref h10, .ref h11, hv0, hv1, hv2, hv3, hv4], wI (cy 1) h7 48 (fx)] := hD
              refine lv_iinc (v := 3) (lv' := [(3, .int 3), (4, .int (nI (262144 + k_77))), (5, .ref (ea 2)), (0, .ref q0), (1, .int (nI dp)), (2, .int (nI wd))]) hx hb dX1_goOn_89 hl (k := 2) rfl (by decide) (by decide) rfl (fun ls hl => ?_)
              refine lv_goto (tgt := 2) hx hb dX1_goOn_92 (by decide) ?_
              exact ih1  3 g_85 hr_86 (by omega) (by omega) _ _ (hP.sub [15, 0, 16, 17, 1, 2, 3, 4, 5, 6, 7, 8, 13, 14, 9, 10, 11, 12] rfl) (hD.sub [15, 0, 16, 17, 1, 2, 3, 4, 5, 6, 7, 8, 13, 14, 9, 10, 11, 12] (by decide +kernel) rfl) hS ls (lv_sub hl [0, 3, 4, 5] rfl)
            · refine lv_aload_n hx hb dX1_goOn_55 rfl (lv_at hl 3 rfl) ?_
              refine lv_iload hx hb dX1_goOn_56 (lv_at hl 1 rfl) ?_
              refine lv_iload_n hx hb dX1_goOn_58 rfl (lv_at hl 5 rfl) ?_
              refine x_callVi (q := (RX1, TX1, 8)) (ci := 1) (q0 := 0) (wr := [wI (cy 1) q2 24 (fa1_1), (er, .inl (cy 4, 4, .inr (.inr (.inr (.inr (eF (ea 0) (ea 1) (ea 2) (ea 3))))))), wO (ea 0) 2 [.ref (eg 0), .ref (ef 0), .int (et 0), .int (nI (el 0)), .int (nI (ei 0))], wI (cy 1) (eg 0) 10 (gc 0), wI (cy 1) (ef 0) 7 (xc 0), wO (ea 1) 2 [.ref (eg 1), .ref (ef 1), .int (et 1), .int (nI (el 1)), .int (nI (ei 1))], wI (cy 1) (eg 1) 10 (gc 1), wI (cy 1) (ef 1) 7 (xc 1), wI (cy 1) (ef 2) 7 (xc 2), wO (ea 3) 2 [.ref (eg 3), .ref (ef 3), .int (et 3), .int (nI (el 3)), .int (nI (ei 3))], wI (cy 1) (eg 3) 10 (gc 3), wI (cy 1) (ef 3) 7 (xc 3), wO (ea 2) 2 [.ref (eg 2), .ref (ef 2), .int (et 2), .int (nI ((el 2))), .int (nI ((ei 2)))], wI (cy 1) (eg 2) 10 (gc 2)]) (rest := [.int 262144]) ⟨hx, hb, hml, hown, hg, hl.1⟩ k_X1_77 (s_turnedPath l D cy q0 q1 q2 q3 q4 er ql qo h0 h1 h2 h3 h4 h5 h6 h7 h8 h9 h10 h11 hv0 hv1 hv2 hv3 hv4 fx fc c0 c1 c2 c3 v_7 wd (hnx) (hcn) (by omega) (by omega) (by omega) (by omega) (hv_7) (by omega)) E0_blind hK hP hD hS hA [0, 2, 3, 4] [1, 5, 6, 7, 8, 9, 10, 11, 12, 13, 14, 15, 16, 17] ⟨rfl, rfl, by decide +kernel, by decide +kernel, by decide +kernel⟩ rfl rfl (fun _ _ _ => trivial) dX1_goOn_59 rfl rfl (Nat.le_of_ble_eq_true rfl) ⟨Nat.le_of_ble_eq_true rfl, Nat.le_of_ble_eq_true rfl⟩ ⟨Nat.le_of_ble_eq_true rfl, Nat.le_of_ble_eq_true rfl⟩ (fun zr87 zu87 H locs hw87 hP9 hD9 hS9 => ?_)
              clear hP hD hS
              obtain ⟨k_88, rfl⟩ : ∃ z, z = zu87 := ⟨_, rfl⟩
              refine reW [wI (cy 1) q2 24 (fa1_1), (er, .inl (cy 4, 4, .inr (.inr (.inr (.inr (eF (ea 0) (ea 1) (ea 2) (ea 3))))))), wO (ea 0) 2 [.ref (eg 0), .ref (ef 0), .int (et 0), .int (nI (el 0)), .int (nI (ei 0))], wI (cy 1) (eg 0) 10 (gc 0), wI (cy 1) (ef 0) 7 (xc 0), wO (ea 1) 2 [.ref (eg 1), .ref (ef 1), .int (et 1), .int (nI (el 1)), .int (nI (ei 1))], wI (cy 1) (eg 1) 10 (gc 1), wI (cy 1) (ef 1) 7 (xc 1), wI (cy 1) (ef 2) 7 (xc 2), wO (ea 3) 2 [.ref (eg 3), .ref (ef 3), .int (et 3), .int (nI (el 3)), .int (nI (ei 3))], wI (cy 1) (eg 3) 10 (gc 3), wI (cy 1) (ef 3) 7 (xc 3), wO (ea 2) 2 [.ref (eg 2), .ref (ef 2), .int (et 2), .int (nI ((el 2))), .int (nI ((ei 2)))], wI (cy 1) (eg 2) 10 (gc 2), wO q0 1 [.ref q1, .ref er, .ref q2, .ref q3, .ref q4, .ref h0, .int (nI ql), .int qo], wO h0 4 [.ref h1, .ref h2, .ref h3, .ref h4, .ref h5, .ref h6, .ref h7, .ref h8, .ref h9, .ref h10, .ref h11, hv0, hv1, hv2, hv3, hv4], wI (cy 1) h7 48 (fx), wI (cy 1) h1 4 (fc)] hP9 hD9 hS9 (fun hP hD hS => ?_)
              clear hP9 hD9 hS9
              refine W.widen (k := 0) (n := 0) (Nat.le_of_ble_eq_true rfl) (Nat.le_of_ble_eq_true rfl) ?_
              replace hw87 : (zr87 = nI k_88) ∧ (pOK k_88) ∧ (k_88 < 262144) := hw87
              obtain ⟨f_89, f_90, f_91⟩ := hw87
              subst f_89
              refine lv_goto (tgt := 72) hx hb dX1_goOn_62 (by decide) ?_
              refine lv_ior hx hb dX1_goOn_72 ?_
              refine lv_topi (fun x_92 ex_92 => ?_)
              have hlt9 : k_88 < 262144 := by omega
              obtain rfl : x_92 = nI (262144 + k_88) := ex_92.trans (or_ans hlt9)
              have hpk_93 : pOK (262144 + k_88) := pOK_up (f_90) hlt9
              refine lv_istore (lv' := [(4, .int (nI (262144 + k_88))), (5, .ref (ea 2)), (3, .int 2), (0, .ref q0), (1, .int (nI dp)), (2, .int (nI wd))]) hx hb dX1_goOn_73 hl (by decide) rfl (fun ls hl => ?_)
              refine lv_aload_n hx hb dX1_goOn_75 rfl (lv_at hl 3 rfl) ?_
              refine va_get (D := D) (ci := 1) (v := .ref q2) (C := RX1) (T := TX1) (N := 8) hx hb hg i_X1 hown hK hP 14 rfl rfl 2 (by decide) (hg _ m_555) (fun _ h9 => h9) rfl dX1_goOn_76 ?_
              refine lv_iload_n hx hb dX1_goOn_79 rfl (lv_at hl 4 rfl) ?_
              refine lv_iconst (v := 1) hx hb dX1_goOn_80 (by decide) ?_
              refine lv_iadd hx hb dX1_goOn_81 ?_
              refine lv_topi (fun y_94 hy_94 => ?_)
              obtain rfl : y_94 = nI (dp + 1) := hy_94.trans (nI_add dp 1)
              refine lv_iconst (v := 4) hx hb dX1_goOn_82 (by decide) ?_
              refine lv_imul hx hb dX1_goOn_83 ?_
              refine lv_topi (fun y_95 hy_95 => ?_)
              obtain rfl : y_95 = nI ((dp + 1) * 4) := hy_95.trans (pk_mul ((dp + 1)) 4)
              refine lv_iload_n hx hb dX1_goOn_84 rfl (lv_at hl 2 rfl) ?_
              refine lv_iadd hx hb dX1_goOn_85 ?_
              refine lv_topi (fun y_96 hy_96 => ?_)
              obtain rfl : y_96 = nI (((dp + 1) * 4) + 2) := hy_96.trans (nI_add (((dp + 1) * 4)) 2)
              refine lv_iload hx hb dX1_goOn_86 (lv_at hl 0 rfl) ?_
              refine va_iast hx hb hK hP hD hS 0 1 rfl rfl (vp_in_nI (by omega) (by decide)) dX1_goOn_88 (fun H locs hP9 hD9 hS9 => ?_)
              clear hP hD hS
              have hP := hP9
              have hD := hD9
              have hS := hS9
              clear hP9 hD9 hS9
              obtain ⟨g_97, eg_97⟩ : ∃ y, upd fa1_1 (nI (((dp + 1) * 4) + 2) : Int32).toNatClampNeg (nI (262144 + k_88)) = y := ⟨_, rfl⟩
              rw [eg_97] at hP hD
              have hr_98 : pRow g_97 := eg_97 ▸ pRow_put (v := (262144 + k_88)) ha2_1 hpk_93
              replace hP : va_P D vwCl [wI (cy 1) q2 24 (g_97), (er, .inl (cy 4, 4, .inr (.inr (.inr (.inr (eF (ea 0) (ea 1) (ea 2) (ea 3))))))), wO (ea 0) 2 [.ref (eg 0), .ref (ef 0), .int (et 0), .int (nI (el 0)), .int (nI (ei 0))], wI (cy 1) (eg 0) 10 (gc 0), wI (cy 1) (ef 0) 7 (xc 0), wO (ea 1) 2 [.ref (eg 1), .ref (ef 1), .int (et 1), .int (nI (el 1)), .int (nI (ei 1))], wI (cy 1) (eg 1) 10 (gc 1), wI (cy 1) (ef 1) 7 (xc 1), wI (cy 1) (ef 2) 7 (xc 2), wO (ea 3) 2 [.ref (eg 3), .ref (ef 3), .int (et 3), .int (nI (el 3)), .int (nI (ei 3))], wI (cy 1) (eg 3) 10 (gc 3), wI (cy 1) (ef 3) 7 (xc 3), wO (ea 2) 2 [.ref (eg 2), .ref (ef 2), .int (et 2), .int (nI ((el 2))), .int (nI ((ei 2)))], wI (cy 1) (eg 2) 10 (gc 2), wO q0 1 [.ref q1, .ref er, .ref q2, .ref q3, .ref q4, .ref h0, .int (nI ql), .int qo], wO h0 4 [.ref h1, .ref h2, .ref h3, .ref h4, .ref h5, .ref h6, .ref h7, .ref h8, .ref h9, .ref h10, .ref h11, hv0, hv1, hv2, hv3, hv4], wI (cy 1) h7 48 (fx), wI (cy 1) h1 4 (fc)] H := hP
              replace hD : va_D A [wI (cy 1) q2 24 (g_97), (er, .inl (cy 4, 4, .inr (.inr (.inr (.inr (eF (ea 0) (ea 1) (ea 2) (ea 3))))))), wO (ea 0) 2 [.ref (eg 0), .ref (ef 0), .int (et 0), .int (nI (el 0)), .int (nI (ei 0))], wI (cy 1) (eg 0) 10 (gc 0), wI (cy 1) (ef 0) 7 (xc 0), wO (ea 1) 2 [.ref (eg 1), .ref (ef 1), .int (et 1), .int (nI (el 1)), .int (nI (ei 1))], wI (cy 1) (eg 1) 10 (gc 1), wI (cy 1) (ef 1) 7 (xc 1), wI (cy 1) (ef 2) 7 (xc 2), wO (ea 3) 2 [.ref (eg 3), .ref (ef 3), .int (et 3), .int (nI (el 3)), .int (nI (ei 3))], wI (cy 1) (eg 3) 10 (gc 3), wI (cy 1) (ef 3) 7 (xc 3), wO (ea 2) 2 [.ref (eg 2), .ref (ef 2), .int (et 2), .int (nI ((el 2))), .int (nI ((ei 2)))], wI (cy 1) (eg 2) 10 (gc 2), wO q0 1 [.ref q1, .ref er, .ref q2, .ref q3, .ref q4, .ref h0, .int (nI ql), .int qo], wO h0 4 [.ref h1, .ref h2, .ref h3, .ref h4, .ref h5, .ref h6, .ref h7, .ref h8, .ref h9, .ref h10, .ref h11, hv0, hv1, hv2, hv3, hv4], wI (cy 1) h7 48 (fx), wI (cy 1) h1 4 (fc)] := hD
              refine lv_iinc (v := 3) (lv' := [(3, .int 3), (4, .int (nI (262144 + k_88))), (5, .ref (ea 2)), (0, .ref q0), (1, .int (nI dp)), (2, .int (nI wd))]) hx hb dX1_goOn_89 hl (k := 2) rfl (by decide) (by decide) rfl (fun ls hl => ?_)
              refine lv_goto (tgt := 2) hx hb dX1_goOn_92 (by decide) ?_
              exact ih1  3 g_97 hr_98 (by omega) (by omega) _ _ (hP.sub [14, 0, 15, 16, 17, 1, 2, 3, 4, 5, 6, 7, 12, 13, 8, 9, 10, 11] rfl) (hD.sub [14, 0, 15, 16, 17, 1, 2, 3, 4, 5, 6, 7, 12, 13, 8, 9, 10, 11] (by decide +kernel) rfl) hS ls (lv_sub hl [0, 3, 4, 5] rfl)
        · subst hsp
          refine va_aldq hx hb hK hP 5 4 rfl rfl (by unfold vp_in; decide) dX1_goOn_32 ?_
          refine W.eq (g2 := F0 m 33 ls [.ref (ea 3)]) rfl ?_
          refine lv_astore (lv' := [(5, .ref (ea 3)), (4, .int (nI v_7)), (3, .int 3), (0, .ref q0), (1, .int (nI dp)), (2, .int (nI wd))]) hx hb dX1_goOn_33 hl (by decide) rfl (fun ls hl => ?_)
          refine lv_aload hx hb dX1_goOn_35 (lv_at hl 0 rfl) ?_
          refine lv_iload_n hx hb dX1_goOn_37 rfl (lv_at hl 4 rfl) ?_
          refine lv_iload_n hx hb dX1_goOn_38 rfl (lv_at hl 5 rfl) ?_
          refine x_callVi (q := (RX2, TX2, 5)) (ci := 2) (q0 := 0) (wr := [wO q0 1 [.ref q1, .ref er, .ref q2, .ref q3, .ref q4, .ref h0, .int (nI ql), .int qo], wI (cy 1) q2 24 (fa1_1), wO h0 4 [.ref h1, .ref h2, .ref h3, .ref h4, .ref h5, .ref h6, .ref h7, .ref h8, .ref h9, .ref h10, .ref h11, hv0, hv1, hv2, hv3, hv4], wI (cy 1) h7 48 (fx), wI (cy 1) h1 4 (fc), (er, .inl (cy 4, 4, .inr (.inr (.inr (.inr (eF (ea 0) (ea 1) (ea 2) (ea 3))))))), wO (ea 0) 2 [.ref (eg 0), .ref (ef 0), .int (et 0), .int (nI (el 0)), .int (nI (ei 0))], wI (cy 1) (eg 0) 10 (gc 0), wI (cy 1) (ef 0) 7 (xc 0), wO (ea 1) 2 [.ref (eg 1), .ref (ef 1), .int (et 1), .int (nI (el 1)), .int (nI (ei 1))], wI (cy 1) (eg 1) 10 (gc 1), wI (cy 1) (ef 1) 7 (xc 1), wO (ea 2) 2 [.ref (eg 2), .ref (ef 2), .int (et 2), .int (nI (el 2)), .int (nI (ei 2))], wI (cy 1) (eg 2) 10 (gc 2), wI (cy 1) (ef 2) 7 (xc 2), wI (cy 1) (ef 3) 7 (xc 3)]) (rest := []) ⟨hx, hb, hml, hown, hg, hl.1⟩ k_X1_70 (s_comesBack l D cy (ea 3) (eg 3) (ef 3) (et 3) ((el 3)) ((ei 3)) (gc 3) dp (nI wd) (by omega)) E0_blind hK hP hD hS hA [15, 16] [0, 1, 2, 3, 4, 5, 6, 7, 8, 9, 10, 11, 12, 13, 14, 17] ⟨rfl, rfl, by decide +kernel, by decide +kernel, by decide +kernel⟩ rfl rfl (fun _ _ _ => trivial) dX1_goOn_39 rfl rfl (Nat.le_of_ble_eq_true rfl) ⟨Nat.le_of_ble_eq_true rfl, Nat.le_of_ble_eq_true rfl⟩ ⟨Nat.le_of_ble_eq_true rfl, Nat.le_of_ble_eq_true rfl⟩ (fun zr99 zu99 H locs hw99 hP9 hD9 hS9 => ?_)
          clear hP hD hS
          refine reW [wO q0 1 [.ref q1, .ref er, .ref q2, .ref q3, .ref q4, .ref h0, .int (nI ql), .int qo], wI (cy 1) q2 24 (fa1_1), wO h0 4 [.ref h1, .ref h2, .ref h3, .ref h4, .ref h5, .ref h6, .ref h7, .ref h8, .ref h9, .ref h10, .ref h11, hv0, hv1, hv2, hv3, hv4], wI (cy 1) h7 48 (fx), wI (cy 1) h1 4 (fc), (er, .inl (cy 4, 4, .inr (.inr (.inr (.inr (eF (ea 0) (ea 1) (ea 2) (ea 3))))))), wO (ea 0) 2 [.ref (eg 0), .ref (ef 0), .int (et 0), .int (nI (el 0)), .int (nI (ei 0))], wI (cy 1) (eg 0) 10 (gc 0), wI (cy 1) (ef 0) 7 (xc 0), wO (ea 1) 2 [.ref (eg 1), .ref (ef 1), .int (et 1), .int (nI (el 1)), .int (nI (ei 1))], wI (cy 1) (eg 1) 10 (gc 1), wI (cy 1) (ef 1) 7 (xc 1), wO (ea 2) 2 [.ref (eg 2), .ref (ef 2), .int (et 2), .int (nI (el 2)), .int (nI (ei 2))], wI (cy 1) (eg 2) 10 (gc 2), wI (cy 1) (ef 2) 7 (xc 2), wI (cy 1) (ef 3) 7 (xc 3), wO (ea 3) 2 [.ref (eg 3), .ref (ef 3), .int (et 3), .int (nI ((el 3))), .int (nI ((ei 3)))], wI (cy 1) (eg 3) 10 (gc 3)] hP9 hD9 hS9 (fun hP hD hS => ?_)
          clear hP9 hD9 hS9
          refine W.widen (k := 0) (n := 0) (Nat.le_of_ble_eq_true rfl) (Nat.le_of_ble_eq_true rfl) ?_
          replace hw99 : (zr99 = 0 ∨ zr99 = 1) := hw99
          have f_100 := hw99
          refine lv_if_eq (tgt := 75) hx hb dX1_goOn_42 (by decide) (fun c_42 => ?_) (fun c_42 => ?_)
          · refine lv_aload_n hx hb dX1_goOn_75 rfl (lv_at hl 3 rfl) ?_
            refine va_get (D := D) (ci := 1) (v := .ref q2) (C := RX1) (T := TX1) (N := 8) hx hb hg i_X1 hown hK hP 0 rfl rfl 2 (by decide) (hg _ m_555) (fun _ h9 => h9) rfl dX1_goOn_76 ?_
            refine lv_iload_n hx hb dX1_goOn_79 rfl (lv_at hl 4 rfl) ?_
            refine lv_iconst (v := 1) hx hb dX1_goOn_80 (by decide) ?_
            refine lv_iadd hx hb dX1_goOn_81 ?_
            refine lv_topi (fun y_101 hy_101 => ?_)
            obtain rfl : y_101 = nI (dp + 1) := hy_101.trans (nI_add dp 1)
            refine lv_iconst (v := 4) hx hb dX1_goOn_82 (by decide) ?_
            refine lv_imul hx hb dX1_goOn_83 ?_
            refine lv_topi (fun y_102 hy_102 => ?_)
            obtain rfl : y_102 = nI ((dp + 1) * 4) := hy_102.trans (pk_mul ((dp + 1)) 4)
            refine lv_iload_n hx hb dX1_goOn_84 rfl (lv_at hl 2 rfl) ?_
            refine lv_iadd hx hb dX1_goOn_85 ?_
            refine lv_topi (fun y_103 hy_103 => ?_)
            obtain rfl : y_103 = nI (((dp + 1) * 4) + 3) := hy_103.trans (nI_add (((dp + 1) * 4)) 3)
            refine lv_iload hx hb dX1_goOn_86 (lv_at hl 1 rfl) ?_
            refine va_iast hx hb hK hP hD hS 1 1 rfl rfl (vp_in_nI (by omega) (by decide)) dX1_goOn_88 (fun H locs hP9 hD9 hS9 => ?_)
            clear hP hD hS
            have hP := hP9
            have hD := hD9
            have hS := hS9
            clear hP9 hD9 hS9
            obtain ⟨g_104, eg_104⟩ : ∃ y, upd fa1_1 (nI (((dp + 1) * 4) + 3) : Int32).toNatClampNeg (nI v_7) = y := ⟨_, rfl⟩
            rw [eg_104] at hP hD
            have hr_105 : pRow g_104 := eg_104 ▸ pRow_put (v := v_7) ha2_1 hv_7
            replace hP : va_P D vwCl [wO q0 1 [.ref q1, .ref er, .ref q2, .ref q3, .ref q4, .ref h0, .int (nI ql), .int qo], wI (cy 1) q2 24 (g_104), wO h0 4 [.ref h1, .ref h2, .ref h3, .ref h4, .ref h5, .ref h6, .ref h7, .ref h8, .ref h9, .ref h10, .ref h11, hv0, hv1, hv2, hv3, hv4], wI (cy 1) h7 48 (fx), wI (cy 1) h1 4 (fc), (er, .inl (cy 4, 4, .inr (.inr (.inr (.inr (eF (ea 0) (ea 1) (ea 2) (ea 3))))))), wO (ea 0) 2 [.ref (eg 0), .ref (ef 0), .int (et 0), .int (nI (el 0)), .int (nI (ei 0))], wI (cy 1) (eg 0) 10 (gc 0), wI (cy 1) (ef 0) 7 (xc 0), wO (ea 1) 2 [.ref (eg 1), .ref (ef 1), .int (et 1), .int (nI (el 1)), .int (nI (ei 1))], wI (cy 1) (eg 1) 10 (gc 1), wI (cy 1) (ef 1) 7 (xc 1), wO (ea 2) 2 [.ref (eg 2), .ref (ef 2), .int (et 2), .int (nI (el 2)), .int (nI (ei 2))], wI (cy 1) (eg 2) 10 (gc 2), wI (cy 1) (ef 2) 7 (xc 2), wI (cy 1) (ef 3) 7 (xc 3), wO (ea 3) 2 [.ref (eg 3), .ref (ef 3), .int (et 3), .int (nI ((el 3))), .int (nI ((ei 3)))], wI (cy 1) (eg 3) 10 (gc 3)] H := hP
            replace hD : va_D A [wO q0 1 [.ref q1, .ref er, .ref q2, .ref q3, .ref q4, .ref h0, .int (nI ql), .int qo], wI (cy 1) q2 24 (g_104), wO h0 4 [.ref h1, .ref h2, .ref h3, .ref h4, .ref h5, .ref h6, .ref h7, .ref h8, .ref h9, .ref h10, .ref h11, hv0, hv1, hv2, hv3, hv4], wI (cy 1) h7 48 (fx), wI (cy 1) h1 4 (fc), (er, .inl (cy 4, 4, .inr (.inr (.inr (.inr (eF (ea 0) (ea 1) (ea 2) (ea 3))))))), wO (ea 0) 2 [.ref (eg 0), .ref (ef 0), .int (et 0), .int (nI (el 0)), .int (nI (ei 0))], wI (cy 1) (eg 0) 10 (gc 0), wI (cy 1) (ef 0) 7 (xc 0), wO (ea 1) 2 [.ref (eg 1), .ref (ef 1), .int (et 1), .int (nI (el 1)), .int (nI (ei 1))], wI (cy 1) (eg 1) 10 (gc 1), wI (cy 1) (ef 1) 7 (xc 1), wO (ea 2) 2 [.ref (eg 2), .ref (ef 2), .int (et 2), .int (nI (el 2)), .int (nI (ei 2))], wI (cy 1) (eg 2) 10 (gc 2), wI (cy 1) (ef 2) 7 (xc 2), wI (cy 1) (ef 3) 7 (xc 3), wO (ea 3) 2 [.ref (eg 3), .ref (ef 3), .int (et 3), .int (nI ((el 3))), .int (nI ((ei 3)))], wI (cy 1) (eg 3) 10 (gc 3)] := hD
            refine lv_iinc (v := 4) (lv' := [(3, .int 4), (5, .ref (ea 3)), (4, .int (nI v_7)), (0, .ref q0), (1, .int (nI dp)), (2, .int (nI wd))]) hx hb dX1_goOn_89 hl (k := 2) rfl (by decide) (by decide) rfl (fun ls hl => ?_)
            refine lv_goto (tgt := 2) hx hb dX1_goOn_92 (by decide) ?_
            exact ih1  4 g_104 hr_105 (by omega) (by omega) _ _ (hP.sub [0, 1, 2, 3, 4, 5, 6, 7, 8, 9, 10, 11, 12, 13, 14, 16, 17, 15] rfl) (hD.sub [0, 1, 2, 3, 4, 5, 6, 7, 8, 9, 10, 11, 12, 13, 14, 16, 17, 15] (by decide +kernel) rfl) hS ls (lv_sub hl [0, 3, 4, 5] rfl)
          · refine lv_ldc (v := 262144) hx hb hown (hg _ m_1162) dX1_goOn_45 ?_
            refine lv_aload hx hb dX1_goOn_47 (lv_at hl 0 rfl) ?_
            refine va_get (D := D) (ci := 2) (v := .int (et 3)) (C := RX2) (T := TX2) (N := 5) hx hb hg i_X2 hown hK hP 16 rfl rfl 2 (by decide) (hg _ m_517) (fun _ h9 => h9) rfl dX1_goOn_49 ?_
            refine lv_if_eq (tgt := 65) hx hb dX1_goOn_52 (by decide) (fun c_52 => ?_) (fun c_52 => ?_)
            · refine lv_aload_n hx hb dX1_goOn_65 rfl (lv_at hl 3 rfl) ?_
              refine lv_iload hx hb dX1_goOn_66 (lv_at hl 1 rfl) ?_
              refine lv_iload_n hx hb dX1_goOn_68 rfl (lv_at hl 5 rfl) ?_
              refine x_callVi (q := (RX1, TX1, 8)) (ci := 1) (q0 := 0) (wr := [wI (cy 1) q2 24 (fa1_1), wI (cy 1) h1 4 (fc), (er, .inl (cy 4, 4, .inr (.inr (.inr (.inr (eF (ea 0) (ea 1) (ea 2) (ea 3))))))), wO (ea 0) 2 [.ref (eg 0), .ref (ef 0), .int (et 0), .int (nI (el 0)), .int (nI (ei 0))], wI (cy 1) (eg 0) 10 (gc 0), wI (cy 1) (ef 0) 7 (xc 0), wO (ea 1) 2 [.ref (eg 1), .ref (ef 1), .int (et 1), .int (nI (el 1)), .int (nI (ei 1))], wI (cy 1) (eg 1) 10 (gc 1), wI (cy 1) (ef 1) 7 (xc 1), wO (ea 2) 2 [.ref (eg 2), .ref (ef 2), .int (et 2), .int (nI (el 2)), .int (nI (ei 2))], wI (cy 1) (eg 2) 10 (gc 2), wI (cy 1) (ef 2) 7 (xc 2), wI (cy 1) (ef 3) 7 (xc 3), wO (ea 3) 2 [.ref (eg 3), .ref (ef 3), .int (et 3), .int (nI ((el 3))), .int (nI ((ei 3)))], wI (cy 1) (eg 3) 10 (gc 3)]) (rest := [.int 262144]) ⟨hx, hb, hml, hown, hg, hl.1⟩ k_X1_81 (s_straightPath l D cy q0 q1 q2 q3 q4 er ql qo h0 h1 h2 h3 h4 h5 h6 h7 h8 h9 h10 h11 hv0 hv1 hv2 hv3 hv4 fx v_7 wd (hnx) (hv_7) (by omega)) E0_blind hK hP hD hS hA [0, 2, 3] [1, 4, 5, 6, 7, 8, 9, 10, 11, 12, 13, 14, 15, 16, 17] ⟨rfl, rfl, by decide +kernel, by decide +kernel, by decide +kernel⟩ rfl rfl (fun _ _ _ => trivial) dX1_goOn_69 rfl rfl (Nat.le_of_ble_eq_true rfl) ⟨Nat.le_of_ble_eq_true rfl, Nat.le_of_ble_eq_true rfl⟩ ⟨Nat.le_of_ble_eq_true rfl, Nat.le_of_ble_eq_true rfl⟩ (fun zr106 zu106 H locs hw106 hP9 hD9 hS9 => ?_)
              clear hP hD hS
              obtain ⟨k_107, rfl⟩ : ∃ z, z = zu106 := ⟨_, rfl⟩
              refine reW [wI (cy 1) q2 24 (fa1_1), wI (cy 1) h1 4 (fc), (er, .inl (cy 4, 4, .inr (.inr (.inr (.inr (eF (ea 0) (ea 1) (ea 2) (ea 3))))))), wO (ea 0) 2 [.ref (eg 0), .ref (ef 0), .int (et 0), .int (nI (el 0)), .int (nI (ei 0))], wI (cy 1) (eg 0) 10 (gc 0), wI (cy 1) (ef 0) 7 (xc 0), wO (ea 1) 2 [.ref (eg 1), .ref (ef 1), .int (et 1), .int (nI (el 1)), .int (nI (ei 1))], wI (cy 1) (eg 1) 10 (gc 1), wI (cy 1) (ef 1) 7 (xc 1), wO (ea 2) 2 [.ref (eg 2), .ref (ef 2), .int (et 2), .int (nI (el 2)), .int (nI (ei 2))], wI (cy 1) (eg 2) 10 (gc 2), wI (cy 1) (ef 2) 7 (xc 2), wI (cy 1) (ef 3) 7 (xc 3), wO (ea 3) 2 [.ref (eg 3), .ref (ef 3), .int (et 3), .int (nI ((el 3))), .int (nI ((ei 3)))], wI (cy 1) (eg 3) 10 (gc 3), wO q0 1 [.ref q1, .ref er, .ref q2, .ref q3, .ref q4, .ref h0, .int (nI ql), .int qo], wO h0 4 [.ref h1, .ref h2, .ref h3, .ref h4, .ref h5, .ref h6, .ref h7, .ref h8, .ref h9, .ref h10, .ref h11, hv0, hv1, hv2, hv3, hv4], wI (cy 1) h7 48 (fx)] hP9 hD9 hS9 (fun hP hD hS => ?_)
              clear hP9 hD9 hS9
              refine W.widen (k := 0) (n := 0) (Nat.le_of_ble_eq_true rfl) (Nat.le_of_ble_eq_true rfl) ?_
              replace hw106 : (zr106 = nI k_107) ∧ (k_107 ≤ 5) := hw106
              obtain ⟨f_108, f_109⟩ := hw106
              subst f_108
              refine lv_ior hx hb dX1_goOn_72 ?_
              refine lv_topi (fun x_110 ex_110 => ?_)
              have hlt9 : k_107 < 262144 := by omega
              obtain rfl : x_110 = nI (262144 + k_107) := ex_110.trans (or_ans hlt9)
              have hpk_111 : pOK (262144 + k_107) := pOK_up (pOK_small (by omega)) hlt9
              refine lv_istore (lv' := [(4, .int (nI (262144 + k_107))), (5, .ref (ea 3)), (3, .int 3), (0, .ref q0), (1, .int (nI dp)), (2, .int (nI wd))]) hx hb dX1_goOn_73 hl (by decide) rfl (fun ls hl => ?_)
              refine lv_aload_n hx hb dX1_goOn_75 rfl (lv_at hl 3 rfl) ?_
              refine va_get (D := D) (ci := 1) (v := .ref q2) (C := RX1) (T := TX1) (N := 8) hx hb hg i_X1 hown hK hP 15 rfl rfl 2 (by decide) (hg _ m_555) (fun _ h9 => h9) rfl dX1_goOn_76 ?_
              refine lv_iload_n hx hb dX1_goOn_79 rfl (lv_at hl 4 rfl) ?_
              refine lv_iconst (v := 1) hx hb dX1_goOn_80 (by decide) ?_
              refine lv_iadd hx hb dX1_goOn_81 ?_
              refine lv_topi (fun y_112 hy_112 => ?_)
              obtain rfl : y_112 = nI (dp + 1) := hy_112.trans (nI_add dp 1)
              refine lv_iconst (v := 4) hx hb dX1_goOn_82 (by decide) ?_
              refine lv_imul hx hb dX1_goOn_83 ?_
              refine lv_topi (fun y_113 hy_113 => ?_)
              obtain rfl : y_113 = nI ((dp + 1) * 4) := hy_113.trans (pk_mul ((dp + 1)) 4)
              refine lv_iload_n hx hb dX1_goOn_84 rfl (lv_at hl 2 rfl) ?_
              refine lv_iadd hx hb dX1_goOn_85 ?_
              refine lv_topi (fun y_114 hy_114 => ?_)
              obtain rfl : y_114 = nI (((dp + 1) * 4) + 3) := hy_114.trans (nI_add (((dp + 1) * 4)) 3)
              refine lv_iload hx hb dX1_goOn_86 (lv_at hl 0 rfl) ?_
              refine va_iast hx hb hK hP hD hS 0 1 rfl rfl (vp_in_nI (by omega) (by decide)) dX1_goOn_88 (fun H locs hP9 hD9 hS9 => ?_)
              clear hP hD hS
              have hP := hP9
              have hD := hD9
              have hS := hS9
              clear hP9 hD9 hS9
              obtain ⟨g_115, eg_115⟩ : ∃ y, upd fa1_1 (nI (((dp + 1) * 4) + 3) : Int32).toNatClampNeg (nI (262144 + k_107)) = y := ⟨_, rfl⟩
              rw [eg_115] at hP hD
              have hr_116 : pRow g_115 := eg_115 ▸ pRow_put (v := (262144 + k_107)) ha2_1 hpk_111
              replace hP : va_P D vwCl [wI (cy 1) q2 24 (g_115), wI (cy 1) h1 4 (fc), (er, .inl (cy 4, 4, .inr (.inr (.inr (.inr (eF (ea 0) (ea 1) (ea 2) (ea 3))))))), wO (ea 0) 2 [.ref (eg 0), .ref (ef 0), .int (et 0), .int (nI (el 0)), .int (nI (ei 0))], wI (cy 1) (eg 0) 10 (gc 0), wI (cy 1) (ef 0) 7 (xc 0), wO (ea 1) 2 [.ref (eg 1), .ref (ef 1), .int (et 1), .int (nI (el 1)), .int (nI (ei 1))], wI (cy 1) (eg 1) 10 (gc 1), wI (cy 1) (ef 1) 7 (xc 1), wO (ea 2) 2 [.ref (eg 2), .ref (ef 2), .int (et 2), .int (nI (el 2)), .int (nI (ei 2))], wI (cy 1) (eg 2) 10 (gc 2), wI (cy 1) (ef 2) 7 (xc 2), wI (cy 1) (ef 3) 7 (xc 3), wO (ea 3) 2 [.ref (eg 3), .ref (ef 3), .int (et 3), .int (nI ((el 3))), .int (nI ((ei 3)))], wI (cy 1) (eg 3) 10 (gc 3), wO q0 1 [.ref q1, .ref er, .ref q2, .ref q3, .ref q4, .ref h0, .int (nI ql), .int qo], wO h0 4 [.ref h1, .ref h2, .ref h3, .ref h4, .ref h5, .ref h6, .ref h7, .ref h8, .ref h9, .ref h10, .ref h11, hv0, hv1, hv2, hv3, hv4], wI (cy 1) h7 48 (fx)] H := hP
              replace hD : va_D A [wI (cy 1) q2 24 (g_115), wI (cy 1) h1 4 (fc), (er, .inl (cy 4, 4, .inr (.inr (.inr (.inr (eF (ea 0) (ea 1) (ea 2) (ea 3))))))), wO (ea 0) 2 [.ref (eg 0), .ref (ef 0), .int (et 0), .int (nI (el 0)), .int (nI (ei 0))], wI (cy 1) (eg 0) 10 (gc 0), wI (cy 1) (ef 0) 7 (xc 0), wO (ea 1) 2 [.ref (eg 1), .ref (ef 1), .int (et 1), .int (nI (el 1)), .int (nI (ei 1))], wI (cy 1) (eg 1) 10 (gc 1), wI (cy 1) (ef 1) 7 (xc 1), wO (ea 2) 2 [.ref (eg 2), .ref (ef 2), .int (et 2), .int (nI (el 2)), .int (nI (ei 2))], wI (cy 1) (eg 2) 10 (gc 2), wI (cy 1) (ef 2) 7 (xc 2), wI (cy 1) (ef 3) 7 (xc 3), wO (ea 3) 2 [.ref (eg 3), .ref (ef 3), .int (et 3), .int (nI ((el 3))), .int (nI ((ei 3)))], wI (cy 1) (eg 3) 10 (gc 3), wO q0 1 [.ref q1, .ref er, .ref q2, .ref q3, .ref q4, .ref h0, .int (nI ql), .int qo], wO h0 4 [.ref h1, .ref h2, .ref h3, .ref h4, .ref h5, .ref h6, .ref h7, .ref h8, .ref h9, .ref h10, .ref h11, hv0, hv1, hv2, hv3, hv4], wI (cy 1) h7 48 (fx)] := hD
              refine lv_iinc (v := 4) (lv' := [(3, .int 4), (4, .int (nI (262144 + k_107))), (5, .ref (ea 3)), (0, .ref q0), (1, .int (nI dp)), (2, .int (nI wd))]) hx hb dX1_goOn_89 hl (k := 2) rfl (by decide) (by decide) rfl (fun ls hl => ?_)
              refine lv_goto (tgt := 2) hx hb dX1_goOn_92 (by decide) ?_
              exact ih1  4 g_115 hr_116 (by omega) (by omega) _ _ (hP.sub [15, 0, 16, 17, 1, 2, 3, 4, 5, 6, 7, 8, 9, 10, 11, 13, 14, 12] rfl) (hD.sub [15, 0, 16, 17, 1, 2, 3, 4, 5, 6, 7, 8, 9, 10, 11, 13, 14, 12] (by decide +kernel) rfl) hS ls (lv_sub hl [0, 3, 4, 5] rfl)
            · refine lv_aload_n hx hb dX1_goOn_55 rfl (lv_at hl 3 rfl) ?_
              refine lv_iload hx hb dX1_goOn_56 (lv_at hl 1 rfl) ?_
              refine lv_iload_n hx hb dX1_goOn_58 rfl (lv_at hl 5 rfl) ?_
              refine x_callVi (q := (RX1, TX1, 8)) (ci := 1) (q0 := 0) (wr := [wI (cy 1) q2 24 (fa1_1), (er, .inl (cy 4, 4, .inr (.inr (.inr (.inr (eF (ea 0) (ea 1) (ea 2) (ea 3))))))), wO (ea 0) 2 [.ref (eg 0), .ref (ef 0), .int (et 0), .int (nI (el 0)), .int (nI (ei 0))], wI (cy 1) (eg 0) 10 (gc 0), wI (cy 1) (ef 0) 7 (xc 0), wO (ea 1) 2 [.ref (eg 1), .ref (ef 1), .int (et 1), .int (nI (el 1)), .int (nI (ei 1))], wI (cy 1) (eg 1) 10 (gc 1), wI (cy 1) (ef 1) 7 (xc 1), wO (ea 2) 2 [.ref (eg 2), .ref (ef 2), .int (et 2), .int (nI (el 2)), .int (nI (ei 2))], wI (cy 1) (eg 2) 10 (gc 2), wI (cy 1) (ef 2) 7 (xc 2), wI (cy 1) (ef 3) 7 (xc 3), wO (ea 3) 2 [.ref (eg 3), .ref (ef 3), .int (et 3), .int (nI ((el 3))), .int (nI ((ei 3)))], wI (cy 1) (eg 3) 10 (gc 3)]) (rest := [.int 262144]) ⟨hx, hb, hml, hown, hg, hl.1⟩ k_X1_77 (s_turnedPath l D cy q0 q1 q2 q3 q4 er ql qo h0 h1 h2 h3 h4 h5 h6 h7 h8 h9 h10 h11 hv0 hv1 hv2 hv3 hv4 fx fc c0 c1 c2 c3 v_7 wd (hnx) (hcn) (by omega) (by omega) (by omega) (by omega) (hv_7) (by omega)) E0_blind hK hP hD hS hA [0, 2, 3, 4] [1, 5, 6, 7, 8, 9, 10, 11, 12, 13, 14, 15, 16, 17] ⟨rfl, rfl, by decide +kernel, by decide +kernel, by decide +kernel⟩ rfl rfl (fun _ _ _ => trivial) dX1_goOn_59 rfl rfl (Nat.le_of_ble_eq_true rfl) ⟨Nat.le_of_ble_eq_true rfl, Nat.le_of_ble_eq_true rfl⟩ ⟨Nat.le_of_ble_eq_true rfl, Nat.le_of_ble_eq_true rfl⟩ (fun zr117 zu117 H locs hw117 hP9 hD9 hS9 => ?_)
              clear hP hD hS
              obtain ⟨k_118, rfl⟩ : ∃ z, z = zu117 := ⟨_, rfl⟩
              refine reW [wI (cy 1) q2 24 (fa1_1), (er, .inl (cy 4, 4, .inr (.inr (.inr (.inr (eF (ea 0) (ea 1) (ea 2) (ea 3))))))), wO (ea 0) 2 [.ref (eg 0), .ref (ef 0), .int (et 0), .int (nI (el 0)), .int (nI (ei 0))], wI (cy 1) (eg 0) 10 (gc 0), wI (cy 1) (ef 0) 7 (xc 0), wO (ea 1) 2 [.ref (eg 1), .ref (ef 1), .int (et 1), .int (nI (el 1)), .int (nI (ei 1))], wI (cy 1) (eg 1) 10 (gc 1), wI (cy 1) (ef 1) 7 (xc 1), wO (ea 2) 2 [.ref (eg 2), .ref (ef 2), .int (et 2), .int (nI (el 2)), .int (nI (ei 2))], wI (cy 1) (eg 2) 10 (gc 2), wI (cy 1) (ef 2) 7 (xc 2), wI (cy 1) (ef 3) 7 (xc 3), wO (ea 3) 2 [.ref (eg 3), .ref (ef 3), .int (et 3), .int (nI ((el 3))), .int (nI ((ei 3)))], wI (cy 1) (eg 3) 10 (gc 3), wO q0 1 [.ref q1, .ref er, .ref q2, .ref q3, .ref q4, .ref h0, .int (nI ql), .int qo], wO h0 4 [.ref h1, .ref h2, .ref h3, .ref h4, .ref h5, .ref h6, .ref h7, .ref h8, .ref h9, .ref h10, .ref h11, hv0, hv1, hv2, hv3, hv4], wI (cy 1) h7 48 (fx), wI (cy 1) h1 4 (fc)] hP9 hD9 hS9 (fun hP hD hS => ?_)
              clear hP9 hD9 hS9
              refine W.widen (k := 0) (n := 0) (Nat.le_of_ble_eq_true rfl) (Nat.le_of_ble_eq_true rfl) ?_
              replace hw117 : (zr117 = nI k_118) ∧ (pOK k_118) ∧ (k_118 < 262144) := hw117
              obtain ⟨f_119, f_120, f_121⟩ := hw117
              subst f_119
              refine lv_goto (tgt := 72) hx hb dX1_goOn_62 (by decide) ?_
              refine lv_ior hx hb dX1_goOn_72 ?_
              refine lv_topi (fun x_122 ex_122 => ?_)
              have hlt9 : k_118 < 262144 := by omega
              obtain rfl : x_122 = nI (262144 + k_118) := ex_122.trans (or_ans hlt9)
              have hpk_123 : pOK (262144 + k_118) := pOK_up (f_120) hlt9
              refine lv_istore (lv' := [(4, .int (nI (262144 + k_118))), (5, .ref (ea 3)), (3, .int 3), (0, .ref q0), (1, .int (nI dp)), (2, .int (nI wd))]) hx hb dX1_goOn_73 hl (by decide) rfl (fun ls hl => ?_)
              refine lv_aload_n hx hb dX1_goOn_75 rfl (lv_at hl 3 rfl) ?_
              refine va_get (D := D) (ci := 1) (v := .ref q2) (C := RX1) (T := TX1) (N := 8) hx hb hg i_X1 hown hK hP 14 rfl rfl 2 (by decide) (hg _ m_555) (fun _ h9 => h9) rfl dX1_goOn_76 ?_
              refine lv_iload_n hx hb dX1_goOn_79 rfl (lv_at hl 4 rfl) ?_
              refine lv_iconst (v := 1) hx hb dX1_goOn_80 (by decide) ?_
              refine lv_iadd hx hb dX1_goOn_81 ?_
              refine lv_topi (fun y_124 hy_124 => ?_)
              obtain rfl : y_124 = nI (dp + 1) := hy_124.trans (nI_add dp 1)
              refine lv_iconst (v := 4) hx hb dX1_goOn_82 (by decide) ?_
              refine lv_imul hx hb dX1_goOn_83 ?_
              refine lv_topi (fun y_125 hy_125 => ?_)
              obtain rfl : y_125 = nI ((dp + 1) * 4) := hy_125.trans (pk_mul ((dp + 1)) 4)
              refine lv_iload_n hx hb dX1_goOn_84 rfl (lv_at hl 2 rfl) ?_
              refine lv_iadd hx hb dX1_goOn_85 ?_
              refine lv_topi (fun y_126 hy_126 => ?_)
              obtain rfl : y_126 = nI (((dp + 1) * 4) + 3) := hy_126.trans (nI_add (((dp + 1) * 4)) 3)
              refine lv_iload hx hb dX1_goOn_86 (lv_at hl 0 rfl) ?_
              refine va_iast hx hb hK hP hD hS 0 1 rfl rfl (vp_in_nI (by omega) (by decide)) dX1_goOn_88 (fun H locs hP9 hD9 hS9 => ?_)
              clear hP hD hS
              have hP := hP9
              have hD := hD9
              have hS := hS9
              clear hP9 hD9 hS9
              obtain ⟨g_127, eg_127⟩ : ∃ y, upd fa1_1 (nI (((dp + 1) * 4) + 3) : Int32).toNatClampNeg (nI (262144 + k_118)) = y := ⟨_, rfl⟩
              rw [eg_127] at hP hD
              have hr_128 : pRow g_127 := eg_127 ▸ pRow_put (v := (262144 + k_118)) ha2_1 hpk_123
              replace hP : va_P D vwCl [wI (cy 1) q2 24 (g_127), (er, .inl (cy 4, 4, .inr (.inr (.inr (.inr (eF (ea 0) (ea 1) (ea 2) (ea 3))))))), wO (ea 0) 2 [.ref (eg 0), .ref (ef 0), .int (et 0), .int (nI (el 0)), .int (nI (ei 0))], wI (cy 1) (eg 0) 10 (gc 0), wI (cy 1) (ef 0) 7 (xc 0), wO (ea 1) 2 [.ref (eg 1), .ref (ef 1), .int (et 1), .int (nI (el 1)), .int (nI (ei 1))], wI (cy 1) (eg 1) 10 (gc 1), wI (cy 1) (ef 1) 7 (xc 1), wO (ea 2) 2 [.ref (eg 2), .ref (ef 2), .int (et 2), .int (nI (el 2)), .int (nI (ei 2))], wI (cy 1) (eg 2) 10 (gc 2), wI (cy 1) (ef 2) 7 (xc 2), wI (cy 1) (ef 3) 7 (xc 3), wO (ea 3) 2 [.ref (eg 3), .ref (ef 3), .int (et 3), .int (nI ((el 3))), .int (nI ((ei 3)))], wI (cy 1) (eg 3) 10 (gc 3), wO q0 1 [.ref q1, .ref er, .ref q2, .ref q3, .ref q4, .ref h0, .int (nI ql), .int qo], wO h0 4 [.ref h1, .ref h2, .ref h3, .ref h4, .ref h5, .ref h6, .ref h7, .ref h8, .ref h9, .ref h10, .ref h11, hv0, hv1, hv2, hv3, hv4], wI (cy 1) h7 48 (fx), wI (cy 1) h1 4 (fc)] H := hP
              replace hD : va_D A [wI (cy 1) q2 24 (g_127), (er, .inl (cy 4, 4, .inr (.inr (.inr (.inr (eF (ea 0) (ea 1) (ea 2) (ea 3))))))), wO (ea 0) 2 [.ref (eg 0), .ref (ef 0), .int (et 0), .int (nI (el 0)), .int (nI (ei 0))], wI (cy 1) (eg 0) 10 (gc 0), wI (cy 1) (ef 0) 7 (xc 0), wO (ea 1) 2 [.ref (eg 1), .ref (ef 1), .int (et 1), .int (nI (el 1)), .int (nI (ei 1))], wI (cy 1) (eg 1) 10 (gc 1), wI (cy 1) (ef 1) 7 (xc 1), wO (ea 2) 2 [.ref (eg 2), .ref (ef 2), .int (et 2), .int (nI (el 2)), .int (nI (ei 2))], wI (cy 1) (eg 2) 10 (gc 2), wI (cy 1) (ef 2) 7 (xc 2), wI (cy 1) (ef 3) 7 (xc 3), wO (ea 3) 2 [.ref (eg 3), .ref (ef 3), .int (et 3), .int (nI ((el 3))), .int (nI ((ei 3)))], wI (cy 1) (eg 3) 10 (gc 3), wO q0 1 [.ref q1, .ref er, .ref q2, .ref q3, .ref q4, .ref h0, .int (nI ql), .int qo], wO h0 4 [.ref h1, .ref h2, .ref h3, .ref h4, .ref h5, .ref h6, .ref h7, .ref h8, .ref h9, .ref h10, .ref h11, hv0, hv1, hv2, hv3, hv4], wI (cy 1) h7 48 (fx), wI (cy 1) h1 4 (fc)] := hD
              refine lv_iinc (v := 4) (lv' := [(3, .int 4), (4, .int (nI (262144 + k_118))), (5, .ref (ea 3)), (0, .ref q0), (1, .int (nI dp)), (2, .int (nI wd))]) hx hb dX1_goOn_89 hl (k := 2) rfl (by decide) (by decide) rfl (fun ls hl => ?_)
              refine lv_goto (tgt := 2) hx hb dX1_goOn_92 (by decide) ?_
              exact ih1  4 g_127 hr_128 (by omega) (by omega) _ _ (hP.sub [14, 0, 15, 16, 17, 1, 2, 3, 4, 5, 6, 7, 8, 9, 10, 12, 13, 11] rfl) (hD.sub [14, 0, 15, 16, 17, 1, 2, 3, 4, 5, 6, 7, 8, 9, 10, 12, 13, 11] (by decide +kernel) rfl) hS ls (lv_sub hl [0, 3, 4, 5] rfl)
  exact loop1 _ 0 fph hph (by omega) (Nat.le_refl _) _ _ (hP.sub [0, 1, 2, 3, 4, 5, 6, 7, 8, 9, 10, 11, 12, 13, 14, 15, 16, 17] rfl) (hD.sub [0, 1, 2, 3, 4, 5, 6, 7, 8, 9, 10, 11, 12, 13, 14, 15, 16, 17] (by decide +kernel) rfl) hS ls (lv_sub hl [0, 1, 2, 3] rfl)
theorem gdX1_pardonsWithLast_0 : decode cX1_pardonsWithLast 0 = .ok (.iconst 0, 1) ∧ decode cX1_pardonsWithLast 1 = .ok (.istore_n 3, 1) ∧ decode cX1_pardonsWithLast 2 = .ok (.iload_n 3, 1) ∧ decode cX1_pardonsWithLast 3 = .ok (.aload_n 0, 1) ∧ decode cX1_pardonsWithLast 4 = .ok (.getfield 31, 3) ∧ decode cX1_pardonsWithLast 7 = .ok (.getfield 43, 3) ∧ decode cX1_pardonsWithLast 10 = .ok (.iconst 1, 1) ∧ decode cX1_pardonsWithLast 11 = .ok (.iaload, 1) ∧ decode cX1_pardonsWithLast 12 = .ok (.if_icmp .ge 88, 3) ∧ decode cX1_pardonsWithLast 100 = .ok (.iconst 1, 1) ∧ decode cX1_pardonsWithLast 101 = .ok (.ireturn, 1) ∧ decode cX1_pardonsWithLast 15 = .ok (.aload_n 0, 1) := by decide +kernel
theorem dX1_pardonsWithLast_0 : decode cX1_pardonsWithLast 0 = .ok (.iconst 0, 1) := gdX1_pardonsWithLast_0.1
theorem dX1_pardonsWithLast_1 : decode cX1_pardonsWithLast 1 = .ok (.istore_n 3, 1) := gdX1_pardonsWithLast_0.2.1
theorem dX1_pardonsWithLast_2 : decode cX1_pardonsWithLast 2 = .ok (.iload_n 3, 1) := gdX1_pardonsWithLast_0.2.2.1
theorem dX1_pardonsWithLast_3 : decode cX1_pardonsWithLast 3 = .ok (.aload_n 0, 1) := gdX1_pardonsWithLast_0.2.2.2.1
theorem dX1_pardonsWithLast_4 : decode cX1_pardonsWithLast 4 = .ok (.getfield 31, 3) := gdX1_pardonsWithLast_0.2.2.2.2.1
theorem dX1_pardonsWithLast_7 : decode cX1_pardonsWithLast 7 = .ok (.getfield 43, 3) := gdX1_pardonsWithLast_0.2.2.2.2.2.1
theorem dX1_pardonsWithLast_10 : decode cX1_pardonsWithLast 10 = .ok (.iconst 1, 1) := gdX1_pardonsWithLast_0.2.2.2.2.2.2.1
theorem dX1_pardonsWithLast_11 : decode cX1_pardonsWithLast 11 = .ok (.iaload, 1) := gdX1_pardonsWithLast_0.2.2.2.2.2.2.2.1
theorem dX1_pardonsWithLast_12 : decode cX1_pardonsWithLast 12 = .ok (.if_icmp .ge 88, 3) := gdX1_pardonsWithLast_0.2.2.2.2.2.2.2.2.1
theorem dX1_pardonsWithLast_100 : decode cX1_pardonsWithLast 100 = .ok (.iconst 1, 1) := gdX1_pardonsWithLast_0.2.2.2.2.2.2.2.2.2.1
theorem dX1_pardonsWithLast_101 : decode cX1_pardonsWithLast 101 = .ok (.ireturn, 1) := gdX1_pardonsWithLast_0.2.2.2.2.2.2.2.2.2.2.1
theorem dX1_pardonsWithLast_15 : decode cX1_pardonsWithLast 15 = .ok (.aload_n 0, 1) := gdX1_pardonsWithLast_0.2.2.2.2.2.2.2.2.2.2.2
theorem gdX1_pardonsWithLast_16 : decode cX1_pardonsWithLast 16 = .ok (.getfield 15, 3) ∧ decode cX1_pardonsWithLast 19 = .ok (.iload_n 1, 1) ∧ decode cX1_pardonsWithLast 20 = .ok (.iconst 4, 1) ∧ decode cX1_pardonsWithLast 21 = .ok (.imul, 1) ∧ decode cX1_pardonsWithLast 22 = .ok (.iload_n 3, 1) ∧ decode cX1_pardonsWithLast 23 = .ok (.iadd, 1) ∧ decode cX1_pardonsWithLast 24 = .ok (.iaload, 1) ∧ decode cX1_pardonsWithLast 25 = .ok (.istore 4, 2) ∧ decode cX1_pardonsWithLast 27 = .ok (.aload_n 0, 1) ∧ decode cX1_pardonsWithLast 28 = .ok (.getfield 30, 3) ∧ decode cX1_pardonsWithLast 31 = .ok (.iload_n 3, 1) ∧ decode cX1_pardonsWithLast 32 = .ok (.aaload, 1) := by decide +kernel
theorem dX1_pardonsWithLast_16 : decode cX1_pardonsWithLast 16 = .ok (.getfield 15, 3) := gdX1_pardonsWithLast_16.1
theorem dX1_pardonsWithLast_19 : decode cX1_pardonsWithLast 19 = .ok (.iload_n 1, 1) := gdX1_pardonsWithLast_16.2.1
theorem dX1_pardonsWithLast_20 : decode cX1_pardonsWithLast 20 = .ok (.iconst 4, 1) := gdX1_pardonsWithLast_16.2.2.1
theorem dX1_pardonsWithLast_21 : decode cX1_pardonsWithLast 21 = .ok (.imul, 1) := gdX1_pardonsWithLast_16.2.2.2.1
theorem dX1_pardonsWithLast_22 : decode cX1_pardonsWithLast 22 = .ok (.iload_n 3, 1) := gdX1_pardonsWithLast_16.2.2.2.2.1
theorem dX1_pardonsWithLast_23 : decode cX1_pardonsWithLast 23 = .ok (.iadd, 1) := gdX1_pardonsWithLast_16.2.2.2.2.2.1
theorem dX1_pardonsWithLast_24 : decode cX1_pardonsWithLast 24 = .ok (.iaload, 1) := gdX1_pardonsWithLast_16.2.2.2.2.2.2.1
theorem dX1_pardonsWithLast_25 : decode cX1_pardonsWithLast 25 = .ok (.istore 4, 2) := gdX1_pardonsWithLast_16.2.2.2.2.2.2.2.1
theorem dX1_pardonsWithLast_27 : decode cX1_pardonsWithLast 27 = .ok (.aload_n 0, 1) := gdX1_pardonsWithLast_16.2.2.2.2.2.2.2.2.1
theorem dX1_pardonsWithLast_28 : decode cX1_pardonsWithLast 28 = .ok (.getfield 30, 3) := gdX1_pardonsWithLast_16.2.2.2.2.2.2.2.2.2.1
theorem dX1_pardonsWithLast_31 : decode cX1_pardonsWithLast 31 = .ok (.iload_n 3, 1) := gdX1_pardonsWithLast_16.2.2.2.2.2.2.2.2.2.2.1
theorem dX1_pardonsWithLast_32 : decode cX1_pardonsWithLast 32 = .ok (.aaload, 1) := gdX1_pardonsWithLast_16.2.2.2.2.2.2.2.2.2.2.2
theorem gdX1_pardonsWithLast_33 : decode cX1_pardonsWithLast 33 = .ok (.astore 5, 2) ∧ decode cX1_pardonsWithLast 35 = .ok (.aload 5, 2) ∧ decode cX1_pardonsWithLast 37 = .ok (.iload_n 1, 1) ∧ decode cX1_pardonsWithLast 38 = .ok (.iload_n 2, 1) ∧ decode cX1_pardonsWithLast 39 = .ok (.invokevirtual 70, 3) ∧ decode cX1_pardonsWithLast 42 = .ok (.istore 6, 2) ∧ decode cX1_pardonsWithLast 44 = .ok (.iload 6, 2) ∧ decode cX1_pardonsWithLast 46 = .ok (.ifCond .ne 13, 3) ∧ decode cX1_pardonsWithLast 59 = .ok (.aload_n 0, 1) ∧ decode cX1_pardonsWithLast 60 = .ok (.getfield 31, 3) ∧ decode cX1_pardonsWithLast 63 = .ok (.iload 6, 2) ∧ decode cX1_pardonsWithLast 65 = .ok (.ifCond .eq 15, 3) := by decide +kernel
theorem dX1_pardonsWithLast_33 : decode cX1_pardonsWithLast 33 = .ok (.astore 5, 2) := gdX1_pardonsWithLast_33.1
theorem dX1_pardonsWithLast_35 : decode cX1_pardonsWithLast 35 = .ok (.aload 5, 2) := gdX1_pardonsWithLast_33.2.1
theorem dX1_pardonsWithLast_37 : decode cX1_pardonsWithLast 37 = .ok (.iload_n 1, 1) := gdX1_pardonsWithLast_33.2.2.1
theorem dX1_pardonsWithLast_38 : decode cX1_pardonsWithLast 38 = .ok (.iload_n 2, 1) := gdX1_pardonsWithLast_33.2.2.2.1
theorem dX1_pardonsWithLast_39 : decode cX1_pardonsWithLast 39 = .ok (.invokevirtual 70, 3) := gdX1_pardonsWithLast_33.2.2.2.2.1
theorem dX1_pardonsWithLast_42 : decode cX1_pardonsWithLast 42 = .ok (.istore 6, 2) := gdX1_pardonsWithLast_33.2.2.2.2.2.1
theorem dX1_pardonsWithLast_44 : decode cX1_pardonsWithLast 44 = .ok (.iload 6, 2) := gdX1_pardonsWithLast_33.2.2.2.2.2.2.1
theorem dX1_pardonsWithLast_46 : decode cX1_pardonsWithLast 46 = .ok (.ifCond .ne 13, 3) := gdX1_pardonsWithLast_33.2.2.2.2.2.2.2.1
theorem dX1_pardonsWithLast_59 : decode cX1_pardonsWithLast 59 = .ok (.aload_n 0, 1) := gdX1_pardonsWithLast_33.2.2.2.2.2.2.2.2.1
theorem dX1_pardonsWithLast_60 : decode cX1_pardonsWithLast 60 = .ok (.getfield 31, 3) := gdX1_pardonsWithLast_33.2.2.2.2.2.2.2.2.2.1
theorem dX1_pardonsWithLast_63 : decode cX1_pardonsWithLast 63 = .ok (.iload 6, 2) := gdX1_pardonsWithLast_33.2.2.2.2.2.2.2.2.2.2.1
theorem dX1_pardonsWithLast_65 : decode cX1_pardonsWithLast 65 = .ok (.ifCond .eq 15, 3) := gdX1_pardonsWithLast_33.2.2.2.2.2.2.2.2.2.2.2
theorem gdX1_pardonsWithLast_68 : decode cX1_pardonsWithLast 68 = .ok (.aload_n 0, 1) ∧ decode cX1_pardonsWithLast 69 = .ok (.aload 5, 2) ∧ decode cX1_pardonsWithLast 71 = .ok (.iload 4, 2) ∧ decode cX1_pardonsWithLast 73 = .ok (.iload_n 2, 1) ∧ decode cX1_pardonsWithLast 74 = .ok (.invokevirtual 90, 3) := by decide +kernel
theorem dX1_pardonsWithLast_68 : decode cX1_pardonsWithLast 68 = .ok (.aload_n 0, 1) := gdX1_pardonsWithLast_68.1
theorem dX1_pardonsWithLast_69 : decode cX1_pardonsWithLast 69 = .ok (.aload 5, 2) := gdX1_pardonsWithLast_68.2.1
theorem dX1_pardonsWithLast_71 : decode cX1_pardonsWithLast 71 = .ok (.iload 4, 2) := gdX1_pardonsWithLast_68.2.2.1
theorem dX1_pardonsWithLast_73 : decode cX1_pardonsWithLast 73 = .ok (.iload_n 2, 1) := gdX1_pardonsWithLast_68.2.2.2.1
theorem dX1_pardonsWithLast_74 : decode cX1_pardonsWithLast 74 = .ok (.invokevirtual 90, 3) := gdX1_pardonsWithLast_68.2.2.2.2
theorem k_X1_90 : xV RX1 RX1 90 yX1_endState cX1_endState 4 (some .int) 3 := ⟨⟨m_1163, m_1165, m_40, m_143, m_1166⟩, rfl, by decide, by decide, by decide +kernel⟩
theorem dX1_pardonsWithLast_77 : decode cX1_pardonsWithLast 77 = .ok (.goto 9, 3) := by decide +kernel
theorem dX1_pardonsWithLast_86 : decode cX1_pardonsWithLast 86 = .ok (.invokevirtual 94, 3) := by decide +kernel
theorem k_X1_94 : xV RX1 RX4 94 yX4_isYesState cX4_isYesState 2 (some .boolean) 1 := ⟨⟨m_1174, m_1077, m_1078, m_137, m_1079⟩, rfl, by decide, by decide, by decide +kernel⟩
theorem gdX1_pardonsWithLast_89 : decode cX1_pardonsWithLast 89 = .ok (.ifCond .ne 5, 3) ∧ decode cX1_pardonsWithLast 94 = .ok (.iinc 3 1, 3) ∧ decode cX1_pardonsWithLast 97 = .ok (.goto (-95), 3) ∧ decode cX1_pardonsWithLast 92 = .ok (.iconst 0, 1) ∧ decode cX1_pardonsWithLast 93 = .ok (.ireturn, 1) ∧ decode cX1_pardonsWithLast 49 = .ok (.iload 4, 2) ∧ decode cX1_pardonsWithLast 51 = .ok (.ldc 73, 2) ∧ decode cX1_pardonsWithLast 53 = .ok (.iand, 1) ∧ decode cX1_pardonsWithLast 54 = .ok (.ifCond .ne 5, 3) ∧ decode cX1_pardonsWithLast 80 = .ok (.iload 4, 2) ∧ decode cX1_pardonsWithLast 82 = .ok (.iconst 0, 1) ∧ decode cX1_pardonsWithLast 83 = .ok (.invokestatic 87, 3) := by decide +kernel
theorem dX1_pardonsWithLast_89 : decode cX1_pardonsWithLast 89 = .ok (.ifCond .ne 5, 3) := gdX1_pardonsWithLast_89.1
theorem dX1_pardonsWithLast_94 : decode cX1_pardonsWithLast 94 = .ok (.iinc 3 1, 3) := gdX1_pardonsWithLast_89.2.1
theorem dX1_pardonsWithLast_97 : decode cX1_pardonsWithLast 97 = .ok (.goto (-95), 3) := gdX1_pardonsWithLast_89.2.2.1
theorem dX1_pardonsWithLast_92 : decode cX1_pardonsWithLast 92 = .ok (.iconst 0, 1) := gdX1_pardonsWithLast_89.2.2.2.1
theorem dX1_pardonsWithLast_93 : decode cX1_pardonsWithLast 93 = .ok (.ireturn, 1) := gdX1_pardonsWithLast_89.2.2.2.2.1
theorem dX1_pardonsWithLast_49 : decode cX1_pardonsWithLast 49 = .ok (.iload 4, 2) := gdX1_pardonsWithLast_89.2.2.2.2.2.1
theorem dX1_pardonsWithLast_51 : decode cX1_pardonsWithLast 51 = .ok (.ldc 73, 2) := gdX1_pardonsWithLast_89.2.2.2.2.2.2.1
theorem dX1_pardonsWithLast_53 : decode cX1_pardonsWithLast 53 = .ok (.iand, 1) := gdX1_pardonsWithLast_89.2.2.2.2.2.2.2.1
theorem dX1_pardonsWithLast_54 : decode cX1_pardonsWithLast 54 = .ok (.ifCond .ne 5, 3) := gdX1_pardonsWithLast_89.2.2.2.2.2.2.2.2.1
theorem dX1_pardonsWithLast_80 : decode cX1_pardonsWithLast 80 = .ok (.iload 4, 2) := gdX1_pardonsWithLast_89.2.2.2.2.2.2.2.2.2.1
theorem dX1_pardonsWithLast_82 : decode cX1_pardonsWithLast 82 = .ok (.iconst 0, 1) := gdX1_pardonsWithLast_89.2.2.2.2.2.2.2.2.2.2.1
theorem dX1_pardonsWithLast_83 : decode cX1_pardonsWithLast 83 = .ok (.invokestatic 87, 3) := gdX1_pardonsWithLast_89.2.2.2.2.2.2.2.2.2.2.2
theorem dX1_pardonsWithLast_57 : decode cX1_pardonsWithLast 57 = .ok (.iconst 0, 1) := by decide +kernel
theorem dX1_pardonsWithLast_58 : decode cX1_pardonsWithLast 58 = .ok (.ireturn, 1) := by decide +kernel
set_option maxHeartbeats 1000000 in
set_option maxRecDepth 100000 in
theorem s_pardonsWithLast (l : Launch) (D : va_G) (cy : Nat → ClassId) (q0 : Nat) (q1 : Nat) (q2 : Nat) (q3 : Nat) (q4 : Nat) (er : Nat) (ql : Nat) (qo : Int32) (fph : Nat → Int32) (h0 : Nat) (h1 : Nat) (h2 : Nat) (h3 : Nat) (h4 : Nat) (h5 : Nat) (h6 : Nat) (h7 : Nat) (h8 : Nat) (h9 : Nat) (h10 : Nat) (h11 : Nat) (hv1 : Value) (hv2 : Value) (hv3 : Value) (hv4 : Value) (ys : Int32) (fx : Nat → Int32) (fc : Nat → Int32) (c0 : Nat) (c1 : Nat) (c2 : Nat) (c3 : Nat) (ea : Nat → Nat) (eg : Nat → Nat) (ef : Nat → Nat) (et : Nat → Int32) (el : Nat → Nat) (ei : Nat → Nat) (gc : Nat → Nat → Int32) (xc : Nat → Nat → Int32) (dp : Nat) (wd : Nat) (hph : pRow fph) (hnx : rng fx 48 5) (hcn : cntOK fc c0 c1 c2 c3) (hc0 : c0 ≤ 8) (hc1 : c1 ≤ 4) (hc2 : c2 ≤ 4) (hc3 : c3 ≤ 6) (hdp : dp ≤ 4) (hwd : wd ≤ 7) : XMi l D (tyL cy) E0 yX1_pardonsWithLast cX1_pardonsWithLast 7 (some .boolean) (rmk 3 0 0) [.ref q0, .int (nI dp), .int (nI wd)] [wO q0 1 [.ref q1, .ref er, .ref q2, .ref q3, .ref q4, .ref h0, .int (nI ql), .int qo], wI (cy 1) q2 24 (fph), wO h0 4 [.ref h1, .ref h2, .ref h3, .ref h4, .ref h5, .ref h6, .ref h7, .ref h8, .ref h9, .ref h10, .ref h11, .int ys, hv1, hv2, hv3, hv4], wI (cy 1) h7 48 (fx), wI (cy 1) h1 4 (fc), (er, .inl (cy 4, 4, .inr (.inr (.inr (.inr (eF (ea 0) (ea 1) (ea 2) (ea 3))))))), wO (ea 0) 2 [.ref (eg 0), .ref (ef 0), .int (et 0), .int (nI (el 0)), .int (nI (ei 0))], wI (cy 1) (eg 0) 10 (gc 0), wI (cy 1) (ef 0) 7 (xc 0), wO (ea 1) 2 [.ref (eg 1), .ref (ef 1), .int (et 1), .int (nI (el 1)), .int (nI (ei 1))], wI (cy 1) (eg 1) 10 (gc 1), wI (cy 1) (ef 1) 7 (xc 1), wO (ea 2) 2 [.ref (eg 2), .ref (ef 2), .int (et 2), .int (nI (el 2)), .int (nI (ei 2))], wI (cy 1) (eg 2) 10 (gc 2), wI (cy 1) (ef 2) 7 (xc 2), wO (ea 3) 2 [.ref (eg 3), .ref (ef 3), .int (et 3), .int (nI (el 3)), .int (nI (ei 3))], wI (cy 1) (eg 3) 10 (gc 3), wI (cy 1) (ef 3) 7 (xc 3)] (fun (r : Int32) (_ : Unit) => (r = 0 ∨ r = 1)) (fun (_ : Unit) => [wO q0 1 [.ref q1, .ref er, .ref q2, .ref q3, .ref q4, .ref h0, .int (nI ql), .int qo], wI (cy 1) q2 24 (fph), wO h0 4 [.ref h1, .ref h2, .ref h3, .ref h4, .ref h5, .ref h6, .ref h7, .ref h8, .ref h9, .ref h10, .ref h11, .int ys, hv1, hv2, hv3, hv4], wI (cy 1) h7 48 (fx), wI (cy 1) h1 4 (fc), (er, .inl (cy 4, 4, .inr (.inr (.inr (.inr (eF (ea 0) (ea 1) (ea 2) (ea 3))))))), wO (ea 0) 2 [.ref (eg 0), .ref (ef 0), .int (et 0), .int (nI (el 0)), .int (nI (ei 0))], wI (cy 1) (eg 0) 10 (gc 0), wI (cy 1) (ef 0) 7 (xc 0), wO (ea 1) 2 [.ref (eg 1), .ref (ef 1), .int (et 1), .int (nI (el 1)), .int (nI (ei 1))], wI (cy 1) (eg 1) 10 (gc 1), wI (cy 1) (ef 1) 7 (xc 1), wO (ea 2) 2 [.ref (eg 2), .ref (ef 2), .int (et 2), .int (nI (el 2)), .int (nI (ei 2))], wI (cy 1) (eg 2) 10 (gc 2), wI (cy 1) (ef 2) 7 (xc 2), wO (ea 3) 2 [.ref (eg 3), .ref (ef 3), .int (et 3), .int (nI (el 3)), .int (nI (ei 3))], wI (cy 1) (eg 3) 10 (gc 3), wI (cy 1) (ef 3) 7 (xc 3)]) := by
  refine XMi.start (by decide) (Nat.le_of_ble_eq_true rfl) ?_
  intro p e s m below meth c args A ls Q hat hQ
  obtain ⟨hx, hb, hr, hml, hown, hg, hlocks, hin, hK, hA, hP, hD, hS, hE, hl⟩ := hat
  have hown : s.vm.findClass RX1 = some m.cls := hown
  have hl : lv_has ls 7 [(0, .ref q0), (1, .int (nI dp)), (2, .int (nI wd))] := hl
  refine lv_iconst (v := 0) hx hb dX1_pardonsWithLast_0 (by decide) ?_
  refine lv_istore_n (lv' := [(3, .int 0), (0, .ref q0), (1, .int (nI dp)), (2, .int (nI wd))]) hx hb dX1_pardonsWithLast_1 rfl hl (by decide) rfl (fun ls hl => ?_)
  have loop1 : ∀ (zn : Nat) (i1 : Nat), (i1 ≤ c1) → c1 - i1 + 1 ≤ zn → ∀ (H : Heap) (locs : List Loc), va_P D vwCl [wO q0 1 [.ref q1, .ref er, .ref q2, .ref q3, .ref q4, .ref h0, .int (nI ql), .int qo], wI (cy 1) q2 24 (fph), wO h0 4 [.ref h1, .ref h2, .ref h3, .ref h4, .ref h5, .ref h6, .ref h7, .ref h8, .ref h9, .ref h10, .ref h11, .int ys, hv1, hv2, hv3, hv4], wI (cy 1) h7 48 (fx), wI (cy 1) h1 4 (fc), (er, .inl (cy 4, 4, .inr (.inr (.inr (.inr (eF (ea 0) (ea 1) (ea 2) (ea 3))))))), wO (ea 0) 2 [.ref (eg 0), .ref (ef 0), .int (et 0), .int (nI (el 0)), .int (nI (ei 0))], wI (cy 1) (eg 0) 10 (gc 0), wI (cy 1) (ef 0) 7 (xc 0), wO (ea 1) 2 [.ref (eg 1), .ref (ef 1), .int (et 1), .int (nI (el 1)), .int (nI (ei 1))], wI (cy 1) (eg 1) 10 (gc 1), wI (cy 1) (ef 1) 7 (xc 1), wO (ea 2) 2 [.ref (eg 2), .ref (ef 2), .int (et 2), .int (nI (el 2)), .int (nI (ei 2))], wI (cy 1) (eg 2) 10 (gc 2), wI (cy 1) (ef 2) 7 (xc 2), wO (ea 3) 2 [.ref (eg 3), .ref (ef 3), .int (et 3), .int (nI (el 3)), .int (nI (ei 3))], wI (cy 1) (eg 3) 10 (gc 3), wI (cy 1) (ef 3) 7 (xc 3)] H → va_D A [wO q0 1 [.ref q1, .ref er, .ref q2, .ref q3, .ref q4, .ref h0, .int (nI ql), .int qo], wI (cy 1) q2 24 (fph), wO h0 4 [.ref h1, .ref h2, .ref h3, .ref h4, .ref h5, .ref h6, .ref h7, .ref h8, .ref h9, .ref h10, .ref h11, .int ys, hv1, hv2, hv3, hv4], wI (cy 1) h7 48 (fx), wI (cy 1) h1 4 (fc), (er, .inl (cy 4, 4, .inr (.inr (.inr (.inr (eF (ea 0) (ea 1) (ea 2) (ea 3))))))), wO (ea 0) 2 [.ref (eg 0), .ref (ef 0), .int (et 0), .int (nI (el 0)), .int (nI (ei 0))], wI (cy 1) (eg 0) 10 (gc 0), wI (cy 1) (ef 0) 7 (xc 0), wO (ea 1) 2 [.ref (eg 1), .ref (ef 1), .int (et 1), .int (nI (el 1)), .int (nI (ei 1))], wI (cy 1) (eg 1) 10 (gc 1), wI (cy 1) (ef 1) 7 (xc 1), wO (ea 2) 2 [.ref (eg 2), .ref (ef 2), .int (et 2), .int (nI (el 2)), .int (nI (ei 2))], wI (cy 1) (eg 2) 10 (gc 2), wI (cy 1) (ef 2) 7 (xc 2), wO (ea 3) 2 [.ref (eg 3), .ref (ef 3), .int (et 3), .int (nI (el 3)), .int (nI (ei 3))], wI (cy 1) (eg 3) 10 (gc 3), wI (cy 1) (ef 3) 7 (xc 3)] → va_S A s.heap H locs → ∀ ls : Array Slot, lv_has ls 7 [(3, .int (nI i1)), (0, .ref q0), (1, .int (nI dp)), (2, .int (nI wd))] → W p l e (rmk 3 0 0) s m args below meth c H locs 0 0 Q (F0 m 2 ls []) := by
    try clear hP hD hS
    intro zn
    induction zn with
    | zero => intro i1 _ hz; exact absurd hz (by omega)
    | succ zn ih1 =>
      intro i1 hf0_1 hmu1 H locs hP hD hS ls hl
      refine lv_iload_n hx hb dX1_pardonsWithLast_2 rfl (lv_at hl 0 rfl) ?_
      refine lv_aload_n hx hb dX1_pardonsWithLast_3 rfl (lv_at hl 1 rfl) ?_
      refine va_get (D := D) (ci := 1) (v := .ref h0) (C := RX1) (T := TX1) (N := 8) hx hb hg i_X1 hown hK hP 0 rfl rfl 5 (by decide) (hg _ m_558) (fun _ h9 => h9) rfl dX1_pardonsWithLast_4 ?_
      refine va_get (D := D) (ci := 4) (v := .ref h1) (C := RX4) (T := TX4) (N := 16) hx hb hg i_X4 hown hK hP 2 rfl rfl 0 (by decide) (hg _ m_331) (fun _ h9 => h9) rfl dX1_pardonsWithLast_7 ?_
      refine lv_iconst (v := 1) hx hb dX1_pardonsWithLast_10 (by decide) ?_
      refine va_iald hx hb hK hP 4 1 rfl rfl (by unfold vp_in; decide) dX1_pardonsWithLast_11 ?_
      refine lv_topi (fun y_2 hy_2 => ?_)
      obtain rfl : y_2 = nI c1 := hy_2.trans hcn.2.1
      refine lv_icmp_ge (tgt := 100) hx hb dX1_pardonsWithLast_12 (by decide) (fun c_3 => ?_) (fun c_3 => ?_)
      · have q_4 : c1 ≤ i1 := q_le (a := c1) (b := i1) rfl rfl (by omega) (by omega) c_3
        refine lv_iconst (v := 1) hx hb dX1_pardonsWithLast_100 (by decide) ?_
        exact x_zret hQ hx hb hr hlocks hK hP hD hS rfl dX1_pardonsWithLast_101 () ((Or.inr rfl)) [0, 1, 2, 3, 4, 5, 6, 7, 8, 9, 10, 11, 12, 13, 14, 15, 16, 17] (by decide +kernel) rfl (Nat.le_of_ble_eq_true rfl) (Nat.le_of_ble_eq_true rfl)
      · have q_4 : i1 < c1 := q_nle (a := c1) (b := i1) rfl rfl (by omega) (by omega) c_3
        refine lv_aload_n hx hb dX1_pardonsWithLast_15 rfl (lv_at hl 1 rfl) ?_
        refine va_get (D := D) (ci := 1) (v := .ref q2) (C := RX1) (T := TX1) (N := 8) hx hb hg i_X1 hown hK hP 0 rfl rfl 2 (by decide) (hg _ m_555) (fun _ h9 => h9) rfl dX1_pardonsWithLast_16 ?_
        refine lv_iload_n hx hb dX1_pardonsWithLast_19 rfl (lv_at hl 2 rfl) ?_
        refine lv_iconst (v := 4) hx hb dX1_pardonsWithLast_20 (by decide) ?_
        refine lv_imul hx hb dX1_pardonsWithLast_21 ?_
        refine lv_topi (fun y_5 hy_5 => ?_)
        obtain rfl : y_5 = nI (dp * 4) := hy_5.trans (pk_mul dp 4)
        refine lv_iload_n hx hb dX1_pardonsWithLast_22 rfl (lv_at hl 0 rfl) ?_
        refine lv_iadd hx hb dX1_pardonsWithLast_23 ?_
        refine lv_topi (fun y_6 hy_6 => ?_)
        obtain rfl : y_6 = nI ((dp * 4) + i1) := hy_6.trans (nI_add ((dp * 4)) i1)
        refine va_iald hx hb hK hP 1 1 rfl rfl (vp_in_nI (by omega) (by decide)) dX1_pardonsWithLast_24 ?_
        obtain ⟨v_7, hv_7, ev_7⟩ := pRow_at hph (i := ((dp * 4) + i1)) (by omega)
        have hbv_7 := hv_7.1
        refine lv_topi (fun y_8 hy_8 => ?_)
        obtain rfl : y_8 = nI v_7 := hy_8.trans ev_7
        refine lv_istore (lv' := [(4, .int (nI v_7)), (3, .int (nI i1)), (0, .ref q0), (1, .int (nI dp)), (2, .int (nI wd))]) hx hb dX1_pardonsWithLast_25 hl (by decide) rfl (fun ls hl => ?_)
        refine lv_aload_n hx hb dX1_pardonsWithLast_27 rfl (lv_at hl 2 rfl) ?_
        refine va_get (D := D) (ci := 1) (v := .ref er) (C := RX1) (T := TX1) (N := 8) hx hb hg i_X1 hown hK hP 0 rfl rfl 1 (by decide) (hg _ m_554) (fun _ h9 => h9) rfl dX1_pardonsWithLast_28 ?_
        refine lv_iload_n hx hb dX1_pardonsWithLast_31 rfl (lv_at hl 1 rfl) ?_
        rcases (show i1 = 0 ∨ i1 = 1 ∨ i1 = 2 ∨ i1 = 3 by omega) with hsp | hsp | hsp | hsp
        · subst hsp
          refine va_aldq hx hb hK hP 5 4 rfl rfl (by unfold vp_in; decide) dX1_pardonsWithLast_32 ?_
          refine W.eq (g2 := F0 m 33 ls [.ref (ea 0)]) rfl ?_
          refine lv_astore (lv' := [(5, .ref (ea 0)), (4, .int (nI v_7)), (3, .int 0), (0, .ref q0), (1, .int (nI dp)), (2, .int (nI wd))]) hx hb dX1_pardonsWithLast_33 hl (by decide) rfl (fun ls hl => ?_)
          refine lv_aload hx hb dX1_pardonsWithLast_35 (lv_at hl 0 rfl) ?_
          refine lv_iload_n hx hb dX1_pardonsWithLast_37 rfl (lv_at hl 4 rfl) ?_
          refine lv_iload_n hx hb dX1_pardonsWithLast_38 rfl (lv_at hl 5 rfl) ?_
          refine x_callVi (q := (RX2, TX2, 5)) (ci := 2) (q0 := 0) (wr := [wO q0 1 [.ref q1, .ref er, .ref q2, .ref q3, .ref q4, .ref h0, .int (nI ql), .int qo], wI (cy 1) q2 24 (fph), wO h0 4 [.ref h1, .ref h2, .ref h3, .ref h4, .ref h5, .ref h6, .ref h7, .ref h8, .ref h9, .ref h10, .ref h11, .int ys, hv1, hv2, hv3, hv4], wI (cy 1) h7 48 (fx), wI (cy 1) h1 4 (fc), (er, .inl (cy 4, 4, .inr (.inr (.inr (.inr (eF (ea 0) (ea 1) (ea 2) (ea 3))))))), wI (cy 1) (ef 0) 7 (xc 0), wO (ea 1) 2 [.ref (eg 1), .ref (ef 1), .int (et 1), .int (nI (el 1)), .int (nI (ei 1))], wI (cy 1) (eg 1) 10 (gc 1), wI (cy 1) (ef 1) 7 (xc 1), wO (ea 2) 2 [.ref (eg 2), .ref (ef 2), .int (et 2), .int (nI (el 2)), .int (nI (ei 2))], wI (cy 1) (eg 2) 10 (gc 2), wI (cy 1) (ef 2) 7 (xc 2), wO (ea 3) 2 [.ref (eg 3), .ref (ef 3), .int (et 3), .int (nI (el 3)), .int (nI (ei 3))], wI (cy 1) (eg 3) 10 (gc 3), wI (cy 1) (ef 3) 7 (xc 3)]) (rest := []) ⟨hx, hb, hml, hown, hg, hl.1⟩ k_X1_70 (s_comesBack l D cy (ea 0) (eg 0) (ef 0) (et 0) ((el 0)) ((ei 0)) (gc 0) dp (nI wd) (by omega)) E0_blind hK hP hD hS hA [6, 7] [0, 1, 2, 3, 4, 5, 8, 9, 10, 11, 12, 13, 14, 15, 16, 17] ⟨rfl, rfl, by decide +kernel, by decide +kernel, by decide +kernel⟩ rfl rfl (fun _ _ _ => trivial) dX1_pardonsWithLast_39 rfl rfl (Nat.le_of_ble_eq_true rfl) ⟨Nat.le_of_ble_eq_true rfl, Nat.le_of_ble_eq_true rfl⟩ ⟨Nat.le_of_ble_eq_true rfl, Nat.le_of_ble_eq_true rfl⟩ (fun zr9 zu9 H locs hw9 hP9 hD9 hS9 => ?_)
          clear hP hD hS
          refine reW [wO q0 1 [.ref q1, .ref er, .ref q2, .ref q3, .ref q4, .ref h0, .int (nI ql), .int qo], wI (cy 1) q2 24 (fph), wO h0 4 [.ref h1, .ref h2, .ref h3, .ref h4, .ref h5, .ref h6, .ref h7, .ref h8, .ref h9, .ref h10, .ref h11, .int ys, hv1, hv2, hv3, hv4], wI (cy 1) h7 48 (fx), wI (cy 1) h1 4 (fc), (er, .inl (cy 4, 4, .inr (.inr (.inr (.inr (eF (ea 0) (ea 1) (ea 2) (ea 3))))))), wI (cy 1) (ef 0) 7 (xc 0), wO (ea 1) 2 [.ref (eg 1), .ref (ef 1), .int (et 1), .int (nI (el 1)), .int (nI (ei 1))], wI (cy 1) (eg 1) 10 (gc 1), wI (cy 1) (ef 1) 7 (xc 1), wO (ea 2) 2 [.ref (eg 2), .ref (ef 2), .int (et 2), .int (nI (el 2)), .int (nI (ei 2))], wI (cy 1) (eg 2) 10 (gc 2), wI (cy 1) (ef 2) 7 (xc 2), wO (ea 3) 2 [.ref (eg 3), .ref (ef 3), .int (et 3), .int (nI (el 3)), .int (nI (ei 3))], wI (cy 1) (eg 3) 10 (gc 3), wI (cy 1) (ef 3) 7 (xc 3), wO (ea 0) 2 [.ref (eg 0), .ref (ef 0), .int (et 0), .int (nI ((el 0))), .int (nI ((ei 0)))], wI (cy 1) (eg 0) 10 (gc 0)] hP9 hD9 hS9 (fun hP hD hS => ?_)
          clear hP9 hD9 hS9
          refine W.widen (k := 0) (n := 0) (Nat.le_of_ble_eq_true rfl) (Nat.le_of_ble_eq_true rfl) ?_
          replace hw9 : (zr9 = 0 ∨ zr9 = 1) := hw9
          have f_10 := hw9
          refine lv_istore (lv' := [(6, .int zr9), (5, .ref (ea 0)), (4, .int (nI v_7)), (3, .int 0), (0, .ref q0), (1, .int (nI dp)), (2, .int (nI wd))]) hx hb dX1_pardonsWithLast_42 hl (by decide) rfl (fun ls hl => ?_)
          refine lv_iload hx hb dX1_pardonsWithLast_44 (lv_at hl 0 rfl) ?_
          refine lv_if_ne (tgt := 59) hx hb dX1_pardonsWithLast_46 (by decide) (fun c_46 => ?_) (fun c_46 => ?_)
          · refine lv_aload_n hx hb dX1_pardonsWithLast_59 rfl (lv_at hl 4 rfl) ?_
            refine va_get (D := D) (ci := 1) (v := .ref h0) (C := RX1) (T := TX1) (N := 8) hx hb hg i_X1 hown hK hP 0 rfl rfl 5 (by decide) (hg _ m_558) (fun _ h9 => h9) rfl dX1_pardonsWithLast_60 ?_
            refine lv_iload hx hb dX1_pardonsWithLast_63 (lv_at hl 0 rfl) ?_
            refine lv_if_eq (tgt := 80) hx hb dX1_pardonsWithLast_65 (by decide) (fun h => absurd h c_46) (fun _ => ?_)
            refine lv_aload_n hx hb dX1_pardonsWithLast_68 rfl (lv_at hl 4 rfl) ?_
            refine lv_aload hx hb dX1_pardonsWithLast_69 (lv_at hl 1 rfl) ?_
            refine lv_iload hx hb dX1_pardonsWithLast_71 (lv_at hl 2 rfl) ?_
            refine lv_iload_n hx hb dX1_pardonsWithLast_73 rfl (lv_at hl 6 rfl) ?_
            refine x_callVi (q := (RX1, TX1, 8)) (ci := 1) (q0 := 0) (wr := [wI (cy 1) q2 24 (fph), wI (cy 1) h1 4 (fc), (er, .inl (cy 4, 4, .inr (.inr (.inr (.inr (eF (ea 0) (ea 1) (ea 2) (ea 3))))))), wI (cy 1) (ef 0) 7 (xc 0), wO (ea 1) 2 [.ref (eg 1), .ref (ef 1), .int (et 1), .int (nI (el 1)), .int (nI (ei 1))], wI (cy 1) (eg 1) 10 (gc 1), wI (cy 1) (ef 1) 7 (xc 1), wO (ea 2) 2 [.ref (eg 2), .ref (ef 2), .int (et 2), .int (nI (el 2)), .int (nI (ei 2))], wI (cy 1) (eg 2) 10 (gc 2), wI (cy 1) (ef 2) 7 (xc 2), wO (ea 3) 2 [.ref (eg 3), .ref (ef 3), .int (et 3), .int (nI (el 3)), .int (nI (ei 3))], wI (cy 1) (eg 3) 10 (gc 3), wI (cy 1) (ef 3) 7 (xc 3), wI (cy 1) (eg 0) 10 (gc 0)]) (rest := [.ref h0]) ⟨hx, hb, hml, hown, hg, hl.1⟩ k_X1_90 (s_endState l D cy q0 q1 q2 q3 q4 er ql qo h0 h1 h2 h3 h4 h5 h6 h7 h8 h9 h10 h11 ((.int ys)) hv1 hv2 hv3 hv4 fx (ea 0) (eg 0) (ef 0) (et 0) (((el 0))) (((ei 0))) v_7 wd (hnx) (hv_7) (by omega)) E0_blind hK hP hD hS hA [0, 2, 3, 16] [1, 4, 5, 6, 7, 8, 9, 10, 11, 12, 13, 14, 15, 17] ⟨rfl, rfl, by decide +kernel, by decide +kernel, by decide +kernel⟩ rfl rfl (fun _ _ _ => trivial) dX1_pardonsWithLast_74 rfl rfl (Nat.le_of_ble_eq_true rfl) ⟨Nat.le_of_ble_eq_true rfl, Nat.le_of_ble_eq_true rfl⟩ ⟨Nat.le_of_ble_eq_true rfl, Nat.le_of_ble_eq_true rfl⟩ (fun zr11 zu11 H locs hw11 hP9 hD9 hS9 => ?_)
            clear hP hD hS
            obtain ⟨k_12, rfl⟩ : ∃ z, z = zu11 := ⟨_, rfl⟩
            refine reW [wI (cy 1) q2 24 (fph), wI (cy 1) h1 4 (fc), (er, .inl (cy 4, 4, .inr (.inr (.inr (.inr (eF (ea 0) (ea 1) (ea 2) (ea 3))))))), wI (cy 1) (ef 0) 7 (xc 0), wO (ea 1) 2 [.ref (eg 1), .ref (ef 1), .int (et 1), .int (nI (el 1)), .int (nI (ei 1))], wI (cy 1) (eg 1) 10 (gc 1), wI (cy 1) (ef 1) 7 (xc 1), wO (ea 2) 2 [.ref (eg 2), .ref (ef 2), .int (et 2), .int (nI (el 2)), .int (nI (ei 2))], wI (cy 1) (eg 2) 10 (gc 2), wI (cy 1) (ef 2) 7 (xc 2), wO (ea 3) 2 [.ref (eg 3), .ref (ef 3), .int (et 3), .int (nI (el 3)), .int (nI (ei 3))], wI (cy 1) (eg 3) 10 (gc 3), wI (cy 1) (ef 3) 7 (xc 3), wI (cy 1) (eg 0) 10 (gc 0), wO q0 1 [.ref q1, .ref er, .ref q2, .ref q3, .ref q4, .ref h0, .int (nI ql), .int qo], wO h0 4 [.ref h1, .ref h2, .ref h3, .ref h4, .ref h5, .ref h6, .ref h7, .ref h8, .ref h9, .ref h10, .ref h11, .int ys, hv1, hv2, hv3, hv4], wI (cy 1) h7 48 (fx), wO (ea 0) 2 [.ref (eg 0), .ref (ef 0), .int (et 0), .int (nI (((el 0)))), .int (nI (((ei 0))))]] hP9 hD9 hS9 (fun hP hD hS => ?_)
            clear hP9 hD9 hS9
            refine W.widen (k := 0) (n := 0) (Nat.le_of_ble_eq_true rfl) (Nat.le_of_ble_eq_true rfl) ?_
            replace hw11 : (zr11 = nI k_12) ∧ (k_12 ≤ 5) := hw11
            obtain ⟨f_13, f_14⟩ := hw11
            subst f_13
            refine lv_goto (tgt := 86) hx hb dX1_pardonsWithLast_77 (by decide) ?_
            refine x_callVi (q := (RX4, TX4, 16)) (ci := 4) (q0 := 0) (wr := [wI (cy 1) q2 24 (fph), wI (cy 1) h1 4 (fc), (er, .inl (cy 4, 4, .inr (.inr (.inr (.inr (eF (ea 0) (ea 1) (ea 2) (ea 3))))))), wI (cy 1) (ef 0) 7 (xc 0), wO (ea 1) 2 [.ref (eg 1), .ref (ef 1), .int (et 1), .int (nI (el 1)), .int (nI (ei 1))], wI (cy 1) (eg 1) 10 (gc 1), wI (cy 1) (ef 1) 7 (xc 1), wO (ea 2) 2 [.ref (eg 2), .ref (ef 2), .int (et 2), .int (nI (el 2)), .int (nI (ei 2))], wI (cy 1) (eg 2) 10 (gc 2), wI (cy 1) (ef 2) 7 (xc 2), wO (ea 3) 2 [.ref (eg 3), .ref (ef 3), .int (et 3), .int (nI (el 3)), .int (nI (ei 3))], wI (cy 1) (eg 3) 10 (gc 3), wI (cy 1) (ef 3) 7 (xc 3), wI (cy 1) (eg 0) 10 (gc 0), wO q0 1 [.ref q1, .ref er, .ref q2, .ref q3, .ref q4, .ref h0, .int (nI ql), .int qo], wI (cy 1) h7 48 (fx), wO (ea 0) 2 [.ref (eg 0), .ref (ef 0), .int (et 0), .int (nI (((el 0)))), .int (nI (((ei 0))))]]) (rest := []) ⟨hx, hb, hml, hown, hg, hl.1⟩ k_X1_94 (s_isYesState l D cy h0 h1 h2 h3 h4 h5 h6 h7 h8 h9 h10 h11 hv1 hv2 hv3 hv4 ys (nI k_12)) E0_blind hK hP hD hS hA [15] [0, 1, 2, 3, 4, 5, 6, 7, 8, 9, 10, 11, 12, 13, 14, 16, 17] ⟨rfl, rfl, by decide +kernel, by decide +kernel, by decide +kernel⟩ rfl rfl (fun _ _ _ => trivial) dX1_pardonsWithLast_86 rfl rfl (Nat.le_of_ble_eq_true rfl) ⟨Nat.le_of_ble_eq_true rfl, Nat.le_of_ble_eq_true rfl⟩ ⟨Nat.le_of_ble_eq_true rfl, Nat.le_of_ble_eq_true rfl⟩ (fun zr15 zu15 H locs hw15 hP9 hD9 hS9 => ?_)
            clear hP hD hS
            refine reW [wI (cy 1) q2 24 (fph), wI (cy 1) h1 4 (fc), (er, .inl (cy 4, 4, .inr (.inr (.inr (.inr (eF (ea 0) (ea 1) (ea 2) (ea 3))))))), wI (cy 1) (ef 0) 7 (xc 0), wO (ea 1) 2 [.ref (eg 1), .ref (ef 1), .int (et 1), .int (nI (el 1)), .int (nI (ei 1))], wI (cy 1) (eg 1) 10 (gc 1), wI (cy 1) (ef 1) 7 (xc 1), wO (ea 2) 2 [.ref (eg 2), .ref (ef 2), .int (et 2), .int (nI (el 2)), .int (nI (ei 2))], wI (cy 1) (eg 2) 10 (gc 2), wI (cy 1) (ef 2) 7 (xc 2), wO (ea 3) 2 [.ref (eg 3), .ref (ef 3), .int (et 3), .int (nI (el 3)), .int (nI (ei 3))], wI (cy 1) (eg 3) 10 (gc 3), wI (cy 1) (ef 3) 7 (xc 3), wI (cy 1) (eg 0) 10 (gc 0), wO q0 1 [.ref q1, .ref er, .ref q2, .ref q3, .ref q4, .ref h0, .int (nI ql), .int qo], wI (cy 1) h7 48 (fx), wO (ea 0) 2 [.ref (eg 0), .ref (ef 0), .int (et 0), .int (nI (((el 0)))), .int (nI (((ei 0))))], wO h0 4 [.ref h1, .ref h2, .ref h3, .ref h4, .ref h5, .ref h6, .ref h7, .ref h8, .ref h9, .ref h10, .ref h11, .int ys, hv1, hv2, hv3, hv4]] hP9 hD9 hS9 (fun hP hD hS => ?_)
            clear hP9 hD9 hS9
            refine W.widen (k := 0) (n := 0) (Nat.le_of_ble_eq_true rfl) (Nat.le_of_ble_eq_true rfl) ?_
            replace hw15 : (zr15 = 0 ∨ zr15 = 1) := hw15
            have f_16 := hw15
            refine lv_if_ne (tgt := 94) hx hb dX1_pardonsWithLast_89 (by decide) (fun c_89 => ?_) (fun c_89 => ?_)
            · refine lv_iinc (v := 1) (lv' := [(3, .int 1), (6, .int zr9), (5, .ref (ea 0)), (4, .int (nI v_7)), (0, .ref q0), (1, .int (nI dp)), (2, .int (nI wd))]) hx hb dX1_pardonsWithLast_94 hl (k := 3) rfl (by decide) (by decide) rfl (fun ls hl => ?_)
              refine lv_goto (tgt := 2) hx hb dX1_pardonsWithLast_97 (by decide) ?_
              exact ih1  1 (by omega) (by omega) _ _ (hP.sub [14, 0, 17, 15, 1, 2, 16, 13, 3, 4, 5, 6, 7, 8, 9, 10, 11, 12] rfl) (hD.sub [14, 0, 17, 15, 1, 2, 16, 13, 3, 4, 5, 6, 7, 8, 9, 10, 11, 12] (by decide +kernel) rfl) hS ls (lv_sub hl [0, 4, 5, 6] rfl)
            · refine lv_iconst (v := 0) hx hb dX1_pardonsWithLast_92 (by decide) ?_
              exact x_zret hQ hx hb hr hlocks hK hP hD hS rfl dX1_pardonsWithLast_93 () ((Or.inl rfl)) [14, 0, 17, 15, 1, 2, 16, 13, 3, 4, 5, 6, 7, 8, 9, 10, 11, 12] (by decide +kernel) rfl (Nat.le_of_ble_eq_true rfl) (Nat.le_of_ble_eq_true rfl)
          · refine lv_iload hx hb dX1_pardonsWithLast_49 (lv_at hl 2 rfl) ?_
            refine lv_ldc (v := 262144) hx hb hown (hg _ m_1162) dX1_pardonsWithLast_51 ?_
            refine lv_iand hx hb dX1_pardonsWithLast_53 ?_
            refine lv_topi (fun x_17 ex_17 => ?_)
            refine lv_if_ne (tgt := 59) hx hb dX1_pardonsWithLast_54 (by decide) (fun c_54 => ?_) (fun c_54 => ?_)
            · refine lv_aload_n hx hb dX1_pardonsWithLast_59 rfl (lv_at hl 4 rfl) ?_
              refine va_get (D := D) (ci := 1) (v := .ref h0) (C := RX1) (T := TX1) (N := 8) hx hb hg i_X1 hown hK hP 0 rfl rfl 5 (by decide) (hg _ m_558) (fun _ h9 => h9) rfl dX1_pardonsWithLast_60 ?_
              refine lv_iload hx hb dX1_pardonsWithLast_63 (lv_at hl 0 rfl) ?_
              refine lv_if_eq (tgt := 80) hx hb dX1_pardonsWithLast_65 (by decide) (fun _ => ?_) (fun h => absurd c_46 h)
              refine lv_iload hx hb dX1_pardonsWithLast_80 (lv_at hl 2 rfl) ?_
              refine lv_iconst (v := 0) hx hb dX1_pardonsWithLast_82 (by decide) ?_
              refine x_callSi (wr := [wO q0 1 [.ref q1, .ref er, .ref q2, .ref q3, .ref q4, .ref h0, .int (nI ql), .int qo], wI (cy 1) q2 24 (fph), wO h0 4 [.ref h1, .ref h2, .ref h3, .ref h4, .ref h5, .ref h6, .ref h7, .ref h8, .ref h9, .ref h10, .ref h11, .int ys, hv1, hv2, hv3, hv4], wI (cy 1) h7 48 (fx), wI (cy 1) h1 4 (fc), (er, .inl (cy 4, 4, .inr (.inr (.inr (.inr (eF (ea 0) (ea 1) (ea 2) (ea 3))))))), wI (cy 1) (ef 0) 7 (xc 0), wO (ea 1) 2 [.ref (eg 1), .ref (ef 1), .int (et 1), .int (nI (el 1)), .int (nI (ei 1))], wI (cy 1) (eg 1) 10 (gc 1), wI (cy 1) (ef 1) 7 (xc 1), wO (ea 2) 2 [.ref (eg 2), .ref (ef 2), .int (et 2), .int (nI (el 2)), .int (nI (ei 2))], wI (cy 1) (eg 2) 10 (gc 2), wI (cy 1) (ef 2) 7 (xc 2), wO (ea 3) 2 [.ref (eg 3), .ref (ef 3), .int (et 3), .int (nI (el 3)), .int (nI (ei 3))], wI (cy 1) (eg 3) 10 (gc 3), wI (cy 1) (ef 3) 7 (xc 3), wO (ea 0) 2 [.ref (eg 0), .ref (ef 0), .int (et 0), .int (nI ((el 0))), .int (nI ((ei 0)))], wI (cy 1) (eg 0) 10 (gc 0)]) (rest := [.ref h0]) ⟨hx, hb, hml, hown, hg, hl.1⟩ k_X1_87 (s_stateOf l D cy v_7 0 (hv_7) (by omega)) E0_blind hK hP hD hS hA [] [0, 1, 2, 3, 4, 5, 6, 7, 8, 9, 10, 11, 12, 13, 14, 15, 16, 17] ⟨rfl, rfl, by decide +kernel, by decide +kernel, by decide +kernel⟩ (fun _ _ _ => trivial) dX1_pardonsWithLast_83 rfl rfl (Nat.le_of_ble_eq_true rfl) ⟨Nat.le_of_ble_eq_true rfl, Nat.le_of_ble_eq_true rfl⟩ ⟨Nat.le_of_ble_eq_true rfl, Nat.le_of_ble_eq_true rfl⟩ (fun zr18 zu18 H locs hw18 hP9 hD9 hS9 => ?_)
              clear hP hD hS
              obtain ⟨k_19, rfl⟩ : ∃ z, z = zu18 := ⟨_, rfl⟩
              refine reW [wO q0 1 [.ref q1, .ref er, .ref q2, .ref q3, .ref q4, .ref h0, .int (nI ql), .int qo], wI (cy 1) q2 24 (fph), wO h0 4 [.ref h1, .ref h2, .ref h3, .ref h4, .ref h5, .ref h6, .ref h7, .ref h8, .ref h9, .ref h10, .ref h11, .int ys, hv1, hv2, hv3, hv4], wI (cy 1) h7 48 (fx), wI (cy 1) h1 4 (fc), (er, .inl (cy 4, 4, .inr (.inr (.inr (.inr (eF (ea 0) (ea 1) (ea 2) (ea 3))))))), wI (cy 1) (ef 0) 7 (xc 0), wO (ea 1) 2 [.ref (eg 1), .ref (ef 1), .int (et 1), .int (nI (el 1)), .int (nI (ei 1))], wI (cy 1) (eg 1) 10 (gc 1), wI (cy 1) (ef 1) 7 (xc 1), wO (ea 2) 2 [.ref (eg 2), .ref (ef 2), .int (et 2), .int (nI (el 2)), .int (nI (ei 2))], wI (cy 1) (eg 2) 10 (gc 2), wI (cy 1) (ef 2) 7 (xc 2), wO (ea 3) 2 [.ref (eg 3), .ref (ef 3), .int (et 3), .int (nI (el 3)), .int (nI (ei 3))], wI (cy 1) (eg 3) 10 (gc 3), wI (cy 1) (ef 3) 7 (xc 3), wO (ea 0) 2 [.ref (eg 0), .ref (ef 0), .int (et 0), .int (nI ((el 0))), .int (nI ((ei 0)))], wI (cy 1) (eg 0) 10 (gc 0)] hP9 hD9 hS9 (fun hP hD hS => ?_)
              clear hP9 hD9 hS9
              refine W.widen (k := 0) (n := 0) (Nat.le_of_ble_eq_true rfl) (Nat.le_of_ble_eq_true rfl) ?_
              replace hw18 : (zr18 = nI k_19) ∧ (k_19 ≤ 5) := hw18
              obtain ⟨f_20, f_21⟩ := hw18
              subst f_20
              refine x_callVi (q := (RX4, TX4, 16)) (ci := 4) (q0 := 0) (wr := [wO q0 1 [.ref q1, .ref er, .ref q2, .ref q3, .ref q4, .ref h0, .int (nI ql), .int qo], wI (cy 1) q2 24 (fph), wI (cy 1) h7 48 (fx), wI (cy 1) h1 4 (fc), (er, .inl (cy 4, 4, .inr (.inr (.inr (.inr (eF (ea 0) (ea 1) (ea 2) (ea 3))))))), wI (cy 1) (ef 0) 7 (xc 0), wO (ea 1) 2 [.ref (eg 1), .ref (ef 1), .int (et 1), .int (nI (el 1)), .int (nI (ei 1))], wI (cy 1) (eg 1) 10 (gc 1), wI (cy 1) (ef 1) 7 (xc 1), wO (ea 2) 2 [.ref (eg 2), .ref (ef 2), .int (et 2), .int (nI (el 2)), .int (nI (ei 2))], wI (cy 1) (eg 2) 10 (gc 2), wI (cy 1) (ef 2) 7 (xc 2), wO (ea 3) 2 [.ref (eg 3), .ref (ef 3), .int (et 3), .int (nI (el 3)), .int (nI (ei 3))], wI (cy 1) (eg 3) 10 (gc 3), wI (cy 1) (ef 3) 7 (xc 3), wO (ea 0) 2 [.ref (eg 0), .ref (ef 0), .int (et 0), .int (nI ((el 0))), .int (nI ((ei 0)))], wI (cy 1) (eg 0) 10 (gc 0)]) (rest := []) ⟨hx, hb, hml, hown, hg, hl.1⟩ k_X1_94 (s_isYesState l D cy h0 h1 h2 h3 h4 h5 h6 h7 h8 h9 h10 h11 hv1 hv2 hv3 hv4 ys (nI k_19)) E0_blind hK hP hD hS hA [2] [0, 1, 3, 4, 5, 6, 7, 8, 9, 10, 11, 12, 13, 14, 15, 16, 17] ⟨rfl, rfl, by decide +kernel, by decide +kernel, by decide +kernel⟩ rfl rfl (fun _ _ _ => trivial) dX1_pardonsWithLast_86 rfl rfl (Nat.le_of_ble_eq_true rfl) ⟨Nat.le_of_ble_eq_true rfl, Nat.le_of_ble_eq_true rfl⟩ ⟨Nat.le_of_ble_eq_true rfl, Nat.le_of_ble_eq_true rfl⟩ (fun zr22 zu22 H locs hw22 hP9 hD9 hS9 => ?_)
              clear hP hD hS
              refine reW [wO q0 1 [.ref q1, .ref er, .ref q2, .ref q3, .ref q4, .ref h0, .int (nI ql), .int qo], wI (cy 1) q2 24 (fph), wI (cy 1) h7 48 (fx), wI (cy 1) h1 4 (fc), (er, .inl (cy 4, 4, .inr (.inr (.inr (.inr (eF (ea 0) (ea 1) (ea 2) (ea 3))))))), wI (cy 1) (ef 0) 7 (xc 0), wO (ea 1) 2 [.ref (eg 1), .ref (ef 1), .int (et 1), .int (nI (el 1)), .int (nI (ei 1))], wI (cy 1) (eg 1) 10 (gc 1), wI (cy 1) (ef 1) 7 (xc 1), wO (ea 2) 2 [.ref (eg 2), .ref (ef 2), .int (et 2), .int (nI (el 2)), .int (nI (ei 2))], wI (cy 1) (eg 2) 10 (gc 2), wI (cy 1) (ef 2) 7 (xc 2), wO (ea 3) 2 [.ref (eg 3), .ref (ef 3), .int (et 3), .int (nI (el 3)), .int (nI (ei 3))], wI (cy 1) (eg 3) 10 (gc 3), wI (cy 1) (ef 3) 7 (xc 3), wO (ea 0) 2 [.ref (eg 0), .ref (ef 0), .int (et 0), .int (nI ((el 0))), .int (nI ((ei 0)))], wI (cy 1) (eg 0) 10 (gc 0), wO h0 4 [.ref h1, .ref h2, .ref h3, .ref h4, .ref h5, .ref h6, .ref h7, .ref h8, .ref h9, .ref h10, .ref h11, .int ys, hv1, hv2, hv3, hv4]] hP9 hD9 hS9 (fun hP hD hS => ?_)
              clear hP9 hD9 hS9
              refine W.widen (k := 0) (n := 0) (Nat.le_of_ble_eq_true rfl) (Nat.le_of_ble_eq_true rfl) ?_
              replace hw22 : (zr22 = 0 ∨ zr22 = 1) := hw22
              have f_23 := hw22
              refine lv_if_ne (tgt := 94) hx hb dX1_pardonsWithLast_89 (by decide) (fun c_89 => ?_) (fun c_89 => ?_)
              · refine lv_iinc (v := 1) (lv' := [(3, .int 1), (6, .int zr9), (5, .ref (ea 0)), (4, .int (nI v_7)), (0, .ref q0), (1, .int (nI dp)), (2, .int (nI wd))]) hx hb dX1_pardonsWithLast_94 hl (k := 3) rfl (by decide) (by decide) rfl (fun ls hl => ?_)
                refine lv_goto (tgt := 2) hx hb dX1_pardonsWithLast_97 (by decide) ?_
                exact ih1  1 (by omega) (by omega) _ _ (hP.sub [0, 1, 17, 2, 3, 4, 15, 16, 5, 6, 7, 8, 9, 10, 11, 12, 13, 14] rfl) (hD.sub [0, 1, 17, 2, 3, 4, 15, 16, 5, 6, 7, 8, 9, 10, 11, 12, 13, 14] (by decide +kernel) rfl) hS ls (lv_sub hl [0, 4, 5, 6] rfl)
              · refine lv_iconst (v := 0) hx hb dX1_pardonsWithLast_92 (by decide) ?_
                exact x_zret hQ hx hb hr hlocks hK hP hD hS rfl dX1_pardonsWithLast_93 () ((Or.inl rfl)) [0, 1, 17, 2, 3, 4, 15, 16, 5, 6, 7, 8, 9, 10, 11, 12, 13, 14] (by decide +kernel) rfl (Nat.le_of_ble_eq_true rfl) (Nat.le_of_ble_eq_true rfl)
            · refine lv_iconst (v := 0) hx hb dX1_pardonsWithLast_57 (by decide) ?_
              exact x_zret hQ hx hb hr hlocks hK hP hD hS rfl dX1_pardonsWithLast_58 () ((Or.inl rfl)) [0, 1, 2, 3, 4, 5, 16, 17, 6, 7, 8, 9, 10, 11, 12, 13, 14, 15] (by decide +kernel) rfl (Nat.le_of_ble_eq_true rfl) (Nat.le_of_ble_eq_true rfl)
        · subst hsp
          refine va_aldq hx hb hK hP 5 4 rfl rfl (by unfold vp_in; decide) dX1_pardonsWithLast_32 ?_
          refine W.eq (g2 := F0 m 33 ls [.ref (ea 1)]) rfl ?_
          refine lv_astore (lv' := [(5, .ref (ea 1)), (4, .int (nI v_7)), (3, .int 1), (0, .ref q0), (1, .int (nI dp)), (2, .int (nI wd))]) hx hb dX1_pardonsWithLast_33 hl (by decide) rfl (fun ls hl => ?_)
          refine lv_aload hx hb dX1_pardonsWithLast_35 (lv_at hl 0 rfl) ?_
          refine lv_iload_n hx hb dX1_pardonsWithLast_37 rfl (lv_at hl 4 rfl) ?_
          refine lv_iload_n hx hb dX1_pardonsWithLast_38 rfl (lv_at hl 5 rfl) ?_
          refine x_callVi (q := (RX2, TX2, 5)) (ci := 2) (q0 := 0) (wr := [wO q0 1 [.ref q1, .ref er, .ref q2, .ref q3, .ref q4, .ref h0, .int (nI ql), .int qo], wI (cy 1) q2 24 (fph), wO h0 4 [.ref h1, .ref h2, .ref h3, .ref h4, .ref h5, .ref h6, .ref h7, .ref h8, .ref h9, .ref h10, .ref h11, .int ys, hv1, hv2, hv3, hv4], wI (cy 1) h7 48 (fx), wI (cy 1) h1 4 (fc), (er, .inl (cy 4, 4, .inr (.inr (.inr (.inr (eF (ea 0) (ea 1) (ea 2) (ea 3))))))), wO (ea 0) 2 [.ref (eg 0), .ref (ef 0), .int (et 0), .int (nI (el 0)), .int (nI (ei 0))], wI (cy 1) (eg 0) 10 (gc 0), wI (cy 1) (ef 0) 7 (xc 0), wI (cy 1) (ef 1) 7 (xc 1), wO (ea 2) 2 [.ref (eg 2), .ref (ef 2), .int (et 2), .int (nI (el 2)), .int (nI (ei 2))], wI (cy 1) (eg 2) 10 (gc 2), wI (cy 1) (ef 2) 7 (xc 2), wO (ea 3) 2 [.ref (eg 3), .ref (ef 3), .int (et 3), .int (nI (el 3)), .int (nI (ei 3))], wI (cy 1) (eg 3) 10 (gc 3), wI (cy 1) (ef 3) 7 (xc 3)]) (rest := []) ⟨hx, hb, hml, hown, hg, hl.1⟩ k_X1_70 (s_comesBack l D cy (ea 1) (eg 1) (ef 1) (et 1) ((el 1)) ((ei 1)) (gc 1) dp (nI wd) (by omega)) E0_blind hK hP hD hS hA [9, 10] [0, 1, 2, 3, 4, 5, 6, 7, 8, 11, 12, 13, 14, 15, 16, 17] ⟨rfl, rfl, by decide +kernel, by decide +kernel, by decide +kernel⟩ rfl rfl (fun _ _ _ => trivial) dX1_pardonsWithLast_39 rfl rfl (Nat.le_of_ble_eq_true rfl) ⟨Nat.le_of_ble_eq_true rfl, Nat.le_of_ble_eq_true rfl⟩ ⟨Nat.le_of_ble_eq_true rfl, Nat.le_of_ble_eq_true rfl⟩ (fun zr24 zu24 H locs hw24 hP9 hD9 hS9 => ?_)
          clear hP hD hS
          refine reW [wO q0 1 [.ref q1, .ref er, .ref q2, .ref q3, .ref q4, .ref h0, .int (nI ql), .int qo], wI (cy 1) q2 24 (fph), wO h0 4 [.ref h1, .ref h2, .ref h3, .ref h4, .ref h5, .ref h6, .ref h7, .ref h8, .ref h9, .ref h10, .ref h11, .int ys, hv1, hv2, hv3, hv4], wI (cy 1) h7 48 (fx), wI (cy 1) h1 4 (fc), (er, .inl (cy 4, 4, .inr (.inr (.inr (.inr (eF (ea 0) (ea 1) (ea 2) (ea 3))))))), wO (ea 0) 2 [.ref (eg 0), .ref (ef 0), .int (et 0), .int (nI (el 0)), .int (nI (ei 0))], wI (cy 1) (eg 0) 10 (gc 0), wI (cy 1) (ef 0) 7 (xc 0), wI (cy 1) (ef 1) 7 (xc 1), wO (ea 2) 2 [.ref (eg 2), .ref (ef 2), .int (et 2), .int (nI (el 2)), .int (nI (ei 2))], wI (cy 1) (eg 2) 10 (gc 2), wI (cy 1) (ef 2) 7 (xc 2), wO (ea 3) 2 [.ref (eg 3), .ref (ef 3), .int (et 3), .int (nI (el 3)), .int (nI (ei 3))], wI (cy 1) (eg 3) 10 (gc 3), wI (cy 1) (ef 3) 7 (xc 3), wO (ea 1) 2 [.ref (eg 1), .ref (ef 1), .int (et 1), .int (nI ((el 1))), .int (nI ((ei 1)))], wI (cy 1) (eg 1) 10 (gc 1)] hP9 hD9 hS9 (fun hP hD hS => ?_)
          clear hP9 hD9 hS9
          refine W.widen (k := 0) (n := 0) (Nat.le_of_ble_eq_true rfl) (Nat.le_of_ble_eq_true rfl) ?_
          replace hw24 : (zr24 = 0 ∨ zr24 = 1) := hw24
          have f_25 := hw24
          refine lv_istore (lv' := [(6, .int zr24), (5, .ref (ea 1)), (4, .int (nI v_7)), (3, .int 1), (0, .ref q0), (1, .int (nI dp)), (2, .int (nI wd))]) hx hb dX1_pardonsWithLast_42 hl (by decide) rfl (fun ls hl => ?_)
          refine lv_iload hx hb dX1_pardonsWithLast_44 (lv_at hl 0 rfl) ?_
          refine lv_if_ne (tgt := 59) hx hb dX1_pardonsWithLast_46 (by decide) (fun c_46 => ?_) (fun c_46 => ?_)
          · refine lv_aload_n hx hb dX1_pardonsWithLast_59 rfl (lv_at hl 4 rfl) ?_
            refine va_get (D := D) (ci := 1) (v := .ref h0) (C := RX1) (T := TX1) (N := 8) hx hb hg i_X1 hown hK hP 0 rfl rfl 5 (by decide) (hg _ m_558) (fun _ h9 => h9) rfl dX1_pardonsWithLast_60 ?_
            refine lv_iload hx hb dX1_pardonsWithLast_63 (lv_at hl 0 rfl) ?_
            refine lv_if_eq (tgt := 80) hx hb dX1_pardonsWithLast_65 (by decide) (fun h => absurd h c_46) (fun _ => ?_)
            refine lv_aload_n hx hb dX1_pardonsWithLast_68 rfl (lv_at hl 4 rfl) ?_
            refine lv_aload hx hb dX1_pardonsWithLast_69 (lv_at hl 1 rfl) ?_
            refine lv_iload hx hb dX1_pardonsWithLast_71 (lv_at hl 2 rfl) ?_
            refine lv_iload_n hx hb dX1_pardonsWithLast_73 rfl (lv_at hl 6 rfl) ?_
            refine x_callVi (q := (RX1, TX1, 8)) (ci := 1) (q0 := 0) (wr := [wI (cy 1) q2 24 (fph), wI (cy 1) h1 4 (fc), (er, .inl (cy 4, 4, .inr (.inr (.inr (.inr (eF (ea 0) (ea 1) (ea 2) (ea 3))))))), wO (ea 0) 2 [.ref (eg 0), .ref (ef 0), .int (et 0), .int (nI (el 0)), .int (nI (ei 0))], wI (cy 1) (eg 0) 10 (gc 0), wI (cy 1) (ef 0) 7 (xc 0), wI (cy 1) (ef 1) 7 (xc 1), wO (ea 2) 2 [.ref (eg 2), .ref (ef 2), .int (et 2), .int (nI (el 2)), .int (nI (ei 2))], wI (cy 1) (eg 2) 10 (gc 2), wI (cy 1) (ef 2) 7 (xc 2), wO (ea 3) 2 [.ref (eg 3), .ref (ef 3), .int (et 3), .int (nI (el 3)), .int (nI (ei 3))], wI (cy 1) (eg 3) 10 (gc 3), wI (cy 1) (ef 3) 7 (xc 3), wI (cy 1) (eg 1) 10 (gc 1)]) (rest := [.ref h0]) ⟨hx, hb, hml, hown, hg, hl.1⟩ k_X1_90 (s_endState l D cy q0 q1 q2 q3 q4 er ql qo h0 h1 h2 h3 h4 h5 h6 h7 h8 h9 h10 h11 ((.int ys)) hv1 hv2 hv3 hv4 fx (ea 1) (eg 1) (ef 1) (et 1) (((el 1))) (((ei 1))) v_7 wd (hnx) (hv_7) (by omega)) E0_blind hK hP hD hS hA [0, 2, 3, 16] [1, 4, 5, 6, 7, 8, 9, 10, 11, 12, 13, 14, 15, 17] ⟨rfl, rfl, by decide +kernel, by decide +kernel, by decide +kernel⟩ rfl rfl (fun _ _ _ => trivial) dX1_pardonsWithLast_74 rfl rfl (Nat.le_of_ble_eq_true rfl) ⟨Nat.le_of_ble_eq_true rfl, Nat.le_of_ble_eq_true rfl⟩ ⟨Nat.le_of_ble_eq_true rfl, Nat.le_of_ble_eq_true rfl⟩ (fun zr26 zu26 H locs hw26 hP9 hD9 hS9 => ?_)
            clear hP hD hS
            obtain ⟨k_27, rfl⟩ : ∃ z, z = zu26 := ⟨_, rfl⟩
            refine reW [wI (cy 1) q2 24 (fph), wI (cy 1) h1 4 (fc), (er, .inl (cy 4, 4, .inr (.inr (.inr (.inr (eF (ea 0) (ea 1) (ea 2) (ea 3))))))), wO (ea 0) 2 [.ref (eg 0), .ref (ef 0), .int (et 0), .int (nI (el 0)), .int (nI (ei 0))], wI (cy 1) (eg 0) 10 (gc 0), wI (cy 1) (ef 0) 7 (xc 0), wI (cy 1) (ef 1) 7 (xc 1), wO (ea 2) 2 [.ref (eg 2), .ref (ef 2), .int (et 2), .int (nI (el 2)), .int (nI (ei 2))], wI (cy 1) (eg 2) 10 (gc 2), wI (cy 1) (ef 2) 7 (xc 2), wO (ea 3) 2 [.ref (eg 3), .ref (ef 3), .int (et 3), .int (nI (el 3)), .int (nI (ei 3))], wI (cy 1) (eg 3) 10 (gc 3), wI (cy 1) (ef 3) 7 (xc 3), wI (cy 1) (eg 1) 10 (gc 1), wO q0 1 [.ref q1, .ref er, .ref q2, .ref q3, .ref q4, .ref h0, .int (nI ql), .int qo], wO h0 4 [.ref h1, .ref h2, .ref h3, .ref h4, .ref h5, .ref h6, .ref h7, .ref h8, .ref h9, .ref h10, .ref h11, .int ys, hv1, hv2, hv3, hv4], wI (cy 1) h7 48 (fx), wO (ea 1) 2 [.ref (eg 1), .ref (ef 1), .int (et 1), .int (nI (((el 1)))), .int (nI (((ei 1))))]] hP9 hD9 hS9 (fun hP hD hS => ?_)
            clear hP9 hD9 hS9
            refine W.widen (k := 0) (n := 0) (Nat.le_of_ble_eq_true rfl) (Nat.le_of_ble_eq_true rfl) ?_
            replace hw26 : (zr26 = nI k_27) ∧ (k_27 ≤ 5) := hw26
            obtain ⟨f_28, f_29⟩ := hw26
            subst f_28
            refine lv_goto (tgt := 86) hx hb dX1_pardonsWithLast_77 (by decide) ?_
            refine x_callVi (q := (RX4, TX4, 16)) (ci := 4) (q0 := 0) (wr := [wI (cy 1) q2 24 (fph), wI (cy 1) h1 4 (fc), (er, .inl (cy 4, 4, .inr (.inr (.inr (.inr (eF (ea 0) (ea 1) (ea 2) (ea 3))))))), wO (ea 0) 2 [.ref (eg 0), .ref (ef 0), .int (et 0), .int (nI (el 0)), .int (nI (ei 0))], wI (cy 1) (eg 0) 10 (gc 0), wI (cy 1) (ef 0) 7 (xc 0), wI (cy 1) (ef 1) 7 (xc 1), wO (ea 2) 2 [.ref (eg 2), .ref (ef 2), .int (et 2), .int (nI (el 2)), .int (nI (ei 2))], wI (cy 1) (eg 2) 10 (gc 2), wI (cy 1) (ef 2) 7 (xc 2), wO (ea 3) 2 [.ref (eg 3), .ref (ef 3), .int (et 3), .int (nI (el 3)), .int (nI (ei 3))], wI (cy 1) (eg 3) 10 (gc 3), wI (cy 1) (ef 3) 7 (xc 3), wI (cy 1) (eg 1) 10 (gc 1), wO q0 1 [.ref q1, .ref er, .ref q2, .ref q3, .ref q4, .ref h0, .int (nI ql), .int qo], wI (cy 1) h7 48 (fx), wO (ea 1) 2 [.ref (eg 1), .ref (ef 1), .int (et 1), .int (nI (((el 1)))), .int (nI (((ei 1))))]]) (rest := []) ⟨hx, hb, hml, hown, hg, hl.1⟩ k_X1_94 (s_isYesState l D cy h0 h1 h2 h3 h4 h5 h6 h7 h8 h9 h10 h11 hv1 hv2 hv3 hv4 ys (nI k_27)) E0_blind hK hP hD hS hA [15] [0, 1, 2, 3, 4, 5, 6, 7, 8, 9, 10, 11, 12, 13, 14, 16, 17] ⟨rfl, rfl, by decide +kernel, by decide +kernel, by decide +kernel⟩ rfl rfl (fun _ _ _ => trivial) dX1_pardonsWithLast_86 rfl rfl (Nat.le_of_ble_eq_true rfl) ⟨Nat.le_of_ble_eq_true rfl, Nat.le_of_ble_eq_true rfl⟩ ⟨Nat.le_of_ble_eq_true rfl, Nat.le_of_ble_eq_true rfl⟩ (fun zr30 zu30 H locs hw30 hP9 hD9 hS9 => ?_)
            clear hP hD hS
            refine reW [wI (cy 1) q2 24 (fph), wI (cy 1) h1 4 (fc), (er, .inl (cy 4, 4, .inr (.inr (.inr (.inr (eF (ea 0) (ea 1) (ea 2) (ea 3))))))), wO (ea 0) 2 [.ref (eg 0), .ref (ef 0), .int (et 0), .int (nI (el 0)), .int (nI (ei 0))], wI (cy 1) (eg 0) 10 (gc 0), wI (cy 1) (ef 0) 7 (xc 0), wI (cy 1) (ef 1) 7 (xc 1), wO (ea 2) 2 [.ref (eg 2), .ref (ef 2), .int (et 2), .int (nI (el 2)), .int (nI (ei 2))], wI (cy 1) (eg 2) 10 (gc 2), wI (cy 1) (ef 2) 7 (xc 2), wO (ea 3) 2 [.ref (eg 3), .ref (ef 3), .int (et 3), .int (nI (el 3)), .int (nI (ei 3))], wI (cy 1) (eg 3) 10 (gc 3), wI (cy 1) (ef 3) 7 (xc 3), wI (cy 1) (eg 1) 10 (gc 1), wO q0 1 [.ref q1, .ref er, .ref q2, .ref q3, .ref q4, .ref h0, .int (nI ql), .int qo], wI (cy 1) h7 48 (fx), wO (ea 1) 2 [.ref (eg 1), .ref (ef 1), .int (et 1), .int (nI (((el 1)))), .int (nI (((ei 1))))], wO h0 4 [.ref h1, .ref h2, .ref h3, .ref h4, .ref h5, .ref h6, .ref h7, .ref h8, .ref h9, .ref h10, .ref h11, .int ys, hv1, hv2, hv3, hv4]] hP9 hD9 hS9 (fun hP hD hS => ?_)
            clear hP9 hD9 hS9
            refine W.widen (k := 0) (n := 0) (Nat.le_of_ble_eq_true rfl) (Nat.le_of_ble_eq_true rfl) ?_
            replace hw30 : (zr30 = 0 ∨ zr30 = 1) := hw30
            have f_31 := hw30
            refine lv_if_ne (tgt := 94) hx hb dX1_pardonsWithLast_89 (by decide) (fun c_89 => ?_) (fun c_89 => ?_)
            · refine lv_iinc (v := 2) (lv' := [(3, .int 2), (6, .int zr24), (5, .ref (ea 1)), (4, .int (nI v_7)), (0, .ref q0), (1, .int (nI dp)), (2, .int (nI wd))]) hx hb dX1_pardonsWithLast_94 hl (k := 3) rfl (by decide) (by decide) rfl (fun ls hl => ?_)
              refine lv_goto (tgt := 2) hx hb dX1_pardonsWithLast_97 (by decide) ?_
              exact ih1  2 (by omega) (by omega) _ _ (hP.sub [14, 0, 17, 15, 1, 2, 3, 4, 5, 16, 13, 6, 7, 8, 9, 10, 11, 12] rfl) (hD.sub [14, 0, 17, 15, 1, 2, 3, 4, 5, 16, 13, 6, 7, 8, 9, 10, 11, 12] (by decide +kernel) rfl) hS ls (lv_sub hl [0, 4, 5, 6] rfl)
            · refine lv_iconst (v := 0) hx hb dX1_pardonsWithLast_92 (by decide) ?_
              exact x_zret hQ hx hb hr hlocks hK hP hD hS rfl dX1_pardonsWithLast_93 () ((Or.inl rfl)) [14, 0, 17, 15, 1, 2, 3, 4, 5, 16, 13, 6, 7, 8, 9, 10, 11, 12] (by decide +kernel) rfl (Nat.le_of_ble_eq_true rfl) (Nat.le_of_ble_eq_true rfl)
          · refine lv_iload hx hb dX1_pardonsWithLast_49 (lv_at hl 2 rfl) ?_
            refine lv_ldc (v := 262144) hx hb hown (hg _ m_1162) dX1_pardonsWithLast_51 ?_
            refine lv_iand hx hb dX1_pardonsWithLast_53 ?_
            refine lv_topi (fun x_32 ex_32 => ?_)
            refine lv_if_ne (tgt := 59) hx hb dX1_pardonsWithLast_54 (by decide) (fun c_54 => ?_) (fun c_54 => ?_)
            · refine lv_aload_n hx hb dX1_pardonsWithLast_59 rfl (lv_at hl 4 rfl) ?_
              refine va_get (D := D) (ci := 1) (v := .ref h0) (C := RX1) (T := TX1) (N := 8) hx hb hg i_X1 hown hK hP 0 rfl rfl 5 (by decide) (hg _ m_558) (fun _ h9 => h9) rfl dX1_pardonsWithLast_60 ?_
              refine lv_iload hx hb dX1_pardonsWithLast_63 (lv_at hl 0 rfl) ?_
              refine lv_if_eq (tgt := 80) hx hb dX1_pardonsWithLast_65 (by decide) (fun _ => ?_) (fun h => absurd c_46 h)
              refine lv_iload hx hb dX1_pardonsWithLast_80 (lv_at hl 2 rfl) ?_
              refine lv_iconst (v := 0) hx hb dX1_pardonsWithLast_82 (by decide) ?_
              refine x_callSi (wr := [wO q0 1 [.ref q1, .ref er, .ref q2, .ref q3, .ref q4, .ref h0, .int (nI ql), .int qo], wI (cy 1) q2 24 (fph), wO h0 4 [.ref h1, .ref h2, .ref h3, .ref h4, .ref h5, .ref h6, .ref h7, .ref h8, .ref h9, .ref h10, .ref h11, .int ys, hv1, hv2, hv3, hv4], wI (cy 1) h7 48 (fx), wI (cy 1) h1 4 (fc), (er, .inl (cy 4, 4, .inr (.inr (.inr (.inr (eF (ea 0) (ea 1) (ea 2) (ea 3))))))), wO (ea 0) 2 [.ref (eg 0), .ref (ef 0), .int (et 0), .int (nI (el 0)), .int (nI (ei 0))], wI (cy 1) (eg 0) 10 (gc 0), wI (cy 1) (ef 0) 7 (xc 0), wI (cy 1) (ef 1) 7 (xc 1), wO (ea 2) 2 [.ref (eg 2), .ref (ef 2), .int (et 2), .int (nI (el 2)), .int (nI (ei 2))], wI (cy 1) (eg 2) 10 (gc 2), wI (cy 1) (ef 2) 7 (xc 2), wO (ea 3) 2 [.ref (eg 3), .ref (ef 3), .int (et 3), .int (nI (el 3)), .int (nI (ei 3))], wI (cy 1) (eg 3) 10 (gc 3), wI (cy 1) (ef 3) 7 (xc 3), wO (ea 1) 2 [.ref (eg 1), .ref (ef 1), .int (et 1), .int (nI ((el 1))), .int (nI ((ei 1)))], wI (cy 1) (eg 1) 10 (gc 1)]) (rest := [.ref h0]) ⟨hx, hb, hml, hown, hg, hl.1⟩ k_X1_87 (s_stateOf l D cy v_7 0 (hv_7) (by omega)) E0_blind hK hP hD hS hA [] [0, 1, 2, 3, 4, 5, 6, 7, 8, 9, 10, 11, 12, 13, 14, 15, 16, 17] ⟨rfl, rfl, by decide +kernel, by decide +kernel, by decide +kernel⟩ (fun _ _ _ => trivial) dX1_pardonsWithLast_83 rfl rfl (Nat.le_of_ble_eq_true rfl) ⟨Nat.le_of_ble_eq_true rfl, Nat.le_of_ble_eq_true rfl⟩ ⟨Nat.le_of_ble_eq_true rfl, Nat.le_of_ble_eq_true rfl⟩ (fun zr33 zu33 H locs hw33 hP9 hD9 hS9 => ?_)
              clear hP hD hS
              obtain ⟨k_34, rfl⟩ : ∃ z, z = zu33 := ⟨_, rfl⟩
              refine reW [wO q0 1 [.ref q1, .ref er, .ref q2, .ref q3, .ref q4, .ref h0, .int (nI ql), .int qo], wI (cy 1) q2 24 (fph), wO h0 4 [.ref h1, .ref h2, .ref h3, .ref h4, .ref h5, .ref h6, .ref h7, .ref h8, .ref h9, .ref h10, .ref h11, .int ys, hv1, hv2, hv3, hv4], wI (cy 1) h7 48 (fx), wI (cy 1) h1 4 (fc), (er, .inl (cy 4, 4, .inr (.inr (.inr (.inr (eF (ea 0) (ea 1) (ea 2) (ea 3))))))), wO (ea 0) 2 [.ref (eg 0), .ref (ef 0), .int (et 0), .int (nI (el 0)), .int (nI (ei 0))], wI (cy 1) (eg 0) 10 (gc 0), wI (cy 1) (ef 0) 7 (xc 0), wI (cy 1) (ef 1) 7 (xc 1), wO (ea 2) 2 [.ref (eg 2), .ref (ef 2), .int (et 2), .int (nI (el 2)), .int (nI (ei 2))], wI (cy 1) (eg 2) 10 (gc 2), wI (cy 1) (ef 2) 7 (xc 2), wO (ea 3) 2 [.ref (eg 3), .ref (ef 3), .int (et 3), .int (nI (el 3)), .int (nI (ei 3))], wI (cy 1) (eg 3) 10 (gc 3), wI (cy 1) (ef 3) 7 (xc 3), wO (ea 1) 2 [.ref (eg 1), .ref (ef 1), .int (et 1), .int (nI ((el 1))), .int (nI ((ei 1)))], wI (cy 1) (eg 1) 10 (gc 1)] hP9 hD9 hS9 (fun hP hD hS => ?_)
              clear hP9 hD9 hS9
              refine W.widen (k := 0) (n := 0) (Nat.le_of_ble_eq_true rfl) (Nat.le_of_ble_eq_true rfl) ?_
              replace hw33 : (zr33 = nI k_34) ∧ (k_34 ≤ 5) := hw33
              obtain ⟨f_35, f_36⟩ := hw33
              subst f_35
              refine x_callVi (q := (RX4, TX4, 16)) (ci := 4) (q0 := 0) (wr := [wO q0 1 [.ref q1, .ref er, .ref q2, .ref q3, .ref q4, .ref h0, .int (nI ql), .int qo], wI (cy 1) q2 24 (fph), wI (cy 1) h7 48 (fx), wI (cy 1) h1 4 (fc), (er, .inl (cy 4, 4, .inr (.inr (.inr (.inr (eF (ea 0) (ea 1) (ea 2) (ea 3))))))), wO (ea 0) 2 [.ref (eg 0), .ref (ef 0), .int (et 0), .int (nI (el 0)), .int (nI (ei 0))], wI (cy 1) (eg 0) 10 (gc 0), wI (cy 1) (ef 0) 7 (xc 0), wI (cy 1) (ef 1) 7 (xc 1), wO (ea 2) 2 [.ref (eg 2), .ref (ef 2), .int (et 2), .int (nI (el 2)), .int (nI (ei 2))], wI (cy 1) (eg 2) 10 (gc 2), wI (cy 1) (ef 2) 7 (xc 2), wO (ea 3) 2 [.ref (eg 3), .ref (ef 3), .int (et 3), .int (nI (el 3)), .int (nI (ei 3))], wI (cy 1) (eg 3) 10 (gc 3), wI (cy 1) (ef 3) 7 (xc 3), wO (ea 1) 2 [.ref (eg 1), .ref (ef 1), .int (et 1), .int (nI ((el 1))), .int (nI ((ei 1)))], wI (cy 1) (eg 1) 10 (gc 1)]) (rest := []) ⟨hx, hb, hml, hown, hg, hl.1⟩ k_X1_94 (s_isYesState l D cy h0 h1 h2 h3 h4 h5 h6 h7 h8 h9 h10 h11 hv1 hv2 hv3 hv4 ys (nI k_34)) E0_blind hK hP hD hS hA [2] [0, 1, 3, 4, 5, 6, 7, 8, 9, 10, 11, 12, 13, 14, 15, 16, 17] ⟨rfl, rfl, by decide +kernel, by decide +kernel, by decide +kernel⟩ rfl rfl (fun _ _ _ => trivial) dX1_pardonsWithLast_86 rfl rfl (Nat.le_of_ble_eq_true rfl) ⟨Nat.le_of_ble_eq_true rfl, Nat.le_of_ble_eq_true rfl⟩ ⟨Nat.le_of_ble_eq_true rfl, Nat.le_of_ble_eq_true rfl⟩ (fun zr37 zu37 H locs hw37 hP9 hD9 hS9 => ?_)
              clear hP hD hS
              refine reW [wO q0 1 [.ref q1, .ref er, .ref q2, .ref q3, .ref q4, .ref h0, .int (nI ql), .int qo], wI (cy 1) q2 24 (fph), wI (cy 1) h7 48 (fx), wI (cy 1) h1 4 (fc), (er, .inl (cy 4, 4, .inr (.inr (.inr (.inr (eF (ea 0) (ea 1) (ea 2) (ea 3))))))), wO (ea 0) 2 [.ref (eg 0), .ref (ef 0), .int (et 0), .int (nI (el 0)), .int (nI (ei 0))], wI (cy 1) (eg 0) 10 (gc 0), wI (cy 1) (ef 0) 7 (xc 0), wI (cy 1) (ef 1) 7 (xc 1), wO (ea 2) 2 [.ref (eg 2), .ref (ef 2), .int (et 2), .int (nI (el 2)), .int (nI (ei 2))], wI (cy 1) (eg 2) 10 (gc 2), wI (cy 1) (ef 2) 7 (xc 2), wO (ea 3) 2 [.ref (eg 3), .ref (ef 3), .int (et 3), .int (nI (el 3)), .int (nI (ei 3))], wI (cy 1) (eg 3) 10 (gc 3), wI (cy 1) (ef 3) 7 (xc 3), wO (ea 1) 2 [.ref (eg 1), .ref (ef 1), .int (et 1), .int (nI ((el 1))), .int (nI ((ei 1)))], wI (cy 1) (eg 1) 10 (gc 1), wO h0 4 [.ref h1, .ref h2, .ref h3, .ref h4, .ref h5, .ref h6, .ref h7, .ref h8, .ref h9, .ref h10, .ref h11, .int ys, hv1, hv2, hv3, hv4]] hP9 hD9 hS9 (fun hP hD hS => ?_)
              clear hP9 hD9 hS9
              refine W.widen (k := 0) (n := 0) (Nat.le_of_ble_eq_true rfl) (Nat.le_of_ble_eq_true rfl) ?_
              replace hw37 : (zr37 = 0 ∨ zr37 = 1) := hw37
              have f_38 := hw37
              refine lv_if_ne (tgt := 94) hx hb dX1_pardonsWithLast_89 (by decide) (fun c_89 => ?_) (fun c_89 => ?_)
              · refine lv_iinc (v := 2) (lv' := [(3, .int 2), (6, .int zr24), (5, .ref (ea 1)), (4, .int (nI v_7)), (0, .ref q0), (1, .int (nI dp)), (2, .int (nI wd))]) hx hb dX1_pardonsWithLast_94 hl (k := 3) rfl (by decide) (by decide) rfl (fun ls hl => ?_)
                refine lv_goto (tgt := 2) hx hb dX1_pardonsWithLast_97 (by decide) ?_
                exact ih1  2 (by omega) (by omega) _ _ (hP.sub [0, 1, 17, 2, 3, 4, 5, 6, 7, 15, 16, 8, 9, 10, 11, 12, 13, 14] rfl) (hD.sub [0, 1, 17, 2, 3, 4, 5, 6, 7, 15, 16, 8, 9, 10, 11, 12, 13, 14] (by decide +kernel) rfl) hS ls (lv_sub hl [0, 4, 5, 6] rfl)
              · refine lv_iconst (v := 0) hx hb dX1_pardonsWithLast_92 (by decide) ?_
                exact x_zret hQ hx hb hr hlocks hK hP hD hS rfl dX1_pardonsWithLast_93 () ((Or.inl rfl)) [0, 1, 17, 2, 3, 4, 5, 6, 7, 15, 16, 8, 9, 10, 11, 12, 13, 14] (by decide +kernel) rfl (Nat.le_of_ble_eq_true rfl) (Nat.le_of_ble_eq_true rfl)
            · refine lv_iconst (v := 0) hx hb dX1_pardonsWithLast_57 (by decide) ?_
              exact x_zret hQ hx hb hr hlocks hK hP hD hS rfl dX1_pardonsWithLast_58 () ((Or.inl rfl)) [0, 1, 2, 3, 4, 5, 6, 7, 8, 16, 17, 9, 10, 11, 12, 13, 14, 15] (by decide +kernel) rfl (Nat.le_of_ble_eq_true rfl) (Nat.le_of_ble_eq_true rfl)
        · subst hsp
          refine va_aldq hx hb hK hP 5 4 rfl rfl (by unfold vp_in; decide) dX1_pardonsWithLast_32 ?_
          refine W.eq (g2 := F0 m 33 ls [.ref (ea 2)]) rfl ?_
          refine lv_astore (lv' := [(5, .ref (ea 2)), (4, .int (nI v_7)), (3, .int 2), (0, .ref q0), (1, .int (nI dp)), (2, .int (nI wd))]) hx hb dX1_pardonsWithLast_33 hl (by decide) rfl (fun ls hl => ?_)
          refine lv_aload hx hb dX1_pardonsWithLast_35 (lv_at hl 0 rfl) ?_
          refine lv_iload_n hx hb dX1_pardonsWithLast_37 rfl (lv_at hl 4 rfl) ?_
          refine lv_iload_n hx hb dX1_pardonsWithLast_38 rfl (lv_at hl 5 rfl) ?_
          refine x_callVi (q := (RX2, TX2, 5)) (ci := 2) (q0 := 0) (wr := [wO q0 1 [.ref q1, .ref er, .ref q2, .ref q3, .ref q4, .ref h0, .int (nI ql), .int qo], wI (cy 1) q2 24 (fph), wO h0 4 [.ref h1, .ref h2, .ref h3, .ref h4, .ref h5, .ref h6, .ref h7, .ref h8, .ref h9, .ref h10, .ref h11, .int ys, hv1, hv2, hv3, hv4], wI (cy 1) h7 48 (fx), wI (cy 1) h1 4 (fc), (er, .inl (cy 4, 4, .inr (.inr (.inr (.inr (eF (ea 0) (ea 1) (ea 2) (ea 3))))))), wO (ea 0) 2 [.ref (eg 0), .ref (ef 0), .int (et 0), .int (nI (el 0)), .int (nI (ei 0))], wI (cy 1) (eg 0) 10 (gc 0), wI (cy 1) (ef 0) 7 (xc 0), wO (ea 1) 2 [.ref (eg 1), .ref (ef 1), .int (et 1), .int (nI (el 1)), .int (nI (ei 1))], wI (cy 1) (eg 1) 10 (gc 1), wI (cy 1) (ef 1) 7 (xc 1), wI (cy 1) (ef 2) 7 (xc 2), wO (ea 3) 2 [.ref (eg 3), .ref (ef 3), .int (et 3), .int (nI (el 3)), .int (nI (ei 3))], wI (cy 1) (eg 3) 10 (gc 3), wI (cy 1) (ef 3) 7 (xc 3)]) (rest := []) ⟨hx, hb, hml, hown, hg, hl.1⟩ k_X1_70 (s_comesBack l D cy (ea 2) (eg 2) (ef 2) (et 2) ((el 2)) ((ei 2)) (gc 2) dp (nI wd) (by omega)) E0_blind hK hP hD hS hA [12, 13] [0, 1, 2, 3, 4, 5, 6, 7, 8, 9, 10, 11, 14, 15, 16, 17] ⟨rfl, rfl, by decide +kernel, by decide +kernel, by decide +kernel⟩ rfl rfl (fun _ _ _ => trivial) dX1_pardonsWithLast_39 rfl rfl (Nat.le_of_ble_eq_true rfl) ⟨Nat.le_of_ble_eq_true rfl, Nat.le_of_ble_eq_true rfl⟩ ⟨Nat.le_of_ble_eq_true rfl, Nat.le_of_ble_eq_true rfl⟩ (fun zr39 zu39 H locs hw39 hP9 hD9 hS9 => ?_)
          clear hP hD hS
          refine reW [wO q0 1 [.ref q1, .ref er, .ref q2, .ref q3, .ref q4, .ref h0, .int (nI ql), .int qo], wI (cy 1) q2 24 (fph), wO h0 4 [.ref h1, .ref h2, .ref h3, .ref h4, .ref h5, .ref h6, .ref h7, .ref h8, .ref h9, .ref h10, .ref h11, .int ys, hv1, hv2, hv3, hv4], wI (cy 1) h7 48 (fx), wI (cy 1) h1 4 (fc), (er, .inl (cy 4, 4, .inr (.inr (.inr (.inr (eF (ea 0) (ea 1) (ea 2) (ea 3))))))), wO (ea 0) 2 [.ref (eg 0), .ref (ef 0), .int (et 0), .int (nI (el 0)), .int (nI (ei 0))], wI (cy 1) (eg 0) 10 (gc 0), wI (cy 1) (ef 0) 7 (xc 0), wO (ea 1) 2 [.ref (eg 1), .ref (ef 1), .int (et 1), .int (nI (el 1)), .int (nI (ei 1))], wI (cy 1) (eg 1) 10 (gc 1), wI (cy 1) (ef 1) 7 (xc 1), wI (cy 1) (ef 2) 7 (xc 2), wO (ea 3) 2 [.ref (eg 3), .ref (ef 3), .int (et 3), .int (nI (el 3)), .int (nI (ei 3))], wI (cy 1) (eg 3) 10 (gc 3), wI (cy 1) (ef 3) 7 (xc 3), wO (ea 2) 2 [.ref (eg 2), .ref (ef 2), .int (et 2), .int (nI ((el 2))), .int (nI ((ei 2)))], wI (cy 1) (eg 2) 10 (gc 2)] hP9 hD9 hS9 (fun hP hD hS => ?_)
          clear hP9 hD9 hS9
          refine W.widen (k := 0) (n := 0) (Nat.le_of_ble_eq_true rfl) (Nat.le_of_ble_eq_true rfl) ?_
          replace hw39 : (zr39 = 0 ∨ zr39 = 1) := hw39
          have f_40 := hw39
          refine lv_istore (lv' := [(6, .int zr39), (5, .ref (ea 2)), (4, .int (nI v_7)), (3, .int 2), (0, .ref q0), (1, .int (nI dp)), (2, .int (nI wd))]) hx hb dX1_pardonsWithLast_42 hl (by decide) rfl (fun ls hl => ?_)
          refine lv_iload hx hb dX1_pardonsWithLast_44 (lv_at hl 0 rfl) ?_
          refine lv_if_ne (tgt := 59) hx hb dX1_pardonsWithLast_46 (by decide) (fun c_46 => ?_) (fun c_46 => ?_)
          · refine lv_aload_n hx hb dX1_pardonsWithLast_59 rfl (lv_at hl 4 rfl) ?_
            refine va_get (D := D) (ci := 1) (v := .ref h0) (C := RX1) (T := TX1) (N := 8) hx hb hg i_X1 hown hK hP 0 rfl rfl 5 (by decide) (hg _ m_558) (fun _ h9 => h9) rfl dX1_pardonsWithLast_60 ?_
            refine lv_iload hx hb dX1_pardonsWithLast_63 (lv_at hl 0 rfl) ?_
            refine lv_if_eq (tgt := 80) hx hb dX1_pardonsWithLast_65 (by decide) (fun h => absurd h c_46) (fun _ => ?_)
            refine lv_aload_n hx hb dX1_pardonsWithLast_68 rfl (lv_at hl 4 rfl) ?_
            refine lv_aload hx hb dX1_pardonsWithLast_69 (lv_at hl 1 rfl) ?_
            refine lv_iload hx hb dX1_pardonsWithLast_71 (lv_at hl 2 rfl) ?_
            refine lv_iload_n hx hb dX1_pardonsWithLast_73 rfl (lv_at hl 6 rfl) ?_
            refine x_callVi (q := (RX1, TX1, 8)) (ci := 1) (q0 := 0) (wr := [wI (cy 1) q2 24 (fph), wI (cy 1) h1 4 (fc), (er, .inl (cy 4, 4, .inr (.inr (.inr (.inr (eF (ea 0) (ea 1) (ea 2) (ea 3))))))), wO (ea 0) 2 [.ref (eg 0), .ref (ef 0), .int (et 0), .int (nI (el 0)), .int (nI (ei 0))], wI (cy 1) (eg 0) 10 (gc 0), wI (cy 1) (ef 0) 7 (xc 0), wO (ea 1) 2 [.ref (eg 1), .ref (ef 1), .int (et 1), .int (nI (el 1)), .int (nI (ei 1))], wI (cy 1) (eg 1) 10 (gc 1), wI (cy 1) (ef 1) 7 (xc 1), wI (cy 1) (ef 2) 7 (xc 2), wO (ea 3) 2 [.ref (eg 3), .ref (ef 3), .int (et 3), .int (nI (el 3)), .int (nI (ei 3))], wI (cy 1) (eg 3) 10 (gc 3), wI (cy 1) (ef 3) 7 (xc 3), wI (cy 1) (eg 2) 10 (gc 2)]) (rest := [.ref h0]) ⟨hx, hb, hml, hown, hg, hl.1⟩ k_X1_90 (s_endState l D cy q0 q1 q2 q3 q4 er ql qo h0 h1 h2 h3 h4 h5 h6 h7 h8 h9 h10 h11 ((.int ys)) hv1 hv2 hv3 hv4 fx (ea 2) (eg 2) (ef 2) (et 2) (((el 2))) (((ei 2))) v_7 wd (hnx) (hv_7) (by omega)) E0_blind hK hP hD hS hA [0, 2, 3, 16] [1, 4, 5, 6, 7, 8, 9, 10, 11, 12, 13, 14, 15, 17] ⟨rfl, rfl, by decide +kernel, by decide +kernel, by decide +kernel⟩ rfl rfl (fun _ _ _ => trivial) dX1_pardonsWithLast_74 rfl rfl (Nat.le_of_ble_eq_true rfl) ⟨Nat.le_of_ble_eq_true rfl, Nat.le_of_ble_eq_true rfl⟩ ⟨Nat.le_of_ble_eq_true rfl, Nat.le_of_ble_eq_true rfl⟩ (fun zr41 zu41 H locs hw41 hP9 hD9 hS9 => ?_)
            clear hP hD hS
            obtain ⟨k_42, rfl⟩ : ∃ z, z = zu41 := ⟨_, rfl⟩
            refine reW [wI (cy 1) q2 24 (fph), wI (cy 1) h1 4 (fc), (er, .inl (cy 4, 4, .inr (.inr (.inr (.inr (eF (ea 0) (ea 1) (ea 2) (ea 3))))))), wO (ea 0) 2 [.ref (eg 0), .ref (ef 0), .int (et 0), .int (nI (el 0)), .int (nI (ei 0))], wI (cy 1) (eg 0) 10 (gc 0), wI (cy 1) (ef 0) 7 (xc 0), wO (ea 1) 2 [.ref (eg 1), .ref (ef 1), .int (et 1), .int (nI (el 1)), .int (nI (ei 1))], wI (cy 1) (eg 1) 10 (gc 1), wI (cy 1) (ef 1) 7 (xc 1), wI (cy 1) (ef 2) 7 (xc 2), wO (ea 3) 2 [.ref (eg 3), .ref (ef 3), .int (et 3), .int (nI (el 3)), .int (nI (ei 3))], wI (cy 1) (eg 3) 10 (gc 3), wI (cy 1) (ef 3) 7 (xc 3), wI (cy 1) (eg 2) 10 (gc 2), wO q0 1 [.ref q1, .ref er, .ref q2, .ref q3, .ref q4, .ref h0, .int (nI ql), .int qo], wO h0 4 [.ref h1, .ref h2, .ref h3, .ref h4, .ref h5, .ref h6, .ref h7, .ref h8, .ref h9, .ref h10, .ref h11, .int ys, hv1, hv2, hv3, hv4], wI (cy 1) h7 48 (fx), wO (ea 2) 2 [.ref (eg 2), .ref (ef 2), .int (et 2), .int (nI (((el 2)))), .int (nI (((ei 2))))]] hP9 hD9 hS9 (fun hP hD hS => ?_)
            clear hP9 hD9 hS9
            refine W.widen (k := 0) (n := 0) (Nat.le_of_ble_eq_true rfl) (Nat.le_of_ble_eq_true rfl) ?_
            replace hw41 : (zr41 = nI k_42) ∧ (k_42 ≤ 5) := hw41
            obtain ⟨f_43, f_44⟩ := hw41
            subst f_43
            refine lv_goto (tgt := 86) hx hb dX1_pardonsWithLast_77 (by decide) ?_
            refine x_callVi (q := (RX4, TX4, 16)) (ci := 4) (q0 := 0) (wr := [wI (cy 1) q2 24 (fph), wI (cy 1) h1 4 (fc), (er, .inl (cy 4, 4, .inr (.inr (.inr (.inr (eF (ea 0) (ea 1) (ea 2) (ea 3))))))), wO (ea 0) 2 [.ref (eg 0), .ref (ef 0), .int (et 0), .int (nI (el 0)), .int (nI (ei 0))], wI (cy 1) (eg 0) 10 (gc 0), wI (cy 1) (ef 0) 7 (xc 0), wO (ea 1) 2 [.ref (eg 1), .ref (ef 1), .int (et 1), .int (nI (el 1)), .int (nI (ei 1))], wI (cy 1) (eg 1) 10 (gc 1), wI (cy 1) (ef 1) 7 (xc 1), wI (cy 1) (ef 2) 7 (xc 2), wO (ea 3) 2 [.ref (eg 3), .ref (ef 3), .int (et 3), .int (nI (el 3)), .int (nI (ei 3))], wI (cy 1) (eg 3) 10 (gc 3), wI (cy 1) (ef 3) 7 (xc 3), wI (cy 1) (eg 2) 10 (gc 2), wO q0 1 [.ref q1, .ref er, .ref q2, .ref q3, .ref q4, .ref h0, .int (nI ql), .int qo], wI (cy 1) h7 48 (fx), wO (ea 2) 2 [.ref (eg 2), .ref (ef 2), .int (et 2), .int (nI (((el 2)))), .int (nI (((ei 2))))]]) (rest := []) ⟨hx, hb, hml, hown, hg, hl.1⟩ k_X1_94 (s_isYesState l D cy h0 h1 h2 h3 h4 h5 h6 h7 h8 h9 h10 h11 hv1 hv2 hv3 hv4 ys (nI k_42)) E0_blind hK hP hD hS hA [15] [0, 1, 2, 3, 4, 5, 6, 7, 8, 9, 10, 11, 12, 13, 14, 16, 17] ⟨rfl, rfl, by decide +kernel, by decide +kernel, by decide +kernel⟩ rfl rfl (fun _ _ _ => trivial) dX1_pardonsWithLast_86 rfl rfl (Nat.le_of_ble_eq_true rfl) ⟨Nat.le_of_ble_eq_true rfl, Nat.le_of_ble_eq_true rfl⟩ ⟨Nat.le_of_ble_eq_true rfl, Nat.le_of_ble_eq_true rfl⟩ (fun zr45 zu45 H locs hw45 hP9 hD9 hS9 => ?_)
            clear hP hD hS
            refine reW [wI (cy 1) q2 24 (fph), wI (cy 1) h1 4 (fc), (er, .inl (cy 4, 4, .inr (.inr (.inr (.inr (eF (ea 0) (ea 1) (ea 2) (ea 3))))))), wO (ea 0) 2 [.ref (eg 0), .ref (ef 0), .int (et 0), .int (nI (el 0)), .int (nI (ei 0))], wI (cy 1) (eg 0) 10 (gc 0), wI (cy 1) (ef 0) 7 (xc 0), wO (ea 1) 2 [.ref (eg 1), .ref (ef 1), .int (et 1), .int (nI (el 1)), .int (nI (ei 1))], wI (cy 1) (eg 1) 10 (gc 1), wI (cy 1) (ef 1) 7 (xc 1), wI (cy 1) (ef 2) 7 (xc 2), wO (ea 3) 2 [.ref (eg 3), .ref (ef 3), .int (et 3), .int (nI (el 3)), .int (nI (ei 3))], wI (cy 1) (eg 3) 10 (gc 3), wI (cy 1) (ef 3) 7 (xc 3), wI (cy 1) (eg 2) 10 (gc 2), wO q0 1 [.ref q1, .ref er, .ref q2, .ref q3, .ref q4, .ref h0, .int (nI ql), .int qo], wI (cy 1) h7 48 (fx), wO (ea 2) 2 [.ref (eg 2), .ref (ef 2), .int (et 2), .int (nI (((el 2)))), .int (nI (((ei 2))))], wO h0 4 [.ref h1, .ref h2, .ref h3, .ref h4, .ref h5, .ref h6, .ref h7, .ref h8, .ref h9, .ref h10, .ref h11, .int ys, hv1, hv2, hv3, hv4]] hP9 hD9 hS9 (fun hP hD hS => ?_)
            clear hP9 hD9 hS9
            refine W.widen (k := 0) (n := 0) (Nat.le_of_ble_eq_true rfl) (Nat.le_of_ble_eq_true rfl) ?_
            replace hw45 : (zr45 = 0 ∨ zr45 = 1) := hw45
            have f_46 := hw45
            refine lv_if_ne (tgt := 94) hx hb dX1_pardonsWithLast_89 (by decide) (fun c_89 => ?_) (fun c_89 => ?_)
            · refine lv_iinc (v := 3) (lv' := [(3, .int 3), (6, .int zr39), (5, .ref (ea 2)), (4, .int (nI v_7)), (0, .ref q0), (1, .int (nI dp)), (2, .int (nI wd))]) hx hb dX1_pardonsWithLast_94 hl (k := 3) rfl (by decide) (by decide) rfl (fun ls hl => ?_)
              refine lv_goto (tgt := 2) hx hb dX1_pardonsWithLast_97 (by decide) ?_
              exact ih1  3 (by omega) (by omega) _ _ (hP.sub [14, 0, 17, 15, 1, 2, 3, 4, 5, 6, 7, 8, 16, 13, 9, 10, 11, 12] rfl) (hD.sub [14, 0, 17, 15, 1, 2, 3, 4, 5, 6, 7, 8, 16, 13, 9, 10, 11, 12] (by decide +kernel) rfl) hS ls (lv_sub hl [0, 4, 5, 6] rfl)
            · refine lv_iconst (v := 0) hx hb dX1_pardonsWithLast_92 (by decide) ?_
              exact x_zret hQ hx hb hr hlocks hK hP hD hS rfl dX1_pardonsWithLast_93 () ((Or.inl rfl)) [14, 0, 17, 15, 1, 2, 3, 4, 5, 6, 7, 8, 16, 13, 9, 10, 11, 12] (by decide +kernel) rfl (Nat.le_of_ble_eq_true rfl) (Nat.le_of_ble_eq_true rfl)
          · refine lv_iload hx hb dX1_pardonsWithLast_49 (lv_at hl 2 rfl) ?_
            refine lv_ldc (v := 262144) hx hb hown (hg _ m_1162) dX1_pardonsWithLast_51 ?_
            refine lv_iand hx hb dX1_pardonsWithLast_53 ?_
            refine lv_topi (fun x_47 ex_47 => ?_)
            refine lv_if_ne (tgt := 59) hx hb dX1_pardonsWithLast_54 (by decide) (fun c_54 => ?_) (fun c_54 => ?_)
            · refine lv_aload_n hx hb dX1_pardonsWithLast_59 rfl (lv_at hl 4 rfl) ?_
              refine va_get (D := D) (ci := 1) (v := .ref h0) (C := RX1) (T := TX1) (N := 8) hx hb hg i_X1 hown hK hP 0 rfl rfl 5 (by decide) (hg _ m_558) (fun _ h9 => h9) rfl dX1_pardonsWithLast_60 ?_
              refine lv_iload hx hb dX1_pardonsWithLast_63 (lv_at hl 0 rfl) ?_
              refine lv_if_eq (tgt := 80) hx hb dX1_pardonsWithLast_65 (by decide) (fun _ => ?_) (fun h => absurd c_46 h)
              refine lv_iload hx hb dX1_pardonsWithLast_80 (lv_at hl 2 rfl) ?_
              refine lv_iconst (v := 0) hx hb dX1_pardonsWithLast_82 (by decide) ?_
              refine x_callSi (wr := [wO q0 1 [.ref q1, .ref er, .ref q2, .ref q3, .ref q4, .ref h0, .int (nI ql), .int qo], wI (cy 1) q2 24 (fph), wO h0 4 [.ref h1, .ref h2, .ref h3, .ref h4, .ref h5, .ref h6, .ref h7, .ref h8, .ref h9, .ref h10, .ref h11, .int ys, hv1, hv2, hv3, hv4], wI (cy 1) h7 48 (fx), wI (cy 1) h1 4 (fc), (er, .inl (cy 4, 4, .inr (.inr (.inr (.inr (eF (ea 0) (ea 1) (ea 2) (ea 3))))))), wO (ea 0) 2 [.ref (eg 0), .ref (ef 0), .int (et 0), .int (nI (el 0)), .int (nI (ei 0))], wI (cy 1) (eg 0) 10 (gc 0), wI (cy 1) (ef 0) 7 (xc 0), wO (ea 1) 2 [.ref (eg 1), .ref (ef 1), .int (et 1), .int (nI (el 1)), .int (nI (ei 1))], wI (cy 1) (eg 1) 10 (gc 1), wI (cy 1) (ef 1) 7 (xc 1), wI (cy 1) (ef 2) 7 (xc 2), wO (ea 3) 2 [.ref (eg 3), .ref (ef 3), .int (et 3), .int (nI (el 3)), .int (nI (ei 3))], wI (cy 1) (eg 3) 10 (gc 3), wI (cy 1) (ef 3) 7 (xc 3), wO (ea 2) 2 [.ref (eg 2), .ref (ef 2), .int (et 2), .int (nI ((el 2))), .int (nI ((ei 2)))], wI (cy 1) (eg 2) 10 (gc 2)]) (rest := [.ref h0]) ⟨hx, hb, hml, hown, hg, hl.1⟩ k_X1_87 (s_stateOf l D cy v_7 0 (hv_7) (by omega)) E0_blind hK hP hD hS hA [] [0, 1, 2, 3, 4, 5, 6, 7, 8, 9, 10, 11, 12, 13, 14, 15, 16, 17] ⟨rfl, rfl, by decide +kernel, by decide +kernel, by decide +kernel⟩ (fun _ _ _ => trivial) dX1_pardonsWithLast_83 rfl rfl (Nat.le_of_ble_eq_true rfl) ⟨Nat.le_of_ble_eq_true rfl, Nat.le_of_ble_eq_true rfl⟩ ⟨Nat.le_of_ble_eq_true rfl, Nat.le_of_ble_eq_true rfl⟩ (fun zr48 zu48 H locs hw48 hP9 hD9 hS9 => ?_)
              clear hP hD hS
              obtain ⟨k_49, rfl⟩ : ∃ z, z = zu48 := ⟨_, rfl⟩
              refine reW [wO q0 1 [.ref q1, .ref er, .ref q2, .ref q3, .ref q4, .ref h0, .int (nI ql), .int qo], wI (cy 1) q2 24 (fph), wO h0 4 [.ref h1, .ref h2, .ref h3, .ref h4, .ref h5, .ref h6, .ref h7, .ref h8, .ref h9, .ref h10, .ref h11, .int ys, hv1, hv2, hv3, hv4], wI (cy 1) h7 48 (fx), wI (cy 1) h1 4 (fc), (er, .inl (cy 4, 4, .inr (.inr (.inr (.inr (eF (ea 0) (ea 1) (ea 2) (ea 3))))))), wO (ea 0) 2 [.ref (eg 0), .ref (ef 0), .int (et 0), .int (nI (el 0)), .int (nI (ei 0))], wI (cy 1) (eg 0) 10 (gc 0), wI (cy 1) (ef 0) 7 (xc 0), wO (ea 1) 2 [.ref (eg 1), .ref (ef 1), .int (et 1), .int (nI (el 1)), .int (nI (ei 1))], wI (cy 1) (eg 1) 10 (gc 1), wI (cy 1) (ef 1) 7 (xc 1), wI (cy 1) (ef 2) 7 (xc 2), wO (ea 3) 2 [.ref (eg 3), .ref (ef 3), .int (et 3), .int (nI (el 3)), .int (nI (ei 3))], wI (cy 1) (eg 3) 10 (gc 3), wI (cy 1) (ef 3) 7 (xc 3), wO (ea 2) 2 [.ref (eg 2), .ref (ef 2), .int (et 2), .int (nI ((el 2))), .int (nI ((ei 2)))], wI (cy 1) (eg 2) 10 (gc 2)] hP9 hD9 hS9 (fun hP hD hS => ?_)
              clear hP9 hD9 hS9
              refine W.widen (k := 0) (n := 0) (Nat.le_of_ble_eq_true rfl) (Nat.le_of_ble_eq_true rfl) ?_
              replace hw48 : (zr48 = nI k_49) ∧ (k_49 ≤ 5) := hw48
              obtain ⟨f_50, f_51⟩ := hw48
              subst f_50
              refine x_callVi (q := (RX4, TX4, 16)) (ci := 4) (q0 := 0) (wr := [wO q0 1 [.ref q1, .ref er, .ref q2, .ref q3, .ref q4, .ref h0, .int (nI ql), .int qo], wI (cy 1) q2 24 (fph), wI (cy 1) h7 48 (fx), wI (cy 1) h1 4 (fc), (er, .inl (cy 4, 4, .inr (.inr (.inr (.inr (eF (ea 0) (ea 1) (ea 2) (ea 3))))))), wO (ea 0) 2 [.ref (eg 0), .ref (ef 0), .int (et 0), .int (nI (el 0)), .int (nI (ei 0))], wI (cy 1) (eg 0) 10 (gc 0), wI (cy 1) (ef 0) 7 (xc 0), wO (ea 1) 2 [.ref (eg 1), .ref (ef 1), .int (et 1), .int (nI (el 1)), .int (nI (ei 1))], wI (cy 1) (eg 1) 10 (gc 1), wI (cy 1) (ef 1) 7 (xc 1), wI (cy 1) (ef 2) 7 (xc 2), wO (ea 3) 2 [.ref (eg 3), .ref (ef 3), .int (et 3), .int (nI (el 3)), .int (nI (ei 3))], wI (cy 1) (eg 3) 10 (gc 3), wI (cy 1) (ef 3) 7 (xc 3), wO (ea 2) 2 [.ref (eg 2), .ref (ef 2), .int (et 2), .int (nI ((el 2))), .int (nI ((ei 2)))], wI (cy 1) (eg 2) 10 (gc 2)]) (rest := []) ⟨hx, hb, hml, hown, hg, hl.1⟩ k_X1_94 (s_isYesState l D cy h0 h1 h2 h3 h4 h5 h6 h7 h8 h9 h10 h11 hv1 hv2 hv3 hv4 ys (nI k_49)) E0_blind hK hP hD hS hA [2] [0, 1, 3, 4, 5, 6, 7, 8, 9, 10, 11, 12, 13, 14, 15, 16, 17] ⟨rfl, rfl, by decide +kernel, by decide +kernel, by decide +kernel⟩ rfl rfl (fun _ _ _ => trivial) dX1_pardonsWithLast_86 rfl rfl (Nat.le_of_ble_eq_true rfl) ⟨Nat.le_of_ble_eq_true rfl, Nat.le_of_ble_eq_true rfl⟩ ⟨Nat.le_of_ble_eq_true rfl, Nat.le_of_ble_eq_true rfl⟩ (fun zr52 zu52 H locs hw52 hP9 hD9 hS9 => ?_)
              clear hP hD hS
              refine reW [wO q0 1 [.ref q1, .ref er, .ref q2, .ref q3, .ref q4, .ref h0, .int (nI ql), .int qo], wI (cy 1) q2 24 (fph), wI (cy 1) h7 48 (fx), wI (cy 1) h1 4 (fc), (er, .inl (cy 4, 4, .inr (.inr (.inr (.inr (eF (ea 0) (ea 1) (ea 2) (ea 3))))))), wO (ea 0) 2 [.ref (eg 0), .ref (ef 0), .int (et 0), .int (nI (el 0)), .int (nI (ei 0))], wI (cy 1) (eg 0) 10 (gc 0), wI (cy 1) (ef 0) 7 (xc 0), wO (ea 1) 2 [.ref (eg 1), .ref (ef 1), .int (et 1), .int (nI (el 1)), .int (nI (ei 1))], wI (cy 1) (eg 1) 10 (gc 1), wI (cy 1) (ef 1) 7 (xc 1), wI (cy 1) (ef 2) 7 (xc 2), wO (ea 3) 2 [.ref (eg 3), .ref (ef 3), .int (et 3), .int (nI (el 3)), .int (nI (ei 3))], wI (cy 1) (eg 3) 10 (gc 3), wI (cy 1) (ef 3) 7 (xc 3), wO (ea 2) 2 [.ref (eg 2), .ref (ef 2), .int (et 2), .int (nI ((el 2))), .int (nI ((ei 2)))], wI (cy 1) (eg 2) 10 (gc 2), wO h0 4 [.ref h1, .ref h2, .ref h3, .ref h4, .ref h5, .ref h6, .ref h7, .ref h8, .ref h9, .ref h10, .ref h11, .int ys, hv1, hv2, hv3, hv4]] hP9 hD9 hS9 (fun hP hD hS => ?_)
              clear hP9 hD9 hS9
              refine W.widen (k := 0) (n := 0) (Nat.le_of_ble_eq_true rfl) (Nat.le_of_ble_eq_true rfl) ?_
              replace hw52 : (zr52 = 0 ∨ zr52 = 1) := hw52
              have f_53 := hw52
              refine lv_if_ne (tgt := 94) hx hb dX1_pardonsWithLast_89 (by decide) (fun c_89 => ?_) (fun c_89 => ?_)
              · refine lv_iinc (v := 3) (lv' := [(3, .int 3), (6, .int zr39), (5, .ref (ea 2)), (4, .int (nI v_7)), (0, .ref q0), (1, .int (nI dp)), (2, .int (nI wd))]) hx hb dX1_pardonsWithLast_94 hl (k := 3) rfl (by decide) (by decide) rfl (fun ls hl => ?_)
                refine lv_goto (tgt := 2) hx hb dX1_pardonsWithLast_97 (by decide) ?_
                exact ih1  3 (by omega) (by omega) _ _ (hP.sub [0, 1, 17, 2, 3, 4, 5, 6, 7, 8, 9, 10, 15, 16, 11, 12, 13, 14] rfl) (hD.sub [0, 1, 17, 2, 3, 4, 5, 6, 7, 8, 9, 10, 15, 16, 11, 12, 13, 14] (by decide +kernel) rfl) hS ls (lv_sub hl [0, 4, 5, 6] rfl)
              · refine lv_iconst (v := 0) hx hb dX1_pardonsWithLast_92 (by decide) ?_
                exact x_zret hQ hx hb hr hlocks hK hP hD hS rfl dX1_pardonsWithLast_93 () ((Or.inl rfl)) [0, 1, 17, 2, 3, 4, 5, 6, 7, 8, 9, 10, 15, 16, 11, 12, 13, 14] (by decide +kernel) rfl (Nat.le_of_ble_eq_true rfl) (Nat.le_of_ble_eq_true rfl)
            · refine lv_iconst (v := 0) hx hb dX1_pardonsWithLast_57 (by decide) ?_
              exact x_zret hQ hx hb hr hlocks hK hP hD hS rfl dX1_pardonsWithLast_58 () ((Or.inl rfl)) [0, 1, 2, 3, 4, 5, 6, 7, 8, 9, 10, 11, 16, 17, 12, 13, 14, 15] (by decide +kernel) rfl (Nat.le_of_ble_eq_true rfl) (Nat.le_of_ble_eq_true rfl)
        · subst hsp
          refine va_aldq hx hb hK hP 5 4 rfl rfl (by unfold vp_in; decide) dX1_pardonsWithLast_32 ?_
          refine W.eq (g2 := F0 m 33 ls [.ref (ea 3)]) rfl ?_
          refine lv_astore (lv' := [(5, .ref (ea 3)), (4, .int (nI v_7)), (3, .int 3), (0, .ref q0), (1, .int (nI dp)), (2, .int (nI wd))]) hx hb dX1_pardonsWithLast_33 hl (by decide) rfl (fun ls hl => ?_)
          refine lv_aload hx hb dX1_pardonsWithLast_35 (lv_at hl 0 rfl) ?_
          refine lv_iload_n hx hb dX1_pardonsWithLast_37 rfl (lv_at hl 4 rfl) ?_
          refine lv_iload_n hx hb dX1_pardonsWithLast_38 rfl (lv_at hl 5 rfl) ?_
          refine x_callVi (q := (RX2, TX2, 5)) (ci := 2) (q0 := 0) (wr := [wO q0 1 [.ref q1, .ref er, .ref q2, .ref q3, .ref q4, .ref h0, .int (nI ql), .int qo], wI (cy 1) q2 24 (fph), wO h0 4 [.ref h1, .ref h2, .ref h3, .ref h4, .ref h5, .ref h6, .ref h7, .ref h8, .ref h9, .ref h10, .ref h11, .int ys, hv1, hv2, hv3, hv4], wI (cy 1) h7 48 (fx), wI (cy 1) h1 4 (fc), (er, .inl (cy 4, 4, .inr (.inr (.inr (.inr (eF (ea 0) (ea 1) (ea 2) (ea 3))))))), wO (ea 0) 2 [.ref (eg 0), .ref (ef 0), .int (et 0), .int (nI (el 0)), .int (nI (ei 0))], wI (cy 1) (eg 0) 10 (gc 0), wI (cy 1) (ef 0) 7 (xc 0), wO (ea 1) 2 [.ref (eg 1), .ref (ef 1), .int (et 1), .int (nI (el 1)), .int (nI (ei 1))], wI (cy 1) (eg 1) 10 (gc 1), wI (cy 1) (ef 1) 7 (xc 1), wO (ea 2) 2 [.ref (eg 2), .ref (ef 2), .int (et 2), .int (nI (el 2)), .int (nI (ei 2))], wI (cy 1) (eg 2) 10 (gc 2), wI (cy 1) (ef 2) 7 (xc 2), wI (cy 1) (ef 3) 7 (xc 3)]) (rest := []) ⟨hx, hb, hml, hown, hg, hl.1⟩ k_X1_70 (s_comesBack l D cy (ea 3) (eg 3) (ef 3) (et 3) ((el 3)) ((ei 3)) (gc 3) dp (nI wd) (by omega)) E0_blind hK hP hD hS hA [15, 16] [0, 1, 2, 3, 4, 5, 6, 7, 8, 9, 10, 11, 12, 13, 14, 17] ⟨rfl, rfl, by decide +kernel, by decide +kernel, by decide +kernel⟩ rfl rfl (fun _ _ _ => trivial) dX1_pardonsWithLast_39 rfl rfl (Nat.le_of_ble_eq_true rfl) ⟨Nat.le_of_ble_eq_true rfl, Nat.le_of_ble_eq_true rfl⟩ ⟨Nat.le_of_ble_eq_true rfl, Nat.le_of_ble_eq_true rfl⟩ (fun zr54 zu54 H locs hw54 hP9 hD9 hS9 => ?_)
          clear hP hD hS
          refine reW [wO q0 1 [.ref q1, .ref er, .ref q2, .ref q3, .ref q4, .ref h0, .int (nI ql), .int qo], wI (cy 1) q2 24 (fph), wO h0 4 [.ref h1, .ref h2, .ref h3, .ref h4, .ref h5, .ref h6, .ref h7, .ref h8, .ref h9, .ref h10, .ref h11, .int ys, hv1, hv2, hv3, hv4], wI (cy 1) h7 48 (fx), wI (cy 1) h1 4 (fc), (er, .inl (cy 4, 4, .inr (.inr (.inr (.inr (eF (ea 0) (ea 1) (ea 2) (ea 3))))))), wO (ea 0) 2 [.ref (eg 0), .ref (ef 0), .int (et 0), .int (nI (el 0)), .int (nI (ei 0))], wI (cy 1) (eg 0) 10 (gc 0), wI (cy 1) (ef 0) 7 (xc 0), wO (ea 1) 2 [.ref (eg 1), .ref (ef 1), .int (et 1), .int (nI (el 1)), .int (nI (ei 1))], wI (cy 1) (eg 1) 10 (gc 1), wI (cy 1) (ef 1) 7 (xc 1), wO (ea 2) 2 [.ref (eg 2), .ref (ef 2), .int (et 2), .int (nI (el 2)), .int (nI (ei 2))], wI (cy 1) (eg 2) 10 (gc 2), wI (cy 1) (ef 2) 7 (xc 2), wI (cy 1) (ef 3) 7 (xc 3), wO (ea 3) 2 [.ref (eg 3), .ref (ef 3), .int (et 3), .int (nI ((el 3))), .int (nI ((ei 3)))], wI (cy 1) (eg 3) 10 (gc 3)] hP9 hD9 hS9 (fun hP hD hS => ?_)
          clear hP9 hD9 hS9
          refine W.widen (k := 0) (n := 0) (Nat.le_of_ble_eq_true rfl) (Nat.le_of_ble_eq_true rfl) ?_
          replace hw54 : (zr54 = 0 ∨ zr54 = 1) := hw54
          have f_55 := hw54
          refine lv_istore (lv' := [(6, .int zr54), (5, .ref (ea 3)), (4, .int (nI v_7)), (3, .int 3), (0, .ref q0), (1, .int (nI dp)), (2, .int (nI wd))]) hx hb dX1_pardonsWithLast_42 hl (by decide) rfl (fun ls hl => ?_)
          refine lv_iload hx hb dX1_pardonsWithLast_44 (lv_at hl 0 rfl) ?_
          refine lv_if_ne (tgt := 59) hx hb dX1_pardonsWithLast_46 (by decide) (fun c_46 => ?_) (fun c_46 => ?_)
          · refine lv_aload_n hx hb dX1_pardonsWithLast_59 rfl (lv_at hl 4 rfl) ?_
            refine va_get (D := D) (ci := 1) (v := .ref h0) (C := RX1) (T := TX1) (N := 8) hx hb hg i_X1 hown hK hP 0 rfl rfl 5 (by decide) (hg _ m_558) (fun _ h9 => h9) rfl dX1_pardonsWithLast_60 ?_
            refine lv_iload hx hb dX1_pardonsWithLast_63 (lv_at hl 0 rfl) ?_
            refine lv_if_eq (tgt := 80) hx hb dX1_pardonsWithLast_65 (by decide) (fun h => absurd h c_46) (fun _ => ?_)
            refine lv_aload_n hx hb dX1_pardonsWithLast_68 rfl (lv_at hl 4 rfl) ?_
            refine lv_aload hx hb dX1_pardonsWithLast_69 (lv_at hl 1 rfl) ?_
            refine lv_iload hx hb dX1_pardonsWithLast_71 (lv_at hl 2 rfl) ?_
            refine lv_iload_n hx hb dX1_pardonsWithLast_73 rfl (lv_at hl 6 rfl) ?_
            refine x_callVi (q := (RX1, TX1, 8)) (ci := 1) (q0 := 0) (wr := [wI (cy 1) q2 24 (fph), wI (cy 1) h1 4 (fc), (er, .inl (cy 4, 4, .inr (.inr (.inr (.inr (eF (ea 0) (ea 1) (ea 2) (ea 3))))))), wO (ea 0) 2 [.ref (eg 0), .ref (ef 0), .int (et 0), .int (nI (el 0)), .int (nI (ei 0))], wI (cy 1) (eg 0) 10 (gc 0), wI (cy 1) (ef 0) 7 (xc 0), wO (ea 1) 2 [.ref (eg 1), .ref (ef 1), .int (et 1), .int (nI (el 1)), .int (nI (ei 1))], wI (cy 1) (eg 1) 10 (gc 1), wI (cy 1) (ef 1) 7 (xc 1), wO (ea 2) 2 [.ref (eg 2), .ref (ef 2), .int (et 2), .int (nI (el 2)), .int (nI (ei 2))], wI (cy 1) (eg 2) 10 (gc 2), wI (cy 1) (ef 2) 7 (xc 2), wI (cy 1) (ef 3) 7 (xc 3), wI (cy 1) (eg 3) 10 (gc 3)]) (rest := [.ref h0]) ⟨hx, hb, hml, hown, hg, hl.1⟩ k_X1_90 (s_endState l D cy q0 q1 q2 q3 q4 er ql qo h0 h1 h2 h3 h4 h5 h6 h7 h8 h9 h10 h11 ((.int ys)) hv1 hv2 hv3 hv4 fx (ea 3) (eg 3) (ef 3) (et 3) (((el 3))) (((ei 3))) v_7 wd (hnx) (hv_7) (by omega)) E0_blind hK hP hD hS hA [0, 2, 3, 16] [1, 4, 5, 6, 7, 8, 9, 10, 11, 12, 13, 14, 15, 17] ⟨rfl, rfl, by decide +kernel, by decide +kernel, by decide +kernel⟩ rfl rfl (fun _ _ _ => trivial) dX1_pardonsWithLast_74 rfl rfl (Nat.le_of_ble_eq_true rfl) ⟨Nat.le_of_ble_eq_true rfl, Nat.le_of_ble_eq_true rfl⟩ ⟨Nat.le_of_ble_eq_true rfl, Nat.le_of_ble_eq_true rfl⟩ (fun zr56 zu56 H locs hw56 hP9 hD9 hS9 => ?_)
            clear hP hD hS
            obtain ⟨k_57, rfl⟩ : ∃ z, z = zu56 := ⟨_, rfl⟩
            refine reW [wI (cy 1) q2 24 (fph), wI (cy 1) h1 4 (fc), (er, .inl (cy 4, 4, .inr (.inr (.inr (.inr (eF (ea 0) (ea 1) (ea 2) (ea 3))))))), wO (ea 0) 2 [.ref (eg 0), .ref (ef 0), .int (et 0), .int (nI (el 0)), .int (nI (ei 0))], wI (cy 1) (eg 0) 10 (gc 0), wI (cy 1) (ef 0) 7 (xc 0), wO (ea 1) 2 [.ref (eg 1), .ref (ef 1), .int (et 1), .int (nI (el 1)), .int (nI (ei 1))], wI (cy 1) (eg 1) 10 (gc 1), wI (cy 1) (ef 1) 7 (xc 1), wO (ea 2) 2 [.ref (eg 2), .ref (ef 2), .int (et 2), .int (nI (el 2)), .int (nI (ei 2))], wI (cy 1) (eg 2) 10 (gc 2), wI (cy 1) (ef 2) 7 (xc 2), wI (cy 1) (ef 3) 7 (xc 3), wI (cy 1) (eg 3) 10 (gc 3), wO q0 1 [.ref q1, .ref er, .ref q2, .ref q3, .ref q4, .ref h0, .int (nI ql), .int qo], wO h0 4 [.ref h1, .ref h2, .ref h3, .ref h4, .ref h5, .ref h6, .ref h7, .ref h8, .ref h9, .ref h10, .ref h11, .int ys, hv1, hv2, hv3, hv4], wI (cy 1) h7 48 (fx), wO (ea 3) 2 [.ref (eg 3), .ref (ef 3), .int (et 3), .int (nI (((el 3)))), .int (nI (((ei 3))))]] hP9 hD9 hS9 (fun hP hD hS => ?_)
            clear hP9 hD9 hS9
            refine W.widen (k := 0) (n := 0) (Nat.le_of_ble_eq_true rfl) (Nat.le_of_ble_eq_true rfl) ?_
            replace hw56 : (zr56 = nI k_57) ∧ (k_57 ≤ 5) := hw56
            obtain ⟨f_58, f_59⟩ := hw56
            subst f_58
            refine lv_goto (tgt := 86) hx hb dX1_pardonsWithLast_77 (by decide) ?_
            refine x_callVi (q := (RX4, TX4, 16)) (ci := 4) (q0 := 0) (wr := [wI (cy 1) q2 24 (fph), wI (cy 1) h1 4 (fc), (er, .inl (cy 4, 4, .inr (.inr (.inr (.inr (eF (ea 0) (ea 1) (ea 2) (ea 3))))))), wO (ea 0) 2 [.ref (eg 0), .ref (ef 0), .int (et 0), .int (nI (el 0)), .int (nI (ei 0))], wI (cy 1) (eg 0) 10 (gc 0), wI (cy 1) (ef 0) 7 (xc 0), wO (ea 1) 2 [.ref (eg 1), .ref (ef 1), .int (et 1), .int (nI (el 1)), .int (nI (ei 1))], wI (cy 1) (eg 1) 10 (gc 1), wI (cy 1) (ef 1) 7 (xc 1), wO (ea 2) 2 [.ref (eg 2), .ref (ef 2), .int (et 2), .int (nI (el 2)), .int (nI (ei 2))], wI (cy 1) (eg 2) 10 (gc 2), wI (cy 1) (ef 2) 7 (xc 2), wI (cy 1) (ef 3) 7 (xc 3), wI (cy 1) (eg 3) 10 (gc 3), wO q0 1 [.ref q1, .ref er, .ref q2, .ref q3, .ref q4, .ref h0, .int (nI ql), .int qo], wI (cy 1) h7 48 (fx), wO (ea 3) 2 [.ref (eg 3), .ref (ef 3), .int (et 3), .int (nI (((el 3)))), .int (nI (((ei 3))))]]) (rest := []) ⟨hx, hb, hml, hown, hg, hl.1⟩ k_X1_94 (s_isYesState l D cy h0 h1 h2 h3 h4 h5 h6 h7 h8 h9 h10 h11 hv1 hv2 hv3 hv4 ys (nI k_57)) E0_blind hK hP hD hS hA [15] [0, 1, 2, 3, 4, 5, 6, 7, 8, 9, 10, 11, 12, 13, 14, 16, 17] ⟨rfl, rfl, by decide +kernel, by decide +kernel, by decide +kernel⟩ rfl rfl (fun _ _ _ => trivial) dX1_pardonsWithLast_86 rfl rfl (Nat.le_of_ble_eq_true rfl) ⟨Nat.le_of_ble_eq_true rfl, Nat.le_of_ble_eq_true rfl⟩ ⟨Nat.le_of_ble_eq_true rfl, Nat.le_of_ble_eq_true rfl⟩ (fun zr60 zu60 H locs hw60 hP9 hD9 hS9 => ?_)
            clear hP hD hS
            refine reW [wI (cy 1) q2 24 (fph), wI (cy 1) h1 4 (fc), (er, .inl (cy 4, 4, .inr (.inr (.inr (.inr (eF (ea 0) (ea 1) (ea 2) (ea 3))))))), wO (ea 0) 2 [.ref (eg 0), .ref (ef 0), .int (et 0), .int (nI (el 0)), .int (nI (ei 0))], wI (cy 1) (eg 0) 10 (gc 0), wI (cy 1) (ef 0) 7 (xc 0), wO (ea 1) 2 [.ref (eg 1), .ref (ef 1), .int (et 1), .int (nI (el 1)), .int (nI (ei 1))], wI (cy 1) (eg 1) 10 (gc 1), wI (cy 1) (ef 1) 7 (xc 1), wO (ea 2) 2 [.ref (eg 2), .ref (ef 2), .int (et 2), .int (nI (el 2)), .int (nI (ei 2))], wI (cy 1) (eg 2) 10 (gc 2), wI (cy 1) (ef 2) 7 (xc 2), wI (cy 1) (ef 3) 7 (xc 3), wI (cy 1) (eg 3) 10 (gc 3), wO q0 1 [.ref q1, .ref er, .ref q2, .ref q3, .ref q4, .ref h0, .int (nI ql), .int qo], wI (cy 1) h7 48 (fx), wO (ea 3) 2 [.ref (eg 3), .ref (ef 3), .int (et 3), .int (nI (((el 3)))), .int (nI (((ei 3))))], wO h0 4 [.ref h1, .ref h2, .ref h3, .ref h4, .ref h5, .ref h6, .ref h7, .ref h8, .ref h9, .ref h10, .ref h11, .int ys, hv1, hv2, hv3, hv4]] hP9 hD9 hS9 (fun hP hD hS => ?_)
            clear hP9 hD9 hS9
            refine W.widen (k := 0) (n := 0) (Nat.le_of_ble_eq_true rfl) (Nat.le_of_ble_eq_true rfl) ?_
            replace hw60 : (zr60 = 0 ∨ zr60 = 1) := hw60
            have f_61 := hw60
            refine lv_if_ne (tgt := 94) hx hb dX1_pardonsWithLast_89 (by decide) (fun c_89 => ?_) (fun c_89 => ?_)
            · refine lv_iinc (v := 4) (lv' := [(3, .int 4), (6, .int zr54), (5, .ref (ea 3)), (4, .int (nI v_7)), (0, .ref q0), (1, .int (nI dp)), (2, .int (nI wd))]) hx hb dX1_pardonsWithLast_94 hl (k := 3) rfl (by decide) (by decide) rfl (fun ls hl => ?_)
              refine lv_goto (tgt := 2) hx hb dX1_pardonsWithLast_97 (by decide) ?_
              exact ih1  4 (by omega) (by omega) _ _ (hP.sub [14, 0, 17, 15, 1, 2, 3, 4, 5, 6, 7, 8, 9, 10, 11, 16, 13, 12] rfl) (hD.sub [14, 0, 17, 15, 1, 2, 3, 4, 5, 6, 7, 8, 9, 10, 11, 16, 13, 12] (by decide +kernel) rfl) hS ls (lv_sub hl [0, 4, 5, 6] rfl)
            · refine lv_iconst (v := 0) hx hb dX1_pardonsWithLast_92 (by decide) ?_
              exact x_zret hQ hx hb hr hlocks hK hP hD hS rfl dX1_pardonsWithLast_93 () ((Or.inl rfl)) [14, 0, 17, 15, 1, 2, 3, 4, 5, 6, 7, 8, 9, 10, 11, 16, 13, 12] (by decide +kernel) rfl (Nat.le_of_ble_eq_true rfl) (Nat.le_of_ble_eq_true rfl)
          · refine lv_iload hx hb dX1_pardonsWithLast_49 (lv_at hl 2 rfl) ?_
            refine lv_ldc (v := 262144) hx hb hown (hg _ m_1162) dX1_pardonsWithLast_51 ?_
            refine lv_iand hx hb dX1_pardonsWithLast_53 ?_
            refine lv_topi (fun x_62 ex_62 => ?_)
            refine lv_if_ne (tgt := 59) hx hb dX1_pardonsWithLast_54 (by decide) (fun c_54 => ?_) (fun c_54 => ?_)
            · refine lv_aload_n hx hb dX1_pardonsWithLast_59 rfl (lv_at hl 4 rfl) ?_
              refine va_get (D := D) (ci := 1) (v := .ref h0) (C := RX1) (T := TX1) (N := 8) hx hb hg i_X1 hown hK hP 0 rfl rfl 5 (by decide) (hg _ m_558) (fun _ h9 => h9) rfl dX1_pardonsWithLast_60 ?_
              refine lv_iload hx hb dX1_pardonsWithLast_63 (lv_at hl 0 rfl) ?_
              refine lv_if_eq (tgt := 80) hx hb dX1_pardonsWithLast_65 (by decide) (fun _ => ?_) (fun h => absurd c_46 h)
              refine lv_iload hx hb dX1_pardonsWithLast_80 (lv_at hl 2 rfl) ?_
              refine lv_iconst (v := 0) hx hb dX1_pardonsWithLast_82 (by decide) ?_
              refine x_callSi (wr := [wO q0 1 [.ref q1, .ref er, .ref q2, .ref q3, .ref q4, .ref h0, .int (nI ql), .int qo], wI (cy 1) q2 24 (fph), wO h0 4 [.ref h1, .ref h2, .ref h3, .ref h4, .ref h5, .ref h6, .ref h7, .ref h8, .ref h9, .ref h10, .ref h11, .int ys, hv1, hv2, hv3, hv4], wI (cy 1) h7 48 (fx), wI (cy 1) h1 4 (fc), (er, .inl (cy 4, 4, .inr (.inr (.inr (.inr (eF (ea 0) (ea 1) (ea 2) (ea 3))))))), wO (ea 0) 2 [.ref (eg 0), .ref (ef 0), .int (et 0), .int (nI (el 0)), .int (nI (ei 0))], wI (cy 1) (eg 0) 10 (gc 0), wI (cy 1) (ef 0) 7 (xc 0), wO (ea 1) 2 [.ref (eg 1), .ref (ef 1), .int (et 1), .int (nI (el 1)), .int (nI (ei 1))], wI (cy 1) (eg 1) 10 (gc 1), wI (cy 1) (ef 1) 7 (xc 1), wO (ea 2) 2 [.ref (eg 2), .ref (ef 2), .int (et 2), .int (nI (el 2)), .int (nI (ei 2))], wI (cy 1) (eg 2) 10 (gc 2), wI (cy 1) (ef 2) 7 (xc 2), wI (cy 1) (ef 3) 7 (xc 3), wO (ea 3) 2 [.ref (eg 3), .ref (ef 3), .int (et 3), .int (nI ((el 3))), .int (nI ((ei 3)))], wI (cy 1) (eg 3) 10 (gc 3)]) (rest := [.ref h0]) ⟨hx, hb, hml, hown, hg, hl.1⟩ k_X1_87 (s_stateOf l D cy v_7 0 (hv_7) (by omega)) E0_blind hK hP hD hS hA [] [0, 1, 2, 3, 4, 5, 6, 7, 8, 9, 10, 11, 12, 13, 14, 15, 16, 17] ⟨rfl, rfl, by decide +kernel, by decide +kernel, by decide +kernel⟩ (fun _ _ _ => trivial) dX1_pardonsWithLast_83 rfl rfl (Nat.le_of_ble_eq_true rfl) ⟨Nat.le_of_ble_eq_true rfl, Nat.le_of_ble_eq_true rfl⟩ ⟨Nat.le_of_ble_eq_true rfl, Nat.le_of_ble_eq_true rfl⟩ (fun zr63 zu63 H locs hw63 hP9 hD9 hS9 => ?_)
              clear hP hD hS
              obtain ⟨k_64, rfl⟩ : ∃ z, z = zu63 := ⟨_, rfl⟩
              refine reW [wO q0 1 [.ref q1, .ref er, .ref q2, .ref q3, .ref q4, .ref h0, .int (nI ql), .int qo], wI (cy 1) q2 24 (fph), wO h0 4 [.ref h1, .ref h2, .ref h3, .ref h4, .ref h5, .ref h6, .ref h7, .ref h8, .ref h9, .ref h10, .ref h11, .int ys, hv1, hv2, hv3, hv4], wI (cy 1) h7 48 (fx), wI (cy 1) h1 4 (fc), (er, .inl (cy 4, 4, .inr (.inr (.inr (.inr (eF (ea 0) (ea 1) (ea 2) (ea 3))))))), wO (ea 0) 2 [.ref (eg 0), .ref (ef 0), .int (et 0), .int (nI (el 0)), .int (nI (ei 0))], wI (cy 1) (eg 0) 10 (gc 0), wI (cy 1) (ef 0) 7 (xc 0), wO (ea 1) 2 [.ref (eg 1), .ref (ef 1), .int (et 1), .int (nI (el 1)), .int (nI (ei 1))], wI (cy 1) (eg 1) 10 (gc 1), wI (cy 1) (ef 1) 7 (xc 1), wO (ea 2) 2 [.ref (eg 2), .ref (ef 2), .int (et 2), .int (nI (el 2)), .int (nI (ei 2))], wI (cy 1) (eg 2) 10 (gc 2), wI (cy 1) (ef 2) 7 (xc 2), wI (cy 1) (ef 3) 7 (xc 3), wO (ea 3) 2 [.ref (eg 3), .ref (ef 3), .int (et 3), .int (nI ((el 3))), .int (nI ((ei 3)))], wI (cy 1) (eg 3) 10 (gc 3)] hP9 hD9 hS9 (fun hP hD hS => ?_)
              clear hP9 hD9 hS9
              refine W.widen (k := 0) (n := 0) (Nat.le_of_ble_eq_true rfl) (Nat.le_of_ble_eq_true rfl) ?_
              replace hw63 : (zr63 = nI k_64) ∧ (k_64 ≤ 5) := hw63
              obtain ⟨f_65, f_66⟩ := hw63
              subst f_65
              refine x_callVi (q := (RX4, TX4, 16)) (ci := 4) (q0 := 0) (wr := [wO q0 1 [.ref q1, .ref er, .ref q2, .ref q3, .ref q4, .ref h0, .int (nI ql), .int qo], wI (cy 1) q2 24 (fph), wI (cy 1) h7 48 (fx), wI (cy 1) h1 4 (fc), (er, .inl (cy 4, 4, .inr (.inr (.inr (.inr (eF (ea 0) (ea 1) (ea 2) (ea 3))))))), wO (ea 0) 2 [.ref (eg 0), .ref (ef 0), .int (et 0), .int (nI (el 0)), .int (nI (ei 0))], wI (cy 1) (eg 0) 10 (gc 0), wI (cy 1) (ef 0) 7 (xc 0), wO (ea 1) 2 [.ref (eg 1), .ref (ef 1), .int (et 1), .int (nI (el 1)), .int (nI (ei 1))], wI (cy 1) (eg 1) 10 (gc 1), wI (cy 1) (ef 1) 7 (xc 1), wO (ea 2) 2 [.ref (eg 2), .ref (ef 2), .int (et 2), .int (nI (el 2)), .int (nI (ei 2))], wI (cy 1) (eg 2) 10 (gc 2), wI (cy 1) (ef 2) 7 (xc 2), wI (cy 1) (ef 3) 7 (xc 3), wO (ea 3) 2 [.ref (eg 3), .ref (ef 3), .int (et 3), .int (nI ((el 3))), .int (nI ((ei 3)))], wI (cy 1) (eg 3) 10 (gc 3)]) (rest := []) ⟨hx, hb, hml, hown, hg, hl.1⟩ k_X1_94 (s_isYesState l D cy h0 h1 h2 h3 h4 h5 h6 h7 h8 h9 h10 h11 hv1 hv2 hv3 hv4 ys (nI k_64)) E0_blind hK hP hD hS hA [2] [0, 1, 3, 4, 5, 6, 7, 8, 9, 10, 11, 12, 13, 14, 15, 16, 17] ⟨rfl, rfl, by decide +kernel, by decide +kernel, by decide +kernel⟩ rfl rfl (fun _ _ _ => trivial) dX1_pardonsWithLast_86 rfl rfl (Nat.le_of_ble_eq_true rfl) ⟨Nat.le_of_ble_eq_true rfl, Nat.le_of_ble_eq_true rfl⟩ ⟨Nat.le_of_ble_eq_true rfl, Nat.le_of_ble_eq_true rfl⟩ (fun zr67 zu67 H locs hw67 hP9 hD9 hS9 => ?_)
              clear hP hD hS
              refine reW [wO q0 1 [.ref q1, .ref er, .ref q2, .ref q3, .ref q4, .ref h0, .int (nI ql), .int qo], wI (cy 1) q2 24 (fph), wI (cy 1) h7 48 (fx), wI (cy 1) h1 4 (fc), (er, .inl (cy 4, 4, .inr (.inr (.inr (.inr (eF (ea 0) (ea 1) (ea 2) (ea 3))))))), wO (ea 0) 2 [.ref (eg 0), .ref (ef 0), .int (et 0), .int (nI (el 0)), .int (nI (ei 0))], wI (cy 1) (eg 0) 10 (gc 0), wI (cy 1) (ef 0) 7 (xc 0), wO (ea 1) 2 [.ref (eg 1), .ref (ef 1), .int (et 1), .int (nI (el 1)), .int (nI (ei 1))], wI (cy 1) (eg 1) 10 (gc 1), wI (cy 1) (ef 1) 7 (xc 1), wO (ea 2) 2 [.ref (eg 2), .ref (ef 2), .int (et 2), .int (nI (el 2)), .int (nI (ei 2))], wI (cy 1) (eg 2) 10 (gc 2), wI (cy 1) (ef 2) 7 (xc 2), wI (cy 1) (ef 3) 7 (xc 3), wO (ea 3) 2 [.ref (eg 3), .ref (ef 3), .int (et 3), .int (nI ((el 3))), .int (nI ((ei 3)))], wI (cy 1) (eg 3) 10 (gc 3), wO h0 4 [.ref h1, .ref h2, .ref h3, .ref h4, .ref h5, .ref h6, .ref h7, .ref h8, .ref h9, .ref h10, .ref h11, .int ys, hv1, hv2, hv3, hv4]] hP9 hD9 hS9 (fun hP hD hS => ?_)
              clear hP9 hD9 hS9
              refine W.widen (k := 0) (n := 0) (Nat.le_of_ble_eq_true rfl) (Nat.le_of_ble_eq_true rfl) ?_
              replace hw67 : (zr67 = 0 ∨ zr67 = 1) := hw67
              have f_68 := hw67
              refine lv_if_ne (tgt := 94) hx hb dX1_pardonsWithLast_89 (by decide) (fun c_89 => ?_) (fun c_89 => ?_)
              · refine lv_iinc (v := 4) (lv' := [(3, .int 4), (6, .int zr54), (5, .ref (ea 3)), (4, .int (nI v_7)), (0, .ref q0), (1, .int (nI dp)), (2, .int (nI wd))]) hx hb dX1_pardonsWithLast_94 hl (k := 3) rfl (by decide) (by decide) rfl (fun ls hl => ?_)
                refine lv_goto (tgt := 2) hx hb dX1_pardonsWithLast_97 (by decide) ?_
                exact ih1  4 (by omega) (by omega) _ _ (hP.sub [0, 1, 17, 2, 3, 4, 5, 6, 7, 8, 9, 10, 11, 12, 13, 15, 16, 14] rfl) (hD.sub [0, 1, 17, 2, 3, 4, 5, 6, 7, 8, 9, 10, 11, 12, 13, 15, 16, 14] (by decide +kernel) rfl) hS ls (lv_sub hl [0, 4, 5, 6] rfl)
              · refine lv_iconst (v := 0) hx hb dX1_pardonsWithLast_92 (by decide) ?_
                exact x_zret hQ hx hb hr hlocks hK hP hD hS rfl dX1_pardonsWithLast_93 () ((Or.inl rfl)) [0, 1, 17, 2, 3, 4, 5, 6, 7, 8, 9, 10, 11, 12, 13, 15, 16, 14] (by decide +kernel) rfl (Nat.le_of_ble_eq_true rfl) (Nat.le_of_ble_eq_true rfl)
            · refine lv_iconst (v := 0) hx hb dX1_pardonsWithLast_57 (by decide) ?_
              exact x_zret hQ hx hb hr hlocks hK hP hD hS rfl dX1_pardonsWithLast_58 () ((Or.inl rfl)) [0, 1, 2, 3, 4, 5, 6, 7, 8, 9, 10, 11, 12, 13, 14, 16, 17, 15] (by decide +kernel) rfl (Nat.le_of_ble_eq_true rfl) (Nat.le_of_ble_eq_true rfl)
  exact loop1 _ 0 (by omega) (Nat.le_refl _) _ _ (hP.sub [0, 1, 2, 3, 4, 5, 6, 7, 8, 9, 10, 11, 12, 13, 14, 15, 16, 17] rfl) (hD.sub [0, 1, 2, 3, 4, 5, 6, 7, 8, 9, 10, 11, 12, 13, 14, 15, 16, 17] (by decide +kernel) rfl) hS ls (lv_sub hl [0, 1, 2, 3] rfl)
theorem gdX1_countFrom_0 : decode cX1_countFrom 0 = .ok (.iconst 0, 1) ∧ decode cX1_countFrom 1 = .ok (.istore_n 2, 1) ∧ decode cX1_countFrom 2 = .ok (.iload_n 1, 1) ∧ decode cX1_countFrom 3 = .ok (.aload_n 0, 1) ∧ decode cX1_countFrom 4 = .ok (.getfield 35, 3) ∧ decode cX1_countFrom 7 = .ok (.if_icmp .ge 8, 3) ∧ decode cX1_countFrom 15 = .ok (.iload_n 2, 1) ∧ decode cX1_countFrom 16 = .ok (.ireturn, 1) ∧ decode cX1_countFrom 10 = .ok (.iload_n 1, 1) ∧ decode cX1_countFrom 11 = .ok (.iconst 5, 1) ∧ decode cX1_countFrom 12 = .ok (.if_icmp .lt 5, 3) := by decide +kernel
theorem dX1_countFrom_0 : decode cX1_countFrom 0 = .ok (.iconst 0, 1) := gdX1_countFrom_0.1
theorem dX1_countFrom_1 : decode cX1_countFrom 1 = .ok (.istore_n 2, 1) := gdX1_countFrom_0.2.1
theorem dX1_countFrom_2 : decode cX1_countFrom 2 = .ok (.iload_n 1, 1) := gdX1_countFrom_0.2.2.1
theorem dX1_countFrom_3 : decode cX1_countFrom 3 = .ok (.aload_n 0, 1) := gdX1_countFrom_0.2.2.2.1
theorem dX1_countFrom_4 : decode cX1_countFrom 4 = .ok (.getfield 35, 3) := gdX1_countFrom_0.2.2.2.2.1
theorem dX1_countFrom_7 : decode cX1_countFrom 7 = .ok (.if_icmp .ge 8, 3) := gdX1_countFrom_0.2.2.2.2.2.1
theorem dX1_countFrom_15 : decode cX1_countFrom 15 = .ok (.iload_n 2, 1) := gdX1_countFrom_0.2.2.2.2.2.2.1
theorem dX1_countFrom_16 : decode cX1_countFrom 16 = .ok (.ireturn, 1) := gdX1_countFrom_0.2.2.2.2.2.2.2.1
theorem dX1_countFrom_10 : decode cX1_countFrom 10 = .ok (.iload_n 1, 1) := gdX1_countFrom_0.2.2.2.2.2.2.2.2.1
theorem dX1_countFrom_11 : decode cX1_countFrom 11 = .ok (.iconst 5, 1) := gdX1_countFrom_0.2.2.2.2.2.2.2.2.2.1
theorem dX1_countFrom_12 : decode cX1_countFrom 12 = .ok (.if_icmp .lt 5, 3) := gdX1_countFrom_0.2.2.2.2.2.2.2.2.2.2
set_option maxHeartbeats 1000000 in
set_option maxRecDepth 100000 in
theorem s_countFrom5 (l : Launch) (D : va_G) (cy : Nat → ClassId) (q0 : Nat) (q1 : Nat) (q2 : Nat) (q3 : Nat) (q4 : Nat) (er : Nat) (ql : Nat) (qo : Int32) (fph : Nat → Int32) (fy : Nat → Int32) (h0 : Nat) (h1 : Nat) (h2 : Nat) (h3 : Nat) (h4 : Nat) (h5 : Nat) (h6 : Nat) (h7 : Nat) (h8 : Nat) (h9 : Nat) (h10 : Nat) (h11 : Nat) (hv1 : Value) (hv2 : Value) (hv3 : Value) (hv4 : Value) (ys : Int32) (fx : Nat → Int32) (fc : Nat → Int32) (c0 : Nat) (c1 : Nat) (c2 : Nat) (c3 : Nat) (ea : Nat → Nat) (eg : Nat → Nat) (ef : Nat → Nat) (et : Nat → Int32) (el : Nat → Nat) (ei : Nat → Nat) (gc : Nat → Nat → Int32) (xc : Nat → Nat → Int32) (hph : pRow fph) (hnx : rng fx 48 5) (hcn : cntOK fc c0 c1 c2 c3) (hc0 : c0 ≤ 8) (hc1 : c1 ≤ 4) (hc2 : c2 ≤ 4) (hc3 : c3 ≤ 6) (hql : ql ≤ 5) : XMi l D (tyL cy) E0 yX1_countFrom cX1_countFrom 4 (some .int) (rmk 5 0 0) [.ref q0, .int 5] [wO q0 1 [.ref q1, .ref er, .ref q2, .ref q3, .ref q4, .ref h0, .int (nI ql), .int qo], wI (cy 1) q2 24 (fph), wI (cy 1) q1 5 (fy), wO h0 4 [.ref h1, .ref h2, .ref h3, .ref h4, .ref h5, .ref h6, .ref h7, .ref h8, .ref h9, .ref h10, .ref h11, .int ys, hv1, hv2, hv3, hv4], wI (cy 1) h7 48 (fx), wI (cy 1) h1 4 (fc), (er, .inl (cy 4, 4, .inr (.inr (.inr (.inr (eF (ea 0) (ea 1) (ea 2) (ea 3))))))), wO (ea 0) 2 [.ref (eg 0), .ref (ef 0), .int (et 0), .int (nI (el 0)), .int (nI (ei 0))], wI (cy 1) (eg 0) 10 (gc 0), wI (cy 1) (ef 0) 7 (xc 0), wO (ea 1) 2 [.ref (eg 1), .ref (ef 1), .int (et 1), .int (nI (el 1)), .int (nI (ei 1))], wI (cy 1) (eg 1) 10 (gc 1), wI (cy 1) (ef 1) 7 (xc 1), wO (ea 2) 2 [.ref (eg 2), .ref (ef 2), .int (et 2), .int (nI (el 2)), .int (nI (ei 2))], wI (cy 1) (eg 2) 10 (gc 2), wI (cy 1) (ef 2) 7 (xc 2), wO (ea 3) 2 [.ref (eg 3), .ref (ef 3), .int (et 3), .int (nI (el 3)), .int (nI (ei 3))], wI (cy 1) (eg 3) 10 (gc 3), wI (cy 1) (ef 3) 7 (xc 3)] (fun (r : Int32) (u : (Nat → Int32) × (Nat → Int32)) => (pRow u.1)) (fun (u : (Nat → Int32) × (Nat → Int32)) => [wO q0 1 [.ref q1, .ref er, .ref q2, .ref q3, .ref q4, .ref h0, .int (nI ql), .int qo], wI (cy 1) q2 24 (u.1), wI (cy 1) q1 5 (u.2), wO h0 4 [.ref h1, .ref h2, .ref h3, .ref h4, .ref h5, .ref h6, .ref h7, .ref h8, .ref h9, .ref h10, .ref h11, .int ys, hv1, hv2, hv3, hv4], wI (cy 1) h7 48 (fx), wI (cy 1) h1 4 (fc), (er, .inl (cy 4, 4, .inr (.inr (.inr (.inr (eF (ea 0) (ea 1) (ea 2) (ea 3))))))), wO (ea 0) 2 [.ref (eg 0), .ref (ef 0), .int (et 0), .int (nI (el 0)), .int (nI (ei 0))], wI (cy 1) (eg 0) 10 (gc 0), wI (cy 1) (ef 0) 7 (xc 0), wO (ea 1) 2 [.ref (eg 1), .ref (ef 1), .int (et 1), .int (nI (el 1)), .int (nI (ei 1))], wI (cy 1) (eg 1) 10 (gc 1), wI (cy 1) (ef 1) 7 (xc 1), wO (ea 2) 2 [.ref (eg 2), .ref (ef 2), .int (et 2), .int (nI (el 2)), .int (nI (ei 2))], wI (cy 1) (eg 2) 10 (gc 2), wI (cy 1) (ef 2) 7 (xc 2), wO (ea 3) 2 [.ref (eg 3), .ref (ef 3), .int (et 3), .int (nI (el 3)), .int (nI (ei 3))], wI (cy 1) (eg 3) 10 (gc 3), wI (cy 1) (ef 3) 7 (xc 3)]) := by
  refine XMi.start (by decide) (Nat.le_of_ble_eq_true rfl) ?_
  intro p e s m below meth c args A ls Q hat hQ
  obtain ⟨hx, hb, hr, hml, hown, hg, hlocks, hin, hK, hA, hP, hD, hS, hE, hl⟩ := hat
  have hown : s.vm.findClass RX1 = some m.cls := hown
  have hl : lv_has ls 4 [(0, .ref q0), (1, .int 5)] := hl
  refine lv_iconst (v := 0) hx hb dX1_countFrom_0 (by decide) ?_
  refine lv_istore_n (lv' := [(2, .int 0), (0, .ref q0), (1, .int 5)]) hx hb dX1_countFrom_1 rfl hl (by decide) rfl (fun ls hl => ?_)
  refine lv_iload_n hx hb dX1_countFrom_2 rfl (lv_at hl 2 rfl) ?_
  refine lv_aload_n hx hb dX1_countFrom_3 rfl (lv_at hl 1 rfl) ?_
  refine va_get (D := D) (ci := 1) (v := .int (nI ql)) (C := RX1) (T := TX1) (N := 8) hx hb hg i_X1 hown hK hP 0 rfl rfl 6 (by decide) (hg _ m_559) (fun _ h9 => h9) rfl dX1_countFrom_4 ?_
  refine lv_icmp_ge (tgt := 15) hx hb dX1_countFrom_7 (by decide) (fun c_1 => ?_) (fun c_1 => ?_)
  · have q_2 : ql ≤ 5 := q_le (a := ql) (b := 5) rfl rfl (by omega) (by omega) c_1
    refine lv_iload_n hx hb dX1_countFrom_15 rfl (lv_at hl 0 rfl) ?_
    exact x_iret hQ hx hb hr hlocks hK hP hD hS dX1_countFrom_16 (fph, fy) (hph) [0, 1, 2, 3, 4, 5, 6, 7, 8, 9, 10, 11, 12, 13, 14, 15, 16, 17, 18] (by decide +kernel) rfl (Nat.le_of_ble_eq_true rfl) (Nat.le_of_ble_eq_true rfl)
  · have q_2 : 5 < ql := q_nle (a := ql) (b := 5) rfl rfl (by omega) (by omega) c_1
    refine lv_iload_n hx hb dX1_countFrom_10 rfl (lv_at hl 2 rfl) ?_
    refine lv_iconst (v := 5) hx hb dX1_countFrom_11 (by decide) ?_
    refine lv_icmp_lt (tgt := 17) hx hb dX1_countFrom_12 (by decide) (fun h => absurd h (by decide)) (fun _ => ?_)
    refine lv_iload_n hx hb dX1_countFrom_15 rfl (lv_at hl 0 rfl) ?_
    exact x_iret hQ hx hb hr hlocks hK hP hD hS dX1_countFrom_16 (fph, fy) (hph) [0, 1, 2, 3, 4, 5, 6, 7, 8, 9, 10, 11, 12, 13, 14, 15, 16, 17, 18] (by decide +kernel) rfl (Nat.le_of_ble_eq_true rfl) (Nat.le_of_ble_eq_true rfl)
theorem gdX1_countFrom_17 : decode cX1_countFrom 17 = .ok (.iconst 0, 1) ∧ decode cX1_countFrom 18 = .ok (.istore_n 3, 1) ∧ decode cX1_countFrom 19 = .ok (.iload_n 3, 1) ∧ decode cX1_countFrom 20 = .ok (.aload_n 0, 1) ∧ decode cX1_countFrom 21 = .ok (.getfield 31, 3) ∧ decode cX1_countFrom 24 = .ok (.getfield 43, 3) ∧ decode cX1_countFrom 27 = .ok (.iconst 0, 1) ∧ decode cX1_countFrom 28 = .ok (.iaload, 1) ∧ decode cX1_countFrom 29 = .ok (.if_icmp .ge 75, 3) ∧ decode cX1_countFrom 104 = .ok (.iload_n 2, 1) ∧ decode cX1_countFrom 105 = .ok (.ireturn, 1) ∧ decode cX1_countFrom 32 = .ok (.aload_n 0, 1) := by decide +kernel
theorem dX1_countFrom_17 : decode cX1_countFrom 17 = .ok (.iconst 0, 1) := gdX1_countFrom_17.1
theorem dX1_countFrom_18 : decode cX1_countFrom 18 = .ok (.istore_n 3, 1) := gdX1_countFrom_17.2.1
theorem dX1_countFrom_19 : decode cX1_countFrom 19 = .ok (.iload_n 3, 1) := gdX1_countFrom_17.2.2.1
theorem dX1_countFrom_20 : decode cX1_countFrom 20 = .ok (.aload_n 0, 1) := gdX1_countFrom_17.2.2.2.1
theorem dX1_countFrom_21 : decode cX1_countFrom 21 = .ok (.getfield 31, 3) := gdX1_countFrom_17.2.2.2.2.1
theorem dX1_countFrom_24 : decode cX1_countFrom 24 = .ok (.getfield 43, 3) := gdX1_countFrom_17.2.2.2.2.2.1
theorem dX1_countFrom_27 : decode cX1_countFrom 27 = .ok (.iconst 0, 1) := gdX1_countFrom_17.2.2.2.2.2.2.1
theorem dX1_countFrom_28 : decode cX1_countFrom 28 = .ok (.iaload, 1) := gdX1_countFrom_17.2.2.2.2.2.2.2.1
theorem dX1_countFrom_29 : decode cX1_countFrom 29 = .ok (.if_icmp .ge 75, 3) := gdX1_countFrom_17.2.2.2.2.2.2.2.2.1
theorem dX1_countFrom_104 : decode cX1_countFrom 104 = .ok (.iload_n 2, 1) := gdX1_countFrom_17.2.2.2.2.2.2.2.2.2.1
theorem dX1_countFrom_105 : decode cX1_countFrom 105 = .ok (.ireturn, 1) := gdX1_countFrom_17.2.2.2.2.2.2.2.2.2.2.1
theorem dX1_countFrom_32 : decode cX1_countFrom 32 = .ok (.aload_n 0, 1) := gdX1_countFrom_17.2.2.2.2.2.2.2.2.2.2.2
theorem gdX1_countFrom_33 : decode cX1_countFrom 33 = .ok (.getfield 11, 3) ∧ decode cX1_countFrom 36 = .ok (.iload_n 1, 1) ∧ decode cX1_countFrom 37 = .ok (.iload_n 3, 1) ∧ decode cX1_countFrom 38 = .ok (.iastore, 1) ∧ decode cX1_countFrom 39 = .ok (.iload_n 1, 1) ∧ decode cX1_countFrom 40 = .ok (.aload_n 0, 1) ∧ decode cX1_countFrom 41 = .ok (.getfield 35, 3) ∧ decode cX1_countFrom 44 = .ok (.iconst 1, 1) ∧ decode cX1_countFrom 45 = .ok (.isub, 1) ∧ decode cX1_countFrom 46 = .ok (.if_icmp .ne 23, 3) ∧ decode cX1_countFrom 69 = .ok (.aload_n 0, 1) ∧ decode cX1_countFrom 70 = .ok (.iload_n 1, 1) := by decide +kernel
theorem dX1_countFrom_33 : decode cX1_countFrom 33 = .ok (.getfield 11, 3) := gdX1_countFrom_33.1
theorem dX1_countFrom_36 : decode cX1_countFrom 36 = .ok (.iload_n 1, 1) := gdX1_countFrom_33.2.1
theorem dX1_countFrom_37 : decode cX1_countFrom 37 = .ok (.iload_n 3, 1) := gdX1_countFrom_33.2.2.1
theorem dX1_countFrom_38 : decode cX1_countFrom 38 = .ok (.iastore, 1) := gdX1_countFrom_33.2.2.2.1
theorem dX1_countFrom_39 : decode cX1_countFrom 39 = .ok (.iload_n 1, 1) := gdX1_countFrom_33.2.2.2.2.1
theorem dX1_countFrom_40 : decode cX1_countFrom 40 = .ok (.aload_n 0, 1) := gdX1_countFrom_33.2.2.2.2.2.1
theorem dX1_countFrom_41 : decode cX1_countFrom 41 = .ok (.getfield 35, 3) := gdX1_countFrom_33.2.2.2.2.2.2.1
theorem dX1_countFrom_44 : decode cX1_countFrom 44 = .ok (.iconst 1, 1) := gdX1_countFrom_33.2.2.2.2.2.2.2.1
theorem dX1_countFrom_45 : decode cX1_countFrom 45 = .ok (.isub, 1) := gdX1_countFrom_33.2.2.2.2.2.2.2.2.1
theorem dX1_countFrom_46 : decode cX1_countFrom 46 = .ok (.if_icmp .ne 23, 3) := gdX1_countFrom_33.2.2.2.2.2.2.2.2.2.1
theorem dX1_countFrom_69 : decode cX1_countFrom 69 = .ok (.aload_n 0, 1) := gdX1_countFrom_33.2.2.2.2.2.2.2.2.2.2.1
theorem dX1_countFrom_70 : decode cX1_countFrom 70 = .ok (.iload_n 1, 1) := gdX1_countFrom_33.2.2.2.2.2.2.2.2.2.2.2
theorem dX1_countFrom_71 : decode cX1_countFrom 71 = .ok (.iload_n 3, 1) := by decide +kernel
theorem dX1_countFrom_72 : decode cX1_countFrom 72 = .ok (.invokevirtual 66, 3) := by decide +kernel
theorem k_X1_66 : xV RX1 RX1 66 yX1_goOn cX1_goOn 6 none 2 := ⟨⟨m_1175, m_1177, m_42, m_143, m_1178⟩, rfl, by decide, by decide, by decide +kernel⟩
theorem gdX1_countFrom_75 : decode cX1_countFrom 75 = .ok (.iload_n 2, 1) ∧ decode cX1_countFrom 76 = .ok (.aload_n 0, 1) ∧ decode cX1_countFrom 77 = .ok (.iload_n 1, 1) ∧ decode cX1_countFrom 78 = .ok (.iconst 1, 1) ∧ decode cX1_countFrom 79 = .ok (.iadd, 1) ∧ decode cX1_countFrom 80 = .ok (.invokevirtual 58, 3) := by decide +kernel
theorem dX1_countFrom_75 : decode cX1_countFrom 75 = .ok (.iload_n 2, 1) := gdX1_countFrom_75.1
theorem dX1_countFrom_76 : decode cX1_countFrom 76 = .ok (.aload_n 0, 1) := gdX1_countFrom_75.2.1
theorem dX1_countFrom_77 : decode cX1_countFrom 77 = .ok (.iload_n 1, 1) := gdX1_countFrom_75.2.2.1
theorem dX1_countFrom_78 : decode cX1_countFrom 78 = .ok (.iconst 1, 1) := gdX1_countFrom_75.2.2.2.1
theorem dX1_countFrom_79 : decode cX1_countFrom 79 = .ok (.iadd, 1) := gdX1_countFrom_75.2.2.2.2.1
theorem dX1_countFrom_80 : decode cX1_countFrom 80 = .ok (.invokevirtual 58, 3) := gdX1_countFrom_75.2.2.2.2.2
theorem k_X1_58 : xV RX1 RX1 58 yX1_countFrom cX1_countFrom 4 (some .int) 1 := ⟨⟨m_1153, m_1155, m_38, m_143, m_1156⟩, rfl, by decide, by decide, by decide +kernel⟩
theorem gdX1_countFrom_83 : decode cX1_countFrom 83 = .ok (.iadd, 1) ∧ decode cX1_countFrom 84 = .ok (.istore_n 2, 1) ∧ decode cX1_countFrom 85 = .ok (.aload_n 0, 1) ∧ decode cX1_countFrom 86 = .ok (.getfield 39, 3) ∧ decode cX1_countFrom 89 = .ok (.ifCond .eq 9, 3) ∧ decode cX1_countFrom 98 = .ok (.iinc 3 1, 3) ∧ decode cX1_countFrom 101 = .ok (.goto (-82), 3) ∧ decode cX1_countFrom 92 = .ok (.iload_n 2, 1) ∧ decode cX1_countFrom 93 = .ok (.ifCond .le 5, 3) ∧ decode cX1_countFrom 96 = .ok (.iload_n 2, 1) ∧ decode cX1_countFrom 97 = .ok (.ireturn, 1) ∧ decode cX1_countFrom 49 = .ok (.iload_n 2, 1) := by decide +kernel
theorem dX1_countFrom_83 : decode cX1_countFrom 83 = .ok (.iadd, 1) := gdX1_countFrom_83.1
theorem dX1_countFrom_84 : decode cX1_countFrom 84 = .ok (.istore_n 2, 1) := gdX1_countFrom_83.2.1
theorem dX1_countFrom_85 : decode cX1_countFrom 85 = .ok (.aload_n 0, 1) := gdX1_countFrom_83.2.2.1
theorem dX1_countFrom_86 : decode cX1_countFrom 86 = .ok (.getfield 39, 3) := gdX1_countFrom_83.2.2.2.1
theorem dX1_countFrom_89 : decode cX1_countFrom 89 = .ok (.ifCond .eq 9, 3) := gdX1_countFrom_83.2.2.2.2.1
theorem dX1_countFrom_98 : decode cX1_countFrom 98 = .ok (.iinc 3 1, 3) := gdX1_countFrom_83.2.2.2.2.2.1
theorem dX1_countFrom_101 : decode cX1_countFrom 101 = .ok (.goto (-82), 3) := gdX1_countFrom_83.2.2.2.2.2.2.1
theorem dX1_countFrom_92 : decode cX1_countFrom 92 = .ok (.iload_n 2, 1) := gdX1_countFrom_83.2.2.2.2.2.2.2.1
theorem dX1_countFrom_93 : decode cX1_countFrom 93 = .ok (.ifCond .le 5, 3) := gdX1_countFrom_83.2.2.2.2.2.2.2.2.1
theorem dX1_countFrom_96 : decode cX1_countFrom 96 = .ok (.iload_n 2, 1) := gdX1_countFrom_83.2.2.2.2.2.2.2.2.2.1
theorem dX1_countFrom_97 : decode cX1_countFrom 97 = .ok (.ireturn, 1) := gdX1_countFrom_83.2.2.2.2.2.2.2.2.2.2.1
theorem dX1_countFrom_49 : decode cX1_countFrom 49 = .ok (.iload_n 2, 1) := gdX1_countFrom_83.2.2.2.2.2.2.2.2.2.2.2
theorem gdX1_countFrom_50 : decode cX1_countFrom 50 = .ok (.aload_n 0, 1) ∧ decode cX1_countFrom 51 = .ok (.iload_n 1, 1) ∧ decode cX1_countFrom 52 = .ok (.iload_n 3, 1) ∧ decode cX1_countFrom 53 = .ok (.invokevirtual 62, 3) := by decide +kernel
theorem dX1_countFrom_50 : decode cX1_countFrom 50 = .ok (.aload_n 0, 1) := gdX1_countFrom_50.1
theorem dX1_countFrom_51 : decode cX1_countFrom 51 = .ok (.iload_n 1, 1) := gdX1_countFrom_50.2.1
theorem dX1_countFrom_52 : decode cX1_countFrom 52 = .ok (.iload_n 3, 1) := gdX1_countFrom_50.2.2.1
theorem dX1_countFrom_53 : decode cX1_countFrom 53 = .ok (.invokevirtual 62, 3) := gdX1_countFrom_50.2.2.2
theorem k_X1_62 : xV RX1 RX1 62 yX1_pardonsWithLast cX1_pardonsWithLast 7 (some .boolean) 2 := ⟨⟨m_1157, m_1159, m_39, m_143, m_1160⟩, rfl, by decide, by decide, by decide +kernel⟩
theorem gdX1_countFrom_56 : decode cX1_countFrom 56 = .ok (.ifCond .eq 7, 3) ∧ decode cX1_countFrom 63 = .ok (.iconst 0, 1) ∧ decode cX1_countFrom 64 = .ok (.iadd, 1) ∧ decode cX1_countFrom 65 = .ok (.istore_n 2, 1) ∧ decode cX1_countFrom 66 = .ok (.goto 19, 3) ∧ decode cX1_countFrom 59 = .ok (.iconst 1, 1) ∧ decode cX1_countFrom 60 = .ok (.goto 4, 3) := by decide +kernel
theorem dX1_countFrom_56 : decode cX1_countFrom 56 = .ok (.ifCond .eq 7, 3) := gdX1_countFrom_56.1
theorem dX1_countFrom_63 : decode cX1_countFrom 63 = .ok (.iconst 0, 1) := gdX1_countFrom_56.2.1
theorem dX1_countFrom_64 : decode cX1_countFrom 64 = .ok (.iadd, 1) := gdX1_countFrom_56.2.2.1
theorem dX1_countFrom_65 : decode cX1_countFrom 65 = .ok (.istore_n 2, 1) := gdX1_countFrom_56.2.2.2.1
theorem dX1_countFrom_66 : decode cX1_countFrom 66 = .ok (.goto 19, 3) := gdX1_countFrom_56.2.2.2.2.1
theorem dX1_countFrom_59 : decode cX1_countFrom 59 = .ok (.iconst 1, 1) := gdX1_countFrom_56.2.2.2.2.2.1
theorem dX1_countFrom_60 : decode cX1_countFrom 60 = .ok (.goto 4, 3) := gdX1_countFrom_56.2.2.2.2.2.2
set_option maxHeartbeats 1000000 in
set_option maxRecDepth 100000 in
theorem s_countFrom4 (l : Launch) (D : va_G) (cy : Nat → ClassId) (q0 : Nat) (q1 : Nat) (q2 : Nat) (q3 : Nat) (q4 : Nat) (er : Nat) (ql : Nat) (qo : Int32) (fph : Nat → Int32) (fy : Nat → Int32) (h0 : Nat) (h1 : Nat) (h2 : Nat) (h3 : Nat) (h4 : Nat) (h5 : Nat) (h6 : Nat) (h7 : Nat) (h8 : Nat) (h9 : Nat) (h10 : Nat) (h11 : Nat) (hv1 : Value) (hv2 : Value) (hv3 : Value) (hv4 : Value) (ys : Int32) (fx : Nat → Int32) (fc : Nat → Int32) (c0 : Nat) (c1 : Nat) (c2 : Nat) (c3 : Nat) (ea : Nat → Nat) (eg : Nat → Nat) (ef : Nat → Nat) (et : Nat → Int32) (el : Nat → Nat) (ei : Nat → Nat) (gc : Nat → Nat → Int32) (xc : Nat → Nat → Int32) (hph : pRow fph) (hnx : rng fx 48 5) (hcn : cntOK fc c0 c1 c2 c3) (hc0 : c0 ≤ 8) (hc1 : c1 ≤ 4) (hc2 : c2 ≤ 4) (hc3 : c3 ≤ 6) (hql : ql ≤ 5) : XMi l D (tyL cy) E0 yX1_countFrom cX1_countFrom 4 (some .int) (rmk 6 0 0) [.ref q0, .int 4] [wO q0 1 [.ref q1, .ref er, .ref q2, .ref q3, .ref q4, .ref h0, .int (nI ql), .int qo], wI (cy 1) q2 24 (fph), wI (cy 1) q1 5 (fy), wO h0 4 [.ref h1, .ref h2, .ref h3, .ref h4, .ref h5, .ref h6, .ref h7, .ref h8, .ref h9, .ref h10, .ref h11, .int ys, hv1, hv2, hv3, hv4], wI (cy 1) h7 48 (fx), wI (cy 1) h1 4 (fc), (er, .inl (cy 4, 4, .inr (.inr (.inr (.inr (eF (ea 0) (ea 1) (ea 2) (ea 3))))))), wO (ea 0) 2 [.ref (eg 0), .ref (ef 0), .int (et 0), .int (nI (el 0)), .int (nI (ei 0))], wI (cy 1) (eg 0) 10 (gc 0), wI (cy 1) (ef 0) 7 (xc 0), wO (ea 1) 2 [.ref (eg 1), .ref (ef 1), .int (et 1), .int (nI (el 1)), .int (nI (ei 1))], wI (cy 1) (eg 1) 10 (gc 1), wI (cy 1) (ef 1) 7 (xc 1), wO (ea 2) 2 [.ref (eg 2), .ref (ef 2), .int (et 2), .int (nI (el 2)), .int (nI (ei 2))], wI (cy 1) (eg 2) 10 (gc 2), wI (cy 1) (ef 2) 7 (xc 2), wO (ea 3) 2 [.ref (eg 3), .ref (ef 3), .int (et 3), .int (nI (el 3)), .int (nI (ei 3))], wI (cy 1) (eg 3) 10 (gc 3), wI (cy 1) (ef 3) 7 (xc 3)] (fun (r : Int32) (u : (Nat → Int32) × (Nat → Int32)) => (pRow u.1)) (fun (u : (Nat → Int32) × (Nat → Int32)) => [wO q0 1 [.ref q1, .ref er, .ref q2, .ref q3, .ref q4, .ref h0, .int (nI ql), .int qo], wI (cy 1) q2 24 (u.1), wI (cy 1) q1 5 (u.2), wO h0 4 [.ref h1, .ref h2, .ref h3, .ref h4, .ref h5, .ref h6, .ref h7, .ref h8, .ref h9, .ref h10, .ref h11, .int ys, hv1, hv2, hv3, hv4], wI (cy 1) h7 48 (fx), wI (cy 1) h1 4 (fc), (er, .inl (cy 4, 4, .inr (.inr (.inr (.inr (eF (ea 0) (ea 1) (ea 2) (ea 3))))))), wO (ea 0) 2 [.ref (eg 0), .ref (ef 0), .int (et 0), .int (nI (el 0)), .int (nI (ei 0))], wI (cy 1) (eg 0) 10 (gc 0), wI (cy 1) (ef 0) 7 (xc 0), wO (ea 1) 2 [.ref (eg 1), .ref (ef 1), .int (et 1), .int (nI (el 1)), .int (nI (ei 1))], wI (cy 1) (eg 1) 10 (gc 1), wI (cy 1) (ef 1) 7 (xc 1), wO (ea 2) 2 [.ref (eg 2), .ref (ef 2), .int (et 2), .int (nI (el 2)), .int (nI (ei 2))], wI (cy 1) (eg 2) 10 (gc 2), wI (cy 1) (ef 2) 7 (xc 2), wO (ea 3) 2 [.ref (eg 3), .ref (ef 3), .int (et 3), .int (nI (el 3)), .int (nI (ei 3))], wI (cy 1) (eg 3) 10 (gc 3), wI (cy 1) (ef 3) 7 (xc 3)]) := by
  refine XMi.start (by decide) (Nat.le_of_ble_eq_true rfl) ?_
  intro p e s m below meth c args A ls Q hat hQ
  obtain ⟨hx, hb, hr, hml, hown, hg, hlocks, hin, hK, hA, hP, hD, hS, hE, hl⟩ := hat
  have hown : s.vm.findClass RX1 = some m.cls := hown
  have hl : lv_has ls 4 [(0, .ref q0), (1, .int 4)] := hl
  refine lv_iconst (v := 0) hx hb dX1_countFrom_0 (by decide) ?_
  refine lv_istore_n (lv' := [(2, .int 0), (0, .ref q0), (1, .int 4)]) hx hb dX1_countFrom_1 rfl hl (by decide) rfl (fun ls hl => ?_)
  refine lv_iload_n hx hb dX1_countFrom_2 rfl (lv_at hl 2 rfl) ?_
  refine lv_aload_n hx hb dX1_countFrom_3 rfl (lv_at hl 1 rfl) ?_
  refine va_get (D := D) (ci := 1) (v := .int (nI ql)) (C := RX1) (T := TX1) (N := 8) hx hb hg i_X1 hown hK hP 0 rfl rfl 6 (by decide) (hg _ m_559) (fun _ h9 => h9) rfl dX1_countFrom_4 ?_
  refine lv_icmp_ge (tgt := 15) hx hb dX1_countFrom_7 (by decide) (fun c_1 => ?_) (fun c_1 => ?_)
  · have q_2 : ql ≤ 4 := q_le (a := ql) (b := 4) rfl rfl (by omega) (by omega) c_1
    refine lv_iload_n hx hb dX1_countFrom_15 rfl (lv_at hl 0 rfl) ?_
    exact x_iret hQ hx hb hr hlocks hK hP hD hS dX1_countFrom_16 (fph, fy) (hph) [0, 1, 2, 3, 4, 5, 6, 7, 8, 9, 10, 11, 12, 13, 14, 15, 16, 17, 18] (by decide +kernel) rfl (Nat.le_of_ble_eq_true rfl) (Nat.le_of_ble_eq_true rfl)
  · have q_2 : 4 < ql := q_nle (a := ql) (b := 4) rfl rfl (by omega) (by omega) c_1
    refine lv_iload_n hx hb dX1_countFrom_10 rfl (lv_at hl 2 rfl) ?_
    refine lv_iconst (v := 5) hx hb dX1_countFrom_11 (by decide) ?_
    refine lv_icmp_lt (tgt := 17) hx hb dX1_countFrom_12 (by decide) (fun _ => ?_) (fun h => absurd (by decide) h)
    refine lv_iconst (v := 0) hx hb dX1_countFrom_17 (by decide) ?_
    refine lv_istore_n (lv' := [(3, .int 0), (2, .int 0), (0, .ref q0), (1, .int 4)]) hx hb dX1_countFrom_18 rfl hl (by decide) rfl (fun ls hl => ?_)
    have loop3 : ∀ (zn : Nat) (lx2_3 : Int32) (wd3 : Nat) (fa2_3 : Nat → Int32) (fa3_3 : Nat → Int32), (pRow fa3_3) → (wd3 ≤ c0) → c0 - wd3 + 1 ≤ zn → ∀ (H : Heap) (locs : List Loc), va_P D vwCl [wO q0 1 [.ref q1, .ref er, .ref q2, .ref q3, .ref q4, .ref h0, .int (nI ql), .int qo], wI (cy 1) q2 24 (fa3_3), wI (cy 1) q1 5 (fa2_3), wO h0 4 [.ref h1, .ref h2, .ref h3, .ref h4, .ref h5, .ref h6, .ref h7, .ref h8, .ref h9, .ref h10, .ref h11, .int ys, hv1, hv2, hv3, hv4], wI (cy 1) h7 48 (fx), wI (cy 1) h1 4 (fc), (er, .inl (cy 4, 4, .inr (.inr (.inr (.inr (eF (ea 0) (ea 1) (ea 2) (ea 3))))))), wO (ea 0) 2 [.ref (eg 0), .ref (ef 0), .int (et 0), .int (nI (el 0)), .int (nI (ei 0))], wI (cy 1) (eg 0) 10 (gc 0), wI (cy 1) (ef 0) 7 (xc 0), wO (ea 1) 2 [.ref (eg 1), .ref (ef 1), .int (et 1), .int (nI (el 1)), .int (nI (ei 1))], wI (cy 1) (eg 1) 10 (gc 1), wI (cy 1) (ef 1) 7 (xc 1), wO (ea 2) 2 [.ref (eg 2), .ref (ef 2), .int (et 2), .int (nI (el 2)), .int (nI (ei 2))], wI (cy 1) (eg 2) 10 (gc 2), wI (cy 1) (ef 2) 7 (xc 2), wO (ea 3) 2 [.ref (eg 3), .ref (ef 3), .int (et 3), .int (nI (el 3)), .int (nI (ei 3))], wI (cy 1) (eg 3) 10 (gc 3), wI (cy 1) (ef 3) 7 (xc 3)] H → va_D A [wO q0 1 [.ref q1, .ref er, .ref q2, .ref q3, .ref q4, .ref h0, .int (nI ql), .int qo], wI (cy 1) q2 24 (fa3_3), wI (cy 1) q1 5 (fa2_3), wO h0 4 [.ref h1, .ref h2, .ref h3, .ref h4, .ref h5, .ref h6, .ref h7, .ref h8, .ref h9, .ref h10, .ref h11, .int ys, hv1, hv2, hv3, hv4], wI (cy 1) h7 48 (fx), wI (cy 1) h1 4 (fc), (er, .inl (cy 4, 4, .inr (.inr (.inr (.inr (eF (ea 0) (ea 1) (ea 2) (ea 3))))))), wO (ea 0) 2 [.ref (eg 0), .ref (ef 0), .int (et 0), .int (nI (el 0)), .int (nI (ei 0))], wI (cy 1) (eg 0) 10 (gc 0), wI (cy 1) (ef 0) 7 (xc 0), wO (ea 1) 2 [.ref (eg 1), .ref (ef 1), .int (et 1), .int (nI (el 1)), .int (nI (ei 1))], wI (cy 1) (eg 1) 10 (gc 1), wI (cy 1) (ef 1) 7 (xc 1), wO (ea 2) 2 [.ref (eg 2), .ref (ef 2), .int (et 2), .int (nI (el 2)), .int (nI (ei 2))], wI (cy 1) (eg 2) 10 (gc 2), wI (cy 1) (ef 2) 7 (xc 2), wO (ea 3) 2 [.ref (eg 3), .ref (ef 3), .int (et 3), .int (nI (el 3)), .int (nI (ei 3))], wI (cy 1) (eg 3) 10 (gc 3), wI (cy 1) (ef 3) 7 (xc 3)] → va_S A s.heap H locs → ∀ ls : Array Slot, lv_has ls 4 [(3, .int (nI wd3)), (2, .int lx2_3), (0, .ref q0), (1, .int 4)] → W p l e (rmk 6 0 0) s m args below meth c H locs 0 0 Q (F0 m 19 ls []) := by
      try clear hP hD hS
      intro zn
      induction zn with
      | zero => intro lx2_3 wd3 fa2_3 fa3_3 _ _ hz; exact absurd hz (by omega)
      | succ zn ih3 =>
        intro lx2_3 wd3 fa2_3 fa3_3 ha4_3 hf0_3 hmu3 H locs hP hD hS ls hl
        refine lv_iload_n hx hb dX1_countFrom_19 rfl (lv_at hl 0 rfl) ?_
        refine lv_aload_n hx hb dX1_countFrom_20 rfl (lv_at hl 2 rfl) ?_
        refine va_get (D := D) (ci := 1) (v := .ref h0) (C := RX1) (T := TX1) (N := 8) hx hb hg i_X1 hown hK hP 0 rfl rfl 5 (by decide) (hg _ m_558) (fun _ h9 => h9) rfl dX1_countFrom_21 ?_
        refine va_get (D := D) (ci := 4) (v := .ref h1) (C := RX4) (T := TX4) (N := 16) hx hb hg i_X4 hown hK hP 3 rfl rfl 0 (by decide) (hg _ m_331) (fun _ h9 => h9) rfl dX1_countFrom_24 ?_
        refine lv_iconst (v := 0) hx hb dX1_countFrom_27 (by decide) ?_
        refine va_iald hx hb hK hP 5 1 rfl rfl (by unfold vp_in; decide) dX1_countFrom_28 ?_
        refine lv_topi (fun y_4 hy_4 => ?_)
        obtain rfl : y_4 = nI c0 := hy_4.trans hcn.1
        refine lv_icmp_ge (tgt := 104) hx hb dX1_countFrom_29 (by decide) (fun c_5 => ?_) (fun c_5 => ?_)
        · have q_6 : c0 ≤ wd3 := q_le (a := c0) (b := wd3) rfl rfl (by omega) (by omega) c_5
          refine lv_iload_n hx hb dX1_countFrom_104 rfl (lv_at hl 1 rfl) ?_
          exact x_iret hQ hx hb hr hlocks hK hP hD hS dX1_countFrom_105 (fa3_3, fa2_3) (ha4_3) [0, 1, 2, 3, 4, 5, 6, 7, 8, 9, 10, 11, 12, 13, 14, 15, 16, 17, 18] (by decide +kernel) rfl (Nat.le_of_ble_eq_true rfl) (Nat.le_of_ble_eq_true rfl)
        · have q_6 : wd3 < c0 := q_nle (a := c0) (b := wd3) rfl rfl (by omega) (by omega) c_5
          refine lv_aload_n hx hb dX1_countFrom_32 rfl (lv_at hl 2 rfl) ?_
          refine va_get (D := D) (ci := 1) (v := .ref q1) (C := RX1) (T := TX1) (N := 8) hx hb hg i_X1 hown hK hP 0 rfl rfl 0 (by decide) (hg _ m_552) (fun _ h9 => h9) rfl dX1_countFrom_33 ?_
          refine lv_iload_n hx hb dX1_countFrom_36 rfl (lv_at hl 3 rfl) ?_
          refine lv_iload_n hx hb dX1_countFrom_37 rfl (lv_at hl 0 rfl) ?_
          refine va_iast hx hb hK hP hD hS 2 1 rfl rfl (by unfold vp_in; decide) dX1_countFrom_38 (fun H locs hP9 hD9 hS9 => ?_)
          clear hP hD hS
          obtain ⟨g_7, eg_7⟩ : ∃ y, upd fa2_3 (4 : Int32).toNatClampNeg (nI wd3) = y := ⟨_, rfl⟩
          rw [eg_7] at hP9 hD9
          refine reW [wO q0 1 [.ref q1, .ref er, .ref q2, .ref q3, .ref q4, .ref h0, .int (nI ql), .int qo], wI (cy 1) q2 24 (fa3_3), wI (cy 1) q1 5 (g_7), wO h0 4 [.ref h1, .ref h2, .ref h3, .ref h4, .ref h5, .ref h6, .ref h7, .ref h8, .ref h9, .ref h10, .ref h11, .int ys, hv1, hv2, hv3, hv4], wI (cy 1) h7 48 (fx), wI (cy 1) h1 4 (fc), (er, .inl (cy 4, 4, .inr (.inr (.inr (.inr (eF (ea 0) (ea 1) (ea 2) (ea 3))))))), wO (ea 0) 2 [.ref (eg 0), .ref (ef 0), .int (et 0), .int (nI (el 0)), .int (nI (ei 0))], wI (cy 1) (eg 0) 10 (gc 0), wI (cy 1) (ef 0) 7 (xc 0), wO (ea 1) 2 [.ref (eg 1), .ref (ef 1), .int (et 1), .int (nI (el 1)), .int (nI (ei 1))], wI (cy 1) (eg 1) 10 (gc 1), wI (cy 1) (ef 1) 7 (xc 1), wO (ea 2) 2 [.ref (eg 2), .ref (ef 2), .int (et 2), .int (nI (el 2)), .int (nI (ei 2))], wI (cy 1) (eg 2) 10 (gc 2), wI (cy 1) (ef 2) 7 (xc 2), wO (ea 3) 2 [.ref (eg 3), .ref (ef 3), .int (et 3), .int (nI (el 3)), .int (nI (ei 3))], wI (cy 1) (eg 3) 10 (gc 3), wI (cy 1) (ef 3) 7 (xc 3)] hP9 hD9 hS9 (fun hP hD hS => ?_)
          clear hP9 hD9 hS9
          refine lv_iload_n hx hb dX1_countFrom_39 rfl (lv_at hl 3 rfl) ?_
          refine lv_aload_n hx hb dX1_countFrom_40 rfl (lv_at hl 2 rfl) ?_
          refine va_get (D := D) (ci := 1) (v := .int (nI ql)) (C := RX1) (T := TX1) (N := 8) hx hb hg i_X1 hown hK hP 0 rfl rfl 6 (by decide) (hg _ m_559) (fun _ h9 => h9) rfl dX1_countFrom_41 ?_
          refine lv_iconst (v := 1) hx hb dX1_countFrom_44 (by decide) ?_
          refine lv_isub hx hb dX1_countFrom_45 ?_
          refine lv_topi (fun y_8 hy_8 => ?_)
          obtain rfl : y_8 = nI (ql - 1) := hy_8.trans (pk_sub (a := ql) (b := 1) (by omega))
          refine lv_icmp_ne (tgt := 69) hx hb dX1_countFrom_46 (by decide) (fun c_9 => ?_) (fun c_9 => ?_)
          · have q_10 : ¬ 4 = (ql - 1) := q_ne (a := 4) (b := (ql - 1)) rfl rfl (by omega) (by omega) c_9
            refine lv_aload_n hx hb dX1_countFrom_69 rfl (lv_at hl 2 rfl) ?_
            refine lv_iload_n hx hb dX1_countFrom_70 rfl (lv_at hl 3 rfl) ?_
            refine lv_iload_n hx hb dX1_countFrom_71 rfl (lv_at hl 0 rfl) ?_
            refine x_callVv (q := (RX1, TX1, 8)) (ci := 1) (q0 := 0) (wr := [wI (cy 1) q1 5 (g_7)]) (rest := []) ⟨hx, hb, hml, hown, hg, hl.1⟩ k_X1_66 (s_goOn l D cy q0 q1 q2 q3 q4 er ql qo fa3_3 h0 h1 h2 h3 h4 h5 h6 h7 h8 h9 h10 h11 ((.int ys)) hv1 hv2 hv3 hv4 fx fc c0 c1 c2 c3 ea eg ef et el ei gc xc 4 wd3 (ha4_3) (hnx) (hcn) (by omega) (by omega) (by omega) (by omega) (by omega) (by omega)) E0_blind hK hP hD hS hA [0, 1, 3, 4, 5, 6, 7, 8, 9, 10, 11, 12, 13, 14, 15, 16, 17, 18] [2] ⟨rfl, rfl, by decide +kernel, by decide +kernel, by decide +kernel⟩ rfl rfl (fun _ _ _ => trivial) dX1_countFrom_72 rfl rfl (Nat.le_of_ble_eq_true rfl) ⟨Nat.le_of_ble_eq_true rfl, Nat.le_of_ble_eq_true rfl⟩ ⟨Nat.le_of_ble_eq_true rfl, Nat.le_of_ble_eq_true rfl⟩ (fun zu11 H locs hw11 hP9 hD9 hS9 => ?_)
            clear hP hD hS
            obtain ⟨fph2_12, rfl⟩ : ∃ z, z = zu11 := ⟨_, rfl⟩
            refine reW [wI (cy 1) q1 5 (g_7), wO q0 1 [.ref q1, .ref er, .ref q2, .ref q3, .ref q4, .ref h0, .int (nI ql), .int qo], wI (cy 1) q2 24 (fph2_12), wO h0 4 [.ref h1, .ref h2, .ref h3, .ref h4, .ref h5, .ref h6, .ref h7, .ref h8, .ref h9, .ref h10, .ref h11, .int ys, hv1, hv2, hv3, hv4], wI (cy 1) h7 48 (fx), wI (cy 1) h1 4 (fc), (er, .inl (cy 4, 4, .inr (.inr (.inr (.inr (eF (ea 0) (ea 1) (ea 2) (ea 3))))))), wO (ea 0) 2 [.ref (eg 0), .ref (ef 0), .int (et 0), .int (nI (el 0)), .int (nI (ei 0))], wI (cy 1) (eg 0) 10 (gc 0), wI (cy 1) (ef 0) 7 (xc 0), wO (ea 1) 2 [.ref (eg 1), .ref (ef 1), .int (et 1), .int (nI (el 1)), .int (nI (ei 1))], wI (cy 1) (eg 1) 10 (gc 1), wI (cy 1) (ef 1) 7 (xc 1), wO (ea 2) 2 [.ref (eg 2), .ref (ef 2), .int (et 2), .int (nI (el 2)), .int (nI (ei 2))], wI (cy 1) (eg 2) 10 (gc 2), wI (cy 1) (ef 2) 7 (xc 2), wO (ea 3) 2 [.ref (eg 3), .ref (ef 3), .int (et 3), .int (nI (el 3)), .int (nI (ei 3))], wI (cy 1) (eg 3) 10 (gc 3), wI (cy 1) (ef 3) 7 (xc 3)] hP9 hD9 hS9 (fun hP hD hS => ?_)
            clear hP9 hD9 hS9
            refine W.widen (k := 0) (n := 0) (Nat.le_of_ble_eq_true rfl) (Nat.le_of_ble_eq_true rfl) ?_
            replace hw11 : (pRow fph2_12) := hw11
            have f_13 := hw11
            refine lv_iload_n hx hb dX1_countFrom_75 rfl (lv_at hl 1 rfl) ?_
            refine lv_aload_n hx hb dX1_countFrom_76 rfl (lv_at hl 2 rfl) ?_
            refine lv_iload_n hx hb dX1_countFrom_77 rfl (lv_at hl 3 rfl) ?_
            refine lv_iconst (v := 1) hx hb dX1_countFrom_78 (by decide) ?_
            refine lv_iadd hx hb dX1_countFrom_79 ?_
            refine lv_topi (fun y_14 hy_14 => ?_)
            obtain rfl : y_14 = 5 := hy_14.trans (by decide +kernel)
            refine x_callVi (q := (RX1, TX1, 8)) (ci := 1) (q0 := 0) (wr := []) (rest := [.int lx2_3]) ⟨hx, hb, hml, hown, hg, hl.1⟩ k_X1_58 (s_countFrom5 l D cy q0 q1 q2 q3 q4 er ql qo fph2_12 g_7 h0 h1 h2 h3 h4 h5 h6 h7 h8 h9 h10 h11 hv1 hv2 hv3 hv4 ys fx fc c0 c1 c2 c3 ea eg ef et el ei gc xc (f_13) (hnx) (hcn) (by omega) (by omega) (by omega) (by omega) (by omega)) E0_blind hK hP hD hS hA [1, 2, 0, 3, 4, 5, 6, 7, 8, 9, 10, 11, 12, 13, 14, 15, 16, 17, 18] [] ⟨rfl, rfl, by decide +kernel, by decide +kernel, by decide +kernel⟩ rfl rfl (fun _ _ _ => trivial) dX1_countFrom_80 rfl rfl (Nat.le_of_ble_eq_true rfl) ⟨Nat.le_of_ble_eq_true rfl, Nat.le_of_ble_eq_true rfl⟩ ⟨Nat.le_of_ble_eq_true rfl, Nat.le_of_ble_eq_true rfl⟩ (fun zr15 zu15 H locs hw15 hP9 hD9 hS9 => ?_)
            clear hP hD hS
            obtain ⟨fph2_16, fy2_17⟩ := zu15
            refine reW [wO q0 1 [.ref q1, .ref er, .ref q2, .ref q3, .ref q4, .ref h0, .int (nI ql), .int qo], wI (cy 1) q2 24 (fph2_16), wI (cy 1) q1 5 (fy2_17), wO h0 4 [.ref h1, .ref h2, .ref h3, .ref h4, .ref h5, .ref h6, .ref h7, .ref h8, .ref h9, .ref h10, .ref h11, .int ys, hv1, hv2, hv3, hv4], wI (cy 1) h7 48 (fx), wI (cy 1) h1 4 (fc), (er, .inl (cy 4, 4, .inr (.inr (.inr (.inr (eF (ea 0) (ea 1) (ea 2) (ea 3))))))), wO (ea 0) 2 [.ref (eg 0), .ref (ef 0), .int (et 0), .int (nI (el 0)), .int (nI (ei 0))], wI (cy 1) (eg 0) 10 (gc 0), wI (cy 1) (ef 0) 7 (xc 0), wO (ea 1) 2 [.ref (eg 1), .ref (ef 1), .int (et 1), .int (nI (el 1)), .int (nI (ei 1))], wI (cy 1) (eg 1) 10 (gc 1), wI (cy 1) (ef 1) 7 (xc 1), wO (ea 2) 2 [.ref (eg 2), .ref (ef 2), .int (et 2), .int (nI (el 2)), .int (nI (ei 2))], wI (cy 1) (eg 2) 10 (gc 2), wI (cy 1) (ef 2) 7 (xc 2), wO (ea 3) 2 [.ref (eg 3), .ref (ef 3), .int (et 3), .int (nI (el 3)), .int (nI (ei 3))], wI (cy 1) (eg 3) 10 (gc 3), wI (cy 1) (ef 3) 7 (xc 3)] hP9 hD9 hS9 (fun hP hD hS => ?_)
            clear hP9 hD9 hS9
            refine W.widen (k := 0) (n := 0) (Nat.le_of_ble_eq_true rfl) (Nat.le_of_ble_eq_true rfl) ?_
            replace hw15 : (pRow fph2_16) := hw15
            have f_18 := hw15
            refine lv_iadd hx hb dX1_countFrom_83 ?_
            refine lv_topi (fun x_19 ex_19 => ?_)
            refine lv_istore_n (lv' := [(2, .int x_19), (3, .int (nI wd3)), (0, .ref q0), (1, .int 4)]) hx hb dX1_countFrom_84 rfl hl (by decide) rfl (fun ls hl => ?_)
            refine lv_aload_n hx hb dX1_countFrom_85 rfl (lv_at hl 2 rfl) ?_
            refine va_get (D := D) (ci := 1) (v := .int qo) (C := RX1) (T := TX1) (N := 8) hx hb hg i_X1 hown hK hP 0 rfl rfl 7 (by decide) (hg _ m_560) (fun _ h9 => h9) rfl dX1_countFrom_86 ?_
            refine lv_if_eq (tgt := 98) hx hb dX1_countFrom_89 (by decide) (fun c_89 => ?_) (fun c_89 => ?_)
            · refine lv_iinc (v := nI (wd3 + 1)) (lv' := [(3, .int (nI (wd3 + 1))), (2, .int x_19), (0, .ref q0), (1, .int 4)]) hx hb dX1_countFrom_98 hl (k := 1) rfl (nI_add wd3 1) (by decide) rfl (fun ls hl => ?_)
              refine lv_goto (tgt := 19) hx hb dX1_countFrom_101 (by decide) ?_
              exact ih3  x_19 ((wd3 + 1)) fy2_17 fph2_16 f_18 (by omega) (by omega) _ _ (hP.sub [0, 1, 2, 3, 4, 5, 6, 7, 8, 9, 10, 11, 12, 13, 14, 15, 16, 17, 18] rfl) (hD.sub [0, 1, 2, 3, 4, 5, 6, 7, 8, 9, 10, 11, 12, 13, 14, 15, 16, 17, 18] (by decide +kernel) rfl) hS ls (lv_sub hl [0, 1, 2, 3] rfl)
            · refine lv_iload_n hx hb dX1_countFrom_92 rfl (lv_at hl 0 rfl) ?_
              refine lv_if_le (tgt := 98) hx hb dX1_countFrom_93 (by decide) (fun c_93 => ?_) (fun c_93 => ?_)
              · refine lv_iinc (v := nI (wd3 + 1)) (lv' := [(3, .int (nI (wd3 + 1))), (2, .int x_19), (0, .ref q0), (1, .int 4)]) hx hb dX1_countFrom_98 hl (k := 1) rfl (nI_add wd3 1) (by decide) rfl (fun ls hl => ?_)
                refine lv_goto (tgt := 19) hx hb dX1_countFrom_101 (by decide) ?_
                exact ih3  x_19 ((wd3 + 1)) fy2_17 fph2_16 f_18 (by omega) (by omega) _ _ (hP.sub [0, 1, 2, 3, 4, 5, 6, 7, 8, 9, 10, 11, 12, 13, 14, 15, 16, 17, 18] rfl) (hD.sub [0, 1, 2, 3, 4, 5, 6, 7, 8, 9, 10, 11, 12, 13, 14, 15, 16, 17, 18] (by decide +kernel) rfl) hS ls (lv_sub hl [0, 1, 2, 3] rfl)
              · refine lv_iload_n hx hb dX1_countFrom_96 rfl (lv_at hl 0 rfl) ?_
                exact x_iret hQ hx hb hr hlocks hK hP hD hS dX1_countFrom_97 (fph2_16, fy2_17) (f_18) [0, 1, 2, 3, 4, 5, 6, 7, 8, 9, 10, 11, 12, 13, 14, 15, 16, 17, 18] (by decide +kernel) rfl (Nat.le_of_ble_eq_true rfl) (Nat.le_of_ble_eq_true rfl)
          · have q_10 : 4 = (ql - 1) := q_eq (a := 4) (b := (ql - 1)) rfl rfl (by omega) (by omega) c_9
            refine lv_iload_n hx hb dX1_countFrom_49 rfl (lv_at hl 1 rfl) ?_
            refine lv_aload_n hx hb dX1_countFrom_50 rfl (lv_at hl 2 rfl) ?_
            refine lv_iload_n hx hb dX1_countFrom_51 rfl (lv_at hl 3 rfl) ?_
            refine lv_iload_n hx hb dX1_countFrom_52 rfl (lv_at hl 0 rfl) ?_
            refine x_callVi (q := (RX1, TX1, 8)) (ci := 1) (q0 := 0) (wr := [wI (cy 1) q1 5 (g_7)]) (rest := [.int lx2_3]) ⟨hx, hb, hml, hown, hg, hl.1⟩ k_X1_62 (s_pardonsWithLast l D cy q0 q1 q2 q3 q4 er ql qo fa3_3 h0 h1 h2 h3 h4 h5 h6 h7 h8 h9 h10 h11 hv1 hv2 hv3 hv4 ys fx fc c0 c1 c2 c3 ea eg ef et el ei gc xc 4 wd3 (ha4_3) (hnx) (hcn) (by omega) (by omega) (by omega) (by omega) (by omega) (by omega)) E0_blind hK hP hD hS hA [0, 1, 3, 4, 5, 6, 7, 8, 9, 10, 11, 12, 13, 14, 15, 16, 17, 18] [2] ⟨rfl, rfl, by decide +kernel, by decide +kernel, by decide +kernel⟩ rfl rfl (fun _ _ _ => trivial) dX1_countFrom_53 rfl rfl (Nat.le_of_ble_eq_true rfl) ⟨Nat.le_of_ble_eq_true rfl, Nat.le_of_ble_eq_true rfl⟩ ⟨Nat.le_of_ble_eq_true rfl, Nat.le_of_ble_eq_true rfl⟩ (fun zr20 zu20 H locs hw20 hP9 hD9 hS9 => ?_)
            clear hP hD hS
            refine reW [wI (cy 1) q1 5 (g_7), wO q0 1 [.ref q1, .ref er, .ref q2, .ref q3, .ref q4, .ref h0, .int (nI ql), .int qo], wI (cy 1) q2 24 (fa3_3), wO h0 4 [.ref h1, .ref h2, .ref h3, .ref h4, .ref h5, .ref h6, .ref h7, .ref h8, .ref h9, .ref h10, .ref h11, .int ys, hv1, hv2, hv3, hv4], wI (cy 1) h7 48 (fx), wI (cy 1) h1 4 (fc), (er, .inl (cy 4, 4, .inr (.inr (.inr (.inr (eF (ea 0) (ea 1) (ea 2) (ea 3))))))), wO (ea 0) 2 [.ref (eg 0), .ref (ef 0), .int (et 0), .int (nI (el 0)), .int (nI (ei 0))], wI (cy 1) (eg 0) 10 (gc 0), wI (cy 1) (ef 0) 7 (xc 0), wO (ea 1) 2 [.ref (eg 1), .ref (ef 1), .int (et 1), .int (nI (el 1)), .int (nI (ei 1))], wI (cy 1) (eg 1) 10 (gc 1), wI (cy 1) (ef 1) 7 (xc 1), wO (ea 2) 2 [.ref (eg 2), .ref (ef 2), .int (et 2), .int (nI (el 2)), .int (nI (ei 2))], wI (cy 1) (eg 2) 10 (gc 2), wI (cy 1) (ef 2) 7 (xc 2), wO (ea 3) 2 [.ref (eg 3), .ref (ef 3), .int (et 3), .int (nI (el 3)), .int (nI (ei 3))], wI (cy 1) (eg 3) 10 (gc 3), wI (cy 1) (ef 3) 7 (xc 3)] hP9 hD9 hS9 (fun hP hD hS => ?_)
            clear hP9 hD9 hS9
            refine W.widen (k := 0) (n := 0) (Nat.le_of_ble_eq_true rfl) (Nat.le_of_ble_eq_true rfl) ?_
            replace hw20 : (zr20 = 0 ∨ zr20 = 1) := hw20
            have f_21 := hw20
            refine lv_if_eq (tgt := 63) hx hb dX1_countFrom_56 (by decide) (fun c_56 => ?_) (fun c_56 => ?_)
            · refine lv_iconst (v := 0) hx hb dX1_countFrom_63 (by decide) ?_
              refine lv_iadd hx hb dX1_countFrom_64 ?_
              refine lv_topi (fun x_22 ex_22 => ?_)
              refine lv_istore_n (lv' := [(2, .int x_22), (3, .int (nI wd3)), (0, .ref q0), (1, .int 4)]) hx hb dX1_countFrom_65 rfl hl (by decide) rfl (fun ls hl => ?_)
              refine lv_goto (tgt := 85) hx hb dX1_countFrom_66 (by decide) ?_
              refine lv_aload_n hx hb dX1_countFrom_85 rfl (lv_at hl 2 rfl) ?_
              refine va_get (D := D) (ci := 1) (v := .int qo) (C := RX1) (T := TX1) (N := 8) hx hb hg i_X1 hown hK hP 1 rfl rfl 7 (by decide) (hg _ m_560) (fun _ h9 => h9) rfl dX1_countFrom_86 ?_
              refine lv_if_eq (tgt := 98) hx hb dX1_countFrom_89 (by decide) (fun c_89 => ?_) (fun c_89 => ?_)
              · refine lv_iinc (v := nI (wd3 + 1)) (lv' := [(3, .int (nI (wd3 + 1))), (2, .int x_22), (0, .ref q0), (1, .int 4)]) hx hb dX1_countFrom_98 hl (k := 1) rfl (nI_add wd3 1) (by decide) rfl (fun ls hl => ?_)
                refine lv_goto (tgt := 19) hx hb dX1_countFrom_101 (by decide) ?_
                exact ih3  x_22 ((wd3 + 1)) g_7 fa3_3 ha4_3 (by omega) (by omega) _ _ (hP.sub [1, 2, 0, 3, 4, 5, 6, 7, 8, 9, 10, 11, 12, 13, 14, 15, 16, 17, 18] rfl) (hD.sub [1, 2, 0, 3, 4, 5, 6, 7, 8, 9, 10, 11, 12, 13, 14, 15, 16, 17, 18] (by decide +kernel) rfl) hS ls (lv_sub hl [0, 1, 2, 3] rfl)
              · refine lv_iload_n hx hb dX1_countFrom_92 rfl (lv_at hl 0 rfl) ?_
                refine lv_if_le (tgt := 98) hx hb dX1_countFrom_93 (by decide) (fun c_93 => ?_) (fun c_93 => ?_)
                · refine lv_iinc (v := nI (wd3 + 1)) (lv' := [(3, .int (nI (wd3 + 1))), (2, .int x_22), (0, .ref q0), (1, .int 4)]) hx hb dX1_countFrom_98 hl (k := 1) rfl (nI_add wd3 1) (by decide) rfl (fun ls hl => ?_)
                  refine lv_goto (tgt := 19) hx hb dX1_countFrom_101 (by decide) ?_
                  exact ih3  x_22 ((wd3 + 1)) g_7 fa3_3 ha4_3 (by omega) (by omega) _ _ (hP.sub [1, 2, 0, 3, 4, 5, 6, 7, 8, 9, 10, 11, 12, 13, 14, 15, 16, 17, 18] rfl) (hD.sub [1, 2, 0, 3, 4, 5, 6, 7, 8, 9, 10, 11, 12, 13, 14, 15, 16, 17, 18] (by decide +kernel) rfl) hS ls (lv_sub hl [0, 1, 2, 3] rfl)
                · refine lv_iload_n hx hb dX1_countFrom_96 rfl (lv_at hl 0 rfl) ?_
                  exact x_iret hQ hx hb hr hlocks hK hP hD hS dX1_countFrom_97 (fa3_3, g_7) (ha4_3) [1, 2, 0, 3, 4, 5, 6, 7, 8, 9, 10, 11, 12, 13, 14, 15, 16, 17, 18] (by decide +kernel) rfl (Nat.le_of_ble_eq_true rfl) (Nat.le_of_ble_eq_true rfl)
            · refine lv_iconst (v := 1) hx hb dX1_countFrom_59 (by decide) ?_
              refine lv_goto (tgt := 64) hx hb dX1_countFrom_60 (by decide) ?_
              refine lv_iadd hx hb dX1_countFrom_64 ?_
              refine lv_topi (fun x_23 ex_23 => ?_)
              refine lv_istore_n (lv' := [(2, .int x_23), (3, .int (nI wd3)), (0, .ref q0), (1, .int 4)]) hx hb dX1_countFrom_65 rfl hl (by decide) rfl (fun ls hl => ?_)
              refine lv_goto (tgt := 85) hx hb dX1_countFrom_66 (by decide) ?_
              refine lv_aload_n hx hb dX1_countFrom_85 rfl (lv_at hl 2 rfl) ?_
              refine va_get (D := D) (ci := 1) (v := .int qo) (C := RX1) (T := TX1) (N := 8) hx hb hg i_X1 hown hK hP 1 rfl rfl 7 (by decide) (hg _ m_560) (fun _ h9 => h9) rfl dX1_countFrom_86 ?_
              refine lv_if_eq (tgt := 98) hx hb dX1_countFrom_89 (by decide) (fun c_89 => ?_) (fun c_89 => ?_)
              · refine lv_iinc (v := nI (wd3 + 1)) (lv' := [(3, .int (nI (wd3 + 1))), (2, .int x_23), (0, .ref q0), (1, .int 4)]) hx hb dX1_countFrom_98 hl (k := 1) rfl (nI_add wd3 1) (by decide) rfl (fun ls hl => ?_)
                refine lv_goto (tgt := 19) hx hb dX1_countFrom_101 (by decide) ?_
                exact ih3  x_23 ((wd3 + 1)) g_7 fa3_3 ha4_3 (by omega) (by omega) _ _ (hP.sub [1, 2, 0, 3, 4, 5, 6, 7, 8, 9, 10, 11, 12, 13, 14, 15, 16, 17, 18] rfl) (hD.sub [1, 2, 0, 3, 4, 5, 6, 7, 8, 9, 10, 11, 12, 13, 14, 15, 16, 17, 18] (by decide +kernel) rfl) hS ls (lv_sub hl [0, 1, 2, 3] rfl)
              · refine lv_iload_n hx hb dX1_countFrom_92 rfl (lv_at hl 0 rfl) ?_
                refine lv_if_le (tgt := 98) hx hb dX1_countFrom_93 (by decide) (fun c_93 => ?_) (fun c_93 => ?_)
                · refine lv_iinc (v := nI (wd3 + 1)) (lv' := [(3, .int (nI (wd3 + 1))), (2, .int x_23), (0, .ref q0), (1, .int 4)]) hx hb dX1_countFrom_98 hl (k := 1) rfl (nI_add wd3 1) (by decide) rfl (fun ls hl => ?_)
                  refine lv_goto (tgt := 19) hx hb dX1_countFrom_101 (by decide) ?_
                  exact ih3  x_23 ((wd3 + 1)) g_7 fa3_3 ha4_3 (by omega) (by omega) _ _ (hP.sub [1, 2, 0, 3, 4, 5, 6, 7, 8, 9, 10, 11, 12, 13, 14, 15, 16, 17, 18] rfl) (hD.sub [1, 2, 0, 3, 4, 5, 6, 7, 8, 9, 10, 11, 12, 13, 14, 15, 16, 17, 18] (by decide +kernel) rfl) hS ls (lv_sub hl [0, 1, 2, 3] rfl)
                · refine lv_iload_n hx hb dX1_countFrom_96 rfl (lv_at hl 0 rfl) ?_
                  exact x_iret hQ hx hb hr hlocks hK hP hD hS dX1_countFrom_97 (fa3_3, g_7) (ha4_3) [1, 2, 0, 3, 4, 5, 6, 7, 8, 9, 10, 11, 12, 13, 14, 15, 16, 17, 18] (by decide +kernel) rfl (Nat.le_of_ble_eq_true rfl) (Nat.le_of_ble_eq_true rfl)
    exact loop3 _ 0 0 fy fph hph (by omega) (Nat.le_refl _) _ _ (hP.sub [0, 1, 2, 3, 4, 5, 6, 7, 8, 9, 10, 11, 12, 13, 14, 15, 16, 17, 18] rfl) (hD.sub [0, 1, 2, 3, 4, 5, 6, 7, 8, 9, 10, 11, 12, 13, 14, 15, 16, 17, 18] (by decide +kernel) rfl) hS ls (lv_sub hl [0, 1, 2, 3] rfl)
set_option maxHeartbeats 1000000 in
set_option maxRecDepth 100000 in
theorem s_countFrom3 (l : Launch) (D : va_G) (cy : Nat → ClassId) (q0 : Nat) (q1 : Nat) (q2 : Nat) (q3 : Nat) (q4 : Nat) (er : Nat) (ql : Nat) (qo : Int32) (fph : Nat → Int32) (fy : Nat → Int32) (h0 : Nat) (h1 : Nat) (h2 : Nat) (h3 : Nat) (h4 : Nat) (h5 : Nat) (h6 : Nat) (h7 : Nat) (h8 : Nat) (h9 : Nat) (h10 : Nat) (h11 : Nat) (hv1 : Value) (hv2 : Value) (hv3 : Value) (hv4 : Value) (ys : Int32) (fx : Nat → Int32) (fc : Nat → Int32) (c0 : Nat) (c1 : Nat) (c2 : Nat) (c3 : Nat) (ea : Nat → Nat) (eg : Nat → Nat) (ef : Nat → Nat) (et : Nat → Int32) (el : Nat → Nat) (ei : Nat → Nat) (gc : Nat → Nat → Int32) (xc : Nat → Nat → Int32) (hph : pRow fph) (hnx : rng fx 48 5) (hcn : cntOK fc c0 c1 c2 c3) (hc0 : c0 ≤ 8) (hc1 : c1 ≤ 4) (hc2 : c2 ≤ 4) (hc3 : c3 ≤ 6) (hql : ql ≤ 5) : XMi l D (tyL cy) E0 yX1_countFrom cX1_countFrom 4 (some .int) (rmk 7 0 0) [.ref q0, .int 3] [wO q0 1 [.ref q1, .ref er, .ref q2, .ref q3, .ref q4, .ref h0, .int (nI ql), .int qo], wI (cy 1) q2 24 (fph), wI (cy 1) q1 5 (fy), wO h0 4 [.ref h1, .ref h2, .ref h3, .ref h4, .ref h5, .ref h6, .ref h7, .ref h8, .ref h9, .ref h10, .ref h11, .int ys, hv1, hv2, hv3, hv4], wI (cy 1) h7 48 (fx), wI (cy 1) h1 4 (fc), (er, .inl (cy 4, 4, .inr (.inr (.inr (.inr (eF (ea 0) (ea 1) (ea 2) (ea 3))))))), wO (ea 0) 2 [.ref (eg 0), .ref (ef 0), .int (et 0), .int (nI (el 0)), .int (nI (ei 0))], wI (cy 1) (eg 0) 10 (gc 0), wI (cy 1) (ef 0) 7 (xc 0), wO (ea 1) 2 [.ref (eg 1), .ref (ef 1), .int (et 1), .int (nI (el 1)), .int (nI (ei 1))], wI (cy 1) (eg 1) 10 (gc 1), wI (cy 1) (ef 1) 7 (xc 1), wO (ea 2) 2 [.ref (eg 2), .ref (ef 2), .int (et 2), .int (nI (el 2)), .int (nI (ei 2))], wI (cy 1) (eg 2) 10 (gc 2), wI (cy 1) (ef 2) 7 (xc 2), wO (ea 3) 2 [.ref (eg 3), .ref (ef 3), .int (et 3), .int (nI (el 3)), .int (nI (ei 3))], wI (cy 1) (eg 3) 10 (gc 3), wI (cy 1) (ef 3) 7 (xc 3)] (fun (r : Int32) (u : (Nat → Int32) × (Nat → Int32)) => (pRow u.1)) (fun (u : (Nat → Int32) × (Nat → Int32)) => [wO q0 1 [.ref q1, .ref er, .ref q2, .ref q3, .ref q4, .ref h0, .int (nI ql), .int qo], wI (cy 1) q2 24 (u.1), wI (cy 1) q1 5 (u.2), wO h0 4 [.ref h1, .ref h2, .ref h3, .ref h4, .ref h5, .ref h6, .ref h7, .ref h8, .ref h9, .ref h10, .ref h11, .int ys, hv1, hv2, hv3, hv4], wI (cy 1) h7 48 (fx), wI (cy 1) h1 4 (fc), (er, .inl (cy 4, 4, .inr (.inr (.inr (.inr (eF (ea 0) (ea 1) (ea 2) (ea 3))))))), wO (ea 0) 2 [.ref (eg 0), .ref (ef 0), .int (et 0), .int (nI (el 0)), .int (nI (ei 0))], wI (cy 1) (eg 0) 10 (gc 0), wI (cy 1) (ef 0) 7 (xc 0), wO (ea 1) 2 [.ref (eg 1), .ref (ef 1), .int (et 1), .int (nI (el 1)), .int (nI (ei 1))], wI (cy 1) (eg 1) 10 (gc 1), wI (cy 1) (ef 1) 7 (xc 1), wO (ea 2) 2 [.ref (eg 2), .ref (ef 2), .int (et 2), .int (nI (el 2)), .int (nI (ei 2))], wI (cy 1) (eg 2) 10 (gc 2), wI (cy 1) (ef 2) 7 (xc 2), wO (ea 3) 2 [.ref (eg 3), .ref (ef 3), .int (et 3), .int (nI (el 3)), .int (nI (ei 3))], wI (cy 1) (eg 3) 10 (gc 3), wI (cy 1) (ef 3) 7 (xc 3)]) := by
  refine XMi.start (by decide) (Nat.le_of_ble_eq_true rfl) ?_
  intro p e s m below meth c args A ls Q hat hQ
  obtain ⟨hx, hb, hr, hml, hown, hg, hlocks, hin, hK, hA, hP, hD, hS, hE, hl⟩ := hat
  have hown : s.vm.findClass RX1 = some m.cls := hown
  have hl : lv_has ls 4 [(0, .ref q0), (1, .int 3)] := hl
  refine lv_iconst (v := 0) hx hb dX1_countFrom_0 (by decide) ?_
  refine lv_istore_n (lv' := [(2, .int 0), (0, .ref q0), (1, .int 3)]) hx hb dX1_countFrom_1 rfl hl (by decide) rfl (fun ls hl => ?_)
  refine lv_iload_n hx hb dX1_countFrom_2 rfl (lv_at hl 2 rfl) ?_
  refine lv_aload_n hx hb dX1_countFrom_3 rfl (lv_at hl 1 rfl) ?_
  refine va_get (D := D) (ci := 1) (v := .int (nI ql)) (C := RX1) (T := TX1) (N := 8) hx hb hg i_X1 hown hK hP 0 rfl rfl 6 (by decide) (hg _ m_559) (fun _ h9 => h9) rfl dX1_countFrom_4 ?_
  refine lv_icmp_ge (tgt := 15) hx hb dX1_countFrom_7 (by decide) (fun c_1 => ?_) (fun c_1 => ?_)
  · have q_2 : ql ≤ 3 := q_le (a := ql) (b := 3) rfl rfl (by omega) (by omega) c_1
    refine lv_iload_n hx hb dX1_countFrom_15 rfl (lv_at hl 0 rfl) ?_
    exact x_iret hQ hx hb hr hlocks hK hP hD hS dX1_countFrom_16 (fph, fy) (hph) [0, 1, 2, 3, 4, 5, 6, 7, 8, 9, 10, 11, 12, 13, 14, 15, 16, 17, 18] (by decide +kernel) rfl (Nat.le_of_ble_eq_true rfl) (Nat.le_of_ble_eq_true rfl)
  · have q_2 : 3 < ql := q_nle (a := ql) (b := 3) rfl rfl (by omega) (by omega) c_1
    refine lv_iload_n hx hb dX1_countFrom_10 rfl (lv_at hl 2 rfl) ?_
    refine lv_iconst (v := 5) hx hb dX1_countFrom_11 (by decide) ?_
    refine lv_icmp_lt (tgt := 17) hx hb dX1_countFrom_12 (by decide) (fun _ => ?_) (fun h => absurd (by decide) h)
    refine lv_iconst (v := 0) hx hb dX1_countFrom_17 (by decide) ?_
    refine lv_istore_n (lv' := [(3, .int 0), (2, .int 0), (0, .ref q0), (1, .int 3)]) hx hb dX1_countFrom_18 rfl hl (by decide) rfl (fun ls hl => ?_)
    have loop3 : ∀ (zn : Nat) (lx2_3 : Int32) (wd3 : Nat) (fa2_3 : Nat → Int32) (fa3_3 : Nat → Int32), (pRow fa3_3) → (wd3 ≤ c0) → c0 - wd3 + 1 ≤ zn → ∀ (H : Heap) (locs : List Loc), va_P D vwCl [wO q0 1 [.ref q1, .ref er, .ref q2, .ref q3, .ref q4, .ref h0, .int (nI ql), .int qo], wI (cy 1) q2 24 (fa3_3), wI (cy 1) q1 5 (fa2_3), wO h0 4 [.ref h1, .ref h2, .ref h3, .ref h4, .ref h5, .ref h6, .ref h7, .ref h8, .ref h9, .ref h10, .ref h11, .int ys, hv1, hv2, hv3, hv4], wI (cy 1) h7 48 (fx), wI (cy 1) h1 4 (fc), (er, .inl (cy 4, 4, .inr (.inr (.inr (.inr (eF (ea 0) (ea 1) (ea 2) (ea 3))))))), wO (ea 0) 2 [.ref (eg 0), .ref (ef 0), .int (et 0), .int (nI (el 0)), .int (nI (ei 0))], wI (cy 1) (eg 0) 10 (gc 0), wI (cy 1) (ef 0) 7 (xc 0), wO (ea 1) 2 [.ref (eg 1), .ref (ef 1), .int (et 1), .int (nI (el 1)), .int (nI (ei 1))], wI (cy 1) (eg 1) 10 (gc 1), wI (cy 1) (ef 1) 7 (xc 1), wO (ea 2) 2 [.ref (eg 2), .ref (ef 2), .int (et 2), .int (nI (el 2)), .int (nI (ei 2))], wI (cy 1) (eg 2) 10 (gc 2), wI (cy 1) (ef 2) 7 (xc 2), wO (ea 3) 2 [.ref (eg 3), .ref (ef 3), .int (et 3), .int (nI (el 3)), .int (nI (ei 3))], wI (cy 1) (eg 3) 10 (gc 3), wI (cy 1) (ef 3) 7 (xc 3)] H → va_D A [wO q0 1 [.ref q1, .ref er, .ref q2, .ref q3, .ref q4, .ref h0, .int (nI ql), .int qo], wI (cy 1) q2 24 (fa3_3), wI (cy 1) q1 5 (fa2_3), wO h0 4 [.ref h1, .ref h2, .ref h3, .ref h4, .ref h5, .ref h6, .ref h7, .ref h8, .ref h9, .ref h10, .ref h11, .int ys, hv1, hv2, hv3, hv4], wI (cy 1) h7 48 (fx), wI (cy 1) h1 4 (fc), (er, .inl (cy 4, 4, .inr (.inr (.inr (.inr (eF (ea 0) (ea 1) (ea 2) (ea 3))))))), wO (ea 0) 2 [.ref (eg 0), .ref (ef 0), .int (et 0), .int (nI (el 0)), .int (nI (ei 0))], wI (cy 1) (eg 0) 10 (gc 0), wI (cy 1) (ef 0) 7 (xc 0), wO (ea 1) 2 [.ref (eg 1), .ref (ef 1), .int (et 1), .int (nI (el 1)), .int (nI (ei 1))], wI (cy 1) (eg 1) 10 (gc 1), wI (cy 1) (ef 1) 7 (xc 1), wO (ea 2) 2 [.ref (eg 2), .ref (ef 2), .int (et 2), .int (nI (el 2)), .int (nI (ei 2))], wI (cy 1) (eg 2) 10 (gc 2), wI (cy 1) (ef 2) 7 (xc 2), wO (ea 3) 2 [.ref (eg 3), .ref (ef 3), .int (et 3), .int (nI (el 3)), .int (nI (ei 3))], wI (cy 1) (eg 3) 10 (gc 3), wI (cy 1) (ef 3) 7 (xc 3)] → va_S A s.heap H locs → ∀ ls : Array Slot, lv_has ls 4 [(3, .int (nI wd3)), (2, .int lx2_3), (0, .ref q0), (1, .int 3)] → W p l e (rmk 7 0 0) s m args below meth c H locs 0 0 Q (F0 m 19 ls []) := by
      try clear hP hD hS
      intro zn
      induction zn with
      | zero => intro lx2_3 wd3 fa2_3 fa3_3 _ _ hz; exact absurd hz (by omega)
      | succ zn ih3 =>
        intro lx2_3 wd3 fa2_3 fa3_3 ha4_3 hf0_3 hmu3 H locs hP hD hS ls hl
        refine lv_iload_n hx hb dX1_countFrom_19 rfl (lv_at hl 0 rfl) ?_
        refine lv_aload_n hx hb dX1_countFrom_20 rfl (lv_at hl 2 rfl) ?_
        refine va_get (D := D) (ci := 1) (v := .ref h0) (C := RX1) (T := TX1) (N := 8) hx hb hg i_X1 hown hK hP 0 rfl rfl 5 (by decide) (hg _ m_558) (fun _ h9 => h9) rfl dX1_countFrom_21 ?_
        refine va_get (D := D) (ci := 4) (v := .ref h1) (C := RX4) (T := TX4) (N := 16) hx hb hg i_X4 hown hK hP 3 rfl rfl 0 (by decide) (hg _ m_331) (fun _ h9 => h9) rfl dX1_countFrom_24 ?_
        refine lv_iconst (v := 0) hx hb dX1_countFrom_27 (by decide) ?_
        refine va_iald hx hb hK hP 5 1 rfl rfl (by unfold vp_in; decide) dX1_countFrom_28 ?_
        refine lv_topi (fun y_4 hy_4 => ?_)
        obtain rfl : y_4 = nI c0 := hy_4.trans hcn.1
        refine lv_icmp_ge (tgt := 104) hx hb dX1_countFrom_29 (by decide) (fun c_5 => ?_) (fun c_5 => ?_)
        · have q_6 : c0 ≤ wd3 := q_le (a := c0) (b := wd3) rfl rfl (by omega) (by omega) c_5
          refine lv_iload_n hx hb dX1_countFrom_104 rfl (lv_at hl 1 rfl) ?_
          exact x_iret hQ hx hb hr hlocks hK hP hD hS dX1_countFrom_105 (fa3_3, fa2_3) (ha4_3) [0, 1, 2, 3, 4, 5, 6, 7, 8, 9, 10, 11, 12, 13, 14, 15, 16, 17, 18] (by decide +kernel) rfl (Nat.le_of_ble_eq_true rfl) (Nat.le_of_ble_eq_true rfl)
        · have q_6 : wd3 < c0 := q_nle (a := c0) (b := wd3) rfl rfl (by omega) (by omega) c_5
          refine lv_aload_n hx hb dX1_countFrom_32 rfl (lv_at hl 2 rfl) ?_
          refine va_get (D := D) (ci := 1) (v := .ref q1) (C := RX1) (T := TX1) (N := 8) hx hb hg i_X1 hown hK hP 0 rfl rfl 0 (by decide) (hg _ m_552) (fun _ h9 => h9) rfl dX1_countFrom_33 ?_
          refine lv_iload_n hx hb dX1_countFrom_36 rfl (lv_at hl 3 rfl) ?_
          refine lv_iload_n hx hb dX1_countFrom_37 rfl (lv_at hl 0 rfl) ?_
          refine va_iast hx hb hK hP hD hS 2 1 rfl rfl (by unfold vp_in; decide) dX1_countFrom_38 (fun H locs hP9 hD9 hS9 => ?_)
          clear hP hD hS
          obtain ⟨g_7, eg_7⟩ : ∃ y, upd fa2_3 (3 : Int32).toNatClampNeg (nI wd3) = y := ⟨_, rfl⟩
          rw [eg_7] at hP9 hD9
          refine reW [wO q0 1 [.ref q1, .ref er, .ref q2, .ref q3, .ref q4, .ref h0, .int (nI ql), .int qo], wI (cy 1) q2 24 (fa3_3), wI (cy 1) q1 5 (g_7), wO h0 4 [.ref h1, .ref h2, .ref h3, .ref h4, .ref h5, .ref h6, .ref h7, .ref h8, .ref h9, .ref h10, .ref h11, .int ys, hv1, hv2, hv3, hv4], wI (cy 1) h7 48 (fx), wI (cy 1) h1 4 (fc), (er, .inl (cy 4, 4, .inr (.inr (.inr (.inr (eF (ea 0) (ea 1) (ea 2) (ea 3))))))), wO (ea 0) 2 [.ref (eg 0), .ref (ef 0), .int (et 0), .int (nI (el 0)), .int (nI (ei 0))], wI (cy 1) (eg 0) 10 (gc 0), wI (cy 1) (ef 0) 7 (xc 0), wO (ea 1) 2 [.ref (eg 1), .ref (ef 1), .int (et 1), .int (nI (el 1)), .int (nI (ei 1))], wI (cy 1) (eg 1) 10 (gc 1), wI (cy 1) (ef 1) 7 (xc 1), wO (ea 2) 2 [.ref (eg 2), .ref (ef 2), .int (et 2), .int (nI (el 2)), .int (nI (ei 2))], wI (cy 1) (eg 2) 10 (gc 2), wI (cy 1) (ef 2) 7 (xc 2), wO (ea 3) 2 [.ref (eg 3), .ref (ef 3), .int (et 3), .int (nI (el 3)), .int (nI (ei 3))], wI (cy 1) (eg 3) 10 (gc 3), wI (cy 1) (ef 3) 7 (xc 3)] hP9 hD9 hS9 (fun hP hD hS => ?_)
          clear hP9 hD9 hS9
          refine lv_iload_n hx hb dX1_countFrom_39 rfl (lv_at hl 3 rfl) ?_
          refine lv_aload_n hx hb dX1_countFrom_40 rfl (lv_at hl 2 rfl) ?_
          refine va_get (D := D) (ci := 1) (v := .int (nI ql)) (C := RX1) (T := TX1) (N := 8) hx hb hg i_X1 hown hK hP 0 rfl rfl 6 (by decide) (hg _ m_559) (fun _ h9 => h9) rfl dX1_countFrom_41 ?_
          refine lv_iconst (v := 1) hx hb dX1_countFrom_44 (by decide) ?_
          refine lv_isub hx hb dX1_countFrom_45 ?_
          refine lv_topi (fun y_8 hy_8 => ?_)
          obtain rfl : y_8 = nI (ql - 1) := hy_8.trans (pk_sub (a := ql) (b := 1) (by omega))
          refine lv_icmp_ne (tgt := 69) hx hb dX1_countFrom_46 (by decide) (fun c_9 => ?_) (fun c_9 => ?_)
          · have q_10 : ¬ 3 = (ql - 1) := q_ne (a := 3) (b := (ql - 1)) rfl rfl (by omega) (by omega) c_9
            refine lv_aload_n hx hb dX1_countFrom_69 rfl (lv_at hl 2 rfl) ?_
            refine lv_iload_n hx hb dX1_countFrom_70 rfl (lv_at hl 3 rfl) ?_
            refine lv_iload_n hx hb dX1_countFrom_71 rfl (lv_at hl 0 rfl) ?_
            refine x_callVv (q := (RX1, TX1, 8)) (ci := 1) (q0 := 0) (wr := [wI (cy 1) q1 5 (g_7)]) (rest := []) ⟨hx, hb, hml, hown, hg, hl.1⟩ k_X1_66 (s_goOn l D cy q0 q1 q2 q3 q4 er ql qo fa3_3 h0 h1 h2 h3 h4 h5 h6 h7 h8 h9 h10 h11 ((.int ys)) hv1 hv2 hv3 hv4 fx fc c0 c1 c2 c3 ea eg ef et el ei gc xc 3 wd3 (ha4_3) (hnx) (hcn) (by omega) (by omega) (by omega) (by omega) (by omega) (by omega)) E0_blind hK hP hD hS hA [0, 1, 3, 4, 5, 6, 7, 8, 9, 10, 11, 12, 13, 14, 15, 16, 17, 18] [2] ⟨rfl, rfl, by decide +kernel, by decide +kernel, by decide +kernel⟩ rfl rfl (fun _ _ _ => trivial) dX1_countFrom_72 rfl rfl (Nat.le_of_ble_eq_true rfl) ⟨Nat.le_of_ble_eq_true rfl, Nat.le_of_ble_eq_true rfl⟩ ⟨Nat.le_of_ble_eq_true rfl, Nat.le_of_ble_eq_true rfl⟩ (fun zu11 H locs hw11 hP9 hD9 hS9 => ?_)
            clear hP hD hS
            obtain ⟨fph2_12, rfl⟩ : ∃ z, z = zu11 := ⟨_, rfl⟩
            refine reW [wI (cy 1) q1 5 (g_7), wO q0 1 [.ref q1, .ref er, .ref q2, .ref q3, .ref q4, .ref h0, .int (nI ql), .int qo], wI (cy 1) q2 24 (fph2_12), wO h0 4 [.ref h1, .ref h2, .ref h3, .ref h4, .ref h5, .ref h6, .ref h7, .ref h8, .ref h9, .ref h10, .ref h11, .int ys, hv1, hv2, hv3, hv4], wI (cy 1) h7 48 (fx), wI (cy 1) h1 4 (fc), (er, .inl (cy 4, 4, .inr (.inr (.inr (.inr (eF (ea 0) (ea 1) (ea 2) (ea 3))))))), wO (ea 0) 2 [.ref (eg 0), .ref (ef 0), .int (et 0), .int (nI (el 0)), .int (nI (ei 0))], wI (cy 1) (eg 0) 10 (gc 0), wI (cy 1) (ef 0) 7 (xc 0), wO (ea 1) 2 [.ref (eg 1), .ref (ef 1), .int (et 1), .int (nI (el 1)), .int (nI (ei 1))], wI (cy 1) (eg 1) 10 (gc 1), wI (cy 1) (ef 1) 7 (xc 1), wO (ea 2) 2 [.ref (eg 2), .ref (ef 2), .int (et 2), .int (nI (el 2)), .int (nI (ei 2))], wI (cy 1) (eg 2) 10 (gc 2), wI (cy 1) (ef 2) 7 (xc 2), wO (ea 3) 2 [.ref (eg 3), .ref (ef 3), .int (et 3), .int (nI (el 3)), .int (nI (ei 3))], wI (cy 1) (eg 3) 10 (gc 3), wI (cy 1) (ef 3) 7 (xc 3)] hP9 hD9 hS9 (fun hP hD hS => ?_)
            clear hP9 hD9 hS9
            refine W.widen (k := 0) (n := 0) (Nat.le_of_ble_eq_true rfl) (Nat.le_of_ble_eq_true rfl) ?_
            replace hw11 : (pRow fph2_12) := hw11
            have f_13 := hw11
            refine lv_iload_n hx hb dX1_countFrom_75 rfl (lv_at hl 1 rfl) ?_
            refine lv_aload_n hx hb dX1_countFrom_76 rfl (lv_at hl 2 rfl) ?_
            refine lv_iload_n hx hb dX1_countFrom_77 rfl (lv_at hl 3 rfl) ?_
            refine lv_iconst (v := 1) hx hb dX1_countFrom_78 (by decide) ?_
            refine lv_iadd hx hb dX1_countFrom_79 ?_
            refine lv_topi (fun y_14 hy_14 => ?_)
            obtain rfl : y_14 = 4 := hy_14.trans (by decide +kernel)
            refine x_callVi (q := (RX1, TX1, 8)) (ci := 1) (q0 := 0) (wr := []) (rest := [.int lx2_3]) ⟨hx, hb, hml, hown, hg, hl.1⟩ k_X1_58 (s_countFrom4 l D cy q0 q1 q2 q3 q4 er ql qo fph2_12 g_7 h0 h1 h2 h3 h4 h5 h6 h7 h8 h9 h10 h11 hv1 hv2 hv3 hv4 ys fx fc c0 c1 c2 c3 ea eg ef et el ei gc xc (f_13) (hnx) (hcn) (by omega) (by omega) (by omega) (by omega) (by omega)) E0_blind hK hP hD hS hA [1, 2, 0, 3, 4, 5, 6, 7, 8, 9, 10, 11, 12, 13, 14, 15, 16, 17, 18] [] ⟨rfl, rfl, by decide +kernel, by decide +kernel, by decide +kernel⟩ rfl rfl (fun _ _ _ => trivial) dX1_countFrom_80 rfl rfl (Nat.le_of_ble_eq_true rfl) ⟨Nat.le_of_ble_eq_true rfl, Nat.le_of_ble_eq_true rfl⟩ ⟨Nat.le_of_ble_eq_true rfl, Nat.le_of_ble_eq_true rfl⟩ (fun zr15 zu15 H locs hw15 hP9 hD9 hS9 => ?_)
            clear hP hD hS
            obtain ⟨fph2_16, fy2_17⟩ := zu15
            refine reW [wO q0 1 [.ref q1, .ref er, .ref q2, .ref q3, .ref q4, .ref h0, .int (nI ql), .int qo], wI (cy 1) q2 24 (fph2_16), wI (cy 1) q1 5 (fy2_17), wO h0 4 [.ref h1, .ref h2, .ref h3, .ref h4, .ref h5, .ref h6, .ref h7, .ref h8, .ref h9, .ref h10, .ref h11, .int ys, hv1, hv2, hv3, hv4], wI (cy 1) h7 48 (fx), wI (cy 1) h1 4 (fc), (er, .inl (cy 4, 4, .inr (.inr (.inr (.inr (eF (ea 0) (ea 1) (ea 2) (ea 3))))))), wO (ea 0) 2 [.ref (eg 0), .ref (ef 0), .int (et 0), .int (nI (el 0)), .int (nI (ei 0))], wI (cy 1) (eg 0) 10 (gc 0), wI (cy 1) (ef 0) 7 (xc 0), wO (ea 1) 2 [.ref (eg 1), .ref (ef 1), .int (et 1), .int (nI (el 1)), .int (nI (ei 1))], wI (cy 1) (eg 1) 10 (gc 1), wI (cy 1) (ef 1) 7 (xc 1), wO (ea 2) 2 [.ref (eg 2), .ref (ef 2), .int (et 2), .int (nI (el 2)), .int (nI (ei 2))], wI (cy 1) (eg 2) 10 (gc 2), wI (cy 1) (ef 2) 7 (xc 2), wO (ea 3) 2 [.ref (eg 3), .ref (ef 3), .int (et 3), .int (nI (el 3)), .int (nI (ei 3))], wI (cy 1) (eg 3) 10 (gc 3), wI (cy 1) (ef 3) 7 (xc 3)] hP9 hD9 hS9 (fun hP hD hS => ?_)
            clear hP9 hD9 hS9
            refine W.widen (k := 0) (n := 0) (Nat.le_of_ble_eq_true rfl) (Nat.le_of_ble_eq_true rfl) ?_
            replace hw15 : (pRow fph2_16) := hw15
            have f_18 := hw15
            refine lv_iadd hx hb dX1_countFrom_83 ?_
            refine lv_topi (fun x_19 ex_19 => ?_)
            refine lv_istore_n (lv' := [(2, .int x_19), (3, .int (nI wd3)), (0, .ref q0), (1, .int 3)]) hx hb dX1_countFrom_84 rfl hl (by decide) rfl (fun ls hl => ?_)
            refine lv_aload_n hx hb dX1_countFrom_85 rfl (lv_at hl 2 rfl) ?_
            refine va_get (D := D) (ci := 1) (v := .int qo) (C := RX1) (T := TX1) (N := 8) hx hb hg i_X1 hown hK hP 0 rfl rfl 7 (by decide) (hg _ m_560) (fun _ h9 => h9) rfl dX1_countFrom_86 ?_
            refine lv_if_eq (tgt := 98) hx hb dX1_countFrom_89 (by decide) (fun c_89 => ?_) (fun c_89 => ?_)
            · refine lv_iinc (v := nI (wd3 + 1)) (lv' := [(3, .int (nI (wd3 + 1))), (2, .int x_19), (0, .ref q0), (1, .int 3)]) hx hb dX1_countFrom_98 hl (k := 1) rfl (nI_add wd3 1) (by decide) rfl (fun ls hl => ?_)
              refine lv_goto (tgt := 19) hx hb dX1_countFrom_101 (by decide) ?_
              exact ih3  x_19 ((wd3 + 1)) fy2_17 fph2_16 f_18 (by omega) (by omega) _ _ (hP.sub [0, 1, 2, 3, 4, 5, 6, 7, 8, 9, 10, 11, 12, 13, 14, 15, 16, 17, 18] rfl) (hD.sub [0, 1, 2, 3, 4, 5, 6, 7, 8, 9, 10, 11, 12, 13, 14, 15, 16, 17, 18] (by decide +kernel) rfl) hS ls (lv_sub hl [0, 1, 2, 3] rfl)
            · refine lv_iload_n hx hb dX1_countFrom_92 rfl (lv_at hl 0 rfl) ?_
              refine lv_if_le (tgt := 98) hx hb dX1_countFrom_93 (by decide) (fun c_93 => ?_) (fun c_93 => ?_)
              · refine lv_iinc (v := nI (wd3 + 1)) (lv' := [(3, .int (nI (wd3 + 1))), (2, .int x_19), (0, .ref q0), (1, .int 3)]) hx hb dX1_countFrom_98 hl (k := 1) rfl (nI_add wd3 1) (by decide) rfl (fun ls hl => ?_)
                refine lv_goto (tgt := 19) hx hb dX1_countFrom_101 (by decide) ?_
                exact ih3  x_19 ((wd3 + 1)) fy2_17 fph2_16 f_18 (by omega) (by omega) _ _ (hP.sub [0, 1, 2, 3, 4, 5, 6, 7, 8, 9, 10, 11, 12, 13, 14, 15, 16, 17, 18] rfl) (hD.sub [0, 1, 2, 3, 4, 5, 6, 7, 8, 9, 10, 11, 12, 13, 14, 15, 16, 17, 18] (by decide +kernel) rfl) hS ls (lv_sub hl [0, 1, 2, 3] rfl)
              · refine lv_iload_n hx hb dX1_countFrom_96 rfl (lv_at hl 0 rfl) ?_
                exact x_iret hQ hx hb hr hlocks hK hP hD hS dX1_countFrom_97 (fph2_16, fy2_17) (f_18) [0, 1, 2, 3, 4, 5, 6, 7, 8, 9, 10, 11, 12, 13, 14, 15, 16, 17, 18] (by decide +kernel) rfl (Nat.le_of_ble_eq_true rfl) (Nat.le_of_ble_eq_true rfl)
          · have q_10 : 3 = (ql - 1) := q_eq (a := 3) (b := (ql - 1)) rfl rfl (by omega) (by omega) c_9
            refine lv_iload_n hx hb dX1_countFrom_49 rfl (lv_at hl 1 rfl) ?_
            refine lv_aload_n hx hb dX1_countFrom_50 rfl (lv_at hl 2 rfl) ?_
            refine lv_iload_n hx hb dX1_countFrom_51 rfl (lv_at hl 3 rfl) ?_
            refine lv_iload_n hx hb dX1_countFrom_52 rfl (lv_at hl 0 rfl) ?_
            refine x_callVi (q := (RX1, TX1, 8)) (ci := 1) (q0 := 0) (wr := [wI (cy 1) q1 5 (g_7)]) (rest := [.int lx2_3]) ⟨hx, hb, hml, hown, hg, hl.1⟩ k_X1_62 (s_pardonsWithLast l D cy q0 q1 q2 q3 q4 er ql qo fa3_3 h0 h1 h2 h3 h4 h5 h6 h7 h8 h9 h10 h11 hv1 hv2 hv3 hv4 ys fx fc c0 c1 c2 c3 ea eg ef et el ei gc xc 3 wd3 (ha4_3) (hnx) (hcn) (by omega) (by omega) (by omega) (by omega) (by omega) (by omega)) E0_blind hK hP hD hS hA [0, 1, 3, 4, 5, 6, 7, 8, 9, 10, 11, 12, 13, 14, 15, 16, 17, 18] [2] ⟨rfl, rfl, by decide +kernel, by decide +kernel, by decide +kernel⟩ rfl rfl (fun _ _ _ => trivial) dX1_countFrom_53 rfl rfl (Nat.le_of_ble_eq_true rfl) ⟨Nat.le_of_ble_eq_true rfl, Nat.le_of_ble_eq_true rfl⟩ ⟨Nat.le_of_ble_eq_true rfl, Nat.le_of_ble_eq_true rfl⟩ (fun zr20 zu20 H locs hw20 hP9 hD9 hS9 => ?_)
            clear hP hD hS
            refine reW [wI (cy 1) q1 5 (g_7), wO q0 1 [.ref q1, .ref er, .ref q2, .ref q3, .ref q4, .ref h0, .int (nI ql), .int qo], wI (cy 1) q2 24 (fa3_3), wO h0 4 [.ref h1, .ref h2, .ref h3, .ref h4, .ref h5, .ref h6, .ref h7, .ref h8, .ref h9, .ref h10, .ref h11, .int ys, hv1, hv2, hv3, hv4], wI (cy 1) h7 48 (fx), wI (cy 1) h1 4 (fc), (er, .inl (cy 4, 4, .inr (.inr (.inr (.inr (eF (ea 0) (ea 1) (ea 2) (ea 3))))))), wO (ea 0) 2 [.ref (eg 0), .ref (ef 0), .int (et 0), .int (nI (el 0)), .int (nI (ei 0))], wI (cy 1) (eg 0) 10 (gc 0), wI (cy 1) (ef 0) 7 (xc 0), wO (ea 1) 2 [.ref (eg 1), .ref (ef 1), .int (et 1), .int (nI (el 1)), .int (nI (ei 1))], wI (cy 1) (eg 1) 10 (gc 1), wI (cy 1) (ef 1) 7 (xc 1), wO (ea 2) 2 [.ref (eg 2), .ref (ef 2), .int (et 2), .int (nI (el 2)), .int (nI (ei 2))], wI (cy 1) (eg 2) 10 (gc 2), wI (cy 1) (ef 2) 7 (xc 2), wO (ea 3) 2 [.ref (eg 3), .ref (ef 3), .int (et 3), .int (nI (el 3)), .int (nI (ei 3))], wI (cy 1) (eg 3) 10 (gc 3), wI (cy 1) (ef 3) 7 (xc 3)] hP9 hD9 hS9 (fun hP hD hS => ?_)
            clear hP9 hD9 hS9
            refine W.widen (k := 0) (n := 0) (Nat.le_of_ble_eq_true rfl) (Nat.le_of_ble_eq_true rfl) ?_
            replace hw20 : (zr20 = 0 ∨ zr20 = 1) := hw20
            have f_21 := hw20
            refine lv_if_eq (tgt := 63) hx hb dX1_countFrom_56 (by decide) (fun c_56 => ?_) (fun c_56 => ?_)
            · refine lv_iconst (v := 0) hx hb dX1_countFrom_63 (by decide) ?_
              refine lv_iadd hx hb dX1_countFrom_64 ?_
              refine lv_topi (fun x_22 ex_22 => ?_)
              refine lv_istore_n (lv' := [(2, .int x_22), (3, .int (nI wd3)), (0, .ref q0), (1, .int 3)]) hx hb dX1_countFrom_65 rfl hl (by decide) rfl (fun ls hl => ?_)
              refine lv_goto (tgt := 85) hx hb dX1_countFrom_66 (by decide) ?_
              refine lv_aload_n hx hb dX1_countFrom_85 rfl (lv_at hl 2 rfl) ?_
              refine va_get (D := D) (ci := 1) (v := .int qo) (C := RX1) (T := TX1) (N := 8) hx hb hg i_X1 hown hK hP 1 rfl rfl 7 (by decide) (hg _ m_560) (fun _ h9 => h9) rfl dX1_countFrom_86 ?_
              refine lv_if_eq (tgt := 98) hx hb dX1_countFrom_89 (by decide) (fun c_89 => ?_) (fun c_89 => ?_)
              · refine lv_iinc (v := nI (wd3 + 1)) (lv' := [(3, .int (nI (wd3 + 1))), (2, .int x_22), (0, .ref q0), (1, .int 3)]) hx hb dX1_countFrom_98 hl (k := 1) rfl (nI_add wd3 1) (by decide) rfl (fun ls hl => ?_)
                refine lv_goto (tgt := 19) hx hb dX1_countFrom_101 (by decide) ?_
                exact ih3  x_22 ((wd3 + 1)) g_7 fa3_3 ha4_3 (by omega) (by omega) _ _ (hP.sub [1, 2, 0, 3, 4, 5, 6, 7, 8, 9, 10, 11, 12, 13, 14, 15, 16, 17, 18] rfl) (hD.sub [1, 2, 0, 3, 4, 5, 6, 7, 8, 9, 10, 11, 12, 13, 14, 15, 16, 17, 18] (by decide +kernel) rfl) hS ls (lv_sub hl [0, 1, 2, 3] rfl)
              · refine lv_iload_n hx hb dX1_countFrom_92 rfl (lv_at hl 0 rfl) ?_
                refine lv_if_le (tgt := 98) hx hb dX1_countFrom_93 (by decide) (fun c_93 => ?_) (fun c_93 => ?_)
                · refine lv_iinc (v := nI (wd3 + 1)) (lv' := [(3, .int (nI (wd3 + 1))), (2, .int x_22), (0, .ref q0), (1, .int 3)]) hx hb dX1_countFrom_98 hl (k := 1) rfl (nI_add wd3 1) (by decide) rfl (fun ls hl => ?_)
                  refine lv_goto (tgt := 19) hx hb dX1_countFrom_101 (by decide) ?_
                  exact ih3  x_22 ((wd3 + 1)) g_7 fa3_3 ha4_3 (by omega) (by omega) _ _ (hP.sub [1, 2, 0, 3, 4, 5, 6, 7, 8, 9, 10, 11, 12, 13, 14, 15, 16, 17, 18] rfl) (hD.sub [1, 2, 0, 3, 4, 5, 6, 7, 8, 9, 10, 11, 12, 13, 14, 15, 16, 17, 18] (by decide +kernel) rfl) hS ls (lv_sub hl [0, 1, 2, 3] rfl)
                · refine lv_iload_n hx hb dX1_countFrom_96 rfl (lv_at hl 0 rfl) ?_
                  exact x_iret hQ hx hb hr hlocks hK hP hD hS dX1_countFrom_97 (fa3_3, g_7) (ha4_3) [1, 2, 0, 3, 4, 5, 6, 7, 8, 9, 10, 11, 12, 13, 14, 15, 16, 17, 18] (by decide +kernel) rfl (Nat.le_of_ble_eq_true rfl) (Nat.le_of_ble_eq_true rfl)
            · refine lv_iconst (v := 1) hx hb dX1_countFrom_59 (by decide) ?_
              refine lv_goto (tgt := 64) hx hb dX1_countFrom_60 (by decide) ?_
              refine lv_iadd hx hb dX1_countFrom_64 ?_
              refine lv_topi (fun x_23 ex_23 => ?_)
              refine lv_istore_n (lv' := [(2, .int x_23), (3, .int (nI wd3)), (0, .ref q0), (1, .int 3)]) hx hb dX1_countFrom_65 rfl hl (by decide) rfl (fun ls hl => ?_)
              refine lv_goto (tgt := 85) hx hb dX1_countFrom_66 (by decide) ?_
              refine lv_aload_n hx hb dX1_countFrom_85 rfl (lv_at hl 2 rfl) ?_
              refine va_get (D := D) (ci := 1) (v := .int qo) (C := RX1) (T := TX1) (N := 8) hx hb hg i_X1 hown hK hP 1 rfl rfl 7 (by decide) (hg _ m_560) (fun _ h9 => h9) rfl dX1_countFrom_86 ?_
              refine lv_if_eq (tgt := 98) hx hb dX1_countFrom_89 (by decide) (fun c_89 => ?_) (fun c_89 => ?_)
              · refine lv_iinc (v := nI (wd3 + 1)) (lv' := [(3, .int (nI (wd3 + 1))), (2, .int x_23), (0, .ref q0), (1, .int 3)]) hx hb dX1_countFrom_98 hl (k := 1) rfl (nI_add wd3 1) (by decide) rfl (fun ls hl => ?_)
                refine lv_goto (tgt := 19) hx hb dX1_countFrom_101 (by decide) ?_
                exact ih3  x_23 ((wd3 + 1)) g_7 fa3_3 ha4_3 (by omega) (by omega) _ _ (hP.sub [1, 2, 0, 3, 4, 5, 6, 7, 8, 9, 10, 11, 12, 13, 14, 15, 16, 17, 18] rfl) (hD.sub [1, 2, 0, 3, 4, 5, 6, 7, 8, 9, 10, 11, 12, 13, 14, 15, 16, 17, 18] (by decide +kernel) rfl) hS ls (lv_sub hl [0, 1, 2, 3] rfl)
              · refine lv_iload_n hx hb dX1_countFrom_92 rfl (lv_at hl 0 rfl) ?_
                refine lv_if_le (tgt := 98) hx hb dX1_countFrom_93 (by decide) (fun c_93 => ?_) (fun c_93 => ?_)
                · refine lv_iinc (v := nI (wd3 + 1)) (lv' := [(3, .int (nI (wd3 + 1))), (2, .int x_23), (0, .ref q0), (1, .int 3)]) hx hb dX1_countFrom_98 hl (k := 1) rfl (nI_add wd3 1) (by decide) rfl (fun ls hl => ?_)
                  refine lv_goto (tgt := 19) hx hb dX1_countFrom_101 (by decide) ?_
                  exact ih3  x_23 ((wd3 + 1)) g_7 fa3_3 ha4_3 (by omega) (by omega) _ _ (hP.sub [1, 2, 0, 3, 4, 5, 6, 7, 8, 9, 10, 11, 12, 13, 14, 15, 16, 17, 18] rfl) (hD.sub [1, 2, 0, 3, 4, 5, 6, 7, 8, 9, 10, 11, 12, 13, 14, 15, 16, 17, 18] (by decide +kernel) rfl) hS ls (lv_sub hl [0, 1, 2, 3] rfl)
                · refine lv_iload_n hx hb dX1_countFrom_96 rfl (lv_at hl 0 rfl) ?_
                  exact x_iret hQ hx hb hr hlocks hK hP hD hS dX1_countFrom_97 (fa3_3, g_7) (ha4_3) [1, 2, 0, 3, 4, 5, 6, 7, 8, 9, 10, 11, 12, 13, 14, 15, 16, 17, 18] (by decide +kernel) rfl (Nat.le_of_ble_eq_true rfl) (Nat.le_of_ble_eq_true rfl)
    exact loop3 _ 0 0 fy fph hph (by omega) (Nat.le_refl _) _ _ (hP.sub [0, 1, 2, 3, 4, 5, 6, 7, 8, 9, 10, 11, 12, 13, 14, 15, 16, 17, 18] rfl) (hD.sub [0, 1, 2, 3, 4, 5, 6, 7, 8, 9, 10, 11, 12, 13, 14, 15, 16, 17, 18] (by decide +kernel) rfl) hS ls (lv_sub hl [0, 1, 2, 3] rfl)
set_option maxHeartbeats 1000000 in
set_option maxRecDepth 100000 in
theorem s_countFrom2 (l : Launch) (D : va_G) (cy : Nat → ClassId) (q0 : Nat) (q1 : Nat) (q2 : Nat) (q3 : Nat) (q4 : Nat) (er : Nat) (ql : Nat) (qo : Int32) (fph : Nat → Int32) (fy : Nat → Int32) (h0 : Nat) (h1 : Nat) (h2 : Nat) (h3 : Nat) (h4 : Nat) (h5 : Nat) (h6 : Nat) (h7 : Nat) (h8 : Nat) (h9 : Nat) (h10 : Nat) (h11 : Nat) (hv1 : Value) (hv2 : Value) (hv3 : Value) (hv4 : Value) (ys : Int32) (fx : Nat → Int32) (fc : Nat → Int32) (c0 : Nat) (c1 : Nat) (c2 : Nat) (c3 : Nat) (ea : Nat → Nat) (eg : Nat → Nat) (ef : Nat → Nat) (et : Nat → Int32) (el : Nat → Nat) (ei : Nat → Nat) (gc : Nat → Nat → Int32) (xc : Nat → Nat → Int32) (hph : pRow fph) (hnx : rng fx 48 5) (hcn : cntOK fc c0 c1 c2 c3) (hc0 : c0 ≤ 8) (hc1 : c1 ≤ 4) (hc2 : c2 ≤ 4) (hc3 : c3 ≤ 6) (hql : ql ≤ 5) : XMi l D (tyL cy) E0 yX1_countFrom cX1_countFrom 4 (some .int) (rmk 8 0 0) [.ref q0, .int 2] [wO q0 1 [.ref q1, .ref er, .ref q2, .ref q3, .ref q4, .ref h0, .int (nI ql), .int qo], wI (cy 1) q2 24 (fph), wI (cy 1) q1 5 (fy), wO h0 4 [.ref h1, .ref h2, .ref h3, .ref h4, .ref h5, .ref h6, .ref h7, .ref h8, .ref h9, .ref h10, .ref h11, .int ys, hv1, hv2, hv3, hv4], wI (cy 1) h7 48 (fx), wI (cy 1) h1 4 (fc), (er, .inl (cy 4, 4, .inr (.inr (.inr (.inr (eF (ea 0) (ea 1) (ea 2) (ea 3))))))), wO (ea 0) 2 [.ref (eg 0), .ref (ef 0), .int (et 0), .int (nI (el 0)), .int (nI (ei 0))], wI (cy 1) (eg 0) 10 (gc 0), wI (cy 1) (ef 0) 7 (xc 0), wO (ea 1) 2 [.ref (eg 1), .ref (ef 1), .int (et 1), .int (nI (el 1)), .int (nI (ei 1))], wI (cy 1) (eg 1) 10 (gc 1), wI (cy 1) (ef 1) 7 (xc 1), wO (ea 2) 2 [.ref (eg 2), .ref (ef 2), .int (et 2), .int (nI (el 2)), .int (nI (ei 2))], wI (cy 1) (eg 2) 10 (gc 2), wI (cy 1) (ef 2) 7 (xc 2), wO (ea 3) 2 [.ref (eg 3), .ref (ef 3), .int (et 3), .int (nI (el 3)), .int (nI (ei 3))], wI (cy 1) (eg 3) 10 (gc 3), wI (cy 1) (ef 3) 7 (xc 3)] (fun (r : Int32) (u : (Nat → Int32) × (Nat → Int32)) => (pRow u.1)) (fun (u : (Nat → Int32) × (Nat → Int32)) => [wO q0 1 [.ref q1, .ref er, .ref q2, .ref q3, .ref q4, .ref h0, .int (nI ql), .int qo], wI (cy 1) q2 24 (u.1), wI (cy 1) q1 5 (u.2), wO h0 4 [.ref h1, .ref h2, .ref h3, .ref h4, .ref h5, .ref h6, .ref h7, .ref h8, .ref h9, .ref h10, .ref h11, .int ys, hv1, hv2, hv3, hv4], wI (cy 1) h7 48 (fx), wI (cy 1) h1 4 (fc), (er, .inl (cy 4, 4, .inr (.inr (.inr (.inr (eF (ea 0) (ea 1) (ea 2) (ea 3))))))), wO (ea 0) 2 [.ref (eg 0), .ref (ef 0), .int (et 0), .int (nI (el 0)), .int (nI (ei 0))], wI (cy 1) (eg 0) 10 (gc 0), wI (cy 1) (ef 0) 7 (xc 0), wO (ea 1) 2 [.ref (eg 1), .ref (ef 1), .int (et 1), .int (nI (el 1)), .int (nI (ei 1))], wI (cy 1) (eg 1) 10 (gc 1), wI (cy 1) (ef 1) 7 (xc 1), wO (ea 2) 2 [.ref (eg 2), .ref (ef 2), .int (et 2), .int (nI (el 2)), .int (nI (ei 2))], wI (cy 1) (eg 2) 10 (gc 2), wI (cy 1) (ef 2) 7 (xc 2), wO (ea 3) 2 [.ref (eg 3), .ref (ef 3), .int (et 3), .int (nI (el 3)), .int (nI (ei 3))], wI (cy 1) (eg 3) 10 (gc 3), wI (cy 1) (ef 3) 7 (xc 3)]) := by
  refine XMi.start (by decide) (Nat.le_of_ble_eq_true rfl) ?_
  intro p e s m below meth c args A ls Q hat hQ
  obtain ⟨hx, hb, hr, hml, hown, hg, hlocks, hin, hK, hA, hP, hD, hS, hE, hl⟩ := hat
  have hown : s.vm.findClass RX1 = some m.cls := hown
  have hl : lv_has ls 4 [(0, .ref q0), (1, .int 2)] := hl
  refine lv_iconst (v := 0) hx hb dX1_countFrom_0 (by decide) ?_
  refine lv_istore_n (lv' := [(2, .int 0), (0, .ref q0), (1, .int 2)]) hx hb dX1_countFrom_1 rfl hl (by decide) rfl (fun ls hl => ?_)
  refine lv_iload_n hx hb dX1_countFrom_2 rfl (lv_at hl 2 rfl) ?_
  refine lv_aload_n hx hb dX1_countFrom_3 rfl (lv_at hl 1 rfl) ?_
  refine va_get (D := D) (ci := 1) (v := .int (nI ql)) (C := RX1) (T := TX1) (N := 8) hx hb hg i_X1 hown hK hP 0 rfl rfl 6 (by decide) (hg _ m_559) (fun _ h9 => h9) rfl dX1_countFrom_4 ?_
  refine lv_icmp_ge (tgt := 15) hx hb dX1_countFrom_7 (by decide) (fun c_1 => ?_) (fun c_1 => ?_)
  · have q_2 : ql ≤ 2 := q_le (a := ql) (b := 2) rfl rfl (by omega) (by omega) c_1
    refine lv_iload_n hx hb dX1_countFrom_15 rfl (lv_at hl 0 rfl) ?_
    exact x_iret hQ hx hb hr hlocks hK hP hD hS dX1_countFrom_16 (fph, fy) (hph) [0, 1, 2, 3, 4, 5, 6, 7, 8, 9, 10, 11, 12, 13, 14, 15, 16, 17, 18] (by decide +kernel) rfl (Nat.le_of_ble_eq_true rfl) (Nat.le_of_ble_eq_true rfl)
  · have q_2 : 2 < ql := q_nle (a := ql) (b := 2) rfl rfl (by omega) (by omega) c_1
    refine lv_iload_n hx hb dX1_countFrom_10 rfl (lv_at hl 2 rfl) ?_
    refine lv_iconst (v := 5) hx hb dX1_countFrom_11 (by decide) ?_
    refine lv_icmp_lt (tgt := 17) hx hb dX1_countFrom_12 (by decide) (fun _ => ?_) (fun h => absurd (by decide) h)
    refine lv_iconst (v := 0) hx hb dX1_countFrom_17 (by decide) ?_
    refine lv_istore_n (lv' := [(3, .int 0), (2, .int 0), (0, .ref q0), (1, .int 2)]) hx hb dX1_countFrom_18 rfl hl (by decide) rfl (fun ls hl => ?_)
    have loop3 : ∀ (zn : Nat) (lx2_3 : Int32) (wd3 : Nat) (fa2_3 : Nat → Int32) (fa3_3 : Nat → Int32), (pRow fa3_3) → (wd3 ≤ c0) → c0 - wd3 + 1 ≤ zn → ∀ (H : Heap) (locs : List Loc), va_P D vwCl [wO q0 1 [.ref q1, .ref er, .ref q2, .ref q3, .ref q4, .ref h0, .int (nI ql), .int qo], wI (cy 1) q2 24 (fa3_3), wI (cy 1) q1 5 (fa2_3), wO h0 4 [.ref h1, .ref h2, .ref h3, .ref h4, .ref h5, .ref h6, .ref h7, .ref h8, .ref h9, .ref h10, .ref h11, .int ys, hv1, hv2, hv3, hv4], wI (cy 1) h7 48 (fx), wI (cy 1) h1 4 (fc), (er, .inl (cy 4, 4, .inr (.inr (.inr (.inr (eF (ea 0) (ea 1) (ea 2) (ea 3))))))), wO (ea 0) 2 [.ref (eg 0), .ref (ef 0), .int (et 0), .int (nI (el 0)), .int (nI (ei 0))], wI (cy 1) (eg 0) 10 (gc 0), wI (cy 1) (ef 0) 7 (xc 0), wO (ea 1) 2 [.ref (eg 1), .ref (ef 1), .int (et 1), .int (nI (el 1)), .int (nI (ei 1))], wI (cy 1) (eg 1) 10 (gc 1), wI (cy 1) (ef 1) 7 (xc 1), wO (ea 2) 2 [.ref (eg 2), .ref (ef 2), .int (et 2), .int (nI (el 2)), .int (nI (ei 2))], wI (cy 1) (eg 2) 10 (gc 2), wI (cy 1) (ef 2) 7 (xc 2), wO (ea 3) 2 [.ref (eg 3), .ref (ef 3), .int (et 3), .int (nI (el 3)), .int (nI (ei 3))], wI (cy 1) (eg 3) 10 (gc 3), wI (cy 1) (ef 3) 7 (xc 3)] H → va_D A [wO q0 1 [.ref q1, .ref er, .ref q2, .ref q3, .ref q4, .ref h0, .int (nI ql), .int qo], wI (cy 1) q2 24 (fa3_3), wI (cy 1) q1 5 (fa2_3), wO h0 4 [.ref h1, .ref h2, .ref h3, .ref h4, .ref h5, .ref h6, .ref h7, .ref h8, .ref h9, .ref h10, .ref h11, .int ys, hv1, hv2, hv3, hv4], wI (cy 1) h7 48 (fx), wI (cy 1) h1 4 (fc), (er, .inl (cy 4, 4, .inr (.inr (.inr (.inr (eF (ea 0) (ea 1) (ea 2) (ea 3))))))), wO (ea 0) 2 [.ref (eg 0), .ref (ef 0), .int (et 0), .int (nI (el 0)), .int (nI (ei 0))], wI (cy 1) (eg 0) 10 (gc 0), wI (cy 1) (ef 0) 7 (xc 0), wO (ea 1) 2 [.ref (eg 1), .ref (ef 1), .int (et 1), .int (nI (el 1)), .int (nI (ei 1))], wI (cy 1) (eg 1) 10 (gc 1), wI (cy 1) (ef 1) 7 (xc 1), wO (ea 2) 2 [.ref (eg 2), .ref (ef 2), .int (et 2), .int (nI (el 2)), .int (nI (ei 2))], wI (cy 1) (eg 2) 10 (gc 2), wI (cy 1) (ef 2) 7 (xc 2), wO (ea 3) 2 [.ref (eg 3), .ref (ef 3), .int (et 3), .int (nI (el 3)), .int (nI (ei 3))], wI (cy 1) (eg 3) 10 (gc 3), wI (cy 1) (ef 3) 7 (xc 3)] → va_S A s.heap H locs → ∀ ls : Array Slot, lv_has ls 4 [(3, .int (nI wd3)), (2, .int lx2_3), (0, .ref q0), (1, .int 2)] → W p l e (rmk 8 0 0) s m args below meth c H locs 0 0 Q (F0 m 19 ls []) := by
      try clear hP hD hS
      intro zn
      induction zn with
      | zero => intro lx2_3 wd3 fa2_3 fa3_3 _ _ hz; exact absurd hz (by omega)
      | succ zn ih3 =>
        intro lx2_3 wd3 fa2_3 fa3_3 ha4_3 hf0_3 hmu3 H locs hP hD hS ls hl
        refine lv_iload_n hx hb dX1_countFrom_19 rfl (lv_at hl 0 rfl) ?_
        refine lv_aload_n hx hb dX1_countFrom_20 rfl (lv_at hl 2 rfl) ?_
        refine va_get (D := D) (ci := 1) (v := .ref h0) (C := RX1) (T := TX1) (N := 8) hx hb hg i_X1 hown hK hP 0 rfl rfl 5 (by decide) (hg _ m_558) (fun _ h9 => h9) rfl dX1_countFrom_21 ?_
        refine va_get (D := D) (ci := 4) (v := .ref h1) (C := RX4) (T := TX4) (N := 16) hx hb hg i_X4 hown hK hP 3 rfl rfl 0 (by decide) (hg _ m_331) (fun _ h9 => h9) rfl dX1_countFrom_24 ?_
        refine lv_iconst (v := 0) hx hb dX1_countFrom_27 (by decide) ?_
        refine va_iald hx hb hK hP 5 1 rfl rfl (by unfold vp_in; decide) dX1_countFrom_28 ?_
        refine lv_topi (fun y_4 hy_4 => ?_)
        obtain rfl : y_4 = nI c0 := hy_4.trans hcn.1
        refine lv_icmp_ge (tgt := 104) hx hb dX1_countFrom_29 (by decide) (fun c_5 => ?_) (fun c_5 => ?_)
        · have q_6 : c0 ≤ wd3 := q_le (a := c0) (b := wd3) rfl rfl (by omega) (by omega) c_5
          refine lv_iload_n hx hb dX1_countFrom_104 rfl (lv_at hl 1 rfl) ?_
          exact x_iret hQ hx hb hr hlocks hK hP hD hS dX1_countFrom_105 (fa3_3, fa2_3) (ha4_3) [0, 1, 2, 3, 4, 5, 6, 7, 8, 9, 10, 11, 12, 13, 14, 15, 16, 17, 18] (by decide +kernel) rfl (Nat.le_of_ble_eq_true rfl) (Nat.le_of_ble_eq_true rfl)
        · have q_6 : wd3 < c0 := q_nle (a := c0) (b := wd3) rfl rfl (by omega) (by omega) c_5
          refine lv_aload_n hx hb dX1_countFrom_32 rfl (lv_at hl 2 rfl) ?_
          refine va_get (D := D) (ci := 1) (v := .ref q1) (C := RX1) (T := TX1) (N := 8) hx hb hg i_X1 hown hK hP 0 rfl rfl 0 (by decide) (hg _ m_552) (fun _ h9 => h9) rfl dX1_countFrom_33 ?_
          refine lv_iload_n hx hb dX1_countFrom_36 rfl (lv_at hl 3 rfl) ?_
          refine lv_iload_n hx hb dX1_countFrom_37 rfl (lv_at hl 0 rfl) ?_
          refine va_iast hx hb hK hP hD hS 2 1 rfl rfl (by unfold vp_in; decide) dX1_countFrom_38 (fun H locs hP9 hD9 hS9 => ?_)
          clear hP hD hS
          obtain ⟨g_7, eg_7⟩ : ∃ y, upd fa2_3 (2 : Int32).toNatClampNeg (nI wd3) = y := ⟨_, rfl⟩
          rw [eg_7] at hP9 hD9
          refine reW [wO q0 1 [.ref q1, .ref er, .ref q2, .ref q3, .ref q4, .ref h0, .int (nI ql), .int qo], wI (cy 1) q2 24 (fa3_3), wI (cy 1) q1 5 (g_7), wO h0 4 [.ref h1, .ref h2, .ref h3, .ref h4, .ref h5, .ref h6, .ref h7, .ref h8, .ref h9, .ref h10, .ref h11, .int ys, hv1, hv2, hv3, hv4], wI (cy 1) h7 48 (fx), wI (cy 1) h1 4 (fc), (er, .inl (cy 4, 4, .inr (.inr (.inr (.inr (eF (ea 0) (ea 1) (ea 2) (ea 3))))))), wO (ea 0) 2 [.ref (eg 0), .ref (ef 0), .int (et 0), .int (nI (el 0)), .int (nI (ei 0))], wI (cy 1) (eg 0) 10 (gc 0), wI (cy 1) (ef 0) 7 (xc 0), wO (ea 1) 2 [.ref (eg 1), .ref (ef 1), .int (et 1), .int (nI (el 1)), .int (nI (ei 1))], wI (cy 1) (eg 1) 10 (gc 1), wI (cy 1) (ef 1) 7 (xc 1), wO (ea 2) 2 [.ref (eg 2), .ref (ef 2), .int (et 2), .int (nI (el 2)), .int (nI (ei 2))], wI (cy 1) (eg 2) 10 (gc 2), wI (cy 1) (ef 2) 7 (xc 2), wO (ea 3) 2 [.ref (eg 3), .ref (ef 3), .int (et 3), .int (nI (el 3)), .int (nI (ei 3))], wI (cy 1) (eg 3) 10 (gc 3), wI (cy 1) (ef 3) 7 (xc 3)] hP9 hD9 hS9 (fun hP hD hS => ?_)
          clear hP9 hD9 hS9
          refine lv_iload_n hx hb dX1_countFrom_39 rfl (lv_at hl 3 rfl) ?_
          refine lv_aload_n hx hb dX1_countFrom_40 rfl (lv_at hl 2 rfl) ?_
          refine va_get (D := D) (ci := 1) (v := .int (nI ql)) (C := RX1) (T := TX1) (N := 8) hx hb hg i_X1 hown hK hP 0 rfl rfl 6 (by decide) (hg _ m_559) (fun _ h9 => h9) rfl dX1_countFrom_41 ?_
          refine lv_iconst (v := 1) hx hb dX1_countFrom_44 (by decide) ?_
          refine lv_isub hx hb dX1_countFrom_45 ?_
          refine lv_topi (fun y_8 hy_8 => ?_)
          obtain rfl : y_8 = nI (ql - 1) := hy_8.trans (pk_sub (a := ql) (b := 1) (by omega))
          refine lv_icmp_ne (tgt := 69) hx hb dX1_countFrom_46 (by decide) (fun c_9 => ?_) (fun c_9 => ?_)
          · have q_10 : ¬ 2 = (ql - 1) := q_ne (a := 2) (b := (ql - 1)) rfl rfl (by omega) (by omega) c_9
            refine lv_aload_n hx hb dX1_countFrom_69 rfl (lv_at hl 2 rfl) ?_
            refine lv_iload_n hx hb dX1_countFrom_70 rfl (lv_at hl 3 rfl) ?_
            refine lv_iload_n hx hb dX1_countFrom_71 rfl (lv_at hl 0 rfl) ?_
            refine x_callVv (q := (RX1, TX1, 8)) (ci := 1) (q0 := 0) (wr := [wI (cy 1) q1 5 (g_7)]) (rest := []) ⟨hx, hb, hml, hown, hg, hl.1⟩ k_X1_66 (s_goOn l D cy q0 q1 q2 q3 q4 er ql qo fa3_3 h0 h1 h2 h3 h4 h5 h6 h7 h8 h9 h10 h11 ((.int ys)) hv1 hv2 hv3 hv4 fx fc c0 c1 c2 c3 ea eg ef et el ei gc xc 2 wd3 (ha4_3) (hnx) (hcn) (by omega) (by omega) (by omega) (by omega) (by omega) (by omega)) E0_blind hK hP hD hS hA [0, 1, 3, 4, 5, 6, 7, 8, 9, 10, 11, 12, 13, 14, 15, 16, 17, 18] [2] ⟨rfl, rfl, by decide +kernel, by decide +kernel, by decide +kernel⟩ rfl rfl (fun _ _ _ => trivial) dX1_countFrom_72 rfl rfl (Nat.le_of_ble_eq_true rfl) ⟨Nat.le_of_ble_eq_true rfl, Nat.le_of_ble_eq_true rfl⟩ ⟨Nat.le_of_ble_eq_true rfl, Nat.le_of_ble_eq_true rfl⟩ (fun zu11 H locs hw11 hP9 hD9 hS9 => ?_)
            clear hP hD hS
            obtain ⟨fph2_12, rfl⟩ : ∃ z, z = zu11 := ⟨_, rfl⟩
            refine reW [wI (cy 1) q1 5 (g_7), wO q0 1 [.ref q1, .ref er, .ref q2, .ref q3, .ref q4, .ref h0, .int (nI ql), .int qo], wI (cy 1) q2 24 (fph2_12), wO h0 4 [.ref h1, .ref h2, .ref h3, .ref h4, .ref h5, .ref h6, .ref h7, .ref h8, .ref h9, .ref h10, .ref h11, .int ys, hv1, hv2, hv3, hv4], wI (cy 1) h7 48 (fx), wI (cy 1) h1 4 (fc), (er, .inl (cy 4, 4, .inr (.inr (.inr (.inr (eF (ea 0) (ea 1) (ea 2) (ea 3))))))), wO (ea 0) 2 [.ref (eg 0), .ref (ef 0), .int (et 0), .int (nI (el 0)), .int (nI (ei 0))], wI (cy 1) (eg 0) 10 (gc 0), wI (cy 1) (ef 0) 7 (xc 0), wO (ea 1) 2 [.ref (eg 1), .ref (ef 1), .int (et 1), .int (nI (el 1)), .int (nI (ei 1))], wI (cy 1) (eg 1) 10 (gc 1), wI (cy 1) (ef 1) 7 (xc 1), wO (ea 2) 2 [.ref (eg 2), .ref (ef 2), .int (et 2), .int (nI (el 2)), .int (nI (ei 2))], wI (cy 1) (eg 2) 10 (gc 2), wI (cy 1) (ef 2) 7 (xc 2), wO (ea 3) 2 [.ref (eg 3), .ref (ef 3), .int (et 3), .int (nI (el 3)), .int (nI (ei 3))], wI (cy 1) (eg 3) 10 (gc 3), wI (cy 1) (ef 3) 7 (xc 3)] hP9 hD9 hS9 (fun hP hD hS => ?_)
            clear hP9 hD9 hS9
            refine W.widen (k := 0) (n := 0) (Nat.le_of_ble_eq_true rfl) (Nat.le_of_ble_eq_true rfl) ?_
            replace hw11 : (pRow fph2_12) := hw11
            have f_13 := hw11
            refine lv_iload_n hx hb dX1_countFrom_75 rfl (lv_at hl 1 rfl) ?_
            refine lv_aload_n hx hb dX1_countFrom_76 rfl (lv_at hl 2 rfl) ?_
            refine lv_iload_n hx hb dX1_countFrom_77 rfl (lv_at hl 3 rfl) ?_
            refine lv_iconst (v := 1) hx hb dX1_countFrom_78 (by decide) ?_
            refine lv_iadd hx hb dX1_countFrom_79 ?_
            refine lv_topi (fun y_14 hy_14 => ?_)
            obtain rfl : y_14 = 3 := hy_14.trans (by decide +kernel)
            refine x_callVi (q := (RX1, TX1, 8)) (ci := 1) (q0 := 0) (wr := []) (rest := [.int lx2_3]) ⟨hx, hb, hml, hown, hg, hl.1⟩ k_X1_58 (s_countFrom3 l D cy q0 q1 q2 q3 q4 er ql qo fph2_12 g_7 h0 h1 h2 h3 h4 h5 h6 h7 h8 h9 h10 h11 hv1 hv2 hv3 hv4 ys fx fc c0 c1 c2 c3 ea eg ef et el ei gc xc (f_13) (hnx) (hcn) (by omega) (by omega) (by omega) (by omega) (by omega)) E0_blind hK hP hD hS hA [1, 2, 0, 3, 4, 5, 6, 7, 8, 9, 10, 11, 12, 13, 14, 15, 16, 17, 18] [] ⟨rfl, rfl, by decide +kernel, by decide +kernel, by decide +kernel⟩ rfl rfl (fun _ _ _ => trivial) dX1_countFrom_80 rfl rfl (Nat.le_of_ble_eq_true rfl) ⟨Nat.le_of_ble_eq_true rfl, Nat.le_of_ble_eq_true rfl⟩ ⟨Nat.le_of_ble_eq_true rfl, Nat.le_of_ble_eq_true rfl⟩ (fun zr15 zu15 H locs hw15 hP9 hD9 hS9 => ?_)
            clear hP hD hS
            obtain ⟨fph2_16, fy2_17⟩ := zu15
            refine reW [wO q0 1 [.ref q1, .ref er, .ref q2, .ref q3, .ref q4, .ref h0, .int (nI ql), .int qo], wI (cy 1) q2 24 (fph2_16), wI (cy 1) q1 5 (fy2_17), wO h0 4 [.ref h1, .ref h2, .ref h3, .ref h4, .ref h5, .ref h6, .ref h7, .ref h8, .ref h9, .ref h10, .ref h11, .int ys, hv1, hv2, hv3, hv4], wI (cy 1) h7 48 (fx), wI (cy 1) h1 4 (fc), (er, .inl (cy 4, 4, .inr (.inr (.inr (.inr (eF (ea 0) (ea 1) (ea 2) (ea 3))))))), wO (ea 0) 2 [.ref (eg 0), .ref (ef 0), .int (et 0), .int (nI (el 0)), .int (nI (ei 0))], wI (cy 1) (eg 0) 10 (gc 0), wI (cy 1) (ef 0) 7 (xc 0), wO (ea 1) 2 [.ref (eg 1), .ref (ef 1), .int (et 1), .int (nI (el 1)), .int (nI (ei 1))], wI (cy 1) (eg 1) 10 (gc 1), wI (cy 1) (ef 1) 7 (xc 1), wO (ea 2) 2 [.ref (eg 2), .ref (ef 2), .int (et 2), .int (nI (el 2)), .int (nI (ei 2))], wI (cy 1) (eg 2) 10 (gc 2), wI (cy 1) (ef 2) 7 (xc 2), wO (ea 3) 2 [.ref (eg 3), .ref (ef 3), .int (et 3), .int (nI (el 3)), .int (nI (ei 3))], wI (cy 1) (eg 3) 10 (gc 3), wI (cy 1) (ef 3) 7 (xc 3)] hP9 hD9 hS9 (fun hP hD hS => ?_)
            clear hP9 hD9 hS9
            refine W.widen (k := 0) (n := 0) (Nat.le_of_ble_eq_true rfl) (Nat.le_of_ble_eq_true rfl) ?_
            replace hw15 : (pRow fph2_16) := hw15
            have f_18 := hw15
            refine lv_iadd hx hb dX1_countFrom_83 ?_
            refine lv_topi (fun x_19 ex_19 => ?_)
            refine lv_istore_n (lv' := [(2, .int x_19), (3, .int (nI wd3)), (0, .ref q0), (1, .int 2)]) hx hb dX1_countFrom_84 rfl hl (by decide) rfl (fun ls hl => ?_)
            refine lv_aload_n hx hb dX1_countFrom_85 rfl (lv_at hl 2 rfl) ?_
            refine va_get (D := D) (ci := 1) (v := .int qo) (C := RX1) (T := TX1) (N := 8) hx hb hg i_X1 hown hK hP 0 rfl rfl 7 (by decide) (hg _ m_560) (fun _ h9 => h9) rfl dX1_countFrom_86 ?_
            refine lv_if_eq (tgt := 98) hx hb dX1_countFrom_89 (by decide) (fun c_89 => ?_) (fun c_89 => ?_)
            · refine lv_iinc (v := nI (wd3 + 1)) (lv' := [(3, .int (nI (wd3 + 1))), (2, .int x_19), (0, .ref q0), (1, .int 2)]) hx hb dX1_countFrom_98 hl (k := 1) rfl (nI_add wd3 1) (by decide) rfl (fun ls hl => ?_)
              refine lv_goto (tgt := 19) hx hb dX1_countFrom_101 (by decide) ?_
              exact ih3  x_19 ((wd3 + 1)) fy2_17 fph2_16 f_18 (by omega) (by omega) _ _ (hP.sub [0, 1, 2, 3, 4, 5, 6, 7, 8, 9, 10, 11, 12, 13, 14, 15, 16, 17, 18] rfl) (hD.sub [0, 1, 2, 3, 4, 5, 6, 7, 8, 9, 10, 11, 12, 13, 14, 15, 16, 17, 18] (by decide +kernel) rfl) hS ls (lv_sub hl [0, 1, 2, 3] rfl)
            · refine lv_iload_n hx hb dX1_countFrom_92 rfl (lv_at hl 0 rfl) ?_
              refine lv_if_le (tgt := 98) hx hb dX1_countFrom_93 (by decide) (fun c_93 => ?_) (fun c_93 => ?_)
              · refine lv_iinc (v := nI (wd3 + 1)) (lv' := [(3, .int (nI (wd3 + 1))), (2, .int x_19), (0, .ref q0), (1, .int 2)]) hx hb dX1_countFrom_98 hl (k := 1) rfl (nI_add wd3 1) (by decide) rfl (fun ls hl => ?_)
                refine lv_goto (tgt := 19) hx hb dX1_countFrom_101 (by decide) ?_
                exact ih3  x_19 ((wd3 + 1)) fy2_17 fph2_16 f_18 (by omega) (by omega) _ _ (hP.sub [0, 1, 2, 3, 4, 5, 6, 7, 8, 9, 10, 11, 12, 13, 14, 15, 16, 17, 18] rfl) (hD.sub [0, 1, 2, 3, 4, 5, 6, 7, 8, 9, 10, 11, 12, 13, 14, 15, 16, 17, 18] (by decide +kernel) rfl) hS ls (lv_sub hl [0, 1, 2, 3] rfl)
              · refine lv_iload_n hx hb dX1_countFrom_96 rfl (lv_at hl 0 rfl) ?_
                exact x_iret hQ hx hb hr hlocks hK hP hD hS dX1_countFrom_97 (fph2_16, fy2_17) (f_18) [0, 1, 2, 3, 4, 5, 6, 7, 8, 9, 10, 11, 12, 13, 14, 15, 16, 17, 18] (by decide +kernel) rfl (Nat.le_of_ble_eq_true rfl) (Nat.le_of_ble_eq_true rfl)
          · have q_10 : 2 = (ql - 1) := q_eq (a := 2) (b := (ql - 1)) rfl rfl (by omega) (by omega) c_9
            refine lv_iload_n hx hb dX1_countFrom_49 rfl (lv_at hl 1 rfl) ?_
            refine lv_aload_n hx hb dX1_countFrom_50 rfl (lv_at hl 2 rfl) ?_
            refine lv_iload_n hx hb dX1_countFrom_51 rfl (lv_at hl 3 rfl) ?_
            refine lv_iload_n hx hb dX1_countFrom_52 rfl (lv_at hl 0 rfl) ?_
            refine x_callVi (q := (RX1, TX1, 8)) (ci := 1) (q0 := 0) (wr := [wI (cy 1) q1 5 (g_7)]) (rest := [.int lx2_3]) ⟨hx, hb, hml, hown, hg, hl.1⟩ k_X1_62 (s_pardonsWithLast l D cy q0 q1 q2 q3 q4 er ql qo fa3_3 h0 h1 h2 h3 h4 h5 h6 h7 h8 h9 h10 h11 hv1 hv2 hv3 hv4 ys fx fc c0 c1 c2 c3 ea eg ef et el ei gc xc 2 wd3 (ha4_3) (hnx) (hcn) (by omega) (by omega) (by omega) (by omega) (by omega) (by omega)) E0_blind hK hP hD hS hA [0, 1, 3, 4, 5, 6, 7, 8, 9, 10, 11, 12, 13, 14, 15, 16, 17, 18] [2] ⟨rfl, rfl, by decide +kernel, by decide +kernel, by decide +kernel⟩ rfl rfl (fun _ _ _ => trivial) dX1_countFrom_53 rfl rfl (Nat.le_of_ble_eq_true rfl) ⟨Nat.le_of_ble_eq_true rfl, Nat.le_of_ble_eq_true rfl⟩ ⟨Nat.le_of_ble_eq_true rfl, Nat.le_of_ble_eq_true rfl⟩ (fun zr20 zu20 H locs hw20 hP9 hD9 hS9 => ?_)
            clear hP hD hS
            refine reW [wI (cy 1) q1 5 (g_7), wO q0 1 [.ref q1, .ref er, .ref q2, .ref q3, .ref q4, .ref h0, .int (nI ql), .int qo], wI (cy 1) q2 24 (fa3_3), wO h0 4 [.ref h1, .ref h2, .ref h3, .ref h4, .ref h5, .ref h6, .ref h7, .ref h8, .ref h9, .ref h10, .ref h11, .int ys, hv1, hv2, hv3, hv4], wI (cy 1) h7 48 (fx), wI (cy 1) h1 4 (fc), (er, .inl (cy 4, 4, .inr (.inr (.inr (.inr (eF (ea 0) (ea 1) (ea 2) (ea 3))))))), wO (ea 0) 2 [.ref (eg 0), .ref (ef 0), .int (et 0), .int (nI (el 0)), .int (nI (ei 0))], wI (cy 1) (eg 0) 10 (gc 0), wI (cy 1) (ef 0) 7 (xc 0), wO (ea 1) 2 [.ref (eg 1), .ref (ef 1), .int (et 1), .int (nI (el 1)), .int (nI (ei 1))], wI (cy 1) (eg 1) 10 (gc 1), wI (cy 1) (ef 1) 7 (xc 1), wO (ea 2) 2 [.ref (eg 2), .ref (ef 2), .int (et 2), .int (nI (el 2)), .int (nI (ei 2))], wI (cy 1) (eg 2) 10 (gc 2), wI (cy 1) (ef 2) 7 (xc 2), wO (ea 3) 2 [.ref (eg 3), .ref (ef 3), .int (et 3), .int (nI (el 3)), .int (nI (ei 3))], wI (cy 1) (eg 3) 10 (gc 3), wI (cy 1) (ef 3) 7 (xc 3)] hP9 hD9 hS9 (fun hP hD hS => ?_)
            clear hP9 hD9 hS9
            refine W.widen (k := 0) (n := 0) (Nat.le_of_ble_eq_true rfl) (Nat.le_of_ble_eq_true rfl) ?_
            replace hw20 : (zr20 = 0 ∨ zr20 = 1) := hw20
            have f_21 := hw20
            refine lv_if_eq (tgt := 63) hx hb dX1_countFrom_56 (by decide) (fun c_56 => ?_) (fun c_56 => ?_)
            · refine lv_iconst (v := 0) hx hb dX1_countFrom_63 (by decide) ?_
              refine lv_iadd hx hb dX1_countFrom_64 ?_
              refine lv_topi (fun x_22 ex_22 => ?_)
              refine lv_istore_n (lv' := [(2, .int x_22), (3, .int (nI wd3)), (0, .ref q0), (1, .int 2)]) hx hb dX1_countFrom_65 rfl hl (by decide) rfl (fun ls hl => ?_)
              refine lv_goto (tgt := 85) hx hb dX1_countFrom_66 (by decide) ?_
              refine lv_aload_n hx hb dX1_countFrom_85 rfl (lv_at hl 2 rfl) ?_
              refine va_get (D := D) (ci := 1) (v := .int qo) (C := RX1) (T := TX1) (N := 8) hx hb hg i_X1 hown hK hP 1 rfl rfl 7 (by decide) (hg _ m_560) (fun _ h9 => h9) rfl dX1_countFrom_86 ?_
              refine lv_if_eq (tgt := 98) hx hb dX1_countFrom_89 (by decide) (fun c_89 => ?_) (fun c_89 => ?_)
              · refine lv_iinc (v := nI (wd3 + 1)) (lv' := [(3, .int (nI (wd3 + 1))), (2, .int x_22), (0, .ref q0), (1, .int 2)]) hx hb dX1_countFrom_98 hl (k := 1) rfl (nI_add wd3 1) (by decide) rfl (fun ls hl => ?_)
                refine lv_goto (tgt := 19) hx hb dX1_countFrom_101 (by decide) ?_
                exact ih3  x_22 ((wd3 + 1)) g_7 fa3_3 ha4_3 (by omega) (by omega) _ _ (hP.sub [1, 2, 0, 3, 4, 5, 6, 7, 8, 9, 10, 11, 12, 13, 14, 15, 16, 17, 18] rfl) (hD.sub [1, 2, 0, 3, 4, 5, 6, 7, 8, 9, 10, 11, 12, 13, 14, 15, 16, 17, 18] (by decide +kernel) rfl) hS ls (lv_sub hl [0, 1, 2, 3] rfl)
              · refine lv_iload_n hx hb dX1_countFrom_92 rfl (lv_at hl 0 rfl) ?_
                refine lv_if_le (tgt := 98) hx hb dX1_countFrom_93 (by decide) (fun c_93 => ?_) (fun c_93 => ?_)
                · refine lv_iinc (v := nI (wd3 + 1)) (lv' := [(3, .int (nI (wd3 + 1))), (2, .int x_22), (0, .ref q0), (1, .int 2)]) hx hb dX1_countFrom_98 hl (k := 1) rfl (nI_add wd3 1) (by decide) rfl (fun ls hl => ?_)
                  refine lv_goto (tgt := 19) hx hb dX1_countFrom_101 (by decide) ?_
                  exact ih3  x_22 ((wd3 + 1)) g_7 fa3_3 ha4_3 (by omega) (by omega) _ _ (hP.sub [1, 2, 0, 3, 4, 5, 6, 7, 8, 9, 10, 11, 12, 13, 14, 15, 16, 17, 18] rfl) (hD.sub [1, 2, 0, 3, 4, 5, 6, 7, 8, 9, 10, 11, 12, 13, 14, 15, 16, 17, 18] (by decide +kernel) rfl) hS ls (lv_sub hl [0, 1, 2, 3] rfl)
                · refine lv_iload_n hx hb dX1_countFrom_96 rfl (lv_at hl 0 rfl) ?_
                  exact x_iret hQ hx hb hr hlocks hK hP hD hS dX1_countFrom_97 (fa3_3, g_7) (ha4_3) [1, 2, 0, 3, 4, 5, 6, 7, 8, 9, 10, 11, 12, 13, 14, 15, 16, 17, 18] (by decide +kernel) rfl (Nat.le_of_ble_eq_true rfl) (Nat.le_of_ble_eq_true rfl)
            · refine lv_iconst (v := 1) hx hb dX1_countFrom_59 (by decide) ?_
              refine lv_goto (tgt := 64) hx hb dX1_countFrom_60 (by decide) ?_
              refine lv_iadd hx hb dX1_countFrom_64 ?_
              refine lv_topi (fun x_23 ex_23 => ?_)
              refine lv_istore_n (lv' := [(2, .int x_23), (3, .int (nI wd3)), (0, .ref q0), (1, .int 2)]) hx hb dX1_countFrom_65 rfl hl (by decide) rfl (fun ls hl => ?_)
              refine lv_goto (tgt := 85) hx hb dX1_countFrom_66 (by decide) ?_
              refine lv_aload_n hx hb dX1_countFrom_85 rfl (lv_at hl 2 rfl) ?_
              refine va_get (D := D) (ci := 1) (v := .int qo) (C := RX1) (T := TX1) (N := 8) hx hb hg i_X1 hown hK hP 1 rfl rfl 7 (by decide) (hg _ m_560) (fun _ h9 => h9) rfl dX1_countFrom_86 ?_
              refine lv_if_eq (tgt := 98) hx hb dX1_countFrom_89 (by decide) (fun c_89 => ?_) (fun c_89 => ?_)
              · refine lv_iinc (v := nI (wd3 + 1)) (lv' := [(3, .int (nI (wd3 + 1))), (2, .int x_23), (0, .ref q0), (1, .int 2)]) hx hb dX1_countFrom_98 hl (k := 1) rfl (nI_add wd3 1) (by decide) rfl (fun ls hl => ?_)
                refine lv_goto (tgt := 19) hx hb dX1_countFrom_101 (by decide) ?_
                exact ih3  x_23 ((wd3 + 1)) g_7 fa3_3 ha4_3 (by omega) (by omega) _ _ (hP.sub [1, 2, 0, 3, 4, 5, 6, 7, 8, 9, 10, 11, 12, 13, 14, 15, 16, 17, 18] rfl) (hD.sub [1, 2, 0, 3, 4, 5, 6, 7, 8, 9, 10, 11, 12, 13, 14, 15, 16, 17, 18] (by decide +kernel) rfl) hS ls (lv_sub hl [0, 1, 2, 3] rfl)
              · refine lv_iload_n hx hb dX1_countFrom_92 rfl (lv_at hl 0 rfl) ?_
                refine lv_if_le (tgt := 98) hx hb dX1_countFrom_93 (by decide) (fun c_93 => ?_) (fun c_93 => ?_)
                · refine lv_iinc (v := nI (wd3 + 1)) (lv' := [(3, .int (nI (wd3 + 1))), (2, .int x_23), (0, .ref q0), (1, .int 2)]) hx hb dX1_countFrom_98 hl (k := 1) rfl (nI_add wd3 1) (by decide) rfl (fun ls hl => ?_)
                  refine lv_goto (tgt := 19) hx hb dX1_countFrom_101 (by decide) ?_
                  exact ih3  x_23 ((wd3 + 1)) g_7 fa3_3 ha4_3 (by omega) (by omega) _ _ (hP.sub [1, 2, 0, 3, 4, 5, 6, 7, 8, 9, 10, 11, 12, 13, 14, 15, 16, 17, 18] rfl) (hD.sub [1, 2, 0, 3, 4, 5, 6, 7, 8, 9, 10, 11, 12, 13, 14, 15, 16, 17, 18] (by decide +kernel) rfl) hS ls (lv_sub hl [0, 1, 2, 3] rfl)
                · refine lv_iload_n hx hb dX1_countFrom_96 rfl (lv_at hl 0 rfl) ?_
                  exact x_iret hQ hx hb hr hlocks hK hP hD hS dX1_countFrom_97 (fa3_3, g_7) (ha4_3) [1, 2, 0, 3, 4, 5, 6, 7, 8, 9, 10, 11, 12, 13, 14, 15, 16, 17, 18] (by decide +kernel) rfl (Nat.le_of_ble_eq_true rfl) (Nat.le_of_ble_eq_true rfl)
    exact loop3 _ 0 0 fy fph hph (by omega) (Nat.le_refl _) _ _ (hP.sub [0, 1, 2, 3, 4, 5, 6, 7, 8, 9, 10, 11, 12, 13, 14, 15, 16, 17, 18] rfl) (hD.sub [0, 1, 2, 3, 4, 5, 6, 7, 8, 9, 10, 11, 12, 13, 14, 15, 16, 17, 18] (by decide +kernel) rfl) hS ls (lv_sub hl [0, 1, 2, 3] rfl)
set_option maxHeartbeats 1000000 in
set_option maxRecDepth 100000 in
theorem s_countFrom1 (l : Launch) (D : va_G) (cy : Nat → ClassId) (q0 : Nat) (q1 : Nat) (q2 : Nat) (q3 : Nat) (q4 : Nat) (er : Nat) (ql : Nat) (qo : Int32) (fph : Nat → Int32) (fy : Nat → Int32) (h0 : Nat) (h1 : Nat) (h2 : Nat) (h3 : Nat) (h4 : Nat) (h5 : Nat) (h6 : Nat) (h7 : Nat) (h8 : Nat) (h9 : Nat) (h10 : Nat) (h11 : Nat) (hv1 : Value) (hv2 : Value) (hv3 : Value) (hv4 : Value) (ys : Int32) (fx : Nat → Int32) (fc : Nat → Int32) (c0 : Nat) (c1 : Nat) (c2 : Nat) (c3 : Nat) (ea : Nat → Nat) (eg : Nat → Nat) (ef : Nat → Nat) (et : Nat → Int32) (el : Nat → Nat) (ei : Nat → Nat) (gc : Nat → Nat → Int32) (xc : Nat → Nat → Int32) (hph : pRow fph) (hnx : rng fx 48 5) (hcn : cntOK fc c0 c1 c2 c3) (hc0 : c0 ≤ 8) (hc1 : c1 ≤ 4) (hc2 : c2 ≤ 4) (hc3 : c3 ≤ 6) (hql : ql ≤ 5) : XMi l D (tyL cy) E0 yX1_countFrom cX1_countFrom 4 (some .int) (rmk 9 0 0) [.ref q0, .int 1] [wO q0 1 [.ref q1, .ref er, .ref q2, .ref q3, .ref q4, .ref h0, .int (nI ql), .int qo], wI (cy 1) q2 24 (fph), wI (cy 1) q1 5 (fy), wO h0 4 [.ref h1, .ref h2, .ref h3, .ref h4, .ref h5, .ref h6, .ref h7, .ref h8, .ref h9, .ref h10, .ref h11, .int ys, hv1, hv2, hv3, hv4], wI (cy 1) h7 48 (fx), wI (cy 1) h1 4 (fc), (er, .inl (cy 4, 4, .inr (.inr (.inr (.inr (eF (ea 0) (ea 1) (ea 2) (ea 3))))))), wO (ea 0) 2 [.ref (eg 0), .ref (ef 0), .int (et 0), .int (nI (el 0)), .int (nI (ei 0))], wI (cy 1) (eg 0) 10 (gc 0), wI (cy 1) (ef 0) 7 (xc 0), wO (ea 1) 2 [.ref (eg 1), .ref (ef 1), .int (et 1), .int (nI (el 1)), .int (nI (ei 1))], wI (cy 1) (eg 1) 10 (gc 1), wI (cy 1) (ef 1) 7 (xc 1), wO (ea 2) 2 [.ref (eg 2), .ref (ef 2), .int (et 2), .int (nI (el 2)), .int (nI (ei 2))], wI (cy 1) (eg 2) 10 (gc 2), wI (cy 1) (ef 2) 7 (xc 2), wO (ea 3) 2 [.ref (eg 3), .ref (ef 3), .int (et 3), .int (nI (el 3)), .int (nI (ei 3))], wI (cy 1) (eg 3) 10 (gc 3), wI (cy 1) (ef 3) 7 (xc 3)] (fun (r : Int32) (u : (Nat → Int32) × (Nat → Int32)) => (pRow u.1)) (fun (u : (Nat → Int32) × (Nat → Int32)) => [wO q0 1 [.ref q1, .ref er, .ref q2, .ref q3, .ref q4, .ref h0, .int (nI ql), .int qo], wI (cy 1) q2 24 (u.1), wI (cy 1) q1 5 (u.2), wO h0 4 [.ref h1, .ref h2, .ref h3, .ref h4, .ref h5, .ref h6, .ref h7, .ref h8, .ref h9, .ref h10, .ref h11, .int ys, hv1, hv2, hv3, hv4], wI (cy 1) h7 48 (fx), wI (cy 1) h1 4 (fc), (er, .inl (cy 4, 4, .inr (.inr (.inr (.inr (eF (ea 0) (ea 1) (ea 2) (ea 3))))))), wO (ea 0) 2 [.ref (eg 0), .ref (ef 0), .int (et 0), .int (nI (el 0)), .int (nI (ei 0))], wI (cy 1) (eg 0) 10 (gc 0), wI (cy 1) (ef 0) 7 (xc 0), wO (ea 1) 2 [.ref (eg 1), .ref (ef 1), .int (et 1), .int (nI (el 1)), .int (nI (ei 1))], wI (cy 1) (eg 1) 10 (gc 1), wI (cy 1) (ef 1) 7 (xc 1), wO (ea 2) 2 [.ref (eg 2), .ref (ef 2), .int (et 2), .int (nI (el 2)), .int (nI (ei 2))], wI (cy 1) (eg 2) 10 (gc 2), wI (cy 1) (ef 2) 7 (xc 2), wO (ea 3) 2 [.ref (eg 3), .ref (ef 3), .int (et 3), .int (nI (el 3)), .int (nI (ei 3))], wI (cy 1) (eg 3) 10 (gc 3), wI (cy 1) (ef 3) 7 (xc 3)]) := by
  refine XMi.start (by decide) (Nat.le_of_ble_eq_true rfl) ?_
  intro p e s m below meth c args A ls Q hat hQ
  obtain ⟨hx, hb, hr, hml, hown, hg, hlocks, hin, hK, hA, hP, hD, hS, hE, hl⟩ := hat
  have hown : s.vm.findClass RX1 = some m.cls := hown
  have hl : lv_has ls 4 [(0, .ref q0), (1, .int 1)] := hl
  refine lv_iconst (v := 0) hx hb dX1_countFrom_0 (by decide) ?_
  refine lv_istore_n (lv' := [(2, .int 0), (0, .ref q0), (1, .int 1)]) hx hb dX1_countFrom_1 rfl hl (by decide) rfl (fun ls hl => ?_)
  refine lv_iload_n hx hb dX1_countFrom_2 rfl (lv_at hl 2 rfl) ?_
  refine lv_aload_n hx hb dX1_countFrom_3 rfl (lv_at hl 1 rfl) ?_
  refine va_get (D := D) (ci := 1) (v := .int (nI ql)) (C := RX1) (T := TX1) (N := 8) hx hb hg i_X1 hown hK hP 0 rfl rfl 6 (by decide) (hg _ m_559) (fun _ h9 => h9) rfl dX1_countFrom_4 ?_
  refine lv_icmp_ge (tgt := 15) hx hb dX1_countFrom_7 (by decide) (fun c_1 => ?_) (fun c_1 => ?_)
  · have q_2 : ql ≤ 1 := q_le (a := ql) (b := 1) rfl rfl (by omega) (by omega) c_1
    refine lv_iload_n hx hb dX1_countFrom_15 rfl (lv_at hl 0 rfl) ?_
    exact x_iret hQ hx hb hr hlocks hK hP hD hS dX1_countFrom_16 (fph, fy) (hph) [0, 1, 2, 3, 4, 5, 6, 7, 8, 9, 10, 11, 12, 13, 14, 15, 16, 17, 18] (by decide +kernel) rfl (Nat.le_of_ble_eq_true rfl) (Nat.le_of_ble_eq_true rfl)
  · have q_2 : 1 < ql := q_nle (a := ql) (b := 1) rfl rfl (by omega) (by omega) c_1
    refine lv_iload_n hx hb dX1_countFrom_10 rfl (lv_at hl 2 rfl) ?_
    refine lv_iconst (v := 5) hx hb dX1_countFrom_11 (by decide) ?_
    refine lv_icmp_lt (tgt := 17) hx hb dX1_countFrom_12 (by decide) (fun _ => ?_) (fun h => absurd (by decide) h)
    refine lv_iconst (v := 0) hx hb dX1_countFrom_17 (by decide) ?_
    refine lv_istore_n (lv' := [(3, .int 0), (2, .int 0), (0, .ref q0), (1, .int 1)]) hx hb dX1_countFrom_18 rfl hl (by decide) rfl (fun ls hl => ?_)
    have loop3 : ∀ (zn : Nat) (lx2_3 : Int32) (wd3 : Nat) (fa2_3 : Nat → Int32) (fa3_3 : Nat → Int32), (pRow fa3_3) → (wd3 ≤ c0) → c0 - wd3 + 1 ≤ zn → ∀ (H : Heap) (locs : List Loc), va_P D vwCl [wO q0 1 [.ref q1, .ref er, .ref q2, .ref q3, .ref q4, .ref h0, .int (nI ql), .int qo], wI (cy 1) q2 24 (fa3_3), wI (cy 1) q1 5 (fa2_3), wO h0 4 [.ref h1, .ref h2, .ref h3, .ref h4, .ref h5, .ref h6, .ref h7, .ref h8, .ref h9, .ref h10, .ref h11, .int ys, hv1, hv2, hv3, hv4], wI (cy 1) h7 48 (fx), wI (cy 1) h1 4 (fc), (er, .inl (cy 4, 4, .inr (.inr (.inr (.inr (eF (ea 0) (ea 1) (ea 2) (ea 3))))))), wO (ea 0) 2 [.ref (eg 0), .ref (ef 0), .int (et 0), .int (nI (el 0)), .int (nI (ei 0))], wI (cy 1) (eg 0) 10 (gc 0), wI (cy 1) (ef 0) 7 (xc 0), wO (ea 1) 2 [.ref (eg 1), .ref (ef 1), .int (et 1), .int (nI (el 1)), .int (nI (ei 1))], wI (cy 1) (eg 1) 10 (gc 1), wI (cy 1) (ef 1) 7 (xc 1), wO (ea 2) 2 [.ref (eg 2), .ref (ef 2), .int (et 2), .int (nI (el 2)), .int (nI (ei 2))], wI (cy 1) (eg 2) 10 (gc 2), wI (cy 1) (ef 2) 7 (xc 2), wO (ea 3) 2 [.ref (eg 3), .ref (ef 3), .int (et 3), .int (nI (el 3)), .int (nI (ei 3))], wI (cy 1) (eg 3) 10 (gc 3), wI (cy 1) (ef 3) 7 (xc 3)] H → va_D A [wO q0 1 [.ref q1, .ref er, .ref q2, .ref q3, .ref q4, .ref h0, .int (nI ql), .int qo], wI (cy 1) q2 24 (fa3_3), wI (cy 1) q1 5 (fa2_3), wO h0 4 [.ref h1, .ref h2, .ref h3, .ref h4, .ref h5, .ref h6, .ref h7, .ref h8, .ref h9, .ref h10, .ref h11, .int ys, hv1, hv2, hv3, hv4], wI (cy 1) h7 48 (fx), wI (cy 1) h1 4 (fc), (er, .inl (cy 4, 4, .inr (.inr (.inr (.inr (eF (ea 0) (ea 1) (ea 2) (ea 3))))))), wO (ea 0) 2 [.ref (eg 0), .ref (ef 0), .int (et 0), .int (nI (el 0)), .int (nI (ei 0))], wI (cy 1) (eg 0) 10 (gc 0), wI (cy 1) (ef 0) 7 (xc 0), wO (ea 1) 2 [.ref (eg 1), .ref (ef 1), .int (et 1), .int (nI (el 1)), .int (nI (ei 1))], wI (cy 1) (eg 1) 10 (gc 1), wI (cy 1) (ef 1) 7 (xc 1), wO (ea 2) 2 [.ref (eg 2), .ref (ef 2), .int (et 2), .int (nI (el 2)), .int (nI (ei 2))], wI (cy 1) (eg 2) 10 (gc 2), wI (cy 1) (ef 2) 7 (xc 2), wO (ea 3) 2 [.ref (eg 3), .ref (ef 3), .int (et 3), .int (nI (el 3)), .int (nI (ei 3))], wI (cy 1) (eg 3) 10 (gc 3), wI (cy 1) (ef 3) 7 (xc 3)] → va_S A s.heap H locs → ∀ ls : Array Slot, lv_has ls 4 [(3, .int (nI wd3)), (2, .int lx2_3), (0, .ref q0), (1, .int 1)] → W p l e (rmk 9 0 0) s m args below meth c H locs 0 0 Q (F0 m 19 ls []) := by
      try clear hP hD hS
      intro zn
      induction zn with
      | zero => intro lx2_3 wd3 fa2_3 fa3_3 _ _ hz; exact absurd hz (by omega)
      | succ zn ih3 =>
        intro lx2_3 wd3 fa2_3 fa3_3 ha4_3 hf0_3 hmu3 H locs hP hD hS ls hl
        refine lv_iload_n hx hb dX1_countFrom_19 rfl (lv_at hl 0 rfl) ?_
        refine lv_aload_n hx hb dX1_countFrom_20 rfl (lv_at hl 2 rfl) ?_
        refine va_get (D := D) (ci := 1) (v := .ref h0) (C := RX1) (T := TX1) (N := 8) hx hb hg i_X1 hown hK hP 0 rfl rfl 5 (by decide) (hg _ m_558) (fun _ h9 => h9) rfl dX1_countFrom_21 ?_
        refine va_get (D := D) (ci := 4) (v := .ref h1) (C := RX4) (T := TX4) (N := 16) hx hb hg i_X4 hown hK hP 3 rfl rfl 0 (by decide) (hg _ m_331) (fun _ h9 => h9) rfl dX1_countFrom_24 ?_
        refine lv_iconst (v := 0) hx hb dX1_countFrom_27 (by decide) ?_
        refine va_iald hx hb hK hP 5 1 rfl rfl (by unfold vp_in; decide) dX1_countFrom_28 ?_
        refine lv_topi (fun y_4 hy_4 => ?_)
        obtain rfl : y_4 = nI c0 := hy_4.trans hcn.1
        refine lv_icmp_ge (tgt := 104) hx hb dX1_countFrom_29 (by decide) (fun c_5 => ?_) (fun c_5 => ?_)
        · have q_6 : c0 ≤ wd3 := q_le (a := c0) (b := wd3) rfl rfl (by omega) (by omega) c_5
          refine lv_iload_n hx hb dX1_countFrom_104 rfl (lv_at hl 1 rfl) ?_
          exact x_iret hQ hx hb hr hlocks hK hP hD hS dX1_countFrom_105 (fa3_3, fa2_3) (ha4_3) [0, 1, 2, 3, 4, 5, 6, 7, 8, 9, 10, 11, 12, 13, 14, 15, 16, 17, 18] (by decide +kernel) rfl (Nat.le_of_ble_eq_true rfl) (Nat.le_of_ble_eq_true rfl)
        · have q_6 : wd3 < c0 := q_nle (a := c0) (b := wd3) rfl rfl (by omega) (by omega) c_5
          refine lv_aload_n hx hb dX1_countFrom_32 rfl (lv_at hl 2 rfl) ?_
          refine va_get (D := D) (ci := 1) (v := .ref q1) (C := RX1) (T := TX1) (N := 8) hx hb hg i_X1 hown hK hP 0 rfl rfl 0 (by decide) (hg _ m_552) (fun _ h9 => h9) rfl dX1_countFrom_33 ?_
          refine lv_iload_n hx hb dX1_countFrom_36 rfl (lv_at hl 3 rfl) ?_
          refine lv_iload_n hx hb dX1_countFrom_37 rfl (lv_at hl 0 rfl) ?_
          refine va_iast hx hb hK hP hD hS 2 1 rfl rfl (by unfold vp_in; decide) dX1_countFrom_38 (fun H locs hP9 hD9 hS9 => ?_)
          clear hP hD hS
          obtain ⟨g_7, eg_7⟩ : ∃ y, upd fa2_3 (1 : Int32).toNatClampNeg (nI wd3) = y := ⟨_, rfl⟩
          rw [eg_7] at hP9 hD9
          refine reW [wO q0 1 [.ref q1, .ref er, .ref q2, .ref q3, .ref q4, .ref h0, .int (nI ql), .int qo], wI (cy 1) q2 24 (fa3_3), wI (cy 1) q1 5 (g_7), wO h0 4 [.ref h1, .ref h2, .ref h3, .ref h4, .ref h5, .ref h6, .ref h7, .ref h8, .ref h9, .ref h10, .ref h11, .int ys, hv1, hv2, hv3, hv4], wI (cy 1) h7 48 (fx), wI (cy 1) h1 4 (fc), (er, .inl (cy 4, 4, .inr (.inr (.inr (.inr (eF (ea 0) (ea 1) (ea 2) (ea 3))))))), wO (ea 0) 2 [.ref (eg 0), .ref (ef 0), .int (et 0), .int (nI (el 0)), .int (nI (ei 0))], wI (cy 1) (eg 0) 10 (gc 0), wI (cy 1) (ef 0) 7 (xc 0), wO (ea 1) 2 [.ref (eg 1), .ref (ef 1), .int (et 1), .int (nI (el 1)), .int (nI (ei 1))], wI (cy 1) (eg 1) 10 (gc 1), wI (cy 1) (ef 1) 7 (xc 1), wO (ea 2) 2 [.ref (eg 2), .ref (ef 2), .int (et 2), .int (nI (el 2)), .int (nI (ei 2))], wI (cy 1) (eg 2) 10 (gc 2), wI (cy 1) (ef 2) 7 (xc 2), wO (ea 3) 2 [.ref (eg 3), .ref (ef 3), .int (et 3), .int (nI (el 3)), .int (nI (ei 3))], wI (cy 1) (eg 3) 10 (gc 3), wI (cy 1) (ef 3) 7 (xc 3)] hP9 hD9 hS9 (fun hP hD hS => ?_)
          clear hP9 hD9 hS9
          refine lv_iload_n hx hb dX1_countFrom_39 rfl (lv_at hl 3 rfl) ?_
          refine lv_aload_n hx hb dX1_countFrom_40 rfl (lv_at hl 2 rfl) ?_
          refine va_get (D := D) (ci := 1) (v := .int (nI ql)) (C := RX1) (T := TX1) (N := 8) hx hb hg i_X1 hown hK hP 0 rfl rfl 6 (by decide) (hg _ m_559) (fun _ h9 => h9) rfl dX1_countFrom_41 ?_
          refine lv_iconst (v := 1) hx hb dX1_countFrom_44 (by decide) ?_
          refine lv_isub hx hb dX1_countFrom_45 ?_
          refine lv_topi (fun y_8 hy_8 => ?_)
          obtain rfl : y_8 = nI (ql - 1) := hy_8.trans (pk_sub (a := ql) (b := 1) (by omega))
          refine lv_icmp_ne (tgt := 69) hx hb dX1_countFrom_46 (by decide) (fun c_9 => ?_) (fun c_9 => ?_)
          · have q_10 : ¬ 1 = (ql - 1) := q_ne (a := 1) (b := (ql - 1)) rfl rfl (by omega) (by omega) c_9
            refine lv_aload_n hx hb dX1_countFrom_69 rfl (lv_at hl 2 rfl) ?_
            refine lv_iload_n hx hb dX1_countFrom_70 rfl (lv_at hl 3 rfl) ?_
            refine lv_iload_n hx hb dX1_countFrom_71 rfl (lv_at hl 0 rfl) ?_
            refine x_callVv (q := (RX1, TX1, 8)) (ci := 1) (q0 := 0) (wr := [wI (cy 1) q1 5 (g_7)]) (rest := []) ⟨hx, hb, hml, hown, hg, hl.1⟩ k_X1_66 (s_goOn l D cy q0 q1 q2 q3 q4 er ql qo fa3_3 h0 h1 h2 h3 h4 h5 h6 h7 h8 h9 h10 h11 ((.int ys)) hv1 hv2 hv3 hv4 fx fc c0 c1 c2 c3 ea eg ef et el ei gc xc 1 wd3 (ha4_3) (hnx) (hcn) (by omega) (by omega) (by omega) (by omega) (by omega) (by omega)) E0_blind hK hP hD hS hA [0, 1, 3, 4, 5, 6, 7, 8, 9, 10, 11, 12, 13, 14, 15, 16, 17, 18] [2] ⟨rfl, rfl, by decide +kernel, by decide +kernel, by decide +kernel⟩ rfl rfl (fun _ _ _ => trivial) dX1_countFrom_72 rfl rfl (Nat.le_of_ble_eq_true rfl) ⟨Nat.le_of_ble_eq_true rfl, Nat.le_of_ble_eq_true rfl⟩ ⟨Nat.le_of_ble_eq_true rfl, Nat.le_of_ble_eq_true rfl⟩ (fun zu11 H locs hw11 hP9 hD9 hS9 => ?_)
            clear hP hD hS
            obtain ⟨fph2_12, rfl⟩ : ∃ z, z = zu11 := ⟨_, rfl⟩
            refine reW [wI (cy 1) q1 5 (g_7), wO q0 1 [.ref q1, .ref er, .ref q2, .ref q3, .ref q4, .ref h0, .int (nI ql), .int qo], wI (cy 1) q2 24 (fph2_12), wO h0 4 [.ref h1, .ref h2, .ref h3, .ref h4, .ref h5, .ref h6, .ref h7, .ref h8, .ref h9, .ref h10, .ref h11, .int ys, hv1, hv2, hv3, hv4], wI (cy 1) h7 48 (fx), wI (cy 1) h1 4 (fc), (er, .inl (cy 4, 4, .inr (.inr (.inr (.inr (eF (ea 0) (ea 1) (ea 2) (ea 3))))))), wO (ea 0) 2 [.ref (eg 0), .ref (ef 0), .int (et 0), .int (nI (el 0)), .int (nI (ei 0))], wI (cy 1) (eg 0) 10 (gc 0), wI (cy 1) (ef 0) 7 (xc 0), wO (ea 1) 2 [.ref (eg 1), .ref (ef 1), .int (et 1), .int (nI (el 1)), .int (nI (ei 1))], wI (cy 1) (eg 1) 10 (gc 1), wI (cy 1) (ef 1) 7 (xc 1), wO (ea 2) 2 [.ref (eg 2), .ref (ef 2), .int (et 2), .int (nI (el 2)), .int (nI (ei 2))], wI (cy 1) (eg 2) 10 (gc 2), wI (cy 1) (ef 2) 7 (xc 2), wO (ea 3) 2 [.ref (eg 3), .ref (ef 3), .int (et 3), .int (nI (el 3)), .int (nI (ei 3))], wI (cy 1) (eg 3) 10 (gc 3), wI (cy 1) (ef 3) 7 (xc 3)] hP9 hD9 hS9 (fun hP hD hS => ?_)
            clear hP9 hD9 hS9
            refine W.widen (k := 0) (n := 0) (Nat.le_of_ble_eq_true rfl) (Nat.le_of_ble_eq_true rfl) ?_
            replace hw11 : (pRow fph2_12) := hw11
            have f_13 := hw11
            refine lv_iload_n hx hb dX1_countFrom_75 rfl (lv_at hl 1 rfl) ?_
            refine lv_aload_n hx hb dX1_countFrom_76 rfl (lv_at hl 2 rfl) ?_
            refine lv_iload_n hx hb dX1_countFrom_77 rfl (lv_at hl 3 rfl) ?_
            refine lv_iconst (v := 1) hx hb dX1_countFrom_78 (by decide) ?_
            refine lv_iadd hx hb dX1_countFrom_79 ?_
            refine lv_topi (fun y_14 hy_14 => ?_)
            obtain rfl : y_14 = 2 := hy_14.trans (by decide +kernel)
            refine x_callVi (q := (RX1, TX1, 8)) (ci := 1) (q0 := 0) (wr := []) (rest := [.int lx2_3]) ⟨hx, hb, hml, hown, hg, hl.1⟩ k_X1_58 (s_countFrom2 l D cy q0 q1 q2 q3 q4 er ql qo fph2_12 g_7 h0 h1 h2 h3 h4 h5 h6 h7 h8 h9 h10 h11 hv1 hv2 hv3 hv4 ys fx fc c0 c1 c2 c3 ea eg ef et el ei gc xc (f_13) (hnx) (hcn) (by omega) (by omega) (by omega) (by omega) (by omega)) E0_blind hK hP hD hS hA [1, 2, 0, 3, 4, 5, 6, 7, 8, 9, 10, 11, 12, 13, 14, 15, 16, 17, 18] [] ⟨rfl, rfl, by decide +kernel, by decide +kernel, by decide +kernel⟩ rfl rfl (fun _ _ _ => trivial) dX1_countFrom_80 rfl rfl (Nat.le_of_ble_eq_true rfl) ⟨Nat.le_of_ble_eq_true rfl, Nat.le_of_ble_eq_true rfl⟩ ⟨Nat.le_of_ble_eq_true rfl, Nat.le_of_ble_eq_true rfl⟩ (fun zr15 zu15 H locs hw15 hP9 hD9 hS9 => ?_)
            clear hP hD hS
            obtain ⟨fph2_16, fy2_17⟩ := zu15
            refine reW [wO q0 1 [.ref q1, .ref er, .ref q2, .ref q3, .ref q4, .ref h0, .int (nI ql), .int qo], wI (cy 1) q2 24 (fph2_16), wI (cy 1) q1 5 (fy2_17), wO h0 4 [.ref h1, .ref h2, .ref h3, .ref h4, .ref h5, .ref h6, .ref h7, .ref h8, .ref h9, .ref h10, .ref h11, .int ys, hv1, hv2, hv3, hv4], wI (cy 1) h7 48 (fx), wI (cy 1) h1 4 (fc), (er, .inl (cy 4, 4, .inr (.inr (.inr (.inr (eF (ea 0) (ea 1) (ea 2) (ea 3))))))), wO (ea 0) 2 [.ref (eg 0), .ref (ef 0), .int (et 0), .int (nI (el 0)), .int (nI (ei 0))], wI (cy 1) (eg 0) 10 (gc 0), wI (cy 1) (ef 0) 7 (xc 0), wO (ea 1) 2 [.ref (eg 1), .ref (ef 1), .int (et 1), .int (nI (el 1)), .int (nI (ei 1))], wI (cy 1) (eg 1) 10 (gc 1), wI (cy 1) (ef 1) 7 (xc 1), wO (ea 2) 2 [.ref (eg 2), .ref (ef 2), .int (et 2), .int (nI (el 2)), .int (nI (ei 2))], wI (cy 1) (eg 2) 10 (gc 2), wI (cy 1) (ef 2) 7 (xc 2), wO (ea 3) 2 [.ref (eg 3), .ref (ef 3), .int (et 3), .int (nI (el 3)), .int (nI (ei 3))], wI (cy 1) (eg 3) 10 (gc 3), wI (cy 1) (ef 3) 7 (xc 3)] hP9 hD9 hS9 (fun hP hD hS => ?_)
            clear hP9 hD9 hS9
            refine W.widen (k := 0) (n := 0) (Nat.le_of_ble_eq_true rfl) (Nat.le_of_ble_eq_true rfl) ?_
            replace hw15 : (pRow fph2_16) := hw15
            have f_18 := hw15
            refine lv_iadd hx hb dX1_countFrom_83 ?_
            refine lv_topi (fun x_19 ex_19 => ?_)
            refine lv_istore_n (lv' := [(2, .int x_19), (3, .int (nI wd3)), (0, .ref q0), (1, .int 1)]) hx hb dX1_countFrom_84 rfl hl (by decide) rfl (fun ls hl => ?_)
            refine lv_aload_n hx hb dX1_countFrom_85 rfl (lv_at hl 2 rfl) ?_
            refine va_get (D := D) (ci := 1) (v := .int qo) (C := RX1) (T := TX1) (N := 8) hx hb hg i_X1 hown hK hP 0 rfl rfl 7 (by decide) (hg _ m_560) (fun _ h9 => h9) rfl dX1_countFrom_86 ?_
            refine lv_if_eq (tgt := 98) hx hb dX1_countFrom_89 (by decide) (fun c_89 => ?_) (fun c_89 => ?_)
            · refine lv_iinc (v := nI (wd3 + 1)) (lv' := [(3, .int (nI (wd3 + 1))), (2, .int x_19), (0, .ref q0), (1, .int 1)]) hx hb dX1_countFrom_98 hl (k := 1) rfl (nI_add wd3 1) (by decide) rfl (fun ls hl => ?_)
              refine lv_goto (tgt := 19) hx hb dX1_countFrom_101 (by decide) ?_
              exact ih3  x_19 ((wd3 + 1)) fy2_17 fph2_16 f_18 (by omega) (by omega) _ _ (hP.sub [0, 1, 2, 3, 4, 5, 6, 7, 8, 9, 10, 11, 12, 13, 14, 15, 16, 17, 18] rfl) (hD.sub [0, 1, 2, 3, 4, 5, 6, 7, 8, 9, 10, 11, 12, 13, 14, 15, 16, 17, 18] (by decide +kernel) rfl) hS ls (lv_sub hl [0, 1, 2, 3] rfl)
            · refine lv_iload_n hx hb dX1_countFrom_92 rfl (lv_at hl 0 rfl) ?_
              refine lv_if_le (tgt := 98) hx hb dX1_countFrom_93 (by decide) (fun c_93 => ?_) (fun c_93 => ?_)
              · refine lv_iinc (v := nI (wd3 + 1)) (lv' := [(3, .int (nI (wd3 + 1))), (2, .int x_19), (0, .ref q0), (1, .int 1)]) hx hb dX1_countFrom_98 hl (k := 1) rfl (nI_add wd3 1) (by decide) rfl (fun ls hl => ?_)
                refine lv_goto (tgt := 19) hx hb dX1_countFrom_101 (by decide) ?_
                exact ih3  x_19 ((wd3 + 1)) fy2_17 fph2_16 f_18 (by omega) (by omega) _ _ (hP.sub [0, 1, 2, 3, 4, 5, 6, 7, 8, 9, 10, 11, 12, 13, 14, 15, 16, 17, 18] rfl) (hD.sub [0, 1, 2, 3, 4, 5, 6, 7, 8, 9, 10, 11, 12, 13, 14, 15, 16, 17, 18] (by decide +kernel) rfl) hS ls (lv_sub hl [0, 1, 2, 3] rfl)
              · refine lv_iload_n hx hb dX1_countFrom_96 rfl (lv_at hl 0 rfl) ?_
                exact x_iret hQ hx hb hr hlocks hK hP hD hS dX1_countFrom_97 (fph2_16, fy2_17) (f_18) [0, 1, 2, 3, 4, 5, 6, 7, 8, 9, 10, 11, 12, 13, 14, 15, 16, 17, 18] (by decide +kernel) rfl (Nat.le_of_ble_eq_true rfl) (Nat.le_of_ble_eq_true rfl)
          · have q_10 : 1 = (ql - 1) := q_eq (a := 1) (b := (ql - 1)) rfl rfl (by omega) (by omega) c_9
            refine lv_iload_n hx hb dX1_countFrom_49 rfl (lv_at hl 1 rfl) ?_
            refine lv_aload_n hx hb dX1_countFrom_50 rfl (lv_at hl 2 rfl) ?_
            refine lv_iload_n hx hb dX1_countFrom_51 rfl (lv_at hl 3 rfl) ?_
            refine lv_iload_n hx hb dX1_countFrom_52 rfl (lv_at hl 0 rfl) ?_
            refine x_callVi (q := (RX1, TX1, 8)) (ci := 1) (q0 := 0) (wr := [wI (cy 1) q1 5 (g_7)]) (rest := [.int lx2_3]) ⟨hx, hb, hml, hown, hg, hl.1⟩ k_X1_62 (s_pardonsWithLast l D cy q0 q1 q2 q3 q4 er ql qo fa3_3 h0 h1 h2 h3 h4 h5 h6 h7 h8 h9 h10 h11 hv1 hv2 hv3 hv4 ys fx fc c0 c1 c2 c3 ea eg ef et el ei gc xc 1 wd3 (ha4_3) (hnx) (hcn) (by omega) (by omega) (by omega) (by omega) (by omega) (by omega)) E0_blind hK hP hD hS hA [0, 1, 3, 4, 5, 6, 7, 8, 9, 10, 11, 12, 13, 14, 15, 16, 17, 18] [2] ⟨rfl, rfl, by decide +kernel, by decide +kernel, by decide +kernel⟩ rfl rfl (fun _ _ _ => trivial) dX1_countFrom_53 rfl rfl (Nat.le_of_ble_eq_true rfl) ⟨Nat.le_of_ble_eq_true rfl, Nat.le_of_ble_eq_true rfl⟩ ⟨Nat.le_of_ble_eq_true rfl, Nat.le_of_ble_eq_true rfl⟩ (fun zr20 zu20 H locs hw20 hP9 hD9 hS9 => ?_)
            clear hP hD hS
            refine reW [wI (cy 1) q1 5 (g_7), wO q0 1 [.ref q1, .ref er, .ref q2, .ref q3, .ref q4, .ref h0, .int (nI ql), .int qo], wI (cy 1) q2 24 (fa3_3), wO h0 4 [.ref h1, .ref h2, .ref h3, .ref h4, .ref h5, .ref h6, .ref h7, .ref h8, .ref h9, .ref h10, .ref h11, .int ys, hv1, hv2, hv3, hv4], wI (cy 1) h7 48 (fx), wI (cy 1) h1 4 (fc), (er, .inl (cy 4, 4, .inr (.inr (.inr (.inr (eF (ea 0) (ea 1) (ea 2) (ea 3))))))), wO (ea 0) 2 [.ref (eg 0), .ref (ef 0), .int (et 0), .int (nI (el 0)), .int (nI (ei 0))], wI (cy 1) (eg 0) 10 (gc 0), wI (cy 1) (ef 0) 7 (xc 0), wO (ea 1) 2 [.ref (eg 1), .ref (ef 1), .int (et 1), .int (nI (el 1)), .int (nI (ei 1))], wI (cy 1) (eg 1) 10 (gc 1), wI (cy 1) (ef 1) 7 (xc 1), wO (ea 2) 2 [.ref (eg 2), .ref (ef 2), .int (et 2), .int (nI (el 2)), .int (nI (ei 2))], wI (cy 1) (eg 2) 10 (gc 2), wI (cy 1) (ef 2) 7 (xc 2), wO (ea 3) 2 [.ref (eg 3), .ref (ef 3), .int (et 3), .int (nI (el 3)), .int (nI (ei 3))], wI (cy 1) (eg 3) 10 (gc 3), wI (cy 1) (ef 3) 7 (xc 3)] hP9 hD9 hS9 (fun hP hD hS => ?_)
            clear hP9 hD9 hS9
            refine W.widen (k := 0) (n := 0) (Nat.le_of_ble_eq_true rfl) (Nat.le_of_ble_eq_true rfl) ?_
            replace hw20 : (zr20 = 0 ∨ zr20 = 1) := hw20
            have f_21 := hw20
            refine lv_if_eq (tgt := 63) hx hb dX1_countFrom_56 (by decide) (fun c_56 => ?_) (fun c_56 => ?_)
            · refine lv_iconst (v := 0) hx hb dX1_countFrom_63 (by decide) ?_
              refine lv_iadd hx hb dX1_countFrom_64 ?_
              refine lv_topi (fun x_22 ex_22 => ?_)
              refine lv_istore_n (lv' := [(2, .int x_22), (3, .int (nI wd3)), (0, .ref q0), (1, .int 1)]) hx hb dX1_countFrom_65 rfl hl (by decide) rfl (fun ls hl => ?_)
              refine lv_goto (tgt := 85) hx hb dX1_countFrom_66 (by decide) ?_
              refine lv_aload_n hx hb dX1_countFrom_85 rfl (lv_at hl 2 rfl) ?_
              refine va_get (D := D) (ci := 1) (v := .int qo) (C := RX1) (T := TX1) (N := 8) hx hb hg i_X1 hown hK hP 1 rfl rfl 7 (by decide) (hg _ m_560) (fun _ h9 => h9) rfl dX1_countFrom_86 ?_
              refine lv_if_eq (tgt := 98) hx hb dX1_countFrom_89 (by decide) (fun c_89 => ?_) (fun c_89 => ?_)
              · refine lv_iinc (v := nI (wd3 + 1)) (lv' := [(3, .int (nI (wd3 + 1))), (2, .int x_22), (0, .ref q0), (1, .int 1)]) hx hb dX1_countFrom_98 hl (k := 1) rfl (nI_add wd3 1) (by decide) rfl (fun ls hl => ?_)
                refine lv_goto (tgt := 19) hx hb dX1_countFrom_101 (by decide) ?_
                exact ih3  x_22 ((wd3 + 1)) g_7 fa3_3 ha4_3 (by omega) (by omega) _ _ (hP.sub [1, 2, 0, 3, 4, 5, 6, 7, 8, 9, 10, 11, 12, 13, 14, 15, 16, 17, 18] rfl) (hD.sub [1, 2, 0, 3, 4, 5, 6, 7, 8, 9, 10, 11, 12, 13, 14, 15, 16, 17, 18] (by decide +kernel) rfl) hS ls (lv_sub hl [0, 1, 2, 3] rfl)
              · refine lv_iload_n hx hb dX1_countFrom_92 rfl (lv_at hl 0 rfl) ?_
                refine lv_if_le (tgt := 98) hx hb dX1_countFrom_93 (by decide) (fun c_93 => ?_) (fun c_93 => ?_)
                · refine lv_iinc (v := nI (wd3 + 1)) (lv' := [(3, .int (nI (wd3 + 1))), (2, .int x_22), (0, .ref q0), (1, .int 1)]) hx hb dX1_countFrom_98 hl (k := 1) rfl (nI_add wd3 1) (by decide) rfl (fun ls hl => ?_)
                  refine lv_goto (tgt := 19) hx hb dX1_countFrom_101 (by decide) ?_
                  exact ih3  x_22 ((wd3 + 1)) g_7 fa3_3 ha4_3 (by omega) (by omega) _ _ (hP.sub [1, 2, 0, 3, 4, 5, 6, 7, 8, 9, 10, 11, 12, 13, 14, 15, 16, 17, 18] rfl) (hD.sub [1, 2, 0, 3, 4, 5, 6, 7, 8, 9, 10, 11, 12, 13, 14, 15, 16, 17, 18] (by decide +kernel) rfl) hS ls (lv_sub hl [0, 1, 2, 3] rfl)
                · refine lv_iload_n hx hb dX1_countFrom_96 rfl (lv_at hl 0 rfl) ?_
                  exact x_iret hQ hx hb hr hlocks hK hP hD hS dX1_countFrom_97 (fa3_3, g_7) (ha4_3) [1, 2, 0, 3, 4, 5, 6, 7, 8, 9, 10, 11, 12, 13, 14, 15, 16, 17, 18] (by decide +kernel) rfl (Nat.le_of_ble_eq_true rfl) (Nat.le_of_ble_eq_true rfl)
            · refine lv_iconst (v := 1) hx hb dX1_countFrom_59 (by decide) ?_
              refine lv_goto (tgt := 64) hx hb dX1_countFrom_60 (by decide) ?_
              refine lv_iadd hx hb dX1_countFrom_64 ?_
              refine lv_topi (fun x_23 ex_23 => ?_)
              refine lv_istore_n (lv' := [(2, .int x_23), (3, .int (nI wd3)), (0, .ref q0), (1, .int 1)]) hx hb dX1_countFrom_65 rfl hl (by decide) rfl (fun ls hl => ?_)
              refine lv_goto (tgt := 85) hx hb dX1_countFrom_66 (by decide) ?_
              refine lv_aload_n hx hb dX1_countFrom_85 rfl (lv_at hl 2 rfl) ?_
              refine va_get (D := D) (ci := 1) (v := .int qo) (C := RX1) (T := TX1) (N := 8) hx hb hg i_X1 hown hK hP 1 rfl rfl 7 (by decide) (hg _ m_560) (fun _ h9 => h9) rfl dX1_countFrom_86 ?_
              refine lv_if_eq (tgt := 98) hx hb dX1_countFrom_89 (by decide) (fun c_89 => ?_) (fun c_89 => ?_)
              · refine lv_iinc (v := nI (wd3 + 1)) (lv' := [(3, .int (nI (wd3 + 1))), (2, .int x_23), (0, .ref q0), (1, .int 1)]) hx hb dX1_countFrom_98 hl (k := 1) rfl (nI_add wd3 1) (by decide) rfl (fun ls hl => ?_)
                refine lv_goto (tgt := 19) hx hb dX1_countFrom_101 (by decide) ?_
                exact ih3  x_23 ((wd3 + 1)) g_7 fa3_3 ha4_3 (by omega) (by omega) _ _ (hP.sub [1, 2, 0, 3, 4, 5, 6, 7, 8, 9, 10, 11, 12, 13, 14, 15, 16, 17, 18] rfl) (hD.sub [1, 2, 0, 3, 4, 5, 6, 7, 8, 9, 10, 11, 12, 13, 14, 15, 16, 17, 18] (by decide +kernel) rfl) hS ls (lv_sub hl [0, 1, 2, 3] rfl)
              · refine lv_iload_n hx hb dX1_countFrom_92 rfl (lv_at hl 0 rfl) ?_
                refine lv_if_le (tgt := 98) hx hb dX1_countFrom_93 (by decide) (fun c_93 => ?_) (fun c_93 => ?_)
                · refine lv_iinc (v := nI (wd3 + 1)) (lv' := [(3, .int (nI (wd3 + 1))), (2, .int x_23), (0, .ref q0), (1, .int 1)]) hx hb dX1_countFrom_98 hl (k := 1) rfl (nI_add wd3 1) (by decide) rfl (fun ls hl => ?_)
                  refine lv_goto (tgt := 19) hx hb dX1_countFrom_101 (by decide) ?_
                  exact ih3  x_23 ((wd3 + 1)) g_7 fa3_3 ha4_3 (by omega) (by omega) _ _ (hP.sub [1, 2, 0, 3, 4, 5, 6, 7, 8, 9, 10, 11, 12, 13, 14, 15, 16, 17, 18] rfl) (hD.sub [1, 2, 0, 3, 4, 5, 6, 7, 8, 9, 10, 11, 12, 13, 14, 15, 16, 17, 18] (by decide +kernel) rfl) hS ls (lv_sub hl [0, 1, 2, 3] rfl)
                · refine lv_iload_n hx hb dX1_countFrom_96 rfl (lv_at hl 0 rfl) ?_
                  exact x_iret hQ hx hb hr hlocks hK hP hD hS dX1_countFrom_97 (fa3_3, g_7) (ha4_3) [1, 2, 0, 3, 4, 5, 6, 7, 8, 9, 10, 11, 12, 13, 14, 15, 16, 17, 18] (by decide +kernel) rfl (Nat.le_of_ble_eq_true rfl) (Nat.le_of_ble_eq_true rfl)
    exact loop3 _ 0 0 fy fph hph (by omega) (Nat.le_refl _) _ _ (hP.sub [0, 1, 2, 3, 4, 5, 6, 7, 8, 9, 10, 11, 12, 13, 14, 15, 16, 17, 18] rfl) (hD.sub [0, 1, 2, 3, 4, 5, 6, 7, 8, 9, 10, 11, 12, 13, 14, 15, 16, 17, 18] (by decide +kernel) rfl) hS ls (lv_sub hl [0, 1, 2, 3] rfl)
set_option maxHeartbeats 1000000 in
set_option maxRecDepth 100000 in
theorem s_countFrom0 (l : Launch) (D : va_G) (cy : Nat → ClassId) (q0 : Nat) (q1 : Nat) (q2 : Nat) (q3 : Nat) (q4 : Nat) (er : Nat) (ql : Nat) (qo : Int32) (fph : Nat → Int32) (fy : Nat → Int32) (h0 : Nat) (h1 : Nat) (h2 : Nat) (h3 : Nat) (h4 : Nat) (h5 : Nat) (h6 : Nat) (h7 : Nat) (h8 : Nat) (h9 : Nat) (h10 : Nat) (h11 : Nat) (hv1 : Value) (hv2 : Value) (hv3 : Value) (hv4 : Value) (ys : Int32) (fx : Nat → Int32) (fc : Nat → Int32) (c0 : Nat) (c1 : Nat) (c2 : Nat) (c3 : Nat) (ea : Nat → Nat) (eg : Nat → Nat) (ef : Nat → Nat) (et : Nat → Int32) (el : Nat → Nat) (ei : Nat → Nat) (gc : Nat → Nat → Int32) (xc : Nat → Nat → Int32) (hph : pRow fph) (hnx : rng fx 48 5) (hcn : cntOK fc c0 c1 c2 c3) (hc0 : c0 ≤ 8) (hc1 : c1 ≤ 4) (hc2 : c2 ≤ 4) (hc3 : c3 ≤ 6) (hql : ql ≤ 5) : XMi l D (tyL cy) E0 yX1_countFrom cX1_countFrom 4 (some .int) (rmk 10 0 0) [.ref q0, .int 0] [wO q0 1 [.ref q1, .ref er, .ref q2, .ref q3, .ref q4, .ref h0, .int (nI ql), .int qo], wI (cy 1) q2 24 (fph), wI (cy 1) q1 5 (fy), wO h0 4 [.ref h1, .ref h2, .ref h3, .ref h4, .ref h5, .ref h6, .ref h7, .ref h8, .ref h9, .ref h10, .ref h11, .int ys, hv1, hv2, hv3, hv4], wI (cy 1) h7 48 (fx), wI (cy 1) h1 4 (fc), (er, .inl (cy 4, 4, .inr (.inr (.inr (.inr (eF (ea 0) (ea 1) (ea 2) (ea 3))))))), wO (ea 0) 2 [.ref (eg 0), .ref (ef 0), .int (et 0), .int (nI (el 0)), .int (nI (ei 0))], wI (cy 1) (eg 0) 10 (gc 0), wI (cy 1) (ef 0) 7 (xc 0), wO (ea 1) 2 [.ref (eg 1), .ref (ef 1), .int (et 1), .int (nI (el 1)), .int (nI (ei 1))], wI (cy 1) (eg 1) 10 (gc 1), wI (cy 1) (ef 1) 7 (xc 1), wO (ea 2) 2 [.ref (eg 2), .ref (ef 2), .int (et 2), .int (nI (el 2)), .int (nI (ei 2))], wI (cy 1) (eg 2) 10 (gc 2), wI (cy 1) (ef 2) 7 (xc 2), wO (ea 3) 2 [.ref (eg 3), .ref (ef 3), .int (et 3), .int (nI (el 3)), .int (nI (ei 3))], wI (cy 1) (eg 3) 10 (gc 3), wI (cy 1) (ef 3) 7 (xc 3)] (fun (r : Int32) (u : (Nat → Int32) × (Nat → Int32)) => (pRow u.1)) (fun (u : (Nat → Int32) × (Nat → Int32)) => [wO q0 1 [.ref q1, .ref er, .ref q2, .ref q3, .ref q4, .ref h0, .int (nI ql), .int qo], wI (cy 1) q2 24 (u.1), wI (cy 1) q1 5 (u.2), wO h0 4 [.ref h1, .ref h2, .ref h3, .ref h4, .ref h5, .ref h6, .ref h7, .ref h8, .ref h9, .ref h10, .ref h11, .int ys, hv1, hv2, hv3, hv4], wI (cy 1) h7 48 (fx), wI (cy 1) h1 4 (fc), (er, .inl (cy 4, 4, .inr (.inr (.inr (.inr (eF (ea 0) (ea 1) (ea 2) (ea 3))))))), wO (ea 0) 2 [.ref (eg 0), .ref (ef 0), .int (et 0), .int (nI (el 0)), .int (nI (ei 0))], wI (cy 1) (eg 0) 10 (gc 0), wI (cy 1) (ef 0) 7 (xc 0), wO (ea 1) 2 [.ref (eg 1), .ref (ef 1), .int (et 1), .int (nI (el 1)), .int (nI (ei 1))], wI (cy 1) (eg 1) 10 (gc 1), wI (cy 1) (ef 1) 7 (xc 1), wO (ea 2) 2 [.ref (eg 2), .ref (ef 2), .int (et 2), .int (nI (el 2)), .int (nI (ei 2))], wI (cy 1) (eg 2) 10 (gc 2), wI (cy 1) (ef 2) 7 (xc 2), wO (ea 3) 2 [.ref (eg 3), .ref (ef 3), .int (et 3), .int (nI (el 3)), .int (nI (ei 3))], wI (cy 1) (eg 3) 10 (gc 3), wI (cy 1) (ef 3) 7 (xc 3)]) := by
  refine XMi.start (by decide) (Nat.le_of_ble_eq_true rfl) ?_
  intro p e s m below meth c args A ls Q hat hQ
  obtain ⟨hx, hb, hr, hml, hown, hg, hlocks, hin, hK, hA, hP, hD, hS, hE, hl⟩ := hat
  have hown : s.vm.findClass RX1 = some m.cls := hown
  have hl : lv_has ls 4 [(0, .ref q0), (1, .int 0)] := hl
  refine lv_iconst (v := 0) hx hb dX1_countFrom_0 (by decide) ?_
  refine lv_istore_n (lv' := [(2, .int 0), (0, .ref q0), (1, .int 0)]) hx hb dX1_countFrom_1 rfl hl (by decide) rfl (fun ls hl => ?_)
  refine lv_iload_n hx hb dX1_countFrom_2 rfl (lv_at hl 2 rfl) ?_
  refine lv_aload_n hx hb dX1_countFrom_3 rfl (lv_at hl 1 rfl) ?_
  refine va_get (D := D) (ci := 1) (v := .int (nI ql)) (C := RX1) (T := TX1) (N := 8) hx hb hg i_X1 hown hK hP 0 rfl rfl 6 (by decide) (hg _ m_559) (fun _ h9 => h9) rfl dX1_countFrom_4 ?_
  refine lv_icmp_ge (tgt := 15) hx hb dX1_countFrom_7 (by decide) (fun c_1 => ?_) (fun c_1 => ?_)
  · have q_2 : ql ≤ 0 := q_le (a := ql) (b := 0) rfl rfl (by omega) (by omega) c_1
    refine lv_iload_n hx hb dX1_countFrom_15 rfl (lv_at hl 0 rfl) ?_
    exact x_iret hQ hx hb hr hlocks hK hP hD hS dX1_countFrom_16 (fph, fy) (hph) [0, 1, 2, 3, 4, 5, 6, 7, 8, 9, 10, 11, 12, 13, 14, 15, 16, 17, 18] (by decide +kernel) rfl (Nat.le_of_ble_eq_true rfl) (Nat.le_of_ble_eq_true rfl)
  · have q_2 : 0 < ql := q_nle (a := ql) (b := 0) rfl rfl (by omega) (by omega) c_1
    refine lv_iload_n hx hb dX1_countFrom_10 rfl (lv_at hl 2 rfl) ?_
    refine lv_iconst (v := 5) hx hb dX1_countFrom_11 (by decide) ?_
    refine lv_icmp_lt (tgt := 17) hx hb dX1_countFrom_12 (by decide) (fun _ => ?_) (fun h => absurd (by decide) h)
    refine lv_iconst (v := 0) hx hb dX1_countFrom_17 (by decide) ?_
    refine lv_istore_n (lv' := [(3, .int 0), (2, .int 0), (0, .ref q0), (1, .int 0)]) hx hb dX1_countFrom_18 rfl hl (by decide) rfl (fun ls hl => ?_)
    have loop3 : ∀ (zn : Nat) (lx2_3 : Int32) (wd3 : Nat) (fa2_3 : Nat → Int32) (fa3_3 : Nat → Int32), (pRow fa3_3) → (wd3 ≤ c0) → c0 - wd3 + 1 ≤ zn → ∀ (H : Heap) (locs : List Loc), va_P D vwCl [wO q0 1 [.ref q1, .ref er, .ref q2, .ref q3, .ref q4, .ref h0, .int (nI ql), .int qo], wI (cy 1) q2 24 (fa3_3), wI (cy 1) q1 5 (fa2_3), wO h0 4 [.ref h1, .ref h2, .ref h3, .ref h4, .ref h5, .ref h6, .ref h7, .ref h8, .ref h9, .ref h10, .ref h11, .int ys, hv1, hv2, hv3, hv4], wI (cy 1) h7 48 (fx), wI (cy 1) h1 4 (fc), (er, .inl (cy 4, 4, .inr (.inr (.inr (.inr (eF (ea 0) (ea 1) (ea 2) (ea 3))))))), wO (ea 0) 2 [.ref (eg 0), .ref (ef 0), .int (et 0), .int (nI (el 0)), .int (nI (ei 0))], wI (cy 1) (eg 0) 10 (gc 0), wI (cy 1) (ef 0) 7 (xc 0), wO (ea 1) 2 [.ref (eg 1), .ref (ef 1), .int (et 1), .int (nI (el 1)), .int (nI (ei 1))], wI (cy 1) (eg 1) 10 (gc 1), wI (cy 1) (ef 1) 7 (xc 1), wO (ea 2) 2 [.ref (eg 2), .ref (ef 2), .int (et 2), .int (nI (el 2)), .int (nI (ei 2))], wI (cy 1) (eg 2) 10 (gc 2), wI (cy 1) (ef 2) 7 (xc 2), wO (ea 3) 2 [.ref (eg 3), .ref (ef 3), .int (et 3), .int (nI (el 3)), .int (nI (ei 3))], wI (cy 1) (eg 3) 10 (gc 3), wI (cy 1) (ef 3) 7 (xc 3)] H → va_D A [wO q0 1 [.ref q1, .ref er, .ref q2, .ref q3, .ref q4, .ref h0, .int (nI ql), .int qo], wI (cy 1) q2 24 (fa3_3), wI (cy 1) q1 5 (fa2_3), wO h0 4 [.ref h1, .ref h2, .ref h3, .ref h4, .ref h5, .ref h6, .ref h7, .ref h8, .ref h9, .ref h10, .ref h11, .int ys, hv1, hv2, hv3, hv4], wI (cy 1) h7 48 (fx), wI (cy 1) h1 4 (fc), (er, .inl (cy 4, 4, .inr (.inr (.inr (.inr (eF (ea 0) (ea 1) (ea 2) (ea 3))))))), wO (ea 0) 2 [.ref (eg 0), .ref (ef 0), .int (et 0), .int (nI (el 0)), .int (nI (ei 0))], wI (cy 1) (eg 0) 10 (gc 0), wI (cy 1) (ef 0) 7 (xc 0), wO (ea 1) 2 [.ref (eg 1), .ref (ef 1), .int (et 1), .int (nI (el 1)), .int (nI (ei 1))], wI (cy 1) (eg 1) 10 (gc 1), wI (cy 1) (ef 1) 7 (xc 1), wO (ea 2) 2 [.ref (eg 2), .ref (ef 2), .int (et 2), .int (nI (el 2)), .int (nI (ei 2))], wI (cy 1) (eg 2) 10 (gc 2), wI (cy 1) (ef 2) 7 (xc 2), wO (ea 3) 2 [.ref (eg 3), .ref (ef 3), .int (et 3), .int (nI (el 3)), .int (nI (ei 3))], wI (cy 1) (eg 3) 10 (gc 3), wI (cy 1) (ef 3) 7 (xc 3)] → va_S A s.heap H locs → ∀ ls : Array Slot, lv_has ls 4 [(3, .int (nI wd3)), (2, .int lx2_3), (0, .ref q0), (1, .int 0)] → W p l e (rmk 10 0 0) s m args below meth c H locs 0 0 Q (F0 m 19 ls []) := by
      try clear hP hD hS
      intro zn
      induction zn with
      | zero => intro lx2_3 wd3 fa2_3 fa3_3 _ _ hz; exact absurd hz (by omega)
      | succ zn ih3 =>
        intro lx2_3 wd3 fa2_3 fa3_3 ha4_3 hf0_3 hmu3 H locs hP hD hS ls hl
        refine lv_iload_n hx hb dX1_countFrom_19 rfl (lv_at hl 0 rfl) ?_
        refine lv_aload_n hx hb dX1_countFrom_20 rfl (lv_at hl 2 rfl) ?_
        refine va_get (D := D) (ci := 1) (v := .ref h0) (C := RX1) (T := TX1) (N := 8) hx hb hg i_X1 hown hK hP 0 rfl rfl 5 (by decide) (hg _ m_558) (fun _ h9 => h9) rfl dX1_countFrom_21 ?_
        refine va_get (D := D) (ci := 4) (v := .ref h1) (C := RX4) (T := TX4) (N := 16) hx hb hg i_X4 hown hK hP 3 rfl rfl 0 (by decide) (hg _ m_331) (fun _ h9 => h9) rfl dX1_countFrom_24 ?_
        refine lv_iconst (v := 0) hx hb dX1_countFrom_27 (by decide) ?_
        refine va_iald hx hb hK hP 5 1 rfl rfl (by unfold vp_in; decide) dX1_countFrom_28 ?_
        refine lv_topi (fun y_4 hy_4 => ?_)
        obtain rfl : y_4 = nI c0 := hy_4.trans hcn.1
        refine lv_icmp_ge (tgt := 104) hx hb dX1_countFrom_29 (by decide) (fun c_5 => ?_) (fun c_5 => ?_)
        · have q_6 : c0 ≤ wd3 := q_le (a := c0) (b := wd3) rfl rfl (by omega) (by omega) c_5
          refine lv_iload_n hx hb dX1_countFrom_104 rfl (lv_at hl 1 rfl) ?_
          exact x_iret hQ hx hb hr hlocks hK hP hD hS dX1_countFrom_105 (fa3_3, fa2_3) (ha4_3) [0, 1, 2, 3, 4, 5, 6, 7, 8, 9, 10, 11, 12, 13, 14, 15, 16, 17, 18] (by decide +kernel) rfl (Nat.le_of_ble_eq_true rfl) (Nat.le_of_ble_eq_true rfl)
        · have q_6 : wd3 < c0 := q_nle (a := c0) (b := wd3) rfl rfl (by omega) (by omega) c_5
          refine lv_aload_n hx hb dX1_countFrom_32 rfl (lv_at hl 2 rfl) ?_
          refine va_get (D := D) (ci := 1) (v := .ref q1) (C := RX1) (T := TX1) (N := 8) hx hb hg i_X1 hown hK hP 0 rfl rfl 0 (by decide) (hg _ m_552) (fun _ h9 => h9) rfl dX1_countFrom_33 ?_
          refine lv_iload_n hx hb dX1_countFrom_36 rfl (lv_at hl 3 rfl) ?_
          refine lv_iload_n hx hb dX1_countFrom_37 rfl (lv_at hl 0 rfl) ?_
          refine va_iast hx hb hK hP hD hS 2 1 rfl rfl (by unfold vp_in; decide) dX1_countFrom_38 (fun H locs hP9 hD9 hS9 => ?_)
          clear hP hD hS
          obtain ⟨g_7, eg_7⟩ : ∃ y, upd fa2_3 (0 : Int32).toNatClampNeg (nI wd3) = y := ⟨_, rfl⟩
          rw [eg_7] at hP9 hD9
          refine reW [wO q0 1 [.ref q1, .ref er, .ref q2, .ref q3, .ref q4, .ref h0, .int (nI ql), .int qo], wI (cy 1) q2 24 (fa3_3), wI (cy 1) q1 5 (g_7), wO h0 4 [.ref h1, .ref h2, .ref h3, .ref h4, .ref h5, .ref h6, .ref h7, .ref h8, .ref h9, .ref h10, .ref h11, .int ys, hv1, hv2, hv3, hv4], wI (cy 1) h7 48 (fx), wI (cy 1) h1 4 (fc), (er, .inl (cy 4, 4, .inr (.inr (.inr (.inr (eF (ea 0) (ea 1) (ea 2) (ea 3))))))), wO (ea 0) 2 [.ref (eg 0), .ref (ef 0), .int (et 0), .int (nI (el 0)), .int (nI (ei 0))], wI (cy 1) (eg 0) 10 (gc 0), wI (cy 1) (ef 0) 7 (xc 0), wO (ea 1) 2 [.ref (eg 1), .ref (ef 1), .int (et 1), .int (nI (el 1)), .int (nI (ei 1))], wI (cy 1) (eg 1) 10 (gc 1), wI (cy 1) (ef 1) 7 (xc 1), wO (ea 2) 2 [.ref (eg 2), .ref (ef 2), .int (et 2), .int (nI (el 2)), .int (nI (ei 2))], wI (cy 1) (eg 2) 10 (gc 2), wI (cy 1) (ef 2) 7 (xc 2), wO (ea 3) 2 [.ref (eg 3), .ref (ef 3), .int (et 3), .int (nI (el 3)), .int (nI (ei 3))], wI (cy 1) (eg 3) 10 (gc 3), wI (cy 1) (ef 3) 7 (xc 3)] hP9 hD9 hS9 (fun hP hD hS => ?_)
          clear hP9 hD9 hS9
          refine lv_iload_n hx hb dX1_countFrom_39 rfl (lv_at hl 3 rfl) ?_
          refine lv_aload_n hx hb dX1_countFrom_40 rfl (lv_at hl 2 rfl) ?_
          refine va_get (D := D) (ci := 1) (v := .int (nI ql)) (C := RX1) (T := TX1) (N := 8) hx hb hg i_X1 hown hK hP 0 rfl rfl 6 (by decide) (hg _ m_559) (fun _ h9 => h9) rfl dX1_countFrom_41 ?_
          refine lv_iconst (v := 1) hx hb dX1_countFrom_44 (by decide) ?_
          refine lv_isub hx hb dX1_countFrom_45 ?_
          refine lv_topi (fun y_8 hy_8 => ?_)
          obtain rfl : y_8 = nI (ql - 1) := hy_8.trans (pk_sub (a := ql) (b := 1) (by omega))
          refine lv_icmp_ne (tgt := 69) hx hb dX1_countFrom_46 (by decide) (fun c_9 => ?_) (fun c_9 => ?_)
          · have q_10 : ¬ 0 = (ql - 1) := q_ne (a := 0) (b := (ql - 1)) rfl rfl (by omega) (by omega) c_9
            refine lv_aload_n hx hb dX1_countFrom_69 rfl (lv_at hl 2 rfl) ?_
            refine lv_iload_n hx hb dX1_countFrom_70 rfl (lv_at hl 3 rfl) ?_
            refine lv_iload_n hx hb dX1_countFrom_71 rfl (lv_at hl 0 rfl) ?_
            refine x_callVv (q := (RX1, TX1, 8)) (ci := 1) (q0 := 0) (wr := [wI (cy 1) q1 5 (g_7)]) (rest := []) ⟨hx, hb, hml, hown, hg, hl.1⟩ k_X1_66 (s_goOn l D cy q0 q1 q2 q3 q4 er ql qo fa3_3 h0 h1 h2 h3 h4 h5 h6 h7 h8 h9 h10 h11 ((.int ys)) hv1 hv2 hv3 hv4 fx fc c0 c1 c2 c3 ea eg ef et el ei gc xc 0 wd3 (ha4_3) (hnx) (hcn) (by omega) (by omega) (by omega) (by omega) (by omega) (by omega)) E0_blind hK hP hD hS hA [0, 1, 3, 4, 5, 6, 7, 8, 9, 10, 11, 12, 13, 14, 15, 16, 17, 18] [2] ⟨rfl, rfl, by decide +kernel, by decide +kernel, by decide +kernel⟩ rfl rfl (fun _ _ _ => trivial) dX1_countFrom_72 rfl rfl (Nat.le_of_ble_eq_true rfl) ⟨Nat.le_of_ble_eq_true rfl, Nat.le_of_ble_eq_true rfl⟩ ⟨Nat.le_of_ble_eq_true rfl, Nat.le_of_ble_eq_true rfl⟩ (fun zu11 H locs hw11 hP9 hD9 hS9 => ?_)
            clear hP hD hS
            obtain ⟨fph2_12, rfl⟩ : ∃ z, z = zu11 := ⟨_, rfl⟩
            refine reW [wI (cy 1) q1 5 (g_7), wO q0 1 [.ref q1, .ref er, .ref q2, .ref q3, .ref q4, .ref h0, .int (nI ql), .int qo], wI (cy 1) q2 24 (fph2_12), wO h0 4 [.ref h1, .ref h2, .ref h3, .ref h4, .ref h5, .ref h6, .ref h7, .ref h8, .ref h9, .ref h10, .ref h11, .int ys, hv1, hv2, hv3, hv4], wI (cy 1) h7 48 (fx), wI (cy 1) h1 4 (fc), (er, .inl (cy 4, 4, .inr (.inr (.inr (.inr (eF (ea 0) (ea 1) (ea 2) (ea 3))))))), wO (ea 0) 2 [.ref (eg 0), .ref (ef 0), .int (et 0), .int (nI (el 0)), .int (nI (ei 0))], wI (cy 1) (eg 0) 10 (gc 0), wI (cy 1) (ef 0) 7 (xc 0), wO (ea 1) 2 [.ref (eg 1), .ref (ef 1), .int (et 1), .int (nI (el 1)), .int (nI (ei 1))], wI (cy 1) (eg 1) 10 (gc 1), wI (cy 1) (ef 1) 7 (xc 1), wO (ea 2) 2 [.ref (eg 2), .ref (ef 2), .int (et 2), .int (nI (el 2)), .int (nI (ei 2))], wI (cy 1) (eg 2) 10 (gc 2), wI (cy 1) (ef 2) 7 (xc 2), wO (ea 3) 2 [.ref (eg 3), .ref (ef 3), .int (et 3), .int (nI (el 3)), .int (nI (ei 3))], wI (cy 1) (eg 3) 10 (gc 3), wI (cy 1) (ef 3) 7 (xc 3)] hP9 hD9 hS9 (fun hP hD hS => ?_)
            clear hP9 hD9 hS9
            refine W.widen (k := 0) (n := 0) (Nat.le_of_ble_eq_true rfl) (Nat.le_of_ble_eq_true rfl) ?_
            replace hw11 : (pRow fph2_12) := hw11
            have f_13 := hw11
            refine lv_iload_n hx hb dX1_countFrom_75 rfl (lv_at hl 1 rfl) ?_
            refine lv_aload_n hx hb dX1_countFrom_76 rfl (lv_at hl 2 rfl) ?_
            refine lv_iload_n hx hb dX1_countFrom_77 rfl (lv_at hl 3 rfl) ?_
            refine lv_iconst (v := 1) hx hb dX1_countFrom_78 (by decide) ?_
            refine lv_iadd hx hb dX1_countFrom_79 ?_
            refine lv_topi (fun y_14 hy_14 => ?_)
            obtain rfl : y_14 = 1 := hy_14.trans (by decide +kernel)
            refine x_callVi (q := (RX1, TX1, 8)) (ci := 1) (q0 := 0) (wr := []) (rest := [.int lx2_3]) ⟨hx, hb, hml, hown, hg, hl.1⟩ k_X1_58 (s_countFrom1 l D cy q0 q1 q2 q3 q4 er ql qo fph2_12 g_7 h0 h1 h2 h3 h4 h5 h6 h7 h8 h9 h10 h11 hv1 hv2 hv3 hv4 ys fx fc c0 c1 c2 c3 ea eg ef et el ei gc xc (f_13) (hnx) (hcn) (by omega) (by omega) (by omega) (by omega) (by omega)) E0_blind hK hP hD hS hA [1, 2, 0, 3, 4, 5, 6, 7, 8, 9, 10, 11, 12, 13, 14, 15, 16, 17, 18] [] ⟨rfl, rfl, by decide +kernel, by decide +kernel, by decide +kernel⟩ rfl rfl (fun _ _ _ => trivial) dX1_countFrom_80 rfl rfl (Nat.le_of_ble_eq_true rfl) ⟨Nat.le_of_ble_eq_true rfl, Nat.le_of_ble_eq_true rfl⟩ ⟨Nat.le_of_ble_eq_true rfl, Nat.le_of_ble_eq_true rfl⟩ (fun zr15 zu15 H locs hw15 hP9 hD9 hS9 => ?_)
            clear hP hD hS
            obtain ⟨fph2_16, fy2_17⟩ := zu15
            refine reW [wO q0 1 [.ref q1, .ref er, .ref q2, .ref q3, .ref q4, .ref h0, .int (nI ql), .int qo], wI (cy 1) q2 24 (fph2_16), wI (cy 1) q1 5 (fy2_17), wO h0 4 [.ref h1, .ref h2, .ref h3, .ref h4, .ref h5, .ref h6, .ref h7, .ref h8, .ref h9, .ref h10, .ref h11, .int ys, hv1, hv2, hv3, hv4], wI (cy 1) h7 48 (fx), wI (cy 1) h1 4 (fc), (er, .inl (cy 4, 4, .inr (.inr (.inr (.inr (eF (ea 0) (ea 1) (ea 2) (ea 3))))))), wO (ea 0) 2 [.ref (eg 0), .ref (ef 0), .int (et 0), .int (nI (el 0)), .int (nI (ei 0))], wI (cy 1) (eg 0) 10 (gc 0), wI (cy 1) (ef 0) 7 (xc 0), wO (ea 1) 2 [.ref (eg 1), .ref (ef 1), .int (et 1), .int (nI (el 1)), .int (nI (ei 1))], wI (cy 1) (eg 1) 10 (gc 1), wI (cy 1) (ef 1) 7 (xc 1), wO (ea 2) 2 [.ref (eg 2), .ref (ef 2), .int (et 2), .int (nI (el 2)), .int (nI (ei 2))], wI (cy 1) (eg 2) 10 (gc 2), wI (cy 1) (ef 2) 7 (xc 2), wO (ea 3) 2 [.ref (eg 3), .ref (ef 3), .int (et 3), .int (nI (el 3)), .int (nI (ei 3))], wI (cy 1) (eg 3) 10 (gc 3), wI (cy 1) (ef 3) 7 (xc 3)] hP9 hD9 hS9 (fun hP hD hS => ?_)
            clear hP9 hD9 hS9
            refine W.widen (k := 0) (n := 0) (Nat.le_of_ble_eq_true rfl) (Nat.le_of_ble_eq_true rfl) ?_
            replace hw15 : (pRow fph2_16) := hw15
            have f_18 := hw15
            refine lv_iadd hx hb dX1_countFrom_83 ?_
            refine lv_topi (fun x_19 ex_19 => ?_)
            refine lv_istore_n (lv' := [(2, .int x_19), (3, .int (nI wd3)), (0, .ref q0), (1, .int 0)]) hx hb dX1_countFrom_84 rfl hl (by decide) rfl (fun ls hl => ?_)
            refine lv_aload_n hx hb dX1_countFrom_85 rfl (lv_at hl 2 rfl) ?_
            refine va_get (D := D) (ci := 1) (v := .int qo) (C := RX1) (T := TX1) (N := 8) hx hb hg i_X1 hown hK hP 0 rfl rfl 7 (by decide) (hg _ m_560) (fun _ h9 => h9) rfl dX1_countFrom_86 ?_
            refine lv_if_eq (tgt := 98) hx hb dX1_countFrom_89 (by decide) (fun c_89 => ?_) (fun c_89 => ?_)
            · refine lv_iinc (v := nI (wd3 + 1)) (lv' := [(3, .int (nI (wd3 + 1))), (2, .int x_19), (0, .ref q0), (1, .int 0)]) hx hb dX1_countFrom_98 hl (k := 1) rfl (nI_add wd3 1) (by decide) rfl (fun ls hl => ?_)
              refine lv_goto (tgt := 19) hx hb dX1_countFrom_101 (by decide) ?_
              exact ih3  x_19 ((wd3 + 1)) fy2_17 fph2_16 f_18 (by omega) (by omega) _ _ (hP.sub [0, 1, 2, 3, 4, 5, 6, 7, 8, 9, 10, 11, 12, 13, 14, 15, 16, 17, 18] rfl) (hD.sub [0, 1, 2, 3, 4, 5, 6, 7, 8, 9, 10, 11, 12, 13, 14, 15, 16, 17, 18] (by decide +kernel) rfl) hS ls (lv_sub hl [0, 1, 2, 3] rfl)
            · refine lv_iload_n hx hb dX1_countFrom_92 rfl (lv_at hl 0 rfl) ?_
              refine lv_if_le (tgt := 98) hx hb dX1_countFrom_93 (by decide) (fun c_93 => ?_) (fun c_93 => ?_)
              · refine lv_iinc (v := nI (wd3 + 1)) (lv' := [(3, .int (nI (wd3 + 1))), (2, .int x_19), (0, .ref q0), (1, .int 0)]) hx hb dX1_countFrom_98 hl (k := 1) rfl (nI_add wd3 1) (by decide) rfl (fun ls hl => ?_)
                refine lv_goto (tgt := 19) hx hb dX1_countFrom_101 (by decide) ?_
                exact ih3  x_19 ((wd3 + 1)) fy2_17 fph2_16 f_18 (by omega) (by omega) _ _ (hP.sub [0, 1, 2, 3, 4, 5, 6, 7, 8, 9, 10, 11, 12, 13, 14, 15, 16, 17, 18] rfl) (hD.sub [0, 1, 2, 3, 4, 5, 6, 7, 8, 9, 10, 11, 12, 13, 14, 15, 16, 17, 18] (by decide +kernel) rfl) hS ls (lv_sub hl [0, 1, 2, 3] rfl)
              · refine lv_iload_n hx hb dX1_countFrom_96 rfl (lv_at hl 0 rfl) ?_
                exact x_iret hQ hx hb hr hlocks hK hP hD hS dX1_countFrom_97 (fph2_16, fy2_17) (f_18) [0, 1, 2, 3, 4, 5, 6, 7, 8, 9, 10, 11, 12, 13, 14, 15, 16, 17, 18] (by decide +kernel) rfl (Nat.le_of_ble_eq_true rfl) (Nat.le_of_ble_eq_true rfl)
          · have q_10 : 0 = (ql - 1) := q_eq (a := 0) (b := (ql - 1)) rfl rfl (by omega) (by omega) c_9
            refine lv_iload_n hx hb dX1_countFrom_49 rfl (lv_at hl 1 rfl) ?_
            refine lv_aload_n hx hb dX1_countFrom_50 rfl (lv_at hl 2 rfl) ?_
            refine lv_iload_n hx hb dX1_countFrom_51 rfl (lv_at hl 3 rfl) ?_
            refine lv_iload_n hx hb dX1_countFrom_52 rfl (lv_at hl 0 rfl) ?_
            refine x_callVi (q := (RX1, TX1, 8)) (ci := 1) (q0 := 0) (wr := [wI (cy 1) q1 5 (g_7)]) (rest := [.int lx2_3]) ⟨hx, hb, hml, hown, hg, hl.1⟩ k_X1_62 (s_pardonsWithLast l D cy q0 q1 q2 q3 q4 er ql qo fa3_3 h0 h1 h2 h3 h4 h5 h6 h7 h8 h9 h10 h11 hv1 hv2 hv3 hv4 ys fx fc c0 c1 c2 c3 ea eg ef et el ei gc xc 0 wd3 (ha4_3) (hnx) (hcn) (by omega) (by omega) (by omega) (by omega) (by omega) (by omega)) E0_blind hK hP hD hS hA [0, 1, 3, 4, 5, 6, 7, 8, 9, 10, 11, 12, 13, 14, 15, 16, 17, 18] [2] ⟨rfl, rfl, by decide +kernel, by decide +kernel, by decide +kernel⟩ rfl rfl (fun _ _ _ => trivial) dX1_countFrom_53 rfl rfl (Nat.le_of_ble_eq_true rfl) ⟨Nat.le_of_ble_eq_true rfl, Nat.le_of_ble_eq_true rfl⟩ ⟨Nat.le_of_ble_eq_true rfl, Nat.le_of_ble_eq_true rfl⟩ (fun zr20 zu20 H locs hw20 hP9 hD9 hS9 => ?_)
            clear hP hD hS
            refine reW [wI (cy 1) q1 5 (g_7), wO q0 1 [.ref q1, .ref er, .ref q2, .ref q3, .ref q4, .ref h0, .int (nI ql), .int qo], wI (cy 1) q2 24 (fa3_3), wO h0 4 [.ref h1, .ref h2, .ref h3, .ref h4, .ref h5, .ref h6, .ref h7, .ref h8, .ref h9, .ref h10, .ref h11, .int ys, hv1, hv2, hv3, hv4], wI (cy 1) h7 48 (fx), wI (cy 1) h1 4 (fc), (er, .inl (cy 4, 4, .inr (.inr (.inr (.inr (eF (ea 0) (ea 1) (ea 2) (ea 3))))))), wO (ea 0) 2 [.ref (eg 0), .ref (ef 0), .int (et 0), .int (nI (el 0)), .int (nI (ei 0))], wI (cy 1) (eg 0) 10 (gc 0), wI (cy 1) (ef 0) 7 (xc 0), wO (ea 1) 2 [.ref (eg 1), .ref (ef 1), .int (et 1), .int (nI (el 1)), .int (nI (ei 1))], wI (cy 1) (eg 1) 10 (gc 1), wI (cy 1) (ef 1) 7 (xc 1), wO (ea 2) 2 [.ref (eg 2), .ref (ef 2), .int (et 2), .int (nI (el 2)), .int (nI (ei 2))], wI (cy 1) (eg 2) 10 (gc 2), wI (cy 1) (ef 2) 7 (xc 2), wO (ea 3) 2 [.ref (eg 3), .ref (ef 3), .int (et 3), .int (nI (el 3)), .int (nI (ei 3))], wI (cy 1) (eg 3) 10 (gc 3), wI (cy 1) (ef 3) 7 (xc 3)] hP9 hD9 hS9 (fun hP hD hS => ?_)
            clear hP9 hD9 hS9
            refine W.widen (k := 0) (n := 0) (Nat.le_of_ble_eq_true rfl) (Nat.le_of_ble_eq_true rfl) ?_
            replace hw20 : (zr20 = 0 ∨ zr20 = 1) := hw20
            have f_21 := hw20
            refine lv_if_eq (tgt := 63) hx hb dX1_countFrom_56 (by decide) (fun c_56 => ?_) (fun c_56 => ?_)
            · refine lv_iconst (v := 0) hx hb dX1_countFrom_63 (by decide) ?_
              refine lv_iadd hx hb dX1_countFrom_64 ?_
              refine lv_topi (fun x_22 ex_22 => ?_)
              refine lv_istore_n (lv' := [(2, .int x_22), (3, .int (nI wd3)), (0, .ref q0), (1, .int 0)]) hx hb dX1_countFrom_65 rfl hl (by decide) rfl (fun ls hl => ?_)
              refine lv_goto (tgt := 85) hx hb dX1_countFrom_66 (by decide) ?_
              refine lv_aload_n hx hb dX1_countFrom_85 rfl (lv_at hl 2 rfl) ?_
              refine va_get (D := D) (ci := 1) (v := .int qo) (C := RX1) (T := TX1) (N := 8) hx hb hg i_X1 hown hK hP 1 rfl rfl 7 (by decide) (hg _ m_560) (fun _ h9 => h9) rfl dX1_countFrom_86 ?_
              refine lv_if_eq (tgt := 98) hx hb dX1_countFrom_89 (by decide) (fun c_89 => ?_) (fun c_89 => ?_)
              · refine lv_iinc (v := nI (wd3 + 1)) (lv' := [(3, .int (nI (wd3 + 1))), (2, .int x_22), (0, .ref q0), (1, .int 0)]) hx hb dX1_countFrom_98 hl (k := 1) rfl (nI_add wd3 1) (by decide) rfl (fun ls hl => ?_)
                refine lv_goto (tgt := 19) hx hb dX1_countFrom_101 (by decide) ?_
                exact ih3  x_22 ((wd3 + 1)) g_7 fa3_3 ha4_3 (by omega) (by omega) _ _ (hP.sub [1, 2, 0, 3, 4, 5, 6, 7, 8, 9, 10, 11, 12, 13, 14, 15, 16, 17, 18] rfl) (hD.sub [1, 2, 0, 3, 4, 5, 6, 7, 8, 9, 10, 11, 12, 13, 14, 15, 16, 17, 18] (by decide +kernel) rfl) hS ls (lv_sub hl [0, 1, 2, 3] rfl)
              · refine lv_iload_n hx hb dX1_countFrom_92 rfl (lv_at hl 0 rfl) ?_
                refine lv_if_le (tgt := 98) hx hb dX1_countFrom_93 (by decide) (fun c_93 => ?_) (fun c_93 => ?_)
                · refine lv_iinc (v := nI (wd3 + 1)) (lv' := [(3, .int (nI (wd3 + 1))), (2, .int x_22), (0, .ref q0), (1, .int 0)]) hx hb dX1_countFrom_98 hl (k := 1) rfl (nI_add wd3 1) (by decide) rfl (fun ls hl => ?_)
                  refine lv_goto (tgt := 19) hx hb dX1_countFrom_101 (by decide) ?_
                  exact ih3  x_22 ((wd3 + 1)) g_7 fa3_3 ha4_3 (by omega) (by omega) _ _ (hP.sub [1, 2, 0, 3, 4, 5, 6, 7, 8, 9, 10, 11, 12, 13, 14, 15, 16, 17, 18] rfl) (hD.sub [1, 2, 0, 3, 4, 5, 6, 7, 8, 9, 10, 11, 12, 13, 14, 15, 16, 17, 18] (by decide +kernel) rfl) hS ls (lv_sub hl [0, 1, 2, 3] rfl)
                · refine lv_iload_n hx hb dX1_countFrom_96 rfl (lv_at hl 0 rfl) ?_
                  exact x_iret hQ hx hb hr hlocks hK hP hD hS dX1_countFrom_97 (fa3_3, g_7) (ha4_3) [1, 2, 0, 3, 4, 5, 6, 7, 8, 9, 10, 11, 12, 13, 14, 15, 16, 17, 18] (by decide +kernel) rfl (Nat.le_of_ble_eq_true rfl) (Nat.le_of_ble_eq_true rfl)
            · refine lv_iconst (v := 1) hx hb dX1_countFrom_59 (by decide) ?_
              refine lv_goto (tgt := 64) hx hb dX1_countFrom_60 (by decide) ?_
              refine lv_iadd hx hb dX1_countFrom_64 ?_
              refine lv_topi (fun x_23 ex_23 => ?_)
              refine lv_istore_n (lv' := [(2, .int x_23), (3, .int (nI wd3)), (0, .ref q0), (1, .int 0)]) hx hb dX1_countFrom_65 rfl hl (by decide) rfl (fun ls hl => ?_)
              refine lv_goto (tgt := 85) hx hb dX1_countFrom_66 (by decide) ?_
              refine lv_aload_n hx hb dX1_countFrom_85 rfl (lv_at hl 2 rfl) ?_
              refine va_get (D := D) (ci := 1) (v := .int qo) (C := RX1) (T := TX1) (N := 8) hx hb hg i_X1 hown hK hP 1 rfl rfl 7 (by decide) (hg _ m_560) (fun _ h9 => h9) rfl dX1_countFrom_86 ?_
              refine lv_if_eq (tgt := 98) hx hb dX1_countFrom_89 (by decide) (fun c_89 => ?_) (fun c_89 => ?_)
              · refine lv_iinc (v := nI (wd3 + 1)) (lv' := [(3, .int (nI (wd3 + 1))), (2, .int x_23), (0, .ref q0), (1, .int 0)]) hx hb dX1_countFrom_98 hl (k := 1) rfl (nI_add wd3 1) (by decide) rfl (fun ls hl => ?_)
                refine lv_goto (tgt := 19) hx hb dX1_countFrom_101 (by decide) ?_
                exact ih3  x_23 ((wd3 + 1)) g_7 fa3_3 ha4_3 (by omega) (by omega) _ _ (hP.sub [1, 2, 0, 3, 4, 5, 6, 7, 8, 9, 10, 11, 12, 13, 14, 15, 16, 17, 18] rfl) (hD.sub [1, 2, 0, 3, 4, 5, 6, 7, 8, 9, 10, 11, 12, 13, 14, 15, 16, 17, 18] (by decide +kernel) rfl) hS ls (lv_sub hl [0, 1, 2, 3] rfl)
              · refine lv_iload_n hx hb dX1_countFrom_92 rfl (lv_at hl 0 rfl) ?_
                refine lv_if_le (tgt := 98) hx hb dX1_countFrom_93 (by decide) (fun c_93 => ?_) (fun c_93 => ?_)
                · refine lv_iinc (v := nI (wd3 + 1)) (lv' := [(3, .int (nI (wd3 + 1))), (2, .int x_23), (0, .ref q0), (1, .int 0)]) hx hb dX1_countFrom_98 hl (k := 1) rfl (nI_add wd3 1) (by decide) rfl (fun ls hl => ?_)
                  refine lv_goto (tgt := 19) hx hb dX1_countFrom_101 (by decide) ?_
                  exact ih3  x_23 ((wd3 + 1)) g_7 fa3_3 ha4_3 (by omega) (by omega) _ _ (hP.sub [1, 2, 0, 3, 4, 5, 6, 7, 8, 9, 10, 11, 12, 13, 14, 15, 16, 17, 18] rfl) (hD.sub [1, 2, 0, 3, 4, 5, 6, 7, 8, 9, 10, 11, 12, 13, 14, 15, 16, 17, 18] (by decide +kernel) rfl) hS ls (lv_sub hl [0, 1, 2, 3] rfl)
                · refine lv_iload_n hx hb dX1_countFrom_96 rfl (lv_at hl 0 rfl) ?_
                  exact x_iret hQ hx hb hr hlocks hK hP hD hS dX1_countFrom_97 (fa3_3, g_7) (ha4_3) [1, 2, 0, 3, 4, 5, 6, 7, 8, 9, 10, 11, 12, 13, 14, 15, 16, 17, 18] (by decide +kernel) rfl (Nat.le_of_ble_eq_true rfl) (Nat.le_of_ble_eq_true rfl)
    exact loop3 _ 0 0 fy fph hph (by omega) (Nat.le_refl _) _ _ (hP.sub [0, 1, 2, 3, 4, 5, 6, 7, 8, 9, 10, 11, 12, 13, 14, 15, 16, 17, 18] rfl) (hD.sub [0, 1, 2, 3, 4, 5, 6, 7, 8, 9, 10, 11, 12, 13, 14, 15, 16, 17, 18] (by decide +kernel) rfl) hS ls (lv_sub hl [0, 1, 2, 3] rfl)
