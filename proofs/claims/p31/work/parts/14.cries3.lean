def mL14 : List (Option Cond) := [some (Cond.selects RX1 yX1_countWays yX1_countWays), some (Cond.selects RX1 yX1_followWays yX1_followWays), some (Cond.initialized RJ6), some (Cond.fieldLink RX1 114 "CliffJudges$Ear" "gone" "[I"), some (Cond.fieldLink RX1 18 "CliffJudges$Cries" "wanted" "[I"), some (Cond.fieldLink RX1 21 "CliffJudges$Cries" "ways" "[I"), some (Cond.fieldLink RX1 101 "CliffJudges$Shout" "words" "[I"), some (Cond.fieldLink RX1 98 "CliffJudges$Shout" "length" "I"), some (Cond.methodLink RX1 48 yX2_tuneToAll), some (Cond.instanceMethod yX2_tuneToAll), some (Cond.selects RX2 yX2_tuneToAll yX2_tuneToAll), some (Cond.code yX2_tuneToAll cX2_tuneToAll 7 none), some (Cond.methodLink RX1 54 yX1_unmoved), some (Cond.static yX1_unmoved), some (Cond.code yX1_unmoved cX1_unmoved 2 (some .int)), some (Cond.methodLink RX1 104 yX1_countWays), some (Cond.instanceMethod yX1_countWays), some (Cond.code yX1_countWays cX1_countWays 8 none), some (Cond.methodLink RX1 111 yX1_wayIndex), some (Cond.static yX1_wayIndex), some (Cond.code yX1_wayIndex cX1_wayIndex 2 (some .int)), some (Cond.methodLink RX1 117 yJ6_bitCount_0f7a4), some (Cond.static yJ6_bitCount_0f7a4), some (Cond.code yJ6_bitCount_0f7a4 cJ6_bitCount_0f7a4 1 (some .int)), some (Cond.methodLink RX1 108 yX1_followWays), some (Cond.instanceMethod yX1_followWays), some (Cond.code yX1_followWays cX1_followWays 10 none)]
set_option maxRecDepth 100000 in
theorem mP14 : pick [44, 1, 105, 364, 42, 1, 66, 8, 515, 1, 1, 1, 1, 1, 1, 46, 2, 1, 1, 1, 1, 1, 1, 1, 4, 2, 1] lw_tbl = mL14 := rfl
set_option maxRecDepth 100000 in
theorem mG14 : mL14.all (fun o => o.all goodWord) = true := rfl
theorem m_44 : (Cond.selects RX1 yX1_countWays yX1_countWays) ∈ gT := gp mP14 mG14 0 rfl
theorem m_45 : (Cond.selects RX1 yX1_followWays yX1_followWays) ∈ gT := gp mP14 mG14 1 rfl
theorem m_150 : (Cond.initialized RJ6) ∈ gT := gp mP14 mG14 2 rfl
theorem m_514 : (Cond.fieldLink RX1 114 "CliffJudges$Ear" "gone" "[I") ∈ gT := gp mP14 mG14 3 rfl
theorem m_556 : (Cond.fieldLink RX1 18 "CliffJudges$Cries" "wanted" "[I") ∈ gT := gp mP14 mG14 4 rfl
theorem m_557 : (Cond.fieldLink RX1 21 "CliffJudges$Cries" "ways" "[I") ∈ gT := gp mP14 mG14 5 rfl
theorem m_623 : (Cond.fieldLink RX1 101 "CliffJudges$Shout" "words" "[I") ∈ gT := gp mP14 mG14 6 rfl
theorem m_631 : (Cond.fieldLink RX1 98 "CliffJudges$Shout" "length" "I") ∈ gT := gp mP14 mG14 7 rfl
theorem m_1146 : (Cond.methodLink RX1 48 yX2_tuneToAll) ∈ gT := gp mP14 mG14 8 rfl
theorem m_1147 : (Cond.instanceMethod yX2_tuneToAll) ∈ gT := gp mP14 mG14 9 rfl
theorem m_1148 : (Cond.selects RX2 yX2_tuneToAll yX2_tuneToAll) ∈ gT := gp mP14 mG14 10 rfl
theorem m_1149 : (Cond.code yX2_tuneToAll cX2_tuneToAll 7 none) ∈ gT := gp mP14 mG14 11 rfl
theorem m_1150 : (Cond.methodLink RX1 54 yX1_unmoved) ∈ gT := gp mP14 mG14 12 rfl
theorem m_1151 : (Cond.static yX1_unmoved) ∈ gT := gp mP14 mG14 13 rfl
theorem m_1152 : (Cond.code yX1_unmoved cX1_unmoved 2 (some .int)) ∈ gT := gp mP14 mG14 14 rfl
theorem m_1198 : (Cond.methodLink RX1 104 yX1_countWays) ∈ gT := gp mP14 mG14 15 rfl
theorem m_1200 : (Cond.instanceMethod yX1_countWays) ∈ gT := gp mP14 mG14 16 rfl
theorem m_1201 : (Cond.code yX1_countWays cX1_countWays 8 none) ∈ gT := gp mP14 mG14 17 rfl
theorem m_1202 : (Cond.methodLink RX1 111 yX1_wayIndex) ∈ gT := gp mP14 mG14 18 rfl
theorem m_1203 : (Cond.static yX1_wayIndex) ∈ gT := gp mP14 mG14 19 rfl
theorem m_1204 : (Cond.code yX1_wayIndex cX1_wayIndex 2 (some .int)) ∈ gT := gp mP14 mG14 20 rfl
theorem m_1205 : (Cond.methodLink RX1 117 yJ6_bitCount_0f7a4) ∈ gT := gp mP14 mG14 21 rfl
theorem m_1206 : (Cond.static yJ6_bitCount_0f7a4) ∈ gT := gp mP14 mG14 22 rfl
theorem m_1207 : (Cond.code yJ6_bitCount_0f7a4 cJ6_bitCount_0f7a4 1 (some .int)) ∈ gT := gp mP14 mG14 23 rfl
theorem m_1211 : (Cond.methodLink RX1 108 yX1_followWays) ∈ gT := gp mP14 mG14 24 rfl
theorem m_1213 : (Cond.instanceMethod yX1_followWays) ∈ gT := gp mP14 mG14 25 rfl
theorem m_1214 : (Cond.code yX1_followWays cX1_followWays 10 none) ∈ gT := gp mP14 mG14 26 rfl
theorem po_put {fa g : Nat → Int32} {i : Nat} {x : Int32} (h : ∀ c9 : Nat, c9 < i → fa c9 = nI 181896) (e : upd fa (nI i).toNatClampNeg x = g) (hx : x = nI 181896) (hi : i < 2 ^ 31 := by decide) : ∀ c9 : Nat, c9 < i + 1 → g c9 = nI 181896 := by
  rw [nI_clamp hi] at e
  subst e
  intro k hk
  by_cases q : k = i
  · rw [q, pk_us]; exact hx
  · rw [pk_un q]; exact h k (by omega)
theorem addm1 (a : Int32) : a + Int32.ofInt (-1) = a - 1 := by
  rw [Int32.sub_eq_add_neg]; rfl
theorem gdX1_pardonsOf_0 : decode cX1_pardonsOf 0 = .ok (.aload_n 0, 1) ∧ decode cX1_pardonsOf 1 = .ok (.aload_n 1, 1) ∧ decode cX1_pardonsOf 2 = .ok (.putfield 31, 3) ∧ decode cX1_pardonsOf 5 = .ok (.aload_n 0, 1) ∧ decode cX1_pardonsOf 6 = .ok (.iload_n 3, 1) ∧ decode cX1_pardonsOf 7 = .ok (.putfield 35, 3) ∧ decode cX1_pardonsOf 10 = .ok (.aload_n 0, 1) ∧ decode cX1_pardonsOf 11 = .ok (.iload 4, 2) ∧ decode cX1_pardonsOf 13 = .ok (.putfield 39, 3) ∧ decode cX1_pardonsOf 16 = .ok (.iconst 0, 1) ∧ decode cX1_pardonsOf 17 = .ok (.istore 5, 2) ∧ decode cX1_pardonsOf 19 = .ok (.iload 5, 2) := by decide +kernel
theorem dX1_pardonsOf_0 : decode cX1_pardonsOf 0 = .ok (.aload_n 0, 1) := gdX1_pardonsOf_0.1
theorem dX1_pardonsOf_1 : decode cX1_pardonsOf 1 = .ok (.aload_n 1, 1) := gdX1_pardonsOf_0.2.1
theorem dX1_pardonsOf_2 : decode cX1_pardonsOf 2 = .ok (.putfield 31, 3) := gdX1_pardonsOf_0.2.2.1
theorem dX1_pardonsOf_5 : decode cX1_pardonsOf 5 = .ok (.aload_n 0, 1) := gdX1_pardonsOf_0.2.2.2.1
theorem dX1_pardonsOf_6 : decode cX1_pardonsOf 6 = .ok (.iload_n 3, 1) := gdX1_pardonsOf_0.2.2.2.2.1
theorem dX1_pardonsOf_7 : decode cX1_pardonsOf 7 = .ok (.putfield 35, 3) := gdX1_pardonsOf_0.2.2.2.2.2.1
theorem dX1_pardonsOf_10 : decode cX1_pardonsOf 10 = .ok (.aload_n 0, 1) := gdX1_pardonsOf_0.2.2.2.2.2.2.1
theorem dX1_pardonsOf_11 : decode cX1_pardonsOf 11 = .ok (.iload 4, 2) := gdX1_pardonsOf_0.2.2.2.2.2.2.2.1
theorem dX1_pardonsOf_13 : decode cX1_pardonsOf 13 = .ok (.putfield 39, 3) := gdX1_pardonsOf_0.2.2.2.2.2.2.2.2.1
theorem dX1_pardonsOf_16 : decode cX1_pardonsOf 16 = .ok (.iconst 0, 1) := gdX1_pardonsOf_0.2.2.2.2.2.2.2.2.2.1
theorem dX1_pardonsOf_17 : decode cX1_pardonsOf 17 = .ok (.istore 5, 2) := gdX1_pardonsOf_0.2.2.2.2.2.2.2.2.2.2.1
theorem dX1_pardonsOf_19 : decode cX1_pardonsOf 19 = .ok (.iload 5, 2) := gdX1_pardonsOf_0.2.2.2.2.2.2.2.2.2.2.2
theorem gdX1_pardonsOf_21 : decode cX1_pardonsOf 21 = .ok (.aload_n 1, 1) ∧ decode cX1_pardonsOf 22 = .ok (.getfield 43, 3) ∧ decode cX1_pardonsOf 25 = .ok (.iconst 1, 1) ∧ decode cX1_pardonsOf 26 = .ok (.iaload, 1) ∧ decode cX1_pardonsOf 27 = .ok (.if_icmp .ge 34, 3) ∧ decode cX1_pardonsOf 61 = .ok (.aload_n 0, 1) ∧ decode cX1_pardonsOf 62 = .ok (.iconst 0, 1) ∧ decode cX1_pardonsOf 63 = .ok (.invokevirtual 58, 3) ∧ decode cX1_pardonsOf 66 = .ok (.ireturn, 1) ∧ decode cX1_pardonsOf 30 = .ok (.aload_n 0, 1) ∧ decode cX1_pardonsOf 31 = .ok (.getfield 30, 3) ∧ decode cX1_pardonsOf 34 = .ok (.iload 5, 2) := by decide +kernel
theorem dX1_pardonsOf_21 : decode cX1_pardonsOf 21 = .ok (.aload_n 1, 1) := gdX1_pardonsOf_21.1
theorem dX1_pardonsOf_22 : decode cX1_pardonsOf 22 = .ok (.getfield 43, 3) := gdX1_pardonsOf_21.2.1
theorem dX1_pardonsOf_25 : decode cX1_pardonsOf 25 = .ok (.iconst 1, 1) := gdX1_pardonsOf_21.2.2.1
theorem dX1_pardonsOf_26 : decode cX1_pardonsOf 26 = .ok (.iaload, 1) := gdX1_pardonsOf_21.2.2.2.1
theorem dX1_pardonsOf_27 : decode cX1_pardonsOf 27 = .ok (.if_icmp .ge 34, 3) := gdX1_pardonsOf_21.2.2.2.2.1
theorem dX1_pardonsOf_61 : decode cX1_pardonsOf 61 = .ok (.aload_n 0, 1) := gdX1_pardonsOf_21.2.2.2.2.2.1
theorem dX1_pardonsOf_62 : decode cX1_pardonsOf 62 = .ok (.iconst 0, 1) := gdX1_pardonsOf_21.2.2.2.2.2.2.1
theorem dX1_pardonsOf_63 : decode cX1_pardonsOf 63 = .ok (.invokevirtual 58, 3) := gdX1_pardonsOf_21.2.2.2.2.2.2.2.1
theorem dX1_pardonsOf_66 : decode cX1_pardonsOf 66 = .ok (.ireturn, 1) := gdX1_pardonsOf_21.2.2.2.2.2.2.2.2.1
theorem dX1_pardonsOf_30 : decode cX1_pardonsOf 30 = .ok (.aload_n 0, 1) := gdX1_pardonsOf_21.2.2.2.2.2.2.2.2.2.1
theorem dX1_pardonsOf_31 : decode cX1_pardonsOf 31 = .ok (.getfield 30, 3) := gdX1_pardonsOf_21.2.2.2.2.2.2.2.2.2.2.1
theorem dX1_pardonsOf_34 : decode cX1_pardonsOf 34 = .ok (.iload 5, 2) := gdX1_pardonsOf_21.2.2.2.2.2.2.2.2.2.2.2
theorem gdX1_pardonsOf_36 : decode cX1_pardonsOf 36 = .ok (.aaload, 1) ∧ decode cX1_pardonsOf 37 = .ok (.aload_n 1, 1) ∧ decode cX1_pardonsOf 38 = .ok (.aload_n 2, 1) ∧ decode cX1_pardonsOf 39 = .ok (.iload 5, 2) ∧ decode cX1_pardonsOf 41 = .ok (.iload_n 3, 1) ∧ decode cX1_pardonsOf 42 = .ok (.invokevirtual 48, 3) := by decide +kernel
theorem dX1_pardonsOf_36 : decode cX1_pardonsOf 36 = .ok (.aaload, 1) := gdX1_pardonsOf_36.1
theorem dX1_pardonsOf_37 : decode cX1_pardonsOf 37 = .ok (.aload_n 1, 1) := gdX1_pardonsOf_36.2.1
theorem dX1_pardonsOf_38 : decode cX1_pardonsOf 38 = .ok (.aload_n 2, 1) := gdX1_pardonsOf_36.2.2.1
theorem dX1_pardonsOf_39 : decode cX1_pardonsOf 39 = .ok (.iload 5, 2) := gdX1_pardonsOf_36.2.2.2.1
theorem dX1_pardonsOf_41 : decode cX1_pardonsOf 41 = .ok (.iload_n 3, 1) := gdX1_pardonsOf_36.2.2.2.2.1
theorem dX1_pardonsOf_42 : decode cX1_pardonsOf 42 = .ok (.invokevirtual 48, 3) := gdX1_pardonsOf_36.2.2.2.2.2
theorem k_X1_48 : xV RX1 RX2 48 yX2_tuneToAll cX2_tuneToAll 7 none 4 := ⟨⟨m_1146, m_1147, m_1148, m_142, m_1149⟩, rfl, by decide, by decide, by decide +kernel⟩
theorem gdX1_pardonsOf_45 : decode cX1_pardonsOf 45 = .ok (.aload_n 0, 1) ∧ decode cX1_pardonsOf 46 = .ok (.getfield 15, 3) ∧ decode cX1_pardonsOf 49 = .ok (.iload 5, 2) ∧ decode cX1_pardonsOf 51 = .ok (.invokestatic 54, 3) := by decide +kernel
theorem dX1_pardonsOf_45 : decode cX1_pardonsOf 45 = .ok (.aload_n 0, 1) := gdX1_pardonsOf_45.1
theorem dX1_pardonsOf_46 : decode cX1_pardonsOf 46 = .ok (.getfield 15, 3) := gdX1_pardonsOf_45.2.1
theorem dX1_pardonsOf_49 : decode cX1_pardonsOf 49 = .ok (.iload 5, 2) := gdX1_pardonsOf_45.2.2.1
theorem dX1_pardonsOf_51 : decode cX1_pardonsOf 51 = .ok (.invokestatic 54, 3) := gdX1_pardonsOf_45.2.2.2
theorem k_X1_54 : xS RX1 54 yX1_unmoved cX1_unmoved 2 (some .int) 0 := ⟨⟨m_1150, m_1151, m_143, m_1152⟩, by decide, by decide, by decide +kernel⟩
theorem gdX1_pardonsOf_54 : decode cX1_pardonsOf 54 = .ok (.iastore, 1) ∧ decode cX1_pardonsOf 55 = .ok (.iinc 5 1, 3) ∧ decode cX1_pardonsOf 58 = .ok (.goto (-39), 3) := by decide +kernel
theorem dX1_pardonsOf_54 : decode cX1_pardonsOf 54 = .ok (.iastore, 1) := gdX1_pardonsOf_54.1
theorem dX1_pardonsOf_55 : decode cX1_pardonsOf 55 = .ok (.iinc 5 1, 3) := gdX1_pardonsOf_54.2.1
theorem dX1_pardonsOf_58 : decode cX1_pardonsOf 58 = .ok (.goto (-39), 3) := gdX1_pardonsOf_54.2.2
set_option maxHeartbeats 1000000 in
set_option maxRecDepth 100000 in
theorem s_pardonsOf0 (l : Launch) (D : va_G) (cy : Nat → ClassId) (q0 : Nat) (q1 : Nat) (q2 : Nat) (q3 : Nat) (q4 : Nat) (er : Nat) (ql : Nat) (qo : Int32) (qh : Value) (fph : Nat → Int32) (fy : Nat → Int32) (h0 : Nat) (h1 : Nat) (h2 : Nat) (h3 : Nat) (h4 : Nat) (h5 : Nat) (h6 : Nat) (h7 : Nat) (h8 : Nat) (h9 : Nat) (h10 : Nat) (h11 : Nat) (hv1 : Value) (hv2 : Value) (hv3 : Value) (hv4 : Value) (ys : Int32) (fp : Nat → Int32) (flo : Nat → Int32) (fx : Nat → Int32) (fc : Nat → Int32) (c0 : Nat) (c1 : Nat) (c2 : Nat) (c3 : Nat) (h9a : Nat) (h9b : Nat) (nb : Nat) (tb : Int32) (fcb : Nat → Int32) (fsb : Nat → Int32) (h11a : Nat) (h11b : Nat) (nt : Nat) (tt : Int32) (fct : Nat → Int32) (fst : Nat → Int32) (h10a : Nat) (h10b : Nat) (nl : Nat) (tl : Int32) (fcl : Nat → Int32) (fsl : Nat → Int32) (ea : Nat → Nat) (eg : Nat → Nat) (ef : Nat → Nat) (et : Nat → Int32) (el : Nat → Nat) (ei : Nat → Nat) (gc : Nat → Nat → Int32) (xc : Nat → Nat → Int32) (s0 : Nat) (s1 : Nat) (s2 : Nat) (sl : Nat) (spl : Int32) (svo : Int32) (swi : Int32) (sch : Int32) (fsn : Nat → Int32) (mm : Nat) (hph : pRow fph) (hcn : cntOK fc c0 c1 c2 c3) (hc0 : c0 ≤ 8) (hc1 : c1 ≤ 4) (hc2 : c2 ≤ 4) (hc3 : c3 ≤ 6) (hnx : rng fx 48 5) (hnb : nb ≤ 280) (hcb : cOK fcb nb) (hwb : fmW tb fcb nb) (hnt : nt ≤ 280) (hct : cOK fct nt) (hwt : fmW tt fct nt) (hnl : nl ≤ 280) (hcl : cOK fcl nl) (hwl : fmW tl fcl nl) (hel : ∀ i9, i9 < 4 → el i9 ≤ 10) (hmm : mm ≤ 5) (hmm1 : 1 ≤ mm) (hcl9 : cl9 fx ys c3) : XMi l D (tyL cy) E0 yX1_pardonsOf cX1_pardonsOf 6 (some .int) (rmk 11 0 0) [.ref q0, .ref h0, .ref s0, .int (nI mm), .int 0] [wO q0 1 [.ref q1, .ref er, .ref q2, .ref q3, .ref q4, qh, .int (nI ql), .int qo], wI (cy 1) q2 24 (fph), wI (cy 1) q1 5 (fy), wO h0 4 [.ref h1, .ref h2, .ref h3, .ref h4, .ref h5, .ref h6, .ref h7, .ref h8, .ref h9, .ref h10, .ref h11, .int ys, hv1, hv2, hv3, hv4], wI (cy 1) h1 4 (fc), wI (cy 1) h3 4 (fp), wI (cy 1) h2 8 (flo), wI (cy 1) h7 48 (fx), wO h9 3 [.ref h9a, .ref h9b, .int (nI nb), .int tb], wI (cy 1) h9a 280 (fcb), wI (cy 1) h9b 31 (fsb), wO h11 3 [.ref h11a, .ref h11b, .int (nI nt), .int tt], wI (cy 1) h11a 280 (fct), wI (cy 1) h11b 31 (fst), wO h10 3 [.ref h10a, .ref h10b, .int (nI nl), .int tl], wI (cy 1) h10a 280 (fcl), wI (cy 1) h10b 31 (fsl), (er, .inl (cy 4, 4, .inr (.inr (.inr (.inr (eF (ea 0) (ea 1) (ea 2) (ea 3))))))), wO (ea 0) 2 [.ref (eg 0), .ref (ef 0), .int (et 0), .int (nI (el 0)), .int (nI (ei 0))], wI (cy 1) (eg 0) 10 (gc 0), wI (cy 1) (ef 0) 7 (xc 0), wO (ea 1) 2 [.ref (eg 1), .ref (ef 1), .int (et 1), .int (nI (el 1)), .int (nI (ei 1))], wI (cy 1) (eg 1) 10 (gc 1), wI (cy 1) (ef 1) 7 (xc 1), wO (ea 2) 2 [.ref (eg 2), .ref (ef 2), .int (et 2), .int (nI (el 2)), .int (nI (ei 2))], wI (cy 1) (eg 2) 10 (gc 2), wI (cy 1) (ef 2) 7 (xc 2), wO (ea 3) 2 [.ref (eg 3), .ref (ef 3), .int (et 3), .int (nI (el 3)), .int (nI (ei 3))], wI (cy 1) (eg 3) 10 (gc 3), wI (cy 1) (ef 3) 7 (xc 3), wO s0 7 [.ref s1, .ref s2, .int (nI sl), .int spl, .int svo, .int swi, .int sch], wI (cy 1) s2 4 (fsn)] (fun (r : Int32) (u : (Nat → Int32) × (Nat → Int32) × (Nat → Int32) × (Nat → Nat) × (Nat → Nat) × (Nat → Nat → Int32) × (Nat → Nat → Int32) × (Nat → Int32) × (Nat → Int32) × (Nat → Int32) × Nat) => (r = nI u.2.2.2.2.2.2.2.2.2.2) ∧ (pRow u.1) ∧ (u.2.2.2.2.2.2.2.2.2.2 = ctF (fun v9 => (pdE (fun c9 f9 => ecS (vlC tb fcb nb 3) (vlC tl fcl nl 0) (vlC tt fct nt 0) flo (farC spl (fp c9)) swi (fsn c9) svo sch f9 mm) (yeC fx ys) c1) (dgW c0 mm v9)) (c0 ^ mm)) ∧ (∀ i9, i9 < 4 → u.2.2.2.1 i9 ≤ 10)) (fun (u : (Nat → Int32) × (Nat → Int32) × (Nat → Int32) × (Nat → Nat) × (Nat → Nat) × (Nat → Nat → Int32) × (Nat → Nat → Int32) × (Nat → Int32) × (Nat → Int32) × (Nat → Int32) × Nat) => [wO q0 1 [.ref q1, .ref er, .ref q2, .ref q3, .ref q4, .ref h0, .int (nI mm), .int 0], wI (cy 1) q2 24 (u.1), wI (cy 1) q1 5 (u.2.1), wO h0 4 [.ref h1, .ref h2, .ref h3, .ref h4, .ref h5, .ref h6, .ref h7, .ref h8, .ref h9, .ref h10, .ref h11, .int ys, hv1, hv2, hv3, hv4], wI (cy 1) h1 4 (fc), wI (cy 1) h3 4 (fp), wI (cy 1) h2 8 (flo), wI (cy 1) h7 48 (fx), wO h9 3 [.ref h9a, .ref h9b, .int (nI nb), .int tb], wI (cy 1) h9a 280 (fcb), wI (cy 1) h9b 31 (u.2.2.2.2.2.2.2.1), wO h11 3 [.ref h11a, .ref h11b, .int (nI nt), .int tt], wI (cy 1) h11a 280 (fct), wI (cy 1) h11b 31 (u.2.2.2.2.2.2.2.2.1), wO h10 3 [.ref h10a, .ref h10b, .int (nI nl), .int tl], wI (cy 1) h10a 280 (fcl), wI (cy 1) h10b 31 (u.2.2.2.2.2.2.2.2.2.1), (er, .inl (cy 4, 4, .inr (.inr (.inr (.inr (eF (ea 0) (ea 1) (ea 2) (ea 3))))))), wO (ea 0) 2 [.ref (eg 0), .ref (ef 0), .int (u.2.2.1 0), .int (nI (u.2.2.2.1 0)), .int (nI (u.2.2.2.2.1 0))], wI (cy 1) (eg 0) 10 (u.2.2.2.2.2.1 0), wI (cy 1) (ef 0) 7 (u.2.2.2.2.2.2.1 0), wO (ea 1) 2 [.ref (eg 1), .ref (ef 1), .int (u.2.2.1 1), .int (nI (u.2.2.2.1 1)), .int (nI (u.2.2.2.2.1 1))], wI (cy 1) (eg 1) 10 (u.2.2.2.2.2.1 1), wI (cy 1) (ef 1) 7 (u.2.2.2.2.2.2.1 1), wO (ea 2) 2 [.ref (eg 2), .ref (ef 2), .int (u.2.2.1 2), .int (nI (u.2.2.2.1 2)), .int (nI (u.2.2.2.2.1 2))], wI (cy 1) (eg 2) 10 (u.2.2.2.2.2.1 2), wI (cy 1) (ef 2) 7 (u.2.2.2.2.2.2.1 2), wO (ea 3) 2 [.ref (eg 3), .ref (ef 3), .int (u.2.2.1 3), .int (nI (u.2.2.2.1 3)), .int (nI (u.2.2.2.2.1 3))], wI (cy 1) (eg 3) 10 (u.2.2.2.2.2.1 3), wI (cy 1) (ef 3) 7 (u.2.2.2.2.2.2.1 3), wO s0 7 [.ref s1, .ref s2, .int (nI sl), .int spl, .int svo, .int swi, .int sch], wI (cy 1) s2 4 (fsn)]) := by
  refine XMi.start (by decide) (Nat.le_of_ble_eq_true rfl) ?_
  intro p e s m below meth c args A ls Q hat hQ
  obtain ⟨hx, hb, hr, hml, hown, hg, hlocks, hin, hK, hA, hP, hD, hS, hE, hl⟩ := hat
  have hown : s.vm.findClass RX1 = some m.cls := hown
  have hl : lv_has ls 6 [(0, .ref q0), (1, .ref h0), (2, .ref s0), (3, .int (nI mm)), (4, .int 0)] := hl
  have hk_1 := hel 0 (by decide)
  have hk_2 := hel 1 (by decide)
  have hk_3 := hel 2 (by decide)
  have hk_4 := hel 3 (by decide)
  refine lv_aload_n hx hb dX1_pardonsOf_0 rfl (lv_at hl 0 rfl) ?_
  refine lv_aload_n hx hb dX1_pardonsOf_1 rfl (lv_at hl 1 rfl) ?_
  refine va_put (D := D) (ci := 1) (v := .ref h0) (ty := .object "CliffJudges$Hills") (C := RX1) (T := TX1) (N := 8) hx hb hg i_X1 tyX1 tyX1_ok nmX1 hown hK hP hD hS 0 rfl rfl 5 (by decide) (hg _ m_558) (fun _ h9 => h9) rfl (by decide +kernel) rfl rfl (Nat.le_of_ble_eq_true rfl) dX1_pardonsOf_2 (fun H locs hP9 hD9 hS9 => ?_)
  clear hP hD hS
  refine reW [wO q0 1 [.ref q1, .ref er, .ref q2, .ref q3, .ref q4, .ref h0, .int (nI ql), .int qo], wI (cy 1) q2 24 (fph), wI (cy 1) q1 5 (fy), wO h0 4 [.ref h1, .ref h2, .ref h3, .ref h4, .ref h5, .ref h6, .ref h7, .ref h8, .ref h9, .ref h10, .ref h11, .int ys, hv1, hv2, hv3, hv4], wI (cy 1) h1 4 (fc), wI (cy 1) h3 4 (fp), wI (cy 1) h2 8 (flo), wI (cy 1) h7 48 (fx), wO h9 3 [.ref h9a, .ref h9b, .int (nI nb), .int tb], wI (cy 1) h9a 280 (fcb), wI (cy 1) h9b 31 (fsb), wO h11 3 [.ref h11a, .ref h11b, .int (nI nt), .int tt], wI (cy 1) h11a 280 (fct), wI (cy 1) h11b 31 (fst), wO h10 3 [.ref h10a, .ref h10b, .int (nI nl), .int tl], wI (cy 1) h10a 280 (fcl), wI (cy 1) h10b 31 (fsl), (er, .inl (cy 4, 4, .inr (.inr (.inr (.inr (eF (ea 0) (ea 1) (ea 2) (ea 3))))))), wO (ea 0) 2 [.ref (eg 0), .ref (ef 0), .int (et 0), .int (nI (el 0)), .int (nI (ei 0))], wI (cy 1) (eg 0) 10 (gc 0), wI (cy 1) (ef 0) 7 (xc 0), wO (ea 1) 2 [.ref (eg 1), .ref (ef 1), .int (et 1), .int (nI (el 1)), .int (nI (ei 1))], wI (cy 1) (eg 1) 10 (gc 1), wI (cy 1) (ef 1) 7 (xc 1), wO (ea 2) 2 [.ref (eg 2), .ref (ef 2), .int (et 2), .int (nI (el 2)), .int (nI (ei 2))], wI (cy 1) (eg 2) 10 (gc 2), wI (cy 1) (ef 2) 7 (xc 2), wO (ea 3) 2 [.ref (eg 3), .ref (ef 3), .int (et 3), .int (nI (el 3)), .int (nI (ei 3))], wI (cy 1) (eg 3) 10 (gc 3), wI (cy 1) (ef 3) 7 (xc 3), wO s0 7 [.ref s1, .ref s2, .int (nI sl), .int spl, .int svo, .int swi, .int sch], wI (cy 1) s2 4 (fsn)] hP9 hD9 hS9 (fun hP hD hS => ?_)
  clear hP9 hD9 hS9
  refine lv_aload_n hx hb dX1_pardonsOf_5 rfl (lv_at hl 0 rfl) ?_
  refine lv_iload_n hx hb dX1_pardonsOf_6 rfl (lv_at hl 3 rfl) ?_
  refine va_put (D := D) (ci := 1) (v := .int (nI mm)) (ty := .int) (C := RX1) (T := TX1) (N := 8) hx hb hg i_X1 tyX1 tyX1_ok nmX1 hown hK hP hD hS 0 rfl rfl 6 (by decide) (hg _ m_559) (fun _ h9 => h9) rfl (by decide +kernel) rfl rfl (Nat.le_of_ble_eq_true rfl) dX1_pardonsOf_7 (fun H locs hP9 hD9 hS9 => ?_)
  clear hP hD hS
  refine reW [wO q0 1 [.ref q1, .ref er, .ref q2, .ref q3, .ref q4, .ref h0, .int (nI mm), .int qo], wI (cy 1) q2 24 (fph), wI (cy 1) q1 5 (fy), wO h0 4 [.ref h1, .ref h2, .ref h3, .ref h4, .ref h5, .ref h6, .ref h7, .ref h8, .ref h9, .ref h10, .ref h11, .int ys, hv1, hv2, hv3, hv4], wI (cy 1) h1 4 (fc), wI (cy 1) h3 4 (fp), wI (cy 1) h2 8 (flo), wI (cy 1) h7 48 (fx), wO h9 3 [.ref h9a, .ref h9b, .int (nI nb), .int tb], wI (cy 1) h9a 280 (fcb), wI (cy 1) h9b 31 (fsb), wO h11 3 [.ref h11a, .ref h11b, .int (nI nt), .int tt], wI (cy 1) h11a 280 (fct), wI (cy 1) h11b 31 (fst), wO h10 3 [.ref h10a, .ref h10b, .int (nI nl), .int tl], wI (cy 1) h10a 280 (fcl), wI (cy 1) h10b 31 (fsl), (er, .inl (cy 4, 4, .inr (.inr (.inr (.inr (eF (ea 0) (ea 1) (ea 2) (ea 3))))))), wO (ea 0) 2 [.ref (eg 0), .ref (ef 0), .int (et 0), .int (nI (el 0)), .int (nI (ei 0))], wI (cy 1) (eg 0) 10 (gc 0), wI (cy 1) (ef 0) 7 (xc 0), wO (ea 1) 2 [.ref (eg 1), .ref (ef 1), .int (et 1), .int (nI (el 1)), .int (nI (ei 1))], wI (cy 1) (eg 1) 10 (gc 1), wI (cy 1) (ef 1) 7 (xc 1), wO (ea 2) 2 [.ref (eg 2), .ref (ef 2), .int (et 2), .int (nI (el 2)), .int (nI (ei 2))], wI (cy 1) (eg 2) 10 (gc 2), wI (cy 1) (ef 2) 7 (xc 2), wO (ea 3) 2 [.ref (eg 3), .ref (ef 3), .int (et 3), .int (nI (el 3)), .int (nI (ei 3))], wI (cy 1) (eg 3) 10 (gc 3), wI (cy 1) (ef 3) 7 (xc 3), wO s0 7 [.ref s1, .ref s2, .int (nI sl), .int spl, .int svo, .int swi, .int sch], wI (cy 1) s2 4 (fsn)] hP9 hD9 hS9 (fun hP hD hS => ?_)
  clear hP9 hD9 hS9
  refine lv_aload_n hx hb dX1_pardonsOf_10 rfl (lv_at hl 0 rfl) ?_
  refine lv_iload hx hb dX1_pardonsOf_11 (lv_at hl 4 rfl) ?_
  refine va_put (D := D) (ci := 1) (v := .int 0) (ty := .boolean) (C := RX1) (T := TX1) (N := 8) hx hb hg i_X1 tyX1 tyX1_ok nmX1 hown hK hP hD hS 0 rfl rfl 7 (by decide) (hg _ m_560) (fun _ h9 => h9) rfl (by decide +kernel) rfl rfl (Nat.le_of_ble_eq_true rfl) dX1_pardonsOf_13 (fun H locs hP9 hD9 hS9 => ?_)
  clear hP hD hS
  refine reW [wO q0 1 [.ref q1, .ref er, .ref q2, .ref q3, .ref q4, .ref h0, .int (nI mm), .int 0], wI (cy 1) q2 24 (fph), wI (cy 1) q1 5 (fy), wO h0 4 [.ref h1, .ref h2, .ref h3, .ref h4, .ref h5, .ref h6, .ref h7, .ref h8, .ref h9, .ref h10, .ref h11, .int ys, hv1, hv2, hv3, hv4], wI (cy 1) h1 4 (fc), wI (cy 1) h3 4 (fp), wI (cy 1) h2 8 (flo), wI (cy 1) h7 48 (fx), wO h9 3 [.ref h9a, .ref h9b, .int (nI nb), .int tb], wI (cy 1) h9a 280 (fcb), wI (cy 1) h9b 31 (fsb), wO h11 3 [.ref h11a, .ref h11b, .int (nI nt), .int tt], wI (cy 1) h11a 280 (fct), wI (cy 1) h11b 31 (fst), wO h10 3 [.ref h10a, .ref h10b, .int (nI nl), .int tl], wI (cy 1) h10a 280 (fcl), wI (cy 1) h10b 31 (fsl), (er, .inl (cy 4, 4, .inr (.inr (.inr (.inr (eF (ea 0) (ea 1) (ea 2) (ea 3))))))), wO (ea 0) 2 [.ref (eg 0), .ref (ef 0), .int (et 0), .int (nI (el 0)), .int (nI (ei 0))], wI (cy 1) (eg 0) 10 (gc 0), wI (cy 1) (ef 0) 7 (xc 0), wO (ea 1) 2 [.ref (eg 1), .ref (ef 1), .int (et 1), .int (nI (el 1)), .int (nI (ei 1))], wI (cy 1) (eg 1) 10 (gc 1), wI (cy 1) (ef 1) 7 (xc 1), wO (ea 2) 2 [.ref (eg 2), .ref (ef 2), .int (et 2), .int (nI (el 2)), .int (nI (ei 2))], wI (cy 1) (eg 2) 10 (gc 2), wI (cy 1) (ef 2) 7 (xc 2), wO (ea 3) 2 [.ref (eg 3), .ref (ef 3), .int (et 3), .int (nI (el 3)), .int (nI (ei 3))], wI (cy 1) (eg 3) 10 (gc 3), wI (cy 1) (ef 3) 7 (xc 3), wO s0 7 [.ref s1, .ref s2, .int (nI sl), .int spl, .int svo, .int swi, .int sch], wI (cy 1) s2 4 (fsn)] hP9 hD9 hS9 (fun hP hD hS => ?_)
  clear hP9 hD9 hS9
  refine lv_iconst (v := 0) hx hb dX1_pardonsOf_16 (by decide) ?_
  refine lv_istore (lv' := [(5, .int 0), (0, .ref q0), (1, .ref h0), (2, .ref s0), (3, .int (nI mm)), (4, .int 0)]) hx hb dX1_pardonsOf_17 hl (by decide) rfl (fun ls hl => ?_)
  have loop5 : ∀ (zn : Nat) (i5 : Nat) (t0_5 : Int32) (l0_5 : Nat) (i0_5 : Nat) (t1_5 : Int32) (l1_5 : Nat) (i1_5 : Nat) (t2_5 : Int32) (l2_5 : Nat) (i2_5 : Nat) (t3_5 : Int32) (l3_5 : Nat) (i3_5 : Nat) (fa13_5 : Nat → Int32) (fa14_5 : Nat → Int32) (fa15_5 : Nat → Int32) (fa16_5 : Nat → Int32) (fa17_5 : Nat → Int32) (fa18_5 : Nat → Int32) (fa19_5 : Nat → Int32) (fa20_5 : Nat → Int32) (fa21_5 : Nat → Int32) (fa22_5 : Nat → Int32) (fa23_5 : Nat → Int32) (fa24_5 : Nat → Int32), (pRow fa13_5) → (i5 ≤ c1) → (0 < i5 → eaO (vlC tb fcb nb 3) (vlC tl fcl nl 0) (vlC tt fct nt 0) flo (farC spl (fp 0)) swi (fsn 0) svo sch c0 mm t0_5 i0_5 fa17_5) → (1 < i5 → eaO (vlC tb fcb nb 3) (vlC tl fcl nl 0) (vlC tt fct nt 0) flo (farC spl (fp 1)) swi (fsn 1) svo sch c0 mm t1_5 i1_5 fa18_5) → (2 < i5 → eaO (vlC tb fcb nb 3) (vlC tl fcl nl 0) (vlC tt fct nt 0) flo (farC spl (fp 2)) swi (fsn 2) svo sch c0 mm t2_5 i2_5 fa19_5) → (3 < i5 → eaO (vlC tb fcb nb 3) (vlC tl fcl nl 0) (vlC tt fct nt 0) flo (farC spl (fp 3)) swi (fsn 3) svo sch c0 mm t3_5 i3_5 fa20_5) → (∀ c9 : Nat, c9 < i5 → fa13_5 c9 = nI 181896) → (l0_5 ≤ 10) → (l1_5 ≤ 10) → (l2_5 ≤ 10) → (l3_5 ≤ 10) → c1 - i5 + 1 ≤ zn → ∀ (H : Heap) (locs : List Loc), va_P D vwCl [wO q0 1 [.ref q1, .ref er, .ref q2, .ref q3, .ref q4, .ref h0, .int (nI mm), .int 0], wI (cy 1) q2 24 (fa13_5), wI (cy 1) q1 5 (fy), wO h0 4 [.ref h1, .ref h2, .ref h3, .ref h4, .ref h5, .ref h6, .ref h7, .ref h8, .ref h9, .ref h10, .ref h11, .int ys, hv1, hv2, hv3, hv4], wI (cy 1) h1 4 (fc), wI (cy 1) h3 4 (fp), wI (cy 1) h2 8 (flo), wI (cy 1) h7 48 (fx), wO h9 3 [.ref h9a, .ref h9b, .int (nI nb), .int tb], wI (cy 1) h9a 280 (fcb), wI (cy 1) h9b 31 (fa14_5), wO h11 3 [.ref h11a, .ref h11b, .int (nI nt), .int tt], wI (cy 1) h11a 280 (fct), wI (cy 1) h11b 31 (fa15_5), wO h10 3 [.ref h10a, .ref h10b, .int (nI nl), .int tl], wI (cy 1) h10a 280 (fcl), wI (cy 1) h10b 31 (fa16_5), (er, .inl (cy 4, 4, .inr (.inr (.inr (.inr (eF (ea 0) (ea 1) (ea 2) (ea 3))))))), wO (ea 0) 2 [.ref (eg 0), .ref (ef 0), .int t0_5, .int (nI l0_5), .int (nI i0_5)], wI (cy 1) (eg 0) 10 (fa17_5), wI (cy 1) (ef 0) 7 (fa21_5), wO (ea 1) 2 [.ref (eg 1), .ref (ef 1), .int t1_5, .int (nI l1_5), .int (nI i1_5)], wI (cy 1) (eg 1) 10 (fa18_5), wI (cy 1) (ef 1) 7 (fa22_5), wO (ea 2) 2 [.ref (eg 2), .ref (ef 2), .int t2_5, .int (nI l2_5), .int (nI i2_5)], wI (cy 1) (eg 2) 10 (fa19_5), wI (cy 1) (ef 2) 7 (fa23_5), wO (ea 3) 2 [.ref (eg 3), .ref (ef 3), .int t3_5, .int (nI l3_5), .int (nI i3_5)], wI (cy 1) (eg 3) 10 (fa20_5), wI (cy 1) (ef 3) 7 (fa24_5), wO s0 7 [.ref s1, .ref s2, .int (nI sl), .int spl, .int svo, .int swi, .int sch], wI (cy 1) s2 4 (fsn)] H → va_D A [wO q0 1 [.ref q1, .ref er, .ref q2, .ref q3, .ref q4, .ref h0, .int (nI mm), .int 0], wI (cy 1) q2 24 (fa13_5), wI (cy 1) q1 5 (fy), wO h0 4 [.ref h1, .ref h2, .ref h3, .ref h4, .ref h5, .ref h6, .ref h7, .ref h8, .ref h9, .ref h10, .ref h11, .int ys, hv1, hv2, hv3, hv4], wI (cy 1) h1 4 (fc), wI (cy 1) h3 4 (fp), wI (cy 1) h2 8 (flo), wI (cy 1) h7 48 (fx), wO h9 3 [.ref h9a, .ref h9b, .int (nI nb), .int tb], wI (cy 1) h9a 280 (fcb), wI (cy 1) h9b 31 (fa14_5), wO h11 3 [.ref h11a, .ref h11b, .int (nI nt), .int tt], wI (cy 1) h11a 280 (fct), wI (cy 1) h11b 31 (fa15_5), wO h10 3 [.ref h10a, .ref h10b, .int (nI nl), .int tl], wI (cy 1) h10a 280 (fcl), wI (cy 1) h10b 31 (fa16_5), (er, .inl (cy 4, 4, .inr (.inr (.inr (.inr (eF (ea 0) (ea 1) (ea 2) (ea 3))))))), wO (ea 0) 2 [.ref (eg 0), .ref (ef 0), .int t0_5, .int (nI l0_5), .int (nI i0_5)], wI (cy 1) (eg 0) 10 (fa17_5), wI (cy 1) (ef 0) 7 (fa21_5), wO (ea 1) 2 [.ref (eg 1), .ref (ef 1), .int t1_5, .int (nI l1_5), .int (nI i1_5)], wI (cy 1) (eg 1) 10 (fa18_5), wI (cy 1) (ef 1) 7 (fa22_5), wO (ea 2) 2 [.ref (eg 2), .ref (ef 2), .int t2_5, .int (nI l2_5), .int (nI i2_5)], wI (cy 1) (eg 2) 10 (fa19_5), wI (cy 1) (ef 2) 7 (fa23_5), wO (ea 3) 2 [.ref (eg 3), .ref (ef 3), .int t3_5, .int (nI l3_5), .int (nI i3_5)], wI (cy 1) (eg 3) 10 (fa20_5), wI (cy 1) (ef 3) 7 (fa24_5), wO s0 7 [.ref s1, .ref s2, .int (nI sl), .int spl, .int svo, .int swi, .int sch], wI (cy 1) s2 4 (fsn)] → va_S A s.heap H locs → ∀ ls : Array Slot, lv_has ls 6 [(5, .int (nI i5)), (0, .ref q0), (1, .ref h0), (2, .ref s0), (3, .int (nI mm)), (4, .int 0)] → W p l e (rmk 11 0 0) s m args below meth c H locs 0 0 Q (F0 m 19 ls []) := by
    try clear hP hD hS
    intro zn
    induction zn with
    | zero => intro i5 t0_5 l0_5 i0_5 t1_5 l1_5 i1_5 t2_5 l2_5 i2_5 t3_5 l3_5 i3_5 fa13_5 fa14_5 fa15_5 fa16_5 fa17_5 fa18_5 fa19_5 fa20_5 fa21_5 fa22_5 fa23_5 fa24_5 _ _ _ _ _ _ _ _ _ _ _ hz; exact absurd hz (by omega)
    | succ zn ih5 =>
      intro i5 t0_5 l0_5 i0_5 t1_5 l1_5 i1_5 t2_5 l2_5 i2_5 t3_5 l3_5 i3_5 fa13_5 fa14_5 fa15_5 fa16_5 fa17_5 fa18_5 fa19_5 fa20_5 fa21_5 fa22_5 fa23_5 fa24_5 ha14_5 hf0_5 hf1_5 hf2_5 hf3_5 hf4_5 hf5_5 hf6_5 hf7_5 hf8_5 hf9_5 hmu5 H locs hP hD hS ls hl
      refine lv_iload hx hb dX1_pardonsOf_19 (lv_at hl 0 rfl) ?_
      refine lv_aload_n hx hb dX1_pardonsOf_21 rfl (lv_at hl 2 rfl) ?_
      refine va_get (D := D) (ci := 4) (v := .ref h1) (C := RX4) (T := TX4) (N := 16) hx hb hg i_X4 hown hK hP 3 rfl rfl 0 (by decide) (hg _ m_331) (fun _ h9 => h9) rfl dX1_pardonsOf_22 ?_
      refine lv_iconst (v := 1) hx hb dX1_pardonsOf_25 (by decide) ?_
      refine va_iald hx hb hK hP 4 1 rfl rfl (by unfold vp_in; decide) dX1_pardonsOf_26 ?_
      refine lv_topi (fun y_6 hy_6 => ?_)
      obtain rfl : y_6 = nI c1 := hy_6.trans hcn.2.1
      refine lv_icmp_ge (tgt := 61) hx hb dX1_pardonsOf_27 (by decide) (fun c_7 => ?_) (fun c_7 => ?_)
      · have q_8 : c1 ≤ i5 := q_le (a := c1) (b := i5) rfl rfl (by omega) (by omega) c_7
        refine lv_aload_n hx hb dX1_pardonsOf_61 rfl (lv_at hl 1 rfl) ?_
        refine lv_iconst (v := 0) hx hb dX1_pardonsOf_62 (by decide) ?_
        refine x_callVi (q := (RX1, TX1, 8)) (ci := 1) (q0 := 0) (wr := [wI (cy 1) h3 4 (fp), wI (cy 1) h2 8 (flo), wO h9 3 [.ref h9a, .ref h9b, .int (nI nb), .int tb], wI (cy 1) h9a 280 (fcb), wI (cy 1) h9b 31 (fa14_5), wO h11 3 [.ref h11a, .ref h11b, .int (nI nt), .int tt], wI (cy 1) h11a 280 (fct), wI (cy 1) h11b 31 (fa15_5), wO h10 3 [.ref h10a, .ref h10b, .int (nI nl), .int tl], wI (cy 1) h10a 280 (fcl), wI (cy 1) h10b 31 (fa16_5), wO s0 7 [.ref s1, .ref s2, .int (nI sl), .int spl, .int svo, .int swi, .int sch], wI (cy 1) s2 4 (fsn)]) (rest := []) ⟨hx, hb, hml, hown, hg, hl.1⟩ k_X1_58 (s_countFrom0 l D cy q0 q1 q2 q3 q4 er mm 0 fa13_5 fy h0 h1 h2 h3 h4 h5 h6 h7 h8 h9 h10 h11 hv1 hv2 hv3 hv4 ys fx fc c0 c1 c2 c3 ea eg ef ((fun k => [t0_5, t1_5, t2_5, t3_5].getD k 0)) ((fun k => [l0_5, l1_5, l2_5, l3_5].getD k 0)) ((fun k => [i0_5, i1_5, i2_5, i3_5].getD k 0)) ((fun k => [fa17_5, fa18_5, fa19_5, fa20_5].getD k (fun _ => 0))) ((fun k => [fa21_5, fa22_5, fa23_5, fa24_5].getD k (fun _ => 0))) (ha14_5) (hnx) (hcn) (by omega) (by omega) (by omega) (by omega) (by omega) (by omega) (hcl9) (fun i9 h9 => absurd h9 (Nat.not_lt_zero i9)) (fun c9 h9 => pt_i (by omega) (hf5_5 c9 (by omega)))) E0_blind hK hP hD hS hA [0, 1, 2, 3, 7, 4, 17, 18, 19, 20, 21, 22, 23, 24, 25, 26, 27, 28, 29] [5, 6, 8, 9, 10, 11, 12, 13, 14, 15, 16, 30, 31] ⟨rfl, rfl, by decide +kernel, by decide +kernel, by decide +kernel⟩ rfl rfl (fun _ _ _ => trivial) dX1_pardonsOf_63 rfl rfl (Nat.le_of_ble_eq_true rfl) ⟨Nat.le_of_ble_eq_true rfl, Nat.le_of_ble_eq_true rfl⟩ ⟨Nat.le_of_ble_eq_true rfl, Nat.le_of_ble_eq_true rfl⟩ (fun zr9 zu9 H locs hw9 hP9 hD9 hS9 => ?_)
        clear hP hD hS
        obtain ⟨fph2_10, fy2_11, kc_12⟩ := zu9
        refine reW [wI (cy 1) h3 4 (fp), wI (cy 1) h2 8 (flo), wO h9 3 [.ref h9a, .ref h9b, .int (nI nb), .int tb], wI (cy 1) h9a 280 (fcb), wI (cy 1) h9b 31 (fa14_5), wO h11 3 [.ref h11a, .ref h11b, .int (nI nt), .int tt], wI (cy 1) h11a 280 (fct), wI (cy 1) h11b 31 (fa15_5), wO h10 3 [.ref h10a, .ref h10b, .int (nI nl), .int tl], wI (cy 1) h10a 280 (fcl), wI (cy 1) h10b 31 (fa16_5), wO s0 7 [.ref s1, .ref s2, .int (nI sl), .int spl, .int svo, .int swi, .int sch], wI (cy 1) s2 4 (fsn), wO q0 1 [.ref q1, .ref er, .ref q2, .ref q3, .ref q4, .ref h0, .int (nI mm), .int 0], wI (cy 1) q2 24 (fph2_10), wI (cy 1) q1 5 (fy2_11), wO h0 4 [.ref h1, .ref h2, .ref h3, .ref h4, .ref h5, .ref h6, .ref h7, .ref h8, .ref h9, .ref h10, .ref h11, .int ys, hv1, hv2, hv3, hv4], wI (cy 1) h7 48 (fx), wI (cy 1) h1 4 (fc), (er, .inl (cy 4, 4, .inr (.inr (.inr (.inr (eF (ea 0) (ea 1) (ea 2) (ea 3))))))), wO (ea 0) 2 [.ref (eg 0), .ref (ef 0), .int (((fun k => [t0_5, t1_5, t2_5, t3_5].getD k 0)) 0), .int (nI (((fun k => [l0_5, l1_5, l2_5, l3_5].getD k 0)) 0)), .int (nI (((fun k => [i0_5, i1_5, i2_5, i3_5].getD k 0)) 0))], wI (cy 1) (eg 0) 10 (((fun k => [fa17_5, fa18_5, fa19_5, fa20_5].getD k (fun _ => 0))) 0), wI (cy 1) (ef 0) 7 (((fun k => [fa21_5, fa22_5, fa23_5, fa24_5].getD k (fun _ => 0))) 0), wO (ea 1) 2 [.ref (eg 1), .ref (ef 1), .int (((fun k => [t0_5, t1_5, t2_5, t3_5].getD k 0)) 1), .int (nI (((fun k => [l0_5, l1_5, l2_5, l3_5].getD k 0)) 1)), .int (nI (((fun k => [i0_5, i1_5, i2_5, i3_5].getD k 0)) 1))], wI (cy 1) (eg 1) 10 (((fun k => [fa17_5, fa18_5, fa19_5, fa20_5].getD k (fun _ => 0))) 1), wI (cy 1) (ef 1) 7 (((fun k => [fa21_5, fa22_5, fa23_5, fa24_5].getD k (fun _ => 0))) 1), wO (ea 2) 2 [.ref (eg 2), .ref (ef 2), .int (((fun k => [t0_5, t1_5, t2_5, t3_5].getD k 0)) 2), .int (nI (((fun k => [l0_5, l1_5, l2_5, l3_5].getD k 0)) 2)), .int (nI (((fun k => [i0_5, i1_5, i2_5, i3_5].getD k 0)) 2))], wI (cy 1) (eg 2) 10 (((fun k => [fa17_5, fa18_5, fa19_5, fa20_5].getD k (fun _ => 0))) 2), wI (cy 1) (ef 2) 7 (((fun k => [fa21_5, fa22_5, fa23_5, fa24_5].getD k (fun _ => 0))) 2), wO (ea 3) 2 [.ref (eg 3), .ref (ef 3), .int (((fun k => [t0_5, t1_5, t2_5, t3_5].getD k 0)) 3), .int (nI (((fun k => [l0_5, l1_5, l2_5, l3_5].getD k 0)) 3)), .int (nI (((fun k => [i0_5, i1_5, i2_5, i3_5].getD k 0)) 3))], wI (cy 1) (eg 3) 10 (((fun k => [fa17_5, fa18_5, fa19_5, fa20_5].getD k (fun _ => 0))) 3), wI (cy 1) (ef 3) 7 (((fun k => [fa21_5, fa22_5, fa23_5, fa24_5].getD k (fun _ => 0))) 3)] hP9 hD9 hS9 (fun hP hD hS => ?_)
        clear hP9 hD9 hS9
        refine W.widen (k := 0) (n := 0) (Nat.le_of_ble_eq_true rfl) (Nat.le_of_ble_eq_true rfl) ?_
        replace hw9 : (zr9 = nI kc_12) ∧ (pRow fph2_10) ∧ ((0 : Int32) = 0 → kc_12 = cnP (pdA fx ys ((fun k => [t0_5, t1_5, t2_5, t3_5].getD k 0)) ((fun k => [fa17_5, fa18_5, fa19_5, fa20_5].getD k (fun _ => 0))) c1 mm) c0 mm (mm - 0) fy) ∧ (¬ (0 : Int32) = 0 → (kc_12 = 1 ∧ ∃ g9, fdP (pdA fx ys ((fun k => [t0_5, t1_5, t2_5, t3_5].getD k 0)) ((fun k => [fa17_5, fa18_5, fa19_5, fa20_5].getD k (fun _ => 0))) c1 mm) c0 mm (mm - 0) fy = some g9 ∧ ∀ i9, i9 < mm → fy2_11 i9 = g9 i9) ∨ (kc_12 = 0 ∧ fdP (pdA fx ys ((fun k => [t0_5, t1_5, t2_5, t3_5].getD k 0)) ((fun k => [fa17_5, fa18_5, fa19_5, fa20_5].getD k (fun _ => 0))) c1 mm) c0 mm (mm - 0) fy = none)) ∧ (∀ i9, i9 < 0 → fy2_11 i9 = fy i9) ∧ (∀ k9 : Nat, k9 < (0 + 1) * 4 → fph2_10 k9 = fa13_5 k9) := hw9
        obtain ⟨f_13, f_14, f_15, f_16, f_17, f_18⟩ := hw9
        subst f_13
        replace hP : va_P D vwCl [wI (cy 1) h3 4 (fp), wI (cy 1) h2 8 (flo), wO h9 3 [.ref h9a, .ref h9b, .int (nI nb), .int tb], wI (cy 1) h9a 280 (fcb), wI (cy 1) h9b 31 (fa14_5), wO h11 3 [.ref h11a, .ref h11b, .int (nI nt), .int tt], wI (cy 1) h11a 280 (fct), wI (cy 1) h11b 31 (fa15_5), wO h10 3 [.ref h10a, .ref h10b, .int (nI nl), .int tl], wI (cy 1) h10a 280 (fcl), wI (cy 1) h10b 31 (fa16_5), wO s0 7 [.ref s1, .ref s2, .int (nI sl), .int spl, .int svo, .int swi, .int sch], wI (cy 1) s2 4 (fsn), wO q0 1 [.ref q1, .ref er, .ref q2, .ref q3, .ref q4, .ref h0, .int (nI mm), .int 0], wI (cy 1) q2 24 (fph2_10), wI (cy 1) q1 5 (fy2_11), wO h0 4 [.ref h1, .ref h2, .ref h3, .ref h4, .ref h5, .ref h6, .ref h7, .ref h8, .ref h9, .ref h10, .ref h11, .int ys, hv1, hv2, hv3, hv4], wI (cy 1) h7 48 (fx), wI (cy 1) h1 4 (fc), (er, .inl (cy 4, 4, .inr (.inr (.inr (.inr (eF (ea 0) (ea 1) (ea 2) (ea 3))))))), wO (ea 0) 2 [.ref (eg 0), .ref (ef 0), .int t0_5, .int (nI l0_5), .int (nI i0_5)], wI (cy 1) (eg 0) 10 (fa17_5), wI (cy 1) (ef 0) 7 (fa21_5), wO (ea 1) 2 [.ref (eg 1), .ref (ef 1), .int t1_5, .int (nI l1_5), .int (nI i1_5)], wI (cy 1) (eg 1) 10 (fa18_5), wI (cy 1) (ef 1) 7 (fa22_5), wO (ea 2) 2 [.ref (eg 2), .ref (ef 2), .int t2_5, .int (nI l2_5), .int (nI i2_5)], wI (cy 1) (eg 2) 10 (fa19_5), wI (cy 1) (ef 2) 7 (fa23_5), wO (ea 3) 2 [.ref (eg 3), .ref (ef 3), .int t3_5, .int (nI l3_5), .int (nI i3_5)], wI (cy 1) (eg 3) 10 (fa20_5), wI (cy 1) (ef 3) 7 (fa24_5)] H := hP
        replace hD : va_D A [wI (cy 1) h3 4 (fp), wI (cy 1) h2 8 (flo), wO h9 3 [.ref h9a, .ref h9b, .int (nI nb), .int tb], wI (cy 1) h9a 280 (fcb), wI (cy 1) h9b 31 (fa14_5), wO h11 3 [.ref h11a, .ref h11b, .int (nI nt), .int tt], wI (cy 1) h11a 280 (fct), wI (cy 1) h11b 31 (fa15_5), wO h10 3 [.ref h10a, .ref h10b, .int (nI nl), .int tl], wI (cy 1) h10a 280 (fcl), wI (cy 1) h10b 31 (fa16_5), wO s0 7 [.ref s1, .ref s2, .int (nI sl), .int spl, .int svo, .int swi, .int sch], wI (cy 1) s2 4 (fsn), wO q0 1 [.ref q1, .ref er, .ref q2, .ref q3, .ref q4, .ref h0, .int (nI mm), .int 0], wI (cy 1) q2 24 (fph2_10), wI (cy 1) q1 5 (fy2_11), wO h0 4 [.ref h1, .ref h2, .ref h3, .ref h4, .ref h5, .ref h6, .ref h7, .ref h8, .ref h9, .ref h10, .ref h11, .int ys, hv1, hv2, hv3, hv4], wI (cy 1) h7 48 (fx), wI (cy 1) h1 4 (fc), (er, .inl (cy 4, 4, .inr (.inr (.inr (.inr (eF (ea 0) (ea 1) (ea 2) (ea 3))))))), wO (ea 0) 2 [.ref (eg 0), .ref (ef 0), .int t0_5, .int (nI l0_5), .int (nI i0_5)], wI (cy 1) (eg 0) 10 (fa17_5), wI (cy 1) (ef 0) 7 (fa21_5), wO (ea 1) 2 [.ref (eg 1), .ref (ef 1), .int t1_5, .int (nI l1_5), .int (nI i1_5)], wI (cy 1) (eg 1) 10 (fa18_5), wI (cy 1) (ef 1) 7 (fa22_5), wO (ea 2) 2 [.ref (eg 2), .ref (ef 2), .int t2_5, .int (nI l2_5), .int (nI i2_5)], wI (cy 1) (eg 2) 10 (fa19_5), wI (cy 1) (ef 2) 7 (fa23_5), wO (ea 3) 2 [.ref (eg 3), .ref (ef 3), .int t3_5, .int (nI l3_5), .int (nI i3_5)], wI (cy 1) (eg 3) 10 (fa20_5), wI (cy 1) (ef 3) 7 (fa24_5)] := hD
        exact x_iret hQ hx hb hr hlocks hK hP hD hS dX1_pardonsOf_66 (fph2_10, fy2_11, (fun k => [t0_5, t1_5, t2_5, t3_5].getD k 0), (fun k => [l0_5, l1_5, l2_5, l3_5].getD k 0), (fun k => [i0_5, i1_5, i2_5, i3_5].getD k 0), (fun k => [fa17_5, fa18_5, fa19_5, fa20_5].getD k (fun _ => 0)), (fun k => [fa21_5, fa22_5, fa23_5, fa24_5].getD k (fun _ => 0)), fa14_5, fa15_5, fa16_5, kc_12) (⟨rfl, f_14, po_0 (f_15 rfl) (pd_ec (get4P (P := fun c9 => eaO (vlC tb fcb nb 3) (vlC tl fcl nl 0) (vlC tt fct nt 0) flo (farC spl (fp c9)) swi (fsn c9) svo sch c0 mm ((fun k => [t0_5, t1_5, t2_5, t3_5].getD k 0) c9) ((fun k => [i0_5, i1_5, i2_5, i3_5].getD k 0) c9) ((fun k => [fa17_5, fa18_5, fa19_5, fa20_5].getD k (fun _ => 0)) c9)) (fun h9 => hf1_5 (by omega)) (fun h9 => hf2_5 (by omega)) (fun h9 => hf3_5 (by omega)) (fun h9 => hf4_5 (by omega)) (by omega))) pdE_ex, get4 (by omega) (by omega) (by omega) (by omega)⟩) [13, 14, 15, 16, 18, 0, 1, 17, 2, 3, 4, 5, 6, 7, 8, 9, 10, 19, 20, 21, 22, 23, 24, 25, 26, 27, 28, 29, 30, 31, 11, 12] (by decide +kernel) rfl (Nat.le_of_ble_eq_true rfl) (Nat.le_of_ble_eq_true rfl)
      · have q_8 : i5 < c1 := q_nle (a := c1) (b := i5) rfl rfl (by omega) (by omega) c_7
        refine lv_aload_n hx hb dX1_pardonsOf_30 rfl (lv_at hl 1 rfl) ?_
        refine va_get (D := D) (ci := 1) (v := .ref er) (C := RX1) (T := TX1) (N := 8) hx hb hg i_X1 hown hK hP 0 rfl rfl 1 (by decide) (hg _ m_554) (fun _ h9 => h9) rfl dX1_pardonsOf_31 ?_
        refine lv_iload hx hb dX1_pardonsOf_34 (lv_at hl 0 rfl) ?_
        rcases (show i5 = 0 ∨ i5 = 1 ∨ i5 = 2 ∨ i5 = 3 by omega) with hsp | hsp | hsp | hsp
        · subst hsp
          refine va_aldq hx hb hK hP 17 4 rfl rfl (by unfold vp_in; decide) dX1_pardonsOf_36 ?_
          refine W.eq (g2 := F0 m 37 ls [.ref (ea 0)]) rfl ?_
          refine lv_aload_n hx hb dX1_pardonsOf_37 rfl (lv_at hl 2 rfl) ?_
          refine lv_aload_n hx hb dX1_pardonsOf_38 rfl (lv_at hl 3 rfl) ?_
          refine lv_iload hx hb dX1_pardonsOf_39 (lv_at hl 0 rfl) ?_
          refine lv_iload_n hx hb dX1_pardonsOf_41 rfl (lv_at hl 4 rfl) ?_
          refine x_callVv (q := (RX2, TX2, 5)) (ci := 2) (q0 := 0) (wr := [wO q0 1 [.ref q1, .ref er, .ref q2, .ref q3, .ref q4, .ref h0, .int (nI mm), .int 0], wI (cy 1) q2 24 (fa13_5), wI (cy 1) q1 5 (fy), wI (cy 1) h7 48 (fx), (er, .inl (cy 4, 4, .inr (.inr (.inr (.inr (eF (ea 0) (ea 1) (ea 2) (ea 3))))))), wO (ea 1) 2 [.ref (eg 1), .ref (ef 1), .int t1_5, .int (nI l1_5), .int (nI i1_5)], wI (cy 1) (eg 1) 10 (fa18_5), wI (cy 1) (ef 1) 7 (fa22_5), wO (ea 2) 2 [.ref (eg 2), .ref (ef 2), .int t2_5, .int (nI l2_5), .int (nI i2_5)], wI (cy 1) (eg 2) 10 (fa19_5), wI (cy 1) (ef 2) 7 (fa23_5), wO (ea 3) 2 [.ref (eg 3), .ref (ef 3), .int t3_5, .int (nI l3_5), .int (nI i3_5)], wI (cy 1) (eg 3) 10 (fa20_5), wI (cy 1) (ef 3) 7 (fa24_5)]) (rest := []) ⟨hx, hb, hml, hown, hg, hl.1⟩ k_X1_48 (s_tuneToAll l D cy (ea 0) (eg 0) (ef 0) t0_5 (nI l0_5) (nI i0_5) fa17_5 fa21_5 h0 h1 h2 h3 h4 h5 h6 h7 h8 h9 h10 h11 ((.int ys)) hv1 hv2 hv3 hv4 fp flo h9a h9b nb tb fcb fa14_5 h11a h11b nt tt fct fa15_5 h10a h10b nl tl fcl fa16_5 fc c0 c1 c2 c3 s0 s1 s2 sl spl svo swi sch fsn 0 mm (by omega) (hcb) (by omega) (by omega) (hct) (by omega) (by omega) (hcl) (by omega) (hcn) (by omega) (by omega) (by omega) (by omega) (by omega) (by omega)) E0_blind hK hP hD hS hA [18, 19, 20, 3, 5, 6, 8, 9, 10, 11, 12, 13, 14, 15, 16, 4, 30, 31] [0, 1, 2, 7, 17, 21, 22, 23, 24, 25, 26, 27, 28, 29] ⟨rfl, rfl, by decide +kernel, by decide +kernel, by decide +kernel⟩ rfl rfl (fun _ _ _ => trivial) dX1_pardonsOf_42 rfl rfl (Nat.le_of_ble_eq_true rfl) ⟨Nat.le_of_ble_eq_true rfl, Nat.le_of_ble_eq_true rfl⟩ ⟨Nat.le_of_ble_eq_true rfl, Nat.le_of_ble_eq_true rfl⟩ (fun zu19 H locs hw19 hP9 hD9 hS9 => ?_)
          clear hP hD hS
          obtain ⟨k_20, tu_21, fg2_22, ff2_23, fsb2_24, fst2_25, fsl2_26⟩ := zu19
          refine reW [wO q0 1 [.ref q1, .ref er, .ref q2, .ref q3, .ref q4, .ref h0, .int (nI mm), .int 0], wI (cy 1) q2 24 (fa13_5), wI (cy 1) q1 5 (fy), wI (cy 1) h7 48 (fx), (er, .inl (cy 4, 4, .inr (.inr (.inr (.inr (eF (ea 0) (ea 1) (ea 2) (ea 3))))))), wO (ea 1) 2 [.ref (eg 1), .ref (ef 1), .int t1_5, .int (nI l1_5), .int (nI i1_5)], wI (cy 1) (eg 1) 10 (fa18_5), wI (cy 1) (ef 1) 7 (fa22_5), wO (ea 2) 2 [.ref (eg 2), .ref (ef 2), .int t2_5, .int (nI l2_5), .int (nI i2_5)], wI (cy 1) (eg 2) 10 (fa19_5), wI (cy 1) (ef 2) 7 (fa23_5), wO (ea 3) 2 [.ref (eg 3), .ref (ef 3), .int t3_5, .int (nI l3_5), .int (nI i3_5)], wI (cy 1) (eg 3) 10 (fa20_5), wI (cy 1) (ef 3) 7 (fa24_5), wO (ea 0) 2 [.ref (eg 0), .ref (ef 0), .int tu_21, .int (nI mm), .int (nI k_20)], wI (cy 1) (eg 0) 10 (fg2_22), wI (cy 1) (ef 0) 7 (ff2_23), wO h0 4 [.ref h1, .ref h2, .ref h3, .ref h4, .ref h5, .ref h6, .ref h7, .ref h8, .ref h9, .ref h10, .ref h11, .int ys, hv1, hv2, hv3, hv4], wI (cy 1) h3 4 (fp), wI (cy 1) h2 8 (flo), wO h9 3 [.ref h9a, .ref h9b, .int (nI nb), .int tb], wI (cy 1) h9a 280 (fcb), wI (cy 1) h9b 31 (fsb2_24), wO h11 3 [.ref h11a, .ref h11b, .int (nI nt), .int tt], wI (cy 1) h11a 280 (fct), wI (cy 1) h11b 31 (fst2_25), wO h10 3 [.ref h10a, .ref h10b, .int (nI nl), .int tl], wI (cy 1) h10a 280 (fcl), wI (cy 1) h10b 31 (fsl2_26), wI (cy 1) h1 4 (fc), wO s0 7 [.ref s1, .ref s2, .int (nI sl), .int spl, .int svo, .int swi, .int sch], wI (cy 1) s2 4 (fsn)] hP9 hD9 hS9 (fun hP hD hS => ?_)
          clear hP9 hD9 hS9
          refine W.widen (k := 0) (n := 0) (Nat.le_of_ble_eq_true rfl) (Nat.le_of_ble_eq_true rfl) ?_
          replace hw19 : (k_20 ≤ mm) ∧ (eaO (vlC tb fcb nb 3) (vlC tl fcl nl 0) (vlC tt fct nt 0) flo (farC spl (fp 0)) swi (fsn 0) svo sch c0 mm tu_21 k_20 fg2_22) := hw19
          obtain ⟨f_27, f_28⟩ := hw19
          refine lv_aload_n hx hb dX1_pardonsOf_45 rfl (lv_at hl 1 rfl) ?_
          refine va_get (D := D) (ci := 1) (v := .ref q2) (C := RX1) (T := TX1) (N := 8) hx hb hg i_X1 hown hK hP 0 rfl rfl 2 (by decide) (hg _ m_555) (fun _ h9 => h9) rfl dX1_pardonsOf_46 ?_
          refine lv_iload hx hb dX1_pardonsOf_49 (lv_at hl 0 rfl) ?_
          refine x_callSi (wr := [wO q0 1 [.ref q1, .ref er, .ref q2, .ref q3, .ref q4, .ref h0, .int (nI mm), .int 0], wI (cy 1) q2 24 (fa13_5), wI (cy 1) q1 5 (fy), wI (cy 1) h7 48 (fx), (er, .inl (cy 4, 4, .inr (.inr (.inr (.inr (eF (ea 0) (ea 1) (ea 2) (ea 3))))))), wO (ea 1) 2 [.ref (eg 1), .ref (ef 1), .int t1_5, .int (nI l1_5), .int (nI i1_5)], wI (cy 1) (eg 1) 10 (fa18_5), wI (cy 1) (ef 1) 7 (fa22_5), wO (ea 2) 2 [.ref (eg 2), .ref (ef 2), .int t2_5, .int (nI l2_5), .int (nI i2_5)], wI (cy 1) (eg 2) 10 (fa19_5), wI (cy 1) (ef 2) 7 (fa23_5), wO (ea 3) 2 [.ref (eg 3), .ref (ef 3), .int t3_5, .int (nI l3_5), .int (nI i3_5)], wI (cy 1) (eg 3) 10 (fa20_5), wI (cy 1) (ef 3) 7 (fa24_5), wO (ea 0) 2 [.ref (eg 0), .ref (ef 0), .int tu_21, .int (nI mm), .int (nI k_20)], wI (cy 1) (eg 0) 10 (fg2_22), wI (cy 1) (ef 0) 7 (ff2_23), wO h0 4 [.ref h1, .ref h2, .ref h3, .ref h4, .ref h5, .ref h6, .ref h7, .ref h8, .ref h9, .ref h10, .ref h11, .int ys, hv1, hv2, hv3, hv4], wI (cy 1) h3 4 (fp), wI (cy 1) h2 8 (flo), wO h9 3 [.ref h9a, .ref h9b, .int (nI nb), .int tb], wI (cy 1) h9a 280 (fcb), wI (cy 1) h9b 31 (fsb2_24), wO h11 3 [.ref h11a, .ref h11b, .int (nI nt), .int tt], wI (cy 1) h11a 280 (fct), wI (cy 1) h11b 31 (fst2_25), wO h10 3 [.ref h10a, .ref h10b, .int (nI nl), .int tl], wI (cy 1) h10a 280 (fcl), wI (cy 1) h10b 31 (fsl2_26), wI (cy 1) h1 4 (fc), wO s0 7 [.ref s1, .ref s2, .int (nI sl), .int spl, .int svo, .int swi, .int sch], wI (cy 1) s2 4 (fsn)]) (rest := [.int 0, .ref q2]) ⟨hx, hb, hml, hown, hg, hl.1⟩ k_X1_54 (s_unmoved l D cy ) E0_blind hK hP hD hS hA [] [0, 1, 2, 3, 4, 5, 6, 7, 8, 9, 10, 11, 12, 13, 14, 15, 16, 17, 18, 19, 20, 21, 22, 23, 24, 25, 26, 27, 28, 29, 30, 31] ⟨rfl, rfl, by decide +kernel, by decide +kernel, by decide +kernel⟩ (fun _ _ _ => trivial) dX1_pardonsOf_51 rfl rfl (Nat.le_of_ble_eq_true rfl) ⟨Nat.le_of_ble_eq_true rfl, Nat.le_of_ble_eq_true rfl⟩ ⟨Nat.le_of_ble_eq_true rfl, Nat.le_of_ble_eq_true rfl⟩ (fun zr29 zu29 H locs hw29 hP9 hD9 hS9 => ?_)
          clear hP hD hS
          refine reW [wO q0 1 [.ref q1, .ref er, .ref q2, .ref q3, .ref q4, .ref h0, .int (nI mm), .int 0], wI (cy 1) q2 24 (fa13_5), wI (cy 1) q1 5 (fy), wI (cy 1) h7 48 (fx), (er, .inl (cy 4, 4, .inr (.inr (.inr (.inr (eF (ea 0) (ea 1) (ea 2) (ea 3))))))), wO (ea 1) 2 [.ref (eg 1), .ref (ef 1), .int t1_5, .int (nI l1_5), .int (nI i1_5)], wI (cy 1) (eg 1) 10 (fa18_5), wI (cy 1) (ef 1) 7 (fa22_5), wO (ea 2) 2 [.ref (eg 2), .ref (ef 2), .int t2_5, .int (nI l2_5), .int (nI i2_5)], wI (cy 1) (eg 2) 10 (fa19_5), wI (cy 1) (ef 2) 7 (fa23_5), wO (ea 3) 2 [.ref (eg 3), .ref (ef 3), .int t3_5, .int (nI l3_5), .int (nI i3_5)], wI (cy 1) (eg 3) 10 (fa20_5), wI (cy 1) (ef 3) 7 (fa24_5), wO (ea 0) 2 [.ref (eg 0), .ref (ef 0), .int tu_21, .int (nI mm), .int (nI k_20)], wI (cy 1) (eg 0) 10 (fg2_22), wI (cy 1) (ef 0) 7 (ff2_23), wO h0 4 [.ref h1, .ref h2, .ref h3, .ref h4, .ref h5, .ref h6, .ref h7, .ref h8, .ref h9, .ref h10, .ref h11, .int ys, hv1, hv2, hv3, hv4], wI (cy 1) h3 4 (fp), wI (cy 1) h2 8 (flo), wO h9 3 [.ref h9a, .ref h9b, .int (nI nb), .int tb], wI (cy 1) h9a 280 (fcb), wI (cy 1) h9b 31 (fsb2_24), wO h11 3 [.ref h11a, .ref h11b, .int (nI nt), .int tt], wI (cy 1) h11a 280 (fct), wI (cy 1) h11b 31 (fst2_25), wO h10 3 [.ref h10a, .ref h10b, .int (nI nl), .int tl], wI (cy 1) h10a 280 (fcl), wI (cy 1) h10b 31 (fsl2_26), wI (cy 1) h1 4 (fc), wO s0 7 [.ref s1, .ref s2, .int (nI sl), .int spl, .int svo, .int swi, .int sch], wI (cy 1) s2 4 (fsn)] hP9 hD9 hS9 (fun hP hD hS => ?_)
          clear hP9 hD9 hS9
          refine W.widen (k := 0) (n := 0) (Nat.le_of_ble_eq_true rfl) (Nat.le_of_ble_eq_true rfl) ?_
          replace hw29 : zr29 = 181896 := hw29
          subst hw29
          refine va_iast hx hb hK hP hD hS 1 1 rfl rfl (by unfold vp_in; decide) dX1_pardonsOf_54 (fun H locs hP9 hD9 hS9 => ?_)
          clear hP hD hS
          have hP := hP9
          have hD := hD9
          have hS := hS9
          clear hP9 hD9 hS9
          obtain ⟨g_30, eg_30⟩ : ∃ y, upd fa13_5 (0 : Int32).toNatClampNeg 181896 = y := ⟨_, rfl⟩
          rw [eg_30] at hP hD
          have hr_31 : pRow g_30 := eg_30 ▸ pRow_put (v := 181896) ha14_5 pOK_un
          replace hP : va_P D vwCl [wO q0 1 [.ref q1, .ref er, .ref q2, .ref q3, .ref q4, .ref h0, .int (nI mm), .int 0], wI (cy 1) q2 24 (g_30), wI (cy 1) q1 5 (fy), wI (cy 1) h7 48 (fx), (er, .inl (cy 4, 4, .inr (.inr (.inr (.inr (eF (ea 0) (ea 1) (ea 2) (ea 3))))))), wO (ea 1) 2 [.ref (eg 1), .ref (ef 1), .int t1_5, .int (nI l1_5), .int (nI i1_5)], wI (cy 1) (eg 1) 10 (fa18_5), wI (cy 1) (ef 1) 7 (fa22_5), wO (ea 2) 2 [.ref (eg 2), .ref (ef 2), .int t2_5, .int (nI l2_5), .int (nI i2_5)], wI (cy 1) (eg 2) 10 (fa19_5), wI (cy 1) (ef 2) 7 (fa23_5), wO (ea 3) 2 [.ref (eg 3), .ref (ef 3), .int t3_5, .int (nI l3_5), .int (nI i3_5)], wI (cy 1) (eg 3) 10 (fa20_5), wI (cy 1) (ef 3) 7 (fa24_5), wO (ea 0) 2 [.ref (eg 0), .ref (ef 0), .int tu_21, .int (nI mm), .int (nI k_20)], wI (cy 1) (eg 0) 10 (fg2_22), wI (cy 1) (ef 0) 7 (ff2_23), wO h0 4 [.ref h1, .ref h2, .ref h3, .ref h4, .ref h5, .ref h6, .ref h7, .ref h8, .ref h9, .ref h10, .ref h11, .int ys, hv1, hv2, hv3, hv4], wI (cy 1) h3 4 (fp), wI (cy 1) h2 8 (flo), wO h9 3 [.ref h9a, .ref h9b, .int (nI nb), .int tb], wI (cy 1) h9a 280 (fcb), wI (cy 1) h9b 31 (fsb2_24), wO h11 3 [.ref h11a, .ref h11b, .int (nI nt), .int tt], wI (cy 1) h11a 280 (fct), wI (cy 1) h11b 31 (fst2_25), wO h10 3 [.ref h10a, .ref h10b, .int (nI nl), .int tl], wI (cy 1) h10a 280 (fcl), wI (cy 1) h10b 31 (fsl2_26), wI (cy 1) h1 4 (fc), wO s0 7 [.ref s1, .ref s2, .int (nI sl), .int spl, .int svo, .int swi, .int sch], wI (cy 1) s2 4 (fsn)] H := hP
          replace hD : va_D A [wO q0 1 [.ref q1, .ref er, .ref q2, .ref q3, .ref q4, .ref h0, .int (nI mm), .int 0], wI (cy 1) q2 24 (g_30), wI (cy 1) q1 5 (fy), wI (cy 1) h7 48 (fx), (er, .inl (cy 4, 4, .inr (.inr (.inr (.inr (eF (ea 0) (ea 1) (ea 2) (ea 3))))))), wO (ea 1) 2 [.ref (eg 1), .ref (ef 1), .int t1_5, .int (nI l1_5), .int (nI i1_5)], wI (cy 1) (eg 1) 10 (fa18_5), wI (cy 1) (ef 1) 7 (fa22_5), wO (ea 2) 2 [.ref (eg 2), .ref (ef 2), .int t2_5, .int (nI l2_5), .int (nI i2_5)], wI (cy 1) (eg 2) 10 (fa19_5), wI (cy 1) (ef 2) 7 (fa23_5), wO (ea 3) 2 [.ref (eg 3), .ref (ef 3), .int t3_5, .int (nI l3_5), .int (nI i3_5)], wI (cy 1) (eg 3) 10 (fa20_5), wI (cy 1) (ef 3) 7 (fa24_5), wO (ea 0) 2 [.ref (eg 0), .ref (ef 0), .int tu_21, .int (nI mm), .int (nI k_20)], wI (cy 1) (eg 0) 10 (fg2_22), wI (cy 1) (ef 0) 7 (ff2_23), wO h0 4 [.ref h1, .ref h2, .ref h3, .ref h4, .ref h5, .ref h6, .ref h7, .ref h8, .ref h9, .ref h10, .ref h11, .int ys, hv1, hv2, hv3, hv4], wI (cy 1) h3 4 (fp), wI (cy 1) h2 8 (flo), wO h9 3 [.ref h9a, .ref h9b, .int (nI nb), .int tb], wI (cy 1) h9a 280 (fcb), wI (cy 1) h9b 31 (fsb2_24), wO h11 3 [.ref h11a, .ref h11b, .int (nI nt), .int tt], wI (cy 1) h11a 280 (fct), wI (cy 1) h11b 31 (fst2_25), wO h10 3 [.ref h10a, .ref h10b, .int (nI nl), .int tl], wI (cy 1) h10a 280 (fcl), wI (cy 1) h10b 31 (fsl2_26), wI (cy 1) h1 4 (fc), wO s0 7 [.ref s1, .ref s2, .int (nI sl), .int spl, .int svo, .int swi, .int sch], wI (cy 1) s2 4 (fsn)] := hD
          refine lv_iinc (v := 1) (lv' := [(5, .int 1), (0, .ref q0), (1, .ref h0), (2, .ref s0), (3, .int (nI mm)), (4, .int 0)]) hx hb dX1_pardonsOf_55 hl (k := 0) rfl (by decide) (by decide) rfl (fun ls hl => ?_)
          refine lv_goto (tgt := 19) hx hb dX1_pardonsOf_58 (by decide) ?_
          exact ih5  1 tu_21 mm k_20 t1_5 l1_5 i1_5 t2_5 l2_5 i2_5 t3_5 l3_5 i3_5 g_30 fsb2_24 fst2_25 fsl2_26 fg2_22 fa18_5 fa19_5 fa20_5 ff2_23 fa22_5 fa23_5 fa24_5 hr_31 (by omega) (fun _ => f_28) (fun h9 => absurd h9 (by omega)) (fun h9 => absurd h9 (by omega)) (fun h9 => absurd h9 (by omega)) (po_put (i := 0) hf5_5 eg_30 (by decide)) (by omega) (by omega) (by omega) (by omega) (by omega) _ _ (hP.sub [0, 1, 2, 17, 29, 18, 19, 3, 20, 21, 22, 23, 24, 25, 26, 27, 28, 4, 14, 15, 16, 5, 6, 7, 8, 9, 10, 11, 12, 13, 30, 31] rfl) (hD.sub [0, 1, 2, 17, 29, 18, 19, 3, 20, 21, 22, 23, 24, 25, 26, 27, 28, 4, 14, 15, 16, 5, 6, 7, 8, 9, 10, 11, 12, 13, 30, 31] (by decide +kernel) rfl) hS ls (lv_sub hl [0, 1, 2, 3, 4, 5] rfl)
        · subst hsp
          refine va_aldq hx hb hK hP 17 4 rfl rfl (by unfold vp_in; decide) dX1_pardonsOf_36 ?_
          refine W.eq (g2 := F0 m 37 ls [.ref (ea 1)]) rfl ?_
          refine lv_aload_n hx hb dX1_pardonsOf_37 rfl (lv_at hl 2 rfl) ?_
          refine lv_aload_n hx hb dX1_pardonsOf_38 rfl (lv_at hl 3 rfl) ?_
          refine lv_iload hx hb dX1_pardonsOf_39 (lv_at hl 0 rfl) ?_
          refine lv_iload_n hx hb dX1_pardonsOf_41 rfl (lv_at hl 4 rfl) ?_
          refine x_callVv (q := (RX2, TX2, 5)) (ci := 2) (q0 := 0) (wr := [wO q0 1 [.ref q1, .ref er, .ref q2, .ref q3, .ref q4, .ref h0, .int (nI mm), .int 0], wI (cy 1) q2 24 (fa13_5), wI (cy 1) q1 5 (fy), wI (cy 1) h7 48 (fx), (er, .inl (cy 4, 4, .inr (.inr (.inr (.inr (eF (ea 0) (ea 1) (ea 2) (ea 3))))))), wO (ea 0) 2 [.ref (eg 0), .ref (ef 0), .int t0_5, .int (nI l0_5), .int (nI i0_5)], wI (cy 1) (eg 0) 10 (fa17_5), wI (cy 1) (ef 0) 7 (fa21_5), wO (ea 2) 2 [.ref (eg 2), .ref (ef 2), .int t2_5, .int (nI l2_5), .int (nI i2_5)], wI (cy 1) (eg 2) 10 (fa19_5), wI (cy 1) (ef 2) 7 (fa23_5), wO (ea 3) 2 [.ref (eg 3), .ref (ef 3), .int t3_5, .int (nI l3_5), .int (nI i3_5)], wI (cy 1) (eg 3) 10 (fa20_5), wI (cy 1) (ef 3) 7 (fa24_5)]) (rest := []) ⟨hx, hb, hml, hown, hg, hl.1⟩ k_X1_48 (s_tuneToAll l D cy (ea 1) (eg 1) (ef 1) t1_5 (nI l1_5) (nI i1_5) fa18_5 fa22_5 h0 h1 h2 h3 h4 h5 h6 h7 h8 h9 h10 h11 ((.int ys)) hv1 hv2 hv3 hv4 fp flo h9a h9b nb tb fcb fa14_5 h11a h11b nt tt fct fa15_5 h10a h10b nl tl fcl fa16_5 fc c0 c1 c2 c3 s0 s1 s2 sl spl svo swi sch fsn 1 mm (by omega) (hcb) (by omega) (by omega) (hct) (by omega) (by omega) (hcl) (by omega) (hcn) (by omega) (by omega) (by omega) (by omega) (by omega) (by omega)) E0_blind hK hP hD hS hA [21, 22, 23, 3, 5, 6, 8, 9, 10, 11, 12, 13, 14, 15, 16, 4, 30, 31] [0, 1, 2, 7, 17, 18, 19, 20, 24, 25, 26, 27, 28, 29] ⟨rfl, rfl, by decide +kernel, by decide +kernel, by decide +kernel⟩ rfl rfl (fun _ _ _ => trivial) dX1_pardonsOf_42 rfl rfl (Nat.le_of_ble_eq_true rfl) ⟨Nat.le_of_ble_eq_true rfl, Nat.le_of_ble_eq_true rfl⟩ ⟨Nat.le_of_ble_eq_true rfl, Nat.le_of_ble_eq_true rfl⟩ (fun zu32 H locs hw32 hP9 hD9 hS9 => ?_)
          clear hP hD hS
          obtain ⟨k_33, tu_34, fg2_35, ff2_36, fsb2_37, fst2_38, fsl2_39⟩ := zu32
          refine reW [wO q0 1 [.ref q1, .ref er, .ref q2, .ref q3, .ref q4, .ref h0, .int (nI mm), .int 0], wI (cy 1) q2 24 (fa13_5), wI (cy 1) q1 5 (fy), wI (cy 1) h7 48 (fx), (er, .inl (cy 4, 4, .inr (.inr (.inr (.inr (eF (ea 0) (ea 1) (ea 2) (ea 3))))))), wO (ea 0) 2 [.ref (eg 0), .ref (ef 0), .int t0_5, .int (nI l0_5), .int (nI i0_5)], wI (cy 1) (eg 0) 10 (fa17_5), wI (cy 1) (ef 0) 7 (fa21_5), wO (ea 2) 2 [.ref (eg 2), .ref (ef 2), .int t2_5, .int (nI l2_5), .int (nI i2_5)], wI (cy 1) (eg 2) 10 (fa19_5), wI (cy 1) (ef 2) 7 (fa23_5), wO (ea 3) 2 [.ref (eg 3), .ref (ef 3), .int t3_5, .int (nI l3_5), .int (nI i3_5)], wI (cy 1) (eg 3) 10 (fa20_5), wI (cy 1) (ef 3) 7 (fa24_5), wO (ea 1) 2 [.ref (eg 1), .ref (ef 1), .int tu_34, .int (nI mm), .int (nI k_33)], wI (cy 1) (eg 1) 10 (fg2_35), wI (cy 1) (ef 1) 7 (ff2_36), wO h0 4 [.ref h1, .ref h2, .ref h3, .ref h4, .ref h5, .ref h6, .ref h7, .ref h8, .ref h9, .ref h10, .ref h11, .int ys, hv1, hv2, hv3, hv4], wI (cy 1) h3 4 (fp), wI (cy 1) h2 8 (flo), wO h9 3 [.ref h9a, .ref h9b, .int (nI nb), .int tb], wI (cy 1) h9a 280 (fcb), wI (cy 1) h9b 31 (fsb2_37), wO h11 3 [.ref h11a, .ref h11b, .int (nI nt), .int tt], wI (cy 1) h11a 280 (fct), wI (cy 1) h11b 31 (fst2_38), wO h10 3 [.ref h10a, .ref h10b, .int (nI nl), .int tl], wI (cy 1) h10a 280 (fcl), wI (cy 1) h10b 31 (fsl2_39), wI (cy 1) h1 4 (fc), wO s0 7 [.ref s1, .ref s2, .int (nI sl), .int spl, .int svo, .int swi, .int sch], wI (cy 1) s2 4 (fsn)] hP9 hD9 hS9 (fun hP hD hS => ?_)
          clear hP9 hD9 hS9
          refine W.widen (k := 0) (n := 0) (Nat.le_of_ble_eq_true rfl) (Nat.le_of_ble_eq_true rfl) ?_
          replace hw32 : (k_33 ≤ mm) ∧ (eaO (vlC tb fcb nb 3) (vlC tl fcl nl 0) (vlC tt fct nt 0) flo (farC spl (fp 1)) swi (fsn 1) svo sch c0 mm tu_34 k_33 fg2_35) := hw32
          obtain ⟨f_40, f_41⟩ := hw32
          refine lv_aload_n hx hb dX1_pardonsOf_45 rfl (lv_at hl 1 rfl) ?_
          refine va_get (D := D) (ci := 1) (v := .ref q2) (C := RX1) (T := TX1) (N := 8) hx hb hg i_X1 hown hK hP 0 rfl rfl 2 (by decide) (hg _ m_555) (fun _ h9 => h9) rfl dX1_pardonsOf_46 ?_
          refine lv_iload hx hb dX1_pardonsOf_49 (lv_at hl 0 rfl) ?_
          refine x_callSi (wr := [wO q0 1 [.ref q1, .ref er, .ref q2, .ref q3, .ref q4, .ref h0, .int (nI mm), .int 0], wI (cy 1) q2 24 (fa13_5), wI (cy 1) q1 5 (fy), wI (cy 1) h7 48 (fx), (er, .inl (cy 4, 4, .inr (.inr (.inr (.inr (eF (ea 0) (ea 1) (ea 2) (ea 3))))))), wO (ea 0) 2 [.ref (eg 0), .ref (ef 0), .int t0_5, .int (nI l0_5), .int (nI i0_5)], wI (cy 1) (eg 0) 10 (fa17_5), wI (cy 1) (ef 0) 7 (fa21_5), wO (ea 2) 2 [.ref (eg 2), .ref (ef 2), .int t2_5, .int (nI l2_5), .int (nI i2_5)], wI (cy 1) (eg 2) 10 (fa19_5), wI (cy 1) (ef 2) 7 (fa23_5), wO (ea 3) 2 [.ref (eg 3), .ref (ef 3), .int t3_5, .int (nI l3_5), .int (nI i3_5)], wI (cy 1) (eg 3) 10 (fa20_5), wI (cy 1) (ef 3) 7 (fa24_5), wO (ea 1) 2 [.ref (eg 1), .ref (ef 1), .int tu_34, .int (nI mm), .int (nI k_33)], wI (cy 1) (eg 1) 10 (fg2_35), wI (cy 1) (ef 1) 7 (ff2_36), wO h0 4 [.ref h1, .ref h2, .ref h3, .ref h4, .ref h5, .ref h6, .ref h7, .ref h8, .ref h9, .ref h10, .ref h11, .int ys, hv1, hv2, hv3, hv4], wI (cy 1) h3 4 (fp), wI (cy 1) h2 8 (flo), wO h9 3 [.ref h9a, .ref h9b, .int (nI nb), .int tb], wI (cy 1) h9a 280 (fcb), wI (cy 1) h9b 31 (fsb2_37), wO h11 3 [.ref h11a, .ref h11b, .int (nI nt), .int tt], wI (cy 1) h11a 280 (fct), wI (cy 1) h11b 31 (fst2_38), wO h10 3 [.ref h10a, .ref h10b, .int (nI nl), .int tl], wI (cy 1) h10a 280 (fcl), wI (cy 1) h10b 31 (fsl2_39), wI (cy 1) h1 4 (fc), wO s0 7 [.ref s1, .ref s2, .int (nI sl), .int spl, .int svo, .int swi, .int sch], wI (cy 1) s2 4 (fsn)]) (rest := [.int 1, .ref q2]) ⟨hx, hb, hml, hown, hg, hl.1⟩ k_X1_54 (s_unmoved l D cy ) E0_blind hK hP hD hS hA [] [0, 1, 2, 3, 4, 5, 6, 7, 8, 9, 10, 11, 12, 13, 14, 15, 16, 17, 18, 19, 20, 21, 22, 23, 24, 25, 26, 27, 28, 29, 30, 31] ⟨rfl, rfl, by decide +kernel, by decide +kernel, by decide +kernel⟩ (fun _ _ _ => trivial) dX1_pardonsOf_51 rfl rfl (Nat.le_of_ble_eq_true rfl) ⟨Nat.le_of_ble_eq_true rfl, Nat.le_of_ble_eq_true rfl⟩ ⟨Nat.le_of_ble_eq_true rfl, Nat.le_of_ble_eq_true rfl⟩ (fun zr42 zu42 H locs hw42 hP9 hD9 hS9 => ?_)
          clear hP hD hS
          refine reW [wO q0 1 [.ref q1, .ref er, .ref q2, .ref q3, .ref q4, .ref h0, .int (nI mm), .int 0], wI (cy 1) q2 24 (fa13_5), wI (cy 1) q1 5 (fy), wI (cy 1) h7 48 (fx), (er, .inl (cy 4, 4, .inr (.inr (.inr (.inr (eF (ea 0) (ea 1) (ea 2) (ea 3))))))), wO (ea 0) 2 [.ref (eg 0), .ref (ef 0), .int t0_5, .int (nI l0_5), .int (nI i0_5)], wI (cy 1) (eg 0) 10 (fa17_5), wI (cy 1) (ef 0) 7 (fa21_5), wO (ea 2) 2 [.ref (eg 2), .ref (ef 2), .int t2_5, .int (nI l2_5), .int (nI i2_5)], wI (cy 1) (eg 2) 10 (fa19_5), wI (cy 1) (ef 2) 7 (fa23_5), wO (ea 3) 2 [.ref (eg 3), .ref (ef 3), .int t3_5, .int (nI l3_5), .int (nI i3_5)], wI (cy 1) (eg 3) 10 (fa20_5), wI (cy 1) (ef 3) 7 (fa24_5), wO (ea 1) 2 [.ref (eg 1), .ref (ef 1), .int tu_34, .int (nI mm), .int (nI k_33)], wI (cy 1) (eg 1) 10 (fg2_35), wI (cy 1) (ef 1) 7 (ff2_36), wO h0 4 [.ref h1, .ref h2, .ref h3, .ref h4, .ref h5, .ref h6, .ref h7, .ref h8, .ref h9, .ref h10, .ref h11, .int ys, hv1, hv2, hv3, hv4], wI (cy 1) h3 4 (fp), wI (cy 1) h2 8 (flo), wO h9 3 [.ref h9a, .ref h9b, .int (nI nb), .int tb], wI (cy 1) h9a 280 (fcb), wI (cy 1) h9b 31 (fsb2_37), wO h11 3 [.ref h11a, .ref h11b, .int (nI nt), .int tt], wI (cy 1) h11a 280 (fct), wI (cy 1) h11b 31 (fst2_38), wO h10 3 [.ref h10a, .ref h10b, .int (nI nl), .int tl], wI (cy 1) h10a 280 (fcl), wI (cy 1) h10b 31 (fsl2_39), wI (cy 1) h1 4 (fc), wO s0 7 [.ref s1, .ref s2, .int (nI sl), .int spl, .int svo, .int swi, .int sch], wI (cy 1) s2 4 (fsn)] hP9 hD9 hS9 (fun hP hD hS => ?_)
          clear hP9 hD9 hS9
          refine W.widen (k := 0) (n := 0) (Nat.le_of_ble_eq_true rfl) (Nat.le_of_ble_eq_true rfl) ?_
          replace hw42 : zr42 = 181896 := hw42
          subst hw42
          refine va_iast hx hb hK hP hD hS 1 1 rfl rfl (by unfold vp_in; decide) dX1_pardonsOf_54 (fun H locs hP9 hD9 hS9 => ?_)
          clear hP hD hS
          have hP := hP9
          have hD := hD9
          have hS := hS9
          clear hP9 hD9 hS9
          obtain ⟨g_43, eg_43⟩ : ∃ y, upd fa13_5 (1 : Int32).toNatClampNeg 181896 = y := ⟨_, rfl⟩
          rw [eg_43] at hP hD
          have hr_44 : pRow g_43 := eg_43 ▸ pRow_put (v := 181896) ha14_5 pOK_un
          replace hP : va_P D vwCl [wO q0 1 [.ref q1, .ref er, .ref q2, .ref q3, .ref q4, .ref h0, .int (nI mm), .int 0], wI (cy 1) q2 24 (g_43), wI (cy 1) q1 5 (fy), wI (cy 1) h7 48 (fx), (er, .inl (cy 4, 4, .inr (.inr (.inr (.inr (eF (ea 0) (ea 1) (ea 2) (ea 3))))))), wO (ea 0) 2 [.ref (eg 0), .ref (ef 0), .int t0_5, .int (nI l0_5), .int (nI i0_5)], wI (cy 1) (eg 0) 10 (fa17_5), wI (cy 1) (ef 0) 7 (fa21_5), wO (ea 2) 2 [.ref (eg 2), .ref (ef 2), .int t2_5, .int (nI l2_5), .int (nI i2_5)], wI (cy 1) (eg 2) 10 (fa19_5), wI (cy 1) (ef 2) 7 (fa23_5), wO (ea 3) 2 [.ref (eg 3), .ref (ef 3), .int t3_5, .int (nI l3_5), .int (nI i3_5)], wI (cy 1) (eg 3) 10 (fa20_5), wI (cy 1) (ef 3) 7 (fa24_5), wO (ea 1) 2 [.ref (eg 1), .ref (ef 1), .int tu_34, .int (nI mm), .int (nI k_33)], wI (cy 1) (eg 1) 10 (fg2_35), wI (cy 1) (ef 1) 7 (ff2_36), wO h0 4 [.ref h1, .ref h2, .ref h3, .ref h4, .ref h5, .ref h6, .ref h7, .ref h8, .ref h9, .ref h10, .ref h11, .int ys, hv1, hv2, hv3, hv4], wI (cy 1) h3 4 (fp), wI (cy 1) h2 8 (flo), wO h9 3 [.ref h9a, .ref h9b, .int (nI nb), .int tb], wI (cy 1) h9a 280 (fcb), wI (cy 1) h9b 31 (fsb2_37), wO h11 3 [.ref h11a, .ref h11b, .int (nI nt), .int tt], wI (cy 1) h11a 280 (fct), wI (cy 1) h11b 31 (fst2_38), wO h10 3 [.ref h10a, .ref h10b, .int (nI nl), .int tl], wI (cy 1) h10a 280 (fcl), wI (cy 1) h10b 31 (fsl2_39), wI (cy 1) h1 4 (fc), wO s0 7 [.ref s1, .ref s2, .int (nI sl), .int spl, .int svo, .int swi, .int sch], wI (cy 1) s2 4 (fsn)] H := hP
          replace hD : va_D A [wO q0 1 [.ref q1, .ref er, .ref q2, .ref q3, .ref q4, .ref h0, .int (nI mm), .int 0], wI (cy 1) q2 24 (g_43), wI (cy 1) q1 5 (fy), wI (cy 1) h7 48 (fx), (er, .inl (cy 4, 4, .inr (.inr (.inr (.inr (eF (ea 0) (ea 1) (ea 2) (ea 3))))))), wO (ea 0) 2 [.ref (eg 0), .ref (ef 0), .int t0_5, .int (nI l0_5), .int (nI i0_5)], wI (cy 1) (eg 0) 10 (fa17_5), wI (cy 1) (ef 0) 7 (fa21_5), wO (ea 2) 2 [.ref (eg 2), .ref (ef 2), .int t2_5, .int (nI l2_5), .int (nI i2_5)], wI (cy 1) (eg 2) 10 (fa19_5), wI (cy 1) (ef 2) 7 (fa23_5), wO (ea 3) 2 [.ref (eg 3), .ref (ef 3), .int t3_5, .int (nI l3_5), .int (nI i3_5)], wI (cy 1) (eg 3) 10 (fa20_5), wI (cy 1) (ef 3) 7 (fa24_5), wO (ea 1) 2 [.ref (eg 1), .ref (ef 1), .int tu_34, .int (nI mm), .int (nI k_33)], wI (cy 1) (eg 1) 10 (fg2_35), wI (cy 1) (ef 1) 7 (ff2_36), wO h0 4 [.ref h1, .ref h2, .ref h3, .ref h4, .ref h5, .ref h6, .ref h7, .ref h8, .ref h9, .ref h10, .ref h11, .int ys, hv1, hv2, hv3, hv4], wI (cy 1) h3 4 (fp), wI (cy 1) h2 8 (flo), wO h9 3 [.ref h9a, .ref h9b, .int (nI nb), .int tb], wI (cy 1) h9a 280 (fcb), wI (cy 1) h9b 31 (fsb2_37), wO h11 3 [.ref h11a, .ref h11b, .int (nI nt), .int tt], wI (cy 1) h11a 280 (fct), wI (cy 1) h11b 31 (fst2_38), wO h10 3 [.ref h10a, .ref h10b, .int (nI nl), .int tl], wI (cy 1) h10a 280 (fcl), wI (cy 1) h10b 31 (fsl2_39), wI (cy 1) h1 4 (fc), wO s0 7 [.ref s1, .ref s2, .int (nI sl), .int spl, .int svo, .int swi, .int sch], wI (cy 1) s2 4 (fsn)] := hD
          refine lv_iinc (v := 2) (lv' := [(5, .int 2), (0, .ref q0), (1, .ref h0), (2, .ref s0), (3, .int (nI mm)), (4, .int 0)]) hx hb dX1_pardonsOf_55 hl (k := 0) rfl (by decide) (by decide) rfl (fun ls hl => ?_)
          refine lv_goto (tgt := 19) hx hb dX1_pardonsOf_58 (by decide) ?_
          exact ih5  2 t0_5 l0_5 i0_5 tu_34 mm k_33 t2_5 l2_5 i2_5 t3_5 l3_5 i3_5 g_43 fsb2_37 fst2_38 fsl2_39 fa17_5 fg2_35 fa19_5 fa20_5 fa21_5 ff2_36 fa23_5 fa24_5 hr_44 (by omega) (fun _ => hf1_5 (by omega)) (fun _ => f_41) (fun h9 => absurd h9 (by omega)) (fun h9 => absurd h9 (by omega)) (po_put (i := 1) hf5_5 eg_43 (by decide)) (by omega) (by omega) (by omega) (by omega) (by omega) _ _ (hP.sub [0, 1, 2, 17, 29, 18, 19, 3, 20, 21, 22, 23, 24, 25, 26, 27, 28, 4, 5, 6, 7, 14, 15, 16, 8, 9, 10, 11, 12, 13, 30, 31] rfl) (hD.sub [0, 1, 2, 17, 29, 18, 19, 3, 20, 21, 22, 23, 24, 25, 26, 27, 28, 4, 5, 6, 7, 14, 15, 16, 8, 9, 10, 11, 12, 13, 30, 31] (by decide +kernel) rfl) hS ls (lv_sub hl [0, 1, 2, 3, 4, 5] rfl)
        · subst hsp
          refine va_aldq hx hb hK hP 17 4 rfl rfl (by unfold vp_in; decide) dX1_pardonsOf_36 ?_
          refine W.eq (g2 := F0 m 37 ls [.ref (ea 2)]) rfl ?_
          refine lv_aload_n hx hb dX1_pardonsOf_37 rfl (lv_at hl 2 rfl) ?_
          refine lv_aload_n hx hb dX1_pardonsOf_38 rfl (lv_at hl 3 rfl) ?_
          refine lv_iload hx hb dX1_pardonsOf_39 (lv_at hl 0 rfl) ?_
          refine lv_iload_n hx hb dX1_pardonsOf_41 rfl (lv_at hl 4 rfl) ?_
          refine x_callVv (q := (RX2, TX2, 5)) (ci := 2) (q0 := 0) (wr := [wO q0 1 [.ref q1, .ref er, .ref q2, .ref q3, .ref q4, .ref h0, .int (nI mm), .int 0], wI (cy 1) q2 24 (fa13_5), wI (cy 1) q1 5 (fy), wI (cy 1) h7 48 (fx), (er, .inl (cy 4, 4, .inr (.inr (.inr (.inr (eF (ea 0) (ea 1) (ea 2) (ea 3))))))), wO (ea 0) 2 [.ref (eg 0), .ref (ef 0), .int t0_5, .int (nI l0_5), .int (nI i0_5)], wI (cy 1) (eg 0) 10 (fa17_5), wI (cy 1) (ef 0) 7 (fa21_5), wO (ea 1) 2 [.ref (eg 1), .ref (ef 1), .int t1_5, .int (nI l1_5), .int (nI i1_5)], wI (cy 1) (eg 1) 10 (fa18_5), wI (cy 1) (ef 1) 7 (fa22_5), wO (ea 3) 2 [.ref (eg 3), .ref (ef 3), .int t3_5, .int (nI l3_5), .int (nI i3_5)], wI (cy 1) (eg 3) 10 (fa20_5), wI (cy 1) (ef 3) 7 (fa24_5)]) (rest := []) ⟨hx, hb, hml, hown, hg, hl.1⟩ k_X1_48 (s_tuneToAll l D cy (ea 2) (eg 2) (ef 2) t2_5 (nI l2_5) (nI i2_5) fa19_5 fa23_5 h0 h1 h2 h3 h4 h5 h6 h7 h8 h9 h10 h11 ((.int ys)) hv1 hv2 hv3 hv4 fp flo h9a h9b nb tb fcb fa14_5 h11a h11b nt tt fct fa15_5 h10a h10b nl tl fcl fa16_5 fc c0 c1 c2 c3 s0 s1 s2 sl spl svo swi sch fsn 2 mm (by omega) (hcb) (by omega) (by omega) (hct) (by omega) (by omega) (hcl) (by omega) (hcn) (by omega) (by omega) (by omega) (by omega) (by omega) (by omega)) E0_blind hK hP hD hS hA [24, 25, 26, 3, 5, 6, 8, 9, 10, 11, 12, 13, 14, 15, 16, 4, 30, 31] [0, 1, 2, 7, 17, 18, 19, 20, 21, 22, 23, 27, 28, 29] ⟨rfl, rfl, by decide +kernel, by decide +kernel, by decide +kernel⟩ rfl rfl (fun _ _ _ => trivial) dX1_pardonsOf_42 rfl rfl (Nat.le_of_ble_eq_true rfl) ⟨Nat.le_of_ble_eq_true rfl, Nat.le_of_ble_eq_true rfl⟩ ⟨Nat.le_of_ble_eq_true rfl, Nat.le_of_ble_eq_true rfl⟩ (fun zu45 H locs hw45 hP9 hD9 hS9 => ?_)
          clear hP hD hS
          obtain ⟨k_46, tu_47, fg2_48, ff2_49, fsb2_50, fst2_51, fsl2_52⟩ := zu45
          refine reW [wO q0 1 [.ref q1, .ref er, .ref q2, .ref q3, .ref q4, .ref h0, .int (nI mm), .int 0], wI (cy 1) q2 24 (fa13_5), wI (cy 1) q1 5 (fy), wI (cy 1) h7 48 (fx), (er, .inl (cy 4, 4, .inr (.inr (.inr (.inr (eF (ea 0) (ea 1) (ea 2) (ea 3))))))), wO (ea 0) 2 [.ref (eg 0), .ref (ef 0), .int t0_5, .int (nI l0_5), .int (nI i0_5)], wI (cy 1) (eg 0) 10 (fa17_5), wI (cy 1) (ef 0) 7 (fa21_5), wO (ea 1) 2 [.ref (eg 1), .ref (ef 1), .int t1_5, .int (nI l1_5), .int (nI i1_5)], wI (cy 1) (eg 1) 10 (fa18_5), wI (cy 1) (ef 1) 7 (fa22_5), wO (ea 3) 2 [.ref (eg 3), .ref (ef 3), .int t3_5, .int (nI l3_5), .int (nI i3_5)], wI (cy 1) (eg 3) 10 (fa20_5), wI (cy 1) (ef 3) 7 (fa24_5), wO (ea 2) 2 [.ref (eg 2), .ref (ef 2), .int tu_47, .int (nI mm), .int (nI k_46)], wI (cy 1) (eg 2) 10 (fg2_48), wI (cy 1) (ef 2) 7 (ff2_49), wO h0 4 [.ref h1, .ref h2, .ref h3, .ref h4, .ref h5, .ref h6, .ref h7, .ref h8, .ref h9, .ref h10, .ref h11, .int ys, hv1, hv2, hv3, hv4], wI (cy 1) h3 4 (fp), wI (cy 1) h2 8 (flo), wO h9 3 [.ref h9a, .ref h9b, .int (nI nb), .int tb], wI (cy 1) h9a 280 (fcb), wI (cy 1) h9b 31 (fsb2_50), wO h11 3 [.ref h11a, .ref h11b, .int (nI nt), .int tt], wI (cy 1) h11a 280 (fct), wI (cy 1) h11b 31 (fst2_51), wO h10 3 [.ref h10a, .ref h10b, .int (nI nl), .int tl], wI (cy 1) h10a 280 (fcl), wI (cy 1) h10b 31 (fsl2_52), wI (cy 1) h1 4 (fc), wO s0 7 [.ref s1, .ref s2, .int (nI sl), .int spl, .int svo, .int swi, .int sch], wI (cy 1) s2 4 (fsn)] hP9 hD9 hS9 (fun hP hD hS => ?_)
          clear hP9 hD9 hS9
          refine W.widen (k := 0) (n := 0) (Nat.le_of_ble_eq_true rfl) (Nat.le_of_ble_eq_true rfl) ?_
          replace hw45 : (k_46 ≤ mm) ∧ (eaO (vlC tb fcb nb 3) (vlC tl fcl nl 0) (vlC tt fct nt 0) flo (farC spl (fp 2)) swi (fsn 2) svo sch c0 mm tu_47 k_46 fg2_48) := hw45
          obtain ⟨f_53, f_54⟩ := hw45
          refine lv_aload_n hx hb dX1_pardonsOf_45 rfl (lv_at hl 1 rfl) ?_
          refine va_get (D := D) (ci := 1) (v := .ref q2) (C := RX1) (T := TX1) (N := 8) hx hb hg i_X1 hown hK hP 0 rfl rfl 2 (by decide) (hg _ m_555) (fun _ h9 => h9) rfl dX1_pardonsOf_46 ?_
          refine lv_iload hx hb dX1_pardonsOf_49 (lv_at hl 0 rfl) ?_
          refine x_callSi (wr := [wO q0 1 [.ref q1, .ref er, .ref q2, .ref q3, .ref q4, .ref h0, .int (nI mm), .int 0], wI (cy 1) q2 24 (fa13_5), wI (cy 1) q1 5 (fy), wI (cy 1) h7 48 (fx), (er, .inl (cy 4, 4, .inr (.inr (.inr (.inr (eF (ea 0) (ea 1) (ea 2) (ea 3))))))), wO (ea 0) 2 [.ref (eg 0), .ref (ef 0), .int t0_5, .int (nI l0_5), .int (nI i0_5)], wI (cy 1) (eg 0) 10 (fa17_5), wI (cy 1) (ef 0) 7 (fa21_5), wO (ea 1) 2 [.ref (eg 1), .ref (ef 1), .int t1_5, .int (nI l1_5), .int (nI i1_5)], wI (cy 1) (eg 1) 10 (fa18_5), wI (cy 1) (ef 1) 7 (fa22_5), wO (ea 3) 2 [.ref (eg 3), .ref (ef 3), .int t3_5, .int (nI l3_5), .int (nI i3_5)], wI (cy 1) (eg 3) 10 (fa20_5), wI (cy 1) (ef 3) 7 (fa24_5), wO (ea 2) 2 [.ref (eg 2), .ref (ef 2), .int tu_47, .int (nI mm), .int (nI k_46)], wI (cy 1) (eg 2) 10 (fg2_48), wI (cy 1) (ef 2) 7 (ff2_49), wO h0 4 [.ref h1, .ref h2, .ref h3, .ref h4, .ref h5, .ref h6, .ref h7, .ref h8, .ref h9, .ref h10, .ref h11, .int ys, hv1, hv2, hv3, hv4], wI (cy 1) h3 4 (fp), wI (cy 1) h2 8 (flo), wO h9 3 [.ref h9a, .ref h9b, .int (nI nb), .int tb], wI (cy 1) h9a 280 (fcb), wI (cy 1) h9b 31 (fsb2_50), wO h11 3 [.ref h11a, .ref h11b, .int (nI nt), .int tt], wI (cy 1) h11a 280 (fct), wI (cy 1) h11b 31 (fst2_51), wO h10 3 [.ref h10a, .ref h10b, .int (nI nl), .int tl], wI (cy 1) h10a 280 (fcl), wI (cy 1) h10b 31 (fsl2_52), wI (cy 1) h1 4 (fc), wO s0 7 [.ref s1, .ref s2, .int (nI sl), .int spl, .int svo, .int swi, .int sch], wI (cy 1) s2 4 (fsn)]) (rest := [.int 2, .ref q2]) ⟨hx, hb, hml, hown, hg, hl.1⟩ k_X1_54 (s_unmoved l D cy ) E0_blind hK hP hD hS hA [] [0, 1, 2, 3, 4, 5, 6, 7, 8, 9, 10, 11, 12, 13, 14, 15, 16, 17, 18, 19, 20, 21, 22, 23, 24, 25, 26, 27, 28, 29, 30, 31] ⟨rfl, rfl, by decide +kernel, by decide +kernel, by decide +kernel⟩ (fun _ _ _ => trivial) dX1_pardonsOf_51 rfl rfl (Nat.le_of_ble_eq_true rfl) ⟨Nat.le_of_ble_eq_true rfl, Nat.le_of_ble_eq_true rfl⟩ ⟨Nat.le_of_ble_eq_true rfl, Nat.le_of_ble_eq_true rfl⟩ (fun zr55 zu55 H locs hw55 hP9 hD9 hS9 => ?_)
          clear hP hD hS
          refine reW [wO q0 1 [.ref q1, .ref er, .ref q2, .ref q3, .ref q4, .ref h0, .int (nI mm), .int 0], wI (cy 1) q2 24 (fa13_5), wI (cy 1) q1 5 (fy), wI (cy 1) h7 48 (fx), (er, .inl (cy 4, 4, .inr (.inr (.inr (.inr (eF (ea 0) (ea 1) (ea 2) (ea 3))))))), wO (ea 0) 2 [.ref (eg 0), .ref (ef 0), .int t0_5, .int (nI l0_5), .int (nI i0_5)], wI (cy 1) (eg 0) 10 (fa17_5), wI (cy 1) (ef 0) 7 (fa21_5), wO (ea 1) 2 [.ref (eg 1), .ref (ef 1), .int t1_5, .int (nI l1_5), .int (nI i1_5)], wI (cy 1) (eg 1) 10 (fa18_5), wI (cy 1) (ef 1) 7 (fa22_5), wO (ea 3) 2 [.ref (eg 3), .ref (ef 3), .int t3_5, .int (nI l3_5), .int (nI i3_5)], wI (cy 1) (eg 3) 10 (fa20_5), wI (cy 1) (ef 3) 7 (fa24_5), wO (ea 2) 2 [.ref (eg 2), .ref (ef 2), .int tu_47, .int (nI mm), .int (nI k_46)], wI (cy 1) (eg 2) 10 (fg2_48), wI (cy 1) (ef 2) 7 (ff2_49), wO h0 4 [.ref h1, .ref h2, .ref h3, .ref h4, .ref h5, .ref h6, .ref h7, .ref h8, .ref h9, .ref h10, .ref h11, .int ys, hv1, hv2, hv3, hv4], wI (cy 1) h3 4 (fp), wI (cy 1) h2 8 (flo), wO h9 3 [.ref h9a, .ref h9b, .int (nI nb), .int tb], wI (cy 1) h9a 280 (fcb), wI (cy 1) h9b 31 (fsb2_50), wO h11 3 [.ref h11a, .ref h11b, .int (nI nt), .int tt], wI (cy 1) h11a 280 (fct), wI (cy 1) h11b 31 (fst2_51), wO h10 3 [.ref h10a, .ref h10b, .int (nI nl), .int tl], wI (cy 1) h10a 280 (fcl), wI (cy 1) h10b 31 (fsl2_52), wI (cy 1) h1 4 (fc), wO s0 7 [.ref s1, .ref s2, .int (nI sl), .int spl, .int svo, .int swi, .int sch], wI (cy 1) s2 4 (fsn)] hP9 hD9 hS9 (fun hP hD hS => ?_)
          clear hP9 hD9 hS9
          refine W.widen (k := 0) (n := 0) (Nat.le_of_ble_eq_true rfl) (Nat.le_of_ble_eq_true rfl) ?_
          replace hw55 : zr55 = 181896 := hw55
          subst hw55
          refine va_iast hx hb hK hP hD hS 1 1 rfl rfl (by unfold vp_in; decide) dX1_pardonsOf_54 (fun H locs hP9 hD9 hS9 => ?_)
          clear hP hD hS
          have hP := hP9
          have hD := hD9
          have hS := hS9
          clear hP9 hD9 hS9
          obtain ⟨g_56, eg_56⟩ : ∃ y, upd fa13_5 (2 : Int32).toNatClampNeg 181896 = y := ⟨_, rfl⟩
          rw [eg_56] at hP hD
          have hr_57 : pRow g_56 := eg_56 ▸ pRow_put (v := 181896) ha14_5 pOK_un
          replace hP : va_P D vwCl [wO q0 1 [.ref q1, .ref er, .ref q2, .ref q3, .ref q4, .ref h0, .int (nI mm), .int 0], wI (cy 1) q2 24 (g_56), wI (cy 1) q1 5 (fy), wI (cy 1) h7 48 (fx), (er, .inl (cy 4, 4, .inr (.inr (.inr (.inr (eF (ea 0) (ea 1) (ea 2) (ea 3))))))), wO (ea 0) 2 [.ref (eg 0), .ref (ef 0), .int t0_5, .int (nI l0_5), .int (nI i0_5)], wI (cy 1) (eg 0) 10 (fa17_5), wI (cy 1) (ef 0) 7 (fa21_5), wO (ea 1) 2 [.ref (eg 1), .ref (ef 1), .int t1_5, .int (nI l1_5), .int (nI i1_5)], wI (cy 1) (eg 1) 10 (fa18_5), wI (cy 1) (ef 1) 7 (fa22_5), wO (ea 3) 2 [.ref (eg 3), .ref (ef 3), .int t3_5, .int (nI l3_5), .int (nI i3_5)], wI (cy 1) (eg 3) 10 (fa20_5), wI (cy 1) (ef 3) 7 (fa24_5), wO (ea 2) 2 [.ref (eg 2), .ref (ef 2), .int tu_47, .int (nI mm), .int (nI k_46)], wI (cy 1) (eg 2) 10 (fg2_48), wI (cy 1) (ef 2) 7 (ff2_49), wO h0 4 [.ref h1, .ref h2, .ref h3, .ref h4, .ref h5, .ref h6, .ref h7, .ref h8, .ref h9, .ref h10, .ref h11, .int ys, hv1, hv2, hv3, hv4], wI (cy 1) h3 4 (fp), wI (cy 1) h2 8 (flo), wO h9 3 [.ref h9a, .ref h9b, .int (nI nb), .int tb], wI (cy 1) h9a 280 (fcb), wI (cy 1) h9b 31 (fsb2_50), wO h11 3 [.ref h11a, .ref h11b, .int (nI nt), .int tt], wI (cy 1) h11a 280 (fct), wI (cy 1) h11b 31 (fst2_51), wO h10 3 [.ref h10a, .ref h10b, .int (nI nl), .int tl], wI (cy 1) h10a 280 (fcl), wI (cy 1) h10b 31 (fsl2_52), wI (cy 1) h1 4 (fc), wO s0 7 [.ref s1, .ref s2, .int (nI sl), .int spl, .int svo, .int swi, .int sch], wI (cy 1) s2 4 (fsn)] H := hP
          replace hD : va_D A [wO q0 1 [.ref q1, .ref er, .ref q2, .ref q3, .ref q4, .ref h0, .int (nI mm), .int 0], wI (cy 1) q2 24 (g_56), wI (cy 1) q1 5 (fy), wI (cy 1) h7 48 (fx), (er, .inl (cy 4, 4, .inr (.inr (.inr (.inr (eF (ea 0) (ea 1) (ea 2) (ea 3))))))), wO (ea 0) 2 [.ref (eg 0), .ref (ef 0), .int t0_5, .int (nI l0_5), .int (nI i0_5)], wI (cy 1) (eg 0) 10 (fa17_5), wI (cy 1) (ef 0) 7 (fa21_5), wO (ea 1) 2 [.ref (eg 1), .ref (ef 1), .int t1_5, .int (nI l1_5), .int (nI i1_5)], wI (cy 1) (eg 1) 10 (fa18_5), wI (cy 1) (ef 1) 7 (fa22_5), wO (ea 3) 2 [.ref (eg 3), .ref (ef 3), .int t3_5, .int (nI l3_5), .int (nI i3_5)], wI (cy 1) (eg 3) 10 (fa20_5), wI (cy 1) (ef 3) 7 (fa24_5), wO (ea 2) 2 [.ref (eg 2), .ref (ef 2), .int tu_47, .int (nI mm), .int (nI k_46)], wI (cy 1) (eg 2) 10 (fg2_48), wI (cy 1) (ef 2) 7 (ff2_49), wO h0 4 [.ref h1, .ref h2, .ref h3, .ref h4, .ref h5, .ref h6, .ref h7, .ref h8, .ref h9, .ref h10, .ref h11, .int ys, hv1, hv2, hv3, hv4], wI (cy 1) h3 4 (fp), wI (cy 1) h2 8 (flo), wO h9 3 [.ref h9a, .ref h9b, .int (nI nb), .int tb], wI (cy 1) h9a 280 (fcb), wI (cy 1) h9b 31 (fsb2_50), wO h11 3 [.ref h11a, .ref h11b, .int (nI nt), .int tt], wI (cy 1) h11a 280 (fct), wI (cy 1) h11b 31 (fst2_51), wO h10 3 [.ref h10a, .ref h10b, .int (nI nl), .int tl], wI (cy 1) h10a 280 (fcl), wI (cy 1) h10b 31 (fsl2_52), wI (cy 1) h1 4 (fc), wO s0 7 [.ref s1, .ref s2, .int (nI sl), .int spl, .int svo, .int swi, .int sch], wI (cy 1) s2 4 (fsn)] := hD
          refine lv_iinc (v := 3) (lv' := [(5, .int 3), (0, .ref q0), (1, .ref h0), (2, .ref s0), (3, .int (nI mm)), (4, .int 0)]) hx hb dX1_pardonsOf_55 hl (k := 0) rfl (by decide) (by decide) rfl (fun ls hl => ?_)
          refine lv_goto (tgt := 19) hx hb dX1_pardonsOf_58 (by decide) ?_
          exact ih5  3 t0_5 l0_5 i0_5 t1_5 l1_5 i1_5 tu_47 mm k_46 t3_5 l3_5 i3_5 g_56 fsb2_50 fst2_51 fsl2_52 fa17_5 fa18_5 fg2_48 fa20_5 fa21_5 fa22_5 ff2_49 fa24_5 hr_57 (by omega) (fun _ => hf1_5 (by omega)) (fun _ => hf2_5 (by omega)) (fun _ => f_54) (fun h9 => absurd h9 (by omega)) (po_put (i := 2) hf5_5 eg_56 (by decide)) (by omega) (by omega) (by omega) (by omega) (by omega) _ _ (hP.sub [0, 1, 2, 17, 29, 18, 19, 3, 20, 21, 22, 23, 24, 25, 26, 27, 28, 4, 5, 6, 7, 8, 9, 10, 14, 15, 16, 11, 12, 13, 30, 31] rfl) (hD.sub [0, 1, 2, 17, 29, 18, 19, 3, 20, 21, 22, 23, 24, 25, 26, 27, 28, 4, 5, 6, 7, 8, 9, 10, 14, 15, 16, 11, 12, 13, 30, 31] (by decide +kernel) rfl) hS ls (lv_sub hl [0, 1, 2, 3, 4, 5] rfl)
        · subst hsp
          refine va_aldq hx hb hK hP 17 4 rfl rfl (by unfold vp_in; decide) dX1_pardonsOf_36 ?_
          refine W.eq (g2 := F0 m 37 ls [.ref (ea 3)]) rfl ?_
          refine lv_aload_n hx hb dX1_pardonsOf_37 rfl (lv_at hl 2 rfl) ?_
          refine lv_aload_n hx hb dX1_pardonsOf_38 rfl (lv_at hl 3 rfl) ?_
          refine lv_iload hx hb dX1_pardonsOf_39 (lv_at hl 0 rfl) ?_
          refine lv_iload_n hx hb dX1_pardonsOf_41 rfl (lv_at hl 4 rfl) ?_
          refine x_callVv (q := (RX2, TX2, 5)) (ci := 2) (q0 := 0) (wr := [wO q0 1 [.ref q1, .ref er, .ref q2, .ref q3, .ref q4, .ref h0, .int (nI mm), .int 0], wI (cy 1) q2 24 (fa13_5), wI (cy 1) q1 5 (fy), wI (cy 1) h7 48 (fx), (er, .inl (cy 4, 4, .inr (.inr (.inr (.inr (eF (ea 0) (ea 1) (ea 2) (ea 3))))))), wO (ea 0) 2 [.ref (eg 0), .ref (ef 0), .int t0_5, .int (nI l0_5), .int (nI i0_5)], wI (cy 1) (eg 0) 10 (fa17_5), wI (cy 1) (ef 0) 7 (fa21_5), wO (ea 1) 2 [.ref (eg 1), .ref (ef 1), .int t1_5, .int (nI l1_5), .int (nI i1_5)], wI (cy 1) (eg 1) 10 (fa18_5), wI (cy 1) (ef 1) 7 (fa22_5), wO (ea 2) 2 [.ref (eg 2), .ref (ef 2), .int t2_5, .int (nI l2_5), .int (nI i2_5)], wI (cy 1) (eg 2) 10 (fa19_5), wI (cy 1) (ef 2) 7 (fa23_5)]) (rest := []) ⟨hx, hb, hml, hown, hg, hl.1⟩ k_X1_48 (s_tuneToAll l D cy (ea 3) (eg 3) (ef 3) t3_5 (nI l3_5) (nI i3_5) fa20_5 fa24_5 h0 h1 h2 h3 h4 h5 h6 h7 h8 h9 h10 h11 ((.int ys)) hv1 hv2 hv3 hv4 fp flo h9a h9b nb tb fcb fa14_5 h11a h11b nt tt fct fa15_5 h10a h10b nl tl fcl fa16_5 fc c0 c1 c2 c3 s0 s1 s2 sl spl svo swi sch fsn 3 mm (by omega) (hcb) (by omega) (by omega) (hct) (by omega) (by omega) (hcl) (by omega) (hcn) (by omega) (by omega) (by omega) (by omega) (by omega) (by omega)) E0_blind hK hP hD hS hA [27, 28, 29, 3, 5, 6, 8, 9, 10, 11, 12, 13, 14, 15, 16, 4, 30, 31] [0, 1, 2, 7, 17, 18, 19, 20, 21, 22, 23, 24, 25, 26] ⟨rfl, rfl, by decide +kernel, by decide +kernel, by decide +kernel⟩ rfl rfl (fun _ _ _ => trivial) dX1_pardonsOf_42 rfl rfl (Nat.le_of_ble_eq_true rfl) ⟨Nat.le_of_ble_eq_true rfl, Nat.le_of_ble_eq_true rfl⟩ ⟨Nat.le_of_ble_eq_true rfl, Nat.le_of_ble_eq_true rfl⟩ (fun zu58 H locs hw58 hP9 hD9 hS9 => ?_)
          clear hP hD hS
          obtain ⟨k_59, tu_60, fg2_61, ff2_62, fsb2_63, fst2_64, fsl2_65⟩ := zu58
          refine reW [wO q0 1 [.ref q1, .ref er, .ref q2, .ref q3, .ref q4, .ref h0, .int (nI mm), .int 0], wI (cy 1) q2 24 (fa13_5), wI (cy 1) q1 5 (fy), wI (cy 1) h7 48 (fx), (er, .inl (cy 4, 4, .inr (.inr (.inr (.inr (eF (ea 0) (ea 1) (ea 2) (ea 3))))))), wO (ea 0) 2 [.ref (eg 0), .ref (ef 0), .int t0_5, .int (nI l0_5), .int (nI i0_5)], wI (cy 1) (eg 0) 10 (fa17_5), wI (cy 1) (ef 0) 7 (fa21_5), wO (ea 1) 2 [.ref (eg 1), .ref (ef 1), .int t1_5, .int (nI l1_5), .int (nI i1_5)], wI (cy 1) (eg 1) 10 (fa18_5), wI (cy 1) (ef 1) 7 (fa22_5), wO (ea 2) 2 [.ref (eg 2), .ref (ef 2), .int t2_5, .int (nI l2_5), .int (nI i2_5)], wI (cy 1) (eg 2) 10 (fa19_5), wI (cy 1) (ef 2) 7 (fa23_5), wO (ea 3) 2 [.ref (eg 3), .ref (ef 3), .int tu_60, .int (nI mm), .int (nI k_59)], wI (cy 1) (eg 3) 10 (fg2_61), wI (cy 1) (ef 3) 7 (ff2_62), wO h0 4 [.ref h1, .ref h2, .ref h3, .ref h4, .ref h5, .ref h6, .ref h7, .ref h8, .ref h9, .ref h10, .ref h11, .int ys, hv1, hv2, hv3, hv4], wI (cy 1) h3 4 (fp), wI (cy 1) h2 8 (flo), wO h9 3 [.ref h9a, .ref h9b, .int (nI nb), .int tb], wI (cy 1) h9a 280 (fcb), wI (cy 1) h9b 31 (fsb2_63), wO h11 3 [.ref h11a, .ref h11b, .int (nI nt), .int tt], wI (cy 1) h11a 280 (fct), wI (cy 1) h11b 31 (fst2_64), wO h10 3 [.ref h10a, .ref h10b, .int (nI nl), .int tl], wI (cy 1) h10a 280 (fcl), wI (cy 1) h10b 31 (fsl2_65), wI (cy 1) h1 4 (fc), wO s0 7 [.ref s1, .ref s2, .int (nI sl), .int spl, .int svo, .int swi, .int sch], wI (cy 1) s2 4 (fsn)] hP9 hD9 hS9 (fun hP hD hS => ?_)
          clear hP9 hD9 hS9
          refine W.widen (k := 0) (n := 0) (Nat.le_of_ble_eq_true rfl) (Nat.le_of_ble_eq_true rfl) ?_
          replace hw58 : (k_59 ≤ mm) ∧ (eaO (vlC tb fcb nb 3) (vlC tl fcl nl 0) (vlC tt fct nt 0) flo (farC spl (fp 3)) swi (fsn 3) svo sch c0 mm tu_60 k_59 fg2_61) := hw58
          obtain ⟨f_66, f_67⟩ := hw58
          refine lv_aload_n hx hb dX1_pardonsOf_45 rfl (lv_at hl 1 rfl) ?_
          refine va_get (D := D) (ci := 1) (v := .ref q2) (C := RX1) (T := TX1) (N := 8) hx hb hg i_X1 hown hK hP 0 rfl rfl 2 (by decide) (hg _ m_555) (fun _ h9 => h9) rfl dX1_pardonsOf_46 ?_
          refine lv_iload hx hb dX1_pardonsOf_49 (lv_at hl 0 rfl) ?_
          refine x_callSi (wr := [wO q0 1 [.ref q1, .ref er, .ref q2, .ref q3, .ref q4, .ref h0, .int (nI mm), .int 0], wI (cy 1) q2 24 (fa13_5), wI (cy 1) q1 5 (fy), wI (cy 1) h7 48 (fx), (er, .inl (cy 4, 4, .inr (.inr (.inr (.inr (eF (ea 0) (ea 1) (ea 2) (ea 3))))))), wO (ea 0) 2 [.ref (eg 0), .ref (ef 0), .int t0_5, .int (nI l0_5), .int (nI i0_5)], wI (cy 1) (eg 0) 10 (fa17_5), wI (cy 1) (ef 0) 7 (fa21_5), wO (ea 1) 2 [.ref (eg 1), .ref (ef 1), .int t1_5, .int (nI l1_5), .int (nI i1_5)], wI (cy 1) (eg 1) 10 (fa18_5), wI (cy 1) (ef 1) 7 (fa22_5), wO (ea 2) 2 [.ref (eg 2), .ref (ef 2), .int t2_5, .int (nI l2_5), .int (nI i2_5)], wI (cy 1) (eg 2) 10 (fa19_5), wI (cy 1) (ef 2) 7 (fa23_5), wO (ea 3) 2 [.ref (eg 3), .ref (ef 3), .int tu_60, .int (nI mm), .int (nI k_59)], wI (cy 1) (eg 3) 10 (fg2_61), wI (cy 1) (ef 3) 7 (ff2_62), wO h0 4 [.ref h1, .ref h2, .ref h3, .ref h4, .ref h5, .ref h6, .ref h7, .ref h8, .ref h9, .ref h10, .ref h11, .int ys, hv1, hv2, hv3, hv4], wI (cy 1) h3 4 (fp), wI (cy 1) h2 8 (flo), wO h9 3 [.ref h9a, .ref h9b, .int (nI nb), .int tb], wI (cy 1) h9a 280 (fcb), wI (cy 1) h9b 31 (fsb2_63), wO h11 3 [.ref h11a, .ref h11b, .int (nI nt), .int tt], wI (cy 1) h11a 280 (fct), wI (cy 1) h11b 31 (fst2_64), wO h10 3 [.ref h10a, .ref h10b, .int (nI nl), .int tl], wI (cy 1) h10a 280 (fcl), wI (cy 1) h10b 31 (fsl2_65), wI (cy 1) h1 4 (fc), wO s0 7 [.ref s1, .ref s2, .int (nI sl), .int spl, .int svo, .int swi, .int sch], wI (cy 1) s2 4 (fsn)]) (rest := [.int 3, .ref q2]) ⟨hx, hb, hml, hown, hg, hl.1⟩ k_X1_54 (s_unmoved l D cy ) E0_blind hK hP hD hS hA [] [0, 1, 2, 3, 4, 5, 6, 7, 8, 9, 10, 11, 12, 13, 14, 15, 16, 17, 18, 19, 20, 21, 22, 23, 24, 25, 26, 27, 28, 29, 30, 31] ⟨rfl, rfl, by decide +kernel, by decide +kernel, by decide +kernel⟩ (fun _ _ _ => trivial) dX1_pardonsOf_51 rfl rfl (Nat.le_of_ble_eq_true rfl) ⟨Nat.le_of_ble_eq_true rfl, Nat.le_of_ble_eq_true rfl⟩ ⟨Nat.le_of_ble_eq_true rfl, Nat.le_of_ble_eq_true rfl⟩ (fun zr68 zu68 H locs hw68 hP9 hD9 hS9 => ?_)
          clear hP hD hS
          refine reW [wO q0 1 [.ref q1, .ref er, .ref q2, .ref q3, .ref q4, .ref h0, .int (nI mm), .int 0], wI (cy 1) q2 24 (fa13_5), wI (cy 1) q1 5 (fy), wI (cy 1) h7 48 (fx), (er, .inl (cy 4, 4, .inr (.inr (.inr (.inr (eF (ea 0) (ea 1) (ea 2) (ea 3))))))), wO (ea 0) 2 [.ref (eg 0), .ref (ef 0), .int t0_5, .int (nI l0_5), .int (nI i0_5)], wI (cy 1) (eg 0) 10 (fa17_5), wI (cy 1) (ef 0) 7 (fa21_5), wO (ea 1) 2 [.ref (eg 1), .ref (ef 1), .int t1_5, .int (nI l1_5), .int (nI i1_5)], wI (cy 1) (eg 1) 10 (fa18_5), wI (cy 1) (ef 1) 7 (fa22_5), wO (ea 2) 2 [.ref (eg 2), .ref (ef 2), .int t2_5, .int (nI l2_5), .int (nI i2_5)], wI (cy 1) (eg 2) 10 (fa19_5), wI (cy 1) (ef 2) 7 (fa23_5), wO (ea 3) 2 [.ref (eg 3), .ref (ef 3), .int tu_60, .int (nI mm), .int (nI k_59)], wI (cy 1) (eg 3) 10 (fg2_61), wI (cy 1) (ef 3) 7 (ff2_62), wO h0 4 [.ref h1, .ref h2, .ref h3, .ref h4, .ref h5, .ref h6, .ref h7, .ref h8, .ref h9, .ref h10, .ref h11, .int ys, hv1, hv2, hv3, hv4], wI (cy 1) h3 4 (fp), wI (cy 1) h2 8 (flo), wO h9 3 [.ref h9a, .ref h9b, .int (nI nb), .int tb], wI (cy 1) h9a 280 (fcb), wI (cy 1) h9b 31 (fsb2_63), wO h11 3 [.ref h11a, .ref h11b, .int (nI nt), .int tt], wI (cy 1) h11a 280 (fct), wI (cy 1) h11b 31 (fst2_64), wO h10 3 [.ref h10a, .ref h10b, .int (nI nl), .int tl], wI (cy 1) h10a 280 (fcl), wI (cy 1) h10b 31 (fsl2_65), wI (cy 1) h1 4 (fc), wO s0 7 [.ref s1, .ref s2, .int (nI sl), .int spl, .int svo, .int swi, .int sch], wI (cy 1) s2 4 (fsn)] hP9 hD9 hS9 (fun hP hD hS => ?_)
          clear hP9 hD9 hS9
          refine W.widen (k := 0) (n := 0) (Nat.le_of_ble_eq_true rfl) (Nat.le_of_ble_eq_true rfl) ?_
          replace hw68 : zr68 = 181896 := hw68
          subst hw68
          refine va_iast hx hb hK hP hD hS 1 1 rfl rfl (by unfold vp_in; decide) dX1_pardonsOf_54 (fun H locs hP9 hD9 hS9 => ?_)
          clear hP hD hS
          have hP := hP9
          have hD := hD9
          have hS := hS9
          clear hP9 hD9 hS9
          obtain ⟨g_69, eg_69⟩ : ∃ y, upd fa13_5 (3 : Int32).toNatClampNeg 181896 = y := ⟨_, rfl⟩
          rw [eg_69] at hP hD
          have hr_70 : pRow g_69 := eg_69 ▸ pRow_put (v := 181896) ha14_5 pOK_un
          replace hP : va_P D vwCl [wO q0 1 [.ref q1, .ref er, .ref q2, .ref q3, .ref q4, .ref h0, .int (nI mm), .int 0], wI (cy 1) q2 24 (g_69), wI (cy 1) q1 5 (fy), wI (cy 1) h7 48 (fx), (er, .inl (cy 4, 4, .inr (.inr (.inr (.inr (eF (ea 0) (ea 1) (ea 2) (ea 3))))))), wO (ea 0) 2 [.ref (eg 0), .ref (ef 0), .int t0_5, .int (nI l0_5), .int (nI i0_5)], wI (cy 1) (eg 0) 10 (fa17_5), wI (cy 1) (ef 0) 7 (fa21_5), wO (ea 1) 2 [.ref (eg 1), .ref (ef 1), .int t1_5, .int (nI l1_5), .int (nI i1_5)], wI (cy 1) (eg 1) 10 (fa18_5), wI (cy 1) (ef 1) 7 (fa22_5), wO (ea 2) 2 [.ref (eg 2), .ref (ef 2), .int t2_5, .int (nI l2_5), .int (nI i2_5)], wI (cy 1) (eg 2) 10 (fa19_5), wI (cy 1) (ef 2) 7 (fa23_5), wO (ea 3) 2 [.ref (eg 3), .ref (ef 3), .int tu_60, .int (nI mm), .int (nI k_59)], wI (cy 1) (eg 3) 10 (fg2_61), wI (cy 1) (ef 3) 7 (ff2_62), wO h0 4 [.ref h1, .ref h2, .ref h3, .ref h4, .ref h5, .ref h6, .ref h7, .ref h8, .ref h9, .ref h10, .ref h11, .int ys, hv1, hv2, hv3, hv4], wI (cy 1) h3 4 (fp), wI (cy 1) h2 8 (flo), wO h9 3 [.ref h9a, .ref h9b, .int (nI nb), .int tb], wI (cy 1) h9a 280 (fcb), wI (cy 1) h9b 31 (fsb2_63), wO h11 3 [.ref h11a, .ref h11b, .int (nI nt), .int tt], wI (cy 1) h11a 280 (fct), wI (cy 1) h11b 31 (fst2_64), wO h10 3 [.ref h10a, .ref h10b, .int (nI nl), .int tl], wI (cy 1) h10a 280 (fcl), wI (cy 1) h10b 31 (fsl2_65), wI (cy 1) h1 4 (fc), wO s0 7 [.ref s1, .ref s2, .int (nI sl), .int spl, .int svo, .int swi, .int sch], wI (cy 1) s2 4 (fsn)] H := hP
          replace hD : va_D A [wO q0 1 [.ref q1, .ref er, .ref q2, .ref q3, .ref q4, .ref h0, .int (nI mm), .int 0], wI (cy 1) q2 24 (g_69), wI (cy 1) q1 5 (fy), wI (cy 1) h7 48 (fx), (er, .inl (cy 4, 4, .inr (.inr (.inr (.inr (eF (ea 0) (ea 1) (ea 2) (ea 3))))))), wO (ea 0) 2 [.ref (eg 0), .ref (ef 0), .int t0_5, .int (nI l0_5), .int (nI i0_5)], wI (cy 1) (eg 0) 10 (fa17_5), wI (cy 1) (ef 0) 7 (fa21_5), wO (ea 1) 2 [.ref (eg 1), .ref (ef 1), .int t1_5, .int (nI l1_5), .int (nI i1_5)], wI (cy 1) (eg 1) 10 (fa18_5), wI (cy 1) (ef 1) 7 (fa22_5), wO (ea 2) 2 [.ref (eg 2), .ref (ef 2), .int t2_5, .int (nI l2_5), .int (nI i2_5)], wI (cy 1) (eg 2) 10 (fa19_5), wI (cy 1) (ef 2) 7 (fa23_5), wO (ea 3) 2 [.ref (eg 3), .ref (ef 3), .int tu_60, .int (nI mm), .int (nI k_59)], wI (cy 1) (eg 3) 10 (fg2_61), wI (cy 1) (ef 3) 7 (ff2_62), wO h0 4 [.ref h1, .ref h2, .ref h3, .ref h4, .ref h5, .ref h6, .ref h7, .ref h8, .ref h9, .ref h10, .ref h11, .int ys, hv1, hv2, hv3, hv4], wI (cy 1) h3 4 (fp), wI (cy 1) h2 8 (flo), wO h9 3 [.ref h9a, .ref h9b, .int (nI nb), .int tb], wI (cy 1) h9a 280 (fcb), wI (cy 1) h9b 31 (fsb2_63), wO h11 3 [.ref h11a, .ref h11b, .int (nI nt), .int tt], wI (cy 1) h11a 280 (fct), wI (cy 1) h11b 31 (fst2_64), wO h10 3 [.ref h10a, .ref h10b, .int (nI nl), .int tl], wI (cy 1) h10a 280 (fcl), wI (cy 1) h10b 31 (fsl2_65), wI (cy 1) h1 4 (fc), wO s0 7 [.ref s1, .ref s2, .int (nI sl), .int spl, .int svo, .int swi, .int sch], wI (cy 1) s2 4 (fsn)] := hD
          refine lv_iinc (v := 4) (lv' := [(5, .int 4), (0, .ref q0), (1, .ref h0), (2, .ref s0), (3, .int (nI mm)), (4, .int 0)]) hx hb dX1_pardonsOf_55 hl (k := 0) rfl (by decide) (by decide) rfl (fun ls hl => ?_)
          refine lv_goto (tgt := 19) hx hb dX1_pardonsOf_58 (by decide) ?_
          exact ih5  4 t0_5 l0_5 i0_5 t1_5 l1_5 i1_5 t2_5 l2_5 i2_5 tu_60 mm k_59 g_69 fsb2_63 fst2_64 fsl2_65 fa17_5 fa18_5 fa19_5 fg2_61 fa21_5 fa22_5 fa23_5 ff2_62 hr_70 (by omega) (fun _ => hf1_5 (by omega)) (fun _ => hf2_5 (by omega)) (fun _ => hf3_5 (by omega)) (fun _ => f_67) (po_put (i := 3) hf5_5 eg_69 (by decide)) (by omega) (by omega) (by omega) (by omega) (by omega) _ _ (hP.sub [0, 1, 2, 17, 29, 18, 19, 3, 20, 21, 22, 23, 24, 25, 26, 27, 28, 4, 5, 6, 7, 8, 9, 10, 11, 12, 13, 14, 15, 16, 30, 31] rfl) (hD.sub [0, 1, 2, 17, 29, 18, 19, 3, 20, 21, 22, 23, 24, 25, 26, 27, 28, 4, 5, 6, 7, 8, 9, 10, 11, 12, 13, 14, 15, 16, 30, 31] (by decide +kernel) rfl) hS ls (lv_sub hl [0, 1, 2, 3, 4, 5] rfl)
  exact loop5 _ 0 (et 0) ((el 0)) ((ei 0)) (et 1) ((el 1)) ((ei 1)) (et 2) ((el 2)) ((ei 2)) (et 3) ((el 3)) ((ei 3)) fph fsb fst fsl (gc 0) (gc 1) (gc 2) (gc 3) (xc 0) (xc 1) (xc 2) (xc 3) hph (by omega) (fun h9 => absurd h9 (Nat.not_lt_zero _)) (fun h9 => absurd h9 (Nat.not_lt_zero _)) (fun h9 => absurd h9 (Nat.not_lt_zero _)) (fun h9 => absurd h9 (Nat.not_lt_zero _)) (fun c9 h9 => absurd h9 (Nat.not_lt_zero c9)) (by omega) (by omega) (by omega) (by omega) (Nat.le_refl _) _ _ (hP.sub [0, 1, 2, 3, 4, 5, 6, 7, 8, 9, 10, 11, 12, 13, 14, 15, 16, 17, 18, 19, 20, 21, 22, 23, 24, 25, 26, 27, 28, 29, 30, 31] rfl) (hD.sub [0, 1, 2, 3, 4, 5, 6, 7, 8, 9, 10, 11, 12, 13, 14, 15, 16, 17, 18, 19, 20, 21, 22, 23, 24, 25, 26, 27, 28, 29, 30, 31] (by decide +kernel) rfl) hS ls (lv_sub hl [0, 1, 2, 3, 4, 5] rfl)
set_option maxHeartbeats 1000000 in
set_option maxRecDepth 100000 in
theorem s_pardonsOf1 (l : Launch) (D : va_G) (cy : Nat → ClassId) (q0 : Nat) (q1 : Nat) (q2 : Nat) (q3 : Nat) (q4 : Nat) (er : Nat) (ql : Nat) (qo : Int32) (qh : Value) (fph : Nat → Int32) (fy : Nat → Int32) (h0 : Nat) (h1 : Nat) (h2 : Nat) (h3 : Nat) (h4 : Nat) (h5 : Nat) (h6 : Nat) (h7 : Nat) (h8 : Nat) (h9 : Nat) (h10 : Nat) (h11 : Nat) (hv1 : Value) (hv2 : Value) (hv3 : Value) (hv4 : Value) (ys : Int32) (fp : Nat → Int32) (flo : Nat → Int32) (fx : Nat → Int32) (fc : Nat → Int32) (c0 : Nat) (c1 : Nat) (c2 : Nat) (c3 : Nat) (h9a : Nat) (h9b : Nat) (nb : Nat) (tb : Int32) (fcb : Nat → Int32) (fsb : Nat → Int32) (h11a : Nat) (h11b : Nat) (nt : Nat) (tt : Int32) (fct : Nat → Int32) (fst : Nat → Int32) (h10a : Nat) (h10b : Nat) (nl : Nat) (tl : Int32) (fcl : Nat → Int32) (fsl : Nat → Int32) (ea : Nat → Nat) (eg : Nat → Nat) (ef : Nat → Nat) (et : Nat → Int32) (el : Nat → Nat) (ei : Nat → Nat) (gc : Nat → Nat → Int32) (xc : Nat → Nat → Int32) (s0 : Nat) (s1 : Nat) (s2 : Nat) (sl : Nat) (spl : Int32) (svo : Int32) (swi : Int32) (sch : Int32) (fsn : Nat → Int32) (mm : Nat) (hph : pRow fph) (hcn : cntOK fc c0 c1 c2 c3) (hc0 : c0 ≤ 8) (hc1 : c1 ≤ 4) (hc2 : c2 ≤ 4) (hc3 : c3 ≤ 6) (hnx : rng fx 48 5) (hnb : nb ≤ 280) (hcb : cOK fcb nb) (hwb : fmW tb fcb nb) (hnt : nt ≤ 280) (hct : cOK fct nt) (hwt : fmW tt fct nt) (hnl : nl ≤ 280) (hcl : cOK fcl nl) (hwl : fmW tl fcl nl) (hel : ∀ i9, i9 < 4 → el i9 ≤ 10) (hmm : mm ≤ 5) (hmm1 : 1 ≤ mm) (hcl9 : cl9 fx ys c3) : XMi l D (tyL cy) E0 yX1_pardonsOf cX1_pardonsOf 6 (some .int) (rmk 11 0 0) [.ref q0, .ref h0, .ref s0, .int (nI mm), .int 1] [wO q0 1 [.ref q1, .ref er, .ref q2, .ref q3, .ref q4, qh, .int (nI ql), .int qo], wI (cy 1) q2 24 (fph), wI (cy 1) q1 5 (fy), wO h0 4 [.ref h1, .ref h2, .ref h3, .ref h4, .ref h5, .ref h6, .ref h7, .ref h8, .ref h9, .ref h10, .ref h11, .int ys, hv1, hv2, hv3, hv4], wI (cy 1) h1 4 (fc), wI (cy 1) h3 4 (fp), wI (cy 1) h2 8 (flo), wI (cy 1) h7 48 (fx), wO h9 3 [.ref h9a, .ref h9b, .int (nI nb), .int tb], wI (cy 1) h9a 280 (fcb), wI (cy 1) h9b 31 (fsb), wO h11 3 [.ref h11a, .ref h11b, .int (nI nt), .int tt], wI (cy 1) h11a 280 (fct), wI (cy 1) h11b 31 (fst), wO h10 3 [.ref h10a, .ref h10b, .int (nI nl), .int tl], wI (cy 1) h10a 280 (fcl), wI (cy 1) h10b 31 (fsl), (er, .inl (cy 4, 4, .inr (.inr (.inr (.inr (eF (ea 0) (ea 1) (ea 2) (ea 3))))))), wO (ea 0) 2 [.ref (eg 0), .ref (ef 0), .int (et 0), .int (nI (el 0)), .int (nI (ei 0))], wI (cy 1) (eg 0) 10 (gc 0), wI (cy 1) (ef 0) 7 (xc 0), wO (ea 1) 2 [.ref (eg 1), .ref (ef 1), .int (et 1), .int (nI (el 1)), .int (nI (ei 1))], wI (cy 1) (eg 1) 10 (gc 1), wI (cy 1) (ef 1) 7 (xc 1), wO (ea 2) 2 [.ref (eg 2), .ref (ef 2), .int (et 2), .int (nI (el 2)), .int (nI (ei 2))], wI (cy 1) (eg 2) 10 (gc 2), wI (cy 1) (ef 2) 7 (xc 2), wO (ea 3) 2 [.ref (eg 3), .ref (ef 3), .int (et 3), .int (nI (el 3)), .int (nI (ei 3))], wI (cy 1) (eg 3) 10 (gc 3), wI (cy 1) (ef 3) 7 (xc 3), wO s0 7 [.ref s1, .ref s2, .int (nI sl), .int spl, .int svo, .int swi, .int sch], wI (cy 1) s2 4 (fsn)] (fun (r : Int32) (u : (Nat → Int32) × (Nat → Int32) × (Nat → Int32) × (Nat → Nat) × (Nat → Nat) × (Nat → Nat → Int32) × (Nat → Nat → Int32) × (Nat → Int32) × (Nat → Int32) × (Nat → Int32) × Nat) => (r = nI u.2.2.2.2.2.2.2.2.2.2) ∧ (pRow u.1) ∧ ((u.2.2.2.2.2.2.2.2.2.2 = 1 ∧ ∃ g9, foF (fun v9 => if (pdE (fun c9 f9 => ecS (vlC tb fcb nb 3) (vlC tl fcl nl 0) (vlC tt fct nt 0) flo (farC spl (fp c9)) swi (fsn c9) svo sch f9 mm) (yeC fx ys) c1) (dgW c0 mm v9) = true then some (dgW c0 mm v9) else none) (c0 ^ mm) = some g9 ∧ ∀ i9, i9 < mm → u.2.1 i9 = g9 i9) ∨ (u.2.2.2.2.2.2.2.2.2.2 = 0 ∧ foF (fun v9 => if (pdE (fun c9 f9 => ecS (vlC tb fcb nb 3) (vlC tl fcl nl 0) (vlC tt fct nt 0) flo (farC spl (fp c9)) swi (fsn c9) svo sch f9 mm) (yeC fx ys) c1) (dgW c0 mm v9) = true then some (dgW c0 mm v9) else none) (c0 ^ mm) = none)) ∧ (∀ i9, i9 < 4 → u.2.2.2.1 i9 ≤ 10)) (fun (u : (Nat → Int32) × (Nat → Int32) × (Nat → Int32) × (Nat → Nat) × (Nat → Nat) × (Nat → Nat → Int32) × (Nat → Nat → Int32) × (Nat → Int32) × (Nat → Int32) × (Nat → Int32) × Nat) => [wO q0 1 [.ref q1, .ref er, .ref q2, .ref q3, .ref q4, .ref h0, .int (nI mm), .int 1], wI (cy 1) q2 24 (u.1), wI (cy 1) q1 5 (u.2.1), wO h0 4 [.ref h1, .ref h2, .ref h3, .ref h4, .ref h5, .ref h6, .ref h7, .ref h8, .ref h9, .ref h10, .ref h11, .int ys, hv1, hv2, hv3, hv4], wI (cy 1) h1 4 (fc), wI (cy 1) h3 4 (fp), wI (cy 1) h2 8 (flo), wI (cy 1) h7 48 (fx), wO h9 3 [.ref h9a, .ref h9b, .int (nI nb), .int tb], wI (cy 1) h9a 280 (fcb), wI (cy 1) h9b 31 (u.2.2.2.2.2.2.2.1), wO h11 3 [.ref h11a, .ref h11b, .int (nI nt), .int tt], wI (cy 1) h11a 280 (fct), wI (cy 1) h11b 31 (u.2.2.2.2.2.2.2.2.1), wO h10 3 [.ref h10a, .ref h10b, .int (nI nl), .int tl], wI (cy 1) h10a 280 (fcl), wI (cy 1) h10b 31 (u.2.2.2.2.2.2.2.2.2.1), (er, .inl (cy 4, 4, .inr (.inr (.inr (.inr (eF (ea 0) (ea 1) (ea 2) (ea 3))))))), wO (ea 0) 2 [.ref (eg 0), .ref (ef 0), .int (u.2.2.1 0), .int (nI (u.2.2.2.1 0)), .int (nI (u.2.2.2.2.1 0))], wI (cy 1) (eg 0) 10 (u.2.2.2.2.2.1 0), wI (cy 1) (ef 0) 7 (u.2.2.2.2.2.2.1 0), wO (ea 1) 2 [.ref (eg 1), .ref (ef 1), .int (u.2.2.1 1), .int (nI (u.2.2.2.1 1)), .int (nI (u.2.2.2.2.1 1))], wI (cy 1) (eg 1) 10 (u.2.2.2.2.2.1 1), wI (cy 1) (ef 1) 7 (u.2.2.2.2.2.2.1 1), wO (ea 2) 2 [.ref (eg 2), .ref (ef 2), .int (u.2.2.1 2), .int (nI (u.2.2.2.1 2)), .int (nI (u.2.2.2.2.1 2))], wI (cy 1) (eg 2) 10 (u.2.2.2.2.2.1 2), wI (cy 1) (ef 2) 7 (u.2.2.2.2.2.2.1 2), wO (ea 3) 2 [.ref (eg 3), .ref (ef 3), .int (u.2.2.1 3), .int (nI (u.2.2.2.1 3)), .int (nI (u.2.2.2.2.1 3))], wI (cy 1) (eg 3) 10 (u.2.2.2.2.2.1 3), wI (cy 1) (ef 3) 7 (u.2.2.2.2.2.2.1 3), wO s0 7 [.ref s1, .ref s2, .int (nI sl), .int spl, .int svo, .int swi, .int sch], wI (cy 1) s2 4 (fsn)]) := by
  refine XMi.start (by decide) (Nat.le_of_ble_eq_true rfl) ?_
  intro p e s m below meth c args A ls Q hat hQ
  obtain ⟨hx, hb, hr, hml, hown, hg, hlocks, hin, hK, hA, hP, hD, hS, hE, hl⟩ := hat
  have hown : s.vm.findClass RX1 = some m.cls := hown
  have hl : lv_has ls 6 [(0, .ref q0), (1, .ref h0), (2, .ref s0), (3, .int (nI mm)), (4, .int 1)] := hl
  have hk_1 := hel 0 (by decide)
  have hk_2 := hel 1 (by decide)
  have hk_3 := hel 2 (by decide)
  have hk_4 := hel 3 (by decide)
  refine lv_aload_n hx hb dX1_pardonsOf_0 rfl (lv_at hl 0 rfl) ?_
  refine lv_aload_n hx hb dX1_pardonsOf_1 rfl (lv_at hl 1 rfl) ?_
  refine va_put (D := D) (ci := 1) (v := .ref h0) (ty := .object "CliffJudges$Hills") (C := RX1) (T := TX1) (N := 8) hx hb hg i_X1 tyX1 tyX1_ok nmX1 hown hK hP hD hS 0 rfl rfl 5 (by decide) (hg _ m_558) (fun _ h9 => h9) rfl (by decide +kernel) rfl rfl (Nat.le_of_ble_eq_true rfl) dX1_pardonsOf_2 (fun H locs hP9 hD9 hS9 => ?_)
  clear hP hD hS
  refine reW [wO q0 1 [.ref q1, .ref er, .ref q2, .ref q3, .ref q4, .ref h0, .int (nI ql), .int qo], wI (cy 1) q2 24 (fph), wI (cy 1) q1 5 (fy), wO h0 4 [.ref h1, .ref h2, .ref h3, .ref h4, .ref h5, .ref h6, .ref h7, .ref h8, .ref h9, .ref h10, .ref h11, .int ys, hv1, hv2, hv3, hv4], wI (cy 1) h1 4 (fc), wI (cy 1) h3 4 (fp), wI (cy 1) h2 8 (flo), wI (cy 1) h7 48 (fx), wO h9 3 [.ref h9a, .ref h9b, .int (nI nb), .int tb], wI (cy 1) h9a 280 (fcb), wI (cy 1) h9b 31 (fsb), wO h11 3 [.ref h11a, .ref h11b, .int (nI nt), .int tt], wI (cy 1) h11a 280 (fct), wI (cy 1) h11b 31 (fst), wO h10 3 [.ref h10a, .ref h10b, .int (nI nl), .int tl], wI (cy 1) h10a 280 (fcl), wI (cy 1) h10b 31 (fsl), (er, .inl (cy 4, 4, .inr (.inr (.inr (.inr (eF (ea 0) (ea 1) (ea 2) (ea 3))))))), wO (ea 0) 2 [.ref (eg 0), .ref (ef 0), .int (et 0), .int (nI (el 0)), .int (nI (ei 0))], wI (cy 1) (eg 0) 10 (gc 0), wI (cy 1) (ef 0) 7 (xc 0), wO (ea 1) 2 [.ref (eg 1), .ref (ef 1), .int (et 1), .int (nI (el 1)), .int (nI (ei 1))], wI (cy 1) (eg 1) 10 (gc 1), wI (cy 1) (ef 1) 7 (xc 1), wO (ea 2) 2 [.ref (eg 2), .ref (ef 2), .int (et 2), .int (nI (el 2)), .int (nI (ei 2))], wI (cy 1) (eg 2) 10 (gc 2), wI (cy 1) (ef 2) 7 (xc 2), wO (ea 3) 2 [.ref (eg 3), .ref (ef 3), .int (et 3), .int (nI (el 3)), .int (nI (ei 3))], wI (cy 1) (eg 3) 10 (gc 3), wI (cy 1) (ef 3) 7 (xc 3), wO s0 7 [.ref s1, .ref s2, .int (nI sl), .int spl, .int svo, .int swi, .int sch], wI (cy 1) s2 4 (fsn)] hP9 hD9 hS9 (fun hP hD hS => ?_)
  clear hP9 hD9 hS9
  refine lv_aload_n hx hb dX1_pardonsOf_5 rfl (lv_at hl 0 rfl) ?_
  refine lv_iload_n hx hb dX1_pardonsOf_6 rfl (lv_at hl 3 rfl) ?_
  refine va_put (D := D) (ci := 1) (v := .int (nI mm)) (ty := .int) (C := RX1) (T := TX1) (N := 8) hx hb hg i_X1 tyX1 tyX1_ok nmX1 hown hK hP hD hS 0 rfl rfl 6 (by decide) (hg _ m_559) (fun _ h9 => h9) rfl (by decide +kernel) rfl rfl (Nat.le_of_ble_eq_true rfl) dX1_pardonsOf_7 (fun H locs hP9 hD9 hS9 => ?_)
  clear hP hD hS
  refine reW [wO q0 1 [.ref q1, .ref er, .ref q2, .ref q3, .ref q4, .ref h0, .int (nI mm), .int qo], wI (cy 1) q2 24 (fph), wI (cy 1) q1 5 (fy), wO h0 4 [.ref h1, .ref h2, .ref h3, .ref h4, .ref h5, .ref h6, .ref h7, .ref h8, .ref h9, .ref h10, .ref h11, .int ys, hv1, hv2, hv3, hv4], wI (cy 1) h1 4 (fc), wI (cy 1) h3 4 (fp), wI (cy 1) h2 8 (flo), wI (cy 1) h7 48 (fx), wO h9 3 [.ref h9a, .ref h9b, .int (nI nb), .int tb], wI (cy 1) h9a 280 (fcb), wI (cy 1) h9b 31 (fsb), wO h11 3 [.ref h11a, .ref h11b, .int (nI nt), .int tt], wI (cy 1) h11a 280 (fct), wI (cy 1) h11b 31 (fst), wO h10 3 [.ref h10a, .ref h10b, .int (nI nl), .int tl], wI (cy 1) h10a 280 (fcl), wI (cy 1) h10b 31 (fsl), (er, .inl (cy 4, 4, .inr (.inr (.inr (.inr (eF (ea 0) (ea 1) (ea 2) (ea 3))))))), wO (ea 0) 2 [.ref (eg 0), .ref (ef 0), .int (et 0), .int (nI (el 0)), .int (nI (ei 0))], wI (cy 1) (eg 0) 10 (gc 0), wI (cy 1) (ef 0) 7 (xc 0), wO (ea 1) 2 [.ref (eg 1), .ref (ef 1), .int (et 1), .int (nI (el 1)), .int (nI (ei 1))], wI (cy 1) (eg 1) 10 (gc 1), wI (cy 1) (ef 1) 7 (xc 1), wO (ea 2) 2 [.ref (eg 2), .ref (ef 2), .int (et 2), .int (nI (el 2)), .int (nI (ei 2))], wI (cy 1) (eg 2) 10 (gc 2), wI (cy 1) (ef 2) 7 (xc 2), wO (ea 3) 2 [.ref (eg 3), .ref (ef 3), .int (et 3), .int (nI (el 3)), .int (nI (ei 3))], wI (cy 1) (eg 3) 10 (gc 3), wI (cy 1) (ef 3) 7 (xc 3), wO s0 7 [.ref s1, .ref s2, .int (nI sl), .int spl, .int svo, .int swi, .int sch], wI (cy 1) s2 4 (fsn)] hP9 hD9 hS9 (fun hP hD hS => ?_)
  clear hP9 hD9 hS9
  refine lv_aload_n hx hb dX1_pardonsOf_10 rfl (lv_at hl 0 rfl) ?_
  refine lv_iload hx hb dX1_pardonsOf_11 (lv_at hl 4 rfl) ?_
  refine va_put (D := D) (ci := 1) (v := .int 1) (ty := .boolean) (C := RX1) (T := TX1) (N := 8) hx hb hg i_X1 tyX1 tyX1_ok nmX1 hown hK hP hD hS 0 rfl rfl 7 (by decide) (hg _ m_560) (fun _ h9 => h9) rfl (by decide +kernel) rfl rfl (Nat.le_of_ble_eq_true rfl) dX1_pardonsOf_13 (fun H locs hP9 hD9 hS9 => ?_)
  clear hP hD hS
  refine reW [wO q0 1 [.ref q1, .ref er, .ref q2, .ref q3, .ref q4, .ref h0, .int (nI mm), .int 1], wI (cy 1) q2 24 (fph), wI (cy 1) q1 5 (fy), wO h0 4 [.ref h1, .ref h2, .ref h3, .ref h4, .ref h5, .ref h6, .ref h7, .ref h8, .ref h9, .ref h10, .ref h11, .int ys, hv1, hv2, hv3, hv4], wI (cy 1) h1 4 (fc), wI (cy 1) h3 4 (fp), wI (cy 1) h2 8 (flo), wI (cy 1) h7 48 (fx), wO h9 3 [.ref h9a, .ref h9b, .int (nI nb), .int tb], wI (cy 1) h9a 280 (fcb), wI (cy 1) h9b 31 (fsb), wO h11 3 [.ref h11a, .ref h11b, .int (nI nt), .int tt], wI (cy 1) h11a 280 (fct), wI (cy 1) h11b 31 (fst), wO h10 3 [.ref h10a, .ref h10b, .int (nI nl), .int tl], wI (cy 1) h10a 280 (fcl), wI (cy 1) h10b 31 (fsl), (er, .inl (cy 4, 4, .inr (.inr (.inr (.inr (eF (ea 0) (ea 1) (ea 2) (ea 3))))))), wO (ea 0) 2 [.ref (eg 0), .ref (ef 0), .int (et 0), .int (nI (el 0)), .int (nI (ei 0))], wI (cy 1) (eg 0) 10 (gc 0), wI (cy 1) (ef 0) 7 (xc 0), wO (ea 1) 2 [.ref (eg 1), .ref (ef 1), .int (et 1), .int (nI (el 1)), .int (nI (ei 1))], wI (cy 1) (eg 1) 10 (gc 1), wI (cy 1) (ef 1) 7 (xc 1), wO (ea 2) 2 [.ref (eg 2), .ref (ef 2), .int (et 2), .int (nI (el 2)), .int (nI (ei 2))], wI (cy 1) (eg 2) 10 (gc 2), wI (cy 1) (ef 2) 7 (xc 2), wO (ea 3) 2 [.ref (eg 3), .ref (ef 3), .int (et 3), .int (nI (el 3)), .int (nI (ei 3))], wI (cy 1) (eg 3) 10 (gc 3), wI (cy 1) (ef 3) 7 (xc 3), wO s0 7 [.ref s1, .ref s2, .int (nI sl), .int spl, .int svo, .int swi, .int sch], wI (cy 1) s2 4 (fsn)] hP9 hD9 hS9 (fun hP hD hS => ?_)
  clear hP9 hD9 hS9
  refine lv_iconst (v := 0) hx hb dX1_pardonsOf_16 (by decide) ?_
  refine lv_istore (lv' := [(5, .int 0), (0, .ref q0), (1, .ref h0), (2, .ref s0), (3, .int (nI mm)), (4, .int 1)]) hx hb dX1_pardonsOf_17 hl (by decide) rfl (fun ls hl => ?_)
  have loop5 : ∀ (zn : Nat) (i5 : Nat) (t0_5 : Int32) (l0_5 : Nat) (i0_5 : Nat) (t1_5 : Int32) (l1_5 : Nat) (i1_5 : Nat) (t2_5 : Int32) (l2_5 : Nat) (i2_5 : Nat) (t3_5 : Int32) (l3_5 : Nat) (i3_5 : Nat) (fa13_5 : Nat → Int32) (fa14_5 : Nat → Int32) (fa15_5 : Nat → Int32) (fa16_5 : Nat → Int32) (fa17_5 : Nat → Int32) (fa18_5 : Nat → Int32) (fa19_5 : Nat → Int32) (fa20_5 : Nat → Int32) (fa21_5 : Nat → Int32) (fa22_5 : Nat → Int32) (fa23_5 : Nat → Int32) (fa24_5 : Nat → Int32), (pRow fa13_5) → (i5 ≤ c1) → (0 < i5 → eaO (vlC tb fcb nb 3) (vlC tl fcl nl 0) (vlC tt fct nt 0) flo (farC spl (fp 0)) swi (fsn 0) svo sch c0 mm t0_5 i0_5 fa17_5) → (1 < i5 → eaO (vlC tb fcb nb 3) (vlC tl fcl nl 0) (vlC tt fct nt 0) flo (farC spl (fp 1)) swi (fsn 1) svo sch c0 mm t1_5 i1_5 fa18_5) → (2 < i5 → eaO (vlC tb fcb nb 3) (vlC tl fcl nl 0) (vlC tt fct nt 0) flo (farC spl (fp 2)) swi (fsn 2) svo sch c0 mm t2_5 i2_5 fa19_5) → (3 < i5 → eaO (vlC tb fcb nb 3) (vlC tl fcl nl 0) (vlC tt fct nt 0) flo (farC spl (fp 3)) swi (fsn 3) svo sch c0 mm t3_5 i3_5 fa20_5) → (∀ c9 : Nat, c9 < i5 → fa13_5 c9 = nI 181896) → (l0_5 ≤ 10) → (l1_5 ≤ 10) → (l2_5 ≤ 10) → (l3_5 ≤ 10) → c1 - i5 + 1 ≤ zn → ∀ (H : Heap) (locs : List Loc), va_P D vwCl [wO q0 1 [.ref q1, .ref er, .ref q2, .ref q3, .ref q4, .ref h0, .int (nI mm), .int 1], wI (cy 1) q2 24 (fa13_5), wI (cy 1) q1 5 (fy), wO h0 4 [.ref h1, .ref h2, .ref h3, .ref h4, .ref h5, .ref h6, .ref h7, .ref h8, .ref h9, .ref h10, .ref h11, .int ys, hv1, hv2, hv3, hv4], wI (cy 1) h1 4 (fc), wI (cy 1) h3 4 (fp), wI (cy 1) h2 8 (flo), wI (cy 1) h7 48 (fx), wO h9 3 [.ref h9a, .ref h9b, .int (nI nb), .int tb], wI (cy 1) h9a 280 (fcb), wI (cy 1) h9b 31 (fa14_5), wO h11 3 [.ref h11a, .ref h11b, .int (nI nt), .int tt], wI (cy 1) h11a 280 (fct), wI (cy 1) h11b 31 (fa15_5), wO h10 3 [.ref h10a, .ref h10b, .int (nI nl), .int tl], wI (cy 1) h10a 280 (fcl), wI (cy 1) h10b 31 (fa16_5), (er, .inl (cy 4, 4, .inr (.inr (.inr (.inr (eF (ea 0) (ea 1) (ea 2) (ea 3))))))), wO (ea 0) 2 [.ref (eg 0), .ref (ef 0), .int t0_5, .int (nI l0_5), .int (nI i0_5)], wI (cy 1) (eg 0) 10 (fa17_5), wI (cy 1) (ef 0) 7 (fa21_5), wO (ea 1) 2 [.ref (eg 1), .ref (ef 1), .int t1_5, .int (nI l1_5), .int (nI i1_5)], wI (cy 1) (eg 1) 10 (fa18_5), wI (cy 1) (ef 1) 7 (fa22_5), wO (ea 2) 2 [.ref (eg 2), .ref (ef 2), .int t2_5, .int (nI l2_5), .int (nI i2_5)], wI (cy 1) (eg 2) 10 (fa19_5), wI (cy 1) (ef 2) 7 (fa23_5), wO (ea 3) 2 [.ref (eg 3), .ref (ef 3), .int t3_5, .int (nI l3_5), .int (nI i3_5)], wI (cy 1) (eg 3) 10 (fa20_5), wI (cy 1) (ef 3) 7 (fa24_5), wO s0 7 [.ref s1, .ref s2, .int (nI sl), .int spl, .int svo, .int swi, .int sch], wI (cy 1) s2 4 (fsn)] H → va_D A [wO q0 1 [.ref q1, .ref er, .ref q2, .ref q3, .ref q4, .ref h0, .int (nI mm), .int 1], wI (cy 1) q2 24 (fa13_5), wI (cy 1) q1 5 (fy), wO h0 4 [.ref h1, .ref h2, .ref h3, .ref h4, .ref h5, .ref h6, .ref h7, .ref h8, .ref h9, .ref h10, .ref h11, .int ys, hv1, hv2, hv3, hv4], wI (cy 1) h1 4 (fc), wI (cy 1) h3 4 (fp), wI (cy 1) h2 8 (flo), wI (cy 1) h7 48 (fx), wO h9 3 [.ref h9a, .ref h9b, .int (nI nb), .int tb], wI (cy 1) h9a 280 (fcb), wI (cy 1) h9b 31 (fa14_5), wO h11 3 [.ref h11a, .ref h11b, .int (nI nt), .int tt], wI (cy 1) h11a 280 (fct), wI (cy 1) h11b 31 (fa15_5), wO h10 3 [.ref h10a, .ref h10b, .int (nI nl), .int tl], wI (cy 1) h10a 280 (fcl), wI (cy 1) h10b 31 (fa16_5), (er, .inl (cy 4, 4, .inr (.inr (.inr (.inr (eF (ea 0) (ea 1) (ea 2) (ea 3))))))), wO (ea 0) 2 [.ref (eg 0), .ref (ef 0), .int t0_5, .int (nI l0_5), .int (nI i0_5)], wI (cy 1) (eg 0) 10 (fa17_5), wI (cy 1) (ef 0) 7 (fa21_5), wO (ea 1) 2 [.ref (eg 1), .ref (ef 1), .int t1_5, .int (nI l1_5), .int (nI i1_5)], wI (cy 1) (eg 1) 10 (fa18_5), wI (cy 1) (ef 1) 7 (fa22_5), wO (ea 2) 2 [.ref (eg 2), .ref (ef 2), .int t2_5, .int (nI l2_5), .int (nI i2_5)], wI (cy 1) (eg 2) 10 (fa19_5), wI (cy 1) (ef 2) 7 (fa23_5), wO (ea 3) 2 [.ref (eg 3), .ref (ef 3), .int t3_5, .int (nI l3_5), .int (nI i3_5)], wI (cy 1) (eg 3) 10 (fa20_5), wI (cy 1) (ef 3) 7 (fa24_5), wO s0 7 [.ref s1, .ref s2, .int (nI sl), .int spl, .int svo, .int swi, .int sch], wI (cy 1) s2 4 (fsn)] → va_S A s.heap H locs → ∀ ls : Array Slot, lv_has ls 6 [(5, .int (nI i5)), (0, .ref q0), (1, .ref h0), (2, .ref s0), (3, .int (nI mm)), (4, .int 1)] → W p l e (rmk 11 0 0) s m args below meth c H locs 0 0 Q (F0 m 19 ls []) := by
    try clear hP hD hS
    intro zn
    induction zn with
    | zero => intro i5 t0_5 l0_5 i0_5 t1_5 l1_5 i1_5 t2_5 l2_5 i2_5 t3_5 l3_5 i3_5 fa13_5 fa14_5 fa15_5 fa16_5 fa17_5 fa18_5 fa19_5 fa20_5 fa21_5 fa22_5 fa23_5 fa24_5 _ _ _ _ _ _ _ _ _ _ _ hz; exact absurd hz (by omega)
    | succ zn ih5 =>
      intro i5 t0_5 l0_5 i0_5 t1_5 l1_5 i1_5 t2_5 l2_5 i2_5 t3_5 l3_5 i3_5 fa13_5 fa14_5 fa15_5 fa16_5 fa17_5 fa18_5 fa19_5 fa20_5 fa21_5 fa22_5 fa23_5 fa24_5 ha14_5 hf0_5 hf1_5 hf2_5 hf3_5 hf4_5 hf5_5 hf6_5 hf7_5 hf8_5 hf9_5 hmu5 H locs hP hD hS ls hl
      refine lv_iload hx hb dX1_pardonsOf_19 (lv_at hl 0 rfl) ?_
      refine lv_aload_n hx hb dX1_pardonsOf_21 rfl (lv_at hl 2 rfl) ?_
      refine va_get (D := D) (ci := 4) (v := .ref h1) (C := RX4) (T := TX4) (N := 16) hx hb hg i_X4 hown hK hP 3 rfl rfl 0 (by decide) (hg _ m_331) (fun _ h9 => h9) rfl dX1_pardonsOf_22 ?_
      refine lv_iconst (v := 1) hx hb dX1_pardonsOf_25 (by decide) ?_
      refine va_iald hx hb hK hP 4 1 rfl rfl (by unfold vp_in; decide) dX1_pardonsOf_26 ?_
      refine lv_topi (fun y_6 hy_6 => ?_)
      obtain rfl : y_6 = nI c1 := hy_6.trans hcn.2.1
      refine lv_icmp_ge (tgt := 61) hx hb dX1_pardonsOf_27 (by decide) (fun c_7 => ?_) (fun c_7 => ?_)
      · have q_8 : c1 ≤ i5 := q_le (a := c1) (b := i5) rfl rfl (by omega) (by omega) c_7
        refine lv_aload_n hx hb dX1_pardonsOf_61 rfl (lv_at hl 1 rfl) ?_
        refine lv_iconst (v := 0) hx hb dX1_pardonsOf_62 (by decide) ?_
        refine x_callVi (q := (RX1, TX1, 8)) (ci := 1) (q0 := 0) (wr := [wI (cy 1) h3 4 (fp), wI (cy 1) h2 8 (flo), wO h9 3 [.ref h9a, .ref h9b, .int (nI nb), .int tb], wI (cy 1) h9a 280 (fcb), wI (cy 1) h9b 31 (fa14_5), wO h11 3 [.ref h11a, .ref h11b, .int (nI nt), .int tt], wI (cy 1) h11a 280 (fct), wI (cy 1) h11b 31 (fa15_5), wO h10 3 [.ref h10a, .ref h10b, .int (nI nl), .int tl], wI (cy 1) h10a 280 (fcl), wI (cy 1) h10b 31 (fa16_5), wO s0 7 [.ref s1, .ref s2, .int (nI sl), .int spl, .int svo, .int swi, .int sch], wI (cy 1) s2 4 (fsn)]) (rest := []) ⟨hx, hb, hml, hown, hg, hl.1⟩ k_X1_58 (s_countFrom0 l D cy q0 q1 q2 q3 q4 er mm 1 fa13_5 fy h0 h1 h2 h3 h4 h5 h6 h7 h8 h9 h10 h11 hv1 hv2 hv3 hv4 ys fx fc c0 c1 c2 c3 ea eg ef ((fun k => [t0_5, t1_5, t2_5, t3_5].getD k 0)) ((fun k => [l0_5, l1_5, l2_5, l3_5].getD k 0)) ((fun k => [i0_5, i1_5, i2_5, i3_5].getD k 0)) ((fun k => [fa17_5, fa18_5, fa19_5, fa20_5].getD k (fun _ => 0))) ((fun k => [fa21_5, fa22_5, fa23_5, fa24_5].getD k (fun _ => 0))) (ha14_5) (hnx) (hcn) (by omega) (by omega) (by omega) (by omega) (by omega) (by omega) (hcl9) (fun i9 h9 => absurd h9 (Nat.not_lt_zero i9)) (fun c9 h9 => pt_i (by omega) (hf5_5 c9 (by omega)))) E0_blind hK hP hD hS hA [0, 1, 2, 3, 7, 4, 17, 18, 19, 20, 21, 22, 23, 24, 25, 26, 27, 28, 29] [5, 6, 8, 9, 10, 11, 12, 13, 14, 15, 16, 30, 31] ⟨rfl, rfl, by decide +kernel, by decide +kernel, by decide +kernel⟩ rfl rfl (fun _ _ _ => trivial) dX1_pardonsOf_63 rfl rfl (Nat.le_of_ble_eq_true rfl) ⟨Nat.le_of_ble_eq_true rfl, Nat.le_of_ble_eq_true rfl⟩ ⟨Nat.le_of_ble_eq_true rfl, Nat.le_of_ble_eq_true rfl⟩ (fun zr9 zu9 H locs hw9 hP9 hD9 hS9 => ?_)
        clear hP hD hS
        obtain ⟨fph2_10, fy2_11, kc_12⟩ := zu9
        refine reW [wI (cy 1) h3 4 (fp), wI (cy 1) h2 8 (flo), wO h9 3 [.ref h9a, .ref h9b, .int (nI nb), .int tb], wI (cy 1) h9a 280 (fcb), wI (cy 1) h9b 31 (fa14_5), wO h11 3 [.ref h11a, .ref h11b, .int (nI nt), .int tt], wI (cy 1) h11a 280 (fct), wI (cy 1) h11b 31 (fa15_5), wO h10 3 [.ref h10a, .ref h10b, .int (nI nl), .int tl], wI (cy 1) h10a 280 (fcl), wI (cy 1) h10b 31 (fa16_5), wO s0 7 [.ref s1, .ref s2, .int (nI sl), .int spl, .int svo, .int swi, .int sch], wI (cy 1) s2 4 (fsn), wO q0 1 [.ref q1, .ref er, .ref q2, .ref q3, .ref q4, .ref h0, .int (nI mm), .int 1], wI (cy 1) q2 24 (fph2_10), wI (cy 1) q1 5 (fy2_11), wO h0 4 [.ref h1, .ref h2, .ref h3, .ref h4, .ref h5, .ref h6, .ref h7, .ref h8, .ref h9, .ref h10, .ref h11, .int ys, hv1, hv2, hv3, hv4], wI (cy 1) h7 48 (fx), wI (cy 1) h1 4 (fc), (er, .inl (cy 4, 4, .inr (.inr (.inr (.inr (eF (ea 0) (ea 1) (ea 2) (ea 3))))))), wO (ea 0) 2 [.ref (eg 0), .ref (ef 0), .int (((fun k => [t0_5, t1_5, t2_5, t3_5].getD k 0)) 0), .int (nI (((fun k => [l0_5, l1_5, l2_5, l3_5].getD k 0)) 0)), .int (nI (((fun k => [i0_5, i1_5, i2_5, i3_5].getD k 0)) 0))], wI (cy 1) (eg 0) 10 (((fun k => [fa17_5, fa18_5, fa19_5, fa20_5].getD k (fun _ => 0))) 0), wI (cy 1) (ef 0) 7 (((fun k => [fa21_5, fa22_5, fa23_5, fa24_5].getD k (fun _ => 0))) 0), wO (ea 1) 2 [.ref (eg 1), .ref (ef 1), .int (((fun k => [t0_5, t1_5, t2_5, t3_5].getD k 0)) 1), .int (nI (((fun k => [l0_5, l1_5, l2_5, l3_5].getD k 0)) 1)), .int (nI (((fun k => [i0_5, i1_5, i2_5, i3_5].getD k 0)) 1))], wI (cy 1) (eg 1) 10 (((fun k => [fa17_5, fa18_5, fa19_5, fa20_5].getD k (fun _ => 0))) 1), wI (cy 1) (ef 1) 7 (((fun k => [fa21_5, fa22_5, fa23_5, fa24_5].getD k (fun _ => 0))) 1), wO (ea 2) 2 [.ref (eg 2), .ref (ef 2), .int (((fun k => [t0_5, t1_5, t2_5, t3_5].getD k 0)) 2), .int (nI (((fun k => [l0_5, l1_5, l2_5, l3_5].getD k 0)) 2)), .int (nI (((fun k => [i0_5, i1_5, i2_5, i3_5].getD k 0)) 2))], wI (cy 1) (eg 2) 10 (((fun k => [fa17_5, fa18_5, fa19_5, fa20_5].getD k (fun _ => 0))) 2), wI (cy 1) (ef 2) 7 (((fun k => [fa21_5, fa22_5, fa23_5, fa24_5].getD k (fun _ => 0))) 2), wO (ea 3) 2 [.ref (eg 3), .ref (ef 3), .int (((fun k => [t0_5, t1_5, t2_5, t3_5].getD k 0)) 3), .int (nI (((fun k => [l0_5, l1_5, l2_5, l3_5].getD k 0)) 3)), .int (nI (((fun k => [i0_5, i1_5, i2_5, i3_5].getD k 0)) 3))], wI (cy 1) (eg 3) 10 (((fun k => [fa17_5, fa18_5, fa19_5, fa20_5].getD k (fun _ => 0))) 3), wI (cy 1) (ef 3) 7 (((fun k => [fa21_5, fa22_5, fa23_5, fa24_5].getD k (fun _ => 0))) 3)] hP9 hD9 hS9 (fun hP hD hS => ?_)
        clear hP9 hD9 hS9
        refine W.widen (k := 0) (n := 0) (Nat.le_of_ble_eq_true rfl) (Nat.le_of_ble_eq_true rfl) ?_
        replace hw9 : (zr9 = nI kc_12) ∧ (pRow fph2_10) ∧ ((1 : Int32) = 0 → kc_12 = cnP (pdA fx ys ((fun k => [t0_5, t1_5, t2_5, t3_5].getD k 0)) ((fun k => [fa17_5, fa18_5, fa19_5, fa20_5].getD k (fun _ => 0))) c1 mm) c0 mm (mm - 0) fy) ∧ (¬ (1 : Int32) = 0 → (kc_12 = 1 ∧ ∃ g9, fdP (pdA fx ys ((fun k => [t0_5, t1_5, t2_5, t3_5].getD k 0)) ((fun k => [fa17_5, fa18_5, fa19_5, fa20_5].getD k (fun _ => 0))) c1 mm) c0 mm (mm - 0) fy = some g9 ∧ ∀ i9, i9 < mm → fy2_11 i9 = g9 i9) ∨ (kc_12 = 0 ∧ fdP (pdA fx ys ((fun k => [t0_5, t1_5, t2_5, t3_5].getD k 0)) ((fun k => [fa17_5, fa18_5, fa19_5, fa20_5].getD k (fun _ => 0))) c1 mm) c0 mm (mm - 0) fy = none)) ∧ (∀ i9, i9 < 0 → fy2_11 i9 = fy i9) ∧ (∀ k9 : Nat, k9 < (0 + 1) * 4 → fph2_10 k9 = fa13_5 k9) := hw9
        obtain ⟨f_13, f_14, f_15, f_16, f_17, f_18⟩ := hw9
        subst f_13
        replace hP : va_P D vwCl [wI (cy 1) h3 4 (fp), wI (cy 1) h2 8 (flo), wO h9 3 [.ref h9a, .ref h9b, .int (nI nb), .int tb], wI (cy 1) h9a 280 (fcb), wI (cy 1) h9b 31 (fa14_5), wO h11 3 [.ref h11a, .ref h11b, .int (nI nt), .int tt], wI (cy 1) h11a 280 (fct), wI (cy 1) h11b 31 (fa15_5), wO h10 3 [.ref h10a, .ref h10b, .int (nI nl), .int tl], wI (cy 1) h10a 280 (fcl), wI (cy 1) h10b 31 (fa16_5), wO s0 7 [.ref s1, .ref s2, .int (nI sl), .int spl, .int svo, .int swi, .int sch], wI (cy 1) s2 4 (fsn), wO q0 1 [.ref q1, .ref er, .ref q2, .ref q3, .ref q4, .ref h0, .int (nI mm), .int 1], wI (cy 1) q2 24 (fph2_10), wI (cy 1) q1 5 (fy2_11), wO h0 4 [.ref h1, .ref h2, .ref h3, .ref h4, .ref h5, .ref h6, .ref h7, .ref h8, .ref h9, .ref h10, .ref h11, .int ys, hv1, hv2, hv3, hv4], wI (cy 1) h7 48 (fx), wI (cy 1) h1 4 (fc), (er, .inl (cy 4, 4, .inr (.inr (.inr (.inr (eF (ea 0) (ea 1) (ea 2) (ea 3))))))), wO (ea 0) 2 [.ref (eg 0), .ref (ef 0), .int t0_5, .int (nI l0_5), .int (nI i0_5)], wI (cy 1) (eg 0) 10 (fa17_5), wI (cy 1) (ef 0) 7 (fa21_5), wO (ea 1) 2 [.ref (eg 1), .ref (ef 1), .int t1_5, .int (nI l1_5), .int (nI i1_5)], wI (cy 1) (eg 1) 10 (fa18_5), wI (cy 1) (ef 1) 7 (fa22_5), wO (ea 2) 2 [.ref (eg 2), .ref (ef 2), .int t2_5, .int (nI l2_5), .int (nI i2_5)], wI (cy 1) (eg 2) 10 (fa19_5), wI (cy 1) (ef 2) 7 (fa23_5), wO (ea 3) 2 [.ref (eg 3), .ref (ef 3), .int t3_5, .int (nI l3_5), .int (nI i3_5)], wI (cy 1) (eg 3) 10 (fa20_5), wI (cy 1) (ef 3) 7 (fa24_5)] H := hP
        replace hD : va_D A [wI (cy 1) h3 4 (fp), wI (cy 1) h2 8 (flo), wO h9 3 [.ref h9a, .ref h9b, .int (nI nb), .int tb], wI (cy 1) h9a 280 (fcb), wI (cy 1) h9b 31 (fa14_5), wO h11 3 [.ref h11a, .ref h11b, .int (nI nt), .int tt], wI (cy 1) h11a 280 (fct), wI (cy 1) h11b 31 (fa15_5), wO h10 3 [.ref h10a, .ref h10b, .int (nI nl), .int tl], wI (cy 1) h10a 280 (fcl), wI (cy 1) h10b 31 (fa16_5), wO s0 7 [.ref s1, .ref s2, .int (nI sl), .int spl, .int svo, .int swi, .int sch], wI (cy 1) s2 4 (fsn), wO q0 1 [.ref q1, .ref er, .ref q2, .ref q3, .ref q4, .ref h0, .int (nI mm), .int 1], wI (cy 1) q2 24 (fph2_10), wI (cy 1) q1 5 (fy2_11), wO h0 4 [.ref h1, .ref h2, .ref h3, .ref h4, .ref h5, .ref h6, .ref h7, .ref h8, .ref h9, .ref h10, .ref h11, .int ys, hv1, hv2, hv3, hv4], wI (cy 1) h7 48 (fx), wI (cy 1) h1 4 (fc), (er, .inl (cy 4, 4, .inr (.inr (.inr (.inr (eF (ea 0) (ea 1) (ea 2) (ea 3))))))), wO (ea 0) 2 [.ref (eg 0), .ref (ef 0), .int t0_5, .int (nI l0_5), .int (nI i0_5)], wI (cy 1) (eg 0) 10 (fa17_5), wI (cy 1) (ef 0) 7 (fa21_5), wO (ea 1) 2 [.ref (eg 1), .ref (ef 1), .int t1_5, .int (nI l1_5), .int (nI i1_5)], wI (cy 1) (eg 1) 10 (fa18_5), wI (cy 1) (ef 1) 7 (fa22_5), wO (ea 2) 2 [.ref (eg 2), .ref (ef 2), .int t2_5, .int (nI l2_5), .int (nI i2_5)], wI (cy 1) (eg 2) 10 (fa19_5), wI (cy 1) (ef 2) 7 (fa23_5), wO (ea 3) 2 [.ref (eg 3), .ref (ef 3), .int t3_5, .int (nI l3_5), .int (nI i3_5)], wI (cy 1) (eg 3) 10 (fa20_5), wI (cy 1) (ef 3) 7 (fa24_5)] := hD
        exact x_iret hQ hx hb hr hlocks hK hP hD hS dX1_pardonsOf_66 (fph2_10, fy2_11, (fun k => [t0_5, t1_5, t2_5, t3_5].getD k 0), (fun k => [l0_5, l1_5, l2_5, l3_5].getD k 0), (fun k => [i0_5, i1_5, i2_5, i3_5].getD k 0), (fun k => [fa17_5, fa18_5, fa19_5, fa20_5].getD k (fun _ => 0)), (fun k => [fa21_5, fa22_5, fa23_5, fa24_5].getD k (fun _ => 0)), fa14_5, fa15_5, fa16_5, kc_12) (⟨rfl, f_14, (f_16 (by decide)).imp (fun h9 => h9.elim (fun e9 h8 => h8.elim (fun g9 h7 => ⟨e9, g9, po_1 h7.1 (pd_ec (get4P (P := fun c9 => eaO (vlC tb fcb nb 3) (vlC tl fcl nl 0) (vlC tt fct nt 0) flo (farC spl (fp c9)) swi (fsn c9) svo sch c0 mm ((fun k => [t0_5, t1_5, t2_5, t3_5].getD k 0) c9) ((fun k => [i0_5, i1_5, i2_5, i3_5].getD k 0) c9) ((fun k => [fa17_5, fa18_5, fa19_5, fa20_5].getD k (fun _ => 0)) c9)) (fun h9 => hf1_5 (by omega)) (fun h9 => hf2_5 (by omega)) (fun h9 => hf3_5 (by omega)) (fun h9 => hf4_5 (by omega)) (by omega))) pdE_ex, h7.2⟩))) (fun h9 => h9.elim (fun e9 h8 => ⟨e9, po_1 h8 (pd_ec (get4P (P := fun c9 => eaO (vlC tb fcb nb 3) (vlC tl fcl nl 0) (vlC tt fct nt 0) flo (farC spl (fp c9)) swi (fsn c9) svo sch c0 mm ((fun k => [t0_5, t1_5, t2_5, t3_5].getD k 0) c9) ((fun k => [i0_5, i1_5, i2_5, i3_5].getD k 0) c9) ((fun k => [fa17_5, fa18_5, fa19_5, fa20_5].getD k (fun _ => 0)) c9)) (fun h9 => hf1_5 (by omega)) (fun h9 => hf2_5 (by omega)) (fun h9 => hf3_5 (by omega)) (fun h9 => hf4_5 (by omega)) (by omega))) pdE_ex⟩)), get4 (by omega) (by omega) (by omega) (by omega)⟩) [13, 14, 15, 16, 18, 0, 1, 17, 2, 3, 4, 5, 6, 7, 8, 9, 10, 19, 20, 21, 22, 23, 24, 25, 26, 27, 28, 29, 30, 31, 11, 12] (by decide +kernel) rfl (Nat.le_of_ble_eq_true rfl) (Nat.le_of_ble_eq_true rfl)
      · have q_8 : i5 < c1 := q_nle (a := c1) (b := i5) rfl rfl (by omega) (by omega) c_7
        refine lv_aload_n hx hb dX1_pardonsOf_30 rfl (lv_at hl 1 rfl) ?_
        refine va_get (D := D) (ci := 1) (v := .ref er) (C := RX1) (T := TX1) (N := 8) hx hb hg i_X1 hown hK hP 0 rfl rfl 1 (by decide) (hg _ m_554) (fun _ h9 => h9) rfl dX1_pardonsOf_31 ?_
        refine lv_iload hx hb dX1_pardonsOf_34 (lv_at hl 0 rfl) ?_
        rcases (show i5 = 0 ∨ i5 = 1 ∨ i5 = 2 ∨ i5 = 3 by omega) with hsp | hsp | hsp | hsp
        · subst hsp
          refine va_aldq hx hb hK hP 17 4 rfl rfl (by unfold vp_in; decide) dX1_pardonsOf_36 ?_
          refine W.eq (g2 := F0 m 37 ls [.ref (ea 0)]) rfl ?_
          refine lv_aload_n hx hb dX1_pardonsOf_37 rfl (lv_at hl 2 rfl) ?_
          refine lv_aload_n hx hb dX1_pardonsOf_38 rfl (lv_at hl 3 rfl) ?_
          refine lv_iload hx hb dX1_pardonsOf_39 (lv_at hl 0 rfl) ?_
          refine lv_iload_n hx hb dX1_pardonsOf_41 rfl (lv_at hl 4 rfl) ?_
          refine x_callVv (q := (RX2, TX2, 5)) (ci := 2) (q0 := 0) (wr := [wO q0 1 [.ref q1, .ref er, .ref q2, .ref q3, .ref q4, .ref h0, .int (nI mm), .int 1], wI (cy 1) q2 24 (fa13_5), wI (cy 1) q1 5 (fy), wI (cy 1) h7 48 (fx), (er, .inl (cy 4, 4, .inr (.inr (.inr (.inr (eF (ea 0) (ea 1) (ea 2) (ea 3))))))), wO (ea 1) 2 [.ref (eg 1), .ref (ef 1), .int t1_5, .int (nI l1_5), .int (nI i1_5)], wI (cy 1) (eg 1) 10 (fa18_5), wI (cy 1) (ef 1) 7 (fa22_5), wO (ea 2) 2 [.ref (eg 2), .ref (ef 2), .int t2_5, .int (nI l2_5), .int (nI i2_5)], wI (cy 1) (eg 2) 10 (fa19_5), wI (cy 1) (ef 2) 7 (fa23_5), wO (ea 3) 2 [.ref (eg 3), .ref (ef 3), .int t3_5, .int (nI l3_5), .int (nI i3_5)], wI (cy 1) (eg 3) 10 (fa20_5), wI (cy 1) (ef 3) 7 (fa24_5)]) (rest := []) ⟨hx, hb, hml, hown, hg, hl.1⟩ k_X1_48 (s_tuneToAll l D cy (ea 0) (eg 0) (ef 0) t0_5 (nI l0_5) (nI i0_5) fa17_5 fa21_5 h0 h1 h2 h3 h4 h5 h6 h7 h8 h9 h10 h11 ((.int ys)) hv1 hv2 hv3 hv4 fp flo h9a h9b nb tb fcb fa14_5 h11a h11b nt tt fct fa15_5 h10a h10b nl tl fcl fa16_5 fc c0 c1 c2 c3 s0 s1 s2 sl spl svo swi sch fsn 0 mm (by omega) (hcb) (by omega) (by omega) (hct) (by omega) (by omega) (hcl) (by omega) (hcn) (by omega) (by omega) (by omega) (by omega) (by omega) (by omega)) E0_blind hK hP hD hS hA [18, 19, 20, 3, 5, 6, 8, 9, 10, 11, 12, 13, 14, 15, 16, 4, 30, 31] [0, 1, 2, 7, 17, 21, 22, 23, 24, 25, 26, 27, 28, 29] ⟨rfl, rfl, by decide +kernel, by decide +kernel, by decide +kernel⟩ rfl rfl (fun _ _ _ => trivial) dX1_pardonsOf_42 rfl rfl (Nat.le_of_ble_eq_true rfl) ⟨Nat.le_of_ble_eq_true rfl, Nat.le_of_ble_eq_true rfl⟩ ⟨Nat.le_of_ble_eq_true rfl, Nat.le_of_ble_eq_true rfl⟩ (fun zu19 H locs hw19 hP9 hD9 hS9 => ?_)
          clear hP hD hS
          obtain ⟨k_20, tu_21, fg2_22, ff2_23, fsb2_24, fst2_25, fsl2_26⟩ := zu19
          refine reW [wO q0 1 [.ref q1, .ref er, .ref q2, .ref q3, .ref q4, .ref h0, .int (nI mm), .int 1], wI (cy 1) q2 24 (fa13_5), wI (cy 1) q1 5 (fy), wI (cy 1) h7 48 (fx), (er, .inl (cy 4, 4, .inr (.inr (.inr (.inr (eF (ea 0) (ea 1) (ea 2) (ea 3))))))), wO (ea 1) 2 [.ref (eg 1), .ref (ef 1), .int t1_5, .int (nI l1_5), .int (nI i1_5)], wI (cy 1) (eg 1) 10 (fa18_5), wI (cy 1) (ef 1) 7 (fa22_5), wO (ea 2) 2 [.ref (eg 2), .ref (ef 2), .int t2_5, .int (nI l2_5), .int (nI i2_5)], wI (cy 1) (eg 2) 10 (fa19_5), wI (cy 1) (ef 2) 7 (fa23_5), wO (ea 3) 2 [.ref (eg 3), .ref (ef 3), .int t3_5, .int (nI l3_5), .int (nI i3_5)], wI (cy 1) (eg 3) 10 (fa20_5), wI (cy 1) (ef 3) 7 (fa24_5), wO (ea 0) 2 [.ref (eg 0), .ref (ef 0), .int tu_21, .int (nI mm), .int (nI k_20)], wI (cy 1) (eg 0) 10 (fg2_22), wI (cy 1) (ef 0) 7 (ff2_23), wO h0 4 [.ref h1, .ref h2, .ref h3, .ref h4, .ref h5, .ref h6, .ref h7, .ref h8, .ref h9, .ref h10, .ref h11, .int ys, hv1, hv2, hv3, hv4], wI (cy 1) h3 4 (fp), wI (cy 1) h2 8 (flo), wO h9 3 [.ref h9a, .ref h9b, .int (nI nb), .int tb], wI (cy 1) h9a 280 (fcb), wI (cy 1) h9b 31 (fsb2_24), wO h11 3 [.ref h11a, .ref h11b, .int (nI nt), .int tt], wI (cy 1) h11a 280 (fct), wI (cy 1) h11b 31 (fst2_25), wO h10 3 [.ref h10a, .ref h10b, .int (nI nl), .int tl], wI (cy 1) h10a 280 (fcl), wI (cy 1) h10b 31 (fsl2_26), wI (cy 1) h1 4 (fc), wO s0 7 [.ref s1, .ref s2, .int (nI sl), .int spl, .int svo, .int swi, .int sch], wI (cy 1) s2 4 (fsn)] hP9 hD9 hS9 (fun hP hD hS => ?_)
          clear hP9 hD9 hS9
          refine W.widen (k := 0) (n := 0) (Nat.le_of_ble_eq_true rfl) (Nat.le_of_ble_eq_true rfl) ?_
          replace hw19 : (k_20 ≤ mm) ∧ (eaO (vlC tb fcb nb 3) (vlC tl fcl nl 0) (vlC tt fct nt 0) flo (farC spl (fp 0)) swi (fsn 0) svo sch c0 mm tu_21 k_20 fg2_22) := hw19
          obtain ⟨f_27, f_28⟩ := hw19
          refine lv_aload_n hx hb dX1_pardonsOf_45 rfl (lv_at hl 1 rfl) ?_
          refine va_get (D := D) (ci := 1) (v := .ref q2) (C := RX1) (T := TX1) (N := 8) hx hb hg i_X1 hown hK hP 0 rfl rfl 2 (by decide) (hg _ m_555) (fun _ h9 => h9) rfl dX1_pardonsOf_46 ?_
          refine lv_iload hx hb dX1_pardonsOf_49 (lv_at hl 0 rfl) ?_
          refine x_callSi (wr := [wO q0 1 [.ref q1, .ref er, .ref q2, .ref q3, .ref q4, .ref h0, .int (nI mm), .int 1], wI (cy 1) q2 24 (fa13_5), wI (cy 1) q1 5 (fy), wI (cy 1) h7 48 (fx), (er, .inl (cy 4, 4, .inr (.inr (.inr (.inr (eF (ea 0) (ea 1) (ea 2) (ea 3))))))), wO (ea 1) 2 [.ref (eg 1), .ref (ef 1), .int t1_5, .int (nI l1_5), .int (nI i1_5)], wI (cy 1) (eg 1) 10 (fa18_5), wI (cy 1) (ef 1) 7 (fa22_5), wO (ea 2) 2 [.ref (eg 2), .ref (ef 2), .int t2_5, .int (nI l2_5), .int (nI i2_5)], wI (cy 1) (eg 2) 10 (fa19_5), wI (cy 1) (ef 2) 7 (fa23_5), wO (ea 3) 2 [.ref (eg 3), .ref (ef 3), .int t3_5, .int (nI l3_5), .int (nI i3_5)], wI (cy 1) (eg 3) 10 (fa20_5), wI (cy 1) (ef 3) 7 (fa24_5), wO (ea 0) 2 [.ref (eg 0), .ref (ef 0), .int tu_21, .int (nI mm), .int (nI k_20)], wI (cy 1) (eg 0) 10 (fg2_22), wI (cy 1) (ef 0) 7 (ff2_23), wO h0 4 [.ref h1, .ref h2, .ref h3, .ref h4, .ref h5, .ref h6, .ref h7, .ref h8, .ref h9, .ref h10, .ref h11, .int ys, hv1, hv2, hv3, hv4], wI (cy 1) h3 4 (fp), wI (cy 1) h2 8 (flo), wO h9 3 [.ref h9a, .ref h9b, .int (nI nb), .int tb], wI (cy 1) h9a 280 (fcb), wI (cy 1) h9b 31 (fsb2_24), wO h11 3 [.ref h11a, .ref h11b, .int (nI nt), .int tt], wI (cy 1) h11a 280 (fct), wI (cy 1) h11b 31 (fst2_25), wO h10 3 [.ref h10a, .ref h10b, .int (nI nl), .int tl], wI (cy 1) h10a 280 (fcl), wI (cy 1) h10b 31 (fsl2_26), wI (cy 1) h1 4 (fc), wO s0 7 [.ref s1, .ref s2, .int (nI sl), .int spl, .int svo, .int swi, .int sch], wI (cy 1) s2 4 (fsn)]) (rest := [.int 0, .ref q2]) ⟨hx, hb, hml, hown, hg, hl.1⟩ k_X1_54 (s_unmoved l D cy ) E0_blind hK hP hD hS hA [] [0, 1, 2, 3, 4, 5, 6, 7, 8, 9, 10, 11, 12, 13, 14, 15, 16, 17, 18, 19, 20, 21, 22, 23, 24, 25, 26, 27, 28, 29, 30, 31] ⟨rfl, rfl, by decide +kernel, by decide +kernel, by decide +kernel⟩ (fun _ _ _ => trivial) dX1_pardonsOf_51 rfl rfl (Nat.le_of_ble_eq_true rfl) ⟨Nat.le_of_ble_eq_true rfl, Nat.le_of_ble_eq_true rfl⟩ ⟨Nat.le_of_ble_eq_true rfl, Nat.le_of_ble_eq_true rfl⟩ (fun zr29 zu29 H locs hw29 hP9 hD9 hS9 => ?_)
          clear hP hD hS
          refine reW [wO q0 1 [.ref q1, .ref er, .ref q2, .ref q3, .ref q4, .ref h0, .int (nI mm), .int 1], wI (cy 1) q2 24 (fa13_5), wI (cy 1) q1 5 (fy), wI (cy 1) h7 48 (fx), (er, .inl (cy 4, 4, .inr (.inr (.inr (.inr (eF (ea 0) (ea 1) (ea 2) (ea 3))))))), wO (ea 1) 2 [.ref (eg 1), .ref (ef 1), .int t1_5, .int (nI l1_5), .int (nI i1_5)], wI (cy 1) (eg 1) 10 (fa18_5), wI (cy 1) (ef 1) 7 (fa22_5), wO (ea 2) 2 [.ref (eg 2), .ref (ef 2), .int t2_5, .int (nI l2_5), .int (nI i2_5)], wI (cy 1) (eg 2) 10 (fa19_5), wI (cy 1) (ef 2) 7 (fa23_5), wO (ea 3) 2 [.ref (eg 3), .ref (ef 3), .int t3_5, .int (nI l3_5), .int (nI i3_5)], wI (cy 1) (eg 3) 10 (fa20_5), wI (cy 1) (ef 3) 7 (fa24_5), wO (ea 0) 2 [.ref (eg 0), .ref (ef 0), .int tu_21, .int (nI mm), .int (nI k_20)], wI (cy 1) (eg 0) 10 (fg2_22), wI (cy 1) (ef 0) 7 (ff2_23), wO h0 4 [.ref h1, .ref h2, .ref h3, .ref h4, .ref h5, .ref h6, .ref h7, .ref h8, .ref h9, .ref h10, .ref h11, .int ys, hv1, hv2, hv3, hv4], wI (cy 1) h3 4 (fp), wI (cy 1) h2 8 (flo), wO h9 3 [.ref h9a, .ref h9b, .int (nI nb), .int tb], wI (cy 1) h9a 280 (fcb), wI (cy 1) h9b 31 (fsb2_24), wO h11 3 [.ref h11a, .ref h11b, .int (nI nt), .int tt], wI (cy 1) h11a 280 (fct), wI (cy 1) h11b 31 (fst2_25), wO h10 3 [.ref h10a, .ref h10b, .int (nI nl), .int tl], wI (cy 1) h10a 280 (fcl), wI (cy 1) h10b 31 (fsl2_26), wI (cy 1) h1 4 (fc), wO s0 7 [.ref s1, .ref s2, .int (nI sl), .int spl, .int svo, .int swi, .int sch], wI (cy 1) s2 4 (fsn)] hP9 hD9 hS9 (fun hP hD hS => ?_)
          clear hP9 hD9 hS9
          refine W.widen (k := 0) (n := 0) (Nat.le_of_ble_eq_true rfl) (Nat.le_of_ble_eq_true rfl) ?_
          replace hw29 : zr29 = 181896 := hw29
          subst hw29
          refine va_iast hx hb hK hP hD hS 1 1 rfl rfl (by unfold vp_in; decide) dX1_pardonsOf_54 (fun H locs hP9 hD9 hS9 => ?_)
          clear hP hD hS
          have hP := hP9
          have hD := hD9
          have hS := hS9
          clear hP9 hD9 hS9
          obtain ⟨g_30, eg_30⟩ : ∃ y, upd fa13_5 (0 : Int32).toNatClampNeg 181896 = y := ⟨_, rfl⟩
          rw [eg_30] at hP hD
          have hr_31 : pRow g_30 := eg_30 ▸ pRow_put (v := 181896) ha14_5 pOK_un
          replace hP : va_P D vwCl [wO q0 1 [.ref q1, .ref er, .ref q2, .ref q3, .ref q4, .ref h0, .int (nI mm), .int 1], wI (cy 1) q2 24 (g_30), wI (cy 1) q1 5 (fy), wI (cy 1) h7 48 (fx), (er, .inl (cy 4, 4, .inr (.inr (.inr (.inr (eF (ea 0) (ea 1) (ea 2) (ea 3))))))), wO (ea 1) 2 [.ref (eg 1), .ref (ef 1), .int t1_5, .int (nI l1_5), .int (nI i1_5)], wI (cy 1) (eg 1) 10 (fa18_5), wI (cy 1) (ef 1) 7 (fa22_5), wO (ea 2) 2 [.ref (eg 2), .ref (ef 2), .int t2_5, .int (nI l2_5), .int (nI i2_5)], wI (cy 1) (eg 2) 10 (fa19_5), wI (cy 1) (ef 2) 7 (fa23_5), wO (ea 3) 2 [.ref (eg 3), .ref (ef 3), .int t3_5, .int (nI l3_5), .int (nI i3_5)], wI (cy 1) (eg 3) 10 (fa20_5), wI (cy 1) (ef 3) 7 (fa24_5), wO (ea 0) 2 [.ref (eg 0), .ref (ef 0), .int tu_21, .int (nI mm), .int (nI k_20)], wI (cy 1) (eg 0) 10 (fg2_22), wI (cy 1) (ef 0) 7 (ff2_23), wO h0 4 [.ref h1, .ref h2, .ref h3, .ref h4, .ref h5, .ref h6, .ref h7, .ref h8, .ref h9, .ref h10, .ref h11, .int ys, hv1, hv2, hv3, hv4], wI (cy 1) h3 4 (fp), wI (cy 1) h2 8 (flo), wO h9 3 [.ref h9a, .ref h9b, .int (nI nb), .int tb], wI (cy 1) h9a 280 (fcb), wI (cy 1) h9b 31 (fsb2_24), wO h11 3 [.ref h11a, .ref h11b, .int (nI nt), .int tt], wI (cy 1) h11a 280 (fct), wI (cy 1) h11b 31 (fst2_25), wO h10 3 [.ref h10a, .ref h10b, .int (nI nl), .int tl], wI (cy 1) h10a 280 (fcl), wI (cy 1) h10b 31 (fsl2_26), wI (cy 1) h1 4 (fc), wO s0 7 [.ref s1, .ref s2, .int (nI sl), .int spl, .int svo, .int swi, .int sch], wI (cy 1) s2 4 (fsn)] H := hP
          replace hD : va_D A [wO q0 1 [.ref q1, .ref er, .ref q2, .ref q3, .ref q4, .ref h0, .int (nI mm), .int 1], wI (cy 1) q2 24 (g_30), wI (cy 1) q1 5 (fy), wI (cy 1) h7 48 (fx), (er, .inl (cy 4, 4, .inr (.inr (.inr (.inr (eF (ea 0) (ea 1) (ea 2) (ea 3))))))), wO (ea 1) 2 [.ref (eg 1), .ref (ef 1), .int t1_5, .int (nI l1_5), .int (nI i1_5)], wI (cy 1) (eg 1) 10 (fa18_5), wI (cy 1) (ef 1) 7 (fa22_5), wO (ea 2) 2 [.ref (eg 2), .ref (ef 2), .int t2_5, .int (nI l2_5), .int (nI i2_5)], wI (cy 1) (eg 2) 10 (fa19_5), wI (cy 1) (ef 2) 7 (fa23_5), wO (ea 3) 2 [.ref (eg 3), .ref (ef 3), .int t3_5, .int (nI l3_5), .int (nI i3_5)], wI (cy 1) (eg 3) 10 (fa20_5), wI (cy 1) (ef 3) 7 (fa24_5), wO (ea 0) 2 [.ref (eg 0), .ref (ef 0), .int tu_21, .int (nI mm), .int (nI k_20)], wI (cy 1) (eg 0) 10 (fg2_22), wI (cy 1) (ef 0) 7 (ff2_23), wO h0 4 [.ref h1, .ref h2, .ref h3, .ref h4, .ref h5, .ref h6, .ref h7, .ref h8, .ref h9, .ref h10, .ref h11, .int ys, hv1, hv2, hv3, hv4], wI (cy 1) h3 4 (fp), wI (cy 1) h2 8 (flo), wO h9 3 [.ref h9a, .ref h9b, .int (nI nb), .int tb], wI (cy 1) h9a 280 (fcb), wI (cy 1) h9b 31 (fsb2_24), wO h11 3 [.ref h11a, .ref h11b, .int (nI nt), .int tt], wI (cy 1) h11a 280 (fct), wI (cy 1) h11b 31 (fst2_25), wO h10 3 [.ref h10a, .ref h10b, .int (nI nl), .int tl], wI (cy 1) h10a 280 (fcl), wI (cy 1) h10b 31 (fsl2_26), wI (cy 1) h1 4 (fc), wO s0 7 [.ref s1, .ref s2, .int (nI sl), .int spl, .int svo, .int swi, .int sch], wI (cy 1) s2 4 (fsn)] := hD
          refine lv_iinc (v := 1) (lv' := [(5, .int 1), (0, .ref q0), (1, .ref h0), (2, .ref s0), (3, .int (nI mm)), (4, .int 1)]) hx hb dX1_pardonsOf_55 hl (k := 0) rfl (by decide) (by decide) rfl (fun ls hl => ?_)
          refine lv_goto (tgt := 19) hx hb dX1_pardonsOf_58 (by decide) ?_
          exact ih5  1 tu_21 mm k_20 t1_5 l1_5 i1_5 t2_5 l2_5 i2_5 t3_5 l3_5 i3_5 g_30 fsb2_24 fst2_25 fsl2_26 fg2_22 fa18_5 fa19_5 fa20_5 ff2_23 fa22_5 fa23_5 fa24_5 hr_31 (by omega) (fun _ => f_28) (fun h9 => absurd h9 (by omega)) (fun h9 => absurd h9 (by omega)) (fun h9 => absurd h9 (by omega)) (po_put (i := 0) hf5_5 eg_30 (by decide)) (by omega) (by omega) (by omega) (by omega) (by omega) _ _ (hP.sub [0, 1, 2, 17, 29, 18, 19, 3, 20, 21, 22, 23, 24, 25, 26, 27, 28, 4, 14, 15, 16, 5, 6, 7, 8, 9, 10, 11, 12, 13, 30, 31] rfl) (hD.sub [0, 1, 2, 17, 29, 18, 19, 3, 20, 21, 22, 23, 24, 25, 26, 27, 28, 4, 14, 15, 16, 5, 6, 7, 8, 9, 10, 11, 12, 13, 30, 31] (by decide +kernel) rfl) hS ls (lv_sub hl [0, 1, 2, 3, 4, 5] rfl)
        · subst hsp
          refine va_aldq hx hb hK hP 17 4 rfl rfl (by unfold vp_in; decide) dX1_pardonsOf_36 ?_
          refine W.eq (g2 := F0 m 37 ls [.ref (ea 1)]) rfl ?_
          refine lv_aload_n hx hb dX1_pardonsOf_37 rfl (lv_at hl 2 rfl) ?_
          refine lv_aload_n hx hb dX1_pardonsOf_38 rfl (lv_at hl 3 rfl) ?_
          refine lv_iload hx hb dX1_pardonsOf_39 (lv_at hl 0 rfl) ?_
          refine lv_iload_n hx hb dX1_pardonsOf_41 rfl (lv_at hl 4 rfl) ?_
          refine x_callVv (q := (RX2, TX2, 5)) (ci := 2) (q0 := 0) (wr := [wO q0 1 [.ref q1, .ref er, .ref q2, .ref q3, .ref q4, .ref h0, .int (nI mm), .int 1], wI (cy 1) q2 24 (fa13_5), wI (cy 1) q1 5 (fy), wI (cy 1) h7 48 (fx), (er, .inl (cy 4, 4, .inr (.inr (.inr (.inr (eF (ea 0) (ea 1) (ea 2) (ea 3))))))), wO (ea 0) 2 [.ref (eg 0), .ref (ef 0), .int t0_5, .int (nI l0_5), .int (nI i0_5)], wI (cy 1) (eg 0) 10 (fa17_5), wI (cy 1) (ef 0) 7 (fa21_5), wO (ea 2) 2 [.ref (eg 2), .ref (ef 2), .int t2_5, .int (nI l2_5), .int (nI i2_5)], wI (cy 1) (eg 2) 10 (fa19_5), wI (cy 1) (ef 2) 7 (fa23_5), wO (ea 3) 2 [.ref (eg 3), .ref (ef 3), .int t3_5, .int (nI l3_5), .int (nI i3_5)], wI (cy 1) (eg 3) 10 (fa20_5), wI (cy 1) (ef 3) 7 (fa24_5)]) (rest := []) ⟨hx, hb, hml, hown, hg, hl.1⟩ k_X1_48 (s_tuneToAll l D cy (ea 1) (eg 1) (ef 1) t1_5 (nI l1_5) (nI i1_5) fa18_5 fa22_5 h0 h1 h2 h3 h4 h5 h6 h7 h8 h9 h10 h11 ((.int ys)) hv1 hv2 hv3 hv4 fp flo h9a h9b nb tb fcb fa14_5 h11a h11b nt tt fct fa15_5 h10a h10b nl tl fcl fa16_5 fc c0 c1 c2 c3 s0 s1 s2 sl spl svo swi sch fsn 1 mm (by omega) (hcb) (by omega) (by omega) (hct) (by omega) (by omega) (hcl) (by omega) (hcn) (by omega) (by omega) (by omega) (by omega) (by omega) (by omega)) E0_blind hK hP hD hS hA [21, 22, 23, 3, 5, 6, 8, 9, 10, 11, 12, 13, 14, 15, 16, 4, 30, 31] [0, 1, 2, 7, 17, 18, 19, 20, 24, 25, 26, 27, 28, 29] ⟨rfl, rfl, by decide +kernel, by decide +kernel, by decide +kernel⟩ rfl rfl (fun _ _ _ => trivial) dX1_pardonsOf_42 rfl rfl (Nat.le_of_ble_eq_true rfl) ⟨Nat.le_of_ble_eq_true rfl, Nat.le_of_ble_eq_true rfl⟩ ⟨Nat.le_of_ble_eq_true rfl, Nat.le_of_ble_eq_true rfl⟩ (fun zu32 H locs hw32 hP9 hD9 hS9 => ?_)
          clear hP hD hS
          obtain ⟨k_33, tu_34, fg2_35, ff2_36, fsb2_37, fst2_38, fsl2_39⟩ := zu32
          refine reW [wO q0 1 [.ref q1, .ref er, .ref q2, .ref q3, .ref q4, .ref h0, .int (nI mm), .int 1], wI (cy 1) q2 24 (fa13_5), wI (cy 1) q1 5 (fy), wI (cy 1) h7 48 (fx), (er, .inl (cy 4, 4, .inr (.inr (.inr (.inr (eF (ea 0) (ea 1) (ea 2) (ea 3))))))), wO (ea 0) 2 [.ref (eg 0), .ref (ef 0), .int t0_5, .int (nI l0_5), .int (nI i0_5)], wI (cy 1) (eg 0) 10 (fa17_5), wI (cy 1) (ef 0) 7 (fa21_5), wO (ea 2) 2 [.ref (eg 2), .ref (ef 2), .int t2_5, .int (nI l2_5), .int (nI i2_5)], wI (cy 1) (eg 2) 10 (fa19_5), wI (cy 1) (ef 2) 7 (fa23_5), wO (ea 3) 2 [.ref (eg 3), .ref (ef 3), .int t3_5, .int (nI l3_5), .int (nI i3_5)], wI (cy 1) (eg 3) 10 (fa20_5), wI (cy 1) (ef 3) 7 (fa24_5), wO (ea 1) 2 [.ref (eg 1), .ref (ef 1), .int tu_34, .int (nI mm), .int (nI k_33)], wI (cy 1) (eg 1) 10 (fg2_35), wI (cy 1) (ef 1) 7 (ff2_36), wO h0 4 [.ref h1, .ref h2, .ref h3, .ref h4, .ref h5, .ref h6, .ref h7, .ref h8, .ref h9, .ref h10, .ref h11, .int ys, hv1, hv2, hv3, hv4], wI (cy 1) h3 4 (fp), wI (cy 1) h2 8 (flo), wO h9 3 [.ref h9a, .ref h9b, .int (nI nb), .int tb], wI (cy 1) h9a 280 (fcb), wI (cy 1) h9b 31 (fsb2_37), wO h11 3 [.ref h11a, .ref h11b, .int (nI nt), .int tt], wI (cy 1) h11a 280 (fct), wI (cy 1) h11b 31 (fst2_38), wO h10 3 [.ref h10a, .ref h10b, .int (nI nl), .int tl], wI (cy 1) h10a 280 (fcl), wI (cy 1) h10b 31 (fsl2_39), wI (cy 1) h1 4 (fc), wO s0 7 [.ref s1, .ref s2, .int (nI sl), .int spl, .int svo, .int swi, .int sch], wI (cy 1) s2 4 (fsn)] hP9 hD9 hS9 (fun hP hD hS => ?_)
          clear hP9 hD9 hS9
          refine W.widen (k := 0) (n := 0) (Nat.le_of_ble_eq_true rfl) (Nat.le_of_ble_eq_true rfl) ?_
          replace hw32 : (k_33 ≤ mm) ∧ (eaO (vlC tb fcb nb 3) (vlC tl fcl nl 0) (vlC tt fct nt 0) flo (farC spl (fp 1)) swi (fsn 1) svo sch c0 mm tu_34 k_33 fg2_35) := hw32
          obtain ⟨f_40, f_41⟩ := hw32
          refine lv_aload_n hx hb dX1_pardonsOf_45 rfl (lv_at hl 1 rfl) ?_
          refine va_get (D := D) (ci := 1) (v := .ref q2) (C := RX1) (T := TX1) (N := 8) hx hb hg i_X1 hown hK hP 0 rfl rfl 2 (by decide) (hg _ m_555) (fun _ h9 => h9) rfl dX1_pardonsOf_46 ?_
          refine lv_iload hx hb dX1_pardonsOf_49 (lv_at hl 0 rfl) ?_
          refine x_callSi (wr := [wO q0 1 [.ref q1, .ref er, .ref q2, .ref q3, .ref q4, .ref h0, .int (nI mm), .int 1], wI (cy 1) q2 24 (fa13_5), wI (cy 1) q1 5 (fy), wI (cy 1) h7 48 (fx), (er, .inl (cy 4, 4, .inr (.inr (.inr (.inr (eF (ea 0) (ea 1) (ea 2) (ea 3))))))), wO (ea 0) 2 [.ref (eg 0), .ref (ef 0), .int t0_5, .int (nI l0_5), .int (nI i0_5)], wI (cy 1) (eg 0) 10 (fa17_5), wI (cy 1) (ef 0) 7 (fa21_5), wO (ea 2) 2 [.ref (eg 2), .ref (ef 2), .int t2_5, .int (nI l2_5), .int (nI i2_5)], wI (cy 1) (eg 2) 10 (fa19_5), wI (cy 1) (ef 2) 7 (fa23_5), wO (ea 3) 2 [.ref (eg 3), .ref (ef 3), .int t3_5, .int (nI l3_5), .int (nI i3_5)], wI (cy 1) (eg 3) 10 (fa20_5), wI (cy 1) (ef 3) 7 (fa24_5), wO (ea 1) 2 [.ref (eg 1), .ref (ef 1), .int tu_34, .int (nI mm), .int (nI k_33)], wI (cy 1) (eg 1) 10 (fg2_35), wI (cy 1) (ef 1) 7 (ff2_36), wO h0 4 [.ref h1, .ref h2, .ref h3, .ref h4, .ref h5, .ref h6, .ref h7, .ref h8, .ref h9, .ref h10, .ref h11, .int ys, hv1, hv2, hv3, hv4], wI (cy 1) h3 4 (fp), wI (cy 1) h2 8 (flo), wO h9 3 [.ref h9a, .ref h9b, .int (nI nb), .int tb], wI (cy 1) h9a 280 (fcb), wI (cy 1) h9b 31 (fsb2_37), wO h11 3 [.ref h11a, .ref h11b, .int (nI nt), .int tt], wI (cy 1) h11a 280 (fct), wI (cy 1) h11b 31 (fst2_38), wO h10 3 [.ref h10a, .ref h10b, .int (nI nl), .int tl], wI (cy 1) h10a 280 (fcl), wI (cy 1) h10b 31 (fsl2_39), wI (cy 1) h1 4 (fc), wO s0 7 [.ref s1, .ref s2, .int (nI sl), .int spl, .int svo, .int swi, .int sch], wI (cy 1) s2 4 (fsn)]) (rest := [.int 1, .ref q2]) ⟨hx, hb, hml, hown, hg, hl.1⟩ k_X1_54 (s_unmoved l D cy ) E0_blind hK hP hD hS hA [] [0, 1, 2, 3, 4, 5, 6, 7, 8, 9, 10, 11, 12, 13, 14, 15, 16, 17, 18, 19, 20, 21, 22, 23, 24, 25, 26, 27, 28, 29, 30, 31] ⟨rfl, rfl, by decide +kernel, by decide +kernel, by decide +kernel⟩ (fun _ _ _ => trivial) dX1_pardonsOf_51 rfl rfl (Nat.le_of_ble_eq_true rfl) ⟨Nat.le_of_ble_eq_true rfl, Nat.le_of_ble_eq_true rfl⟩ ⟨Nat.le_of_ble_eq_true rfl, Nat.le_of_ble_eq_true rfl⟩ (fun zr42 zu42 H locs hw42 hP9 hD9 hS9 => ?_)
          clear hP hD hS
          refine reW [wO q0 1 [.ref q1, .ref er, .ref q2, .ref q3, .ref q4, .ref h0, .int (nI mm), .int 1], wI (cy 1) q2 24 (fa13_5), wI (cy 1) q1 5 (fy), wI (cy 1) h7 48 (fx), (er, .inl (cy 4, 4, .inr (.inr (.inr (.inr (eF (ea 0) (ea 1) (ea 2) (ea 3))))))), wO (ea 0) 2 [.ref (eg 0), .ref (ef 0), .int t0_5, .int (nI l0_5), .int (nI i0_5)], wI (cy 1) (eg 0) 10 (fa17_5), wI (cy 1) (ef 0) 7 (fa21_5), wO (ea 2) 2 [.ref (eg 2), .ref (ef 2), .int t2_5, .int (nI l2_5), .int (nI i2_5)], wI (cy 1) (eg 2) 10 (fa19_5), wI (cy 1) (ef 2) 7 (fa23_5), wO (ea 3) 2 [.ref (eg 3), .ref (ef 3), .int t3_5, .int (nI l3_5), .int (nI i3_5)], wI (cy 1) (eg 3) 10 (fa20_5), wI (cy 1) (ef 3) 7 (fa24_5), wO (ea 1) 2 [.ref (eg 1), .ref (ef 1), .int tu_34, .int (nI mm), .int (nI k_33)], wI (cy 1) (eg 1) 10 (fg2_35), wI (cy 1) (ef 1) 7 (ff2_36), wO h0 4 [.ref h1, .ref h2, .ref h3, .ref h4, .ref h5, .ref h6, .ref h7, .ref h8, .ref h9, .ref h10, .ref h11, .int ys, hv1, hv2, hv3, hv4], wI (cy 1) h3 4 (fp), wI (cy 1) h2 8 (flo), wO h9 3 [.ref h9a, .ref h9b, .int (nI nb), .int tb], wI (cy 1) h9a 280 (fcb), wI (cy 1) h9b 31 (fsb2_37), wO h11 3 [.ref h11a, .ref h11b, .int (nI nt), .int tt], wI (cy 1) h11a 280 (fct), wI (cy 1) h11b 31 (fst2_38), wO h10 3 [.ref h10a, .ref h10b, .int (nI nl), .int tl], wI (cy 1) h10a 280 (fcl), wI (cy 1) h10b 31 (fsl2_39), wI (cy 1) h1 4 (fc), wO s0 7 [.ref s1, .ref s2, .int (nI sl), .int spl, .int svo, .int swi, .int sch], wI (cy 1) s2 4 (fsn)] hP9 hD9 hS9 (fun hP hD hS => ?_)
          clear hP9 hD9 hS9
          refine W.widen (k := 0) (n := 0) (Nat.le_of_ble_eq_true rfl) (Nat.le_of_ble_eq_true rfl) ?_
          replace hw42 : zr42 = 181896 := hw42
          subst hw42
          refine va_iast hx hb hK hP hD hS 1 1 rfl rfl (by unfold vp_in; decide) dX1_pardonsOf_54 (fun H locs hP9 hD9 hS9 => ?_)
          clear hP hD hS
          have hP := hP9
          have hD := hD9
          have hS := hS9
          clear hP9 hD9 hS9
          obtain ⟨g_43, eg_43⟩ : ∃ y, upd fa13_5 (1 : Int32).toNatClampNeg 181896 = y := ⟨_, rfl⟩
          rw [eg_43] at hP hD
          have hr_44 : pRow g_43 := eg_43 ▸ pRow_put (v := 181896) ha14_5 pOK_un
          replace hP : va_P D vwCl [wO q0 1 [.ref q1, .ref er, .ref q2, .ref q3, .ref q4, .ref h0, .int (nI mm), .int 1], wI (cy 1) q2 24 (g_43), wI (cy 1) q1 5 (fy), wI (cy 1) h7 48 (fx), (er, .inl (cy 4, 4, .inr (.inr (.inr (.inr (eF (ea 0) (ea 1) (ea 2) (ea 3))))))), wO (ea 0) 2 [.ref (eg 0), .ref (ef 0), .int t0_5, .int (nI l0_5), .int (nI i0_5)], wI (cy 1) (eg 0) 10 (fa17_5), wI (cy 1) (ef 0) 7 (fa21_5), wO (ea 2) 2 [.ref (eg 2), .ref (ef 2), .int t2_5, .int (nI l2_5), .int (nI i2_5)], wI (cy 1) (eg 2) 10 (fa19_5), wI (cy 1) (ef 2) 7 (fa23_5), wO (ea 3) 2 [.ref (eg 3), .ref (ef 3), .int t3_5, .int (nI l3_5), .int (nI i3_5)], wI (cy 1) (eg 3) 10 (fa20_5), wI (cy 1) (ef 3) 7 (fa24_5), wO (ea 1) 2 [.ref (eg 1), .ref (ef 1), .int tu_34, .int (nI mm), .int (nI k_33)], wI (cy 1) (eg 1) 10 (fg2_35), wI (cy 1) (ef 1) 7 (ff2_36), wO h0 4 [.ref h1, .ref h2, .ref h3, .ref h4, .ref h5, .ref h6, .ref h7, .ref h8, .ref h9, .ref h10, .ref h11, .int ys, hv1, hv2, hv3, hv4], wI (cy 1) h3 4 (fp), wI (cy 1) h2 8 (flo), wO h9 3 [.ref h9a, .ref h9b, .int (nI nb), .int tb], wI (cy 1) h9a 280 (fcb), wI (cy 1) h9b 31 (fsb2_37), wO h11 3 [.ref h11a, .ref h11b, .int (nI nt), .int tt], wI (cy 1) h11a 280 (fct), wI (cy 1) h11b 31 (fst2_38), wO h10 3 [.ref h10a, .ref h10b, .int (nI nl), .int tl], wI (cy 1) h10a 280 (fcl), wI (cy 1) h10b 31 (fsl2_39), wI (cy 1) h1 4 (fc), wO s0 7 [.ref s1, .ref s2, .int (nI sl), .int spl, .int svo, .int swi, .int sch], wI (cy 1) s2 4 (fsn)] H := hP
          replace hD : va_D A [wO q0 1 [.ref q1, .ref er, .ref q2, .ref q3, .ref q4, .ref h0, .int (nI mm), .int 1], wI (cy 1) q2 24 (g_43), wI (cy 1) q1 5 (fy), wI (cy 1) h7 48 (fx), (er, .inl (cy 4, 4, .inr (.inr (.inr (.inr (eF (ea 0) (ea 1) (ea 2) (ea 3))))))), wO (ea 0) 2 [.ref (eg 0), .ref (ef 0), .int t0_5, .int (nI l0_5), .int (nI i0_5)], wI (cy 1) (eg 0) 10 (fa17_5), wI (cy 1) (ef 0) 7 (fa21_5), wO (ea 2) 2 [.ref (eg 2), .ref (ef 2), .int t2_5, .int (nI l2_5), .int (nI i2_5)], wI (cy 1) (eg 2) 10 (fa19_5), wI (cy 1) (ef 2) 7 (fa23_5), wO (ea 3) 2 [.ref (eg 3), .ref (ef 3), .int t3_5, .int (nI l3_5), .int (nI i3_5)], wI (cy 1) (eg 3) 10 (fa20_5), wI (cy 1) (ef 3) 7 (fa24_5), wO (ea 1) 2 [.ref (eg 1), .ref (ef 1), .int tu_34, .int (nI mm), .int (nI k_33)], wI (cy 1) (eg 1) 10 (fg2_35), wI (cy 1) (ef 1) 7 (ff2_36), wO h0 4 [.ref h1, .ref h2, .ref h3, .ref h4, .ref h5, .ref h6, .ref h7, .ref h8, .ref h9, .ref h10, .ref h11, .int ys, hv1, hv2, hv3, hv4], wI (cy 1) h3 4 (fp), wI (cy 1) h2 8 (flo), wO h9 3 [.ref h9a, .ref h9b, .int (nI nb), .int tb], wI (cy 1) h9a 280 (fcb), wI (cy 1) h9b 31 (fsb2_37), wO h11 3 [.ref h11a, .ref h11b, .int (nI nt), .int tt], wI (cy 1) h11a 280 (fct), wI (cy 1) h11b 31 (fst2_38), wO h10 3 [.ref h10a, .ref h10b, .int (nI nl), .int tl], wI (cy 1) h10a 280 (fcl), wI (cy 1) h10b 31 (fsl2_39), wI (cy 1) h1 4 (fc), wO s0 7 [.ref s1, .ref s2, .int (nI sl), .int spl, .int svo, .int swi, .int sch], wI (cy 1) s2 4 (fsn)] := hD
          refine lv_iinc (v := 2) (lv' := [(5, .int 2), (0, .ref q0), (1, .ref h0), (2, .ref s0), (3, .int (nI mm)), (4, .int 1)]) hx hb dX1_pardonsOf_55 hl (k := 0) rfl (by decide) (by decide) rfl (fun ls hl => ?_)
          refine lv_goto (tgt := 19) hx hb dX1_pardonsOf_58 (by decide) ?_
          exact ih5  2 t0_5 l0_5 i0_5 tu_34 mm k_33 t2_5 l2_5 i2_5 t3_5 l3_5 i3_5 g_43 fsb2_37 fst2_38 fsl2_39 fa17_5 fg2_35 fa19_5 fa20_5 fa21_5 ff2_36 fa23_5 fa24_5 hr_44 (by omega) (fun _ => hf1_5 (by omega)) (fun _ => f_41) (fun h9 => absurd h9 (by omega)) (fun h9 => absurd h9 (by omega)) (po_put (i := 1) hf5_5 eg_43 (by decide)) (by omega) (by omega) (by omega) (by omega) (by omega) _ _ (hP.sub [0, 1, 2, 17, 29, 18, 19, 3, 20, 21, 22, 23, 24, 25, 26, 27, 28, 4, 5, 6, 7, 14, 15, 16, 8, 9, 10, 11, 12, 13, 30, 31] rfl) (hD.sub [0, 1, 2, 17, 29, 18, 19, 3, 20, 21, 22, 23, 24, 25, 26, 27, 28, 4, 5, 6, 7, 14, 15, 16, 8, 9, 10, 11, 12, 13, 30, 31] (by decide +kernel) rfl) hS ls (lv_sub hl [0, 1, 2, 3, 4, 5] rfl)
        · subst hsp
          refine va_aldq hx hb hK hP 17 4 rfl rfl (by unfold vp_in; decide) dX1_pardonsOf_36 ?_
          refine W.eq (g2 := F0 m 37 ls [.ref (ea 2)]) rfl ?_
          refine lv_aload_n hx hb dX1_pardonsOf_37 rfl (lv_at hl 2 rfl) ?_
          refine lv_aload_n hx hb dX1_pardonsOf_38 rfl (lv_at hl 3 rfl) ?_
          refine lv_iload hx hb dX1_pardonsOf_39 (lv_at hl 0 rfl) ?_
          refine lv_iload_n hx hb dX1_pardonsOf_41 rfl (lv_at hl 4 rfl) ?_
          refine x_callVv (q := (RX2, TX2, 5)) (ci := 2) (q0 := 0) (wr := [wO q0 1 [.ref q1, .ref er, .ref q2, .ref q3, .ref q4, .ref h0, .int (nI mm), .int 1], wI (cy 1) q2 24 (fa13_5), wI (cy 1) q1 5 (fy), wI (cy 1) h7 48 (fx), (er, .inl (cy 4, 4, .inr (.inr (.inr (.inr (eF (ea 0) (ea 1) (ea 2) (ea 3))))))), wO (ea 0) 2 [.ref (eg 0), .ref (ef 0), .int t0_5, .int (nI l0_5), .int (nI i0_5)], wI (cy 1) (eg 0) 10 (fa17_5), wI (cy 1) (ef 0) 7 (fa21_5), wO (ea 1) 2 [.ref (eg 1), .ref (ef 1), .int t1_5, .int (nI l1_5), .int (nI i1_5)], wI (cy 1) (eg 1) 10 (fa18_5), wI (cy 1) (ef 1) 7 (fa22_5), wO (ea 3) 2 [.ref (eg 3), .ref (ef 3), .int t3_5, .int (nI l3_5), .int (nI i3_5)], wI (cy 1) (eg 3) 10 (fa20_5), wI (cy 1) (ef 3) 7 (fa24_5)]) (rest := []) ⟨hx, hb, hml, hown, hg, hl.1⟩ k_X1_48 (s_tuneToAll l D cy (ea 2) (eg 2) (ef 2) t2_5 (nI l2_5) (nI i2_5) fa19_5 fa23_5 h0 h1 h2 h3 h4 h5 h6 h7 h8 h9 h10 h11 ((.int ys)) hv1 hv2 hv3 hv4 fp flo h9a h9b nb tb fcb fa14_5 h11a h11b nt tt fct fa15_5 h10a h10b nl tl fcl fa16_5 fc c0 c1 c2 c3 s0 s1 s2 sl spl svo swi sch fsn 2 mm (by omega) (hcb) (by omega) (by omega) (hct) (by omega) (by omega) (hcl) (by omega) (hcn) (by omega) (by omega) (by omega) (by omega) (by omega) (by omega)) E0_blind hK hP hD hS hA [24, 25, 26, 3, 5, 6, 8, 9, 10, 11, 12, 13, 14, 15, 16, 4, 30, 31] [0, 1, 2, 7, 17, 18, 19, 20, 21, 22, 23, 27, 28, 29] ⟨rfl, rfl, by decide +kernel, by decide +kernel, by decide +kernel⟩ rfl rfl (fun _ _ _ => trivial) dX1_pardonsOf_42 rfl rfl (Nat.le_of_ble_eq_true rfl) ⟨Nat.le_of_ble_eq_true rfl, Nat.le_of_ble_eq_true rfl⟩ ⟨Nat.le_of_ble_eq_true rfl, Nat.le_of_ble_eq_true rfl⟩ (fun zu45 H locs hw45 hP9 hD9 hS9 => ?_)
          clear hP hD hS
          obtain ⟨k_46, tu_47, fg2_48, ff2_49, fsb2_50, fst2_51, fsl2_52⟩ := zu45
          refine reW [wO q0 1 [.ref q1, .ref er, .ref q2, .ref q3, .ref q4, .ref h0, .int (nI mm), .int 1], wI (cy 1) q2 24 (fa13_5), wI (cy 1) q1 5 (fy), wI (cy 1) h7 48 (fx), (er, .inl (cy 4, 4, .inr (.inr (.inr (.inr (eF (ea 0) (ea 1) (ea 2) (ea 3))))))), wO (ea 0) 2 [.ref (eg 0), .ref (ef 0), .int t0_5, .int (nI l0_5), .int (nI i0_5)], wI (cy 1) (eg 0) 10 (fa17_5), wI (cy 1) (ef 0) 7 (fa21_5), wO (ea 1) 2 [.ref (eg 1), .ref (ef 1), .int t1_5, .int (nI l1_5), .int (nI i1_5)], wI (cy 1) (eg 1) 10 (fa18_5), wI (cy 1) (ef 1) 7 (fa22_5), wO (ea 3) 2 [.ref (eg 3), .ref (ef 3), .int t3_5, .int (nI l3_5), .int (nI i3_5)], wI (cy 1) (eg 3) 10 (fa20_5), wI (cy 1) (ef 3) 7 (fa24_5), wO (ea 2) 2 [.ref (eg 2), .ref (ef 2), .int tu_47, .int (nI mm), .int (nI k_46)], wI (cy 1) (eg 2) 10 (fg2_48), wI (cy 1) (ef 2) 7 (ff2_49), wO h0 4 [.ref h1, .ref h2, .ref h3, .ref h4, .ref h5, .ref h6, .ref h7, .ref h8, .ref h9, .ref h10, .ref h11, .int ys, hv1, hv2, hv3, hv4], wI (cy 1) h3 4 (fp), wI (cy 1) h2 8 (flo), wO h9 3 [.ref h9a, .ref h9b, .int (nI nb), .int tb], wI (cy 1) h9a 280 (fcb), wI (cy 1) h9b 31 (fsb2_50), wO h11 3 [.ref h11a, .ref h11b, .int (nI nt), .int tt], wI (cy 1) h11a 280 (fct), wI (cy 1) h11b 31 (fst2_51), wO h10 3 [.ref h10a, .ref h10b, .int (nI nl), .int tl], wI (cy 1) h10a 280 (fcl), wI (cy 1) h10b 31 (fsl2_52), wI (cy 1) h1 4 (fc), wO s0 7 [.ref s1, .ref s2, .int (nI sl), .int spl, .int svo, .int swi, .int sch], wI (cy 1) s2 4 (fsn)] hP9 hD9 hS9 (fun hP hD hS => ?_)
          clear hP9 hD9 hS9
          refine W.widen (k := 0) (n := 0) (Nat.le_of_ble_eq_true rfl) (Nat.le_of_ble_eq_true rfl) ?_
          replace hw45 : (k_46 ≤ mm) ∧ (eaO (vlC tb fcb nb 3) (vlC tl fcl nl 0) (vlC tt fct nt 0) flo (farC spl (fp 2)) swi (fsn 2) svo sch c0 mm tu_47 k_46 fg2_48) := hw45
          obtain ⟨f_53, f_54⟩ := hw45
          refine lv_aload_n hx hb dX1_pardonsOf_45 rfl (lv_at hl 1 rfl) ?_
          refine va_get (D := D) (ci := 1) (v := .ref q2) (C := RX1) (T := TX1) (N := 8) hx hb hg i_X1 hown hK hP 0 rfl rfl 2 (by decide) (hg _ m_555) (fun _ h9 => h9) rfl dX1_pardonsOf_46 ?_
          refine lv_iload hx hb dX1_pardonsOf_49 (lv_at hl 0 rfl) ?_
          refine x_callSi (wr := [wO q0 1 [.ref q1, .ref er, .ref q2, .ref q3, .ref q4, .ref h0, .int (nI mm), .int 1], wI (cy 1) q2 24 (fa13_5), wI (cy 1) q1 5 (fy), wI (cy 1) h7 48 (fx), (er, .inl (cy 4, 4, .inr (.inr (.inr (.inr (eF (ea 0) (ea 1) (ea 2) (ea 3))))))), wO (ea 0) 2 [.ref (eg 0), .ref (ef 0), .int t0_5, .int (nI l0_5), .int (nI i0_5)], wI (cy 1) (eg 0) 10 (fa17_5), wI (cy 1) (ef 0) 7 (fa21_5), wO (ea 1) 2 [.ref (eg 1), .ref (ef 1), .int t1_5, .int (nI l1_5), .int (nI i1_5)], wI (cy 1) (eg 1) 10 (fa18_5), wI (cy 1) (ef 1) 7 (fa22_5), wO (ea 3) 2 [.ref (eg 3), .ref (ef 3), .int t3_5, .int (nI l3_5), .int (nI i3_5)], wI (cy 1) (eg 3) 10 (fa20_5), wI (cy 1) (ef 3) 7 (fa24_5), wO (ea 2) 2 [.ref (eg 2), .ref (ef 2), .int tu_47, .int (nI mm), .int (nI k_46)], wI (cy 1) (eg 2) 10 (fg2_48), wI (cy 1) (ef 2) 7 (ff2_49), wO h0 4 [.ref h1, .ref h2, .ref h3, .ref h4, .ref h5, .ref h6, .ref h7, .ref h8, .ref h9, .ref h10, .ref h11, .int ys, hv1, hv2, hv3, hv4], wI (cy 1) h3 4 (fp), wI (cy 1) h2 8 (flo), wO h9 3 [.ref h9a, .ref h9b, .int (nI nb), .int tb], wI (cy 1) h9a 280 (fcb), wI (cy 1) h9b 31 (fsb2_50), wO h11 3 [.ref h11a, .ref h11b, .int (nI nt), .int tt], wI (cy 1) h11a 280 (fct), wI (cy 1) h11b 31 (fst2_51), wO h10 3 [.ref h10a, .ref h10b, .int (nI nl), .int tl], wI (cy 1) h10a 280 (fcl), wI (cy 1) h10b 31 (fsl2_52), wI (cy 1) h1 4 (fc), wO s0 7 [.ref s1, .ref s2, .int (nI sl), .int spl, .int svo, .int swi, .int sch], wI (cy 1) s2 4 (fsn)]) (rest := [.int 2, .ref q2]) ⟨hx, hb, hml, hown, hg, hl.1⟩ k_X1_54 (s_unmoved l D cy ) E0_blind hK hP hD hS hA [] [0, 1, 2, 3, 4, 5, 6, 7, 8, 9, 10, 11, 12, 13, 14, 15, 16, 17, 18, 19, 20, 21, 22, 23, 24, 25, 26, 27, 28, 29, 30, 31] ⟨rfl, rfl, by decide +kernel, by decide +kernel, by decide +kernel⟩ (fun _ _ _ => trivial) dX1_pardonsOf_51 rfl rfl (Nat.le_of_ble_eq_true rfl) ⟨Nat.le_of_ble_eq_true rfl, Nat.le_of_ble_eq_true rfl⟩ ⟨Nat.le_of_ble_eq_true rfl, Nat.le_of_ble_eq_true rfl⟩ (fun zr55 zu55 H locs hw55 hP9 hD9 hS9 => ?_)
          clear hP hD hS
          refine reW [wO q0 1 [.ref q1, .ref er, .ref q2, .ref q3, .ref q4, .ref h0, .int (nI mm), .int 1], wI (cy 1) q2 24 (fa13_5), wI (cy 1) q1 5 (fy), wI (cy 1) h7 48 (fx), (er, .inl (cy 4, 4, .inr (.inr (.inr (.inr (eF (ea 0) (ea 1) (ea 2) (ea 3))))))), wO (ea 0) 2 [.ref (eg 0), .ref (ef 0), .int t0_5, .int (nI l0_5), .int (nI i0_5)], wI (cy 1) (eg 0) 10 (fa17_5), wI (cy 1) (ef 0) 7 (fa21_5), wO (ea 1) 2 [.ref (eg 1), .ref (ef 1), .int t1_5, .int (nI l1_5), .int (nI i1_5)], wI (cy 1) (eg 1) 10 (fa18_5), wI (cy 1) (ef 1) 7 (fa22_5), wO (ea 3) 2 [.ref (eg 3), .ref (ef 3), .int t3_5, .int (nI l3_5), .int (nI i3_5)], wI (cy 1) (eg 3) 10 (fa20_5), wI (cy 1) (ef 3) 7 (fa24_5), wO (ea 2) 2 [.ref (eg 2), .ref (ef 2), .int tu_47, .int (nI mm), .int (nI k_46)], wI (cy 1) (eg 2) 10 (fg2_48), wI (cy 1) (ef 2) 7 (ff2_49), wO h0 4 [.ref h1, .ref h2, .ref h3, .ref h4, .ref h5, .ref h6, .ref h7, .ref h8, .ref h9, .ref h10, .ref h11, .int ys, hv1, hv2, hv3, hv4], wI (cy 1) h3 4 (fp), wI (cy 1) h2 8 (flo), wO h9 3 [.ref h9a, .ref h9b, .int (nI nb), .int tb], wI (cy 1) h9a 280 (fcb), wI (cy 1) h9b 31 (fsb2_50), wO h11 3 [.ref h11a, .ref h11b, .int (nI nt), .int tt], wI (cy 1) h11a 280 (fct), wI (cy 1) h11b 31 (fst2_51), wO h10 3 [.ref h10a, .ref h10b, .int (nI nl), .int tl], wI (cy 1) h10a 280 (fcl), wI (cy 1) h10b 31 (fsl2_52), wI (cy 1) h1 4 (fc), wO s0 7 [.ref s1, .ref s2, .int (nI sl), .int spl, .int svo, .int swi, .int sch], wI (cy 1) s2 4 (fsn)] hP9 hD9 hS9 (fun hP hD hS => ?_)
          clear hP9 hD9 hS9
          refine W.widen (k := 0) (n := 0) (Nat.le_of_ble_eq_true rfl) (Nat.le_of_ble_eq_true rfl) ?_
          replace hw55 : zr55 = 181896 := hw55
          subst hw55
          refine va_iast hx hb hK hP hD hS 1 1 rfl rfl (by unfold vp_in; decide) dX1_pardonsOf_54 (fun H locs hP9 hD9 hS9 => ?_)
          clear hP hD hS
          have hP := hP9
          have hD := hD9
          have hS := hS9
          clear hP9 hD9 hS9
          obtain ⟨g_56, eg_56⟩ : ∃ y, upd fa13_5 (2 : Int32).toNatClampNeg 181896 = y := ⟨_, rfl⟩
          rw [eg_56] at hP hD
          have hr_57 : pRow g_56 := eg_56 ▸ pRow_put (v := 181896) ha14_5 pOK_un
          replace hP : va_P D vwCl [wO q0 1 [.ref q1, .ref er, .ref q2, .ref q3, .ref q4, .ref h0, .int (nI mm), .int 1], wI (cy 1) q2 24 (g_56), wI (cy 1) q1 5 (fy), wI (cy 1) h7 48 (fx), (er, .inl (cy 4, 4, .inr (.inr (.inr (.inr (eF (ea 0) (ea 1) (ea 2) (ea 3))))))), wO (ea 0) 2 [.ref (eg 0), .ref (ef 0), .int t0_5, .int (nI l0_5), .int (nI i0_5)], wI (cy 1) (eg 0) 10 (fa17_5), wI (cy 1) (ef 0) 7 (fa21_5), wO (ea 1) 2 [.ref (eg 1), .ref (ef 1), .int t1_5, .int (nI l1_5), .int (nI i1_5)], wI (cy 1) (eg 1) 10 (fa18_5), wI (cy 1) (ef 1) 7 (fa22_5), wO (ea 3) 2 [.ref (eg 3), .ref (ef 3), .int t3_5, .int (nI l3_5), .int (nI i3_5)], wI (cy 1) (eg 3) 10 (fa20_5), wI (cy 1) (ef 3) 7 (fa24_5), wO (ea 2) 2 [.ref (eg 2), .ref (ef 2), .int tu_47, .int (nI mm), .int (nI k_46)], wI (cy 1) (eg 2) 10 (fg2_48), wI (cy 1) (ef 2) 7 (ff2_49), wO h0 4 [.ref h1, .ref h2, .ref h3, .ref h4, .ref h5, .ref h6, .ref h7, .ref h8, .ref h9, .ref h10, .ref h11, .int ys, hv1, hv2, hv3, hv4], wI (cy 1) h3 4 (fp), wI (cy 1) h2 8 (flo), wO h9 3 [.ref h9a, .ref h9b, .int (nI nb), .int tb], wI (cy 1) h9a 280 (fcb), wI (cy 1) h9b 31 (fsb2_50), wO h11 3 [.ref h11a, .ref h11b, .int (nI nt), .int tt], wI (cy 1) h11a 280 (fct), wI (cy 1) h11b 31 (fst2_51), wO h10 3 [.ref h10a, .ref h10b, .int (nI nl), .int tl], wI (cy 1) h10a 280 (fcl), wI (cy 1) h10b 31 (fsl2_52), wI (cy 1) h1 4 (fc), wO s0 7 [.ref s1, .ref s2, .int (nI sl), .int spl, .int svo, .int swi, .int sch], wI (cy 1) s2 4 (fsn)] H := hP
          replace hD : va_D A [wO q0 1 [.ref q1, .ref er, .ref q2, .ref q3, .ref q4, .ref h0, .int (nI mm), .int 1], wI (cy 1) q2 24 (g_56), wI (cy 1) q1 5 (fy), wI (cy 1) h7 48 (fx), (er, .inl (cy 4, 4, .inr (.inr (.inr (.inr (eF (ea 0) (ea 1) (ea 2) (ea 3))))))), wO (ea 0) 2 [.ref (eg 0), .ref (ef 0), .int t0_5, .int (nI l0_5), .int (nI i0_5)], wI (cy 1) (eg 0) 10 (fa17_5), wI (cy 1) (ef 0) 7 (fa21_5), wO (ea 1) 2 [.ref (eg 1), .ref (ef 1), .int t1_5, .int (nI l1_5), .int (nI i1_5)], wI (cy 1) (eg 1) 10 (fa18_5), wI (cy 1) (ef 1) 7 (fa22_5), wO (ea 3) 2 [.ref (eg 3), .ref (ef 3), .int t3_5, .int (nI l3_5), .int (nI i3_5)], wI (cy 1) (eg 3) 10 (fa20_5), wI (cy 1) (ef 3) 7 (fa24_5), wO (ea 2) 2 [.ref (eg 2), .ref (ef 2), .int tu_47, .int (nI mm), .int (nI k_46)], wI (cy 1) (eg 2) 10 (fg2_48), wI (cy 1) (ef 2) 7 (ff2_49), wO h0 4 [.ref h1, .ref h2, .ref h3, .ref h4, .ref h5, .ref h6, .ref h7, .ref h8, .ref h9, .ref h10, .ref h11, .int ys, hv1, hv2, hv3, hv4], wI (cy 1) h3 4 (fp), wI (cy 1) h2 8 (flo), wO h9 3 [.ref h9a, .ref h9b, .int (nI nb), .int tb], wI (cy 1) h9a 280 (fcb), wI (cy 1) h9b 31 (fsb2_50), wO h11 3 [.ref h11a, .ref h11b, .int (nI nt), .int tt], wI (cy 1) h11a 280 (fct), wI (cy 1) h11b 31 (fst2_51), wO h10 3 [.ref h10a, .ref h10b, .int (nI nl), .int tl], wI (cy 1) h10a 280 (fcl), wI (cy 1) h10b 31 (fsl2_52), wI (cy 1) h1 4 (fc), wO s0 7 [.ref s1, .ref s2, .int (nI sl), .int spl, .int svo, .int swi, .int sch], wI (cy 1) s2 4 (fsn)] := hD
          refine lv_iinc (v := 3) (lv' := [(5, .int 3), (0, .ref q0), (1, .ref h0), (2, .ref s0), (3, .int (nI mm)), (4, .int 1)]) hx hb dX1_pardonsOf_55 hl (k := 0) rfl (by decide) (by decide) rfl (fun ls hl => ?_)
          refine lv_goto (tgt := 19) hx hb dX1_pardonsOf_58 (by decide) ?_
          exact ih5  3 t0_5 l0_5 i0_5 t1_5 l1_5 i1_5 tu_47 mm k_46 t3_5 l3_5 i3_5 g_56 fsb2_50 fst2_51 fsl2_52 fa17_5 fa18_5 fg2_48 fa20_5 fa21_5 fa22_5 ff2_49 fa24_5 hr_57 (by omega) (fun _ => hf1_5 (by omega)) (fun _ => hf2_5 (by omega)) (fun _ => f_54) (fun h9 => absurd h9 (by omega)) (po_put (i := 2) hf5_5 eg_56 (by decide)) (by omega) (by omega) (by omega) (by omega) (by omega) _ _ (hP.sub [0, 1, 2, 17, 29, 18, 19, 3, 20, 21, 22, 23, 24, 25, 26, 27, 28, 4, 5, 6, 7, 8, 9, 10, 14, 15, 16, 11, 12, 13, 30, 31] rfl) (hD.sub [0, 1, 2, 17, 29, 18, 19, 3, 20, 21, 22, 23, 24, 25, 26, 27, 28, 4, 5, 6, 7, 8, 9, 10, 14, 15, 16, 11, 12, 13, 30, 31] (by decide +kernel) rfl) hS ls (lv_sub hl [0, 1, 2, 3, 4, 5] rfl)
        · subst hsp
          refine va_aldq hx hb hK hP 17 4 rfl rfl (by unfold vp_in; decide) dX1_pardonsOf_36 ?_
          refine W.eq (g2 := F0 m 37 ls [.ref (ea 3)]) rfl ?_
          refine lv_aload_n hx hb dX1_pardonsOf_37 rfl (lv_at hl 2 rfl) ?_
          refine lv_aload_n hx hb dX1_pardonsOf_38 rfl (lv_at hl 3 rfl) ?_
          refine lv_iload hx hb dX1_pardonsOf_39 (lv_at hl 0 rfl) ?_
          refine lv_iload_n hx hb dX1_pardonsOf_41 rfl (lv_at hl 4 rfl) ?_
          refine x_callVv (q := (RX2, TX2, 5)) (ci := 2) (q0 := 0) (wr := [wO q0 1 [.ref q1, .ref er, .ref q2, .ref q3, .ref q4, .ref h0, .int (nI mm), .int 1], wI (cy 1) q2 24 (fa13_5), wI (cy 1) q1 5 (fy), wI (cy 1) h7 48 (fx), (er, .inl (cy 4, 4, .inr (.inr (.inr (.inr (eF (ea 0) (ea 1) (ea 2) (ea 3))))))), wO (ea 0) 2 [.ref (eg 0), .ref (ef 0), .int t0_5, .int (nI l0_5), .int (nI i0_5)], wI (cy 1) (eg 0) 10 (fa17_5), wI (cy 1) (ef 0) 7 (fa21_5), wO (ea 1) 2 [.ref (eg 1), .ref (ef 1), .int t1_5, .int (nI l1_5), .int (nI i1_5)], wI (cy 1) (eg 1) 10 (fa18_5), wI (cy 1) (ef 1) 7 (fa22_5), wO (ea 2) 2 [.ref (eg 2), .ref (ef 2), .int t2_5, .int (nI l2_5), .int (nI i2_5)], wI (cy 1) (eg 2) 10 (fa19_5), wI (cy 1) (ef 2) 7 (fa23_5)]) (rest := []) ⟨hx, hb, hml, hown, hg, hl.1⟩ k_X1_48 (s_tuneToAll l D cy (ea 3) (eg 3) (ef 3) t3_5 (nI l3_5) (nI i3_5) fa20_5 fa24_5 h0 h1 h2 h3 h4 h5 h6 h7 h8 h9 h10 h11 ((.int ys)) hv1 hv2 hv3 hv4 fp flo h9a h9b nb tb fcb fa14_5 h11a h11b nt tt fct fa15_5 h10a h10b nl tl fcl fa16_5 fc c0 c1 c2 c3 s0 s1 s2 sl spl svo swi sch fsn 3 mm (by omega) (hcb) (by omega) (by omega) (hct) (by omega) (by omega) (hcl) (by omega) (hcn) (by omega) (by omega) (by omega) (by omega) (by omega) (by omega)) E0_blind hK hP hD hS hA [27, 28, 29, 3, 5, 6, 8, 9, 10, 11, 12, 13, 14, 15, 16, 4, 30, 31] [0, 1, 2, 7, 17, 18, 19, 20, 21, 22, 23, 24, 25, 26] ⟨rfl, rfl, by decide +kernel, by decide +kernel, by decide +kernel⟩ rfl rfl (fun _ _ _ => trivial) dX1_pardonsOf_42 rfl rfl (Nat.le_of_ble_eq_true rfl) ⟨Nat.le_of_ble_eq_true rfl, Nat.le_of_ble_eq_true rfl⟩ ⟨Nat.le_of_ble_eq_true rfl, Nat.le_of_ble_eq_true rfl⟩ (fun zu58 H locs hw58 hP9 hD9 hS9 => ?_)
          clear hP hD hS
          obtain ⟨k_59, tu_60, fg2_61, ff2_62, fsb2_63, fst2_64, fsl2_65⟩ := zu58
          refine reW [wO q0 1 [.ref q1, .ref er, .ref q2, .ref q3, .ref q4, .ref h0, .int (nI mm), .int 1], wI (cy 1) q2 24 (fa13_5), wI (cy 1) q1 5 (fy), wI (cy 1) h7 48 (fx), (er, .inl (cy 4, 4, .inr (.inr (.inr (.inr (eF (ea 0) (ea 1) (ea 2) (ea 3))))))), wO (ea 0) 2 [.ref (eg 0), .ref (ef 0), .int t0_5, .int (nI l0_5), .int (nI i0_5)], wI (cy 1) (eg 0) 10 (fa17_5), wI (cy 1) (ef 0) 7 (fa21_5), wO (ea 1) 2 [.ref (eg 1), .ref (ef 1), .int t1_5, .int (nI l1_5), .int (nI i1_5)], wI (cy 1) (eg 1) 10 (fa18_5), wI (cy 1) (ef 1) 7 (fa22_5), wO (ea 2) 2 [.ref (eg 2), .ref (ef 2), .int t2_5, .int (nI l2_5), .int (nI i2_5)], wI (cy 1) (eg 2) 10 (fa19_5), wI (cy 1) (ef 2) 7 (fa23_5), wO (ea 3) 2 [.ref (eg 3), .ref (ef 3), .int tu_60, .int (nI mm), .int (nI k_59)], wI (cy 1) (eg 3) 10 (fg2_61), wI (cy 1) (ef 3) 7 (ff2_62), wO h0 4 [.ref h1, .ref h2, .ref h3, .ref h4, .ref h5, .ref h6, .ref h7, .ref h8, .ref h9, .ref h10, .ref h11, .int ys, hv1, hv2, hv3, hv4], wI (cy 1) h3 4 (fp), wI (cy 1) h2 8 (flo), wO h9 3 [.ref h9a, .ref h9b, .int (nI nb), .int tb], wI (cy 1) h9a 280 (fcb), wI (cy 1) h9b 31 (fsb2_63), wO h11 3 [.ref h11a, .ref h11b, .int (nI nt), .int tt], wI (cy 1) h11a 280 (fct), wI (cy 1) h11b 31 (fst2_64), wO h10 3 [.ref h10a, .ref h10b, .int (nI nl), .int tl], wI (cy 1) h10a 280 (fcl), wI (cy 1) h10b 31 (fsl2_65), wI (cy 1) h1 4 (fc), wO s0 7 [.ref s1, .ref s2, .int (nI sl), .int spl, .int svo, .int swi, .int sch], wI (cy 1) s2 4 (fsn)] hP9 hD9 hS9 (fun hP hD hS => ?_)
          clear hP9 hD9 hS9
          refine W.widen (k := 0) (n := 0) (Nat.le_of_ble_eq_true rfl) (Nat.le_of_ble_eq_true rfl) ?_
          replace hw58 : (k_59 ≤ mm) ∧ (eaO (vlC tb fcb nb 3) (vlC tl fcl nl 0) (vlC tt fct nt 0) flo (farC spl (fp 3)) swi (fsn 3) svo sch c0 mm tu_60 k_59 fg2_61) := hw58
          obtain ⟨f_66, f_67⟩ := hw58
          refine lv_aload_n hx hb dX1_pardonsOf_45 rfl (lv_at hl 1 rfl) ?_
          refine va_get (D := D) (ci := 1) (v := .ref q2) (C := RX1) (T := TX1) (N := 8) hx hb hg i_X1 hown hK hP 0 rfl rfl 2 (by decide) (hg _ m_555) (fun _ h9 => h9) rfl dX1_pardonsOf_46 ?_
          refine lv_iload hx hb dX1_pardonsOf_49 (lv_at hl 0 rfl) ?_
          refine x_callSi (wr := [wO q0 1 [.ref q1, .ref er, .ref q2, .ref q3, .ref q4, .ref h0, .int (nI mm), .int 1], wI (cy 1) q2 24 (fa13_5), wI (cy 1) q1 5 (fy), wI (cy 1) h7 48 (fx), (er, .inl (cy 4, 4, .inr (.inr (.inr (.inr (eF (ea 0) (ea 1) (ea 2) (ea 3))))))), wO (ea 0) 2 [.ref (eg 0), .ref (ef 0), .int t0_5, .int (nI l0_5), .int (nI i0_5)], wI (cy 1) (eg 0) 10 (fa17_5), wI (cy 1) (ef 0) 7 (fa21_5), wO (ea 1) 2 [.ref (eg 1), .ref (ef 1), .int t1_5, .int (nI l1_5), .int (nI i1_5)], wI (cy 1) (eg 1) 10 (fa18_5), wI (cy 1) (ef 1) 7 (fa22_5), wO (ea 2) 2 [.ref (eg 2), .ref (ef 2), .int t2_5, .int (nI l2_5), .int (nI i2_5)], wI (cy 1) (eg 2) 10 (fa19_5), wI (cy 1) (ef 2) 7 (fa23_5), wO (ea 3) 2 [.ref (eg 3), .ref (ef 3), .int tu_60, .int (nI mm), .int (nI k_59)], wI (cy 1) (eg 3) 10 (fg2_61), wI (cy 1) (ef 3) 7 (ff2_62), wO h0 4 [.ref h1, .ref h2, .ref h3, .ref h4, .ref h5, .ref h6, .ref h7, .ref h8, .ref h9, .ref h10, .ref h11, .int ys, hv1, hv2, hv3, hv4], wI (cy 1) h3 4 (fp), wI (cy 1) h2 8 (flo), wO h9 3 [.ref h9a, .ref h9b, .int (nI nb), .int tb], wI (cy 1) h9a 280 (fcb), wI (cy 1) h9b 31 (fsb2_63), wO h11 3 [.ref h11a, .ref h11b, .int (nI nt), .int tt], wI (cy 1) h11a 280 (fct), wI (cy 1) h11b 31 (fst2_64), wO h10 3 [.ref h10a, .ref h10b, .int (nI nl), .int tl], wI (cy 1) h10a 280 (fcl), wI (cy 1) h10b 31 (fsl2_65), wI (cy 1) h1 4 (fc), wO s0 7 [.ref s1, .ref s2, .int (nI sl), .int spl, .int svo, .int swi, .int sch], wI (cy 1) s2 4 (fsn)]) (rest := [.int 3, .ref q2]) ⟨hx, hb, hml, hown, hg, hl.1⟩ k_X1_54 (s_unmoved l D cy ) E0_blind hK hP hD hS hA [] [0, 1, 2, 3, 4, 5, 6, 7, 8, 9, 10, 11, 12, 13, 14, 15, 16, 17, 18, 19, 20, 21, 22, 23, 24, 25, 26, 27, 28, 29, 30, 31] ⟨rfl, rfl, by decide +kernel, by decide +kernel, by decide +kernel⟩ (fun _ _ _ => trivial) dX1_pardonsOf_51 rfl rfl (Nat.le_of_ble_eq_true rfl) ⟨Nat.le_of_ble_eq_true rfl, Nat.le_of_ble_eq_true rfl⟩ ⟨Nat.le_of_ble_eq_true rfl, Nat.le_of_ble_eq_true rfl⟩ (fun zr68 zu68 H locs hw68 hP9 hD9 hS9 => ?_)
          clear hP hD hS
          refine reW [wO q0 1 [.ref q1, .ref er, .ref q2, .ref q3, .ref q4, .ref h0, .int (nI mm), .int 1], wI (cy 1) q2 24 (fa13_5), wI (cy 1) q1 5 (fy), wI (cy 1) h7 48 (fx), (er, .inl (cy 4, 4, .inr (.inr (.inr (.inr (eF (ea 0) (ea 1) (ea 2) (ea 3))))))), wO (ea 0) 2 [.ref (eg 0), .ref (ef 0), .int t0_5, .int (nI l0_5), .int (nI i0_5)], wI (cy 1) (eg 0) 10 (fa17_5), wI (cy 1) (ef 0) 7 (fa21_5), wO (ea 1) 2 [.ref (eg 1), .ref (ef 1), .int t1_5, .int (nI l1_5), .int (nI i1_5)], wI (cy 1) (eg 1) 10 (fa18_5), wI (cy 1) (ef 1) 7 (fa22_5), wO (ea 2) 2 [.ref (eg 2), .ref (ef 2), .int t2_5, .int (nI l2_5), .int (nI i2_5)], wI (cy 1) (eg 2) 10 (fa19_5), wI (cy 1) (ef 2) 7 (fa23_5), wO (ea 3) 2 [.ref (eg 3), .ref (ef 3), .int tu_60, .int (nI mm), .int (nI k_59)], wI (cy 1) (eg 3) 10 (fg2_61), wI (cy 1) (ef 3) 7 (ff2_62), wO h0 4 [.ref h1, .ref h2, .ref h3, .ref h4, .ref h5, .ref h6, .ref h7, .ref h8, .ref h9, .ref h10, .ref h11, .int ys, hv1, hv2, hv3, hv4], wI (cy 1) h3 4 (fp), wI (cy 1) h2 8 (flo), wO h9 3 [.ref h9a, .ref h9b, .int (nI nb), .int tb], wI (cy 1) h9a 280 (fcb), wI (cy 1) h9b 31 (fsb2_63), wO h11 3 [.ref h11a, .ref h11b, .int (nI nt), .int tt], wI (cy 1) h11a 280 (fct), wI (cy 1) h11b 31 (fst2_64), wO h10 3 [.ref h10a, .ref h10b, .int (nI nl), .int tl], wI (cy 1) h10a 280 (fcl), wI (cy 1) h10b 31 (fsl2_65), wI (cy 1) h1 4 (fc), wO s0 7 [.ref s1, .ref s2, .int (nI sl), .int spl, .int svo, .int swi, .int sch], wI (cy 1) s2 4 (fsn)] hP9 hD9 hS9 (fun hP hD hS => ?_)
          clear hP9 hD9 hS9
          refine W.widen (k := 0) (n := 0) (Nat.le_of_ble_eq_true rfl) (Nat.le_of_ble_eq_true rfl) ?_
          replace hw68 : zr68 = 181896 := hw68
          subst hw68
          refine va_iast hx hb hK hP hD hS 1 1 rfl rfl (by unfold vp_in; decide) dX1_pardonsOf_54 (fun H locs hP9 hD9 hS9 => ?_)
          clear hP hD hS
          have hP := hP9
          have hD := hD9
          have hS := hS9
          clear hP9 hD9 hS9
          obtain ⟨g_69, eg_69⟩ : ∃ y, upd fa13_5 (3 : Int32).toNatClampNeg 181896 = y := ⟨_, rfl⟩
          rw [eg_69] at hP hD
          have hr_70 : pRow g_69 := eg_69 ▸ pRow_put (v := 181896) ha14_5 pOK_un
          replace hP : va_P D vwCl [wO q0 1 [.ref q1, .ref er, .ref q2, .ref q3, .ref q4, .ref h0, .int (nI mm), .int 1], wI (cy 1) q2 24 (g_69), wI (cy 1) q1 5 (fy), wI (cy 1) h7 48 (fx), (er, .inl (cy 4, 4, .inr (.inr (.inr (.inr (eF (ea 0) (ea 1) (ea 2) (ea 3))))))), wO (ea 0) 2 [.ref (eg 0), .ref (ef 0), .int t0_5, .int (nI l0_5), .int (nI i0_5)], wI (cy 1) (eg 0) 10 (fa17_5), wI (cy 1) (ef 0) 7 (fa21_5), wO (ea 1) 2 [.ref (eg 1), .ref (ef 1), .int t1_5, .int (nI l1_5), .int (nI i1_5)], wI (cy 1) (eg 1) 10 (fa18_5), wI (cy 1) (ef 1) 7 (fa22_5), wO (ea 2) 2 [.ref (eg 2), .ref (ef 2), .int t2_5, .int (nI l2_5), .int (nI i2_5)], wI (cy 1) (eg 2) 10 (fa19_5), wI (cy 1) (ef 2) 7 (fa23_5), wO (ea 3) 2 [.ref (eg 3), .ref (ef 3), .int tu_60, .int (nI mm), .int (nI k_59)], wI (cy 1) (eg 3) 10 (fg2_61), wI (cy 1) (ef 3) 7 (ff2_62), wO h0 4 [.ref h1, .ref h2, .ref h3, .ref h4, .ref h5, .ref h6, .ref h7, .ref h8, .ref h9, .ref h10, .ref h11, .int ys, hv1, hv2, hv3, hv4], wI (cy 1) h3 4 (fp), wI (cy 1) h2 8 (flo), wO h9 3 [.ref h9a, .ref h9b, .int (nI nb), .int tb], wI (cy 1) h9a 280 (fcb), wI (cy 1) h9b 31 (fsb2_63), wO h11 3 [.ref h11a, .ref h11b, .int (nI nt), .int tt], wI (cy 1) h11a 280 (fct), wI (cy 1) h11b 31 (fst2_64), wO h10 3 [.ref h10a, .ref h10b, .int (nI nl), .int tl], wI (cy 1) h10a 280 (fcl), wI (cy 1) h10b 31 (fsl2_65), wI (cy 1) h1 4 (fc), wO s0 7 [.ref s1, .ref s2, .int (nI sl), .int spl, .int svo, .int swi, .int sch], wI (cy 1) s2 4 (fsn)] H := hP
          replace hD : va_D A [wO q0 1 [.ref q1, .ref er, .ref q2, .ref q3, .ref q4, .ref h0, .int (nI mm), .int 1], wI (cy 1) q2 24 (g_69), wI (cy 1) q1 5 (fy), wI (cy 1) h7 48 (fx), (er, .inl (cy 4, 4, .inr (.inr (.inr (.inr (eF (ea 0) (ea 1) (ea 2) (ea 3))))))), wO (ea 0) 2 [.ref (eg 0), .ref (ef 0), .int t0_5, .int (nI l0_5), .int (nI i0_5)], wI (cy 1) (eg 0) 10 (fa17_5), wI (cy 1) (ef 0) 7 (fa21_5), wO (ea 1) 2 [.ref (eg 1), .ref (ef 1), .int t1_5, .int (nI l1_5), .int (nI i1_5)], wI (cy 1) (eg 1) 10 (fa18_5), wI (cy 1) (ef 1) 7 (fa22_5), wO (ea 2) 2 [.ref (eg 2), .ref (ef 2), .int t2_5, .int (nI l2_5), .int (nI i2_5)], wI (cy 1) (eg 2) 10 (fa19_5), wI (cy 1) (ef 2) 7 (fa23_5), wO (ea 3) 2 [.ref (eg 3), .ref (ef 3), .int tu_60, .int (nI mm), .int (nI k_59)], wI (cy 1) (eg 3) 10 (fg2_61), wI (cy 1) (ef 3) 7 (ff2_62), wO h0 4 [.ref h1, .ref h2, .ref h3, .ref h4, .ref h5, .ref h6, .ref h7, .ref h8, .ref h9, .ref h10, .ref h11, .int ys, hv1, hv2, hv3, hv4], wI (cy 1) h3 4 (fp), wI (cy 1) h2 8 (flo), wO h9 3 [.ref h9a, .ref h9b, .int (nI nb), .int tb], wI (cy 1) h9a 280 (fcb), wI (cy 1) h9b 31 (fsb2_63), wO h11 3 [.ref h11a, .ref h11b, .int (nI nt), .int tt], wI (cy 1) h11a 280 (fct), wI (cy 1) h11b 31 (fst2_64), wO h10 3 [.ref h10a, .ref h10b, .int (nI nl), .int tl], wI (cy 1) h10a 280 (fcl), wI (cy 1) h10b 31 (fsl2_65), wI (cy 1) h1 4 (fc), wO s0 7 [.ref s1, .ref s2, .int (nI sl), .int spl, .int svo, .int swi, .int sch], wI (cy 1) s2 4 (fsn)] := hD
          refine lv_iinc (v := 4) (lv' := [(5, .int 4), (0, .ref q0), (1, .ref h0), (2, .ref s0), (3, .int (nI mm)), (4, .int 1)]) hx hb dX1_pardonsOf_55 hl (k := 0) rfl (by decide) (by decide) rfl (fun ls hl => ?_)
          refine lv_goto (tgt := 19) hx hb dX1_pardonsOf_58 (by decide) ?_
          exact ih5  4 t0_5 l0_5 i0_5 t1_5 l1_5 i1_5 t2_5 l2_5 i2_5 tu_60 mm k_59 g_69 fsb2_63 fst2_64 fsl2_65 fa17_5 fa18_5 fa19_5 fg2_61 fa21_5 fa22_5 fa23_5 ff2_62 hr_70 (by omega) (fun _ => hf1_5 (by omega)) (fun _ => hf2_5 (by omega)) (fun _ => hf3_5 (by omega)) (fun _ => f_67) (po_put (i := 3) hf5_5 eg_69 (by decide)) (by omega) (by omega) (by omega) (by omega) (by omega) _ _ (hP.sub [0, 1, 2, 17, 29, 18, 19, 3, 20, 21, 22, 23, 24, 25, 26, 27, 28, 4, 5, 6, 7, 8, 9, 10, 11, 12, 13, 14, 15, 16, 30, 31] rfl) (hD.sub [0, 1, 2, 17, 29, 18, 19, 3, 20, 21, 22, 23, 24, 25, 26, 27, 28, 4, 5, 6, 7, 8, 9, 10, 11, 12, 13, 14, 15, 16, 30, 31] (by decide +kernel) rfl) hS ls (lv_sub hl [0, 1, 2, 3, 4, 5] rfl)
  exact loop5 _ 0 (et 0) ((el 0)) ((ei 0)) (et 1) ((el 1)) ((ei 1)) (et 2) ((el 2)) ((ei 2)) (et 3) ((el 3)) ((ei 3)) fph fsb fst fsl (gc 0) (gc 1) (gc 2) (gc 3) (xc 0) (xc 1) (xc 2) (xc 3) hph (by omega) (fun h9 => absurd h9 (Nat.not_lt_zero _)) (fun h9 => absurd h9 (Nat.not_lt_zero _)) (fun h9 => absurd h9 (Nat.not_lt_zero _)) (fun h9 => absurd h9 (Nat.not_lt_zero _)) (fun c9 h9 => absurd h9 (Nat.not_lt_zero c9)) (by omega) (by omega) (by omega) (by omega) (Nat.le_refl _) _ _ (hP.sub [0, 1, 2, 3, 4, 5, 6, 7, 8, 9, 10, 11, 12, 13, 14, 15, 16, 17, 18, 19, 20, 21, 22, 23, 24, 25, 26, 27, 28, 29, 30, 31] rfl) (hD.sub [0, 1, 2, 3, 4, 5, 6, 7, 8, 9, 10, 11, 12, 13, 14, 15, 16, 17, 18, 19, 20, 21, 22, 23, 24, 25, 26, 27, 28, 29, 30, 31] (by decide +kernel) rfl) hS ls (lv_sub hl [0, 1, 2, 3, 4, 5] rfl)
/-! AHEAD: how many rows of WORDS send what is wanted -/
/-- a row's first n entries as a list -/
def lsL9 (f : Nat → Int32) : Nat → List Int32
  | 0 => []
  | k + 1 => lsL9 f k ++ [f k]
theorem lsL9_len {f : Nat → Int32} {n : Nat} : (lsL9 f n).length = n := by
  induction n with
  | zero => rfl
  | succ n ih =>
    show (lsL9 f n ++ [f n]).length = n + 1
    rw [List.length_append, ih]
    rfl
theorem lsL9_cg {f g : Nat → Int32} {n : Nat} (h : ∀ i, i < n → f i = g i) : lsL9 f n = lsL9 g n := by
  induction n with
  | zero => rfl
  | succ n ih =>
    show lsL9 f n ++ [f n] = lsL9 g n ++ [g n]
    rw [ih (fun i hi => h i (by omega)), h n (by omega)]
theorem lsL9_get {f : Nat → Int32} {n i : Nat} (hi : i < n) : (lsL9 f n)[i]? = some (f i) := by
  induction n with
  | zero => omega
  | succ n ih =>
    show (lsL9 f n ++ [f n])[i]? = _
    by_cases q : i = n
    · rw [q, List.getElem?_append_right (by rw [lsL9_len]; exact Nat.le_refl n), lsL9_len, Nat.sub_self]
      rfl
    · rw [List.getElem?_append_left (by rw [lsL9_len]; omega)]
      exact ih (by omega)
theorem lsL9_ext {f : Nat → Int32} {n : Nat} {L : List Int32} (hl : L.length = n) (h : ∀ i, i < n → L[i]? = some (f i)) : L = lsL9 f n := by
  apply List.ext_getElem?
  intro i
  by_cases q : i < n
  · rw [h i q, lsL9_get q]
  · rw [List.getElem?_eq_none (by omega), List.getElem?_eq_none (by rw [lsL9_len]; omega)]
theorem lsL9_rev {f : Nat → Int32} {n : Nat} : (lsL9 f n).reverse = lsL9 (fun j => f (n - 1 - j)) n := by
  refine lsL9_ext (by rw [List.length_reverse, lsL9_len]) (fun i hi => ?_)
  rw [List.getElem?_reverse (by rw [lsL9_len]; exact hi), lsL9_len, lsL9_get (by omega)]
theorem lsL9_pre {f : Nat → Int32} {n : Nat} : ∀ (j : Nat) (L : List Int32), lsL9 f j ++ L = lsL9 f n → j ≤ n := by
  intro j L h
  have h9 := congrArg List.length h
  rw [List.length_append, lsL9_len, lsL9_len] at h9
  omega
/-- how many of the first c0 WORDS don't come back -/
def silN (g : Int32) (c0 : Nat) : Nat := ctF (fun w => !(gB g (nI w))) c0
/-- m places are left, j of what is wanted was sent -/
def waD (g : Nat → Int32) (c0 : Nat) (wa : Nat → Int32) (sz n : Nat) : Nat → Nat → Nat
  | 0, j => if j = sz then 1 else 0
  | m + 1, j => silN (g (n - (m + 1))) c0 * waD g c0 wa sz n m j + (if j < sz ∧ gB (g (n - (m + 1))) (wa j) = true then waD g c0 wa sz n m (j + 1) else 0)
theorem pre_app {g fw : Nat → Int32} {d : Nat} : ∀ n, d ≤ n → ∃ L, pre9 g fw n = pre9 g fw d ++ L := by
  intro n
  induction n with
  | zero =>
    intro h
    have h0 : d = 0 := by omega
    subst h0
    exact ⟨[], (List.append_nil _).symm⟩
  | succ n ih =>
    intro h
    by_cases q : d = n + 1
    · subst q
      exact ⟨[], (List.append_nil _).symm⟩
    · obtain ⟨L, hL⟩ := ih (by omega)
      refine ⟨L ++ (if gB (g n) (fw n) = true then [fw n] else []), ?_⟩
      rw [← List.append_assoc, ← hL]
      rfl
/-- what was sent is not the beginning of what is wanted -/
theorem cn_bad {g wa : Nat → Int32} {c0 sz n : Nat} (m : Nat) : ∀ fw : FNW, m ≤ n → (∀ L, ¬ pre9 g fw (n - m) ++ L = lsL9 wa sz) → cnP (fun f => decide (pre9 g f n = lsL9 wa sz)) c0 n m fw = 0 := by
  induction m with
  | zero =>
    intro fw _ h
    have h9 : ¬ pre9 g fw n = lsL9 wa sz := fun e => h [] (by rw [List.append_nil]; exact e)
    show (if decide (pre9 g fw n = lsL9 wa sz) = true then 1 else 0) = 0
    rw [decide_eq_false h9]
    rfl
  | succ m ih =>
    intro fw hm h
    show smF (fun w => cnP _ c0 n m (upd fw (n - (m + 1)) (nI w))) c0 = 0
    rw [smF_cg (h := fun _ => 0)]
    · have z : ∀ k, smF (fun _ => 0) k = 0 := fun k => by
        induction k with
        | zero => rfl
        | succ k ih2 => show smF (fun _ => 0) k + 0 = 0; rw [ih2]
      exact z c0
    · intro w hw
      refine ih _ (by omega) (fun L e => ?_)
      obtain ⟨L2, h2⟩ := pre_app (g := g) (fw := upd fw (n - (m + 1)) (nI w)) (d := n - (m + 1)) (n - m) (by omega)
      rw [h2, pre_cg (f2 := fw) (fun i hi => pk_un (by omega)), List.append_assoc] at e
      exact h _ e
theorem sm_sil {g : Int32} {c0 A B wj : Nat} {G : Nat → Nat} (hA : ∀ w, w < c0 → gB g (nI w) = false → G w = A) (hB : ∀ w, w < c0 → gB g (nI w) = true → G w = if w = wj then B else 0) : smF G c0 = silN g c0 * A + (if wj < c0 ∧ gB g (nI wj) = true then B else 0) := by
  induction c0 with
  | zero =>
    show 0 = ctF _ 0 * A + _
    rw [if_neg (fun h => absurd h.1 (Nat.not_lt_zero wj))]
    show 0 = 0 * A + 0
    rw [Nat.zero_mul]
  | succ c0 ih =>
    have h1 := ih (fun w hw => hA w (by omega)) (fun w hw => hB w (by omega))
    show smF G c0 + G c0 = (if (!(gB g (nI c0))) = true then ctF _ c0 + 1 else ctF _ c0) * A + _
    have e1 : ctF (fun w => !(gB g (nI w))) c0 = silN g c0 := rfl
    rw [e1, h1]
    cases hg : gB g (nI c0) with
    | false =>
      rw [hA c0 (by omega) hg, if_pos (show (!false) = true by rfl), Nat.succ_mul]
      have e2 : (wj < c0 + 1 ∧ gB g (nI wj) = true) ↔ (wj < c0 ∧ gB g (nI wj) = true) := by
        constructor
        · intro ⟨p, q⟩
          refine ⟨?_, q⟩
          by_cases z : wj = c0
          · rw [z, hg] at q
            exact absurd q (by decide)
          · omega
        · intro ⟨p, q⟩
          exact ⟨by omega, q⟩
      by_cases z : wj < c0 ∧ gB g (nI wj) = true
      · rw [if_pos z, if_pos (e2.mpr z)]
        omega
      · rw [if_neg z, if_neg (fun h => z (e2.mp h))]
        omega
    | true =>
      rw [hB c0 (by omega) hg, if_neg (show ¬ (!true) = true by decide)]
      by_cases z : c0 = wj
      · subst z
        rw [if_pos rfl, if_neg (fun h => absurd h.1 (Nat.lt_irrefl c0)), if_pos ⟨by omega, hg⟩, Nat.add_zero]
      · rw [if_neg z]
        by_cases y : wj < c0 ∧ gB g (nI wj) = true
        · rw [if_pos y, if_pos ⟨by omega, y.2⟩, Nat.add_zero]
        · rw [if_neg y, if_neg (fun h => y ⟨by omega, h.2⟩)]
theorem cn_wa {g wa : Nat → Int32} {c0 sz n : Nat} (hw : okW c0 wa sz) (h8 : c0 ≤ 8) (m : Nat) : ∀ (fw : FNW) (j : Nat), m ≤ n → j ≤ sz → pre9 g fw (n - m) = lsL9 wa j → cnP (fun f => decide (pre9 g f n = lsL9 wa sz)) c0 n m fw = waD g c0 wa sz n m j := by
  induction m with
  | zero =>
    intro fw j _ hj h
    have h : pre9 g fw n = lsL9 wa j := h
    show (if decide (pre9 g fw n = lsL9 wa sz) = true then 1 else 0) = if j = sz then 1 else 0
    by_cases q : j = sz
    · rw [if_pos q, h, q, decide_eq_true rfl]
      rfl
    · rw [if_neg q, decide_eq_false]
      · rfl
      · intro e
        have h9 := congrArg List.length (h.symm.trans e)
        rw [lsL9_len, lsL9_len] at h9
        exact q h9
  | succ m ih =>
    intro fw j hm hj h
    show smF (fun w => cnP _ c0 n m (upd fw (n - (m + 1)) (nI w))) c0 = silN (g (n - (m + 1))) c0 * waD g c0 wa sz n m j + (if j < sz ∧ gB (g (n - (m + 1))) (wa j) = true then waD g c0 wa sz n m (j + 1) else 0)
    have hs : ∀ w, pre9 g (upd fw (n - (m + 1)) (nI w)) (n - m) = nxL g (n - (m + 1)) w (lsL9 wa j) := fun w => by
      have h9 := pre_s (g := g) (fw := fw) (f2 := upd fw (n - (m + 1)) (nI w)) (d := n - (m + 1)) (w := w) (fun i hi => pk_un (by omega)) pk_us
      rw [show n - (m + 1) + 1 = n - m by omega, h] at h9
      exact h9
    have hA : ∀ w, w < c0 → gB (g (n - (m + 1))) (nI w) = false → cnP (fun f => decide (pre9 g f n = lsL9 wa sz)) c0 n m (upd fw (n - (m + 1)) (nI w)) = waD g c0 wa sz n m j := fun w _ hg => ih _ j (by omega) hj (by rw [hs w, nx_0 hg])
    by_cases q : j < sz
    · obtain ⟨wj, hwj, ej⟩ := hw j q
      rw [sm_sil (wj := wj) (A := waD g c0 wa sz n m j) (B := waD g c0 wa sz n m (j + 1)) hA (fun w hw2 hg => ?_)]
      · congr 1
        rw [ej]
        by_cases z : gB (g (n - (m + 1))) (nI wj) = true
        · rw [if_pos ⟨hwj, z⟩, if_pos ⟨q, z⟩]
        · rw [if_neg (fun h9 => z h9.2), if_neg (fun h9 => z h9.2)]
      · by_cases z : w = wj
        · rw [if_pos z]
          refine ih _ (j + 1) (by omega) (by omega) ?_
          rw [hs w, nx_1 hg, z, ← ej]
          rfl
        · rw [if_neg z]
          refine cn_bad m _ (by omega) (fun L e => z ?_)
          rw [hs w, nx_1 hg, List.append_assoc] at e
          have h9 := congrArg (fun l : List Int32 => l[j]?) e
          (try dsimp only at h9)
          rw [lsL9_get q, ej, List.getElem?_append_right (by rw [lsL9_len]; exact Nat.le_refl j), lsL9_len, Nat.sub_self] at h9
          have h8 : nI w = nI wj := Option.some.inj h9
          exact nI_inj (by omega) (by omega) h8
    · rw [sm_sil (wj := c0) (A := waD g c0 wa sz n m j) (B := 0) hA (fun w hw2 hg => ?_)]
      · rw [if_neg (fun h9 => absurd h9.1 (Nat.lt_irrefl c0)), if_neg (fun h9 => q h9.1)]
      · rw [if_neg (by omega)]
        refine cn_bad m _ (by omega) (fun L e => ?_)
        rw [hs w, nx_1 hg, List.append_assoc] at e
        have h9 := congrArg List.length e
        rw [List.length_append, lsL9_len, lsL9_len, List.length_append, List.length_singleton] at h9
        omega
/-- how many bits -/
theorem bc_n {y : Nat} (h : y < 256) : bcE (nI y) = nI (ctF (fun w => bt (nI y) w) 8) := by
  have h9 : ∀ y, y < 256 → bcE (nI y) = nI (ctF (fun w => bt (nI y) w) 8) := by decide +kernel
  exact h9 y h
theorem ct_cut {p : Nat → Bool} {c0 n : Nat} (h : c0 ≤ n) : ctF (fun w => p w && decide (w < c0)) n = ctF p c0 := by
  induction n with
  | zero =>
    have h0 : c0 = 0 := by omega
    subst h0
    rfl
  | succ n ih =>
    by_cases q : c0 = n + 1
    · subst q
      exact ctF_cg (fun k hk => by (try dsimp only); rw [decide_eq_true hk, Bool.and_true])
    · show (if (p n && decide (n < c0)) = true then ctF _ n + 1 else ctF _ n) = _
      rw [decide_eq_false (by omega), Bool.and_false, if_neg (by decide)]
      exact ih (by omega)
theorem bc_sil {g a x : Int32} {c0 : Nat} (h8 : c0 ≤ 8) (ea : a = (1 : Int32) <<< (nI c0 &&& 31) - 1) (ex : x = g &&& a) : bcE x = nI (silN g c0) := by
  have ha : ∀ c, c < 9 → (((1 : Int32) <<< (nI c &&& 31) - 1).toBitVec.toNat < 256 ∧ ∀ w, w < 8 → bt ((1 : Int32) <<< (nI c &&& 31) - 1) w = decide (w < c)) := by decide +kernel
  obtain ⟨h1, h2⟩ := ha c0 (by omega)
  have hy : x.toBitVec.toNat < 256 := by
    rw [ex, Int32.toBitVec_and, BitVec.toNat_and, ea]
    exact Nat.lt_of_le_of_lt Nat.and_le_right h1
  have ey : x = nI x.toBitVec.toNat := by
    apply Int32.toBitVec_inj.1
    show x.toBitVec = BitVec.ofNat 32 x.toBitVec.toNat
    rw [BitVec.ofNat_toNat]
    rfl
  rw [ey, bc_n hy, ← ey]
  congr 1
  unfold silN
  rw [← ct_cut (p := fun w => !(gB g (nI w))) h8]
  refine ctF_cg (fun w hw => ?_)
  (try dsimp only)
  rw [ex, bt_and, ea, h2 w hw, gB_bt g (by omega), Bool.not_not]
section WYD
variable {g wa fa f2 : Nat → Int32} {c0 sz n x j i k : Nat} {y : Int32}
theorem wd_i (hi : n * 11 + j < 2 ^ 31) (hv : y = nI (if j = sz then 1 else 0)) (h : ∀ j9 : Nat, j9 < j → fa (n * 11 + j9) = nI (waD g c0 wa sz n 0 j9)) (e : upd fa (nI k).toNatClampNeg y = f2) (hk : k = n * 11 + j) : ∀ j9 : Nat, j9 < j + 1 → f2 (n * 11 + j9) = nI (waD g c0 wa sz n 0 j9) := by
  rw [nI_clamp (by omega)] at e
  subst e hk
  intro j9 h9
  by_cases q : j9 = j
  · rw [q, pk_us, hv]
    rfl
  · rw [pk_un (by omega)]
    exact h j9 (by omega)
theorem wd_at {z : Nat} (h : ∀ i9 j9 : Nat, x ≤ i9 → i9 ≤ n → j9 ≤ sz → fa (i9 * 11 + j9) = nI (waD g c0 wa sz n (n - i9) j9)) (hk : k = i * 11 + z) (hi : i = x) (hx : x ≤ n) (hz : z ≤ sz) (hb : k < 2 ^ 31) (ey : y = fa (nI k).toNatClampNeg) : y = nI (waD g c0 wa sz n (n - x) z) := by
  rw [nI_clamp hb] at ey
  rw [ey, hk, hi]
  exact h x z (Nat.le_refl x) hx hz
theorem wd_kp (h : ∀ i9 j9 : Nat, x ≤ i9 → i9 ≤ n → j9 ≤ sz → fa (i9 * 11 + j9) = nI (waD g c0 wa sz n (n - i9) j9)) (hs : sz ≤ 10) (hx : 1 ≤ x) (hk : k = (x - 1) * 11 + j) (hj : j ≤ sz) (hb : k < 2 ^ 31) (e : upd fa (nI k).toNatClampNeg y = f2) : ∀ i9 j9 : Nat, x ≤ i9 → i9 ≤ n → j9 ≤ sz → f2 (i9 * 11 + j9) = nI (waD g c0 wa sz n (n - i9) j9) := by
  rw [nI_clamp hb] at e
  subst e
  intro i9 j9 h1 h2 h3
  rw [pk_un (by omega)]
  exact h i9 j9 h1 h2 h3
theorem wd_v {c : Nat} (hx : 1 ≤ x) (hn : x ≤ n) (hc : c = silN (g (x - 1)) c0 * waD g c0 wa sz n (n - x) j + (if j < sz ∧ gB (g (x - 1)) (wa j) = true then waD g c0 wa sz n (n - x) (j + 1) else 0)) : c = waD g c0 wa sz n (n - (x - 1)) j := by
  rw [hc, show n - (x - 1) = (n - x) + 1 by omega]
  show _ = silN (g (n - (n - x + 1))) c0 * waD g c0 wa sz n (n - x) j + (if j < sz ∧ gB (g (n - (n - x + 1))) (wa j) = true then waD g c0 wa sz n (n - x) (j + 1) else 0)
  rw [show n - (n - x + 1) = x - 1 by omega]
theorem wd_pt (h : ∀ j9 : Nat, j9 < j → fa ((x - 1) * 11 + j9) = nI (waD g c0 wa sz n (n - (x - 1)) j9)) (hk : k = (x - 1) * 11 + j) (hb : k < 2 ^ 31) (hc : y = nI (waD g c0 wa sz n (n - (x - 1)) j)) (e : upd fa (nI k).toNatClampNeg y = f2) : ∀ j9 : Nat, j9 < j + 1 → f2 ((x - 1) * 11 + j9) = nI (waD g c0 wa sz n (n - (x - 1)) j9) := by
  rw [nI_clamp hb] at e
  subst e hk
  intro j9 h9
  by_cases q : j9 = j
  · rw [q, pk_us, hc]
  · rw [pk_un (by omega)]
    exact h j9 (by omega)
theorem wd_y0 {s9 v9 : Int32} (hx : 1 ≤ x) (hn : x ≤ n) (es : s9 = nI (silN (g (x - 1)) c0)) (ev : v9 = nI (waD g c0 wa sz n (n - x) j)) (ey : y = s9 * v9) (hno : ¬ (j < sz ∧ gB (g (x - 1)) (wa j) = true)) : y = nI (waD g c0 wa sz n (n - (x - 1)) j) := by
  have h9 := wd_v (g := g) (c0 := c0) (wa := wa) (sz := sz) (j := j) hx hn rfl
  rw [if_neg hno, Nat.add_zero] at h9
  rw [← h9, ey, es, ev]
  exact pk_mul _ _
theorem wd_y1 {s9 v9 v8 z9 : Int32} (hx : 1 ≤ x) (hn : x ≤ n) (es : s9 = nI (silN (g (x - 1)) c0)) (ev : v9 = nI (waD g c0 wa sz n (n - x) j)) (ey : y = s9 * v9) (ew : v8 = nI (waD g c0 wa sz n (n - x) (j + 1))) (ez : z9 = y + v8) (hj : j < sz) (hg : gB (g (x - 1)) (wa j) = true) : z9 = nI (waD g c0 wa sz n (n - (x - 1)) j) := by
  have h9 := wd_v (g := g) (c0 := c0) (wa := wa) (sz := sz) (j := j) hx hn rfl
  rw [if_pos ⟨hj, hg⟩] at h9
  rw [← h9, ez, ey, es, ev, ew, pk_mul]
  exact nI_add _ _
theorem wd_e (h : ∀ i9 j9 : Nat, x ≤ i9 → i9 ≤ n → j9 ≤ sz → fa (i9 * 11 + j9) = nI (waD g c0 wa sz n (n - i9) j9)) (h2 : ∀ j9 : Nat, j9 < j → fa ((x - 1) * 11 + j9) = nI (waD g c0 wa sz n (n - (x - 1)) j9)) (hj : sz < j) (hx : 1 ≤ x) : ∀ i9 j9 : Nat, x - 1 ≤ i9 → i9 ≤ n → j9 ≤ sz → fa (i9 * 11 + j9) = nI (waD g c0 wa sz n (n - i9) j9) := by
  intro i9 j9 h3 h4 h5
  by_cases q : i9 = x - 1
  · rw [q]; exact h2 j9 (by omega)
  · exact h i9 j9 (by omega) h4 h5
theorem wd_x {iv : Int32} (h : iv = nI x - 1) (hc : iv < 0) (hx : x ≤ 5) : x = 0 := by
  have h9 : ∀ x, x < 6 → nI x - 1 < 0 → x = 0 := by decide
  rw [h] at hc
  exact h9 x (by omega) hc
theorem wd_z (h : ∀ i9 j9 : Nat, i9 ≤ n → j9 ≤ sz → fa (i9 * 11 + j9) = nI (waD g c0 wa sz n (n - i9) j9)) (ey : y = fa (0 : Int32).toNatClampNeg) : y = nI (waD g c0 wa sz n n 0) := by
  have h9 := h 0 0 (Nat.zero_le _) (Nat.zero_le _)
  rw [Nat.zero_mul, Nat.zero_add, Nat.sub_zero] at h9
  exact ey.trans h9
theorem wn_put {et : Int32} {fz : Nat → Int32} {zl v : Nat} (h : ∀ k9 : Nat, k9 < i → fa k9 = fz (if et = 0 then k9 else zl - 1 - k9)) (hi : i < 2 ^ 31) (hv : v < 2 ^ 31) (ey : y = fz (nI v).toNatClampNeg) (e : upd fa (nI i).toNatClampNeg y = f2) (hk : v = if et = 0 then i else zl - 1 - i) : ∀ k9 : Nat, k9 < i + 1 → f2 k9 = fz (if et = 0 then k9 else zl - 1 - k9) := by
  rw [nI_clamp hi] at e
  rw [nI_clamp hv, hk] at ey
  subst e
  intro k9 h9
  by_cases q : k9 = i
  · rw [q, pk_us, ey]
  · rw [pk_un q]
    exact h k9 (by omega)
end WYD
section AHN
variable {bE lE tE : FE} {lo F sn : Nat → Int32} {far9 sn9 wi voc cha et : Int32} {c0 n ei zl : Nat} {g wa fzw : Nat → Int32}
/-- what a tuned ear sends of a row of WORDS is its ECHO -/
theorem ah_ec (hE : eaO bE lE tE lo far9 wi sn9 voc cha c0 n et ei g) (fw : FNW) (hf : okW c0 fw n) : (if et = 0 then pre9 g fw n else (pre9 g fw n).reverse) = ecS bE lE tE lo far9 wi sn9 voc cha fw n := by
  obtain ⟨h1, h2, h3⟩ := hE
  have hg : ∀ i, i < n → gB (g i) (fw i) = coS bE lE lo far9 wi sn9 voc cha n fw i := fun i hi => by
    obtain ⟨w, hw, e⟩ := hf i hi
    rw [e, h3 i w hi hw]
    unfold coS
    rw [e]
  rw [← sd_ec h1 h2 hg]
  by_cases q : et = 0
  · rw [if_pos q]
    refine (sdL_cg (fun k hk => ?_)).symm
    have e : plS et n k = k := if_pos q
    rw [e]
    exact ⟨rfl, rfl⟩
  · rw [if_neg q, ← sdL_rev]
    refine (sdL_cg (fun k hk => ?_)).symm
    have e : plS et n k = n - 1 - k := if_neg q
    rw [e]
    exact ⟨rfl, rfl⟩
theorem ah_ex {L : List Int32} : exN (fun f => decide (ecS bE lE tE lo far9 wi sn9 voc cha f n = L)) n := fun f g h => by
  (try dsimp only)
  rw [ecS_ag h]
theorem ah_n {r : Int32} (hE : eaO bE lE tE lo far9 wi sn9 voc cha c0 n et ei g) (h8 : c0 ≤ 8) (hz : ∀ k, k < zl → wa k = fzw (if et = 0 then k else zl - 1 - k)) (hw : okW c0 fzw zl) (hr : r = nI (waD g c0 wa zl n n 0)) : r = nI (ctF (fun v => decide (ecS bE lE tE lo far9 wi sn9 voc cha (dgW c0 n v) n = lsL9 fzw zl)) (c0 ^ n)) := by
  rw [hr]
  congr 1
  have hwa : okW c0 wa zl := fun i hi => by
    rw [hz i hi]
    by_cases q : et = 0
    · rw [if_pos q]; exact hw i hi
    · rw [if_neg q]; exact hw _ (by omega)
  have h9 := cn_wa (g := g) hwa h8 n (fun _ => 0) 0 (Nat.le_refl n) (Nat.zero_le _) (by rw [Nat.sub_self]; rfl)
  refine po_0 (Q := fun f => decide (ecS bE lE tE lo far9 wi sn9 voc cha f n = lsL9 fzw zl)) (h9.symm.trans (by rw [Nat.sub_zero])) (fun fw hf => ?_) ah_ex
  (try dsimp only)
  rw [← ah_ec hE fw hf]
  by_cases q : et = 0
  · rw [if_pos q, lsL9_cg (f := wa) (g := fzw) (fun k hk => by rw [hz k hk, if_pos q])]
  · rw [if_neg q]
    have e : lsL9 wa zl = (lsL9 fzw zl).reverse := by
      rw [lsL9_rev]
      exact lsL9_cg (fun k hk => by rw [hz k hk, if_neg q])
    rw [e]
    refine decide_eq_decide.mpr ⟨fun h => by rw [h, List.reverse_reverse], fun h => by rw [← h, List.reverse_reverse]⟩
end AHN
/-! the first row of AHEAD, as it is followed -/
theorem sm_fo {G : Nat → Nat} {β : Type} {K : Nat → Option β} (h : ∀ w, G w = 0 ↔ K w = none) (n : Nat) : smF G n = 0 ↔ foF K n = none := by
  induction n with
  | zero => exact ⟨fun _ => rfl, fun _ => rfl⟩
  | succ n ih =>
    show smF G n + G n = 0 ↔ _
    constructor
    · intro e
      exact foF_n (ih.mp (by omega)) ((h n).mp (by omega))
    · intro e
      have e1 : foF K n = none := by
        cases hq : foF K n with
        | none => rfl
        | some x =>
          have h9 : (match foF K n with | some x => some x | none => K n) = none := e
          rw [hq] at h9
          exact absurd h9 (by simp)
      have e2 : K n = none := by
        have h9 : (match foF K n with | some x => some x | none => K n) = none := e
        rw [e1] at h9
        exact h9
      have a1 := ih.mpr e1
      have a2 := (h n).mpr e2
      omega
theorem cn_fd {P : FNW → Bool} {c0 n : Nat} (m : Nat) : ∀ f : FNW, cnP P c0 n m f = 0 ↔ fdP P c0 n m f = none := by
  induction m with
  | zero =>
    intro f
    show (if P f = true then 1 else 0) = 0 ↔ (if P f = true then some (tr9 n f) else none) = none
    by_cases q : P f = true
    · rw [if_pos q, if_pos q]
      exact ⟨fun h => absurd h (by decide), fun h => absurd h (by simp)⟩
    · rw [if_neg q, if_neg q]
      exact ⟨fun _ => rfl, fun _ => rfl⟩
  | succ m ih =>
    intro f
    exact sm_fo (fun w => ih _) c0
section FWA
variable {g wa fa f2 : Nat → Int32} {c0 sz n i jj wd : Nat} {fd y v r : Int32}
/-- it sends what is wanted -/
abbrev wtP (g wa : Nat → Int32) (sz n : Nat) : FNW → Bool := fun f => decide (pre9 g f n = lsL9 wa sz)
/-- the first i WORDS are chosen, jj of what is wanted was sent -/
def fwA (g wa : Nat → Int32) (c0 sz n i jj : Nat) (fa : Nat → Int32) : Prop := jj ≤ sz ∧ pre9 g fa i = lsL9 wa jj ∧ 0 < waD g c0 wa sz n (n - i) jj ∧ okW c0 fa i ∧ fdP (wtP g wa sz n) c0 n n (fun _ => 0) = fdP (wtP g wa sz n) c0 n (n - i) fa
def fwB (g wa : Nat → Int32) (c0 sz n i jj wd : Nat) (fd : Int32) (fa : Nat → Int32) : Prop := (fd = 0 → fwA g wa c0 sz n i jj fa ∧ ∀ w9, w9 < wd → fdP (wtP g wa sz n) c0 n (n - (i + 1)) (upd fa i (nI w9)) = none) ∧ (¬ fd = 0 → fwA g wa c0 sz n (i + 1) jj fa)
theorem wt_ex : exN (wtP g wa sz n) n := fun f h e => by
  show decide (pre9 g f n = _) = decide (pre9 g h n = _)
  rw [pre_cg e]
theorem fw_0 (h : 0 < waD g c0 wa sz n n 0) : fwA g wa c0 sz n 0 0 fa := ⟨Nat.zero_le _, rfl, h, fun k hk => absurd hk (Nat.not_lt_zero k), fdP_ag wt_ex n _ _ (Nat.le_refl n) (fun k hk => absurd hk (by omega))⟩
theorem fw_i (h : fwA g wa c0 sz n i jj fa) : fwB g wa c0 sz n i jj 0 0 fa := ⟨fun _ => ⟨h, fun k hk => absurd hk (Nat.not_lt_zero k)⟩, fun h9 => absurd rfl h9⟩
theorem pre_u {g fa : Nat → Int32} {i wd : Nat} : pre9 g (upd fa i (nI wd)) (i + 1) = nxL g i wd (pre9 g fa i) := pre_s (fw := fa) (f2 := upd fa i (nI wd)) (d := i) (w := wd) (fun k hk => pk_un (by omega)) pk_us
/-- of the next WORD -/
theorem fw_cn {j2 : Nat} (hw : okW c0 wa sz) (h8 : c0 ≤ 8) (hi : i < n) (A : fwA g wa c0 sz n i jj fa) (hp : nxL g i wd (lsL9 wa jj) = lsL9 wa j2) (hj : j2 ≤ sz) : cnP (wtP g wa sz n) c0 n (n - (i + 1)) (upd fa i (nI wd)) = waD g c0 wa sz n (n - (i + 1)) j2 := by
  refine cn_wa hw h8 _ _ j2 (by omega) hj ?_
  rw [show n - (n - (i + 1)) = i + 1 by omega, pre_u, A.2.1]
  exact hp
theorem fw_bd (h8 : c0 ≤ 8) (hw : okW c0 wa sz) (hwd : wd < c0) (hi : i < n) (A : fwA g wa c0 sz n i jj fa) (hg : gB (g i) (nI wd) = true) (hno : ¬ (jj < sz ∧ wa jj = nI wd)) : cnP (wtP g wa sz n) c0 n (n - (i + 1)) (upd fa i (nI wd)) = 0 := by
  refine cn_bad _ _ (by omega) (fun L e => ?_)
  rw [show n - (n - (i + 1)) = i + 1 by omega, pre_u, A.2.1, nx_1 hg, List.append_assoc] at e
  by_cases q : jj < sz
  · have h9 := congrArg (fun l : List Int32 => l[jj]?) e
    (try dsimp only at h9)
    rw [lsL9_get q, List.getElem?_append_right (by rw [lsL9_len]; exact Nat.le_refl jj), lsL9_len, Nat.sub_self] at h9
    have h7 : nI wd = wa jj := Option.some.inj h9
    exact hno ⟨q, h7.symm⟩
  · have h9 := congrArg List.length e
    rw [List.length_append, lsL9_len, lsL9_len, List.length_append, List.length_singleton] at h9
    have := A.1
    omega
theorem fw_no (h : fwB g wa c0 sz n i jj wd fd fa) (hf : fd = 0) (hc : fwA g wa c0 sz n i jj fa → cnP (wtP g wa sz n) c0 n (n - (i + 1)) (upd fa i (nI wd)) = 0) : fwB g wa c0 sz n i jj (wd + 1) fd fa := by
  refine ⟨fun h9 => ?_, fun h9 => absurd hf h9⟩
  obtain ⟨A, hn⟩ := h.1 hf
  refine ⟨A, fun w9 h7 => ?_⟩
  by_cases q : w9 = wd
  · rw [q]
    exact (cn_fd _ _).mp (hc A)
  · exact hn w9 (by omega)
theorem fw_ys {j2 : Nat} (h8 : c0 ≤ 8) (hw : okW c0 wa sz) (hwd : wd < c0) (hi : i < n) (hb : n < 2 ^ 31) (h : fwB g wa c0 sz n i jj wd fd fa) (hf : fd = 0) (hp : nxL g i wd (lsL9 wa jj) = lsL9 wa j2) (hj : j2 ≤ sz) (hy : 0 < waD g c0 wa sz n (n - (i + 1)) j2) (e : upd fa (nI i).toNatClampNeg (nI wd) = f2) : fwB g wa c0 sz n i j2 (wd + 1) 1 f2 := by
  rw [nI_clamp (by omega)] at e
  subst e
  refine ⟨fun h9 => absurd h9 (by decide), fun _ => ?_⟩
  obtain ⟨A, hn⟩ := h.1 hf
  have hcn := fw_cn hw h8 hi A hp hj
  refine ⟨hj, ?_, hy, okW_put A.2.2.2.1 hwd, ?_⟩
  · rw [pre_u, A.2.1]
    exact hp
  · rw [A.2.2.2.2, fd_s hi]
    cases hq : fdP (wtP g wa sz n) c0 n (n - (i + 1)) (upd fa i (nI wd)) with
    | none =>
      have h9 := (cn_fd _ _).mpr hq
      omega
    | some x => exact foF_y (foF_all (fun w9 h9 => hn w9 h9)) hq hwd
/-- nothing of it comes back, but what is wanted can't be any more -/
theorem fw_n1 (h8 : c0 ≤ 8) (hw : okW c0 wa sz) (hi : i < n) (h : fwB g wa c0 sz n i jj wd fd fa) (hf : fd = 0) (hg : gB (g i) (nI wd) = false) (hz : waD g c0 wa sz n (n - (i + 1)) jj = 0) : fwB g wa c0 sz n i jj (wd + 1) fd fa :=
  fw_no h hf (fun A => (fw_cn hw h8 hi A (nx_0 hg) A.1).trans hz)
theorem fw_n2 (h8 : c0 ≤ 8) (hw : okW c0 wa sz) (hwd : wd < c0) (hi : i < n) (h : fwB g wa c0 sz n i jj wd fd fa) (hf : fd = 0) (hg : gB (g i) (nI wd) = true) (hno : ¬ (jj < sz ∧ wa jj = nI wd)) : fwB g wa c0 sz n i jj (wd + 1) fd fa :=
  fw_no h hf (fun A => fw_bd h8 hw hwd hi A hg hno)
theorem fw_nl (hg : gB (g i) (nI wd) = true) (he : wa jj = nI wd) : nxL g i wd (lsL9 wa jj) = lsL9 wa (jj + 1) := by
  rw [nx_1 hg, ← he]
  rfl
theorem fw_n3 (h8 : c0 ≤ 8) (hw : okW c0 wa sz) (hi : i < n) (hj : jj < sz) (h : fwB g wa c0 sz n i jj wd fd fa) (hf : fd = 0) (hg : gB (g i) (nI wd) = true) (he : wa jj = nI wd) (hz : waD g c0 wa sz n (n - (i + 1)) (jj + 1) = 0) : fwB g wa c0 sz n i jj (wd + 1) fd fa :=
  fw_no h hf (fun A => (fw_cn hw h8 hi A (fw_nl hg he) (by omega)).trans hz)
theorem fw_y1 (h8 : c0 ≤ 8) (hw : okW c0 wa sz) (hwd : wd < c0) (hi : i < n) (hb : n < 2 ^ 31) (h : fwB g wa c0 sz n i jj wd fd fa) (hf : fd = 0) (hg : gB (g i) (nI wd) = false) (hy : 0 < waD g c0 wa sz n (n - (i + 1)) jj) (e : upd fa (nI i).toNatClampNeg (nI wd) = f2) : fwB g wa c0 sz n i jj (wd + 1) 1 f2 :=
  fw_ys h8 hw hwd hi hb h hf (nx_0 hg) (h.1 hf).1.1 hy e
theorem fw_y3 (h8 : c0 ≤ 8) (hw : okW c0 wa sz) (hwd : wd < c0) (hi : i < n) (hb : n < 2 ^ 31) (hj : jj < sz) (h : fwB g wa c0 sz n i jj wd fd fa) (hf : fd = 0) (hg : gB (g i) (nI wd) = true) (he : wa jj = nI wd) (hy : 0 < waD g c0 wa sz n (n - (i + 1)) (jj + 1)) (e : upd fa (nI i).toNatClampNeg (nI wd) = f2) : fwB g wa c0 sz n i (jj + 1) (wd + 1) 1 f2 :=
  fw_ys h8 hw hwd hi hb h hf (fw_nl hg he) (by omega) hy e
/-- behind the WORDS one was found -/
theorem fw_e (h8 : c0 ≤ 8) (hw : okW c0 wa sz) (hi : i < n) (h : fwB g wa c0 sz n i jj wd fd fa) (hc : c0 ≤ wd ∨ ¬ fd = 0) : fwA g wa c0 sz n (i + 1) jj fa := by
  by_cases q : fd = 0
  · obtain ⟨A, hn⟩ := h.1 q
    have h9 : foF (fun w => fdP (wtP g wa sz n) c0 n (n - (i + 1)) (upd fa i (nI w))) c0 = none := foF_all (fun w hw9 => hn w (by
      rcases hc with z | z
      · omega
      · exact absurd q z))
    have h7 := (cn_fd (P := wtP g wa sz n) (c0 := c0) (n := n) (n - i) fa).mpr ((fd_s hi).trans h9)
    have h6 : cnP (wtP g wa sz n) c0 n (n - i) fa = waD g c0 wa sz n (n - i) jj := cn_wa (n := n) hw h8 (n - i) fa jj (by omega) A.1 (by rw [show n - (n - i) = i by omega]; exact A.2.1)
    have h5 := A.2.2.1
    rw [← h6, h7] at h5
    omega
  · exact h.2 q
/-- what is looked up of ways -/
theorem fw_w {fwy : Nat → Int32} {k z : Nat} (hd : ∀ i9 j9 : Nat, i9 ≤ n → j9 ≤ sz → fwy (i9 * 11 + j9) = nI (waD g c0 wa sz n (n - i9) j9)) (hk : k = (i + 1) * 11 + z) (hi : i < n) (hz : z ≤ sz) (hb : k < 2 ^ 31) (ey : y = fwy (nI k).toNatClampNeg) : y = nI (waD g c0 wa sz n (n - (i + 1)) z) := by
  rw [nI_clamp hb] at ey
  rw [ey, hk]
  exact hd (i + 1) z (by omega) hz
theorem wa_le (m : Nat) : ∀ j, m ≤ 5 → c0 ≤ 8 → waD g c0 wa sz n m j ≤ 9 ^ m := by
  induction m with
  | zero =>
    intro j _ _
    show (if j = sz then 1 else 0) ≤ 1
    split <;> omega
  | succ m ih =>
    intro j hm h8
    have a := ih j (by omega) h8
    have b := ih (j + 1) (by omega) h8
    have c : silN (g (n - (m + 1))) c0 ≤ c0 := ctF_le
    show silN (g (n - (m + 1))) c0 * waD g c0 wa sz n m j + (if j < sz ∧ gB (g (n - (m + 1))) (wa j) = true then waD g c0 wa sz n m (j + 1) else 0) ≤ 9 ^ (m + 1)
    have d : silN (g (n - (m + 1))) c0 * waD g c0 wa sz n m j ≤ 8 * 9 ^ m := Nat.mul_le_mul (by omega) a
    rw [Nat.pow_succ]
    split <;> omega
theorem fw_z {m j : Nat} (hm : m ≤ 5) (h8 : c0 ≤ 8) (ey : y = nI (waD g c0 wa sz n m j)) : (y ≤ 0 → waD g c0 wa sz n m j = 0) ∧ (¬ y ≤ 0 → 0 < waD g c0 wa sz n m j) := by
  have h9 := wa_le (g := g) (wa := wa) (sz := sz) (n := n) m j hm h8
  have h7 : 9 ^ m ≤ 9 ^ 5 := Nat.pow_le_pow_right (by decide) hm
  have h6 : (9 : Nat) ^ 5 = 59049 := by decide
  constructor
  · intro h
    rw [ey, show (0 : Int32) = nI 0 by decide] at h
    have := (nI_leI (by omega) (by decide)).mp h
    omega
  · intro h
    rcases Nat.eq_zero_or_pos (waD g c0 wa sz n m j) with z | z
    · rw [ey, z] at h
      exact absurd (by decide) h
    · exact z
/-- at the end: it is the first -/
theorem fw_f (hw : okW c0 wa sz) (h8 : c0 ≤ 8) (hi : n ≤ i) (hin : i ≤ n) (A : fwA g wa c0 sz n i jj fa) : fdP (wtP g wa sz n) c0 n n (fun _ => 0) = some (tr9 n fa) := by
  have e : i = n := by omega
  subst e
  have h9 := A.2.2.2.2
  rw [Nat.sub_self] at h9
  have h7 := A.2.2.1
  rw [Nat.sub_self] at h7
  have h6 : 0 < (if jj = sz then 1 else 0) := h7
  have hj : jj = sz := by
    by_cases q : jj = sz
    · exact q
    · rw [if_neg q] at h6
      omega
  rw [h9]
  show (if decide (pre9 g fa i = lsL9 wa sz) = true then some (tr9 i fa) else none) = _
  rw [A.2.1, hj, decide_eq_true rfl]
  rfl
end FWA
section AHF
variable {bE lE tE : FE} {lo : Nat → Int32} {far9 sn9 wi voc cha et : Int32} {c0 n ei zl : Nat} {g wa fzw fy2 : Nat → Int32}
theorem ah_pq (hE : eaO bE lE tE lo far9 wi sn9 voc cha c0 n et ei g) (hz : ∀ k, k < zl → wa k = fzw (if et = 0 then k else zl - 1 - k)) (fw : FNW) (hf : okW c0 fw n) : wtP g wa zl n fw = decide (ecS bE lE tE lo far9 wi sn9 voc cha fw n = lsL9 fzw zl) := by
  show decide (pre9 g fw n = lsL9 wa zl) = _
  rw [← ah_ec hE fw hf]
  by_cases q : et = 0
  · rw [if_pos q, lsL9_cg (f := wa) (g := fzw) (fun k hk => by rw [hz k hk, if_pos q])]
  · rw [if_neg q]
    have e : lsL9 wa zl = (lsL9 fzw zl).reverse := by
      rw [lsL9_rev]
      exact lsL9_cg (fun k hk => by rw [hz k hk, if_neg q])
    rw [e]
    refine decide_eq_decide.mpr ⟨fun h => by rw [h, List.reverse_reverse], fun h => by rw [← h, List.reverse_reverse]⟩
theorem ah_f (hE : eaO bE lE tE lo far9 wi sn9 voc cha c0 n et ei g) (h8 : c0 ≤ 8) (hz : ∀ k, k < zl → wa k = fzw (if et = 0 then k else zl - 1 - k)) (hw : okW c0 fzw zl) (hr : 0 < waD g c0 wa zl n n 0) (hff : okW c0 wa zl → 0 < waD g c0 wa zl n n 0 → fdP (wtP g wa zl n) c0 n n (fun _ => 0) = some (tr9 n fy2)) : ∃ g9, foF (fun v => if decide (ecS bE lE tE lo far9 wi sn9 voc cha (dgW c0 n v) n = lsL9 fzw zl) = true then some (dgW c0 n v) else none) (c0 ^ n) = some g9 ∧ ∀ i9, i9 < n → fy2 i9 = g9 i9 := by
  have hwa : okW c0 wa zl := fun i hi => by
    rw [hz i hi]
    by_cases q : et = 0
    · rw [if_pos q]; exact hw i hi
    · rw [if_neg q]; exact hw _ (by omega)
  refine ⟨tr9 n fy2, po_1 (P := wtP g wa zl n) (Q := fun f => decide (ecS bE lE tE lo far9 wi sn9 voc cha f n = lsL9 fzw zl)) (fy := fun _ => 0) (by rw [Nat.sub_zero]; exact hff hwa hr) (fun fw hf => ah_pq hE hz fw hf) ah_ex, fun i hi => ?_⟩
  unfold tr9
  rw [if_pos hi]
end AHF
theorem gdX1_countWays_0 : decode cX1_countWays 0 = .ok (.iconst 1, 1) ∧ decode cX1_countWays 1 = .ok (.aload_n 0, 1) ∧ decode cX1_countWays 2 = .ok (.getfield 31, 3) ∧ decode cX1_countWays 5 = .ok (.getfield 43, 3) ∧ decode cX1_countWays 8 = .ok (.iconst 0, 1) ∧ decode cX1_countWays 9 = .ok (.iaload, 1) ∧ decode cX1_countWays 10 = .ok (.ishl, 1) ∧ decode cX1_countWays 11 = .ok (.iconst 1, 1) ∧ decode cX1_countWays 12 = .ok (.isub, 1) ∧ decode cX1_countWays 13 = .ok (.istore_n 3, 1) ∧ decode cX1_countWays 14 = .ok (.iconst 0, 1) ∧ decode cX1_countWays 15 = .ok (.istore 4, 2) := by decide +kernel
theorem dX1_countWays_0 : decode cX1_countWays 0 = .ok (.iconst 1, 1) := gdX1_countWays_0.1
theorem dX1_countWays_1 : decode cX1_countWays 1 = .ok (.aload_n 0, 1) := gdX1_countWays_0.2.1
theorem dX1_countWays_2 : decode cX1_countWays 2 = .ok (.getfield 31, 3) := gdX1_countWays_0.2.2.1
theorem dX1_countWays_5 : decode cX1_countWays 5 = .ok (.getfield 43, 3) := gdX1_countWays_0.2.2.2.1
theorem dX1_countWays_8 : decode cX1_countWays 8 = .ok (.iconst 0, 1) := gdX1_countWays_0.2.2.2.2.1
theorem dX1_countWays_9 : decode cX1_countWays 9 = .ok (.iaload, 1) := gdX1_countWays_0.2.2.2.2.2.1
theorem dX1_countWays_10 : decode cX1_countWays 10 = .ok (.ishl, 1) := gdX1_countWays_0.2.2.2.2.2.2.1
theorem dX1_countWays_11 : decode cX1_countWays 11 = .ok (.iconst 1, 1) := gdX1_countWays_0.2.2.2.2.2.2.2.1
theorem dX1_countWays_12 : decode cX1_countWays 12 = .ok (.isub, 1) := gdX1_countWays_0.2.2.2.2.2.2.2.2.1
theorem dX1_countWays_13 : decode cX1_countWays 13 = .ok (.istore_n 3, 1) := gdX1_countWays_0.2.2.2.2.2.2.2.2.2.1
theorem dX1_countWays_14 : decode cX1_countWays 14 = .ok (.iconst 0, 1) := gdX1_countWays_0.2.2.2.2.2.2.2.2.2.2.1
theorem dX1_countWays_15 : decode cX1_countWays 15 = .ok (.istore 4, 2) := gdX1_countWays_0.2.2.2.2.2.2.2.2.2.2.2
theorem gdX1_countWays_17 : decode cX1_countWays 17 = .ok (.iload 4, 2) ∧ decode cX1_countWays 19 = .ok (.iload_n 2, 1) ∧ decode cX1_countWays 20 = .ok (.if_icmp .gt 34, 3) ∧ decode cX1_countWays 54 = .ok (.aload_n 0, 1) ∧ decode cX1_countWays 55 = .ok (.getfield 35, 3) ∧ decode cX1_countWays 58 = .ok (.iconst 1, 1) ∧ decode cX1_countWays 59 = .ok (.isub, 1) ∧ decode cX1_countWays 60 = .ok (.istore 4, 2) ∧ decode cX1_countWays 62 = .ok (.iload 4, 2) ∧ decode cX1_countWays 64 = .ok (.ifCond .lt 114, 3) ∧ decode cX1_countWays 178 = .ok (.return_, 1) ∧ decode cX1_countWays 67 = .ok (.aload_n 1, 1) := by decide +kernel
theorem dX1_countWays_17 : decode cX1_countWays 17 = .ok (.iload 4, 2) := gdX1_countWays_17.1
theorem dX1_countWays_19 : decode cX1_countWays 19 = .ok (.iload_n 2, 1) := gdX1_countWays_17.2.1
theorem dX1_countWays_20 : decode cX1_countWays 20 = .ok (.if_icmp .gt 34, 3) := gdX1_countWays_17.2.2.1
theorem dX1_countWays_54 : decode cX1_countWays 54 = .ok (.aload_n 0, 1) := gdX1_countWays_17.2.2.2.1
theorem dX1_countWays_55 : decode cX1_countWays 55 = .ok (.getfield 35, 3) := gdX1_countWays_17.2.2.2.2.1
theorem dX1_countWays_58 : decode cX1_countWays 58 = .ok (.iconst 1, 1) := gdX1_countWays_17.2.2.2.2.2.1
theorem dX1_countWays_59 : decode cX1_countWays 59 = .ok (.isub, 1) := gdX1_countWays_17.2.2.2.2.2.2.1
theorem dX1_countWays_60 : decode cX1_countWays 60 = .ok (.istore 4, 2) := gdX1_countWays_17.2.2.2.2.2.2.2.1
theorem dX1_countWays_62 : decode cX1_countWays 62 = .ok (.iload 4, 2) := gdX1_countWays_17.2.2.2.2.2.2.2.2.1
theorem dX1_countWays_64 : decode cX1_countWays 64 = .ok (.ifCond .lt 114, 3) := gdX1_countWays_17.2.2.2.2.2.2.2.2.2.1
theorem dX1_countWays_178 : decode cX1_countWays 178 = .ok (.return_, 1) := gdX1_countWays_17.2.2.2.2.2.2.2.2.2.2.1
theorem dX1_countWays_67 : decode cX1_countWays 67 = .ok (.aload_n 1, 1) := gdX1_countWays_17.2.2.2.2.2.2.2.2.2.2.2
theorem gdX1_countWays_68 : decode cX1_countWays 68 = .ok (.getfield 114, 3) ∧ decode cX1_countWays 71 = .ok (.iload 4, 2) ∧ decode cX1_countWays 73 = .ok (.iaload, 1) ∧ decode cX1_countWays 74 = .ok (.iload_n 3, 1) ∧ decode cX1_countWays 75 = .ok (.iand, 1) ∧ decode cX1_countWays 76 = .ok (.invokestatic 117, 3) := by decide +kernel
theorem dX1_countWays_68 : decode cX1_countWays 68 = .ok (.getfield 114, 3) := gdX1_countWays_68.1
theorem dX1_countWays_71 : decode cX1_countWays 71 = .ok (.iload 4, 2) := gdX1_countWays_68.2.1
theorem dX1_countWays_73 : decode cX1_countWays 73 = .ok (.iaload, 1) := gdX1_countWays_68.2.2.1
theorem dX1_countWays_74 : decode cX1_countWays 74 = .ok (.iload_n 3, 1) := gdX1_countWays_68.2.2.2.1
theorem dX1_countWays_75 : decode cX1_countWays 75 = .ok (.iand, 1) := gdX1_countWays_68.2.2.2.2.1
theorem dX1_countWays_76 : decode cX1_countWays 76 = .ok (.invokestatic 117, 3) := gdX1_countWays_68.2.2.2.2.2
theorem k_X1_117 : xS RX1 117 yJ6_bitCount_0f7a4 cJ6_bitCount_0f7a4 1 (some .int) 1 := ⟨⟨m_1205, m_1206, m_150, m_1207⟩, by decide, by decide, by decide +kernel⟩
theorem gdX1_countWays_79 : decode cX1_countWays 79 = .ok (.istore 5, 2) ∧ decode cX1_countWays 81 = .ok (.iconst 0, 1) ∧ decode cX1_countWays 82 = .ok (.istore 6, 2) ∧ decode cX1_countWays 84 = .ok (.iload 6, 2) ∧ decode cX1_countWays 86 = .ok (.iload_n 2, 1) ∧ decode cX1_countWays 87 = .ok (.if_icmp .gt 85, 3) ∧ decode cX1_countWays 172 = .ok (.iinc 4 (-1), 3) ∧ decode cX1_countWays 175 = .ok (.goto (-113), 3) ∧ decode cX1_countWays 90 = .ok (.iload 5, 2) ∧ decode cX1_countWays 92 = .ok (.aload_n 0, 1) ∧ decode cX1_countWays 93 = .ok (.getfield 21, 3) ∧ decode cX1_countWays 96 = .ok (.iload 4, 2) := by decide +kernel
theorem dX1_countWays_79 : decode cX1_countWays 79 = .ok (.istore 5, 2) := gdX1_countWays_79.1
theorem dX1_countWays_81 : decode cX1_countWays 81 = .ok (.iconst 0, 1) := gdX1_countWays_79.2.1
theorem dX1_countWays_82 : decode cX1_countWays 82 = .ok (.istore 6, 2) := gdX1_countWays_79.2.2.1
theorem dX1_countWays_84 : decode cX1_countWays 84 = .ok (.iload 6, 2) := gdX1_countWays_79.2.2.2.1
theorem dX1_countWays_86 : decode cX1_countWays 86 = .ok (.iload_n 2, 1) := gdX1_countWays_79.2.2.2.2.1
theorem dX1_countWays_87 : decode cX1_countWays 87 = .ok (.if_icmp .gt 85, 3) := gdX1_countWays_79.2.2.2.2.2.1
theorem dX1_countWays_172 : decode cX1_countWays 172 = .ok (.iinc 4 (-1), 3) := gdX1_countWays_79.2.2.2.2.2.2.1
theorem dX1_countWays_175 : decode cX1_countWays 175 = .ok (.goto (-113), 3) := gdX1_countWays_79.2.2.2.2.2.2.2.1
theorem dX1_countWays_90 : decode cX1_countWays 90 = .ok (.iload 5, 2) := gdX1_countWays_79.2.2.2.2.2.2.2.2.1
theorem dX1_countWays_92 : decode cX1_countWays 92 = .ok (.aload_n 0, 1) := gdX1_countWays_79.2.2.2.2.2.2.2.2.2.1
theorem dX1_countWays_93 : decode cX1_countWays 93 = .ok (.getfield 21, 3) := gdX1_countWays_79.2.2.2.2.2.2.2.2.2.2.1
theorem dX1_countWays_96 : decode cX1_countWays 96 = .ok (.iload 4, 2) := gdX1_countWays_79.2.2.2.2.2.2.2.2.2.2.2
theorem gdX1_countWays_98 : decode cX1_countWays 98 = .ok (.iconst 1, 1) ∧ decode cX1_countWays 99 = .ok (.iadd, 1) ∧ decode cX1_countWays 100 = .ok (.iload 6, 2) ∧ decode cX1_countWays 102 = .ok (.invokestatic 111, 3) := by decide +kernel
theorem dX1_countWays_98 : decode cX1_countWays 98 = .ok (.iconst 1, 1) := gdX1_countWays_98.1
theorem dX1_countWays_99 : decode cX1_countWays 99 = .ok (.iadd, 1) := gdX1_countWays_98.2.1
theorem dX1_countWays_100 : decode cX1_countWays 100 = .ok (.iload 6, 2) := gdX1_countWays_98.2.2.1
theorem dX1_countWays_102 : decode cX1_countWays 102 = .ok (.invokestatic 111, 3) := gdX1_countWays_98.2.2.2
theorem k_X1_111 : xS RX1 111 yX1_wayIndex cX1_wayIndex 2 (some .int) 2 := ⟨⟨m_1202, m_1203, m_143, m_1204⟩, by decide, by decide, by decide +kernel⟩
theorem gdX1_countWays_105 : decode cX1_countWays 105 = .ok (.iaload, 1) ∧ decode cX1_countWays 106 = .ok (.imul, 1) ∧ decode cX1_countWays 107 = .ok (.istore 7, 2) ∧ decode cX1_countWays 109 = .ok (.iload 6, 2) ∧ decode cX1_countWays 111 = .ok (.iload_n 2, 1) ∧ decode cX1_countWays 112 = .ok (.if_icmp .ge 40, 3) ∧ decode cX1_countWays 152 = .ok (.aload_n 0, 1) ∧ decode cX1_countWays 153 = .ok (.getfield 21, 3) ∧ decode cX1_countWays 156 = .ok (.iload 4, 2) ∧ decode cX1_countWays 158 = .ok (.iload 6, 2) ∧ decode cX1_countWays 160 = .ok (.invokestatic 111, 3) ∧ decode cX1_countWays 163 = .ok (.iload 7, 2) := by decide +kernel
theorem dX1_countWays_105 : decode cX1_countWays 105 = .ok (.iaload, 1) := gdX1_countWays_105.1
theorem dX1_countWays_106 : decode cX1_countWays 106 = .ok (.imul, 1) := gdX1_countWays_105.2.1
theorem dX1_countWays_107 : decode cX1_countWays 107 = .ok (.istore 7, 2) := gdX1_countWays_105.2.2.1
theorem dX1_countWays_109 : decode cX1_countWays 109 = .ok (.iload 6, 2) := gdX1_countWays_105.2.2.2.1
theorem dX1_countWays_111 : decode cX1_countWays 111 = .ok (.iload_n 2, 1) := gdX1_countWays_105.2.2.2.2.1
theorem dX1_countWays_112 : decode cX1_countWays 112 = .ok (.if_icmp .ge 40, 3) := gdX1_countWays_105.2.2.2.2.2.1
theorem dX1_countWays_152 : decode cX1_countWays 152 = .ok (.aload_n 0, 1) := gdX1_countWays_105.2.2.2.2.2.2.1
theorem dX1_countWays_153 : decode cX1_countWays 153 = .ok (.getfield 21, 3) := gdX1_countWays_105.2.2.2.2.2.2.2.1
theorem dX1_countWays_156 : decode cX1_countWays 156 = .ok (.iload 4, 2) := gdX1_countWays_105.2.2.2.2.2.2.2.2.1
theorem dX1_countWays_158 : decode cX1_countWays 158 = .ok (.iload 6, 2) := gdX1_countWays_105.2.2.2.2.2.2.2.2.2.1
theorem dX1_countWays_160 : decode cX1_countWays 160 = .ok (.invokestatic 111, 3) := gdX1_countWays_105.2.2.2.2.2.2.2.2.2.2.1
theorem dX1_countWays_163 : decode cX1_countWays 163 = .ok (.iload 7, 2) := gdX1_countWays_105.2.2.2.2.2.2.2.2.2.2.2
theorem gdX1_countWays_165 : decode cX1_countWays 165 = .ok (.iastore, 1) ∧ decode cX1_countWays 166 = .ok (.iinc 6 1, 3) ∧ decode cX1_countWays 169 = .ok (.goto (-85), 3) ∧ decode cX1_countWays 115 = .ok (.aload_n 1, 1) ∧ decode cX1_countWays 116 = .ok (.iload 4, 2) ∧ decode cX1_countWays 118 = .ok (.aload_n 0, 1) ∧ decode cX1_countWays 119 = .ok (.getfield 18, 3) ∧ decode cX1_countWays 122 = .ok (.iload 6, 2) ∧ decode cX1_countWays 124 = .ok (.iaload, 1) ∧ decode cX1_countWays 125 = .ok (.invokevirtual 70, 3) ∧ decode cX1_countWays 128 = .ok (.ifCond .eq 24, 3) ∧ decode cX1_countWays 131 = .ok (.iload 7, 2) := by decide +kernel
theorem dX1_countWays_165 : decode cX1_countWays 165 = .ok (.iastore, 1) := gdX1_countWays_165.1
theorem dX1_countWays_166 : decode cX1_countWays 166 = .ok (.iinc 6 1, 3) := gdX1_countWays_165.2.1
theorem dX1_countWays_169 : decode cX1_countWays 169 = .ok (.goto (-85), 3) := gdX1_countWays_165.2.2.1
theorem dX1_countWays_115 : decode cX1_countWays 115 = .ok (.aload_n 1, 1) := gdX1_countWays_165.2.2.2.1
theorem dX1_countWays_116 : decode cX1_countWays 116 = .ok (.iload 4, 2) := gdX1_countWays_165.2.2.2.2.1
theorem dX1_countWays_118 : decode cX1_countWays 118 = .ok (.aload_n 0, 1) := gdX1_countWays_165.2.2.2.2.2.1
theorem dX1_countWays_119 : decode cX1_countWays 119 = .ok (.getfield 18, 3) := gdX1_countWays_165.2.2.2.2.2.2.1
theorem dX1_countWays_122 : decode cX1_countWays 122 = .ok (.iload 6, 2) := gdX1_countWays_165.2.2.2.2.2.2.2.1
theorem dX1_countWays_124 : decode cX1_countWays 124 = .ok (.iaload, 1) := gdX1_countWays_165.2.2.2.2.2.2.2.2.1
theorem dX1_countWays_125 : decode cX1_countWays 125 = .ok (.invokevirtual 70, 3) := gdX1_countWays_165.2.2.2.2.2.2.2.2.2.1
theorem dX1_countWays_128 : decode cX1_countWays 128 = .ok (.ifCond .eq 24, 3) := gdX1_countWays_165.2.2.2.2.2.2.2.2.2.2.1
theorem dX1_countWays_131 : decode cX1_countWays 131 = .ok (.iload 7, 2) := gdX1_countWays_165.2.2.2.2.2.2.2.2.2.2.2
theorem gdX1_countWays_133 : decode cX1_countWays 133 = .ok (.aload_n 0, 1) ∧ decode cX1_countWays 134 = .ok (.getfield 21, 3) ∧ decode cX1_countWays 137 = .ok (.iload 4, 2) ∧ decode cX1_countWays 139 = .ok (.iconst 1, 1) ∧ decode cX1_countWays 140 = .ok (.iadd, 1) ∧ decode cX1_countWays 141 = .ok (.iload 6, 2) ∧ decode cX1_countWays 143 = .ok (.iconst 1, 1) ∧ decode cX1_countWays 144 = .ok (.iadd, 1) ∧ decode cX1_countWays 145 = .ok (.invokestatic 111, 3) ∧ decode cX1_countWays 148 = .ok (.iaload, 1) ∧ decode cX1_countWays 149 = .ok (.iadd, 1) ∧ decode cX1_countWays 150 = .ok (.istore 7, 2) := by decide +kernel
theorem dX1_countWays_133 : decode cX1_countWays 133 = .ok (.aload_n 0, 1) := gdX1_countWays_133.1
theorem dX1_countWays_134 : decode cX1_countWays 134 = .ok (.getfield 21, 3) := gdX1_countWays_133.2.1
theorem dX1_countWays_137 : decode cX1_countWays 137 = .ok (.iload 4, 2) := gdX1_countWays_133.2.2.1
theorem dX1_countWays_139 : decode cX1_countWays 139 = .ok (.iconst 1, 1) := gdX1_countWays_133.2.2.2.1
theorem dX1_countWays_140 : decode cX1_countWays 140 = .ok (.iadd, 1) := gdX1_countWays_133.2.2.2.2.1
theorem dX1_countWays_141 : decode cX1_countWays 141 = .ok (.iload 6, 2) := gdX1_countWays_133.2.2.2.2.2.1
theorem dX1_countWays_143 : decode cX1_countWays 143 = .ok (.iconst 1, 1) := gdX1_countWays_133.2.2.2.2.2.2.1
theorem dX1_countWays_144 : decode cX1_countWays 144 = .ok (.iadd, 1) := gdX1_countWays_133.2.2.2.2.2.2.2.1
theorem dX1_countWays_145 : decode cX1_countWays 145 = .ok (.invokestatic 111, 3) := gdX1_countWays_133.2.2.2.2.2.2.2.2.1
theorem dX1_countWays_148 : decode cX1_countWays 148 = .ok (.iaload, 1) := gdX1_countWays_133.2.2.2.2.2.2.2.2.2.1
theorem dX1_countWays_149 : decode cX1_countWays 149 = .ok (.iadd, 1) := gdX1_countWays_133.2.2.2.2.2.2.2.2.2.2.1
theorem dX1_countWays_150 : decode cX1_countWays 150 = .ok (.istore 7, 2) := gdX1_countWays_133.2.2.2.2.2.2.2.2.2.2.2
theorem gdX1_countWays_23 : decode cX1_countWays 23 = .ok (.aload_n 0, 1) ∧ decode cX1_countWays 24 = .ok (.getfield 21, 3) ∧ decode cX1_countWays 27 = .ok (.aload_n 0, 1) ∧ decode cX1_countWays 28 = .ok (.getfield 35, 3) ∧ decode cX1_countWays 31 = .ok (.iload 4, 2) ∧ decode cX1_countWays 33 = .ok (.invokestatic 111, 3) ∧ decode cX1_countWays 36 = .ok (.iload 4, 2) ∧ decode cX1_countWays 38 = .ok (.iload_n 2, 1) ∧ decode cX1_countWays 39 = .ok (.if_icmp .ne 7, 3) ∧ decode cX1_countWays 46 = .ok (.iconst 0, 1) ∧ decode cX1_countWays 47 = .ok (.iastore, 1) ∧ decode cX1_countWays 48 = .ok (.iinc 4 1, 3) := by decide +kernel
theorem dX1_countWays_23 : decode cX1_countWays 23 = .ok (.aload_n 0, 1) := gdX1_countWays_23.1
theorem dX1_countWays_24 : decode cX1_countWays 24 = .ok (.getfield 21, 3) := gdX1_countWays_23.2.1
theorem dX1_countWays_27 : decode cX1_countWays 27 = .ok (.aload_n 0, 1) := gdX1_countWays_23.2.2.1
theorem dX1_countWays_28 : decode cX1_countWays 28 = .ok (.getfield 35, 3) := gdX1_countWays_23.2.2.2.1
theorem dX1_countWays_31 : decode cX1_countWays 31 = .ok (.iload 4, 2) := gdX1_countWays_23.2.2.2.2.1
theorem dX1_countWays_33 : decode cX1_countWays 33 = .ok (.invokestatic 111, 3) := gdX1_countWays_23.2.2.2.2.2.1
theorem dX1_countWays_36 : decode cX1_countWays 36 = .ok (.iload 4, 2) := gdX1_countWays_23.2.2.2.2.2.2.1
theorem dX1_countWays_38 : decode cX1_countWays 38 = .ok (.iload_n 2, 1) := gdX1_countWays_23.2.2.2.2.2.2.2.1
theorem dX1_countWays_39 : decode cX1_countWays 39 = .ok (.if_icmp .ne 7, 3) := gdX1_countWays_23.2.2.2.2.2.2.2.2.1
theorem dX1_countWays_46 : decode cX1_countWays 46 = .ok (.iconst 0, 1) := gdX1_countWays_23.2.2.2.2.2.2.2.2.2.1
theorem dX1_countWays_47 : decode cX1_countWays 47 = .ok (.iastore, 1) := gdX1_countWays_23.2.2.2.2.2.2.2.2.2.2.1
theorem dX1_countWays_48 : decode cX1_countWays 48 = .ok (.iinc 4 1, 3) := gdX1_countWays_23.2.2.2.2.2.2.2.2.2.2.2
theorem gdX1_countWays_51 : decode cX1_countWays 51 = .ok (.goto (-34), 3) ∧ decode cX1_countWays 42 = .ok (.iconst 1, 1) ∧ decode cX1_countWays 43 = .ok (.goto 4, 3) := by decide +kernel
theorem dX1_countWays_51 : decode cX1_countWays 51 = .ok (.goto (-34), 3) := gdX1_countWays_51.1
theorem dX1_countWays_42 : decode cX1_countWays 42 = .ok (.iconst 1, 1) := gdX1_countWays_51.2.1
theorem dX1_countWays_43 : decode cX1_countWays 43 = .ok (.goto 4, 3) := gdX1_countWays_51.2.2
set_option maxHeartbeats 1000000 in
set_option maxRecDepth 100000 in
theorem s_countWays (l : Launch) (D : va_G) (cy : Nat → ClassId) (q0 : Nat) (q1 : Nat) (q2 : Nat) (q3 : Nat) (q4 : Nat) (er : Nat) (ql : Nat) (qo : Int32) (fwa : Nat → Int32) (fwy : Nat → Int32) (h0 : Nat) (h1 : Nat) (h2 : Nat) (h3 : Nat) (h4 : Nat) (h5 : Nat) (h6 : Nat) (h7 : Nat) (h8 : Nat) (h9 : Nat) (h10 : Nat) (h11 : Nat) (hv0 : Value) (hv1 : Value) (hv2 : Value) (hv3 : Value) (hv4 : Value) (fc : Nat → Int32) (c0 : Nat) (c1 : Nat) (c2 : Nat) (c3 : Nat) (e0 : Nat) (e1 : Nat) (e2 : Nat) (et : Int32) (el : Nat) (ef : Nat) (fg : Nat → Int32) (sz : Nat) (hcn : cntOK fc c0 c1 c2 c3) (hc0 : c0 ≤ 8) (hc1 : c1 ≤ 4) (hc2 : c2 ≤ 4) (hc3 : c3 ≤ 6) (hql : ql ≤ 5) (hql1 : 1 ≤ ql) (hsz : sz ≤ 10) : XMv l D (tyL cy) E0 yX1_countWays cX1_countWays 8 none (rmk 2 0 0) [.ref q0, .ref e0, .int (nI sz)] [wO q0 1 [.ref q1, .ref er, .ref q2, .ref q3, .ref q4, .ref h0, .int (nI ql), .int qo], wI (cy 1) q3 10 (fwa), wI (cy 1) q4 66 (fwy), wO h0 4 [.ref h1, .ref h2, .ref h3, .ref h4, .ref h5, .ref h6, .ref h7, .ref h8, .ref h9, .ref h10, .ref h11, hv0, hv1, hv2, hv3, hv4], wI (cy 1) h1 4 (fc), wO e0 2 [.ref e1, .ref e2, .int et, .int (nI el), .int (nI ef)], wI (cy 1) e1 10 (fg)] (fun (fwy2 : Nat → Int32) => (∀ i9 j9 : Nat, i9 ≤ ql → j9 ≤ sz → fwy2 (i9 * 11 + j9) = nI (waD fg c0 fwa sz ql (ql - i9) j9))) (fun (fwy2 : Nat → Int32) => [wO q0 1 [.ref q1, .ref er, .ref q2, .ref q3, .ref q4, .ref h0, .int (nI ql), .int qo], wI (cy 1) q3 10 (fwa), wI (cy 1) q4 66 (fwy2), wO h0 4 [.ref h1, .ref h2, .ref h3, .ref h4, .ref h5, .ref h6, .ref h7, .ref h8, .ref h9, .ref h10, .ref h11, hv0, hv1, hv2, hv3, hv4], wI (cy 1) h1 4 (fc), wO e0 2 [.ref e1, .ref e2, .int et, .int (nI el), .int (nI ef)], wI (cy 1) e1 10 (fg)]) := by
  refine XMv.start (by decide) (Nat.le_of_ble_eq_true rfl) ?_
  intro p e s m below meth c args A ls Q hat hQ
  obtain ⟨hx, hb, hr, hml, hown, hg, hlocks, hin, hK, hA, hP, hD, hS, hE, hl⟩ := hat
  have hown : s.vm.findClass RX1 = some m.cls := hown
  have hl : lv_has ls 8 [(0, .ref q0), (1, .ref e0), (2, .int (nI sz))] := hl
  refine lv_iconst (v := 1) hx hb dX1_countWays_0 (by decide) ?_
  refine lv_aload_n hx hb dX1_countWays_1 rfl (lv_at hl 0 rfl) ?_
  refine va_get (D := D) (ci := 1) (v := .ref h0) (C := RX1) (T := TX1) (N := 8) hx hb hg i_X1 hown hK hP 0 rfl rfl 5 (by decide) (hg _ m_558) (fun _ h9 => h9) rfl dX1_countWays_2 ?_
  refine va_get (D := D) (ci := 4) (v := .ref h1) (C := RX4) (T := TX4) (N := 16) hx hb hg i_X4 hown hK hP 3 rfl rfl 0 (by decide) (hg _ m_331) (fun _ h9 => h9) rfl dX1_countWays_5 ?_
  refine lv_iconst (v := 0) hx hb dX1_countWays_8 (by decide) ?_
  refine va_iald hx hb hK hP 4 1 rfl rfl (by unfold vp_in; decide) dX1_countWays_9 ?_
  refine lv_topi (fun y_1 hy_1 => ?_)
  obtain rfl : y_1 = nI c0 := hy_1.trans hcn.1
  refine lv_ishl hx hb dX1_countWays_10 ?_
  refine lv_topi (fun x_2 ex_2 => ?_)
  refine lv_iconst (v := 1) hx hb dX1_countWays_11 (by decide) ?_
  refine lv_isub hx hb dX1_countWays_12 ?_
  refine lv_topi (fun x_3 ex_3 => ?_)
  refine lv_istore_n (lv' := [(3, .int x_3), (0, .ref q0), (1, .ref e0), (2, .int (nI sz))]) hx hb dX1_countWays_13 rfl hl (by decide) rfl (fun ls hl => ?_)
  refine lv_iconst (v := 0) hx hb dX1_countWays_14 (by decide) ?_
  refine lv_istore (lv' := [(4, .int 0), (3, .int x_3), (0, .ref q0), (1, .ref e0), (2, .int (nI sz))]) hx hb dX1_countWays_15 hl (by decide) rfl (fun ls hl => ?_)
  have loop4 : ∀ (zn : Nat) (j4 : Nat) (fa1_4 : Nat → Int32), (j4 ≤ sz + 1) → (∀ j9 : Nat, j9 < j4 → fa1_4 (ql * 11 + j9) = nI (waD fg c0 fwa sz ql 0 j9)) → 11 - j4 + 1 ≤ zn → ∀ (H : Heap) (locs : List Loc), va_P D vwCl [wO q0 1 [.ref q1, .ref er, .ref q2, .ref q3, .ref q4, .ref h0, .int (nI ql), .int qo], wI (cy 1) q3 10 (fwa), wI (cy 1) q4 66 (fa1_4), wO h0 4 [.ref h1, .ref h2, .ref h3, .ref h4, .ref h5, .ref h6, .ref h7, .ref h8, .ref h9, .ref h10, .ref h11, hv0, hv1, hv2, hv3, hv4], wI (cy 1) h1 4 (fc), wO e0 2 [.ref e1, .ref e2, .int et, .int (nI el), .int (nI ef)], wI (cy 1) e1 10 (fg)] H → va_D A [wO q0 1 [.ref q1, .ref er, .ref q2, .ref q3, .ref q4, .ref h0, .int (nI ql), .int qo], wI (cy 1) q3 10 (fwa), wI (cy 1) q4 66 (fa1_4), wO h0 4 [.ref h1, .ref h2, .ref h3, .ref h4, .ref h5, .ref h6, .ref h7, .ref h8, .ref h9, .ref h10, .ref h11, hv0, hv1, hv2, hv3, hv4], wI (cy 1) h1 4 (fc), wO e0 2 [.ref e1, .ref e2, .int et, .int (nI el), .int (nI ef)], wI (cy 1) e1 10 (fg)] → va_S A s.heap H locs → ∀ ls : Array Slot, lv_has ls 8 [(4, .int (nI j4)), (3, .int x_3), (0, .ref q0), (1, .ref e0), (2, .int (nI sz))] → W p l e (rmk 2 0 0) s m args below meth c H locs 0 0 Q (F0 m 17 ls []) := by
    try clear hP hD hS
    intro zn
    induction zn with
    | zero => intro j4 fa1_4 _ _ hz; exact absurd hz (by omega)
    | succ zn ih4 =>
      intro j4 fa1_4 hf0_4 hf1_4 hmu4 H locs hP hD hS ls hl
      refine lv_iload hx hb dX1_countWays_17 (lv_at hl 0 rfl) ?_
      refine lv_iload_n hx hb dX1_countWays_19 rfl (lv_at hl 4 rfl) ?_
      refine lv_icmp_gt (tgt := 54) hx hb dX1_countWays_20 (by decide) (fun c_5 => ?_) (fun c_5 => ?_)
      · have q_6 : sz < j4 := q_lt (a := sz) (b := j4) rfl rfl (by omega) (by omega) c_5
        refine lv_aload_n hx hb dX1_countWays_54 rfl (lv_at hl 2 rfl) ?_
        refine va_get (D := D) (ci := 1) (v := .int (nI ql)) (C := RX1) (T := TX1) (N := 8) hx hb hg i_X1 hown hK hP 0 rfl rfl 6 (by decide) (hg _ m_559) (fun _ h9 => h9) rfl dX1_countWays_55 ?_
        refine lv_iconst (v := 1) hx hb dX1_countWays_58 (by decide) ?_
        refine lv_isub hx hb dX1_countWays_59 ?_
        refine lv_topi (fun y_7 hy_7 => ?_)
        obtain rfl : y_7 = nI (ql - 1) := hy_7.trans (pk_sub (a := ql) (b := 1) (by omega))
        refine lv_istore (lv' := [(4, .int (nI (ql - 1))), (3, .int x_3), (0, .ref q0), (1, .ref e0), (2, .int (nI sz))]) hx hb dX1_countWays_60 hl (by decide) rfl (fun ls hl => ?_)
        have loop8 : ∀ (zn : Nat) (iv8 : Int32) (x8 : Nat) (fa2_8 : Nat → Int32), (iv8 = nI x8 - 1) → (x8 ≤ ql) → (∀ i9 j9 : Nat, x8 ≤ i9 → i9 ≤ ql → j9 ≤ sz → fa2_8 (i9 * 11 + j9) = nI (waD fg c0 fwa sz ql (ql - i9) j9)) → x8 + 1 ≤ zn → ∀ (H : Heap) (locs : List Loc), va_P D vwCl [wO q0 1 [.ref q1, .ref er, .ref q2, .ref q3, .ref q4, .ref h0, .int (nI ql), .int qo], wI (cy 1) q3 10 (fwa), wI (cy 1) q4 66 (fa2_8), wO h0 4 [.ref h1, .ref h2, .ref h3, .ref h4, .ref h5, .ref h6, .ref h7, .ref h8, .ref h9, .ref h10, .ref h11, hv0, hv1, hv2, hv3, hv4], wI (cy 1) h1 4 (fc), wO e0 2 [.ref e1, .ref e2, .int et, .int (nI el), .int (nI ef)], wI (cy 1) e1 10 (fg)] H → va_D A [wO q0 1 [.ref q1, .ref er, .ref q2, .ref q3, .ref q4, .ref h0, .int (nI ql), .int qo], wI (cy 1) q3 10 (fwa), wI (cy 1) q4 66 (fa2_8), wO h0 4 [.ref h1, .ref h2, .ref h3, .ref h4, .ref h5, .ref h6, .ref h7, .ref h8, .ref h9, .ref h10, .ref h11, hv0, hv1, hv2, hv3, hv4], wI (cy 1) h1 4 (fc), wO e0 2 [.ref e1, .ref e2, .int et, .int (nI el), .int (nI ef)], wI (cy 1) e1 10 (fg)] → va_S A s.heap H locs → ∀ ls : Array Slot, lv_has ls 8 [(4, .int iv8), (3, .int x_3), (0, .ref q0), (1, .ref e0), (2, .int (nI sz))] → W p l e (rmk 2 0 0) s m args below meth c H locs 0 0 Q (F0 m 62 ls []) := by
          try clear hP hD hS
          intro zn
          induction zn with
          | zero => intro iv8 x8 fa2_8 _ _ _ hz; exact absurd hz (by omega)
          | succ zn ih8 =>
            intro iv8 x8 fa2_8 hf0_8 hf1_8 hf2_8 hmu8 H locs hP hD hS ls hl
            refine lv_iload hx hb dX1_countWays_62 (lv_at hl 0 rfl) ?_
            refine lv_if_lt (tgt := 178) hx hb dX1_countWays_64 (by decide) (fun c_64 => ?_) (fun c_64 => ?_)
            · exact x_vret hQ hx hb hr hlocks hK hP hD hS dX1_countWays_178 fa2_8 ((fun i9 j9 h1 h2 => hf2_8 i9 j9 (by have h9 := wd_x hf0_8 c_64 (by omega); omega) h1 h2)) [0, 1, 2, 3, 4, 5, 6] (by decide +kernel) rfl (Nat.le_of_ble_eq_true rfl) (Nat.le_of_ble_eq_true rfl)
            · have hx1 : 1 ≤ x8 := by rcases Nat.eq_zero_or_pos x8 with h | h; exact absurd (by rw [hf0_8, h]; decide) c_64; exact h
              have hiv : iv8 = nI (x8 - 1) := by rw [hf0_8]; have h8 := nI_pred (x8 - 1); rwa [Nat.sub_add_cancel hx1] at h8
              subst hiv
              refine lv_aload_n hx hb dX1_countWays_67 rfl (lv_at hl 3 rfl) ?_
              refine va_get (D := D) (ci := 2) (v := .ref e1) (C := RX2) (T := TX2) (N := 5) hx hb hg i_X2 hown hK hP 5 rfl rfl 0 (by decide) (hg _ m_514) (fun _ h9 => h9) rfl dX1_countWays_68 ?_
              refine lv_iload hx hb dX1_countWays_71 (lv_at hl 0 rfl) ?_
              refine va_iald hx hb hK hP 6 1 rfl rfl (vp_in_nI (by omega) (by decide)) dX1_countWays_73 ?_
              refine lv_topi (fun x_9 ex_9 => ?_)
              refine lv_iload_n hx hb dX1_countWays_74 rfl (lv_at hl 1 rfl) ?_
              refine lv_iand hx hb dX1_countWays_75 ?_
              refine lv_topi (fun x_10 ex_10 => ?_)
              refine x_callSi (wr := [wO q0 1 [.ref q1, .ref er, .ref q2, .ref q3, .ref q4, .ref h0, .int (nI ql), .int qo], wI (cy 1) q3 10 (fwa), wI (cy 1) q4 66 (fa2_8), wO h0 4 [.ref h1, .ref h2, .ref h3, .ref h4, .ref h5, .ref h6, .ref h7, .ref h8, .ref h9, .ref h10, .ref h11, hv0, hv1, hv2, hv3, hv4], wI (cy 1) h1 4 (fc), wO e0 2 [.ref e1, .ref e2, .int et, .int (nI el), .int (nI ef)], wI (cy 1) e1 10 (fg)]) (rest := []) ⟨hx, hb, hml, hown, hg, hl.1⟩ k_X1_117 (s_bitCount l D cy x_10) E0_blind hK hP hD hS hA [] [0, 1, 2, 3, 4, 5, 6] ⟨rfl, rfl, by decide +kernel, by decide +kernel, by decide +kernel⟩ (fun _ _ _ => trivial) dX1_countWays_76 rfl rfl (Nat.le_of_ble_eq_true rfl) ⟨Nat.le_of_ble_eq_true rfl, Nat.le_of_ble_eq_true rfl⟩ ⟨Nat.le_of_ble_eq_true rfl, Nat.le_of_ble_eq_true rfl⟩ (fun zr11 zu11 H locs hw11 hP9 hD9 hS9 => ?_)
              clear hP hD hS
              refine reW [wO q0 1 [.ref q1, .ref er, .ref q2, .ref q3, .ref q4, .ref h0, .int (nI ql), .int qo], wI (cy 1) q3 10 (fwa), wI (cy 1) q4 66 (fa2_8), wO h0 4 [.ref h1, .ref h2, .ref h3, .ref h4, .ref h5, .ref h6, .ref h7, .ref h8, .ref h9, .ref h10, .ref h11, hv0, hv1, hv2, hv3, hv4], wI (cy 1) h1 4 (fc), wO e0 2 [.ref e1, .ref e2, .int et, .int (nI el), .int (nI ef)], wI (cy 1) e1 10 (fg)] hP9 hD9 hS9 (fun hP hD hS => ?_)
              clear hP9 hD9 hS9
              refine W.widen (k := 0) (n := 0) (Nat.le_of_ble_eq_true rfl) (Nat.le_of_ble_eq_true rfl) ?_
              replace hw11 : (zr11 = bcE x_10) := hw11
              have f_12 := hw11
              have hsil : zr11 = nI (silN (fg (x8 - 1)) c0) := f_12.trans (bc_sil (by omega) (ex_3.trans (by rw [ex_2])) (ex_10.trans (by rw [ex_9, nI_clamp (by omega)])))
              refine lv_istore (lv' := [(5, .int zr11), (4, .int (nI (x8 - 1))), (3, .int x_3), (0, .ref q0), (1, .ref e0), (2, .int (nI sz))]) hx hb dX1_countWays_79 hl (by decide) rfl (fun ls hl => ?_)
              refine lv_iconst (v := 0) hx hb dX1_countWays_81 (by decide) ?_
              refine lv_istore (lv' := [(6, .int 0), (5, .int zr11), (4, .int (nI (x8 - 1))), (3, .int x_3), (0, .ref q0), (1, .ref e0), (2, .int (nI sz))]) hx hb dX1_countWays_82 hl (by decide) rfl (fun ls hl => ?_)
              have loop13 : ∀ (zn : Nat) (j13 : Nat) (fa1_13 : Nat → Int32), (j13 ≤ sz + 1) → (∀ i9 j9 : Nat, x8 ≤ i9 → i9 ≤ ql → j9 ≤ sz → fa1_13 (i9 * 11 + j9) = nI (waD fg c0 fwa sz ql (ql - i9) j9)) → (∀ j9 : Nat, j9 < j13 → fa1_13 ((x8 - 1) * 11 + j9) = nI (waD fg c0 fwa sz ql (ql - (x8 - 1)) j9)) → 11 - j13 + 1 ≤ zn → ∀ (H : Heap) (locs : List Loc), va_P D vwCl [wO q0 1 [.ref q1, .ref er, .ref q2, .ref q3, .ref q4, .ref h0, .int (nI ql), .int qo], wI (cy 1) q3 10 (fwa), wI (cy 1) q4 66 (fa1_13), wO h0 4 [.ref h1, .ref h2, .ref h3, .ref h4, .ref h5, .ref h6, .ref h7, .ref h8, .ref h9, .ref h10, .ref h11, hv0, hv1, hv2, hv3, hv4], wI (cy 1) h1 4 (fc), wO e0 2 [.ref e1, .ref e2, .int et, .int (nI el), .int (nI ef)], wI (cy 1) e1 10 (fg)] H → va_D A [wO q0 1 [.ref q1, .ref er, .ref q2, .ref q3, .ref q4, .ref h0, .int (nI ql), .int qo], wI (cy 1) q3 10 (fwa), wI (cy 1) q4 66 (fa1_13), wO h0 4 [.ref h1, .ref h2, .ref h3, .ref h4, .ref h5, .ref h6, .ref h7, .ref h8, .ref h9, .ref h10, .ref h11, hv0, hv1, hv2, hv3, hv4], wI (cy 1) h1 4 (fc), wO e0 2 [.ref e1, .ref e2, .int et, .int (nI el), .int (nI ef)], wI (cy 1) e1 10 (fg)] → va_S A s.heap H locs → ∀ ls : Array Slot, lv_has ls 8 [(6, .int (nI j13)), (5, .int zr11), (4, .int (nI (x8 - 1))), (3, .int x_3), (0, .ref q0), (1, .ref e0), (2, .int (nI sz))] → W p l e (rmk 2 0 0) s m args below meth c H locs 0 0 Q (F0 m 84 ls []) := by
                try clear hP hD hS
                intro zn
                induction zn with
                | zero => intro j13 fa1_13 _ _ _ hz; exact absurd hz (by omega)
                | succ zn ih13 =>
                  intro j13 fa1_13 hf0_13 hf1_13 hf2_13 hmu13 H locs hP hD hS ls hl
                  refine lv_iload hx hb dX1_countWays_84 (lv_at hl 0 rfl) ?_
                  refine lv_iload_n hx hb dX1_countWays_86 rfl (lv_at hl 6 rfl) ?_
                  refine lv_icmp_gt (tgt := 172) hx hb dX1_countWays_87 (by decide) (fun c_14 => ?_) (fun c_14 => ?_)
                  · have q_15 : sz < j13 := q_lt (a := sz) (b := j13) rfl rfl (by omega) (by omega) c_14
                    obtain ⟨x_16, ex_16⟩ : ∃ y : Int32, nI (x8 - 1) + Int32.ofInt (-1) = y := ⟨_, rfl⟩
                    refine lv_iinc (v := x_16) (lv' := [(4, .int x_16), (6, .int (nI j13)), (5, .int zr11), (3, .int x_3), (0, .ref q0), (1, .ref e0), (2, .int (nI sz))]) hx hb dX1_countWays_172 hl (k := 2) rfl ex_16 (by decide) rfl (fun ls hl => ?_)
                    refine lv_goto (tgt := 62) hx hb dX1_countWays_175 (by decide) ?_
                    exact ih8  x_16 (x8 - 1) fa1_13 (ex_16.symm.trans (addm1 _)) (by omega) (wd_e hf1_13 hf2_13 (by omega) hx1) (by omega) _ _ (hP.sub [0, 1, 2, 3, 4, 5, 6] rfl) (hD.sub [0, 1, 2, 3, 4, 5, 6] (by decide +kernel) rfl) hS ls (lv_sub hl [0, 3, 4, 5, 6] rfl)
                  · have q_15 : j13 ≤ sz := q_nlt (a := sz) (b := j13) rfl rfl (by omega) (by omega) c_14
                    refine lv_iload hx hb dX1_countWays_90 (lv_at hl 1 rfl) ?_
                    refine lv_aload_n hx hb dX1_countWays_92 rfl (lv_at hl 4 rfl) ?_
                    refine va_get (D := D) (ci := 1) (v := .ref q4) (C := RX1) (T := TX1) (N := 8) hx hb hg i_X1 hown hK hP 0 rfl rfl 4 (by decide) (hg _ m_557) (fun _ h9 => h9) rfl dX1_countWays_93 ?_
                    refine lv_iload hx hb dX1_countWays_96 (lv_at hl 2 rfl) ?_
                    refine lv_iconst (v := 1) hx hb dX1_countWays_98 (by decide) ?_
                    refine lv_iadd hx hb dX1_countWays_99 ?_
                    refine lv_topi (fun y_17 hy_17 => ?_)
                    obtain rfl : y_17 = nI ((x8 - 1) + 1) := hy_17.trans (nI_add ((x8 - 1)) 1)
                    refine lv_iload hx hb dX1_countWays_100 (lv_at hl 0 rfl) ?_
                    refine x_callSi (wr := [wO q0 1 [.ref q1, .ref er, .ref q2, .ref q3, .ref q4, .ref h0, .int (nI ql), .int qo], wI (cy 1) q3 10 (fwa), wI (cy 1) q4 66 (fa1_13), wO h0 4 [.ref h1, .ref h2, .ref h3, .ref h4, .ref h5, .ref h6, .ref h7, .ref h8, .ref h9, .ref h10, .ref h11, hv0, hv1, hv2, hv3, hv4], wI (cy 1) h1 4 (fc), wO e0 2 [.ref e1, .ref e2, .int et, .int (nI el), .int (nI ef)], wI (cy 1) e1 10 (fg)]) (rest := [.ref q4, .int zr11]) ⟨hx, hb, hml, hown, hg, hl.1⟩ k_X1_111 (s_wayIndex l D cy (((x8 - 1) + 1)) j13 (by omega) (by omega)) E0_blind hK hP hD hS hA [] [0, 1, 2, 3, 4, 5, 6] ⟨rfl, rfl, by decide +kernel, by decide +kernel, by decide +kernel⟩ (fun _ _ _ => trivial) dX1_countWays_102 rfl rfl (Nat.le_of_ble_eq_true rfl) ⟨Nat.le_of_ble_eq_true rfl, Nat.le_of_ble_eq_true rfl⟩ ⟨Nat.le_of_ble_eq_true rfl, Nat.le_of_ble_eq_true rfl⟩ (fun zr18 zu18 H locs hw18 hP9 hD9 hS9 => ?_)
                    clear hP hD hS
                    obtain ⟨k_19, rfl⟩ : ∃ z, z = zu18 := ⟨_, rfl⟩
                    refine reW [wO q0 1 [.ref q1, .ref er, .ref q2, .ref q3, .ref q4, .ref h0, .int (nI ql), .int qo], wI (cy 1) q3 10 (fwa), wI (cy 1) q4 66 (fa1_13), wO h0 4 [.ref h1, .ref h2, .ref h3, .ref h4, .ref h5, .ref h6, .ref h7, .ref h8, .ref h9, .ref h10, .ref h11, hv0, hv1, hv2, hv3, hv4], wI (cy 1) h1 4 (fc), wO e0 2 [.ref e1, .ref e2, .int et, .int (nI el), .int (nI ef)], wI (cy 1) e1 10 (fg)] hP9 hD9 hS9 (fun hP hD hS => ?_)
                    clear hP9 hD9 hS9
                    refine W.widen (k := 0) (n := 0) (Nat.le_of_ble_eq_true rfl) (Nat.le_of_ble_eq_true rfl) ?_
                    replace hw18 : (zr18 = nI k_19) ∧ (k_19 = (((x8 - 1) + 1)) * 11 + j13) := hw18
                    obtain ⟨f_20, f_21⟩ := hw18
                    subst f_20
                    refine va_iald hx hb hK hP 2 1 rfl rfl (vp_in_nI (by omega) (by decide)) dX1_countWays_105 ?_
                    refine lv_topi (fun x_22 ex_22 => ?_)
                    have hwz_23 := wd_at hf1_13 f_21 (show x8 - 1 + 1 = x8 by omega) (by omega) (by omega) (by omega) ex_22
                    refine lv_imul hx hb dX1_countWays_106 ?_
                    refine lv_topi (fun x_24 ex_24 => ?_)
                    refine lv_istore (lv' := [(7, .int x_24), (6, .int (nI j13)), (5, .int zr11), (4, .int (nI (x8 - 1))), (3, .int x_3), (0, .ref q0), (1, .ref e0), (2, .int (nI sz))]) hx hb dX1_countWays_107 hl (by decide) rfl (fun ls hl => ?_)
                    refine lv_iload hx hb dX1_countWays_109 (lv_at hl 1 rfl) ?_
                    refine lv_iload_n hx hb dX1_countWays_111 rfl (lv_at hl 7 rfl) ?_
                    refine lv_icmp_ge (tgt := 152) hx hb dX1_countWays_112 (by decide) (fun c_25 => ?_) (fun c_25 => ?_)
                    · have q_26 : sz ≤ j13 := q_le (a := sz) (b := j13) rfl rfl (by omega) (by omega) c_25
                      refine lv_aload_n hx hb dX1_countWays_152 rfl (lv_at hl 5 rfl) ?_
                      refine va_get (D := D) (ci := 1) (v := .ref q4) (C := RX1) (T := TX1) (N := 8) hx hb hg i_X1 hown hK hP 0 rfl rfl 4 (by decide) (hg _ m_557) (fun _ h9 => h9) rfl dX1_countWays_153 ?_
                      refine lv_iload hx hb dX1_countWays_156 (lv_at hl 3 rfl) ?_
                      refine lv_iload hx hb dX1_countWays_158 (lv_at hl 1 rfl) ?_
                      refine x_callSi (wr := [wO q0 1 [.ref q1, .ref er, .ref q2, .ref q3, .ref q4, .ref h0, .int (nI ql), .int qo], wI (cy 1) q3 10 (fwa), wI (cy 1) q4 66 (fa1_13), wO h0 4 [.ref h1, .ref h2, .ref h3, .ref h4, .ref h5, .ref h6, .ref h7, .ref h8, .ref h9, .ref h10, .ref h11, hv0, hv1, hv2, hv3, hv4], wI (cy 1) h1 4 (fc), wO e0 2 [.ref e1, .ref e2, .int et, .int (nI el), .int (nI ef)], wI (cy 1) e1 10 (fg)]) (rest := [.ref q4]) ⟨hx, hb, hml, hown, hg, hl.1⟩ k_X1_111 (s_wayIndex l D cy ((x8 - 1)) j13 (by omega) (by omega)) E0_blind hK hP hD hS hA [] [0, 1, 2, 3, 4, 5, 6] ⟨rfl, rfl, by decide +kernel, by decide +kernel, by decide +kernel⟩ (fun _ _ _ => trivial) dX1_countWays_160 rfl rfl (Nat.le_of_ble_eq_true rfl) ⟨Nat.le_of_ble_eq_true rfl, Nat.le_of_ble_eq_true rfl⟩ ⟨Nat.le_of_ble_eq_true rfl, Nat.le_of_ble_eq_true rfl⟩ (fun zr27 zu27 H locs hw27 hP9 hD9 hS9 => ?_)
                      clear hP hD hS
                      obtain ⟨k_28, rfl⟩ : ∃ z, z = zu27 := ⟨_, rfl⟩
                      refine reW [wO q0 1 [.ref q1, .ref er, .ref q2, .ref q3, .ref q4, .ref h0, .int (nI ql), .int qo], wI (cy 1) q3 10 (fwa), wI (cy 1) q4 66 (fa1_13), wO h0 4 [.ref h1, .ref h2, .ref h3, .ref h4, .ref h5, .ref h6, .ref h7, .ref h8, .ref h9, .ref h10, .ref h11, hv0, hv1, hv2, hv3, hv4], wI (cy 1) h1 4 (fc), wO e0 2 [.ref e1, .ref e2, .int et, .int (nI el), .int (nI ef)], wI (cy 1) e1 10 (fg)] hP9 hD9 hS9 (fun hP hD hS => ?_)
                      clear hP9 hD9 hS9
                      refine W.widen (k := 0) (n := 0) (Nat.le_of_ble_eq_true rfl) (Nat.le_of_ble_eq_true rfl) ?_
                      replace hw27 : (zr27 = nI k_28) ∧ (k_28 = ((x8 - 1)) * 11 + j13) := hw27
                      obtain ⟨f_29, f_30⟩ := hw27
                      subst f_29
                      refine lv_iload hx hb dX1_countWays_163 (lv_at hl 0 rfl) ?_
                      refine va_iast hx hb hK hP hD hS 2 1 rfl rfl (vp_in_nI (by omega) (by decide)) dX1_countWays_165 (fun H locs hP9 hD9 hS9 => ?_)
                      clear hP hD hS
                      obtain ⟨g_31, eg_31⟩ : ∃ y, upd fa1_13 (nI k_28 : Int32).toNatClampNeg x_24 = y := ⟨_, rfl⟩
                      rw [eg_31] at hP9 hD9
                      refine reW [wO q0 1 [.ref q1, .ref er, .ref q2, .ref q3, .ref q4, .ref h0, .int (nI ql), .int qo], wI (cy 1) q3 10 (fwa), wI (cy 1) q4 66 (g_31), wO h0 4 [.ref h1, .ref h2, .ref h3, .ref h4, .ref h5, .ref h6, .ref h7, .ref h8, .ref h9, .ref h10, .ref h11, hv0, hv1, hv2, hv3, hv4], wI (cy 1) h1 4 (fc), wO e0 2 [.ref e1, .ref e2, .int et, .int (nI el), .int (nI ef)], wI (cy 1) e1 10 (fg)] hP9 hD9 hS9 (fun hP hD hS => ?_)
                      clear hP9 hD9 hS9
                      refine lv_iinc (v := nI (j13 + 1)) (lv' := [(6, .int (nI (j13 + 1))), (7, .int x_24), (5, .int zr11), (4, .int (nI (x8 - 1))), (3, .int x_3), (0, .ref q0), (1, .ref e0), (2, .int (nI sz))]) hx hb dX1_countWays_166 hl (k := 1) rfl (nI_add j13 1) (by decide) rfl (fun ls hl => ?_)
                      refine lv_goto (tgt := 84) hx hb dX1_countWays_169 (by decide) ?_
                      exact ih13  ((j13 + 1)) g_31 (by omega) (wd_kp (k := k_28) hf1_13 hsz hx1 (by omega) (by omega) (by omega) eg_31) (wd_pt (k := k_28) hf2_13 (by omega) (by omega) (wd_y0 hx1 (by omega) hsil hwz_23 ex_24 (fun h9 => absurd h9.1 (by omega))) eg_31) (by omega) _ _ (hP.sub [0, 1, 2, 3, 4, 5, 6] rfl) (hD.sub [0, 1, 2, 3, 4, 5, 6] (by decide +kernel) rfl) hS ls (lv_sub hl [0, 2, 3, 4, 5, 6, 7] rfl)
                    · have q_26 : j13 < sz := q_nle (a := sz) (b := j13) rfl rfl (by omega) (by omega) c_25
                      refine lv_aload_n hx hb dX1_countWays_115 rfl (lv_at hl 6 rfl) ?_
                      refine lv_iload hx hb dX1_countWays_116 (lv_at hl 3 rfl) ?_
                      refine lv_aload_n hx hb dX1_countWays_118 rfl (lv_at hl 5 rfl) ?_
                      refine va_get (D := D) (ci := 1) (v := .ref q3) (C := RX1) (T := TX1) (N := 8) hx hb hg i_X1 hown hK hP 0 rfl rfl 3 (by decide) (hg _ m_556) (fun _ h9 => h9) rfl dX1_countWays_119 ?_
                      refine lv_iload hx hb dX1_countWays_122 (lv_at hl 1 rfl) ?_
                      refine va_iald hx hb hK hP 1 1 rfl rfl (vp_in_nI (by omega) (by decide)) dX1_countWays_124 ?_
                      refine lv_topi (fun x_32 ex_32 => ?_)
                      have hwx_33 : x_32 = fwa j13 := by rw [ex_32, nI_clamp (by omega)]
                      refine x_callVi (q := (RX2, TX2, 5)) (ci := 2) (q0 := 0) (wr := [wO q0 1 [.ref q1, .ref er, .ref q2, .ref q3, .ref q4, .ref h0, .int (nI ql), .int qo], wI (cy 1) q3 10 (fwa), wI (cy 1) q4 66 (fa1_13), wO h0 4 [.ref h1, .ref h2, .ref h3, .ref h4, .ref h5, .ref h6, .ref h7, .ref h8, .ref h9, .ref h10, .ref h11, hv0, hv1, hv2, hv3, hv4], wI (cy 1) h1 4 (fc)]) (rest := []) ⟨hx, hb, hml, hown, hg, hl.1⟩ k_X1_70 (s_comesBack l D cy e0 e1 e2 et el ef fg ((x8 - 1)) x_32 (by omega)) E0_blind hK hP hD hS hA [5, 6] [0, 1, 2, 3, 4] ⟨rfl, rfl, by decide +kernel, by decide +kernel, by decide +kernel⟩ rfl rfl (fun _ _ _ => trivial) dX1_countWays_125 rfl rfl (Nat.le_of_ble_eq_true rfl) ⟨Nat.le_of_ble_eq_true rfl, Nat.le_of_ble_eq_true rfl⟩ ⟨Nat.le_of_ble_eq_true rfl, Nat.le_of_ble_eq_true rfl⟩ (fun zr34 zu34 H locs hw34 hP9 hD9 hS9 => ?_)
                      clear hP hD hS
                      refine reW [wO q0 1 [.ref q1, .ref er, .ref q2, .ref q3, .ref q4, .ref h0, .int (nI ql), .int qo], wI (cy 1) q3 10 (fwa), wI (cy 1) q4 66 (fa1_13), wO h0 4 [.ref h1, .ref h2, .ref h3, .ref h4, .ref h5, .ref h6, .ref h7, .ref h8, .ref h9, .ref h10, .ref h11, hv0, hv1, hv2, hv3, hv4], wI (cy 1) h1 4 (fc), wO e0 2 [.ref e1, .ref e2, .int et, .int (nI el), .int (nI ef)], wI (cy 1) e1 10 (fg)] hP9 hD9 hS9 (fun hP hD hS => ?_)
                      clear hP9 hD9 hS9
                      refine W.widen (k := 0) (n := 0) (Nat.le_of_ble_eq_true rfl) (Nat.le_of_ble_eq_true rfl) ?_
                      replace hw34 : (zr34 = 0 ∨ zr34 = 1) ∧ (bR zr34 (gB (fg ((x8 - 1))) x_32)) := hw34
                      obtain ⟨f_35, f_36⟩ := hw34
                      refine lv_if_eq (tgt := 152) hx hb dX1_countWays_128 (by decide) (fun c_128 => ?_) (fun c_128 => ?_)
                      · refine lv_aload_n hx hb dX1_countWays_152 rfl (lv_at hl 5 rfl) ?_
                        refine va_get (D := D) (ci := 1) (v := .ref q4) (C := RX1) (T := TX1) (N := 8) hx hb hg i_X1 hown hK hP 0 rfl rfl 4 (by decide) (hg _ m_557) (fun _ h9 => h9) rfl dX1_countWays_153 ?_
                        refine lv_iload hx hb dX1_countWays_156 (lv_at hl 3 rfl) ?_
                        refine lv_iload hx hb dX1_countWays_158 (lv_at hl 1 rfl) ?_
                        refine x_callSi (wr := [wO q0 1 [.ref q1, .ref er, .ref q2, .ref q3, .ref q4, .ref h0, .int (nI ql), .int qo], wI (cy 1) q3 10 (fwa), wI (cy 1) q4 66 (fa1_13), wO h0 4 [.ref h1, .ref h2, .ref h3, .ref h4, .ref h5, .ref h6, .ref h7, .ref h8, .ref h9, .ref h10, .ref h11, hv0, hv1, hv2, hv3, hv4], wI (cy 1) h1 4 (fc), wO e0 2 [.ref e1, .ref e2, .int et, .int (nI el), .int (nI ef)], wI (cy 1) e1 10 (fg)]) (rest := [.ref q4]) ⟨hx, hb, hml, hown, hg, hl.1⟩ k_X1_111 (s_wayIndex l D cy ((x8 - 1)) j13 (by omega) (by omega)) E0_blind hK hP hD hS hA [] [0, 1, 2, 3, 4, 5, 6] ⟨rfl, rfl, by decide +kernel, by decide +kernel, by decide +kernel⟩ (fun _ _ _ => trivial) dX1_countWays_160 rfl rfl (Nat.le_of_ble_eq_true rfl) ⟨Nat.le_of_ble_eq_true rfl, Nat.le_of_ble_eq_true rfl⟩ ⟨Nat.le_of_ble_eq_true rfl, Nat.le_of_ble_eq_true rfl⟩ (fun zr37 zu37 H locs hw37 hP9 hD9 hS9 => ?_)
                        clear hP hD hS
                        obtain ⟨k_38, rfl⟩ : ∃ z, z = zu37 := ⟨_, rfl⟩
                        refine reW [wO q0 1 [.ref q1, .ref er, .ref q2, .ref q3, .ref q4, .ref h0, .int (nI ql), .int qo], wI (cy 1) q3 10 (fwa), wI (cy 1) q4 66 (fa1_13), wO h0 4 [.ref h1, .ref h2, .ref h3, .ref h4, .ref h5, .ref h6, .ref h7, .ref h8, .ref h9, .ref h10, .ref h11, hv0, hv1, hv2, hv3, hv4], wI (cy 1) h1 4 (fc), wO e0 2 [.ref e1, .ref e2, .int et, .int (nI el), .int (nI ef)], wI (cy 1) e1 10 (fg)] hP9 hD9 hS9 (fun hP hD hS => ?_)
                        clear hP9 hD9 hS9
                        refine W.widen (k := 0) (n := 0) (Nat.le_of_ble_eq_true rfl) (Nat.le_of_ble_eq_true rfl) ?_
                        replace hw37 : (zr37 = nI k_38) ∧ (k_38 = ((x8 - 1)) * 11 + j13) := hw37
                        obtain ⟨f_39, f_40⟩ := hw37
                        subst f_39
                        refine lv_iload hx hb dX1_countWays_163 (lv_at hl 0 rfl) ?_
                        refine va_iast hx hb hK hP hD hS 2 1 rfl rfl (vp_in_nI (by omega) (by decide)) dX1_countWays_165 (fun H locs hP9 hD9 hS9 => ?_)
                        clear hP hD hS
                        obtain ⟨g_41, eg_41⟩ : ∃ y, upd fa1_13 (nI k_38 : Int32).toNatClampNeg x_24 = y := ⟨_, rfl⟩
                        rw [eg_41] at hP9 hD9
                        refine reW [wO q0 1 [.ref q1, .ref er, .ref q2, .ref q3, .ref q4, .ref h0, .int (nI ql), .int qo], wI (cy 1) q3 10 (fwa), wI (cy 1) q4 66 (g_41), wO h0 4 [.ref h1, .ref h2, .ref h3, .ref h4, .ref h5, .ref h6, .ref h7, .ref h8, .ref h9, .ref h10, .ref h11, hv0, hv1, hv2, hv3, hv4], wI (cy 1) h1 4 (fc), wO e0 2 [.ref e1, .ref e2, .int et, .int (nI el), .int (nI ef)], wI (cy 1) e1 10 (fg)] hP9 hD9 hS9 (fun hP hD hS => ?_)
                        clear hP9 hD9 hS9
                        refine lv_iinc (v := nI (j13 + 1)) (lv' := [(6, .int (nI (j13 + 1))), (7, .int x_24), (5, .int zr11), (4, .int (nI (x8 - 1))), (3, .int x_3), (0, .ref q0), (1, .ref e0), (2, .int (nI sz))]) hx hb dX1_countWays_166 hl (k := 1) rfl (nI_add j13 1) (by decide) rfl (fun ls hl => ?_)
                        refine lv_goto (tgt := 84) hx hb dX1_countWays_169 (by decide) ?_
                        exact ih13  ((j13 + 1)) g_41 (by omega) (wd_kp (k := k_38) hf1_13 hsz hx1 (by omega) (by omega) (by omega) eg_41) (wd_pt (k := k_38) hf2_13 (by omega) (by omega) (wd_y0 hx1 (by omega) hsil hwz_23 ex_24 (fun h9 => by have h8 := h9.2; rw [← hwx_33, bR_f f_36 c_128] at h8; cases h8)) eg_41) (by omega) _ _ (hP.sub [0, 1, 2, 3, 4, 5, 6] rfl) (hD.sub [0, 1, 2, 3, 4, 5, 6] (by decide +kernel) rfl) hS ls (lv_sub hl [0, 2, 3, 4, 5, 6, 7] rfl)
                      · refine lv_iload hx hb dX1_countWays_131 (lv_at hl 0 rfl) ?_
                        refine lv_aload_n hx hb dX1_countWays_133 rfl (lv_at hl 5 rfl) ?_
                        refine va_get (D := D) (ci := 1) (v := .ref q4) (C := RX1) (T := TX1) (N := 8) hx hb hg i_X1 hown hK hP 0 rfl rfl 4 (by decide) (hg _ m_557) (fun _ h9 => h9) rfl dX1_countWays_134 ?_
                        refine lv_iload hx hb dX1_countWays_137 (lv_at hl 3 rfl) ?_
                        refine lv_iconst (v := 1) hx hb dX1_countWays_139 (by decide) ?_
                        refine lv_iadd hx hb dX1_countWays_140 ?_
                        refine lv_topi (fun y_42 hy_42 => ?_)
                        obtain rfl : y_42 = nI ((x8 - 1) + 1) := hy_42.trans (nI_add ((x8 - 1)) 1)
                        refine lv_iload hx hb dX1_countWays_141 (lv_at hl 1 rfl) ?_
                        refine lv_iconst (v := 1) hx hb dX1_countWays_143 (by decide) ?_
                        refine lv_iadd hx hb dX1_countWays_144 ?_
                        refine lv_topi (fun y_43 hy_43 => ?_)
                        obtain rfl : y_43 = nI (j13 + 1) := hy_43.trans (nI_add j13 1)
                        refine x_callSi (wr := [wO q0 1 [.ref q1, .ref er, .ref q2, .ref q3, .ref q4, .ref h0, .int (nI ql), .int qo], wI (cy 1) q3 10 (fwa), wI (cy 1) q4 66 (fa1_13), wO h0 4 [.ref h1, .ref h2, .ref h3, .ref h4, .ref h5, .ref h6, .ref h7, .ref h8, .ref h9, .ref h10, .ref h11, hv0, hv1, hv2, hv3, hv4], wI (cy 1) h1 4 (fc), wO e0 2 [.ref e1, .ref e2, .int et, .int (nI el), .int (nI ef)], wI (cy 1) e1 10 (fg)]) (rest := [.ref q4, .int x_24]) ⟨hx, hb, hml, hown, hg, hl.1⟩ k_X1_111 (s_wayIndex l D cy (((x8 - 1) + 1)) ((j13 + 1)) (by omega) (by omega)) E0_blind hK hP hD hS hA [] [0, 1, 2, 3, 4, 5, 6] ⟨rfl, rfl, by decide +kernel, by decide +kernel, by decide +kernel⟩ (fun _ _ _ => trivial) dX1_countWays_145 rfl rfl (Nat.le_of_ble_eq_true rfl) ⟨Nat.le_of_ble_eq_true rfl, Nat.le_of_ble_eq_true rfl⟩ ⟨Nat.le_of_ble_eq_true rfl, Nat.le_of_ble_eq_true rfl⟩ (fun zr44 zu44 H locs hw44 hP9 hD9 hS9 => ?_)
                        clear hP hD hS
                        obtain ⟨k_45, rfl⟩ : ∃ z, z = zu44 := ⟨_, rfl⟩
                        refine reW [wO q0 1 [.ref q1, .ref er, .ref q2, .ref q3, .ref q4, .ref h0, .int (nI ql), .int qo], wI (cy 1) q3 10 (fwa), wI (cy 1) q4 66 (fa1_13), wO h0 4 [.ref h1, .ref h2, .ref h3, .ref h4, .ref h5, .ref h6, .ref h7, .ref h8, .ref h9, .ref h10, .ref h11, hv0, hv1, hv2, hv3, hv4], wI (cy 1) h1 4 (fc), wO e0 2 [.ref e1, .ref e2, .int et, .int (nI el), .int (nI ef)], wI (cy 1) e1 10 (fg)] hP9 hD9 hS9 (fun hP hD hS => ?_)
                        clear hP9 hD9 hS9
                        refine W.widen (k := 0) (n := 0) (Nat.le_of_ble_eq_true rfl) (Nat.le_of_ble_eq_true rfl) ?_
                        replace hw44 : (zr44 = nI k_45) ∧ (k_45 = (((x8 - 1) + 1)) * 11 + ((j13 + 1))) := hw44
                        obtain ⟨f_46, f_47⟩ := hw44
                        subst f_46
                        refine va_iald hx hb hK hP 2 1 rfl rfl (vp_in_nI (by omega) (by decide)) dX1_countWays_148 ?_
                        refine lv_topi (fun x_48 ex_48 => ?_)
                        have hwz_49 := wd_at hf1_13 f_47 (show x8 - 1 + 1 = x8 by omega) (by omega) (by omega) (by omega) ex_48
                        refine lv_iadd hx hb dX1_countWays_149 ?_
                        refine lv_topi (fun x_50 ex_50 => ?_)
                        refine lv_istore (lv' := [(7, .int x_50), (6, .int (nI j13)), (5, .int zr11), (4, .int (nI (x8 - 1))), (3, .int x_3), (0, .ref q0), (1, .ref e0), (2, .int (nI sz))]) hx hb dX1_countWays_150 hl (by decide) rfl (fun ls hl => ?_)
                        refine lv_aload_n hx hb dX1_countWays_152 rfl (lv_at hl 5 rfl) ?_
                        refine va_get (D := D) (ci := 1) (v := .ref q4) (C := RX1) (T := TX1) (N := 8) hx hb hg i_X1 hown hK hP 0 rfl rfl 4 (by decide) (hg _ m_557) (fun _ h9 => h9) rfl dX1_countWays_153 ?_
                        refine lv_iload hx hb dX1_countWays_156 (lv_at hl 3 rfl) ?_
                        refine lv_iload hx hb dX1_countWays_158 (lv_at hl 1 rfl) ?_
                        refine x_callSi (wr := [wO q0 1 [.ref q1, .ref er, .ref q2, .ref q3, .ref q4, .ref h0, .int (nI ql), .int qo], wI (cy 1) q3 10 (fwa), wI (cy 1) q4 66 (fa1_13), wO h0 4 [.ref h1, .ref h2, .ref h3, .ref h4, .ref h5, .ref h6, .ref h7, .ref h8, .ref h9, .ref h10, .ref h11, hv0, hv1, hv2, hv3, hv4], wI (cy 1) h1 4 (fc), wO e0 2 [.ref e1, .ref e2, .int et, .int (nI el), .int (nI ef)], wI (cy 1) e1 10 (fg)]) (rest := [.ref q4]) ⟨hx, hb, hml, hown, hg, hl.1⟩ k_X1_111 (s_wayIndex l D cy ((x8 - 1)) j13 (by omega) (by omega)) E0_blind hK hP hD hS hA [] [0, 1, 2, 3, 4, 5, 6] ⟨rfl, rfl, by decide +kernel, by decide +kernel, by decide +kernel⟩ (fun _ _ _ => trivial) dX1_countWays_160 rfl rfl (Nat.le_of_ble_eq_true rfl) ⟨Nat.le_of_ble_eq_true rfl, Nat.le_of_ble_eq_true rfl⟩ ⟨Nat.le_of_ble_eq_true rfl, Nat.le_of_ble_eq_true rfl⟩ (fun zr51 zu51 H locs hw51 hP9 hD9 hS9 => ?_)
                        clear hP hD hS
                        obtain ⟨k_52, rfl⟩ : ∃ z, z = zu51 := ⟨_, rfl⟩
                        refine reW [wO q0 1 [.ref q1, .ref er, .ref q2, .ref q3, .ref q4, .ref h0, .int (nI ql), .int qo], wI (cy 1) q3 10 (fwa), wI (cy 1) q4 66 (fa1_13), wO h0 4 [.ref h1, .ref h2, .ref h3, .ref h4, .ref h5, .ref h6, .ref h7, .ref h8, .ref h9, .ref h10, .ref h11, hv0, hv1, hv2, hv3, hv4], wI (cy 1) h1 4 (fc), wO e0 2 [.ref e1, .ref e2, .int et, .int (nI el), .int (nI ef)], wI (cy 1) e1 10 (fg)] hP9 hD9 hS9 (fun hP hD hS => ?_)
                        clear hP9 hD9 hS9
                        refine W.widen (k := 0) (n := 0) (Nat.le_of_ble_eq_true rfl) (Nat.le_of_ble_eq_true rfl) ?_
                        replace hw51 : (zr51 = nI k_52) ∧ (k_52 = ((x8 - 1)) * 11 + j13) := hw51
                        obtain ⟨f_53, f_54⟩ := hw51
                        subst f_53
                        refine lv_iload hx hb dX1_countWays_163 (lv_at hl 0 rfl) ?_
                        refine va_iast hx hb hK hP hD hS 2 1 rfl rfl (vp_in_nI (by omega) (by decide)) dX1_countWays_165 (fun H locs hP9 hD9 hS9 => ?_)
                        clear hP hD hS
                        obtain ⟨g_55, eg_55⟩ : ∃ y, upd fa1_13 (nI k_52 : Int32).toNatClampNeg x_50 = y := ⟨_, rfl⟩
                        rw [eg_55] at hP9 hD9
                        refine reW [wO q0 1 [.ref q1, .ref er, .ref q2, .ref q3, .ref q4, .ref h0, .int (nI ql), .int qo], wI (cy 1) q3 10 (fwa), wI (cy 1) q4 66 (g_55), wO h0 4 [.ref h1, .ref h2, .ref h3, .ref h4, .ref h5, .ref h6, .ref h7, .ref h8, .ref h9, .ref h10, .ref h11, hv0, hv1, hv2, hv3, hv4], wI (cy 1) h1 4 (fc), wO e0 2 [.ref e1, .ref e2, .int et, .int (nI el), .int (nI ef)], wI (cy 1) e1 10 (fg)] hP9 hD9 hS9 (fun hP hD hS => ?_)
                        clear hP9 hD9 hS9
                        refine lv_iinc (v := nI (j13 + 1)) (lv' := [(6, .int (nI (j13 + 1))), (7, .int x_50), (5, .int zr11), (4, .int (nI (x8 - 1))), (3, .int x_3), (0, .ref q0), (1, .ref e0), (2, .int (nI sz))]) hx hb dX1_countWays_166 hl (k := 1) rfl (nI_add j13 1) (by decide) rfl (fun ls hl => ?_)
                        refine lv_goto (tgt := 84) hx hb dX1_countWays_169 (by decide) ?_
                        exact ih13  ((j13 + 1)) g_55 (by omega) (wd_kp (k := k_52) hf1_13 hsz hx1 (by omega) (by omega) (by omega) eg_55) (wd_pt (k := k_52) hf2_13 (by omega) (by omega) (wd_y1 hx1 (by omega) hsil hwz_23 ex_24 hwz_49 ex_50 (by omega) (by rw [← hwx_33]; exact bR_t f_36 c_128)) eg_55) (by omega) _ _ (hP.sub [0, 1, 2, 3, 4, 5, 6] rfl) (hD.sub [0, 1, 2, 3, 4, 5, 6] (by decide +kernel) rfl) hS ls (lv_sub hl [0, 2, 3, 4, 5, 6, 7] rfl)
              exact loop13 _ 0 fa2_8 (by omega) (hf2_8) (fun j9 h9 => absurd h9 (Nat.not_lt_zero j9)) (Nat.le_refl _) _ _ (hP.sub [0, 1, 2, 3, 4, 5, 6] rfl) (hD.sub [0, 1, 2, 3, 4, 5, 6] (by decide +kernel) rfl) hS ls (lv_sub hl [0, 1, 2, 3, 4, 5, 6] rfl)
        exact loop8 _ (nI (ql - 1)) ((ql - 1) + 1) fa1_4 ((nI_pred _).symm) (by omega) (fun i9 j9 h1 h2 h3 => by have h9 := hf1_4 j9 (by omega); rw [show i9 = ql by omega, Nat.sub_self]; exact h9) (Nat.le_refl _) _ _ (hP.sub [0, 1, 2, 3, 4, 5, 6] rfl) (hD.sub [0, 1, 2, 3, 4, 5, 6] (by decide +kernel) rfl) hS ls (lv_sub hl [0, 1, 2, 3, 4] rfl)
      · have q_6 : j4 ≤ sz := q_nlt (a := sz) (b := j4) rfl rfl (by omega) (by omega) c_5
        refine lv_aload_n hx hb dX1_countWays_23 rfl (lv_at hl 2 rfl) ?_
        refine va_get (D := D) (ci := 1) (v := .ref q4) (C := RX1) (T := TX1) (N := 8) hx hb hg i_X1 hown hK hP 0 rfl rfl 4 (by decide) (hg _ m_557) (fun _ h9 => h9) rfl dX1_countWays_24 ?_
        refine lv_aload_n hx hb dX1_countWays_27 rfl (lv_at hl 2 rfl) ?_
        refine va_get (D := D) (ci := 1) (v := .int (nI ql)) (C := RX1) (T := TX1) (N := 8) hx hb hg i_X1 hown hK hP 0 rfl rfl 6 (by decide) (hg _ m_559) (fun _ h9 => h9) rfl dX1_countWays_28 ?_
        refine lv_iload hx hb dX1_countWays_31 (lv_at hl 0 rfl) ?_
        refine x_callSi (wr := [wO q0 1 [.ref q1, .ref er, .ref q2, .ref q3, .ref q4, .ref h0, .int (nI ql), .int qo], wI (cy 1) q3 10 (fwa), wI (cy 1) q4 66 (fa1_4), wO h0 4 [.ref h1, .ref h2, .ref h3, .ref h4, .ref h5, .ref h6, .ref h7, .ref h8, .ref h9, .ref h10, .ref h11, hv0, hv1, hv2, hv3, hv4], wI (cy 1) h1 4 (fc), wO e0 2 [.ref e1, .ref e2, .int et, .int (nI el), .int (nI ef)], wI (cy 1) e1 10 (fg)]) (rest := [.ref q4]) ⟨hx, hb, hml, hown, hg, hl.1⟩ k_X1_111 (s_wayIndex l D cy ql j4 (by omega) (by omega)) E0_blind hK hP hD hS hA [] [0, 1, 2, 3, 4, 5, 6] ⟨rfl, rfl, by decide +kernel, by decide +kernel, by decide +kernel⟩ (fun _ _ _ => trivial) dX1_countWays_33 rfl rfl (Nat.le_of_ble_eq_true rfl) ⟨Nat.le_of_ble_eq_true rfl, Nat.le_of_ble_eq_true rfl⟩ ⟨Nat.le_of_ble_eq_true rfl, Nat.le_of_ble_eq_true rfl⟩ (fun zr56 zu56 H locs hw56 hP9 hD9 hS9 => ?_)
        clear hP hD hS
        obtain ⟨k_57, rfl⟩ : ∃ z, z = zu56 := ⟨_, rfl⟩
        refine reW [wO q0 1 [.ref q1, .ref er, .ref q2, .ref q3, .ref q4, .ref h0, .int (nI ql), .int qo], wI (cy 1) q3 10 (fwa), wI (cy 1) q4 66 (fa1_4), wO h0 4 [.ref h1, .ref h2, .ref h3, .ref h4, .ref h5, .ref h6, .ref h7, .ref h8, .ref h9, .ref h10, .ref h11, hv0, hv1, hv2, hv3, hv4], wI (cy 1) h1 4 (fc), wO e0 2 [.ref e1, .ref e2, .int et, .int (nI el), .int (nI ef)], wI (cy 1) e1 10 (fg)] hP9 hD9 hS9 (fun hP hD hS => ?_)
        clear hP9 hD9 hS9
        refine W.widen (k := 0) (n := 0) (Nat.le_of_ble_eq_true rfl) (Nat.le_of_ble_eq_true rfl) ?_
        replace hw56 : (zr56 = nI k_57) ∧ (k_57 = ql * 11 + j4) := hw56
        obtain ⟨f_58, f_59⟩ := hw56
        subst f_58
        refine lv_iload hx hb dX1_countWays_36 (lv_at hl 0 rfl) ?_
        refine lv_iload_n hx hb dX1_countWays_38 rfl (lv_at hl 4 rfl) ?_
        refine lv_icmp_ne (tgt := 46) hx hb dX1_countWays_39 (by decide) (fun c_60 => ?_) (fun c_60 => ?_)
        · have q_61 : ¬ j4 = sz := q_ne (a := j4) (b := sz) rfl rfl (by omega) (by omega) c_60
          refine lv_iconst (v := 0) hx hb dX1_countWays_46 (by decide) ?_
          refine va_iast hx hb hK hP hD hS 2 1 rfl rfl (vp_in_nI (by omega) (by decide)) dX1_countWays_47 (fun H locs hP9 hD9 hS9 => ?_)
          clear hP hD hS
          obtain ⟨g_62, eg_62⟩ : ∃ y, upd fa1_4 (nI k_57 : Int32).toNatClampNeg 0 = y := ⟨_, rfl⟩
          rw [eg_62] at hP9 hD9
          refine reW [wO q0 1 [.ref q1, .ref er, .ref q2, .ref q3, .ref q4, .ref h0, .int (nI ql), .int qo], wI (cy 1) q3 10 (fwa), wI (cy 1) q4 66 (g_62), wO h0 4 [.ref h1, .ref h2, .ref h3, .ref h4, .ref h5, .ref h6, .ref h7, .ref h8, .ref h9, .ref h10, .ref h11, hv0, hv1, hv2, hv3, hv4], wI (cy 1) h1 4 (fc), wO e0 2 [.ref e1, .ref e2, .int et, .int (nI el), .int (nI ef)], wI (cy 1) e1 10 (fg)] hP9 hD9 hS9 (fun hP hD hS => ?_)
          clear hP9 hD9 hS9
          refine lv_iinc (v := nI (j4 + 1)) (lv' := [(4, .int (nI (j4 + 1))), (3, .int x_3), (0, .ref q0), (1, .ref e0), (2, .int (nI sz))]) hx hb dX1_countWays_48 hl (k := 0) rfl (nI_add j4 1) (by decide) rfl (fun ls hl => ?_)
          refine lv_goto (tgt := 17) hx hb dX1_countWays_51 (by decide) ?_
          exact ih4  ((j4 + 1)) g_62 (by omega) (wd_i (k := k_57) (by omega) (by rw [if_neg (by omega)]; rfl) hf1_4 eg_62 (by omega)) (by omega) _ _ (hP.sub [0, 1, 2, 3, 4, 5, 6] rfl) (hD.sub [0, 1, 2, 3, 4, 5, 6] (by decide +kernel) rfl) hS ls (lv_sub hl [0, 1, 2, 3, 4] rfl)
        · have q_61 : j4 = sz := q_eq (a := j4) (b := sz) rfl rfl (by omega) (by omega) c_60
          refine lv_iconst (v := 1) hx hb dX1_countWays_42 (by decide) ?_
          refine lv_goto (tgt := 47) hx hb dX1_countWays_43 (by decide) ?_
          refine va_iast hx hb hK hP hD hS 2 1 rfl rfl (vp_in_nI (by omega) (by decide)) dX1_countWays_47 (fun H locs hP9 hD9 hS9 => ?_)
          clear hP hD hS
          obtain ⟨g_63, eg_63⟩ : ∃ y, upd fa1_4 (nI k_57 : Int32).toNatClampNeg 1 = y := ⟨_, rfl⟩
          rw [eg_63] at hP9 hD9
          refine reW [wO q0 1 [.ref q1, .ref er, .ref q2, .ref q3, .ref q4, .ref h0, .int (nI ql), .int qo], wI (cy 1) q3 10 (fwa), wI (cy 1) q4 66 (g_63), wO h0 4 [.ref h1, .ref h2, .ref h3, .ref h4, .ref h5, .ref h6, .ref h7, .ref h8, .ref h9, .ref h10, .ref h11, hv0, hv1, hv2, hv3, hv4], wI (cy 1) h1 4 (fc), wO e0 2 [.ref e1, .ref e2, .int et, .int (nI el), .int (nI ef)], wI (cy 1) e1 10 (fg)] hP9 hD9 hS9 (fun hP hD hS => ?_)
          clear hP9 hD9 hS9
          refine lv_iinc (v := nI (j4 + 1)) (lv' := [(4, .int (nI (j4 + 1))), (3, .int x_3), (0, .ref q0), (1, .ref e0), (2, .int (nI sz))]) hx hb dX1_countWays_48 hl (k := 0) rfl (nI_add j4 1) (by decide) rfl (fun ls hl => ?_)
          refine lv_goto (tgt := 17) hx hb dX1_countWays_51 (by decide) ?_
          exact ih4  ((j4 + 1)) g_63 (by omega) (wd_i (k := k_57) (by omega) (by rw [if_pos (by omega)]; rfl) hf1_4 eg_63 (by omega)) (by omega) _ _ (hP.sub [0, 1, 2, 3, 4, 5, 6] rfl) (hD.sub [0, 1, 2, 3, 4, 5, 6] (by decide +kernel) rfl) hS ls (lv_sub hl [0, 1, 2, 3, 4] rfl)
  exact loop4 _ 0 fwy (by omega) (fun j9 h9 => absurd h9 (Nat.not_lt_zero j9)) (Nat.le_refl _) _ _ (hP.sub [0, 1, 2, 3, 4, 5, 6] rfl) (hD.sub [0, 1, 2, 3, 4, 5, 6] (by decide +kernel) rfl) hS ls (lv_sub hl [0, 1, 2, 3, 4] rfl)
theorem gdX1_followWays_0 : decode cX1_followWays 0 = .ok (.iconst 0, 1) ∧ decode cX1_followWays 1 = .ok (.istore_n 3, 1) ∧ decode cX1_followWays 2 = .ok (.iconst 0, 1) ∧ decode cX1_followWays 3 = .ok (.istore 4, 2) ∧ decode cX1_followWays 5 = .ok (.iload 4, 2) ∧ decode cX1_followWays 7 = .ok (.aload_n 0, 1) ∧ decode cX1_followWays 8 = .ok (.getfield 35, 3) ∧ decode cX1_followWays 11 = .ok (.if_icmp .ge 129, 3) ∧ decode cX1_followWays 140 = .ok (.return_, 1) ∧ decode cX1_followWays 14 = .ok (.iconst 0, 1) ∧ decode cX1_followWays 15 = .ok (.istore 5, 2) ∧ decode cX1_followWays 17 = .ok (.iconst 0, 1) := by decide +kernel
theorem dX1_followWays_0 : decode cX1_followWays 0 = .ok (.iconst 0, 1) := gdX1_followWays_0.1
theorem dX1_followWays_1 : decode cX1_followWays 1 = .ok (.istore_n 3, 1) := gdX1_followWays_0.2.1
theorem dX1_followWays_2 : decode cX1_followWays 2 = .ok (.iconst 0, 1) := gdX1_followWays_0.2.2.1
theorem dX1_followWays_3 : decode cX1_followWays 3 = .ok (.istore 4, 2) := gdX1_followWays_0.2.2.2.1
theorem dX1_followWays_5 : decode cX1_followWays 5 = .ok (.iload 4, 2) := gdX1_followWays_0.2.2.2.2.1
theorem dX1_followWays_7 : decode cX1_followWays 7 = .ok (.aload_n 0, 1) := gdX1_followWays_0.2.2.2.2.2.1
theorem dX1_followWays_8 : decode cX1_followWays 8 = .ok (.getfield 35, 3) := gdX1_followWays_0.2.2.2.2.2.2.1
theorem dX1_followWays_11 : decode cX1_followWays 11 = .ok (.if_icmp .ge 129, 3) := gdX1_followWays_0.2.2.2.2.2.2.2.1
theorem dX1_followWays_140 : decode cX1_followWays 140 = .ok (.return_, 1) := gdX1_followWays_0.2.2.2.2.2.2.2.2.1
theorem dX1_followWays_14 : decode cX1_followWays 14 = .ok (.iconst 0, 1) := gdX1_followWays_0.2.2.2.2.2.2.2.2.2.1
theorem dX1_followWays_15 : decode cX1_followWays 15 = .ok (.istore 5, 2) := gdX1_followWays_0.2.2.2.2.2.2.2.2.2.2.1
theorem dX1_followWays_17 : decode cX1_followWays 17 = .ok (.iconst 0, 1) := gdX1_followWays_0.2.2.2.2.2.2.2.2.2.2.2
theorem gdX1_followWays_18 : decode cX1_followWays 18 = .ok (.istore 6, 2) ∧ decode cX1_followWays 20 = .ok (.iload 6, 2) ∧ decode cX1_followWays 22 = .ok (.aload_n 0, 1) ∧ decode cX1_followWays 23 = .ok (.getfield 31, 3) ∧ decode cX1_followWays 26 = .ok (.getfield 43, 3) ∧ decode cX1_followWays 29 = .ok (.iconst 0, 1) ∧ decode cX1_followWays 30 = .ok (.iaload, 1) ∧ decode cX1_followWays 31 = .ok (.if_icmp .ge 103, 3) ∧ decode cX1_followWays 134 = .ok (.iinc 4 1, 3) ∧ decode cX1_followWays 137 = .ok (.goto (-132), 3) ∧ decode cX1_followWays 34 = .ok (.iload 5, 2) ∧ decode cX1_followWays 36 = .ok (.ifCond .ne 98, 3) := by decide +kernel
theorem dX1_followWays_18 : decode cX1_followWays 18 = .ok (.istore 6, 2) := gdX1_followWays_18.1
theorem dX1_followWays_20 : decode cX1_followWays 20 = .ok (.iload 6, 2) := gdX1_followWays_18.2.1
theorem dX1_followWays_22 : decode cX1_followWays 22 = .ok (.aload_n 0, 1) := gdX1_followWays_18.2.2.1
theorem dX1_followWays_23 : decode cX1_followWays 23 = .ok (.getfield 31, 3) := gdX1_followWays_18.2.2.2.1
theorem dX1_followWays_26 : decode cX1_followWays 26 = .ok (.getfield 43, 3) := gdX1_followWays_18.2.2.2.2.1
theorem dX1_followWays_29 : decode cX1_followWays 29 = .ok (.iconst 0, 1) := gdX1_followWays_18.2.2.2.2.2.1
theorem dX1_followWays_30 : decode cX1_followWays 30 = .ok (.iaload, 1) := gdX1_followWays_18.2.2.2.2.2.2.1
theorem dX1_followWays_31 : decode cX1_followWays 31 = .ok (.if_icmp .ge 103, 3) := gdX1_followWays_18.2.2.2.2.2.2.2.1
theorem dX1_followWays_134 : decode cX1_followWays 134 = .ok (.iinc 4 1, 3) := gdX1_followWays_18.2.2.2.2.2.2.2.2.1
theorem dX1_followWays_137 : decode cX1_followWays 137 = .ok (.goto (-132), 3) := gdX1_followWays_18.2.2.2.2.2.2.2.2.2.1
theorem dX1_followWays_34 : decode cX1_followWays 34 = .ok (.iload 5, 2) := gdX1_followWays_18.2.2.2.2.2.2.2.2.2.2.1
theorem dX1_followWays_36 : decode cX1_followWays 36 = .ok (.ifCond .ne 98, 3) := gdX1_followWays_18.2.2.2.2.2.2.2.2.2.2.2
theorem gdX1_followWays_39 : decode cX1_followWays 39 = .ok (.aload_n 1, 1) ∧ decode cX1_followWays 40 = .ok (.iload 4, 2) ∧ decode cX1_followWays 42 = .ok (.iload 6, 2) ∧ decode cX1_followWays 44 = .ok (.invokevirtual 70, 3) ∧ decode cX1_followWays 47 = .ok (.istore 7, 2) ∧ decode cX1_followWays 49 = .ok (.iload 7, 2) ∧ decode cX1_followWays 51 = .ok (.ifCond .eq 19, 3) ∧ decode cX1_followWays 70 = .ok (.iconst 1, 1) ∧ decode cX1_followWays 71 = .ok (.goto 4, 3) ∧ decode cX1_followWays 75 = .ok (.istore 8, 2) ∧ decode cX1_followWays 77 = .ok (.iload 7, 2) ∧ decode cX1_followWays 79 = .ok (.ifCond .eq 9, 3) := by decide +kernel
theorem dX1_followWays_39 : decode cX1_followWays 39 = .ok (.aload_n 1, 1) := gdX1_followWays_39.1
theorem dX1_followWays_40 : decode cX1_followWays 40 = .ok (.iload 4, 2) := gdX1_followWays_39.2.1
theorem dX1_followWays_42 : decode cX1_followWays 42 = .ok (.iload 6, 2) := gdX1_followWays_39.2.2.1
theorem dX1_followWays_44 : decode cX1_followWays 44 = .ok (.invokevirtual 70, 3) := gdX1_followWays_39.2.2.2.1
theorem dX1_followWays_47 : decode cX1_followWays 47 = .ok (.istore 7, 2) := gdX1_followWays_39.2.2.2.2.1
theorem dX1_followWays_49 : decode cX1_followWays 49 = .ok (.iload 7, 2) := gdX1_followWays_39.2.2.2.2.2.1
theorem dX1_followWays_51 : decode cX1_followWays 51 = .ok (.ifCond .eq 19, 3) := gdX1_followWays_39.2.2.2.2.2.2.1
theorem dX1_followWays_70 : decode cX1_followWays 70 = .ok (.iconst 1, 1) := gdX1_followWays_39.2.2.2.2.2.2.2.1
theorem dX1_followWays_71 : decode cX1_followWays 71 = .ok (.goto 4, 3) := gdX1_followWays_39.2.2.2.2.2.2.2.2.1
theorem dX1_followWays_75 : decode cX1_followWays 75 = .ok (.istore 8, 2) := gdX1_followWays_39.2.2.2.2.2.2.2.2.2.1
theorem dX1_followWays_77 : decode cX1_followWays 77 = .ok (.iload 7, 2) := gdX1_followWays_39.2.2.2.2.2.2.2.2.2.2.1
theorem dX1_followWays_79 : decode cX1_followWays 79 = .ok (.ifCond .eq 9, 3) := gdX1_followWays_39.2.2.2.2.2.2.2.2.2.2.2
theorem gdX1_followWays_88 : decode cX1_followWays 88 = .ok (.iload_n 3, 1) ∧ decode cX1_followWays 89 = .ok (.istore 9, 2) ∧ decode cX1_followWays 91 = .ok (.iload 8, 2) ∧ decode cX1_followWays 93 = .ok (.ifCond .eq 35, 3) ∧ decode cX1_followWays 96 = .ok (.aload_n 0, 1) ∧ decode cX1_followWays 97 = .ok (.getfield 21, 3) ∧ decode cX1_followWays 100 = .ok (.iload 4, 2) ∧ decode cX1_followWays 102 = .ok (.iconst 1, 1) ∧ decode cX1_followWays 103 = .ok (.iadd, 1) ∧ decode cX1_followWays 104 = .ok (.iload 9, 2) ∧ decode cX1_followWays 106 = .ok (.invokestatic 111, 3) ∧ decode cX1_followWays 109 = .ok (.iaload, 1) := by decide +kernel
theorem dX1_followWays_88 : decode cX1_followWays 88 = .ok (.iload_n 3, 1) := gdX1_followWays_88.1
theorem dX1_followWays_89 : decode cX1_followWays 89 = .ok (.istore 9, 2) := gdX1_followWays_88.2.1
theorem dX1_followWays_91 : decode cX1_followWays 91 = .ok (.iload 8, 2) := gdX1_followWays_88.2.2.1
theorem dX1_followWays_93 : decode cX1_followWays 93 = .ok (.ifCond .eq 35, 3) := gdX1_followWays_88.2.2.2.1
theorem dX1_followWays_96 : decode cX1_followWays 96 = .ok (.aload_n 0, 1) := gdX1_followWays_88.2.2.2.2.1
theorem dX1_followWays_97 : decode cX1_followWays 97 = .ok (.getfield 21, 3) := gdX1_followWays_88.2.2.2.2.2.1
theorem dX1_followWays_100 : decode cX1_followWays 100 = .ok (.iload 4, 2) := gdX1_followWays_88.2.2.2.2.2.2.1
theorem dX1_followWays_102 : decode cX1_followWays 102 = .ok (.iconst 1, 1) := gdX1_followWays_88.2.2.2.2.2.2.2.1
theorem dX1_followWays_103 : decode cX1_followWays 103 = .ok (.iadd, 1) := gdX1_followWays_88.2.2.2.2.2.2.2.2.1
theorem dX1_followWays_104 : decode cX1_followWays 104 = .ok (.iload 9, 2) := gdX1_followWays_88.2.2.2.2.2.2.2.2.2.1
theorem dX1_followWays_106 : decode cX1_followWays 106 = .ok (.invokestatic 111, 3) := gdX1_followWays_88.2.2.2.2.2.2.2.2.2.2.1
theorem dX1_followWays_109 : decode cX1_followWays 109 = .ok (.iaload, 1) := gdX1_followWays_88.2.2.2.2.2.2.2.2.2.2.2
theorem gdX1_followWays_110 : decode cX1_followWays 110 = .ok (.ifCond .le 18, 3) ∧ decode cX1_followWays 128 = .ok (.iinc 6 1, 3) ∧ decode cX1_followWays 131 = .ok (.goto (-111), 3) ∧ decode cX1_followWays 113 = .ok (.aload_n 0, 1) ∧ decode cX1_followWays 114 = .ok (.getfield 11, 3) ∧ decode cX1_followWays 117 = .ok (.iload 4, 2) ∧ decode cX1_followWays 119 = .ok (.iload 6, 2) ∧ decode cX1_followWays 121 = .ok (.iastore, 1) ∧ decode cX1_followWays 122 = .ok (.iload 9, 2) ∧ decode cX1_followWays 124 = .ok (.istore_n 3, 1) ∧ decode cX1_followWays 125 = .ok (.iconst 1, 1) ∧ decode cX1_followWays 126 = .ok (.istore 5, 2) := by decide +kernel
theorem dX1_followWays_110 : decode cX1_followWays 110 = .ok (.ifCond .le 18, 3) := gdX1_followWays_110.1
theorem dX1_followWays_128 : decode cX1_followWays 128 = .ok (.iinc 6 1, 3) := gdX1_followWays_110.2.1
theorem dX1_followWays_131 : decode cX1_followWays 131 = .ok (.goto (-111), 3) := gdX1_followWays_110.2.2.1
theorem dX1_followWays_113 : decode cX1_followWays 113 = .ok (.aload_n 0, 1) := gdX1_followWays_110.2.2.2.1
theorem dX1_followWays_114 : decode cX1_followWays 114 = .ok (.getfield 11, 3) := gdX1_followWays_110.2.2.2.2.1
theorem dX1_followWays_117 : decode cX1_followWays 117 = .ok (.iload 4, 2) := gdX1_followWays_110.2.2.2.2.2.1
theorem dX1_followWays_119 : decode cX1_followWays 119 = .ok (.iload 6, 2) := gdX1_followWays_110.2.2.2.2.2.2.1
theorem dX1_followWays_121 : decode cX1_followWays 121 = .ok (.iastore, 1) := gdX1_followWays_110.2.2.2.2.2.2.2.1
theorem dX1_followWays_122 : decode cX1_followWays 122 = .ok (.iload 9, 2) := gdX1_followWays_110.2.2.2.2.2.2.2.2.1
theorem dX1_followWays_124 : decode cX1_followWays 124 = .ok (.istore_n 3, 1) := gdX1_followWays_110.2.2.2.2.2.2.2.2.2.1
theorem dX1_followWays_125 : decode cX1_followWays 125 = .ok (.iconst 1, 1) := gdX1_followWays_110.2.2.2.2.2.2.2.2.2.2.1
theorem dX1_followWays_126 : decode cX1_followWays 126 = .ok (.istore 5, 2) := gdX1_followWays_110.2.2.2.2.2.2.2.2.2.2.2
theorem gdX1_followWays_54 : decode cX1_followWays 54 = .ok (.iload_n 3, 1) ∧ decode cX1_followWays 55 = .ok (.iload_n 2, 1) ∧ decode cX1_followWays 56 = .ok (.if_icmp .ge 18, 3) ∧ decode cX1_followWays 74 = .ok (.iconst 0, 1) ∧ decode cX1_followWays 82 = .ok (.iload_n 3, 1) ∧ decode cX1_followWays 83 = .ok (.iconst 1, 1) ∧ decode cX1_followWays 84 = .ok (.iadd, 1) ∧ decode cX1_followWays 85 = .ok (.goto 4, 3) ∧ decode cX1_followWays 59 = .ok (.aload_n 0, 1) ∧ decode cX1_followWays 60 = .ok (.getfield 18, 3) ∧ decode cX1_followWays 63 = .ok (.iload_n 3, 1) ∧ decode cX1_followWays 64 = .ok (.iaload, 1) := by decide +kernel
theorem dX1_followWays_54 : decode cX1_followWays 54 = .ok (.iload_n 3, 1) := gdX1_followWays_54.1
theorem dX1_followWays_55 : decode cX1_followWays 55 = .ok (.iload_n 2, 1) := gdX1_followWays_54.2.1
theorem dX1_followWays_56 : decode cX1_followWays 56 = .ok (.if_icmp .ge 18, 3) := gdX1_followWays_54.2.2.1
theorem dX1_followWays_74 : decode cX1_followWays 74 = .ok (.iconst 0, 1) := gdX1_followWays_54.2.2.2.1
theorem dX1_followWays_82 : decode cX1_followWays 82 = .ok (.iload_n 3, 1) := gdX1_followWays_54.2.2.2.2.1
theorem dX1_followWays_83 : decode cX1_followWays 83 = .ok (.iconst 1, 1) := gdX1_followWays_54.2.2.2.2.2.1
theorem dX1_followWays_84 : decode cX1_followWays 84 = .ok (.iadd, 1) := gdX1_followWays_54.2.2.2.2.2.2.1
theorem dX1_followWays_85 : decode cX1_followWays 85 = .ok (.goto 4, 3) := gdX1_followWays_54.2.2.2.2.2.2.2.1
theorem dX1_followWays_59 : decode cX1_followWays 59 = .ok (.aload_n 0, 1) := gdX1_followWays_54.2.2.2.2.2.2.2.2.1
theorem dX1_followWays_60 : decode cX1_followWays 60 = .ok (.getfield 18, 3) := gdX1_followWays_54.2.2.2.2.2.2.2.2.2.1
theorem dX1_followWays_63 : decode cX1_followWays 63 = .ok (.iload_n 3, 1) := gdX1_followWays_54.2.2.2.2.2.2.2.2.2.2.1
theorem dX1_followWays_64 : decode cX1_followWays 64 = .ok (.iaload, 1) := gdX1_followWays_54.2.2.2.2.2.2.2.2.2.2.2
theorem dX1_followWays_65 : decode cX1_followWays 65 = .ok (.iload 6, 2) := by decide +kernel
theorem dX1_followWays_67 : decode cX1_followWays 67 = .ok (.if_icmp .ne 7, 3) := by decide +kernel
set_option maxHeartbeats 1000000 in
set_option maxRecDepth 100000 in
theorem s_followWays (l : Launch) (D : va_G) (cy : Nat → ClassId) (q0 : Nat) (q1 : Nat) (q2 : Nat) (q3 : Nat) (q4 : Nat) (er : Nat) (ql : Nat) (qo : Int32) (fy : Nat → Int32) (fwa : Nat → Int32) (fwy : Nat → Int32) (h0 : Nat) (h1 : Nat) (h2 : Nat) (h3 : Nat) (h4 : Nat) (h5 : Nat) (h6 : Nat) (h7 : Nat) (h8 : Nat) (h9 : Nat) (h10 : Nat) (h11 : Nat) (hv0 : Value) (hv1 : Value) (hv2 : Value) (hv3 : Value) (hv4 : Value) (fc : Nat → Int32) (c0 : Nat) (c1 : Nat) (c2 : Nat) (c3 : Nat) (e0 : Nat) (e1 : Nat) (e2 : Nat) (et : Int32) (el : Nat) (ef : Nat) (fg : Nat → Int32) (sz : Nat) (hcn : cntOK fc c0 c1 c2 c3) (hc0 : c0 ≤ 8) (hc1 : c1 ≤ 4) (hc2 : c2 ≤ 4) (hc3 : c3 ≤ 6) (hql : ql ≤ 5) (hsz : sz ≤ 10) (hwdp : ∀ i9 j9 : Nat, i9 ≤ ql → j9 ≤ sz → fwy (i9 * 11 + j9) = nI (waD fg c0 fwa sz ql (ql - i9) j9)) : XMv l D (tyL cy) E0 yX1_followWays cX1_followWays 10 none (rmk 2 0 0) [.ref q0, .ref e0, .int (nI sz)] [wO q0 1 [.ref q1, .ref er, .ref q2, .ref q3, .ref q4, .ref h0, .int (nI ql), .int qo], wI (cy 1) q1 5 (fy), wI (cy 1) q3 10 (fwa), wI (cy 1) q4 66 (fwy), wO h0 4 [.ref h1, .ref h2, .ref h3, .ref h4, .ref h5, .ref h6, .ref h7, .ref h8, .ref h9, .ref h10, .ref h11, hv0, hv1, hv2, hv3, hv4], wI (cy 1) h1 4 (fc), wO e0 2 [.ref e1, .ref e2, .int et, .int (nI el), .int (nI ef)], wI (cy 1) e1 10 (fg)] (fun (fy2 : Nat → Int32) => (okW c0 fwa sz → 0 < waD fg c0 fwa sz ql ql 0 → fdP (wtP fg fwa sz ql) c0 ql ql (fun _ => 0) = some (tr9 ql fy2))) (fun (fy2 : Nat → Int32) => [wO q0 1 [.ref q1, .ref er, .ref q2, .ref q3, .ref q4, .ref h0, .int (nI ql), .int qo], wI (cy 1) q1 5 (fy2), wI (cy 1) q3 10 (fwa), wI (cy 1) q4 66 (fwy), wO h0 4 [.ref h1, .ref h2, .ref h3, .ref h4, .ref h5, .ref h6, .ref h7, .ref h8, .ref h9, .ref h10, .ref h11, hv0, hv1, hv2, hv3, hv4], wI (cy 1) h1 4 (fc), wO e0 2 [.ref e1, .ref e2, .int et, .int (nI el), .int (nI ef)], wI (cy 1) e1 10 (fg)]) := by
  refine XMv.start (by decide) (Nat.le_of_ble_eq_true rfl) ?_
  intro p e s m below meth c args A ls Q hat hQ
  obtain ⟨hx, hb, hr, hml, hown, hg, hlocks, hin, hK, hA, hP, hD, hS, hE, hl⟩ := hat
  have hown : s.vm.findClass RX1 = some m.cls := hown
  have hl : lv_has ls 10 [(0, .ref q0), (1, .ref e0), (2, .int (nI sz))] := hl
  refine lv_iconst (v := 0) hx hb dX1_followWays_0 (by decide) ?_
  refine lv_istore_n (lv' := [(3, .int 0), (0, .ref q0), (1, .ref e0), (2, .int (nI sz))]) hx hb dX1_followWays_1 rfl hl (by decide) rfl (fun ls hl => ?_)
  refine lv_iconst (v := 0) hx hb dX1_followWays_2 (by decide) ?_
  refine lv_istore (lv' := [(4, .int 0), (3, .int 0), (0, .ref q0), (1, .ref e0), (2, .int (nI sz))]) hx hb dX1_followWays_3 hl (by decide) rfl (fun ls hl => ?_)
  have loop1 : ∀ (zn : Nat) (jj1 : Nat) (i1 : Nat) (fa2_1 : Nat → Int32), (i1 ≤ ql) → (jj1 ≤ sz) → (okW c0 fwa sz → 0 < waD fg c0 fwa sz ql ql 0 → fwA fg fwa c0 sz ql i1 jj1 fa2_1) → ql - i1 + 1 ≤ zn → ∀ (H : Heap) (locs : List Loc), va_P D vwCl [wO q0 1 [.ref q1, .ref er, .ref q2, .ref q3, .ref q4, .ref h0, .int (nI ql), .int qo], wI (cy 1) q1 5 (fa2_1), wI (cy 1) q3 10 (fwa), wI (cy 1) q4 66 (fwy), wO h0 4 [.ref h1, .ref h2, .ref h3, .ref h4, .ref h5, .ref h6, .ref h7, .ref h8, .ref h9, .ref h10, .ref h11, hv0, hv1, hv2, hv3, hv4], wI (cy 1) h1 4 (fc), wO e0 2 [.ref e1, .ref e2, .int et, .int (nI el), .int (nI ef)], wI (cy 1) e1 10 (fg)] H → va_D A [wO q0 1 [.ref q1, .ref er, .ref q2, .ref q3, .ref q4, .ref h0, .int (nI ql), .int qo], wI (cy 1) q1 5 (fa2_1), wI (cy 1) q3 10 (fwa), wI (cy 1) q4 66 (fwy), wO h0 4 [.ref h1, .ref h2, .ref h3, .ref h4, .ref h5, .ref h6, .ref h7, .ref h8, .ref h9, .ref h10, .ref h11, hv0, hv1, hv2, hv3, hv4], wI (cy 1) h1 4 (fc), wO e0 2 [.ref e1, .ref e2, .int et, .int (nI el), .int (nI ef)], wI (cy 1) e1 10 (fg)] → va_S A s.heap H locs → ∀ ls : Array Slot, lv_has ls 10 [(4, .int (nI i1)), (3, .int (nI jj1)), (0, .ref q0), (1, .ref e0), (2, .int (nI sz))] → W p l e (rmk 2 0 0) s m args below meth c H locs 0 0 Q (F0 m 5 ls []) := by
    try clear hP hD hS
    intro zn
    induction zn with
    | zero => intro jj1 i1 fa2_1 _ _ _ hz; exact absurd hz (by omega)
    | succ zn ih1 =>
      intro jj1 i1 fa2_1 hf0_1 hf1_1 hf2_1 hmu1 H locs hP hD hS ls hl
      refine lv_iload hx hb dX1_followWays_5 (lv_at hl 0 rfl) ?_
      refine lv_aload_n hx hb dX1_followWays_7 rfl (lv_at hl 2 rfl) ?_
      refine va_get (D := D) (ci := 1) (v := .int (nI ql)) (C := RX1) (T := TX1) (N := 8) hx hb hg i_X1 hown hK hP 0 rfl rfl 6 (by decide) (hg _ m_559) (fun _ h9 => h9) rfl dX1_followWays_8 ?_
      refine lv_icmp_ge (tgt := 140) hx hb dX1_followWays_11 (by decide) (fun c_2 => ?_) (fun c_2 => ?_)
      · have q_3 : ql ≤ i1 := q_le (a := ql) (b := i1) rfl rfl (by omega) (by omega) c_2
        exact x_vret hQ hx hb hr hlocks hK hP hD hS dX1_followWays_140 fa2_1 ((fun h8 h9 => fw_f h8 (by omega) (by omega) (by omega) (hf2_1 h8 h9))) [0, 1, 2, 3, 4, 5, 6, 7] (by decide +kernel) rfl (Nat.le_of_ble_eq_true rfl) (Nat.le_of_ble_eq_true rfl)
      · have q_3 : i1 < ql := q_nle (a := ql) (b := i1) rfl rfl (by omega) (by omega) c_2
        refine lv_iconst (v := 0) hx hb dX1_followWays_14 (by decide) ?_
        refine lv_istore (lv' := [(5, .int 0), (4, .int (nI i1)), (3, .int (nI jj1)), (0, .ref q0), (1, .ref e0), (2, .int (nI sz))]) hx hb dX1_followWays_15 hl (by decide) rfl (fun ls hl => ?_)
        refine lv_iconst (v := 0) hx hb dX1_followWays_17 (by decide) ?_
        refine lv_istore (lv' := [(6, .int 0), (5, .int 0), (4, .int (nI i1)), (3, .int (nI jj1)), (0, .ref q0), (1, .ref e0), (2, .int (nI sz))]) hx hb dX1_followWays_18 hl (by decide) rfl (fun ls hl => ?_)
        have loop4 : ∀ (zn : Nat) (jj4 : Nat) (fd4 : Int32) (wd4 : Nat) (fa3_4 : Nat → Int32), (wd4 ≤ c0) → (jj4 ≤ sz) → (okW c0 fwa sz → 0 < waD fg c0 fwa sz ql ql 0 → fwB fg fwa c0 sz ql i1 jj4 wd4 fd4 fa3_4) → c0 - wd4 + 1 ≤ zn → ∀ (H : Heap) (locs : List Loc), va_P D vwCl [wO q0 1 [.ref q1, .ref er, .ref q2, .ref q3, .ref q4, .ref h0, .int (nI ql), .int qo], wI (cy 1) q1 5 (fa3_4), wI (cy 1) q3 10 (fwa), wI (cy 1) q4 66 (fwy), wO h0 4 [.ref h1, .ref h2, .ref h3, .ref h4, .ref h5, .ref h6, .ref h7, .ref h8, .ref h9, .ref h10, .ref h11, hv0, hv1, hv2, hv3, hv4], wI (cy 1) h1 4 (fc), wO e0 2 [.ref e1, .ref e2, .int et, .int (nI el), .int (nI ef)], wI (cy 1) e1 10 (fg)] H → va_D A [wO q0 1 [.ref q1, .ref er, .ref q2, .ref q3, .ref q4, .ref h0, .int (nI ql), .int qo], wI (cy 1) q1 5 (fa3_4), wI (cy 1) q3 10 (fwa), wI (cy 1) q4 66 (fwy), wO h0 4 [.ref h1, .ref h2, .ref h3, .ref h4, .ref h5, .ref h6, .ref h7, .ref h8, .ref h9, .ref h10, .ref h11, hv0, hv1, hv2, hv3, hv4], wI (cy 1) h1 4 (fc), wO e0 2 [.ref e1, .ref e2, .int et, .int (nI el), .int (nI ef)], wI (cy 1) e1 10 (fg)] → va_S A s.heap H locs → ∀ ls : Array Slot, lv_has ls 10 [(6, .int (nI wd4)), (5, .int fd4), (4, .int (nI i1)), (3, .int (nI jj4)), (0, .ref q0), (1, .ref e0), (2, .int (nI sz))] → W p l e (rmk 2 0 0) s m args below meth c H locs 0 0 Q (F0 m 20 ls []) := by
          try clear hP hD hS
          intro zn
          induction zn with
          | zero => intro jj4 fd4 wd4 fa3_4 _ _ _ hz; exact absurd hz (by omega)
          | succ zn ih4 =>
            intro jj4 fd4 wd4 fa3_4 hf0_4 hf1_4 hf2_4 hmu4 H locs hP hD hS ls hl
            refine lv_iload hx hb dX1_followWays_20 (lv_at hl 0 rfl) ?_
            refine lv_aload_n hx hb dX1_followWays_22 rfl (lv_at hl 4 rfl) ?_
            refine va_get (D := D) (ci := 1) (v := .ref h0) (C := RX1) (T := TX1) (N := 8) hx hb hg i_X1 hown hK hP 0 rfl rfl 5 (by decide) (hg _ m_558) (fun _ h9 => h9) rfl dX1_followWays_23 ?_
            refine va_get (D := D) (ci := 4) (v := .ref h1) (C := RX4) (T := TX4) (N := 16) hx hb hg i_X4 hown hK hP 4 rfl rfl 0 (by decide) (hg _ m_331) (fun _ h9 => h9) rfl dX1_followWays_26 ?_
            refine lv_iconst (v := 0) hx hb dX1_followWays_29 (by decide) ?_
            refine va_iald hx hb hK hP 5 1 rfl rfl (by unfold vp_in; decide) dX1_followWays_30 ?_
            refine lv_topi (fun y_5 hy_5 => ?_)
            obtain rfl : y_5 = nI c0 := hy_5.trans hcn.1
            refine lv_icmp_ge (tgt := 134) hx hb dX1_followWays_31 (by decide) (fun c_6 => ?_) (fun c_6 => ?_)
            · have q_7 : c0 ≤ wd4 := q_le (a := c0) (b := wd4) rfl rfl (by omega) (by omega) c_6
              refine lv_iinc (v := nI (i1 + 1)) (lv' := [(4, .int (nI (i1 + 1))), (6, .int (nI wd4)), (5, .int fd4), (3, .int (nI jj4)), (0, .ref q0), (1, .ref e0), (2, .int (nI sz))]) hx hb dX1_followWays_134 hl (k := 2) rfl (nI_add i1 1) (by decide) rfl (fun ls hl => ?_)
              refine lv_goto (tgt := 5) hx hb dX1_followWays_137 (by decide) ?_
              exact ih1  jj4 ((i1 + 1)) fa3_4 (by omega) (by omega) (fun h8 h9 => fw_e (by omega) h8 (by omega) (hf2_4 h8 h9) (Or.inl (by omega))) (by omega) _ _ (hP.sub [0, 1, 2, 3, 4, 5, 6, 7] rfl) (hD.sub [0, 1, 2, 3, 4, 5, 6, 7] (by decide +kernel) rfl) hS ls (lv_sub hl [0, 3, 4, 5, 6] rfl)
            · have q_7 : wd4 < c0 := q_nle (a := c0) (b := wd4) rfl rfl (by omega) (by omega) c_6
              refine lv_iload hx hb dX1_followWays_34 (lv_at hl 1 rfl) ?_
              refine lv_if_ne (tgt := 134) hx hb dX1_followWays_36 (by decide) (fun c_36 => ?_) (fun c_36 => ?_)
              · refine lv_iinc (v := nI (i1 + 1)) (lv' := [(4, .int (nI (i1 + 1))), (6, .int (nI wd4)), (5, .int fd4), (3, .int (nI jj4)), (0, .ref q0), (1, .ref e0), (2, .int (nI sz))]) hx hb dX1_followWays_134 hl (k := 2) rfl (nI_add i1 1) (by decide) rfl (fun ls hl => ?_)
                refine lv_goto (tgt := 5) hx hb dX1_followWays_137 (by decide) ?_
                exact ih1  jj4 ((i1 + 1)) fa3_4 (by omega) (by omega) (fun h8 h9 => fw_e (by omega) h8 (by omega) (hf2_4 h8 h9) (Or.inr c_36)) (by omega) _ _ (hP.sub [0, 1, 2, 3, 4, 5, 6, 7] rfl) (hD.sub [0, 1, 2, 3, 4, 5, 6, 7] (by decide +kernel) rfl) hS ls (lv_sub hl [0, 3, 4, 5, 6] rfl)
              · refine lv_aload_n hx hb dX1_followWays_39 rfl (lv_at hl 5 rfl) ?_
                refine lv_iload hx hb dX1_followWays_40 (lv_at hl 2 rfl) ?_
                refine lv_iload hx hb dX1_followWays_42 (lv_at hl 0 rfl) ?_
                refine x_callVi (q := (RX2, TX2, 5)) (ci := 2) (q0 := 0) (wr := [wO q0 1 [.ref q1, .ref er, .ref q2, .ref q3, .ref q4, .ref h0, .int (nI ql), .int qo], wI (cy 1) q1 5 (fa3_4), wI (cy 1) q3 10 (fwa), wI (cy 1) q4 66 (fwy), wO h0 4 [.ref h1, .ref h2, .ref h3, .ref h4, .ref h5, .ref h6, .ref h7, .ref h8, .ref h9, .ref h10, .ref h11, hv0, hv1, hv2, hv3, hv4], wI (cy 1) h1 4 (fc)]) (rest := []) ⟨hx, hb, hml, hown, hg, hl.1⟩ k_X1_70 (s_comesBack l D cy e0 e1 e2 et el ef fg i1 (nI wd4) (by omega)) E0_blind hK hP hD hS hA [6, 7] [0, 1, 2, 3, 4, 5] ⟨rfl, rfl, by decide +kernel, by decide +kernel, by decide +kernel⟩ rfl rfl (fun _ _ _ => trivial) dX1_followWays_44 rfl rfl (Nat.le_of_ble_eq_true rfl) ⟨Nat.le_of_ble_eq_true rfl, Nat.le_of_ble_eq_true rfl⟩ ⟨Nat.le_of_ble_eq_true rfl, Nat.le_of_ble_eq_true rfl⟩ (fun zr8 zu8 H locs hw8 hP9 hD9 hS9 => ?_)
                clear hP hD hS
                refine reW [wO q0 1 [.ref q1, .ref er, .ref q2, .ref q3, .ref q4, .ref h0, .int (nI ql), .int qo], wI (cy 1) q1 5 (fa3_4), wI (cy 1) q3 10 (fwa), wI (cy 1) q4 66 (fwy), wO h0 4 [.ref h1, .ref h2, .ref h3, .ref h4, .ref h5, .ref h6, .ref h7, .ref h8, .ref h9, .ref h10, .ref h11, hv0, hv1, hv2, hv3, hv4], wI (cy 1) h1 4 (fc), wO e0 2 [.ref e1, .ref e2, .int et, .int (nI el), .int (nI ef)], wI (cy 1) e1 10 (fg)] hP9 hD9 hS9 (fun hP hD hS => ?_)
                clear hP9 hD9 hS9
                refine W.widen (k := 0) (n := 0) (Nat.le_of_ble_eq_true rfl) (Nat.le_of_ble_eq_true rfl) ?_
                replace hw8 : (zr8 = 0 ∨ zr8 = 1) ∧ (bR zr8 (gB (fg i1) (nI wd4))) := hw8
                obtain ⟨f_9, f_10⟩ := hw8
                refine lv_istore (lv' := [(7, .int zr8), (6, .int (nI wd4)), (5, .int fd4), (4, .int (nI i1)), (3, .int (nI jj4)), (0, .ref q0), (1, .ref e0), (2, .int (nI sz))]) hx hb dX1_followWays_47 hl (by decide) rfl (fun ls hl => ?_)
                refine lv_iload hx hb dX1_followWays_49 (lv_at hl 0 rfl) ?_
                refine lv_if_eq (tgt := 70) hx hb dX1_followWays_51 (by decide) (fun c_51 => ?_) (fun c_51 => ?_)
                · refine lv_iconst (v := 1) hx hb dX1_followWays_70 (by decide) ?_
                  refine lv_goto (tgt := 75) hx hb dX1_followWays_71 (by decide) ?_
                  refine lv_istore (lv' := [(8, .int 1), (7, .int zr8), (6, .int (nI wd4)), (5, .int fd4), (4, .int (nI i1)), (3, .int (nI jj4)), (0, .ref q0), (1, .ref e0), (2, .int (nI sz))]) hx hb dX1_followWays_75 hl (by decide) rfl (fun ls hl => ?_)
                  refine lv_iload hx hb dX1_followWays_77 (lv_at hl 1 rfl) ?_
                  refine lv_if_eq (tgt := 88) hx hb dX1_followWays_79 (by decide) (fun _ => ?_) (fun h => absurd c_51 h)
                  refine lv_iload_n hx hb dX1_followWays_88 rfl (lv_at hl 5 rfl) ?_
                  refine lv_istore (lv' := [(9, .int (nI jj4)), (8, .int 1), (7, .int zr8), (6, .int (nI wd4)), (5, .int fd4), (4, .int (nI i1)), (3, .int (nI jj4)), (0, .ref q0), (1, .ref e0), (2, .int (nI sz))]) hx hb dX1_followWays_89 hl (by decide) rfl (fun ls hl => ?_)
                  refine lv_iload hx hb dX1_followWays_91 (lv_at hl 1 rfl) ?_
                  refine lv_if_eq (tgt := 128) hx hb dX1_followWays_93 (by decide) (fun h => absurd h (by decide)) (fun _ => ?_)
                  refine lv_aload_n hx hb dX1_followWays_96 rfl (lv_at hl 7 rfl) ?_
                  refine va_get (D := D) (ci := 1) (v := .ref q4) (C := RX1) (T := TX1) (N := 8) hx hb hg i_X1 hown hK hP 0 rfl rfl 4 (by decide) (hg _ m_557) (fun _ h9 => h9) rfl dX1_followWays_97 ?_
                  refine lv_iload hx hb dX1_followWays_100 (lv_at hl 5 rfl) ?_
                  refine lv_iconst (v := 1) hx hb dX1_followWays_102 (by decide) ?_
                  refine lv_iadd hx hb dX1_followWays_103 ?_
                  refine lv_topi (fun y_11 hy_11 => ?_)
                  obtain rfl : y_11 = nI (i1 + 1) := hy_11.trans (nI_add i1 1)
                  refine lv_iload hx hb dX1_followWays_104 (lv_at hl 0 rfl) ?_
                  refine x_callSi (wr := [wO q0 1 [.ref q1, .ref er, .ref q2, .ref q3, .ref q4, .ref h0, .int (nI ql), .int qo], wI (cy 1) q1 5 (fa3_4), wI (cy 1) q3 10 (fwa), wI (cy 1) q4 66 (fwy), wO h0 4 [.ref h1, .ref h2, .ref h3, .ref h4, .ref h5, .ref h6, .ref h7, .ref h8, .ref h9, .ref h10, .ref h11, hv0, hv1, hv2, hv3, hv4], wI (cy 1) h1 4 (fc), wO e0 2 [.ref e1, .ref e2, .int et, .int (nI el), .int (nI ef)], wI (cy 1) e1 10 (fg)]) (rest := [.ref q4]) ⟨hx, hb, hml, hown, hg, hl.1⟩ k_X1_111 (s_wayIndex l D cy ((i1 + 1)) jj4 (by omega) (by omega)) E0_blind hK hP hD hS hA [] [0, 1, 2, 3, 4, 5, 6, 7] ⟨rfl, rfl, by decide +kernel, by decide +kernel, by decide +kernel⟩ (fun _ _ _ => trivial) dX1_followWays_106 rfl rfl (Nat.le_of_ble_eq_true rfl) ⟨Nat.le_of_ble_eq_true rfl, Nat.le_of_ble_eq_true rfl⟩ ⟨Nat.le_of_ble_eq_true rfl, Nat.le_of_ble_eq_true rfl⟩ (fun zr12 zu12 H locs hw12 hP9 hD9 hS9 => ?_)
                  clear hP hD hS
                  obtain ⟨k_13, rfl⟩ : ∃ z, z = zu12 := ⟨_, rfl⟩
                  refine reW [wO q0 1 [.ref q1, .ref er, .ref q2, .ref q3, .ref q4, .ref h0, .int (nI ql), .int qo], wI (cy 1) q1 5 (fa3_4), wI (cy 1) q3 10 (fwa), wI (cy 1) q4 66 (fwy), wO h0 4 [.ref h1, .ref h2, .ref h3, .ref h4, .ref h5, .ref h6, .ref h7, .ref h8, .ref h9, .ref h10, .ref h11, hv0, hv1, hv2, hv3, hv4], wI (cy 1) h1 4 (fc), wO e0 2 [.ref e1, .ref e2, .int et, .int (nI el), .int (nI ef)], wI (cy 1) e1 10 (fg)] hP9 hD9 hS9 (fun hP hD hS => ?_)
                  clear hP9 hD9 hS9
                  refine W.widen (k := 0) (n := 0) (Nat.le_of_ble_eq_true rfl) (Nat.le_of_ble_eq_true rfl) ?_
                  replace hw12 : (zr12 = nI k_13) ∧ (k_13 = ((i1 + 1)) * 11 + jj4) := hw12
                  obtain ⟨f_14, f_15⟩ := hw12
                  subst f_14
                  refine va_iald hx hb hK hP 3 1 rfl rfl (vp_in_nI (by omega) (by decide)) dX1_followWays_109 ?_
                  refine lv_topi (fun x_16 ex_16 => ?_)
                  refine lv_if_le (tgt := 128) hx hb dX1_followWays_110 (by decide) (fun c_110 => ?_) (fun c_110 => ?_)
                  · refine lv_iinc (v := nI (wd4 + 1)) (lv' := [(6, .int (nI (wd4 + 1))), (9, .int (nI jj4)), (8, .int 1), (7, .int zr8), (5, .int fd4), (4, .int (nI i1)), (3, .int (nI jj4)), (0, .ref q0), (1, .ref e0), (2, .int (nI sz))]) hx hb dX1_followWays_128 hl (k := 3) rfl (nI_add wd4 1) (by decide) rfl (fun ls hl => ?_)
                    refine lv_goto (tgt := 20) hx hb dX1_followWays_131 (by decide) ?_
                    exact ih4  jj4 fd4 ((wd4 + 1)) fa3_4 (by omega) (by omega) (fun h8 h9 => fw_n1 (by omega) h8 (by omega) (hf2_4 h8 h9) c_36 (bR_f f_10 c_51) ((fw_z (by omega) (by omega) (fw_w hwdp f_15 (by omega) (by omega) (by omega) ex_16)).1 c_110)) (by omega) _ _ (hP.sub [0, 1, 2, 3, 4, 5, 6, 7] rfl) (hD.sub [0, 1, 2, 3, 4, 5, 6, 7] (by decide +kernel) rfl) hS ls (lv_sub hl [0, 4, 5, 6, 7, 8, 9] rfl)
                  · refine lv_aload_n hx hb dX1_followWays_113 rfl (lv_at hl 7 rfl) ?_
                    refine va_get (D := D) (ci := 1) (v := .ref q1) (C := RX1) (T := TX1) (N := 8) hx hb hg i_X1 hown hK hP 0 rfl rfl 0 (by decide) (hg _ m_552) (fun _ h9 => h9) rfl dX1_followWays_114 ?_
                    refine lv_iload hx hb dX1_followWays_117 (lv_at hl 5 rfl) ?_
                    refine lv_iload hx hb dX1_followWays_119 (lv_at hl 3 rfl) ?_
                    refine va_iast hx hb hK hP hD hS 1 1 rfl rfl (vp_in_nI (by omega) (by decide)) dX1_followWays_121 (fun H locs hP9 hD9 hS9 => ?_)
                    clear hP hD hS
                    obtain ⟨g_17, eg_17⟩ : ∃ y, upd fa3_4 (nI i1 : Int32).toNatClampNeg (nI wd4) = y := ⟨_, rfl⟩
                    rw [eg_17] at hP9 hD9
                    refine reW [wO q0 1 [.ref q1, .ref er, .ref q2, .ref q3, .ref q4, .ref h0, .int (nI ql), .int qo], wI (cy 1) q1 5 (g_17), wI (cy 1) q3 10 (fwa), wI (cy 1) q4 66 (fwy), wO h0 4 [.ref h1, .ref h2, .ref h3, .ref h4, .ref h5, .ref h6, .ref h7, .ref h8, .ref h9, .ref h10, .ref h11, hv0, hv1, hv2, hv3, hv4], wI (cy 1) h1 4 (fc), wO e0 2 [.ref e1, .ref e2, .int et, .int (nI el), .int (nI ef)], wI (cy 1) e1 10 (fg)] hP9 hD9 hS9 (fun hP hD hS => ?_)
                    clear hP9 hD9 hS9
                    refine lv_iload hx hb dX1_followWays_122 (lv_at hl 0 rfl) ?_
                    refine lv_istore_n (lv' := [(3, .int (nI jj4)), (9, .int (nI jj4)), (8, .int 1), (7, .int zr8), (6, .int (nI wd4)), (5, .int fd4), (4, .int (nI i1)), (0, .ref q0), (1, .ref e0), (2, .int (nI sz))]) hx hb dX1_followWays_124 rfl hl (by decide) rfl (fun ls hl => ?_)
                    refine lv_iconst (v := 1) hx hb dX1_followWays_125 (by decide) ?_
                    refine lv_istore (lv' := [(5, .int 1), (3, .int (nI jj4)), (9, .int (nI jj4)), (8, .int 1), (7, .int zr8), (6, .int (nI wd4)), (4, .int (nI i1)), (0, .ref q0), (1, .ref e0), (2, .int (nI sz))]) hx hb dX1_followWays_126 hl (by decide) rfl (fun ls hl => ?_)
                    refine lv_iinc (v := nI (wd4 + 1)) (lv' := [(6, .int (nI (wd4 + 1))), (5, .int 1), (3, .int (nI jj4)), (9, .int (nI jj4)), (8, .int 1), (7, .int zr8), (4, .int (nI i1)), (0, .ref q0), (1, .ref e0), (2, .int (nI sz))]) hx hb dX1_followWays_128 hl (k := 5) rfl (nI_add wd4 1) (by decide) rfl (fun ls hl => ?_)
                    refine lv_goto (tgt := 20) hx hb dX1_followWays_131 (by decide) ?_
                    exact ih4  jj4 1 ((wd4 + 1)) g_17 (by omega) (by omega) (fun h8 h9 => fw_y1 (by omega) h8 (by omega) (by omega) (by omega) (hf2_4 h8 h9) c_36 (bR_f f_10 c_51) ((fw_z (by omega) (by omega) (fw_w hwdp f_15 (by omega) (by omega) (by omega) ex_16)).2 c_110) eg_17) (by omega) _ _ (hP.sub [0, 1, 2, 3, 4, 5, 6, 7] rfl) (hD.sub [0, 1, 2, 3, 4, 5, 6, 7] (by decide +kernel) rfl) hS ls (lv_sub hl [0, 1, 6, 2, 7, 8, 9] rfl)
                · refine lv_iload_n hx hb dX1_followWays_54 rfl (lv_at hl 4 rfl) ?_
                  refine lv_iload_n hx hb dX1_followWays_55 rfl (lv_at hl 7 rfl) ?_
                  refine lv_icmp_ge (tgt := 74) hx hb dX1_followWays_56 (by decide) (fun c_18 => ?_) (fun c_18 => ?_)
                  · have q_19 : sz ≤ jj4 := q_le (a := sz) (b := jj4) rfl rfl (by omega) (by omega) c_18
                    refine lv_iconst (v := 0) hx hb dX1_followWays_74 (by decide) ?_
                    refine lv_istore (lv' := [(8, .int 0), (7, .int zr8), (6, .int (nI wd4)), (5, .int fd4), (4, .int (nI i1)), (3, .int (nI jj4)), (0, .ref q0), (1, .ref e0), (2, .int (nI sz))]) hx hb dX1_followWays_75 hl (by decide) rfl (fun ls hl => ?_)
                    refine lv_iload hx hb dX1_followWays_77 (lv_at hl 1 rfl) ?_
                    refine lv_if_eq (tgt := 88) hx hb dX1_followWays_79 (by decide) (fun h => absurd h c_51) (fun _ => ?_)
                    refine lv_iload_n hx hb dX1_followWays_82 rfl (lv_at hl 5 rfl) ?_
                    refine lv_iconst (v := 1) hx hb dX1_followWays_83 (by decide) ?_
                    refine lv_iadd hx hb dX1_followWays_84 ?_
                    refine lv_topi (fun y_20 hy_20 => ?_)
                    obtain rfl : y_20 = nI (jj4 + 1) := hy_20.trans (nI_add jj4 1)
                    refine lv_goto (tgt := 89) hx hb dX1_followWays_85 (by decide) ?_
                    refine lv_istore (lv' := [(9, .int (nI (jj4 + 1))), (8, .int 0), (7, .int zr8), (6, .int (nI wd4)), (5, .int fd4), (4, .int (nI i1)), (3, .int (nI jj4)), (0, .ref q0), (1, .ref e0), (2, .int (nI sz))]) hx hb dX1_followWays_89 hl (by decide) rfl (fun ls hl => ?_)
                    refine lv_iload hx hb dX1_followWays_91 (lv_at hl 1 rfl) ?_
                    refine lv_if_eq (tgt := 128) hx hb dX1_followWays_93 (by decide) (fun _ => ?_) (fun h => absurd (by decide) h)
                    refine lv_iinc (v := nI (wd4 + 1)) (lv' := [(6, .int (nI (wd4 + 1))), (9, .int (nI (jj4 + 1))), (8, .int 0), (7, .int zr8), (5, .int fd4), (4, .int (nI i1)), (3, .int (nI jj4)), (0, .ref q0), (1, .ref e0), (2, .int (nI sz))]) hx hb dX1_followWays_128 hl (k := 3) rfl (nI_add wd4 1) (by decide) rfl (fun ls hl => ?_)
                    refine lv_goto (tgt := 20) hx hb dX1_followWays_131 (by decide) ?_
                    exact ih4  jj4 fd4 ((wd4 + 1)) fa3_4 (by omega) (by omega) (fun h8 h9 => fw_n2 (by omega) h8 (by omega) (by omega) (hf2_4 h8 h9) c_36 (bR_t f_10 c_51) (fun h7 => absurd h7.1 (by omega))) (by omega) _ _ (hP.sub [0, 1, 2, 3, 4, 5, 6, 7] rfl) (hD.sub [0, 1, 2, 3, 4, 5, 6, 7] (by decide +kernel) rfl) hS ls (lv_sub hl [0, 4, 5, 6, 7, 8, 9] rfl)
                  · have q_19 : jj4 < sz := q_nle (a := sz) (b := jj4) rfl rfl (by omega) (by omega) c_18
                    refine lv_aload_n hx hb dX1_followWays_59 rfl (lv_at hl 5 rfl) ?_
                    refine va_get (D := D) (ci := 1) (v := .ref q3) (C := RX1) (T := TX1) (N := 8) hx hb hg i_X1 hown hK hP 0 rfl rfl 3 (by decide) (hg _ m_556) (fun _ h9 => h9) rfl dX1_followWays_60 ?_
                    refine lv_iload_n hx hb dX1_followWays_63 rfl (lv_at hl 4 rfl) ?_
                    refine va_iald hx hb hK hP 2 1 rfl rfl (vp_in_nI (by omega) (by decide)) dX1_followWays_64 ?_
                    refine lv_topi (fun x_21 ex_21 => ?_)
                    refine lv_iload hx hb dX1_followWays_65 (lv_at hl 1 rfl) ?_
                    refine lv_icmp_ne (tgt := 74) hx hb dX1_followWays_67 (by decide) (fun c_67 => ?_) (fun c_67 => ?_)
                    · refine lv_iconst (v := 0) hx hb dX1_followWays_74 (by decide) ?_
                      refine lv_istore (lv' := [(8, .int 0), (7, .int zr8), (6, .int (nI wd4)), (5, .int fd4), (4, .int (nI i1)), (3, .int (nI jj4)), (0, .ref q0), (1, .ref e0), (2, .int (nI sz))]) hx hb dX1_followWays_75 hl (by decide) rfl (fun ls hl => ?_)
                      refine lv_iload hx hb dX1_followWays_77 (lv_at hl 1 rfl) ?_
                      refine lv_if_eq (tgt := 88) hx hb dX1_followWays_79 (by decide) (fun h => absurd h c_51) (fun _ => ?_)
                      refine lv_iload_n hx hb dX1_followWays_82 rfl (lv_at hl 5 rfl) ?_
                      refine lv_iconst (v := 1) hx hb dX1_followWays_83 (by decide) ?_
                      refine lv_iadd hx hb dX1_followWays_84 ?_
                      refine lv_topi (fun y_22 hy_22 => ?_)
                      obtain rfl : y_22 = nI (jj4 + 1) := hy_22.trans (nI_add jj4 1)
                      refine lv_goto (tgt := 89) hx hb dX1_followWays_85 (by decide) ?_
                      refine lv_istore (lv' := [(9, .int (nI (jj4 + 1))), (8, .int 0), (7, .int zr8), (6, .int (nI wd4)), (5, .int fd4), (4, .int (nI i1)), (3, .int (nI jj4)), (0, .ref q0), (1, .ref e0), (2, .int (nI sz))]) hx hb dX1_followWays_89 hl (by decide) rfl (fun ls hl => ?_)
                      refine lv_iload hx hb dX1_followWays_91 (lv_at hl 1 rfl) ?_
                      refine lv_if_eq (tgt := 128) hx hb dX1_followWays_93 (by decide) (fun _ => ?_) (fun h => absurd (by decide) h)
                      refine lv_iinc (v := nI (wd4 + 1)) (lv' := [(6, .int (nI (wd4 + 1))), (9, .int (nI (jj4 + 1))), (8, .int 0), (7, .int zr8), (5, .int fd4), (4, .int (nI i1)), (3, .int (nI jj4)), (0, .ref q0), (1, .ref e0), (2, .int (nI sz))]) hx hb dX1_followWays_128 hl (k := 3) rfl (nI_add wd4 1) (by decide) rfl (fun ls hl => ?_)
                      refine lv_goto (tgt := 20) hx hb dX1_followWays_131 (by decide) ?_
                      exact ih4  jj4 fd4 ((wd4 + 1)) fa3_4 (by omega) (by omega) (fun h8 h9 => fw_n2 (by omega) h8 (by omega) (by omega) (hf2_4 h8 h9) c_36 (bR_t f_10 c_51) (fun h7 => c_67 ((ex_21.trans (congrArg fwa (nI_clamp (by omega)))).trans h7.2))) (by omega) _ _ (hP.sub [0, 1, 2, 3, 4, 5, 6, 7] rfl) (hD.sub [0, 1, 2, 3, 4, 5, 6, 7] (by decide +kernel) rfl) hS ls (lv_sub hl [0, 4, 5, 6, 7, 8, 9] rfl)
                    · refine lv_iconst (v := 1) hx hb dX1_followWays_70 (by decide) ?_
                      refine lv_goto (tgt := 75) hx hb dX1_followWays_71 (by decide) ?_
                      refine lv_istore (lv' := [(8, .int 1), (7, .int zr8), (6, .int (nI wd4)), (5, .int fd4), (4, .int (nI i1)), (3, .int (nI jj4)), (0, .ref q0), (1, .ref e0), (2, .int (nI sz))]) hx hb dX1_followWays_75 hl (by decide) rfl (fun ls hl => ?_)
                      refine lv_iload hx hb dX1_followWays_77 (lv_at hl 1 rfl) ?_
                      refine lv_if_eq (tgt := 88) hx hb dX1_followWays_79 (by decide) (fun h => absurd h c_51) (fun _ => ?_)
                      refine lv_iload_n hx hb dX1_followWays_82 rfl (lv_at hl 5 rfl) ?_
                      refine lv_iconst (v := 1) hx hb dX1_followWays_83 (by decide) ?_
                      refine lv_iadd hx hb dX1_followWays_84 ?_
                      refine lv_topi (fun y_23 hy_23 => ?_)
                      obtain rfl : y_23 = nI (jj4 + 1) := hy_23.trans (nI_add jj4 1)
                      refine lv_goto (tgt := 89) hx hb dX1_followWays_85 (by decide) ?_
                      refine lv_istore (lv' := [(9, .int (nI (jj4 + 1))), (8, .int 1), (7, .int zr8), (6, .int (nI wd4)), (5, .int fd4), (4, .int (nI i1)), (3, .int (nI jj4)), (0, .ref q0), (1, .ref e0), (2, .int (nI sz))]) hx hb dX1_followWays_89 hl (by decide) rfl (fun ls hl => ?_)
                      refine lv_iload hx hb dX1_followWays_91 (lv_at hl 1 rfl) ?_
                      refine lv_if_eq (tgt := 128) hx hb dX1_followWays_93 (by decide) (fun h => absurd h (by decide)) (fun _ => ?_)
                      refine lv_aload_n hx hb dX1_followWays_96 rfl (lv_at hl 7 rfl) ?_
                      refine va_get (D := D) (ci := 1) (v := .ref q4) (C := RX1) (T := TX1) (N := 8) hx hb hg i_X1 hown hK hP 0 rfl rfl 4 (by decide) (hg _ m_557) (fun _ h9 => h9) rfl dX1_followWays_97 ?_
                      refine lv_iload hx hb dX1_followWays_100 (lv_at hl 5 rfl) ?_
                      refine lv_iconst (v := 1) hx hb dX1_followWays_102 (by decide) ?_
                      refine lv_iadd hx hb dX1_followWays_103 ?_
                      refine lv_topi (fun y_24 hy_24 => ?_)
                      obtain rfl : y_24 = nI (i1 + 1) := hy_24.trans (nI_add i1 1)
                      refine lv_iload hx hb dX1_followWays_104 (lv_at hl 0 rfl) ?_
                      refine x_callSi (wr := [wO q0 1 [.ref q1, .ref er, .ref q2, .ref q3, .ref q4, .ref h0, .int (nI ql), .int qo], wI (cy 1) q1 5 (fa3_4), wI (cy 1) q3 10 (fwa), wI (cy 1) q4 66 (fwy), wO h0 4 [.ref h1, .ref h2, .ref h3, .ref h4, .ref h5, .ref h6, .ref h7, .ref h8, .ref h9, .ref h10, .ref h11, hv0, hv1, hv2, hv3, hv4], wI (cy 1) h1 4 (fc), wO e0 2 [.ref e1, .ref e2, .int et, .int (nI el), .int (nI ef)], wI (cy 1) e1 10 (fg)]) (rest := [.ref q4]) ⟨hx, hb, hml, hown, hg, hl.1⟩ k_X1_111 (s_wayIndex l D cy ((i1 + 1)) ((jj4 + 1)) (by omega) (by omega)) E0_blind hK hP hD hS hA [] [0, 1, 2, 3, 4, 5, 6, 7] ⟨rfl, rfl, by decide +kernel, by decide +kernel, by decide +kernel⟩ (fun _ _ _ => trivial) dX1_followWays_106 rfl rfl (Nat.le_of_ble_eq_true rfl) ⟨Nat.le_of_ble_eq_true rfl, Nat.le_of_ble_eq_true rfl⟩ ⟨Nat.le_of_ble_eq_true rfl, Nat.le_of_ble_eq_true rfl⟩ (fun zr25 zu25 H locs hw25 hP9 hD9 hS9 => ?_)
                      clear hP hD hS
                      obtain ⟨k_26, rfl⟩ : ∃ z, z = zu25 := ⟨_, rfl⟩
                      refine reW [wO q0 1 [.ref q1, .ref er, .ref q2, .ref q3, .ref q4, .ref h0, .int (nI ql), .int qo], wI (cy 1) q1 5 (fa3_4), wI (cy 1) q3 10 (fwa), wI (cy 1) q4 66 (fwy), wO h0 4 [.ref h1, .ref h2, .ref h3, .ref h4, .ref h5, .ref h6, .ref h7, .ref h8, .ref h9, .ref h10, .ref h11, hv0, hv1, hv2, hv3, hv4], wI (cy 1) h1 4 (fc), wO e0 2 [.ref e1, .ref e2, .int et, .int (nI el), .int (nI ef)], wI (cy 1) e1 10 (fg)] hP9 hD9 hS9 (fun hP hD hS => ?_)
                      clear hP9 hD9 hS9
                      refine W.widen (k := 0) (n := 0) (Nat.le_of_ble_eq_true rfl) (Nat.le_of_ble_eq_true rfl) ?_
                      replace hw25 : (zr25 = nI k_26) ∧ (k_26 = ((i1 + 1)) * 11 + ((jj4 + 1))) := hw25
                      obtain ⟨f_27, f_28⟩ := hw25
                      subst f_27
                      refine va_iald hx hb hK hP 3 1 rfl rfl (vp_in_nI (by omega) (by decide)) dX1_followWays_109 ?_
                      refine lv_topi (fun x_29 ex_29 => ?_)
                      refine lv_if_le (tgt := 128) hx hb dX1_followWays_110 (by decide) (fun c_110 => ?_) (fun c_110 => ?_)
                      · refine lv_iinc (v := nI (wd4 + 1)) (lv' := [(6, .int (nI (wd4 + 1))), (9, .int (nI (jj4 + 1))), (8, .int 1), (7, .int zr8), (5, .int fd4), (4, .int (nI i1)), (3, .int (nI jj4)), (0, .ref q0), (1, .ref e0), (2, .int (nI sz))]) hx hb dX1_followWays_128 hl (k := 3) rfl (nI_add wd4 1) (by decide) rfl (fun ls hl => ?_)
                        refine lv_goto (tgt := 20) hx hb dX1_followWays_131 (by decide) ?_
                        exact ih4  jj4 fd4 ((wd4 + 1)) fa3_4 (by omega) (by omega) (fun h8 h9 => fw_n3 (by omega) h8 (by omega) (by omega) (hf2_4 h8 h9) c_36 (bR_t f_10 c_51) ((ex_21.trans (congrArg fwa (nI_clamp (by omega)))).symm.trans c_67) ((fw_z (by omega) (by omega) (fw_w hwdp f_28 (by omega) (by omega) (by omega) ex_29)).1 c_110)) (by omega) _ _ (hP.sub [0, 1, 2, 3, 4, 5, 6, 7] rfl) (hD.sub [0, 1, 2, 3, 4, 5, 6, 7] (by decide +kernel) rfl) hS ls (lv_sub hl [0, 4, 5, 6, 7, 8, 9] rfl)
                      · refine lv_aload_n hx hb dX1_followWays_113 rfl (lv_at hl 7 rfl) ?_
                        refine va_get (D := D) (ci := 1) (v := .ref q1) (C := RX1) (T := TX1) (N := 8) hx hb hg i_X1 hown hK hP 0 rfl rfl 0 (by decide) (hg _ m_552) (fun _ h9 => h9) rfl dX1_followWays_114 ?_
                        refine lv_iload hx hb dX1_followWays_117 (lv_at hl 5 rfl) ?_
                        refine lv_iload hx hb dX1_followWays_119 (lv_at hl 3 rfl) ?_
                        refine va_iast hx hb hK hP hD hS 1 1 rfl rfl (vp_in_nI (by omega) (by decide)) dX1_followWays_121 (fun H locs hP9 hD9 hS9 => ?_)
                        clear hP hD hS
                        obtain ⟨g_30, eg_30⟩ : ∃ y, upd fa3_4 (nI i1 : Int32).toNatClampNeg (nI wd4) = y := ⟨_, rfl⟩
                        rw [eg_30] at hP9 hD9
                        refine reW [wO q0 1 [.ref q1, .ref er, .ref q2, .ref q3, .ref q4, .ref h0, .int (nI ql), .int qo], wI (cy 1) q1 5 (g_30), wI (cy 1) q3 10 (fwa), wI (cy 1) q4 66 (fwy), wO h0 4 [.ref h1, .ref h2, .ref h3, .ref h4, .ref h5, .ref h6, .ref h7, .ref h8, .ref h9, .ref h10, .ref h11, hv0, hv1, hv2, hv3, hv4], wI (cy 1) h1 4 (fc), wO e0 2 [.ref e1, .ref e2, .int et, .int (nI el), .int (nI ef)], wI (cy 1) e1 10 (fg)] hP9 hD9 hS9 (fun hP hD hS => ?_)
                        clear hP9 hD9 hS9
                        refine lv_iload hx hb dX1_followWays_122 (lv_at hl 0 rfl) ?_
                        refine lv_istore_n (lv' := [(3, .int (nI (jj4 + 1))), (9, .int (nI (jj4 + 1))), (8, .int 1), (7, .int zr8), (6, .int (nI wd4)), (5, .int fd4), (4, .int (nI i1)), (0, .ref q0), (1, .ref e0), (2, .int (nI sz))]) hx hb dX1_followWays_124 rfl hl (by decide) rfl (fun ls hl => ?_)
                        refine lv_iconst (v := 1) hx hb dX1_followWays_125 (by decide) ?_
                        refine lv_istore (lv' := [(5, .int 1), (3, .int (nI (jj4 + 1))), (9, .int (nI (jj4 + 1))), (8, .int 1), (7, .int zr8), (6, .int (nI wd4)), (4, .int (nI i1)), (0, .ref q0), (1, .ref e0), (2, .int (nI sz))]) hx hb dX1_followWays_126 hl (by decide) rfl (fun ls hl => ?_)
                        refine lv_iinc (v := nI (wd4 + 1)) (lv' := [(6, .int (nI (wd4 + 1))), (5, .int 1), (3, .int (nI (jj4 + 1))), (9, .int (nI (jj4 + 1))), (8, .int 1), (7, .int zr8), (4, .int (nI i1)), (0, .ref q0), (1, .ref e0), (2, .int (nI sz))]) hx hb dX1_followWays_128 hl (k := 5) rfl (nI_add wd4 1) (by decide) rfl (fun ls hl => ?_)
                        refine lv_goto (tgt := 20) hx hb dX1_followWays_131 (by decide) ?_
                        exact ih4  ((jj4 + 1)) 1 ((wd4 + 1)) g_30 (by omega) (by omega) (fun h8 h9 => fw_y3 (by omega) h8 (by omega) (by omega) (by omega) (by omega) (hf2_4 h8 h9) c_36 (bR_t f_10 c_51) ((ex_21.trans (congrArg fwa (nI_clamp (by omega)))).symm.trans c_67) ((fw_z (by omega) (by omega) (fw_w hwdp f_28 (by omega) (by omega) (by omega) ex_29)).2 c_110) eg_30) (by omega) _ _ (hP.sub [0, 1, 2, 3, 4, 5, 6, 7] rfl) (hD.sub [0, 1, 2, 3, 4, 5, 6, 7] (by decide +kernel) rfl) hS ls (lv_sub hl [0, 1, 6, 2, 7, 8, 9] rfl)
        exact loop4 _ jj1 0 0 fa2_1 (by omega) (by omega) (fun h8 h9 => fw_i (hf2_1 h8 h9)) (Nat.le_refl _) _ _ (hP.sub [0, 1, 2, 3, 4, 5, 6, 7] rfl) (hD.sub [0, 1, 2, 3, 4, 5, 6, 7] (by decide +kernel) rfl) hS ls (lv_sub hl [0, 1, 2, 3, 4, 5, 6] rfl)
  exact loop1 _ 0 0 fy (by omega) (by omega) (fun h8 h9 => fw_0 h9) (Nat.le_refl _) _ _ (hP.sub [0, 1, 2, 3, 4, 5, 6, 7] rfl) (hD.sub [0, 1, 2, 3, 4, 5, 6, 7] (by decide +kernel) rfl) hS ls (lv_sub hl [0, 1, 2, 3, 4] rfl)
theorem gdX1_aheadOf_0 : decode cX1_aheadOf 0 = .ok (.aload_n 0, 1) ∧ decode cX1_aheadOf 1 = .ok (.aload_n 1, 1) ∧ decode cX1_aheadOf 2 = .ok (.putfield 31, 3) ∧ decode cX1_aheadOf 5 = .ok (.aload_n 0, 1) ∧ decode cX1_aheadOf 6 = .ok (.iload 4, 2) ∧ decode cX1_aheadOf 8 = .ok (.putfield 35, 3) ∧ decode cX1_aheadOf 11 = .ok (.aload_n 0, 1) ∧ decode cX1_aheadOf 12 = .ok (.getfield 30, 3) ∧ decode cX1_aheadOf 15 = .ok (.iload_n 3, 1) ∧ decode cX1_aheadOf 16 = .ok (.aaload, 1) ∧ decode cX1_aheadOf 17 = .ok (.astore 6, 2) ∧ decode cX1_aheadOf 19 = .ok (.aload 6, 2) := by decide +kernel
theorem dX1_aheadOf_0 : decode cX1_aheadOf 0 = .ok (.aload_n 0, 1) := gdX1_aheadOf_0.1
theorem dX1_aheadOf_1 : decode cX1_aheadOf 1 = .ok (.aload_n 1, 1) := gdX1_aheadOf_0.2.1
theorem dX1_aheadOf_2 : decode cX1_aheadOf 2 = .ok (.putfield 31, 3) := gdX1_aheadOf_0.2.2.1
theorem dX1_aheadOf_5 : decode cX1_aheadOf 5 = .ok (.aload_n 0, 1) := gdX1_aheadOf_0.2.2.2.1
theorem dX1_aheadOf_6 : decode cX1_aheadOf 6 = .ok (.iload 4, 2) := gdX1_aheadOf_0.2.2.2.2.1
theorem dX1_aheadOf_8 : decode cX1_aheadOf 8 = .ok (.putfield 35, 3) := gdX1_aheadOf_0.2.2.2.2.2.1
theorem dX1_aheadOf_11 : decode cX1_aheadOf 11 = .ok (.aload_n 0, 1) := gdX1_aheadOf_0.2.2.2.2.2.2.1
theorem dX1_aheadOf_12 : decode cX1_aheadOf 12 = .ok (.getfield 30, 3) := gdX1_aheadOf_0.2.2.2.2.2.2.2.1
theorem dX1_aheadOf_15 : decode cX1_aheadOf 15 = .ok (.iload_n 3, 1) := gdX1_aheadOf_0.2.2.2.2.2.2.2.2.1
theorem dX1_aheadOf_16 : decode cX1_aheadOf 16 = .ok (.aaload, 1) := gdX1_aheadOf_0.2.2.2.2.2.2.2.2.2.1
theorem dX1_aheadOf_17 : decode cX1_aheadOf 17 = .ok (.astore 6, 2) := gdX1_aheadOf_0.2.2.2.2.2.2.2.2.2.2.1
theorem dX1_aheadOf_19 : decode cX1_aheadOf 19 = .ok (.aload 6, 2) := gdX1_aheadOf_0.2.2.2.2.2.2.2.2.2.2.2
theorem gdX1_aheadOf_21 : decode cX1_aheadOf 21 = .ok (.aload_n 1, 1) ∧ decode cX1_aheadOf 22 = .ok (.aload_n 2, 1) ∧ decode cX1_aheadOf 23 = .ok (.iload_n 3, 1) ∧ decode cX1_aheadOf 24 = .ok (.iload 4, 2) ∧ decode cX1_aheadOf 26 = .ok (.invokevirtual 48, 3) ∧ decode cX1_aheadOf 29 = .ok (.aload 5, 2) ∧ decode cX1_aheadOf 31 = .ok (.getfield 98, 3) ∧ decode cX1_aheadOf 34 = .ok (.istore 7, 2) ∧ decode cX1_aheadOf 36 = .ok (.iconst 0, 1) ∧ decode cX1_aheadOf 37 = .ok (.istore 8, 2) ∧ decode cX1_aheadOf 39 = .ok (.iload 8, 2) ∧ decode cX1_aheadOf 41 = .ok (.iload 7, 2) := by decide +kernel
theorem dX1_aheadOf_21 : decode cX1_aheadOf 21 = .ok (.aload_n 1, 1) := gdX1_aheadOf_21.1
theorem dX1_aheadOf_22 : decode cX1_aheadOf 22 = .ok (.aload_n 2, 1) := gdX1_aheadOf_21.2.1
theorem dX1_aheadOf_23 : decode cX1_aheadOf 23 = .ok (.iload_n 3, 1) := gdX1_aheadOf_21.2.2.1
theorem dX1_aheadOf_24 : decode cX1_aheadOf 24 = .ok (.iload 4, 2) := gdX1_aheadOf_21.2.2.2.1
theorem dX1_aheadOf_26 : decode cX1_aheadOf 26 = .ok (.invokevirtual 48, 3) := gdX1_aheadOf_21.2.2.2.2.1
theorem dX1_aheadOf_29 : decode cX1_aheadOf 29 = .ok (.aload 5, 2) := gdX1_aheadOf_21.2.2.2.2.2.1
theorem dX1_aheadOf_31 : decode cX1_aheadOf 31 = .ok (.getfield 98, 3) := gdX1_aheadOf_21.2.2.2.2.2.2.1
theorem dX1_aheadOf_34 : decode cX1_aheadOf 34 = .ok (.istore 7, 2) := gdX1_aheadOf_21.2.2.2.2.2.2.2.1
theorem dX1_aheadOf_36 : decode cX1_aheadOf 36 = .ok (.iconst 0, 1) := gdX1_aheadOf_21.2.2.2.2.2.2.2.2.1
theorem dX1_aheadOf_37 : decode cX1_aheadOf 37 = .ok (.istore 8, 2) := gdX1_aheadOf_21.2.2.2.2.2.2.2.2.2.1
theorem dX1_aheadOf_39 : decode cX1_aheadOf 39 = .ok (.iload 8, 2) := gdX1_aheadOf_21.2.2.2.2.2.2.2.2.2.2.1
theorem dX1_aheadOf_41 : decode cX1_aheadOf 41 = .ok (.iload 7, 2) := gdX1_aheadOf_21.2.2.2.2.2.2.2.2.2.2.2
theorem gdX1_aheadOf_43 : decode cX1_aheadOf 43 = .ok (.if_icmp .ge 42, 3) ∧ decode cX1_aheadOf 85 = .ok (.aload_n 0, 1) ∧ decode cX1_aheadOf 86 = .ok (.aload 6, 2) ∧ decode cX1_aheadOf 88 = .ok (.iload 7, 2) ∧ decode cX1_aheadOf 90 = .ok (.invokevirtual 104, 3) := by decide +kernel
theorem dX1_aheadOf_43 : decode cX1_aheadOf 43 = .ok (.if_icmp .ge 42, 3) := gdX1_aheadOf_43.1
theorem dX1_aheadOf_85 : decode cX1_aheadOf 85 = .ok (.aload_n 0, 1) := gdX1_aheadOf_43.2.1
theorem dX1_aheadOf_86 : decode cX1_aheadOf 86 = .ok (.aload 6, 2) := gdX1_aheadOf_43.2.2.1
theorem dX1_aheadOf_88 : decode cX1_aheadOf 88 = .ok (.iload 7, 2) := gdX1_aheadOf_43.2.2.2.1
theorem dX1_aheadOf_90 : decode cX1_aheadOf 90 = .ok (.invokevirtual 104, 3) := gdX1_aheadOf_43.2.2.2.2
theorem k_X1_104 : xV RX1 RX1 104 yX1_countWays cX1_countWays 8 none 2 := ⟨⟨m_1198, m_1200, m_44, m_143, m_1201⟩, rfl, by decide, by decide, by decide +kernel⟩
theorem gdX1_aheadOf_93 : decode cX1_aheadOf 93 = .ok (.aload_n 0, 1) ∧ decode cX1_aheadOf 94 = .ok (.getfield 21, 3) ∧ decode cX1_aheadOf 97 = .ok (.iconst 0, 1) ∧ decode cX1_aheadOf 98 = .ok (.iaload, 1) ∧ decode cX1_aheadOf 99 = .ok (.ifCond .le 11, 3) ∧ decode cX1_aheadOf 110 = .ok (.aload_n 0, 1) ∧ decode cX1_aheadOf 111 = .ok (.getfield 21, 3) ∧ decode cX1_aheadOf 114 = .ok (.iconst 0, 1) ∧ decode cX1_aheadOf 115 = .ok (.iaload, 1) ∧ decode cX1_aheadOf 116 = .ok (.ireturn, 1) ∧ decode cX1_aheadOf 102 = .ok (.aload_n 0, 1) ∧ decode cX1_aheadOf 103 = .ok (.aload 6, 2) := by decide +kernel
theorem dX1_aheadOf_93 : decode cX1_aheadOf 93 = .ok (.aload_n 0, 1) := gdX1_aheadOf_93.1
theorem dX1_aheadOf_94 : decode cX1_aheadOf 94 = .ok (.getfield 21, 3) := gdX1_aheadOf_93.2.1
theorem dX1_aheadOf_97 : decode cX1_aheadOf 97 = .ok (.iconst 0, 1) := gdX1_aheadOf_93.2.2.1
theorem dX1_aheadOf_98 : decode cX1_aheadOf 98 = .ok (.iaload, 1) := gdX1_aheadOf_93.2.2.2.1
theorem dX1_aheadOf_99 : decode cX1_aheadOf 99 = .ok (.ifCond .le 11, 3) := gdX1_aheadOf_93.2.2.2.2.1
theorem dX1_aheadOf_110 : decode cX1_aheadOf 110 = .ok (.aload_n 0, 1) := gdX1_aheadOf_93.2.2.2.2.2.1
theorem dX1_aheadOf_111 : decode cX1_aheadOf 111 = .ok (.getfield 21, 3) := gdX1_aheadOf_93.2.2.2.2.2.2.1
theorem dX1_aheadOf_114 : decode cX1_aheadOf 114 = .ok (.iconst 0, 1) := gdX1_aheadOf_93.2.2.2.2.2.2.2.1
theorem dX1_aheadOf_115 : decode cX1_aheadOf 115 = .ok (.iaload, 1) := gdX1_aheadOf_93.2.2.2.2.2.2.2.2.1
theorem dX1_aheadOf_116 : decode cX1_aheadOf 116 = .ok (.ireturn, 1) := gdX1_aheadOf_93.2.2.2.2.2.2.2.2.2.1
theorem dX1_aheadOf_102 : decode cX1_aheadOf 102 = .ok (.aload_n 0, 1) := gdX1_aheadOf_93.2.2.2.2.2.2.2.2.2.2.1
theorem dX1_aheadOf_103 : decode cX1_aheadOf 103 = .ok (.aload 6, 2) := gdX1_aheadOf_93.2.2.2.2.2.2.2.2.2.2.2
theorem dX1_aheadOf_105 : decode cX1_aheadOf 105 = .ok (.iload 7, 2) := by decide +kernel
theorem dX1_aheadOf_107 : decode cX1_aheadOf 107 = .ok (.invokevirtual 108, 3) := by decide +kernel
theorem k_X1_108 : xV RX1 RX1 108 yX1_followWays cX1_followWays 10 none 2 := ⟨⟨m_1211, m_1213, m_45, m_143, m_1214⟩, rfl, by decide, by decide, by decide +kernel⟩
theorem gdX1_aheadOf_46 : decode cX1_aheadOf 46 = .ok (.aload_n 0, 1) ∧ decode cX1_aheadOf 47 = .ok (.getfield 18, 3) ∧ decode cX1_aheadOf 50 = .ok (.iload 8, 2) ∧ decode cX1_aheadOf 52 = .ok (.aload 5, 2) ∧ decode cX1_aheadOf 54 = .ok (.getfield 101, 3) ∧ decode cX1_aheadOf 57 = .ok (.aload 6, 2) ∧ decode cX1_aheadOf 59 = .ok (.getfield 74, 3) ∧ decode cX1_aheadOf 62 = .ok (.ifCond .eq 13, 3) ∧ decode cX1_aheadOf 75 = .ok (.iload 8, 2) ∧ decode cX1_aheadOf 77 = .ok (.iaload, 1) ∧ decode cX1_aheadOf 78 = .ok (.iastore, 1) ∧ decode cX1_aheadOf 79 = .ok (.iinc 8 1, 3) := by decide +kernel
theorem dX1_aheadOf_46 : decode cX1_aheadOf 46 = .ok (.aload_n 0, 1) := gdX1_aheadOf_46.1
theorem dX1_aheadOf_47 : decode cX1_aheadOf 47 = .ok (.getfield 18, 3) := gdX1_aheadOf_46.2.1
theorem dX1_aheadOf_50 : decode cX1_aheadOf 50 = .ok (.iload 8, 2) := gdX1_aheadOf_46.2.2.1
theorem dX1_aheadOf_52 : decode cX1_aheadOf 52 = .ok (.aload 5, 2) := gdX1_aheadOf_46.2.2.2.1
theorem dX1_aheadOf_54 : decode cX1_aheadOf 54 = .ok (.getfield 101, 3) := gdX1_aheadOf_46.2.2.2.2.1
theorem dX1_aheadOf_57 : decode cX1_aheadOf 57 = .ok (.aload 6, 2) := gdX1_aheadOf_46.2.2.2.2.2.1
theorem dX1_aheadOf_59 : decode cX1_aheadOf 59 = .ok (.getfield 74, 3) := gdX1_aheadOf_46.2.2.2.2.2.2.1
theorem dX1_aheadOf_62 : decode cX1_aheadOf 62 = .ok (.ifCond .eq 13, 3) := gdX1_aheadOf_46.2.2.2.2.2.2.2.1
theorem dX1_aheadOf_75 : decode cX1_aheadOf 75 = .ok (.iload 8, 2) := gdX1_aheadOf_46.2.2.2.2.2.2.2.2.1
theorem dX1_aheadOf_77 : decode cX1_aheadOf 77 = .ok (.iaload, 1) := gdX1_aheadOf_46.2.2.2.2.2.2.2.2.2.1
theorem dX1_aheadOf_78 : decode cX1_aheadOf 78 = .ok (.iastore, 1) := gdX1_aheadOf_46.2.2.2.2.2.2.2.2.2.2.1
theorem dX1_aheadOf_79 : decode cX1_aheadOf 79 = .ok (.iinc 8 1, 3) := gdX1_aheadOf_46.2.2.2.2.2.2.2.2.2.2.2
theorem gdX1_aheadOf_82 : decode cX1_aheadOf 82 = .ok (.goto (-43), 3) ∧ decode cX1_aheadOf 65 = .ok (.iload 7, 2) ∧ decode cX1_aheadOf 67 = .ok (.iconst 1, 1) ∧ decode cX1_aheadOf 68 = .ok (.isub, 1) ∧ decode cX1_aheadOf 69 = .ok (.iload 8, 2) ∧ decode cX1_aheadOf 71 = .ok (.isub, 1) ∧ decode cX1_aheadOf 72 = .ok (.goto 5, 3) := by decide +kernel
theorem dX1_aheadOf_82 : decode cX1_aheadOf 82 = .ok (.goto (-43), 3) := gdX1_aheadOf_82.1
theorem dX1_aheadOf_65 : decode cX1_aheadOf 65 = .ok (.iload 7, 2) := gdX1_aheadOf_82.2.1
theorem dX1_aheadOf_67 : decode cX1_aheadOf 67 = .ok (.iconst 1, 1) := gdX1_aheadOf_82.2.2.1
theorem dX1_aheadOf_68 : decode cX1_aheadOf 68 = .ok (.isub, 1) := gdX1_aheadOf_82.2.2.2.1
theorem dX1_aheadOf_69 : decode cX1_aheadOf 69 = .ok (.iload 8, 2) := gdX1_aheadOf_82.2.2.2.2.1
theorem dX1_aheadOf_71 : decode cX1_aheadOf 71 = .ok (.isub, 1) := gdX1_aheadOf_82.2.2.2.2.2.1
theorem dX1_aheadOf_72 : decode cX1_aheadOf 72 = .ok (.goto 5, 3) := gdX1_aheadOf_82.2.2.2.2.2.2
set_option maxHeartbeats 1000000 in
set_option maxRecDepth 100000 in
theorem s_aheadOf (l : Launch) (D : va_G) (cy : Nat → ClassId) (q0 : Nat) (q1 : Nat) (q2 : Nat) (q3 : Nat) (q4 : Nat) (er : Nat) (ql : Nat) (qo : Int32) (qh : Value) (fy : Nat → Int32) (fwa : Nat → Int32) (fwy : Nat → Int32) (h0 : Nat) (h1 : Nat) (h2 : Nat) (h3 : Nat) (h4 : Nat) (h5 : Nat) (h6 : Nat) (h7 : Nat) (h8 : Nat) (h9 : Nat) (h10 : Nat) (h11 : Nat) (hv0 : Value) (hv1 : Value) (hv2 : Value) (hv3 : Value) (hv4 : Value) (fp : Nat → Int32) (flo : Nat → Int32) (h9a : Nat) (h9b : Nat) (nb : Nat) (tb : Int32) (fcb : Nat → Int32) (fsb : Nat → Int32) (h11a : Nat) (h11b : Nat) (nt : Nat) (tt : Int32) (fct : Nat → Int32) (fst : Nat → Int32) (h10a : Nat) (h10b : Nat) (nl : Nat) (tl : Int32) (fcl : Nat → Int32) (fsl : Nat → Int32) (fc : Nat → Int32) (c0 : Nat) (c1 : Nat) (c2 : Nat) (c3 : Nat) (ea : Nat → Nat) (eg : Nat → Nat) (ef : Nat → Nat) (et : Nat → Int32) (el : Nat → Nat) (ei : Nat → Nat) (gc : Nat → Nat → Int32) (xc : Nat → Nat → Int32) (s0 : Nat) (s1 : Nat) (s2 : Nat) (sl : Nat) (spl : Int32) (svo : Int32) (swi : Int32) (sch : Int32) (fsn : Nat → Int32) (z0 : Nat) (z1 : Nat) (z2 : Nat) (zl : Nat) (zpl : Int32) (zvo : Int32) (zwi : Int32) (zch : Int32) (fzw : Nat → Int32) (j : Nat) (mm : Nat) (hnb : nb ≤ 280) (hcb : cOK fcb nb) (hwb : fmW tb fcb nb) (hnt : nt ≤ 280) (hct : cOK fct nt) (hwt : fmW tt fct nt) (hnl : nl ≤ 280) (hcl : cOK fcl nl) (hwl : fmW tl fcl nl) (hcn : cntOK fc c0 c1 c2 c3) (hc0 : c0 ≤ 8) (hc1 : c1 ≤ 4) (hc2 : c2 ≤ 4) (hc3 : c3 ≤ 6) (hel : ∀ i9, i9 < 4 → el i9 ≤ 10) (hmm : mm ≤ 5) (hmm1 : 1 ≤ mm) (hj : j < 4) (hzl : zl ≤ 10) : XMi l D (tyL cy) E0 yX1_aheadOf cX1_aheadOf 9 (some .int) (rmk 6 0 0) [.ref q0, .ref h0, .ref s0, .int (nI j), .int (nI mm), .ref z0] [wO q0 1 [.ref q1, .ref er, .ref q2, .ref q3, .ref q4, qh, .int (nI ql), .int qo], wI (cy 1) q1 5 (fy), wI (cy 1) q3 10 (fwa), wI (cy 1) q4 66 (fwy), wO h0 4 [.ref h1, .ref h2, .ref h3, .ref h4, .ref h5, .ref h6, .ref h7, .ref h8, .ref h9, .ref h10, .ref h11, hv0, hv1, hv2, hv3, hv4], wI (cy 1) h3 4 (fp), wI (cy 1) h2 8 (flo), wO h9 3 [.ref h9a, .ref h9b, .int (nI nb), .int tb], wI (cy 1) h9a 280 (fcb), wI (cy 1) h9b 31 (fsb), wO h11 3 [.ref h11a, .ref h11b, .int (nI nt), .int tt], wI (cy 1) h11a 280 (fct), wI (cy 1) h11b 31 (fst), wO h10 3 [.ref h10a, .ref h10b, .int (nI nl), .int tl], wI (cy 1) h10a 280 (fcl), wI (cy 1) h10b 31 (fsl), wI (cy 1) h1 4 (fc), (er, .inl (cy 4, 4, .inr (.inr (.inr (.inr (eF (ea 0) (ea 1) (ea 2) (ea 3))))))), wO (ea 0) 2 [.ref (eg 0), .ref (ef 0), .int (et 0), .int (nI (el 0)), .int (nI (ei 0))], wI (cy 1) (eg 0) 10 (gc 0), wI (cy 1) (ef 0) 7 (xc 0), wO (ea 1) 2 [.ref (eg 1), .ref (ef 1), .int (et 1), .int (nI (el 1)), .int (nI (ei 1))], wI (cy 1) (eg 1) 10 (gc 1), wI (cy 1) (ef 1) 7 (xc 1), wO (ea 2) 2 [.ref (eg 2), .ref (ef 2), .int (et 2), .int (nI (el 2)), .int (nI (ei 2))], wI (cy 1) (eg 2) 10 (gc 2), wI (cy 1) (ef 2) 7 (xc 2), wO (ea 3) 2 [.ref (eg 3), .ref (ef 3), .int (et 3), .int (nI (el 3)), .int (nI (ei 3))], wI (cy 1) (eg 3) 10 (gc 3), wI (cy 1) (ef 3) 7 (xc 3), wO s0 7 [.ref s1, .ref s2, .int (nI sl), .int spl, .int svo, .int swi, .int sch], wI (cy 1) s2 4 (fsn), wO z0 7 [.ref z1, .ref z2, .int (nI zl), .int zpl, .int zvo, .int zwi, .int zch], wI (cy 1) z1 10 (fzw)] (fun (r : Int32) (u : (Nat → Int32) × (Nat → Int32) × (Nat → Int32) × (Nat → Int32) × (Nat → Nat) × (Nat → Nat) × (Nat → Nat → Int32) × (Nat → Nat → Int32) × (Nat → Int32) × (Nat → Int32) × (Nat → Int32)) => (∀ i9, i9 < 4 → u.2.2.2.2.1 i9 ≤ 10) ∧ (okW c0 fzw zl → r = nI (ctF (fun v9 => decide (ecS (vlC tb fcb nb 3) (vlC tl fcl nl 0) (vlC tt fct nt 0) flo (farC spl (fp j)) swi (fsn j) svo sch (dgW c0 mm v9) mm = lsL9 fzw zl)) (c0 ^ mm))) ∧ (okW c0 fzw zl → ¬ r ≤ 0 → ∃ g9, foF (fun v9 => if decide (ecS (vlC tb fcb nb 3) (vlC tl fcl nl 0) (vlC tt fct nt 0) flo (farC spl (fp j)) swi (fsn j) svo sch (dgW c0 mm v9) mm = lsL9 fzw zl) = true then some (dgW c0 mm v9) else none) (c0 ^ mm) = some g9 ∧ ∀ i9, i9 < mm → u.1 i9 = g9 i9)) (fun (u : (Nat → Int32) × (Nat → Int32) × (Nat → Int32) × (Nat → Int32) × (Nat → Nat) × (Nat → Nat) × (Nat → Nat → Int32) × (Nat → Nat → Int32) × (Nat → Int32) × (Nat → Int32) × (Nat → Int32)) => [wO q0 1 [.ref q1, .ref er, .ref q2, .ref q3, .ref q4, .ref h0, .int (nI mm), .int qo], wI (cy 1) q1 5 (u.1), wI (cy 1) q3 10 (u.2.1), wI (cy 1) q4 66 (u.2.2.1), wO h0 4 [.ref h1, .ref h2, .ref h3, .ref h4, .ref h5, .ref h6, .ref h7, .ref h8, .ref h9, .ref h10, .ref h11, hv0, hv1, hv2, hv3, hv4], wI (cy 1) h3 4 (fp), wI (cy 1) h2 8 (flo), wO h9 3 [.ref h9a, .ref h9b, .int (nI nb), .int tb], wI (cy 1) h9a 280 (fcb), wI (cy 1) h9b 31 (u.2.2.2.2.2.2.2.2.1), wO h11 3 [.ref h11a, .ref h11b, .int (nI nt), .int tt], wI (cy 1) h11a 280 (fct), wI (cy 1) h11b 31 (u.2.2.2.2.2.2.2.2.2.1), wO h10 3 [.ref h10a, .ref h10b, .int (nI nl), .int tl], wI (cy 1) h10a 280 (fcl), wI (cy 1) h10b 31 (u.2.2.2.2.2.2.2.2.2.2), wI (cy 1) h1 4 (fc), (er, .inl (cy 4, 4, .inr (.inr (.inr (.inr (eF (ea 0) (ea 1) (ea 2) (ea 3))))))), wO (ea 0) 2 [.ref (eg 0), .ref (ef 0), .int (u.2.2.2.1 0), .int (nI (u.2.2.2.2.1 0)), .int (nI (u.2.2.2.2.2.1 0))], wI (cy 1) (eg 0) 10 (u.2.2.2.2.2.2.1 0), wI (cy 1) (ef 0) 7 (u.2.2.2.2.2.2.2.1 0), wO (ea 1) 2 [.ref (eg 1), .ref (ef 1), .int (u.2.2.2.1 1), .int (nI (u.2.2.2.2.1 1)), .int (nI (u.2.2.2.2.2.1 1))], wI (cy 1) (eg 1) 10 (u.2.2.2.2.2.2.1 1), wI (cy 1) (ef 1) 7 (u.2.2.2.2.2.2.2.1 1), wO (ea 2) 2 [.ref (eg 2), .ref (ef 2), .int (u.2.2.2.1 2), .int (nI (u.2.2.2.2.1 2)), .int (nI (u.2.2.2.2.2.1 2))], wI (cy 1) (eg 2) 10 (u.2.2.2.2.2.2.1 2), wI (cy 1) (ef 2) 7 (u.2.2.2.2.2.2.2.1 2), wO (ea 3) 2 [.ref (eg 3), .ref (ef 3), .int (u.2.2.2.1 3), .int (nI (u.2.2.2.2.1 3)), .int (nI (u.2.2.2.2.2.1 3))], wI (cy 1) (eg 3) 10 (u.2.2.2.2.2.2.1 3), wI (cy 1) (ef 3) 7 (u.2.2.2.2.2.2.2.1 3), wO s0 7 [.ref s1, .ref s2, .int (nI sl), .int spl, .int svo, .int swi, .int sch], wI (cy 1) s2 4 (fsn), wO z0 7 [.ref z1, .ref z2, .int (nI zl), .int zpl, .int zvo, .int zwi, .int zch], wI (cy 1) z1 10 (fzw)]) := by
  refine XMi.start (by decide) (Nat.le_of_ble_eq_true rfl) ?_
  intro p e s m below meth c args A ls Q hat hQ
  obtain ⟨hx, hb, hr, hml, hown, hg, hlocks, hin, hK, hA, hP, hD, hS, hE, hl⟩ := hat
  have hown : s.vm.findClass RX1 = some m.cls := hown
  have hl : lv_has ls 9 [(0, .ref q0), (1, .ref h0), (2, .ref s0), (3, .int (nI j)), (4, .int (nI mm)), (5, .ref z0)] := hl
  have hk_1 := hel 0 (by decide)
  have hk_2 := hel 1 (by decide)
  have hk_3 := hel 2 (by decide)
  have hk_4 := hel 3 (by decide)
  refine lv_aload_n hx hb dX1_aheadOf_0 rfl (lv_at hl 0 rfl) ?_
  refine lv_aload_n hx hb dX1_aheadOf_1 rfl (lv_at hl 1 rfl) ?_
  refine va_put (D := D) (ci := 1) (v := .ref h0) (ty := .object "CliffJudges$Hills") (C := RX1) (T := TX1) (N := 8) hx hb hg i_X1 tyX1 tyX1_ok nmX1 hown hK hP hD hS 0 rfl rfl 5 (by decide) (hg _ m_558) (fun _ h9 => h9) rfl (by decide +kernel) rfl rfl (Nat.le_of_ble_eq_true rfl) dX1_aheadOf_2 (fun H locs hP9 hD9 hS9 => ?_)
  clear hP hD hS
  refine reW [wO q0 1 [.ref q1, .ref er, .ref q2, .ref q3, .ref q4, .ref h0, .int (nI ql), .int qo], wI (cy 1) q1 5 (fy), wI (cy 1) q3 10 (fwa), wI (cy 1) q4 66 (fwy), wO h0 4 [.ref h1, .ref h2, .ref h3, .ref h4, .ref h5, .ref h6, .ref h7, .ref h8, .ref h9, .ref h10, .ref h11, hv0, hv1, hv2, hv3, hv4], wI (cy 1) h3 4 (fp), wI (cy 1) h2 8 (flo), wO h9 3 [.ref h9a, .ref h9b, .int (nI nb), .int tb], wI (cy 1) h9a 280 (fcb), wI (cy 1) h9b 31 (fsb), wO h11 3 [.ref h11a, .ref h11b, .int (nI nt), .int tt], wI (cy 1) h11a 280 (fct), wI (cy 1) h11b 31 (fst), wO h10 3 [.ref h10a, .ref h10b, .int (nI nl), .int tl], wI (cy 1) h10a 280 (fcl), wI (cy 1) h10b 31 (fsl), wI (cy 1) h1 4 (fc), (er, .inl (cy 4, 4, .inr (.inr (.inr (.inr (eF (ea 0) (ea 1) (ea 2) (ea 3))))))), wO (ea 0) 2 [.ref (eg 0), .ref (ef 0), .int (et 0), .int (nI (el 0)), .int (nI (ei 0))], wI (cy 1) (eg 0) 10 (gc 0), wI (cy 1) (ef 0) 7 (xc 0), wO (ea 1) 2 [.ref (eg 1), .ref (ef 1), .int (et 1), .int (nI (el 1)), .int (nI (ei 1))], wI (cy 1) (eg 1) 10 (gc 1), wI (cy 1) (ef 1) 7 (xc 1), wO (ea 2) 2 [.ref (eg 2), .ref (ef 2), .int (et 2), .int (nI (el 2)), .int (nI (ei 2))], wI (cy 1) (eg 2) 10 (gc 2), wI (cy 1) (ef 2) 7 (xc 2), wO (ea 3) 2 [.ref (eg 3), .ref (ef 3), .int (et 3), .int (nI (el 3)), .int (nI (ei 3))], wI (cy 1) (eg 3) 10 (gc 3), wI (cy 1) (ef 3) 7 (xc 3), wO s0 7 [.ref s1, .ref s2, .int (nI sl), .int spl, .int svo, .int swi, .int sch], wI (cy 1) s2 4 (fsn), wO z0 7 [.ref z1, .ref z2, .int (nI zl), .int zpl, .int zvo, .int zwi, .int zch], wI (cy 1) z1 10 (fzw)] hP9 hD9 hS9 (fun hP hD hS => ?_)
  clear hP9 hD9 hS9
  refine lv_aload_n hx hb dX1_aheadOf_5 rfl (lv_at hl 0 rfl) ?_
  refine lv_iload hx hb dX1_aheadOf_6 (lv_at hl 4 rfl) ?_
  refine va_put (D := D) (ci := 1) (v := .int (nI mm)) (ty := .int) (C := RX1) (T := TX1) (N := 8) hx hb hg i_X1 tyX1 tyX1_ok nmX1 hown hK hP hD hS 0 rfl rfl 6 (by decide) (hg _ m_559) (fun _ h9 => h9) rfl (by decide +kernel) rfl rfl (Nat.le_of_ble_eq_true rfl) dX1_aheadOf_8 (fun H locs hP9 hD9 hS9 => ?_)
  clear hP hD hS
  refine reW [wO q0 1 [.ref q1, .ref er, .ref q2, .ref q3, .ref q4, .ref h0, .int (nI mm), .int qo], wI (cy 1) q1 5 (fy), wI (cy 1) q3 10 (fwa), wI (cy 1) q4 66 (fwy), wO h0 4 [.ref h1, .ref h2, .ref h3, .ref h4, .ref h5, .ref h6, .ref h7, .ref h8, .ref h9, .ref h10, .ref h11, hv0, hv1, hv2, hv3, hv4], wI (cy 1) h3 4 (fp), wI (cy 1) h2 8 (flo), wO h9 3 [.ref h9a, .ref h9b, .int (nI nb), .int tb], wI (cy 1) h9a 280 (fcb), wI (cy 1) h9b 31 (fsb), wO h11 3 [.ref h11a, .ref h11b, .int (nI nt), .int tt], wI (cy 1) h11a 280 (fct), wI (cy 1) h11b 31 (fst), wO h10 3 [.ref h10a, .ref h10b, .int (nI nl), .int tl], wI (cy 1) h10a 280 (fcl), wI (cy 1) h10b 31 (fsl), wI (cy 1) h1 4 (fc), (er, .inl (cy 4, 4, .inr (.inr (.inr (.inr (eF (ea 0) (ea 1) (ea 2) (ea 3))))))), wO (ea 0) 2 [.ref (eg 0), .ref (ef 0), .int (et 0), .int (nI (el 0)), .int (nI (ei 0))], wI (cy 1) (eg 0) 10 (gc 0), wI (cy 1) (ef 0) 7 (xc 0), wO (ea 1) 2 [.ref (eg 1), .ref (ef 1), .int (et 1), .int (nI (el 1)), .int (nI (ei 1))], wI (cy 1) (eg 1) 10 (gc 1), wI (cy 1) (ef 1) 7 (xc 1), wO (ea 2) 2 [.ref (eg 2), .ref (ef 2), .int (et 2), .int (nI (el 2)), .int (nI (ei 2))], wI (cy 1) (eg 2) 10 (gc 2), wI (cy 1) (ef 2) 7 (xc 2), wO (ea 3) 2 [.ref (eg 3), .ref (ef 3), .int (et 3), .int (nI (el 3)), .int (nI (ei 3))], wI (cy 1) (eg 3) 10 (gc 3), wI (cy 1) (ef 3) 7 (xc 3), wO s0 7 [.ref s1, .ref s2, .int (nI sl), .int spl, .int svo, .int swi, .int sch], wI (cy 1) s2 4 (fsn), wO z0 7 [.ref z1, .ref z2, .int (nI zl), .int zpl, .int zvo, .int zwi, .int zch], wI (cy 1) z1 10 (fzw)] hP9 hD9 hS9 (fun hP hD hS => ?_)
  clear hP9 hD9 hS9
  refine lv_aload_n hx hb dX1_aheadOf_11 rfl (lv_at hl 0 rfl) ?_
  refine va_get (D := D) (ci := 1) (v := .ref er) (C := RX1) (T := TX1) (N := 8) hx hb hg i_X1 hown hK hP 0 rfl rfl 1 (by decide) (hg _ m_554) (fun _ h9 => h9) rfl dX1_aheadOf_12 ?_
  refine lv_iload_n hx hb dX1_aheadOf_15 rfl (lv_at hl 3 rfl) ?_
  rcases (show j = 0 ∨ j = 1 ∨ j = 2 ∨ j = 3 by omega) with hsp | hsp | hsp | hsp
  · subst hsp
    refine va_aldq hx hb hK hP 17 4 rfl rfl (by unfold vp_in; decide) dX1_aheadOf_16 ?_
    refine W.eq (g2 := F0 m 17 ls [.ref (ea 0)]) rfl ?_
    refine lv_astore (lv' := [(6, .ref (ea 0)), (0, .ref q0), (1, .ref h0), (2, .ref s0), (3, .int 0), (4, .int (nI mm)), (5, .ref z0)]) hx hb dX1_aheadOf_17 hl (by decide) rfl (fun ls hl => ?_)
    refine lv_aload hx hb dX1_aheadOf_19 (lv_at hl 0 rfl) ?_
    refine lv_aload_n hx hb dX1_aheadOf_21 rfl (lv_at hl 2 rfl) ?_
    refine lv_aload_n hx hb dX1_aheadOf_22 rfl (lv_at hl 3 rfl) ?_
    refine lv_iload_n hx hb dX1_aheadOf_23 rfl (lv_at hl 4 rfl) ?_
    refine lv_iload hx hb dX1_aheadOf_24 (lv_at hl 5 rfl) ?_
    refine x_callVv (q := (RX2, TX2, 5)) (ci := 2) (q0 := 0) (wr := [wO q0 1 [.ref q1, .ref er, .ref q2, .ref q3, .ref q4, .ref h0, .int (nI mm), .int qo], wI (cy 1) q1 5 (fy), wI (cy 1) q3 10 (fwa), wI (cy 1) q4 66 (fwy), (er, .inl (cy 4, 4, .inr (.inr (.inr (.inr (eF (ea 0) (ea 1) (ea 2) (ea 3))))))), wO (ea 1) 2 [.ref (eg 1), .ref (ef 1), .int (et 1), .int (nI (el 1)), .int (nI (ei 1))], wI (cy 1) (eg 1) 10 (gc 1), wI (cy 1) (ef 1) 7 (xc 1), wO (ea 2) 2 [.ref (eg 2), .ref (ef 2), .int (et 2), .int (nI (el 2)), .int (nI (ei 2))], wI (cy 1) (eg 2) 10 (gc 2), wI (cy 1) (ef 2) 7 (xc 2), wO (ea 3) 2 [.ref (eg 3), .ref (ef 3), .int (et 3), .int (nI (el 3)), .int (nI (ei 3))], wI (cy 1) (eg 3) 10 (gc 3), wI (cy 1) (ef 3) 7 (xc 3), wO z0 7 [.ref z1, .ref z2, .int (nI zl), .int zpl, .int zvo, .int zwi, .int zch], wI (cy 1) z1 10 (fzw)]) (rest := []) ⟨hx, hb, hml, hown, hg, hl.1⟩ k_X1_48 (s_tuneToAll l D cy (ea 0) (eg 0) (ef 0) (et 0) (nI (el 0)) (nI (ei 0)) (gc 0) (xc 0) h0 h1 h2 h3 h4 h5 h6 h7 h8 h9 h10 h11 hv0 hv1 hv2 hv3 hv4 fp flo h9a h9b nb tb fcb fsb h11a h11b nt tt fct fst h10a h10b nl tl fcl fsl fc c0 c1 c2 c3 s0 s1 s2 sl spl svo swi sch fsn 0 mm (by omega) (hcb) (by omega) (by omega) (hct) (by omega) (by omega) (hcl) (by omega) (hcn) (by omega) (by omega) (by omega) (by omega) (by omega) (by omega)) E0_blind hK hP hD hS hA [18, 19, 20, 4, 5, 6, 7, 8, 9, 10, 11, 12, 13, 14, 15, 16, 30, 31] [0, 1, 2, 3, 17, 21, 22, 23, 24, 25, 26, 27, 28, 29, 32, 33] ⟨rfl, rfl, by decide +kernel, by decide +kernel, by decide +kernel⟩ rfl rfl (fun _ _ _ => trivial) dX1_aheadOf_26 rfl rfl (Nat.le_of_ble_eq_true rfl) ⟨Nat.le_of_ble_eq_true rfl, Nat.le_of_ble_eq_true rfl⟩ ⟨Nat.le_of_ble_eq_true rfl, Nat.le_of_ble_eq_true rfl⟩ (fun zu5 H locs hw5 hP9 hD9 hS9 => ?_)
    clear hP hD hS
    obtain ⟨k_6, tu_7, fg2_8, ff2_9, fsb2_10, fst2_11, fsl2_12⟩ := zu5
    refine reW [wO q0 1 [.ref q1, .ref er, .ref q2, .ref q3, .ref q4, .ref h0, .int (nI mm), .int qo], wI (cy 1) q1 5 (fy), wI (cy 1) q3 10 (fwa), wI (cy 1) q4 66 (fwy), (er, .inl (cy 4, 4, .inr (.inr (.inr (.inr (eF (ea 0) (ea 1) (ea 2) (ea 3))))))), wO (ea 1) 2 [.ref (eg 1), .ref (ef 1), .int (et 1), .int (nI (el 1)), .int (nI (ei 1))], wI (cy 1) (eg 1) 10 (gc 1), wI (cy 1) (ef 1) 7 (xc 1), wO (ea 2) 2 [.ref (eg 2), .ref (ef 2), .int (et 2), .int (nI (el 2)), .int (nI (ei 2))], wI (cy 1) (eg 2) 10 (gc 2), wI (cy 1) (ef 2) 7 (xc 2), wO (ea 3) 2 [.ref (eg 3), .ref (ef 3), .int (et 3), .int (nI (el 3)), .int (nI (ei 3))], wI (cy 1) (eg 3) 10 (gc 3), wI (cy 1) (ef 3) 7 (xc 3), wO z0 7 [.ref z1, .ref z2, .int (nI zl), .int zpl, .int zvo, .int zwi, .int zch], wI (cy 1) z1 10 (fzw), wO (ea 0) 2 [.ref (eg 0), .ref (ef 0), .int tu_7, .int (nI mm), .int (nI k_6)], wI (cy 1) (eg 0) 10 (fg2_8), wI (cy 1) (ef 0) 7 (ff2_9), wO h0 4 [.ref h1, .ref h2, .ref h3, .ref h4, .ref h5, .ref h6, .ref h7, .ref h8, .ref h9, .ref h10, .ref h11, hv0, hv1, hv2, hv3, hv4], wI (cy 1) h3 4 (fp), wI (cy 1) h2 8 (flo), wO h9 3 [.ref h9a, .ref h9b, .int (nI nb), .int tb], wI (cy 1) h9a 280 (fcb), wI (cy 1) h9b 31 (fsb2_10), wO h11 3 [.ref h11a, .ref h11b, .int (nI nt), .int tt], wI (cy 1) h11a 280 (fct), wI (cy 1) h11b 31 (fst2_11), wO h10 3 [.ref h10a, .ref h10b, .int (nI nl), .int tl], wI (cy 1) h10a 280 (fcl), wI (cy 1) h10b 31 (fsl2_12), wI (cy 1) h1 4 (fc), wO s0 7 [.ref s1, .ref s2, .int (nI sl), .int spl, .int svo, .int swi, .int sch], wI (cy 1) s2 4 (fsn)] hP9 hD9 hS9 (fun hP hD hS => ?_)
    clear hP9 hD9 hS9
    refine W.widen (k := 0) (n := 0) (Nat.le_of_ble_eq_true rfl) (Nat.le_of_ble_eq_true rfl) ?_
    replace hw5 : (k_6 ≤ mm) ∧ (eaO (vlC tb fcb nb 3) (vlC tl fcl nl 0) (vlC tt fct nt 0) flo (farC spl (fp 0)) swi (fsn 0) svo sch c0 mm tu_7 k_6 fg2_8) := hw5
    obtain ⟨f_13, f_14⟩ := hw5
    refine lv_aload hx hb dX1_aheadOf_29 (lv_at hl 6 rfl) ?_
    refine va_get (D := D) (ci := 7) (v := .int (nI zl)) (C := RX7) (T := TX7) (N := 7) hx hb hg i_X7 hown hK hP 14 rfl rfl 2 (by decide) (hg _ m_631) (fun _ h9 => h9) rfl dX1_aheadOf_31 ?_
    refine lv_istore (lv' := [(7, .int (nI zl)), (6, .ref (ea 0)), (0, .ref q0), (1, .ref h0), (2, .ref s0), (3, .int 0), (4, .int (nI mm)), (5, .ref z0)]) hx hb dX1_aheadOf_34 hl (by decide) rfl (fun ls hl => ?_)
    refine lv_iconst (v := 0) hx hb dX1_aheadOf_36 (by decide) ?_
    refine lv_istore (lv' := [(8, .int 0), (7, .int (nI zl)), (6, .ref (ea 0)), (0, .ref q0), (1, .ref h0), (2, .ref s0), (3, .int 0), (4, .int (nI mm)), (5, .ref z0)]) hx hb dX1_aheadOf_37 hl (by decide) rfl (fun ls hl => ?_)
    have loop15 : ∀ (zn : Nat) (i15 : Nat) (fa1_15 : Nat → Int32), (i15 ≤ zl) → (∀ k9 : Nat, k9 < i15 → fa1_15 k9 = fzw (if tu_7 = 0 then k9 else zl - 1 - k9)) → zl - i15 + 1 ≤ zn → ∀ (H : Heap) (locs : List Loc), va_P D vwCl [wO q0 1 [.ref q1, .ref er, .ref q2, .ref q3, .ref q4, .ref h0, .int (nI mm), .int qo], wI (cy 1) q1 5 (fy), wI (cy 1) q3 10 (fa1_15), wI (cy 1) q4 66 (fwy), (er, .inl (cy 4, 4, .inr (.inr (.inr (.inr (eF (ea 0) (ea 1) (ea 2) (ea 3))))))), wO (ea 1) 2 [.ref (eg 1), .ref (ef 1), .int (et 1), .int (nI (el 1)), .int (nI (ei 1))], wI (cy 1) (eg 1) 10 (gc 1), wI (cy 1) (ef 1) 7 (xc 1), wO (ea 2) 2 [.ref (eg 2), .ref (ef 2), .int (et 2), .int (nI (el 2)), .int (nI (ei 2))], wI (cy 1) (eg 2) 10 (gc 2), wI (cy 1) (ef 2) 7 (xc 2), wO (ea 3) 2 [.ref (eg 3), .ref (ef 3), .int (et 3), .int (nI (el 3)), .int (nI (ei 3))], wI (cy 1) (eg 3) 10 (gc 3), wI (cy 1) (ef 3) 7 (xc 3), wO z0 7 [.ref z1, .ref z2, .int (nI zl), .int zpl, .int zvo, .int zwi, .int zch], wI (cy 1) z1 10 (fzw), wO (ea 0) 2 [.ref (eg 0), .ref (ef 0), .int tu_7, .int (nI mm), .int (nI k_6)], wI (cy 1) (eg 0) 10 (fg2_8), wI (cy 1) (ef 0) 7 (ff2_9), wO h0 4 [.ref h1, .ref h2, .ref h3, .ref h4, .ref h5, .ref h6, .ref h7, .ref h8, .ref h9, .ref h10, .ref h11, hv0, hv1, hv2, hv3, hv4], wI (cy 1) h3 4 (fp), wI (cy 1) h2 8 (flo), wO h9 3 [.ref h9a, .ref h9b, .int (nI nb), .int tb], wI (cy 1) h9a 280 (fcb), wI (cy 1) h9b 31 (fsb2_10), wO h11 3 [.ref h11a, .ref h11b, .int (nI nt), .int tt], wI (cy 1) h11a 280 (fct), wI (cy 1) h11b 31 (fst2_11), wO h10 3 [.ref h10a, .ref h10b, .int (nI nl), .int tl], wI (cy 1) h10a 280 (fcl), wI (cy 1) h10b 31 (fsl2_12), wI (cy 1) h1 4 (fc), wO s0 7 [.ref s1, .ref s2, .int (nI sl), .int spl, .int svo, .int swi, .int sch], wI (cy 1) s2 4 (fsn)] H → va_D A [wO q0 1 [.ref q1, .ref er, .ref q2, .ref q3, .ref q4, .ref h0, .int (nI mm), .int qo], wI (cy 1) q1 5 (fy), wI (cy 1) q3 10 (fa1_15), wI (cy 1) q4 66 (fwy), (er, .inl (cy 4, 4, .inr (.inr (.inr (.inr (eF (ea 0) (ea 1) (ea 2) (ea 3))))))), wO (ea 1) 2 [.ref (eg 1), .ref (ef 1), .int (et 1), .int (nI (el 1)), .int (nI (ei 1))], wI (cy 1) (eg 1) 10 (gc 1), wI (cy 1) (ef 1) 7 (xc 1), wO (ea 2) 2 [.ref (eg 2), .ref (ef 2), .int (et 2), .int (nI (el 2)), .int (nI (ei 2))], wI (cy 1) (eg 2) 10 (gc 2), wI (cy 1) (ef 2) 7 (xc 2), wO (ea 3) 2 [.ref (eg 3), .ref (ef 3), .int (et 3), .int (nI (el 3)), .int (nI (ei 3))], wI (cy 1) (eg 3) 10 (gc 3), wI (cy 1) (ef 3) 7 (xc 3), wO z0 7 [.ref z1, .ref z2, .int (nI zl), .int zpl, .int zvo, .int zwi, .int zch], wI (cy 1) z1 10 (fzw), wO (ea 0) 2 [.ref (eg 0), .ref (ef 0), .int tu_7, .int (nI mm), .int (nI k_6)], wI (cy 1) (eg 0) 10 (fg2_8), wI (cy 1) (ef 0) 7 (ff2_9), wO h0 4 [.ref h1, .ref h2, .ref h3, .ref h4, .ref h5, .ref h6, .ref h7, .ref h8, .ref h9, .ref h10, .ref h11, hv0, hv1, hv2, hv3, hv4], wI (cy 1) h3 4 (fp), wI (cy 1) h2 8 (flo), wO h9 3 [.ref h9a, .ref h9b, .int (nI nb), .int tb], wI (cy 1) h9a 280 (fcb), wI (cy 1) h9b 31 (fsb2_10), wO h11 3 [.ref h11a, .ref h11b, .int (nI nt), .int tt], wI (cy 1) h11a 280 (fct), wI (cy 1) h11b 31 (fst2_11), wO h10 3 [.ref h10a, .ref h10b, .int (nI nl), .int tl], wI (cy 1) h10a 280 (fcl), wI (cy 1) h10b 31 (fsl2_12), wI (cy 1) h1 4 (fc), wO s0 7 [.ref s1, .ref s2, .int (nI sl), .int spl, .int svo, .int swi, .int sch], wI (cy 1) s2 4 (fsn)] → va_S A s.heap H locs → ∀ ls : Array Slot, lv_has ls 9 [(8, .int (nI i15)), (7, .int (nI zl)), (6, .ref (ea 0)), (0, .ref q0), (1, .ref h0), (2, .ref s0), (3, .int 0), (4, .int (nI mm)), (5, .ref z0)] → W p l e (rmk 6 0 0) s m args below meth c H locs 0 0 Q (F0 m 39 ls []) := by
      try clear hP hD hS
      intro zn
      induction zn with
      | zero => intro i15 fa1_15 _ _ hz; exact absurd hz (by omega)
      | succ zn ih15 =>
        intro i15 fa1_15 hf0_15 hf1_15 hmu15 H locs hP hD hS ls hl
        refine lv_iload hx hb dX1_aheadOf_39 (lv_at hl 0 rfl) ?_
        refine lv_iload hx hb dX1_aheadOf_41 (lv_at hl 1 rfl) ?_
        refine lv_icmp_ge (tgt := 85) hx hb dX1_aheadOf_43 (by decide) (fun c_16 => ?_) (fun c_16 => ?_)
        · have q_17 : zl ≤ i15 := q_le (a := zl) (b := i15) rfl rfl (by omega) (by omega) c_16
          refine lv_aload_n hx hb dX1_aheadOf_85 rfl (lv_at hl 3 rfl) ?_
          refine lv_aload hx hb dX1_aheadOf_86 (lv_at hl 2 rfl) ?_
          refine lv_iload hx hb dX1_aheadOf_88 (lv_at hl 1 rfl) ?_
          refine x_callVv (q := (RX1, TX1, 8)) (ci := 1) (q0 := 0) (wr := [wI (cy 1) q1 5 (fy), (er, .inl (cy 4, 4, .inr (.inr (.inr (.inr (eF (ea 0) (ea 1) (ea 2) (ea 3))))))), wO (ea 1) 2 [.ref (eg 1), .ref (ef 1), .int (et 1), .int (nI (el 1)), .int (nI (ei 1))], wI (cy 1) (eg 1) 10 (gc 1), wI (cy 1) (ef 1) 7 (xc 1), wO (ea 2) 2 [.ref (eg 2), .ref (ef 2), .int (et 2), .int (nI (el 2)), .int (nI (ei 2))], wI (cy 1) (eg 2) 10 (gc 2), wI (cy 1) (ef 2) 7 (xc 2), wO (ea 3) 2 [.ref (eg 3), .ref (ef 3), .int (et 3), .int (nI (el 3)), .int (nI (ei 3))], wI (cy 1) (eg 3) 10 (gc 3), wI (cy 1) (ef 3) 7 (xc 3), wO z0 7 [.ref z1, .ref z2, .int (nI zl), .int zpl, .int zvo, .int zwi, .int zch], wI (cy 1) z1 10 (fzw), wI (cy 1) (ef 0) 7 (ff2_9), wI (cy 1) h3 4 (fp), wI (cy 1) h2 8 (flo), wO h9 3 [.ref h9a, .ref h9b, .int (nI nb), .int tb], wI (cy 1) h9a 280 (fcb), wI (cy 1) h9b 31 (fsb2_10), wO h11 3 [.ref h11a, .ref h11b, .int (nI nt), .int tt], wI (cy 1) h11a 280 (fct), wI (cy 1) h11b 31 (fst2_11), wO h10 3 [.ref h10a, .ref h10b, .int (nI nl), .int tl], wI (cy 1) h10a 280 (fcl), wI (cy 1) h10b 31 (fsl2_12), wO s0 7 [.ref s1, .ref s2, .int (nI sl), .int spl, .int svo, .int swi, .int sch], wI (cy 1) s2 4 (fsn)]) (rest := []) ⟨hx, hb, hml, hown, hg, hl.1⟩ k_X1_104 (s_countWays l D cy q0 q1 q2 q3 q4 er mm qo fa1_15 fwy h0 h1 h2 h3 h4 h5 h6 h7 h8 h9 h10 h11 hv0 hv1 hv2 hv3 hv4 fc c0 c1 c2 c3 (ea 0) (eg 0) (ef 0) tu_7 mm k_6 fg2_8 zl (hcn) (by omega) (by omega) (by omega) (by omega) (by omega) (by omega) (by omega)) E0_blind hK hP hD hS hA [0, 2, 3, 19, 31, 16, 17] [1, 4, 5, 6, 7, 8, 9, 10, 11, 12, 13, 14, 15, 18, 20, 21, 22, 23, 24, 25, 26, 27, 28, 29, 30, 32, 33] ⟨rfl, rfl, by decide +kernel, by decide +kernel, by decide +kernel⟩ rfl rfl (fun _ _ _ => trivial) dX1_aheadOf_90 rfl rfl (Nat.le_of_ble_eq_true rfl) ⟨Nat.le_of_ble_eq_true rfl, Nat.le_of_ble_eq_true rfl⟩ ⟨Nat.le_of_ble_eq_true rfl, Nat.le_of_ble_eq_true rfl⟩ (fun zu18 H locs hw18 hP9 hD9 hS9 => ?_)
          clear hP hD hS
          obtain ⟨fwy2_19, rfl⟩ : ∃ z, z = zu18 := ⟨_, rfl⟩
          refine reW [wI (cy 1) q1 5 (fy), (er, .inl (cy 4, 4, .inr (.inr (.inr (.inr (eF (ea 0) (ea 1) (ea 2) (ea 3))))))), wO (ea 1) 2 [.ref (eg 1), .ref (ef 1), .int (et 1), .int (nI (el 1)), .int (nI (ei 1))], wI (cy 1) (eg 1) 10 (gc 1), wI (cy 1) (ef 1) 7 (xc 1), wO (ea 2) 2 [.ref (eg 2), .ref (ef 2), .int (et 2), .int (nI (el 2)), .int (nI (ei 2))], wI (cy 1) (eg 2) 10 (gc 2), wI (cy 1) (ef 2) 7 (xc 2), wO (ea 3) 2 [.ref (eg 3), .ref (ef 3), .int (et 3), .int (nI (el 3)), .int (nI (ei 3))], wI (cy 1) (eg 3) 10 (gc 3), wI (cy 1) (ef 3) 7 (xc 3), wO z0 7 [.ref z1, .ref z2, .int (nI zl), .int zpl, .int zvo, .int zwi, .int zch], wI (cy 1) z1 10 (fzw), wI (cy 1) (ef 0) 7 (ff2_9), wI (cy 1) h3 4 (fp), wI (cy 1) h2 8 (flo), wO h9 3 [.ref h9a, .ref h9b, .int (nI nb), .int tb], wI (cy 1) h9a 280 (fcb), wI (cy 1) h9b 31 (fsb2_10), wO h11 3 [.ref h11a, .ref h11b, .int (nI nt), .int tt], wI (cy 1) h11a 280 (fct), wI (cy 1) h11b 31 (fst2_11), wO h10 3 [.ref h10a, .ref h10b, .int (nI nl), .int tl], wI (cy 1) h10a 280 (fcl), wI (cy 1) h10b 31 (fsl2_12), wO s0 7 [.ref s1, .ref s2, .int (nI sl), .int spl, .int svo, .int swi, .int sch], wI (cy 1) s2 4 (fsn), wO q0 1 [.ref q1, .ref er, .ref q2, .ref q3, .ref q4, .ref h0, .int (nI mm), .int qo], wI (cy 1) q3 10 (fa1_15), wI (cy 1) q4 66 (fwy2_19), wO h0 4 [.ref h1, .ref h2, .ref h3, .ref h4, .ref h5, .ref h6, .ref h7, .ref h8, .ref h9, .ref h10, .ref h11, hv0, hv1, hv2, hv3, hv4], wI (cy 1) h1 4 (fc), wO (ea 0) 2 [.ref (eg 0), .ref (ef 0), .int tu_7, .int (nI mm), .int (nI k_6)], wI (cy 1) (eg 0) 10 (fg2_8)] hP9 hD9 hS9 (fun hP hD hS => ?_)
          clear hP9 hD9 hS9
          refine W.widen (k := 0) (n := 0) (Nat.le_of_ble_eq_true rfl) (Nat.le_of_ble_eq_true rfl) ?_
          replace hw18 : (∀ i9 j9 : Nat, i9 ≤ mm → j9 ≤ zl → fwy2_19 (i9 * 11 + j9) = nI (waD fg2_8 c0 fa1_15 zl mm (mm - i9) j9)) := hw18
          have f_20 := hw18
          refine lv_aload_n hx hb dX1_aheadOf_93 rfl (lv_at hl 3 rfl) ?_
          refine va_get (D := D) (ci := 1) (v := .ref q4) (C := RX1) (T := TX1) (N := 8) hx hb hg i_X1 hown hK hP 27 rfl rfl 4 (by decide) (hg _ m_557) (fun _ h9 => h9) rfl dX1_aheadOf_94 ?_
          refine lv_iconst (v := 0) hx hb dX1_aheadOf_97 (by decide) ?_
          refine va_iald hx hb hK hP 29 1 rfl rfl (by unfold vp_in; decide) dX1_aheadOf_98 ?_
          refine lv_topi (fun x_21 ex_21 => ?_)
          refine lv_if_le (tgt := 110) hx hb dX1_aheadOf_99 (by decide) (fun c_99 => ?_) (fun c_99 => ?_)
          · refine lv_aload_n hx hb dX1_aheadOf_110 rfl (lv_at hl 3 rfl) ?_
            refine va_get (D := D) (ci := 1) (v := .ref q4) (C := RX1) (T := TX1) (N := 8) hx hb hg i_X1 hown hK hP 27 rfl rfl 4 (by decide) (hg _ m_557) (fun _ h9 => h9) rfl dX1_aheadOf_111 ?_
            refine lv_iconst (v := 0) hx hb dX1_aheadOf_114 (by decide) ?_
            refine va_iald hx hb hK hP 29 1 rfl rfl (by unfold vp_in; decide) dX1_aheadOf_115 ?_
            refine lv_topi (fun x_22 ex_22 => ?_)
            exact x_iret hQ hx hb hr hlocks hK hP hD hS dX1_aheadOf_116 (fy, fa1_15, fwy2_19, (fun k => [tu_7, et 1, et 2, et 3].getD k 0), (fun k => [mm, (el 1), (el 2), (el 3)].getD k 0), (fun k => [k_6, (ei 1), (ei 2), (ei 3)].getD k 0), (fun k => [fg2_8, gc 1, gc 2, gc 3].getD k (fun _ => 0)), (fun k => [ff2_9, xc 1, xc 2, xc 3].getD k (fun _ => 0)), fsb2_10, fst2_11, fsl2_12) (⟨get4 (by omega) (by omega) (by omega) (by omega), (fun h9 => ah_n f_14 (by omega) (fun k9 h8 => hf1_15 k9 (by omega)) h9 (wd_z f_20 ex_22)), (fun _ h9 => (h9 (by rw [ex_22, ← ex_21]; exact c_99)).elim)⟩) [27, 0, 28, 29, 30, 14, 15, 16, 17, 18, 19, 20, 21, 22, 23, 24, 31, 1, 32, 33, 13, 2, 3, 4, 5, 6, 7, 8, 9, 10, 25, 26, 11, 12] (by decide +kernel) rfl (Nat.le_of_ble_eq_true rfl) (Nat.le_of_ble_eq_true rfl)
          · refine lv_aload_n hx hb dX1_aheadOf_102 rfl (lv_at hl 3 rfl) ?_
            refine lv_aload hx hb dX1_aheadOf_103 (lv_at hl 2 rfl) ?_
            refine lv_iload hx hb dX1_aheadOf_105 (lv_at hl 1 rfl) ?_
            refine x_callVv (q := (RX1, TX1, 8)) (ci := 1) (q0 := 0) (wr := [(er, .inl (cy 4, 4, .inr (.inr (.inr (.inr (eF (ea 0) (ea 1) (ea 2) (ea 3))))))), wO (ea 1) 2 [.ref (eg 1), .ref (ef 1), .int (et 1), .int (nI (el 1)), .int (nI (ei 1))], wI (cy 1) (eg 1) 10 (gc 1), wI (cy 1) (ef 1) 7 (xc 1), wO (ea 2) 2 [.ref (eg 2), .ref (ef 2), .int (et 2), .int (nI (el 2)), .int (nI (ei 2))], wI (cy 1) (eg 2) 10 (gc 2), wI (cy 1) (ef 2) 7 (xc 2), wO (ea 3) 2 [.ref (eg 3), .ref (ef 3), .int (et 3), .int (nI (el 3)), .int (nI (ei 3))], wI (cy 1) (eg 3) 10 (gc 3), wI (cy 1) (ef 3) 7 (xc 3), wO z0 7 [.ref z1, .ref z2, .int (nI zl), .int zpl, .int zvo, .int zwi, .int zch], wI (cy 1) z1 10 (fzw), wI (cy 1) (ef 0) 7 (ff2_9), wI (cy 1) h3 4 (fp), wI (cy 1) h2 8 (flo), wO h9 3 [.ref h9a, .ref h9b, .int (nI nb), .int tb], wI (cy 1) h9a 280 (fcb), wI (cy 1) h9b 31 (fsb2_10), wO h11 3 [.ref h11a, .ref h11b, .int (nI nt), .int tt], wI (cy 1) h11a 280 (fct), wI (cy 1) h11b 31 (fst2_11), wO h10 3 [.ref h10a, .ref h10b, .int (nI nl), .int tl], wI (cy 1) h10a 280 (fcl), wI (cy 1) h10b 31 (fsl2_12), wO s0 7 [.ref s1, .ref s2, .int (nI sl), .int spl, .int svo, .int swi, .int sch], wI (cy 1) s2 4 (fsn)]) (rest := []) ⟨hx, hb, hml, hown, hg, hl.1⟩ k_X1_108 (s_followWays l D cy q0 q1 q2 q3 q4 er mm qo fy fa1_15 fwy2_19 h0 h1 h2 h3 h4 h5 h6 h7 h8 h9 h10 h11 hv0 hv1 hv2 hv3 hv4 fc c0 c1 c2 c3 (ea 0) (eg 0) (ef 0) tu_7 mm k_6 fg2_8 zl (hcn) (by omega) (by omega) (by omega) (by omega) (by omega) (by omega) (f_20)) E0_blind hK hP hD hS hA [27, 0, 28, 29, 30, 31, 32, 33] [1, 2, 3, 4, 5, 6, 7, 8, 9, 10, 11, 12, 13, 14, 15, 16, 17, 18, 19, 20, 21, 22, 23, 24, 25, 26] ⟨rfl, rfl, by decide +kernel, by decide +kernel, by decide +kernel⟩ rfl rfl (fun _ _ _ => trivial) dX1_aheadOf_107 rfl rfl (Nat.le_of_ble_eq_true rfl) ⟨Nat.le_of_ble_eq_true rfl, Nat.le_of_ble_eq_true rfl⟩ ⟨Nat.le_of_ble_eq_true rfl, Nat.le_of_ble_eq_true rfl⟩ (fun zu23 H locs hw23 hP9 hD9 hS9 => ?_)
            clear hP hD hS
            obtain ⟨fy2_24, rfl⟩ : ∃ z, z = zu23 := ⟨_, rfl⟩
            refine reW [(er, .inl (cy 4, 4, .inr (.inr (.inr (.inr (eF (ea 0) (ea 1) (ea 2) (ea 3))))))), wO (ea 1) 2 [.ref (eg 1), .ref (ef 1), .int (et 1), .int (nI (el 1)), .int (nI (ei 1))], wI (cy 1) (eg 1) 10 (gc 1), wI (cy 1) (ef 1) 7 (xc 1), wO (ea 2) 2 [.ref (eg 2), .ref (ef 2), .int (et 2), .int (nI (el 2)), .int (nI (ei 2))], wI (cy 1) (eg 2) 10 (gc 2), wI (cy 1) (ef 2) 7 (xc 2), wO (ea 3) 2 [.ref (eg 3), .ref (ef 3), .int (et 3), .int (nI (el 3)), .int (nI (ei 3))], wI (cy 1) (eg 3) 10 (gc 3), wI (cy 1) (ef 3) 7 (xc 3), wO z0 7 [.ref z1, .ref z2, .int (nI zl), .int zpl, .int zvo, .int zwi, .int zch], wI (cy 1) z1 10 (fzw), wI (cy 1) (ef 0) 7 (ff2_9), wI (cy 1) h3 4 (fp), wI (cy 1) h2 8 (flo), wO h9 3 [.ref h9a, .ref h9b, .int (nI nb), .int tb], wI (cy 1) h9a 280 (fcb), wI (cy 1) h9b 31 (fsb2_10), wO h11 3 [.ref h11a, .ref h11b, .int (nI nt), .int tt], wI (cy 1) h11a 280 (fct), wI (cy 1) h11b 31 (fst2_11), wO h10 3 [.ref h10a, .ref h10b, .int (nI nl), .int tl], wI (cy 1) h10a 280 (fcl), wI (cy 1) h10b 31 (fsl2_12), wO s0 7 [.ref s1, .ref s2, .int (nI sl), .int spl, .int svo, .int swi, .int sch], wI (cy 1) s2 4 (fsn), wO q0 1 [.ref q1, .ref er, .ref q2, .ref q3, .ref q4, .ref h0, .int (nI mm), .int qo], wI (cy 1) q1 5 (fy2_24), wI (cy 1) q3 10 (fa1_15), wI (cy 1) q4 66 (fwy2_19), wO h0 4 [.ref h1, .ref h2, .ref h3, .ref h4, .ref h5, .ref h6, .ref h7, .ref h8, .ref h9, .ref h10, .ref h11, hv0, hv1, hv2, hv3, hv4], wI (cy 1) h1 4 (fc), wO (ea 0) 2 [.ref (eg 0), .ref (ef 0), .int tu_7, .int (nI mm), .int (nI k_6)], wI (cy 1) (eg 0) 10 (fg2_8)] hP9 hD9 hS9 (fun hP hD hS => ?_)
            clear hP9 hD9 hS9
            refine W.widen (k := 0) (n := 0) (Nat.le_of_ble_eq_true rfl) (Nat.le_of_ble_eq_true rfl) ?_
            replace hw23 : (okW c0 fa1_15 zl → 0 < waD fg2_8 c0 fa1_15 zl mm mm 0 → fdP (wtP fg2_8 fa1_15 zl mm) c0 mm mm (fun _ => 0) = some (tr9 mm fy2_24)) := hw23
            have f_25 := hw23
            refine lv_aload_n hx hb dX1_aheadOf_110 rfl (lv_at hl 3 rfl) ?_
            refine va_get (D := D) (ci := 1) (v := .ref q4) (C := RX1) (T := TX1) (N := 8) hx hb hg i_X1 hown hK hP 26 rfl rfl 4 (by decide) (hg _ m_557) (fun _ h9 => h9) rfl dX1_aheadOf_111 ?_
            refine lv_iconst (v := 0) hx hb dX1_aheadOf_114 (by decide) ?_
            refine va_iald hx hb hK hP 29 1 rfl rfl (by unfold vp_in; decide) dX1_aheadOf_115 ?_
            refine lv_topi (fun x_26 ex_26 => ?_)
            exact x_iret hQ hx hb hr hlocks hK hP hD hS dX1_aheadOf_116 (fy2_24, fa1_15, fwy2_19, (fun k => [tu_7, et 1, et 2, et 3].getD k 0), (fun k => [mm, (el 1), (el 2), (el 3)].getD k 0), (fun k => [k_6, (ei 1), (ei 2), (ei 3)].getD k 0), (fun k => [fg2_8, gc 1, gc 2, gc 3].getD k (fun _ => 0)), (fun k => [ff2_9, xc 1, xc 2, xc 3].getD k (fun _ => 0)), fsb2_10, fst2_11, fsl2_12) (⟨get4 (by omega) (by omega) (by omega) (by omega), (fun h9 => ah_n f_14 (by omega) (fun k9 h8 => hf1_15 k9 (by omega)) h9 (wd_z f_20 ex_26)), (fun h9 _ => ah_f f_14 (by omega) (fun k9 h8 => hf1_15 k9 (by omega)) h9 ((fw_z (by omega) (by omega) (wd_z f_20 ex_21)).2 c_99) f_25)⟩) [26, 27, 28, 29, 30, 13, 14, 15, 16, 17, 18, 19, 20, 21, 22, 23, 31, 0, 32, 33, 12, 1, 2, 3, 4, 5, 6, 7, 8, 9, 24, 25, 10, 11] (by decide +kernel) rfl (Nat.le_of_ble_eq_true rfl) (Nat.le_of_ble_eq_true rfl)
        · have q_17 : i15 < zl := q_nle (a := zl) (b := i15) rfl rfl (by omega) (by omega) c_16
          refine lv_aload_n hx hb dX1_aheadOf_46 rfl (lv_at hl 3 rfl) ?_
          refine va_get (D := D) (ci := 1) (v := .ref q3) (C := RX1) (T := TX1) (N := 8) hx hb hg i_X1 hown hK hP 0 rfl rfl 3 (by decide) (hg _ m_556) (fun _ h9 => h9) rfl dX1_aheadOf_47 ?_
          refine lv_iload hx hb dX1_aheadOf_50 (lv_at hl 0 rfl) ?_
          refine lv_aload hx hb dX1_aheadOf_52 (lv_at hl 8 rfl) ?_
          refine va_get (D := D) (ci := 7) (v := .ref z1) (C := RX7) (T := TX7) (N := 7) hx hb hg i_X7 hown hK hP 14 rfl rfl 0 (by decide) (hg _ m_623) (fun _ h9 => h9) rfl dX1_aheadOf_54 ?_
          refine lv_aload hx hb dX1_aheadOf_57 (lv_at hl 2 rfl) ?_
          refine va_get (D := D) (ci := 2) (v := .int tu_7) (C := RX2) (T := TX2) (N := 5) hx hb hg i_X2 hown hK hP 16 rfl rfl 2 (by decide) (hg _ m_517) (fun _ h9 => h9) rfl dX1_aheadOf_59 ?_
          refine lv_if_eq (tgt := 75) hx hb dX1_aheadOf_62 (by decide) (fun c_62 => ?_) (fun c_62 => ?_)
          · refine lv_iload hx hb dX1_aheadOf_75 (lv_at hl 0 rfl) ?_
            refine va_iald hx hb hK hP 15 1 rfl rfl (vp_in_nI (by omega) (by decide)) dX1_aheadOf_77 ?_
            refine lv_topi (fun x_27 ex_27 => ?_)
            refine va_iast hx hb hK hP hD hS 2 1 rfl rfl (vp_in_nI (by omega) (by decide)) dX1_aheadOf_78 (fun H locs hP9 hD9 hS9 => ?_)
            clear hP hD hS
            obtain ⟨g_28, eg_28⟩ : ∃ y, upd fa1_15 (nI i15 : Int32).toNatClampNeg x_27 = y := ⟨_, rfl⟩
            rw [eg_28] at hP9 hD9
            refine reW [wO q0 1 [.ref q1, .ref er, .ref q2, .ref q3, .ref q4, .ref h0, .int (nI mm), .int qo], wI (cy 1) q1 5 (fy), wI (cy 1) q3 10 (g_28), wI (cy 1) q4 66 (fwy), (er, .inl (cy 4, 4, .inr (.inr (.inr (.inr (eF (ea 0) (ea 1) (ea 2) (ea 3))))))), wO (ea 1) 2 [.ref (eg 1), .ref (ef 1), .int (et 1), .int (nI (el 1)), .int (nI (ei 1))], wI (cy 1) (eg 1) 10 (gc 1), wI (cy 1) (ef 1) 7 (xc 1), wO (ea 2) 2 [.ref (eg 2), .ref (ef 2), .int (et 2), .int (nI (el 2)), .int (nI (ei 2))], wI (cy 1) (eg 2) 10 (gc 2), wI (cy 1) (ef 2) 7 (xc 2), wO (ea 3) 2 [.ref (eg 3), .ref (ef 3), .int (et 3), .int (nI (el 3)), .int (nI (ei 3))], wI (cy 1) (eg 3) 10 (gc 3), wI (cy 1) (ef 3) 7 (xc 3), wO z0 7 [.ref z1, .ref z2, .int (nI zl), .int zpl, .int zvo, .int zwi, .int zch], wI (cy 1) z1 10 (fzw), wO (ea 0) 2 [.ref (eg 0), .ref (ef 0), .int tu_7, .int (nI mm), .int (nI k_6)], wI (cy 1) (eg 0) 10 (fg2_8), wI (cy 1) (ef 0) 7 (ff2_9), wO h0 4 [.ref h1, .ref h2, .ref h3, .ref h4, .ref h5, .ref h6, .ref h7, .ref h8, .ref h9, .ref h10, .ref h11, hv0, hv1, hv2, hv3, hv4], wI (cy 1) h3 4 (fp), wI (cy 1) h2 8 (flo), wO h9 3 [.ref h9a, .ref h9b, .int (nI nb), .int tb], wI (cy 1) h9a 280 (fcb), wI (cy 1) h9b 31 (fsb2_10), wO h11 3 [.ref h11a, .ref h11b, .int (nI nt), .int tt], wI (cy 1) h11a 280 (fct), wI (cy 1) h11b 31 (fst2_11), wO h10 3 [.ref h10a, .ref h10b, .int (nI nl), .int tl], wI (cy 1) h10a 280 (fcl), wI (cy 1) h10b 31 (fsl2_12), wI (cy 1) h1 4 (fc), wO s0 7 [.ref s1, .ref s2, .int (nI sl), .int spl, .int svo, .int swi, .int sch], wI (cy 1) s2 4 (fsn)] hP9 hD9 hS9 (fun hP hD hS => ?_)
            clear hP9 hD9 hS9
            refine lv_iinc (v := nI (i15 + 1)) (lv' := [(8, .int (nI (i15 + 1))), (7, .int (nI zl)), (6, .ref (ea 0)), (0, .ref q0), (1, .ref h0), (2, .ref s0), (3, .int 0), (4, .int (nI mm)), (5, .ref z0)]) hx hb dX1_aheadOf_79 hl (k := 0) rfl (nI_add i15 1) (by decide) rfl (fun ls hl => ?_)
            refine lv_goto (tgt := 39) hx hb dX1_aheadOf_82 (by decide) ?_
            exact ih15  ((i15 + 1)) g_28 (by omega) (wn_put (v := i15) hf1_15 (by omega) (by omega) ex_27 eg_28 (if_pos c_62).symm) (by omega) _ _ (hP.sub [0, 1, 2, 3, 4, 5, 6, 7, 8, 9, 10, 11, 12, 13, 14, 15, 16, 17, 18, 19, 20, 21, 22, 23, 24, 25, 26, 27, 28, 29, 30, 31, 32, 33] rfl) (hD.sub [0, 1, 2, 3, 4, 5, 6, 7, 8, 9, 10, 11, 12, 13, 14, 15, 16, 17, 18, 19, 20, 21, 22, 23, 24, 25, 26, 27, 28, 29, 30, 31, 32, 33] (by decide +kernel) rfl) hS ls (lv_sub hl [0, 1, 2, 3, 4, 5, 6, 7, 8] rfl)
          · refine lv_iload hx hb dX1_aheadOf_65 (lv_at hl 1 rfl) ?_
            refine lv_iconst (v := 1) hx hb dX1_aheadOf_67 (by decide) ?_
            refine lv_isub hx hb dX1_aheadOf_68 ?_
            refine lv_topi (fun y_29 hy_29 => ?_)
            obtain rfl : y_29 = nI (zl - 1) := hy_29.trans (pk_sub (a := zl) (b := 1) (by omega))
            refine lv_iload hx hb dX1_aheadOf_69 (lv_at hl 0 rfl) ?_
            refine lv_isub hx hb dX1_aheadOf_71 ?_
            refine lv_topi (fun y_30 hy_30 => ?_)
            obtain rfl : y_30 = nI ((zl - 1) - i15) := hy_30.trans (pk_sub (a := (zl - 1)) (b := i15) (by omega))
            refine lv_goto (tgt := 77) hx hb dX1_aheadOf_72 (by decide) ?_
            refine va_iald hx hb hK hP 15 1 rfl rfl (vp_in_nI (by omega) (by decide)) dX1_aheadOf_77 ?_
            refine lv_topi (fun x_31 ex_31 => ?_)
            refine va_iast hx hb hK hP hD hS 2 1 rfl rfl (vp_in_nI (by omega) (by decide)) dX1_aheadOf_78 (fun H locs hP9 hD9 hS9 => ?_)
            clear hP hD hS
            obtain ⟨g_32, eg_32⟩ : ∃ y, upd fa1_15 (nI i15 : Int32).toNatClampNeg x_31 = y := ⟨_, rfl⟩
            rw [eg_32] at hP9 hD9
            refine reW [wO q0 1 [.ref q1, .ref er, .ref q2, .ref q3, .ref q4, .ref h0, .int (nI mm), .int qo], wI (cy 1) q1 5 (fy), wI (cy 1) q3 10 (g_32), wI (cy 1) q4 66 (fwy), (er, .inl (cy 4, 4, .inr (.inr (.inr (.inr (eF (ea 0) (ea 1) (ea 2) (ea 3))))))), wO (ea 1) 2 [.ref (eg 1), .ref (ef 1), .int (et 1), .int (nI (el 1)), .int (nI (ei 1))], wI (cy 1) (eg 1) 10 (gc 1), wI (cy 1) (ef 1) 7 (xc 1), wO (ea 2) 2 [.ref (eg 2), .ref (ef 2), .int (et 2), .int (nI (el 2)), .int (nI (ei 2))], wI (cy 1) (eg 2) 10 (gc 2), wI (cy 1) (ef 2) 7 (xc 2), wO (ea 3) 2 [.ref (eg 3), .ref (ef 3), .int (et 3), .int (nI (el 3)), .int (nI (ei 3))], wI (cy 1) (eg 3) 10 (gc 3), wI (cy 1) (ef 3) 7 (xc 3), wO z0 7 [.ref z1, .ref z2, .int (nI zl), .int zpl, .int zvo, .int zwi, .int zch], wI (cy 1) z1 10 (fzw), wO (ea 0) 2 [.ref (eg 0), .ref (ef 0), .int tu_7, .int (nI mm), .int (nI k_6)], wI (cy 1) (eg 0) 10 (fg2_8), wI (cy 1) (ef 0) 7 (ff2_9), wO h0 4 [.ref h1, .ref h2, .ref h3, .ref h4, .ref h5, .ref h6, .ref h7, .ref h8, .ref h9, .ref h10, .ref h11, hv0, hv1, hv2, hv3, hv4], wI (cy 1) h3 4 (fp), wI (cy 1) h2 8 (flo), wO h9 3 [.ref h9a, .ref h9b, .int (nI nb), .int tb], wI (cy 1) h9a 280 (fcb), wI (cy 1) h9b 31 (fsb2_10), wO h11 3 [.ref h11a, .ref h11b, .int (nI nt), .int tt], wI (cy 1) h11a 280 (fct), wI (cy 1) h11b 31 (fst2_11), wO h10 3 [.ref h10a, .ref h10b, .int (nI nl), .int tl], wI (cy 1) h10a 280 (fcl), wI (cy 1) h10b 31 (fsl2_12), wI (cy 1) h1 4 (fc), wO s0 7 [.ref s1, .ref s2, .int (nI sl), .int spl, .int svo, .int swi, .int sch], wI (cy 1) s2 4 (fsn)] hP9 hD9 hS9 (fun hP hD hS => ?_)
            clear hP9 hD9 hS9
            refine lv_iinc (v := nI (i15 + 1)) (lv' := [(8, .int (nI (i15 + 1))), (7, .int (nI zl)), (6, .ref (ea 0)), (0, .ref q0), (1, .ref h0), (2, .ref s0), (3, .int 0), (4, .int (nI mm)), (5, .ref z0)]) hx hb dX1_aheadOf_79 hl (k := 0) rfl (nI_add i15 1) (by decide) rfl (fun ls hl => ?_)
            refine lv_goto (tgt := 39) hx hb dX1_aheadOf_82 (by decide) ?_
            exact ih15  ((i15 + 1)) g_32 (by omega) (wn_put (v := (((zl - 1) - i15))) hf1_15 (by omega) (by omega) ex_31 eg_32 (if_neg c_62).symm) (by omega) _ _ (hP.sub [0, 1, 2, 3, 4, 5, 6, 7, 8, 9, 10, 11, 12, 13, 14, 15, 16, 17, 18, 19, 20, 21, 22, 23, 24, 25, 26, 27, 28, 29, 30, 31, 32, 33] rfl) (hD.sub [0, 1, 2, 3, 4, 5, 6, 7, 8, 9, 10, 11, 12, 13, 14, 15, 16, 17, 18, 19, 20, 21, 22, 23, 24, 25, 26, 27, 28, 29, 30, 31, 32, 33] (by decide +kernel) rfl) hS ls (lv_sub hl [0, 1, 2, 3, 4, 5, 6, 7, 8] rfl)
    exact loop15 _ 0 fwa (by omega) (fun k9 h9 => absurd h9 (Nat.not_lt_zero k9)) (Nat.le_refl _) _ _ (hP.sub [0, 1, 2, 3, 4, 5, 6, 7, 8, 9, 10, 11, 12, 13, 14, 15, 16, 17, 18, 19, 20, 21, 22, 23, 24, 25, 26, 27, 28, 29, 30, 31, 32, 33] rfl) (hD.sub [0, 1, 2, 3, 4, 5, 6, 7, 8, 9, 10, 11, 12, 13, 14, 15, 16, 17, 18, 19, 20, 21, 22, 23, 24, 25, 26, 27, 28, 29, 30, 31, 32, 33] (by decide +kernel) rfl) hS ls (lv_sub hl [0, 1, 2, 3, 4, 5, 6, 7, 8] rfl)
  · subst hsp
    refine va_aldq hx hb hK hP 17 4 rfl rfl (by unfold vp_in; decide) dX1_aheadOf_16 ?_
    refine W.eq (g2 := F0 m 17 ls [.ref (ea 1)]) rfl ?_
    refine lv_astore (lv' := [(6, .ref (ea 1)), (0, .ref q0), (1, .ref h0), (2, .ref s0), (3, .int 1), (4, .int (nI mm)), (5, .ref z0)]) hx hb dX1_aheadOf_17 hl (by decide) rfl (fun ls hl => ?_)
    refine lv_aload hx hb dX1_aheadOf_19 (lv_at hl 0 rfl) ?_
    refine lv_aload_n hx hb dX1_aheadOf_21 rfl (lv_at hl 2 rfl) ?_
    refine lv_aload_n hx hb dX1_aheadOf_22 rfl (lv_at hl 3 rfl) ?_
    refine lv_iload_n hx hb dX1_aheadOf_23 rfl (lv_at hl 4 rfl) ?_
    refine lv_iload hx hb dX1_aheadOf_24 (lv_at hl 5 rfl) ?_
    refine x_callVv (q := (RX2, TX2, 5)) (ci := 2) (q0 := 0) (wr := [wO q0 1 [.ref q1, .ref er, .ref q2, .ref q3, .ref q4, .ref h0, .int (nI mm), .int qo], wI (cy 1) q1 5 (fy), wI (cy 1) q3 10 (fwa), wI (cy 1) q4 66 (fwy), (er, .inl (cy 4, 4, .inr (.inr (.inr (.inr (eF (ea 0) (ea 1) (ea 2) (ea 3))))))), wO (ea 0) 2 [.ref (eg 0), .ref (ef 0), .int (et 0), .int (nI (el 0)), .int (nI (ei 0))], wI (cy 1) (eg 0) 10 (gc 0), wI (cy 1) (ef 0) 7 (xc 0), wO (ea 2) 2 [.ref (eg 2), .ref (ef 2), .int (et 2), .int (nI (el 2)), .int (nI (ei 2))], wI (cy 1) (eg 2) 10 (gc 2), wI (cy 1) (ef 2) 7 (xc 2), wO (ea 3) 2 [.ref (eg 3), .ref (ef 3), .int (et 3), .int (nI (el 3)), .int (nI (ei 3))], wI (cy 1) (eg 3) 10 (gc 3), wI (cy 1) (ef 3) 7 (xc 3), wO z0 7 [.ref z1, .ref z2, .int (nI zl), .int zpl, .int zvo, .int zwi, .int zch], wI (cy 1) z1 10 (fzw)]) (rest := []) ⟨hx, hb, hml, hown, hg, hl.1⟩ k_X1_48 (s_tuneToAll l D cy (ea 1) (eg 1) (ef 1) (et 1) (nI (el 1)) (nI (ei 1)) (gc 1) (xc 1) h0 h1 h2 h3 h4 h5 h6 h7 h8 h9 h10 h11 hv0 hv1 hv2 hv3 hv4 fp flo h9a h9b nb tb fcb fsb h11a h11b nt tt fct fst h10a h10b nl tl fcl fsl fc c0 c1 c2 c3 s0 s1 s2 sl spl svo swi sch fsn 1 mm (by omega) (hcb) (by omega) (by omega) (hct) (by omega) (by omega) (hcl) (by omega) (hcn) (by omega) (by omega) (by omega) (by omega) (by omega) (by omega)) E0_blind hK hP hD hS hA [21, 22, 23, 4, 5, 6, 7, 8, 9, 10, 11, 12, 13, 14, 15, 16, 30, 31] [0, 1, 2, 3, 17, 18, 19, 20, 24, 25, 26, 27, 28, 29, 32, 33] ⟨rfl, rfl, by decide +kernel, by decide +kernel, by decide +kernel⟩ rfl rfl (fun _ _ _ => trivial) dX1_aheadOf_26 rfl rfl (Nat.le_of_ble_eq_true rfl) ⟨Nat.le_of_ble_eq_true rfl, Nat.le_of_ble_eq_true rfl⟩ ⟨Nat.le_of_ble_eq_true rfl, Nat.le_of_ble_eq_true rfl⟩ (fun zu33 H locs hw33 hP9 hD9 hS9 => ?_)
    clear hP hD hS
    obtain ⟨k_34, tu_35, fg2_36, ff2_37, fsb2_38, fst2_39, fsl2_40⟩ := zu33
    refine reW [wO q0 1 [.ref q1, .ref er, .ref q2, .ref q3, .ref q4, .ref h0, .int (nI mm), .int qo], wI (cy 1) q1 5 (fy), wI (cy 1) q3 10 (fwa), wI (cy 1) q4 66 (fwy), (er, .inl (cy 4, 4, .inr (.inr (.inr (.inr (eF (ea 0) (ea 1) (ea 2) (ea 3))))))), wO (ea 0) 2 [.ref (eg 0), .ref (ef 0), .int (et 0), .int (nI (el 0)), .int (nI (ei 0))], wI (cy 1) (eg 0) 10 (gc 0), wI (cy 1) (ef 0) 7 (xc 0), wO (ea 2) 2 [.ref (eg 2), .ref (ef 2), .int (et 2), .int (nI (el 2)), .int (nI (ei 2))], wI (cy 1) (eg 2) 10 (gc 2), wI (cy 1) (ef 2) 7 (xc 2), wO (ea 3) 2 [.ref (eg 3), .ref (ef 3), .int (et 3), .int (nI (el 3)), .int (nI (ei 3))], wI (cy 1) (eg 3) 10 (gc 3), wI (cy 1) (ef 3) 7 (xc 3), wO z0 7 [.ref z1, .ref z2, .int (nI zl), .int zpl, .int zvo, .int zwi, .int zch], wI (cy 1) z1 10 (fzw), wO (ea 1) 2 [.ref (eg 1), .ref (ef 1), .int tu_35, .int (nI mm), .int (nI k_34)], wI (cy 1) (eg 1) 10 (fg2_36), wI (cy 1) (ef 1) 7 (ff2_37), wO h0 4 [.ref h1, .ref h2, .ref h3, .ref h4, .ref h5, .ref h6, .ref h7, .ref h8, .ref h9, .ref h10, .ref h11, hv0, hv1, hv2, hv3, hv4], wI (cy 1) h3 4 (fp), wI (cy 1) h2 8 (flo), wO h9 3 [.ref h9a, .ref h9b, .int (nI nb), .int tb], wI (cy 1) h9a 280 (fcb), wI (cy 1) h9b 31 (fsb2_38), wO h11 3 [.ref h11a, .ref h11b, .int (nI nt), .int tt], wI (cy 1) h11a 280 (fct), wI (cy 1) h11b 31 (fst2_39), wO h10 3 [.ref h10a, .ref h10b, .int (nI nl), .int tl], wI (cy 1) h10a 280 (fcl), wI (cy 1) h10b 31 (fsl2_40), wI (cy 1) h1 4 (fc), wO s0 7 [.ref s1, .ref s2, .int (nI sl), .int spl, .int svo, .int swi, .int sch], wI (cy 1) s2 4 (fsn)] hP9 hD9 hS9 (fun hP hD hS => ?_)
    clear hP9 hD9 hS9
    refine W.widen (k := 0) (n := 0) (Nat.le_of_ble_eq_true rfl) (Nat.le_of_ble_eq_true rfl) ?_
    replace hw33 : (k_34 ≤ mm) ∧ (eaO (vlC tb fcb nb 3) (vlC tl fcl nl 0) (vlC tt fct nt 0) flo (farC spl (fp 1)) swi (fsn 1) svo sch c0 mm tu_35 k_34 fg2_36) := hw33
    obtain ⟨f_41, f_42⟩ := hw33
    refine lv_aload hx hb dX1_aheadOf_29 (lv_at hl 6 rfl) ?_
    refine va_get (D := D) (ci := 7) (v := .int (nI zl)) (C := RX7) (T := TX7) (N := 7) hx hb hg i_X7 hown hK hP 14 rfl rfl 2 (by decide) (hg _ m_631) (fun _ h9 => h9) rfl dX1_aheadOf_31 ?_
    refine lv_istore (lv' := [(7, .int (nI zl)), (6, .ref (ea 1)), (0, .ref q0), (1, .ref h0), (2, .ref s0), (3, .int 1), (4, .int (nI mm)), (5, .ref z0)]) hx hb dX1_aheadOf_34 hl (by decide) rfl (fun ls hl => ?_)
    refine lv_iconst (v := 0) hx hb dX1_aheadOf_36 (by decide) ?_
    refine lv_istore (lv' := [(8, .int 0), (7, .int (nI zl)), (6, .ref (ea 1)), (0, .ref q0), (1, .ref h0), (2, .ref s0), (3, .int 1), (4, .int (nI mm)), (5, .ref z0)]) hx hb dX1_aheadOf_37 hl (by decide) rfl (fun ls hl => ?_)
    have loop43 : ∀ (zn : Nat) (i43 : Nat) (fa1_43 : Nat → Int32), (i43 ≤ zl) → (∀ k9 : Nat, k9 < i43 → fa1_43 k9 = fzw (if tu_35 = 0 then k9 else zl - 1 - k9)) → zl - i43 + 1 ≤ zn → ∀ (H : Heap) (locs : List Loc), va_P D vwCl [wO q0 1 [.ref q1, .ref er, .ref q2, .ref q3, .ref q4, .ref h0, .int (nI mm), .int qo], wI (cy 1) q1 5 (fy), wI (cy 1) q3 10 (fa1_43), wI (cy 1) q4 66 (fwy), (er, .inl (cy 4, 4, .inr (.inr (.inr (.inr (eF (ea 0) (ea 1) (ea 2) (ea 3))))))), wO (ea 0) 2 [.ref (eg 0), .ref (ef 0), .int (et 0), .int (nI (el 0)), .int (nI (ei 0))], wI (cy 1) (eg 0) 10 (gc 0), wI (cy 1) (ef 0) 7 (xc 0), wO (ea 2) 2 [.ref (eg 2), .ref (ef 2), .int (et 2), .int (nI (el 2)), .int (nI (ei 2))], wI (cy 1) (eg 2) 10 (gc 2), wI (cy 1) (ef 2) 7 (xc 2), wO (ea 3) 2 [.ref (eg 3), .ref (ef 3), .int (et 3), .int (nI (el 3)), .int (nI (ei 3))], wI (cy 1) (eg 3) 10 (gc 3), wI (cy 1) (ef 3) 7 (xc 3), wO z0 7 [.ref z1, .ref z2, .int (nI zl), .int zpl, .int zvo, .int zwi, .int zch], wI (cy 1) z1 10 (fzw), wO (ea 1) 2 [.ref (eg 1), .ref (ef 1), .int tu_35, .int (nI mm), .int (nI k_34)], wI (cy 1) (eg 1) 10 (fg2_36), wI (cy 1) (ef 1) 7 (ff2_37), wO h0 4 [.ref h1, .ref h2, .ref h3, .ref h4, .ref h5, .ref h6, .ref h7, .ref h8, .ref h9, .ref h10, .ref h11, hv0, hv1, hv2, hv3, hv4], wI (cy 1) h3 4 (fp), wI (cy 1) h2 8 (flo), wO h9 3 [.ref h9a, .ref h9b, .int (nI nb), .int tb], wI (cy 1) h9a 280 (fcb), wI (cy 1) h9b 31 (fsb2_38), wO h11 3 [.ref h11a, .ref h11b, .int (nI nt), .int tt], wI (cy 1) h11a 280 (fct), wI (cy 1) h11b 31 (fst2_39), wO h10 3 [.ref h10a, .ref h10b, .int (nI nl), .int tl], wI (cy 1) h10a 280 (fcl), wI (cy 1) h10b 31 (fsl2_40), wI (cy 1) h1 4 (fc), wO s0 7 [.ref s1, .ref s2, .int (nI sl), .int spl, .int svo, .int swi, .int sch], wI (cy 1) s2 4 (fsn)] H → va_D A [wO q0 1 [.ref q1, .ref er, .ref q2, .ref q3, .ref q4, .ref h0, .int (nI mm), .int qo], wI (cy 1) q1 5 (fy), wI (cy 1) q3 10 (fa1_43), wI (cy 1) q4 66 (fwy), (er, .inl (cy 4, 4, .inr (.inr (.inr (.inr (eF (ea 0) (ea 1) (ea 2) (ea 3))))))), wO (ea 0) 2 [.ref (eg 0), .ref (ef 0), .int (et 0), .int (nI (el 0)), .int (nI (ei 0))], wI (cy 1) (eg 0) 10 (gc 0), wI (cy 1) (ef 0) 7 (xc 0), wO (ea 2) 2 [.ref (eg 2), .ref (ef 2), .int (et 2), .int (nI (el 2)), .int (nI (ei 2))], wI (cy 1) (eg 2) 10 (gc 2), wI (cy 1) (ef 2) 7 (xc 2), wO (ea 3) 2 [.ref (eg 3), .ref (ef 3), .int (et 3), .int (nI (el 3)), .int (nI (ei 3))], wI (cy 1) (eg 3) 10 (gc 3), wI (cy 1) (ef 3) 7 (xc 3), wO z0 7 [.ref z1, .ref z2, .int (nI zl), .int zpl, .int zvo, .int zwi, .int zch], wI (cy 1) z1 10 (fzw), wO (ea 1) 2 [.ref (eg 1), .ref (ef 1), .int tu_35, .int (nI mm), .int (nI k_34)], wI (cy 1) (eg 1) 10 (fg2_36), wI (cy 1) (ef 1) 7 (ff2_37), wO h0 4 [.ref h1, .ref h2, .ref h3, .ref h4, .ref h5, .ref h6, .ref h7, .ref h8, .ref h9, .ref h10, .ref h11, hv0, hv1, hv2, hv3, hv4], wI (cy 1) h3 4 (fp), wI (cy 1) h2 8 (flo), wO h9 3 [.ref h9a, .ref h9b, .int (nI nb), .int tb], wI (cy 1) h9a 280 (fcb), wI (cy 1) h9b 31 (fsb2_38), wO h11 3 [.ref h11a, .ref h11b, .int (nI nt), .int tt], wI (cy 1) h11a 280 (fct), wI (cy 1) h11b 31 (fst2_39), wO h10 3 [.ref h10a, .ref h10b, .int (nI nl), .int tl], wI (cy 1) h10a 280 (fcl), wI (cy 1) h10b 31 (fsl2_40), wI (cy 1) h1 4 (fc), wO s0 7 [.ref s1, .ref s2, .int (nI sl), .int spl, .int svo, .int swi, .int sch], wI (cy 1) s2 4 (fsn)] → va_S A s.heap H locs → ∀ ls : Array Slot, lv_has ls 9 [(8, .int (nI i43)), (7, .int (nI zl)), (6, .ref (ea 1)), (0, .ref q0), (1, .ref h0), (2, .ref s0), (3, .int 1), (4, .int (nI mm)), (5, .ref z0)] → W p l e (rmk 6 0 0) s m args below meth c H locs 0 0 Q (F0 m 39 ls []) := by
      try clear hP hD hS
      intro zn
      induction zn with
      | zero => intro i43 fa1_43 _ _ hz; exact absurd hz (by omega)
      | succ zn ih43 =>
        intro i43 fa1_43 hf0_43 hf1_43 hmu43 H locs hP hD hS ls hl
        refine lv_iload hx hb dX1_aheadOf_39 (lv_at hl 0 rfl) ?_
        refine lv_iload hx hb dX1_aheadOf_41 (lv_at hl 1 rfl) ?_
        refine lv_icmp_ge (tgt := 85) hx hb dX1_aheadOf_43 (by decide) (fun c_44 => ?_) (fun c_44 => ?_)
        · have q_45 : zl ≤ i43 := q_le (a := zl) (b := i43) rfl rfl (by omega) (by omega) c_44
          refine lv_aload_n hx hb dX1_aheadOf_85 rfl (lv_at hl 3 rfl) ?_
          refine lv_aload hx hb dX1_aheadOf_86 (lv_at hl 2 rfl) ?_
          refine lv_iload hx hb dX1_aheadOf_88 (lv_at hl 1 rfl) ?_
          refine x_callVv (q := (RX1, TX1, 8)) (ci := 1) (q0 := 0) (wr := [wI (cy 1) q1 5 (fy), (er, .inl (cy 4, 4, .inr (.inr (.inr (.inr (eF (ea 0) (ea 1) (ea 2) (ea 3))))))), wO (ea 0) 2 [.ref (eg 0), .ref (ef 0), .int (et 0), .int (nI (el 0)), .int (nI (ei 0))], wI (cy 1) (eg 0) 10 (gc 0), wI (cy 1) (ef 0) 7 (xc 0), wO (ea 2) 2 [.ref (eg 2), .ref (ef 2), .int (et 2), .int (nI (el 2)), .int (nI (ei 2))], wI (cy 1) (eg 2) 10 (gc 2), wI (cy 1) (ef 2) 7 (xc 2), wO (ea 3) 2 [.ref (eg 3), .ref (ef 3), .int (et 3), .int (nI (el 3)), .int (nI (ei 3))], wI (cy 1) (eg 3) 10 (gc 3), wI (cy 1) (ef 3) 7 (xc 3), wO z0 7 [.ref z1, .ref z2, .int (nI zl), .int zpl, .int zvo, .int zwi, .int zch], wI (cy 1) z1 10 (fzw), wI (cy 1) (ef 1) 7 (ff2_37), wI (cy 1) h3 4 (fp), wI (cy 1) h2 8 (flo), wO h9 3 [.ref h9a, .ref h9b, .int (nI nb), .int tb], wI (cy 1) h9a 280 (fcb), wI (cy 1) h9b 31 (fsb2_38), wO h11 3 [.ref h11a, .ref h11b, .int (nI nt), .int tt], wI (cy 1) h11a 280 (fct), wI (cy 1) h11b 31 (fst2_39), wO h10 3 [.ref h10a, .ref h10b, .int (nI nl), .int tl], wI (cy 1) h10a 280 (fcl), wI (cy 1) h10b 31 (fsl2_40), wO s0 7 [.ref s1, .ref s2, .int (nI sl), .int spl, .int svo, .int swi, .int sch], wI (cy 1) s2 4 (fsn)]) (rest := []) ⟨hx, hb, hml, hown, hg, hl.1⟩ k_X1_104 (s_countWays l D cy q0 q1 q2 q3 q4 er mm qo fa1_43 fwy h0 h1 h2 h3 h4 h5 h6 h7 h8 h9 h10 h11 hv0 hv1 hv2 hv3 hv4 fc c0 c1 c2 c3 (ea 1) (eg 1) (ef 1) tu_35 mm k_34 fg2_36 zl (hcn) (by omega) (by omega) (by omega) (by omega) (by omega) (by omega) (by omega)) E0_blind hK hP hD hS hA [0, 2, 3, 19, 31, 16, 17] [1, 4, 5, 6, 7, 8, 9, 10, 11, 12, 13, 14, 15, 18, 20, 21, 22, 23, 24, 25, 26, 27, 28, 29, 30, 32, 33] ⟨rfl, rfl, by decide +kernel, by decide +kernel, by decide +kernel⟩ rfl rfl (fun _ _ _ => trivial) dX1_aheadOf_90 rfl rfl (Nat.le_of_ble_eq_true rfl) ⟨Nat.le_of_ble_eq_true rfl, Nat.le_of_ble_eq_true rfl⟩ ⟨Nat.le_of_ble_eq_true rfl, Nat.le_of_ble_eq_true rfl⟩ (fun zu46 H locs hw46 hP9 hD9 hS9 => ?_)
          clear hP hD hS
          obtain ⟨fwy2_47, rfl⟩ : ∃ z, z = zu46 := ⟨_, rfl⟩
          refine reW [wI (cy 1) q1 5 (fy), (er, .inl (cy 4, 4, .inr (.inr (.inr (.inr (eF (ea 0) (ea 1) (ea 2) (ea 3))))))), wO (ea 0) 2 [.ref (eg 0), .ref (ef 0), .int (et 0), .int (nI (el 0)), .int (nI (ei 0))], wI (cy 1) (eg 0) 10 (gc 0), wI (cy 1) (ef 0) 7 (xc 0), wO (ea 2) 2 [.ref (eg 2), .ref (ef 2), .int (et 2), .int (nI (el 2)), .int (nI (ei 2))], wI (cy 1) (eg 2) 10 (gc 2), wI (cy 1) (ef 2) 7 (xc 2), wO (ea 3) 2 [.ref (eg 3), .ref (ef 3), .int (et 3), .int (nI (el 3)), .int (nI (ei 3))], wI (cy 1) (eg 3) 10 (gc 3), wI (cy 1) (ef 3) 7 (xc 3), wO z0 7 [.ref z1, .ref z2, .int (nI zl), .int zpl, .int zvo, .int zwi, .int zch], wI (cy 1) z1 10 (fzw), wI (cy 1) (ef 1) 7 (ff2_37), wI (cy 1) h3 4 (fp), wI (cy 1) h2 8 (flo), wO h9 3 [.ref h9a, .ref h9b, .int (nI nb), .int tb], wI (cy 1) h9a 280 (fcb), wI (cy 1) h9b 31 (fsb2_38), wO h11 3 [.ref h11a, .ref h11b, .int (nI nt), .int tt], wI (cy 1) h11a 280 (fct), wI (cy 1) h11b 31 (fst2_39), wO h10 3 [.ref h10a, .ref h10b, .int (nI nl), .int tl], wI (cy 1) h10a 280 (fcl), wI (cy 1) h10b 31 (fsl2_40), wO s0 7 [.ref s1, .ref s2, .int (nI sl), .int spl, .int svo, .int swi, .int sch], wI (cy 1) s2 4 (fsn), wO q0 1 [.ref q1, .ref er, .ref q2, .ref q3, .ref q4, .ref h0, .int (nI mm), .int qo], wI (cy 1) q3 10 (fa1_43), wI (cy 1) q4 66 (fwy2_47), wO h0 4 [.ref h1, .ref h2, .ref h3, .ref h4, .ref h5, .ref h6, .ref h7, .ref h8, .ref h9, .ref h10, .ref h11, hv0, hv1, hv2, hv3, hv4], wI (cy 1) h1 4 (fc), wO (ea 1) 2 [.ref (eg 1), .ref (ef 1), .int tu_35, .int (nI mm), .int (nI k_34)], wI (cy 1) (eg 1) 10 (fg2_36)] hP9 hD9 hS9 (fun hP hD hS => ?_)
          clear hP9 hD9 hS9
          refine W.widen (k := 0) (n := 0) (Nat.le_of_ble_eq_true rfl) (Nat.le_of_ble_eq_true rfl) ?_
          replace hw46 : (∀ i9 j9 : Nat, i9 ≤ mm → j9 ≤ zl → fwy2_47 (i9 * 11 + j9) = nI (waD fg2_36 c0 fa1_43 zl mm (mm - i9) j9)) := hw46
          have f_48 := hw46
          refine lv_aload_n hx hb dX1_aheadOf_93 rfl (lv_at hl 3 rfl) ?_
          refine va_get (D := D) (ci := 1) (v := .ref q4) (C := RX1) (T := TX1) (N := 8) hx hb hg i_X1 hown hK hP 27 rfl rfl 4 (by decide) (hg _ m_557) (fun _ h9 => h9) rfl dX1_aheadOf_94 ?_
          refine lv_iconst (v := 0) hx hb dX1_aheadOf_97 (by decide) ?_
          refine va_iald hx hb hK hP 29 1 rfl rfl (by unfold vp_in; decide) dX1_aheadOf_98 ?_
          refine lv_topi (fun x_49 ex_49 => ?_)
          refine lv_if_le (tgt := 110) hx hb dX1_aheadOf_99 (by decide) (fun c_99 => ?_) (fun c_99 => ?_)
          · refine lv_aload_n hx hb dX1_aheadOf_110 rfl (lv_at hl 3 rfl) ?_
            refine va_get (D := D) (ci := 1) (v := .ref q4) (C := RX1) (T := TX1) (N := 8) hx hb hg i_X1 hown hK hP 27 rfl rfl 4 (by decide) (hg _ m_557) (fun _ h9 => h9) rfl dX1_aheadOf_111 ?_
            refine lv_iconst (v := 0) hx hb dX1_aheadOf_114 (by decide) ?_
            refine va_iald hx hb hK hP 29 1 rfl rfl (by unfold vp_in; decide) dX1_aheadOf_115 ?_
            refine lv_topi (fun x_50 ex_50 => ?_)
            exact x_iret hQ hx hb hr hlocks hK hP hD hS dX1_aheadOf_116 (fy, fa1_43, fwy2_47, (fun k => [et 0, tu_35, et 2, et 3].getD k 0), (fun k => [(el 0), mm, (el 2), (el 3)].getD k 0), (fun k => [(ei 0), k_34, (ei 2), (ei 3)].getD k 0), (fun k => [gc 0, fg2_36, gc 2, gc 3].getD k (fun _ => 0)), (fun k => [xc 0, ff2_37, xc 2, xc 3].getD k (fun _ => 0)), fsb2_38, fst2_39, fsl2_40) (⟨get4 (by omega) (by omega) (by omega) (by omega), (fun h9 => ah_n f_42 (by omega) (fun k9 h8 => hf1_43 k9 (by omega)) h9 (wd_z f_48 ex_50)), (fun _ h9 => (h9 (by rw [ex_50, ← ex_49]; exact c_99)).elim)⟩) [27, 0, 28, 29, 30, 14, 15, 16, 17, 18, 19, 20, 21, 22, 23, 24, 31, 1, 2, 3, 4, 32, 33, 13, 5, 6, 7, 8, 9, 10, 25, 26, 11, 12] (by decide +kernel) rfl (Nat.le_of_ble_eq_true rfl) (Nat.le_of_ble_eq_true rfl)
          · refine lv_aload_n hx hb dX1_aheadOf_102 rfl (lv_at hl 3 rfl) ?_
            refine lv_aload hx hb dX1_aheadOf_103 (lv_at hl 2 rfl) ?_
            refine lv_iload hx hb dX1_aheadOf_105 (lv_at hl 1 rfl) ?_
            refine x_callVv (q := (RX1, TX1, 8)) (ci := 1) (q0 := 0) (wr := [(er, .inl (cy 4, 4, .inr (.inr (.inr (.inr (eF (ea 0) (ea 1) (ea 2) (ea 3))))))), wO (ea 0) 2 [.ref (eg 0), .ref (ef 0), .int (et 0), .int (nI (el 0)), .int (nI (ei 0))], wI (cy 1) (eg 0) 10 (gc 0), wI (cy 1) (ef 0) 7 (xc 0), wO (ea 2) 2 [.ref (eg 2), .ref (ef 2), .int (et 2), .int (nI (el 2)), .int (nI (ei 2))], wI (cy 1) (eg 2) 10 (gc 2), wI (cy 1) (ef 2) 7 (xc 2), wO (ea 3) 2 [.ref (eg 3), .ref (ef 3), .int (et 3), .int (nI (el 3)), .int (nI (ei 3))], wI (cy 1) (eg 3) 10 (gc 3), wI (cy 1) (ef 3) 7 (xc 3), wO z0 7 [.ref z1, .ref z2, .int (nI zl), .int zpl, .int zvo, .int zwi, .int zch], wI (cy 1) z1 10 (fzw), wI (cy 1) (ef 1) 7 (ff2_37), wI (cy 1) h3 4 (fp), wI (cy 1) h2 8 (flo), wO h9 3 [.ref h9a, .ref h9b, .int (nI nb), .int tb], wI (cy 1) h9a 280 (fcb), wI (cy 1) h9b 31 (fsb2_38), wO h11 3 [.ref h11a, .ref h11b, .int (nI nt), .int tt], wI (cy 1) h11a 280 (fct), wI (cy 1) h11b 31 (fst2_39), wO h10 3 [.ref h10a, .ref h10b, .int (nI nl), .int tl], wI (cy 1) h10a 280 (fcl), wI (cy 1) h10b 31 (fsl2_40), wO s0 7 [.ref s1, .ref s2, .int (nI sl), .int spl, .int svo, .int swi, .int sch], wI (cy 1) s2 4 (fsn)]) (rest := []) ⟨hx, hb, hml, hown, hg, hl.1⟩ k_X1_108 (s_followWays l D cy q0 q1 q2 q3 q4 er mm qo fy fa1_43 fwy2_47 h0 h1 h2 h3 h4 h5 h6 h7 h8 h9 h10 h11 hv0 hv1 hv2 hv3 hv4 fc c0 c1 c2 c3 (ea 1) (eg 1) (ef 1) tu_35 mm k_34 fg2_36 zl (hcn) (by omega) (by omega) (by omega) (by omega) (by omega) (by omega) (f_48)) E0_blind hK hP hD hS hA [27, 0, 28, 29, 30, 31, 32, 33] [1, 2, 3, 4, 5, 6, 7, 8, 9, 10, 11, 12, 13, 14, 15, 16, 17, 18, 19, 20, 21, 22, 23, 24, 25, 26] ⟨rfl, rfl, by decide +kernel, by decide +kernel, by decide +kernel⟩ rfl rfl (fun _ _ _ => trivial) dX1_aheadOf_107 rfl rfl (Nat.le_of_ble_eq_true rfl) ⟨Nat.le_of_ble_eq_true rfl, Nat.le_of_ble_eq_true rfl⟩ ⟨Nat.le_of_ble_eq_true rfl, Nat.le_of_ble_eq_true rfl⟩ (fun zu51 H locs hw51 hP9 hD9 hS9 => ?_)
            clear hP hD hS
            obtain ⟨fy2_52, rfl⟩ : ∃ z, z = zu51 := ⟨_, rfl⟩
            refine reW [(er, .inl (cy 4, 4, .inr (.inr (.inr (.inr (eF (ea 0) (ea 1) (ea 2) (ea 3))))))), wO (ea 0) 2 [.ref (eg 0), .ref (ef 0), .int (et 0), .int (nI (el 0)), .int (nI (ei 0))], wI (cy 1) (eg 0) 10 (gc 0), wI (cy 1) (ef 0) 7 (xc 0), wO (ea 2) 2 [.ref (eg 2), .ref (ef 2), .int (et 2), .int (nI (el 2)), .int (nI (ei 2))], wI (cy 1) (eg 2) 10 (gc 2), wI (cy 1) (ef 2) 7 (xc 2), wO (ea 3) 2 [.ref (eg 3), .ref (ef 3), .int (et 3), .int (nI (el 3)), .int (nI (ei 3))], wI (cy 1) (eg 3) 10 (gc 3), wI (cy 1) (ef 3) 7 (xc 3), wO z0 7 [.ref z1, .ref z2, .int (nI zl), .int zpl, .int zvo, .int zwi, .int zch], wI (cy 1) z1 10 (fzw), wI (cy 1) (ef 1) 7 (ff2_37), wI (cy 1) h3 4 (fp), wI (cy 1) h2 8 (flo), wO h9 3 [.ref h9a, .ref h9b, .int (nI nb), .int tb], wI (cy 1) h9a 280 (fcb), wI (cy 1) h9b 31 (fsb2_38), wO h11 3 [.ref h11a, .ref h11b, .int (nI nt), .int tt], wI (cy 1) h11a 280 (fct), wI (cy 1) h11b 31 (fst2_39), wO h10 3 [.ref h10a, .ref h10b, .int (nI nl), .int tl], wI (cy 1) h10a 280 (fcl), wI (cy 1) h10b 31 (fsl2_40), wO s0 7 [.ref s1, .ref s2, .int (nI sl), .int spl, .int svo, .int swi, .int sch], wI (cy 1) s2 4 (fsn), wO q0 1 [.ref q1, .ref er, .ref q2, .ref q3, .ref q4, .ref h0, .int (nI mm), .int qo], wI (cy 1) q1 5 (fy2_52), wI (cy 1) q3 10 (fa1_43), wI (cy 1) q4 66 (fwy2_47), wO h0 4 [.ref h1, .ref h2, .ref h3, .ref h4, .ref h5, .ref h6, .ref h7, .ref h8, .ref h9, .ref h10, .ref h11, hv0, hv1, hv2, hv3, hv4], wI (cy 1) h1 4 (fc), wO (ea 1) 2 [.ref (eg 1), .ref (ef 1), .int tu_35, .int (nI mm), .int (nI k_34)], wI (cy 1) (eg 1) 10 (fg2_36)] hP9 hD9 hS9 (fun hP hD hS => ?_)
            clear hP9 hD9 hS9
            refine W.widen (k := 0) (n := 0) (Nat.le_of_ble_eq_true rfl) (Nat.le_of_ble_eq_true rfl) ?_
            replace hw51 : (okW c0 fa1_43 zl → 0 < waD fg2_36 c0 fa1_43 zl mm mm 0 → fdP (wtP fg2_36 fa1_43 zl mm) c0 mm mm (fun _ => 0) = some (tr9 mm fy2_52)) := hw51
            have f_53 := hw51
            refine lv_aload_n hx hb dX1_aheadOf_110 rfl (lv_at hl 3 rfl) ?_
            refine va_get (D := D) (ci := 1) (v := .ref q4) (C := RX1) (T := TX1) (N := 8) hx hb hg i_X1 hown hK hP 26 rfl rfl 4 (by decide) (hg _ m_557) (fun _ h9 => h9) rfl dX1_aheadOf_111 ?_
            refine lv_iconst (v := 0) hx hb dX1_aheadOf_114 (by decide) ?_
            refine va_iald hx hb hK hP 29 1 rfl rfl (by unfold vp_in; decide) dX1_aheadOf_115 ?_
            refine lv_topi (fun x_54 ex_54 => ?_)
            exact x_iret hQ hx hb hr hlocks hK hP hD hS dX1_aheadOf_116 (fy2_52, fa1_43, fwy2_47, (fun k => [et 0, tu_35, et 2, et 3].getD k 0), (fun k => [(el 0), mm, (el 2), (el 3)].getD k 0), (fun k => [(ei 0), k_34, (ei 2), (ei 3)].getD k 0), (fun k => [gc 0, fg2_36, gc 2, gc 3].getD k (fun _ => 0)), (fun k => [xc 0, ff2_37, xc 2, xc 3].getD k (fun _ => 0)), fsb2_38, fst2_39, fsl2_40) (⟨get4 (by omega) (by omega) (by omega) (by omega), (fun h9 => ah_n f_42 (by omega) (fun k9 h8 => hf1_43 k9 (by omega)) h9 (wd_z f_48 ex_54)), (fun h9 _ => ah_f f_42 (by omega) (fun k9 h8 => hf1_43 k9 (by omega)) h9 ((fw_z (by omega) (by omega) (wd_z f_48 ex_49)).2 c_99) f_53)⟩) [26, 27, 28, 29, 30, 13, 14, 15, 16, 17, 18, 19, 20, 21, 22, 23, 31, 0, 1, 2, 3, 32, 33, 12, 4, 5, 6, 7, 8, 9, 24, 25, 10, 11] (by decide +kernel) rfl (Nat.le_of_ble_eq_true rfl) (Nat.le_of_ble_eq_true rfl)
        · have q_45 : i43 < zl := q_nle (a := zl) (b := i43) rfl rfl (by omega) (by omega) c_44
          refine lv_aload_n hx hb dX1_aheadOf_46 rfl (lv_at hl 3 rfl) ?_
          refine va_get (D := D) (ci := 1) (v := .ref q3) (C := RX1) (T := TX1) (N := 8) hx hb hg i_X1 hown hK hP 0 rfl rfl 3 (by decide) (hg _ m_556) (fun _ h9 => h9) rfl dX1_aheadOf_47 ?_
          refine lv_iload hx hb dX1_aheadOf_50 (lv_at hl 0 rfl) ?_
          refine lv_aload hx hb dX1_aheadOf_52 (lv_at hl 8 rfl) ?_
          refine va_get (D := D) (ci := 7) (v := .ref z1) (C := RX7) (T := TX7) (N := 7) hx hb hg i_X7 hown hK hP 14 rfl rfl 0 (by decide) (hg _ m_623) (fun _ h9 => h9) rfl dX1_aheadOf_54 ?_
          refine lv_aload hx hb dX1_aheadOf_57 (lv_at hl 2 rfl) ?_
          refine va_get (D := D) (ci := 2) (v := .int tu_35) (C := RX2) (T := TX2) (N := 5) hx hb hg i_X2 hown hK hP 16 rfl rfl 2 (by decide) (hg _ m_517) (fun _ h9 => h9) rfl dX1_aheadOf_59 ?_
          refine lv_if_eq (tgt := 75) hx hb dX1_aheadOf_62 (by decide) (fun c_62 => ?_) (fun c_62 => ?_)
          · refine lv_iload hx hb dX1_aheadOf_75 (lv_at hl 0 rfl) ?_
            refine va_iald hx hb hK hP 15 1 rfl rfl (vp_in_nI (by omega) (by decide)) dX1_aheadOf_77 ?_
            refine lv_topi (fun x_55 ex_55 => ?_)
            refine va_iast hx hb hK hP hD hS 2 1 rfl rfl (vp_in_nI (by omega) (by decide)) dX1_aheadOf_78 (fun H locs hP9 hD9 hS9 => ?_)
            clear hP hD hS
            obtain ⟨g_56, eg_56⟩ : ∃ y, upd fa1_43 (nI i43 : Int32).toNatClampNeg x_55 = y := ⟨_, rfl⟩
            rw [eg_56] at hP9 hD9
            refine reW [wO q0 1 [.ref q1, .ref er, .ref q2, .ref q3, .ref q4, .ref h0, .int (nI mm), .int qo], wI (cy 1) q1 5 (fy), wI (cy 1) q3 10 (g_56), wI (cy 1) q4 66 (fwy), (er, .inl (cy 4, 4, .inr (.inr (.inr (.inr (eF (ea 0) (ea 1) (ea 2) (ea 3))))))), wO (ea 0) 2 [.ref (eg 0), .ref (ef 0), .int (et 0), .int (nI (el 0)), .int (nI (ei 0))], wI (cy 1) (eg 0) 10 (gc 0), wI (cy 1) (ef 0) 7 (xc 0), wO (ea 2) 2 [.ref (eg 2), .ref (ef 2), .int (et 2), .int (nI (el 2)), .int (nI (ei 2))], wI (cy 1) (eg 2) 10 (gc 2), wI (cy 1) (ef 2) 7 (xc 2), wO (ea 3) 2 [.ref (eg 3), .ref (ef 3), .int (et 3), .int (nI (el 3)), .int (nI (ei 3))], wI (cy 1) (eg 3) 10 (gc 3), wI (cy 1) (ef 3) 7 (xc 3), wO z0 7 [.ref z1, .ref z2, .int (nI zl), .int zpl, .int zvo, .int zwi, .int zch], wI (cy 1) z1 10 (fzw), wO (ea 1) 2 [.ref (eg 1), .ref (ef 1), .int tu_35, .int (nI mm), .int (nI k_34)], wI (cy 1) (eg 1) 10 (fg2_36), wI (cy 1) (ef 1) 7 (ff2_37), wO h0 4 [.ref h1, .ref h2, .ref h3, .ref h4, .ref h5, .ref h6, .ref h7, .ref h8, .ref h9, .ref h10, .ref h11, hv0, hv1, hv2, hv3, hv4], wI (cy 1) h3 4 (fp), wI (cy 1) h2 8 (flo), wO h9 3 [.ref h9a, .ref h9b, .int (nI nb), .int tb], wI (cy 1) h9a 280 (fcb), wI (cy 1) h9b 31 (fsb2_38), wO h11 3 [.ref h11a, .ref h11b, .int (nI nt), .int tt], wI (cy 1) h11a 280 (fct), wI (cy 1) h11b 31 (fst2_39), wO h10 3 [.ref h10a, .ref h10b, .int (nI nl), .int tl], wI (cy 1) h10a 280 (fcl), wI (cy 1) h10b 31 (fsl2_40), wI (cy 1) h1 4 (fc), wO s0 7 [.ref s1, .ref s2, .int (nI sl), .int spl, .int svo, .int swi, .int sch], wI (cy 1) s2 4 (fsn)] hP9 hD9 hS9 (fun hP hD hS => ?_)
            clear hP9 hD9 hS9
            refine lv_iinc (v := nI (i43 + 1)) (lv' := [(8, .int (nI (i43 + 1))), (7, .int (nI zl)), (6, .ref (ea 1)), (0, .ref q0), (1, .ref h0), (2, .ref s0), (3, .int 1), (4, .int (nI mm)), (5, .ref z0)]) hx hb dX1_aheadOf_79 hl (k := 0) rfl (nI_add i43 1) (by decide) rfl (fun ls hl => ?_)
            refine lv_goto (tgt := 39) hx hb dX1_aheadOf_82 (by decide) ?_
            exact ih43  ((i43 + 1)) g_56 (by omega) (wn_put (v := i43) hf1_43 (by omega) (by omega) ex_55 eg_56 (if_pos c_62).symm) (by omega) _ _ (hP.sub [0, 1, 2, 3, 4, 5, 6, 7, 8, 9, 10, 11, 12, 13, 14, 15, 16, 17, 18, 19, 20, 21, 22, 23, 24, 25, 26, 27, 28, 29, 30, 31, 32, 33] rfl) (hD.sub [0, 1, 2, 3, 4, 5, 6, 7, 8, 9, 10, 11, 12, 13, 14, 15, 16, 17, 18, 19, 20, 21, 22, 23, 24, 25, 26, 27, 28, 29, 30, 31, 32, 33] (by decide +kernel) rfl) hS ls (lv_sub hl [0, 1, 2, 3, 4, 5, 6, 7, 8] rfl)
          · refine lv_iload hx hb dX1_aheadOf_65 (lv_at hl 1 rfl) ?_
            refine lv_iconst (v := 1) hx hb dX1_aheadOf_67 (by decide) ?_
            refine lv_isub hx hb dX1_aheadOf_68 ?_
            refine lv_topi (fun y_57 hy_57 => ?_)
            obtain rfl : y_57 = nI (zl - 1) := hy_57.trans (pk_sub (a := zl) (b := 1) (by omega))
            refine lv_iload hx hb dX1_aheadOf_69 (lv_at hl 0 rfl) ?_
            refine lv_isub hx hb dX1_aheadOf_71 ?_
            refine lv_topi (fun y_58 hy_58 => ?_)
            obtain rfl : y_58 = nI ((zl - 1) - i43) := hy_58.trans (pk_sub (a := (zl - 1)) (b := i43) (by omega))
            refine lv_goto (tgt := 77) hx hb dX1_aheadOf_72 (by decide) ?_
            refine va_iald hx hb hK hP 15 1 rfl rfl (vp_in_nI (by omega) (by decide)) dX1_aheadOf_77 ?_
            refine lv_topi (fun x_59 ex_59 => ?_)
            refine va_iast hx hb hK hP hD hS 2 1 rfl rfl (vp_in_nI (by omega) (by decide)) dX1_aheadOf_78 (fun H locs hP9 hD9 hS9 => ?_)
            clear hP hD hS
            obtain ⟨g_60, eg_60⟩ : ∃ y, upd fa1_43 (nI i43 : Int32).toNatClampNeg x_59 = y := ⟨_, rfl⟩
            rw [eg_60] at hP9 hD9
            refine reW [wO q0 1 [.ref q1, .ref er, .ref q2, .ref q3, .ref q4, .ref h0, .int (nI mm), .int qo], wI (cy 1) q1 5 (fy), wI (cy 1) q3 10 (g_60), wI (cy 1) q4 66 (fwy), (er, .inl (cy 4, 4, .inr (.inr (.inr (.inr (eF (ea 0) (ea 1) (ea 2) (ea 3))))))), wO (ea 0) 2 [.ref (eg 0), .ref (ef 0), .int (et 0), .int (nI (el 0)), .int (nI (ei 0))], wI (cy 1) (eg 0) 10 (gc 0), wI (cy 1) (ef 0) 7 (xc 0), wO (ea 2) 2 [.ref (eg 2), .ref (ef 2), .int (et 2), .int (nI (el 2)), .int (nI (ei 2))], wI (cy 1) (eg 2) 10 (gc 2), wI (cy 1) (ef 2) 7 (xc 2), wO (ea 3) 2 [.ref (eg 3), .ref (ef 3), .int (et 3), .int (nI (el 3)), .int (nI (ei 3))], wI (cy 1) (eg 3) 10 (gc 3), wI (cy 1) (ef 3) 7 (xc 3), wO z0 7 [.ref z1, .ref z2, .int (nI zl), .int zpl, .int zvo, .int zwi, .int zch], wI (cy 1) z1 10 (fzw), wO (ea 1) 2 [.ref (eg 1), .ref (ef 1), .int tu_35, .int (nI mm), .int (nI k_34)], wI (cy 1) (eg 1) 10 (fg2_36), wI (cy 1) (ef 1) 7 (ff2_37), wO h0 4 [.ref h1, .ref h2, .ref h3, .ref h4, .ref h5, .ref h6, .ref h7, .ref h8, .ref h9, .ref h10, .ref h11, hv0, hv1, hv2, hv3, hv4], wI (cy 1) h3 4 (fp), wI (cy 1) h2 8 (flo), wO h9 3 [.ref h9a, .ref h9b, .int (nI nb), .int tb], wI (cy 1) h9a 280 (fcb), wI (cy 1) h9b 31 (fsb2_38), wO h11 3 [.ref h11a, .ref h11b, .int (nI nt), .int tt], wI (cy 1) h11a 280 (fct), wI (cy 1) h11b 31 (fst2_39), wO h10 3 [.ref h10a, .ref h10b, .int (nI nl), .int tl], wI (cy 1) h10a 280 (fcl), wI (cy 1) h10b 31 (fsl2_40), wI (cy 1) h1 4 (fc), wO s0 7 [.ref s1, .ref s2, .int (nI sl), .int spl, .int svo, .int swi, .int sch], wI (cy 1) s2 4 (fsn)] hP9 hD9 hS9 (fun hP hD hS => ?_)
            clear hP9 hD9 hS9
            refine lv_iinc (v := nI (i43 + 1)) (lv' := [(8, .int (nI (i43 + 1))), (7, .int (nI zl)), (6, .ref (ea 1)), (0, .ref q0), (1, .ref h0), (2, .ref s0), (3, .int 1), (4, .int (nI mm)), (5, .ref z0)]) hx hb dX1_aheadOf_79 hl (k := 0) rfl (nI_add i43 1) (by decide) rfl (fun ls hl => ?_)
            refine lv_goto (tgt := 39) hx hb dX1_aheadOf_82 (by decide) ?_
            exact ih43  ((i43 + 1)) g_60 (by omega) (wn_put (v := (((zl - 1) - i43))) hf1_43 (by omega) (by omega) ex_59 eg_60 (if_neg c_62).symm) (by omega) _ _ (hP.sub [0, 1, 2, 3, 4, 5, 6, 7, 8, 9, 10, 11, 12, 13, 14, 15, 16, 17, 18, 19, 20, 21, 22, 23, 24, 25, 26, 27, 28, 29, 30, 31, 32, 33] rfl) (hD.sub [0, 1, 2, 3, 4, 5, 6, 7, 8, 9, 10, 11, 12, 13, 14, 15, 16, 17, 18, 19, 20, 21, 22, 23, 24, 25, 26, 27, 28, 29, 30, 31, 32, 33] (by decide +kernel) rfl) hS ls (lv_sub hl [0, 1, 2, 3, 4, 5, 6, 7, 8] rfl)
    exact loop43 _ 0 fwa (by omega) (fun k9 h9 => absurd h9 (Nat.not_lt_zero k9)) (Nat.le_refl _) _ _ (hP.sub [0, 1, 2, 3, 4, 5, 6, 7, 8, 9, 10, 11, 12, 13, 14, 15, 16, 17, 18, 19, 20, 21, 22, 23, 24, 25, 26, 27, 28, 29, 30, 31, 32, 33] rfl) (hD.sub [0, 1, 2, 3, 4, 5, 6, 7, 8, 9, 10, 11, 12, 13, 14, 15, 16, 17, 18, 19, 20, 21, 22, 23, 24, 25, 26, 27, 28, 29, 30, 31, 32, 33] (by decide +kernel) rfl) hS ls (lv_sub hl [0, 1, 2, 3, 4, 5, 6, 7, 8] rfl)
  · subst hsp
    refine va_aldq hx hb hK hP 17 4 rfl rfl (by unfold vp_in; decide) dX1_aheadOf_16 ?_
    refine W.eq (g2 := F0 m 17 ls [.ref (ea 2)]) rfl ?_
    refine lv_astore (lv' := [(6, .ref (ea 2)), (0, .ref q0), (1, .ref h0), (2, .ref s0), (3, .int 2), (4, .int (nI mm)), (5, .ref z0)]) hx hb dX1_aheadOf_17 hl (by decide) rfl (fun ls hl => ?_)
    refine lv_aload hx hb dX1_aheadOf_19 (lv_at hl 0 rfl) ?_
    refine lv_aload_n hx hb dX1_aheadOf_21 rfl (lv_at hl 2 rfl) ?_
    refine lv_aload_n hx hb dX1_aheadOf_22 rfl (lv_at hl 3 rfl) ?_
    refine lv_iload_n hx hb dX1_aheadOf_23 rfl (lv_at hl 4 rfl) ?_
    refine lv_iload hx hb dX1_aheadOf_24 (lv_at hl 5 rfl) ?_
    refine x_callVv (q := (RX2, TX2, 5)) (ci := 2) (q0 := 0) (wr := [wO q0 1 [.ref q1, .ref er, .ref q2, .ref q3, .ref q4, .ref h0, .int (nI mm), .int qo], wI (cy 1) q1 5 (fy), wI (cy 1) q3 10 (fwa), wI (cy 1) q4 66 (fwy), (er, .inl (cy 4, 4, .inr (.inr (.inr (.inr (eF (ea 0) (ea 1) (ea 2) (ea 3))))))), wO (ea 0) 2 [.ref (eg 0), .ref (ef 0), .int (et 0), .int (nI (el 0)), .int (nI (ei 0))], wI (cy 1) (eg 0) 10 (gc 0), wI (cy 1) (ef 0) 7 (xc 0), wO (ea 1) 2 [.ref (eg 1), .ref (ef 1), .int (et 1), .int (nI (el 1)), .int (nI (ei 1))], wI (cy 1) (eg 1) 10 (gc 1), wI (cy 1) (ef 1) 7 (xc 1), wO (ea 3) 2 [.ref (eg 3), .ref (ef 3), .int (et 3), .int (nI (el 3)), .int (nI (ei 3))], wI (cy 1) (eg 3) 10 (gc 3), wI (cy 1) (ef 3) 7 (xc 3), wO z0 7 [.ref z1, .ref z2, .int (nI zl), .int zpl, .int zvo, .int zwi, .int zch], wI (cy 1) z1 10 (fzw)]) (rest := []) ⟨hx, hb, hml, hown, hg, hl.1⟩ k_X1_48 (s_tuneToAll l D cy (ea 2) (eg 2) (ef 2) (et 2) (nI (el 2)) (nI (ei 2)) (gc 2) (xc 2) h0 h1 h2 h3 h4 h5 h6 h7 h8 h9 h10 h11 hv0 hv1 hv2 hv3 hv4 fp flo h9a h9b nb tb fcb fsb h11a h11b nt tt fct fst h10a h10b nl tl fcl fsl fc c0 c1 c2 c3 s0 s1 s2 sl spl svo swi sch fsn 2 mm (by omega) (hcb) (by omega) (by omega) (hct) (by omega) (by omega) (hcl) (by omega) (hcn) (by omega) (by omega) (by omega) (by omega) (by omega) (by omega)) E0_blind hK hP hD hS hA [24, 25, 26, 4, 5, 6, 7, 8, 9, 10, 11, 12, 13, 14, 15, 16, 30, 31] [0, 1, 2, 3, 17, 18, 19, 20, 21, 22, 23, 27, 28, 29, 32, 33] ⟨rfl, rfl, by decide +kernel, by decide +kernel, by decide +kernel⟩ rfl rfl (fun _ _ _ => trivial) dX1_aheadOf_26 rfl rfl (Nat.le_of_ble_eq_true rfl) ⟨Nat.le_of_ble_eq_true rfl, Nat.le_of_ble_eq_true rfl⟩ ⟨Nat.le_of_ble_eq_true rfl, Nat.le_of_ble_eq_true rfl⟩ (fun zu61 H locs hw61 hP9 hD9 hS9 => ?_)
    clear hP hD hS
    obtain ⟨k_62, tu_63, fg2_64, ff2_65, fsb2_66, fst2_67, fsl2_68⟩ := zu61
    refine reW [wO q0 1 [.ref q1, .ref er, .ref q2, .ref q3, .ref q4, .ref h0, .int (nI mm), .int qo], wI (cy 1) q1 5 (fy), wI (cy 1) q3 10 (fwa), wI (cy 1) q4 66 (fwy), (er, .inl (cy 4, 4, .inr (.inr (.inr (.inr (eF (ea 0) (ea 1) (ea 2) (ea 3))))))), wO (ea 0) 2 [.ref (eg 0), .ref (ef 0), .int (et 0), .int (nI (el 0)), .int (nI (ei 0))], wI (cy 1) (eg 0) 10 (gc 0), wI (cy 1) (ef 0) 7 (xc 0), wO (ea 1) 2 [.ref (eg 1), .ref (ef 1), .int (et 1), .int (nI (el 1)), .int (nI (ei 1))], wI (cy 1) (eg 1) 10 (gc 1), wI (cy 1) (ef 1) 7 (xc 1), wO (ea 3) 2 [.ref (eg 3), .ref (ef 3), .int (et 3), .int (nI (el 3)), .int (nI (ei 3))], wI (cy 1) (eg 3) 10 (gc 3), wI (cy 1) (ef 3) 7 (xc 3), wO z0 7 [.ref z1, .ref z2, .int (nI zl), .int zpl, .int zvo, .int zwi, .int zch], wI (cy 1) z1 10 (fzw), wO (ea 2) 2 [.ref (eg 2), .ref (ef 2), .int tu_63, .int (nI mm), .int (nI k_62)], wI (cy 1) (eg 2) 10 (fg2_64), wI (cy 1) (ef 2) 7 (ff2_65), wO h0 4 [.ref h1, .ref h2, .ref h3, .ref h4, .ref h5, .ref h6, .ref h7, .ref h8, .ref h9, .ref h10, .ref h11, hv0, hv1, hv2, hv3, hv4], wI (cy 1) h3 4 (fp), wI (cy 1) h2 8 (flo), wO h9 3 [.ref h9a, .ref h9b, .int (nI nb), .int tb], wI (cy 1) h9a 280 (fcb), wI (cy 1) h9b 31 (fsb2_66), wO h11 3 [.ref h11a, .ref h11b, .int (nI nt), .int tt], wI (cy 1) h11a 280 (fct), wI (cy 1) h11b 31 (fst2_67), wO h10 3 [.ref h10a, .ref h10b, .int (nI nl), .int tl], wI (cy 1) h10a 280 (fcl), wI (cy 1) h10b 31 (fsl2_68), wI (cy 1) h1 4 (fc), wO s0 7 [.ref s1, .ref s2, .int (nI sl), .int spl, .int svo, .int swi, .int sch], wI (cy 1) s2 4 (fsn)] hP9 hD9 hS9 (fun hP hD hS => ?_)
    clear hP9 hD9 hS9
    refine W.widen (k := 0) (n := 0) (Nat.le_of_ble_eq_true rfl) (Nat.le_of_ble_eq_true rfl) ?_
    replace hw61 : (k_62 ≤ mm) ∧ (eaO (vlC tb fcb nb 3) (vlC tl fcl nl 0) (vlC tt fct nt 0) flo (farC spl (fp 2)) swi (fsn 2) svo sch c0 mm tu_63 k_62 fg2_64) := hw61
    obtain ⟨f_69, f_70⟩ := hw61
    refine lv_aload hx hb dX1_aheadOf_29 (lv_at hl 6 rfl) ?_
    refine va_get (D := D) (ci := 7) (v := .int (nI zl)) (C := RX7) (T := TX7) (N := 7) hx hb hg i_X7 hown hK hP 14 rfl rfl 2 (by decide) (hg _ m_631) (fun _ h9 => h9) rfl dX1_aheadOf_31 ?_
    refine lv_istore (lv' := [(7, .int (nI zl)), (6, .ref (ea 2)), (0, .ref q0), (1, .ref h0), (2, .ref s0), (3, .int 2), (4, .int (nI mm)), (5, .ref z0)]) hx hb dX1_aheadOf_34 hl (by decide) rfl (fun ls hl => ?_)
    refine lv_iconst (v := 0) hx hb dX1_aheadOf_36 (by decide) ?_
    refine lv_istore (lv' := [(8, .int 0), (7, .int (nI zl)), (6, .ref (ea 2)), (0, .ref q0), (1, .ref h0), (2, .ref s0), (3, .int 2), (4, .int (nI mm)), (5, .ref z0)]) hx hb dX1_aheadOf_37 hl (by decide) rfl (fun ls hl => ?_)
    have loop71 : ∀ (zn : Nat) (i71 : Nat) (fa1_71 : Nat → Int32), (i71 ≤ zl) → (∀ k9 : Nat, k9 < i71 → fa1_71 k9 = fzw (if tu_63 = 0 then k9 else zl - 1 - k9)) → zl - i71 + 1 ≤ zn → ∀ (H : Heap) (locs : List Loc), va_P D vwCl [wO q0 1 [.ref q1, .ref er, .ref q2, .ref q3, .ref q4, .ref h0, .int (nI mm), .int qo], wI (cy 1) q1 5 (fy), wI (cy 1) q3 10 (fa1_71), wI (cy 1) q4 66 (fwy), (er, .inl (cy 4, 4, .inr (.inr (.inr (.inr (eF (ea 0) (ea 1) (ea 2) (ea 3))))))), wO (ea 0) 2 [.ref (eg 0), .ref (ef 0), .int (et 0), .int (nI (el 0)), .int (nI (ei 0))], wI (cy 1) (eg 0) 10 (gc 0), wI (cy 1) (ef 0) 7 (xc 0), wO (ea 1) 2 [.ref (eg 1), .ref (ef 1), .int (et 1), .int (nI (el 1)), .int (nI (ei 1))], wI (cy 1) (eg 1) 10 (gc 1), wI (cy 1) (ef 1) 7 (xc 1), wO (ea 3) 2 [.ref (eg 3), .ref (ef 3), .int (et 3), .int (nI (el 3)), .int (nI (ei 3))], wI (cy 1) (eg 3) 10 (gc 3), wI (cy 1) (ef 3) 7 (xc 3), wO z0 7 [.ref z1, .ref z2, .int (nI zl), .int zpl, .int zvo, .int zwi, .int zch], wI (cy 1) z1 10 (fzw), wO (ea 2) 2 [.ref (eg 2), .ref (ef 2), .int tu_63, .int (nI mm), .int (nI k_62)], wI (cy 1) (eg 2) 10 (fg2_64), wI (cy 1) (ef 2) 7 (ff2_65), wO h0 4 [.ref h1, .ref h2, .ref h3, .ref h4, .ref h5, .ref h6, .ref h7, .ref h8, .ref h9, .ref h10, .ref h11, hv0, hv1, hv2, hv3, hv4], wI (cy 1) h3 4 (fp), wI (cy 1) h2 8 (flo), wO h9 3 [.ref h9a, .ref h9b, .int (nI nb), .int tb], wI (cy 1) h9a 280 (fcb), wI (cy 1) h9b 31 (fsb2_66), wO h11 3 [.ref h11a, .ref h11b, .int (nI nt), .int tt], wI (cy 1) h11a 280 (fct), wI (cy 1) h11b 31 (fst2_67), wO h10 3 [.ref h10a, .ref h10b, .int (nI nl), .int tl], wI (cy 1) h10a 280 (fcl), wI (cy 1) h10b 31 (fsl2_68), wI (cy 1) h1 4 (fc), wO s0 7 [.ref s1, .ref s2, .int (nI sl), .int spl, .int svo, .int swi, .int sch], wI (cy 1) s2 4 (fsn)] H → va_D A [wO q0 1 [.ref q1, .ref er, .ref q2, .ref q3, .ref q4, .ref h0, .int (nI mm), .int qo], wI (cy 1) q1 5 (fy), wI (cy 1) q3 10 (fa1_71), wI (cy 1) q4 66 (fwy), (er, .inl (cy 4, 4, .inr (.inr (.inr (.inr (eF (ea 0) (ea 1) (ea 2) (ea 3))))))), wO (ea 0) 2 [.ref (eg 0), .ref (ef 0), .int (et 0), .int (nI (el 0)), .int (nI (ei 0))], wI (cy 1) (eg 0) 10 (gc 0), wI (cy 1) (ef 0) 7 (xc 0), wO (ea 1) 2 [.ref (eg 1), .ref (ef 1), .int (et 1), .int (nI (el 1)), .int (nI (ei 1))], wI (cy 1) (eg 1) 10 (gc 1), wI (cy 1) (ef 1) 7 (xc 1), wO (ea 3) 2 [.ref (eg 3), .ref (ef 3), .int (et 3), .int (nI (el 3)), .int (nI (ei 3))], wI (cy 1) (eg 3) 10 (gc 3), wI (cy 1) (ef 3) 7 (xc 3), wO z0 7 [.ref z1, .ref z2, .int (nI zl), .int zpl, .int zvo, .int zwi, .int zch], wI (cy 1) z1 10 (fzw), wO (ea 2) 2 [.ref (eg 2), .ref (ef 2), .int tu_63, .int (nI mm), .int (nI k_62)], wI (cy 1) (eg 2) 10 (fg2_64), wI (cy 1) (ef 2) 7 (ff2_65), wO h0 4 [.ref h1, .ref h2, .ref h3, .ref h4, .ref h5, .ref h6, .ref h7, .ref h8, .ref h9, .ref h10, .ref h11, hv0, hv1, hv2, hv3, hv4], wI (cy 1) h3 4 (fp), wI (cy 1) h2 8 (flo), wO h9 3 [.ref h9a, .ref h9b, .int (nI nb), .int tb], wI (cy 1) h9a 280 (fcb), wI (cy 1) h9b 31 (fsb2_66), wO h11 3 [.ref h11a, .ref h11b, .int (nI nt), .int tt], wI (cy 1) h11a 280 (fct), wI (cy 1) h11b 31 (fst2_67), wO h10 3 [.ref h10a, .ref h10b, .int (nI nl), .int tl], wI (cy 1) h10a 280 (fcl), wI (cy 1) h10b 31 (fsl2_68), wI (cy 1) h1 4 (fc), wO s0 7 [.ref s1, .ref s2, .int (nI sl), .int spl, .int svo, .int swi, .int sch], wI (cy 1) s2 4 (fsn)] → va_S A s.heap H locs → ∀ ls : Array Slot, lv_has ls 9 [(8, .int (nI i71)), (7, .int (nI zl)), (6, .ref (ea 2)), (0, .ref q0), (1, .ref h0), (2, .ref s0), (3, .int 2), (4, .int (nI mm)), (5, .ref z0)] → W p l e (rmk 6 0 0) s m args below meth c H locs 0 0 Q (F0 m 39 ls []) := by
      try clear hP hD hS
      intro zn
      induction zn with
      | zero => intro i71 fa1_71 _ _ hz; exact absurd hz (by omega)
      | succ zn ih71 =>
        intro i71 fa1_71 hf0_71 hf1_71 hmu71 H locs hP hD hS ls hl
        refine lv_iload hx hb dX1_aheadOf_39 (lv_at hl 0 rfl) ?_
        refine lv_iload hx hb dX1_aheadOf_41 (lv_at hl 1 rfl) ?_
        refine lv_icmp_ge (tgt := 85) hx hb dX1_aheadOf_43 (by decide) (fun c_72 => ?_) (fun c_72 => ?_)
        · have q_73 : zl ≤ i71 := q_le (a := zl) (b := i71) rfl rfl (by omega) (by omega) c_72
          refine lv_aload_n hx hb dX1_aheadOf_85 rfl (lv_at hl 3 rfl) ?_
          refine lv_aload hx hb dX1_aheadOf_86 (lv_at hl 2 rfl) ?_
          refine lv_iload hx hb dX1_aheadOf_88 (lv_at hl 1 rfl) ?_
          refine x_callVv (q := (RX1, TX1, 8)) (ci := 1) (q0 := 0) (wr := [wI (cy 1) q1 5 (fy), (er, .inl (cy 4, 4, .inr (.inr (.inr (.inr (eF (ea 0) (ea 1) (ea 2) (ea 3))))))), wO (ea 0) 2 [.ref (eg 0), .ref (ef 0), .int (et 0), .int (nI (el 0)), .int (nI (ei 0))], wI (cy 1) (eg 0) 10 (gc 0), wI (cy 1) (ef 0) 7 (xc 0), wO (ea 1) 2 [.ref (eg 1), .ref (ef 1), .int (et 1), .int (nI (el 1)), .int (nI (ei 1))], wI (cy 1) (eg 1) 10 (gc 1), wI (cy 1) (ef 1) 7 (xc 1), wO (ea 3) 2 [.ref (eg 3), .ref (ef 3), .int (et 3), .int (nI (el 3)), .int (nI (ei 3))], wI (cy 1) (eg 3) 10 (gc 3), wI (cy 1) (ef 3) 7 (xc 3), wO z0 7 [.ref z1, .ref z2, .int (nI zl), .int zpl, .int zvo, .int zwi, .int zch], wI (cy 1) z1 10 (fzw), wI (cy 1) (ef 2) 7 (ff2_65), wI (cy 1) h3 4 (fp), wI (cy 1) h2 8 (flo), wO h9 3 [.ref h9a, .ref h9b, .int (nI nb), .int tb], wI (cy 1) h9a 280 (fcb), wI (cy 1) h9b 31 (fsb2_66), wO h11 3 [.ref h11a, .ref h11b, .int (nI nt), .int tt], wI (cy 1) h11a 280 (fct), wI (cy 1) h11b 31 (fst2_67), wO h10 3 [.ref h10a, .ref h10b, .int (nI nl), .int tl], wI (cy 1) h10a 280 (fcl), wI (cy 1) h10b 31 (fsl2_68), wO s0 7 [.ref s1, .ref s2, .int (nI sl), .int spl, .int svo, .int swi, .int sch], wI (cy 1) s2 4 (fsn)]) (rest := []) ⟨hx, hb, hml, hown, hg, hl.1⟩ k_X1_104 (s_countWays l D cy q0 q1 q2 q3 q4 er mm qo fa1_71 fwy h0 h1 h2 h3 h4 h5 h6 h7 h8 h9 h10 h11 hv0 hv1 hv2 hv3 hv4 fc c0 c1 c2 c3 (ea 2) (eg 2) (ef 2) tu_63 mm k_62 fg2_64 zl (hcn) (by omega) (by omega) (by omega) (by omega) (by omega) (by omega) (by omega)) E0_blind hK hP hD hS hA [0, 2, 3, 19, 31, 16, 17] [1, 4, 5, 6, 7, 8, 9, 10, 11, 12, 13, 14, 15, 18, 20, 21, 22, 23, 24, 25, 26, 27, 28, 29, 30, 32, 33] ⟨rfl, rfl, by decide +kernel, by decide +kernel, by decide +kernel⟩ rfl rfl (fun _ _ _ => trivial) dX1_aheadOf_90 rfl rfl (Nat.le_of_ble_eq_true rfl) ⟨Nat.le_of_ble_eq_true rfl, Nat.le_of_ble_eq_true rfl⟩ ⟨Nat.le_of_ble_eq_true rfl, Nat.le_of_ble_eq_true rfl⟩ (fun zu74 H locs hw74 hP9 hD9 hS9 => ?_)
          clear hP hD hS
          obtain ⟨fwy2_75, rfl⟩ : ∃ z, z = zu74 := ⟨_, rfl⟩
          refine reW [wI (cy 1) q1 5 (fy), (er, .inl (cy 4, 4, .inr (.inr (.inr (.inr (eF (ea 0) (ea 1) (ea 2) (ea 3))))))), wO (ea 0) 2 [.ref (eg 0), .ref (ef 0), .int (et 0), .int (nI (el 0)), .int (nI (ei 0))], wI (cy 1) (eg 0) 10 (gc 0), wI (cy 1) (ef 0) 7 (xc 0), wO (ea 1) 2 [.ref (eg 1), .ref (ef 1), .int (et 1), .int (nI (el 1)), .int (nI (ei 1))], wI (cy 1) (eg 1) 10 (gc 1), wI (cy 1) (ef 1) 7 (xc 1), wO (ea 3) 2 [.ref (eg 3), .ref (ef 3), .int (et 3), .int (nI (el 3)), .int (nI (ei 3))], wI (cy 1) (eg 3) 10 (gc 3), wI (cy 1) (ef 3) 7 (xc 3), wO z0 7 [.ref z1, .ref z2, .int (nI zl), .int zpl, .int zvo, .int zwi, .int zch], wI (cy 1) z1 10 (fzw), wI (cy 1) (ef 2) 7 (ff2_65), wI (cy 1) h3 4 (fp), wI (cy 1) h2 8 (flo), wO h9 3 [.ref h9a, .ref h9b, .int (nI nb), .int tb], wI (cy 1) h9a 280 (fcb), wI (cy 1) h9b 31 (fsb2_66), wO h11 3 [.ref h11a, .ref h11b, .int (nI nt), .int tt], wI (cy 1) h11a 280 (fct), wI (cy 1) h11b 31 (fst2_67), wO h10 3 [.ref h10a, .ref h10b, .int (nI nl), .int tl], wI (cy 1) h10a 280 (fcl), wI (cy 1) h10b 31 (fsl2_68), wO s0 7 [.ref s1, .ref s2, .int (nI sl), .int spl, .int svo, .int swi, .int sch], wI (cy 1) s2 4 (fsn), wO q0 1 [.ref q1, .ref er, .ref q2, .ref q3, .ref q4, .ref h0, .int (nI mm), .int qo], wI (cy 1) q3 10 (fa1_71), wI (cy 1) q4 66 (fwy2_75), wO h0 4 [.ref h1, .ref h2, .ref h3, .ref h4, .ref h5, .ref h6, .ref h7, .ref h8, .ref h9, .ref h10, .ref h11, hv0, hv1, hv2, hv3, hv4], wI (cy 1) h1 4 (fc), wO (ea 2) 2 [.ref (eg 2), .ref (ef 2), .int tu_63, .int (nI mm), .int (nI k_62)], wI (cy 1) (eg 2) 10 (fg2_64)] hP9 hD9 hS9 (fun hP hD hS => ?_)
          clear hP9 hD9 hS9
          refine W.widen (k := 0) (n := 0) (Nat.le_of_ble_eq_true rfl) (Nat.le_of_ble_eq_true rfl) ?_
          replace hw74 : (∀ i9 j9 : Nat, i9 ≤ mm → j9 ≤ zl → fwy2_75 (i9 * 11 + j9) = nI (waD fg2_64 c0 fa1_71 zl mm (mm - i9) j9)) := hw74
          have f_76 := hw74
          refine lv_aload_n hx hb dX1_aheadOf_93 rfl (lv_at hl 3 rfl) ?_
          refine va_get (D := D) (ci := 1) (v := .ref q4) (C := RX1) (T := TX1) (N := 8) hx hb hg i_X1 hown hK hP 27 rfl rfl 4 (by decide) (hg _ m_557) (fun _ h9 => h9) rfl dX1_aheadOf_94 ?_
          refine lv_iconst (v := 0) hx hb dX1_aheadOf_97 (by decide) ?_
          refine va_iald hx hb hK hP 29 1 rfl rfl (by unfold vp_in; decide) dX1_aheadOf_98 ?_
          refine lv_topi (fun x_77 ex_77 => ?_)
          refine lv_if_le (tgt := 110) hx hb dX1_aheadOf_99 (by decide) (fun c_99 => ?_) (fun c_99 => ?_)
          · refine lv_aload_n hx hb dX1_aheadOf_110 rfl (lv_at hl 3 rfl) ?_
            refine va_get (D := D) (ci := 1) (v := .ref q4) (C := RX1) (T := TX1) (N := 8) hx hb hg i_X1 hown hK hP 27 rfl rfl 4 (by decide) (hg _ m_557) (fun _ h9 => h9) rfl dX1_aheadOf_111 ?_
            refine lv_iconst (v := 0) hx hb dX1_aheadOf_114 (by decide) ?_
            refine va_iald hx hb hK hP 29 1 rfl rfl (by unfold vp_in; decide) dX1_aheadOf_115 ?_
            refine lv_topi (fun x_78 ex_78 => ?_)
            exact x_iret hQ hx hb hr hlocks hK hP hD hS dX1_aheadOf_116 (fy, fa1_71, fwy2_75, (fun k => [et 0, et 1, tu_63, et 3].getD k 0), (fun k => [(el 0), (el 1), mm, (el 3)].getD k 0), (fun k => [(ei 0), (ei 1), k_62, (ei 3)].getD k 0), (fun k => [gc 0, gc 1, fg2_64, gc 3].getD k (fun _ => 0)), (fun k => [xc 0, xc 1, ff2_65, xc 3].getD k (fun _ => 0)), fsb2_66, fst2_67, fsl2_68) (⟨get4 (by omega) (by omega) (by omega) (by omega), (fun h9 => ah_n f_70 (by omega) (fun k9 h8 => hf1_71 k9 (by omega)) h9 (wd_z f_76 ex_78)), (fun _ h9 => (h9 (by rw [ex_78, ← ex_77]; exact c_99)).elim)⟩) [27, 0, 28, 29, 30, 14, 15, 16, 17, 18, 19, 20, 21, 22, 23, 24, 31, 1, 2, 3, 4, 5, 6, 7, 32, 33, 13, 8, 9, 10, 25, 26, 11, 12] (by decide +kernel) rfl (Nat.le_of_ble_eq_true rfl) (Nat.le_of_ble_eq_true rfl)
          · refine lv_aload_n hx hb dX1_aheadOf_102 rfl (lv_at hl 3 rfl) ?_
            refine lv_aload hx hb dX1_aheadOf_103 (lv_at hl 2 rfl) ?_
            refine lv_iload hx hb dX1_aheadOf_105 (lv_at hl 1 rfl) ?_
            refine x_callVv (q := (RX1, TX1, 8)) (ci := 1) (q0 := 0) (wr := [(er, .inl (cy 4, 4, .inr (.inr (.inr (.inr (eF (ea 0) (ea 1) (ea 2) (ea 3))))))), wO (ea 0) 2 [.ref (eg 0), .ref (ef 0), .int (et 0), .int (nI (el 0)), .int (nI (ei 0))], wI (cy 1) (eg 0) 10 (gc 0), wI (cy 1) (ef 0) 7 (xc 0), wO (ea 1) 2 [.ref (eg 1), .ref (ef 1), .int (et 1), .int (nI (el 1)), .int (nI (ei 1))], wI (cy 1) (eg 1) 10 (gc 1), wI (cy 1) (ef 1) 7 (xc 1), wO (ea 3) 2 [.ref (eg 3), .ref (ef 3), .int (et 3), .int (nI (el 3)), .int (nI (ei 3))], wI (cy 1) (eg 3) 10 (gc 3), wI (cy 1) (ef 3) 7 (xc 3), wO z0 7 [.ref z1, .ref z2, .int (nI zl), .int zpl, .int zvo, .int zwi, .int zch], wI (cy 1) z1 10 (fzw), wI (cy 1) (ef 2) 7 (ff2_65), wI (cy 1) h3 4 (fp), wI (cy 1) h2 8 (flo), wO h9 3 [.ref h9a, .ref h9b, .int (nI nb), .int tb], wI (cy 1) h9a 280 (fcb), wI (cy 1) h9b 31 (fsb2_66), wO h11 3 [.ref h11a, .ref h11b, .int (nI nt), .int tt], wI (cy 1) h11a 280 (fct), wI (cy 1) h11b 31 (fst2_67), wO h10 3 [.ref h10a, .ref h10b, .int (nI nl), .int tl], wI (cy 1) h10a 280 (fcl), wI (cy 1) h10b 31 (fsl2_68), wO s0 7 [.ref s1, .ref s2, .int (nI sl), .int spl, .int svo, .int swi, .int sch], wI (cy 1) s2 4 (fsn)]) (rest := []) ⟨hx, hb, hml, hown, hg, hl.1⟩ k_X1_108 (s_followWays l D cy q0 q1 q2 q3 q4 er mm qo fy fa1_71 fwy2_75 h0 h1 h2 h3 h4 h5 h6 h7 h8 h9 h10 h11 hv0 hv1 hv2 hv3 hv4 fc c0 c1 c2 c3 (ea 2) (eg 2) (ef 2) tu_63 mm k_62 fg2_64 zl (hcn) (by omega) (by omega) (by omega) (by omega) (by omega) (by omega) (f_76)) E0_blind hK hP hD hS hA [27, 0, 28, 29, 30, 31, 32, 33] [1, 2, 3, 4, 5, 6, 7, 8, 9, 10, 11, 12, 13, 14, 15, 16, 17, 18, 19, 20, 21, 22, 23, 24, 25, 26] ⟨rfl, rfl, by decide +kernel, by decide +kernel, by decide +kernel⟩ rfl rfl (fun _ _ _ => trivial) dX1_aheadOf_107 rfl rfl (Nat.le_of_ble_eq_true rfl) ⟨Nat.le_of_ble_eq_true rfl, Nat.le_of_ble_eq_true rfl⟩ ⟨Nat.le_of_ble_eq_true rfl, Nat.le_of_ble_eq_true rfl⟩ (fun zu79 H locs hw79 hP9 hD9 hS9 => ?_)
            clear hP hD hS
            obtain ⟨fy2_80, rfl⟩ : ∃ z, z = zu79 := ⟨_, rfl⟩
            refine reW [(er, .inl (cy 4, 4, .inr (.inr (.inr (.inr (eF (ea 0) (ea 1) (ea 2) (ea 3))))))), wO (ea 0) 2 [.ref (eg 0), .ref (ef 0), .int (et 0), .int (nI (el 0)), .int (nI (ei 0))], wI (cy 1) (eg 0) 10 (gc 0), wI (cy 1) (ef 0) 7 (xc 0), wO (ea 1) 2 [.ref (eg 1), .ref (ef 1), .int (et 1), .int (nI (el 1)), .int (nI (ei 1))], wI (cy 1) (eg 1) 10 (gc 1), wI (cy 1) (ef 1) 7 (xc 1), wO (ea 3) 2 [.ref (eg 3), .ref (ef 3), .int (et 3), .int (nI (el 3)), .int (nI (ei 3))], wI (cy 1) (eg 3) 10 (gc 3), wI (cy 1) (ef 3) 7 (xc 3), wO z0 7 [.ref z1, .ref z2, .int (nI zl), .int zpl, .int zvo, .int zwi, .int zch], wI (cy 1) z1 10 (fzw), wI (cy 1) (ef 2) 7 (ff2_65), wI (cy 1) h3 4 (fp), wI (cy 1) h2 8 (flo), wO h9 3 [.ref h9a, .ref h9b, .int (nI nb), .int tb], wI (cy 1) h9a 280 (fcb), wI (cy 1) h9b 31 (fsb2_66), wO h11 3 [.ref h11a, .ref h11b, .int (nI nt), .int tt], wI (cy 1) h11a 280 (fct), wI (cy 1) h11b 31 (fst2_67), wO h10 3 [.ref h10a, .ref h10b, .int (nI nl), .int tl], wI (cy 1) h10a 280 (fcl), wI (cy 1) h10b 31 (fsl2_68), wO s0 7 [.ref s1, .ref s2, .int (nI sl), .int spl, .int svo, .int swi, .int sch], wI (cy 1) s2 4 (fsn), wO q0 1 [.ref q1, .ref er, .ref q2, .ref q3, .ref q4, .ref h0, .int (nI mm), .int qo], wI (cy 1) q1 5 (fy2_80), wI (cy 1) q3 10 (fa1_71), wI (cy 1) q4 66 (fwy2_75), wO h0 4 [.ref h1, .ref h2, .ref h3, .ref h4, .ref h5, .ref h6, .ref h7, .ref h8, .ref h9, .ref h10, .ref h11, hv0, hv1, hv2, hv3, hv4], wI (cy 1) h1 4 (fc), wO (ea 2) 2 [.ref (eg 2), .ref (ef 2), .int tu_63, .int (nI mm), .int (nI k_62)], wI (cy 1) (eg 2) 10 (fg2_64)] hP9 hD9 hS9 (fun hP hD hS => ?_)
            clear hP9 hD9 hS9
            refine W.widen (k := 0) (n := 0) (Nat.le_of_ble_eq_true rfl) (Nat.le_of_ble_eq_true rfl) ?_
            replace hw79 : (okW c0 fa1_71 zl → 0 < waD fg2_64 c0 fa1_71 zl mm mm 0 → fdP (wtP fg2_64 fa1_71 zl mm) c0 mm mm (fun _ => 0) = some (tr9 mm fy2_80)) := hw79
            have f_81 := hw79
            refine lv_aload_n hx hb dX1_aheadOf_110 rfl (lv_at hl 3 rfl) ?_
            refine va_get (D := D) (ci := 1) (v := .ref q4) (C := RX1) (T := TX1) (N := 8) hx hb hg i_X1 hown hK hP 26 rfl rfl 4 (by decide) (hg _ m_557) (fun _ h9 => h9) rfl dX1_aheadOf_111 ?_
            refine lv_iconst (v := 0) hx hb dX1_aheadOf_114 (by decide) ?_
            refine va_iald hx hb hK hP 29 1 rfl rfl (by unfold vp_in; decide) dX1_aheadOf_115 ?_
            refine lv_topi (fun x_82 ex_82 => ?_)
            exact x_iret hQ hx hb hr hlocks hK hP hD hS dX1_aheadOf_116 (fy2_80, fa1_71, fwy2_75, (fun k => [et 0, et 1, tu_63, et 3].getD k 0), (fun k => [(el 0), (el 1), mm, (el 3)].getD k 0), (fun k => [(ei 0), (ei 1), k_62, (ei 3)].getD k 0), (fun k => [gc 0, gc 1, fg2_64, gc 3].getD k (fun _ => 0)), (fun k => [xc 0, xc 1, ff2_65, xc 3].getD k (fun _ => 0)), fsb2_66, fst2_67, fsl2_68) (⟨get4 (by omega) (by omega) (by omega) (by omega), (fun h9 => ah_n f_70 (by omega) (fun k9 h8 => hf1_71 k9 (by omega)) h9 (wd_z f_76 ex_82)), (fun h9 _ => ah_f f_70 (by omega) (fun k9 h8 => hf1_71 k9 (by omega)) h9 ((fw_z (by omega) (by omega) (wd_z f_76 ex_77)).2 c_99) f_81)⟩) [26, 27, 28, 29, 30, 13, 14, 15, 16, 17, 18, 19, 20, 21, 22, 23, 31, 0, 1, 2, 3, 4, 5, 6, 32, 33, 12, 7, 8, 9, 24, 25, 10, 11] (by decide +kernel) rfl (Nat.le_of_ble_eq_true rfl) (Nat.le_of_ble_eq_true rfl)
        · have q_73 : i71 < zl := q_nle (a := zl) (b := i71) rfl rfl (by omega) (by omega) c_72
          refine lv_aload_n hx hb dX1_aheadOf_46 rfl (lv_at hl 3 rfl) ?_
          refine va_get (D := D) (ci := 1) (v := .ref q3) (C := RX1) (T := TX1) (N := 8) hx hb hg i_X1 hown hK hP 0 rfl rfl 3 (by decide) (hg _ m_556) (fun _ h9 => h9) rfl dX1_aheadOf_47 ?_
          refine lv_iload hx hb dX1_aheadOf_50 (lv_at hl 0 rfl) ?_
          refine lv_aload hx hb dX1_aheadOf_52 (lv_at hl 8 rfl) ?_
          refine va_get (D := D) (ci := 7) (v := .ref z1) (C := RX7) (T := TX7) (N := 7) hx hb hg i_X7 hown hK hP 14 rfl rfl 0 (by decide) (hg _ m_623) (fun _ h9 => h9) rfl dX1_aheadOf_54 ?_
          refine lv_aload hx hb dX1_aheadOf_57 (lv_at hl 2 rfl) ?_
          refine va_get (D := D) (ci := 2) (v := .int tu_63) (C := RX2) (T := TX2) (N := 5) hx hb hg i_X2 hown hK hP 16 rfl rfl 2 (by decide) (hg _ m_517) (fun _ h9 => h9) rfl dX1_aheadOf_59 ?_
          refine lv_if_eq (tgt := 75) hx hb dX1_aheadOf_62 (by decide) (fun c_62 => ?_) (fun c_62 => ?_)
          · refine lv_iload hx hb dX1_aheadOf_75 (lv_at hl 0 rfl) ?_
            refine va_iald hx hb hK hP 15 1 rfl rfl (vp_in_nI (by omega) (by decide)) dX1_aheadOf_77 ?_
            refine lv_topi (fun x_83 ex_83 => ?_)
            refine va_iast hx hb hK hP hD hS 2 1 rfl rfl (vp_in_nI (by omega) (by decide)) dX1_aheadOf_78 (fun H locs hP9 hD9 hS9 => ?_)
            clear hP hD hS
            obtain ⟨g_84, eg_84⟩ : ∃ y, upd fa1_71 (nI i71 : Int32).toNatClampNeg x_83 = y := ⟨_, rfl⟩
            rw [eg_84] at hP9 hD9
            refine reW [wO q0 1 [.ref q1, .ref er, .ref q2, .ref q3, .ref q4, .ref h0, .int (nI mm), .int qo], wI (cy 1) q1 5 (fy), wI (cy 1) q3 10 (g_84), wI (cy 1) q4 66 (fwy), (er, .inl (cy 4, 4, .inr (.inr (.inr (.inr (eF (ea 0) (ea 1) (ea 2) (ea 3))))))), wO (ea 0) 2 [.ref (eg 0), .ref (ef 0), .int (et 0), .int (nI (el 0)), .int (nI (ei 0))], wI (cy 1) (eg 0) 10 (gc 0), wI (cy 1) (ef 0) 7 (xc 0), wO (ea 1) 2 [.ref (eg 1), .ref (ef 1), .int (et 1), .int (nI (el 1)), .int (nI (ei 1))], wI (cy 1) (eg 1) 10 (gc 1), wI (cy 1) (ef 1) 7 (xc 1), wO (ea 3) 2 [.ref (eg 3), .ref (ef 3), .int (et 3), .int (nI (el 3)), .int (nI (ei 3))], wI (cy 1) (eg 3) 10 (gc 3), wI (cy 1) (ef 3) 7 (xc 3), wO z0 7 [.ref z1, .ref z2, .int (nI zl), .int zpl, .int zvo, .int zwi, .int zch], wI (cy 1) z1 10 (fzw), wO (ea 2) 2 [.ref (eg 2), .ref (ef 2), .int tu_63, .int (nI mm), .int (nI k_62)], wI (cy 1) (eg 2) 10 (fg2_64), wI (cy 1) (ef 2) 7 (ff2_65), wO h0 4 [.ref h1, .ref h2, .ref h3, .ref h4, .ref h5, .ref h6, .ref h7, .ref h8, .ref h9, .ref h10, .ref h11, hv0, hv1, hv2, hv3, hv4], wI (cy 1) h3 4 (fp), wI (cy 1) h2 8 (flo), wO h9 3 [.ref h9a, .ref h9b, .int (nI nb), .int tb], wI (cy 1) h9a 280 (fcb), wI (cy 1) h9b 31 (fsb2_66), wO h11 3 [.ref h11a, .ref h11b, .int (nI nt), .int tt], wI (cy 1) h11a 280 (fct), wI (cy 1) h11b 31 (fst2_67), wO h10 3 [.ref h10a, .ref h10b, .int (nI nl), .int tl], wI (cy 1) h10a 280 (fcl), wI (cy 1) h10b 31 (fsl2_68), wI (cy 1) h1 4 (fc), wO s0 7 [.ref s1, .ref s2, .int (nI sl), .int spl, .int svo, .int swi, .int sch], wI (cy 1) s2 4 (fsn)] hP9 hD9 hS9 (fun hP hD hS => ?_)
            clear hP9 hD9 hS9
            refine lv_iinc (v := nI (i71 + 1)) (lv' := [(8, .int (nI (i71 + 1))), (7, .int (nI zl)), (6, .ref (ea 2)), (0, .ref q0), (1, .ref h0), (2, .ref s0), (3, .int 2), (4, .int (nI mm)), (5, .ref z0)]) hx hb dX1_aheadOf_79 hl (k := 0) rfl (nI_add i71 1) (by decide) rfl (fun ls hl => ?_)
            refine lv_goto (tgt := 39) hx hb dX1_aheadOf_82 (by decide) ?_
            exact ih71  ((i71 + 1)) g_84 (by omega) (wn_put (v := i71) hf1_71 (by omega) (by omega) ex_83 eg_84 (if_pos c_62).symm) (by omega) _ _ (hP.sub [0, 1, 2, 3, 4, 5, 6, 7, 8, 9, 10, 11, 12, 13, 14, 15, 16, 17, 18, 19, 20, 21, 22, 23, 24, 25, 26, 27, 28, 29, 30, 31, 32, 33] rfl) (hD.sub [0, 1, 2, 3, 4, 5, 6, 7, 8, 9, 10, 11, 12, 13, 14, 15, 16, 17, 18, 19, 20, 21, 22, 23, 24, 25, 26, 27, 28, 29, 30, 31, 32, 33] (by decide +kernel) rfl) hS ls (lv_sub hl [0, 1, 2, 3, 4, 5, 6, 7, 8] rfl)
          · refine lv_iload hx hb dX1_aheadOf_65 (lv_at hl 1 rfl) ?_
            refine lv_iconst (v := 1) hx hb dX1_aheadOf_67 (by decide) ?_
            refine lv_isub hx hb dX1_aheadOf_68 ?_
            refine lv_topi (fun y_85 hy_85 => ?_)
            obtain rfl : y_85 = nI (zl - 1) := hy_85.trans (pk_sub (a := zl) (b := 1) (by omega))
            refine lv_iload hx hb dX1_aheadOf_69 (lv_at hl 0 rfl) ?_
            refine lv_isub hx hb dX1_aheadOf_71 ?_
            refine lv_topi (fun y_86 hy_86 => ?_)
            obtain rfl : y_86 = nI ((zl - 1) - i71) := hy_86.trans (pk_sub (a := (zl - 1)) (b := i71) (by omega))
            refine lv_goto (tgt := 77) hx hb dX1_aheadOf_72 (by decide) ?_
            refine va_iald hx hb hK hP 15 1 rfl rfl (vp_in_nI (by omega) (by decide)) dX1_aheadOf_77 ?_
            refine lv_topi (fun x_87 ex_87 => ?_)
            refine va_iast hx hb hK hP hD hS 2 1 rfl rfl (vp_in_nI (by omega) (by decide)) dX1_aheadOf_78 (fun H locs hP9 hD9 hS9 => ?_)
            clear hP hD hS
            obtain ⟨g_88, eg_88⟩ : ∃ y, upd fa1_71 (nI i71 : Int32).toNatClampNeg x_87 = y := ⟨_, rfl⟩
            rw [eg_88] at hP9 hD9
            refine reW [wO q0 1 [.ref q1, .ref er, .ref q2, .ref q3, .ref q4, .ref h0, .int (nI mm), .int qo], wI (cy 1) q1 5 (fy), wI (cy 1) q3 10 (g_88), wI (cy 1) q4 66 (fwy), (er, .inl (cy 4, 4, .inr (.inr (.inr (.inr (eF (ea 0) (ea 1) (ea 2) (ea 3))))))), wO (ea 0) 2 [.ref (eg 0), .ref (ef 0), .int (et 0), .int (nI (el 0)), .int (nI (ei 0))], wI (cy 1) (eg 0) 10 (gc 0), wI (cy 1) (ef 0) 7 (xc 0), wO (ea 1) 2 [.ref (eg 1), .ref (ef 1), .int (et 1), .int (nI (el 1)), .int (nI (ei 1))], wI (cy 1) (eg 1) 10 (gc 1), wI (cy 1) (ef 1) 7 (xc 1), wO (ea 3) 2 [.ref (eg 3), .ref (ef 3), .int (et 3), .int (nI (el 3)), .int (nI (ei 3))], wI (cy 1) (eg 3) 10 (gc 3), wI (cy 1) (ef 3) 7 (xc 3), wO z0 7 [.ref z1, .ref z2, .int (nI zl), .int zpl, .int zvo, .int zwi, .int zch], wI (cy 1) z1 10 (fzw), wO (ea 2) 2 [.ref (eg 2), .ref (ef 2), .int tu_63, .int (nI mm), .int (nI k_62)], wI (cy 1) (eg 2) 10 (fg2_64), wI (cy 1) (ef 2) 7 (ff2_65), wO h0 4 [.ref h1, .ref h2, .ref h3, .ref h4, .ref h5, .ref h6, .ref h7, .ref h8, .ref h9, .ref h10, .ref h11, hv0, hv1, hv2, hv3, hv4], wI (cy 1) h3 4 (fp), wI (cy 1) h2 8 (flo), wO h9 3 [.ref h9a, .ref h9b, .int (nI nb), .int tb], wI (cy 1) h9a 280 (fcb), wI (cy 1) h9b 31 (fsb2_66), wO h11 3 [.ref h11a, .ref h11b, .int (nI nt), .int tt], wI (cy 1) h11a 280 (fct), wI (cy 1) h11b 31 (fst2_67), wO h10 3 [.ref h10a, .ref h10b, .int (nI nl), .int tl], wI (cy 1) h10a 280 (fcl), wI (cy 1) h10b 31 (fsl2_68), wI (cy 1) h1 4 (fc), wO s0 7 [.ref s1, .ref s2, .int (nI sl), .int spl, .int svo, .int swi, .int sch], wI (cy 1) s2 4 (fsn)] hP9 hD9 hS9 (fun hP hD hS => ?_)
            clear hP9 hD9 hS9
            refine lv_iinc (v := nI (i71 + 1)) (lv' := [(8, .int (nI (i71 + 1))), (7, .int (nI zl)), (6, .ref (ea 2)), (0, .ref q0), (1, .ref h0), (2, .ref s0), (3, .int 2), (4, .int (nI mm)), (5, .ref z0)]) hx hb dX1_aheadOf_79 hl (k := 0) rfl (nI_add i71 1) (by decide) rfl (fun ls hl => ?_)
            refine lv_goto (tgt := 39) hx hb dX1_aheadOf_82 (by decide) ?_
            exact ih71  ((i71 + 1)) g_88 (by omega) (wn_put (v := (((zl - 1) - i71))) hf1_71 (by omega) (by omega) ex_87 eg_88 (if_neg c_62).symm) (by omega) _ _ (hP.sub [0, 1, 2, 3, 4, 5, 6, 7, 8, 9, 10, 11, 12, 13, 14, 15, 16, 17, 18, 19, 20, 21, 22, 23, 24, 25, 26, 27, 28, 29, 30, 31, 32, 33] rfl) (hD.sub [0, 1, 2, 3, 4, 5, 6, 7, 8, 9, 10, 11, 12, 13, 14, 15, 16, 17, 18, 19, 20, 21, 22, 23, 24, 25, 26, 27, 28, 29, 30, 31, 32, 33] (by decide +kernel) rfl) hS ls (lv_sub hl [0, 1, 2, 3, 4, 5, 6, 7, 8] rfl)
    exact loop71 _ 0 fwa (by omega) (fun k9 h9 => absurd h9 (Nat.not_lt_zero k9)) (Nat.le_refl _) _ _ (hP.sub [0, 1, 2, 3, 4, 5, 6, 7, 8, 9, 10, 11, 12, 13, 14, 15, 16, 17, 18, 19, 20, 21, 22, 23, 24, 25, 26, 27, 28, 29, 30, 31, 32, 33] rfl) (hD.sub [0, 1, 2, 3, 4, 5, 6, 7, 8, 9, 10, 11, 12, 13, 14, 15, 16, 17, 18, 19, 20, 21, 22, 23, 24, 25, 26, 27, 28, 29, 30, 31, 32, 33] (by decide +kernel) rfl) hS ls (lv_sub hl [0, 1, 2, 3, 4, 5, 6, 7, 8] rfl)
  · subst hsp
    refine va_aldq hx hb hK hP 17 4 rfl rfl (by unfold vp_in; decide) dX1_aheadOf_16 ?_
    refine W.eq (g2 := F0 m 17 ls [.ref (ea 3)]) rfl ?_
    refine lv_astore (lv' := [(6, .ref (ea 3)), (0, .ref q0), (1, .ref h0), (2, .ref s0), (3, .int 3), (4, .int (nI mm)), (5, .ref z0)]) hx hb dX1_aheadOf_17 hl (by decide) rfl (fun ls hl => ?_)
    refine lv_aload hx hb dX1_aheadOf_19 (lv_at hl 0 rfl) ?_
    refine lv_aload_n hx hb dX1_aheadOf_21 rfl (lv_at hl 2 rfl) ?_
    refine lv_aload_n hx hb dX1_aheadOf_22 rfl (lv_at hl 3 rfl) ?_
    refine lv_iload_n hx hb dX1_aheadOf_23 rfl (lv_at hl 4 rfl) ?_
    refine lv_iload hx hb dX1_aheadOf_24 (lv_at hl 5 rfl) ?_
    refine x_callVv (q := (RX2, TX2, 5)) (ci := 2) (q0 := 0) (wr := [wO q0 1 [.ref q1, .ref er, .ref q2, .ref q3, .ref q4, .ref h0, .int (nI mm), .int qo], wI (cy 1) q1 5 (fy), wI (cy 1) q3 10 (fwa), wI (cy 1) q4 66 (fwy), (er, .inl (cy 4, 4, .inr (.inr (.inr (.inr (eF (ea 0) (ea 1) (ea 2) (ea 3))))))), wO (ea 0) 2 [.ref (eg 0), .ref (ef 0), .int (et 0), .int (nI (el 0)), .int (nI (ei 0))], wI (cy 1) (eg 0) 10 (gc 0), wI (cy 1) (ef 0) 7 (xc 0), wO (ea 1) 2 [.ref (eg 1), .ref (ef 1), .int (et 1), .int (nI (el 1)), .int (nI (ei 1))], wI (cy 1) (eg 1) 10 (gc 1), wI (cy 1) (ef 1) 7 (xc 1), wO (ea 2) 2 [.ref (eg 2), .ref (ef 2), .int (et 2), .int (nI (el 2)), .int (nI (ei 2))], wI (cy 1) (eg 2) 10 (gc 2), wI (cy 1) (ef 2) 7 (xc 2), wO z0 7 [.ref z1, .ref z2, .int (nI zl), .int zpl, .int zvo, .int zwi, .int zch], wI (cy 1) z1 10 (fzw)]) (rest := []) ⟨hx, hb, hml, hown, hg, hl.1⟩ k_X1_48 (s_tuneToAll l D cy (ea 3) (eg 3) (ef 3) (et 3) (nI (el 3)) (nI (ei 3)) (gc 3) (xc 3) h0 h1 h2 h3 h4 h5 h6 h7 h8 h9 h10 h11 hv0 hv1 hv2 hv3 hv4 fp flo h9a h9b nb tb fcb fsb h11a h11b nt tt fct fst h10a h10b nl tl fcl fsl fc c0 c1 c2 c3 s0 s1 s2 sl spl svo swi sch fsn 3 mm (by omega) (hcb) (by omega) (by omega) (hct) (by omega) (by omega) (hcl) (by omega) (hcn) (by omega) (by omega) (by omega) (by omega) (by omega) (by omega)) E0_blind hK hP hD hS hA [27, 28, 29, 4, 5, 6, 7, 8, 9, 10, 11, 12, 13, 14, 15, 16, 30, 31] [0, 1, 2, 3, 17, 18, 19, 20, 21, 22, 23, 24, 25, 26, 32, 33] ⟨rfl, rfl, by decide +kernel, by decide +kernel, by decide +kernel⟩ rfl rfl (fun _ _ _ => trivial) dX1_aheadOf_26 rfl rfl (Nat.le_of_ble_eq_true rfl) ⟨Nat.le_of_ble_eq_true rfl, Nat.le_of_ble_eq_true rfl⟩ ⟨Nat.le_of_ble_eq_true rfl, Nat.le_of_ble_eq_true rfl⟩ (fun zu89 H locs hw89 hP9 hD9 hS9 => ?_)
    clear hP hD hS
    obtain ⟨k_90, tu_91, fg2_92, ff2_93, fsb2_94, fst2_95, fsl2_96⟩ := zu89
    refine reW [wO q0 1 [.ref q1, .ref er, .ref q2, .ref q3, .ref q4, .ref h0, .int (nI mm), .int qo], wI (cy 1) q1 5 (fy), wI (cy 1) q3 10 (fwa), wI (cy 1) q4 66 (fwy), (er, .inl (cy 4, 4, .inr (.inr (.inr (.inr (eF (ea 0) (ea 1) (ea 2) (ea 3))))))), wO (ea 0) 2 [.ref (eg 0), .ref (ef 0), .int (et 0), .int (nI (el 0)), .int (nI (ei 0))], wI (cy 1) (eg 0) 10 (gc 0), wI (cy 1) (ef 0) 7 (xc 0), wO (ea 1) 2 [.ref (eg 1), .ref (ef 1), .int (et 1), .int (nI (el 1)), .int (nI (ei 1))], wI (cy 1) (eg 1) 10 (gc 1), wI (cy 1) (ef 1) 7 (xc 1), wO (ea 2) 2 [.ref (eg 2), .ref (ef 2), .int (et 2), .int (nI (el 2)), .int (nI (ei 2))], wI (cy 1) (eg 2) 10 (gc 2), wI (cy 1) (ef 2) 7 (xc 2), wO z0 7 [.ref z1, .ref z2, .int (nI zl), .int zpl, .int zvo, .int zwi, .int zch], wI (cy 1) z1 10 (fzw), wO (ea 3) 2 [.ref (eg 3), .ref (ef 3), .int tu_91, .int (nI mm), .int (nI k_90)], wI (cy 1) (eg 3) 10 (fg2_92), wI (cy 1) (ef 3) 7 (ff2_93), wO h0 4 [.ref h1, .ref h2, .ref h3, .ref h4, .ref h5, .ref h6, .ref h7, .ref h8, .ref h9, .ref h10, .ref h11, hv0, hv1, hv2, hv3, hv4], wI (cy 1) h3 4 (fp), wI (cy 1) h2 8 (flo), wO h9 3 [.ref h9a, .ref h9b, .int (nI nb), .int tb], wI (cy 1) h9a 280 (fcb), wI (cy 1) h9b 31 (fsb2_94), wO h11 3 [.ref h11a, .ref h11b, .int (nI nt), .int tt], wI (cy 1) h11a 280 (fct), wI (cy 1) h11b 31 (fst2_95), wO h10 3 [.ref h10a, .ref h10b, .int (nI nl), .int tl], wI (cy 1) h10a 280 (fcl), wI (cy 1) h10b 31 (fsl2_96), wI (cy 1) h1 4 (fc), wO s0 7 [.ref s1, .ref s2, .int (nI sl), .int spl, .int svo, .int swi, .int sch], wI (cy 1) s2 4 (fsn)] hP9 hD9 hS9 (fun hP hD hS => ?_)
    clear hP9 hD9 hS9
    refine W.widen (k := 0) (n := 0) (Nat.le_of_ble_eq_true rfl) (Nat.le_of_ble_eq_true rfl) ?_
    replace hw89 : (k_90 ≤ mm) ∧ (eaO (vlC tb fcb nb 3) (vlC tl fcl nl 0) (vlC tt fct nt 0) flo (farC spl (fp 3)) swi (fsn 3) svo sch c0 mm tu_91 k_90 fg2_92) := hw89
    obtain ⟨f_97, f_98⟩ := hw89
    refine lv_aload hx hb dX1_aheadOf_29 (lv_at hl 6 rfl) ?_
    refine va_get (D := D) (ci := 7) (v := .int (nI zl)) (C := RX7) (T := TX7) (N := 7) hx hb hg i_X7 hown hK hP 14 rfl rfl 2 (by decide) (hg _ m_631) (fun _ h9 => h9) rfl dX1_aheadOf_31 ?_
    refine lv_istore (lv' := [(7, .int (nI zl)), (6, .ref (ea 3)), (0, .ref q0), (1, .ref h0), (2, .ref s0), (3, .int 3), (4, .int (nI mm)), (5, .ref z0)]) hx hb dX1_aheadOf_34 hl (by decide) rfl (fun ls hl => ?_)
    refine lv_iconst (v := 0) hx hb dX1_aheadOf_36 (by decide) ?_
    refine lv_istore (lv' := [(8, .int 0), (7, .int (nI zl)), (6, .ref (ea 3)), (0, .ref q0), (1, .ref h0), (2, .ref s0), (3, .int 3), (4, .int (nI mm)), (5, .ref z0)]) hx hb dX1_aheadOf_37 hl (by decide) rfl (fun ls hl => ?_)
    have loop99 : ∀ (zn : Nat) (i99 : Nat) (fa1_99 : Nat → Int32), (i99 ≤ zl) → (∀ k9 : Nat, k9 < i99 → fa1_99 k9 = fzw (if tu_91 = 0 then k9 else zl - 1 - k9)) → zl - i99 + 1 ≤ zn → ∀ (H : Heap) (locs : List Loc), va_P D vwCl [wO q0 1 [.ref q1, .ref er, .ref q2, .ref q3, .ref q4, .ref h0, .int (nI mm), .int qo], wI (cy 1) q1 5 (fy), wI (cy 1) q3 10 (fa1_99), wI (cy 1) q4 66 (fwy), (er, .inl (cy 4, 4, .inr (.inr (.inr (.inr (eF (ea 0) (ea 1) (ea 2) (ea 3))))))), wO (ea 0) 2 [.ref (eg 0), .ref (ef 0), .int (et 0), .int (nI (el 0)), .int (nI (ei 0))], wI (cy 1) (eg 0) 10 (gc 0), wI (cy 1) (ef 0) 7 (xc 0), wO (ea 1) 2 [.ref (eg 1), .ref (ef 1), .int (et 1), .int (nI (el 1)), .int (nI (ei 1))], wI (cy 1) (eg 1) 10 (gc 1), wI (cy 1) (ef 1) 7 (xc 1), wO (ea 2) 2 [.ref (eg 2), .ref (ef 2), .int (et 2), .int (nI (el 2)), .int (nI (ei 2))], wI (cy 1) (eg 2) 10 (gc 2), wI (cy 1) (ef 2) 7 (xc 2), wO z0 7 [.ref z1, .ref z2, .int (nI zl), .int zpl, .int zvo, .int zwi, .int zch], wI (cy 1) z1 10 (fzw), wO (ea 3) 2 [.ref (eg 3), .ref (ef 3), .int tu_91, .int (nI mm), .int (nI k_90)], wI (cy 1) (eg 3) 10 (fg2_92), wI (cy 1) (ef 3) 7 (ff2_93), wO h0 4 [.ref h1, .ref h2, .ref h3, .ref h4, .ref h5, .ref h6, .ref h7, .ref h8, .ref h9, .ref h10, .ref h11, hv0, hv1, hv2, hv3, hv4], wI (cy 1) h3 4 (fp), wI (cy 1) h2 8 (flo), wO h9 3 [.ref h9a, .ref h9b, .int (nI nb), .int tb], wI (cy 1) h9a 280 (fcb), wI (cy 1) h9b 31 (fsb2_94), wO h11 3 [.ref h11a, .ref h11b, .int (nI nt), .int tt], wI (cy 1) h11a 280 (fct), wI (cy 1) h11b 31 (fst2_95), wO h10 3 [.ref h10a, .ref h10b, .int (nI nl), .int tl], wI (cy 1) h10a 280 (fcl), wI (cy 1) h10b 31 (fsl2_96), wI (cy 1) h1 4 (fc), wO s0 7 [.ref s1, .ref s2, .int (nI sl), .int spl, .int svo, .int swi, .int sch], wI (cy 1) s2 4 (fsn)] H → va_D A [wO q0 1 [.ref q1, .ref er, .ref q2, .ref q3, .ref q4, .ref h0, .int (nI mm), .int qo], wI (cy 1) q1 5 (fy), wI (cy 1) q3 10 (fa1_99), wI (cy 1) q4 66 (fwy), (er, .inl (cy 4, 4, .inr (.inr (.inr (.inr (eF (ea 0) (ea 1) (ea 2) (ea 3))))))), wO (ea 0) 2 [.ref (eg 0), .ref (ef 0), .int (et 0), .int (nI (el 0)), .int (nI (ei 0))], wI (cy 1) (eg 0) 10 (gc 0), wI (cy 1) (ef 0) 7 (xc 0), wO (ea 1) 2 [.ref (eg 1), .ref (ef 1), .int (et 1), .int (nI (el 1)), .int (nI (ei 1))], wI (cy 1) (eg 1) 10 (gc 1), wI (cy 1) (ef 1) 7 (xc 1), wO (ea 2) 2 [.ref (eg 2), .ref (ef 2), .int (et 2), .int (nI (el 2)), .int (nI (ei 2))], wI (cy 1) (eg 2) 10 (gc 2), wI (cy 1) (ef 2) 7 (xc 2), wO z0 7 [.ref z1, .ref z2, .int (nI zl), .int zpl, .int zvo, .int zwi, .int zch], wI (cy 1) z1 10 (fzw), wO (ea 3) 2 [.ref (eg 3), .ref (ef 3), .int tu_91, .int (nI mm), .int (nI k_90)], wI (cy 1) (eg 3) 10 (fg2_92), wI (cy 1) (ef 3) 7 (ff2_93), wO h0 4 [.ref h1, .ref h2, .ref h3, .ref h4, .ref h5, .ref h6, .ref h7, .ref h8, .ref h9, .ref h10, .ref h11, hv0, hv1, hv2, hv3, hv4], wI (cy 1) h3 4 (fp), wI (cy 1) h2 8 (flo), wO h9 3 [.ref h9a, .ref h9b, .int (nI nb), .int tb], wI (cy 1) h9a 280 (fcb), wI (cy 1) h9b 31 (fsb2_94), wO h11 3 [.ref h11a, .ref h11b, .int (nI nt), .int tt], wI (cy 1) h11a 280 (fct), wI (cy 1) h11b 31 (fst2_95), wO h10 3 [.ref h10a, .ref h10b, .int (nI nl), .int tl], wI (cy 1) h10a 280 (fcl), wI (cy 1) h10b 31 (fsl2_96), wI (cy 1) h1 4 (fc), wO s0 7 [.ref s1, .ref s2, .int (nI sl), .int spl, .int svo, .int swi, .int sch], wI (cy 1) s2 4 (fsn)] → va_S A s.heap H locs → ∀ ls : Array Slot, lv_has ls 9 [(8, .int (nI i99)), (7, .int (nI zl)), (6, .ref (ea 3)), (0, .ref q0), (1, .ref h0), (2, .ref s0), (3, .int 3), (4, .int (nI mm)), (5, .ref z0)] → W p l e (rmk 6 0 0) s m args below meth c H locs 0 0 Q (F0 m 39 ls []) := by
      try clear hP hD hS
      intro zn
      induction zn with
      | zero => intro i99 fa1_99 _ _ hz; exact absurd hz (by omega)
      | succ zn ih99 =>
        intro i99 fa1_99 hf0_99 hf1_99 hmu99 H locs hP hD hS ls hl
        refine lv_iload hx hb dX1_aheadOf_39 (lv_at hl 0 rfl) ?_
        refine lv_iload hx hb dX1_aheadOf_41 (lv_at hl 1 rfl) ?_
        refine lv_icmp_ge (tgt := 85) hx hb dX1_aheadOf_43 (by decide) (fun c_100 => ?_) (fun c_100 => ?_)
        · have q_101 : zl ≤ i99 := q_le (a := zl) (b := i99) rfl rfl (by omega) (by omega) c_100
          refine lv_aload_n hx hb dX1_aheadOf_85 rfl (lv_at hl 3 rfl) ?_
          refine lv_aload hx hb dX1_aheadOf_86 (lv_at hl 2 rfl) ?_
          refine lv_iload hx hb dX1_aheadOf_88 (lv_at hl 1 rfl) ?_
          refine x_callVv (q := (RX1, TX1, 8)) (ci := 1) (q0 := 0) (wr := [wI (cy 1) q1 5 (fy), (er, .inl (cy 4, 4, .inr (.inr (.inr (.inr (eF (ea 0) (ea 1) (ea 2) (ea 3))))))), wO (ea 0) 2 [.ref (eg 0), .ref (ef 0), .int (et 0), .int (nI (el 0)), .int (nI (ei 0))], wI (cy 1) (eg 0) 10 (gc 0), wI (cy 1) (ef 0) 7 (xc 0), wO (ea 1) 2 [.ref (eg 1), .ref (ef 1), .int (et 1), .int (nI (el 1)), .int (nI (ei 1))], wI (cy 1) (eg 1) 10 (gc 1), wI (cy 1) (ef 1) 7 (xc 1), wO (ea 2) 2 [.ref (eg 2), .ref (ef 2), .int (et 2), .int (nI (el 2)), .int (nI (ei 2))], wI (cy 1) (eg 2) 10 (gc 2), wI (cy 1) (ef 2) 7 (xc 2), wO z0 7 [.ref z1, .ref z2, .int (nI zl), .int zpl, .int zvo, .int zwi, .int zch], wI (cy 1) z1 10 (fzw), wI (cy 1) (ef 3) 7 (ff2_93), wI (cy 1) h3 4 (fp), wI (cy 1) h2 8 (flo), wO h9 3 [.ref h9a, .ref h9b, .int (nI nb), .int tb], wI (cy 1) h9a 280 (fcb), wI (cy 1) h9b 31 (fsb2_94), wO h11 3 [.ref h11a, .ref h11b, .int (nI nt), .int tt], wI (cy 1) h11a 280 (fct), wI (cy 1) h11b 31 (fst2_95), wO h10 3 [.ref h10a, .ref h10b, .int (nI nl), .int tl], wI (cy 1) h10a 280 (fcl), wI (cy 1) h10b 31 (fsl2_96), wO s0 7 [.ref s1, .ref s2, .int (nI sl), .int spl, .int svo, .int swi, .int sch], wI (cy 1) s2 4 (fsn)]) (rest := []) ⟨hx, hb, hml, hown, hg, hl.1⟩ k_X1_104 (s_countWays l D cy q0 q1 q2 q3 q4 er mm qo fa1_99 fwy h0 h1 h2 h3 h4 h5 h6 h7 h8 h9 h10 h11 hv0 hv1 hv2 hv3 hv4 fc c0 c1 c2 c3 (ea 3) (eg 3) (ef 3) tu_91 mm k_90 fg2_92 zl (hcn) (by omega) (by omega) (by omega) (by omega) (by omega) (by omega) (by omega)) E0_blind hK hP hD hS hA [0, 2, 3, 19, 31, 16, 17] [1, 4, 5, 6, 7, 8, 9, 10, 11, 12, 13, 14, 15, 18, 20, 21, 22, 23, 24, 25, 26, 27, 28, 29, 30, 32, 33] ⟨rfl, rfl, by decide +kernel, by decide +kernel, by decide +kernel⟩ rfl rfl (fun _ _ _ => trivial) dX1_aheadOf_90 rfl rfl (Nat.le_of_ble_eq_true rfl) ⟨Nat.le_of_ble_eq_true rfl, Nat.le_of_ble_eq_true rfl⟩ ⟨Nat.le_of_ble_eq_true rfl, Nat.le_of_ble_eq_true rfl⟩ (fun zu102 H locs hw102 hP9 hD9 hS9 => ?_)
          clear hP hD hS
          obtain ⟨fwy2_103, rfl⟩ : ∃ z, z = zu102 := ⟨_, rfl⟩
          refine reW [wI (cy 1) q1 5 (fy), (er, .inl (cy 4, 4, .inr (.inr (.inr (.inr (eF (ea 0) (ea 1) (ea 2) (ea 3))))))), wO (ea 0) 2 [.ref (eg 0), .ref (ef 0), .int (et 0), .int (nI (el 0)), .int (nI (ei 0))], wI (cy 1) (eg 0) 10 (gc 0), wI (cy 1) (ef 0) 7 (xc 0), wO (ea 1) 2 [.ref (eg 1), .ref (ef 1), .int (et 1), .int (nI (el 1)), .int (nI (ei 1))], wI (cy 1) (eg 1) 10 (gc 1), wI (cy 1) (ef 1) 7 (xc 1), wO (ea 2) 2 [.ref (eg 2), .ref (ef 2), .int (et 2), .int (nI (el 2)), .int (nI (ei 2))], wI (cy 1) (eg 2) 10 (gc 2), wI (cy 1) (ef 2) 7 (xc 2), wO z0 7 [.ref z1, .ref z2, .int (nI zl), .int zpl, .int zvo, .int zwi, .int zch], wI (cy 1) z1 10 (fzw), wI (cy 1) (ef 3) 7 (ff2_93), wI (cy 1) h3 4 (fp), wI (cy 1) h2 8 (flo), wO h9 3 [.ref h9a, .ref h9b, .int (nI nb), .int tb], wI (cy 1) h9a 280 (fcb), wI (cy 1) h9b 31 (fsb2_94), wO h11 3 [.ref h11a, .ref h11b, .int (nI nt), .int tt], wI (cy 1) h11a 280 (fct), wI (cy 1) h11b 31 (fst2_95), wO h10 3 [.ref h10a, .ref h10b, .int (nI nl), .int tl], wI (cy 1) h10a 280 (fcl), wI (cy 1) h10b 31 (fsl2_96), wO s0 7 [.ref s1, .ref s2, .int (nI sl), .int spl, .int svo, .int swi, .int sch], wI (cy 1) s2 4 (fsn), wO q0 1 [.ref q1, .ref er, .ref q2, .ref q3, .ref q4, .ref h0, .int (nI mm), .int qo], wI (cy 1) q3 10 (fa1_99), wI (cy 1) q4 66 (fwy2_103), wO h0 4 [.ref h1, .ref h2, .ref h3, .ref h4, .ref h5, .ref h6, .ref h7, .ref h8, .ref h9, .ref h10, .ref h11, hv0, hv1, hv2, hv3, hv4], wI (cy 1) h1 4 (fc), wO (ea 3) 2 [.ref (eg 3), .ref (ef 3), .int tu_91, .int (nI mm), .int (nI k_90)], wI (cy 1) (eg 3) 10 (fg2_92)] hP9 hD9 hS9 (fun hP hD hS => ?_)
          clear hP9 hD9 hS9
          refine W.widen (k := 0) (n := 0) (Nat.le_of_ble_eq_true rfl) (Nat.le_of_ble_eq_true rfl) ?_
          replace hw102 : (∀ i9 j9 : Nat, i9 ≤ mm → j9 ≤ zl → fwy2_103 (i9 * 11 + j9) = nI (waD fg2_92 c0 fa1_99 zl mm (mm - i9) j9)) := hw102
          have f_104 := hw102
          refine lv_aload_n hx hb dX1_aheadOf_93 rfl (lv_at hl 3 rfl) ?_
          refine va_get (D := D) (ci := 1) (v := .ref q4) (C := RX1) (T := TX1) (N := 8) hx hb hg i_X1 hown hK hP 27 rfl rfl 4 (by decide) (hg _ m_557) (fun _ h9 => h9) rfl dX1_aheadOf_94 ?_
          refine lv_iconst (v := 0) hx hb dX1_aheadOf_97 (by decide) ?_
          refine va_iald hx hb hK hP 29 1 rfl rfl (by unfold vp_in; decide) dX1_aheadOf_98 ?_
          refine lv_topi (fun x_105 ex_105 => ?_)
          refine lv_if_le (tgt := 110) hx hb dX1_aheadOf_99 (by decide) (fun c_99 => ?_) (fun c_99 => ?_)
          · refine lv_aload_n hx hb dX1_aheadOf_110 rfl (lv_at hl 3 rfl) ?_
            refine va_get (D := D) (ci := 1) (v := .ref q4) (C := RX1) (T := TX1) (N := 8) hx hb hg i_X1 hown hK hP 27 rfl rfl 4 (by decide) (hg _ m_557) (fun _ h9 => h9) rfl dX1_aheadOf_111 ?_
            refine lv_iconst (v := 0) hx hb dX1_aheadOf_114 (by decide) ?_
            refine va_iald hx hb hK hP 29 1 rfl rfl (by unfold vp_in; decide) dX1_aheadOf_115 ?_
            refine lv_topi (fun x_106 ex_106 => ?_)
            exact x_iret hQ hx hb hr hlocks hK hP hD hS dX1_aheadOf_116 (fy, fa1_99, fwy2_103, (fun k => [et 0, et 1, et 2, tu_91].getD k 0), (fun k => [(el 0), (el 1), (el 2), mm].getD k 0), (fun k => [(ei 0), (ei 1), (ei 2), k_90].getD k 0), (fun k => [gc 0, gc 1, gc 2, fg2_92].getD k (fun _ => 0)), (fun k => [xc 0, xc 1, xc 2, ff2_93].getD k (fun _ => 0)), fsb2_94, fst2_95, fsl2_96) (⟨get4 (by omega) (by omega) (by omega) (by omega), (fun h9 => ah_n f_98 (by omega) (fun k9 h8 => hf1_99 k9 (by omega)) h9 (wd_z f_104 ex_106)), (fun _ h9 => (h9 (by rw [ex_106, ← ex_105]; exact c_99)).elim)⟩) [27, 0, 28, 29, 30, 14, 15, 16, 17, 18, 19, 20, 21, 22, 23, 24, 31, 1, 2, 3, 4, 5, 6, 7, 8, 9, 10, 32, 33, 13, 25, 26, 11, 12] (by decide +kernel) rfl (Nat.le_of_ble_eq_true rfl) (Nat.le_of_ble_eq_true rfl)
          · refine lv_aload_n hx hb dX1_aheadOf_102 rfl (lv_at hl 3 rfl) ?_
            refine lv_aload hx hb dX1_aheadOf_103 (lv_at hl 2 rfl) ?_
            refine lv_iload hx hb dX1_aheadOf_105 (lv_at hl 1 rfl) ?_
            refine x_callVv (q := (RX1, TX1, 8)) (ci := 1) (q0 := 0) (wr := [(er, .inl (cy 4, 4, .inr (.inr (.inr (.inr (eF (ea 0) (ea 1) (ea 2) (ea 3))))))), wO (ea 0) 2 [.ref (eg 0), .ref (ef 0), .int (et 0), .int (nI (el 0)), .int (nI (ei 0))], wI (cy 1) (eg 0) 10 (gc 0), wI (cy 1) (ef 0) 7 (xc 0), wO (ea 1) 2 [.ref (eg 1), .ref (ef 1), .int (et 1), .int (nI (el 1)), .int (nI (ei 1))], wI (cy 1) (eg 1) 10 (gc 1), wI (cy 1) (ef 1) 7 (xc 1), wO (ea 2) 2 [.ref (eg 2), .ref (ef 2), .int (et 2), .int (nI (el 2)), .int (nI (ei 2))], wI (cy 1) (eg 2) 10 (gc 2), wI (cy 1) (ef 2) 7 (xc 2), wO z0 7 [.ref z1, .ref z2, .int (nI zl), .int zpl, .int zvo, .int zwi, .int zch], wI (cy 1) z1 10 (fzw), wI (cy 1) (ef 3) 7 (ff2_93), wI (cy 1) h3 4 (fp), wI (cy 1) h2 8 (flo), wO h9 3 [.ref h9a, .ref h9b, .int (nI nb), .int tb], wI (cy 1) h9a 280 (fcb), wI (cy 1) h9b 31 (fsb2_94), wO h11 3 [.ref h11a, .ref h11b, .int (nI nt), .int tt], wI (cy 1) h11a 280 (fct), wI (cy 1) h11b 31 (fst2_95), wO h10 3 [.ref h10a, .ref h10b, .int (nI nl), .int tl], wI (cy 1) h10a 280 (fcl), wI (cy 1) h10b 31 (fsl2_96), wO s0 7 [.ref s1, .ref s2, .int (nI sl), .int spl, .int svo, .int swi, .int sch], wI (cy 1) s2 4 (fsn)]) (rest := []) ⟨hx, hb, hml, hown, hg, hl.1⟩ k_X1_108 (s_followWays l D cy q0 q1 q2 q3 q4 er mm qo fy fa1_99 fwy2_103 h0 h1 h2 h3 h4 h5 h6 h7 h8 h9 h10 h11 hv0 hv1 hv2 hv3 hv4 fc c0 c1 c2 c3 (ea 3) (eg 3) (ef 3) tu_91 mm k_90 fg2_92 zl (hcn) (by omega) (by omega) (by omega) (by omega) (by omega) (by omega) (f_104)) E0_blind hK hP hD hS hA [27, 0, 28, 29, 30, 31, 32, 33] [1, 2, 3, 4, 5, 6, 7, 8, 9, 10, 11, 12, 13, 14, 15, 16, 17, 18, 19, 20, 21, 22, 23, 24, 25, 26] ⟨rfl, rfl, by decide +kernel, by decide +kernel, by decide +kernel⟩ rfl rfl (fun _ _ _ => trivial) dX1_aheadOf_107 rfl rfl (Nat.le_of_ble_eq_true rfl) ⟨Nat.le_of_ble_eq_true rfl, Nat.le_of_ble_eq_true rfl⟩ ⟨Nat.le_of_ble_eq_true rfl, Nat.le_of_ble_eq_true rfl⟩ (fun zu107 H locs hw107 hP9 hD9 hS9 => ?_)
            clear hP hD hS
            obtain ⟨fy2_108, rfl⟩ : ∃ z, z = zu107 := ⟨_, rfl⟩
            refine reW [(er, .inl (cy 4, 4, .inr (.inr (.inr (.inr (eF (ea 0) (ea 1) (ea 2) (ea 3))))))), wO (ea 0) 2 [.ref (eg 0), .ref (ef 0), .int (et 0), .int (nI (el 0)), .int (nI (ei 0))], wI (cy 1) (eg 0) 10 (gc 0), wI (cy 1) (ef 0) 7 (xc 0), wO (ea 1) 2 [.ref (eg 1), .ref (ef 1), .int (et 1), .int (nI (el 1)), .int (nI (ei 1))], wI (cy 1) (eg 1) 10 (gc 1), wI (cy 1) (ef 1) 7 (xc 1), wO (ea 2) 2 [.ref (eg 2), .ref (ef 2), .int (et 2), .int (nI (el 2)), .int (nI (ei 2))], wI (cy 1) (eg 2) 10 (gc 2), wI (cy 1) (ef 2) 7 (xc 2), wO z0 7 [.ref z1, .ref z2, .int (nI zl), .int zpl, .int zvo, .int zwi, .int zch], wI (cy 1) z1 10 (fzw), wI (cy 1) (ef 3) 7 (ff2_93), wI (cy 1) h3 4 (fp), wI (cy 1) h2 8 (flo), wO h9 3 [.ref h9a, .ref h9b, .int (nI nb), .int tb], wI (cy 1) h9a 280 (fcb), wI (cy 1) h9b 31 (fsb2_94), wO h11 3 [.ref h11a, .ref h11b, .int (nI nt), .int tt], wI (cy 1) h11a 280 (fct), wI (cy 1) h11b 31 (fst2_95), wO h10 3 [.ref h10a, .ref h10b, .int (nI nl), .int tl], wI (cy 1) h10a 280 (fcl), wI (cy 1) h10b 31 (fsl2_96), wO s0 7 [.ref s1, .ref s2, .int (nI sl), .int spl, .int svo, .int swi, .int sch], wI (cy 1) s2 4 (fsn), wO q0 1 [.ref q1, .ref er, .ref q2, .ref q3, .ref q4, .ref h0, .int (nI mm), .int qo], wI (cy 1) q1 5 (fy2_108), wI (cy 1) q3 10 (fa1_99), wI (cy 1) q4 66 (fwy2_103), wO h0 4 [.ref h1, .ref h2, .ref h3, .ref h4, .ref h5, .ref h6, .ref h7, .ref h8, .ref h9, .ref h10, .ref h11, hv0, hv1, hv2, hv3, hv4], wI (cy 1) h1 4 (fc), wO (ea 3) 2 [.ref (eg 3), .ref (ef 3), .int tu_91, .int (nI mm), .int (nI k_90)], wI (cy 1) (eg 3) 10 (fg2_92)] hP9 hD9 hS9 (fun hP hD hS => ?_)
            clear hP9 hD9 hS9
            refine W.widen (k := 0) (n := 0) (Nat.le_of_ble_eq_true rfl) (Nat.le_of_ble_eq_true rfl) ?_
            replace hw107 : (okW c0 fa1_99 zl → 0 < waD fg2_92 c0 fa1_99 zl mm mm 0 → fdP (wtP fg2_92 fa1_99 zl mm) c0 mm mm (fun _ => 0) = some (tr9 mm fy2_108)) := hw107
            have f_109 := hw107
            refine lv_aload_n hx hb dX1_aheadOf_110 rfl (lv_at hl 3 rfl) ?_
            refine va_get (D := D) (ci := 1) (v := .ref q4) (C := RX1) (T := TX1) (N := 8) hx hb hg i_X1 hown hK hP 26 rfl rfl 4 (by decide) (hg _ m_557) (fun _ h9 => h9) rfl dX1_aheadOf_111 ?_
            refine lv_iconst (v := 0) hx hb dX1_aheadOf_114 (by decide) ?_
            refine va_iald hx hb hK hP 29 1 rfl rfl (by unfold vp_in; decide) dX1_aheadOf_115 ?_
            refine lv_topi (fun x_110 ex_110 => ?_)
            exact x_iret hQ hx hb hr hlocks hK hP hD hS dX1_aheadOf_116 (fy2_108, fa1_99, fwy2_103, (fun k => [et 0, et 1, et 2, tu_91].getD k 0), (fun k => [(el 0), (el 1), (el 2), mm].getD k 0), (fun k => [(ei 0), (ei 1), (ei 2), k_90].getD k 0), (fun k => [gc 0, gc 1, gc 2, fg2_92].getD k (fun _ => 0)), (fun k => [xc 0, xc 1, xc 2, ff2_93].getD k (fun _ => 0)), fsb2_94, fst2_95, fsl2_96) (⟨get4 (by omega) (by omega) (by omega) (by omega), (fun h9 => ah_n f_98 (by omega) (fun k9 h8 => hf1_99 k9 (by omega)) h9 (wd_z f_104 ex_110)), (fun h9 _ => ah_f f_98 (by omega) (fun k9 h8 => hf1_99 k9 (by omega)) h9 ((fw_z (by omega) (by omega) (wd_z f_104 ex_105)).2 c_99) f_109)⟩) [26, 27, 28, 29, 30, 13, 14, 15, 16, 17, 18, 19, 20, 21, 22, 23, 31, 0, 1, 2, 3, 4, 5, 6, 7, 8, 9, 32, 33, 12, 24, 25, 10, 11] (by decide +kernel) rfl (Nat.le_of_ble_eq_true rfl) (Nat.le_of_ble_eq_true rfl)
        · have q_101 : i99 < zl := q_nle (a := zl) (b := i99) rfl rfl (by omega) (by omega) c_100
          refine lv_aload_n hx hb dX1_aheadOf_46 rfl (lv_at hl 3 rfl) ?_
          refine va_get (D := D) (ci := 1) (v := .ref q3) (C := RX1) (T := TX1) (N := 8) hx hb hg i_X1 hown hK hP 0 rfl rfl 3 (by decide) (hg _ m_556) (fun _ h9 => h9) rfl dX1_aheadOf_47 ?_
          refine lv_iload hx hb dX1_aheadOf_50 (lv_at hl 0 rfl) ?_
          refine lv_aload hx hb dX1_aheadOf_52 (lv_at hl 8 rfl) ?_
          refine va_get (D := D) (ci := 7) (v := .ref z1) (C := RX7) (T := TX7) (N := 7) hx hb hg i_X7 hown hK hP 14 rfl rfl 0 (by decide) (hg _ m_623) (fun _ h9 => h9) rfl dX1_aheadOf_54 ?_
          refine lv_aload hx hb dX1_aheadOf_57 (lv_at hl 2 rfl) ?_
          refine va_get (D := D) (ci := 2) (v := .int tu_91) (C := RX2) (T := TX2) (N := 5) hx hb hg i_X2 hown hK hP 16 rfl rfl 2 (by decide) (hg _ m_517) (fun _ h9 => h9) rfl dX1_aheadOf_59 ?_
          refine lv_if_eq (tgt := 75) hx hb dX1_aheadOf_62 (by decide) (fun c_62 => ?_) (fun c_62 => ?_)
          · refine lv_iload hx hb dX1_aheadOf_75 (lv_at hl 0 rfl) ?_
            refine va_iald hx hb hK hP 15 1 rfl rfl (vp_in_nI (by omega) (by decide)) dX1_aheadOf_77 ?_
            refine lv_topi (fun x_111 ex_111 => ?_)
            refine va_iast hx hb hK hP hD hS 2 1 rfl rfl (vp_in_nI (by omega) (by decide)) dX1_aheadOf_78 (fun H locs hP9 hD9 hS9 => ?_)
            clear hP hD hS
            obtain ⟨g_112, eg_112⟩ : ∃ y, upd fa1_99 (nI i99 : Int32).toNatClampNeg x_111 = y := ⟨_, rfl⟩
            rw [eg_112] at hP9 hD9
            refine reW [wO q0 1 [.ref q1, .ref er, .ref q2, .ref q3, .ref q4, .ref h0, .int (nI mm), .int qo], wI (cy 1) q1 5 (fy), wI (cy 1) q3 10 (g_112), wI (cy 1) q4 66 (fwy), (er, .inl (cy 4, 4, .inr (.inr (.inr (.inr (eF (ea 0) (ea 1) (ea 2) (ea 3))))))), wO (ea 0) 2 [.ref (eg 0), .ref (ef 0), .int (et 0), .int (nI (el 0)), .int (nI (ei 0))], wI (cy 1) (eg 0) 10 (gc 0), wI (cy 1) (ef 0) 7 (xc 0), wO (ea 1) 2 [.ref (eg 1), .ref (ef 1), .int (et 1), .int (nI (el 1)), .int (nI (ei 1))], wI (cy 1) (eg 1) 10 (gc 1), wI (cy 1) (ef 1) 7 (xc 1), wO (ea 2) 2 [.ref (eg 2), .ref (ef 2), .int (et 2), .int (nI (el 2)), .int (nI (ei 2))], wI (cy 1) (eg 2) 10 (gc 2), wI (cy 1) (ef 2) 7 (xc 2), wO z0 7 [.ref z1, .ref z2, .int (nI zl), .int zpl, .int zvo, .int zwi, .int zch], wI (cy 1) z1 10 (fzw), wO (ea 3) 2 [.ref (eg 3), .ref (ef 3), .int tu_91, .int (nI mm), .int (nI k_90)], wI (cy 1) (eg 3) 10 (fg2_92), wI (cy 1) (ef 3) 7 (ff2_93), wO h0 4 [.ref h1, .ref h2, .ref h3, .ref h4, .ref h5, .ref h6, .ref h7, .ref h8, .ref h9, .ref h10, .ref h11, hv0, hv1, hv2, hv3, hv4], wI (cy 1) h3 4 (fp), wI (cy 1) h2 8 (flo), wO h9 3 [.ref h9a, .ref h9b, .int (nI nb), .int tb], wI (cy 1) h9a 280 (fcb), wI (cy 1) h9b 31 (fsb2_94), wO h11 3 [.ref h11a, .ref h11b, .int (nI nt), .int tt], wI (cy 1) h11a 280 (fct), wI (cy 1) h11b 31 (fst2_95), wO h10 3 [.ref h10a, .ref h10b, .int (nI nl), .int tl], wI (cy 1) h10a 280 (fcl), wI (cy 1) h10b 31 (fsl2_96), wI (cy 1) h1 4 (fc), wO s0 7 [.ref s1, .ref s2, .int (nI sl), .int spl, .int svo, .int swi, .int sch], wI (cy 1) s2 4 (fsn)] hP9 hD9 hS9 (fun hP hD hS => ?_)
            clear hP9 hD9 hS9
            refine lv_iinc (v := nI (i99 + 1)) (lv' := [(8, .int (nI (i99 + 1))), (7, .int (nI zl)), (6, .ref (ea 3)), (0, .ref q0), (1, .ref h0), (2, .ref s0), (3, .int 3), (4, .int (nI mm)), (5, .ref z0)]) hx hb dX1_aheadOf_79 hl (k := 0) rfl (nI_add i99 1) (by decide) rfl (fun ls hl => ?_)
            refine lv_goto (tgt := 39) hx hb dX1_aheadOf_82 (by decide) ?_
            exact ih99  ((i99 + 1)) g_112 (by omega) (wn_put (v := i99) hf1_99 (by omega) (by omega) ex_111 eg_112 (if_pos c_62).symm) (by omega) _ _ (hP.sub [0, 1, 2, 3, 4, 5, 6, 7, 8, 9, 10, 11, 12, 13, 14, 15, 16, 17, 18, 19, 20, 21, 22, 23, 24, 25, 26, 27, 28, 29, 30, 31, 32, 33] rfl) (hD.sub [0, 1, 2, 3, 4, 5, 6, 7, 8, 9, 10, 11, 12, 13, 14, 15, 16, 17, 18, 19, 20, 21, 22, 23, 24, 25, 26, 27, 28, 29, 30, 31, 32, 33] (by decide +kernel) rfl) hS ls (lv_sub hl [0, 1, 2, 3, 4, 5, 6, 7, 8] rfl)
          · refine lv_iload hx hb dX1_aheadOf_65 (lv_at hl 1 rfl) ?_
            refine lv_iconst (v := 1) hx hb dX1_aheadOf_67 (by decide) ?_
            refine lv_isub hx hb dX1_aheadOf_68 ?_
            refine lv_topi (fun y_113 hy_113 => ?_)
            obtain rfl : y_113 = nI (zl - 1) := hy_113.trans (pk_sub (a := zl) (b := 1) (by omega))
            refine lv_iload hx hb dX1_aheadOf_69 (lv_at hl 0 rfl) ?_
            refine lv_isub hx hb dX1_aheadOf_71 ?_
            refine lv_topi (fun y_114 hy_114 => ?_)
            obtain rfl : y_114 = nI ((zl - 1) - i99) := hy_114.trans (pk_sub (a := (zl - 1)) (b := i99) (by omega))
            refine lv_goto (tgt := 77) hx hb dX1_aheadOf_72 (by decide) ?_
            refine va_iald hx hb hK hP 15 1 rfl rfl (vp_in_nI (by omega) (by decide)) dX1_aheadOf_77 ?_
            refine lv_topi (fun x_115 ex_115 => ?_)
            refine va_iast hx hb hK hP hD hS 2 1 rfl rfl (vp_in_nI (by omega) (by decide)) dX1_aheadOf_78 (fun H locs hP9 hD9 hS9 => ?_)
            clear hP hD hS
            obtain ⟨g_116, eg_116⟩ : ∃ y, upd fa1_99 (nI i99 : Int32).toNatClampNeg x_115 = y := ⟨_, rfl⟩
            rw [eg_116] at hP9 hD9
            refine reW [wO q0 1 [.ref q1, .ref er, .ref q2, .ref q3, .ref q4, .ref h0, .int (nI mm), .int qo], wI (cy 1) q1 5 (fy), wI (cy 1) q3 10 (g_116), wI (cy 1) q4 66 (fwy), (er, .inl (cy 4, 4, .inr (.inr (.inr (.inr (eF (ea 0) (ea 1) (ea 2) (ea 3))))))), wO (ea 0) 2 [.ref (eg 0), .ref (ef 0), .int (et 0), .int (nI (el 0)), .int (nI (ei 0))], wI (cy 1) (eg 0) 10 (gc 0), wI (cy 1) (ef 0) 7 (xc 0), wO (ea 1) 2 [.ref (eg 1), .ref (ef 1), .int (et 1), .int (nI (el 1)), .int (nI (ei 1))], wI (cy 1) (eg 1) 10 (gc 1), wI (cy 1) (ef 1) 7 (xc 1), wO (ea 2) 2 [.ref (eg 2), .ref (ef 2), .int (et 2), .int (nI (el 2)), .int (nI (ei 2))], wI (cy 1) (eg 2) 10 (gc 2), wI (cy 1) (ef 2) 7 (xc 2), wO z0 7 [.ref z1, .ref z2, .int (nI zl), .int zpl, .int zvo, .int zwi, .int zch], wI (cy 1) z1 10 (fzw), wO (ea 3) 2 [.ref (eg 3), .ref (ef 3), .int tu_91, .int (nI mm), .int (nI k_90)], wI (cy 1) (eg 3) 10 (fg2_92), wI (cy 1) (ef 3) 7 (ff2_93), wO h0 4 [.ref h1, .ref h2, .ref h3, .ref h4, .ref h5, .ref h6, .ref h7, .ref h8, .ref h9, .ref h10, .ref h11, hv0, hv1, hv2, hv3, hv4], wI (cy 1) h3 4 (fp), wI (cy 1) h2 8 (flo), wO h9 3 [.ref h9a, .ref h9b, .int (nI nb), .int tb], wI (cy 1) h9a 280 (fcb), wI (cy 1) h9b 31 (fsb2_94), wO h11 3 [.ref h11a, .ref h11b, .int (nI nt), .int tt], wI (cy 1) h11a 280 (fct), wI (cy 1) h11b 31 (fst2_95), wO h10 3 [.ref h10a, .ref h10b, .int (nI nl), .int tl], wI (cy 1) h10a 280 (fcl), wI (cy 1) h10b 31 (fsl2_96), wI (cy 1) h1 4 (fc), wO s0 7 [.ref s1, .ref s2, .int (nI sl), .int spl, .int svo, .int swi, .int sch], wI (cy 1) s2 4 (fsn)] hP9 hD9 hS9 (fun hP hD hS => ?_)
            clear hP9 hD9 hS9
            refine lv_iinc (v := nI (i99 + 1)) (lv' := [(8, .int (nI (i99 + 1))), (7, .int (nI zl)), (6, .ref (ea 3)), (0, .ref q0), (1, .ref h0), (2, .ref s0), (3, .int 3), (4, .int (nI mm)), (5, .ref z0)]) hx hb dX1_aheadOf_79 hl (k := 0) rfl (nI_add i99 1) (by decide) rfl (fun ls hl => ?_)
            refine lv_goto (tgt := 39) hx hb dX1_aheadOf_82 (by decide) ?_
            exact ih99  ((i99 + 1)) g_116 (by omega) (wn_put (v := (((zl - 1) - i99))) hf1_99 (by omega) (by omega) ex_115 eg_116 (if_neg c_62).symm) (by omega) _ _ (hP.sub [0, 1, 2, 3, 4, 5, 6, 7, 8, 9, 10, 11, 12, 13, 14, 15, 16, 17, 18, 19, 20, 21, 22, 23, 24, 25, 26, 27, 28, 29, 30, 31, 32, 33] rfl) (hD.sub [0, 1, 2, 3, 4, 5, 6, 7, 8, 9, 10, 11, 12, 13, 14, 15, 16, 17, 18, 19, 20, 21, 22, 23, 24, 25, 26, 27, 28, 29, 30, 31, 32, 33] (by decide +kernel) rfl) hS ls (lv_sub hl [0, 1, 2, 3, 4, 5, 6, 7, 8] rfl)
    exact loop99 _ 0 fwa (by omega) (fun k9 h9 => absurd h9 (Nat.not_lt_zero k9)) (Nat.le_refl _) _ _ (hP.sub [0, 1, 2, 3, 4, 5, 6, 7, 8, 9, 10, 11, 12, 13, 14, 15, 16, 17, 18, 19, 20, 21, 22, 23, 24, 25, 26, 27, 28, 29, 30, 31, 32, 33] rfl) (hD.sub [0, 1, 2, 3, 4, 5, 6, 7, 8, 9, 10, 11, 12, 13, 14, 15, 16, 17, 18, 19, 20, 21, 22, 23, 24, 25, 26, 27, 28, 29, 30, 31, 32, 33] (by decide +kernel) rfl) hS ls (lv_sub hl [0, 1, 2, 3, 4, 5, 6, 7, 8] rfl)
