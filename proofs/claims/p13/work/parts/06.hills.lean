def mL06 : List (Option Cond) := [some (Cond.selects RX4 yX4_countStepsTo yX4_countStepsTo), some (Cond.selects RX4 yX4_leadsToOneAt yX4_leadsToOneAt), some (Cond.selects RX4 yX4_firstWordNearer yX4_firstWordNearer), some (Cond.initialized RX4), some (Cond.initialized RJ9), some (Cond.fieldLink RX4 78 "CliffJudges$Formula" "told" "Z"), some (Cond.fieldLink RX4 9 "CliffJudges$Hills" "counts" "[I"), some (Cond.fieldLink RX4 18 "CliffJudges$Hills" "cliffPlace" "[I"), some (Cond.fieldLink RX4 30 "CliffJudges$Hills" "next" "[I"), some (Cond.fieldLink RX4 33 "CliffJudges$Hills" "stepsLeft" "[I"), some (Cond.fieldLink RX4 39 "CliffJudges$Hills" "back" "LCliffJudges$Formula;"), some (Cond.fieldLink RX4 56 "CliffJudges$Hills" "yesStates" "I"), some (Cond.static yJ9_max_7cf53), some (Cond.code yJ9_max_7cf53 cJ9_max_7cf53 2 (some .int)), some (Cond.static yJ9_min_7cf53), some (Cond.code yJ9_min_7cf53 cJ9_min_7cf53 2 (some .int)), some (Cond.methodLink RX4 72 yJ9_abs_0f7a4), some (Cond.static yJ9_abs_0f7a4), some (Cond.code yJ9_abs_0f7a4 cJ9_abs_0f7a4 1 (some .int)), some (Cond.methodLink RX4 82 yX3_value), some (Cond.instanceMethod yX3_value), some (Cond.selects RX3 yX3_value yX3_value), some (Cond.code yX3_value cX3_value 6 (some .int)), some (Cond.methodLink RX4 86 yJ9_min_7cf53), some (Cond.methodLink RX4 90 yJ9_max_7cf53), some (Cond.methodLink RX4 93 yX4_isYesState), some (Cond.instanceMethod yX4_isYesState), some (Cond.selects RX4 yX4_isYesState yX4_isYesState), some (Cond.code yX4_isYesState cX4_isYesState 2 (some .boolean)), some (Cond.methodLink RX4 97 yX4_countStepsTo), some (Cond.instanceMethod yX4_countStepsTo), some (Cond.code yX4_countStepsTo cX4_countStepsTo 4 none), some (Cond.methodLink RX4 104 yX4_leadsToOneAt), some (Cond.instanceMethod yX4_leadsToOneAt), some (Cond.code yX4_leadsToOneAt cX4_leadsToOneAt 4 (some .boolean)), some (Cond.methodLink RX4 101 yX4_firstWordNearer), some (Cond.instanceMethod yX4_firstWordNearer), some (Cond.code yX4_firstWordNearer cX4_firstWordNearer 3 (some .int))]
set_option maxRecDepth 100000 in
theorem mP06 : pick [56, 1, 1, 79, 10, 158, 24, 12, 13, 5, 1, 8, 399, 1, 2, 1, 255, 1, 1, 18, 1, 1, 1, 4, 1, 22, 1, 1, 1, 225, 2, 1, 1, 2, 1, 1, 2, 1] lw_tbl = mL06 := rfl
set_option maxRecDepth 100000 in
theorem mG06 : mL06.all (fun o => o.all goodWord) = true := rfl
theorem m_56 : (Cond.selects RX4 yX4_countStepsTo yX4_countStepsTo) ∈ gT := gp mP06 mG06 0 rfl
theorem m_57 : (Cond.selects RX4 yX4_leadsToOneAt yX4_leadsToOneAt) ∈ gT := gp mP06 mG06 1 rfl
theorem m_58 : (Cond.selects RX4 yX4_firstWordNearer yX4_firstWordNearer) ∈ gT := gp mP06 mG06 2 rfl
theorem m_137 : (Cond.initialized RX4) ∈ gT := gp mP06 mG06 3 rfl
theorem m_147 : (Cond.initialized RJ9) ∈ gT := gp mP06 mG06 4 rfl
theorem m_305 : (Cond.fieldLink RX4 78 "CliffJudges$Formula" "told" "Z") ∈ gT := gp mP06 mG06 5 rfl
theorem m_329 : (Cond.fieldLink RX4 9 "CliffJudges$Hills" "counts" "[I") ∈ gT := gp mP06 mG06 6 rfl
theorem m_341 : (Cond.fieldLink RX4 18 "CliffJudges$Hills" "cliffPlace" "[I") ∈ gT := gp mP06 mG06 7 rfl
theorem m_354 : (Cond.fieldLink RX4 30 "CliffJudges$Hills" "next" "[I") ∈ gT := gp mP06 mG06 8 rfl
theorem m_359 : (Cond.fieldLink RX4 33 "CliffJudges$Hills" "stepsLeft" "[I") ∈ gT := gp mP06 mG06 9 rfl
theorem m_360 : (Cond.fieldLink RX4 39 "CliffJudges$Hills" "back" "LCliffJudges$Formula;") ∈ gT := gp mP06 mG06 10 rfl
theorem m_368 : (Cond.fieldLink RX4 56 "CliffJudges$Hills" "yesStates" "I") ∈ gT := gp mP06 mG06 11 rfl
theorem m_767 : (Cond.static yJ9_max_7cf53) ∈ gT := gp mP06 mG06 12 rfl
theorem m_768 : (Cond.code yJ9_max_7cf53 cJ9_max_7cf53 2 (some .int)) ∈ gT := gp mP06 mG06 13 rfl
theorem m_770 : (Cond.static yJ9_min_7cf53) ∈ gT := gp mP06 mG06 14 rfl
theorem m_771 : (Cond.code yJ9_min_7cf53 cJ9_min_7cf53 2 (some .int)) ∈ gT := gp mP06 mG06 15 rfl
theorem m_1026 : (Cond.methodLink RX4 72 yJ9_abs_0f7a4) ∈ gT := gp mP06 mG06 16 rfl
theorem m_1027 : (Cond.static yJ9_abs_0f7a4) ∈ gT := gp mP06 mG06 17 rfl
theorem m_1028 : (Cond.code yJ9_abs_0f7a4 cJ9_abs_0f7a4 1 (some .int)) ∈ gT := gp mP06 mG06 18 rfl
theorem m_1046 : (Cond.methodLink RX4 82 yX3_value) ∈ gT := gp mP06 mG06 19 rfl
theorem m_1047 : (Cond.instanceMethod yX3_value) ∈ gT := gp mP06 mG06 20 rfl
theorem m_1048 : (Cond.selects RX3 yX3_value yX3_value) ∈ gT := gp mP06 mG06 21 rfl
theorem m_1049 : (Cond.code yX3_value cX3_value 6 (some .int)) ∈ gT := gp mP06 mG06 22 rfl
theorem m_1053 : (Cond.methodLink RX4 86 yJ9_min_7cf53) ∈ gT := gp mP06 mG06 23 rfl
theorem m_1054 : (Cond.methodLink RX4 90 yJ9_max_7cf53) ∈ gT := gp mP06 mG06 24 rfl
theorem m_1076 : (Cond.methodLink RX4 93 yX4_isYesState) ∈ gT := gp mP06 mG06 25 rfl
theorem m_1077 : (Cond.instanceMethod yX4_isYesState) ∈ gT := gp mP06 mG06 26 rfl
theorem m_1078 : (Cond.selects RX4 yX4_isYesState yX4_isYesState) ∈ gT := gp mP06 mG06 27 rfl
theorem m_1079 : (Cond.code yX4_isYesState cX4_isYesState 2 (some .boolean)) ∈ gT := gp mP06 mG06 28 rfl
theorem m_1304 : (Cond.methodLink RX4 97 yX4_countStepsTo) ∈ gT := gp mP06 mG06 29 rfl
theorem m_1306 : (Cond.instanceMethod yX4_countStepsTo) ∈ gT := gp mP06 mG06 30 rfl
theorem m_1307 : (Cond.code yX4_countStepsTo cX4_countStepsTo 4 none) ∈ gT := gp mP06 mG06 31 rfl
theorem m_1308 : (Cond.methodLink RX4 104 yX4_leadsToOneAt) ∈ gT := gp mP06 mG06 32 rfl
theorem m_1310 : (Cond.instanceMethod yX4_leadsToOneAt) ∈ gT := gp mP06 mG06 33 rfl
theorem m_1311 : (Cond.code yX4_leadsToOneAt cX4_leadsToOneAt 4 (some .boolean)) ∈ gT := gp mP06 mG06 34 rfl
theorem m_1312 : (Cond.methodLink RX4 101 yX4_firstWordNearer) ∈ gT := gp mP06 mG06 35 rfl
theorem m_1314 : (Cond.instanceMethod yX4_firstWordNearer) ∈ gT := gp mP06 mG06 36 rfl
theorem m_1315 : (Cond.code yX4_firstWordNearer cX4_firstWordNearer 3 (some .int)) ∈ gT := gp mP06 mG06 37 rfl
/-- one of the first c -/
def inR (ix : Int32) (c : Nat) : Prop := ∃ j : Nat, j < c ∧ ix = nI j
theorem inR_neg {ix : Int32} {c : Nat} (hc : c < 2 ^ 31) (h : ix < 0) : ¬ inR ix c := fun ⟨j, hj, e⟩ => nI_pos (n := j) (by omega) (e ▸ h)
theorem inR_ge {ix : Int32} {c : Nat} (hc : c < 2 ^ 31) (h : nI c ≤ ix) : ¬ inR ix c := fun ⟨j, hj, e⟩ => by
  rw [e] at h
  have := (nI_leI hc (by omega)).mp h
  omega
theorem nI_inj {a b : Nat} (ha : a < 2 ^ 31) (hb : b < 2 ^ 31) (h : nI a = nI b) : a = b := (nI_eq ha hb).mp h
theorem i_nlt {a b : Int32} (h : a ≤ b) : ¬ b < a := by
  rw [fa_le] at h
  rw [fa_lt]
  omega
theorem i_lt {a b : Int32} (h : ¬ a ≤ b) : b < a := by
  rw [fa_le] at h
  rw [fa_lt]
  omega
theorem gdX4_has_0 : decode cX4_has 0 = .ok (.iload_n 2, 1) ∧ decode cX4_has 1 = .ok (.ifCond .lt 17, 3) ∧ decode cX4_has 18 = .ok (.iconst 0, 1) ∧ decode cX4_has 19 = .ok (.ireturn, 1) ∧ decode cX4_has 4 = .ok (.iload_n 2, 1) ∧ decode cX4_has 5 = .ok (.aload_n 0, 1) ∧ decode cX4_has 6 = .ok (.getfield 9, 3) := by decide +kernel
theorem dX4_has_0 : decode cX4_has 0 = .ok (.iload_n 2, 1) := gdX4_has_0.1
theorem dX4_has_1 : decode cX4_has 1 = .ok (.ifCond .lt 17, 3) := gdX4_has_0.2.1
theorem dX4_has_18 : decode cX4_has 18 = .ok (.iconst 0, 1) := gdX4_has_0.2.2.1
theorem dX4_has_19 : decode cX4_has 19 = .ok (.ireturn, 1) := gdX4_has_0.2.2.2.1
theorem dX4_has_4 : decode cX4_has 4 = .ok (.iload_n 2, 1) := gdX4_has_0.2.2.2.2.1
theorem dX4_has_5 : decode cX4_has 5 = .ok (.aload_n 0, 1) := gdX4_has_0.2.2.2.2.2.1
theorem dX4_has_6 : decode cX4_has 6 = .ok (.getfield 9, 3) := gdX4_has_0.2.2.2.2.2.2
set_option maxRecDepth 20000 in
theorem i_X4 : ∀ w ∈ u_ws RX4 TX4 16, w ∈ gT := gin [384, 386, 388, 390, 392, 394, 396, 398, 400, 402, 404, 406, 408, 410, 412, 414] (by decide +kernel) (by decide +kernel)
theorem gdX4_has_9 : decode cX4_has 9 = .ok (.iload_n 1, 1) ∧ decode cX4_has 10 = .ok (.iaload, 1) ∧ decode cX4_has 11 = .ok (.if_icmp .ge 7, 3) ∧ decode cX4_has 14 = .ok (.iconst 1, 1) ∧ decode cX4_has 15 = .ok (.goto 4, 3) := by decide +kernel
theorem dX4_has_9 : decode cX4_has 9 = .ok (.iload_n 1, 1) := gdX4_has_9.1
theorem dX4_has_10 : decode cX4_has 10 = .ok (.iaload, 1) := gdX4_has_9.2.1
theorem dX4_has_11 : decode cX4_has 11 = .ok (.if_icmp .ge 7, 3) := gdX4_has_9.2.2.1
theorem dX4_has_14 : decode cX4_has 14 = .ok (.iconst 1, 1) := gdX4_has_9.2.2.2.1
theorem dX4_has_15 : decode cX4_has 15 = .ok (.goto 4, 3) := gdX4_has_9.2.2.2.2
set_option maxHeartbeats 1000000 in
set_option maxRecDepth 100000 in
theorem s_has0 (l : Launch) (D : va_G) (cy : Nat → ClassId) (h0 : Nat) (h1 : Nat) (h2 : Nat) (h3 : Nat) (h4 : Nat) (h5 : Nat) (h6 : Nat) (h7 : Nat) (h8 : Nat) (h9 : Nat) (h10 : Nat) (h11 : Nat) (hv0 : Value) (hv1 : Value) (hv2 : Value) (hv3 : Value) (hv4 : Value) (fc : Nat → Int32) (c0 : Nat) (c1 : Nat) (c2 : Nat) (c3 : Nat) (ix : Int32) (hcn : cntOK fc c0 c1 c2 c3) (hc0 : c0 ≤ 8) (hc1 : c1 ≤ 4) (hc2 : c2 ≤ 4) (hc3 : c3 ≤ 6) : XMi l D (tyL cy) E0 yX4_has cX4_has 3 (some .boolean) (rmk 0 0 0) [.ref h0, .int 0, .int ix] [wO h0 4 [.ref h1, .ref h2, .ref h3, .ref h4, .ref h5, .ref h6, .ref h7, .ref h8, .ref h9, .ref h10, .ref h11, hv0, hv1, hv2, hv3, hv4], wI (cy 1) h1 4 (fc)] (fun (r : Int32) (_ : Unit) => (r = 0 ∨ (r = 1 ∧ ∃ j : Nat, j < c0 ∧ ix = nI j)) ∧ (r = 0 → ¬ inR ix c0)) (fun (_ : Unit) => [wO h0 4 [.ref h1, .ref h2, .ref h3, .ref h4, .ref h5, .ref h6, .ref h7, .ref h8, .ref h9, .ref h10, .ref h11, hv0, hv1, hv2, hv3, hv4], wI (cy 1) h1 4 (fc)]) := by
  refine XMi.start (by decide) (Nat.le_of_ble_eq_true rfl) ?_
  intro p e s m below meth c args A ls Q hat hQ
  obtain ⟨hx, hb, hr, hml, hown, hg, hlocks, hin, hK, hA, hP, hD, hS, hE, hl⟩ := hat
  have hown : s.vm.findClass RX4 = some m.cls := hown
  have hl : lv_has ls 3 [(0, .ref h0), (1, .int 0), (2, .int ix)] := hl
  refine lv_iload_n hx hb dX4_has_0 rfl (lv_at hl 2 rfl) ?_
  refine lv_if_lt (tgt := 18) hx hb dX4_has_1 (by decide) (fun c_1 => ?_) (fun c_1 => ?_)
  · refine lv_iconst (v := 0) hx hb dX4_has_18 (by decide) ?_
    exact x_zret hQ hx hb hr hlocks hK hP hD hS rfl dX4_has_19 () (⟨Or.inl rfl, fun _ => inR_neg (by omega) c_1⟩) [0, 1] (by decide +kernel) rfl (Nat.le_of_ble_eq_true rfl) (Nat.le_of_ble_eq_true rfl)
  · refine lv_iload_n hx hb dX4_has_4 rfl (lv_at hl 2 rfl) ?_
    refine lv_aload_n hx hb dX4_has_5 rfl (lv_at hl 0 rfl) ?_
    refine va_get (D := D) (ci := 4) (v := .ref h1) (C := RX4) (T := TX4) (N := 16) hx hb hg i_X4 hown hK hP 0 rfl rfl 0 (by decide) (hg _ m_329) (fun _ h9 => h9) rfl dX4_has_6 ?_
    refine lv_iload_n hx hb dX4_has_9 rfl (lv_at hl 1 rfl) ?_
    refine va_iald hx hb hK hP 1 1 rfl rfl (by unfold vp_in; decide) dX4_has_10 ?_
    refine lv_topi (fun y_1 hy_1 => ?_)
    obtain rfl : y_1 = nI c0 := hy_1.trans hcn.1
    refine lv_icmp_ge (tgt := 18) hx hb dX4_has_11 (by decide) (fun c_11 => ?_) (fun c_11 => ?_)
    · refine lv_iconst (v := 0) hx hb dX4_has_18 (by decide) ?_
      exact x_zret hQ hx hb hr hlocks hK hP hD hS rfl dX4_has_19 () (⟨Or.inl rfl, fun _ => inR_ge (by omega) c_11⟩) [0, 1] (by decide +kernel) rfl (Nat.le_of_ble_eq_true rfl) (Nat.le_of_ble_eq_true rfl)
    · refine lv_iconst (v := 1) hx hb dX4_has_14 (by decide) ?_
      refine lv_goto (tgt := 19) hx hb dX4_has_15 (by decide) ?_
      exact x_zret hQ hx hb hr hlocks hK hP hD hS rfl dX4_has_19 () (⟨Or.inr ⟨rfl, has_in (by omega) c_1 c_11⟩, fun h9 => absurd h9 (by decide)⟩) [0, 1] (by decide +kernel) rfl (Nat.le_of_ble_eq_true rfl) (Nat.le_of_ble_eq_true rfl)
set_option maxHeartbeats 1000000 in
set_option maxRecDepth 100000 in
theorem s_has1 (l : Launch) (D : va_G) (cy : Nat → ClassId) (h0 : Nat) (h1 : Nat) (h2 : Nat) (h3 : Nat) (h4 : Nat) (h5 : Nat) (h6 : Nat) (h7 : Nat) (h8 : Nat) (h9 : Nat) (h10 : Nat) (h11 : Nat) (hv0 : Value) (hv1 : Value) (hv2 : Value) (hv3 : Value) (hv4 : Value) (fc : Nat → Int32) (c0 : Nat) (c1 : Nat) (c2 : Nat) (c3 : Nat) (ix : Int32) (hcn : cntOK fc c0 c1 c2 c3) (hc0 : c0 ≤ 8) (hc1 : c1 ≤ 4) (hc2 : c2 ≤ 4) (hc3 : c3 ≤ 6) : XMi l D (tyL cy) E0 yX4_has cX4_has 3 (some .boolean) (rmk 0 0 0) [.ref h0, .int 1, .int ix] [wO h0 4 [.ref h1, .ref h2, .ref h3, .ref h4, .ref h5, .ref h6, .ref h7, .ref h8, .ref h9, .ref h10, .ref h11, hv0, hv1, hv2, hv3, hv4], wI (cy 1) h1 4 (fc)] (fun (r : Int32) (_ : Unit) => (r = 0 ∨ (r = 1 ∧ ∃ j : Nat, j < c1 ∧ ix = nI j)) ∧ (r = 0 → ¬ inR ix c1)) (fun (_ : Unit) => [wO h0 4 [.ref h1, .ref h2, .ref h3, .ref h4, .ref h5, .ref h6, .ref h7, .ref h8, .ref h9, .ref h10, .ref h11, hv0, hv1, hv2, hv3, hv4], wI (cy 1) h1 4 (fc)]) := by
  refine XMi.start (by decide) (Nat.le_of_ble_eq_true rfl) ?_
  intro p e s m below meth c args A ls Q hat hQ
  obtain ⟨hx, hb, hr, hml, hown, hg, hlocks, hin, hK, hA, hP, hD, hS, hE, hl⟩ := hat
  have hown : s.vm.findClass RX4 = some m.cls := hown
  have hl : lv_has ls 3 [(0, .ref h0), (1, .int 1), (2, .int ix)] := hl
  refine lv_iload_n hx hb dX4_has_0 rfl (lv_at hl 2 rfl) ?_
  refine lv_if_lt (tgt := 18) hx hb dX4_has_1 (by decide) (fun c_1 => ?_) (fun c_1 => ?_)
  · refine lv_iconst (v := 0) hx hb dX4_has_18 (by decide) ?_
    exact x_zret hQ hx hb hr hlocks hK hP hD hS rfl dX4_has_19 () (⟨Or.inl rfl, fun _ => inR_neg (by omega) c_1⟩) [0, 1] (by decide +kernel) rfl (Nat.le_of_ble_eq_true rfl) (Nat.le_of_ble_eq_true rfl)
  · refine lv_iload_n hx hb dX4_has_4 rfl (lv_at hl 2 rfl) ?_
    refine lv_aload_n hx hb dX4_has_5 rfl (lv_at hl 0 rfl) ?_
    refine va_get (D := D) (ci := 4) (v := .ref h1) (C := RX4) (T := TX4) (N := 16) hx hb hg i_X4 hown hK hP 0 rfl rfl 0 (by decide) (hg _ m_329) (fun _ h9 => h9) rfl dX4_has_6 ?_
    refine lv_iload_n hx hb dX4_has_9 rfl (lv_at hl 1 rfl) ?_
    refine va_iald hx hb hK hP 1 1 rfl rfl (by unfold vp_in; decide) dX4_has_10 ?_
    refine lv_topi (fun y_1 hy_1 => ?_)
    obtain rfl : y_1 = nI c1 := hy_1.trans hcn.2.1
    refine lv_icmp_ge (tgt := 18) hx hb dX4_has_11 (by decide) (fun c_11 => ?_) (fun c_11 => ?_)
    · refine lv_iconst (v := 0) hx hb dX4_has_18 (by decide) ?_
      exact x_zret hQ hx hb hr hlocks hK hP hD hS rfl dX4_has_19 () (⟨Or.inl rfl, fun _ => inR_ge (by omega) c_11⟩) [0, 1] (by decide +kernel) rfl (Nat.le_of_ble_eq_true rfl) (Nat.le_of_ble_eq_true rfl)
    · refine lv_iconst (v := 1) hx hb dX4_has_14 (by decide) ?_
      refine lv_goto (tgt := 19) hx hb dX4_has_15 (by decide) ?_
      exact x_zret hQ hx hb hr hlocks hK hP hD hS rfl dX4_has_19 () (⟨Or.inr ⟨rfl, has_in (by omega) c_1 c_11⟩, fun h9 => absurd h9 (by decide)⟩) [0, 1] (by decide +kernel) rfl (Nat.le_of_ble_eq_true rfl) (Nat.le_of_ble_eq_true rfl)
set_option maxHeartbeats 1000000 in
set_option maxRecDepth 100000 in
theorem s_has2 (l : Launch) (D : va_G) (cy : Nat → ClassId) (h0 : Nat) (h1 : Nat) (h2 : Nat) (h3 : Nat) (h4 : Nat) (h5 : Nat) (h6 : Nat) (h7 : Nat) (h8 : Nat) (h9 : Nat) (h10 : Nat) (h11 : Nat) (hv0 : Value) (hv1 : Value) (hv2 : Value) (hv3 : Value) (hv4 : Value) (fc : Nat → Int32) (c0 : Nat) (c1 : Nat) (c2 : Nat) (c3 : Nat) (ix : Int32) (hcn : cntOK fc c0 c1 c2 c3) (hc0 : c0 ≤ 8) (hc1 : c1 ≤ 4) (hc2 : c2 ≤ 4) (hc3 : c3 ≤ 6) : XMi l D (tyL cy) E0 yX4_has cX4_has 3 (some .boolean) (rmk 0 0 0) [.ref h0, .int 2, .int ix] [wO h0 4 [.ref h1, .ref h2, .ref h3, .ref h4, .ref h5, .ref h6, .ref h7, .ref h8, .ref h9, .ref h10, .ref h11, hv0, hv1, hv2, hv3, hv4], wI (cy 1) h1 4 (fc)] (fun (r : Int32) (_ : Unit) => (r = 0 ∨ (r = 1 ∧ ∃ j : Nat, j < c2 ∧ ix = nI j)) ∧ (r = 0 → ¬ inR ix c2)) (fun (_ : Unit) => [wO h0 4 [.ref h1, .ref h2, .ref h3, .ref h4, .ref h5, .ref h6, .ref h7, .ref h8, .ref h9, .ref h10, .ref h11, hv0, hv1, hv2, hv3, hv4], wI (cy 1) h1 4 (fc)]) := by
  refine XMi.start (by decide) (Nat.le_of_ble_eq_true rfl) ?_
  intro p e s m below meth c args A ls Q hat hQ
  obtain ⟨hx, hb, hr, hml, hown, hg, hlocks, hin, hK, hA, hP, hD, hS, hE, hl⟩ := hat
  have hown : s.vm.findClass RX4 = some m.cls := hown
  have hl : lv_has ls 3 [(0, .ref h0), (1, .int 2), (2, .int ix)] := hl
  refine lv_iload_n hx hb dX4_has_0 rfl (lv_at hl 2 rfl) ?_
  refine lv_if_lt (tgt := 18) hx hb dX4_has_1 (by decide) (fun c_1 => ?_) (fun c_1 => ?_)
  · refine lv_iconst (v := 0) hx hb dX4_has_18 (by decide) ?_
    exact x_zret hQ hx hb hr hlocks hK hP hD hS rfl dX4_has_19 () (⟨Or.inl rfl, fun _ => inR_neg (by omega) c_1⟩) [0, 1] (by decide +kernel) rfl (Nat.le_of_ble_eq_true rfl) (Nat.le_of_ble_eq_true rfl)
  · refine lv_iload_n hx hb dX4_has_4 rfl (lv_at hl 2 rfl) ?_
    refine lv_aload_n hx hb dX4_has_5 rfl (lv_at hl 0 rfl) ?_
    refine va_get (D := D) (ci := 4) (v := .ref h1) (C := RX4) (T := TX4) (N := 16) hx hb hg i_X4 hown hK hP 0 rfl rfl 0 (by decide) (hg _ m_329) (fun _ h9 => h9) rfl dX4_has_6 ?_
    refine lv_iload_n hx hb dX4_has_9 rfl (lv_at hl 1 rfl) ?_
    refine va_iald hx hb hK hP 1 1 rfl rfl (by unfold vp_in; decide) dX4_has_10 ?_
    refine lv_topi (fun y_1 hy_1 => ?_)
    obtain rfl : y_1 = nI c2 := hy_1.trans hcn.2.2.1
    refine lv_icmp_ge (tgt := 18) hx hb dX4_has_11 (by decide) (fun c_11 => ?_) (fun c_11 => ?_)
    · refine lv_iconst (v := 0) hx hb dX4_has_18 (by decide) ?_
      exact x_zret hQ hx hb hr hlocks hK hP hD hS rfl dX4_has_19 () (⟨Or.inl rfl, fun _ => inR_ge (by omega) c_11⟩) [0, 1] (by decide +kernel) rfl (Nat.le_of_ble_eq_true rfl) (Nat.le_of_ble_eq_true rfl)
    · refine lv_iconst (v := 1) hx hb dX4_has_14 (by decide) ?_
      refine lv_goto (tgt := 19) hx hb dX4_has_15 (by decide) ?_
      exact x_zret hQ hx hb hr hlocks hK hP hD hS rfl dX4_has_19 () (⟨Or.inr ⟨rfl, has_in (by omega) c_1 c_11⟩, fun h9 => absurd h9 (by decide)⟩) [0, 1] (by decide +kernel) rfl (Nat.le_of_ble_eq_true rfl) (Nat.le_of_ble_eq_true rfl)
set_option maxHeartbeats 1000000 in
set_option maxRecDepth 100000 in
theorem s_has3 (l : Launch) (D : va_G) (cy : Nat → ClassId) (h0 : Nat) (h1 : Nat) (h2 : Nat) (h3 : Nat) (h4 : Nat) (h5 : Nat) (h6 : Nat) (h7 : Nat) (h8 : Nat) (h9 : Nat) (h10 : Nat) (h11 : Nat) (hv0 : Value) (hv1 : Value) (hv2 : Value) (hv3 : Value) (hv4 : Value) (fc : Nat → Int32) (c0 : Nat) (c1 : Nat) (c2 : Nat) (c3 : Nat) (ix : Int32) (hcn : cntOK fc c0 c1 c2 c3) (hc0 : c0 ≤ 8) (hc1 : c1 ≤ 4) (hc2 : c2 ≤ 4) (hc3 : c3 ≤ 6) : XMi l D (tyL cy) E0 yX4_has cX4_has 3 (some .boolean) (rmk 0 0 0) [.ref h0, .int 3, .int ix] [wO h0 4 [.ref h1, .ref h2, .ref h3, .ref h4, .ref h5, .ref h6, .ref h7, .ref h8, .ref h9, .ref h10, .ref h11, hv0, hv1, hv2, hv3, hv4], wI (cy 1) h1 4 (fc)] (fun (r : Int32) (_ : Unit) => (r = 0 ∨ (r = 1 ∧ ∃ j : Nat, j < c3 ∧ ix = nI j)) ∧ (r = 0 → ¬ inR ix c3)) (fun (_ : Unit) => [wO h0 4 [.ref h1, .ref h2, .ref h3, .ref h4, .ref h5, .ref h6, .ref h7, .ref h8, .ref h9, .ref h10, .ref h11, hv0, hv1, hv2, hv3, hv4], wI (cy 1) h1 4 (fc)]) := by
  refine XMi.start (by decide) (Nat.le_of_ble_eq_true rfl) ?_
  intro p e s m below meth c args A ls Q hat hQ
  obtain ⟨hx, hb, hr, hml, hown, hg, hlocks, hin, hK, hA, hP, hD, hS, hE, hl⟩ := hat
  have hown : s.vm.findClass RX4 = some m.cls := hown
  have hl : lv_has ls 3 [(0, .ref h0), (1, .int 3), (2, .int ix)] := hl
  refine lv_iload_n hx hb dX4_has_0 rfl (lv_at hl 2 rfl) ?_
  refine lv_if_lt (tgt := 18) hx hb dX4_has_1 (by decide) (fun c_1 => ?_) (fun c_1 => ?_)
  · refine lv_iconst (v := 0) hx hb dX4_has_18 (by decide) ?_
    exact x_zret hQ hx hb hr hlocks hK hP hD hS rfl dX4_has_19 () (⟨Or.inl rfl, fun _ => inR_neg (by omega) c_1⟩) [0, 1] (by decide +kernel) rfl (Nat.le_of_ble_eq_true rfl) (Nat.le_of_ble_eq_true rfl)
  · refine lv_iload_n hx hb dX4_has_4 rfl (lv_at hl 2 rfl) ?_
    refine lv_aload_n hx hb dX4_has_5 rfl (lv_at hl 0 rfl) ?_
    refine va_get (D := D) (ci := 4) (v := .ref h1) (C := RX4) (T := TX4) (N := 16) hx hb hg i_X4 hown hK hP 0 rfl rfl 0 (by decide) (hg _ m_329) (fun _ h9 => h9) rfl dX4_has_6 ?_
    refine lv_iload_n hx hb dX4_has_9 rfl (lv_at hl 1 rfl) ?_
    refine va_iald hx hb hK hP 1 1 rfl rfl (by unfold vp_in; decide) dX4_has_10 ?_
    refine lv_topi (fun y_1 hy_1 => ?_)
    obtain rfl : y_1 = nI c3 := hy_1.trans hcn.2.2.2
    refine lv_icmp_ge (tgt := 18) hx hb dX4_has_11 (by decide) (fun c_11 => ?_) (fun c_11 => ?_)
    · refine lv_iconst (v := 0) hx hb dX4_has_18 (by decide) ?_
      exact x_zret hQ hx hb hr hlocks hK hP hD hS rfl dX4_has_19 () (⟨Or.inl rfl, fun _ => inR_ge (by omega) c_11⟩) [0, 1] (by decide +kernel) rfl (Nat.le_of_ble_eq_true rfl) (Nat.le_of_ble_eq_true rfl)
    · refine lv_iconst (v := 1) hx hb dX4_has_14 (by decide) ?_
      refine lv_goto (tgt := 19) hx hb dX4_has_15 (by decide) ?_
      exact x_zret hQ hx hb hr hlocks hK hP hD hS rfl dX4_has_19 () (⟨Or.inr ⟨rfl, has_in (by omega) c_1 c_11⟩, fun h9 => absurd h9 (by decide)⟩) [0, 1] (by decide +kernel) rfl (Nat.le_of_ble_eq_true rfl) (Nat.le_of_ble_eq_true rfl)
theorem gdX4_far_0 : decode cX4_far 0 = .ok (.iload_n 2, 1) ∧ decode cX4_far 1 = .ok (.aload_n 0, 1) ∧ decode cX4_far 2 = .ok (.getfield 18, 3) ∧ decode cX4_far 5 = .ok (.iload_n 1, 1) ∧ decode cX4_far 6 = .ok (.iaload, 1) ∧ decode cX4_far 7 = .ok (.isub, 1) ∧ decode cX4_far 8 = .ok (.invokestatic 72, 3) ∧ decode cX4_far 11 = .ok (.ireturn, 1) := by decide +kernel
theorem dX4_far_0 : decode cX4_far 0 = .ok (.iload_n 2, 1) := gdX4_far_0.1
theorem dX4_far_1 : decode cX4_far 1 = .ok (.aload_n 0, 1) := gdX4_far_0.2.1
theorem dX4_far_2 : decode cX4_far 2 = .ok (.getfield 18, 3) := gdX4_far_0.2.2.1
theorem dX4_far_5 : decode cX4_far 5 = .ok (.iload_n 1, 1) := gdX4_far_0.2.2.2.1
theorem dX4_far_6 : decode cX4_far 6 = .ok (.iaload, 1) := gdX4_far_0.2.2.2.2.1
theorem dX4_far_7 : decode cX4_far 7 = .ok (.isub, 1) := gdX4_far_0.2.2.2.2.2.1
theorem dX4_far_8 : decode cX4_far 8 = .ok (.invokestatic 72, 3) := gdX4_far_0.2.2.2.2.2.2.1
theorem dX4_far_11 : decode cX4_far 11 = .ok (.ireturn, 1) := gdX4_far_0.2.2.2.2.2.2.2
set_option maxHeartbeats 1000000 in
set_option maxRecDepth 100000 in
theorem s_far (l : Launch) (D : va_G) (cy : Nat → ClassId) (h0 : Nat) (h1 : Nat) (h2 : Nat) (h3 : Nat) (h4 : Nat) (h5 : Nat) (h6 : Nat) (h7 : Nat) (h8 : Nat) (h9 : Nat) (h10 : Nat) (h11 : Nat) (hv0 : Value) (hv1 : Value) (hv2 : Value) (hv3 : Value) (hv4 : Value) (fp : Nat → Int32) (j : Nat) (pl : Int32) (hj : j < 4) : XMi l D (tyL cy) E0 yX4_far cX4_far 3 (some .int) (rmk 1 0 0) [.ref h0, .int (nI j), .int pl] [wO h0 4 [.ref h1, .ref h2, .ref h3, .ref h4, .ref h5, .ref h6, .ref h7, .ref h8, .ref h9, .ref h10, .ref h11, hv0, hv1, hv2, hv3, hv4], wI (cy 1) h3 4 (fp)] (fun (r : Int32) (_ : Unit) => True) (fun (_ : Unit) => [wO h0 4 [.ref h1, .ref h2, .ref h3, .ref h4, .ref h5, .ref h6, .ref h7, .ref h8, .ref h9, .ref h10, .ref h11, hv0, hv1, hv2, hv3, hv4], wI (cy 1) h3 4 (fp)]) := by
  refine XMi.start (by decide) (Nat.le_of_ble_eq_true rfl) ?_
  intro p e s m below meth c args A ls Q hat hQ
  obtain ⟨hx, hb, hr, hml, hown, hg, hlocks, hin, hK, hA, hP, hD, hS, hE, hl⟩ := hat
  have hown : s.vm.findClass RX4 = some m.cls := hown
  have hl : lv_has ls 3 [(0, .ref h0), (1, .int (nI j)), (2, .int pl)] := hl
  refine lv_iload_n hx hb dX4_far_0 rfl (lv_at hl 2 rfl) ?_
  refine lv_aload_n hx hb dX4_far_1 rfl (lv_at hl 0 rfl) ?_
  refine va_get (D := D) (ci := 4) (v := .ref h3) (C := RX4) (T := TX4) (N := 16) hx hb hg i_X4 hown hK hP 0 rfl rfl 2 (by decide) (hg _ m_341) (fun _ h9 => h9) rfl dX4_far_2 ?_
  refine lv_iload_n hx hb dX4_far_5 rfl (lv_at hl 1 rfl) ?_
  refine va_iald hx hb hK hP 1 1 rfl rfl (vp_in_nI (by omega) (by decide)) dX4_far_6 ?_
  refine lv_topi (fun x_1 ex_1 => ?_)
  refine lv_isub hx hb dX4_far_7 ?_
  refine lv_topi (fun x_2 ex_2 => ?_)
  refine va_mabs hx hb (hml.trans hl.1.symm) hown (hg _ m_1026) (hg _ m_1027) (hg _ m_147) (hg _ m_1028) (by decide) (Nat.le_of_ble_eq_true rfl) (by decide) (by decide) dX4_far_8 ?_
  refine lv_topi (fun x_3 ex_3 => ?_)
  exact x_iret hQ hx hb hr hlocks hK hP hD hS dX4_far_11 () (trivial) [0, 1] (by decide +kernel) rfl (Nat.le_of_ble_eq_true rfl) (Nat.le_of_ble_eq_true rfl)
theorem gdX4_comes_0 : decode cX4_comes 0 = .ok (.aload_n 1, 1) ∧ decode cX4_comes 1 = .ok (.iconst 3, 1) ∧ decode cX4_comes 2 = .ok (.iaload, 1) ∧ decode cX4_comes 3 = .ok (.istore_n 2, 1) ∧ decode cX4_comes 4 = .ok (.aload_n 0, 1) ∧ decode cX4_comes 5 = .ok (.getfield 39, 3) ∧ decode cX4_comes 8 = .ok (.getfield 78, 3) ∧ decode cX4_comes 11 = .ok (.ifCond .eq 14, 3) ∧ decode cX4_comes 25 = .ok (.iconst 3, 1) ∧ decode cX4_comes 26 = .ok (.istore_n 3, 1) ∧ decode cX4_comes 27 = .ok (.iconst 0, 1) ∧ decode cX4_comes 28 = .ok (.iload_n 2, 1) := by decide +kernel
theorem dX4_comes_0 : decode cX4_comes 0 = .ok (.aload_n 1, 1) := gdX4_comes_0.1
theorem dX4_comes_1 : decode cX4_comes 1 = .ok (.iconst 3, 1) := gdX4_comes_0.2.1
theorem dX4_comes_2 : decode cX4_comes 2 = .ok (.iaload, 1) := gdX4_comes_0.2.2.1
theorem dX4_comes_3 : decode cX4_comes 3 = .ok (.istore_n 2, 1) := gdX4_comes_0.2.2.2.1
theorem dX4_comes_4 : decode cX4_comes 4 = .ok (.aload_n 0, 1) := gdX4_comes_0.2.2.2.2.1
theorem dX4_comes_5 : decode cX4_comes 5 = .ok (.getfield 39, 3) := gdX4_comes_0.2.2.2.2.2.1
theorem dX4_comes_8 : decode cX4_comes 8 = .ok (.getfield 78, 3) := gdX4_comes_0.2.2.2.2.2.2.1
theorem dX4_comes_11 : decode cX4_comes 11 = .ok (.ifCond .eq 14, 3) := gdX4_comes_0.2.2.2.2.2.2.2.1
theorem dX4_comes_25 : decode cX4_comes 25 = .ok (.iconst 3, 1) := gdX4_comes_0.2.2.2.2.2.2.2.2.1
theorem dX4_comes_26 : decode cX4_comes 26 = .ok (.istore_n 3, 1) := gdX4_comes_0.2.2.2.2.2.2.2.2.2.1
theorem dX4_comes_27 : decode cX4_comes 27 = .ok (.iconst 0, 1) := gdX4_comes_0.2.2.2.2.2.2.2.2.2.2.1
theorem dX4_comes_28 : decode cX4_comes 28 = .ok (.iload_n 2, 1) := gdX4_comes_0.2.2.2.2.2.2.2.2.2.2.2
theorem gdX4_comes_29 : decode cX4_comes 29 = .ok (.iload_n 3, 1) ∧ decode cX4_comes 30 = .ok (.invokestatic 86, 3) ∧ decode cX4_comes 33 = .ok (.invokestatic 90, 3) ∧ decode cX4_comes 36 = .ok (.ireturn, 1) ∧ decode cX4_comes 14 = .ok (.aload_n 0, 1) ∧ decode cX4_comes 15 = .ok (.getfield 39, 3) ∧ decode cX4_comes 18 = .ok (.aload_n 1, 1) ∧ decode cX4_comes 19 = .ok (.invokevirtual 82, 3) := by decide +kernel
theorem dX4_comes_29 : decode cX4_comes 29 = .ok (.iload_n 3, 1) := gdX4_comes_29.1
theorem dX4_comes_30 : decode cX4_comes 30 = .ok (.invokestatic 86, 3) := gdX4_comes_29.2.1
theorem dX4_comes_33 : decode cX4_comes 33 = .ok (.invokestatic 90, 3) := gdX4_comes_29.2.2.1
theorem dX4_comes_36 : decode cX4_comes 36 = .ok (.ireturn, 1) := gdX4_comes_29.2.2.2.1
theorem dX4_comes_14 : decode cX4_comes 14 = .ok (.aload_n 0, 1) := gdX4_comes_29.2.2.2.2.1
theorem dX4_comes_15 : decode cX4_comes 15 = .ok (.getfield 39, 3) := gdX4_comes_29.2.2.2.2.2.1
theorem dX4_comes_18 : decode cX4_comes 18 = .ok (.aload_n 1, 1) := gdX4_comes_29.2.2.2.2.2.2.1
theorem dX4_comes_19 : decode cX4_comes 19 = .ok (.invokevirtual 82, 3) := gdX4_comes_29.2.2.2.2.2.2.2
theorem k_X4_82 : xV RX4 RX3 82 yX3_value cX3_value 6 (some .int) 1 := ⟨⟨m_1046, m_1047, m_1048, m_138, m_1049⟩, rfl, by decide, by decide, by decide +kernel⟩
theorem dX4_comes_22 : decode cX4_comes 22 = .ok (.goto 4, 3) := by decide +kernel
set_option maxHeartbeats 1000000 in
set_option maxRecDepth 100000 in
theorem s_comes (l : Launch) (D : va_G) (cy : Nat → ClassId) (h0 : Nat) (h1 : Nat) (h2 : Nat) (h3 : Nat) (h4 : Nat) (h5 : Nat) (h6 : Nat) (h7 : Nat) (h8 : Nat) (h9 : Nat) (h10 : Nat) (h11 : Nat) (hv0 : Value) (hv1 : Value) (hv2 : Value) (hv3 : Value) (hv4 : Value) (h9a : Nat) (h9b : Nat) (nb : Nat) (tb : Int32) (fcb : Nat → Int32) (fsb : Nat → Int32) (fa0 : Nat) (ff : Nat → Int32) (n : Nat) (hnb : nb ≤ 280) (hcb : cOK fcb nb) (hff : ff 3 = nI n) (hn : n ≤ 10) : XMi l D (tyL cy) E0 yX4_comes cX4_comes 4 (some .int) (rmk 2 0 0) [.ref h0, .ref fa0] [wO h0 4 [.ref h1, .ref h2, .ref h3, .ref h4, .ref h5, .ref h6, .ref h7, .ref h8, .ref h9, .ref h10, .ref h11, hv0, hv1, hv2, hv3, hv4], wO h9 3 [.ref h9a, .ref h9b, .int (nI nb), .int tb], wI (cy 1) h9a 280 (fcb), wI (cy 1) h9b 31 (fsb), wI (cy 1) fa0 7 (ff)] (fun (r : Int32) (u : (Nat → Int32) × Nat) => (r = nI u.2) ∧ (u.2 ≤ n)) (fun (u : (Nat → Int32) × Nat) => [wO h0 4 [.ref h1, .ref h2, .ref h3, .ref h4, .ref h5, .ref h6, .ref h7, .ref h8, .ref h9, .ref h10, .ref h11, hv0, hv1, hv2, hv3, hv4], wO h9 3 [.ref h9a, .ref h9b, .int (nI nb), .int tb], wI (cy 1) h9a 280 (fcb), wI (cy 1) h9b 31 (u.1), wI (cy 1) fa0 7 (ff)]) := by
  refine XMi.start (by decide) (Nat.le_of_ble_eq_true rfl) ?_
  intro p e s m below meth c args A ls Q hat hQ
  obtain ⟨hx, hb, hr, hml, hown, hg, hlocks, hin, hK, hA, hP, hD, hS, hE, hl⟩ := hat
  have hown : s.vm.findClass RX4 = some m.cls := hown
  have hl : lv_has ls 4 [(0, .ref h0), (1, .ref fa0)] := hl
  refine lv_aload_n hx hb dX4_comes_0 rfl (lv_at hl 1 rfl) ?_
  refine lv_iconst (v := 3) hx hb dX4_comes_1 (by decide) ?_
  refine va_iald hx hb hK hP 4 1 rfl rfl (by unfold vp_in; decide) dX4_comes_2 ?_
  refine lv_topi (fun x_1 ex_1 => ?_)
  obtain rfl : x_1 = nI n := ex_1.trans hff
  refine lv_istore_n (lv' := [(2, .int (nI n)), (0, .ref h0), (1, .ref fa0)]) hx hb dX4_comes_3 rfl hl (by decide) rfl (fun ls hl => ?_)
  refine lv_aload_n hx hb dX4_comes_4 rfl (lv_at hl 1 rfl) ?_
  refine va_get (D := D) (ci := 4) (v := .ref h9) (C := RX4) (T := TX4) (N := 16) hx hb hg i_X4 hown hK hP 0 rfl rfl 8 (by decide) (hg _ m_360) (fun _ h9 => h9) rfl dX4_comes_5 ?_
  refine va_get (D := D) (ci := 3) (v := .int tb) (C := RX3) (T := TX3) (N := 4) hx hb hg i_X3 hown hK hP 1 rfl rfl 3 (by decide) (hg _ m_305) (fun _ h9 => h9) rfl dX4_comes_8 ?_
  refine lv_if_eq (tgt := 25) hx hb dX4_comes_11 (by decide) (fun c_11 => ?_) (fun c_11 => ?_)
  · refine lv_iconst (v := 3) hx hb dX4_comes_25 (by decide) ?_
    refine lv_istore_n (lv' := [(3, .int 3), (2, .int (nI n)), (0, .ref h0), (1, .ref fa0)]) hx hb dX4_comes_26 rfl hl (by decide) rfl (fun ls hl => ?_)
    refine lv_iconst (v := 0) hx hb dX4_comes_27 (by decide) ?_
    refine lv_iload_n hx hb dX4_comes_28 rfl (lv_at hl 1 rfl) ?_
    refine lv_iload_n hx hb dX4_comes_29 rfl (lv_at hl 0 rfl) ?_
    refine va_mmin hx hb (hml.trans hl.1.symm) hown (hg _ m_1053) (hg _ m_770) (hg _ m_147) (hg _ m_771) (by decide) (Nat.le_of_ble_eq_true rfl) (by decide) (by decide) dX4_comes_30 ?_
    refine lv_topi (fun x_2 ex_2 => ?_)
    refine va_mmax hx hb (hml.trans hl.1.symm) hown (hg _ m_1054) (hg _ m_767) (hg _ m_147) (hg _ m_768) (by decide) (Nat.le_of_ble_eq_true rfl) (by decide) (by decide) dX4_comes_33 ?_
    refine lv_topi (fun x_3 ex_3 => ?_)
    obtain ⟨kk, hkk, ekk⟩ := clampN 3 (n := n) (by omega)
    obtain rfl : x_3 = nI kk := by rw [ex_3, ex_2]; exact ekk
    exact x_iret hQ hx hb hr hlocks hK hP hD hS dX4_comes_36 (fsb, kk) (⟨rfl, (show kk ≤ n from by omega)⟩) [0, 1, 2, 3, 4] (by decide +kernel) rfl (Nat.le_of_ble_eq_true rfl) (Nat.le_of_ble_eq_true rfl)
  · refine lv_aload_n hx hb dX4_comes_14 rfl (lv_at hl 1 rfl) ?_
    refine va_get (D := D) (ci := 4) (v := .ref h9) (C := RX4) (T := TX4) (N := 16) hx hb hg i_X4 hown hK hP 0 rfl rfl 8 (by decide) (hg _ m_360) (fun _ h9 => h9) rfl dX4_comes_15 ?_
    refine lv_aload_n hx hb dX4_comes_18 rfl (lv_at hl 2 rfl) ?_
    refine x_callVi (q := (RX3, TX3, 4)) (ci := 3) (q0 := 0) (wr := [wO h0 4 [.ref h1, .ref h2, .ref h3, .ref h4, .ref h5, .ref h6, .ref h7, .ref h8, .ref h9, .ref h10, .ref h11, hv0, hv1, hv2, hv3, hv4]]) (rest := []) ⟨hx, hb, hml, hown, hg, hl.1⟩ k_X4_82 (s_value l D cy h9 h9a h9b nb ((.int tb)) fcb fsb fa0 ff (by omega) (hcb)) E0_blind hK hP hD hS hA [1, 2, 3, 4] [0] ⟨rfl, rfl, by decide +kernel, by decide +kernel, by decide +kernel⟩ rfl rfl (fun _ _ _ => trivial) dX4_comes_19 rfl rfl (Nat.le_of_ble_eq_true rfl) ⟨Nat.le_of_ble_eq_true rfl, Nat.le_of_ble_eq_true rfl⟩ ⟨Nat.le_of_ble_eq_true rfl, Nat.le_of_ble_eq_true rfl⟩ (fun zr4 zu4 H locs hw4 hP9 hD9 hS9 => ?_)
    clear hP hD hS
    obtain ⟨fs2_5, rfl⟩ : ∃ z, z = zu4 := ⟨_, rfl⟩
    refine reW [wO h0 4 [.ref h1, .ref h2, .ref h3, .ref h4, .ref h5, .ref h6, .ref h7, .ref h8, .ref h9, .ref h10, .ref h11, hv0, hv1, hv2, hv3, hv4], wO h9 3 [.ref h9a, .ref h9b, .int (nI nb), .int tb], wI (cy 1) h9a 280 (fcb), wI (cy 1) h9b 31 (fs2_5), wI (cy 1) fa0 7 (ff)] hP9 hD9 hS9 (fun hP hD hS => ?_)
    clear hP9 hD9 hS9
    refine W.widen (k := 0) (n := 0) (Nat.le_of_ble_eq_true rfl) (Nat.le_of_ble_eq_true rfl) ?_
    replace hw4 : True := hw4
    refine lv_goto (tgt := 26) hx hb dX4_comes_22 (by decide) ?_
    refine lv_istore_n (lv' := [(3, .int zr4), (2, .int (nI n)), (0, .ref h0), (1, .ref fa0)]) hx hb dX4_comes_26 rfl hl (by decide) rfl (fun ls hl => ?_)
    refine lv_iconst (v := 0) hx hb dX4_comes_27 (by decide) ?_
    refine lv_iload_n hx hb dX4_comes_28 rfl (lv_at hl 1 rfl) ?_
    refine lv_iload_n hx hb dX4_comes_29 rfl (lv_at hl 0 rfl) ?_
    refine va_mmin hx hb (hml.trans hl.1.symm) hown (hg _ m_1053) (hg _ m_770) (hg _ m_147) (hg _ m_771) (by decide) (Nat.le_of_ble_eq_true rfl) (by decide) (by decide) dX4_comes_30 ?_
    refine lv_topi (fun x_6 ex_6 => ?_)
    refine va_mmax hx hb (hml.trans hl.1.symm) hown (hg _ m_1054) (hg _ m_767) (hg _ m_147) (hg _ m_768) (by decide) (Nat.le_of_ble_eq_true rfl) (by decide) (by decide) dX4_comes_33 ?_
    refine lv_topi (fun x_7 ex_7 => ?_)
    obtain ⟨kk, hkk, ekk⟩ := clampN zr4 (n := n) (by omega)
    obtain rfl : x_7 = nI kk := by rw [ex_7, ex_6]; exact ekk
    exact x_iret hQ hx hb hr hlocks hK hP hD hS dX4_comes_36 (fs2_5, kk) (⟨rfl, (show kk ≤ n from by omega)⟩) [0, 1, 2, 3, 4] (by decide +kernel) rfl (Nat.le_of_ble_eq_true rfl) (Nat.le_of_ble_eq_true rfl)
theorem gdX4_isYesState_0 : decode cX4_isYesState 0 = .ok (.aload_n 0, 1) ∧ decode cX4_isYesState 1 = .ok (.getfield 56, 3) ∧ decode cX4_isYesState 4 = .ok (.iload_n 1, 1) ∧ decode cX4_isYesState 5 = .ok (.ishr, 1) ∧ decode cX4_isYesState 6 = .ok (.iconst 1, 1) ∧ decode cX4_isYesState 7 = .ok (.iand, 1) ∧ decode cX4_isYesState 8 = .ok (.ifCond .eq 7, 3) ∧ decode cX4_isYesState 15 = .ok (.iconst 0, 1) ∧ decode cX4_isYesState 16 = .ok (.ireturn, 1) ∧ decode cX4_isYesState 11 = .ok (.iconst 1, 1) ∧ decode cX4_isYesState 12 = .ok (.goto 4, 3) := by decide +kernel
theorem dX4_isYesState_0 : decode cX4_isYesState 0 = .ok (.aload_n 0, 1) := gdX4_isYesState_0.1
theorem dX4_isYesState_1 : decode cX4_isYesState 1 = .ok (.getfield 56, 3) := gdX4_isYesState_0.2.1
theorem dX4_isYesState_4 : decode cX4_isYesState 4 = .ok (.iload_n 1, 1) := gdX4_isYesState_0.2.2.1
theorem dX4_isYesState_5 : decode cX4_isYesState 5 = .ok (.ishr, 1) := gdX4_isYesState_0.2.2.2.1
theorem dX4_isYesState_6 : decode cX4_isYesState 6 = .ok (.iconst 1, 1) := gdX4_isYesState_0.2.2.2.2.1
theorem dX4_isYesState_7 : decode cX4_isYesState 7 = .ok (.iand, 1) := gdX4_isYesState_0.2.2.2.2.2.1
theorem dX4_isYesState_8 : decode cX4_isYesState 8 = .ok (.ifCond .eq 7, 3) := gdX4_isYesState_0.2.2.2.2.2.2.1
theorem dX4_isYesState_15 : decode cX4_isYesState 15 = .ok (.iconst 0, 1) := gdX4_isYesState_0.2.2.2.2.2.2.2.1
theorem dX4_isYesState_16 : decode cX4_isYesState 16 = .ok (.ireturn, 1) := gdX4_isYesState_0.2.2.2.2.2.2.2.2.1
theorem dX4_isYesState_11 : decode cX4_isYesState 11 = .ok (.iconst 1, 1) := gdX4_isYesState_0.2.2.2.2.2.2.2.2.2.1
theorem dX4_isYesState_12 : decode cX4_isYesState 12 = .ok (.goto 4, 3) := gdX4_isYesState_0.2.2.2.2.2.2.2.2.2.2
set_option maxHeartbeats 1000000 in
set_option maxRecDepth 100000 in
theorem s_isYesState (l : Launch) (D : va_G) (cy : Nat → ClassId) (h0 : Nat) (h1 : Nat) (h2 : Nat) (h3 : Nat) (h4 : Nat) (h5 : Nat) (h6 : Nat) (h7 : Nat) (h8 : Nat) (h9 : Nat) (h10 : Nat) (h11 : Nat) (hv1 : Value) (hv2 : Value) (hv3 : Value) (hv4 : Value) (ys : Int32) (sx : Int32)  : XMi l D (tyL cy) E0 yX4_isYesState cX4_isYesState 2 (some .boolean) (rmk 0 0 0) [.ref h0, .int sx] [wO h0 4 [.ref h1, .ref h2, .ref h3, .ref h4, .ref h5, .ref h6, .ref h7, .ref h8, .ref h9, .ref h10, .ref h11, .int ys, hv1, hv2, hv3, hv4]] (fun (r : Int32) (_ : Unit) => (r = 0 ∨ r = 1)) (fun (_ : Unit) => [wO h0 4 [.ref h1, .ref h2, .ref h3, .ref h4, .ref h5, .ref h6, .ref h7, .ref h8, .ref h9, .ref h10, .ref h11, .int ys, hv1, hv2, hv3, hv4]]) := by
  refine XMi.start (by decide) (Nat.le_of_ble_eq_true rfl) ?_
  intro p e s m below meth c args A ls Q hat hQ
  obtain ⟨hx, hb, hr, hml, hown, hg, hlocks, hin, hK, hA, hP, hD, hS, hE, hl⟩ := hat
  have hown : s.vm.findClass RX4 = some m.cls := hown
  have hl : lv_has ls 2 [(0, .ref h0), (1, .int sx)] := hl
  refine lv_aload_n hx hb dX4_isYesState_0 rfl (lv_at hl 0 rfl) ?_
  refine va_get (D := D) (ci := 4) (v := .int ys) (C := RX4) (T := TX4) (N := 16) hx hb hg i_X4 hown hK hP 0 rfl rfl 11 (by decide) (hg _ m_368) (fun _ h9 => h9) rfl dX4_isYesState_1 ?_
  refine lv_iload_n hx hb dX4_isYesState_4 rfl (lv_at hl 1 rfl) ?_
  refine lv_ishr hx hb dX4_isYesState_5 ?_
  refine lv_topi (fun x_1 ex_1 => ?_)
  refine lv_iconst (v := 1) hx hb dX4_isYesState_6 (by decide) ?_
  refine lv_iand hx hb dX4_isYesState_7 ?_
  refine lv_topi (fun x_2 ex_2 => ?_)
  refine lv_if_eq (tgt := 15) hx hb dX4_isYesState_8 (by decide) (fun c_8 => ?_) (fun c_8 => ?_)
  · refine lv_iconst (v := 0) hx hb dX4_isYesState_15 (by decide) ?_
    exact x_zret hQ hx hb hr hlocks hK hP hD hS rfl dX4_isYesState_16 () ((Or.inl rfl)) [0] (by decide +kernel) rfl (Nat.le_of_ble_eq_true rfl) (Nat.le_of_ble_eq_true rfl)
  · refine lv_iconst (v := 1) hx hb dX4_isYesState_11 (by decide) ?_
    refine lv_goto (tgt := 16) hx hb dX4_isYesState_12 (by decide) ?_
    exact x_zret hQ hx hb hr hlocks hK hP hD hS rfl dX4_isYesState_16 () ((Or.inr rfl)) [0] (by decide +kernel) rfl (Nat.le_of_ble_eq_true rfl) (Nat.le_of_ble_eq_true rfl)
theorem gdX4_isYes_0 : decode cX4_isYes 0 = .ok (.iconst 0, 1) ∧ decode cX4_isYes 1 = .ok (.istore_n 3, 1) ∧ decode cX4_isYes 2 = .ok (.iconst 0, 1) ∧ decode cX4_isYes 3 = .ok (.istore 4, 2) ∧ decode cX4_isYes 5 = .ok (.iload 4, 2) ∧ decode cX4_isYes 7 = .ok (.iload_n 2, 1) ∧ decode cX4_isYes 8 = .ok (.if_icmp .ge 24, 3) ∧ decode cX4_isYes 32 = .ok (.aload_n 0, 1) ∧ decode cX4_isYes 33 = .ok (.iload_n 3, 1) ∧ decode cX4_isYes 34 = .ok (.invokevirtual 93, 3) := by decide +kernel
theorem dX4_isYes_0 : decode cX4_isYes 0 = .ok (.iconst 0, 1) := gdX4_isYes_0.1
theorem dX4_isYes_1 : decode cX4_isYes 1 = .ok (.istore_n 3, 1) := gdX4_isYes_0.2.1
theorem dX4_isYes_2 : decode cX4_isYes 2 = .ok (.iconst 0, 1) := gdX4_isYes_0.2.2.1
theorem dX4_isYes_3 : decode cX4_isYes 3 = .ok (.istore 4, 2) := gdX4_isYes_0.2.2.2.1
theorem dX4_isYes_5 : decode cX4_isYes 5 = .ok (.iload 4, 2) := gdX4_isYes_0.2.2.2.2.1
theorem dX4_isYes_7 : decode cX4_isYes 7 = .ok (.iload_n 2, 1) := gdX4_isYes_0.2.2.2.2.2.1
theorem dX4_isYes_8 : decode cX4_isYes 8 = .ok (.if_icmp .ge 24, 3) := gdX4_isYes_0.2.2.2.2.2.2.1
theorem dX4_isYes_32 : decode cX4_isYes 32 = .ok (.aload_n 0, 1) := gdX4_isYes_0.2.2.2.2.2.2.2.1
theorem dX4_isYes_33 : decode cX4_isYes 33 = .ok (.iload_n 3, 1) := gdX4_isYes_0.2.2.2.2.2.2.2.2.1
theorem dX4_isYes_34 : decode cX4_isYes 34 = .ok (.invokevirtual 93, 3) := gdX4_isYes_0.2.2.2.2.2.2.2.2.2
theorem k_X4_93 : xV RX4 RX4 93 yX4_isYesState cX4_isYesState 2 (some .boolean) 1 := ⟨⟨m_1076, m_1077, m_1078, m_137, m_1079⟩, rfl, by decide, by decide, by decide +kernel⟩
theorem gdX4_isYes_37 : decode cX4_isYes 37 = .ok (.ireturn, 1) ∧ decode cX4_isYes 11 = .ok (.aload_n 0, 1) ∧ decode cX4_isYes 12 = .ok (.getfield 30, 3) ∧ decode cX4_isYes 15 = .ok (.iload_n 3, 1) ∧ decode cX4_isYes 16 = .ok (.bipush 8, 2) ∧ decode cX4_isYes 18 = .ok (.imul, 1) ∧ decode cX4_isYes 19 = .ok (.aload_n 1, 1) ∧ decode cX4_isYes 20 = .ok (.iload 4, 2) ∧ decode cX4_isYes 22 = .ok (.iaload, 1) ∧ decode cX4_isYes 23 = .ok (.iadd, 1) ∧ decode cX4_isYes 24 = .ok (.iaload, 1) ∧ decode cX4_isYes 25 = .ok (.istore_n 3, 1) := by decide +kernel
theorem dX4_isYes_37 : decode cX4_isYes 37 = .ok (.ireturn, 1) := gdX4_isYes_37.1
theorem dX4_isYes_11 : decode cX4_isYes 11 = .ok (.aload_n 0, 1) := gdX4_isYes_37.2.1
theorem dX4_isYes_12 : decode cX4_isYes 12 = .ok (.getfield 30, 3) := gdX4_isYes_37.2.2.1
theorem dX4_isYes_15 : decode cX4_isYes 15 = .ok (.iload_n 3, 1) := gdX4_isYes_37.2.2.2.1
theorem dX4_isYes_16 : decode cX4_isYes 16 = .ok (.bipush 8, 2) := gdX4_isYes_37.2.2.2.2.1
theorem dX4_isYes_18 : decode cX4_isYes 18 = .ok (.imul, 1) := gdX4_isYes_37.2.2.2.2.2.1
theorem dX4_isYes_19 : decode cX4_isYes 19 = .ok (.aload_n 1, 1) := gdX4_isYes_37.2.2.2.2.2.2.1
theorem dX4_isYes_20 : decode cX4_isYes 20 = .ok (.iload 4, 2) := gdX4_isYes_37.2.2.2.2.2.2.2.1
theorem dX4_isYes_22 : decode cX4_isYes 22 = .ok (.iaload, 1) := gdX4_isYes_37.2.2.2.2.2.2.2.2.1
theorem dX4_isYes_23 : decode cX4_isYes 23 = .ok (.iadd, 1) := gdX4_isYes_37.2.2.2.2.2.2.2.2.2.1
theorem dX4_isYes_24 : decode cX4_isYes 24 = .ok (.iaload, 1) := gdX4_isYes_37.2.2.2.2.2.2.2.2.2.2.1
theorem dX4_isYes_25 : decode cX4_isYes 25 = .ok (.istore_n 3, 1) := gdX4_isYes_37.2.2.2.2.2.2.2.2.2.2.2
theorem dX4_isYes_26 : decode cX4_isYes 26 = .ok (.iinc 4 1, 3) := by decide +kernel
theorem dX4_isYes_29 : decode cX4_isYes 29 = .ok (.goto (-24), 3) := by decide +kernel
set_option maxHeartbeats 1000000 in
set_option maxRecDepth 100000 in
theorem s_isYes (l : Launch) (D : va_G) (cy : Nat → ClassId) (h0 : Nat) (h1 : Nat) (h2 : Nat) (h3 : Nat) (h4 : Nat) (h5 : Nat) (h6 : Nat) (h7 : Nat) (h8 : Nat) (h9 : Nat) (h10 : Nat) (h11 : Nat) (hv1 : Value) (hv2 : Value) (hv3 : Value) (hv4 : Value) (ys : Int32) (fx : Nat → Int32) (ro : Nat) (fr : Nat → Int32) (cn : Nat) (hnx : rng fx 48 5) (hrw : rng fr 20 7) (hcn : cn ≤ 20) : XMi l D (tyL cy) E0 yX4_isYes cX4_isYes 5 (some .boolean) (rmk 1 0 0) [.ref h0, .ref ro, .int (nI cn)] [wO h0 4 [.ref h1, .ref h2, .ref h3, .ref h4, .ref h5, .ref h6, .ref h7, .ref h8, .ref h9, .ref h10, .ref h11, .int ys, hv1, hv2, hv3, hv4], wI (cy 1) h7 48 (fx), wI (cy 1) ro 20 (fr)] (fun (r : Int32) (_ : Unit) => (r = 0 ∨ r = 1)) (fun (_ : Unit) => [wO h0 4 [.ref h1, .ref h2, .ref h3, .ref h4, .ref h5, .ref h6, .ref h7, .ref h8, .ref h9, .ref h10, .ref h11, .int ys, hv1, hv2, hv3, hv4], wI (cy 1) h7 48 (fx), wI (cy 1) ro 20 (fr)]) := by
  refine XMi.start (by decide) (Nat.le_of_ble_eq_true rfl) ?_
  intro p e s m below meth c args A ls Q hat hQ
  obtain ⟨hx, hb, hr, hml, hown, hg, hlocks, hin, hK, hA, hP, hD, hS, hE, hl⟩ := hat
  have hown : s.vm.findClass RX4 = some m.cls := hown
  have hl : lv_has ls 5 [(0, .ref h0), (1, .ref ro), (2, .int (nI cn))] := hl
  refine lv_iconst (v := 0) hx hb dX4_isYes_0 (by decide) ?_
  refine lv_istore_n (lv' := [(3, .int 0), (0, .ref h0), (1, .ref ro), (2, .int (nI cn))]) hx hb dX4_isYes_1 rfl hl (by decide) rfl (fun ls hl => ?_)
  refine lv_iconst (v := 0) hx hb dX4_isYes_2 (by decide) ?_
  refine lv_istore (lv' := [(4, .int 0), (3, .int 0), (0, .ref h0), (1, .ref ro), (2, .int (nI cn))]) hx hb dX4_isYes_3 hl (by decide) rfl (fun ls hl => ?_)
  have loop1 : ∀ (zn : Nat) (st1 : Nat) (i1 : Nat), (i1 ≤ cn) → (st1 ≤ 5) → cn - i1 + 1 ≤ zn → ∀ (H : Heap) (locs : List Loc), va_P D vwCl [wO h0 4 [.ref h1, .ref h2, .ref h3, .ref h4, .ref h5, .ref h6, .ref h7, .ref h8, .ref h9, .ref h10, .ref h11, .int ys, hv1, hv2, hv3, hv4], wI (cy 1) h7 48 (fx), wI (cy 1) ro 20 (fr)] H → va_D A [wO h0 4 [.ref h1, .ref h2, .ref h3, .ref h4, .ref h5, .ref h6, .ref h7, .ref h8, .ref h9, .ref h10, .ref h11, .int ys, hv1, hv2, hv3, hv4], wI (cy 1) h7 48 (fx), wI (cy 1) ro 20 (fr)] → va_S A s.heap H locs → ∀ ls : Array Slot, lv_has ls 5 [(4, .int (nI i1)), (3, .int (nI st1)), (0, .ref h0), (1, .ref ro), (2, .int (nI cn))] → W p l e (rmk 1 0 0) s m args below meth c H locs 0 0 Q (F0 m 5 ls []) := by
    try clear hP hD hS
    intro zn
    induction zn with
    | zero => intro st1 i1 _ _ hz; exact absurd hz (by omega)
    | succ zn ih1 =>
      intro st1 i1 hf0_1 hf1_1 hmu1 H locs hP hD hS ls hl
      refine lv_iload hx hb dX4_isYes_5 (lv_at hl 0 rfl) ?_
      refine lv_iload_n hx hb dX4_isYes_7 rfl (lv_at hl 4 rfl) ?_
      refine lv_icmp_ge (tgt := 32) hx hb dX4_isYes_8 (by decide) (fun c_2 => ?_) (fun c_2 => ?_)
      · have q_3 : cn ≤ i1 := q_le (a := cn) (b := i1) rfl rfl (by omega) (by omega) c_2
        refine lv_aload_n hx hb dX4_isYes_32 rfl (lv_at hl 2 rfl) ?_
        refine lv_iload_n hx hb dX4_isYes_33 rfl (lv_at hl 1 rfl) ?_
        refine x_callVi (q := (RX4, TX4, 16)) (ci := 4) (q0 := 0) (wr := [wI (cy 1) h7 48 (fx), wI (cy 1) ro 20 (fr)]) (rest := []) ⟨hx, hb, hml, hown, hg, hl.1⟩ k_X4_93 (s_isYesState l D cy h0 h1 h2 h3 h4 h5 h6 h7 h8 h9 h10 h11 hv1 hv2 hv3 hv4 ys (nI st1)) E0_blind hK hP hD hS hA [0] [1, 2] ⟨rfl, rfl, by decide +kernel, by decide +kernel, by decide +kernel⟩ rfl rfl (fun _ _ _ => trivial) dX4_isYes_34 rfl rfl (Nat.le_of_ble_eq_true rfl) ⟨Nat.le_of_ble_eq_true rfl, Nat.le_of_ble_eq_true rfl⟩ ⟨Nat.le_of_ble_eq_true rfl, Nat.le_of_ble_eq_true rfl⟩ (fun zr4 zu4 H locs hw4 hP9 hD9 hS9 => ?_)
        clear hP hD hS
        refine reW [wI (cy 1) h7 48 (fx), wI (cy 1) ro 20 (fr), wO h0 4 [.ref h1, .ref h2, .ref h3, .ref h4, .ref h5, .ref h6, .ref h7, .ref h8, .ref h9, .ref h10, .ref h11, .int ys, hv1, hv2, hv3, hv4]] hP9 hD9 hS9 (fun hP hD hS => ?_)
        clear hP9 hD9 hS9
        refine W.widen (k := 0) (n := 0) (Nat.le_of_ble_eq_true rfl) (Nat.le_of_ble_eq_true rfl) ?_
        replace hw4 : (zr4 = 0 ∨ zr4 = 1) := hw4
        have f_5 := hw4
        exact x_zret hQ hx hb hr hlocks hK hP hD hS (narB f_5) dX4_isYes_37 () (f_5) [2, 0, 1] (by decide +kernel) rfl (Nat.le_of_ble_eq_true rfl) (Nat.le_of_ble_eq_true rfl)
      · have q_3 : i1 < cn := q_nle (a := cn) (b := i1) rfl rfl (by omega) (by omega) c_2
        refine lv_aload_n hx hb dX4_isYes_11 rfl (lv_at hl 2 rfl) ?_
        refine va_get (D := D) (ci := 4) (v := .ref h7) (C := RX4) (T := TX4) (N := 16) hx hb hg i_X4 hown hK hP 0 rfl rfl 6 (by decide) (hg _ m_354) (fun _ h9 => h9) rfl dX4_isYes_12 ?_
        refine lv_iload_n hx hb dX4_isYes_15 rfl (lv_at hl 1 rfl) ?_
        refine lv_bipush (v := 8) hx hb dX4_isYes_16 (by decide) ?_
        refine lv_imul hx hb dX4_isYes_18 ?_
        refine lv_topi (fun y_6 hy_6 => ?_)
        obtain rfl : y_6 = nI (st1 * 8) := hy_6.trans (pk_mul st1 8)
        refine lv_aload_n hx hb dX4_isYes_19 rfl (lv_at hl 3 rfl) ?_
        refine lv_iload hx hb dX4_isYes_20 (lv_at hl 0 rfl) ?_
        refine va_iald hx hb hK hP 2 1 rfl rfl (vp_in_nI (by omega) (by decide)) dX4_isYes_22 ?_
        obtain ⟨j_7, hj_7, ej_7⟩ := rng_at hrw (i := i1) (by omega) (by decide)
        refine lv_topi (fun y_8 hy_8 => ?_)
        obtain rfl : y_8 = nI j_7 := hy_8.trans ej_7
        refine lv_iadd hx hb dX4_isYes_23 ?_
        refine lv_topi (fun y_9 hy_9 => ?_)
        obtain rfl : y_9 = nI ((st1 * 8) + j_7) := hy_9.trans (nI_add ((st1 * 8)) j_7)
        refine va_iald hx hb hK hP 1 1 rfl rfl (vp_in_nI (by omega) (by decide)) dX4_isYes_24 ?_
        obtain ⟨j_10, hj_10, ej_10⟩ := rng_at hnx (i := ((st1 * 8) + j_7)) (by omega) (by decide)
        refine lv_topi (fun y_11 hy_11 => ?_)
        obtain rfl : y_11 = nI j_10 := hy_11.trans ej_10
        refine lv_istore_n (lv' := [(3, .int (nI j_10)), (4, .int (nI i1)), (0, .ref h0), (1, .ref ro), (2, .int (nI cn))]) hx hb dX4_isYes_25 rfl hl (by decide) rfl (fun ls hl => ?_)
        refine lv_iinc (v := nI (i1 + 1)) (lv' := [(4, .int (nI (i1 + 1))), (3, .int (nI j_10)), (0, .ref h0), (1, .ref ro), (2, .int (nI cn))]) hx hb dX4_isYes_26 hl (k := 1) rfl (nI_add i1 1) (by decide) rfl (fun ls hl => ?_)
        refine lv_goto (tgt := 5) hx hb dX4_isYes_29 (by decide) ?_
        exact ih1  j_10 ((i1 + 1)) (by omega) (by omega) (by omega) _ _ (hP.sub [0, 1, 2] rfl) (hD.sub [0, 1, 2] (by decide +kernel) rfl) hS ls (lv_sub hl [0, 1, 2, 3, 4] rfl)
  exact loop1 _ 0 0 (by omega) (by omega) (Nat.le_refl _) _ _ (hP.sub [0, 1, 2] rfl) (hD.sub [0, 1, 2] (by decide +kernel) rfl) hS ls (lv_sub hl [0, 1, 2, 3, 4] rfl)
theorem gdX4_leadsToOneAt_0 : decode cX4_leadsToOneAt 0 = .ok (.iconst 0, 1) ∧ decode cX4_leadsToOneAt 1 = .ok (.istore_n 3, 1) ∧ decode cX4_leadsToOneAt 2 = .ok (.iload_n 3, 1) ∧ decode cX4_leadsToOneAt 3 = .ok (.aload_n 0, 1) ∧ decode cX4_leadsToOneAt 4 = .ok (.getfield 9, 3) ∧ decode cX4_leadsToOneAt 7 = .ok (.iconst 0, 1) ∧ decode cX4_leadsToOneAt 8 = .ok (.iaload, 1) ∧ decode cX4_leadsToOneAt 9 = .ok (.if_icmp .ge 31, 3) ∧ decode cX4_leadsToOneAt 40 = .ok (.iconst 0, 1) ∧ decode cX4_leadsToOneAt 41 = .ok (.ireturn, 1) ∧ decode cX4_leadsToOneAt 12 = .ok (.aload_n 0, 1) ∧ decode cX4_leadsToOneAt 13 = .ok (.getfield 33, 3) := by decide +kernel
theorem dX4_leadsToOneAt_0 : decode cX4_leadsToOneAt 0 = .ok (.iconst 0, 1) := gdX4_leadsToOneAt_0.1
theorem dX4_leadsToOneAt_1 : decode cX4_leadsToOneAt 1 = .ok (.istore_n 3, 1) := gdX4_leadsToOneAt_0.2.1
theorem dX4_leadsToOneAt_2 : decode cX4_leadsToOneAt 2 = .ok (.iload_n 3, 1) := gdX4_leadsToOneAt_0.2.2.1
theorem dX4_leadsToOneAt_3 : decode cX4_leadsToOneAt 3 = .ok (.aload_n 0, 1) := gdX4_leadsToOneAt_0.2.2.2.1
theorem dX4_leadsToOneAt_4 : decode cX4_leadsToOneAt 4 = .ok (.getfield 9, 3) := gdX4_leadsToOneAt_0.2.2.2.2.1
theorem dX4_leadsToOneAt_7 : decode cX4_leadsToOneAt 7 = .ok (.iconst 0, 1) := gdX4_leadsToOneAt_0.2.2.2.2.2.1
theorem dX4_leadsToOneAt_8 : decode cX4_leadsToOneAt 8 = .ok (.iaload, 1) := gdX4_leadsToOneAt_0.2.2.2.2.2.2.1
theorem dX4_leadsToOneAt_9 : decode cX4_leadsToOneAt 9 = .ok (.if_icmp .ge 31, 3) := gdX4_leadsToOneAt_0.2.2.2.2.2.2.2.1
theorem dX4_leadsToOneAt_40 : decode cX4_leadsToOneAt 40 = .ok (.iconst 0, 1) := gdX4_leadsToOneAt_0.2.2.2.2.2.2.2.2.1
theorem dX4_leadsToOneAt_41 : decode cX4_leadsToOneAt 41 = .ok (.ireturn, 1) := gdX4_leadsToOneAt_0.2.2.2.2.2.2.2.2.2.1
theorem dX4_leadsToOneAt_12 : decode cX4_leadsToOneAt 12 = .ok (.aload_n 0, 1) := gdX4_leadsToOneAt_0.2.2.2.2.2.2.2.2.2.2.1
theorem dX4_leadsToOneAt_13 : decode cX4_leadsToOneAt 13 = .ok (.getfield 33, 3) := gdX4_leadsToOneAt_0.2.2.2.2.2.2.2.2.2.2.2
theorem gdX4_leadsToOneAt_16 : decode cX4_leadsToOneAt 16 = .ok (.aload_n 0, 1) ∧ decode cX4_leadsToOneAt 17 = .ok (.getfield 30, 3) ∧ decode cX4_leadsToOneAt 20 = .ok (.iload_n 1, 1) ∧ decode cX4_leadsToOneAt 21 = .ok (.bipush 8, 2) ∧ decode cX4_leadsToOneAt 23 = .ok (.imul, 1) ∧ decode cX4_leadsToOneAt 24 = .ok (.iload_n 3, 1) ∧ decode cX4_leadsToOneAt 25 = .ok (.iadd, 1) ∧ decode cX4_leadsToOneAt 26 = .ok (.iaload, 1) ∧ decode cX4_leadsToOneAt 27 = .ok (.iaload, 1) ∧ decode cX4_leadsToOneAt 28 = .ok (.iload_n 2, 1) ∧ decode cX4_leadsToOneAt 29 = .ok (.if_icmp .ne 5, 3) ∧ decode cX4_leadsToOneAt 34 = .ok (.iinc 3 1, 3) := by decide +kernel
theorem dX4_leadsToOneAt_16 : decode cX4_leadsToOneAt 16 = .ok (.aload_n 0, 1) := gdX4_leadsToOneAt_16.1
theorem dX4_leadsToOneAt_17 : decode cX4_leadsToOneAt 17 = .ok (.getfield 30, 3) := gdX4_leadsToOneAt_16.2.1
theorem dX4_leadsToOneAt_20 : decode cX4_leadsToOneAt 20 = .ok (.iload_n 1, 1) := gdX4_leadsToOneAt_16.2.2.1
theorem dX4_leadsToOneAt_21 : decode cX4_leadsToOneAt 21 = .ok (.bipush 8, 2) := gdX4_leadsToOneAt_16.2.2.2.1
theorem dX4_leadsToOneAt_23 : decode cX4_leadsToOneAt 23 = .ok (.imul, 1) := gdX4_leadsToOneAt_16.2.2.2.2.1
theorem dX4_leadsToOneAt_24 : decode cX4_leadsToOneAt 24 = .ok (.iload_n 3, 1) := gdX4_leadsToOneAt_16.2.2.2.2.2.1
theorem dX4_leadsToOneAt_25 : decode cX4_leadsToOneAt 25 = .ok (.iadd, 1) := gdX4_leadsToOneAt_16.2.2.2.2.2.2.1
theorem dX4_leadsToOneAt_26 : decode cX4_leadsToOneAt 26 = .ok (.iaload, 1) := gdX4_leadsToOneAt_16.2.2.2.2.2.2.2.1
theorem dX4_leadsToOneAt_27 : decode cX4_leadsToOneAt 27 = .ok (.iaload, 1) := gdX4_leadsToOneAt_16.2.2.2.2.2.2.2.2.1
theorem dX4_leadsToOneAt_28 : decode cX4_leadsToOneAt 28 = .ok (.iload_n 2, 1) := gdX4_leadsToOneAt_16.2.2.2.2.2.2.2.2.2.1
theorem dX4_leadsToOneAt_29 : decode cX4_leadsToOneAt 29 = .ok (.if_icmp .ne 5, 3) := gdX4_leadsToOneAt_16.2.2.2.2.2.2.2.2.2.2.1
theorem dX4_leadsToOneAt_34 : decode cX4_leadsToOneAt 34 = .ok (.iinc 3 1, 3) := gdX4_leadsToOneAt_16.2.2.2.2.2.2.2.2.2.2.2
theorem gdX4_leadsToOneAt_37 : decode cX4_leadsToOneAt 37 = .ok (.goto (-35), 3) ∧ decode cX4_leadsToOneAt 32 = .ok (.iconst 1, 1) ∧ decode cX4_leadsToOneAt 33 = .ok (.ireturn, 1) := by decide +kernel
theorem dX4_leadsToOneAt_37 : decode cX4_leadsToOneAt 37 = .ok (.goto (-35), 3) := gdX4_leadsToOneAt_37.1
theorem dX4_leadsToOneAt_32 : decode cX4_leadsToOneAt 32 = .ok (.iconst 1, 1) := gdX4_leadsToOneAt_37.2.1
theorem dX4_leadsToOneAt_33 : decode cX4_leadsToOneAt 33 = .ok (.ireturn, 1) := gdX4_leadsToOneAt_37.2.2
set_option maxHeartbeats 1000000 in
set_option maxRecDepth 100000 in
theorem s_leadsToOneAt (l : Launch) (D : va_G) (cy : Nat → ClassId) (h0 : Nat) (h1 : Nat) (h2 : Nat) (h3 : Nat) (h4 : Nat) (h5 : Nat) (h6 : Nat) (h7 : Nat) (h8 : Nat) (h9 : Nat) (h10 : Nat) (h11 : Nat) (hv0 : Value) (hv1 : Value) (hv2 : Value) (hv3 : Value) (hv4 : Value) (fc : Nat → Int32) (c0 : Nat) (c1 : Nat) (c2 : Nat) (c3 : Nat) (fx : Nat → Int32) (fl : Nat → Int32) (sx : Nat) (tx : Int32) (hcn : cntOK fc c0 c1 c2 c3) (hc0 : c0 ≤ 8) (hc1 : c1 ≤ 4) (hc2 : c2 ≤ 4) (hc3 : c3 ≤ 6) (hnx : rng fx 48 5) (hsl : slOK fl) (hsx : sx ≤ 5) : XMi l D (tyL cy) E0 yX4_leadsToOneAt cX4_leadsToOneAt 4 (some .boolean) (rmk 0 0 0) [.ref h0, .int (nI sx), .int tx] [wO h0 4 [.ref h1, .ref h2, .ref h3, .ref h4, .ref h5, .ref h6, .ref h7, .ref h8, .ref h9, .ref h10, .ref h11, hv0, hv1, hv2, hv3, hv4], wI (cy 1) h1 4 (fc), wI (cy 1) h7 48 (fx), wI (cy 1) h8 6 (fl)] (fun (r : Int32) (_ : Unit) => (r = 0 ∨ r = 1)) (fun (_ : Unit) => [wO h0 4 [.ref h1, .ref h2, .ref h3, .ref h4, .ref h5, .ref h6, .ref h7, .ref h8, .ref h9, .ref h10, .ref h11, hv0, hv1, hv2, hv3, hv4], wI (cy 1) h1 4 (fc), wI (cy 1) h7 48 (fx), wI (cy 1) h8 6 (fl)]) := by
  refine XMi.start (by decide) (Nat.le_of_ble_eq_true rfl) ?_
  intro p e s m below meth c args A ls Q hat hQ
  obtain ⟨hx, hb, hr, hml, hown, hg, hlocks, hin, hK, hA, hP, hD, hS, hE, hl⟩ := hat
  have hown : s.vm.findClass RX4 = some m.cls := hown
  have hl : lv_has ls 4 [(0, .ref h0), (1, .int (nI sx)), (2, .int tx)] := hl
  refine lv_iconst (v := 0) hx hb dX4_leadsToOneAt_0 (by decide) ?_
  refine lv_istore_n (lv' := [(3, .int 0), (0, .ref h0), (1, .int (nI sx)), (2, .int tx)]) hx hb dX4_leadsToOneAt_1 rfl hl (by decide) rfl (fun ls hl => ?_)
  have loop1 : ∀ (zn : Nat) (i1 : Nat), (i1 ≤ c0) → c0 - i1 + 1 ≤ zn → ∀ (H : Heap) (locs : List Loc), va_P D vwCl [wO h0 4 [.ref h1, .ref h2, .ref h3, .ref h4, .ref h5, .ref h6, .ref h7, .ref h8, .ref h9, .ref h10, .ref h11, hv0, hv1, hv2, hv3, hv4], wI (cy 1) h1 4 (fc), wI (cy 1) h7 48 (fx), wI (cy 1) h8 6 (fl)] H → va_D A [wO h0 4 [.ref h1, .ref h2, .ref h3, .ref h4, .ref h5, .ref h6, .ref h7, .ref h8, .ref h9, .ref h10, .ref h11, hv0, hv1, hv2, hv3, hv4], wI (cy 1) h1 4 (fc), wI (cy 1) h7 48 (fx), wI (cy 1) h8 6 (fl)] → va_S A s.heap H locs → ∀ ls : Array Slot, lv_has ls 4 [(3, .int (nI i1)), (0, .ref h0), (1, .int (nI sx)), (2, .int tx)] → W p l e (rmk 0 0 0) s m args below meth c H locs 0 0 Q (F0 m 2 ls []) := by
    try clear hP hD hS
    intro zn
    induction zn with
    | zero => intro i1 _ hz; exact absurd hz (by omega)
    | succ zn ih1 =>
      intro i1 hf0_1 hmu1 H locs hP hD hS ls hl
      refine lv_iload_n hx hb dX4_leadsToOneAt_2 rfl (lv_at hl 0 rfl) ?_
      refine lv_aload_n hx hb dX4_leadsToOneAt_3 rfl (lv_at hl 1 rfl) ?_
      refine va_get (D := D) (ci := 4) (v := .ref h1) (C := RX4) (T := TX4) (N := 16) hx hb hg i_X4 hown hK hP 0 rfl rfl 0 (by decide) (hg _ m_329) (fun _ h9 => h9) rfl dX4_leadsToOneAt_4 ?_
      refine lv_iconst (v := 0) hx hb dX4_leadsToOneAt_7 (by decide) ?_
      refine va_iald hx hb hK hP 1 1 rfl rfl (by unfold vp_in; decide) dX4_leadsToOneAt_8 ?_
      refine lv_topi (fun y_2 hy_2 => ?_)
      obtain rfl : y_2 = nI c0 := hy_2.trans hcn.1
      refine lv_icmp_ge (tgt := 40) hx hb dX4_leadsToOneAt_9 (by decide) (fun c_3 => ?_) (fun c_3 => ?_)
      · have q_4 : c0 ≤ i1 := q_le (a := c0) (b := i1) rfl rfl (by omega) (by omega) c_3
        refine lv_iconst (v := 0) hx hb dX4_leadsToOneAt_40 (by decide) ?_
        exact x_zret hQ hx hb hr hlocks hK hP hD hS rfl dX4_leadsToOneAt_41 () ((Or.inl rfl)) [0, 1, 2, 3] (by decide +kernel) rfl (Nat.le_of_ble_eq_true rfl) (Nat.le_of_ble_eq_true rfl)
      · have q_4 : i1 < c0 := q_nle (a := c0) (b := i1) rfl rfl (by omega) (by omega) c_3
        refine lv_aload_n hx hb dX4_leadsToOneAt_12 rfl (lv_at hl 1 rfl) ?_
        refine va_get (D := D) (ci := 4) (v := .ref h8) (C := RX4) (T := TX4) (N := 16) hx hb hg i_X4 hown hK hP 0 rfl rfl 7 (by decide) (hg _ m_359) (fun _ h9 => h9) rfl dX4_leadsToOneAt_13 ?_
        refine lv_aload_n hx hb dX4_leadsToOneAt_16 rfl (lv_at hl 1 rfl) ?_
        refine va_get (D := D) (ci := 4) (v := .ref h7) (C := RX4) (T := TX4) (N := 16) hx hb hg i_X4 hown hK hP 0 rfl rfl 6 (by decide) (hg _ m_354) (fun _ h9 => h9) rfl dX4_leadsToOneAt_17 ?_
        refine lv_iload_n hx hb dX4_leadsToOneAt_20 rfl (lv_at hl 2 rfl) ?_
        refine lv_bipush (v := 8) hx hb dX4_leadsToOneAt_21 (by decide) ?_
        refine lv_imul hx hb dX4_leadsToOneAt_23 ?_
        refine lv_topi (fun y_5 hy_5 => ?_)
        obtain rfl : y_5 = nI (sx * 8) := hy_5.trans (pk_mul sx 8)
        refine lv_iload_n hx hb dX4_leadsToOneAt_24 rfl (lv_at hl 0 rfl) ?_
        refine lv_iadd hx hb dX4_leadsToOneAt_25 ?_
        refine lv_topi (fun y_6 hy_6 => ?_)
        obtain rfl : y_6 = nI ((sx * 8) + i1) := hy_6.trans (nI_add ((sx * 8)) i1)
        refine va_iald hx hb hK hP 2 1 rfl rfl (vp_in_nI (by omega) (by decide)) dX4_leadsToOneAt_26 ?_
        obtain ⟨j_7, hj_7, ej_7⟩ := rng_at hnx (i := ((sx * 8) + i1)) (by omega) (by decide)
        refine lv_topi (fun y_8 hy_8 => ?_)
        obtain rfl : y_8 = nI j_7 := hy_8.trans ej_7
        refine va_iald hx hb hK hP 3 1 rfl rfl (vp_in_nI (by omega) (by decide)) dX4_leadsToOneAt_27 ?_
        obtain ⟨j_9, hj_9, ej_9⟩ := sl_at hsl (i := j_7) (by omega)
        refine lv_topi (fun y_10 hy_10 => ?_)
        obtain rfl : y_10 = nI j_9 := hy_10.trans ej_9
        refine lv_iload_n hx hb dX4_leadsToOneAt_28 rfl (lv_at hl 3 rfl) ?_
        refine lv_icmp_ne (tgt := 34) hx hb dX4_leadsToOneAt_29 (by decide) (fun c_29 => ?_) (fun c_29 => ?_)
        · refine lv_iinc (v := nI (i1 + 1)) (lv' := [(3, .int (nI (i1 + 1))), (0, .ref h0), (1, .int (nI sx)), (2, .int tx)]) hx hb dX4_leadsToOneAt_34 hl (k := 0) rfl (nI_add i1 1) (by decide) rfl (fun ls hl => ?_)
          refine lv_goto (tgt := 2) hx hb dX4_leadsToOneAt_37 (by decide) ?_
          exact ih1  ((i1 + 1)) (by omega) (by omega) _ _ (hP.sub [0, 1, 2, 3] rfl) (hD.sub [0, 1, 2, 3] (by decide +kernel) rfl) hS ls (lv_sub hl [0, 1, 2, 3] rfl)
        · refine lv_iconst (v := 1) hx hb dX4_leadsToOneAt_32 (by decide) ?_
          exact x_zret hQ hx hb hr hlocks hK hP hD hS rfl dX4_leadsToOneAt_33 () ((Or.inr rfl)) [0, 1, 2, 3] (by decide +kernel) rfl (Nat.le_of_ble_eq_true rfl) (Nat.le_of_ble_eq_true rfl)
  exact loop1 _ 0 (by omega) (Nat.le_refl _) _ _ (hP.sub [0, 1, 2, 3] rfl) (hD.sub [0, 1, 2, 3] (by decide +kernel) rfl) hS ls (lv_sub hl [0, 1, 2, 3] rfl)
theorem gdX4_firstWordNearer_0 : decode cX4_firstWordNearer 0 = .ok (.iconst 0, 1) ∧ decode cX4_firstWordNearer 1 = .ok (.istore_n 2, 1) ∧ decode cX4_firstWordNearer 2 = .ok (.iload_n 2, 1) ∧ decode cX4_firstWordNearer 3 = .ok (.aload_n 0, 1) ∧ decode cX4_firstWordNearer 4 = .ok (.getfield 9, 3) ∧ decode cX4_firstWordNearer 7 = .ok (.iconst 0, 1) ∧ decode cX4_firstWordNearer 8 = .ok (.iaload, 1) ∧ decode cX4_firstWordNearer 9 = .ok (.if_icmp .ge 38, 3) ∧ decode cX4_firstWordNearer 47 = .ok (.iconst 0, 1) ∧ decode cX4_firstWordNearer 48 = .ok (.ireturn, 1) ∧ decode cX4_firstWordNearer 12 = .ok (.aload_n 0, 1) ∧ decode cX4_firstWordNearer 13 = .ok (.getfield 33, 3) := by decide +kernel
theorem dX4_firstWordNearer_0 : decode cX4_firstWordNearer 0 = .ok (.iconst 0, 1) := gdX4_firstWordNearer_0.1
theorem dX4_firstWordNearer_1 : decode cX4_firstWordNearer 1 = .ok (.istore_n 2, 1) := gdX4_firstWordNearer_0.2.1
theorem dX4_firstWordNearer_2 : decode cX4_firstWordNearer 2 = .ok (.iload_n 2, 1) := gdX4_firstWordNearer_0.2.2.1
theorem dX4_firstWordNearer_3 : decode cX4_firstWordNearer 3 = .ok (.aload_n 0, 1) := gdX4_firstWordNearer_0.2.2.2.1
theorem dX4_firstWordNearer_4 : decode cX4_firstWordNearer 4 = .ok (.getfield 9, 3) := gdX4_firstWordNearer_0.2.2.2.2.1
theorem dX4_firstWordNearer_7 : decode cX4_firstWordNearer 7 = .ok (.iconst 0, 1) := gdX4_firstWordNearer_0.2.2.2.2.2.1
theorem dX4_firstWordNearer_8 : decode cX4_firstWordNearer 8 = .ok (.iaload, 1) := gdX4_firstWordNearer_0.2.2.2.2.2.2.1
theorem dX4_firstWordNearer_9 : decode cX4_firstWordNearer 9 = .ok (.if_icmp .ge 38, 3) := gdX4_firstWordNearer_0.2.2.2.2.2.2.2.1
theorem dX4_firstWordNearer_47 : decode cX4_firstWordNearer 47 = .ok (.iconst 0, 1) := gdX4_firstWordNearer_0.2.2.2.2.2.2.2.2.1
theorem dX4_firstWordNearer_48 : decode cX4_firstWordNearer 48 = .ok (.ireturn, 1) := gdX4_firstWordNearer_0.2.2.2.2.2.2.2.2.2.1
theorem dX4_firstWordNearer_12 : decode cX4_firstWordNearer 12 = .ok (.aload_n 0, 1) := gdX4_firstWordNearer_0.2.2.2.2.2.2.2.2.2.2.1
theorem dX4_firstWordNearer_13 : decode cX4_firstWordNearer 13 = .ok (.getfield 33, 3) := gdX4_firstWordNearer_0.2.2.2.2.2.2.2.2.2.2.2
theorem gdX4_firstWordNearer_16 : decode cX4_firstWordNearer 16 = .ok (.aload_n 0, 1) ∧ decode cX4_firstWordNearer 17 = .ok (.getfield 30, 3) ∧ decode cX4_firstWordNearer 20 = .ok (.iload_n 1, 1) ∧ decode cX4_firstWordNearer 21 = .ok (.bipush 8, 2) ∧ decode cX4_firstWordNearer 23 = .ok (.imul, 1) ∧ decode cX4_firstWordNearer 24 = .ok (.iload_n 2, 1) ∧ decode cX4_firstWordNearer 25 = .ok (.iadd, 1) ∧ decode cX4_firstWordNearer 26 = .ok (.iaload, 1) ∧ decode cX4_firstWordNearer 27 = .ok (.iaload, 1) ∧ decode cX4_firstWordNearer 28 = .ok (.aload_n 0, 1) ∧ decode cX4_firstWordNearer 29 = .ok (.getfield 33, 3) ∧ decode cX4_firstWordNearer 32 = .ok (.iload_n 1, 1) := by decide +kernel
theorem dX4_firstWordNearer_16 : decode cX4_firstWordNearer 16 = .ok (.aload_n 0, 1) := gdX4_firstWordNearer_16.1
theorem dX4_firstWordNearer_17 : decode cX4_firstWordNearer 17 = .ok (.getfield 30, 3) := gdX4_firstWordNearer_16.2.1
theorem dX4_firstWordNearer_20 : decode cX4_firstWordNearer 20 = .ok (.iload_n 1, 1) := gdX4_firstWordNearer_16.2.2.1
theorem dX4_firstWordNearer_21 : decode cX4_firstWordNearer 21 = .ok (.bipush 8, 2) := gdX4_firstWordNearer_16.2.2.2.1
theorem dX4_firstWordNearer_23 : decode cX4_firstWordNearer 23 = .ok (.imul, 1) := gdX4_firstWordNearer_16.2.2.2.2.1
theorem dX4_firstWordNearer_24 : decode cX4_firstWordNearer 24 = .ok (.iload_n 2, 1) := gdX4_firstWordNearer_16.2.2.2.2.2.1
theorem dX4_firstWordNearer_25 : decode cX4_firstWordNearer 25 = .ok (.iadd, 1) := gdX4_firstWordNearer_16.2.2.2.2.2.2.1
theorem dX4_firstWordNearer_26 : decode cX4_firstWordNearer 26 = .ok (.iaload, 1) := gdX4_firstWordNearer_16.2.2.2.2.2.2.2.1
theorem dX4_firstWordNearer_27 : decode cX4_firstWordNearer 27 = .ok (.iaload, 1) := gdX4_firstWordNearer_16.2.2.2.2.2.2.2.2.1
theorem dX4_firstWordNearer_28 : decode cX4_firstWordNearer 28 = .ok (.aload_n 0, 1) := gdX4_firstWordNearer_16.2.2.2.2.2.2.2.2.2.1
theorem dX4_firstWordNearer_29 : decode cX4_firstWordNearer 29 = .ok (.getfield 33, 3) := gdX4_firstWordNearer_16.2.2.2.2.2.2.2.2.2.2.1
theorem dX4_firstWordNearer_32 : decode cX4_firstWordNearer 32 = .ok (.iload_n 1, 1) := gdX4_firstWordNearer_16.2.2.2.2.2.2.2.2.2.2.2
theorem gdX4_firstWordNearer_33 : decode cX4_firstWordNearer 33 = .ok (.iaload, 1) ∧ decode cX4_firstWordNearer 34 = .ok (.iconst 1, 1) ∧ decode cX4_firstWordNearer 35 = .ok (.isub, 1) ∧ decode cX4_firstWordNearer 36 = .ok (.if_icmp .ne 5, 3) ∧ decode cX4_firstWordNearer 41 = .ok (.iinc 2 1, 3) ∧ decode cX4_firstWordNearer 44 = .ok (.goto (-42), 3) ∧ decode cX4_firstWordNearer 39 = .ok (.iload_n 2, 1) ∧ decode cX4_firstWordNearer 40 = .ok (.ireturn, 1) := by decide +kernel
theorem dX4_firstWordNearer_33 : decode cX4_firstWordNearer 33 = .ok (.iaload, 1) := gdX4_firstWordNearer_33.1
theorem dX4_firstWordNearer_34 : decode cX4_firstWordNearer 34 = .ok (.iconst 1, 1) := gdX4_firstWordNearer_33.2.1
theorem dX4_firstWordNearer_35 : decode cX4_firstWordNearer 35 = .ok (.isub, 1) := gdX4_firstWordNearer_33.2.2.1
theorem dX4_firstWordNearer_36 : decode cX4_firstWordNearer 36 = .ok (.if_icmp .ne 5, 3) := gdX4_firstWordNearer_33.2.2.2.1
theorem dX4_firstWordNearer_41 : decode cX4_firstWordNearer 41 = .ok (.iinc 2 1, 3) := gdX4_firstWordNearer_33.2.2.2.2.1
theorem dX4_firstWordNearer_44 : decode cX4_firstWordNearer 44 = .ok (.goto (-42), 3) := gdX4_firstWordNearer_33.2.2.2.2.2.1
theorem dX4_firstWordNearer_39 : decode cX4_firstWordNearer 39 = .ok (.iload_n 2, 1) := gdX4_firstWordNearer_33.2.2.2.2.2.2.1
theorem dX4_firstWordNearer_40 : decode cX4_firstWordNearer 40 = .ok (.ireturn, 1) := gdX4_firstWordNearer_33.2.2.2.2.2.2.2
set_option maxHeartbeats 1000000 in
set_option maxRecDepth 100000 in
theorem s_firstWordNearer (l : Launch) (D : va_G) (cy : Nat → ClassId) (h0 : Nat) (h1 : Nat) (h2 : Nat) (h3 : Nat) (h4 : Nat) (h5 : Nat) (h6 : Nat) (h7 : Nat) (h8 : Nat) (h9 : Nat) (h10 : Nat) (h11 : Nat) (hv0 : Value) (hv1 : Value) (hv2 : Value) (hv3 : Value) (hv4 : Value) (fc : Nat → Int32) (c0 : Nat) (c1 : Nat) (c2 : Nat) (c3 : Nat) (fx : Nat → Int32) (fl : Nat → Int32) (sx : Nat) (hcn : cntOK fc c0 c1 c2 c3) (hc0 : c0 ≤ 8) (hc1 : c1 ≤ 4) (hc2 : c2 ≤ 4) (hc3 : c3 ≤ 6) (hnx : rng fx 48 5) (hsl : slOK fl) (hsx : sx ≤ 5) : XMi l D (tyL cy) E0 yX4_firstWordNearer cX4_firstWordNearer 3 (some .int) (rmk 0 0 0) [.ref h0, .int (nI sx)] [wO h0 4 [.ref h1, .ref h2, .ref h3, .ref h4, .ref h5, .ref h6, .ref h7, .ref h8, .ref h9, .ref h10, .ref h11, hv0, hv1, hv2, hv3, hv4], wI (cy 1) h1 4 (fc), wI (cy 1) h7 48 (fx), wI (cy 1) h8 6 (fl)] (fun (r : Int32) (k : Nat) => (r = nI k) ∧ (k ≤ 7)) (fun (k : Nat) => [wO h0 4 [.ref h1, .ref h2, .ref h3, .ref h4, .ref h5, .ref h6, .ref h7, .ref h8, .ref h9, .ref h10, .ref h11, hv0, hv1, hv2, hv3, hv4], wI (cy 1) h1 4 (fc), wI (cy 1) h7 48 (fx), wI (cy 1) h8 6 (fl)]) := by
  refine XMi.start (by decide) (Nat.le_of_ble_eq_true rfl) ?_
  intro p e s m below meth c args A ls Q hat hQ
  obtain ⟨hx, hb, hr, hml, hown, hg, hlocks, hin, hK, hA, hP, hD, hS, hE, hl⟩ := hat
  have hown : s.vm.findClass RX4 = some m.cls := hown
  have hl : lv_has ls 3 [(0, .ref h0), (1, .int (nI sx))] := hl
  refine lv_iconst (v := 0) hx hb dX4_firstWordNearer_0 (by decide) ?_
  refine lv_istore_n (lv' := [(2, .int 0), (0, .ref h0), (1, .int (nI sx))]) hx hb dX4_firstWordNearer_1 rfl hl (by decide) rfl (fun ls hl => ?_)
  have loop1 : ∀ (zn : Nat) (i1 : Nat), (i1 ≤ c0) → c0 - i1 + 1 ≤ zn → ∀ (H : Heap) (locs : List Loc), va_P D vwCl [wO h0 4 [.ref h1, .ref h2, .ref h3, .ref h4, .ref h5, .ref h6, .ref h7, .ref h8, .ref h9, .ref h10, .ref h11, hv0, hv1, hv2, hv3, hv4], wI (cy 1) h1 4 (fc), wI (cy 1) h7 48 (fx), wI (cy 1) h8 6 (fl)] H → va_D A [wO h0 4 [.ref h1, .ref h2, .ref h3, .ref h4, .ref h5, .ref h6, .ref h7, .ref h8, .ref h9, .ref h10, .ref h11, hv0, hv1, hv2, hv3, hv4], wI (cy 1) h1 4 (fc), wI (cy 1) h7 48 (fx), wI (cy 1) h8 6 (fl)] → va_S A s.heap H locs → ∀ ls : Array Slot, lv_has ls 3 [(2, .int (nI i1)), (0, .ref h0), (1, .int (nI sx))] → W p l e (rmk 0 0 0) s m args below meth c H locs 0 0 Q (F0 m 2 ls []) := by
    try clear hP hD hS
    intro zn
    induction zn with
    | zero => intro i1 _ hz; exact absurd hz (by omega)
    | succ zn ih1 =>
      intro i1 hf0_1 hmu1 H locs hP hD hS ls hl
      refine lv_iload_n hx hb dX4_firstWordNearer_2 rfl (lv_at hl 0 rfl) ?_
      refine lv_aload_n hx hb dX4_firstWordNearer_3 rfl (lv_at hl 1 rfl) ?_
      refine va_get (D := D) (ci := 4) (v := .ref h1) (C := RX4) (T := TX4) (N := 16) hx hb hg i_X4 hown hK hP 0 rfl rfl 0 (by decide) (hg _ m_329) (fun _ h9 => h9) rfl dX4_firstWordNearer_4 ?_
      refine lv_iconst (v := 0) hx hb dX4_firstWordNearer_7 (by decide) ?_
      refine va_iald hx hb hK hP 1 1 rfl rfl (by unfold vp_in; decide) dX4_firstWordNearer_8 ?_
      refine lv_topi (fun y_2 hy_2 => ?_)
      obtain rfl : y_2 = nI c0 := hy_2.trans hcn.1
      refine lv_icmp_ge (tgt := 47) hx hb dX4_firstWordNearer_9 (by decide) (fun c_3 => ?_) (fun c_3 => ?_)
      · have q_4 : c0 ≤ i1 := q_le (a := c0) (b := i1) rfl rfl (by omega) (by omega) c_3
        refine lv_iconst (v := 0) hx hb dX4_firstWordNearer_47 (by decide) ?_
        exact x_iret hQ hx hb hr hlocks hK hP hD hS dX4_firstWordNearer_48 0 (⟨rfl, (show 0 ≤ 7 from by omega)⟩) [0, 1, 2, 3] (by decide +kernel) rfl (Nat.le_of_ble_eq_true rfl) (Nat.le_of_ble_eq_true rfl)
      · have q_4 : i1 < c0 := q_nle (a := c0) (b := i1) rfl rfl (by omega) (by omega) c_3
        refine lv_aload_n hx hb dX4_firstWordNearer_12 rfl (lv_at hl 1 rfl) ?_
        refine va_get (D := D) (ci := 4) (v := .ref h8) (C := RX4) (T := TX4) (N := 16) hx hb hg i_X4 hown hK hP 0 rfl rfl 7 (by decide) (hg _ m_359) (fun _ h9 => h9) rfl dX4_firstWordNearer_13 ?_
        refine lv_aload_n hx hb dX4_firstWordNearer_16 rfl (lv_at hl 1 rfl) ?_
        refine va_get (D := D) (ci := 4) (v := .ref h7) (C := RX4) (T := TX4) (N := 16) hx hb hg i_X4 hown hK hP 0 rfl rfl 6 (by decide) (hg _ m_354) (fun _ h9 => h9) rfl dX4_firstWordNearer_17 ?_
        refine lv_iload_n hx hb dX4_firstWordNearer_20 rfl (lv_at hl 2 rfl) ?_
        refine lv_bipush (v := 8) hx hb dX4_firstWordNearer_21 (by decide) ?_
        refine lv_imul hx hb dX4_firstWordNearer_23 ?_
        refine lv_topi (fun y_5 hy_5 => ?_)
        obtain rfl : y_5 = nI (sx * 8) := hy_5.trans (pk_mul sx 8)
        refine lv_iload_n hx hb dX4_firstWordNearer_24 rfl (lv_at hl 0 rfl) ?_
        refine lv_iadd hx hb dX4_firstWordNearer_25 ?_
        refine lv_topi (fun y_6 hy_6 => ?_)
        obtain rfl : y_6 = nI ((sx * 8) + i1) := hy_6.trans (nI_add ((sx * 8)) i1)
        refine va_iald hx hb hK hP 2 1 rfl rfl (vp_in_nI (by omega) (by decide)) dX4_firstWordNearer_26 ?_
        obtain ⟨j_7, hj_7, ej_7⟩ := rng_at hnx (i := ((sx * 8) + i1)) (by omega) (by decide)
        refine lv_topi (fun y_8 hy_8 => ?_)
        obtain rfl : y_8 = nI j_7 := hy_8.trans ej_7
        refine va_iald hx hb hK hP 3 1 rfl rfl (vp_in_nI (by omega) (by decide)) dX4_firstWordNearer_27 ?_
        obtain ⟨j_9, hj_9, ej_9⟩ := sl_at hsl (i := j_7) (by omega)
        refine lv_topi (fun y_10 hy_10 => ?_)
        obtain rfl : y_10 = nI j_9 := hy_10.trans ej_9
        refine lv_aload_n hx hb dX4_firstWordNearer_28 rfl (lv_at hl 1 rfl) ?_
        refine va_get (D := D) (ci := 4) (v := .ref h8) (C := RX4) (T := TX4) (N := 16) hx hb hg i_X4 hown hK hP 0 rfl rfl 7 (by decide) (hg _ m_359) (fun _ h9 => h9) rfl dX4_firstWordNearer_29 ?_
        refine lv_iload_n hx hb dX4_firstWordNearer_32 rfl (lv_at hl 2 rfl) ?_
        refine va_iald hx hb hK hP 3 1 rfl rfl (vp_in_nI (by omega) (by decide)) dX4_firstWordNearer_33 ?_
        obtain ⟨j_11, hj_11, ej_11⟩ := sl_at hsl (i := sx) (by omega)
        refine lv_topi (fun y_12 hy_12 => ?_)
        obtain rfl : y_12 = nI j_11 := hy_12.trans ej_11
        refine lv_iconst (v := 1) hx hb dX4_firstWordNearer_34 (by decide) ?_
        refine lv_isub hx hb dX4_firstWordNearer_35 ?_
        refine lv_topi (fun x_13 ex_13 => ?_)
        refine lv_icmp_ne (tgt := 41) hx hb dX4_firstWordNearer_36 (by decide) (fun c_36 => ?_) (fun c_36 => ?_)
        · refine lv_iinc (v := nI (i1 + 1)) (lv' := [(2, .int (nI (i1 + 1))), (0, .ref h0), (1, .int (nI sx))]) hx hb dX4_firstWordNearer_41 hl (k := 0) rfl (nI_add i1 1) (by decide) rfl (fun ls hl => ?_)
          refine lv_goto (tgt := 2) hx hb dX4_firstWordNearer_44 (by decide) ?_
          exact ih1  ((i1 + 1)) (by omega) (by omega) _ _ (hP.sub [0, 1, 2, 3] rfl) (hD.sub [0, 1, 2, 3] (by decide +kernel) rfl) hS ls (lv_sub hl [0, 1, 2] rfl)
        · refine lv_iload_n hx hb dX4_firstWordNearer_39 rfl (lv_at hl 0 rfl) ?_
          exact x_iret hQ hx hb hr hlocks hK hP hD hS dX4_firstWordNearer_40 i1 (⟨rfl, (show i1 ≤ 7 from by omega)⟩) [0, 1, 2, 3] (by decide +kernel) rfl (Nat.le_of_ble_eq_true rfl) (Nat.le_of_ble_eq_true rfl)
  exact loop1 _ 0 (by omega) (Nat.le_refl _) _ _ (hP.sub [0, 1, 2, 3] rfl) (hD.sub [0, 1, 2, 3] (by decide +kernel) rfl) hS ls (lv_sub hl [0, 1, 2] rfl)
theorem sl_full {f : Nat → Int32} (h : ∀ k, k < 6 → ∃ j : Nat, (j ≤ 5 ∨ j = 99) ∧ f k = nI j) : slOK f := h
def slTo (f : Nat → Int32) (i : Nat) : Prop := ∀ k, k < i → ∃ j : Nat, (j ≤ 5 ∨ j = 99) ∧ f k = nI j
theorem slTo_put {f : Nat → Int32} {i j : Nat} (hi : i < 2 ^ 31) (h : slTo f i) (hj : j ≤ 5 ∨ j = 99) : slTo (upd f (nI i).toNatClampNeg (nI j)) (i + 1) := by
  intro k hk
  rw [nI_clamp hi]
  by_cases e : k = i
  · exact ⟨j, hj, by rw [e]; exact pk_us⟩
  · rw [pk_un e]; exact h k (by omega)
theorem gdX4_countStepsTo_0 : decode cX4_countStepsTo 0 = .ok (.iconst 0, 1) ∧ decode cX4_countStepsTo 1 = .ok (.istore_n 2, 1) ∧ decode cX4_countStepsTo 2 = .ok (.iload_n 2, 1) ∧ decode cX4_countStepsTo 3 = .ok (.bipush 6, 2) ∧ decode cX4_countStepsTo 5 = .ok (.if_icmp .ge 26, 3) ∧ decode cX4_countStepsTo 31 = .ok (.iconst 1, 1) ∧ decode cX4_countStepsTo 32 = .ok (.istore_n 2, 1) ∧ decode cX4_countStepsTo 33 = .ok (.iload_n 2, 1) ∧ decode cX4_countStepsTo 34 = .ok (.aload_n 0, 1) ∧ decode cX4_countStepsTo 35 = .ok (.getfield 9, 3) ∧ decode cX4_countStepsTo 38 = .ok (.iconst 3, 1) ∧ decode cX4_countStepsTo 39 = .ok (.iaload, 1) := by decide +kernel
theorem dX4_countStepsTo_0 : decode cX4_countStepsTo 0 = .ok (.iconst 0, 1) := gdX4_countStepsTo_0.1
theorem dX4_countStepsTo_1 : decode cX4_countStepsTo 1 = .ok (.istore_n 2, 1) := gdX4_countStepsTo_0.2.1
theorem dX4_countStepsTo_2 : decode cX4_countStepsTo 2 = .ok (.iload_n 2, 1) := gdX4_countStepsTo_0.2.2.1
theorem dX4_countStepsTo_3 : decode cX4_countStepsTo 3 = .ok (.bipush 6, 2) := gdX4_countStepsTo_0.2.2.2.1
theorem dX4_countStepsTo_5 : decode cX4_countStepsTo 5 = .ok (.if_icmp .ge 26, 3) := gdX4_countStepsTo_0.2.2.2.2.1
theorem dX4_countStepsTo_31 : decode cX4_countStepsTo 31 = .ok (.iconst 1, 1) := gdX4_countStepsTo_0.2.2.2.2.2.1
theorem dX4_countStepsTo_32 : decode cX4_countStepsTo 32 = .ok (.istore_n 2, 1) := gdX4_countStepsTo_0.2.2.2.2.2.2.1
theorem dX4_countStepsTo_33 : decode cX4_countStepsTo 33 = .ok (.iload_n 2, 1) := gdX4_countStepsTo_0.2.2.2.2.2.2.2.1
theorem dX4_countStepsTo_34 : decode cX4_countStepsTo 34 = .ok (.aload_n 0, 1) := gdX4_countStepsTo_0.2.2.2.2.2.2.2.2.1
theorem dX4_countStepsTo_35 : decode cX4_countStepsTo 35 = .ok (.getfield 9, 3) := gdX4_countStepsTo_0.2.2.2.2.2.2.2.2.2.1
theorem dX4_countStepsTo_38 : decode cX4_countStepsTo 38 = .ok (.iconst 3, 1) := gdX4_countStepsTo_0.2.2.2.2.2.2.2.2.2.2.1
theorem dX4_countStepsTo_39 : decode cX4_countStepsTo 39 = .ok (.iaload, 1) := gdX4_countStepsTo_0.2.2.2.2.2.2.2.2.2.2.2
theorem gdX4_countStepsTo_40 : decode cX4_countStepsTo 40 = .ok (.if_icmp .ge 56, 3) ∧ decode cX4_countStepsTo 96 = .ok (.return_, 1) ∧ decode cX4_countStepsTo 43 = .ok (.iconst 0, 1) ∧ decode cX4_countStepsTo 44 = .ok (.istore_n 3, 1) ∧ decode cX4_countStepsTo 45 = .ok (.iload_n 3, 1) ∧ decode cX4_countStepsTo 46 = .ok (.aload_n 0, 1) ∧ decode cX4_countStepsTo 47 = .ok (.getfield 9, 3) ∧ decode cX4_countStepsTo 50 = .ok (.iconst 3, 1) ∧ decode cX4_countStepsTo 51 = .ok (.iaload, 1) ∧ decode cX4_countStepsTo 52 = .ok (.if_icmp .ge 38, 3) ∧ decode cX4_countStepsTo 90 = .ok (.iinc 2 1, 3) ∧ decode cX4_countStepsTo 93 = .ok (.goto (-60), 3) := by decide +kernel
theorem dX4_countStepsTo_40 : decode cX4_countStepsTo 40 = .ok (.if_icmp .ge 56, 3) := gdX4_countStepsTo_40.1
theorem dX4_countStepsTo_96 : decode cX4_countStepsTo 96 = .ok (.return_, 1) := gdX4_countStepsTo_40.2.1
theorem dX4_countStepsTo_43 : decode cX4_countStepsTo 43 = .ok (.iconst 0, 1) := gdX4_countStepsTo_40.2.2.1
theorem dX4_countStepsTo_44 : decode cX4_countStepsTo 44 = .ok (.istore_n 3, 1) := gdX4_countStepsTo_40.2.2.2.1
theorem dX4_countStepsTo_45 : decode cX4_countStepsTo 45 = .ok (.iload_n 3, 1) := gdX4_countStepsTo_40.2.2.2.2.1
theorem dX4_countStepsTo_46 : decode cX4_countStepsTo 46 = .ok (.aload_n 0, 1) := gdX4_countStepsTo_40.2.2.2.2.2.1
theorem dX4_countStepsTo_47 : decode cX4_countStepsTo 47 = .ok (.getfield 9, 3) := gdX4_countStepsTo_40.2.2.2.2.2.2.1
theorem dX4_countStepsTo_50 : decode cX4_countStepsTo 50 = .ok (.iconst 3, 1) := gdX4_countStepsTo_40.2.2.2.2.2.2.2.1
theorem dX4_countStepsTo_51 : decode cX4_countStepsTo 51 = .ok (.iaload, 1) := gdX4_countStepsTo_40.2.2.2.2.2.2.2.2.1
theorem dX4_countStepsTo_52 : decode cX4_countStepsTo 52 = .ok (.if_icmp .ge 38, 3) := gdX4_countStepsTo_40.2.2.2.2.2.2.2.2.2.1
theorem dX4_countStepsTo_90 : decode cX4_countStepsTo 90 = .ok (.iinc 2 1, 3) := gdX4_countStepsTo_40.2.2.2.2.2.2.2.2.2.2.1
theorem dX4_countStepsTo_93 : decode cX4_countStepsTo 93 = .ok (.goto (-60), 3) := gdX4_countStepsTo_40.2.2.2.2.2.2.2.2.2.2.2
theorem gdX4_countStepsTo_55 : decode cX4_countStepsTo 55 = .ok (.aload_n 0, 1) ∧ decode cX4_countStepsTo 56 = .ok (.getfield 33, 3) ∧ decode cX4_countStepsTo 59 = .ok (.iload_n 3, 1) ∧ decode cX4_countStepsTo 60 = .ok (.iaload, 1) ∧ decode cX4_countStepsTo 61 = .ok (.bipush 99, 2) ∧ decode cX4_countStepsTo 63 = .ok (.if_icmp .ne 21, 3) ∧ decode cX4_countStepsTo 84 = .ok (.iinc 3 1, 3) ∧ decode cX4_countStepsTo 87 = .ok (.goto (-42), 3) ∧ decode cX4_countStepsTo 66 = .ok (.aload_n 0, 1) ∧ decode cX4_countStepsTo 67 = .ok (.iload_n 3, 1) ∧ decode cX4_countStepsTo 68 = .ok (.iload_n 2, 1) ∧ decode cX4_countStepsTo 69 = .ok (.iconst 1, 1) := by decide +kernel
theorem dX4_countStepsTo_55 : decode cX4_countStepsTo 55 = .ok (.aload_n 0, 1) := gdX4_countStepsTo_55.1
theorem dX4_countStepsTo_56 : decode cX4_countStepsTo 56 = .ok (.getfield 33, 3) := gdX4_countStepsTo_55.2.1
theorem dX4_countStepsTo_59 : decode cX4_countStepsTo 59 = .ok (.iload_n 3, 1) := gdX4_countStepsTo_55.2.2.1
theorem dX4_countStepsTo_60 : decode cX4_countStepsTo 60 = .ok (.iaload, 1) := gdX4_countStepsTo_55.2.2.2.1
theorem dX4_countStepsTo_61 : decode cX4_countStepsTo 61 = .ok (.bipush 99, 2) := gdX4_countStepsTo_55.2.2.2.2.1
theorem dX4_countStepsTo_63 : decode cX4_countStepsTo 63 = .ok (.if_icmp .ne 21, 3) := gdX4_countStepsTo_55.2.2.2.2.2.1
theorem dX4_countStepsTo_84 : decode cX4_countStepsTo 84 = .ok (.iinc 3 1, 3) := gdX4_countStepsTo_55.2.2.2.2.2.2.1
theorem dX4_countStepsTo_87 : decode cX4_countStepsTo 87 = .ok (.goto (-42), 3) := gdX4_countStepsTo_55.2.2.2.2.2.2.2.1
theorem dX4_countStepsTo_66 : decode cX4_countStepsTo 66 = .ok (.aload_n 0, 1) := gdX4_countStepsTo_55.2.2.2.2.2.2.2.2.1
theorem dX4_countStepsTo_67 : decode cX4_countStepsTo 67 = .ok (.iload_n 3, 1) := gdX4_countStepsTo_55.2.2.2.2.2.2.2.2.2.1
theorem dX4_countStepsTo_68 : decode cX4_countStepsTo 68 = .ok (.iload_n 2, 1) := gdX4_countStepsTo_55.2.2.2.2.2.2.2.2.2.2.1
theorem dX4_countStepsTo_69 : decode cX4_countStepsTo 69 = .ok (.iconst 1, 1) := gdX4_countStepsTo_55.2.2.2.2.2.2.2.2.2.2.2
theorem dX4_countStepsTo_70 : decode cX4_countStepsTo 70 = .ok (.isub, 1) := by decide +kernel
theorem dX4_countStepsTo_71 : decode cX4_countStepsTo 71 = .ok (.invokevirtual 104, 3) := by decide +kernel
theorem k_X4_104 : xV RX4 RX4 104 yX4_leadsToOneAt cX4_leadsToOneAt 4 (some .boolean) 2 := ⟨⟨m_1308, m_1310, m_57, m_137, m_1311⟩, rfl, by decide, by decide, by decide +kernel⟩
theorem gdX4_countStepsTo_74 : decode cX4_countStepsTo 74 = .ok (.ifCond .eq 10, 3) ∧ decode cX4_countStepsTo 77 = .ok (.aload_n 0, 1) ∧ decode cX4_countStepsTo 78 = .ok (.getfield 33, 3) ∧ decode cX4_countStepsTo 81 = .ok (.iload_n 3, 1) ∧ decode cX4_countStepsTo 82 = .ok (.iload_n 2, 1) ∧ decode cX4_countStepsTo 83 = .ok (.iastore, 1) ∧ decode cX4_countStepsTo 8 = .ok (.aload_n 0, 1) ∧ decode cX4_countStepsTo 9 = .ok (.getfield 33, 3) ∧ decode cX4_countStepsTo 12 = .ok (.iload_n 2, 1) ∧ decode cX4_countStepsTo 13 = .ok (.iload_n 2, 1) ∧ decode cX4_countStepsTo 14 = .ok (.iload_n 1, 1) ∧ decode cX4_countStepsTo 15 = .ok (.if_icmp .ne 7, 3) := by decide +kernel
theorem dX4_countStepsTo_74 : decode cX4_countStepsTo 74 = .ok (.ifCond .eq 10, 3) := gdX4_countStepsTo_74.1
theorem dX4_countStepsTo_77 : decode cX4_countStepsTo 77 = .ok (.aload_n 0, 1) := gdX4_countStepsTo_74.2.1
theorem dX4_countStepsTo_78 : decode cX4_countStepsTo 78 = .ok (.getfield 33, 3) := gdX4_countStepsTo_74.2.2.1
theorem dX4_countStepsTo_81 : decode cX4_countStepsTo 81 = .ok (.iload_n 3, 1) := gdX4_countStepsTo_74.2.2.2.1
theorem dX4_countStepsTo_82 : decode cX4_countStepsTo 82 = .ok (.iload_n 2, 1) := gdX4_countStepsTo_74.2.2.2.2.1
theorem dX4_countStepsTo_83 : decode cX4_countStepsTo 83 = .ok (.iastore, 1) := gdX4_countStepsTo_74.2.2.2.2.2.1
theorem dX4_countStepsTo_8 : decode cX4_countStepsTo 8 = .ok (.aload_n 0, 1) := gdX4_countStepsTo_74.2.2.2.2.2.2.1
theorem dX4_countStepsTo_9 : decode cX4_countStepsTo 9 = .ok (.getfield 33, 3) := gdX4_countStepsTo_74.2.2.2.2.2.2.2.1
theorem dX4_countStepsTo_12 : decode cX4_countStepsTo 12 = .ok (.iload_n 2, 1) := gdX4_countStepsTo_74.2.2.2.2.2.2.2.2.1
theorem dX4_countStepsTo_13 : decode cX4_countStepsTo 13 = .ok (.iload_n 2, 1) := gdX4_countStepsTo_74.2.2.2.2.2.2.2.2.2.1
theorem dX4_countStepsTo_14 : decode cX4_countStepsTo 14 = .ok (.iload_n 1, 1) := gdX4_countStepsTo_74.2.2.2.2.2.2.2.2.2.2.1
theorem dX4_countStepsTo_15 : decode cX4_countStepsTo 15 = .ok (.if_icmp .ne 7, 3) := gdX4_countStepsTo_74.2.2.2.2.2.2.2.2.2.2.2
theorem gdX4_countStepsTo_22 : decode cX4_countStepsTo 22 = .ok (.bipush 99, 2) ∧ decode cX4_countStepsTo 24 = .ok (.iastore, 1) ∧ decode cX4_countStepsTo 25 = .ok (.iinc 2 1, 3) ∧ decode cX4_countStepsTo 28 = .ok (.goto (-26), 3) ∧ decode cX4_countStepsTo 18 = .ok (.iconst 0, 1) ∧ decode cX4_countStepsTo 19 = .ok (.goto 5, 3) := by decide +kernel
theorem dX4_countStepsTo_22 : decode cX4_countStepsTo 22 = .ok (.bipush 99, 2) := gdX4_countStepsTo_22.1
theorem dX4_countStepsTo_24 : decode cX4_countStepsTo 24 = .ok (.iastore, 1) := gdX4_countStepsTo_22.2.1
theorem dX4_countStepsTo_25 : decode cX4_countStepsTo 25 = .ok (.iinc 2 1, 3) := gdX4_countStepsTo_22.2.2.1
theorem dX4_countStepsTo_28 : decode cX4_countStepsTo 28 = .ok (.goto (-26), 3) := gdX4_countStepsTo_22.2.2.2.1
theorem dX4_countStepsTo_18 : decode cX4_countStepsTo 18 = .ok (.iconst 0, 1) := gdX4_countStepsTo_22.2.2.2.2.1
theorem dX4_countStepsTo_19 : decode cX4_countStepsTo 19 = .ok (.goto 5, 3) := gdX4_countStepsTo_22.2.2.2.2.2
set_option maxHeartbeats 1000000 in
set_option maxRecDepth 100000 in
theorem s_countStepsTo (l : Launch) (D : va_G) (cy : Nat → ClassId) (h0 : Nat) (h1 : Nat) (h2 : Nat) (h3 : Nat) (h4 : Nat) (h5 : Nat) (h6 : Nat) (h7 : Nat) (h8 : Nat) (h9 : Nat) (h10 : Nat) (h11 : Nat) (hv0 : Value) (hv1 : Value) (hv2 : Value) (hv3 : Value) (hv4 : Value) (fc : Nat → Int32) (c0 : Nat) (c1 : Nat) (c2 : Nat) (c3 : Nat) (fx : Nat → Int32) (fl : Nat → Int32) (gx : Int32) (hcn : cntOK fc c0 c1 c2 c3) (hc0 : c0 ≤ 8) (hc1 : c1 ≤ 4) (hc2 : c2 ≤ 4) (hc3 : c3 ≤ 6) (hnx : rng fx 48 5) : XMv l D (tyL cy) E0 yX4_countStepsTo cX4_countStepsTo 4 none (rmk 1 0 0) [.ref h0, .int gx] [wO h0 4 [.ref h1, .ref h2, .ref h3, .ref h4, .ref h5, .ref h6, .ref h7, .ref h8, .ref h9, .ref h10, .ref h11, hv0, hv1, hv2, hv3, hv4], wI (cy 1) h1 4 (fc), wI (cy 1) h7 48 (fx), wI (cy 1) h8 6 (fl)] (fun (fl2 : Nat → Int32) => (slOK fl2)) (fun (fl2 : Nat → Int32) => [wO h0 4 [.ref h1, .ref h2, .ref h3, .ref h4, .ref h5, .ref h6, .ref h7, .ref h8, .ref h9, .ref h10, .ref h11, hv0, hv1, hv2, hv3, hv4], wI (cy 1) h1 4 (fc), wI (cy 1) h7 48 (fx), wI (cy 1) h8 6 (fl2)]) := by
  refine XMv.start (by decide) (Nat.le_of_ble_eq_true rfl) ?_
  intro p e s m below meth c args A ls Q hat hQ
  obtain ⟨hx, hb, hr, hml, hown, hg, hlocks, hin, hK, hA, hP, hD, hS, hE, hl⟩ := hat
  have hown : s.vm.findClass RX4 = some m.cls := hown
  have hl : lv_has ls 4 [(0, .ref h0), (1, .int gx)] := hl
  refine lv_iconst (v := 0) hx hb dX4_countStepsTo_0 (by decide) ?_
  refine lv_istore_n (lv' := [(2, .int 0), (0, .ref h0), (1, .int gx)]) hx hb dX4_countStepsTo_1 rfl hl (by decide) rfl (fun ls hl => ?_)
  have loop1 : ∀ (zn : Nat) (i1 : Nat) (fa1_1 : Nat → Int32), (i1 ≤ 6) → (slTo fa1_1 i1) → 6 - i1 + 1 ≤ zn → ∀ (H : Heap) (locs : List Loc), va_P D vwCl [wO h0 4 [.ref h1, .ref h2, .ref h3, .ref h4, .ref h5, .ref h6, .ref h7, .ref h8, .ref h9, .ref h10, .ref h11, hv0, hv1, hv2, hv3, hv4], wI (cy 1) h1 4 (fc), wI (cy 1) h7 48 (fx), wI (cy 1) h8 6 (fa1_1)] H → va_D A [wO h0 4 [.ref h1, .ref h2, .ref h3, .ref h4, .ref h5, .ref h6, .ref h7, .ref h8, .ref h9, .ref h10, .ref h11, hv0, hv1, hv2, hv3, hv4], wI (cy 1) h1 4 (fc), wI (cy 1) h7 48 (fx), wI (cy 1) h8 6 (fa1_1)] → va_S A s.heap H locs → ∀ ls : Array Slot, lv_has ls 4 [(2, .int (nI i1)), (0, .ref h0), (1, .int gx)] → W p l e (rmk 1 0 0) s m args below meth c H locs 0 0 Q (F0 m 2 ls []) := by
    try clear hP hD hS
    intro zn
    induction zn with
    | zero => intro i1 fa1_1 _ _ hz; exact absurd hz (by omega)
    | succ zn ih1 =>
      intro i1 fa1_1 hf0_1 hf1_1 hmu1 H locs hP hD hS ls hl
      refine lv_iload_n hx hb dX4_countStepsTo_2 rfl (lv_at hl 0 rfl) ?_
      refine lv_bipush (v := 6) hx hb dX4_countStepsTo_3 (by decide) ?_
      refine lv_icmp_ge (tgt := 31) hx hb dX4_countStepsTo_5 (by decide) (fun c_2 => ?_) (fun c_2 => ?_)
      · have q_3 : 6 ≤ i1 := q_le (a := 6) (b := i1) rfl rfl (by omega) (by omega) c_2
        have hs0 : slOK fa1_1 := fun k hk => hf1_1 k (by omega)
        refine lv_iconst (v := 1) hx hb dX4_countStepsTo_31 (by decide) ?_
        refine lv_istore_n (lv' := [(2, .int 1), (0, .ref h0), (1, .int gx)]) hx hb dX4_countStepsTo_32 rfl hl (by decide) rfl (fun ls hl => ?_)
        have loop4 : ∀ (zn : Nat) (rd4 : Nat) (fa1_4 : Nat → Int32), (slOK fa1_4) → (1 ≤ rd4) → (rd4 ≤ 6) → 6 - rd4 + 1 ≤ zn → ∀ (H : Heap) (locs : List Loc), va_P D vwCl [wO h0 4 [.ref h1, .ref h2, .ref h3, .ref h4, .ref h5, .ref h6, .ref h7, .ref h8, .ref h9, .ref h10, .ref h11, hv0, hv1, hv2, hv3, hv4], wI (cy 1) h1 4 (fc), wI (cy 1) h7 48 (fx), wI (cy 1) h8 6 (fa1_4)] H → va_D A [wO h0 4 [.ref h1, .ref h2, .ref h3, .ref h4, .ref h5, .ref h6, .ref h7, .ref h8, .ref h9, .ref h10, .ref h11, hv0, hv1, hv2, hv3, hv4], wI (cy 1) h1 4 (fc), wI (cy 1) h7 48 (fx), wI (cy 1) h8 6 (fa1_4)] → va_S A s.heap H locs → ∀ ls : Array Slot, lv_has ls 4 [(2, .int (nI rd4)), (0, .ref h0), (1, .int gx)] → W p l e (rmk 1 0 0) s m args below meth c H locs 0 0 Q (F0 m 33 ls []) := by
          try clear hP hD hS
          intro zn
          induction zn with
          | zero => intro rd4 fa1_4 _ _ _ hz; exact absurd hz (by omega)
          | succ zn ih4 =>
            intro rd4 fa1_4 ha2_4 hf0_4 hf1_4 hmu4 H locs hP hD hS ls hl
            refine lv_iload_n hx hb dX4_countStepsTo_33 rfl (lv_at hl 0 rfl) ?_
            refine lv_aload_n hx hb dX4_countStepsTo_34 rfl (lv_at hl 1 rfl) ?_
            refine va_get (D := D) (ci := 4) (v := .ref h1) (C := RX4) (T := TX4) (N := 16) hx hb hg i_X4 hown hK hP 0 rfl rfl 0 (by decide) (hg _ m_329) (fun _ h9 => h9) rfl dX4_countStepsTo_35 ?_
            refine lv_iconst (v := 3) hx hb dX4_countStepsTo_38 (by decide) ?_
            refine va_iald hx hb hK hP 1 1 rfl rfl (by unfold vp_in; decide) dX4_countStepsTo_39 ?_
            refine lv_topi (fun y_5 hy_5 => ?_)
            obtain rfl : y_5 = nI c3 := hy_5.trans hcn.2.2.2
            refine lv_icmp_ge (tgt := 96) hx hb dX4_countStepsTo_40 (by decide) (fun c_6 => ?_) (fun c_6 => ?_)
            · have q_7 : c3 ≤ rd4 := q_le (a := c3) (b := rd4) rfl rfl (by omega) (by omega) c_6
              exact x_vret hQ hx hb hr hlocks hK hP hD hS dX4_countStepsTo_96 fa1_4 (ha2_4) [0, 1, 2, 3] (by decide +kernel) rfl (Nat.le_of_ble_eq_true rfl) (Nat.le_of_ble_eq_true rfl)
            · have q_7 : rd4 < c3 := q_nle (a := c3) (b := rd4) rfl rfl (by omega) (by omega) c_6
              refine lv_iconst (v := 0) hx hb dX4_countStepsTo_43 (by decide) ?_
              refine lv_istore_n (lv' := [(3, .int 0), (2, .int (nI rd4)), (0, .ref h0), (1, .int gx)]) hx hb dX4_countStepsTo_44 rfl hl (by decide) rfl (fun ls hl => ?_)
              have loop8 : ∀ (zn : Nat) (sx8 : Nat) (fa1_8 : Nat → Int32), (slOK fa1_8) → (sx8 ≤ c3) → c3 - sx8 + 1 ≤ zn → ∀ (H : Heap) (locs : List Loc), va_P D vwCl [wO h0 4 [.ref h1, .ref h2, .ref h3, .ref h4, .ref h5, .ref h6, .ref h7, .ref h8, .ref h9, .ref h10, .ref h11, hv0, hv1, hv2, hv3, hv4], wI (cy 1) h1 4 (fc), wI (cy 1) h7 48 (fx), wI (cy 1) h8 6 (fa1_8)] H → va_D A [wO h0 4 [.ref h1, .ref h2, .ref h3, .ref h4, .ref h5, .ref h6, .ref h7, .ref h8, .ref h9, .ref h10, .ref h11, hv0, hv1, hv2, hv3, hv4], wI (cy 1) h1 4 (fc), wI (cy 1) h7 48 (fx), wI (cy 1) h8 6 (fa1_8)] → va_S A s.heap H locs → ∀ ls : Array Slot, lv_has ls 4 [(3, .int (nI sx8)), (2, .int (nI rd4)), (0, .ref h0), (1, .int gx)] → W p l e (rmk 1 0 0) s m args below meth c H locs 0 0 Q (F0 m 45 ls []) := by
                try clear hP hD hS
                intro zn
                induction zn with
                | zero => intro sx8 fa1_8 _ _ hz; exact absurd hz (by omega)
                | succ zn ih8 =>
                  intro sx8 fa1_8 ha2_8 hf0_8 hmu8 H locs hP hD hS ls hl
                  refine lv_iload_n hx hb dX4_countStepsTo_45 rfl (lv_at hl 0 rfl) ?_
                  refine lv_aload_n hx hb dX4_countStepsTo_46 rfl (lv_at hl 2 rfl) ?_
                  refine va_get (D := D) (ci := 4) (v := .ref h1) (C := RX4) (T := TX4) (N := 16) hx hb hg i_X4 hown hK hP 0 rfl rfl 0 (by decide) (hg _ m_329) (fun _ h9 => h9) rfl dX4_countStepsTo_47 ?_
                  refine lv_iconst (v := 3) hx hb dX4_countStepsTo_50 (by decide) ?_
                  refine va_iald hx hb hK hP 1 1 rfl rfl (by unfold vp_in; decide) dX4_countStepsTo_51 ?_
                  refine lv_topi (fun y_9 hy_9 => ?_)
                  obtain rfl : y_9 = nI c3 := hy_9.trans hcn.2.2.2
                  refine lv_icmp_ge (tgt := 90) hx hb dX4_countStepsTo_52 (by decide) (fun c_10 => ?_) (fun c_10 => ?_)
                  · have q_11 : c3 ≤ sx8 := q_le (a := c3) (b := sx8) rfl rfl (by omega) (by omega) c_10
                    refine lv_iinc (v := nI (rd4 + 1)) (lv' := [(2, .int (nI (rd4 + 1))), (3, .int (nI sx8)), (0, .ref h0), (1, .int gx)]) hx hb dX4_countStepsTo_90 hl (k := 1) rfl (nI_add rd4 1) (by decide) rfl (fun ls hl => ?_)
                    refine lv_goto (tgt := 33) hx hb dX4_countStepsTo_93 (by decide) ?_
                    exact ih4  ((rd4 + 1)) fa1_8 ha2_8 (by omega) (by omega) (by omega) _ _ (hP.sub [0, 1, 2, 3] rfl) (hD.sub [0, 1, 2, 3] (by decide +kernel) rfl) hS ls (lv_sub hl [0, 2, 3] rfl)
                  · have q_11 : sx8 < c3 := q_nle (a := c3) (b := sx8) rfl rfl (by omega) (by omega) c_10
                    refine lv_aload_n hx hb dX4_countStepsTo_55 rfl (lv_at hl 2 rfl) ?_
                    refine va_get (D := D) (ci := 4) (v := .ref h8) (C := RX4) (T := TX4) (N := 16) hx hb hg i_X4 hown hK hP 0 rfl rfl 7 (by decide) (hg _ m_359) (fun _ h9 => h9) rfl dX4_countStepsTo_56 ?_
                    refine lv_iload_n hx hb dX4_countStepsTo_59 rfl (lv_at hl 0 rfl) ?_
                    refine va_iald hx hb hK hP 3 1 rfl rfl (vp_in_nI (by omega) (by decide)) dX4_countStepsTo_60 ?_
                    obtain ⟨j_12, hj_12, ej_12⟩ := sl_at ha2_8 (i := sx8) (by omega)
                    refine lv_topi (fun y_13 hy_13 => ?_)
                    obtain rfl : y_13 = nI j_12 := hy_13.trans ej_12
                    refine lv_bipush (v := 99) hx hb dX4_countStepsTo_61 (by decide) ?_
                    refine lv_icmp_ne (tgt := 84) hx hb dX4_countStepsTo_63 (by decide) (fun c_14 => ?_) (fun c_14 => ?_)
                    · have q_15 : ¬ j_12 = 99 := q_ne (a := j_12) (b := 99) rfl rfl (by omega) (by omega) c_14
                      refine lv_iinc (v := nI (sx8 + 1)) (lv' := [(3, .int (nI (sx8 + 1))), (2, .int (nI rd4)), (0, .ref h0), (1, .int gx)]) hx hb dX4_countStepsTo_84 hl (k := 0) rfl (nI_add sx8 1) (by decide) rfl (fun ls hl => ?_)
                      refine lv_goto (tgt := 45) hx hb dX4_countStepsTo_87 (by decide) ?_
                      exact ih8  ((sx8 + 1)) fa1_8 ha2_8 (by omega) (by omega) _ _ (hP.sub [0, 1, 2, 3] rfl) (hD.sub [0, 1, 2, 3] (by decide +kernel) rfl) hS ls (lv_sub hl [0, 1, 2, 3] rfl)
                    · have q_15 : j_12 = 99 := q_eq (a := j_12) (b := 99) rfl rfl (by omega) (by omega) c_14
                      refine lv_aload_n hx hb dX4_countStepsTo_66 rfl (lv_at hl 2 rfl) ?_
                      refine lv_iload_n hx hb dX4_countStepsTo_67 rfl (lv_at hl 0 rfl) ?_
                      refine lv_iload_n hx hb dX4_countStepsTo_68 rfl (lv_at hl 1 rfl) ?_
                      refine lv_iconst (v := 1) hx hb dX4_countStepsTo_69 (by decide) ?_
                      refine lv_isub hx hb dX4_countStepsTo_70 ?_
                      refine lv_topi (fun y_16 hy_16 => ?_)
                      obtain rfl : y_16 = nI (rd4 - 1) := hy_16.trans (pk_sub (a := rd4) (b := 1) (by omega))
                      refine x_callVi (q := (RX4, TX4, 16)) (ci := 4) (q0 := 0) (wr := []) (rest := []) ⟨hx, hb, hml, hown, hg, hl.1⟩ k_X4_104 (s_leadsToOneAt l D cy h0 h1 h2 h3 h4 h5 h6 h7 h8 h9 h10 h11 hv0 hv1 hv2 hv3 hv4 fc c0 c1 c2 c3 fx fa1_8 sx8 (nI (rd4 - 1)) (hcn) (by omega) (by omega) (by omega) (by omega) (hnx) (ha2_8) (by omega)) E0_blind hK hP hD hS hA [0, 1, 2, 3] [] ⟨rfl, rfl, by decide +kernel, by decide +kernel, by decide +kernel⟩ rfl rfl (fun _ _ _ => trivial) dX4_countStepsTo_71 rfl rfl (Nat.le_of_ble_eq_true rfl) ⟨Nat.le_of_ble_eq_true rfl, Nat.le_of_ble_eq_true rfl⟩ ⟨Nat.le_of_ble_eq_true rfl, Nat.le_of_ble_eq_true rfl⟩ (fun zr17 zu17 H locs hw17 hP9 hD9 hS9 => ?_)
                      clear hP hD hS
                      refine reW [wO h0 4 [.ref h1, .ref h2, .ref h3, .ref h4, .ref h5, .ref h6, .ref h7, .ref h8, .ref h9, .ref h10, .ref h11, hv0, hv1, hv2, hv3, hv4], wI (cy 1) h1 4 (fc), wI (cy 1) h7 48 (fx), wI (cy 1) h8 6 (fa1_8)] hP9 hD9 hS9 (fun hP hD hS => ?_)
                      clear hP9 hD9 hS9
                      refine W.widen (k := 0) (n := 0) (Nat.le_of_ble_eq_true rfl) (Nat.le_of_ble_eq_true rfl) ?_
                      replace hw17 : (zr17 = 0 ∨ zr17 = 1) := hw17
                      have f_18 := hw17
                      refine lv_if_eq (tgt := 84) hx hb dX4_countStepsTo_74 (by decide) (fun c_74 => ?_) (fun c_74 => ?_)
                      · refine lv_iinc (v := nI (sx8 + 1)) (lv' := [(3, .int (nI (sx8 + 1))), (2, .int (nI rd4)), (0, .ref h0), (1, .int gx)]) hx hb dX4_countStepsTo_84 hl (k := 0) rfl (nI_add sx8 1) (by decide) rfl (fun ls hl => ?_)
                        refine lv_goto (tgt := 45) hx hb dX4_countStepsTo_87 (by decide) ?_
                        exact ih8  ((sx8 + 1)) fa1_8 ha2_8 (by omega) (by omega) _ _ (hP.sub [0, 1, 2, 3] rfl) (hD.sub [0, 1, 2, 3] (by decide +kernel) rfl) hS ls (lv_sub hl [0, 1, 2, 3] rfl)
                      · refine lv_aload_n hx hb dX4_countStepsTo_77 rfl (lv_at hl 2 rfl) ?_
                        refine va_get (D := D) (ci := 4) (v := .ref h8) (C := RX4) (T := TX4) (N := 16) hx hb hg i_X4 hown hK hP 0 rfl rfl 7 (by decide) (hg _ m_359) (fun _ h9 => h9) rfl dX4_countStepsTo_78 ?_
                        refine lv_iload_n hx hb dX4_countStepsTo_81 rfl (lv_at hl 0 rfl) ?_
                        refine lv_iload_n hx hb dX4_countStepsTo_82 rfl (lv_at hl 1 rfl) ?_
                        refine va_iast hx hb hK hP hD hS 3 1 rfl rfl (vp_in_nI (by omega) (by decide)) dX4_countStepsTo_83 (fun H locs hP9 hD9 hS9 => ?_)
                        clear hP hD hS
                        have hP := hP9
                        have hD := hD9
                        have hS := hS9
                        clear hP9 hD9 hS9
                        obtain ⟨g_19, eg_19⟩ : ∃ y, upd fa1_8 (nI sx8 : Int32).toNatClampNeg (nI rd4) = y := ⟨_, rfl⟩
                        rw [eg_19] at hP hD
                        have hr_20 : slOK g_19 := eg_19 ▸ sl_put ha2_8 (j := rd4) (by omega)
                        replace hP : va_P D vwCl [wO h0 4 [.ref h1, .ref h2, .ref h3, .ref h4, .ref h5, .ref h6, .ref h7, .ref h8, .ref h9, .ref h10, .ref h11, hv0, hv1, hv2, hv3, hv4], wI (cy 1) h1 4 (fc), wI (cy 1) h7 48 (fx), wI (cy 1) h8 6 (g_19)] H := hP
                        replace hD : va_D A [wO h0 4 [.ref h1, .ref h2, .ref h3, .ref h4, .ref h5, .ref h6, .ref h7, .ref h8, .ref h9, .ref h10, .ref h11, hv0, hv1, hv2, hv3, hv4], wI (cy 1) h1 4 (fc), wI (cy 1) h7 48 (fx), wI (cy 1) h8 6 (g_19)] := hD
                        refine lv_iinc (v := nI (sx8 + 1)) (lv' := [(3, .int (nI (sx8 + 1))), (2, .int (nI rd4)), (0, .ref h0), (1, .int gx)]) hx hb dX4_countStepsTo_84 hl (k := 0) rfl (nI_add sx8 1) (by decide) rfl (fun ls hl => ?_)
                        refine lv_goto (tgt := 45) hx hb dX4_countStepsTo_87 (by decide) ?_
                        exact ih8  ((sx8 + 1)) g_19 hr_20 (by omega) (by omega) _ _ (hP.sub [0, 1, 2, 3] rfl) (hD.sub [0, 1, 2, 3] (by decide +kernel) rfl) hS ls (lv_sub hl [0, 1, 2, 3] rfl)
              exact loop8 _ 0 fa1_4 ha2_4 (by omega) (Nat.le_refl _) _ _ (hP.sub [0, 1, 2, 3] rfl) (hD.sub [0, 1, 2, 3] (by decide +kernel) rfl) hS ls (lv_sub hl [0, 1, 2, 3] rfl)
        exact loop4 _ 1 fa1_1 hs0 (by omega) (by omega) (Nat.le_refl _) _ _ (hP.sub [0, 1, 2, 3] rfl) (hD.sub [0, 1, 2, 3] (by decide +kernel) rfl) hS ls (lv_sub hl [0, 1, 2] rfl)
      · have q_3 : i1 < 6 := q_nle (a := 6) (b := i1) rfl rfl (by omega) (by omega) c_2
        refine lv_aload_n hx hb dX4_countStepsTo_8 rfl (lv_at hl 1 rfl) ?_
        refine va_get (D := D) (ci := 4) (v := .ref h8) (C := RX4) (T := TX4) (N := 16) hx hb hg i_X4 hown hK hP 0 rfl rfl 7 (by decide) (hg _ m_359) (fun _ h9 => h9) rfl dX4_countStepsTo_9 ?_
        refine lv_iload_n hx hb dX4_countStepsTo_12 rfl (lv_at hl 0 rfl) ?_
        refine lv_iload_n hx hb dX4_countStepsTo_13 rfl (lv_at hl 0 rfl) ?_
        refine lv_iload_n hx hb dX4_countStepsTo_14 rfl (lv_at hl 2 rfl) ?_
        refine lv_icmp_ne (tgt := 22) hx hb dX4_countStepsTo_15 (by decide) (fun c_15 => ?_) (fun c_15 => ?_)
        · refine lv_bipush (v := 99) hx hb dX4_countStepsTo_22 (by decide) ?_
          refine va_iast hx hb hK hP hD hS 3 1 rfl rfl (vp_in_nI (by omega) (by decide)) dX4_countStepsTo_24 (fun H locs hP9 hD9 hS9 => ?_)
          clear hP hD hS
          obtain ⟨g_21, eg_21⟩ : ∃ y, upd fa1_1 (nI i1 : Int32).toNatClampNeg 99 = y := ⟨_, rfl⟩
          rw [eg_21] at hP9 hD9
          refine reW [wO h0 4 [.ref h1, .ref h2, .ref h3, .ref h4, .ref h5, .ref h6, .ref h7, .ref h8, .ref h9, .ref h10, .ref h11, hv0, hv1, hv2, hv3, hv4], wI (cy 1) h1 4 (fc), wI (cy 1) h7 48 (fx), wI (cy 1) h8 6 (g_21)] hP9 hD9 hS9 (fun hP hD hS => ?_)
          clear hP9 hD9 hS9
          refine lv_iinc (v := nI (i1 + 1)) (lv' := [(2, .int (nI (i1 + 1))), (0, .ref h0), (1, .int gx)]) hx hb dX4_countStepsTo_25 hl (k := 0) rfl (nI_add i1 1) (by decide) rfl (fun ls hl => ?_)
          refine lv_goto (tgt := 2) hx hb dX4_countStepsTo_28 (by decide) ?_
          exact ih1  ((i1 + 1)) g_21 (by omega) (eg_21 ▸ slTo_put (j := 99) (by omega) hf1_1 (by omega)) (by omega) _ _ (hP.sub [0, 1, 2, 3] rfl) (hD.sub [0, 1, 2, 3] (by decide +kernel) rfl) hS ls (lv_sub hl [0, 1, 2] rfl)
        · refine lv_iconst (v := 0) hx hb dX4_countStepsTo_18 (by decide) ?_
          refine lv_goto (tgt := 24) hx hb dX4_countStepsTo_19 (by decide) ?_
          refine va_iast hx hb hK hP hD hS 3 1 rfl rfl (vp_in_nI (by omega) (by decide)) dX4_countStepsTo_24 (fun H locs hP9 hD9 hS9 => ?_)
          clear hP hD hS
          obtain ⟨g_22, eg_22⟩ : ∃ y, upd fa1_1 (nI i1 : Int32).toNatClampNeg 0 = y := ⟨_, rfl⟩
          rw [eg_22] at hP9 hD9
          refine reW [wO h0 4 [.ref h1, .ref h2, .ref h3, .ref h4, .ref h5, .ref h6, .ref h7, .ref h8, .ref h9, .ref h10, .ref h11, hv0, hv1, hv2, hv3, hv4], wI (cy 1) h1 4 (fc), wI (cy 1) h7 48 (fx), wI (cy 1) h8 6 (g_22)] hP9 hD9 hS9 (fun hP hD hS => ?_)
          clear hP9 hD9 hS9
          refine lv_iinc (v := nI (i1 + 1)) (lv' := [(2, .int (nI (i1 + 1))), (0, .ref h0), (1, .int gx)]) hx hb dX4_countStepsTo_25 hl (k := 0) rfl (nI_add i1 1) (by decide) rfl (fun ls hl => ?_)
          refine lv_goto (tgt := 2) hx hb dX4_countStepsTo_28 (by decide) ?_
          exact ih1  ((i1 + 1)) g_22 (by omega) (eg_22 ▸ slTo_put (j := 0) (by omega) hf1_1 (by omega)) (by omega) _ _ (hP.sub [0, 1, 2, 3] rfl) (hD.sub [0, 1, 2, 3] (by decide +kernel) rfl) hS ls (lv_sub hl [0, 1, 2] rfl)
  exact loop1 _ 0 fl (by omega) (fun k hk => absurd hk (by omega)) (Nat.le_refl _) _ _ (hP.sub [0, 1, 2, 3] rfl) (hD.sub [0, 1, 2, 3] (by decide +kernel) rfl) hS ls (lv_sub hl [0, 1, 2] rfl)
theorem gdX4_pathTo_0 : decode cX4_pathTo 0 = .ok (.aload_n 0, 1) ∧ decode cX4_pathTo 1 = .ok (.iload_n 1, 1) ∧ decode cX4_pathTo 2 = .ok (.invokevirtual 97, 3) := by decide +kernel
theorem dX4_pathTo_0 : decode cX4_pathTo 0 = .ok (.aload_n 0, 1) := gdX4_pathTo_0.1
theorem dX4_pathTo_1 : decode cX4_pathTo 1 = .ok (.iload_n 1, 1) := gdX4_pathTo_0.2.1
theorem dX4_pathTo_2 : decode cX4_pathTo 2 = .ok (.invokevirtual 97, 3) := gdX4_pathTo_0.2.2
theorem k_X4_97 : xV RX4 RX4 97 yX4_countStepsTo cX4_countStepsTo 4 none 1 := ⟨⟨m_1304, m_1306, m_56, m_137, m_1307⟩, rfl, by decide, by decide, by decide +kernel⟩
theorem gdX4_pathTo_5 : decode cX4_pathTo 5 = .ok (.aload_n 0, 1) ∧ decode cX4_pathTo 6 = .ok (.getfield 33, 3) ∧ decode cX4_pathTo 9 = .ok (.iconst 0, 1) ∧ decode cX4_pathTo 10 = .ok (.iaload, 1) ∧ decode cX4_pathTo 11 = .ok (.istore_n 3, 1) ∧ decode cX4_pathTo 12 = .ok (.iload_n 3, 1) ∧ decode cX4_pathTo 13 = .ok (.bipush 99, 2) ∧ decode cX4_pathTo 15 = .ok (.if_icmp .ne 5, 3) ∧ decode cX4_pathTo 20 = .ok (.iconst 0, 1) ∧ decode cX4_pathTo 21 = .ok (.istore 4, 2) ∧ decode cX4_pathTo 23 = .ok (.iconst 0, 1) ∧ decode cX4_pathTo 24 = .ok (.istore 5, 2) := by decide +kernel
theorem dX4_pathTo_5 : decode cX4_pathTo 5 = .ok (.aload_n 0, 1) := gdX4_pathTo_5.1
theorem dX4_pathTo_6 : decode cX4_pathTo 6 = .ok (.getfield 33, 3) := gdX4_pathTo_5.2.1
theorem dX4_pathTo_9 : decode cX4_pathTo 9 = .ok (.iconst 0, 1) := gdX4_pathTo_5.2.2.1
theorem dX4_pathTo_10 : decode cX4_pathTo 10 = .ok (.iaload, 1) := gdX4_pathTo_5.2.2.2.1
theorem dX4_pathTo_11 : decode cX4_pathTo 11 = .ok (.istore_n 3, 1) := gdX4_pathTo_5.2.2.2.2.1
theorem dX4_pathTo_12 : decode cX4_pathTo 12 = .ok (.iload_n 3, 1) := gdX4_pathTo_5.2.2.2.2.2.1
theorem dX4_pathTo_13 : decode cX4_pathTo 13 = .ok (.bipush 99, 2) := gdX4_pathTo_5.2.2.2.2.2.2.1
theorem dX4_pathTo_15 : decode cX4_pathTo 15 = .ok (.if_icmp .ne 5, 3) := gdX4_pathTo_5.2.2.2.2.2.2.2.1
theorem dX4_pathTo_20 : decode cX4_pathTo 20 = .ok (.iconst 0, 1) := gdX4_pathTo_5.2.2.2.2.2.2.2.2.1
theorem dX4_pathTo_21 : decode cX4_pathTo 21 = .ok (.istore 4, 2) := gdX4_pathTo_5.2.2.2.2.2.2.2.2.2.1
theorem dX4_pathTo_23 : decode cX4_pathTo 23 = .ok (.iconst 0, 1) := gdX4_pathTo_5.2.2.2.2.2.2.2.2.2.2.1
theorem dX4_pathTo_24 : decode cX4_pathTo 24 = .ok (.istore 5, 2) := gdX4_pathTo_5.2.2.2.2.2.2.2.2.2.2.2
theorem gdX4_pathTo_26 : decode cX4_pathTo 26 = .ok (.iload 5, 2) ∧ decode cX4_pathTo 28 = .ok (.iload_n 3, 1) ∧ decode cX4_pathTo 29 = .ok (.if_icmp .ge 38, 3) ∧ decode cX4_pathTo 67 = .ok (.iload_n 3, 1) ∧ decode cX4_pathTo 68 = .ok (.ireturn, 1) ∧ decode cX4_pathTo 32 = .ok (.aload_n 0, 1) ∧ decode cX4_pathTo 33 = .ok (.iload 4, 2) ∧ decode cX4_pathTo 35 = .ok (.invokevirtual 101, 3) := by decide +kernel
theorem dX4_pathTo_26 : decode cX4_pathTo 26 = .ok (.iload 5, 2) := gdX4_pathTo_26.1
theorem dX4_pathTo_28 : decode cX4_pathTo 28 = .ok (.iload_n 3, 1) := gdX4_pathTo_26.2.1
theorem dX4_pathTo_29 : decode cX4_pathTo 29 = .ok (.if_icmp .ge 38, 3) := gdX4_pathTo_26.2.2.1
theorem dX4_pathTo_67 : decode cX4_pathTo 67 = .ok (.iload_n 3, 1) := gdX4_pathTo_26.2.2.2.1
theorem dX4_pathTo_68 : decode cX4_pathTo 68 = .ok (.ireturn, 1) := gdX4_pathTo_26.2.2.2.2.1
theorem dX4_pathTo_32 : decode cX4_pathTo 32 = .ok (.aload_n 0, 1) := gdX4_pathTo_26.2.2.2.2.2.1
theorem dX4_pathTo_33 : decode cX4_pathTo 33 = .ok (.iload 4, 2) := gdX4_pathTo_26.2.2.2.2.2.2.1
theorem dX4_pathTo_35 : decode cX4_pathTo 35 = .ok (.invokevirtual 101, 3) := gdX4_pathTo_26.2.2.2.2.2.2.2
theorem k_X4_101 : xV RX4 RX4 101 yX4_firstWordNearer cX4_firstWordNearer 3 (some .int) 1 := ⟨⟨m_1312, m_1314, m_58, m_137, m_1315⟩, rfl, by decide, by decide, by decide +kernel⟩
theorem gdX4_pathTo_38 : decode cX4_pathTo 38 = .ok (.istore 6, 2) ∧ decode cX4_pathTo 40 = .ok (.aload_n 2, 1) ∧ decode cX4_pathTo 41 = .ok (.iload 5, 2) ∧ decode cX4_pathTo 43 = .ok (.iload 6, 2) ∧ decode cX4_pathTo 45 = .ok (.iastore, 1) ∧ decode cX4_pathTo 46 = .ok (.aload_n 0, 1) ∧ decode cX4_pathTo 47 = .ok (.getfield 30, 3) ∧ decode cX4_pathTo 50 = .ok (.iload 4, 2) ∧ decode cX4_pathTo 52 = .ok (.bipush 8, 2) ∧ decode cX4_pathTo 54 = .ok (.imul, 1) ∧ decode cX4_pathTo 55 = .ok (.iload 6, 2) ∧ decode cX4_pathTo 57 = .ok (.iadd, 1) := by decide +kernel
theorem dX4_pathTo_38 : decode cX4_pathTo 38 = .ok (.istore 6, 2) := gdX4_pathTo_38.1
theorem dX4_pathTo_40 : decode cX4_pathTo 40 = .ok (.aload_n 2, 1) := gdX4_pathTo_38.2.1
theorem dX4_pathTo_41 : decode cX4_pathTo 41 = .ok (.iload 5, 2) := gdX4_pathTo_38.2.2.1
theorem dX4_pathTo_43 : decode cX4_pathTo 43 = .ok (.iload 6, 2) := gdX4_pathTo_38.2.2.2.1
theorem dX4_pathTo_45 : decode cX4_pathTo 45 = .ok (.iastore, 1) := gdX4_pathTo_38.2.2.2.2.1
theorem dX4_pathTo_46 : decode cX4_pathTo 46 = .ok (.aload_n 0, 1) := gdX4_pathTo_38.2.2.2.2.2.1
theorem dX4_pathTo_47 : decode cX4_pathTo 47 = .ok (.getfield 30, 3) := gdX4_pathTo_38.2.2.2.2.2.2.1
theorem dX4_pathTo_50 : decode cX4_pathTo 50 = .ok (.iload 4, 2) := gdX4_pathTo_38.2.2.2.2.2.2.2.1
theorem dX4_pathTo_52 : decode cX4_pathTo 52 = .ok (.bipush 8, 2) := gdX4_pathTo_38.2.2.2.2.2.2.2.2.1
theorem dX4_pathTo_54 : decode cX4_pathTo 54 = .ok (.imul, 1) := gdX4_pathTo_38.2.2.2.2.2.2.2.2.2.1
theorem dX4_pathTo_55 : decode cX4_pathTo 55 = .ok (.iload 6, 2) := gdX4_pathTo_38.2.2.2.2.2.2.2.2.2.2.1
theorem dX4_pathTo_57 : decode cX4_pathTo 57 = .ok (.iadd, 1) := gdX4_pathTo_38.2.2.2.2.2.2.2.2.2.2.2
theorem gdX4_pathTo_58 : decode cX4_pathTo 58 = .ok (.iaload, 1) ∧ decode cX4_pathTo 59 = .ok (.istore 4, 2) ∧ decode cX4_pathTo 61 = .ok (.iinc 5 1, 3) ∧ decode cX4_pathTo 64 = .ok (.goto (-38), 3) ∧ decode cX4_pathTo 18 = .ok (.iconst (-1), 1) ∧ decode cX4_pathTo 19 = .ok (.ireturn, 1) := by decide +kernel
theorem dX4_pathTo_58 : decode cX4_pathTo 58 = .ok (.iaload, 1) := gdX4_pathTo_58.1
theorem dX4_pathTo_59 : decode cX4_pathTo 59 = .ok (.istore 4, 2) := gdX4_pathTo_58.2.1
theorem dX4_pathTo_61 : decode cX4_pathTo 61 = .ok (.iinc 5 1, 3) := gdX4_pathTo_58.2.2.1
theorem dX4_pathTo_64 : decode cX4_pathTo 64 = .ok (.goto (-38), 3) := gdX4_pathTo_58.2.2.2.1
theorem dX4_pathTo_18 : decode cX4_pathTo 18 = .ok (.iconst (-1), 1) := gdX4_pathTo_58.2.2.2.2.1
theorem dX4_pathTo_19 : decode cX4_pathTo 19 = .ok (.ireturn, 1) := gdX4_pathTo_58.2.2.2.2.2
set_option maxHeartbeats 1000000 in
set_option maxRecDepth 100000 in
theorem s_pathTo (l : Launch) (D : va_G) (cy : Nat → ClassId) (h0 : Nat) (h1 : Nat) (h2 : Nat) (h3 : Nat) (h4 : Nat) (h5 : Nat) (h6 : Nat) (h7 : Nat) (h8 : Nat) (h9 : Nat) (h10 : Nat) (h11 : Nat) (hv0 : Value) (hv1 : Value) (hv2 : Value) (hv3 : Value) (hv4 : Value) (fc : Nat → Int32) (c0 : Nat) (c1 : Nat) (c2 : Nat) (c3 : Nat) (fx : Nat → Int32) (fl : Nat → Int32) (gx : Int32) (ly : Nat) (fy : Nat → Int32) (hcn : cntOK fc c0 c1 c2 c3) (hc0 : c0 ≤ 8) (hc1 : c1 ≤ 4) (hc2 : c2 ≤ 4) (hc3 : c3 ≤ 6) (hnx : rng fx 48 5) : XMi l D (tyL cy) E0 yX4_pathTo cX4_pathTo 7 (some .int) (rmk 2 0 0) [.ref h0, .int gx, .ref ly] [wO h0 4 [.ref h1, .ref h2, .ref h3, .ref h4, .ref h5, .ref h6, .ref h7, .ref h8, .ref h9, .ref h10, .ref h11, hv0, hv1, hv2, hv3, hv4], wI (cy 1) h1 4 (fc), wI (cy 1) h7 48 (fx), wI (cy 1) h8 6 (fl), wI (cy 1) ly 10 (fy)] (fun (r : Int32) (u : (Nat → Int32) × (Nat → Int32)) => (r = -1 ∨ ∃ k : Nat, k ≤ 5 ∧ r = nI k)) (fun (u : (Nat → Int32) × (Nat → Int32)) => [wO h0 4 [.ref h1, .ref h2, .ref h3, .ref h4, .ref h5, .ref h6, .ref h7, .ref h8, .ref h9, .ref h10, .ref h11, hv0, hv1, hv2, hv3, hv4], wI (cy 1) h1 4 (fc), wI (cy 1) h7 48 (fx), wI (cy 1) h8 6 (u.1), wI (cy 1) ly 10 (u.2)]) := by
  refine XMi.start (by decide) (Nat.le_of_ble_eq_true rfl) ?_
  intro p e s m below meth c args A ls Q hat hQ
  obtain ⟨hx, hb, hr, hml, hown, hg, hlocks, hin, hK, hA, hP, hD, hS, hE, hl⟩ := hat
  have hown : s.vm.findClass RX4 = some m.cls := hown
  have hl : lv_has ls 7 [(0, .ref h0), (1, .int gx), (2, .ref ly)] := hl
  refine lv_aload_n hx hb dX4_pathTo_0 rfl (lv_at hl 0 rfl) ?_
  refine lv_iload_n hx hb dX4_pathTo_1 rfl (lv_at hl 1 rfl) ?_
  refine x_callVv (q := (RX4, TX4, 16)) (ci := 4) (q0 := 0) (wr := [wI (cy 1) ly 10 (fy)]) (rest := []) ⟨hx, hb, hml, hown, hg, hl.1⟩ k_X4_97 (s_countStepsTo l D cy h0 h1 h2 h3 h4 h5 h6 h7 h8 h9 h10 h11 hv0 hv1 hv2 hv3 hv4 fc c0 c1 c2 c3 fx fl gx (hcn) (by omega) (by omega) (by omega) (by omega) (hnx)) E0_blind hK hP hD hS hA [0, 1, 2, 3] [4] ⟨rfl, rfl, by decide +kernel, by decide +kernel, by decide +kernel⟩ rfl rfl (fun _ _ _ => trivial) dX4_pathTo_2 rfl rfl (Nat.le_of_ble_eq_true rfl) ⟨Nat.le_of_ble_eq_true rfl, Nat.le_of_ble_eq_true rfl⟩ ⟨Nat.le_of_ble_eq_true rfl, Nat.le_of_ble_eq_true rfl⟩ (fun zu1 H locs hw1 hP9 hD9 hS9 => ?_)
  clear hP hD hS
  obtain ⟨fl2_2, rfl⟩ : ∃ z, z = zu1 := ⟨_, rfl⟩
  refine reW [wI (cy 1) ly 10 (fy), wO h0 4 [.ref h1, .ref h2, .ref h3, .ref h4, .ref h5, .ref h6, .ref h7, .ref h8, .ref h9, .ref h10, .ref h11, hv0, hv1, hv2, hv3, hv4], wI (cy 1) h1 4 (fc), wI (cy 1) h7 48 (fx), wI (cy 1) h8 6 (fl2_2)] hP9 hD9 hS9 (fun hP hD hS => ?_)
  clear hP9 hD9 hS9
  refine W.widen (k := 0) (n := 0) (Nat.le_of_ble_eq_true rfl) (Nat.le_of_ble_eq_true rfl) ?_
  replace hw1 : (slOK fl2_2) := hw1
  have f_3 := hw1
  refine lv_aload_n hx hb dX4_pathTo_5 rfl (lv_at hl 0 rfl) ?_
  refine va_get (D := D) (ci := 4) (v := .ref h8) (C := RX4) (T := TX4) (N := 16) hx hb hg i_X4 hown hK hP 1 rfl rfl 7 (by decide) (hg _ m_359) (fun _ h9 => h9) rfl dX4_pathTo_6 ?_
  refine lv_iconst (v := 0) hx hb dX4_pathTo_9 (by decide) ?_
  refine va_iald hx hb hK hP 4 1 rfl rfl (by unfold vp_in; decide) dX4_pathTo_10 ?_
  obtain ⟨j_4, hj_4, ej_4⟩ := sl_at f_3 (i := 0) (by omega)
  refine lv_topi (fun y_5 hy_5 => ?_)
  obtain rfl : y_5 = nI j_4 := hy_5.trans ej_4
  refine lv_istore_n (lv' := [(3, .int (nI j_4)), (0, .ref h0), (1, .int gx), (2, .ref ly)]) hx hb dX4_pathTo_11 rfl hl (by decide) rfl (fun ls hl => ?_)
  refine lv_iload_n hx hb dX4_pathTo_12 rfl (lv_at hl 0 rfl) ?_
  refine lv_bipush (v := 99) hx hb dX4_pathTo_13 (by decide) ?_
  refine lv_icmp_ne (tgt := 20) hx hb dX4_pathTo_15 (by decide) (fun c_6 => ?_) (fun c_6 => ?_)
  · have q_7 : ¬ j_4 = 99 := q_ne (a := j_4) (b := 99) rfl rfl (by omega) (by omega) c_6
    refine lv_iconst (v := 0) hx hb dX4_pathTo_20 (by decide) ?_
    refine lv_istore (lv' := [(4, .int 0), (3, .int (nI j_4)), (0, .ref h0), (1, .int gx), (2, .ref ly)]) hx hb dX4_pathTo_21 hl (by decide) rfl (fun ls hl => ?_)
    refine lv_iconst (v := 0) hx hb dX4_pathTo_23 (by decide) ?_
    refine lv_istore (lv' := [(5, .int 0), (4, .int 0), (3, .int (nI j_4)), (0, .ref h0), (1, .int gx), (2, .ref ly)]) hx hb dX4_pathTo_24 hl (by decide) rfl (fun ls hl => ?_)
    have loop8 : ∀ (zn : Nat) (st8 : Nat) (i8 : Nat) (fa2_8 : Nat → Int32) (fa3_8 : Nat → Int32), (slOK fa2_8) → (i8 ≤ 5) → (st8 ≤ 5) → 5 - i8 + 1 ≤ zn → ∀ (H : Heap) (locs : List Loc), va_P D vwCl [wI (cy 1) ly 10 (fa3_8), wO h0 4 [.ref h1, .ref h2, .ref h3, .ref h4, .ref h5, .ref h6, .ref h7, .ref h8, .ref h9, .ref h10, .ref h11, hv0, hv1, hv2, hv3, hv4], wI (cy 1) h1 4 (fc), wI (cy 1) h7 48 (fx), wI (cy 1) h8 6 (fa2_8)] H → va_D A [wI (cy 1) ly 10 (fa3_8), wO h0 4 [.ref h1, .ref h2, .ref h3, .ref h4, .ref h5, .ref h6, .ref h7, .ref h8, .ref h9, .ref h10, .ref h11, hv0, hv1, hv2, hv3, hv4], wI (cy 1) h1 4 (fc), wI (cy 1) h7 48 (fx), wI (cy 1) h8 6 (fa2_8)] → va_S A s.heap H locs → ∀ ls : Array Slot, lv_has ls 7 [(5, .int (nI i8)), (4, .int (nI st8)), (3, .int (nI j_4)), (0, .ref h0), (1, .int gx), (2, .ref ly)] → W p l e (rmk 2 0 0) s m args below meth c H locs 0 0 Q (F0 m 26 ls []) := by
      try clear hP hD hS
      intro zn
      induction zn with
      | zero => intro st8 i8 fa2_8 fa3_8 _ _ _ hz; exact absurd hz (by omega)
      | succ zn ih8 =>
        intro st8 i8 fa2_8 fa3_8 ha3_8 hf0_8 hf1_8 hmu8 H locs hP hD hS ls hl
        refine lv_iload hx hb dX4_pathTo_26 (lv_at hl 0 rfl) ?_
        refine lv_iload_n hx hb dX4_pathTo_28 rfl (lv_at hl 2 rfl) ?_
        refine lv_icmp_ge (tgt := 67) hx hb dX4_pathTo_29 (by decide) (fun c_9 => ?_) (fun c_9 => ?_)
        · have q_10 : j_4 ≤ i8 := q_le (a := j_4) (b := i8) rfl rfl (by omega) (by omega) c_9
          refine lv_iload_n hx hb dX4_pathTo_67 rfl (lv_at hl 2 rfl) ?_
          exact x_iret hQ hx hb hr hlocks hK hP hD hS dX4_pathTo_68 (fa2_8, fa3_8) (Or.inr ⟨j_4, by omega, rfl⟩) [1, 2, 3, 4, 0] (by decide +kernel) rfl (Nat.le_of_ble_eq_true rfl) (Nat.le_of_ble_eq_true rfl)
        · have q_10 : i8 < j_4 := q_nle (a := j_4) (b := i8) rfl rfl (by omega) (by omega) c_9
          refine lv_aload_n hx hb dX4_pathTo_32 rfl (lv_at hl 3 rfl) ?_
          refine lv_iload hx hb dX4_pathTo_33 (lv_at hl 1 rfl) ?_
          refine x_callVi (q := (RX4, TX4, 16)) (ci := 4) (q0 := 0) (wr := [wI (cy 1) ly 10 (fa3_8)]) (rest := []) ⟨hx, hb, hml, hown, hg, hl.1⟩ k_X4_101 (s_firstWordNearer l D cy h0 h1 h2 h3 h4 h5 h6 h7 h8 h9 h10 h11 hv0 hv1 hv2 hv3 hv4 fc c0 c1 c2 c3 fx fa2_8 st8 (hcn) (by omega) (by omega) (by omega) (by omega) (hnx) (ha3_8) (by omega)) E0_blind hK hP hD hS hA [1, 2, 3, 4] [0] ⟨rfl, rfl, by decide +kernel, by decide +kernel, by decide +kernel⟩ rfl rfl (fun _ _ _ => trivial) dX4_pathTo_35 rfl rfl (Nat.le_of_ble_eq_true rfl) ⟨Nat.le_of_ble_eq_true rfl, Nat.le_of_ble_eq_true rfl⟩ ⟨Nat.le_of_ble_eq_true rfl, Nat.le_of_ble_eq_true rfl⟩ (fun zr11 zu11 H locs hw11 hP9 hD9 hS9 => ?_)
          clear hP hD hS
          obtain ⟨k_12, rfl⟩ : ∃ z, z = zu11 := ⟨_, rfl⟩
          refine reW [wI (cy 1) ly 10 (fa3_8), wO h0 4 [.ref h1, .ref h2, .ref h3, .ref h4, .ref h5, .ref h6, .ref h7, .ref h8, .ref h9, .ref h10, .ref h11, hv0, hv1, hv2, hv3, hv4], wI (cy 1) h1 4 (fc), wI (cy 1) h7 48 (fx), wI (cy 1) h8 6 (fa2_8)] hP9 hD9 hS9 (fun hP hD hS => ?_)
          clear hP9 hD9 hS9
          refine W.widen (k := 0) (n := 0) (Nat.le_of_ble_eq_true rfl) (Nat.le_of_ble_eq_true rfl) ?_
          replace hw11 : (zr11 = nI k_12) ∧ (k_12 ≤ 7) := hw11
          obtain ⟨f_13, f_14⟩ := hw11
          subst f_13
          refine lv_istore (lv' := [(6, .int (nI k_12)), (5, .int (nI i8)), (4, .int (nI st8)), (3, .int (nI j_4)), (0, .ref h0), (1, .int gx), (2, .ref ly)]) hx hb dX4_pathTo_38 hl (by decide) rfl (fun ls hl => ?_)
          refine lv_aload_n hx hb dX4_pathTo_40 rfl (lv_at hl 6 rfl) ?_
          refine lv_iload hx hb dX4_pathTo_41 (lv_at hl 1 rfl) ?_
          refine lv_iload hx hb dX4_pathTo_43 (lv_at hl 0 rfl) ?_
          refine va_iast hx hb hK hP hD hS 0 1 rfl rfl (vp_in_nI (by omega) (by decide)) dX4_pathTo_45 (fun H locs hP9 hD9 hS9 => ?_)
          clear hP hD hS
          obtain ⟨g_15, eg_15⟩ : ∃ y, upd fa3_8 (nI i8 : Int32).toNatClampNeg (nI k_12) = y := ⟨_, rfl⟩
          rw [eg_15] at hP9 hD9
          refine reW [wI (cy 1) ly 10 (g_15), wO h0 4 [.ref h1, .ref h2, .ref h3, .ref h4, .ref h5, .ref h6, .ref h7, .ref h8, .ref h9, .ref h10, .ref h11, hv0, hv1, hv2, hv3, hv4], wI (cy 1) h1 4 (fc), wI (cy 1) h7 48 (fx), wI (cy 1) h8 6 (fa2_8)] hP9 hD9 hS9 (fun hP hD hS => ?_)
          clear hP9 hD9 hS9
          refine lv_aload_n hx hb dX4_pathTo_46 rfl (lv_at hl 4 rfl) ?_
          refine va_get (D := D) (ci := 4) (v := .ref h7) (C := RX4) (T := TX4) (N := 16) hx hb hg i_X4 hown hK hP 1 rfl rfl 6 (by decide) (hg _ m_354) (fun _ h9 => h9) rfl dX4_pathTo_47 ?_
          refine lv_iload hx hb dX4_pathTo_50 (lv_at hl 2 rfl) ?_
          refine lv_bipush (v := 8) hx hb dX4_pathTo_52 (by decide) ?_
          refine lv_imul hx hb dX4_pathTo_54 ?_
          refine lv_topi (fun y_16 hy_16 => ?_)
          obtain rfl : y_16 = nI (st8 * 8) := hy_16.trans (pk_mul st8 8)
          refine lv_iload hx hb dX4_pathTo_55 (lv_at hl 0 rfl) ?_
          refine lv_iadd hx hb dX4_pathTo_57 ?_
          refine lv_topi (fun y_17 hy_17 => ?_)
          obtain rfl : y_17 = nI ((st8 * 8) + k_12) := hy_17.trans (nI_add ((st8 * 8)) k_12)
          refine va_iald hx hb hK hP 3 1 rfl rfl (vp_in_nI (by omega) (by decide)) dX4_pathTo_58 ?_
          obtain ⟨j_18, hj_18, ej_18⟩ := rng_at hnx (i := ((st8 * 8) + k_12)) (by omega) (by decide)
          refine lv_topi (fun y_19 hy_19 => ?_)
          obtain rfl : y_19 = nI j_18 := hy_19.trans ej_18
          refine lv_istore (lv' := [(4, .int (nI j_18)), (6, .int (nI k_12)), (5, .int (nI i8)), (3, .int (nI j_4)), (0, .ref h0), (1, .int gx), (2, .ref ly)]) hx hb dX4_pathTo_59 hl (by decide) rfl (fun ls hl => ?_)
          refine lv_iinc (v := nI (i8 + 1)) (lv' := [(5, .int (nI (i8 + 1))), (4, .int (nI j_18)), (6, .int (nI k_12)), (3, .int (nI j_4)), (0, .ref h0), (1, .int gx), (2, .ref ly)]) hx hb dX4_pathTo_61 hl (k := 2) rfl (nI_add i8 1) (by decide) rfl (fun ls hl => ?_)
          refine lv_goto (tgt := 26) hx hb dX4_pathTo_64 (by decide) ?_
          exact ih8  j_18 ((i8 + 1)) fa2_8 g_15 ha3_8 (by omega) (by omega) (by omega) _ _ (hP.sub [0, 1, 2, 3, 4] rfl) (hD.sub [0, 1, 2, 3, 4] (by decide +kernel) rfl) hS ls (lv_sub hl [0, 1, 3, 4, 5, 6] rfl)
    exact loop8 _ 0 0 fl2_2 fy f_3 (by omega) (by omega) (Nat.le_refl _) _ _ (hP.sub [0, 1, 2, 3, 4] rfl) (hD.sub [0, 1, 2, 3, 4] (by decide +kernel) rfl) hS ls (lv_sub hl [0, 1, 2, 3, 4, 5] rfl)
  · have q_7 : j_4 = 99 := q_eq (a := j_4) (b := 99) rfl rfl (by omega) (by omega) c_6
    refine lv_iconst (v := -1) hx hb dX4_pathTo_18 (by decide) ?_
    exact x_iret hQ hx hb hr hlocks hK hP hD hS dX4_pathTo_19 (fl2_2, fy) (Or.inl rfl) [1, 2, 3, 4, 0] (by decide +kernel) rfl (Nat.le_of_ble_eq_true rfl) (Nat.le_of_ble_eq_true rfl)
