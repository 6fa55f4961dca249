def mL05 : List (Option Cond) := [some (Cond.selects RX3 yX3_add yX3_add), some (Cond.initialized RX3), some (Cond.fieldLink RX3 9 "CliffJudges$Formula" "code" "[I"), some (Cond.fieldLink RX3 13 "CliffJudges$Formula" "stack" "[I"), some (Cond.fieldLink RX3 16 "CliffJudges$Formula" "length" "I"), some (Cond.fieldLink RX3 20 "CliffJudges$Formula" "told" "Z"), some (Cond.methodLink RX3 24 yX3_add), some (Cond.instanceMethod yX3_add), some (Cond.code yX3_add cX3_add 2 none), some (Cond.methodLink RX3 30 yX3_combine), some (Cond.static yX3_combine), some (Cond.code yX3_combine cX3_combine 3 (some .int))]
set_option maxRecDepth 100000 in
theorem mP05 : pick [22, 116, 162, 1, 1, 1, 580, 2, 1, 164, 1, 1] lw_tbl = mL05 := rfl
set_option maxRecDepth 100000 in
theorem mG05 : mL05.all (fun o => o.all goodWord) = true := rfl
theorem m_22 : (Cond.selects RX3 yX3_add yX3_add) ∈ gT := gp mP05 mG05 0 rfl
theorem m_138 : (Cond.initialized RX3) ∈ gT := gp mP05 mG05 1 rfl
theorem m_300 : (Cond.fieldLink RX3 9 "CliffJudges$Formula" "code" "[I") ∈ gT := gp mP05 mG05 2 rfl
theorem m_301 : (Cond.fieldLink RX3 13 "CliffJudges$Formula" "stack" "[I") ∈ gT := gp mP05 mG05 3 rfl
theorem m_302 : (Cond.fieldLink RX3 16 "CliffJudges$Formula" "length" "I") ∈ gT := gp mP05 mG05 4 rfl
theorem m_303 : (Cond.fieldLink RX3 20 "CliffJudges$Formula" "told" "Z") ∈ gT := gp mP05 mG05 5 rfl
theorem m_883 : (Cond.methodLink RX3 24 yX3_add) ∈ gT := gp mP05 mG05 6 rfl
theorem m_885 : (Cond.instanceMethod yX3_add) ∈ gT := gp mP05 mG05 7 rfl
theorem m_886 : (Cond.code yX3_add cX3_add 2 none) ∈ gT := gp mP05 mG05 8 rfl
theorem m_1050 : (Cond.methodLink RX3 30 yX3_combine) ∈ gT := gp mP05 mG05 9 rfl
theorem m_1051 : (Cond.static yX3_combine) ∈ gT := gp mP05 mG05 10 rfl
theorem m_1052 : (Cond.code yX3_combine cX3_combine 3 (some .int)) ∈ gT := gp mP05 mG05 11 rfl
theorem gdX3_clear_0 : decode cX3_clear 0 = .ok (.aload_n 0, 1) ∧ decode cX3_clear 1 = .ok (.iconst 0, 1) ∧ decode cX3_clear 2 = .ok (.putfield 16, 3) := by decide +kernel
theorem dX3_clear_0 : decode cX3_clear 0 = .ok (.aload_n 0, 1) := gdX3_clear_0.1
theorem dX3_clear_1 : decode cX3_clear 1 = .ok (.iconst 0, 1) := gdX3_clear_0.2.1
theorem dX3_clear_2 : decode cX3_clear 2 = .ok (.putfield 16, 3) := gdX3_clear_0.2.2
set_option maxRecDepth 20000 in
theorem i_X3 : ∀ w ∈ u_ws RX3 TX3 4, w ∈ gT := gin [307, 309, 311, 313] (by decide +kernel) (by decide +kernel)
theorem gdX3_clear_5 : decode cX3_clear 5 = .ok (.aload_n 0, 1) ∧ decode cX3_clear 6 = .ok (.iconst 0, 1) ∧ decode cX3_clear 7 = .ok (.putfield 20, 3) ∧ decode cX3_clear 10 = .ok (.return_, 1) := by decide +kernel
theorem dX3_clear_5 : decode cX3_clear 5 = .ok (.aload_n 0, 1) := gdX3_clear_5.1
theorem dX3_clear_6 : decode cX3_clear 6 = .ok (.iconst 0, 1) := gdX3_clear_5.2.1
theorem dX3_clear_7 : decode cX3_clear 7 = .ok (.putfield 20, 3) := gdX3_clear_5.2.2.1
theorem dX3_clear_10 : decode cX3_clear 10 = .ok (.return_, 1) := gdX3_clear_5.2.2.2
set_option maxHeartbeats 1000000 in
set_option maxRecDepth 100000 in
theorem s_fclear (l : Launch) (D : va_G) (cy : Nat → ClassId) (f0 : Nat) (f1 : Nat) (f2 : Nat) (y2 : Value) (y3 : Value)  : XMv l D (tyL cy) E0 yX3_clear cX3_clear 1 none (rmk 0 0 0) [.ref f0] [wO f0 3 [.ref f1, .ref f2, y2, y3]] (fun (_ : Unit) => True) (fun (_ : Unit) => [wO f0 3 [.ref f1, .ref f2, .int 0, .int 0]]) := by
  refine XMv.start (by decide) (Nat.le_of_ble_eq_true rfl) ?_
  intro p e s m below meth c args A ls Q hat hQ
  obtain ⟨hx, hb, hr, hml, hown, hg, hlocks, hin, hK, hA, hP, hD, hS, hE, hl⟩ := hat
  have hown : s.vm.findClass RX3 = some m.cls := hown
  have hl : lv_has ls 1 [(0, .ref f0)] := hl
  refine lv_aload_n hx hb dX3_clear_0 rfl (lv_at hl 0 rfl) ?_
  refine lv_iconst (v := 0) hx hb dX3_clear_1 (by decide) ?_
  refine va_put (D := D) (ci := 3) (v := .int 0) (ty := .int) (C := RX3) (T := TX3) (N := 4) hx hb hg i_X3 tyX3 tyX3_ok nmX3 hown hK hP hD hS 0 rfl rfl 2 (by decide) (hg _ m_302) (fun _ h9 => h9) rfl (by decide +kernel) rfl rfl (Nat.le_of_ble_eq_true rfl) dX3_clear_2 (fun H locs hP9 hD9 hS9 => ?_)
  clear hP hD hS
  refine reW [wO f0 3 [.ref f1, .ref f2, .int 0, y3]] hP9 hD9 hS9 (fun hP hD hS => ?_)
  clear hP9 hD9 hS9
  refine lv_aload_n hx hb dX3_clear_5 rfl (lv_at hl 0 rfl) ?_
  refine lv_iconst (v := 0) hx hb dX3_clear_6 (by decide) ?_
  refine va_put (D := D) (ci := 3) (v := .int 0) (ty := .boolean) (C := RX3) (T := TX3) (N := 4) hx hb hg i_X3 tyX3 tyX3_ok nmX3 hown hK hP hD hS 0 rfl rfl 3 (by decide) (hg _ m_303) (fun _ h9 => h9) rfl (by decide +kernel) rfl rfl (Nat.le_of_ble_eq_true rfl) dX3_clear_7 (fun H locs hP9 hD9 hS9 => ?_)
  clear hP hD hS
  refine reW [wO f0 3 [.ref f1, .ref f2, .int 0, .int 0]] hP9 hD9 hS9 (fun hP hD hS => ?_)
  clear hP9 hD9 hS9
  exact x_vret hQ hx hb hr hlocks hK hP hD hS dX3_clear_10 () (trivial) [0] (by decide +kernel) rfl (Nat.le_of_ble_eq_true rfl) (Nat.le_of_ble_eq_true rfl)
theorem gdX3_add_0 : decode cX3_add 0 = .ok (.aload_n 0, 1) ∧ decode cX3_add 1 = .ok (.getfield 16, 3) ∧ decode cX3_add 4 = .ok (.sipush 280, 3) ∧ decode cX3_add 7 = .ok (.if_icmp .ge 23, 3) ∧ decode cX3_add 30 = .ok (.return_, 1) ∧ decode cX3_add 10 = .ok (.aload_n 0, 1) ∧ decode cX3_add 11 = .ok (.getfield 9, 3) ∧ decode cX3_add 14 = .ok (.aload_n 0, 1) ∧ decode cX3_add 15 = .ok (.getfield 16, 3) ∧ decode cX3_add 18 = .ok (.iload_n 1, 1) ∧ decode cX3_add 19 = .ok (.iastore, 1) ∧ decode cX3_add 20 = .ok (.aload_n 0, 1) := by decide +kernel
theorem dX3_add_0 : decode cX3_add 0 = .ok (.aload_n 0, 1) := gdX3_add_0.1
theorem dX3_add_1 : decode cX3_add 1 = .ok (.getfield 16, 3) := gdX3_add_0.2.1
theorem dX3_add_4 : decode cX3_add 4 = .ok (.sipush 280, 3) := gdX3_add_0.2.2.1
theorem dX3_add_7 : decode cX3_add 7 = .ok (.if_icmp .ge 23, 3) := gdX3_add_0.2.2.2.1
theorem dX3_add_30 : decode cX3_add 30 = .ok (.return_, 1) := gdX3_add_0.2.2.2.2.1
theorem dX3_add_10 : decode cX3_add 10 = .ok (.aload_n 0, 1) := gdX3_add_0.2.2.2.2.2.1
theorem dX3_add_11 : decode cX3_add 11 = .ok (.getfield 9, 3) := gdX3_add_0.2.2.2.2.2.2.1
theorem dX3_add_14 : decode cX3_add 14 = .ok (.aload_n 0, 1) := gdX3_add_0.2.2.2.2.2.2.2.1
theorem dX3_add_15 : decode cX3_add 15 = .ok (.getfield 16, 3) := gdX3_add_0.2.2.2.2.2.2.2.2.1
theorem dX3_add_18 : decode cX3_add 18 = .ok (.iload_n 1, 1) := gdX3_add_0.2.2.2.2.2.2.2.2.2.1
theorem dX3_add_19 : decode cX3_add 19 = .ok (.iastore, 1) := gdX3_add_0.2.2.2.2.2.2.2.2.2.2.1
theorem dX3_add_20 : decode cX3_add 20 = .ok (.aload_n 0, 1) := gdX3_add_0.2.2.2.2.2.2.2.2.2.2.2
theorem gdX3_add_21 : decode cX3_add 21 = .ok (.dup, 1) ∧ decode cX3_add 22 = .ok (.getfield 16, 3) ∧ decode cX3_add 25 = .ok (.iconst 1, 1) ∧ decode cX3_add 26 = .ok (.iadd, 1) ∧ decode cX3_add 27 = .ok (.putfield 16, 3) := by decide +kernel
theorem dX3_add_21 : decode cX3_add 21 = .ok (.dup, 1) := gdX3_add_21.1
theorem dX3_add_22 : decode cX3_add 22 = .ok (.getfield 16, 3) := gdX3_add_21.2.1
theorem dX3_add_25 : decode cX3_add 25 = .ok (.iconst 1, 1) := gdX3_add_21.2.2.1
theorem dX3_add_26 : decode cX3_add 26 = .ok (.iadd, 1) := gdX3_add_21.2.2.2.1
theorem dX3_add_27 : decode cX3_add 27 = .ok (.putfield 16, 3) := gdX3_add_21.2.2.2.2
set_option maxHeartbeats 1000000 in
set_option maxRecDepth 100000 in
theorem s_add (l : Launch) (D : va_G) (cy : Nat → ClassId) (f0 : Nat) (f1 : Nat) (f2 : Nat) (n : Nat) (y3 : Value) (fc : Nat → Int32) (sx : Int32) (hn : n ≤ 280) (hfc : cOK fc n) (hsx : sx.toInt < 10007 ∨ 20000 ≤ sx.toInt) : XMv l D (tyL cy) E0 yX3_add cX3_add 2 none (rmk 0 0 0) [.ref f0, .int sx] [wO f0 3 [.ref f1, .ref f2, .int (nI n), y3], wI (cy 1) f1 280 (fc)] (fun (u : Nat × (Nat → Int32)) => (u.1 ≤ 280) ∧ (cOK u.2 u.1)) (fun (u : Nat × (Nat → Int32)) => [wO f0 3 [.ref f1, .ref f2, .int (nI u.1), y3], wI (cy 1) f1 280 (u.2)]) := by
  refine XMv.start (by decide) (Nat.le_of_ble_eq_true rfl) ?_
  intro p e s m below meth c args A ls Q hat hQ
  obtain ⟨hx, hb, hr, hml, hown, hg, hlocks, hin, hK, hA, hP, hD, hS, hE, hl⟩ := hat
  have hown : s.vm.findClass RX3 = some m.cls := hown
  have hl : lv_has ls 2 [(0, .ref f0), (1, .int sx)] := hl
  refine lv_aload_n hx hb dX3_add_0 rfl (lv_at hl 0 rfl) ?_
  refine va_get (D := D) (ci := 3) (v := .int (nI n)) (C := RX3) (T := TX3) (N := 4) hx hb hg i_X3 hown hK hP 0 rfl rfl 2 (by decide) (hg _ m_302) (fun _ h9 => h9) rfl dX3_add_1 ?_
  refine lv_sipush (v := 280) hx hb dX3_add_4 (by decide) ?_
  refine lv_icmp_ge (tgt := 30) hx hb dX3_add_7 (by decide) (fun c_1 => ?_) (fun c_1 => ?_)
  · have q_2 : 280 ≤ n := q_le (a := 280) (b := n) rfl rfl (by omega) (by omega) c_1
    exact x_vret hQ hx hb hr hlocks hK hP hD hS dX3_add_30 (n, fc) (⟨(show n ≤ 280 from by omega), hfc⟩) [0, 1] (by decide +kernel) rfl (Nat.le_of_ble_eq_true rfl) (Nat.le_of_ble_eq_true rfl)
  · have q_2 : n < 280 := q_nle (a := 280) (b := n) rfl rfl (by omega) (by omega) c_1
    refine lv_aload_n hx hb dX3_add_10 rfl (lv_at hl 0 rfl) ?_
    refine va_get (D := D) (ci := 3) (v := .ref f1) (C := RX3) (T := TX3) (N := 4) hx hb hg i_X3 hown hK hP 0 rfl rfl 0 (by decide) (hg _ m_300) (fun _ h9 => h9) rfl dX3_add_11 ?_
    refine lv_aload_n hx hb dX3_add_14 rfl (lv_at hl 0 rfl) ?_
    refine va_get (D := D) (ci := 3) (v := .int (nI n)) (C := RX3) (T := TX3) (N := 4) hx hb hg i_X3 hown hK hP 0 rfl rfl 2 (by decide) (hg _ m_302) (fun _ h9 => h9) rfl dX3_add_15 ?_
    refine lv_iload_n hx hb dX3_add_18 rfl (lv_at hl 1 rfl) ?_
    refine va_iast hx hb hK hP hD hS 1 1 rfl rfl (vp_in_nI (by omega) (by decide)) dX3_add_19 (fun H locs hP9 hD9 hS9 => ?_)
    clear hP hD hS
    have hP := hP9
    have hD := hD9
    have hS := hS9
    clear hP9 hD9 hS9
    obtain ⟨g_3, eg_3⟩ : ∃ y, upd fc (nI n : Int32).toNatClampNeg sx = y := ⟨_, rfl⟩
    rw [eg_3] at hP hD
    have hr_4 : cOK g_3 (n + 1) := eg_3 ▸ cOK_put (by omega) hfc hsx
    replace hP : va_P D vwCl [wO f0 3 [.ref f1, .ref f2, .int (nI n), y3], wI (cy 1) f1 280 (g_3)] H := hP
    replace hD : va_D A [wO f0 3 [.ref f1, .ref f2, .int (nI n), y3], wI (cy 1) f1 280 (g_3)] := hD
    refine lv_aload_n hx hb dX3_add_20 rfl (lv_at hl 0 rfl) ?_
    refine lv_dup hx hb dX3_add_21 rfl ?_
    refine va_get (D := D) (ci := 3) (v := .int (nI n)) (C := RX3) (T := TX3) (N := 4) hx hb hg i_X3 hown hK hP 0 rfl rfl 2 (by decide) (hg _ m_302) (fun _ h9 => h9) rfl dX3_add_22 ?_
    refine lv_iconst (v := 1) hx hb dX3_add_25 (by decide) ?_
    refine lv_iadd hx hb dX3_add_26 ?_
    refine lv_topi (fun y_5 hy_5 => ?_)
    obtain rfl : y_5 = nI (n + 1) := hy_5.trans (nI_add n 1)
    refine va_put (D := D) (ci := 3) (v := .int (nI (n + 1))) (ty := .int) (C := RX3) (T := TX3) (N := 4) hx hb hg i_X3 tyX3 tyX3_ok nmX3 hown hK hP hD hS 0 rfl rfl 2 (by decide) (hg _ m_302) (fun _ h9 => h9) rfl (by decide +kernel) rfl rfl (Nat.le_of_ble_eq_true rfl) dX3_add_27 (fun H locs hP9 hD9 hS9 => ?_)
    clear hP hD hS
    refine reW [wO f0 3 [.ref f1, .ref f2, .int (nI (n + 1)), y3], wI (cy 1) f1 280 (g_3)] hP9 hD9 hS9 (fun hP hD hS => ?_)
    clear hP9 hD9 hS9
    exact x_vret hQ hx hb hr hlocks hK hP hD hS dX3_add_30 ((n + 1), g_3) (⟨(show ((n + 1)) ≤ 280 from by omega), hr_4⟩) [0, 1] (by decide +kernel) rfl (Nat.le_of_ble_eq_true rfl) (Nat.le_of_ble_eq_true rfl)
theorem gdX3_addNumber_0 : decode cX3_addNumber 0 = .ok (.aload_n 0, 1) ∧ decode cX3_addNumber 1 = .ok (.iload_n 1, 1) ∧ decode cX3_addNumber 2 = .ok (.invokevirtual 24, 3) := by decide +kernel
theorem dX3_addNumber_0 : decode cX3_addNumber 0 = .ok (.aload_n 0, 1) := gdX3_addNumber_0.1
theorem dX3_addNumber_1 : decode cX3_addNumber 1 = .ok (.iload_n 1, 1) := gdX3_addNumber_0.2.1
theorem dX3_addNumber_2 : decode cX3_addNumber 2 = .ok (.invokevirtual 24, 3) := gdX3_addNumber_0.2.2
theorem k_X3_24 : xV RX3 RX3 24 yX3_add cX3_add 2 none 1 := ⟨⟨m_883, m_885, m_22, m_138, m_886⟩, rfl, by decide, by decide, by decide +kernel⟩
theorem dX3_addNumber_5 : decode cX3_addNumber 5 = .ok (.return_, 1) := by decide +kernel
set_option maxHeartbeats 1000000 in
set_option maxRecDepth 100000 in
theorem s_addNumber (l : Launch) (D : va_G) (cy : Nat → ClassId) (f0 : Nat) (f1 : Nat) (f2 : Nat) (n : Nat) (y3 : Value) (fc : Nat → Int32) (k : Nat) (hn : n ≤ 280) (hfc : cOK fc n) (hk : k ≤ 9999) : XMv l D (tyL cy) E0 yX3_addNumber cX3_addNumber 2 none (rmk 1 0 0) [.ref f0, .int (nI k)] [wO f0 3 [.ref f1, .ref f2, .int (nI n), y3], wI (cy 1) f1 280 (fc)] (fun (u : Nat × (Nat → Int32)) => (u.1 ≤ 280) ∧ (cOK u.2 u.1)) (fun (u : Nat × (Nat → Int32)) => [wO f0 3 [.ref f1, .ref f2, .int (nI u.1), y3], wI (cy 1) f1 280 (u.2)]) := by
  refine XMv.start (by decide) (Nat.le_of_ble_eq_true rfl) ?_
  intro p e s m below meth c args A ls Q hat hQ
  obtain ⟨hx, hb, hr, hml, hown, hg, hlocks, hin, hK, hA, hP, hD, hS, hE, hl⟩ := hat
  have hown : s.vm.findClass RX3 = some m.cls := hown
  have hl : lv_has ls 2 [(0, .ref f0), (1, .int (nI k))] := hl
  refine lv_aload_n hx hb dX3_addNumber_0 rfl (lv_at hl 0 rfl) ?_
  refine lv_iload_n hx hb dX3_addNumber_1 rfl (lv_at hl 1 rfl) ?_
  refine x_callVv (q := (RX3, TX3, 4)) (ci := 3) (q0 := 0) (wr := []) (rest := []) ⟨hx, hb, hml, hown, hg, hl.1⟩ k_X3_24 (s_add l D cy f0 f1 f2 n y3 fc (nI k) (by omega) (hfc) (by rw [nI_toInt (by omega)]; omega)) E0_blind hK hP hD hS hA [0, 1] [] ⟨rfl, rfl, by decide +kernel, by decide +kernel, by decide +kernel⟩ rfl rfl (fun _ _ _ => trivial) dX3_addNumber_2 rfl rfl (Nat.le_of_ble_eq_true rfl) ⟨Nat.le_of_ble_eq_true rfl, Nat.le_of_ble_eq_true rfl⟩ ⟨Nat.le_of_ble_eq_true rfl, Nat.le_of_ble_eq_true rfl⟩ (fun zu1 H locs hw1 hP9 hD9 hS9 => ?_)
  clear hP hD hS
  obtain ⟨n2_2, fc2_3⟩ := zu1
  refine reW [wO f0 3 [.ref f1, .ref f2, .int (nI n2_2), y3], wI (cy 1) f1 280 (fc2_3)] hP9 hD9 hS9 (fun hP hD hS => ?_)
  clear hP9 hD9 hS9
  refine W.widen (k := 0) (n := 0) (Nat.le_of_ble_eq_true rfl) (Nat.le_of_ble_eq_true rfl) ?_
  replace hw1 : (n2_2 ≤ 280) ∧ (cOK fc2_3 n2_2) := hw1
  obtain ⟨f_4, f_5⟩ := hw1
  exact x_vret hQ hx hb hr hlocks hK hP hD hS dX3_addNumber_5 (n2_2, fc2_3) (⟨(show n2_2 ≤ 280 from by omega), f_5⟩) [0, 1] (by decide +kernel) rfl (Nat.le_of_ble_eq_true rfl) (Nat.le_of_ble_eq_true rfl)
theorem gdX3_addFact_0 : decode cX3_addFact 0 = .ok (.aload_n 0, 1) ∧ decode cX3_addFact 1 = .ok (.sipush 10000, 3) ∧ decode cX3_addFact 4 = .ok (.iload_n 1, 1) ∧ decode cX3_addFact 5 = .ok (.iadd, 1) ∧ decode cX3_addFact 6 = .ok (.invokevirtual 24, 3) ∧ decode cX3_addFact 9 = .ok (.return_, 1) := by decide +kernel
theorem dX3_addFact_0 : decode cX3_addFact 0 = .ok (.aload_n 0, 1) := gdX3_addFact_0.1
theorem dX3_addFact_1 : decode cX3_addFact 1 = .ok (.sipush 10000, 3) := gdX3_addFact_0.2.1
theorem dX3_addFact_4 : decode cX3_addFact 4 = .ok (.iload_n 1, 1) := gdX3_addFact_0.2.2.1
theorem dX3_addFact_5 : decode cX3_addFact 5 = .ok (.iadd, 1) := gdX3_addFact_0.2.2.2.1
theorem dX3_addFact_6 : decode cX3_addFact 6 = .ok (.invokevirtual 24, 3) := gdX3_addFact_0.2.2.2.2.1
theorem dX3_addFact_9 : decode cX3_addFact 9 = .ok (.return_, 1) := gdX3_addFact_0.2.2.2.2.2
set_option maxHeartbeats 1000000 in
set_option maxRecDepth 100000 in
theorem s_addFact (l : Launch) (D : va_G) (cy : Nat → ClassId) (f0 : Nat) (f1 : Nat) (f2 : Nat) (n : Nat) (y3 : Value) (fc : Nat → Int32) (k : Nat) (hn : n ≤ 280) (hfc : cOK fc n) (hk : k ≤ 6) : XMv l D (tyL cy) E0 yX3_addFact cX3_addFact 2 none (rmk 1 0 0) [.ref f0, .int (nI k)] [wO f0 3 [.ref f1, .ref f2, .int (nI n), y3], wI (cy 1) f1 280 (fc)] (fun (u : Nat × (Nat → Int32)) => (u.1 ≤ 280) ∧ (cOK u.2 u.1)) (fun (u : Nat × (Nat → Int32)) => [wO f0 3 [.ref f1, .ref f2, .int (nI u.1), y3], wI (cy 1) f1 280 (u.2)]) := by
  refine XMv.start (by decide) (Nat.le_of_ble_eq_true rfl) ?_
  intro p e s m below meth c args A ls Q hat hQ
  obtain ⟨hx, hb, hr, hml, hown, hg, hlocks, hin, hK, hA, hP, hD, hS, hE, hl⟩ := hat
  have hown : s.vm.findClass RX3 = some m.cls := hown
  have hl : lv_has ls 2 [(0, .ref f0), (1, .int (nI k))] := hl
  refine lv_aload_n hx hb dX3_addFact_0 rfl (lv_at hl 0 rfl) ?_
  refine lv_sipush (v := 10000) hx hb dX3_addFact_1 (by decide) ?_
  refine lv_iload_n hx hb dX3_addFact_4 rfl (lv_at hl 1 rfl) ?_
  refine lv_iadd hx hb dX3_addFact_5 ?_
  refine lv_topi (fun y_1 hy_1 => ?_)
  obtain rfl : y_1 = nI (10000 + k) := hy_1.trans (nI_add 10000 k)
  refine x_callVv (q := (RX3, TX3, 4)) (ci := 3) (q0 := 0) (wr := []) (rest := []) ⟨hx, hb, hml, hown, hg, hl.1⟩ k_X3_24 (s_add l D cy f0 f1 f2 n y3 fc (nI (10000 + k)) (by omega) (hfc) (by rw [nI_toInt (by omega)]; omega)) E0_blind hK hP hD hS hA [0, 1] [] ⟨rfl, rfl, by decide +kernel, by decide +kernel, by decide +kernel⟩ rfl rfl (fun _ _ _ => trivial) dX3_addFact_6 rfl rfl (Nat.le_of_ble_eq_true rfl) ⟨Nat.le_of_ble_eq_true rfl, Nat.le_of_ble_eq_true rfl⟩ ⟨Nat.le_of_ble_eq_true rfl, Nat.le_of_ble_eq_true rfl⟩ (fun zu2 H locs hw2 hP9 hD9 hS9 => ?_)
  clear hP hD hS
  obtain ⟨n2_3, fc2_4⟩ := zu2
  refine reW [wO f0 3 [.ref f1, .ref f2, .int (nI n2_3), y3], wI (cy 1) f1 280 (fc2_4)] hP9 hD9 hS9 (fun hP hD hS => ?_)
  clear hP9 hD9 hS9
  refine W.widen (k := 0) (n := 0) (Nat.le_of_ble_eq_true rfl) (Nat.le_of_ble_eq_true rfl) ?_
  replace hw2 : (n2_3 ≤ 280) ∧ (cOK fc2_4 n2_3) := hw2
  obtain ⟨f_5, f_6⟩ := hw2
  exact x_vret hQ hx hb hr hlocks hK hP hD hS dX3_addFact_9 (n2_3, fc2_4) (⟨(show n2_3 ≤ 280 from by omega), f_6⟩) [0, 1] (by decide +kernel) rfl (Nat.le_of_ble_eq_true rfl) (Nat.le_of_ble_eq_true rfl)
theorem gdX3_addDeed_0 : decode cX3_addDeed 0 = .ok (.aload_n 0, 1) ∧ decode cX3_addDeed 1 = .ok (.sipush 20000, 3) ∧ decode cX3_addDeed 4 = .ok (.iload_n 1, 1) ∧ decode cX3_addDeed 5 = .ok (.iadd, 1) ∧ decode cX3_addDeed 6 = .ok (.invokevirtual 24, 3) ∧ decode cX3_addDeed 9 = .ok (.return_, 1) := by decide +kernel
theorem dX3_addDeed_0 : decode cX3_addDeed 0 = .ok (.aload_n 0, 1) := gdX3_addDeed_0.1
theorem dX3_addDeed_1 : decode cX3_addDeed 1 = .ok (.sipush 20000, 3) := gdX3_addDeed_0.2.1
theorem dX3_addDeed_4 : decode cX3_addDeed 4 = .ok (.iload_n 1, 1) := gdX3_addDeed_0.2.2.1
theorem dX3_addDeed_5 : decode cX3_addDeed 5 = .ok (.iadd, 1) := gdX3_addDeed_0.2.2.2.1
theorem dX3_addDeed_6 : decode cX3_addDeed 6 = .ok (.invokevirtual 24, 3) := gdX3_addDeed_0.2.2.2.2.1
theorem dX3_addDeed_9 : decode cX3_addDeed 9 = .ok (.return_, 1) := gdX3_addDeed_0.2.2.2.2.2
set_option maxHeartbeats 1000000 in
set_option maxRecDepth 100000 in
theorem s_addDeed (l : Launch) (D : va_G) (cy : Nat → ClassId) (f0 : Nat) (f1 : Nat) (f2 : Nat) (n : Nat) (y3 : Value) (fc : Nat → Int32) (k : Nat) (hn : n ≤ 280) (hfc : cOK fc n) (hk : k ≤ 1000) : XMv l D (tyL cy) E0 yX3_addDeed cX3_addDeed 2 none (rmk 1 0 0) [.ref f0, .int (nI k)] [wO f0 3 [.ref f1, .ref f2, .int (nI n), y3], wI (cy 1) f1 280 (fc)] (fun (u : Nat × (Nat → Int32)) => (u.1 ≤ 280) ∧ (cOK u.2 u.1)) (fun (u : Nat × (Nat → Int32)) => [wO f0 3 [.ref f1, .ref f2, .int (nI u.1), y3], wI (cy 1) f1 280 (u.2)]) := by
  refine XMv.start (by decide) (Nat.le_of_ble_eq_true rfl) ?_
  intro p e s m below meth c args A ls Q hat hQ
  obtain ⟨hx, hb, hr, hml, hown, hg, hlocks, hin, hK, hA, hP, hD, hS, hE, hl⟩ := hat
  have hown : s.vm.findClass RX3 = some m.cls := hown
  have hl : lv_has ls 2 [(0, .ref f0), (1, .int (nI k))] := hl
  refine lv_aload_n hx hb dX3_addDeed_0 rfl (lv_at hl 0 rfl) ?_
  refine lv_sipush (v := 20000) hx hb dX3_addDeed_1 (by decide) ?_
  refine lv_iload_n hx hb dX3_addDeed_4 rfl (lv_at hl 1 rfl) ?_
  refine lv_iadd hx hb dX3_addDeed_5 ?_
  refine lv_topi (fun y_1 hy_1 => ?_)
  obtain rfl : y_1 = nI (20000 + k) := hy_1.trans (nI_add 20000 k)
  refine x_callVv (q := (RX3, TX3, 4)) (ci := 3) (q0 := 0) (wr := []) (rest := []) ⟨hx, hb, hml, hown, hg, hl.1⟩ k_X3_24 (s_add l D cy f0 f1 f2 n y3 fc (nI (20000 + k)) (by omega) (hfc) (by rw [nI_toInt (by omega)]; omega)) E0_blind hK hP hD hS hA [0, 1] [] ⟨rfl, rfl, by decide +kernel, by decide +kernel, by decide +kernel⟩ rfl rfl (fun _ _ _ => trivial) dX3_addDeed_6 rfl rfl (Nat.le_of_ble_eq_true rfl) ⟨Nat.le_of_ble_eq_true rfl, Nat.le_of_ble_eq_true rfl⟩ ⟨Nat.le_of_ble_eq_true rfl, Nat.le_of_ble_eq_true rfl⟩ (fun zu2 H locs hw2 hP9 hD9 hS9 => ?_)
  clear hP hD hS
  obtain ⟨n2_3, fc2_4⟩ := zu2
  refine reW [wO f0 3 [.ref f1, .ref f2, .int (nI n2_3), y3], wI (cy 1) f1 280 (fc2_4)] hP9 hD9 hS9 (fun hP hD hS => ?_)
  clear hP9 hD9 hS9
  refine W.widen (k := 0) (n := 0) (Nat.le_of_ble_eq_true rfl) (Nat.le_of_ble_eq_true rfl) ?_
  replace hw2 : (n2_3 ≤ 280) ∧ (cOK fc2_4 n2_3) := hw2
  obtain ⟨f_5, f_6⟩ := hw2
  exact x_vret hQ hx hb hr hlocks hK hP hD hS dX3_addDeed_9 (n2_3, fc2_4) (⟨(show n2_3 ≤ 280 from by omega), f_6⟩) [0, 1] (by decide +kernel) rfl (Nat.le_of_ble_eq_true rfl) (Nat.le_of_ble_eq_true rfl)
theorem gdX3_combine_0 : decode cX3_combine 0 = .ok (.iload_n 0, 1) ∧ decode cX3_combine 1 = .ok (.lookupswitch 188 #[(37, 115), (42, 99), (43, 91), (45, 95), (47, 103), (60, 127), (61, 149), (62, 138), (114, 174), (115, 160)], 91) ∧ decode cX3_combine 116 = .ok (.iload_n 2, 1) ∧ decode cX3_combine 117 = .ok (.ifCond .ne 7, 3) ∧ decode cX3_combine 124 = .ok (.iload_n 1, 1) ∧ decode cX3_combine 125 = .ok (.iload_n 2, 1) ∧ decode cX3_combine 126 = .ok (.irem, 1) ∧ decode cX3_combine 127 = .ok (.ireturn, 1) ∧ decode cX3_combine 120 = .ok (.iconst 0, 1) ∧ decode cX3_combine 121 = .ok (.goto 6, 3) ∧ decode cX3_combine 100 = .ok (.iload_n 1, 1) ∧ decode cX3_combine 101 = .ok (.iload_n 2, 1) := by decide +kernel
theorem dX3_combine_0 : decode cX3_combine 0 = .ok (.iload_n 0, 1) := gdX3_combine_0.1
theorem dX3_combine_1 : decode cX3_combine 1 = .ok (.lookupswitch 188 #[(37, 115), (42, 99), (43, 91), (45, 95), (47, 103), (60, 127), (61, 149), (62, 138), (114, 174), (115, 160)], 91) := gdX3_combine_0.2.1
theorem dX3_combine_116 : decode cX3_combine 116 = .ok (.iload_n 2, 1) := gdX3_combine_0.2.2.1
theorem dX3_combine_117 : decode cX3_combine 117 = .ok (.ifCond .ne 7, 3) := gdX3_combine_0.2.2.2.1
theorem dX3_combine_124 : decode cX3_combine 124 = .ok (.iload_n 1, 1) := gdX3_combine_0.2.2.2.2.1
theorem dX3_combine_125 : decode cX3_combine 125 = .ok (.iload_n 2, 1) := gdX3_combine_0.2.2.2.2.2.1
theorem dX3_combine_126 : decode cX3_combine 126 = .ok (.irem, 1) := gdX3_combine_0.2.2.2.2.2.2.1
theorem dX3_combine_127 : decode cX3_combine 127 = .ok (.ireturn, 1) := gdX3_combine_0.2.2.2.2.2.2.2.1
theorem dX3_combine_120 : decode cX3_combine 120 = .ok (.iconst 0, 1) := gdX3_combine_0.2.2.2.2.2.2.2.2.1
theorem dX3_combine_121 : decode cX3_combine 121 = .ok (.goto 6, 3) := gdX3_combine_0.2.2.2.2.2.2.2.2.2.1
theorem dX3_combine_100 : decode cX3_combine 100 = .ok (.iload_n 1, 1) := gdX3_combine_0.2.2.2.2.2.2.2.2.2.2.1
theorem dX3_combine_101 : decode cX3_combine 101 = .ok (.iload_n 2, 1) := gdX3_combine_0.2.2.2.2.2.2.2.2.2.2.2
theorem gdX3_combine_102 : decode cX3_combine 102 = .ok (.imul, 1) ∧ decode cX3_combine 103 = .ok (.ireturn, 1) ∧ decode cX3_combine 92 = .ok (.iload_n 1, 1) ∧ decode cX3_combine 93 = .ok (.iload_n 2, 1) ∧ decode cX3_combine 94 = .ok (.iadd, 1) ∧ decode cX3_combine 95 = .ok (.ireturn, 1) ∧ decode cX3_combine 96 = .ok (.iload_n 1, 1) ∧ decode cX3_combine 97 = .ok (.iload_n 2, 1) ∧ decode cX3_combine 98 = .ok (.isub, 1) ∧ decode cX3_combine 99 = .ok (.ireturn, 1) ∧ decode cX3_combine 104 = .ok (.iload_n 2, 1) ∧ decode cX3_combine 105 = .ok (.ifCond .ne 7, 3) := by decide +kernel
theorem dX3_combine_102 : decode cX3_combine 102 = .ok (.imul, 1) := gdX3_combine_102.1
theorem dX3_combine_103 : decode cX3_combine 103 = .ok (.ireturn, 1) := gdX3_combine_102.2.1
theorem dX3_combine_92 : decode cX3_combine 92 = .ok (.iload_n 1, 1) := gdX3_combine_102.2.2.1
theorem dX3_combine_93 : decode cX3_combine 93 = .ok (.iload_n 2, 1) := gdX3_combine_102.2.2.2.1
theorem dX3_combine_94 : decode cX3_combine 94 = .ok (.iadd, 1) := gdX3_combine_102.2.2.2.2.1
theorem dX3_combine_95 : decode cX3_combine 95 = .ok (.ireturn, 1) := gdX3_combine_102.2.2.2.2.2.1
theorem dX3_combine_96 : decode cX3_combine 96 = .ok (.iload_n 1, 1) := gdX3_combine_102.2.2.2.2.2.2.1
theorem dX3_combine_97 : decode cX3_combine 97 = .ok (.iload_n 2, 1) := gdX3_combine_102.2.2.2.2.2.2.2.1
theorem dX3_combine_98 : decode cX3_combine 98 = .ok (.isub, 1) := gdX3_combine_102.2.2.2.2.2.2.2.2.1
theorem dX3_combine_99 : decode cX3_combine 99 = .ok (.ireturn, 1) := gdX3_combine_102.2.2.2.2.2.2.2.2.2.1
theorem dX3_combine_104 : decode cX3_combine 104 = .ok (.iload_n 2, 1) := gdX3_combine_102.2.2.2.2.2.2.2.2.2.2.1
theorem dX3_combine_105 : decode cX3_combine 105 = .ok (.ifCond .ne 7, 3) := gdX3_combine_102.2.2.2.2.2.2.2.2.2.2.2
theorem gdX3_combine_112 : decode cX3_combine 112 = .ok (.iload_n 1, 1) ∧ decode cX3_combine 113 = .ok (.iload_n 2, 1) ∧ decode cX3_combine 114 = .ok (.idiv, 1) ∧ decode cX3_combine 115 = .ok (.ireturn, 1) ∧ decode cX3_combine 108 = .ok (.iconst 0, 1) ∧ decode cX3_combine 109 = .ok (.goto 6, 3) ∧ decode cX3_combine 128 = .ok (.iload_n 1, 1) ∧ decode cX3_combine 129 = .ok (.iload_n 2, 1) ∧ decode cX3_combine 130 = .ok (.if_icmp .ge 7, 3) ∧ decode cX3_combine 137 = .ok (.iconst 0, 1) ∧ decode cX3_combine 138 = .ok (.ireturn, 1) ∧ decode cX3_combine 133 = .ok (.iconst 1, 1) := by decide +kernel
theorem dX3_combine_112 : decode cX3_combine 112 = .ok (.iload_n 1, 1) := gdX3_combine_112.1
theorem dX3_combine_113 : decode cX3_combine 113 = .ok (.iload_n 2, 1) := gdX3_combine_112.2.1
theorem dX3_combine_114 : decode cX3_combine 114 = .ok (.idiv, 1) := gdX3_combine_112.2.2.1
theorem dX3_combine_115 : decode cX3_combine 115 = .ok (.ireturn, 1) := gdX3_combine_112.2.2.2.1
theorem dX3_combine_108 : decode cX3_combine 108 = .ok (.iconst 0, 1) := gdX3_combine_112.2.2.2.2.1
theorem dX3_combine_109 : decode cX3_combine 109 = .ok (.goto 6, 3) := gdX3_combine_112.2.2.2.2.2.1
theorem dX3_combine_128 : decode cX3_combine 128 = .ok (.iload_n 1, 1) := gdX3_combine_112.2.2.2.2.2.2.1
theorem dX3_combine_129 : decode cX3_combine 129 = .ok (.iload_n 2, 1) := gdX3_combine_112.2.2.2.2.2.2.2.1
theorem dX3_combine_130 : decode cX3_combine 130 = .ok (.if_icmp .ge 7, 3) := gdX3_combine_112.2.2.2.2.2.2.2.2.1
theorem dX3_combine_137 : decode cX3_combine 137 = .ok (.iconst 0, 1) := gdX3_combine_112.2.2.2.2.2.2.2.2.2.1
theorem dX3_combine_138 : decode cX3_combine 138 = .ok (.ireturn, 1) := gdX3_combine_112.2.2.2.2.2.2.2.2.2.2.1
theorem dX3_combine_133 : decode cX3_combine 133 = .ok (.iconst 1, 1) := gdX3_combine_112.2.2.2.2.2.2.2.2.2.2.2
theorem gdX3_combine_134 : decode cX3_combine 134 = .ok (.goto 4, 3) ∧ decode cX3_combine 150 = .ok (.iload_n 1, 1) ∧ decode cX3_combine 151 = .ok (.iload_n 2, 1) ∧ decode cX3_combine 152 = .ok (.if_icmp .ne 7, 3) ∧ decode cX3_combine 159 = .ok (.iconst 0, 1) ∧ decode cX3_combine 160 = .ok (.ireturn, 1) ∧ decode cX3_combine 155 = .ok (.iconst 1, 1) ∧ decode cX3_combine 156 = .ok (.goto 4, 3) ∧ decode cX3_combine 139 = .ok (.iload_n 1, 1) ∧ decode cX3_combine 140 = .ok (.iload_n 2, 1) ∧ decode cX3_combine 141 = .ok (.if_icmp .le 7, 3) ∧ decode cX3_combine 148 = .ok (.iconst 0, 1) := by decide +kernel
theorem dX3_combine_134 : decode cX3_combine 134 = .ok (.goto 4, 3) := gdX3_combine_134.1
theorem dX3_combine_150 : decode cX3_combine 150 = .ok (.iload_n 1, 1) := gdX3_combine_134.2.1
theorem dX3_combine_151 : decode cX3_combine 151 = .ok (.iload_n 2, 1) := gdX3_combine_134.2.2.1
theorem dX3_combine_152 : decode cX3_combine 152 = .ok (.if_icmp .ne 7, 3) := gdX3_combine_134.2.2.2.1
theorem dX3_combine_159 : decode cX3_combine 159 = .ok (.iconst 0, 1) := gdX3_combine_134.2.2.2.2.1
theorem dX3_combine_160 : decode cX3_combine 160 = .ok (.ireturn, 1) := gdX3_combine_134.2.2.2.2.2.1
theorem dX3_combine_155 : decode cX3_combine 155 = .ok (.iconst 1, 1) := gdX3_combine_134.2.2.2.2.2.2.1
theorem dX3_combine_156 : decode cX3_combine 156 = .ok (.goto 4, 3) := gdX3_combine_134.2.2.2.2.2.2.2.1
theorem dX3_combine_139 : decode cX3_combine 139 = .ok (.iload_n 1, 1) := gdX3_combine_134.2.2.2.2.2.2.2.2.1
theorem dX3_combine_140 : decode cX3_combine 140 = .ok (.iload_n 2, 1) := gdX3_combine_134.2.2.2.2.2.2.2.2.2.1
theorem dX3_combine_141 : decode cX3_combine 141 = .ok (.if_icmp .le 7, 3) := gdX3_combine_134.2.2.2.2.2.2.2.2.2.2.1
theorem dX3_combine_148 : decode cX3_combine 148 = .ok (.iconst 0, 1) := gdX3_combine_134.2.2.2.2.2.2.2.2.2.2.2
theorem gdX3_combine_149 : decode cX3_combine 149 = .ok (.ireturn, 1) ∧ decode cX3_combine 144 = .ok (.iconst 1, 1) ∧ decode cX3_combine 145 = .ok (.goto 4, 3) ∧ decode cX3_combine 175 = .ok (.iload_n 1, 1) ∧ decode cX3_combine 176 = .ok (.ifCond .ne 7, 3) ∧ decode cX3_combine 183 = .ok (.iconst 1, 1) ∧ decode cX3_combine 184 = .ok (.goto 4, 3) ∧ decode cX3_combine 188 = .ok (.ireturn, 1) ∧ decode cX3_combine 179 = .ok (.iload_n 2, 1) ∧ decode cX3_combine 180 = .ok (.ifCond .eq 7, 3) ∧ decode cX3_combine 187 = .ok (.iconst 0, 1) ∧ decode cX3_combine 161 = .ok (.iload_n 1, 1) := by decide +kernel
theorem dX3_combine_149 : decode cX3_combine 149 = .ok (.ireturn, 1) := gdX3_combine_149.1
theorem dX3_combine_144 : decode cX3_combine 144 = .ok (.iconst 1, 1) := gdX3_combine_149.2.1
theorem dX3_combine_145 : decode cX3_combine 145 = .ok (.goto 4, 3) := gdX3_combine_149.2.2.1
theorem dX3_combine_175 : decode cX3_combine 175 = .ok (.iload_n 1, 1) := gdX3_combine_149.2.2.2.1
theorem dX3_combine_176 : decode cX3_combine 176 = .ok (.ifCond .ne 7, 3) := gdX3_combine_149.2.2.2.2.1
theorem dX3_combine_183 : decode cX3_combine 183 = .ok (.iconst 1, 1) := gdX3_combine_149.2.2.2.2.2.1
theorem dX3_combine_184 : decode cX3_combine 184 = .ok (.goto 4, 3) := gdX3_combine_149.2.2.2.2.2.2.1
theorem dX3_combine_188 : decode cX3_combine 188 = .ok (.ireturn, 1) := gdX3_combine_149.2.2.2.2.2.2.2.1
theorem dX3_combine_179 : decode cX3_combine 179 = .ok (.iload_n 2, 1) := gdX3_combine_149.2.2.2.2.2.2.2.2.1
theorem dX3_combine_180 : decode cX3_combine 180 = .ok (.ifCond .eq 7, 3) := gdX3_combine_149.2.2.2.2.2.2.2.2.2.1
theorem dX3_combine_187 : decode cX3_combine 187 = .ok (.iconst 0, 1) := gdX3_combine_149.2.2.2.2.2.2.2.2.2.2.1
theorem dX3_combine_161 : decode cX3_combine 161 = .ok (.iload_n 1, 1) := gdX3_combine_149.2.2.2.2.2.2.2.2.2.2.2
theorem gdX3_combine_162 : decode cX3_combine 162 = .ok (.ifCond .eq 11, 3) ∧ decode cX3_combine 173 = .ok (.iconst 0, 1) ∧ decode cX3_combine 174 = .ok (.ireturn, 1) ∧ decode cX3_combine 165 = .ok (.iload_n 2, 1) ∧ decode cX3_combine 166 = .ok (.ifCond .eq 7, 3) ∧ decode cX3_combine 169 = .ok (.iconst 1, 1) ∧ decode cX3_combine 170 = .ok (.goto 4, 3) ∧ decode cX3_combine 189 = .ok (.iconst 0, 1) ∧ decode cX3_combine 190 = .ok (.ireturn, 1) := by decide +kernel
theorem dX3_combine_162 : decode cX3_combine 162 = .ok (.ifCond .eq 11, 3) := gdX3_combine_162.1
theorem dX3_combine_173 : decode cX3_combine 173 = .ok (.iconst 0, 1) := gdX3_combine_162.2.1
theorem dX3_combine_174 : decode cX3_combine 174 = .ok (.ireturn, 1) := gdX3_combine_162.2.2.1
theorem dX3_combine_165 : decode cX3_combine 165 = .ok (.iload_n 2, 1) := gdX3_combine_162.2.2.2.1
theorem dX3_combine_166 : decode cX3_combine 166 = .ok (.ifCond .eq 7, 3) := gdX3_combine_162.2.2.2.2.1
theorem dX3_combine_169 : decode cX3_combine 169 = .ok (.iconst 1, 1) := gdX3_combine_162.2.2.2.2.2.1
theorem dX3_combine_170 : decode cX3_combine 170 = .ok (.goto 4, 3) := gdX3_combine_162.2.2.2.2.2.2.1
theorem dX3_combine_189 : decode cX3_combine 189 = .ok (.iconst 0, 1) := gdX3_combine_162.2.2.2.2.2.2.2.1
theorem dX3_combine_190 : decode cX3_combine 190 = .ok (.ireturn, 1) := gdX3_combine_162.2.2.2.2.2.2.2.2
set_option maxHeartbeats 1000000 in
set_option maxRecDepth 100000 in
theorem s_combine (l : Launch) (D : va_G) (cy : Nat → ClassId) (ki : Int32) (xa : Int32) (xb : Int32)  : XMi l D (tyL cy) E0 yX3_combine cX3_combine 3 (some .int) (rmk 0 0 0) [.int ki, .int xa, .int xb] [] (fun (r : Int32) (_ : Unit) => True) (fun (_ : Unit) => []) := by
  refine XMi.start (by decide) (Nat.le_of_ble_eq_true rfl) ?_
  intro p e s m below meth c args A ls Q hat hQ
  obtain ⟨hx, hb, hr, hml, hown, hg, hlocks, hin, hK, hA, hP, hD, hS, hE, hl⟩ := hat
  have hown : s.vm.findClass RX3 = some m.cls := hown
  have hl : lv_has ls 3 [(0, .int ki), (1, .int xa), (2, .int xb)] := hl
  refine lv_iload_n hx hb dX3_combine_0 rfl (lv_at hl 0 rfl) ?_
  rcases (show ki = 37 ∨ ki = 42 ∨ ki = 43 ∨ ki = 45 ∨ ki = 47 ∨ ki = 60 ∨ ki = 61 ∨ ki = 62 ∨ ki = 114 ∨ ki = 115 ∨ (¬ ki = 37 ∧ ¬ ki = 42 ∧ ¬ ki = 43 ∧ ¬ ki = 45 ∧ ¬ ki = 47 ∧ ¬ ki = 60 ∧ ¬ ki = 61 ∧ ¬ ki = 62 ∧ ¬ ki = 114 ∧ ¬ ki = 115) from by by_cases h0 : ki = 37; exact Or.inl h0; by_cases h1 : ki = 42; exact Or.inr (Or.inl h1); by_cases h2 : ki = 43; exact Or.inr (Or.inr (Or.inl h2)); by_cases h3 : ki = 45; exact Or.inr (Or.inr (Or.inr (Or.inl h3))); by_cases h4 : ki = 47; exact Or.inr (Or.inr (Or.inr (Or.inr (Or.inl h4)))); by_cases h5 : ki = 60; exact Or.inr (Or.inr (Or.inr (Or.inr (Or.inr (Or.inl h5))))); by_cases h6 : ki = 61; exact Or.inr (Or.inr (Or.inr (Or.inr (Or.inr (Or.inr (Or.inl h6)))))); by_cases h7 : ki = 62; exact Or.inr (Or.inr (Or.inr (Or.inr (Or.inr (Or.inr (Or.inr (Or.inl h7))))))); by_cases h8 : ki = 114; exact Or.inr (Or.inr (Or.inr (Or.inr (Or.inr (Or.inr (Or.inr (Or.inr (Or.inl h8)))))))); by_cases h9 : ki = 115; exact Or.inr (Or.inr (Or.inr (Or.inr (Or.inr (Or.inr (Or.inr (Or.inr (Or.inr (Or.inl h9))))))))); exact Or.inr (Or.inr (Or.inr (Or.inr (Or.inr (Or.inr (Or.inr (Or.inr (Or.inr (Or.inr (⟨h0, h1, h2, h3, h4, h5, h6, h7, h8, h9⟩))))))))))) with rfl | rfl | rfl | rfl | rfl | rfl | rfl | rfl | rfl | rfl | hs
  · refine lv_lookup (off := 115) (tgt := 116) hx hb dX3_combine_1 (by decide) (by decide) (by decide) ?_
    refine lv_iload_n hx hb dX3_combine_116 rfl (lv_at hl 2 rfl) ?_
    refine lv_if_ne (tgt := 124) hx hb dX3_combine_117 (by decide) (fun c_117 => ?_) (fun c_117 => ?_)
    · refine lv_iload_n hx hb dX3_combine_124 rfl (lv_at hl 1 rfl) ?_
      refine lv_iload_n hx hb dX3_combine_125 rfl (lv_at hl 2 rfl) ?_
      refine lv_irem hx hb dX3_combine_126 c_117 ?_
      refine lv_topi (fun x_1 ex_1 => ?_)
      exact x_iret hQ hx hb hr hlocks hK hP hD hS dX3_combine_127 () (trivial) [] (by decide +kernel) rfl (Nat.le_of_ble_eq_true rfl) (Nat.le_of_ble_eq_true rfl)
    · refine lv_iconst (v := 0) hx hb dX3_combine_120 (by decide) ?_
      refine lv_goto (tgt := 127) hx hb dX3_combine_121 (by decide) ?_
      exact x_iret hQ hx hb hr hlocks hK hP hD hS dX3_combine_127 () (trivial) [] (by decide +kernel) rfl (Nat.le_of_ble_eq_true rfl) (Nat.le_of_ble_eq_true rfl)
  · refine lv_lookup (off := 99) (tgt := 100) hx hb dX3_combine_1 (by decide) (by decide) (by decide) ?_
    refine lv_iload_n hx hb dX3_combine_100 rfl (lv_at hl 1 rfl) ?_
    refine lv_iload_n hx hb dX3_combine_101 rfl (lv_at hl 2 rfl) ?_
    refine lv_imul hx hb dX3_combine_102 ?_
    refine lv_topi (fun x_2 ex_2 => ?_)
    exact x_iret hQ hx hb hr hlocks hK hP hD hS dX3_combine_103 () (trivial) [] (by decide +kernel) rfl (Nat.le_of_ble_eq_true rfl) (Nat.le_of_ble_eq_true rfl)
  · refine lv_lookup (off := 91) (tgt := 92) hx hb dX3_combine_1 (by decide) (by decide) (by decide) ?_
    refine lv_iload_n hx hb dX3_combine_92 rfl (lv_at hl 1 rfl) ?_
    refine lv_iload_n hx hb dX3_combine_93 rfl (lv_at hl 2 rfl) ?_
    refine lv_iadd hx hb dX3_combine_94 ?_
    refine lv_topi (fun x_3 ex_3 => ?_)
    exact x_iret hQ hx hb hr hlocks hK hP hD hS dX3_combine_95 () (trivial) [] (by decide +kernel) rfl (Nat.le_of_ble_eq_true rfl) (Nat.le_of_ble_eq_true rfl)
  · refine lv_lookup (off := 95) (tgt := 96) hx hb dX3_combine_1 (by decide) (by decide) (by decide) ?_
    refine lv_iload_n hx hb dX3_combine_96 rfl (lv_at hl 1 rfl) ?_
    refine lv_iload_n hx hb dX3_combine_97 rfl (lv_at hl 2 rfl) ?_
    refine lv_isub hx hb dX3_combine_98 ?_
    refine lv_topi (fun x_4 ex_4 => ?_)
    exact x_iret hQ hx hb hr hlocks hK hP hD hS dX3_combine_99 () (trivial) [] (by decide +kernel) rfl (Nat.le_of_ble_eq_true rfl) (Nat.le_of_ble_eq_true rfl)
  · refine lv_lookup (off := 103) (tgt := 104) hx hb dX3_combine_1 (by decide) (by decide) (by decide) ?_
    refine lv_iload_n hx hb dX3_combine_104 rfl (lv_at hl 2 rfl) ?_
    refine lv_if_ne (tgt := 112) hx hb dX3_combine_105 (by decide) (fun c_105 => ?_) (fun c_105 => ?_)
    · refine lv_iload_n hx hb dX3_combine_112 rfl (lv_at hl 1 rfl) ?_
      refine lv_iload_n hx hb dX3_combine_113 rfl (lv_at hl 2 rfl) ?_
      refine lv_idiv hx hb dX3_combine_114 c_105 ?_
      refine lv_topi (fun x_5 ex_5 => ?_)
      exact x_iret hQ hx hb hr hlocks hK hP hD hS dX3_combine_115 () (trivial) [] (by decide +kernel) rfl (Nat.le_of_ble_eq_true rfl) (Nat.le_of_ble_eq_true rfl)
    · refine lv_iconst (v := 0) hx hb dX3_combine_108 (by decide) ?_
      refine lv_goto (tgt := 115) hx hb dX3_combine_109 (by decide) ?_
      exact x_iret hQ hx hb hr hlocks hK hP hD hS dX3_combine_115 () (trivial) [] (by decide +kernel) rfl (Nat.le_of_ble_eq_true rfl) (Nat.le_of_ble_eq_true rfl)
  · refine lv_lookup (off := 127) (tgt := 128) hx hb dX3_combine_1 (by decide) (by decide) (by decide) ?_
    refine lv_iload_n hx hb dX3_combine_128 rfl (lv_at hl 1 rfl) ?_
    refine lv_iload_n hx hb dX3_combine_129 rfl (lv_at hl 2 rfl) ?_
    refine lv_icmp_ge (tgt := 137) hx hb dX3_combine_130 (by decide) (fun c_130 => ?_) (fun c_130 => ?_)
    · refine lv_iconst (v := 0) hx hb dX3_combine_137 (by decide) ?_
      exact x_iret hQ hx hb hr hlocks hK hP hD hS dX3_combine_138 () (trivial) [] (by decide +kernel) rfl (Nat.le_of_ble_eq_true rfl) (Nat.le_of_ble_eq_true rfl)
    · refine lv_iconst (v := 1) hx hb dX3_combine_133 (by decide) ?_
      refine lv_goto (tgt := 138) hx hb dX3_combine_134 (by decide) ?_
      exact x_iret hQ hx hb hr hlocks hK hP hD hS dX3_combine_138 () (trivial) [] (by decide +kernel) rfl (Nat.le_of_ble_eq_true rfl) (Nat.le_of_ble_eq_true rfl)
  · refine lv_lookup (off := 149) (tgt := 150) hx hb dX3_combine_1 (by decide) (by decide) (by decide) ?_
    refine lv_iload_n hx hb dX3_combine_150 rfl (lv_at hl 1 rfl) ?_
    refine lv_iload_n hx hb dX3_combine_151 rfl (lv_at hl 2 rfl) ?_
    refine lv_icmp_ne (tgt := 159) hx hb dX3_combine_152 (by decide) (fun c_152 => ?_) (fun c_152 => ?_)
    · refine lv_iconst (v := 0) hx hb dX3_combine_159 (by decide) ?_
      exact x_iret hQ hx hb hr hlocks hK hP hD hS dX3_combine_160 () (trivial) [] (by decide +kernel) rfl (Nat.le_of_ble_eq_true rfl) (Nat.le_of_ble_eq_true rfl)
    · refine lv_iconst (v := 1) hx hb dX3_combine_155 (by decide) ?_
      refine lv_goto (tgt := 160) hx hb dX3_combine_156 (by decide) ?_
      exact x_iret hQ hx hb hr hlocks hK hP hD hS dX3_combine_160 () (trivial) [] (by decide +kernel) rfl (Nat.le_of_ble_eq_true rfl) (Nat.le_of_ble_eq_true rfl)
  · refine lv_lookup (off := 138) (tgt := 139) hx hb dX3_combine_1 (by decide) (by decide) (by decide) ?_
    refine lv_iload_n hx hb dX3_combine_139 rfl (lv_at hl 1 rfl) ?_
    refine lv_iload_n hx hb dX3_combine_140 rfl (lv_at hl 2 rfl) ?_
    refine lv_icmp_le (tgt := 148) hx hb dX3_combine_141 (by decide) (fun c_141 => ?_) (fun c_141 => ?_)
    · refine lv_iconst (v := 0) hx hb dX3_combine_148 (by decide) ?_
      exact x_iret hQ hx hb hr hlocks hK hP hD hS dX3_combine_149 () (trivial) [] (by decide +kernel) rfl (Nat.le_of_ble_eq_true rfl) (Nat.le_of_ble_eq_true rfl)
    · refine lv_iconst (v := 1) hx hb dX3_combine_144 (by decide) ?_
      refine lv_goto (tgt := 149) hx hb dX3_combine_145 (by decide) ?_
      exact x_iret hQ hx hb hr hlocks hK hP hD hS dX3_combine_149 () (trivial) [] (by decide +kernel) rfl (Nat.le_of_ble_eq_true rfl) (Nat.le_of_ble_eq_true rfl)
  · refine lv_lookup (off := 174) (tgt := 175) hx hb dX3_combine_1 (by decide) (by decide) (by decide) ?_
    refine lv_iload_n hx hb dX3_combine_175 rfl (lv_at hl 1 rfl) ?_
    refine lv_if_ne (tgt := 183) hx hb dX3_combine_176 (by decide) (fun c_176 => ?_) (fun c_176 => ?_)
    · refine lv_iconst (v := 1) hx hb dX3_combine_183 (by decide) ?_
      refine lv_goto (tgt := 188) hx hb dX3_combine_184 (by decide) ?_
      exact x_iret hQ hx hb hr hlocks hK hP hD hS dX3_combine_188 () (trivial) [] (by decide +kernel) rfl (Nat.le_of_ble_eq_true rfl) (Nat.le_of_ble_eq_true rfl)
    · refine lv_iload_n hx hb dX3_combine_179 rfl (lv_at hl 2 rfl) ?_
      refine lv_if_eq (tgt := 187) hx hb dX3_combine_180 (by decide) (fun c_180 => ?_) (fun c_180 => ?_)
      · refine lv_iconst (v := 0) hx hb dX3_combine_187 (by decide) ?_
        exact x_iret hQ hx hb hr hlocks hK hP hD hS dX3_combine_188 () (trivial) [] (by decide +kernel) rfl (Nat.le_of_ble_eq_true rfl) (Nat.le_of_ble_eq_true rfl)
      · refine lv_iconst (v := 1) hx hb dX3_combine_183 (by decide) ?_
        refine lv_goto (tgt := 188) hx hb dX3_combine_184 (by decide) ?_
        exact x_iret hQ hx hb hr hlocks hK hP hD hS dX3_combine_188 () (trivial) [] (by decide +kernel) rfl (Nat.le_of_ble_eq_true rfl) (Nat.le_of_ble_eq_true rfl)
  · refine lv_lookup (off := 160) (tgt := 161) hx hb dX3_combine_1 (by decide) (by decide) (by decide) ?_
    refine lv_iload_n hx hb dX3_combine_161 rfl (lv_at hl 1 rfl) ?_
    refine lv_if_eq (tgt := 173) hx hb dX3_combine_162 (by decide) (fun c_162 => ?_) (fun c_162 => ?_)
    · refine lv_iconst (v := 0) hx hb dX3_combine_173 (by decide) ?_
      exact x_iret hQ hx hb hr hlocks hK hP hD hS dX3_combine_174 () (trivial) [] (by decide +kernel) rfl (Nat.le_of_ble_eq_true rfl) (Nat.le_of_ble_eq_true rfl)
    · refine lv_iload_n hx hb dX3_combine_165 rfl (lv_at hl 2 rfl) ?_
      refine lv_if_eq (tgt := 173) hx hb dX3_combine_166 (by decide) (fun c_166 => ?_) (fun c_166 => ?_)
      · refine lv_iconst (v := 0) hx hb dX3_combine_173 (by decide) ?_
        exact x_iret hQ hx hb hr hlocks hK hP hD hS dX3_combine_174 () (trivial) [] (by decide +kernel) rfl (Nat.le_of_ble_eq_true rfl) (Nat.le_of_ble_eq_true rfl)
      · refine lv_iconst (v := 1) hx hb dX3_combine_169 (by decide) ?_
        refine lv_goto (tgt := 174) hx hb dX3_combine_170 (by decide) ?_
        exact x_iret hQ hx hb hr hlocks hK hP hD hS dX3_combine_174 () (trivial) [] (by decide +kernel) rfl (Nat.le_of_ble_eq_true rfl) (Nat.le_of_ble_eq_true rfl)
  · have hs0 : ¬ (37 : Int) = (ki : Int32).toInt := fun h => hs.1 ((fa_eq _ _).mpr h.symm)
    have hs1 : ¬ (42 : Int) = (ki : Int32).toInt := fun h => hs.2.1 ((fa_eq _ _).mpr h.symm)
    have hs2 : ¬ (43 : Int) = (ki : Int32).toInt := fun h => hs.2.2.1 ((fa_eq _ _).mpr h.symm)
    have hs3 : ¬ (45 : Int) = (ki : Int32).toInt := fun h => hs.2.2.2.1 ((fa_eq _ _).mpr h.symm)
    have hs4 : ¬ (47 : Int) = (ki : Int32).toInt := fun h => hs.2.2.2.2.1 ((fa_eq _ _).mpr h.symm)
    have hs5 : ¬ (60 : Int) = (ki : Int32).toInt := fun h => hs.2.2.2.2.2.1 ((fa_eq _ _).mpr h.symm)
    have hs6 : ¬ (61 : Int) = (ki : Int32).toInt := fun h => hs.2.2.2.2.2.2.1 ((fa_eq _ _).mpr h.symm)
    have hs7 : ¬ (62 : Int) = (ki : Int32).toInt := fun h => hs.2.2.2.2.2.2.2.1 ((fa_eq _ _).mpr h.symm)
    have hs8 : ¬ (114 : Int) = (ki : Int32).toInt := fun h => hs.2.2.2.2.2.2.2.2.1 ((fa_eq _ _).mpr h.symm)
    have hs9 : ¬ (115 : Int) = (ki : Int32).toInt := fun h => hs.2.2.2.2.2.2.2.2.2 ((fa_eq _ _).mpr h.symm)
    refine lv_lookup (off := 188) (tgt := 189) hx hb dX3_combine_1 (by decide) (by simp [Op.lookupswitch.offset, hs0, hs1, hs2, hs3, hs4, hs5, hs6, hs7, hs8, hs9]) (by decide) ?_
    refine lv_iconst (v := 0) hx hb dX3_combine_189 (by decide) ?_
    exact x_iret hQ hx hb hr hlocks hK hP hD hS dX3_combine_190 () (trivial) [] (by decide +kernel) rfl (Nat.le_of_ble_eq_true rfl) (Nat.le_of_ble_eq_true rfl)
theorem le_nlt {a b : Int32} (h : b ≤ a) : ¬ a < b := by
  rw [fa_lt]
  rw [fa_le] at h
  omega
theorem gdX3_value_0 : decode cX3_value 0 = .ok (.iconst 0, 1) ∧ decode cX3_value 1 = .ok (.istore_n 2, 1) ∧ decode cX3_value 2 = .ok (.iconst 0, 1) ∧ decode cX3_value 3 = .ok (.istore_n 3, 1) ∧ decode cX3_value 4 = .ok (.iconst 0, 1) ∧ decode cX3_value 5 = .ok (.istore 4, 2) ∧ decode cX3_value 7 = .ok (.iload 4, 2) ∧ decode cX3_value 9 = .ok (.aload_n 0, 1) ∧ decode cX3_value 10 = .ok (.getfield 16, 3) ∧ decode cX3_value 13 = .ok (.if_icmp .ge 123, 3) ∧ decode cX3_value 136 = .ok (.iload_n 3, 1) ∧ decode cX3_value 137 = .ok (.ireturn, 1) := by decide +kernel
theorem dX3_value_0 : decode cX3_value 0 = .ok (.iconst 0, 1) := gdX3_value_0.1
theorem dX3_value_1 : decode cX3_value 1 = .ok (.istore_n 2, 1) := gdX3_value_0.2.1
theorem dX3_value_2 : decode cX3_value 2 = .ok (.iconst 0, 1) := gdX3_value_0.2.2.1
theorem dX3_value_3 : decode cX3_value 3 = .ok (.istore_n 3, 1) := gdX3_value_0.2.2.2.1
theorem dX3_value_4 : decode cX3_value 4 = .ok (.iconst 0, 1) := gdX3_value_0.2.2.2.2.1
theorem dX3_value_5 : decode cX3_value 5 = .ok (.istore 4, 2) := gdX3_value_0.2.2.2.2.2.1
theorem dX3_value_7 : decode cX3_value 7 = .ok (.iload 4, 2) := gdX3_value_0.2.2.2.2.2.2.1
theorem dX3_value_9 : decode cX3_value 9 = .ok (.aload_n 0, 1) := gdX3_value_0.2.2.2.2.2.2.2.1
theorem dX3_value_10 : decode cX3_value 10 = .ok (.getfield 16, 3) := gdX3_value_0.2.2.2.2.2.2.2.2.1
theorem dX3_value_13 : decode cX3_value 13 = .ok (.if_icmp .ge 123, 3) := gdX3_value_0.2.2.2.2.2.2.2.2.2.1
theorem dX3_value_136 : decode cX3_value 136 = .ok (.iload_n 3, 1) := gdX3_value_0.2.2.2.2.2.2.2.2.2.2.1
theorem dX3_value_137 : decode cX3_value 137 = .ok (.ireturn, 1) := gdX3_value_0.2.2.2.2.2.2.2.2.2.2.2
theorem gdX3_value_16 : decode cX3_value 16 = .ok (.aload_n 0, 1) ∧ decode cX3_value 17 = .ok (.getfield 9, 3) ∧ decode cX3_value 20 = .ok (.iload 4, 2) ∧ decode cX3_value 22 = .ok (.iaload, 1) ∧ decode cX3_value 23 = .ok (.istore 5, 2) ∧ decode cX3_value 25 = .ok (.iload 5, 2) ∧ decode cX3_value 27 = .ok (.sipush 20116, 3) ∧ decode cX3_value 30 = .ok (.if_icmp .ne 16, 3) ∧ decode cX3_value 46 = .ok (.iload 5, 2) ∧ decode cX3_value 48 = .ok (.sipush 20000, 3) ∧ decode cX3_value 51 = .ok (.if_icmp .lt 30, 3) ∧ decode cX3_value 81 = .ok (.iload 5, 2) := by decide +kernel
theorem dX3_value_16 : decode cX3_value 16 = .ok (.aload_n 0, 1) := gdX3_value_16.1
theorem dX3_value_17 : decode cX3_value 17 = .ok (.getfield 9, 3) := gdX3_value_16.2.1
theorem dX3_value_20 : decode cX3_value 20 = .ok (.iload 4, 2) := gdX3_value_16.2.2.1
theorem dX3_value_22 : decode cX3_value 22 = .ok (.iaload, 1) := gdX3_value_16.2.2.2.1
theorem dX3_value_23 : decode cX3_value 23 = .ok (.istore 5, 2) := gdX3_value_16.2.2.2.2.1
theorem dX3_value_25 : decode cX3_value 25 = .ok (.iload 5, 2) := gdX3_value_16.2.2.2.2.2.1
theorem dX3_value_27 : decode cX3_value 27 = .ok (.sipush 20116, 3) := gdX3_value_16.2.2.2.2.2.2.1
theorem dX3_value_30 : decode cX3_value 30 = .ok (.if_icmp .ne 16, 3) := gdX3_value_16.2.2.2.2.2.2.2.1
theorem dX3_value_46 : decode cX3_value 46 = .ok (.iload 5, 2) := gdX3_value_16.2.2.2.2.2.2.2.2.1
theorem dX3_value_48 : decode cX3_value 48 = .ok (.sipush 20000, 3) := gdX3_value_16.2.2.2.2.2.2.2.2.2.1
theorem dX3_value_51 : decode cX3_value 51 = .ok (.if_icmp .lt 30, 3) := gdX3_value_16.2.2.2.2.2.2.2.2.2.2.1
theorem dX3_value_81 : decode cX3_value 81 = .ok (.iload 5, 2) := gdX3_value_16.2.2.2.2.2.2.2.2.2.2.2
theorem gdX3_value_83 : decode cX3_value 83 = .ok (.sipush 20000, 3) ∧ decode cX3_value 86 = .ok (.if_icmp .ge 44, 3) ∧ decode cX3_value 130 = .ok (.iinc 4 1, 3) ∧ decode cX3_value 133 = .ok (.goto (-126), 3) ∧ decode cX3_value 89 = .ok (.iload_n 2, 1) ∧ decode cX3_value 90 = .ok (.aload_n 0, 1) ∧ decode cX3_value 91 = .ok (.getfield 13, 3) ∧ decode cX3_value 94 = .ok (.arraylength, 1) ∧ decode cX3_value 95 = .ok (.if_icmp .ge 35, 3) ∧ decode cX3_value 98 = .ok (.aload_n 0, 1) ∧ decode cX3_value 99 = .ok (.getfield 13, 3) ∧ decode cX3_value 102 = .ok (.iload_n 2, 1) := by decide +kernel
theorem dX3_value_83 : decode cX3_value 83 = .ok (.sipush 20000, 3) := gdX3_value_83.1
theorem dX3_value_86 : decode cX3_value 86 = .ok (.if_icmp .ge 44, 3) := gdX3_value_83.2.1
theorem dX3_value_130 : decode cX3_value 130 = .ok (.iinc 4 1, 3) := gdX3_value_83.2.2.1
theorem dX3_value_133 : decode cX3_value 133 = .ok (.goto (-126), 3) := gdX3_value_83.2.2.2.1
theorem dX3_value_89 : decode cX3_value 89 = .ok (.iload_n 2, 1) := gdX3_value_83.2.2.2.2.1
theorem dX3_value_90 : decode cX3_value 90 = .ok (.aload_n 0, 1) := gdX3_value_83.2.2.2.2.2.1
theorem dX3_value_91 : decode cX3_value 91 = .ok (.getfield 13, 3) := gdX3_value_83.2.2.2.2.2.2.1
theorem dX3_value_94 : decode cX3_value 94 = .ok (.arraylength, 1) := gdX3_value_83.2.2.2.2.2.2.2.1
theorem dX3_value_95 : decode cX3_value 95 = .ok (.if_icmp .ge 35, 3) := gdX3_value_83.2.2.2.2.2.2.2.2.1
theorem dX3_value_98 : decode cX3_value 98 = .ok (.aload_n 0, 1) := gdX3_value_83.2.2.2.2.2.2.2.2.2.1
theorem dX3_value_99 : decode cX3_value 99 = .ok (.getfield 13, 3) := gdX3_value_83.2.2.2.2.2.2.2.2.2.2.1
theorem dX3_value_102 : decode cX3_value 102 = .ok (.iload_n 2, 1) := gdX3_value_83.2.2.2.2.2.2.2.2.2.2.2
theorem gdX3_value_103 : decode cX3_value 103 = .ok (.iload_n 3, 1) ∧ decode cX3_value 104 = .ok (.iastore, 1) ∧ decode cX3_value 105 = .ok (.iinc 2 1, 3) ∧ decode cX3_value 108 = .ok (.iload 5, 2) ∧ decode cX3_value 110 = .ok (.sipush 10000, 3) ∧ decode cX3_value 113 = .ok (.if_icmp .ge 8, 3) ∧ decode cX3_value 121 = .ok (.aload_n 1, 1) ∧ decode cX3_value 122 = .ok (.iload 5, 2) ∧ decode cX3_value 124 = .ok (.sipush 10000, 3) ∧ decode cX3_value 127 = .ok (.isub, 1) ∧ decode cX3_value 128 = .ok (.iaload, 1) ∧ decode cX3_value 129 = .ok (.istore_n 3, 1) := by decide +kernel
theorem dX3_value_103 : decode cX3_value 103 = .ok (.iload_n 3, 1) := gdX3_value_103.1
theorem dX3_value_104 : decode cX3_value 104 = .ok (.iastore, 1) := gdX3_value_103.2.1
theorem dX3_value_105 : decode cX3_value 105 = .ok (.iinc 2 1, 3) := gdX3_value_103.2.2.1
theorem dX3_value_108 : decode cX3_value 108 = .ok (.iload 5, 2) := gdX3_value_103.2.2.2.1
theorem dX3_value_110 : decode cX3_value 110 = .ok (.sipush 10000, 3) := gdX3_value_103.2.2.2.2.1
theorem dX3_value_113 : decode cX3_value 113 = .ok (.if_icmp .ge 8, 3) := gdX3_value_103.2.2.2.2.2.1
theorem dX3_value_121 : decode cX3_value 121 = .ok (.aload_n 1, 1) := gdX3_value_103.2.2.2.2.2.2.1
theorem dX3_value_122 : decode cX3_value 122 = .ok (.iload 5, 2) := gdX3_value_103.2.2.2.2.2.2.2.1
theorem dX3_value_124 : decode cX3_value 124 = .ok (.sipush 10000, 3) := gdX3_value_103.2.2.2.2.2.2.2.2.1
theorem dX3_value_127 : decode cX3_value 127 = .ok (.isub, 1) := gdX3_value_103.2.2.2.2.2.2.2.2.2.1
theorem dX3_value_128 : decode cX3_value 128 = .ok (.iaload, 1) := gdX3_value_103.2.2.2.2.2.2.2.2.2.2.1
theorem dX3_value_129 : decode cX3_value 129 = .ok (.istore_n 3, 1) := gdX3_value_103.2.2.2.2.2.2.2.2.2.2.2
theorem gdX3_value_116 : decode cX3_value 116 = .ok (.iload 5, 2) ∧ decode cX3_value 118 = .ok (.goto 11, 3) ∧ decode cX3_value 54 = .ok (.iload_n 2, 1) ∧ decode cX3_value 55 = .ok (.ifCond .le 26, 3) ∧ decode cX3_value 58 = .ok (.iinc 2 (-1), 3) ∧ decode cX3_value 61 = .ok (.iload 5, 2) ∧ decode cX3_value 63 = .ok (.sipush 20000, 3) ∧ decode cX3_value 66 = .ok (.isub, 1) ∧ decode cX3_value 67 = .ok (.aload_n 0, 1) ∧ decode cX3_value 68 = .ok (.getfield 13, 3) ∧ decode cX3_value 71 = .ok (.iload_n 2, 1) ∧ decode cX3_value 72 = .ok (.iaload, 1) := by decide +kernel
theorem dX3_value_116 : decode cX3_value 116 = .ok (.iload 5, 2) := gdX3_value_116.1
theorem dX3_value_118 : decode cX3_value 118 = .ok (.goto 11, 3) := gdX3_value_116.2.1
theorem dX3_value_54 : decode cX3_value 54 = .ok (.iload_n 2, 1) := gdX3_value_116.2.2.1
theorem dX3_value_55 : decode cX3_value 55 = .ok (.ifCond .le 26, 3) := gdX3_value_116.2.2.2.1
theorem dX3_value_58 : decode cX3_value 58 = .ok (.iinc 2 (-1), 3) := gdX3_value_116.2.2.2.2.1
theorem dX3_value_61 : decode cX3_value 61 = .ok (.iload 5, 2) := gdX3_value_116.2.2.2.2.2.1
theorem dX3_value_63 : decode cX3_value 63 = .ok (.sipush 20000, 3) := gdX3_value_116.2.2.2.2.2.2.1
theorem dX3_value_66 : decode cX3_value 66 = .ok (.isub, 1) := gdX3_value_116.2.2.2.2.2.2.2.1
theorem dX3_value_67 : decode cX3_value 67 = .ok (.aload_n 0, 1) := gdX3_value_116.2.2.2.2.2.2.2.2.1
theorem dX3_value_68 : decode cX3_value 68 = .ok (.getfield 13, 3) := gdX3_value_116.2.2.2.2.2.2.2.2.2.1
theorem dX3_value_71 : decode cX3_value 71 = .ok (.iload_n 2, 1) := gdX3_value_116.2.2.2.2.2.2.2.2.2.2.1
theorem dX3_value_72 : decode cX3_value 72 = .ok (.iaload, 1) := gdX3_value_116.2.2.2.2.2.2.2.2.2.2.2
theorem dX3_value_73 : decode cX3_value 73 = .ok (.iload_n 3, 1) := by decide +kernel
theorem dX3_value_74 : decode cX3_value 74 = .ok (.invokestatic 30, 3) := by decide +kernel
theorem k_X3_30 : xS RX3 30 yX3_combine cX3_combine 3 (some .int) 3 := ⟨⟨m_1050, m_1051, m_138, m_1052⟩, by decide, by decide, by decide +kernel⟩
theorem gdX3_value_77 : decode cX3_value 77 = .ok (.istore_n 3, 1) ∧ decode cX3_value 78 = .ok (.goto 52, 3) ∧ decode cX3_value 33 = .ok (.iload_n 3, 1) ∧ decode cX3_value 34 = .ok (.ifCond .ne 7, 3) ∧ decode cX3_value 41 = .ok (.iconst 0, 1) ∧ decode cX3_value 42 = .ok (.istore_n 3, 1) ∧ decode cX3_value 43 = .ok (.goto 87, 3) ∧ decode cX3_value 37 = .ok (.iconst 1, 1) ∧ decode cX3_value 38 = .ok (.goto 4, 3) := by decide +kernel
theorem dX3_value_77 : decode cX3_value 77 = .ok (.istore_n 3, 1) := gdX3_value_77.1
theorem dX3_value_78 : decode cX3_value 78 = .ok (.goto 52, 3) := gdX3_value_77.2.1
theorem dX3_value_33 : decode cX3_value 33 = .ok (.iload_n 3, 1) := gdX3_value_77.2.2.1
theorem dX3_value_34 : decode cX3_value 34 = .ok (.ifCond .ne 7, 3) := gdX3_value_77.2.2.2.1
theorem dX3_value_41 : decode cX3_value 41 = .ok (.iconst 0, 1) := gdX3_value_77.2.2.2.2.1
theorem dX3_value_42 : decode cX3_value 42 = .ok (.istore_n 3, 1) := gdX3_value_77.2.2.2.2.2.1
theorem dX3_value_43 : decode cX3_value 43 = .ok (.goto 87, 3) := gdX3_value_77.2.2.2.2.2.2.1
theorem dX3_value_37 : decode cX3_value 37 = .ok (.iconst 1, 1) := gdX3_value_77.2.2.2.2.2.2.2.1
theorem dX3_value_38 : decode cX3_value 38 = .ok (.goto 4, 3) := gdX3_value_77.2.2.2.2.2.2.2.2
set_option maxHeartbeats 1000000 in
set_option maxRecDepth 100000 in
theorem s_value (l : Launch) (D : va_G) (cy : Nat → ClassId) (f0 : Nat) (f1 : Nat) (f2 : Nat) (n : Nat) (y3 : Value) (fc : Nat → Int32) (fs : Nat → Int32) (fa0 : Nat) (ff : Nat → Int32) (hn : n ≤ 280) (hfc : cOK fc n) : XMi l D (tyL cy) E0 yX3_value cX3_value 6 (some .int) (rmk 1 0 0) [.ref f0, .ref fa0] [wO f0 3 [.ref f1, .ref f2, .int (nI n), y3], wI (cy 1) f1 280 (fc), wI (cy 1) f2 31 (fs), wI (cy 1) fa0 7 (ff)] (fun (r : Int32) (fs2 : Nat → Int32) => True) (fun (fs2 : Nat → Int32) => [wO f0 3 [.ref f1, .ref f2, .int (nI n), y3], wI (cy 1) f1 280 (fc), wI (cy 1) f2 31 (fs2), wI (cy 1) fa0 7 (ff)]) := by
  refine XMi.start (by decide) (Nat.le_of_ble_eq_true rfl) ?_
  intro p e s m below meth c args A ls Q hat hQ
  obtain ⟨hx, hb, hr, hml, hown, hg, hlocks, hin, hK, hA, hP, hD, hS, hE, hl⟩ := hat
  have hown : s.vm.findClass RX3 = some m.cls := hown
  have hl : lv_has ls 6 [(0, .ref f0), (1, .ref fa0)] := hl
  refine lv_iconst (v := 0) hx hb dX3_value_0 (by decide) ?_
  refine lv_istore_n (lv' := [(2, .int 0), (0, .ref f0), (1, .ref fa0)]) hx hb dX3_value_1 rfl hl (by decide) rfl (fun ls hl => ?_)
  refine lv_iconst (v := 0) hx hb dX3_value_2 (by decide) ?_
  refine lv_istore_n (lv' := [(3, .int 0), (2, .int 0), (0, .ref f0), (1, .ref fa0)]) hx hb dX3_value_3 rfl hl (by decide) rfl (fun ls hl => ?_)
  refine lv_iconst (v := 0) hx hb dX3_value_4 (by decide) ?_
  refine lv_istore (lv' := [(4, .int 0), (3, .int 0), (2, .int 0), (0, .ref f0), (1, .ref fa0)]) hx hb dX3_value_5 hl (by decide) rfl (fun ls hl => ?_)
  have loop1 : ∀ (zn : Nat) (tp1 : Nat) (lx3_1 : Int32) (i1 : Nat) (fa3_1 : Nat → Int32), (i1 ≤ n) → (tp1 ≤ 31) → n - i1 + 1 ≤ zn → ∀ (H : Heap) (locs : List Loc), va_P D vwCl [wO f0 3 [.ref f1, .ref f2, .int (nI n), y3], wI (cy 1) f1 280 (fc), wI (cy 1) f2 31 (fa3_1), wI (cy 1) fa0 7 (ff)] H → va_D A [wO f0 3 [.ref f1, .ref f2, .int (nI n), y3], wI (cy 1) f1 280 (fc), wI (cy 1) f2 31 (fa3_1), wI (cy 1) fa0 7 (ff)] → va_S A s.heap H locs → ∀ ls : Array Slot, lv_has ls 6 [(4, .int (nI i1)), (3, .int lx3_1), (2, .int (nI tp1)), (0, .ref f0), (1, .ref fa0)] → W p l e (rmk 1 0 0) s m args below meth c H locs 0 0 Q (F0 m 7 ls []) := by
    try clear hP hD hS
    intro zn
    induction zn with
    | zero => intro tp1 lx3_1 i1 fa3_1 _ _ hz; exact absurd hz (by omega)
    | succ zn ih1 =>
      intro tp1 lx3_1 i1 fa3_1 hf0_1 hf1_1 hmu1 H locs hP hD hS ls hl
      refine lv_iload hx hb dX3_value_7 (lv_at hl 0 rfl) ?_
      refine lv_aload_n hx hb dX3_value_9 rfl (lv_at hl 3 rfl) ?_
      refine va_get (D := D) (ci := 3) (v := .int (nI n)) (C := RX3) (T := TX3) (N := 4) hx hb hg i_X3 hown hK hP 0 rfl rfl 2 (by decide) (hg _ m_302) (fun _ h9 => h9) rfl dX3_value_10 ?_
      refine lv_icmp_ge (tgt := 136) hx hb dX3_value_13 (by decide) (fun c_2 => ?_) (fun c_2 => ?_)
      · have q_3 : n ≤ i1 := q_le (a := n) (b := i1) rfl rfl (by omega) (by omega) c_2
        refine lv_iload_n hx hb dX3_value_136 rfl (lv_at hl 1 rfl) ?_
        exact x_iret hQ hx hb hr hlocks hK hP hD hS dX3_value_137 fa3_1 (trivial) [0, 1, 2, 3] (by decide +kernel) rfl (Nat.le_of_ble_eq_true rfl) (Nat.le_of_ble_eq_true rfl)
      · have q_3 : i1 < n := q_nle (a := n) (b := i1) rfl rfl (by omega) (by omega) c_2
        refine lv_aload_n hx hb dX3_value_16 rfl (lv_at hl 3 rfl) ?_
        refine va_get (D := D) (ci := 3) (v := .ref f1) (C := RX3) (T := TX3) (N := 4) hx hb hg i_X3 hown hK hP 0 rfl rfl 0 (by decide) (hg _ m_300) (fun _ h9 => h9) rfl dX3_value_17 ?_
        refine lv_iload hx hb dX3_value_20 (lv_at hl 0 rfl) ?_
        refine va_iald hx hb hK hP 1 1 rfl rfl (vp_in_nI (by omega) (by decide)) dX3_value_22 ?_
        refine lv_topi (fun x_4 ex_4 => ?_)
        have hcx : x_4.toInt < 10007 ∨ 20000 ≤ x_4.toInt := by rw [ex_4, nI_clamp (by omega)]; exact hfc _ (by omega)
        refine lv_istore (lv' := [(5, .int x_4), (4, .int (nI i1)), (3, .int lx3_1), (2, .int (nI tp1)), (0, .ref f0), (1, .ref fa0)]) hx hb dX3_value_23 hl (by decide) rfl (fun ls hl => ?_)
        refine lv_iload hx hb dX3_value_25 (lv_at hl 0 rfl) ?_
        refine lv_sipush (v := 20116) hx hb dX3_value_27 (by decide) ?_
        refine lv_icmp_ne (tgt := 46) hx hb dX3_value_30 (by decide) (fun c_30 => ?_) (fun c_30 => ?_)
        · refine lv_iload hx hb dX3_value_46 (lv_at hl 0 rfl) ?_
          refine lv_sipush (v := 20000) hx hb dX3_value_48 (by decide) ?_
          refine lv_icmp_lt (tgt := 81) hx hb dX3_value_51 (by decide) (fun c_51 => ?_) (fun c_51 => ?_)
          · refine lv_iload hx hb dX3_value_81 (lv_at hl 0 rfl) ?_
            refine lv_sipush (v := 20000) hx hb dX3_value_83 (by decide) ?_
            refine lv_icmp_ge (tgt := 130) hx hb dX3_value_86 (by decide) (fun c_86 => ?_) (fun c_86 => ?_)
            · refine lv_iinc (v := nI (i1 + 1)) (lv' := [(4, .int (nI (i1 + 1))), (5, .int x_4), (3, .int lx3_1), (2, .int (nI tp1)), (0, .ref f0), (1, .ref fa0)]) hx hb dX3_value_130 hl (k := 1) rfl (nI_add i1 1) (by decide) rfl (fun ls hl => ?_)
              refine lv_goto (tgt := 7) hx hb dX3_value_133 (by decide) ?_
              exact ih1  tp1 lx3_1 ((i1 + 1)) fa3_1 (by omega) (by omega) (by omega) _ _ (hP.sub [0, 1, 2, 3] rfl) (hD.sub [0, 1, 2, 3] (by decide +kernel) rfl) hS ls (lv_sub hl [0, 2, 3, 4, 5] rfl)
            · refine lv_iload_n hx hb dX3_value_89 rfl (lv_at hl 3 rfl) ?_
              refine lv_aload_n hx hb dX3_value_90 rfl (lv_at hl 4 rfl) ?_
              refine va_get (D := D) (ci := 3) (v := .ref f2) (C := RX3) (T := TX3) (N := 4) hx hb hg i_X3 hown hK hP 0 rfl rfl 1 (by decide) (hg _ m_301) (fun _ h9 => h9) rfl dX3_value_91 ?_
              refine va_alen (v := 31) hx hb hK hP 2 1 rfl rfl rfl dX3_value_94 ?_
              refine lv_icmp_ge (tgt := 130) hx hb dX3_value_95 (by decide) (fun c_5 => ?_) (fun c_5 => ?_)
              · have q_6 : 31 ≤ tp1 := q_le (a := 31) (b := tp1) rfl rfl (by omega) (by omega) c_5
                refine lv_iinc (v := nI (i1 + 1)) (lv' := [(4, .int (nI (i1 + 1))), (5, .int x_4), (3, .int lx3_1), (2, .int (nI tp1)), (0, .ref f0), (1, .ref fa0)]) hx hb dX3_value_130 hl (k := 1) rfl (nI_add i1 1) (by decide) rfl (fun ls hl => ?_)
                refine lv_goto (tgt := 7) hx hb dX3_value_133 (by decide) ?_
                exact ih1  tp1 lx3_1 ((i1 + 1)) fa3_1 (by omega) (by omega) (by omega) _ _ (hP.sub [0, 1, 2, 3] rfl) (hD.sub [0, 1, 2, 3] (by decide +kernel) rfl) hS ls (lv_sub hl [0, 2, 3, 4, 5] rfl)
              · have q_6 : tp1 < 31 := q_nle (a := 31) (b := tp1) rfl rfl (by omega) (by omega) c_5
                refine lv_aload_n hx hb dX3_value_98 rfl (lv_at hl 4 rfl) ?_
                refine va_get (D := D) (ci := 3) (v := .ref f2) (C := RX3) (T := TX3) (N := 4) hx hb hg i_X3 hown hK hP 0 rfl rfl 1 (by decide) (hg _ m_301) (fun _ h9 => h9) rfl dX3_value_99 ?_
                refine lv_iload_n hx hb dX3_value_102 rfl (lv_at hl 3 rfl) ?_
                refine lv_iload_n hx hb dX3_value_103 rfl (lv_at hl 2 rfl) ?_
                refine va_iast hx hb hK hP hD hS 2 1 rfl rfl (vp_in_nI (by omega) (by decide)) dX3_value_104 (fun H locs hP9 hD9 hS9 => ?_)
                clear hP hD hS
                obtain ⟨g_7, eg_7⟩ : ∃ y, upd fa3_1 (nI tp1 : Int32).toNatClampNeg lx3_1 = y := ⟨_, rfl⟩
                rw [eg_7] at hP9 hD9
                refine reW [wO f0 3 [.ref f1, .ref f2, .int (nI n), y3], wI (cy 1) f1 280 (fc), wI (cy 1) f2 31 (g_7), wI (cy 1) fa0 7 (ff)] hP9 hD9 hS9 (fun hP hD hS => ?_)
                clear hP9 hD9 hS9
                refine lv_iinc (v := nI (tp1 + 1)) (lv' := [(2, .int (nI (tp1 + 1))), (5, .int x_4), (4, .int (nI i1)), (3, .int lx3_1), (0, .ref f0), (1, .ref fa0)]) hx hb dX3_value_105 hl (k := 3) rfl (nI_add tp1 1) (by decide) rfl (fun ls hl => ?_)
                refine lv_iload hx hb dX3_value_108 (lv_at hl 1 rfl) ?_
                refine lv_sipush (v := 10000) hx hb dX3_value_110 (by decide) ?_
                refine lv_icmp_ge (tgt := 121) hx hb dX3_value_113 (by decide) (fun c_113 => ?_) (fun c_113 => ?_)
                · refine lv_aload_n hx hb dX3_value_121 rfl (lv_at hl 5 rfl) ?_
                  refine lv_iload hx hb dX3_value_122 (lv_at hl 1 rfl) ?_
                  refine lv_sipush (v := 10000) hx hb dX3_value_124 (by decide) ?_
                  refine lv_isub hx hb dX3_value_127 ?_
                  refine lv_topi (fun x_8 ex_8 => ?_)
                  refine va_iald hx hb hK hP 3 1 rfl rfl (fact_in hcx c_86 (le_nlt c_113) ex_8) dX3_value_128 ?_
                  refine lv_topi (fun x_9 ex_9 => ?_)
                  refine lv_istore_n (lv' := [(3, .int x_9), (2, .int (nI (tp1 + 1))), (5, .int x_4), (4, .int (nI i1)), (0, .ref f0), (1, .ref fa0)]) hx hb dX3_value_129 rfl hl (by decide) rfl (fun ls hl => ?_)
                  refine lv_iinc (v := nI (i1 + 1)) (lv' := [(4, .int (nI (i1 + 1))), (3, .int x_9), (2, .int (nI (tp1 + 1))), (5, .int x_4), (0, .ref f0), (1, .ref fa0)]) hx hb dX3_value_130 hl (k := 3) rfl (nI_add i1 1) (by decide) rfl (fun ls hl => ?_)
                  refine lv_goto (tgt := 7) hx hb dX3_value_133 (by decide) ?_
                  exact ih1  ((tp1 + 1)) x_9 ((i1 + 1)) g_7 (by omega) (by omega) (by omega) _ _ (hP.sub [0, 1, 2, 3] rfl) (hD.sub [0, 1, 2, 3] (by decide +kernel) rfl) hS ls (lv_sub hl [0, 1, 2, 4, 5] rfl)
                · refine lv_iload hx hb dX3_value_116 (lv_at hl 1 rfl) ?_
                  refine lv_goto (tgt := 129) hx hb dX3_value_118 (by decide) ?_
                  refine lv_istore_n (lv' := [(3, .int x_4), (2, .int (nI (tp1 + 1))), (5, .int x_4), (4, .int (nI i1)), (0, .ref f0), (1, .ref fa0)]) hx hb dX3_value_129 rfl hl (by decide) rfl (fun ls hl => ?_)
                  refine lv_iinc (v := nI (i1 + 1)) (lv' := [(4, .int (nI (i1 + 1))), (3, .int x_4), (2, .int (nI (tp1 + 1))), (5, .int x_4), (0, .ref f0), (1, .ref fa0)]) hx hb dX3_value_130 hl (k := 3) rfl (nI_add i1 1) (by decide) rfl (fun ls hl => ?_)
                  refine lv_goto (tgt := 7) hx hb dX3_value_133 (by decide) ?_
                  exact ih1  ((tp1 + 1)) x_4 ((i1 + 1)) g_7 (by omega) (by omega) (by omega) _ _ (hP.sub [0, 1, 2, 3] rfl) (hD.sub [0, 1, 2, 3] (by decide +kernel) rfl) hS ls (lv_sub hl [0, 1, 2, 4, 5] rfl)
          · refine lv_iload_n hx hb dX3_value_54 rfl (lv_at hl 3 rfl) ?_
            refine lv_if_le (tgt := 81) hx hb dX3_value_55 (by decide) (fun c_10 => ?_) (fun c_10 => ?_)
            · have q_11 : tp1 ≤ 0 := q_le (a := tp1) (b := 0) rfl rfl (by omega) (by omega) c_10
              refine lv_iload hx hb dX3_value_81 (lv_at hl 0 rfl) ?_
              refine lv_sipush (v := 20000) hx hb dX3_value_83 (by decide) ?_
              refine lv_icmp_ge (tgt := 130) hx hb dX3_value_86 (by decide) (fun c_86 => ?_) (fun c_86 => ?_)
              · refine lv_iinc (v := nI (i1 + 1)) (lv' := [(4, .int (nI (i1 + 1))), (5, .int x_4), (3, .int lx3_1), (2, .int (nI tp1)), (0, .ref f0), (1, .ref fa0)]) hx hb dX3_value_130 hl (k := 1) rfl (nI_add i1 1) (by decide) rfl (fun ls hl => ?_)
                refine lv_goto (tgt := 7) hx hb dX3_value_133 (by decide) ?_
                exact ih1  tp1 lx3_1 ((i1 + 1)) fa3_1 (by omega) (by omega) (by omega) _ _ (hP.sub [0, 1, 2, 3] rfl) (hD.sub [0, 1, 2, 3] (by decide +kernel) rfl) hS ls (lv_sub hl [0, 2, 3, 4, 5] rfl)
              · refine lv_iload_n hx hb dX3_value_89 rfl (lv_at hl 3 rfl) ?_
                refine lv_aload_n hx hb dX3_value_90 rfl (lv_at hl 4 rfl) ?_
                refine va_get (D := D) (ci := 3) (v := .ref f2) (C := RX3) (T := TX3) (N := 4) hx hb hg i_X3 hown hK hP 0 rfl rfl 1 (by decide) (hg _ m_301) (fun _ h9 => h9) rfl dX3_value_91 ?_
                refine va_alen (v := 31) hx hb hK hP 2 1 rfl rfl rfl dX3_value_94 ?_
                refine lv_icmp_ge (tgt := 130) hx hb dX3_value_95 (by decide) (fun c_12 => ?_) (fun c_12 => ?_)
                · have q_13 : 31 ≤ tp1 := q_le (a := 31) (b := tp1) rfl rfl (by omega) (by omega) c_12
                  refine lv_iinc (v := nI (i1 + 1)) (lv' := [(4, .int (nI (i1 + 1))), (5, .int x_4), (3, .int lx3_1), (2, .int (nI tp1)), (0, .ref f0), (1, .ref fa0)]) hx hb dX3_value_130 hl (k := 1) rfl (nI_add i1 1) (by decide) rfl (fun ls hl => ?_)
                  refine lv_goto (tgt := 7) hx hb dX3_value_133 (by decide) ?_
                  exact ih1  tp1 lx3_1 ((i1 + 1)) fa3_1 (by omega) (by omega) (by omega) _ _ (hP.sub [0, 1, 2, 3] rfl) (hD.sub [0, 1, 2, 3] (by decide +kernel) rfl) hS ls (lv_sub hl [0, 2, 3, 4, 5] rfl)
                · have q_13 : tp1 < 31 := q_nle (a := 31) (b := tp1) rfl rfl (by omega) (by omega) c_12
                  refine lv_aload_n hx hb dX3_value_98 rfl (lv_at hl 4 rfl) ?_
                  refine va_get (D := D) (ci := 3) (v := .ref f2) (C := RX3) (T := TX3) (N := 4) hx hb hg i_X3 hown hK hP 0 rfl rfl 1 (by decide) (hg _ m_301) (fun _ h9 => h9) rfl dX3_value_99 ?_
                  refine lv_iload_n hx hb dX3_value_102 rfl (lv_at hl 3 rfl) ?_
                  refine lv_iload_n hx hb dX3_value_103 rfl (lv_at hl 2 rfl) ?_
                  refine va_iast hx hb hK hP hD hS 2 1 rfl rfl (vp_in_nI (by omega) (by decide)) dX3_value_104 (fun H locs hP9 hD9 hS9 => ?_)
                  clear hP hD hS
                  obtain ⟨g_14, eg_14⟩ : ∃ y, upd fa3_1 (nI tp1 : Int32).toNatClampNeg lx3_1 = y := ⟨_, rfl⟩
                  rw [eg_14] at hP9 hD9
                  refine reW [wO f0 3 [.ref f1, .ref f2, .int (nI n), y3], wI (cy 1) f1 280 (fc), wI (cy 1) f2 31 (g_14), wI (cy 1) fa0 7 (ff)] hP9 hD9 hS9 (fun hP hD hS => ?_)
                  clear hP9 hD9 hS9
                  refine lv_iinc (v := nI (tp1 + 1)) (lv' := [(2, .int (nI (tp1 + 1))), (5, .int x_4), (4, .int (nI i1)), (3, .int lx3_1), (0, .ref f0), (1, .ref fa0)]) hx hb dX3_value_105 hl (k := 3) rfl (nI_add tp1 1) (by decide) rfl (fun ls hl => ?_)
                  refine lv_iload hx hb dX3_value_108 (lv_at hl 1 rfl) ?_
                  refine lv_sipush (v := 10000) hx hb dX3_value_110 (by decide) ?_
                  refine lv_icmp_ge (tgt := 121) hx hb dX3_value_113 (by decide) (fun c_113 => ?_) (fun c_113 => ?_)
                  · refine lv_aload_n hx hb dX3_value_121 rfl (lv_at hl 5 rfl) ?_
                    refine lv_iload hx hb dX3_value_122 (lv_at hl 1 rfl) ?_
                    refine lv_sipush (v := 10000) hx hb dX3_value_124 (by decide) ?_
                    refine lv_isub hx hb dX3_value_127 ?_
                    refine lv_topi (fun x_15 ex_15 => ?_)
                    refine va_iald hx hb hK hP 3 1 rfl rfl (fact_in hcx c_86 (le_nlt c_113) ex_15) dX3_value_128 ?_
                    refine lv_topi (fun x_16 ex_16 => ?_)
                    refine lv_istore_n (lv' := [(3, .int x_16), (2, .int (nI (tp1 + 1))), (5, .int x_4), (4, .int (nI i1)), (0, .ref f0), (1, .ref fa0)]) hx hb dX3_value_129 rfl hl (by decide) rfl (fun ls hl => ?_)
                    refine lv_iinc (v := nI (i1 + 1)) (lv' := [(4, .int (nI (i1 + 1))), (3, .int x_16), (2, .int (nI (tp1 + 1))), (5, .int x_4), (0, .ref f0), (1, .ref fa0)]) hx hb dX3_value_130 hl (k := 3) rfl (nI_add i1 1) (by decide) rfl (fun ls hl => ?_)
                    refine lv_goto (tgt := 7) hx hb dX3_value_133 (by decide) ?_
                    exact ih1  ((tp1 + 1)) x_16 ((i1 + 1)) g_14 (by omega) (by omega) (by omega) _ _ (hP.sub [0, 1, 2, 3] rfl) (hD.sub [0, 1, 2, 3] (by decide +kernel) rfl) hS ls (lv_sub hl [0, 1, 2, 4, 5] rfl)
                  · refine lv_iload hx hb dX3_value_116 (lv_at hl 1 rfl) ?_
                    refine lv_goto (tgt := 129) hx hb dX3_value_118 (by decide) ?_
                    refine lv_istore_n (lv' := [(3, .int x_4), (2, .int (nI (tp1 + 1))), (5, .int x_4), (4, .int (nI i1)), (0, .ref f0), (1, .ref fa0)]) hx hb dX3_value_129 rfl hl (by decide) rfl (fun ls hl => ?_)
                    refine lv_iinc (v := nI (i1 + 1)) (lv' := [(4, .int (nI (i1 + 1))), (3, .int x_4), (2, .int (nI (tp1 + 1))), (5, .int x_4), (0, .ref f0), (1, .ref fa0)]) hx hb dX3_value_130 hl (k := 3) rfl (nI_add i1 1) (by decide) rfl (fun ls hl => ?_)
                    refine lv_goto (tgt := 7) hx hb dX3_value_133 (by decide) ?_
                    exact ih1  ((tp1 + 1)) x_4 ((i1 + 1)) g_14 (by omega) (by omega) (by omega) _ _ (hP.sub [0, 1, 2, 3] rfl) (hD.sub [0, 1, 2, 3] (by decide +kernel) rfl) hS ls (lv_sub hl [0, 1, 2, 4, 5] rfl)
            · have q_11 : 0 < tp1 := q_nle (a := tp1) (b := 0) rfl rfl (by omega) (by omega) c_10
              refine lv_iinc (v := nI (tp1 - 1)) (lv' := [(2, .int (nI (tp1 - 1))), (5, .int x_4), (4, .int (nI i1)), (3, .int lx3_1), (0, .ref f0), (1, .ref fa0)]) hx hb dX3_value_58 hl (k := 3) rfl (sb_m1 (by omega)) (by decide) rfl (fun ls hl => ?_)
              refine lv_iload hx hb dX3_value_61 (lv_at hl 1 rfl) ?_
              refine lv_sipush (v := 20000) hx hb dX3_value_63 (by decide) ?_
              refine lv_isub hx hb dX3_value_66 ?_
              refine lv_topi (fun x_17 ex_17 => ?_)
              refine lv_aload_n hx hb dX3_value_67 rfl (lv_at hl 4 rfl) ?_
              refine va_get (D := D) (ci := 3) (v := .ref f2) (C := RX3) (T := TX3) (N := 4) hx hb hg i_X3 hown hK hP 0 rfl rfl 1 (by decide) (hg _ m_301) (fun _ h9 => h9) rfl dX3_value_68 ?_
              refine lv_iload_n hx hb dX3_value_71 rfl (lv_at hl 0 rfl) ?_
              refine va_iald hx hb hK hP 2 1 rfl rfl (vp_in_nI (by omega) (by decide)) dX3_value_72 ?_
              refine lv_topi (fun x_18 ex_18 => ?_)
              refine lv_iload_n hx hb dX3_value_73 rfl (lv_at hl 3 rfl) ?_
              refine x_callSi (wr := [wO f0 3 [.ref f1, .ref f2, .int (nI n), y3], wI (cy 1) f1 280 (fc), wI (cy 1) f2 31 (fa3_1), wI (cy 1) fa0 7 (ff)]) (rest := []) ⟨hx, hb, hml, hown, hg, hl.1⟩ k_X3_30 (s_combine l D cy x_17 x_18 lx3_1) E0_blind hK hP hD hS hA [] [0, 1, 2, 3] ⟨rfl, rfl, by decide +kernel, by decide +kernel, by decide +kernel⟩ (fun _ _ _ => trivial) dX3_value_74 rfl rfl (Nat.le_of_ble_eq_true rfl) ⟨Nat.le_of_ble_eq_true rfl, Nat.le_of_ble_eq_true rfl⟩ ⟨Nat.le_of_ble_eq_true rfl, Nat.le_of_ble_eq_true rfl⟩ (fun zr19 zu19 H locs hw19 hP9 hD9 hS9 => ?_)
              clear hP hD hS
              refine reW [wO f0 3 [.ref f1, .ref f2, .int (nI n), y3], wI (cy 1) f1 280 (fc), wI (cy 1) f2 31 (fa3_1), wI (cy 1) fa0 7 (ff)] hP9 hD9 hS9 (fun hP hD hS => ?_)
              clear hP9 hD9 hS9
              refine W.widen (k := 0) (n := 0) (Nat.le_of_ble_eq_true rfl) (Nat.le_of_ble_eq_true rfl) ?_
              replace hw19 : True := hw19
              refine lv_istore_n (lv' := [(3, .int zr19), (2, .int (nI (tp1 - 1))), (5, .int x_4), (4, .int (nI i1)), (0, .ref f0), (1, .ref fa0)]) hx hb dX3_value_77 rfl hl (by decide) rfl (fun ls hl => ?_)
              refine lv_goto (tgt := 130) hx hb dX3_value_78 (by decide) ?_
              refine lv_iinc (v := nI (i1 + 1)) (lv' := [(4, .int (nI (i1 + 1))), (3, .int zr19), (2, .int (nI (tp1 - 1))), (5, .int x_4), (0, .ref f0), (1, .ref fa0)]) hx hb dX3_value_130 hl (k := 3) rfl (nI_add i1 1) (by decide) rfl (fun ls hl => ?_)
              refine lv_goto (tgt := 7) hx hb dX3_value_133 (by decide) ?_
              exact ih1  ((tp1 - 1)) zr19 ((i1 + 1)) fa3_1 (by omega) (by omega) (by omega) _ _ (hP.sub [0, 1, 2, 3] rfl) (hD.sub [0, 1, 2, 3] (by decide +kernel) rfl) hS ls (lv_sub hl [0, 1, 2, 4, 5] rfl)
        · refine lv_iload_n hx hb dX3_value_33 rfl (lv_at hl 2 rfl) ?_
          refine lv_if_ne (tgt := 41) hx hb dX3_value_34 (by decide) (fun c_34 => ?_) (fun c_34 => ?_)
          · refine lv_iconst (v := 0) hx hb dX3_value_41 (by decide) ?_
            refine lv_istore_n (lv' := [(3, .int 0), (5, .int x_4), (4, .int (nI i1)), (2, .int (nI tp1)), (0, .ref f0), (1, .ref fa0)]) hx hb dX3_value_42 rfl hl (by decide) rfl (fun ls hl => ?_)
            refine lv_goto (tgt := 130) hx hb dX3_value_43 (by decide) ?_
            refine lv_iinc (v := nI (i1 + 1)) (lv' := [(4, .int (nI (i1 + 1))), (3, .int 0), (5, .int x_4), (2, .int (nI tp1)), (0, .ref f0), (1, .ref fa0)]) hx hb dX3_value_130 hl (k := 2) rfl (nI_add i1 1) (by decide) rfl (fun ls hl => ?_)
            refine lv_goto (tgt := 7) hx hb dX3_value_133 (by decide) ?_
            exact ih1  tp1 0 ((i1 + 1)) fa3_1 (by omega) (by omega) (by omega) _ _ (hP.sub [0, 1, 2, 3] rfl) (hD.sub [0, 1, 2, 3] (by decide +kernel) rfl) hS ls (lv_sub hl [0, 1, 3, 4, 5] rfl)
          · refine lv_iconst (v := 1) hx hb dX3_value_37 (by decide) ?_
            refine lv_goto (tgt := 42) hx hb dX3_value_38 (by decide) ?_
            refine lv_istore_n (lv' := [(3, .int 1), (5, .int x_4), (4, .int (nI i1)), (2, .int (nI tp1)), (0, .ref f0), (1, .ref fa0)]) hx hb dX3_value_42 rfl hl (by decide) rfl (fun ls hl => ?_)
            refine lv_goto (tgt := 130) hx hb dX3_value_43 (by decide) ?_
            refine lv_iinc (v := nI (i1 + 1)) (lv' := [(4, .int (nI (i1 + 1))), (3, .int 1), (5, .int x_4), (2, .int (nI tp1)), (0, .ref f0), (1, .ref fa0)]) hx hb dX3_value_130 hl (k := 2) rfl (nI_add i1 1) (by decide) rfl (fun ls hl => ?_)
            refine lv_goto (tgt := 7) hx hb dX3_value_133 (by decide) ?_
            exact ih1  tp1 1 ((i1 + 1)) fa3_1 (by omega) (by omega) (by omega) _ _ (hP.sub [0, 1, 2, 3] rfl) (hD.sub [0, 1, 2, 3] (by decide +kernel) rfl) hS ls (lv_sub hl [0, 1, 3, 4, 5] rfl)
  exact loop1 _ 0 0 0 fs (by omega) (by omega) (Nat.le_refl _) _ _ (hP.sub [0, 1, 2, 3] rfl) (hD.sub [0, 1, 2, 3] (by decide +kernel) rfl) hS ls (lv_sub hl [0, 1, 2, 3, 4] rfl)
