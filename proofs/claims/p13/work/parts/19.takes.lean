def mL19 : List (Option Cond) := [some (Cond.selects RX10 yX10_fail yX10_fail), some (Cond.selects RX10 yX10_find yX10_find), some (Cond.selects RX10 yX10_takeNumber yX10_takeNumber), some (Cond.initialized RX10), some (Cond.fieldLink RX10 65 "CliffJudges$Tape" "start" "I"), some (Cond.fieldLink RX10 55 "CliffJudges$Tape" "kind" "I"), some (Cond.fieldLink RX10 172 "CliffJudges$Tape" "name" "J"), some (Cond.fieldLink RX10 176 "CliffJudges$Tape" "number" "I"), some (Cond.fieldLink RX10 16 "CliffJudges$Teller" "tape" "LCliffJudges$Tape;"), some (Cond.fieldLink RX10 11 "CliffJudges$Teller" "names" "[[J"), some (Cond.fieldLink RX10 24 "CliffJudges$Teller" "hills" "LCliffJudges$Hills;"), some (Cond.fieldLink RX10 134 "CliffJudges$Teller" "value" "I"), some (Cond.fieldLink RX10 47 "CliffJudges$Teller" "fault" "I"), some (Cond.fieldLink RX10 20 "CliffJudges$Teller" "place" "I"), some (Cond.fieldLink RX10 114 "CliffJudges$Hills" "counts" "[I"), some (Cond.methodLink RX10 110 yX10_fail), some (Cond.instanceMethod yX10_fail), some (Cond.code yX10_fail cX10_fail 2 (some .boolean)), some (Cond.methodLink RX10 140 yX9_next), some (Cond.methodLink RX10 169 yX10_find), some (Cond.instanceMethod yX10_find), some (Cond.code yX10_find cX10_find 3 (some .int)), some (Cond.methodLink RX10 131 yX10_takeNumber), some (Cond.instanceMethod yX10_takeNumber), some (Cond.code yX10_takeNumber cX10_takeNumber 2 (some .boolean))]
set_option maxRecDepth 100000 in
theorem mP19 : pick [8, 1, 2, 125, 84, 2, 3, 2, 28, 1, 1, 5, 1, 2, 71, 486, 2, 1, 1, 1, 2, 1, 5, 2, 1] lw_tbl = mL19 := rfl
set_option maxRecDepth 100000 in
theorem mG19 : mL19.all (fun o => o.all goodWord) = true := rfl
theorem m_8 : (Cond.selects RX10 yX10_fail yX10_fail) ∈ gT := gp mP19 mG19 0 rfl
theorem m_9 : (Cond.selects RX10 yX10_find yX10_find) ∈ gT := gp mP19 mG19 1 rfl
theorem m_11 : (Cond.selects RX10 yX10_takeNumber yX10_takeNumber) ∈ gT := gp mP19 mG19 2 rfl
theorem m_136 : (Cond.initialized RX10) ∈ gT := gp mP19 mG19 3 rfl
theorem m_220 : (Cond.fieldLink RX10 65 "CliffJudges$Tape" "start" "I") ∈ gT := gp mP19 mG19 4 rfl
theorem m_222 : (Cond.fieldLink RX10 55 "CliffJudges$Tape" "kind" "I") ∈ gT := gp mP19 mG19 5 rfl
theorem m_225 : (Cond.fieldLink RX10 172 "CliffJudges$Tape" "name" "J") ∈ gT := gp mP19 mG19 6 rfl
theorem m_227 : (Cond.fieldLink RX10 176 "CliffJudges$Tape" "number" "I") ∈ gT := gp mP19 mG19 7 rfl
theorem m_255 : (Cond.fieldLink RX10 16 "CliffJudges$Teller" "tape" "LCliffJudges$Tape;") ∈ gT := gp mP19 mG19 8 rfl
theorem m_256 : (Cond.fieldLink RX10 11 "CliffJudges$Teller" "names" "[[J") ∈ gT := gp mP19 mG19 9 rfl
theorem m_257 : (Cond.fieldLink RX10 24 "CliffJudges$Teller" "hills" "LCliffJudges$Hills;") ∈ gT := gp mP19 mG19 10 rfl
theorem m_262 : (Cond.fieldLink RX10 134 "CliffJudges$Teller" "value" "I") ∈ gT := gp mP19 mG19 11 rfl
theorem m_263 : (Cond.fieldLink RX10 47 "CliffJudges$Teller" "fault" "I") ∈ gT := gp mP19 mG19 12 rfl
theorem m_265 : (Cond.fieldLink RX10 20 "CliffJudges$Teller" "place" "I") ∈ gT := gp mP19 mG19 13 rfl
theorem m_336 : (Cond.fieldLink RX10 114 "CliffJudges$Hills" "counts" "[I") ∈ gT := gp mP19 mG19 14 rfl
theorem m_822 : (Cond.methodLink RX10 110 yX10_fail) ∈ gT := gp mP19 mG19 15 rfl
theorem m_824 : (Cond.instanceMethod yX10_fail) ∈ gT := gp mP19 mG19 16 rfl
theorem m_825 : (Cond.code yX10_fail cX10_fail 2 (some .boolean)) ∈ gT := gp mP19 mG19 17 rfl
theorem m_826 : (Cond.methodLink RX10 140 yX9_next) ∈ gT := gp mP19 mG19 18 rfl
theorem m_827 : (Cond.methodLink RX10 169 yX10_find) ∈ gT := gp mP19 mG19 19 rfl
theorem m_829 : (Cond.instanceMethod yX10_find) ∈ gT := gp mP19 mG19 20 rfl
theorem m_830 : (Cond.code yX10_find cX10_find 3 (some .int)) ∈ gT := gp mP19 mG19 21 rfl
theorem m_835 : (Cond.methodLink RX10 131 yX10_takeNumber) ∈ gT := gp mP19 mG19 22 rfl
theorem m_837 : (Cond.instanceMethod yX10_takeNumber) ∈ gT := gp mP19 mG19 23 rfl
theorem m_838 : (Cond.code yX10_takeNumber cX10_takeNumber 2 (some .boolean)) ∈ gT := gp mP19 mG19 24 rfl
theorem gdX10_fail_0 : decode cX10_fail 0 = .ok (.aload_n 0, 1) ∧ decode cX10_fail 1 = .ok (.aload_n 0, 1) ∧ decode cX10_fail 2 = .ok (.getfield 16, 3) := by decide +kernel
theorem dX10_fail_0 : decode cX10_fail 0 = .ok (.aload_n 0, 1) := gdX10_fail_0.1
theorem dX10_fail_1 : decode cX10_fail 1 = .ok (.aload_n 0, 1) := gdX10_fail_0.2.1
theorem dX10_fail_2 : decode cX10_fail 2 = .ok (.getfield 16, 3) := gdX10_fail_0.2.2
set_option maxRecDepth 20000 in
theorem i_X10 : ∀ w ∈ u_ws RX10 TX10 10, w ∈ gT := gin [267, 269, 271, 273, 275, 277, 279, 281, 283, 285] (by decide +kernel) (by decide +kernel)
theorem gdX10_fail_5 : decode cX10_fail 5 = .ok (.getfield 55, 3) ∧ decode cX10_fail 8 = .ok (.iconst 3, 1) ∧ decode cX10_fail 9 = .ok (.if_icmp .ne 7, 3) ∧ decode cX10_fail 16 = .ok (.iload_n 1, 1) ∧ decode cX10_fail 17 = .ok (.putfield 47, 3) ∧ decode cX10_fail 20 = .ok (.aload_n 0, 1) ∧ decode cX10_fail 21 = .ok (.aload_n 0, 1) ∧ decode cX10_fail 22 = .ok (.getfield 16, 3) ∧ decode cX10_fail 25 = .ok (.getfield 65, 3) ∧ decode cX10_fail 28 = .ok (.putfield 20, 3) ∧ decode cX10_fail 31 = .ok (.iconst 0, 1) ∧ decode cX10_fail 32 = .ok (.ireturn, 1) := by decide +kernel
theorem dX10_fail_5 : decode cX10_fail 5 = .ok (.getfield 55, 3) := gdX10_fail_5.1
theorem dX10_fail_8 : decode cX10_fail 8 = .ok (.iconst 3, 1) := gdX10_fail_5.2.1
theorem dX10_fail_9 : decode cX10_fail 9 = .ok (.if_icmp .ne 7, 3) := gdX10_fail_5.2.2.1
theorem dX10_fail_16 : decode cX10_fail 16 = .ok (.iload_n 1, 1) := gdX10_fail_5.2.2.2.1
theorem dX10_fail_17 : decode cX10_fail 17 = .ok (.putfield 47, 3) := gdX10_fail_5.2.2.2.2.1
theorem dX10_fail_20 : decode cX10_fail 20 = .ok (.aload_n 0, 1) := gdX10_fail_5.2.2.2.2.2.1
theorem dX10_fail_21 : decode cX10_fail 21 = .ok (.aload_n 0, 1) := gdX10_fail_5.2.2.2.2.2.2.1
theorem dX10_fail_22 : decode cX10_fail 22 = .ok (.getfield 16, 3) := gdX10_fail_5.2.2.2.2.2.2.2.1
theorem dX10_fail_25 : decode cX10_fail 25 = .ok (.getfield 65, 3) := gdX10_fail_5.2.2.2.2.2.2.2.2.1
theorem dX10_fail_28 : decode cX10_fail 28 = .ok (.putfield 20, 3) := gdX10_fail_5.2.2.2.2.2.2.2.2.2.1
theorem dX10_fail_31 : decode cX10_fail 31 = .ok (.iconst 0, 1) := gdX10_fail_5.2.2.2.2.2.2.2.2.2.2.1
theorem dX10_fail_32 : decode cX10_fail 32 = .ok (.ireturn, 1) := gdX10_fail_5.2.2.2.2.2.2.2.2.2.2.2
theorem dX10_fail_12 : decode cX10_fail 12 = .ok (.iconst 1, 1) := by decide +kernel
theorem dX10_fail_13 : decode cX10_fail 13 = .ok (.goto 4, 3) := by decide +kernel
set_option maxHeartbeats 1000000 in
set_option maxRecDepth 100000 in
theorem s_fail (l : Launch) (D : va_G) (cy : Nat → ClassId) (d0 : Nat) (d1 : Nat) (uh : Int32) (wt : Int32) (dt : Int32) (vv : Int32) (fq : Int32) (pq : Int32) (yh : Value) (yf : Value) (t0 : Nat) (t1 : Nat) (t2 : Nat) (tn : Nat) (ta : Nat) (ts : Nat) (tk : Nat) (tm : Int64) (tr : Int32) (co : Nat) (htk : tk ≤ 123) : XMi l D (tyL cy) E0 yX10_fail cX10_fail 2 (some .boolean) (rmk 0 0 0) [.ref d0, .int (nI co)] [wO d0 10 [.ref t0, .ref d1, yh, yf, .int uh, .int wt, .int dt, .int vv, .int fq, .int pq], wO t0 9 [.ref t1, .ref t2, .int (nI tn), .int (nI ta), .int (nI ts), .int (nI tk), .long tm, .int tr]] (fun (r : Int32) (u : Int32 × Int32) => ((r = 0 ∧ (u.1 = nI (if tk = 3 then 1 else co)) ∧ (u.2 = nI ts)))) (fun (u : Int32 × Int32) => [wO d0 10 [.ref t0, .ref d1, yh, yf, .int uh, .int wt, .int dt, .int vv, .int u.1, .int u.2], wO t0 9 [.ref t1, .ref t2, .int (nI tn), .int (nI ta), .int (nI ts), .int (nI tk), .long tm, .int tr]]) := by
  refine XMi.start (by decide) (Nat.le_of_ble_eq_true rfl) ?_
  intro p e s m below meth c args A ls Q hat hQ
  obtain ⟨hx, hb, hr, hml, hown, hg, hlocks, hin, hK, hA, hP, hD, hS, hE, hl⟩ := hat
  have hown : s.vm.findClass RX10 = some m.cls := hown
  have hl : lv_has ls 2 [(0, .ref d0), (1, .int (nI co))] := hl
  refine lv_aload_n hx hb dX10_fail_0 rfl (lv_at hl 0 rfl) ?_
  refine lv_aload_n hx hb dX10_fail_1 rfl (lv_at hl 0 rfl) ?_
  refine va_get (D := D) (ci := 10) (v := .ref t0) (C := RX10) (T := TX10) (N := 10) hx hb hg i_X10 hown hK hP 0 rfl rfl 0 (by decide) (hg _ m_255) (fun _ h9 => h9) rfl dX10_fail_2 ?_
  refine va_get (D := D) (ci := 9) (v := .int (nI tk)) (C := RX9) (T := TX9) (N := 8) hx hb hg i_X9 hown hK hP 1 rfl rfl 5 (by decide) (hg _ m_222) (fun _ h9 => h9) rfl dX10_fail_5 ?_
  refine lv_iconst (v := 3) hx hb dX10_fail_8 (by decide) ?_
  refine lv_icmp_ne (tgt := 16) hx hb dX10_fail_9 (by decide) (fun c_1 => ?_) (fun c_1 => ?_)
  · have q_2 : ¬ tk = 3 := q_ne (a := tk) (b := 3) rfl rfl (by omega) (by omega) c_1
    refine lv_iload_n hx hb dX10_fail_16 rfl (lv_at hl 1 rfl) ?_
    refine va_put (D := D) (ci := 10) (v := .int (nI co)) (ty := .int) (C := RX10) (T := TX10) (N := 10) hx hb hg i_X10 tyX10 tyX10_ok nmX10 hown hK hP hD hS 0 rfl rfl 8 (by decide) (hg _ m_263) (fun _ h9 => h9) rfl (by decide +kernel) rfl rfl (Nat.le_of_ble_eq_true rfl) dX10_fail_17 (fun H locs hP9 hD9 hS9 => ?_)
    clear hP hD hS
    refine reW [wO d0 10 [.ref t0, .ref d1, yh, yf, .int uh, .int wt, .int dt, .int vv, .int (nI co), .int pq], wO t0 9 [.ref t1, .ref t2, .int (nI tn), .int (nI ta), .int (nI ts), .int (nI tk), .long tm, .int tr]] hP9 hD9 hS9 (fun hP hD hS => ?_)
    clear hP9 hD9 hS9
    refine lv_aload_n hx hb dX10_fail_20 rfl (lv_at hl 0 rfl) ?_
    refine lv_aload_n hx hb dX10_fail_21 rfl (lv_at hl 0 rfl) ?_
    refine va_get (D := D) (ci := 10) (v := .ref t0) (C := RX10) (T := TX10) (N := 10) hx hb hg i_X10 hown hK hP 0 rfl rfl 0 (by decide) (hg _ m_255) (fun _ h9 => h9) rfl dX10_fail_22 ?_
    refine va_get (D := D) (ci := 9) (v := .int (nI ts)) (C := RX9) (T := TX9) (N := 8) hx hb hg i_X9 hown hK hP 1 rfl rfl 4 (by decide) (hg _ m_220) (fun _ h9 => h9) rfl dX10_fail_25 ?_
    refine va_put (D := D) (ci := 10) (v := .int (nI ts)) (ty := .int) (C := RX10) (T := TX10) (N := 10) hx hb hg i_X10 tyX10 tyX10_ok nmX10 hown hK hP hD hS 0 rfl rfl 9 (by decide) (hg _ m_265) (fun _ h9 => h9) rfl (by decide +kernel) rfl rfl (Nat.le_of_ble_eq_true rfl) dX10_fail_28 (fun H locs hP9 hD9 hS9 => ?_)
    clear hP hD hS
    refine reW [wO d0 10 [.ref t0, .ref d1, yh, yf, .int uh, .int wt, .int dt, .int vv, .int (nI co), .int (nI ts)], wO t0 9 [.ref t1, .ref t2, .int (nI tn), .int (nI ta), .int (nI ts), .int (nI tk), .long tm, .int tr]] hP9 hD9 hS9 (fun hP hD hS => ?_)
    clear hP9 hD9 hS9
    refine lv_iconst (v := 0) hx hb dX10_fail_31 (by decide) ?_
    exact x_zret hQ hx hb hr hlocks hK hP hD hS rfl dX10_fail_32 (nI co, nI ts) ((show ((0 : Int32) = 0 ∧ ((nI co) = nI (if tk = 3 then 1 else co)) ∧ ((nI ts) = nI ts)) from ⟨rfl, (by rw [if_neg (by omega)]), (rfl)⟩)) [0, 1] (by decide +kernel) rfl (Nat.le_of_ble_eq_true rfl) (Nat.le_of_ble_eq_true rfl)
  · have q_2 : tk = 3 := q_eq (a := tk) (b := 3) rfl rfl (by omega) (by omega) c_1
    refine lv_iconst (v := 1) hx hb dX10_fail_12 (by decide) ?_
    refine lv_goto (tgt := 17) hx hb dX10_fail_13 (by decide) ?_
    refine va_put (D := D) (ci := 10) (v := .int 1) (ty := .int) (C := RX10) (T := TX10) (N := 10) hx hb hg i_X10 tyX10 tyX10_ok nmX10 hown hK hP hD hS 0 rfl rfl 8 (by decide) (hg _ m_263) (fun _ h9 => h9) rfl (by decide +kernel) rfl rfl (Nat.le_of_ble_eq_true rfl) dX10_fail_17 (fun H locs hP9 hD9 hS9 => ?_)
    clear hP hD hS
    refine reW [wO d0 10 [.ref t0, .ref d1, yh, yf, .int uh, .int wt, .int dt, .int vv, .int 1, .int pq], wO t0 9 [.ref t1, .ref t2, .int (nI tn), .int (nI ta), .int (nI ts), .int (nI tk), .long tm, .int tr]] hP9 hD9 hS9 (fun hP hD hS => ?_)
    clear hP9 hD9 hS9
    refine lv_aload_n hx hb dX10_fail_20 rfl (lv_at hl 0 rfl) ?_
    refine lv_aload_n hx hb dX10_fail_21 rfl (lv_at hl 0 rfl) ?_
    refine va_get (D := D) (ci := 10) (v := .ref t0) (C := RX10) (T := TX10) (N := 10) hx hb hg i_X10 hown hK hP 0 rfl rfl 0 (by decide) (hg _ m_255) (fun _ h9 => h9) rfl dX10_fail_22 ?_
    refine va_get (D := D) (ci := 9) (v := .int (nI ts)) (C := RX9) (T := TX9) (N := 8) hx hb hg i_X9 hown hK hP 1 rfl rfl 4 (by decide) (hg _ m_220) (fun _ h9 => h9) rfl dX10_fail_25 ?_
    refine va_put (D := D) (ci := 10) (v := .int (nI ts)) (ty := .int) (C := RX10) (T := TX10) (N := 10) hx hb hg i_X10 tyX10 tyX10_ok nmX10 hown hK hP hD hS 0 rfl rfl 9 (by decide) (hg _ m_265) (fun _ h9 => h9) rfl (by decide +kernel) rfl rfl (Nat.le_of_ble_eq_true rfl) dX10_fail_28 (fun H locs hP9 hD9 hS9 => ?_)
    clear hP hD hS
    refine reW [wO d0 10 [.ref t0, .ref d1, yh, yf, .int uh, .int wt, .int dt, .int vv, .int 1, .int (nI ts)], wO t0 9 [.ref t1, .ref t2, .int (nI tn), .int (nI ta), .int (nI ts), .int (nI tk), .long tm, .int tr]] hP9 hD9 hS9 (fun hP hD hS => ?_)
    clear hP9 hD9 hS9
    refine lv_iconst (v := 0) hx hb dX10_fail_31 (by decide) ?_
    exact x_zret hQ hx hb hr hlocks hK hP hD hS rfl dX10_fail_32 (1, nI ts) ((show ((0 : Int32) = 0 ∧ (1 = nI (if tk = 3 then 1 else co)) ∧ ((nI ts) = nI ts)) from ⟨rfl, (by rw [if_pos (by omega)]; rfl), (rfl)⟩)) [0, 1] (by decide +kernel) rfl (Nat.le_of_ble_eq_true rfl) (Nat.le_of_ble_eq_true rfl)
theorem gdX10_take_0 : decode cX10_take 0 = .ok (.aload_n 0, 1) ∧ decode cX10_take 1 = .ok (.getfield 16, 3) ∧ decode cX10_take 4 = .ok (.getfield 55, 3) ∧ decode cX10_take 7 = .ok (.iload_n 1, 1) ∧ decode cX10_take 8 = .ok (.if_icmp .eq 9, 3) ∧ decode cX10_take 17 = .ok (.aload_n 0, 1) ∧ decode cX10_take 18 = .ok (.getfield 16, 3) ∧ decode cX10_take 21 = .ok (.invokevirtual 140, 3) := by decide +kernel
theorem dX10_take_0 : decode cX10_take 0 = .ok (.aload_n 0, 1) := gdX10_take_0.1
theorem dX10_take_1 : decode cX10_take 1 = .ok (.getfield 16, 3) := gdX10_take_0.2.1
theorem dX10_take_4 : decode cX10_take 4 = .ok (.getfield 55, 3) := gdX10_take_0.2.2.1
theorem dX10_take_7 : decode cX10_take 7 = .ok (.iload_n 1, 1) := gdX10_take_0.2.2.2.1
theorem dX10_take_8 : decode cX10_take 8 = .ok (.if_icmp .eq 9, 3) := gdX10_take_0.2.2.2.2.1
theorem dX10_take_17 : decode cX10_take 17 = .ok (.aload_n 0, 1) := gdX10_take_0.2.2.2.2.2.1
theorem dX10_take_18 : decode cX10_take 18 = .ok (.getfield 16, 3) := gdX10_take_0.2.2.2.2.2.2.1
theorem dX10_take_21 : decode cX10_take 21 = .ok (.invokevirtual 140, 3) := gdX10_take_0.2.2.2.2.2.2.2
theorem k_X10_140 : xV RX10 RX9 140 yX9_next cX9_next 2 none 0 := ⟨⟨m_826, m_727, m_728, m_131, m_729⟩, rfl, by decide, by decide, by decide +kernel⟩
theorem gdX10_take_24 : decode cX10_take 24 = .ok (.iconst 1, 1) ∧ decode cX10_take 25 = .ok (.ireturn, 1) ∧ decode cX10_take 11 = .ok (.aload_n 0, 1) ∧ decode cX10_take 12 = .ok (.iconst 2, 1) ∧ decode cX10_take 13 = .ok (.invokevirtual 110, 3) := by decide +kernel
theorem dX10_take_24 : decode cX10_take 24 = .ok (.iconst 1, 1) := gdX10_take_24.1
theorem dX10_take_25 : decode cX10_take 25 = .ok (.ireturn, 1) := gdX10_take_24.2.1
theorem dX10_take_11 : decode cX10_take 11 = .ok (.aload_n 0, 1) := gdX10_take_24.2.2.1
theorem dX10_take_12 : decode cX10_take 12 = .ok (.iconst 2, 1) := gdX10_take_24.2.2.2.1
theorem dX10_take_13 : decode cX10_take 13 = .ok (.invokevirtual 110, 3) := gdX10_take_24.2.2.2.2
theorem k_X10_110 : xV RX10 RX10 110 yX10_fail cX10_fail 2 (some .boolean) 1 := ⟨⟨m_822, m_824, m_8, m_136, m_825⟩, rfl, by decide, by decide, by decide +kernel⟩
theorem dX10_take_16 : decode cX10_take 16 = .ok (.ireturn, 1) := by decide +kernel
set_option maxHeartbeats 1000000 in
set_option maxRecDepth 100000 in
theorem s_take (l : Launch) (D : va_G) (cy : Nat → ClassId) (adK : Nat → Nat) (adV : Nat → Nat) (d0 : Nat) (d1 : Nat) (uh : Int32) (wt : Int32) (dt : Int32) (vv : Int32) (fq : Int32) (pq : Int32) (yh : Value) (yf : Value) (t0 : Nat) (t1 : Nat) (t2 : Nat) (tn : Nat) (ta : Nat) (ts : Nat) (tk : Nat) (tm : Int64) (tr : Int32) (fby : Nat → Int32) (fky : Nat → Int64) (ga : Nat) (ki : Nat) (htn : tn ≤ 1600) (hta : ta ≤ tn) (htk : tk ≤ 123) (hti : tkC fby tn ga ta ts tk tm tr) (hky : kyOK fky) (hki : ki ≤ 123) : XMi l D (tyL cy) (EV adK adV) yX10_take cX10_take 2 (some .boolean) (rmk 7 0 0) [.ref d0, .int (nI ki)] [wO d0 10 [.ref t0, .ref d1, yh, yf, .int uh, .int wt, .int dt, .int vv, .int fq, .int pq], wO t0 9 [.ref t1, .ref t2, .int (nI tn), .int (nI ta), .int (nI ts), .int (nI tk), .long tm, .int tr], wI (cy 0) t1 1600 (fby), (t2, .inl (cy 2, 24, .inr (.inl (fky))))] (fun (r : Int32) (u : Nat × Nat × Nat × Int64 × Int32 × Int32 × Int32 × Nat × Nat) => (u.1 ≤ tn) ∧ (u.2.2.1 ≤ 123) ∧ ((r = 1 ∧ (takS fby tn ki ga = .inr (fin fby tn ga)) ∧ (fq = u.2.2.2.2.2.1) ∧ (pq = u.2.2.2.2.2.2.1) ∧ (tkC fby tn (fin fby tn ga) u.1 u.2.1 u.2.2.1 u.2.2.2.1 u.2.2.2.2.1) ∧ (knd fby tn ga = ki)) ∨ (r = 0 ∧ (takS fby tn ki ga = .inl (u.2.2.2.2.2.2.2.1, u.2.2.2.2.2.2.2.2)) ∧ (flt fby tn u.2.2.2.2.2.2.2.2 u.2.2.2.2.2.2.2.1 u.2.2.2.2.2.1 u.2.2.2.2.2.2.1) ∧ (¬ knd fby tn ga = ki)))) (fun (u : Nat × Nat × Nat × Int64 × Int32 × Int32 × Int32 × Nat × Nat) => [wO d0 10 [.ref t0, .ref d1, yh, yf, .int uh, .int wt, .int dt, .int vv, .int u.2.2.2.2.2.1, .int u.2.2.2.2.2.2.1], wO t0 9 [.ref t1, .ref t2, .int (nI tn), .int (nI u.1), .int (nI u.2.1), .int (nI u.2.2.1), .long u.2.2.2.1, .int u.2.2.2.2.1], wI (cy 0) t1 1600 (fby), (t2, .inl (cy 2, 24, .inr (.inl (fky))))]) := by
  refine XMi.start (by decide) (Nat.le_of_ble_eq_true rfl) ?_
  intro p e s m below meth c args A ls Q hat hQ
  obtain ⟨hx, hb, hr, hml, hown, hg, hlocks, hin, hK, hA, hP, hD, hS, hE, hl⟩ := hat
  have hown : s.vm.findClass RX10 = some m.cls := hown
  have hl : lv_has ls 2 [(0, .ref d0), (1, .int (nI ki))] := hl
  refine lv_aload_n hx hb dX10_take_0 rfl (lv_at hl 0 rfl) ?_
  refine va_get (D := D) (ci := 10) (v := .ref t0) (C := RX10) (T := TX10) (N := 10) hx hb hg i_X10 hown hK hP 0 rfl rfl 0 (by decide) (hg _ m_255) (fun _ h9 => h9) rfl dX10_take_1 ?_
  refine va_get (D := D) (ci := 9) (v := .int (nI tk)) (C := RX9) (T := TX9) (N := 8) hx hb hg i_X9 hown hK hP 1 rfl rfl 5 (by decide) (hg _ m_222) (fun _ h9 => h9) rfl dX10_take_4 ?_
  refine lv_iload_n hx hb dX10_take_7 rfl (lv_at hl 1 rfl) ?_
  refine lv_icmp_eq (tgt := 17) hx hb dX10_take_8 (by decide) (fun c_1 => ?_) (fun c_1 => ?_)
  · have q_2 : tk = ki := q_eq (a := tk) (b := ki) rfl rfl (by omega) (by omega) c_1
    refine lv_aload_n hx hb dX10_take_17 rfl (lv_at hl 0 rfl) ?_
    refine va_get (D := D) (ci := 10) (v := .ref t0) (C := RX10) (T := TX10) (N := 10) hx hb hg i_X10 hown hK hP 0 rfl rfl 0 (by decide) (hg _ m_255) (fun _ h9 => h9) rfl dX10_take_18 ?_
    refine x_callVv (q := (RX9, TX9, 8)) (ci := 9) (q0 := 0) (wr := [wO d0 10 [.ref t0, .ref d1, yh, yf, .int uh, .int wt, .int dt, .int vv, .int fq, .int pq]]) (rest := []) ⟨hx, hb, hml, hown, hg, hl.1⟩ k_X10_140 (s_next l D cy adK adV t0 t1 t2 tn ta ts tk tm tr fby fky (fin fby tn ga) (by omega) (by omega) (hti.2.1) (hky)) EV_blind hK hP hD hS hA [1, 2, 3] [0] ⟨rfl, rfl, by decide +kernel, by decide +kernel, by decide +kernel⟩ rfl rfl (fun U hU hW => EV_pass hE hS (va_free hD hS hA [1, 2, 3] rfl) hU hW) dX10_take_21 rfl rfl (Nat.le_of_ble_eq_true rfl) ⟨Nat.le_of_ble_eq_true rfl, Nat.le_of_ble_eq_true rfl⟩ ⟨Nat.le_of_ble_eq_true rfl, Nat.le_of_ble_eq_true rfl⟩ (fun zu3 H locs hw3 hP9 hD9 hS9 => ?_)
    clear hP hD hS
    obtain ⟨ta2_4, ts2_5, tk2_6, tm2_7, tr2_8⟩ := zu3
    refine reW [wO d0 10 [.ref t0, .ref d1, yh, yf, .int uh, .int wt, .int dt, .int vv, .int fq, .int pq], wO t0 9 [.ref t1, .ref t2, .int (nI tn), .int (nI ta2_4), .int (nI ts2_5), .int (nI tk2_6), .long tm2_7, .int tr2_8], wI (cy 0) t1 1600 (fby), (t2, .inl (cy 2, 24, .inr (.inl (fky))))] hP9 hD9 hS9 (fun hP hD hS => ?_)
    clear hP9 hD9 hS9
    refine W.widen (k := 0) (n := 0) (Nat.le_of_ble_eq_true rfl) (Nat.le_of_ble_eq_true rfl) ?_
    replace hw3 : (ta2_4 ≤ tn) ∧ (tk2_6 ≤ 123) ∧ (tkC fby tn (fin fby tn ga) ta2_4 ts2_5 tk2_6 tm2_7 tr2_8) := hw3
    obtain ⟨f_9, f_10, f_11⟩ := hw3
    refine lv_iconst (v := 1) hx hb dX10_take_24 (by decide) ?_
    exact x_zret hQ hx hb hr hlocks hK hP hD hS rfl dX10_take_25 (ta2_4, ts2_5, tk2_6, tm2_7, tr2_8, fq, pq, 0, 0) (⟨(show ta2_4 ≤ tn from by omega), (show tk2_6 ≤ 123 from by omega), (show ((1 : Int32) = 1 ∧ (takS fby tn ki ga = .inr (fin fby tn ga)) ∧ (fq = fq) ∧ (pq = pq) ∧ (tkC fby tn (fin fby tn ga) ta2_4 ts2_5 tk2_6 tm2_7 tr2_8) ∧ (knd fby tn ga = ki)) ∨ ((1 : Int32) = 0 ∧ (takS fby tn ki ga = .inl (0, 0)) ∧ (flt fby tn 0 0 fq pq) ∧ (¬ knd fby tn ga = ki)) from Or.inl ⟨rfl, (if_pos (by have h9 := hti.2.2.1; omega)), (rfl), (rfl), (f_11), (by have h9 := hti.2.2.1; omega)⟩)⟩) [0, 1, 2, 3] (by decide +kernel) rfl (Nat.le_of_ble_eq_true rfl) (Nat.le_of_ble_eq_true rfl)
  · have q_2 : ¬ tk = ki := q_ne (a := tk) (b := ki) rfl rfl (by omega) (by omega) c_1
    refine lv_aload_n hx hb dX10_take_11 rfl (lv_at hl 0 rfl) ?_
    refine lv_iconst (v := 2) hx hb dX10_take_12 (by decide) ?_
    refine x_callVi (q := (RX10, TX10, 10)) (ci := 10) (q0 := 0) (wr := [wI (cy 0) t1 1600 (fby), (t2, .inl (cy 2, 24, .inr (.inl (fky))))]) (rest := []) ⟨hx, hb, hml, hown, hg, hl.1⟩ k_X10_110 (s_fail l D cy d0 d1 uh wt dt vv fq pq yh yf t0 t1 t2 tn ta ts tk tm tr 2 (by omega)) E0_blind hK hP hD hS hA [0, 1] [2, 3] ⟨rfl, rfl, by decide +kernel, by decide +kernel, by decide +kernel⟩ rfl rfl (fun _ _ _ => trivial) dX10_take_13 rfl rfl (Nat.le_of_ble_eq_true rfl) ⟨Nat.le_of_ble_eq_true rfl, Nat.le_of_ble_eq_true rfl⟩ ⟨Nat.le_of_ble_eq_true rfl, Nat.le_of_ble_eq_true rfl⟩ (fun zr12 zu12 H locs hw12 hP9 hD9 hS9 => ?_)
    clear hP hD hS
    obtain ⟨fq2_13, pq2_14⟩ := zu12
    refine reW [wI (cy 0) t1 1600 (fby), (t2, .inl (cy 2, 24, .inr (.inl (fky)))), wO d0 10 [.ref t0, .ref d1, yh, yf, .int uh, .int wt, .int dt, .int vv, .int fq2_13, .int pq2_14], wO t0 9 [.ref t1, .ref t2, .int (nI tn), .int (nI ta), .int (nI ts), .int (nI tk), .long tm, .int tr]] hP9 hD9 hS9 (fun hP hD hS => ?_)
    clear hP9 hD9 hS9
    refine W.widen (k := 0) (n := 0) (Nat.le_of_ble_eq_true rfl) (Nat.le_of_ble_eq_true rfl) ?_
    replace hw12 : ((zr12 = 0 ∧ (fq2_13 = nI (if tk = 3 then 1 else 2)) ∧ (pq2_14 = nI ts))) := hw12
    have f_15 := hw12
    rcases f_15 with ⟨hz_18, a_16, a_17⟩
    subst hz_18
    exact x_zret hQ hx hb hr hlocks hK hP hD hS rfl dX10_take_16 (ta, ts, tk, tm, tr, fq2_13, pq2_14, 2, ga) (⟨(show ta ≤ tn from by omega), (show tk ≤ 123 from by omega), (show ((0 : Int32) = 1 ∧ (takS fby tn ki ga = .inr (fin fby tn ga)) ∧ (fq = fq2_13) ∧ (pq = pq2_14) ∧ (tkC fby tn (fin fby tn ga) ta ts tk tm tr) ∧ (knd fby tn ga = ki)) ∨ ((0 : Int32) = 0 ∧ (takS fby tn ki ga = .inl (2, ga)) ∧ (flt fby tn ga 2 fq2_13 pq2_14) ∧ (¬ knd fby tn ga = ki)) from Or.inr (⟨rfl, (if_neg (by have h9 := hti.2.2.1; omega)), (flt_of hti a_16 a_17), (by have h9 := hti.2.2.1; omega)⟩))⟩) [2, 3, 0, 1] (by decide +kernel) rfl (Nat.le_of_ble_eq_true rfl) (Nat.le_of_ble_eq_true rfl)
theorem gdX10_takeNumber_0 : decode cX10_takeNumber 0 = .ok (.aload_n 0, 1) ∧ decode cX10_takeNumber 1 = .ok (.getfield 16, 3) ∧ decode cX10_takeNumber 4 = .ok (.getfield 55, 3) ∧ decode cX10_takeNumber 7 = .ok (.iconst 2, 1) ∧ decode cX10_takeNumber 8 = .ok (.if_icmp .eq 9, 3) ∧ decode cX10_takeNumber 17 = .ok (.aload_n 0, 1) ∧ decode cX10_takeNumber 18 = .ok (.getfield 16, 3) ∧ decode cX10_takeNumber 21 = .ok (.getfield 176, 3) ∧ decode cX10_takeNumber 24 = .ok (.iload_n 1, 1) ∧ decode cX10_takeNumber 25 = .ok (.if_icmp .le 9, 3) ∧ decode cX10_takeNumber 34 = .ok (.aload_n 0, 1) ∧ decode cX10_takeNumber 35 = .ok (.aload_n 0, 1) := by decide +kernel
theorem dX10_takeNumber_0 : decode cX10_takeNumber 0 = .ok (.aload_n 0, 1) := gdX10_takeNumber_0.1
theorem dX10_takeNumber_1 : decode cX10_takeNumber 1 = .ok (.getfield 16, 3) := gdX10_takeNumber_0.2.1
theorem dX10_takeNumber_4 : decode cX10_takeNumber 4 = .ok (.getfield 55, 3) := gdX10_takeNumber_0.2.2.1
theorem dX10_takeNumber_7 : decode cX10_takeNumber 7 = .ok (.iconst 2, 1) := gdX10_takeNumber_0.2.2.2.1
theorem dX10_takeNumber_8 : decode cX10_takeNumber 8 = .ok (.if_icmp .eq 9, 3) := gdX10_takeNumber_0.2.2.2.2.1
theorem dX10_takeNumber_17 : decode cX10_takeNumber 17 = .ok (.aload_n 0, 1) := gdX10_takeNumber_0.2.2.2.2.2.1
theorem dX10_takeNumber_18 : decode cX10_takeNumber 18 = .ok (.getfield 16, 3) := gdX10_takeNumber_0.2.2.2.2.2.2.1
theorem dX10_takeNumber_21 : decode cX10_takeNumber 21 = .ok (.getfield 176, 3) := gdX10_takeNumber_0.2.2.2.2.2.2.2.1
theorem dX10_takeNumber_24 : decode cX10_takeNumber 24 = .ok (.iload_n 1, 1) := gdX10_takeNumber_0.2.2.2.2.2.2.2.2.1
theorem dX10_takeNumber_25 : decode cX10_takeNumber 25 = .ok (.if_icmp .le 9, 3) := gdX10_takeNumber_0.2.2.2.2.2.2.2.2.2.1
theorem dX10_takeNumber_34 : decode cX10_takeNumber 34 = .ok (.aload_n 0, 1) := gdX10_takeNumber_0.2.2.2.2.2.2.2.2.2.2.1
theorem dX10_takeNumber_35 : decode cX10_takeNumber 35 = .ok (.aload_n 0, 1) := gdX10_takeNumber_0.2.2.2.2.2.2.2.2.2.2.2
theorem gdX10_takeNumber_36 : decode cX10_takeNumber 36 = .ok (.getfield 16, 3) ∧ decode cX10_takeNumber 39 = .ok (.getfield 176, 3) ∧ decode cX10_takeNumber 42 = .ok (.putfield 134, 3) ∧ decode cX10_takeNumber 45 = .ok (.aload_n 0, 1) ∧ decode cX10_takeNumber 46 = .ok (.getfield 16, 3) ∧ decode cX10_takeNumber 49 = .ok (.invokevirtual 140, 3) ∧ decode cX10_takeNumber 52 = .ok (.iconst 1, 1) ∧ decode cX10_takeNumber 53 = .ok (.ireturn, 1) ∧ decode cX10_takeNumber 28 = .ok (.aload_n 0, 1) ∧ decode cX10_takeNumber 29 = .ok (.iconst 4, 1) ∧ decode cX10_takeNumber 30 = .ok (.invokevirtual 110, 3) ∧ decode cX10_takeNumber 33 = .ok (.ireturn, 1) := by decide +kernel
theorem dX10_takeNumber_36 : decode cX10_takeNumber 36 = .ok (.getfield 16, 3) := gdX10_takeNumber_36.1
theorem dX10_takeNumber_39 : decode cX10_takeNumber 39 = .ok (.getfield 176, 3) := gdX10_takeNumber_36.2.1
theorem dX10_takeNumber_42 : decode cX10_takeNumber 42 = .ok (.putfield 134, 3) := gdX10_takeNumber_36.2.2.1
theorem dX10_takeNumber_45 : decode cX10_takeNumber 45 = .ok (.aload_n 0, 1) := gdX10_takeNumber_36.2.2.2.1
theorem dX10_takeNumber_46 : decode cX10_takeNumber 46 = .ok (.getfield 16, 3) := gdX10_takeNumber_36.2.2.2.2.1
theorem dX10_takeNumber_49 : decode cX10_takeNumber 49 = .ok (.invokevirtual 140, 3) := gdX10_takeNumber_36.2.2.2.2.2.1
theorem dX10_takeNumber_52 : decode cX10_takeNumber 52 = .ok (.iconst 1, 1) := gdX10_takeNumber_36.2.2.2.2.2.2.1
theorem dX10_takeNumber_53 : decode cX10_takeNumber 53 = .ok (.ireturn, 1) := gdX10_takeNumber_36.2.2.2.2.2.2.2.1
theorem dX10_takeNumber_28 : decode cX10_takeNumber 28 = .ok (.aload_n 0, 1) := gdX10_takeNumber_36.2.2.2.2.2.2.2.2.1
theorem dX10_takeNumber_29 : decode cX10_takeNumber 29 = .ok (.iconst 4, 1) := gdX10_takeNumber_36.2.2.2.2.2.2.2.2.2.1
theorem dX10_takeNumber_30 : decode cX10_takeNumber 30 = .ok (.invokevirtual 110, 3) := gdX10_takeNumber_36.2.2.2.2.2.2.2.2.2.2.1
theorem dX10_takeNumber_33 : decode cX10_takeNumber 33 = .ok (.ireturn, 1) := gdX10_takeNumber_36.2.2.2.2.2.2.2.2.2.2.2
theorem gdX10_takeNumber_11 : decode cX10_takeNumber 11 = .ok (.aload_n 0, 1) ∧ decode cX10_takeNumber 12 = .ok (.iconst 2, 1) ∧ decode cX10_takeNumber 13 = .ok (.invokevirtual 110, 3) ∧ decode cX10_takeNumber 16 = .ok (.ireturn, 1) := by decide +kernel
theorem dX10_takeNumber_11 : decode cX10_takeNumber 11 = .ok (.aload_n 0, 1) := gdX10_takeNumber_11.1
theorem dX10_takeNumber_12 : decode cX10_takeNumber 12 = .ok (.iconst 2, 1) := gdX10_takeNumber_11.2.1
theorem dX10_takeNumber_13 : decode cX10_takeNumber 13 = .ok (.invokevirtual 110, 3) := gdX10_takeNumber_11.2.2.1
theorem dX10_takeNumber_16 : decode cX10_takeNumber 16 = .ok (.ireturn, 1) := gdX10_takeNumber_11.2.2.2
set_option maxHeartbeats 1000000 in
set_option maxRecDepth 100000 in
theorem s_takeNumber (l : Launch) (D : va_G) (cy : Nat → ClassId) (adK : Nat → Nat) (adV : Nat → Nat) (d0 : Nat) (d1 : Nat) (uh : Int32) (wt : Int32) (dt : Int32) (vv : Int32) (fq : Int32) (pq : Int32) (yh : Value) (yf : Value) (t0 : Nat) (t1 : Nat) (t2 : Nat) (tn : Nat) (ta : Nat) (ts : Nat) (tk : Nat) (tm : Int64) (tr : Int32) (fby : Nat → Int32) (fky : Nat → Int64) (ga : Nat) (mo : Nat) (htn : tn ≤ 1600) (hta : ta ≤ tn) (htk : tk ≤ 123) (hti : tkC fby tn ga ta ts tk tm tr) (hky : kyOK fky) (hmo : mo ≤ 999) : XMi l D (tyL cy) (EV adK adV) yX10_takeNumber cX10_takeNumber 2 (some .boolean) (rmk 7 0 0) [.ref d0, .int (nI mo)] [wO d0 10 [.ref t0, .ref d1, yh, yf, .int uh, .int wt, .int dt, .int vv, .int fq, .int pq], wO t0 9 [.ref t1, .ref t2, .int (nI tn), .int (nI ta), .int (nI ts), .int (nI tk), .long tm, .int tr], wI (cy 0) t1 1600 (fby), (t2, .inl (cy 2, 24, .inr (.inl (fky))))] (fun (r : Int32) (u : Nat × Nat × Nat × Int64 × Int32 × Int32 × Int32 × Int32 × Nat × Nat) => (u.1 ≤ tn) ∧ (u.2.2.1 ≤ 123) ∧ ((r = 1 ∧ (numS fby tn mo ga = .inr (num fby tn ga, fin fby tn ga)) ∧ (fq = u.2.2.2.2.2.1) ∧ (pq = u.2.2.2.2.2.2.1) ∧ (tkC fby tn (fin fby tn ga) u.1 u.2.1 u.2.2.1 u.2.2.2.1 u.2.2.2.2.1) ∧ (nI (num fby tn ga) = u.2.2.2.2.2.2.2.1) ∧ (num fby tn ga ≤ mo)) ∨ (r = 0 ∧ (numS fby tn mo ga = .inl (u.2.2.2.2.2.2.2.2.1, u.2.2.2.2.2.2.2.2.2)) ∧ (flt fby tn u.2.2.2.2.2.2.2.2.2 u.2.2.2.2.2.2.2.2.1 u.2.2.2.2.2.1 u.2.2.2.2.2.2.1)))) (fun (u : Nat × Nat × Nat × Int64 × Int32 × Int32 × Int32 × Int32 × Nat × Nat) => [wO d0 10 [.ref t0, .ref d1, yh, yf, .int uh, .int wt, .int dt, .int u.2.2.2.2.2.2.2.1, .int u.2.2.2.2.2.1, .int u.2.2.2.2.2.2.1], wO t0 9 [.ref t1, .ref t2, .int (nI tn), .int (nI u.1), .int (nI u.2.1), .int (nI u.2.2.1), .long u.2.2.2.1, .int u.2.2.2.2.1], wI (cy 0) t1 1600 (fby), (t2, .inl (cy 2, 24, .inr (.inl (fky))))]) := by
  refine XMi.start (by decide) (Nat.le_of_ble_eq_true rfl) ?_
  intro p e s m below meth c args A ls Q hat hQ
  obtain ⟨hx, hb, hr, hml, hown, hg, hlocks, hin, hK, hA, hP, hD, hS, hE, hl⟩ := hat
  have hown : s.vm.findClass RX10 = some m.cls := hown
  have hl : lv_has ls 2 [(0, .ref d0), (1, .int (nI mo))] := hl
  refine lv_aload_n hx hb dX10_takeNumber_0 rfl (lv_at hl 0 rfl) ?_
  refine va_get (D := D) (ci := 10) (v := .ref t0) (C := RX10) (T := TX10) (N := 10) hx hb hg i_X10 hown hK hP 0 rfl rfl 0 (by decide) (hg _ m_255) (fun _ h9 => h9) rfl dX10_takeNumber_1 ?_
  refine va_get (D := D) (ci := 9) (v := .int (nI tk)) (C := RX9) (T := TX9) (N := 8) hx hb hg i_X9 hown hK hP 1 rfl rfl 5 (by decide) (hg _ m_222) (fun _ h9 => h9) rfl dX10_takeNumber_4 ?_
  refine lv_iconst (v := 2) hx hb dX10_takeNumber_7 (by decide) ?_
  refine lv_icmp_eq (tgt := 17) hx hb dX10_takeNumber_8 (by decide) (fun c_1 => ?_) (fun c_1 => ?_)
  · have q_2 : tk = 2 := q_eq (a := tk) (b := 2) rfl rfl (by omega) (by omega) c_1
    have hk9 : knd fby tn ga = 2 := by have h9 := hti.2.2.1; omega
    have hn9 : tr = nI (num fby tn ga) := hti.2.2.2.2 (by omega)
    have hn8 := (num_le hk9).1
    subst hn9
    refine lv_aload_n hx hb dX10_takeNumber_17 rfl (lv_at hl 0 rfl) ?_
    refine va_get (D := D) (ci := 10) (v := .ref t0) (C := RX10) (T := TX10) (N := 10) hx hb hg i_X10 hown hK hP 0 rfl rfl 0 (by decide) (hg _ m_255) (fun _ h9 => h9) rfl dX10_takeNumber_18 ?_
    refine va_get (D := D) (ci := 9) (v := .int (nI (num fby tn ga))) (C := RX9) (T := TX9) (N := 8) hx hb hg i_X9 hown hK hP 1 rfl rfl 7 (by decide) (hg _ m_227) (fun _ h9 => h9) rfl dX10_takeNumber_21 ?_
    refine lv_iload_n hx hb dX10_takeNumber_24 rfl (lv_at hl 1 rfl) ?_
    refine lv_icmp_le (tgt := 34) hx hb dX10_takeNumber_25 (by decide) (fun c_3 => ?_) (fun c_3 => ?_)
    · have q_4 : (num fby tn ga) ≤ mo := q_le (a := (num fby tn ga)) (b := mo) rfl rfl (by omega) (by omega) c_3
      refine lv_aload_n hx hb dX10_takeNumber_34 rfl (lv_at hl 0 rfl) ?_
      refine lv_aload_n hx hb dX10_takeNumber_35 rfl (lv_at hl 0 rfl) ?_
      refine va_get (D := D) (ci := 10) (v := .ref t0) (C := RX10) (T := TX10) (N := 10) hx hb hg i_X10 hown hK hP 0 rfl rfl 0 (by decide) (hg _ m_255) (fun _ h9 => h9) rfl dX10_takeNumber_36 ?_
      refine va_get (D := D) (ci := 9) (v := .int (nI (num fby tn ga))) (C := RX9) (T := TX9) (N := 8) hx hb hg i_X9 hown hK hP 1 rfl rfl 7 (by decide) (hg _ m_227) (fun _ h9 => h9) rfl dX10_takeNumber_39 ?_
      refine va_put (D := D) (ci := 10) (v := .int (nI (num fby tn ga))) (ty := .int) (C := RX10) (T := TX10) (N := 10) hx hb hg i_X10 tyX10 tyX10_ok nmX10 hown hK hP hD hS 0 rfl rfl 7 (by decide) (hg _ m_262) (fun _ h9 => h9) rfl (by decide +kernel) rfl rfl (Nat.le_of_ble_eq_true rfl) dX10_takeNumber_42 (fun H locs hP9 hD9 hS9 => ?_)
      clear hP hD hS
      refine reW [wO d0 10 [.ref t0, .ref d1, yh, yf, .int uh, .int wt, .int dt, .int (nI (num fby tn ga)), .int fq, .int pq], wO t0 9 [.ref t1, .ref t2, .int (nI tn), .int (nI ta), .int (nI ts), .int (nI tk), .long tm, .int (nI (num fby tn ga))], wI (cy 0) t1 1600 (fby), (t2, .inl (cy 2, 24, .inr (.inl (fky))))] hP9 hD9 hS9 (fun hP hD hS => ?_)
      clear hP9 hD9 hS9
      refine lv_aload_n hx hb dX10_takeNumber_45 rfl (lv_at hl 0 rfl) ?_
      refine va_get (D := D) (ci := 10) (v := .ref t0) (C := RX10) (T := TX10) (N := 10) hx hb hg i_X10 hown hK hP 0 rfl rfl 0 (by decide) (hg _ m_255) (fun _ h9 => h9) rfl dX10_takeNumber_46 ?_
      refine x_callVv (q := (RX9, TX9, 8)) (ci := 9) (q0 := 0) (wr := [wO d0 10 [.ref t0, .ref d1, yh, yf, .int uh, .int wt, .int dt, .int (nI (num fby tn ga)), .int fq, .int pq]]) (rest := []) ⟨hx, hb, hml, hown, hg, hl.1⟩ k_X10_140 (s_next l D cy adK adV t0 t1 t2 tn ta ts tk tm (nI (num fby tn ga)) fby fky (fin fby tn ga) (by omega) (by omega) (hti.2.1) (hky)) EV_blind hK hP hD hS hA [1, 2, 3] [0] ⟨rfl, rfl, by decide +kernel, by decide +kernel, by decide +kernel⟩ rfl rfl (fun U hU hW => EV_pass hE hS (va_free hD hS hA [1, 2, 3] rfl) hU hW) dX10_takeNumber_49 rfl rfl (Nat.le_of_ble_eq_true rfl) ⟨Nat.le_of_ble_eq_true rfl, Nat.le_of_ble_eq_true rfl⟩ ⟨Nat.le_of_ble_eq_true rfl, Nat.le_of_ble_eq_true rfl⟩ (fun zu5 H locs hw5 hP9 hD9 hS9 => ?_)
      clear hP hD hS
      obtain ⟨ta2_6, ts2_7, tk2_8, tm2_9, tr2_10⟩ := zu5
      refine reW [wO d0 10 [.ref t0, .ref d1, yh, yf, .int uh, .int wt, .int dt, .int (nI (num fby tn ga)), .int fq, .int pq], wO t0 9 [.ref t1, .ref t2, .int (nI tn), .int (nI ta2_6), .int (nI ts2_7), .int (nI tk2_8), .long tm2_9, .int tr2_10], wI (cy 0) t1 1600 (fby), (t2, .inl (cy 2, 24, .inr (.inl (fky))))] hP9 hD9 hS9 (fun hP hD hS => ?_)
      clear hP9 hD9 hS9
      refine W.widen (k := 0) (n := 0) (Nat.le_of_ble_eq_true rfl) (Nat.le_of_ble_eq_true rfl) ?_
      replace hw5 : (ta2_6 ≤ tn) ∧ (tk2_8 ≤ 123) ∧ (tkC fby tn (fin fby tn ga) ta2_6 ts2_7 tk2_8 tm2_9 tr2_10) := hw5
      obtain ⟨f_11, f_12, f_13⟩ := hw5
      refine lv_iconst (v := 1) hx hb dX10_takeNumber_52 (by decide) ?_
      exact x_zret hQ hx hb hr hlocks hK hP hD hS rfl dX10_takeNumber_53 (ta2_6, ts2_7, tk2_8, tm2_9, tr2_10, fq, pq, nI (num fby tn ga), 0, 0) (⟨(show ta2_6 ≤ tn from by omega), (show tk2_8 ≤ 123 from by omega), (show ((1 : Int32) = 1 ∧ (numS fby tn mo ga = .inr (num fby tn ga, fin fby tn ga)) ∧ (fq = fq) ∧ (pq = pq) ∧ (tkC fby tn (fin fby tn ga) ta2_6 ts2_7 tk2_8 tm2_9 tr2_10) ∧ (nI (num fby tn ga) = (nI (num fby tn ga))) ∧ (num fby tn ga ≤ mo)) ∨ ((1 : Int32) = 0 ∧ (numS fby tn mo ga = .inl (0, 0)) ∧ (flt fby tn 0 0 fq pq)) from Or.inl ⟨rfl, ((if_pos (by have h9 := hti.2.2.1; omega)).trans (if_neg (by omega))), (rfl), (rfl), (f_13), (rfl), (by omega)⟩)⟩) [0, 1, 2, 3] (by decide +kernel) rfl (Nat.le_of_ble_eq_true rfl) (Nat.le_of_ble_eq_true rfl)
    · have q_4 : mo < (num fby tn ga) := q_nle (a := (num fby tn ga)) (b := mo) rfl rfl (by omega) (by omega) c_3
      refine lv_aload_n hx hb dX10_takeNumber_28 rfl (lv_at hl 0 rfl) ?_
      refine lv_iconst (v := 4) hx hb dX10_takeNumber_29 (by decide) ?_
      refine x_callVi (q := (RX10, TX10, 10)) (ci := 10) (q0 := 0) (wr := [wI (cy 0) t1 1600 (fby), (t2, .inl (cy 2, 24, .inr (.inl (fky))))]) (rest := []) ⟨hx, hb, hml, hown, hg, hl.1⟩ k_X10_110 (s_fail l D cy d0 d1 uh wt dt vv fq pq yh yf t0 t1 t2 tn ta ts tk tm (nI (num fby tn ga)) 4 (by omega)) E0_blind hK hP hD hS hA [0, 1] [2, 3] ⟨rfl, rfl, by decide +kernel, by decide +kernel, by decide +kernel⟩ rfl rfl (fun _ _ _ => trivial) dX10_takeNumber_30 rfl rfl (Nat.le_of_ble_eq_true rfl) ⟨Nat.le_of_ble_eq_true rfl, Nat.le_of_ble_eq_true rfl⟩ ⟨Nat.le_of_ble_eq_true rfl, Nat.le_of_ble_eq_true rfl⟩ (fun zr14 zu14 H locs hw14 hP9 hD9 hS9 => ?_)
      clear hP hD hS
      obtain ⟨fq2_15, pq2_16⟩ := zu14
      refine reW [wI (cy 0) t1 1600 (fby), (t2, .inl (cy 2, 24, .inr (.inl (fky)))), wO d0 10 [.ref t0, .ref d1, yh, yf, .int uh, .int wt, .int dt, .int vv, .int fq2_15, .int pq2_16], wO t0 9 [.ref t1, .ref t2, .int (nI tn), .int (nI ta), .int (nI ts), .int (nI tk), .long tm, .int (nI (num fby tn ga))]] hP9 hD9 hS9 (fun hP hD hS => ?_)
      clear hP9 hD9 hS9
      refine W.widen (k := 0) (n := 0) (Nat.le_of_ble_eq_true rfl) (Nat.le_of_ble_eq_true rfl) ?_
      replace hw14 : ((zr14 = 0 ∧ (fq2_15 = nI (if tk = 3 then 1 else 4)) ∧ (pq2_16 = nI ts))) := hw14
      have f_17 := hw14
      rcases f_17 with ⟨hz_20, a_18, a_19⟩
      subst hz_20
      exact x_zret hQ hx hb hr hlocks hK hP hD hS rfl dX10_takeNumber_33 (ta, ts, tk, tm, nI (num fby tn ga), fq2_15, pq2_16, vv, 4, ga) (⟨(show ta ≤ tn from by omega), (show tk ≤ 123 from by omega), (show ((0 : Int32) = 1 ∧ (numS fby tn mo ga = .inr (num fby tn ga, fin fby tn ga)) ∧ (fq = fq2_15) ∧ (pq = pq2_16) ∧ (tkC fby tn (fin fby tn ga) ta ts tk tm (nI (num fby tn ga))) ∧ (nI (num fby tn ga) = vv) ∧ (num fby tn ga ≤ mo)) ∨ ((0 : Int32) = 0 ∧ (numS fby tn mo ga = .inl (4, ga)) ∧ (flt fby tn ga 4 fq2_15 pq2_16)) from Or.inr (⟨rfl, ((if_pos (by have h9 := hti.2.2.1; omega)).trans (if_pos (by omega))), (flt_of hti a_18 a_19)⟩))⟩) [2, 3, 0, 1] (by decide +kernel) rfl (Nat.le_of_ble_eq_true rfl) (Nat.le_of_ble_eq_true rfl)
  · have q_2 : ¬ tk = 2 := q_ne (a := tk) (b := 2) rfl rfl (by omega) (by omega) c_1
    refine lv_aload_n hx hb dX10_takeNumber_11 rfl (lv_at hl 0 rfl) ?_
    refine lv_iconst (v := 2) hx hb dX10_takeNumber_12 (by decide) ?_
    refine x_callVi (q := (RX10, TX10, 10)) (ci := 10) (q0 := 0) (wr := [wI (cy 0) t1 1600 (fby), (t2, .inl (cy 2, 24, .inr (.inl (fky))))]) (rest := []) ⟨hx, hb, hml, hown, hg, hl.1⟩ k_X10_110 (s_fail l D cy d0 d1 uh wt dt vv fq pq yh yf t0 t1 t2 tn ta ts tk tm tr 2 (by omega)) E0_blind hK hP hD hS hA [0, 1] [2, 3] ⟨rfl, rfl, by decide +kernel, by decide +kernel, by decide +kernel⟩ rfl rfl (fun _ _ _ => trivial) dX10_takeNumber_13 rfl rfl (Nat.le_of_ble_eq_true rfl) ⟨Nat.le_of_ble_eq_true rfl, Nat.le_of_ble_eq_true rfl⟩ ⟨Nat.le_of_ble_eq_true rfl, Nat.le_of_ble_eq_true rfl⟩ (fun zr21 zu21 H locs hw21 hP9 hD9 hS9 => ?_)
    clear hP hD hS
    obtain ⟨fq2_22, pq2_23⟩ := zu21
    refine reW [wI (cy 0) t1 1600 (fby), (t2, .inl (cy 2, 24, .inr (.inl (fky)))), wO d0 10 [.ref t0, .ref d1, yh, yf, .int uh, .int wt, .int dt, .int vv, .int fq2_22, .int pq2_23], wO t0 9 [.ref t1, .ref t2, .int (nI tn), .int (nI ta), .int (nI ts), .int (nI tk), .long tm, .int tr]] hP9 hD9 hS9 (fun hP hD hS => ?_)
    clear hP9 hD9 hS9
    refine W.widen (k := 0) (n := 0) (Nat.le_of_ble_eq_true rfl) (Nat.le_of_ble_eq_true rfl) ?_
    replace hw21 : ((zr21 = 0 ∧ (fq2_22 = nI (if tk = 3 then 1 else 2)) ∧ (pq2_23 = nI ts))) := hw21
    have f_24 := hw21
    rcases f_24 with ⟨hz_27, a_25, a_26⟩
    subst hz_27
    exact x_zret hQ hx hb hr hlocks hK hP hD hS rfl dX10_takeNumber_16 (ta, ts, tk, tm, tr, fq2_22, pq2_23, vv, 2, ga) (⟨(show ta ≤ tn from by omega), (show tk ≤ 123 from by omega), (show ((0 : Int32) = 1 ∧ (numS fby tn mo ga = .inr (num fby tn ga, fin fby tn ga)) ∧ (fq = fq2_22) ∧ (pq = pq2_23) ∧ (tkC fby tn (fin fby tn ga) ta ts tk tm tr) ∧ (nI (num fby tn ga) = vv) ∧ (num fby tn ga ≤ mo)) ∨ ((0 : Int32) = 0 ∧ (numS fby tn mo ga = .inl (2, ga)) ∧ (flt fby tn ga 2 fq2_22 pq2_23)) from Or.inr (⟨rfl, (if_neg (by have h9 := hti.2.2.1; omega)), (flt_of hti a_25 a_26)⟩))⟩) [2, 3, 0, 1] (by decide +kernel) rfl (Nat.le_of_ble_eq_true rfl) (Nat.le_of_ble_eq_true rfl)
theorem upd_2 {f g : Nat → Int32} {i : Nat} {x y : Int32} (hi : i < 2 ^ 31) (e : upd f (nI i).toNatClampNeg x = g) : upd g (nI i).toNatClampNeg y = upd f i y := by
  rw [nI_clamp hi] at e ⊢
  subst e
  funext j
  show (if _ then _ else (if _ then _ else _)) = (if _ then _ else _)
  split
  · rfl
  · rfl
theorem upd_1 {f g : Nat → Int32} {i : Nat} {x : Int32} (hi : i < 2 ^ 31) (e : upd f (nI i).toNatClampNeg x = g) : g = upd f i x := by
  rw [nI_clamp hi] at e
  exact e.symm
theorem gdX10_takeOption_0 : decode cX10_takeOption 0 = .ok (.aload_n 2, 1) ∧ decode cX10_takeOption 1 = .ok (.iload_n 3, 1) ∧ decode cX10_takeOption 2 = .ok (.iconst 0, 1) ∧ decode cX10_takeOption 3 = .ok (.iastore, 1) ∧ decode cX10_takeOption 4 = .ok (.aload_n 0, 1) ∧ decode cX10_takeOption 5 = .ok (.getfield 16, 3) ∧ decode cX10_takeOption 8 = .ok (.getfield 55, 3) ∧ decode cX10_takeOption 11 = .ok (.iload_n 1, 1) ∧ decode cX10_takeOption 12 = .ok (.if_icmp .eq 5, 3) ∧ decode cX10_takeOption 17 = .ok (.aload_n 0, 1) ∧ decode cX10_takeOption 18 = .ok (.getfield 16, 3) ∧ decode cX10_takeOption 21 = .ok (.invokevirtual 140, 3) := by decide +kernel
theorem dX10_takeOption_0 : decode cX10_takeOption 0 = .ok (.aload_n 2, 1) := gdX10_takeOption_0.1
theorem dX10_takeOption_1 : decode cX10_takeOption 1 = .ok (.iload_n 3, 1) := gdX10_takeOption_0.2.1
theorem dX10_takeOption_2 : decode cX10_takeOption 2 = .ok (.iconst 0, 1) := gdX10_takeOption_0.2.2.1
theorem dX10_takeOption_3 : decode cX10_takeOption 3 = .ok (.iastore, 1) := gdX10_takeOption_0.2.2.2.1
theorem dX10_takeOption_4 : decode cX10_takeOption 4 = .ok (.aload_n 0, 1) := gdX10_takeOption_0.2.2.2.2.1
theorem dX10_takeOption_5 : decode cX10_takeOption 5 = .ok (.getfield 16, 3) := gdX10_takeOption_0.2.2.2.2.2.1
theorem dX10_takeOption_8 : decode cX10_takeOption 8 = .ok (.getfield 55, 3) := gdX10_takeOption_0.2.2.2.2.2.2.1
theorem dX10_takeOption_11 : decode cX10_takeOption 11 = .ok (.iload_n 1, 1) := gdX10_takeOption_0.2.2.2.2.2.2.2.1
theorem dX10_takeOption_12 : decode cX10_takeOption 12 = .ok (.if_icmp .eq 5, 3) := gdX10_takeOption_0.2.2.2.2.2.2.2.2.1
theorem dX10_takeOption_17 : decode cX10_takeOption 17 = .ok (.aload_n 0, 1) := gdX10_takeOption_0.2.2.2.2.2.2.2.2.2.1
theorem dX10_takeOption_18 : decode cX10_takeOption 18 = .ok (.getfield 16, 3) := gdX10_takeOption_0.2.2.2.2.2.2.2.2.2.2.1
theorem dX10_takeOption_21 : decode cX10_takeOption 21 = .ok (.invokevirtual 140, 3) := gdX10_takeOption_0.2.2.2.2.2.2.2.2.2.2.2
theorem gdX10_takeOption_24 : decode cX10_takeOption 24 = .ok (.aload_n 0, 1) ∧ decode cX10_takeOption 25 = .ok (.bipush 9, 2) ∧ decode cX10_takeOption 27 = .ok (.invokevirtual 131, 3) := by decide +kernel
theorem dX10_takeOption_24 : decode cX10_takeOption 24 = .ok (.aload_n 0, 1) := gdX10_takeOption_24.1
theorem dX10_takeOption_25 : decode cX10_takeOption 25 = .ok (.bipush 9, 2) := gdX10_takeOption_24.2.1
theorem dX10_takeOption_27 : decode cX10_takeOption 27 = .ok (.invokevirtual 131, 3) := gdX10_takeOption_24.2.2
theorem k_X10_131 : xV RX10 RX10 131 yX10_takeNumber cX10_takeNumber 2 (some .boolean) 1 := ⟨⟨m_835, m_837, m_11, m_136, m_838⟩, rfl, by decide, by decide, by decide +kernel⟩
theorem gdX10_takeOption_30 : decode cX10_takeOption 30 = .ok (.ifCond .ne 5, 3) ∧ decode cX10_takeOption 35 = .ok (.aload_n 2, 1) ∧ decode cX10_takeOption 36 = .ok (.iload_n 3, 1) ∧ decode cX10_takeOption 37 = .ok (.aload_n 0, 1) ∧ decode cX10_takeOption 38 = .ok (.getfield 134, 3) ∧ decode cX10_takeOption 41 = .ok (.iastore, 1) ∧ decode cX10_takeOption 42 = .ok (.iconst 1, 1) ∧ decode cX10_takeOption 43 = .ok (.ireturn, 1) ∧ decode cX10_takeOption 33 = .ok (.iconst 0, 1) ∧ decode cX10_takeOption 34 = .ok (.ireturn, 1) ∧ decode cX10_takeOption 15 = .ok (.iconst 1, 1) ∧ decode cX10_takeOption 16 = .ok (.ireturn, 1) := by decide +kernel
theorem dX10_takeOption_30 : decode cX10_takeOption 30 = .ok (.ifCond .ne 5, 3) := gdX10_takeOption_30.1
theorem dX10_takeOption_35 : decode cX10_takeOption 35 = .ok (.aload_n 2, 1) := gdX10_takeOption_30.2.1
theorem dX10_takeOption_36 : decode cX10_takeOption 36 = .ok (.iload_n 3, 1) := gdX10_takeOption_30.2.2.1
theorem dX10_takeOption_37 : decode cX10_takeOption 37 = .ok (.aload_n 0, 1) := gdX10_takeOption_30.2.2.2.1
theorem dX10_takeOption_38 : decode cX10_takeOption 38 = .ok (.getfield 134, 3) := gdX10_takeOption_30.2.2.2.2.1
theorem dX10_takeOption_41 : decode cX10_takeOption 41 = .ok (.iastore, 1) := gdX10_takeOption_30.2.2.2.2.2.1
theorem dX10_takeOption_42 : decode cX10_takeOption 42 = .ok (.iconst 1, 1) := gdX10_takeOption_30.2.2.2.2.2.2.1
theorem dX10_takeOption_43 : decode cX10_takeOption 43 = .ok (.ireturn, 1) := gdX10_takeOption_30.2.2.2.2.2.2.2.1
theorem dX10_takeOption_33 : decode cX10_takeOption 33 = .ok (.iconst 0, 1) := gdX10_takeOption_30.2.2.2.2.2.2.2.2.1
theorem dX10_takeOption_34 : decode cX10_takeOption 34 = .ok (.ireturn, 1) := gdX10_takeOption_30.2.2.2.2.2.2.2.2.2.1
theorem dX10_takeOption_15 : decode cX10_takeOption 15 = .ok (.iconst 1, 1) := gdX10_takeOption_30.2.2.2.2.2.2.2.2.2.2.1
theorem dX10_takeOption_16 : decode cX10_takeOption 16 = .ok (.ireturn, 1) := gdX10_takeOption_30.2.2.2.2.2.2.2.2.2.2.2
set_option maxHeartbeats 1000000 in
set_option maxRecDepth 100000 in
theorem s_takeOption8 (l : Launch) (D : va_G) (cy : Nat → ClassId) (adK : Nat → Nat) (adV : Nat → Nat) (d0 : Nat) (d1 : Nat) (uh : Int32) (wt : Int32) (dt : Int32) (vv : Int32) (fq : Int32) (pq : Int32) (yh : Value) (yf : Value) (t0 : Nat) (t1 : Nat) (t2 : Nat) (tn : Nat) (ta : Nat) (ts : Nat) (tk : Nat) (tm : Int64) (tr : Int32) (fby : Nat → Int32) (fky : Nat → Int64) (ga : Nat) (am : Nat) (fam : Nat → Int32) (ki : Nat) (ix : Nat) (htn : tn ≤ 1600) (hta : ta ≤ tn) (htk : tk ≤ 123) (hti : tkC fby tn ga ta ts tk tm tr) (hky : kyOK fky) (hki : ki ≤ 123) (hix : ix < 8) (hga : ga ≤ tn) : XMi l D (tyL cy) (EV adK adV) yX10_takeOption cX10_takeOption 4 (some .boolean) (rmk 8 0 0) [.ref d0, .int (nI ki), .ref am, .int (nI ix)] [wO d0 10 [.ref t0, .ref d1, yh, yf, .int uh, .int wt, .int dt, .int vv, .int fq, .int pq], wO t0 9 [.ref t1, .ref t2, .int (nI tn), .int (nI ta), .int (nI ts), .int (nI tk), .long tm, .int tr], wI (cy 0) t1 1600 (fby), (t2, .inl (cy 2, 24, .inr (.inl (fky)))), wI (cy 1) am 8 (fam)] (fun (r : Int32) (u : Nat × Nat × Nat × Int64 × Int32 × Int32 × Int32 × Int32 × (Nat → Int32) × Nat × Nat × Nat × Nat) => (u.1 ≤ tn) ∧ (u.2.2.1 ≤ 123) ∧ ((r = 1 ∧ (optS fby tn ki ga = .inr (u.2.2.2.2.2.2.2.2.2.1, u.2.2.2.2.2.2.2.2.2.2.1)) ∧ (fq = u.2.2.2.2.2.1) ∧ (pq = u.2.2.2.2.2.2.1) ∧ (tkC fby tn (u.2.2.2.2.2.2.2.2.2.2.1) u.1 u.2.1 u.2.2.1 u.2.2.2.1 u.2.2.2.2.1) ∧ (u.2.2.2.2.2.2.2.2.1 = upd fam ix (nI u.2.2.2.2.2.2.2.2.2.1)) ∧ (ga ≤ u.2.2.2.2.2.2.2.2.2.2.1 ∧ u.2.2.2.2.2.2.2.2.2.2.1 ≤ tn)) ∨ (r = 0 ∧ (optS fby tn ki ga = .inl (u.2.2.2.2.2.2.2.2.2.2.2.1, u.2.2.2.2.2.2.2.2.2.2.2.2)) ∧ (flt fby tn u.2.2.2.2.2.2.2.2.2.2.2.2 u.2.2.2.2.2.2.2.2.2.2.2.1 u.2.2.2.2.2.1 u.2.2.2.2.2.2.1)))) (fun (u : Nat × Nat × Nat × Int64 × Int32 × Int32 × Int32 × Int32 × (Nat → Int32) × Nat × Nat × Nat × Nat) => [wO d0 10 [.ref t0, .ref d1, yh, yf, .int uh, .int wt, .int dt, .int u.2.2.2.2.2.2.2.1, .int u.2.2.2.2.2.1, .int u.2.2.2.2.2.2.1], wO t0 9 [.ref t1, .ref t2, .int (nI tn), .int (nI u.1), .int (nI u.2.1), .int (nI u.2.2.1), .long u.2.2.2.1, .int u.2.2.2.2.1], wI (cy 0) t1 1600 (fby), (t2, .inl (cy 2, 24, .inr (.inl (fky)))), wI (cy 1) am 8 (u.2.2.2.2.2.2.2.2.1)]) := by
  refine XMi.start (by decide) (Nat.le_of_ble_eq_true rfl) ?_
  intro p e s m below meth c args A ls Q hat hQ
  obtain ⟨hx, hb, hr, hml, hown, hg, hlocks, hin, hK, hA, hP, hD, hS, hE, hl⟩ := hat
  have hown : s.vm.findClass RX10 = some m.cls := hown
  have hl : lv_has ls 4 [(0, .ref d0), (1, .int (nI ki)), (2, .ref am), (3, .int (nI ix))] := hl
  refine lv_aload_n hx hb dX10_takeOption_0 rfl (lv_at hl 2 rfl) ?_
  refine lv_iload_n hx hb dX10_takeOption_1 rfl (lv_at hl 3 rfl) ?_
  refine lv_iconst (v := 0) hx hb dX10_takeOption_2 (by decide) ?_
  refine va_iast hx hb hK hP hD hS 4 1 rfl rfl (vp_in_nI (by omega) (by decide)) dX10_takeOption_3 (fun H locs hP9 hD9 hS9 => ?_)
  clear hP hD hS
  obtain ⟨g_1, eg_1⟩ : ∃ y, upd fam (nI ix : Int32).toNatClampNeg 0 = y := ⟨_, rfl⟩
  rw [eg_1] at hP9 hD9
  refine reW [wO d0 10 [.ref t0, .ref d1, yh, yf, .int uh, .int wt, .int dt, .int vv, .int fq, .int pq], wO t0 9 [.ref t1, .ref t2, .int (nI tn), .int (nI ta), .int (nI ts), .int (nI tk), .long tm, .int tr], wI (cy 0) t1 1600 (fby), (t2, .inl (cy 2, 24, .inr (.inl (fky)))), wI (cy 1) am 8 (g_1)] hP9 hD9 hS9 (fun hP hD hS => ?_)
  clear hP9 hD9 hS9
  refine lv_aload_n hx hb dX10_takeOption_4 rfl (lv_at hl 0 rfl) ?_
  refine va_get (D := D) (ci := 10) (v := .ref t0) (C := RX10) (T := TX10) (N := 10) hx hb hg i_X10 hown hK hP 0 rfl rfl 0 (by decide) (hg _ m_255) (fun _ h9 => h9) rfl dX10_takeOption_5 ?_
  refine va_get (D := D) (ci := 9) (v := .int (nI tk)) (C := RX9) (T := TX9) (N := 8) hx hb hg i_X9 hown hK hP 1 rfl rfl 5 (by decide) (hg _ m_222) (fun _ h9 => h9) rfl dX10_takeOption_8 ?_
  refine lv_iload_n hx hb dX10_takeOption_11 rfl (lv_at hl 1 rfl) ?_
  refine lv_icmp_eq (tgt := 17) hx hb dX10_takeOption_12 (by decide) (fun c_2 => ?_) (fun c_2 => ?_)
  · have q_3 : tk = ki := q_eq (a := tk) (b := ki) rfl rfl (by omega) (by omega) c_2
    refine lv_aload_n hx hb dX10_takeOption_17 rfl (lv_at hl 0 rfl) ?_
    refine va_get (D := D) (ci := 10) (v := .ref t0) (C := RX10) (T := TX10) (N := 10) hx hb hg i_X10 hown hK hP 0 rfl rfl 0 (by decide) (hg _ m_255) (fun _ h9 => h9) rfl dX10_takeOption_18 ?_
    refine x_callVv (q := (RX9, TX9, 8)) (ci := 9) (q0 := 0) (wr := [wO d0 10 [.ref t0, .ref d1, yh, yf, .int uh, .int wt, .int dt, .int vv, .int fq, .int pq], wI (cy 1) am 8 (g_1)]) (rest := []) ⟨hx, hb, hml, hown, hg, hl.1⟩ k_X10_140 (s_next l D cy adK adV t0 t1 t2 tn ta ts tk tm tr fby fky (fin fby tn ga) (by omega) (by omega) (hti.2.1) (hky)) EV_blind hK hP hD hS hA [1, 2, 3] [0, 4] ⟨rfl, rfl, by decide +kernel, by decide +kernel, by decide +kernel⟩ rfl rfl (fun U hU hW => EV_pass hE hS (va_free hD hS hA [1, 2, 3] rfl) hU hW) dX10_takeOption_21 rfl rfl (Nat.le_of_ble_eq_true rfl) ⟨Nat.le_of_ble_eq_true rfl, Nat.le_of_ble_eq_true rfl⟩ ⟨Nat.le_of_ble_eq_true rfl, Nat.le_of_ble_eq_true rfl⟩ (fun zu4 H locs hw4 hP9 hD9 hS9 => ?_)
    clear hP hD hS
    obtain ⟨ta2_5, ts2_6, tk2_7, tm2_8, tr2_9⟩ := zu4
    refine reW [wO d0 10 [.ref t0, .ref d1, yh, yf, .int uh, .int wt, .int dt, .int vv, .int fq, .int pq], wI (cy 1) am 8 (g_1), wO t0 9 [.ref t1, .ref t2, .int (nI tn), .int (nI ta2_5), .int (nI ts2_6), .int (nI tk2_7), .long tm2_8, .int tr2_9], wI (cy 0) t1 1600 (fby), (t2, .inl (cy 2, 24, .inr (.inl (fky))))] hP9 hD9 hS9 (fun hP hD hS => ?_)
    clear hP9 hD9 hS9
    refine W.widen (k := 0) (n := 0) (Nat.le_of_ble_eq_true rfl) (Nat.le_of_ble_eq_true rfl) ?_
    replace hw4 : (ta2_5 ≤ tn) ∧ (tk2_7 ≤ 123) ∧ (tkC fby tn (fin fby tn ga) ta2_5 ts2_6 tk2_7 tm2_8 tr2_9) := hw4
    obtain ⟨f_10, f_11, f_12⟩ := hw4
    refine lv_aload_n hx hb dX10_takeOption_24 rfl (lv_at hl 0 rfl) ?_
    refine lv_bipush (v := 9) hx hb dX10_takeOption_25 (by decide) ?_
    refine x_callVi (q := (RX10, TX10, 10)) (ci := 10) (q0 := 0) (wr := [wI (cy 1) am 8 (g_1)]) (rest := []) ⟨hx, hb, hml, hown, hg, hl.1⟩ k_X10_131 (s_takeNumber l D cy adK adV d0 d1 uh wt dt vv fq pq yh yf t0 t1 t2 tn ta2_5 ts2_6 tk2_7 tm2_8 tr2_9 fby fky (fin fby tn ga) 9 (by omega) (by omega) (by omega) (f_12) (hky) (by omega)) EV_blind hK hP hD hS hA [0, 2, 3, 4] [1] ⟨rfl, rfl, by decide +kernel, by decide +kernel, by decide +kernel⟩ rfl rfl (fun U hU hW => EV_pass hE hS (va_free hD hS hA [0, 2, 3, 4] rfl) hU hW) dX10_takeOption_27 rfl rfl (Nat.le_of_ble_eq_true rfl) ⟨Nat.le_of_ble_eq_true rfl, Nat.le_of_ble_eq_true rfl⟩ ⟨Nat.le_of_ble_eq_true rfl, Nat.le_of_ble_eq_true rfl⟩ (fun zr13 zu13 H locs hw13 hP9 hD9 hS9 => ?_)
    clear hP hD hS
    obtain ⟨ta2_14, ts2_15, tk2_16, tm2_17, tr2_18, fq2_19, pq2_20, vv2_21, co9_22, b9_23⟩ := zu13
    refine reW [wI (cy 1) am 8 (g_1), wO d0 10 [.ref t0, .ref d1, yh, yf, .int uh, .int wt, .int dt, .int vv2_21, .int fq2_19, .int pq2_20], wO t0 9 [.ref t1, .ref t2, .int (nI tn), .int (nI ta2_14), .int (nI ts2_15), .int (nI tk2_16), .long tm2_17, .int tr2_18], wI (cy 0) t1 1600 (fby), (t2, .inl (cy 2, 24, .inr (.inl (fky))))] hP9 hD9 hS9 (fun hP hD hS => ?_)
    clear hP9 hD9 hS9
    refine W.widen (k := 0) (n := 0) (Nat.le_of_ble_eq_true rfl) (Nat.le_of_ble_eq_true rfl) ?_
    replace hw13 : (ta2_14 ≤ tn) ∧ (tk2_16 ≤ 123) ∧ ((zr13 = 1 ∧ (numS fby tn 9 (fin fby tn ga) = .inr (num fby tn (fin fby tn ga), fin fby tn (fin fby tn ga))) ∧ (fq = fq2_19) ∧ (pq = pq2_20) ∧ (tkC fby tn (fin fby tn (fin fby tn ga)) ta2_14 ts2_15 tk2_16 tm2_17 tr2_18) ∧ (nI (num fby tn (fin fby tn ga)) = vv2_21) ∧ (num fby tn (fin fby tn ga) ≤ 9)) ∨ (zr13 = 0 ∧ (numS fby tn 9 (fin fby tn ga) = .inl (co9_22, b9_23)) ∧ (flt fby tn b9_23 co9_22 fq2_19 pq2_20))) := hw13
    obtain ⟨f_24, f_25, f_26⟩ := hw13
    rcases f_26 with ⟨hz_33, a_27, a_28, a_29, a_30, a_31, a_32⟩ | ⟨hz_36, a_34, a_35⟩
    · subst hz_33
      subst a_28
      subst a_29
      subst a_31
      refine lv_if_ne (tgt := 35) hx hb dX10_takeOption_30 (by decide) (fun _ => ?_) (fun h => absurd h (by decide))
      refine lv_aload_n hx hb dX10_takeOption_35 rfl (lv_at hl 2 rfl) ?_
      refine lv_iload_n hx hb dX10_takeOption_36 rfl (lv_at hl 3 rfl) ?_
      refine lv_aload_n hx hb dX10_takeOption_37 rfl (lv_at hl 0 rfl) ?_
      refine va_get (D := D) (ci := 10) (v := .int (nI (num fby tn (fin fby tn ga)))) (C := RX10) (T := TX10) (N := 10) hx hb hg i_X10 hown hK hP 1 rfl rfl 7 (by decide) (hg _ m_262) (fun _ h9 => h9) rfl dX10_takeOption_38 ?_
      refine va_iast hx hb hK hP hD hS 0 1 rfl rfl (vp_in_nI (by omega) (by decide)) dX10_takeOption_41 (fun H locs hP9 hD9 hS9 => ?_)
      clear hP hD hS
      obtain ⟨g_37, eg_37⟩ : ∃ y, upd g_1 (nI ix : Int32).toNatClampNeg (nI (num fby tn (fin fby tn ga))) = y := ⟨_, rfl⟩
      rw [eg_37] at hP9 hD9
      refine reW [wI (cy 1) am 8 (g_37), wO d0 10 [.ref t0, .ref d1, yh, yf, .int uh, .int wt, .int dt, .int (nI (num fby tn (fin fby tn ga))), .int fq, .int pq], wO t0 9 [.ref t1, .ref t2, .int (nI tn), .int (nI ta2_14), .int (nI ts2_15), .int (nI tk2_16), .long tm2_17, .int tr2_18], wI (cy 0) t1 1600 (fby), (t2, .inl (cy 2, 24, .inr (.inl (fky))))] hP9 hD9 hS9 (fun hP hD hS => ?_)
      clear hP9 hD9 hS9
      refine lv_iconst (v := 1) hx hb dX10_takeOption_42 (by decide) ?_
      exact x_zret hQ hx hb hr hlocks hK hP hD hS rfl dX10_takeOption_43 (ta2_14, ts2_15, tk2_16, tm2_17, tr2_18, fq, pq, nI (num fby tn (fin fby tn ga)), g_37, num fby tn (fin fby tn ga), fin fby tn (fin fby tn ga), 0, 0) (⟨(show ta2_14 ≤ tn from by omega), (show tk2_16 ≤ 123 from by omega), (show ((1 : Int32) = 1 ∧ (optS fby tn ki ga = .inr ((num fby tn (fin fby tn ga)), (fin fby tn (fin fby tn ga)))) ∧ (fq = fq) ∧ (pq = pq) ∧ (tkC fby tn ((fin fby tn (fin fby tn ga))) ta2_14 ts2_15 tk2_16 tm2_17 tr2_18) ∧ (g_37 = upd fam ix (nI (num fby tn (fin fby tn ga)))) ∧ (ga ≤ (fin fby tn (fin fby tn ga)) ∧ (fin fby tn (fin fby tn ga)) ≤ tn)) ∨ ((1 : Int32) = 0 ∧ (optS fby tn ki ga = .inl (0, 0)) ∧ (flt fby tn 0 0 fq pq)) from Or.inl ⟨rfl, ((if_pos (by have h9 := hti.2.2.1; omega)).trans (a_27)), (rfl), (rfl), (a_30), ((eg_37.symm).trans (upd_2 (by omega) eg_1)), (⟨Nat.le_trans (fin_ge _ _ _) (fin_ge _ _ _), fin_le (fin_le hga)⟩)⟩)⟩) [1, 2, 3, 4, 0] (by decide +kernel) rfl (Nat.le_of_ble_eq_true rfl) (Nat.le_of_ble_eq_true rfl)
    · subst hz_36
      refine lv_if_ne (tgt := 35) hx hb dX10_takeOption_30 (by decide) (fun h => absurd (by decide) h) (fun _ => ?_)
      refine lv_iconst (v := 0) hx hb dX10_takeOption_33 (by decide) ?_
      exact x_zret hQ hx hb hr hlocks hK hP hD hS rfl dX10_takeOption_34 (ta2_14, ts2_15, tk2_16, tm2_17, tr2_18, fq2_19, pq2_20, vv2_21, g_1, 0, 0, co9_22, b9_23) (⟨(show ta2_14 ≤ tn from by omega), (show tk2_16 ≤ 123 from by omega), (show ((0 : Int32) = 1 ∧ (optS fby tn ki ga = .inr (0, 0)) ∧ (fq = fq2_19) ∧ (pq = pq2_20) ∧ (tkC fby tn (0) ta2_14 ts2_15 tk2_16 tm2_17 tr2_18) ∧ (g_1 = upd fam ix (nI 0)) ∧ (ga ≤ 0 ∧ 0 ≤ tn)) ∨ ((0 : Int32) = 0 ∧ (optS fby tn ki ga = .inl (co9_22, b9_23)) ∧ (flt fby tn b9_23 co9_22 fq2_19 pq2_20)) from Or.inr (⟨rfl, ((if_pos (by have h9 := hti.2.2.1; omega)).trans (a_34)), (a_35)⟩))⟩) [1, 2, 3, 4, 0] (by decide +kernel) rfl (Nat.le_of_ble_eq_true rfl) (Nat.le_of_ble_eq_true rfl)
  · have q_3 : ¬ tk = ki := q_ne (a := tk) (b := ki) rfl rfl (by omega) (by omega) c_2
    refine lv_iconst (v := 1) hx hb dX10_takeOption_15 (by decide) ?_
    exact x_zret hQ hx hb hr hlocks hK hP hD hS rfl dX10_takeOption_16 (ta, ts, tk, tm, tr, fq, pq, vv, g_1, 0, ga, 0, 0) (⟨(show ta ≤ tn from by omega), (show tk ≤ 123 from by omega), (show ((1 : Int32) = 1 ∧ (optS fby tn ki ga = .inr (0, ga)) ∧ (fq = fq) ∧ (pq = pq) ∧ (tkC fby tn (ga) ta ts tk tm tr) ∧ (g_1 = upd fam ix (nI 0)) ∧ (ga ≤ ga ∧ ga ≤ tn)) ∨ ((1 : Int32) = 0 ∧ (optS fby tn ki ga = .inl (0, 0)) ∧ (flt fby tn 0 0 fq pq)) from Or.inl ⟨rfl, (if_neg (by have h9 := hti.2.2.1; omega)), (rfl), (rfl), (hti), (upd_1 (by omega) eg_1), (⟨Nat.le_refl _, hga⟩)⟩)⟩) [0, 1, 2, 3, 4] (by decide +kernel) rfl (Nat.le_of_ble_eq_true rfl) (Nat.le_of_ble_eq_true rfl)
set_option maxHeartbeats 1000000 in
set_option maxRecDepth 100000 in
theorem s_takeOption4 (l : Launch) (D : va_G) (cy : Nat → ClassId) (adK : Nat → Nat) (adV : Nat → Nat) (d0 : Nat) (d1 : Nat) (uh : Int32) (wt : Int32) (dt : Int32) (vv : Int32) (fq : Int32) (pq : Int32) (yh : Value) (yf : Value) (t0 : Nat) (t1 : Nat) (t2 : Nat) (tn : Nat) (ta : Nat) (ts : Nat) (tk : Nat) (tm : Int64) (tr : Int32) (fby : Nat → Int32) (fky : Nat → Int64) (ga : Nat) (am : Nat) (fam : Nat → Int32) (ki : Nat) (ix : Nat) (htn : tn ≤ 1600) (hta : ta ≤ tn) (htk : tk ≤ 123) (hti : tkC fby tn ga ta ts tk tm tr) (hky : kyOK fky) (hki : ki ≤ 123) (hix : ix < 4) (hga : ga ≤ tn) : XMi l D (tyL cy) (EV adK adV) yX10_takeOption cX10_takeOption 4 (some .boolean) (rmk 8 0 0) [.ref d0, .int (nI ki), .ref am, .int (nI ix)] [wO d0 10 [.ref t0, .ref d1, yh, yf, .int uh, .int wt, .int dt, .int vv, .int fq, .int pq], wO t0 9 [.ref t1, .ref t2, .int (nI tn), .int (nI ta), .int (nI ts), .int (nI tk), .long tm, .int tr], wI (cy 0) t1 1600 (fby), (t2, .inl (cy 2, 24, .inr (.inl (fky)))), wI (cy 1) am 4 (fam)] (fun (r : Int32) (u : Nat × Nat × Nat × Int64 × Int32 × Int32 × Int32 × Int32 × (Nat → Int32) × Nat × Nat × Nat × Nat) => (u.1 ≤ tn) ∧ (u.2.2.1 ≤ 123) ∧ ((r = 1 ∧ (optS fby tn ki ga = .inr (u.2.2.2.2.2.2.2.2.2.1, u.2.2.2.2.2.2.2.2.2.2.1)) ∧ (fq = u.2.2.2.2.2.1) ∧ (pq = u.2.2.2.2.2.2.1) ∧ (tkC fby tn (u.2.2.2.2.2.2.2.2.2.2.1) u.1 u.2.1 u.2.2.1 u.2.2.2.1 u.2.2.2.2.1) ∧ (u.2.2.2.2.2.2.2.2.1 = upd fam ix (nI u.2.2.2.2.2.2.2.2.2.1)) ∧ (ga ≤ u.2.2.2.2.2.2.2.2.2.2.1 ∧ u.2.2.2.2.2.2.2.2.2.2.1 ≤ tn)) ∨ (r = 0 ∧ (optS fby tn ki ga = .inl (u.2.2.2.2.2.2.2.2.2.2.2.1, u.2.2.2.2.2.2.2.2.2.2.2.2)) ∧ (flt fby tn u.2.2.2.2.2.2.2.2.2.2.2.2 u.2.2.2.2.2.2.2.2.2.2.2.1 u.2.2.2.2.2.1 u.2.2.2.2.2.2.1)))) (fun (u : Nat × Nat × Nat × Int64 × Int32 × Int32 × Int32 × Int32 × (Nat → Int32) × Nat × Nat × Nat × Nat) => [wO d0 10 [.ref t0, .ref d1, yh, yf, .int uh, .int wt, .int dt, .int u.2.2.2.2.2.2.2.1, .int u.2.2.2.2.2.1, .int u.2.2.2.2.2.2.1], wO t0 9 [.ref t1, .ref t2, .int (nI tn), .int (nI u.1), .int (nI u.2.1), .int (nI u.2.2.1), .long u.2.2.2.1, .int u.2.2.2.2.1], wI (cy 0) t1 1600 (fby), (t2, .inl (cy 2, 24, .inr (.inl (fky)))), wI (cy 1) am 4 (u.2.2.2.2.2.2.2.2.1)]) := by
  refine XMi.start (by decide) (Nat.le_of_ble_eq_true rfl) ?_
  intro p e s m below meth c args A ls Q hat hQ
  obtain ⟨hx, hb, hr, hml, hown, hg, hlocks, hin, hK, hA, hP, hD, hS, hE, hl⟩ := hat
  have hown : s.vm.findClass RX10 = some m.cls := hown
  have hl : lv_has ls 4 [(0, .ref d0), (1, .int (nI ki)), (2, .ref am), (3, .int (nI ix))] := hl
  refine lv_aload_n hx hb dX10_takeOption_0 rfl (lv_at hl 2 rfl) ?_
  refine lv_iload_n hx hb dX10_takeOption_1 rfl (lv_at hl 3 rfl) ?_
  refine lv_iconst (v := 0) hx hb dX10_takeOption_2 (by decide) ?_
  refine va_iast hx hb hK hP hD hS 4 1 rfl rfl (vp_in_nI (by omega) (by decide)) dX10_takeOption_3 (fun H locs hP9 hD9 hS9 => ?_)
  clear hP hD hS
  obtain ⟨g_1, eg_1⟩ : ∃ y, upd fam (nI ix : Int32).toNatClampNeg 0 = y := ⟨_, rfl⟩
  rw [eg_1] at hP9 hD9
  refine reW [wO d0 10 [.ref t0, .ref d1, yh, yf, .int uh, .int wt, .int dt, .int vv, .int fq, .int pq], wO t0 9 [.ref t1, .ref t2, .int (nI tn), .int (nI ta), .int (nI ts), .int (nI tk), .long tm, .int tr], wI (cy 0) t1 1600 (fby), (t2, .inl (cy 2, 24, .inr (.inl (fky)))), wI (cy 1) am 4 (g_1)] hP9 hD9 hS9 (fun hP hD hS => ?_)
  clear hP9 hD9 hS9
  refine lv_aload_n hx hb dX10_takeOption_4 rfl (lv_at hl 0 rfl) ?_
  refine va_get (D := D) (ci := 10) (v := .ref t0) (C := RX10) (T := TX10) (N := 10) hx hb hg i_X10 hown hK hP 0 rfl rfl 0 (by decide) (hg _ m_255) (fun _ h9 => h9) rfl dX10_takeOption_5 ?_
  refine va_get (D := D) (ci := 9) (v := .int (nI tk)) (C := RX9) (T := TX9) (N := 8) hx hb hg i_X9 hown hK hP 1 rfl rfl 5 (by decide) (hg _ m_222) (fun _ h9 => h9) rfl dX10_takeOption_8 ?_
  refine lv_iload_n hx hb dX10_takeOption_11 rfl (lv_at hl 1 rfl) ?_
  refine lv_icmp_eq (tgt := 17) hx hb dX10_takeOption_12 (by decide) (fun c_2 => ?_) (fun c_2 => ?_)
  · have q_3 : tk = ki := q_eq (a := tk) (b := ki) rfl rfl (by omega) (by omega) c_2
    refine lv_aload_n hx hb dX10_takeOption_17 rfl (lv_at hl 0 rfl) ?_
    refine va_get (D := D) (ci := 10) (v := .ref t0) (C := RX10) (T := TX10) (N := 10) hx hb hg i_X10 hown hK hP 0 rfl rfl 0 (by decide) (hg _ m_255) (fun _ h9 => h9) rfl dX10_takeOption_18 ?_
    refine x_callVv (q := (RX9, TX9, 8)) (ci := 9) (q0 := 0) (wr := [wO d0 10 [.ref t0, .ref d1, yh, yf, .int uh, .int wt, .int dt, .int vv, .int fq, .int pq], wI (cy 1) am 4 (g_1)]) (rest := []) ⟨hx, hb, hml, hown, hg, hl.1⟩ k_X10_140 (s_next l D cy adK adV t0 t1 t2 tn ta ts tk tm tr fby fky (fin fby tn ga) (by omega) (by omega) (hti.2.1) (hky)) EV_blind hK hP hD hS hA [1, 2, 3] [0, 4] ⟨rfl, rfl, by decide +kernel, by decide +kernel, by decide +kernel⟩ rfl rfl (fun U hU hW => EV_pass hE hS (va_free hD hS hA [1, 2, 3] rfl) hU hW) dX10_takeOption_21 rfl rfl (Nat.le_of_ble_eq_true rfl) ⟨Nat.le_of_ble_eq_true rfl, Nat.le_of_ble_eq_true rfl⟩ ⟨Nat.le_of_ble_eq_true rfl, Nat.le_of_ble_eq_true rfl⟩ (fun zu4 H locs hw4 hP9 hD9 hS9 => ?_)
    clear hP hD hS
    obtain ⟨ta2_5, ts2_6, tk2_7, tm2_8, tr2_9⟩ := zu4
    refine reW [wO d0 10 [.ref t0, .ref d1, yh, yf, .int uh, .int wt, .int dt, .int vv, .int fq, .int pq], wI (cy 1) am 4 (g_1), wO t0 9 [.ref t1, .ref t2, .int (nI tn), .int (nI ta2_5), .int (nI ts2_6), .int (nI tk2_7), .long tm2_8, .int tr2_9], wI (cy 0) t1 1600 (fby), (t2, .inl (cy 2, 24, .inr (.inl (fky))))] hP9 hD9 hS9 (fun hP hD hS => ?_)
    clear hP9 hD9 hS9
    refine W.widen (k := 0) (n := 0) (Nat.le_of_ble_eq_true rfl) (Nat.le_of_ble_eq_true rfl) ?_
    replace hw4 : (ta2_5 ≤ tn) ∧ (tk2_7 ≤ 123) ∧ (tkC fby tn (fin fby tn ga) ta2_5 ts2_6 tk2_7 tm2_8 tr2_9) := hw4
    obtain ⟨f_10, f_11, f_12⟩ := hw4
    refine lv_aload_n hx hb dX10_takeOption_24 rfl (lv_at hl 0 rfl) ?_
    refine lv_bipush (v := 9) hx hb dX10_takeOption_25 (by decide) ?_
    refine x_callVi (q := (RX10, TX10, 10)) (ci := 10) (q0 := 0) (wr := [wI (cy 1) am 4 (g_1)]) (rest := []) ⟨hx, hb, hml, hown, hg, hl.1⟩ k_X10_131 (s_takeNumber l D cy adK adV d0 d1 uh wt dt vv fq pq yh yf t0 t1 t2 tn ta2_5 ts2_6 tk2_7 tm2_8 tr2_9 fby fky (fin fby tn ga) 9 (by omega) (by omega) (by omega) (f_12) (hky) (by omega)) EV_blind hK hP hD hS hA [0, 2, 3, 4] [1] ⟨rfl, rfl, by decide +kernel, by decide +kernel, by decide +kernel⟩ rfl rfl (fun U hU hW => EV_pass hE hS (va_free hD hS hA [0, 2, 3, 4] rfl) hU hW) dX10_takeOption_27 rfl rfl (Nat.le_of_ble_eq_true rfl) ⟨Nat.le_of_ble_eq_true rfl, Nat.le_of_ble_eq_true rfl⟩ ⟨Nat.le_of_ble_eq_true rfl, Nat.le_of_ble_eq_true rfl⟩ (fun zr13 zu13 H locs hw13 hP9 hD9 hS9 => ?_)
    clear hP hD hS
    obtain ⟨ta2_14, ts2_15, tk2_16, tm2_17, tr2_18, fq2_19, pq2_20, vv2_21, co9_22, b9_23⟩ := zu13
    refine reW [wI (cy 1) am 4 (g_1), wO d0 10 [.ref t0, .ref d1, yh, yf, .int uh, .int wt, .int dt, .int vv2_21, .int fq2_19, .int pq2_20], wO t0 9 [.ref t1, .ref t2, .int (nI tn), .int (nI ta2_14), .int (nI ts2_15), .int (nI tk2_16), .long tm2_17, .int tr2_18], wI (cy 0) t1 1600 (fby), (t2, .inl (cy 2, 24, .inr (.inl (fky))))] hP9 hD9 hS9 (fun hP hD hS => ?_)
    clear hP9 hD9 hS9
    refine W.widen (k := 0) (n := 0) (Nat.le_of_ble_eq_true rfl) (Nat.le_of_ble_eq_true rfl) ?_
    replace hw13 : (ta2_14 ≤ tn) ∧ (tk2_16 ≤ 123) ∧ ((zr13 = 1 ∧ (numS fby tn 9 (fin fby tn ga) = .inr (num fby tn (fin fby tn ga), fin fby tn (fin fby tn ga))) ∧ (fq = fq2_19) ∧ (pq = pq2_20) ∧ (tkC fby tn (fin fby tn (fin fby tn ga)) ta2_14 ts2_15 tk2_16 tm2_17 tr2_18) ∧ (nI (num fby tn (fin fby tn ga)) = vv2_21) ∧ (num fby tn (fin fby tn ga) ≤ 9)) ∨ (zr13 = 0 ∧ (numS fby tn 9 (fin fby tn ga) = .inl (co9_22, b9_23)) ∧ (flt fby tn b9_23 co9_22 fq2_19 pq2_20))) := hw13
    obtain ⟨f_24, f_25, f_26⟩ := hw13
    rcases f_26 with ⟨hz_33, a_27, a_28, a_29, a_30, a_31, a_32⟩ | ⟨hz_36, a_34, a_35⟩
    · subst hz_33
      subst a_28
      subst a_29
      subst a_31
      refine lv_if_ne (tgt := 35) hx hb dX10_takeOption_30 (by decide) (fun _ => ?_) (fun h => absurd h (by decide))
      refine lv_aload_n hx hb dX10_takeOption_35 rfl (lv_at hl 2 rfl) ?_
      refine lv_iload_n hx hb dX10_takeOption_36 rfl (lv_at hl 3 rfl) ?_
      refine lv_aload_n hx hb dX10_takeOption_37 rfl (lv_at hl 0 rfl) ?_
      refine va_get (D := D) (ci := 10) (v := .int (nI (num fby tn (fin fby tn ga)))) (C := RX10) (T := TX10) (N := 10) hx hb hg i_X10 hown hK hP 1 rfl rfl 7 (by decide) (hg _ m_262) (fun _ h9 => h9) rfl dX10_takeOption_38 ?_
      refine va_iast hx hb hK hP hD hS 0 1 rfl rfl (vp_in_nI (by omega) (by decide)) dX10_takeOption_41 (fun H locs hP9 hD9 hS9 => ?_)
      clear hP hD hS
      obtain ⟨g_37, eg_37⟩ : ∃ y, upd g_1 (nI ix : Int32).toNatClampNeg (nI (num fby tn (fin fby tn ga))) = y := ⟨_, rfl⟩
      rw [eg_37] at hP9 hD9
      refine reW [wI (cy 1) am 4 (g_37), wO d0 10 [.ref t0, .ref d1, yh, yf, .int uh, .int wt, .int dt, .int (nI (num fby tn (fin fby tn ga))), .int fq, .int pq], wO t0 9 [.ref t1, .ref t2, .int (nI tn), .int (nI ta2_14), .int (nI ts2_15), .int (nI tk2_16), .long tm2_17, .int tr2_18], wI (cy 0) t1 1600 (fby), (t2, .inl (cy 2, 24, .inr (.inl (fky))))] hP9 hD9 hS9 (fun hP hD hS => ?_)
      clear hP9 hD9 hS9
      refine lv_iconst (v := 1) hx hb dX10_takeOption_42 (by decide) ?_
      exact x_zret hQ hx hb hr hlocks hK hP hD hS rfl dX10_takeOption_43 (ta2_14, ts2_15, tk2_16, tm2_17, tr2_18, fq, pq, nI (num fby tn (fin fby tn ga)), g_37, num fby tn (fin fby tn ga), fin fby tn (fin fby tn ga), 0, 0) (⟨(show ta2_14 ≤ tn from by omega), (show tk2_16 ≤ 123 from by omega), (show ((1 : Int32) = 1 ∧ (optS fby tn ki ga = .inr ((num fby tn (fin fby tn ga)), (fin fby tn (fin fby tn ga)))) ∧ (fq = fq) ∧ (pq = pq) ∧ (tkC fby tn ((fin fby tn (fin fby tn ga))) ta2_14 ts2_15 tk2_16 tm2_17 tr2_18) ∧ (g_37 = upd fam ix (nI (num fby tn (fin fby tn ga)))) ∧ (ga ≤ (fin fby tn (fin fby tn ga)) ∧ (fin fby tn (fin fby tn ga)) ≤ tn)) ∨ ((1 : Int32) = 0 ∧ (optS fby tn ki ga = .inl (0, 0)) ∧ (flt fby tn 0 0 fq pq)) from Or.inl ⟨rfl, ((if_pos (by have h9 := hti.2.2.1; omega)).trans (a_27)), (rfl), (rfl), (a_30), ((eg_37.symm).trans (upd_2 (by omega) eg_1)), (⟨Nat.le_trans (fin_ge _ _ _) (fin_ge _ _ _), fin_le (fin_le hga)⟩)⟩)⟩) [1, 2, 3, 4, 0] (by decide +kernel) rfl (Nat.le_of_ble_eq_true rfl) (Nat.le_of_ble_eq_true rfl)
    · subst hz_36
      refine lv_if_ne (tgt := 35) hx hb dX10_takeOption_30 (by decide) (fun h => absurd (by decide) h) (fun _ => ?_)
      refine lv_iconst (v := 0) hx hb dX10_takeOption_33 (by decide) ?_
      exact x_zret hQ hx hb hr hlocks hK hP hD hS rfl dX10_takeOption_34 (ta2_14, ts2_15, tk2_16, tm2_17, tr2_18, fq2_19, pq2_20, vv2_21, g_1, 0, 0, co9_22, b9_23) (⟨(show ta2_14 ≤ tn from by omega), (show tk2_16 ≤ 123 from by omega), (show ((0 : Int32) = 1 ∧ (optS fby tn ki ga = .inr (0, 0)) ∧ (fq = fq2_19) ∧ (pq = pq2_20) ∧ (tkC fby tn (0) ta2_14 ts2_15 tk2_16 tm2_17 tr2_18) ∧ (g_1 = upd fam ix (nI 0)) ∧ (ga ≤ 0 ∧ 0 ≤ tn)) ∨ ((0 : Int32) = 0 ∧ (optS fby tn ki ga = .inl (co9_22, b9_23)) ∧ (flt fby tn b9_23 co9_22 fq2_19 pq2_20)) from Or.inr (⟨rfl, ((if_pos (by have h9 := hti.2.2.1; omega)).trans (a_34)), (a_35)⟩))⟩) [1, 2, 3, 4, 0] (by decide +kernel) rfl (Nat.le_of_ble_eq_true rfl) (Nat.le_of_ble_eq_true rfl)
  · have q_3 : ¬ tk = ki := q_ne (a := tk) (b := ki) rfl rfl (by omega) (by omega) c_2
    refine lv_iconst (v := 1) hx hb dX10_takeOption_15 (by decide) ?_
    exact x_zret hQ hx hb hr hlocks hK hP hD hS rfl dX10_takeOption_16 (ta, ts, tk, tm, tr, fq, pq, vv, g_1, 0, ga, 0, 0) (⟨(show ta ≤ tn from by omega), (show tk ≤ 123 from by omega), (show ((1 : Int32) = 1 ∧ (optS fby tn ki ga = .inr (0, ga)) ∧ (fq = fq) ∧ (pq = pq) ∧ (tkC fby tn (ga) ta ts tk tm tr) ∧ (g_1 = upd fam ix (nI 0)) ∧ (ga ≤ ga ∧ ga ≤ tn)) ∨ ((1 : Int32) = 0 ∧ (optS fby tn ki ga = .inl (0, 0)) ∧ (flt fby tn 0 0 fq pq)) from Or.inl ⟨rfl, (if_neg (by have h9 := hti.2.2.1; omega)), (rfl), (rfl), (hti), (upd_1 (by omega) eg_1), (⟨Nat.le_refl _, hga⟩)⟩)⟩) [0, 1, 2, 3, 4] (by decide +kernel) rfl (Nat.le_of_ble_eq_true rfl) (Nat.le_of_ble_eq_true rfl)
theorem gdX10_find_0 : decode cX10_find 0 = .ok (.iconst 0, 1) ∧ decode cX10_find 1 = .ok (.istore_n 2, 1) ∧ decode cX10_find 2 = .ok (.iload_n 2, 1) ∧ decode cX10_find 3 = .ok (.aload_n 0, 1) ∧ decode cX10_find 4 = .ok (.getfield 24, 3) ∧ decode cX10_find 7 = .ok (.getfield 114, 3) ∧ decode cX10_find 10 = .ok (.iload_n 1, 1) ∧ decode cX10_find 11 = .ok (.iaload, 1) ∧ decode cX10_find 12 = .ok (.if_icmp .ge 30, 3) ∧ decode cX10_find 42 = .ok (.iconst (-1), 1) ∧ decode cX10_find 43 = .ok (.ireturn, 1) ∧ decode cX10_find 15 = .ok (.aload_n 0, 1) := by decide +kernel
theorem dX10_find_0 : decode cX10_find 0 = .ok (.iconst 0, 1) := gdX10_find_0.1
theorem dX10_find_1 : decode cX10_find 1 = .ok (.istore_n 2, 1) := gdX10_find_0.2.1
theorem dX10_find_2 : decode cX10_find 2 = .ok (.iload_n 2, 1) := gdX10_find_0.2.2.1
theorem dX10_find_3 : decode cX10_find 3 = .ok (.aload_n 0, 1) := gdX10_find_0.2.2.2.1
theorem dX10_find_4 : decode cX10_find 4 = .ok (.getfield 24, 3) := gdX10_find_0.2.2.2.2.1
theorem dX10_find_7 : decode cX10_find 7 = .ok (.getfield 114, 3) := gdX10_find_0.2.2.2.2.2.1
theorem dX10_find_10 : decode cX10_find 10 = .ok (.iload_n 1, 1) := gdX10_find_0.2.2.2.2.2.2.1
theorem dX10_find_11 : decode cX10_find 11 = .ok (.iaload, 1) := gdX10_find_0.2.2.2.2.2.2.2.1
theorem dX10_find_12 : decode cX10_find 12 = .ok (.if_icmp .ge 30, 3) := gdX10_find_0.2.2.2.2.2.2.2.2.1
theorem dX10_find_42 : decode cX10_find 42 = .ok (.iconst (-1), 1) := gdX10_find_0.2.2.2.2.2.2.2.2.2.1
theorem dX10_find_43 : decode cX10_find 43 = .ok (.ireturn, 1) := gdX10_find_0.2.2.2.2.2.2.2.2.2.2.1
theorem dX10_find_15 : decode cX10_find 15 = .ok (.aload_n 0, 1) := gdX10_find_0.2.2.2.2.2.2.2.2.2.2.2
theorem gdX10_find_16 : decode cX10_find 16 = .ok (.getfield 11, 3) ∧ decode cX10_find 19 = .ok (.iload_n 1, 1) ∧ decode cX10_find 20 = .ok (.aaload, 1) ∧ decode cX10_find 21 = .ok (.iload_n 2, 1) ∧ decode cX10_find 22 = .ok (.laload, 1) ∧ decode cX10_find 23 = .ok (.aload_n 0, 1) ∧ decode cX10_find 24 = .ok (.getfield 16, 3) ∧ decode cX10_find 27 = .ok (.getfield 172, 3) ∧ decode cX10_find 30 = .ok (.lcmp, 1) ∧ decode cX10_find 31 = .ok (.ifCond .ne 5, 3) ∧ decode cX10_find 36 = .ok (.iinc 2 1, 3) ∧ decode cX10_find 39 = .ok (.goto (-37), 3) := by decide +kernel
theorem dX10_find_16 : decode cX10_find 16 = .ok (.getfield 11, 3) := gdX10_find_16.1
theorem dX10_find_19 : decode cX10_find 19 = .ok (.iload_n 1, 1) := gdX10_find_16.2.1
theorem dX10_find_20 : decode cX10_find 20 = .ok (.aaload, 1) := gdX10_find_16.2.2.1
theorem dX10_find_21 : decode cX10_find 21 = .ok (.iload_n 2, 1) := gdX10_find_16.2.2.2.1
theorem dX10_find_22 : decode cX10_find 22 = .ok (.laload, 1) := gdX10_find_16.2.2.2.2.1
theorem dX10_find_23 : decode cX10_find 23 = .ok (.aload_n 0, 1) := gdX10_find_16.2.2.2.2.2.1
theorem dX10_find_24 : decode cX10_find 24 = .ok (.getfield 16, 3) := gdX10_find_16.2.2.2.2.2.2.1
theorem dX10_find_27 : decode cX10_find 27 = .ok (.getfield 172, 3) := gdX10_find_16.2.2.2.2.2.2.2.1
theorem dX10_find_30 : decode cX10_find 30 = .ok (.lcmp, 1) := gdX10_find_16.2.2.2.2.2.2.2.2.1
theorem dX10_find_31 : decode cX10_find 31 = .ok (.ifCond .ne 5, 3) := gdX10_find_16.2.2.2.2.2.2.2.2.2.1
theorem dX10_find_36 : decode cX10_find 36 = .ok (.iinc 2 1, 3) := gdX10_find_16.2.2.2.2.2.2.2.2.2.2.1
theorem dX10_find_39 : decode cX10_find 39 = .ok (.goto (-37), 3) := gdX10_find_16.2.2.2.2.2.2.2.2.2.2.2
theorem dX10_find_34 : decode cX10_find 34 = .ok (.iload_n 2, 1) := by decide +kernel
theorem dX10_find_35 : decode cX10_find 35 = .ok (.ireturn, 1) := by decide +kernel
set_option maxHeartbeats 1000000 in
set_option maxRecDepth 100000 in
theorem s_find0 (l : Launch) (D : va_G) (cy : Nat → ClassId) (d0 : Nat) (d1 : Nat) (uh : Int32) (wt : Int32) (dt : Int32) (vv : Int32) (fq : Int32) (pq : Int32) (yf : Value) (t0 : Nat) (t1 : Nat) (t2 : Nat) (tn : Nat) (ta : Nat) (ts : Nat) (tk : Nat) (tm : Int64) (tr : Int32) (h0 : Nat) (h1 : Nat) (h2 : Nat) (h3 : Nat) (h4 : Nat) (h5 : Nat) (h6 : Nat) (h7 : Nat) (h8 : Nat) (h9 : Nat) (h10 : Nat) (h11 : Nat) (hv0 : Value) (hv1 : Value) (hv2 : Value) (hv3 : Value) (hv4 : Value) (fc : Nat → Int32) (c0 : Nat) (c1 : Nat) (c2 : Nat) (c3 : Nat) (d2 : Nat) (d3 : Nat) (d4 : Nat) (d5 : Nat) (fd0 : Nat → Int64) (fby : Nat → Int32) (ga : Nat) (np0 : Nat → Nat) (hcn : cntOK fc c0 c1 c2 c3) (hc0 : c0 ≤ 8) (hc1 : c1 ≤ 4) (hc2 : c2 ≤ 4) (hc3 : c3 ≤ 6) (hk1 : tk = 1) (hti : tkC fby tn ga ta ts tk tm tr) (hnm0 : nmC fby tn np0 c0 fd0) : XMi l D (tyL cy) E0 yX10_find cX10_find 3 (some .int) (rmk 0 0 0) [.ref d0, .int 0] [wO d0 10 [.ref t0, .ref d1, .ref h0, yf, .int uh, .int wt, .int dt, .int vv, .int fq, .int pq], wO t0 9 [.ref t1, .ref t2, .int (nI tn), .int (nI ta), .int (nI ts), .int (nI tk), .long tm, .int tr], wO h0 4 [.ref h1, .ref h2, .ref h3, .ref h4, .ref h5, .ref h6, .ref h7, .ref h8, .ref h9, .ref h10, .ref h11, hv0, hv1, hv2, hv3, hv4], wI (cy 1) h1 4 (fc), (d1, .inl (cy 5, 4, .inr (.inr (.inr (.inr (eF d2 d3 d4 d5)))))), (d2, .inl (cy 2, 8, .inr (.inl (fd0))))] (fun (r : Int32) (jr : Nat) => ((r = nI jr ∧ (fnd fby tn np0 c0 ga = jr) ∧ (jr < c0)) ∨ (r = -1 ∧ (¬ fnd fby tn np0 c0 ga < c0)))) (fun (jr : Nat) => [wO d0 10 [.ref t0, .ref d1, .ref h0, yf, .int uh, .int wt, .int dt, .int vv, .int fq, .int pq], wO t0 9 [.ref t1, .ref t2, .int (nI tn), .int (nI ta), .int (nI ts), .int (nI tk), .long tm, .int tr], wO h0 4 [.ref h1, .ref h2, .ref h3, .ref h4, .ref h5, .ref h6, .ref h7, .ref h8, .ref h9, .ref h10, .ref h11, hv0, hv1, hv2, hv3, hv4], wI (cy 1) h1 4 (fc), (d1, .inl (cy 5, 4, .inr (.inr (.inr (.inr (eF d2 d3 d4 d5)))))), (d2, .inl (cy 2, 8, .inr (.inl (fd0))))]) := by
  refine XMi.start (by decide) (Nat.le_of_ble_eq_true rfl) ?_
  intro p e s m below meth c args A ls Q hat hQ
  obtain ⟨hx, hb, hr, hml, hown, hg, hlocks, hin, hK, hA, hP, hD, hS, hE, hl⟩ := hat
  have hown : s.vm.findClass RX10 = some m.cls := hown
  have hl : lv_has ls 3 [(0, .ref d0), (1, .int 0)] := hl
  refine lv_iconst (v := 0) hx hb dX10_find_0 (by decide) ?_
  refine lv_istore_n (lv' := [(2, .int 0), (0, .ref d0), (1, .int 0)]) hx hb dX10_find_1 rfl hl (by decide) rfl (fun ls hl => ?_)
  have loop1 : ∀ (zn : Nat) (i1 : Nat), (i1 ≤ c0) → (fdF fby tn np0 ga (c0 - i1) i1 = fnd fby tn np0 c0 ga) → c0 - i1 + 1 ≤ zn → ∀ (H : Heap) (locs : List Loc), va_P D vwCl [wO d0 10 [.ref t0, .ref d1, .ref h0, yf, .int uh, .int wt, .int dt, .int vv, .int fq, .int pq], wO t0 9 [.ref t1, .ref t2, .int (nI tn), .int (nI ta), .int (nI ts), .int (nI tk), .long tm, .int tr], wO h0 4 [.ref h1, .ref h2, .ref h3, .ref h4, .ref h5, .ref h6, .ref h7, .ref h8, .ref h9, .ref h10, .ref h11, hv0, hv1, hv2, hv3, hv4], wI (cy 1) h1 4 (fc), (d1, .inl (cy 5, 4, .inr (.inr (.inr (.inr (eF d2 d3 d4 d5)))))), (d2, .inl (cy 2, 8, .inr (.inl (fd0))))] H → va_D A [wO d0 10 [.ref t0, .ref d1, .ref h0, yf, .int uh, .int wt, .int dt, .int vv, .int fq, .int pq], wO t0 9 [.ref t1, .ref t2, .int (nI tn), .int (nI ta), .int (nI ts), .int (nI tk), .long tm, .int tr], wO h0 4 [.ref h1, .ref h2, .ref h3, .ref h4, .ref h5, .ref h6, .ref h7, .ref h8, .ref h9, .ref h10, .ref h11, hv0, hv1, hv2, hv3, hv4], wI (cy 1) h1 4 (fc), (d1, .inl (cy 5, 4, .inr (.inr (.inr (.inr (eF d2 d3 d4 d5)))))), (d2, .inl (cy 2, 8, .inr (.inl (fd0))))] → va_S A s.heap H locs → ∀ ls : Array Slot, lv_has ls 3 [(2, .int (nI i1)), (0, .ref d0), (1, .int 0)] → W p l e (rmk 0 0 0) s m args below meth c H locs 0 0 Q (F0 m 2 ls []) := by
    try clear hP hD hS
    intro zn
    induction zn with
    | zero => intro i1 _ _ hz; exact absurd hz (by omega)
    | succ zn ih1 =>
      intro i1 hf0_1 hf1_1 hmu1 H locs hP hD hS ls hl
      refine lv_iload_n hx hb dX10_find_2 rfl (lv_at hl 0 rfl) ?_
      refine lv_aload_n hx hb dX10_find_3 rfl (lv_at hl 1 rfl) ?_
      refine va_get (D := D) (ci := 10) (v := .ref h0) (C := RX10) (T := TX10) (N := 10) hx hb hg i_X10 hown hK hP 0 rfl rfl 2 (by decide) (hg _ m_257) (fun _ h9 => h9) rfl dX10_find_4 ?_
      refine va_get (D := D) (ci := 4) (v := .ref h1) (C := RX4) (T := TX4) (N := 16) hx hb hg i_X4 hown hK hP 2 rfl rfl 0 (by decide) (hg _ m_336) (fun _ h9 => h9) rfl dX10_find_7 ?_
      refine lv_iload_n hx hb dX10_find_10 rfl (lv_at hl 2 rfl) ?_
      refine va_iald hx hb hK hP 3 1 rfl rfl (by unfold vp_in; decide) dX10_find_11 ?_
      refine lv_topi (fun y_2 hy_2 => ?_)
      obtain rfl : y_2 = nI c0 := hy_2.trans hcn.1
      refine lv_icmp_ge (tgt := 42) hx hb dX10_find_12 (by decide) (fun c_3 => ?_) (fun c_3 => ?_)
      · have q_4 : c0 ≤ i1 := q_le (a := c0) (b := i1) rfl rfl (by omega) (by omega) c_3
        refine lv_iconst (v := -1) hx hb dX10_find_42 (by decide) ?_
        exact x_iret hQ hx hb hr hlocks hK hP hD hS dX10_find_43 0 ((show ((-1 : Int32) = nI 0 ∧ (fnd fby tn np0 c0 ga = 0) ∧ (0 < c0)) ∨ ((-1 : Int32) = -1 ∧ (¬ fnd fby tn np0 c0 ga < c0)) from Or.inr (⟨rfl, (fd_end (i := i1) (by omega) (by omega) hf1_1)⟩))) [0, 1, 2, 3, 4, 5] (by decide +kernel) rfl (Nat.le_of_ble_eq_true rfl) (Nat.le_of_ble_eq_true rfl)
      · have q_4 : i1 < c0 := q_nle (a := c0) (b := i1) rfl rfl (by omega) (by omega) c_3
        refine lv_aload_n hx hb dX10_find_15 rfl (lv_at hl 1 rfl) ?_
        refine va_get (D := D) (ci := 10) (v := .ref d1) (C := RX10) (T := TX10) (N := 10) hx hb hg i_X10 hown hK hP 0 rfl rfl 1 (by decide) (hg _ m_256) (fun _ h9 => h9) rfl dX10_find_16 ?_
        refine lv_iload_n hx hb dX10_find_19 rfl (lv_at hl 2 rfl) ?_
        refine x_aald (v := d2) hx hb hK hP 4 5 rfl rfl (by unfold vp_in; decide) rfl dX10_find_20 ?_
        refine lv_iload_n hx hb dX10_find_21 rfl (lv_at hl 0 rfl) ?_
        refine va_lald hx hb hK hP 5 2 rfl rfl (vp_in_nI (by omega) (by decide)) dX10_find_22 ?_
        refine lv_topl (fun z_5 ez_5 => ?_)
        refine lv_aload_n hx hb dX10_find_23 rfl (lv_at hl 1 rfl) ?_
        refine va_get (D := D) (ci := 10) (v := .ref t0) (C := RX10) (T := TX10) (N := 10) hx hb hg i_X10 hown hK hP 0 rfl rfl 0 (by decide) (hg _ m_255) (fun _ h9 => h9) rfl dX10_find_24 ?_
        refine va_get (D := D) (ci := 9) (v := .long tm) (C := RX9) (T := TX9) (N := 8) hx hb hg i_X9 hown hK hP 1 rfl rfl 6 (by decide) (hg _ m_225) (fun _ h9 => h9) rfl dX10_find_27 ?_
        refine x_lcmp hx hb dX10_find_30 (fun x_6 ex_6 => ?_)
        refine lv_if_ne (tgt := 36) hx hb dX10_find_31 (by decide) (fun c_31 => ?_) (fun c_31 => ?_)
        · refine lv_iinc (v := nI (i1 + 1)) (lv' := [(2, .int (nI (i1 + 1))), (0, .ref d0), (1, .int 0)]) hx hb dX10_find_36 hl (k := 0) rfl (nI_add i1 1) (by decide) rfl (fun ls hl => ?_)
          refine lv_goto (tgt := 2) hx hb dX10_find_39 (by decide) ?_
          exact ih1  ((i1 + 1)) (by omega) (fd_go (by omega) (by omega) hf1_1 hnm0 ez_5 (hti.2.2.2.1 hk1) ex_6 c_31) (by omega) _ _ (hP.sub [0, 1, 2, 3, 4, 5] rfl) (hD.sub [0, 1, 2, 3, 4, 5] (by decide +kernel) rfl) hS ls (lv_sub hl [0, 1, 2] rfl)
        · refine lv_iload_n hx hb dX10_find_34 rfl (lv_at hl 0 rfl) ?_
          exact x_iret hQ hx hb hr hlocks hK hP hD hS dX10_find_35 i1 ((show ((nI i1 : Int32) = nI i1 ∧ (fnd fby tn np0 c0 ga = i1) ∧ (i1 < c0)) ∨ ((nI i1 : Int32) = -1 ∧ (¬ fnd fby tn np0 c0 ga < c0)) from Or.inl ⟨rfl, ((fd_hit (by omega) (by omega) hf1_1 hnm0 ez_5 (hti.2.2.2.1 hk1) ex_6 c_31).symm), ((by omega))⟩)) [0, 1, 2, 3, 4, 5] (by decide +kernel) rfl (Nat.le_of_ble_eq_true rfl) (Nat.le_of_ble_eq_true rfl)
  exact loop1 _ 0 (by omega) (rfl) (Nat.le_refl _) _ _ (hP.sub [0, 1, 2, 3, 4, 5] rfl) (hD.sub [0, 1, 2, 3, 4, 5] (by decide +kernel) rfl) hS ls (lv_sub hl [0, 1, 2] rfl)
set_option maxHeartbeats 1000000 in
set_option maxRecDepth 100000 in
theorem s_find1 (l : Launch) (D : va_G) (cy : Nat → ClassId) (d0 : Nat) (d1 : Nat) (uh : Int32) (wt : Int32) (dt : Int32) (vv : Int32) (fq : Int32) (pq : Int32) (yf : Value) (t0 : Nat) (t1 : Nat) (t2 : Nat) (tn : Nat) (ta : Nat) (ts : Nat) (tk : Nat) (tm : Int64) (tr : Int32) (h0 : Nat) (h1 : Nat) (h2 : Nat) (h3 : Nat) (h4 : Nat) (h5 : Nat) (h6 : Nat) (h7 : Nat) (h8 : Nat) (h9 : Nat) (h10 : Nat) (h11 : Nat) (hv0 : Value) (hv1 : Value) (hv2 : Value) (hv3 : Value) (hv4 : Value) (fc : Nat → Int32) (c0 : Nat) (c1 : Nat) (c2 : Nat) (c3 : Nat) (d2 : Nat) (d3 : Nat) (d4 : Nat) (d5 : Nat) (fd1 : Nat → Int64) (fby : Nat → Int32) (ga : Nat) (np1 : Nat → Nat) (hcn : cntOK fc c0 c1 c2 c3) (hc0 : c0 ≤ 8) (hc1 : c1 ≤ 4) (hc2 : c2 ≤ 4) (hc3 : c3 ≤ 6) (hk1 : tk = 1) (hti : tkC fby tn ga ta ts tk tm tr) (hnm1 : nmC fby tn np1 c1 fd1) : XMi l D (tyL cy) E0 yX10_find cX10_find 3 (some .int) (rmk 0 0 0) [.ref d0, .int 1] [wO d0 10 [.ref t0, .ref d1, .ref h0, yf, .int uh, .int wt, .int dt, .int vv, .int fq, .int pq], wO t0 9 [.ref t1, .ref t2, .int (nI tn), .int (nI ta), .int (nI ts), .int (nI tk), .long tm, .int tr], wO h0 4 [.ref h1, .ref h2, .ref h3, .ref h4, .ref h5, .ref h6, .ref h7, .ref h8, .ref h9, .ref h10, .ref h11, hv0, hv1, hv2, hv3, hv4], wI (cy 1) h1 4 (fc), (d1, .inl (cy 5, 4, .inr (.inr (.inr (.inr (eF d2 d3 d4 d5)))))), (d3, .inl (cy 2, 8, .inr (.inl (fd1))))] (fun (r : Int32) (jr : Nat) => ((r = nI jr ∧ (fnd fby tn np1 c1 ga = jr) ∧ (jr < c1)) ∨ (r = -1 ∧ (¬ fnd fby tn np1 c1 ga < c1)))) (fun (jr : Nat) => [wO d0 10 [.ref t0, .ref d1, .ref h0, yf, .int uh, .int wt, .int dt, .int vv, .int fq, .int pq], wO t0 9 [.ref t1, .ref t2, .int (nI tn), .int (nI ta), .int (nI ts), .int (nI tk), .long tm, .int tr], wO h0 4 [.ref h1, .ref h2, .ref h3, .ref h4, .ref h5, .ref h6, .ref h7, .ref h8, .ref h9, .ref h10, .ref h11, hv0, hv1, hv2, hv3, hv4], wI (cy 1) h1 4 (fc), (d1, .inl (cy 5, 4, .inr (.inr (.inr (.inr (eF d2 d3 d4 d5)))))), (d3, .inl (cy 2, 8, .inr (.inl (fd1))))]) := by
  refine XMi.start (by decide) (Nat.le_of_ble_eq_true rfl) ?_
  intro p e s m below meth c args A ls Q hat hQ
  obtain ⟨hx, hb, hr, hml, hown, hg, hlocks, hin, hK, hA, hP, hD, hS, hE, hl⟩ := hat
  have hown : s.vm.findClass RX10 = some m.cls := hown
  have hl : lv_has ls 3 [(0, .ref d0), (1, .int 1)] := hl
  refine lv_iconst (v := 0) hx hb dX10_find_0 (by decide) ?_
  refine lv_istore_n (lv' := [(2, .int 0), (0, .ref d0), (1, .int 1)]) hx hb dX10_find_1 rfl hl (by decide) rfl (fun ls hl => ?_)
  have loop1 : ∀ (zn : Nat) (i1 : Nat), (i1 ≤ c1) → (fdF fby tn np1 ga (c1 - i1) i1 = fnd fby tn np1 c1 ga) → c1 - i1 + 1 ≤ zn → ∀ (H : Heap) (locs : List Loc), va_P D vwCl [wO d0 10 [.ref t0, .ref d1, .ref h0, yf, .int uh, .int wt, .int dt, .int vv, .int fq, .int pq], wO t0 9 [.ref t1, .ref t2, .int (nI tn), .int (nI ta), .int (nI ts), .int (nI tk), .long tm, .int tr], wO h0 4 [.ref h1, .ref h2, .ref h3, .ref h4, .ref h5, .ref h6, .ref h7, .ref h8, .ref h9, .ref h10, .ref h11, hv0, hv1, hv2, hv3, hv4], wI (cy 1) h1 4 (fc), (d1, .inl (cy 5, 4, .inr (.inr (.inr (.inr (eF d2 d3 d4 d5)))))), (d3, .inl (cy 2, 8, .inr (.inl (fd1))))] H → va_D A [wO d0 10 [.ref t0, .ref d1, .ref h0, yf, .int uh, .int wt, .int dt, .int vv, .int fq, .int pq], wO t0 9 [.ref t1, .ref t2, .int (nI tn), .int (nI ta), .int (nI ts), .int (nI tk), .long tm, .int tr], wO h0 4 [.ref h1, .ref h2, .ref h3, .ref h4, .ref h5, .ref h6, .ref h7, .ref h8, .ref h9, .ref h10, .ref h11, hv0, hv1, hv2, hv3, hv4], wI (cy 1) h1 4 (fc), (d1, .inl (cy 5, 4, .inr (.inr (.inr (.inr (eF d2 d3 d4 d5)))))), (d3, .inl (cy 2, 8, .inr (.inl (fd1))))] → va_S A s.heap H locs → ∀ ls : Array Slot, lv_has ls 3 [(2, .int (nI i1)), (0, .ref d0), (1, .int 1)] → W p l e (rmk 0 0 0) s m args below meth c H locs 0 0 Q (F0 m 2 ls []) := by
    try clear hP hD hS
    intro zn
    induction zn with
    | zero => intro i1 _ _ hz; exact absurd hz (by omega)
    | succ zn ih1 =>
      intro i1 hf0_1 hf1_1 hmu1 H locs hP hD hS ls hl
      refine lv_iload_n hx hb dX10_find_2 rfl (lv_at hl 0 rfl) ?_
      refine lv_aload_n hx hb dX10_find_3 rfl (lv_at hl 1 rfl) ?_
      refine va_get (D := D) (ci := 10) (v := .ref h0) (C := RX10) (T := TX10) (N := 10) hx hb hg i_X10 hown hK hP 0 rfl rfl 2 (by decide) (hg _ m_257) (fun _ h9 => h9) rfl dX10_find_4 ?_
      refine va_get (D := D) (ci := 4) (v := .ref h1) (C := RX4) (T := TX4) (N := 16) hx hb hg i_X4 hown hK hP 2 rfl rfl 0 (by decide) (hg _ m_336) (fun _ h9 => h9) rfl dX10_find_7 ?_
      refine lv_iload_n hx hb dX10_find_10 rfl (lv_at hl 2 rfl) ?_
      refine va_iald hx hb hK hP 3 1 rfl rfl (by unfold vp_in; decide) dX10_find_11 ?_
      refine lv_topi (fun y_2 hy_2 => ?_)
      obtain rfl : y_2 = nI c1 := hy_2.trans hcn.2.1
      refine lv_icmp_ge (tgt := 42) hx hb dX10_find_12 (by decide) (fun c_3 => ?_) (fun c_3 => ?_)
      · have q_4 : c1 ≤ i1 := q_le (a := c1) (b := i1) rfl rfl (by omega) (by omega) c_3
        refine lv_iconst (v := -1) hx hb dX10_find_42 (by decide) ?_
        exact x_iret hQ hx hb hr hlocks hK hP hD hS dX10_find_43 0 ((show ((-1 : Int32) = nI 0 ∧ (fnd fby tn np1 c1 ga = 0) ∧ (0 < c1)) ∨ ((-1 : Int32) = -1 ∧ (¬ fnd fby tn np1 c1 ga < c1)) from Or.inr (⟨rfl, (fd_end (i := i1) (by omega) (by omega) hf1_1)⟩))) [0, 1, 2, 3, 4, 5] (by decide +kernel) rfl (Nat.le_of_ble_eq_true rfl) (Nat.le_of_ble_eq_true rfl)
      · have q_4 : i1 < c1 := q_nle (a := c1) (b := i1) rfl rfl (by omega) (by omega) c_3
        refine lv_aload_n hx hb dX10_find_15 rfl (lv_at hl 1 rfl) ?_
        refine va_get (D := D) (ci := 10) (v := .ref d1) (C := RX10) (T := TX10) (N := 10) hx hb hg i_X10 hown hK hP 0 rfl rfl 1 (by decide) (hg _ m_256) (fun _ h9 => h9) rfl dX10_find_16 ?_
        refine lv_iload_n hx hb dX10_find_19 rfl (lv_at hl 2 rfl) ?_
        refine x_aald (v := d3) hx hb hK hP 4 5 rfl rfl (by unfold vp_in; decide) rfl dX10_find_20 ?_
        refine lv_iload_n hx hb dX10_find_21 rfl (lv_at hl 0 rfl) ?_
        refine va_lald hx hb hK hP 5 2 rfl rfl (vp_in_nI (by omega) (by decide)) dX10_find_22 ?_
        refine lv_topl (fun z_5 ez_5 => ?_)
        refine lv_aload_n hx hb dX10_find_23 rfl (lv_at hl 1 rfl) ?_
        refine va_get (D := D) (ci := 10) (v := .ref t0) (C := RX10) (T := TX10) (N := 10) hx hb hg i_X10 hown hK hP 0 rfl rfl 0 (by decide) (hg _ m_255) (fun _ h9 => h9) rfl dX10_find_24 ?_
        refine va_get (D := D) (ci := 9) (v := .long tm) (C := RX9) (T := TX9) (N := 8) hx hb hg i_X9 hown hK hP 1 rfl rfl 6 (by decide) (hg _ m_225) (fun _ h9 => h9) rfl dX10_find_27 ?_
        refine x_lcmp hx hb dX10_find_30 (fun x_6 ex_6 => ?_)
        refine lv_if_ne (tgt := 36) hx hb dX10_find_31 (by decide) (fun c_31 => ?_) (fun c_31 => ?_)
        · refine lv_iinc (v := nI (i1 + 1)) (lv' := [(2, .int (nI (i1 + 1))), (0, .ref d0), (1, .int 1)]) hx hb dX10_find_36 hl (k := 0) rfl (nI_add i1 1) (by decide) rfl (fun ls hl => ?_)
          refine lv_goto (tgt := 2) hx hb dX10_find_39 (by decide) ?_
          exact ih1  ((i1 + 1)) (by omega) (fd_go (by omega) (by omega) hf1_1 hnm1 ez_5 (hti.2.2.2.1 hk1) ex_6 c_31) (by omega) _ _ (hP.sub [0, 1, 2, 3, 4, 5] rfl) (hD.sub [0, 1, 2, 3, 4, 5] (by decide +kernel) rfl) hS ls (lv_sub hl [0, 1, 2] rfl)
        · refine lv_iload_n hx hb dX10_find_34 rfl (lv_at hl 0 rfl) ?_
          exact x_iret hQ hx hb hr hlocks hK hP hD hS dX10_find_35 i1 ((show ((nI i1 : Int32) = nI i1 ∧ (fnd fby tn np1 c1 ga = i1) ∧ (i1 < c1)) ∨ ((nI i1 : Int32) = -1 ∧ (¬ fnd fby tn np1 c1 ga < c1)) from Or.inl ⟨rfl, ((fd_hit (by omega) (by omega) hf1_1 hnm1 ez_5 (hti.2.2.2.1 hk1) ex_6 c_31).symm), ((by omega))⟩)) [0, 1, 2, 3, 4, 5] (by decide +kernel) rfl (Nat.le_of_ble_eq_true rfl) (Nat.le_of_ble_eq_true rfl)
  exact loop1 _ 0 (by omega) (rfl) (Nat.le_refl _) _ _ (hP.sub [0, 1, 2, 3, 4, 5] rfl) (hD.sub [0, 1, 2, 3, 4, 5] (by decide +kernel) rfl) hS ls (lv_sub hl [0, 1, 2] rfl)
set_option maxHeartbeats 1000000 in
set_option maxRecDepth 100000 in
theorem s_find2 (l : Launch) (D : va_G) (cy : Nat → ClassId) (d0 : Nat) (d1 : Nat) (uh : Int32) (wt : Int32) (dt : Int32) (vv : Int32) (fq : Int32) (pq : Int32) (yf : Value) (t0 : Nat) (t1 : Nat) (t2 : Nat) (tn : Nat) (ta : Nat) (ts : Nat) (tk : Nat) (tm : Int64) (tr : Int32) (h0 : Nat) (h1 : Nat) (h2 : Nat) (h3 : Nat) (h4 : Nat) (h5 : Nat) (h6 : Nat) (h7 : Nat) (h8 : Nat) (h9 : Nat) (h10 : Nat) (h11 : Nat) (hv0 : Value) (hv1 : Value) (hv2 : Value) (hv3 : Value) (hv4 : Value) (fc : Nat → Int32) (c0 : Nat) (c1 : Nat) (c2 : Nat) (c3 : Nat) (d2 : Nat) (d3 : Nat) (d4 : Nat) (d5 : Nat) (fd2 : Nat → Int64) (fby : Nat → Int32) (ga : Nat) (np2 : Nat → Nat) (hcn : cntOK fc c0 c1 c2 c3) (hc0 : c0 ≤ 8) (hc1 : c1 ≤ 4) (hc2 : c2 ≤ 4) (hc3 : c3 ≤ 6) (hk1 : tk = 1) (hti : tkC fby tn ga ta ts tk tm tr) (hnm2 : nmC fby tn np2 c2 fd2) : XMi l D (tyL cy) E0 yX10_find cX10_find 3 (some .int) (rmk 0 0 0) [.ref d0, .int 2] [wO d0 10 [.ref t0, .ref d1, .ref h0, yf, .int uh, .int wt, .int dt, .int vv, .int fq, .int pq], wO t0 9 [.ref t1, .ref t2, .int (nI tn), .int (nI ta), .int (nI ts), .int (nI tk), .long tm, .int tr], wO h0 4 [.ref h1, .ref h2, .ref h3, .ref h4, .ref h5, .ref h6, .ref h7, .ref h8, .ref h9, .ref h10, .ref h11, hv0, hv1, hv2, hv3, hv4], wI (cy 1) h1 4 (fc), (d1, .inl (cy 5, 4, .inr (.inr (.inr (.inr (eF d2 d3 d4 d5)))))), (d4, .inl (cy 2, 8, .inr (.inl (fd2))))] (fun (r : Int32) (jr : Nat) => ((r = nI jr ∧ (fnd fby tn np2 c2 ga = jr) ∧ (jr < c2)) ∨ (r = -1 ∧ (¬ fnd fby tn np2 c2 ga < c2)))) (fun (jr : Nat) => [wO d0 10 [.ref t0, .ref d1, .ref h0, yf, .int uh, .int wt, .int dt, .int vv, .int fq, .int pq], wO t0 9 [.ref t1, .ref t2, .int (nI tn), .int (nI ta), .int (nI ts), .int (nI tk), .long tm, .int tr], wO h0 4 [.ref h1, .ref h2, .ref h3, .ref h4, .ref h5, .ref h6, .ref h7, .ref h8, .ref h9, .ref h10, .ref h11, hv0, hv1, hv2, hv3, hv4], wI (cy 1) h1 4 (fc), (d1, .inl (cy 5, 4, .inr (.inr (.inr (.inr (eF d2 d3 d4 d5)))))), (d4, .inl (cy 2, 8, .inr (.inl (fd2))))]) := by
  refine XMi.start (by decide) (Nat.le_of_ble_eq_true rfl) ?_
  intro p e s m below meth c args A ls Q hat hQ
  obtain ⟨hx, hb, hr, hml, hown, hg, hlocks, hin, hK, hA, hP, hD, hS, hE, hl⟩ := hat
  have hown : s.vm.findClass RX10 = some m.cls := hown
  have hl : lv_has ls 3 [(0, .ref d0), (1, .int 2)] := hl
  refine lv_iconst (v := 0) hx hb dX10_find_0 (by decide) ?_
  refine lv_istore_n (lv' := [(2, .int 0), (0, .ref d0), (1, .int 2)]) hx hb dX10_find_1 rfl hl (by decide) rfl (fun ls hl => ?_)
  have loop1 : ∀ (zn : Nat) (i1 : Nat), (i1 ≤ c2) → (fdF fby tn np2 ga (c2 - i1) i1 = fnd fby tn np2 c2 ga) → c2 - i1 + 1 ≤ zn → ∀ (H : Heap) (locs : List Loc), va_P D vwCl [wO d0 10 [.ref t0, .ref d1, .ref h0, yf, .int uh, .int wt, .int dt, .int vv, .int fq, .int pq], wO t0 9 [.ref t1, .ref t2, .int (nI tn), .int (nI ta), .int (nI ts), .int (nI tk), .long tm, .int tr], wO h0 4 [.ref h1, .ref h2, .ref h3, .ref h4, .ref h5, .ref h6, .ref h7, .ref h8, .ref h9, .ref h10, .ref h11, hv0, hv1, hv2, hv3, hv4], wI (cy 1) h1 4 (fc), (d1, .inl (cy 5, 4, .inr (.inr (.inr (.inr (eF d2 d3 d4 d5)))))), (d4, .inl (cy 2, 8, .inr (.inl (fd2))))] H → va_D A [wO d0 10 [.ref t0, .ref d1, .ref h0, yf, .int uh, .int wt, .int dt, .int vv, .int fq, .int pq], wO t0 9 [.ref t1, .ref t2, .int (nI tn), .int (nI ta), .int (nI ts), .int (nI tk), .long tm, .int tr], wO h0 4 [.ref h1, .ref h2, .ref h3, .ref h4, .ref h5, .ref h6, .ref h7, .ref h8, .ref h9, .ref h10, .ref h11, hv0, hv1, hv2, hv3, hv4], wI (cy 1) h1 4 (fc), (d1, .inl (cy 5, 4, .inr (.inr (.inr (.inr (eF d2 d3 d4 d5)))))), (d4, .inl (cy 2, 8, .inr (.inl (fd2))))] → va_S A s.heap H locs → ∀ ls : Array Slot, lv_has ls 3 [(2, .int (nI i1)), (0, .ref d0), (1, .int 2)] → W p l e (rmk 0 0 0) s m args below meth c H locs 0 0 Q (F0 m 2 ls []) := by
    try clear hP hD hS
    intro zn
    induction zn with
    | zero => intro i1 _ _ hz; exact absurd hz (by omega)
    | succ zn ih1 =>
      intro i1 hf0_1 hf1_1 hmu1 H locs hP hD hS ls hl
      refine lv_iload_n hx hb dX10_find_2 rfl (lv_at hl 0 rfl) ?_
      refine lv_aload_n hx hb dX10_find_3 rfl (lv_at hl 1 rfl) ?_
      refine va_get (D := D) (ci := 10) (v := .ref h0) (C := RX10) (T := TX10) (N := 10) hx hb hg i_X10 hown hK hP 0 rfl rfl 2 (by decide) (hg _ m_257) (fun _ h9 => h9) rfl dX10_find_4 ?_
      refine va_get (D := D) (ci := 4) (v := .ref h1) (C := RX4) (T := TX4) (N := 16) hx hb hg i_X4 hown hK hP 2 rfl rfl 0 (by decide) (hg _ m_336) (fun _ h9 => h9) rfl dX10_find_7 ?_
      refine lv_iload_n hx hb dX10_find_10 rfl (lv_at hl 2 rfl) ?_
      refine va_iald hx hb hK hP 3 1 rfl rfl (by unfold vp_in; decide) dX10_find_11 ?_
      refine lv_topi (fun y_2 hy_2 => ?_)
      obtain rfl : y_2 = nI c2 := hy_2.trans hcn.2.2.1
      refine lv_icmp_ge (tgt := 42) hx hb dX10_find_12 (by decide) (fun c_3 => ?_) (fun c_3 => ?_)
      · have q_4 : c2 ≤ i1 := q_le (a := c2) (b := i1) rfl rfl (by omega) (by omega) c_3
        refine lv_iconst (v := -1) hx hb dX10_find_42 (by decide) ?_
        exact x_iret hQ hx hb hr hlocks hK hP hD hS dX10_find_43 0 ((show ((-1 : Int32) = nI 0 ∧ (fnd fby tn np2 c2 ga = 0) ∧ (0 < c2)) ∨ ((-1 : Int32) = -1 ∧ (¬ fnd fby tn np2 c2 ga < c2)) from Or.inr (⟨rfl, (fd_end (i := i1) (by omega) (by omega) hf1_1)⟩))) [0, 1, 2, 3, 4, 5] (by decide +kernel) rfl (Nat.le_of_ble_eq_true rfl) (Nat.le_of_ble_eq_true rfl)
      · have q_4 : i1 < c2 := q_nle (a := c2) (b := i1) rfl rfl (by omega) (by omega) c_3
        refine lv_aload_n hx hb dX10_find_15 rfl (lv_at hl 1 rfl) ?_
        refine va_get (D := D) (ci := 10) (v := .ref d1) (C := RX10) (T := TX10) (N := 10) hx hb hg i_X10 hown hK hP 0 rfl rfl 1 (by decide) (hg _ m_256) (fun _ h9 => h9) rfl dX10_find_16 ?_
        refine lv_iload_n hx hb dX10_find_19 rfl (lv_at hl 2 rfl) ?_
        refine x_aald (v := d4) hx hb hK hP 4 5 rfl rfl (by unfold vp_in; decide) rfl dX10_find_20 ?_
        refine lv_iload_n hx hb dX10_find_21 rfl (lv_at hl 0 rfl) ?_
        refine va_lald hx hb hK hP 5 2 rfl rfl (vp_in_nI (by omega) (by decide)) dX10_find_22 ?_
        refine lv_topl (fun z_5 ez_5 => ?_)
        refine lv_aload_n hx hb dX10_find_23 rfl (lv_at hl 1 rfl) ?_
        refine va_get (D := D) (ci := 10) (v := .ref t0) (C := RX10) (T := TX10) (N := 10) hx hb hg i_X10 hown hK hP 0 rfl rfl 0 (by decide) (hg _ m_255) (fun _ h9 => h9) rfl dX10_find_24 ?_
        refine va_get (D := D) (ci := 9) (v := .long tm) (C := RX9) (T := TX9) (N := 8) hx hb hg i_X9 hown hK hP 1 rfl rfl 6 (by decide) (hg _ m_225) (fun _ h9 => h9) rfl dX10_find_27 ?_
        refine x_lcmp hx hb dX10_find_30 (fun x_6 ex_6 => ?_)
        refine lv_if_ne (tgt := 36) hx hb dX10_find_31 (by decide) (fun c_31 => ?_) (fun c_31 => ?_)
        · refine lv_iinc (v := nI (i1 + 1)) (lv' := [(2, .int (nI (i1 + 1))), (0, .ref d0), (1, .int 2)]) hx hb dX10_find_36 hl (k := 0) rfl (nI_add i1 1) (by decide) rfl (fun ls hl => ?_)
          refine lv_goto (tgt := 2) hx hb dX10_find_39 (by decide) ?_
          exact ih1  ((i1 + 1)) (by omega) (fd_go (by omega) (by omega) hf1_1 hnm2 ez_5 (hti.2.2.2.1 hk1) ex_6 c_31) (by omega) _ _ (hP.sub [0, 1, 2, 3, 4, 5] rfl) (hD.sub [0, 1, 2, 3, 4, 5] (by decide +kernel) rfl) hS ls (lv_sub hl [0, 1, 2] rfl)
        · refine lv_iload_n hx hb dX10_find_34 rfl (lv_at hl 0 rfl) ?_
          exact x_iret hQ hx hb hr hlocks hK hP hD hS dX10_find_35 i1 ((show ((nI i1 : Int32) = nI i1 ∧ (fnd fby tn np2 c2 ga = i1) ∧ (i1 < c2)) ∨ ((nI i1 : Int32) = -1 ∧ (¬ fnd fby tn np2 c2 ga < c2)) from Or.inl ⟨rfl, ((fd_hit (by omega) (by omega) hf1_1 hnm2 ez_5 (hti.2.2.2.1 hk1) ex_6 c_31).symm), ((by omega))⟩)) [0, 1, 2, 3, 4, 5] (by decide +kernel) rfl (Nat.le_of_ble_eq_true rfl) (Nat.le_of_ble_eq_true rfl)
  exact loop1 _ 0 (by omega) (rfl) (Nat.le_refl _) _ _ (hP.sub [0, 1, 2, 3, 4, 5] rfl) (hD.sub [0, 1, 2, 3, 4, 5] (by decide +kernel) rfl) hS ls (lv_sub hl [0, 1, 2] rfl)
set_option maxHeartbeats 1000000 in
set_option maxRecDepth 100000 in
theorem s_find3 (l : Launch) (D : va_G) (cy : Nat → ClassId) (d0 : Nat) (d1 : Nat) (uh : Int32) (wt : Int32) (dt : Int32) (vv : Int32) (fq : Int32) (pq : Int32) (yf : Value) (t0 : Nat) (t1 : Nat) (t2 : Nat) (tn : Nat) (ta : Nat) (ts : Nat) (tk : Nat) (tm : Int64) (tr : Int32) (h0 : Nat) (h1 : Nat) (h2 : Nat) (h3 : Nat) (h4 : Nat) (h5 : Nat) (h6 : Nat) (h7 : Nat) (h8 : Nat) (h9 : Nat) (h10 : Nat) (h11 : Nat) (hv0 : Value) (hv1 : Value) (hv2 : Value) (hv3 : Value) (hv4 : Value) (fc : Nat → Int32) (c0 : Nat) (c1 : Nat) (c2 : Nat) (c3 : Nat) (d2 : Nat) (d3 : Nat) (d4 : Nat) (d5 : Nat) (fd3 : Nat → Int64) (fby : Nat → Int32) (ga : Nat) (np3 : Nat → Nat) (hcn : cntOK fc c0 c1 c2 c3) (hc0 : c0 ≤ 8) (hc1 : c1 ≤ 4) (hc2 : c2 ≤ 4) (hc3 : c3 ≤ 6) (hk1 : tk = 1) (hti : tkC fby tn ga ta ts tk tm tr) (hnm3 : nmC fby tn np3 c3 fd3) : XMi l D (tyL cy) E0 yX10_find cX10_find 3 (some .int) (rmk 0 0 0) [.ref d0, .int 3] [wO d0 10 [.ref t0, .ref d1, .ref h0, yf, .int uh, .int wt, .int dt, .int vv, .int fq, .int pq], wO t0 9 [.ref t1, .ref t2, .int (nI tn), .int (nI ta), .int (nI ts), .int (nI tk), .long tm, .int tr], wO h0 4 [.ref h1, .ref h2, .ref h3, .ref h4, .ref h5, .ref h6, .ref h7, .ref h8, .ref h9, .ref h10, .ref h11, hv0, hv1, hv2, hv3, hv4], wI (cy 1) h1 4 (fc), (d1, .inl (cy 5, 4, .inr (.inr (.inr (.inr (eF d2 d3 d4 d5)))))), (d5, .inl (cy 2, 8, .inr (.inl (fd3))))] (fun (r : Int32) (jr : Nat) => ((r = nI jr ∧ (fnd fby tn np3 c3 ga = jr) ∧ (jr < c3)) ∨ (r = -1 ∧ (¬ fnd fby tn np3 c3 ga < c3)))) (fun (jr : Nat) => [wO d0 10 [.ref t0, .ref d1, .ref h0, yf, .int uh, .int wt, .int dt, .int vv, .int fq, .int pq], wO t0 9 [.ref t1, .ref t2, .int (nI tn), .int (nI ta), .int (nI ts), .int (nI tk), .long tm, .int tr], wO h0 4 [.ref h1, .ref h2, .ref h3, .ref h4, .ref h5, .ref h6, .ref h7, .ref h8, .ref h9, .ref h10, .ref h11, hv0, hv1, hv2, hv3, hv4], wI (cy 1) h1 4 (fc), (d1, .inl (cy 5, 4, .inr (.inr (.inr (.inr (eF d2 d3 d4 d5)))))), (d5, .inl (cy 2, 8, .inr (.inl (fd3))))]) := by
  refine XMi.start (by decide) (Nat.le_of_ble_eq_true rfl) ?_
  intro p e s m below meth c args A ls Q hat hQ
  obtain ⟨hx, hb, hr, hml, hown, hg, hlocks, hin, hK, hA, hP, hD, hS, hE, hl⟩ := hat
  have hown : s.vm.findClass RX10 = some m.cls := hown
  have hl : lv_has ls 3 [(0, .ref d0), (1, .int 3)] := hl
  refine lv_iconst (v := 0) hx hb dX10_find_0 (by decide) ?_
  refine lv_istore_n (lv' := [(2, .int 0), (0, .ref d0), (1, .int 3)]) hx hb dX10_find_1 rfl hl (by decide) rfl (fun ls hl => ?_)
  have loop1 : ∀ (zn : Nat) (i1 : Nat), (i1 ≤ c3) → (fdF fby tn np3 ga (c3 - i1) i1 = fnd fby tn np3 c3 ga) → c3 - i1 + 1 ≤ zn → ∀ (H : Heap) (locs : List Loc), va_P D vwCl [wO d0 10 [.ref t0, .ref d1, .ref h0, yf, .int uh, .int wt, .int dt, .int vv, .int fq, .int pq], wO t0 9 [.ref t1, .ref t2, .int (nI tn), .int (nI ta), .int (nI ts), .int (nI tk), .long tm, .int tr], wO h0 4 [.ref h1, .ref h2, .ref h3, .ref h4, .ref h5, .ref h6, .ref h7, .ref h8, .ref h9, .ref h10, .ref h11, hv0, hv1, hv2, hv3, hv4], wI (cy 1) h1 4 (fc), (d1, .inl (cy 5, 4, .inr (.inr (.inr (.inr (eF d2 d3 d4 d5)))))), (d5, .inl (cy 2, 8, .inr (.inl (fd3))))] H → va_D A [wO d0 10 [.ref t0, .ref d1, .ref h0, yf, .int uh, .int wt, .int dt, .int vv, .int fq, .int pq], wO t0 9 [.ref t1, .ref t2, .int (nI tn), .int (nI ta), .int (nI ts), .int (nI tk), .long tm, .int tr], wO h0 4 [.ref h1, .ref h2, .ref h3, .ref h4, .ref h5, .ref h6, .ref h7, .ref h8, .ref h9, .ref h10, .ref h11, hv0, hv1, hv2, hv3, hv4], wI (cy 1) h1 4 (fc), (d1, .inl (cy 5, 4, .inr (.inr (.inr (.inr (eF d2 d3 d4 d5)))))), (d5, .inl (cy 2, 8, .inr (.inl (fd3))))] → va_S A s.heap H locs → ∀ ls : Array Slot, lv_has ls 3 [(2, .int (nI i1)), (0, .ref d0), (1, .int 3)] → W p l e (rmk 0 0 0) s m args below meth c H locs 0 0 Q (F0 m 2 ls []) := by
    try clear hP hD hS
    intro zn
    induction zn with
    | zero => intro i1 _ _ hz; exact absurd hz (by omega)
    | succ zn ih1 =>
      intro i1 hf0_1 hf1_1 hmu1 H locs hP hD hS ls hl
      refine lv_iload_n hx hb dX10_find_2 rfl (lv_at hl 0 rfl) ?_
      refine lv_aload_n hx hb dX10_find_3 rfl (lv_at hl 1 rfl) ?_
      refine va_get (D := D) (ci := 10) (v := .ref h0) (C := RX10) (T := TX10) (N := 10) hx hb hg i_X10 hown hK hP 0 rfl rfl 2 (by decide) (hg _ m_257) (fun _ h9 => h9) rfl dX10_find_4 ?_
      refine va_get (D := D) (ci := 4) (v := .ref h1) (C := RX4) (T := TX4) (N := 16) hx hb hg i_X4 hown hK hP 2 rfl rfl 0 (by decide) (hg _ m_336) (fun _ h9 => h9) rfl dX10_find_7 ?_
      refine lv_iload_n hx hb dX10_find_10 rfl (lv_at hl 2 rfl) ?_
      refine va_iald hx hb hK hP 3 1 rfl rfl (by unfold vp_in; decide) dX10_find_11 ?_
      refine lv_topi (fun y_2 hy_2 => ?_)
      obtain rfl : y_2 = nI c3 := hy_2.trans hcn.2.2.2
      refine lv_icmp_ge (tgt := 42) hx hb dX10_find_12 (by decide) (fun c_3 => ?_) (fun c_3 => ?_)
      · have q_4 : c3 ≤ i1 := q_le (a := c3) (b := i1) rfl rfl (by omega) (by omega) c_3
        refine lv_iconst (v := -1) hx hb dX10_find_42 (by decide) ?_
        exact x_iret hQ hx hb hr hlocks hK hP hD hS dX10_find_43 0 ((show ((-1 : Int32) = nI 0 ∧ (fnd fby tn np3 c3 ga = 0) ∧ (0 < c3)) ∨ ((-1 : Int32) = -1 ∧ (¬ fnd fby tn np3 c3 ga < c3)) from Or.inr (⟨rfl, (fd_end (i := i1) (by omega) (by omega) hf1_1)⟩))) [0, 1, 2, 3, 4, 5] (by decide +kernel) rfl (Nat.le_of_ble_eq_true rfl) (Nat.le_of_ble_eq_true rfl)
      · have q_4 : i1 < c3 := q_nle (a := c3) (b := i1) rfl rfl (by omega) (by omega) c_3
        refine lv_aload_n hx hb dX10_find_15 rfl (lv_at hl 1 rfl) ?_
        refine va_get (D := D) (ci := 10) (v := .ref d1) (C := RX10) (T := TX10) (N := 10) hx hb hg i_X10 hown hK hP 0 rfl rfl 1 (by decide) (hg _ m_256) (fun _ h9 => h9) rfl dX10_find_16 ?_
        refine lv_iload_n hx hb dX10_find_19 rfl (lv_at hl 2 rfl) ?_
        refine x_aald (v := d5) hx hb hK hP 4 5 rfl rfl (by unfold vp_in; decide) rfl dX10_find_20 ?_
        refine lv_iload_n hx hb dX10_find_21 rfl (lv_at hl 0 rfl) ?_
        refine va_lald hx hb hK hP 5 2 rfl rfl (vp_in_nI (by omega) (by decide)) dX10_find_22 ?_
        refine lv_topl (fun z_5 ez_5 => ?_)
        refine lv_aload_n hx hb dX10_find_23 rfl (lv_at hl 1 rfl) ?_
        refine va_get (D := D) (ci := 10) (v := .ref t0) (C := RX10) (T := TX10) (N := 10) hx hb hg i_X10 hown hK hP 0 rfl rfl 0 (by decide) (hg _ m_255) (fun _ h9 => h9) rfl dX10_find_24 ?_
        refine va_get (D := D) (ci := 9) (v := .long tm) (C := RX9) (T := TX9) (N := 8) hx hb hg i_X9 hown hK hP 1 rfl rfl 6 (by decide) (hg _ m_225) (fun _ h9 => h9) rfl dX10_find_27 ?_
        refine x_lcmp hx hb dX10_find_30 (fun x_6 ex_6 => ?_)
        refine lv_if_ne (tgt := 36) hx hb dX10_find_31 (by decide) (fun c_31 => ?_) (fun c_31 => ?_)
        · refine lv_iinc (v := nI (i1 + 1)) (lv' := [(2, .int (nI (i1 + 1))), (0, .ref d0), (1, .int 3)]) hx hb dX10_find_36 hl (k := 0) rfl (nI_add i1 1) (by decide) rfl (fun ls hl => ?_)
          refine lv_goto (tgt := 2) hx hb dX10_find_39 (by decide) ?_
          exact ih1  ((i1 + 1)) (by omega) (fd_go (by omega) (by omega) hf1_1 hnm3 ez_5 (hti.2.2.2.1 hk1) ex_6 c_31) (by omega) _ _ (hP.sub [0, 1, 2, 3, 4, 5] rfl) (hD.sub [0, 1, 2, 3, 4, 5] (by decide +kernel) rfl) hS ls (lv_sub hl [0, 1, 2] rfl)
        · refine lv_iload_n hx hb dX10_find_34 rfl (lv_at hl 0 rfl) ?_
          exact x_iret hQ hx hb hr hlocks hK hP hD hS dX10_find_35 i1 ((show ((nI i1 : Int32) = nI i1 ∧ (fnd fby tn np3 c3 ga = i1) ∧ (i1 < c3)) ∨ ((nI i1 : Int32) = -1 ∧ (¬ fnd fby tn np3 c3 ga < c3)) from Or.inl ⟨rfl, ((fd_hit (by omega) (by omega) hf1_1 hnm3 ez_5 (hti.2.2.2.1 hk1) ex_6 c_31).symm), ((by omega))⟩)) [0, 1, 2, 3, 4, 5] (by decide +kernel) rfl (Nat.le_of_ble_eq_true rfl) (Nat.le_of_ble_eq_true rfl)
  exact loop1 _ 0 (by omega) (rfl) (Nat.le_refl _) _ _ (hP.sub [0, 1, 2, 3, 4, 5] rfl) (hD.sub [0, 1, 2, 3, 4, 5] (by decide +kernel) rfl) hS ls (lv_sub hl [0, 1, 2] rfl)
theorem gdX10_known_0 : decode cX10_known 0 = .ok (.aload_n 0, 1) ∧ decode cX10_known 1 = .ok (.getfield 16, 3) ∧ decode cX10_known 4 = .ok (.getfield 55, 3) ∧ decode cX10_known 7 = .ok (.iconst 1, 1) ∧ decode cX10_known 8 = .ok (.if_icmp .eq 11, 3) ∧ decode cX10_known 19 = .ok (.aload_n 0, 1) ∧ decode cX10_known 20 = .ok (.iload_n 1, 1) ∧ decode cX10_known 21 = .ok (.invokevirtual 169, 3) := by decide +kernel
theorem dX10_known_0 : decode cX10_known 0 = .ok (.aload_n 0, 1) := gdX10_known_0.1
theorem dX10_known_1 : decode cX10_known 1 = .ok (.getfield 16, 3) := gdX10_known_0.2.1
theorem dX10_known_4 : decode cX10_known 4 = .ok (.getfield 55, 3) := gdX10_known_0.2.2.1
theorem dX10_known_7 : decode cX10_known 7 = .ok (.iconst 1, 1) := gdX10_known_0.2.2.2.1
theorem dX10_known_8 : decode cX10_known 8 = .ok (.if_icmp .eq 11, 3) := gdX10_known_0.2.2.2.2.1
theorem dX10_known_19 : decode cX10_known 19 = .ok (.aload_n 0, 1) := gdX10_known_0.2.2.2.2.2.1
theorem dX10_known_20 : decode cX10_known 20 = .ok (.iload_n 1, 1) := gdX10_known_0.2.2.2.2.2.2.1
theorem dX10_known_21 : decode cX10_known 21 = .ok (.invokevirtual 169, 3) := gdX10_known_0.2.2.2.2.2.2.2
theorem k_X10_169 : xV RX10 RX10 169 yX10_find cX10_find 3 (some .int) 1 := ⟨⟨m_827, m_829, m_9, m_136, m_830⟩, rfl, by decide, by decide, by decide +kernel⟩
theorem gdX10_known_24 : decode cX10_known 24 = .ok (.istore_n 2, 1) ∧ decode cX10_known 25 = .ok (.iload_n 2, 1) ∧ decode cX10_known 26 = .ok (.iconst (-1), 1) ∧ decode cX10_known 27 = .ok (.if_icmp .ne 9, 3) ∧ decode cX10_known 36 = .ok (.iload_n 2, 1) ∧ decode cX10_known 37 = .ok (.ireturn, 1) ∧ decode cX10_known 30 = .ok (.aload_n 0, 1) ∧ decode cX10_known 31 = .ok (.iconst 5, 1) ∧ decode cX10_known 32 = .ok (.invokevirtual 110, 3) ∧ decode cX10_known 35 = .ok (.pop, 1) ∧ decode cX10_known 11 = .ok (.aload_n 0, 1) ∧ decode cX10_known 12 = .ok (.iconst 2, 1) := by decide +kernel
theorem dX10_known_24 : decode cX10_known 24 = .ok (.istore_n 2, 1) := gdX10_known_24.1
theorem dX10_known_25 : decode cX10_known 25 = .ok (.iload_n 2, 1) := gdX10_known_24.2.1
theorem dX10_known_26 : decode cX10_known 26 = .ok (.iconst (-1), 1) := gdX10_known_24.2.2.1
theorem dX10_known_27 : decode cX10_known 27 = .ok (.if_icmp .ne 9, 3) := gdX10_known_24.2.2.2.1
theorem dX10_known_36 : decode cX10_known 36 = .ok (.iload_n 2, 1) := gdX10_known_24.2.2.2.2.1
theorem dX10_known_37 : decode cX10_known 37 = .ok (.ireturn, 1) := gdX10_known_24.2.2.2.2.2.1
theorem dX10_known_30 : decode cX10_known 30 = .ok (.aload_n 0, 1) := gdX10_known_24.2.2.2.2.2.2.1
theorem dX10_known_31 : decode cX10_known 31 = .ok (.iconst 5, 1) := gdX10_known_24.2.2.2.2.2.2.2.1
theorem dX10_known_32 : decode cX10_known 32 = .ok (.invokevirtual 110, 3) := gdX10_known_24.2.2.2.2.2.2.2.2.1
theorem dX10_known_35 : decode cX10_known 35 = .ok (.pop, 1) := gdX10_known_24.2.2.2.2.2.2.2.2.2.1
theorem dX10_known_11 : decode cX10_known 11 = .ok (.aload_n 0, 1) := gdX10_known_24.2.2.2.2.2.2.2.2.2.2.1
theorem dX10_known_12 : decode cX10_known 12 = .ok (.iconst 2, 1) := gdX10_known_24.2.2.2.2.2.2.2.2.2.2.2
theorem gdX10_known_13 : decode cX10_known 13 = .ok (.invokevirtual 110, 3) ∧ decode cX10_known 16 = .ok (.pop, 1) ∧ decode cX10_known 17 = .ok (.iconst (-1), 1) ∧ decode cX10_known 18 = .ok (.ireturn, 1) := by decide +kernel
theorem dX10_known_13 : decode cX10_known 13 = .ok (.invokevirtual 110, 3) := gdX10_known_13.1
theorem dX10_known_16 : decode cX10_known 16 = .ok (.pop, 1) := gdX10_known_13.2.1
theorem dX10_known_17 : decode cX10_known 17 = .ok (.iconst (-1), 1) := gdX10_known_13.2.2.1
theorem dX10_known_18 : decode cX10_known 18 = .ok (.ireturn, 1) := gdX10_known_13.2.2.2
set_option maxHeartbeats 1000000 in
set_option maxRecDepth 100000 in
theorem s_known0 (l : Launch) (D : va_G) (cy : Nat → ClassId) (d0 : Nat) (d1 : Nat) (uh : Int32) (wt : Int32) (dt : Int32) (vv : Int32) (fq : Int32) (pq : Int32) (yf : Value) (t0 : Nat) (t1 : Nat) (t2 : Nat) (tn : Nat) (ta : Nat) (ts : Nat) (tk : Nat) (tm : Int64) (tr : Int32) (h0 : Nat) (h1 : Nat) (h2 : Nat) (h3 : Nat) (h4 : Nat) (h5 : Nat) (h6 : Nat) (h7 : Nat) (h8 : Nat) (h9 : Nat) (h10 : Nat) (h11 : Nat) (hv0 : Value) (hv1 : Value) (hv2 : Value) (hv3 : Value) (hv4 : Value) (fc : Nat → Int32) (c0 : Nat) (c1 : Nat) (c2 : Nat) (c3 : Nat) (d2 : Nat) (d3 : Nat) (d4 : Nat) (d5 : Nat) (fd0 : Nat → Int64) (fby : Nat → Int32) (ga : Nat) (np0 : Nat → Nat) (hcn : cntOK fc c0 c1 c2 c3) (hc0 : c0 ≤ 8) (hc1 : c1 ≤ 4) (hc2 : c2 ≤ 4) (hc3 : c3 ≤ 6) (htk : tk ≤ 123) (hti : tkC fby tn ga ta ts tk tm tr) (hnm0 : nmC fby tn np0 c0 fd0) : XMi l D (tyL cy) E0 yX10_known cX10_known 3 (some .int) (rmk 1 0 0) [.ref d0, .int 0] [wO d0 10 [.ref t0, .ref d1, .ref h0, yf, .int uh, .int wt, .int dt, .int vv, .int fq, .int pq], wO t0 9 [.ref t1, .ref t2, .int (nI tn), .int (nI ta), .int (nI ts), .int (nI tk), .long tm, .int tr], wO h0 4 [.ref h1, .ref h2, .ref h3, .ref h4, .ref h5, .ref h6, .ref h7, .ref h8, .ref h9, .ref h10, .ref h11, hv0, hv1, hv2, hv3, hv4], wI (cy 1) h1 4 (fc), (d1, .inl (cy 5, 4, .inr (.inr (.inr (.inr (eF d2 d3 d4 d5)))))), (d2, .inl (cy 2, 8, .inr (.inl (fd0))))] (fun (r : Int32) (u : Int32 × Int32 × Nat × Nat × Nat) => ((r = nI u.2.2.1 ∧ (knoS fby tn c0 np0 ga = .inr u.2.2.1) ∧ (fq = u.1) ∧ (pq = u.2.1) ∧ (u.2.2.1 < c0)) ∨ (r = -1 ∧ (knoS fby tn c0 np0 ga = .inl (u.2.2.2.1, u.2.2.2.2)) ∧ (flt fby tn u.2.2.2.2 u.2.2.2.1 u.1 u.2.1)))) (fun (u : Int32 × Int32 × Nat × Nat × Nat) => [wO d0 10 [.ref t0, .ref d1, .ref h0, yf, .int uh, .int wt, .int dt, .int vv, .int u.1, .int u.2.1], wO t0 9 [.ref t1, .ref t2, .int (nI tn), .int (nI ta), .int (nI ts), .int (nI tk), .long tm, .int tr], wO h0 4 [.ref h1, .ref h2, .ref h3, .ref h4, .ref h5, .ref h6, .ref h7, .ref h8, .ref h9, .ref h10, .ref h11, hv0, hv1, hv2, hv3, hv4], wI (cy 1) h1 4 (fc), (d1, .inl (cy 5, 4, .inr (.inr (.inr (.inr (eF d2 d3 d4 d5)))))), (d2, .inl (cy 2, 8, .inr (.inl (fd0))))]) := by
  refine XMi.start (by decide) (Nat.le_of_ble_eq_true rfl) ?_
  intro p e s m below meth c args A ls Q hat hQ
  obtain ⟨hx, hb, hr, hml, hown, hg, hlocks, hin, hK, hA, hP, hD, hS, hE, hl⟩ := hat
  have hown : s.vm.findClass RX10 = some m.cls := hown
  have hl : lv_has ls 3 [(0, .ref d0), (1, .int 0)] := hl
  refine lv_aload_n hx hb dX10_known_0 rfl (lv_at hl 0 rfl) ?_
  refine va_get (D := D) (ci := 10) (v := .ref t0) (C := RX10) (T := TX10) (N := 10) hx hb hg i_X10 hown hK hP 0 rfl rfl 0 (by decide) (hg _ m_255) (fun _ h9 => h9) rfl dX10_known_1 ?_
  refine va_get (D := D) (ci := 9) (v := .int (nI tk)) (C := RX9) (T := TX9) (N := 8) hx hb hg i_X9 hown hK hP 1 rfl rfl 5 (by decide) (hg _ m_222) (fun _ h9 => h9) rfl dX10_known_4 ?_
  refine lv_iconst (v := 1) hx hb dX10_known_7 (by decide) ?_
  refine lv_icmp_eq (tgt := 19) hx hb dX10_known_8 (by decide) (fun c_1 => ?_) (fun c_1 => ?_)
  · have q_2 : tk = 1 := q_eq (a := tk) (b := 1) rfl rfl (by omega) (by omega) c_1
    refine lv_aload_n hx hb dX10_known_19 rfl (lv_at hl 0 rfl) ?_
    refine lv_iload_n hx hb dX10_known_20 rfl (lv_at hl 1 rfl) ?_
    refine x_callVi (q := (RX10, TX10, 10)) (ci := 10) (q0 := 0) (wr := []) (rest := []) ⟨hx, hb, hml, hown, hg, hl.1⟩ k_X10_169 (s_find0 l D cy d0 d1 uh wt dt vv fq pq yf t0 t1 t2 tn ta ts tk tm tr h0 h1 h2 h3 h4 h5 h6 h7 h8 h9 h10 h11 hv0 hv1 hv2 hv3 hv4 fc c0 c1 c2 c3 d2 d3 d4 d5 fd0 fby ga np0 (hcn) (by omega) (by omega) (by omega) (by omega) (by omega) (hti) (hnm0)) E0_blind hK hP hD hS hA [0, 1, 2, 3, 4, 5] [] ⟨rfl, rfl, by decide +kernel, by decide +kernel, by decide +kernel⟩ rfl rfl (fun _ _ _ => trivial) dX10_known_21 rfl rfl (Nat.le_of_ble_eq_true rfl) ⟨Nat.le_of_ble_eq_true rfl, Nat.le_of_ble_eq_true rfl⟩ ⟨Nat.le_of_ble_eq_true rfl, Nat.le_of_ble_eq_true rfl⟩ (fun zr3 zu3 H locs hw3 hP9 hD9 hS9 => ?_)
    clear hP hD hS
    obtain ⟨jr_4, rfl⟩ : ∃ z, z = zu3 := ⟨_, rfl⟩
    refine reW [wO d0 10 [.ref t0, .ref d1, .ref h0, yf, .int uh, .int wt, .int dt, .int vv, .int fq, .int pq], wO t0 9 [.ref t1, .ref t2, .int (nI tn), .int (nI ta), .int (nI ts), .int (nI tk), .long tm, .int tr], wO h0 4 [.ref h1, .ref h2, .ref h3, .ref h4, .ref h5, .ref h6, .ref h7, .ref h8, .ref h9, .ref h10, .ref h11, hv0, hv1, hv2, hv3, hv4], wI (cy 1) h1 4 (fc), (d1, .inl (cy 5, 4, .inr (.inr (.inr (.inr (eF d2 d3 d4 d5)))))), (d2, .inl (cy 2, 8, .inr (.inl (fd0))))] hP9 hD9 hS9 (fun hP hD hS => ?_)
    clear hP9 hD9 hS9
    refine W.widen (k := 0) (n := 0) (Nat.le_of_ble_eq_true rfl) (Nat.le_of_ble_eq_true rfl) ?_
    replace hw3 : ((zr3 = nI jr_4 ∧ (fnd fby tn np0 c0 ga = jr_4) ∧ (jr_4 < c0)) ∨ (zr3 = -1 ∧ (¬ fnd fby tn np0 c0 ga < c0))) := hw3
    have f_5 := hw3
    rcases f_5 with ⟨hz_8, a_6, a_7⟩ | ⟨hz_10, a_9⟩
    · subst hz_8
      subst a_6
      refine lv_istore_n (lv' := [(2, .int (nI (fnd fby tn np0 c0 ga))), (0, .ref d0), (1, .int 0)]) hx hb dX10_known_24 rfl hl (by decide) rfl (fun ls hl => ?_)
      refine lv_iload_n hx hb dX10_known_25 rfl (lv_at hl 0 rfl) ?_
      refine lv_iconst (v := -1) hx hb dX10_known_26 (by decide) ?_
      refine lv_icmp_ne (tgt := 36) hx hb dX10_known_27 (by decide) (fun _ => ?_) (fun h => absurd h (nI_nneg (by omega) (by decide)))
      refine lv_iload_n hx hb dX10_known_36 rfl (lv_at hl 0 rfl) ?_
      exact x_iret hQ hx hb hr hlocks hK hP hD hS dX10_known_37 (fq, pq, (fnd fby tn np0 c0 ga), 0, 0) ((show ((nI (fnd fby tn np0 c0 ga) : Int32) = nI ((fnd fby tn np0 c0 ga)) ∧ (knoS fby tn c0 np0 ga = .inr ((fnd fby tn np0 c0 ga))) ∧ (fq = fq) ∧ (pq = pq) ∧ (((fnd fby tn np0 c0 ga)) < c0)) ∨ ((nI (fnd fby tn np0 c0 ga) : Int32) = -1 ∧ (knoS fby tn c0 np0 ga = .inl (0, 0)) ∧ (flt fby tn 0 0 fq pq)) from Or.inl ⟨rfl, ((if_pos (by have h9 := hti.2.2.1; omega)).trans (if_pos a_7)), (rfl), (rfl), (a_7)⟩)) [0, 1, 2, 3, 4, 5] (by decide +kernel) rfl (Nat.le_of_ble_eq_true rfl) (Nat.le_of_ble_eq_true rfl)
    · subst hz_10
      refine lv_istore_n (lv' := [(2, .int (-1)), (0, .ref d0), (1, .int 0)]) hx hb dX10_known_24 rfl hl (by decide) rfl (fun ls hl => ?_)
      refine lv_iload_n hx hb dX10_known_25 rfl (lv_at hl 0 rfl) ?_
      refine lv_iconst (v := -1) hx hb dX10_known_26 (by decide) ?_
      refine lv_icmp_ne (tgt := 36) hx hb dX10_known_27 (by decide) (fun h => absurd (by decide) h) (fun _ => ?_)
      refine lv_aload_n hx hb dX10_known_30 rfl (lv_at hl 1 rfl) ?_
      refine lv_iconst (v := 5) hx hb dX10_known_31 (by decide) ?_
      refine x_callVi (q := (RX10, TX10, 10)) (ci := 10) (q0 := 0) (wr := [wO h0 4 [.ref h1, .ref h2, .ref h3, .ref h4, .ref h5, .ref h6, .ref h7, .ref h8, .ref h9, .ref h10, .ref h11, hv0, hv1, hv2, hv3, hv4], wI (cy 1) h1 4 (fc), (d1, .inl (cy 5, 4, .inr (.inr (.inr (.inr (eF d2 d3 d4 d5)))))), (d2, .inl (cy 2, 8, .inr (.inl (fd0))))]) (rest := []) ⟨hx, hb, hml, hown, hg, hl.1⟩ k_X10_110 (s_fail l D cy d0 d1 uh wt dt vv fq pq ((.ref h0)) yf t0 t1 t2 tn ta ts tk tm tr 5 (by omega)) E0_blind hK hP hD hS hA [0, 1] [2, 3, 4, 5] ⟨rfl, rfl, by decide +kernel, by decide +kernel, by decide +kernel⟩ rfl rfl (fun _ _ _ => trivial) dX10_known_32 rfl rfl (Nat.le_of_ble_eq_true rfl) ⟨Nat.le_of_ble_eq_true rfl, Nat.le_of_ble_eq_true rfl⟩ ⟨Nat.le_of_ble_eq_true rfl, Nat.le_of_ble_eq_true rfl⟩ (fun zr11 zu11 H locs hw11 hP9 hD9 hS9 => ?_)
      clear hP hD hS
      obtain ⟨fq2_12, pq2_13⟩ := zu11
      refine reW [wO h0 4 [.ref h1, .ref h2, .ref h3, .ref h4, .ref h5, .ref h6, .ref h7, .ref h8, .ref h9, .ref h10, .ref h11, hv0, hv1, hv2, hv3, hv4], wI (cy 1) h1 4 (fc), (d1, .inl (cy 5, 4, .inr (.inr (.inr (.inr (eF d2 d3 d4 d5)))))), (d2, .inl (cy 2, 8, .inr (.inl (fd0)))), wO d0 10 [.ref t0, .ref d1, .ref h0, yf, .int uh, .int wt, .int dt, .int vv, .int fq2_12, .int pq2_13], wO t0 9 [.ref t1, .ref t2, .int (nI tn), .int (nI ta), .int (nI ts), .int (nI tk), .long tm, .int tr]] hP9 hD9 hS9 (fun hP hD hS => ?_)
      clear hP9 hD9 hS9
      refine W.widen (k := 0) (n := 0) (Nat.le_of_ble_eq_true rfl) (Nat.le_of_ble_eq_true rfl) ?_
      replace hw11 : ((zr11 = 0 ∧ (fq2_12 = nI (if tk = 3 then 1 else 5)) ∧ (pq2_13 = nI ts))) := hw11
      have f_14 := hw11
      rcases f_14 with ⟨hz_17, a_15, a_16⟩
      subst hz_17
      refine lv_pop hx hb dX10_known_35 rfl ?_
      refine lv_iload_n hx hb dX10_known_36 rfl (lv_at hl 0 rfl) ?_
      exact x_iret hQ hx hb hr hlocks hK hP hD hS dX10_known_37 (fq2_12, pq2_13, 0, 5, ga) ((show ((-1 : Int32) = nI 0 ∧ (knoS fby tn c0 np0 ga = .inr 0) ∧ (fq = fq2_12) ∧ (pq = pq2_13) ∧ (0 < c0)) ∨ ((-1 : Int32) = -1 ∧ (knoS fby tn c0 np0 ga = .inl (5, ga)) ∧ (flt fby tn ga 5 fq2_12 pq2_13)) from Or.inr (⟨rfl, ((if_pos (by have h9 := hti.2.2.1; omega)).trans (if_neg a_9)), (flt_of hti a_15 a_16)⟩))) [4, 5, 0, 1, 2, 3] (by decide +kernel) rfl (Nat.le_of_ble_eq_true rfl) (Nat.le_of_ble_eq_true rfl)
  · have q_2 : ¬ tk = 1 := q_ne (a := tk) (b := 1) rfl rfl (by omega) (by omega) c_1
    refine lv_aload_n hx hb dX10_known_11 rfl (lv_at hl 0 rfl) ?_
    refine lv_iconst (v := 2) hx hb dX10_known_12 (by decide) ?_
    refine x_callVi (q := (RX10, TX10, 10)) (ci := 10) (q0 := 0) (wr := [wO h0 4 [.ref h1, .ref h2, .ref h3, .ref h4, .ref h5, .ref h6, .ref h7, .ref h8, .ref h9, .ref h10, .ref h11, hv0, hv1, hv2, hv3, hv4], wI (cy 1) h1 4 (fc), (d1, .inl (cy 5, 4, .inr (.inr (.inr (.inr (eF d2 d3 d4 d5)))))), (d2, .inl (cy 2, 8, .inr (.inl (fd0))))]) (rest := []) ⟨hx, hb, hml, hown, hg, hl.1⟩ k_X10_110 (s_fail l D cy d0 d1 uh wt dt vv fq pq ((.ref h0)) yf t0 t1 t2 tn ta ts tk tm tr 2 (by omega)) E0_blind hK hP hD hS hA [0, 1] [2, 3, 4, 5] ⟨rfl, rfl, by decide +kernel, by decide +kernel, by decide +kernel⟩ rfl rfl (fun _ _ _ => trivial) dX10_known_13 rfl rfl (Nat.le_of_ble_eq_true rfl) ⟨Nat.le_of_ble_eq_true rfl, Nat.le_of_ble_eq_true rfl⟩ ⟨Nat.le_of_ble_eq_true rfl, Nat.le_of_ble_eq_true rfl⟩ (fun zr18 zu18 H locs hw18 hP9 hD9 hS9 => ?_)
    clear hP hD hS
    obtain ⟨fq2_19, pq2_20⟩ := zu18
    refine reW [wO h0 4 [.ref h1, .ref h2, .ref h3, .ref h4, .ref h5, .ref h6, .ref h7, .ref h8, .ref h9, .ref h10, .ref h11, hv0, hv1, hv2, hv3, hv4], wI (cy 1) h1 4 (fc), (d1, .inl (cy 5, 4, .inr (.inr (.inr (.inr (eF d2 d3 d4 d5)))))), (d2, .inl (cy 2, 8, .inr (.inl (fd0)))), wO d0 10 [.ref t0, .ref d1, .ref h0, yf, .int uh, .int wt, .int dt, .int vv, .int fq2_19, .int pq2_20], wO t0 9 [.ref t1, .ref t2, .int (nI tn), .int (nI ta), .int (nI ts), .int (nI tk), .long tm, .int tr]] hP9 hD9 hS9 (fun hP hD hS => ?_)
    clear hP9 hD9 hS9
    refine W.widen (k := 0) (n := 0) (Nat.le_of_ble_eq_true rfl) (Nat.le_of_ble_eq_true rfl) ?_
    replace hw18 : ((zr18 = 0 ∧ (fq2_19 = nI (if tk = 3 then 1 else 2)) ∧ (pq2_20 = nI ts))) := hw18
    have f_21 := hw18
    rcases f_21 with ⟨hz_24, a_22, a_23⟩
    subst hz_24
    refine lv_pop hx hb dX10_known_16 rfl ?_
    refine lv_iconst (v := -1) hx hb dX10_known_17 (by decide) ?_
    exact x_iret hQ hx hb hr hlocks hK hP hD hS dX10_known_18 (fq2_19, pq2_20, 0, 2, ga) ((show ((-1 : Int32) = nI 0 ∧ (knoS fby tn c0 np0 ga = .inr 0) ∧ (fq = fq2_19) ∧ (pq = pq2_20) ∧ (0 < c0)) ∨ ((-1 : Int32) = -1 ∧ (knoS fby tn c0 np0 ga = .inl (2, ga)) ∧ (flt fby tn ga 2 fq2_19 pq2_20)) from Or.inr (⟨rfl, (if_neg (by have h9 := hti.2.2.1; omega)), (flt_of hti a_22 a_23)⟩))) [4, 5, 0, 1, 2, 3] (by decide +kernel) rfl (Nat.le_of_ble_eq_true rfl) (Nat.le_of_ble_eq_true rfl)
set_option maxHeartbeats 1000000 in
set_option maxRecDepth 100000 in
theorem s_known3 (l : Launch) (D : va_G) (cy : Nat → ClassId) (d0 : Nat) (d1 : Nat) (uh : Int32) (wt : Int32) (dt : Int32) (vv : Int32) (fq : Int32) (pq : Int32) (yf : Value) (t0 : Nat) (t1 : Nat) (t2 : Nat) (tn : Nat) (ta : Nat) (ts : Nat) (tk : Nat) (tm : Int64) (tr : Int32) (h0 : Nat) (h1 : Nat) (h2 : Nat) (h3 : Nat) (h4 : Nat) (h5 : Nat) (h6 : Nat) (h7 : Nat) (h8 : Nat) (h9 : Nat) (h10 : Nat) (h11 : Nat) (hv0 : Value) (hv1 : Value) (hv2 : Value) (hv3 : Value) (hv4 : Value) (fc : Nat → Int32) (c0 : Nat) (c1 : Nat) (c2 : Nat) (c3 : Nat) (d2 : Nat) (d3 : Nat) (d4 : Nat) (d5 : Nat) (fd3 : Nat → Int64) (fby : Nat → Int32) (ga : Nat) (np3 : Nat → Nat) (hcn : cntOK fc c0 c1 c2 c3) (hc0 : c0 ≤ 8) (hc1 : c1 ≤ 4) (hc2 : c2 ≤ 4) (hc3 : c3 ≤ 6) (htk : tk ≤ 123) (hti : tkC fby tn ga ta ts tk tm tr) (hnm3 : nmC fby tn np3 c3 fd3) : XMi l D (tyL cy) E0 yX10_known cX10_known 3 (some .int) (rmk 1 0 0) [.ref d0, .int 3] [wO d0 10 [.ref t0, .ref d1, .ref h0, yf, .int uh, .int wt, .int dt, .int vv, .int fq, .int pq], wO t0 9 [.ref t1, .ref t2, .int (nI tn), .int (nI ta), .int (nI ts), .int (nI tk), .long tm, .int tr], wO h0 4 [.ref h1, .ref h2, .ref h3, .ref h4, .ref h5, .ref h6, .ref h7, .ref h8, .ref h9, .ref h10, .ref h11, hv0, hv1, hv2, hv3, hv4], wI (cy 1) h1 4 (fc), (d1, .inl (cy 5, 4, .inr (.inr (.inr (.inr (eF d2 d3 d4 d5)))))), (d5, .inl (cy 2, 8, .inr (.inl (fd3))))] (fun (r : Int32) (u : Int32 × Int32 × Nat × Nat × Nat) => ((r = nI u.2.2.1 ∧ (knoS fby tn c3 np3 ga = .inr u.2.2.1) ∧ (fq = u.1) ∧ (pq = u.2.1) ∧ (u.2.2.1 < c3)) ∨ (r = -1 ∧ (knoS fby tn c3 np3 ga = .inl (u.2.2.2.1, u.2.2.2.2)) ∧ (flt fby tn u.2.2.2.2 u.2.2.2.1 u.1 u.2.1)))) (fun (u : Int32 × Int32 × Nat × Nat × Nat) => [wO d0 10 [.ref t0, .ref d1, .ref h0, yf, .int uh, .int wt, .int dt, .int vv, .int u.1, .int u.2.1], wO t0 9 [.ref t1, .ref t2, .int (nI tn), .int (nI ta), .int (nI ts), .int (nI tk), .long tm, .int tr], wO h0 4 [.ref h1, .ref h2, .ref h3, .ref h4, .ref h5, .ref h6, .ref h7, .ref h8, .ref h9, .ref h10, .ref h11, hv0, hv1, hv2, hv3, hv4], wI (cy 1) h1 4 (fc), (d1, .inl (cy 5, 4, .inr (.inr (.inr (.inr (eF d2 d3 d4 d5)))))), (d5, .inl (cy 2, 8, .inr (.inl (fd3))))]) := by
  refine XMi.start (by decide) (Nat.le_of_ble_eq_true rfl) ?_
  intro p e s m below meth c args A ls Q hat hQ
  obtain ⟨hx, hb, hr, hml, hown, hg, hlocks, hin, hK, hA, hP, hD, hS, hE, hl⟩ := hat
  have hown : s.vm.findClass RX10 = some m.cls := hown
  have hl : lv_has ls 3 [(0, .ref d0), (1, .int 3)] := hl
  refine lv_aload_n hx hb dX10_known_0 rfl (lv_at hl 0 rfl) ?_
  refine va_get (D := D) (ci := 10) (v := .ref t0) (C := RX10) (T := TX10) (N := 10) hx hb hg i_X10 hown hK hP 0 rfl rfl 0 (by decide) (hg _ m_255) (fun _ h9 => h9) rfl dX10_known_1 ?_
  refine va_get (D := D) (ci := 9) (v := .int (nI tk)) (C := RX9) (T := TX9) (N := 8) hx hb hg i_X9 hown hK hP 1 rfl rfl 5 (by decide) (hg _ m_222) (fun _ h9 => h9) rfl dX10_known_4 ?_
  refine lv_iconst (v := 1) hx hb dX10_known_7 (by decide) ?_
  refine lv_icmp_eq (tgt := 19) hx hb dX10_known_8 (by decide) (fun c_1 => ?_) (fun c_1 => ?_)
  · have q_2 : tk = 1 := q_eq (a := tk) (b := 1) rfl rfl (by omega) (by omega) c_1
    refine lv_aload_n hx hb dX10_known_19 rfl (lv_at hl 0 rfl) ?_
    refine lv_iload_n hx hb dX10_known_20 rfl (lv_at hl 1 rfl) ?_
    refine x_callVi (q := (RX10, TX10, 10)) (ci := 10) (q0 := 0) (wr := []) (rest := []) ⟨hx, hb, hml, hown, hg, hl.1⟩ k_X10_169 (s_find3 l D cy d0 d1 uh wt dt vv fq pq yf t0 t1 t2 tn ta ts tk tm tr h0 h1 h2 h3 h4 h5 h6 h7 h8 h9 h10 h11 hv0 hv1 hv2 hv3 hv4 fc c0 c1 c2 c3 d2 d3 d4 d5 fd3 fby ga np3 (hcn) (by omega) (by omega) (by omega) (by omega) (by omega) (hti) (hnm3)) E0_blind hK hP hD hS hA [0, 1, 2, 3, 4, 5] [] ⟨rfl, rfl, by decide +kernel, by decide +kernel, by decide +kernel⟩ rfl rfl (fun _ _ _ => trivial) dX10_known_21 rfl rfl (Nat.le_of_ble_eq_true rfl) ⟨Nat.le_of_ble_eq_true rfl, Nat.le_of_ble_eq_true rfl⟩ ⟨Nat.le_of_ble_eq_true rfl, Nat.le_of_ble_eq_true rfl⟩ (fun zr3 zu3 H locs hw3 hP9 hD9 hS9 => ?_)
    clear hP hD hS
    obtain ⟨jr_4, rfl⟩ : ∃ z, z = zu3 := ⟨_, rfl⟩
    refine reW [wO d0 10 [.ref t0, .ref d1, .ref h0, yf, .int uh, .int wt, .int dt, .int vv, .int fq, .int pq], wO t0 9 [.ref t1, .ref t2, .int (nI tn), .int (nI ta), .int (nI ts), .int (nI tk), .long tm, .int tr], wO h0 4 [.ref h1, .ref h2, .ref h3, .ref h4, .ref h5, .ref h6, .ref h7, .ref h8, .ref h9, .ref h10, .ref h11, hv0, hv1, hv2, hv3, hv4], wI (cy 1) h1 4 (fc), (d1, .inl (cy 5, 4, .inr (.inr (.inr (.inr (eF d2 d3 d4 d5)))))), (d5, .inl (cy 2, 8, .inr (.inl (fd3))))] hP9 hD9 hS9 (fun hP hD hS => ?_)
    clear hP9 hD9 hS9
    refine W.widen (k := 0) (n := 0) (Nat.le_of_ble_eq_true rfl) (Nat.le_of_ble_eq_true rfl) ?_
    replace hw3 : ((zr3 = nI jr_4 ∧ (fnd fby tn np3 c3 ga = jr_4) ∧ (jr_4 < c3)) ∨ (zr3 = -1 ∧ (¬ fnd fby tn np3 c3 ga < c3))) := hw3
    have f_5 := hw3
    rcases f_5 with ⟨hz_8, a_6, a_7⟩ | ⟨hz_10, a_9⟩
    · subst hz_8
      subst a_6
      refine lv_istore_n (lv' := [(2, .int (nI (fnd fby tn np3 c3 ga))), (0, .ref d0), (1, .int 3)]) hx hb dX10_known_24 rfl hl (by decide) rfl (fun ls hl => ?_)
      refine lv_iload_n hx hb dX10_known_25 rfl (lv_at hl 0 rfl) ?_
      refine lv_iconst (v := -1) hx hb dX10_known_26 (by decide) ?_
      refine lv_icmp_ne (tgt := 36) hx hb dX10_known_27 (by decide) (fun _ => ?_) (fun h => absurd h (nI_nneg (by omega) (by decide)))
      refine lv_iload_n hx hb dX10_known_36 rfl (lv_at hl 0 rfl) ?_
      exact x_iret hQ hx hb hr hlocks hK hP hD hS dX10_known_37 (fq, pq, (fnd fby tn np3 c3 ga), 0, 0) ((show ((nI (fnd fby tn np3 c3 ga) : Int32) = nI ((fnd fby tn np3 c3 ga)) ∧ (knoS fby tn c3 np3 ga = .inr ((fnd fby tn np3 c3 ga))) ∧ (fq = fq) ∧ (pq = pq) ∧ (((fnd fby tn np3 c3 ga)) < c3)) ∨ ((nI (fnd fby tn np3 c3 ga) : Int32) = -1 ∧ (knoS fby tn c3 np3 ga = .inl (0, 0)) ∧ (flt fby tn 0 0 fq pq)) from Or.inl ⟨rfl, ((if_pos (by have h9 := hti.2.2.1; omega)).trans (if_pos a_7)), (rfl), (rfl), (a_7)⟩)) [0, 1, 2, 3, 4, 5] (by decide +kernel) rfl (Nat.le_of_ble_eq_true rfl) (Nat.le_of_ble_eq_true rfl)
    · subst hz_10
      refine lv_istore_n (lv' := [(2, .int (-1)), (0, .ref d0), (1, .int 3)]) hx hb dX10_known_24 rfl hl (by decide) rfl (fun ls hl => ?_)
      refine lv_iload_n hx hb dX10_known_25 rfl (lv_at hl 0 rfl) ?_
      refine lv_iconst (v := -1) hx hb dX10_known_26 (by decide) ?_
      refine lv_icmp_ne (tgt := 36) hx hb dX10_known_27 (by decide) (fun h => absurd (by decide) h) (fun _ => ?_)
      refine lv_aload_n hx hb dX10_known_30 rfl (lv_at hl 1 rfl) ?_
      refine lv_iconst (v := 5) hx hb dX10_known_31 (by decide) ?_
      refine x_callVi (q := (RX10, TX10, 10)) (ci := 10) (q0 := 0) (wr := [wO h0 4 [.ref h1, .ref h2, .ref h3, .ref h4, .ref h5, .ref h6, .ref h7, .ref h8, .ref h9, .ref h10, .ref h11, hv0, hv1, hv2, hv3, hv4], wI (cy 1) h1 4 (fc), (d1, .inl (cy 5, 4, .inr (.inr (.inr (.inr (eF d2 d3 d4 d5)))))), (d5, .inl (cy 2, 8, .inr (.inl (fd3))))]) (rest := []) ⟨hx, hb, hml, hown, hg, hl.1⟩ k_X10_110 (s_fail l D cy d0 d1 uh wt dt vv fq pq ((.ref h0)) yf t0 t1 t2 tn ta ts tk tm tr 5 (by omega)) E0_blind hK hP hD hS hA [0, 1] [2, 3, 4, 5] ⟨rfl, rfl, by decide +kernel, by decide +kernel, by decide +kernel⟩ rfl rfl (fun _ _ _ => trivial) dX10_known_32 rfl rfl (Nat.le_of_ble_eq_true rfl) ⟨Nat.le_of_ble_eq_true rfl, Nat.le_of_ble_eq_true rfl⟩ ⟨Nat.le_of_ble_eq_true rfl, Nat.le_of_ble_eq_true rfl⟩ (fun zr11 zu11 H locs hw11 hP9 hD9 hS9 => ?_)
      clear hP hD hS
      obtain ⟨fq2_12, pq2_13⟩ := zu11
      refine reW [wO h0 4 [.ref h1, .ref h2, .ref h3, .ref h4, .ref h5, .ref h6, .ref h7, .ref h8, .ref h9, .ref h10, .ref h11, hv0, hv1, hv2, hv3, hv4], wI (cy 1) h1 4 (fc), (d1, .inl (cy 5, 4, .inr (.inr (.inr (.inr (eF d2 d3 d4 d5)))))), (d5, .inl (cy 2, 8, .inr (.inl (fd3)))), wO d0 10 [.ref t0, .ref d1, .ref h0, yf, .int uh, .int wt, .int dt, .int vv, .int fq2_12, .int pq2_13], wO t0 9 [.ref t1, .ref t2, .int (nI tn), .int (nI ta), .int (nI ts), .int (nI tk), .long tm, .int tr]] hP9 hD9 hS9 (fun hP hD hS => ?_)
      clear hP9 hD9 hS9
      refine W.widen (k := 0) (n := 0) (Nat.le_of_ble_eq_true rfl) (Nat.le_of_ble_eq_true rfl) ?_
      replace hw11 : ((zr11 = 0 ∧ (fq2_12 = nI (if tk = 3 then 1 else 5)) ∧ (pq2_13 = nI ts))) := hw11
      have f_14 := hw11
      rcases f_14 with ⟨hz_17, a_15, a_16⟩
      subst hz_17
      refine lv_pop hx hb dX10_known_35 rfl ?_
      refine lv_iload_n hx hb dX10_known_36 rfl (lv_at hl 0 rfl) ?_
      exact x_iret hQ hx hb hr hlocks hK hP hD hS dX10_known_37 (fq2_12, pq2_13, 0, 5, ga) ((show ((-1 : Int32) = nI 0 ∧ (knoS fby tn c3 np3 ga = .inr 0) ∧ (fq = fq2_12) ∧ (pq = pq2_13) ∧ (0 < c3)) ∨ ((-1 : Int32) = -1 ∧ (knoS fby tn c3 np3 ga = .inl (5, ga)) ∧ (flt fby tn ga 5 fq2_12 pq2_13)) from Or.inr (⟨rfl, ((if_pos (by have h9 := hti.2.2.1; omega)).trans (if_neg a_9)), (flt_of hti a_15 a_16)⟩))) [4, 5, 0, 1, 2, 3] (by decide +kernel) rfl (Nat.le_of_ble_eq_true rfl) (Nat.le_of_ble_eq_true rfl)
  · have q_2 : ¬ tk = 1 := q_ne (a := tk) (b := 1) rfl rfl (by omega) (by omega) c_1
    refine lv_aload_n hx hb dX10_known_11 rfl (lv_at hl 0 rfl) ?_
    refine lv_iconst (v := 2) hx hb dX10_known_12 (by decide) ?_
    refine x_callVi (q := (RX10, TX10, 10)) (ci := 10) (q0 := 0) (wr := [wO h0 4 [.ref h1, .ref h2, .ref h3, .ref h4, .ref h5, .ref h6, .ref h7, .ref h8, .ref h9, .ref h10, .ref h11, hv0, hv1, hv2, hv3, hv4], wI (cy 1) h1 4 (fc), (d1, .inl (cy 5, 4, .inr (.inr (.inr (.inr (eF d2 d3 d4 d5)))))), (d5, .inl (cy 2, 8, .inr (.inl (fd3))))]) (rest := []) ⟨hx, hb, hml, hown, hg, hl.1⟩ k_X10_110 (s_fail l D cy d0 d1 uh wt dt vv fq pq ((.ref h0)) yf t0 t1 t2 tn ta ts tk tm tr 2 (by omega)) E0_blind hK hP hD hS hA [0, 1] [2, 3, 4, 5] ⟨rfl, rfl, by decide +kernel, by decide +kernel, by decide +kernel⟩ rfl rfl (fun _ _ _ => trivial) dX10_known_13 rfl rfl (Nat.le_of_ble_eq_true rfl) ⟨Nat.le_of_ble_eq_true rfl, Nat.le_of_ble_eq_true rfl⟩ ⟨Nat.le_of_ble_eq_true rfl, Nat.le_of_ble_eq_true rfl⟩ (fun zr18 zu18 H locs hw18 hP9 hD9 hS9 => ?_)
    clear hP hD hS
    obtain ⟨fq2_19, pq2_20⟩ := zu18
    refine reW [wO h0 4 [.ref h1, .ref h2, .ref h3, .ref h4, .ref h5, .ref h6, .ref h7, .ref h8, .ref h9, .ref h10, .ref h11, hv0, hv1, hv2, hv3, hv4], wI (cy 1) h1 4 (fc), (d1, .inl (cy 5, 4, .inr (.inr (.inr (.inr (eF d2 d3 d4 d5)))))), (d5, .inl (cy 2, 8, .inr (.inl (fd3)))), wO d0 10 [.ref t0, .ref d1, .ref h0, yf, .int uh, .int wt, .int dt, .int vv, .int fq2_19, .int pq2_20], wO t0 9 [.ref t1, .ref t2, .int (nI tn), .int (nI ta), .int (nI ts), .int (nI tk), .long tm, .int tr]] hP9 hD9 hS9 (fun hP hD hS => ?_)
    clear hP9 hD9 hS9
    refine W.widen (k := 0) (n := 0) (Nat.le_of_ble_eq_true rfl) (Nat.le_of_ble_eq_true rfl) ?_
    replace hw18 : ((zr18 = 0 ∧ (fq2_19 = nI (if tk = 3 then 1 else 2)) ∧ (pq2_20 = nI ts))) := hw18
    have f_21 := hw18
    rcases f_21 with ⟨hz_24, a_22, a_23⟩
    subst hz_24
    refine lv_pop hx hb dX10_known_16 rfl ?_
    refine lv_iconst (v := -1) hx hb dX10_known_17 (by decide) ?_
    exact x_iret hQ hx hb hr hlocks hK hP hD hS dX10_known_18 (fq2_19, pq2_20, 0, 2, ga) ((show ((-1 : Int32) = nI 0 ∧ (knoS fby tn c3 np3 ga = .inr 0) ∧ (fq = fq2_19) ∧ (pq = pq2_20) ∧ (0 < c3)) ∨ ((-1 : Int32) = -1 ∧ (knoS fby tn c3 np3 ga = .inl (2, ga)) ∧ (flt fby tn ga 2 fq2_19 pq2_20)) from Or.inr (⟨rfl, (if_neg (by have h9 := hti.2.2.1; omega)), (flt_of hti a_22 a_23)⟩))) [4, 5, 0, 1, 2, 3] (by decide +kernel) rfl (Nat.le_of_ble_eq_true rfl) (Nat.le_of_ble_eq_true rfl)
theorem cnt_put0 {f : Nat → Int32} {c0 c1 c2 c3 v : Nat} (h : cntOK f c0 c1 c2 c3) : cntOK (upd f (0 : Int32).toNatClampNeg (nI v)) v c1 c2 c3 := by
  have e : (0 : Int32).toNatClampNeg = 0 := by decide
  rw [e]
  obtain ⟨h0, h1, h2, h3⟩ := h
  exact ⟨pk_us, (pk_un (by decide)).trans h1, (pk_un (by decide)).trans h2, (pk_un (by decide)).trans h3⟩
theorem cnt_put1 {f : Nat → Int32} {c0 c1 c2 c3 v : Nat} (h : cntOK f c0 c1 c2 c3) : cntOK (upd f (1 : Int32).toNatClampNeg (nI v)) c0 v c2 c3 := by
  have e : (1 : Int32).toNatClampNeg = 1 := by decide
  rw [e]
  obtain ⟨h0, h1, h2, h3⟩ := h
  exact ⟨(pk_un (by decide)).trans h0, pk_us, (pk_un (by decide)).trans h2, (pk_un (by decide)).trans h3⟩
theorem cnt_put2 {f : Nat → Int32} {c0 c1 c2 c3 v : Nat} (h : cntOK f c0 c1 c2 c3) : cntOK (upd f (2 : Int32).toNatClampNeg (nI v)) c0 c1 v c3 := by
  have e : (2 : Int32).toNatClampNeg = 2 := by decide
  rw [e]
  obtain ⟨h0, h1, h2, h3⟩ := h
  exact ⟨(pk_un (by decide)).trans h0, (pk_un (by decide)).trans h1, pk_us, (pk_un (by decide)).trans h3⟩
theorem cnt_put3 {f : Nat → Int32} {c0 c1 c2 c3 v : Nat} (h : cntOK f c0 c1 c2 c3) : cntOK (upd f (3 : Int32).toNatClampNeg (nI v)) c0 c1 c2 v := by
  have e : (3 : Int32).toNatClampNeg = 3 := by decide
  rw [e]
  obtain ⟨h0, h1, h2, h3⟩ := h
  exact ⟨(pk_un (by decide)).trans h0, (pk_un (by decide)).trans h1, (pk_un (by decide)).trans h2, pk_us⟩
theorem gdX10_takeNew_0 : decode cX10_takeNew 0 = .ok (.aload_n 0, 1) ∧ decode cX10_takeNew 1 = .ok (.getfield 24, 3) ∧ decode cX10_takeNew 4 = .ok (.getfield 114, 3) ∧ decode cX10_takeNew 7 = .ok (.iload_n 1, 1) ∧ decode cX10_takeNew 8 = .ok (.iaload, 1) ∧ decode cX10_takeNew 9 = .ok (.istore_n 3, 1) ∧ decode cX10_takeNew 10 = .ok (.iload_n 3, 1) ∧ decode cX10_takeNew 11 = .ok (.iload_n 2, 1) ∧ decode cX10_takeNew 12 = .ok (.if_icmp .lt 9, 3) ∧ decode cX10_takeNew 21 = .ok (.aload_n 0, 1) ∧ decode cX10_takeNew 22 = .ok (.getfield 16, 3) ∧ decode cX10_takeNew 25 = .ok (.invokevirtual 140, 3) := by decide +kernel
theorem dX10_takeNew_0 : decode cX10_takeNew 0 = .ok (.aload_n 0, 1) := gdX10_takeNew_0.1
theorem dX10_takeNew_1 : decode cX10_takeNew 1 = .ok (.getfield 24, 3) := gdX10_takeNew_0.2.1
theorem dX10_takeNew_4 : decode cX10_takeNew 4 = .ok (.getfield 114, 3) := gdX10_takeNew_0.2.2.1
theorem dX10_takeNew_7 : decode cX10_takeNew 7 = .ok (.iload_n 1, 1) := gdX10_takeNew_0.2.2.2.1
theorem dX10_takeNew_8 : decode cX10_takeNew 8 = .ok (.iaload, 1) := gdX10_takeNew_0.2.2.2.2.1
theorem dX10_takeNew_9 : decode cX10_takeNew 9 = .ok (.istore_n 3, 1) := gdX10_takeNew_0.2.2.2.2.2.1
theorem dX10_takeNew_10 : decode cX10_takeNew 10 = .ok (.iload_n 3, 1) := gdX10_takeNew_0.2.2.2.2.2.2.1
theorem dX10_takeNew_11 : decode cX10_takeNew 11 = .ok (.iload_n 2, 1) := gdX10_takeNew_0.2.2.2.2.2.2.2.1
theorem dX10_takeNew_12 : decode cX10_takeNew 12 = .ok (.if_icmp .lt 9, 3) := gdX10_takeNew_0.2.2.2.2.2.2.2.2.1
theorem dX10_takeNew_21 : decode cX10_takeNew 21 = .ok (.aload_n 0, 1) := gdX10_takeNew_0.2.2.2.2.2.2.2.2.2.1
theorem dX10_takeNew_22 : decode cX10_takeNew 22 = .ok (.getfield 16, 3) := gdX10_takeNew_0.2.2.2.2.2.2.2.2.2.2.1
theorem dX10_takeNew_25 : decode cX10_takeNew 25 = .ok (.invokevirtual 140, 3) := gdX10_takeNew_0.2.2.2.2.2.2.2.2.2.2.2
theorem gdX10_takeNew_28 : decode cX10_takeNew 28 = .ok (.aload_n 0, 1) ∧ decode cX10_takeNew 29 = .ok (.getfield 16, 3) ∧ decode cX10_takeNew 32 = .ok (.getfield 55, 3) ∧ decode cX10_takeNew 35 = .ok (.iconst 1, 1) ∧ decode cX10_takeNew 36 = .ok (.if_icmp .eq 9, 3) ∧ decode cX10_takeNew 45 = .ok (.aload_n 0, 1) ∧ decode cX10_takeNew 46 = .ok (.iload_n 1, 1) ∧ decode cX10_takeNew 47 = .ok (.invokevirtual 169, 3) ∧ decode cX10_takeNew 50 = .ok (.iconst (-1), 1) ∧ decode cX10_takeNew 51 = .ok (.if_icmp .eq 9, 3) ∧ decode cX10_takeNew 54 = .ok (.aload_n 0, 1) ∧ decode cX10_takeNew 55 = .ok (.iconst 3, 1) := by decide +kernel
theorem dX10_takeNew_28 : decode cX10_takeNew 28 = .ok (.aload_n 0, 1) := gdX10_takeNew_28.1
theorem dX10_takeNew_29 : decode cX10_takeNew 29 = .ok (.getfield 16, 3) := gdX10_takeNew_28.2.1
theorem dX10_takeNew_32 : decode cX10_takeNew 32 = .ok (.getfield 55, 3) := gdX10_takeNew_28.2.2.1
theorem dX10_takeNew_35 : decode cX10_takeNew 35 = .ok (.iconst 1, 1) := gdX10_takeNew_28.2.2.2.1
theorem dX10_takeNew_36 : decode cX10_takeNew 36 = .ok (.if_icmp .eq 9, 3) := gdX10_takeNew_28.2.2.2.2.1
theorem dX10_takeNew_45 : decode cX10_takeNew 45 = .ok (.aload_n 0, 1) := gdX10_takeNew_28.2.2.2.2.2.1
theorem dX10_takeNew_46 : decode cX10_takeNew 46 = .ok (.iload_n 1, 1) := gdX10_takeNew_28.2.2.2.2.2.2.1
theorem dX10_takeNew_47 : decode cX10_takeNew 47 = .ok (.invokevirtual 169, 3) := gdX10_takeNew_28.2.2.2.2.2.2.2.1
theorem dX10_takeNew_50 : decode cX10_takeNew 50 = .ok (.iconst (-1), 1) := gdX10_takeNew_28.2.2.2.2.2.2.2.2.1
theorem dX10_takeNew_51 : decode cX10_takeNew 51 = .ok (.if_icmp .eq 9, 3) := gdX10_takeNew_28.2.2.2.2.2.2.2.2.2.1
theorem dX10_takeNew_54 : decode cX10_takeNew 54 = .ok (.aload_n 0, 1) := gdX10_takeNew_28.2.2.2.2.2.2.2.2.2.2.1
theorem dX10_takeNew_55 : decode cX10_takeNew 55 = .ok (.iconst 3, 1) := gdX10_takeNew_28.2.2.2.2.2.2.2.2.2.2.2
theorem gdX10_takeNew_56 : decode cX10_takeNew 56 = .ok (.invokevirtual 110, 3) ∧ decode cX10_takeNew 59 = .ok (.ireturn, 1) ∧ decode cX10_takeNew 60 = .ok (.aload_n 0, 1) ∧ decode cX10_takeNew 61 = .ok (.getfield 11, 3) ∧ decode cX10_takeNew 64 = .ok (.iload_n 1, 1) ∧ decode cX10_takeNew 65 = .ok (.aaload, 1) ∧ decode cX10_takeNew 66 = .ok (.iload_n 3, 1) ∧ decode cX10_takeNew 67 = .ok (.aload_n 0, 1) ∧ decode cX10_takeNew 68 = .ok (.getfield 16, 3) ∧ decode cX10_takeNew 71 = .ok (.getfield 172, 3) ∧ decode cX10_takeNew 74 = .ok (.lastore, 1) ∧ decode cX10_takeNew 75 = .ok (.aload_n 0, 1) := by decide +kernel
theorem dX10_takeNew_56 : decode cX10_takeNew 56 = .ok (.invokevirtual 110, 3) := gdX10_takeNew_56.1
theorem dX10_takeNew_59 : decode cX10_takeNew 59 = .ok (.ireturn, 1) := gdX10_takeNew_56.2.1
theorem dX10_takeNew_60 : decode cX10_takeNew 60 = .ok (.aload_n 0, 1) := gdX10_takeNew_56.2.2.1
theorem dX10_takeNew_61 : decode cX10_takeNew 61 = .ok (.getfield 11, 3) := gdX10_takeNew_56.2.2.2.1
theorem dX10_takeNew_64 : decode cX10_takeNew 64 = .ok (.iload_n 1, 1) := gdX10_takeNew_56.2.2.2.2.1
theorem dX10_takeNew_65 : decode cX10_takeNew 65 = .ok (.aaload, 1) := gdX10_takeNew_56.2.2.2.2.2.1
theorem dX10_takeNew_66 : decode cX10_takeNew 66 = .ok (.iload_n 3, 1) := gdX10_takeNew_56.2.2.2.2.2.2.1
theorem dX10_takeNew_67 : decode cX10_takeNew 67 = .ok (.aload_n 0, 1) := gdX10_takeNew_56.2.2.2.2.2.2.2.1
theorem dX10_takeNew_68 : decode cX10_takeNew 68 = .ok (.getfield 16, 3) := gdX10_takeNew_56.2.2.2.2.2.2.2.2.1
theorem dX10_takeNew_71 : decode cX10_takeNew 71 = .ok (.getfield 172, 3) := gdX10_takeNew_56.2.2.2.2.2.2.2.2.2.1
theorem dX10_takeNew_74 : decode cX10_takeNew 74 = .ok (.lastore, 1) := gdX10_takeNew_56.2.2.2.2.2.2.2.2.2.2.1
theorem dX10_takeNew_75 : decode cX10_takeNew 75 = .ok (.aload_n 0, 1) := gdX10_takeNew_56.2.2.2.2.2.2.2.2.2.2.2
theorem gdX10_takeNew_76 : decode cX10_takeNew 76 = .ok (.getfield 24, 3) ∧ decode cX10_takeNew 79 = .ok (.getfield 114, 3) ∧ decode cX10_takeNew 82 = .ok (.iload_n 1, 1) ∧ decode cX10_takeNew 83 = .ok (.iload_n 3, 1) ∧ decode cX10_takeNew 84 = .ok (.iconst 1, 1) ∧ decode cX10_takeNew 85 = .ok (.iadd, 1) ∧ decode cX10_takeNew 86 = .ok (.iastore, 1) ∧ decode cX10_takeNew 87 = .ok (.aload_n 0, 1) ∧ decode cX10_takeNew 88 = .ok (.getfield 16, 3) ∧ decode cX10_takeNew 91 = .ok (.invokevirtual 140, 3) ∧ decode cX10_takeNew 94 = .ok (.iconst 1, 1) ∧ decode cX10_takeNew 95 = .ok (.ireturn, 1) := by decide +kernel
theorem dX10_takeNew_76 : decode cX10_takeNew 76 = .ok (.getfield 24, 3) := gdX10_takeNew_76.1
theorem dX10_takeNew_79 : decode cX10_takeNew 79 = .ok (.getfield 114, 3) := gdX10_takeNew_76.2.1
theorem dX10_takeNew_82 : decode cX10_takeNew 82 = .ok (.iload_n 1, 1) := gdX10_takeNew_76.2.2.1
theorem dX10_takeNew_83 : decode cX10_takeNew 83 = .ok (.iload_n 3, 1) := gdX10_takeNew_76.2.2.2.1
theorem dX10_takeNew_84 : decode cX10_takeNew 84 = .ok (.iconst 1, 1) := gdX10_takeNew_76.2.2.2.2.1
theorem dX10_takeNew_85 : decode cX10_takeNew 85 = .ok (.iadd, 1) := gdX10_takeNew_76.2.2.2.2.2.1
theorem dX10_takeNew_86 : decode cX10_takeNew 86 = .ok (.iastore, 1) := gdX10_takeNew_76.2.2.2.2.2.2.1
theorem dX10_takeNew_87 : decode cX10_takeNew 87 = .ok (.aload_n 0, 1) := gdX10_takeNew_76.2.2.2.2.2.2.2.1
theorem dX10_takeNew_88 : decode cX10_takeNew 88 = .ok (.getfield 16, 3) := gdX10_takeNew_76.2.2.2.2.2.2.2.2.1
theorem dX10_takeNew_91 : decode cX10_takeNew 91 = .ok (.invokevirtual 140, 3) := gdX10_takeNew_76.2.2.2.2.2.2.2.2.2.1
theorem dX10_takeNew_94 : decode cX10_takeNew 94 = .ok (.iconst 1, 1) := gdX10_takeNew_76.2.2.2.2.2.2.2.2.2.2.1
theorem dX10_takeNew_95 : decode cX10_takeNew 95 = .ok (.ireturn, 1) := gdX10_takeNew_76.2.2.2.2.2.2.2.2.2.2.2
theorem gdX10_takeNew_39 : decode cX10_takeNew 39 = .ok (.aload_n 0, 1) ∧ decode cX10_takeNew 40 = .ok (.iconst 2, 1) ∧ decode cX10_takeNew 41 = .ok (.invokevirtual 110, 3) ∧ decode cX10_takeNew 44 = .ok (.ireturn, 1) ∧ decode cX10_takeNew 15 = .ok (.aload_n 0, 1) ∧ decode cX10_takeNew 16 = .ok (.iconst 2, 1) ∧ decode cX10_takeNew 17 = .ok (.invokevirtual 110, 3) ∧ decode cX10_takeNew 20 = .ok (.ireturn, 1) := by decide +kernel
theorem dX10_takeNew_39 : decode cX10_takeNew 39 = .ok (.aload_n 0, 1) := gdX10_takeNew_39.1
theorem dX10_takeNew_40 : decode cX10_takeNew 40 = .ok (.iconst 2, 1) := gdX10_takeNew_39.2.1
theorem dX10_takeNew_41 : decode cX10_takeNew 41 = .ok (.invokevirtual 110, 3) := gdX10_takeNew_39.2.2.1
theorem dX10_takeNew_44 : decode cX10_takeNew 44 = .ok (.ireturn, 1) := gdX10_takeNew_39.2.2.2.1
theorem dX10_takeNew_15 : decode cX10_takeNew 15 = .ok (.aload_n 0, 1) := gdX10_takeNew_39.2.2.2.2.1
theorem dX10_takeNew_16 : decode cX10_takeNew 16 = .ok (.iconst 2, 1) := gdX10_takeNew_39.2.2.2.2.2.1
theorem dX10_takeNew_17 : decode cX10_takeNew 17 = .ok (.invokevirtual 110, 3) := gdX10_takeNew_39.2.2.2.2.2.2.1
theorem dX10_takeNew_20 : decode cX10_takeNew 20 = .ok (.ireturn, 1) := gdX10_takeNew_39.2.2.2.2.2.2.2
set_option maxHeartbeats 1000000 in
set_option maxRecDepth 100000 in
theorem s_takeNew0 (l : Launch) (D : va_G) (cy : Nat → ClassId) (adK : Nat → Nat) (adV : Nat → Nat) (d0 : Nat) (d1 : Nat) (uh : Int32) (wt : Int32) (dt : Int32) (vv : Int32) (fq : Int32) (pq : Int32) (yf : Value) (t0 : Nat) (t1 : Nat) (t2 : Nat) (tn : Nat) (ta : Nat) (ts : Nat) (tk : Nat) (tm : Int64) (tr : Int32) (fby : Nat → Int32) (fky : Nat → Int64) (h0 : Nat) (h1 : Nat) (h2 : Nat) (h3 : Nat) (h4 : Nat) (h5 : Nat) (h6 : Nat) (h7 : Nat) (h8 : Nat) (h9 : Nat) (h10 : Nat) (h11 : Nat) (hv0 : Value) (hv1 : Value) (hv2 : Value) (hv3 : Value) (hv4 : Value) (fc : Nat → Int32) (c0 : Nat) (c1 : Nat) (c2 : Nat) (c3 : Nat) (d2 : Nat) (d3 : Nat) (d4 : Nat) (d5 : Nat) (fd0 : Nat → Int64) (ga : Nat) (np0 : Nat → Nat) (hcn : cntOK fc c0 c1 c2 c3) (hc0 : c0 ≤ 8) (hc1 : c1 ≤ 4) (hc2 : c2 ≤ 4) (hc3 : c3 ≤ 6) (htn : tn ≤ 1600) (hta : ta ≤ tn) (htk : tk ≤ 123) (hti : tkC fby tn ga ta ts tk tm tr) (hky : kyOK fky) (hnm0 : nmC fby tn np0 c0 fd0) : XMi l D (tyL cy) (EV adK adV) yX10_takeNew cX10_takeNew 4 (some .boolean) (rmk 7 0 0) [.ref d0, .int 0, .int 8] [wO d0 10 [.ref t0, .ref d1, .ref h0, yf, .int uh, .int wt, .int dt, .int vv, .int fq, .int pq], wO t0 9 [.ref t1, .ref t2, .int (nI tn), .int (nI ta), .int (nI ts), .int (nI tk), .long tm, .int tr], wI (cy 0) t1 1600 (fby), (t2, .inl (cy 2, 24, .inr (.inl (fky)))), wO h0 4 [.ref h1, .ref h2, .ref h3, .ref h4, .ref h5, .ref h6, .ref h7, .ref h8, .ref h9, .ref h10, .ref h11, hv0, hv1, hv2, hv3, hv4], wI (cy 1) h1 4 (fc), (d1, .inl (cy 5, 4, .inr (.inr (.inr (.inr (eF d2 d3 d4 d5)))))), (d2, .inl (cy 2, 8, .inr (.inl (fd0))))] (fun (r : Int32) (u : Nat × Nat × Nat × Int64 × Int32 × Int32 × Int32 × Nat × (Nat → Int32) × (Nat → Int64) × Nat × Nat) => (u.1 ≤ tn) ∧ (u.2.2.1 ≤ 123) ∧ (cntOK u.2.2.2.2.2.2.2.2.1 u.2.2.2.2.2.2.2.1 c1 c2 c3) ∧ (u.2.2.2.2.2.2.2.1 ≤ 8) ∧ ((r = 1 ∧ (newS fby tn 8 c0 np0 ga = .inr (fin fby tn (fin fby tn ga))) ∧ (fq = u.2.2.2.2.2.1) ∧ (pq = u.2.2.2.2.2.2.1) ∧ (tkC fby tn (fin fby tn (fin fby tn ga)) u.1 u.2.1 u.2.2.1 u.2.2.2.1 u.2.2.2.2.1) ∧ (c0 + 1 = u.2.2.2.2.2.2.2.1) ∧ (c0 < 8) ∧ (nmC fby tn (updN np0 c0 (fin fby tn ga)) (c0 + 1) u.2.2.2.2.2.2.2.2.2.1) ∧ (knd fby tn (fin fby tn ga) = 1)) ∨ (r = 0 ∧ (newS fby tn 8 c0 np0 ga = .inl (u.2.2.2.2.2.2.2.2.2.2.1, u.2.2.2.2.2.2.2.2.2.2.2)) ∧ (flt fby tn u.2.2.2.2.2.2.2.2.2.2.2 u.2.2.2.2.2.2.2.2.2.2.1 u.2.2.2.2.2.1 u.2.2.2.2.2.2.1)))) (fun (u : Nat × Nat × Nat × Int64 × Int32 × Int32 × Int32 × Nat × (Nat → Int32) × (Nat → Int64) × Nat × Nat) => [wO d0 10 [.ref t0, .ref d1, .ref h0, yf, .int uh, .int wt, .int dt, .int vv, .int u.2.2.2.2.2.1, .int u.2.2.2.2.2.2.1], wO t0 9 [.ref t1, .ref t2, .int (nI tn), .int (nI u.1), .int (nI u.2.1), .int (nI u.2.2.1), .long u.2.2.2.1, .int u.2.2.2.2.1], wI (cy 0) t1 1600 (fby), (t2, .inl (cy 2, 24, .inr (.inl (fky)))), wO h0 4 [.ref h1, .ref h2, .ref h3, .ref h4, .ref h5, .ref h6, .ref h7, .ref h8, .ref h9, .ref h10, .ref h11, hv0, hv1, hv2, hv3, hv4], wI (cy 1) h1 4 (u.2.2.2.2.2.2.2.2.1), (d1, .inl (cy 5, 4, .inr (.inr (.inr (.inr (eF d2 d3 d4 d5)))))), (d2, .inl (cy 2, 8, .inr (.inl (u.2.2.2.2.2.2.2.2.2.1))))]) := by
  refine XMi.start (by decide) (Nat.le_of_ble_eq_true rfl) ?_
  intro p e s m below meth c args A ls Q hat hQ
  obtain ⟨hx, hb, hr, hml, hown, hg, hlocks, hin, hK, hA, hP, hD, hS, hE, hl⟩ := hat
  have hown : s.vm.findClass RX10 = some m.cls := hown
  have hl : lv_has ls 4 [(0, .ref d0), (1, .int 0), (2, .int 8)] := hl
  refine lv_aload_n hx hb dX10_takeNew_0 rfl (lv_at hl 0 rfl) ?_
  refine va_get (D := D) (ci := 10) (v := .ref h0) (C := RX10) (T := TX10) (N := 10) hx hb hg i_X10 hown hK hP 0 rfl rfl 2 (by decide) (hg _ m_257) (fun _ h9 => h9) rfl dX10_takeNew_1 ?_
  refine va_get (D := D) (ci := 4) (v := .ref h1) (C := RX4) (T := TX4) (N := 16) hx hb hg i_X4 hown hK hP 4 rfl rfl 0 (by decide) (hg _ m_336) (fun _ h9 => h9) rfl dX10_takeNew_4 ?_
  refine lv_iload_n hx hb dX10_takeNew_7 rfl (lv_at hl 1 rfl) ?_
  refine va_iald hx hb hK hP 5 1 rfl rfl (by unfold vp_in; decide) dX10_takeNew_8 ?_
  refine lv_topi (fun y_1 hy_1 => ?_)
  obtain rfl : y_1 = nI c0 := hy_1.trans hcn.1
  refine lv_istore_n (lv' := [(3, .int (nI c0)), (0, .ref d0), (1, .int 0), (2, .int 8)]) hx hb dX10_takeNew_9 rfl hl (by decide) rfl (fun ls hl => ?_)
  refine lv_iload_n hx hb dX10_takeNew_10 rfl (lv_at hl 0 rfl) ?_
  refine lv_iload_n hx hb dX10_takeNew_11 rfl (lv_at hl 3 rfl) ?_
  refine lv_icmp_lt (tgt := 21) hx hb dX10_takeNew_12 (by decide) (fun c_2 => ?_) (fun c_2 => ?_)
  · have q_3 : c0 < 8 := q_lt (a := c0) (b := 8) rfl rfl (by omega) (by omega) c_2
    refine lv_aload_n hx hb dX10_takeNew_21 rfl (lv_at hl 1 rfl) ?_
    refine va_get (D := D) (ci := 10) (v := .ref t0) (C := RX10) (T := TX10) (N := 10) hx hb hg i_X10 hown hK hP 0 rfl rfl 0 (by decide) (hg _ m_255) (fun _ h9 => h9) rfl dX10_takeNew_22 ?_
    refine x_callVv (q := (RX9, TX9, 8)) (ci := 9) (q0 := 0) (wr := [wO d0 10 [.ref t0, .ref d1, .ref h0, yf, .int uh, .int wt, .int dt, .int vv, .int fq, .int pq], wO h0 4 [.ref h1, .ref h2, .ref h3, .ref h4, .ref h5, .ref h6, .ref h7, .ref h8, .ref h9, .ref h10, .ref h11, hv0, hv1, hv2, hv3, hv4], wI (cy 1) h1 4 (fc), (d1, .inl (cy 5, 4, .inr (.inr (.inr (.inr (eF d2 d3 d4 d5)))))), (d2, .inl (cy 2, 8, .inr (.inl (fd0))))]) (rest := []) ⟨hx, hb, hml, hown, hg, hl.1⟩ k_X10_140 (s_next l D cy adK adV t0 t1 t2 tn ta ts tk tm tr fby fky (fin fby tn ga) (by omega) (by omega) (hti.2.1) (hky)) EV_blind hK hP hD hS hA [1, 2, 3] [0, 4, 5, 6, 7] ⟨rfl, rfl, by decide +kernel, by decide +kernel, by decide +kernel⟩ rfl rfl (fun U hU hW => EV_pass hE hS (va_free hD hS hA [1, 2, 3] rfl) hU hW) dX10_takeNew_25 rfl rfl (Nat.le_of_ble_eq_true rfl) ⟨Nat.le_of_ble_eq_true rfl, Nat.le_of_ble_eq_true rfl⟩ ⟨Nat.le_of_ble_eq_true rfl, Nat.le_of_ble_eq_true rfl⟩ (fun zu4 H locs hw4 hP9 hD9 hS9 => ?_)
    clear hP hD hS
    obtain ⟨ta2_5, ts2_6, tk2_7, tm2_8, tr2_9⟩ := zu4
    refine reW [wO d0 10 [.ref t0, .ref d1, .ref h0, yf, .int uh, .int wt, .int dt, .int vv, .int fq, .int pq], wO h0 4 [.ref h1, .ref h2, .ref h3, .ref h4, .ref h5, .ref h6, .ref h7, .ref h8, .ref h9, .ref h10, .ref h11, hv0, hv1, hv2, hv3, hv4], wI (cy 1) h1 4 (fc), (d1, .inl (cy 5, 4, .inr (.inr (.inr (.inr (eF d2 d3 d4 d5)))))), (d2, .inl (cy 2, 8, .inr (.inl (fd0)))), wO t0 9 [.ref t1, .ref t2, .int (nI tn), .int (nI ta2_5), .int (nI ts2_6), .int (nI tk2_7), .long tm2_8, .int tr2_9], wI (cy 0) t1 1600 (fby), (t2, .inl (cy 2, 24, .inr (.inl (fky))))] hP9 hD9 hS9 (fun hP hD hS => ?_)
    clear hP9 hD9 hS9
    refine W.widen (k := 0) (n := 0) (Nat.le_of_ble_eq_true rfl) (Nat.le_of_ble_eq_true rfl) ?_
    replace hw4 : (ta2_5 ≤ tn) ∧ (tk2_7 ≤ 123) ∧ (tkC fby tn (fin fby tn ga) ta2_5 ts2_6 tk2_7 tm2_8 tr2_9) := hw4
    obtain ⟨f_10, f_11, f_12⟩ := hw4
    refine lv_aload_n hx hb dX10_takeNew_28 rfl (lv_at hl 1 rfl) ?_
    refine va_get (D := D) (ci := 10) (v := .ref t0) (C := RX10) (T := TX10) (N := 10) hx hb hg i_X10 hown hK hP 0 rfl rfl 0 (by decide) (hg _ m_255) (fun _ h9 => h9) rfl dX10_takeNew_29 ?_
    refine va_get (D := D) (ci := 9) (v := .int (nI tk2_7)) (C := RX9) (T := TX9) (N := 8) hx hb hg i_X9 hown hK hP 5 rfl rfl 5 (by decide) (hg _ m_222) (fun _ h9 => h9) rfl dX10_takeNew_32 ?_
    refine lv_iconst (v := 1) hx hb dX10_takeNew_35 (by decide) ?_
    refine lv_icmp_eq (tgt := 45) hx hb dX10_takeNew_36 (by decide) (fun c_13 => ?_) (fun c_13 => ?_)
    · have q_14 : tk2_7 = 1 := q_eq (a := tk2_7) (b := 1) rfl rfl (by omega) (by omega) c_13
      have hk9 : knd fby tn (fin fby tn ga) = 1 := by have h9 := f_12.2.2.1; omega
      refine lv_aload_n hx hb dX10_takeNew_45 rfl (lv_at hl 1 rfl) ?_
      refine lv_iload_n hx hb dX10_takeNew_46 rfl (lv_at hl 2 rfl) ?_
      refine x_callVi (q := (RX10, TX10, 10)) (ci := 10) (q0 := 0) (wr := [wI (cy 0) t1 1600 (fby), (t2, .inl (cy 2, 24, .inr (.inl (fky))))]) (rest := []) ⟨hx, hb, hml, hown, hg, hl.1⟩ k_X10_169 (s_find0 l D cy d0 d1 uh wt dt vv fq pq yf t0 t1 t2 tn ta2_5 ts2_6 tk2_7 tm2_8 tr2_9 h0 h1 h2 h3 h4 h5 h6 h7 h8 h9 h10 h11 hv0 hv1 hv2 hv3 hv4 fc c0 c1 c2 c3 d2 d3 d4 d5 fd0 fby (fin fby tn ga) np0 (hcn) (by omega) (by omega) (by omega) (by omega) (by omega) (f_12) (hnm0)) E0_blind hK hP hD hS hA [0, 5, 1, 2, 3, 4] [6, 7] ⟨rfl, rfl, by decide +kernel, by decide +kernel, by decide +kernel⟩ rfl rfl (fun _ _ _ => trivial) dX10_takeNew_47 rfl rfl (Nat.le_of_ble_eq_true rfl) ⟨Nat.le_of_ble_eq_true rfl, Nat.le_of_ble_eq_true rfl⟩ ⟨Nat.le_of_ble_eq_true rfl, Nat.le_of_ble_eq_true rfl⟩ (fun zr15 zu15 H locs hw15 hP9 hD9 hS9 => ?_)
      clear hP hD hS
      obtain ⟨jr_16, rfl⟩ : ∃ z, z = zu15 := ⟨_, rfl⟩
      refine reW [wI (cy 0) t1 1600 (fby), (t2, .inl (cy 2, 24, .inr (.inl (fky)))), wO d0 10 [.ref t0, .ref d1, .ref h0, yf, .int uh, .int wt, .int dt, .int vv, .int fq, .int pq], wO t0 9 [.ref t1, .ref t2, .int (nI tn), .int (nI ta2_5), .int (nI ts2_6), .int (nI tk2_7), .long tm2_8, .int tr2_9], wO h0 4 [.ref h1, .ref h2, .ref h3, .ref h4, .ref h5, .ref h6, .ref h7, .ref h8, .ref h9, .ref h10, .ref h11, hv0, hv1, hv2, hv3, hv4], wI (cy 1) h1 4 (fc), (d1, .inl (cy 5, 4, .inr (.inr (.inr (.inr (eF d2 d3 d4 d5)))))), (d2, .inl (cy 2, 8, .inr (.inl (fd0))))] hP9 hD9 hS9 (fun hP hD hS => ?_)
      clear hP9 hD9 hS9
      refine W.widen (k := 0) (n := 0) (Nat.le_of_ble_eq_true rfl) (Nat.le_of_ble_eq_true rfl) ?_
      replace hw15 : ((zr15 = nI jr_16 ∧ (fnd fby tn np0 c0 (fin fby tn ga) = jr_16) ∧ (jr_16 < c0)) ∨ (zr15 = -1 ∧ (¬ fnd fby tn np0 c0 (fin fby tn ga) < c0))) := hw15
      have f_17 := hw15
      rcases f_17 with ⟨hz_20, a_18, a_19⟩ | ⟨hz_22, a_21⟩
      · subst hz_20
        subst a_18
        refine lv_iconst (v := -1) hx hb dX10_takeNew_50 (by decide) ?_
        refine lv_icmp_eq (tgt := 60) hx hb dX10_takeNew_51 (by decide) (fun h => absurd h (nI_nneg (by omega) (by decide))) (fun _ => ?_)
        refine lv_aload_n hx hb dX10_takeNew_54 rfl (lv_at hl 1 rfl) ?_
        refine lv_iconst (v := 3) hx hb dX10_takeNew_55 (by decide) ?_
        refine x_callVi (q := (RX10, TX10, 10)) (ci := 10) (q0 := 0) (wr := [wI (cy 0) t1 1600 (fby), (t2, .inl (cy 2, 24, .inr (.inl (fky)))), wO h0 4 [.ref h1, .ref h2, .ref h3, .ref h4, .ref h5, .ref h6, .ref h7, .ref h8, .ref h9, .ref h10, .ref h11, hv0, hv1, hv2, hv3, hv4], wI (cy 1) h1 4 (fc), (d1, .inl (cy 5, 4, .inr (.inr (.inr (.inr (eF d2 d3 d4 d5)))))), (d2, .inl (cy 2, 8, .inr (.inl (fd0))))]) (rest := []) ⟨hx, hb, hml, hown, hg, hl.1⟩ k_X10_110 (s_fail l D cy d0 d1 uh wt dt vv fq pq ((.ref h0)) yf t0 t1 t2 tn ta2_5 ts2_6 tk2_7 tm2_8 tr2_9 3 (by omega)) E0_blind hK hP hD hS hA [2, 3] [0, 1, 4, 5, 6, 7] ⟨rfl, rfl, by decide +kernel, by decide +kernel, by decide +kernel⟩ rfl rfl (fun _ _ _ => trivial) dX10_takeNew_56 rfl rfl (Nat.le_of_ble_eq_true rfl) ⟨Nat.le_of_ble_eq_true rfl, Nat.le_of_ble_eq_true rfl⟩ ⟨Nat.le_of_ble_eq_true rfl, Nat.le_of_ble_eq_true rfl⟩ (fun zr23 zu23 H locs hw23 hP9 hD9 hS9 => ?_)
        clear hP hD hS
        obtain ⟨fq2_24, pq2_25⟩ := zu23
        refine reW [wI (cy 0) t1 1600 (fby), (t2, .inl (cy 2, 24, .inr (.inl (fky)))), wO h0 4 [.ref h1, .ref h2, .ref h3, .ref h4, .ref h5, .ref h6, .ref h7, .ref h8, .ref h9, .ref h10, .ref h11, hv0, hv1, hv2, hv3, hv4], wI (cy 1) h1 4 (fc), (d1, .inl (cy 5, 4, .inr (.inr (.inr (.inr (eF d2 d3 d4 d5)))))), (d2, .inl (cy 2, 8, .inr (.inl (fd0)))), wO d0 10 [.ref t0, .ref d1, .ref h0, yf, .int uh, .int wt, .int dt, .int vv, .int fq2_24, .int pq2_25], wO t0 9 [.ref t1, .ref t2, .int (nI tn), .int (nI ta2_5), .int (nI ts2_6), .int (nI tk2_7), .long tm2_8, .int tr2_9]] hP9 hD9 hS9 (fun hP hD hS => ?_)
        clear hP9 hD9 hS9
        refine W.widen (k := 0) (n := 0) (Nat.le_of_ble_eq_true rfl) (Nat.le_of_ble_eq_true rfl) ?_
        replace hw23 : ((zr23 = 0 ∧ (fq2_24 = nI (if tk2_7 = 3 then 1 else 3)) ∧ (pq2_25 = nI ts2_6))) := hw23
        have f_26 := hw23
        rcases f_26 with ⟨hz_29, a_27, a_28⟩
        subst hz_29
        exact x_zret hQ hx hb hr hlocks hK hP hD hS rfl dX10_takeNew_59 (ta2_5, ts2_6, tk2_7, tm2_8, tr2_9, fq2_24, pq2_25, c0, fc, fd0, 3, fin fby tn ga) (⟨(show ta2_5 ≤ tn from by omega), (show tk2_7 ≤ 123 from by omega), hcn, (show c0 ≤ 8 from by omega), (show ((0 : Int32) = 1 ∧ (newS fby tn 8 c0 np0 ga = .inr (fin fby tn (fin fby tn ga))) ∧ (fq = fq2_24) ∧ (pq = pq2_25) ∧ (tkC fby tn (fin fby tn (fin fby tn ga)) ta2_5 ts2_6 tk2_7 tm2_8 tr2_9) ∧ (c0 + 1 = c0) ∧ (c0 < 8) ∧ (nmC fby tn (updN np0 c0 (fin fby tn ga)) (c0 + 1) fd0) ∧ (knd fby tn (fin fby tn ga) = 1)) ∨ ((0 : Int32) = 0 ∧ (newS fby tn 8 c0 np0 ga = .inl (3, (fin fby tn ga))) ∧ (flt fby tn (fin fby tn ga) 3 fq2_24 pq2_25)) from Or.inr (⟨rfl, ((if_neg (by omega)).trans ((if_pos hk9).trans (if_pos a_19))), (flt_of f_12 a_27 a_28)⟩))⟩) [6, 7, 0, 1, 2, 3, 4, 5] (by decide +kernel) rfl (Nat.le_of_ble_eq_true rfl) (Nat.le_of_ble_eq_true rfl)
      · subst hz_22
        refine lv_iconst (v := -1) hx hb dX10_takeNew_50 (by decide) ?_
        refine lv_icmp_eq (tgt := 60) hx hb dX10_takeNew_51 (by decide) (fun _ => ?_) (fun h => absurd (by decide) h)
        refine lv_aload_n hx hb dX10_takeNew_60 rfl (lv_at hl 1 rfl) ?_
        refine va_get (D := D) (ci := 10) (v := .ref d1) (C := RX10) (T := TX10) (N := 10) hx hb hg i_X10 hown hK hP 2 rfl rfl 1 (by decide) (hg _ m_256) (fun _ h9 => h9) rfl dX10_takeNew_61 ?_
        refine lv_iload_n hx hb dX10_takeNew_64 rfl (lv_at hl 2 rfl) ?_
        refine x_aald (v := d2) hx hb hK hP 6 5 rfl rfl (by unfold vp_in; decide) rfl dX10_takeNew_65 ?_
        refine lv_iload_n hx hb dX10_takeNew_66 rfl (lv_at hl 0 rfl) ?_
        refine lv_aload_n hx hb dX10_takeNew_67 rfl (lv_at hl 1 rfl) ?_
        refine va_get (D := D) (ci := 10) (v := .ref t0) (C := RX10) (T := TX10) (N := 10) hx hb hg i_X10 hown hK hP 2 rfl rfl 0 (by decide) (hg _ m_255) (fun _ h9 => h9) rfl dX10_takeNew_68 ?_
        refine va_get (D := D) (ci := 9) (v := .long tm2_8) (C := RX9) (T := TX9) (N := 8) hx hb hg i_X9 hown hK hP 3 rfl rfl 6 (by decide) (hg _ m_225) (fun _ h9 => h9) rfl dX10_takeNew_71 ?_
        refine va_last hx hb hK hP hD hS 7 2 rfl rfl (vp_in_nI (by omega) (by decide)) dX10_takeNew_74 (fun H locs hP9 hD9 hS9 => ?_)
        clear hP hD hS
        obtain ⟨g_30, eg_30⟩ : ∃ y, vp_updL fd0 (nI c0 : Int32).toNatClampNeg tm2_8 = y := ⟨_, rfl⟩
        rw [eg_30] at hP9 hD9
        refine reW [wI (cy 0) t1 1600 (fby), (t2, .inl (cy 2, 24, .inr (.inl (fky)))), wO d0 10 [.ref t0, .ref d1, .ref h0, yf, .int uh, .int wt, .int dt, .int vv, .int fq, .int pq], wO t0 9 [.ref t1, .ref t2, .int (nI tn), .int (nI ta2_5), .int (nI ts2_6), .int (nI tk2_7), .long tm2_8, .int tr2_9], wO h0 4 [.ref h1, .ref h2, .ref h3, .ref h4, .ref h5, .ref h6, .ref h7, .ref h8, .ref h9, .ref h10, .ref h11, hv0, hv1, hv2, hv3, hv4], wI (cy 1) h1 4 (fc), (d1, .inl (cy 5, 4, .inr (.inr (.inr (.inr (eF d2 d3 d4 d5)))))), (d2, .inl (cy 2, 8, .inr (.inl (g_30))))] hP9 hD9 hS9 (fun hP hD hS => ?_)
        clear hP9 hD9 hS9
        have hnm9 := nmC_put (by omega) hnm0 (f_12.2.2.2.1 (by omega)) hk9 eg_30
        refine lv_aload_n hx hb dX10_takeNew_75 rfl (lv_at hl 1 rfl) ?_
        refine va_get (D := D) (ci := 10) (v := .ref h0) (C := RX10) (T := TX10) (N := 10) hx hb hg i_X10 hown hK hP 2 rfl rfl 2 (by decide) (hg _ m_257) (fun _ h9 => h9) rfl dX10_takeNew_76 ?_
        refine va_get (D := D) (ci := 4) (v := .ref h1) (C := RX4) (T := TX4) (N := 16) hx hb hg i_X4 hown hK hP 4 rfl rfl 0 (by decide) (hg _ m_336) (fun _ h9 => h9) rfl dX10_takeNew_79 ?_
        refine lv_iload_n hx hb dX10_takeNew_82 rfl (lv_at hl 2 rfl) ?_
        refine lv_iload_n hx hb dX10_takeNew_83 rfl (lv_at hl 0 rfl) ?_
        refine lv_iconst (v := 1) hx hb dX10_takeNew_84 (by decide) ?_
        refine lv_iadd hx hb dX10_takeNew_85 ?_
        refine lv_topi (fun y_31 hy_31 => ?_)
        obtain rfl : y_31 = nI (c0 + 1) := hy_31.trans (nI_add c0 1)
        refine va_iast hx hb hK hP hD hS 5 1 rfl rfl (by unfold vp_in; decide) dX10_takeNew_86 (fun H locs hP9 hD9 hS9 => ?_)
        clear hP hD hS
        have hP := hP9
        have hD := hD9
        have hS := hS9
        clear hP9 hD9 hS9
        obtain ⟨g_32, eg_32⟩ : ∃ y, upd fc (0 : Int32).toNatClampNeg (nI (c0 + 1)) = y := ⟨_, rfl⟩
        rw [eg_32] at hP hD
        have hr_33 : cntOK g_32 ((c0 + 1)) c1 c2 c3 := eg_32 ▸ cnt_put0 hcn
        replace hP : va_P D vwCl [wI (cy 0) t1 1600 (fby), (t2, .inl (cy 2, 24, .inr (.inl (fky)))), wO d0 10 [.ref t0, .ref d1, .ref h0, yf, .int uh, .int wt, .int dt, .int vv, .int fq, .int pq], wO t0 9 [.ref t1, .ref t2, .int (nI tn), .int (nI ta2_5), .int (nI ts2_6), .int (nI tk2_7), .long tm2_8, .int tr2_9], wO h0 4 [.ref h1, .ref h2, .ref h3, .ref h4, .ref h5, .ref h6, .ref h7, .ref h8, .ref h9, .ref h10, .ref h11, hv0, hv1, hv2, hv3, hv4], wI (cy 1) h1 4 (g_32), (d1, .inl (cy 5, 4, .inr (.inr (.inr (.inr (eF d2 d3 d4 d5)))))), (d2, .inl (cy 2, 8, .inr (.inl (g_30))))] H := hP
        replace hD : va_D A [wI (cy 0) t1 1600 (fby), (t2, .inl (cy 2, 24, .inr (.inl (fky)))), wO d0 10 [.ref t0, .ref d1, .ref h0, yf, .int uh, .int wt, .int dt, .int vv, .int fq, .int pq], wO t0 9 [.ref t1, .ref t2, .int (nI tn), .int (nI ta2_5), .int (nI ts2_6), .int (nI tk2_7), .long tm2_8, .int tr2_9], wO h0 4 [.ref h1, .ref h2, .ref h3, .ref h4, .ref h5, .ref h6, .ref h7, .ref h8, .ref h9, .ref h10, .ref h11, hv0, hv1, hv2, hv3, hv4], wI (cy 1) h1 4 (g_32), (d1, .inl (cy 5, 4, .inr (.inr (.inr (.inr (eF d2 d3 d4 d5)))))), (d2, .inl (cy 2, 8, .inr (.inl (g_30))))] := hD
        refine lv_aload_n hx hb dX10_takeNew_87 rfl (lv_at hl 1 rfl) ?_
        refine va_get (D := D) (ci := 10) (v := .ref t0) (C := RX10) (T := TX10) (N := 10) hx hb hg i_X10 hown hK hP 2 rfl rfl 0 (by decide) (hg _ m_255) (fun _ h9 => h9) rfl dX10_takeNew_88 ?_
        refine x_callVv (q := (RX9, TX9, 8)) (ci := 9) (q0 := 0) (wr := [wO d0 10 [.ref t0, .ref d1, .ref h0, yf, .int uh, .int wt, .int dt, .int vv, .int fq, .int pq], wO h0 4 [.ref h1, .ref h2, .ref h3, .ref h4, .ref h5, .ref h6, .ref h7, .ref h8, .ref h9, .ref h10, .ref h11, hv0, hv1, hv2, hv3, hv4], wI (cy 1) h1 4 (g_32), (d1, .inl (cy 5, 4, .inr (.inr (.inr (.inr (eF d2 d3 d4 d5)))))), (d2, .inl (cy 2, 8, .inr (.inl (g_30))))]) (rest := []) ⟨hx, hb, hml, hown, hg, hl.1⟩ k_X10_140 (s_next l D cy adK adV t0 t1 t2 tn ta2_5 ts2_6 tk2_7 tm2_8 tr2_9 fby fky (fin fby tn (fin fby tn ga)) (by omega) (by omega) (f_12.2.1) (hky)) EV_blind hK hP hD hS hA [3, 0, 1] [2, 4, 5, 6, 7] ⟨rfl, rfl, by decide +kernel, by decide +kernel, by decide +kernel⟩ rfl rfl (fun U hU hW => EV_pass hE hS (va_free hD hS hA [3, 0, 1] rfl) hU hW) dX10_takeNew_91 rfl rfl (Nat.le_of_ble_eq_true rfl) ⟨Nat.le_of_ble_eq_true rfl, Nat.le_of_ble_eq_true rfl⟩ ⟨Nat.le_of_ble_eq_true rfl, Nat.le_of_ble_eq_true rfl⟩ (fun zu34 H locs hw34 hP9 hD9 hS9 => ?_)
        clear hP hD hS
        obtain ⟨ta2_35, ts2_36, tk2_37, tm2_38, tr2_39⟩ := zu34
        refine reW [wO d0 10 [.ref t0, .ref d1, .ref h0, yf, .int uh, .int wt, .int dt, .int vv, .int fq, .int pq], wO h0 4 [.ref h1, .ref h2, .ref h3, .ref h4, .ref h5, .ref h6, .ref h7, .ref h8, .ref h9, .ref h10, .ref h11, hv0, hv1, hv2, hv3, hv4], wI (cy 1) h1 4 (g_32), (d1, .inl (cy 5, 4, .inr (.inr (.inr (.inr (eF d2 d3 d4 d5)))))), (d2, .inl (cy 2, 8, .inr (.inl (g_30)))), wO t0 9 [.ref t1, .ref t2, .int (nI tn), .int (nI ta2_35), .int (nI ts2_36), .int (nI tk2_37), .long tm2_38, .int tr2_39], wI (cy 0) t1 1600 (fby), (t2, .inl (cy 2, 24, .inr (.inl (fky))))] hP9 hD9 hS9 (fun hP hD hS => ?_)
        clear hP9 hD9 hS9
        refine W.widen (k := 0) (n := 0) (Nat.le_of_ble_eq_true rfl) (Nat.le_of_ble_eq_true rfl) ?_
        replace hw34 : (ta2_35 ≤ tn) ∧ (tk2_37 ≤ 123) ∧ (tkC fby tn (fin fby tn (fin fby tn ga)) ta2_35 ts2_36 tk2_37 tm2_38 tr2_39) := hw34
        obtain ⟨f_40, f_41, f_42⟩ := hw34
        refine lv_iconst (v := 1) hx hb dX10_takeNew_94 (by decide) ?_
        exact x_zret hQ hx hb hr hlocks hK hP hD hS rfl dX10_takeNew_95 (ta2_35, ts2_36, tk2_37, tm2_38, tr2_39, fq, pq, (c0 + 1), g_32, g_30, 0, 0) (⟨(show ta2_35 ≤ tn from by omega), (show tk2_37 ≤ 123 from by omega), hr_33, (show ((c0 + 1)) ≤ 8 from by omega), (show ((1 : Int32) = 1 ∧ (newS fby tn 8 c0 np0 ga = .inr (fin fby tn (fin fby tn ga))) ∧ (fq = fq) ∧ (pq = pq) ∧ (tkC fby tn (fin fby tn (fin fby tn ga)) ta2_35 ts2_36 tk2_37 tm2_38 tr2_39) ∧ (c0 + 1 = ((c0 + 1))) ∧ (c0 < 8) ∧ (nmC fby tn (updN np0 c0 (fin fby tn ga)) (c0 + 1) g_30) ∧ (knd fby tn (fin fby tn ga) = 1)) ∨ ((1 : Int32) = 0 ∧ (newS fby tn 8 c0 np0 ga = .inl (0, 0)) ∧ (flt fby tn 0 0 fq pq)) from Or.inl ⟨rfl, ((if_neg (by omega)).trans ((if_pos hk9).trans (if_neg a_21))), (rfl), (rfl), (f_42), (rfl), (by omega), (hnm9), (hk9)⟩)⟩) [0, 5, 6, 7, 1, 2, 3, 4] (by decide +kernel) rfl (Nat.le_of_ble_eq_true rfl) (Nat.le_of_ble_eq_true rfl)
    · have q_14 : ¬ tk2_7 = 1 := q_ne (a := tk2_7) (b := 1) rfl rfl (by omega) (by omega) c_13
      refine lv_aload_n hx hb dX10_takeNew_39 rfl (lv_at hl 1 rfl) ?_
      refine lv_iconst (v := 2) hx hb dX10_takeNew_40 (by decide) ?_
      refine x_callVi (q := (RX10, TX10, 10)) (ci := 10) (q0 := 0) (wr := [wO h0 4 [.ref h1, .ref h2, .ref h3, .ref h4, .ref h5, .ref h6, .ref h7, .ref h8, .ref h9, .ref h10, .ref h11, hv0, hv1, hv2, hv3, hv4], wI (cy 1) h1 4 (fc), (d1, .inl (cy 5, 4, .inr (.inr (.inr (.inr (eF d2 d3 d4 d5)))))), (d2, .inl (cy 2, 8, .inr (.inl (fd0)))), wI (cy 0) t1 1600 (fby), (t2, .inl (cy 2, 24, .inr (.inl (fky))))]) (rest := []) ⟨hx, hb, hml, hown, hg, hl.1⟩ k_X10_110 (s_fail l D cy d0 d1 uh wt dt vv fq pq ((.ref h0)) yf t0 t1 t2 tn ta2_5 ts2_6 tk2_7 tm2_8 tr2_9 2 (by omega)) E0_blind hK hP hD hS hA [0, 5] [1, 2, 3, 4, 6, 7] ⟨rfl, rfl, by decide +kernel, by decide +kernel, by decide +kernel⟩ rfl rfl (fun _ _ _ => trivial) dX10_takeNew_41 rfl rfl (Nat.le_of_ble_eq_true rfl) ⟨Nat.le_of_ble_eq_true rfl, Nat.le_of_ble_eq_true rfl⟩ ⟨Nat.le_of_ble_eq_true rfl, Nat.le_of_ble_eq_true rfl⟩ (fun zr43 zu43 H locs hw43 hP9 hD9 hS9 => ?_)
      clear hP hD hS
      obtain ⟨fq2_44, pq2_45⟩ := zu43
      refine reW [wO h0 4 [.ref h1, .ref h2, .ref h3, .ref h4, .ref h5, .ref h6, .ref h7, .ref h8, .ref h9, .ref h10, .ref h11, hv0, hv1, hv2, hv3, hv4], wI (cy 1) h1 4 (fc), (d1, .inl (cy 5, 4, .inr (.inr (.inr (.inr (eF d2 d3 d4 d5)))))), (d2, .inl (cy 2, 8, .inr (.inl (fd0)))), wI (cy 0) t1 1600 (fby), (t2, .inl (cy 2, 24, .inr (.inl (fky)))), wO d0 10 [.ref t0, .ref d1, .ref h0, yf, .int uh, .int wt, .int dt, .int vv, .int fq2_44, .int pq2_45], wO t0 9 [.ref t1, .ref t2, .int (nI tn), .int (nI ta2_5), .int (nI ts2_6), .int (nI tk2_7), .long tm2_8, .int tr2_9]] hP9 hD9 hS9 (fun hP hD hS => ?_)
      clear hP9 hD9 hS9
      refine W.widen (k := 0) (n := 0) (Nat.le_of_ble_eq_true rfl) (Nat.le_of_ble_eq_true rfl) ?_
      replace hw43 : ((zr43 = 0 ∧ (fq2_44 = nI (if tk2_7 = 3 then 1 else 2)) ∧ (pq2_45 = nI ts2_6))) := hw43
      have f_46 := hw43
      rcases f_46 with ⟨hz_49, a_47, a_48⟩
      subst hz_49
      exact x_zret hQ hx hb hr hlocks hK hP hD hS rfl dX10_takeNew_44 (ta2_5, ts2_6, tk2_7, tm2_8, tr2_9, fq2_44, pq2_45, c0, fc, fd0, 2, fin fby tn ga) (⟨(show ta2_5 ≤ tn from by omega), (show tk2_7 ≤ 123 from by omega), hcn, (show c0 ≤ 8 from by omega), (show ((0 : Int32) = 1 ∧ (newS fby tn 8 c0 np0 ga = .inr (fin fby tn (fin fby tn ga))) ∧ (fq = fq2_44) ∧ (pq = pq2_45) ∧ (tkC fby tn (fin fby tn (fin fby tn ga)) ta2_5 ts2_6 tk2_7 tm2_8 tr2_9) ∧ (c0 + 1 = c0) ∧ (c0 < 8) ∧ (nmC fby tn (updN np0 c0 (fin fby tn ga)) (c0 + 1) fd0) ∧ (knd fby tn (fin fby tn ga) = 1)) ∨ ((0 : Int32) = 0 ∧ (newS fby tn 8 c0 np0 ga = .inl (2, (fin fby tn ga))) ∧ (flt fby tn (fin fby tn ga) 2 fq2_44 pq2_45)) from Or.inr (⟨rfl, ((if_neg (by omega)).trans (if_neg (by have h9 := f_12.2.2.1; omega))), (flt_of f_12 a_47 a_48)⟩))⟩) [6, 7, 4, 5, 0, 1, 2, 3] (by decide +kernel) rfl (Nat.le_of_ble_eq_true rfl) (Nat.le_of_ble_eq_true rfl)
  · have q_3 : 8 ≤ c0 := q_nlt (a := c0) (b := 8) rfl rfl (by omega) (by omega) c_2
    refine lv_aload_n hx hb dX10_takeNew_15 rfl (lv_at hl 1 rfl) ?_
    refine lv_iconst (v := 2) hx hb dX10_takeNew_16 (by decide) ?_
    refine x_callVi (q := (RX10, TX10, 10)) (ci := 10) (q0 := 0) (wr := [wI (cy 0) t1 1600 (fby), (t2, .inl (cy 2, 24, .inr (.inl (fky)))), wO h0 4 [.ref h1, .ref h2, .ref h3, .ref h4, .ref h5, .ref h6, .ref h7, .ref h8, .ref h9, .ref h10, .ref h11, hv0, hv1, hv2, hv3, hv4], wI (cy 1) h1 4 (fc), (d1, .inl (cy 5, 4, .inr (.inr (.inr (.inr (eF d2 d3 d4 d5)))))), (d2, .inl (cy 2, 8, .inr (.inl (fd0))))]) (rest := []) ⟨hx, hb, hml, hown, hg, hl.1⟩ k_X10_110 (s_fail l D cy d0 d1 uh wt dt vv fq pq ((.ref h0)) yf t0 t1 t2 tn ta ts tk tm tr 2 (by omega)) E0_blind hK hP hD hS hA [0, 1] [2, 3, 4, 5, 6, 7] ⟨rfl, rfl, by decide +kernel, by decide +kernel, by decide +kernel⟩ rfl rfl (fun _ _ _ => trivial) dX10_takeNew_17 rfl rfl (Nat.le_of_ble_eq_true rfl) ⟨Nat.le_of_ble_eq_true rfl, Nat.le_of_ble_eq_true rfl⟩ ⟨Nat.le_of_ble_eq_true rfl, Nat.le_of_ble_eq_true rfl⟩ (fun zr50 zu50 H locs hw50 hP9 hD9 hS9 => ?_)
    clear hP hD hS
    obtain ⟨fq2_51, pq2_52⟩ := zu50
    refine reW [wI (cy 0) t1 1600 (fby), (t2, .inl (cy 2, 24, .inr (.inl (fky)))), wO h0 4 [.ref h1, .ref h2, .ref h3, .ref h4, .ref h5, .ref h6, .ref h7, .ref h8, .ref h9, .ref h10, .ref h11, hv0, hv1, hv2, hv3, hv4], wI (cy 1) h1 4 (fc), (d1, .inl (cy 5, 4, .inr (.inr (.inr (.inr (eF d2 d3 d4 d5)))))), (d2, .inl (cy 2, 8, .inr (.inl (fd0)))), wO d0 10 [.ref t0, .ref d1, .ref h0, yf, .int uh, .int wt, .int dt, .int vv, .int fq2_51, .int pq2_52], wO t0 9 [.ref t1, .ref t2, .int (nI tn), .int (nI ta), .int (nI ts), .int (nI tk), .long tm, .int tr]] hP9 hD9 hS9 (fun hP hD hS => ?_)
    clear hP9 hD9 hS9
    refine W.widen (k := 0) (n := 0) (Nat.le_of_ble_eq_true rfl) (Nat.le_of_ble_eq_true rfl) ?_
    replace hw50 : ((zr50 = 0 ∧ (fq2_51 = nI (if tk = 3 then 1 else 2)) ∧ (pq2_52 = nI ts))) := hw50
    have f_53 := hw50
    rcases f_53 with ⟨hz_56, a_54, a_55⟩
    subst hz_56
    exact x_zret hQ hx hb hr hlocks hK hP hD hS rfl dX10_takeNew_20 (ta, ts, tk, tm, tr, fq2_51, pq2_52, c0, fc, fd0, 2, ga) (⟨(show ta ≤ tn from by omega), (show tk ≤ 123 from by omega), hcn, (show c0 ≤ 8 from by omega), (show ((0 : Int32) = 1 ∧ (newS fby tn 8 c0 np0 ga = .inr (fin fby tn (fin fby tn ga))) ∧ (fq = fq2_51) ∧ (pq = pq2_52) ∧ (tkC fby tn (fin fby tn (fin fby tn ga)) ta ts tk tm tr) ∧ (c0 + 1 = c0) ∧ (c0 < 8) ∧ (nmC fby tn (updN np0 c0 (fin fby tn ga)) (c0 + 1) fd0) ∧ (knd fby tn (fin fby tn ga) = 1)) ∨ ((0 : Int32) = 0 ∧ (newS fby tn 8 c0 np0 ga = .inl (2, ga)) ∧ (flt fby tn ga 2 fq2_51 pq2_52)) from Or.inr (⟨rfl, (if_pos (by omega)), (flt_of hti a_54 a_55)⟩))⟩) [6, 7, 0, 1, 2, 3, 4, 5] (by decide +kernel) rfl (Nat.le_of_ble_eq_true rfl) (Nat.le_of_ble_eq_true rfl)
set_option maxHeartbeats 1000000 in
set_option maxRecDepth 100000 in
theorem s_takeNew1 (l : Launch) (D : va_G) (cy : Nat → ClassId) (adK : Nat → Nat) (adV : Nat → Nat) (d0 : Nat) (d1 : Nat) (uh : Int32) (wt : Int32) (dt : Int32) (vv : Int32) (fq : Int32) (pq : Int32) (yf : Value) (t0 : Nat) (t1 : Nat) (t2 : Nat) (tn : Nat) (ta : Nat) (ts : Nat) (tk : Nat) (tm : Int64) (tr : Int32) (fby : Nat → Int32) (fky : Nat → Int64) (h0 : Nat) (h1 : Nat) (h2 : Nat) (h3 : Nat) (h4 : Nat) (h5 : Nat) (h6 : Nat) (h7 : Nat) (h8 : Nat) (h9 : Nat) (h10 : Nat) (h11 : Nat) (hv0 : Value) (hv1 : Value) (hv2 : Value) (hv3 : Value) (hv4 : Value) (fc : Nat → Int32) (c0 : Nat) (c1 : Nat) (c2 : Nat) (c3 : Nat) (d2 : Nat) (d3 : Nat) (d4 : Nat) (d5 : Nat) (fd1 : Nat → Int64) (ga : Nat) (np1 : Nat → Nat) (hcn : cntOK fc c0 c1 c2 c3) (hc0 : c0 ≤ 8) (hc1 : c1 ≤ 4) (hc2 : c2 ≤ 4) (hc3 : c3 ≤ 6) (htn : tn ≤ 1600) (hta : ta ≤ tn) (htk : tk ≤ 123) (hti : tkC fby tn ga ta ts tk tm tr) (hky : kyOK fky) (hnm1 : nmC fby tn np1 c1 fd1) : XMi l D (tyL cy) (EV adK adV) yX10_takeNew cX10_takeNew 4 (some .boolean) (rmk 7 0 0) [.ref d0, .int 1, .int 4] [wO d0 10 [.ref t0, .ref d1, .ref h0, yf, .int uh, .int wt, .int dt, .int vv, .int fq, .int pq], wO t0 9 [.ref t1, .ref t2, .int (nI tn), .int (nI ta), .int (nI ts), .int (nI tk), .long tm, .int tr], wI (cy 0) t1 1600 (fby), (t2, .inl (cy 2, 24, .inr (.inl (fky)))), wO h0 4 [.ref h1, .ref h2, .ref h3, .ref h4, .ref h5, .ref h6, .ref h7, .ref h8, .ref h9, .ref h10, .ref h11, hv0, hv1, hv2, hv3, hv4], wI (cy 1) h1 4 (fc), (d1, .inl (cy 5, 4, .inr (.inr (.inr (.inr (eF d2 d3 d4 d5)))))), (d3, .inl (cy 2, 8, .inr (.inl (fd1))))] (fun (r : Int32) (u : Nat × Nat × Nat × Int64 × Int32 × Int32 × Int32 × Nat × (Nat → Int32) × (Nat → Int64) × Nat × Nat) => (u.1 ≤ tn) ∧ (u.2.2.1 ≤ 123) ∧ (cntOK u.2.2.2.2.2.2.2.2.1 c0 u.2.2.2.2.2.2.2.1 c2 c3) ∧ (u.2.2.2.2.2.2.2.1 ≤ 4) ∧ ((r = 1 ∧ (newS fby tn 4 c1 np1 ga = .inr (fin fby tn (fin fby tn ga))) ∧ (fq = u.2.2.2.2.2.1) ∧ (pq = u.2.2.2.2.2.2.1) ∧ (tkC fby tn (fin fby tn (fin fby tn ga)) u.1 u.2.1 u.2.2.1 u.2.2.2.1 u.2.2.2.2.1) ∧ (c1 + 1 = u.2.2.2.2.2.2.2.1) ∧ (c1 < 4) ∧ (nmC fby tn (updN np1 c1 (fin fby tn ga)) (c1 + 1) u.2.2.2.2.2.2.2.2.2.1) ∧ (knd fby tn (fin fby tn ga) = 1)) ∨ (r = 0 ∧ (newS fby tn 4 c1 np1 ga = .inl (u.2.2.2.2.2.2.2.2.2.2.1, u.2.2.2.2.2.2.2.2.2.2.2)) ∧ (flt fby tn u.2.2.2.2.2.2.2.2.2.2.2 u.2.2.2.2.2.2.2.2.2.2.1 u.2.2.2.2.2.1 u.2.2.2.2.2.2.1)))) (fun (u : Nat × Nat × Nat × Int64 × Int32 × Int32 × Int32 × Nat × (Nat → Int32) × (Nat → Int64) × Nat × Nat) => [wO d0 10 [.ref t0, .ref d1, .ref h0, yf, .int uh, .int wt, .int dt, .int vv, .int u.2.2.2.2.2.1, .int u.2.2.2.2.2.2.1], wO t0 9 [.ref t1, .ref t2, .int (nI tn), .int (nI u.1), .int (nI u.2.1), .int (nI u.2.2.1), .long u.2.2.2.1, .int u.2.2.2.2.1], wI (cy 0) t1 1600 (fby), (t2, .inl (cy 2, 24, .inr (.inl (fky)))), wO h0 4 [.ref h1, .ref h2, .ref h3, .ref h4, .ref h5, .ref h6, .ref h7, .ref h8, .ref h9, .ref h10, .ref h11, hv0, hv1, hv2, hv3, hv4], wI (cy 1) h1 4 (u.2.2.2.2.2.2.2.2.1), (d1, .inl (cy 5, 4, .inr (.inr (.inr (.inr (eF d2 d3 d4 d5)))))), (d3, .inl (cy 2, 8, .inr (.inl (u.2.2.2.2.2.2.2.2.2.1))))]) := by
  refine XMi.start (by decide) (Nat.le_of_ble_eq_true rfl) ?_
  intro p e s m below meth c args A ls Q hat hQ
  obtain ⟨hx, hb, hr, hml, hown, hg, hlocks, hin, hK, hA, hP, hD, hS, hE, hl⟩ := hat
  have hown : s.vm.findClass RX10 = some m.cls := hown
  have hl : lv_has ls 4 [(0, .ref d0), (1, .int 1), (2, .int 4)] := hl
  refine lv_aload_n hx hb dX10_takeNew_0 rfl (lv_at hl 0 rfl) ?_
  refine va_get (D := D) (ci := 10) (v := .ref h0) (C := RX10) (T := TX10) (N := 10) hx hb hg i_X10 hown hK hP 0 rfl rfl 2 (by decide) (hg _ m_257) (fun _ h9 => h9) rfl dX10_takeNew_1 ?_
  refine va_get (D := D) (ci := 4) (v := .ref h1) (C := RX4) (T := TX4) (N := 16) hx hb hg i_X4 hown hK hP 4 rfl rfl 0 (by decide) (hg _ m_336) (fun _ h9 => h9) rfl dX10_takeNew_4 ?_
  refine lv_iload_n hx hb dX10_takeNew_7 rfl (lv_at hl 1 rfl) ?_
  refine va_iald hx hb hK hP 5 1 rfl rfl (by unfold vp_in; decide) dX10_takeNew_8 ?_
  refine lv_topi (fun y_1 hy_1 => ?_)
  obtain rfl : y_1 = nI c1 := hy_1.trans hcn.2.1
  refine lv_istore_n (lv' := [(3, .int (nI c1)), (0, .ref d0), (1, .int 1), (2, .int 4)]) hx hb dX10_takeNew_9 rfl hl (by decide) rfl (fun ls hl => ?_)
  refine lv_iload_n hx hb dX10_takeNew_10 rfl (lv_at hl 0 rfl) ?_
  refine lv_iload_n hx hb dX10_takeNew_11 rfl (lv_at hl 3 rfl) ?_
  refine lv_icmp_lt (tgt := 21) hx hb dX10_takeNew_12 (by decide) (fun c_2 => ?_) (fun c_2 => ?_)
  · have q_3 : c1 < 4 := q_lt (a := c1) (b := 4) rfl rfl (by omega) (by omega) c_2
    refine lv_aload_n hx hb dX10_takeNew_21 rfl (lv_at hl 1 rfl) ?_
    refine va_get (D := D) (ci := 10) (v := .ref t0) (C := RX10) (T := TX10) (N := 10) hx hb hg i_X10 hown hK hP 0 rfl rfl 0 (by decide) (hg _ m_255) (fun _ h9 => h9) rfl dX10_takeNew_22 ?_
    refine x_callVv (q := (RX9, TX9, 8)) (ci := 9) (q0 := 0) (wr := [wO d0 10 [.ref t0, .ref d1, .ref h0, yf, .int uh, .int wt, .int dt, .int vv, .int fq, .int pq], wO h0 4 [.ref h1, .ref h2, .ref h3, .ref h4, .ref h5, .ref h6, .ref h7, .ref h8, .ref h9, .ref h10, .ref h11, hv0, hv1, hv2, hv3, hv4], wI (cy 1) h1 4 (fc), (d1, .inl (cy 5, 4, .inr (.inr (.inr (.inr (eF d2 d3 d4 d5)))))), (d3, .inl (cy 2, 8, .inr (.inl (fd1))))]) (rest := []) ⟨hx, hb, hml, hown, hg, hl.1⟩ k_X10_140 (s_next l D cy adK adV t0 t1 t2 tn ta ts tk tm tr fby fky (fin fby tn ga) (by omega) (by omega) (hti.2.1) (hky)) EV_blind hK hP hD hS hA [1, 2, 3] [0, 4, 5, 6, 7] ⟨rfl, rfl, by decide +kernel, by decide +kernel, by decide +kernel⟩ rfl rfl (fun U hU hW => EV_pass hE hS (va_free hD hS hA [1, 2, 3] rfl) hU hW) dX10_takeNew_25 rfl rfl (Nat.le_of_ble_eq_true rfl) ⟨Nat.le_of_ble_eq_true rfl, Nat.le_of_ble_eq_true rfl⟩ ⟨Nat.le_of_ble_eq_true rfl, Nat.le_of_ble_eq_true rfl⟩ (fun zu4 H locs hw4 hP9 hD9 hS9 => ?_)
    clear hP hD hS
    obtain ⟨ta2_5, ts2_6, tk2_7, tm2_8, tr2_9⟩ := zu4
    refine reW [wO d0 10 [.ref t0, .ref d1, .ref h0, yf, .int uh, .int wt, .int dt, .int vv, .int fq, .int pq], wO h0 4 [.ref h1, .ref h2, .ref h3, .ref h4, .ref h5, .ref h6, .ref h7, .ref h8, .ref h9, .ref h10, .ref h11, hv0, hv1, hv2, hv3, hv4], wI (cy 1) h1 4 (fc), (d1, .inl (cy 5, 4, .inr (.inr (.inr (.inr (eF d2 d3 d4 d5)))))), (d3, .inl (cy 2, 8, .inr (.inl (fd1)))), wO t0 9 [.ref t1, .ref t2, .int (nI tn), .int (nI ta2_5), .int (nI ts2_6), .int (nI tk2_7), .long tm2_8, .int tr2_9], wI (cy 0) t1 1600 (fby), (t2, .inl (cy 2, 24, .inr (.inl (fky))))] hP9 hD9 hS9 (fun hP hD hS => ?_)
    clear hP9 hD9 hS9
    refine W.widen (k := 0) (n := 0) (Nat.le_of_ble_eq_true rfl) (Nat.le_of_ble_eq_true rfl) ?_
    replace hw4 : (ta2_5 ≤ tn) ∧ (tk2_7 ≤ 123) ∧ (tkC fby tn (fin fby tn ga) ta2_5 ts2_6 tk2_7 tm2_8 tr2_9) := hw4
    obtain ⟨f_10, f_11, f_12⟩ := hw4
    refine lv_aload_n hx hb dX10_takeNew_28 rfl (lv_at hl 1 rfl) ?_
    refine va_get (D := D) (ci := 10) (v := .ref t0) (C := RX10) (T := TX10) (N := 10) hx hb hg i_X10 hown hK hP 0 rfl rfl 0 (by decide) (hg _ m_255) (fun _ h9 => h9) rfl dX10_takeNew_29 ?_
    refine va_get (D := D) (ci := 9) (v := .int (nI tk2_7)) (C := RX9) (T := TX9) (N := 8) hx hb hg i_X9 hown hK hP 5 rfl rfl 5 (by decide) (hg _ m_222) (fun _ h9 => h9) rfl dX10_takeNew_32 ?_
    refine lv_iconst (v := 1) hx hb dX10_takeNew_35 (by decide) ?_
    refine lv_icmp_eq (tgt := 45) hx hb dX10_takeNew_36 (by decide) (fun c_13 => ?_) (fun c_13 => ?_)
    · have q_14 : tk2_7 = 1 := q_eq (a := tk2_7) (b := 1) rfl rfl (by omega) (by omega) c_13
      have hk9 : knd fby tn (fin fby tn ga) = 1 := by have h9 := f_12.2.2.1; omega
      refine lv_aload_n hx hb dX10_takeNew_45 rfl (lv_at hl 1 rfl) ?_
      refine lv_iload_n hx hb dX10_takeNew_46 rfl (lv_at hl 2 rfl) ?_
      refine x_callVi (q := (RX10, TX10, 10)) (ci := 10) (q0 := 0) (wr := [wI (cy 0) t1 1600 (fby), (t2, .inl (cy 2, 24, .inr (.inl (fky))))]) (rest := []) ⟨hx, hb, hml, hown, hg, hl.1⟩ k_X10_169 (s_find1 l D cy d0 d1 uh wt dt vv fq pq yf t0 t1 t2 tn ta2_5 ts2_6 tk2_7 tm2_8 tr2_9 h0 h1 h2 h3 h4 h5 h6 h7 h8 h9 h10 h11 hv0 hv1 hv2 hv3 hv4 fc c0 c1 c2 c3 d2 d3 d4 d5 fd1 fby (fin fby tn ga) np1 (hcn) (by omega) (by omega) (by omega) (by omega) (by omega) (f_12) (hnm1)) E0_blind hK hP hD hS hA [0, 5, 1, 2, 3, 4] [6, 7] ⟨rfl, rfl, by decide +kernel, by decide +kernel, by decide +kernel⟩ rfl rfl (fun _ _ _ => trivial) dX10_takeNew_47 rfl rfl (Nat.le_of_ble_eq_true rfl) ⟨Nat.le_of_ble_eq_true rfl, Nat.le_of_ble_eq_true rfl⟩ ⟨Nat.le_of_ble_eq_true rfl, Nat.le_of_ble_eq_true rfl⟩ (fun zr15 zu15 H locs hw15 hP9 hD9 hS9 => ?_)
      clear hP hD hS
      obtain ⟨jr_16, rfl⟩ : ∃ z, z = zu15 := ⟨_, rfl⟩
      refine reW [wI (cy 0) t1 1600 (fby), (t2, .inl (cy 2, 24, .inr (.inl (fky)))), wO d0 10 [.ref t0, .ref d1, .ref h0, yf, .int uh, .int wt, .int dt, .int vv, .int fq, .int pq], wO t0 9 [.ref t1, .ref t2, .int (nI tn), .int (nI ta2_5), .int (nI ts2_6), .int (nI tk2_7), .long tm2_8, .int tr2_9], wO h0 4 [.ref h1, .ref h2, .ref h3, .ref h4, .ref h5, .ref h6, .ref h7, .ref h8, .ref h9, .ref h10, .ref h11, hv0, hv1, hv2, hv3, hv4], wI (cy 1) h1 4 (fc), (d1, .inl (cy 5, 4, .inr (.inr (.inr (.inr (eF d2 d3 d4 d5)))))), (d3, .inl (cy 2, 8, .inr (.inl (fd1))))] hP9 hD9 hS9 (fun hP hD hS => ?_)
      clear hP9 hD9 hS9
      refine W.widen (k := 0) (n := 0) (Nat.le_of_ble_eq_true rfl) (Nat.le_of_ble_eq_true rfl) ?_
      replace hw15 : ((zr15 = nI jr_16 ∧ (fnd fby tn np1 c1 (fin fby tn ga) = jr_16) ∧ (jr_16 < c1)) ∨ (zr15 = -1 ∧ (¬ fnd fby tn np1 c1 (fin fby tn ga) < c1))) := hw15
      have f_17 := hw15
      rcases f_17 with ⟨hz_20, a_18, a_19⟩ | ⟨hz_22, a_21⟩
      · subst hz_20
        subst a_18
        refine lv_iconst (v := -1) hx hb dX10_takeNew_50 (by decide) ?_
        refine lv_icmp_eq (tgt := 60) hx hb dX10_takeNew_51 (by decide) (fun h => absurd h (nI_nneg (by omega) (by decide))) (fun _ => ?_)
        refine lv_aload_n hx hb dX10_takeNew_54 rfl (lv_at hl 1 rfl) ?_
        refine lv_iconst (v := 3) hx hb dX10_takeNew_55 (by decide) ?_
        refine x_callVi (q := (RX10, TX10, 10)) (ci := 10) (q0 := 0) (wr := [wI (cy 0) t1 1600 (fby), (t2, .inl (cy 2, 24, .inr (.inl (fky)))), wO h0 4 [.ref h1, .ref h2, .ref h3, .ref h4, .ref h5, .ref h6, .ref h7, .ref h8, .ref h9, .ref h10, .ref h11, hv0, hv1, hv2, hv3, hv4], wI (cy 1) h1 4 (fc), (d1, .inl (cy 5, 4, .inr (.inr (.inr (.inr (eF d2 d3 d4 d5)))))), (d3, .inl (cy 2, 8, .inr (.inl (fd1))))]) (rest := []) ⟨hx, hb, hml, hown, hg, hl.1⟩ k_X10_110 (s_fail l D cy d0 d1 uh wt dt vv fq pq ((.ref h0)) yf t0 t1 t2 tn ta2_5 ts2_6 tk2_7 tm2_8 tr2_9 3 (by omega)) E0_blind hK hP hD hS hA [2, 3] [0, 1, 4, 5, 6, 7] ⟨rfl, rfl, by decide +kernel, by decide +kernel, by decide +kernel⟩ rfl rfl (fun _ _ _ => trivial) dX10_takeNew_56 rfl rfl (Nat.le_of_ble_eq_true rfl) ⟨Nat.le_of_ble_eq_true rfl, Nat.le_of_ble_eq_true rfl⟩ ⟨Nat.le_of_ble_eq_true rfl, Nat.le_of_ble_eq_true rfl⟩ (fun zr23 zu23 H locs hw23 hP9 hD9 hS9 => ?_)
        clear hP hD hS
        obtain ⟨fq2_24, pq2_25⟩ := zu23
        refine reW [wI (cy 0) t1 1600 (fby), (t2, .inl (cy 2, 24, .inr (.inl (fky)))), wO h0 4 [.ref h1, .ref h2, .ref h3, .ref h4, .ref h5, .ref h6, .ref h7, .ref h8, .ref h9, .ref h10, .ref h11, hv0, hv1, hv2, hv3, hv4], wI (cy 1) h1 4 (fc), (d1, .inl (cy 5, 4, .inr (.inr (.inr (.inr (eF d2 d3 d4 d5)))))), (d3, .inl (cy 2, 8, .inr (.inl (fd1)))), wO d0 10 [.ref t0, .ref d1, .ref h0, yf, .int uh, .int wt, .int dt, .int vv, .int fq2_24, .int pq2_25], wO t0 9 [.ref t1, .ref t2, .int (nI tn), .int (nI ta2_5), .int (nI ts2_6), .int (nI tk2_7), .long tm2_8, .int tr2_9]] hP9 hD9 hS9 (fun hP hD hS => ?_)
        clear hP9 hD9 hS9
        refine W.widen (k := 0) (n := 0) (Nat.le_of_ble_eq_true rfl) (Nat.le_of_ble_eq_true rfl) ?_
        replace hw23 : ((zr23 = 0 ∧ (fq2_24 = nI (if tk2_7 = 3 then 1 else 3)) ∧ (pq2_25 = nI ts2_6))) := hw23
        have f_26 := hw23
        rcases f_26 with ⟨hz_29, a_27, a_28⟩
        subst hz_29
        exact x_zret hQ hx hb hr hlocks hK hP hD hS rfl dX10_takeNew_59 (ta2_5, ts2_6, tk2_7, tm2_8, tr2_9, fq2_24, pq2_25, c1, fc, fd1, 3, fin fby tn ga) (⟨(show ta2_5 ≤ tn from by omega), (show tk2_7 ≤ 123 from by omega), hcn, (show c1 ≤ 4 from by omega), (show ((0 : Int32) = 1 ∧ (newS fby tn 4 c1 np1 ga = .inr (fin fby tn (fin fby tn ga))) ∧ (fq = fq2_24) ∧ (pq = pq2_25) ∧ (tkC fby tn (fin fby tn (fin fby tn ga)) ta2_5 ts2_6 tk2_7 tm2_8 tr2_9) ∧ (c1 + 1 = c1) ∧ (c1 < 4) ∧ (nmC fby tn (updN np1 c1 (fin fby tn ga)) (c1 + 1) fd1) ∧ (knd fby tn (fin fby tn ga) = 1)) ∨ ((0 : Int32) = 0 ∧ (newS fby tn 4 c1 np1 ga = .inl (3, (fin fby tn ga))) ∧ (flt fby tn (fin fby tn ga) 3 fq2_24 pq2_25)) from Or.inr (⟨rfl, ((if_neg (by omega)).trans ((if_pos hk9).trans (if_pos a_19))), (flt_of f_12 a_27 a_28)⟩))⟩) [6, 7, 0, 1, 2, 3, 4, 5] (by decide +kernel) rfl (Nat.le_of_ble_eq_true rfl) (Nat.le_of_ble_eq_true rfl)
      · subst hz_22
        refine lv_iconst (v := -1) hx hb dX10_takeNew_50 (by decide) ?_
        refine lv_icmp_eq (tgt := 60) hx hb dX10_takeNew_51 (by decide) (fun _ => ?_) (fun h => absurd (by decide) h)
        refine lv_aload_n hx hb dX10_takeNew_60 rfl (lv_at hl 1 rfl) ?_
        refine va_get (D := D) (ci := 10) (v := .ref d1) (C := RX10) (T := TX10) (N := 10) hx hb hg i_X10 hown hK hP 2 rfl rfl 1 (by decide) (hg _ m_256) (fun _ h9 => h9) rfl dX10_takeNew_61 ?_
        refine lv_iload_n hx hb dX10_takeNew_64 rfl (lv_at hl 2 rfl) ?_
        refine x_aald (v := d3) hx hb hK hP 6 5 rfl rfl (by unfold vp_in; decide) rfl dX10_takeNew_65 ?_
        refine lv_iload_n hx hb dX10_takeNew_66 rfl (lv_at hl 0 rfl) ?_
        refine lv_aload_n hx hb dX10_takeNew_67 rfl (lv_at hl 1 rfl) ?_
        refine va_get (D := D) (ci := 10) (v := .ref t0) (C := RX10) (T := TX10) (N := 10) hx hb hg i_X10 hown hK hP 2 rfl rfl 0 (by decide) (hg _ m_255) (fun _ h9 => h9) rfl dX10_takeNew_68 ?_
        refine va_get (D := D) (ci := 9) (v := .long tm2_8) (C := RX9) (T := TX9) (N := 8) hx hb hg i_X9 hown hK hP 3 rfl rfl 6 (by decide) (hg _ m_225) (fun _ h9 => h9) rfl dX10_takeNew_71 ?_
        refine va_last hx hb hK hP hD hS 7 2 rfl rfl (vp_in_nI (by omega) (by decide)) dX10_takeNew_74 (fun H locs hP9 hD9 hS9 => ?_)
        clear hP hD hS
        obtain ⟨g_30, eg_30⟩ : ∃ y, vp_updL fd1 (nI c1 : Int32).toNatClampNeg tm2_8 = y := ⟨_, rfl⟩
        rw [eg_30] at hP9 hD9
        refine reW [wI (cy 0) t1 1600 (fby), (t2, .inl (cy 2, 24, .inr (.inl (fky)))), wO d0 10 [.ref t0, .ref d1, .ref h0, yf, .int uh, .int wt, .int dt, .int vv, .int fq, .int pq], wO t0 9 [.ref t1, .ref t2, .int (nI tn), .int (nI ta2_5), .int (nI ts2_6), .int (nI tk2_7), .long tm2_8, .int tr2_9], wO h0 4 [.ref h1, .ref h2, .ref h3, .ref h4, .ref h5, .ref h6, .ref h7, .ref h8, .ref h9, .ref h10, .ref h11, hv0, hv1, hv2, hv3, hv4], wI (cy 1) h1 4 (fc), (d1, .inl (cy 5, 4, .inr (.inr (.inr (.inr (eF d2 d3 d4 d5)))))), (d3, .inl (cy 2, 8, .inr (.inl (g_30))))] hP9 hD9 hS9 (fun hP hD hS => ?_)
        clear hP9 hD9 hS9
        have hnm9 := nmC_put (by omega) hnm1 (f_12.2.2.2.1 (by omega)) hk9 eg_30
        refine lv_aload_n hx hb dX10_takeNew_75 rfl (lv_at hl 1 rfl) ?_
        refine va_get (D := D) (ci := 10) (v := .ref h0) (C := RX10) (T := TX10) (N := 10) hx hb hg i_X10 hown hK hP 2 rfl rfl 2 (by decide) (hg _ m_257) (fun _ h9 => h9) rfl dX10_takeNew_76 ?_
        refine va_get (D := D) (ci := 4) (v := .ref h1) (C := RX4) (T := TX4) (N := 16) hx hb hg i_X4 hown hK hP 4 rfl rfl 0 (by decide) (hg _ m_336) (fun _ h9 => h9) rfl dX10_takeNew_79 ?_
        refine lv_iload_n hx hb dX10_takeNew_82 rfl (lv_at hl 2 rfl) ?_
        refine lv_iload_n hx hb dX10_takeNew_83 rfl (lv_at hl 0 rfl) ?_
        refine lv_iconst (v := 1) hx hb dX10_takeNew_84 (by decide) ?_
        refine lv_iadd hx hb dX10_takeNew_85 ?_
        refine lv_topi (fun y_31 hy_31 => ?_)
        obtain rfl : y_31 = nI (c1 + 1) := hy_31.trans (nI_add c1 1)
        refine va_iast hx hb hK hP hD hS 5 1 rfl rfl (by unfold vp_in; decide) dX10_takeNew_86 (fun H locs hP9 hD9 hS9 => ?_)
        clear hP hD hS
        have hP := hP9
        have hD := hD9
        have hS := hS9
        clear hP9 hD9 hS9
        obtain ⟨g_32, eg_32⟩ : ∃ y, upd fc (1 : Int32).toNatClampNeg (nI (c1 + 1)) = y := ⟨_, rfl⟩
        rw [eg_32] at hP hD
        have hr_33 : cntOK g_32 c0 ((c1 + 1)) c2 c3 := eg_32 ▸ cnt_put1 hcn
        replace hP : va_P D vwCl [wI (cy 0) t1 1600 (fby), (t2, .inl (cy 2, 24, .inr (.inl (fky)))), wO d0 10 [.ref t0, .ref d1, .ref h0, yf, .int uh, .int wt, .int dt, .int vv, .int fq, .int pq], wO t0 9 [.ref t1, .ref t2, .int (nI tn), .int (nI ta2_5), .int (nI ts2_6), .int (nI tk2_7), .long tm2_8, .int tr2_9], wO h0 4 [.ref h1, .ref h2, .ref h3, .ref h4, .ref h5, .ref h6, .ref h7, .ref h8, .ref h9, .ref h10, .ref h11, hv0, hv1, hv2, hv3, hv4], wI (cy 1) h1 4 (g_32), (d1, .inl (cy 5, 4, .inr (.inr (.inr (.inr (eF d2 d3 d4 d5)))))), (d3, .inl (cy 2, 8, .inr (.inl (g_30))))] H := hP
        replace hD : va_D A [wI (cy 0) t1 1600 (fby), (t2, .inl (cy 2, 24, .inr (.inl (fky)))), wO d0 10 [.ref t0, .ref d1, .ref h0, yf, .int uh, .int wt, .int dt, .int vv, .int fq, .int pq], wO t0 9 [.ref t1, .ref t2, .int (nI tn), .int (nI ta2_5), .int (nI ts2_6), .int (nI tk2_7), .long tm2_8, .int tr2_9], wO h0 4 [.ref h1, .ref h2, .ref h3, .ref h4, .ref h5, .ref h6, .ref h7, .ref h8, .ref h9, .ref h10, .ref h11, hv0, hv1, hv2, hv3, hv4], wI (cy 1) h1 4 (g_32), (d1, .inl (cy 5, 4, .inr (.inr (.inr (.inr (eF d2 d3 d4 d5)))))), (d3, .inl (cy 2, 8, .inr (.inl (g_30))))] := hD
        refine lv_aload_n hx hb dX10_takeNew_87 rfl (lv_at hl 1 rfl) ?_
        refine va_get (D := D) (ci := 10) (v := .ref t0) (C := RX10) (T := TX10) (N := 10) hx hb hg i_X10 hown hK hP 2 rfl rfl 0 (by decide) (hg _ m_255) (fun _ h9 => h9) rfl dX10_takeNew_88 ?_
        refine x_callVv (q := (RX9, TX9, 8)) (ci := 9) (q0 := 0) (wr := [wO d0 10 [.ref t0, .ref d1, .ref h0, yf, .int uh, .int wt, .int dt, .int vv, .int fq, .int pq], wO h0 4 [.ref h1, .ref h2, .ref h3, .ref h4, .ref h5, .ref h6, .ref h7, .ref h8, .ref h9, .ref h10, .ref h11, hv0, hv1, hv2, hv3, hv4], wI (cy 1) h1 4 (g_32), (d1, .inl (cy 5, 4, .inr (.inr (.inr (.inr (eF d2 d3 d4 d5)))))), (d3, .inl (cy 2, 8, .inr (.inl (g_30))))]) (rest := []) ⟨hx, hb, hml, hown, hg, hl.1⟩ k_X10_140 (s_next l D cy adK adV t0 t1 t2 tn ta2_5 ts2_6 tk2_7 tm2_8 tr2_9 fby fky (fin fby tn (fin fby tn ga)) (by omega) (by omega) (f_12.2.1) (hky)) EV_blind hK hP hD hS hA [3, 0, 1] [2, 4, 5, 6, 7] ⟨rfl, rfl, by decide +kernel, by decide +kernel, by decide +kernel⟩ rfl rfl (fun U hU hW => EV_pass hE hS (va_free hD hS hA [3, 0, 1] rfl) hU hW) dX10_takeNew_91 rfl rfl (Nat.le_of_ble_eq_true rfl) ⟨Nat.le_of_ble_eq_true rfl, Nat.le_of_ble_eq_true rfl⟩ ⟨Nat.le_of_ble_eq_true rfl, Nat.le_of_ble_eq_true rfl⟩ (fun zu34 H locs hw34 hP9 hD9 hS9 => ?_)
        clear hP hD hS
        obtain ⟨ta2_35, ts2_36, tk2_37, tm2_38, tr2_39⟩ := zu34
        refine reW [wO d0 10 [.ref t0, .ref d1, .ref h0, yf, .int uh, .int wt, .int dt, .int vv, .int fq, .int pq], wO h0 4 [.ref h1, .ref h2, .ref h3, .ref h4, .ref h5, .ref h6, .ref h7, .ref h8, .ref h9, .ref h10, .ref h11, hv0, hv1, hv2, hv3, hv4], wI (cy 1) h1 4 (g_32), (d1, .inl (cy 5, 4, .inr (.inr (.inr (.inr (eF d2 d3 d4 d5)))))), (d3, .inl (cy 2, 8, .inr (.inl (g_30)))), wO t0 9 [.ref t1, .ref t2, .int (nI tn), .int (nI ta2_35), .int (nI ts2_36), .int (nI tk2_37), .long tm2_38, .int tr2_39], wI (cy 0) t1 1600 (fby), (t2, .inl (cy 2, 24, .inr (.inl (fky))))] hP9 hD9 hS9 (fun hP hD hS => ?_)
        clear hP9 hD9 hS9
        refine W.widen (k := 0) (n := 0) (Nat.le_of_ble_eq_true rfl) (Nat.le_of_ble_eq_true rfl) ?_
        replace hw34 : (ta2_35 ≤ tn) ∧ (tk2_37 ≤ 123) ∧ (tkC fby tn (fin fby tn (fin fby tn ga)) ta2_35 ts2_36 tk2_37 tm2_38 tr2_39) := hw34
        obtain ⟨f_40, f_41, f_42⟩ := hw34
        refine lv_iconst (v := 1) hx hb dX10_takeNew_94 (by decide) ?_
        exact x_zret hQ hx hb hr hlocks hK hP hD hS rfl dX10_takeNew_95 (ta2_35, ts2_36, tk2_37, tm2_38, tr2_39, fq, pq, (c1 + 1), g_32, g_30, 0, 0) (⟨(show ta2_35 ≤ tn from by omega), (show tk2_37 ≤ 123 from by omega), hr_33, (show ((c1 + 1)) ≤ 4 from by omega), (show ((1 : Int32) = 1 ∧ (newS fby tn 4 c1 np1 ga = .inr (fin fby tn (fin fby tn ga))) ∧ (fq = fq) ∧ (pq = pq) ∧ (tkC fby tn (fin fby tn (fin fby tn ga)) ta2_35 ts2_36 tk2_37 tm2_38 tr2_39) ∧ (c1 + 1 = ((c1 + 1))) ∧ (c1 < 4) ∧ (nmC fby tn (updN np1 c1 (fin fby tn ga)) (c1 + 1) g_30) ∧ (knd fby tn (fin fby tn ga) = 1)) ∨ ((1 : Int32) = 0 ∧ (newS fby tn 4 c1 np1 ga = .inl (0, 0)) ∧ (flt fby tn 0 0 fq pq)) from Or.inl ⟨rfl, ((if_neg (by omega)).trans ((if_pos hk9).trans (if_neg a_21))), (rfl), (rfl), (f_42), (rfl), (by omega), (hnm9), (hk9)⟩)⟩) [0, 5, 6, 7, 1, 2, 3, 4] (by decide +kernel) rfl (Nat.le_of_ble_eq_true rfl) (Nat.le_of_ble_eq_true rfl)
    · have q_14 : ¬ tk2_7 = 1 := q_ne (a := tk2_7) (b := 1) rfl rfl (by omega) (by omega) c_13
      refine lv_aload_n hx hb dX10_takeNew_39 rfl (lv_at hl 1 rfl) ?_
      refine lv_iconst (v := 2) hx hb dX10_takeNew_40 (by decide) ?_
      refine x_callVi (q := (RX10, TX10, 10)) (ci := 10) (q0 := 0) (wr := [wO h0 4 [.ref h1, .ref h2, .ref h3, .ref h4, .ref h5, .ref h6, .ref h7, .ref h8, .ref h9, .ref h10, .ref h11, hv0, hv1, hv2, hv3, hv4], wI (cy 1) h1 4 (fc), (d1, .inl (cy 5, 4, .inr (.inr (.inr (.inr (eF d2 d3 d4 d5)))))), (d3, .inl (cy 2, 8, .inr (.inl (fd1)))), wI (cy 0) t1 1600 (fby), (t2, .inl (cy 2, 24, .inr (.inl (fky))))]) (rest := []) ⟨hx, hb, hml, hown, hg, hl.1⟩ k_X10_110 (s_fail l D cy d0 d1 uh wt dt vv fq pq ((.ref h0)) yf t0 t1 t2 tn ta2_5 ts2_6 tk2_7 tm2_8 tr2_9 2 (by omega)) E0_blind hK hP hD hS hA [0, 5] [1, 2, 3, 4, 6, 7] ⟨rfl, rfl, by decide +kernel, by decide +kernel, by decide +kernel⟩ rfl rfl (fun _ _ _ => trivial) dX10_takeNew_41 rfl rfl (Nat.le_of_ble_eq_true rfl) ⟨Nat.le_of_ble_eq_true rfl, Nat.le_of_ble_eq_true rfl⟩ ⟨Nat.le_of_ble_eq_true rfl, Nat.le_of_ble_eq_true rfl⟩ (fun zr43 zu43 H locs hw43 hP9 hD9 hS9 => ?_)
      clear hP hD hS
      obtain ⟨fq2_44, pq2_45⟩ := zu43
      refine reW [wO h0 4 [.ref h1, .ref h2, .ref h3, .ref h4, .ref h5, .ref h6, .ref h7, .ref h8, .ref h9, .ref h10, .ref h11, hv0, hv1, hv2, hv3, hv4], wI (cy 1) h1 4 (fc), (d1, .inl (cy 5, 4, .inr (.inr (.inr (.inr (eF d2 d3 d4 d5)))))), (d3, .inl (cy 2, 8, .inr (.inl (fd1)))), wI (cy 0) t1 1600 (fby), (t2, .inl (cy 2, 24, .inr (.inl (fky)))), wO d0 10 [.ref t0, .ref d1, .ref h0, yf, .int uh, .int wt, .int dt, .int vv, .int fq2_44, .int pq2_45], wO t0 9 [.ref t1, .ref t2, .int (nI tn), .int (nI ta2_5), .int (nI ts2_6), .int (nI tk2_7), .long tm2_8, .int tr2_9]] hP9 hD9 hS9 (fun hP hD hS => ?_)
      clear hP9 hD9 hS9
      refine W.widen (k := 0) (n := 0) (Nat.le_of_ble_eq_true rfl) (Nat.le_of_ble_eq_true rfl) ?_
      replace hw43 : ((zr43 = 0 ∧ (fq2_44 = nI (if tk2_7 = 3 then 1 else 2)) ∧ (pq2_45 = nI ts2_6))) := hw43
      have f_46 := hw43
      rcases f_46 with ⟨hz_49, a_47, a_48⟩
      subst hz_49
      exact x_zret hQ hx hb hr hlocks hK hP hD hS rfl dX10_takeNew_44 (ta2_5, ts2_6, tk2_7, tm2_8, tr2_9, fq2_44, pq2_45, c1, fc, fd1, 2, fin fby tn ga) (⟨(show ta2_5 ≤ tn from by omega), (show tk2_7 ≤ 123 from by omega), hcn, (show c1 ≤ 4 from by omega), (show ((0 : Int32) = 1 ∧ (newS fby tn 4 c1 np1 ga = .inr (fin fby tn (fin fby tn ga))) ∧ (fq = fq2_44) ∧ (pq = pq2_45) ∧ (tkC fby tn (fin fby tn (fin fby tn ga)) ta2_5 ts2_6 tk2_7 tm2_8 tr2_9) ∧ (c1 + 1 = c1) ∧ (c1 < 4) ∧ (nmC fby tn (updN np1 c1 (fin fby tn ga)) (c1 + 1) fd1) ∧ (knd fby tn (fin fby tn ga) = 1)) ∨ ((0 : Int32) = 0 ∧ (newS fby tn 4 c1 np1 ga = .inl (2, (fin fby tn ga))) ∧ (flt fby tn (fin fby tn ga) 2 fq2_44 pq2_45)) from Or.inr (⟨rfl, ((if_neg (by omega)).trans (if_neg (by have h9 := f_12.2.2.1; omega))), (flt_of f_12 a_47 a_48)⟩))⟩) [6, 7, 4, 5, 0, 1, 2, 3] (by decide +kernel) rfl (Nat.le_of_ble_eq_true rfl) (Nat.le_of_ble_eq_true rfl)
  · have q_3 : 4 ≤ c1 := q_nlt (a := c1) (b := 4) rfl rfl (by omega) (by omega) c_2
    refine lv_aload_n hx hb dX10_takeNew_15 rfl (lv_at hl 1 rfl) ?_
    refine lv_iconst (v := 2) hx hb dX10_takeNew_16 (by decide) ?_
    refine x_callVi (q := (RX10, TX10, 10)) (ci := 10) (q0 := 0) (wr := [wI (cy 0) t1 1600 (fby), (t2, .inl (cy 2, 24, .inr (.inl (fky)))), wO h0 4 [.ref h1, .ref h2, .ref h3, .ref h4, .ref h5, .ref h6, .ref h7, .ref h8, .ref h9, .ref h10, .ref h11, hv0, hv1, hv2, hv3, hv4], wI (cy 1) h1 4 (fc), (d1, .inl (cy 5, 4, .inr (.inr (.inr (.inr (eF d2 d3 d4 d5)))))), (d3, .inl (cy 2, 8, .inr (.inl (fd1))))]) (rest := []) ⟨hx, hb, hml, hown, hg, hl.1⟩ k_X10_110 (s_fail l D cy d0 d1 uh wt dt vv fq pq ((.ref h0)) yf t0 t1 t2 tn ta ts tk tm tr 2 (by omega)) E0_blind hK hP hD hS hA [0, 1] [2, 3, 4, 5, 6, 7] ⟨rfl, rfl, by decide +kernel, by decide +kernel, by decide +kernel⟩ rfl rfl (fun _ _ _ => trivial) dX10_takeNew_17 rfl rfl (Nat.le_of_ble_eq_true rfl) ⟨Nat.le_of_ble_eq_true rfl, Nat.le_of_ble_eq_true rfl⟩ ⟨Nat.le_of_ble_eq_true rfl, Nat.le_of_ble_eq_true rfl⟩ (fun zr50 zu50 H locs hw50 hP9 hD9 hS9 => ?_)
    clear hP hD hS
    obtain ⟨fq2_51, pq2_52⟩ := zu50
    refine reW [wI (cy 0) t1 1600 (fby), (t2, .inl (cy 2, 24, .inr (.inl (fky)))), wO h0 4 [.ref h1, .ref h2, .ref h3, .ref h4, .ref h5, .ref h6, .ref h7, .ref h8, .ref h9, .ref h10, .ref h11, hv0, hv1, hv2, hv3, hv4], wI (cy 1) h1 4 (fc), (d1, .inl (cy 5, 4, .inr (.inr (.inr (.inr (eF d2 d3 d4 d5)))))), (d3, .inl (cy 2, 8, .inr (.inl (fd1)))), wO d0 10 [.ref t0, .ref d1, .ref h0, yf, .int uh, .int wt, .int dt, .int vv, .int fq2_51, .int pq2_52], wO t0 9 [.ref t1, .ref t2, .int (nI tn), .int (nI ta), .int (nI ts), .int (nI tk), .long tm, .int tr]] hP9 hD9 hS9 (fun hP hD hS => ?_)
    clear hP9 hD9 hS9
    refine W.widen (k := 0) (n := 0) (Nat.le_of_ble_eq_true rfl) (Nat.le_of_ble_eq_true rfl) ?_
    replace hw50 : ((zr50 = 0 ∧ (fq2_51 = nI (if tk = 3 then 1 else 2)) ∧ (pq2_52 = nI ts))) := hw50
    have f_53 := hw50
    rcases f_53 with ⟨hz_56, a_54, a_55⟩
    subst hz_56
    exact x_zret hQ hx hb hr hlocks hK hP hD hS rfl dX10_takeNew_20 (ta, ts, tk, tm, tr, fq2_51, pq2_52, c1, fc, fd1, 2, ga) (⟨(show ta ≤ tn from by omega), (show tk ≤ 123 from by omega), hcn, (show c1 ≤ 4 from by omega), (show ((0 : Int32) = 1 ∧ (newS fby tn 4 c1 np1 ga = .inr (fin fby tn (fin fby tn ga))) ∧ (fq = fq2_51) ∧ (pq = pq2_52) ∧ (tkC fby tn (fin fby tn (fin fby tn ga)) ta ts tk tm tr) ∧ (c1 + 1 = c1) ∧ (c1 < 4) ∧ (nmC fby tn (updN np1 c1 (fin fby tn ga)) (c1 + 1) fd1) ∧ (knd fby tn (fin fby tn ga) = 1)) ∨ ((0 : Int32) = 0 ∧ (newS fby tn 4 c1 np1 ga = .inl (2, ga)) ∧ (flt fby tn ga 2 fq2_51 pq2_52)) from Or.inr (⟨rfl, (if_pos (by omega)), (flt_of hti a_54 a_55)⟩))⟩) [6, 7, 0, 1, 2, 3, 4, 5] (by decide +kernel) rfl (Nat.le_of_ble_eq_true rfl) (Nat.le_of_ble_eq_true rfl)
set_option maxHeartbeats 1000000 in
set_option maxRecDepth 100000 in
theorem s_takeNew2 (l : Launch) (D : va_G) (cy : Nat → ClassId) (adK : Nat → Nat) (adV : Nat → Nat) (d0 : Nat) (d1 : Nat) (uh : Int32) (wt : Int32) (dt : Int32) (vv : Int32) (fq : Int32) (pq : Int32) (yf : Value) (t0 : Nat) (t1 : Nat) (t2 : Nat) (tn : Nat) (ta : Nat) (ts : Nat) (tk : Nat) (tm : Int64) (tr : Int32) (fby : Nat → Int32) (fky : Nat → Int64) (h0 : Nat) (h1 : Nat) (h2 : Nat) (h3 : Nat) (h4 : Nat) (h5 : Nat) (h6 : Nat) (h7 : Nat) (h8 : Nat) (h9 : Nat) (h10 : Nat) (h11 : Nat) (hv0 : Value) (hv1 : Value) (hv2 : Value) (hv3 : Value) (hv4 : Value) (fc : Nat → Int32) (c0 : Nat) (c1 : Nat) (c2 : Nat) (c3 : Nat) (d2 : Nat) (d3 : Nat) (d4 : Nat) (d5 : Nat) (fd2 : Nat → Int64) (ga : Nat) (np2 : Nat → Nat) (hcn : cntOK fc c0 c1 c2 c3) (hc0 : c0 ≤ 8) (hc1 : c1 ≤ 4) (hc2 : c2 ≤ 4) (hc3 : c3 ≤ 6) (htn : tn ≤ 1600) (hta : ta ≤ tn) (htk : tk ≤ 123) (hti : tkC fby tn ga ta ts tk tm tr) (hky : kyOK fky) (hnm2 : nmC fby tn np2 c2 fd2) : XMi l D (tyL cy) (EV adK adV) yX10_takeNew cX10_takeNew 4 (some .boolean) (rmk 7 0 0) [.ref d0, .int 2, .int 4] [wO d0 10 [.ref t0, .ref d1, .ref h0, yf, .int uh, .int wt, .int dt, .int vv, .int fq, .int pq], wO t0 9 [.ref t1, .ref t2, .int (nI tn), .int (nI ta), .int (nI ts), .int (nI tk), .long tm, .int tr], wI (cy 0) t1 1600 (fby), (t2, .inl (cy 2, 24, .inr (.inl (fky)))), wO h0 4 [.ref h1, .ref h2, .ref h3, .ref h4, .ref h5, .ref h6, .ref h7, .ref h8, .ref h9, .ref h10, .ref h11, hv0, hv1, hv2, hv3, hv4], wI (cy 1) h1 4 (fc), (d1, .inl (cy 5, 4, .inr (.inr (.inr (.inr (eF d2 d3 d4 d5)))))), (d4, .inl (cy 2, 8, .inr (.inl (fd2))))] (fun (r : Int32) (u : Nat × Nat × Nat × Int64 × Int32 × Int32 × Int32 × Nat × (Nat → Int32) × (Nat → Int64) × Nat × Nat) => (u.1 ≤ tn) ∧ (u.2.2.1 ≤ 123) ∧ (cntOK u.2.2.2.2.2.2.2.2.1 c0 c1 u.2.2.2.2.2.2.2.1 c3) ∧ (u.2.2.2.2.2.2.2.1 ≤ 4) ∧ ((r = 1 ∧ (newS fby tn 4 c2 np2 ga = .inr (fin fby tn (fin fby tn ga))) ∧ (fq = u.2.2.2.2.2.1) ∧ (pq = u.2.2.2.2.2.2.1) ∧ (tkC fby tn (fin fby tn (fin fby tn ga)) u.1 u.2.1 u.2.2.1 u.2.2.2.1 u.2.2.2.2.1) ∧ (c2 + 1 = u.2.2.2.2.2.2.2.1) ∧ (c2 < 4) ∧ (nmC fby tn (updN np2 c2 (fin fby tn ga)) (c2 + 1) u.2.2.2.2.2.2.2.2.2.1) ∧ (knd fby tn (fin fby tn ga) = 1)) ∨ (r = 0 ∧ (newS fby tn 4 c2 np2 ga = .inl (u.2.2.2.2.2.2.2.2.2.2.1, u.2.2.2.2.2.2.2.2.2.2.2)) ∧ (flt fby tn u.2.2.2.2.2.2.2.2.2.2.2 u.2.2.2.2.2.2.2.2.2.2.1 u.2.2.2.2.2.1 u.2.2.2.2.2.2.1)))) (fun (u : Nat × Nat × Nat × Int64 × Int32 × Int32 × Int32 × Nat × (Nat → Int32) × (Nat → Int64) × Nat × Nat) => [wO d0 10 [.ref t0, .ref d1, .ref h0, yf, .int uh, .int wt, .int dt, .int vv, .int u.2.2.2.2.2.1, .int u.2.2.2.2.2.2.1], wO t0 9 [.ref t1, .ref t2, .int (nI tn), .int (nI u.1), .int (nI u.2.1), .int (nI u.2.2.1), .long u.2.2.2.1, .int u.2.2.2.2.1], wI (cy 0) t1 1600 (fby), (t2, .inl (cy 2, 24, .inr (.inl (fky)))), wO h0 4 [.ref h1, .ref h2, .ref h3, .ref h4, .ref h5, .ref h6, .ref h7, .ref h8, .ref h9, .ref h10, .ref h11, hv0, hv1, hv2, hv3, hv4], wI (cy 1) h1 4 (u.2.2.2.2.2.2.2.2.1), (d1, .inl (cy 5, 4, .inr (.inr (.inr (.inr (eF d2 d3 d4 d5)))))), (d4, .inl (cy 2, 8, .inr (.inl (u.2.2.2.2.2.2.2.2.2.1))))]) := by
  refine XMi.start (by decide) (Nat.le_of_ble_eq_true rfl) ?_
  intro p e s m below meth c args A ls Q hat hQ
  obtain ⟨hx, hb, hr, hml, hown, hg, hlocks, hin, hK, hA, hP, hD, hS, hE, hl⟩ := hat
  have hown : s.vm.findClass RX10 = some m.cls := hown
  have hl : lv_has ls 4 [(0, .ref d0), (1, .int 2), (2, .int 4)] := hl
  refine lv_aload_n hx hb dX10_takeNew_0 rfl (lv_at hl 0 rfl) ?_
  refine va_get (D := D) (ci := 10) (v := .ref h0) (C := RX10) (T := TX10) (N := 10) hx hb hg i_X10 hown hK hP 0 rfl rfl 2 (by decide) (hg _ m_257) (fun _ h9 => h9) rfl dX10_takeNew_1 ?_
  refine va_get (D := D) (ci := 4) (v := .ref h1) (C := RX4) (T := TX4) (N := 16) hx hb hg i_X4 hown hK hP 4 rfl rfl 0 (by decide) (hg _ m_336) (fun _ h9 => h9) rfl dX10_takeNew_4 ?_
  refine lv_iload_n hx hb dX10_takeNew_7 rfl (lv_at hl 1 rfl) ?_
  refine va_iald hx hb hK hP 5 1 rfl rfl (by unfold vp_in; decide) dX10_takeNew_8 ?_
  refine lv_topi (fun y_1 hy_1 => ?_)
  obtain rfl : y_1 = nI c2 := hy_1.trans hcn.2.2.1
  refine lv_istore_n (lv' := [(3, .int (nI c2)), (0, .ref d0), (1, .int 2), (2, .int 4)]) hx hb dX10_takeNew_9 rfl hl (by decide) rfl (fun ls hl => ?_)
  refine lv_iload_n hx hb dX10_takeNew_10 rfl (lv_at hl 0 rfl) ?_
  refine lv_iload_n hx hb dX10_takeNew_11 rfl (lv_at hl 3 rfl) ?_
  refine lv_icmp_lt (tgt := 21) hx hb dX10_takeNew_12 (by decide) (fun c_2 => ?_) (fun c_2 => ?_)
  · have q_3 : c2 < 4 := q_lt (a := c2) (b := 4) rfl rfl (by omega) (by omega) c_2
    refine lv_aload_n hx hb dX10_takeNew_21 rfl (lv_at hl 1 rfl) ?_
    refine va_get (D := D) (ci := 10) (v := .ref t0) (C := RX10) (T := TX10) (N := 10) hx hb hg i_X10 hown hK hP 0 rfl rfl 0 (by decide) (hg _ m_255) (fun _ h9 => h9) rfl dX10_takeNew_22 ?_
    refine x_callVv (q := (RX9, TX9, 8)) (ci := 9) (q0 := 0) (wr := [wO d0 10 [.ref t0, .ref d1, .ref h0, yf, .int uh, .int wt, .int dt, .int vv, .int fq, .int pq], wO h0 4 [.ref h1, .ref h2, .ref h3, .ref h4, .ref h5, .ref h6, .ref h7, .ref h8, .ref h9, .ref h10, .ref h11, hv0, hv1, hv2, hv3, hv4], wI (cy 1) h1 4 (fc), (d1, .inl (cy 5, 4, .inr (.inr (.inr (.inr (eF d2 d3 d4 d5)))))), (d4, .inl (cy 2, 8, .inr (.inl (fd2))))]) (rest := []) ⟨hx, hb, hml, hown, hg, hl.1⟩ k_X10_140 (s_next l D cy adK adV t0 t1 t2 tn ta ts tk tm tr fby fky (fin fby tn ga) (by omega) (by omega) (hti.2.1) (hky)) EV_blind hK hP hD hS hA [1, 2, 3] [0, 4, 5, 6, 7] ⟨rfl, rfl, by decide +kernel, by decide +kernel, by decide +kernel⟩ rfl rfl (fun U hU hW => EV_pass hE hS (va_free hD hS hA [1, 2, 3] rfl) hU hW) dX10_takeNew_25 rfl rfl (Nat.le_of_ble_eq_true rfl) ⟨Nat.le_of_ble_eq_true rfl, Nat.le_of_ble_eq_true rfl⟩ ⟨Nat.le_of_ble_eq_true rfl, Nat.le_of_ble_eq_true rfl⟩ (fun zu4 H locs hw4 hP9 hD9 hS9 => ?_)
    clear hP hD hS
    obtain ⟨ta2_5, ts2_6, tk2_7, tm2_8, tr2_9⟩ := zu4
    refine reW [wO d0 10 [.ref t0, .ref d1, .ref h0, yf, .int uh, .int wt, .int dt, .int vv, .int fq, .int pq], wO h0 4 [.ref h1, .ref h2, .ref h3, .ref h4, .ref h5, .ref h6, .ref h7, .ref h8, .ref h9, .ref h10, .ref h11, hv0, hv1, hv2, hv3, hv4], wI (cy 1) h1 4 (fc), (d1, .inl (cy 5, 4, .inr (.inr (.inr (.inr (eF d2 d3 d4 d5)))))), (d4, .inl (cy 2, 8, .inr (.inl (fd2)))), wO t0 9 [.ref t1, .ref t2, .int (nI tn), .int (nI ta2_5), .int (nI ts2_6), .int (nI tk2_7), .long tm2_8, .int tr2_9], wI (cy 0) t1 1600 (fby), (t2, .inl (cy 2, 24, .inr (.inl (fky))))] hP9 hD9 hS9 (fun hP hD hS => ?_)
    clear hP9 hD9 hS9
    refine W.widen (k := 0) (n := 0) (Nat.le_of_ble_eq_true rfl) (Nat.le_of_ble_eq_true rfl) ?_
    replace hw4 : (ta2_5 ≤ tn) ∧ (tk2_7 ≤ 123) ∧ (tkC fby tn (fin fby tn ga) ta2_5 ts2_6 tk2_7 tm2_8 tr2_9) := hw4
    obtain ⟨f_10, f_11, f_12⟩ := hw4
    refine lv_aload_n hx hb dX10_takeNew_28 rfl (lv_at hl 1 rfl) ?_
    refine va_get (D := D) (ci := 10) (v := .ref t0) (C := RX10) (T := TX10) (N := 10) hx hb hg i_X10 hown hK hP 0 rfl rfl 0 (by decide) (hg _ m_255) (fun _ h9 => h9) rfl dX10_takeNew_29 ?_
    refine va_get (D := D) (ci := 9) (v := .int (nI tk2_7)) (C := RX9) (T := TX9) (N := 8) hx hb hg i_X9 hown hK hP 5 rfl rfl 5 (by decide) (hg _ m_222) (fun _ h9 => h9) rfl dX10_takeNew_32 ?_
    refine lv_iconst (v := 1) hx hb dX10_takeNew_35 (by decide) ?_
    refine lv_icmp_eq (tgt := 45) hx hb dX10_takeNew_36 (by decide) (fun c_13 => ?_) (fun c_13 => ?_)
    · have q_14 : tk2_7 = 1 := q_eq (a := tk2_7) (b := 1) rfl rfl (by omega) (by omega) c_13
      have hk9 : knd fby tn (fin fby tn ga) = 1 := by have h9 := f_12.2.2.1; omega
      refine lv_aload_n hx hb dX10_takeNew_45 rfl (lv_at hl 1 rfl) ?_
      refine lv_iload_n hx hb dX10_takeNew_46 rfl (lv_at hl 2 rfl) ?_
      refine x_callVi (q := (RX10, TX10, 10)) (ci := 10) (q0 := 0) (wr := [wI (cy 0) t1 1600 (fby), (t2, .inl (cy 2, 24, .inr (.inl (fky))))]) (rest := []) ⟨hx, hb, hml, hown, hg, hl.1⟩ k_X10_169 (s_find2 l D cy d0 d1 uh wt dt vv fq pq yf t0 t1 t2 tn ta2_5 ts2_6 tk2_7 tm2_8 tr2_9 h0 h1 h2 h3 h4 h5 h6 h7 h8 h9 h10 h11 hv0 hv1 hv2 hv3 hv4 fc c0 c1 c2 c3 d2 d3 d4 d5 fd2 fby (fin fby tn ga) np2 (hcn) (by omega) (by omega) (by omega) (by omega) (by omega) (f_12) (hnm2)) E0_blind hK hP hD hS hA [0, 5, 1, 2, 3, 4] [6, 7] ⟨rfl, rfl, by decide +kernel, by decide +kernel, by decide +kernel⟩ rfl rfl (fun _ _ _ => trivial) dX10_takeNew_47 rfl rfl (Nat.le_of_ble_eq_true rfl) ⟨Nat.le_of_ble_eq_true rfl, Nat.le_of_ble_eq_true rfl⟩ ⟨Nat.le_of_ble_eq_true rfl, Nat.le_of_ble_eq_true rfl⟩ (fun zr15 zu15 H locs hw15 hP9 hD9 hS9 => ?_)
      clear hP hD hS
      obtain ⟨jr_16, rfl⟩ : ∃ z, z = zu15 := ⟨_, rfl⟩
      refine reW [wI (cy 0) t1 1600 (fby), (t2, .inl (cy 2, 24, .inr (.inl (fky)))), wO d0 10 [.ref t0, .ref d1, .ref h0, yf, .int uh, .int wt, .int dt, .int vv, .int fq, .int pq], wO t0 9 [.ref t1, .ref t2, .int (nI tn), .int (nI ta2_5), .int (nI ts2_6), .int (nI tk2_7), .long tm2_8, .int tr2_9], wO h0 4 [.ref h1, .ref h2, .ref h3, .ref h4, .ref h5, .ref h6, .ref h7, .ref h8, .ref h9, .ref h10, .ref h11, hv0, hv1, hv2, hv3, hv4], wI (cy 1) h1 4 (fc), (d1, .inl (cy 5, 4, .inr (.inr (.inr (.inr (eF d2 d3 d4 d5)))))), (d4, .inl (cy 2, 8, .inr (.inl (fd2))))] hP9 hD9 hS9 (fun hP hD hS => ?_)
      clear hP9 hD9 hS9
      refine W.widen (k := 0) (n := 0) (Nat.le_of_ble_eq_true rfl) (Nat.le_of_ble_eq_true rfl) ?_
      replace hw15 : ((zr15 = nI jr_16 ∧ (fnd fby tn np2 c2 (fin fby tn ga) = jr_16) ∧ (jr_16 < c2)) ∨ (zr15 = -1 ∧ (¬ fnd fby tn np2 c2 (fin fby tn ga) < c2))) := hw15
      have f_17 := hw15
      rcases f_17 with ⟨hz_20, a_18, a_19⟩ | ⟨hz_22, a_21⟩
      · subst hz_20
        subst a_18
        refine lv_iconst (v := -1) hx hb dX10_takeNew_50 (by decide) ?_
        refine lv_icmp_eq (tgt := 60) hx hb dX10_takeNew_51 (by decide) (fun h => absurd h (nI_nneg (by omega) (by decide))) (fun _ => ?_)
        refine lv_aload_n hx hb dX10_takeNew_54 rfl (lv_at hl 1 rfl) ?_
        refine lv_iconst (v := 3) hx hb dX10_takeNew_55 (by decide) ?_
        refine x_callVi (q := (RX10, TX10, 10)) (ci := 10) (q0 := 0) (wr := [wI (cy 0) t1 1600 (fby), (t2, .inl (cy 2, 24, .inr (.inl (fky)))), wO h0 4 [.ref h1, .ref h2, .ref h3, .ref h4, .ref h5, .ref h6, .ref h7, .ref h8, .ref h9, .ref h10, .ref h11, hv0, hv1, hv2, hv3, hv4], wI (cy 1) h1 4 (fc), (d1, .inl (cy 5, 4, .inr (.inr (.inr (.inr (eF d2 d3 d4 d5)))))), (d4, .inl (cy 2, 8, .inr (.inl (fd2))))]) (rest := []) ⟨hx, hb, hml, hown, hg, hl.1⟩ k_X10_110 (s_fail l D cy d0 d1 uh wt dt vv fq pq ((.ref h0)) yf t0 t1 t2 tn ta2_5 ts2_6 tk2_7 tm2_8 tr2_9 3 (by omega)) E0_blind hK hP hD hS hA [2, 3] [0, 1, 4, 5, 6, 7] ⟨rfl, rfl, by decide +kernel, by decide +kernel, by decide +kernel⟩ rfl rfl (fun _ _ _ => trivial) dX10_takeNew_56 rfl rfl (Nat.le_of_ble_eq_true rfl) ⟨Nat.le_of_ble_eq_true rfl, Nat.le_of_ble_eq_true rfl⟩ ⟨Nat.le_of_ble_eq_true rfl, Nat.le_of_ble_eq_true rfl⟩ (fun zr23 zu23 H locs hw23 hP9 hD9 hS9 => ?_)
        clear hP hD hS
        obtain ⟨fq2_24, pq2_25⟩ := zu23
        refine reW [wI (cy 0) t1 1600 (fby), (t2, .inl (cy 2, 24, .inr (.inl (fky)))), wO h0 4 [.ref h1, .ref h2, .ref h3, .ref h4, .ref h5, .ref h6, .ref h7, .ref h8, .ref h9, .ref h10, .ref h11, hv0, hv1, hv2, hv3, hv4], wI (cy 1) h1 4 (fc), (d1, .inl (cy 5, 4, .inr (.inr (.inr (.inr (eF d2 d3 d4 d5)))))), (d4, .inl (cy 2, 8, .inr (.inl (fd2)))), wO d0 10 [.ref t0, .ref d1, .ref h0, yf, .int uh, .int wt, .int dt, .int vv, .int fq2_24, .int pq2_25], wO t0 9 [.ref t1, .ref t2, .int (nI tn), .int (nI ta2_5), .int (nI ts2_6), .int (nI tk2_7), .long tm2_8, .int tr2_9]] hP9 hD9 hS9 (fun hP hD hS => ?_)
        clear hP9 hD9 hS9
        refine W.widen (k := 0) (n := 0) (Nat.le_of_ble_eq_true rfl) (Nat.le_of_ble_eq_true rfl) ?_
        replace hw23 : ((zr23 = 0 ∧ (fq2_24 = nI (if tk2_7 = 3 then 1 else 3)) ∧ (pq2_25 = nI ts2_6))) := hw23
        have f_26 := hw23
        rcases f_26 with ⟨hz_29, a_27, a_28⟩
        subst hz_29
        exact x_zret hQ hx hb hr hlocks hK hP hD hS rfl dX10_takeNew_59 (ta2_5, ts2_6, tk2_7, tm2_8, tr2_9, fq2_24, pq2_25, c2, fc, fd2, 3, fin fby tn ga) (⟨(show ta2_5 ≤ tn from by omega), (show tk2_7 ≤ 123 from by omega), hcn, (show c2 ≤ 4 from by omega), (show ((0 : Int32) = 1 ∧ (newS fby tn 4 c2 np2 ga = .inr (fin fby tn (fin fby tn ga))) ∧ (fq = fq2_24) ∧ (pq = pq2_25) ∧ (tkC fby tn (fin fby tn (fin fby tn ga)) ta2_5 ts2_6 tk2_7 tm2_8 tr2_9) ∧ (c2 + 1 = c2) ∧ (c2 < 4) ∧ (nmC fby tn (updN np2 c2 (fin fby tn ga)) (c2 + 1) fd2) ∧ (knd fby tn (fin fby tn ga) = 1)) ∨ ((0 : Int32) = 0 ∧ (newS fby tn 4 c2 np2 ga = .inl (3, (fin fby tn ga))) ∧ (flt fby tn (fin fby tn ga) 3 fq2_24 pq2_25)) from Or.inr (⟨rfl, ((if_neg (by omega)).trans ((if_pos hk9).trans (if_pos a_19))), (flt_of f_12 a_27 a_28)⟩))⟩) [6, 7, 0, 1, 2, 3, 4, 5] (by decide +kernel) rfl (Nat.le_of_ble_eq_true rfl) (Nat.le_of_ble_eq_true rfl)
      · subst hz_22
        refine lv_iconst (v := -1) hx hb dX10_takeNew_50 (by decide) ?_
        refine lv_icmp_eq (tgt := 60) hx hb dX10_takeNew_51 (by decide) (fun _ => ?_) (fun h => absurd (by decide) h)
        refine lv_aload_n hx hb dX10_takeNew_60 rfl (lv_at hl 1 rfl) ?_
        refine va_get (D := D) (ci := 10) (v := .ref d1) (C := RX10) (T := TX10) (N := 10) hx hb hg i_X10 hown hK hP 2 rfl rfl 1 (by decide) (hg _ m_256) (fun _ h9 => h9) rfl dX10_takeNew_61 ?_
        refine lv_iload_n hx hb dX10_takeNew_64 rfl (lv_at hl 2 rfl) ?_
        refine x_aald (v := d4) hx hb hK hP 6 5 rfl rfl (by unfold vp_in; decide) rfl dX10_takeNew_65 ?_
        refine lv_iload_n hx hb dX10_takeNew_66 rfl (lv_at hl 0 rfl) ?_
        refine lv_aload_n hx hb dX10_takeNew_67 rfl (lv_at hl 1 rfl) ?_
        refine va_get (D := D) (ci := 10) (v := .ref t0) (C := RX10) (T := TX10) (N := 10) hx hb hg i_X10 hown hK hP 2 rfl rfl 0 (by decide) (hg _ m_255) (fun _ h9 => h9) rfl dX10_takeNew_68 ?_
        refine va_get (D := D) (ci := 9) (v := .long tm2_8) (C := RX9) (T := TX9) (N := 8) hx hb hg i_X9 hown hK hP 3 rfl rfl 6 (by decide) (hg _ m_225) (fun _ h9 => h9) rfl dX10_takeNew_71 ?_
        refine va_last hx hb hK hP hD hS 7 2 rfl rfl (vp_in_nI (by omega) (by decide)) dX10_takeNew_74 (fun H locs hP9 hD9 hS9 => ?_)
        clear hP hD hS
        obtain ⟨g_30, eg_30⟩ : ∃ y, vp_updL fd2 (nI c2 : Int32).toNatClampNeg tm2_8 = y := ⟨_, rfl⟩
        rw [eg_30] at hP9 hD9
        refine reW [wI (cy 0) t1 1600 (fby), (t2, .inl (cy 2, 24, .inr (.inl (fky)))), wO d0 10 [.ref t0, .ref d1, .ref h0, yf, .int uh, .int wt, .int dt, .int vv, .int fq, .int pq], wO t0 9 [.ref t1, .ref t2, .int (nI tn), .int (nI ta2_5), .int (nI ts2_6), .int (nI tk2_7), .long tm2_8, .int tr2_9], wO h0 4 [.ref h1, .ref h2, .ref h3, .ref h4, .ref h5, .ref h6, .ref h7, .ref h8, .ref h9, .ref h10, .ref h11, hv0, hv1, hv2, hv3, hv4], wI (cy 1) h1 4 (fc), (d1, .inl (cy 5, 4, .inr (.inr (.inr (.inr (eF d2 d3 d4 d5)))))), (d4, .inl (cy 2, 8, .inr (.inl (g_30))))] hP9 hD9 hS9 (fun hP hD hS => ?_)
        clear hP9 hD9 hS9
        have hnm9 := nmC_put (by omega) hnm2 (f_12.2.2.2.1 (by omega)) hk9 eg_30
        refine lv_aload_n hx hb dX10_takeNew_75 rfl (lv_at hl 1 rfl) ?_
        refine va_get (D := D) (ci := 10) (v := .ref h0) (C := RX10) (T := TX10) (N := 10) hx hb hg i_X10 hown hK hP 2 rfl rfl 2 (by decide) (hg _ m_257) (fun _ h9 => h9) rfl dX10_takeNew_76 ?_
        refine va_get (D := D) (ci := 4) (v := .ref h1) (C := RX4) (T := TX4) (N := 16) hx hb hg i_X4 hown hK hP 4 rfl rfl 0 (by decide) (hg _ m_336) (fun _ h9 => h9) rfl dX10_takeNew_79 ?_
        refine lv_iload_n hx hb dX10_takeNew_82 rfl (lv_at hl 2 rfl) ?_
        refine lv_iload_n hx hb dX10_takeNew_83 rfl (lv_at hl 0 rfl) ?_
        refine lv_iconst (v := 1) hx hb dX10_takeNew_84 (by decide) ?_
        refine lv_iadd hx hb dX10_takeNew_85 ?_
        refine lv_topi (fun y_31 hy_31 => ?_)
        obtain rfl : y_31 = nI (c2 + 1) := hy_31.trans (nI_add c2 1)
        refine va_iast hx hb hK hP hD hS 5 1 rfl rfl (by unfold vp_in; decide) dX10_takeNew_86 (fun H locs hP9 hD9 hS9 => ?_)
        clear hP hD hS
        have hP := hP9
        have hD := hD9
        have hS := hS9
        clear hP9 hD9 hS9
        obtain ⟨g_32, eg_32⟩ : ∃ y, upd fc (2 : Int32).toNatClampNeg (nI (c2 + 1)) = y := ⟨_, rfl⟩
        rw [eg_32] at hP hD
        have hr_33 : cntOK g_32 c0 c1 ((c2 + 1)) c3 := eg_32 ▸ cnt_put2 hcn
        replace hP : va_P D vwCl [wI (cy 0) t1 1600 (fby), (t2, .inl (cy 2, 24, .inr (.inl (fky)))), wO d0 10 [.ref t0, .ref d1, .ref h0, yf, .int uh, .int wt, .int dt, .int vv, .int fq, .int pq], wO t0 9 [.ref t1, .ref t2, .int (nI tn), .int (nI ta2_5), .int (nI ts2_6), .int (nI tk2_7), .long tm2_8, .int tr2_9], wO h0 4 [.ref h1, .ref h2, .ref h3, .ref h4, .ref h5, .ref h6, .ref h7, .ref h8, .ref h9, .ref h10, .ref h11, hv0, hv1, hv2, hv3, hv4], wI (cy 1) h1 4 (g_32), (d1, .inl (cy 5, 4, .inr (.inr (.inr (.inr (eF d2 d3 d4 d5)))))), (d4, .inl (cy 2, 8, .inr (.inl (g_30))))] H := hP
        replace hD : va_D A [wI (cy 0) t1 1600 (fby), (t2, .inl (cy 2, 24, .inr (.inl (fky)))), wO d0 10 [.ref t0, .ref d1, .ref h0, yf, .int uh, .int wt, .int dt, .int vv, .int fq, .int pq], wO t0 9 [.ref t1, .ref t2, .int (nI tn), .int (nI ta2_5), .int (nI ts2_6), .int (nI tk2_7), .long tm2_8, .int tr2_9], wO h0 4 [.ref h1, .ref h2, .ref h3, .ref h4, .ref h5, .ref h6, .ref h7, .ref h8, .ref h9, .ref h10, .ref h11, hv0, hv1, hv2, hv3, hv4], wI (cy 1) h1 4 (g_32), (d1, .inl (cy 5, 4, .inr (.inr (.inr (.inr (eF d2 d3 d4 d5)))))), (d4, .inl (cy 2, 8, .inr (.inl (g_30))))] := hD
        refine lv_aload_n hx hb dX10_takeNew_87 rfl (lv_at hl 1 rfl) ?_
        refine va_get (D := D) (ci := 10) (v := .ref t0) (C := RX10) (T := TX10) (N := 10) hx hb hg i_X10 hown hK hP 2 rfl rfl 0 (by decide) (hg _ m_255) (fun _ h9 => h9) rfl dX10_takeNew_88 ?_
        refine x_callVv (q := (RX9, TX9, 8)) (ci := 9) (q0 := 0) (wr := [wO d0 10 [.ref t0, .ref d1, .ref h0, yf, .int uh, .int wt, .int dt, .int vv, .int fq, .int pq], wO h0 4 [.ref h1, .ref h2, .ref h3, .ref h4, .ref h5, .ref h6, .ref h7, .ref h8, .ref h9, .ref h10, .ref h11, hv0, hv1, hv2, hv3, hv4], wI (cy 1) h1 4 (g_32), (d1, .inl (cy 5, 4, .inr (.inr (.inr (.inr (eF d2 d3 d4 d5)))))), (d4, .inl (cy 2, 8, .inr (.inl (g_30))))]) (rest := []) ⟨hx, hb, hml, hown, hg, hl.1⟩ k_X10_140 (s_next l D cy adK adV t0 t1 t2 tn ta2_5 ts2_6 tk2_7 tm2_8 tr2_9 fby fky (fin fby tn (fin fby tn ga)) (by omega) (by omega) (f_12.2.1) (hky)) EV_blind hK hP hD hS hA [3, 0, 1] [2, 4, 5, 6, 7] ⟨rfl, rfl, by decide +kernel, by decide +kernel, by decide +kernel⟩ rfl rfl (fun U hU hW => EV_pass hE hS (va_free hD hS hA [3, 0, 1] rfl) hU hW) dX10_takeNew_91 rfl rfl (Nat.le_of_ble_eq_true rfl) ⟨Nat.le_of_ble_eq_true rfl, Nat.le_of_ble_eq_true rfl⟩ ⟨Nat.le_of_ble_eq_true rfl, Nat.le_of_ble_eq_true rfl⟩ (fun zu34 H locs hw34 hP9 hD9 hS9 => ?_)
        clear hP hD hS
        obtain ⟨ta2_35, ts2_36, tk2_37, tm2_38, tr2_39⟩ := zu34
        refine reW [wO d0 10 [.ref t0, .ref d1, .ref h0, yf, .int uh, .int wt, .int dt, .int vv, .int fq, .int pq], wO h0 4 [.ref h1, .ref h2, .ref h3, .ref h4, .ref h5, .ref h6, .ref h7, .ref h8, .ref h9, .ref h10, .ref h11, hv0, hv1, hv2, hv3, hv4], wI (cy 1) h1 4 (g_32), (d1, .inl (cy 5, 4, .inr (.inr (.inr (.inr (eF d2 d3 d4 d5)))))), (d4, .inl (cy 2, 8, .inr (.inl (g_30)))), wO t0 9 [.ref t1, .ref t2, .int (nI tn), .int (nI ta2_35), .int (nI ts2_36), .int (nI tk2_37), .long tm2_38, .int tr2_39], wI (cy 0) t1 1600 (fby), (t2, .inl (cy 2, 24, .inr (.inl (fky))))] hP9 hD9 hS9 (fun hP hD hS => ?_)
        clear hP9 hD9 hS9
        refine W.widen (k := 0) (n := 0) (Nat.le_of_ble_eq_true rfl) (Nat.le_of_ble_eq_true rfl) ?_
        replace hw34 : (ta2_35 ≤ tn) ∧ (tk2_37 ≤ 123) ∧ (tkC fby tn (fin fby tn (fin fby tn ga)) ta2_35 ts2_36 tk2_37 tm2_38 tr2_39) := hw34
        obtain ⟨f_40, f_41, f_42⟩ := hw34
        refine lv_iconst (v := 1) hx hb dX10_takeNew_94 (by decide) ?_
        exact x_zret hQ hx hb hr hlocks hK hP hD hS rfl dX10_takeNew_95 (ta2_35, ts2_36, tk2_37, tm2_38, tr2_39, fq, pq, (c2 + 1), g_32, g_30, 0, 0) (⟨(show ta2_35 ≤ tn from by omega), (show tk2_37 ≤ 123 from by omega), hr_33, (show ((c2 + 1)) ≤ 4 from by omega), (show ((1 : Int32) = 1 ∧ (newS fby tn 4 c2 np2 ga = .inr (fin fby tn (fin fby tn ga))) ∧ (fq = fq) ∧ (pq = pq) ∧ (tkC fby tn (fin fby tn (fin fby tn ga)) ta2_35 ts2_36 tk2_37 tm2_38 tr2_39) ∧ (c2 + 1 = ((c2 + 1))) ∧ (c2 < 4) ∧ (nmC fby tn (updN np2 c2 (fin fby tn ga)) (c2 + 1) g_30) ∧ (knd fby tn (fin fby tn ga) = 1)) ∨ ((1 : Int32) = 0 ∧ (newS fby tn 4 c2 np2 ga = .inl (0, 0)) ∧ (flt fby tn 0 0 fq pq)) from Or.inl ⟨rfl, ((if_neg (by omega)).trans ((if_pos hk9).trans (if_neg a_21))), (rfl), (rfl), (f_42), (rfl), (by omega), (hnm9), (hk9)⟩)⟩) [0, 5, 6, 7, 1, 2, 3, 4] (by decide +kernel) rfl (Nat.le_of_ble_eq_true rfl) (Nat.le_of_ble_eq_true rfl)
    · have q_14 : ¬ tk2_7 = 1 := q_ne (a := tk2_7) (b := 1) rfl rfl (by omega) (by omega) c_13
      refine lv_aload_n hx hb dX10_takeNew_39 rfl (lv_at hl 1 rfl) ?_
      refine lv_iconst (v := 2) hx hb dX10_takeNew_40 (by decide) ?_
      refine x_callVi (q := (RX10, TX10, 10)) (ci := 10) (q0 := 0) (wr := [wO h0 4 [.ref h1, .ref h2, .ref h3, .ref h4, .ref h5, .ref h6, .ref h7, .ref h8, .ref h9, .ref h10, .ref h11, hv0, hv1, hv2, hv3, hv4], wI (cy 1) h1 4 (fc), (d1, .inl (cy 5, 4, .inr (.inr (.inr (.inr (eF d2 d3 d4 d5)))))), (d4, .inl (cy 2, 8, .inr (.inl (fd2)))), wI (cy 0) t1 1600 (fby), (t2, .inl (cy 2, 24, .inr (.inl (fky))))]) (rest := []) ⟨hx, hb, hml, hown, hg, hl.1⟩ k_X10_110 (s_fail l D cy d0 d1 uh wt dt vv fq pq ((.ref h0)) yf t0 t1 t2 tn ta2_5 ts2_6 tk2_7 tm2_8 tr2_9 2 (by omega)) E0_blind hK hP hD hS hA [0, 5] [1, 2, 3, 4, 6, 7] ⟨rfl, rfl, by decide +kernel, by decide +kernel, by decide +kernel⟩ rfl rfl (fun _ _ _ => trivial) dX10_takeNew_41 rfl rfl (Nat.le_of_ble_eq_true rfl) ⟨Nat.le_of_ble_eq_true rfl, Nat.le_of_ble_eq_true rfl⟩ ⟨Nat.le_of_ble_eq_true rfl, Nat.le_of_ble_eq_true rfl⟩ (fun zr43 zu43 H locs hw43 hP9 hD9 hS9 => ?_)
      clear hP hD hS
      obtain ⟨fq2_44, pq2_45⟩ := zu43
      refine reW [wO h0 4 [.ref h1, .ref h2, .ref h3, .ref h4, .ref h5, .ref h6, .ref h7, .ref h8, .ref h9, .ref h10, .ref h11, hv0, hv1, hv2, hv3, hv4], wI (cy 1) h1 4 (fc), (d1, .inl (cy 5, 4, .inr (.inr (.inr (.inr (eF d2 d3 d4 d5)))))), (d4, .inl (cy 2, 8, .inr (.inl (fd2)))), wI (cy 0) t1 1600 (fby), (t2, .inl (cy 2, 24, .inr (.inl (fky)))), wO d0 10 [.ref t0, .ref d1, .ref h0, yf, .int uh, .int wt, .int dt, .int vv, .int fq2_44, .int pq2_45], wO t0 9 [.ref t1, .ref t2, .int (nI tn), .int (nI ta2_5), .int (nI ts2_6), .int (nI tk2_7), .long tm2_8, .int tr2_9]] hP9 hD9 hS9 (fun hP hD hS => ?_)
      clear hP9 hD9 hS9
      refine W.widen (k := 0) (n := 0) (Nat.le_of_ble_eq_true rfl) (Nat.le_of_ble_eq_true rfl) ?_
      replace hw43 : ((zr43 = 0 ∧ (fq2_44 = nI (if tk2_7 = 3 then 1 else 2)) ∧ (pq2_45 = nI ts2_6))) := hw43
      have f_46 := hw43
      rcases f_46 with ⟨hz_49, a_47, a_48⟩
      subst hz_49
      exact x_zret hQ hx hb hr hlocks hK hP hD hS rfl dX10_takeNew_44 (ta2_5, ts2_6, tk2_7, tm2_8, tr2_9, fq2_44, pq2_45, c2, fc, fd2, 2, fin fby tn ga) (⟨(show ta2_5 ≤ tn from by omega), (show tk2_7 ≤ 123 from by omega), hcn, (show c2 ≤ 4 from by omega), (show ((0 : Int32) = 1 ∧ (newS fby tn 4 c2 np2 ga = .inr (fin fby tn (fin fby tn ga))) ∧ (fq = fq2_44) ∧ (pq = pq2_45) ∧ (tkC fby tn (fin fby tn (fin fby tn ga)) ta2_5 ts2_6 tk2_7 tm2_8 tr2_9) ∧ (c2 + 1 = c2) ∧ (c2 < 4) ∧ (nmC fby tn (updN np2 c2 (fin fby tn ga)) (c2 + 1) fd2) ∧ (knd fby tn (fin fby tn ga) = 1)) ∨ ((0 : Int32) = 0 ∧ (newS fby tn 4 c2 np2 ga = .inl (2, (fin fby tn ga))) ∧ (flt fby tn (fin fby tn ga) 2 fq2_44 pq2_45)) from Or.inr (⟨rfl, ((if_neg (by omega)).trans (if_neg (by have h9 := f_12.2.2.1; omega))), (flt_of f_12 a_47 a_48)⟩))⟩) [6, 7, 4, 5, 0, 1, 2, 3] (by decide +kernel) rfl (Nat.le_of_ble_eq_true rfl) (Nat.le_of_ble_eq_true rfl)
  · have q_3 : 4 ≤ c2 := q_nlt (a := c2) (b := 4) rfl rfl (by omega) (by omega) c_2
    refine lv_aload_n hx hb dX10_takeNew_15 rfl (lv_at hl 1 rfl) ?_
    refine lv_iconst (v := 2) hx hb dX10_takeNew_16 (by decide) ?_
    refine x_callVi (q := (RX10, TX10, 10)) (ci := 10) (q0 := 0) (wr := [wI (cy 0) t1 1600 (fby), (t2, .inl (cy 2, 24, .inr (.inl (fky)))), wO h0 4 [.ref h1, .ref h2, .ref h3, .ref h4, .ref h5, .ref h6, .ref h7, .ref h8, .ref h9, .ref h10, .ref h11, hv0, hv1, hv2, hv3, hv4], wI (cy 1) h1 4 (fc), (d1, .inl (cy 5, 4, .inr (.inr (.inr (.inr (eF d2 d3 d4 d5)))))), (d4, .inl (cy 2, 8, .inr (.inl (fd2))))]) (rest := []) ⟨hx, hb, hml, hown, hg, hl.1⟩ k_X10_110 (s_fail l D cy d0 d1 uh wt dt vv fq pq ((.ref h0)) yf t0 t1 t2 tn ta ts tk tm tr 2 (by omega)) E0_blind hK hP hD hS hA [0, 1] [2, 3, 4, 5, 6, 7] ⟨rfl, rfl, by decide +kernel, by decide +kernel, by decide +kernel⟩ rfl rfl (fun _ _ _ => trivial) dX10_takeNew_17 rfl rfl (Nat.le_of_ble_eq_true rfl) ⟨Nat.le_of_ble_eq_true rfl, Nat.le_of_ble_eq_true rfl⟩ ⟨Nat.le_of_ble_eq_true rfl, Nat.le_of_ble_eq_true rfl⟩ (fun zr50 zu50 H locs hw50 hP9 hD9 hS9 => ?_)
    clear hP hD hS
    obtain ⟨fq2_51, pq2_52⟩ := zu50
    refine reW [wI (cy 0) t1 1600 (fby), (t2, .inl (cy 2, 24, .inr (.inl (fky)))), wO h0 4 [.ref h1, .ref h2, .ref h3, .ref h4, .ref h5, .ref h6, .ref h7, .ref h8, .ref h9, .ref h10, .ref h11, hv0, hv1, hv2, hv3, hv4], wI (cy 1) h1 4 (fc), (d1, .inl (cy 5, 4, .inr (.inr (.inr (.inr (eF d2 d3 d4 d5)))))), (d4, .inl (cy 2, 8, .inr (.inl (fd2)))), wO d0 10 [.ref t0, .ref d1, .ref h0, yf, .int uh, .int wt, .int dt, .int vv, .int fq2_51, .int pq2_52], wO t0 9 [.ref t1, .ref t2, .int (nI tn), .int (nI ta), .int (nI ts), .int (nI tk), .long tm, .int tr]] hP9 hD9 hS9 (fun hP hD hS => ?_)
    clear hP9 hD9 hS9
    refine W.widen (k := 0) (n := 0) (Nat.le_of_ble_eq_true rfl) (Nat.le_of_ble_eq_true rfl) ?_
    replace hw50 : ((zr50 = 0 ∧ (fq2_51 = nI (if tk = 3 then 1 else 2)) ∧ (pq2_52 = nI ts))) := hw50
    have f_53 := hw50
    rcases f_53 with ⟨hz_56, a_54, a_55⟩
    subst hz_56
    exact x_zret hQ hx hb hr hlocks hK hP hD hS rfl dX10_takeNew_20 (ta, ts, tk, tm, tr, fq2_51, pq2_52, c2, fc, fd2, 2, ga) (⟨(show ta ≤ tn from by omega), (show tk ≤ 123 from by omega), hcn, (show c2 ≤ 4 from by omega), (show ((0 : Int32) = 1 ∧ (newS fby tn 4 c2 np2 ga = .inr (fin fby tn (fin fby tn ga))) ∧ (fq = fq2_51) ∧ (pq = pq2_52) ∧ (tkC fby tn (fin fby tn (fin fby tn ga)) ta ts tk tm tr) ∧ (c2 + 1 = c2) ∧ (c2 < 4) ∧ (nmC fby tn (updN np2 c2 (fin fby tn ga)) (c2 + 1) fd2) ∧ (knd fby tn (fin fby tn ga) = 1)) ∨ ((0 : Int32) = 0 ∧ (newS fby tn 4 c2 np2 ga = .inl (2, ga)) ∧ (flt fby tn ga 2 fq2_51 pq2_52)) from Or.inr (⟨rfl, (if_pos (by omega)), (flt_of hti a_54 a_55)⟩))⟩) [6, 7, 0, 1, 2, 3, 4, 5] (by decide +kernel) rfl (Nat.le_of_ble_eq_true rfl) (Nat.le_of_ble_eq_true rfl)
set_option maxHeartbeats 1000000 in
set_option maxRecDepth 100000 in
theorem s_takeNew3 (l : Launch) (D : va_G) (cy : Nat → ClassId) (adK : Nat → Nat) (adV : Nat → Nat) (d0 : Nat) (d1 : Nat) (uh : Int32) (wt : Int32) (dt : Int32) (vv : Int32) (fq : Int32) (pq : Int32) (yf : Value) (t0 : Nat) (t1 : Nat) (t2 : Nat) (tn : Nat) (ta : Nat) (ts : Nat) (tk : Nat) (tm : Int64) (tr : Int32) (fby : Nat → Int32) (fky : Nat → Int64) (h0 : Nat) (h1 : Nat) (h2 : Nat) (h3 : Nat) (h4 : Nat) (h5 : Nat) (h6 : Nat) (h7 : Nat) (h8 : Nat) (h9 : Nat) (h10 : Nat) (h11 : Nat) (hv0 : Value) (hv1 : Value) (hv2 : Value) (hv3 : Value) (hv4 : Value) (fc : Nat → Int32) (c0 : Nat) (c1 : Nat) (c2 : Nat) (c3 : Nat) (d2 : Nat) (d3 : Nat) (d4 : Nat) (d5 : Nat) (fd3 : Nat → Int64) (ga : Nat) (np3 : Nat → Nat) (hcn : cntOK fc c0 c1 c2 c3) (hc0 : c0 ≤ 8) (hc1 : c1 ≤ 4) (hc2 : c2 ≤ 4) (hc3 : c3 ≤ 6) (htn : tn ≤ 1600) (hta : ta ≤ tn) (htk : tk ≤ 123) (hti : tkC fby tn ga ta ts tk tm tr) (hky : kyOK fky) (hnm3 : nmC fby tn np3 c3 fd3) : XMi l D (tyL cy) (EV adK adV) yX10_takeNew cX10_takeNew 4 (some .boolean) (rmk 7 0 0) [.ref d0, .int 3, .int 6] [wO d0 10 [.ref t0, .ref d1, .ref h0, yf, .int uh, .int wt, .int dt, .int vv, .int fq, .int pq], wO t0 9 [.ref t1, .ref t2, .int (nI tn), .int (nI ta), .int (nI ts), .int (nI tk), .long tm, .int tr], wI (cy 0) t1 1600 (fby), (t2, .inl (cy 2, 24, .inr (.inl (fky)))), wO h0 4 [.ref h1, .ref h2, .ref h3, .ref h4, .ref h5, .ref h6, .ref h7, .ref h8, .ref h9, .ref h10, .ref h11, hv0, hv1, hv2, hv3, hv4], wI (cy 1) h1 4 (fc), (d1, .inl (cy 5, 4, .inr (.inr (.inr (.inr (eF d2 d3 d4 d5)))))), (d5, .inl (cy 2, 8, .inr (.inl (fd3))))] (fun (r : Int32) (u : Nat × Nat × Nat × Int64 × Int32 × Int32 × Int32 × Nat × (Nat → Int32) × (Nat → Int64) × Nat × Nat) => (u.1 ≤ tn) ∧ (u.2.2.1 ≤ 123) ∧ (cntOK u.2.2.2.2.2.2.2.2.1 c0 c1 c2 u.2.2.2.2.2.2.2.1) ∧ (u.2.2.2.2.2.2.2.1 ≤ 6) ∧ ((r = 1 ∧ (newS fby tn 6 c3 np3 ga = .inr (fin fby tn (fin fby tn ga))) ∧ (fq = u.2.2.2.2.2.1) ∧ (pq = u.2.2.2.2.2.2.1) ∧ (tkC fby tn (fin fby tn (fin fby tn ga)) u.1 u.2.1 u.2.2.1 u.2.2.2.1 u.2.2.2.2.1) ∧ (c3 + 1 = u.2.2.2.2.2.2.2.1) ∧ (c3 < 6) ∧ (nmC fby tn (updN np3 c3 (fin fby tn ga)) (c3 + 1) u.2.2.2.2.2.2.2.2.2.1) ∧ (knd fby tn (fin fby tn ga) = 1)) ∨ (r = 0 ∧ (newS fby tn 6 c3 np3 ga = .inl (u.2.2.2.2.2.2.2.2.2.2.1, u.2.2.2.2.2.2.2.2.2.2.2)) ∧ (flt fby tn u.2.2.2.2.2.2.2.2.2.2.2 u.2.2.2.2.2.2.2.2.2.2.1 u.2.2.2.2.2.1 u.2.2.2.2.2.2.1)))) (fun (u : Nat × Nat × Nat × Int64 × Int32 × Int32 × Int32 × Nat × (Nat → Int32) × (Nat → Int64) × Nat × Nat) => [wO d0 10 [.ref t0, .ref d1, .ref h0, yf, .int uh, .int wt, .int dt, .int vv, .int u.2.2.2.2.2.1, .int u.2.2.2.2.2.2.1], wO t0 9 [.ref t1, .ref t2, .int (nI tn), .int (nI u.1), .int (nI u.2.1), .int (nI u.2.2.1), .long u.2.2.2.1, .int u.2.2.2.2.1], wI (cy 0) t1 1600 (fby), (t2, .inl (cy 2, 24, .inr (.inl (fky)))), wO h0 4 [.ref h1, .ref h2, .ref h3, .ref h4, .ref h5, .ref h6, .ref h7, .ref h8, .ref h9, .ref h10, .ref h11, hv0, hv1, hv2, hv3, hv4], wI (cy 1) h1 4 (u.2.2.2.2.2.2.2.2.1), (d1, .inl (cy 5, 4, .inr (.inr (.inr (.inr (eF d2 d3 d4 d5)))))), (d5, .inl (cy 2, 8, .inr (.inl (u.2.2.2.2.2.2.2.2.2.1))))]) := by
  refine XMi.start (by decide) (Nat.le_of_ble_eq_true rfl) ?_
  intro p e s m below meth c args A ls Q hat hQ
  obtain ⟨hx, hb, hr, hml, hown, hg, hlocks, hin, hK, hA, hP, hD, hS, hE, hl⟩ := hat
  have hown : s.vm.findClass RX10 = some m.cls := hown
  have hl : lv_has ls 4 [(0, .ref d0), (1, .int 3), (2, .int 6)] := hl
  refine lv_aload_n hx hb dX10_takeNew_0 rfl (lv_at hl 0 rfl) ?_
  refine va_get (D := D) (ci := 10) (v := .ref h0) (C := RX10) (T := TX10) (N := 10) hx hb hg i_X10 hown hK hP 0 rfl rfl 2 (by decide) (hg _ m_257) (fun _ h9 => h9) rfl dX10_takeNew_1 ?_
  refine va_get (D := D) (ci := 4) (v := .ref h1) (C := RX4) (T := TX4) (N := 16) hx hb hg i_X4 hown hK hP 4 rfl rfl 0 (by decide) (hg _ m_336) (fun _ h9 => h9) rfl dX10_takeNew_4 ?_
  refine lv_iload_n hx hb dX10_takeNew_7 rfl (lv_at hl 1 rfl) ?_
  refine va_iald hx hb hK hP 5 1 rfl rfl (by unfold vp_in; decide) dX10_takeNew_8 ?_
  refine lv_topi (fun y_1 hy_1 => ?_)
  obtain rfl : y_1 = nI c3 := hy_1.trans hcn.2.2.2
  refine lv_istore_n (lv' := [(3, .int (nI c3)), (0, .ref d0), (1, .int 3), (2, .int 6)]) hx hb dX10_takeNew_9 rfl hl (by decide) rfl (fun ls hl => ?_)
  refine lv_iload_n hx hb dX10_takeNew_10 rfl (lv_at hl 0 rfl) ?_
  refine lv_iload_n hx hb dX10_takeNew_11 rfl (lv_at hl 3 rfl) ?_
  refine lv_icmp_lt (tgt := 21) hx hb dX10_takeNew_12 (by decide) (fun c_2 => ?_) (fun c_2 => ?_)
  · have q_3 : c3 < 6 := q_lt (a := c3) (b := 6) rfl rfl (by omega) (by omega) c_2
    refine lv_aload_n hx hb dX10_takeNew_21 rfl (lv_at hl 1 rfl) ?_
    refine va_get (D := D) (ci := 10) (v := .ref t0) (C := RX10) (T := TX10) (N := 10) hx hb hg i_X10 hown hK hP 0 rfl rfl 0 (by decide) (hg _ m_255) (fun _ h9 => h9) rfl dX10_takeNew_22 ?_
    refine x_callVv (q := (RX9, TX9, 8)) (ci := 9) (q0 := 0) (wr := [wO d0 10 [.ref t0, .ref d1, .ref h0, yf, .int uh, .int wt, .int dt, .int vv, .int fq, .int pq], wO h0 4 [.ref h1, .ref h2, .ref h3, .ref h4, .ref h5, .ref h6, .ref h7, .ref h8, .ref h9, .ref h10, .ref h11, hv0, hv1, hv2, hv3, hv4], wI (cy 1) h1 4 (fc), (d1, .inl (cy 5, 4, .inr (.inr (.inr (.inr (eF d2 d3 d4 d5)))))), (d5, .inl (cy 2, 8, .inr (.inl (fd3))))]) (rest := []) ⟨hx, hb, hml, hown, hg, hl.1⟩ k_X10_140 (s_next l D cy adK adV t0 t1 t2 tn ta ts tk tm tr fby fky (fin fby tn ga) (by omega) (by omega) (hti.2.1) (hky)) EV_blind hK hP hD hS hA [1, 2, 3] [0, 4, 5, 6, 7] ⟨rfl, rfl, by decide +kernel, by decide +kernel, by decide +kernel⟩ rfl rfl (fun U hU hW => EV_pass hE hS (va_free hD hS hA [1, 2, 3] rfl) hU hW) dX10_takeNew_25 rfl rfl (Nat.le_of_ble_eq_true rfl) ⟨Nat.le_of_ble_eq_true rfl, Nat.le_of_ble_eq_true rfl⟩ ⟨Nat.le_of_ble_eq_true rfl, Nat.le_of_ble_eq_true rfl⟩ (fun zu4 H locs hw4 hP9 hD9 hS9 => ?_)
    clear hP hD hS
    obtain ⟨ta2_5, ts2_6, tk2_7, tm2_8, tr2_9⟩ := zu4
    refine reW [wO d0 10 [.ref t0, .ref d1, .ref h0, yf, .int uh, .int wt, .int dt, .int vv, .int fq, .int pq], wO h0 4 [.ref h1, .ref h2, .ref h3, .ref h4, .ref h5, .ref h6, .ref h7, .ref h8, .ref h9, .ref h10, .ref h11, hv0, hv1, hv2, hv3, hv4], wI (cy 1) h1 4 (fc), (d1, .inl (cy 5, 4, .inr (.inr (.inr (.inr (eF d2 d3 d4 d5)))))), (d5, .inl (cy 2, 8, .inr (.inl (fd3)))), wO t0 9 [.ref t1, .ref t2, .int (nI tn), .int (nI ta2_5), .int (nI ts2_6), .int (nI tk2_7), .long tm2_8, .int tr2_9], wI (cy 0) t1 1600 (fby), (t2, .inl (cy 2, 24, .inr (.inl (fky))))] hP9 hD9 hS9 (fun hP hD hS => ?_)
    clear hP9 hD9 hS9
    refine W.widen (k := 0) (n := 0) (Nat.le_of_ble_eq_true rfl) (Nat.le_of_ble_eq_true rfl) ?_
    replace hw4 : (ta2_5 ≤ tn) ∧ (tk2_7 ≤ 123) ∧ (tkC fby tn (fin fby tn ga) ta2_5 ts2_6 tk2_7 tm2_8 tr2_9) := hw4
    obtain ⟨f_10, f_11, f_12⟩ := hw4
    refine lv_aload_n hx hb dX10_takeNew_28 rfl (lv_at hl 1 rfl) ?_
    refine va_get (D := D) (ci := 10) (v := .ref t0) (C := RX10) (T := TX10) (N := 10) hx hb hg i_X10 hown hK hP 0 rfl rfl 0 (by decide) (hg _ m_255) (fun _ h9 => h9) rfl dX10_takeNew_29 ?_
    refine va_get (D := D) (ci := 9) (v := .int (nI tk2_7)) (C := RX9) (T := TX9) (N := 8) hx hb hg i_X9 hown hK hP 5 rfl rfl 5 (by decide) (hg _ m_222) (fun _ h9 => h9) rfl dX10_takeNew_32 ?_
    refine lv_iconst (v := 1) hx hb dX10_takeNew_35 (by decide) ?_
    refine lv_icmp_eq (tgt := 45) hx hb dX10_takeNew_36 (by decide) (fun c_13 => ?_) (fun c_13 => ?_)
    · have q_14 : tk2_7 = 1 := q_eq (a := tk2_7) (b := 1) rfl rfl (by omega) (by omega) c_13
      have hk9 : knd fby tn (fin fby tn ga) = 1 := by have h9 := f_12.2.2.1; omega
      refine lv_aload_n hx hb dX10_takeNew_45 rfl (lv_at hl 1 rfl) ?_
      refine lv_iload_n hx hb dX10_takeNew_46 rfl (lv_at hl 2 rfl) ?_
      refine x_callVi (q := (RX10, TX10, 10)) (ci := 10) (q0 := 0) (wr := [wI (cy 0) t1 1600 (fby), (t2, .inl (cy 2, 24, .inr (.inl (fky))))]) (rest := []) ⟨hx, hb, hml, hown, hg, hl.1⟩ k_X10_169 (s_find3 l D cy d0 d1 uh wt dt vv fq pq yf t0 t1 t2 tn ta2_5 ts2_6 tk2_7 tm2_8 tr2_9 h0 h1 h2 h3 h4 h5 h6 h7 h8 h9 h10 h11 hv0 hv1 hv2 hv3 hv4 fc c0 c1 c2 c3 d2 d3 d4 d5 fd3 fby (fin fby tn ga) np3 (hcn) (by omega) (by omega) (by omega) (by omega) (by omega) (f_12) (hnm3)) E0_blind hK hP hD hS hA [0, 5, 1, 2, 3, 4] [6, 7] ⟨rfl, rfl, by decide +kernel, by decide +kernel, by decide +kernel⟩ rfl rfl (fun _ _ _ => trivial) dX10_takeNew_47 rfl rfl (Nat.le_of_ble_eq_true rfl) ⟨Nat.le_of_ble_eq_true rfl, Nat.le_of_ble_eq_true rfl⟩ ⟨Nat.le_of_ble_eq_true rfl, Nat.le_of_ble_eq_true rfl⟩ (fun zr15 zu15 H locs hw15 hP9 hD9 hS9 => ?_)
      clear hP hD hS
      obtain ⟨jr_16, rfl⟩ : ∃ z, z = zu15 := ⟨_, rfl⟩
      refine reW [wI (cy 0) t1 1600 (fby), (t2, .inl (cy 2, 24, .inr (.inl (fky)))), wO d0 10 [.ref t0, .ref d1, .ref h0, yf, .int uh, .int wt, .int dt, .int vv, .int fq, .int pq], wO t0 9 [.ref t1, .ref t2, .int (nI tn), .int (nI ta2_5), .int (nI ts2_6), .int (nI tk2_7), .long tm2_8, .int tr2_9], wO h0 4 [.ref h1, .ref h2, .ref h3, .ref h4, .ref h5, .ref h6, .ref h7, .ref h8, .ref h9, .ref h10, .ref h11, hv0, hv1, hv2, hv3, hv4], wI (cy 1) h1 4 (fc), (d1, .inl (cy 5, 4, .inr (.inr (.inr (.inr (eF d2 d3 d4 d5)))))), (d5, .inl (cy 2, 8, .inr (.inl (fd3))))] hP9 hD9 hS9 (fun hP hD hS => ?_)
      clear hP9 hD9 hS9
      refine W.widen (k := 0) (n := 0) (Nat.le_of_ble_eq_true rfl) (Nat.le_of_ble_eq_true rfl) ?_
      replace hw15 : ((zr15 = nI jr_16 ∧ (fnd fby tn np3 c3 (fin fby tn ga) = jr_16) ∧ (jr_16 < c3)) ∨ (zr15 = -1 ∧ (¬ fnd fby tn np3 c3 (fin fby tn ga) < c3))) := hw15
      have f_17 := hw15
      rcases f_17 with ⟨hz_20, a_18, a_19⟩ | ⟨hz_22, a_21⟩
      · subst hz_20
        subst a_18
        refine lv_iconst (v := -1) hx hb dX10_takeNew_50 (by decide) ?_
        refine lv_icmp_eq (tgt := 60) hx hb dX10_takeNew_51 (by decide) (fun h => absurd h (nI_nneg (by omega) (by decide))) (fun _ => ?_)
        refine lv_aload_n hx hb dX10_takeNew_54 rfl (lv_at hl 1 rfl) ?_
        refine lv_iconst (v := 3) hx hb dX10_takeNew_55 (by decide) ?_
        refine x_callVi (q := (RX10, TX10, 10)) (ci := 10) (q0 := 0) (wr := [wI (cy 0) t1 1600 (fby), (t2, .inl (cy 2, 24, .inr (.inl (fky)))), wO h0 4 [.ref h1, .ref h2, .ref h3, .ref h4, .ref h5, .ref h6, .ref h7, .ref h8, .ref h9, .ref h10, .ref h11, hv0, hv1, hv2, hv3, hv4], wI (cy 1) h1 4 (fc), (d1, .inl (cy 5, 4, .inr (.inr (.inr (.inr (eF d2 d3 d4 d5)))))), (d5, .inl (cy 2, 8, .inr (.inl (fd3))))]) (rest := []) ⟨hx, hb, hml, hown, hg, hl.1⟩ k_X10_110 (s_fail l D cy d0 d1 uh wt dt vv fq pq ((.ref h0)) yf t0 t1 t2 tn ta2_5 ts2_6 tk2_7 tm2_8 tr2_9 3 (by omega)) E0_blind hK hP hD hS hA [2, 3] [0, 1, 4, 5, 6, 7] ⟨rfl, rfl, by decide +kernel, by decide +kernel, by decide +kernel⟩ rfl rfl (fun _ _ _ => trivial) dX10_takeNew_56 rfl rfl (Nat.le_of_ble_eq_true rfl) ⟨Nat.le_of_ble_eq_true rfl, Nat.le_of_ble_eq_true rfl⟩ ⟨Nat.le_of_ble_eq_true rfl, Nat.le_of_ble_eq_true rfl⟩ (fun zr23 zu23 H locs hw23 hP9 hD9 hS9 => ?_)
        clear hP hD hS
        obtain ⟨fq2_24, pq2_25⟩ := zu23
        refine reW [wI (cy 0) t1 1600 (fby), (t2, .inl (cy 2, 24, .inr (.inl (fky)))), wO h0 4 [.ref h1, .ref h2, .ref h3, .ref h4, .ref h5, .ref h6, .ref h7, .ref h8, .ref h9, .ref h10, .ref h11, hv0, hv1, hv2, hv3, hv4], wI (cy 1) h1 4 (fc), (d1, .inl (cy 5, 4, .inr (.inr (.inr (.inr (eF d2 d3 d4 d5)))))), (d5, .inl (cy 2, 8, .inr (.inl (fd3)))), wO d0 10 [.ref t0, .ref d1, .ref h0, yf, .int uh, .int wt, .int dt, .int vv, .int fq2_24, .int pq2_25], wO t0 9 [.ref t1, .ref t2, .int (nI tn), .int (nI ta2_5), .int (nI ts2_6), .int (nI tk2_7), .long tm2_8, .int tr2_9]] hP9 hD9 hS9 (fun hP hD hS => ?_)
        clear hP9 hD9 hS9
        refine W.widen (k := 0) (n := 0) (Nat.le_of_ble_eq_true rfl) (Nat.le_of_ble_eq_true rfl) ?_
        replace hw23 : ((zr23 = 0 ∧ (fq2_24 = nI (if tk2_7 = 3 then 1 else 3)) ∧ (pq2_25 = nI ts2_6))) := hw23
        have f_26 := hw23
        rcases f_26 with ⟨hz_29, a_27, a_28⟩
        subst hz_29
        exact x_zret hQ hx hb hr hlocks hK hP hD hS rfl dX10_takeNew_59 (ta2_5, ts2_6, tk2_7, tm2_8, tr2_9, fq2_24, pq2_25, c3, fc, fd3, 3, fin fby tn ga) (⟨(show ta2_5 ≤ tn from by omega), (show tk2_7 ≤ 123 from by omega), hcn, (show c3 ≤ 6 from by omega), (show ((0 : Int32) = 1 ∧ (newS fby tn 6 c3 np3 ga = .inr (fin fby tn (fin fby tn ga))) ∧ (fq = fq2_24) ∧ (pq = pq2_25) ∧ (tkC fby tn (fin fby tn (fin fby tn ga)) ta2_5 ts2_6 tk2_7 tm2_8 tr2_9) ∧ (c3 + 1 = c3) ∧ (c3 < 6) ∧ (nmC fby tn (updN np3 c3 (fin fby tn ga)) (c3 + 1) fd3) ∧ (knd fby tn (fin fby tn ga) = 1)) ∨ ((0 : Int32) = 0 ∧ (newS fby tn 6 c3 np3 ga = .inl (3, (fin fby tn ga))) ∧ (flt fby tn (fin fby tn ga) 3 fq2_24 pq2_25)) from Or.inr (⟨rfl, ((if_neg (by omega)).trans ((if_pos hk9).trans (if_pos a_19))), (flt_of f_12 a_27 a_28)⟩))⟩) [6, 7, 0, 1, 2, 3, 4, 5] (by decide +kernel) rfl (Nat.le_of_ble_eq_true rfl) (Nat.le_of_ble_eq_true rfl)
      · subst hz_22
        refine lv_iconst (v := -1) hx hb dX10_takeNew_50 (by decide) ?_
        refine lv_icmp_eq (tgt := 60) hx hb dX10_takeNew_51 (by decide) (fun _ => ?_) (fun h => absurd (by decide) h)
        refine lv_aload_n hx hb dX10_takeNew_60 rfl (lv_at hl 1 rfl) ?_
        refine va_get (D := D) (ci := 10) (v := .ref d1) (C := RX10) (T := TX10) (N := 10) hx hb hg i_X10 hown hK hP 2 rfl rfl 1 (by decide) (hg _ m_256) (fun _ h9 => h9) rfl dX10_takeNew_61 ?_
        refine lv_iload_n hx hb dX10_takeNew_64 rfl (lv_at hl 2 rfl) ?_
        refine x_aald (v := d5) hx hb hK hP 6 5 rfl rfl (by unfold vp_in; decide) rfl dX10_takeNew_65 ?_
        refine lv_iload_n hx hb dX10_takeNew_66 rfl (lv_at hl 0 rfl) ?_
        refine lv_aload_n hx hb dX10_takeNew_67 rfl (lv_at hl 1 rfl) ?_
        refine va_get (D := D) (ci := 10) (v := .ref t0) (C := RX10) (T := TX10) (N := 10) hx hb hg i_X10 hown hK hP 2 rfl rfl 0 (by decide) (hg _ m_255) (fun _ h9 => h9) rfl dX10_takeNew_68 ?_
        refine va_get (D := D) (ci := 9) (v := .long tm2_8) (C := RX9) (T := TX9) (N := 8) hx hb hg i_X9 hown hK hP 3 rfl rfl 6 (by decide) (hg _ m_225) (fun _ h9 => h9) rfl dX10_takeNew_71 ?_
        refine va_last hx hb hK hP hD hS 7 2 rfl rfl (vp_in_nI (by omega) (by decide)) dX10_takeNew_74 (fun H locs hP9 hD9 hS9 => ?_)
        clear hP hD hS
        obtain ⟨g_30, eg_30⟩ : ∃ y, vp_updL fd3 (nI c3 : Int32).toNatClampNeg tm2_8 = y := ⟨_, rfl⟩
        rw [eg_30] at hP9 hD9
        refine reW [wI (cy 0) t1 1600 (fby), (t2, .inl (cy 2, 24, .inr (.inl (fky)))), wO d0 10 [.ref t0, .ref d1, .ref h0, yf, .int uh, .int wt, .int dt, .int vv, .int fq, .int pq], wO t0 9 [.ref t1, .ref t2, .int (nI tn), .int (nI ta2_5), .int (nI ts2_6), .int (nI tk2_7), .long tm2_8, .int tr2_9], wO h0 4 [.ref h1, .ref h2, .ref h3, .ref h4, .ref h5, .ref h6, .ref h7, .ref h8, .ref h9, .ref h10, .ref h11, hv0, hv1, hv2, hv3, hv4], wI (cy 1) h1 4 (fc), (d1, .inl (cy 5, 4, .inr (.inr (.inr (.inr (eF d2 d3 d4 d5)))))), (d5, .inl (cy 2, 8, .inr (.inl (g_30))))] hP9 hD9 hS9 (fun hP hD hS => ?_)
        clear hP9 hD9 hS9
        have hnm9 := nmC_put (by omega) hnm3 (f_12.2.2.2.1 (by omega)) hk9 eg_30
        refine lv_aload_n hx hb dX10_takeNew_75 rfl (lv_at hl 1 rfl) ?_
        refine va_get (D := D) (ci := 10) (v := .ref h0) (C := RX10) (T := TX10) (N := 10) hx hb hg i_X10 hown hK hP 2 rfl rfl 2 (by decide) (hg _ m_257) (fun _ h9 => h9) rfl dX10_takeNew_76 ?_
        refine va_get (D := D) (ci := 4) (v := .ref h1) (C := RX4) (T := TX4) (N := 16) hx hb hg i_X4 hown hK hP 4 rfl rfl 0 (by decide) (hg _ m_336) (fun _ h9 => h9) rfl dX10_takeNew_79 ?_
        refine lv_iload_n hx hb dX10_takeNew_82 rfl (lv_at hl 2 rfl) ?_
        refine lv_iload_n hx hb dX10_takeNew_83 rfl (lv_at hl 0 rfl) ?_
        refine lv_iconst (v := 1) hx hb dX10_takeNew_84 (by decide) ?_
        refine lv_iadd hx hb dX10_takeNew_85 ?_
        refine lv_topi (fun y_31 hy_31 => ?_)
        obtain rfl : y_31 = nI (c3 + 1) := hy_31.trans (nI_add c3 1)
        refine va_iast hx hb hK hP hD hS 5 1 rfl rfl (by unfold vp_in; decide) dX10_takeNew_86 (fun H locs hP9 hD9 hS9 => ?_)
        clear hP hD hS
        have hP := hP9
        have hD := hD9
        have hS := hS9
        clear hP9 hD9 hS9
        obtain ⟨g_32, eg_32⟩ : ∃ y, upd fc (3 : Int32).toNatClampNeg (nI (c3 + 1)) = y := ⟨_, rfl⟩
        rw [eg_32] at hP hD
        have hr_33 : cntOK g_32 c0 c1 c2 ((c3 + 1)) := eg_32 ▸ cnt_put3 hcn
        replace hP : va_P D vwCl [wI (cy 0) t1 1600 (fby), (t2, .inl (cy 2, 24, .inr (.inl (fky)))), wO d0 10 [.ref t0, .ref d1, .ref h0, yf, .int uh, .int wt, .int dt, .int vv, .int fq, .int pq], wO t0 9 [.ref t1, .ref t2, .int (nI tn), .int (nI ta2_5), .int (nI ts2_6), .int (nI tk2_7), .long tm2_8, .int tr2_9], wO h0 4 [.ref h1, .ref h2, .ref h3, .ref h4, .ref h5, .ref h6, .ref h7, .ref h8, .ref h9, .ref h10, .ref h11, hv0, hv1, hv2, hv3, hv4], wI (cy 1) h1 4 (g_32), (d1, .inl (cy 5, 4, .inr (.inr (.inr (.inr (eF d2 d3 d4 d5)))))), (d5, .inl (cy 2, 8, .inr (.inl (g_30))))] H := hP
        replace hD : va_D A [wI (cy 0) t1 1600 (fby), (t2, .inl (cy 2, 24, .inr (.inl (fky)))), wO d0 10 [.ref t0, .ref d1, .ref h0, yf, .int uh, .int wt, .int dt, .int vv, .int fq, .int pq], wO t0 9 [.ref t1, .ref t2, .int (nI tn), .int (nI ta2_5), .int (nI ts2_6), .int (nI tk2_7), .long tm2_8, .int tr2_9], wO h0 4 [.ref h1, .ref h2, .ref h3, .ref h4, .ref h5, .ref h6, .ref h7, .ref h8, .ref h9, .ref h10, .ref h11, hv0, hv1, hv2, hv3, hv4], wI (cy 1) h1 4 (g_32), (d1, .inl (cy 5, 4, .inr (.inr (.inr (.inr (eF d2 d3 d4 d5)))))), (d5, .inl (cy 2, 8, .inr (.inl (g_30))))] := hD
        refine lv_aload_n hx hb dX10_takeNew_87 rfl (lv_at hl 1 rfl) ?_
        refine va_get (D := D) (ci := 10) (v := .ref t0) (C := RX10) (T := TX10) (N := 10) hx hb hg i_X10 hown hK hP 2 rfl rfl 0 (by decide) (hg _ m_255) (fun _ h9 => h9) rfl dX10_takeNew_88 ?_
        refine x_callVv (q := (RX9, TX9, 8)) (ci := 9) (q0 := 0) (wr := [wO d0 10 [.ref t0, .ref d1, .ref h0, yf, .int uh, .int wt, .int dt, .int vv, .int fq, .int pq], wO h0 4 [.ref h1, .ref h2, .ref h3, .ref h4, .ref h5, .ref h6, .ref h7, .ref h8, .ref h9, .ref h10, .ref h11, hv0, hv1, hv2, hv3, hv4], wI (cy 1) h1 4 (g_32), (d1, .inl (cy 5, 4, .inr (.inr (.inr (.inr (eF d2 d3 d4 d5)))))), (d5, .inl (cy 2, 8, .inr (.inl (g_30))))]) (rest := []) ⟨hx, hb, hml, hown, hg, hl.1⟩ k_X10_140 (s_next l D cy adK adV t0 t1 t2 tn ta2_5 ts2_6 tk2_7 tm2_8 tr2_9 fby fky (fin fby tn (fin fby tn ga)) (by omega) (by omega) (f_12.2.1) (hky)) EV_blind hK hP hD hS hA [3, 0, 1] [2, 4, 5, 6, 7] ⟨rfl, rfl, by decide +kernel, by decide +kernel, by decide +kernel⟩ rfl rfl (fun U hU hW => EV_pass hE hS (va_free hD hS hA [3, 0, 1] rfl) hU hW) dX10_takeNew_91 rfl rfl (Nat.le_of_ble_eq_true rfl) ⟨Nat.le_of_ble_eq_true rfl, Nat.le_of_ble_eq_true rfl⟩ ⟨Nat.le_of_ble_eq_true rfl, Nat.le_of_ble_eq_true rfl⟩ (fun zu34 H locs hw34 hP9 hD9 hS9 => ?_)
        clear hP hD hS
        obtain ⟨ta2_35, ts2_36, tk2_37, tm2_38, tr2_39⟩ := zu34
        refine reW [wO d0 10 [.ref t0, .ref d1, .ref h0, yf, .int uh, .int wt, .int dt, .int vv, .int fq, .int pq], wO h0 4 [.ref h1, .ref h2, .ref h3, .ref h4, .ref h5, .ref h6, .ref h7, .ref h8, .ref h9, .ref h10, .ref h11, hv0, hv1, hv2, hv3, hv4], wI (cy 1) h1 4 (g_32), (d1, .inl (cy 5, 4, .inr (.inr (.inr (.inr (eF d2 d3 d4 d5)))))), (d5, .inl (cy 2, 8, .inr (.inl (g_30)))), wO t0 9 [.ref t1, .ref t2, .int (nI tn), .int (nI ta2_35), .int (nI ts2_36), .int (nI tk2_37), .long tm2_38, .int tr2_39], wI (cy 0) t1 1600 (fby), (t2, .inl (cy 2, 24, .inr (.inl (fky))))] hP9 hD9 hS9 (fun hP hD hS => ?_)
        clear hP9 hD9 hS9
        refine W.widen (k := 0) (n := 0) (Nat.le_of_ble_eq_true rfl) (Nat.le_of_ble_eq_true rfl) ?_
        replace hw34 : (ta2_35 ≤ tn) ∧ (tk2_37 ≤ 123) ∧ (tkC fby tn (fin fby tn (fin fby tn ga)) ta2_35 ts2_36 tk2_37 tm2_38 tr2_39) := hw34
        obtain ⟨f_40, f_41, f_42⟩ := hw34
        refine lv_iconst (v := 1) hx hb dX10_takeNew_94 (by decide) ?_
        exact x_zret hQ hx hb hr hlocks hK hP hD hS rfl dX10_takeNew_95 (ta2_35, ts2_36, tk2_37, tm2_38, tr2_39, fq, pq, (c3 + 1), g_32, g_30, 0, 0) (⟨(show ta2_35 ≤ tn from by omega), (show tk2_37 ≤ 123 from by omega), hr_33, (show ((c3 + 1)) ≤ 6 from by omega), (show ((1 : Int32) = 1 ∧ (newS fby tn 6 c3 np3 ga = .inr (fin fby tn (fin fby tn ga))) ∧ (fq = fq) ∧ (pq = pq) ∧ (tkC fby tn (fin fby tn (fin fby tn ga)) ta2_35 ts2_36 tk2_37 tm2_38 tr2_39) ∧ (c3 + 1 = ((c3 + 1))) ∧ (c3 < 6) ∧ (nmC fby tn (updN np3 c3 (fin fby tn ga)) (c3 + 1) g_30) ∧ (knd fby tn (fin fby tn ga) = 1)) ∨ ((1 : Int32) = 0 ∧ (newS fby tn 6 c3 np3 ga = .inl (0, 0)) ∧ (flt fby tn 0 0 fq pq)) from Or.inl ⟨rfl, ((if_neg (by omega)).trans ((if_pos hk9).trans (if_neg a_21))), (rfl), (rfl), (f_42), (rfl), (by omega), (hnm9), (hk9)⟩)⟩) [0, 5, 6, 7, 1, 2, 3, 4] (by decide +kernel) rfl (Nat.le_of_ble_eq_true rfl) (Nat.le_of_ble_eq_true rfl)
    · have q_14 : ¬ tk2_7 = 1 := q_ne (a := tk2_7) (b := 1) rfl rfl (by omega) (by omega) c_13
      refine lv_aload_n hx hb dX10_takeNew_39 rfl (lv_at hl 1 rfl) ?_
      refine lv_iconst (v := 2) hx hb dX10_takeNew_40 (by decide) ?_
      refine x_callVi (q := (RX10, TX10, 10)) (ci := 10) (q0 := 0) (wr := [wO h0 4 [.ref h1, .ref h2, .ref h3, .ref h4, .ref h5, .ref h6, .ref h7, .ref h8, .ref h9, .ref h10, .ref h11, hv0, hv1, hv2, hv3, hv4], wI (cy 1) h1 4 (fc), (d1, .inl (cy 5, 4, .inr (.inr (.inr (.inr (eF d2 d3 d4 d5)))))), (d5, .inl (cy 2, 8, .inr (.inl (fd3)))), wI (cy 0) t1 1600 (fby), (t2, .inl (cy 2, 24, .inr (.inl (fky))))]) (rest := []) ⟨hx, hb, hml, hown, hg, hl.1⟩ k_X10_110 (s_fail l D cy d0 d1 uh wt dt vv fq pq ((.ref h0)) yf t0 t1 t2 tn ta2_5 ts2_6 tk2_7 tm2_8 tr2_9 2 (by omega)) E0_blind hK hP hD hS hA [0, 5] [1, 2, 3, 4, 6, 7] ⟨rfl, rfl, by decide +kernel, by decide +kernel, by decide +kernel⟩ rfl rfl (fun _ _ _ => trivial) dX10_takeNew_41 rfl rfl (Nat.le_of_ble_eq_true rfl) ⟨Nat.le_of_ble_eq_true rfl, Nat.le_of_ble_eq_true rfl⟩ ⟨Nat.le_of_ble_eq_true rfl, Nat.le_of_ble_eq_true rfl⟩ (fun zr43 zu43 H locs hw43 hP9 hD9 hS9 => ?_)
      clear hP hD hS
      obtain ⟨fq2_44, pq2_45⟩ := zu43
      refine reW [wO h0 4 [.ref h1, .ref h2, .ref h3, .ref h4, .ref h5, .ref h6, .ref h7, .ref h8, .ref h9, .ref h10, .ref h11, hv0, hv1, hv2, hv3, hv4], wI (cy 1) h1 4 (fc), (d1, .inl (cy 5, 4, .inr (.inr (.inr (.inr (eF d2 d3 d4 d5)))))), (d5, .inl (cy 2, 8, .inr (.inl (fd3)))), wI (cy 0) t1 1600 (fby), (t2, .inl (cy 2, 24, .inr (.inl (fky)))), wO d0 10 [.ref t0, .ref d1, .ref h0, yf, .int uh, .int wt, .int dt, .int vv, .int fq2_44, .int pq2_45], wO t0 9 [.ref t1, .ref t2, .int (nI tn), .int (nI ta2_5), .int (nI ts2_6), .int (nI tk2_7), .long tm2_8, .int tr2_9]] hP9 hD9 hS9 (fun hP hD hS => ?_)
      clear hP9 hD9 hS9
      refine W.widen (k := 0) (n := 0) (Nat.le_of_ble_eq_true rfl) (Nat.le_of_ble_eq_true rfl) ?_
      replace hw43 : ((zr43 = 0 ∧ (fq2_44 = nI (if tk2_7 = 3 then 1 else 2)) ∧ (pq2_45 = nI ts2_6))) := hw43
      have f_46 := hw43
      rcases f_46 with ⟨hz_49, a_47, a_48⟩
      subst hz_49
      exact x_zret hQ hx hb hr hlocks hK hP hD hS rfl dX10_takeNew_44 (ta2_5, ts2_6, tk2_7, tm2_8, tr2_9, fq2_44, pq2_45, c3, fc, fd3, 2, fin fby tn ga) (⟨(show ta2_5 ≤ tn from by omega), (show tk2_7 ≤ 123 from by omega), hcn, (show c3 ≤ 6 from by omega), (show ((0 : Int32) = 1 ∧ (newS fby tn 6 c3 np3 ga = .inr (fin fby tn (fin fby tn ga))) ∧ (fq = fq2_44) ∧ (pq = pq2_45) ∧ (tkC fby tn (fin fby tn (fin fby tn ga)) ta2_5 ts2_6 tk2_7 tm2_8 tr2_9) ∧ (c3 + 1 = c3) ∧ (c3 < 6) ∧ (nmC fby tn (updN np3 c3 (fin fby tn ga)) (c3 + 1) fd3) ∧ (knd fby tn (fin fby tn ga) = 1)) ∨ ((0 : Int32) = 0 ∧ (newS fby tn 6 c3 np3 ga = .inl (2, (fin fby tn ga))) ∧ (flt fby tn (fin fby tn ga) 2 fq2_44 pq2_45)) from Or.inr (⟨rfl, ((if_neg (by omega)).trans (if_neg (by have h9 := f_12.2.2.1; omega))), (flt_of f_12 a_47 a_48)⟩))⟩) [6, 7, 4, 5, 0, 1, 2, 3] (by decide +kernel) rfl (Nat.le_of_ble_eq_true rfl) (Nat.le_of_ble_eq_true rfl)
  · have q_3 : 6 ≤ c3 := q_nlt (a := c3) (b := 6) rfl rfl (by omega) (by omega) c_2
    refine lv_aload_n hx hb dX10_takeNew_15 rfl (lv_at hl 1 rfl) ?_
    refine lv_iconst (v := 2) hx hb dX10_takeNew_16 (by decide) ?_
    refine x_callVi (q := (RX10, TX10, 10)) (ci := 10) (q0 := 0) (wr := [wI (cy 0) t1 1600 (fby), (t2, .inl (cy 2, 24, .inr (.inl (fky)))), wO h0 4 [.ref h1, .ref h2, .ref h3, .ref h4, .ref h5, .ref h6, .ref h7, .ref h8, .ref h9, .ref h10, .ref h11, hv0, hv1, hv2, hv3, hv4], wI (cy 1) h1 4 (fc), (d1, .inl (cy 5, 4, .inr (.inr (.inr (.inr (eF d2 d3 d4 d5)))))), (d5, .inl (cy 2, 8, .inr (.inl (fd3))))]) (rest := []) ⟨hx, hb, hml, hown, hg, hl.1⟩ k_X10_110 (s_fail l D cy d0 d1 uh wt dt vv fq pq ((.ref h0)) yf t0 t1 t2 tn ta ts tk tm tr 2 (by omega)) E0_blind hK hP hD hS hA [0, 1] [2, 3, 4, 5, 6, 7] ⟨rfl, rfl, by decide +kernel, by decide +kernel, by decide +kernel⟩ rfl rfl (fun _ _ _ => trivial) dX10_takeNew_17 rfl rfl (Nat.le_of_ble_eq_true rfl) ⟨Nat.le_of_ble_eq_true rfl, Nat.le_of_ble_eq_true rfl⟩ ⟨Nat.le_of_ble_eq_true rfl, Nat.le_of_ble_eq_true rfl⟩ (fun zr50 zu50 H locs hw50 hP9 hD9 hS9 => ?_)
    clear hP hD hS
    obtain ⟨fq2_51, pq2_52⟩ := zu50
    refine reW [wI (cy 0) t1 1600 (fby), (t2, .inl (cy 2, 24, .inr (.inl (fky)))), wO h0 4 [.ref h1, .ref h2, .ref h3, .ref h4, .ref h5, .ref h6, .ref h7, .ref h8, .ref h9, .ref h10, .ref h11, hv0, hv1, hv2, hv3, hv4], wI (cy 1) h1 4 (fc), (d1, .inl (cy 5, 4, .inr (.inr (.inr (.inr (eF d2 d3 d4 d5)))))), (d5, .inl (cy 2, 8, .inr (.inl (fd3)))), wO d0 10 [.ref t0, .ref d1, .ref h0, yf, .int uh, .int wt, .int dt, .int vv, .int fq2_51, .int pq2_52], wO t0 9 [.ref t1, .ref t2, .int (nI tn), .int (nI ta), .int (nI ts), .int (nI tk), .long tm, .int tr]] hP9 hD9 hS9 (fun hP hD hS => ?_)
    clear hP9 hD9 hS9
    refine W.widen (k := 0) (n := 0) (Nat.le_of_ble_eq_true rfl) (Nat.le_of_ble_eq_true rfl) ?_
    replace hw50 : ((zr50 = 0 ∧ (fq2_51 = nI (if tk = 3 then 1 else 2)) ∧ (pq2_52 = nI ts))) := hw50
    have f_53 := hw50
    rcases f_53 with ⟨hz_56, a_54, a_55⟩
    subst hz_56
    exact x_zret hQ hx hb hr hlocks hK hP hD hS rfl dX10_takeNew_20 (ta, ts, tk, tm, tr, fq2_51, pq2_52, c3, fc, fd3, 2, ga) (⟨(show ta ≤ tn from by omega), (show tk ≤ 123 from by omega), hcn, (show c3 ≤ 6 from by omega), (show ((0 : Int32) = 1 ∧ (newS fby tn 6 c3 np3 ga = .inr (fin fby tn (fin fby tn ga))) ∧ (fq = fq2_51) ∧ (pq = pq2_52) ∧ (tkC fby tn (fin fby tn (fin fby tn ga)) ta ts tk tm tr) ∧ (c3 + 1 = c3) ∧ (c3 < 6) ∧ (nmC fby tn (updN np3 c3 (fin fby tn ga)) (c3 + 1) fd3) ∧ (knd fby tn (fin fby tn ga) = 1)) ∨ ((0 : Int32) = 0 ∧ (newS fby tn 6 c3 np3 ga = .inl (2, ga)) ∧ (flt fby tn ga 2 fq2_51 pq2_52)) from Or.inr (⟨rfl, (if_pos (by omega)), (flt_of hti a_54 a_55)⟩))⟩) [6, 7, 0, 1, 2, 3, 4, 5] (by decide +kernel) rfl (Nat.le_of_ble_eq_true rfl) (Nat.le_of_ble_eq_true rfl)
