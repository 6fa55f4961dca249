def mL20a : List (Option Cond) := [some (Cond.selects RX10 yX10_take yX10_take), some (Cond.selects RX10 yX10_takeEither yX10_takeEither), some (Cond.selects RX10 yX10_takeBoth yX10_takeBoth), some (Cond.selects RX10 yX10_takeOne yX10_takeOne), some (Cond.selects RX10 yX10_takeNot yX10_takeNot), some (Cond.selects RX10 yX10_takeSum yX10_takeSum), some (Cond.selects RX10 yX10_takeTerm yX10_takeTerm), some (Cond.selects RX10 yX10_takeUnit yX10_takeUnit), some (Cond.selects RX10 yX10_takeInner yX10_takeInner), some (Cond.fieldLink RX10 34 "CliffJudges$Teller" "formula" "LCliffJudges$Formula;"), some (Cond.fieldLink RX10 163 "CliffJudges$Teller" "unitsHere" "I"), some (Cond.fieldLink RX10 204 "CliffJudges$Hills" "units" "I"), some (Cond.methodLink RX10 128 yX10_take), some (Cond.instanceMethod yX10_take), some (Cond.code yX10_take cX10_take 2 (some .boolean)), some (Cond.methodLink RX10 166 yX10_takeEither), some (Cond.instanceMethod yX10_takeEither), some (Cond.code yX10_takeEither cX10_takeEither 4 (some .boolean)), some (Cond.methodLink RX10 179 yX10_takeBoth), some (Cond.instanceMethod yX10_takeBoth), some (Cond.code yX10_takeBoth cX10_takeBoth 4 (some .boolean)), some (Cond.methodLink RX10 186 yX10_takeOne), some (Cond.instanceMethod yX10_takeOne), some (Cond.code yX10_takeOne cX10_takeOne 4 (some .boolean)), some (Cond.methodLink RX10 189 yX10_takeNot), some (Cond.instanceMethod yX10_takeNot), some (Cond.code yX10_takeNot cX10_takeNot 3 (some .boolean)), some (Cond.methodLink RX10 182 yX3_addDeed), some (Cond.instanceMethod yX3_addDeed), some (Cond.selects RX3 yX3_addDeed yX3_addDeed), some (Cond.code yX3_addDeed cX3_addDeed 2 none), some (Cond.methodLink RX10 192 yX10_takeSum), some (Cond.instanceMethod yX10_takeSum), some (Cond.code yX10_takeSum cX10_takeSum 5 (some .boolean)), some (Cond.methodLink RX10 195 yX10_takeTerm), some (Cond.instanceMethod yX10_takeTerm), some (Cond.code yX10_takeTerm cX10_takeTerm 5 (some .boolean)), some (Cond.methodLink RX10 198 yX10_takeUnit), some (Cond.instanceMethod yX10_takeUnit), some (Cond.code yX10_takeUnit cX10_takeUnit 3 (some .boolean)), some (Cond.methodLink RX10 207 yX10_takeInner), some (Cond.instanceMethod yX10_takeInner), some (Cond.code yX10_takeInner cX10_takeInner 2 (some .boolean)), some (Cond.methodLink RX10 210 yX10_factOf), some (Cond.static yX10_factOf), some (Cond.code yX10_factOf cX10_factOf 1 (some .int)), some (Cond.methodLink RX10 213 yX3_addFact), some (Cond.instanceMethod yX3_addFact), some (Cond.selects RX3 yX3_addFact yX3_addFact), some (Cond.code yX3_addFact cX3_addFact 2 none), some (Cond.methodLink RX10 216 yX3_addNumber), some (Cond.instanceMethod yX3_addNumber), some (Cond.selects RX3 yX3_addNumber yX3_addNumber), some (Cond.code yX3_addNumber cX3_addNumber 2 none), some (Cond.methodLink RX10 201 yX10_isOfTerm), some (Cond.static yX10_isOfTerm), some (Cond.code yX10_isOfTerm cX10_isOfTerm 1 (some .boolean))]
set_option maxRecDepth 100000 in
theorem mP20a : pick [12, 6, 1, 1, 1, 2, 1, 1, 1, 232, 1, 123, 457, 2, 1, 21, 2, 1, 1, 2, 1, 1, 2, 1, 1, 2, 1, 1, 1, 1, 1, 5, 2, 1, 1, 2, 1, 1, 2, 1, 1, 2, 1, 1, 1, 1, 1, 1, 1, 1, 1, 1, 1, 1, 1, 1, 1] lw_tbl = mL20a := rfl
set_option maxRecDepth 100000 in
theorem mG20a : mL20a.all (fun o => o.all goodWord) = true := rfl
theorem m_12 : (Cond.selects RX10 yX10_take yX10_take) ∈ gT := gp mP20a mG20a 0 rfl
theorem m_18 : (Cond.selects RX10 yX10_takeEither yX10_takeEither) ∈ gT := gp mP20a mG20a 1 rfl
theorem m_19 : (Cond.selects RX10 yX10_takeBoth yX10_takeBoth) ∈ gT := gp mP20a mG20a 2 rfl
theorem m_20 : (Cond.selects RX10 yX10_takeOne yX10_takeOne) ∈ gT := gp mP20a mG20a 3 rfl
theorem m_21 : (Cond.selects RX10 yX10_takeNot yX10_takeNot) ∈ gT := gp mP20a mG20a 4 rfl
theorem m_23 : (Cond.selects RX10 yX10_takeSum yX10_takeSum) ∈ gT := gp mP20a mG20a 5 rfl
theorem m_24 : (Cond.selects RX10 yX10_takeTerm yX10_takeTerm) ∈ gT := gp mP20a mG20a 6 rfl
theorem m_25 : (Cond.selects RX10 yX10_takeUnit yX10_takeUnit) ∈ gT := gp mP20a mG20a 7 rfl
theorem m_26 : (Cond.selects RX10 yX10_takeInner yX10_takeInner) ∈ gT := gp mP20a mG20a 8 rfl
theorem m_258 : (Cond.fieldLink RX10 34 "CliffJudges$Teller" "formula" "LCliffJudges$Formula;") ∈ gT := gp mP20a mG20a 9 rfl
theorem m_259 : (Cond.fieldLink RX10 163 "CliffJudges$Teller" "unitsHere" "I") ∈ gT := gp mP20a mG20a 10 rfl
theorem m_382 : (Cond.fieldLink RX10 204 "CliffJudges$Hills" "units" "I") ∈ gT := gp mP20a mG20a 11 rfl
theorem m_839 : (Cond.methodLink RX10 128 yX10_take) ∈ gT := gp mP20a mG20a 12 rfl
theorem m_841 : (Cond.instanceMethod yX10_take) ∈ gT := gp mP20a mG20a 13 rfl
theorem m_842 : (Cond.code yX10_take cX10_take 2 (some .boolean)) ∈ gT := gp mP20a mG20a 14 rfl
theorem m_863 : (Cond.methodLink RX10 166 yX10_takeEither) ∈ gT := gp mP20a mG20a 15 rfl
theorem m_865 : (Cond.instanceMethod yX10_takeEither) ∈ gT := gp mP20a mG20a 16 rfl
theorem m_866 : (Cond.code yX10_takeEither cX10_takeEither 4 (some .boolean)) ∈ gT := gp mP20a mG20a 17 rfl
theorem m_867 : (Cond.methodLink RX10 179 yX10_takeBoth) ∈ gT := gp mP20a mG20a 18 rfl
theorem m_869 : (Cond.instanceMethod yX10_takeBoth) ∈ gT := gp mP20a mG20a 19 rfl
theorem m_870 : (Cond.code yX10_takeBoth cX10_takeBoth 4 (some .boolean)) ∈ gT := gp mP20a mG20a 20 rfl
theorem m_871 : (Cond.methodLink RX10 186 yX10_takeOne) ∈ gT := gp mP20a mG20a 21 rfl
theorem m_873 : (Cond.instanceMethod yX10_takeOne) ∈ gT := gp mP20a mG20a 22 rfl
theorem m_874 : (Cond.code yX10_takeOne cX10_takeOne 4 (some .boolean)) ∈ gT := gp mP20a mG20a 23 rfl
theorem m_875 : (Cond.methodLink RX10 189 yX10_takeNot) ∈ gT := gp mP20a mG20a 24 rfl
theorem m_877 : (Cond.instanceMethod yX10_takeNot) ∈ gT := gp mP20a mG20a 25 rfl
theorem m_878 : (Cond.code yX10_takeNot cX10_takeNot 3 (some .boolean)) ∈ gT := gp mP20a mG20a 26 rfl
theorem m_879 : (Cond.methodLink RX10 182 yX3_addDeed) ∈ gT := gp mP20a mG20a 27 rfl
theorem m_880 : (Cond.instanceMethod yX3_addDeed) ∈ gT := gp mP20a mG20a 28 rfl
theorem m_881 : (Cond.selects RX3 yX3_addDeed yX3_addDeed) ∈ gT := gp mP20a mG20a 29 rfl
theorem m_882 : (Cond.code yX3_addDeed cX3_addDeed 2 none) ∈ gT := gp mP20a mG20a 30 rfl
theorem m_887 : (Cond.methodLink RX10 192 yX10_takeSum) ∈ gT := gp mP20a mG20a 31 rfl
theorem m_889 : (Cond.instanceMethod yX10_takeSum) ∈ gT := gp mP20a mG20a 32 rfl
theorem m_890 : (Cond.code yX10_takeSum cX10_takeSum 5 (some .boolean)) ∈ gT := gp mP20a mG20a 33 rfl
theorem m_891 : (Cond.methodLink RX10 195 yX10_takeTerm) ∈ gT := gp mP20a mG20a 34 rfl
theorem m_893 : (Cond.instanceMethod yX10_takeTerm) ∈ gT := gp mP20a mG20a 35 rfl
theorem m_894 : (Cond.code yX10_takeTerm cX10_takeTerm 5 (some .boolean)) ∈ gT := gp mP20a mG20a 36 rfl
theorem m_895 : (Cond.methodLink RX10 198 yX10_takeUnit) ∈ gT := gp mP20a mG20a 37 rfl
theorem m_897 : (Cond.instanceMethod yX10_takeUnit) ∈ gT := gp mP20a mG20a 38 rfl
theorem m_898 : (Cond.code yX10_takeUnit cX10_takeUnit 3 (some .boolean)) ∈ gT := gp mP20a mG20a 39 rfl
theorem m_899 : (Cond.methodLink RX10 207 yX10_takeInner) ∈ gT := gp mP20a mG20a 40 rfl
theorem m_901 : (Cond.instanceMethod yX10_takeInner) ∈ gT := gp mP20a mG20a 41 rfl
theorem m_902 : (Cond.code yX10_takeInner cX10_takeInner 2 (some .boolean)) ∈ gT := gp mP20a mG20a 42 rfl
theorem m_903 : (Cond.methodLink RX10 210 yX10_factOf) ∈ gT := gp mP20a mG20a 43 rfl
theorem m_904 : (Cond.static yX10_factOf) ∈ gT := gp mP20a mG20a 44 rfl
theorem m_905 : (Cond.code yX10_factOf cX10_factOf 1 (some .int)) ∈ gT := gp mP20a mG20a 45 rfl
theorem m_906 : (Cond.methodLink RX10 213 yX3_addFact) ∈ gT := gp mP20a mG20a 46 rfl
theorem m_907 : (Cond.instanceMethod yX3_addFact) ∈ gT := gp mP20a mG20a 47 rfl
theorem m_908 : (Cond.selects RX3 yX3_addFact yX3_addFact) ∈ gT := gp mP20a mG20a 48 rfl
theorem m_909 : (Cond.code yX3_addFact cX3_addFact 2 none) ∈ gT := gp mP20a mG20a 49 rfl
theorem m_910 : (Cond.methodLink RX10 216 yX3_addNumber) ∈ gT := gp mP20a mG20a 50 rfl
theorem m_911 : (Cond.instanceMethod yX3_addNumber) ∈ gT := gp mP20a mG20a 51 rfl
theorem m_912 : (Cond.selects RX3 yX3_addNumber yX3_addNumber) ∈ gT := gp mP20a mG20a 52 rfl
theorem m_913 : (Cond.code yX3_addNumber cX3_addNumber 2 none) ∈ gT := gp mP20a mG20a 53 rfl
theorem m_914 : (Cond.methodLink RX10 201 yX10_isOfTerm) ∈ gT := gp mP20a mG20a 54 rfl
theorem m_915 : (Cond.static yX10_isOfTerm) ∈ gT := gp mP20a mG20a 55 rfl
theorem m_916 : (Cond.code yX10_isOfTerm cX10_isOfTerm 1 (some .boolean)) ∈ gT := gp mP20a mG20a 56 rfl
theorem sg_ne1 {k : Nat} (h : ¬ k = 114) : ¬ sgM k = 0 → ¬ tgt (sgM k) = 1 := by
  intro h0; rcases sgM_cases k with h9 | h9 | h9 | h9 | h9 | h9
  · exact absurd h9 h0
  all_goals omega
theorem sg_ne2 {k : Nat} (h : ¬ k = 115) : ¬ sgM k = 0 → ¬ tgt (sgM k) = 2 := by
  intro h0; rcases sgM_cases k with h9 | h9 | h9 | h9 | h9 | h9
  · exact absurd h9 h0
  all_goals omega
theorem sg_ne5 {k : Nat} (h : ¬ (k = 43 ∨ k = 45)) : ¬ sgM k = 0 → ¬ tgt (sgM k) = 5 := by
  intro h0; rcases sgM_cases k with h9 | h9 | h9 | h9 | h9 | h9
  · exact absurd h9 h0
  all_goals omega
theorem sg_ne6 {k : Nat} (h : ¬ (k = 42 ∨ k = 47 ∨ k = 37)) : ¬ sgM k = 0 → ¬ tgt (sgM k) = 6 := by
  intro h0; rcases sgM_cases k with h9 | h9 | h9 | h9 | h9 | h9
  · exact absurd h9 h0
  all_goals omega
theorem sg_ne4 {k : Nat} (h : ¬ (k = 60 ∨ k = 62 ∨ k = 61)) : ¬ (¬ sgM k = 0 ∧ tgt (sgM k) = 4) := by
  intro h0; rcases sgM_cases k with h9 | h9 | h9 | h9 | h9 | h9
  · exact absurd h9 h0.1
  all_goals omega
theorem sg_1 {k : Nat} (h : k = 114) : ¬ sgM k = 0 ∧ tgt (sgM k) = 1 := by subst h; decide
theorem sg_2 {k : Nat} (h : k = 115) : ¬ sgM k = 0 ∧ tgt (sgM k) = 2 := by subst h; decide
theorem sg_5 {k : Nat} (h : k = 43 ∨ k = 45) : ¬ sgM k = 0 ∧ tgt (sgM k) = 5 := by rcases h with h | h <;> subst h <;> decide
theorem sg_6 {k : Nat} (h : k = 42 ∨ k = 47 ∨ k = 37) : ¬ sgM k = 0 ∧ tgt (sgM k) = 6 := by rcases h with h | h | h <;> subst h <;> decide
theorem sg_4 {k : Nat} (h : k = 60 ∨ k = 62 ∨ k = 61) : ¬ sgM k = 0 ∧ tgt (sgM k) = 4 := by rcases h with h | h | h <;> subst h <;> decide
theorem lvP67 : lvP 6 7 := Or.inl ⟨rfl, rfl⟩
theorem lvP56 : lvP 5 6 := Or.inr (Or.inl ⟨rfl, rfl⟩)
theorem lvP24 : lvP 2 4 := Or.inr (Or.inr (Or.inl ⟨rfl, rfl⟩))
theorem lvP12 : lvP 1 2 := Or.inr (Or.inr (Or.inr ⟨rfl, rfl⟩))
theorem gdX10_isOfTerm_0 : decode cX10_isOfTerm 0 = .ok (.iload_n 0, 1) ∧ decode cX10_isOfTerm 1 = .ok (.bipush 42, 2) ∧ decode cX10_isOfTerm 3 = .ok (.if_icmp .eq 15, 3) ∧ decode cX10_isOfTerm 18 = .ok (.iconst 1, 1) ∧ decode cX10_isOfTerm 19 = .ok (.goto 4, 3) ∧ decode cX10_isOfTerm 23 = .ok (.ireturn, 1) ∧ decode cX10_isOfTerm 6 = .ok (.iload_n 0, 1) ∧ decode cX10_isOfTerm 7 = .ok (.bipush 47, 2) ∧ decode cX10_isOfTerm 9 = .ok (.if_icmp .eq 9, 3) ∧ decode cX10_isOfTerm 12 = .ok (.iload_n 0, 1) ∧ decode cX10_isOfTerm 13 = .ok (.bipush 37, 2) ∧ decode cX10_isOfTerm 15 = .ok (.if_icmp .ne 7, 3) := by decide +kernel
theorem dX10_isOfTerm_0 : decode cX10_isOfTerm 0 = .ok (.iload_n 0, 1) := gdX10_isOfTerm_0.1
theorem dX10_isOfTerm_1 : decode cX10_isOfTerm 1 = .ok (.bipush 42, 2) := gdX10_isOfTerm_0.2.1
theorem dX10_isOfTerm_3 : decode cX10_isOfTerm 3 = .ok (.if_icmp .eq 15, 3) := gdX10_isOfTerm_0.2.2.1
theorem dX10_isOfTerm_18 : decode cX10_isOfTerm 18 = .ok (.iconst 1, 1) := gdX10_isOfTerm_0.2.2.2.1
theorem dX10_isOfTerm_19 : decode cX10_isOfTerm 19 = .ok (.goto 4, 3) := gdX10_isOfTerm_0.2.2.2.2.1
theorem dX10_isOfTerm_23 : decode cX10_isOfTerm 23 = .ok (.ireturn, 1) := gdX10_isOfTerm_0.2.2.2.2.2.1
theorem dX10_isOfTerm_6 : decode cX10_isOfTerm 6 = .ok (.iload_n 0, 1) := gdX10_isOfTerm_0.2.2.2.2.2.2.1
theorem dX10_isOfTerm_7 : decode cX10_isOfTerm 7 = .ok (.bipush 47, 2) := gdX10_isOfTerm_0.2.2.2.2.2.2.2.1
theorem dX10_isOfTerm_9 : decode cX10_isOfTerm 9 = .ok (.if_icmp .eq 9, 3) := gdX10_isOfTerm_0.2.2.2.2.2.2.2.2.1
theorem dX10_isOfTerm_12 : decode cX10_isOfTerm 12 = .ok (.iload_n 0, 1) := gdX10_isOfTerm_0.2.2.2.2.2.2.2.2.2.1
theorem dX10_isOfTerm_13 : decode cX10_isOfTerm 13 = .ok (.bipush 37, 2) := gdX10_isOfTerm_0.2.2.2.2.2.2.2.2.2.2.1
theorem dX10_isOfTerm_15 : decode cX10_isOfTerm 15 = .ok (.if_icmp .ne 7, 3) := gdX10_isOfTerm_0.2.2.2.2.2.2.2.2.2.2.2
theorem dX10_isOfTerm_22 : decode cX10_isOfTerm 22 = .ok (.iconst 0, 1) := by decide +kernel
set_option maxHeartbeats 1000000 in
set_option maxRecDepth 100000 in
theorem s_isOfTerm (l : Launch) (D : va_G) (cy : Nat → ClassId) (kd : Nat) (hkd : kd ≤ 123) : XMi l D (tyL cy) E0 yX10_isOfTerm cX10_isOfTerm 1 (some .boolean) (rmk 0 0 0) [.int (nI kd)] [] (fun (r : Int32) (_ : Unit) => ((r = 1 ∧ (kd = 42 ∨ kd = 47 ∨ kd = 37)) ∨ (r = 0 ∧ (¬ (kd = 42 ∨ kd = 47 ∨ kd = 37))))) (fun (_ : Unit) => []) := by
  refine XMi.start (by decide) (Nat.le_of_ble_eq_true rfl) ?_
  intro p e s m below meth c args A ls Q hat hQ
  obtain ⟨hx, hb, hr, hml, hown, hg, hlocks, hin, hK, hA, hP, hD, hS, hE, hl⟩ := hat
  have hown : s.vm.findClass RX10 = some m.cls := hown
  have hl : lv_has ls 1 [(0, .int (nI kd))] := hl
  refine lv_iload_n hx hb dX10_isOfTerm_0 rfl (lv_at hl 0 rfl) ?_
  refine lv_bipush (v := 42) hx hb dX10_isOfTerm_1 (by decide) ?_
  refine lv_icmp_eq (tgt := 18) hx hb dX10_isOfTerm_3 (by decide) (fun c_1 => ?_) (fun c_1 => ?_)
  · have q_2 : kd = 42 := q_eq (a := kd) (b := 42) rfl rfl (by omega) (by omega) c_1
    refine lv_iconst (v := 1) hx hb dX10_isOfTerm_18 (by decide) ?_
    refine lv_goto (tgt := 23) hx hb dX10_isOfTerm_19 (by decide) ?_
    exact x_zret hQ hx hb hr hlocks hK hP hD hS rfl dX10_isOfTerm_23 () ((show ((1 : Int32) = 1 ∧ (kd = 42 ∨ kd = 47 ∨ kd = 37)) ∨ ((1 : Int32) = 0 ∧ (¬ (kd = 42 ∨ kd = 47 ∨ kd = 37))) from Or.inl ⟨rfl, (by omega)⟩)) [] (by decide +kernel) rfl (Nat.le_of_ble_eq_true rfl) (Nat.le_of_ble_eq_true rfl)
  · have q_2 : ¬ kd = 42 := q_ne (a := kd) (b := 42) rfl rfl (by omega) (by omega) c_1
    refine lv_iload_n hx hb dX10_isOfTerm_6 rfl (lv_at hl 0 rfl) ?_
    refine lv_bipush (v := 47) hx hb dX10_isOfTerm_7 (by decide) ?_
    refine lv_icmp_eq (tgt := 18) hx hb dX10_isOfTerm_9 (by decide) (fun c_3 => ?_) (fun c_3 => ?_)
    · have q_4 : kd = 47 := q_eq (a := kd) (b := 47) rfl rfl (by omega) (by omega) c_3
      refine lv_iconst (v := 1) hx hb dX10_isOfTerm_18 (by decide) ?_
      refine lv_goto (tgt := 23) hx hb dX10_isOfTerm_19 (by decide) ?_
      exact x_zret hQ hx hb hr hlocks hK hP hD hS rfl dX10_isOfTerm_23 () ((show ((1 : Int32) = 1 ∧ (kd = 42 ∨ kd = 47 ∨ kd = 37)) ∨ ((1 : Int32) = 0 ∧ (¬ (kd = 42 ∨ kd = 47 ∨ kd = 37))) from Or.inl ⟨rfl, (by omega)⟩)) [] (by decide +kernel) rfl (Nat.le_of_ble_eq_true rfl) (Nat.le_of_ble_eq_true rfl)
    · have q_4 : ¬ kd = 47 := q_ne (a := kd) (b := 47) rfl rfl (by omega) (by omega) c_3
      refine lv_iload_n hx hb dX10_isOfTerm_12 rfl (lv_at hl 0 rfl) ?_
      refine lv_bipush (v := 37) hx hb dX10_isOfTerm_13 (by decide) ?_
      refine lv_icmp_ne (tgt := 22) hx hb dX10_isOfTerm_15 (by decide) (fun c_5 => ?_) (fun c_5 => ?_)
      · have q_6 : ¬ kd = 37 := q_ne (a := kd) (b := 37) rfl rfl (by omega) (by omega) c_5
        refine lv_iconst (v := 0) hx hb dX10_isOfTerm_22 (by decide) ?_
        exact x_zret hQ hx hb hr hlocks hK hP hD hS rfl dX10_isOfTerm_23 () ((show ((0 : Int32) = 1 ∧ (kd = 42 ∨ kd = 47 ∨ kd = 37)) ∨ ((0 : Int32) = 0 ∧ (¬ (kd = 42 ∨ kd = 47 ∨ kd = 37))) from Or.inr (⟨rfl, (by omega)⟩))) [] (by decide +kernel) rfl (Nat.le_of_ble_eq_true rfl) (Nat.le_of_ble_eq_true rfl)
      · have q_6 : kd = 37 := q_eq (a := kd) (b := 37) rfl rfl (by omega) (by omega) c_5
        refine lv_iconst (v := 1) hx hb dX10_isOfTerm_18 (by decide) ?_
        refine lv_goto (tgt := 23) hx hb dX10_isOfTerm_19 (by decide) ?_
        exact x_zret hQ hx hb hr hlocks hK hP hD hS rfl dX10_isOfTerm_23 () ((show ((1 : Int32) = 1 ∧ (kd = 42 ∨ kd = 47 ∨ kd = 37)) ∨ ((1 : Int32) = 0 ∧ (¬ (kd = 42 ∨ kd = 47 ∨ kd = 37))) from Or.inl ⟨rfl, (by omega)⟩)) [] (by decide +kernel) rfl (Nat.le_of_ble_eq_true rfl) (Nat.le_of_ble_eq_true rfl)
theorem gdX10_factOf_0 : decode cX10_factOf 0 = .ok (.iload_n 0, 1) ∧ decode cX10_factOf 1 = .ok (.tableswitch 58 117 123 #[43, 45, 47, 49, 51, 53, 55], 43) ∧ decode cX10_factOf 59 = .ok (.iconst (-1), 1) ∧ decode cX10_factOf 60 = .ok (.ireturn, 1) ∧ decode cX10_factOf 44 = .ok (.iconst 0, 1) ∧ decode cX10_factOf 45 = .ok (.ireturn, 1) ∧ decode cX10_factOf 46 = .ok (.iconst 1, 1) ∧ decode cX10_factOf 47 = .ok (.ireturn, 1) ∧ decode cX10_factOf 48 = .ok (.iconst 2, 1) ∧ decode cX10_factOf 49 = .ok (.ireturn, 1) ∧ decode cX10_factOf 50 = .ok (.iconst 3, 1) ∧ decode cX10_factOf 51 = .ok (.ireturn, 1) := by decide +kernel
theorem dX10_factOf_0 : decode cX10_factOf 0 = .ok (.iload_n 0, 1) := gdX10_factOf_0.1
theorem dX10_factOf_1 : decode cX10_factOf 1 = .ok (.tableswitch 58 117 123 #[43, 45, 47, 49, 51, 53, 55], 43) := gdX10_factOf_0.2.1
theorem dX10_factOf_59 : decode cX10_factOf 59 = .ok (.iconst (-1), 1) := gdX10_factOf_0.2.2.1
theorem dX10_factOf_60 : decode cX10_factOf 60 = .ok (.ireturn, 1) := gdX10_factOf_0.2.2.2.1
theorem dX10_factOf_44 : decode cX10_factOf 44 = .ok (.iconst 0, 1) := gdX10_factOf_0.2.2.2.2.1
theorem dX10_factOf_45 : decode cX10_factOf 45 = .ok (.ireturn, 1) := gdX10_factOf_0.2.2.2.2.2.1
theorem dX10_factOf_46 : decode cX10_factOf 46 = .ok (.iconst 1, 1) := gdX10_factOf_0.2.2.2.2.2.2.1
theorem dX10_factOf_47 : decode cX10_factOf 47 = .ok (.ireturn, 1) := gdX10_factOf_0.2.2.2.2.2.2.2.1
theorem dX10_factOf_48 : decode cX10_factOf 48 = .ok (.iconst 2, 1) := gdX10_factOf_0.2.2.2.2.2.2.2.2.1
theorem dX10_factOf_49 : decode cX10_factOf 49 = .ok (.ireturn, 1) := gdX10_factOf_0.2.2.2.2.2.2.2.2.2.1
theorem dX10_factOf_50 : decode cX10_factOf 50 = .ok (.iconst 3, 1) := gdX10_factOf_0.2.2.2.2.2.2.2.2.2.2.1
theorem dX10_factOf_51 : decode cX10_factOf 51 = .ok (.ireturn, 1) := gdX10_factOf_0.2.2.2.2.2.2.2.2.2.2.2
theorem gdX10_factOf_52 : decode cX10_factOf 52 = .ok (.iconst 4, 1) ∧ decode cX10_factOf 53 = .ok (.ireturn, 1) ∧ decode cX10_factOf 54 = .ok (.iconst 5, 1) ∧ decode cX10_factOf 55 = .ok (.ireturn, 1) ∧ decode cX10_factOf 56 = .ok (.bipush 6, 2) ∧ decode cX10_factOf 58 = .ok (.ireturn, 1) := by decide +kernel
theorem dX10_factOf_52 : decode cX10_factOf 52 = .ok (.iconst 4, 1) := gdX10_factOf_52.1
theorem dX10_factOf_53 : decode cX10_factOf 53 = .ok (.ireturn, 1) := gdX10_factOf_52.2.1
theorem dX10_factOf_54 : decode cX10_factOf 54 = .ok (.iconst 5, 1) := gdX10_factOf_52.2.2.1
theorem dX10_factOf_55 : decode cX10_factOf 55 = .ok (.ireturn, 1) := gdX10_factOf_52.2.2.2.1
theorem dX10_factOf_56 : decode cX10_factOf 56 = .ok (.bipush 6, 2) := gdX10_factOf_52.2.2.2.2.1
theorem dX10_factOf_58 : decode cX10_factOf 58 = .ok (.ireturn, 1) := gdX10_factOf_52.2.2.2.2.2
set_option maxHeartbeats 1000000 in
set_option maxRecDepth 100000 in
theorem s_factOf (l : Launch) (D : va_G) (cy : Nat → ClassId) (kd : Nat) (hkd : kd ≤ 123) : XMi l D (tyL cy) E0 yX10_factOf cX10_factOf 1 (some .int) (rmk 0 0 0) [.int (nI kd)] [] (fun (r : Int32) (jr : Nat) => ((r = nI jr ∧ (jr ≤ 6) ∧ (117 ≤ kd)) ∨ (r = -1 ∧ (¬ 117 ≤ kd)))) (fun (jr : Nat) => []) := by
  refine XMi.start (by decide) (Nat.le_of_ble_eq_true rfl) ?_
  intro p e s m below meth c args A ls Q hat hQ
  obtain ⟨hx, hb, hr, hml, hown, hg, hlocks, hin, hK, hA, hP, hD, hS, hE, hl⟩ := hat
  have hown : s.vm.findClass RX10 = some m.cls := hown
  have hl : lv_has ls 1 [(0, .int (nI kd))] := hl
  refine lv_iload_n hx hb dX10_factOf_0 rfl (lv_at hl 0 rfl) ?_
  rcases (show (kd < 117 ∨ 123 < kd) ∨ kd = 117 ∨ kd = 118 ∨ kd = 119 ∨ kd = 120 ∨ kd = 121 ∨ kd = 122 ∨ kd = 123 by omega) with hs | hs | hs | hs | hs | hs | hs | hs
  · refine lv_tableOut (tgt := 59) hx hb dX10_factOf_1 (by rw [nI_toInt (by omega)]; omega) (by decide) ?_
    refine lv_iconst (v := -1) hx hb dX10_factOf_59 (by decide) ?_
    exact x_iret hQ hx hb hr hlocks hK hP hD hS dX10_factOf_60 0 ((show ((-1 : Int32) = nI 0 ∧ (0 ≤ 6) ∧ (117 ≤ kd)) ∨ ((-1 : Int32) = -1 ∧ (¬ 117 ≤ kd)) from Or.inr (⟨rfl, (by omega)⟩))) [] (by decide +kernel) rfl (Nat.le_of_ble_eq_true rfl) (Nat.le_of_ble_eq_true rfl)
  · have hz9 : (nI kd).toInt = 117 := by rw [nI_toInt (by omega)]; omega
    refine lv_tableIn (off := 43) (tgt := 44) hx hb dX10_factOf_1 (by rw [hz9]; decide) (by rw [hz9]; decide) (by rw [hz9]; decide) (by decide) ?_
    refine lv_iconst (v := 0) hx hb dX10_factOf_44 (by decide) ?_
    exact x_iret hQ hx hb hr hlocks hK hP hD hS dX10_factOf_45 0 ((show ((0 : Int32) = nI 0 ∧ (0 ≤ 6) ∧ (117 ≤ kd)) ∨ ((0 : Int32) = -1 ∧ (¬ 117 ≤ kd)) from Or.inl ⟨rfl, (by decide), (by omega)⟩)) [] (by decide +kernel) rfl (Nat.le_of_ble_eq_true rfl) (Nat.le_of_ble_eq_true rfl)
  · have hz9 : (nI kd).toInt = 118 := by rw [nI_toInt (by omega)]; omega
    refine lv_tableIn (off := 45) (tgt := 46) hx hb dX10_factOf_1 (by rw [hz9]; decide) (by rw [hz9]; decide) (by rw [hz9]; decide) (by decide) ?_
    refine lv_iconst (v := 1) hx hb dX10_factOf_46 (by decide) ?_
    exact x_iret hQ hx hb hr hlocks hK hP hD hS dX10_factOf_47 1 ((show ((1 : Int32) = nI 1 ∧ (1 ≤ 6) ∧ (117 ≤ kd)) ∨ ((1 : Int32) = -1 ∧ (¬ 117 ≤ kd)) from Or.inl ⟨rfl, (by decide), (by omega)⟩)) [] (by decide +kernel) rfl (Nat.le_of_ble_eq_true rfl) (Nat.le_of_ble_eq_true rfl)
  · have hz9 : (nI kd).toInt = 119 := by rw [nI_toInt (by omega)]; omega
    refine lv_tableIn (off := 47) (tgt := 48) hx hb dX10_factOf_1 (by rw [hz9]; decide) (by rw [hz9]; decide) (by rw [hz9]; decide) (by decide) ?_
    refine lv_iconst (v := 2) hx hb dX10_factOf_48 (by decide) ?_
    exact x_iret hQ hx hb hr hlocks hK hP hD hS dX10_factOf_49 2 ((show ((2 : Int32) = nI 2 ∧ (2 ≤ 6) ∧ (117 ≤ kd)) ∨ ((2 : Int32) = -1 ∧ (¬ 117 ≤ kd)) from Or.inl ⟨rfl, (by decide), (by omega)⟩)) [] (by decide +kernel) rfl (Nat.le_of_ble_eq_true rfl) (Nat.le_of_ble_eq_true rfl)
  · have hz9 : (nI kd).toInt = 120 := by rw [nI_toInt (by omega)]; omega
    refine lv_tableIn (off := 49) (tgt := 50) hx hb dX10_factOf_1 (by rw [hz9]; decide) (by rw [hz9]; decide) (by rw [hz9]; decide) (by decide) ?_
    refine lv_iconst (v := 3) hx hb dX10_factOf_50 (by decide) ?_
    exact x_iret hQ hx hb hr hlocks hK hP hD hS dX10_factOf_51 3 ((show ((3 : Int32) = nI 3 ∧ (3 ≤ 6) ∧ (117 ≤ kd)) ∨ ((3 : Int32) = -1 ∧ (¬ 117 ≤ kd)) from Or.inl ⟨rfl, (by decide), (by omega)⟩)) [] (by decide +kernel) rfl (Nat.le_of_ble_eq_true rfl) (Nat.le_of_ble_eq_true rfl)
  · have hz9 : (nI kd).toInt = 121 := by rw [nI_toInt (by omega)]; omega
    refine lv_tableIn (off := 51) (tgt := 52) hx hb dX10_factOf_1 (by rw [hz9]; decide) (by rw [hz9]; decide) (by rw [hz9]; decide) (by decide) ?_
    refine lv_iconst (v := 4) hx hb dX10_factOf_52 (by decide) ?_
    exact x_iret hQ hx hb hr hlocks hK hP hD hS dX10_factOf_53 4 ((show ((4 : Int32) = nI 4 ∧ (4 ≤ 6) ∧ (117 ≤ kd)) ∨ ((4 : Int32) = -1 ∧ (¬ 117 ≤ kd)) from Or.inl ⟨rfl, (by decide), (by omega)⟩)) [] (by decide +kernel) rfl (Nat.le_of_ble_eq_true rfl) (Nat.le_of_ble_eq_true rfl)
  · have hz9 : (nI kd).toInt = 122 := by rw [nI_toInt (by omega)]; omega
    refine lv_tableIn (off := 53) (tgt := 54) hx hb dX10_factOf_1 (by rw [hz9]; decide) (by rw [hz9]; decide) (by rw [hz9]; decide) (by decide) ?_
    refine lv_iconst (v := 5) hx hb dX10_factOf_54 (by decide) ?_
    exact x_iret hQ hx hb hr hlocks hK hP hD hS dX10_factOf_55 5 ((show ((5 : Int32) = nI 5 ∧ (5 ≤ 6) ∧ (117 ≤ kd)) ∨ ((5 : Int32) = -1 ∧ (¬ 117 ≤ kd)) from Or.inl ⟨rfl, (by decide), (by omega)⟩)) [] (by decide +kernel) rfl (Nat.le_of_ble_eq_true rfl) (Nat.le_of_ble_eq_true rfl)
  · have hz9 : (nI kd).toInt = 123 := by rw [nI_toInt (by omega)]; omega
    refine lv_tableIn (off := 55) (tgt := 56) hx hb dX10_factOf_1 (by rw [hz9]; decide) (by rw [hz9]; decide) (by rw [hz9]; decide) (by decide) ?_
    refine lv_bipush (v := 6) hx hb dX10_factOf_56 (by decide) ?_
    exact x_iret hQ hx hb hr hlocks hK hP hD hS dX10_factOf_58 6 ((show ((6 : Int32) = nI 6 ∧ (6 ≤ 6) ∧ (117 ≤ kd)) ∨ ((6 : Int32) = -1 ∧ (¬ 117 ≤ kd)) from Or.inl ⟨rfl, (by decide), (by omega)⟩)) [] (by decide +kernel) rfl (Nat.le_of_ble_eq_true rfl) (Nat.le_of_ble_eq_true rfl)
theorem gdX10_takeInner_0 : decode cX10_takeInner 0 = .ok (.iload_n 1, 1) ∧ decode cX10_takeInner 1 = .ok (.bipush 7, 2) ∧ decode cX10_takeInner 3 = .ok (.if_icmp .lt 9, 3) ∧ decode cX10_takeInner 6 = .ok (.aload_n 0, 1) ∧ decode cX10_takeInner 7 = .ok (.iconst 2, 1) ∧ decode cX10_takeInner 8 = .ok (.invokevirtual 110, 3) ∧ decode cX10_takeInner 11 = .ok (.ireturn, 1) := by decide +kernel
theorem dX10_takeInner_0 : decode cX10_takeInner 0 = .ok (.iload_n 1, 1) := gdX10_takeInner_0.1
theorem dX10_takeInner_1 : decode cX10_takeInner 1 = .ok (.bipush 7, 2) := gdX10_takeInner_0.2.1
theorem dX10_takeInner_3 : decode cX10_takeInner 3 = .ok (.if_icmp .lt 9, 3) := gdX10_takeInner_0.2.2.1
theorem dX10_takeInner_6 : decode cX10_takeInner 6 = .ok (.aload_n 0, 1) := gdX10_takeInner_0.2.2.2.1
theorem dX10_takeInner_7 : decode cX10_takeInner 7 = .ok (.iconst 2, 1) := gdX10_takeInner_0.2.2.2.2.1
theorem dX10_takeInner_8 : decode cX10_takeInner 8 = .ok (.invokevirtual 110, 3) := gdX10_takeInner_0.2.2.2.2.2.1
theorem dX10_takeInner_11 : decode cX10_takeInner 11 = .ok (.ireturn, 1) := gdX10_takeInner_0.2.2.2.2.2.2
set_option maxHeartbeats 1000000 in
set_option maxRecDepth 100000 in
theorem s_takeInner7 (l : Launch) (D : va_G) (cy : Nat → ClassId) (adK : Nat → Nat) (adV : Nat → Nat) (d0 : Nat) (d1 : Nat) (wt : Int32) (dt : Int32) (vv : Int32) (fq : Int32) (pq : Int32) (t0 : Nat) (t1 : Nat) (t2 : Nat) (tn : Nat) (ta : Nat) (ts : Nat) (tk : Nat) (tm : Int64) (tr : Int32) (fby : Nat → Int32) (fky : Nat → Int64) (h0 : Nat) (h1 : Nat) (h2 : Nat) (h3 : Nat) (h4 : Nat) (h5 : Nat) (h6 : Nat) (h7 : Nat) (h8 : Nat) (h9 : Nat) (h10 : Nat) (h11 : Nat) (hv0 : Value) (hv1 : Value) (hv2 : Value) (hv3 : Value) (ow : Nat) (un : Nat) (f0 : Nat) (f1 : Nat) (f2 : Nat) (nf : Nat) (y3 : Value) (fco : Nat → Int32) (ga : Nat) (htn : tn ≤ 1600) (hta : ta ≤ tn) (htk : tk ≤ 123) (hti : tkC fby tn ga ta ts tk tm tr) (hky : kyOK fky) (hnf : nf ≤ 280) (hfc : cOK fco nf) (how : ow ≤ 30) (hun : un ≤ 60) (hga : ga ≤ tn) (h40 : tk = 40) : XMi l D (tyL cy) (EV adK adV) yX10_takeInner cX10_takeInner 2 (some .boolean) (rmk 1 0 0) [.ref d0, .int 7] [wO d0 10 [.ref t0, .ref d1, .ref h0, .ref f0, .int (nI ow), .int wt, .int dt, .int vv, .int fq, .int pq], wO t0 9 [.ref t1, .ref t2, .int (nI tn), .int (nI ta), .int (nI ts), .int (nI tk), .long tm, .int tr], wI (cy 0) t1 1600 (fby), (t2, .inl (cy 2, 24, .inr (.inl (fky)))), wO h0 4 [.ref h1, .ref h2, .ref h3, .ref h4, .ref h5, .ref h6, .ref h7, .ref h8, .ref h9, .ref h10, .ref h11, hv0, hv1, hv2, hv3, .int (nI un)], wO f0 3 [.ref f1, .ref f2, .int (nI nf), y3], wI (cy 1) f1 280 (fco)] (fun (r : Int32) (u : Nat × Nat × Nat × Int64 × Int32 × Int32 × Int32 × Nat × Nat × Nat × (Nat → Int32) × Nat) => (u.1 ≤ tn) ∧ (u.2.2.1 ≤ 123) ∧ (u.2.2.2.2.2.2.2.2.2.1 ≤ 280) ∧ (cOK u.2.2.2.2.2.2.2.2.2.2.1 u.2.2.2.2.2.2.2.2.2.1) ∧ (u.2.2.2.2.2.2.2.1 ≤ 30) ∧ (u.2.2.2.2.2.2.2.2.1 ≤ 60) ∧ ((r = 1 ∧ (∀ o9 u9 : Nat, ow = o9 + 1 → un = u9 + 1 → ¬ (u9 = 60 ∨ o9 = 30) → okS (knd fby tn) (fin fby tn) 7 7 ga o9 u9 u.2.2.2.2.2.2.2.2.2.2.2 u.2.2.2.2.2.2.2.1 u.2.2.2.2.2.2.2.2.1) ∧ (fq = u.2.2.2.2.2.1) ∧ (pq = u.2.2.2.2.2.2.1) ∧ (tkC fby tn u.2.2.2.2.2.2.2.2.2.2.2 u.1 u.2.1 u.2.2.1 u.2.2.2.1 u.2.2.2.2.1) ∧ (ga < u.2.2.2.2.2.2.2.2.2.2.2 ∧ u.2.2.2.2.2.2.2.2.2.2.2 ≤ tn)) ∨ (r = 0 ∧ (∀ o9 u9 : Nat, ow = o9 + 1 → un = u9 + 1 → ¬ (u9 = 60 ∨ o9 = 30) → noS (knd fby tn) (fin fby tn) 7 7 ga o9 u9 u.2.2.2.2.2.2.2.2.2.2.2) ∧ (flt fby tn u.2.2.2.2.2.2.2.2.2.2.2 2 u.2.2.2.2.2.1 u.2.2.2.2.2.2.1)))) (fun (u : Nat × Nat × Nat × Int64 × Int32 × Int32 × Int32 × Nat × Nat × Nat × (Nat → Int32) × Nat) => [wO d0 10 [.ref t0, .ref d1, .ref h0, .ref f0, .int (nI u.2.2.2.2.2.2.2.1), .int wt, .int dt, .int vv, .int u.2.2.2.2.2.1, .int u.2.2.2.2.2.2.1], wO t0 9 [.ref t1, .ref t2, .int (nI tn), .int (nI u.1), .int (nI u.2.1), .int (nI u.2.2.1), .long u.2.2.2.1, .int u.2.2.2.2.1], wI (cy 0) t1 1600 (fby), (t2, .inl (cy 2, 24, .inr (.inl (fky)))), wO h0 4 [.ref h1, .ref h2, .ref h3, .ref h4, .ref h5, .ref h6, .ref h7, .ref h8, .ref h9, .ref h10, .ref h11, hv0, hv1, hv2, hv3, .int (nI u.2.2.2.2.2.2.2.2.1)], wO f0 3 [.ref f1, .ref f2, .int (nI u.2.2.2.2.2.2.2.2.2.1), y3], wI (cy 1) f1 280 (u.2.2.2.2.2.2.2.2.2.2.1)]) := by
  refine XMi.start (by decide) (Nat.le_of_ble_eq_true rfl) ?_
  intro p e s m below meth c args A ls Q hat hQ
  obtain ⟨hx, hb, hr, hml, hown, hg, hlocks, hin, hK, hA, hP, hD, hS, hE, hl⟩ := hat
  have hown : s.vm.findClass RX10 = some m.cls := hown
  have hl : lv_has ls 2 [(0, .ref d0), (1, .int 7)] := hl
  have hk40 : knd fby tn ga = 40 := by have h9 := hti.2.2.1; omega
  refine lv_iload_n hx hb dX10_takeInner_0 rfl (lv_at hl 1 rfl) ?_
  refine lv_bipush (v := 7) hx hb dX10_takeInner_1 (by decide) ?_
  refine lv_icmp_lt (tgt := 12) hx hb dX10_takeInner_3 (by decide) (fun h => absurd h (by decide)) (fun _ => ?_)
  refine lv_aload_n hx hb dX10_takeInner_6 rfl (lv_at hl 0 rfl) ?_
  refine lv_iconst (v := 2) hx hb dX10_takeInner_7 (by decide) ?_
  refine x_callVi (q := (RX10, TX10, 10)) (ci := 10) (q0 := 0) (wr := [wI (cy 0) t1 1600 (fby), (t2, .inl (cy 2, 24, .inr (.inl (fky)))), wO h0 4 [.ref h1, .ref h2, .ref h3, .ref h4, .ref h5, .ref h6, .ref h7, .ref h8, .ref h9, .ref h10, .ref h11, hv0, hv1, hv2, hv3, .int (nI un)], wO f0 3 [.ref f1, .ref f2, .int (nI nf), y3], wI (cy 1) f1 280 (fco)]) (rest := []) ⟨hx, hb, hml, hown, hg, hl.1⟩ k_X10_110 (s_fail l D cy d0 d1 (nI ow) wt dt vv fq pq ((.ref h0)) ((.ref f0)) t0 t1 t2 tn ta ts tk tm tr 2 (by omega)) E0_blind hK hP hD hS hA [0, 1] [2, 3, 4, 5, 6] ⟨rfl, rfl, by decide +kernel, by decide +kernel, by decide +kernel⟩ rfl rfl (fun _ _ _ => trivial) dX10_takeInner_8 rfl rfl (Nat.le_of_ble_eq_true rfl) ⟨Nat.le_of_ble_eq_true rfl, Nat.le_of_ble_eq_true rfl⟩ ⟨Nat.le_of_ble_eq_true rfl, Nat.le_of_ble_eq_true rfl⟩ (fun zr1 zu1 H locs hw1 hP9 hD9 hS9 => ?_)
  clear hP hD hS
  obtain ⟨fq2_2, pq2_3⟩ := zu1
  refine reW [wI (cy 0) t1 1600 (fby), (t2, .inl (cy 2, 24, .inr (.inl (fky)))), wO h0 4 [.ref h1, .ref h2, .ref h3, .ref h4, .ref h5, .ref h6, .ref h7, .ref h8, .ref h9, .ref h10, .ref h11, hv0, hv1, hv2, hv3, .int (nI un)], wO f0 3 [.ref f1, .ref f2, .int (nI nf), y3], wI (cy 1) f1 280 (fco), wO d0 10 [.ref t0, .ref d1, .ref h0, .ref f0, .int (nI ow), .int wt, .int dt, .int vv, .int fq2_2, .int pq2_3], wO t0 9 [.ref t1, .ref t2, .int (nI tn), .int (nI ta), .int (nI ts), .int (nI tk), .long tm, .int tr]] hP9 hD9 hS9 (fun hP hD hS => ?_)
  clear hP9 hD9 hS9
  refine W.widen (k := 0) (n := 0) (Nat.le_of_ble_eq_true rfl) (Nat.le_of_ble_eq_true rfl) ?_
  replace hw1 : ((zr1 = 0 ∧ (fq2_2 = nI (if tk = 3 then 1 else 2)) ∧ (pq2_3 = nI ts))) := hw1
  have f_4 := hw1
  rcases f_4 with ⟨hz_7, a_5, a_6⟩
  subst hz_7
  exact x_zret hQ hx hb hr hlocks hK hP hD hS rfl dX10_takeInner_11 (ta, ts, tk, tm, tr, fq2_2, pq2_3, ow, un, nf, fco, ga) (⟨(show ta ≤ tn from by omega), (show tk ≤ 123 from by omega), (show nf ≤ 280 from by omega), hfc, (show ow ≤ 30 from by omega), (show un ≤ 60 from by omega), (show ((0 : Int32) = 1 ∧ (∀ o9 u9 : Nat, ow = o9 + 1 → un = u9 + 1 → ¬ (u9 = 60 ∨ o9 = 30) → okS (knd fby tn) (fin fby tn) 7 7 ga o9 u9 ga ow un) ∧ (fq = fq2_2) ∧ (pq = pq2_3) ∧ (tkC fby tn ga ta ts tk tm tr) ∧ (ga < ga ∧ ga ≤ tn)) ∨ ((0 : Int32) = 0 ∧ (∀ o9 u9 : Nat, ow = o9 + 1 → un = u9 + 1 → ¬ (u9 = 60 ∨ o9 = 30) → noS (knd fby tn) (fin fby tn) 7 7 ga o9 u9 ga) ∧ (flt fby tn ga 2 fq2_2 pq2_3)) from Or.inr (⟨rfl, (fun o9 u9 e1 e2 hf9 => by subst e1 e2; exact unit_deep hk40 (by decide)), (flt_of hti a_5 a_6)⟩))⟩) [5, 6, 0, 1, 2, 3, 4] (by decide +kernel) rfl (Nat.le_of_ble_eq_true rfl) (Nat.le_of_ble_eq_true rfl)
theorem gdX10_takeUnit_0 : decode cX10_takeUnit 0 = .ok (.aload_n 0, 1) ∧ decode cX10_takeUnit 1 = .ok (.getfield 163, 3) ∧ decode cX10_takeUnit 4 = .ok (.bipush 30, 2) ∧ decode cX10_takeUnit 6 = .ok (.if_icmp .ge 15, 3) ∧ decode cX10_takeUnit 21 = .ok (.aload_n 0, 1) ∧ decode cX10_takeUnit 22 = .ok (.iconst 2, 1) ∧ decode cX10_takeUnit 23 = .ok (.invokevirtual 110, 3) ∧ decode cX10_takeUnit 26 = .ok (.ireturn, 1) ∧ decode cX10_takeUnit 9 = .ok (.aload_n 0, 1) ∧ decode cX10_takeUnit 10 = .ok (.getfield 24, 3) ∧ decode cX10_takeUnit 13 = .ok (.getfield 204, 3) ∧ decode cX10_takeUnit 16 = .ok (.bipush 60, 2) := by decide +kernel
theorem dX10_takeUnit_0 : decode cX10_takeUnit 0 = .ok (.aload_n 0, 1) := gdX10_takeUnit_0.1
theorem dX10_takeUnit_1 : decode cX10_takeUnit 1 = .ok (.getfield 163, 3) := gdX10_takeUnit_0.2.1
theorem dX10_takeUnit_4 : decode cX10_takeUnit 4 = .ok (.bipush 30, 2) := gdX10_takeUnit_0.2.2.1
theorem dX10_takeUnit_6 : decode cX10_takeUnit 6 = .ok (.if_icmp .ge 15, 3) := gdX10_takeUnit_0.2.2.2.1
theorem dX10_takeUnit_21 : decode cX10_takeUnit 21 = .ok (.aload_n 0, 1) := gdX10_takeUnit_0.2.2.2.2.1
theorem dX10_takeUnit_22 : decode cX10_takeUnit 22 = .ok (.iconst 2, 1) := gdX10_takeUnit_0.2.2.2.2.2.1
theorem dX10_takeUnit_23 : decode cX10_takeUnit 23 = .ok (.invokevirtual 110, 3) := gdX10_takeUnit_0.2.2.2.2.2.2.1
theorem dX10_takeUnit_26 : decode cX10_takeUnit 26 = .ok (.ireturn, 1) := gdX10_takeUnit_0.2.2.2.2.2.2.2.1
theorem dX10_takeUnit_9 : decode cX10_takeUnit 9 = .ok (.aload_n 0, 1) := gdX10_takeUnit_0.2.2.2.2.2.2.2.2.1
theorem dX10_takeUnit_10 : decode cX10_takeUnit 10 = .ok (.getfield 24, 3) := gdX10_takeUnit_0.2.2.2.2.2.2.2.2.2.1
theorem dX10_takeUnit_13 : decode cX10_takeUnit 13 = .ok (.getfield 204, 3) := gdX10_takeUnit_0.2.2.2.2.2.2.2.2.2.2.1
theorem dX10_takeUnit_16 : decode cX10_takeUnit 16 = .ok (.bipush 60, 2) := gdX10_takeUnit_0.2.2.2.2.2.2.2.2.2.2.2
theorem gdX10_takeUnit_18 : decode cX10_takeUnit 18 = .ok (.if_icmp .lt 9, 3) ∧ decode cX10_takeUnit 27 = .ok (.aload_n 0, 1) ∧ decode cX10_takeUnit 28 = .ok (.dup, 1) ∧ decode cX10_takeUnit 29 = .ok (.getfield 163, 3) ∧ decode cX10_takeUnit 32 = .ok (.iconst 1, 1) ∧ decode cX10_takeUnit 33 = .ok (.iadd, 1) ∧ decode cX10_takeUnit 34 = .ok (.putfield 163, 3) ∧ decode cX10_takeUnit 37 = .ok (.aload_n 0, 1) ∧ decode cX10_takeUnit 38 = .ok (.getfield 24, 3) ∧ decode cX10_takeUnit 41 = .ok (.dup, 1) ∧ decode cX10_takeUnit 42 = .ok (.getfield 204, 3) ∧ decode cX10_takeUnit 45 = .ok (.iconst 1, 1) := by decide +kernel
theorem dX10_takeUnit_18 : decode cX10_takeUnit 18 = .ok (.if_icmp .lt 9, 3) := gdX10_takeUnit_18.1
theorem dX10_takeUnit_27 : decode cX10_takeUnit 27 = .ok (.aload_n 0, 1) := gdX10_takeUnit_18.2.1
theorem dX10_takeUnit_28 : decode cX10_takeUnit 28 = .ok (.dup, 1) := gdX10_takeUnit_18.2.2.1
theorem dX10_takeUnit_29 : decode cX10_takeUnit 29 = .ok (.getfield 163, 3) := gdX10_takeUnit_18.2.2.2.1
theorem dX10_takeUnit_32 : decode cX10_takeUnit 32 = .ok (.iconst 1, 1) := gdX10_takeUnit_18.2.2.2.2.1
theorem dX10_takeUnit_33 : decode cX10_takeUnit 33 = .ok (.iadd, 1) := gdX10_takeUnit_18.2.2.2.2.2.1
theorem dX10_takeUnit_34 : decode cX10_takeUnit 34 = .ok (.putfield 163, 3) := gdX10_takeUnit_18.2.2.2.2.2.2.1
theorem dX10_takeUnit_37 : decode cX10_takeUnit 37 = .ok (.aload_n 0, 1) := gdX10_takeUnit_18.2.2.2.2.2.2.2.1
theorem dX10_takeUnit_38 : decode cX10_takeUnit 38 = .ok (.getfield 24, 3) := gdX10_takeUnit_18.2.2.2.2.2.2.2.2.1
theorem dX10_takeUnit_41 : decode cX10_takeUnit 41 = .ok (.dup, 1) := gdX10_takeUnit_18.2.2.2.2.2.2.2.2.2.1
theorem dX10_takeUnit_42 : decode cX10_takeUnit 42 = .ok (.getfield 204, 3) := gdX10_takeUnit_18.2.2.2.2.2.2.2.2.2.2.1
theorem dX10_takeUnit_45 : decode cX10_takeUnit 45 = .ok (.iconst 1, 1) := gdX10_takeUnit_18.2.2.2.2.2.2.2.2.2.2.2
theorem gdX10_takeUnit_46 : decode cX10_takeUnit 46 = .ok (.iadd, 1) ∧ decode cX10_takeUnit 47 = .ok (.putfield 204, 3) ∧ decode cX10_takeUnit 50 = .ok (.aload_n 0, 1) ∧ decode cX10_takeUnit 51 = .ok (.getfield 16, 3) ∧ decode cX10_takeUnit 54 = .ok (.getfield 55, 3) ∧ decode cX10_takeUnit 57 = .ok (.bipush 40, 2) ∧ decode cX10_takeUnit 59 = .ok (.if_icmp .ne 9, 3) ∧ decode cX10_takeUnit 68 = .ok (.aload_n 0, 1) ∧ decode cX10_takeUnit 69 = .ok (.getfield 16, 3) ∧ decode cX10_takeUnit 72 = .ok (.getfield 55, 3) ∧ decode cX10_takeUnit 75 = .ok (.invokestatic 210, 3) := by decide +kernel
theorem dX10_takeUnit_46 : decode cX10_takeUnit 46 = .ok (.iadd, 1) := gdX10_takeUnit_46.1
theorem dX10_takeUnit_47 : decode cX10_takeUnit 47 = .ok (.putfield 204, 3) := gdX10_takeUnit_46.2.1
theorem dX10_takeUnit_50 : decode cX10_takeUnit 50 = .ok (.aload_n 0, 1) := gdX10_takeUnit_46.2.2.1
theorem dX10_takeUnit_51 : decode cX10_takeUnit 51 = .ok (.getfield 16, 3) := gdX10_takeUnit_46.2.2.2.1
theorem dX10_takeUnit_54 : decode cX10_takeUnit 54 = .ok (.getfield 55, 3) := gdX10_takeUnit_46.2.2.2.2.1
theorem dX10_takeUnit_57 : decode cX10_takeUnit 57 = .ok (.bipush 40, 2) := gdX10_takeUnit_46.2.2.2.2.2.1
theorem dX10_takeUnit_59 : decode cX10_takeUnit 59 = .ok (.if_icmp .ne 9, 3) := gdX10_takeUnit_46.2.2.2.2.2.2.1
theorem dX10_takeUnit_68 : decode cX10_takeUnit 68 = .ok (.aload_n 0, 1) := gdX10_takeUnit_46.2.2.2.2.2.2.2.1
theorem dX10_takeUnit_69 : decode cX10_takeUnit 69 = .ok (.getfield 16, 3) := gdX10_takeUnit_46.2.2.2.2.2.2.2.2.1
theorem dX10_takeUnit_72 : decode cX10_takeUnit 72 = .ok (.getfield 55, 3) := gdX10_takeUnit_46.2.2.2.2.2.2.2.2.2.1
theorem dX10_takeUnit_75 : decode cX10_takeUnit 75 = .ok (.invokestatic 210, 3) := gdX10_takeUnit_46.2.2.2.2.2.2.2.2.2.2
theorem k_X10_210 : xS RX10 210 yX10_factOf cX10_factOf 1 (some .int) 1 := ⟨⟨m_903, m_904, m_136, m_905⟩, by decide, by decide, by decide +kernel⟩
theorem gdX10_takeUnit_78 : decode cX10_takeUnit 78 = .ok (.istore_n 2, 1) ∧ decode cX10_takeUnit 79 = .ok (.iload_n 2, 1) ∧ decode cX10_takeUnit 80 = .ok (.iconst (-1), 1) ∧ decode cX10_takeUnit 81 = .ok (.if_icmp .eq 14, 3) ∧ decode cX10_takeUnit 84 = .ok (.aload_n 0, 1) ∧ decode cX10_takeUnit 85 = .ok (.getfield 34, 3) ∧ decode cX10_takeUnit 88 = .ok (.iload_n 2, 1) ∧ decode cX10_takeUnit 89 = .ok (.invokevirtual 213, 3) := by decide +kernel
theorem dX10_takeUnit_78 : decode cX10_takeUnit 78 = .ok (.istore_n 2, 1) := gdX10_takeUnit_78.1
theorem dX10_takeUnit_79 : decode cX10_takeUnit 79 = .ok (.iload_n 2, 1) := gdX10_takeUnit_78.2.1
theorem dX10_takeUnit_80 : decode cX10_takeUnit 80 = .ok (.iconst (-1), 1) := gdX10_takeUnit_78.2.2.1
theorem dX10_takeUnit_81 : decode cX10_takeUnit 81 = .ok (.if_icmp .eq 14, 3) := gdX10_takeUnit_78.2.2.2.1
theorem dX10_takeUnit_84 : decode cX10_takeUnit 84 = .ok (.aload_n 0, 1) := gdX10_takeUnit_78.2.2.2.2.1
theorem dX10_takeUnit_85 : decode cX10_takeUnit 85 = .ok (.getfield 34, 3) := gdX10_takeUnit_78.2.2.2.2.2.1
theorem dX10_takeUnit_88 : decode cX10_takeUnit 88 = .ok (.iload_n 2, 1) := gdX10_takeUnit_78.2.2.2.2.2.2.1
theorem dX10_takeUnit_89 : decode cX10_takeUnit 89 = .ok (.invokevirtual 213, 3) := gdX10_takeUnit_78.2.2.2.2.2.2.2
theorem k_X10_213 : xV RX10 RX3 213 yX3_addFact cX3_addFact 2 none 1 := ⟨⟨m_906, m_907, m_908, m_138, m_909⟩, rfl, by decide, by decide, by decide +kernel⟩
theorem gdX10_takeUnit_92 : decode cX10_takeUnit 92 = .ok (.goto 37, 3) ∧ decode cX10_takeUnit 129 = .ok (.aload_n 0, 1) ∧ decode cX10_takeUnit 130 = .ok (.getfield 16, 3) ∧ decode cX10_takeUnit 133 = .ok (.invokevirtual 140, 3) ∧ decode cX10_takeUnit 136 = .ok (.iconst 1, 1) ∧ decode cX10_takeUnit 137 = .ok (.ireturn, 1) ∧ decode cX10_takeUnit 95 = .ok (.aload_n 0, 1) ∧ decode cX10_takeUnit 96 = .ok (.getfield 16, 3) ∧ decode cX10_takeUnit 99 = .ok (.getfield 55, 3) ∧ decode cX10_takeUnit 102 = .ok (.iconst 2, 1) ∧ decode cX10_takeUnit 103 = .ok (.if_icmp .ne 20, 3) ∧ decode cX10_takeUnit 123 = .ok (.aload_n 0, 1) := by decide +kernel
theorem dX10_takeUnit_92 : decode cX10_takeUnit 92 = .ok (.goto 37, 3) := gdX10_takeUnit_92.1
theorem dX10_takeUnit_129 : decode cX10_takeUnit 129 = .ok (.aload_n 0, 1) := gdX10_takeUnit_92.2.1
theorem dX10_takeUnit_130 : decode cX10_takeUnit 130 = .ok (.getfield 16, 3) := gdX10_takeUnit_92.2.2.1
theorem dX10_takeUnit_133 : decode cX10_takeUnit 133 = .ok (.invokevirtual 140, 3) := gdX10_takeUnit_92.2.2.2.1
theorem dX10_takeUnit_136 : decode cX10_takeUnit 136 = .ok (.iconst 1, 1) := gdX10_takeUnit_92.2.2.2.2.1
theorem dX10_takeUnit_137 : decode cX10_takeUnit 137 = .ok (.ireturn, 1) := gdX10_takeUnit_92.2.2.2.2.2.1
theorem dX10_takeUnit_95 : decode cX10_takeUnit 95 = .ok (.aload_n 0, 1) := gdX10_takeUnit_92.2.2.2.2.2.2.1
theorem dX10_takeUnit_96 : decode cX10_takeUnit 96 = .ok (.getfield 16, 3) := gdX10_takeUnit_92.2.2.2.2.2.2.2.1
theorem dX10_takeUnit_99 : decode cX10_takeUnit 99 = .ok (.getfield 55, 3) := gdX10_takeUnit_92.2.2.2.2.2.2.2.2.1
theorem dX10_takeUnit_102 : decode cX10_takeUnit 102 = .ok (.iconst 2, 1) := gdX10_takeUnit_92.2.2.2.2.2.2.2.2.2.1
theorem dX10_takeUnit_103 : decode cX10_takeUnit 103 = .ok (.if_icmp .ne 20, 3) := gdX10_takeUnit_92.2.2.2.2.2.2.2.2.2.2.1
theorem dX10_takeUnit_123 : decode cX10_takeUnit 123 = .ok (.aload_n 0, 1) := gdX10_takeUnit_92.2.2.2.2.2.2.2.2.2.2.2
theorem gdX10_takeUnit_124 : decode cX10_takeUnit 124 = .ok (.iconst 2, 1) ∧ decode cX10_takeUnit 125 = .ok (.invokevirtual 110, 3) ∧ decode cX10_takeUnit 128 = .ok (.ireturn, 1) ∧ decode cX10_takeUnit 106 = .ok (.aload_n 0, 1) ∧ decode cX10_takeUnit 107 = .ok (.getfield 34, 3) ∧ decode cX10_takeUnit 110 = .ok (.aload_n 0, 1) ∧ decode cX10_takeUnit 111 = .ok (.getfield 16, 3) ∧ decode cX10_takeUnit 114 = .ok (.getfield 176, 3) ∧ decode cX10_takeUnit 117 = .ok (.invokevirtual 216, 3) := by decide +kernel
theorem dX10_takeUnit_124 : decode cX10_takeUnit 124 = .ok (.iconst 2, 1) := gdX10_takeUnit_124.1
theorem dX10_takeUnit_125 : decode cX10_takeUnit 125 = .ok (.invokevirtual 110, 3) := gdX10_takeUnit_124.2.1
theorem dX10_takeUnit_128 : decode cX10_takeUnit 128 = .ok (.ireturn, 1) := gdX10_takeUnit_124.2.2.1
theorem dX10_takeUnit_106 : decode cX10_takeUnit 106 = .ok (.aload_n 0, 1) := gdX10_takeUnit_124.2.2.2.1
theorem dX10_takeUnit_107 : decode cX10_takeUnit 107 = .ok (.getfield 34, 3) := gdX10_takeUnit_124.2.2.2.2.1
theorem dX10_takeUnit_110 : decode cX10_takeUnit 110 = .ok (.aload_n 0, 1) := gdX10_takeUnit_124.2.2.2.2.2.1
theorem dX10_takeUnit_111 : decode cX10_takeUnit 111 = .ok (.getfield 16, 3) := gdX10_takeUnit_124.2.2.2.2.2.2.1
theorem dX10_takeUnit_114 : decode cX10_takeUnit 114 = .ok (.getfield 176, 3) := gdX10_takeUnit_124.2.2.2.2.2.2.2.1
theorem dX10_takeUnit_117 : decode cX10_takeUnit 117 = .ok (.invokevirtual 216, 3) := gdX10_takeUnit_124.2.2.2.2.2.2.2.2
theorem k_X10_216 : xV RX10 RX3 216 yX3_addNumber cX3_addNumber 2 none 1 := ⟨⟨m_910, m_911, m_912, m_138, m_913⟩, rfl, by decide, by decide, by decide +kernel⟩
theorem gdX10_takeUnit_120 : decode cX10_takeUnit 120 = .ok (.goto 9, 3) ∧ decode cX10_takeUnit 62 = .ok (.aload_n 0, 1) ∧ decode cX10_takeUnit 63 = .ok (.iload_n 1, 1) ∧ decode cX10_takeUnit 64 = .ok (.invokevirtual 207, 3) := by decide +kernel
theorem dX10_takeUnit_120 : decode cX10_takeUnit 120 = .ok (.goto 9, 3) := gdX10_takeUnit_120.1
theorem dX10_takeUnit_62 : decode cX10_takeUnit 62 = .ok (.aload_n 0, 1) := gdX10_takeUnit_120.2.1
theorem dX10_takeUnit_63 : decode cX10_takeUnit 63 = .ok (.iload_n 1, 1) := gdX10_takeUnit_120.2.2.1
theorem dX10_takeUnit_64 : decode cX10_takeUnit 64 = .ok (.invokevirtual 207, 3) := gdX10_takeUnit_120.2.2.2
theorem k_X10_207 : xV RX10 RX10 207 yX10_takeInner cX10_takeInner 2 (some .boolean) 1 := ⟨⟨m_899, m_901, m_26, m_136, m_902⟩, rfl, by decide, by decide, by decide +kernel⟩
theorem dX10_takeUnit_67 : decode cX10_takeUnit 67 = .ok (.ireturn, 1) := by decide +kernel
set_option maxHeartbeats 1000000 in
set_option maxRecDepth 100000 in
theorem s_takeUnit7 (l : Launch) (D : va_G) (cy : Nat → ClassId) (adK : Nat → Nat) (adV : Nat → Nat) (d0 : Nat) (d1 : Nat) (wt : Int32) (dt : Int32) (vv : Int32) (fq : Int32) (pq : Int32) (t0 : Nat) (t1 : Nat) (t2 : Nat) (tn : Nat) (ta : Nat) (ts : Nat) (tk : Nat) (tm : Int64) (tr : Int32) (fby : Nat → Int32) (fky : Nat → Int64) (h0 : Nat) (h1 : Nat) (h2 : Nat) (h3 : Nat) (h4 : Nat) (h5 : Nat) (h6 : Nat) (h7 : Nat) (h8 : Nat) (h9 : Nat) (h10 : Nat) (h11 : Nat) (hv0 : Value) (hv1 : Value) (hv2 : Value) (hv3 : Value) (ow : Nat) (un : Nat) (f0 : Nat) (f1 : Nat) (f2 : Nat) (nf : Nat) (y3 : Value) (fco : Nat → Int32) (ga : Nat) (htn : tn ≤ 1600) (hta : ta ≤ tn) (htk : tk ≤ 123) (hti : tkC fby tn ga ta ts tk tm tr) (hky : kyOK fky) (hnf : nf ≤ 280) (hfc : cOK fco nf) (how : ow ≤ 30) (hun : un ≤ 60) (hga : ga ≤ tn) : XMi l D (tyL cy) (EV adK adV) yX10_takeUnit cX10_takeUnit 3 (some .boolean) (rmk 7 0 0) [.ref d0, .int 7] [wO d0 10 [.ref t0, .ref d1, .ref h0, .ref f0, .int (nI ow), .int wt, .int dt, .int vv, .int fq, .int pq], wO t0 9 [.ref t1, .ref t2, .int (nI tn), .int (nI ta), .int (nI ts), .int (nI tk), .long tm, .int tr], wI (cy 0) t1 1600 (fby), (t2, .inl (cy 2, 24, .inr (.inl (fky)))), wO h0 4 [.ref h1, .ref h2, .ref h3, .ref h4, .ref h5, .ref h6, .ref h7, .ref h8, .ref h9, .ref h10, .ref h11, hv0, hv1, hv2, hv3, .int (nI un)], wO f0 3 [.ref f1, .ref f2, .int (nI nf), y3], wI (cy 1) f1 280 (fco)] (fun (r : Int32) (u : Nat × Nat × Nat × Int64 × Int32 × Int32 × Int32 × Nat × Nat × Nat × (Nat → Int32) × Nat) => (u.1 ≤ tn) ∧ (u.2.2.1 ≤ 123) ∧ (u.2.2.2.2.2.2.2.2.2.1 ≤ 280) ∧ (cOK u.2.2.2.2.2.2.2.2.2.2.1 u.2.2.2.2.2.2.2.2.2.1) ∧ (u.2.2.2.2.2.2.2.1 ≤ 30) ∧ (u.2.2.2.2.2.2.2.2.1 ≤ 60) ∧ ((r = 1 ∧ (okS (knd fby tn) (fin fby tn) 7 7 ga ow un u.2.2.2.2.2.2.2.2.2.2.2 u.2.2.2.2.2.2.2.1 u.2.2.2.2.2.2.2.2.1) ∧ (fq = u.2.2.2.2.2.1) ∧ (pq = u.2.2.2.2.2.2.1) ∧ (tkC fby tn u.2.2.2.2.2.2.2.2.2.2.2 u.1 u.2.1 u.2.2.1 u.2.2.2.1 u.2.2.2.2.1) ∧ (ga < u.2.2.2.2.2.2.2.2.2.2.2 ∧ u.2.2.2.2.2.2.2.2.2.2.2 ≤ tn)) ∨ (r = 0 ∧ (noS (knd fby tn) (fin fby tn) 7 7 ga ow un u.2.2.2.2.2.2.2.2.2.2.2) ∧ (flt fby tn u.2.2.2.2.2.2.2.2.2.2.2 2 u.2.2.2.2.2.1 u.2.2.2.2.2.2.1)))) (fun (u : Nat × Nat × Nat × Int64 × Int32 × Int32 × Int32 × Nat × Nat × Nat × (Nat → Int32) × Nat) => [wO d0 10 [.ref t0, .ref d1, .ref h0, .ref f0, .int (nI u.2.2.2.2.2.2.2.1), .int wt, .int dt, .int vv, .int u.2.2.2.2.2.1, .int u.2.2.2.2.2.2.1], wO t0 9 [.ref t1, .ref t2, .int (nI tn), .int (nI u.1), .int (nI u.2.1), .int (nI u.2.2.1), .long u.2.2.2.1, .int u.2.2.2.2.1], wI (cy 0) t1 1600 (fby), (t2, .inl (cy 2, 24, .inr (.inl (fky)))), wO h0 4 [.ref h1, .ref h2, .ref h3, .ref h4, .ref h5, .ref h6, .ref h7, .ref h8, .ref h9, .ref h10, .ref h11, hv0, hv1, hv2, hv3, .int (nI u.2.2.2.2.2.2.2.2.1)], wO f0 3 [.ref f1, .ref f2, .int (nI u.2.2.2.2.2.2.2.2.2.1), y3], wI (cy 1) f1 280 (u.2.2.2.2.2.2.2.2.2.2.1)]) := by
  refine XMi.start (by decide) (Nat.le_of_ble_eq_true rfl) ?_
  intro p e s m below meth c args A ls Q hat hQ
  obtain ⟨hx, hb, hr, hml, hown, hg, hlocks, hin, hK, hA, hP, hD, hS, hE, hl⟩ := hat
  have hown : s.vm.findClass RX10 = some m.cls := hown
  have hl : lv_has ls 3 [(0, .ref d0), (1, .int 7)] := hl
  refine lv_aload_n hx hb dX10_takeUnit_0 rfl (lv_at hl 0 rfl) ?_
  refine va_get (D := D) (ci := 10) (v := .int (nI ow)) (C := RX10) (T := TX10) (N := 10) hx hb hg i_X10 hown hK hP 0 rfl rfl 4 (by decide) (hg _ m_259) (fun _ h9 => h9) rfl dX10_takeUnit_1 ?_
  refine lv_bipush (v := 30) hx hb dX10_takeUnit_4 (by decide) ?_
  refine lv_icmp_ge (tgt := 21) hx hb dX10_takeUnit_6 (by decide) (fun c_1 => ?_) (fun c_1 => ?_)
  · have q_2 : 30 ≤ ow := q_le (a := 30) (b := ow) rfl rfl (by omega) (by omega) c_1
    refine lv_aload_n hx hb dX10_takeUnit_21 rfl (lv_at hl 0 rfl) ?_
    refine lv_iconst (v := 2) hx hb dX10_takeUnit_22 (by decide) ?_
    refine x_callVi (q := (RX10, TX10, 10)) (ci := 10) (q0 := 0) (wr := [wI (cy 0) t1 1600 (fby), (t2, .inl (cy 2, 24, .inr (.inl (fky)))), wO h0 4 [.ref h1, .ref h2, .ref h3, .ref h4, .ref h5, .ref h6, .ref h7, .ref h8, .ref h9, .ref h10, .ref h11, hv0, hv1, hv2, hv3, .int (nI un)], wO f0 3 [.ref f1, .ref f2, .int (nI nf), y3], wI (cy 1) f1 280 (fco)]) (rest := []) ⟨hx, hb, hml, hown, hg, hl.1⟩ k_X10_110 (s_fail l D cy d0 d1 (nI ow) wt dt vv fq pq ((.ref h0)) ((.ref f0)) t0 t1 t2 tn ta ts tk tm tr 2 (by omega)) E0_blind hK hP hD hS hA [0, 1] [2, 3, 4, 5, 6] ⟨rfl, rfl, by decide +kernel, by decide +kernel, by decide +kernel⟩ rfl rfl (fun _ _ _ => trivial) dX10_takeUnit_23 rfl rfl (Nat.le_of_ble_eq_true rfl) ⟨Nat.le_of_ble_eq_true rfl, Nat.le_of_ble_eq_true rfl⟩ ⟨Nat.le_of_ble_eq_true rfl, Nat.le_of_ble_eq_true rfl⟩ (fun zr3 zu3 H locs hw3 hP9 hD9 hS9 => ?_)
    clear hP hD hS
    obtain ⟨fq2_4, pq2_5⟩ := zu3
    refine reW [wI (cy 0) t1 1600 (fby), (t2, .inl (cy 2, 24, .inr (.inl (fky)))), wO h0 4 [.ref h1, .ref h2, .ref h3, .ref h4, .ref h5, .ref h6, .ref h7, .ref h8, .ref h9, .ref h10, .ref h11, hv0, hv1, hv2, hv3, .int (nI un)], wO f0 3 [.ref f1, .ref f2, .int (nI nf), y3], wI (cy 1) f1 280 (fco), wO d0 10 [.ref t0, .ref d1, .ref h0, .ref f0, .int (nI ow), .int wt, .int dt, .int vv, .int fq2_4, .int pq2_5], wO t0 9 [.ref t1, .ref t2, .int (nI tn), .int (nI ta), .int (nI ts), .int (nI tk), .long tm, .int tr]] hP9 hD9 hS9 (fun hP hD hS => ?_)
    clear hP9 hD9 hS9
    refine W.widen (k := 0) (n := 0) (Nat.le_of_ble_eq_true rfl) (Nat.le_of_ble_eq_true rfl) ?_
    replace hw3 : ((zr3 = 0 ∧ (fq2_4 = nI (if tk = 3 then 1 else 2)) ∧ (pq2_5 = nI ts))) := hw3
    have f_6 := hw3
    rcases f_6 with ⟨hz_9, a_7, a_8⟩
    subst hz_9
    exact x_zret hQ hx hb hr hlocks hK hP hD hS rfl dX10_takeUnit_26 (ta, ts, tk, tm, tr, fq2_4, pq2_5, ow, un, nf, fco, ga) (⟨(show ta ≤ tn from by omega), (show tk ≤ 123 from by omega), (show nf ≤ 280 from by omega), hfc, (show ow ≤ 30 from by omega), (show un ≤ 60 from by omega), (show ((0 : Int32) = 1 ∧ (okS (knd fby tn) (fin fby tn) 7 7 ga ow un ga ow un) ∧ (fq = fq2_4) ∧ (pq = pq2_5) ∧ (tkC fby tn ga ta ts tk tm tr) ∧ (ga < ga ∧ ga ≤ tn)) ∨ ((0 : Int32) = 0 ∧ (noS (knd fby tn) (fin fby tn) 7 7 ga ow un ga) ∧ (flt fby tn ga 2 fq2_4 pq2_5)) from Or.inr (⟨rfl, (unit_full (by omega)), (flt_of hti a_7 a_8)⟩))⟩) [5, 6, 0, 1, 2, 3, 4] (by decide +kernel) rfl (Nat.le_of_ble_eq_true rfl) (Nat.le_of_ble_eq_true rfl)
  · have q_2 : ow < 30 := q_nle (a := 30) (b := ow) rfl rfl (by omega) (by omega) c_1
    refine lv_aload_n hx hb dX10_takeUnit_9 rfl (lv_at hl 0 rfl) ?_
    refine va_get (D := D) (ci := 10) (v := .ref h0) (C := RX10) (T := TX10) (N := 10) hx hb hg i_X10 hown hK hP 0 rfl rfl 2 (by decide) (hg _ m_257) (fun _ h9 => h9) rfl dX10_takeUnit_10 ?_
    refine va_get (D := D) (ci := 4) (v := .int (nI un)) (C := RX4) (T := TX4) (N := 16) hx hb hg i_X4 hown hK hP 4 rfl rfl 15 (by decide) (hg _ m_382) (fun _ h9 => h9) rfl dX10_takeUnit_13 ?_
    refine lv_bipush (v := 60) hx hb dX10_takeUnit_16 (by decide) ?_
    refine lv_icmp_lt (tgt := 27) hx hb dX10_takeUnit_18 (by decide) (fun c_10 => ?_) (fun c_10 => ?_)
    · have q_11 : un < 60 := q_lt (a := un) (b := 60) rfl rfl (by omega) (by omega) c_10
      refine lv_aload_n hx hb dX10_takeUnit_27 rfl (lv_at hl 0 rfl) ?_
      refine lv_dup hx hb dX10_takeUnit_28 rfl ?_
      refine va_get (D := D) (ci := 10) (v := .int (nI ow)) (C := RX10) (T := TX10) (N := 10) hx hb hg i_X10 hown hK hP 0 rfl rfl 4 (by decide) (hg _ m_259) (fun _ h9 => h9) rfl dX10_takeUnit_29 ?_
      refine lv_iconst (v := 1) hx hb dX10_takeUnit_32 (by decide) ?_
      refine lv_iadd hx hb dX10_takeUnit_33 ?_
      refine lv_topi (fun y_12 hy_12 => ?_)
      obtain rfl : y_12 = nI (ow + 1) := hy_12.trans (nI_add ow 1)
      refine va_put (D := D) (ci := 10) (v := .int (nI (ow + 1))) (ty := .int) (C := RX10) (T := TX10) (N := 10) hx hb hg i_X10 tyX10 tyX10_ok nmX10 hown hK hP hD hS 0 rfl rfl 4 (by decide) (hg _ m_259) (fun _ h9 => h9) rfl (by decide +kernel) rfl rfl (Nat.le_of_ble_eq_true rfl) dX10_takeUnit_34 (fun H locs hP9 hD9 hS9 => ?_)
      clear hP hD hS
      refine reW [wO d0 10 [.ref t0, .ref d1, .ref h0, .ref f0, .int (nI (ow + 1)), .int wt, .int dt, .int vv, .int fq, .int pq], wO t0 9 [.ref t1, .ref t2, .int (nI tn), .int (nI ta), .int (nI ts), .int (nI tk), .long tm, .int tr], wI (cy 0) t1 1600 (fby), (t2, .inl (cy 2, 24, .inr (.inl (fky)))), wO h0 4 [.ref h1, .ref h2, .ref h3, .ref h4, .ref h5, .ref h6, .ref h7, .ref h8, .ref h9, .ref h10, .ref h11, hv0, hv1, hv2, hv3, .int (nI un)], wO f0 3 [.ref f1, .ref f2, .int (nI nf), y3], wI (cy 1) f1 280 (fco)] hP9 hD9 hS9 (fun hP hD hS => ?_)
      clear hP9 hD9 hS9
      refine lv_aload_n hx hb dX10_takeUnit_37 rfl (lv_at hl 0 rfl) ?_
      refine va_get (D := D) (ci := 10) (v := .ref h0) (C := RX10) (T := TX10) (N := 10) hx hb hg i_X10 hown hK hP 0 rfl rfl 2 (by decide) (hg _ m_257) (fun _ h9 => h9) rfl dX10_takeUnit_38 ?_
      refine lv_dup hx hb dX10_takeUnit_41 rfl ?_
      refine va_get (D := D) (ci := 4) (v := .int (nI un)) (C := RX4) (T := TX4) (N := 16) hx hb hg i_X4 hown hK hP 4 rfl rfl 15 (by decide) (hg _ m_382) (fun _ h9 => h9) rfl dX10_takeUnit_42 ?_
      refine lv_iconst (v := 1) hx hb dX10_takeUnit_45 (by decide) ?_
      refine lv_iadd hx hb dX10_takeUnit_46 ?_
      refine lv_topi (fun y_13 hy_13 => ?_)
      obtain rfl : y_13 = nI (un + 1) := hy_13.trans (nI_add un 1)
      refine va_put (D := D) (ci := 4) (v := .int (nI (un + 1))) (ty := .int) (C := RX4) (T := TX4) (N := 16) hx hb hg i_X4 tyX4 tyX4_ok nmX4 hown hK hP hD hS 4 rfl rfl 15 (by decide) (hg _ m_382) (fun _ h9 => h9) rfl (by decide +kernel) rfl rfl (Nat.le_of_ble_eq_true rfl) dX10_takeUnit_47 (fun H locs hP9 hD9 hS9 => ?_)
      clear hP hD hS
      refine reW [wO d0 10 [.ref t0, .ref d1, .ref h0, .ref f0, .int (nI (ow + 1)), .int wt, .int dt, .int vv, .int fq, .int pq], wO t0 9 [.ref t1, .ref t2, .int (nI tn), .int (nI ta), .int (nI ts), .int (nI tk), .long tm, .int tr], wI (cy 0) t1 1600 (fby), (t2, .inl (cy 2, 24, .inr (.inl (fky)))), wO h0 4 [.ref h1, .ref h2, .ref h3, .ref h4, .ref h5, .ref h6, .ref h7, .ref h8, .ref h9, .ref h10, .ref h11, hv0, hv1, hv2, hv3, .int (nI (un + 1))], wO f0 3 [.ref f1, .ref f2, .int (nI nf), y3], wI (cy 1) f1 280 (fco)] hP9 hD9 hS9 (fun hP hD hS => ?_)
      clear hP9 hD9 hS9
      refine lv_aload_n hx hb dX10_takeUnit_50 rfl (lv_at hl 0 rfl) ?_
      refine va_get (D := D) (ci := 10) (v := .ref t0) (C := RX10) (T := TX10) (N := 10) hx hb hg i_X10 hown hK hP 0 rfl rfl 0 (by decide) (hg _ m_255) (fun _ h9 => h9) rfl dX10_takeUnit_51 ?_
      refine va_get (D := D) (ci := 9) (v := .int (nI tk)) (C := RX9) (T := TX9) (N := 8) hx hb hg i_X9 hown hK hP 1 rfl rfl 5 (by decide) (hg _ m_222) (fun _ h9 => h9) rfl dX10_takeUnit_54 ?_
      refine lv_bipush (v := 40) hx hb dX10_takeUnit_57 (by decide) ?_
      refine lv_icmp_ne (tgt := 68) hx hb dX10_takeUnit_59 (by decide) (fun c_14 => ?_) (fun c_14 => ?_)
      · have q_15 : ¬ tk = 40 := q_ne (a := tk) (b := 40) rfl rfl (by omega) (by omega) c_14
        refine lv_aload_n hx hb dX10_takeUnit_68 rfl (lv_at hl 0 rfl) ?_
        refine va_get (D := D) (ci := 10) (v := .ref t0) (C := RX10) (T := TX10) (N := 10) hx hb hg i_X10 hown hK hP 0 rfl rfl 0 (by decide) (hg _ m_255) (fun _ h9 => h9) rfl dX10_takeUnit_69 ?_
        refine va_get (D := D) (ci := 9) (v := .int (nI tk)) (C := RX9) (T := TX9) (N := 8) hx hb hg i_X9 hown hK hP 1 rfl rfl 5 (by decide) (hg _ m_222) (fun _ h9 => h9) rfl dX10_takeUnit_72 ?_
        refine x_callSi (wr := [wO d0 10 [.ref t0, .ref d1, .ref h0, .ref f0, .int (nI (ow + 1)), .int wt, .int dt, .int vv, .int fq, .int pq], wO t0 9 [.ref t1, .ref t2, .int (nI tn), .int (nI ta), .int (nI ts), .int (nI tk), .long tm, .int tr], wI (cy 0) t1 1600 (fby), (t2, .inl (cy 2, 24, .inr (.inl (fky)))), wO h0 4 [.ref h1, .ref h2, .ref h3, .ref h4, .ref h5, .ref h6, .ref h7, .ref h8, .ref h9, .ref h10, .ref h11, hv0, hv1, hv2, hv3, .int (nI (un + 1))], wO f0 3 [.ref f1, .ref f2, .int (nI nf), y3], wI (cy 1) f1 280 (fco)]) (rest := []) ⟨hx, hb, hml, hown, hg, hl.1⟩ k_X10_210 (s_factOf l D cy tk (by omega)) E0_blind hK hP hD hS hA [] [0, 1, 2, 3, 4, 5, 6] ⟨rfl, rfl, by decide +kernel, by decide +kernel, by decide +kernel⟩ (fun _ _ _ => trivial) dX10_takeUnit_75 rfl rfl (Nat.le_of_ble_eq_true rfl) ⟨Nat.le_of_ble_eq_true rfl, Nat.le_of_ble_eq_true rfl⟩ ⟨Nat.le_of_ble_eq_true rfl, Nat.le_of_ble_eq_true rfl⟩ (fun zr16 zu16 H locs hw16 hP9 hD9 hS9 => ?_)
        clear hP hD hS
        obtain ⟨jr_17, rfl⟩ : ∃ z, z = zu16 := ⟨_, rfl⟩
        refine reW [wO d0 10 [.ref t0, .ref d1, .ref h0, .ref f0, .int (nI (ow + 1)), .int wt, .int dt, .int vv, .int fq, .int pq], wO t0 9 [.ref t1, .ref t2, .int (nI tn), .int (nI ta), .int (nI ts), .int (nI tk), .long tm, .int tr], wI (cy 0) t1 1600 (fby), (t2, .inl (cy 2, 24, .inr (.inl (fky)))), wO h0 4 [.ref h1, .ref h2, .ref h3, .ref h4, .ref h5, .ref h6, .ref h7, .ref h8, .ref h9, .ref h10, .ref h11, hv0, hv1, hv2, hv3, .int (nI (un + 1))], wO f0 3 [.ref f1, .ref f2, .int (nI nf), y3], wI (cy 1) f1 280 (fco)] hP9 hD9 hS9 (fun hP hD hS => ?_)
        clear hP9 hD9 hS9
        refine W.widen (k := 0) (n := 0) (Nat.le_of_ble_eq_true rfl) (Nat.le_of_ble_eq_true rfl) ?_
        replace hw16 : ((zr16 = nI jr_17 ∧ (jr_17 ≤ 6) ∧ (117 ≤ tk)) ∨ (zr16 = -1 ∧ (¬ 117 ≤ tk))) := hw16
        have f_18 := hw16
        rcases f_18 with ⟨hz_21, a_19, a_20⟩ | ⟨hz_23, a_22⟩
        · subst hz_21
          refine lv_istore_n (lv' := [(2, .int (nI jr_17)), (0, .ref d0), (1, .int 7)]) hx hb dX10_takeUnit_78 rfl hl (by decide) rfl (fun ls hl => ?_)
          refine lv_iload_n hx hb dX10_takeUnit_79 rfl (lv_at hl 0 rfl) ?_
          refine lv_iconst (v := -1) hx hb dX10_takeUnit_80 (by decide) ?_
          refine lv_icmp_eq (tgt := 95) hx hb dX10_takeUnit_81 (by decide) (fun h => absurd h (nI_nneg (by omega) (by decide))) (fun _ => ?_)
          have hk117 : 117 ≤ knd fby tn ga := by have h9 := hti.2.2.1; omega
          refine lv_aload_n hx hb dX10_takeUnit_84 rfl (lv_at hl 1 rfl) ?_
          refine va_get (D := D) (ci := 10) (v := .ref f0) (C := RX10) (T := TX10) (N := 10) hx hb hg i_X10 hown hK hP 0 rfl rfl 3 (by decide) (hg _ m_258) (fun _ h9 => h9) rfl dX10_takeUnit_85 ?_
          refine lv_iload_n hx hb dX10_takeUnit_88 rfl (lv_at hl 0 rfl) ?_
          refine x_callVv (q := (RX3, TX3, 4)) (ci := 3) (q0 := 0) (wr := [wO d0 10 [.ref t0, .ref d1, .ref h0, .ref f0, .int (nI (ow + 1)), .int wt, .int dt, .int vv, .int fq, .int pq], wO t0 9 [.ref t1, .ref t2, .int (nI tn), .int (nI ta), .int (nI ts), .int (nI tk), .long tm, .int tr], wI (cy 0) t1 1600 (fby), (t2, .inl (cy 2, 24, .inr (.inl (fky)))), wO h0 4 [.ref h1, .ref h2, .ref h3, .ref h4, .ref h5, .ref h6, .ref h7, .ref h8, .ref h9, .ref h10, .ref h11, hv0, hv1, hv2, hv3, .int (nI (un + 1))]]) (rest := []) ⟨hx, hb, hml, hown, hg, hl.1⟩ k_X10_213 (s_addFact l D cy f0 f1 f2 nf y3 fco jr_17 (by omega) (hfc) (by omega)) E0_blind hK hP hD hS hA [5, 6] [0, 1, 2, 3, 4] ⟨rfl, rfl, by decide +kernel, by decide +kernel, by decide +kernel⟩ rfl rfl (fun _ _ _ => trivial) dX10_takeUnit_89 rfl rfl (Nat.le_of_ble_eq_true rfl) ⟨Nat.le_of_ble_eq_true rfl, Nat.le_of_ble_eq_true rfl⟩ ⟨Nat.le_of_ble_eq_true rfl, Nat.le_of_ble_eq_true rfl⟩ (fun zu24 H locs hw24 hP9 hD9 hS9 => ?_)
          clear hP hD hS
          obtain ⟨n2_25, fc2_26⟩ := zu24
          refine reW [wO d0 10 [.ref t0, .ref d1, .ref h0, .ref f0, .int (nI (ow + 1)), .int wt, .int dt, .int vv, .int fq, .int pq], wO t0 9 [.ref t1, .ref t2, .int (nI tn), .int (nI ta), .int (nI ts), .int (nI tk), .long tm, .int tr], wI (cy 0) t1 1600 (fby), (t2, .inl (cy 2, 24, .inr (.inl (fky)))), wO h0 4 [.ref h1, .ref h2, .ref h3, .ref h4, .ref h5, .ref h6, .ref h7, .ref h8, .ref h9, .ref h10, .ref h11, hv0, hv1, hv2, hv3, .int (nI (un + 1))], wO f0 3 [.ref f1, .ref f2, .int (nI n2_25), y3], wI (cy 1) f1 280 (fc2_26)] hP9 hD9 hS9 (fun hP hD hS => ?_)
          clear hP9 hD9 hS9
          refine W.widen (k := 0) (n := 0) (Nat.le_of_ble_eq_true rfl) (Nat.le_of_ble_eq_true rfl) ?_
          replace hw24 : (n2_25 ≤ 280) ∧ (cOK fc2_26 n2_25) := hw24
          obtain ⟨f_27, f_28⟩ := hw24
          refine lv_goto (tgt := 129) hx hb dX10_takeUnit_92 (by decide) ?_
          have hgt_29 : ga < fin fby tn ga ∧ fin fby tn ga ≤ tn := ⟨fin_gt (by have h9 := hti.2.2.1; omega), fin_le (by omega)⟩
          refine lv_aload_n hx hb dX10_takeUnit_129 rfl (lv_at hl 1 rfl) ?_
          refine va_get (D := D) (ci := 10) (v := .ref t0) (C := RX10) (T := TX10) (N := 10) hx hb hg i_X10 hown hK hP 0 rfl rfl 0 (by decide) (hg _ m_255) (fun _ h9 => h9) rfl dX10_takeUnit_130 ?_
          refine x_callVv (q := (RX9, TX9, 8)) (ci := 9) (q0 := 0) (wr := [wO d0 10 [.ref t0, .ref d1, .ref h0, .ref f0, .int (nI (ow + 1)), .int wt, .int dt, .int vv, .int fq, .int pq], wO h0 4 [.ref h1, .ref h2, .ref h3, .ref h4, .ref h5, .ref h6, .ref h7, .ref h8, .ref h9, .ref h10, .ref h11, hv0, hv1, hv2, hv3, .int (nI (un + 1))], wO f0 3 [.ref f1, .ref f2, .int (nI n2_25), y3], wI (cy 1) f1 280 (fc2_26)]) (rest := []) ⟨hx, hb, hml, hown, hg, hl.1⟩ k_X10_140 (s_next l D cy adK adV t0 t1 t2 tn ta ts tk tm tr fby fky (fin fby tn ga) (by omega) (by omega) (hti.2.1) (hky)) EV_blind hK hP hD hS hA [1, 2, 3] [0, 4, 5, 6] ⟨rfl, rfl, by decide +kernel, by decide +kernel, by decide +kernel⟩ rfl rfl (fun U hU hW => EV_pass hE hS (va_free hD hS hA [1, 2, 3] rfl) hU hW) dX10_takeUnit_133 rfl rfl (Nat.le_of_ble_eq_true rfl) ⟨Nat.le_of_ble_eq_true rfl, Nat.le_of_ble_eq_true rfl⟩ ⟨Nat.le_of_ble_eq_true rfl, Nat.le_of_ble_eq_true rfl⟩ (fun zu30 H locs hw30 hP9 hD9 hS9 => ?_)
          clear hP hD hS
          obtain ⟨ta2_31, ts2_32, tk2_33, tm2_34, tr2_35⟩ := zu30
          refine reW [wO d0 10 [.ref t0, .ref d1, .ref h0, .ref f0, .int (nI (ow + 1)), .int wt, .int dt, .int vv, .int fq, .int pq], wO h0 4 [.ref h1, .ref h2, .ref h3, .ref h4, .ref h5, .ref h6, .ref h7, .ref h8, .ref h9, .ref h10, .ref h11, hv0, hv1, hv2, hv3, .int (nI (un + 1))], wO f0 3 [.ref f1, .ref f2, .int (nI n2_25), y3], wI (cy 1) f1 280 (fc2_26), wO t0 9 [.ref t1, .ref t2, .int (nI tn), .int (nI ta2_31), .int (nI ts2_32), .int (nI tk2_33), .long tm2_34, .int tr2_35], wI (cy 0) t1 1600 (fby), (t2, .inl (cy 2, 24, .inr (.inl (fky))))] hP9 hD9 hS9 (fun hP hD hS => ?_)
          clear hP9 hD9 hS9
          refine W.widen (k := 0) (n := 0) (Nat.le_of_ble_eq_true rfl) (Nat.le_of_ble_eq_true rfl) ?_
          replace hw30 : (ta2_31 ≤ tn) ∧ (tk2_33 ≤ 123) ∧ (tkC fby tn (fin fby tn ga) ta2_31 ts2_32 tk2_33 tm2_34 tr2_35) := hw30
          obtain ⟨f_36, f_37, f_38⟩ := hw30
          refine lv_iconst (v := 1) hx hb dX10_takeUnit_136 (by decide) ?_
          exact x_zret hQ hx hb hr hlocks hK hP hD hS rfl dX10_takeUnit_137 (ta2_31, ts2_32, tk2_33, tm2_34, tr2_35, fq, pq, (ow + 1), (un + 1), n2_25, fc2_26, fin fby tn ga) (⟨(show ta2_31 ≤ tn from by omega), (show tk2_33 ≤ 123 from by omega), (show n2_25 ≤ 280 from by omega), f_28, (show ((ow + 1)) ≤ 30 from by omega), (show ((un + 1)) ≤ 60 from by omega), (show ((1 : Int32) = 1 ∧ (okS (knd fby tn) (fin fby tn) 7 7 ga ow un (fin fby tn ga) ((ow + 1)) ((un + 1))) ∧ (fq = fq) ∧ (pq = pq) ∧ (tkC fby tn (fin fby tn ga) ta2_31 ts2_32 tk2_33 tm2_34 tr2_35) ∧ (ga < (fin fby tn ga) ∧ (fin fby tn ga) ≤ tn)) ∨ ((1 : Int32) = 0 ∧ (noS (knd fby tn) (fin fby tn) 7 7 ga ow un (fin fby tn ga)) ∧ (flt fby tn (fin fby tn ga) 2 fq pq)) from Or.inl ⟨rfl, (unit_one (by omega) (Or.inr hk117)), (rfl), (rfl), (f_38), (⟨by omega, by omega⟩)⟩)⟩) [0, 4, 5, 6, 1, 2, 3] (by decide +kernel) rfl (Nat.le_of_ble_eq_true rfl) (Nat.le_of_ble_eq_true rfl)
        · subst hz_23
          refine lv_istore_n (lv' := [(2, .int (-1)), (0, .ref d0), (1, .int 7)]) hx hb dX10_takeUnit_78 rfl hl (by decide) rfl (fun ls hl => ?_)
          refine lv_iload_n hx hb dX10_takeUnit_79 rfl (lv_at hl 0 rfl) ?_
          refine lv_iconst (v := -1) hx hb dX10_takeUnit_80 (by decide) ?_
          refine lv_icmp_eq (tgt := 95) hx hb dX10_takeUnit_81 (by decide) (fun _ => ?_) (fun h => absurd (by decide) h)
          refine lv_aload_n hx hb dX10_takeUnit_95 rfl (lv_at hl 1 rfl) ?_
          refine va_get (D := D) (ci := 10) (v := .ref t0) (C := RX10) (T := TX10) (N := 10) hx hb hg i_X10 hown hK hP 0 rfl rfl 0 (by decide) (hg _ m_255) (fun _ h9 => h9) rfl dX10_takeUnit_96 ?_
          refine va_get (D := D) (ci := 9) (v := .int (nI tk)) (C := RX9) (T := TX9) (N := 8) hx hb hg i_X9 hown hK hP 1 rfl rfl 5 (by decide) (hg _ m_222) (fun _ h9 => h9) rfl dX10_takeUnit_99 ?_
          refine lv_iconst (v := 2) hx hb dX10_takeUnit_102 (by decide) ?_
          refine lv_icmp_ne (tgt := 123) hx hb dX10_takeUnit_103 (by decide) (fun c_39 => ?_) (fun c_39 => ?_)
          · have q_40 : ¬ tk = 2 := q_ne (a := tk) (b := 2) rfl rfl (by omega) (by omega) c_39
            refine lv_aload_n hx hb dX10_takeUnit_123 rfl (lv_at hl 1 rfl) ?_
            refine lv_iconst (v := 2) hx hb dX10_takeUnit_124 (by decide) ?_
            refine x_callVi (q := (RX10, TX10, 10)) (ci := 10) (q0 := 0) (wr := [wI (cy 0) t1 1600 (fby), (t2, .inl (cy 2, 24, .inr (.inl (fky)))), wO h0 4 [.ref h1, .ref h2, .ref h3, .ref h4, .ref h5, .ref h6, .ref h7, .ref h8, .ref h9, .ref h10, .ref h11, hv0, hv1, hv2, hv3, .int (nI (un + 1))], wO f0 3 [.ref f1, .ref f2, .int (nI nf), y3], wI (cy 1) f1 280 (fco)]) (rest := []) ⟨hx, hb, hml, hown, hg, hl.1⟩ k_X10_110 (s_fail l D cy d0 d1 (nI (ow + 1)) wt dt vv fq pq ((.ref h0)) ((.ref f0)) t0 t1 t2 tn ta ts tk tm tr 2 (by omega)) E0_blind hK hP hD hS hA [0, 1] [2, 3, 4, 5, 6] ⟨rfl, rfl, by decide +kernel, by decide +kernel, by decide +kernel⟩ rfl rfl (fun _ _ _ => trivial) dX10_takeUnit_125 rfl rfl (Nat.le_of_ble_eq_true rfl) ⟨Nat.le_of_ble_eq_true rfl, Nat.le_of_ble_eq_true rfl⟩ ⟨Nat.le_of_ble_eq_true rfl, Nat.le_of_ble_eq_true rfl⟩ (fun zr41 zu41 H locs hw41 hP9 hD9 hS9 => ?_)
            clear hP hD hS
            obtain ⟨fq2_42, pq2_43⟩ := zu41
            refine reW [wI (cy 0) t1 1600 (fby), (t2, .inl (cy 2, 24, .inr (.inl (fky)))), wO h0 4 [.ref h1, .ref h2, .ref h3, .ref h4, .ref h5, .ref h6, .ref h7, .ref h8, .ref h9, .ref h10, .ref h11, hv0, hv1, hv2, hv3, .int (nI (un + 1))], wO f0 3 [.ref f1, .ref f2, .int (nI nf), y3], wI (cy 1) f1 280 (fco), wO d0 10 [.ref t0, .ref d1, .ref h0, .ref f0, .int (nI (ow + 1)), .int wt, .int dt, .int vv, .int fq2_42, .int pq2_43], wO t0 9 [.ref t1, .ref t2, .int (nI tn), .int (nI ta), .int (nI ts), .int (nI tk), .long tm, .int tr]] hP9 hD9 hS9 (fun hP hD hS => ?_)
            clear hP9 hD9 hS9
            refine W.widen (k := 0) (n := 0) (Nat.le_of_ble_eq_true rfl) (Nat.le_of_ble_eq_true rfl) ?_
            replace hw41 : ((zr41 = 0 ∧ (fq2_42 = nI (if tk = 3 then 1 else 2)) ∧ (pq2_43 = nI ts))) := hw41
            have f_44 := hw41
            rcases f_44 with ⟨hz_47, a_45, a_46⟩
            subst hz_47
            exact x_zret hQ hx hb hr hlocks hK hP hD hS rfl dX10_takeUnit_128 (ta, ts, tk, tm, tr, fq2_42, pq2_43, (ow + 1), (un + 1), nf, fco, ga) (⟨(show ta ≤ tn from by omega), (show tk ≤ 123 from by omega), (show nf ≤ 280 from by omega), hfc, (show ((ow + 1)) ≤ 30 from by omega), (show ((un + 1)) ≤ 60 from by omega), (show ((0 : Int32) = 1 ∧ (okS (knd fby tn) (fin fby tn) 7 7 ga ow un ga ((ow + 1)) ((un + 1))) ∧ (fq = fq2_42) ∧ (pq = pq2_43) ∧ (tkC fby tn ga ta ts tk tm tr) ∧ (ga < ga ∧ ga ≤ tn)) ∨ ((0 : Int32) = 0 ∧ (noS (knd fby tn) (fin fby tn) 7 7 ga ow un ga) ∧ (flt fby tn ga 2 fq2_42 pq2_43)) from Or.inr (⟨rfl, (unit_none (by have h9 := hti.2.2.1; omega) (by have h9 := hti.2.2.1; omega)), (flt_of hti a_45 a_46)⟩))⟩) [5, 6, 0, 1, 2, 3, 4] (by decide +kernel) rfl (Nat.le_of_ble_eq_true rfl) (Nat.le_of_ble_eq_true rfl)
          · have q_40 : tk = 2 := q_eq (a := tk) (b := 2) rfl rfl (by omega) (by omega) c_39
            have hk8 : knd fby tn ga = 2 := by have h9 := hti.2.2.1; omega
            have hn9 : tr = nI (num fby tn ga) := hti.2.2.2.2 (by omega)
            have hn8 := (num_le hk8).1
            subst hn9
            refine lv_aload_n hx hb dX10_takeUnit_106 rfl (lv_at hl 1 rfl) ?_
            refine va_get (D := D) (ci := 10) (v := .ref f0) (C := RX10) (T := TX10) (N := 10) hx hb hg i_X10 hown hK hP 0 rfl rfl 3 (by decide) (hg _ m_258) (fun _ h9 => h9) rfl dX10_takeUnit_107 ?_
            refine lv_aload_n hx hb dX10_takeUnit_110 rfl (lv_at hl 1 rfl) ?_
            refine va_get (D := D) (ci := 10) (v := .ref t0) (C := RX10) (T := TX10) (N := 10) hx hb hg i_X10 hown hK hP 0 rfl rfl 0 (by decide) (hg _ m_255) (fun _ h9 => h9) rfl dX10_takeUnit_111 ?_
            refine va_get (D := D) (ci := 9) (v := .int (nI (num fby tn ga))) (C := RX9) (T := TX9) (N := 8) hx hb hg i_X9 hown hK hP 1 rfl rfl 7 (by decide) (hg _ m_227) (fun _ h9 => h9) rfl dX10_takeUnit_114 ?_
            refine x_callVv (q := (RX3, TX3, 4)) (ci := 3) (q0 := 0) (wr := [wO d0 10 [.ref t0, .ref d1, .ref h0, .ref f0, .int (nI (ow + 1)), .int wt, .int dt, .int vv, .int fq, .int pq], wO t0 9 [.ref t1, .ref t2, .int (nI tn), .int (nI ta), .int (nI ts), .int (nI tk), .long tm, .int (nI (num fby tn ga))], wI (cy 0) t1 1600 (fby), (t2, .inl (cy 2, 24, .inr (.inl (fky)))), wO h0 4 [.ref h1, .ref h2, .ref h3, .ref h4, .ref h5, .ref h6, .ref h7, .ref h8, .ref h9, .ref h10, .ref h11, hv0, hv1, hv2, hv3, .int (nI (un + 1))]]) (rest := []) ⟨hx, hb, hml, hown, hg, hl.1⟩ k_X10_216 (s_addNumber l D cy f0 f1 f2 nf y3 fco ((num fby tn ga)) (by omega) (hfc) (by omega)) E0_blind hK hP hD hS hA [5, 6] [0, 1, 2, 3, 4] ⟨rfl, rfl, by decide +kernel, by decide +kernel, by decide +kernel⟩ rfl rfl (fun _ _ _ => trivial) dX10_takeUnit_117 rfl rfl (Nat.le_of_ble_eq_true rfl) ⟨Nat.le_of_ble_eq_true rfl, Nat.le_of_ble_eq_true rfl⟩ ⟨Nat.le_of_ble_eq_true rfl, Nat.le_of_ble_eq_true rfl⟩ (fun zu48 H locs hw48 hP9 hD9 hS9 => ?_)
            clear hP hD hS
            obtain ⟨n2_49, fc2_50⟩ := zu48
            refine reW [wO d0 10 [.ref t0, .ref d1, .ref h0, .ref f0, .int (nI (ow + 1)), .int wt, .int dt, .int vv, .int fq, .int pq], wO t0 9 [.ref t1, .ref t2, .int (nI tn), .int (nI ta), .int (nI ts), .int (nI tk), .long tm, .int (nI (num fby tn ga))], wI (cy 0) t1 1600 (fby), (t2, .inl (cy 2, 24, .inr (.inl (fky)))), wO h0 4 [.ref h1, .ref h2, .ref h3, .ref h4, .ref h5, .ref h6, .ref h7, .ref h8, .ref h9, .ref h10, .ref h11, hv0, hv1, hv2, hv3, .int (nI (un + 1))], wO f0 3 [.ref f1, .ref f2, .int (nI n2_49), y3], wI (cy 1) f1 280 (fc2_50)] hP9 hD9 hS9 (fun hP hD hS => ?_)
            clear hP9 hD9 hS9
            refine W.widen (k := 0) (n := 0) (Nat.le_of_ble_eq_true rfl) (Nat.le_of_ble_eq_true rfl) ?_
            replace hw48 : (n2_49 ≤ 280) ∧ (cOK fc2_50 n2_49) := hw48
            obtain ⟨f_51, f_52⟩ := hw48
            refine lv_goto (tgt := 129) hx hb dX10_takeUnit_120 (by decide) ?_
            have hgt_53 : ga < fin fby tn ga ∧ fin fby tn ga ≤ tn := ⟨fin_gt (by have h9 := hti.2.2.1; omega), fin_le (by omega)⟩
            refine lv_aload_n hx hb dX10_takeUnit_129 rfl (lv_at hl 1 rfl) ?_
            refine va_get (D := D) (ci := 10) (v := .ref t0) (C := RX10) (T := TX10) (N := 10) hx hb hg i_X10 hown hK hP 0 rfl rfl 0 (by decide) (hg _ m_255) (fun _ h9 => h9) rfl dX10_takeUnit_130 ?_
            refine x_callVv (q := (RX9, TX9, 8)) (ci := 9) (q0 := 0) (wr := [wO d0 10 [.ref t0, .ref d1, .ref h0, .ref f0, .int (nI (ow + 1)), .int wt, .int dt, .int vv, .int fq, .int pq], wO h0 4 [.ref h1, .ref h2, .ref h3, .ref h4, .ref h5, .ref h6, .ref h7, .ref h8, .ref h9, .ref h10, .ref h11, hv0, hv1, hv2, hv3, .int (nI (un + 1))], wO f0 3 [.ref f1, .ref f2, .int (nI n2_49), y3], wI (cy 1) f1 280 (fc2_50)]) (rest := []) ⟨hx, hb, hml, hown, hg, hl.1⟩ k_X10_140 (s_next l D cy adK adV t0 t1 t2 tn ta ts tk tm (nI (num fby tn ga)) fby fky (fin fby tn ga) (by omega) (by omega) (hti.2.1) (hky)) EV_blind hK hP hD hS hA [1, 2, 3] [0, 4, 5, 6] ⟨rfl, rfl, by decide +kernel, by decide +kernel, by decide +kernel⟩ rfl rfl (fun U hU hW => EV_pass hE hS (va_free hD hS hA [1, 2, 3] rfl) hU hW) dX10_takeUnit_133 rfl rfl (Nat.le_of_ble_eq_true rfl) ⟨Nat.le_of_ble_eq_true rfl, Nat.le_of_ble_eq_true rfl⟩ ⟨Nat.le_of_ble_eq_true rfl, Nat.le_of_ble_eq_true rfl⟩ (fun zu54 H locs hw54 hP9 hD9 hS9 => ?_)
            clear hP hD hS
            obtain ⟨ta2_55, ts2_56, tk2_57, tm2_58, tr2_59⟩ := zu54
            refine reW [wO d0 10 [.ref t0, .ref d1, .ref h0, .ref f0, .int (nI (ow + 1)), .int wt, .int dt, .int vv, .int fq, .int pq], wO h0 4 [.ref h1, .ref h2, .ref h3, .ref h4, .ref h5, .ref h6, .ref h7, .ref h8, .ref h9, .ref h10, .ref h11, hv0, hv1, hv2, hv3, .int (nI (un + 1))], wO f0 3 [.ref f1, .ref f2, .int (nI n2_49), y3], wI (cy 1) f1 280 (fc2_50), wO t0 9 [.ref t1, .ref t2, .int (nI tn), .int (nI ta2_55), .int (nI ts2_56), .int (nI tk2_57), .long tm2_58, .int tr2_59], wI (cy 0) t1 1600 (fby), (t2, .inl (cy 2, 24, .inr (.inl (fky))))] hP9 hD9 hS9 (fun hP hD hS => ?_)
            clear hP9 hD9 hS9
            refine W.widen (k := 0) (n := 0) (Nat.le_of_ble_eq_true rfl) (Nat.le_of_ble_eq_true rfl) ?_
            replace hw54 : (ta2_55 ≤ tn) ∧ (tk2_57 ≤ 123) ∧ (tkC fby tn (fin fby tn ga) ta2_55 ts2_56 tk2_57 tm2_58 tr2_59) := hw54
            obtain ⟨f_60, f_61, f_62⟩ := hw54
            refine lv_iconst (v := 1) hx hb dX10_takeUnit_136 (by decide) ?_
            exact x_zret hQ hx hb hr hlocks hK hP hD hS rfl dX10_takeUnit_137 (ta2_55, ts2_56, tk2_57, tm2_58, tr2_59, fq, pq, (ow + 1), (un + 1), n2_49, fc2_50, fin fby tn ga) (⟨(show ta2_55 ≤ tn from by omega), (show tk2_57 ≤ 123 from by omega), (show n2_49 ≤ 280 from by omega), f_52, (show ((ow + 1)) ≤ 30 from by omega), (show ((un + 1)) ≤ 60 from by omega), (show ((1 : Int32) = 1 ∧ (okS (knd fby tn) (fin fby tn) 7 7 ga ow un (fin fby tn ga) ((ow + 1)) ((un + 1))) ∧ (fq = fq) ∧ (pq = pq) ∧ (tkC fby tn (fin fby tn ga) ta2_55 ts2_56 tk2_57 tm2_58 tr2_59) ∧ (ga < (fin fby tn ga) ∧ (fin fby tn ga) ≤ tn)) ∨ ((1 : Int32) = 0 ∧ (noS (knd fby tn) (fin fby tn) 7 7 ga ow un (fin fby tn ga)) ∧ (flt fby tn (fin fby tn ga) 2 fq pq)) from Or.inl ⟨rfl, (unit_one (by omega) (Or.inl hk8)), (rfl), (rfl), (f_62), (⟨by omega, by omega⟩)⟩)⟩) [0, 4, 5, 6, 1, 2, 3] (by decide +kernel) rfl (Nat.le_of_ble_eq_true rfl) (Nat.le_of_ble_eq_true rfl)
      · have q_15 : tk = 40 := q_eq (a := tk) (b := 40) rfl rfl (by omega) (by omega) c_14
        refine lv_aload_n hx hb dX10_takeUnit_62 rfl (lv_at hl 0 rfl) ?_
        refine lv_iload_n hx hb dX10_takeUnit_63 rfl (lv_at hl 1 rfl) ?_
        refine x_callVi (q := (RX10, TX10, 10)) (ci := 10) (q0 := 0) (wr := []) (rest := []) ⟨hx, hb, hml, hown, hg, hl.1⟩ k_X10_207 (s_takeInner7 l D cy adK adV d0 d1 wt dt vv fq pq t0 t1 t2 tn ta ts tk tm tr fby fky h0 h1 h2 h3 h4 h5 h6 h7 h8 h9 h10 h11 hv0 hv1 hv2 hv3 ((ow + 1)) ((un + 1)) f0 f1 f2 nf y3 fco ga (by omega) (by omega) (by omega) (hti) (hky) (by omega) (hfc) (by omega) (by omega) (by omega) (by omega)) EV_blind hK hP hD hS hA [0, 1, 2, 3, 4, 5, 6] [] ⟨rfl, rfl, by decide +kernel, by decide +kernel, by decide +kernel⟩ rfl rfl (fun U hU hW => EV_pass hE hS (va_free hD hS hA [0, 1, 2, 3, 4, 5, 6] rfl) hU hW) dX10_takeUnit_64 rfl rfl (Nat.le_of_ble_eq_true rfl) ⟨Nat.le_of_ble_eq_true rfl, Nat.le_of_ble_eq_true rfl⟩ ⟨Nat.le_of_ble_eq_true rfl, Nat.le_of_ble_eq_true rfl⟩ (fun zr63 zu63 H locs hw63 hP9 hD9 hS9 => ?_)
        clear hP hD hS
        obtain ⟨ta2_64, ts2_65, tk2_66, tm2_67, tr2_68, fq2_69, pq2_70, ow2_71, un2_72, nf2_73, fco2_74, ga2_75⟩ := zu63
        refine reW [wO d0 10 [.ref t0, .ref d1, .ref h0, .ref f0, .int (nI ow2_71), .int wt, .int dt, .int vv, .int fq2_69, .int pq2_70], wO t0 9 [.ref t1, .ref t2, .int (nI tn), .int (nI ta2_64), .int (nI ts2_65), .int (nI tk2_66), .long tm2_67, .int tr2_68], wI (cy 0) t1 1600 (fby), (t2, .inl (cy 2, 24, .inr (.inl (fky)))), wO h0 4 [.ref h1, .ref h2, .ref h3, .ref h4, .ref h5, .ref h6, .ref h7, .ref h8, .ref h9, .ref h10, .ref h11, hv0, hv1, hv2, hv3, .int (nI un2_72)], wO f0 3 [.ref f1, .ref f2, .int (nI nf2_73), y3], wI (cy 1) f1 280 (fco2_74)] hP9 hD9 hS9 (fun hP hD hS => ?_)
        clear hP9 hD9 hS9
        refine W.widen (k := 0) (n := 0) (Nat.le_of_ble_eq_true rfl) (Nat.le_of_ble_eq_true rfl) ?_
        replace hw63 : (ta2_64 ≤ tn) ∧ (tk2_66 ≤ 123) ∧ (nf2_73 ≤ 280) ∧ (cOK fco2_74 nf2_73) ∧ (ow2_71 ≤ 30) ∧ (un2_72 ≤ 60) ∧ ((zr63 = 1 ∧ (∀ o9 u9 : Nat, ((ow + 1)) = o9 + 1 → ((un + 1)) = u9 + 1 → ¬ (u9 = 60 ∨ o9 = 30) → okS (knd fby tn) (fin fby tn) 7 7 ga o9 u9 ga2_75 ow2_71 un2_72) ∧ (fq = fq2_69) ∧ (pq = pq2_70) ∧ (tkC fby tn ga2_75 ta2_64 ts2_65 tk2_66 tm2_67 tr2_68) ∧ (ga < ga2_75 ∧ ga2_75 ≤ tn)) ∨ (zr63 = 0 ∧ (∀ o9 u9 : Nat, ((ow + 1)) = o9 + 1 → ((un + 1)) = u9 + 1 → ¬ (u9 = 60 ∨ o9 = 30) → noS (knd fby tn) (fin fby tn) 7 7 ga o9 u9 ga2_75) ∧ (flt fby tn ga2_75 2 fq2_69 pq2_70))) := hw63
        obtain ⟨f_76, f_77, f_78, f_79, f_80, f_81, f_82⟩ := hw63
        rcases f_82 with ⟨hz_88, a_83, a_84, a_85, a_86, a_87⟩ | ⟨hz_91, a_89, a_90⟩
        · subst hz_88
          subst a_84
          subst a_85
          have hg_a_87 := a_87
          exact x_zret hQ hx hb hr hlocks hK hP hD hS rfl dX10_takeUnit_67 (ta2_64, ts2_65, tk2_66, tm2_67, tr2_68, fq, pq, ow2_71, un2_72, nf2_73, fco2_74, ga2_75) (⟨(show ta2_64 ≤ tn from by omega), (show tk2_66 ≤ 123 from by omega), (show nf2_73 ≤ 280 from by omega), f_79, (show ow2_71 ≤ 30 from by omega), (show un2_72 ≤ 60 from by omega), (show ((1 : Int32) = 1 ∧ (okS (knd fby tn) (fin fby tn) 7 7 ga ow un ga2_75 ow2_71 un2_72) ∧ (fq = fq) ∧ (pq = pq) ∧ (tkC fby tn ga2_75 ta2_64 ts2_65 tk2_66 tm2_67 tr2_68) ∧ (ga < ga2_75 ∧ ga2_75 ≤ tn)) ∨ ((1 : Int32) = 0 ∧ (noS (knd fby tn) (fin fby tn) 7 7 ga ow un ga2_75) ∧ (flt fby tn ga2_75 2 fq pq)) from Or.inl ⟨rfl, (a_83 ow un rfl rfl (by omega)), (rfl), (rfl), (a_86), (⟨by omega, by omega⟩)⟩)⟩) [0, 1, 2, 3, 4, 5, 6] (by decide +kernel) rfl (Nat.le_of_ble_eq_true rfl) (Nat.le_of_ble_eq_true rfl)
        · subst hz_91
          exact x_zret hQ hx hb hr hlocks hK hP hD hS rfl dX10_takeUnit_67 (ta2_64, ts2_65, tk2_66, tm2_67, tr2_68, fq2_69, pq2_70, ow2_71, un2_72, nf2_73, fco2_74, ga2_75) (⟨(show ta2_64 ≤ tn from by omega), (show tk2_66 ≤ 123 from by omega), (show nf2_73 ≤ 280 from by omega), f_79, (show ow2_71 ≤ 30 from by omega), (show un2_72 ≤ 60 from by omega), (show ((0 : Int32) = 1 ∧ (okS (knd fby tn) (fin fby tn) 7 7 ga ow un ga2_75 ow2_71 un2_72) ∧ (fq = fq2_69) ∧ (pq = pq2_70) ∧ (tkC fby tn ga2_75 ta2_64 ts2_65 tk2_66 tm2_67 tr2_68) ∧ (ga < ga2_75 ∧ ga2_75 ≤ tn)) ∨ ((0 : Int32) = 0 ∧ (noS (knd fby tn) (fin fby tn) 7 7 ga ow un ga2_75) ∧ (flt fby tn ga2_75 2 fq2_69 pq2_70)) from Or.inr (⟨rfl, (a_89 ow un rfl rfl (by omega)), (a_90)⟩))⟩) [0, 1, 2, 3, 4, 5, 6] (by decide +kernel) rfl (Nat.le_of_ble_eq_true rfl) (Nat.le_of_ble_eq_true rfl)
    · have q_11 : 60 ≤ un := q_nlt (a := un) (b := 60) rfl rfl (by omega) (by omega) c_10
      refine lv_aload_n hx hb dX10_takeUnit_21 rfl (lv_at hl 0 rfl) ?_
      refine lv_iconst (v := 2) hx hb dX10_takeUnit_22 (by decide) ?_
      refine x_callVi (q := (RX10, TX10, 10)) (ci := 10) (q0 := 0) (wr := [wI (cy 0) t1 1600 (fby), (t2, .inl (cy 2, 24, .inr (.inl (fky)))), wO h0 4 [.ref h1, .ref h2, .ref h3, .ref h4, .ref h5, .ref h6, .ref h7, .ref h8, .ref h9, .ref h10, .ref h11, hv0, hv1, hv2, hv3, .int (nI un)], wO f0 3 [.ref f1, .ref f2, .int (nI nf), y3], wI (cy 1) f1 280 (fco)]) (rest := []) ⟨hx, hb, hml, hown, hg, hl.1⟩ k_X10_110 (s_fail l D cy d0 d1 (nI ow) wt dt vv fq pq ((.ref h0)) ((.ref f0)) t0 t1 t2 tn ta ts tk tm tr 2 (by omega)) E0_blind hK hP hD hS hA [0, 1] [2, 3, 4, 5, 6] ⟨rfl, rfl, by decide +kernel, by decide +kernel, by decide +kernel⟩ rfl rfl (fun _ _ _ => trivial) dX10_takeUnit_23 rfl rfl (Nat.le_of_ble_eq_true rfl) ⟨Nat.le_of_ble_eq_true rfl, Nat.le_of_ble_eq_true rfl⟩ ⟨Nat.le_of_ble_eq_true rfl, Nat.le_of_ble_eq_true rfl⟩ (fun zr92 zu92 H locs hw92 hP9 hD9 hS9 => ?_)
      clear hP hD hS
      obtain ⟨fq2_93, pq2_94⟩ := zu92
      refine reW [wI (cy 0) t1 1600 (fby), (t2, .inl (cy 2, 24, .inr (.inl (fky)))), wO h0 4 [.ref h1, .ref h2, .ref h3, .ref h4, .ref h5, .ref h6, .ref h7, .ref h8, .ref h9, .ref h10, .ref h11, hv0, hv1, hv2, hv3, .int (nI un)], wO f0 3 [.ref f1, .ref f2, .int (nI nf), y3], wI (cy 1) f1 280 (fco), wO d0 10 [.ref t0, .ref d1, .ref h0, .ref f0, .int (nI ow), .int wt, .int dt, .int vv, .int fq2_93, .int pq2_94], wO t0 9 [.ref t1, .ref t2, .int (nI tn), .int (nI ta), .int (nI ts), .int (nI tk), .long tm, .int tr]] hP9 hD9 hS9 (fun hP hD hS => ?_)
      clear hP9 hD9 hS9
      refine W.widen (k := 0) (n := 0) (Nat.le_of_ble_eq_true rfl) (Nat.le_of_ble_eq_true rfl) ?_
      replace hw92 : ((zr92 = 0 ∧ (fq2_93 = nI (if tk = 3 then 1 else 2)) ∧ (pq2_94 = nI ts))) := hw92
      have f_95 := hw92
      rcases f_95 with ⟨hz_98, a_96, a_97⟩
      subst hz_98
      exact x_zret hQ hx hb hr hlocks hK hP hD hS rfl dX10_takeUnit_26 (ta, ts, tk, tm, tr, fq2_93, pq2_94, ow, un, nf, fco, ga) (⟨(show ta ≤ tn from by omega), (show tk ≤ 123 from by omega), (show nf ≤ 280 from by omega), hfc, (show ow ≤ 30 from by omega), (show un ≤ 60 from by omega), (show ((0 : Int32) = 1 ∧ (okS (knd fby tn) (fin fby tn) 7 7 ga ow un ga ow un) ∧ (fq = fq2_93) ∧ (pq = pq2_94) ∧ (tkC fby tn ga ta ts tk tm tr) ∧ (ga < ga ∧ ga ≤ tn)) ∨ ((0 : Int32) = 0 ∧ (noS (knd fby tn) (fin fby tn) 7 7 ga ow un ga) ∧ (flt fby tn ga 2 fq2_93 pq2_94)) from Or.inr (⟨rfl, (unit_full (by omega)), (flt_of hti a_96 a_97)⟩))⟩) [5, 6, 0, 1, 2, 3, 4] (by decide +kernel) rfl (Nat.le_of_ble_eq_true rfl) (Nat.le_of_ble_eq_true rfl)
theorem gdX10_takeTerm_0 : decode cX10_takeTerm 0 = .ok (.aload_n 0, 1) ∧ decode cX10_takeTerm 1 = .ok (.iload_n 1, 1) ∧ decode cX10_takeTerm 2 = .ok (.invokevirtual 198, 3) := by decide +kernel
theorem dX10_takeTerm_0 : decode cX10_takeTerm 0 = .ok (.aload_n 0, 1) := gdX10_takeTerm_0.1
theorem dX10_takeTerm_1 : decode cX10_takeTerm 1 = .ok (.iload_n 1, 1) := gdX10_takeTerm_0.2.1
theorem dX10_takeTerm_2 : decode cX10_takeTerm 2 = .ok (.invokevirtual 198, 3) := gdX10_takeTerm_0.2.2
theorem k_X10_198 : xV RX10 RX10 198 yX10_takeUnit cX10_takeUnit 3 (some .boolean) 1 := ⟨⟨m_895, m_897, m_25, m_136, m_898⟩, rfl, by decide, by decide, by decide +kernel⟩
theorem gdX10_takeTerm_5 : decode cX10_takeTerm 5 = .ok (.istore_n 2, 1) ∧ decode cX10_takeTerm 6 = .ok (.iconst 0, 1) ∧ decode cX10_takeTerm 7 = .ok (.istore_n 3, 1) ∧ decode cX10_takeTerm 8 = .ok (.iload_n 3, 1) ∧ decode cX10_takeTerm 9 = .ok (.sipush 1600, 3) ∧ decode cX10_takeTerm 12 = .ok (.if_icmp .ge 57, 3) ∧ decode cX10_takeTerm 15 = .ok (.iload_n 2, 1) ∧ decode cX10_takeTerm 16 = .ok (.ifCond .eq 53, 3) ∧ decode cX10_takeTerm 19 = .ok (.aload_n 0, 1) ∧ decode cX10_takeTerm 20 = .ok (.getfield 16, 3) ∧ decode cX10_takeTerm 23 = .ok (.getfield 55, 3) ∧ decode cX10_takeTerm 26 = .ok (.invokestatic 201, 3) := by decide +kernel
theorem dX10_takeTerm_5 : decode cX10_takeTerm 5 = .ok (.istore_n 2, 1) := gdX10_takeTerm_5.1
theorem dX10_takeTerm_6 : decode cX10_takeTerm 6 = .ok (.iconst 0, 1) := gdX10_takeTerm_5.2.1
theorem dX10_takeTerm_7 : decode cX10_takeTerm 7 = .ok (.istore_n 3, 1) := gdX10_takeTerm_5.2.2.1
theorem dX10_takeTerm_8 : decode cX10_takeTerm 8 = .ok (.iload_n 3, 1) := gdX10_takeTerm_5.2.2.2.1
theorem dX10_takeTerm_9 : decode cX10_takeTerm 9 = .ok (.sipush 1600, 3) := gdX10_takeTerm_5.2.2.2.2.1
theorem dX10_takeTerm_12 : decode cX10_takeTerm 12 = .ok (.if_icmp .ge 57, 3) := gdX10_takeTerm_5.2.2.2.2.2.1
theorem dX10_takeTerm_15 : decode cX10_takeTerm 15 = .ok (.iload_n 2, 1) := gdX10_takeTerm_5.2.2.2.2.2.2.1
theorem dX10_takeTerm_16 : decode cX10_takeTerm 16 = .ok (.ifCond .eq 53, 3) := gdX10_takeTerm_5.2.2.2.2.2.2.2.1
theorem dX10_takeTerm_19 : decode cX10_takeTerm 19 = .ok (.aload_n 0, 1) := gdX10_takeTerm_5.2.2.2.2.2.2.2.2.1
theorem dX10_takeTerm_20 : decode cX10_takeTerm 20 = .ok (.getfield 16, 3) := gdX10_takeTerm_5.2.2.2.2.2.2.2.2.2.1
theorem dX10_takeTerm_23 : decode cX10_takeTerm 23 = .ok (.getfield 55, 3) := gdX10_takeTerm_5.2.2.2.2.2.2.2.2.2.2.1
theorem dX10_takeTerm_26 : decode cX10_takeTerm 26 = .ok (.invokestatic 201, 3) := gdX10_takeTerm_5.2.2.2.2.2.2.2.2.2.2.2
theorem k_X10_201 : xS RX10 201 yX10_isOfTerm cX10_isOfTerm 1 (some .boolean) 1 := ⟨⟨m_914, m_915, m_136, m_916⟩, by decide, by decide, by decide +kernel⟩
theorem gdX10_takeTerm_29 : decode cX10_takeTerm 29 = .ok (.ifCond .eq 40, 3) ∧ decode cX10_takeTerm 32 = .ok (.aload_n 0, 1) ∧ decode cX10_takeTerm 33 = .ok (.getfield 16, 3) ∧ decode cX10_takeTerm 36 = .ok (.getfield 55, 3) ∧ decode cX10_takeTerm 39 = .ok (.istore 4, 2) ∧ decode cX10_takeTerm 41 = .ok (.aload_n 0, 1) ∧ decode cX10_takeTerm 42 = .ok (.getfield 16, 3) ∧ decode cX10_takeTerm 45 = .ok (.invokevirtual 140, 3) ∧ decode cX10_takeTerm 48 = .ok (.aload_n 0, 1) ∧ decode cX10_takeTerm 49 = .ok (.iload_n 1, 1) ∧ decode cX10_takeTerm 50 = .ok (.invokevirtual 198, 3) ∧ decode cX10_takeTerm 53 = .ok (.istore_n 2, 1) := by decide +kernel
theorem dX10_takeTerm_29 : decode cX10_takeTerm 29 = .ok (.ifCond .eq 40, 3) := gdX10_takeTerm_29.1
theorem dX10_takeTerm_32 : decode cX10_takeTerm 32 = .ok (.aload_n 0, 1) := gdX10_takeTerm_29.2.1
theorem dX10_takeTerm_33 : decode cX10_takeTerm 33 = .ok (.getfield 16, 3) := gdX10_takeTerm_29.2.2.1
theorem dX10_takeTerm_36 : decode cX10_takeTerm 36 = .ok (.getfield 55, 3) := gdX10_takeTerm_29.2.2.2.1
theorem dX10_takeTerm_39 : decode cX10_takeTerm 39 = .ok (.istore 4, 2) := gdX10_takeTerm_29.2.2.2.2.1
theorem dX10_takeTerm_41 : decode cX10_takeTerm 41 = .ok (.aload_n 0, 1) := gdX10_takeTerm_29.2.2.2.2.2.1
theorem dX10_takeTerm_42 : decode cX10_takeTerm 42 = .ok (.getfield 16, 3) := gdX10_takeTerm_29.2.2.2.2.2.2.1
theorem dX10_takeTerm_45 : decode cX10_takeTerm 45 = .ok (.invokevirtual 140, 3) := gdX10_takeTerm_29.2.2.2.2.2.2.2.1
theorem dX10_takeTerm_48 : decode cX10_takeTerm 48 = .ok (.aload_n 0, 1) := gdX10_takeTerm_29.2.2.2.2.2.2.2.2.1
theorem dX10_takeTerm_49 : decode cX10_takeTerm 49 = .ok (.iload_n 1, 1) := gdX10_takeTerm_29.2.2.2.2.2.2.2.2.2.1
theorem dX10_takeTerm_50 : decode cX10_takeTerm 50 = .ok (.invokevirtual 198, 3) := gdX10_takeTerm_29.2.2.2.2.2.2.2.2.2.2.1
theorem dX10_takeTerm_53 : decode cX10_takeTerm 53 = .ok (.istore_n 2, 1) := gdX10_takeTerm_29.2.2.2.2.2.2.2.2.2.2.2
theorem gdX10_takeTerm_54 : decode cX10_takeTerm 54 = .ok (.aload_n 0, 1) ∧ decode cX10_takeTerm 55 = .ok (.getfield 34, 3) ∧ decode cX10_takeTerm 58 = .ok (.iload 4, 2) ∧ decode cX10_takeTerm 60 = .ok (.invokevirtual 182, 3) := by decide +kernel
theorem dX10_takeTerm_54 : decode cX10_takeTerm 54 = .ok (.aload_n 0, 1) := gdX10_takeTerm_54.1
theorem dX10_takeTerm_55 : decode cX10_takeTerm 55 = .ok (.getfield 34, 3) := gdX10_takeTerm_54.2.1
theorem dX10_takeTerm_58 : decode cX10_takeTerm 58 = .ok (.iload 4, 2) := gdX10_takeTerm_54.2.2.1
theorem dX10_takeTerm_60 : decode cX10_takeTerm 60 = .ok (.invokevirtual 182, 3) := gdX10_takeTerm_54.2.2.2
theorem k_X10_182 : xV RX10 RX3 182 yX3_addDeed cX3_addDeed 2 none 1 := ⟨⟨m_879, m_880, m_881, m_138, m_882⟩, rfl, by decide, by decide, by decide +kernel⟩
theorem gdX10_takeTerm_63 : decode cX10_takeTerm 63 = .ok (.iinc 3 1, 3) ∧ decode cX10_takeTerm 66 = .ok (.goto (-58), 3) ∧ decode cX10_takeTerm 69 = .ok (.iload_n 2, 1) ∧ decode cX10_takeTerm 70 = .ok (.ireturn, 1) := by decide +kernel
theorem dX10_takeTerm_63 : decode cX10_takeTerm 63 = .ok (.iinc 3 1, 3) := gdX10_takeTerm_63.1
theorem dX10_takeTerm_66 : decode cX10_takeTerm 66 = .ok (.goto (-58), 3) := gdX10_takeTerm_63.2.1
theorem dX10_takeTerm_69 : decode cX10_takeTerm 69 = .ok (.iload_n 2, 1) := gdX10_takeTerm_63.2.2.1
theorem dX10_takeTerm_70 : decode cX10_takeTerm 70 = .ok (.ireturn, 1) := gdX10_takeTerm_63.2.2.2
set_option maxHeartbeats 1000000 in
set_option maxRecDepth 100000 in
theorem s_takeTerm7 (l : Launch) (D : va_G) (cy : Nat → ClassId) (adK : Nat → Nat) (adV : Nat → Nat) (d0 : Nat) (d1 : Nat) (wt : Int32) (dt : Int32) (vv : Int32) (fq : Int32) (pq : Int32) (t0 : Nat) (t1 : Nat) (t2 : Nat) (tn : Nat) (ta : Nat) (ts : Nat) (tk : Nat) (tm : Int64) (tr : Int32) (fby : Nat → Int32) (fky : Nat → Int64) (h0 : Nat) (h1 : Nat) (h2 : Nat) (h3 : Nat) (h4 : Nat) (h5 : Nat) (h6 : Nat) (h7 : Nat) (h8 : Nat) (h9 : Nat) (h10 : Nat) (h11 : Nat) (hv0 : Value) (hv1 : Value) (hv2 : Value) (hv3 : Value) (ow : Nat) (un : Nat) (f0 : Nat) (f1 : Nat) (f2 : Nat) (nf : Nat) (y3 : Value) (fco : Nat → Int32) (ga : Nat) (htn : tn ≤ 1600) (hta : ta ≤ tn) (htk : tk ≤ 123) (hti : tkC fby tn ga ta ts tk tm tr) (hky : kyOK fky) (hnf : nf ≤ 280) (hfc : cOK fco nf) (how : ow ≤ 30) (hun : un ≤ 60) (hga : ga ≤ tn) : XMi l D (tyL cy) (EV adK adV) yX10_takeTerm cX10_takeTerm 5 (some .boolean) (rmk 8 0 0) [.ref d0, .int 7] [wO d0 10 [.ref t0, .ref d1, .ref h0, .ref f0, .int (nI ow), .int wt, .int dt, .int vv, .int fq, .int pq], wO t0 9 [.ref t1, .ref t2, .int (nI tn), .int (nI ta), .int (nI ts), .int (nI tk), .long tm, .int tr], wI (cy 0) t1 1600 (fby), (t2, .inl (cy 2, 24, .inr (.inl (fky)))), wO h0 4 [.ref h1, .ref h2, .ref h3, .ref h4, .ref h5, .ref h6, .ref h7, .ref h8, .ref h9, .ref h10, .ref h11, hv0, hv1, hv2, hv3, .int (nI un)], wO f0 3 [.ref f1, .ref f2, .int (nI nf), y3], wI (cy 1) f1 280 (fco)] (fun (r : Int32) (u : Nat × Nat × Nat × Int64 × Int32 × Int32 × Int32 × Nat × Nat × Nat × (Nat → Int32) × Nat) => (u.1 ≤ tn) ∧ (u.2.2.1 ≤ 123) ∧ (u.2.2.2.2.2.2.2.2.2.1 ≤ 280) ∧ (cOK u.2.2.2.2.2.2.2.2.2.2.1 u.2.2.2.2.2.2.2.2.2.1) ∧ (u.2.2.2.2.2.2.2.1 ≤ 30) ∧ (u.2.2.2.2.2.2.2.2.1 ≤ 60) ∧ ((r = 1 ∧ (okS (knd fby tn) (fin fby tn) 6 7 ga ow un u.2.2.2.2.2.2.2.2.2.2.2 u.2.2.2.2.2.2.2.1 u.2.2.2.2.2.2.2.2.1) ∧ (fq = u.2.2.2.2.2.1) ∧ (pq = u.2.2.2.2.2.2.1) ∧ (tkC fby tn u.2.2.2.2.2.2.2.2.2.2.2 u.1 u.2.1 u.2.2.1 u.2.2.2.1 u.2.2.2.2.1) ∧ (ga < u.2.2.2.2.2.2.2.2.2.2.2 ∧ u.2.2.2.2.2.2.2.2.2.2.2 ≤ tn)) ∨ (r = 0 ∧ (noS (knd fby tn) (fin fby tn) 6 7 ga ow un u.2.2.2.2.2.2.2.2.2.2.2) ∧ (flt fby tn u.2.2.2.2.2.2.2.2.2.2.2 2 u.2.2.2.2.2.1 u.2.2.2.2.2.2.1)))) (fun (u : Nat × Nat × Nat × Int64 × Int32 × Int32 × Int32 × Nat × Nat × Nat × (Nat → Int32) × Nat) => [wO d0 10 [.ref t0, .ref d1, .ref h0, .ref f0, .int (nI u.2.2.2.2.2.2.2.1), .int wt, .int dt, .int vv, .int u.2.2.2.2.2.1, .int u.2.2.2.2.2.2.1], wO t0 9 [.ref t1, .ref t2, .int (nI tn), .int (nI u.1), .int (nI u.2.1), .int (nI u.2.2.1), .long u.2.2.2.1, .int u.2.2.2.2.1], wI (cy 0) t1 1600 (fby), (t2, .inl (cy 2, 24, .inr (.inl (fky)))), wO h0 4 [.ref h1, .ref h2, .ref h3, .ref h4, .ref h5, .ref h6, .ref h7, .ref h8, .ref h9, .ref h10, .ref h11, hv0, hv1, hv2, hv3, .int (nI u.2.2.2.2.2.2.2.2.1)], wO f0 3 [.ref f1, .ref f2, .int (nI u.2.2.2.2.2.2.2.2.2.1), y3], wI (cy 1) f1 280 (u.2.2.2.2.2.2.2.2.2.2.1)]) := by
  refine XMi.start (by decide) (Nat.le_of_ble_eq_true rfl) ?_
  intro p e s m below meth c args A ls Q hat hQ
  obtain ⟨hx, hb, hr, hml, hown, hg, hlocks, hin, hK, hA, hP, hD, hS, hE, hl⟩ := hat
  have hown : s.vm.findClass RX10 = some m.cls := hown
  have hl : lv_has ls 5 [(0, .ref d0), (1, .int 7)] := hl
  refine lv_aload_n hx hb dX10_takeTerm_0 rfl (lv_at hl 0 rfl) ?_
  refine lv_iload_n hx hb dX10_takeTerm_1 rfl (lv_at hl 1 rfl) ?_
  refine x_callVi (q := (RX10, TX10, 10)) (ci := 10) (q0 := 0) (wr := []) (rest := []) ⟨hx, hb, hml, hown, hg, hl.1⟩ k_X10_198 (s_takeUnit7 l D cy adK adV d0 d1 wt dt vv fq pq t0 t1 t2 tn ta ts tk tm tr fby fky h0 h1 h2 h3 h4 h5 h6 h7 h8 h9 h10 h11 hv0 hv1 hv2 hv3 ow un f0 f1 f2 nf y3 fco ga (by omega) (by omega) (by omega) (hti) (hky) (by omega) (hfc) (by omega) (by omega) (by omega)) EV_blind hK hP hD hS hA [0, 1, 2, 3, 4, 5, 6] [] ⟨rfl, rfl, by decide +kernel, by decide +kernel, by decide +kernel⟩ rfl rfl (fun U hU hW => EV_pass hE hS (va_free hD hS hA [0, 1, 2, 3, 4, 5, 6] rfl) hU hW) dX10_takeTerm_2 rfl rfl (Nat.le_of_ble_eq_true rfl) ⟨Nat.le_of_ble_eq_true rfl, Nat.le_of_ble_eq_true rfl⟩ ⟨Nat.le_of_ble_eq_true rfl, Nat.le_of_ble_eq_true rfl⟩ (fun zr1 zu1 H locs hw1 hP9 hD9 hS9 => ?_)
  clear hP hD hS
  obtain ⟨ta2_2, ts2_3, tk2_4, tm2_5, tr2_6, fq2_7, pq2_8, ow2_9, un2_10, nf2_11, fco2_12, ga2_13⟩ := zu1
  refine reW [wO d0 10 [.ref t0, .ref d1, .ref h0, .ref f0, .int (nI ow2_9), .int wt, .int dt, .int vv, .int fq2_7, .int pq2_8], wO t0 9 [.ref t1, .ref t2, .int (nI tn), .int (nI ta2_2), .int (nI ts2_3), .int (nI tk2_4), .long tm2_5, .int tr2_6], wI (cy 0) t1 1600 (fby), (t2, .inl (cy 2, 24, .inr (.inl (fky)))), wO h0 4 [.ref h1, .ref h2, .ref h3, .ref h4, .ref h5, .ref h6, .ref h7, .ref h8, .ref h9, .ref h10, .ref h11, hv0, hv1, hv2, hv3, .int (nI un2_10)], wO f0 3 [.ref f1, .ref f2, .int (nI nf2_11), y3], wI (cy 1) f1 280 (fco2_12)] hP9 hD9 hS9 (fun hP hD hS => ?_)
  clear hP9 hD9 hS9
  refine W.widen (k := 0) (n := 0) (Nat.le_of_ble_eq_true rfl) (Nat.le_of_ble_eq_true rfl) ?_
  replace hw1 : (ta2_2 ≤ tn) ∧ (tk2_4 ≤ 123) ∧ (nf2_11 ≤ 280) ∧ (cOK fco2_12 nf2_11) ∧ (ow2_9 ≤ 30) ∧ (un2_10 ≤ 60) ∧ ((zr1 = 1 ∧ (okS (knd fby tn) (fin fby tn) 7 7 ga ow un ga2_13 ow2_9 un2_10) ∧ (fq = fq2_7) ∧ (pq = pq2_8) ∧ (tkC fby tn ga2_13 ta2_2 ts2_3 tk2_4 tm2_5 tr2_6) ∧ (ga < ga2_13 ∧ ga2_13 ≤ tn)) ∨ (zr1 = 0 ∧ (noS (knd fby tn) (fin fby tn) 7 7 ga ow un ga2_13) ∧ (flt fby tn ga2_13 2 fq2_7 pq2_8))) := hw1
  obtain ⟨f_14, f_15, f_16, f_17, f_18, f_19, f_20⟩ := hw1
  refine lv_istore_n (lv' := [(2, .int zr1), (0, .ref d0), (1, .int 7)]) hx hb dX10_takeTerm_5 rfl hl (by decide) rfl (fun ls hl => ?_)
  refine lv_iconst (v := 0) hx hb dX10_takeTerm_6 (by decide) ?_
  refine lv_istore_n (lv' := [(3, .int 0), (2, .int zr1), (0, .ref d0), (1, .int 7)]) hx hb dX10_takeTerm_7 rfl hl (by decide) rfl (fun ls hl => ?_)
  have loop21 : ∀ (zn : Nat) (lb2_21 : Int32) (i21 : Nat) (aq21 : Nat) (sq21 : Nat) (kq21 : Nat) (fl5_21 : Int64) (rq21 : Int32) (oq21 : Nat) (fz21 : Int32) (pz21 : Int32) (uq21 : Nat) (nq21 : Nat) (gq21 : Nat) (fa13_21 : Nat → Int32), (cOK fa13_21 nq21) → (i21 ≤ 1600) → (aq21 ≤ tn) → (kq21 ≤ 123) → (nq21 ≤ 280) → (oq21 ≤ 30) → (uq21 ≤ 60) → ((lb2_21 = 1 ∧ inS (knd fby tn) (fin fby tn) 6 7 7 ga ow un gq21 oq21 uq21 ∧ tkC fby tn gq21 aq21 sq21 kq21 fl5_21 rq21 ∧ ga < gq21 ∧ gq21 ≤ tn ∧ i21 < gq21 ∧ fq = fz21 ∧ pq = pz21) ∨ (lb2_21 = 0 ∧ noS (knd fby tn) (fin fby tn) 6 7 ga ow un gq21 ∧ flt fby tn gq21 2 fz21 pz21)) → 1600 - i21 + 1 ≤ zn → ∀ (H : Heap) (locs : List Loc), va_P D vwCl [wO d0 10 [.ref t0, .ref d1, .ref h0, .ref f0, .int (nI oq21), .int wt, .int dt, .int vv, .int fz21, .int pz21], wO t0 9 [.ref t1, .ref t2, .int (nI tn), .int (nI aq21), .int (nI sq21), .int (nI kq21), .long fl5_21, .int rq21], wI (cy 0) t1 1600 (fby), (t2, .inl (cy 2, 24, .inr (.inl (fky)))), wO h0 4 [.ref h1, .ref h2, .ref h3, .ref h4, .ref h5, .ref h6, .ref h7, .ref h8, .ref h9, .ref h10, .ref h11, hv0, hv1, hv2, hv3, .int (nI uq21)], wO f0 3 [.ref f1, .ref f2, .int (nI nq21), y3], wI (cy 1) f1 280 (fa13_21)] H → va_D A [wO d0 10 [.ref t0, .ref d1, .ref h0, .ref f0, .int (nI oq21), .int wt, .int dt, .int vv, .int fz21, .int pz21], wO t0 9 [.ref t1, .ref t2, .int (nI tn), .int (nI aq21), .int (nI sq21), .int (nI kq21), .long fl5_21, .int rq21], wI (cy 0) t1 1600 (fby), (t2, .inl (cy 2, 24, .inr (.inl (fky)))), wO h0 4 [.ref h1, .ref h2, .ref h3, .ref h4, .ref h5, .ref h6, .ref h7, .ref h8, .ref h9, .ref h10, .ref h11, hv0, hv1, hv2, hv3, .int (nI uq21)], wO f0 3 [.ref f1, .ref f2, .int (nI nq21), y3], wI (cy 1) f1 280 (fa13_21)] → va_S A s.heap H locs → ∀ ls : Array Slot, lv_has ls 5 [(3, .int (nI i21)), (2, .int lb2_21), (0, .ref d0), (1, .int 7)] → W p l e (rmk 8 0 0) s m args below meth c H locs 0 0 Q (F0 m 8 ls []) := by
    try clear hP hD hS
    intro zn
    induction zn with
    | zero => intro lb2_21 i21 aq21 sq21 kq21 fl5_21 rq21 oq21 fz21 pz21 uq21 nq21 gq21 fa13_21 _ _ _ _ _ _ _ _ hz; exact absurd hz (by omega)
    | succ zn ih21 =>
      intro lb2_21 i21 aq21 sq21 kq21 fl5_21 rq21 oq21 fz21 pz21 uq21 nq21 gq21 fa13_21 ha14_21 hf0_21 hf1_21 hf2_21 hf3_21 hf4_21 hf5_21 hf6_21 hmu21 H locs hP hD hS ls hl
      rcases hf6_21 with ⟨hlb, hin9, htk9, hg1, hg2, hg3, hfz, hpz⟩ | ⟨hlb, hno9, hfl9⟩
      · subst hlb hfz hpz
        refine lv_iload_n hx hb dX10_takeTerm_8 rfl (lv_at hl 0 rfl) ?_
        refine lv_sipush (v := 1600) hx hb dX10_takeTerm_9 (by decide) ?_
        refine lv_icmp_ge (tgt := 69) hx hb dX10_takeTerm_12 (by decide) (fun c_22 => ?_) (fun c_22 => ?_)
        · have q_23 : 1600 ≤ i21 := q_le (a := 1600) (b := i21) rfl rfl (by omega) (by omega) c_22
          exact absurd q_23 (by omega)
        · have q_23 : i21 < 1600 := q_nle (a := 1600) (b := i21) rfl rfl (by omega) (by omega) c_22
          refine lv_iload_n hx hb dX10_takeTerm_15 rfl (lv_at hl 1 rfl) ?_
          refine lv_if_eq (tgt := 69) hx hb dX10_takeTerm_16 (by decide) (fun h => absurd h (by decide)) (fun _ => ?_)
          refine lv_aload_n hx hb dX10_takeTerm_19 rfl (lv_at hl 2 rfl) ?_
          refine va_get (D := D) (ci := 10) (v := .ref t0) (C := RX10) (T := TX10) (N := 10) hx hb hg i_X10 hown hK hP 0 rfl rfl 0 (by decide) (hg _ m_255) (fun _ h9 => h9) rfl dX10_takeTerm_20 ?_
          refine va_get (D := D) (ci := 9) (v := .int (nI kq21)) (C := RX9) (T := TX9) (N := 8) hx hb hg i_X9 hown hK hP 1 rfl rfl 5 (by decide) (hg _ m_222) (fun _ h9 => h9) rfl dX10_takeTerm_23 ?_
          refine x_callSi (wr := [wO d0 10 [.ref t0, .ref d1, .ref h0, .ref f0, .int (nI oq21), .int wt, .int dt, .int vv, .int fq, .int pq], wO t0 9 [.ref t1, .ref t2, .int (nI tn), .int (nI aq21), .int (nI sq21), .int (nI kq21), .long fl5_21, .int rq21], wI (cy 0) t1 1600 (fby), (t2, .inl (cy 2, 24, .inr (.inl (fky)))), wO h0 4 [.ref h1, .ref h2, .ref h3, .ref h4, .ref h5, .ref h6, .ref h7, .ref h8, .ref h9, .ref h10, .ref h11, hv0, hv1, hv2, hv3, .int (nI uq21)], wO f0 3 [.ref f1, .ref f2, .int (nI nq21), y3], wI (cy 1) f1 280 (fa13_21)]) (rest := []) ⟨hx, hb, hml, hown, hg, hl.1⟩ k_X10_201 (s_isOfTerm l D cy kq21 (by omega)) E0_blind hK hP hD hS hA [] [0, 1, 2, 3, 4, 5, 6] ⟨rfl, rfl, by decide +kernel, by decide +kernel, by decide +kernel⟩ (fun _ _ _ => trivial) dX10_takeTerm_26 rfl rfl (Nat.le_of_ble_eq_true rfl) ⟨Nat.le_of_ble_eq_true rfl, Nat.le_of_ble_eq_true rfl⟩ ⟨Nat.le_of_ble_eq_true rfl, Nat.le_of_ble_eq_true rfl⟩ (fun zr24 zu24 H locs hw24 hP9 hD9 hS9 => ?_)
          clear hP hD hS
          refine reW [wO d0 10 [.ref t0, .ref d1, .ref h0, .ref f0, .int (nI oq21), .int wt, .int dt, .int vv, .int fq, .int pq], wO t0 9 [.ref t1, .ref t2, .int (nI tn), .int (nI aq21), .int (nI sq21), .int (nI kq21), .long fl5_21, .int rq21], wI (cy 0) t1 1600 (fby), (t2, .inl (cy 2, 24, .inr (.inl (fky)))), wO h0 4 [.ref h1, .ref h2, .ref h3, .ref h4, .ref h5, .ref h6, .ref h7, .ref h8, .ref h9, .ref h10, .ref h11, hv0, hv1, hv2, hv3, .int (nI uq21)], wO f0 3 [.ref f1, .ref f2, .int (nI nq21), y3], wI (cy 1) f1 280 (fa13_21)] hP9 hD9 hS9 (fun hP hD hS => ?_)
          clear hP9 hD9 hS9
          refine W.widen (k := 0) (n := 0) (Nat.le_of_ble_eq_true rfl) (Nat.le_of_ble_eq_true rfl) ?_
          replace hw24 : ((zr24 = 1 ∧ (kq21 = 42 ∨ kq21 = 47 ∨ kq21 = 37)) ∨ (zr24 = 0 ∧ (¬ (kq21 = 42 ∨ kq21 = 47 ∨ kq21 = 37)))) := hw24
          have f_25 := hw24
          rcases f_25 with ⟨hz_27, a_26⟩ | ⟨hz_29, a_28⟩
          · subst hz_27
            refine lv_if_eq (tgt := 69) hx hb dX10_takeTerm_29 (by decide) (fun h => absurd h (by decide)) (fun _ => ?_)
            have hop := sg_6 (show knd fby tn gq21 = 42 ∨ knd fby tn gq21 = 47 ∨ knd fby tn gq21 = 37 from by have h9 := htk9.2.2.1; omega)
            have hgt_30 : gq21 < fin fby tn gq21 ∧ fin fby tn gq21 ≤ tn := ⟨fin_gt (by have h9 := htk9.2.2.1; omega), fin_le (by omega)⟩
            refine lv_aload_n hx hb dX10_takeTerm_32 rfl (lv_at hl 2 rfl) ?_
            refine va_get (D := D) (ci := 10) (v := .ref t0) (C := RX10) (T := TX10) (N := 10) hx hb hg i_X10 hown hK hP 0 rfl rfl 0 (by decide) (hg _ m_255) (fun _ h9 => h9) rfl dX10_takeTerm_33 ?_
            refine va_get (D := D) (ci := 9) (v := .int (nI kq21)) (C := RX9) (T := TX9) (N := 8) hx hb hg i_X9 hown hK hP 1 rfl rfl 5 (by decide) (hg _ m_222) (fun _ h9 => h9) rfl dX10_takeTerm_36 ?_
            refine lv_istore (lv' := [(4, .int (nI kq21)), (3, .int (nI i21)), (2, .int 1), (0, .ref d0), (1, .int 7)]) hx hb dX10_takeTerm_39 hl (by decide) rfl (fun ls hl => ?_)
            refine lv_aload_n hx hb dX10_takeTerm_41 rfl (lv_at hl 3 rfl) ?_
            refine va_get (D := D) (ci := 10) (v := .ref t0) (C := RX10) (T := TX10) (N := 10) hx hb hg i_X10 hown hK hP 0 rfl rfl 0 (by decide) (hg _ m_255) (fun _ h9 => h9) rfl dX10_takeTerm_42 ?_
            refine x_callVv (q := (RX9, TX9, 8)) (ci := 9) (q0 := 0) (wr := [wO d0 10 [.ref t0, .ref d1, .ref h0, .ref f0, .int (nI oq21), .int wt, .int dt, .int vv, .int fq, .int pq], wO h0 4 [.ref h1, .ref h2, .ref h3, .ref h4, .ref h5, .ref h6, .ref h7, .ref h8, .ref h9, .ref h10, .ref h11, hv0, hv1, hv2, hv3, .int (nI uq21)], wO f0 3 [.ref f1, .ref f2, .int (nI nq21), y3], wI (cy 1) f1 280 (fa13_21)]) (rest := []) ⟨hx, hb, hml, hown, hg, hl.1⟩ k_X10_140 (s_next l D cy adK adV t0 t1 t2 tn aq21 sq21 kq21 fl5_21 rq21 fby fky (fin fby tn gq21) (by omega) (by omega) (htk9.2.1) (hky)) EV_blind hK hP hD hS hA [1, 2, 3] [0, 4, 5, 6] ⟨rfl, rfl, by decide +kernel, by decide +kernel, by decide +kernel⟩ rfl rfl (fun U hU hW => EV_pass hE hS (va_free hD hS hA [1, 2, 3] rfl) hU hW) dX10_takeTerm_45 rfl rfl (Nat.le_of_ble_eq_true rfl) ⟨Nat.le_of_ble_eq_true rfl, Nat.le_of_ble_eq_true rfl⟩ ⟨Nat.le_of_ble_eq_true rfl, Nat.le_of_ble_eq_true rfl⟩ (fun zu31 H locs hw31 hP9 hD9 hS9 => ?_)
            clear hP hD hS
            obtain ⟨ta2_32, ts2_33, tk2_34, tm2_35, tr2_36⟩ := zu31
            refine reW [wO d0 10 [.ref t0, .ref d1, .ref h0, .ref f0, .int (nI oq21), .int wt, .int dt, .int vv, .int fq, .int pq], wO h0 4 [.ref h1, .ref h2, .ref h3, .ref h4, .ref h5, .ref h6, .ref h7, .ref h8, .ref h9, .ref h10, .ref h11, hv0, hv1, hv2, hv3, .int (nI uq21)], wO f0 3 [.ref f1, .ref f2, .int (nI nq21), y3], wI (cy 1) f1 280 (fa13_21), wO t0 9 [.ref t1, .ref t2, .int (nI tn), .int (nI ta2_32), .int (nI ts2_33), .int (nI tk2_34), .long tm2_35, .int tr2_36], wI (cy 0) t1 1600 (fby), (t2, .inl (cy 2, 24, .inr (.inl (fky))))] hP9 hD9 hS9 (fun hP hD hS => ?_)
            clear hP9 hD9 hS9
            refine W.widen (k := 0) (n := 0) (Nat.le_of_ble_eq_true rfl) (Nat.le_of_ble_eq_true rfl) ?_
            replace hw31 : (ta2_32 ≤ tn) ∧ (tk2_34 ≤ 123) ∧ (tkC fby tn (fin fby tn gq21) ta2_32 ts2_33 tk2_34 tm2_35 tr2_36) := hw31
            obtain ⟨f_37, f_38, f_39⟩ := hw31
            refine lv_aload_n hx hb dX10_takeTerm_48 rfl (lv_at hl 3 rfl) ?_
            refine lv_iload_n hx hb dX10_takeTerm_49 rfl (lv_at hl 4 rfl) ?_
            refine x_callVi (q := (RX10, TX10, 10)) (ci := 10) (q0 := 0) (wr := []) (rest := []) ⟨hx, hb, hml, hown, hg, hl.1⟩ k_X10_198 (s_takeUnit7 l D cy adK adV d0 d1 wt dt vv fq pq t0 t1 t2 tn ta2_32 ts2_33 tk2_34 tm2_35 tr2_36 fby fky h0 h1 h2 h3 h4 h5 h6 h7 h8 h9 h10 h11 hv0 hv1 hv2 hv3 oq21 uq21 f0 f1 f2 nq21 y3 fa13_21 (fin fby tn gq21) (by omega) (by omega) (by omega) (f_39) (hky) (by omega) (ha14_21) (by omega) (by omega) (by omega)) EV_blind hK hP hD hS hA [0, 4, 5, 6, 1, 2, 3] [] ⟨rfl, rfl, by decide +kernel, by decide +kernel, by decide +kernel⟩ rfl rfl (fun U hU hW => EV_pass hE hS (va_free hD hS hA [0, 4, 5, 6, 1, 2, 3] rfl) hU hW) dX10_takeTerm_50 rfl rfl (Nat.le_of_ble_eq_true rfl) ⟨Nat.le_of_ble_eq_true rfl, Nat.le_of_ble_eq_true rfl⟩ ⟨Nat.le_of_ble_eq_true rfl, Nat.le_of_ble_eq_true rfl⟩ (fun zr40 zu40 H locs hw40 hP9 hD9 hS9 => ?_)
            clear hP hD hS
            obtain ⟨ta2_41, ts2_42, tk2_43, tm2_44, tr2_45, fq2_46, pq2_47, ow2_48, un2_49, nf2_50, fco2_51, ga2_52⟩ := zu40
            refine reW [wO d0 10 [.ref t0, .ref d1, .ref h0, .ref f0, .int (nI ow2_48), .int wt, .int dt, .int vv, .int fq2_46, .int pq2_47], wO t0 9 [.ref t1, .ref t2, .int (nI tn), .int (nI ta2_41), .int (nI ts2_42), .int (nI tk2_43), .long tm2_44, .int tr2_45], wI (cy 0) t1 1600 (fby), (t2, .inl (cy 2, 24, .inr (.inl (fky)))), wO h0 4 [.ref h1, .ref h2, .ref h3, .ref h4, .ref h5, .ref h6, .ref h7, .ref h8, .ref h9, .ref h10, .ref h11, hv0, hv1, hv2, hv3, .int (nI un2_49)], wO f0 3 [.ref f1, .ref f2, .int (nI nf2_50), y3], wI (cy 1) f1 280 (fco2_51)] hP9 hD9 hS9 (fun hP hD hS => ?_)
            clear hP9 hD9 hS9
            refine W.widen (k := 0) (n := 0) (Nat.le_of_ble_eq_true rfl) (Nat.le_of_ble_eq_true rfl) ?_
            replace hw40 : (ta2_41 ≤ tn) ∧ (tk2_43 ≤ 123) ∧ (nf2_50 ≤ 280) ∧ (cOK fco2_51 nf2_50) ∧ (ow2_48 ≤ 30) ∧ (un2_49 ≤ 60) ∧ ((zr40 = 1 ∧ (okS (knd fby tn) (fin fby tn) 7 7 (fin fby tn gq21) oq21 uq21 ga2_52 ow2_48 un2_49) ∧ (fq = fq2_46) ∧ (pq = pq2_47) ∧ (tkC fby tn ga2_52 ta2_41 ts2_42 tk2_43 tm2_44 tr2_45) ∧ ((fin fby tn gq21) < ga2_52 ∧ ga2_52 ≤ tn)) ∨ (zr40 = 0 ∧ (noS (knd fby tn) (fin fby tn) 7 7 (fin fby tn gq21) oq21 uq21 ga2_52) ∧ (flt fby tn ga2_52 2 fq2_46 pq2_47))) := hw40
            obtain ⟨f_53, f_54, f_55, f_56, f_57, f_58, f_59⟩ := hw40
            rcases f_59 with ⟨hz_65, a_60, a_61, a_62, a_63, a_64⟩ | ⟨hz_68, a_66, a_67⟩
            · subst hz_65
              subst a_61
              subst a_62
              have hg_a_64 := a_64
              refine lv_istore_n (lv' := [(2, .int 1), (4, .int (nI kq21)), (3, .int (nI i21)), (0, .ref d0), (1, .int 7)]) hx hb dX10_takeTerm_53 rfl hl (by decide) rfl (fun ls hl => ?_)
              refine lv_aload_n hx hb dX10_takeTerm_54 rfl (lv_at hl 3 rfl) ?_
              refine va_get (D := D) (ci := 10) (v := .ref f0) (C := RX10) (T := TX10) (N := 10) hx hb hg i_X10 hown hK hP 0 rfl rfl 3 (by decide) (hg _ m_258) (fun _ h9 => h9) rfl dX10_takeTerm_55 ?_
              refine lv_iload hx hb dX10_takeTerm_58 (lv_at hl 1 rfl) ?_
              refine x_callVv (q := (RX3, TX3, 4)) (ci := 3) (q0 := 0) (wr := [wO d0 10 [.ref t0, .ref d1, .ref h0, .ref f0, .int (nI ow2_48), .int wt, .int dt, .int vv, .int fq, .int pq], wO t0 9 [.ref t1, .ref t2, .int (nI tn), .int (nI ta2_41), .int (nI ts2_42), .int (nI tk2_43), .long tm2_44, .int tr2_45], wI (cy 0) t1 1600 (fby), (t2, .inl (cy 2, 24, .inr (.inl (fky)))), wO h0 4 [.ref h1, .ref h2, .ref h3, .ref h4, .ref h5, .ref h6, .ref h7, .ref h8, .ref h9, .ref h10, .ref h11, hv0, hv1, hv2, hv3, .int (nI un2_49)]]) (rest := []) ⟨hx, hb, hml, hown, hg, hl.1⟩ k_X10_182 (s_addDeed l D cy f0 f1 f2 nf2_50 y3 fco2_51 kq21 (by omega) (f_56) (by omega)) E0_blind hK hP hD hS hA [5, 6] [0, 1, 2, 3, 4] ⟨rfl, rfl, by decide +kernel, by decide +kernel, by decide +kernel⟩ rfl rfl (fun _ _ _ => trivial) dX10_takeTerm_60 rfl rfl (Nat.le_of_ble_eq_true rfl) ⟨Nat.le_of_ble_eq_true rfl, Nat.le_of_ble_eq_true rfl⟩ ⟨Nat.le_of_ble_eq_true rfl, Nat.le_of_ble_eq_true rfl⟩ (fun zu69 H locs hw69 hP9 hD9 hS9 => ?_)
              clear hP hD hS
              obtain ⟨n2_70, fc2_71⟩ := zu69
              refine reW [wO d0 10 [.ref t0, .ref d1, .ref h0, .ref f0, .int (nI ow2_48), .int wt, .int dt, .int vv, .int fq, .int pq], wO t0 9 [.ref t1, .ref t2, .int (nI tn), .int (nI ta2_41), .int (nI ts2_42), .int (nI tk2_43), .long tm2_44, .int tr2_45], wI (cy 0) t1 1600 (fby), (t2, .inl (cy 2, 24, .inr (.inl (fky)))), wO h0 4 [.ref h1, .ref h2, .ref h3, .ref h4, .ref h5, .ref h6, .ref h7, .ref h8, .ref h9, .ref h10, .ref h11, hv0, hv1, hv2, hv3, .int (nI un2_49)], wO f0 3 [.ref f1, .ref f2, .int (nI n2_70), y3], wI (cy 1) f1 280 (fc2_71)] hP9 hD9 hS9 (fun hP hD hS => ?_)
              clear hP9 hD9 hS9
              refine W.widen (k := 0) (n := 0) (Nat.le_of_ble_eq_true rfl) (Nat.le_of_ble_eq_true rfl) ?_
              replace hw69 : (n2_70 ≤ 280) ∧ (cOK fc2_71 n2_70) := hw69
              obtain ⟨f_72, f_73⟩ := hw69
              refine lv_iinc (v := nI (i21 + 1)) (lv' := [(3, .int (nI (i21 + 1))), (2, .int 1), (4, .int (nI kq21)), (0, .ref d0), (1, .int 7)]) hx hb dX10_takeTerm_63 hl (k := 2) rfl (nI_add i21 1) (by decide) rfl (fun ls hl => ?_)
              refine lv_goto (tgt := 8) hx hb dX10_takeTerm_66 (by decide) ?_
              exact ih21  1 ((i21 + 1)) ta2_41 ts2_42 tk2_43 tm2_44 tr2_45 ow2_48 fq pq un2_49 n2_70 ga2_52 fc2_71 f_73 (by omega) (by omega) (by omega) (by omega) (by omega) (by omega) (Or.inl ⟨rfl, inS_step lvP67 hin9 hop.1 hop.2 a_60, a_63, by omega, by omega, by omega, rfl, rfl⟩) (by omega) _ _ (hP.sub [0, 1, 2, 3, 4, 5, 6] rfl) (hD.sub [0, 1, 2, 3, 4, 5, 6] (by decide +kernel) rfl) hS ls (lv_sub hl [0, 1, 3, 4] rfl)
            · subst hz_68
              refine lv_istore_n (lv' := [(2, .int 0), (4, .int (nI kq21)), (3, .int (nI i21)), (0, .ref d0), (1, .int 7)]) hx hb dX10_takeTerm_53 rfl hl (by decide) rfl (fun ls hl => ?_)
              refine lv_aload_n hx hb dX10_takeTerm_54 rfl (lv_at hl 3 rfl) ?_
              refine va_get (D := D) (ci := 10) (v := .ref f0) (C := RX10) (T := TX10) (N := 10) hx hb hg i_X10 hown hK hP 0 rfl rfl 3 (by decide) (hg _ m_258) (fun _ h9 => h9) rfl dX10_takeTerm_55 ?_
              refine lv_iload hx hb dX10_takeTerm_58 (lv_at hl 1 rfl) ?_
              refine x_callVv (q := (RX3, TX3, 4)) (ci := 3) (q0 := 0) (wr := [wO d0 10 [.ref t0, .ref d1, .ref h0, .ref f0, .int (nI ow2_48), .int wt, .int dt, .int vv, .int fq2_46, .int pq2_47], wO t0 9 [.ref t1, .ref t2, .int (nI tn), .int (nI ta2_41), .int (nI ts2_42), .int (nI tk2_43), .long tm2_44, .int tr2_45], wI (cy 0) t1 1600 (fby), (t2, .inl (cy 2, 24, .inr (.inl (fky)))), wO h0 4 [.ref h1, .ref h2, .ref h3, .ref h4, .ref h5, .ref h6, .ref h7, .ref h8, .ref h9, .ref h10, .ref h11, hv0, hv1, hv2, hv3, .int (nI un2_49)]]) (rest := []) ⟨hx, hb, hml, hown, hg, hl.1⟩ k_X10_182 (s_addDeed l D cy f0 f1 f2 nf2_50 y3 fco2_51 kq21 (by omega) (f_56) (by omega)) E0_blind hK hP hD hS hA [5, 6] [0, 1, 2, 3, 4] ⟨rfl, rfl, by decide +kernel, by decide +kernel, by decide +kernel⟩ rfl rfl (fun _ _ _ => trivial) dX10_takeTerm_60 rfl rfl (Nat.le_of_ble_eq_true rfl) ⟨Nat.le_of_ble_eq_true rfl, Nat.le_of_ble_eq_true rfl⟩ ⟨Nat.le_of_ble_eq_true rfl, Nat.le_of_ble_eq_true rfl⟩ (fun zu74 H locs hw74 hP9 hD9 hS9 => ?_)
              clear hP hD hS
              obtain ⟨n2_75, fc2_76⟩ := zu74
              refine reW [wO d0 10 [.ref t0, .ref d1, .ref h0, .ref f0, .int (nI ow2_48), .int wt, .int dt, .int vv, .int fq2_46, .int pq2_47], wO t0 9 [.ref t1, .ref t2, .int (nI tn), .int (nI ta2_41), .int (nI ts2_42), .int (nI tk2_43), .long tm2_44, .int tr2_45], wI (cy 0) t1 1600 (fby), (t2, .inl (cy 2, 24, .inr (.inl (fky)))), wO h0 4 [.ref h1, .ref h2, .ref h3, .ref h4, .ref h5, .ref h6, .ref h7, .ref h8, .ref h9, .ref h10, .ref h11, hv0, hv1, hv2, hv3, .int (nI un2_49)], wO f0 3 [.ref f1, .ref f2, .int (nI n2_75), y3], wI (cy 1) f1 280 (fc2_76)] hP9 hD9 hS9 (fun hP hD hS => ?_)
              clear hP9 hD9 hS9
              refine W.widen (k := 0) (n := 0) (Nat.le_of_ble_eq_true rfl) (Nat.le_of_ble_eq_true rfl) ?_
              replace hw74 : (n2_75 ≤ 280) ∧ (cOK fc2_76 n2_75) := hw74
              obtain ⟨f_77, f_78⟩ := hw74
              refine lv_iinc (v := nI (i21 + 1)) (lv' := [(3, .int (nI (i21 + 1))), (2, .int 0), (4, .int (nI kq21)), (0, .ref d0), (1, .int 7)]) hx hb dX10_takeTerm_63 hl (k := 2) rfl (nI_add i21 1) (by decide) rfl (fun ls hl => ?_)
              refine lv_goto (tgt := 8) hx hb dX10_takeTerm_66 (by decide) ?_
              exact ih21  0 ((i21 + 1)) ta2_41 ts2_42 tk2_43 tm2_44 tr2_45 ow2_48 fq2_46 pq2_47 un2_49 n2_75 ga2_52 fc2_76 f_78 (by omega) (by omega) (by omega) (by omega) (by omega) (by omega) (Or.inr ⟨rfl, inS_bad lvP67 hin9 hop.1 hop.2 a_66, a_67⟩) (by omega) _ _ (hP.sub [0, 1, 2, 3, 4, 5, 6] rfl) (hD.sub [0, 1, 2, 3, 4, 5, 6] (by decide +kernel) rfl) hS ls (lv_sub hl [0, 1, 3, 4] rfl)
          · subst hz_29
            refine lv_if_eq (tgt := 69) hx hb dX10_takeTerm_29 (by decide) (fun _ => ?_) (fun h => absurd (by decide) h)
            refine lv_iload_n hx hb dX10_takeTerm_69 rfl (lv_at hl 1 rfl) ?_
            exact x_zret hQ hx hb hr hlocks hK hP hD hS rfl dX10_takeTerm_70 (aq21, sq21, kq21, fl5_21, rq21, fq, pq, oq21, uq21, nq21, fa13_21, gq21) (⟨(show aq21 ≤ tn from by omega), (show kq21 ≤ 123 from by omega), (show nq21 ≤ 280 from by omega), ha14_21, (show oq21 ≤ 30 from by omega), (show uq21 ≤ 60 from by omega), (show ((1 : Int32) = 1 ∧ (okS (knd fby tn) (fin fby tn) 6 7 ga ow un gq21 oq21 uq21) ∧ (fq = fq) ∧ (pq = pq) ∧ (tkC fby tn gq21 aq21 sq21 kq21 fl5_21 rq21) ∧ (ga < gq21 ∧ gq21 ≤ tn)) ∨ ((1 : Int32) = 0 ∧ (noS (knd fby tn) (fin fby tn) 6 7 ga ow un gq21) ∧ (flt fby tn gq21 2 fq pq)) from Or.inl ⟨rfl, (inS_end lvP67 hin9 (sg_ne6 (by have h9 := htk9.2.2.1; omega))), (rfl), (rfl), (htk9), (⟨by omega, by omega⟩)⟩)⟩) [0, 1, 2, 3, 4, 5, 6] (by decide +kernel) rfl (Nat.le_of_ble_eq_true rfl) (Nat.le_of_ble_eq_true rfl)
      · subst hlb
        refine lv_iload_n hx hb dX10_takeTerm_8 rfl (lv_at hl 0 rfl) ?_
        refine lv_sipush (v := 1600) hx hb dX10_takeTerm_9 (by decide) ?_
        refine lv_icmp_ge (tgt := 69) hx hb dX10_takeTerm_12 (by decide) (fun c_79 => ?_) (fun c_79 => ?_)
        · have q_80 : 1600 ≤ i21 := q_le (a := 1600) (b := i21) rfl rfl (by omega) (by omega) c_79
          refine lv_iload_n hx hb dX10_takeTerm_69 rfl (lv_at hl 1 rfl) ?_
          exact x_zret hQ hx hb hr hlocks hK hP hD hS rfl dX10_takeTerm_70 (aq21, sq21, kq21, fl5_21, rq21, fz21, pz21, oq21, uq21, nq21, fa13_21, gq21) (⟨(show aq21 ≤ tn from by omega), (show kq21 ≤ 123 from by omega), (show nq21 ≤ 280 from by omega), ha14_21, (show oq21 ≤ 30 from by omega), (show uq21 ≤ 60 from by omega), (show ((0 : Int32) = 1 ∧ (okS (knd fby tn) (fin fby tn) 6 7 ga ow un gq21 oq21 uq21) ∧ (fq = fz21) ∧ (pq = pz21) ∧ (tkC fby tn gq21 aq21 sq21 kq21 fl5_21 rq21) ∧ (ga < gq21 ∧ gq21 ≤ tn)) ∨ ((0 : Int32) = 0 ∧ (noS (knd fby tn) (fin fby tn) 6 7 ga ow un gq21) ∧ (flt fby tn gq21 2 fz21 pz21)) from Or.inr (⟨rfl, (hno9), (hfl9)⟩))⟩) [0, 1, 2, 3, 4, 5, 6] (by decide +kernel) rfl (Nat.le_of_ble_eq_true rfl) (Nat.le_of_ble_eq_true rfl)
        · have q_80 : i21 < 1600 := q_nle (a := 1600) (b := i21) rfl rfl (by omega) (by omega) c_79
          refine lv_iload_n hx hb dX10_takeTerm_15 rfl (lv_at hl 1 rfl) ?_
          refine lv_if_eq (tgt := 69) hx hb dX10_takeTerm_16 (by decide) (fun _ => ?_) (fun h => absurd (by decide) h)
          refine lv_iload_n hx hb dX10_takeTerm_69 rfl (lv_at hl 1 rfl) ?_
          exact x_zret hQ hx hb hr hlocks hK hP hD hS rfl dX10_takeTerm_70 (aq21, sq21, kq21, fl5_21, rq21, fz21, pz21, oq21, uq21, nq21, fa13_21, gq21) (⟨(show aq21 ≤ tn from by omega), (show kq21 ≤ 123 from by omega), (show nq21 ≤ 280 from by omega), ha14_21, (show oq21 ≤ 30 from by omega), (show uq21 ≤ 60 from by omega), (show ((0 : Int32) = 1 ∧ (okS (knd fby tn) (fin fby tn) 6 7 ga ow un gq21 oq21 uq21) ∧ (fq = fz21) ∧ (pq = pz21) ∧ (tkC fby tn gq21 aq21 sq21 kq21 fl5_21 rq21) ∧ (ga < gq21 ∧ gq21 ≤ tn)) ∨ ((0 : Int32) = 0 ∧ (noS (knd fby tn) (fin fby tn) 6 7 ga ow un gq21) ∧ (flt fby tn gq21 2 fz21 pz21)) from Or.inr (⟨rfl, (hno9), (hfl9)⟩))⟩) [0, 1, 2, 3, 4, 5, 6] (by decide +kernel) rfl (Nat.le_of_ble_eq_true rfl) (Nat.le_of_ble_eq_true rfl)
  exact loop21 _ zr1 0 ta2_2 ts2_3 tk2_4 tm2_5 tr2_6 ow2_9 fq2_7 pq2_8 un2_10 nf2_11 ga2_13 fco2_12 f_17 (by omega) (by omega) (by omega) (by omega) (by omega) (by omega) (by rcases f_20 with ⟨hx0, hxk, hxq, hxp, hxt, hxg⟩ | ⟨hx0, hxn, hxl⟩; exact Or.inl ⟨hx0, inS_0 lvP67 hxk, hxt, hxg.1, hxg.2, by omega, hxq, hxp⟩; exact Or.inr ⟨hx0, noS_0 lvP67 hxn, hxl⟩) (Nat.le_refl _) _ _ (hP.sub [0, 1, 2, 3, 4, 5, 6] rfl) (hD.sub [0, 1, 2, 3, 4, 5, 6] (by decide +kernel) rfl) hS ls (lv_sub hl [0, 1, 2, 3] rfl)
theorem gdX10_takeSum_0 : decode cX10_takeSum 0 = .ok (.aload_n 0, 1) ∧ decode cX10_takeSum 1 = .ok (.iload_n 1, 1) ∧ decode cX10_takeSum 2 = .ok (.invokevirtual 195, 3) := by decide +kernel
theorem dX10_takeSum_0 : decode cX10_takeSum 0 = .ok (.aload_n 0, 1) := gdX10_takeSum_0.1
theorem dX10_takeSum_1 : decode cX10_takeSum 1 = .ok (.iload_n 1, 1) := gdX10_takeSum_0.2.1
theorem dX10_takeSum_2 : decode cX10_takeSum 2 = .ok (.invokevirtual 195, 3) := gdX10_takeSum_0.2.2
theorem k_X10_195 : xV RX10 RX10 195 yX10_takeTerm cX10_takeTerm 5 (some .boolean) 1 := ⟨⟨m_891, m_893, m_24, m_136, m_894⟩, rfl, by decide, by decide, by decide +kernel⟩
theorem gdX10_takeSum_5 : decode cX10_takeSum 5 = .ok (.istore_n 2, 1) ∧ decode cX10_takeSum 6 = .ok (.iconst 0, 1) ∧ decode cX10_takeSum 7 = .ok (.istore_n 3, 1) ∧ decode cX10_takeSum 8 = .ok (.iload_n 3, 1) ∧ decode cX10_takeSum 9 = .ok (.sipush 1600, 3) ∧ decode cX10_takeSum 12 = .ok (.if_icmp .ge 68, 3) ∧ decode cX10_takeSum 15 = .ok (.iload_n 2, 1) ∧ decode cX10_takeSum 16 = .ok (.ifCond .eq 64, 3) ∧ decode cX10_takeSum 19 = .ok (.aload_n 0, 1) ∧ decode cX10_takeSum 20 = .ok (.getfield 16, 3) ∧ decode cX10_takeSum 23 = .ok (.getfield 55, 3) ∧ decode cX10_takeSum 26 = .ok (.bipush 43, 2) := by decide +kernel
theorem dX10_takeSum_5 : decode cX10_takeSum 5 = .ok (.istore_n 2, 1) := gdX10_takeSum_5.1
theorem dX10_takeSum_6 : decode cX10_takeSum 6 = .ok (.iconst 0, 1) := gdX10_takeSum_5.2.1
theorem dX10_takeSum_7 : decode cX10_takeSum 7 = .ok (.istore_n 3, 1) := gdX10_takeSum_5.2.2.1
theorem dX10_takeSum_8 : decode cX10_takeSum 8 = .ok (.iload_n 3, 1) := gdX10_takeSum_5.2.2.2.1
theorem dX10_takeSum_9 : decode cX10_takeSum 9 = .ok (.sipush 1600, 3) := gdX10_takeSum_5.2.2.2.2.1
theorem dX10_takeSum_12 : decode cX10_takeSum 12 = .ok (.if_icmp .ge 68, 3) := gdX10_takeSum_5.2.2.2.2.2.1
theorem dX10_takeSum_15 : decode cX10_takeSum 15 = .ok (.iload_n 2, 1) := gdX10_takeSum_5.2.2.2.2.2.2.1
theorem dX10_takeSum_16 : decode cX10_takeSum 16 = .ok (.ifCond .eq 64, 3) := gdX10_takeSum_5.2.2.2.2.2.2.2.1
theorem dX10_takeSum_19 : decode cX10_takeSum 19 = .ok (.aload_n 0, 1) := gdX10_takeSum_5.2.2.2.2.2.2.2.2.1
theorem dX10_takeSum_20 : decode cX10_takeSum 20 = .ok (.getfield 16, 3) := gdX10_takeSum_5.2.2.2.2.2.2.2.2.2.1
theorem dX10_takeSum_23 : decode cX10_takeSum 23 = .ok (.getfield 55, 3) := gdX10_takeSum_5.2.2.2.2.2.2.2.2.2.2.1
theorem dX10_takeSum_26 : decode cX10_takeSum 26 = .ok (.bipush 43, 2) := gdX10_takeSum_5.2.2.2.2.2.2.2.2.2.2.2
theorem gdX10_takeSum_28 : decode cX10_takeSum 28 = .ok (.if_icmp .eq 15, 3) ∧ decode cX10_takeSum 43 = .ok (.aload_n 0, 1) ∧ decode cX10_takeSum 44 = .ok (.getfield 16, 3) ∧ decode cX10_takeSum 47 = .ok (.getfield 55, 3) ∧ decode cX10_takeSum 50 = .ok (.istore 4, 2) ∧ decode cX10_takeSum 52 = .ok (.aload_n 0, 1) ∧ decode cX10_takeSum 53 = .ok (.getfield 16, 3) ∧ decode cX10_takeSum 56 = .ok (.invokevirtual 140, 3) ∧ decode cX10_takeSum 59 = .ok (.aload_n 0, 1) ∧ decode cX10_takeSum 60 = .ok (.iload_n 1, 1) ∧ decode cX10_takeSum 61 = .ok (.invokevirtual 195, 3) ∧ decode cX10_takeSum 64 = .ok (.istore_n 2, 1) := by decide +kernel
theorem dX10_takeSum_28 : decode cX10_takeSum 28 = .ok (.if_icmp .eq 15, 3) := gdX10_takeSum_28.1
theorem dX10_takeSum_43 : decode cX10_takeSum 43 = .ok (.aload_n 0, 1) := gdX10_takeSum_28.2.1
theorem dX10_takeSum_44 : decode cX10_takeSum 44 = .ok (.getfield 16, 3) := gdX10_takeSum_28.2.2.1
theorem dX10_takeSum_47 : decode cX10_takeSum 47 = .ok (.getfield 55, 3) := gdX10_takeSum_28.2.2.2.1
theorem dX10_takeSum_50 : decode cX10_takeSum 50 = .ok (.istore 4, 2) := gdX10_takeSum_28.2.2.2.2.1
theorem dX10_takeSum_52 : decode cX10_takeSum 52 = .ok (.aload_n 0, 1) := gdX10_takeSum_28.2.2.2.2.2.1
theorem dX10_takeSum_53 : decode cX10_takeSum 53 = .ok (.getfield 16, 3) := gdX10_takeSum_28.2.2.2.2.2.2.1
theorem dX10_takeSum_56 : decode cX10_takeSum 56 = .ok (.invokevirtual 140, 3) := gdX10_takeSum_28.2.2.2.2.2.2.2.1
theorem dX10_takeSum_59 : decode cX10_takeSum 59 = .ok (.aload_n 0, 1) := gdX10_takeSum_28.2.2.2.2.2.2.2.2.1
theorem dX10_takeSum_60 : decode cX10_takeSum 60 = .ok (.iload_n 1, 1) := gdX10_takeSum_28.2.2.2.2.2.2.2.2.2.1
theorem dX10_takeSum_61 : decode cX10_takeSum 61 = .ok (.invokevirtual 195, 3) := gdX10_takeSum_28.2.2.2.2.2.2.2.2.2.2.1
theorem dX10_takeSum_64 : decode cX10_takeSum 64 = .ok (.istore_n 2, 1) := gdX10_takeSum_28.2.2.2.2.2.2.2.2.2.2.2
theorem gdX10_takeSum_65 : decode cX10_takeSum 65 = .ok (.aload_n 0, 1) ∧ decode cX10_takeSum 66 = .ok (.getfield 34, 3) ∧ decode cX10_takeSum 69 = .ok (.iload 4, 2) ∧ decode cX10_takeSum 71 = .ok (.invokevirtual 182, 3) ∧ decode cX10_takeSum 74 = .ok (.iinc 3 1, 3) ∧ decode cX10_takeSum 77 = .ok (.goto (-69), 3) ∧ decode cX10_takeSum 31 = .ok (.aload_n 0, 1) ∧ decode cX10_takeSum 32 = .ok (.getfield 16, 3) ∧ decode cX10_takeSum 35 = .ok (.getfield 55, 3) ∧ decode cX10_takeSum 38 = .ok (.bipush 45, 2) ∧ decode cX10_takeSum 40 = .ok (.if_icmp .ne 40, 3) ∧ decode cX10_takeSum 80 = .ok (.iload_n 2, 1) := by decide +kernel
theorem dX10_takeSum_65 : decode cX10_takeSum 65 = .ok (.aload_n 0, 1) := gdX10_takeSum_65.1
theorem dX10_takeSum_66 : decode cX10_takeSum 66 = .ok (.getfield 34, 3) := gdX10_takeSum_65.2.1
theorem dX10_takeSum_69 : decode cX10_takeSum 69 = .ok (.iload 4, 2) := gdX10_takeSum_65.2.2.1
theorem dX10_takeSum_71 : decode cX10_takeSum 71 = .ok (.invokevirtual 182, 3) := gdX10_takeSum_65.2.2.2.1
theorem dX10_takeSum_74 : decode cX10_takeSum 74 = .ok (.iinc 3 1, 3) := gdX10_takeSum_65.2.2.2.2.1
theorem dX10_takeSum_77 : decode cX10_takeSum 77 = .ok (.goto (-69), 3) := gdX10_takeSum_65.2.2.2.2.2.1
theorem dX10_takeSum_31 : decode cX10_takeSum 31 = .ok (.aload_n 0, 1) := gdX10_takeSum_65.2.2.2.2.2.2.1
theorem dX10_takeSum_32 : decode cX10_takeSum 32 = .ok (.getfield 16, 3) := gdX10_takeSum_65.2.2.2.2.2.2.2.1
theorem dX10_takeSum_35 : decode cX10_takeSum 35 = .ok (.getfield 55, 3) := gdX10_takeSum_65.2.2.2.2.2.2.2.2.1
theorem dX10_takeSum_38 : decode cX10_takeSum 38 = .ok (.bipush 45, 2) := gdX10_takeSum_65.2.2.2.2.2.2.2.2.2.1
theorem dX10_takeSum_40 : decode cX10_takeSum 40 = .ok (.if_icmp .ne 40, 3) := gdX10_takeSum_65.2.2.2.2.2.2.2.2.2.2.1
theorem dX10_takeSum_80 : decode cX10_takeSum 80 = .ok (.iload_n 2, 1) := gdX10_takeSum_65.2.2.2.2.2.2.2.2.2.2.2
theorem dX10_takeSum_81 : decode cX10_takeSum 81 = .ok (.ireturn, 1) := by decide +kernel
set_option maxHeartbeats 1000000 in
set_option maxRecDepth 100000 in
theorem s_takeSum7 (l : Launch) (D : va_G) (cy : Nat → ClassId) (adK : Nat → Nat) (adV : Nat → Nat) (d0 : Nat) (d1 : Nat) (wt : Int32) (dt : Int32) (vv : Int32) (fq : Int32) (pq : Int32) (t0 : Nat) (t1 : Nat) (t2 : Nat) (tn : Nat) (ta : Nat) (ts : Nat) (tk : Nat) (tm : Int64) (tr : Int32) (fby : Nat → Int32) (fky : Nat → Int64) (h0 : Nat) (h1 : Nat) (h2 : Nat) (h3 : Nat) (h4 : Nat) (h5 : Nat) (h6 : Nat) (h7 : Nat) (h8 : Nat) (h9 : Nat) (h10 : Nat) (h11 : Nat) (hv0 : Value) (hv1 : Value) (hv2 : Value) (hv3 : Value) (ow : Nat) (un : Nat) (f0 : Nat) (f1 : Nat) (f2 : Nat) (nf : Nat) (y3 : Value) (fco : Nat → Int32) (ga : Nat) (htn : tn ≤ 1600) (hta : ta ≤ tn) (htk : tk ≤ 123) (hti : tkC fby tn ga ta ts tk tm tr) (hky : kyOK fky) (hnf : nf ≤ 280) (hfc : cOK fco nf) (how : ow ≤ 30) (hun : un ≤ 60) (hga : ga ≤ tn) : XMi l D (tyL cy) (EV adK adV) yX10_takeSum cX10_takeSum 5 (some .boolean) (rmk 9 0 0) [.ref d0, .int 7] [wO d0 10 [.ref t0, .ref d1, .ref h0, .ref f0, .int (nI ow), .int wt, .int dt, .int vv, .int fq, .int pq], wO t0 9 [.ref t1, .ref t2, .int (nI tn), .int (nI ta), .int (nI ts), .int (nI tk), .long tm, .int tr], wI (cy 0) t1 1600 (fby), (t2, .inl (cy 2, 24, .inr (.inl (fky)))), wO h0 4 [.ref h1, .ref h2, .ref h3, .ref h4, .ref h5, .ref h6, .ref h7, .ref h8, .ref h9, .ref h10, .ref h11, hv0, hv1, hv2, hv3, .int (nI un)], wO f0 3 [.ref f1, .ref f2, .int (nI nf), y3], wI (cy 1) f1 280 (fco)] (fun (r : Int32) (u : Nat × Nat × Nat × Int64 × Int32 × Int32 × Int32 × Nat × Nat × Nat × (Nat → Int32) × Nat) => (u.1 ≤ tn) ∧ (u.2.2.1 ≤ 123) ∧ (u.2.2.2.2.2.2.2.2.2.1 ≤ 280) ∧ (cOK u.2.2.2.2.2.2.2.2.2.2.1 u.2.2.2.2.2.2.2.2.2.1) ∧ (u.2.2.2.2.2.2.2.1 ≤ 30) ∧ (u.2.2.2.2.2.2.2.2.1 ≤ 60) ∧ ((r = 1 ∧ (okS (knd fby tn) (fin fby tn) 5 7 ga ow un u.2.2.2.2.2.2.2.2.2.2.2 u.2.2.2.2.2.2.2.1 u.2.2.2.2.2.2.2.2.1) ∧ (fq = u.2.2.2.2.2.1) ∧ (pq = u.2.2.2.2.2.2.1) ∧ (tkC fby tn u.2.2.2.2.2.2.2.2.2.2.2 u.1 u.2.1 u.2.2.1 u.2.2.2.1 u.2.2.2.2.1) ∧ (ga < u.2.2.2.2.2.2.2.2.2.2.2 ∧ u.2.2.2.2.2.2.2.2.2.2.2 ≤ tn)) ∨ (r = 0 ∧ (noS (knd fby tn) (fin fby tn) 5 7 ga ow un u.2.2.2.2.2.2.2.2.2.2.2) ∧ (flt fby tn u.2.2.2.2.2.2.2.2.2.2.2 2 u.2.2.2.2.2.1 u.2.2.2.2.2.2.1)))) (fun (u : Nat × Nat × Nat × Int64 × Int32 × Int32 × Int32 × Nat × Nat × Nat × (Nat → Int32) × Nat) => [wO d0 10 [.ref t0, .ref d1, .ref h0, .ref f0, .int (nI u.2.2.2.2.2.2.2.1), .int wt, .int dt, .int vv, .int u.2.2.2.2.2.1, .int u.2.2.2.2.2.2.1], wO t0 9 [.ref t1, .ref t2, .int (nI tn), .int (nI u.1), .int (nI u.2.1), .int (nI u.2.2.1), .long u.2.2.2.1, .int u.2.2.2.2.1], wI (cy 0) t1 1600 (fby), (t2, .inl (cy 2, 24, .inr (.inl (fky)))), wO h0 4 [.ref h1, .ref h2, .ref h3, .ref h4, .ref h5, .ref h6, .ref h7, .ref h8, .ref h9, .ref h10, .ref h11, hv0, hv1, hv2, hv3, .int (nI u.2.2.2.2.2.2.2.2.1)], wO f0 3 [.ref f1, .ref f2, .int (nI u.2.2.2.2.2.2.2.2.2.1), y3], wI (cy 1) f1 280 (u.2.2.2.2.2.2.2.2.2.2.1)]) := by
  refine XMi.start (by decide) (Nat.le_of_ble_eq_true rfl) ?_
  intro p e s m below meth c args A ls Q hat hQ
  obtain ⟨hx, hb, hr, hml, hown, hg, hlocks, hin, hK, hA, hP, hD, hS, hE, hl⟩ := hat
  have hown : s.vm.findClass RX10 = some m.cls := hown
  have hl : lv_has ls 5 [(0, .ref d0), (1, .int 7)] := hl
  refine lv_aload_n hx hb dX10_takeSum_0 rfl (lv_at hl 0 rfl) ?_
  refine lv_iload_n hx hb dX10_takeSum_1 rfl (lv_at hl 1 rfl) ?_
  refine x_callVi (q := (RX10, TX10, 10)) (ci := 10) (q0 := 0) (wr := []) (rest := []) ⟨hx, hb, hml, hown, hg, hl.1⟩ k_X10_195 (s_takeTerm7 l D cy adK adV d0 d1 wt dt vv fq pq t0 t1 t2 tn ta ts tk tm tr fby fky h0 h1 h2 h3 h4 h5 h6 h7 h8 h9 h10 h11 hv0 hv1 hv2 hv3 ow un f0 f1 f2 nf y3 fco ga (by omega) (by omega) (by omega) (hti) (hky) (by omega) (hfc) (by omega) (by omega) (by omega)) EV_blind hK hP hD hS hA [0, 1, 2, 3, 4, 5, 6] [] ⟨rfl, rfl, by decide +kernel, by decide +kernel, by decide +kernel⟩ rfl rfl (fun U hU hW => EV_pass hE hS (va_free hD hS hA [0, 1, 2, 3, 4, 5, 6] rfl) hU hW) dX10_takeSum_2 rfl rfl (Nat.le_of_ble_eq_true rfl) ⟨Nat.le_of_ble_eq_true rfl, Nat.le_of_ble_eq_true rfl⟩ ⟨Nat.le_of_ble_eq_true rfl, Nat.le_of_ble_eq_true rfl⟩ (fun zr1 zu1 H locs hw1 hP9 hD9 hS9 => ?_)
  clear hP hD hS
  obtain ⟨ta2_2, ts2_3, tk2_4, tm2_5, tr2_6, fq2_7, pq2_8, ow2_9, un2_10, nf2_11, fco2_12, ga2_13⟩ := zu1
  refine reW [wO d0 10 [.ref t0, .ref d1, .ref h0, .ref f0, .int (nI ow2_9), .int wt, .int dt, .int vv, .int fq2_7, .int pq2_8], wO t0 9 [.ref t1, .ref t2, .int (nI tn), .int (nI ta2_2), .int (nI ts2_3), .int (nI tk2_4), .long tm2_5, .int tr2_6], wI (cy 0) t1 1600 (fby), (t2, .inl (cy 2, 24, .inr (.inl (fky)))), wO h0 4 [.ref h1, .ref h2, .ref h3, .ref h4, .ref h5, .ref h6, .ref h7, .ref h8, .ref h9, .ref h10, .ref h11, hv0, hv1, hv2, hv3, .int (nI un2_10)], wO f0 3 [.ref f1, .ref f2, .int (nI nf2_11), y3], wI (cy 1) f1 280 (fco2_12)] hP9 hD9 hS9 (fun hP hD hS => ?_)
  clear hP9 hD9 hS9
  refine W.widen (k := 0) (n := 0) (Nat.le_of_ble_eq_true rfl) (Nat.le_of_ble_eq_true rfl) ?_
  replace hw1 : (ta2_2 ≤ tn) ∧ (tk2_4 ≤ 123) ∧ (nf2_11 ≤ 280) ∧ (cOK fco2_12 nf2_11) ∧ (ow2_9 ≤ 30) ∧ (un2_10 ≤ 60) ∧ ((zr1 = 1 ∧ (okS (knd fby tn) (fin fby tn) 6 7 ga ow un ga2_13 ow2_9 un2_10) ∧ (fq = fq2_7) ∧ (pq = pq2_8) ∧ (tkC fby tn ga2_13 ta2_2 ts2_3 tk2_4 tm2_5 tr2_6) ∧ (ga < ga2_13 ∧ ga2_13 ≤ tn)) ∨ (zr1 = 0 ∧ (noS (knd fby tn) (fin fby tn) 6 7 ga ow un ga2_13) ∧ (flt fby tn ga2_13 2 fq2_7 pq2_8))) := hw1
  obtain ⟨f_14, f_15, f_16, f_17, f_18, f_19, f_20⟩ := hw1
  refine lv_istore_n (lv' := [(2, .int zr1), (0, .ref d0), (1, .int 7)]) hx hb dX10_takeSum_5 rfl hl (by decide) rfl (fun ls hl => ?_)
  refine lv_iconst (v := 0) hx hb dX10_takeSum_6 (by decide) ?_
  refine lv_istore_n (lv' := [(3, .int 0), (2, .int zr1), (0, .ref d0), (1, .int 7)]) hx hb dX10_takeSum_7 rfl hl (by decide) rfl (fun ls hl => ?_)
  have loop21 : ∀ (zn : Nat) (lb2_21 : Int32) (i21 : Nat) (aq21 : Nat) (sq21 : Nat) (kq21 : Nat) (fl5_21 : Int64) (rq21 : Int32) (oq21 : Nat) (fz21 : Int32) (pz21 : Int32) (uq21 : Nat) (nq21 : Nat) (gq21 : Nat) (fa13_21 : Nat → Int32), (cOK fa13_21 nq21) → (i21 ≤ 1600) → (aq21 ≤ tn) → (kq21 ≤ 123) → (nq21 ≤ 280) → (oq21 ≤ 30) → (uq21 ≤ 60) → ((lb2_21 = 1 ∧ inS (knd fby tn) (fin fby tn) 5 6 7 ga ow un gq21 oq21 uq21 ∧ tkC fby tn gq21 aq21 sq21 kq21 fl5_21 rq21 ∧ ga < gq21 ∧ gq21 ≤ tn ∧ i21 < gq21 ∧ fq = fz21 ∧ pq = pz21) ∨ (lb2_21 = 0 ∧ noS (knd fby tn) (fin fby tn) 5 7 ga ow un gq21 ∧ flt fby tn gq21 2 fz21 pz21)) → 1600 - i21 + 1 ≤ zn → ∀ (H : Heap) (locs : List Loc), va_P D vwCl [wO d0 10 [.ref t0, .ref d1, .ref h0, .ref f0, .int (nI oq21), .int wt, .int dt, .int vv, .int fz21, .int pz21], wO t0 9 [.ref t1, .ref t2, .int (nI tn), .int (nI aq21), .int (nI sq21), .int (nI kq21), .long fl5_21, .int rq21], wI (cy 0) t1 1600 (fby), (t2, .inl (cy 2, 24, .inr (.inl (fky)))), wO h0 4 [.ref h1, .ref h2, .ref h3, .ref h4, .ref h5, .ref h6, .ref h7, .ref h8, .ref h9, .ref h10, .ref h11, hv0, hv1, hv2, hv3, .int (nI uq21)], wO f0 3 [.ref f1, .ref f2, .int (nI nq21), y3], wI (cy 1) f1 280 (fa13_21)] H → va_D A [wO d0 10 [.ref t0, .ref d1, .ref h0, .ref f0, .int (nI oq21), .int wt, .int dt, .int vv, .int fz21, .int pz21], wO t0 9 [.ref t1, .ref t2, .int (nI tn), .int (nI aq21), .int (nI sq21), .int (nI kq21), .long fl5_21, .int rq21], wI (cy 0) t1 1600 (fby), (t2, .inl (cy 2, 24, .inr (.inl (fky)))), wO h0 4 [.ref h1, .ref h2, .ref h3, .ref h4, .ref h5, .ref h6, .ref h7, .ref h8, .ref h9, .ref h10, .ref h11, hv0, hv1, hv2, hv3, .int (nI uq21)], wO f0 3 [.ref f1, .ref f2, .int (nI nq21), y3], wI (cy 1) f1 280 (fa13_21)] → va_S A s.heap H locs → ∀ ls : Array Slot, lv_has ls 5 [(3, .int (nI i21)), (2, .int lb2_21), (0, .ref d0), (1, .int 7)] → W p l e (rmk 9 0 0) s m args below meth c H locs 0 0 Q (F0 m 8 ls []) := by
    try clear hP hD hS
    intro zn
    induction zn with
    | zero => intro lb2_21 i21 aq21 sq21 kq21 fl5_21 rq21 oq21 fz21 pz21 uq21 nq21 gq21 fa13_21 _ _ _ _ _ _ _ _ hz; exact absurd hz (by omega)
    | succ zn ih21 =>
      intro lb2_21 i21 aq21 sq21 kq21 fl5_21 rq21 oq21 fz21 pz21 uq21 nq21 gq21 fa13_21 ha14_21 hf0_21 hf1_21 hf2_21 hf3_21 hf4_21 hf5_21 hf6_21 hmu21 H locs hP hD hS ls hl
      rcases hf6_21 with ⟨hlb, hin9, htk9, hg1, hg2, hg3, hfz, hpz⟩ | ⟨hlb, hno9, hfl9⟩
      · subst hlb hfz hpz
        refine lv_iload_n hx hb dX10_takeSum_8 rfl (lv_at hl 0 rfl) ?_
        refine lv_sipush (v := 1600) hx hb dX10_takeSum_9 (by decide) ?_
        refine lv_icmp_ge (tgt := 80) hx hb dX10_takeSum_12 (by decide) (fun c_22 => ?_) (fun c_22 => ?_)
        · have q_23 : 1600 ≤ i21 := q_le (a := 1600) (b := i21) rfl rfl (by omega) (by omega) c_22
          exact absurd q_23 (by omega)
        · have q_23 : i21 < 1600 := q_nle (a := 1600) (b := i21) rfl rfl (by omega) (by omega) c_22
          refine lv_iload_n hx hb dX10_takeSum_15 rfl (lv_at hl 1 rfl) ?_
          refine lv_if_eq (tgt := 80) hx hb dX10_takeSum_16 (by decide) (fun h => absurd h (by decide)) (fun _ => ?_)
          refine lv_aload_n hx hb dX10_takeSum_19 rfl (lv_at hl 2 rfl) ?_
          refine va_get (D := D) (ci := 10) (v := .ref t0) (C := RX10) (T := TX10) (N := 10) hx hb hg i_X10 hown hK hP 0 rfl rfl 0 (by decide) (hg _ m_255) (fun _ h9 => h9) rfl dX10_takeSum_20 ?_
          refine va_get (D := D) (ci := 9) (v := .int (nI kq21)) (C := RX9) (T := TX9) (N := 8) hx hb hg i_X9 hown hK hP 1 rfl rfl 5 (by decide) (hg _ m_222) (fun _ h9 => h9) rfl dX10_takeSum_23 ?_
          refine lv_bipush (v := 43) hx hb dX10_takeSum_26 (by decide) ?_
          refine lv_icmp_eq (tgt := 43) hx hb dX10_takeSum_28 (by decide) (fun c_24 => ?_) (fun c_24 => ?_)
          · have q_25 : kq21 = 43 := q_eq (a := kq21) (b := 43) rfl rfl (by omega) (by omega) c_24
            have hop := sg_5 (show knd fby tn gq21 = 43 ∨ knd fby tn gq21 = 45 from by have h9 := htk9.2.2.1; omega)
            have hgt_26 : gq21 < fin fby tn gq21 ∧ fin fby tn gq21 ≤ tn := ⟨fin_gt (by have h9 := htk9.2.2.1; omega), fin_le (by omega)⟩
            refine lv_aload_n hx hb dX10_takeSum_43 rfl (lv_at hl 2 rfl) ?_
            refine va_get (D := D) (ci := 10) (v := .ref t0) (C := RX10) (T := TX10) (N := 10) hx hb hg i_X10 hown hK hP 0 rfl rfl 0 (by decide) (hg _ m_255) (fun _ h9 => h9) rfl dX10_takeSum_44 ?_
            refine va_get (D := D) (ci := 9) (v := .int (nI kq21)) (C := RX9) (T := TX9) (N := 8) hx hb hg i_X9 hown hK hP 1 rfl rfl 5 (by decide) (hg _ m_222) (fun _ h9 => h9) rfl dX10_takeSum_47 ?_
            refine lv_istore (lv' := [(4, .int (nI kq21)), (3, .int (nI i21)), (2, .int 1), (0, .ref d0), (1, .int 7)]) hx hb dX10_takeSum_50 hl (by decide) rfl (fun ls hl => ?_)
            refine lv_aload_n hx hb dX10_takeSum_52 rfl (lv_at hl 3 rfl) ?_
            refine va_get (D := D) (ci := 10) (v := .ref t0) (C := RX10) (T := TX10) (N := 10) hx hb hg i_X10 hown hK hP 0 rfl rfl 0 (by decide) (hg _ m_255) (fun _ h9 => h9) rfl dX10_takeSum_53 ?_
            refine x_callVv (q := (RX9, TX9, 8)) (ci := 9) (q0 := 0) (wr := [wO d0 10 [.ref t0, .ref d1, .ref h0, .ref f0, .int (nI oq21), .int wt, .int dt, .int vv, .int fq, .int pq], wO h0 4 [.ref h1, .ref h2, .ref h3, .ref h4, .ref h5, .ref h6, .ref h7, .ref h8, .ref h9, .ref h10, .ref h11, hv0, hv1, hv2, hv3, .int (nI uq21)], wO f0 3 [.ref f1, .ref f2, .int (nI nq21), y3], wI (cy 1) f1 280 (fa13_21)]) (rest := []) ⟨hx, hb, hml, hown, hg, hl.1⟩ k_X10_140 (s_next l D cy adK adV t0 t1 t2 tn aq21 sq21 kq21 fl5_21 rq21 fby fky (fin fby tn gq21) (by omega) (by omega) (htk9.2.1) (hky)) EV_blind hK hP hD hS hA [1, 2, 3] [0, 4, 5, 6] ⟨rfl, rfl, by decide +kernel, by decide +kernel, by decide +kernel⟩ rfl rfl (fun U hU hW => EV_pass hE hS (va_free hD hS hA [1, 2, 3] rfl) hU hW) dX10_takeSum_56 rfl rfl (Nat.le_of_ble_eq_true rfl) ⟨Nat.le_of_ble_eq_true rfl, Nat.le_of_ble_eq_true rfl⟩ ⟨Nat.le_of_ble_eq_true rfl, Nat.le_of_ble_eq_true rfl⟩ (fun zu27 H locs hw27 hP9 hD9 hS9 => ?_)
            clear hP hD hS
            obtain ⟨ta2_28, ts2_29, tk2_30, tm2_31, tr2_32⟩ := zu27
            refine reW [wO d0 10 [.ref t0, .ref d1, .ref h0, .ref f0, .int (nI oq21), .int wt, .int dt, .int vv, .int fq, .int pq], wO h0 4 [.ref h1, .ref h2, .ref h3, .ref h4, .ref h5, .ref h6, .ref h7, .ref h8, .ref h9, .ref h10, .ref h11, hv0, hv1, hv2, hv3, .int (nI uq21)], wO f0 3 [.ref f1, .ref f2, .int (nI nq21), y3], wI (cy 1) f1 280 (fa13_21), wO t0 9 [.ref t1, .ref t2, .int (nI tn), .int (nI ta2_28), .int (nI ts2_29), .int (nI tk2_30), .long tm2_31, .int tr2_32], wI (cy 0) t1 1600 (fby), (t2, .inl (cy 2, 24, .inr (.inl (fky))))] hP9 hD9 hS9 (fun hP hD hS => ?_)
            clear hP9 hD9 hS9
            refine W.widen (k := 0) (n := 0) (Nat.le_of_ble_eq_true rfl) (Nat.le_of_ble_eq_true rfl) ?_
            replace hw27 : (ta2_28 ≤ tn) ∧ (tk2_30 ≤ 123) ∧ (tkC fby tn (fin fby tn gq21) ta2_28 ts2_29 tk2_30 tm2_31 tr2_32) := hw27
            obtain ⟨f_33, f_34, f_35⟩ := hw27
            refine lv_aload_n hx hb dX10_takeSum_59 rfl (lv_at hl 3 rfl) ?_
            refine lv_iload_n hx hb dX10_takeSum_60 rfl (lv_at hl 4 rfl) ?_
            refine x_callVi (q := (RX10, TX10, 10)) (ci := 10) (q0 := 0) (wr := []) (rest := []) ⟨hx, hb, hml, hown, hg, hl.1⟩ k_X10_195 (s_takeTerm7 l D cy adK adV d0 d1 wt dt vv fq pq t0 t1 t2 tn ta2_28 ts2_29 tk2_30 tm2_31 tr2_32 fby fky h0 h1 h2 h3 h4 h5 h6 h7 h8 h9 h10 h11 hv0 hv1 hv2 hv3 oq21 uq21 f0 f1 f2 nq21 y3 fa13_21 (fin fby tn gq21) (by omega) (by omega) (by omega) (f_35) (hky) (by omega) (ha14_21) (by omega) (by omega) (by omega)) EV_blind hK hP hD hS hA [0, 4, 5, 6, 1, 2, 3] [] ⟨rfl, rfl, by decide +kernel, by decide +kernel, by decide +kernel⟩ rfl rfl (fun U hU hW => EV_pass hE hS (va_free hD hS hA [0, 4, 5, 6, 1, 2, 3] rfl) hU hW) dX10_takeSum_61 rfl rfl (Nat.le_of_ble_eq_true rfl) ⟨Nat.le_of_ble_eq_true rfl, Nat.le_of_ble_eq_true rfl⟩ ⟨Nat.le_of_ble_eq_true rfl, Nat.le_of_ble_eq_true rfl⟩ (fun zr36 zu36 H locs hw36 hP9 hD9 hS9 => ?_)
            clear hP hD hS
            obtain ⟨ta2_37, ts2_38, tk2_39, tm2_40, tr2_41, fq2_42, pq2_43, ow2_44, un2_45, nf2_46, fco2_47, ga2_48⟩ := zu36
            refine reW [wO d0 10 [.ref t0, .ref d1, .ref h0, .ref f0, .int (nI ow2_44), .int wt, .int dt, .int vv, .int fq2_42, .int pq2_43], wO t0 9 [.ref t1, .ref t2, .int (nI tn), .int (nI ta2_37), .int (nI ts2_38), .int (nI tk2_39), .long tm2_40, .int tr2_41], wI (cy 0) t1 1600 (fby), (t2, .inl (cy 2, 24, .inr (.inl (fky)))), wO h0 4 [.ref h1, .ref h2, .ref h3, .ref h4, .ref h5, .ref h6, .ref h7, .ref h8, .ref h9, .ref h10, .ref h11, hv0, hv1, hv2, hv3, .int (nI un2_45)], wO f0 3 [.ref f1, .ref f2, .int (nI nf2_46), y3], wI (cy 1) f1 280 (fco2_47)] hP9 hD9 hS9 (fun hP hD hS => ?_)
            clear hP9 hD9 hS9
            refine W.widen (k := 0) (n := 0) (Nat.le_of_ble_eq_true rfl) (Nat.le_of_ble_eq_true rfl) ?_
            replace hw36 : (ta2_37 ≤ tn) ∧ (tk2_39 ≤ 123) ∧ (nf2_46 ≤ 280) ∧ (cOK fco2_47 nf2_46) ∧ (ow2_44 ≤ 30) ∧ (un2_45 ≤ 60) ∧ ((zr36 = 1 ∧ (okS (knd fby tn) (fin fby tn) 6 7 (fin fby tn gq21) oq21 uq21 ga2_48 ow2_44 un2_45) ∧ (fq = fq2_42) ∧ (pq = pq2_43) ∧ (tkC fby tn ga2_48 ta2_37 ts2_38 tk2_39 tm2_40 tr2_41) ∧ ((fin fby tn gq21) < ga2_48 ∧ ga2_48 ≤ tn)) ∨ (zr36 = 0 ∧ (noS (knd fby tn) (fin fby tn) 6 7 (fin fby tn gq21) oq21 uq21 ga2_48) ∧ (flt fby tn ga2_48 2 fq2_42 pq2_43))) := hw36
            obtain ⟨f_49, f_50, f_51, f_52, f_53, f_54, f_55⟩ := hw36
            rcases f_55 with ⟨hz_61, a_56, a_57, a_58, a_59, a_60⟩ | ⟨hz_64, a_62, a_63⟩
            · subst hz_61
              subst a_57
              subst a_58
              have hg_a_60 := a_60
              refine lv_istore_n (lv' := [(2, .int 1), (4, .int (nI kq21)), (3, .int (nI i21)), (0, .ref d0), (1, .int 7)]) hx hb dX10_takeSum_64 rfl hl (by decide) rfl (fun ls hl => ?_)
              refine lv_aload_n hx hb dX10_takeSum_65 rfl (lv_at hl 3 rfl) ?_
              refine va_get (D := D) (ci := 10) (v := .ref f0) (C := RX10) (T := TX10) (N := 10) hx hb hg i_X10 hown hK hP 0 rfl rfl 3 (by decide) (hg _ m_258) (fun _ h9 => h9) rfl dX10_takeSum_66 ?_
              refine lv_iload hx hb dX10_takeSum_69 (lv_at hl 1 rfl) ?_
              refine x_callVv (q := (RX3, TX3, 4)) (ci := 3) (q0 := 0) (wr := [wO d0 10 [.ref t0, .ref d1, .ref h0, .ref f0, .int (nI ow2_44), .int wt, .int dt, .int vv, .int fq, .int pq], wO t0 9 [.ref t1, .ref t2, .int (nI tn), .int (nI ta2_37), .int (nI ts2_38), .int (nI tk2_39), .long tm2_40, .int tr2_41], wI (cy 0) t1 1600 (fby), (t2, .inl (cy 2, 24, .inr (.inl (fky)))), wO h0 4 [.ref h1, .ref h2, .ref h3, .ref h4, .ref h5, .ref h6, .ref h7, .ref h8, .ref h9, .ref h10, .ref h11, hv0, hv1, hv2, hv3, .int (nI un2_45)]]) (rest := []) ⟨hx, hb, hml, hown, hg, hl.1⟩ k_X10_182 (s_addDeed l D cy f0 f1 f2 nf2_46 y3 fco2_47 kq21 (by omega) (f_52) (by omega)) E0_blind hK hP hD hS hA [5, 6] [0, 1, 2, 3, 4] ⟨rfl, rfl, by decide +kernel, by decide +kernel, by decide +kernel⟩ rfl rfl (fun _ _ _ => trivial) dX10_takeSum_71 rfl rfl (Nat.le_of_ble_eq_true rfl) ⟨Nat.le_of_ble_eq_true rfl, Nat.le_of_ble_eq_true rfl⟩ ⟨Nat.le_of_ble_eq_true rfl, Nat.le_of_ble_eq_true rfl⟩ (fun zu65 H locs hw65 hP9 hD9 hS9 => ?_)
              clear hP hD hS
              obtain ⟨n2_66, fc2_67⟩ := zu65
              refine reW [wO d0 10 [.ref t0, .ref d1, .ref h0, .ref f0, .int (nI ow2_44), .int wt, .int dt, .int vv, .int fq, .int pq], wO t0 9 [.ref t1, .ref t2, .int (nI tn), .int (nI ta2_37), .int (nI ts2_38), .int (nI tk2_39), .long tm2_40, .int tr2_41], wI (cy 0) t1 1600 (fby), (t2, .inl (cy 2, 24, .inr (.inl (fky)))), wO h0 4 [.ref h1, .ref h2, .ref h3, .ref h4, .ref h5, .ref h6, .ref h7, .ref h8, .ref h9, .ref h10, .ref h11, hv0, hv1, hv2, hv3, .int (nI un2_45)], wO f0 3 [.ref f1, .ref f2, .int (nI n2_66), y3], wI (cy 1) f1 280 (fc2_67)] hP9 hD9 hS9 (fun hP hD hS => ?_)
              clear hP9 hD9 hS9
              refine W.widen (k := 0) (n := 0) (Nat.le_of_ble_eq_true rfl) (Nat.le_of_ble_eq_true rfl) ?_
              replace hw65 : (n2_66 ≤ 280) ∧ (cOK fc2_67 n2_66) := hw65
              obtain ⟨f_68, f_69⟩ := hw65
              refine lv_iinc (v := nI (i21 + 1)) (lv' := [(3, .int (nI (i21 + 1))), (2, .int 1), (4, .int (nI kq21)), (0, .ref d0), (1, .int 7)]) hx hb dX10_takeSum_74 hl (k := 2) rfl (nI_add i21 1) (by decide) rfl (fun ls hl => ?_)
              refine lv_goto (tgt := 8) hx hb dX10_takeSum_77 (by decide) ?_
              exact ih21  1 ((i21 + 1)) ta2_37 ts2_38 tk2_39 tm2_40 tr2_41 ow2_44 fq pq un2_45 n2_66 ga2_48 fc2_67 f_69 (by omega) (by omega) (by omega) (by omega) (by omega) (by omega) (Or.inl ⟨rfl, inS_step lvP56 hin9 hop.1 hop.2 a_56, a_59, by omega, by omega, by omega, rfl, rfl⟩) (by omega) _ _ (hP.sub [0, 1, 2, 3, 4, 5, 6] rfl) (hD.sub [0, 1, 2, 3, 4, 5, 6] (by decide +kernel) rfl) hS ls (lv_sub hl [0, 1, 3, 4] rfl)
            · subst hz_64
              refine lv_istore_n (lv' := [(2, .int 0), (4, .int (nI kq21)), (3, .int (nI i21)), (0, .ref d0), (1, .int 7)]) hx hb dX10_takeSum_64 rfl hl (by decide) rfl (fun ls hl => ?_)
              refine lv_aload_n hx hb dX10_takeSum_65 rfl (lv_at hl 3 rfl) ?_
              refine va_get (D := D) (ci := 10) (v := .ref f0) (C := RX10) (T := TX10) (N := 10) hx hb hg i_X10 hown hK hP 0 rfl rfl 3 (by decide) (hg _ m_258) (fun _ h9 => h9) rfl dX10_takeSum_66 ?_
              refine lv_iload hx hb dX10_takeSum_69 (lv_at hl 1 rfl) ?_
              refine x_callVv (q := (RX3, TX3, 4)) (ci := 3) (q0 := 0) (wr := [wO d0 10 [.ref t0, .ref d1, .ref h0, .ref f0, .int (nI ow2_44), .int wt, .int dt, .int vv, .int fq2_42, .int pq2_43], wO t0 9 [.ref t1, .ref t2, .int (nI tn), .int (nI ta2_37), .int (nI ts2_38), .int (nI tk2_39), .long tm2_40, .int tr2_41], wI (cy 0) t1 1600 (fby), (t2, .inl (cy 2, 24, .inr (.inl (fky)))), wO h0 4 [.ref h1, .ref h2, .ref h3, .ref h4, .ref h5, .ref h6, .ref h7, .ref h8, .ref h9, .ref h10, .ref h11, hv0, hv1, hv2, hv3, .int (nI un2_45)]]) (rest := []) ⟨hx, hb, hml, hown, hg, hl.1⟩ k_X10_182 (s_addDeed l D cy f0 f1 f2 nf2_46 y3 fco2_47 kq21 (by omega) (f_52) (by omega)) E0_blind hK hP hD hS hA [5, 6] [0, 1, 2, 3, 4] ⟨rfl, rfl, by decide +kernel, by decide +kernel, by decide +kernel⟩ rfl rfl (fun _ _ _ => trivial) dX10_takeSum_71 rfl rfl (Nat.le_of_ble_eq_true rfl) ⟨Nat.le_of_ble_eq_true rfl, Nat.le_of_ble_eq_true rfl⟩ ⟨Nat.le_of_ble_eq_true rfl, Nat.le_of_ble_eq_true rfl⟩ (fun zu70 H locs hw70 hP9 hD9 hS9 => ?_)
              clear hP hD hS
              obtain ⟨n2_71, fc2_72⟩ := zu70
              refine reW [wO d0 10 [.ref t0, .ref d1, .ref h0, .ref f0, .int (nI ow2_44), .int wt, .int dt, .int vv, .int fq2_42, .int pq2_43], wO t0 9 [.ref t1, .ref t2, .int (nI tn), .int (nI ta2_37), .int (nI ts2_38), .int (nI tk2_39), .long tm2_40, .int tr2_41], wI (cy 0) t1 1600 (fby), (t2, .inl (cy 2, 24, .inr (.inl (fky)))), wO h0 4 [.ref h1, .ref h2, .ref h3, .ref h4, .ref h5, .ref h6, .ref h7, .ref h8, .ref h9, .ref h10, .ref h11, hv0, hv1, hv2, hv3, .int (nI un2_45)], wO f0 3 [.ref f1, .ref f2, .int (nI n2_71), y3], wI (cy 1) f1 280 (fc2_72)] hP9 hD9 hS9 (fun hP hD hS => ?_)
              clear hP9 hD9 hS9
              refine W.widen (k := 0) (n := 0) (Nat.le_of_ble_eq_true rfl) (Nat.le_of_ble_eq_true rfl) ?_
              replace hw70 : (n2_71 ≤ 280) ∧ (cOK fc2_72 n2_71) := hw70
              obtain ⟨f_73, f_74⟩ := hw70
              refine lv_iinc (v := nI (i21 + 1)) (lv' := [(3, .int (nI (i21 + 1))), (2, .int 0), (4, .int (nI kq21)), (0, .ref d0), (1, .int 7)]) hx hb dX10_takeSum_74 hl (k := 2) rfl (nI_add i21 1) (by decide) rfl (fun ls hl => ?_)
              refine lv_goto (tgt := 8) hx hb dX10_takeSum_77 (by decide) ?_
              exact ih21  0 ((i21 + 1)) ta2_37 ts2_38 tk2_39 tm2_40 tr2_41 ow2_44 fq2_42 pq2_43 un2_45 n2_71 ga2_48 fc2_72 f_74 (by omega) (by omega) (by omega) (by omega) (by omega) (by omega) (Or.inr ⟨rfl, inS_bad lvP56 hin9 hop.1 hop.2 a_62, a_63⟩) (by omega) _ _ (hP.sub [0, 1, 2, 3, 4, 5, 6] rfl) (hD.sub [0, 1, 2, 3, 4, 5, 6] (by decide +kernel) rfl) hS ls (lv_sub hl [0, 1, 3, 4] rfl)
          · have q_25 : ¬ kq21 = 43 := q_ne (a := kq21) (b := 43) rfl rfl (by omega) (by omega) c_24
            refine lv_aload_n hx hb dX10_takeSum_31 rfl (lv_at hl 2 rfl) ?_
            refine va_get (D := D) (ci := 10) (v := .ref t0) (C := RX10) (T := TX10) (N := 10) hx hb hg i_X10 hown hK hP 0 rfl rfl 0 (by decide) (hg _ m_255) (fun _ h9 => h9) rfl dX10_takeSum_32 ?_
            refine va_get (D := D) (ci := 9) (v := .int (nI kq21)) (C := RX9) (T := TX9) (N := 8) hx hb hg i_X9 hown hK hP 1 rfl rfl 5 (by decide) (hg _ m_222) (fun _ h9 => h9) rfl dX10_takeSum_35 ?_
            refine lv_bipush (v := 45) hx hb dX10_takeSum_38 (by decide) ?_
            refine lv_icmp_ne (tgt := 80) hx hb dX10_takeSum_40 (by decide) (fun c_75 => ?_) (fun c_75 => ?_)
            · have q_76 : ¬ kq21 = 45 := q_ne (a := kq21) (b := 45) rfl rfl (by omega) (by omega) c_75
              refine lv_iload_n hx hb dX10_takeSum_80 rfl (lv_at hl 1 rfl) ?_
              exact x_zret hQ hx hb hr hlocks hK hP hD hS rfl dX10_takeSum_81 (aq21, sq21, kq21, fl5_21, rq21, fq, pq, oq21, uq21, nq21, fa13_21, gq21) (⟨(show aq21 ≤ tn from by omega), (show kq21 ≤ 123 from by omega), (show nq21 ≤ 280 from by omega), ha14_21, (show oq21 ≤ 30 from by omega), (show uq21 ≤ 60 from by omega), (show ((1 : Int32) = 1 ∧ (okS (knd fby tn) (fin fby tn) 5 7 ga ow un gq21 oq21 uq21) ∧ (fq = fq) ∧ (pq = pq) ∧ (tkC fby tn gq21 aq21 sq21 kq21 fl5_21 rq21) ∧ (ga < gq21 ∧ gq21 ≤ tn)) ∨ ((1 : Int32) = 0 ∧ (noS (knd fby tn) (fin fby tn) 5 7 ga ow un gq21) ∧ (flt fby tn gq21 2 fq pq)) from Or.inl ⟨rfl, (inS_end lvP56 hin9 (sg_ne5 (by have h9 := htk9.2.2.1; omega))), (rfl), (rfl), (htk9), (⟨by omega, by omega⟩)⟩)⟩) [0, 1, 2, 3, 4, 5, 6] (by decide +kernel) rfl (Nat.le_of_ble_eq_true rfl) (Nat.le_of_ble_eq_true rfl)
            · have q_76 : kq21 = 45 := q_eq (a := kq21) (b := 45) rfl rfl (by omega) (by omega) c_75
              have hop := sg_5 (show knd fby tn gq21 = 43 ∨ knd fby tn gq21 = 45 from by have h9 := htk9.2.2.1; omega)
              have hgt_77 : gq21 < fin fby tn gq21 ∧ fin fby tn gq21 ≤ tn := ⟨fin_gt (by have h9 := htk9.2.2.1; omega), fin_le (by omega)⟩
              refine lv_aload_n hx hb dX10_takeSum_43 rfl (lv_at hl 2 rfl) ?_
              refine va_get (D := D) (ci := 10) (v := .ref t0) (C := RX10) (T := TX10) (N := 10) hx hb hg i_X10 hown hK hP 0 rfl rfl 0 (by decide) (hg _ m_255) (fun _ h9 => h9) rfl dX10_takeSum_44 ?_
              refine va_get (D := D) (ci := 9) (v := .int (nI kq21)) (C := RX9) (T := TX9) (N := 8) hx hb hg i_X9 hown hK hP 1 rfl rfl 5 (by decide) (hg _ m_222) (fun _ h9 => h9) rfl dX10_takeSum_47 ?_
              refine lv_istore (lv' := [(4, .int (nI kq21)), (3, .int (nI i21)), (2, .int 1), (0, .ref d0), (1, .int 7)]) hx hb dX10_takeSum_50 hl (by decide) rfl (fun ls hl => ?_)
              refine lv_aload_n hx hb dX10_takeSum_52 rfl (lv_at hl 3 rfl) ?_
              refine va_get (D := D) (ci := 10) (v := .ref t0) (C := RX10) (T := TX10) (N := 10) hx hb hg i_X10 hown hK hP 0 rfl rfl 0 (by decide) (hg _ m_255) (fun _ h9 => h9) rfl dX10_takeSum_53 ?_
              refine x_callVv (q := (RX9, TX9, 8)) (ci := 9) (q0 := 0) (wr := [wO d0 10 [.ref t0, .ref d1, .ref h0, .ref f0, .int (nI oq21), .int wt, .int dt, .int vv, .int fq, .int pq], wO h0 4 [.ref h1, .ref h2, .ref h3, .ref h4, .ref h5, .ref h6, .ref h7, .ref h8, .ref h9, .ref h10, .ref h11, hv0, hv1, hv2, hv3, .int (nI uq21)], wO f0 3 [.ref f1, .ref f2, .int (nI nq21), y3], wI (cy 1) f1 280 (fa13_21)]) (rest := []) ⟨hx, hb, hml, hown, hg, hl.1⟩ k_X10_140 (s_next l D cy adK adV t0 t1 t2 tn aq21 sq21 kq21 fl5_21 rq21 fby fky (fin fby tn gq21) (by omega) (by omega) (htk9.2.1) (hky)) EV_blind hK hP hD hS hA [1, 2, 3] [0, 4, 5, 6] ⟨rfl, rfl, by decide +kernel, by decide +kernel, by decide +kernel⟩ rfl rfl (fun U hU hW => EV_pass hE hS (va_free hD hS hA [1, 2, 3] rfl) hU hW) dX10_takeSum_56 rfl rfl (Nat.le_of_ble_eq_true rfl) ⟨Nat.le_of_ble_eq_true rfl, Nat.le_of_ble_eq_true rfl⟩ ⟨Nat.le_of_ble_eq_true rfl, Nat.le_of_ble_eq_true rfl⟩ (fun zu78 H locs hw78 hP9 hD9 hS9 => ?_)
              clear hP hD hS
              obtain ⟨ta2_79, ts2_80, tk2_81, tm2_82, tr2_83⟩ := zu78
              refine reW [wO d0 10 [.ref t0, .ref d1, .ref h0, .ref f0, .int (nI oq21), .int wt, .int dt, .int vv, .int fq, .int pq], wO h0 4 [.ref h1, .ref h2, .ref h3, .ref h4, .ref h5, .ref h6, .ref h7, .ref h8, .ref h9, .ref h10, .ref h11, hv0, hv1, hv2, hv3, .int (nI uq21)], wO f0 3 [.ref f1, .ref f2, .int (nI nq21), y3], wI (cy 1) f1 280 (fa13_21), wO t0 9 [.ref t1, .ref t2, .int (nI tn), .int (nI ta2_79), .int (nI ts2_80), .int (nI tk2_81), .long tm2_82, .int tr2_83], wI (cy 0) t1 1600 (fby), (t2, .inl (cy 2, 24, .inr (.inl (fky))))] hP9 hD9 hS9 (fun hP hD hS => ?_)
              clear hP9 hD9 hS9
              refine W.widen (k := 0) (n := 0) (Nat.le_of_ble_eq_true rfl) (Nat.le_of_ble_eq_true rfl) ?_
              replace hw78 : (ta2_79 ≤ tn) ∧ (tk2_81 ≤ 123) ∧ (tkC fby tn (fin fby tn gq21) ta2_79 ts2_80 tk2_81 tm2_82 tr2_83) := hw78
              obtain ⟨f_84, f_85, f_86⟩ := hw78
              refine lv_aload_n hx hb dX10_takeSum_59 rfl (lv_at hl 3 rfl) ?_
              refine lv_iload_n hx hb dX10_takeSum_60 rfl (lv_at hl 4 rfl) ?_
              refine x_callVi (q := (RX10, TX10, 10)) (ci := 10) (q0 := 0) (wr := []) (rest := []) ⟨hx, hb, hml, hown, hg, hl.1⟩ k_X10_195 (s_takeTerm7 l D cy adK adV d0 d1 wt dt vv fq pq t0 t1 t2 tn ta2_79 ts2_80 tk2_81 tm2_82 tr2_83 fby fky h0 h1 h2 h3 h4 h5 h6 h7 h8 h9 h10 h11 hv0 hv1 hv2 hv3 oq21 uq21 f0 f1 f2 nq21 y3 fa13_21 (fin fby tn gq21) (by omega) (by omega) (by omega) (f_86) (hky) (by omega) (ha14_21) (by omega) (by omega) (by omega)) EV_blind hK hP hD hS hA [0, 4, 5, 6, 1, 2, 3] [] ⟨rfl, rfl, by decide +kernel, by decide +kernel, by decide +kernel⟩ rfl rfl (fun U hU hW => EV_pass hE hS (va_free hD hS hA [0, 4, 5, 6, 1, 2, 3] rfl) hU hW) dX10_takeSum_61 rfl rfl (Nat.le_of_ble_eq_true rfl) ⟨Nat.le_of_ble_eq_true rfl, Nat.le_of_ble_eq_true rfl⟩ ⟨Nat.le_of_ble_eq_true rfl, Nat.le_of_ble_eq_true rfl⟩ (fun zr87 zu87 H locs hw87 hP9 hD9 hS9 => ?_)
              clear hP hD hS
              obtain ⟨ta2_88, ts2_89, tk2_90, tm2_91, tr2_92, fq2_93, pq2_94, ow2_95, un2_96, nf2_97, fco2_98, ga2_99⟩ := zu87
              refine reW [wO d0 10 [.ref t0, .ref d1, .ref h0, .ref f0, .int (nI ow2_95), .int wt, .int dt, .int vv, .int fq2_93, .int pq2_94], wO t0 9 [.ref t1, .ref t2, .int (nI tn), .int (nI ta2_88), .int (nI ts2_89), .int (nI tk2_90), .long tm2_91, .int tr2_92], wI (cy 0) t1 1600 (fby), (t2, .inl (cy 2, 24, .inr (.inl (fky)))), wO h0 4 [.ref h1, .ref h2, .ref h3, .ref h4, .ref h5, .ref h6, .ref h7, .ref h8, .ref h9, .ref h10, .ref h11, hv0, hv1, hv2, hv3, .int (nI un2_96)], wO f0 3 [.ref f1, .ref f2, .int (nI nf2_97), y3], wI (cy 1) f1 280 (fco2_98)] hP9 hD9 hS9 (fun hP hD hS => ?_)
              clear hP9 hD9 hS9
              refine W.widen (k := 0) (n := 0) (Nat.le_of_ble_eq_true rfl) (Nat.le_of_ble_eq_true rfl) ?_
              replace hw87 : (ta2_88 ≤ tn) ∧ (tk2_90 ≤ 123) ∧ (nf2_97 ≤ 280) ∧ (cOK fco2_98 nf2_97) ∧ (ow2_95 ≤ 30) ∧ (un2_96 ≤ 60) ∧ ((zr87 = 1 ∧ (okS (knd fby tn) (fin fby tn) 6 7 (fin fby tn gq21) oq21 uq21 ga2_99 ow2_95 un2_96) ∧ (fq = fq2_93) ∧ (pq = pq2_94) ∧ (tkC fby tn ga2_99 ta2_88 ts2_89 tk2_90 tm2_91 tr2_92) ∧ ((fin fby tn gq21) < ga2_99 ∧ ga2_99 ≤ tn)) ∨ (zr87 = 0 ∧ (noS (knd fby tn) (fin fby tn) 6 7 (fin fby tn gq21) oq21 uq21 ga2_99) ∧ (flt fby tn ga2_99 2 fq2_93 pq2_94))) := hw87
              obtain ⟨f_100, f_101, f_102, f_103, f_104, f_105, f_106⟩ := hw87
              rcases f_106 with ⟨hz_112, a_107, a_108, a_109, a_110, a_111⟩ | ⟨hz_115, a_113, a_114⟩
              · subst hz_112
                subst a_108
                subst a_109
                have hg_a_111 := a_111
                refine lv_istore_n (lv' := [(2, .int 1), (4, .int (nI kq21)), (3, .int (nI i21)), (0, .ref d0), (1, .int 7)]) hx hb dX10_takeSum_64 rfl hl (by decide) rfl (fun ls hl => ?_)
                refine lv_aload_n hx hb dX10_takeSum_65 rfl (lv_at hl 3 rfl) ?_
                refine va_get (D := D) (ci := 10) (v := .ref f0) (C := RX10) (T := TX10) (N := 10) hx hb hg i_X10 hown hK hP 0 rfl rfl 3 (by decide) (hg _ m_258) (fun _ h9 => h9) rfl dX10_takeSum_66 ?_
                refine lv_iload hx hb dX10_takeSum_69 (lv_at hl 1 rfl) ?_
                refine x_callVv (q := (RX3, TX3, 4)) (ci := 3) (q0 := 0) (wr := [wO d0 10 [.ref t0, .ref d1, .ref h0, .ref f0, .int (nI ow2_95), .int wt, .int dt, .int vv, .int fq, .int pq], wO t0 9 [.ref t1, .ref t2, .int (nI tn), .int (nI ta2_88), .int (nI ts2_89), .int (nI tk2_90), .long tm2_91, .int tr2_92], wI (cy 0) t1 1600 (fby), (t2, .inl (cy 2, 24, .inr (.inl (fky)))), wO h0 4 [.ref h1, .ref h2, .ref h3, .ref h4, .ref h5, .ref h6, .ref h7, .ref h8, .ref h9, .ref h10, .ref h11, hv0, hv1, hv2, hv3, .int (nI un2_96)]]) (rest := []) ⟨hx, hb, hml, hown, hg, hl.1⟩ k_X10_182 (s_addDeed l D cy f0 f1 f2 nf2_97 y3 fco2_98 kq21 (by omega) (f_103) (by omega)) E0_blind hK hP hD hS hA [5, 6] [0, 1, 2, 3, 4] ⟨rfl, rfl, by decide +kernel, by decide +kernel, by decide +kernel⟩ rfl rfl (fun _ _ _ => trivial) dX10_takeSum_71 rfl rfl (Nat.le_of_ble_eq_true rfl) ⟨Nat.le_of_ble_eq_true rfl, Nat.le_of_ble_eq_true rfl⟩ ⟨Nat.le_of_ble_eq_true rfl, Nat.le_of_ble_eq_true rfl⟩ (fun zu116 H locs hw116 hP9 hD9 hS9 => ?_)
                clear hP hD hS
                obtain ⟨n2_117, fc2_118⟩ := zu116
                refine reW [wO d0 10 [.ref t0, .ref d1, .ref h0, .ref f0, .int (nI ow2_95), .int wt, .int dt, .int vv, .int fq, .int pq], wO t0 9 [.ref t1, .ref t2, .int (nI tn), .int (nI ta2_88), .int (nI ts2_89), .int (nI tk2_90), .long tm2_91, .int tr2_92], wI (cy 0) t1 1600 (fby), (t2, .inl (cy 2, 24, .inr (.inl (fky)))), wO h0 4 [.ref h1, .ref h2, .ref h3, .ref h4, .ref h5, .ref h6, .ref h7, .ref h8, .ref h9, .ref h10, .ref h11, hv0, hv1, hv2, hv3, .int (nI un2_96)], wO f0 3 [.ref f1, .ref f2, .int (nI n2_117), y3], wI (cy 1) f1 280 (fc2_118)] hP9 hD9 hS9 (fun hP hD hS => ?_)
                clear hP9 hD9 hS9
                refine W.widen (k := 0) (n := 0) (Nat.le_of_ble_eq_true rfl) (Nat.le_of_ble_eq_true rfl) ?_
                replace hw116 : (n2_117 ≤ 280) ∧ (cOK fc2_118 n2_117) := hw116
                obtain ⟨f_119, f_120⟩ := hw116
                refine lv_iinc (v := nI (i21 + 1)) (lv' := [(3, .int (nI (i21 + 1))), (2, .int 1), (4, .int (nI kq21)), (0, .ref d0), (1, .int 7)]) hx hb dX10_takeSum_74 hl (k := 2) rfl (nI_add i21 1) (by decide) rfl (fun ls hl => ?_)
                refine lv_goto (tgt := 8) hx hb dX10_takeSum_77 (by decide) ?_
                exact ih21  1 ((i21 + 1)) ta2_88 ts2_89 tk2_90 tm2_91 tr2_92 ow2_95 fq pq un2_96 n2_117 ga2_99 fc2_118 f_120 (by omega) (by omega) (by omega) (by omega) (by omega) (by omega) (Or.inl ⟨rfl, inS_step lvP56 hin9 hop.1 hop.2 a_107, a_110, by omega, by omega, by omega, rfl, rfl⟩) (by omega) _ _ (hP.sub [0, 1, 2, 3, 4, 5, 6] rfl) (hD.sub [0, 1, 2, 3, 4, 5, 6] (by decide +kernel) rfl) hS ls (lv_sub hl [0, 1, 3, 4] rfl)
              · subst hz_115
                refine lv_istore_n (lv' := [(2, .int 0), (4, .int (nI kq21)), (3, .int (nI i21)), (0, .ref d0), (1, .int 7)]) hx hb dX10_takeSum_64 rfl hl (by decide) rfl (fun ls hl => ?_)
                refine lv_aload_n hx hb dX10_takeSum_65 rfl (lv_at hl 3 rfl) ?_
                refine va_get (D := D) (ci := 10) (v := .ref f0) (C := RX10) (T := TX10) (N := 10) hx hb hg i_X10 hown hK hP 0 rfl rfl 3 (by decide) (hg _ m_258) (fun _ h9 => h9) rfl dX10_takeSum_66 ?_
                refine lv_iload hx hb dX10_takeSum_69 (lv_at hl 1 rfl) ?_
                refine x_callVv (q := (RX3, TX3, 4)) (ci := 3) (q0 := 0) (wr := [wO d0 10 [.ref t0, .ref d1, .ref h0, .ref f0, .int (nI ow2_95), .int wt, .int dt, .int vv, .int fq2_93, .int pq2_94], wO t0 9 [.ref t1, .ref t2, .int (nI tn), .int (nI ta2_88), .int (nI ts2_89), .int (nI tk2_90), .long tm2_91, .int tr2_92], wI (cy 0) t1 1600 (fby), (t2, .inl (cy 2, 24, .inr (.inl (fky)))), wO h0 4 [.ref h1, .ref h2, .ref h3, .ref h4, .ref h5, .ref h6, .ref h7, .ref h8, .ref h9, .ref h10, .ref h11, hv0, hv1, hv2, hv3, .int (nI un2_96)]]) (rest := []) ⟨hx, hb, hml, hown, hg, hl.1⟩ k_X10_182 (s_addDeed l D cy f0 f1 f2 nf2_97 y3 fco2_98 kq21 (by omega) (f_103) (by omega)) E0_blind hK hP hD hS hA [5, 6] [0, 1, 2, 3, 4] ⟨rfl, rfl, by decide +kernel, by decide +kernel, by decide +kernel⟩ rfl rfl (fun _ _ _ => trivial) dX10_takeSum_71 rfl rfl (Nat.le_of_ble_eq_true rfl) ⟨Nat.le_of_ble_eq_true rfl, Nat.le_of_ble_eq_true rfl⟩ ⟨Nat.le_of_ble_eq_true rfl, Nat.le_of_ble_eq_true rfl⟩ (fun zu121 H locs hw121 hP9 hD9 hS9 => ?_)
                clear hP hD hS
                obtain ⟨n2_122, fc2_123⟩ := zu121
                refine reW [wO d0 10 [.ref t0, .ref d1, .ref h0, .ref f0, .int (nI ow2_95), .int wt, .int dt, .int vv, .int fq2_93, .int pq2_94], wO t0 9 [.ref t1, .ref t2, .int (nI tn), .int (nI ta2_88), .int (nI ts2_89), .int (nI tk2_90), .long tm2_91, .int tr2_92], wI (cy 0) t1 1600 (fby), (t2, .inl (cy 2, 24, .inr (.inl (fky)))), wO h0 4 [.ref h1, .ref h2, .ref h3, .ref h4, .ref h5, .ref h6, .ref h7, .ref h8, .ref h9, .ref h10, .ref h11, hv0, hv1, hv2, hv3, .int (nI un2_96)], wO f0 3 [.ref f1, .ref f2, .int (nI n2_122), y3], wI (cy 1) f1 280 (fc2_123)] hP9 hD9 hS9 (fun hP hD hS => ?_)
                clear hP9 hD9 hS9
                refine W.widen (k := 0) (n := 0) (Nat.le_of_ble_eq_true rfl) (Nat.le_of_ble_eq_true rfl) ?_
                replace hw121 : (n2_122 ≤ 280) ∧ (cOK fc2_123 n2_122) := hw121
                obtain ⟨f_124, f_125⟩ := hw121
                refine lv_iinc (v := nI (i21 + 1)) (lv' := [(3, .int (nI (i21 + 1))), (2, .int 0), (4, .int (nI kq21)), (0, .ref d0), (1, .int 7)]) hx hb dX10_takeSum_74 hl (k := 2) rfl (nI_add i21 1) (by decide) rfl (fun ls hl => ?_)
                refine lv_goto (tgt := 8) hx hb dX10_takeSum_77 (by decide) ?_
                exact ih21  0 ((i21 + 1)) ta2_88 ts2_89 tk2_90 tm2_91 tr2_92 ow2_95 fq2_93 pq2_94 un2_96 n2_122 ga2_99 fc2_123 f_125 (by omega) (by omega) (by omega) (by omega) (by omega) (by omega) (Or.inr ⟨rfl, inS_bad lvP56 hin9 hop.1 hop.2 a_113, a_114⟩) (by omega) _ _ (hP.sub [0, 1, 2, 3, 4, 5, 6] rfl) (hD.sub [0, 1, 2, 3, 4, 5, 6] (by decide +kernel) rfl) hS ls (lv_sub hl [0, 1, 3, 4] rfl)
      · subst hlb
        refine lv_iload_n hx hb dX10_takeSum_8 rfl (lv_at hl 0 rfl) ?_
        refine lv_sipush (v := 1600) hx hb dX10_takeSum_9 (by decide) ?_
        refine lv_icmp_ge (tgt := 80) hx hb dX10_takeSum_12 (by decide) (fun c_126 => ?_) (fun c_126 => ?_)
        · have q_127 : 1600 ≤ i21 := q_le (a := 1600) (b := i21) rfl rfl (by omega) (by omega) c_126
          refine lv_iload_n hx hb dX10_takeSum_80 rfl (lv_at hl 1 rfl) ?_
          exact x_zret hQ hx hb hr hlocks hK hP hD hS rfl dX10_takeSum_81 (aq21, sq21, kq21, fl5_21, rq21, fz21, pz21, oq21, uq21, nq21, fa13_21, gq21) (⟨(show aq21 ≤ tn from by omega), (show kq21 ≤ 123 from by omega), (show nq21 ≤ 280 from by omega), ha14_21, (show oq21 ≤ 30 from by omega), (show uq21 ≤ 60 from by omega), (show ((0 : Int32) = 1 ∧ (okS (knd fby tn) (fin fby tn) 5 7 ga ow un gq21 oq21 uq21) ∧ (fq = fz21) ∧ (pq = pz21) ∧ (tkC fby tn gq21 aq21 sq21 kq21 fl5_21 rq21) ∧ (ga < gq21 ∧ gq21 ≤ tn)) ∨ ((0 : Int32) = 0 ∧ (noS (knd fby tn) (fin fby tn) 5 7 ga ow un gq21) ∧ (flt fby tn gq21 2 fz21 pz21)) from Or.inr (⟨rfl, (hno9), (hfl9)⟩))⟩) [0, 1, 2, 3, 4, 5, 6] (by decide +kernel) rfl (Nat.le_of_ble_eq_true rfl) (Nat.le_of_ble_eq_true rfl)
        · have q_127 : i21 < 1600 := q_nle (a := 1600) (b := i21) rfl rfl (by omega) (by omega) c_126
          refine lv_iload_n hx hb dX10_takeSum_15 rfl (lv_at hl 1 rfl) ?_
          refine lv_if_eq (tgt := 80) hx hb dX10_takeSum_16 (by decide) (fun _ => ?_) (fun h => absurd (by decide) h)
          refine lv_iload_n hx hb dX10_takeSum_80 rfl (lv_at hl 1 rfl) ?_
          exact x_zret hQ hx hb hr hlocks hK hP hD hS rfl dX10_takeSum_81 (aq21, sq21, kq21, fl5_21, rq21, fz21, pz21, oq21, uq21, nq21, fa13_21, gq21) (⟨(show aq21 ≤ tn from by omega), (show kq21 ≤ 123 from by omega), (show nq21 ≤ 280 from by omega), ha14_21, (show oq21 ≤ 30 from by omega), (show uq21 ≤ 60 from by omega), (show ((0 : Int32) = 1 ∧ (okS (knd fby tn) (fin fby tn) 5 7 ga ow un gq21 oq21 uq21) ∧ (fq = fz21) ∧ (pq = pz21) ∧ (tkC fby tn gq21 aq21 sq21 kq21 fl5_21 rq21) ∧ (ga < gq21 ∧ gq21 ≤ tn)) ∨ ((0 : Int32) = 0 ∧ (noS (knd fby tn) (fin fby tn) 5 7 ga ow un gq21) ∧ (flt fby tn gq21 2 fz21 pz21)) from Or.inr (⟨rfl, (hno9), (hfl9)⟩))⟩) [0, 1, 2, 3, 4, 5, 6] (by decide +kernel) rfl (Nat.le_of_ble_eq_true rfl) (Nat.le_of_ble_eq_true rfl)
  exact loop21 _ zr1 0 ta2_2 ts2_3 tk2_4 tm2_5 tr2_6 ow2_9 fq2_7 pq2_8 un2_10 nf2_11 ga2_13 fco2_12 f_17 (by omega) (by omega) (by omega) (by omega) (by omega) (by omega) (by rcases f_20 with ⟨hx0, hxk, hxq, hxp, hxt, hxg⟩ | ⟨hx0, hxn, hxl⟩; exact Or.inl ⟨hx0, inS_0 lvP56 hxk, hxt, hxg.1, hxg.2, by omega, hxq, hxp⟩; exact Or.inr ⟨hx0, noS_0 lvP56 hxn, hxl⟩) (Nat.le_refl _) _ _ (hP.sub [0, 1, 2, 3, 4, 5, 6] rfl) (hD.sub [0, 1, 2, 3, 4, 5, 6] (by decide +kernel) rfl) hS ls (lv_sub hl [0, 1, 2, 3] rfl)
theorem gdX10_takeNot_0 : decode cX10_takeNot 0 = .ok (.iload_n 1, 1) ∧ decode cX10_takeNot 1 = .ok (.bipush 7, 2) ∧ decode cX10_takeNot 3 = .ok (.if_icmp .lt 9, 3) ∧ decode cX10_takeNot 6 = .ok (.aload_n 0, 1) ∧ decode cX10_takeNot 7 = .ok (.iconst 2, 1) ∧ decode cX10_takeNot 8 = .ok (.invokevirtual 110, 3) ∧ decode cX10_takeNot 11 = .ok (.ireturn, 1) := by decide +kernel
theorem dX10_takeNot_0 : decode cX10_takeNot 0 = .ok (.iload_n 1, 1) := gdX10_takeNot_0.1
theorem dX10_takeNot_1 : decode cX10_takeNot 1 = .ok (.bipush 7, 2) := gdX10_takeNot_0.2.1
theorem dX10_takeNot_3 : decode cX10_takeNot 3 = .ok (.if_icmp .lt 9, 3) := gdX10_takeNot_0.2.2.1
theorem dX10_takeNot_6 : decode cX10_takeNot 6 = .ok (.aload_n 0, 1) := gdX10_takeNot_0.2.2.2.1
theorem dX10_takeNot_7 : decode cX10_takeNot 7 = .ok (.iconst 2, 1) := gdX10_takeNot_0.2.2.2.2.1
theorem dX10_takeNot_8 : decode cX10_takeNot 8 = .ok (.invokevirtual 110, 3) := gdX10_takeNot_0.2.2.2.2.2.1
theorem dX10_takeNot_11 : decode cX10_takeNot 11 = .ok (.ireturn, 1) := gdX10_takeNot_0.2.2.2.2.2.2
set_option maxHeartbeats 1000000 in
set_option maxRecDepth 100000 in
theorem s_takeNot7 (l : Launch) (D : va_G) (cy : Nat → ClassId) (adK : Nat → Nat) (adV : Nat → Nat) (d0 : Nat) (d1 : Nat) (wt : Int32) (dt : Int32) (vv : Int32) (fq : Int32) (pq : Int32) (t0 : Nat) (t1 : Nat) (t2 : Nat) (tn : Nat) (ta : Nat) (ts : Nat) (tk : Nat) (tm : Int64) (tr : Int32) (fby : Nat → Int32) (fky : Nat → Int64) (h0 : Nat) (h1 : Nat) (h2 : Nat) (h3 : Nat) (h4 : Nat) (h5 : Nat) (h6 : Nat) (h7 : Nat) (h8 : Nat) (h9 : Nat) (h10 : Nat) (h11 : Nat) (hv0 : Value) (hv1 : Value) (hv2 : Value) (hv3 : Value) (ow : Nat) (un : Nat) (f0 : Nat) (f1 : Nat) (f2 : Nat) (nf : Nat) (y3 : Value) (fco : Nat → Int32) (ga : Nat) (htn : tn ≤ 1600) (hta : ta ≤ tn) (htk : tk ≤ 123) (hti : tkC fby tn ga ta ts tk tm tr) (hky : kyOK fky) (hnf : nf ≤ 280) (hfc : cOK fco nf) (how : ow ≤ 30) (hun : un ≤ 60) (hga : ga ≤ tn) (h116 : tk = 116) : XMi l D (tyL cy) (EV adK adV) yX10_takeNot cX10_takeNot 3 (some .boolean) (rmk 1 0 0) [.ref d0, .int 7] [wO d0 10 [.ref t0, .ref d1, .ref h0, .ref f0, .int (nI ow), .int wt, .int dt, .int vv, .int fq, .int pq], wO t0 9 [.ref t1, .ref t2, .int (nI tn), .int (nI ta), .int (nI ts), .int (nI tk), .long tm, .int tr], wI (cy 0) t1 1600 (fby), (t2, .inl (cy 2, 24, .inr (.inl (fky)))), wO h0 4 [.ref h1, .ref h2, .ref h3, .ref h4, .ref h5, .ref h6, .ref h7, .ref h8, .ref h9, .ref h10, .ref h11, hv0, hv1, hv2, hv3, .int (nI un)], wO f0 3 [.ref f1, .ref f2, .int (nI nf), y3], wI (cy 1) f1 280 (fco)] (fun (r : Int32) (u : Nat × Nat × Nat × Int64 × Int32 × Int32 × Int32 × Nat × Nat × Nat × (Nat → Int32) × Nat) => (u.1 ≤ tn) ∧ (u.2.2.1 ≤ 123) ∧ (u.2.2.2.2.2.2.2.2.2.1 ≤ 280) ∧ (cOK u.2.2.2.2.2.2.2.2.2.2.1 u.2.2.2.2.2.2.2.2.2.1) ∧ (u.2.2.2.2.2.2.2.1 ≤ 30) ∧ (u.2.2.2.2.2.2.2.2.1 ≤ 60) ∧ ((r = 1 ∧ (okS (knd fby tn) (fin fby tn) 4 7 ga ow un u.2.2.2.2.2.2.2.2.2.2.2 u.2.2.2.2.2.2.2.1 u.2.2.2.2.2.2.2.2.1) ∧ (fq = u.2.2.2.2.2.1) ∧ (pq = u.2.2.2.2.2.2.1) ∧ (tkC fby tn u.2.2.2.2.2.2.2.2.2.2.2 u.1 u.2.1 u.2.2.1 u.2.2.2.1 u.2.2.2.2.1) ∧ (ga < u.2.2.2.2.2.2.2.2.2.2.2 ∧ u.2.2.2.2.2.2.2.2.2.2.2 ≤ tn)) ∨ (r = 0 ∧ (noS (knd fby tn) (fin fby tn) 4 7 ga ow un u.2.2.2.2.2.2.2.2.2.2.2) ∧ (flt fby tn u.2.2.2.2.2.2.2.2.2.2.2 2 u.2.2.2.2.2.1 u.2.2.2.2.2.2.1)))) (fun (u : Nat × Nat × Nat × Int64 × Int32 × Int32 × Int32 × Nat × Nat × Nat × (Nat → Int32) × Nat) => [wO d0 10 [.ref t0, .ref d1, .ref h0, .ref f0, .int (nI u.2.2.2.2.2.2.2.1), .int wt, .int dt, .int vv, .int u.2.2.2.2.2.1, .int u.2.2.2.2.2.2.1], wO t0 9 [.ref t1, .ref t2, .int (nI tn), .int (nI u.1), .int (nI u.2.1), .int (nI u.2.2.1), .long u.2.2.2.1, .int u.2.2.2.2.1], wI (cy 0) t1 1600 (fby), (t2, .inl (cy 2, 24, .inr (.inl (fky)))), wO h0 4 [.ref h1, .ref h2, .ref h3, .ref h4, .ref h5, .ref h6, .ref h7, .ref h8, .ref h9, .ref h10, .ref h11, hv0, hv1, hv2, hv3, .int (nI u.2.2.2.2.2.2.2.2.1)], wO f0 3 [.ref f1, .ref f2, .int (nI u.2.2.2.2.2.2.2.2.2.1), y3], wI (cy 1) f1 280 (u.2.2.2.2.2.2.2.2.2.2.1)]) := by
  refine XMi.start (by decide) (Nat.le_of_ble_eq_true rfl) ?_
  intro p e s m below meth c args A ls Q hat hQ
  obtain ⟨hx, hb, hr, hml, hown, hg, hlocks, hin, hK, hA, hP, hD, hS, hE, hl⟩ := hat
  have hown : s.vm.findClass RX10 = some m.cls := hown
  have hl : lv_has ls 3 [(0, .ref d0), (1, .int 7)] := hl
  have hn16 : knd fby tn ga = 116 := by have h9 := hti.2.2.1; omega
  refine lv_iload_n hx hb dX10_takeNot_0 rfl (lv_at hl 1 rfl) ?_
  refine lv_bipush (v := 7) hx hb dX10_takeNot_1 (by decide) ?_
  refine lv_icmp_lt (tgt := 12) hx hb dX10_takeNot_3 (by decide) (fun h => absurd h (by decide)) (fun _ => ?_)
  refine lv_aload_n hx hb dX10_takeNot_6 rfl (lv_at hl 0 rfl) ?_
  refine lv_iconst (v := 2) hx hb dX10_takeNot_7 (by decide) ?_
  refine x_callVi (q := (RX10, TX10, 10)) (ci := 10) (q0 := 0) (wr := [wI (cy 0) t1 1600 (fby), (t2, .inl (cy 2, 24, .inr (.inl (fky)))), wO h0 4 [.ref h1, .ref h2, .ref h3, .ref h4, .ref h5, .ref h6, .ref h7, .ref h8, .ref h9, .ref h10, .ref h11, hv0, hv1, hv2, hv3, .int (nI un)], wO f0 3 [.ref f1, .ref f2, .int (nI nf), y3], wI (cy 1) f1 280 (fco)]) (rest := []) ⟨hx, hb, hml, hown, hg, hl.1⟩ k_X10_110 (s_fail l D cy d0 d1 (nI ow) wt dt vv fq pq ((.ref h0)) ((.ref f0)) t0 t1 t2 tn ta ts tk tm tr 2 (by omega)) E0_blind hK hP hD hS hA [0, 1] [2, 3, 4, 5, 6] ⟨rfl, rfl, by decide +kernel, by decide +kernel, by decide +kernel⟩ rfl rfl (fun _ _ _ => trivial) dX10_takeNot_8 rfl rfl (Nat.le_of_ble_eq_true rfl) ⟨Nat.le_of_ble_eq_true rfl, Nat.le_of_ble_eq_true rfl⟩ ⟨Nat.le_of_ble_eq_true rfl, Nat.le_of_ble_eq_true rfl⟩ (fun zr1 zu1 H locs hw1 hP9 hD9 hS9 => ?_)
  clear hP hD hS
  obtain ⟨fq2_2, pq2_3⟩ := zu1
  refine reW [wI (cy 0) t1 1600 (fby), (t2, .inl (cy 2, 24, .inr (.inl (fky)))), wO h0 4 [.ref h1, .ref h2, .ref h3, .ref h4, .ref h5, .ref h6, .ref h7, .ref h8, .ref h9, .ref h10, .ref h11, hv0, hv1, hv2, hv3, .int (nI un)], wO f0 3 [.ref f1, .ref f2, .int (nI nf), y3], wI (cy 1) f1 280 (fco), wO d0 10 [.ref t0, .ref d1, .ref h0, .ref f0, .int (nI ow), .int wt, .int dt, .int vv, .int fq2_2, .int pq2_3], wO t0 9 [.ref t1, .ref t2, .int (nI tn), .int (nI ta), .int (nI ts), .int (nI tk), .long tm, .int tr]] hP9 hD9 hS9 (fun hP hD hS => ?_)
  clear hP9 hD9 hS9
  refine W.widen (k := 0) (n := 0) (Nat.le_of_ble_eq_true rfl) (Nat.le_of_ble_eq_true rfl) ?_
  replace hw1 : ((zr1 = 0 ∧ (fq2_2 = nI (if tk = 3 then 1 else 2)) ∧ (pq2_3 = nI ts))) := hw1
  have f_4 := hw1
  rcases f_4 with ⟨hz_7, a_5, a_6⟩
  subst hz_7
  exact x_zret hQ hx hb hr hlocks hK hP hD hS rfl dX10_takeNot_11 (ta, ts, tk, tm, tr, fq2_2, pq2_3, ow, un, nf, fco, ga) (⟨(show ta ≤ tn from by omega), (show tk ≤ 123 from by omega), (show nf ≤ 280 from by omega), hfc, (show ow ≤ 30 from by omega), (show un ≤ 60 from by omega), (show ((0 : Int32) = 1 ∧ (okS (knd fby tn) (fin fby tn) 4 7 ga ow un ga ow un) ∧ (fq = fq2_2) ∧ (pq = pq2_3) ∧ (tkC fby tn ga ta ts tk tm tr) ∧ (ga < ga ∧ ga ≤ tn)) ∨ ((0 : Int32) = 0 ∧ (noS (knd fby tn) (fin fby tn) 4 7 ga ow un ga) ∧ (flt fby tn ga 2 fq2_2 pq2_3)) from Or.inr (⟨rfl, (not_deep hn16 (by decide)), (flt_of hti a_5 a_6)⟩))⟩) [5, 6, 0, 1, 2, 3, 4] (by decide +kernel) rfl (Nat.le_of_ble_eq_true rfl) (Nat.le_of_ble_eq_true rfl)
theorem gdX10_takeOne_0 : decode cX10_takeOne 0 = .ok (.aload_n 0, 1) ∧ decode cX10_takeOne 1 = .ok (.getfield 16, 3) ∧ decode cX10_takeOne 4 = .ok (.getfield 55, 3) ∧ decode cX10_takeOne 7 = .ok (.bipush 116, 2) ∧ decode cX10_takeOne 9 = .ok (.if_icmp .ne 9, 3) ∧ decode cX10_takeOne 18 = .ok (.aload_n 0, 1) ∧ decode cX10_takeOne 19 = .ok (.iload_n 1, 1) ∧ decode cX10_takeOne 20 = .ok (.invokevirtual 192, 3) := by decide +kernel
theorem dX10_takeOne_0 : decode cX10_takeOne 0 = .ok (.aload_n 0, 1) := gdX10_takeOne_0.1
theorem dX10_takeOne_1 : decode cX10_takeOne 1 = .ok (.getfield 16, 3) := gdX10_takeOne_0.2.1
theorem dX10_takeOne_4 : decode cX10_takeOne 4 = .ok (.getfield 55, 3) := gdX10_takeOne_0.2.2.1
theorem dX10_takeOne_7 : decode cX10_takeOne 7 = .ok (.bipush 116, 2) := gdX10_takeOne_0.2.2.2.1
theorem dX10_takeOne_9 : decode cX10_takeOne 9 = .ok (.if_icmp .ne 9, 3) := gdX10_takeOne_0.2.2.2.2.1
theorem dX10_takeOne_18 : decode cX10_takeOne 18 = .ok (.aload_n 0, 1) := gdX10_takeOne_0.2.2.2.2.2.1
theorem dX10_takeOne_19 : decode cX10_takeOne 19 = .ok (.iload_n 1, 1) := gdX10_takeOne_0.2.2.2.2.2.2.1
theorem dX10_takeOne_20 : decode cX10_takeOne 20 = .ok (.invokevirtual 192, 3) := gdX10_takeOne_0.2.2.2.2.2.2.2
theorem k_X10_192 : xV RX10 RX10 192 yX10_takeSum cX10_takeSum 5 (some .boolean) 1 := ⟨⟨m_887, m_889, m_23, m_136, m_890⟩, rfl, by decide, by decide, by decide +kernel⟩
theorem gdX10_takeOne_23 : decode cX10_takeOne 23 = .ok (.ifCond .ne 5, 3) ∧ decode cX10_takeOne 28 = .ok (.aload_n 0, 1) ∧ decode cX10_takeOne 29 = .ok (.getfield 16, 3) ∧ decode cX10_takeOne 32 = .ok (.getfield 55, 3) ∧ decode cX10_takeOne 35 = .ok (.istore_n 2, 1) ∧ decode cX10_takeOne 36 = .ok (.iload_n 2, 1) ∧ decode cX10_takeOne 37 = .ok (.bipush 60, 2) ∧ decode cX10_takeOne 39 = .ok (.if_icmp .eq 17, 3) ∧ decode cX10_takeOne 56 = .ok (.aload_n 0, 1) ∧ decode cX10_takeOne 57 = .ok (.getfield 16, 3) ∧ decode cX10_takeOne 60 = .ok (.invokevirtual 140, 3) ∧ decode cX10_takeOne 63 = .ok (.aload_n 0, 1) := by decide +kernel
theorem dX10_takeOne_23 : decode cX10_takeOne 23 = .ok (.ifCond .ne 5, 3) := gdX10_takeOne_23.1
theorem dX10_takeOne_28 : decode cX10_takeOne 28 = .ok (.aload_n 0, 1) := gdX10_takeOne_23.2.1
theorem dX10_takeOne_29 : decode cX10_takeOne 29 = .ok (.getfield 16, 3) := gdX10_takeOne_23.2.2.1
theorem dX10_takeOne_32 : decode cX10_takeOne 32 = .ok (.getfield 55, 3) := gdX10_takeOne_23.2.2.2.1
theorem dX10_takeOne_35 : decode cX10_takeOne 35 = .ok (.istore_n 2, 1) := gdX10_takeOne_23.2.2.2.2.1
theorem dX10_takeOne_36 : decode cX10_takeOne 36 = .ok (.iload_n 2, 1) := gdX10_takeOne_23.2.2.2.2.2.1
theorem dX10_takeOne_37 : decode cX10_takeOne 37 = .ok (.bipush 60, 2) := gdX10_takeOne_23.2.2.2.2.2.2.1
theorem dX10_takeOne_39 : decode cX10_takeOne 39 = .ok (.if_icmp .eq 17, 3) := gdX10_takeOne_23.2.2.2.2.2.2.2.1
theorem dX10_takeOne_56 : decode cX10_takeOne 56 = .ok (.aload_n 0, 1) := gdX10_takeOne_23.2.2.2.2.2.2.2.2.1
theorem dX10_takeOne_57 : decode cX10_takeOne 57 = .ok (.getfield 16, 3) := gdX10_takeOne_23.2.2.2.2.2.2.2.2.2.1
theorem dX10_takeOne_60 : decode cX10_takeOne 60 = .ok (.invokevirtual 140, 3) := gdX10_takeOne_23.2.2.2.2.2.2.2.2.2.2.1
theorem dX10_takeOne_63 : decode cX10_takeOne 63 = .ok (.aload_n 0, 1) := gdX10_takeOne_23.2.2.2.2.2.2.2.2.2.2.2
theorem gdX10_takeOne_64 : decode cX10_takeOne 64 = .ok (.iload_n 1, 1) ∧ decode cX10_takeOne 65 = .ok (.invokevirtual 192, 3) ∧ decode cX10_takeOne 68 = .ok (.istore_n 3, 1) ∧ decode cX10_takeOne 69 = .ok (.aload_n 0, 1) ∧ decode cX10_takeOne 70 = .ok (.getfield 34, 3) ∧ decode cX10_takeOne 73 = .ok (.iload_n 2, 1) ∧ decode cX10_takeOne 74 = .ok (.invokevirtual 182, 3) ∧ decode cX10_takeOne 77 = .ok (.iload_n 3, 1) ∧ decode cX10_takeOne 78 = .ok (.ireturn, 1) ∧ decode cX10_takeOne 42 = .ok (.iload_n 2, 1) ∧ decode cX10_takeOne 43 = .ok (.bipush 62, 2) ∧ decode cX10_takeOne 45 = .ok (.if_icmp .eq 11, 3) := by decide +kernel
theorem dX10_takeOne_64 : decode cX10_takeOne 64 = .ok (.iload_n 1, 1) := gdX10_takeOne_64.1
theorem dX10_takeOne_65 : decode cX10_takeOne 65 = .ok (.invokevirtual 192, 3) := gdX10_takeOne_64.2.1
theorem dX10_takeOne_68 : decode cX10_takeOne 68 = .ok (.istore_n 3, 1) := gdX10_takeOne_64.2.2.1
theorem dX10_takeOne_69 : decode cX10_takeOne 69 = .ok (.aload_n 0, 1) := gdX10_takeOne_64.2.2.2.1
theorem dX10_takeOne_70 : decode cX10_takeOne 70 = .ok (.getfield 34, 3) := gdX10_takeOne_64.2.2.2.2.1
theorem dX10_takeOne_73 : decode cX10_takeOne 73 = .ok (.iload_n 2, 1) := gdX10_takeOne_64.2.2.2.2.2.1
theorem dX10_takeOne_74 : decode cX10_takeOne 74 = .ok (.invokevirtual 182, 3) := gdX10_takeOne_64.2.2.2.2.2.2.1
theorem dX10_takeOne_77 : decode cX10_takeOne 77 = .ok (.iload_n 3, 1) := gdX10_takeOne_64.2.2.2.2.2.2.2.1
theorem dX10_takeOne_78 : decode cX10_takeOne 78 = .ok (.ireturn, 1) := gdX10_takeOne_64.2.2.2.2.2.2.2.2.1
theorem dX10_takeOne_42 : decode cX10_takeOne 42 = .ok (.iload_n 2, 1) := gdX10_takeOne_64.2.2.2.2.2.2.2.2.2.1
theorem dX10_takeOne_43 : decode cX10_takeOne 43 = .ok (.bipush 62, 2) := gdX10_takeOne_64.2.2.2.2.2.2.2.2.2.2.1
theorem dX10_takeOne_45 : decode cX10_takeOne 45 = .ok (.if_icmp .eq 11, 3) := gdX10_takeOne_64.2.2.2.2.2.2.2.2.2.2.2
theorem gdX10_takeOne_48 : decode cX10_takeOne 48 = .ok (.iload_n 2, 1) ∧ decode cX10_takeOne 49 = .ok (.bipush 61, 2) ∧ decode cX10_takeOne 51 = .ok (.if_icmp .eq 5, 3) ∧ decode cX10_takeOne 54 = .ok (.iconst 1, 1) ∧ decode cX10_takeOne 55 = .ok (.ireturn, 1) ∧ decode cX10_takeOne 26 = .ok (.iconst 0, 1) ∧ decode cX10_takeOne 27 = .ok (.ireturn, 1) ∧ decode cX10_takeOne 12 = .ok (.aload_n 0, 1) ∧ decode cX10_takeOne 13 = .ok (.iload_n 1, 1) ∧ decode cX10_takeOne 14 = .ok (.invokevirtual 189, 3) := by decide +kernel
theorem dX10_takeOne_48 : decode cX10_takeOne 48 = .ok (.iload_n 2, 1) := gdX10_takeOne_48.1
theorem dX10_takeOne_49 : decode cX10_takeOne 49 = .ok (.bipush 61, 2) := gdX10_takeOne_48.2.1
theorem dX10_takeOne_51 : decode cX10_takeOne 51 = .ok (.if_icmp .eq 5, 3) := gdX10_takeOne_48.2.2.1
theorem dX10_takeOne_54 : decode cX10_takeOne 54 = .ok (.iconst 1, 1) := gdX10_takeOne_48.2.2.2.1
theorem dX10_takeOne_55 : decode cX10_takeOne 55 = .ok (.ireturn, 1) := gdX10_takeOne_48.2.2.2.2.1
theorem dX10_takeOne_26 : decode cX10_takeOne 26 = .ok (.iconst 0, 1) := gdX10_takeOne_48.2.2.2.2.2.1
theorem dX10_takeOne_27 : decode cX10_takeOne 27 = .ok (.ireturn, 1) := gdX10_takeOne_48.2.2.2.2.2.2.1
theorem dX10_takeOne_12 : decode cX10_takeOne 12 = .ok (.aload_n 0, 1) := gdX10_takeOne_48.2.2.2.2.2.2.2.1
theorem dX10_takeOne_13 : decode cX10_takeOne 13 = .ok (.iload_n 1, 1) := gdX10_takeOne_48.2.2.2.2.2.2.2.2.1
theorem dX10_takeOne_14 : decode cX10_takeOne 14 = .ok (.invokevirtual 189, 3) := gdX10_takeOne_48.2.2.2.2.2.2.2.2.2
theorem k_X10_189 : xV RX10 RX10 189 yX10_takeNot cX10_takeNot 3 (some .boolean) 1 := ⟨⟨m_875, m_877, m_21, m_136, m_878⟩, rfl, by decide, by decide, by decide +kernel⟩
theorem dX10_takeOne_17 : decode cX10_takeOne 17 = .ok (.ireturn, 1) := by decide +kernel
set_option maxHeartbeats 1000000 in
set_option maxRecDepth 100000 in
theorem s_takeOne7 (l : Launch) (D : va_G) (cy : Nat → ClassId) (adK : Nat → Nat) (adV : Nat → Nat) (d0 : Nat) (d1 : Nat) (wt : Int32) (dt : Int32) (vv : Int32) (fq : Int32) (pq : Int32) (t0 : Nat) (t1 : Nat) (t2 : Nat) (tn : Nat) (ta : Nat) (ts : Nat) (tk : Nat) (tm : Int64) (tr : Int32) (fby : Nat → Int32) (fky : Nat → Int64) (h0 : Nat) (h1 : Nat) (h2 : Nat) (h3 : Nat) (h4 : Nat) (h5 : Nat) (h6 : Nat) (h7 : Nat) (h8 : Nat) (h9 : Nat) (h10 : Nat) (h11 : Nat) (hv0 : Value) (hv1 : Value) (hv2 : Value) (hv3 : Value) (ow : Nat) (un : Nat) (f0 : Nat) (f1 : Nat) (f2 : Nat) (nf : Nat) (y3 : Value) (fco : Nat → Int32) (ga : Nat) (htn : tn ≤ 1600) (hta : ta ≤ tn) (htk : tk ≤ 123) (hti : tkC fby tn ga ta ts tk tm tr) (hky : kyOK fky) (hnf : nf ≤ 280) (hfc : cOK fco nf) (how : ow ≤ 30) (hun : un ≤ 60) (hga : ga ≤ tn) : XMi l D (tyL cy) (EV adK adV) yX10_takeOne cX10_takeOne 4 (some .boolean) (rmk 10 0 0) [.ref d0, .int 7] [wO d0 10 [.ref t0, .ref d1, .ref h0, .ref f0, .int (nI ow), .int wt, .int dt, .int vv, .int fq, .int pq], wO t0 9 [.ref t1, .ref t2, .int (nI tn), .int (nI ta), .int (nI ts), .int (nI tk), .long tm, .int tr], wI (cy 0) t1 1600 (fby), (t2, .inl (cy 2, 24, .inr (.inl (fky)))), wO h0 4 [.ref h1, .ref h2, .ref h3, .ref h4, .ref h5, .ref h6, .ref h7, .ref h8, .ref h9, .ref h10, .ref h11, hv0, hv1, hv2, hv3, .int (nI un)], wO f0 3 [.ref f1, .ref f2, .int (nI nf), y3], wI (cy 1) f1 280 (fco)] (fun (r : Int32) (u : Nat × Nat × Nat × Int64 × Int32 × Int32 × Int32 × Nat × Nat × Nat × (Nat → Int32) × Nat) => (u.1 ≤ tn) ∧ (u.2.2.1 ≤ 123) ∧ (u.2.2.2.2.2.2.2.2.2.1 ≤ 280) ∧ (cOK u.2.2.2.2.2.2.2.2.2.2.1 u.2.2.2.2.2.2.2.2.2.1) ∧ (u.2.2.2.2.2.2.2.1 ≤ 30) ∧ (u.2.2.2.2.2.2.2.2.1 ≤ 60) ∧ ((r = 1 ∧ (okS (knd fby tn) (fin fby tn) 4 7 ga ow un u.2.2.2.2.2.2.2.2.2.2.2 u.2.2.2.2.2.2.2.1 u.2.2.2.2.2.2.2.2.1) ∧ (fq = u.2.2.2.2.2.1) ∧ (pq = u.2.2.2.2.2.2.1) ∧ (tkC fby tn u.2.2.2.2.2.2.2.2.2.2.2 u.1 u.2.1 u.2.2.1 u.2.2.2.1 u.2.2.2.2.1) ∧ (ga < u.2.2.2.2.2.2.2.2.2.2.2 ∧ u.2.2.2.2.2.2.2.2.2.2.2 ≤ tn)) ∨ (r = 0 ∧ (noS (knd fby tn) (fin fby tn) 4 7 ga ow un u.2.2.2.2.2.2.2.2.2.2.2) ∧ (flt fby tn u.2.2.2.2.2.2.2.2.2.2.2 2 u.2.2.2.2.2.1 u.2.2.2.2.2.2.1)))) (fun (u : Nat × Nat × Nat × Int64 × Int32 × Int32 × Int32 × Nat × Nat × Nat × (Nat → Int32) × Nat) => [wO d0 10 [.ref t0, .ref d1, .ref h0, .ref f0, .int (nI u.2.2.2.2.2.2.2.1), .int wt, .int dt, .int vv, .int u.2.2.2.2.2.1, .int u.2.2.2.2.2.2.1], wO t0 9 [.ref t1, .ref t2, .int (nI tn), .int (nI u.1), .int (nI u.2.1), .int (nI u.2.2.1), .long u.2.2.2.1, .int u.2.2.2.2.1], wI (cy 0) t1 1600 (fby), (t2, .inl (cy 2, 24, .inr (.inl (fky)))), wO h0 4 [.ref h1, .ref h2, .ref h3, .ref h4, .ref h5, .ref h6, .ref h7, .ref h8, .ref h9, .ref h10, .ref h11, hv0, hv1, hv2, hv3, .int (nI u.2.2.2.2.2.2.2.2.1)], wO f0 3 [.ref f1, .ref f2, .int (nI u.2.2.2.2.2.2.2.2.2.1), y3], wI (cy 1) f1 280 (u.2.2.2.2.2.2.2.2.2.2.1)]) := by
  refine XMi.start (by decide) (Nat.le_of_ble_eq_true rfl) ?_
  intro p e s m below meth c args A ls Q hat hQ
  obtain ⟨hx, hb, hr, hml, hown, hg, hlocks, hin, hK, hA, hP, hD, hS, hE, hl⟩ := hat
  have hown : s.vm.findClass RX10 = some m.cls := hown
  have hl : lv_has ls 4 [(0, .ref d0), (1, .int 7)] := hl
  refine lv_aload_n hx hb dX10_takeOne_0 rfl (lv_at hl 0 rfl) ?_
  refine va_get (D := D) (ci := 10) (v := .ref t0) (C := RX10) (T := TX10) (N := 10) hx hb hg i_X10 hown hK hP 0 rfl rfl 0 (by decide) (hg _ m_255) (fun _ h9 => h9) rfl dX10_takeOne_1 ?_
  refine va_get (D := D) (ci := 9) (v := .int (nI tk)) (C := RX9) (T := TX9) (N := 8) hx hb hg i_X9 hown hK hP 1 rfl rfl 5 (by decide) (hg _ m_222) (fun _ h9 => h9) rfl dX10_takeOne_4 ?_
  refine lv_bipush (v := 116) hx hb dX10_takeOne_7 (by decide) ?_
  refine lv_icmp_ne (tgt := 18) hx hb dX10_takeOne_9 (by decide) (fun c_1 => ?_) (fun c_1 => ?_)
  · have q_2 : ¬ tk = 116 := q_ne (a := tk) (b := 116) rfl rfl (by omega) (by omega) c_1
    have hn16 : ¬ knd fby tn ga = 116 := by have h9 := hti.2.2.1; omega
    refine lv_aload_n hx hb dX10_takeOne_18 rfl (lv_at hl 0 rfl) ?_
    refine lv_iload_n hx hb dX10_takeOne_19 rfl (lv_at hl 1 rfl) ?_
    refine x_callVi (q := (RX10, TX10, 10)) (ci := 10) (q0 := 0) (wr := []) (rest := []) ⟨hx, hb, hml, hown, hg, hl.1⟩ k_X10_192 (s_takeSum7 l D cy adK adV d0 d1 wt dt vv fq pq t0 t1 t2 tn ta ts tk tm tr fby fky h0 h1 h2 h3 h4 h5 h6 h7 h8 h9 h10 h11 hv0 hv1 hv2 hv3 ow un f0 f1 f2 nf y3 fco ga (by omega) (by omega) (by omega) (hti) (hky) (by omega) (hfc) (by omega) (by omega) (by omega)) EV_blind hK hP hD hS hA [0, 1, 2, 3, 4, 5, 6] [] ⟨rfl, rfl, by decide +kernel, by decide +kernel, by decide +kernel⟩ rfl rfl (fun U hU hW => EV_pass hE hS (va_free hD hS hA [0, 1, 2, 3, 4, 5, 6] rfl) hU hW) dX10_takeOne_20 rfl rfl (Nat.le_of_ble_eq_true rfl) ⟨Nat.le_of_ble_eq_true rfl, Nat.le_of_ble_eq_true rfl⟩ ⟨Nat.le_of_ble_eq_true rfl, Nat.le_of_ble_eq_true rfl⟩ (fun zr3 zu3 H locs hw3 hP9 hD9 hS9 => ?_)
    clear hP hD hS
    obtain ⟨ta2_4, ts2_5, tk2_6, tm2_7, tr2_8, fq2_9, pq2_10, ow2_11, un2_12, nf2_13, fco2_14, ga2_15⟩ := zu3
    refine reW [wO d0 10 [.ref t0, .ref d1, .ref h0, .ref f0, .int (nI ow2_11), .int wt, .int dt, .int vv, .int fq2_9, .int pq2_10], wO t0 9 [.ref t1, .ref t2, .int (nI tn), .int (nI ta2_4), .int (nI ts2_5), .int (nI tk2_6), .long tm2_7, .int tr2_8], wI (cy 0) t1 1600 (fby), (t2, .inl (cy 2, 24, .inr (.inl (fky)))), wO h0 4 [.ref h1, .ref h2, .ref h3, .ref h4, .ref h5, .ref h6, .ref h7, .ref h8, .ref h9, .ref h10, .ref h11, hv0, hv1, hv2, hv3, .int (nI un2_12)], wO f0 3 [.ref f1, .ref f2, .int (nI nf2_13), y3], wI (cy 1) f1 280 (fco2_14)] hP9 hD9 hS9 (fun hP hD hS => ?_)
    clear hP9 hD9 hS9
    refine W.widen (k := 0) (n := 0) (Nat.le_of_ble_eq_true rfl) (Nat.le_of_ble_eq_true rfl) ?_
    replace hw3 : (ta2_4 ≤ tn) ∧ (tk2_6 ≤ 123) ∧ (nf2_13 ≤ 280) ∧ (cOK fco2_14 nf2_13) ∧ (ow2_11 ≤ 30) ∧ (un2_12 ≤ 60) ∧ ((zr3 = 1 ∧ (okS (knd fby tn) (fin fby tn) 5 7 ga ow un ga2_15 ow2_11 un2_12) ∧ (fq = fq2_9) ∧ (pq = pq2_10) ∧ (tkC fby tn ga2_15 ta2_4 ts2_5 tk2_6 tm2_7 tr2_8) ∧ (ga < ga2_15 ∧ ga2_15 ≤ tn)) ∨ (zr3 = 0 ∧ (noS (knd fby tn) (fin fby tn) 5 7 ga ow un ga2_15) ∧ (flt fby tn ga2_15 2 fq2_9 pq2_10))) := hw3
    obtain ⟨f_16, f_17, f_18, f_19, f_20, f_21, f_22⟩ := hw3
    rcases f_22 with ⟨hz_28, a_23, a_24, a_25, a_26, a_27⟩ | ⟨hz_31, a_29, a_30⟩
    · subst hz_28
      subst a_24
      subst a_25
      have hg_a_27 := a_27
      refine lv_if_ne (tgt := 28) hx hb dX10_takeOne_23 (by decide) (fun _ => ?_) (fun h => absurd h (by decide))
      refine lv_aload_n hx hb dX10_takeOne_28 rfl (lv_at hl 0 rfl) ?_
      refine va_get (D := D) (ci := 10) (v := .ref t0) (C := RX10) (T := TX10) (N := 10) hx hb hg i_X10 hown hK hP 0 rfl rfl 0 (by decide) (hg _ m_255) (fun _ h9 => h9) rfl dX10_takeOne_29 ?_
      refine va_get (D := D) (ci := 9) (v := .int (nI tk2_6)) (C := RX9) (T := TX9) (N := 8) hx hb hg i_X9 hown hK hP 1 rfl rfl 5 (by decide) (hg _ m_222) (fun _ h9 => h9) rfl dX10_takeOne_32 ?_
      refine lv_istore_n (lv' := [(2, .int (nI tk2_6)), (0, .ref d0), (1, .int 7)]) hx hb dX10_takeOne_35 rfl hl (by decide) rfl (fun ls hl => ?_)
      refine lv_iload_n hx hb dX10_takeOne_36 rfl (lv_at hl 0 rfl) ?_
      refine lv_bipush (v := 60) hx hb dX10_takeOne_37 (by decide) ?_
      refine lv_icmp_eq (tgt := 56) hx hb dX10_takeOne_39 (by decide) (fun c_32 => ?_) (fun c_32 => ?_)
      · have q_33 : tk2_6 = 60 := q_eq (a := tk2_6) (b := 60) rfl rfl (by omega) (by omega) c_32
        have hop := sg_4 (show knd fby tn ga2_15 = 60 ∨ knd fby tn ga2_15 = 62 ∨ knd fby tn ga2_15 = 61 from by have h9 := a_26.2.2.1; omega)
        have hgt_34 : ga2_15 < fin fby tn ga2_15 ∧ fin fby tn ga2_15 ≤ tn := ⟨fin_gt (by have h9 := a_26.2.2.1; omega), fin_le (by omega)⟩
        refine lv_aload_n hx hb dX10_takeOne_56 rfl (lv_at hl 1 rfl) ?_
        refine va_get (D := D) (ci := 10) (v := .ref t0) (C := RX10) (T := TX10) (N := 10) hx hb hg i_X10 hown hK hP 0 rfl rfl 0 (by decide) (hg _ m_255) (fun _ h9 => h9) rfl dX10_takeOne_57 ?_
        refine x_callVv (q := (RX9, TX9, 8)) (ci := 9) (q0 := 0) (wr := [wO d0 10 [.ref t0, .ref d1, .ref h0, .ref f0, .int (nI ow2_11), .int wt, .int dt, .int vv, .int fq, .int pq], wO h0 4 [.ref h1, .ref h2, .ref h3, .ref h4, .ref h5, .ref h6, .ref h7, .ref h8, .ref h9, .ref h10, .ref h11, hv0, hv1, hv2, hv3, .int (nI un2_12)], wO f0 3 [.ref f1, .ref f2, .int (nI nf2_13), y3], wI (cy 1) f1 280 (fco2_14)]) (rest := []) ⟨hx, hb, hml, hown, hg, hl.1⟩ k_X10_140 (s_next l D cy adK adV t0 t1 t2 tn ta2_4 ts2_5 tk2_6 tm2_7 tr2_8 fby fky (fin fby tn ga2_15) (by omega) (by omega) (a_26.2.1) (hky)) EV_blind hK hP hD hS hA [1, 2, 3] [0, 4, 5, 6] ⟨rfl, rfl, by decide +kernel, by decide +kernel, by decide +kernel⟩ rfl rfl (fun U hU hW => EV_pass hE hS (va_free hD hS hA [1, 2, 3] rfl) hU hW) dX10_takeOne_60 rfl rfl (Nat.le_of_ble_eq_true rfl) ⟨Nat.le_of_ble_eq_true rfl, Nat.le_of_ble_eq_true rfl⟩ ⟨Nat.le_of_ble_eq_true rfl, Nat.le_of_ble_eq_true rfl⟩ (fun zu35 H locs hw35 hP9 hD9 hS9 => ?_)
        clear hP hD hS
        obtain ⟨ta2_36, ts2_37, tk2_38, tm2_39, tr2_40⟩ := zu35
        refine reW [wO d0 10 [.ref t0, .ref d1, .ref h0, .ref f0, .int (nI ow2_11), .int wt, .int dt, .int vv, .int fq, .int pq], wO h0 4 [.ref h1, .ref h2, .ref h3, .ref h4, .ref h5, .ref h6, .ref h7, .ref h8, .ref h9, .ref h10, .ref h11, hv0, hv1, hv2, hv3, .int (nI un2_12)], wO f0 3 [.ref f1, .ref f2, .int (nI nf2_13), y3], wI (cy 1) f1 280 (fco2_14), wO t0 9 [.ref t1, .ref t2, .int (nI tn), .int (nI ta2_36), .int (nI ts2_37), .int (nI tk2_38), .long tm2_39, .int tr2_40], wI (cy 0) t1 1600 (fby), (t2, .inl (cy 2, 24, .inr (.inl (fky))))] hP9 hD9 hS9 (fun hP hD hS => ?_)
        clear hP9 hD9 hS9
        refine W.widen (k := 0) (n := 0) (Nat.le_of_ble_eq_true rfl) (Nat.le_of_ble_eq_true rfl) ?_
        replace hw35 : (ta2_36 ≤ tn) ∧ (tk2_38 ≤ 123) ∧ (tkC fby tn (fin fby tn ga2_15) ta2_36 ts2_37 tk2_38 tm2_39 tr2_40) := hw35
        obtain ⟨f_41, f_42, f_43⟩ := hw35
        refine lv_aload_n hx hb dX10_takeOne_63 rfl (lv_at hl 1 rfl) ?_
        refine lv_iload_n hx hb dX10_takeOne_64 rfl (lv_at hl 2 rfl) ?_
        refine x_callVi (q := (RX10, TX10, 10)) (ci := 10) (q0 := 0) (wr := []) (rest := []) ⟨hx, hb, hml, hown, hg, hl.1⟩ k_X10_192 (s_takeSum7 l D cy adK adV d0 d1 wt dt vv fq pq t0 t1 t2 tn ta2_36 ts2_37 tk2_38 tm2_39 tr2_40 fby fky h0 h1 h2 h3 h4 h5 h6 h7 h8 h9 h10 h11 hv0 hv1 hv2 hv3 ow2_11 un2_12 f0 f1 f2 nf2_13 y3 fco2_14 (fin fby tn ga2_15) (by omega) (by omega) (by omega) (f_43) (hky) (by omega) (f_19) (by omega) (by omega) (by omega)) EV_blind hK hP hD hS hA [0, 4, 5, 6, 1, 2, 3] [] ⟨rfl, rfl, by decide +kernel, by decide +kernel, by decide +kernel⟩ rfl rfl (fun U hU hW => EV_pass hE hS (va_free hD hS hA [0, 4, 5, 6, 1, 2, 3] rfl) hU hW) dX10_takeOne_65 rfl rfl (Nat.le_of_ble_eq_true rfl) ⟨Nat.le_of_ble_eq_true rfl, Nat.le_of_ble_eq_true rfl⟩ ⟨Nat.le_of_ble_eq_true rfl, Nat.le_of_ble_eq_true rfl⟩ (fun zr44 zu44 H locs hw44 hP9 hD9 hS9 => ?_)
        clear hP hD hS
        obtain ⟨ta2_45, ts2_46, tk2_47, tm2_48, tr2_49, fq2_50, pq2_51, ow2_52, un2_53, nf2_54, fco2_55, ga2_56⟩ := zu44
        refine reW [wO d0 10 [.ref t0, .ref d1, .ref h0, .ref f0, .int (nI ow2_52), .int wt, .int dt, .int vv, .int fq2_50, .int pq2_51], wO t0 9 [.ref t1, .ref t2, .int (nI tn), .int (nI ta2_45), .int (nI ts2_46), .int (nI tk2_47), .long tm2_48, .int tr2_49], wI (cy 0) t1 1600 (fby), (t2, .inl (cy 2, 24, .inr (.inl (fky)))), wO h0 4 [.ref h1, .ref h2, .ref h3, .ref h4, .ref h5, .ref h6, .ref h7, .ref h8, .ref h9, .ref h10, .ref h11, hv0, hv1, hv2, hv3, .int (nI un2_53)], wO f0 3 [.ref f1, .ref f2, .int (nI nf2_54), y3], wI (cy 1) f1 280 (fco2_55)] hP9 hD9 hS9 (fun hP hD hS => ?_)
        clear hP9 hD9 hS9
        refine W.widen (k := 0) (n := 0) (Nat.le_of_ble_eq_true rfl) (Nat.le_of_ble_eq_true rfl) ?_
        replace hw44 : (ta2_45 ≤ tn) ∧ (tk2_47 ≤ 123) ∧ (nf2_54 ≤ 280) ∧ (cOK fco2_55 nf2_54) ∧ (ow2_52 ≤ 30) ∧ (un2_53 ≤ 60) ∧ ((zr44 = 1 ∧ (okS (knd fby tn) (fin fby tn) 5 7 (fin fby tn ga2_15) ow2_11 un2_12 ga2_56 ow2_52 un2_53) ∧ (fq = fq2_50) ∧ (pq = pq2_51) ∧ (tkC fby tn ga2_56 ta2_45 ts2_46 tk2_47 tm2_48 tr2_49) ∧ ((fin fby tn ga2_15) < ga2_56 ∧ ga2_56 ≤ tn)) ∨ (zr44 = 0 ∧ (noS (knd fby tn) (fin fby tn) 5 7 (fin fby tn ga2_15) ow2_11 un2_12 ga2_56) ∧ (flt fby tn ga2_56 2 fq2_50 pq2_51))) := hw44
        obtain ⟨f_57, f_58, f_59, f_60, f_61, f_62, f_63⟩ := hw44
        rcases f_63 with ⟨hz_69, a_64, a_65, a_66, a_67, a_68⟩ | ⟨hz_72, a_70, a_71⟩
        · subst hz_69
          subst a_65
          subst a_66
          have hg_a_68 := a_68
          refine lv_istore_n (lv' := [(3, .int 1), (2, .int (nI tk2_6)), (0, .ref d0), (1, .int 7)]) hx hb dX10_takeOne_68 rfl hl (by decide) rfl (fun ls hl => ?_)
          refine lv_aload_n hx hb dX10_takeOne_69 rfl (lv_at hl 2 rfl) ?_
          refine va_get (D := D) (ci := 10) (v := .ref f0) (C := RX10) (T := TX10) (N := 10) hx hb hg i_X10 hown hK hP 0 rfl rfl 3 (by decide) (hg _ m_258) (fun _ h9 => h9) rfl dX10_takeOne_70 ?_
          refine lv_iload_n hx hb dX10_takeOne_73 rfl (lv_at hl 1 rfl) ?_
          refine x_callVv (q := (RX3, TX3, 4)) (ci := 3) (q0 := 0) (wr := [wO d0 10 [.ref t0, .ref d1, .ref h0, .ref f0, .int (nI ow2_52), .int wt, .int dt, .int vv, .int fq, .int pq], wO t0 9 [.ref t1, .ref t2, .int (nI tn), .int (nI ta2_45), .int (nI ts2_46), .int (nI tk2_47), .long tm2_48, .int tr2_49], wI (cy 0) t1 1600 (fby), (t2, .inl (cy 2, 24, .inr (.inl (fky)))), wO h0 4 [.ref h1, .ref h2, .ref h3, .ref h4, .ref h5, .ref h6, .ref h7, .ref h8, .ref h9, .ref h10, .ref h11, hv0, hv1, hv2, hv3, .int (nI un2_53)]]) (rest := []) ⟨hx, hb, hml, hown, hg, hl.1⟩ k_X10_182 (s_addDeed l D cy f0 f1 f2 nf2_54 y3 fco2_55 tk2_6 (by omega) (f_60) (by omega)) E0_blind hK hP hD hS hA [5, 6] [0, 1, 2, 3, 4] ⟨rfl, rfl, by decide +kernel, by decide +kernel, by decide +kernel⟩ rfl rfl (fun _ _ _ => trivial) dX10_takeOne_74 rfl rfl (Nat.le_of_ble_eq_true rfl) ⟨Nat.le_of_ble_eq_true rfl, Nat.le_of_ble_eq_true rfl⟩ ⟨Nat.le_of_ble_eq_true rfl, Nat.le_of_ble_eq_true rfl⟩ (fun zu73 H locs hw73 hP9 hD9 hS9 => ?_)
          clear hP hD hS
          obtain ⟨n2_74, fc2_75⟩ := zu73
          refine reW [wO d0 10 [.ref t0, .ref d1, .ref h0, .ref f0, .int (nI ow2_52), .int wt, .int dt, .int vv, .int fq, .int pq], wO t0 9 [.ref t1, .ref t2, .int (nI tn), .int (nI ta2_45), .int (nI ts2_46), .int (nI tk2_47), .long tm2_48, .int tr2_49], wI (cy 0) t1 1600 (fby), (t2, .inl (cy 2, 24, .inr (.inl (fky)))), wO h0 4 [.ref h1, .ref h2, .ref h3, .ref h4, .ref h5, .ref h6, .ref h7, .ref h8, .ref h9, .ref h10, .ref h11, hv0, hv1, hv2, hv3, .int (nI un2_53)], wO f0 3 [.ref f1, .ref f2, .int (nI n2_74), y3], wI (cy 1) f1 280 (fc2_75)] hP9 hD9 hS9 (fun hP hD hS => ?_)
          clear hP9 hD9 hS9
          refine W.widen (k := 0) (n := 0) (Nat.le_of_ble_eq_true rfl) (Nat.le_of_ble_eq_true rfl) ?_
          replace hw73 : (n2_74 ≤ 280) ∧ (cOK fc2_75 n2_74) := hw73
          obtain ⟨f_76, f_77⟩ := hw73
          refine lv_iload_n hx hb dX10_takeOne_77 rfl (lv_at hl 0 rfl) ?_
          exact x_zret hQ hx hb hr hlocks hK hP hD hS rfl dX10_takeOne_78 (ta2_45, ts2_46, tk2_47, tm2_48, tr2_49, fq, pq, ow2_52, un2_53, n2_74, fc2_75, ga2_56) (⟨(show ta2_45 ≤ tn from by omega), (show tk2_47 ≤ 123 from by omega), (show n2_74 ≤ 280 from by omega), f_77, (show ow2_52 ≤ 30 from by omega), (show un2_53 ≤ 60 from by omega), (show ((1 : Int32) = 1 ∧ (okS (knd fby tn) (fin fby tn) 4 7 ga ow un ga2_56 ow2_52 un2_53) ∧ (fq = fq) ∧ (pq = pq) ∧ (tkC fby tn ga2_56 ta2_45 ts2_46 tk2_47 tm2_48 tr2_49) ∧ (ga < ga2_56 ∧ ga2_56 ≤ tn)) ∨ ((1 : Int32) = 0 ∧ (noS (knd fby tn) (fin fby tn) 4 7 ga ow un ga2_56) ∧ (flt fby tn ga2_56 2 fq pq)) from Or.inl ⟨rfl, (one_rel hn16 a_23 hop.1 hop.2 a_64), (rfl), (rfl), (a_67), (⟨by omega, by omega⟩)⟩)⟩) [0, 1, 2, 3, 4, 5, 6] (by decide +kernel) rfl (Nat.le_of_ble_eq_true rfl) (Nat.le_of_ble_eq_true rfl)
        · subst hz_72
          refine lv_istore_n (lv' := [(3, .int 0), (2, .int (nI tk2_6)), (0, .ref d0), (1, .int 7)]) hx hb dX10_takeOne_68 rfl hl (by decide) rfl (fun ls hl => ?_)
          refine lv_aload_n hx hb dX10_takeOne_69 rfl (lv_at hl 2 rfl) ?_
          refine va_get (D := D) (ci := 10) (v := .ref f0) (C := RX10) (T := TX10) (N := 10) hx hb hg i_X10 hown hK hP 0 rfl rfl 3 (by decide) (hg _ m_258) (fun _ h9 => h9) rfl dX10_takeOne_70 ?_
          refine lv_iload_n hx hb dX10_takeOne_73 rfl (lv_at hl 1 rfl) ?_
          refine x_callVv (q := (RX3, TX3, 4)) (ci := 3) (q0 := 0) (wr := [wO d0 10 [.ref t0, .ref d1, .ref h0, .ref f0, .int (nI ow2_52), .int wt, .int dt, .int vv, .int fq2_50, .int pq2_51], wO t0 9 [.ref t1, .ref t2, .int (nI tn), .int (nI ta2_45), .int (nI ts2_46), .int (nI tk2_47), .long tm2_48, .int tr2_49], wI (cy 0) t1 1600 (fby), (t2, .inl (cy 2, 24, .inr (.inl (fky)))), wO h0 4 [.ref h1, .ref h2, .ref h3, .ref h4, .ref h5, .ref h6, .ref h7, .ref h8, .ref h9, .ref h10, .ref h11, hv0, hv1, hv2, hv3, .int (nI un2_53)]]) (rest := []) ⟨hx, hb, hml, hown, hg, hl.1⟩ k_X10_182 (s_addDeed l D cy f0 f1 f2 nf2_54 y3 fco2_55 tk2_6 (by omega) (f_60) (by omega)) E0_blind hK hP hD hS hA [5, 6] [0, 1, 2, 3, 4] ⟨rfl, rfl, by decide +kernel, by decide +kernel, by decide +kernel⟩ rfl rfl (fun _ _ _ => trivial) dX10_takeOne_74 rfl rfl (Nat.le_of_ble_eq_true rfl) ⟨Nat.le_of_ble_eq_true rfl, Nat.le_of_ble_eq_true rfl⟩ ⟨Nat.le_of_ble_eq_true rfl, Nat.le_of_ble_eq_true rfl⟩ (fun zu78 H locs hw78 hP9 hD9 hS9 => ?_)
          clear hP hD hS
          obtain ⟨n2_79, fc2_80⟩ := zu78
          refine reW [wO d0 10 [.ref t0, .ref d1, .ref h0, .ref f0, .int (nI ow2_52), .int wt, .int dt, .int vv, .int fq2_50, .int pq2_51], wO t0 9 [.ref t1, .ref t2, .int (nI tn), .int (nI ta2_45), .int (nI ts2_46), .int (nI tk2_47), .long tm2_48, .int tr2_49], wI (cy 0) t1 1600 (fby), (t2, .inl (cy 2, 24, .inr (.inl (fky)))), wO h0 4 [.ref h1, .ref h2, .ref h3, .ref h4, .ref h5, .ref h6, .ref h7, .ref h8, .ref h9, .ref h10, .ref h11, hv0, hv1, hv2, hv3, .int (nI un2_53)], wO f0 3 [.ref f1, .ref f2, .int (nI n2_79), y3], wI (cy 1) f1 280 (fc2_80)] hP9 hD9 hS9 (fun hP hD hS => ?_)
          clear hP9 hD9 hS9
          refine W.widen (k := 0) (n := 0) (Nat.le_of_ble_eq_true rfl) (Nat.le_of_ble_eq_true rfl) ?_
          replace hw78 : (n2_79 ≤ 280) ∧ (cOK fc2_80 n2_79) := hw78
          obtain ⟨f_81, f_82⟩ := hw78
          refine lv_iload_n hx hb dX10_takeOne_77 rfl (lv_at hl 0 rfl) ?_
          exact x_zret hQ hx hb hr hlocks hK hP hD hS rfl dX10_takeOne_78 (ta2_45, ts2_46, tk2_47, tm2_48, tr2_49, fq2_50, pq2_51, ow2_52, un2_53, n2_79, fc2_80, ga2_56) (⟨(show ta2_45 ≤ tn from by omega), (show tk2_47 ≤ 123 from by omega), (show n2_79 ≤ 280 from by omega), f_82, (show ow2_52 ≤ 30 from by omega), (show un2_53 ≤ 60 from by omega), (show ((0 : Int32) = 1 ∧ (okS (knd fby tn) (fin fby tn) 4 7 ga ow un ga2_56 ow2_52 un2_53) ∧ (fq = fq2_50) ∧ (pq = pq2_51) ∧ (tkC fby tn ga2_56 ta2_45 ts2_46 tk2_47 tm2_48 tr2_49) ∧ (ga < ga2_56 ∧ ga2_56 ≤ tn)) ∨ ((0 : Int32) = 0 ∧ (noS (knd fby tn) (fin fby tn) 4 7 ga ow un ga2_56) ∧ (flt fby tn ga2_56 2 fq2_50 pq2_51)) from Or.inr (⟨rfl, (one_relN hn16 a_23 hop.1 hop.2 a_70), (a_71)⟩))⟩) [0, 1, 2, 3, 4, 5, 6] (by decide +kernel) rfl (Nat.le_of_ble_eq_true rfl) (Nat.le_of_ble_eq_true rfl)
      · have q_33 : ¬ tk2_6 = 60 := q_ne (a := tk2_6) (b := 60) rfl rfl (by omega) (by omega) c_32
        refine lv_iload_n hx hb dX10_takeOne_42 rfl (lv_at hl 0 rfl) ?_
        refine lv_bipush (v := 62) hx hb dX10_takeOne_43 (by decide) ?_
        refine lv_icmp_eq (tgt := 56) hx hb dX10_takeOne_45 (by decide) (fun c_83 => ?_) (fun c_83 => ?_)
        · have q_84 : tk2_6 = 62 := q_eq (a := tk2_6) (b := 62) rfl rfl (by omega) (by omega) c_83
          have hop := sg_4 (show knd fby tn ga2_15 = 60 ∨ knd fby tn ga2_15 = 62 ∨ knd fby tn ga2_15 = 61 from by have h9 := a_26.2.2.1; omega)
          have hgt_85 : ga2_15 < fin fby tn ga2_15 ∧ fin fby tn ga2_15 ≤ tn := ⟨fin_gt (by have h9 := a_26.2.2.1; omega), fin_le (by omega)⟩
          refine lv_aload_n hx hb dX10_takeOne_56 rfl (lv_at hl 1 rfl) ?_
          refine va_get (D := D) (ci := 10) (v := .ref t0) (C := RX10) (T := TX10) (N := 10) hx hb hg i_X10 hown hK hP 0 rfl rfl 0 (by decide) (hg _ m_255) (fun _ h9 => h9) rfl dX10_takeOne_57 ?_
          refine x_callVv (q := (RX9, TX9, 8)) (ci := 9) (q0 := 0) (wr := [wO d0 10 [.ref t0, .ref d1, .ref h0, .ref f0, .int (nI ow2_11), .int wt, .int dt, .int vv, .int fq, .int pq], wO h0 4 [.ref h1, .ref h2, .ref h3, .ref h4, .ref h5, .ref h6, .ref h7, .ref h8, .ref h9, .ref h10, .ref h11, hv0, hv1, hv2, hv3, .int (nI un2_12)], wO f0 3 [.ref f1, .ref f2, .int (nI nf2_13), y3], wI (cy 1) f1 280 (fco2_14)]) (rest := []) ⟨hx, hb, hml, hown, hg, hl.1⟩ k_X10_140 (s_next l D cy adK adV t0 t1 t2 tn ta2_4 ts2_5 tk2_6 tm2_7 tr2_8 fby fky (fin fby tn ga2_15) (by omega) (by omega) (a_26.2.1) (hky)) EV_blind hK hP hD hS hA [1, 2, 3] [0, 4, 5, 6] ⟨rfl, rfl, by decide +kernel, by decide +kernel, by decide +kernel⟩ rfl rfl (fun U hU hW => EV_pass hE hS (va_free hD hS hA [1, 2, 3] rfl) hU hW) dX10_takeOne_60 rfl rfl (Nat.le_of_ble_eq_true rfl) ⟨Nat.le_of_ble_eq_true rfl, Nat.le_of_ble_eq_true rfl⟩ ⟨Nat.le_of_ble_eq_true rfl, Nat.le_of_ble_eq_true rfl⟩ (fun zu86 H locs hw86 hP9 hD9 hS9 => ?_)
          clear hP hD hS
          obtain ⟨ta2_87, ts2_88, tk2_89, tm2_90, tr2_91⟩ := zu86
          refine reW [wO d0 10 [.ref t0, .ref d1, .ref h0, .ref f0, .int (nI ow2_11), .int wt, .int dt, .int vv, .int fq, .int pq], wO h0 4 [.ref h1, .ref h2, .ref h3, .ref h4, .ref h5, .ref h6, .ref h7, .ref h8, .ref h9, .ref h10, .ref h11, hv0, hv1, hv2, hv3, .int (nI un2_12)], wO f0 3 [.ref f1, .ref f2, .int (nI nf2_13), y3], wI (cy 1) f1 280 (fco2_14), wO t0 9 [.ref t1, .ref t2, .int (nI tn), .int (nI ta2_87), .int (nI ts2_88), .int (nI tk2_89), .long tm2_90, .int tr2_91], wI (cy 0) t1 1600 (fby), (t2, .inl (cy 2, 24, .inr (.inl (fky))))] hP9 hD9 hS9 (fun hP hD hS => ?_)
          clear hP9 hD9 hS9
          refine W.widen (k := 0) (n := 0) (Nat.le_of_ble_eq_true rfl) (Nat.le_of_ble_eq_true rfl) ?_
          replace hw86 : (ta2_87 ≤ tn) ∧ (tk2_89 ≤ 123) ∧ (tkC fby tn (fin fby tn ga2_15) ta2_87 ts2_88 tk2_89 tm2_90 tr2_91) := hw86
          obtain ⟨f_92, f_93, f_94⟩ := hw86
          refine lv_aload_n hx hb dX10_takeOne_63 rfl (lv_at hl 1 rfl) ?_
          refine lv_iload_n hx hb dX10_takeOne_64 rfl (lv_at hl 2 rfl) ?_
          refine x_callVi (q := (RX10, TX10, 10)) (ci := 10) (q0 := 0) (wr := []) (rest := []) ⟨hx, hb, hml, hown, hg, hl.1⟩ k_X10_192 (s_takeSum7 l D cy adK adV d0 d1 wt dt vv fq pq t0 t1 t2 tn ta2_87 ts2_88 tk2_89 tm2_90 tr2_91 fby fky h0 h1 h2 h3 h4 h5 h6 h7 h8 h9 h10 h11 hv0 hv1 hv2 hv3 ow2_11 un2_12 f0 f1 f2 nf2_13 y3 fco2_14 (fin fby tn ga2_15) (by omega) (by omega) (by omega) (f_94) (hky) (by omega) (f_19) (by omega) (by omega) (by omega)) EV_blind hK hP hD hS hA [0, 4, 5, 6, 1, 2, 3] [] ⟨rfl, rfl, by decide +kernel, by decide +kernel, by decide +kernel⟩ rfl rfl (fun U hU hW => EV_pass hE hS (va_free hD hS hA [0, 4, 5, 6, 1, 2, 3] rfl) hU hW) dX10_takeOne_65 rfl rfl (Nat.le_of_ble_eq_true rfl) ⟨Nat.le_of_ble_eq_true rfl, Nat.le_of_ble_eq_true rfl⟩ ⟨Nat.le_of_ble_eq_true rfl, Nat.le_of_ble_eq_true rfl⟩ (fun zr95 zu95 H locs hw95 hP9 hD9 hS9 => ?_)
          clear hP hD hS
          obtain ⟨ta2_96, ts2_97, tk2_98, tm2_99, tr2_100, fq2_101, pq2_102, ow2_103, un2_104, nf2_105, fco2_106, ga2_107⟩ := zu95
          refine reW [wO d0 10 [.ref t0, .ref d1, .ref h0, .ref f0, .int (nI ow2_103), .int wt, .int dt, .int vv, .int fq2_101, .int pq2_102], wO t0 9 [.ref t1, .ref t2, .int (nI tn), .int (nI ta2_96), .int (nI ts2_97), .int (nI tk2_98), .long tm2_99, .int tr2_100], wI (cy 0) t1 1600 (fby), (t2, .inl (cy 2, 24, .inr (.inl (fky)))), wO h0 4 [.ref h1, .ref h2, .ref h3, .ref h4, .ref h5, .ref h6, .ref h7, .ref h8, .ref h9, .ref h10, .ref h11, hv0, hv1, hv2, hv3, .int (nI un2_104)], wO f0 3 [.ref f1, .ref f2, .int (nI nf2_105), y3], wI (cy 1) f1 280 (fco2_106)] hP9 hD9 hS9 (fun hP hD hS => ?_)
          clear hP9 hD9 hS9
          refine W.widen (k := 0) (n := 0) (Nat.le_of_ble_eq_true rfl) (Nat.le_of_ble_eq_true rfl) ?_
          replace hw95 : (ta2_96 ≤ tn) ∧ (tk2_98 ≤ 123) ∧ (nf2_105 ≤ 280) ∧ (cOK fco2_106 nf2_105) ∧ (ow2_103 ≤ 30) ∧ (un2_104 ≤ 60) ∧ ((zr95 = 1 ∧ (okS (knd fby tn) (fin fby tn) 5 7 (fin fby tn ga2_15) ow2_11 un2_12 ga2_107 ow2_103 un2_104) ∧ (fq = fq2_101) ∧ (pq = pq2_102) ∧ (tkC fby tn ga2_107 ta2_96 ts2_97 tk2_98 tm2_99 tr2_100) ∧ ((fin fby tn ga2_15) < ga2_107 ∧ ga2_107 ≤ tn)) ∨ (zr95 = 0 ∧ (noS (knd fby tn) (fin fby tn) 5 7 (fin fby tn ga2_15) ow2_11 un2_12 ga2_107) ∧ (flt fby tn ga2_107 2 fq2_101 pq2_102))) := hw95
          obtain ⟨f_108, f_109, f_110, f_111, f_112, f_113, f_114⟩ := hw95
          rcases f_114 with ⟨hz_120, a_115, a_116, a_117, a_118, a_119⟩ | ⟨hz_123, a_121, a_122⟩
          · subst hz_120
            subst a_116
            subst a_117
            have hg_a_119 := a_119
            refine lv_istore_n (lv' := [(3, .int 1), (2, .int (nI tk2_6)), (0, .ref d0), (1, .int 7)]) hx hb dX10_takeOne_68 rfl hl (by decide) rfl (fun ls hl => ?_)
            refine lv_aload_n hx hb dX10_takeOne_69 rfl (lv_at hl 2 rfl) ?_
            refine va_get (D := D) (ci := 10) (v := .ref f0) (C := RX10) (T := TX10) (N := 10) hx hb hg i_X10 hown hK hP 0 rfl rfl 3 (by decide) (hg _ m_258) (fun _ h9 => h9) rfl dX10_takeOne_70 ?_
            refine lv_iload_n hx hb dX10_takeOne_73 rfl (lv_at hl 1 rfl) ?_
            refine x_callVv (q := (RX3, TX3, 4)) (ci := 3) (q0 := 0) (wr := [wO d0 10 [.ref t0, .ref d1, .ref h0, .ref f0, .int (nI ow2_103), .int wt, .int dt, .int vv, .int fq, .int pq], wO t0 9 [.ref t1, .ref t2, .int (nI tn), .int (nI ta2_96), .int (nI ts2_97), .int (nI tk2_98), .long tm2_99, .int tr2_100], wI (cy 0) t1 1600 (fby), (t2, .inl (cy 2, 24, .inr (.inl (fky)))), wO h0 4 [.ref h1, .ref h2, .ref h3, .ref h4, .ref h5, .ref h6, .ref h7, .ref h8, .ref h9, .ref h10, .ref h11, hv0, hv1, hv2, hv3, .int (nI un2_104)]]) (rest := []) ⟨hx, hb, hml, hown, hg, hl.1⟩ k_X10_182 (s_addDeed l D cy f0 f1 f2 nf2_105 y3 fco2_106 tk2_6 (by omega) (f_111) (by omega)) E0_blind hK hP hD hS hA [5, 6] [0, 1, 2, 3, 4] ⟨rfl, rfl, by decide +kernel, by decide +kernel, by decide +kernel⟩ rfl rfl (fun _ _ _ => trivial) dX10_takeOne_74 rfl rfl (Nat.le_of_ble_eq_true rfl) ⟨Nat.le_of_ble_eq_true rfl, Nat.le_of_ble_eq_true rfl⟩ ⟨Nat.le_of_ble_eq_true rfl, Nat.le_of_ble_eq_true rfl⟩ (fun zu124 H locs hw124 hP9 hD9 hS9 => ?_)
            clear hP hD hS
            obtain ⟨n2_125, fc2_126⟩ := zu124
            refine reW [wO d0 10 [.ref t0, .ref d1, .ref h0, .ref f0, .int (nI ow2_103), .int wt, .int dt, .int vv, .int fq, .int pq], wO t0 9 [.ref t1, .ref t2, .int (nI tn), .int (nI ta2_96), .int (nI ts2_97), .int (nI tk2_98), .long tm2_99, .int tr2_100], wI (cy 0) t1 1600 (fby), (t2, .inl (cy 2, 24, .inr (.inl (fky)))), wO h0 4 [.ref h1, .ref h2, .ref h3, .ref h4, .ref h5, .ref h6, .ref h7, .ref h8, .ref h9, .ref h10, .ref h11, hv0, hv1, hv2, hv3, .int (nI un2_104)], wO f0 3 [.ref f1, .ref f2, .int (nI n2_125), y3], wI (cy 1) f1 280 (fc2_126)] hP9 hD9 hS9 (fun hP hD hS => ?_)
            clear hP9 hD9 hS9
            refine W.widen (k := 0) (n := 0) (Nat.le_of_ble_eq_true rfl) (Nat.le_of_ble_eq_true rfl) ?_
            replace hw124 : (n2_125 ≤ 280) ∧ (cOK fc2_126 n2_125) := hw124
            obtain ⟨f_127, f_128⟩ := hw124
            refine lv_iload_n hx hb dX10_takeOne_77 rfl (lv_at hl 0 rfl) ?_
            exact x_zret hQ hx hb hr hlocks hK hP hD hS rfl dX10_takeOne_78 (ta2_96, ts2_97, tk2_98, tm2_99, tr2_100, fq, pq, ow2_103, un2_104, n2_125, fc2_126, ga2_107) (⟨(show ta2_96 ≤ tn from by omega), (show tk2_98 ≤ 123 from by omega), (show n2_125 ≤ 280 from by omega), f_128, (show ow2_103 ≤ 30 from by omega), (show un2_104 ≤ 60 from by omega), (show ((1 : Int32) = 1 ∧ (okS (knd fby tn) (fin fby tn) 4 7 ga ow un ga2_107 ow2_103 un2_104) ∧ (fq = fq) ∧ (pq = pq) ∧ (tkC fby tn ga2_107 ta2_96 ts2_97 tk2_98 tm2_99 tr2_100) ∧ (ga < ga2_107 ∧ ga2_107 ≤ tn)) ∨ ((1 : Int32) = 0 ∧ (noS (knd fby tn) (fin fby tn) 4 7 ga ow un ga2_107) ∧ (flt fby tn ga2_107 2 fq pq)) from Or.inl ⟨rfl, (one_rel hn16 a_23 hop.1 hop.2 a_115), (rfl), (rfl), (a_118), (⟨by omega, by omega⟩)⟩)⟩) [0, 1, 2, 3, 4, 5, 6] (by decide +kernel) rfl (Nat.le_of_ble_eq_true rfl) (Nat.le_of_ble_eq_true rfl)
          · subst hz_123
            refine lv_istore_n (lv' := [(3, .int 0), (2, .int (nI tk2_6)), (0, .ref d0), (1, .int 7)]) hx hb dX10_takeOne_68 rfl hl (by decide) rfl (fun ls hl => ?_)
            refine lv_aload_n hx hb dX10_takeOne_69 rfl (lv_at hl 2 rfl) ?_
            refine va_get (D := D) (ci := 10) (v := .ref f0) (C := RX10) (T := TX10) (N := 10) hx hb hg i_X10 hown hK hP 0 rfl rfl 3 (by decide) (hg _ m_258) (fun _ h9 => h9) rfl dX10_takeOne_70 ?_
            refine lv_iload_n hx hb dX10_takeOne_73 rfl (lv_at hl 1 rfl) ?_
            refine x_callVv (q := (RX3, TX3, 4)) (ci := 3) (q0 := 0) (wr := [wO d0 10 [.ref t0, .ref d1, .ref h0, .ref f0, .int (nI ow2_103), .int wt, .int dt, .int vv, .int fq2_101, .int pq2_102], wO t0 9 [.ref t1, .ref t2, .int (nI tn), .int (nI ta2_96), .int (nI ts2_97), .int (nI tk2_98), .long tm2_99, .int tr2_100], wI (cy 0) t1 1600 (fby), (t2, .inl (cy 2, 24, .inr (.inl (fky)))), wO h0 4 [.ref h1, .ref h2, .ref h3, .ref h4, .ref h5, .ref h6, .ref h7, .ref h8, .ref h9, .ref h10, .ref h11, hv0, hv1, hv2, hv3, .int (nI un2_104)]]) (rest := []) ⟨hx, hb, hml, hown, hg, hl.1⟩ k_X10_182 (s_addDeed l D cy f0 f1 f2 nf2_105 y3 fco2_106 tk2_6 (by omega) (f_111) (by omega)) E0_blind hK hP hD hS hA [5, 6] [0, 1, 2, 3, 4] ⟨rfl, rfl, by decide +kernel, by decide +kernel, by decide +kernel⟩ rfl rfl (fun _ _ _ => trivial) dX10_takeOne_74 rfl rfl (Nat.le_of_ble_eq_true rfl) ⟨Nat.le_of_ble_eq_true rfl, Nat.le_of_ble_eq_true rfl⟩ ⟨Nat.le_of_ble_eq_true rfl, Nat.le_of_ble_eq_true rfl⟩ (fun zu129 H locs hw129 hP9 hD9 hS9 => ?_)
            clear hP hD hS
            obtain ⟨n2_130, fc2_131⟩ := zu129
            refine reW [wO d0 10 [.ref t0, .ref d1, .ref h0, .ref f0, .int (nI ow2_103), .int wt, .int dt, .int vv, .int fq2_101, .int pq2_102], wO t0 9 [.ref t1, .ref t2, .int (nI tn), .int (nI ta2_96), .int (nI ts2_97), .int (nI tk2_98), .long tm2_99, .int tr2_100], wI (cy 0) t1 1600 (fby), (t2, .inl (cy 2, 24, .inr (.inl (fky)))), wO h0 4 [.ref h1, .ref h2, .ref h3, .ref h4, .ref h5, .ref h6, .ref h7, .ref h8, .ref h9, .ref h10, .ref h11, hv0, hv1, hv2, hv3, .int (nI un2_104)], wO f0 3 [.ref f1, .ref f2, .int (nI n2_130), y3], wI (cy 1) f1 280 (fc2_131)] hP9 hD9 hS9 (fun hP hD hS => ?_)
            clear hP9 hD9 hS9
            refine W.widen (k := 0) (n := 0) (Nat.le_of_ble_eq_true rfl) (Nat.le_of_ble_eq_true rfl) ?_
            replace hw129 : (n2_130 ≤ 280) ∧ (cOK fc2_131 n2_130) := hw129
            obtain ⟨f_132, f_133⟩ := hw129
            refine lv_iload_n hx hb dX10_takeOne_77 rfl (lv_at hl 0 rfl) ?_
            exact x_zret hQ hx hb hr hlocks hK hP hD hS rfl dX10_takeOne_78 (ta2_96, ts2_97, tk2_98, tm2_99, tr2_100, fq2_101, pq2_102, ow2_103, un2_104, n2_130, fc2_131, ga2_107) (⟨(show ta2_96 ≤ tn from by omega), (show tk2_98 ≤ 123 from by omega), (show n2_130 ≤ 280 from by omega), f_133, (show ow2_103 ≤ 30 from by omega), (show un2_104 ≤ 60 from by omega), (show ((0 : Int32) = 1 ∧ (okS (knd fby tn) (fin fby tn) 4 7 ga ow un ga2_107 ow2_103 un2_104) ∧ (fq = fq2_101) ∧ (pq = pq2_102) ∧ (tkC fby tn ga2_107 ta2_96 ts2_97 tk2_98 tm2_99 tr2_100) ∧ (ga < ga2_107 ∧ ga2_107 ≤ tn)) ∨ ((0 : Int32) = 0 ∧ (noS (knd fby tn) (fin fby tn) 4 7 ga ow un ga2_107) ∧ (flt fby tn ga2_107 2 fq2_101 pq2_102)) from Or.inr (⟨rfl, (one_relN hn16 a_23 hop.1 hop.2 a_121), (a_122)⟩))⟩) [0, 1, 2, 3, 4, 5, 6] (by decide +kernel) rfl (Nat.le_of_ble_eq_true rfl) (Nat.le_of_ble_eq_true rfl)
        · have q_84 : ¬ tk2_6 = 62 := q_ne (a := tk2_6) (b := 62) rfl rfl (by omega) (by omega) c_83
          refine lv_iload_n hx hb dX10_takeOne_48 rfl (lv_at hl 0 rfl) ?_
          refine lv_bipush (v := 61) hx hb dX10_takeOne_49 (by decide) ?_
          refine lv_icmp_eq (tgt := 56) hx hb dX10_takeOne_51 (by decide) (fun c_134 => ?_) (fun c_134 => ?_)
          · have q_135 : tk2_6 = 61 := q_eq (a := tk2_6) (b := 61) rfl rfl (by omega) (by omega) c_134
            have hop := sg_4 (show knd fby tn ga2_15 = 60 ∨ knd fby tn ga2_15 = 62 ∨ knd fby tn ga2_15 = 61 from by have h9 := a_26.2.2.1; omega)
            have hgt_136 : ga2_15 < fin fby tn ga2_15 ∧ fin fby tn ga2_15 ≤ tn := ⟨fin_gt (by have h9 := a_26.2.2.1; omega), fin_le (by omega)⟩
            refine lv_aload_n hx hb dX10_takeOne_56 rfl (lv_at hl 1 rfl) ?_
            refine va_get (D := D) (ci := 10) (v := .ref t0) (C := RX10) (T := TX10) (N := 10) hx hb hg i_X10 hown hK hP 0 rfl rfl 0 (by decide) (hg _ m_255) (fun _ h9 => h9) rfl dX10_takeOne_57 ?_
            refine x_callVv (q := (RX9, TX9, 8)) (ci := 9) (q0 := 0) (wr := [wO d0 10 [.ref t0, .ref d1, .ref h0, .ref f0, .int (nI ow2_11), .int wt, .int dt, .int vv, .int fq, .int pq], wO h0 4 [.ref h1, .ref h2, .ref h3, .ref h4, .ref h5, .ref h6, .ref h7, .ref h8, .ref h9, .ref h10, .ref h11, hv0, hv1, hv2, hv3, .int (nI un2_12)], wO f0 3 [.ref f1, .ref f2, .int (nI nf2_13), y3], wI (cy 1) f1 280 (fco2_14)]) (rest := []) ⟨hx, hb, hml, hown, hg, hl.1⟩ k_X10_140 (s_next l D cy adK adV t0 t1 t2 tn ta2_4 ts2_5 tk2_6 tm2_7 tr2_8 fby fky (fin fby tn ga2_15) (by omega) (by omega) (a_26.2.1) (hky)) EV_blind hK hP hD hS hA [1, 2, 3] [0, 4, 5, 6] ⟨rfl, rfl, by decide +kernel, by decide +kernel, by decide +kernel⟩ rfl rfl (fun U hU hW => EV_pass hE hS (va_free hD hS hA [1, 2, 3] rfl) hU hW) dX10_takeOne_60 rfl rfl (Nat.le_of_ble_eq_true rfl) ⟨Nat.le_of_ble_eq_true rfl, Nat.le_of_ble_eq_true rfl⟩ ⟨Nat.le_of_ble_eq_true rfl, Nat.le_of_ble_eq_true rfl⟩ (fun zu137 H locs hw137 hP9 hD9 hS9 => ?_)
            clear hP hD hS
            obtain ⟨ta2_138, ts2_139, tk2_140, tm2_141, tr2_142⟩ := zu137
            refine reW [wO d0 10 [.ref t0, .ref d1, .ref h0, .ref f0, .int (nI ow2_11), .int wt, .int dt, .int vv, .int fq, .int pq], wO h0 4 [.ref h1, .ref h2, .ref h3, .ref h4, .ref h5, .ref h6, .ref h7, .ref h8, .ref h9, .ref h10, .ref h11, hv0, hv1, hv2, hv3, .int (nI un2_12)], wO f0 3 [.ref f1, .ref f2, .int (nI nf2_13), y3], wI (cy 1) f1 280 (fco2_14), wO t0 9 [.ref t1, .ref t2, .int (nI tn), .int (nI ta2_138), .int (nI ts2_139), .int (nI tk2_140), .long tm2_141, .int tr2_142], wI (cy 0) t1 1600 (fby), (t2, .inl (cy 2, 24, .inr (.inl (fky))))] hP9 hD9 hS9 (fun hP hD hS => ?_)
            clear hP9 hD9 hS9
            refine W.widen (k := 0) (n := 0) (Nat.le_of_ble_eq_true rfl) (Nat.le_of_ble_eq_true rfl) ?_
            replace hw137 : (ta2_138 ≤ tn) ∧ (tk2_140 ≤ 123) ∧ (tkC fby tn (fin fby tn ga2_15) ta2_138 ts2_139 tk2_140 tm2_141 tr2_142) := hw137
            obtain ⟨f_143, f_144, f_145⟩ := hw137
            refine lv_aload_n hx hb dX10_takeOne_63 rfl (lv_at hl 1 rfl) ?_
            refine lv_iload_n hx hb dX10_takeOne_64 rfl (lv_at hl 2 rfl) ?_
            refine x_callVi (q := (RX10, TX10, 10)) (ci := 10) (q0 := 0) (wr := []) (rest := []) ⟨hx, hb, hml, hown, hg, hl.1⟩ k_X10_192 (s_takeSum7 l D cy adK adV d0 d1 wt dt vv fq pq t0 t1 t2 tn ta2_138 ts2_139 tk2_140 tm2_141 tr2_142 fby fky h0 h1 h2 h3 h4 h5 h6 h7 h8 h9 h10 h11 hv0 hv1 hv2 hv3 ow2_11 un2_12 f0 f1 f2 nf2_13 y3 fco2_14 (fin fby tn ga2_15) (by omega) (by omega) (by omega) (f_145) (hky) (by omega) (f_19) (by omega) (by omega) (by omega)) EV_blind hK hP hD hS hA [0, 4, 5, 6, 1, 2, 3] [] ⟨rfl, rfl, by decide +kernel, by decide +kernel, by decide +kernel⟩ rfl rfl (fun U hU hW => EV_pass hE hS (va_free hD hS hA [0, 4, 5, 6, 1, 2, 3] rfl) hU hW) dX10_takeOne_65 rfl rfl (Nat.le_of_ble_eq_true rfl) ⟨Nat.le_of_ble_eq_true rfl, Nat.le_of_ble_eq_true rfl⟩ ⟨Nat.le_of_ble_eq_true rfl, Nat.le_of_ble_eq_true rfl⟩ (fun zr146 zu146 H locs hw146 hP9 hD9 hS9 => ?_)
            clear hP hD hS
            obtain ⟨ta2_147, ts2_148, tk2_149, tm2_150, tr2_151, fq2_152, pq2_153, ow2_154, un2_155, nf2_156, fco2_157, ga2_158⟩ := zu146
            refine reW [wO d0 10 [.ref t0, .ref d1, .ref h0, .ref f0, .int (nI ow2_154), .int wt, .int dt, .int vv, .int fq2_152, .int pq2_153], wO t0 9 [.ref t1, .ref t2, .int (nI tn), .int (nI ta2_147), .int (nI ts2_148), .int (nI tk2_149), .long tm2_150, .int tr2_151], wI (cy 0) t1 1600 (fby), (t2, .inl (cy 2, 24, .inr (.inl (fky)))), wO h0 4 [.ref h1, .ref h2, .ref h3, .ref h4, .ref h5, .ref h6, .ref h7, .ref h8, .ref h9, .ref h10, .ref h11, hv0, hv1, hv2, hv3, .int (nI un2_155)], wO f0 3 [.ref f1, .ref f2, .int (nI nf2_156), y3], wI (cy 1) f1 280 (fco2_157)] hP9 hD9 hS9 (fun hP hD hS => ?_)
            clear hP9 hD9 hS9
            refine W.widen (k := 0) (n := 0) (Nat.le_of_ble_eq_true rfl) (Nat.le_of_ble_eq_true rfl) ?_
            replace hw146 : (ta2_147 ≤ tn) ∧ (tk2_149 ≤ 123) ∧ (nf2_156 ≤ 280) ∧ (cOK fco2_157 nf2_156) ∧ (ow2_154 ≤ 30) ∧ (un2_155 ≤ 60) ∧ ((zr146 = 1 ∧ (okS (knd fby tn) (fin fby tn) 5 7 (fin fby tn ga2_15) ow2_11 un2_12 ga2_158 ow2_154 un2_155) ∧ (fq = fq2_152) ∧ (pq = pq2_153) ∧ (tkC fby tn ga2_158 ta2_147 ts2_148 tk2_149 tm2_150 tr2_151) ∧ ((fin fby tn ga2_15) < ga2_158 ∧ ga2_158 ≤ tn)) ∨ (zr146 = 0 ∧ (noS (knd fby tn) (fin fby tn) 5 7 (fin fby tn ga2_15) ow2_11 un2_12 ga2_158) ∧ (flt fby tn ga2_158 2 fq2_152 pq2_153))) := hw146
            obtain ⟨f_159, f_160, f_161, f_162, f_163, f_164, f_165⟩ := hw146
            rcases f_165 with ⟨hz_171, a_166, a_167, a_168, a_169, a_170⟩ | ⟨hz_174, a_172, a_173⟩
            · subst hz_171
              subst a_167
              subst a_168
              have hg_a_170 := a_170
              refine lv_istore_n (lv' := [(3, .int 1), (2, .int (nI tk2_6)), (0, .ref d0), (1, .int 7)]) hx hb dX10_takeOne_68 rfl hl (by decide) rfl (fun ls hl => ?_)
              refine lv_aload_n hx hb dX10_takeOne_69 rfl (lv_at hl 2 rfl) ?_
              refine va_get (D := D) (ci := 10) (v := .ref f0) (C := RX10) (T := TX10) (N := 10) hx hb hg i_X10 hown hK hP 0 rfl rfl 3 (by decide) (hg _ m_258) (fun _ h9 => h9) rfl dX10_takeOne_70 ?_
              refine lv_iload_n hx hb dX10_takeOne_73 rfl (lv_at hl 1 rfl) ?_
              refine x_callVv (q := (RX3, TX3, 4)) (ci := 3) (q0 := 0) (wr := [wO d0 10 [.ref t0, .ref d1, .ref h0, .ref f0, .int (nI ow2_154), .int wt, .int dt, .int vv, .int fq, .int pq], wO t0 9 [.ref t1, .ref t2, .int (nI tn), .int (nI ta2_147), .int (nI ts2_148), .int (nI tk2_149), .long tm2_150, .int tr2_151], wI (cy 0) t1 1600 (fby), (t2, .inl (cy 2, 24, .inr (.inl (fky)))), wO h0 4 [.ref h1, .ref h2, .ref h3, .ref h4, .ref h5, .ref h6, .ref h7, .ref h8, .ref h9, .ref h10, .ref h11, hv0, hv1, hv2, hv3, .int (nI un2_155)]]) (rest := []) ⟨hx, hb, hml, hown, hg, hl.1⟩ k_X10_182 (s_addDeed l D cy f0 f1 f2 nf2_156 y3 fco2_157 tk2_6 (by omega) (f_162) (by omega)) E0_blind hK hP hD hS hA [5, 6] [0, 1, 2, 3, 4] ⟨rfl, rfl, by decide +kernel, by decide +kernel, by decide +kernel⟩ rfl rfl (fun _ _ _ => trivial) dX10_takeOne_74 rfl rfl (Nat.le_of_ble_eq_true rfl) ⟨Nat.le_of_ble_eq_true rfl, Nat.le_of_ble_eq_true rfl⟩ ⟨Nat.le_of_ble_eq_true rfl, Nat.le_of_ble_eq_true rfl⟩ (fun zu175 H locs hw175 hP9 hD9 hS9 => ?_)
              clear hP hD hS
              obtain ⟨n2_176, fc2_177⟩ := zu175
              refine reW [wO d0 10 [.ref t0, .ref d1, .ref h0, .ref f0, .int (nI ow2_154), .int wt, .int dt, .int vv, .int fq, .int pq], wO t0 9 [.ref t1, .ref t2, .int (nI tn), .int (nI ta2_147), .int (nI ts2_148), .int (nI tk2_149), .long tm2_150, .int tr2_151], wI (cy 0) t1 1600 (fby), (t2, .inl (cy 2, 24, .inr (.inl (fky)))), wO h0 4 [.ref h1, .ref h2, .ref h3, .ref h4, .ref h5, .ref h6, .ref h7, .ref h8, .ref h9, .ref h10, .ref h11, hv0, hv1, hv2, hv3, .int (nI un2_155)], wO f0 3 [.ref f1, .ref f2, .int (nI n2_176), y3], wI (cy 1) f1 280 (fc2_177)] hP9 hD9 hS9 (fun hP hD hS => ?_)
              clear hP9 hD9 hS9
              refine W.widen (k := 0) (n := 0) (Nat.le_of_ble_eq_true rfl) (Nat.le_of_ble_eq_true rfl) ?_
              replace hw175 : (n2_176 ≤ 280) ∧ (cOK fc2_177 n2_176) := hw175
              obtain ⟨f_178, f_179⟩ := hw175
              refine lv_iload_n hx hb dX10_takeOne_77 rfl (lv_at hl 0 rfl) ?_
              exact x_zret hQ hx hb hr hlocks hK hP hD hS rfl dX10_takeOne_78 (ta2_147, ts2_148, tk2_149, tm2_150, tr2_151, fq, pq, ow2_154, un2_155, n2_176, fc2_177, ga2_158) (⟨(show ta2_147 ≤ tn from by omega), (show tk2_149 ≤ 123 from by omega), (show n2_176 ≤ 280 from by omega), f_179, (show ow2_154 ≤ 30 from by omega), (show un2_155 ≤ 60 from by omega), (show ((1 : Int32) = 1 ∧ (okS (knd fby tn) (fin fby tn) 4 7 ga ow un ga2_158 ow2_154 un2_155) ∧ (fq = fq) ∧ (pq = pq) ∧ (tkC fby tn ga2_158 ta2_147 ts2_148 tk2_149 tm2_150 tr2_151) ∧ (ga < ga2_158 ∧ ga2_158 ≤ tn)) ∨ ((1 : Int32) = 0 ∧ (noS (knd fby tn) (fin fby tn) 4 7 ga ow un ga2_158) ∧ (flt fby tn ga2_158 2 fq pq)) from Or.inl ⟨rfl, (one_rel hn16 a_23 hop.1 hop.2 a_166), (rfl), (rfl), (a_169), (⟨by omega, by omega⟩)⟩)⟩) [0, 1, 2, 3, 4, 5, 6] (by decide +kernel) rfl (Nat.le_of_ble_eq_true rfl) (Nat.le_of_ble_eq_true rfl)
            · subst hz_174
              refine lv_istore_n (lv' := [(3, .int 0), (2, .int (nI tk2_6)), (0, .ref d0), (1, .int 7)]) hx hb dX10_takeOne_68 rfl hl (by decide) rfl (fun ls hl => ?_)
              refine lv_aload_n hx hb dX10_takeOne_69 rfl (lv_at hl 2 rfl) ?_
              refine va_get (D := D) (ci := 10) (v := .ref f0) (C := RX10) (T := TX10) (N := 10) hx hb hg i_X10 hown hK hP 0 rfl rfl 3 (by decide) (hg _ m_258) (fun _ h9 => h9) rfl dX10_takeOne_70 ?_
              refine lv_iload_n hx hb dX10_takeOne_73 rfl (lv_at hl 1 rfl) ?_
              refine x_callVv (q := (RX3, TX3, 4)) (ci := 3) (q0 := 0) (wr := [wO d0 10 [.ref t0, .ref d1, .ref h0, .ref f0, .int (nI ow2_154), .int wt, .int dt, .int vv, .int fq2_152, .int pq2_153], wO t0 9 [.ref t1, .ref t2, .int (nI tn), .int (nI ta2_147), .int (nI ts2_148), .int (nI tk2_149), .long tm2_150, .int tr2_151], wI (cy 0) t1 1600 (fby), (t2, .inl (cy 2, 24, .inr (.inl (fky)))), wO h0 4 [.ref h1, .ref h2, .ref h3, .ref h4, .ref h5, .ref h6, .ref h7, .ref h8, .ref h9, .ref h10, .ref h11, hv0, hv1, hv2, hv3, .int (nI un2_155)]]) (rest := []) ⟨hx, hb, hml, hown, hg, hl.1⟩ k_X10_182 (s_addDeed l D cy f0 f1 f2 nf2_156 y3 fco2_157 tk2_6 (by omega) (f_162) (by omega)) E0_blind hK hP hD hS hA [5, 6] [0, 1, 2, 3, 4] ⟨rfl, rfl, by decide +kernel, by decide +kernel, by decide +kernel⟩ rfl rfl (fun _ _ _ => trivial) dX10_takeOne_74 rfl rfl (Nat.le_of_ble_eq_true rfl) ⟨Nat.le_of_ble_eq_true rfl, Nat.le_of_ble_eq_true rfl⟩ ⟨Nat.le_of_ble_eq_true rfl, Nat.le_of_ble_eq_true rfl⟩ (fun zu180 H locs hw180 hP9 hD9 hS9 => ?_)
              clear hP hD hS
              obtain ⟨n2_181, fc2_182⟩ := zu180
              refine reW [wO d0 10 [.ref t0, .ref d1, .ref h0, .ref f0, .int (nI ow2_154), .int wt, .int dt, .int vv, .int fq2_152, .int pq2_153], wO t0 9 [.ref t1, .ref t2, .int (nI tn), .int (nI ta2_147), .int (nI ts2_148), .int (nI tk2_149), .long tm2_150, .int tr2_151], wI (cy 0) t1 1600 (fby), (t2, .inl (cy 2, 24, .inr (.inl (fky)))), wO h0 4 [.ref h1, .ref h2, .ref h3, .ref h4, .ref h5, .ref h6, .ref h7, .ref h8, .ref h9, .ref h10, .ref h11, hv0, hv1, hv2, hv3, .int (nI un2_155)], wO f0 3 [.ref f1, .ref f2, .int (nI n2_181), y3], wI (cy 1) f1 280 (fc2_182)] hP9 hD9 hS9 (fun hP hD hS => ?_)
              clear hP9 hD9 hS9
              refine W.widen (k := 0) (n := 0) (Nat.le_of_ble_eq_true rfl) (Nat.le_of_ble_eq_true rfl) ?_
              replace hw180 : (n2_181 ≤ 280) ∧ (cOK fc2_182 n2_181) := hw180
              obtain ⟨f_183, f_184⟩ := hw180
              refine lv_iload_n hx hb dX10_takeOne_77 rfl (lv_at hl 0 rfl) ?_
              exact x_zret hQ hx hb hr hlocks hK hP hD hS rfl dX10_takeOne_78 (ta2_147, ts2_148, tk2_149, tm2_150, tr2_151, fq2_152, pq2_153, ow2_154, un2_155, n2_181, fc2_182, ga2_158) (⟨(show ta2_147 ≤ tn from by omega), (show tk2_149 ≤ 123 from by omega), (show n2_181 ≤ 280 from by omega), f_184, (show ow2_154 ≤ 30 from by omega), (show un2_155 ≤ 60 from by omega), (show ((0 : Int32) = 1 ∧ (okS (knd fby tn) (fin fby tn) 4 7 ga ow un ga2_158 ow2_154 un2_155) ∧ (fq = fq2_152) ∧ (pq = pq2_153) ∧ (tkC fby tn ga2_158 ta2_147 ts2_148 tk2_149 tm2_150 tr2_151) ∧ (ga < ga2_158 ∧ ga2_158 ≤ tn)) ∨ ((0 : Int32) = 0 ∧ (noS (knd fby tn) (fin fby tn) 4 7 ga ow un ga2_158) ∧ (flt fby tn ga2_158 2 fq2_152 pq2_153)) from Or.inr (⟨rfl, (one_relN hn16 a_23 hop.1 hop.2 a_172), (a_173)⟩))⟩) [0, 1, 2, 3, 4, 5, 6] (by decide +kernel) rfl (Nat.le_of_ble_eq_true rfl) (Nat.le_of_ble_eq_true rfl)
          · have q_135 : ¬ tk2_6 = 61 := q_ne (a := tk2_6) (b := 61) rfl rfl (by omega) (by omega) c_134
            refine lv_iconst (v := 1) hx hb dX10_takeOne_54 (by decide) ?_
            exact x_zret hQ hx hb hr hlocks hK hP hD hS rfl dX10_takeOne_55 (ta2_4, ts2_5, tk2_6, tm2_7, tr2_8, fq, pq, ow2_11, un2_12, nf2_13, fco2_14, ga2_15) (⟨(show ta2_4 ≤ tn from by omega), (show tk2_6 ≤ 123 from by omega), (show nf2_13 ≤ 280 from by omega), f_19, (show ow2_11 ≤ 30 from by omega), (show un2_12 ≤ 60 from by omega), (show ((1 : Int32) = 1 ∧ (okS (knd fby tn) (fin fby tn) 4 7 ga ow un ga2_15 ow2_11 un2_12) ∧ (fq = fq) ∧ (pq = pq) ∧ (tkC fby tn ga2_15 ta2_4 ts2_5 tk2_6 tm2_7 tr2_8) ∧ (ga < ga2_15 ∧ ga2_15 ≤ tn)) ∨ ((1 : Int32) = 0 ∧ (noS (knd fby tn) (fin fby tn) 4 7 ga ow un ga2_15) ∧ (flt fby tn ga2_15 2 fq pq)) from Or.inl ⟨rfl, (one_sum hn16 a_23 (sg_ne4 (by have h9 := a_26.2.2.1; omega))), (rfl), (rfl), (a_26), (⟨by omega, by omega⟩)⟩)⟩) [0, 1, 2, 3, 4, 5, 6] (by decide +kernel) rfl (Nat.le_of_ble_eq_true rfl) (Nat.le_of_ble_eq_true rfl)
    · subst hz_31
      refine lv_if_ne (tgt := 28) hx hb dX10_takeOne_23 (by decide) (fun h => absurd (by decide) h) (fun _ => ?_)
      refine lv_iconst (v := 0) hx hb dX10_takeOne_26 (by decide) ?_
      exact x_zret hQ hx hb hr hlocks hK hP hD hS rfl dX10_takeOne_27 (ta2_4, ts2_5, tk2_6, tm2_7, tr2_8, fq2_9, pq2_10, ow2_11, un2_12, nf2_13, fco2_14, ga2_15) (⟨(show ta2_4 ≤ tn from by omega), (show tk2_6 ≤ 123 from by omega), (show nf2_13 ≤ 280 from by omega), f_19, (show ow2_11 ≤ 30 from by omega), (show un2_12 ≤ 60 from by omega), (show ((0 : Int32) = 1 ∧ (okS (knd fby tn) (fin fby tn) 4 7 ga ow un ga2_15 ow2_11 un2_12) ∧ (fq = fq2_9) ∧ (pq = pq2_10) ∧ (tkC fby tn ga2_15 ta2_4 ts2_5 tk2_6 tm2_7 tr2_8) ∧ (ga < ga2_15 ∧ ga2_15 ≤ tn)) ∨ ((0 : Int32) = 0 ∧ (noS (knd fby tn) (fin fby tn) 4 7 ga ow un ga2_15) ∧ (flt fby tn ga2_15 2 fq2_9 pq2_10)) from Or.inr (⟨rfl, (one_sumN hn16 a_29), (a_30)⟩))⟩) [0, 1, 2, 3, 4, 5, 6] (by decide +kernel) rfl (Nat.le_of_ble_eq_true rfl) (Nat.le_of_ble_eq_true rfl)
  · have q_2 : tk = 116 := q_eq (a := tk) (b := 116) rfl rfl (by omega) (by omega) c_1
    refine lv_aload_n hx hb dX10_takeOne_12 rfl (lv_at hl 0 rfl) ?_
    refine lv_iload_n hx hb dX10_takeOne_13 rfl (lv_at hl 1 rfl) ?_
    refine x_callVi (q := (RX10, TX10, 10)) (ci := 10) (q0 := 0) (wr := []) (rest := []) ⟨hx, hb, hml, hown, hg, hl.1⟩ k_X10_189 (s_takeNot7 l D cy adK adV d0 d1 wt dt vv fq pq t0 t1 t2 tn ta ts tk tm tr fby fky h0 h1 h2 h3 h4 h5 h6 h7 h8 h9 h10 h11 hv0 hv1 hv2 hv3 ow un f0 f1 f2 nf y3 fco ga (by omega) (by omega) (by omega) (hti) (hky) (by omega) (hfc) (by omega) (by omega) (by omega) (by omega)) EV_blind hK hP hD hS hA [0, 1, 2, 3, 4, 5, 6] [] ⟨rfl, rfl, by decide +kernel, by decide +kernel, by decide +kernel⟩ rfl rfl (fun U hU hW => EV_pass hE hS (va_free hD hS hA [0, 1, 2, 3, 4, 5, 6] rfl) hU hW) dX10_takeOne_14 rfl rfl (Nat.le_of_ble_eq_true rfl) ⟨Nat.le_of_ble_eq_true rfl, Nat.le_of_ble_eq_true rfl⟩ ⟨Nat.le_of_ble_eq_true rfl, Nat.le_of_ble_eq_true rfl⟩ (fun zr185 zu185 H locs hw185 hP9 hD9 hS9 => ?_)
    clear hP hD hS
    obtain ⟨ta2_186, ts2_187, tk2_188, tm2_189, tr2_190, fq2_191, pq2_192, ow2_193, un2_194, nf2_195, fco2_196, ga2_197⟩ := zu185
    refine reW [wO d0 10 [.ref t0, .ref d1, .ref h0, .ref f0, .int (nI ow2_193), .int wt, .int dt, .int vv, .int fq2_191, .int pq2_192], wO t0 9 [.ref t1, .ref t2, .int (nI tn), .int (nI ta2_186), .int (nI ts2_187), .int (nI tk2_188), .long tm2_189, .int tr2_190], wI (cy 0) t1 1600 (fby), (t2, .inl (cy 2, 24, .inr (.inl (fky)))), wO h0 4 [.ref h1, .ref h2, .ref h3, .ref h4, .ref h5, .ref h6, .ref h7, .ref h8, .ref h9, .ref h10, .ref h11, hv0, hv1, hv2, hv3, .int (nI un2_194)], wO f0 3 [.ref f1, .ref f2, .int (nI nf2_195), y3], wI (cy 1) f1 280 (fco2_196)] hP9 hD9 hS9 (fun hP hD hS => ?_)
    clear hP9 hD9 hS9
    refine W.widen (k := 0) (n := 0) (Nat.le_of_ble_eq_true rfl) (Nat.le_of_ble_eq_true rfl) ?_
    replace hw185 : (ta2_186 ≤ tn) ∧ (tk2_188 ≤ 123) ∧ (nf2_195 ≤ 280) ∧ (cOK fco2_196 nf2_195) ∧ (ow2_193 ≤ 30) ∧ (un2_194 ≤ 60) ∧ ((zr185 = 1 ∧ (okS (knd fby tn) (fin fby tn) 4 7 ga ow un ga2_197 ow2_193 un2_194) ∧ (fq = fq2_191) ∧ (pq = pq2_192) ∧ (tkC fby tn ga2_197 ta2_186 ts2_187 tk2_188 tm2_189 tr2_190) ∧ (ga < ga2_197 ∧ ga2_197 ≤ tn)) ∨ (zr185 = 0 ∧ (noS (knd fby tn) (fin fby tn) 4 7 ga ow un ga2_197) ∧ (flt fby tn ga2_197 2 fq2_191 pq2_192))) := hw185
    obtain ⟨f_198, f_199, f_200, f_201, f_202, f_203, f_204⟩ := hw185
    rcases f_204 with ⟨hz_210, a_205, a_206, a_207, a_208, a_209⟩ | ⟨hz_213, a_211, a_212⟩
    · subst hz_210
      subst a_206
      subst a_207
      have hg_a_209 := a_209
      exact x_zret hQ hx hb hr hlocks hK hP hD hS rfl dX10_takeOne_17 (ta2_186, ts2_187, tk2_188, tm2_189, tr2_190, fq, pq, ow2_193, un2_194, nf2_195, fco2_196, ga2_197) (⟨(show ta2_186 ≤ tn from by omega), (show tk2_188 ≤ 123 from by omega), (show nf2_195 ≤ 280 from by omega), f_201, (show ow2_193 ≤ 30 from by omega), (show un2_194 ≤ 60 from by omega), (show ((1 : Int32) = 1 ∧ (okS (knd fby tn) (fin fby tn) 4 7 ga ow un ga2_197 ow2_193 un2_194) ∧ (fq = fq) ∧ (pq = pq) ∧ (tkC fby tn ga2_197 ta2_186 ts2_187 tk2_188 tm2_189 tr2_190) ∧ (ga < ga2_197 ∧ ga2_197 ≤ tn)) ∨ ((1 : Int32) = 0 ∧ (noS (knd fby tn) (fin fby tn) 4 7 ga ow un ga2_197) ∧ (flt fby tn ga2_197 2 fq pq)) from Or.inl ⟨rfl, (a_205), (rfl), (rfl), (a_208), (⟨by omega, by omega⟩)⟩)⟩) [0, 1, 2, 3, 4, 5, 6] (by decide +kernel) rfl (Nat.le_of_ble_eq_true rfl) (Nat.le_of_ble_eq_true rfl)
    · subst hz_213
      exact x_zret hQ hx hb hr hlocks hK hP hD hS rfl dX10_takeOne_17 (ta2_186, ts2_187, tk2_188, tm2_189, tr2_190, fq2_191, pq2_192, ow2_193, un2_194, nf2_195, fco2_196, ga2_197) (⟨(show ta2_186 ≤ tn from by omega), (show tk2_188 ≤ 123 from by omega), (show nf2_195 ≤ 280 from by omega), f_201, (show ow2_193 ≤ 30 from by omega), (show un2_194 ≤ 60 from by omega), (show ((0 : Int32) = 1 ∧ (okS (knd fby tn) (fin fby tn) 4 7 ga ow un ga2_197 ow2_193 un2_194) ∧ (fq = fq2_191) ∧ (pq = pq2_192) ∧ (tkC fby tn ga2_197 ta2_186 ts2_187 tk2_188 tm2_189 tr2_190) ∧ (ga < ga2_197 ∧ ga2_197 ≤ tn)) ∨ ((0 : Int32) = 0 ∧ (noS (knd fby tn) (fin fby tn) 4 7 ga ow un ga2_197) ∧ (flt fby tn ga2_197 2 fq2_191 pq2_192)) from Or.inr (⟨rfl, (a_211), (a_212)⟩))⟩) [0, 1, 2, 3, 4, 5, 6] (by decide +kernel) rfl (Nat.le_of_ble_eq_true rfl) (Nat.le_of_ble_eq_true rfl)
theorem gdX10_takeBoth_0 : decode cX10_takeBoth 0 = .ok (.aload_n 0, 1) ∧ decode cX10_takeBoth 1 = .ok (.iload_n 1, 1) ∧ decode cX10_takeBoth 2 = .ok (.invokevirtual 186, 3) := by decide +kernel
theorem dX10_takeBoth_0 : decode cX10_takeBoth 0 = .ok (.aload_n 0, 1) := gdX10_takeBoth_0.1
theorem dX10_takeBoth_1 : decode cX10_takeBoth 1 = .ok (.iload_n 1, 1) := gdX10_takeBoth_0.2.1
theorem dX10_takeBoth_2 : decode cX10_takeBoth 2 = .ok (.invokevirtual 186, 3) := gdX10_takeBoth_0.2.2
theorem k_X10_186 : xV RX10 RX10 186 yX10_takeOne cX10_takeOne 4 (some .boolean) 1 := ⟨⟨m_871, m_873, m_20, m_136, m_874⟩, rfl, by decide, by decide, by decide +kernel⟩
theorem gdX10_takeBoth_5 : decode cX10_takeBoth 5 = .ok (.istore_n 2, 1) ∧ decode cX10_takeBoth 6 = .ok (.iconst 0, 1) ∧ decode cX10_takeBoth 7 = .ok (.istore_n 3, 1) ∧ decode cX10_takeBoth 8 = .ok (.iload_n 3, 1) ∧ decode cX10_takeBoth 9 = .ok (.sipush 1600, 3) ∧ decode cX10_takeBoth 12 = .ok (.if_icmp .ge 47, 3) ∧ decode cX10_takeBoth 15 = .ok (.iload_n 2, 1) ∧ decode cX10_takeBoth 16 = .ok (.ifCond .eq 43, 3) ∧ decode cX10_takeBoth 19 = .ok (.aload_n 0, 1) ∧ decode cX10_takeBoth 20 = .ok (.getfield 16, 3) ∧ decode cX10_takeBoth 23 = .ok (.getfield 55, 3) ∧ decode cX10_takeBoth 26 = .ok (.bipush 115, 2) := by decide +kernel
theorem dX10_takeBoth_5 : decode cX10_takeBoth 5 = .ok (.istore_n 2, 1) := gdX10_takeBoth_5.1
theorem dX10_takeBoth_6 : decode cX10_takeBoth 6 = .ok (.iconst 0, 1) := gdX10_takeBoth_5.2.1
theorem dX10_takeBoth_7 : decode cX10_takeBoth 7 = .ok (.istore_n 3, 1) := gdX10_takeBoth_5.2.2.1
theorem dX10_takeBoth_8 : decode cX10_takeBoth 8 = .ok (.iload_n 3, 1) := gdX10_takeBoth_5.2.2.2.1
theorem dX10_takeBoth_9 : decode cX10_takeBoth 9 = .ok (.sipush 1600, 3) := gdX10_takeBoth_5.2.2.2.2.1
theorem dX10_takeBoth_12 : decode cX10_takeBoth 12 = .ok (.if_icmp .ge 47, 3) := gdX10_takeBoth_5.2.2.2.2.2.1
theorem dX10_takeBoth_15 : decode cX10_takeBoth 15 = .ok (.iload_n 2, 1) := gdX10_takeBoth_5.2.2.2.2.2.2.1
theorem dX10_takeBoth_16 : decode cX10_takeBoth 16 = .ok (.ifCond .eq 43, 3) := gdX10_takeBoth_5.2.2.2.2.2.2.2.1
theorem dX10_takeBoth_19 : decode cX10_takeBoth 19 = .ok (.aload_n 0, 1) := gdX10_takeBoth_5.2.2.2.2.2.2.2.2.1
theorem dX10_takeBoth_20 : decode cX10_takeBoth 20 = .ok (.getfield 16, 3) := gdX10_takeBoth_5.2.2.2.2.2.2.2.2.2.1
theorem dX10_takeBoth_23 : decode cX10_takeBoth 23 = .ok (.getfield 55, 3) := gdX10_takeBoth_5.2.2.2.2.2.2.2.2.2.2.1
theorem dX10_takeBoth_26 : decode cX10_takeBoth 26 = .ok (.bipush 115, 2) := gdX10_takeBoth_5.2.2.2.2.2.2.2.2.2.2.2
theorem gdX10_takeBoth_28 : decode cX10_takeBoth 28 = .ok (.if_icmp .ne 31, 3) ∧ decode cX10_takeBoth 59 = .ok (.iload_n 2, 1) ∧ decode cX10_takeBoth 60 = .ok (.ireturn, 1) ∧ decode cX10_takeBoth 31 = .ok (.aload_n 0, 1) ∧ decode cX10_takeBoth 32 = .ok (.getfield 16, 3) ∧ decode cX10_takeBoth 35 = .ok (.invokevirtual 140, 3) ∧ decode cX10_takeBoth 38 = .ok (.aload_n 0, 1) ∧ decode cX10_takeBoth 39 = .ok (.iload_n 1, 1) ∧ decode cX10_takeBoth 40 = .ok (.invokevirtual 186, 3) ∧ decode cX10_takeBoth 43 = .ok (.istore_n 2, 1) ∧ decode cX10_takeBoth 44 = .ok (.aload_n 0, 1) ∧ decode cX10_takeBoth 45 = .ok (.getfield 34, 3) := by decide +kernel
theorem dX10_takeBoth_28 : decode cX10_takeBoth 28 = .ok (.if_icmp .ne 31, 3) := gdX10_takeBoth_28.1
theorem dX10_takeBoth_59 : decode cX10_takeBoth 59 = .ok (.iload_n 2, 1) := gdX10_takeBoth_28.2.1
theorem dX10_takeBoth_60 : decode cX10_takeBoth 60 = .ok (.ireturn, 1) := gdX10_takeBoth_28.2.2.1
theorem dX10_takeBoth_31 : decode cX10_takeBoth 31 = .ok (.aload_n 0, 1) := gdX10_takeBoth_28.2.2.2.1
theorem dX10_takeBoth_32 : decode cX10_takeBoth 32 = .ok (.getfield 16, 3) := gdX10_takeBoth_28.2.2.2.2.1
theorem dX10_takeBoth_35 : decode cX10_takeBoth 35 = .ok (.invokevirtual 140, 3) := gdX10_takeBoth_28.2.2.2.2.2.1
theorem dX10_takeBoth_38 : decode cX10_takeBoth 38 = .ok (.aload_n 0, 1) := gdX10_takeBoth_28.2.2.2.2.2.2.1
theorem dX10_takeBoth_39 : decode cX10_takeBoth 39 = .ok (.iload_n 1, 1) := gdX10_takeBoth_28.2.2.2.2.2.2.2.1
theorem dX10_takeBoth_40 : decode cX10_takeBoth 40 = .ok (.invokevirtual 186, 3) := gdX10_takeBoth_28.2.2.2.2.2.2.2.2.1
theorem dX10_takeBoth_43 : decode cX10_takeBoth 43 = .ok (.istore_n 2, 1) := gdX10_takeBoth_28.2.2.2.2.2.2.2.2.2.1
theorem dX10_takeBoth_44 : decode cX10_takeBoth 44 = .ok (.aload_n 0, 1) := gdX10_takeBoth_28.2.2.2.2.2.2.2.2.2.2.1
theorem dX10_takeBoth_45 : decode cX10_takeBoth 45 = .ok (.getfield 34, 3) := gdX10_takeBoth_28.2.2.2.2.2.2.2.2.2.2.2
theorem gdX10_takeBoth_48 : decode cX10_takeBoth 48 = .ok (.bipush 115, 2) ∧ decode cX10_takeBoth 50 = .ok (.invokevirtual 182, 3) ∧ decode cX10_takeBoth 53 = .ok (.iinc 3 1, 3) ∧ decode cX10_takeBoth 56 = .ok (.goto (-48), 3) := by decide +kernel
theorem dX10_takeBoth_48 : decode cX10_takeBoth 48 = .ok (.bipush 115, 2) := gdX10_takeBoth_48.1
theorem dX10_takeBoth_50 : decode cX10_takeBoth 50 = .ok (.invokevirtual 182, 3) := gdX10_takeBoth_48.2.1
theorem dX10_takeBoth_53 : decode cX10_takeBoth 53 = .ok (.iinc 3 1, 3) := gdX10_takeBoth_48.2.2.1
theorem dX10_takeBoth_56 : decode cX10_takeBoth 56 = .ok (.goto (-48), 3) := gdX10_takeBoth_48.2.2.2
set_option maxHeartbeats 1000000 in
set_option maxRecDepth 100000 in
theorem s_takeBoth7 (l : Launch) (D : va_G) (cy : Nat → ClassId) (adK : Nat → Nat) (adV : Nat → Nat) (d0 : Nat) (d1 : Nat) (wt : Int32) (dt : Int32) (vv : Int32) (fq : Int32) (pq : Int32) (t0 : Nat) (t1 : Nat) (t2 : Nat) (tn : Nat) (ta : Nat) (ts : Nat) (tk : Nat) (tm : Int64) (tr : Int32) (fby : Nat → Int32) (fky : Nat → Int64) (h0 : Nat) (h1 : Nat) (h2 : Nat) (h3 : Nat) (h4 : Nat) (h5 : Nat) (h6 : Nat) (h7 : Nat) (h8 : Nat) (h9 : Nat) (h10 : Nat) (h11 : Nat) (hv0 : Value) (hv1 : Value) (hv2 : Value) (hv3 : Value) (ow : Nat) (un : Nat) (f0 : Nat) (f1 : Nat) (f2 : Nat) (nf : Nat) (y3 : Value) (fco : Nat → Int32) (ga : Nat) (htn : tn ≤ 1600) (hta : ta ≤ tn) (htk : tk ≤ 123) (hti : tkC fby tn ga ta ts tk tm tr) (hky : kyOK fky) (hnf : nf ≤ 280) (hfc : cOK fco nf) (how : ow ≤ 30) (hun : un ≤ 60) (hga : ga ≤ tn) : XMi l D (tyL cy) (EV adK adV) yX10_takeBoth cX10_takeBoth 4 (some .boolean) (rmk 11 0 0) [.ref d0, .int 7] [wO d0 10 [.ref t0, .ref d1, .ref h0, .ref f0, .int (nI ow), .int wt, .int dt, .int vv, .int fq, .int pq], wO t0 9 [.ref t1, .ref t2, .int (nI tn), .int (nI ta), .int (nI ts), .int (nI tk), .long tm, .int tr], wI (cy 0) t1 1600 (fby), (t2, .inl (cy 2, 24, .inr (.inl (fky)))), wO h0 4 [.ref h1, .ref h2, .ref h3, .ref h4, .ref h5, .ref h6, .ref h7, .ref h8, .ref h9, .ref h10, .ref h11, hv0, hv1, hv2, hv3, .int (nI un)], wO f0 3 [.ref f1, .ref f2, .int (nI nf), y3], wI (cy 1) f1 280 (fco)] (fun (r : Int32) (u : Nat × Nat × Nat × Int64 × Int32 × Int32 × Int32 × Nat × Nat × Nat × (Nat → Int32) × Nat) => (u.1 ≤ tn) ∧ (u.2.2.1 ≤ 123) ∧ (u.2.2.2.2.2.2.2.2.2.1 ≤ 280) ∧ (cOK u.2.2.2.2.2.2.2.2.2.2.1 u.2.2.2.2.2.2.2.2.2.1) ∧ (u.2.2.2.2.2.2.2.1 ≤ 30) ∧ (u.2.2.2.2.2.2.2.2.1 ≤ 60) ∧ ((r = 1 ∧ (okS (knd fby tn) (fin fby tn) 2 7 ga ow un u.2.2.2.2.2.2.2.2.2.2.2 u.2.2.2.2.2.2.2.1 u.2.2.2.2.2.2.2.2.1) ∧ (fq = u.2.2.2.2.2.1) ∧ (pq = u.2.2.2.2.2.2.1) ∧ (tkC fby tn u.2.2.2.2.2.2.2.2.2.2.2 u.1 u.2.1 u.2.2.1 u.2.2.2.1 u.2.2.2.2.1) ∧ (ga < u.2.2.2.2.2.2.2.2.2.2.2 ∧ u.2.2.2.2.2.2.2.2.2.2.2 ≤ tn)) ∨ (r = 0 ∧ (noS (knd fby tn) (fin fby tn) 2 7 ga ow un u.2.2.2.2.2.2.2.2.2.2.2) ∧ (flt fby tn u.2.2.2.2.2.2.2.2.2.2.2 2 u.2.2.2.2.2.1 u.2.2.2.2.2.2.1)))) (fun (u : Nat × Nat × Nat × Int64 × Int32 × Int32 × Int32 × Nat × Nat × Nat × (Nat → Int32) × Nat) => [wO d0 10 [.ref t0, .ref d1, .ref h0, .ref f0, .int (nI u.2.2.2.2.2.2.2.1), .int wt, .int dt, .int vv, .int u.2.2.2.2.2.1, .int u.2.2.2.2.2.2.1], wO t0 9 [.ref t1, .ref t2, .int (nI tn), .int (nI u.1), .int (nI u.2.1), .int (nI u.2.2.1), .long u.2.2.2.1, .int u.2.2.2.2.1], wI (cy 0) t1 1600 (fby), (t2, .inl (cy 2, 24, .inr (.inl (fky)))), wO h0 4 [.ref h1, .ref h2, .ref h3, .ref h4, .ref h5, .ref h6, .ref h7, .ref h8, .ref h9, .ref h10, .ref h11, hv0, hv1, hv2, hv3, .int (nI u.2.2.2.2.2.2.2.2.1)], wO f0 3 [.ref f1, .ref f2, .int (nI u.2.2.2.2.2.2.2.2.2.1), y3], wI (cy 1) f1 280 (u.2.2.2.2.2.2.2.2.2.2.1)]) := by
  refine XMi.start (by decide) (Nat.le_of_ble_eq_true rfl) ?_
  intro p e s m below meth c args A ls Q hat hQ
  obtain ⟨hx, hb, hr, hml, hown, hg, hlocks, hin, hK, hA, hP, hD, hS, hE, hl⟩ := hat
  have hown : s.vm.findClass RX10 = some m.cls := hown
  have hl : lv_has ls 4 [(0, .ref d0), (1, .int 7)] := hl
  refine lv_aload_n hx hb dX10_takeBoth_0 rfl (lv_at hl 0 rfl) ?_
  refine lv_iload_n hx hb dX10_takeBoth_1 rfl (lv_at hl 1 rfl) ?_
  refine x_callVi (q := (RX10, TX10, 10)) (ci := 10) (q0 := 0) (wr := []) (rest := []) ⟨hx, hb, hml, hown, hg, hl.1⟩ k_X10_186 (s_takeOne7 l D cy adK adV d0 d1 wt dt vv fq pq t0 t1 t2 tn ta ts tk tm tr fby fky h0 h1 h2 h3 h4 h5 h6 h7 h8 h9 h10 h11 hv0 hv1 hv2 hv3 ow un f0 f1 f2 nf y3 fco ga (by omega) (by omega) (by omega) (hti) (hky) (by omega) (hfc) (by omega) (by omega) (by omega)) EV_blind hK hP hD hS hA [0, 1, 2, 3, 4, 5, 6] [] ⟨rfl, rfl, by decide +kernel, by decide +kernel, by decide +kernel⟩ rfl rfl (fun U hU hW => EV_pass hE hS (va_free hD hS hA [0, 1, 2, 3, 4, 5, 6] rfl) hU hW) dX10_takeBoth_2 rfl rfl (Nat.le_of_ble_eq_true rfl) ⟨Nat.le_of_ble_eq_true rfl, Nat.le_of_ble_eq_true rfl⟩ ⟨Nat.le_of_ble_eq_true rfl, Nat.le_of_ble_eq_true rfl⟩ (fun zr1 zu1 H locs hw1 hP9 hD9 hS9 => ?_)
  clear hP hD hS
  obtain ⟨ta2_2, ts2_3, tk2_4, tm2_5, tr2_6, fq2_7, pq2_8, ow2_9, un2_10, nf2_11, fco2_12, ga2_13⟩ := zu1
  refine reW [wO d0 10 [.ref t0, .ref d1, .ref h0, .ref f0, .int (nI ow2_9), .int wt, .int dt, .int vv, .int fq2_7, .int pq2_8], wO t0 9 [.ref t1, .ref t2, .int (nI tn), .int (nI ta2_2), .int (nI ts2_3), .int (nI tk2_4), .long tm2_5, .int tr2_6], wI (cy 0) t1 1600 (fby), (t2, .inl (cy 2, 24, .inr (.inl (fky)))), wO h0 4 [.ref h1, .ref h2, .ref h3, .ref h4, .ref h5, .ref h6, .ref h7, .ref h8, .ref h9, .ref h10, .ref h11, hv0, hv1, hv2, hv3, .int (nI un2_10)], wO f0 3 [.ref f1, .ref f2, .int (nI nf2_11), y3], wI (cy 1) f1 280 (fco2_12)] hP9 hD9 hS9 (fun hP hD hS => ?_)
  clear hP9 hD9 hS9
  refine W.widen (k := 0) (n := 0) (Nat.le_of_ble_eq_true rfl) (Nat.le_of_ble_eq_true rfl) ?_
  replace hw1 : (ta2_2 ≤ tn) ∧ (tk2_4 ≤ 123) ∧ (nf2_11 ≤ 280) ∧ (cOK fco2_12 nf2_11) ∧ (ow2_9 ≤ 30) ∧ (un2_10 ≤ 60) ∧ ((zr1 = 1 ∧ (okS (knd fby tn) (fin fby tn) 4 7 ga ow un ga2_13 ow2_9 un2_10) ∧ (fq = fq2_7) ∧ (pq = pq2_8) ∧ (tkC fby tn ga2_13 ta2_2 ts2_3 tk2_4 tm2_5 tr2_6) ∧ (ga < ga2_13 ∧ ga2_13 ≤ tn)) ∨ (zr1 = 0 ∧ (noS (knd fby tn) (fin fby tn) 4 7 ga ow un ga2_13) ∧ (flt fby tn ga2_13 2 fq2_7 pq2_8))) := hw1
  obtain ⟨f_14, f_15, f_16, f_17, f_18, f_19, f_20⟩ := hw1
  refine lv_istore_n (lv' := [(2, .int zr1), (0, .ref d0), (1, .int 7)]) hx hb dX10_takeBoth_5 rfl hl (by decide) rfl (fun ls hl => ?_)
  refine lv_iconst (v := 0) hx hb dX10_takeBoth_6 (by decide) ?_
  refine lv_istore_n (lv' := [(3, .int 0), (2, .int zr1), (0, .ref d0), (1, .int 7)]) hx hb dX10_takeBoth_7 rfl hl (by decide) rfl (fun ls hl => ?_)
  have loop21 : ∀ (zn : Nat) (lb2_21 : Int32) (i21 : Nat) (aq21 : Nat) (sq21 : Nat) (kq21 : Nat) (fl5_21 : Int64) (rq21 : Int32) (oq21 : Nat) (fz21 : Int32) (pz21 : Int32) (uq21 : Nat) (nq21 : Nat) (gq21 : Nat) (fa13_21 : Nat → Int32), (cOK fa13_21 nq21) → (i21 ≤ 1600) → (aq21 ≤ tn) → (kq21 ≤ 123) → (nq21 ≤ 280) → (oq21 ≤ 30) → (uq21 ≤ 60) → ((lb2_21 = 1 ∧ inS (knd fby tn) (fin fby tn) 2 4 7 ga ow un gq21 oq21 uq21 ∧ tkC fby tn gq21 aq21 sq21 kq21 fl5_21 rq21 ∧ ga < gq21 ∧ gq21 ≤ tn ∧ i21 < gq21 ∧ fq = fz21 ∧ pq = pz21) ∨ (lb2_21 = 0 ∧ noS (knd fby tn) (fin fby tn) 2 7 ga ow un gq21 ∧ flt fby tn gq21 2 fz21 pz21)) → 1600 - i21 + 1 ≤ zn → ∀ (H : Heap) (locs : List Loc), va_P D vwCl [wO d0 10 [.ref t0, .ref d1, .ref h0, .ref f0, .int (nI oq21), .int wt, .int dt, .int vv, .int fz21, .int pz21], wO t0 9 [.ref t1, .ref t2, .int (nI tn), .int (nI aq21), .int (nI sq21), .int (nI kq21), .long fl5_21, .int rq21], wI (cy 0) t1 1600 (fby), (t2, .inl (cy 2, 24, .inr (.inl (fky)))), wO h0 4 [.ref h1, .ref h2, .ref h3, .ref h4, .ref h5, .ref h6, .ref h7, .ref h8, .ref h9, .ref h10, .ref h11, hv0, hv1, hv2, hv3, .int (nI uq21)], wO f0 3 [.ref f1, .ref f2, .int (nI nq21), y3], wI (cy 1) f1 280 (fa13_21)] H → va_D A [wO d0 10 [.ref t0, .ref d1, .ref h0, .ref f0, .int (nI oq21), .int wt, .int dt, .int vv, .int fz21, .int pz21], wO t0 9 [.ref t1, .ref t2, .int (nI tn), .int (nI aq21), .int (nI sq21), .int (nI kq21), .long fl5_21, .int rq21], wI (cy 0) t1 1600 (fby), (t2, .inl (cy 2, 24, .inr (.inl (fky)))), wO h0 4 [.ref h1, .ref h2, .ref h3, .ref h4, .ref h5, .ref h6, .ref h7, .ref h8, .ref h9, .ref h10, .ref h11, hv0, hv1, hv2, hv3, .int (nI uq21)], wO f0 3 [.ref f1, .ref f2, .int (nI nq21), y3], wI (cy 1) f1 280 (fa13_21)] → va_S A s.heap H locs → ∀ ls : Array Slot, lv_has ls 4 [(3, .int (nI i21)), (2, .int lb2_21), (0, .ref d0), (1, .int 7)] → W p l e (rmk 11 0 0) s m args below meth c H locs 0 0 Q (F0 m 8 ls []) := by
    try clear hP hD hS
    intro zn
    induction zn with
    | zero => intro lb2_21 i21 aq21 sq21 kq21 fl5_21 rq21 oq21 fz21 pz21 uq21 nq21 gq21 fa13_21 _ _ _ _ _ _ _ _ hz; exact absurd hz (by omega)
    | succ zn ih21 =>
      intro lb2_21 i21 aq21 sq21 kq21 fl5_21 rq21 oq21 fz21 pz21 uq21 nq21 gq21 fa13_21 ha14_21 hf0_21 hf1_21 hf2_21 hf3_21 hf4_21 hf5_21 hf6_21 hmu21 H locs hP hD hS ls hl
      rcases hf6_21 with ⟨hlb, hin9, htk9, hg1, hg2, hg3, hfz, hpz⟩ | ⟨hlb, hno9, hfl9⟩
      · subst hlb hfz hpz
        refine lv_iload_n hx hb dX10_takeBoth_8 rfl (lv_at hl 0 rfl) ?_
        refine lv_sipush (v := 1600) hx hb dX10_takeBoth_9 (by decide) ?_
        refine lv_icmp_ge (tgt := 59) hx hb dX10_takeBoth_12 (by decide) (fun c_22 => ?_) (fun c_22 => ?_)
        · have q_23 : 1600 ≤ i21 := q_le (a := 1600) (b := i21) rfl rfl (by omega) (by omega) c_22
          exact absurd q_23 (by omega)
        · have q_23 : i21 < 1600 := q_nle (a := 1600) (b := i21) rfl rfl (by omega) (by omega) c_22
          refine lv_iload_n hx hb dX10_takeBoth_15 rfl (lv_at hl 1 rfl) ?_
          refine lv_if_eq (tgt := 59) hx hb dX10_takeBoth_16 (by decide) (fun h => absurd h (by decide)) (fun _ => ?_)
          refine lv_aload_n hx hb dX10_takeBoth_19 rfl (lv_at hl 2 rfl) ?_
          refine va_get (D := D) (ci := 10) (v := .ref t0) (C := RX10) (T := TX10) (N := 10) hx hb hg i_X10 hown hK hP 0 rfl rfl 0 (by decide) (hg _ m_255) (fun _ h9 => h9) rfl dX10_takeBoth_20 ?_
          refine va_get (D := D) (ci := 9) (v := .int (nI kq21)) (C := RX9) (T := TX9) (N := 8) hx hb hg i_X9 hown hK hP 1 rfl rfl 5 (by decide) (hg _ m_222) (fun _ h9 => h9) rfl dX10_takeBoth_23 ?_
          refine lv_bipush (v := 115) hx hb dX10_takeBoth_26 (by decide) ?_
          refine lv_icmp_ne (tgt := 59) hx hb dX10_takeBoth_28 (by decide) (fun c_24 => ?_) (fun c_24 => ?_)
          · have q_25 : ¬ kq21 = 115 := q_ne (a := kq21) (b := 115) rfl rfl (by omega) (by omega) c_24
            refine lv_iload_n hx hb dX10_takeBoth_59 rfl (lv_at hl 1 rfl) ?_
            exact x_zret hQ hx hb hr hlocks hK hP hD hS rfl dX10_takeBoth_60 (aq21, sq21, kq21, fl5_21, rq21, fq, pq, oq21, uq21, nq21, fa13_21, gq21) (⟨(show aq21 ≤ tn from by omega), (show kq21 ≤ 123 from by omega), (show nq21 ≤ 280 from by omega), ha14_21, (show oq21 ≤ 30 from by omega), (show uq21 ≤ 60 from by omega), (show ((1 : Int32) = 1 ∧ (okS (knd fby tn) (fin fby tn) 2 7 ga ow un gq21 oq21 uq21) ∧ (fq = fq) ∧ (pq = pq) ∧ (tkC fby tn gq21 aq21 sq21 kq21 fl5_21 rq21) ∧ (ga < gq21 ∧ gq21 ≤ tn)) ∨ ((1 : Int32) = 0 ∧ (noS (knd fby tn) (fin fby tn) 2 7 ga ow un gq21) ∧ (flt fby tn gq21 2 fq pq)) from Or.inl ⟨rfl, (inS_end lvP24 hin9 (sg_ne2 (by have h9 := htk9.2.2.1; omega))), (rfl), (rfl), (htk9), (⟨by omega, by omega⟩)⟩)⟩) [0, 1, 2, 3, 4, 5, 6] (by decide +kernel) rfl (Nat.le_of_ble_eq_true rfl) (Nat.le_of_ble_eq_true rfl)
          · have q_25 : kq21 = 115 := q_eq (a := kq21) (b := 115) rfl rfl (by omega) (by omega) c_24
            have hop := sg_2 (show knd fby tn gq21 = 115 from by have h9 := htk9.2.2.1; omega)
            have hgt_26 : gq21 < fin fby tn gq21 ∧ fin fby tn gq21 ≤ tn := ⟨fin_gt (by have h9 := htk9.2.2.1; omega), fin_le (by omega)⟩
            refine lv_aload_n hx hb dX10_takeBoth_31 rfl (lv_at hl 2 rfl) ?_
            refine va_get (D := D) (ci := 10) (v := .ref t0) (C := RX10) (T := TX10) (N := 10) hx hb hg i_X10 hown hK hP 0 rfl rfl 0 (by decide) (hg _ m_255) (fun _ h9 => h9) rfl dX10_takeBoth_32 ?_
            refine x_callVv (q := (RX9, TX9, 8)) (ci := 9) (q0 := 0) (wr := [wO d0 10 [.ref t0, .ref d1, .ref h0, .ref f0, .int (nI oq21), .int wt, .int dt, .int vv, .int fq, .int pq], wO h0 4 [.ref h1, .ref h2, .ref h3, .ref h4, .ref h5, .ref h6, .ref h7, .ref h8, .ref h9, .ref h10, .ref h11, hv0, hv1, hv2, hv3, .int (nI uq21)], wO f0 3 [.ref f1, .ref f2, .int (nI nq21), y3], wI (cy 1) f1 280 (fa13_21)]) (rest := []) ⟨hx, hb, hml, hown, hg, hl.1⟩ k_X10_140 (s_next l D cy adK adV t0 t1 t2 tn aq21 sq21 kq21 fl5_21 rq21 fby fky (fin fby tn gq21) (by omega) (by omega) (htk9.2.1) (hky)) EV_blind hK hP hD hS hA [1, 2, 3] [0, 4, 5, 6] ⟨rfl, rfl, by decide +kernel, by decide +kernel, by decide +kernel⟩ rfl rfl (fun U hU hW => EV_pass hE hS (va_free hD hS hA [1, 2, 3] rfl) hU hW) dX10_takeBoth_35 rfl rfl (Nat.le_of_ble_eq_true rfl) ⟨Nat.le_of_ble_eq_true rfl, Nat.le_of_ble_eq_true rfl⟩ ⟨Nat.le_of_ble_eq_true rfl, Nat.le_of_ble_eq_true rfl⟩ (fun zu27 H locs hw27 hP9 hD9 hS9 => ?_)
            clear hP hD hS
            obtain ⟨ta2_28, ts2_29, tk2_30, tm2_31, tr2_32⟩ := zu27
            refine reW [wO d0 10 [.ref t0, .ref d1, .ref h0, .ref f0, .int (nI oq21), .int wt, .int dt, .int vv, .int fq, .int pq], wO h0 4 [.ref h1, .ref h2, .ref h3, .ref h4, .ref h5, .ref h6, .ref h7, .ref h8, .ref h9, .ref h10, .ref h11, hv0, hv1, hv2, hv3, .int (nI uq21)], wO f0 3 [.ref f1, .ref f2, .int (nI nq21), y3], wI (cy 1) f1 280 (fa13_21), wO t0 9 [.ref t1, .ref t2, .int (nI tn), .int (nI ta2_28), .int (nI ts2_29), .int (nI tk2_30), .long tm2_31, .int tr2_32], wI (cy 0) t1 1600 (fby), (t2, .inl (cy 2, 24, .inr (.inl (fky))))] hP9 hD9 hS9 (fun hP hD hS => ?_)
            clear hP9 hD9 hS9
            refine W.widen (k := 0) (n := 0) (Nat.le_of_ble_eq_true rfl) (Nat.le_of_ble_eq_true rfl) ?_
            replace hw27 : (ta2_28 ≤ tn) ∧ (tk2_30 ≤ 123) ∧ (tkC fby tn (fin fby tn gq21) ta2_28 ts2_29 tk2_30 tm2_31 tr2_32) := hw27
            obtain ⟨f_33, f_34, f_35⟩ := hw27
            refine lv_aload_n hx hb dX10_takeBoth_38 rfl (lv_at hl 2 rfl) ?_
            refine lv_iload_n hx hb dX10_takeBoth_39 rfl (lv_at hl 3 rfl) ?_
            refine x_callVi (q := (RX10, TX10, 10)) (ci := 10) (q0 := 0) (wr := []) (rest := []) ⟨hx, hb, hml, hown, hg, hl.1⟩ k_X10_186 (s_takeOne7 l D cy adK adV d0 d1 wt dt vv fq pq t0 t1 t2 tn ta2_28 ts2_29 tk2_30 tm2_31 tr2_32 fby fky h0 h1 h2 h3 h4 h5 h6 h7 h8 h9 h10 h11 hv0 hv1 hv2 hv3 oq21 uq21 f0 f1 f2 nq21 y3 fa13_21 (fin fby tn gq21) (by omega) (by omega) (by omega) (f_35) (hky) (by omega) (ha14_21) (by omega) (by omega) (by omega)) EV_blind hK hP hD hS hA [0, 4, 5, 6, 1, 2, 3] [] ⟨rfl, rfl, by decide +kernel, by decide +kernel, by decide +kernel⟩ rfl rfl (fun U hU hW => EV_pass hE hS (va_free hD hS hA [0, 4, 5, 6, 1, 2, 3] rfl) hU hW) dX10_takeBoth_40 rfl rfl (Nat.le_of_ble_eq_true rfl) ⟨Nat.le_of_ble_eq_true rfl, Nat.le_of_ble_eq_true rfl⟩ ⟨Nat.le_of_ble_eq_true rfl, Nat.le_of_ble_eq_true rfl⟩ (fun zr36 zu36 H locs hw36 hP9 hD9 hS9 => ?_)
            clear hP hD hS
            obtain ⟨ta2_37, ts2_38, tk2_39, tm2_40, tr2_41, fq2_42, pq2_43, ow2_44, un2_45, nf2_46, fco2_47, ga2_48⟩ := zu36
            refine reW [wO d0 10 [.ref t0, .ref d1, .ref h0, .ref f0, .int (nI ow2_44), .int wt, .int dt, .int vv, .int fq2_42, .int pq2_43], wO t0 9 [.ref t1, .ref t2, .int (nI tn), .int (nI ta2_37), .int (nI ts2_38), .int (nI tk2_39), .long tm2_40, .int tr2_41], wI (cy 0) t1 1600 (fby), (t2, .inl (cy 2, 24, .inr (.inl (fky)))), wO h0 4 [.ref h1, .ref h2, .ref h3, .ref h4, .ref h5, .ref h6, .ref h7, .ref h8, .ref h9, .ref h10, .ref h11, hv0, hv1, hv2, hv3, .int (nI un2_45)], wO f0 3 [.ref f1, .ref f2, .int (nI nf2_46), y3], wI (cy 1) f1 280 (fco2_47)] hP9 hD9 hS9 (fun hP hD hS => ?_)
            clear hP9 hD9 hS9
            refine W.widen (k := 0) (n := 0) (Nat.le_of_ble_eq_true rfl) (Nat.le_of_ble_eq_true rfl) ?_
            replace hw36 : (ta2_37 ≤ tn) ∧ (tk2_39 ≤ 123) ∧ (nf2_46 ≤ 280) ∧ (cOK fco2_47 nf2_46) ∧ (ow2_44 ≤ 30) ∧ (un2_45 ≤ 60) ∧ ((zr36 = 1 ∧ (okS (knd fby tn) (fin fby tn) 4 7 (fin fby tn gq21) oq21 uq21 ga2_48 ow2_44 un2_45) ∧ (fq = fq2_42) ∧ (pq = pq2_43) ∧ (tkC fby tn ga2_48 ta2_37 ts2_38 tk2_39 tm2_40 tr2_41) ∧ ((fin fby tn gq21) < ga2_48 ∧ ga2_48 ≤ tn)) ∨ (zr36 = 0 ∧ (noS (knd fby tn) (fin fby tn) 4 7 (fin fby tn gq21) oq21 uq21 ga2_48) ∧ (flt fby tn ga2_48 2 fq2_42 pq2_43))) := hw36
            obtain ⟨f_49, f_50, f_51, f_52, f_53, f_54, f_55⟩ := hw36
            rcases f_55 with ⟨hz_61, a_56, a_57, a_58, a_59, a_60⟩ | ⟨hz_64, a_62, a_63⟩
            · subst hz_61
              subst a_57
              subst a_58
              have hg_a_60 := a_60
              refine lv_istore_n (lv' := [(2, .int 1), (3, .int (nI i21)), (0, .ref d0), (1, .int 7)]) hx hb dX10_takeBoth_43 rfl hl (by decide) rfl (fun ls hl => ?_)
              refine lv_aload_n hx hb dX10_takeBoth_44 rfl (lv_at hl 2 rfl) ?_
              refine va_get (D := D) (ci := 10) (v := .ref f0) (C := RX10) (T := TX10) (N := 10) hx hb hg i_X10 hown hK hP 0 rfl rfl 3 (by decide) (hg _ m_258) (fun _ h9 => h9) rfl dX10_takeBoth_45 ?_
              refine lv_bipush (v := 115) hx hb dX10_takeBoth_48 (by decide) ?_
              refine x_callVv (q := (RX3, TX3, 4)) (ci := 3) (q0 := 0) (wr := [wO d0 10 [.ref t0, .ref d1, .ref h0, .ref f0, .int (nI ow2_44), .int wt, .int dt, .int vv, .int fq, .int pq], wO t0 9 [.ref t1, .ref t2, .int (nI tn), .int (nI ta2_37), .int (nI ts2_38), .int (nI tk2_39), .long tm2_40, .int tr2_41], wI (cy 0) t1 1600 (fby), (t2, .inl (cy 2, 24, .inr (.inl (fky)))), wO h0 4 [.ref h1, .ref h2, .ref h3, .ref h4, .ref h5, .ref h6, .ref h7, .ref h8, .ref h9, .ref h10, .ref h11, hv0, hv1, hv2, hv3, .int (nI un2_45)]]) (rest := []) ⟨hx, hb, hml, hown, hg, hl.1⟩ k_X10_182 (s_addDeed l D cy f0 f1 f2 nf2_46 y3 fco2_47 115 (by omega) (f_52) (by omega)) E0_blind hK hP hD hS hA [5, 6] [0, 1, 2, 3, 4] ⟨rfl, rfl, by decide +kernel, by decide +kernel, by decide +kernel⟩ rfl rfl (fun _ _ _ => trivial) dX10_takeBoth_50 rfl rfl (Nat.le_of_ble_eq_true rfl) ⟨Nat.le_of_ble_eq_true rfl, Nat.le_of_ble_eq_true rfl⟩ ⟨Nat.le_of_ble_eq_true rfl, Nat.le_of_ble_eq_true rfl⟩ (fun zu65 H locs hw65 hP9 hD9 hS9 => ?_)
              clear hP hD hS
              obtain ⟨n2_66, fc2_67⟩ := zu65
              refine reW [wO d0 10 [.ref t0, .ref d1, .ref h0, .ref f0, .int (nI ow2_44), .int wt, .int dt, .int vv, .int fq, .int pq], wO t0 9 [.ref t1, .ref t2, .int (nI tn), .int (nI ta2_37), .int (nI ts2_38), .int (nI tk2_39), .long tm2_40, .int tr2_41], wI (cy 0) t1 1600 (fby), (t2, .inl (cy 2, 24, .inr (.inl (fky)))), wO h0 4 [.ref h1, .ref h2, .ref h3, .ref h4, .ref h5, .ref h6, .ref h7, .ref h8, .ref h9, .ref h10, .ref h11, hv0, hv1, hv2, hv3, .int (nI un2_45)], wO f0 3 [.ref f1, .ref f2, .int (nI n2_66), y3], wI (cy 1) f1 280 (fc2_67)] hP9 hD9 hS9 (fun hP hD hS => ?_)
              clear hP9 hD9 hS9
              refine W.widen (k := 0) (n := 0) (Nat.le_of_ble_eq_true rfl) (Nat.le_of_ble_eq_true rfl) ?_
              replace hw65 : (n2_66 ≤ 280) ∧ (cOK fc2_67 n2_66) := hw65
              obtain ⟨f_68, f_69⟩ := hw65
              refine lv_iinc (v := nI (i21 + 1)) (lv' := [(3, .int (nI (i21 + 1))), (2, .int 1), (0, .ref d0), (1, .int 7)]) hx hb dX10_takeBoth_53 hl (k := 1) rfl (nI_add i21 1) (by decide) rfl (fun ls hl => ?_)
              refine lv_goto (tgt := 8) hx hb dX10_takeBoth_56 (by decide) ?_
              exact ih21  1 ((i21 + 1)) ta2_37 ts2_38 tk2_39 tm2_40 tr2_41 ow2_44 fq pq un2_45 n2_66 ga2_48 fc2_67 f_69 (by omega) (by omega) (by omega) (by omega) (by omega) (by omega) (Or.inl ⟨rfl, inS_step lvP24 hin9 hop.1 hop.2 a_56, a_59, by omega, by omega, by omega, rfl, rfl⟩) (by omega) _ _ (hP.sub [0, 1, 2, 3, 4, 5, 6] rfl) (hD.sub [0, 1, 2, 3, 4, 5, 6] (by decide +kernel) rfl) hS ls (lv_sub hl [0, 1, 2, 3] rfl)
            · subst hz_64
              refine lv_istore_n (lv' := [(2, .int 0), (3, .int (nI i21)), (0, .ref d0), (1, .int 7)]) hx hb dX10_takeBoth_43 rfl hl (by decide) rfl (fun ls hl => ?_)
              refine lv_aload_n hx hb dX10_takeBoth_44 rfl (lv_at hl 2 rfl) ?_
              refine va_get (D := D) (ci := 10) (v := .ref f0) (C := RX10) (T := TX10) (N := 10) hx hb hg i_X10 hown hK hP 0 rfl rfl 3 (by decide) (hg _ m_258) (fun _ h9 => h9) rfl dX10_takeBoth_45 ?_
              refine lv_bipush (v := 115) hx hb dX10_takeBoth_48 (by decide) ?_
              refine x_callVv (q := (RX3, TX3, 4)) (ci := 3) (q0 := 0) (wr := [wO d0 10 [.ref t0, .ref d1, .ref h0, .ref f0, .int (nI ow2_44), .int wt, .int dt, .int vv, .int fq2_42, .int pq2_43], wO t0 9 [.ref t1, .ref t2, .int (nI tn), .int (nI ta2_37), .int (nI ts2_38), .int (nI tk2_39), .long tm2_40, .int tr2_41], wI (cy 0) t1 1600 (fby), (t2, .inl (cy 2, 24, .inr (.inl (fky)))), wO h0 4 [.ref h1, .ref h2, .ref h3, .ref h4, .ref h5, .ref h6, .ref h7, .ref h8, .ref h9, .ref h10, .ref h11, hv0, hv1, hv2, hv3, .int (nI un2_45)]]) (rest := []) ⟨hx, hb, hml, hown, hg, hl.1⟩ k_X10_182 (s_addDeed l D cy f0 f1 f2 nf2_46 y3 fco2_47 115 (by omega) (f_52) (by omega)) E0_blind hK hP hD hS hA [5, 6] [0, 1, 2, 3, 4] ⟨rfl, rfl, by decide +kernel, by decide +kernel, by decide +kernel⟩ rfl rfl (fun _ _ _ => trivial) dX10_takeBoth_50 rfl rfl (Nat.le_of_ble_eq_true rfl) ⟨Nat.le_of_ble_eq_true rfl, Nat.le_of_ble_eq_true rfl⟩ ⟨Nat.le_of_ble_eq_true rfl, Nat.le_of_ble_eq_true rfl⟩ (fun zu70 H locs hw70 hP9 hD9 hS9 => ?_)
              clear hP hD hS
              obtain ⟨n2_71, fc2_72⟩ := zu70
              refine reW [wO d0 10 [.ref t0, .ref d1, .ref h0, .ref f0, .int (nI ow2_44), .int wt, .int dt, .int vv, .int fq2_42, .int pq2_43], wO t0 9 [.ref t1, .ref t2, .int (nI tn), .int (nI ta2_37), .int (nI ts2_38), .int (nI tk2_39), .long tm2_40, .int tr2_41], wI (cy 0) t1 1600 (fby), (t2, .inl (cy 2, 24, .inr (.inl (fky)))), wO h0 4 [.ref h1, .ref h2, .ref h3, .ref h4, .ref h5, .ref h6, .ref h7, .ref h8, .ref h9, .ref h10, .ref h11, hv0, hv1, hv2, hv3, .int (nI un2_45)], wO f0 3 [.ref f1, .ref f2, .int (nI n2_71), y3], wI (cy 1) f1 280 (fc2_72)] hP9 hD9 hS9 (fun hP hD hS => ?_)
              clear hP9 hD9 hS9
              refine W.widen (k := 0) (n := 0) (Nat.le_of_ble_eq_true rfl) (Nat.le_of_ble_eq_true rfl) ?_
              replace hw70 : (n2_71 ≤ 280) ∧ (cOK fc2_72 n2_71) := hw70
              obtain ⟨f_73, f_74⟩ := hw70
              refine lv_iinc (v := nI (i21 + 1)) (lv' := [(3, .int (nI (i21 + 1))), (2, .int 0), (0, .ref d0), (1, .int 7)]) hx hb dX10_takeBoth_53 hl (k := 1) rfl (nI_add i21 1) (by decide) rfl (fun ls hl => ?_)
              refine lv_goto (tgt := 8) hx hb dX10_takeBoth_56 (by decide) ?_
              exact ih21  0 ((i21 + 1)) ta2_37 ts2_38 tk2_39 tm2_40 tr2_41 ow2_44 fq2_42 pq2_43 un2_45 n2_71 ga2_48 fc2_72 f_74 (by omega) (by omega) (by omega) (by omega) (by omega) (by omega) (Or.inr ⟨rfl, inS_bad lvP24 hin9 hop.1 hop.2 a_62, a_63⟩) (by omega) _ _ (hP.sub [0, 1, 2, 3, 4, 5, 6] rfl) (hD.sub [0, 1, 2, 3, 4, 5, 6] (by decide +kernel) rfl) hS ls (lv_sub hl [0, 1, 2, 3] rfl)
      · subst hlb
        refine lv_iload_n hx hb dX10_takeBoth_8 rfl (lv_at hl 0 rfl) ?_
        refine lv_sipush (v := 1600) hx hb dX10_takeBoth_9 (by decide) ?_
        refine lv_icmp_ge (tgt := 59) hx hb dX10_takeBoth_12 (by decide) (fun c_75 => ?_) (fun c_75 => ?_)
        · have q_76 : 1600 ≤ i21 := q_le (a := 1600) (b := i21) rfl rfl (by omega) (by omega) c_75
          refine lv_iload_n hx hb dX10_takeBoth_59 rfl (lv_at hl 1 rfl) ?_
          exact x_zret hQ hx hb hr hlocks hK hP hD hS rfl dX10_takeBoth_60 (aq21, sq21, kq21, fl5_21, rq21, fz21, pz21, oq21, uq21, nq21, fa13_21, gq21) (⟨(show aq21 ≤ tn from by omega), (show kq21 ≤ 123 from by omega), (show nq21 ≤ 280 from by omega), ha14_21, (show oq21 ≤ 30 from by omega), (show uq21 ≤ 60 from by omega), (show ((0 : Int32) = 1 ∧ (okS (knd fby tn) (fin fby tn) 2 7 ga ow un gq21 oq21 uq21) ∧ (fq = fz21) ∧ (pq = pz21) ∧ (tkC fby tn gq21 aq21 sq21 kq21 fl5_21 rq21) ∧ (ga < gq21 ∧ gq21 ≤ tn)) ∨ ((0 : Int32) = 0 ∧ (noS (knd fby tn) (fin fby tn) 2 7 ga ow un gq21) ∧ (flt fby tn gq21 2 fz21 pz21)) from Or.inr (⟨rfl, (hno9), (hfl9)⟩))⟩) [0, 1, 2, 3, 4, 5, 6] (by decide +kernel) rfl (Nat.le_of_ble_eq_true rfl) (Nat.le_of_ble_eq_true rfl)
        · have q_76 : i21 < 1600 := q_nle (a := 1600) (b := i21) rfl rfl (by omega) (by omega) c_75
          refine lv_iload_n hx hb dX10_takeBoth_15 rfl (lv_at hl 1 rfl) ?_
          refine lv_if_eq (tgt := 59) hx hb dX10_takeBoth_16 (by decide) (fun _ => ?_) (fun h => absurd (by decide) h)
          refine lv_iload_n hx hb dX10_takeBoth_59 rfl (lv_at hl 1 rfl) ?_
          exact x_zret hQ hx hb hr hlocks hK hP hD hS rfl dX10_takeBoth_60 (aq21, sq21, kq21, fl5_21, rq21, fz21, pz21, oq21, uq21, nq21, fa13_21, gq21) (⟨(show aq21 ≤ tn from by omega), (show kq21 ≤ 123 from by omega), (show nq21 ≤ 280 from by omega), ha14_21, (show oq21 ≤ 30 from by omega), (show uq21 ≤ 60 from by omega), (show ((0 : Int32) = 1 ∧ (okS (knd fby tn) (fin fby tn) 2 7 ga ow un gq21 oq21 uq21) ∧ (fq = fz21) ∧ (pq = pz21) ∧ (tkC fby tn gq21 aq21 sq21 kq21 fl5_21 rq21) ∧ (ga < gq21 ∧ gq21 ≤ tn)) ∨ ((0 : Int32) = 0 ∧ (noS (knd fby tn) (fin fby tn) 2 7 ga ow un gq21) ∧ (flt fby tn gq21 2 fz21 pz21)) from Or.inr (⟨rfl, (hno9), (hfl9)⟩))⟩) [0, 1, 2, 3, 4, 5, 6] (by decide +kernel) rfl (Nat.le_of_ble_eq_true rfl) (Nat.le_of_ble_eq_true rfl)
  exact loop21 _ zr1 0 ta2_2 ts2_3 tk2_4 tm2_5 tr2_6 ow2_9 fq2_7 pq2_8 un2_10 nf2_11 ga2_13 fco2_12 f_17 (by omega) (by omega) (by omega) (by omega) (by omega) (by omega) (by rcases f_20 with ⟨hx0, hxk, hxq, hxp, hxt, hxg⟩ | ⟨hx0, hxn, hxl⟩; exact Or.inl ⟨hx0, inS_0 lvP24 hxk, hxt, hxg.1, hxg.2, by omega, hxq, hxp⟩; exact Or.inr ⟨hx0, noS_0 lvP24 hxn, hxl⟩) (Nat.le_refl _) _ _ (hP.sub [0, 1, 2, 3, 4, 5, 6] rfl) (hD.sub [0, 1, 2, 3, 4, 5, 6] (by decide +kernel) rfl) hS ls (lv_sub hl [0, 1, 2, 3] rfl)
theorem gdX10_takeEither_0 : decode cX10_takeEither 0 = .ok (.aload_n 0, 1) ∧ decode cX10_takeEither 1 = .ok (.iload_n 1, 1) ∧ decode cX10_takeEither 2 = .ok (.invokevirtual 179, 3) := by decide +kernel
theorem dX10_takeEither_0 : decode cX10_takeEither 0 = .ok (.aload_n 0, 1) := gdX10_takeEither_0.1
theorem dX10_takeEither_1 : decode cX10_takeEither 1 = .ok (.iload_n 1, 1) := gdX10_takeEither_0.2.1
theorem dX10_takeEither_2 : decode cX10_takeEither 2 = .ok (.invokevirtual 179, 3) := gdX10_takeEither_0.2.2
theorem k_X10_179 : xV RX10 RX10 179 yX10_takeBoth cX10_takeBoth 4 (some .boolean) 1 := ⟨⟨m_867, m_869, m_19, m_136, m_870⟩, rfl, by decide, by decide, by decide +kernel⟩
theorem gdX10_takeEither_5 : decode cX10_takeEither 5 = .ok (.istore_n 2, 1) ∧ decode cX10_takeEither 6 = .ok (.iconst 0, 1) ∧ decode cX10_takeEither 7 = .ok (.istore_n 3, 1) ∧ decode cX10_takeEither 8 = .ok (.iload_n 3, 1) ∧ decode cX10_takeEither 9 = .ok (.sipush 1600, 3) ∧ decode cX10_takeEither 12 = .ok (.if_icmp .ge 47, 3) ∧ decode cX10_takeEither 15 = .ok (.iload_n 2, 1) ∧ decode cX10_takeEither 16 = .ok (.ifCond .eq 43, 3) ∧ decode cX10_takeEither 19 = .ok (.aload_n 0, 1) ∧ decode cX10_takeEither 20 = .ok (.getfield 16, 3) ∧ decode cX10_takeEither 23 = .ok (.getfield 55, 3) ∧ decode cX10_takeEither 26 = .ok (.bipush 114, 2) := by decide +kernel
theorem dX10_takeEither_5 : decode cX10_takeEither 5 = .ok (.istore_n 2, 1) := gdX10_takeEither_5.1
theorem dX10_takeEither_6 : decode cX10_takeEither 6 = .ok (.iconst 0, 1) := gdX10_takeEither_5.2.1
theorem dX10_takeEither_7 : decode cX10_takeEither 7 = .ok (.istore_n 3, 1) := gdX10_takeEither_5.2.2.1
theorem dX10_takeEither_8 : decode cX10_takeEither 8 = .ok (.iload_n 3, 1) := gdX10_takeEither_5.2.2.2.1
theorem dX10_takeEither_9 : decode cX10_takeEither 9 = .ok (.sipush 1600, 3) := gdX10_takeEither_5.2.2.2.2.1
theorem dX10_takeEither_12 : decode cX10_takeEither 12 = .ok (.if_icmp .ge 47, 3) := gdX10_takeEither_5.2.2.2.2.2.1
theorem dX10_takeEither_15 : decode cX10_takeEither 15 = .ok (.iload_n 2, 1) := gdX10_takeEither_5.2.2.2.2.2.2.1
theorem dX10_takeEither_16 : decode cX10_takeEither 16 = .ok (.ifCond .eq 43, 3) := gdX10_takeEither_5.2.2.2.2.2.2.2.1
theorem dX10_takeEither_19 : decode cX10_takeEither 19 = .ok (.aload_n 0, 1) := gdX10_takeEither_5.2.2.2.2.2.2.2.2.1
theorem dX10_takeEither_20 : decode cX10_takeEither 20 = .ok (.getfield 16, 3) := gdX10_takeEither_5.2.2.2.2.2.2.2.2.2.1
theorem dX10_takeEither_23 : decode cX10_takeEither 23 = .ok (.getfield 55, 3) := gdX10_takeEither_5.2.2.2.2.2.2.2.2.2.2.1
theorem dX10_takeEither_26 : decode cX10_takeEither 26 = .ok (.bipush 114, 2) := gdX10_takeEither_5.2.2.2.2.2.2.2.2.2.2.2
theorem gdX10_takeEither_28 : decode cX10_takeEither 28 = .ok (.if_icmp .ne 31, 3) ∧ decode cX10_takeEither 59 = .ok (.iload_n 2, 1) ∧ decode cX10_takeEither 60 = .ok (.ireturn, 1) ∧ decode cX10_takeEither 31 = .ok (.aload_n 0, 1) ∧ decode cX10_takeEither 32 = .ok (.getfield 16, 3) ∧ decode cX10_takeEither 35 = .ok (.invokevirtual 140, 3) ∧ decode cX10_takeEither 38 = .ok (.aload_n 0, 1) ∧ decode cX10_takeEither 39 = .ok (.iload_n 1, 1) ∧ decode cX10_takeEither 40 = .ok (.invokevirtual 179, 3) ∧ decode cX10_takeEither 43 = .ok (.istore_n 2, 1) ∧ decode cX10_takeEither 44 = .ok (.aload_n 0, 1) ∧ decode cX10_takeEither 45 = .ok (.getfield 34, 3) := by decide +kernel
theorem dX10_takeEither_28 : decode cX10_takeEither 28 = .ok (.if_icmp .ne 31, 3) := gdX10_takeEither_28.1
theorem dX10_takeEither_59 : decode cX10_takeEither 59 = .ok (.iload_n 2, 1) := gdX10_takeEither_28.2.1
theorem dX10_takeEither_60 : decode cX10_takeEither 60 = .ok (.ireturn, 1) := gdX10_takeEither_28.2.2.1
theorem dX10_takeEither_31 : decode cX10_takeEither 31 = .ok (.aload_n 0, 1) := gdX10_takeEither_28.2.2.2.1
theorem dX10_takeEither_32 : decode cX10_takeEither 32 = .ok (.getfield 16, 3) := gdX10_takeEither_28.2.2.2.2.1
theorem dX10_takeEither_35 : decode cX10_takeEither 35 = .ok (.invokevirtual 140, 3) := gdX10_takeEither_28.2.2.2.2.2.1
theorem dX10_takeEither_38 : decode cX10_takeEither 38 = .ok (.aload_n 0, 1) := gdX10_takeEither_28.2.2.2.2.2.2.1
theorem dX10_takeEither_39 : decode cX10_takeEither 39 = .ok (.iload_n 1, 1) := gdX10_takeEither_28.2.2.2.2.2.2.2.1
theorem dX10_takeEither_40 : decode cX10_takeEither 40 = .ok (.invokevirtual 179, 3) := gdX10_takeEither_28.2.2.2.2.2.2.2.2.1
theorem dX10_takeEither_43 : decode cX10_takeEither 43 = .ok (.istore_n 2, 1) := gdX10_takeEither_28.2.2.2.2.2.2.2.2.2.1
theorem dX10_takeEither_44 : decode cX10_takeEither 44 = .ok (.aload_n 0, 1) := gdX10_takeEither_28.2.2.2.2.2.2.2.2.2.2.1
theorem dX10_takeEither_45 : decode cX10_takeEither 45 = .ok (.getfield 34, 3) := gdX10_takeEither_28.2.2.2.2.2.2.2.2.2.2.2
theorem gdX10_takeEither_48 : decode cX10_takeEither 48 = .ok (.bipush 114, 2) ∧ decode cX10_takeEither 50 = .ok (.invokevirtual 182, 3) ∧ decode cX10_takeEither 53 = .ok (.iinc 3 1, 3) ∧ decode cX10_takeEither 56 = .ok (.goto (-48), 3) := by decide +kernel
theorem dX10_takeEither_48 : decode cX10_takeEither 48 = .ok (.bipush 114, 2) := gdX10_takeEither_48.1
theorem dX10_takeEither_50 : decode cX10_takeEither 50 = .ok (.invokevirtual 182, 3) := gdX10_takeEither_48.2.1
theorem dX10_takeEither_53 : decode cX10_takeEither 53 = .ok (.iinc 3 1, 3) := gdX10_takeEither_48.2.2.1
theorem dX10_takeEither_56 : decode cX10_takeEither 56 = .ok (.goto (-48), 3) := gdX10_takeEither_48.2.2.2
set_option maxHeartbeats 1000000 in
set_option maxRecDepth 100000 in
theorem s_takeEither7 (l : Launch) (D : va_G) (cy : Nat → ClassId) (adK : Nat → Nat) (adV : Nat → Nat) (d0 : Nat) (d1 : Nat) (wt : Int32) (dt : Int32) (vv : Int32) (fq : Int32) (pq : Int32) (t0 : Nat) (t1 : Nat) (t2 : Nat) (tn : Nat) (ta : Nat) (ts : Nat) (tk : Nat) (tm : Int64) (tr : Int32) (fby : Nat → Int32) (fky : Nat → Int64) (h0 : Nat) (h1 : Nat) (h2 : Nat) (h3 : Nat) (h4 : Nat) (h5 : Nat) (h6 : Nat) (h7 : Nat) (h8 : Nat) (h9 : Nat) (h10 : Nat) (h11 : Nat) (hv0 : Value) (hv1 : Value) (hv2 : Value) (hv3 : Value) (ow : Nat) (un : Nat) (f0 : Nat) (f1 : Nat) (f2 : Nat) (nf : Nat) (y3 : Value) (fco : Nat → Int32) (ga : Nat) (htn : tn ≤ 1600) (hta : ta ≤ tn) (htk : tk ≤ 123) (hti : tkC fby tn ga ta ts tk tm tr) (hky : kyOK fky) (hnf : nf ≤ 280) (hfc : cOK fco nf) (how : ow ≤ 30) (hun : un ≤ 60) (hga : ga ≤ tn) : XMi l D (tyL cy) (EV adK adV) yX10_takeEither cX10_takeEither 4 (some .boolean) (rmk 12 0 0) [.ref d0, .int 7] [wO d0 10 [.ref t0, .ref d1, .ref h0, .ref f0, .int (nI ow), .int wt, .int dt, .int vv, .int fq, .int pq], wO t0 9 [.ref t1, .ref t2, .int (nI tn), .int (nI ta), .int (nI ts), .int (nI tk), .long tm, .int tr], wI (cy 0) t1 1600 (fby), (t2, .inl (cy 2, 24, .inr (.inl (fky)))), wO h0 4 [.ref h1, .ref h2, .ref h3, .ref h4, .ref h5, .ref h6, .ref h7, .ref h8, .ref h9, .ref h10, .ref h11, hv0, hv1, hv2, hv3, .int (nI un)], wO f0 3 [.ref f1, .ref f2, .int (nI nf), y3], wI (cy 1) f1 280 (fco)] (fun (r : Int32) (u : Nat × Nat × Nat × Int64 × Int32 × Int32 × Int32 × Nat × Nat × Nat × (Nat → Int32) × Nat) => (u.1 ≤ tn) ∧ (u.2.2.1 ≤ 123) ∧ (u.2.2.2.2.2.2.2.2.2.1 ≤ 280) ∧ (cOK u.2.2.2.2.2.2.2.2.2.2.1 u.2.2.2.2.2.2.2.2.2.1) ∧ (u.2.2.2.2.2.2.2.1 ≤ 30) ∧ (u.2.2.2.2.2.2.2.2.1 ≤ 60) ∧ ((r = 1 ∧ (okS (knd fby tn) (fin fby tn) 1 7 ga ow un u.2.2.2.2.2.2.2.2.2.2.2 u.2.2.2.2.2.2.2.1 u.2.2.2.2.2.2.2.2.1) ∧ (fq = u.2.2.2.2.2.1) ∧ (pq = u.2.2.2.2.2.2.1) ∧ (tkC fby tn u.2.2.2.2.2.2.2.2.2.2.2 u.1 u.2.1 u.2.2.1 u.2.2.2.1 u.2.2.2.2.1) ∧ (ga < u.2.2.2.2.2.2.2.2.2.2.2 ∧ u.2.2.2.2.2.2.2.2.2.2.2 ≤ tn)) ∨ (r = 0 ∧ (noS (knd fby tn) (fin fby tn) 1 7 ga ow un u.2.2.2.2.2.2.2.2.2.2.2) ∧ (flt fby tn u.2.2.2.2.2.2.2.2.2.2.2 2 u.2.2.2.2.2.1 u.2.2.2.2.2.2.1)))) (fun (u : Nat × Nat × Nat × Int64 × Int32 × Int32 × Int32 × Nat × Nat × Nat × (Nat → Int32) × Nat) => [wO d0 10 [.ref t0, .ref d1, .ref h0, .ref f0, .int (nI u.2.2.2.2.2.2.2.1), .int wt, .int dt, .int vv, .int u.2.2.2.2.2.1, .int u.2.2.2.2.2.2.1], wO t0 9 [.ref t1, .ref t2, .int (nI tn), .int (nI u.1), .int (nI u.2.1), .int (nI u.2.2.1), .long u.2.2.2.1, .int u.2.2.2.2.1], wI (cy 0) t1 1600 (fby), (t2, .inl (cy 2, 24, .inr (.inl (fky)))), wO h0 4 [.ref h1, .ref h2, .ref h3, .ref h4, .ref h5, .ref h6, .ref h7, .ref h8, .ref h9, .ref h10, .ref h11, hv0, hv1, hv2, hv3, .int (nI u.2.2.2.2.2.2.2.2.1)], wO f0 3 [.ref f1, .ref f2, .int (nI u.2.2.2.2.2.2.2.2.2.1), y3], wI (cy 1) f1 280 (u.2.2.2.2.2.2.2.2.2.2.1)]) := by
  refine XMi.start (by decide) (Nat.le_of_ble_eq_true rfl) ?_
  intro p e s m below meth c args A ls Q hat hQ
  obtain ⟨hx, hb, hr, hml, hown, hg, hlocks, hin, hK, hA, hP, hD, hS, hE, hl⟩ := hat
  have hown : s.vm.findClass RX10 = some m.cls := hown
  have hl : lv_has ls 4 [(0, .ref d0), (1, .int 7)] := hl
  refine lv_aload_n hx hb dX10_takeEither_0 rfl (lv_at hl 0 rfl) ?_
  refine lv_iload_n hx hb dX10_takeEither_1 rfl (lv_at hl 1 rfl) ?_
  refine x_callVi (q := (RX10, TX10, 10)) (ci := 10) (q0 := 0) (wr := []) (rest := []) ⟨hx, hb, hml, hown, hg, hl.1⟩ k_X10_179 (s_takeBoth7 l D cy adK adV d0 d1 wt dt vv fq pq t0 t1 t2 tn ta ts tk tm tr fby fky h0 h1 h2 h3 h4 h5 h6 h7 h8 h9 h10 h11 hv0 hv1 hv2 hv3 ow un f0 f1 f2 nf y3 fco ga (by omega) (by omega) (by omega) (hti) (hky) (by omega) (hfc) (by omega) (by omega) (by omega)) EV_blind hK hP hD hS hA [0, 1, 2, 3, 4, 5, 6] [] ⟨rfl, rfl, by decide +kernel, by decide +kernel, by decide +kernel⟩ rfl rfl (fun U hU hW => EV_pass hE hS (va_free hD hS hA [0, 1, 2, 3, 4, 5, 6] rfl) hU hW) dX10_takeEither_2 rfl rfl (Nat.le_of_ble_eq_true rfl) ⟨Nat.le_of_ble_eq_true rfl, Nat.le_of_ble_eq_true rfl⟩ ⟨Nat.le_of_ble_eq_true rfl, Nat.le_of_ble_eq_true rfl⟩ (fun zr1 zu1 H locs hw1 hP9 hD9 hS9 => ?_)
  clear hP hD hS
  obtain ⟨ta2_2, ts2_3, tk2_4, tm2_5, tr2_6, fq2_7, pq2_8, ow2_9, un2_10, nf2_11, fco2_12, ga2_13⟩ := zu1
  refine reW [wO d0 10 [.ref t0, .ref d1, .ref h0, .ref f0, .int (nI ow2_9), .int wt, .int dt, .int vv, .int fq2_7, .int pq2_8], wO t0 9 [.ref t1, .ref t2, .int (nI tn), .int (nI ta2_2), .int (nI ts2_3), .int (nI tk2_4), .long tm2_5, .int tr2_6], wI (cy 0) t1 1600 (fby), (t2, .inl (cy 2, 24, .inr (.inl (fky)))), wO h0 4 [.ref h1, .ref h2, .ref h3, .ref h4, .ref h5, .ref h6, .ref h7, .ref h8, .ref h9, .ref h10, .ref h11, hv0, hv1, hv2, hv3, .int (nI un2_10)], wO f0 3 [.ref f1, .ref f2, .int (nI nf2_11), y3], wI (cy 1) f1 280 (fco2_12)] hP9 hD9 hS9 (fun hP hD hS => ?_)
  clear hP9 hD9 hS9
  refine W.widen (k := 0) (n := 0) (Nat.le_of_ble_eq_true rfl) (Nat.le_of_ble_eq_true rfl) ?_
  replace hw1 : (ta2_2 ≤ tn) ∧ (tk2_4 ≤ 123) ∧ (nf2_11 ≤ 280) ∧ (cOK fco2_12 nf2_11) ∧ (ow2_9 ≤ 30) ∧ (un2_10 ≤ 60) ∧ ((zr1 = 1 ∧ (okS (knd fby tn) (fin fby tn) 2 7 ga ow un ga2_13 ow2_9 un2_10) ∧ (fq = fq2_7) ∧ (pq = pq2_8) ∧ (tkC fby tn ga2_13 ta2_2 ts2_3 tk2_4 tm2_5 tr2_6) ∧ (ga < ga2_13 ∧ ga2_13 ≤ tn)) ∨ (zr1 = 0 ∧ (noS (knd fby tn) (fin fby tn) 2 7 ga ow un ga2_13) ∧ (flt fby tn ga2_13 2 fq2_7 pq2_8))) := hw1
  obtain ⟨f_14, f_15, f_16, f_17, f_18, f_19, f_20⟩ := hw1
  refine lv_istore_n (lv' := [(2, .int zr1), (0, .ref d0), (1, .int 7)]) hx hb dX10_takeEither_5 rfl hl (by decide) rfl (fun ls hl => ?_)
  refine lv_iconst (v := 0) hx hb dX10_takeEither_6 (by decide) ?_
  refine lv_istore_n (lv' := [(3, .int 0), (2, .int zr1), (0, .ref d0), (1, .int 7)]) hx hb dX10_takeEither_7 rfl hl (by decide) rfl (fun ls hl => ?_)
  have loop21 : ∀ (zn : Nat) (lb2_21 : Int32) (i21 : Nat) (aq21 : Nat) (sq21 : Nat) (kq21 : Nat) (fl5_21 : Int64) (rq21 : Int32) (oq21 : Nat) (fz21 : Int32) (pz21 : Int32) (uq21 : Nat) (nq21 : Nat) (gq21 : Nat) (fa13_21 : Nat → Int32), (cOK fa13_21 nq21) → (i21 ≤ 1600) → (aq21 ≤ tn) → (kq21 ≤ 123) → (nq21 ≤ 280) → (oq21 ≤ 30) → (uq21 ≤ 60) → ((lb2_21 = 1 ∧ inS (knd fby tn) (fin fby tn) 1 2 7 ga ow un gq21 oq21 uq21 ∧ tkC fby tn gq21 aq21 sq21 kq21 fl5_21 rq21 ∧ ga < gq21 ∧ gq21 ≤ tn ∧ i21 < gq21 ∧ fq = fz21 ∧ pq = pz21) ∨ (lb2_21 = 0 ∧ noS (knd fby tn) (fin fby tn) 1 7 ga ow un gq21 ∧ flt fby tn gq21 2 fz21 pz21)) → 1600 - i21 + 1 ≤ zn → ∀ (H : Heap) (locs : List Loc), va_P D vwCl [wO d0 10 [.ref t0, .ref d1, .ref h0, .ref f0, .int (nI oq21), .int wt, .int dt, .int vv, .int fz21, .int pz21], wO t0 9 [.ref t1, .ref t2, .int (nI tn), .int (nI aq21), .int (nI sq21), .int (nI kq21), .long fl5_21, .int rq21], wI (cy 0) t1 1600 (fby), (t2, .inl (cy 2, 24, .inr (.inl (fky)))), wO h0 4 [.ref h1, .ref h2, .ref h3, .ref h4, .ref h5, .ref h6, .ref h7, .ref h8, .ref h9, .ref h10, .ref h11, hv0, hv1, hv2, hv3, .int (nI uq21)], wO f0 3 [.ref f1, .ref f2, .int (nI nq21), y3], wI (cy 1) f1 280 (fa13_21)] H → va_D A [wO d0 10 [.ref t0, .ref d1, .ref h0, .ref f0, .int (nI oq21), .int wt, .int dt, .int vv, .int fz21, .int pz21], wO t0 9 [.ref t1, .ref t2, .int (nI tn), .int (nI aq21), .int (nI sq21), .int (nI kq21), .long fl5_21, .int rq21], wI (cy 0) t1 1600 (fby), (t2, .inl (cy 2, 24, .inr (.inl (fky)))), wO h0 4 [.ref h1, .ref h2, .ref h3, .ref h4, .ref h5, .ref h6, .ref h7, .ref h8, .ref h9, .ref h10, .ref h11, hv0, hv1, hv2, hv3, .int (nI uq21)], wO f0 3 [.ref f1, .ref f2, .int (nI nq21), y3], wI (cy 1) f1 280 (fa13_21)] → va_S A s.heap H locs → ∀ ls : Array Slot, lv_has ls 4 [(3, .int (nI i21)), (2, .int lb2_21), (0, .ref d0), (1, .int 7)] → W p l e (rmk 12 0 0) s m args below meth c H locs 0 0 Q (F0 m 8 ls []) := by
    try clear hP hD hS
    intro zn
    induction zn with
    | zero => intro lb2_21 i21 aq21 sq21 kq21 fl5_21 rq21 oq21 fz21 pz21 uq21 nq21 gq21 fa13_21 _ _ _ _ _ _ _ _ hz; exact absurd hz (by omega)
    | succ zn ih21 =>
      intro lb2_21 i21 aq21 sq21 kq21 fl5_21 rq21 oq21 fz21 pz21 uq21 nq21 gq21 fa13_21 ha14_21 hf0_21 hf1_21 hf2_21 hf3_21 hf4_21 hf5_21 hf6_21 hmu21 H locs hP hD hS ls hl
      rcases hf6_21 with ⟨hlb, hin9, htk9, hg1, hg2, hg3, hfz, hpz⟩ | ⟨hlb, hno9, hfl9⟩
      · subst hlb hfz hpz
        refine lv_iload_n hx hb dX10_takeEither_8 rfl (lv_at hl 0 rfl) ?_
        refine lv_sipush (v := 1600) hx hb dX10_takeEither_9 (by decide) ?_
        refine lv_icmp_ge (tgt := 59) hx hb dX10_takeEither_12 (by decide) (fun c_22 => ?_) (fun c_22 => ?_)
        · have q_23 : 1600 ≤ i21 := q_le (a := 1600) (b := i21) rfl rfl (by omega) (by omega) c_22
          exact absurd q_23 (by omega)
        · have q_23 : i21 < 1600 := q_nle (a := 1600) (b := i21) rfl rfl (by omega) (by omega) c_22
          refine lv_iload_n hx hb dX10_takeEither_15 rfl (lv_at hl 1 rfl) ?_
          refine lv_if_eq (tgt := 59) hx hb dX10_takeEither_16 (by decide) (fun h => absurd h (by decide)) (fun _ => ?_)
          refine lv_aload_n hx hb dX10_takeEither_19 rfl (lv_at hl 2 rfl) ?_
          refine va_get (D := D) (ci := 10) (v := .ref t0) (C := RX10) (T := TX10) (N := 10) hx hb hg i_X10 hown hK hP 0 rfl rfl 0 (by decide) (hg _ m_255) (fun _ h9 => h9) rfl dX10_takeEither_20 ?_
          refine va_get (D := D) (ci := 9) (v := .int (nI kq21)) (C := RX9) (T := TX9) (N := 8) hx hb hg i_X9 hown hK hP 1 rfl rfl 5 (by decide) (hg _ m_222) (fun _ h9 => h9) rfl dX10_takeEither_23 ?_
          refine lv_bipush (v := 114) hx hb dX10_takeEither_26 (by decide) ?_
          refine lv_icmp_ne (tgt := 59) hx hb dX10_takeEither_28 (by decide) (fun c_24 => ?_) (fun c_24 => ?_)
          · have q_25 : ¬ kq21 = 114 := q_ne (a := kq21) (b := 114) rfl rfl (by omega) (by omega) c_24
            refine lv_iload_n hx hb dX10_takeEither_59 rfl (lv_at hl 1 rfl) ?_
            exact x_zret hQ hx hb hr hlocks hK hP hD hS rfl dX10_takeEither_60 (aq21, sq21, kq21, fl5_21, rq21, fq, pq, oq21, uq21, nq21, fa13_21, gq21) (⟨(show aq21 ≤ tn from by omega), (show kq21 ≤ 123 from by omega), (show nq21 ≤ 280 from by omega), ha14_21, (show oq21 ≤ 30 from by omega), (show uq21 ≤ 60 from by omega), (show ((1 : Int32) = 1 ∧ (okS (knd fby tn) (fin fby tn) 1 7 ga ow un gq21 oq21 uq21) ∧ (fq = fq) ∧ (pq = pq) ∧ (tkC fby tn gq21 aq21 sq21 kq21 fl5_21 rq21) ∧ (ga < gq21 ∧ gq21 ≤ tn)) ∨ ((1 : Int32) = 0 ∧ (noS (knd fby tn) (fin fby tn) 1 7 ga ow un gq21) ∧ (flt fby tn gq21 2 fq pq)) from Or.inl ⟨rfl, (inS_end lvP12 hin9 (sg_ne1 (by have h9 := htk9.2.2.1; omega))), (rfl), (rfl), (htk9), (⟨by omega, by omega⟩)⟩)⟩) [0, 1, 2, 3, 4, 5, 6] (by decide +kernel) rfl (Nat.le_of_ble_eq_true rfl) (Nat.le_of_ble_eq_true rfl)
          · have q_25 : kq21 = 114 := q_eq (a := kq21) (b := 114) rfl rfl (by omega) (by omega) c_24
            have hop := sg_1 (show knd fby tn gq21 = 114 from by have h9 := htk9.2.2.1; omega)
            have hgt_26 : gq21 < fin fby tn gq21 ∧ fin fby tn gq21 ≤ tn := ⟨fin_gt (by have h9 := htk9.2.2.1; omega), fin_le (by omega)⟩
            refine lv_aload_n hx hb dX10_takeEither_31 rfl (lv_at hl 2 rfl) ?_
            refine va_get (D := D) (ci := 10) (v := .ref t0) (C := RX10) (T := TX10) (N := 10) hx hb hg i_X10 hown hK hP 0 rfl rfl 0 (by decide) (hg _ m_255) (fun _ h9 => h9) rfl dX10_takeEither_32 ?_
            refine x_callVv (q := (RX9, TX9, 8)) (ci := 9) (q0 := 0) (wr := [wO d0 10 [.ref t0, .ref d1, .ref h0, .ref f0, .int (nI oq21), .int wt, .int dt, .int vv, .int fq, .int pq], wO h0 4 [.ref h1, .ref h2, .ref h3, .ref h4, .ref h5, .ref h6, .ref h7, .ref h8, .ref h9, .ref h10, .ref h11, hv0, hv1, hv2, hv3, .int (nI uq21)], wO f0 3 [.ref f1, .ref f2, .int (nI nq21), y3], wI (cy 1) f1 280 (fa13_21)]) (rest := []) ⟨hx, hb, hml, hown, hg, hl.1⟩ k_X10_140 (s_next l D cy adK adV t0 t1 t2 tn aq21 sq21 kq21 fl5_21 rq21 fby fky (fin fby tn gq21) (by omega) (by omega) (htk9.2.1) (hky)) EV_blind hK hP hD hS hA [1, 2, 3] [0, 4, 5, 6] ⟨rfl, rfl, by decide +kernel, by decide +kernel, by decide +kernel⟩ rfl rfl (fun U hU hW => EV_pass hE hS (va_free hD hS hA [1, 2, 3] rfl) hU hW) dX10_takeEither_35 rfl rfl (Nat.le_of_ble_eq_true rfl) ⟨Nat.le_of_ble_eq_true rfl, Nat.le_of_ble_eq_true rfl⟩ ⟨Nat.le_of_ble_eq_true rfl, Nat.le_of_ble_eq_true rfl⟩ (fun zu27 H locs hw27 hP9 hD9 hS9 => ?_)
            clear hP hD hS
            obtain ⟨ta2_28, ts2_29, tk2_30, tm2_31, tr2_32⟩ := zu27
            refine reW [wO d0 10 [.ref t0, .ref d1, .ref h0, .ref f0, .int (nI oq21), .int wt, .int dt, .int vv, .int fq, .int pq], wO h0 4 [.ref h1, .ref h2, .ref h3, .ref h4, .ref h5, .ref h6, .ref h7, .ref h8, .ref h9, .ref h10, .ref h11, hv0, hv1, hv2, hv3, .int (nI uq21)], wO f0 3 [.ref f1, .ref f2, .int (nI nq21), y3], wI (cy 1) f1 280 (fa13_21), wO t0 9 [.ref t1, .ref t2, .int (nI tn), .int (nI ta2_28), .int (nI ts2_29), .int (nI tk2_30), .long tm2_31, .int tr2_32], wI (cy 0) t1 1600 (fby), (t2, .inl (cy 2, 24, .inr (.inl (fky))))] hP9 hD9 hS9 (fun hP hD hS => ?_)
            clear hP9 hD9 hS9
            refine W.widen (k := 0) (n := 0) (Nat.le_of_ble_eq_true rfl) (Nat.le_of_ble_eq_true rfl) ?_
            replace hw27 : (ta2_28 ≤ tn) ∧ (tk2_30 ≤ 123) ∧ (tkC fby tn (fin fby tn gq21) ta2_28 ts2_29 tk2_30 tm2_31 tr2_32) := hw27
            obtain ⟨f_33, f_34, f_35⟩ := hw27
            refine lv_aload_n hx hb dX10_takeEither_38 rfl (lv_at hl 2 rfl) ?_
            refine lv_iload_n hx hb dX10_takeEither_39 rfl (lv_at hl 3 rfl) ?_
            refine x_callVi (q := (RX10, TX10, 10)) (ci := 10) (q0 := 0) (wr := []) (rest := []) ⟨hx, hb, hml, hown, hg, hl.1⟩ k_X10_179 (s_takeBoth7 l D cy adK adV d0 d1 wt dt vv fq pq t0 t1 t2 tn ta2_28 ts2_29 tk2_30 tm2_31 tr2_32 fby fky h0 h1 h2 h3 h4 h5 h6 h7 h8 h9 h10 h11 hv0 hv1 hv2 hv3 oq21 uq21 f0 f1 f2 nq21 y3 fa13_21 (fin fby tn gq21) (by omega) (by omega) (by omega) (f_35) (hky) (by omega) (ha14_21) (by omega) (by omega) (by omega)) EV_blind hK hP hD hS hA [0, 4, 5, 6, 1, 2, 3] [] ⟨rfl, rfl, by decide +kernel, by decide +kernel, by decide +kernel⟩ rfl rfl (fun U hU hW => EV_pass hE hS (va_free hD hS hA [0, 4, 5, 6, 1, 2, 3] rfl) hU hW) dX10_takeEither_40 rfl rfl (Nat.le_of_ble_eq_true rfl) ⟨Nat.le_of_ble_eq_true rfl, Nat.le_of_ble_eq_true rfl⟩ ⟨Nat.le_of_ble_eq_true rfl, Nat.le_of_ble_eq_true rfl⟩ (fun zr36 zu36 H locs hw36 hP9 hD9 hS9 => ?_)
            clear hP hD hS
            obtain ⟨ta2_37, ts2_38, tk2_39, tm2_40, tr2_41, fq2_42, pq2_43, ow2_44, un2_45, nf2_46, fco2_47, ga2_48⟩ := zu36
            refine reW [wO d0 10 [.ref t0, .ref d1, .ref h0, .ref f0, .int (nI ow2_44), .int wt, .int dt, .int vv, .int fq2_42, .int pq2_43], wO t0 9 [.ref t1, .ref t2, .int (nI tn), .int (nI ta2_37), .int (nI ts2_38), .int (nI tk2_39), .long tm2_40, .int tr2_41], wI (cy 0) t1 1600 (fby), (t2, .inl (cy 2, 24, .inr (.inl (fky)))), wO h0 4 [.ref h1, .ref h2, .ref h3, .ref h4, .ref h5, .ref h6, .ref h7, .ref h8, .ref h9, .ref h10, .ref h11, hv0, hv1, hv2, hv3, .int (nI un2_45)], wO f0 3 [.ref f1, .ref f2, .int (nI nf2_46), y3], wI (cy 1) f1 280 (fco2_47)] hP9 hD9 hS9 (fun hP hD hS => ?_)
            clear hP9 hD9 hS9
            refine W.widen (k := 0) (n := 0) (Nat.le_of_ble_eq_true rfl) (Nat.le_of_ble_eq_true rfl) ?_
            replace hw36 : (ta2_37 ≤ tn) ∧ (tk2_39 ≤ 123) ∧ (nf2_46 ≤ 280) ∧ (cOK fco2_47 nf2_46) ∧ (ow2_44 ≤ 30) ∧ (un2_45 ≤ 60) ∧ ((zr36 = 1 ∧ (okS (knd fby tn) (fin fby tn) 2 7 (fin fby tn gq21) oq21 uq21 ga2_48 ow2_44 un2_45) ∧ (fq = fq2_42) ∧ (pq = pq2_43) ∧ (tkC fby tn ga2_48 ta2_37 ts2_38 tk2_39 tm2_40 tr2_41) ∧ ((fin fby tn gq21) < ga2_48 ∧ ga2_48 ≤ tn)) ∨ (zr36 = 0 ∧ (noS (knd fby tn) (fin fby tn) 2 7 (fin fby tn gq21) oq21 uq21 ga2_48) ∧ (flt fby tn ga2_48 2 fq2_42 pq2_43))) := hw36
            obtain ⟨f_49, f_50, f_51, f_52, f_53, f_54, f_55⟩ := hw36
            rcases f_55 with ⟨hz_61, a_56, a_57, a_58, a_59, a_60⟩ | ⟨hz_64, a_62, a_63⟩
            · subst hz_61
              subst a_57
              subst a_58
              have hg_a_60 := a_60
              refine lv_istore_n (lv' := [(2, .int 1), (3, .int (nI i21)), (0, .ref d0), (1, .int 7)]) hx hb dX10_takeEither_43 rfl hl (by decide) rfl (fun ls hl => ?_)
              refine lv_aload_n hx hb dX10_takeEither_44 rfl (lv_at hl 2 rfl) ?_
              refine va_get (D := D) (ci := 10) (v := .ref f0) (C := RX10) (T := TX10) (N := 10) hx hb hg i_X10 hown hK hP 0 rfl rfl 3 (by decide) (hg _ m_258) (fun _ h9 => h9) rfl dX10_takeEither_45 ?_
              refine lv_bipush (v := 114) hx hb dX10_takeEither_48 (by decide) ?_
              refine x_callVv (q := (RX3, TX3, 4)) (ci := 3) (q0 := 0) (wr := [wO d0 10 [.ref t0, .ref d1, .ref h0, .ref f0, .int (nI ow2_44), .int wt, .int dt, .int vv, .int fq, .int pq], wO t0 9 [.ref t1, .ref t2, .int (nI tn), .int (nI ta2_37), .int (nI ts2_38), .int (nI tk2_39), .long tm2_40, .int tr2_41], wI (cy 0) t1 1600 (fby), (t2, .inl (cy 2, 24, .inr (.inl (fky)))), wO h0 4 [.ref h1, .ref h2, .ref h3, .ref h4, .ref h5, .ref h6, .ref h7, .ref h8, .ref h9, .ref h10, .ref h11, hv0, hv1, hv2, hv3, .int (nI un2_45)]]) (rest := []) ⟨hx, hb, hml, hown, hg, hl.1⟩ k_X10_182 (s_addDeed l D cy f0 f1 f2 nf2_46 y3 fco2_47 114 (by omega) (f_52) (by omega)) E0_blind hK hP hD hS hA [5, 6] [0, 1, 2, 3, 4] ⟨rfl, rfl, by decide +kernel, by decide +kernel, by decide +kernel⟩ rfl rfl (fun _ _ _ => trivial) dX10_takeEither_50 rfl rfl (Nat.le_of_ble_eq_true rfl) ⟨Nat.le_of_ble_eq_true rfl, Nat.le_of_ble_eq_true rfl⟩ ⟨Nat.le_of_ble_eq_true rfl, Nat.le_of_ble_eq_true rfl⟩ (fun zu65 H locs hw65 hP9 hD9 hS9 => ?_)
              clear hP hD hS
              obtain ⟨n2_66, fc2_67⟩ := zu65
              refine reW [wO d0 10 [.ref t0, .ref d1, .ref h0, .ref f0, .int (nI ow2_44), .int wt, .int dt, .int vv, .int fq, .int pq], wO t0 9 [.ref t1, .ref t2, .int (nI tn), .int (nI ta2_37), .int (nI ts2_38), .int (nI tk2_39), .long tm2_40, .int tr2_41], wI (cy 0) t1 1600 (fby), (t2, .inl (cy 2, 24, .inr (.inl (fky)))), wO h0 4 [.ref h1, .ref h2, .ref h3, .ref h4, .ref h5, .ref h6, .ref h7, .ref h8, .ref h9, .ref h10, .ref h11, hv0, hv1, hv2, hv3, .int (nI un2_45)], wO f0 3 [.ref f1, .ref f2, .int (nI n2_66), y3], wI (cy 1) f1 280 (fc2_67)] hP9 hD9 hS9 (fun hP hD hS => ?_)
              clear hP9 hD9 hS9
              refine W.widen (k := 0) (n := 0) (Nat.le_of_ble_eq_true rfl) (Nat.le_of_ble_eq_true rfl) ?_
              replace hw65 : (n2_66 ≤ 280) ∧ (cOK fc2_67 n2_66) := hw65
              obtain ⟨f_68, f_69⟩ := hw65
              refine lv_iinc (v := nI (i21 + 1)) (lv' := [(3, .int (nI (i21 + 1))), (2, .int 1), (0, .ref d0), (1, .int 7)]) hx hb dX10_takeEither_53 hl (k := 1) rfl (nI_add i21 1) (by decide) rfl (fun ls hl => ?_)
              refine lv_goto (tgt := 8) hx hb dX10_takeEither_56 (by decide) ?_
              exact ih21  1 ((i21 + 1)) ta2_37 ts2_38 tk2_39 tm2_40 tr2_41 ow2_44 fq pq un2_45 n2_66 ga2_48 fc2_67 f_69 (by omega) (by omega) (by omega) (by omega) (by omega) (by omega) (Or.inl ⟨rfl, inS_step lvP12 hin9 hop.1 hop.2 a_56, a_59, by omega, by omega, by omega, rfl, rfl⟩) (by omega) _ _ (hP.sub [0, 1, 2, 3, 4, 5, 6] rfl) (hD.sub [0, 1, 2, 3, 4, 5, 6] (by decide +kernel) rfl) hS ls (lv_sub hl [0, 1, 2, 3] rfl)
            · subst hz_64
              refine lv_istore_n (lv' := [(2, .int 0), (3, .int (nI i21)), (0, .ref d0), (1, .int 7)]) hx hb dX10_takeEither_43 rfl hl (by decide) rfl (fun ls hl => ?_)
              refine lv_aload_n hx hb dX10_takeEither_44 rfl (lv_at hl 2 rfl) ?_
              refine va_get (D := D) (ci := 10) (v := .ref f0) (C := RX10) (T := TX10) (N := 10) hx hb hg i_X10 hown hK hP 0 rfl rfl 3 (by decide) (hg _ m_258) (fun _ h9 => h9) rfl dX10_takeEither_45 ?_
              refine lv_bipush (v := 114) hx hb dX10_takeEither_48 (by decide) ?_
              refine x_callVv (q := (RX3, TX3, 4)) (ci := 3) (q0 := 0) (wr := [wO d0 10 [.ref t0, .ref d1, .ref h0, .ref f0, .int (nI ow2_44), .int wt, .int dt, .int vv, .int fq2_42, .int pq2_43], wO t0 9 [.ref t1, .ref t2, .int (nI tn), .int (nI ta2_37), .int (nI ts2_38), .int (nI tk2_39), .long tm2_40, .int tr2_41], wI (cy 0) t1 1600 (fby), (t2, .inl (cy 2, 24, .inr (.inl (fky)))), wO h0 4 [.ref h1, .ref h2, .ref h3, .ref h4, .ref h5, .ref h6, .ref h7, .ref h8, .ref h9, .ref h10, .ref h11, hv0, hv1, hv2, hv3, .int (nI un2_45)]]) (rest := []) ⟨hx, hb, hml, hown, hg, hl.1⟩ k_X10_182 (s_addDeed l D cy f0 f1 f2 nf2_46 y3 fco2_47 114 (by omega) (f_52) (by omega)) E0_blind hK hP hD hS hA [5, 6] [0, 1, 2, 3, 4] ⟨rfl, rfl, by decide +kernel, by decide +kernel, by decide +kernel⟩ rfl rfl (fun _ _ _ => trivial) dX10_takeEither_50 rfl rfl (Nat.le_of_ble_eq_true rfl) ⟨Nat.le_of_ble_eq_true rfl, Nat.le_of_ble_eq_true rfl⟩ ⟨Nat.le_of_ble_eq_true rfl, Nat.le_of_ble_eq_true rfl⟩ (fun zu70 H locs hw70 hP9 hD9 hS9 => ?_)
              clear hP hD hS
              obtain ⟨n2_71, fc2_72⟩ := zu70
              refine reW [wO d0 10 [.ref t0, .ref d1, .ref h0, .ref f0, .int (nI ow2_44), .int wt, .int dt, .int vv, .int fq2_42, .int pq2_43], wO t0 9 [.ref t1, .ref t2, .int (nI tn), .int (nI ta2_37), .int (nI ts2_38), .int (nI tk2_39), .long tm2_40, .int tr2_41], wI (cy 0) t1 1600 (fby), (t2, .inl (cy 2, 24, .inr (.inl (fky)))), wO h0 4 [.ref h1, .ref h2, .ref h3, .ref h4, .ref h5, .ref h6, .ref h7, .ref h8, .ref h9, .ref h10, .ref h11, hv0, hv1, hv2, hv3, .int (nI un2_45)], wO f0 3 [.ref f1, .ref f2, .int (nI n2_71), y3], wI (cy 1) f1 280 (fc2_72)] hP9 hD9 hS9 (fun hP hD hS => ?_)
              clear hP9 hD9 hS9
              refine W.widen (k := 0) (n := 0) (Nat.le_of_ble_eq_true rfl) (Nat.le_of_ble_eq_true rfl) ?_
              replace hw70 : (n2_71 ≤ 280) ∧ (cOK fc2_72 n2_71) := hw70
              obtain ⟨f_73, f_74⟩ := hw70
              refine lv_iinc (v := nI (i21 + 1)) (lv' := [(3, .int (nI (i21 + 1))), (2, .int 0), (0, .ref d0), (1, .int 7)]) hx hb dX10_takeEither_53 hl (k := 1) rfl (nI_add i21 1) (by decide) rfl (fun ls hl => ?_)
              refine lv_goto (tgt := 8) hx hb dX10_takeEither_56 (by decide) ?_
              exact ih21  0 ((i21 + 1)) ta2_37 ts2_38 tk2_39 tm2_40 tr2_41 ow2_44 fq2_42 pq2_43 un2_45 n2_71 ga2_48 fc2_72 f_74 (by omega) (by omega) (by omega) (by omega) (by omega) (by omega) (Or.inr ⟨rfl, inS_bad lvP12 hin9 hop.1 hop.2 a_62, a_63⟩) (by omega) _ _ (hP.sub [0, 1, 2, 3, 4, 5, 6] rfl) (hD.sub [0, 1, 2, 3, 4, 5, 6] (by decide +kernel) rfl) hS ls (lv_sub hl [0, 1, 2, 3] rfl)
      · subst hlb
        refine lv_iload_n hx hb dX10_takeEither_8 rfl (lv_at hl 0 rfl) ?_
        refine lv_sipush (v := 1600) hx hb dX10_takeEither_9 (by decide) ?_
        refine lv_icmp_ge (tgt := 59) hx hb dX10_takeEither_12 (by decide) (fun c_75 => ?_) (fun c_75 => ?_)
        · have q_76 : 1600 ≤ i21 := q_le (a := 1600) (b := i21) rfl rfl (by omega) (by omega) c_75
          refine lv_iload_n hx hb dX10_takeEither_59 rfl (lv_at hl 1 rfl) ?_
          exact x_zret hQ hx hb hr hlocks hK hP hD hS rfl dX10_takeEither_60 (aq21, sq21, kq21, fl5_21, rq21, fz21, pz21, oq21, uq21, nq21, fa13_21, gq21) (⟨(show aq21 ≤ tn from by omega), (show kq21 ≤ 123 from by omega), (show nq21 ≤ 280 from by omega), ha14_21, (show oq21 ≤ 30 from by omega), (show uq21 ≤ 60 from by omega), (show ((0 : Int32) = 1 ∧ (okS (knd fby tn) (fin fby tn) 1 7 ga ow un gq21 oq21 uq21) ∧ (fq = fz21) ∧ (pq = pz21) ∧ (tkC fby tn gq21 aq21 sq21 kq21 fl5_21 rq21) ∧ (ga < gq21 ∧ gq21 ≤ tn)) ∨ ((0 : Int32) = 0 ∧ (noS (knd fby tn) (fin fby tn) 1 7 ga ow un gq21) ∧ (flt fby tn gq21 2 fz21 pz21)) from Or.inr (⟨rfl, (hno9), (hfl9)⟩))⟩) [0, 1, 2, 3, 4, 5, 6] (by decide +kernel) rfl (Nat.le_of_ble_eq_true rfl) (Nat.le_of_ble_eq_true rfl)
        · have q_76 : i21 < 1600 := q_nle (a := 1600) (b := i21) rfl rfl (by omega) (by omega) c_75
          refine lv_iload_n hx hb dX10_takeEither_15 rfl (lv_at hl 1 rfl) ?_
          refine lv_if_eq (tgt := 59) hx hb dX10_takeEither_16 (by decide) (fun _ => ?_) (fun h => absurd (by decide) h)
          refine lv_iload_n hx hb dX10_takeEither_59 rfl (lv_at hl 1 rfl) ?_
          exact x_zret hQ hx hb hr hlocks hK hP hD hS rfl dX10_takeEither_60 (aq21, sq21, kq21, fl5_21, rq21, fz21, pz21, oq21, uq21, nq21, fa13_21, gq21) (⟨(show aq21 ≤ tn from by omega), (show kq21 ≤ 123 from by omega), (show nq21 ≤ 280 from by omega), ha14_21, (show oq21 ≤ 30 from by omega), (show uq21 ≤ 60 from by omega), (show ((0 : Int32) = 1 ∧ (okS (knd fby tn) (fin fby tn) 1 7 ga ow un gq21 oq21 uq21) ∧ (fq = fz21) ∧ (pq = pz21) ∧ (tkC fby tn gq21 aq21 sq21 kq21 fl5_21 rq21) ∧ (ga < gq21 ∧ gq21 ≤ tn)) ∨ ((0 : Int32) = 0 ∧ (noS (knd fby tn) (fin fby tn) 1 7 ga ow un gq21) ∧ (flt fby tn gq21 2 fz21 pz21)) from Or.inr (⟨rfl, (hno9), (hfl9)⟩))⟩) [0, 1, 2, 3, 4, 5, 6] (by decide +kernel) rfl (Nat.le_of_ble_eq_true rfl) (Nat.le_of_ble_eq_true rfl)
  exact loop21 _ zr1 0 ta2_2 ts2_3 tk2_4 tm2_5 tr2_6 ow2_9 fq2_7 pq2_8 un2_10 nf2_11 ga2_13 fco2_12 f_17 (by omega) (by omega) (by omega) (by omega) (by omega) (by omega) (by rcases f_20 with ⟨hx0, hxk, hxq, hxp, hxt, hxg⟩ | ⟨hx0, hxn, hxl⟩; exact Or.inl ⟨hx0, inS_0 lvP12 hxk, hxt, hxg.1, hxg.2, by omega, hxq, hxp⟩; exact Or.inr ⟨hx0, noS_0 lvP12 hxn, hxl⟩) (Nat.le_refl _) _ _ (hP.sub [0, 1, 2, 3, 4, 5, 6] rfl) (hD.sub [0, 1, 2, 3, 4, 5, 6] (by decide +kernel) rfl) hS ls (lv_sub hl [0, 1, 2, 3] rfl)
theorem gdX10_takeInner_12 : decode cX10_takeInner 12 = .ok (.aload_n 0, 1) ∧ decode cX10_takeInner 13 = .ok (.getfield 16, 3) ∧ decode cX10_takeInner 16 = .ok (.invokevirtual 140, 3) ∧ decode cX10_takeInner 19 = .ok (.aload_n 0, 1) ∧ decode cX10_takeInner 20 = .ok (.iload_n 1, 1) ∧ decode cX10_takeInner 21 = .ok (.iconst 1, 1) ∧ decode cX10_takeInner 22 = .ok (.iadd, 1) ∧ decode cX10_takeInner 23 = .ok (.invokevirtual 166, 3) := by decide +kernel
theorem dX10_takeInner_12 : decode cX10_takeInner 12 = .ok (.aload_n 0, 1) := gdX10_takeInner_12.1
theorem dX10_takeInner_13 : decode cX10_takeInner 13 = .ok (.getfield 16, 3) := gdX10_takeInner_12.2.1
theorem dX10_takeInner_16 : decode cX10_takeInner 16 = .ok (.invokevirtual 140, 3) := gdX10_takeInner_12.2.2.1
theorem dX10_takeInner_19 : decode cX10_takeInner 19 = .ok (.aload_n 0, 1) := gdX10_takeInner_12.2.2.2.1
theorem dX10_takeInner_20 : decode cX10_takeInner 20 = .ok (.iload_n 1, 1) := gdX10_takeInner_12.2.2.2.2.1
theorem dX10_takeInner_21 : decode cX10_takeInner 21 = .ok (.iconst 1, 1) := gdX10_takeInner_12.2.2.2.2.2.1
theorem dX10_takeInner_22 : decode cX10_takeInner 22 = .ok (.iadd, 1) := gdX10_takeInner_12.2.2.2.2.2.2.1
theorem dX10_takeInner_23 : decode cX10_takeInner 23 = .ok (.invokevirtual 166, 3) := gdX10_takeInner_12.2.2.2.2.2.2.2
theorem k_X10_166 : xV RX10 RX10 166 yX10_takeEither cX10_takeEither 4 (some .boolean) 1 := ⟨⟨m_863, m_865, m_18, m_136, m_866⟩, rfl, by decide, by decide, by decide +kernel⟩
theorem gdX10_takeInner_26 : decode cX10_takeInner 26 = .ok (.ifCond .eq 16, 3) ∧ decode cX10_takeInner 29 = .ok (.aload_n 0, 1) ∧ decode cX10_takeInner 30 = .ok (.bipush 41, 2) ∧ decode cX10_takeInner 32 = .ok (.invokevirtual 128, 3) := by decide +kernel
theorem dX10_takeInner_26 : decode cX10_takeInner 26 = .ok (.ifCond .eq 16, 3) := gdX10_takeInner_26.1
theorem dX10_takeInner_29 : decode cX10_takeInner 29 = .ok (.aload_n 0, 1) := gdX10_takeInner_26.2.1
theorem dX10_takeInner_30 : decode cX10_takeInner 30 = .ok (.bipush 41, 2) := gdX10_takeInner_26.2.2.1
theorem dX10_takeInner_32 : decode cX10_takeInner 32 = .ok (.invokevirtual 128, 3) := gdX10_takeInner_26.2.2.2
theorem k_X10_128 : xV RX10 RX10 128 yX10_take cX10_take 2 (some .boolean) 1 := ⟨⟨m_839, m_841, m_12, m_136, m_842⟩, rfl, by decide, by decide, by decide +kernel⟩
theorem gdX10_takeInner_35 : decode cX10_takeInner 35 = .ok (.ifCond .eq 7, 3) ∧ decode cX10_takeInner 38 = .ok (.iconst 1, 1) ∧ decode cX10_takeInner 39 = .ok (.goto 4, 3) ∧ decode cX10_takeInner 43 = .ok (.ireturn, 1) ∧ decode cX10_takeInner 42 = .ok (.iconst 0, 1) := by decide +kernel
theorem dX10_takeInner_35 : decode cX10_takeInner 35 = .ok (.ifCond .eq 7, 3) := gdX10_takeInner_35.1
theorem dX10_takeInner_38 : decode cX10_takeInner 38 = .ok (.iconst 1, 1) := gdX10_takeInner_35.2.1
theorem dX10_takeInner_39 : decode cX10_takeInner 39 = .ok (.goto 4, 3) := gdX10_takeInner_35.2.2.1
theorem dX10_takeInner_43 : decode cX10_takeInner 43 = .ok (.ireturn, 1) := gdX10_takeInner_35.2.2.2.1
theorem dX10_takeInner_42 : decode cX10_takeInner 42 = .ok (.iconst 0, 1) := gdX10_takeInner_35.2.2.2.2
set_option maxHeartbeats 1000000 in
set_option maxRecDepth 100000 in
theorem s_takeInner6 (l : Launch) (D : va_G) (cy : Nat → ClassId) (adK : Nat → Nat) (adV : Nat → Nat) (d0 : Nat) (d1 : Nat) (wt : Int32) (dt : Int32) (vv : Int32) (fq : Int32) (pq : Int32) (t0 : Nat) (t1 : Nat) (t2 : Nat) (tn : Nat) (ta : Nat) (ts : Nat) (tk : Nat) (tm : Int64) (tr : Int32) (fby : Nat → Int32) (fky : Nat → Int64) (h0 : Nat) (h1 : Nat) (h2 : Nat) (h3 : Nat) (h4 : Nat) (h5 : Nat) (h6 : Nat) (h7 : Nat) (h8 : Nat) (h9 : Nat) (h10 : Nat) (h11 : Nat) (hv0 : Value) (hv1 : Value) (hv2 : Value) (hv3 : Value) (ow : Nat) (un : Nat) (f0 : Nat) (f1 : Nat) (f2 : Nat) (nf : Nat) (y3 : Value) (fco : Nat → Int32) (ga : Nat) (htn : tn ≤ 1600) (hta : ta ≤ tn) (htk : tk ≤ 123) (hti : tkC fby tn ga ta ts tk tm tr) (hky : kyOK fky) (hnf : nf ≤ 280) (hfc : cOK fco nf) (how : ow ≤ 30) (hun : un ≤ 60) (hga : ga ≤ tn) (h40 : tk = 40) : XMi l D (tyL cy) (EV adK adV) yX10_takeInner cX10_takeInner 2 (some .boolean) (rmk 13 0 0) [.ref d0, .int 6] [wO d0 10 [.ref t0, .ref d1, .ref h0, .ref f0, .int (nI ow), .int wt, .int dt, .int vv, .int fq, .int pq], wO t0 9 [.ref t1, .ref t2, .int (nI tn), .int (nI ta), .int (nI ts), .int (nI tk), .long tm, .int tr], wI (cy 0) t1 1600 (fby), (t2, .inl (cy 2, 24, .inr (.inl (fky)))), wO h0 4 [.ref h1, .ref h2, .ref h3, .ref h4, .ref h5, .ref h6, .ref h7, .ref h8, .ref h9, .ref h10, .ref h11, hv0, hv1, hv2, hv3, .int (nI un)], wO f0 3 [.ref f1, .ref f2, .int (nI nf), y3], wI (cy 1) f1 280 (fco)] (fun (r : Int32) (u : Nat × Nat × Nat × Int64 × Int32 × Int32 × Int32 × Nat × Nat × Nat × (Nat → Int32) × Nat) => (u.1 ≤ tn) ∧ (u.2.2.1 ≤ 123) ∧ (u.2.2.2.2.2.2.2.2.2.1 ≤ 280) ∧ (cOK u.2.2.2.2.2.2.2.2.2.2.1 u.2.2.2.2.2.2.2.2.2.1) ∧ (u.2.2.2.2.2.2.2.1 ≤ 30) ∧ (u.2.2.2.2.2.2.2.2.1 ≤ 60) ∧ ((r = 1 ∧ (∀ o9 u9 : Nat, ow = o9 + 1 → un = u9 + 1 → ¬ (u9 = 60 ∨ o9 = 30) → okS (knd fby tn) (fin fby tn) 7 6 ga o9 u9 u.2.2.2.2.2.2.2.2.2.2.2 u.2.2.2.2.2.2.2.1 u.2.2.2.2.2.2.2.2.1) ∧ (fq = u.2.2.2.2.2.1) ∧ (pq = u.2.2.2.2.2.2.1) ∧ (tkC fby tn u.2.2.2.2.2.2.2.2.2.2.2 u.1 u.2.1 u.2.2.1 u.2.2.2.1 u.2.2.2.2.1) ∧ (ga < u.2.2.2.2.2.2.2.2.2.2.2 ∧ u.2.2.2.2.2.2.2.2.2.2.2 ≤ tn)) ∨ (r = 0 ∧ (∀ o9 u9 : Nat, ow = o9 + 1 → un = u9 + 1 → ¬ (u9 = 60 ∨ o9 = 30) → noS (knd fby tn) (fin fby tn) 7 6 ga o9 u9 u.2.2.2.2.2.2.2.2.2.2.2) ∧ (flt fby tn u.2.2.2.2.2.2.2.2.2.2.2 2 u.2.2.2.2.2.1 u.2.2.2.2.2.2.1)))) (fun (u : Nat × Nat × Nat × Int64 × Int32 × Int32 × Int32 × Nat × Nat × Nat × (Nat → Int32) × Nat) => [wO d0 10 [.ref t0, .ref d1, .ref h0, .ref f0, .int (nI u.2.2.2.2.2.2.2.1), .int wt, .int dt, .int vv, .int u.2.2.2.2.2.1, .int u.2.2.2.2.2.2.1], wO t0 9 [.ref t1, .ref t2, .int (nI tn), .int (nI u.1), .int (nI u.2.1), .int (nI u.2.2.1), .long u.2.2.2.1, .int u.2.2.2.2.1], wI (cy 0) t1 1600 (fby), (t2, .inl (cy 2, 24, .inr (.inl (fky)))), wO h0 4 [.ref h1, .ref h2, .ref h3, .ref h4, .ref h5, .ref h6, .ref h7, .ref h8, .ref h9, .ref h10, .ref h11, hv0, hv1, hv2, hv3, .int (nI u.2.2.2.2.2.2.2.2.1)], wO f0 3 [.ref f1, .ref f2, .int (nI u.2.2.2.2.2.2.2.2.2.1), y3], wI (cy 1) f1 280 (u.2.2.2.2.2.2.2.2.2.2.1)]) := by
  refine XMi.start (by decide) (Nat.le_of_ble_eq_true rfl) ?_
  intro p e s m below meth c args A ls Q hat hQ
  obtain ⟨hx, hb, hr, hml, hown, hg, hlocks, hin, hK, hA, hP, hD, hS, hE, hl⟩ := hat
  have hown : s.vm.findClass RX10 = some m.cls := hown
  have hl : lv_has ls 2 [(0, .ref d0), (1, .int 6)] := hl
  have hk40 : knd fby tn ga = 40 := by have h9 := hti.2.2.1; omega
  refine lv_iload_n hx hb dX10_takeInner_0 rfl (lv_at hl 1 rfl) ?_
  refine lv_bipush (v := 7) hx hb dX10_takeInner_1 (by decide) ?_
  refine lv_icmp_lt (tgt := 12) hx hb dX10_takeInner_3 (by decide) (fun _ => ?_) (fun h => absurd (by decide) h)
  have hgt_1 : ga < fin fby tn ga ∧ fin fby tn ga ≤ tn := ⟨fin_gt (by have h9 := hti.2.2.1; omega), fin_le (by omega)⟩
  refine lv_aload_n hx hb dX10_takeInner_12 rfl (lv_at hl 0 rfl) ?_
  refine va_get (D := D) (ci := 10) (v := .ref t0) (C := RX10) (T := TX10) (N := 10) hx hb hg i_X10 hown hK hP 0 rfl rfl 0 (by decide) (hg _ m_255) (fun _ h9 => h9) rfl dX10_takeInner_13 ?_
  refine x_callVv (q := (RX9, TX9, 8)) (ci := 9) (q0 := 0) (wr := [wO d0 10 [.ref t0, .ref d1, .ref h0, .ref f0, .int (nI ow), .int wt, .int dt, .int vv, .int fq, .int pq], wO h0 4 [.ref h1, .ref h2, .ref h3, .ref h4, .ref h5, .ref h6, .ref h7, .ref h8, .ref h9, .ref h10, .ref h11, hv0, hv1, hv2, hv3, .int (nI un)], wO f0 3 [.ref f1, .ref f2, .int (nI nf), y3], wI (cy 1) f1 280 (fco)]) (rest := []) ⟨hx, hb, hml, hown, hg, hl.1⟩ k_X10_140 (s_next l D cy adK adV t0 t1 t2 tn ta ts tk tm tr fby fky (fin fby tn ga) (by omega) (by omega) (hti.2.1) (hky)) EV_blind hK hP hD hS hA [1, 2, 3] [0, 4, 5, 6] ⟨rfl, rfl, by decide +kernel, by decide +kernel, by decide +kernel⟩ rfl rfl (fun U hU hW => EV_pass hE hS (va_free hD hS hA [1, 2, 3] rfl) hU hW) dX10_takeInner_16 rfl rfl (Nat.le_of_ble_eq_true rfl) ⟨Nat.le_of_ble_eq_true rfl, Nat.le_of_ble_eq_true rfl⟩ ⟨Nat.le_of_ble_eq_true rfl, Nat.le_of_ble_eq_true rfl⟩ (fun zu2 H locs hw2 hP9 hD9 hS9 => ?_)
  clear hP hD hS
  obtain ⟨ta2_3, ts2_4, tk2_5, tm2_6, tr2_7⟩ := zu2
  refine reW [wO d0 10 [.ref t0, .ref d1, .ref h0, .ref f0, .int (nI ow), .int wt, .int dt, .int vv, .int fq, .int pq], wO h0 4 [.ref h1, .ref h2, .ref h3, .ref h4, .ref h5, .ref h6, .ref h7, .ref h8, .ref h9, .ref h10, .ref h11, hv0, hv1, hv2, hv3, .int (nI un)], wO f0 3 [.ref f1, .ref f2, .int (nI nf), y3], wI (cy 1) f1 280 (fco), wO t0 9 [.ref t1, .ref t2, .int (nI tn), .int (nI ta2_3), .int (nI ts2_4), .int (nI tk2_5), .long tm2_6, .int tr2_7], wI (cy 0) t1 1600 (fby), (t2, .inl (cy 2, 24, .inr (.inl (fky))))] hP9 hD9 hS9 (fun hP hD hS => ?_)
  clear hP9 hD9 hS9
  refine W.widen (k := 0) (n := 0) (Nat.le_of_ble_eq_true rfl) (Nat.le_of_ble_eq_true rfl) ?_
  replace hw2 : (ta2_3 ≤ tn) ∧ (tk2_5 ≤ 123) ∧ (tkC fby tn (fin fby tn ga) ta2_3 ts2_4 tk2_5 tm2_6 tr2_7) := hw2
  obtain ⟨f_8, f_9, f_10⟩ := hw2
  refine lv_aload_n hx hb dX10_takeInner_19 rfl (lv_at hl 0 rfl) ?_
  refine lv_iload_n hx hb dX10_takeInner_20 rfl (lv_at hl 1 rfl) ?_
  refine lv_iconst (v := 1) hx hb dX10_takeInner_21 (by decide) ?_
  refine lv_iadd hx hb dX10_takeInner_22 ?_
  refine lv_topi (fun y_11 hy_11 => ?_)
  obtain rfl : y_11 = 7 := hy_11.trans (by decide +kernel)
  refine x_callVi (q := (RX10, TX10, 10)) (ci := 10) (q0 := 0) (wr := []) (rest := []) ⟨hx, hb, hml, hown, hg, hl.1⟩ k_X10_166 (s_takeEither7 l D cy adK adV d0 d1 wt dt vv fq pq t0 t1 t2 tn ta2_3 ts2_4 tk2_5 tm2_6 tr2_7 fby fky h0 h1 h2 h3 h4 h5 h6 h7 h8 h9 h10 h11 hv0 hv1 hv2 hv3 ow un f0 f1 f2 nf y3 fco (fin fby tn ga) (by omega) (by omega) (by omega) (f_10) (hky) (by omega) (hfc) (by omega) (by omega) (by omega)) EV_blind hK hP hD hS hA [0, 4, 5, 6, 1, 2, 3] [] ⟨rfl, rfl, by decide +kernel, by decide +kernel, by decide +kernel⟩ rfl rfl (fun U hU hW => EV_pass hE hS (va_free hD hS hA [0, 4, 5, 6, 1, 2, 3] rfl) hU hW) dX10_takeInner_23 rfl rfl (Nat.le_of_ble_eq_true rfl) ⟨Nat.le_of_ble_eq_true rfl, Nat.le_of_ble_eq_true rfl⟩ ⟨Nat.le_of_ble_eq_true rfl, Nat.le_of_ble_eq_true rfl⟩ (fun zr12 zu12 H locs hw12 hP9 hD9 hS9 => ?_)
  clear hP hD hS
  obtain ⟨ta2_13, ts2_14, tk2_15, tm2_16, tr2_17, fq2_18, pq2_19, ow2_20, un2_21, nf2_22, fco2_23, ga2_24⟩ := zu12
  refine reW [wO d0 10 [.ref t0, .ref d1, .ref h0, .ref f0, .int (nI ow2_20), .int wt, .int dt, .int vv, .int fq2_18, .int pq2_19], wO t0 9 [.ref t1, .ref t2, .int (nI tn), .int (nI ta2_13), .int (nI ts2_14), .int (nI tk2_15), .long tm2_16, .int tr2_17], wI (cy 0) t1 1600 (fby), (t2, .inl (cy 2, 24, .inr (.inl (fky)))), wO h0 4 [.ref h1, .ref h2, .ref h3, .ref h4, .ref h5, .ref h6, .ref h7, .ref h8, .ref h9, .ref h10, .ref h11, hv0, hv1, hv2, hv3, .int (nI un2_21)], wO f0 3 [.ref f1, .ref f2, .int (nI nf2_22), y3], wI (cy 1) f1 280 (fco2_23)] hP9 hD9 hS9 (fun hP hD hS => ?_)
  clear hP9 hD9 hS9
  refine W.widen (k := 0) (n := 0) (Nat.le_of_ble_eq_true rfl) (Nat.le_of_ble_eq_true rfl) ?_
  replace hw12 : (ta2_13 ≤ tn) ∧ (tk2_15 ≤ 123) ∧ (nf2_22 ≤ 280) ∧ (cOK fco2_23 nf2_22) ∧ (ow2_20 ≤ 30) ∧ (un2_21 ≤ 60) ∧ ((zr12 = 1 ∧ (okS (knd fby tn) (fin fby tn) 1 7 (fin fby tn ga) ow un ga2_24 ow2_20 un2_21) ∧ (fq = fq2_18) ∧ (pq = pq2_19) ∧ (tkC fby tn ga2_24 ta2_13 ts2_14 tk2_15 tm2_16 tr2_17) ∧ ((fin fby tn ga) < ga2_24 ∧ ga2_24 ≤ tn)) ∨ (zr12 = 0 ∧ (noS (knd fby tn) (fin fby tn) 1 7 (fin fby tn ga) ow un ga2_24) ∧ (flt fby tn ga2_24 2 fq2_18 pq2_19))) := hw12
  obtain ⟨f_25, f_26, f_27, f_28, f_29, f_30, f_31⟩ := hw12
  rcases f_31 with ⟨hz_37, a_32, a_33, a_34, a_35, a_36⟩ | ⟨hz_40, a_38, a_39⟩
  · subst hz_37
    subst a_33
    subst a_34
    have hg_a_36 := a_36
    refine lv_if_eq (tgt := 42) hx hb dX10_takeInner_26 (by decide) (fun h => absurd h (by decide)) (fun _ => ?_)
    refine lv_aload_n hx hb dX10_takeInner_29 rfl (lv_at hl 0 rfl) ?_
    refine lv_bipush (v := 41) hx hb dX10_takeInner_30 (by decide) ?_
    refine x_callVi (q := (RX10, TX10, 10)) (ci := 10) (q0 := 0) (wr := [wO h0 4 [.ref h1, .ref h2, .ref h3, .ref h4, .ref h5, .ref h6, .ref h7, .ref h8, .ref h9, .ref h10, .ref h11, hv0, hv1, hv2, hv3, .int (nI un2_21)], wO f0 3 [.ref f1, .ref f2, .int (nI nf2_22), y3], wI (cy 1) f1 280 (fco2_23)]) (rest := []) ⟨hx, hb, hml, hown, hg, hl.1⟩ k_X10_128 (s_take l D cy adK adV d0 d1 (nI ow2_20) wt dt vv fq pq ((.ref h0)) ((.ref f0)) t0 t1 t2 tn ta2_13 ts2_14 tk2_15 tm2_16 tr2_17 fby fky ga2_24 41 (by omega) (by omega) (by omega) (a_35) (hky) (by omega)) EV_blind hK hP hD hS hA [0, 1, 2, 3] [4, 5, 6] ⟨rfl, rfl, by decide +kernel, by decide +kernel, by decide +kernel⟩ rfl rfl (fun U hU hW => EV_pass hE hS (va_free hD hS hA [0, 1, 2, 3] rfl) hU hW) dX10_takeInner_32 rfl rfl (Nat.le_of_ble_eq_true rfl) ⟨Nat.le_of_ble_eq_true rfl, Nat.le_of_ble_eq_true rfl⟩ ⟨Nat.le_of_ble_eq_true rfl, Nat.le_of_ble_eq_true rfl⟩ (fun zr41 zu41 H locs hw41 hP9 hD9 hS9 => ?_)
    clear hP hD hS
    obtain ⟨ta2_42, ts2_43, tk2_44, tm2_45, tr2_46, fq2_47, pq2_48, co9_49, b9_50⟩ := zu41
    refine reW [wO h0 4 [.ref h1, .ref h2, .ref h3, .ref h4, .ref h5, .ref h6, .ref h7, .ref h8, .ref h9, .ref h10, .ref h11, hv0, hv1, hv2, hv3, .int (nI un2_21)], wO f0 3 [.ref f1, .ref f2, .int (nI nf2_22), y3], wI (cy 1) f1 280 (fco2_23), wO d0 10 [.ref t0, .ref d1, .ref h0, .ref f0, .int (nI ow2_20), .int wt, .int dt, .int vv, .int fq2_47, .int pq2_48], wO t0 9 [.ref t1, .ref t2, .int (nI tn), .int (nI ta2_42), .int (nI ts2_43), .int (nI tk2_44), .long tm2_45, .int tr2_46], wI (cy 0) t1 1600 (fby), (t2, .inl (cy 2, 24, .inr (.inl (fky))))] hP9 hD9 hS9 (fun hP hD hS => ?_)
    clear hP9 hD9 hS9
    refine W.widen (k := 0) (n := 0) (Nat.le_of_ble_eq_true rfl) (Nat.le_of_ble_eq_true rfl) ?_
    replace hw41 : (ta2_42 ≤ tn) ∧ (tk2_44 ≤ 123) ∧ ((zr41 = 1 ∧ (takS fby tn 41 ga2_24 = .inr (fin fby tn ga2_24)) ∧ (fq = fq2_47) ∧ (pq = pq2_48) ∧ (tkC fby tn (fin fby tn ga2_24) ta2_42 ts2_43 tk2_44 tm2_45 tr2_46) ∧ (knd fby tn ga2_24 = 41)) ∨ (zr41 = 0 ∧ (takS fby tn 41 ga2_24 = .inl (co9_49, b9_50)) ∧ (flt fby tn b9_50 co9_49 fq2_47 pq2_48) ∧ (¬ knd fby tn ga2_24 = 41))) := hw41
    obtain ⟨f_51, f_52, f_53⟩ := hw41
    rcases f_53 with ⟨hz_59, a_54, a_55, a_56, a_57, a_58⟩ | ⟨hz_63, a_60, a_61, a_62⟩
    · subst hz_59
      subst a_55
      subst a_56
      have hgt_64 : ga2_24 < fin fby tn ga2_24 ∧ fin fby tn ga2_24 ≤ tn := ⟨fin_gt (by rw [a_58]; decide), fin_le (by omega)⟩
      refine lv_if_eq (tgt := 42) hx hb dX10_takeInner_35 (by decide) (fun h => absurd h (by decide)) (fun _ => ?_)
      refine lv_iconst (v := 1) hx hb dX10_takeInner_38 (by decide) ?_
      refine lv_goto (tgt := 43) hx hb dX10_takeInner_39 (by decide) ?_
      exact x_zret hQ hx hb hr hlocks hK hP hD hS rfl dX10_takeInner_43 (ta2_42, ts2_43, tk2_44, tm2_45, tr2_46, fq, pq, ow2_20, un2_21, nf2_22, fco2_23, fin fby tn ga2_24) (⟨(show ta2_42 ≤ tn from by omega), (show tk2_44 ≤ 123 from by omega), (show nf2_22 ≤ 280 from by omega), f_28, (show ow2_20 ≤ 30 from by omega), (show un2_21 ≤ 60 from by omega), (show ((1 : Int32) = 1 ∧ (∀ o9 u9 : Nat, ow = o9 + 1 → un = u9 + 1 → ¬ (u9 = 60 ∨ o9 = 30) → okS (knd fby tn) (fin fby tn) 7 6 ga o9 u9 (fin fby tn ga2_24) ow2_20 un2_21) ∧ (fq = fq) ∧ (pq = pq) ∧ (tkC fby tn (fin fby tn ga2_24) ta2_42 ts2_43 tk2_44 tm2_45 tr2_46) ∧ (ga < (fin fby tn ga2_24) ∧ (fin fby tn ga2_24) ≤ tn)) ∨ ((1 : Int32) = 0 ∧ (∀ o9 u9 : Nat, ow = o9 + 1 → un = u9 + 1 → ¬ (u9 = 60 ∨ o9 = 30) → noS (knd fby tn) (fin fby tn) 7 6 ga o9 u9 (fin fby tn ga2_24)) ∧ (flt fby tn (fin fby tn ga2_24) 2 fq pq)) from Or.inl ⟨rfl, (fun o9 u9 e1 e2 hf9 => by subst e1 e2; exact unit_in hk40 hf9 (by decide) a_32 a_58), (rfl), (rfl), (a_57), (⟨by omega, by omega⟩)⟩)⟩) [3, 4, 5, 6, 0, 1, 2] (by decide +kernel) rfl (Nat.le_of_ble_eq_true rfl) (Nat.le_of_ble_eq_true rfl)
    · subst hz_63
      refine lv_if_eq (tgt := 42) hx hb dX10_takeInner_35 (by decide) (fun _ => ?_) (fun h => absurd (by decide) h)
      refine lv_iconst (v := 0) hx hb dX10_takeInner_42 (by decide) ?_
      exact x_zret hQ hx hb hr hlocks hK hP hD hS rfl dX10_takeInner_43 (ta2_42, ts2_43, tk2_44, tm2_45, tr2_46, fq2_47, pq2_48, ow2_20, un2_21, nf2_22, fco2_23, ga2_24) (⟨(show ta2_42 ≤ tn from by omega), (show tk2_44 ≤ 123 from by omega), (show nf2_22 ≤ 280 from by omega), f_28, (show ow2_20 ≤ 30 from by omega), (show un2_21 ≤ 60 from by omega), (show ((0 : Int32) = 1 ∧ (∀ o9 u9 : Nat, ow = o9 + 1 → un = u9 + 1 → ¬ (u9 = 60 ∨ o9 = 30) → okS (knd fby tn) (fin fby tn) 7 6 ga o9 u9 ga2_24 ow2_20 un2_21) ∧ (fq = fq2_47) ∧ (pq = pq2_48) ∧ (tkC fby tn ga2_24 ta2_42 ts2_43 tk2_44 tm2_45 tr2_46) ∧ (ga < ga2_24 ∧ ga2_24 ≤ tn)) ∨ ((0 : Int32) = 0 ∧ (∀ o9 u9 : Nat, ow = o9 + 1 → un = u9 + 1 → ¬ (u9 = 60 ∨ o9 = 30) → noS (knd fby tn) (fin fby tn) 7 6 ga o9 u9 ga2_24) ∧ (flt fby tn ga2_24 2 fq2_47 pq2_48)) from Or.inr (⟨rfl, (fun o9 u9 e1 e2 hf9 => by subst e1 e2; exact unit_inB hk40 hf9 (by decide) a_32 a_62), (takS_f a_60 a_61)⟩))⟩) [3, 4, 5, 6, 0, 1, 2] (by decide +kernel) rfl (Nat.le_of_ble_eq_true rfl) (Nat.le_of_ble_eq_true rfl)
  · subst hz_40
    refine lv_if_eq (tgt := 42) hx hb dX10_takeInner_26 (by decide) (fun _ => ?_) (fun h => absurd (by decide) h)
    refine lv_iconst (v := 0) hx hb dX10_takeInner_42 (by decide) ?_
    exact x_zret hQ hx hb hr hlocks hK hP hD hS rfl dX10_takeInner_43 (ta2_13, ts2_14, tk2_15, tm2_16, tr2_17, fq2_18, pq2_19, ow2_20, un2_21, nf2_22, fco2_23, ga2_24) (⟨(show ta2_13 ≤ tn from by omega), (show tk2_15 ≤ 123 from by omega), (show nf2_22 ≤ 280 from by omega), f_28, (show ow2_20 ≤ 30 from by omega), (show un2_21 ≤ 60 from by omega), (show ((0 : Int32) = 1 ∧ (∀ o9 u9 : Nat, ow = o9 + 1 → un = u9 + 1 → ¬ (u9 = 60 ∨ o9 = 30) → okS (knd fby tn) (fin fby tn) 7 6 ga o9 u9 ga2_24 ow2_20 un2_21) ∧ (fq = fq2_18) ∧ (pq = pq2_19) ∧ (tkC fby tn ga2_24 ta2_13 ts2_14 tk2_15 tm2_16 tr2_17) ∧ (ga < ga2_24 ∧ ga2_24 ≤ tn)) ∨ ((0 : Int32) = 0 ∧ (∀ o9 u9 : Nat, ow = o9 + 1 → un = u9 + 1 → ¬ (u9 = 60 ∨ o9 = 30) → noS (knd fby tn) (fin fby tn) 7 6 ga o9 u9 ga2_24) ∧ (flt fby tn ga2_24 2 fq2_18 pq2_19)) from Or.inr (⟨rfl, (fun o9 u9 e1 e2 hf9 => by subst e1 e2; exact unit_inN hk40 hf9 (by decide) a_38), (a_39)⟩))⟩) [0, 1, 2, 3, 4, 5, 6] (by decide +kernel) rfl (Nat.le_of_ble_eq_true rfl) (Nat.le_of_ble_eq_true rfl)
set_option maxHeartbeats 1000000 in
set_option maxRecDepth 100000 in
theorem s_takeUnit6 (l : Launch) (D : va_G) (cy : Nat → ClassId) (adK : Nat → Nat) (adV : Nat → Nat) (d0 : Nat) (d1 : Nat) (wt : Int32) (dt : Int32) (vv : Int32) (fq : Int32) (pq : Int32) (t0 : Nat) (t1 : Nat) (t2 : Nat) (tn : Nat) (ta : Nat) (ts : Nat) (tk : Nat) (tm : Int64) (tr : Int32) (fby : Nat → Int32) (fky : Nat → Int64) (h0 : Nat) (h1 : Nat) (h2 : Nat) (h3 : Nat) (h4 : Nat) (h5 : Nat) (h6 : Nat) (h7 : Nat) (h8 : Nat) (h9 : Nat) (h10 : Nat) (h11 : Nat) (hv0 : Value) (hv1 : Value) (hv2 : Value) (hv3 : Value) (ow : Nat) (un : Nat) (f0 : Nat) (f1 : Nat) (f2 : Nat) (nf : Nat) (y3 : Value) (fco : Nat → Int32) (ga : Nat) (htn : tn ≤ 1600) (hta : ta ≤ tn) (htk : tk ≤ 123) (hti : tkC fby tn ga ta ts tk tm tr) (hky : kyOK fky) (hnf : nf ≤ 280) (hfc : cOK fco nf) (how : ow ≤ 30) (hun : un ≤ 60) (hga : ga ≤ tn) : XMi l D (tyL cy) (EV adK adV) yX10_takeUnit cX10_takeUnit 3 (some .boolean) (rmk 14 0 0) [.ref d0, .int 6] [wO d0 10 [.ref t0, .ref d1, .ref h0, .ref f0, .int (nI ow), .int wt, .int dt, .int vv, .int fq, .int pq], wO t0 9 [.ref t1, .ref t2, .int (nI tn), .int (nI ta), .int (nI ts), .int (nI tk), .long tm, .int tr], wI (cy 0) t1 1600 (fby), (t2, .inl (cy 2, 24, .inr (.inl (fky)))), wO h0 4 [.ref h1, .ref h2, .ref h3, .ref h4, .ref h5, .ref h6, .ref h7, .ref h8, .ref h9, .ref h10, .ref h11, hv0, hv1, hv2, hv3, .int (nI un)], wO f0 3 [.ref f1, .ref f2, .int (nI nf), y3], wI (cy 1) f1 280 (fco)] (fun (r : Int32) (u : Nat × Nat × Nat × Int64 × Int32 × Int32 × Int32 × Nat × Nat × Nat × (Nat → Int32) × Nat) => (u.1 ≤ tn) ∧ (u.2.2.1 ≤ 123) ∧ (u.2.2.2.2.2.2.2.2.2.1 ≤ 280) ∧ (cOK u.2.2.2.2.2.2.2.2.2.2.1 u.2.2.2.2.2.2.2.2.2.1) ∧ (u.2.2.2.2.2.2.2.1 ≤ 30) ∧ (u.2.2.2.2.2.2.2.2.1 ≤ 60) ∧ ((r = 1 ∧ (okS (knd fby tn) (fin fby tn) 7 6 ga ow un u.2.2.2.2.2.2.2.2.2.2.2 u.2.2.2.2.2.2.2.1 u.2.2.2.2.2.2.2.2.1) ∧ (fq = u.2.2.2.2.2.1) ∧ (pq = u.2.2.2.2.2.2.1) ∧ (tkC fby tn u.2.2.2.2.2.2.2.2.2.2.2 u.1 u.2.1 u.2.2.1 u.2.2.2.1 u.2.2.2.2.1) ∧ (ga < u.2.2.2.2.2.2.2.2.2.2.2 ∧ u.2.2.2.2.2.2.2.2.2.2.2 ≤ tn)) ∨ (r = 0 ∧ (noS (knd fby tn) (fin fby tn) 7 6 ga ow un u.2.2.2.2.2.2.2.2.2.2.2) ∧ (flt fby tn u.2.2.2.2.2.2.2.2.2.2.2 2 u.2.2.2.2.2.1 u.2.2.2.2.2.2.1)))) (fun (u : Nat × Nat × Nat × Int64 × Int32 × Int32 × Int32 × Nat × Nat × Nat × (Nat → Int32) × Nat) => [wO d0 10 [.ref t0, .ref d1, .ref h0, .ref f0, .int (nI u.2.2.2.2.2.2.2.1), .int wt, .int dt, .int vv, .int u.2.2.2.2.2.1, .int u.2.2.2.2.2.2.1], wO t0 9 [.ref t1, .ref t2, .int (nI tn), .int (nI u.1), .int (nI u.2.1), .int (nI u.2.2.1), .long u.2.2.2.1, .int u.2.2.2.2.1], wI (cy 0) t1 1600 (fby), (t2, .inl (cy 2, 24, .inr (.inl (fky)))), wO h0 4 [.ref h1, .ref h2, .ref h3, .ref h4, .ref h5, .ref h6, .ref h7, .ref h8, .ref h9, .ref h10, .ref h11, hv0, hv1, hv2, hv3, .int (nI u.2.2.2.2.2.2.2.2.1)], wO f0 3 [.ref f1, .ref f2, .int (nI u.2.2.2.2.2.2.2.2.2.1), y3], wI (cy 1) f1 280 (u.2.2.2.2.2.2.2.2.2.2.1)]) := by
  refine XMi.start (by decide) (Nat.le_of_ble_eq_true rfl) ?_
  intro p e s m below meth c args A ls Q hat hQ
  obtain ⟨hx, hb, hr, hml, hown, hg, hlocks, hin, hK, hA, hP, hD, hS, hE, hl⟩ := hat
  have hown : s.vm.findClass RX10 = some m.cls := hown
  have hl : lv_has ls 3 [(0, .ref d0), (1, .int 6)] := hl
  refine lv_aload_n hx hb dX10_takeUnit_0 rfl (lv_at hl 0 rfl) ?_
  refine va_get (D := D) (ci := 10) (v := .int (nI ow)) (C := RX10) (T := TX10) (N := 10) hx hb hg i_X10 hown hK hP 0 rfl rfl 4 (by decide) (hg _ m_259) (fun _ h9 => h9) rfl dX10_takeUnit_1 ?_
  refine lv_bipush (v := 30) hx hb dX10_takeUnit_4 (by decide) ?_
  refine lv_icmp_ge (tgt := 21) hx hb dX10_takeUnit_6 (by decide) (fun c_1 => ?_) (fun c_1 => ?_)
  · have q_2 : 30 ≤ ow := q_le (a := 30) (b := ow) rfl rfl (by omega) (by omega) c_1
    refine lv_aload_n hx hb dX10_takeUnit_21 rfl (lv_at hl 0 rfl) ?_
    refine lv_iconst (v := 2) hx hb dX10_takeUnit_22 (by decide) ?_
    refine x_callVi (q := (RX10, TX10, 10)) (ci := 10) (q0 := 0) (wr := [wI (cy 0) t1 1600 (fby), (t2, .inl (cy 2, 24, .inr (.inl (fky)))), wO h0 4 [.ref h1, .ref h2, .ref h3, .ref h4, .ref h5, .ref h6, .ref h7, .ref h8, .ref h9, .ref h10, .ref h11, hv0, hv1, hv2, hv3, .int (nI un)], wO f0 3 [.ref f1, .ref f2, .int (nI nf), y3], wI (cy 1) f1 280 (fco)]) (rest := []) ⟨hx, hb, hml, hown, hg, hl.1⟩ k_X10_110 (s_fail l D cy d0 d1 (nI ow) wt dt vv fq pq ((.ref h0)) ((.ref f0)) t0 t1 t2 tn ta ts tk tm tr 2 (by omega)) E0_blind hK hP hD hS hA [0, 1] [2, 3, 4, 5, 6] ⟨rfl, rfl, by decide +kernel, by decide +kernel, by decide +kernel⟩ rfl rfl (fun _ _ _ => trivial) dX10_takeUnit_23 rfl rfl (Nat.le_of_ble_eq_true rfl) ⟨Nat.le_of_ble_eq_true rfl, Nat.le_of_ble_eq_true rfl⟩ ⟨Nat.le_of_ble_eq_true rfl, Nat.le_of_ble_eq_true rfl⟩ (fun zr3 zu3 H locs hw3 hP9 hD9 hS9 => ?_)
    clear hP hD hS
    obtain ⟨fq2_4, pq2_5⟩ := zu3
    refine reW [wI (cy 0) t1 1600 (fby), (t2, .inl (cy 2, 24, .inr (.inl (fky)))), wO h0 4 [.ref h1, .ref h2, .ref h3, .ref h4, .ref h5, .ref h6, .ref h7, .ref h8, .ref h9, .ref h10, .ref h11, hv0, hv1, hv2, hv3, .int (nI un)], wO f0 3 [.ref f1, .ref f2, .int (nI nf), y3], wI (cy 1) f1 280 (fco), wO d0 10 [.ref t0, .ref d1, .ref h0, .ref f0, .int (nI ow), .int wt, .int dt, .int vv, .int fq2_4, .int pq2_5], wO t0 9 [.ref t1, .ref t2, .int (nI tn), .int (nI ta), .int (nI ts), .int (nI tk), .long tm, .int tr]] hP9 hD9 hS9 (fun hP hD hS => ?_)
    clear hP9 hD9 hS9
    refine W.widen (k := 0) (n := 0) (Nat.le_of_ble_eq_true rfl) (Nat.le_of_ble_eq_true rfl) ?_
    replace hw3 : ((zr3 = 0 ∧ (fq2_4 = nI (if tk = 3 then 1 else 2)) ∧ (pq2_5 = nI ts))) := hw3
    have f_6 := hw3
    rcases f_6 with ⟨hz_9, a_7, a_8⟩
    subst hz_9
    exact x_zret hQ hx hb hr hlocks hK hP hD hS rfl dX10_takeUnit_26 (ta, ts, tk, tm, tr, fq2_4, pq2_5, ow, un, nf, fco, ga) (⟨(show ta ≤ tn from by omega), (show tk ≤ 123 from by omega), (show nf ≤ 280 from by omega), hfc, (show ow ≤ 30 from by omega), (show un ≤ 60 from by omega), (show ((0 : Int32) = 1 ∧ (okS (knd fby tn) (fin fby tn) 7 6 ga ow un ga ow un) ∧ (fq = fq2_4) ∧ (pq = pq2_5) ∧ (tkC fby tn ga ta ts tk tm tr) ∧ (ga < ga ∧ ga ≤ tn)) ∨ ((0 : Int32) = 0 ∧ (noS (knd fby tn) (fin fby tn) 7 6 ga ow un ga) ∧ (flt fby tn ga 2 fq2_4 pq2_5)) from Or.inr (⟨rfl, (unit_full (by omega)), (flt_of hti a_7 a_8)⟩))⟩) [5, 6, 0, 1, 2, 3, 4] (by decide +kernel) rfl (Nat.le_of_ble_eq_true rfl) (Nat.le_of_ble_eq_true rfl)
  · have q_2 : ow < 30 := q_nle (a := 30) (b := ow) rfl rfl (by omega) (by omega) c_1
    refine lv_aload_n hx hb dX10_takeUnit_9 rfl (lv_at hl 0 rfl) ?_
    refine va_get (D := D) (ci := 10) (v := .ref h0) (C := RX10) (T := TX10) (N := 10) hx hb hg i_X10 hown hK hP 0 rfl rfl 2 (by decide) (hg _ m_257) (fun _ h9 => h9) rfl dX10_takeUnit_10 ?_
    refine va_get (D := D) (ci := 4) (v := .int (nI un)) (C := RX4) (T := TX4) (N := 16) hx hb hg i_X4 hown hK hP 4 rfl rfl 15 (by decide) (hg _ m_382) (fun _ h9 => h9) rfl dX10_takeUnit_13 ?_
    refine lv_bipush (v := 60) hx hb dX10_takeUnit_16 (by decide) ?_
    refine lv_icmp_lt (tgt := 27) hx hb dX10_takeUnit_18 (by decide) (fun c_10 => ?_) (fun c_10 => ?_)
    · have q_11 : un < 60 := q_lt (a := un) (b := 60) rfl rfl (by omega) (by omega) c_10
      refine lv_aload_n hx hb dX10_takeUnit_27 rfl (lv_at hl 0 rfl) ?_
      refine lv_dup hx hb dX10_takeUnit_28 rfl ?_
      refine va_get (D := D) (ci := 10) (v := .int (nI ow)) (C := RX10) (T := TX10) (N := 10) hx hb hg i_X10 hown hK hP 0 rfl rfl 4 (by decide) (hg _ m_259) (fun _ h9 => h9) rfl dX10_takeUnit_29 ?_
      refine lv_iconst (v := 1) hx hb dX10_takeUnit_32 (by decide) ?_
      refine lv_iadd hx hb dX10_takeUnit_33 ?_
      refine lv_topi (fun y_12 hy_12 => ?_)
      obtain rfl : y_12 = nI (ow + 1) := hy_12.trans (nI_add ow 1)
      refine va_put (D := D) (ci := 10) (v := .int (nI (ow + 1))) (ty := .int) (C := RX10) (T := TX10) (N := 10) hx hb hg i_X10 tyX10 tyX10_ok nmX10 hown hK hP hD hS 0 rfl rfl 4 (by decide) (hg _ m_259) (fun _ h9 => h9) rfl (by decide +kernel) rfl rfl (Nat.le_of_ble_eq_true rfl) dX10_takeUnit_34 (fun H locs hP9 hD9 hS9 => ?_)
      clear hP hD hS
      refine reW [wO d0 10 [.ref t0, .ref d1, .ref h0, .ref f0, .int (nI (ow + 1)), .int wt, .int dt, .int vv, .int fq, .int pq], wO t0 9 [.ref t1, .ref t2, .int (nI tn), .int (nI ta), .int (nI ts), .int (nI tk), .long tm, .int tr], wI (cy 0) t1 1600 (fby), (t2, .inl (cy 2, 24, .inr (.inl (fky)))), wO h0 4 [.ref h1, .ref h2, .ref h3, .ref h4, .ref h5, .ref h6, .ref h7, .ref h8, .ref h9, .ref h10, .ref h11, hv0, hv1, hv2, hv3, .int (nI un)], wO f0 3 [.ref f1, .ref f2, .int (nI nf), y3], wI (cy 1) f1 280 (fco)] hP9 hD9 hS9 (fun hP hD hS => ?_)
      clear hP9 hD9 hS9
      refine lv_aload_n hx hb dX10_takeUnit_37 rfl (lv_at hl 0 rfl) ?_
      refine va_get (D := D) (ci := 10) (v := .ref h0) (C := RX10) (T := TX10) (N := 10) hx hb hg i_X10 hown hK hP 0 rfl rfl 2 (by decide) (hg _ m_257) (fun _ h9 => h9) rfl dX10_takeUnit_38 ?_
      refine lv_dup hx hb dX10_takeUnit_41 rfl ?_
      refine va_get (D := D) (ci := 4) (v := .int (nI un)) (C := RX4) (T := TX4) (N := 16) hx hb hg i_X4 hown hK hP 4 rfl rfl 15 (by decide) (hg _ m_382) (fun _ h9 => h9) rfl dX10_takeUnit_42 ?_
      refine lv_iconst (v := 1) hx hb dX10_takeUnit_45 (by decide) ?_
      refine lv_iadd hx hb dX10_takeUnit_46 ?_
      refine lv_topi (fun y_13 hy_13 => ?_)
      obtain rfl : y_13 = nI (un + 1) := hy_13.trans (nI_add un 1)
      refine va_put (D := D) (ci := 4) (v := .int (nI (un + 1))) (ty := .int) (C := RX4) (T := TX4) (N := 16) hx hb hg i_X4 tyX4 tyX4_ok nmX4 hown hK hP hD hS 4 rfl rfl 15 (by decide) (hg _ m_382) (fun _ h9 => h9) rfl (by decide +kernel) rfl rfl (Nat.le_of_ble_eq_true rfl) dX10_takeUnit_47 (fun H locs hP9 hD9 hS9 => ?_)
      clear hP hD hS
      refine reW [wO d0 10 [.ref t0, .ref d1, .ref h0, .ref f0, .int (nI (ow + 1)), .int wt, .int dt, .int vv, .int fq, .int pq], wO t0 9 [.ref t1, .ref t2, .int (nI tn), .int (nI ta), .int (nI ts), .int (nI tk), .long tm, .int tr], wI (cy 0) t1 1600 (fby), (t2, .inl (cy 2, 24, .inr (.inl (fky)))), wO h0 4 [.ref h1, .ref h2, .ref h3, .ref h4, .ref h5, .ref h6, .ref h7, .ref h8, .ref h9, .ref h10, .ref h11, hv0, hv1, hv2, hv3, .int (nI (un + 1))], wO f0 3 [.ref f1, .ref f2, .int (nI nf), y3], wI (cy 1) f1 280 (fco)] hP9 hD9 hS9 (fun hP hD hS => ?_)
      clear hP9 hD9 hS9
      refine lv_aload_n hx hb dX10_takeUnit_50 rfl (lv_at hl 0 rfl) ?_
      refine va_get (D := D) (ci := 10) (v := .ref t0) (C := RX10) (T := TX10) (N := 10) hx hb hg i_X10 hown hK hP 0 rfl rfl 0 (by decide) (hg _ m_255) (fun _ h9 => h9) rfl dX10_takeUnit_51 ?_
      refine va_get (D := D) (ci := 9) (v := .int (nI tk)) (C := RX9) (T := TX9) (N := 8) hx hb hg i_X9 hown hK hP 1 rfl rfl 5 (by decide) (hg _ m_222) (fun _ h9 => h9) rfl dX10_takeUnit_54 ?_
      refine lv_bipush (v := 40) hx hb dX10_takeUnit_57 (by decide) ?_
      refine lv_icmp_ne (tgt := 68) hx hb dX10_takeUnit_59 (by decide) (fun c_14 => ?_) (fun c_14 => ?_)
      · have q_15 : ¬ tk = 40 := q_ne (a := tk) (b := 40) rfl rfl (by omega) (by omega) c_14
        refine lv_aload_n hx hb dX10_takeUnit_68 rfl (lv_at hl 0 rfl) ?_
        refine va_get (D := D) (ci := 10) (v := .ref t0) (C := RX10) (T := TX10) (N := 10) hx hb hg i_X10 hown hK hP 0 rfl rfl 0 (by decide) (hg _ m_255) (fun _ h9 => h9) rfl dX10_takeUnit_69 ?_
        refine va_get (D := D) (ci := 9) (v := .int (nI tk)) (C := RX9) (T := TX9) (N := 8) hx hb hg i_X9 hown hK hP 1 rfl rfl 5 (by decide) (hg _ m_222) (fun _ h9 => h9) rfl dX10_takeUnit_72 ?_
        refine x_callSi (wr := [wO d0 10 [.ref t0, .ref d1, .ref h0, .ref f0, .int (nI (ow + 1)), .int wt, .int dt, .int vv, .int fq, .int pq], wO t0 9 [.ref t1, .ref t2, .int (nI tn), .int (nI ta), .int (nI ts), .int (nI tk), .long tm, .int tr], wI (cy 0) t1 1600 (fby), (t2, .inl (cy 2, 24, .inr (.inl (fky)))), wO h0 4 [.ref h1, .ref h2, .ref h3, .ref h4, .ref h5, .ref h6, .ref h7, .ref h8, .ref h9, .ref h10, .ref h11, hv0, hv1, hv2, hv3, .int (nI (un + 1))], wO f0 3 [.ref f1, .ref f2, .int (nI nf), y3], wI (cy 1) f1 280 (fco)]) (rest := []) ⟨hx, hb, hml, hown, hg, hl.1⟩ k_X10_210 (s_factOf l D cy tk (by omega)) E0_blind hK hP hD hS hA [] [0, 1, 2, 3, 4, 5, 6] ⟨rfl, rfl, by decide +kernel, by decide +kernel, by decide +kernel⟩ (fun _ _ _ => trivial) dX10_takeUnit_75 rfl rfl (Nat.le_of_ble_eq_true rfl) ⟨Nat.le_of_ble_eq_true rfl, Nat.le_of_ble_eq_true rfl⟩ ⟨Nat.le_of_ble_eq_true rfl, Nat.le_of_ble_eq_true rfl⟩ (fun zr16 zu16 H locs hw16 hP9 hD9 hS9 => ?_)
        clear hP hD hS
        obtain ⟨jr_17, rfl⟩ : ∃ z, z = zu16 := ⟨_, rfl⟩
        refine reW [wO d0 10 [.ref t0, .ref d1, .ref h0, .ref f0, .int (nI (ow + 1)), .int wt, .int dt, .int vv, .int fq, .int pq], wO t0 9 [.ref t1, .ref t2, .int (nI tn), .int (nI ta), .int (nI ts), .int (nI tk), .long tm, .int tr], wI (cy 0) t1 1600 (fby), (t2, .inl (cy 2, 24, .inr (.inl (fky)))), wO h0 4 [.ref h1, .ref h2, .ref h3, .ref h4, .ref h5, .ref h6, .ref h7, .ref h8, .ref h9, .ref h10, .ref h11, hv0, hv1, hv2, hv3, .int (nI (un + 1))], wO f0 3 [.ref f1, .ref f2, .int (nI nf), y3], wI (cy 1) f1 280 (fco)] hP9 hD9 hS9 (fun hP hD hS => ?_)
        clear hP9 hD9 hS9
        refine W.widen (k := 0) (n := 0) (Nat.le_of_ble_eq_true rfl) (Nat.le_of_ble_eq_true rfl) ?_
        replace hw16 : ((zr16 = nI jr_17 ∧ (jr_17 ≤ 6) ∧ (117 ≤ tk)) ∨ (zr16 = -1 ∧ (¬ 117 ≤ tk))) := hw16
        have f_18 := hw16
        rcases f_18 with ⟨hz_21, a_19, a_20⟩ | ⟨hz_23, a_22⟩
        · subst hz_21
          refine lv_istore_n (lv' := [(2, .int (nI jr_17)), (0, .ref d0), (1, .int 6)]) hx hb dX10_takeUnit_78 rfl hl (by decide) rfl (fun ls hl => ?_)
          refine lv_iload_n hx hb dX10_takeUnit_79 rfl (lv_at hl 0 rfl) ?_
          refine lv_iconst (v := -1) hx hb dX10_takeUnit_80 (by decide) ?_
          refine lv_icmp_eq (tgt := 95) hx hb dX10_takeUnit_81 (by decide) (fun h => absurd h (nI_nneg (by omega) (by decide))) (fun _ => ?_)
          have hk117 : 117 ≤ knd fby tn ga := by have h9 := hti.2.2.1; omega
          refine lv_aload_n hx hb dX10_takeUnit_84 rfl (lv_at hl 1 rfl) ?_
          refine va_get (D := D) (ci := 10) (v := .ref f0) (C := RX10) (T := TX10) (N := 10) hx hb hg i_X10 hown hK hP 0 rfl rfl 3 (by decide) (hg _ m_258) (fun _ h9 => h9) rfl dX10_takeUnit_85 ?_
          refine lv_iload_n hx hb dX10_takeUnit_88 rfl (lv_at hl 0 rfl) ?_
          refine x_callVv (q := (RX3, TX3, 4)) (ci := 3) (q0 := 0) (wr := [wO d0 10 [.ref t0, .ref d1, .ref h0, .ref f0, .int (nI (ow + 1)), .int wt, .int dt, .int vv, .int fq, .int pq], wO t0 9 [.ref t1, .ref t2, .int (nI tn), .int (nI ta), .int (nI ts), .int (nI tk), .long tm, .int tr], wI (cy 0) t1 1600 (fby), (t2, .inl (cy 2, 24, .inr (.inl (fky)))), wO h0 4 [.ref h1, .ref h2, .ref h3, .ref h4, .ref h5, .ref h6, .ref h7, .ref h8, .ref h9, .ref h10, .ref h11, hv0, hv1, hv2, hv3, .int (nI (un + 1))]]) (rest := []) ⟨hx, hb, hml, hown, hg, hl.1⟩ k_X10_213 (s_addFact l D cy f0 f1 f2 nf y3 fco jr_17 (by omega) (hfc) (by omega)) E0_blind hK hP hD hS hA [5, 6] [0, 1, 2, 3, 4] ⟨rfl, rfl, by decide +kernel, by decide +kernel, by decide +kernel⟩ rfl rfl (fun _ _ _ => trivial) dX10_takeUnit_89 rfl rfl (Nat.le_of_ble_eq_true rfl) ⟨Nat.le_of_ble_eq_true rfl, Nat.le_of_ble_eq_true rfl⟩ ⟨Nat.le_of_ble_eq_true rfl, Nat.le_of_ble_eq_true rfl⟩ (fun zu24 H locs hw24 hP9 hD9 hS9 => ?_)
          clear hP hD hS
          obtain ⟨n2_25, fc2_26⟩ := zu24
          refine reW [wO d0 10 [.ref t0, .ref d1, .ref h0, .ref f0, .int (nI (ow + 1)), .int wt, .int dt, .int vv, .int fq, .int pq], wO t0 9 [.ref t1, .ref t2, .int (nI tn), .int (nI ta), .int (nI ts), .int (nI tk), .long tm, .int tr], wI (cy 0) t1 1600 (fby), (t2, .inl (cy 2, 24, .inr (.inl (fky)))), wO h0 4 [.ref h1, .ref h2, .ref h3, .ref h4, .ref h5, .ref h6, .ref h7, .ref h8, .ref h9, .ref h10, .ref h11, hv0, hv1, hv2, hv3, .int (nI (un + 1))], wO f0 3 [.ref f1, .ref f2, .int (nI n2_25), y3], wI (cy 1) f1 280 (fc2_26)] hP9 hD9 hS9 (fun hP hD hS => ?_)
          clear hP9 hD9 hS9
          refine W.widen (k := 0) (n := 0) (Nat.le_of_ble_eq_true rfl) (Nat.le_of_ble_eq_true rfl) ?_
          replace hw24 : (n2_25 ≤ 280) ∧ (cOK fc2_26 n2_25) := hw24
          obtain ⟨f_27, f_28⟩ := hw24
          refine lv_goto (tgt := 129) hx hb dX10_takeUnit_92 (by decide) ?_
          have hgt_29 : ga < fin fby tn ga ∧ fin fby tn ga ≤ tn := ⟨fin_gt (by have h9 := hti.2.2.1; omega), fin_le (by omega)⟩
          refine lv_aload_n hx hb dX10_takeUnit_129 rfl (lv_at hl 1 rfl) ?_
          refine va_get (D := D) (ci := 10) (v := .ref t0) (C := RX10) (T := TX10) (N := 10) hx hb hg i_X10 hown hK hP 0 rfl rfl 0 (by decide) (hg _ m_255) (fun _ h9 => h9) rfl dX10_takeUnit_130 ?_
          refine x_callVv (q := (RX9, TX9, 8)) (ci := 9) (q0 := 0) (wr := [wO d0 10 [.ref t0, .ref d1, .ref h0, .ref f0, .int (nI (ow + 1)), .int wt, .int dt, .int vv, .int fq, .int pq], wO h0 4 [.ref h1, .ref h2, .ref h3, .ref h4, .ref h5, .ref h6, .ref h7, .ref h8, .ref h9, .ref h10, .ref h11, hv0, hv1, hv2, hv3, .int (nI (un + 1))], wO f0 3 [.ref f1, .ref f2, .int (nI n2_25), y3], wI (cy 1) f1 280 (fc2_26)]) (rest := []) ⟨hx, hb, hml, hown, hg, hl.1⟩ k_X10_140 (s_next l D cy adK adV t0 t1 t2 tn ta ts tk tm tr fby fky (fin fby tn ga) (by omega) (by omega) (hti.2.1) (hky)) EV_blind hK hP hD hS hA [1, 2, 3] [0, 4, 5, 6] ⟨rfl, rfl, by decide +kernel, by decide +kernel, by decide +kernel⟩ rfl rfl (fun U hU hW => EV_pass hE hS (va_free hD hS hA [1, 2, 3] rfl) hU hW) dX10_takeUnit_133 rfl rfl (Nat.le_of_ble_eq_true rfl) ⟨Nat.le_of_ble_eq_true rfl, Nat.le_of_ble_eq_true rfl⟩ ⟨Nat.le_of_ble_eq_true rfl, Nat.le_of_ble_eq_true rfl⟩ (fun zu30 H locs hw30 hP9 hD9 hS9 => ?_)
          clear hP hD hS
          obtain ⟨ta2_31, ts2_32, tk2_33, tm2_34, tr2_35⟩ := zu30
          refine reW [wO d0 10 [.ref t0, .ref d1, .ref h0, .ref f0, .int (nI (ow + 1)), .int wt, .int dt, .int vv, .int fq, .int pq], wO h0 4 [.ref h1, .ref h2, .ref h3, .ref h4, .ref h5, .ref h6, .ref h7, .ref h8, .ref h9, .ref h10, .ref h11, hv0, hv1, hv2, hv3, .int (nI (un + 1))], wO f0 3 [.ref f1, .ref f2, .int (nI n2_25), y3], wI (cy 1) f1 280 (fc2_26), wO t0 9 [.ref t1, .ref t2, .int (nI tn), .int (nI ta2_31), .int (nI ts2_32), .int (nI tk2_33), .long tm2_34, .int tr2_35], wI (cy 0) t1 1600 (fby), (t2, .inl (cy 2, 24, .inr (.inl (fky))))] hP9 hD9 hS9 (fun hP hD hS => ?_)
          clear hP9 hD9 hS9
          refine W.widen (k := 0) (n := 0) (Nat.le_of_ble_eq_true rfl) (Nat.le_of_ble_eq_true rfl) ?_
          replace hw30 : (ta2_31 ≤ tn) ∧ (tk2_33 ≤ 123) ∧ (tkC fby tn (fin fby tn ga) ta2_31 ts2_32 tk2_33 tm2_34 tr2_35) := hw30
          obtain ⟨f_36, f_37, f_38⟩ := hw30
          refine lv_iconst (v := 1) hx hb dX10_takeUnit_136 (by decide) ?_
          exact x_zret hQ hx hb hr hlocks hK hP hD hS rfl dX10_takeUnit_137 (ta2_31, ts2_32, tk2_33, tm2_34, tr2_35, fq, pq, (ow + 1), (un + 1), n2_25, fc2_26, fin fby tn ga) (⟨(show ta2_31 ≤ tn from by omega), (show tk2_33 ≤ 123 from by omega), (show n2_25 ≤ 280 from by omega), f_28, (show ((ow + 1)) ≤ 30 from by omega), (show ((un + 1)) ≤ 60 from by omega), (show ((1 : Int32) = 1 ∧ (okS (knd fby tn) (fin fby tn) 7 6 ga ow un (fin fby tn ga) ((ow + 1)) ((un + 1))) ∧ (fq = fq) ∧ (pq = pq) ∧ (tkC fby tn (fin fby tn ga) ta2_31 ts2_32 tk2_33 tm2_34 tr2_35) ∧ (ga < (fin fby tn ga) ∧ (fin fby tn ga) ≤ tn)) ∨ ((1 : Int32) = 0 ∧ (noS (knd fby tn) (fin fby tn) 7 6 ga ow un (fin fby tn ga)) ∧ (flt fby tn (fin fby tn ga) 2 fq pq)) from Or.inl ⟨rfl, (unit_one (by omega) (Or.inr hk117)), (rfl), (rfl), (f_38), (⟨by omega, by omega⟩)⟩)⟩) [0, 4, 5, 6, 1, 2, 3] (by decide +kernel) rfl (Nat.le_of_ble_eq_true rfl) (Nat.le_of_ble_eq_true rfl)
        · subst hz_23
          refine lv_istore_n (lv' := [(2, .int (-1)), (0, .ref d0), (1, .int 6)]) hx hb dX10_takeUnit_78 rfl hl (by decide) rfl (fun ls hl => ?_)
          refine lv_iload_n hx hb dX10_takeUnit_79 rfl (lv_at hl 0 rfl) ?_
          refine lv_iconst (v := -1) hx hb dX10_takeUnit_80 (by decide) ?_
          refine lv_icmp_eq (tgt := 95) hx hb dX10_takeUnit_81 (by decide) (fun _ => ?_) (fun h => absurd (by decide) h)
          refine lv_aload_n hx hb dX10_takeUnit_95 rfl (lv_at hl 1 rfl) ?_
          refine va_get (D := D) (ci := 10) (v := .ref t0) (C := RX10) (T := TX10) (N := 10) hx hb hg i_X10 hown hK hP 0 rfl rfl 0 (by decide) (hg _ m_255) (fun _ h9 => h9) rfl dX10_takeUnit_96 ?_
          refine va_get (D := D) (ci := 9) (v := .int (nI tk)) (C := RX9) (T := TX9) (N := 8) hx hb hg i_X9 hown hK hP 1 rfl rfl 5 (by decide) (hg _ m_222) (fun _ h9 => h9) rfl dX10_takeUnit_99 ?_
          refine lv_iconst (v := 2) hx hb dX10_takeUnit_102 (by decide) ?_
          refine lv_icmp_ne (tgt := 123) hx hb dX10_takeUnit_103 (by decide) (fun c_39 => ?_) (fun c_39 => ?_)
          · have q_40 : ¬ tk = 2 := q_ne (a := tk) (b := 2) rfl rfl (by omega) (by omega) c_39
            refine lv_aload_n hx hb dX10_takeUnit_123 rfl (lv_at hl 1 rfl) ?_
            refine lv_iconst (v := 2) hx hb dX10_takeUnit_124 (by decide) ?_
            refine x_callVi (q := (RX10, TX10, 10)) (ci := 10) (q0 := 0) (wr := [wI (cy 0) t1 1600 (fby), (t2, .inl (cy 2, 24, .inr (.inl (fky)))), wO h0 4 [.ref h1, .ref h2, .ref h3, .ref h4, .ref h5, .ref h6, .ref h7, .ref h8, .ref h9, .ref h10, .ref h11, hv0, hv1, hv2, hv3, .int (nI (un + 1))], wO f0 3 [.ref f1, .ref f2, .int (nI nf), y3], wI (cy 1) f1 280 (fco)]) (rest := []) ⟨hx, hb, hml, hown, hg, hl.1⟩ k_X10_110 (s_fail l D cy d0 d1 (nI (ow + 1)) wt dt vv fq pq ((.ref h0)) ((.ref f0)) t0 t1 t2 tn ta ts tk tm tr 2 (by omega)) E0_blind hK hP hD hS hA [0, 1] [2, 3, 4, 5, 6] ⟨rfl, rfl, by decide +kernel, by decide +kernel, by decide +kernel⟩ rfl rfl (fun _ _ _ => trivial) dX10_takeUnit_125 rfl rfl (Nat.le_of_ble_eq_true rfl) ⟨Nat.le_of_ble_eq_true rfl, Nat.le_of_ble_eq_true rfl⟩ ⟨Nat.le_of_ble_eq_true rfl, Nat.le_of_ble_eq_true rfl⟩ (fun zr41 zu41 H locs hw41 hP9 hD9 hS9 => ?_)
            clear hP hD hS
            obtain ⟨fq2_42, pq2_43⟩ := zu41
            refine reW [wI (cy 0) t1 1600 (fby), (t2, .inl (cy 2, 24, .inr (.inl (fky)))), wO h0 4 [.ref h1, .ref h2, .ref h3, .ref h4, .ref h5, .ref h6, .ref h7, .ref h8, .ref h9, .ref h10, .ref h11, hv0, hv1, hv2, hv3, .int (nI (un + 1))], wO f0 3 [.ref f1, .ref f2, .int (nI nf), y3], wI (cy 1) f1 280 (fco), wO d0 10 [.ref t0, .ref d1, .ref h0, .ref f0, .int (nI (ow + 1)), .int wt, .int dt, .int vv, .int fq2_42, .int pq2_43], wO t0 9 [.ref t1, .ref t2, .int (nI tn), .int (nI ta), .int (nI ts), .int (nI tk), .long tm, .int tr]] hP9 hD9 hS9 (fun hP hD hS => ?_)
            clear hP9 hD9 hS9
            refine W.widen (k := 0) (n := 0) (Nat.le_of_ble_eq_true rfl) (Nat.le_of_ble_eq_true rfl) ?_
            replace hw41 : ((zr41 = 0 ∧ (fq2_42 = nI (if tk = 3 then 1 else 2)) ∧ (pq2_43 = nI ts))) := hw41
            have f_44 := hw41
            rcases f_44 with ⟨hz_47, a_45, a_46⟩
            subst hz_47
            exact x_zret hQ hx hb hr hlocks hK hP hD hS rfl dX10_takeUnit_128 (ta, ts, tk, tm, tr, fq2_42, pq2_43, (ow + 1), (un + 1), nf, fco, ga) (⟨(show ta ≤ tn from by omega), (show tk ≤ 123 from by omega), (show nf ≤ 280 from by omega), hfc, (show ((ow + 1)) ≤ 30 from by omega), (show ((un + 1)) ≤ 60 from by omega), (show ((0 : Int32) = 1 ∧ (okS (knd fby tn) (fin fby tn) 7 6 ga ow un ga ((ow + 1)) ((un + 1))) ∧ (fq = fq2_42) ∧ (pq = pq2_43) ∧ (tkC fby tn ga ta ts tk tm tr) ∧ (ga < ga ∧ ga ≤ tn)) ∨ ((0 : Int32) = 0 ∧ (noS (knd fby tn) (fin fby tn) 7 6 ga ow un ga) ∧ (flt fby tn ga 2 fq2_42 pq2_43)) from Or.inr (⟨rfl, (unit_none (by have h9 := hti.2.2.1; omega) (by have h9 := hti.2.2.1; omega)), (flt_of hti a_45 a_46)⟩))⟩) [5, 6, 0, 1, 2, 3, 4] (by decide +kernel) rfl (Nat.le_of_ble_eq_true rfl) (Nat.le_of_ble_eq_true rfl)
          · have q_40 : tk = 2 := q_eq (a := tk) (b := 2) rfl rfl (by omega) (by omega) c_39
            have hk8 : knd fby tn ga = 2 := by have h9 := hti.2.2.1; omega
            have hn9 : tr = nI (num fby tn ga) := hti.2.2.2.2 (by omega)
            have hn8 := (num_le hk8).1
            subst hn9
            refine lv_aload_n hx hb dX10_takeUnit_106 rfl (lv_at hl 1 rfl) ?_
            refine va_get (D := D) (ci := 10) (v := .ref f0) (C := RX10) (T := TX10) (N := 10) hx hb hg i_X10 hown hK hP 0 rfl rfl 3 (by decide) (hg _ m_258) (fun _ h9 => h9) rfl dX10_takeUnit_107 ?_
            refine lv_aload_n hx hb dX10_takeUnit_110 rfl (lv_at hl 1 rfl) ?_
            refine va_get (D := D) (ci := 10) (v := .ref t0) (C := RX10) (T := TX10) (N := 10) hx hb hg i_X10 hown hK hP 0 rfl rfl 0 (by decide) (hg _ m_255) (fun _ h9 => h9) rfl dX10_takeUnit_111 ?_
            refine va_get (D := D) (ci := 9) (v := .int (nI (num fby tn ga))) (C := RX9) (T := TX9) (N := 8) hx hb hg i_X9 hown hK hP 1 rfl rfl 7 (by decide) (hg _ m_227) (fun _ h9 => h9) rfl dX10_takeUnit_114 ?_
            refine x_callVv (q := (RX3, TX3, 4)) (ci := 3) (q0 := 0) (wr := [wO d0 10 [.ref t0, .ref d1, .ref h0, .ref f0, .int (nI (ow + 1)), .int wt, .int dt, .int vv, .int fq, .int pq], wO t0 9 [.ref t1, .ref t2, .int (nI tn), .int (nI ta), .int (nI ts), .int (nI tk), .long tm, .int (nI (num fby tn ga))], wI (cy 0) t1 1600 (fby), (t2, .inl (cy 2, 24, .inr (.inl (fky)))), wO h0 4 [.ref h1, .ref h2, .ref h3, .ref h4, .ref h5, .ref h6, .ref h7, .ref h8, .ref h9, .ref h10, .ref h11, hv0, hv1, hv2, hv3, .int (nI (un + 1))]]) (rest := []) ⟨hx, hb, hml, hown, hg, hl.1⟩ k_X10_216 (s_addNumber l D cy f0 f1 f2 nf y3 fco ((num fby tn ga)) (by omega) (hfc) (by omega)) E0_blind hK hP hD hS hA [5, 6] [0, 1, 2, 3, 4] ⟨rfl, rfl, by decide +kernel, by decide +kernel, by decide +kernel⟩ rfl rfl (fun _ _ _ => trivial) dX10_takeUnit_117 rfl rfl (Nat.le_of_ble_eq_true rfl) ⟨Nat.le_of_ble_eq_true rfl, Nat.le_of_ble_eq_true rfl⟩ ⟨Nat.le_of_ble_eq_true rfl, Nat.le_of_ble_eq_true rfl⟩ (fun zu48 H locs hw48 hP9 hD9 hS9 => ?_)
            clear hP hD hS
            obtain ⟨n2_49, fc2_50⟩ := zu48
            refine reW [wO d0 10 [.ref t0, .ref d1, .ref h0, .ref f0, .int (nI (ow + 1)), .int wt, .int dt, .int vv, .int fq, .int pq], wO t0 9 [.ref t1, .ref t2, .int (nI tn), .int (nI ta), .int (nI ts), .int (nI tk), .long tm, .int (nI (num fby tn ga))], wI (cy 0) t1 1600 (fby), (t2, .inl (cy 2, 24, .inr (.inl (fky)))), wO h0 4 [.ref h1, .ref h2, .ref h3, .ref h4, .ref h5, .ref h6, .ref h7, .ref h8, .ref h9, .ref h10, .ref h11, hv0, hv1, hv2, hv3, .int (nI (un + 1))], wO f0 3 [.ref f1, .ref f2, .int (nI n2_49), y3], wI (cy 1) f1 280 (fc2_50)] hP9 hD9 hS9 (fun hP hD hS => ?_)
            clear hP9 hD9 hS9
            refine W.widen (k := 0) (n := 0) (Nat.le_of_ble_eq_true rfl) (Nat.le_of_ble_eq_true rfl) ?_
            replace hw48 : (n2_49 ≤ 280) ∧ (cOK fc2_50 n2_49) := hw48
            obtain ⟨f_51, f_52⟩ := hw48
            refine lv_goto (tgt := 129) hx hb dX10_takeUnit_120 (by decide) ?_
            have hgt_53 : ga < fin fby tn ga ∧ fin fby tn ga ≤ tn := ⟨fin_gt (by have h9 := hti.2.2.1; omega), fin_le (by omega)⟩
            refine lv_aload_n hx hb dX10_takeUnit_129 rfl (lv_at hl 1 rfl) ?_
            refine va_get (D := D) (ci := 10) (v := .ref t0) (C := RX10) (T := TX10) (N := 10) hx hb hg i_X10 hown hK hP 0 rfl rfl 0 (by decide) (hg _ m_255) (fun _ h9 => h9) rfl dX10_takeUnit_130 ?_
            refine x_callVv (q := (RX9, TX9, 8)) (ci := 9) (q0 := 0) (wr := [wO d0 10 [.ref t0, .ref d1, .ref h0, .ref f0, .int (nI (ow + 1)), .int wt, .int dt, .int vv, .int fq, .int pq], wO h0 4 [.ref h1, .ref h2, .ref h3, .ref h4, .ref h5, .ref h6, .ref h7, .ref h8, .ref h9, .ref h10, .ref h11, hv0, hv1, hv2, hv3, .int (nI (un + 1))], wO f0 3 [.ref f1, .ref f2, .int (nI n2_49), y3], wI (cy 1) f1 280 (fc2_50)]) (rest := []) ⟨hx, hb, hml, hown, hg, hl.1⟩ k_X10_140 (s_next l D cy adK adV t0 t1 t2 tn ta ts tk tm (nI (num fby tn ga)) fby fky (fin fby tn ga) (by omega) (by omega) (hti.2.1) (hky)) EV_blind hK hP hD hS hA [1, 2, 3] [0, 4, 5, 6] ⟨rfl, rfl, by decide +kernel, by decide +kernel, by decide +kernel⟩ rfl rfl (fun U hU hW => EV_pass hE hS (va_free hD hS hA [1, 2, 3] rfl) hU hW) dX10_takeUnit_133 rfl rfl (Nat.le_of_ble_eq_true rfl) ⟨Nat.le_of_ble_eq_true rfl, Nat.le_of_ble_eq_true rfl⟩ ⟨Nat.le_of_ble_eq_true rfl, Nat.le_of_ble_eq_true rfl⟩ (fun zu54 H locs hw54 hP9 hD9 hS9 => ?_)
            clear hP hD hS
            obtain ⟨ta2_55, ts2_56, tk2_57, tm2_58, tr2_59⟩ := zu54
            refine reW [wO d0 10 [.ref t0, .ref d1, .ref h0, .ref f0, .int (nI (ow + 1)), .int wt, .int dt, .int vv, .int fq, .int pq], wO h0 4 [.ref h1, .ref h2, .ref h3, .ref h4, .ref h5, .ref h6, .ref h7, .ref h8, .ref h9, .ref h10, .ref h11, hv0, hv1, hv2, hv3, .int (nI (un + 1))], wO f0 3 [.ref f1, .ref f2, .int (nI n2_49), y3], wI (cy 1) f1 280 (fc2_50), wO t0 9 [.ref t1, .ref t2, .int (nI tn), .int (nI ta2_55), .int (nI ts2_56), .int (nI tk2_57), .long tm2_58, .int tr2_59], wI (cy 0) t1 1600 (fby), (t2, .inl (cy 2, 24, .inr (.inl (fky))))] hP9 hD9 hS9 (fun hP hD hS => ?_)
            clear hP9 hD9 hS9
            refine W.widen (k := 0) (n := 0) (Nat.le_of_ble_eq_true rfl) (Nat.le_of_ble_eq_true rfl) ?_
            replace hw54 : (ta2_55 ≤ tn) ∧ (tk2_57 ≤ 123) ∧ (tkC fby tn (fin fby tn ga) ta2_55 ts2_56 tk2_57 tm2_58 tr2_59) := hw54
            obtain ⟨f_60, f_61, f_62⟩ := hw54
            refine lv_iconst (v := 1) hx hb dX10_takeUnit_136 (by decide) ?_
            exact x_zret hQ hx hb hr hlocks hK hP hD hS rfl dX10_takeUnit_137 (ta2_55, ts2_56, tk2_57, tm2_58, tr2_59, fq, pq, (ow + 1), (un + 1), n2_49, fc2_50, fin fby tn ga) (⟨(show ta2_55 ≤ tn from by omega), (show tk2_57 ≤ 123 from by omega), (show n2_49 ≤ 280 from by omega), f_52, (show ((ow + 1)) ≤ 30 from by omega), (show ((un + 1)) ≤ 60 from by omega), (show ((1 : Int32) = 1 ∧ (okS (knd fby tn) (fin fby tn) 7 6 ga ow un (fin fby tn ga) ((ow + 1)) ((un + 1))) ∧ (fq = fq) ∧ (pq = pq) ∧ (tkC fby tn (fin fby tn ga) ta2_55 ts2_56 tk2_57 tm2_58 tr2_59) ∧ (ga < (fin fby tn ga) ∧ (fin fby tn ga) ≤ tn)) ∨ ((1 : Int32) = 0 ∧ (noS (knd fby tn) (fin fby tn) 7 6 ga ow un (fin fby tn ga)) ∧ (flt fby tn (fin fby tn ga) 2 fq pq)) from Or.inl ⟨rfl, (unit_one (by omega) (Or.inl hk8)), (rfl), (rfl), (f_62), (⟨by omega, by omega⟩)⟩)⟩) [0, 4, 5, 6, 1, 2, 3] (by decide +kernel) rfl (Nat.le_of_ble_eq_true rfl) (Nat.le_of_ble_eq_true rfl)
      · have q_15 : tk = 40 := q_eq (a := tk) (b := 40) rfl rfl (by omega) (by omega) c_14
        refine lv_aload_n hx hb dX10_takeUnit_62 rfl (lv_at hl 0 rfl) ?_
        refine lv_iload_n hx hb dX10_takeUnit_63 rfl (lv_at hl 1 rfl) ?_
        refine x_callVi (q := (RX10, TX10, 10)) (ci := 10) (q0 := 0) (wr := []) (rest := []) ⟨hx, hb, hml, hown, hg, hl.1⟩ k_X10_207 (s_takeInner6 l D cy adK adV d0 d1 wt dt vv fq pq t0 t1 t2 tn ta ts tk tm tr fby fky h0 h1 h2 h3 h4 h5 h6 h7 h8 h9 h10 h11 hv0 hv1 hv2 hv3 ((ow + 1)) ((un + 1)) f0 f1 f2 nf y3 fco ga (by omega) (by omega) (by omega) (hti) (hky) (by omega) (hfc) (by omega) (by omega) (by omega) (by omega)) EV_blind hK hP hD hS hA [0, 1, 2, 3, 4, 5, 6] [] ⟨rfl, rfl, by decide +kernel, by decide +kernel, by decide +kernel⟩ rfl rfl (fun U hU hW => EV_pass hE hS (va_free hD hS hA [0, 1, 2, 3, 4, 5, 6] rfl) hU hW) dX10_takeUnit_64 rfl rfl (Nat.le_of_ble_eq_true rfl) ⟨Nat.le_of_ble_eq_true rfl, Nat.le_of_ble_eq_true rfl⟩ ⟨Nat.le_of_ble_eq_true rfl, Nat.le_of_ble_eq_true rfl⟩ (fun zr63 zu63 H locs hw63 hP9 hD9 hS9 => ?_)
        clear hP hD hS
        obtain ⟨ta2_64, ts2_65, tk2_66, tm2_67, tr2_68, fq2_69, pq2_70, ow2_71, un2_72, nf2_73, fco2_74, ga2_75⟩ := zu63
        refine reW [wO d0 10 [.ref t0, .ref d1, .ref h0, .ref f0, .int (nI ow2_71), .int wt, .int dt, .int vv, .int fq2_69, .int pq2_70], wO t0 9 [.ref t1, .ref t2, .int (nI tn), .int (nI ta2_64), .int (nI ts2_65), .int (nI tk2_66), .long tm2_67, .int tr2_68], wI (cy 0) t1 1600 (fby), (t2, .inl (cy 2, 24, .inr (.inl (fky)))), wO h0 4 [.ref h1, .ref h2, .ref h3, .ref h4, .ref h5, .ref h6, .ref h7, .ref h8, .ref h9, .ref h10, .ref h11, hv0, hv1, hv2, hv3, .int (nI un2_72)], wO f0 3 [.ref f1, .ref f2, .int (nI nf2_73), y3], wI (cy 1) f1 280 (fco2_74)] hP9 hD9 hS9 (fun hP hD hS => ?_)
        clear hP9 hD9 hS9
        refine W.widen (k := 0) (n := 0) (Nat.le_of_ble_eq_true rfl) (Nat.le_of_ble_eq_true rfl) ?_
        replace hw63 : (ta2_64 ≤ tn) ∧ (tk2_66 ≤ 123) ∧ (nf2_73 ≤ 280) ∧ (cOK fco2_74 nf2_73) ∧ (ow2_71 ≤ 30) ∧ (un2_72 ≤ 60) ∧ ((zr63 = 1 ∧ (∀ o9 u9 : Nat, ((ow + 1)) = o9 + 1 → ((un + 1)) = u9 + 1 → ¬ (u9 = 60 ∨ o9 = 30) → okS (knd fby tn) (fin fby tn) 7 6 ga o9 u9 ga2_75 ow2_71 un2_72) ∧ (fq = fq2_69) ∧ (pq = pq2_70) ∧ (tkC fby tn ga2_75 ta2_64 ts2_65 tk2_66 tm2_67 tr2_68) ∧ (ga < ga2_75 ∧ ga2_75 ≤ tn)) ∨ (zr63 = 0 ∧ (∀ o9 u9 : Nat, ((ow + 1)) = o9 + 1 → ((un + 1)) = u9 + 1 → ¬ (u9 = 60 ∨ o9 = 30) → noS (knd fby tn) (fin fby tn) 7 6 ga o9 u9 ga2_75) ∧ (flt fby tn ga2_75 2 fq2_69 pq2_70))) := hw63
        obtain ⟨f_76, f_77, f_78, f_79, f_80, f_81, f_82⟩ := hw63
        rcases f_82 with ⟨hz_88, a_83, a_84, a_85, a_86, a_87⟩ | ⟨hz_91, a_89, a_90⟩
        · subst hz_88
          subst a_84
          subst a_85
          have hg_a_87 := a_87
          exact x_zret hQ hx hb hr hlocks hK hP hD hS rfl dX10_takeUnit_67 (ta2_64, ts2_65, tk2_66, tm2_67, tr2_68, fq, pq, ow2_71, un2_72, nf2_73, fco2_74, ga2_75) (⟨(show ta2_64 ≤ tn from by omega), (show tk2_66 ≤ 123 from by omega), (show nf2_73 ≤ 280 from by omega), f_79, (show ow2_71 ≤ 30 from by omega), (show un2_72 ≤ 60 from by omega), (show ((1 : Int32) = 1 ∧ (okS (knd fby tn) (fin fby tn) 7 6 ga ow un ga2_75 ow2_71 un2_72) ∧ (fq = fq) ∧ (pq = pq) ∧ (tkC fby tn ga2_75 ta2_64 ts2_65 tk2_66 tm2_67 tr2_68) ∧ (ga < ga2_75 ∧ ga2_75 ≤ tn)) ∨ ((1 : Int32) = 0 ∧ (noS (knd fby tn) (fin fby tn) 7 6 ga ow un ga2_75) ∧ (flt fby tn ga2_75 2 fq pq)) from Or.inl ⟨rfl, (a_83 ow un rfl rfl (by omega)), (rfl), (rfl), (a_86), (⟨by omega, by omega⟩)⟩)⟩) [0, 1, 2, 3, 4, 5, 6] (by decide +kernel) rfl (Nat.le_of_ble_eq_true rfl) (Nat.le_of_ble_eq_true rfl)
        · subst hz_91
          exact x_zret hQ hx hb hr hlocks hK hP hD hS rfl dX10_takeUnit_67 (ta2_64, ts2_65, tk2_66, tm2_67, tr2_68, fq2_69, pq2_70, ow2_71, un2_72, nf2_73, fco2_74, ga2_75) (⟨(show ta2_64 ≤ tn from by omega), (show tk2_66 ≤ 123 from by omega), (show nf2_73 ≤ 280 from by omega), f_79, (show ow2_71 ≤ 30 from by omega), (show un2_72 ≤ 60 from by omega), (show ((0 : Int32) = 1 ∧ (okS (knd fby tn) (fin fby tn) 7 6 ga ow un ga2_75 ow2_71 un2_72) ∧ (fq = fq2_69) ∧ (pq = pq2_70) ∧ (tkC fby tn ga2_75 ta2_64 ts2_65 tk2_66 tm2_67 tr2_68) ∧ (ga < ga2_75 ∧ ga2_75 ≤ tn)) ∨ ((0 : Int32) = 0 ∧ (noS (knd fby tn) (fin fby tn) 7 6 ga ow un ga2_75) ∧ (flt fby tn ga2_75 2 fq2_69 pq2_70)) from Or.inr (⟨rfl, (a_89 ow un rfl rfl (by omega)), (a_90)⟩))⟩) [0, 1, 2, 3, 4, 5, 6] (by decide +kernel) rfl (Nat.le_of_ble_eq_true rfl) (Nat.le_of_ble_eq_true rfl)
    · have q_11 : 60 ≤ un := q_nlt (a := un) (b := 60) rfl rfl (by omega) (by omega) c_10
      refine lv_aload_n hx hb dX10_takeUnit_21 rfl (lv_at hl 0 rfl) ?_
      refine lv_iconst (v := 2) hx hb dX10_takeUnit_22 (by decide) ?_
      refine x_callVi (q := (RX10, TX10, 10)) (ci := 10) (q0 := 0) (wr := [wI (cy 0) t1 1600 (fby), (t2, .inl (cy 2, 24, .inr (.inl (fky)))), wO h0 4 [.ref h1, .ref h2, .ref h3, .ref h4, .ref h5, .ref h6, .ref h7, .ref h8, .ref h9, .ref h10, .ref h11, hv0, hv1, hv2, hv3, .int (nI un)], wO f0 3 [.ref f1, .ref f2, .int (nI nf), y3], wI (cy 1) f1 280 (fco)]) (rest := []) ⟨hx, hb, hml, hown, hg, hl.1⟩ k_X10_110 (s_fail l D cy d0 d1 (nI ow) wt dt vv fq pq ((.ref h0)) ((.ref f0)) t0 t1 t2 tn ta ts tk tm tr 2 (by omega)) E0_blind hK hP hD hS hA [0, 1] [2, 3, 4, 5, 6] ⟨rfl, rfl, by decide +kernel, by decide +kernel, by decide +kernel⟩ rfl rfl (fun _ _ _ => trivial) dX10_takeUnit_23 rfl rfl (Nat.le_of_ble_eq_true rfl) ⟨Nat.le_of_ble_eq_true rfl, Nat.le_of_ble_eq_true rfl⟩ ⟨Nat.le_of_ble_eq_true rfl, Nat.le_of_ble_eq_true rfl⟩ (fun zr92 zu92 H locs hw92 hP9 hD9 hS9 => ?_)
      clear hP hD hS
      obtain ⟨fq2_93, pq2_94⟩ := zu92
      refine reW [wI (cy 0) t1 1600 (fby), (t2, .inl (cy 2, 24, .inr (.inl (fky)))), wO h0 4 [.ref h1, .ref h2, .ref h3, .ref h4, .ref h5, .ref h6, .ref h7, .ref h8, .ref h9, .ref h10, .ref h11, hv0, hv1, hv2, hv3, .int (nI un)], wO f0 3 [.ref f1, .ref f2, .int (nI nf), y3], wI (cy 1) f1 280 (fco), wO d0 10 [.ref t0, .ref d1, .ref h0, .ref f0, .int (nI ow), .int wt, .int dt, .int vv, .int fq2_93, .int pq2_94], wO t0 9 [.ref t1, .ref t2, .int (nI tn), .int (nI ta), .int (nI ts), .int (nI tk), .long tm, .int tr]] hP9 hD9 hS9 (fun hP hD hS => ?_)
      clear hP9 hD9 hS9
      refine W.widen (k := 0) (n := 0) (Nat.le_of_ble_eq_true rfl) (Nat.le_of_ble_eq_true rfl) ?_
      replace hw92 : ((zr92 = 0 ∧ (fq2_93 = nI (if tk = 3 then 1 else 2)) ∧ (pq2_94 = nI ts))) := hw92
      have f_95 := hw92
      rcases f_95 with ⟨hz_98, a_96, a_97⟩
      subst hz_98
      exact x_zret hQ hx hb hr hlocks hK hP hD hS rfl dX10_takeUnit_26 (ta, ts, tk, tm, tr, fq2_93, pq2_94, ow, un, nf, fco, ga) (⟨(show ta ≤ tn from by omega), (show tk ≤ 123 from by omega), (show nf ≤ 280 from by omega), hfc, (show ow ≤ 30 from by omega), (show un ≤ 60 from by omega), (show ((0 : Int32) = 1 ∧ (okS (knd fby tn) (fin fby tn) 7 6 ga ow un ga ow un) ∧ (fq = fq2_93) ∧ (pq = pq2_94) ∧ (tkC fby tn ga ta ts tk tm tr) ∧ (ga < ga ∧ ga ≤ tn)) ∨ ((0 : Int32) = 0 ∧ (noS (knd fby tn) (fin fby tn) 7 6 ga ow un ga) ∧ (flt fby tn ga 2 fq2_93 pq2_94)) from Or.inr (⟨rfl, (unit_full (by omega)), (flt_of hti a_96 a_97)⟩))⟩) [5, 6, 0, 1, 2, 3, 4] (by decide +kernel) rfl (Nat.le_of_ble_eq_true rfl) (Nat.le_of_ble_eq_true rfl)
set_option maxHeartbeats 1000000 in
set_option maxRecDepth 100000 in
theorem s_takeTerm6 (l : Launch) (D : va_G) (cy : Nat → ClassId) (adK : Nat → Nat) (adV : Nat → Nat) (d0 : Nat) (d1 : Nat) (wt : Int32) (dt : Int32) (vv : Int32) (fq : Int32) (pq : Int32) (t0 : Nat) (t1 : Nat) (t2 : Nat) (tn : Nat) (ta : Nat) (ts : Nat) (tk : Nat) (tm : Int64) (tr : Int32) (fby : Nat → Int32) (fky : Nat → Int64) (h0 : Nat) (h1 : Nat) (h2 : Nat) (h3 : Nat) (h4 : Nat) (h5 : Nat) (h6 : Nat) (h7 : Nat) (h8 : Nat) (h9 : Nat) (h10 : Nat) (h11 : Nat) (hv0 : Value) (hv1 : Value) (hv2 : Value) (hv3 : Value) (ow : Nat) (un : Nat) (f0 : Nat) (f1 : Nat) (f2 : Nat) (nf : Nat) (y3 : Value) (fco : Nat → Int32) (ga : Nat) (htn : tn ≤ 1600) (hta : ta ≤ tn) (htk : tk ≤ 123) (hti : tkC fby tn ga ta ts tk tm tr) (hky : kyOK fky) (hnf : nf ≤ 280) (hfc : cOK fco nf) (how : ow ≤ 30) (hun : un ≤ 60) (hga : ga ≤ tn) : XMi l D (tyL cy) (EV adK adV) yX10_takeTerm cX10_takeTerm 5 (some .boolean) (rmk 15 0 0) [.ref d0, .int 6] [wO d0 10 [.ref t0, .ref d1, .ref h0, .ref f0, .int (nI ow), .int wt, .int dt, .int vv, .int fq, .int pq], wO t0 9 [.ref t1, .ref t2, .int (nI tn), .int (nI ta), .int (nI ts), .int (nI tk), .long tm, .int tr], wI (cy 0) t1 1600 (fby), (t2, .inl (cy 2, 24, .inr (.inl (fky)))), wO h0 4 [.ref h1, .ref h2, .ref h3, .ref h4, .ref h5, .ref h6, .ref h7, .ref h8, .ref h9, .ref h10, .ref h11, hv0, hv1, hv2, hv3, .int (nI un)], wO f0 3 [.ref f1, .ref f2, .int (nI nf), y3], wI (cy 1) f1 280 (fco)] (fun (r : Int32) (u : Nat × Nat × Nat × Int64 × Int32 × Int32 × Int32 × Nat × Nat × Nat × (Nat → Int32) × Nat) => (u.1 ≤ tn) ∧ (u.2.2.1 ≤ 123) ∧ (u.2.2.2.2.2.2.2.2.2.1 ≤ 280) ∧ (cOK u.2.2.2.2.2.2.2.2.2.2.1 u.2.2.2.2.2.2.2.2.2.1) ∧ (u.2.2.2.2.2.2.2.1 ≤ 30) ∧ (u.2.2.2.2.2.2.2.2.1 ≤ 60) ∧ ((r = 1 ∧ (okS (knd fby tn) (fin fby tn) 6 6 ga ow un u.2.2.2.2.2.2.2.2.2.2.2 u.2.2.2.2.2.2.2.1 u.2.2.2.2.2.2.2.2.1) ∧ (fq = u.2.2.2.2.2.1) ∧ (pq = u.2.2.2.2.2.2.1) ∧ (tkC fby tn u.2.2.2.2.2.2.2.2.2.2.2 u.1 u.2.1 u.2.2.1 u.2.2.2.1 u.2.2.2.2.1) ∧ (ga < u.2.2.2.2.2.2.2.2.2.2.2 ∧ u.2.2.2.2.2.2.2.2.2.2.2 ≤ tn)) ∨ (r = 0 ∧ (noS (knd fby tn) (fin fby tn) 6 6 ga ow un u.2.2.2.2.2.2.2.2.2.2.2) ∧ (flt fby tn u.2.2.2.2.2.2.2.2.2.2.2 2 u.2.2.2.2.2.1 u.2.2.2.2.2.2.1)))) (fun (u : Nat × Nat × Nat × Int64 × Int32 × Int32 × Int32 × Nat × Nat × Nat × (Nat → Int32) × Nat) => [wO d0 10 [.ref t0, .ref d1, .ref h0, .ref f0, .int (nI u.2.2.2.2.2.2.2.1), .int wt, .int dt, .int vv, .int u.2.2.2.2.2.1, .int u.2.2.2.2.2.2.1], wO t0 9 [.ref t1, .ref t2, .int (nI tn), .int (nI u.1), .int (nI u.2.1), .int (nI u.2.2.1), .long u.2.2.2.1, .int u.2.2.2.2.1], wI (cy 0) t1 1600 (fby), (t2, .inl (cy 2, 24, .inr (.inl (fky)))), wO h0 4 [.ref h1, .ref h2, .ref h3, .ref h4, .ref h5, .ref h6, .ref h7, .ref h8, .ref h9, .ref h10, .ref h11, hv0, hv1, hv2, hv3, .int (nI u.2.2.2.2.2.2.2.2.1)], wO f0 3 [.ref f1, .ref f2, .int (nI u.2.2.2.2.2.2.2.2.2.1), y3], wI (cy 1) f1 280 (u.2.2.2.2.2.2.2.2.2.2.1)]) := by
  refine XMi.start (by decide) (Nat.le_of_ble_eq_true rfl) ?_
  intro p e s m below meth c args A ls Q hat hQ
  obtain ⟨hx, hb, hr, hml, hown, hg, hlocks, hin, hK, hA, hP, hD, hS, hE, hl⟩ := hat
  have hown : s.vm.findClass RX10 = some m.cls := hown
  have hl : lv_has ls 5 [(0, .ref d0), (1, .int 6)] := hl
  refine lv_aload_n hx hb dX10_takeTerm_0 rfl (lv_at hl 0 rfl) ?_
  refine lv_iload_n hx hb dX10_takeTerm_1 rfl (lv_at hl 1 rfl) ?_
  refine x_callVi (q := (RX10, TX10, 10)) (ci := 10) (q0 := 0) (wr := []) (rest := []) ⟨hx, hb, hml, hown, hg, hl.1⟩ k_X10_198 (s_takeUnit6 l D cy adK adV d0 d1 wt dt vv fq pq t0 t1 t2 tn ta ts tk tm tr fby fky h0 h1 h2 h3 h4 h5 h6 h7 h8 h9 h10 h11 hv0 hv1 hv2 hv3 ow un f0 f1 f2 nf y3 fco ga (by omega) (by omega) (by omega) (hti) (hky) (by omega) (hfc) (by omega) (by omega) (by omega)) EV_blind hK hP hD hS hA [0, 1, 2, 3, 4, 5, 6] [] ⟨rfl, rfl, by decide +kernel, by decide +kernel, by decide +kernel⟩ rfl rfl (fun U hU hW => EV_pass hE hS (va_free hD hS hA [0, 1, 2, 3, 4, 5, 6] rfl) hU hW) dX10_takeTerm_2 rfl rfl (Nat.le_of_ble_eq_true rfl) ⟨Nat.le_of_ble_eq_true rfl, Nat.le_of_ble_eq_true rfl⟩ ⟨Nat.le_of_ble_eq_true rfl, Nat.le_of_ble_eq_true rfl⟩ (fun zr1 zu1 H locs hw1 hP9 hD9 hS9 => ?_)
  clear hP hD hS
  obtain ⟨ta2_2, ts2_3, tk2_4, tm2_5, tr2_6, fq2_7, pq2_8, ow2_9, un2_10, nf2_11, fco2_12, ga2_13⟩ := zu1
  refine reW [wO d0 10 [.ref t0, .ref d1, .ref h0, .ref f0, .int (nI ow2_9), .int wt, .int dt, .int vv, .int fq2_7, .int pq2_8], wO t0 9 [.ref t1, .ref t2, .int (nI tn), .int (nI ta2_2), .int (nI ts2_3), .int (nI tk2_4), .long tm2_5, .int tr2_6], wI (cy 0) t1 1600 (fby), (t2, .inl (cy 2, 24, .inr (.inl (fky)))), wO h0 4 [.ref h1, .ref h2, .ref h3, .ref h4, .ref h5, .ref h6, .ref h7, .ref h8, .ref h9, .ref h10, .ref h11, hv0, hv1, hv2, hv3, .int (nI un2_10)], wO f0 3 [.ref f1, .ref f2, .int (nI nf2_11), y3], wI (cy 1) f1 280 (fco2_12)] hP9 hD9 hS9 (fun hP hD hS => ?_)
  clear hP9 hD9 hS9
  refine W.widen (k := 0) (n := 0) (Nat.le_of_ble_eq_true rfl) (Nat.le_of_ble_eq_true rfl) ?_
  replace hw1 : (ta2_2 ≤ tn) ∧ (tk2_4 ≤ 123) ∧ (nf2_11 ≤ 280) ∧ (cOK fco2_12 nf2_11) ∧ (ow2_9 ≤ 30) ∧ (un2_10 ≤ 60) ∧ ((zr1 = 1 ∧ (okS (knd fby tn) (fin fby tn) 7 6 ga ow un ga2_13 ow2_9 un2_10) ∧ (fq = fq2_7) ∧ (pq = pq2_8) ∧ (tkC fby tn ga2_13 ta2_2 ts2_3 tk2_4 tm2_5 tr2_6) ∧ (ga < ga2_13 ∧ ga2_13 ≤ tn)) ∨ (zr1 = 0 ∧ (noS (knd fby tn) (fin fby tn) 7 6 ga ow un ga2_13) ∧ (flt fby tn ga2_13 2 fq2_7 pq2_8))) := hw1
  obtain ⟨f_14, f_15, f_16, f_17, f_18, f_19, f_20⟩ := hw1
  refine lv_istore_n (lv' := [(2, .int zr1), (0, .ref d0), (1, .int 6)]) hx hb dX10_takeTerm_5 rfl hl (by decide) rfl (fun ls hl => ?_)
  refine lv_iconst (v := 0) hx hb dX10_takeTerm_6 (by decide) ?_
  refine lv_istore_n (lv' := [(3, .int 0), (2, .int zr1), (0, .ref d0), (1, .int 6)]) hx hb dX10_takeTerm_7 rfl hl (by decide) rfl (fun ls hl => ?_)
  have loop21 : ∀ (zn : Nat) (lb2_21 : Int32) (i21 : Nat) (aq21 : Nat) (sq21 : Nat) (kq21 : Nat) (fl5_21 : Int64) (rq21 : Int32) (oq21 : Nat) (fz21 : Int32) (pz21 : Int32) (uq21 : Nat) (nq21 : Nat) (gq21 : Nat) (fa13_21 : Nat → Int32), (cOK fa13_21 nq21) → (i21 ≤ 1600) → (aq21 ≤ tn) → (kq21 ≤ 123) → (nq21 ≤ 280) → (oq21 ≤ 30) → (uq21 ≤ 60) → ((lb2_21 = 1 ∧ inS (knd fby tn) (fin fby tn) 6 7 6 ga ow un gq21 oq21 uq21 ∧ tkC fby tn gq21 aq21 sq21 kq21 fl5_21 rq21 ∧ ga < gq21 ∧ gq21 ≤ tn ∧ i21 < gq21 ∧ fq = fz21 ∧ pq = pz21) ∨ (lb2_21 = 0 ∧ noS (knd fby tn) (fin fby tn) 6 6 ga ow un gq21 ∧ flt fby tn gq21 2 fz21 pz21)) → 1600 - i21 + 1 ≤ zn → ∀ (H : Heap) (locs : List Loc), va_P D vwCl [wO d0 10 [.ref t0, .ref d1, .ref h0, .ref f0, .int (nI oq21), .int wt, .int dt, .int vv, .int fz21, .int pz21], wO t0 9 [.ref t1, .ref t2, .int (nI tn), .int (nI aq21), .int (nI sq21), .int (nI kq21), .long fl5_21, .int rq21], wI (cy 0) t1 1600 (fby), (t2, .inl (cy 2, 24, .inr (.inl (fky)))), wO h0 4 [.ref h1, .ref h2, .ref h3, .ref h4, .ref h5, .ref h6, .ref h7, .ref h8, .ref h9, .ref h10, .ref h11, hv0, hv1, hv2, hv3, .int (nI uq21)], wO f0 3 [.ref f1, .ref f2, .int (nI nq21), y3], wI (cy 1) f1 280 (fa13_21)] H → va_D A [wO d0 10 [.ref t0, .ref d1, .ref h0, .ref f0, .int (nI oq21), .int wt, .int dt, .int vv, .int fz21, .int pz21], wO t0 9 [.ref t1, .ref t2, .int (nI tn), .int (nI aq21), .int (nI sq21), .int (nI kq21), .long fl5_21, .int rq21], wI (cy 0) t1 1600 (fby), (t2, .inl (cy 2, 24, .inr (.inl (fky)))), wO h0 4 [.ref h1, .ref h2, .ref h3, .ref h4, .ref h5, .ref h6, .ref h7, .ref h8, .ref h9, .ref h10, .ref h11, hv0, hv1, hv2, hv3, .int (nI uq21)], wO f0 3 [.ref f1, .ref f2, .int (nI nq21), y3], wI (cy 1) f1 280 (fa13_21)] → va_S A s.heap H locs → ∀ ls : Array Slot, lv_has ls 5 [(3, .int (nI i21)), (2, .int lb2_21), (0, .ref d0), (1, .int 6)] → W p l e (rmk 15 0 0) s m args below meth c H locs 0 0 Q (F0 m 8 ls []) := by
    try clear hP hD hS
    intro zn
    induction zn with
    | zero => intro lb2_21 i21 aq21 sq21 kq21 fl5_21 rq21 oq21 fz21 pz21 uq21 nq21 gq21 fa13_21 _ _ _ _ _ _ _ _ hz; exact absurd hz (by omega)
    | succ zn ih21 =>
      intro lb2_21 i21 aq21 sq21 kq21 fl5_21 rq21 oq21 fz21 pz21 uq21 nq21 gq21 fa13_21 ha14_21 hf0_21 hf1_21 hf2_21 hf3_21 hf4_21 hf5_21 hf6_21 hmu21 H locs hP hD hS ls hl
      rcases hf6_21 with ⟨hlb, hin9, htk9, hg1, hg2, hg3, hfz, hpz⟩ | ⟨hlb, hno9, hfl9⟩
      · subst hlb hfz hpz
        refine lv_iload_n hx hb dX10_takeTerm_8 rfl (lv_at hl 0 rfl) ?_
        refine lv_sipush (v := 1600) hx hb dX10_takeTerm_9 (by decide) ?_
        refine lv_icmp_ge (tgt := 69) hx hb dX10_takeTerm_12 (by decide) (fun c_22 => ?_) (fun c_22 => ?_)
        · have q_23 : 1600 ≤ i21 := q_le (a := 1600) (b := i21) rfl rfl (by omega) (by omega) c_22
          exact absurd q_23 (by omega)
        · have q_23 : i21 < 1600 := q_nle (a := 1600) (b := i21) rfl rfl (by omega) (by omega) c_22
          refine lv_iload_n hx hb dX10_takeTerm_15 rfl (lv_at hl 1 rfl) ?_
          refine lv_if_eq (tgt := 69) hx hb dX10_takeTerm_16 (by decide) (fun h => absurd h (by decide)) (fun _ => ?_)
          refine lv_aload_n hx hb dX10_takeTerm_19 rfl (lv_at hl 2 rfl) ?_
          refine va_get (D := D) (ci := 10) (v := .ref t0) (C := RX10) (T := TX10) (N := 10) hx hb hg i_X10 hown hK hP 0 rfl rfl 0 (by decide) (hg _ m_255) (fun _ h9 => h9) rfl dX10_takeTerm_20 ?_
          refine va_get (D := D) (ci := 9) (v := .int (nI kq21)) (C := RX9) (T := TX9) (N := 8) hx hb hg i_X9 hown hK hP 1 rfl rfl 5 (by decide) (hg _ m_222) (fun _ h9 => h9) rfl dX10_takeTerm_23 ?_
          refine x_callSi (wr := [wO d0 10 [.ref t0, .ref d1, .ref h0, .ref f0, .int (nI oq21), .int wt, .int dt, .int vv, .int fq, .int pq], wO t0 9 [.ref t1, .ref t2, .int (nI tn), .int (nI aq21), .int (nI sq21), .int (nI kq21), .long fl5_21, .int rq21], wI (cy 0) t1 1600 (fby), (t2, .inl (cy 2, 24, .inr (.inl (fky)))), wO h0 4 [.ref h1, .ref h2, .ref h3, .ref h4, .ref h5, .ref h6, .ref h7, .ref h8, .ref h9, .ref h10, .ref h11, hv0, hv1, hv2, hv3, .int (nI uq21)], wO f0 3 [.ref f1, .ref f2, .int (nI nq21), y3], wI (cy 1) f1 280 (fa13_21)]) (rest := []) ⟨hx, hb, hml, hown, hg, hl.1⟩ k_X10_201 (s_isOfTerm l D cy kq21 (by omega)) E0_blind hK hP hD hS hA [] [0, 1, 2, 3, 4, 5, 6] ⟨rfl, rfl, by decide +kernel, by decide +kernel, by decide +kernel⟩ (fun _ _ _ => trivial) dX10_takeTerm_26 rfl rfl (Nat.le_of_ble_eq_true rfl) ⟨Nat.le_of_ble_eq_true rfl, Nat.le_of_ble_eq_true rfl⟩ ⟨Nat.le_of_ble_eq_true rfl, Nat.le_of_ble_eq_true rfl⟩ (fun zr24 zu24 H locs hw24 hP9 hD9 hS9 => ?_)
          clear hP hD hS
          refine reW [wO d0 10 [.ref t0, .ref d1, .ref h0, .ref f0, .int (nI oq21), .int wt, .int dt, .int vv, .int fq, .int pq], wO t0 9 [.ref t1, .ref t2, .int (nI tn), .int (nI aq21), .int (nI sq21), .int (nI kq21), .long fl5_21, .int rq21], wI (cy 0) t1 1600 (fby), (t2, .inl (cy 2, 24, .inr (.inl (fky)))), wO h0 4 [.ref h1, .ref h2, .ref h3, .ref h4, .ref h5, .ref h6, .ref h7, .ref h8, .ref h9, .ref h10, .ref h11, hv0, hv1, hv2, hv3, .int (nI uq21)], wO f0 3 [.ref f1, .ref f2, .int (nI nq21), y3], wI (cy 1) f1 280 (fa13_21)] hP9 hD9 hS9 (fun hP hD hS => ?_)
          clear hP9 hD9 hS9
          refine W.widen (k := 0) (n := 0) (Nat.le_of_ble_eq_true rfl) (Nat.le_of_ble_eq_true rfl) ?_
          replace hw24 : ((zr24 = 1 ∧ (kq21 = 42 ∨ kq21 = 47 ∨ kq21 = 37)) ∨ (zr24 = 0 ∧ (¬ (kq21 = 42 ∨ kq21 = 47 ∨ kq21 = 37)))) := hw24
          have f_25 := hw24
          rcases f_25 with ⟨hz_27, a_26⟩ | ⟨hz_29, a_28⟩
          · subst hz_27
            refine lv_if_eq (tgt := 69) hx hb dX10_takeTerm_29 (by decide) (fun h => absurd h (by decide)) (fun _ => ?_)
            have hop := sg_6 (show knd fby tn gq21 = 42 ∨ knd fby tn gq21 = 47 ∨ knd fby tn gq21 = 37 from by have h9 := htk9.2.2.1; omega)
            have hgt_30 : gq21 < fin fby tn gq21 ∧ fin fby tn gq21 ≤ tn := ⟨fin_gt (by have h9 := htk9.2.2.1; omega), fin_le (by omega)⟩
            refine lv_aload_n hx hb dX10_takeTerm_32 rfl (lv_at hl 2 rfl) ?_
            refine va_get (D := D) (ci := 10) (v := .ref t0) (C := RX10) (T := TX10) (N := 10) hx hb hg i_X10 hown hK hP 0 rfl rfl 0 (by decide) (hg _ m_255) (fun _ h9 => h9) rfl dX10_takeTerm_33 ?_
            refine va_get (D := D) (ci := 9) (v := .int (nI kq21)) (C := RX9) (T := TX9) (N := 8) hx hb hg i_X9 hown hK hP 1 rfl rfl 5 (by decide) (hg _ m_222) (fun _ h9 => h9) rfl dX10_takeTerm_36 ?_
            refine lv_istore (lv' := [(4, .int (nI kq21)), (3, .int (nI i21)), (2, .int 1), (0, .ref d0), (1, .int 6)]) hx hb dX10_takeTerm_39 hl (by decide) rfl (fun ls hl => ?_)
            refine lv_aload_n hx hb dX10_takeTerm_41 rfl (lv_at hl 3 rfl) ?_
            refine va_get (D := D) (ci := 10) (v := .ref t0) (C := RX10) (T := TX10) (N := 10) hx hb hg i_X10 hown hK hP 0 rfl rfl 0 (by decide) (hg _ m_255) (fun _ h9 => h9) rfl dX10_takeTerm_42 ?_
            refine x_callVv (q := (RX9, TX9, 8)) (ci := 9) (q0 := 0) (wr := [wO d0 10 [.ref t0, .ref d1, .ref h0, .ref f0, .int (nI oq21), .int wt, .int dt, .int vv, .int fq, .int pq], wO h0 4 [.ref h1, .ref h2, .ref h3, .ref h4, .ref h5, .ref h6, .ref h7, .ref h8, .ref h9, .ref h10, .ref h11, hv0, hv1, hv2, hv3, .int (nI uq21)], wO f0 3 [.ref f1, .ref f2, .int (nI nq21), y3], wI (cy 1) f1 280 (fa13_21)]) (rest := []) ⟨hx, hb, hml, hown, hg, hl.1⟩ k_X10_140 (s_next l D cy adK adV t0 t1 t2 tn aq21 sq21 kq21 fl5_21 rq21 fby fky (fin fby tn gq21) (by omega) (by omega) (htk9.2.1) (hky)) EV_blind hK hP hD hS hA [1, 2, 3] [0, 4, 5, 6] ⟨rfl, rfl, by decide +kernel, by decide +kernel, by decide +kernel⟩ rfl rfl (fun U hU hW => EV_pass hE hS (va_free hD hS hA [1, 2, 3] rfl) hU hW) dX10_takeTerm_45 rfl rfl (Nat.le_of_ble_eq_true rfl) ⟨Nat.le_of_ble_eq_true rfl, Nat.le_of_ble_eq_true rfl⟩ ⟨Nat.le_of_ble_eq_true rfl, Nat.le_of_ble_eq_true rfl⟩ (fun zu31 H locs hw31 hP9 hD9 hS9 => ?_)
            clear hP hD hS
            obtain ⟨ta2_32, ts2_33, tk2_34, tm2_35, tr2_36⟩ := zu31
            refine reW [wO d0 10 [.ref t0, .ref d1, .ref h0, .ref f0, .int (nI oq21), .int wt, .int dt, .int vv, .int fq, .int pq], wO h0 4 [.ref h1, .ref h2, .ref h3, .ref h4, .ref h5, .ref h6, .ref h7, .ref h8, .ref h9, .ref h10, .ref h11, hv0, hv1, hv2, hv3, .int (nI uq21)], wO f0 3 [.ref f1, .ref f2, .int (nI nq21), y3], wI (cy 1) f1 280 (fa13_21), wO t0 9 [.ref t1, .ref t2, .int (nI tn), .int (nI ta2_32), .int (nI ts2_33), .int (nI tk2_34), .long tm2_35, .int tr2_36], wI (cy 0) t1 1600 (fby), (t2, .inl (cy 2, 24, .inr (.inl (fky))))] hP9 hD9 hS9 (fun hP hD hS => ?_)
            clear hP9 hD9 hS9
            refine W.widen (k := 0) (n := 0) (Nat.le_of_ble_eq_true rfl) (Nat.le_of_ble_eq_true rfl) ?_
            replace hw31 : (ta2_32 ≤ tn) ∧ (tk2_34 ≤ 123) ∧ (tkC fby tn (fin fby tn gq21) ta2_32 ts2_33 tk2_34 tm2_35 tr2_36) := hw31
            obtain ⟨f_37, f_38, f_39⟩ := hw31
            refine lv_aload_n hx hb dX10_takeTerm_48 rfl (lv_at hl 3 rfl) ?_
            refine lv_iload_n hx hb dX10_takeTerm_49 rfl (lv_at hl 4 rfl) ?_
            refine x_callVi (q := (RX10, TX10, 10)) (ci := 10) (q0 := 0) (wr := []) (rest := []) ⟨hx, hb, hml, hown, hg, hl.1⟩ k_X10_198 (s_takeUnit6 l D cy adK adV d0 d1 wt dt vv fq pq t0 t1 t2 tn ta2_32 ts2_33 tk2_34 tm2_35 tr2_36 fby fky h0 h1 h2 h3 h4 h5 h6 h7 h8 h9 h10 h11 hv0 hv1 hv2 hv3 oq21 uq21 f0 f1 f2 nq21 y3 fa13_21 (fin fby tn gq21) (by omega) (by omega) (by omega) (f_39) (hky) (by omega) (ha14_21) (by omega) (by omega) (by omega)) EV_blind hK hP hD hS hA [0, 4, 5, 6, 1, 2, 3] [] ⟨rfl, rfl, by decide +kernel, by decide +kernel, by decide +kernel⟩ rfl rfl (fun U hU hW => EV_pass hE hS (va_free hD hS hA [0, 4, 5, 6, 1, 2, 3] rfl) hU hW) dX10_takeTerm_50 rfl rfl (Nat.le_of_ble_eq_true rfl) ⟨Nat.le_of_ble_eq_true rfl, Nat.le_of_ble_eq_true rfl⟩ ⟨Nat.le_of_ble_eq_true rfl, Nat.le_of_ble_eq_true rfl⟩ (fun zr40 zu40 H locs hw40 hP9 hD9 hS9 => ?_)
            clear hP hD hS
            obtain ⟨ta2_41, ts2_42, tk2_43, tm2_44, tr2_45, fq2_46, pq2_47, ow2_48, un2_49, nf2_50, fco2_51, ga2_52⟩ := zu40
            refine reW [wO d0 10 [.ref t0, .ref d1, .ref h0, .ref f0, .int (nI ow2_48), .int wt, .int dt, .int vv, .int fq2_46, .int pq2_47], wO t0 9 [.ref t1, .ref t2, .int (nI tn), .int (nI ta2_41), .int (nI ts2_42), .int (nI tk2_43), .long tm2_44, .int tr2_45], wI (cy 0) t1 1600 (fby), (t2, .inl (cy 2, 24, .inr (.inl (fky)))), wO h0 4 [.ref h1, .ref h2, .ref h3, .ref h4, .ref h5, .ref h6, .ref h7, .ref h8, .ref h9, .ref h10, .ref h11, hv0, hv1, hv2, hv3, .int (nI un2_49)], wO f0 3 [.ref f1, .ref f2, .int (nI nf2_50), y3], wI (cy 1) f1 280 (fco2_51)] hP9 hD9 hS9 (fun hP hD hS => ?_)
            clear hP9 hD9 hS9
            refine W.widen (k := 0) (n := 0) (Nat.le_of_ble_eq_true rfl) (Nat.le_of_ble_eq_true rfl) ?_
            replace hw40 : (ta2_41 ≤ tn) ∧ (tk2_43 ≤ 123) ∧ (nf2_50 ≤ 280) ∧ (cOK fco2_51 nf2_50) ∧ (ow2_48 ≤ 30) ∧ (un2_49 ≤ 60) ∧ ((zr40 = 1 ∧ (okS (knd fby tn) (fin fby tn) 7 6 (fin fby tn gq21) oq21 uq21 ga2_52 ow2_48 un2_49) ∧ (fq = fq2_46) ∧ (pq = pq2_47) ∧ (tkC fby tn ga2_52 ta2_41 ts2_42 tk2_43 tm2_44 tr2_45) ∧ ((fin fby tn gq21) < ga2_52 ∧ ga2_52 ≤ tn)) ∨ (zr40 = 0 ∧ (noS (knd fby tn) (fin fby tn) 7 6 (fin fby tn gq21) oq21 uq21 ga2_52) ∧ (flt fby tn ga2_52 2 fq2_46 pq2_47))) := hw40
            obtain ⟨f_53, f_54, f_55, f_56, f_57, f_58, f_59⟩ := hw40
            rcases f_59 with ⟨hz_65, a_60, a_61, a_62, a_63, a_64⟩ | ⟨hz_68, a_66, a_67⟩
            · subst hz_65
              subst a_61
              subst a_62
              have hg_a_64 := a_64
              refine lv_istore_n (lv' := [(2, .int 1), (4, .int (nI kq21)), (3, .int (nI i21)), (0, .ref d0), (1, .int 6)]) hx hb dX10_takeTerm_53 rfl hl (by decide) rfl (fun ls hl => ?_)
              refine lv_aload_n hx hb dX10_takeTerm_54 rfl (lv_at hl 3 rfl) ?_
              refine va_get (D := D) (ci := 10) (v := .ref f0) (C := RX10) (T := TX10) (N := 10) hx hb hg i_X10 hown hK hP 0 rfl rfl 3 (by decide) (hg _ m_258) (fun _ h9 => h9) rfl dX10_takeTerm_55 ?_
              refine lv_iload hx hb dX10_takeTerm_58 (lv_at hl 1 rfl) ?_
              refine x_callVv (q := (RX3, TX3, 4)) (ci := 3) (q0 := 0) (wr := [wO d0 10 [.ref t0, .ref d1, .ref h0, .ref f0, .int (nI ow2_48), .int wt, .int dt, .int vv, .int fq, .int pq], wO t0 9 [.ref t1, .ref t2, .int (nI tn), .int (nI ta2_41), .int (nI ts2_42), .int (nI tk2_43), .long tm2_44, .int tr2_45], wI (cy 0) t1 1600 (fby), (t2, .inl (cy 2, 24, .inr (.inl (fky)))), wO h0 4 [.ref h1, .ref h2, .ref h3, .ref h4, .ref h5, .ref h6, .ref h7, .ref h8, .ref h9, .ref h10, .ref h11, hv0, hv1, hv2, hv3, .int (nI un2_49)]]) (rest := []) ⟨hx, hb, hml, hown, hg, hl.1⟩ k_X10_182 (s_addDeed l D cy f0 f1 f2 nf2_50 y3 fco2_51 kq21 (by omega) (f_56) (by omega)) E0_blind hK hP hD hS hA [5, 6] [0, 1, 2, 3, 4] ⟨rfl, rfl, by decide +kernel, by decide +kernel, by decide +kernel⟩ rfl rfl (fun _ _ _ => trivial) dX10_takeTerm_60 rfl rfl (Nat.le_of_ble_eq_true rfl) ⟨Nat.le_of_ble_eq_true rfl, Nat.le_of_ble_eq_true rfl⟩ ⟨Nat.le_of_ble_eq_true rfl, Nat.le_of_ble_eq_true rfl⟩ (fun zu69 H locs hw69 hP9 hD9 hS9 => ?_)
              clear hP hD hS
              obtain ⟨n2_70, fc2_71⟩ := zu69
              refine reW [wO d0 10 [.ref t0, .ref d1, .ref h0, .ref f0, .int (nI ow2_48), .int wt, .int dt, .int vv, .int fq, .int pq], wO t0 9 [.ref t1, .ref t2, .int (nI tn), .int (nI ta2_41), .int (nI ts2_42), .int (nI tk2_43), .long tm2_44, .int tr2_45], wI (cy 0) t1 1600 (fby), (t2, .inl (cy 2, 24, .inr (.inl (fky)))), wO h0 4 [.ref h1, .ref h2, .ref h3, .ref h4, .ref h5, .ref h6, .ref h7, .ref h8, .ref h9, .ref h10, .ref h11, hv0, hv1, hv2, hv3, .int (nI un2_49)], wO f0 3 [.ref f1, .ref f2, .int (nI n2_70), y3], wI (cy 1) f1 280 (fc2_71)] hP9 hD9 hS9 (fun hP hD hS => ?_)
              clear hP9 hD9 hS9
              refine W.widen (k := 0) (n := 0) (Nat.le_of_ble_eq_true rfl) (Nat.le_of_ble_eq_true rfl) ?_
              replace hw69 : (n2_70 ≤ 280) ∧ (cOK fc2_71 n2_70) := hw69
              obtain ⟨f_72, f_73⟩ := hw69
              refine lv_iinc (v := nI (i21 + 1)) (lv' := [(3, .int (nI (i21 + 1))), (2, .int 1), (4, .int (nI kq21)), (0, .ref d0), (1, .int 6)]) hx hb dX10_takeTerm_63 hl (k := 2) rfl (nI_add i21 1) (by decide) rfl (fun ls hl => ?_)
              refine lv_goto (tgt := 8) hx hb dX10_takeTerm_66 (by decide) ?_
              exact ih21  1 ((i21 + 1)) ta2_41 ts2_42 tk2_43 tm2_44 tr2_45 ow2_48 fq pq un2_49 n2_70 ga2_52 fc2_71 f_73 (by omega) (by omega) (by omega) (by omega) (by omega) (by omega) (Or.inl ⟨rfl, inS_step lvP67 hin9 hop.1 hop.2 a_60, a_63, by omega, by omega, by omega, rfl, rfl⟩) (by omega) _ _ (hP.sub [0, 1, 2, 3, 4, 5, 6] rfl) (hD.sub [0, 1, 2, 3, 4, 5, 6] (by decide +kernel) rfl) hS ls (lv_sub hl [0, 1, 3, 4] rfl)
            · subst hz_68
              refine lv_istore_n (lv' := [(2, .int 0), (4, .int (nI kq21)), (3, .int (nI i21)), (0, .ref d0), (1, .int 6)]) hx hb dX10_takeTerm_53 rfl hl (by decide) rfl (fun ls hl => ?_)
              refine lv_aload_n hx hb dX10_takeTerm_54 rfl (lv_at hl 3 rfl) ?_
              refine va_get (D := D) (ci := 10) (v := .ref f0) (C := RX10) (T := TX10) (N := 10) hx hb hg i_X10 hown hK hP 0 rfl rfl 3 (by decide) (hg _ m_258) (fun _ h9 => h9) rfl dX10_takeTerm_55 ?_
              refine lv_iload hx hb dX10_takeTerm_58 (lv_at hl 1 rfl) ?_
              refine x_callVv (q := (RX3, TX3, 4)) (ci := 3) (q0 := 0) (wr := [wO d0 10 [.ref t0, .ref d1, .ref h0, .ref f0, .int (nI ow2_48), .int wt, .int dt, .int vv, .int fq2_46, .int pq2_47], wO t0 9 [.ref t1, .ref t2, .int (nI tn), .int (nI ta2_41), .int (nI ts2_42), .int (nI tk2_43), .long tm2_44, .int tr2_45], wI (cy 0) t1 1600 (fby), (t2, .inl (cy 2, 24, .inr (.inl (fky)))), wO h0 4 [.ref h1, .ref h2, .ref h3, .ref h4, .ref h5, .ref h6, .ref h7, .ref h8, .ref h9, .ref h10, .ref h11, hv0, hv1, hv2, hv3, .int (nI un2_49)]]) (rest := []) ⟨hx, hb, hml, hown, hg, hl.1⟩ k_X10_182 (s_addDeed l D cy f0 f1 f2 nf2_50 y3 fco2_51 kq21 (by omega) (f_56) (by omega)) E0_blind hK hP hD hS hA [5, 6] [0, 1, 2, 3, 4] ⟨rfl, rfl, by decide +kernel, by decide +kernel, by decide +kernel⟩ rfl rfl (fun _ _ _ => trivial) dX10_takeTerm_60 rfl rfl (Nat.le_of_ble_eq_true rfl) ⟨Nat.le_of_ble_eq_true rfl, Nat.le_of_ble_eq_true rfl⟩ ⟨Nat.le_of_ble_eq_true rfl, Nat.le_of_ble_eq_true rfl⟩ (fun zu74 H locs hw74 hP9 hD9 hS9 => ?_)
              clear hP hD hS
              obtain ⟨n2_75, fc2_76⟩ := zu74
              refine reW [wO d0 10 [.ref t0, .ref d1, .ref h0, .ref f0, .int (nI ow2_48), .int wt, .int dt, .int vv, .int fq2_46, .int pq2_47], wO t0 9 [.ref t1, .ref t2, .int (nI tn), .int (nI ta2_41), .int (nI ts2_42), .int (nI tk2_43), .long tm2_44, .int tr2_45], wI (cy 0) t1 1600 (fby), (t2, .inl (cy 2, 24, .inr (.inl (fky)))), wO h0 4 [.ref h1, .ref h2, .ref h3, .ref h4, .ref h5, .ref h6, .ref h7, .ref h8, .ref h9, .ref h10, .ref h11, hv0, hv1, hv2, hv3, .int (nI un2_49)], wO f0 3 [.ref f1, .ref f2, .int (nI n2_75), y3], wI (cy 1) f1 280 (fc2_76)] hP9 hD9 hS9 (fun hP hD hS => ?_)
              clear hP9 hD9 hS9
              refine W.widen (k := 0) (n := 0) (Nat.le_of_ble_eq_true rfl) (Nat.le_of_ble_eq_true rfl) ?_
              replace hw74 : (n2_75 ≤ 280) ∧ (cOK fc2_76 n2_75) := hw74
              obtain ⟨f_77, f_78⟩ := hw74
              refine lv_iinc (v := nI (i21 + 1)) (lv' := [(3, .int (nI (i21 + 1))), (2, .int 0), (4, .int (nI kq21)), (0, .ref d0), (1, .int 6)]) hx hb dX10_takeTerm_63 hl (k := 2) rfl (nI_add i21 1) (by decide) rfl (fun ls hl => ?_)
              refine lv_goto (tgt := 8) hx hb dX10_takeTerm_66 (by decide) ?_
              exact ih21  0 ((i21 + 1)) ta2_41 ts2_42 tk2_43 tm2_44 tr2_45 ow2_48 fq2_46 pq2_47 un2_49 n2_75 ga2_52 fc2_76 f_78 (by omega) (by omega) (by omega) (by omega) (by omega) (by omega) (Or.inr ⟨rfl, inS_bad lvP67 hin9 hop.1 hop.2 a_66, a_67⟩) (by omega) _ _ (hP.sub [0, 1, 2, 3, 4, 5, 6] rfl) (hD.sub [0, 1, 2, 3, 4, 5, 6] (by decide +kernel) rfl) hS ls (lv_sub hl [0, 1, 3, 4] rfl)
          · subst hz_29
            refine lv_if_eq (tgt := 69) hx hb dX10_takeTerm_29 (by decide) (fun _ => ?_) (fun h => absurd (by decide) h)
            refine lv_iload_n hx hb dX10_takeTerm_69 rfl (lv_at hl 1 rfl) ?_
            exact x_zret hQ hx hb hr hlocks hK hP hD hS rfl dX10_takeTerm_70 (aq21, sq21, kq21, fl5_21, rq21, fq, pq, oq21, uq21, nq21, fa13_21, gq21) (⟨(show aq21 ≤ tn from by omega), (show kq21 ≤ 123 from by omega), (show nq21 ≤ 280 from by omega), ha14_21, (show oq21 ≤ 30 from by omega), (show uq21 ≤ 60 from by omega), (show ((1 : Int32) = 1 ∧ (okS (knd fby tn) (fin fby tn) 6 6 ga ow un gq21 oq21 uq21) ∧ (fq = fq) ∧ (pq = pq) ∧ (tkC fby tn gq21 aq21 sq21 kq21 fl5_21 rq21) ∧ (ga < gq21 ∧ gq21 ≤ tn)) ∨ ((1 : Int32) = 0 ∧ (noS (knd fby tn) (fin fby tn) 6 6 ga ow un gq21) ∧ (flt fby tn gq21 2 fq pq)) from Or.inl ⟨rfl, (inS_end lvP67 hin9 (sg_ne6 (by have h9 := htk9.2.2.1; omega))), (rfl), (rfl), (htk9), (⟨by omega, by omega⟩)⟩)⟩) [0, 1, 2, 3, 4, 5, 6] (by decide +kernel) rfl (Nat.le_of_ble_eq_true rfl) (Nat.le_of_ble_eq_true rfl)
      · subst hlb
        refine lv_iload_n hx hb dX10_takeTerm_8 rfl (lv_at hl 0 rfl) ?_
        refine lv_sipush (v := 1600) hx hb dX10_takeTerm_9 (by decide) ?_
        refine lv_icmp_ge (tgt := 69) hx hb dX10_takeTerm_12 (by decide) (fun c_79 => ?_) (fun c_79 => ?_)
        · have q_80 : 1600 ≤ i21 := q_le (a := 1600) (b := i21) rfl rfl (by omega) (by omega) c_79
          refine lv_iload_n hx hb dX10_takeTerm_69 rfl (lv_at hl 1 rfl) ?_
          exact x_zret hQ hx hb hr hlocks hK hP hD hS rfl dX10_takeTerm_70 (aq21, sq21, kq21, fl5_21, rq21, fz21, pz21, oq21, uq21, nq21, fa13_21, gq21) (⟨(show aq21 ≤ tn from by omega), (show kq21 ≤ 123 from by omega), (show nq21 ≤ 280 from by omega), ha14_21, (show oq21 ≤ 30 from by omega), (show uq21 ≤ 60 from by omega), (show ((0 : Int32) = 1 ∧ (okS (knd fby tn) (fin fby tn) 6 6 ga ow un gq21 oq21 uq21) ∧ (fq = fz21) ∧ (pq = pz21) ∧ (tkC fby tn gq21 aq21 sq21 kq21 fl5_21 rq21) ∧ (ga < gq21 ∧ gq21 ≤ tn)) ∨ ((0 : Int32) = 0 ∧ (noS (knd fby tn) (fin fby tn) 6 6 ga ow un gq21) ∧ (flt fby tn gq21 2 fz21 pz21)) from Or.inr (⟨rfl, (hno9), (hfl9)⟩))⟩) [0, 1, 2, 3, 4, 5, 6] (by decide +kernel) rfl (Nat.le_of_ble_eq_true rfl) (Nat.le_of_ble_eq_true rfl)
        · have q_80 : i21 < 1600 := q_nle (a := 1600) (b := i21) rfl rfl (by omega) (by omega) c_79
          refine lv_iload_n hx hb dX10_takeTerm_15 rfl (lv_at hl 1 rfl) ?_
          refine lv_if_eq (tgt := 69) hx hb dX10_takeTerm_16 (by decide) (fun _ => ?_) (fun h => absurd (by decide) h)
          refine lv_iload_n hx hb dX10_takeTerm_69 rfl (lv_at hl 1 rfl) ?_
          exact x_zret hQ hx hb hr hlocks hK hP hD hS rfl dX10_takeTerm_70 (aq21, sq21, kq21, fl5_21, rq21, fz21, pz21, oq21, uq21, nq21, fa13_21, gq21) (⟨(show aq21 ≤ tn from by omega), (show kq21 ≤ 123 from by omega), (show nq21 ≤ 280 from by omega), ha14_21, (show oq21 ≤ 30 from by omega), (show uq21 ≤ 60 from by omega), (show ((0 : Int32) = 1 ∧ (okS (knd fby tn) (fin fby tn) 6 6 ga ow un gq21 oq21 uq21) ∧ (fq = fz21) ∧ (pq = pz21) ∧ (tkC fby tn gq21 aq21 sq21 kq21 fl5_21 rq21) ∧ (ga < gq21 ∧ gq21 ≤ tn)) ∨ ((0 : Int32) = 0 ∧ (noS (knd fby tn) (fin fby tn) 6 6 ga ow un gq21) ∧ (flt fby tn gq21 2 fz21 pz21)) from Or.inr (⟨rfl, (hno9), (hfl9)⟩))⟩) [0, 1, 2, 3, 4, 5, 6] (by decide +kernel) rfl (Nat.le_of_ble_eq_true rfl) (Nat.le_of_ble_eq_true rfl)
  exact loop21 _ zr1 0 ta2_2 ts2_3 tk2_4 tm2_5 tr2_6 ow2_9 fq2_7 pq2_8 un2_10 nf2_11 ga2_13 fco2_12 f_17 (by omega) (by omega) (by omega) (by omega) (by omega) (by omega) (by rcases f_20 with ⟨hx0, hxk, hxq, hxp, hxt, hxg⟩ | ⟨hx0, hxn, hxl⟩; exact Or.inl ⟨hx0, inS_0 lvP67 hxk, hxt, hxg.1, hxg.2, by omega, hxq, hxp⟩; exact Or.inr ⟨hx0, noS_0 lvP67 hxn, hxl⟩) (Nat.le_refl _) _ _ (hP.sub [0, 1, 2, 3, 4, 5, 6] rfl) (hD.sub [0, 1, 2, 3, 4, 5, 6] (by decide +kernel) rfl) hS ls (lv_sub hl [0, 1, 2, 3] rfl)
set_option maxHeartbeats 1000000 in
set_option maxRecDepth 100000 in
theorem s_takeSum6 (l : Launch) (D : va_G) (cy : Nat → ClassId) (adK : Nat → Nat) (adV : Nat → Nat) (d0 : Nat) (d1 : Nat) (wt : Int32) (dt : Int32) (vv : Int32) (fq : Int32) (pq : Int32) (t0 : Nat) (t1 : Nat) (t2 : Nat) (tn : Nat) (ta : Nat) (ts : Nat) (tk : Nat) (tm : Int64) (tr : Int32) (fby : Nat → Int32) (fky : Nat → Int64) (h0 : Nat) (h1 : Nat) (h2 : Nat) (h3 : Nat) (h4 : Nat) (h5 : Nat) (h6 : Nat) (h7 : Nat) (h8 : Nat) (h9 : Nat) (h10 : Nat) (h11 : Nat) (hv0 : Value) (hv1 : Value) (hv2 : Value) (hv3 : Value) (ow : Nat) (un : Nat) (f0 : Nat) (f1 : Nat) (f2 : Nat) (nf : Nat) (y3 : Value) (fco : Nat → Int32) (ga : Nat) (htn : tn ≤ 1600) (hta : ta ≤ tn) (htk : tk ≤ 123) (hti : tkC fby tn ga ta ts tk tm tr) (hky : kyOK fky) (hnf : nf ≤ 280) (hfc : cOK fco nf) (how : ow ≤ 30) (hun : un ≤ 60) (hga : ga ≤ tn) : XMi l D (tyL cy) (EV adK adV) yX10_takeSum cX10_takeSum 5 (some .boolean) (rmk 16 0 0) [.ref d0, .int 6] [wO d0 10 [.ref t0, .ref d1, .ref h0, .ref f0, .int (nI ow), .int wt, .int dt, .int vv, .int fq, .int pq], wO t0 9 [.ref t1, .ref t2, .int (nI tn), .int (nI ta), .int (nI ts), .int (nI tk), .long tm, .int tr], wI (cy 0) t1 1600 (fby), (t2, .inl (cy 2, 24, .inr (.inl (fky)))), wO h0 4 [.ref h1, .ref h2, .ref h3, .ref h4, .ref h5, .ref h6, .ref h7, .ref h8, .ref h9, .ref h10, .ref h11, hv0, hv1, hv2, hv3, .int (nI un)], wO f0 3 [.ref f1, .ref f2, .int (nI nf), y3], wI (cy 1) f1 280 (fco)] (fun (r : Int32) (u : Nat × Nat × Nat × Int64 × Int32 × Int32 × Int32 × Nat × Nat × Nat × (Nat → Int32) × Nat) => (u.1 ≤ tn) ∧ (u.2.2.1 ≤ 123) ∧ (u.2.2.2.2.2.2.2.2.2.1 ≤ 280) ∧ (cOK u.2.2.2.2.2.2.2.2.2.2.1 u.2.2.2.2.2.2.2.2.2.1) ∧ (u.2.2.2.2.2.2.2.1 ≤ 30) ∧ (u.2.2.2.2.2.2.2.2.1 ≤ 60) ∧ ((r = 1 ∧ (okS (knd fby tn) (fin fby tn) 5 6 ga ow un u.2.2.2.2.2.2.2.2.2.2.2 u.2.2.2.2.2.2.2.1 u.2.2.2.2.2.2.2.2.1) ∧ (fq = u.2.2.2.2.2.1) ∧ (pq = u.2.2.2.2.2.2.1) ∧ (tkC fby tn u.2.2.2.2.2.2.2.2.2.2.2 u.1 u.2.1 u.2.2.1 u.2.2.2.1 u.2.2.2.2.1) ∧ (ga < u.2.2.2.2.2.2.2.2.2.2.2 ∧ u.2.2.2.2.2.2.2.2.2.2.2 ≤ tn)) ∨ (r = 0 ∧ (noS (knd fby tn) (fin fby tn) 5 6 ga ow un u.2.2.2.2.2.2.2.2.2.2.2) ∧ (flt fby tn u.2.2.2.2.2.2.2.2.2.2.2 2 u.2.2.2.2.2.1 u.2.2.2.2.2.2.1)))) (fun (u : Nat × Nat × Nat × Int64 × Int32 × Int32 × Int32 × Nat × Nat × Nat × (Nat → Int32) × Nat) => [wO d0 10 [.ref t0, .ref d1, .ref h0, .ref f0, .int (nI u.2.2.2.2.2.2.2.1), .int wt, .int dt, .int vv, .int u.2.2.2.2.2.1, .int u.2.2.2.2.2.2.1], wO t0 9 [.ref t1, .ref t2, .int (nI tn), .int (nI u.1), .int (nI u.2.1), .int (nI u.2.2.1), .long u.2.2.2.1, .int u.2.2.2.2.1], wI (cy 0) t1 1600 (fby), (t2, .inl (cy 2, 24, .inr (.inl (fky)))), wO h0 4 [.ref h1, .ref h2, .ref h3, .ref h4, .ref h5, .ref h6, .ref h7, .ref h8, .ref h9, .ref h10, .ref h11, hv0, hv1, hv2, hv3, .int (nI u.2.2.2.2.2.2.2.2.1)], wO f0 3 [.ref f1, .ref f2, .int (nI u.2.2.2.2.2.2.2.2.2.1), y3], wI (cy 1) f1 280 (u.2.2.2.2.2.2.2.2.2.2.1)]) := by
  refine XMi.start (by decide) (Nat.le_of_ble_eq_true rfl) ?_
  intro p e s m below meth c args A ls Q hat hQ
  obtain ⟨hx, hb, hr, hml, hown, hg, hlocks, hin, hK, hA, hP, hD, hS, hE, hl⟩ := hat
  have hown : s.vm.findClass RX10 = some m.cls := hown
  have hl : lv_has ls 5 [(0, .ref d0), (1, .int 6)] := hl
  refine lv_aload_n hx hb dX10_takeSum_0 rfl (lv_at hl 0 rfl) ?_
  refine lv_iload_n hx hb dX10_takeSum_1 rfl (lv_at hl 1 rfl) ?_
  refine x_callVi (q := (RX10, TX10, 10)) (ci := 10) (q0 := 0) (wr := []) (rest := []) ⟨hx, hb, hml, hown, hg, hl.1⟩ k_X10_195 (s_takeTerm6 l D cy adK adV d0 d1 wt dt vv fq pq t0 t1 t2 tn ta ts tk tm tr fby fky h0 h1 h2 h3 h4 h5 h6 h7 h8 h9 h10 h11 hv0 hv1 hv2 hv3 ow un f0 f1 f2 nf y3 fco ga (by omega) (by omega) (by omega) (hti) (hky) (by omega) (hfc) (by omega) (by omega) (by omega)) EV_blind hK hP hD hS hA [0, 1, 2, 3, 4, 5, 6] [] ⟨rfl, rfl, by decide +kernel, by decide +kernel, by decide +kernel⟩ rfl rfl (fun U hU hW => EV_pass hE hS (va_free hD hS hA [0, 1, 2, 3, 4, 5, 6] rfl) hU hW) dX10_takeSum_2 rfl rfl (Nat.le_of_ble_eq_true rfl) ⟨Nat.le_of_ble_eq_true rfl, Nat.le_of_ble_eq_true rfl⟩ ⟨Nat.le_of_ble_eq_true rfl, Nat.le_of_ble_eq_true rfl⟩ (fun zr1 zu1 H locs hw1 hP9 hD9 hS9 => ?_)
  clear hP hD hS
  obtain ⟨ta2_2, ts2_3, tk2_4, tm2_5, tr2_6, fq2_7, pq2_8, ow2_9, un2_10, nf2_11, fco2_12, ga2_13⟩ := zu1
  refine reW [wO d0 10 [.ref t0, .ref d1, .ref h0, .ref f0, .int (nI ow2_9), .int wt, .int dt, .int vv, .int fq2_7, .int pq2_8], wO t0 9 [.ref t1, .ref t2, .int (nI tn), .int (nI ta2_2), .int (nI ts2_3), .int (nI tk2_4), .long tm2_5, .int tr2_6], wI (cy 0) t1 1600 (fby), (t2, .inl (cy 2, 24, .inr (.inl (fky)))), wO h0 4 [.ref h1, .ref h2, .ref h3, .ref h4, .ref h5, .ref h6, .ref h7, .ref h8, .ref h9, .ref h10, .ref h11, hv0, hv1, hv2, hv3, .int (nI un2_10)], wO f0 3 [.ref f1, .ref f2, .int (nI nf2_11), y3], wI (cy 1) f1 280 (fco2_12)] hP9 hD9 hS9 (fun hP hD hS => ?_)
  clear hP9 hD9 hS9
  refine W.widen (k := 0) (n := 0) (Nat.le_of_ble_eq_true rfl) (Nat.le_of_ble_eq_true rfl) ?_
  replace hw1 : (ta2_2 ≤ tn) ∧ (tk2_4 ≤ 123) ∧ (nf2_11 ≤ 280) ∧ (cOK fco2_12 nf2_11) ∧ (ow2_9 ≤ 30) ∧ (un2_10 ≤ 60) ∧ ((zr1 = 1 ∧ (okS (knd fby tn) (fin fby tn) 6 6 ga ow un ga2_13 ow2_9 un2_10) ∧ (fq = fq2_7) ∧ (pq = pq2_8) ∧ (tkC fby tn ga2_13 ta2_2 ts2_3 tk2_4 tm2_5 tr2_6) ∧ (ga < ga2_13 ∧ ga2_13 ≤ tn)) ∨ (zr1 = 0 ∧ (noS (knd fby tn) (fin fby tn) 6 6 ga ow un ga2_13) ∧ (flt fby tn ga2_13 2 fq2_7 pq2_8))) := hw1
  obtain ⟨f_14, f_15, f_16, f_17, f_18, f_19, f_20⟩ := hw1
  refine lv_istore_n (lv' := [(2, .int zr1), (0, .ref d0), (1, .int 6)]) hx hb dX10_takeSum_5 rfl hl (by decide) rfl (fun ls hl => ?_)
  refine lv_iconst (v := 0) hx hb dX10_takeSum_6 (by decide) ?_
  refine lv_istore_n (lv' := [(3, .int 0), (2, .int zr1), (0, .ref d0), (1, .int 6)]) hx hb dX10_takeSum_7 rfl hl (by decide) rfl (fun ls hl => ?_)
  have loop21 : ∀ (zn : Nat) (lb2_21 : Int32) (i21 : Nat) (aq21 : Nat) (sq21 : Nat) (kq21 : Nat) (fl5_21 : Int64) (rq21 : Int32) (oq21 : Nat) (fz21 : Int32) (pz21 : Int32) (uq21 : Nat) (nq21 : Nat) (gq21 : Nat) (fa13_21 : Nat → Int32), (cOK fa13_21 nq21) → (i21 ≤ 1600) → (aq21 ≤ tn) → (kq21 ≤ 123) → (nq21 ≤ 280) → (oq21 ≤ 30) → (uq21 ≤ 60) → ((lb2_21 = 1 ∧ inS (knd fby tn) (fin fby tn) 5 6 6 ga ow un gq21 oq21 uq21 ∧ tkC fby tn gq21 aq21 sq21 kq21 fl5_21 rq21 ∧ ga < gq21 ∧ gq21 ≤ tn ∧ i21 < gq21 ∧ fq = fz21 ∧ pq = pz21) ∨ (lb2_21 = 0 ∧ noS (knd fby tn) (fin fby tn) 5 6 ga ow un gq21 ∧ flt fby tn gq21 2 fz21 pz21)) → 1600 - i21 + 1 ≤ zn → ∀ (H : Heap) (locs : List Loc), va_P D vwCl [wO d0 10 [.ref t0, .ref d1, .ref h0, .ref f0, .int (nI oq21), .int wt, .int dt, .int vv, .int fz21, .int pz21], wO t0 9 [.ref t1, .ref t2, .int (nI tn), .int (nI aq21), .int (nI sq21), .int (nI kq21), .long fl5_21, .int rq21], wI (cy 0) t1 1600 (fby), (t2, .inl (cy 2, 24, .inr (.inl (fky)))), wO h0 4 [.ref h1, .ref h2, .ref h3, .ref h4, .ref h5, .ref h6, .ref h7, .ref h8, .ref h9, .ref h10, .ref h11, hv0, hv1, hv2, hv3, .int (nI uq21)], wO f0 3 [.ref f1, .ref f2, .int (nI nq21), y3], wI (cy 1) f1 280 (fa13_21)] H → va_D A [wO d0 10 [.ref t0, .ref d1, .ref h0, .ref f0, .int (nI oq21), .int wt, .int dt, .int vv, .int fz21, .int pz21], wO t0 9 [.ref t1, .ref t2, .int (nI tn), .int (nI aq21), .int (nI sq21), .int (nI kq21), .long fl5_21, .int rq21], wI (cy 0) t1 1600 (fby), (t2, .inl (cy 2, 24, .inr (.inl (fky)))), wO h0 4 [.ref h1, .ref h2, .ref h3, .ref h4, .ref h5, .ref h6, .ref h7, .ref h8, .ref h9, .ref h10, .ref h11, hv0, hv1, hv2, hv3, .int (nI uq21)], wO f0 3 [.ref f1, .ref f2, .int (nI nq21), y3], wI (cy 1) f1 280 (fa13_21)] → va_S A s.heap H locs → ∀ ls : Array Slot, lv_has ls 5 [(3, .int (nI i21)), (2, .int lb2_21), (0, .ref d0), (1, .int 6)] → W p l e (rmk 16 0 0) s m args below meth c H locs 0 0 Q (F0 m 8 ls []) := by
    try clear hP hD hS
    intro zn
    induction zn with
    | zero => intro lb2_21 i21 aq21 sq21 kq21 fl5_21 rq21 oq21 fz21 pz21 uq21 nq21 gq21 fa13_21 _ _ _ _ _ _ _ _ hz; exact absurd hz (by omega)
    | succ zn ih21 =>
      intro lb2_21 i21 aq21 sq21 kq21 fl5_21 rq21 oq21 fz21 pz21 uq21 nq21 gq21 fa13_21 ha14_21 hf0_21 hf1_21 hf2_21 hf3_21 hf4_21 hf5_21 hf6_21 hmu21 H locs hP hD hS ls hl
      rcases hf6_21 with ⟨hlb, hin9, htk9, hg1, hg2, hg3, hfz, hpz⟩ | ⟨hlb, hno9, hfl9⟩
      · subst hlb hfz hpz
        refine lv_iload_n hx hb dX10_takeSum_8 rfl (lv_at hl 0 rfl) ?_
        refine lv_sipush (v := 1600) hx hb dX10_takeSum_9 (by decide) ?_
        refine lv_icmp_ge (tgt := 80) hx hb dX10_takeSum_12 (by decide) (fun c_22 => ?_) (fun c_22 => ?_)
        · have q_23 : 1600 ≤ i21 := q_le (a := 1600) (b := i21) rfl rfl (by omega) (by omega) c_22
          exact absurd q_23 (by omega)
        · have q_23 : i21 < 1600 := q_nle (a := 1600) (b := i21) rfl rfl (by omega) (by omega) c_22
          refine lv_iload_n hx hb dX10_takeSum_15 rfl (lv_at hl 1 rfl) ?_
          refine lv_if_eq (tgt := 80) hx hb dX10_takeSum_16 (by decide) (fun h => absurd h (by decide)) (fun _ => ?_)
          refine lv_aload_n hx hb dX10_takeSum_19 rfl (lv_at hl 2 rfl) ?_
          refine va_get (D := D) (ci := 10) (v := .ref t0) (C := RX10) (T := TX10) (N := 10) hx hb hg i_X10 hown hK hP 0 rfl rfl 0 (by decide) (hg _ m_255) (fun _ h9 => h9) rfl dX10_takeSum_20 ?_
          refine va_get (D := D) (ci := 9) (v := .int (nI kq21)) (C := RX9) (T := TX9) (N := 8) hx hb hg i_X9 hown hK hP 1 rfl rfl 5 (by decide) (hg _ m_222) (fun _ h9 => h9) rfl dX10_takeSum_23 ?_
          refine lv_bipush (v := 43) hx hb dX10_takeSum_26 (by decide) ?_
          refine lv_icmp_eq (tgt := 43) hx hb dX10_takeSum_28 (by decide) (fun c_24 => ?_) (fun c_24 => ?_)
          · have q_25 : kq21 = 43 := q_eq (a := kq21) (b := 43) rfl rfl (by omega) (by omega) c_24
            have hop := sg_5 (show knd fby tn gq21 = 43 ∨ knd fby tn gq21 = 45 from by have h9 := htk9.2.2.1; omega)
            have hgt_26 : gq21 < fin fby tn gq21 ∧ fin fby tn gq21 ≤ tn := ⟨fin_gt (by have h9 := htk9.2.2.1; omega), fin_le (by omega)⟩
            refine lv_aload_n hx hb dX10_takeSum_43 rfl (lv_at hl 2 rfl) ?_
            refine va_get (D := D) (ci := 10) (v := .ref t0) (C := RX10) (T := TX10) (N := 10) hx hb hg i_X10 hown hK hP 0 rfl rfl 0 (by decide) (hg _ m_255) (fun _ h9 => h9) rfl dX10_takeSum_44 ?_
            refine va_get (D := D) (ci := 9) (v := .int (nI kq21)) (C := RX9) (T := TX9) (N := 8) hx hb hg i_X9 hown hK hP 1 rfl rfl 5 (by decide) (hg _ m_222) (fun _ h9 => h9) rfl dX10_takeSum_47 ?_
            refine lv_istore (lv' := [(4, .int (nI kq21)), (3, .int (nI i21)), (2, .int 1), (0, .ref d0), (1, .int 6)]) hx hb dX10_takeSum_50 hl (by decide) rfl (fun ls hl => ?_)
            refine lv_aload_n hx hb dX10_takeSum_52 rfl (lv_at hl 3 rfl) ?_
            refine va_get (D := D) (ci := 10) (v := .ref t0) (C := RX10) (T := TX10) (N := 10) hx hb hg i_X10 hown hK hP 0 rfl rfl 0 (by decide) (hg _ m_255) (fun _ h9 => h9) rfl dX10_takeSum_53 ?_
            refine x_callVv (q := (RX9, TX9, 8)) (ci := 9) (q0 := 0) (wr := [wO d0 10 [.ref t0, .ref d1, .ref h0, .ref f0, .int (nI oq21), .int wt, .int dt, .int vv, .int fq, .int pq], wO h0 4 [.ref h1, .ref h2, .ref h3, .ref h4, .ref h5, .ref h6, .ref h7, .ref h8, .ref h9, .ref h10, .ref h11, hv0, hv1, hv2, hv3, .int (nI uq21)], wO f0 3 [.ref f1, .ref f2, .int (nI nq21), y3], wI (cy 1) f1 280 (fa13_21)]) (rest := []) ⟨hx, hb, hml, hown, hg, hl.1⟩ k_X10_140 (s_next l D cy adK adV t0 t1 t2 tn aq21 sq21 kq21 fl5_21 rq21 fby fky (fin fby tn gq21) (by omega) (by omega) (htk9.2.1) (hky)) EV_blind hK hP hD hS hA [1, 2, 3] [0, 4, 5, 6] ⟨rfl, rfl, by decide +kernel, by decide +kernel, by decide +kernel⟩ rfl rfl (fun U hU hW => EV_pass hE hS (va_free hD hS hA [1, 2, 3] rfl) hU hW) dX10_takeSum_56 rfl rfl (Nat.le_of_ble_eq_true rfl) ⟨Nat.le_of_ble_eq_true rfl, Nat.le_of_ble_eq_true rfl⟩ ⟨Nat.le_of_ble_eq_true rfl, Nat.le_of_ble_eq_true rfl⟩ (fun zu27 H locs hw27 hP9 hD9 hS9 => ?_)
            clear hP hD hS
            obtain ⟨ta2_28, ts2_29, tk2_30, tm2_31, tr2_32⟩ := zu27
            refine reW [wO d0 10 [.ref t0, .ref d1, .ref h0, .ref f0, .int (nI oq21), .int wt, .int dt, .int vv, .int fq, .int pq], wO h0 4 [.ref h1, .ref h2, .ref h3, .ref h4, .ref h5, .ref h6, .ref h7, .ref h8, .ref h9, .ref h10, .ref h11, hv0, hv1, hv2, hv3, .int (nI uq21)], wO f0 3 [.ref f1, .ref f2, .int (nI nq21), y3], wI (cy 1) f1 280 (fa13_21), wO t0 9 [.ref t1, .ref t2, .int (nI tn), .int (nI ta2_28), .int (nI ts2_29), .int (nI tk2_30), .long tm2_31, .int tr2_32], wI (cy 0) t1 1600 (fby), (t2, .inl (cy 2, 24, .inr (.inl (fky))))] hP9 hD9 hS9 (fun hP hD hS => ?_)
            clear hP9 hD9 hS9
            refine W.widen (k := 0) (n := 0) (Nat.le_of_ble_eq_true rfl) (Nat.le_of_ble_eq_true rfl) ?_
            replace hw27 : (ta2_28 ≤ tn) ∧ (tk2_30 ≤ 123) ∧ (tkC fby tn (fin fby tn gq21) ta2_28 ts2_29 tk2_30 tm2_31 tr2_32) := hw27
            obtain ⟨f_33, f_34, f_35⟩ := hw27
            refine lv_aload_n hx hb dX10_takeSum_59 rfl (lv_at hl 3 rfl) ?_
            refine lv_iload_n hx hb dX10_takeSum_60 rfl (lv_at hl 4 rfl) ?_
            refine x_callVi (q := (RX10, TX10, 10)) (ci := 10) (q0 := 0) (wr := []) (rest := []) ⟨hx, hb, hml, hown, hg, hl.1⟩ k_X10_195 (s_takeTerm6 l D cy adK adV d0 d1 wt dt vv fq pq t0 t1 t2 tn ta2_28 ts2_29 tk2_30 tm2_31 tr2_32 fby fky h0 h1 h2 h3 h4 h5 h6 h7 h8 h9 h10 h11 hv0 hv1 hv2 hv3 oq21 uq21 f0 f1 f2 nq21 y3 fa13_21 (fin fby tn gq21) (by omega) (by omega) (by omega) (f_35) (hky) (by omega) (ha14_21) (by omega) (by omega) (by omega)) EV_blind hK hP hD hS hA [0, 4, 5, 6, 1, 2, 3] [] ⟨rfl, rfl, by decide +kernel, by decide +kernel, by decide +kernel⟩ rfl rfl (fun U hU hW => EV_pass hE hS (va_free hD hS hA [0, 4, 5, 6, 1, 2, 3] rfl) hU hW) dX10_takeSum_61 rfl rfl (Nat.le_of_ble_eq_true rfl) ⟨Nat.le_of_ble_eq_true rfl, Nat.le_of_ble_eq_true rfl⟩ ⟨Nat.le_of_ble_eq_true rfl, Nat.le_of_ble_eq_true rfl⟩ (fun zr36 zu36 H locs hw36 hP9 hD9 hS9 => ?_)
            clear hP hD hS
            obtain ⟨ta2_37, ts2_38, tk2_39, tm2_40, tr2_41, fq2_42, pq2_43, ow2_44, un2_45, nf2_46, fco2_47, ga2_48⟩ := zu36
            refine reW [wO d0 10 [.ref t0, .ref d1, .ref h0, .ref f0, .int (nI ow2_44), .int wt, .int dt, .int vv, .int fq2_42, .int pq2_43], wO t0 9 [.ref t1, .ref t2, .int (nI tn), .int (nI ta2_37), .int (nI ts2_38), .int (nI tk2_39), .long tm2_40, .int tr2_41], wI (cy 0) t1 1600 (fby), (t2, .inl (cy 2, 24, .inr (.inl (fky)))), wO h0 4 [.ref h1, .ref h2, .ref h3, .ref h4, .ref h5, .ref h6, .ref h7, .ref h8, .ref h9, .ref h10, .ref h11, hv0, hv1, hv2, hv3, .int (nI un2_45)], wO f0 3 [.ref f1, .ref f2, .int (nI nf2_46), y3], wI (cy 1) f1 280 (fco2_47)] hP9 hD9 hS9 (fun hP hD hS => ?_)
            clear hP9 hD9 hS9
            refine W.widen (k := 0) (n := 0) (Nat.le_of_ble_eq_true rfl) (Nat.le_of_ble_eq_true rfl) ?_
            replace hw36 : (ta2_37 ≤ tn) ∧ (tk2_39 ≤ 123) ∧ (nf2_46 ≤ 280) ∧ (cOK fco2_47 nf2_46) ∧ (ow2_44 ≤ 30) ∧ (un2_45 ≤ 60) ∧ ((zr36 = 1 ∧ (okS (knd fby tn) (fin fby tn) 6 6 (fin fby tn gq21) oq21 uq21 ga2_48 ow2_44 un2_45) ∧ (fq = fq2_42) ∧ (pq = pq2_43) ∧ (tkC fby tn ga2_48 ta2_37 ts2_38 tk2_39 tm2_40 tr2_41) ∧ ((fin fby tn gq21) < ga2_48 ∧ ga2_48 ≤ tn)) ∨ (zr36 = 0 ∧ (noS (knd fby tn) (fin fby tn) 6 6 (fin fby tn gq21) oq21 uq21 ga2_48) ∧ (flt fby tn ga2_48 2 fq2_42 pq2_43))) := hw36
            obtain ⟨f_49, f_50, f_51, f_52, f_53, f_54, f_55⟩ := hw36
            rcases f_55 with ⟨hz_61, a_56, a_57, a_58, a_59, a_60⟩ | ⟨hz_64, a_62, a_63⟩
            · subst hz_61
              subst a_57
              subst a_58
              have hg_a_60 := a_60
              refine lv_istore_n (lv' := [(2, .int 1), (4, .int (nI kq21)), (3, .int (nI i21)), (0, .ref d0), (1, .int 6)]) hx hb dX10_takeSum_64 rfl hl (by decide) rfl (fun ls hl => ?_)
              refine lv_aload_n hx hb dX10_takeSum_65 rfl (lv_at hl 3 rfl) ?_
              refine va_get (D := D) (ci := 10) (v := .ref f0) (C := RX10) (T := TX10) (N := 10) hx hb hg i_X10 hown hK hP 0 rfl rfl 3 (by decide) (hg _ m_258) (fun _ h9 => h9) rfl dX10_takeSum_66 ?_
              refine lv_iload hx hb dX10_takeSum_69 (lv_at hl 1 rfl) ?_
              refine x_callVv (q := (RX3, TX3, 4)) (ci := 3) (q0 := 0) (wr := [wO d0 10 [.ref t0, .ref d1, .ref h0, .ref f0, .int (nI ow2_44), .int wt, .int dt, .int vv, .int fq, .int pq], wO t0 9 [.ref t1, .ref t2, .int (nI tn), .int (nI ta2_37), .int (nI ts2_38), .int (nI tk2_39), .long tm2_40, .int tr2_41], wI (cy 0) t1 1600 (fby), (t2, .inl (cy 2, 24, .inr (.inl (fky)))), wO h0 4 [.ref h1, .ref h2, .ref h3, .ref h4, .ref h5, .ref h6, .ref h7, .ref h8, .ref h9, .ref h10, .ref h11, hv0, hv1, hv2, hv3, .int (nI un2_45)]]) (rest := []) ⟨hx, hb, hml, hown, hg, hl.1⟩ k_X10_182 (s_addDeed l D cy f0 f1 f2 nf2_46 y3 fco2_47 kq21 (by omega) (f_52) (by omega)) E0_blind hK hP hD hS hA [5, 6] [0, 1, 2, 3, 4] ⟨rfl, rfl, by decide +kernel, by decide +kernel, by decide +kernel⟩ rfl rfl (fun _ _ _ => trivial) dX10_takeSum_71 rfl rfl (Nat.le_of_ble_eq_true rfl) ⟨Nat.le_of_ble_eq_true rfl, Nat.le_of_ble_eq_true rfl⟩ ⟨Nat.le_of_ble_eq_true rfl, Nat.le_of_ble_eq_true rfl⟩ (fun zu65 H locs hw65 hP9 hD9 hS9 => ?_)
              clear hP hD hS
              obtain ⟨n2_66, fc2_67⟩ := zu65
              refine reW [wO d0 10 [.ref t0, .ref d1, .ref h0, .ref f0, .int (nI ow2_44), .int wt, .int dt, .int vv, .int fq, .int pq], wO t0 9 [.ref t1, .ref t2, .int (nI tn), .int (nI ta2_37), .int (nI ts2_38), .int (nI tk2_39), .long tm2_40, .int tr2_41], wI (cy 0) t1 1600 (fby), (t2, .inl (cy 2, 24, .inr (.inl (fky)))), wO h0 4 [.ref h1, .ref h2, .ref h3, .ref h4, .ref h5, .ref h6, .ref h7, .ref h8, .ref h9, .ref h10, .ref h11, hv0, hv1, hv2, hv3, .int (nI un2_45)], wO f0 3 [.ref f1, .ref f2, .int (nI n2_66), y3], wI (cy 1) f1 280 (fc2_67)] hP9 hD9 hS9 (fun hP hD hS => ?_)
              clear hP9 hD9 hS9
              refine W.widen (k := 0) (n := 0) (Nat.le_of_ble_eq_true rfl) (Nat.le_of_ble_eq_true rfl) ?_
              replace hw65 : (n2_66 ≤ 280) ∧ (cOK fc2_67 n2_66) := hw65
              obtain ⟨f_68, f_69⟩ := hw65
              refine lv_iinc (v := nI (i21 + 1)) (lv' := [(3, .int (nI (i21 + 1))), (2, .int 1), (4, .int (nI kq21)), (0, .ref d0), (1, .int 6)]) hx hb dX10_takeSum_74 hl (k := 2) rfl (nI_add i21 1) (by decide) rfl (fun ls hl => ?_)
              refine lv_goto (tgt := 8) hx hb dX10_takeSum_77 (by decide) ?_
              exact ih21  1 ((i21 + 1)) ta2_37 ts2_38 tk2_39 tm2_40 tr2_41 ow2_44 fq pq un2_45 n2_66 ga2_48 fc2_67 f_69 (by omega) (by omega) (by omega) (by omega) (by omega) (by omega) (Or.inl ⟨rfl, inS_step lvP56 hin9 hop.1 hop.2 a_56, a_59, by omega, by omega, by omega, rfl, rfl⟩) (by omega) _ _ (hP.sub [0, 1, 2, 3, 4, 5, 6] rfl) (hD.sub [0, 1, 2, 3, 4, 5, 6] (by decide +kernel) rfl) hS ls (lv_sub hl [0, 1, 3, 4] rfl)
            · subst hz_64
              refine lv_istore_n (lv' := [(2, .int 0), (4, .int (nI kq21)), (3, .int (nI i21)), (0, .ref d0), (1, .int 6)]) hx hb dX10_takeSum_64 rfl hl (by decide) rfl (fun ls hl => ?_)
              refine lv_aload_n hx hb dX10_takeSum_65 rfl (lv_at hl 3 rfl) ?_
              refine va_get (D := D) (ci := 10) (v := .ref f0) (C := RX10) (T := TX10) (N := 10) hx hb hg i_X10 hown hK hP 0 rfl rfl 3 (by decide) (hg _ m_258) (fun _ h9 => h9) rfl dX10_takeSum_66 ?_
              refine lv_iload hx hb dX10_takeSum_69 (lv_at hl 1 rfl) ?_
              refine x_callVv (q := (RX3, TX3, 4)) (ci := 3) (q0 := 0) (wr := [wO d0 10 [.ref t0, .ref d1, .ref h0, .ref f0, .int (nI ow2_44), .int wt, .int dt, .int vv, .int fq2_42, .int pq2_43], wO t0 9 [.ref t1, .ref t2, .int (nI tn), .int (nI ta2_37), .int (nI ts2_38), .int (nI tk2_39), .long tm2_40, .int tr2_41], wI (cy 0) t1 1600 (fby), (t2, .inl (cy 2, 24, .inr (.inl (fky)))), wO h0 4 [.ref h1, .ref h2, .ref h3, .ref h4, .ref h5, .ref h6, .ref h7, .ref h8, .ref h9, .ref h10, .ref h11, hv0, hv1, hv2, hv3, .int (nI un2_45)]]) (rest := []) ⟨hx, hb, hml, hown, hg, hl.1⟩ k_X10_182 (s_addDeed l D cy f0 f1 f2 nf2_46 y3 fco2_47 kq21 (by omega) (f_52) (by omega)) E0_blind hK hP hD hS hA [5, 6] [0, 1, 2, 3, 4] ⟨rfl, rfl, by decide +kernel, by decide +kernel, by decide +kernel⟩ rfl rfl (fun _ _ _ => trivial) dX10_takeSum_71 rfl rfl (Nat.le_of_ble_eq_true rfl) ⟨Nat.le_of_ble_eq_true rfl, Nat.le_of_ble_eq_true rfl⟩ ⟨Nat.le_of_ble_eq_true rfl, Nat.le_of_ble_eq_true rfl⟩ (fun zu70 H locs hw70 hP9 hD9 hS9 => ?_)
              clear hP hD hS
              obtain ⟨n2_71, fc2_72⟩ := zu70
              refine reW [wO d0 10 [.ref t0, .ref d1, .ref h0, .ref f0, .int (nI ow2_44), .int wt, .int dt, .int vv, .int fq2_42, .int pq2_43], wO t0 9 [.ref t1, .ref t2, .int (nI tn), .int (nI ta2_37), .int (nI ts2_38), .int (nI tk2_39), .long tm2_40, .int tr2_41], wI (cy 0) t1 1600 (fby), (t2, .inl (cy 2, 24, .inr (.inl (fky)))), wO h0 4 [.ref h1, .ref h2, .ref h3, .ref h4, .ref h5, .ref h6, .ref h7, .ref h8, .ref h9, .ref h10, .ref h11, hv0, hv1, hv2, hv3, .int (nI un2_45)], wO f0 3 [.ref f1, .ref f2, .int (nI n2_71), y3], wI (cy 1) f1 280 (fc2_72)] hP9 hD9 hS9 (fun hP hD hS => ?_)
              clear hP9 hD9 hS9
              refine W.widen (k := 0) (n := 0) (Nat.le_of_ble_eq_true rfl) (Nat.le_of_ble_eq_true rfl) ?_
              replace hw70 : (n2_71 ≤ 280) ∧ (cOK fc2_72 n2_71) := hw70
              obtain ⟨f_73, f_74⟩ := hw70
              refine lv_iinc (v := nI (i21 + 1)) (lv' := [(3, .int (nI (i21 + 1))), (2, .int 0), (4, .int (nI kq21)), (0, .ref d0), (1, .int 6)]) hx hb dX10_takeSum_74 hl (k := 2) rfl (nI_add i21 1) (by decide) rfl (fun ls hl => ?_)
              refine lv_goto (tgt := 8) hx hb dX10_takeSum_77 (by decide) ?_
              exact ih21  0 ((i21 + 1)) ta2_37 ts2_38 tk2_39 tm2_40 tr2_41 ow2_44 fq2_42 pq2_43 un2_45 n2_71 ga2_48 fc2_72 f_74 (by omega) (by omega) (by omega) (by omega) (by omega) (by omega) (Or.inr ⟨rfl, inS_bad lvP56 hin9 hop.1 hop.2 a_62, a_63⟩) (by omega) _ _ (hP.sub [0, 1, 2, 3, 4, 5, 6] rfl) (hD.sub [0, 1, 2, 3, 4, 5, 6] (by decide +kernel) rfl) hS ls (lv_sub hl [0, 1, 3, 4] rfl)
          · have q_25 : ¬ kq21 = 43 := q_ne (a := kq21) (b := 43) rfl rfl (by omega) (by omega) c_24
            refine lv_aload_n hx hb dX10_takeSum_31 rfl (lv_at hl 2 rfl) ?_
            refine va_get (D := D) (ci := 10) (v := .ref t0) (C := RX10) (T := TX10) (N := 10) hx hb hg i_X10 hown hK hP 0 rfl rfl 0 (by decide) (hg _ m_255) (fun _ h9 => h9) rfl dX10_takeSum_32 ?_
            refine va_get (D := D) (ci := 9) (v := .int (nI kq21)) (C := RX9) (T := TX9) (N := 8) hx hb hg i_X9 hown hK hP 1 rfl rfl 5 (by decide) (hg _ m_222) (fun _ h9 => h9) rfl dX10_takeSum_35 ?_
            refine lv_bipush (v := 45) hx hb dX10_takeSum_38 (by decide) ?_
            refine lv_icmp_ne (tgt := 80) hx hb dX10_takeSum_40 (by decide) (fun c_75 => ?_) (fun c_75 => ?_)
            · have q_76 : ¬ kq21 = 45 := q_ne (a := kq21) (b := 45) rfl rfl (by omega) (by omega) c_75
              refine lv_iload_n hx hb dX10_takeSum_80 rfl (lv_at hl 1 rfl) ?_
              exact x_zret hQ hx hb hr hlocks hK hP hD hS rfl dX10_takeSum_81 (aq21, sq21, kq21, fl5_21, rq21, fq, pq, oq21, uq21, nq21, fa13_21, gq21) (⟨(show aq21 ≤ tn from by omega), (show kq21 ≤ 123 from by omega), (show nq21 ≤ 280 from by omega), ha14_21, (show oq21 ≤ 30 from by omega), (show uq21 ≤ 60 from by omega), (show ((1 : Int32) = 1 ∧ (okS (knd fby tn) (fin fby tn) 5 6 ga ow un gq21 oq21 uq21) ∧ (fq = fq) ∧ (pq = pq) ∧ (tkC fby tn gq21 aq21 sq21 kq21 fl5_21 rq21) ∧ (ga < gq21 ∧ gq21 ≤ tn)) ∨ ((1 : Int32) = 0 ∧ (noS (knd fby tn) (fin fby tn) 5 6 ga ow un gq21) ∧ (flt fby tn gq21 2 fq pq)) from Or.inl ⟨rfl, (inS_end lvP56 hin9 (sg_ne5 (by have h9 := htk9.2.2.1; omega))), (rfl), (rfl), (htk9), (⟨by omega, by omega⟩)⟩)⟩) [0, 1, 2, 3, 4, 5, 6] (by decide +kernel) rfl (Nat.le_of_ble_eq_true rfl) (Nat.le_of_ble_eq_true rfl)
            · have q_76 : kq21 = 45 := q_eq (a := kq21) (b := 45) rfl rfl (by omega) (by omega) c_75
              have hop := sg_5 (show knd fby tn gq21 = 43 ∨ knd fby tn gq21 = 45 from by have h9 := htk9.2.2.1; omega)
              have hgt_77 : gq21 < fin fby tn gq21 ∧ fin fby tn gq21 ≤ tn := ⟨fin_gt (by have h9 := htk9.2.2.1; omega), fin_le (by omega)⟩
              refine lv_aload_n hx hb dX10_takeSum_43 rfl (lv_at hl 2 rfl) ?_
              refine va_get (D := D) (ci := 10) (v := .ref t0) (C := RX10) (T := TX10) (N := 10) hx hb hg i_X10 hown hK hP 0 rfl rfl 0 (by decide) (hg _ m_255) (fun _ h9 => h9) rfl dX10_takeSum_44 ?_
              refine va_get (D := D) (ci := 9) (v := .int (nI kq21)) (C := RX9) (T := TX9) (N := 8) hx hb hg i_X9 hown hK hP 1 rfl rfl 5 (by decide) (hg _ m_222) (fun _ h9 => h9) rfl dX10_takeSum_47 ?_
              refine lv_istore (lv' := [(4, .int (nI kq21)), (3, .int (nI i21)), (2, .int 1), (0, .ref d0), (1, .int 6)]) hx hb dX10_takeSum_50 hl (by decide) rfl (fun ls hl => ?_)
              refine lv_aload_n hx hb dX10_takeSum_52 rfl (lv_at hl 3 rfl) ?_
              refine va_get (D := D) (ci := 10) (v := .ref t0) (C := RX10) (T := TX10) (N := 10) hx hb hg i_X10 hown hK hP 0 rfl rfl 0 (by decide) (hg _ m_255) (fun _ h9 => h9) rfl dX10_takeSum_53 ?_
              refine x_callVv (q := (RX9, TX9, 8)) (ci := 9) (q0 := 0) (wr := [wO d0 10 [.ref t0, .ref d1, .ref h0, .ref f0, .int (nI oq21), .int wt, .int dt, .int vv, .int fq, .int pq], wO h0 4 [.ref h1, .ref h2, .ref h3, .ref h4, .ref h5, .ref h6, .ref h7, .ref h8, .ref h9, .ref h10, .ref h11, hv0, hv1, hv2, hv3, .int (nI uq21)], wO f0 3 [.ref f1, .ref f2, .int (nI nq21), y3], wI (cy 1) f1 280 (fa13_21)]) (rest := []) ⟨hx, hb, hml, hown, hg, hl.1⟩ k_X10_140 (s_next l D cy adK adV t0 t1 t2 tn aq21 sq21 kq21 fl5_21 rq21 fby fky (fin fby tn gq21) (by omega) (by omega) (htk9.2.1) (hky)) EV_blind hK hP hD hS hA [1, 2, 3] [0, 4, 5, 6] ⟨rfl, rfl, by decide +kernel, by decide +kernel, by decide +kernel⟩ rfl rfl (fun U hU hW => EV_pass hE hS (va_free hD hS hA [1, 2, 3] rfl) hU hW) dX10_takeSum_56 rfl rfl (Nat.le_of_ble_eq_true rfl) ⟨Nat.le_of_ble_eq_true rfl, Nat.le_of_ble_eq_true rfl⟩ ⟨Nat.le_of_ble_eq_true rfl, Nat.le_of_ble_eq_true rfl⟩ (fun zu78 H locs hw78 hP9 hD9 hS9 => ?_)
              clear hP hD hS
              obtain ⟨ta2_79, ts2_80, tk2_81, tm2_82, tr2_83⟩ := zu78
              refine reW [wO d0 10 [.ref t0, .ref d1, .ref h0, .ref f0, .int (nI oq21), .int wt, .int dt, .int vv, .int fq, .int pq], wO h0 4 [.ref h1, .ref h2, .ref h3, .ref h4, .ref h5, .ref h6, .ref h7, .ref h8, .ref h9, .ref h10, .ref h11, hv0, hv1, hv2, hv3, .int (nI uq21)], wO f0 3 [.ref f1, .ref f2, .int (nI nq21), y3], wI (cy 1) f1 280 (fa13_21), wO t0 9 [.ref t1, .ref t2, .int (nI tn), .int (nI ta2_79), .int (nI ts2_80), .int (nI tk2_81), .long tm2_82, .int tr2_83], wI (cy 0) t1 1600 (fby), (t2, .inl (cy 2, 24, .inr (.inl (fky))))] hP9 hD9 hS9 (fun hP hD hS => ?_)
              clear hP9 hD9 hS9
              refine W.widen (k := 0) (n := 0) (Nat.le_of_ble_eq_true rfl) (Nat.le_of_ble_eq_true rfl) ?_
              replace hw78 : (ta2_79 ≤ tn) ∧ (tk2_81 ≤ 123) ∧ (tkC fby tn (fin fby tn gq21) ta2_79 ts2_80 tk2_81 tm2_82 tr2_83) := hw78
              obtain ⟨f_84, f_85, f_86⟩ := hw78
              refine lv_aload_n hx hb dX10_takeSum_59 rfl (lv_at hl 3 rfl) ?_
              refine lv_iload_n hx hb dX10_takeSum_60 rfl (lv_at hl 4 rfl) ?_
              refine x_callVi (q := (RX10, TX10, 10)) (ci := 10) (q0 := 0) (wr := []) (rest := []) ⟨hx, hb, hml, hown, hg, hl.1⟩ k_X10_195 (s_takeTerm6 l D cy adK adV d0 d1 wt dt vv fq pq t0 t1 t2 tn ta2_79 ts2_80 tk2_81 tm2_82 tr2_83 fby fky h0 h1 h2 h3 h4 h5 h6 h7 h8 h9 h10 h11 hv0 hv1 hv2 hv3 oq21 uq21 f0 f1 f2 nq21 y3 fa13_21 (fin fby tn gq21) (by omega) (by omega) (by omega) (f_86) (hky) (by omega) (ha14_21) (by omega) (by omega) (by omega)) EV_blind hK hP hD hS hA [0, 4, 5, 6, 1, 2, 3] [] ⟨rfl, rfl, by decide +kernel, by decide +kernel, by decide +kernel⟩ rfl rfl (fun U hU hW => EV_pass hE hS (va_free hD hS hA [0, 4, 5, 6, 1, 2, 3] rfl) hU hW) dX10_takeSum_61 rfl rfl (Nat.le_of_ble_eq_true rfl) ⟨Nat.le_of_ble_eq_true rfl, Nat.le_of_ble_eq_true rfl⟩ ⟨Nat.le_of_ble_eq_true rfl, Nat.le_of_ble_eq_true rfl⟩ (fun zr87 zu87 H locs hw87 hP9 hD9 hS9 => ?_)
              clear hP hD hS
              obtain ⟨ta2_88, ts2_89, tk2_90, tm2_91, tr2_92, fq2_93, pq2_94, ow2_95, un2_96, nf2_97, fco2_98, ga2_99⟩ := zu87
              refine reW [wO d0 10 [.ref t0, .ref d1, .ref h0, .ref f0, .int (nI ow2_95), .int wt, .int dt, .int vv, .int fq2_93, .int pq2_94], wO t0 9 [.ref t1, .ref t2, .int (nI tn), .int (nI ta2_88), .int (nI ts2_89), .int (nI tk2_90), .long tm2_91, .int tr2_92], wI (cy 0) t1 1600 (fby), (t2, .inl (cy 2, 24, .inr (.inl (fky)))), wO h0 4 [.ref h1, .ref h2, .ref h3, .ref h4, .ref h5, .ref h6, .ref h7, .ref h8, .ref h9, .ref h10, .ref h11, hv0, hv1, hv2, hv3, .int (nI un2_96)], wO f0 3 [.ref f1, .ref f2, .int (nI nf2_97), y3], wI (cy 1) f1 280 (fco2_98)] hP9 hD9 hS9 (fun hP hD hS => ?_)
              clear hP9 hD9 hS9
              refine W.widen (k := 0) (n := 0) (Nat.le_of_ble_eq_true rfl) (Nat.le_of_ble_eq_true rfl) ?_
              replace hw87 : (ta2_88 ≤ tn) ∧ (tk2_90 ≤ 123) ∧ (nf2_97 ≤ 280) ∧ (cOK fco2_98 nf2_97) ∧ (ow2_95 ≤ 30) ∧ (un2_96 ≤ 60) ∧ ((zr87 = 1 ∧ (okS (knd fby tn) (fin fby tn) 6 6 (fin fby tn gq21) oq21 uq21 ga2_99 ow2_95 un2_96) ∧ (fq = fq2_93) ∧ (pq = pq2_94) ∧ (tkC fby tn ga2_99 ta2_88 ts2_89 tk2_90 tm2_91 tr2_92) ∧ ((fin fby tn gq21) < ga2_99 ∧ ga2_99 ≤ tn)) ∨ (zr87 = 0 ∧ (noS (knd fby tn) (fin fby tn) 6 6 (fin fby tn gq21) oq21 uq21 ga2_99) ∧ (flt fby tn ga2_99 2 fq2_93 pq2_94))) := hw87
              obtain ⟨f_100, f_101, f_102, f_103, f_104, f_105, f_106⟩ := hw87
              rcases f_106 with ⟨hz_112, a_107, a_108, a_109, a_110, a_111⟩ | ⟨hz_115, a_113, a_114⟩
              · subst hz_112
                subst a_108
                subst a_109
                have hg_a_111 := a_111
                refine lv_istore_n (lv' := [(2, .int 1), (4, .int (nI kq21)), (3, .int (nI i21)), (0, .ref d0), (1, .int 6)]) hx hb dX10_takeSum_64 rfl hl (by decide) rfl (fun ls hl => ?_)
                refine lv_aload_n hx hb dX10_takeSum_65 rfl (lv_at hl 3 rfl) ?_
                refine va_get (D := D) (ci := 10) (v := .ref f0) (C := RX10) (T := TX10) (N := 10) hx hb hg i_X10 hown hK hP 0 rfl rfl 3 (by decide) (hg _ m_258) (fun _ h9 => h9) rfl dX10_takeSum_66 ?_
                refine lv_iload hx hb dX10_takeSum_69 (lv_at hl 1 rfl) ?_
                refine x_callVv (q := (RX3, TX3, 4)) (ci := 3) (q0 := 0) (wr := [wO d0 10 [.ref t0, .ref d1, .ref h0, .ref f0, .int (nI ow2_95), .int wt, .int dt, .int vv, .int fq, .int pq], wO t0 9 [.ref t1, .ref t2, .int (nI tn), .int (nI ta2_88), .int (nI ts2_89), .int (nI tk2_90), .long tm2_91, .int tr2_92], wI (cy 0) t1 1600 (fby), (t2, .inl (cy 2, 24, .inr (.inl (fky)))), wO h0 4 [.ref h1, .ref h2, .ref h3, .ref h4, .ref h5, .ref h6, .ref h7, .ref h8, .ref h9, .ref h10, .ref h11, hv0, hv1, hv2, hv3, .int (nI un2_96)]]) (rest := []) ⟨hx, hb, hml, hown, hg, hl.1⟩ k_X10_182 (s_addDeed l D cy f0 f1 f2 nf2_97 y3 fco2_98 kq21 (by omega) (f_103) (by omega)) E0_blind hK hP hD hS hA [5, 6] [0, 1, 2, 3, 4] ⟨rfl, rfl, by decide +kernel, by decide +kernel, by decide +kernel⟩ rfl rfl (fun _ _ _ => trivial) dX10_takeSum_71 rfl rfl (Nat.le_of_ble_eq_true rfl) ⟨Nat.le_of_ble_eq_true rfl, Nat.le_of_ble_eq_true rfl⟩ ⟨Nat.le_of_ble_eq_true rfl, Nat.le_of_ble_eq_true rfl⟩ (fun zu116 H locs hw116 hP9 hD9 hS9 => ?_)
                clear hP hD hS
                obtain ⟨n2_117, fc2_118⟩ := zu116
                refine reW [wO d0 10 [.ref t0, .ref d1, .ref h0, .ref f0, .int (nI ow2_95), .int wt, .int dt, .int vv, .int fq, .int pq], wO t0 9 [.ref t1, .ref t2, .int (nI tn), .int (nI ta2_88), .int (nI ts2_89), .int (nI tk2_90), .long tm2_91, .int tr2_92], wI (cy 0) t1 1600 (fby), (t2, .inl (cy 2, 24, .inr (.inl (fky)))), wO h0 4 [.ref h1, .ref h2, .ref h3, .ref h4, .ref h5, .ref h6, .ref h7, .ref h8, .ref h9, .ref h10, .ref h11, hv0, hv1, hv2, hv3, .int (nI un2_96)], wO f0 3 [.ref f1, .ref f2, .int (nI n2_117), y3], wI (cy 1) f1 280 (fc2_118)] hP9 hD9 hS9 (fun hP hD hS => ?_)
                clear hP9 hD9 hS9
                refine W.widen (k := 0) (n := 0) (Nat.le_of_ble_eq_true rfl) (Nat.le_of_ble_eq_true rfl) ?_
                replace hw116 : (n2_117 ≤ 280) ∧ (cOK fc2_118 n2_117) := hw116
                obtain ⟨f_119, f_120⟩ := hw116
                refine lv_iinc (v := nI (i21 + 1)) (lv' := [(3, .int (nI (i21 + 1))), (2, .int 1), (4, .int (nI kq21)), (0, .ref d0), (1, .int 6)]) hx hb dX10_takeSum_74 hl (k := 2) rfl (nI_add i21 1) (by decide) rfl (fun ls hl => ?_)
                refine lv_goto (tgt := 8) hx hb dX10_takeSum_77 (by decide) ?_
                exact ih21  1 ((i21 + 1)) ta2_88 ts2_89 tk2_90 tm2_91 tr2_92 ow2_95 fq pq un2_96 n2_117 ga2_99 fc2_118 f_120 (by omega) (by omega) (by omega) (by omega) (by omega) (by omega) (Or.inl ⟨rfl, inS_step lvP56 hin9 hop.1 hop.2 a_107, a_110, by omega, by omega, by omega, rfl, rfl⟩) (by omega) _ _ (hP.sub [0, 1, 2, 3, 4, 5, 6] rfl) (hD.sub [0, 1, 2, 3, 4, 5, 6] (by decide +kernel) rfl) hS ls (lv_sub hl [0, 1, 3, 4] rfl)
              · subst hz_115
                refine lv_istore_n (lv' := [(2, .int 0), (4, .int (nI kq21)), (3, .int (nI i21)), (0, .ref d0), (1, .int 6)]) hx hb dX10_takeSum_64 rfl hl (by decide) rfl (fun ls hl => ?_)
                refine lv_aload_n hx hb dX10_takeSum_65 rfl (lv_at hl 3 rfl) ?_
                refine va_get (D := D) (ci := 10) (v := .ref f0) (C := RX10) (T := TX10) (N := 10) hx hb hg i_X10 hown hK hP 0 rfl rfl 3 (by decide) (hg _ m_258) (fun _ h9 => h9) rfl dX10_takeSum_66 ?_
                refine lv_iload hx hb dX10_takeSum_69 (lv_at hl 1 rfl) ?_
                refine x_callVv (q := (RX3, TX3, 4)) (ci := 3) (q0 := 0) (wr := [wO d0 10 [.ref t0, .ref d1, .ref h0, .ref f0, .int (nI ow2_95), .int wt, .int dt, .int vv, .int fq2_93, .int pq2_94], wO t0 9 [.ref t1, .ref t2, .int (nI tn), .int (nI ta2_88), .int (nI ts2_89), .int (nI tk2_90), .long tm2_91, .int tr2_92], wI (cy 0) t1 1600 (fby), (t2, .inl (cy 2, 24, .inr (.inl (fky)))), wO h0 4 [.ref h1, .ref h2, .ref h3, .ref h4, .ref h5, .ref h6, .ref h7, .ref h8, .ref h9, .ref h10, .ref h11, hv0, hv1, hv2, hv3, .int (nI un2_96)]]) (rest := []) ⟨hx, hb, hml, hown, hg, hl.1⟩ k_X10_182 (s_addDeed l D cy f0 f1 f2 nf2_97 y3 fco2_98 kq21 (by omega) (f_103) (by omega)) E0_blind hK hP hD hS hA [5, 6] [0, 1, 2, 3, 4] ⟨rfl, rfl, by decide +kernel, by decide +kernel, by decide +kernel⟩ rfl rfl (fun _ _ _ => trivial) dX10_takeSum_71 rfl rfl (Nat.le_of_ble_eq_true rfl) ⟨Nat.le_of_ble_eq_true rfl, Nat.le_of_ble_eq_true rfl⟩ ⟨Nat.le_of_ble_eq_true rfl, Nat.le_of_ble_eq_true rfl⟩ (fun zu121 H locs hw121 hP9 hD9 hS9 => ?_)
                clear hP hD hS
                obtain ⟨n2_122, fc2_123⟩ := zu121
                refine reW [wO d0 10 [.ref t0, .ref d1, .ref h0, .ref f0, .int (nI ow2_95), .int wt, .int dt, .int vv, .int fq2_93, .int pq2_94], wO t0 9 [.ref t1, .ref t2, .int (nI tn), .int (nI ta2_88), .int (nI ts2_89), .int (nI tk2_90), .long tm2_91, .int tr2_92], wI (cy 0) t1 1600 (fby), (t2, .inl (cy 2, 24, .inr (.inl (fky)))), wO h0 4 [.ref h1, .ref h2, .ref h3, .ref h4, .ref h5, .ref h6, .ref h7, .ref h8, .ref h9, .ref h10, .ref h11, hv0, hv1, hv2, hv3, .int (nI un2_96)], wO f0 3 [.ref f1, .ref f2, .int (nI n2_122), y3], wI (cy 1) f1 280 (fc2_123)] hP9 hD9 hS9 (fun hP hD hS => ?_)
                clear hP9 hD9 hS9
                refine W.widen (k := 0) (n := 0) (Nat.le_of_ble_eq_true rfl) (Nat.le_of_ble_eq_true rfl) ?_
                replace hw121 : (n2_122 ≤ 280) ∧ (cOK fc2_123 n2_122) := hw121
                obtain ⟨f_124, f_125⟩ := hw121
                refine lv_iinc (v := nI (i21 + 1)) (lv' := [(3, .int (nI (i21 + 1))), (2, .int 0), (4, .int (nI kq21)), (0, .ref d0), (1, .int 6)]) hx hb dX10_takeSum_74 hl (k := 2) rfl (nI_add i21 1) (by decide) rfl (fun ls hl => ?_)
                refine lv_goto (tgt := 8) hx hb dX10_takeSum_77 (by decide) ?_
                exact ih21  0 ((i21 + 1)) ta2_88 ts2_89 tk2_90 tm2_91 tr2_92 ow2_95 fq2_93 pq2_94 un2_96 n2_122 ga2_99 fc2_123 f_125 (by omega) (by omega) (by omega) (by omega) (by omega) (by omega) (Or.inr ⟨rfl, inS_bad lvP56 hin9 hop.1 hop.2 a_113, a_114⟩) (by omega) _ _ (hP.sub [0, 1, 2, 3, 4, 5, 6] rfl) (hD.sub [0, 1, 2, 3, 4, 5, 6] (by decide +kernel) rfl) hS ls (lv_sub hl [0, 1, 3, 4] rfl)
      · subst hlb
        refine lv_iload_n hx hb dX10_takeSum_8 rfl (lv_at hl 0 rfl) ?_
        refine lv_sipush (v := 1600) hx hb dX10_takeSum_9 (by decide) ?_
        refine lv_icmp_ge (tgt := 80) hx hb dX10_takeSum_12 (by decide) (fun c_126 => ?_) (fun c_126 => ?_)
        · have q_127 : 1600 ≤ i21 := q_le (a := 1600) (b := i21) rfl rfl (by omega) (by omega) c_126
          refine lv_iload_n hx hb dX10_takeSum_80 rfl (lv_at hl 1 rfl) ?_
          exact x_zret hQ hx hb hr hlocks hK hP hD hS rfl dX10_takeSum_81 (aq21, sq21, kq21, fl5_21, rq21, fz21, pz21, oq21, uq21, nq21, fa13_21, gq21) (⟨(show aq21 ≤ tn from by omega), (show kq21 ≤ 123 from by omega), (show nq21 ≤ 280 from by omega), ha14_21, (show oq21 ≤ 30 from by omega), (show uq21 ≤ 60 from by omega), (show ((0 : Int32) = 1 ∧ (okS (knd fby tn) (fin fby tn) 5 6 ga ow un gq21 oq21 uq21) ∧ (fq = fz21) ∧ (pq = pz21) ∧ (tkC fby tn gq21 aq21 sq21 kq21 fl5_21 rq21) ∧ (ga < gq21 ∧ gq21 ≤ tn)) ∨ ((0 : Int32) = 0 ∧ (noS (knd fby tn) (fin fby tn) 5 6 ga ow un gq21) ∧ (flt fby tn gq21 2 fz21 pz21)) from Or.inr (⟨rfl, (hno9), (hfl9)⟩))⟩) [0, 1, 2, 3, 4, 5, 6] (by decide +kernel) rfl (Nat.le_of_ble_eq_true rfl) (Nat.le_of_ble_eq_true rfl)
        · have q_127 : i21 < 1600 := q_nle (a := 1600) (b := i21) rfl rfl (by omega) (by omega) c_126
          refine lv_iload_n hx hb dX10_takeSum_15 rfl (lv_at hl 1 rfl) ?_
          refine lv_if_eq (tgt := 80) hx hb dX10_takeSum_16 (by decide) (fun _ => ?_) (fun h => absurd (by decide) h)
          refine lv_iload_n hx hb dX10_takeSum_80 rfl (lv_at hl 1 rfl) ?_
          exact x_zret hQ hx hb hr hlocks hK hP hD hS rfl dX10_takeSum_81 (aq21, sq21, kq21, fl5_21, rq21, fz21, pz21, oq21, uq21, nq21, fa13_21, gq21) (⟨(show aq21 ≤ tn from by omega), (show kq21 ≤ 123 from by omega), (show nq21 ≤ 280 from by omega), ha14_21, (show oq21 ≤ 30 from by omega), (show uq21 ≤ 60 from by omega), (show ((0 : Int32) = 1 ∧ (okS (knd fby tn) (fin fby tn) 5 6 ga ow un gq21 oq21 uq21) ∧ (fq = fz21) ∧ (pq = pz21) ∧ (tkC fby tn gq21 aq21 sq21 kq21 fl5_21 rq21) ∧ (ga < gq21 ∧ gq21 ≤ tn)) ∨ ((0 : Int32) = 0 ∧ (noS (knd fby tn) (fin fby tn) 5 6 ga ow un gq21) ∧ (flt fby tn gq21 2 fz21 pz21)) from Or.inr (⟨rfl, (hno9), (hfl9)⟩))⟩) [0, 1, 2, 3, 4, 5, 6] (by decide +kernel) rfl (Nat.le_of_ble_eq_true rfl) (Nat.le_of_ble_eq_true rfl)
  exact loop21 _ zr1 0 ta2_2 ts2_3 tk2_4 tm2_5 tr2_6 ow2_9 fq2_7 pq2_8 un2_10 nf2_11 ga2_13 fco2_12 f_17 (by omega) (by omega) (by omega) (by omega) (by omega) (by omega) (by rcases f_20 with ⟨hx0, hxk, hxq, hxp, hxt, hxg⟩ | ⟨hx0, hxn, hxl⟩; exact Or.inl ⟨hx0, inS_0 lvP56 hxk, hxt, hxg.1, hxg.2, by omega, hxq, hxp⟩; exact Or.inr ⟨hx0, noS_0 lvP56 hxn, hxl⟩) (Nat.le_refl _) _ _ (hP.sub [0, 1, 2, 3, 4, 5, 6] rfl) (hD.sub [0, 1, 2, 3, 4, 5, 6] (by decide +kernel) rfl) hS ls (lv_sub hl [0, 1, 2, 3] rfl)
theorem gdX10_takeNot_12 : decode cX10_takeNot 12 = .ok (.aload_n 0, 1) ∧ decode cX10_takeNot 13 = .ok (.getfield 16, 3) ∧ decode cX10_takeNot 16 = .ok (.invokevirtual 140, 3) ∧ decode cX10_takeNot 19 = .ok (.aload_n 0, 1) ∧ decode cX10_takeNot 20 = .ok (.iload_n 1, 1) ∧ decode cX10_takeNot 21 = .ok (.iconst 1, 1) ∧ decode cX10_takeNot 22 = .ok (.iadd, 1) ∧ decode cX10_takeNot 23 = .ok (.invokevirtual 186, 3) ∧ decode cX10_takeNot 26 = .ok (.istore_n 2, 1) ∧ decode cX10_takeNot 27 = .ok (.aload_n 0, 1) ∧ decode cX10_takeNot 28 = .ok (.getfield 34, 3) ∧ decode cX10_takeNot 31 = .ok (.bipush 116, 2) := by decide +kernel
theorem dX10_takeNot_12 : decode cX10_takeNot 12 = .ok (.aload_n 0, 1) := gdX10_takeNot_12.1
theorem dX10_takeNot_13 : decode cX10_takeNot 13 = .ok (.getfield 16, 3) := gdX10_takeNot_12.2.1
theorem dX10_takeNot_16 : decode cX10_takeNot 16 = .ok (.invokevirtual 140, 3) := gdX10_takeNot_12.2.2.1
theorem dX10_takeNot_19 : decode cX10_takeNot 19 = .ok (.aload_n 0, 1) := gdX10_takeNot_12.2.2.2.1
theorem dX10_takeNot_20 : decode cX10_takeNot 20 = .ok (.iload_n 1, 1) := gdX10_takeNot_12.2.2.2.2.1
theorem dX10_takeNot_21 : decode cX10_takeNot 21 = .ok (.iconst 1, 1) := gdX10_takeNot_12.2.2.2.2.2.1
theorem dX10_takeNot_22 : decode cX10_takeNot 22 = .ok (.iadd, 1) := gdX10_takeNot_12.2.2.2.2.2.2.1
theorem dX10_takeNot_23 : decode cX10_takeNot 23 = .ok (.invokevirtual 186, 3) := gdX10_takeNot_12.2.2.2.2.2.2.2.1
theorem dX10_takeNot_26 : decode cX10_takeNot 26 = .ok (.istore_n 2, 1) := gdX10_takeNot_12.2.2.2.2.2.2.2.2.1
theorem dX10_takeNot_27 : decode cX10_takeNot 27 = .ok (.aload_n 0, 1) := gdX10_takeNot_12.2.2.2.2.2.2.2.2.2.1
theorem dX10_takeNot_28 : decode cX10_takeNot 28 = .ok (.getfield 34, 3) := gdX10_takeNot_12.2.2.2.2.2.2.2.2.2.2.1
theorem dX10_takeNot_31 : decode cX10_takeNot 31 = .ok (.bipush 116, 2) := gdX10_takeNot_12.2.2.2.2.2.2.2.2.2.2.2
theorem gdX10_takeNot_33 : decode cX10_takeNot 33 = .ok (.invokevirtual 182, 3) ∧ decode cX10_takeNot 36 = .ok (.iload_n 2, 1) ∧ decode cX10_takeNot 37 = .ok (.ireturn, 1) := by decide +kernel
theorem dX10_takeNot_33 : decode cX10_takeNot 33 = .ok (.invokevirtual 182, 3) := gdX10_takeNot_33.1
theorem dX10_takeNot_36 : decode cX10_takeNot 36 = .ok (.iload_n 2, 1) := gdX10_takeNot_33.2.1
theorem dX10_takeNot_37 : decode cX10_takeNot 37 = .ok (.ireturn, 1) := gdX10_takeNot_33.2.2
set_option maxHeartbeats 1000000 in
set_option maxRecDepth 100000 in
theorem s_takeNot6 (l : Launch) (D : va_G) (cy : Nat → ClassId) (adK : Nat → Nat) (adV : Nat → Nat) (d0 : Nat) (d1 : Nat) (wt : Int32) (dt : Int32) (vv : Int32) (fq : Int32) (pq : Int32) (t0 : Nat) (t1 : Nat) (t2 : Nat) (tn : Nat) (ta : Nat) (ts : Nat) (tk : Nat) (tm : Int64) (tr : Int32) (fby : Nat → Int32) (fky : Nat → Int64) (h0 : Nat) (h1 : Nat) (h2 : Nat) (h3 : Nat) (h4 : Nat) (h5 : Nat) (h6 : Nat) (h7 : Nat) (h8 : Nat) (h9 : Nat) (h10 : Nat) (h11 : Nat) (hv0 : Value) (hv1 : Value) (hv2 : Value) (hv3 : Value) (ow : Nat) (un : Nat) (f0 : Nat) (f1 : Nat) (f2 : Nat) (nf : Nat) (y3 : Value) (fco : Nat → Int32) (ga : Nat) (htn : tn ≤ 1600) (hta : ta ≤ tn) (htk : tk ≤ 123) (hti : tkC fby tn ga ta ts tk tm tr) (hky : kyOK fky) (hnf : nf ≤ 280) (hfc : cOK fco nf) (how : ow ≤ 30) (hun : un ≤ 60) (hga : ga ≤ tn) (h116 : tk = 116) : XMi l D (tyL cy) (EV adK adV) yX10_takeNot cX10_takeNot 3 (some .boolean) (rmk 11 0 0) [.ref d0, .int 6] [wO d0 10 [.ref t0, .ref d1, .ref h0, .ref f0, .int (nI ow), .int wt, .int dt, .int vv, .int fq, .int pq], wO t0 9 [.ref t1, .ref t2, .int (nI tn), .int (nI ta), .int (nI ts), .int (nI tk), .long tm, .int tr], wI (cy 0) t1 1600 (fby), (t2, .inl (cy 2, 24, .inr (.inl (fky)))), wO h0 4 [.ref h1, .ref h2, .ref h3, .ref h4, .ref h5, .ref h6, .ref h7, .ref h8, .ref h9, .ref h10, .ref h11, hv0, hv1, hv2, hv3, .int (nI un)], wO f0 3 [.ref f1, .ref f2, .int (nI nf), y3], wI (cy 1) f1 280 (fco)] (fun (r : Int32) (u : Nat × Nat × Nat × Int64 × Int32 × Int32 × Int32 × Nat × Nat × Nat × (Nat → Int32) × Nat) => (u.1 ≤ tn) ∧ (u.2.2.1 ≤ 123) ∧ (u.2.2.2.2.2.2.2.2.2.1 ≤ 280) ∧ (cOK u.2.2.2.2.2.2.2.2.2.2.1 u.2.2.2.2.2.2.2.2.2.1) ∧ (u.2.2.2.2.2.2.2.1 ≤ 30) ∧ (u.2.2.2.2.2.2.2.2.1 ≤ 60) ∧ ((r = 1 ∧ (okS (knd fby tn) (fin fby tn) 4 6 ga ow un u.2.2.2.2.2.2.2.2.2.2.2 u.2.2.2.2.2.2.2.1 u.2.2.2.2.2.2.2.2.1) ∧ (fq = u.2.2.2.2.2.1) ∧ (pq = u.2.2.2.2.2.2.1) ∧ (tkC fby tn u.2.2.2.2.2.2.2.2.2.2.2 u.1 u.2.1 u.2.2.1 u.2.2.2.1 u.2.2.2.2.1) ∧ (ga < u.2.2.2.2.2.2.2.2.2.2.2 ∧ u.2.2.2.2.2.2.2.2.2.2.2 ≤ tn)) ∨ (r = 0 ∧ (noS (knd fby tn) (fin fby tn) 4 6 ga ow un u.2.2.2.2.2.2.2.2.2.2.2) ∧ (flt fby tn u.2.2.2.2.2.2.2.2.2.2.2 2 u.2.2.2.2.2.1 u.2.2.2.2.2.2.1)))) (fun (u : Nat × Nat × Nat × Int64 × Int32 × Int32 × Int32 × Nat × Nat × Nat × (Nat → Int32) × Nat) => [wO d0 10 [.ref t0, .ref d1, .ref h0, .ref f0, .int (nI u.2.2.2.2.2.2.2.1), .int wt, .int dt, .int vv, .int u.2.2.2.2.2.1, .int u.2.2.2.2.2.2.1], wO t0 9 [.ref t1, .ref t2, .int (nI tn), .int (nI u.1), .int (nI u.2.1), .int (nI u.2.2.1), .long u.2.2.2.1, .int u.2.2.2.2.1], wI (cy 0) t1 1600 (fby), (t2, .inl (cy 2, 24, .inr (.inl (fky)))), wO h0 4 [.ref h1, .ref h2, .ref h3, .ref h4, .ref h5, .ref h6, .ref h7, .ref h8, .ref h9, .ref h10, .ref h11, hv0, hv1, hv2, hv3, .int (nI u.2.2.2.2.2.2.2.2.1)], wO f0 3 [.ref f1, .ref f2, .int (nI u.2.2.2.2.2.2.2.2.2.1), y3], wI (cy 1) f1 280 (u.2.2.2.2.2.2.2.2.2.2.1)]) := by
  refine XMi.start (by decide) (Nat.le_of_ble_eq_true rfl) ?_
  intro p e s m below meth c args A ls Q hat hQ
  obtain ⟨hx, hb, hr, hml, hown, hg, hlocks, hin, hK, hA, hP, hD, hS, hE, hl⟩ := hat
  have hown : s.vm.findClass RX10 = some m.cls := hown
  have hl : lv_has ls 3 [(0, .ref d0), (1, .int 6)] := hl
  have hn16 : knd fby tn ga = 116 := by have h9 := hti.2.2.1; omega
  refine lv_iload_n hx hb dX10_takeNot_0 rfl (lv_at hl 1 rfl) ?_
  refine lv_bipush (v := 7) hx hb dX10_takeNot_1 (by decide) ?_
  refine lv_icmp_lt (tgt := 12) hx hb dX10_takeNot_3 (by decide) (fun _ => ?_) (fun h => absurd (by decide) h)
  have hgt_1 : ga < fin fby tn ga ∧ fin fby tn ga ≤ tn := ⟨fin_gt (by have h9 := hti.2.2.1; omega), fin_le (by omega)⟩
  refine lv_aload_n hx hb dX10_takeNot_12 rfl (lv_at hl 0 rfl) ?_
  refine va_get (D := D) (ci := 10) (v := .ref t0) (C := RX10) (T := TX10) (N := 10) hx hb hg i_X10 hown hK hP 0 rfl rfl 0 (by decide) (hg _ m_255) (fun _ h9 => h9) rfl dX10_takeNot_13 ?_
  refine x_callVv (q := (RX9, TX9, 8)) (ci := 9) (q0 := 0) (wr := [wO d0 10 [.ref t0, .ref d1, .ref h0, .ref f0, .int (nI ow), .int wt, .int dt, .int vv, .int fq, .int pq], wO h0 4 [.ref h1, .ref h2, .ref h3, .ref h4, .ref h5, .ref h6, .ref h7, .ref h8, .ref h9, .ref h10, .ref h11, hv0, hv1, hv2, hv3, .int (nI un)], wO f0 3 [.ref f1, .ref f2, .int (nI nf), y3], wI (cy 1) f1 280 (fco)]) (rest := []) ⟨hx, hb, hml, hown, hg, hl.1⟩ k_X10_140 (s_next l D cy adK adV t0 t1 t2 tn ta ts tk tm tr fby fky (fin fby tn ga) (by omega) (by omega) (hti.2.1) (hky)) EV_blind hK hP hD hS hA [1, 2, 3] [0, 4, 5, 6] ⟨rfl, rfl, by decide +kernel, by decide +kernel, by decide +kernel⟩ rfl rfl (fun U hU hW => EV_pass hE hS (va_free hD hS hA [1, 2, 3] rfl) hU hW) dX10_takeNot_16 rfl rfl (Nat.le_of_ble_eq_true rfl) ⟨Nat.le_of_ble_eq_true rfl, Nat.le_of_ble_eq_true rfl⟩ ⟨Nat.le_of_ble_eq_true rfl, Nat.le_of_ble_eq_true rfl⟩ (fun zu2 H locs hw2 hP9 hD9 hS9 => ?_)
  clear hP hD hS
  obtain ⟨ta2_3, ts2_4, tk2_5, tm2_6, tr2_7⟩ := zu2
  refine reW [wO d0 10 [.ref t0, .ref d1, .ref h0, .ref f0, .int (nI ow), .int wt, .int dt, .int vv, .int fq, .int pq], wO h0 4 [.ref h1, .ref h2, .ref h3, .ref h4, .ref h5, .ref h6, .ref h7, .ref h8, .ref h9, .ref h10, .ref h11, hv0, hv1, hv2, hv3, .int (nI un)], wO f0 3 [.ref f1, .ref f2, .int (nI nf), y3], wI (cy 1) f1 280 (fco), wO t0 9 [.ref t1, .ref t2, .int (nI tn), .int (nI ta2_3), .int (nI ts2_4), .int (nI tk2_5), .long tm2_6, .int tr2_7], wI (cy 0) t1 1600 (fby), (t2, .inl (cy 2, 24, .inr (.inl (fky))))] hP9 hD9 hS9 (fun hP hD hS => ?_)
  clear hP9 hD9 hS9
  refine W.widen (k := 0) (n := 0) (Nat.le_of_ble_eq_true rfl) (Nat.le_of_ble_eq_true rfl) ?_
  replace hw2 : (ta2_3 ≤ tn) ∧ (tk2_5 ≤ 123) ∧ (tkC fby tn (fin fby tn ga) ta2_3 ts2_4 tk2_5 tm2_6 tr2_7) := hw2
  obtain ⟨f_8, f_9, f_10⟩ := hw2
  refine lv_aload_n hx hb dX10_takeNot_19 rfl (lv_at hl 0 rfl) ?_
  refine lv_iload_n hx hb dX10_takeNot_20 rfl (lv_at hl 1 rfl) ?_
  refine lv_iconst (v := 1) hx hb dX10_takeNot_21 (by decide) ?_
  refine lv_iadd hx hb dX10_takeNot_22 ?_
  refine lv_topi (fun y_11 hy_11 => ?_)
  obtain rfl : y_11 = 7 := hy_11.trans (by decide +kernel)
  refine x_callVi (q := (RX10, TX10, 10)) (ci := 10) (q0 := 0) (wr := []) (rest := []) ⟨hx, hb, hml, hown, hg, hl.1⟩ k_X10_186 (s_takeOne7 l D cy adK adV d0 d1 wt dt vv fq pq t0 t1 t2 tn ta2_3 ts2_4 tk2_5 tm2_6 tr2_7 fby fky h0 h1 h2 h3 h4 h5 h6 h7 h8 h9 h10 h11 hv0 hv1 hv2 hv3 ow un f0 f1 f2 nf y3 fco (fin fby tn ga) (by omega) (by omega) (by omega) (f_10) (hky) (by omega) (hfc) (by omega) (by omega) (by omega)) EV_blind hK hP hD hS hA [0, 4, 5, 6, 1, 2, 3] [] ⟨rfl, rfl, by decide +kernel, by decide +kernel, by decide +kernel⟩ rfl rfl (fun U hU hW => EV_pass hE hS (va_free hD hS hA [0, 4, 5, 6, 1, 2, 3] rfl) hU hW) dX10_takeNot_23 rfl rfl (Nat.le_of_ble_eq_true rfl) ⟨Nat.le_of_ble_eq_true rfl, Nat.le_of_ble_eq_true rfl⟩ ⟨Nat.le_of_ble_eq_true rfl, Nat.le_of_ble_eq_true rfl⟩ (fun zr12 zu12 H locs hw12 hP9 hD9 hS9 => ?_)
  clear hP hD hS
  obtain ⟨ta2_13, ts2_14, tk2_15, tm2_16, tr2_17, fq2_18, pq2_19, ow2_20, un2_21, nf2_22, fco2_23, ga2_24⟩ := zu12
  refine reW [wO d0 10 [.ref t0, .ref d1, .ref h0, .ref f0, .int (nI ow2_20), .int wt, .int dt, .int vv, .int fq2_18, .int pq2_19], wO t0 9 [.ref t1, .ref t2, .int (nI tn), .int (nI ta2_13), .int (nI ts2_14), .int (nI tk2_15), .long tm2_16, .int tr2_17], wI (cy 0) t1 1600 (fby), (t2, .inl (cy 2, 24, .inr (.inl (fky)))), wO h0 4 [.ref h1, .ref h2, .ref h3, .ref h4, .ref h5, .ref h6, .ref h7, .ref h8, .ref h9, .ref h10, .ref h11, hv0, hv1, hv2, hv3, .int (nI un2_21)], wO f0 3 [.ref f1, .ref f2, .int (nI nf2_22), y3], wI (cy 1) f1 280 (fco2_23)] hP9 hD9 hS9 (fun hP hD hS => ?_)
  clear hP9 hD9 hS9
  refine W.widen (k := 0) (n := 0) (Nat.le_of_ble_eq_true rfl) (Nat.le_of_ble_eq_true rfl) ?_
  replace hw12 : (ta2_13 ≤ tn) ∧ (tk2_15 ≤ 123) ∧ (nf2_22 ≤ 280) ∧ (cOK fco2_23 nf2_22) ∧ (ow2_20 ≤ 30) ∧ (un2_21 ≤ 60) ∧ ((zr12 = 1 ∧ (okS (knd fby tn) (fin fby tn) 4 7 (fin fby tn ga) ow un ga2_24 ow2_20 un2_21) ∧ (fq = fq2_18) ∧ (pq = pq2_19) ∧ (tkC fby tn ga2_24 ta2_13 ts2_14 tk2_15 tm2_16 tr2_17) ∧ ((fin fby tn ga) < ga2_24 ∧ ga2_24 ≤ tn)) ∨ (zr12 = 0 ∧ (noS (knd fby tn) (fin fby tn) 4 7 (fin fby tn ga) ow un ga2_24) ∧ (flt fby tn ga2_24 2 fq2_18 pq2_19))) := hw12
  obtain ⟨f_25, f_26, f_27, f_28, f_29, f_30, f_31⟩ := hw12
  rcases f_31 with ⟨hz_37, a_32, a_33, a_34, a_35, a_36⟩ | ⟨hz_40, a_38, a_39⟩
  · subst hz_37
    subst a_33
    subst a_34
    have hg_a_36 := a_36
    refine lv_istore_n (lv' := [(2, .int 1), (0, .ref d0), (1, .int 6)]) hx hb dX10_takeNot_26 rfl hl (by decide) rfl (fun ls hl => ?_)
    refine lv_aload_n hx hb dX10_takeNot_27 rfl (lv_at hl 1 rfl) ?_
    refine va_get (D := D) (ci := 10) (v := .ref f0) (C := RX10) (T := TX10) (N := 10) hx hb hg i_X10 hown hK hP 0 rfl rfl 3 (by decide) (hg _ m_258) (fun _ h9 => h9) rfl dX10_takeNot_28 ?_
    refine lv_bipush (v := 116) hx hb dX10_takeNot_31 (by decide) ?_
    refine x_callVv (q := (RX3, TX3, 4)) (ci := 3) (q0 := 0) (wr := [wO d0 10 [.ref t0, .ref d1, .ref h0, .ref f0, .int (nI ow2_20), .int wt, .int dt, .int vv, .int fq, .int pq], wO t0 9 [.ref t1, .ref t2, .int (nI tn), .int (nI ta2_13), .int (nI ts2_14), .int (nI tk2_15), .long tm2_16, .int tr2_17], wI (cy 0) t1 1600 (fby), (t2, .inl (cy 2, 24, .inr (.inl (fky)))), wO h0 4 [.ref h1, .ref h2, .ref h3, .ref h4, .ref h5, .ref h6, .ref h7, .ref h8, .ref h9, .ref h10, .ref h11, hv0, hv1, hv2, hv3, .int (nI un2_21)]]) (rest := []) ⟨hx, hb, hml, hown, hg, hl.1⟩ k_X10_182 (s_addDeed l D cy f0 f1 f2 nf2_22 y3 fco2_23 116 (by omega) (f_28) (by omega)) E0_blind hK hP hD hS hA [5, 6] [0, 1, 2, 3, 4] ⟨rfl, rfl, by decide +kernel, by decide +kernel, by decide +kernel⟩ rfl rfl (fun _ _ _ => trivial) dX10_takeNot_33 rfl rfl (Nat.le_of_ble_eq_true rfl) ⟨Nat.le_of_ble_eq_true rfl, Nat.le_of_ble_eq_true rfl⟩ ⟨Nat.le_of_ble_eq_true rfl, Nat.le_of_ble_eq_true rfl⟩ (fun zu41 H locs hw41 hP9 hD9 hS9 => ?_)
    clear hP hD hS
    obtain ⟨n2_42, fc2_43⟩ := zu41
    refine reW [wO d0 10 [.ref t0, .ref d1, .ref h0, .ref f0, .int (nI ow2_20), .int wt, .int dt, .int vv, .int fq, .int pq], wO t0 9 [.ref t1, .ref t2, .int (nI tn), .int (nI ta2_13), .int (nI ts2_14), .int (nI tk2_15), .long tm2_16, .int tr2_17], wI (cy 0) t1 1600 (fby), (t2, .inl (cy 2, 24, .inr (.inl (fky)))), wO h0 4 [.ref h1, .ref h2, .ref h3, .ref h4, .ref h5, .ref h6, .ref h7, .ref h8, .ref h9, .ref h10, .ref h11, hv0, hv1, hv2, hv3, .int (nI un2_21)], wO f0 3 [.ref f1, .ref f2, .int (nI n2_42), y3], wI (cy 1) f1 280 (fc2_43)] hP9 hD9 hS9 (fun hP hD hS => ?_)
    clear hP9 hD9 hS9
    refine W.widen (k := 0) (n := 0) (Nat.le_of_ble_eq_true rfl) (Nat.le_of_ble_eq_true rfl) ?_
    replace hw41 : (n2_42 ≤ 280) ∧ (cOK fc2_43 n2_42) := hw41
    obtain ⟨f_44, f_45⟩ := hw41
    refine lv_iload_n hx hb dX10_takeNot_36 rfl (lv_at hl 0 rfl) ?_
    exact x_zret hQ hx hb hr hlocks hK hP hD hS rfl dX10_takeNot_37 (ta2_13, ts2_14, tk2_15, tm2_16, tr2_17, fq, pq, ow2_20, un2_21, n2_42, fc2_43, ga2_24) (⟨(show ta2_13 ≤ tn from by omega), (show tk2_15 ≤ 123 from by omega), (show n2_42 ≤ 280 from by omega), f_45, (show ow2_20 ≤ 30 from by omega), (show un2_21 ≤ 60 from by omega), (show ((1 : Int32) = 1 ∧ (okS (knd fby tn) (fin fby tn) 4 6 ga ow un ga2_24 ow2_20 un2_21) ∧ (fq = fq) ∧ (pq = pq) ∧ (tkC fby tn ga2_24 ta2_13 ts2_14 tk2_15 tm2_16 tr2_17) ∧ (ga < ga2_24 ∧ ga2_24 ≤ tn)) ∨ ((1 : Int32) = 0 ∧ (noS (knd fby tn) (fin fby tn) 4 6 ga ow un ga2_24) ∧ (flt fby tn ga2_24 2 fq pq)) from Or.inl ⟨rfl, (not_ok hn16 (by decide) a_32), (rfl), (rfl), (a_35), (⟨by omega, by omega⟩)⟩)⟩) [0, 1, 2, 3, 4, 5, 6] (by decide +kernel) rfl (Nat.le_of_ble_eq_true rfl) (Nat.le_of_ble_eq_true rfl)
  · subst hz_40
    refine lv_istore_n (lv' := [(2, .int 0), (0, .ref d0), (1, .int 6)]) hx hb dX10_takeNot_26 rfl hl (by decide) rfl (fun ls hl => ?_)
    refine lv_aload_n hx hb dX10_takeNot_27 rfl (lv_at hl 1 rfl) ?_
    refine va_get (D := D) (ci := 10) (v := .ref f0) (C := RX10) (T := TX10) (N := 10) hx hb hg i_X10 hown hK hP 0 rfl rfl 3 (by decide) (hg _ m_258) (fun _ h9 => h9) rfl dX10_takeNot_28 ?_
    refine lv_bipush (v := 116) hx hb dX10_takeNot_31 (by decide) ?_
    refine x_callVv (q := (RX3, TX3, 4)) (ci := 3) (q0 := 0) (wr := [wO d0 10 [.ref t0, .ref d1, .ref h0, .ref f0, .int (nI ow2_20), .int wt, .int dt, .int vv, .int fq2_18, .int pq2_19], wO t0 9 [.ref t1, .ref t2, .int (nI tn), .int (nI ta2_13), .int (nI ts2_14), .int (nI tk2_15), .long tm2_16, .int tr2_17], wI (cy 0) t1 1600 (fby), (t2, .inl (cy 2, 24, .inr (.inl (fky)))), wO h0 4 [.ref h1, .ref h2, .ref h3, .ref h4, .ref h5, .ref h6, .ref h7, .ref h8, .ref h9, .ref h10, .ref h11, hv0, hv1, hv2, hv3, .int (nI un2_21)]]) (rest := []) ⟨hx, hb, hml, hown, hg, hl.1⟩ k_X10_182 (s_addDeed l D cy f0 f1 f2 nf2_22 y3 fco2_23 116 (by omega) (f_28) (by omega)) E0_blind hK hP hD hS hA [5, 6] [0, 1, 2, 3, 4] ⟨rfl, rfl, by decide +kernel, by decide +kernel, by decide +kernel⟩ rfl rfl (fun _ _ _ => trivial) dX10_takeNot_33 rfl rfl (Nat.le_of_ble_eq_true rfl) ⟨Nat.le_of_ble_eq_true rfl, Nat.le_of_ble_eq_true rfl⟩ ⟨Nat.le_of_ble_eq_true rfl, Nat.le_of_ble_eq_true rfl⟩ (fun zu46 H locs hw46 hP9 hD9 hS9 => ?_)
    clear hP hD hS
    obtain ⟨n2_47, fc2_48⟩ := zu46
    refine reW [wO d0 10 [.ref t0, .ref d1, .ref h0, .ref f0, .int (nI ow2_20), .int wt, .int dt, .int vv, .int fq2_18, .int pq2_19], wO t0 9 [.ref t1, .ref t2, .int (nI tn), .int (nI ta2_13), .int (nI ts2_14), .int (nI tk2_15), .long tm2_16, .int tr2_17], wI (cy 0) t1 1600 (fby), (t2, .inl (cy 2, 24, .inr (.inl (fky)))), wO h0 4 [.ref h1, .ref h2, .ref h3, .ref h4, .ref h5, .ref h6, .ref h7, .ref h8, .ref h9, .ref h10, .ref h11, hv0, hv1, hv2, hv3, .int (nI un2_21)], wO f0 3 [.ref f1, .ref f2, .int (nI n2_47), y3], wI (cy 1) f1 280 (fc2_48)] hP9 hD9 hS9 (fun hP hD hS => ?_)
    clear hP9 hD9 hS9
    refine W.widen (k := 0) (n := 0) (Nat.le_of_ble_eq_true rfl) (Nat.le_of_ble_eq_true rfl) ?_
    replace hw46 : (n2_47 ≤ 280) ∧ (cOK fc2_48 n2_47) := hw46
    obtain ⟨f_49, f_50⟩ := hw46
    refine lv_iload_n hx hb dX10_takeNot_36 rfl (lv_at hl 0 rfl) ?_
    exact x_zret hQ hx hb hr hlocks hK hP hD hS rfl dX10_takeNot_37 (ta2_13, ts2_14, tk2_15, tm2_16, tr2_17, fq2_18, pq2_19, ow2_20, un2_21, n2_47, fc2_48, ga2_24) (⟨(show ta2_13 ≤ tn from by omega), (show tk2_15 ≤ 123 from by omega), (show n2_47 ≤ 280 from by omega), f_50, (show ow2_20 ≤ 30 from by omega), (show un2_21 ≤ 60 from by omega), (show ((0 : Int32) = 1 ∧ (okS (knd fby tn) (fin fby tn) 4 6 ga ow un ga2_24 ow2_20 un2_21) ∧ (fq = fq2_18) ∧ (pq = pq2_19) ∧ (tkC fby tn ga2_24 ta2_13 ts2_14 tk2_15 tm2_16 tr2_17) ∧ (ga < ga2_24 ∧ ga2_24 ≤ tn)) ∨ ((0 : Int32) = 0 ∧ (noS (knd fby tn) (fin fby tn) 4 6 ga ow un ga2_24) ∧ (flt fby tn ga2_24 2 fq2_18 pq2_19)) from Or.inr (⟨rfl, (not_bad hn16 (by decide) a_38), (a_39)⟩))⟩) [0, 1, 2, 3, 4, 5, 6] (by decide +kernel) rfl (Nat.le_of_ble_eq_true rfl) (Nat.le_of_ble_eq_true rfl)
set_option maxHeartbeats 1000000 in
set_option maxRecDepth 100000 in
theorem s_takeOne6 (l : Launch) (D : va_G) (cy : Nat → ClassId) (adK : Nat → Nat) (adV : Nat → Nat) (d0 : Nat) (d1 : Nat) (wt : Int32) (dt : Int32) (vv : Int32) (fq : Int32) (pq : Int32) (t0 : Nat) (t1 : Nat) (t2 : Nat) (tn : Nat) (ta : Nat) (ts : Nat) (tk : Nat) (tm : Int64) (tr : Int32) (fby : Nat → Int32) (fky : Nat → Int64) (h0 : Nat) (h1 : Nat) (h2 : Nat) (h3 : Nat) (h4 : Nat) (h5 : Nat) (h6 : Nat) (h7 : Nat) (h8 : Nat) (h9 : Nat) (h10 : Nat) (h11 : Nat) (hv0 : Value) (hv1 : Value) (hv2 : Value) (hv3 : Value) (ow : Nat) (un : Nat) (f0 : Nat) (f1 : Nat) (f2 : Nat) (nf : Nat) (y3 : Value) (fco : Nat → Int32) (ga : Nat) (htn : tn ≤ 1600) (hta : ta ≤ tn) (htk : tk ≤ 123) (hti : tkC fby tn ga ta ts tk tm tr) (hky : kyOK fky) (hnf : nf ≤ 280) (hfc : cOK fco nf) (how : ow ≤ 30) (hun : un ≤ 60) (hga : ga ≤ tn) : XMi l D (tyL cy) (EV adK adV) yX10_takeOne cX10_takeOne 4 (some .boolean) (rmk 17 0 0) [.ref d0, .int 6] [wO d0 10 [.ref t0, .ref d1, .ref h0, .ref f0, .int (nI ow), .int wt, .int dt, .int vv, .int fq, .int pq], wO t0 9 [.ref t1, .ref t2, .int (nI tn), .int (nI ta), .int (nI ts), .int (nI tk), .long tm, .int tr], wI (cy 0) t1 1600 (fby), (t2, .inl (cy 2, 24, .inr (.inl (fky)))), wO h0 4 [.ref h1, .ref h2, .ref h3, .ref h4, .ref h5, .ref h6, .ref h7, .ref h8, .ref h9, .ref h10, .ref h11, hv0, hv1, hv2, hv3, .int (nI un)], wO f0 3 [.ref f1, .ref f2, .int (nI nf), y3], wI (cy 1) f1 280 (fco)] (fun (r : Int32) (u : Nat × Nat × Nat × Int64 × Int32 × Int32 × Int32 × Nat × Nat × Nat × (Nat → Int32) × Nat) => (u.1 ≤ tn) ∧ (u.2.2.1 ≤ 123) ∧ (u.2.2.2.2.2.2.2.2.2.1 ≤ 280) ∧ (cOK u.2.2.2.2.2.2.2.2.2.2.1 u.2.2.2.2.2.2.2.2.2.1) ∧ (u.2.2.2.2.2.2.2.1 ≤ 30) ∧ (u.2.2.2.2.2.2.2.2.1 ≤ 60) ∧ ((r = 1 ∧ (okS (knd fby tn) (fin fby tn) 4 6 ga ow un u.2.2.2.2.2.2.2.2.2.2.2 u.2.2.2.2.2.2.2.1 u.2.2.2.2.2.2.2.2.1) ∧ (fq = u.2.2.2.2.2.1) ∧ (pq = u.2.2.2.2.2.2.1) ∧ (tkC fby tn u.2.2.2.2.2.2.2.2.2.2.2 u.1 u.2.1 u.2.2.1 u.2.2.2.1 u.2.2.2.2.1) ∧ (ga < u.2.2.2.2.2.2.2.2.2.2.2 ∧ u.2.2.2.2.2.2.2.2.2.2.2 ≤ tn)) ∨ (r = 0 ∧ (noS (knd fby tn) (fin fby tn) 4 6 ga ow un u.2.2.2.2.2.2.2.2.2.2.2) ∧ (flt fby tn u.2.2.2.2.2.2.2.2.2.2.2 2 u.2.2.2.2.2.1 u.2.2.2.2.2.2.1)))) (fun (u : Nat × Nat × Nat × Int64 × Int32 × Int32 × Int32 × Nat × Nat × Nat × (Nat → Int32) × Nat) => [wO d0 10 [.ref t0, .ref d1, .ref h0, .ref f0, .int (nI u.2.2.2.2.2.2.2.1), .int wt, .int dt, .int vv, .int u.2.2.2.2.2.1, .int u.2.2.2.2.2.2.1], wO t0 9 [.ref t1, .ref t2, .int (nI tn), .int (nI u.1), .int (nI u.2.1), .int (nI u.2.2.1), .long u.2.2.2.1, .int u.2.2.2.2.1], wI (cy 0) t1 1600 (fby), (t2, .inl (cy 2, 24, .inr (.inl (fky)))), wO h0 4 [.ref h1, .ref h2, .ref h3, .ref h4, .ref h5, .ref h6, .ref h7, .ref h8, .ref h9, .ref h10, .ref h11, hv0, hv1, hv2, hv3, .int (nI u.2.2.2.2.2.2.2.2.1)], wO f0 3 [.ref f1, .ref f2, .int (nI u.2.2.2.2.2.2.2.2.2.1), y3], wI (cy 1) f1 280 (u.2.2.2.2.2.2.2.2.2.2.1)]) := by
  refine XMi.start (by decide) (Nat.le_of_ble_eq_true rfl) ?_
  intro p e s m below meth c args A ls Q hat hQ
  obtain ⟨hx, hb, hr, hml, hown, hg, hlocks, hin, hK, hA, hP, hD, hS, hE, hl⟩ := hat
  have hown : s.vm.findClass RX10 = some m.cls := hown
  have hl : lv_has ls 4 [(0, .ref d0), (1, .int 6)] := hl
  refine lv_aload_n hx hb dX10_takeOne_0 rfl (lv_at hl 0 rfl) ?_
  refine va_get (D := D) (ci := 10) (v := .ref t0) (C := RX10) (T := TX10) (N := 10) hx hb hg i_X10 hown hK hP 0 rfl rfl 0 (by decide) (hg _ m_255) (fun _ h9 => h9) rfl dX10_takeOne_1 ?_
  refine va_get (D := D) (ci := 9) (v := .int (nI tk)) (C := RX9) (T := TX9) (N := 8) hx hb hg i_X9 hown hK hP 1 rfl rfl 5 (by decide) (hg _ m_222) (fun _ h9 => h9) rfl dX10_takeOne_4 ?_
  refine lv_bipush (v := 116) hx hb dX10_takeOne_7 (by decide) ?_
  refine lv_icmp_ne (tgt := 18) hx hb dX10_takeOne_9 (by decide) (fun c_1 => ?_) (fun c_1 => ?_)
  · have q_2 : ¬ tk = 116 := q_ne (a := tk) (b := 116) rfl rfl (by omega) (by omega) c_1
    have hn16 : ¬ knd fby tn ga = 116 := by have h9 := hti.2.2.1; omega
    refine lv_aload_n hx hb dX10_takeOne_18 rfl (lv_at hl 0 rfl) ?_
    refine lv_iload_n hx hb dX10_takeOne_19 rfl (lv_at hl 1 rfl) ?_
    refine x_callVi (q := (RX10, TX10, 10)) (ci := 10) (q0 := 0) (wr := []) (rest := []) ⟨hx, hb, hml, hown, hg, hl.1⟩ k_X10_192 (s_takeSum6 l D cy adK adV d0 d1 wt dt vv fq pq t0 t1 t2 tn ta ts tk tm tr fby fky h0 h1 h2 h3 h4 h5 h6 h7 h8 h9 h10 h11 hv0 hv1 hv2 hv3 ow un f0 f1 f2 nf y3 fco ga (by omega) (by omega) (by omega) (hti) (hky) (by omega) (hfc) (by omega) (by omega) (by omega)) EV_blind hK hP hD hS hA [0, 1, 2, 3, 4, 5, 6] [] ⟨rfl, rfl, by decide +kernel, by decide +kernel, by decide +kernel⟩ rfl rfl (fun U hU hW => EV_pass hE hS (va_free hD hS hA [0, 1, 2, 3, 4, 5, 6] rfl) hU hW) dX10_takeOne_20 rfl rfl (Nat.le_of_ble_eq_true rfl) ⟨Nat.le_of_ble_eq_true rfl, Nat.le_of_ble_eq_true rfl⟩ ⟨Nat.le_of_ble_eq_true rfl, Nat.le_of_ble_eq_true rfl⟩ (fun zr3 zu3 H locs hw3 hP9 hD9 hS9 => ?_)
    clear hP hD hS
    obtain ⟨ta2_4, ts2_5, tk2_6, tm2_7, tr2_8, fq2_9, pq2_10, ow2_11, un2_12, nf2_13, fco2_14, ga2_15⟩ := zu3
    refine reW [wO d0 10 [.ref t0, .ref d1, .ref h0, .ref f0, .int (nI ow2_11), .int wt, .int dt, .int vv, .int fq2_9, .int pq2_10], wO t0 9 [.ref t1, .ref t2, .int (nI tn), .int (nI ta2_4), .int (nI ts2_5), .int (nI tk2_6), .long tm2_7, .int tr2_8], wI (cy 0) t1 1600 (fby), (t2, .inl (cy 2, 24, .inr (.inl (fky)))), wO h0 4 [.ref h1, .ref h2, .ref h3, .ref h4, .ref h5, .ref h6, .ref h7, .ref h8, .ref h9, .ref h10, .ref h11, hv0, hv1, hv2, hv3, .int (nI un2_12)], wO f0 3 [.ref f1, .ref f2, .int (nI nf2_13), y3], wI (cy 1) f1 280 (fco2_14)] hP9 hD9 hS9 (fun hP hD hS => ?_)
    clear hP9 hD9 hS9
    refine W.widen (k := 0) (n := 0) (Nat.le_of_ble_eq_true rfl) (Nat.le_of_ble_eq_true rfl) ?_
    replace hw3 : (ta2_4 ≤ tn) ∧ (tk2_6 ≤ 123) ∧ (nf2_13 ≤ 280) ∧ (cOK fco2_14 nf2_13) ∧ (ow2_11 ≤ 30) ∧ (un2_12 ≤ 60) ∧ ((zr3 = 1 ∧ (okS (knd fby tn) (fin fby tn) 5 6 ga ow un ga2_15 ow2_11 un2_12) ∧ (fq = fq2_9) ∧ (pq = pq2_10) ∧ (tkC fby tn ga2_15 ta2_4 ts2_5 tk2_6 tm2_7 tr2_8) ∧ (ga < ga2_15 ∧ ga2_15 ≤ tn)) ∨ (zr3 = 0 ∧ (noS (knd fby tn) (fin fby tn) 5 6 ga ow un ga2_15) ∧ (flt fby tn ga2_15 2 fq2_9 pq2_10))) := hw3
    obtain ⟨f_16, f_17, f_18, f_19, f_20, f_21, f_22⟩ := hw3
    rcases f_22 with ⟨hz_28, a_23, a_24, a_25, a_26, a_27⟩ | ⟨hz_31, a_29, a_30⟩
    · subst hz_28
      subst a_24
      subst a_25
      have hg_a_27 := a_27
      refine lv_if_ne (tgt := 28) hx hb dX10_takeOne_23 (by decide) (fun _ => ?_) (fun h => absurd h (by decide))
      refine lv_aload_n hx hb dX10_takeOne_28 rfl (lv_at hl 0 rfl) ?_
      refine va_get (D := D) (ci := 10) (v := .ref t0) (C := RX10) (T := TX10) (N := 10) hx hb hg i_X10 hown hK hP 0 rfl rfl 0 (by decide) (hg _ m_255) (fun _ h9 => h9) rfl dX10_takeOne_29 ?_
      refine va_get (D := D) (ci := 9) (v := .int (nI tk2_6)) (C := RX9) (T := TX9) (N := 8) hx hb hg i_X9 hown hK hP 1 rfl rfl 5 (by decide) (hg _ m_222) (fun _ h9 => h9) rfl dX10_takeOne_32 ?_
      refine lv_istore_n (lv' := [(2, .int (nI tk2_6)), (0, .ref d0), (1, .int 6)]) hx hb dX10_takeOne_35 rfl hl (by decide) rfl (fun ls hl => ?_)
      refine lv_iload_n hx hb dX10_takeOne_36 rfl (lv_at hl 0 rfl) ?_
      refine lv_bipush (v := 60) hx hb dX10_takeOne_37 (by decide) ?_
      refine lv_icmp_eq (tgt := 56) hx hb dX10_takeOne_39 (by decide) (fun c_32 => ?_) (fun c_32 => ?_)
      · have q_33 : tk2_6 = 60 := q_eq (a := tk2_6) (b := 60) rfl rfl (by omega) (by omega) c_32
        have hop := sg_4 (show knd fby tn ga2_15 = 60 ∨ knd fby tn ga2_15 = 62 ∨ knd fby tn ga2_15 = 61 from by have h9 := a_26.2.2.1; omega)
        have hgt_34 : ga2_15 < fin fby tn ga2_15 ∧ fin fby tn ga2_15 ≤ tn := ⟨fin_gt (by have h9 := a_26.2.2.1; omega), fin_le (by omega)⟩
        refine lv_aload_n hx hb dX10_takeOne_56 rfl (lv_at hl 1 rfl) ?_
        refine va_get (D := D) (ci := 10) (v := .ref t0) (C := RX10) (T := TX10) (N := 10) hx hb hg i_X10 hown hK hP 0 rfl rfl 0 (by decide) (hg _ m_255) (fun _ h9 => h9) rfl dX10_takeOne_57 ?_
        refine x_callVv (q := (RX9, TX9, 8)) (ci := 9) (q0 := 0) (wr := [wO d0 10 [.ref t0, .ref d1, .ref h0, .ref f0, .int (nI ow2_11), .int wt, .int dt, .int vv, .int fq, .int pq], wO h0 4 [.ref h1, .ref h2, .ref h3, .ref h4, .ref h5, .ref h6, .ref h7, .ref h8, .ref h9, .ref h10, .ref h11, hv0, hv1, hv2, hv3, .int (nI un2_12)], wO f0 3 [.ref f1, .ref f2, .int (nI nf2_13), y3], wI (cy 1) f1 280 (fco2_14)]) (rest := []) ⟨hx, hb, hml, hown, hg, hl.1⟩ k_X10_140 (s_next l D cy adK adV t0 t1 t2 tn ta2_4 ts2_5 tk2_6 tm2_7 tr2_8 fby fky (fin fby tn ga2_15) (by omega) (by omega) (a_26.2.1) (hky)) EV_blind hK hP hD hS hA [1, 2, 3] [0, 4, 5, 6] ⟨rfl, rfl, by decide +kernel, by decide +kernel, by decide +kernel⟩ rfl rfl (fun U hU hW => EV_pass hE hS (va_free hD hS hA [1, 2, 3] rfl) hU hW) dX10_takeOne_60 rfl rfl (Nat.le_of_ble_eq_true rfl) ⟨Nat.le_of_ble_eq_true rfl, Nat.le_of_ble_eq_true rfl⟩ ⟨Nat.le_of_ble_eq_true rfl, Nat.le_of_ble_eq_true rfl⟩ (fun zu35 H locs hw35 hP9 hD9 hS9 => ?_)
        clear hP hD hS
        obtain ⟨ta2_36, ts2_37, tk2_38, tm2_39, tr2_40⟩ := zu35
        refine reW [wO d0 10 [.ref t0, .ref d1, .ref h0, .ref f0, .int (nI ow2_11), .int wt, .int dt, .int vv, .int fq, .int pq], wO h0 4 [.ref h1, .ref h2, .ref h3, .ref h4, .ref h5, .ref h6, .ref h7, .ref h8, .ref h9, .ref h10, .ref h11, hv0, hv1, hv2, hv3, .int (nI un2_12)], wO f0 3 [.ref f1, .ref f2, .int (nI nf2_13), y3], wI (cy 1) f1 280 (fco2_14), wO t0 9 [.ref t1, .ref t2, .int (nI tn), .int (nI ta2_36), .int (nI ts2_37), .int (nI tk2_38), .long tm2_39, .int tr2_40], wI (cy 0) t1 1600 (fby), (t2, .inl (cy 2, 24, .inr (.inl (fky))))] hP9 hD9 hS9 (fun hP hD hS => ?_)
        clear hP9 hD9 hS9
        refine W.widen (k := 0) (n := 0) (Nat.le_of_ble_eq_true rfl) (Nat.le_of_ble_eq_true rfl) ?_
        replace hw35 : (ta2_36 ≤ tn) ∧ (tk2_38 ≤ 123) ∧ (tkC fby tn (fin fby tn ga2_15) ta2_36 ts2_37 tk2_38 tm2_39 tr2_40) := hw35
        obtain ⟨f_41, f_42, f_43⟩ := hw35
        refine lv_aload_n hx hb dX10_takeOne_63 rfl (lv_at hl 1 rfl) ?_
        refine lv_iload_n hx hb dX10_takeOne_64 rfl (lv_at hl 2 rfl) ?_
        refine x_callVi (q := (RX10, TX10, 10)) (ci := 10) (q0 := 0) (wr := []) (rest := []) ⟨hx, hb, hml, hown, hg, hl.1⟩ k_X10_192 (s_takeSum6 l D cy adK adV d0 d1 wt dt vv fq pq t0 t1 t2 tn ta2_36 ts2_37 tk2_38 tm2_39 tr2_40 fby fky h0 h1 h2 h3 h4 h5 h6 h7 h8 h9 h10 h11 hv0 hv1 hv2 hv3 ow2_11 un2_12 f0 f1 f2 nf2_13 y3 fco2_14 (fin fby tn ga2_15) (by omega) (by omega) (by omega) (f_43) (hky) (by omega) (f_19) (by omega) (by omega) (by omega)) EV_blind hK hP hD hS hA [0, 4, 5, 6, 1, 2, 3] [] ⟨rfl, rfl, by decide +kernel, by decide +kernel, by decide +kernel⟩ rfl rfl (fun U hU hW => EV_pass hE hS (va_free hD hS hA [0, 4, 5, 6, 1, 2, 3] rfl) hU hW) dX10_takeOne_65 rfl rfl (Nat.le_of_ble_eq_true rfl) ⟨Nat.le_of_ble_eq_true rfl, Nat.le_of_ble_eq_true rfl⟩ ⟨Nat.le_of_ble_eq_true rfl, Nat.le_of_ble_eq_true rfl⟩ (fun zr44 zu44 H locs hw44 hP9 hD9 hS9 => ?_)
        clear hP hD hS
        obtain ⟨ta2_45, ts2_46, tk2_47, tm2_48, tr2_49, fq2_50, pq2_51, ow2_52, un2_53, nf2_54, fco2_55, ga2_56⟩ := zu44
        refine reW [wO d0 10 [.ref t0, .ref d1, .ref h0, .ref f0, .int (nI ow2_52), .int wt, .int dt, .int vv, .int fq2_50, .int pq2_51], wO t0 9 [.ref t1, .ref t2, .int (nI tn), .int (nI ta2_45), .int (nI ts2_46), .int (nI tk2_47), .long tm2_48, .int tr2_49], wI (cy 0) t1 1600 (fby), (t2, .inl (cy 2, 24, .inr (.inl (fky)))), wO h0 4 [.ref h1, .ref h2, .ref h3, .ref h4, .ref h5, .ref h6, .ref h7, .ref h8, .ref h9, .ref h10, .ref h11, hv0, hv1, hv2, hv3, .int (nI un2_53)], wO f0 3 [.ref f1, .ref f2, .int (nI nf2_54), y3], wI (cy 1) f1 280 (fco2_55)] hP9 hD9 hS9 (fun hP hD hS => ?_)
        clear hP9 hD9 hS9
        refine W.widen (k := 0) (n := 0) (Nat.le_of_ble_eq_true rfl) (Nat.le_of_ble_eq_true rfl) ?_
        replace hw44 : (ta2_45 ≤ tn) ∧ (tk2_47 ≤ 123) ∧ (nf2_54 ≤ 280) ∧ (cOK fco2_55 nf2_54) ∧ (ow2_52 ≤ 30) ∧ (un2_53 ≤ 60) ∧ ((zr44 = 1 ∧ (okS (knd fby tn) (fin fby tn) 5 6 (fin fby tn ga2_15) ow2_11 un2_12 ga2_56 ow2_52 un2_53) ∧ (fq = fq2_50) ∧ (pq = pq2_51) ∧ (tkC fby tn ga2_56 ta2_45 ts2_46 tk2_47 tm2_48 tr2_49) ∧ ((fin fby tn ga2_15) < ga2_56 ∧ ga2_56 ≤ tn)) ∨ (zr44 = 0 ∧ (noS (knd fby tn) (fin fby tn) 5 6 (fin fby tn ga2_15) ow2_11 un2_12 ga2_56) ∧ (flt fby tn ga2_56 2 fq2_50 pq2_51))) := hw44
        obtain ⟨f_57, f_58, f_59, f_60, f_61, f_62, f_63⟩ := hw44
        rcases f_63 with ⟨hz_69, a_64, a_65, a_66, a_67, a_68⟩ | ⟨hz_72, a_70, a_71⟩
        · subst hz_69
          subst a_65
          subst a_66
          have hg_a_68 := a_68
          refine lv_istore_n (lv' := [(3, .int 1), (2, .int (nI tk2_6)), (0, .ref d0), (1, .int 6)]) hx hb dX10_takeOne_68 rfl hl (by decide) rfl (fun ls hl => ?_)
          refine lv_aload_n hx hb dX10_takeOne_69 rfl (lv_at hl 2 rfl) ?_
          refine va_get (D := D) (ci := 10) (v := .ref f0) (C := RX10) (T := TX10) (N := 10) hx hb hg i_X10 hown hK hP 0 rfl rfl 3 (by decide) (hg _ m_258) (fun _ h9 => h9) rfl dX10_takeOne_70 ?_
          refine lv_iload_n hx hb dX10_takeOne_73 rfl (lv_at hl 1 rfl) ?_
          refine x_callVv (q := (RX3, TX3, 4)) (ci := 3) (q0 := 0) (wr := [wO d0 10 [.ref t0, .ref d1, .ref h0, .ref f0, .int (nI ow2_52), .int wt, .int dt, .int vv, .int fq, .int pq], wO t0 9 [.ref t1, .ref t2, .int (nI tn), .int (nI ta2_45), .int (nI ts2_46), .int (nI tk2_47), .long tm2_48, .int tr2_49], wI (cy 0) t1 1600 (fby), (t2, .inl (cy 2, 24, .inr (.inl (fky)))), wO h0 4 [.ref h1, .ref h2, .ref h3, .ref h4, .ref h5, .ref h6, .ref h7, .ref h8, .ref h9, .ref h10, .ref h11, hv0, hv1, hv2, hv3, .int (nI un2_53)]]) (rest := []) ⟨hx, hb, hml, hown, hg, hl.1⟩ k_X10_182 (s_addDeed l D cy f0 f1 f2 nf2_54 y3 fco2_55 tk2_6 (by omega) (f_60) (by omega)) E0_blind hK hP hD hS hA [5, 6] [0, 1, 2, 3, 4] ⟨rfl, rfl, by decide +kernel, by decide +kernel, by decide +kernel⟩ rfl rfl (fun _ _ _ => trivial) dX10_takeOne_74 rfl rfl (Nat.le_of_ble_eq_true rfl) ⟨Nat.le_of_ble_eq_true rfl, Nat.le_of_ble_eq_true rfl⟩ ⟨Nat.le_of_ble_eq_true rfl, Nat.le_of_ble_eq_true rfl⟩ (fun zu73 H locs hw73 hP9 hD9 hS9 => ?_)
          clear hP hD hS
          obtain ⟨n2_74, fc2_75⟩ := zu73
          refine reW [wO d0 10 [.ref t0, .ref d1, .ref h0, .ref f0, .int (nI ow2_52), .int wt, .int dt, .int vv, .int fq, .int pq], wO t0 9 [.ref t1, .ref t2, .int (nI tn), .int (nI ta2_45), .int (nI ts2_46), .int (nI tk2_47), .long tm2_48, .int tr2_49], wI (cy 0) t1 1600 (fby), (t2, .inl (cy 2, 24, .inr (.inl (fky)))), wO h0 4 [.ref h1, .ref h2, .ref h3, .ref h4, .ref h5, .ref h6, .ref h7, .ref h8, .ref h9, .ref h10, .ref h11, hv0, hv1, hv2, hv3, .int (nI un2_53)], wO f0 3 [.ref f1, .ref f2, .int (nI n2_74), y3], wI (cy 1) f1 280 (fc2_75)] hP9 hD9 hS9 (fun hP hD hS => ?_)
          clear hP9 hD9 hS9
          refine W.widen (k := 0) (n := 0) (Nat.le_of_ble_eq_true rfl) (Nat.le_of_ble_eq_true rfl) ?_
          replace hw73 : (n2_74 ≤ 280) ∧ (cOK fc2_75 n2_74) := hw73
          obtain ⟨f_76, f_77⟩ := hw73
          refine lv_iload_n hx hb dX10_takeOne_77 rfl (lv_at hl 0 rfl) ?_
          exact x_zret hQ hx hb hr hlocks hK hP hD hS rfl dX10_takeOne_78 (ta2_45, ts2_46, tk2_47, tm2_48, tr2_49, fq, pq, ow2_52, un2_53, n2_74, fc2_75, ga2_56) (⟨(show ta2_45 ≤ tn from by omega), (show tk2_47 ≤ 123 from by omega), (show n2_74 ≤ 280 from by omega), f_77, (show ow2_52 ≤ 30 from by omega), (show un2_53 ≤ 60 from by omega), (show ((1 : Int32) = 1 ∧ (okS (knd fby tn) (fin fby tn) 4 6 ga ow un ga2_56 ow2_52 un2_53) ∧ (fq = fq) ∧ (pq = pq) ∧ (tkC fby tn ga2_56 ta2_45 ts2_46 tk2_47 tm2_48 tr2_49) ∧ (ga < ga2_56 ∧ ga2_56 ≤ tn)) ∨ ((1 : Int32) = 0 ∧ (noS (knd fby tn) (fin fby tn) 4 6 ga ow un ga2_56) ∧ (flt fby tn ga2_56 2 fq pq)) from Or.inl ⟨rfl, (one_rel hn16 a_23 hop.1 hop.2 a_64), (rfl), (rfl), (a_67), (⟨by omega, by omega⟩)⟩)⟩) [0, 1, 2, 3, 4, 5, 6] (by decide +kernel) rfl (Nat.le_of_ble_eq_true rfl) (Nat.le_of_ble_eq_true rfl)
        · subst hz_72
          refine lv_istore_n (lv' := [(3, .int 0), (2, .int (nI tk2_6)), (0, .ref d0), (1, .int 6)]) hx hb dX10_takeOne_68 rfl hl (by decide) rfl (fun ls hl => ?_)
          refine lv_aload_n hx hb dX10_takeOne_69 rfl (lv_at hl 2 rfl) ?_
          refine va_get (D := D) (ci := 10) (v := .ref f0) (C := RX10) (T := TX10) (N := 10) hx hb hg i_X10 hown hK hP 0 rfl rfl 3 (by decide) (hg _ m_258) (fun _ h9 => h9) rfl dX10_takeOne_70 ?_
          refine lv_iload_n hx hb dX10_takeOne_73 rfl (lv_at hl 1 rfl) ?_
          refine x_callVv (q := (RX3, TX3, 4)) (ci := 3) (q0 := 0) (wr := [wO d0 10 [.ref t0, .ref d1, .ref h0, .ref f0, .int (nI ow2_52), .int wt, .int dt, .int vv, .int fq2_50, .int pq2_51], wO t0 9 [.ref t1, .ref t2, .int (nI tn), .int (nI ta2_45), .int (nI ts2_46), .int (nI tk2_47), .long tm2_48, .int tr2_49], wI (cy 0) t1 1600 (fby), (t2, .inl (cy 2, 24, .inr (.inl (fky)))), wO h0 4 [.ref h1, .ref h2, .ref h3, .ref h4, .ref h5, .ref h6, .ref h7, .ref h8, .ref h9, .ref h10, .ref h11, hv0, hv1, hv2, hv3, .int (nI un2_53)]]) (rest := []) ⟨hx, hb, hml, hown, hg, hl.1⟩ k_X10_182 (s_addDeed l D cy f0 f1 f2 nf2_54 y3 fco2_55 tk2_6 (by omega) (f_60) (by omega)) E0_blind hK hP hD hS hA [5, 6] [0, 1, 2, 3, 4] ⟨rfl, rfl, by decide +kernel, by decide +kernel, by decide +kernel⟩ rfl rfl (fun _ _ _ => trivial) dX10_takeOne_74 rfl rfl (Nat.le_of_ble_eq_true rfl) ⟨Nat.le_of_ble_eq_true rfl, Nat.le_of_ble_eq_true rfl⟩ ⟨Nat.le_of_ble_eq_true rfl, Nat.le_of_ble_eq_true rfl⟩ (fun zu78 H locs hw78 hP9 hD9 hS9 => ?_)
          clear hP hD hS
          obtain ⟨n2_79, fc2_80⟩ := zu78
          refine reW [wO d0 10 [.ref t0, .ref d1, .ref h0, .ref f0, .int (nI ow2_52), .int wt, .int dt, .int vv, .int fq2_50, .int pq2_51], wO t0 9 [.ref t1, .ref t2, .int (nI tn), .int (nI ta2_45), .int (nI ts2_46), .int (nI tk2_47), .long tm2_48, .int tr2_49], wI (cy 0) t1 1600 (fby), (t2, .inl (cy 2, 24, .inr (.inl (fky)))), wO h0 4 [.ref h1, .ref h2, .ref h3, .ref h4, .ref h5, .ref h6, .ref h7, .ref h8, .ref h9, .ref h10, .ref h11, hv0, hv1, hv2, hv3, .int (nI un2_53)], wO f0 3 [.ref f1, .ref f2, .int (nI n2_79), y3], wI (cy 1) f1 280 (fc2_80)] hP9 hD9 hS9 (fun hP hD hS => ?_)
          clear hP9 hD9 hS9
          refine W.widen (k := 0) (n := 0) (Nat.le_of_ble_eq_true rfl) (Nat.le_of_ble_eq_true rfl) ?_
          replace hw78 : (n2_79 ≤ 280) ∧ (cOK fc2_80 n2_79) := hw78
          obtain ⟨f_81, f_82⟩ := hw78
          refine lv_iload_n hx hb dX10_takeOne_77 rfl (lv_at hl 0 rfl) ?_
          exact x_zret hQ hx hb hr hlocks hK hP hD hS rfl dX10_takeOne_78 (ta2_45, ts2_46, tk2_47, tm2_48, tr2_49, fq2_50, pq2_51, ow2_52, un2_53, n2_79, fc2_80, ga2_56) (⟨(show ta2_45 ≤ tn from by omega), (show tk2_47 ≤ 123 from by omega), (show n2_79 ≤ 280 from by omega), f_82, (show ow2_52 ≤ 30 from by omega), (show un2_53 ≤ 60 from by omega), (show ((0 : Int32) = 1 ∧ (okS (knd fby tn) (fin fby tn) 4 6 ga ow un ga2_56 ow2_52 un2_53) ∧ (fq = fq2_50) ∧ (pq = pq2_51) ∧ (tkC fby tn ga2_56 ta2_45 ts2_46 tk2_47 tm2_48 tr2_49) ∧ (ga < ga2_56 ∧ ga2_56 ≤ tn)) ∨ ((0 : Int32) = 0 ∧ (noS (knd fby tn) (fin fby tn) 4 6 ga ow un ga2_56) ∧ (flt fby tn ga2_56 2 fq2_50 pq2_51)) from Or.inr (⟨rfl, (one_relN hn16 a_23 hop.1 hop.2 a_70), (a_71)⟩))⟩) [0, 1, 2, 3, 4, 5, 6] (by decide +kernel) rfl (Nat.le_of_ble_eq_true rfl) (Nat.le_of_ble_eq_true rfl)
      · have q_33 : ¬ tk2_6 = 60 := q_ne (a := tk2_6) (b := 60) rfl rfl (by omega) (by omega) c_32
        refine lv_iload_n hx hb dX10_takeOne_42 rfl (lv_at hl 0 rfl) ?_
        refine lv_bipush (v := 62) hx hb dX10_takeOne_43 (by decide) ?_
        refine lv_icmp_eq (tgt := 56) hx hb dX10_takeOne_45 (by decide) (fun c_83 => ?_) (fun c_83 => ?_)
        · have q_84 : tk2_6 = 62 := q_eq (a := tk2_6) (b := 62) rfl rfl (by omega) (by omega) c_83
          have hop := sg_4 (show knd fby tn ga2_15 = 60 ∨ knd fby tn ga2_15 = 62 ∨ knd fby tn ga2_15 = 61 from by have h9 := a_26.2.2.1; omega)
          have hgt_85 : ga2_15 < fin fby tn ga2_15 ∧ fin fby tn ga2_15 ≤ tn := ⟨fin_gt (by have h9 := a_26.2.2.1; omega), fin_le (by omega)⟩
          refine lv_aload_n hx hb dX10_takeOne_56 rfl (lv_at hl 1 rfl) ?_
          refine va_get (D := D) (ci := 10) (v := .ref t0) (C := RX10) (T := TX10) (N := 10) hx hb hg i_X10 hown hK hP 0 rfl rfl 0 (by decide) (hg _ m_255) (fun _ h9 => h9) rfl dX10_takeOne_57 ?_
          refine x_callVv (q := (RX9, TX9, 8)) (ci := 9) (q0 := 0) (wr := [wO d0 10 [.ref t0, .ref d1, .ref h0, .ref f0, .int (nI ow2_11), .int wt, .int dt, .int vv, .int fq, .int pq], wO h0 4 [.ref h1, .ref h2, .ref h3, .ref h4, .ref h5, .ref h6, .ref h7, .ref h8, .ref h9, .ref h10, .ref h11, hv0, hv1, hv2, hv3, .int (nI un2_12)], wO f0 3 [.ref f1, .ref f2, .int (nI nf2_13), y3], wI (cy 1) f1 280 (fco2_14)]) (rest := []) ⟨hx, hb, hml, hown, hg, hl.1⟩ k_X10_140 (s_next l D cy adK adV t0 t1 t2 tn ta2_4 ts2_5 tk2_6 tm2_7 tr2_8 fby fky (fin fby tn ga2_15) (by omega) (by omega) (a_26.2.1) (hky)) EV_blind hK hP hD hS hA [1, 2, 3] [0, 4, 5, 6] ⟨rfl, rfl, by decide +kernel, by decide +kernel, by decide +kernel⟩ rfl rfl (fun U hU hW => EV_pass hE hS (va_free hD hS hA [1, 2, 3] rfl) hU hW) dX10_takeOne_60 rfl rfl (Nat.le_of_ble_eq_true rfl) ⟨Nat.le_of_ble_eq_true rfl, Nat.le_of_ble_eq_true rfl⟩ ⟨Nat.le_of_ble_eq_true rfl, Nat.le_of_ble_eq_true rfl⟩ (fun zu86 H locs hw86 hP9 hD9 hS9 => ?_)
          clear hP hD hS
          obtain ⟨ta2_87, ts2_88, tk2_89, tm2_90, tr2_91⟩ := zu86
          refine reW [wO d0 10 [.ref t0, .ref d1, .ref h0, .ref f0, .int (nI ow2_11), .int wt, .int dt, .int vv, .int fq, .int pq], wO h0 4 [.ref h1, .ref h2, .ref h3, .ref h4, .ref h5, .ref h6, .ref h7, .ref h8, .ref h9, .ref h10, .ref h11, hv0, hv1, hv2, hv3, .int (nI un2_12)], wO f0 3 [.ref f1, .ref f2, .int (nI nf2_13), y3], wI (cy 1) f1 280 (fco2_14), wO t0 9 [.ref t1, .ref t2, .int (nI tn), .int (nI ta2_87), .int (nI ts2_88), .int (nI tk2_89), .long tm2_90, .int tr2_91], wI (cy 0) t1 1600 (fby), (t2, .inl (cy 2, 24, .inr (.inl (fky))))] hP9 hD9 hS9 (fun hP hD hS => ?_)
          clear hP9 hD9 hS9
          refine W.widen (k := 0) (n := 0) (Nat.le_of_ble_eq_true rfl) (Nat.le_of_ble_eq_true rfl) ?_
          replace hw86 : (ta2_87 ≤ tn) ∧ (tk2_89 ≤ 123) ∧ (tkC fby tn (fin fby tn ga2_15) ta2_87 ts2_88 tk2_89 tm2_90 tr2_91) := hw86
          obtain ⟨f_92, f_93, f_94⟩ := hw86
          refine lv_aload_n hx hb dX10_takeOne_63 rfl (lv_at hl 1 rfl) ?_
          refine lv_iload_n hx hb dX10_takeOne_64 rfl (lv_at hl 2 rfl) ?_
          refine x_callVi (q := (RX10, TX10, 10)) (ci := 10) (q0 := 0) (wr := []) (rest := []) ⟨hx, hb, hml, hown, hg, hl.1⟩ k_X10_192 (s_takeSum6 l D cy adK adV d0 d1 wt dt vv fq pq t0 t1 t2 tn ta2_87 ts2_88 tk2_89 tm2_90 tr2_91 fby fky h0 h1 h2 h3 h4 h5 h6 h7 h8 h9 h10 h11 hv0 hv1 hv2 hv3 ow2_11 un2_12 f0 f1 f2 nf2_13 y3 fco2_14 (fin fby tn ga2_15) (by omega) (by omega) (by omega) (f_94) (hky) (by omega) (f_19) (by omega) (by omega) (by omega)) EV_blind hK hP hD hS hA [0, 4, 5, 6, 1, 2, 3] [] ⟨rfl, rfl, by decide +kernel, by decide +kernel, by decide +kernel⟩ rfl rfl (fun U hU hW => EV_pass hE hS (va_free hD hS hA [0, 4, 5, 6, 1, 2, 3] rfl) hU hW) dX10_takeOne_65 rfl rfl (Nat.le_of_ble_eq_true rfl) ⟨Nat.le_of_ble_eq_true rfl, Nat.le_of_ble_eq_true rfl⟩ ⟨Nat.le_of_ble_eq_true rfl, Nat.le_of_ble_eq_true rfl⟩ (fun zr95 zu95 H locs hw95 hP9 hD9 hS9 => ?_)
          clear hP hD hS
          obtain ⟨ta2_96, ts2_97, tk2_98, tm2_99, tr2_100, fq2_101, pq2_102, ow2_103, un2_104, nf2_105, fco2_106, ga2_107⟩ := zu95
          refine reW [wO d0 10 [.ref t0, .ref d1, .ref h0, .ref f0, .int (nI ow2_103), .int wt, .int dt, .int vv, .int fq2_101, .int pq2_102], wO t0 9 [.ref t1, .ref t2, .int (nI tn), .int (nI ta2_96), .int (nI ts2_97), .int (nI tk2_98), .long tm2_99, .int tr2_100], wI (cy 0) t1 1600 (fby), (t2, .inl (cy 2, 24, .inr (.inl (fky)))), wO h0 4 [.ref h1, .ref h2, .ref h3, .ref h4, .ref h5, .ref h6, .ref h7, .ref h8, .ref h9, .ref h10, .ref h11, hv0, hv1, hv2, hv3, .int (nI un2_104)], wO f0 3 [.ref f1, .ref f2, .int (nI nf2_105), y3], wI (cy 1) f1 280 (fco2_106)] hP9 hD9 hS9 (fun hP hD hS => ?_)
          clear hP9 hD9 hS9
          refine W.widen (k := 0) (n := 0) (Nat.le_of_ble_eq_true rfl) (Nat.le_of_ble_eq_true rfl) ?_
          replace hw95 : (ta2_96 ≤ tn) ∧ (tk2_98 ≤ 123) ∧ (nf2_105 ≤ 280) ∧ (cOK fco2_106 nf2_105) ∧ (ow2_103 ≤ 30) ∧ (un2_104 ≤ 60) ∧ ((zr95 = 1 ∧ (okS (knd fby tn) (fin fby tn) 5 6 (fin fby tn ga2_15) ow2_11 un2_12 ga2_107 ow2_103 un2_104) ∧ (fq = fq2_101) ∧ (pq = pq2_102) ∧ (tkC fby tn ga2_107 ta2_96 ts2_97 tk2_98 tm2_99 tr2_100) ∧ ((fin fby tn ga2_15) < ga2_107 ∧ ga2_107 ≤ tn)) ∨ (zr95 = 0 ∧ (noS (knd fby tn) (fin fby tn) 5 6 (fin fby tn ga2_15) ow2_11 un2_12 ga2_107) ∧ (flt fby tn ga2_107 2 fq2_101 pq2_102))) := hw95
          obtain ⟨f_108, f_109, f_110, f_111, f_112, f_113, f_114⟩ := hw95
          rcases f_114 with ⟨hz_120, a_115, a_116, a_117, a_118, a_119⟩ | ⟨hz_123, a_121, a_122⟩
          · subst hz_120
            subst a_116
            subst a_117
            have hg_a_119 := a_119
            refine lv_istore_n (lv' := [(3, .int 1), (2, .int (nI tk2_6)), (0, .ref d0), (1, .int 6)]) hx hb dX10_takeOne_68 rfl hl (by decide) rfl (fun ls hl => ?_)
            refine lv_aload_n hx hb dX10_takeOne_69 rfl (lv_at hl 2 rfl) ?_
            refine va_get (D := D) (ci := 10) (v := .ref f0) (C := RX10) (T := TX10) (N := 10) hx hb hg i_X10 hown hK hP 0 rfl rfl 3 (by decide) (hg _ m_258) (fun _ h9 => h9) rfl dX10_takeOne_70 ?_
            refine lv_iload_n hx hb dX10_takeOne_73 rfl (lv_at hl 1 rfl) ?_
            refine x_callVv (q := (RX3, TX3, 4)) (ci := 3) (q0 := 0) (wr := [wO d0 10 [.ref t0, .ref d1, .ref h0, .ref f0, .int (nI ow2_103), .int wt, .int dt, .int vv, .int fq, .int pq], wO t0 9 [.ref t1, .ref t2, .int (nI tn), .int (nI ta2_96), .int (nI ts2_97), .int (nI tk2_98), .long tm2_99, .int tr2_100], wI (cy 0) t1 1600 (fby), (t2, .inl (cy 2, 24, .inr (.inl (fky)))), wO h0 4 [.ref h1, .ref h2, .ref h3, .ref h4, .ref h5, .ref h6, .ref h7, .ref h8, .ref h9, .ref h10, .ref h11, hv0, hv1, hv2, hv3, .int (nI un2_104)]]) (rest := []) ⟨hx, hb, hml, hown, hg, hl.1⟩ k_X10_182 (s_addDeed l D cy f0 f1 f2 nf2_105 y3 fco2_106 tk2_6 (by omega) (f_111) (by omega)) E0_blind hK hP hD hS hA [5, 6] [0, 1, 2, 3, 4] ⟨rfl, rfl, by decide +kernel, by decide +kernel, by decide +kernel⟩ rfl rfl (fun _ _ _ => trivial) dX10_takeOne_74 rfl rfl (Nat.le_of_ble_eq_true rfl) ⟨Nat.le_of_ble_eq_true rfl, Nat.le_of_ble_eq_true rfl⟩ ⟨Nat.le_of_ble_eq_true rfl, Nat.le_of_ble_eq_true rfl⟩ (fun zu124 H locs hw124 hP9 hD9 hS9 => ?_)
            clear hP hD hS
            obtain ⟨n2_125, fc2_126⟩ := zu124
            refine reW [wO d0 10 [.ref t0, .ref d1, .ref h0, .ref f0, .int (nI ow2_103), .int wt, .int dt, .int vv, .int fq, .int pq], wO t0 9 [.ref t1, .ref t2, .int (nI tn), .int (nI ta2_96), .int (nI ts2_97), .int (nI tk2_98), .long tm2_99, .int tr2_100], wI (cy 0) t1 1600 (fby), (t2, .inl (cy 2, 24, .inr (.inl (fky)))), wO h0 4 [.ref h1, .ref h2, .ref h3, .ref h4, .ref h5, .ref h6, .ref h7, .ref h8, .ref h9, .ref h10, .ref h11, hv0, hv1, hv2, hv3, .int (nI un2_104)], wO f0 3 [.ref f1, .ref f2, .int (nI n2_125), y3], wI (cy 1) f1 280 (fc2_126)] hP9 hD9 hS9 (fun hP hD hS => ?_)
            clear hP9 hD9 hS9
            refine W.widen (k := 0) (n := 0) (Nat.le_of_ble_eq_true rfl) (Nat.le_of_ble_eq_true rfl) ?_
            replace hw124 : (n2_125 ≤ 280) ∧ (cOK fc2_126 n2_125) := hw124
            obtain ⟨f_127, f_128⟩ := hw124
            refine lv_iload_n hx hb dX10_takeOne_77 rfl (lv_at hl 0 rfl) ?_
            exact x_zret hQ hx hb hr hlocks hK hP hD hS rfl dX10_takeOne_78 (ta2_96, ts2_97, tk2_98, tm2_99, tr2_100, fq, pq, ow2_103, un2_104, n2_125, fc2_126, ga2_107) (⟨(show ta2_96 ≤ tn from by omega), (show tk2_98 ≤ 123 from by omega), (show n2_125 ≤ 280 from by omega), f_128, (show ow2_103 ≤ 30 from by omega), (show un2_104 ≤ 60 from by omega), (show ((1 : Int32) = 1 ∧ (okS (knd fby tn) (fin fby tn) 4 6 ga ow un ga2_107 ow2_103 un2_104) ∧ (fq = fq) ∧ (pq = pq) ∧ (tkC fby tn ga2_107 ta2_96 ts2_97 tk2_98 tm2_99 tr2_100) ∧ (ga < ga2_107 ∧ ga2_107 ≤ tn)) ∨ ((1 : Int32) = 0 ∧ (noS (knd fby tn) (fin fby tn) 4 6 ga ow un ga2_107) ∧ (flt fby tn ga2_107 2 fq pq)) from Or.inl ⟨rfl, (one_rel hn16 a_23 hop.1 hop.2 a_115), (rfl), (rfl), (a_118), (⟨by omega, by omega⟩)⟩)⟩) [0, 1, 2, 3, 4, 5, 6] (by decide +kernel) rfl (Nat.le_of_ble_eq_true rfl) (Nat.le_of_ble_eq_true rfl)
          · subst hz_123
            refine lv_istore_n (lv' := [(3, .int 0), (2, .int (nI tk2_6)), (0, .ref d0), (1, .int 6)]) hx hb dX10_takeOne_68 rfl hl (by decide) rfl (fun ls hl => ?_)
            refine lv_aload_n hx hb dX10_takeOne_69 rfl (lv_at hl 2 rfl) ?_
            refine va_get (D := D) (ci := 10) (v := .ref f0) (C := RX10) (T := TX10) (N := 10) hx hb hg i_X10 hown hK hP 0 rfl rfl 3 (by decide) (hg _ m_258) (fun _ h9 => h9) rfl dX10_takeOne_70 ?_
            refine lv_iload_n hx hb dX10_takeOne_73 rfl (lv_at hl 1 rfl) ?_
            refine x_callVv (q := (RX3, TX3, 4)) (ci := 3) (q0 := 0) (wr := [wO d0 10 [.ref t0, .ref d1, .ref h0, .ref f0, .int (nI ow2_103), .int wt, .int dt, .int vv, .int fq2_101, .int pq2_102], wO t0 9 [.ref t1, .ref t2, .int (nI tn), .int (nI ta2_96), .int (nI ts2_97), .int (nI tk2_98), .long tm2_99, .int tr2_100], wI (cy 0) t1 1600 (fby), (t2, .inl (cy 2, 24, .inr (.inl (fky)))), wO h0 4 [.ref h1, .ref h2, .ref h3, .ref h4, .ref h5, .ref h6, .ref h7, .ref h8, .ref h9, .ref h10, .ref h11, hv0, hv1, hv2, hv3, .int (nI un2_104)]]) (rest := []) ⟨hx, hb, hml, hown, hg, hl.1⟩ k_X10_182 (s_addDeed l D cy f0 f1 f2 nf2_105 y3 fco2_106 tk2_6 (by omega) (f_111) (by omega)) E0_blind hK hP hD hS hA [5, 6] [0, 1, 2, 3, 4] ⟨rfl, rfl, by decide +kernel, by decide +kernel, by decide +kernel⟩ rfl rfl (fun _ _ _ => trivial) dX10_takeOne_74 rfl rfl (Nat.le_of_ble_eq_true rfl) ⟨Nat.le_of_ble_eq_true rfl, Nat.le_of_ble_eq_true rfl⟩ ⟨Nat.le_of_ble_eq_true rfl, Nat.le_of_ble_eq_true rfl⟩ (fun zu129 H locs hw129 hP9 hD9 hS9 => ?_)
            clear hP hD hS
            obtain ⟨n2_130, fc2_131⟩ := zu129
            refine reW [wO d0 10 [.ref t0, .ref d1, .ref h0, .ref f0, .int (nI ow2_103), .int wt, .int dt, .int vv, .int fq2_101, .int pq2_102], wO t0 9 [.ref t1, .ref t2, .int (nI tn), .int (nI ta2_96), .int (nI ts2_97), .int (nI tk2_98), .long tm2_99, .int tr2_100], wI (cy 0) t1 1600 (fby), (t2, .inl (cy 2, 24, .inr (.inl (fky)))), wO h0 4 [.ref h1, .ref h2, .ref h3, .ref h4, .ref h5, .ref h6, .ref h7, .ref h8, .ref h9, .ref h10, .ref h11, hv0, hv1, hv2, hv3, .int (nI un2_104)], wO f0 3 [.ref f1, .ref f2, .int (nI n2_130), y3], wI (cy 1) f1 280 (fc2_131)] hP9 hD9 hS9 (fun hP hD hS => ?_)
            clear hP9 hD9 hS9
            refine W.widen (k := 0) (n := 0) (Nat.le_of_ble_eq_true rfl) (Nat.le_of_ble_eq_true rfl) ?_
            replace hw129 : (n2_130 ≤ 280) ∧ (cOK fc2_131 n2_130) := hw129
            obtain ⟨f_132, f_133⟩ := hw129
            refine lv_iload_n hx hb dX10_takeOne_77 rfl (lv_at hl 0 rfl) ?_
            exact x_zret hQ hx hb hr hlocks hK hP hD hS rfl dX10_takeOne_78 (ta2_96, ts2_97, tk2_98, tm2_99, tr2_100, fq2_101, pq2_102, ow2_103, un2_104, n2_130, fc2_131, ga2_107) (⟨(show ta2_96 ≤ tn from by omega), (show tk2_98 ≤ 123 from by omega), (show n2_130 ≤ 280 from by omega), f_133, (show ow2_103 ≤ 30 from by omega), (show un2_104 ≤ 60 from by omega), (show ((0 : Int32) = 1 ∧ (okS (knd fby tn) (fin fby tn) 4 6 ga ow un ga2_107 ow2_103 un2_104) ∧ (fq = fq2_101) ∧ (pq = pq2_102) ∧ (tkC fby tn ga2_107 ta2_96 ts2_97 tk2_98 tm2_99 tr2_100) ∧ (ga < ga2_107 ∧ ga2_107 ≤ tn)) ∨ ((0 : Int32) = 0 ∧ (noS (knd fby tn) (fin fby tn) 4 6 ga ow un ga2_107) ∧ (flt fby tn ga2_107 2 fq2_101 pq2_102)) from Or.inr (⟨rfl, (one_relN hn16 a_23 hop.1 hop.2 a_121), (a_122)⟩))⟩) [0, 1, 2, 3, 4, 5, 6] (by decide +kernel) rfl (Nat.le_of_ble_eq_true rfl) (Nat.le_of_ble_eq_true rfl)
        · have q_84 : ¬ tk2_6 = 62 := q_ne (a := tk2_6) (b := 62) rfl rfl (by omega) (by omega) c_83
          refine lv_iload_n hx hb dX10_takeOne_48 rfl (lv_at hl 0 rfl) ?_
          refine lv_bipush (v := 61) hx hb dX10_takeOne_49 (by decide) ?_
          refine lv_icmp_eq (tgt := 56) hx hb dX10_takeOne_51 (by decide) (fun c_134 => ?_) (fun c_134 => ?_)
          · have q_135 : tk2_6 = 61 := q_eq (a := tk2_6) (b := 61) rfl rfl (by omega) (by omega) c_134
            have hop := sg_4 (show knd fby tn ga2_15 = 60 ∨ knd fby tn ga2_15 = 62 ∨ knd fby tn ga2_15 = 61 from by have h9 := a_26.2.2.1; omega)
            have hgt_136 : ga2_15 < fin fby tn ga2_15 ∧ fin fby tn ga2_15 ≤ tn := ⟨fin_gt (by have h9 := a_26.2.2.1; omega), fin_le (by omega)⟩
            refine lv_aload_n hx hb dX10_takeOne_56 rfl (lv_at hl 1 rfl) ?_
            refine va_get (D := D) (ci := 10) (v := .ref t0) (C := RX10) (T := TX10) (N := 10) hx hb hg i_X10 hown hK hP 0 rfl rfl 0 (by decide) (hg _ m_255) (fun _ h9 => h9) rfl dX10_takeOne_57 ?_
            refine x_callVv (q := (RX9, TX9, 8)) (ci := 9) (q0 := 0) (wr := [wO d0 10 [.ref t0, .ref d1, .ref h0, .ref f0, .int (nI ow2_11), .int wt, .int dt, .int vv, .int fq, .int pq], wO h0 4 [.ref h1, .ref h2, .ref h3, .ref h4, .ref h5, .ref h6, .ref h7, .ref h8, .ref h9, .ref h10, .ref h11, hv0, hv1, hv2, hv3, .int (nI un2_12)], wO f0 3 [.ref f1, .ref f2, .int (nI nf2_13), y3], wI (cy 1) f1 280 (fco2_14)]) (rest := []) ⟨hx, hb, hml, hown, hg, hl.1⟩ k_X10_140 (s_next l D cy adK adV t0 t1 t2 tn ta2_4 ts2_5 tk2_6 tm2_7 tr2_8 fby fky (fin fby tn ga2_15) (by omega) (by omega) (a_26.2.1) (hky)) EV_blind hK hP hD hS hA [1, 2, 3] [0, 4, 5, 6] ⟨rfl, rfl, by decide +kernel, by decide +kernel, by decide +kernel⟩ rfl rfl (fun U hU hW => EV_pass hE hS (va_free hD hS hA [1, 2, 3] rfl) hU hW) dX10_takeOne_60 rfl rfl (Nat.le_of_ble_eq_true rfl) ⟨Nat.le_of_ble_eq_true rfl, Nat.le_of_ble_eq_true rfl⟩ ⟨Nat.le_of_ble_eq_true rfl, Nat.le_of_ble_eq_true rfl⟩ (fun zu137 H locs hw137 hP9 hD9 hS9 => ?_)
            clear hP hD hS
            obtain ⟨ta2_138, ts2_139, tk2_140, tm2_141, tr2_142⟩ := zu137
            refine reW [wO d0 10 [.ref t0, .ref d1, .ref h0, .ref f0, .int (nI ow2_11), .int wt, .int dt, .int vv, .int fq, .int pq], wO h0 4 [.ref h1, .ref h2, .ref h3, .ref h4, .ref h5, .ref h6, .ref h7, .ref h8, .ref h9, .ref h10, .ref h11, hv0, hv1, hv2, hv3, .int (nI un2_12)], wO f0 3 [.ref f1, .ref f2, .int (nI nf2_13), y3], wI (cy 1) f1 280 (fco2_14), wO t0 9 [.ref t1, .ref t2, .int (nI tn), .int (nI ta2_138), .int (nI ts2_139), .int (nI tk2_140), .long tm2_141, .int tr2_142], wI (cy 0) t1 1600 (fby), (t2, .inl (cy 2, 24, .inr (.inl (fky))))] hP9 hD9 hS9 (fun hP hD hS => ?_)
            clear hP9 hD9 hS9
            refine W.widen (k := 0) (n := 0) (Nat.le_of_ble_eq_true rfl) (Nat.le_of_ble_eq_true rfl) ?_
            replace hw137 : (ta2_138 ≤ tn) ∧ (tk2_140 ≤ 123) ∧ (tkC fby tn (fin fby tn ga2_15) ta2_138 ts2_139 tk2_140 tm2_141 tr2_142) := hw137
            obtain ⟨f_143, f_144, f_145⟩ := hw137
            refine lv_aload_n hx hb dX10_takeOne_63 rfl (lv_at hl 1 rfl) ?_
            refine lv_iload_n hx hb dX10_takeOne_64 rfl (lv_at hl 2 rfl) ?_
            refine x_callVi (q := (RX10, TX10, 10)) (ci := 10) (q0 := 0) (wr := []) (rest := []) ⟨hx, hb, hml, hown, hg, hl.1⟩ k_X10_192 (s_takeSum6 l D cy adK adV d0 d1 wt dt vv fq pq t0 t1 t2 tn ta2_138 ts2_139 tk2_140 tm2_141 tr2_142 fby fky h0 h1 h2 h3 h4 h5 h6 h7 h8 h9 h10 h11 hv0 hv1 hv2 hv3 ow2_11 un2_12 f0 f1 f2 nf2_13 y3 fco2_14 (fin fby tn ga2_15) (by omega) (by omega) (by omega) (f_145) (hky) (by omega) (f_19) (by omega) (by omega) (by omega)) EV_blind hK hP hD hS hA [0, 4, 5, 6, 1, 2, 3] [] ⟨rfl, rfl, by decide +kernel, by decide +kernel, by decide +kernel⟩ rfl rfl (fun U hU hW => EV_pass hE hS (va_free hD hS hA [0, 4, 5, 6, 1, 2, 3] rfl) hU hW) dX10_takeOne_65 rfl rfl (Nat.le_of_ble_eq_true rfl) ⟨Nat.le_of_ble_eq_true rfl, Nat.le_of_ble_eq_true rfl⟩ ⟨Nat.le_of_ble_eq_true rfl, Nat.le_of_ble_eq_true rfl⟩ (fun zr146 zu146 H locs hw146 hP9 hD9 hS9 => ?_)
            clear hP hD hS
            obtain ⟨ta2_147, ts2_148, tk2_149, tm2_150, tr2_151, fq2_152, pq2_153, ow2_154, un2_155, nf2_156, fco2_157, ga2_158⟩ := zu146
            refine reW [wO d0 10 [.ref t0, .ref d1, .ref h0, .ref f0, .int (nI ow2_154), .int wt, .int dt, .int vv, .int fq2_152, .int pq2_153], wO t0 9 [.ref t1, .ref t2, .int (nI tn), .int (nI ta2_147), .int (nI ts2_148), .int (nI tk2_149), .long tm2_150, .int tr2_151], wI (cy 0) t1 1600 (fby), (t2, .inl (cy 2, 24, .inr (.inl (fky)))), wO h0 4 [.ref h1, .ref h2, .ref h3, .ref h4, .ref h5, .ref h6, .ref h7, .ref h8, .ref h9, .ref h10, .ref h11, hv0, hv1, hv2, hv3, .int (nI un2_155)], wO f0 3 [.ref f1, .ref f2, .int (nI nf2_156), y3], wI (cy 1) f1 280 (fco2_157)] hP9 hD9 hS9 (fun hP hD hS => ?_)
            clear hP9 hD9 hS9
            refine W.widen (k := 0) (n := 0) (Nat.le_of_ble_eq_true rfl) (Nat.le_of_ble_eq_true rfl) ?_
            replace hw146 : (ta2_147 ≤ tn) ∧ (tk2_149 ≤ 123) ∧ (nf2_156 ≤ 280) ∧ (cOK fco2_157 nf2_156) ∧ (ow2_154 ≤ 30) ∧ (un2_155 ≤ 60) ∧ ((zr146 = 1 ∧ (okS (knd fby tn) (fin fby tn) 5 6 (fin fby tn ga2_15) ow2_11 un2_12 ga2_158 ow2_154 un2_155) ∧ (fq = fq2_152) ∧ (pq = pq2_153) ∧ (tkC fby tn ga2_158 ta2_147 ts2_148 tk2_149 tm2_150 tr2_151) ∧ ((fin fby tn ga2_15) < ga2_158 ∧ ga2_158 ≤ tn)) ∨ (zr146 = 0 ∧ (noS (knd fby tn) (fin fby tn) 5 6 (fin fby tn ga2_15) ow2_11 un2_12 ga2_158) ∧ (flt fby tn ga2_158 2 fq2_152 pq2_153))) := hw146
            obtain ⟨f_159, f_160, f_161, f_162, f_163, f_164, f_165⟩ := hw146
            rcases f_165 with ⟨hz_171, a_166, a_167, a_168, a_169, a_170⟩ | ⟨hz_174, a_172, a_173⟩
            · subst hz_171
              subst a_167
              subst a_168
              have hg_a_170 := a_170
              refine lv_istore_n (lv' := [(3, .int 1), (2, .int (nI tk2_6)), (0, .ref d0), (1, .int 6)]) hx hb dX10_takeOne_68 rfl hl (by decide) rfl (fun ls hl => ?_)
              refine lv_aload_n hx hb dX10_takeOne_69 rfl (lv_at hl 2 rfl) ?_
              refine va_get (D := D) (ci := 10) (v := .ref f0) (C := RX10) (T := TX10) (N := 10) hx hb hg i_X10 hown hK hP 0 rfl rfl 3 (by decide) (hg _ m_258) (fun _ h9 => h9) rfl dX10_takeOne_70 ?_
              refine lv_iload_n hx hb dX10_takeOne_73 rfl (lv_at hl 1 rfl) ?_
              refine x_callVv (q := (RX3, TX3, 4)) (ci := 3) (q0 := 0) (wr := [wO d0 10 [.ref t0, .ref d1, .ref h0, .ref f0, .int (nI ow2_154), .int wt, .int dt, .int vv, .int fq, .int pq], wO t0 9 [.ref t1, .ref t2, .int (nI tn), .int (nI ta2_147), .int (nI ts2_148), .int (nI tk2_149), .long tm2_150, .int tr2_151], wI (cy 0) t1 1600 (fby), (t2, .inl (cy 2, 24, .inr (.inl (fky)))), wO h0 4 [.ref h1, .ref h2, .ref h3, .ref h4, .ref h5, .ref h6, .ref h7, .ref h8, .ref h9, .ref h10, .ref h11, hv0, hv1, hv2, hv3, .int (nI un2_155)]]) (rest := []) ⟨hx, hb, hml, hown, hg, hl.1⟩ k_X10_182 (s_addDeed l D cy f0 f1 f2 nf2_156 y3 fco2_157 tk2_6 (by omega) (f_162) (by omega)) E0_blind hK hP hD hS hA [5, 6] [0, 1, 2, 3, 4] ⟨rfl, rfl, by decide +kernel, by decide +kernel, by decide +kernel⟩ rfl rfl (fun _ _ _ => trivial) dX10_takeOne_74 rfl rfl (Nat.le_of_ble_eq_true rfl) ⟨Nat.le_of_ble_eq_true rfl, Nat.le_of_ble_eq_true rfl⟩ ⟨Nat.le_of_ble_eq_true rfl, Nat.le_of_ble_eq_true rfl⟩ (fun zu175 H locs hw175 hP9 hD9 hS9 => ?_)
              clear hP hD hS
              obtain ⟨n2_176, fc2_177⟩ := zu175
              refine reW [wO d0 10 [.ref t0, .ref d1, .ref h0, .ref f0, .int (nI ow2_154), .int wt, .int dt, .int vv, .int fq, .int pq], wO t0 9 [.ref t1, .ref t2, .int (nI tn), .int (nI ta2_147), .int (nI ts2_148), .int (nI tk2_149), .long tm2_150, .int tr2_151], wI (cy 0) t1 1600 (fby), (t2, .inl (cy 2, 24, .inr (.inl (fky)))), wO h0 4 [.ref h1, .ref h2, .ref h3, .ref h4, .ref h5, .ref h6, .ref h7, .ref h8, .ref h9, .ref h10, .ref h11, hv0, hv1, hv2, hv3, .int (nI un2_155)], wO f0 3 [.ref f1, .ref f2, .int (nI n2_176), y3], wI (cy 1) f1 280 (fc2_177)] hP9 hD9 hS9 (fun hP hD hS => ?_)
              clear hP9 hD9 hS9
              refine W.widen (k := 0) (n := 0) (Nat.le_of_ble_eq_true rfl) (Nat.le_of_ble_eq_true rfl) ?_
              replace hw175 : (n2_176 ≤ 280) ∧ (cOK fc2_177 n2_176) := hw175
              obtain ⟨f_178, f_179⟩ := hw175
              refine lv_iload_n hx hb dX10_takeOne_77 rfl (lv_at hl 0 rfl) ?_
              exact x_zret hQ hx hb hr hlocks hK hP hD hS rfl dX10_takeOne_78 (ta2_147, ts2_148, tk2_149, tm2_150, tr2_151, fq, pq, ow2_154, un2_155, n2_176, fc2_177, ga2_158) (⟨(show ta2_147 ≤ tn from by omega), (show tk2_149 ≤ 123 from by omega), (show n2_176 ≤ 280 from by omega), f_179, (show ow2_154 ≤ 30 from by omega), (show un2_155 ≤ 60 from by omega), (show ((1 : Int32) = 1 ∧ (okS (knd fby tn) (fin fby tn) 4 6 ga ow un ga2_158 ow2_154 un2_155) ∧ (fq = fq) ∧ (pq = pq) ∧ (tkC fby tn ga2_158 ta2_147 ts2_148 tk2_149 tm2_150 tr2_151) ∧ (ga < ga2_158 ∧ ga2_158 ≤ tn)) ∨ ((1 : Int32) = 0 ∧ (noS (knd fby tn) (fin fby tn) 4 6 ga ow un ga2_158) ∧ (flt fby tn ga2_158 2 fq pq)) from Or.inl ⟨rfl, (one_rel hn16 a_23 hop.1 hop.2 a_166), (rfl), (rfl), (a_169), (⟨by omega, by omega⟩)⟩)⟩) [0, 1, 2, 3, 4, 5, 6] (by decide +kernel) rfl (Nat.le_of_ble_eq_true rfl) (Nat.le_of_ble_eq_true rfl)
            · subst hz_174
              refine lv_istore_n (lv' := [(3, .int 0), (2, .int (nI tk2_6)), (0, .ref d0), (1, .int 6)]) hx hb dX10_takeOne_68 rfl hl (by decide) rfl (fun ls hl => ?_)
              refine lv_aload_n hx hb dX10_takeOne_69 rfl (lv_at hl 2 rfl) ?_
              refine va_get (D := D) (ci := 10) (v := .ref f0) (C := RX10) (T := TX10) (N := 10) hx hb hg i_X10 hown hK hP 0 rfl rfl 3 (by decide) (hg _ m_258) (fun _ h9 => h9) rfl dX10_takeOne_70 ?_
              refine lv_iload_n hx hb dX10_takeOne_73 rfl (lv_at hl 1 rfl) ?_
              refine x_callVv (q := (RX3, TX3, 4)) (ci := 3) (q0 := 0) (wr := [wO d0 10 [.ref t0, .ref d1, .ref h0, .ref f0, .int (nI ow2_154), .int wt, .int dt, .int vv, .int fq2_152, .int pq2_153], wO t0 9 [.ref t1, .ref t2, .int (nI tn), .int (nI ta2_147), .int (nI ts2_148), .int (nI tk2_149), .long tm2_150, .int tr2_151], wI (cy 0) t1 1600 (fby), (t2, .inl (cy 2, 24, .inr (.inl (fky)))), wO h0 4 [.ref h1, .ref h2, .ref h3, .ref h4, .ref h5, .ref h6, .ref h7, .ref h8, .ref h9, .ref h10, .ref h11, hv0, hv1, hv2, hv3, .int (nI un2_155)]]) (rest := []) ⟨hx, hb, hml, hown, hg, hl.1⟩ k_X10_182 (s_addDeed l D cy f0 f1 f2 nf2_156 y3 fco2_157 tk2_6 (by omega) (f_162) (by omega)) E0_blind hK hP hD hS hA [5, 6] [0, 1, 2, 3, 4] ⟨rfl, rfl, by decide +kernel, by decide +kernel, by decide +kernel⟩ rfl rfl (fun _ _ _ => trivial) dX10_takeOne_74 rfl rfl (Nat.le_of_ble_eq_true rfl) ⟨Nat.le_of_ble_eq_true rfl, Nat.le_of_ble_eq_true rfl⟩ ⟨Nat.le_of_ble_eq_true rfl, Nat.le_of_ble_eq_true rfl⟩ (fun zu180 H locs hw180 hP9 hD9 hS9 => ?_)
              clear hP hD hS
              obtain ⟨n2_181, fc2_182⟩ := zu180
              refine reW [wO d0 10 [.ref t0, .ref d1, .ref h0, .ref f0, .int (nI ow2_154), .int wt, .int dt, .int vv, .int fq2_152, .int pq2_153], wO t0 9 [.ref t1, .ref t2, .int (nI tn), .int (nI ta2_147), .int (nI ts2_148), .int (nI tk2_149), .long tm2_150, .int tr2_151], wI (cy 0) t1 1600 (fby), (t2, .inl (cy 2, 24, .inr (.inl (fky)))), wO h0 4 [.ref h1, .ref h2, .ref h3, .ref h4, .ref h5, .ref h6, .ref h7, .ref h8, .ref h9, .ref h10, .ref h11, hv0, hv1, hv2, hv3, .int (nI un2_155)], wO f0 3 [.ref f1, .ref f2, .int (nI n2_181), y3], wI (cy 1) f1 280 (fc2_182)] hP9 hD9 hS9 (fun hP hD hS => ?_)
              clear hP9 hD9 hS9
              refine W.widen (k := 0) (n := 0) (Nat.le_of_ble_eq_true rfl) (Nat.le_of_ble_eq_true rfl) ?_
              replace hw180 : (n2_181 ≤ 280) ∧ (cOK fc2_182 n2_181) := hw180
              obtain ⟨f_183, f_184⟩ := hw180
              refine lv_iload_n hx hb dX10_takeOne_77 rfl (lv_at hl 0 rfl) ?_
              exact x_zret hQ hx hb hr hlocks hK hP hD hS rfl dX10_takeOne_78 (ta2_147, ts2_148, tk2_149, tm2_150, tr2_151, fq2_152, pq2_153, ow2_154, un2_155, n2_181, fc2_182, ga2_158) (⟨(show ta2_147 ≤ tn from by omega), (show tk2_149 ≤ 123 from by omega), (show n2_181 ≤ 280 from by omega), f_184, (show ow2_154 ≤ 30 from by omega), (show un2_155 ≤ 60 from by omega), (show ((0 : Int32) = 1 ∧ (okS (knd fby tn) (fin fby tn) 4 6 ga ow un ga2_158 ow2_154 un2_155) ∧ (fq = fq2_152) ∧ (pq = pq2_153) ∧ (tkC fby tn ga2_158 ta2_147 ts2_148 tk2_149 tm2_150 tr2_151) ∧ (ga < ga2_158 ∧ ga2_158 ≤ tn)) ∨ ((0 : Int32) = 0 ∧ (noS (knd fby tn) (fin fby tn) 4 6 ga ow un ga2_158) ∧ (flt fby tn ga2_158 2 fq2_152 pq2_153)) from Or.inr (⟨rfl, (one_relN hn16 a_23 hop.1 hop.2 a_172), (a_173)⟩))⟩) [0, 1, 2, 3, 4, 5, 6] (by decide +kernel) rfl (Nat.le_of_ble_eq_true rfl) (Nat.le_of_ble_eq_true rfl)
          · have q_135 : ¬ tk2_6 = 61 := q_ne (a := tk2_6) (b := 61) rfl rfl (by omega) (by omega) c_134
            refine lv_iconst (v := 1) hx hb dX10_takeOne_54 (by decide) ?_
            exact x_zret hQ hx hb hr hlocks hK hP hD hS rfl dX10_takeOne_55 (ta2_4, ts2_5, tk2_6, tm2_7, tr2_8, fq, pq, ow2_11, un2_12, nf2_13, fco2_14, ga2_15) (⟨(show ta2_4 ≤ tn from by omega), (show tk2_6 ≤ 123 from by omega), (show nf2_13 ≤ 280 from by omega), f_19, (show ow2_11 ≤ 30 from by omega), (show un2_12 ≤ 60 from by omega), (show ((1 : Int32) = 1 ∧ (okS (knd fby tn) (fin fby tn) 4 6 ga ow un ga2_15 ow2_11 un2_12) ∧ (fq = fq) ∧ (pq = pq) ∧ (tkC fby tn ga2_15 ta2_4 ts2_5 tk2_6 tm2_7 tr2_8) ∧ (ga < ga2_15 ∧ ga2_15 ≤ tn)) ∨ ((1 : Int32) = 0 ∧ (noS (knd fby tn) (fin fby tn) 4 6 ga ow un ga2_15) ∧ (flt fby tn ga2_15 2 fq pq)) from Or.inl ⟨rfl, (one_sum hn16 a_23 (sg_ne4 (by have h9 := a_26.2.2.1; omega))), (rfl), (rfl), (a_26), (⟨by omega, by omega⟩)⟩)⟩) [0, 1, 2, 3, 4, 5, 6] (by decide +kernel) rfl (Nat.le_of_ble_eq_true rfl) (Nat.le_of_ble_eq_true rfl)
    · subst hz_31
      refine lv_if_ne (tgt := 28) hx hb dX10_takeOne_23 (by decide) (fun h => absurd (by decide) h) (fun _ => ?_)
      refine lv_iconst (v := 0) hx hb dX10_takeOne_26 (by decide) ?_
      exact x_zret hQ hx hb hr hlocks hK hP hD hS rfl dX10_takeOne_27 (ta2_4, ts2_5, tk2_6, tm2_7, tr2_8, fq2_9, pq2_10, ow2_11, un2_12, nf2_13, fco2_14, ga2_15) (⟨(show ta2_4 ≤ tn from by omega), (show tk2_6 ≤ 123 from by omega), (show nf2_13 ≤ 280 from by omega), f_19, (show ow2_11 ≤ 30 from by omega), (show un2_12 ≤ 60 from by omega), (show ((0 : Int32) = 1 ∧ (okS (knd fby tn) (fin fby tn) 4 6 ga ow un ga2_15 ow2_11 un2_12) ∧ (fq = fq2_9) ∧ (pq = pq2_10) ∧ (tkC fby tn ga2_15 ta2_4 ts2_5 tk2_6 tm2_7 tr2_8) ∧ (ga < ga2_15 ∧ ga2_15 ≤ tn)) ∨ ((0 : Int32) = 0 ∧ (noS (knd fby tn) (fin fby tn) 4 6 ga ow un ga2_15) ∧ (flt fby tn ga2_15 2 fq2_9 pq2_10)) from Or.inr (⟨rfl, (one_sumN hn16 a_29), (a_30)⟩))⟩) [0, 1, 2, 3, 4, 5, 6] (by decide +kernel) rfl (Nat.le_of_ble_eq_true rfl) (Nat.le_of_ble_eq_true rfl)
  · have q_2 : tk = 116 := q_eq (a := tk) (b := 116) rfl rfl (by omega) (by omega) c_1
    refine lv_aload_n hx hb dX10_takeOne_12 rfl (lv_at hl 0 rfl) ?_
    refine lv_iload_n hx hb dX10_takeOne_13 rfl (lv_at hl 1 rfl) ?_
    refine x_callVi (q := (RX10, TX10, 10)) (ci := 10) (q0 := 0) (wr := []) (rest := []) ⟨hx, hb, hml, hown, hg, hl.1⟩ k_X10_189 (s_takeNot6 l D cy adK adV d0 d1 wt dt vv fq pq t0 t1 t2 tn ta ts tk tm tr fby fky h0 h1 h2 h3 h4 h5 h6 h7 h8 h9 h10 h11 hv0 hv1 hv2 hv3 ow un f0 f1 f2 nf y3 fco ga (by omega) (by omega) (by omega) (hti) (hky) (by omega) (hfc) (by omega) (by omega) (by omega) (by omega)) EV_blind hK hP hD hS hA [0, 1, 2, 3, 4, 5, 6] [] ⟨rfl, rfl, by decide +kernel, by decide +kernel, by decide +kernel⟩ rfl rfl (fun U hU hW => EV_pass hE hS (va_free hD hS hA [0, 1, 2, 3, 4, 5, 6] rfl) hU hW) dX10_takeOne_14 rfl rfl (Nat.le_of_ble_eq_true rfl) ⟨Nat.le_of_ble_eq_true rfl, Nat.le_of_ble_eq_true rfl⟩ ⟨Nat.le_of_ble_eq_true rfl, Nat.le_of_ble_eq_true rfl⟩ (fun zr185 zu185 H locs hw185 hP9 hD9 hS9 => ?_)
    clear hP hD hS
    obtain ⟨ta2_186, ts2_187, tk2_188, tm2_189, tr2_190, fq2_191, pq2_192, ow2_193, un2_194, nf2_195, fco2_196, ga2_197⟩ := zu185
    refine reW [wO d0 10 [.ref t0, .ref d1, .ref h0, .ref f0, .int (nI ow2_193), .int wt, .int dt, .int vv, .int fq2_191, .int pq2_192], wO t0 9 [.ref t1, .ref t2, .int (nI tn), .int (nI ta2_186), .int (nI ts2_187), .int (nI tk2_188), .long tm2_189, .int tr2_190], wI (cy 0) t1 1600 (fby), (t2, .inl (cy 2, 24, .inr (.inl (fky)))), wO h0 4 [.ref h1, .ref h2, .ref h3, .ref h4, .ref h5, .ref h6, .ref h7, .ref h8, .ref h9, .ref h10, .ref h11, hv0, hv1, hv2, hv3, .int (nI un2_194)], wO f0 3 [.ref f1, .ref f2, .int (nI nf2_195), y3], wI (cy 1) f1 280 (fco2_196)] hP9 hD9 hS9 (fun hP hD hS => ?_)
    clear hP9 hD9 hS9
    refine W.widen (k := 0) (n := 0) (Nat.le_of_ble_eq_true rfl) (Nat.le_of_ble_eq_true rfl) ?_
    replace hw185 : (ta2_186 ≤ tn) ∧ (tk2_188 ≤ 123) ∧ (nf2_195 ≤ 280) ∧ (cOK fco2_196 nf2_195) ∧ (ow2_193 ≤ 30) ∧ (un2_194 ≤ 60) ∧ ((zr185 = 1 ∧ (okS (knd fby tn) (fin fby tn) 4 6 ga ow un ga2_197 ow2_193 un2_194) ∧ (fq = fq2_191) ∧ (pq = pq2_192) ∧ (tkC fby tn ga2_197 ta2_186 ts2_187 tk2_188 tm2_189 tr2_190) ∧ (ga < ga2_197 ∧ ga2_197 ≤ tn)) ∨ (zr185 = 0 ∧ (noS (knd fby tn) (fin fby tn) 4 6 ga ow un ga2_197) ∧ (flt fby tn ga2_197 2 fq2_191 pq2_192))) := hw185
    obtain ⟨f_198, f_199, f_200, f_201, f_202, f_203, f_204⟩ := hw185
    rcases f_204 with ⟨hz_210, a_205, a_206, a_207, a_208, a_209⟩ | ⟨hz_213, a_211, a_212⟩
    · subst hz_210
      subst a_206
      subst a_207
      have hg_a_209 := a_209
      exact x_zret hQ hx hb hr hlocks hK hP hD hS rfl dX10_takeOne_17 (ta2_186, ts2_187, tk2_188, tm2_189, tr2_190, fq, pq, ow2_193, un2_194, nf2_195, fco2_196, ga2_197) (⟨(show ta2_186 ≤ tn from by omega), (show tk2_188 ≤ 123 from by omega), (show nf2_195 ≤ 280 from by omega), f_201, (show ow2_193 ≤ 30 from by omega), (show un2_194 ≤ 60 from by omega), (show ((1 : Int32) = 1 ∧ (okS (knd fby tn) (fin fby tn) 4 6 ga ow un ga2_197 ow2_193 un2_194) ∧ (fq = fq) ∧ (pq = pq) ∧ (tkC fby tn ga2_197 ta2_186 ts2_187 tk2_188 tm2_189 tr2_190) ∧ (ga < ga2_197 ∧ ga2_197 ≤ tn)) ∨ ((1 : Int32) = 0 ∧ (noS (knd fby tn) (fin fby tn) 4 6 ga ow un ga2_197) ∧ (flt fby tn ga2_197 2 fq pq)) from Or.inl ⟨rfl, (a_205), (rfl), (rfl), (a_208), (⟨by omega, by omega⟩)⟩)⟩) [0, 1, 2, 3, 4, 5, 6] (by decide +kernel) rfl (Nat.le_of_ble_eq_true rfl) (Nat.le_of_ble_eq_true rfl)
    · subst hz_213
      exact x_zret hQ hx hb hr hlocks hK hP hD hS rfl dX10_takeOne_17 (ta2_186, ts2_187, tk2_188, tm2_189, tr2_190, fq2_191, pq2_192, ow2_193, un2_194, nf2_195, fco2_196, ga2_197) (⟨(show ta2_186 ≤ tn from by omega), (show tk2_188 ≤ 123 from by omega), (show nf2_195 ≤ 280 from by omega), f_201, (show ow2_193 ≤ 30 from by omega), (show un2_194 ≤ 60 from by omega), (show ((0 : Int32) = 1 ∧ (okS (knd fby tn) (fin fby tn) 4 6 ga ow un ga2_197 ow2_193 un2_194) ∧ (fq = fq2_191) ∧ (pq = pq2_192) ∧ (tkC fby tn ga2_197 ta2_186 ts2_187 tk2_188 tm2_189 tr2_190) ∧ (ga < ga2_197 ∧ ga2_197 ≤ tn)) ∨ ((0 : Int32) = 0 ∧ (noS (knd fby tn) (fin fby tn) 4 6 ga ow un ga2_197) ∧ (flt fby tn ga2_197 2 fq2_191 pq2_192)) from Or.inr (⟨rfl, (a_211), (a_212)⟩))⟩) [0, 1, 2, 3, 4, 5, 6] (by decide +kernel) rfl (Nat.le_of_ble_eq_true rfl) (Nat.le_of_ble_eq_true rfl)
set_option maxHeartbeats 1000000 in
set_option maxRecDepth 100000 in
theorem s_takeBoth6 (l : Launch) (D : va_G) (cy : Nat → ClassId) (adK : Nat → Nat) (adV : Nat → Nat) (d0 : Nat) (d1 : Nat) (wt : Int32) (dt : Int32) (vv : Int32) (fq : Int32) (pq : Int32) (t0 : Nat) (t1 : Nat) (t2 : Nat) (tn : Nat) (ta : Nat) (ts : Nat) (tk : Nat) (tm : Int64) (tr : Int32) (fby : Nat → Int32) (fky : Nat → Int64) (h0 : Nat) (h1 : Nat) (h2 : Nat) (h3 : Nat) (h4 : Nat) (h5 : Nat) (h6 : Nat) (h7 : Nat) (h8 : Nat) (h9 : Nat) (h10 : Nat) (h11 : Nat) (hv0 : Value) (hv1 : Value) (hv2 : Value) (hv3 : Value) (ow : Nat) (un : Nat) (f0 : Nat) (f1 : Nat) (f2 : Nat) (nf : Nat) (y3 : Value) (fco : Nat → Int32) (ga : Nat) (htn : tn ≤ 1600) (hta : ta ≤ tn) (htk : tk ≤ 123) (hti : tkC fby tn ga ta ts tk tm tr) (hky : kyOK fky) (hnf : nf ≤ 280) (hfc : cOK fco nf) (how : ow ≤ 30) (hun : un ≤ 60) (hga : ga ≤ tn) : XMi l D (tyL cy) (EV adK adV) yX10_takeBoth cX10_takeBoth 4 (some .boolean) (rmk 18 0 0) [.ref d0, .int 6] [wO d0 10 [.ref t0, .ref d1, .ref h0, .ref f0, .int (nI ow), .int wt, .int dt, .int vv, .int fq, .int pq], wO t0 9 [.ref t1, .ref t2, .int (nI tn), .int (nI ta), .int (nI ts), .int (nI tk), .long tm, .int tr], wI (cy 0) t1 1600 (fby), (t2, .inl (cy 2, 24, .inr (.inl (fky)))), wO h0 4 [.ref h1, .ref h2, .ref h3, .ref h4, .ref h5, .ref h6, .ref h7, .ref h8, .ref h9, .ref h10, .ref h11, hv0, hv1, hv2, hv3, .int (nI un)], wO f0 3 [.ref f1, .ref f2, .int (nI nf), y3], wI (cy 1) f1 280 (fco)] (fun (r : Int32) (u : Nat × Nat × Nat × Int64 × Int32 × Int32 × Int32 × Nat × Nat × Nat × (Nat → Int32) × Nat) => (u.1 ≤ tn) ∧ (u.2.2.1 ≤ 123) ∧ (u.2.2.2.2.2.2.2.2.2.1 ≤ 280) ∧ (cOK u.2.2.2.2.2.2.2.2.2.2.1 u.2.2.2.2.2.2.2.2.2.1) ∧ (u.2.2.2.2.2.2.2.1 ≤ 30) ∧ (u.2.2.2.2.2.2.2.2.1 ≤ 60) ∧ ((r = 1 ∧ (okS (knd fby tn) (fin fby tn) 2 6 ga ow un u.2.2.2.2.2.2.2.2.2.2.2 u.2.2.2.2.2.2.2.1 u.2.2.2.2.2.2.2.2.1) ∧ (fq = u.2.2.2.2.2.1) ∧ (pq = u.2.2.2.2.2.2.1) ∧ (tkC fby tn u.2.2.2.2.2.2.2.2.2.2.2 u.1 u.2.1 u.2.2.1 u.2.2.2.1 u.2.2.2.2.1) ∧ (ga < u.2.2.2.2.2.2.2.2.2.2.2 ∧ u.2.2.2.2.2.2.2.2.2.2.2 ≤ tn)) ∨ (r = 0 ∧ (noS (knd fby tn) (fin fby tn) 2 6 ga ow un u.2.2.2.2.2.2.2.2.2.2.2) ∧ (flt fby tn u.2.2.2.2.2.2.2.2.2.2.2 2 u.2.2.2.2.2.1 u.2.2.2.2.2.2.1)))) (fun (u : Nat × Nat × Nat × Int64 × Int32 × Int32 × Int32 × Nat × Nat × Nat × (Nat → Int32) × Nat) => [wO d0 10 [.ref t0, .ref d1, .ref h0, .ref f0, .int (nI u.2.2.2.2.2.2.2.1), .int wt, .int dt, .int vv, .int u.2.2.2.2.2.1, .int u.2.2.2.2.2.2.1], wO t0 9 [.ref t1, .ref t2, .int (nI tn), .int (nI u.1), .int (nI u.2.1), .int (nI u.2.2.1), .long u.2.2.2.1, .int u.2.2.2.2.1], wI (cy 0) t1 1600 (fby), (t2, .inl (cy 2, 24, .inr (.inl (fky)))), wO h0 4 [.ref h1, .ref h2, .ref h3, .ref h4, .ref h5, .ref h6, .ref h7, .ref h8, .ref h9, .ref h10, .ref h11, hv0, hv1, hv2, hv3, .int (nI u.2.2.2.2.2.2.2.2.1)], wO f0 3 [.ref f1, .ref f2, .int (nI u.2.2.2.2.2.2.2.2.2.1), y3], wI (cy 1) f1 280 (u.2.2.2.2.2.2.2.2.2.2.1)]) := by
  refine XMi.start (by decide) (Nat.le_of_ble_eq_true rfl) ?_
  intro p e s m below meth c args A ls Q hat hQ
  obtain ⟨hx, hb, hr, hml, hown, hg, hlocks, hin, hK, hA, hP, hD, hS, hE, hl⟩ := hat
  have hown : s.vm.findClass RX10 = some m.cls := hown
  have hl : lv_has ls 4 [(0, .ref d0), (1, .int 6)] := hl
  refine lv_aload_n hx hb dX10_takeBoth_0 rfl (lv_at hl 0 rfl) ?_
  refine lv_iload_n hx hb dX10_takeBoth_1 rfl (lv_at hl 1 rfl) ?_
  refine x_callVi (q := (RX10, TX10, 10)) (ci := 10) (q0 := 0) (wr := []) (rest := []) ⟨hx, hb, hml, hown, hg, hl.1⟩ k_X10_186 (s_takeOne6 l D cy adK adV d0 d1 wt dt vv fq pq t0 t1 t2 tn ta ts tk tm tr fby fky h0 h1 h2 h3 h4 h5 h6 h7 h8 h9 h10 h11 hv0 hv1 hv2 hv3 ow un f0 f1 f2 nf y3 fco ga (by omega) (by omega) (by omega) (hti) (hky) (by omega) (hfc) (by omega) (by omega) (by omega)) EV_blind hK hP hD hS hA [0, 1, 2, 3, 4, 5, 6] [] ⟨rfl, rfl, by decide +kernel, by decide +kernel, by decide +kernel⟩ rfl rfl (fun U hU hW => EV_pass hE hS (va_free hD hS hA [0, 1, 2, 3, 4, 5, 6] rfl) hU hW) dX10_takeBoth_2 rfl rfl (Nat.le_of_ble_eq_true rfl) ⟨Nat.le_of_ble_eq_true rfl, Nat.le_of_ble_eq_true rfl⟩ ⟨Nat.le_of_ble_eq_true rfl, Nat.le_of_ble_eq_true rfl⟩ (fun zr1 zu1 H locs hw1 hP9 hD9 hS9 => ?_)
  clear hP hD hS
  obtain ⟨ta2_2, ts2_3, tk2_4, tm2_5, tr2_6, fq2_7, pq2_8, ow2_9, un2_10, nf2_11, fco2_12, ga2_13⟩ := zu1
  refine reW [wO d0 10 [.ref t0, .ref d1, .ref h0, .ref f0, .int (nI ow2_9), .int wt, .int dt, .int vv, .int fq2_7, .int pq2_8], wO t0 9 [.ref t1, .ref t2, .int (nI tn), .int (nI ta2_2), .int (nI ts2_3), .int (nI tk2_4), .long tm2_5, .int tr2_6], wI (cy 0) t1 1600 (fby), (t2, .inl (cy 2, 24, .inr (.inl (fky)))), wO h0 4 [.ref h1, .ref h2, .ref h3, .ref h4, .ref h5, .ref h6, .ref h7, .ref h8, .ref h9, .ref h10, .ref h11, hv0, hv1, hv2, hv3, .int (nI un2_10)], wO f0 3 [.ref f1, .ref f2, .int (nI nf2_11), y3], wI (cy 1) f1 280 (fco2_12)] hP9 hD9 hS9 (fun hP hD hS => ?_)
  clear hP9 hD9 hS9
  refine W.widen (k := 0) (n := 0) (Nat.le_of_ble_eq_true rfl) (Nat.le_of_ble_eq_true rfl) ?_
  replace hw1 : (ta2_2 ≤ tn) ∧ (tk2_4 ≤ 123) ∧ (nf2_11 ≤ 280) ∧ (cOK fco2_12 nf2_11) ∧ (ow2_9 ≤ 30) ∧ (un2_10 ≤ 60) ∧ ((zr1 = 1 ∧ (okS (knd fby tn) (fin fby tn) 4 6 ga ow un ga2_13 ow2_9 un2_10) ∧ (fq = fq2_7) ∧ (pq = pq2_8) ∧ (tkC fby tn ga2_13 ta2_2 ts2_3 tk2_4 tm2_5 tr2_6) ∧ (ga < ga2_13 ∧ ga2_13 ≤ tn)) ∨ (zr1 = 0 ∧ (noS (knd fby tn) (fin fby tn) 4 6 ga ow un ga2_13) ∧ (flt fby tn ga2_13 2 fq2_7 pq2_8))) := hw1
  obtain ⟨f_14, f_15, f_16, f_17, f_18, f_19, f_20⟩ := hw1
  refine lv_istore_n (lv' := [(2, .int zr1), (0, .ref d0), (1, .int 6)]) hx hb dX10_takeBoth_5 rfl hl (by decide) rfl (fun ls hl => ?_)
  refine lv_iconst (v := 0) hx hb dX10_takeBoth_6 (by decide) ?_
  refine lv_istore_n (lv' := [(3, .int 0), (2, .int zr1), (0, .ref d0), (1, .int 6)]) hx hb dX10_takeBoth_7 rfl hl (by decide) rfl (fun ls hl => ?_)
  have loop21 : ∀ (zn : Nat) (lb2_21 : Int32) (i21 : Nat) (aq21 : Nat) (sq21 : Nat) (kq21 : Nat) (fl5_21 : Int64) (rq21 : Int32) (oq21 : Nat) (fz21 : Int32) (pz21 : Int32) (uq21 : Nat) (nq21 : Nat) (gq21 : Nat) (fa13_21 : Nat → Int32), (cOK fa13_21 nq21) → (i21 ≤ 1600) → (aq21 ≤ tn) → (kq21 ≤ 123) → (nq21 ≤ 280) → (oq21 ≤ 30) → (uq21 ≤ 60) → ((lb2_21 = 1 ∧ inS (knd fby tn) (fin fby tn) 2 4 6 ga ow un gq21 oq21 uq21 ∧ tkC fby tn gq21 aq21 sq21 kq21 fl5_21 rq21 ∧ ga < gq21 ∧ gq21 ≤ tn ∧ i21 < gq21 ∧ fq = fz21 ∧ pq = pz21) ∨ (lb2_21 = 0 ∧ noS (knd fby tn) (fin fby tn) 2 6 ga ow un gq21 ∧ flt fby tn gq21 2 fz21 pz21)) → 1600 - i21 + 1 ≤ zn → ∀ (H : Heap) (locs : List Loc), va_P D vwCl [wO d0 10 [.ref t0, .ref d1, .ref h0, .ref f0, .int (nI oq21), .int wt, .int dt, .int vv, .int fz21, .int pz21], wO t0 9 [.ref t1, .ref t2, .int (nI tn), .int (nI aq21), .int (nI sq21), .int (nI kq21), .long fl5_21, .int rq21], wI (cy 0) t1 1600 (fby), (t2, .inl (cy 2, 24, .inr (.inl (fky)))), wO h0 4 [.ref h1, .ref h2, .ref h3, .ref h4, .ref h5, .ref h6, .ref h7, .ref h8, .ref h9, .ref h10, .ref h11, hv0, hv1, hv2, hv3, .int (nI uq21)], wO f0 3 [.ref f1, .ref f2, .int (nI nq21), y3], wI (cy 1) f1 280 (fa13_21)] H → va_D A [wO d0 10 [.ref t0, .ref d1, .ref h0, .ref f0, .int (nI oq21), .int wt, .int dt, .int vv, .int fz21, .int pz21], wO t0 9 [.ref t1, .ref t2, .int (nI tn), .int (nI aq21), .int (nI sq21), .int (nI kq21), .long fl5_21, .int rq21], wI (cy 0) t1 1600 (fby), (t2, .inl (cy 2, 24, .inr (.inl (fky)))), wO h0 4 [.ref h1, .ref h2, .ref h3, .ref h4, .ref h5, .ref h6, .ref h7, .ref h8, .ref h9, .ref h10, .ref h11, hv0, hv1, hv2, hv3, .int (nI uq21)], wO f0 3 [.ref f1, .ref f2, .int (nI nq21), y3], wI (cy 1) f1 280 (fa13_21)] → va_S A s.heap H locs → ∀ ls : Array Slot, lv_has ls 4 [(3, .int (nI i21)), (2, .int lb2_21), (0, .ref d0), (1, .int 6)] → W p l e (rmk 18 0 0) s m args below meth c H locs 0 0 Q (F0 m 8 ls []) := by
    try clear hP hD hS
    intro zn
    induction zn with
    | zero => intro lb2_21 i21 aq21 sq21 kq21 fl5_21 rq21 oq21 fz21 pz21 uq21 nq21 gq21 fa13_21 _ _ _ _ _ _ _ _ hz; exact absurd hz (by omega)
    | succ zn ih21 =>
      intro lb2_21 i21 aq21 sq21 kq21 fl5_21 rq21 oq21 fz21 pz21 uq21 nq21 gq21 fa13_21 ha14_21 hf0_21 hf1_21 hf2_21 hf3_21 hf4_21 hf5_21 hf6_21 hmu21 H locs hP hD hS ls hl
      rcases hf6_21 with ⟨hlb, hin9, htk9, hg1, hg2, hg3, hfz, hpz⟩ | ⟨hlb, hno9, hfl9⟩
      · subst hlb hfz hpz
        refine lv_iload_n hx hb dX10_takeBoth_8 rfl (lv_at hl 0 rfl) ?_
        refine lv_sipush (v := 1600) hx hb dX10_takeBoth_9 (by decide) ?_
        refine lv_icmp_ge (tgt := 59) hx hb dX10_takeBoth_12 (by decide) (fun c_22 => ?_) (fun c_22 => ?_)
        · have q_23 : 1600 ≤ i21 := q_le (a := 1600) (b := i21) rfl rfl (by omega) (by omega) c_22
          exact absurd q_23 (by omega)
        · have q_23 : i21 < 1600 := q_nle (a := 1600) (b := i21) rfl rfl (by omega) (by omega) c_22
          refine lv_iload_n hx hb dX10_takeBoth_15 rfl (lv_at hl 1 rfl) ?_
          refine lv_if_eq (tgt := 59) hx hb dX10_takeBoth_16 (by decide) (fun h => absurd h (by decide)) (fun _ => ?_)
          refine lv_aload_n hx hb dX10_takeBoth_19 rfl (lv_at hl 2 rfl) ?_
          refine va_get (D := D) (ci := 10) (v := .ref t0) (C := RX10) (T := TX10) (N := 10) hx hb hg i_X10 hown hK hP 0 rfl rfl 0 (by decide) (hg _ m_255) (fun _ h9 => h9) rfl dX10_takeBoth_20 ?_
          refine va_get (D := D) (ci := 9) (v := .int (nI kq21)) (C := RX9) (T := TX9) (N := 8) hx hb hg i_X9 hown hK hP 1 rfl rfl 5 (by decide) (hg _ m_222) (fun _ h9 => h9) rfl dX10_takeBoth_23 ?_
          refine lv_bipush (v := 115) hx hb dX10_takeBoth_26 (by decide) ?_
          refine lv_icmp_ne (tgt := 59) hx hb dX10_takeBoth_28 (by decide) (fun c_24 => ?_) (fun c_24 => ?_)
          · have q_25 : ¬ kq21 = 115 := q_ne (a := kq21) (b := 115) rfl rfl (by omega) (by omega) c_24
            refine lv_iload_n hx hb dX10_takeBoth_59 rfl (lv_at hl 1 rfl) ?_
            exact x_zret hQ hx hb hr hlocks hK hP hD hS rfl dX10_takeBoth_60 (aq21, sq21, kq21, fl5_21, rq21, fq, pq, oq21, uq21, nq21, fa13_21, gq21) (⟨(show aq21 ≤ tn from by omega), (show kq21 ≤ 123 from by omega), (show nq21 ≤ 280 from by omega), ha14_21, (show oq21 ≤ 30 from by omega), (show uq21 ≤ 60 from by omega), (show ((1 : Int32) = 1 ∧ (okS (knd fby tn) (fin fby tn) 2 6 ga ow un gq21 oq21 uq21) ∧ (fq = fq) ∧ (pq = pq) ∧ (tkC fby tn gq21 aq21 sq21 kq21 fl5_21 rq21) ∧ (ga < gq21 ∧ gq21 ≤ tn)) ∨ ((1 : Int32) = 0 ∧ (noS (knd fby tn) (fin fby tn) 2 6 ga ow un gq21) ∧ (flt fby tn gq21 2 fq pq)) from Or.inl ⟨rfl, (inS_end lvP24 hin9 (sg_ne2 (by have h9 := htk9.2.2.1; omega))), (rfl), (rfl), (htk9), (⟨by omega, by omega⟩)⟩)⟩) [0, 1, 2, 3, 4, 5, 6] (by decide +kernel) rfl (Nat.le_of_ble_eq_true rfl) (Nat.le_of_ble_eq_true rfl)
          · have q_25 : kq21 = 115 := q_eq (a := kq21) (b := 115) rfl rfl (by omega) (by omega) c_24
            have hop := sg_2 (show knd fby tn gq21 = 115 from by have h9 := htk9.2.2.1; omega)
            have hgt_26 : gq21 < fin fby tn gq21 ∧ fin fby tn gq21 ≤ tn := ⟨fin_gt (by have h9 := htk9.2.2.1; omega), fin_le (by omega)⟩
            refine lv_aload_n hx hb dX10_takeBoth_31 rfl (lv_at hl 2 rfl) ?_
            refine va_get (D := D) (ci := 10) (v := .ref t0) (C := RX10) (T := TX10) (N := 10) hx hb hg i_X10 hown hK hP 0 rfl rfl 0 (by decide) (hg _ m_255) (fun _ h9 => h9) rfl dX10_takeBoth_32 ?_
            refine x_callVv (q := (RX9, TX9, 8)) (ci := 9) (q0 := 0) (wr := [wO d0 10 [.ref t0, .ref d1, .ref h0, .ref f0, .int (nI oq21), .int wt, .int dt, .int vv, .int fq, .int pq], wO h0 4 [.ref h1, .ref h2, .ref h3, .ref h4, .ref h5, .ref h6, .ref h7, .ref h8, .ref h9, .ref h10, .ref h11, hv0, hv1, hv2, hv3, .int (nI uq21)], wO f0 3 [.ref f1, .ref f2, .int (nI nq21), y3], wI (cy 1) f1 280 (fa13_21)]) (rest := []) ⟨hx, hb, hml, hown, hg, hl.1⟩ k_X10_140 (s_next l D cy adK adV t0 t1 t2 tn aq21 sq21 kq21 fl5_21 rq21 fby fky (fin fby tn gq21) (by omega) (by omega) (htk9.2.1) (hky)) EV_blind hK hP hD hS hA [1, 2, 3] [0, 4, 5, 6] ⟨rfl, rfl, by decide +kernel, by decide +kernel, by decide +kernel⟩ rfl rfl (fun U hU hW => EV_pass hE hS (va_free hD hS hA [1, 2, 3] rfl) hU hW) dX10_takeBoth_35 rfl rfl (Nat.le_of_ble_eq_true rfl) ⟨Nat.le_of_ble_eq_true rfl, Nat.le_of_ble_eq_true rfl⟩ ⟨Nat.le_of_ble_eq_true rfl, Nat.le_of_ble_eq_true rfl⟩ (fun zu27 H locs hw27 hP9 hD9 hS9 => ?_)
            clear hP hD hS
            obtain ⟨ta2_28, ts2_29, tk2_30, tm2_31, tr2_32⟩ := zu27
            refine reW [wO d0 10 [.ref t0, .ref d1, .ref h0, .ref f0, .int (nI oq21), .int wt, .int dt, .int vv, .int fq, .int pq], wO h0 4 [.ref h1, .ref h2, .ref h3, .ref h4, .ref h5, .ref h6, .ref h7, .ref h8, .ref h9, .ref h10, .ref h11, hv0, hv1, hv2, hv3, .int (nI uq21)], wO f0 3 [.ref f1, .ref f2, .int (nI nq21), y3], wI (cy 1) f1 280 (fa13_21), wO t0 9 [.ref t1, .ref t2, .int (nI tn), .int (nI ta2_28), .int (nI ts2_29), .int (nI tk2_30), .long tm2_31, .int tr2_32], wI (cy 0) t1 1600 (fby), (t2, .inl (cy 2, 24, .inr (.inl (fky))))] hP9 hD9 hS9 (fun hP hD hS => ?_)
            clear hP9 hD9 hS9
            refine W.widen (k := 0) (n := 0) (Nat.le_of_ble_eq_true rfl) (Nat.le_of_ble_eq_true rfl) ?_
            replace hw27 : (ta2_28 ≤ tn) ∧ (tk2_30 ≤ 123) ∧ (tkC fby tn (fin fby tn gq21) ta2_28 ts2_29 tk2_30 tm2_31 tr2_32) := hw27
            obtain ⟨f_33, f_34, f_35⟩ := hw27
            refine lv_aload_n hx hb dX10_takeBoth_38 rfl (lv_at hl 2 rfl) ?_
            refine lv_iload_n hx hb dX10_takeBoth_39 rfl (lv_at hl 3 rfl) ?_
            refine x_callVi (q := (RX10, TX10, 10)) (ci := 10) (q0 := 0) (wr := []) (rest := []) ⟨hx, hb, hml, hown, hg, hl.1⟩ k_X10_186 (s_takeOne6 l D cy adK adV d0 d1 wt dt vv fq pq t0 t1 t2 tn ta2_28 ts2_29 tk2_30 tm2_31 tr2_32 fby fky h0 h1 h2 h3 h4 h5 h6 h7 h8 h9 h10 h11 hv0 hv1 hv2 hv3 oq21 uq21 f0 f1 f2 nq21 y3 fa13_21 (fin fby tn gq21) (by omega) (by omega) (by omega) (f_35) (hky) (by omega) (ha14_21) (by omega) (by omega) (by omega)) EV_blind hK hP hD hS hA [0, 4, 5, 6, 1, 2, 3] [] ⟨rfl, rfl, by decide +kernel, by decide +kernel, by decide +kernel⟩ rfl rfl (fun U hU hW => EV_pass hE hS (va_free hD hS hA [0, 4, 5, 6, 1, 2, 3] rfl) hU hW) dX10_takeBoth_40 rfl rfl (Nat.le_of_ble_eq_true rfl) ⟨Nat.le_of_ble_eq_true rfl, Nat.le_of_ble_eq_true rfl⟩ ⟨Nat.le_of_ble_eq_true rfl, Nat.le_of_ble_eq_true rfl⟩ (fun zr36 zu36 H locs hw36 hP9 hD9 hS9 => ?_)
            clear hP hD hS
            obtain ⟨ta2_37, ts2_38, tk2_39, tm2_40, tr2_41, fq2_42, pq2_43, ow2_44, un2_45, nf2_46, fco2_47, ga2_48⟩ := zu36
            refine reW [wO d0 10 [.ref t0, .ref d1, .ref h0, .ref f0, .int (nI ow2_44), .int wt, .int dt, .int vv, .int fq2_42, .int pq2_43], wO t0 9 [.ref t1, .ref t2, .int (nI tn), .int (nI ta2_37), .int (nI ts2_38), .int (nI tk2_39), .long tm2_40, .int tr2_41], wI (cy 0) t1 1600 (fby), (t2, .inl (cy 2, 24, .inr (.inl (fky)))), wO h0 4 [.ref h1, .ref h2, .ref h3, .ref h4, .ref h5, .ref h6, .ref h7, .ref h8, .ref h9, .ref h10, .ref h11, hv0, hv1, hv2, hv3, .int (nI un2_45)], wO f0 3 [.ref f1, .ref f2, .int (nI nf2_46), y3], wI (cy 1) f1 280 (fco2_47)] hP9 hD9 hS9 (fun hP hD hS => ?_)
            clear hP9 hD9 hS9
            refine W.widen (k := 0) (n := 0) (Nat.le_of_ble_eq_true rfl) (Nat.le_of_ble_eq_true rfl) ?_
            replace hw36 : (ta2_37 ≤ tn) ∧ (tk2_39 ≤ 123) ∧ (nf2_46 ≤ 280) ∧ (cOK fco2_47 nf2_46) ∧ (ow2_44 ≤ 30) ∧ (un2_45 ≤ 60) ∧ ((zr36 = 1 ∧ (okS (knd fby tn) (fin fby tn) 4 6 (fin fby tn gq21) oq21 uq21 ga2_48 ow2_44 un2_45) ∧ (fq = fq2_42) ∧ (pq = pq2_43) ∧ (tkC fby tn ga2_48 ta2_37 ts2_38 tk2_39 tm2_40 tr2_41) ∧ ((fin fby tn gq21) < ga2_48 ∧ ga2_48 ≤ tn)) ∨ (zr36 = 0 ∧ (noS (knd fby tn) (fin fby tn) 4 6 (fin fby tn gq21) oq21 uq21 ga2_48) ∧ (flt fby tn ga2_48 2 fq2_42 pq2_43))) := hw36
            obtain ⟨f_49, f_50, f_51, f_52, f_53, f_54, f_55⟩ := hw36
            rcases f_55 with ⟨hz_61, a_56, a_57, a_58, a_59, a_60⟩ | ⟨hz_64, a_62, a_63⟩
            · subst hz_61
              subst a_57
              subst a_58
              have hg_a_60 := a_60
              refine lv_istore_n (lv' := [(2, .int 1), (3, .int (nI i21)), (0, .ref d0), (1, .int 6)]) hx hb dX10_takeBoth_43 rfl hl (by decide) rfl (fun ls hl => ?_)
              refine lv_aload_n hx hb dX10_takeBoth_44 rfl (lv_at hl 2 rfl) ?_
              refine va_get (D := D) (ci := 10) (v := .ref f0) (C := RX10) (T := TX10) (N := 10) hx hb hg i_X10 hown hK hP 0 rfl rfl 3 (by decide) (hg _ m_258) (fun _ h9 => h9) rfl dX10_takeBoth_45 ?_
              refine lv_bipush (v := 115) hx hb dX10_takeBoth_48 (by decide) ?_
              refine x_callVv (q := (RX3, TX3, 4)) (ci := 3) (q0 := 0) (wr := [wO d0 10 [.ref t0, .ref d1, .ref h0, .ref f0, .int (nI ow2_44), .int wt, .int dt, .int vv, .int fq, .int pq], wO t0 9 [.ref t1, .ref t2, .int (nI tn), .int (nI ta2_37), .int (nI ts2_38), .int (nI tk2_39), .long tm2_40, .int tr2_41], wI (cy 0) t1 1600 (fby), (t2, .inl (cy 2, 24, .inr (.inl (fky)))), wO h0 4 [.ref h1, .ref h2, .ref h3, .ref h4, .ref h5, .ref h6, .ref h7, .ref h8, .ref h9, .ref h10, .ref h11, hv0, hv1, hv2, hv3, .int (nI un2_45)]]) (rest := []) ⟨hx, hb, hml, hown, hg, hl.1⟩ k_X10_182 (s_addDeed l D cy f0 f1 f2 nf2_46 y3 fco2_47 115 (by omega) (f_52) (by omega)) E0_blind hK hP hD hS hA [5, 6] [0, 1, 2, 3, 4] ⟨rfl, rfl, by decide +kernel, by decide +kernel, by decide +kernel⟩ rfl rfl (fun _ _ _ => trivial) dX10_takeBoth_50 rfl rfl (Nat.le_of_ble_eq_true rfl) ⟨Nat.le_of_ble_eq_true rfl, Nat.le_of_ble_eq_true rfl⟩ ⟨Nat.le_of_ble_eq_true rfl, Nat.le_of_ble_eq_true rfl⟩ (fun zu65 H locs hw65 hP9 hD9 hS9 => ?_)
              clear hP hD hS
              obtain ⟨n2_66, fc2_67⟩ := zu65
              refine reW [wO d0 10 [.ref t0, .ref d1, .ref h0, .ref f0, .int (nI ow2_44), .int wt, .int dt, .int vv, .int fq, .int pq], wO t0 9 [.ref t1, .ref t2, .int (nI tn), .int (nI ta2_37), .int (nI ts2_38), .int (nI tk2_39), .long tm2_40, .int tr2_41], wI (cy 0) t1 1600 (fby), (t2, .inl (cy 2, 24, .inr (.inl (fky)))), wO h0 4 [.ref h1, .ref h2, .ref h3, .ref h4, .ref h5, .ref h6, .ref h7, .ref h8, .ref h9, .ref h10, .ref h11, hv0, hv1, hv2, hv3, .int (nI un2_45)], wO f0 3 [.ref f1, .ref f2, .int (nI n2_66), y3], wI (cy 1) f1 280 (fc2_67)] hP9 hD9 hS9 (fun hP hD hS => ?_)
              clear hP9 hD9 hS9
              refine W.widen (k := 0) (n := 0) (Nat.le_of_ble_eq_true rfl) (Nat.le_of_ble_eq_true rfl) ?_
              replace hw65 : (n2_66 ≤ 280) ∧ (cOK fc2_67 n2_66) := hw65
              obtain ⟨f_68, f_69⟩ := hw65
              refine lv_iinc (v := nI (i21 + 1)) (lv' := [(3, .int (nI (i21 + 1))), (2, .int 1), (0, .ref d0), (1, .int 6)]) hx hb dX10_takeBoth_53 hl (k := 1) rfl (nI_add i21 1) (by decide) rfl (fun ls hl => ?_)
              refine lv_goto (tgt := 8) hx hb dX10_takeBoth_56 (by decide) ?_
              exact ih21  1 ((i21 + 1)) ta2_37 ts2_38 tk2_39 tm2_40 tr2_41 ow2_44 fq pq un2_45 n2_66 ga2_48 fc2_67 f_69 (by omega) (by omega) (by omega) (by omega) (by omega) (by omega) (Or.inl ⟨rfl, inS_step lvP24 hin9 hop.1 hop.2 a_56, a_59, by omega, by omega, by omega, rfl, rfl⟩) (by omega) _ _ (hP.sub [0, 1, 2, 3, 4, 5, 6] rfl) (hD.sub [0, 1, 2, 3, 4, 5, 6] (by decide +kernel) rfl) hS ls (lv_sub hl [0, 1, 2, 3] rfl)
            · subst hz_64
              refine lv_istore_n (lv' := [(2, .int 0), (3, .int (nI i21)), (0, .ref d0), (1, .int 6)]) hx hb dX10_takeBoth_43 rfl hl (by decide) rfl (fun ls hl => ?_)
              refine lv_aload_n hx hb dX10_takeBoth_44 rfl (lv_at hl 2 rfl) ?_
              refine va_get (D := D) (ci := 10) (v := .ref f0) (C := RX10) (T := TX10) (N := 10) hx hb hg i_X10 hown hK hP 0 rfl rfl 3 (by decide) (hg _ m_258) (fun _ h9 => h9) rfl dX10_takeBoth_45 ?_
              refine lv_bipush (v := 115) hx hb dX10_takeBoth_48 (by decide) ?_
              refine x_callVv (q := (RX3, TX3, 4)) (ci := 3) (q0 := 0) (wr := [wO d0 10 [.ref t0, .ref d1, .ref h0, .ref f0, .int (nI ow2_44), .int wt, .int dt, .int vv, .int fq2_42, .int pq2_43], wO t0 9 [.ref t1, .ref t2, .int (nI tn), .int (nI ta2_37), .int (nI ts2_38), .int (nI tk2_39), .long tm2_40, .int tr2_41], wI (cy 0) t1 1600 (fby), (t2, .inl (cy 2, 24, .inr (.inl (fky)))), wO h0 4 [.ref h1, .ref h2, .ref h3, .ref h4, .ref h5, .ref h6, .ref h7, .ref h8, .ref h9, .ref h10, .ref h11, hv0, hv1, hv2, hv3, .int (nI un2_45)]]) (rest := []) ⟨hx, hb, hml, hown, hg, hl.1⟩ k_X10_182 (s_addDeed l D cy f0 f1 f2 nf2_46 y3 fco2_47 115 (by omega) (f_52) (by omega)) E0_blind hK hP hD hS hA [5, 6] [0, 1, 2, 3, 4] ⟨rfl, rfl, by decide +kernel, by decide +kernel, by decide +kernel⟩ rfl rfl (fun _ _ _ => trivial) dX10_takeBoth_50 rfl rfl (Nat.le_of_ble_eq_true rfl) ⟨Nat.le_of_ble_eq_true rfl, Nat.le_of_ble_eq_true rfl⟩ ⟨Nat.le_of_ble_eq_true rfl, Nat.le_of_ble_eq_true rfl⟩ (fun zu70 H locs hw70 hP9 hD9 hS9 => ?_)
              clear hP hD hS
              obtain ⟨n2_71, fc2_72⟩ := zu70
              refine reW [wO d0 10 [.ref t0, .ref d1, .ref h0, .ref f0, .int (nI ow2_44), .int wt, .int dt, .int vv, .int fq2_42, .int pq2_43], wO t0 9 [.ref t1, .ref t2, .int (nI tn), .int (nI ta2_37), .int (nI ts2_38), .int (nI tk2_39), .long tm2_40, .int tr2_41], wI (cy 0) t1 1600 (fby), (t2, .inl (cy 2, 24, .inr (.inl (fky)))), wO h0 4 [.ref h1, .ref h2, .ref h3, .ref h4, .ref h5, .ref h6, .ref h7, .ref h8, .ref h9, .ref h10, .ref h11, hv0, hv1, hv2, hv3, .int (nI un2_45)], wO f0 3 [.ref f1, .ref f2, .int (nI n2_71), y3], wI (cy 1) f1 280 (fc2_72)] hP9 hD9 hS9 (fun hP hD hS => ?_)
              clear hP9 hD9 hS9
              refine W.widen (k := 0) (n := 0) (Nat.le_of_ble_eq_true rfl) (Nat.le_of_ble_eq_true rfl) ?_
              replace hw70 : (n2_71 ≤ 280) ∧ (cOK fc2_72 n2_71) := hw70
              obtain ⟨f_73, f_74⟩ := hw70
              refine lv_iinc (v := nI (i21 + 1)) (lv' := [(3, .int (nI (i21 + 1))), (2, .int 0), (0, .ref d0), (1, .int 6)]) hx hb dX10_takeBoth_53 hl (k := 1) rfl (nI_add i21 1) (by decide) rfl (fun ls hl => ?_)
              refine lv_goto (tgt := 8) hx hb dX10_takeBoth_56 (by decide) ?_
              exact ih21  0 ((i21 + 1)) ta2_37 ts2_38 tk2_39 tm2_40 tr2_41 ow2_44 fq2_42 pq2_43 un2_45 n2_71 ga2_48 fc2_72 f_74 (by omega) (by omega) (by omega) (by omega) (by omega) (by omega) (Or.inr ⟨rfl, inS_bad lvP24 hin9 hop.1 hop.2 a_62, a_63⟩) (by omega) _ _ (hP.sub [0, 1, 2, 3, 4, 5, 6] rfl) (hD.sub [0, 1, 2, 3, 4, 5, 6] (by decide +kernel) rfl) hS ls (lv_sub hl [0, 1, 2, 3] rfl)
      · subst hlb
        refine lv_iload_n hx hb dX10_takeBoth_8 rfl (lv_at hl 0 rfl) ?_
        refine lv_sipush (v := 1600) hx hb dX10_takeBoth_9 (by decide) ?_
        refine lv_icmp_ge (tgt := 59) hx hb dX10_takeBoth_12 (by decide) (fun c_75 => ?_) (fun c_75 => ?_)
        · have q_76 : 1600 ≤ i21 := q_le (a := 1600) (b := i21) rfl rfl (by omega) (by omega) c_75
          refine lv_iload_n hx hb dX10_takeBoth_59 rfl (lv_at hl 1 rfl) ?_
          exact x_zret hQ hx hb hr hlocks hK hP hD hS rfl dX10_takeBoth_60 (aq21, sq21, kq21, fl5_21, rq21, fz21, pz21, oq21, uq21, nq21, fa13_21, gq21) (⟨(show aq21 ≤ tn from by omega), (show kq21 ≤ 123 from by omega), (show nq21 ≤ 280 from by omega), ha14_21, (show oq21 ≤ 30 from by omega), (show uq21 ≤ 60 from by omega), (show ((0 : Int32) = 1 ∧ (okS (knd fby tn) (fin fby tn) 2 6 ga ow un gq21 oq21 uq21) ∧ (fq = fz21) ∧ (pq = pz21) ∧ (tkC fby tn gq21 aq21 sq21 kq21 fl5_21 rq21) ∧ (ga < gq21 ∧ gq21 ≤ tn)) ∨ ((0 : Int32) = 0 ∧ (noS (knd fby tn) (fin fby tn) 2 6 ga ow un gq21) ∧ (flt fby tn gq21 2 fz21 pz21)) from Or.inr (⟨rfl, (hno9), (hfl9)⟩))⟩) [0, 1, 2, 3, 4, 5, 6] (by decide +kernel) rfl (Nat.le_of_ble_eq_true rfl) (Nat.le_of_ble_eq_true rfl)
        · have q_76 : i21 < 1600 := q_nle (a := 1600) (b := i21) rfl rfl (by omega) (by omega) c_75
          refine lv_iload_n hx hb dX10_takeBoth_15 rfl (lv_at hl 1 rfl) ?_
          refine lv_if_eq (tgt := 59) hx hb dX10_takeBoth_16 (by decide) (fun _ => ?_) (fun h => absurd (by decide) h)
          refine lv_iload_n hx hb dX10_takeBoth_59 rfl (lv_at hl 1 rfl) ?_
          exact x_zret hQ hx hb hr hlocks hK hP hD hS rfl dX10_takeBoth_60 (aq21, sq21, kq21, fl5_21, rq21, fz21, pz21, oq21, uq21, nq21, fa13_21, gq21) (⟨(show aq21 ≤ tn from by omega), (show kq21 ≤ 123 from by omega), (show nq21 ≤ 280 from by omega), ha14_21, (show oq21 ≤ 30 from by omega), (show uq21 ≤ 60 from by omega), (show ((0 : Int32) = 1 ∧ (okS (knd fby tn) (fin fby tn) 2 6 ga ow un gq21 oq21 uq21) ∧ (fq = fz21) ∧ (pq = pz21) ∧ (tkC fby tn gq21 aq21 sq21 kq21 fl5_21 rq21) ∧ (ga < gq21 ∧ gq21 ≤ tn)) ∨ ((0 : Int32) = 0 ∧ (noS (knd fby tn) (fin fby tn) 2 6 ga ow un gq21) ∧ (flt fby tn gq21 2 fz21 pz21)) from Or.inr (⟨rfl, (hno9), (hfl9)⟩))⟩) [0, 1, 2, 3, 4, 5, 6] (by decide +kernel) rfl (Nat.le_of_ble_eq_true rfl) (Nat.le_of_ble_eq_true rfl)
  exact loop21 _ zr1 0 ta2_2 ts2_3 tk2_4 tm2_5 tr2_6 ow2_9 fq2_7 pq2_8 un2_10 nf2_11 ga2_13 fco2_12 f_17 (by omega) (by omega) (by omega) (by omega) (by omega) (by omega) (by rcases f_20 with ⟨hx0, hxk, hxq, hxp, hxt, hxg⟩ | ⟨hx0, hxn, hxl⟩; exact Or.inl ⟨hx0, inS_0 lvP24 hxk, hxt, hxg.1, hxg.2, by omega, hxq, hxp⟩; exact Or.inr ⟨hx0, noS_0 lvP24 hxn, hxl⟩) (Nat.le_refl _) _ _ (hP.sub [0, 1, 2, 3, 4, 5, 6] rfl) (hD.sub [0, 1, 2, 3, 4, 5, 6] (by decide +kernel) rfl) hS ls (lv_sub hl [0, 1, 2, 3] rfl)
set_option maxHeartbeats 1000000 in
set_option maxRecDepth 100000 in
theorem s_takeEither6 (l : Launch) (D : va_G) (cy : Nat → ClassId) (adK : Nat → Nat) (adV : Nat → Nat) (d0 : Nat) (d1 : Nat) (wt : Int32) (dt : Int32) (vv : Int32) (fq : Int32) (pq : Int32) (t0 : Nat) (t1 : Nat) (t2 : Nat) (tn : Nat) (ta : Nat) (ts : Nat) (tk : Nat) (tm : Int64) (tr : Int32) (fby : Nat → Int32) (fky : Nat → Int64) (h0 : Nat) (h1 : Nat) (h2 : Nat) (h3 : Nat) (h4 : Nat) (h5 : Nat) (h6 : Nat) (h7 : Nat) (h8 : Nat) (h9 : Nat) (h10 : Nat) (h11 : Nat) (hv0 : Value) (hv1 : Value) (hv2 : Value) (hv3 : Value) (ow : Nat) (un : Nat) (f0 : Nat) (f1 : Nat) (f2 : Nat) (nf : Nat) (y3 : Value) (fco : Nat → Int32) (ga : Nat) (htn : tn ≤ 1600) (hta : ta ≤ tn) (htk : tk ≤ 123) (hti : tkC fby tn ga ta ts tk tm tr) (hky : kyOK fky) (hnf : nf ≤ 280) (hfc : cOK fco nf) (how : ow ≤ 30) (hun : un ≤ 60) (hga : ga ≤ tn) : XMi l D (tyL cy) (EV adK adV) yX10_takeEither cX10_takeEither 4 (some .boolean) (rmk 19 0 0) [.ref d0, .int 6] [wO d0 10 [.ref t0, .ref d1, .ref h0, .ref f0, .int (nI ow), .int wt, .int dt, .int vv, .int fq, .int pq], wO t0 9 [.ref t1, .ref t2, .int (nI tn), .int (nI ta), .int (nI ts), .int (nI tk), .long tm, .int tr], wI (cy 0) t1 1600 (fby), (t2, .inl (cy 2, 24, .inr (.inl (fky)))), wO h0 4 [.ref h1, .ref h2, .ref h3, .ref h4, .ref h5, .ref h6, .ref h7, .ref h8, .ref h9, .ref h10, .ref h11, hv0, hv1, hv2, hv3, .int (nI un)], wO f0 3 [.ref f1, .ref f2, .int (nI nf), y3], wI (cy 1) f1 280 (fco)] (fun (r : Int32) (u : Nat × Nat × Nat × Int64 × Int32 × Int32 × Int32 × Nat × Nat × Nat × (Nat → Int32) × Nat) => (u.1 ≤ tn) ∧ (u.2.2.1 ≤ 123) ∧ (u.2.2.2.2.2.2.2.2.2.1 ≤ 280) ∧ (cOK u.2.2.2.2.2.2.2.2.2.2.1 u.2.2.2.2.2.2.2.2.2.1) ∧ (u.2.2.2.2.2.2.2.1 ≤ 30) ∧ (u.2.2.2.2.2.2.2.2.1 ≤ 60) ∧ ((r = 1 ∧ (okS (knd fby tn) (fin fby tn) 1 6 ga ow un u.2.2.2.2.2.2.2.2.2.2.2 u.2.2.2.2.2.2.2.1 u.2.2.2.2.2.2.2.2.1) ∧ (fq = u.2.2.2.2.2.1) ∧ (pq = u.2.2.2.2.2.2.1) ∧ (tkC fby tn u.2.2.2.2.2.2.2.2.2.2.2 u.1 u.2.1 u.2.2.1 u.2.2.2.1 u.2.2.2.2.1) ∧ (ga < u.2.2.2.2.2.2.2.2.2.2.2 ∧ u.2.2.2.2.2.2.2.2.2.2.2 ≤ tn)) ∨ (r = 0 ∧ (noS (knd fby tn) (fin fby tn) 1 6 ga ow un u.2.2.2.2.2.2.2.2.2.2.2) ∧ (flt fby tn u.2.2.2.2.2.2.2.2.2.2.2 2 u.2.2.2.2.2.1 u.2.2.2.2.2.2.1)))) (fun (u : Nat × Nat × Nat × Int64 × Int32 × Int32 × Int32 × Nat × Nat × Nat × (Nat → Int32) × Nat) => [wO d0 10 [.ref t0, .ref d1, .ref h0, .ref f0, .int (nI u.2.2.2.2.2.2.2.1), .int wt, .int dt, .int vv, .int u.2.2.2.2.2.1, .int u.2.2.2.2.2.2.1], wO t0 9 [.ref t1, .ref t2, .int (nI tn), .int (nI u.1), .int (nI u.2.1), .int (nI u.2.2.1), .long u.2.2.2.1, .int u.2.2.2.2.1], wI (cy 0) t1 1600 (fby), (t2, .inl (cy 2, 24, .inr (.inl (fky)))), wO h0 4 [.ref h1, .ref h2, .ref h3, .ref h4, .ref h5, .ref h6, .ref h7, .ref h8, .ref h9, .ref h10, .ref h11, hv0, hv1, hv2, hv3, .int (nI u.2.2.2.2.2.2.2.2.1)], wO f0 3 [.ref f1, .ref f2, .int (nI u.2.2.2.2.2.2.2.2.2.1), y3], wI (cy 1) f1 280 (u.2.2.2.2.2.2.2.2.2.2.1)]) := by
  refine XMi.start (by decide) (Nat.le_of_ble_eq_true rfl) ?_
  intro p e s m below meth c args A ls Q hat hQ
  obtain ⟨hx, hb, hr, hml, hown, hg, hlocks, hin, hK, hA, hP, hD, hS, hE, hl⟩ := hat
  have hown : s.vm.findClass RX10 = some m.cls := hown
  have hl : lv_has ls 4 [(0, .ref d0), (1, .int 6)] := hl
  refine lv_aload_n hx hb dX10_takeEither_0 rfl (lv_at hl 0 rfl) ?_
  refine lv_iload_n hx hb dX10_takeEither_1 rfl (lv_at hl 1 rfl) ?_
  refine x_callVi (q := (RX10, TX10, 10)) (ci := 10) (q0 := 0) (wr := []) (rest := []) ⟨hx, hb, hml, hown, hg, hl.1⟩ k_X10_179 (s_takeBoth6 l D cy adK adV d0 d1 wt dt vv fq pq t0 t1 t2 tn ta ts tk tm tr fby fky h0 h1 h2 h3 h4 h5 h6 h7 h8 h9 h10 h11 hv0 hv1 hv2 hv3 ow un f0 f1 f2 nf y3 fco ga (by omega) (by omega) (by omega) (hti) (hky) (by omega) (hfc) (by omega) (by omega) (by omega)) EV_blind hK hP hD hS hA [0, 1, 2, 3, 4, 5, 6] [] ⟨rfl, rfl, by decide +kernel, by decide +kernel, by decide +kernel⟩ rfl rfl (fun U hU hW => EV_pass hE hS (va_free hD hS hA [0, 1, 2, 3, 4, 5, 6] rfl) hU hW) dX10_takeEither_2 rfl rfl (Nat.le_of_ble_eq_true rfl) ⟨Nat.le_of_ble_eq_true rfl, Nat.le_of_ble_eq_true rfl⟩ ⟨Nat.le_of_ble_eq_true rfl, Nat.le_of_ble_eq_true rfl⟩ (fun zr1 zu1 H locs hw1 hP9 hD9 hS9 => ?_)
  clear hP hD hS
  obtain ⟨ta2_2, ts2_3, tk2_4, tm2_5, tr2_6, fq2_7, pq2_8, ow2_9, un2_10, nf2_11, fco2_12, ga2_13⟩ := zu1
  refine reW [wO d0 10 [.ref t0, .ref d1, .ref h0, .ref f0, .int (nI ow2_9), .int wt, .int dt, .int vv, .int fq2_7, .int pq2_8], wO t0 9 [.ref t1, .ref t2, .int (nI tn), .int (nI ta2_2), .int (nI ts2_3), .int (nI tk2_4), .long tm2_5, .int tr2_6], wI (cy 0) t1 1600 (fby), (t2, .inl (cy 2, 24, .inr (.inl (fky)))), wO h0 4 [.ref h1, .ref h2, .ref h3, .ref h4, .ref h5, .ref h6, .ref h7, .ref h8, .ref h9, .ref h10, .ref h11, hv0, hv1, hv2, hv3, .int (nI un2_10)], wO f0 3 [.ref f1, .ref f2, .int (nI nf2_11), y3], wI (cy 1) f1 280 (fco2_12)] hP9 hD9 hS9 (fun hP hD hS => ?_)
  clear hP9 hD9 hS9
  refine W.widen (k := 0) (n := 0) (Nat.le_of_ble_eq_true rfl) (Nat.le_of_ble_eq_true rfl) ?_
  replace hw1 : (ta2_2 ≤ tn) ∧ (tk2_4 ≤ 123) ∧ (nf2_11 ≤ 280) ∧ (cOK fco2_12 nf2_11) ∧ (ow2_9 ≤ 30) ∧ (un2_10 ≤ 60) ∧ ((zr1 = 1 ∧ (okS (knd fby tn) (fin fby tn) 2 6 ga ow un ga2_13 ow2_9 un2_10) ∧ (fq = fq2_7) ∧ (pq = pq2_8) ∧ (tkC fby tn ga2_13 ta2_2 ts2_3 tk2_4 tm2_5 tr2_6) ∧ (ga < ga2_13 ∧ ga2_13 ≤ tn)) ∨ (zr1 = 0 ∧ (noS (knd fby tn) (fin fby tn) 2 6 ga ow un ga2_13) ∧ (flt fby tn ga2_13 2 fq2_7 pq2_8))) := hw1
  obtain ⟨f_14, f_15, f_16, f_17, f_18, f_19, f_20⟩ := hw1
  refine lv_istore_n (lv' := [(2, .int zr1), (0, .ref d0), (1, .int 6)]) hx hb dX10_takeEither_5 rfl hl (by decide) rfl (fun ls hl => ?_)
  refine lv_iconst (v := 0) hx hb dX10_takeEither_6 (by decide) ?_
  refine lv_istore_n (lv' := [(3, .int 0), (2, .int zr1), (0, .ref d0), (1, .int 6)]) hx hb dX10_takeEither_7 rfl hl (by decide) rfl (fun ls hl => ?_)
  have loop21 : ∀ (zn : Nat) (lb2_21 : Int32) (i21 : Nat) (aq21 : Nat) (sq21 : Nat) (kq21 : Nat) (fl5_21 : Int64) (rq21 : Int32) (oq21 : Nat) (fz21 : Int32) (pz21 : Int32) (uq21 : Nat) (nq21 : Nat) (gq21 : Nat) (fa13_21 : Nat → Int32), (cOK fa13_21 nq21) → (i21 ≤ 1600) → (aq21 ≤ tn) → (kq21 ≤ 123) → (nq21 ≤ 280) → (oq21 ≤ 30) → (uq21 ≤ 60) → ((lb2_21 = 1 ∧ inS (knd fby tn) (fin fby tn) 1 2 6 ga ow un gq21 oq21 uq21 ∧ tkC fby tn gq21 aq21 sq21 kq21 fl5_21 rq21 ∧ ga < gq21 ∧ gq21 ≤ tn ∧ i21 < gq21 ∧ fq = fz21 ∧ pq = pz21) ∨ (lb2_21 = 0 ∧ noS (knd fby tn) (fin fby tn) 1 6 ga ow un gq21 ∧ flt fby tn gq21 2 fz21 pz21)) → 1600 - i21 + 1 ≤ zn → ∀ (H : Heap) (locs : List Loc), va_P D vwCl [wO d0 10 [.ref t0, .ref d1, .ref h0, .ref f0, .int (nI oq21), .int wt, .int dt, .int vv, .int fz21, .int pz21], wO t0 9 [.ref t1, .ref t2, .int (nI tn), .int (nI aq21), .int (nI sq21), .int (nI kq21), .long fl5_21, .int rq21], wI (cy 0) t1 1600 (fby), (t2, .inl (cy 2, 24, .inr (.inl (fky)))), wO h0 4 [.ref h1, .ref h2, .ref h3, .ref h4, .ref h5, .ref h6, .ref h7, .ref h8, .ref h9, .ref h10, .ref h11, hv0, hv1, hv2, hv3, .int (nI uq21)], wO f0 3 [.ref f1, .ref f2, .int (nI nq21), y3], wI (cy 1) f1 280 (fa13_21)] H → va_D A [wO d0 10 [.ref t0, .ref d1, .ref h0, .ref f0, .int (nI oq21), .int wt, .int dt, .int vv, .int fz21, .int pz21], wO t0 9 [.ref t1, .ref t2, .int (nI tn), .int (nI aq21), .int (nI sq21), .int (nI kq21), .long fl5_21, .int rq21], wI (cy 0) t1 1600 (fby), (t2, .inl (cy 2, 24, .inr (.inl (fky)))), wO h0 4 [.ref h1, .ref h2, .ref h3, .ref h4, .ref h5, .ref h6, .ref h7, .ref h8, .ref h9, .ref h10, .ref h11, hv0, hv1, hv2, hv3, .int (nI uq21)], wO f0 3 [.ref f1, .ref f2, .int (nI nq21), y3], wI (cy 1) f1 280 (fa13_21)] → va_S A s.heap H locs → ∀ ls : Array Slot, lv_has ls 4 [(3, .int (nI i21)), (2, .int lb2_21), (0, .ref d0), (1, .int 6)] → W p l e (rmk 19 0 0) s m args below meth c H locs 0 0 Q (F0 m 8 ls []) := by
    try clear hP hD hS
    intro zn
    induction zn with
    | zero => intro lb2_21 i21 aq21 sq21 kq21 fl5_21 rq21 oq21 fz21 pz21 uq21 nq21 gq21 fa13_21 _ _ _ _ _ _ _ _ hz; exact absurd hz (by omega)
    | succ zn ih21 =>
      intro lb2_21 i21 aq21 sq21 kq21 fl5_21 rq21 oq21 fz21 pz21 uq21 nq21 gq21 fa13_21 ha14_21 hf0_21 hf1_21 hf2_21 hf3_21 hf4_21 hf5_21 hf6_21 hmu21 H locs hP hD hS ls hl
      rcases hf6_21 with ⟨hlb, hin9, htk9, hg1, hg2, hg3, hfz, hpz⟩ | ⟨hlb, hno9, hfl9⟩
      · subst hlb hfz hpz
        refine lv_iload_n hx hb dX10_takeEither_8 rfl (lv_at hl 0 rfl) ?_
        refine lv_sipush (v := 1600) hx hb dX10_takeEither_9 (by decide) ?_
        refine lv_icmp_ge (tgt := 59) hx hb dX10_takeEither_12 (by decide) (fun c_22 => ?_) (fun c_22 => ?_)
        · have q_23 : 1600 ≤ i21 := q_le (a := 1600) (b := i21) rfl rfl (by omega) (by omega) c_22
          exact absurd q_23 (by omega)
        · have q_23 : i21 < 1600 := q_nle (a := 1600) (b := i21) rfl rfl (by omega) (by omega) c_22
          refine lv_iload_n hx hb dX10_takeEither_15 rfl (lv_at hl 1 rfl) ?_
          refine lv_if_eq (tgt := 59) hx hb dX10_takeEither_16 (by decide) (fun h => absurd h (by decide)) (fun _ => ?_)
          refine lv_aload_n hx hb dX10_takeEither_19 rfl (lv_at hl 2 rfl) ?_
          refine va_get (D := D) (ci := 10) (v := .ref t0) (C := RX10) (T := TX10) (N := 10) hx hb hg i_X10 hown hK hP 0 rfl rfl 0 (by decide) (hg _ m_255) (fun _ h9 => h9) rfl dX10_takeEither_20 ?_
          refine va_get (D := D) (ci := 9) (v := .int (nI kq21)) (C := RX9) (T := TX9) (N := 8) hx hb hg i_X9 hown hK hP 1 rfl rfl 5 (by decide) (hg _ m_222) (fun _ h9 => h9) rfl dX10_takeEither_23 ?_
          refine lv_bipush (v := 114) hx hb dX10_takeEither_26 (by decide) ?_
          refine lv_icmp_ne (tgt := 59) hx hb dX10_takeEither_28 (by decide) (fun c_24 => ?_) (fun c_24 => ?_)
          · have q_25 : ¬ kq21 = 114 := q_ne (a := kq21) (b := 114) rfl rfl (by omega) (by omega) c_24
            refine lv_iload_n hx hb dX10_takeEither_59 rfl (lv_at hl 1 rfl) ?_
            exact x_zret hQ hx hb hr hlocks hK hP hD hS rfl dX10_takeEither_60 (aq21, sq21, kq21, fl5_21, rq21, fq, pq, oq21, uq21, nq21, fa13_21, gq21) (⟨(show aq21 ≤ tn from by omega), (show kq21 ≤ 123 from by omega), (show nq21 ≤ 280 from by omega), ha14_21, (show oq21 ≤ 30 from by omega), (show uq21 ≤ 60 from by omega), (show ((1 : Int32) = 1 ∧ (okS (knd fby tn) (fin fby tn) 1 6 ga ow un gq21 oq21 uq21) ∧ (fq = fq) ∧ (pq = pq) ∧ (tkC fby tn gq21 aq21 sq21 kq21 fl5_21 rq21) ∧ (ga < gq21 ∧ gq21 ≤ tn)) ∨ ((1 : Int32) = 0 ∧ (noS (knd fby tn) (fin fby tn) 1 6 ga ow un gq21) ∧ (flt fby tn gq21 2 fq pq)) from Or.inl ⟨rfl, (inS_end lvP12 hin9 (sg_ne1 (by have h9 := htk9.2.2.1; omega))), (rfl), (rfl), (htk9), (⟨by omega, by omega⟩)⟩)⟩) [0, 1, 2, 3, 4, 5, 6] (by decide +kernel) rfl (Nat.le_of_ble_eq_true rfl) (Nat.le_of_ble_eq_true rfl)
          · have q_25 : kq21 = 114 := q_eq (a := kq21) (b := 114) rfl rfl (by omega) (by omega) c_24
            have hop := sg_1 (show knd fby tn gq21 = 114 from by have h9 := htk9.2.2.1; omega)
            have hgt_26 : gq21 < fin fby tn gq21 ∧ fin fby tn gq21 ≤ tn := ⟨fin_gt (by have h9 := htk9.2.2.1; omega), fin_le (by omega)⟩
            refine lv_aload_n hx hb dX10_takeEither_31 rfl (lv_at hl 2 rfl) ?_
            refine va_get (D := D) (ci := 10) (v := .ref t0) (C := RX10) (T := TX10) (N := 10) hx hb hg i_X10 hown hK hP 0 rfl rfl 0 (by decide) (hg _ m_255) (fun _ h9 => h9) rfl dX10_takeEither_32 ?_
            refine x_callVv (q := (RX9, TX9, 8)) (ci := 9) (q0 := 0) (wr := [wO d0 10 [.ref t0, .ref d1, .ref h0, .ref f0, .int (nI oq21), .int wt, .int dt, .int vv, .int fq, .int pq], wO h0 4 [.ref h1, .ref h2, .ref h3, .ref h4, .ref h5, .ref h6, .ref h7, .ref h8, .ref h9, .ref h10, .ref h11, hv0, hv1, hv2, hv3, .int (nI uq21)], wO f0 3 [.ref f1, .ref f2, .int (nI nq21), y3], wI (cy 1) f1 280 (fa13_21)]) (rest := []) ⟨hx, hb, hml, hown, hg, hl.1⟩ k_X10_140 (s_next l D cy adK adV t0 t1 t2 tn aq21 sq21 kq21 fl5_21 rq21 fby fky (fin fby tn gq21) (by omega) (by omega) (htk9.2.1) (hky)) EV_blind hK hP hD hS hA [1, 2, 3] [0, 4, 5, 6] ⟨rfl, rfl, by decide +kernel, by decide +kernel, by decide +kernel⟩ rfl rfl (fun U hU hW => EV_pass hE hS (va_free hD hS hA [1, 2, 3] rfl) hU hW) dX10_takeEither_35 rfl rfl (Nat.le_of_ble_eq_true rfl) ⟨Nat.le_of_ble_eq_true rfl, Nat.le_of_ble_eq_true rfl⟩ ⟨Nat.le_of_ble_eq_true rfl, Nat.le_of_ble_eq_true rfl⟩ (fun zu27 H locs hw27 hP9 hD9 hS9 => ?_)
            clear hP hD hS
            obtain ⟨ta2_28, ts2_29, tk2_30, tm2_31, tr2_32⟩ := zu27
            refine reW [wO d0 10 [.ref t0, .ref d1, .ref h0, .ref f0, .int (nI oq21), .int wt, .int dt, .int vv, .int fq, .int pq], wO h0 4 [.ref h1, .ref h2, .ref h3, .ref h4, .ref h5, .ref h6, .ref h7, .ref h8, .ref h9, .ref h10, .ref h11, hv0, hv1, hv2, hv3, .int (nI uq21)], wO f0 3 [.ref f1, .ref f2, .int (nI nq21), y3], wI (cy 1) f1 280 (fa13_21), wO t0 9 [.ref t1, .ref t2, .int (nI tn), .int (nI ta2_28), .int (nI ts2_29), .int (nI tk2_30), .long tm2_31, .int tr2_32], wI (cy 0) t1 1600 (fby), (t2, .inl (cy 2, 24, .inr (.inl (fky))))] hP9 hD9 hS9 (fun hP hD hS => ?_)
            clear hP9 hD9 hS9
            refine W.widen (k := 0) (n := 0) (Nat.le_of_ble_eq_true rfl) (Nat.le_of_ble_eq_true rfl) ?_
            replace hw27 : (ta2_28 ≤ tn) ∧ (tk2_30 ≤ 123) ∧ (tkC fby tn (fin fby tn gq21) ta2_28 ts2_29 tk2_30 tm2_31 tr2_32) := hw27
            obtain ⟨f_33, f_34, f_35⟩ := hw27
            refine lv_aload_n hx hb dX10_takeEither_38 rfl (lv_at hl 2 rfl) ?_
            refine lv_iload_n hx hb dX10_takeEither_39 rfl (lv_at hl 3 rfl) ?_
            refine x_callVi (q := (RX10, TX10, 10)) (ci := 10) (q0 := 0) (wr := []) (rest := []) ⟨hx, hb, hml, hown, hg, hl.1⟩ k_X10_179 (s_takeBoth6 l D cy adK adV d0 d1 wt dt vv fq pq t0 t1 t2 tn ta2_28 ts2_29 tk2_30 tm2_31 tr2_32 fby fky h0 h1 h2 h3 h4 h5 h6 h7 h8 h9 h10 h11 hv0 hv1 hv2 hv3 oq21 uq21 f0 f1 f2 nq21 y3 fa13_21 (fin fby tn gq21) (by omega) (by omega) (by omega) (f_35) (hky) (by omega) (ha14_21) (by omega) (by omega) (by omega)) EV_blind hK hP hD hS hA [0, 4, 5, 6, 1, 2, 3] [] ⟨rfl, rfl, by decide +kernel, by decide +kernel, by decide +kernel⟩ rfl rfl (fun U hU hW => EV_pass hE hS (va_free hD hS hA [0, 4, 5, 6, 1, 2, 3] rfl) hU hW) dX10_takeEither_40 rfl rfl (Nat.le_of_ble_eq_true rfl) ⟨Nat.le_of_ble_eq_true rfl, Nat.le_of_ble_eq_true rfl⟩ ⟨Nat.le_of_ble_eq_true rfl, Nat.le_of_ble_eq_true rfl⟩ (fun zr36 zu36 H locs hw36 hP9 hD9 hS9 => ?_)
            clear hP hD hS
            obtain ⟨ta2_37, ts2_38, tk2_39, tm2_40, tr2_41, fq2_42, pq2_43, ow2_44, un2_45, nf2_46, fco2_47, ga2_48⟩ := zu36
            refine reW [wO d0 10 [.ref t0, .ref d1, .ref h0, .ref f0, .int (nI ow2_44), .int wt, .int dt, .int vv, .int fq2_42, .int pq2_43], wO t0 9 [.ref t1, .ref t2, .int (nI tn), .int (nI ta2_37), .int (nI ts2_38), .int (nI tk2_39), .long tm2_40, .int tr2_41], wI (cy 0) t1 1600 (fby), (t2, .inl (cy 2, 24, .inr (.inl (fky)))), wO h0 4 [.ref h1, .ref h2, .ref h3, .ref h4, .ref h5, .ref h6, .ref h7, .ref h8, .ref h9, .ref h10, .ref h11, hv0, hv1, hv2, hv3, .int (nI un2_45)], wO f0 3 [.ref f1, .ref f2, .int (nI nf2_46), y3], wI (cy 1) f1 280 (fco2_47)] hP9 hD9 hS9 (fun hP hD hS => ?_)
            clear hP9 hD9 hS9
            refine W.widen (k := 0) (n := 0) (Nat.le_of_ble_eq_true rfl) (Nat.le_of_ble_eq_true rfl) ?_
            replace hw36 : (ta2_37 ≤ tn) ∧ (tk2_39 ≤ 123) ∧ (nf2_46 ≤ 280) ∧ (cOK fco2_47 nf2_46) ∧ (ow2_44 ≤ 30) ∧ (un2_45 ≤ 60) ∧ ((zr36 = 1 ∧ (okS (knd fby tn) (fin fby tn) 2 6 (fin fby tn gq21) oq21 uq21 ga2_48 ow2_44 un2_45) ∧ (fq = fq2_42) ∧ (pq = pq2_43) ∧ (tkC fby tn ga2_48 ta2_37 ts2_38 tk2_39 tm2_40 tr2_41) ∧ ((fin fby tn gq21) < ga2_48 ∧ ga2_48 ≤ tn)) ∨ (zr36 = 0 ∧ (noS (knd fby tn) (fin fby tn) 2 6 (fin fby tn gq21) oq21 uq21 ga2_48) ∧ (flt fby tn ga2_48 2 fq2_42 pq2_43))) := hw36
            obtain ⟨f_49, f_50, f_51, f_52, f_53, f_54, f_55⟩ := hw36
            rcases f_55 with ⟨hz_61, a_56, a_57, a_58, a_59, a_60⟩ | ⟨hz_64, a_62, a_63⟩
            · subst hz_61
              subst a_57
              subst a_58
              have hg_a_60 := a_60
              refine lv_istore_n (lv' := [(2, .int 1), (3, .int (nI i21)), (0, .ref d0), (1, .int 6)]) hx hb dX10_takeEither_43 rfl hl (by decide) rfl (fun ls hl => ?_)
              refine lv_aload_n hx hb dX10_takeEither_44 rfl (lv_at hl 2 rfl) ?_
              refine va_get (D := D) (ci := 10) (v := .ref f0) (C := RX10) (T := TX10) (N := 10) hx hb hg i_X10 hown hK hP 0 rfl rfl 3 (by decide) (hg _ m_258) (fun _ h9 => h9) rfl dX10_takeEither_45 ?_
              refine lv_bipush (v := 114) hx hb dX10_takeEither_48 (by decide) ?_
              refine x_callVv (q := (RX3, TX3, 4)) (ci := 3) (q0 := 0) (wr := [wO d0 10 [.ref t0, .ref d1, .ref h0, .ref f0, .int (nI ow2_44), .int wt, .int dt, .int vv, .int fq, .int pq], wO t0 9 [.ref t1, .ref t2, .int (nI tn), .int (nI ta2_37), .int (nI ts2_38), .int (nI tk2_39), .long tm2_40, .int tr2_41], wI (cy 0) t1 1600 (fby), (t2, .inl (cy 2, 24, .inr (.inl (fky)))), wO h0 4 [.ref h1, .ref h2, .ref h3, .ref h4, .ref h5, .ref h6, .ref h7, .ref h8, .ref h9, .ref h10, .ref h11, hv0, hv1, hv2, hv3, .int (nI un2_45)]]) (rest := []) ⟨hx, hb, hml, hown, hg, hl.1⟩ k_X10_182 (s_addDeed l D cy f0 f1 f2 nf2_46 y3 fco2_47 114 (by omega) (f_52) (by omega)) E0_blind hK hP hD hS hA [5, 6] [0, 1, 2, 3, 4] ⟨rfl, rfl, by decide +kernel, by decide +kernel, by decide +kernel⟩ rfl rfl (fun _ _ _ => trivial) dX10_takeEither_50 rfl rfl (Nat.le_of_ble_eq_true rfl) ⟨Nat.le_of_ble_eq_true rfl, Nat.le_of_ble_eq_true rfl⟩ ⟨Nat.le_of_ble_eq_true rfl, Nat.le_of_ble_eq_true rfl⟩ (fun zu65 H locs hw65 hP9 hD9 hS9 => ?_)
              clear hP hD hS
              obtain ⟨n2_66, fc2_67⟩ := zu65
              refine reW [wO d0 10 [.ref t0, .ref d1, .ref h0, .ref f0, .int (nI ow2_44), .int wt, .int dt, .int vv, .int fq, .int pq], wO t0 9 [.ref t1, .ref t2, .int (nI tn), .int (nI ta2_37), .int (nI ts2_38), .int (nI tk2_39), .long tm2_40, .int tr2_41], wI (cy 0) t1 1600 (fby), (t2, .inl (cy 2, 24, .inr (.inl (fky)))), wO h0 4 [.ref h1, .ref h2, .ref h3, .ref h4, .ref h5, .ref h6, .ref h7, .ref h8, .ref h9, .ref h10, .ref h11, hv0, hv1, hv2, hv3, .int (nI un2_45)], wO f0 3 [.ref f1, .ref f2, .int (nI n2_66), y3], wI (cy 1) f1 280 (fc2_67)] hP9 hD9 hS9 (fun hP hD hS => ?_)
              clear hP9 hD9 hS9
              refine W.widen (k := 0) (n := 0) (Nat.le_of_ble_eq_true rfl) (Nat.le_of_ble_eq_true rfl) ?_
              replace hw65 : (n2_66 ≤ 280) ∧ (cOK fc2_67 n2_66) := hw65
              obtain ⟨f_68, f_69⟩ := hw65
              refine lv_iinc (v := nI (i21 + 1)) (lv' := [(3, .int (nI (i21 + 1))), (2, .int 1), (0, .ref d0), (1, .int 6)]) hx hb dX10_takeEither_53 hl (k := 1) rfl (nI_add i21 1) (by decide) rfl (fun ls hl => ?_)
              refine lv_goto (tgt := 8) hx hb dX10_takeEither_56 (by decide) ?_
              exact ih21  1 ((i21 + 1)) ta2_37 ts2_38 tk2_39 tm2_40 tr2_41 ow2_44 fq pq un2_45 n2_66 ga2_48 fc2_67 f_69 (by omega) (by omega) (by omega) (by omega) (by omega) (by omega) (Or.inl ⟨rfl, inS_step lvP12 hin9 hop.1 hop.2 a_56, a_59, by omega, by omega, by omega, rfl, rfl⟩) (by omega) _ _ (hP.sub [0, 1, 2, 3, 4, 5, 6] rfl) (hD.sub [0, 1, 2, 3, 4, 5, 6] (by decide +kernel) rfl) hS ls (lv_sub hl [0, 1, 2, 3] rfl)
            · subst hz_64
              refine lv_istore_n (lv' := [(2, .int 0), (3, .int (nI i21)), (0, .ref d0), (1, .int 6)]) hx hb dX10_takeEither_43 rfl hl (by decide) rfl (fun ls hl => ?_)
              refine lv_aload_n hx hb dX10_takeEither_44 rfl (lv_at hl 2 rfl) ?_
              refine va_get (D := D) (ci := 10) (v := .ref f0) (C := RX10) (T := TX10) (N := 10) hx hb hg i_X10 hown hK hP 0 rfl rfl 3 (by decide) (hg _ m_258) (fun _ h9 => h9) rfl dX10_takeEither_45 ?_
              refine lv_bipush (v := 114) hx hb dX10_takeEither_48 (by decide) ?_
              refine x_callVv (q := (RX3, TX3, 4)) (ci := 3) (q0 := 0) (wr := [wO d0 10 [.ref t0, .ref d1, .ref h0, .ref f0, .int (nI ow2_44), .int wt, .int dt, .int vv, .int fq2_42, .int pq2_43], wO t0 9 [.ref t1, .ref t2, .int (nI tn), .int (nI ta2_37), .int (nI ts2_38), .int (nI tk2_39), .long tm2_40, .int tr2_41], wI (cy 0) t1 1600 (fby), (t2, .inl (cy 2, 24, .inr (.inl (fky)))), wO h0 4 [.ref h1, .ref h2, .ref h3, .ref h4, .ref h5, .ref h6, .ref h7, .ref h8, .ref h9, .ref h10, .ref h11, hv0, hv1, hv2, hv3, .int (nI un2_45)]]) (rest := []) ⟨hx, hb, hml, hown, hg, hl.1⟩ k_X10_182 (s_addDeed l D cy f0 f1 f2 nf2_46 y3 fco2_47 114 (by omega) (f_52) (by omega)) E0_blind hK hP hD hS hA [5, 6] [0, 1, 2, 3, 4] ⟨rfl, rfl, by decide +kernel, by decide +kernel, by decide +kernel⟩ rfl rfl (fun _ _ _ => trivial) dX10_takeEither_50 rfl rfl (Nat.le_of_ble_eq_true rfl) ⟨Nat.le_of_ble_eq_true rfl, Nat.le_of_ble_eq_true rfl⟩ ⟨Nat.le_of_ble_eq_true rfl, Nat.le_of_ble_eq_true rfl⟩ (fun zu70 H locs hw70 hP9 hD9 hS9 => ?_)
              clear hP hD hS
              obtain ⟨n2_71, fc2_72⟩ := zu70
              refine reW [wO d0 10 [.ref t0, .ref d1, .ref h0, .ref f0, .int (nI ow2_44), .int wt, .int dt, .int vv, .int fq2_42, .int pq2_43], wO t0 9 [.ref t1, .ref t2, .int (nI tn), .int (nI ta2_37), .int (nI ts2_38), .int (nI tk2_39), .long tm2_40, .int tr2_41], wI (cy 0) t1 1600 (fby), (t2, .inl (cy 2, 24, .inr (.inl (fky)))), wO h0 4 [.ref h1, .ref h2, .ref h3, .ref h4, .ref h5, .ref h6, .ref h7, .ref h8, .ref h9, .ref h10, .ref h11, hv0, hv1, hv2, hv3, .int (nI un2_45)], wO f0 3 [.ref f1, .ref f2, .int (nI n2_71), y3], wI (cy 1) f1 280 (fc2_72)] hP9 hD9 hS9 (fun hP hD hS => ?_)
              clear hP9 hD9 hS9
              refine W.widen (k := 0) (n := 0) (Nat.le_of_ble_eq_true rfl) (Nat.le_of_ble_eq_true rfl) ?_
              replace hw70 : (n2_71 ≤ 280) ∧ (cOK fc2_72 n2_71) := hw70
              obtain ⟨f_73, f_74⟩ := hw70
              refine lv_iinc (v := nI (i21 + 1)) (lv' := [(3, .int (nI (i21 + 1))), (2, .int 0), (0, .ref d0), (1, .int 6)]) hx hb dX10_takeEither_53 hl (k := 1) rfl (nI_add i21 1) (by decide) rfl (fun ls hl => ?_)
              refine lv_goto (tgt := 8) hx hb dX10_takeEither_56 (by decide) ?_
              exact ih21  0 ((i21 + 1)) ta2_37 ts2_38 tk2_39 tm2_40 tr2_41 ow2_44 fq2_42 pq2_43 un2_45 n2_71 ga2_48 fc2_72 f_74 (by omega) (by omega) (by omega) (by omega) (by omega) (by omega) (Or.inr ⟨rfl, inS_bad lvP12 hin9 hop.1 hop.2 a_62, a_63⟩) (by omega) _ _ (hP.sub [0, 1, 2, 3, 4, 5, 6] rfl) (hD.sub [0, 1, 2, 3, 4, 5, 6] (by decide +kernel) rfl) hS ls (lv_sub hl [0, 1, 2, 3] rfl)
      · subst hlb
        refine lv_iload_n hx hb dX10_takeEither_8 rfl (lv_at hl 0 rfl) ?_
        refine lv_sipush (v := 1600) hx hb dX10_takeEither_9 (by decide) ?_
        refine lv_icmp_ge (tgt := 59) hx hb dX10_takeEither_12 (by decide) (fun c_75 => ?_) (fun c_75 => ?_)
        · have q_76 : 1600 ≤ i21 := q_le (a := 1600) (b := i21) rfl rfl (by omega) (by omega) c_75
          refine lv_iload_n hx hb dX10_takeEither_59 rfl (lv_at hl 1 rfl) ?_
          exact x_zret hQ hx hb hr hlocks hK hP hD hS rfl dX10_takeEither_60 (aq21, sq21, kq21, fl5_21, rq21, fz21, pz21, oq21, uq21, nq21, fa13_21, gq21) (⟨(show aq21 ≤ tn from by omega), (show kq21 ≤ 123 from by omega), (show nq21 ≤ 280 from by omega), ha14_21, (show oq21 ≤ 30 from by omega), (show uq21 ≤ 60 from by omega), (show ((0 : Int32) = 1 ∧ (okS (knd fby tn) (fin fby tn) 1 6 ga ow un gq21 oq21 uq21) ∧ (fq = fz21) ∧ (pq = pz21) ∧ (tkC fby tn gq21 aq21 sq21 kq21 fl5_21 rq21) ∧ (ga < gq21 ∧ gq21 ≤ tn)) ∨ ((0 : Int32) = 0 ∧ (noS (knd fby tn) (fin fby tn) 1 6 ga ow un gq21) ∧ (flt fby tn gq21 2 fz21 pz21)) from Or.inr (⟨rfl, (hno9), (hfl9)⟩))⟩) [0, 1, 2, 3, 4, 5, 6] (by decide +kernel) rfl (Nat.le_of_ble_eq_true rfl) (Nat.le_of_ble_eq_true rfl)
        · have q_76 : i21 < 1600 := q_nle (a := 1600) (b := i21) rfl rfl (by omega) (by omega) c_75
          refine lv_iload_n hx hb dX10_takeEither_15 rfl (lv_at hl 1 rfl) ?_
          refine lv_if_eq (tgt := 59) hx hb dX10_takeEither_16 (by decide) (fun _ => ?_) (fun h => absurd (by decide) h)
          refine lv_iload_n hx hb dX10_takeEither_59 rfl (lv_at hl 1 rfl) ?_
          exact x_zret hQ hx hb hr hlocks hK hP hD hS rfl dX10_takeEither_60 (aq21, sq21, kq21, fl5_21, rq21, fz21, pz21, oq21, uq21, nq21, fa13_21, gq21) (⟨(show aq21 ≤ tn from by omega), (show kq21 ≤ 123 from by omega), (show nq21 ≤ 280 from by omega), ha14_21, (show oq21 ≤ 30 from by omega), (show uq21 ≤ 60 from by omega), (show ((0 : Int32) = 1 ∧ (okS (knd fby tn) (fin fby tn) 1 6 ga ow un gq21 oq21 uq21) ∧ (fq = fz21) ∧ (pq = pz21) ∧ (tkC fby tn gq21 aq21 sq21 kq21 fl5_21 rq21) ∧ (ga < gq21 ∧ gq21 ≤ tn)) ∨ ((0 : Int32) = 0 ∧ (noS (knd fby tn) (fin fby tn) 1 6 ga ow un gq21) ∧ (flt fby tn gq21 2 fz21 pz21)) from Or.inr (⟨rfl, (hno9), (hfl9)⟩))⟩) [0, 1, 2, 3, 4, 5, 6] (by decide +kernel) rfl (Nat.le_of_ble_eq_true rfl) (Nat.le_of_ble_eq_true rfl)
  exact loop21 _ zr1 0 ta2_2 ts2_3 tk2_4 tm2_5 tr2_6 ow2_9 fq2_7 pq2_8 un2_10 nf2_11 ga2_13 fco2_12 f_17 (by omega) (by omega) (by omega) (by omega) (by omega) (by omega) (by rcases f_20 with ⟨hx0, hxk, hxq, hxp, hxt, hxg⟩ | ⟨hx0, hxn, hxl⟩; exact Or.inl ⟨hx0, inS_0 lvP12 hxk, hxt, hxg.1, hxg.2, by omega, hxq, hxp⟩; exact Or.inr ⟨hx0, noS_0 lvP12 hxn, hxl⟩) (Nat.le_refl _) _ _ (hP.sub [0, 1, 2, 3, 4, 5, 6] rfl) (hD.sub [0, 1, 2, 3, 4, 5, 6] (by decide +kernel) rfl) hS ls (lv_sub hl [0, 1, 2, 3] rfl)
