def mL20a : List (Option Cond) := [some (Cond.selects RX10 yX10_take yX10_take), some (Cond.selects RX10 yX10_takeEither yX10_takeEither), some (Cond.selects RX10 yX10_takeBoth yX10_takeBoth), some (Cond.selects RX10 yX10_takeOne yX10_takeOne), some (Cond.selects RX10 yX10_takeNot yX10_takeNot), some (Cond.selects RX10 yX10_takeSum yX10_takeSum), some (Cond.selects RX10 yX10_takeTerm yX10_takeTerm), some (Cond.selects RX10 yX10_takeUnit yX10_takeUnit), some (Cond.selects RX10 yX10_takeInner yX10_takeInner), some (Cond.fieldLink RX10 34 "CliffJudges$Teller" "formula" "LCliffJudges$Formula;"), some (Cond.fieldLink RX10 163 "CliffJudges$Teller" "unitsHere" "I"), some (Cond.fieldLink RX10 204 "CliffJudges$Hills" "units" "I"), some (Cond.methodLink RX10 128 yX10_take), some (Cond.instanceMethod yX10_take), some (Cond.code yX10_take cX10_take 2 (some .boolean)), some (Cond.methodLink RX10 166 yX10_takeEither), some (Cond.instanceMethod yX10_takeEither), some (Cond.code yX10_takeEither cX10_takeEither 4 (some .boolean)), some (Cond.methodLink RX10 179 yX10_takeBoth), some (Cond.instanceMethod yX10_takeBoth), some (Cond.code yX10_takeBoth cX10_takeBoth 4 (some .boolean)), some (Cond.methodLink RX10 186 yX10_takeOne), some (Cond.instanceMethod yX10_takeOne), some (Cond.code yX10_takeOne cX10_takeOne 4 (some .boolean)), some (Cond.methodLink RX10 189 yX10_takeNot), some (Cond.instanceMethod yX10_takeNot), some (Cond.code yX10_takeNot cX10_takeNot 3 (some .boolean)), some (Cond.methodLink RX10 182 yX3_addDeed), some (Cond.instanceMethod yX3_addDeed), some (Cond.selects RX3 yX3_addDeed yX3_addDeed), some (Cond.code yX3_addDeed cX3_addDeed 2 none), some (Cond.methodLink RX10 192 yX10_takeSum), some (Cond.instanceMethod yX10_takeSum), some (Cond.code yX10_takeSum cX10_takeSum 5 (some .boolean)), some (Cond.methodLink RX10 195 yX10_takeTerm), some (Cond.instanceMethod yX10_takeTerm), some (Cond.code yX10_takeTerm cX10_takeTerm 5 (some .boolean)), some (Cond.methodLink RX10 198 yX10_takeUnit), some (Cond.instanceMethod yX10_takeUnit), some (Cond.code yX10_takeUnit cX10_takeUnit 3 (some .boolean)), some (Cond.methodLink RX10 207 yX10_takeInner), some (Cond.instanceMethod yX10_takeInner), some (Cond.code yX10_takeInner cX10_takeInner 2 (some .boolean)), some (Cond.methodLink RX10 210 yX10_factOf), some (Cond.static yX10_factOf), some (Cond.code yX10_factOf cX10_factOf 1 (some .int)), some (Cond.methodLink RX10 213 yX3_addFact), some (Cond.instanceMethod yX3_addFact), some (Cond.selects RX3 yX3_addFact yX3_addFact), some (Cond.code yX3_addFact cX3_addFact 2 none), some (Cond.methodLink RX10 216 yX3_addNumber), some (Cond.instanceMethod yX3_addNumber), some (Cond.selects RX3 yX3_addNumber yX3_addNumber), some (Cond.code yX3_addNumber cX3_addNumber 2 none), some (Cond.methodLink RX10 201 yX10_isOfTerm), some (Cond.static yX10_isOfTerm), some (Cond.code yX10_isOfTerm cX10_isOfTerm 1 (some .boolean))]
set_option maxRecDepth 100000 in
theorem mP20a : pick [12, 6, 1, 1, 1, 2, 1, 1, 1, 232, 1, 123, 457, 2, 1, 21, 2, 1, 1, 2, 1, 1, 2, 1, 1, 2, 1, 1, 1, 1, 1, 5, 2, 1, 1, 2, 1, 1, 2, 1, 1, 2, 1, 1, 1, 1, 1, 1, 1, 1, 1, 1, 1, 1, 1, 1, 1] lw_tbl = mL20a := rfl
set_option maxRecDepth 100000 in
theorem mG20a : mL20a.all (fun o => o.all goodWord) = true := rfl
theorem m_12 : (Cond.selects RX10 yX10_take yX10_take) ∈ gT := gp mP20a mG20a 0 rfl
theorem m_18 : (Cond.selects RX10 yX10_takeEither yX10_takeEither) ∈ gT := gp mP20a mG20a 1 rfl
theorem m_19 : (Cond.selects RX10 yX10_takeBoth yX10_takeBoth) ∈ gT := gp mP20a mG20a 2 rfl
theorem m_20 : (Cond.selects RX10 yX10_takeOne yX10_takeOne) ∈ gT := gp mP20a mG20a 3 rfl
theorem m_21 : (Cond.selects RX10 yX10_takeNot yX10_takeNot) ∈ gT := gp mP20a mG20a 4 rfl
theorem m_23 : (Cond.selects RX10 yX10_takeSum yX10_takeSum) ∈ gT := gp mP20a mG20a 5 rfl
theorem m_24 : (Cond.selects RX10 yX10_takeTerm yX10_takeTerm) ∈ gT := gp mP20a mG20a 6 rfl
theorem m_25 : (Cond.selects RX10 yX10_takeUnit yX10_takeUnit) ∈ gT := gp mP20a mG20a 7 rfl
theorem m_26 : (Cond.selects RX10 yX10_takeInner yX10_takeInner) ∈ gT := gp mP20a mG20a 8 rfl
theorem m_258 : (Cond.fieldLink RX10 34 "CliffJudges$Teller" "formula" "LCliffJudges$Formula;") ∈ gT := gp mP20a mG20a 9 rfl
theorem m_259 : (Cond.fieldLink RX10 163 "CliffJudges$Teller" "unitsHere" "I") ∈ gT := gp mP20a mG20a 10 rfl
theorem m_382 : (Cond.fieldLink RX10 204 "CliffJudges$Hills" "units" "I") ∈ gT := gp mP20a mG20a 11 rfl
theorem m_839 : (Cond.methodLink RX10 128 yX10_take) ∈ gT := gp mP20a mG20a 12 rfl
theorem m_841 : (Cond.instanceMethod yX10_take) ∈ gT := gp mP20a mG20a 13 rfl
theorem m_842 : (Cond.code yX10_take cX10_take 2 (some .boolean)) ∈ gT := gp mP20a mG20a 14 rfl
theorem m_863 : (Cond.methodLink RX10 166 yX10_takeEither) ∈ gT := gp mP20a mG20a 15 rfl
theorem m_865 : (Cond.instanceMethod yX10_takeEither) ∈ gT := gp mP20a mG20a 16 rfl
theorem m_866 : (Cond.code yX10_takeEither cX10_takeEither 4 (some .boolean)) ∈ gT := gp mP20a mG20a 17 rfl
theorem m_867 : (Cond.methodLink RX10 179 yX10_takeBoth) ∈ gT := gp mP20a mG20a 18 rfl
theorem m_869 : (Cond.instanceMethod yX10_takeBoth) ∈ gT := gp mP20a mG20a 19 rfl
theorem m_870 : (Cond.code yX10_takeBoth cX10_takeBoth 4 (some .boolean)) ∈ gT := gp mP20a mG20a 20 rfl
theorem m_871 : (Cond.methodLink RX10 186 yX10_takeOne) ∈ gT := gp mP20a mG20a 21 rfl
theorem m_873 : (Cond.instanceMethod yX10_takeOne) ∈ gT := gp mP20a mG20a 22 rfl
theorem m_874 : (Cond.code yX10_takeOne cX10_takeOne 4 (some .boolean)) ∈ gT := gp mP20a mG20a 23 rfl
theorem m_875 : (Cond.methodLink RX10 189 yX10_takeNot) ∈ gT := gp mP20a mG20a 24 rfl
theorem m_877 : (Cond.instanceMethod yX10_takeNot) ∈ gT := gp mP20a mG20a 25 rfl
theorem m_878 : (Cond.code yX10_takeNot cX10_takeNot 3 (some .boolean)) ∈ gT := gp mP20a mG20a 26 rfl
theorem m_879 : (Cond.methodLink RX10 182 yX3_addDeed) ∈ gT := gp mP20a mG20a 27 rfl
theorem m_880 : (Cond.instanceMethod yX3_addDeed) ∈ gT := gp mP20a mG20a 28 rfl
theorem m_881 : (Cond.selects RX3 yX3_addDeed yX3_addDeed) ∈ gT := gp mP20a mG20a 29 rfl
theorem m_882 : (Cond.code yX3_addDeed cX3_addDeed 2 none) ∈ gT := gp mP20a mG20a 30 rfl
theorem m_887 : (Cond.methodLink RX10 192 yX10_takeSum) ∈ gT := gp mP20a mG20a 31 rfl
theorem m_889 : (Cond.instanceMethod yX10_takeSum) ∈ gT := gp mP20a mG20a 32 rfl
theorem m_890 : (Cond.code yX10_takeSum cX10_takeSum 5 (some .boolean)) ∈ gT := gp mP20a mG20a 33 rfl
theorem m_891 : (Cond.methodLink RX10 195 yX10_takeTerm) ∈ gT := gp mP20a mG20a 34 rfl
theorem m_893 : (Cond.instanceMethod yX10_takeTerm) ∈ gT := gp mP20a mG20a 35 rfl
theorem m_894 : (Cond.code yX10_takeTerm cX10_takeTerm 5 (some .boolean)) ∈ gT := gp mP20a mG20a 36 rfl
theorem m_895 : (Cond.methodLink RX10 198 yX10_takeUnit) ∈ gT := gp mP20a mG20a 37 rfl
theorem m_897 : (Cond.instanceMethod yX10_takeUnit) ∈ gT := gp mP20a mG20a 38 rfl
theorem m_898 : (Cond.code yX10_takeUnit cX10_takeUnit 3 (some .boolean)) ∈ gT := gp mP20a mG20a 39 rfl
theorem m_899 : (Cond.methodLink RX10 207 yX10_takeInner) ∈ gT := gp mP20a mG20a 40 rfl
theorem m_901 : (Cond.instanceMethod yX10_takeInner) ∈ gT := gp mP20a mG20a 41 rfl
theorem m_902 : (Cond.code yX10_takeInner cX10_takeInner 2 (some .boolean)) ∈ gT := gp mP20a mG20a 42 rfl
theorem m_903 : (Cond.methodLink RX10 210 yX10_factOf) ∈ gT := gp mP20a mG20a 43 rfl
theorem m_904 : (Cond.static yX10_factOf) ∈ gT := gp mP20a mG20a 44 rfl
theorem m_905 : (Cond.code yX10_factOf cX10_factOf 1 (some .int)) ∈ gT := gp mP20a mG20a 45 rfl
theorem m_906 : (Cond.methodLink RX10 213 yX3_addFact) ∈ gT := gp mP20a mG20a 46 rfl
theorem m_907 : (Cond.instanceMethod yX3_addFact) ∈ gT := gp mP20a mG20a 47 rfl
theorem m_908 : (Cond.selects RX3 yX3_addFact yX3_addFact) ∈ gT := gp mP20a mG20a 48 rfl
theorem m_909 : (Cond.code yX3_addFact cX3_addFact 2 none) ∈ gT := gp mP20a mG20a 49 rfl
theorem m_910 : (Cond.methodLink RX10 216 yX3_addNumber) ∈ gT := gp mP20a mG20a 50 rfl
theorem m_911 : (Cond.instanceMethod yX3_addNumber) ∈ gT := gp mP20a mG20a 51 rfl
theorem m_912 : (Cond.selects RX3 yX3_addNumber yX3_addNumber) ∈ gT := gp mP20a mG20a 52 rfl
theorem m_913 : (Cond.code yX3_addNumber cX3_addNumber 2 none) ∈ gT := gp mP20a mG20a 53 rfl
theorem m_914 : (Cond.methodLink RX10 201 yX10_isOfTerm) ∈ gT := gp mP20a mG20a 54 rfl
theorem m_915 : (Cond.static yX10_isOfTerm) ∈ gT := gp mP20a mG20a 55 rfl
theorem m_916 : (Cond.code yX10_isOfTerm cX10_isOfTerm 1 (some .boolean)) ∈ gT := gp mP20a mG20a 56 rfl
theorem sg_ne1 {k : Nat} (h : ¬ k = 114) : ¬ sgM k = 0 → ¬ tgt (sgM k) = 1 := by
  intro h0; rcases sgM_cases k with h9 | h9 | h9 | h9 | h9 | h9
  · exact absurd h9 h0
  all_goals omega
theorem sg_ne2 {k : Nat} (h : ¬ k = 115) : ¬ sgM k = 0 → ¬ tgt (sgM k) = 2 := by
  intro h0; rcases sgM_cases k with h9 | h9 | h9 | h9 | h9 | h9
  · exact absurd h9 h0
  all_goals omega
theorem sg_ne5 {k : Nat} (h : ¬ (k = 43 ∨ k = 45)) : ¬ sgM k = 0 → ¬ tgt (sgM k) = 5 := by
  intro h0; rcases sgM_cases k with h9 | h9 | h9 | h9 | h9 | h9
  · exact absurd h9 h0
  all_goals omega
theorem sg_ne6 {k : Nat} (h : ¬ (k = 42 ∨ k = 47 ∨ k = 37)) : ¬ sgM k = 0 → ¬ tgt (sgM k) = 6 := by
  intro h0; rcases sgM_cases k with h9 | h9 | h9 | h9 | h9 | h9
  · exact absurd h9 h0
  all_goals omega
theorem sg_ne4 {k : Nat} (h : ¬ (k = 60 ∨ k = 62 ∨ k = 61)) : ¬ (¬ sgM k = 0 ∧ tgt (sgM k) = 4) := by
  intro h0; rcases sgM_cases k with h9 | h9 | h9 | h9 | h9 | h9
  · exact absurd h9 h0.1
  all_goals omega
theorem sg_1 {k : Nat} (h : k = 114) : ¬ sgM k = 0 ∧ tgt (sgM k) = 1 := by subst h; decide
theorem sg_2 {k : Nat} (h : k = 115) : ¬ sgM k = 0 ∧ tgt (sgM k) = 2 := by subst h; decide
theorem sg_5 {k : Nat} (h : k = 43 ∨ k = 45) : ¬ sgM k = 0 ∧ tgt (sgM k) = 5 := by rcases h with h | h <;> subst h <;> decide
theorem sg_6 {k : Nat} (h : k = 42 ∨ k = 47 ∨ k = 37) : ¬ sgM k = 0 ∧ tgt (sgM k) = 6 := by rcases h with h | h | h <;> subst h <;> decide
theorem sg_4 {k : Nat} (h : k = 60 ∨ k = 62 ∨ k = 61) : ¬ sgM k = 0 ∧ tgt (sgM k) = 4 := by rcases h with h | h | h <;> subst h <;> decide
theorem lvP67 : lvP 6 7 := Or.inl ⟨rfl, rfl⟩
theorem lvP56 : lvP 5 6 := Or.inr (Or.inl ⟨rfl, rfl⟩)
theorem lvP24 : lvP 2 4 := Or.inr (Or.inr (Or.inl ⟨rfl, rfl⟩))
theorem lvP12 : lvP 1 2 := Or.inr (Or.inr (Or.inr ⟨rfl, rfl⟩))
theorem gdX10_isOfTerm_0 : decode cX10_isOfTerm 0 = .ok (.iload_n 0, 1) ∧ decode cX10_isOfTerm 1 = .ok (.bipush 42, 2) ∧ decode cX10_isOfTerm 3 = .ok (.if_icmp .eq 15, 3) ∧ decode cX10_isOfTerm 18 = .ok (.iconst 1, 1) ∧ decode cX10_isOfTerm 19 = .ok (.goto 4, 3) ∧ decode cX10_isOfTerm 23 = .ok (.ireturn, 1) ∧ decode cX10_isOfTerm 6 = .ok (.iload_n 0, 1) ∧ decode cX10_isOfTerm 7 = .ok (.bipush 47, 2) ∧ decode cX10_isOfTerm 9 = .ok (.if_icmp .eq 9, 3) ∧ decode cX10_isOfTerm 12 = .ok (.iload_n 0, 1) ∧ decode cX10_isOfTerm 13 = .ok (.bipush 37, 2) ∧ decode cX10_isOfTerm 15 = .ok (.if_icmp .ne 7, 3) := by decide +kernel
theorem dX10_isOfTerm_0 : decode cX10_isOfTerm 0 = .ok (.iload_n 0, 1) := gdX10_isOfTerm_0.1
theorem dX10_isOfTerm_1 : decode cX10_isOfTerm 1 = .ok (.bipush 42, 2) := gdX10_isOfTerm_0.2.1
theorem dX10_isOfTerm_3 : decode cX10_isOfTerm 3 = .ok (.if_icmp .eq 15, 3) := gdX10_isOfTerm_0.2.2.1
theorem dX10_isOfTerm_18 : decode cX10_isOfTerm 18 = .ok (.iconst 1, 1) := gdX10_isOfTerm_0.2.2.2.1
theorem dX10_isOfTerm_19 : decode cX10_isOfTerm 19 = .ok (.goto 4, 3) := gdX10_isOfTerm_0.2.2.2.2.1
theorem dX10_isOfTerm_23 : decode cX10_isOfTerm 23 = .ok (.ireturn, 1) := gdX10_isOfTerm_0.2.2.2.2.2.1
theorem dX10_isOfTerm_6 : decode cX10_isOfTerm 6 = .ok (.iload_n 0, 1) := gdX10_isOfTerm_0.2.2.2.2.2.2.1
theorem dX10_isOfTerm_7 : decode cX10_isOfTerm 7 = .ok (.bipush 47, 2) := gdX10_isOfTerm_0.2.2.2.2.2.2.2.1
theorem dX10_isOfTerm_9 : decode cX10_isOfTerm 9 = .ok (.if_icmp .eq 9, 3) := gdX10_isOfTerm_0.2.2.2.2.2.2.2.2.1
theorem dX10_isOfTerm_12 : decode cX10_isOfTerm 12 = .ok (.iload_n 0, 1) := gdX10_isOfTerm_0.2.2.2.2.2.2.2.2.2.1
theorem dX10_isOfTerm_13 : decode cX10_isOfTerm 13 = .ok (.bipush 37, 2) := gdX10_isOfTerm_0.2.2.2.2.2.2.2.2.2.2.1
theorem dX10_isOfTerm_15 : decode cX10_isOfTerm 15 = .ok (.if_icmp .ne 7, 3) := gdX10_isOfTerm_0.2.2.2.2.2.2.2.2.2.2.2
theorem dX10_isOfTerm_22 : decode cX10_isOfTerm 22 = .ok (.iconst 0, 1) := by decide +kernel
set_option maxHeartbeats 1000000 in
set_option maxRecDepth 100000 in
theorem s_isOfTerm (l : Launch) (D : va_G) (cy : Nat → ClassId) (kd : Nat) (hkd : kd ≤ 123) : XMi l D (tyL cy) E0 yX10_isOfTerm cX10_isOfTerm 1 (some .boolean) (rmk 0 0 0) [.int (nI kd)] [] (fun (r : Int32) (_ : Unit) => ((r = 1 ∧ (kd = 42 ∨ kd = 47 ∨ kd = 37)) ∨ (r = 0 ∧ (¬ (kd = 42 ∨ kd = 47 ∨ kd = 37))))) (fun (_ : Unit) => []) := by
  refine XMi.start (by decide) (Nat.le_of_ble_eq_true rfl) ?_
  intro p e s m below meth c args A ls Q hat hQ
  obtain ⟨hx, hb, hr, hml, hown, hg, hlocks, hin, hK, hA, hP, hD, hS, hE, hl⟩ := hat
  have hown : s.vm.findClass RX10 = some m.cls := hown
  have hl : lv_has ls 1 [(0, .int (nI kd))] := hl
  refine lv_iload_n hx hb dX10_isOfTerm_0 rfl (lv_at hl 0 rfl) ?_
  refine lv_bipush (v := 42) hx hb dX10_isOfTerm_1 (by decide) ?_
  refine lv_icmp_eq (tgt := 18) hx hb dX10_isOfTerm_3 (by decide) (fun c_1 => ?_) (fun c_1 => ?_)
  · have q_2 : kd = 42 := q_eq (a := kd) (b := 42) rfl rfl (by omega) (by omega) c_1
    refine lv_iconst (v := 1) hx hb dX10_isOfTerm_18 (by decide) ?_
    refine lv_goto (tgt := 23) hx hb dX10_isOfTerm_19 (by decide) ?_
    exact x_zret hQ hx hb hr hlocks hK hP hD hS rfl dX10_isOfTerm_23 () ((show ((1 : Int32) = 1 ∧ (kd = 42 ∨ kd = 47 ∨ kd = 37)) ∨ ((1 : Int32) = 0 ∧ (¬ (kd = 42 ∨ kd = 47 ∨ kd = 37))) from Or.inl ⟨rfl, (by omega)⟩)) [] (by decide +kernel) rfl (Nat.le_of_ble_eq_true rfl) (Nat.le_of_ble_eq_true rfl)
  · have q_2 : ¬ kd = 42 := q_ne (a := kd) (b := 42) rfl rfl (by omega) (by omega) c_1
    refine lv_iload_n hx hb dX10_isOfTerm_6 rfl (lv_at hl 0 rfl) ?_
    refine lv_bipush (v := 47) hx hb dX10_isOfTerm_7 (by decide) ?_
    refine lv_icmp_eq (tgt := 18) hx hb dX10_isOfTerm_9 (by decide) (fun c_3 => ?_) (fun c_3 => ?_)
    · have q_4 : kd = 47 := q_eq (a := kd) (b := 47) rfl rfl (by omega) (by omega) c_3
      refine lv_iconst (v := 1) hx hb dX10_isOfTerm_18 (by decide) ?_
      refine lv_goto (tgt := 23) hx hb dX10_isOfTerm_19 (by decide) ?_
      exact x_zret hQ hx hb hr hlocks hK hP hD hS rfl dX10_isOfTerm_23 () ((show ((1 : Int32) = 1 ∧ (kd = 42 ∨ kd = 47 ∨ kd = 37)) ∨ ((1 : Int32) = 0 ∧ (¬ (kd = 42 ∨ kd = 47 ∨ kd = 37))) from Or.inl ⟨rfl, (by omega)⟩)) [] (by decide +kernel) rfl (Nat.le_of_ble_eq_true rfl) (Nat.le_of_ble_eq_true rfl)
    · have q_4 : ¬ kd = 47 := q_ne (a := kd) (b := 47) rfl rfl (by omega) (by omega) c_3
      refine lv_iload_n hx hb dX10_isOfTerm_12 rfl (lv_at hl 0 rfl) ?_
      refine lv_bipush (v := 37) hx hb dX10_isOfTerm_13 (by decide) ?_
      refine lv_icmp_ne (tgt := 22) hx hb dX10_isOfTerm_15 (by decide) (fun c_5 => ?_) (fun c_5 => ?_)
      · have q_6 : ¬ kd = 37 := q_ne (a := kd) (b := 37) rfl rfl (by omega) (by omega) c_5
        refine lv_iconst (v := 0) hx hb dX10_isOfTerm_22 (by decide) ?_
        exact x_zret hQ hx hb hr hlocks hK hP hD hS rfl dX10_isOfTerm_23 () ((show ((0 : Int32) = 1 ∧ (kd = 42 ∨ kd = 47 ∨ kd = 37)) ∨ ((0 : Int32) = 0 ∧ (¬ (kd = 42 ∨ kd = 47 ∨ kd = 37))) from Or.inr (⟨rfl, (by omega)⟩))) [] (by decide +kernel) rfl (Nat.le_of_ble_eq_true rfl) (Nat.le_of_ble_eq_true rfl)
      · have q_6 : kd = 37 := q_eq (a := kd) (b := 37) rfl rfl (by omega) (by omega) c_5
        refine lv_iconst (v := 1) hx hb dX10_isOfTerm_18 (by decide) ?_
        refine lv_goto (tgt := 23) hx hb dX10_isOfTerm_19 (by decide) ?_
        exact x_zret hQ hx hb hr hlocks hK hP hD hS rfl dX10_isOfTerm_23 () ((show ((1 : Int32) = 1 ∧ (kd = 42 ∨ kd = 47 ∨ kd = 37)) ∨ ((1 : Int32) = 0 ∧ (¬ (kd = 42 ∨ kd = 47 ∨ kd = 37))) from Or.inl ⟨rfl, (by omega)⟩)) [] (by decide +kernel) rfl (Nat.le_of_ble_eq_true rfl) (Nat.le_of_ble_eq_true rfl)
theorem gdX10_factOf_0 : decode cX10_factOf 0 = .ok (.iload_n 0, 1) ∧ decode cX10_factOf 1 = .ok (.tableswitch 58 117 123 #[43, 45, 47, 49, 51, 53, 55], 43) ∧ decode cX10_factOf 59 = .ok (.iconst (-1), 1) ∧ decode cX10_factOf 60 = .ok (.ireturn, 1) ∧ decode cX10_factOf 44 = .ok (.iconst 0, 1) ∧ decode cX10_factOf 45 = .ok (.ireturn, 1) ∧ decode cX10_factOf 46 = .ok (.iconst 1, 1) ∧ decode cX10_factOf 47 = .ok (.ireturn, 1) ∧ decode cX10_factOf 48 = .ok (.iconst 2, 1) ∧ decode cX10_factOf 49 = .ok (.ireturn, 1) ∧ decode cX10_factOf 50 = .ok (.iconst 3, 1) ∧ decode cX10_factOf 51 = .ok (.ireturn, 1) := by decide +kernel
theorem dX10_factOf_0 : decode cX10_factOf 0 = .ok (.iload_n 0, 1) := gdX10_factOf_0.1
theorem dX10_factOf_1 : decode cX10_factOf 1 = .ok (.tableswitch 58 117 123 #[43, 45, 47, 49, 51, 53, 55], 43) := gdX10_factOf_0.2.1
theorem dX10_factOf_59 : decode cX10_factOf 59 = .ok (.iconst (-1), 1) := gdX10_factOf_0.2.2.1
theorem dX10_factOf_60 : decode cX10_factOf 60 = .ok (.ireturn, 1) := gdX10_factOf_0.2.2.2.1
theorem dX10_factOf_44 : decode cX10_factOf 44 = .ok (.iconst 0, 1) := gdX10_factOf_0.2.2.2.2.1
theorem dX10_factOf_45 : decode cX10_factOf 45 = .ok (.ireturn, 1) := gdX10_factOf_0.2.2.2.2.2.1
theorem dX10_factOf_46 : decode cX10_factOf 46 = .ok (.iconst 1, 1) := gdX10_factOf_0.2.2.2.2.2.2.1
theorem dX10_factOf_47 : decode cX10_factOf 47 = .ok (.ireturn, 1) := gdX10_factOf_0.2.2.2.2.2.2.2.1
theorem dX10_factOf_48 : decode cX10_factOf 48 = .ok (.iconst 2, 1) := gdX10_factOf_0.2.2.2.2.2.2.2.2.1
theorem dX10_factOf_49 : decode cX10_factOf 49 = .ok (.ireturn, 1) := gdX10_factOf_0.2.2.2.2.2.2.2.2.2.1
theorem dX10_factOf_50 : decode cX10_factOf 50 = .ok (.iconst 3, 1) := gdX10_factOf_0.2.2.2.2.2.2.2.2.2.2.1
theorem dX10_factOf_51 : decode cX10_factOf 51 = .ok (.ireturn, 1) := gdX10_factOf_0.2.2.2.2.2.2.2.2.2.2.2
theorem gdX10_factOf_52 : decode cX10_factOf 52 = .ok (.iconst 4, 1) ∧ decode cX10_factOf 53 = .ok (.ireturn, 1) ∧ decode cX10_factOf 54 = .ok (.iconst 5, 1) ∧ decode cX10_factOf 55 = .ok (.ireturn, 1) ∧ decode cX10_factOf 56 = .ok (.bipush 6, 2) ∧ decode cX10_factOf 58 = .ok (.ireturn, 1) := by decide +kernel
theorem dX10_factOf_52 : decode cX10_factOf 52 = .ok (.iconst 4, 1) := gdX10_factOf_52.1
theorem dX10_factOf_53 : decode cX10_factOf 53 = .ok (.ireturn, 1) := gdX10_factOf_52.2.1
theorem dX10_factOf_54 : decode cX10_factOf 54 = .ok (.iconst 5, 1) := gdX10_factOf_52.2.2.1
theorem dX10_factOf_55 : decode cX10_factOf 55 = .ok (.ireturn, 1) := gdX10_factOf_52.2.2.2.1
theorem dX10_factOf_56 : decode cX10_factOf 56 = .ok (.bipush 6, 2) := gdX10_factOf_52.2.2.2.2.1
theorem dX10_factOf_58 : decode cX10_factOf 58 = .ok (.ireturn, 1) := gdX10_factOf_52.2.2.2.2.2
set_option maxHeartbeats 1000000 in
set_option maxRecDepth 100000 in
theorem s_factOf (l : Launch) (D : va_G) (cy : Nat → ClassId) (kd : Nat) (hkd : kd ≤ 123) : XMi l D (tyL cy) E0 yX10_factOf cX10_factOf 1 (some .int) (rmk 0 0 0) [.int (nI kd)] [] (fun (r : Int32) (jr : Nat) => ((r = nI jr ∧ (jr ≤ 6) ∧ (kd = 117 + jr)) ∨ (r = -1 ∧ (¬ 117 ≤ kd)))) (fun (jr : Nat) => []) := by
  refine XMi.start (by decide) (Nat.le_of_ble_eq_true rfl) ?_
  intro p e s m below meth c args A ls Q hat hQ
  obtain ⟨hx, hb, hr, hml, hown, hg, hlocks, hin, hK, hA, hP, hD, hS, hE, hl⟩ := hat
  have hown : s.vm.findClass RX10 = some m.cls := hown
  have hl : lv_has ls 1 [(0, .int (nI kd))] := hl
  refine lv_iload_n hx hb dX10_factOf_0 rfl (lv_at hl 0 rfl) ?_
  rcases (show (kd < 117 ∨ 123 < kd) ∨ kd = 117 ∨ kd = 118 ∨ kd = 119 ∨ kd = 120 ∨ kd = 121 ∨ kd = 122 ∨ kd = 123 by omega) with hs | hs | hs | hs | hs | hs | hs | hs
  · refine lv_tableOut (tgt := 59) hx hb dX10_factOf_1 (by rw [nI_toInt (by omega)]; omega) (by decide) ?_
    refine lv_iconst (v := -1) hx hb dX10_factOf_59 (by decide) ?_
    exact x_iret hQ hx hb hr hlocks hK hP hD hS dX10_factOf_60 0 ((show ((-1 : Int32) = nI 0 ∧ (0 ≤ 6) ∧ (kd = 117 + 0)) ∨ ((-1 : Int32) = -1 ∧ (¬ 117 ≤ kd)) from Or.inr (⟨rfl, (by omega)⟩))) [] (by decide +kernel) rfl (Nat.le_of_ble_eq_true rfl) (Nat.le_of_ble_eq_true rfl)
  · have hz9 : (nI kd).toInt = 117 := by rw [nI_toInt (by omega)]; omega
    refine lv_tableIn (off := 43) (tgt := 44) hx hb dX10_factOf_1 (by rw [hz9]; decide) (by rw [hz9]; decide) (by rw [hz9]; decide) (by decide) ?_
    refine lv_iconst (v := 0) hx hb dX10_factOf_44 (by decide) ?_
    exact x_iret hQ hx hb hr hlocks hK hP hD hS dX10_factOf_45 0 ((show ((0 : Int32) = nI 0 ∧ (0 ≤ 6) ∧ (kd = 117 + 0)) ∨ ((0 : Int32) = -1 ∧ (¬ 117 ≤ kd)) from Or.inl ⟨rfl, (by decide), (by omega)⟩)) [] (by decide +kernel) rfl (Nat.le_of_ble_eq_true rfl) (Nat.le_of_ble_eq_true rfl)
  · have hz9 : (nI kd).toInt = 118 := by rw [nI_toInt (by omega)]; omega
    refine lv_tableIn (off := 45) (tgt := 46) hx hb dX10_factOf_1 (by rw [hz9]; decide) (by rw [hz9]; decide) (by rw [hz9]; decide) (by decide) ?_
    refine lv_iconst (v := 1) hx hb dX10_factOf_46 (by decide) ?_
    exact x_iret hQ hx hb hr hlocks hK hP hD hS dX10_factOf_47 1 ((show ((1 : Int32) = nI 1 ∧ (1 ≤ 6) ∧ (kd = 117 + 1)) ∨ ((1 : Int32) = -1 ∧ (¬ 117 ≤ kd)) from Or.inl ⟨rfl, (by decide), (by omega)⟩)) [] (by decide +kernel) rfl (Nat.le_of_ble_eq_true rfl) (Nat.le_of_ble_eq_true rfl)
  · have hz9 : (nI kd).toInt = 119 := by rw [nI_toInt (by omega)]; omega
    refine lv_tableIn (off := 47) (tgt := 48) hx hb dX10_factOf_1 (by rw [hz9]; decide) (by rw [hz9]; decide) (by rw [hz9]; decide) (by decide) ?_
    refine lv_iconst (v := 2) hx hb dX10_factOf_48 (by decide) ?_
    exact x_iret hQ hx hb hr hlocks hK hP hD hS dX10_factOf_49 2 ((show ((2 : Int32) = nI 2 ∧ (2 ≤ 6) ∧ (kd = 117 + 2)) ∨ ((2 : Int32) = -1 ∧ (¬ 117 ≤ kd)) from Or.inl ⟨rfl, (by decide), (by omega)⟩)) [] (by decide +kernel) rfl (Nat.le_of_ble_eq_true rfl) (Nat.le_of_ble_eq_true rfl)
  · have hz9 : (nI kd).toInt = 120 := by rw [nI_toInt (by omega)]; omega
    refine lv_tableIn (off := 49) (tgt := 50) hx hb dX10_factOf_1 (by rw [hz9]; decide) (by rw [hz9]; decide) (by rw [hz9]; decide) (by decide) ?_
    refine lv_iconst (v := 3) hx hb dX10_factOf_50 (by decide) ?_
    exact x_iret hQ hx hb hr hlocks hK hP hD hS dX10_factOf_51 3 ((show ((3 : Int32) = nI 3 ∧ (3 ≤ 6) ∧ (kd = 117 + 3)) ∨ ((3 : Int32) = -1 ∧ (¬ 117 ≤ kd)) from Or.inl ⟨rfl, (by decide), (by omega)⟩)) [] (by decide +kernel) rfl (Nat.le_of_ble_eq_true rfl) (Nat.le_of_ble_eq_true rfl)
  · have hz9 : (nI kd).toInt = 121 := by rw [nI_toInt (by omega)]; omega
    refine lv_tableIn (off := 51) (tgt := 52) hx hb dX10_factOf_1 (by rw [hz9]; decide) (by rw [hz9]; decide) (by rw [hz9]; decide) (by decide) ?_
    refine lv_iconst (v := 4) hx hb dX10_factOf_52 (by decide) ?_
    exact x_iret hQ hx hb hr hlocks hK hP hD hS dX10_factOf_53 4 ((show ((4 : Int32) = nI 4 ∧ (4 ≤ 6) ∧ (kd = 117 + 4)) ∨ ((4 : Int32) = -1 ∧ (¬ 117 ≤ kd)) from Or.inl ⟨rfl, (by decide), (by omega)⟩)) [] (by decide +kernel) rfl (Nat.le_of_ble_eq_true rfl) (Nat.le_of_ble_eq_true rfl)
  · have hz9 : (nI kd).toInt = 122 := by rw [nI_toInt (by omega)]; omega
    refine lv_tableIn (off := 53) (tgt := 54) hx hb dX10_factOf_1 (by rw [hz9]; decide) (by rw [hz9]; decide) (by rw [hz9]; decide) (by decide) ?_
    refine lv_iconst (v := 5) hx hb dX10_factOf_54 (by decide) ?_
    exact x_iret hQ hx hb hr hlocks hK hP hD hS dX10_factOf_55 5 ((show ((5 : Int32) = nI 5 ∧ (5 ≤ 6) ∧ (kd = 117 + 5)) ∨ ((5 : Int32) = -1 ∧ (¬ 117 ≤ kd)) from Or.inl ⟨rfl, (by decide), (by omega)⟩)) [] (by decide +kernel) rfl (Nat.le_of_ble_eq_true rfl) (Nat.le_of_ble_eq_true rfl)
  · have hz9 : (nI kd).toInt = 123 := by rw [nI_toInt (by omega)]; omega
    refine lv_tableIn (off := 55) (tgt := 56) hx hb dX10_factOf_1 (by rw [hz9]; decide) (by rw [hz9]; decide) (by rw [hz9]; decide) (by decide) ?_
    refine lv_bipush (v := 6) hx hb dX10_factOf_56 (by decide) ?_
    exact x_iret hQ hx hb hr hlocks hK hP hD hS dX10_factOf_58 6 ((show ((6 : Int32) = nI 6 ∧ (6 ≤ 6) ∧ (kd = 117 + 6)) ∨ ((6 : Int32) = -1 ∧ (¬ 117 ≤ kd)) from Or.inl ⟨rfl, (by decide), (by omega)⟩)) [] (by decide +kernel) rfl (Nat.le_of_ble_eq_true rfl) (Nat.le_of_ble_eq_true rfl)
theorem gdX10_takeInner_0 : decode cX10_takeInner 0 = .ok (.iload_n 1, 1) ∧ decode cX10_takeInner 1 = .ok (.bipush 7, 2) ∧ decode cX10_takeInner 3 = .ok (.if_icmp .lt 9, 3) ∧ decode cX10_takeInner 6 = .ok (.aload_n 0, 1) ∧ decode cX10_takeInner 7 = .ok (.iconst 2, 1) ∧ decode cX10_takeInner 8 = .ok (.invokevirtual 110, 3) ∧ decode cX10_takeInner 11 = .ok (.ireturn, 1) := by decide +kernel
theorem dX10_takeInner_0 : decode cX10_takeInner 0 = .ok (.iload_n 1, 1) := gdX10_takeInner_0.1
theorem dX10_takeInner_1 : decode cX10_takeInner 1 = .ok (.bipush 7, 2) := gdX10_takeInner_0.2.1
theorem dX10_takeInner_3 : decode cX10_takeInner 3 = .ok (.if_icmp .lt 9, 3) := gdX10_takeInner_0.2.2.1
theorem dX10_takeInner_6 : decode cX10_takeInner 6 = .ok (.aload_n 0, 1) := gdX10_takeInner_0.2.2.2.1
theorem dX10_takeInner_7 : decode cX10_takeInner 7 = .ok (.iconst 2, 1) := gdX10_takeInner_0.2.2.2.2.1
theorem dX10_takeInner_8 : decode cX10_takeInner 8 = .ok (.invokevirtual 110, 3) := gdX10_takeInner_0.2.2.2.2.2.1
theorem dX10_takeInner_11 : decode cX10_takeInner 11 = .ok (.ireturn, 1) := gdX10_takeInner_0.2.2.2.2.2.2
set_option maxHeartbeats 1000000 in
set_option maxRecDepth 100000 in
theorem s_takeInner7 (l : Launch) (D : va_G) (cy : Nat → ClassId) (adK : Nat → Nat) (adV : Nat → Nat) (d0 : Nat) (d1 : Nat) (wt : Int32) (dt : Int32) (vv : Int32) (fq : Int32) (pq : Int32) (t0 : Nat) (t1 : Nat) (t2 : Nat) (tn : Nat) (ta : Nat) (ts : Nat) (tk : Nat) (tm : Int64) (tr : Int32) (fby : Nat → Int32) (fky : Nat → Int64) (h0 : Nat) (h1 : Nat) (h2 : Nat) (h3 : Nat) (h4 : Nat) (h5 : Nat) (h6 : Nat) (h7 : Nat) (h8 : Nat) (h9 : Nat) (h10 : Nat) (h11 : Nat) (hv0 : Value) (hv1 : Value) (hv2 : Value) (hv3 : Value) (ow : Nat) (un : Nat) (f0 : Nat) (f1 : Nat) (f2 : Nat) (nf : Nat) (y3 : Value) (fco : Nat → Int32) (ga : Nat) (htn : tn ≤ 1600) (hta : ta ≤ tn) (htk : tk ≤ 123) (hti : tkC fby tn ga ta ts tk tm tr) (hky : kyOK fky) (hnf : nf ≤ 280) (hfc : cOK fco nf) (how : ow ≤ 30) (hun : un ≤ 60) (hga : ga ≤ tn) (h40 : tk = 40) (hrm : nf + 60 ≤ 280 + 2 * ow) : XMi l D (tyL cy) (EV adK adV) yX10_takeInner cX10_takeInner 2 (some .boolean) (rmk 1 0 0) [.ref d0, .int 7] [wO d0 10 [.ref t0, .ref d1, .ref h0, .ref f0, .int (nI ow), .int wt, .int dt, .int vv, .int fq, .int pq], wO t0 9 [.ref t1, .ref t2, .int (nI tn), .int (nI ta), .int (nI ts), .int (nI tk), .long tm, .int tr], wI (cy 0) t1 1600 (fby), (t2, .inl (cy 2, 24, .inr (.inl (fky)))), wO h0 4 [.ref h1, .ref h2, .ref h3, .ref h4, .ref h5, .ref h6, .ref h7, .ref h8, .ref h9, .ref h10, .ref h11, hv0, hv1, hv2, hv3, .int (nI un)], wO f0 3 [.ref f1, .ref f2, .int (nI nf), y3], wI (cy 1) f1 280 (fco)] (fun (r : Int32) (u : Nat × Nat × Nat × Int64 × Int32 × Int32 × Int32 × Nat × Nat × Nat × (Nat → Int32) × Nat × (List Int32)) => (u.1 ≤ tn) ∧ (u.2.2.1 ≤ 123) ∧ (u.2.2.2.2.2.2.2.2.2.1 ≤ 280) ∧ (cOK u.2.2.2.2.2.2.2.2.2.2.1 u.2.2.2.2.2.2.2.2.2.1) ∧ (u.2.2.2.2.2.2.2.1 ≤ 30) ∧ (u.2.2.2.2.2.2.2.2.1 ≤ 60) ∧ ((r = 1 ∧ (∀ o9 u9 : Nat, ow = o9 + 1 → un = u9 + 1 → ¬ (u9 = 60 ∨ o9 = 30) → okS (knd fby tn) (fin fby tn) (cdF fby tn) 7 7 ga o9 u9 u.2.2.2.2.2.2.2.2.2.2.2.1 u.2.2.2.2.2.2.2.1 u.2.2.2.2.2.2.2.2.1 u.2.2.2.2.2.2.2.2.2.2.2.2) ∧ (fq = u.2.2.2.2.2.1) ∧ (pq = u.2.2.2.2.2.2.1) ∧ (tkC fby tn u.2.2.2.2.2.2.2.2.2.2.2.1 u.1 u.2.1 u.2.2.1 u.2.2.2.1 u.2.2.2.2.1) ∧ (ga < u.2.2.2.2.2.2.2.2.2.2.2.1 ∧ u.2.2.2.2.2.2.2.2.2.2.2.1 ≤ tn) ∧ (exC fco nf u.2.2.2.2.2.2.2.2.2.2.1 u.2.2.2.2.2.2.2.2.2.1 u.2.2.2.2.2.2.2.2.2.2.2.2) ∧ (u.2.2.2.2.2.2.2.2.2.1 + 1 * ow + 1 ≤ nf + 1 * u.2.2.2.2.2.2.2.1 ∧ ow < u.2.2.2.2.2.2.2.1)) ∨ (r = 0 ∧ (∀ o9 u9 : Nat, ow = o9 + 1 → un = u9 + 1 → ¬ (u9 = 60 ∨ o9 = 30) → noS (knd fby tn) (fin fby tn) 7 7 ga o9 u9 u.2.2.2.2.2.2.2.2.2.2.2.1) ∧ (flt fby tn u.2.2.2.2.2.2.2.2.2.2.2.1 2 u.2.2.2.2.2.1 u.2.2.2.2.2.2.1)))) (fun (u : Nat × Nat × Nat × Int64 × Int32 × Int32 × Int32 × Nat × Nat × Nat × (Nat → Int32) × Nat × (List Int32)) => [wO d0 10 [.ref t0, .ref d1, .ref h0, .ref f0, .int (nI u.2.2.2.2.2.2.2.1), .int wt, .int dt, .int vv, .int u.2.2.2.2.2.1, .int u.2.2.2.2.2.2.1], wO t0 9 [.ref t1, .ref t2, .int (nI tn), .int (nI u.1), .int (nI u.2.1), .int (nI u.2.2.1), .long u.2.2.2.1, .int u.2.2.2.2.1], wI (cy 0) t1 1600 (fby), (t2, .inl (cy 2, 24, .inr (.inl (fky)))), wO h0 4 [.ref h1, .ref h2, .ref h3, .ref h4, .ref h5, .ref h6, .ref h7, .ref h8, .ref h9, .ref h10, .ref h11, hv0, hv1, hv2, hv3, .int (nI u.2.2.2.2.2.2.2.2.1)], wO f0 3 [.ref f1, .ref f2, .int (nI u.2.2.2.2.2.2.2.2.2.1), y3], wI (cy 1) f1 280 (u.2.2.2.2.2.2.2.2.2.2.1)]) := by
  refine XMi.start (by decide) (Nat.le_of_ble_eq_true rfl) ?_
  intro p e s m below meth c args A ls Q hat hQ
  obtain ⟨hx, hb, hr, hml, hown, hg, hlocks, hin, hK, hA, hP, hD, hS, hE, hl⟩ := hat
  have hown : s.vm.findClass RX10 = some m.cls := hown
  have hl : lv_has ls 2 [(0, .ref d0), (1, .int 7)] := hl
  have hk40 : knd fby tn ga = 40 := by have h9 := hti.2.2.1; omega
  refine lv_iload_n hx hb dX10_takeInner_0 rfl (lv_at hl 1 rfl) ?_
  refine lv_bipush (v := 7) hx hb dX10_takeInner_1 (by decide) ?_
  refine lv_icmp_lt (tgt := 12) hx hb dX10_takeInner_3 (by decide) (fun h => absurd h (by decide)) (fun _ => ?_)
  refine lv_aload_n hx hb dX10_takeInner_6 rfl (lv_at hl 0 rfl) ?_
  refine lv_iconst (v := 2) hx hb dX10_takeInner_7 (by decide) ?_
  refine x_callVi (q := (RX10, TX10, 10)) (ci := 10) (q0 := 0) (wr := [wI (cy 0) t1 1600 (fby), (t2, .inl (cy 2, 24, .inr (.inl (fky)))), wO h0 4 [.ref h1, .ref h2, .ref h3, .ref h4, .ref h5, .ref h6, .ref h7, .ref h8, .ref h9, .ref h10, .ref h11, hv0, hv1, hv2, hv3, .int (nI un)], wO f0 3 [.ref f1, .ref f2, .int (nI nf), y3], wI (cy 1) f1 280 (fco)]) (rest := []) ⟨hx, hb, hml, hown, hg, hl.1⟩ k_X10_110 (s_fail l D cy d0 d1 (nI ow) wt dt vv fq pq ((.ref h0)) ((.ref f0)) t0 t1 t2 tn ta ts tk tm tr 2 (by omega)) E0_blind hK hP hD hS hA [0, 1] [2, 3, 4, 5, 6] ⟨rfl, rfl, by decide +kernel, by decide +kernel, by decide +kernel⟩ rfl rfl (fun _ _ _ => trivial) dX10_takeInner_8 rfl rfl (Nat.le_of_ble_eq_true rfl) ⟨Nat.le_of_ble_eq_true rfl, Nat.le_of_ble_eq_true rfl⟩ ⟨Nat.le_of_ble_eq_true rfl, Nat.le_of_ble_eq_true rfl⟩ (fun zr1 zu1 H locs hw1 hP9 hD9 hS9 => ?_)
  clear hP hD hS
  obtain ⟨fq2_2, pq2_3⟩ := zu1
  refine reW [wI (cy 0) t1 1600 (fby), (t2, .inl (cy 2, 24, .inr (.inl (fky)))), wO h0 4 [.ref h1, .ref h2, .ref h3, .ref h4, .ref h5, .ref h6, .ref h7, .ref h8, .ref h9, .ref h10, .ref h11, hv0, hv1, hv2, hv3, .int (nI un)], wO f0 3 [.ref f1, .ref f2, .int (nI nf), y3], wI (cy 1) f1 280 (fco), wO d0 10 [.ref t0, .ref d1, .ref h0, .ref f0, .int (nI ow), .int wt, .int dt, .int vv, .int fq2_2, .int pq2_3], wO t0 9 [.ref t1, .ref t2, .int (nI tn), .int (nI ta), .int (nI ts), .int (nI tk), .long tm, .int tr]] hP9 hD9 hS9 (fun hP hD hS => ?_)
  clear hP9 hD9 hS9
  refine W.widen (k := 0) (n := 0) (Nat.le_of_ble_eq_true rfl) (Nat.le_of_ble_eq_true rfl) ?_
  replace hw1 : ((zr1 = 0 ∧ (fq2_2 = nI (if tk = 3 then 1 else 2)) ∧ (pq2_3 = nI ts))) := hw1
  have f_4 := hw1
  rcases f_4 with ⟨hz_7, a_5, a_6⟩
  subst hz_7
  exact x_zret hQ hx hb hr hlocks hK hP hD hS rfl dX10_takeInner_11 (ta, ts, tk, tm, tr, fq2_2, pq2_3, ow, un, nf, fco, ga, []) (⟨(show ta ≤ tn from by omega), (show tk ≤ 123 from by omega), (show nf ≤ 280 from by omega), hfc, (show ow ≤ 30 from by omega), (show un ≤ 60 from by omega), (show ((0 : Int32) = 1 ∧ (∀ o9 u9 : Nat, ow = o9 + 1 → un = u9 + 1 → ¬ (u9 = 60 ∨ o9 = 30) → okS (knd fby tn) (fin fby tn) (cdF fby tn) 7 7 ga o9 u9 ga ow un ([])) ∧ (fq = fq2_2) ∧ (pq = pq2_3) ∧ (tkC fby tn ga ta ts tk tm tr) ∧ (ga < ga ∧ ga ≤ tn) ∧ (exC fco nf fco nf ([])) ∧ (nf + 1 * ow + 1 ≤ nf + 1 * ow ∧ ow < ow)) ∨ ((0 : Int32) = 0 ∧ (∀ o9 u9 : Nat, ow = o9 + 1 → un = u9 + 1 → ¬ (u9 = 60 ∨ o9 = 30) → noS (knd fby tn) (fin fby tn) 7 7 ga o9 u9 ga) ∧ (flt fby tn ga 2 fq2_2 pq2_3)) from Or.inr (⟨rfl, (fun o9 u9 e1 e2 hf9 => by subst e1 e2; exact unit_deep hk40 (by decide)), (flt_of hti a_5 a_6)⟩))⟩) [5, 6, 0, 1, 2, 3, 4] (by decide +kernel) rfl (Nat.le_of_ble_eq_true rfl) (Nat.le_of_ble_eq_true rfl)
theorem gdX10_takeUnit_0 : decode cX10_takeUnit 0 = .ok (.aload_n 0, 1) ∧ decode cX10_takeUnit 1 = .ok (.getfield 163, 3) ∧ decode cX10_takeUnit 4 = .ok (.bipush 30, 2) ∧ decode cX10_takeUnit 6 = .ok (.if_icmp .ge 15, 3) ∧ decode cX10_takeUnit 21 = .ok (.aload_n 0, 1) ∧ decode cX10_takeUnit 22 = .ok (.iconst 2, 1) ∧ decode cX10_takeUnit 23 = .ok (.invokevirtual 110, 3) ∧ decode cX10_takeUnit 26 = .ok (.ireturn, 1) ∧ decode cX10_takeUnit 9 = .ok (.aload_n 0, 1) ∧ decode cX10_takeUnit 10 = .ok (.getfield 24, 3) ∧ decode cX10_takeUnit 13 = .ok (.getfield 204, 3) ∧ decode cX10_takeUnit 16 = .ok (.bipush 60, 2) := by decide +kernel
theorem dX10_takeUnit_0 : decode cX10_takeUnit 0 = .ok (.aload_n 0, 1) := gdX10_takeUnit_0.1
theorem dX10_takeUnit_1 : decode cX10_takeUnit 1 = .ok (.getfield 163, 3) := gdX10_takeUnit_0.2.1
theorem dX10_takeUnit_4 : decode cX10_takeUnit 4 = .ok (.bipush 30, 2) := gdX10_takeUnit_0.2.2.1
theorem dX10_takeUnit_6 : decode cX10_takeUnit 6 = .ok (.if_icmp .ge 15, 3) := gdX10_takeUnit_0.2.2.2.1
theorem dX10_takeUnit_21 : decode cX10_takeUnit 21 = .ok (.aload_n 0, 1) := gdX10_takeUnit_0.2.2.2.2.1
theorem dX10_takeUnit_22 : decode cX10_takeUnit 22 = .ok (.iconst 2, 1) := gdX10_takeUnit_0.2.2.2.2.2.1
theorem dX10_takeUnit_23 : decode cX10_takeUnit 23 = .ok (.invokevirtual 110, 3) := gdX10_takeUnit_0.2.2.2.2.2.2.1
theorem dX10_takeUnit_26 : decode cX10_takeUnit 26 = .ok (.ireturn, 1) := gdX10_takeUnit_0.2.2.2.2.2.2.2.1
theorem dX10_takeUnit_9 : decode cX10_takeUnit 9 = .ok (.aload_n 0, 1) := gdX10_takeUnit_0.2.2.2.2.2.2.2.2.1
theorem dX10_takeUnit_10 : decode cX10_takeUnit 10 = .ok (.getfield 24, 3) := gdX10_takeUnit_0.2.2.2.2.2.2.2.2.2.1
theorem dX10_takeUnit_13 : decode cX10_takeUnit 13 = .ok (.getfield 204, 3) := gdX10_takeUnit_0.2.2.2.2.2.2.2.2.2.2.1
theorem dX10_takeUnit_16 : decode cX10_takeUnit 16 = .ok (.bipush 60, 2) := gdX10_takeUnit_0.2.2.2.2.2.2.2.2.2.2.2
theorem gdX10_takeUnit_18 : decode cX10_takeUnit 18 = .ok (.if_icmp .lt 9, 3) ∧ decode cX10_takeUnit 27 = .ok (.aload_n 0, 1) ∧ decode cX10_takeUnit 28 = .ok (.dup, 1) ∧ decode cX10_takeUnit 29 = .ok (.getfield 163, 3) ∧ decode cX10_takeUnit 32 = .ok (.iconst 1, 1) ∧ decode cX10_takeUnit 33 = .ok (.iadd, 1) ∧ decode cX10_takeUnit 34 = .ok (.putfield 163, 3) ∧ decode cX10_takeUnit 37 = .ok (.aload_n 0, 1) ∧ decode cX10_takeUnit 38 = .ok (.getfield 24, 3) ∧ decode cX10_takeUnit 41 = .ok (.dup, 1) ∧ decode cX10_takeUnit 42 = .ok (.getfield 204, 3) ∧ decode cX10_takeUnit 45 = .ok (.iconst 1, 1) := by decide +kernel
theorem dX10_takeUnit_18 : decode cX10_takeUnit 18 = .ok (.if_icmp .lt 9, 3) := gdX10_takeUnit_18.1
theorem dX10_takeUnit_27 : decode cX10_takeUnit 27 = .ok (.aload_n 0, 1) := gdX10_takeUnit_18.2.1
theorem dX10_takeUnit_28 : decode cX10_takeUnit 28 = .ok (.dup, 1) := gdX10_takeUnit_18.2.2.1
theorem dX10_takeUnit_29 : decode cX10_takeUnit 29 = .ok (.getfield 163, 3) := gdX10_takeUnit_18.2.2.2.1
theorem dX10_takeUnit_32 : decode cX10_takeUnit 32 = .ok (.iconst 1, 1) := gdX10_takeUnit_18.2.2.2.2.1
theorem dX10_takeUnit_33 : decode cX10_takeUnit 33 = .ok (.iadd, 1) := gdX10_takeUnit_18.2.2.2.2.2.1
theorem dX10_takeUnit_34 : decode cX10_takeUnit 34 = .ok (.putfield 163, 3) := gdX10_takeUnit_18.2.2.2.2.2.2.1
theorem dX10_takeUnit_37 : decode cX10_takeUnit 37 = .ok (.aload_n 0, 1) := gdX10_takeUnit_18.2.2.2.2.2.2.2.1
theorem dX10_takeUnit_38 : decode cX10_takeUnit 38 = .ok (.getfield 24, 3) := gdX10_takeUnit_18.2.2.2.2.2.2.2.2.1
theorem dX10_takeUnit_41 : decode cX10_takeUnit 41 = .ok (.dup, 1) := gdX10_takeUnit_18.2.2.2.2.2.2.2.2.2.1
theorem dX10_takeUnit_42 : decode cX10_takeUnit 42 = .ok (.getfield 204, 3) := gdX10_takeUnit_18.2.2.2.2.2.2.2.2.2.2.1
theorem dX10_takeUnit_45 : decode cX10_takeUnit 45 = .ok (.iconst 1, 1) := gdX10_takeUnit_18.2.2.2.2.2.2.2.2.2.2.2
theorem gdX10_takeUnit_46 : decode cX10_takeUnit 46 = .ok (.iadd, 1) ∧ decode cX10_takeUnit 47 = .ok (.putfield 204, 3) ∧ decode cX10_takeUnit 50 = .ok (.aload_n 0, 1) ∧ decode cX10_takeUnit 51 = .ok (.getfield 16, 3) ∧ decode cX10_takeUnit 54 = .ok (.getfield 55, 3) ∧ decode cX10_takeUnit 57 = .ok (.bipush 40, 2) ∧ decode cX10_takeUnit 59 = .ok (.if_icmp .ne 9, 3) ∧ decode cX10_takeUnit 68 = .ok (.aload_n 0, 1) ∧ decode cX10_takeUnit 69 = .ok (.getfield 16, 3) ∧ decode cX10_takeUnit 72 = .ok (.getfield 55, 3) ∧ decode cX10_takeUnit 75 = .ok (.invokestatic 210, 3) := by decide +kernel
theorem dX10_takeUnit_46 : decode cX10_takeUnit 46 = .ok (.iadd, 1) := gdX10_takeUnit_46.1
theorem dX10_takeUnit_47 : decode cX10_takeUnit 47 = .ok (.putfield 204, 3) := gdX10_takeUnit_46.2.1
theorem dX10_takeUnit_50 : decode cX10_takeUnit 50 = .ok (.aload_n 0, 1) := gdX10_takeUnit_46.2.2.1
theorem dX10_takeUnit_51 : decode cX10_takeUnit 51 = .ok (.getfield 16, 3) := gdX10_takeUnit_46.2.2.2.1
theorem dX10_takeUnit_54 : decode cX10_takeUnit 54 = .ok (.getfield 55, 3) := gdX10_takeUnit_46.2.2.2.2.1
theorem dX10_takeUnit_57 : decode cX10_takeUnit 57 = .ok (.bipush 40, 2) := gdX10_takeUnit_46.2.2.2.2.2.1
theorem dX10_takeUnit_59 : decode cX10_takeUnit 59 = .ok (.if_icmp .ne 9, 3) := gdX10_takeUnit_46.2.2.2.2.2.2.1
theorem dX10_takeUnit_68 : decode cX10_takeUnit 68 = .ok (.aload_n 0, 1) := gdX10_takeUnit_46.2.2.2.2.2.2.2.1
theorem dX10_takeUnit_69 : decode cX10_takeUnit 69 = .ok (.getfield 16, 3) := gdX10_takeUnit_46.2.2.2.2.2.2.2.2.1
theorem dX10_takeUnit_72 : decode cX10_takeUnit 72 = .ok (.getfield 55, 3) := gdX10_takeUnit_46.2.2.2.2.2.2.2.2.2.1
theorem dX10_takeUnit_75 : decode cX10_takeUnit 75 = .ok (.invokestatic 210, 3) := gdX10_takeUnit_46.2.2.2.2.2.2.2.2.2.2
theorem k_X10_210 : xS RX10 210 yX10_factOf cX10_factOf 1 (some .int) 1 := ⟨⟨m_903, m_904, m_136, m_905⟩, by decide, by decide, by decide +kernel⟩
theorem gdX10_takeUnit_78 : decode cX10_takeUnit 78 = .ok (.istore_n 2, 1) ∧ decode cX10_takeUnit 79 = .ok (.iload_n 2, 1) ∧ decode cX10_takeUnit 80 = .ok (.iconst (-1), 1) ∧ decode cX10_takeUnit 81 = .ok (.if_icmp .eq 14, 3) ∧ decode cX10_takeUnit 84 = .ok (.aload_n 0, 1) ∧ decode cX10_takeUnit 85 = .ok (.getfield 34, 3) ∧ decode cX10_takeUnit 88 = .ok (.iload_n 2, 1) ∧ decode cX10_takeUnit 89 = .ok (.invokevirtual 213, 3) := by decide +kernel
theorem dX10_takeUnit_78 : decode cX10_takeUnit 78 = .ok (.istore_n 2, 1) := gdX10_takeUnit_78.1
theorem dX10_takeUnit_79 : decode cX10_takeUnit 79 = .ok (.iload_n 2, 1) := gdX10_takeUnit_78.2.1
theorem dX10_takeUnit_80 : decode cX10_takeUnit 80 = .ok (.iconst (-1), 1) := gdX10_takeUnit_78.2.2.1
theorem dX10_takeUnit_81 : decode cX10_takeUnit 81 = .ok (.if_icmp .eq 14, 3) := gdX10_takeUnit_78.2.2.2.1
theorem dX10_takeUnit_84 : decode cX10_takeUnit 84 = .ok (.aload_n 0, 1) := gdX10_takeUnit_78.2.2.2.2.1
theorem dX10_takeUnit_85 : decode cX10_takeUnit 85 = .ok (.getfield 34, 3) := gdX10_takeUnit_78.2.2.2.2.2.1
theorem dX10_takeUnit_88 : decode cX10_takeUnit 88 = .ok (.iload_n 2, 1) := gdX10_takeUnit_78.2.2.2.2.2.2.1
theorem dX10_takeUnit_89 : decode cX10_takeUnit 89 = .ok (.invokevirtual 213, 3) := gdX10_takeUnit_78.2.2.2.2.2.2.2
theorem k_X10_213 : xV RX10 RX3 213 yX3_addFact cX3_addFact 2 none 1 := ⟨⟨m_906, m_907, m_908, m_138, m_909⟩, rfl, by decide, by decide, by decide +kernel⟩
theorem gdX10_takeUnit_92 : decode cX10_takeUnit 92 = .ok (.goto 37, 3) ∧ decode cX10_takeUnit 129 = .ok (.aload_n 0, 1) ∧ decode cX10_takeUnit 130 = .ok (.getfield 16, 3) ∧ decode cX10_takeUnit 133 = .ok (.invokevirtual 140, 3) ∧ decode cX10_takeUnit 136 = .ok (.iconst 1, 1) ∧ decode cX10_takeUnit 137 = .ok (.ireturn, 1) ∧ decode cX10_takeUnit 95 = .ok (.aload_n 0, 1) ∧ decode cX10_takeUnit 96 = .ok (.getfield 16, 3) ∧ decode cX10_takeUnit 99 = .ok (.getfield 55, 3) ∧ decode cX10_takeUnit 102 = .ok (.iconst 2, 1) ∧ decode cX10_takeUnit 103 = .ok (.if_icmp .ne 20, 3) ∧ decode cX10_takeUnit 123 = .ok (.aload_n 0, 1) := by decide +kernel
theorem dX10_takeUnit_92 : decode cX10_takeUnit 92 = .ok (.goto 37, 3) := gdX10_takeUnit_92.1
theorem dX10_takeUnit_129 : decode cX10_takeUnit 129 = .ok (.aload_n 0, 1) := gdX10_takeUnit_92.2.1
theorem dX10_takeUnit_130 : decode cX10_takeUnit 130 = .ok (.getfield 16, 3) := gdX10_takeUnit_92.2.2.1
theorem dX10_takeUnit_133 : decode cX10_takeUnit 133 = .ok (.invokevirtual 140, 3) := gdX10_takeUnit_92.2.2.2.1
theorem dX10_takeUnit_136 : decode cX10_takeUnit 136 = .ok (.iconst 1, 1) := gdX10_takeUnit_92.2.2.2.2.1
theorem dX10_takeUnit_137 : decode cX10_takeUnit 137 = .ok (.ireturn, 1) := gdX10_takeUnit_92.2.2.2.2.2.1
theorem dX10_takeUnit_95 : decode cX10_takeUnit 95 = .ok (.aload_n 0, 1) := gdX10_takeUnit_92.2.2.2.2.2.2.1
theorem dX10_takeUnit_96 : decode cX10_takeUnit 96 = .ok (.getfield 16, 3) := gdX10_takeUnit_92.2.2.2.2.2.2.2.1
theorem dX10_takeUnit_99 : decode cX10_takeUnit 99 = .ok (.getfield 55, 3) := gdX10_takeUnit_92.2.2.2.2.2.2.2.2.1
theorem dX10_takeUnit_102 : decode cX10_takeUnit 102 = .ok (.iconst 2, 1) := gdX10_takeUnit_92.2.2.2.2.2.2.2.2.2.1
theorem dX10_takeUnit_103 : decode cX10_takeUnit 103 = .ok (.if_icmp .ne 20, 3) := gdX10_takeUnit_92.2.2.2.2.2.2.2.2.2.2.1
theorem dX10_takeUnit_123 : decode cX10_takeUnit 123 = .ok (.aload_n 0, 1) := gdX10_takeUnit_92.2.2.2.2.2.2.2.2.2.2.2
theorem gdX10_takeUnit_124 : decode cX10_takeUnit 124 = .ok (.iconst 2, 1) ∧ decode cX10_takeUnit 125 = .ok (.invokevirtual 110, 3) ∧ decode cX10_takeUnit 128 = .ok (.ireturn, 1) ∧ decode cX10_takeUnit 106 = .ok (.aload_n 0, 1) ∧ decode cX10_takeUnit 107 = .ok (.getfield 34, 3) ∧ decode cX10_takeUnit 110 = .ok (.aload_n 0, 1) ∧ decode cX10_takeUnit 111 = .ok (.getfield 16, 3) ∧ decode cX10_takeUnit 114 = .ok (.getfield 176, 3) ∧ decode cX10_takeUnit 117 = .ok (.invokevirtual 216, 3) := by decide +kernel
theorem dX10_takeUnit_124 : decode cX10_takeUnit 124 = .ok (.iconst 2, 1) := gdX10_takeUnit_124.1
theorem dX10_takeUnit_125 : decode cX10_takeUnit 125 = .ok (.invokevirtual 110, 3) := gdX10_takeUnit_124.2.1
theorem dX10_takeUnit_128 : decode cX10_takeUnit 128 = .ok (.ireturn, 1) := gdX10_takeUnit_124.2.2.1
theorem dX10_takeUnit_106 : decode cX10_takeUnit 106 = .ok (.aload_n 0, 1) := gdX10_takeUnit_124.2.2.2.1
theorem dX10_takeUnit_107 : decode cX10_takeUnit 107 = .ok (.getfield 34, 3) := gdX10_takeUnit_124.2.2.2.2.1
theorem dX10_takeUnit_110 : decode cX10_takeUnit 110 = .ok (.aload_n 0, 1) := gdX10_takeUnit_124.2.2.2.2.2.1
theorem dX10_takeUnit_111 : decode cX10_takeUnit 111 = .ok (.getfield 16, 3) := gdX10_takeUnit_124.2.2.2.2.2.2.1
theorem dX10_takeUnit_114 : decode cX10_takeUnit 114 = .ok (.getfield 176, 3) := gdX10_takeUnit_124.2.2.2.2.2.2.2.1
theorem dX10_takeUnit_117 : decode cX10_takeUnit 117 = .ok (.invokevirtual 216, 3) := gdX10_takeUnit_124.2.2.2.2.2.2.2.2
theorem k_X10_216 : xV RX10 RX3 216 yX3_addNumber cX3_addNumber 2 none 1 := ⟨⟨m_910, m_911, m_912, m_138, m_913⟩, rfl, by decide, by decide, by decide +kernel⟩
theorem gdX10_takeUnit_120 : decode cX10_takeUnit 120 = .ok (.goto 9, 3) ∧ decode cX10_takeUnit 62 = .ok (.aload_n 0, 1) ∧ decode cX10_takeUnit 63 = .ok (.iload_n 1, 1) ∧ decode cX10_takeUnit 64 = .ok (.invokevirtual 207, 3) := by decide +kernel
theorem dX10_takeUnit_120 : decode cX10_takeUnit 120 = .ok (.goto 9, 3) := gdX10_takeUnit_120.1
theorem dX10_takeUnit_62 : decode cX10_takeUnit 62 = .ok (.aload_n 0, 1) := gdX10_takeUnit_120.2.1
theorem dX10_takeUnit_63 : decode cX10_takeUnit 63 = .ok (.iload_n 1, 1) := gdX10_takeUnit_120.2.2.1
theorem dX10_takeUnit_64 : decode cX10_takeUnit 64 = .ok (.invokevirtual 207, 3) := gdX10_takeUnit_120.2.2.2
theorem k_X10_207 : xV RX10 RX10 207 yX10_takeInner cX10_takeInner 2 (some .boolean) 1 := ⟨⟨m_899, m_901, m_26, m_136, m_902⟩, rfl, by decide, by decide, by decide +kernel⟩
theorem dX10_takeUnit_67 : decode cX10_takeUnit 67 = .ok (.ireturn, 1) := by decide +kernel
set_option maxHeartbeats 1000000 in
set_option maxRecDepth 100000 in
theorem s_takeUnit7 (l : Launch) (D : va_G) (cy : Nat → ClassId) (adK : Nat → Nat) (adV : Nat → Nat) (d0 : Nat) (d1 : Nat) (wt : Int32) (dt : Int32) (vv : Int32) (fq : Int32) (pq : Int32) (t0 : Nat) (t1 : Nat) (t2 : Nat) (tn : Nat) (ta : Nat) (ts : Nat) (tk : Nat) (tm : Int64) (tr : Int32) (fby : Nat → Int32) (fky : Nat → Int64) (h0 : Nat) (h1 : Nat) (h2 : Nat) (h3 : Nat) (h4 : Nat) (h5 : Nat) (h6 : Nat) (h7 : Nat) (h8 : Nat) (h9 : Nat) (h10 : Nat) (h11 : Nat) (hv0 : Value) (hv1 : Value) (hv2 : Value) (hv3 : Value) (ow : Nat) (un : Nat) (f0 : Nat) (f1 : Nat) (f2 : Nat) (nf : Nat) (y3 : Value) (fco : Nat → Int32) (ga : Nat) (htn : tn ≤ 1600) (hta : ta ≤ tn) (htk : tk ≤ 123) (hti : tkC fby tn ga ta ts tk tm tr) (hky : kyOK fky) (hnf : nf ≤ 280) (hfc : cOK fco nf) (how : ow ≤ 30) (hun : un ≤ 60) (hga : ga ≤ tn) (hrm : nf + 60 ≤ 280 + 2 * ow) : XMi l D (tyL cy) (EV adK adV) yX10_takeUnit cX10_takeUnit 3 (some .boolean) (rmk 7 0 0) [.ref d0, .int 7] [wO d0 10 [.ref t0, .ref d1, .ref h0, .ref f0, .int (nI ow), .int wt, .int dt, .int vv, .int fq, .int pq], wO t0 9 [.ref t1, .ref t2, .int (nI tn), .int (nI ta), .int (nI ts), .int (nI tk), .long tm, .int tr], wI (cy 0) t1 1600 (fby), (t2, .inl (cy 2, 24, .inr (.inl (fky)))), wO h0 4 [.ref h1, .ref h2, .ref h3, .ref h4, .ref h5, .ref h6, .ref h7, .ref h8, .ref h9, .ref h10, .ref h11, hv0, hv1, hv2, hv3, .int (nI un)], wO f0 3 [.ref f1, .ref f2, .int (nI nf), y3], wI (cy 1) f1 280 (fco)] (fun (r : Int32) (u : Nat × Nat × Nat × Int64 × Int32 × Int32 × Int32 × Nat × Nat × Nat × (Nat → Int32) × Nat × (List Int32)) => (u.1 ≤ tn) ∧ (u.2.2.1 ≤ 123) ∧ (u.2.2.2.2.2.2.2.2.2.1 ≤ 280) ∧ (cOK u.2.2.2.2.2.2.2.2.2.2.1 u.2.2.2.2.2.2.2.2.2.1) ∧ (u.2.2.2.2.2.2.2.1 ≤ 30) ∧ (u.2.2.2.2.2.2.2.2.1 ≤ 60) ∧ ((r = 1 ∧ (okS (knd fby tn) (fin fby tn) (cdF fby tn) 7 7 ga ow un u.2.2.2.2.2.2.2.2.2.2.2.1 u.2.2.2.2.2.2.2.1 u.2.2.2.2.2.2.2.2.1 u.2.2.2.2.2.2.2.2.2.2.2.2) ∧ (fq = u.2.2.2.2.2.1) ∧ (pq = u.2.2.2.2.2.2.1) ∧ (tkC fby tn u.2.2.2.2.2.2.2.2.2.2.2.1 u.1 u.2.1 u.2.2.1 u.2.2.2.1 u.2.2.2.2.1) ∧ (ga < u.2.2.2.2.2.2.2.2.2.2.2.1 ∧ u.2.2.2.2.2.2.2.2.2.2.2.1 ≤ tn) ∧ (exC fco nf u.2.2.2.2.2.2.2.2.2.2.1 u.2.2.2.2.2.2.2.2.2.1 u.2.2.2.2.2.2.2.2.2.2.2.2) ∧ (u.2.2.2.2.2.2.2.2.2.1 + 2 * ow + 1 ≤ nf + 2 * u.2.2.2.2.2.2.2.1 ∧ ow < u.2.2.2.2.2.2.2.1)) ∨ (r = 0 ∧ (noS (knd fby tn) (fin fby tn) 7 7 ga ow un u.2.2.2.2.2.2.2.2.2.2.2.1) ∧ (flt fby tn u.2.2.2.2.2.2.2.2.2.2.2.1 2 u.2.2.2.2.2.1 u.2.2.2.2.2.2.1)))) (fun (u : Nat × Nat × Nat × Int64 × Int32 × Int32 × Int32 × Nat × Nat × Nat × (Nat → Int32) × Nat × (List Int32)) => [wO d0 10 [.ref t0, .ref d1, .ref h0, .ref f0, .int (nI u.2.2.2.2.2.2.2.1), .int wt, .int dt, .int vv, .int u.2.2.2.2.2.1, .int u.2.2.2.2.2.2.1], wO t0 9 [.ref t1, .ref t2, .int (nI tn), .int (nI u.1), .int (nI u.2.1), .int (nI u.2.2.1), .long u.2.2.2.1, .int u.2.2.2.2.1], wI (cy 0) t1 1600 (fby), (t2, .inl (cy 2, 24, .inr (.inl (fky)))), wO h0 4 [.ref h1, .ref h2, .ref h3, .ref h4, .ref h5, .ref h6, .ref h7, .ref h8, .ref h9, .ref h10, .ref h11, hv0, hv1, hv2, hv3, .int (nI u.2.2.2.2.2.2.2.2.1)], wO f0 3 [.ref f1, .ref f2, .int (nI u.2.2.2.2.2.2.2.2.2.1), y3], wI (cy 1) f1 280 (u.2.2.2.2.2.2.2.2.2.2.1)]) := by
  refine XMi.start (by decide) (Nat.le_of_ble_eq_true rfl) ?_
  intro p e s m below meth c args A ls Q hat hQ
  obtain ⟨hx, hb, hr, hml, hown, hg, hlocks, hin, hK, hA, hP, hD, hS, hE, hl⟩ := hat
  have hown : s.vm.findClass RX10 = some m.cls := hown
  have hl : lv_has ls 3 [(0, .ref d0), (1, .int 7)] := hl
  refine lv_aload_n hx hb dX10_takeUnit_0 rfl (lv_at hl 0 rfl) ?_
  refine va_get (D := D) (ci := 10) (v := .int (nI ow)) (C := RX10) (T := TX10) (N := 10) hx hb hg i_X10 hown hK hP 0 rfl rfl 4 (by decide) (hg _ m_259) (fun _ h9 => h9) rfl dX10_takeUnit_1 ?_
  refine lv_bipush (v := 30) hx hb dX10_takeUnit_4 (by decide) ?_
  refine lv_icmp_ge (tgt := 21) hx hb dX10_takeUnit_6 (by decide) (fun c_1 => ?_) (fun c_1 => ?_)
  · have q_2 : 30 ≤ ow := q_le (a := 30) (b := ow) rfl rfl (by omega) (by omega) c_1
    refine lv_aload_n hx hb dX10_takeUnit_21 rfl (lv_at hl 0 rfl) ?_
    refine lv_iconst (v := 2) hx hb dX10_takeUnit_22 (by decide) ?_
    refine x_callVi (q := (RX10, TX10, 10)) (ci := 10) (q0 := 0) (wr := [wI (cy 0) t1 1600 (fby), (t2, .inl (cy 2, 24, .inr (.inl (fky)))), wO h0 4 [.ref h1, .ref h2, .ref h3, .ref h4, .ref h5, .ref h6, .ref h7, .ref h8, .ref h9, .ref h10, .ref h11, hv0, hv1, hv2, hv3, .int (nI un)], wO f0 3 [.ref f1, .ref f2, .int (nI nf), y3], wI (cy 1) f1 280 (fco)]) (rest := []) ⟨hx, hb, hml, hown, hg, hl.1⟩ k_X10_110 (s_fail l D cy d0 d1 (nI ow) wt dt vv fq pq ((.ref h0)) ((.ref f0)) t0 t1 t2 tn ta ts tk tm tr 2 (by omega)) E0_blind hK hP hD hS hA [0, 1] [2, 3, 4, 5, 6] ⟨rfl, rfl, by decide +kernel, by decide +kernel, by decide +kernel⟩ rfl rfl (fun _ _ _ => trivial) dX10_takeUnit_23 rfl rfl (Nat.le_of_ble_eq_true rfl) ⟨Nat.le_of_ble_eq_true rfl, Nat.le_of_ble_eq_true rfl⟩ ⟨Nat.le_of_ble_eq_true rfl, Nat.le_of_ble_eq_true rfl⟩ (fun zr3 zu3 H locs hw3 hP9 hD9 hS9 => ?_)
    clear hP hD hS
    obtain ⟨fq2_4, pq2_5⟩ := zu3
    refine reW [wI (cy 0) t1 1600 (fby), (t2, .inl (cy 2, 24, .inr (.inl (fky)))), wO h0 4 [.ref h1, .ref h2, .ref h3, .ref h4, .ref h5, .ref h6, .ref h7, .ref h8, .ref h9, .ref h10, .ref h11, hv0, hv1, hv2, hv3, .int (nI un)], wO f0 3 [.ref f1, .ref f2, .int (nI nf), y3], wI (cy 1) f1 280 (fco), wO d0 10 [.ref t0, .ref d1, .ref h0, .ref f0, .int (nI ow), .int wt, .int dt, .int vv, .int fq2_4, .int pq2_5], wO t0 9 [.ref t1, .ref t2, .int (nI tn), .int (nI ta), .int (nI ts), .int (nI tk), .long tm, .int tr]] hP9 hD9 hS9 (fun hP hD hS => ?_)
    clear hP9 hD9 hS9
    refine W.widen (k := 0) (n := 0) (Nat.le_of_ble_eq_true rfl) (Nat.le_of_ble_eq_true rfl) ?_
    replace hw3 : ((zr3 = 0 ∧ (fq2_4 = nI (if tk = 3 then 1 else 2)) ∧ (pq2_5 = nI ts))) := hw3
    have f_6 := hw3
    rcases f_6 with ⟨hz_9, a_7, a_8⟩
    subst hz_9
    exact x_zret hQ hx hb hr hlocks hK hP hD hS rfl dX10_takeUnit_26 (ta, ts, tk, tm, tr, fq2_4, pq2_5, ow, un, nf, fco, ga, []) (⟨(show ta ≤ tn from by omega), (show tk ≤ 123 from by omega), (show nf ≤ 280 from by omega), hfc, (show ow ≤ 30 from by omega), (show un ≤ 60 from by omega), (show ((0 : Int32) = 1 ∧ (okS (knd fby tn) (fin fby tn) (cdF fby tn) 7 7 ga ow un ga ow un ([])) ∧ (fq = fq2_4) ∧ (pq = pq2_5) ∧ (tkC fby tn ga ta ts tk tm tr) ∧ (ga < ga ∧ ga ≤ tn) ∧ (exC fco nf fco nf ([])) ∧ (nf + 2 * ow + 1 ≤ nf + 2 * ow ∧ ow < ow)) ∨ ((0 : Int32) = 0 ∧ (noS (knd fby tn) (fin fby tn) 7 7 ga ow un ga) ∧ (flt fby tn ga 2 fq2_4 pq2_5)) from Or.inr (⟨rfl, (unit_full (by omega)), (flt_of hti a_7 a_8)⟩))⟩) [5, 6, 0, 1, 2, 3, 4] (by decide +kernel) rfl (Nat.le_of_ble_eq_true rfl) (Nat.le_of_ble_eq_true rfl)
  · have q_2 : ow < 30 := q_nle (a := 30) (b := ow) rfl rfl (by omega) (by omega) c_1
    refine lv_aload_n hx hb dX10_takeUnit_9 rfl (lv_at hl 0 rfl) ?_
    refine va_get (D := D) (ci := 10) (v := .ref h0) (C := RX10) (T := TX10) (N := 10) hx hb hg i_X10 hown hK hP 0 rfl rfl 2 (by decide) (hg _ m_257) (fun _ h9 => h9) rfl dX10_takeUnit_10 ?_
    refine va_get (D := D) (ci := 4) (v := .int (nI un)) (C := RX4) (T := TX4) (N := 16) hx hb hg i_X4 hown hK hP 4 rfl rfl 15 (by decide) (hg _ m_382) (fun _ h9 => h9) rfl dX10_takeUnit_13 ?_
    refine lv_bipush (v := 60) hx hb dX10_takeUnit_16 (by decide) ?_
    refine lv_icmp_lt (tgt := 27) hx hb dX10_takeUnit_18 (by decide) (fun c_10 => ?_) (fun c_10 => ?_)
    · have q_11 : un < 60 := q_lt (a := un) (b := 60) rfl rfl (by omega) (by omega) c_10
      refine lv_aload_n hx hb dX10_takeUnit_27 rfl (lv_at hl 0 rfl) ?_
      refine lv_dup hx hb dX10_takeUnit_28 rfl ?_
      refine va_get (D := D) (ci := 10) (v := .int (nI ow)) (C := RX10) (T := TX10) (N := 10) hx hb hg i_X10 hown hK hP 0 rfl rfl 4 (by decide) (hg _ m_259) (fun _ h9 => h9) rfl dX10_takeUnit_29 ?_
      refine lv_iconst (v := 1) hx hb dX10_takeUnit_32 (by decide) ?_
      refine lv_iadd hx hb dX10_takeUnit_33 ?_
      refine lv_topi (fun y_12 hy_12 => ?_)
      obtain rfl : y_12 = nI (ow + 1) := hy_12.trans (nI_add ow 1)
      refine va_put (D := D) (ci := 10) (v := .int (nI (ow + 1))) (ty := .int) (C := RX10) (T := TX10) (N := 10) hx hb hg i_X10 tyX10 tyX10_ok nmX10 hown hK hP hD hS 0 rfl rfl 4 (by decide) (hg _ m_259) (fun _ h9 => h9) rfl (by decide +kernel) rfl rfl (Nat.le_of_ble_eq_true rfl) dX10_takeUnit_34 (fun H locs hP9 hD9 hS9 => ?_)
      clear hP hD hS
      refine reW [wO d0 10 [.ref t0, .ref d1, .ref h0, .ref f0, .int (nI (ow + 1)), .int wt, .int dt, .int vv, .int fq, .int pq], wO t0 9 [.ref t1, .ref t2, .int (nI tn), .int (nI ta), .int (nI ts), .int (nI tk), .long tm, .int tr], wI (cy 0) t1 1600 (fby), (t2, .inl (cy 2, 24, .inr (.inl (fky)))), wO h0 4 [.ref h1, .ref h2, .ref h3, .ref h4, .ref h5, .ref h6, .ref h7, .ref h8, .ref h9, .ref h10, .ref h11, hv0, hv1, hv2, hv3, .int (nI un)], wO f0 3 [.ref f1, .ref f2, .int (nI nf), y3], wI (cy 1) f1 280 (fco)] hP9 hD9 hS9 (fun hP hD hS => ?_)
      clear hP9 hD9 hS9
      refine lv_aload_n hx hb dX10_takeUnit_37 rfl (lv_at hl 0 rfl) ?_
      refine va_get (D := D) (ci := 10) (v := .ref h0) (C := RX10) (T := TX10) (N := 10) hx hb hg i_X10 hown hK hP 0 rfl rfl 2 (by decide) (hg _ m_257) (fun _ h9 => h9) rfl dX10_takeUnit_38 ?_
      refine lv_dup hx hb dX10_takeUnit_41 rfl ?_
      refine va_get (D := D) (ci := 4) (v := .int (nI un)) (C := RX4) (T := TX4) (N := 16) hx hb hg i_X4 hown hK hP 4 rfl rfl 15 (by decide) (hg _ m_382) (fun _ h9 => h9) rfl dX10_takeUnit_42 ?_
      refine lv_iconst (v := 1) hx hb dX10_takeUnit_45 (by decide) ?_
      refine lv_iadd hx hb dX10_takeUnit_46 ?_
      refine lv_topi (fun y_13 hy_13 => ?_)
      obtain rfl : y_13 = nI (un + 1) := hy_13.trans (nI_add un 1)
      refine va_put (D := D) (ci := 4) (v := .int (nI (un + 1))) (ty := .int) (C := RX4) (T := TX4) (N := 16) hx hb hg i_X4 tyX4 tyX4_ok nmX4 hown hK hP hD hS 4 rfl rfl 15 (by decide) (hg _ m_382) (fun _ h9 => h9) rfl (by decide +kernel) rfl rfl (Nat.le_of_ble_eq_true rfl) dX10_takeUnit_47 (fun H locs hP9 hD9 hS9 => ?_)
      clear hP hD hS
      refine reW [wO d0 10 [.ref t0, .ref d1, .ref h0, .ref f0, .int (nI (ow + 1)), .int wt, .int dt, .int vv, .int fq, .int pq], wO t0 9 [.ref t1, .ref t2, .int (nI tn), .int (nI ta), .int (nI ts), .int (nI tk), .long tm, .int tr], wI (cy 0) t1 1600 (fby), (t2, .inl (cy 2, 24, .inr (.inl (fky)))), wO h0 4 [.ref h1, .ref h2, .ref h3, .ref h4, .ref h5, .ref h6, .ref h7, .ref h8, .ref h9, .ref h10, .ref h11, hv0, hv1, hv2, hv3, .int (nI (un + 1))], wO f0 3 [.ref f1, .ref f2, .int (nI nf), y3], wI (cy 1) f1 280 (fco)] hP9 hD9 hS9 (fun hP hD hS => ?_)
      clear hP9 hD9 hS9
      refine lv_aload_n hx hb dX10_takeUnit_50 rfl (lv_at hl 0 rfl) ?_
      refine va_get (D := D) (ci := 10) (v := .ref t0) (C := RX10) (T := TX10) (N := 10) hx hb hg i_X10 hown hK hP 0 rfl rfl 0 (by decide) (hg _ m_255) (fun _ h9 => h9) rfl dX10_takeUnit_51 ?_
      refine va_get (D := D) (ci := 9) (v := .int (nI tk)) (C := RX9) (T := TX9) (N := 8) hx hb hg i_X9 hown hK hP 1 rfl rfl 5 (by decide) (hg _ m_222) (fun _ h9 => h9) rfl dX10_takeUnit_54 ?_
      refine lv_bipush (v := 40) hx hb dX10_takeUnit_57 (by decide) ?_
      refine lv_icmp_ne (tgt := 68) hx hb dX10_takeUnit_59 (by decide) (fun c_14 => ?_) (fun c_14 => ?_)
      · have q_15 : ¬ tk = 40 := q_ne (a := tk) (b := 40) rfl rfl (by omega) (by omega) c_14
        refine lv_aload_n hx hb dX10_takeUnit_68 rfl (lv_at hl 0 rfl) ?_
        refine va_get (D := D) (ci := 10) (v := .ref t0) (C := RX10) (T := TX10) (N := 10) hx hb hg i_X10 hown hK hP 0 rfl rfl 0 (by decide) (hg _ m_255) (fun _ h9 => h9) rfl dX10_takeUnit_69 ?_
        refine va_get (D := D) (ci := 9) (v := .int (nI tk)) (C := RX9) (T := TX9) (N := 8) hx hb hg i_X9 hown hK hP 1 rfl rfl 5 (by decide) (hg _ m_222) (fun _ h9 => h9) rfl dX10_takeUnit_72 ?_
        refine x_callSi (wr := [wO d0 10 [.ref t0, .ref d1, .ref h0, .ref f0, .int (nI (ow + 1)), .int wt, .int dt, .int vv, .int fq, .int pq], wO t0 9 [.ref t1, .ref t2, .int (nI tn), .int (nI ta), .int (nI ts), .int (nI tk), .long tm, .int tr], wI (cy 0) t1 1600 (fby), (t2, .inl (cy 2, 24, .inr (.inl (fky)))), wO h0 4 [.ref h1, .ref h2, .ref h3, .ref h4, .ref h5, .ref h6, .ref h7, .ref h8, .ref h9, .ref h10, .ref h11, hv0, hv1, hv2, hv3, .int (nI (un + 1))], wO f0 3 [.ref f1, .ref f2, .int (nI nf), y3], wI (cy 1) f1 280 (fco)]) (rest := []) ⟨hx, hb, hml, hown, hg, hl.1⟩ k_X10_210 (s_factOf l D cy tk (by omega)) E0_blind hK hP hD hS hA [] [0, 1, 2, 3, 4, 5, 6] ⟨rfl, rfl, by decide +kernel, by decide +kernel, by decide +kernel⟩ (fun _ _ _ => trivial) dX10_takeUnit_75 rfl rfl (Nat.le_of_ble_eq_true rfl) ⟨Nat.le_of_ble_eq_true rfl, Nat.le_of_ble_eq_true rfl⟩ ⟨Nat.le_of_ble_eq_true rfl, Nat.le_of_ble_eq_true rfl⟩ (fun zr16 zu16 H locs hw16 hP9 hD9 hS9 => ?_)
        clear hP hD hS
        obtain ⟨jr_17, rfl⟩ : ∃ z, z = zu16 := ⟨_, rfl⟩
        refine reW [wO d0 10 [.ref t0, .ref d1, .ref h0, .ref f0, .int (nI (ow + 1)), .int wt, .int dt, .int vv, .int fq, .int pq], wO t0 9 [.ref t1, .ref t2, .int (nI tn), .int (nI ta), .int (nI ts), .int (nI tk), .long tm, .int tr], wI (cy 0) t1 1600 (fby), (t2, .inl (cy 2, 24, .inr (.inl (fky)))), wO h0 4 [.ref h1, .ref h2, .ref h3, .ref h4, .ref h5, .ref h6, .ref h7, .ref h8, .ref h9, .ref h10, .ref h11, hv0, hv1, hv2, hv3, .int (nI (un + 1))], wO f0 3 [.ref f1, .ref f2, .int (nI nf), y3], wI (cy 1) f1 280 (fco)] hP9 hD9 hS9 (fun hP hD hS => ?_)
        clear hP9 hD9 hS9
        refine W.widen (k := 0) (n := 0) (Nat.le_of_ble_eq_true rfl) (Nat.le_of_ble_eq_true rfl) ?_
        replace hw16 : ((zr16 = nI jr_17 ∧ (jr_17 ≤ 6) ∧ (tk = 117 + jr_17)) ∨ (zr16 = -1 ∧ (¬ 117 ≤ tk))) := hw16
        have f_18 := hw16
        rcases f_18 with ⟨hz_21, a_19, a_20⟩ | ⟨hz_23, a_22⟩
        · subst hz_21
          refine lv_istore_n (lv' := [(2, .int (nI jr_17)), (0, .ref d0), (1, .int 7)]) hx hb dX10_takeUnit_78 rfl hl (by decide) rfl (fun ls hl => ?_)
          refine lv_iload_n hx hb dX10_takeUnit_79 rfl (lv_at hl 0 rfl) ?_
          refine lv_iconst (v := -1) hx hb dX10_takeUnit_80 (by decide) ?_
          refine lv_icmp_eq (tgt := 95) hx hb dX10_takeUnit_81 (by decide) (fun h => absurd h (nI_nneg (by omega) (by decide))) (fun _ => ?_)
          have hk117 : 117 ≤ knd fby tn ga := by have h9 := hti.2.2.1; omega
          have hkj : knd fby tn ga = 117 + jr_17 := by have h9 := hti.2.2.1; omega
          refine lv_aload_n hx hb dX10_takeUnit_84 rfl (lv_at hl 1 rfl) ?_
          refine va_get (D := D) (ci := 10) (v := .ref f0) (C := RX10) (T := TX10) (N := 10) hx hb hg i_X10 hown hK hP 0 rfl rfl 3 (by decide) (hg _ m_258) (fun _ h9 => h9) rfl dX10_takeUnit_85 ?_
          refine lv_iload_n hx hb dX10_takeUnit_88 rfl (lv_at hl 0 rfl) ?_
          refine x_callVv (q := (RX3, TX3, 4)) (ci := 3) (q0 := 0) (wr := [wO d0 10 [.ref t0, .ref d1, .ref h0, .ref f0, .int (nI (ow + 1)), .int wt, .int dt, .int vv, .int fq, .int pq], wO t0 9 [.ref t1, .ref t2, .int (nI tn), .int (nI ta), .int (nI ts), .int (nI tk), .long tm, .int tr], wI (cy 0) t1 1600 (fby), (t2, .inl (cy 2, 24, .inr (.inl (fky)))), wO h0 4 [.ref h1, .ref h2, .ref h3, .ref h4, .ref h5, .ref h6, .ref h7, .ref h8, .ref h9, .ref h10, .ref h11, hv0, hv1, hv2, hv3, .int (nI (un + 1))]]) (rest := []) ⟨hx, hb, hml, hown, hg, hl.1⟩ k_X10_213 (s_addFact9 l D cy f0 f1 f2 nf y3 fco jr_17 (by omega) (hfc) (by omega)) E0_blind hK hP hD hS hA [5, 6] [0, 1, 2, 3, 4] ⟨rfl, rfl, by decide +kernel, by decide +kernel, by decide +kernel⟩ rfl rfl (fun _ _ _ => trivial) dX10_takeUnit_89 rfl rfl (Nat.le_of_ble_eq_true rfl) ⟨Nat.le_of_ble_eq_true rfl, Nat.le_of_ble_eq_true rfl⟩ ⟨Nat.le_of_ble_eq_true rfl, Nat.le_of_ble_eq_true rfl⟩ (fun zu24 H locs hw24 hP9 hD9 hS9 => ?_)
          clear hP hD hS
          obtain ⟨n2_25, fc2_26⟩ := zu24
          refine reW [wO d0 10 [.ref t0, .ref d1, .ref h0, .ref f0, .int (nI (ow + 1)), .int wt, .int dt, .int vv, .int fq, .int pq], wO t0 9 [.ref t1, .ref t2, .int (nI tn), .int (nI ta), .int (nI ts), .int (nI tk), .long tm, .int tr], wI (cy 0) t1 1600 (fby), (t2, .inl (cy 2, 24, .inr (.inl (fky)))), wO h0 4 [.ref h1, .ref h2, .ref h3, .ref h4, .ref h5, .ref h6, .ref h7, .ref h8, .ref h9, .ref h10, .ref h11, hv0, hv1, hv2, hv3, .int (nI (un + 1))], wO f0 3 [.ref f1, .ref f2, .int (nI n2_25), y3], wI (cy 1) f1 280 (fc2_26)] hP9 hD9 hS9 (fun hP hD hS => ?_)
          clear hP9 hD9 hS9
          refine W.widen (k := 0) (n := 0) (Nat.le_of_ble_eq_true rfl) (Nat.le_of_ble_eq_true rfl) ?_
          replace hw24 : (n2_25 = nf + 1) ∧ (cOK fc2_26 n2_25) ∧ (exC fco nf fc2_26 n2_25 [nI (10000 + jr_17)]) := hw24
          obtain ⟨f_27, f_28, f_29⟩ := hw24
          refine lv_goto (tgt := 129) hx hb dX10_takeUnit_92 (by decide) ?_
          have hgt_30 : ga < fin fby tn ga ∧ fin fby tn ga ≤ tn := ⟨fin_gt (by have h9 := hti.2.2.1; omega), fin_le (by omega)⟩
          refine lv_aload_n hx hb dX10_takeUnit_129 rfl (lv_at hl 1 rfl) ?_
          refine va_get (D := D) (ci := 10) (v := .ref t0) (C := RX10) (T := TX10) (N := 10) hx hb hg i_X10 hown hK hP 0 rfl rfl 0 (by decide) (hg _ m_255) (fun _ h9 => h9) rfl dX10_takeUnit_130 ?_
          refine x_callVv (q := (RX9, TX9, 8)) (ci := 9) (q0 := 0) (wr := [wO d0 10 [.ref t0, .ref d1, .ref h0, .ref f0, .int (nI (ow + 1)), .int wt, .int dt, .int vv, .int fq, .int pq], wO h0 4 [.ref h1, .ref h2, .ref h3, .ref h4, .ref h5, .ref h6, .ref h7, .ref h8, .ref h9, .ref h10, .ref h11, hv0, hv1, hv2, hv3, .int (nI (un + 1))], wO f0 3 [.ref f1, .ref f2, .int (nI n2_25), y3], wI (cy 1) f1 280 (fc2_26)]) (rest := []) ⟨hx, hb, hml, hown, hg, hl.1⟩ k_X10_140 (s_next l D cy adK adV t0 t1 t2 tn ta ts tk tm tr fby fky (fin fby tn ga) (by omega) (by omega) (hti.2.1) (hky)) EV_blind hK hP hD hS hA [1, 2, 3] [0, 4, 5, 6] ⟨rfl, rfl, by decide +kernel, by decide +kernel, by decide +kernel⟩ rfl rfl (fun U hU hW => EV_pass hE hS (va_free hD hS hA [1, 2, 3] rfl) hU hW) dX10_takeUnit_133 rfl rfl (Nat.le_of_ble_eq_true rfl) ⟨Nat.le_of_ble_eq_true rfl, Nat.le_of_ble_eq_true rfl⟩ ⟨Nat.le_of_ble_eq_true rfl, Nat.le_of_ble_eq_true rfl⟩ (fun zu31 H locs hw31 hP9 hD9 hS9 => ?_)
          clear hP hD hS
          obtain ⟨ta2_32, ts2_33, tk2_34, tm2_35, tr2_36⟩ := zu31
          refine reW [wO d0 10 [.ref t0, .ref d1, .ref h0, .ref f0, .int (nI (ow + 1)), .int wt, .int dt, .int vv, .int fq, .int pq], wO h0 4 [.ref h1, .ref h2, .ref h3, .ref h4, .ref h5, .ref h6, .ref h7, .ref h8, .ref h9, .ref h10, .ref h11, hv0, hv1, hv2, hv3, .int (nI (un + 1))], wO f0 3 [.ref f1, .ref f2, .int (nI n2_25), y3], wI (cy 1) f1 280 (fc2_26), wO t0 9 [.ref t1, .ref t2, .int (nI tn), .int (nI ta2_32), .int (nI ts2_33), .int (nI tk2_34), .long tm2_35, .int tr2_36], wI (cy 0) t1 1600 (fby), (t2, .inl (cy 2, 24, .inr (.inl (fky))))] hP9 hD9 hS9 (fun hP hD hS => ?_)
          clear hP9 hD9 hS9
          refine W.widen (k := 0) (n := 0) (Nat.le_of_ble_eq_true rfl) (Nat.le_of_ble_eq_true rfl) ?_
          replace hw31 : (ta2_32 ≤ tn) ∧ (tk2_34 ≤ 123) ∧ (tkC fby tn (fin fby tn ga) ta2_32 ts2_33 tk2_34 tm2_35 tr2_36) := hw31
          obtain ⟨f_37, f_38, f_39⟩ := hw31
          refine lv_iconst (v := 1) hx hb dX10_takeUnit_136 (by decide) ?_
          exact x_zret hQ hx hb hr hlocks hK hP hD hS rfl dX10_takeUnit_137 (ta2_32, ts2_33, tk2_34, tm2_35, tr2_36, fq, pq, (ow + 1), (un + 1), n2_25, fc2_26, fin fby tn ga, [cdF fby tn ga]) (⟨(show ta2_32 ≤ tn from by omega), (show tk2_34 ≤ 123 from by omega), (show n2_25 ≤ 280 from by omega), f_28, (show ((ow + 1)) ≤ 30 from by omega), (show ((un + 1)) ≤ 60 from by omega), (show ((1 : Int32) = 1 ∧ (okS (knd fby tn) (fin fby tn) (cdF fby tn) 7 7 ga ow un (fin fby tn ga) ((ow + 1)) ((un + 1)) ([cdF fby tn ga])) ∧ (fq = fq) ∧ (pq = pq) ∧ (tkC fby tn (fin fby tn ga) ta2_32 ts2_33 tk2_34 tm2_35 tr2_36) ∧ (ga < (fin fby tn ga) ∧ (fin fby tn ga) ≤ tn) ∧ (exC fco nf fc2_26 n2_25 ([cdF fby tn ga])) ∧ (n2_25 + 2 * ow + 1 ≤ nf + 2 * ((ow + 1)) ∧ ow < ((ow + 1)))) ∨ ((1 : Int32) = 0 ∧ (noS (knd fby tn) (fin fby tn) 7 7 ga ow un (fin fby tn ga)) ∧ (flt fby tn (fin fby tn ga) 2 fq pq)) from Or.inl ⟨rfl, (unit_one (psh_cd (Or.inr hk117)) (by omega) (Or.inr hk117)), (rfl), (rfl), (f_39), (⟨by omega, by omega⟩), ((exC_cf f_29 hkj)), (⟨by omega, by omega⟩)⟩)⟩) [0, 4, 5, 6, 1, 2, 3] (by decide +kernel) rfl (Nat.le_of_ble_eq_true rfl) (Nat.le_of_ble_eq_true rfl)
        · subst hz_23
          refine lv_istore_n (lv' := [(2, .int (-1)), (0, .ref d0), (1, .int 7)]) hx hb dX10_takeUnit_78 rfl hl (by decide) rfl (fun ls hl => ?_)
          refine lv_iload_n hx hb dX10_takeUnit_79 rfl (lv_at hl 0 rfl) ?_
          refine lv_iconst (v := -1) hx hb dX10_takeUnit_80 (by decide) ?_
          refine lv_icmp_eq (tgt := 95) hx hb dX10_takeUnit_81 (by decide) (fun _ => ?_) (fun h => absurd (by decide) h)
          refine lv_aload_n hx hb dX10_takeUnit_95 rfl (lv_at hl 1 rfl) ?_
          refine va_get (D := D) (ci := 10) (v := .ref t0) (C := RX10) (T := TX10) (N := 10) hx hb hg i_X10 hown hK hP 0 rfl rfl 0 (by decide) (hg _ m_255) (fun _ h9 => h9) rfl dX10_takeUnit_96 ?_
          refine va_get (D := D) (ci := 9) (v := .int (nI tk)) (C := RX9) (T := TX9) (N := 8) hx hb hg i_X9 hown hK hP 1 rfl rfl 5 (by decide) (hg _ m_222) (fun _ h9 => h9) rfl dX10_takeUnit_99 ?_
          refine lv_iconst (v := 2) hx hb dX10_takeUnit_102 (by decide) ?_
          refine lv_icmp_ne (tgt := 123) hx hb dX10_takeUnit_103 (by decide) (fun c_40 => ?_) (fun c_40 => ?_)
          · have q_41 : ¬ tk = 2 := q_ne (a := tk) (b := 2) rfl rfl (by omega) (by omega) c_40
            refine lv_aload_n hx hb dX10_takeUnit_123 rfl (lv_at hl 1 rfl) ?_
            refine lv_iconst (v := 2) hx hb dX10_takeUnit_124 (by decide) ?_
            refine x_callVi (q := (RX10, TX10, 10)) (ci := 10) (q0 := 0) (wr := [wI (cy 0) t1 1600 (fby), (t2, .inl (cy 2, 24, .inr (.inl (fky)))), wO h0 4 [.ref h1, .ref h2, .ref h3, .ref h4, .ref h5, .ref h6, .ref h7, .ref h8, .ref h9, .ref h10, .ref h11, hv0, hv1, hv2, hv3, .int (nI (un + 1))], wO f0 3 [.ref f1, .ref f2, .int (nI nf), y3], wI (cy 1) f1 280 (fco)]) (rest := []) ⟨hx, hb, hml, hown, hg, hl.1⟩ k_X10_110 (s_fail l D cy d0 d1 (nI (ow + 1)) wt dt vv fq pq ((.ref h0)) ((.ref f0)) t0 t1 t2 tn ta ts tk tm tr 2 (by omega)) E0_blind hK hP hD hS hA [0, 1] [2, 3, 4, 5, 6] ⟨rfl, rfl, by decide +kernel, by decide +kernel, by decide +kernel⟩ rfl rfl (fun _ _ _ => trivial) dX10_takeUnit_125 rfl rfl (Nat.le_of_ble_eq_true rfl) ⟨Nat.le_of_ble_eq_true rfl, Nat.le_of_ble_eq_true rfl⟩ ⟨Nat.le_of_ble_eq_true rfl, Nat.le_of_ble_eq_true rfl⟩ (fun zr42 zu42 H locs hw42 hP9 hD9 hS9 => ?_)
            clear hP hD hS
            obtain ⟨fq2_43, pq2_44⟩ := zu42
            refine reW [wI (cy 0) t1 1600 (fby), (t2, .inl (cy 2, 24, .inr (.inl (fky)))), wO h0 4 [.ref h1, .ref h2, .ref h3, .ref h4, .ref h5, .ref h6, .ref h7, .ref h8, .ref h9, .ref h10, .ref h11, hv0, hv1, hv2, hv3, .int (nI (un + 1))], wO f0 3 [.ref f1, .ref f2, .int (nI nf), y3], wI (cy 1) f1 280 (fco), wO d0 10 [.ref t0, .ref d1, .ref h0, .ref f0, .int (nI (ow + 1)), .int wt, .int dt, .int vv, .int fq2_43, .int pq2_44], wO t0 9 [.ref t1, .ref t2, .int (nI tn), .int (nI ta), .int (nI ts), .int (nI tk), .long tm, .int tr]] hP9 hD9 hS9 (fun hP hD hS => ?_)
            clear hP9 hD9 hS9
            refine W.widen (k := 0) (n := 0) (Nat.le_of_ble_eq_true rfl) (Nat.le_of_ble_eq_true rfl) ?_
            replace hw42 : ((zr42 = 0 ∧ (fq2_43 = nI (if tk = 3 then 1 else 2)) ∧ (pq2_44 = nI ts))) := hw42
            have f_45 := hw42
            rcases f_45 with ⟨hz_48, a_46, a_47⟩
            subst hz_48
            exact x_zret hQ hx hb hr hlocks hK hP hD hS rfl dX10_takeUnit_128 (ta, ts, tk, tm, tr, fq2_43, pq2_44, (ow + 1), (un + 1), nf, fco, ga, []) (⟨(show ta ≤ tn from by omega), (show tk ≤ 123 from by omega), (show nf ≤ 280 from by omega), hfc, (show ((ow + 1)) ≤ 30 from by omega), (show ((un + 1)) ≤ 60 from by omega), (show ((0 : Int32) = 1 ∧ (okS (knd fby tn) (fin fby tn) (cdF fby tn) 7 7 ga ow un ga ((ow + 1)) ((un + 1)) ([])) ∧ (fq = fq2_43) ∧ (pq = pq2_44) ∧ (tkC fby tn ga ta ts tk tm tr) ∧ (ga < ga ∧ ga ≤ tn) ∧ (exC fco nf fco nf ([])) ∧ (nf + 2 * ow + 1 ≤ nf + 2 * ((ow + 1)) ∧ ow < ((ow + 1)))) ∨ ((0 : Int32) = 0 ∧ (noS (knd fby tn) (fin fby tn) 7 7 ga ow un ga) ∧ (flt fby tn ga 2 fq2_43 pq2_44)) from Or.inr (⟨rfl, (unit_none (by have h9 := hti.2.2.1; omega) (by have h9 := hti.2.2.1; omega)), (flt_of hti a_46 a_47)⟩))⟩) [5, 6, 0, 1, 2, 3, 4] (by decide +kernel) rfl (Nat.le_of_ble_eq_true rfl) (Nat.le_of_ble_eq_true rfl)
          · have q_41 : tk = 2 := q_eq (a := tk) (b := 2) rfl rfl (by omega) (by omega) c_40
            have hk8 : knd fby tn ga = 2 := by have h9 := hti.2.2.1; omega
            have hn9 : tr = nI (num fby tn ga) := hti.2.2.2.2 (by omega)
            have hn8 := (num_le hk8).1
            subst hn9
            refine lv_aload_n hx hb dX10_takeUnit_106 rfl (lv_at hl 1 rfl) ?_
            refine va_get (D := D) (ci := 10) (v := .ref f0) (C := RX10) (T := TX10) (N := 10) hx hb hg i_X10 hown hK hP 0 rfl rfl 3 (by decide) (hg _ m_258) (fun _ h9 => h9) rfl dX10_takeUnit_107 ?_
            refine lv_aload_n hx hb dX10_takeUnit_110 rfl (lv_at hl 1 rfl) ?_
            refine va_get (D := D) (ci := 10) (v := .ref t0) (C := RX10) (T := TX10) (N := 10) hx hb hg i_X10 hown hK hP 0 rfl rfl 0 (by decide) (hg _ m_255) (fun _ h9 => h9) rfl dX10_takeUnit_111 ?_
            refine va_get (D := D) (ci := 9) (v := .int (nI (num fby tn ga))) (C := RX9) (T := TX9) (N := 8) hx hb hg i_X9 hown hK hP 1 rfl rfl 7 (by decide) (hg _ m_227) (fun _ h9 => h9) rfl dX10_takeUnit_114 ?_
            refine x_callVv (q := (RX3, TX3, 4)) (ci := 3) (q0 := 0) (wr := [wO d0 10 [.ref t0, .ref d1, .ref h0, .ref f0, .int (nI (ow + 1)), .int wt, .int dt, .int vv, .int fq, .int pq], wO t0 9 [.ref t1, .ref t2, .int (nI tn), .int (nI ta), .int (nI ts), .int (nI tk), .long tm, .int (nI (num fby tn ga))], wI (cy 0) t1 1600 (fby), (t2, .inl (cy 2, 24, .inr (.inl (fky)))), wO h0 4 [.ref h1, .ref h2, .ref h3, .ref h4, .ref h5, .ref h6, .ref h7, .ref h8, .ref h9, .ref h10, .ref h11, hv0, hv1, hv2, hv3, .int (nI (un + 1))]]) (rest := []) ⟨hx, hb, hml, hown, hg, hl.1⟩ k_X10_216 (s_addNumber9 l D cy f0 f1 f2 nf y3 fco ((num fby tn ga)) (by omega) (hfc) (by omega)) E0_blind hK hP hD hS hA [5, 6] [0, 1, 2, 3, 4] ⟨rfl, rfl, by decide +kernel, by decide +kernel, by decide +kernel⟩ rfl rfl (fun _ _ _ => trivial) dX10_takeUnit_117 rfl rfl (Nat.le_of_ble_eq_true rfl) ⟨Nat.le_of_ble_eq_true rfl, Nat.le_of_ble_eq_true rfl⟩ ⟨Nat.le_of_ble_eq_true rfl, Nat.le_of_ble_eq_true rfl⟩ (fun zu49 H locs hw49 hP9 hD9 hS9 => ?_)
            clear hP hD hS
            obtain ⟨n2_50, fc2_51⟩ := zu49
            refine reW [wO d0 10 [.ref t0, .ref d1, .ref h0, .ref f0, .int (nI (ow + 1)), .int wt, .int dt, .int vv, .int fq, .int pq], wO t0 9 [.ref t1, .ref t2, .int (nI tn), .int (nI ta), .int (nI ts), .int (nI tk), .long tm, .int (nI (num fby tn ga))], wI (cy 0) t1 1600 (fby), (t2, .inl (cy 2, 24, .inr (.inl (fky)))), wO h0 4 [.ref h1, .ref h2, .ref h3, .ref h4, .ref h5, .ref h6, .ref h7, .ref h8, .ref h9, .ref h10, .ref h11, hv0, hv1, hv2, hv3, .int (nI (un + 1))], wO f0 3 [.ref f1, .ref f2, .int (nI n2_50), y3], wI (cy 1) f1 280 (fc2_51)] hP9 hD9 hS9 (fun hP hD hS => ?_)
            clear hP9 hD9 hS9
            refine W.widen (k := 0) (n := 0) (Nat.le_of_ble_eq_true rfl) (Nat.le_of_ble_eq_true rfl) ?_
            replace hw49 : (n2_50 = nf + 1) ∧ (cOK fc2_51 n2_50) ∧ (exC fco nf fc2_51 n2_50 [nI ((num fby tn ga))]) := hw49
            obtain ⟨f_52, f_53, f_54⟩ := hw49
            refine lv_goto (tgt := 129) hx hb dX10_takeUnit_120 (by decide) ?_
            have hgt_55 : ga < fin fby tn ga ∧ fin fby tn ga ≤ tn := ⟨fin_gt (by have h9 := hti.2.2.1; omega), fin_le (by omega)⟩
            refine lv_aload_n hx hb dX10_takeUnit_129 rfl (lv_at hl 1 rfl) ?_
            refine va_get (D := D) (ci := 10) (v := .ref t0) (C := RX10) (T := TX10) (N := 10) hx hb hg i_X10 hown hK hP 0 rfl rfl 0 (by decide) (hg _ m_255) (fun _ h9 => h9) rfl dX10_takeUnit_130 ?_
            refine x_callVv (q := (RX9, TX9, 8)) (ci := 9) (q0 := 0) (wr := [wO d0 10 [.ref t0, .ref d1, .ref h0, .ref f0, .int (nI (ow + 1)), .int wt, .int dt, .int vv, .int fq, .int pq], wO h0 4 [.ref h1, .ref h2, .ref h3, .ref h4, .ref h5, .ref h6, .ref h7, .ref h8, .ref h9, .ref h10, .ref h11, hv0, hv1, hv2, hv3, .int (nI (un + 1))], wO f0 3 [.ref f1, .ref f2, .int (nI n2_50), y3], wI (cy 1) f1 280 (fc2_51)]) (rest := []) ⟨hx, hb, hml, hown, hg, hl.1⟩ k_X10_140 (s_next l D cy adK adV t0 t1 t2 tn ta ts tk tm (nI (num fby tn ga)) fby fky (fin fby tn ga) (by omega) (by omega) (hti.2.1) (hky)) EV_blind hK hP hD hS hA [1, 2, 3] [0, 4, 5, 6] ⟨rfl, rfl, by decide +kernel, by decide +kernel, by decide +kernel⟩ rfl rfl (fun U hU hW => EV_pass hE hS (va_free hD hS hA [1, 2, 3] rfl) hU hW) dX10_takeUnit_133 rfl rfl (Nat.le_of_ble_eq_true rfl) ⟨Nat.le_of_ble_eq_true rfl, Nat.le_of_ble_eq_true rfl⟩ ⟨Nat.le_of_ble_eq_true rfl, Nat.le_of_ble_eq_true rfl⟩ (fun zu56 H locs hw56 hP9 hD9 hS9 => ?_)
            clear hP hD hS
            obtain ⟨ta2_57, ts2_58, tk2_59, tm2_60, tr2_61⟩ := zu56
            refine reW [wO d0 10 [.ref t0, .ref d1, .ref h0, .ref f0, .int (nI (ow + 1)), .int wt, .int dt, .int vv, .int fq, .int pq], wO h0 4 [.ref h1, .ref h2, .ref h3, .ref h4, .ref h5, .ref h6, .ref h7, .ref h8, .ref h9, .ref h10, .ref h11, hv0, hv1, hv2, hv3, .int (nI (un + 1))], wO f0 3 [.ref f1, .ref f2, .int (nI n2_50), y3], wI (cy 1) f1 280 (fc2_51), wO t0 9 [.ref t1, .ref t2, .int (nI tn), .int (nI ta2_57), .int (nI ts2_58), .int (nI tk2_59), .long tm2_60, .int tr2_61], wI (cy 0) t1 1600 (fby), (t2, .inl (cy 2, 24, .inr (.inl (fky))))] hP9 hD9 hS9 (fun hP hD hS => ?_)
            clear hP9 hD9 hS9
            refine W.widen (k := 0) (n := 0) (Nat.le_of_ble_eq_true rfl) (Nat.le_of_ble_eq_true rfl) ?_
            replace hw56 : (ta2_57 ≤ tn) ∧ (tk2_59 ≤ 123) ∧ (tkC fby tn (fin fby tn ga) ta2_57 ts2_58 tk2_59 tm2_60 tr2_61) := hw56
            obtain ⟨f_62, f_63, f_64⟩ := hw56
            refine lv_iconst (v := 1) hx hb dX10_takeUnit_136 (by decide) ?_
            exact x_zret hQ hx hb hr hlocks hK hP hD hS rfl dX10_takeUnit_137 (ta2_57, ts2_58, tk2_59, tm2_60, tr2_61, fq, pq, (ow + 1), (un + 1), n2_50, fc2_51, fin fby tn ga, [cdF fby tn ga]) (⟨(show ta2_57 ≤ tn from by omega), (show tk2_59 ≤ 123 from by omega), (show n2_50 ≤ 280 from by omega), f_53, (show ((ow + 1)) ≤ 30 from by omega), (show ((un + 1)) ≤ 60 from by omega), (show ((1 : Int32) = 1 ∧ (okS (knd fby tn) (fin fby tn) (cdF fby tn) 7 7 ga ow un (fin fby tn ga) ((ow + 1)) ((un + 1)) ([cdF fby tn ga])) ∧ (fq = fq) ∧ (pq = pq) ∧ (tkC fby tn (fin fby tn ga) ta2_57 ts2_58 tk2_59 tm2_60 tr2_61) ∧ (ga < (fin fby tn ga) ∧ (fin fby tn ga) ≤ tn) ∧ (exC fco nf fc2_51 n2_50 ([cdF fby tn ga])) ∧ (n2_50 + 2 * ow + 1 ≤ nf + 2 * ((ow + 1)) ∧ ow < ((ow + 1)))) ∨ ((1 : Int32) = 0 ∧ (noS (knd fby tn) (fin fby tn) 7 7 ga ow un (fin fby tn ga)) ∧ (flt fby tn (fin fby tn ga) 2 fq pq)) from Or.inl ⟨rfl, (unit_one (psh_cd (Or.inl hk8)) (by omega) (Or.inl hk8)), (rfl), (rfl), (f_64), (⟨by omega, by omega⟩), ((exC_cn f_54 hk8 rfl)), (⟨by omega, by omega⟩)⟩)⟩) [0, 4, 5, 6, 1, 2, 3] (by decide +kernel) rfl (Nat.le_of_ble_eq_true rfl) (Nat.le_of_ble_eq_true rfl)
      · have q_15 : tk = 40 := q_eq (a := tk) (b := 40) rfl rfl (by omega) (by omega) c_14
        refine lv_aload_n hx hb dX10_takeUnit_62 rfl (lv_at hl 0 rfl) ?_
        refine lv_iload_n hx hb dX10_takeUnit_63 rfl (lv_at hl 1 rfl) ?_
        refine x_callVi (q := (RX10, TX10, 10)) (ci := 10) (q0 := 0) (wr := []) (rest := []) ⟨hx, hb, hml, hown, hg, hl.1⟩ k_X10_207 (s_takeInner7 l D cy adK adV d0 d1 wt dt vv fq pq t0 t1 t2 tn ta ts tk tm tr fby fky h0 h1 h2 h3 h4 h5 h6 h7 h8 h9 h10 h11 hv0 hv1 hv2 hv3 ((ow + 1)) ((un + 1)) f0 f1 f2 nf y3 fco ga (by omega) (by omega) (by omega) (hti) (hky) (by omega) (hfc) (by omega) (by omega) (by omega) (by omega) (by omega)) EV_blind hK hP hD hS hA [0, 1, 2, 3, 4, 5, 6] [] ⟨rfl, rfl, by decide +kernel, by decide +kernel, by decide +kernel⟩ rfl rfl (fun U hU hW => EV_pass hE hS (va_free hD hS hA [0, 1, 2, 3, 4, 5, 6] rfl) hU hW) dX10_takeUnit_64 rfl rfl (Nat.le_of_ble_eq_true rfl) ⟨Nat.le_of_ble_eq_true rfl, Nat.le_of_ble_eq_true rfl⟩ ⟨Nat.le_of_ble_eq_true rfl, Nat.le_of_ble_eq_true rfl⟩ (fun zr65 zu65 H locs hw65 hP9 hD9 hS9 => ?_)
        clear hP hD hS
        obtain ⟨ta2_66, ts2_67, tk2_68, tm2_69, tr2_70, fq2_71, pq2_72, ow2_73, un2_74, nf2_75, fco2_76, ga2_77, nw2_78⟩ := zu65
        refine reW [wO d0 10 [.ref t0, .ref d1, .ref h0, .ref f0, .int (nI ow2_73), .int wt, .int dt, .int vv, .int fq2_71, .int pq2_72], wO t0 9 [.ref t1, .ref t2, .int (nI tn), .int (nI ta2_66), .int (nI ts2_67), .int (nI tk2_68), .long tm2_69, .int tr2_70], wI (cy 0) t1 1600 (fby), (t2, .inl (cy 2, 24, .inr (.inl (fky)))), wO h0 4 [.ref h1, .ref h2, .ref h3, .ref h4, .ref h5, .ref h6, .ref h7, .ref h8, .ref h9, .ref h10, .ref h11, hv0, hv1, hv2, hv3, .int (nI un2_74)], wO f0 3 [.ref f1, .ref f2, .int (nI nf2_75), y3], wI (cy 1) f1 280 (fco2_76)] hP9 hD9 hS9 (fun hP hD hS => ?_)
        clear hP9 hD9 hS9
        refine W.widen (k := 0) (n := 0) (Nat.le_of_ble_eq_true rfl) (Nat.le_of_ble_eq_true rfl) ?_
        replace hw65 : (ta2_66 ≤ tn) ∧ (tk2_68 ≤ 123) ∧ (nf2_75 ≤ 280) ∧ (cOK fco2_76 nf2_75) ∧ (ow2_73 ≤ 30) ∧ (un2_74 ≤ 60) ∧ ((zr65 = 1 ∧ (∀ o9 u9 : Nat, ((ow + 1)) = o9 + 1 → ((un + 1)) = u9 + 1 → ¬ (u9 = 60 ∨ o9 = 30) → okS (knd fby tn) (fin fby tn) (cdF fby tn) 7 7 ga o9 u9 ga2_77 ow2_73 un2_74 nw2_78) ∧ (fq = fq2_71) ∧ (pq = pq2_72) ∧ (tkC fby tn ga2_77 ta2_66 ts2_67 tk2_68 tm2_69 tr2_70) ∧ (ga < ga2_77 ∧ ga2_77 ≤ tn) ∧ (exC fco nf fco2_76 nf2_75 nw2_78) ∧ (nf2_75 + 1 * ((ow + 1)) + 1 ≤ nf + 1 * ow2_73 ∧ ((ow + 1)) < ow2_73)) ∨ (zr65 = 0 ∧ (∀ o9 u9 : Nat, ((ow + 1)) = o9 + 1 → ((un + 1)) = u9 + 1 → ¬ (u9 = 60 ∨ o9 = 30) → noS (knd fby tn) (fin fby tn) 7 7 ga o9 u9 ga2_77) ∧ (flt fby tn ga2_77 2 fq2_71 pq2_72))) := hw65
        obtain ⟨f_79, f_80, f_81, f_82, f_83, f_84, f_85⟩ := hw65
        rcases f_85 with ⟨hz_93, a_86, a_87, a_88, a_89, a_90, a_91, a_92⟩ | ⟨hz_96, a_94, a_95⟩
        · subst hz_93
          subst a_87
          subst a_88
          have hg_a_90 := a_90
          have hl_a_92 := a_92
          exact x_zret hQ hx hb hr hlocks hK hP hD hS rfl dX10_takeUnit_67 (ta2_66, ts2_67, tk2_68, tm2_69, tr2_70, fq, pq, ow2_73, un2_74, nf2_75, fco2_76, ga2_77, nw2_78) (⟨(show ta2_66 ≤ tn from by omega), (show tk2_68 ≤ 123 from by omega), (show nf2_75 ≤ 280 from by omega), f_82, (show ow2_73 ≤ 30 from by omega), (show un2_74 ≤ 60 from by omega), (show ((1 : Int32) = 1 ∧ (okS (knd fby tn) (fin fby tn) (cdF fby tn) 7 7 ga ow un ga2_77 ow2_73 un2_74 nw2_78) ∧ (fq = fq) ∧ (pq = pq) ∧ (tkC fby tn ga2_77 ta2_66 ts2_67 tk2_68 tm2_69 tr2_70) ∧ (ga < ga2_77 ∧ ga2_77 ≤ tn) ∧ (exC fco nf fco2_76 nf2_75 nw2_78) ∧ (nf2_75 + 2 * ow + 1 ≤ nf + 2 * ow2_73 ∧ ow < ow2_73)) ∨ ((1 : Int32) = 0 ∧ (noS (knd fby tn) (fin fby tn) 7 7 ga ow un ga2_77) ∧ (flt fby tn ga2_77 2 fq pq)) from Or.inl ⟨rfl, (a_86 ow un rfl rfl (by omega)), (rfl), (rfl), (a_89), (⟨by omega, by omega⟩), (a_91), (⟨by omega, by omega⟩)⟩)⟩) [0, 1, 2, 3, 4, 5, 6] (by decide +kernel) rfl (Nat.le_of_ble_eq_true rfl) (Nat.le_of_ble_eq_true rfl)
        · subst hz_96
          exact x_zret hQ hx hb hr hlocks hK hP hD hS rfl dX10_takeUnit_67 (ta2_66, ts2_67, tk2_68, tm2_69, tr2_70, fq2_71, pq2_72, ow2_73, un2_74, nf2_75, fco2_76, ga2_77, []) (⟨(show ta2_66 ≤ tn from by omega), (show tk2_68 ≤ 123 from by omega), (show nf2_75 ≤ 280 from by omega), f_82, (show ow2_73 ≤ 30 from by omega), (show un2_74 ≤ 60 from by omega), (show ((0 : Int32) = 1 ∧ (okS (knd fby tn) (fin fby tn) (cdF fby tn) 7 7 ga ow un ga2_77 ow2_73 un2_74 ([])) ∧ (fq = fq2_71) ∧ (pq = pq2_72) ∧ (tkC fby tn ga2_77 ta2_66 ts2_67 tk2_68 tm2_69 tr2_70) ∧ (ga < ga2_77 ∧ ga2_77 ≤ tn) ∧ (exC fco nf fco2_76 nf2_75 ([])) ∧ (nf2_75 + 2 * ow + 1 ≤ nf + 2 * ow2_73 ∧ ow < ow2_73)) ∨ ((0 : Int32) = 0 ∧ (noS (knd fby tn) (fin fby tn) 7 7 ga ow un ga2_77) ∧ (flt fby tn ga2_77 2 fq2_71 pq2_72)) from Or.inr (⟨rfl, (a_94 ow un rfl rfl (by omega)), (a_95)⟩))⟩) [0, 1, 2, 3, 4, 5, 6] (by decide +kernel) rfl (Nat.le_of_ble_eq_true rfl) (Nat.le_of_ble_eq_true rfl)
    · have q_11 : 60 ≤ un := q_nlt (a := un) (b := 60) rfl rfl (by omega) (by omega) c_10
      refine lv_aload_n hx hb dX10_takeUnit_21 rfl (lv_at hl 0 rfl) ?_
      refine lv_iconst (v := 2) hx hb dX10_takeUnit_22 (by decide) ?_
      refine x_callVi (q := (RX10, TX10, 10)) (ci := 10) (q0 := 0) (wr := [wI (cy 0) t1 1600 (fby), (t2, .inl (cy 2, 24, .inr (.inl (fky)))), wO h0 4 [.ref h1, .ref h2, .ref h3, .ref h4, .ref h5, .ref h6, .ref h7, .ref h8, .ref h9, .ref h10, .ref h11, hv0, hv1, hv2, hv3, .int (nI un)], wO f0 3 [.ref f1, .ref f2, .int (nI nf), y3], wI (cy 1) f1 280 (fco)]) (rest := []) ⟨hx, hb, hml, hown, hg, hl.1⟩ k_X10_110 (s_fail l D cy d0 d1 (nI ow) wt dt vv fq pq ((.ref h0)) ((.ref f0)) t0 t1 t2 tn ta ts tk tm tr 2 (by omega)) E0_blind hK hP hD hS hA [0, 1] [2, 3, 4, 5, 6] ⟨rfl, rfl, by decide +kernel, by decide +kernel, by decide +kernel⟩ rfl rfl (fun _ _ _ => trivial) dX10_takeUnit_23 rfl rfl (Nat.le_of_ble_eq_true rfl) ⟨Nat.le_of_ble_eq_true rfl, Nat.le_of_ble_eq_true rfl⟩ ⟨Nat.le_of_ble_eq_true rfl, Nat.le_of_ble_eq_true rfl⟩ (fun zr97 zu97 H locs hw97 hP9 hD9 hS9 => ?_)
      clear hP hD hS
      obtain ⟨fq2_98, pq2_99⟩ := zu97
      refine reW [wI (cy 0) t1 1600 (fby), (t2, .inl (cy 2, 24, .inr (.inl (fky)))), wO h0 4 [.ref h1, .ref h2, .ref h3, .ref h4, .ref h5, .ref h6, .ref h7, .ref h8, .ref h9, .ref h10, .ref h11, hv0, hv1, hv2, hv3, .int (nI un)], wO f0 3 [.ref f1, .ref f2, .int (nI nf), y3], wI (cy 1) f1 280 (fco), wO d0 10 [.ref t0, .ref d1, .ref h0, .ref f0, .int (nI ow), .int wt, .int dt, .int vv, .int fq2_98, .int pq2_99], wO t0 9 [.ref t1, .ref t2, .int (nI tn), .int (nI ta), .int (nI ts), .int (nI tk), .long tm, .int tr]] hP9 hD9 hS9 (fun hP hD hS => ?_)
      clear hP9 hD9 hS9
      refine W.widen (k := 0) (n := 0) (Nat.le_of_ble_eq_true rfl) (Nat.le_of_ble_eq_true rfl) ?_
      replace hw97 : ((zr97 = 0 ∧ (fq2_98 = nI (if tk = 3 then 1 else 2)) ∧ (pq2_99 = nI ts))) := hw97
      have f_100 := hw97
      rcases f_100 with ⟨hz_103, a_101, a_102⟩
      subst hz_103
      exact x_zret hQ hx hb hr hlocks hK hP hD hS rfl dX10_takeUnit_26 (ta, ts, tk, tm, tr, fq2_98, pq2_99, ow, un, nf, fco, ga, []) (⟨(show ta ≤ tn from by omega), (show tk ≤ 123 from by omega), (show nf ≤ 280 from by omega), hfc, (show ow ≤ 30 from by omega), (show un ≤ 60 from by omega), (show ((0 : Int32) = 1 ∧ (okS (knd fby tn) (fin fby tn) (cdF fby tn) 7 7 ga ow un ga ow un ([])) ∧ (fq = fq2_98) ∧ (pq = pq2_99) ∧ (tkC fby tn ga ta ts tk tm tr) ∧ (ga < ga ∧ ga ≤ tn) ∧ (exC fco nf fco nf ([])) ∧ (nf + 2 * ow + 1 ≤ nf + 2 * ow ∧ ow < ow)) ∨ ((0 : Int32) = 0 ∧ (noS (knd fby tn) (fin fby tn) 7 7 ga ow un ga) ∧ (flt fby tn ga 2 fq2_98 pq2_99)) from Or.inr (⟨rfl, (unit_full (by omega)), (flt_of hti a_101 a_102)⟩))⟩) [5, 6, 0, 1, 2, 3, 4] (by decide +kernel) rfl (Nat.le_of_ble_eq_true rfl) (Nat.le_of_ble_eq_true rfl)
theorem gdX10_takeTerm_0 : decode cX10_takeTerm 0 = .ok (.aload_n 0, 1) ∧ decode cX10_takeTerm 1 = .ok (.iload_n 1, 1) ∧ decode cX10_takeTerm 2 = .ok (.invokevirtual 198, 3) := by decide +kernel
theorem dX10_takeTerm_0 : decode cX10_takeTerm 0 = .ok (.aload_n 0, 1) := gdX10_takeTerm_0.1
theorem dX10_takeTerm_1 : decode cX10_takeTerm 1 = .ok (.iload_n 1, 1) := gdX10_takeTerm_0.2.1
theorem dX10_takeTerm_2 : decode cX10_takeTerm 2 = .ok (.invokevirtual 198, 3) := gdX10_takeTerm_0.2.2
theorem k_X10_198 : xV RX10 RX10 198 yX10_takeUnit cX10_takeUnit 3 (some .boolean) 1 := ⟨⟨m_895, m_897, m_25, m_136, m_898⟩, rfl, by decide, by decide, by decide +kernel⟩
theorem gdX10_takeTerm_5 : decode cX10_takeTerm 5 = .ok (.istore_n 2, 1) ∧ decode cX10_takeTerm 6 = .ok (.iconst 0, 1) ∧ decode cX10_takeTerm 7 = .ok (.istore_n 3, 1) ∧ decode cX10_takeTerm 8 = .ok (.iload_n 3, 1) ∧ decode cX10_takeTerm 9 = .ok (.sipush 1600, 3) ∧ decode cX10_takeTerm 12 = .ok (.if_icmp .ge 57, 3) ∧ decode cX10_takeTerm 15 = .ok (.iload_n 2, 1) ∧ decode cX10_takeTerm 16 = .ok (.ifCond .eq 53, 3) ∧ decode cX10_takeTerm 19 = .ok (.aload_n 0, 1) ∧ decode cX10_takeTerm 20 = .ok (.getfield 16, 3) ∧ decode cX10_takeTerm 23 = .ok (.getfield 55, 3) ∧ decode cX10_takeTerm 26 = .ok (.invokestatic 201, 3) := by decide +kernel
theorem dX10_takeTerm_5 : decode cX10_takeTerm 5 = .ok (.istore_n 2, 1) := gdX10_takeTerm_5.1
theorem dX10_takeTerm_6 : decode cX10_takeTerm 6 = .ok (.iconst 0, 1) := gdX10_takeTerm_5.2.1
theorem dX10_takeTerm_7 : decode cX10_takeTerm 7 = .ok (.istore_n 3, 1) := gdX10_takeTerm_5.2.2.1
theorem dX10_takeTerm_8 : decode cX10_takeTerm 8 = .ok (.iload_n 3, 1) := gdX10_takeTerm_5.2.2.2.1
theorem dX10_takeTerm_9 : decode cX10_takeTerm 9 = .ok (.sipush 1600, 3) := gdX10_takeTerm_5.2.2.2.2.1
theorem dX10_takeTerm_12 : decode cX10_takeTerm 12 = .ok (.if_icmp .ge 57, 3) := gdX10_takeTerm_5.2.2.2.2.2.1
theorem dX10_takeTerm_15 : decode cX10_takeTerm 15 = .ok (.iload_n 2, 1) := gdX10_takeTerm_5.2.2.2.2.2.2.1
theorem dX10_takeTerm_16 : decode cX10_takeTerm 16 = .ok (.ifCond .eq 53, 3) := gdX10_takeTerm_5.2.2.2.2.2.2.2.1
theorem dX10_takeTerm_19 : decode cX10_takeTerm 19 = .ok (.aload_n 0, 1) := gdX10_takeTerm_5.2.2.2.2.2.2.2.2.1
theorem dX10_takeTerm_20 : decode cX10_takeTerm 20 = .ok (.getfield 16, 3) := gdX10_takeTerm_5.2.2.2.2.2.2.2.2.2.1
theorem dX10_takeTerm_23 : decode cX10_takeTerm 23 = .ok (.getfield 55, 3) := gdX10_takeTerm_5.2.2.2.2.2.2.2.2.2.2.1
theorem dX10_takeTerm_26 : decode cX10_takeTerm 26 = .ok (.invokestatic 201, 3) := gdX10_takeTerm_5.2.2.2.2.2.2.2.2.2.2.2
theorem k_X10_201 : xS RX10 201 yX10_isOfTerm cX10_isOfTerm 1 (some .boolean) 1 := ⟨⟨m_914, m_915, m_136, m_916⟩, by decide, by decide, by decide +kernel⟩
theorem gdX10_takeTerm_29 : decode cX10_takeTerm 29 = .ok (.ifCond .eq 40, 3) ∧ decode cX10_takeTerm 32 = .ok (.aload_n 0, 1) ∧ decode cX10_takeTerm 33 = .ok (.getfield 16, 3) ∧ decode cX10_takeTerm 36 = .ok (.getfield 55, 3) ∧ decode cX10_takeTerm 39 = .ok (.istore 4, 2) ∧ decode cX10_takeTerm 41 = .ok (.aload_n 0, 1) ∧ decode cX10_takeTerm 42 = .ok (.getfield 16, 3) ∧ decode cX10_takeTerm 45 = .ok (.invokevirtual 140, 3) ∧ decode cX10_takeTerm 48 = .ok (.aload_n 0, 1) ∧ decode cX10_takeTerm 49 = .ok (.iload_n 1, 1) ∧ decode cX10_takeTerm 50 = .ok (.invokevirtual 198, 3) ∧ decode cX10_takeTerm 53 = .ok (.istore_n 2, 1) := by decide +kernel
theorem dX10_takeTerm_29 : decode cX10_takeTerm 29 = .ok (.ifCond .eq 40, 3) := gdX10_takeTerm_29.1
theorem dX10_takeTerm_32 : decode cX10_takeTerm 32 = .ok (.aload_n 0, 1) := gdX10_takeTerm_29.2.1
theorem dX10_takeTerm_33 : decode cX10_takeTerm 33 = .ok (.getfield 16, 3) := gdX10_takeTerm_29.2.2.1
theorem dX10_takeTerm_36 : decode cX10_takeTerm 36 = .ok (.getfield 55, 3) := gdX10_takeTerm_29.2.2.2.1
theorem dX10_takeTerm_39 : decode cX10_takeTerm 39 = .ok (.istore 4, 2) := gdX10_takeTerm_29.2.2.2.2.1
theorem dX10_takeTerm_41 : decode cX10_takeTerm 41 = .ok (.aload_n 0, 1) := gdX10_takeTerm_29.2.2.2.2.2.1
theorem dX10_takeTerm_42 : decode cX10_takeTerm 42 = .ok (.getfield 16, 3) := gdX10_takeTerm_29.2.2.2.2.2.2.1
theorem dX10_takeTerm_45 : decode cX10_takeTerm 45 = .ok (.invokevirtual 140, 3) := gdX10_takeTerm_29.2.2.2.2.2.2.2.1
theorem dX10_takeTerm_48 : decode cX10_takeTerm 48 = .ok (.aload_n 0, 1) := gdX10_takeTerm_29.2.2.2.2.2.2.2.2.1
theorem dX10_takeTerm_49 : decode cX10_takeTerm 49 = .ok (.iload_n 1, 1) := gdX10_takeTerm_29.2.2.2.2.2.2.2.2.2.1
theorem dX10_takeTerm_50 : decode cX10_takeTerm 50 = .ok (.invokevirtual 198, 3) := gdX10_takeTerm_29.2.2.2.2.2.2.2.2.2.2.1
theorem dX10_takeTerm_53 : decode cX10_takeTerm 53 = .ok (.istore_n 2, 1) := gdX10_takeTerm_29.2.2.2.2.2.2.2.2.2.2.2
theorem gdX10_takeTerm_54 : decode cX10_takeTerm 54 = .ok (.aload_n 0, 1) ∧ decode cX10_takeTerm 55 = .ok (.getfield 34, 3) ∧ decode cX10_takeTerm 58 = .ok (.iload 4, 2) ∧ decode cX10_takeTerm 60 = .ok (.invokevirtual 182, 3) := by decide +kernel
theorem dX10_takeTerm_54 : decode cX10_takeTerm 54 = .ok (.aload_n 0, 1) := gdX10_takeTerm_54.1
theorem dX10_takeTerm_55 : decode cX10_takeTerm 55 = .ok (.getfield 34, 3) := gdX10_takeTerm_54.2.1
theorem dX10_takeTerm_58 : decode cX10_takeTerm 58 = .ok (.iload 4, 2) := gdX10_takeTerm_54.2.2.1
theorem dX10_takeTerm_60 : decode cX10_takeTerm 60 = .ok (.invokevirtual 182, 3) := gdX10_takeTerm_54.2.2.2
theorem k_X10_182 : xV RX10 RX3 182 yX3_addDeed cX3_addDeed 2 none 1 := ⟨⟨m_879, m_880, m_881, m_138, m_882⟩, rfl, by decide, by decide, by decide +kernel⟩
theorem gdX10_takeTerm_63 : decode cX10_takeTerm 63 = .ok (.iinc 3 1, 3) ∧ decode cX10_takeTerm 66 = .ok (.goto (-58), 3) ∧ decode cX10_takeTerm 69 = .ok (.iload_n 2, 1) ∧ decode cX10_takeTerm 70 = .ok (.ireturn, 1) := by decide +kernel
theorem dX10_takeTerm_63 : decode cX10_takeTerm 63 = .ok (.iinc 3 1, 3) := gdX10_takeTerm_63.1
theorem dX10_takeTerm_66 : decode cX10_takeTerm 66 = .ok (.goto (-58), 3) := gdX10_takeTerm_63.2.1
theorem dX10_takeTerm_69 : decode cX10_takeTerm 69 = .ok (.iload_n 2, 1) := gdX10_takeTerm_63.2.2.1
theorem dX10_takeTerm_70 : decode cX10_takeTerm 70 = .ok (.ireturn, 1) := gdX10_takeTerm_63.2.2.2
set_option maxHeartbeats 1000000 in
set_option maxRecDepth 100000 in
theorem s_takeTerm7 (l : Launch) (D : va_G) (cy : Nat → ClassId) (adK : Nat → Nat) (adV : Nat → Nat) (d0 : Nat) (d1 : Nat) (wt : Int32) (dt : Int32) (vv : Int32) (fq : Int32) (pq : Int32) (t0 : Nat) (t1 : Nat) (t2 : Nat) (tn : Nat) (ta : Nat) (ts : Nat) (tk : Nat) (tm : Int64) (tr : Int32) (fby : Nat → Int32) (fky : Nat → Int64) (h0 : Nat) (h1 : Nat) (h2 : Nat) (h3 : Nat) (h4 : Nat) (h5 : Nat) (h6 : Nat) (h7 : Nat) (h8 : Nat) (h9 : Nat) (h10 : Nat) (h11 : Nat) (hv0 : Value) (hv1 : Value) (hv2 : Value) (hv3 : Value) (ow : Nat) (un : Nat) (f0 : Nat) (f1 : Nat) (f2 : Nat) (nf : Nat) (y3 : Value) (fco : Nat → Int32) (ga : Nat) (htn : tn ≤ 1600) (hta : ta ≤ tn) (htk : tk ≤ 123) (hti : tkC fby tn ga ta ts tk tm tr) (hky : kyOK fky) (hnf : nf ≤ 280) (hfc : cOK fco nf) (how : ow ≤ 30) (hun : un ≤ 60) (hga : ga ≤ tn) (hrm : nf + 60 ≤ 280 + 2 * ow) : XMi l D (tyL cy) (EV adK adV) yX10_takeTerm cX10_takeTerm 5 (some .boolean) (rmk 8 0 0) [.ref d0, .int 7] [wO d0 10 [.ref t0, .ref d1, .ref h0, .ref f0, .int (nI ow), .int wt, .int dt, .int vv, .int fq, .int pq], wO t0 9 [.ref t1, .ref t2, .int (nI tn), .int (nI ta), .int (nI ts), .int (nI tk), .long tm, .int tr], wI (cy 0) t1 1600 (fby), (t2, .inl (cy 2, 24, .inr (.inl (fky)))), wO h0 4 [.ref h1, .ref h2, .ref h3, .ref h4, .ref h5, .ref h6, .ref h7, .ref h8, .ref h9, .ref h10, .ref h11, hv0, hv1, hv2, hv3, .int (nI un)], wO f0 3 [.ref f1, .ref f2, .int (nI nf), y3], wI (cy 1) f1 280 (fco)] (fun (r : Int32) (u : Nat × Nat × Nat × Int64 × Int32 × Int32 × Int32 × Nat × Nat × Nat × (Nat → Int32) × Nat × (List Int32)) => (u.1 ≤ tn) ∧ (u.2.2.1 ≤ 123) ∧ (u.2.2.2.2.2.2.2.2.2.1 ≤ 280) ∧ (cOK u.2.2.2.2.2.2.2.2.2.2.1 u.2.2.2.2.2.2.2.2.2.1) ∧ (u.2.2.2.2.2.2.2.1 ≤ 30) ∧ (u.2.2.2.2.2.2.2.2.1 ≤ 60) ∧ ((r = 1 ∧ (okS (knd fby tn) (fin fby tn) (cdF fby tn) 6 7 ga ow un u.2.2.2.2.2.2.2.2.2.2.2.1 u.2.2.2.2.2.2.2.1 u.2.2.2.2.2.2.2.2.1 u.2.2.2.2.2.2.2.2.2.2.2.2) ∧ (fq = u.2.2.2.2.2.1) ∧ (pq = u.2.2.2.2.2.2.1) ∧ (tkC fby tn u.2.2.2.2.2.2.2.2.2.2.2.1 u.1 u.2.1 u.2.2.1 u.2.2.2.1 u.2.2.2.2.1) ∧ (ga < u.2.2.2.2.2.2.2.2.2.2.2.1 ∧ u.2.2.2.2.2.2.2.2.2.2.2.1 ≤ tn) ∧ (exC fco nf u.2.2.2.2.2.2.2.2.2.2.1 u.2.2.2.2.2.2.2.2.2.1 u.2.2.2.2.2.2.2.2.2.2.2.2) ∧ (u.2.2.2.2.2.2.2.2.2.1 + 2 * ow + 1 ≤ nf + 2 * u.2.2.2.2.2.2.2.1 ∧ ow < u.2.2.2.2.2.2.2.1)) ∨ (r = 0 ∧ (noS (knd fby tn) (fin fby tn) 6 7 ga ow un u.2.2.2.2.2.2.2.2.2.2.2.1) ∧ (flt fby tn u.2.2.2.2.2.2.2.2.2.2.2.1 2 u.2.2.2.2.2.1 u.2.2.2.2.2.2.1)))) (fun (u : Nat × Nat × Nat × Int64 × Int32 × Int32 × Int32 × Nat × Nat × Nat × (Nat → Int32) × Nat × (List Int32)) => [wO d0 10 [.ref t0, .ref d1, .ref h0, .ref f0, .int (nI u.2.2.2.2.2.2.2.1), .int wt, .int dt, .int vv, .int u.2.2.2.2.2.1, .int u.2.2.2.2.2.2.1], wO t0 9 [.ref t1, .ref t2, .int (nI tn), .int (nI u.1), .int (nI u.2.1), .int (nI u.2.2.1), .long u.2.2.2.1, .int u.2.2.2.2.1], wI (cy 0) t1 1600 (fby), (t2, .inl (cy 2, 24, .inr (.inl (fky)))), wO h0 4 [.ref h1, .ref h2, .ref h3, .ref h4, .ref h5, .ref h6, .ref h7, .ref h8, .ref h9, .ref h10, .ref h11, hv0, hv1, hv2, hv3, .int (nI u.2.2.2.2.2.2.2.2.1)], wO f0 3 [.ref f1, .ref f2, .int (nI u.2.2.2.2.2.2.2.2.2.1), y3], wI (cy 1) f1 280 (u.2.2.2.2.2.2.2.2.2.2.1)]) := by
  refine XMi.start (by decide) (Nat.le_of_ble_eq_true rfl) ?_
  intro p e s m below meth c args A ls Q hat hQ
  obtain ⟨hx, hb, hr, hml, hown, hg, hlocks, hin, hK, hA, hP, hD, hS, hE, hl⟩ := hat
  have hown : s.vm.findClass RX10 = some m.cls := hown
  have hl : lv_has ls 5 [(0, .ref d0), (1, .int 7)] := hl
  refine lv_aload_n hx hb dX10_takeTerm_0 rfl (lv_at hl 0 rfl) ?_
  refine lv_iload_n hx hb dX10_takeTerm_1 rfl (lv_at hl 1 rfl) ?_
  refine x_callVi (q := (RX10, TX10, 10)) (ci := 10) (q0 := 0) (wr := []) (rest := []) ⟨hx, hb, hml, hown, hg, hl.1⟩ k_X10_198 (s_takeUnit7 l D cy adK adV d0 d1 wt dt vv fq pq t0 t1 t2 tn ta ts tk tm tr fby fky h0 h1 h2 h3 h4 h5 h6 h7 h8 h9 h10 h11 hv0 hv1 hv2 hv3 ow un f0 f1 f2 nf y3 fco ga (by omega) (by omega) (by omega) (hti) (hky) (by omega) (hfc) (by omega) (by omega) (by omega) (by omega)) EV_blind hK hP hD hS hA [0, 1, 2, 3, 4, 5, 6] [] ⟨rfl, rfl, by decide +kernel, by decide +kernel, by decide +kernel⟩ rfl rfl (fun U hU hW => EV_pass hE hS (va_free hD hS hA [0, 1, 2, 3, 4, 5, 6] rfl) hU hW) dX10_takeTerm_2 rfl rfl (Nat.le_of_ble_eq_true rfl) ⟨Nat.le_of_ble_eq_true rfl, Nat.le_of_ble_eq_true rfl⟩ ⟨Nat.le_of_ble_eq_true rfl, Nat.le_of_ble_eq_true rfl⟩ (fun zr1 zu1 H locs hw1 hP9 hD9 hS9 => ?_)
  clear hP hD hS
  obtain ⟨ta2_2, ts2_3, tk2_4, tm2_5, tr2_6, fq2_7, pq2_8, ow2_9, un2_10, nf2_11, fco2_12, ga2_13, nw2_14⟩ := zu1
  refine reW [wO d0 10 [.ref t0, .ref d1, .ref h0, .ref f0, .int (nI ow2_9), .int wt, .int dt, .int vv, .int fq2_7, .int pq2_8], wO t0 9 [.ref t1, .ref t2, .int (nI tn), .int (nI ta2_2), .int (nI ts2_3), .int (nI tk2_4), .long tm2_5, .int tr2_6], wI (cy 0) t1 1600 (fby), (t2, .inl (cy 2, 24, .inr (.inl (fky)))), wO h0 4 [.ref h1, .ref h2, .ref h3, .ref h4, .ref h5, .ref h6, .ref h7, .ref h8, .ref h9, .ref h10, .ref h11, hv0, hv1, hv2, hv3, .int (nI un2_10)], wO f0 3 [.ref f1, .ref f2, .int (nI nf2_11), y3], wI (cy 1) f1 280 (fco2_12)] hP9 hD9 hS9 (fun hP hD hS => ?_)
  clear hP9 hD9 hS9
  refine W.widen (k := 0) (n := 0) (Nat.le_of_ble_eq_true rfl) (Nat.le_of_ble_eq_true rfl) ?_
  replace hw1 : (ta2_2 ≤ tn) ∧ (tk2_4 ≤ 123) ∧ (nf2_11 ≤ 280) ∧ (cOK fco2_12 nf2_11) ∧ (ow2_9 ≤ 30) ∧ (un2_10 ≤ 60) ∧ ((zr1 = 1 ∧ (okS (knd fby tn) (fin fby tn) (cdF fby tn) 7 7 ga ow un ga2_13 ow2_9 un2_10 nw2_14) ∧ (fq = fq2_7) ∧ (pq = pq2_8) ∧ (tkC fby tn ga2_13 ta2_2 ts2_3 tk2_4 tm2_5 tr2_6) ∧ (ga < ga2_13 ∧ ga2_13 ≤ tn) ∧ (exC fco nf fco2_12 nf2_11 nw2_14) ∧ (nf2_11 + 2 * ow + 1 ≤ nf + 2 * ow2_9 ∧ ow < ow2_9)) ∨ (zr1 = 0 ∧ (noS (knd fby tn) (fin fby tn) 7 7 ga ow un ga2_13) ∧ (flt fby tn ga2_13 2 fq2_7 pq2_8))) := hw1
  obtain ⟨f_15, f_16, f_17, f_18, f_19, f_20, f_21⟩ := hw1
  refine lv_istore_n (lv' := [(2, .int zr1), (0, .ref d0), (1, .int 7)]) hx hb dX10_takeTerm_5 rfl hl (by decide) rfl (fun ls hl => ?_)
  refine lv_iconst (v := 0) hx hb dX10_takeTerm_6 (by decide) ?_
  refine lv_istore_n (lv' := [(3, .int 0), (2, .int zr1), (0, .ref d0), (1, .int 7)]) hx hb dX10_takeTerm_7 rfl hl (by decide) rfl (fun ls hl => ?_)
  have loop22 : ∀ (zn : Nat) (lb2_22 : Int32) (i22 : Nat) (aq22 : Nat) (sq22 : Nat) (kq22 : Nat) (fl5_22 : Int64) (rq22 : Int32) (oq22 : Nat) (fz22 : Int32) (pz22 : Int32) (uq22 : Nat) (nq22 : Nat) (gq22 : Nat) (nw22 : List Int32) (fa14_22 : Nat → Int32), (cOK fa14_22 nq22) → (i22 ≤ 1600) → (aq22 ≤ tn) → (kq22 ≤ 123) → (nq22 ≤ 280) → (oq22 ≤ 30) → (uq22 ≤ 60) → ((lb2_22 = 1 ∧ inS (knd fby tn) (fin fby tn) (cdF fby tn) 6 7 7 ga ow un gq22 oq22 uq22 nw22 ∧ tkC fby tn gq22 aq22 sq22 kq22 fl5_22 rq22 ∧ ga < gq22 ∧ gq22 ≤ tn ∧ i22 < gq22 ∧ fq = fz22 ∧ pq = pz22 ∧ exC fco nf fa14_22 nq22 nw22 ∧ nq22 + 2 * ow + 1 ≤ nf + 2 * oq22 ∧ ow < oq22) ∨ (lb2_22 = 0 ∧ noS (knd fby tn) (fin fby tn) 6 7 ga ow un gq22 ∧ flt fby tn gq22 2 fz22 pz22)) → 1600 - i22 + 1 ≤ zn → ∀ (H : Heap) (locs : List Loc), va_P D vwCl [wO d0 10 [.ref t0, .ref d1, .ref h0, .ref f0, .int (nI oq22), .int wt, .int dt, .int vv, .int fz22, .int pz22], wO t0 9 [.ref t1, .ref t2, .int (nI tn), .int (nI aq22), .int (nI sq22), .int (nI kq22), .long fl5_22, .int rq22], wI (cy 0) t1 1600 (fby), (t2, .inl (cy 2, 24, .inr (.inl (fky)))), wO h0 4 [.ref h1, .ref h2, .ref h3, .ref h4, .ref h5, .ref h6, .ref h7, .ref h8, .ref h9, .ref h10, .ref h11, hv0, hv1, hv2, hv3, .int (nI uq22)], wO f0 3 [.ref f1, .ref f2, .int (nI nq22), y3], wI (cy 1) f1 280 (fa14_22)] H → va_D A [wO d0 10 [.ref t0, .ref d1, .ref h0, .ref f0, .int (nI oq22), .int wt, .int dt, .int vv, .int fz22, .int pz22], wO t0 9 [.ref t1, .ref t2, .int (nI tn), .int (nI aq22), .int (nI sq22), .int (nI kq22), .long fl5_22, .int rq22], wI (cy 0) t1 1600 (fby), (t2, .inl (cy 2, 24, .inr (.inl (fky)))), wO h0 4 [.ref h1, .ref h2, .ref h3, .ref h4, .ref h5, .ref h6, .ref h7, .ref h8, .ref h9, .ref h10, .ref h11, hv0, hv1, hv2, hv3, .int (nI uq22)], wO f0 3 [.ref f1, .ref f2, .int (nI nq22), y3], wI (cy 1) f1 280 (fa14_22)] → va_S A s.heap H locs → ∀ ls : Array Slot, lv_has ls 5 [(3, .int (nI i22)), (2, .int lb2_22), (0, .ref d0), (1, .int 7)] → W p l e (rmk 8 0 0) s m args below meth c H locs 0 0 Q (F0 m 8 ls []) := by
    try clear hP hD hS
    intro zn
    induction zn with
    | zero => intro lb2_22 i22 aq22 sq22 kq22 fl5_22 rq22 oq22 fz22 pz22 uq22 nq22 gq22 nw22 fa14_22 _ _ _ _ _ _ _ _ hz; exact absurd hz (by omega)
    | succ zn ih22 =>
      intro lb2_22 i22 aq22 sq22 kq22 fl5_22 rq22 oq22 fz22 pz22 uq22 nq22 gq22 nw22 fa14_22 ha15_22 hf0_22 hf1_22 hf2_22 hf3_22 hf4_22 hf5_22 hf6_22 hmu22 H locs hP hD hS ls hl
      rcases hf6_22 with ⟨hlb, hin9, htk9, hg1, hg2, hg3, hfz, hpz, hex9, hln9⟩ | ⟨hlb, hno9, hfl9⟩
      · subst hlb hfz hpz
        refine lv_iload_n hx hb dX10_takeTerm_8 rfl (lv_at hl 0 rfl) ?_
        refine lv_sipush (v := 1600) hx hb dX10_takeTerm_9 (by decide) ?_
        refine lv_icmp_ge (tgt := 69) hx hb dX10_takeTerm_12 (by decide) (fun c_23 => ?_) (fun c_23 => ?_)
        · have q_24 : 1600 ≤ i22 := q_le (a := 1600) (b := i22) rfl rfl (by omega) (by omega) c_23
          exact absurd q_24 (by omega)
        · have q_24 : i22 < 1600 := q_nle (a := 1600) (b := i22) rfl rfl (by omega) (by omega) c_23
          refine lv_iload_n hx hb dX10_takeTerm_15 rfl (lv_at hl 1 rfl) ?_
          refine lv_if_eq (tgt := 69) hx hb dX10_takeTerm_16 (by decide) (fun h => absurd h (by decide)) (fun _ => ?_)
          refine lv_aload_n hx hb dX10_takeTerm_19 rfl (lv_at hl 2 rfl) ?_
          refine va_get (D := D) (ci := 10) (v := .ref t0) (C := RX10) (T := TX10) (N := 10) hx hb hg i_X10 hown hK hP 0 rfl rfl 0 (by decide) (hg _ m_255) (fun _ h9 => h9) rfl dX10_takeTerm_20 ?_
          refine va_get (D := D) (ci := 9) (v := .int (nI kq22)) (C := RX9) (T := TX9) (N := 8) hx hb hg i_X9 hown hK hP 1 rfl rfl 5 (by decide) (hg _ m_222) (fun _ h9 => h9) rfl dX10_takeTerm_23 ?_
          refine x_callSi (wr := [wO d0 10 [.ref t0, .ref d1, .ref h0, .ref f0, .int (nI oq22), .int wt, .int dt, .int vv, .int fq, .int pq], wO t0 9 [.ref t1, .ref t2, .int (nI tn), .int (nI aq22), .int (nI sq22), .int (nI kq22), .long fl5_22, .int rq22], wI (cy 0) t1 1600 (fby), (t2, .inl (cy 2, 24, .inr (.inl (fky)))), wO h0 4 [.ref h1, .ref h2, .ref h3, .ref h4, .ref h5, .ref h6, .ref h7, .ref h8, .ref h9, .ref h10, .ref h11, hv0, hv1, hv2, hv3, .int (nI uq22)], wO f0 3 [.ref f1, .ref f2, .int (nI nq22), y3], wI (cy 1) f1 280 (fa14_22)]) (rest := []) ⟨hx, hb, hml, hown, hg, hl.1⟩ k_X10_201 (s_isOfTerm l D cy kq22 (by omega)) E0_blind hK hP hD hS hA [] [0, 1, 2, 3, 4, 5, 6] ⟨rfl, rfl, by decide +kernel, by decide +kernel, by decide +kernel⟩ (fun _ _ _ => trivial) dX10_takeTerm_26 rfl rfl (Nat.le_of_ble_eq_true rfl) ⟨Nat.le_of_ble_eq_true rfl, Nat.le_of_ble_eq_true rfl⟩ ⟨Nat.le_of_ble_eq_true rfl, Nat.le_of_ble_eq_true rfl⟩ (fun zr25 zu25 H locs hw25 hP9 hD9 hS9 => ?_)
          clear hP hD hS
          refine reW [wO d0 10 [.ref t0, .ref d1, .ref h0, .ref f0, .int (nI oq22), .int wt, .int dt, .int vv, .int fq, .int pq], wO t0 9 [.ref t1, .ref t2, .int (nI tn), .int (nI aq22), .int (nI sq22), .int (nI kq22), .long fl5_22, .int rq22], wI (cy 0) t1 1600 (fby), (t2, .inl (cy 2, 24, .inr (.inl (fky)))), wO h0 4 [.ref h1, .ref h2, .ref h3, .ref h4, .ref h5, .ref h6, .ref h7, .ref h8, .ref h9, .ref h10, .ref h11, hv0, hv1, hv2, hv3, .int (nI uq22)], wO f0 3 [.ref f1, .ref f2, .int (nI nq22), y3], wI (cy 1) f1 280 (fa14_22)] hP9 hD9 hS9 (fun hP hD hS => ?_)
          clear hP9 hD9 hS9
          refine W.widen (k := 0) (n := 0) (Nat.le_of_ble_eq_true rfl) (Nat.le_of_ble_eq_true rfl) ?_
          replace hw25 : ((zr25 = 1 ∧ (kq22 = 42 ∨ kq22 = 47 ∨ kq22 = 37)) ∨ (zr25 = 0 ∧ (¬ (kq22 = 42 ∨ kq22 = 47 ∨ kq22 = 37)))) := hw25
          have f_26 := hw25
          rcases f_26 with ⟨hz_28, a_27⟩ | ⟨hz_30, a_29⟩
          · subst hz_28
            refine lv_if_eq (tgt := 69) hx hb dX10_takeTerm_29 (by decide) (fun h => absurd h (by decide)) (fun _ => ?_)
            have hkk : kq22 = knd fby tn gq22 := by have h9 := htk9.2.2.1; omega
            have hop := sg_6 (show knd fby tn gq22 = 42 ∨ knd fby tn gq22 = 47 ∨ knd fby tn gq22 = 37 from by have h9 := htk9.2.2.1; omega)
            have hgt_31 : gq22 < fin fby tn gq22 ∧ fin fby tn gq22 ≤ tn := ⟨fin_gt (by have h9 := htk9.2.2.1; omega), fin_le (by omega)⟩
            refine lv_aload_n hx hb dX10_takeTerm_32 rfl (lv_at hl 2 rfl) ?_
            refine va_get (D := D) (ci := 10) (v := .ref t0) (C := RX10) (T := TX10) (N := 10) hx hb hg i_X10 hown hK hP 0 rfl rfl 0 (by decide) (hg _ m_255) (fun _ h9 => h9) rfl dX10_takeTerm_33 ?_
            refine va_get (D := D) (ci := 9) (v := .int (nI kq22)) (C := RX9) (T := TX9) (N := 8) hx hb hg i_X9 hown hK hP 1 rfl rfl 5 (by decide) (hg _ m_222) (fun _ h9 => h9) rfl dX10_takeTerm_36 ?_
            refine lv_istore (lv' := [(4, .int (nI kq22)), (3, .int (nI i22)), (2, .int 1), (0, .ref d0), (1, .int 7)]) hx hb dX10_takeTerm_39 hl (by decide) rfl (fun ls hl => ?_)
            refine lv_aload_n hx hb dX10_takeTerm_41 rfl (lv_at hl 3 rfl) ?_
            refine va_get (D := D) (ci := 10) (v := .ref t0) (C := RX10) (T := TX10) (N := 10) hx hb hg i_X10 hown hK hP 0 rfl rfl 0 (by decide) (hg _ m_255) (fun _ h9 => h9) rfl dX10_takeTerm_42 ?_
            refine x_callVv (q := (RX9, TX9, 8)) (ci := 9) (q0 := 0) (wr := [wO d0 10 [.ref t0, .ref d1, .ref h0, .ref f0, .int (nI oq22), .int wt, .int dt, .int vv, .int fq, .int pq], wO h0 4 [.ref h1, .ref h2, .ref h3, .ref h4, .ref h5, .ref h6, .ref h7, .ref h8, .ref h9, .ref h10, .ref h11, hv0, hv1, hv2, hv3, .int (nI uq22)], wO f0 3 [.ref f1, .ref f2, .int (nI nq22), y3], wI (cy 1) f1 280 (fa14_22)]) (rest := []) ⟨hx, hb, hml, hown, hg, hl.1⟩ k_X10_140 (s_next l D cy adK adV t0 t1 t2 tn aq22 sq22 kq22 fl5_22 rq22 fby fky (fin fby tn gq22) (by omega) (by omega) (htk9.2.1) (hky)) EV_blind hK hP hD hS hA [1, 2, 3] [0, 4, 5, 6] ⟨rfl, rfl, by decide +kernel, by decide +kernel, by decide +kernel⟩ rfl rfl (fun U hU hW => EV_pass hE hS (va_free hD hS hA [1, 2, 3] rfl) hU hW) dX10_takeTerm_45 rfl rfl (Nat.le_of_ble_eq_true rfl) ⟨Nat.le_of_ble_eq_true rfl, Nat.le_of_ble_eq_true rfl⟩ ⟨Nat.le_of_ble_eq_true rfl, Nat.le_of_ble_eq_true rfl⟩ (fun zu32 H locs hw32 hP9 hD9 hS9 => ?_)
            clear hP hD hS
            obtain ⟨ta2_33, ts2_34, tk2_35, tm2_36, tr2_37⟩ := zu32
            refine reW [wO d0 10 [.ref t0, .ref d1, .ref h0, .ref f0, .int (nI oq22), .int wt, .int dt, .int vv, .int fq, .int pq], wO h0 4 [.ref h1, .ref h2, .ref h3, .ref h4, .ref h5, .ref h6, .ref h7, .ref h8, .ref h9, .ref h10, .ref h11, hv0, hv1, hv2, hv3, .int (nI uq22)], wO f0 3 [.ref f1, .ref f2, .int (nI nq22), y3], wI (cy 1) f1 280 (fa14_22), wO t0 9 [.ref t1, .ref t2, .int (nI tn), .int (nI ta2_33), .int (nI ts2_34), .int (nI tk2_35), .long tm2_36, .int tr2_37], wI (cy 0) t1 1600 (fby), (t2, .inl (cy 2, 24, .inr (.inl (fky))))] hP9 hD9 hS9 (fun hP hD hS => ?_)
            clear hP9 hD9 hS9
            refine W.widen (k := 0) (n := 0) (Nat.le_of_ble_eq_true rfl) (Nat.le_of_ble_eq_true rfl) ?_
            replace hw32 : (ta2_33 ≤ tn) ∧ (tk2_35 ≤ 123) ∧ (tkC fby tn (fin fby tn gq22) ta2_33 ts2_34 tk2_35 tm2_36 tr2_37) := hw32
            obtain ⟨f_38, f_39, f_40⟩ := hw32
            refine lv_aload_n hx hb dX10_takeTerm_48 rfl (lv_at hl 3 rfl) ?_
            refine lv_iload_n hx hb dX10_takeTerm_49 rfl (lv_at hl 4 rfl) ?_
            refine x_callVi (q := (RX10, TX10, 10)) (ci := 10) (q0 := 0) (wr := []) (rest := []) ⟨hx, hb, hml, hown, hg, hl.1⟩ k_X10_198 (s_takeUnit7 l D cy adK adV d0 d1 wt dt vv fq pq t0 t1 t2 tn ta2_33 ts2_34 tk2_35 tm2_36 tr2_37 fby fky h0 h1 h2 h3 h4 h5 h6 h7 h8 h9 h10 h11 hv0 hv1 hv2 hv3 oq22 uq22 f0 f1 f2 nq22 y3 fa14_22 (fin fby tn gq22) (by omega) (by omega) (by omega) (f_40) (hky) (by omega) (ha15_22) (by omega) (by omega) (by omega) (by omega)) EV_blind hK hP hD hS hA [0, 4, 5, 6, 1, 2, 3] [] ⟨rfl, rfl, by decide +kernel, by decide +kernel, by decide +kernel⟩ rfl rfl (fun U hU hW => EV_pass hE hS (va_free hD hS hA [0, 4, 5, 6, 1, 2, 3] rfl) hU hW) dX10_takeTerm_50 rfl rfl (Nat.le_of_ble_eq_true rfl) ⟨Nat.le_of_ble_eq_true rfl, Nat.le_of_ble_eq_true rfl⟩ ⟨Nat.le_of_ble_eq_true rfl, Nat.le_of_ble_eq_true rfl⟩ (fun zr41 zu41 H locs hw41 hP9 hD9 hS9 => ?_)
            clear hP hD hS
            obtain ⟨ta2_42, ts2_43, tk2_44, tm2_45, tr2_46, fq2_47, pq2_48, ow2_49, un2_50, nf2_51, fco2_52, ga2_53, nw2_54⟩ := zu41
            refine reW [wO d0 10 [.ref t0, .ref d1, .ref h0, .ref f0, .int (nI ow2_49), .int wt, .int dt, .int vv, .int fq2_47, .int pq2_48], wO t0 9 [.ref t1, .ref t2, .int (nI tn), .int (nI ta2_42), .int (nI ts2_43), .int (nI tk2_44), .long tm2_45, .int tr2_46], wI (cy 0) t1 1600 (fby), (t2, .inl (cy 2, 24, .inr (.inl (fky)))), wO h0 4 [.ref h1, .ref h2, .ref h3, .ref h4, .ref h5, .ref h6, .ref h7, .ref h8, .ref h9, .ref h10, .ref h11, hv0, hv1, hv2, hv3, .int (nI un2_50)], wO f0 3 [.ref f1, .ref f2, .int (nI nf2_51), y3], wI (cy 1) f1 280 (fco2_52)] hP9 hD9 hS9 (fun hP hD hS => ?_)
            clear hP9 hD9 hS9
            refine W.widen (k := 0) (n := 0) (Nat.le_of_ble_eq_true rfl) (Nat.le_of_ble_eq_true rfl) ?_
            replace hw41 : (ta2_42 ≤ tn) ∧ (tk2_44 ≤ 123) ∧ (nf2_51 ≤ 280) ∧ (cOK fco2_52 nf2_51) ∧ (ow2_49 ≤ 30) ∧ (un2_50 ≤ 60) ∧ ((zr41 = 1 ∧ (okS (knd fby tn) (fin fby tn) (cdF fby tn) 7 7 (fin fby tn gq22) oq22 uq22 ga2_53 ow2_49 un2_50 nw2_54) ∧ (fq = fq2_47) ∧ (pq = pq2_48) ∧ (tkC fby tn ga2_53 ta2_42 ts2_43 tk2_44 tm2_45 tr2_46) ∧ ((fin fby tn gq22) < ga2_53 ∧ ga2_53 ≤ tn) ∧ (exC fa14_22 nq22 fco2_52 nf2_51 nw2_54) ∧ (nf2_51 + 2 * oq22 + 1 ≤ nq22 + 2 * ow2_49 ∧ oq22 < ow2_49)) ∨ (zr41 = 0 ∧ (noS (knd fby tn) (fin fby tn) 7 7 (fin fby tn gq22) oq22 uq22 ga2_53) ∧ (flt fby tn ga2_53 2 fq2_47 pq2_48))) := hw41
            obtain ⟨f_55, f_56, f_57, f_58, f_59, f_60, f_61⟩ := hw41
            rcases f_61 with ⟨hz_69, a_62, a_63, a_64, a_65, a_66, a_67, a_68⟩ | ⟨hz_72, a_70, a_71⟩
            · subst hz_69
              subst a_63
              subst a_64
              have hg_a_66 := a_66
              have hl_a_68 := a_68
              refine lv_istore_n (lv' := [(2, .int 1), (4, .int (nI kq22)), (3, .int (nI i22)), (0, .ref d0), (1, .int 7)]) hx hb dX10_takeTerm_53 rfl hl (by decide) rfl (fun ls hl => ?_)
              refine lv_aload_n hx hb dX10_takeTerm_54 rfl (lv_at hl 3 rfl) ?_
              refine va_get (D := D) (ci := 10) (v := .ref f0) (C := RX10) (T := TX10) (N := 10) hx hb hg i_X10 hown hK hP 0 rfl rfl 3 (by decide) (hg _ m_258) (fun _ h9 => h9) rfl dX10_takeTerm_55 ?_
              refine lv_iload hx hb dX10_takeTerm_58 (lv_at hl 1 rfl) ?_
              refine x_callVv (q := (RX3, TX3, 4)) (ci := 3) (q0 := 0) (wr := [wO d0 10 [.ref t0, .ref d1, .ref h0, .ref f0, .int (nI ow2_49), .int wt, .int dt, .int vv, .int fq, .int pq], wO t0 9 [.ref t1, .ref t2, .int (nI tn), .int (nI ta2_42), .int (nI ts2_43), .int (nI tk2_44), .long tm2_45, .int tr2_46], wI (cy 0) t1 1600 (fby), (t2, .inl (cy 2, 24, .inr (.inl (fky)))), wO h0 4 [.ref h1, .ref h2, .ref h3, .ref h4, .ref h5, .ref h6, .ref h7, .ref h8, .ref h9, .ref h10, .ref h11, hv0, hv1, hv2, hv3, .int (nI un2_50)]]) (rest := []) ⟨hx, hb, hml, hown, hg, hl.1⟩ k_X10_182 (s_addDeed9 l D cy f0 f1 f2 nf2_51 y3 fco2_52 kq22 (by omega) (f_58) (by omega)) E0_blind hK hP hD hS hA [5, 6] [0, 1, 2, 3, 4] ⟨rfl, rfl, by decide +kernel, by decide +kernel, by decide +kernel⟩ rfl rfl (fun _ _ _ => trivial) dX10_takeTerm_60 rfl rfl (Nat.le_of_ble_eq_true rfl) ⟨Nat.le_of_ble_eq_true rfl, Nat.le_of_ble_eq_true rfl⟩ ⟨Nat.le_of_ble_eq_true rfl, Nat.le_of_ble_eq_true rfl⟩ (fun zu73 H locs hw73 hP9 hD9 hS9 => ?_)
              clear hP hD hS
              obtain ⟨n2_74, fc2_75⟩ := zu73
              refine reW [wO d0 10 [.ref t0, .ref d1, .ref h0, .ref f0, .int (nI ow2_49), .int wt, .int dt, .int vv, .int fq, .int pq], wO t0 9 [.ref t1, .ref t2, .int (nI tn), .int (nI ta2_42), .int (nI ts2_43), .int (nI tk2_44), .long tm2_45, .int tr2_46], wI (cy 0) t1 1600 (fby), (t2, .inl (cy 2, 24, .inr (.inl (fky)))), wO h0 4 [.ref h1, .ref h2, .ref h3, .ref h4, .ref h5, .ref h6, .ref h7, .ref h8, .ref h9, .ref h10, .ref h11, hv0, hv1, hv2, hv3, .int (nI un2_50)], wO f0 3 [.ref f1, .ref f2, .int (nI n2_74), y3], wI (cy 1) f1 280 (fc2_75)] hP9 hD9 hS9 (fun hP hD hS => ?_)
              clear hP9 hD9 hS9
              refine W.widen (k := 0) (n := 0) (Nat.le_of_ble_eq_true rfl) (Nat.le_of_ble_eq_true rfl) ?_
              replace hw73 : (n2_74 = nf2_51 + 1) ∧ (cOK fc2_75 n2_74) ∧ (exC fco2_52 nf2_51 fc2_75 n2_74 [nI (20000 + kq22)]) := hw73
              obtain ⟨f_76, f_77, f_78⟩ := hw73
              refine lv_iinc (v := nI (i22 + 1)) (lv' := [(3, .int (nI (i22 + 1))), (2, .int 1), (4, .int (nI kq22)), (0, .ref d0), (1, .int 7)]) hx hb dX10_takeTerm_63 hl (k := 2) rfl (nI_add i22 1) (by decide) rfl (fun ls hl => ?_)
              refine lv_goto (tgt := 8) hx hb dX10_takeTerm_66 (by decide) ?_
              exact ih22  1 ((i22 + 1)) ta2_42 ts2_43 tk2_44 tm2_45 tr2_46 ow2_49 fq pq un2_50 n2_74 ga2_53 ((nw22 ++ (nw2_54 ++ [ded (sgM (knd fby tn gq22))]))) fc2_75 f_77 (by omega) (by omega) (by omega) (by omega) (by omega) (by omega) (Or.inl ⟨rfl, inS_step lvP67 hin9 hop.1 hop.2 a_62, a_65, by omega, by omega, by omega, rfl, rfl, (exC_tr hex9 (exC_tr a_67 (exC_dd f_78 hop.1 hkk))), by omega, by omega⟩) (by omega) _ _ (hP.sub [0, 1, 2, 3, 4, 5, 6] rfl) (hD.sub [0, 1, 2, 3, 4, 5, 6] (by decide +kernel) rfl) hS ls (lv_sub hl [0, 1, 3, 4] rfl)
            · subst hz_72
              refine lv_istore_n (lv' := [(2, .int 0), (4, .int (nI kq22)), (3, .int (nI i22)), (0, .ref d0), (1, .int 7)]) hx hb dX10_takeTerm_53 rfl hl (by decide) rfl (fun ls hl => ?_)
              refine lv_aload_n hx hb dX10_takeTerm_54 rfl (lv_at hl 3 rfl) ?_
              refine va_get (D := D) (ci := 10) (v := .ref f0) (C := RX10) (T := TX10) (N := 10) hx hb hg i_X10 hown hK hP 0 rfl rfl 3 (by decide) (hg _ m_258) (fun _ h9 => h9) rfl dX10_takeTerm_55 ?_
              refine lv_iload hx hb dX10_takeTerm_58 (lv_at hl 1 rfl) ?_
              refine x_callVv (q := (RX3, TX3, 4)) (ci := 3) (q0 := 0) (wr := [wO d0 10 [.ref t0, .ref d1, .ref h0, .ref f0, .int (nI ow2_49), .int wt, .int dt, .int vv, .int fq2_47, .int pq2_48], wO t0 9 [.ref t1, .ref t2, .int (nI tn), .int (nI ta2_42), .int (nI ts2_43), .int (nI tk2_44), .long tm2_45, .int tr2_46], wI (cy 0) t1 1600 (fby), (t2, .inl (cy 2, 24, .inr (.inl (fky)))), wO h0 4 [.ref h1, .ref h2, .ref h3, .ref h4, .ref h5, .ref h6, .ref h7, .ref h8, .ref h9, .ref h10, .ref h11, hv0, hv1, hv2, hv3, .int (nI un2_50)]]) (rest := []) ⟨hx, hb, hml, hown, hg, hl.1⟩ k_X10_182 (s_addDeed l D cy f0 f1 f2 nf2_51 y3 fco2_52 kq22 (by omega) (f_58) (by omega)) E0_blind hK hP hD hS hA [5, 6] [0, 1, 2, 3, 4] ⟨rfl, rfl, by decide +kernel, by decide +kernel, by decide +kernel⟩ rfl rfl (fun _ _ _ => trivial) dX10_takeTerm_60 rfl rfl (Nat.le_of_ble_eq_true rfl) ⟨Nat.le_of_ble_eq_true rfl, Nat.le_of_ble_eq_true rfl⟩ ⟨Nat.le_of_ble_eq_true rfl, Nat.le_of_ble_eq_true rfl⟩ (fun zu79 H locs hw79 hP9 hD9 hS9 => ?_)
              clear hP hD hS
              obtain ⟨n2_80, fc2_81⟩ := zu79
              refine reW [wO d0 10 [.ref t0, .ref d1, .ref h0, .ref f0, .int (nI ow2_49), .int wt, .int dt, .int vv, .int fq2_47, .int pq2_48], wO t0 9 [.ref t1, .ref t2, .int (nI tn), .int (nI ta2_42), .int (nI ts2_43), .int (nI tk2_44), .long tm2_45, .int tr2_46], wI (cy 0) t1 1600 (fby), (t2, .inl (cy 2, 24, .inr (.inl (fky)))), wO h0 4 [.ref h1, .ref h2, .ref h3, .ref h4, .ref h5, .ref h6, .ref h7, .ref h8, .ref h9, .ref h10, .ref h11, hv0, hv1, hv2, hv3, .int (nI un2_50)], wO f0 3 [.ref f1, .ref f2, .int (nI n2_80), y3], wI (cy 1) f1 280 (fc2_81)] hP9 hD9 hS9 (fun hP hD hS => ?_)
              clear hP9 hD9 hS9
              refine W.widen (k := 0) (n := 0) (Nat.le_of_ble_eq_true rfl) (Nat.le_of_ble_eq_true rfl) ?_
              replace hw79 : (n2_80 ≤ 280) ∧ (cOK fc2_81 n2_80) := hw79
              obtain ⟨f_82, f_83⟩ := hw79
              refine lv_iinc (v := nI (i22 + 1)) (lv' := [(3, .int (nI (i22 + 1))), (2, .int 0), (4, .int (nI kq22)), (0, .ref d0), (1, .int 7)]) hx hb dX10_takeTerm_63 hl (k := 2) rfl (nI_add i22 1) (by decide) rfl (fun ls hl => ?_)
              refine lv_goto (tgt := 8) hx hb dX10_takeTerm_66 (by decide) ?_
              exact ih22  0 ((i22 + 1)) ta2_42 ts2_43 tk2_44 tm2_45 tr2_46 ow2_49 fq2_47 pq2_48 un2_50 n2_80 ga2_53 ([]) fc2_81 f_83 (by omega) (by omega) (by omega) (by omega) (by omega) (by omega) (Or.inr ⟨rfl, inS_bad lvP67 hin9 hop.1 hop.2 a_70, a_71⟩) (by omega) _ _ (hP.sub [0, 1, 2, 3, 4, 5, 6] rfl) (hD.sub [0, 1, 2, 3, 4, 5, 6] (by decide +kernel) rfl) hS ls (lv_sub hl [0, 1, 3, 4] rfl)
          · subst hz_30
            refine lv_if_eq (tgt := 69) hx hb dX10_takeTerm_29 (by decide) (fun _ => ?_) (fun h => absurd (by decide) h)
            refine lv_iload_n hx hb dX10_takeTerm_69 rfl (lv_at hl 1 rfl) ?_
            exact x_zret hQ hx hb hr hlocks hK hP hD hS rfl dX10_takeTerm_70 (aq22, sq22, kq22, fl5_22, rq22, fq, pq, oq22, uq22, nq22, fa14_22, gq22, nw22) (⟨(show aq22 ≤ tn from by omega), (show kq22 ≤ 123 from by omega), (show nq22 ≤ 280 from by omega), ha15_22, (show oq22 ≤ 30 from by omega), (show uq22 ≤ 60 from by omega), (show ((1 : Int32) = 1 ∧ (okS (knd fby tn) (fin fby tn) (cdF fby tn) 6 7 ga ow un gq22 oq22 uq22 nw22) ∧ (fq = fq) ∧ (pq = pq) ∧ (tkC fby tn gq22 aq22 sq22 kq22 fl5_22 rq22) ∧ (ga < gq22 ∧ gq22 ≤ tn) ∧ (exC fco nf fa14_22 nq22 nw22) ∧ (nq22 + 2 * ow + 1 ≤ nf + 2 * oq22 ∧ ow < oq22)) ∨ ((1 : Int32) = 0 ∧ (noS (knd fby tn) (fin fby tn) 6 7 ga ow un gq22) ∧ (flt fby tn gq22 2 fq pq)) from Or.inl ⟨rfl, (inS_end lvP67 hin9 (sg_ne6 (by have h9 := htk9.2.2.1; omega))), (rfl), (rfl), (htk9), (⟨by omega, by omega⟩), (hex9), (⟨by omega, by omega⟩)⟩)⟩) [0, 1, 2, 3, 4, 5, 6] (by decide +kernel) rfl (Nat.le_of_ble_eq_true rfl) (Nat.le_of_ble_eq_true rfl)
      · subst hlb
        refine lv_iload_n hx hb dX10_takeTerm_8 rfl (lv_at hl 0 rfl) ?_
        refine lv_sipush (v := 1600) hx hb dX10_takeTerm_9 (by decide) ?_
        refine lv_icmp_ge (tgt := 69) hx hb dX10_takeTerm_12 (by decide) (fun c_84 => ?_) (fun c_84 => ?_)
        · have q_85 : 1600 ≤ i22 := q_le (a := 1600) (b := i22) rfl rfl (by omega) (by omega) c_84
          refine lv_iload_n hx hb dX10_takeTerm_69 rfl (lv_at hl 1 rfl) ?_
          exact x_zret hQ hx hb hr hlocks hK hP hD hS rfl dX10_takeTerm_70 (aq22, sq22, kq22, fl5_22, rq22, fz22, pz22, oq22, uq22, nq22, fa14_22, gq22, []) (⟨(show aq22 ≤ tn from by omega), (show kq22 ≤ 123 from by omega), (show nq22 ≤ 280 from by omega), ha15_22, (show oq22 ≤ 30 from by omega), (show uq22 ≤ 60 from by omega), (show ((0 : Int32) = 1 ∧ (okS (knd fby tn) (fin fby tn) (cdF fby tn) 6 7 ga ow un gq22 oq22 uq22 ([])) ∧ (fq = fz22) ∧ (pq = pz22) ∧ (tkC fby tn gq22 aq22 sq22 kq22 fl5_22 rq22) ∧ (ga < gq22 ∧ gq22 ≤ tn) ∧ (exC fco nf fa14_22 nq22 ([])) ∧ (nq22 + 2 * ow + 1 ≤ nf + 2 * oq22 ∧ ow < oq22)) ∨ ((0 : Int32) = 0 ∧ (noS (knd fby tn) (fin fby tn) 6 7 ga ow un gq22) ∧ (flt fby tn gq22 2 fz22 pz22)) from Or.inr (⟨rfl, (hno9), (hfl9)⟩))⟩) [0, 1, 2, 3, 4, 5, 6] (by decide +kernel) rfl (Nat.le_of_ble_eq_true rfl) (Nat.le_of_ble_eq_true rfl)
        · have q_85 : i22 < 1600 := q_nle (a := 1600) (b := i22) rfl rfl (by omega) (by omega) c_84
          refine lv_iload_n hx hb dX10_takeTerm_15 rfl (lv_at hl 1 rfl) ?_
          refine lv_if_eq (tgt := 69) hx hb dX10_takeTerm_16 (by decide) (fun _ => ?_) (fun h => absurd (by decide) h)
          refine lv_iload_n hx hb dX10_takeTerm_69 rfl (lv_at hl 1 rfl) ?_
          exact x_zret hQ hx hb hr hlocks hK hP hD hS rfl dX10_takeTerm_70 (aq22, sq22, kq22, fl5_22, rq22, fz22, pz22, oq22, uq22, nq22, fa14_22, gq22, []) (⟨(show aq22 ≤ tn from by omega), (show kq22 ≤ 123 from by omega), (show nq22 ≤ 280 from by omega), ha15_22, (show oq22 ≤ 30 from by omega), (show uq22 ≤ 60 from by omega), (show ((0 : Int32) = 1 ∧ (okS (knd fby tn) (fin fby tn) (cdF fby tn) 6 7 ga ow un gq22 oq22 uq22 ([])) ∧ (fq = fz22) ∧ (pq = pz22) ∧ (tkC fby tn gq22 aq22 sq22 kq22 fl5_22 rq22) ∧ (ga < gq22 ∧ gq22 ≤ tn) ∧ (exC fco nf fa14_22 nq22 ([])) ∧ (nq22 + 2 * ow + 1 ≤ nf + 2 * oq22 ∧ ow < oq22)) ∨ ((0 : Int32) = 0 ∧ (noS (knd fby tn) (fin fby tn) 6 7 ga ow un gq22) ∧ (flt fby tn gq22 2 fz22 pz22)) from Or.inr (⟨rfl, (hno9), (hfl9)⟩))⟩) [0, 1, 2, 3, 4, 5, 6] (by decide +kernel) rfl (Nat.le_of_ble_eq_true rfl) (Nat.le_of_ble_eq_true rfl)
  exact loop22 _ zr1 0 ta2_2 ts2_3 tk2_4 tm2_5 tr2_6 ow2_9 fq2_7 pq2_8 un2_10 nf2_11 ga2_13 nw2_14 fco2_12 f_18 (by omega) (by omega) (by omega) (by omega) (by omega) (by omega) (by rcases f_21 with ⟨hx0, hxk, hxq, hxp, hxt, hxg, hxe, hxm⟩ | ⟨hx0, hxn, hxl⟩; exact Or.inl ⟨hx0, inS_0 lvP67 hxk, hxt, hxg.1, hxg.2, by omega, hxq, hxp, hxe, hxm.1, hxm.2⟩; exact Or.inr ⟨hx0, noS_0 lvP67 hxn, hxl⟩) (Nat.le_refl _) _ _ (hP.sub [0, 1, 2, 3, 4, 5, 6] rfl) (hD.sub [0, 1, 2, 3, 4, 5, 6] (by decide +kernel) rfl) hS ls (lv_sub hl [0, 1, 2, 3] rfl)
theorem gdX10_takeSum_0 : decode cX10_takeSum 0 = .ok (.aload_n 0, 1) ∧ decode cX10_takeSum 1 = .ok (.iload_n 1, 1) ∧ decode cX10_takeSum 2 = .ok (.invokevirtual 195, 3) := by decide +kernel
theorem dX10_takeSum_0 : decode cX10_takeSum 0 = .ok (.aload_n 0, 1) := gdX10_takeSum_0.1
theorem dX10_takeSum_1 : decode cX10_takeSum 1 = .ok (.iload_n 1, 1) := gdX10_takeSum_0.2.1
theorem dX10_takeSum_2 : decode cX10_takeSum 2 = .ok (.invokevirtual 195, 3) := gdX10_takeSum_0.2.2
theorem k_X10_195 : xV RX10 RX10 195 yX10_takeTerm cX10_takeTerm 5 (some .boolean) 1 := ⟨⟨m_891, m_893, m_24, m_136, m_894⟩, rfl, by decide, by decide, by decide +kernel⟩
theorem gdX10_takeSum_5 : decode cX10_takeSum 5 = .ok (.istore_n 2, 1) ∧ decode cX10_takeSum 6 = .ok (.iconst 0, 1) ∧ decode cX10_takeSum 7 = .ok (.istore_n 3, 1) ∧ decode cX10_takeSum 8 = .ok (.iload_n 3, 1) ∧ decode cX10_takeSum 9 = .ok (.sipush 1600, 3) ∧ decode cX10_takeSum 12 = .ok (.if_icmp .ge 68, 3) ∧ decode cX10_takeSum 15 = .ok (.iload_n 2, 1) ∧ decode cX10_takeSum 16 = .ok (.ifCond .eq 64, 3) ∧ decode cX10_takeSum 19 = .ok (.aload_n 0, 1) ∧ decode cX10_takeSum 20 = .ok (.getfield 16, 3) ∧ decode cX10_takeSum 23 = .ok (.getfield 55, 3) ∧ decode cX10_takeSum 26 = .ok (.bipush 43, 2) := by decide +kernel
theorem dX10_takeSum_5 : decode cX10_takeSum 5 = .ok (.istore_n 2, 1) := gdX10_takeSum_5.1
theorem dX10_takeSum_6 : decode cX10_takeSum 6 = .ok (.iconst 0, 1) := gdX10_takeSum_5.2.1
theorem dX10_takeSum_7 : decode cX10_takeSum 7 = .ok (.istore_n 3, 1) := gdX10_takeSum_5.2.2.1
theorem dX10_takeSum_8 : decode cX10_takeSum 8 = .ok (.iload_n 3, 1) := gdX10_takeSum_5.2.2.2.1
theorem dX10_takeSum_9 : decode cX10_takeSum 9 = .ok (.sipush 1600, 3) := gdX10_takeSum_5.2.2.2.2.1
theorem dX10_takeSum_12 : decode cX10_takeSum 12 = .ok (.if_icmp .ge 68, 3) := gdX10_takeSum_5.2.2.2.2.2.1
theorem dX10_takeSum_15 : decode cX10_takeSum 15 = .ok (.iload_n 2, 1) := gdX10_takeSum_5.2.2.2.2.2.2.1
theorem dX10_takeSum_16 : decode cX10_takeSum 16 = .ok (.ifCond .eq 64, 3) := gdX10_takeSum_5.2.2.2.2.2.2.2.1
theorem dX10_takeSum_19 : decode cX10_takeSum 19 = .ok (.aload_n 0, 1) := gdX10_takeSum_5.2.2.2.2.2.2.2.2.1
theorem dX10_takeSum_20 : decode cX10_takeSum 20 = .ok (.getfield 16, 3) := gdX10_takeSum_5.2.2.2.2.2.2.2.2.2.1
theorem dX10_takeSum_23 : decode cX10_takeSum 23 = .ok (.getfield 55, 3) := gdX10_takeSum_5.2.2.2.2.2.2.2.2.2.2.1
theorem dX10_takeSum_26 : decode cX10_takeSum 26 = .ok (.bipush 43, 2) := gdX10_takeSum_5.2.2.2.2.2.2.2.2.2.2.2
theorem gdX10_takeSum_28 : decode cX10_takeSum 28 = .ok (.if_icmp .eq 15, 3) ∧ decode cX10_takeSum 43 = .ok (.aload_n 0, 1) ∧ decode cX10_takeSum 44 = .ok (.getfield 16, 3) ∧ decode cX10_takeSum 47 = .ok (.getfield 55, 3) ∧ decode cX10_takeSum 50 = .ok (.istore 4, 2) ∧ decode cX10_takeSum 52 = .ok (.aload_n 0, 1) ∧ decode cX10_takeSum 53 = .ok (.getfield 16, 3) ∧ decode cX10_takeSum 56 = .ok (.invokevirtual 140, 3) ∧ decode cX10_takeSum 59 = .ok (.aload_n 0, 1) ∧ decode cX10_takeSum 60 = .ok (.iload_n 1, 1) ∧ decode cX10_takeSum 61 = .ok (.invokevirtual 195, 3) ∧ decode cX10_takeSum 64 = .ok (.istore_n 2, 1) := by decide +kernel
theorem dX10_takeSum_28 : decode cX10_takeSum 28 = .ok (.if_icmp .eq 15, 3) := gdX10_takeSum_28.1
theorem dX10_takeSum_43 : decode cX10_takeSum 43 = .ok (.aload_n 0, 1) := gdX10_takeSum_28.2.1
theorem dX10_takeSum_44 : decode cX10_takeSum 44 = .ok (.getfield 16, 3) := gdX10_takeSum_28.2.2.1
theorem dX10_takeSum_47 : decode cX10_takeSum 47 = .ok (.getfield 55, 3) := gdX10_takeSum_28.2.2.2.1
theorem dX10_takeSum_50 : decode cX10_takeSum 50 = .ok (.istore 4, 2) := gdX10_takeSum_28.2.2.2.2.1
theorem dX10_takeSum_52 : decode cX10_takeSum 52 = .ok (.aload_n 0, 1) := gdX10_takeSum_28.2.2.2.2.2.1
theorem dX10_takeSum_53 : decode cX10_takeSum 53 = .ok (.getfield 16, 3) := gdX10_takeSum_28.2.2.2.2.2.2.1
theorem dX10_takeSum_56 : decode cX10_takeSum 56 = .ok (.invokevirtual 140, 3) := gdX10_takeSum_28.2.2.2.2.2.2.2.1
theorem dX10_takeSum_59 : decode cX10_takeSum 59 = .ok (.aload_n 0, 1) := gdX10_takeSum_28.2.2.2.2.2.2.2.2.1
theorem dX10_takeSum_60 : decode cX10_takeSum 60 = .ok (.iload_n 1, 1) := gdX10_takeSum_28.2.2.2.2.2.2.2.2.2.1
theorem dX10_takeSum_61 : decode cX10_takeSum 61 = .ok (.invokevirtual 195, 3) := gdX10_takeSum_28.2.2.2.2.2.2.2.2.2.2.1
theorem dX10_takeSum_64 : decode cX10_takeSum 64 = .ok (.istore_n 2, 1) := gdX10_takeSum_28.2.2.2.2.2.2.2.2.2.2.2
theorem gdX10_takeSum_65 : decode cX10_takeSum 65 = .ok (.aload_n 0, 1) ∧ decode cX10_takeSum 66 = .ok (.getfield 34, 3) ∧ decode cX10_takeSum 69 = .ok (.iload 4, 2) ∧ decode cX10_takeSum 71 = .ok (.invokevirtual 182, 3) ∧ decode cX10_takeSum 74 = .ok (.iinc 3 1, 3) ∧ decode cX10_takeSum 77 = .ok (.goto (-69), 3) ∧ decode cX10_takeSum 31 = .ok (.aload_n 0, 1) ∧ decode cX10_takeSum 32 = .ok (.getfield 16, 3) ∧ decode cX10_takeSum 35 = .ok (.getfield 55, 3) ∧ decode cX10_takeSum 38 = .ok (.bipush 45, 2) ∧ decode cX10_takeSum 40 = .ok (.if_icmp .ne 40, 3) ∧ decode cX10_takeSum 80 = .ok (.iload_n 2, 1) := by decide +kernel
theorem dX10_takeSum_65 : decode cX10_takeSum 65 = .ok (.aload_n 0, 1) := gdX10_takeSum_65.1
theorem dX10_takeSum_66 : decode cX10_takeSum 66 = .ok (.getfield 34, 3) := gdX10_takeSum_65.2.1
theorem dX10_takeSum_69 : decode cX10_takeSum 69 = .ok (.iload 4, 2) := gdX10_takeSum_65.2.2.1
theorem dX10_takeSum_71 : decode cX10_takeSum 71 = .ok (.invokevirtual 182, 3) := gdX10_takeSum_65.2.2.2.1
theorem dX10_takeSum_74 : decode cX10_takeSum 74 = .ok (.iinc 3 1, 3) := gdX10_takeSum_65.2.2.2.2.1
theorem dX10_takeSum_77 : decode cX10_takeSum 77 = .ok (.goto (-69), 3) := gdX10_takeSum_65.2.2.2.2.2.1
theorem dX10_takeSum_31 : decode cX10_takeSum 31 = .ok (.aload_n 0, 1) := gdX10_takeSum_65.2.2.2.2.2.2.1
theorem dX10_takeSum_32 : decode cX10_takeSum 32 = .ok (.getfield 16, 3) := gdX10_takeSum_65.2.2.2.2.2.2.2.1
theorem dX10_takeSum_35 : decode cX10_takeSum 35 = .ok (.getfield 55, 3) := gdX10_takeSum_65.2.2.2.2.2.2.2.2.1
theorem dX10_takeSum_38 : decode cX10_takeSum 38 = .ok (.bipush 45, 2) := gdX10_takeSum_65.2.2.2.2.2.2.2.2.2.1
theorem dX10_takeSum_40 : decode cX10_takeSum 40 = .ok (.if_icmp .ne 40, 3) := gdX10_takeSum_65.2.2.2.2.2.2.2.2.2.2.1
theorem dX10_takeSum_80 : decode cX10_takeSum 80 = .ok (.iload_n 2, 1) := gdX10_takeSum_65.2.2.2.2.2.2.2.2.2.2.2
theorem dX10_takeSum_81 : decode cX10_takeSum 81 = .ok (.ireturn, 1) := by decide +kernel
set_option maxHeartbeats 1000000 in
set_option maxRecDepth 100000 in
theorem s_takeSum7 (l : Launch) (D : va_G) (cy : Nat → ClassId) (adK : Nat → Nat) (adV : Nat → Nat) (d0 : Nat) (d1 : Nat) (wt : Int32) (dt : Int32) (vv : Int32) (fq : Int32) (pq : Int32) (t0 : Nat) (t1 : Nat) (t2 : Nat) (tn : Nat) (ta : Nat) (ts : Nat) (tk : Nat) (tm : Int64) (tr : Int32) (fby : Nat → Int32) (fky : Nat → Int64) (h0 : Nat) (h1 : Nat) (h2 : Nat) (h3 : Nat) (h4 : Nat) (h5 : Nat) (h6 : Nat) (h7 : Nat) (h8 : Nat) (h9 : Nat) (h10 : Nat) (h11 : Nat) (hv0 : Value) (hv1 : Value) (hv2 : Value) (hv3 : Value) (ow : Nat) (un : Nat) (f0 : Nat) (f1 : Nat) (f2 : Nat) (nf : Nat) (y3 : Value) (fco : Nat → Int32) (ga : Nat) (htn : tn ≤ 1600) (hta : ta ≤ tn) (htk : tk ≤ 123) (hti : tkC fby tn ga ta ts tk tm tr) (hky : kyOK fky) (hnf : nf ≤ 280) (hfc : cOK fco nf) (how : ow ≤ 30) (hun : un ≤ 60) (hga : ga ≤ tn) (hrm : nf + 60 ≤ 280 + 2 * ow) : XMi l D (tyL cy) (EV adK adV) yX10_takeSum cX10_takeSum 5 (some .boolean) (rmk 9 0 0) [.ref d0, .int 7] [wO d0 10 [.ref t0, .ref d1, .ref h0, .ref f0, .int (nI ow), .int wt, .int dt, .int vv, .int fq, .int pq], wO t0 9 [.ref t1, .ref t2, .int (nI tn), .int (nI ta), .int (nI ts), .int (nI tk), .long tm, .int tr], wI (cy 0) t1 1600 (fby), (t2, .inl (cy 2, 24, .inr (.inl (fky)))), wO h0 4 [.ref h1, .ref h2, .ref h3, .ref h4, .ref h5, .ref h6, .ref h7, .ref h8, .ref h9, .ref h10, .ref h11, hv0, hv1, hv2, hv3, .int (nI un)], wO f0 3 [.ref f1, .ref f2, .int (nI nf), y3], wI (cy 1) f1 280 (fco)] (fun (r : Int32) (u : Nat × Nat × Nat × Int64 × Int32 × Int32 × Int32 × Nat × Nat × Nat × (Nat → Int32) × Nat × (List Int32)) => (u.1 ≤ tn) ∧ (u.2.2.1 ≤ 123) ∧ (u.2.2.2.2.2.2.2.2.2.1 ≤ 280) ∧ (cOK u.2.2.2.2.2.2.2.2.2.2.1 u.2.2.2.2.2.2.2.2.2.1) ∧ (u.2.2.2.2.2.2.2.1 ≤ 30) ∧ (u.2.2.2.2.2.2.2.2.1 ≤ 60) ∧ ((r = 1 ∧ (okS (knd fby tn) (fin fby tn) (cdF fby tn) 5 7 ga ow un u.2.2.2.2.2.2.2.2.2.2.2.1 u.2.2.2.2.2.2.2.1 u.2.2.2.2.2.2.2.2.1 u.2.2.2.2.2.2.2.2.2.2.2.2) ∧ (fq = u.2.2.2.2.2.1) ∧ (pq = u.2.2.2.2.2.2.1) ∧ (tkC fby tn u.2.2.2.2.2.2.2.2.2.2.2.1 u.1 u.2.1 u.2.2.1 u.2.2.2.1 u.2.2.2.2.1) ∧ (ga < u.2.2.2.2.2.2.2.2.2.2.2.1 ∧ u.2.2.2.2.2.2.2.2.2.2.2.1 ≤ tn) ∧ (exC fco nf u.2.2.2.2.2.2.2.2.2.2.1 u.2.2.2.2.2.2.2.2.2.1 u.2.2.2.2.2.2.2.2.2.2.2.2) ∧ (u.2.2.2.2.2.2.2.2.2.1 + 2 * ow + 1 ≤ nf + 2 * u.2.2.2.2.2.2.2.1 ∧ ow < u.2.2.2.2.2.2.2.1)) ∨ (r = 0 ∧ (noS (knd fby tn) (fin fby tn) 5 7 ga ow un u.2.2.2.2.2.2.2.2.2.2.2.1) ∧ (flt fby tn u.2.2.2.2.2.2.2.2.2.2.2.1 2 u.2.2.2.2.2.1 u.2.2.2.2.2.2.1)))) (fun (u : Nat × Nat × Nat × Int64 × Int32 × Int32 × Int32 × Nat × Nat × Nat × (Nat → Int32) × Nat × (List Int32)) => [wO d0 10 [.ref t0, .ref d1, .ref h0, .ref f0, .int (nI u.2.2.2.2.2.2.2.1), .int wt, .int dt, .int vv, .int u.2.2.2.2.2.1, .int u.2.2.2.2.2.2.1], wO t0 9 [.ref t1, .ref t2, .int (nI tn), .int (nI u.1), .int (nI u.2.1), .int (nI u.2.2.1), .long u.2.2.2.1, .int u.2.2.2.2.1], wI (cy 0) t1 1600 (fby), (t2, .inl (cy 2, 24, .inr (.inl (fky)))), wO h0 4 [.ref h1, .ref h2, .ref h3, .ref h4, .ref h5, .ref h6, .ref h7, .ref h8, .ref h9, .ref h10, .ref h11, hv0, hv1, hv2, hv3, .int (nI u.2.2.2.2.2.2.2.2.1)], wO f0 3 [.ref f1, .ref f2, .int (nI u.2.2.2.2.2.2.2.2.2.1), y3], wI (cy 1) f1 280 (u.2.2.2.2.2.2.2.2.2.2.1)]) := by
  refine XMi.start (by decide) (Nat.le_of_ble_eq_true rfl) ?_
  intro p e s m below meth c args A ls Q hat hQ
  obtain ⟨hx, hb, hr, hml, hown, hg, hlocks, hin, hK, hA, hP, hD, hS, hE, hl⟩ := hat
  have hown : s.vm.findClass RX10 = some m.cls := hown
  have hl : lv_has ls 5 [(0, .ref d0), (1, .int 7)] := hl
  refine lv_aload_n hx hb dX10_takeSum_0 rfl (lv_at hl 0 rfl) ?_
  refine lv_iload_n hx hb dX10_takeSum_1 rfl (lv_at hl 1 rfl) ?_
  refine x_callVi (q := (RX10, TX10, 10)) (ci := 10) (q0 := 0) (wr := []) (rest := []) ⟨hx, hb, hml, hown, hg, hl.1⟩ k_X10_195 (s_takeTerm7 l D cy adK adV d0 d1 wt dt vv fq pq t0 t1 t2 tn ta ts tk tm tr fby fky h0 h1 h2 h3 h4 h5 h6 h7 h8 h9 h10 h11 hv0 hv1 hv2 hv3 ow un f0 f1 f2 nf y3 fco ga (by omega) (by omega) (by omega) (hti) (hky) (by omega) (hfc) (by omega) (by omega) (by omega) (by omega)) EV_blind hK hP hD hS hA [0, 1, 2, 3, 4, 5, 6] [] ⟨rfl, rfl, by decide +kernel, by decide +kernel, by decide +kernel⟩ rfl rfl (fun U hU hW => EV_pass hE hS (va_free hD hS hA [0, 1, 2, 3, 4, 5, 6] rfl) hU hW) dX10_takeSum_2 rfl rfl (Nat.le_of_ble_eq_true rfl) ⟨Nat.le_of_ble_eq_true rfl, Nat.le_of_ble_eq_true rfl⟩ ⟨Nat.le_of_ble_eq_true rfl, Nat.le_of_ble_eq_true rfl⟩ (fun zr1 zu1 H locs hw1 hP9 hD9 hS9 => ?_)
  clear hP hD hS
  obtain ⟨ta2_2, ts2_3, tk2_4, tm2_5, tr2_6, fq2_7, pq2_8, ow2_9, un2_10, nf2_11, fco2_12, ga2_13, nw2_14⟩ := zu1
  refine reW [wO d0 10 [.ref t0, .ref d1, .ref h0, .ref f0, .int (nI ow2_9), .int wt, .int dt, .int vv, .int fq2_7, .int pq2_8], wO t0 9 [.ref t1, .ref t2, .int (nI tn), .int (nI ta2_2), .int (nI ts2_3), .int (nI tk2_4), .long tm2_5, .int tr2_6], wI (cy 0) t1 1600 (fby), (t2, .inl (cy 2, 24, .inr (.inl (fky)))), wO h0 4 [.ref h1, .ref h2, .ref h3, .ref h4, .ref h5, .ref h6, .ref h7, .ref h8, .ref h9, .ref h10, .ref h11, hv0, hv1, hv2, hv3, .int (nI un2_10)], wO f0 3 [.ref f1, .ref f2, .int (nI nf2_11), y3], wI (cy 1) f1 280 (fco2_12)] hP9 hD9 hS9 (fun hP hD hS => ?_)
  clear hP9 hD9 hS9
  refine W.widen (k := 0) (n := 0) (Nat.le_of_ble_eq_true rfl) (Nat.le_of_ble_eq_true rfl) ?_
  replace hw1 : (ta2_2 ≤ tn) ∧ (tk2_4 ≤ 123) ∧ (nf2_11 ≤ 280) ∧ (cOK fco2_12 nf2_11) ∧ (ow2_9 ≤ 30) ∧ (un2_10 ≤ 60) ∧ ((zr1 = 1 ∧ (okS (knd fby tn) (fin fby tn) (cdF fby tn) 6 7 ga ow un ga2_13 ow2_9 un2_10 nw2_14) ∧ (fq = fq2_7) ∧ (pq = pq2_8) ∧ (tkC fby tn ga2_13 ta2_2 ts2_3 tk2_4 tm2_5 tr2_6) ∧ (ga < ga2_13 ∧ ga2_13 ≤ tn) ∧ (exC fco nf fco2_12 nf2_11 nw2_14) ∧ (nf2_11 + 2 * ow + 1 ≤ nf + 2 * ow2_9 ∧ ow < ow2_9)) ∨ (zr1 = 0 ∧ (noS (knd fby tn) (fin fby tn) 6 7 ga ow un ga2_13) ∧ (flt fby tn ga2_13 2 fq2_7 pq2_8))) := hw1
  obtain ⟨f_15, f_16, f_17, f_18, f_19, f_20, f_21⟩ := hw1
  refine lv_istore_n (lv' := [(2, .int zr1), (0, .ref d0), (1, .int 7)]) hx hb dX10_takeSum_5 rfl hl (by decide) rfl (fun ls hl => ?_)
  refine lv_iconst (v := 0) hx hb dX10_takeSum_6 (by decide) ?_
  refine lv_istore_n (lv' := [(3, .int 0), (2, .int zr1), (0, .ref d0), (1, .int 7)]) hx hb dX10_takeSum_7 rfl hl (by decide) rfl (fun ls hl => ?_)
  have loop22 : ∀ (zn : Nat) (lb2_22 : Int32) (i22 : Nat) (aq22 : Nat) (sq22 : Nat) (kq22 : Nat) (fl5_22 : Int64) (rq22 : Int32) (oq22 : Nat) (fz22 : Int32) (pz22 : Int32) (uq22 : Nat) (nq22 : Nat) (gq22 : Nat) (nw22 : List Int32) (fa14_22 : Nat → Int32), (cOK fa14_22 nq22) → (i22 ≤ 1600) → (aq22 ≤ tn) → (kq22 ≤ 123) → (nq22 ≤ 280) → (oq22 ≤ 30) → (uq22 ≤ 60) → ((lb2_22 = 1 ∧ inS (knd fby tn) (fin fby tn) (cdF fby tn) 5 6 7 ga ow un gq22 oq22 uq22 nw22 ∧ tkC fby tn gq22 aq22 sq22 kq22 fl5_22 rq22 ∧ ga < gq22 ∧ gq22 ≤ tn ∧ i22 < gq22 ∧ fq = fz22 ∧ pq = pz22 ∧ exC fco nf fa14_22 nq22 nw22 ∧ nq22 + 2 * ow + 1 ≤ nf + 2 * oq22 ∧ ow < oq22) ∨ (lb2_22 = 0 ∧ noS (knd fby tn) (fin fby tn) 5 7 ga ow un gq22 ∧ flt fby tn gq22 2 fz22 pz22)) → 1600 - i22 + 1 ≤ zn → ∀ (H : Heap) (locs : List Loc), va_P D vwCl [wO d0 10 [.ref t0, .ref d1, .ref h0, .ref f0, .int (nI oq22), .int wt, .int dt, .int vv, .int fz22, .int pz22], wO t0 9 [.ref t1, .ref t2, .int (nI tn), .int (nI aq22), .int (nI sq22), .int (nI kq22), .long fl5_22, .int rq22], wI (cy 0) t1 1600 (fby), (t2, .inl (cy 2, 24, .inr (.inl (fky)))), wO h0 4 [.ref h1, .ref h2, .ref h3, .ref h4, .ref h5, .ref h6, .ref h7, .ref h8, .ref h9, .ref h10, .ref h11, hv0, hv1, hv2, hv3, .int (nI uq22)], wO f0 3 [.ref f1, .ref f2, .int (nI nq22), y3], wI (cy 1) f1 280 (fa14_22)] H → va_D A [wO d0 10 [.ref t0, .ref d1, .ref h0, .ref f0, .int (nI oq22), .int wt, .int dt, .int vv, .int fz22, .int pz22], wO t0 9 [.ref t1, .ref t2, .int (nI tn), .int (nI aq22), .int (nI sq22), .int (nI kq22), .long fl5_22, .int rq22], wI (cy 0) t1 1600 (fby), (t2, .inl (cy 2, 24, .inr (.inl (fky)))), wO h0 4 [.ref h1, .ref h2, .ref h3, .ref h4, .ref h5, .ref h6, .ref h7, .ref h8, .ref h9, .ref h10, .ref h11, hv0, hv1, hv2, hv3, .int (nI uq22)], wO f0 3 [.ref f1, .ref f2, .int (nI nq22), y3], wI (cy 1) f1 280 (fa14_22)] → va_S A s.heap H locs → ∀ ls : Array Slot, lv_has ls 5 [(3, .int (nI i22)), (2, .int lb2_22), (0, .ref d0), (1, .int 7)] → W p l e (rmk 9 0 0) s m args below meth c H locs 0 0 Q (F0 m 8 ls []) := by
    try clear hP hD hS
    intro zn
    induction zn with
    | zero => intro lb2_22 i22 aq22 sq22 kq22 fl5_22 rq22 oq22 fz22 pz22 uq22 nq22 gq22 nw22 fa14_22 _ _ _ _ _ _ _ _ hz; exact absurd hz (by omega)
    | succ zn ih22 =>
      intro lb2_22 i22 aq22 sq22 kq22 fl5_22 rq22 oq22 fz22 pz22 uq22 nq22 gq22 nw22 fa14_22 ha15_22 hf0_22 hf1_22 hf2_22 hf3_22 hf4_22 hf5_22 hf6_22 hmu22 H locs hP hD hS ls hl
      rcases hf6_22 with ⟨hlb, hin9, htk9, hg1, hg2, hg3, hfz, hpz, hex9, hln9⟩ | ⟨hlb, hno9, hfl9⟩
      · subst hlb hfz hpz
        refine lv_iload_n hx hb dX10_takeSum_8 rfl (lv_at hl 0 rfl) ?_
        refine lv_sipush (v := 1600) hx hb dX10_takeSum_9 (by decide) ?_
        refine lv_icmp_ge (tgt := 80) hx hb dX10_takeSum_12 (by decide) (fun c_23 => ?_) (fun c_23 => ?_)
        · have q_24 : 1600 ≤ i22 := q_le (a := 1600) (b := i22) rfl rfl (by omega) (by omega) c_23
          exact absurd q_24 (by omega)
        · have q_24 : i22 < 1600 := q_nle (a := 1600) (b := i22) rfl rfl (by omega) (by omega) c_23
          refine lv_iload_n hx hb dX10_takeSum_15 rfl (lv_at hl 1 rfl) ?_
          refine lv_if_eq (tgt := 80) hx hb dX10_takeSum_16 (by decide) (fun h => absurd h (by decide)) (fun _ => ?_)
          refine lv_aload_n hx hb dX10_takeSum_19 rfl (lv_at hl 2 rfl) ?_
          refine va_get (D := D) (ci := 10) (v := .ref t0) (C := RX10) (T := TX10) (N := 10) hx hb hg i_X10 hown hK hP 0 rfl rfl 0 (by decide) (hg _ m_255) (fun _ h9 => h9) rfl dX10_takeSum_20 ?_
          refine va_get (D := D) (ci := 9) (v := .int (nI kq22)) (C := RX9) (T := TX9) (N := 8) hx hb hg i_X9 hown hK hP 1 rfl rfl 5 (by decide) (hg _ m_222) (fun _ h9 => h9) rfl dX10_takeSum_23 ?_
          refine lv_bipush (v := 43) hx hb dX10_takeSum_26 (by decide) ?_
          refine lv_icmp_eq (tgt := 43) hx hb dX10_takeSum_28 (by decide) (fun c_25 => ?_) (fun c_25 => ?_)
          · have q_26 : kq22 = 43 := q_eq (a := kq22) (b := 43) rfl rfl (by omega) (by omega) c_25
            have hkk : kq22 = knd fby tn gq22 := by have h9 := htk9.2.2.1; omega
            have hop := sg_5 (show knd fby tn gq22 = 43 ∨ knd fby tn gq22 = 45 from by have h9 := htk9.2.2.1; omega)
            have hgt_27 : gq22 < fin fby tn gq22 ∧ fin fby tn gq22 ≤ tn := ⟨fin_gt (by have h9 := htk9.2.2.1; omega), fin_le (by omega)⟩
            refine lv_aload_n hx hb dX10_takeSum_43 rfl (lv_at hl 2 rfl) ?_
            refine va_get (D := D) (ci := 10) (v := .ref t0) (C := RX10) (T := TX10) (N := 10) hx hb hg i_X10 hown hK hP 0 rfl rfl 0 (by decide) (hg _ m_255) (fun _ h9 => h9) rfl dX10_takeSum_44 ?_
            refine va_get (D := D) (ci := 9) (v := .int (nI kq22)) (C := RX9) (T := TX9) (N := 8) hx hb hg i_X9 hown hK hP 1 rfl rfl 5 (by decide) (hg _ m_222) (fun _ h9 => h9) rfl dX10_takeSum_47 ?_
            refine lv_istore (lv' := [(4, .int (nI kq22)), (3, .int (nI i22)), (2, .int 1), (0, .ref d0), (1, .int 7)]) hx hb dX10_takeSum_50 hl (by decide) rfl (fun ls hl => ?_)
            refine lv_aload_n hx hb dX10_takeSum_52 rfl (lv_at hl 3 rfl) ?_
            refine va_get (D := D) (ci := 10) (v := .ref t0) (C := RX10) (T := TX10) (N := 10) hx hb hg i_X10 hown hK hP 0 rfl rfl 0 (by decide) (hg _ m_255) (fun _ h9 => h9) rfl dX10_takeSum_53 ?_
            refine x_callVv (q := (RX9, TX9, 8)) (ci := 9) (q0 := 0) (wr := [wO d0 10 [.ref t0, .ref d1, .ref h0, .ref f0, .int (nI oq22), .int wt, .int dt, .int vv, .int fq, .int pq], wO h0 4 [.ref h1, .ref h2, .ref h3, .ref h4, .ref h5, .ref h6, .ref h7, .ref h8, .ref h9, .ref h10, .ref h11, hv0, hv1, hv2, hv3, .int (nI uq22)], wO f0 3 [.ref f1, .ref f2, .int (nI nq22), y3], wI (cy 1) f1 280 (fa14_22)]) (rest := []) ⟨hx, hb, hml, hown, hg, hl.1⟩ k_X10_140 (s_next l D cy adK adV t0 t1 t2 tn aq22 sq22 kq22 fl5_22 rq22 fby fky (fin fby tn gq22) (by omega) (by omega) (htk9.2.1) (hky)) EV_blind hK hP hD hS hA [1, 2, 3] [0, 4, 5, 6] ⟨rfl, rfl, by decide +kernel, by decide +kernel, by decide +kernel⟩ rfl rfl (fun U hU hW => EV_pass hE hS (va_free hD hS hA [1, 2, 3] rfl) hU hW) dX10_takeSum_56 rfl rfl (Nat.le_of_ble_eq_true rfl) ⟨Nat.le_of_ble_eq_true rfl, Nat.le_of_ble_eq_true rfl⟩ ⟨Nat.le_of_ble_eq_true rfl, Nat.le_of_ble_eq_true rfl⟩ (fun zu28 H locs hw28 hP9 hD9 hS9 => ?_)
            clear hP hD hS
            obtain ⟨ta2_29, ts2_30, tk2_31, tm2_32, tr2_33⟩ := zu28
            refine reW [wO d0 10 [.ref t0, .ref d1, .ref h0, .ref f0, .int (nI oq22), .int wt, .int dt, .int vv, .int fq, .int pq], wO h0 4 [.ref h1, .ref h2, .ref h3, .ref h4, .ref h5, .ref h6, .ref h7, .ref h8, .ref h9, .ref h10, .ref h11, hv0, hv1, hv2, hv3, .int (nI uq22)], wO f0 3 [.ref f1, .ref f2, .int (nI nq22), y3], wI (cy 1) f1 280 (fa14_22), wO t0 9 [.ref t1, .ref t2, .int (nI tn), .int (nI ta2_29), .int (nI ts2_30), .int (nI tk2_31), .long tm2_32, .int tr2_33], wI (cy 0) t1 1600 (fby), (t2, .inl (cy 2, 24, .inr (.inl (fky))))] hP9 hD9 hS9 (fun hP hD hS => ?_)
            clear hP9 hD9 hS9
            refine W.widen (k := 0) (n := 0) (Nat.le_of_ble_eq_true rfl) (Nat.le_of_ble_eq_true rfl) ?_
            replace hw28 : (ta2_29 ≤ tn) ∧ (tk2_31 ≤ 123) ∧ (tkC fby tn (fin fby tn gq22) ta2_29 ts2_30 tk2_31 tm2_32 tr2_33) := hw28
            obtain ⟨f_34, f_35, f_36⟩ := hw28
            refine lv_aload_n hx hb dX10_takeSum_59 rfl (lv_at hl 3 rfl) ?_
            refine lv_iload_n hx hb dX10_takeSum_60 rfl (lv_at hl 4 rfl) ?_
            refine x_callVi (q := (RX10, TX10, 10)) (ci := 10) (q0 := 0) (wr := []) (rest := []) ⟨hx, hb, hml, hown, hg, hl.1⟩ k_X10_195 (s_takeTerm7 l D cy adK adV d0 d1 wt dt vv fq pq t0 t1 t2 tn ta2_29 ts2_30 tk2_31 tm2_32 tr2_33 fby fky h0 h1 h2 h3 h4 h5 h6 h7 h8 h9 h10 h11 hv0 hv1 hv2 hv3 oq22 uq22 f0 f1 f2 nq22 y3 fa14_22 (fin fby tn gq22) (by omega) (by omega) (by omega) (f_36) (hky) (by omega) (ha15_22) (by omega) (by omega) (by omega) (by omega)) EV_blind hK hP hD hS hA [0, 4, 5, 6, 1, 2, 3] [] ⟨rfl, rfl, by decide +kernel, by decide +kernel, by decide +kernel⟩ rfl rfl (fun U hU hW => EV_pass hE hS (va_free hD hS hA [0, 4, 5, 6, 1, 2, 3] rfl) hU hW) dX10_takeSum_61 rfl rfl (Nat.le_of_ble_eq_true rfl) ⟨Nat.le_of_ble_eq_true rfl, Nat.le_of_ble_eq_true rfl⟩ ⟨Nat.le_of_ble_eq_true rfl, Nat.le_of_ble_eq_true rfl⟩ (fun zr37 zu37 H locs hw37 hP9 hD9 hS9 => ?_)
            clear hP hD hS
            obtain ⟨ta2_38, ts2_39, tk2_40, tm2_41, tr2_42, fq2_43, pq2_44, ow2_45, un2_46, nf2_47, fco2_48, ga2_49, nw2_50⟩ := zu37
            refine reW [wO d0 10 [.ref t0, .ref d1, .ref h0, .ref f0, .int (nI ow2_45), .int wt, .int dt, .int vv, .int fq2_43, .int pq2_44], wO t0 9 [.ref t1, .ref t2, .int (nI tn), .int (nI ta2_38), .int (nI ts2_39), .int (nI tk2_40), .long tm2_41, .int tr2_42], wI (cy 0) t1 1600 (fby), (t2, .inl (cy 2, 24, .inr (.inl (fky)))), wO h0 4 [.ref h1, .ref h2, .ref h3, .ref h4, .ref h5, .ref h6, .ref h7, .ref h8, .ref h9, .ref h10, .ref h11, hv0, hv1, hv2, hv3, .int (nI un2_46)], wO f0 3 [.ref f1, .ref f2, .int (nI nf2_47), y3], wI (cy 1) f1 280 (fco2_48)] hP9 hD9 hS9 (fun hP hD hS => ?_)
            clear hP9 hD9 hS9
            refine W.widen (k := 0) (n := 0) (Nat.le_of_ble_eq_true rfl) (Nat.le_of_ble_eq_true rfl) ?_
            replace hw37 : (ta2_38 ≤ tn) ∧ (tk2_40 ≤ 123) ∧ (nf2_47 ≤ 280) ∧ (cOK fco2_48 nf2_47) ∧ (ow2_45 ≤ 30) ∧ (un2_46 ≤ 60) ∧ ((zr37 = 1 ∧ (okS (knd fby tn) (fin fby tn) (cdF fby tn) 6 7 (fin fby tn gq22) oq22 uq22 ga2_49 ow2_45 un2_46 nw2_50) ∧ (fq = fq2_43) ∧ (pq = pq2_44) ∧ (tkC fby tn ga2_49 ta2_38 ts2_39 tk2_40 tm2_41 tr2_42) ∧ ((fin fby tn gq22) < ga2_49 ∧ ga2_49 ≤ tn) ∧ (exC fa14_22 nq22 fco2_48 nf2_47 nw2_50) ∧ (nf2_47 + 2 * oq22 + 1 ≤ nq22 + 2 * ow2_45 ∧ oq22 < ow2_45)) ∨ (zr37 = 0 ∧ (noS (knd fby tn) (fin fby tn) 6 7 (fin fby tn gq22) oq22 uq22 ga2_49) ∧ (flt fby tn ga2_49 2 fq2_43 pq2_44))) := hw37
            obtain ⟨f_51, f_52, f_53, f_54, f_55, f_56, f_57⟩ := hw37
            rcases f_57 with ⟨hz_65, a_58, a_59, a_60, a_61, a_62, a_63, a_64⟩ | ⟨hz_68, a_66, a_67⟩
            · subst hz_65
              subst a_59
              subst a_60
              have hg_a_62 := a_62
              have hl_a_64 := a_64
              refine lv_istore_n (lv' := [(2, .int 1), (4, .int (nI kq22)), (3, .int (nI i22)), (0, .ref d0), (1, .int 7)]) hx hb dX10_takeSum_64 rfl hl (by decide) rfl (fun ls hl => ?_)
              refine lv_aload_n hx hb dX10_takeSum_65 rfl (lv_at hl 3 rfl) ?_
              refine va_get (D := D) (ci := 10) (v := .ref f0) (C := RX10) (T := TX10) (N := 10) hx hb hg i_X10 hown hK hP 0 rfl rfl 3 (by decide) (hg _ m_258) (fun _ h9 => h9) rfl dX10_takeSum_66 ?_
              refine lv_iload hx hb dX10_takeSum_69 (lv_at hl 1 rfl) ?_
              refine x_callVv (q := (RX3, TX3, 4)) (ci := 3) (q0 := 0) (wr := [wO d0 10 [.ref t0, .ref d1, .ref h0, .ref f0, .int (nI ow2_45), .int wt, .int dt, .int vv, .int fq, .int pq], wO t0 9 [.ref t1, .ref t2, .int (nI tn), .int (nI ta2_38), .int (nI ts2_39), .int (nI tk2_40), .long tm2_41, .int tr2_42], wI (cy 0) t1 1600 (fby), (t2, .inl (cy 2, 24, .inr (.inl (fky)))), wO h0 4 [.ref h1, .ref h2, .ref h3, .ref h4, .ref h5, .ref h6, .ref h7, .ref h8, .ref h9, .ref h10, .ref h11, hv0, hv1, hv2, hv3, .int (nI un2_46)]]) (rest := []) ⟨hx, hb, hml, hown, hg, hl.1⟩ k_X10_182 (s_addDeed9 l D cy f0 f1 f2 nf2_47 y3 fco2_48 kq22 (by omega) (f_54) (by omega)) E0_blind hK hP hD hS hA [5, 6] [0, 1, 2, 3, 4] ⟨rfl, rfl, by decide +kernel, by decide +kernel, by decide +kernel⟩ rfl rfl (fun _ _ _ => trivial) dX10_takeSum_71 rfl rfl (Nat.le_of_ble_eq_true rfl) ⟨Nat.le_of_ble_eq_true rfl, Nat.le_of_ble_eq_true rfl⟩ ⟨Nat.le_of_ble_eq_true rfl, Nat.le_of_ble_eq_true rfl⟩ (fun zu69 H locs hw69 hP9 hD9 hS9 => ?_)
              clear hP hD hS
              obtain ⟨n2_70, fc2_71⟩ := zu69
              refine reW [wO d0 10 [.ref t0, .ref d1, .ref h0, .ref f0, .int (nI ow2_45), .int wt, .int dt, .int vv, .int fq, .int pq], wO t0 9 [.ref t1, .ref t2, .int (nI tn), .int (nI ta2_38), .int (nI ts2_39), .int (nI tk2_40), .long tm2_41, .int tr2_42], wI (cy 0) t1 1600 (fby), (t2, .inl (cy 2, 24, .inr (.inl (fky)))), wO h0 4 [.ref h1, .ref h2, .ref h3, .ref h4, .ref h5, .ref h6, .ref h7, .ref h8, .ref h9, .ref h10, .ref h11, hv0, hv1, hv2, hv3, .int (nI un2_46)], wO f0 3 [.ref f1, .ref f2, .int (nI n2_70), y3], wI (cy 1) f1 280 (fc2_71)] hP9 hD9 hS9 (fun hP hD hS => ?_)
              clear hP9 hD9 hS9
              refine W.widen (k := 0) (n := 0) (Nat.le_of_ble_eq_true rfl) (Nat.le_of_ble_eq_true rfl) ?_
              replace hw69 : (n2_70 = nf2_47 + 1) ∧ (cOK fc2_71 n2_70) ∧ (exC fco2_48 nf2_47 fc2_71 n2_70 [nI (20000 + kq22)]) := hw69
              obtain ⟨f_72, f_73, f_74⟩ := hw69
              refine lv_iinc (v := nI (i22 + 1)) (lv' := [(3, .int (nI (i22 + 1))), (2, .int 1), (4, .int (nI kq22)), (0, .ref d0), (1, .int 7)]) hx hb dX10_takeSum_74 hl (k := 2) rfl (nI_add i22 1) (by decide) rfl (fun ls hl => ?_)
              refine lv_goto (tgt := 8) hx hb dX10_takeSum_77 (by decide) ?_
              exact ih22  1 ((i22 + 1)) ta2_38 ts2_39 tk2_40 tm2_41 tr2_42 ow2_45 fq pq un2_46 n2_70 ga2_49 ((nw22 ++ (nw2_50 ++ [ded (sgM (knd fby tn gq22))]))) fc2_71 f_73 (by omega) (by omega) (by omega) (by omega) (by omega) (by omega) (Or.inl ⟨rfl, inS_step lvP56 hin9 hop.1 hop.2 a_58, a_61, by omega, by omega, by omega, rfl, rfl, (exC_tr hex9 (exC_tr a_63 (exC_dd f_74 hop.1 hkk))), by omega, by omega⟩) (by omega) _ _ (hP.sub [0, 1, 2, 3, 4, 5, 6] rfl) (hD.sub [0, 1, 2, 3, 4, 5, 6] (by decide +kernel) rfl) hS ls (lv_sub hl [0, 1, 3, 4] rfl)
            · subst hz_68
              refine lv_istore_n (lv' := [(2, .int 0), (4, .int (nI kq22)), (3, .int (nI i22)), (0, .ref d0), (1, .int 7)]) hx hb dX10_takeSum_64 rfl hl (by decide) rfl (fun ls hl => ?_)
              refine lv_aload_n hx hb dX10_takeSum_65 rfl (lv_at hl 3 rfl) ?_
              refine va_get (D := D) (ci := 10) (v := .ref f0) (C := RX10) (T := TX10) (N := 10) hx hb hg i_X10 hown hK hP 0 rfl rfl 3 (by decide) (hg _ m_258) (fun _ h9 => h9) rfl dX10_takeSum_66 ?_
              refine lv_iload hx hb dX10_takeSum_69 (lv_at hl 1 rfl) ?_
              refine x_callVv (q := (RX3, TX3, 4)) (ci := 3) (q0 := 0) (wr := [wO d0 10 [.ref t0, .ref d1, .ref h0, .ref f0, .int (nI ow2_45), .int wt, .int dt, .int vv, .int fq2_43, .int pq2_44], wO t0 9 [.ref t1, .ref t2, .int (nI tn), .int (nI ta2_38), .int (nI ts2_39), .int (nI tk2_40), .long tm2_41, .int tr2_42], wI (cy 0) t1 1600 (fby), (t2, .inl (cy 2, 24, .inr (.inl (fky)))), wO h0 4 [.ref h1, .ref h2, .ref h3, .ref h4, .ref h5, .ref h6, .ref h7, .ref h8, .ref h9, .ref h10, .ref h11, hv0, hv1, hv2, hv3, .int (nI un2_46)]]) (rest := []) ⟨hx, hb, hml, hown, hg, hl.1⟩ k_X10_182 (s_addDeed l D cy f0 f1 f2 nf2_47 y3 fco2_48 kq22 (by omega) (f_54) (by omega)) E0_blind hK hP hD hS hA [5, 6] [0, 1, 2, 3, 4] ⟨rfl, rfl, by decide +kernel, by decide +kernel, by decide +kernel⟩ rfl rfl (fun _ _ _ => trivial) dX10_takeSum_71 rfl rfl (Nat.le_of_ble_eq_true rfl) ⟨Nat.le_of_ble_eq_true rfl, Nat.le_of_ble_eq_true rfl⟩ ⟨Nat.le_of_ble_eq_true rfl, Nat.le_of_ble_eq_true rfl⟩ (fun zu75 H locs hw75 hP9 hD9 hS9 => ?_)
              clear hP hD hS
              obtain ⟨n2_76, fc2_77⟩ := zu75
              refine reW [wO d0 10 [.ref t0, .ref d1, .ref h0, .ref f0, .int (nI ow2_45), .int wt, .int dt, .int vv, .int fq2_43, .int pq2_44], wO t0 9 [.ref t1, .ref t2, .int (nI tn), .int (nI ta2_38), .int (nI ts2_39), .int (nI tk2_40), .long tm2_41, .int tr2_42], wI (cy 0) t1 1600 (fby), (t2, .inl (cy 2, 24, .inr (.inl (fky)))), wO h0 4 [.ref h1, .ref h2, .ref h3, .ref h4, .ref h5, .ref h6, .ref h7, .ref h8, .ref h9, .ref h10, .ref h11, hv0, hv1, hv2, hv3, .int (nI un2_46)], wO f0 3 [.ref f1, .ref f2, .int (nI n2_76), y3], wI (cy 1) f1 280 (fc2_77)] hP9 hD9 hS9 (fun hP hD hS => ?_)
              clear hP9 hD9 hS9
              refine W.widen (k := 0) (n := 0) (Nat.le_of_ble_eq_true rfl) (Nat.le_of_ble_eq_true rfl) ?_
              replace hw75 : (n2_76 ≤ 280) ∧ (cOK fc2_77 n2_76) := hw75
              obtain ⟨f_78, f_79⟩ := hw75
              refine lv_iinc (v := nI (i22 + 1)) (lv' := [(3, .int (nI (i22 + 1))), (2, .int 0), (4, .int (nI kq22)), (0, .ref d0), (1, .int 7)]) hx hb dX10_takeSum_74 hl (k := 2) rfl (nI_add i22 1) (by decide) rfl (fun ls hl => ?_)
              refine lv_goto (tgt := 8) hx hb dX10_takeSum_77 (by decide) ?_
              exact ih22  0 ((i22 + 1)) ta2_38 ts2_39 tk2_40 tm2_41 tr2_42 ow2_45 fq2_43 pq2_44 un2_46 n2_76 ga2_49 ([]) fc2_77 f_79 (by omega) (by omega) (by omega) (by omega) (by omega) (by omega) (Or.inr ⟨rfl, inS_bad lvP56 hin9 hop.1 hop.2 a_66, a_67⟩) (by omega) _ _ (hP.sub [0, 1, 2, 3, 4, 5, 6] rfl) (hD.sub [0, 1, 2, 3, 4, 5, 6] (by decide +kernel) rfl) hS ls (lv_sub hl [0, 1, 3, 4] rfl)
          · have q_26 : ¬ kq22 = 43 := q_ne (a := kq22) (b := 43) rfl rfl (by omega) (by omega) c_25
            refine lv_aload_n hx hb dX10_takeSum_31 rfl (lv_at hl 2 rfl) ?_
            refine va_get (D := D) (ci := 10) (v := .ref t0) (C := RX10) (T := TX10) (N := 10) hx hb hg i_X10 hown hK hP 0 rfl rfl 0 (by decide) (hg _ m_255) (fun _ h9 => h9) rfl dX10_takeSum_32 ?_
            refine va_get (D := D) (ci := 9) (v := .int (nI kq22)) (C := RX9) (T := TX9) (N := 8) hx hb hg i_X9 hown hK hP 1 rfl rfl 5 (by decide) (hg _ m_222) (fun _ h9 => h9) rfl dX10_takeSum_35 ?_
            refine lv_bipush (v := 45) hx hb dX10_takeSum_38 (by decide) ?_
            refine lv_icmp_ne (tgt := 80) hx hb dX10_takeSum_40 (by decide) (fun c_80 => ?_) (fun c_80 => ?_)
            · have q_81 : ¬ kq22 = 45 := q_ne (a := kq22) (b := 45) rfl rfl (by omega) (by omega) c_80
              refine lv_iload_n hx hb dX10_takeSum_80 rfl (lv_at hl 1 rfl) ?_
              exact x_zret hQ hx hb hr hlocks hK hP hD hS rfl dX10_takeSum_81 (aq22, sq22, kq22, fl5_22, rq22, fq, pq, oq22, uq22, nq22, fa14_22, gq22, nw22) (⟨(show aq22 ≤ tn from by omega), (show kq22 ≤ 123 from by omega), (show nq22 ≤ 280 from by omega), ha15_22, (show oq22 ≤ 30 from by omega), (show uq22 ≤ 60 from by omega), (show ((1 : Int32) = 1 ∧ (okS (knd fby tn) (fin fby tn) (cdF fby tn) 5 7 ga ow un gq22 oq22 uq22 nw22) ∧ (fq = fq) ∧ (pq = pq) ∧ (tkC fby tn gq22 aq22 sq22 kq22 fl5_22 rq22) ∧ (ga < gq22 ∧ gq22 ≤ tn) ∧ (exC fco nf fa14_22 nq22 nw22) ∧ (nq22 + 2 * ow + 1 ≤ nf + 2 * oq22 ∧ ow < oq22)) ∨ ((1 : Int32) = 0 ∧ (noS (knd fby tn) (fin fby tn) 5 7 ga ow un gq22) ∧ (flt fby tn gq22 2 fq pq)) from Or.inl ⟨rfl, (inS_end lvP56 hin9 (sg_ne5 (by have h9 := htk9.2.2.1; omega))), (rfl), (rfl), (htk9), (⟨by omega, by omega⟩), (hex9), (⟨by omega, by omega⟩)⟩)⟩) [0, 1, 2, 3, 4, 5, 6] (by decide +kernel) rfl (Nat.le_of_ble_eq_true rfl) (Nat.le_of_ble_eq_true rfl)
            · have q_81 : kq22 = 45 := q_eq (a := kq22) (b := 45) rfl rfl (by omega) (by omega) c_80
              have hkk : kq22 = knd fby tn gq22 := by have h9 := htk9.2.2.1; omega
              have hop := sg_5 (show knd fby tn gq22 = 43 ∨ knd fby tn gq22 = 45 from by have h9 := htk9.2.2.1; omega)
              have hgt_82 : gq22 < fin fby tn gq22 ∧ fin fby tn gq22 ≤ tn := ⟨fin_gt (by have h9 := htk9.2.2.1; omega), fin_le (by omega)⟩
              refine lv_aload_n hx hb dX10_takeSum_43 rfl (lv_at hl 2 rfl) ?_
              refine va_get (D := D) (ci := 10) (v := .ref t0) (C := RX10) (T := TX10) (N := 10) hx hb hg i_X10 hown hK hP 0 rfl rfl 0 (by decide) (hg _ m_255) (fun _ h9 => h9) rfl dX10_takeSum_44 ?_
              refine va_get (D := D) (ci := 9) (v := .int (nI kq22)) (C := RX9) (T := TX9) (N := 8) hx hb hg i_X9 hown hK hP 1 rfl rfl 5 (by decide) (hg _ m_222) (fun _ h9 => h9) rfl dX10_takeSum_47 ?_
              refine lv_istore (lv' := [(4, .int (nI kq22)), (3, .int (nI i22)), (2, .int 1), (0, .ref d0), (1, .int 7)]) hx hb dX10_takeSum_50 hl (by decide) rfl (fun ls hl => ?_)
              refine lv_aload_n hx hb dX10_takeSum_52 rfl (lv_at hl 3 rfl) ?_
              refine va_get (D := D) (ci := 10) (v := .ref t0) (C := RX10) (T := TX10) (N := 10) hx hb hg i_X10 hown hK hP 0 rfl rfl 0 (by decide) (hg _ m_255) (fun _ h9 => h9) rfl dX10_takeSum_53 ?_
              refine x_callVv (q := (RX9, TX9, 8)) (ci := 9) (q0 := 0) (wr := [wO d0 10 [.ref t0, .ref d1, .ref h0, .ref f0, .int (nI oq22), .int wt, .int dt, .int vv, .int fq, .int pq], wO h0 4 [.ref h1, .ref h2, .ref h3, .ref h4, .ref h5, .ref h6, .ref h7, .ref h8, .ref h9, .ref h10, .ref h11, hv0, hv1, hv2, hv3, .int (nI uq22)], wO f0 3 [.ref f1, .ref f2, .int (nI nq22), y3], wI (cy 1) f1 280 (fa14_22)]) (rest := []) ⟨hx, hb, hml, hown, hg, hl.1⟩ k_X10_140 (s_next l D cy adK adV t0 t1 t2 tn aq22 sq22 kq22 fl5_22 rq22 fby fky (fin fby tn gq22) (by omega) (by omega) (htk9.2.1) (hky)) EV_blind hK hP hD hS hA [1, 2, 3] [0, 4, 5, 6] ⟨rfl, rfl, by decide +kernel, by decide +kernel, by decide +kernel⟩ rfl rfl (fun U hU hW => EV_pass hE hS (va_free hD hS hA [1, 2, 3] rfl) hU hW) dX10_takeSum_56 rfl rfl (Nat.le_of_ble_eq_true rfl) ⟨Nat.le_of_ble_eq_true rfl, Nat.le_of_ble_eq_true rfl⟩ ⟨Nat.le_of_ble_eq_true rfl, Nat.le_of_ble_eq_true rfl⟩ (fun zu83 H locs hw83 hP9 hD9 hS9 => ?_)
              clear hP hD hS
              obtain ⟨ta2_84, ts2_85, tk2_86, tm2_87, tr2_88⟩ := zu83
              refine reW [wO d0 10 [.ref t0, .ref d1, .ref h0, .ref f0, .int (nI oq22), .int wt, .int dt, .int vv, .int fq, .int pq], wO h0 4 [.ref h1, .ref h2, .ref h3, .ref h4, .ref h5, .ref h6, .ref h7, .ref h8, .ref h9, .ref h10, .ref h11, hv0, hv1, hv2, hv3, .int (nI uq22)], wO f0 3 [.ref f1, .ref f2, .int (nI nq22), y3], wI (cy 1) f1 280 (fa14_22), wO t0 9 [.ref t1, .ref t2, .int (nI tn), .int (nI ta2_84), .int (nI ts2_85), .int (nI tk2_86), .long tm2_87, .int tr2_88], wI (cy 0) t1 1600 (fby), (t2, .inl (cy 2, 24, .inr (.inl (fky))))] hP9 hD9 hS9 (fun hP hD hS => ?_)
              clear hP9 hD9 hS9
              refine W.widen (k := 0) (n := 0) (Nat.le_of_ble_eq_true rfl) (Nat.le_of_ble_eq_true rfl) ?_
              replace hw83 : (ta2_84 ≤ tn) ∧ (tk2_86 ≤ 123) ∧ (tkC fby tn (fin fby tn gq22) ta2_84 ts2_85 tk2_86 tm2_87 tr2_88) := hw83
              obtain ⟨f_89, f_90, f_91⟩ := hw83
              refine lv_aload_n hx hb dX10_takeSum_59 rfl (lv_at hl 3 rfl) ?_
              refine lv_iload_n hx hb dX10_takeSum_60 rfl (lv_at hl 4 rfl) ?_
              refine x_callVi (q := (RX10, TX10, 10)) (ci := 10) (q0 := 0) (wr := []) (rest := []) ⟨hx, hb, hml, hown, hg, hl.1⟩ k_X10_195 (s_takeTerm7 l D cy adK adV d0 d1 wt dt vv fq pq t0 t1 t2 tn ta2_84 ts2_85 tk2_86 tm2_87 tr2_88 fby fky h0 h1 h2 h3 h4 h5 h6 h7 h8 h9 h10 h11 hv0 hv1 hv2 hv3 oq22 uq22 f0 f1 f2 nq22 y3 fa14_22 (fin fby tn gq22) (by omega) (by omega) (by omega) (f_91) (hky) (by omega) (ha15_22) (by omega) (by omega) (by omega) (by omega)) EV_blind hK hP hD hS hA [0, 4, 5, 6, 1, 2, 3] [] ⟨rfl, rfl, by decide +kernel, by decide +kernel, by decide +kernel⟩ rfl rfl (fun U hU hW => EV_pass hE hS (va_free hD hS hA [0, 4, 5, 6, 1, 2, 3] rfl) hU hW) dX10_takeSum_61 rfl rfl (Nat.le_of_ble_eq_true rfl) ⟨Nat.le_of_ble_eq_true rfl, Nat.le_of_ble_eq_true rfl⟩ ⟨Nat.le_of_ble_eq_true rfl, Nat.le_of_ble_eq_true rfl⟩ (fun zr92 zu92 H locs hw92 hP9 hD9 hS9 => ?_)
              clear hP hD hS
              obtain ⟨ta2_93, ts2_94, tk2_95, tm2_96, tr2_97, fq2_98, pq2_99, ow2_100, un2_101, nf2_102, fco2_103, ga2_104, nw2_105⟩ := zu92
              refine reW [wO d0 10 [.ref t0, .ref d1, .ref h0, .ref f0, .int (nI ow2_100), .int wt, .int dt, .int vv, .int fq2_98, .int pq2_99], wO t0 9 [.ref t1, .ref t2, .int (nI tn), .int (nI ta2_93), .int (nI ts2_94), .int (nI tk2_95), .long tm2_96, .int tr2_97], wI (cy 0) t1 1600 (fby), (t2, .inl (cy 2, 24, .inr (.inl (fky)))), wO h0 4 [.ref h1, .ref h2, .ref h3, .ref h4, .ref h5, .ref h6, .ref h7, .ref h8, .ref h9, .ref h10, .ref h11, hv0, hv1, hv2, hv3, .int (nI un2_101)], wO f0 3 [.ref f1, .ref f2, .int (nI nf2_102), y3], wI (cy 1) f1 280 (fco2_103)] hP9 hD9 hS9 (fun hP hD hS => ?_)
              clear hP9 hD9 hS9
              refine W.widen (k := 0) (n := 0) (Nat.le_of_ble_eq_true rfl) (Nat.le_of_ble_eq_true rfl) ?_
              replace hw92 : (ta2_93 ≤ tn) ∧ (tk2_95 ≤ 123) ∧ (nf2_102 ≤ 280) ∧ (cOK fco2_103 nf2_102) ∧ (ow2_100 ≤ 30) ∧ (un2_101 ≤ 60) ∧ ((zr92 = 1 ∧ (okS (knd fby tn) (fin fby tn) (cdF fby tn) 6 7 (fin fby tn gq22) oq22 uq22 ga2_104 ow2_100 un2_101 nw2_105) ∧ (fq = fq2_98) ∧ (pq = pq2_99) ∧ (tkC fby tn ga2_104 ta2_93 ts2_94 tk2_95 tm2_96 tr2_97) ∧ ((fin fby tn gq22) < ga2_104 ∧ ga2_104 ≤ tn) ∧ (exC fa14_22 nq22 fco2_103 nf2_102 nw2_105) ∧ (nf2_102 + 2 * oq22 + 1 ≤ nq22 + 2 * ow2_100 ∧ oq22 < ow2_100)) ∨ (zr92 = 0 ∧ (noS (knd fby tn) (fin fby tn) 6 7 (fin fby tn gq22) oq22 uq22 ga2_104) ∧ (flt fby tn ga2_104 2 fq2_98 pq2_99))) := hw92
              obtain ⟨f_106, f_107, f_108, f_109, f_110, f_111, f_112⟩ := hw92
              rcases f_112 with ⟨hz_120, a_113, a_114, a_115, a_116, a_117, a_118, a_119⟩ | ⟨hz_123, a_121, a_122⟩
              · subst hz_120
                subst a_114
                subst a_115
                have hg_a_117 := a_117
                have hl_a_119 := a_119
                refine lv_istore_n (lv' := [(2, .int 1), (4, .int (nI kq22)), (3, .int (nI i22)), (0, .ref d0), (1, .int 7)]) hx hb dX10_takeSum_64 rfl hl (by decide) rfl (fun ls hl => ?_)
                refine lv_aload_n hx hb dX10_takeSum_65 rfl (lv_at hl 3 rfl) ?_
                refine va_get (D := D) (ci := 10) (v := .ref f0) (C := RX10) (T := TX10) (N := 10) hx hb hg i_X10 hown hK hP 0 rfl rfl 3 (by decide) (hg _ m_258) (fun _ h9 => h9) rfl dX10_takeSum_66 ?_
                refine lv_iload hx hb dX10_takeSum_69 (lv_at hl 1 rfl) ?_
                refine x_callVv (q := (RX3, TX3, 4)) (ci := 3) (q0 := 0) (wr := [wO d0 10 [.ref t0, .ref d1, .ref h0, .ref f0, .int (nI ow2_100), .int wt, .int dt, .int vv, .int fq, .int pq], wO t0 9 [.ref t1, .ref t2, .int (nI tn), .int (nI ta2_93), .int (nI ts2_94), .int (nI tk2_95), .long tm2_96, .int tr2_97], wI (cy 0) t1 1600 (fby), (t2, .inl (cy 2, 24, .inr (.inl (fky)))), wO h0 4 [.ref h1, .ref h2, .ref h3, .ref h4, .ref h5, .ref h6, .ref h7, .ref h8, .ref h9, .ref h10, .ref h11, hv0, hv1, hv2, hv3, .int (nI un2_101)]]) (rest := []) ⟨hx, hb, hml, hown, hg, hl.1⟩ k_X10_182 (s_addDeed9 l D cy f0 f1 f2 nf2_102 y3 fco2_103 kq22 (by omega) (f_109) (by omega)) E0_blind hK hP hD hS hA [5, 6] [0, 1, 2, 3, 4] ⟨rfl, rfl, by decide +kernel, by decide +kernel, by decide +kernel⟩ rfl rfl (fun _ _ _ => trivial) dX10_takeSum_71 rfl rfl (Nat.le_of_ble_eq_true rfl) ⟨Nat.le_of_ble_eq_true rfl, Nat.le_of_ble_eq_true rfl⟩ ⟨Nat.le_of_ble_eq_true rfl, Nat.le_of_ble_eq_true rfl⟩ (fun zu124 H locs hw124 hP9 hD9 hS9 => ?_)
                clear hP hD hS
                obtain ⟨n2_125, fc2_126⟩ := zu124
                refine reW [wO d0 10 [.ref t0, .ref d1, .ref h0, .ref f0, .int (nI ow2_100), .int wt, .int dt, .int vv, .int fq, .int pq], wO t0 9 [.ref t1, .ref t2, .int (nI tn), .int (nI ta2_93), .int (nI ts2_94), .int (nI tk2_95), .long tm2_96, .int tr2_97], wI (cy 0) t1 1600 (fby), (t2, .inl (cy 2, 24, .inr (.inl (fky)))), wO h0 4 [.ref h1, .ref h2, .ref h3, .ref h4, .ref h5, .ref h6, .ref h7, .ref h8, .ref h9, .ref h10, .ref h11, hv0, hv1, hv2, hv3, .int (nI un2_101)], wO f0 3 [.ref f1, .ref f2, .int (nI n2_125), y3], wI (cy 1) f1 280 (fc2_126)] hP9 hD9 hS9 (fun hP hD hS => ?_)
                clear hP9 hD9 hS9
                refine W.widen (k := 0) (n := 0) (Nat.le_of_ble_eq_true rfl) (Nat.le_of_ble_eq_true rfl) ?_
                replace hw124 : (n2_125 = nf2_102 + 1) ∧ (cOK fc2_126 n2_125) ∧ (exC fco2_103 nf2_102 fc2_126 n2_125 [nI (20000 + kq22)]) := hw124
                obtain ⟨f_127, f_128, f_129⟩ := hw124
                refine lv_iinc (v := nI (i22 + 1)) (lv' := [(3, .int (nI (i22 + 1))), (2, .int 1), (4, .int (nI kq22)), (0, .ref d0), (1, .int 7)]) hx hb dX10_takeSum_74 hl (k := 2) rfl (nI_add i22 1) (by decide) rfl (fun ls hl => ?_)
                refine lv_goto (tgt := 8) hx hb dX10_takeSum_77 (by decide) ?_
                exact ih22  1 ((i22 + 1)) ta2_93 ts2_94 tk2_95 tm2_96 tr2_97 ow2_100 fq pq un2_101 n2_125 ga2_104 ((nw22 ++ (nw2_105 ++ [ded (sgM (knd fby tn gq22))]))) fc2_126 f_128 (by omega) (by omega) (by omega) (by omega) (by omega) (by omega) (Or.inl ⟨rfl, inS_step lvP56 hin9 hop.1 hop.2 a_113, a_116, by omega, by omega, by omega, rfl, rfl, (exC_tr hex9 (exC_tr a_118 (exC_dd f_129 hop.1 hkk))), by omega, by omega⟩) (by omega) _ _ (hP.sub [0, 1, 2, 3, 4, 5, 6] rfl) (hD.sub [0, 1, 2, 3, 4, 5, 6] (by decide +kernel) rfl) hS ls (lv_sub hl [0, 1, 3, 4] rfl)
              · subst hz_123
                refine lv_istore_n (lv' := [(2, .int 0), (4, .int (nI kq22)), (3, .int (nI i22)), (0, .ref d0), (1, .int 7)]) hx hb dX10_takeSum_64 rfl hl (by decide) rfl (fun ls hl => ?_)
                refine lv_aload_n hx hb dX10_takeSum_65 rfl (lv_at hl 3 rfl) ?_
                refine va_get (D := D) (ci := 10) (v := .ref f0) (C := RX10) (T := TX10) (N := 10) hx hb hg i_X10 hown hK hP 0 rfl rfl 3 (by decide) (hg _ m_258) (fun _ h9 => h9) rfl dX10_takeSum_66 ?_
                refine lv_iload hx hb dX10_takeSum_69 (lv_at hl 1 rfl) ?_
                refine x_callVv (q := (RX3, TX3, 4)) (ci := 3) (q0 := 0) (wr := [wO d0 10 [.ref t0, .ref d1, .ref h0, .ref f0, .int (nI ow2_100), .int wt, .int dt, .int vv, .int fq2_98, .int pq2_99], wO t0 9 [.ref t1, .ref t2, .int (nI tn), .int (nI ta2_93), .int (nI ts2_94), .int (nI tk2_95), .long tm2_96, .int tr2_97], wI (cy 0) t1 1600 (fby), (t2, .inl (cy 2, 24, .inr (.inl (fky)))), wO h0 4 [.ref h1, .ref h2, .ref h3, .ref h4, .ref h5, .ref h6, .ref h7, .ref h8, .ref h9, .ref h10, .ref h11, hv0, hv1, hv2, hv3, .int (nI un2_101)]]) (rest := []) ⟨hx, hb, hml, hown, hg, hl.1⟩ k_X10_182 (s_addDeed l D cy f0 f1 f2 nf2_102 y3 fco2_103 kq22 (by omega) (f_109) (by omega)) E0_blind hK hP hD hS hA [5, 6] [0, 1, 2, 3, 4] ⟨rfl, rfl, by decide +kernel, by decide +kernel, by decide +kernel⟩ rfl rfl (fun _ _ _ => trivial) dX10_takeSum_71 rfl rfl (Nat.le_of_ble_eq_true rfl) ⟨Nat.le_of_ble_eq_true rfl, Nat.le_of_ble_eq_true rfl⟩ ⟨Nat.le_of_ble_eq_true rfl, Nat.le_of_ble_eq_true rfl⟩ (fun zu130 H locs hw130 hP9 hD9 hS9 => ?_)
                clear hP hD hS
                obtain ⟨n2_131, fc2_132⟩ := zu130
                refine reW [wO d0 10 [.ref t0, .ref d1, .ref h0, .ref f0, .int (nI ow2_100), .int wt, .int dt, .int vv, .int fq2_98, .int pq2_99], wO t0 9 [.ref t1, .ref t2, .int (nI tn), .int (nI ta2_93), .int (nI ts2_94), .int (nI tk2_95), .long tm2_96, .int tr2_97], wI (cy 0) t1 1600 (fby), (t2, .inl (cy 2, 24, .inr (.inl (fky)))), wO h0 4 [.ref h1, .ref h2, .ref h3, .ref h4, .ref h5, .ref h6, .ref h7, .ref h8, .ref h9, .ref h10, .ref h11, hv0, hv1, hv2, hv3, .int (nI un2_101)], wO f0 3 [.ref f1, .ref f2, .int (nI n2_131), y3], wI (cy 1) f1 280 (fc2_132)] hP9 hD9 hS9 (fun hP hD hS => ?_)
                clear hP9 hD9 hS9
                refine W.widen (k := 0) (n := 0) (Nat.le_of_ble_eq_true rfl) (Nat.le_of_ble_eq_true rfl) ?_
                replace hw130 : (n2_131 ≤ 280) ∧ (cOK fc2_132 n2_131) := hw130
                obtain ⟨f_133, f_134⟩ := hw130
                refine lv_iinc (v := nI (i22 + 1)) (lv' := [(3, .int (nI (i22 + 1))), (2, .int 0), (4, .int (nI kq22)), (0, .ref d0), (1, .int 7)]) hx hb dX10_takeSum_74 hl (k := 2) rfl (nI_add i22 1) (by decide) rfl (fun ls hl => ?_)
                refine lv_goto (tgt := 8) hx hb dX10_takeSum_77 (by decide) ?_
                exact ih22  0 ((i22 + 1)) ta2_93 ts2_94 tk2_95 tm2_96 tr2_97 ow2_100 fq2_98 pq2_99 un2_101 n2_131 ga2_104 ([]) fc2_132 f_134 (by omega) (by omega) (by omega) (by omega) (by omega) (by omega) (Or.inr ⟨rfl, inS_bad lvP56 hin9 hop.1 hop.2 a_121, a_122⟩) (by omega) _ _ (hP.sub [0, 1, 2, 3, 4, 5, 6] rfl) (hD.sub [0, 1, 2, 3, 4, 5, 6] (by decide +kernel) rfl) hS ls (lv_sub hl [0, 1, 3, 4] rfl)
      · subst hlb
        refine lv_iload_n hx hb dX10_takeSum_8 rfl (lv_at hl 0 rfl) ?_
        refine lv_sipush (v := 1600) hx hb dX10_takeSum_9 (by decide) ?_
        refine lv_icmp_ge (tgt := 80) hx hb dX10_takeSum_12 (by decide) (fun c_135 => ?_) (fun c_135 => ?_)
        · have q_136 : 1600 ≤ i22 := q_le (a := 1600) (b := i22) rfl rfl (by omega) (by omega) c_135
          refine lv_iload_n hx hb dX10_takeSum_80 rfl (lv_at hl 1 rfl) ?_
          exact x_zret hQ hx hb hr hlocks hK hP hD hS rfl dX10_takeSum_81 (aq22, sq22, kq22, fl5_22, rq22, fz22, pz22, oq22, uq22, nq22, fa14_22, gq22, []) (⟨(show aq22 ≤ tn from by omega), (show kq22 ≤ 123 from by omega), (show nq22 ≤ 280 from by omega), ha15_22, (show oq22 ≤ 30 from by omega), (show uq22 ≤ 60 from by omega), (show ((0 : Int32) = 1 ∧ (okS (knd fby tn) (fin fby tn) (cdF fby tn) 5 7 ga ow un gq22 oq22 uq22 ([])) ∧ (fq = fz22) ∧ (pq = pz22) ∧ (tkC fby tn gq22 aq22 sq22 kq22 fl5_22 rq22) ∧ (ga < gq22 ∧ gq22 ≤ tn) ∧ (exC fco nf fa14_22 nq22 ([])) ∧ (nq22 + 2 * ow + 1 ≤ nf + 2 * oq22 ∧ ow < oq22)) ∨ ((0 : Int32) = 0 ∧ (noS (knd fby tn) (fin fby tn) 5 7 ga ow un gq22) ∧ (flt fby tn gq22 2 fz22 pz22)) from Or.inr (⟨rfl, (hno9), (hfl9)⟩))⟩) [0, 1, 2, 3, 4, 5, 6] (by decide +kernel) rfl (Nat.le_of_ble_eq_true rfl) (Nat.le_of_ble_eq_true rfl)
        · have q_136 : i22 < 1600 := q_nle (a := 1600) (b := i22) rfl rfl (by omega) (by omega) c_135
          refine lv_iload_n hx hb dX10_takeSum_15 rfl (lv_at hl 1 rfl) ?_
          refine lv_if_eq (tgt := 80) hx hb dX10_takeSum_16 (by decide) (fun _ => ?_) (fun h => absurd (by decide) h)
          refine lv_iload_n hx hb dX10_takeSum_80 rfl (lv_at hl 1 rfl) ?_
          exact x_zret hQ hx hb hr hlocks hK hP hD hS rfl dX10_takeSum_81 (aq22, sq22, kq22, fl5_22, rq22, fz22, pz22, oq22, uq22, nq22, fa14_22, gq22, []) (⟨(show aq22 ≤ tn from by omega), (show kq22 ≤ 123 from by omega), (show nq22 ≤ 280 from by omega), ha15_22, (show oq22 ≤ 30 from by omega), (show uq22 ≤ 60 from by omega), (show ((0 : Int32) = 1 ∧ (okS (knd fby tn) (fin fby tn) (cdF fby tn) 5 7 ga ow un gq22 oq22 uq22 ([])) ∧ (fq = fz22) ∧ (pq = pz22) ∧ (tkC fby tn gq22 aq22 sq22 kq22 fl5_22 rq22) ∧ (ga < gq22 ∧ gq22 ≤ tn) ∧ (exC fco nf fa14_22 nq22 ([])) ∧ (nq22 + 2 * ow + 1 ≤ nf + 2 * oq22 ∧ ow < oq22)) ∨ ((0 : Int32) = 0 ∧ (noS (knd fby tn) (fin fby tn) 5 7 ga ow un gq22) ∧ (flt fby tn gq22 2 fz22 pz22)) from Or.inr (⟨rfl, (hno9), (hfl9)⟩))⟩) [0, 1, 2, 3, 4, 5, 6] (by decide +kernel) rfl (Nat.le_of_ble_eq_true rfl) (Nat.le_of_ble_eq_true rfl)
  exact loop22 _ zr1 0 ta2_2 ts2_3 tk2_4 tm2_5 tr2_6 ow2_9 fq2_7 pq2_8 un2_10 nf2_11 ga2_13 nw2_14 fco2_12 f_18 (by omega) (by omega) (by omega) (by omega) (by omega) (by omega) (by rcases f_21 with ⟨hx0, hxk, hxq, hxp, hxt, hxg, hxe, hxm⟩ | ⟨hx0, hxn, hxl⟩; exact Or.inl ⟨hx0, inS_0 lvP56 hxk, hxt, hxg.1, hxg.2, by omega, hxq, hxp, hxe, hxm.1, hxm.2⟩; exact Or.inr ⟨hx0, noS_0 lvP56 hxn, hxl⟩) (Nat.le_refl _) _ _ (hP.sub [0, 1, 2, 3, 4, 5, 6] rfl) (hD.sub [0, 1, 2, 3, 4, 5, 6] (by decide +kernel) rfl) hS ls (lv_sub hl [0, 1, 2, 3] rfl)
theorem gdX10_takeNot_0 : decode cX10_takeNot 0 = .ok (.iload_n 1, 1) ∧ decode cX10_takeNot 1 = .ok (.bipush 7, 2) ∧ decode cX10_takeNot 3 = .ok (.if_icmp .lt 9, 3) ∧ decode cX10_takeNot 6 = .ok (.aload_n 0, 1) ∧ decode cX10_takeNot 7 = .ok (.iconst 2, 1) ∧ decode cX10_takeNot 8 = .ok (.invokevirtual 110, 3) ∧ decode cX10_takeNot 11 = .ok (.ireturn, 1) := by decide +kernel
theorem dX10_takeNot_0 : decode cX10_takeNot 0 = .ok (.iload_n 1, 1) := gdX10_takeNot_0.1
theorem dX10_takeNot_1 : decode cX10_takeNot 1 = .ok (.bipush 7, 2) := gdX10_takeNot_0.2.1
theorem dX10_takeNot_3 : decode cX10_takeNot 3 = .ok (.if_icmp .lt 9, 3) := gdX10_takeNot_0.2.2.1
theorem dX10_takeNot_6 : decode cX10_takeNot 6 = .ok (.aload_n 0, 1) := gdX10_takeNot_0.2.2.2.1
theorem dX10_takeNot_7 : decode cX10_takeNot 7 = .ok (.iconst 2, 1) := gdX10_takeNot_0.2.2.2.2.1
theorem dX10_takeNot_8 : decode cX10_takeNot 8 = .ok (.invokevirtual 110, 3) := gdX10_takeNot_0.2.2.2.2.2.1
theorem dX10_takeNot_11 : decode cX10_takeNot 11 = .ok (.ireturn, 1) := gdX10_takeNot_0.2.2.2.2.2.2
set_option maxHeartbeats 1000000 in
set_option maxRecDepth 100000 in
theorem s_takeNot7 (l : Launch) (D : va_G) (cy : Nat → ClassId) (adK : Nat → Nat) (adV : Nat → Nat) (d0 : Nat) (d1 : Nat) (wt : Int32) (dt : Int32) (vv : Int32) (fq : Int32) (pq : Int32) (t0 : Nat) (t1 : Nat) (t2 : Nat) (tn : Nat) (ta : Nat) (ts : Nat) (tk : Nat) (tm : Int64) (tr : Int32) (fby : Nat → Int32) (fky : Nat → Int64) (h0 : Nat) (h1 : Nat) (h2 : Nat) (h3 : Nat) (h4 : Nat) (h5 : Nat) (h6 : Nat) (h7 : Nat) (h8 : Nat) (h9 : Nat) (h10 : Nat) (h11 : Nat) (hv0 : Value) (hv1 : Value) (hv2 : Value) (hv3 : Value) (ow : Nat) (un : Nat) (f0 : Nat) (f1 : Nat) (f2 : Nat) (nf : Nat) (y3 : Value) (fco : Nat → Int32) (ga : Nat) (htn : tn ≤ 1600) (hta : ta ≤ tn) (htk : tk ≤ 123) (hti : tkC fby tn ga ta ts tk tm tr) (hky : kyOK fky) (hnf : nf ≤ 280) (hfc : cOK fco nf) (how : ow ≤ 30) (hun : un ≤ 60) (hga : ga ≤ tn) (h116 : tk = 116) (hrm : nf + 60 ≤ 280 + 2 * ow) : XMi l D (tyL cy) (EV adK adV) yX10_takeNot cX10_takeNot 3 (some .boolean) (rmk 1 0 0) [.ref d0, .int 7] [wO d0 10 [.ref t0, .ref d1, .ref h0, .ref f0, .int (nI ow), .int wt, .int dt, .int vv, .int fq, .int pq], wO t0 9 [.ref t1, .ref t2, .int (nI tn), .int (nI ta), .int (nI ts), .int (nI tk), .long tm, .int tr], wI (cy 0) t1 1600 (fby), (t2, .inl (cy 2, 24, .inr (.inl (fky)))), wO h0 4 [.ref h1, .ref h2, .ref h3, .ref h4, .ref h5, .ref h6, .ref h7, .ref h8, .ref h9, .ref h10, .ref h11, hv0, hv1, hv2, hv3, .int (nI un)], wO f0 3 [.ref f1, .ref f2, .int (nI nf), y3], wI (cy 1) f1 280 (fco)] (fun (r : Int32) (u : Nat × Nat × Nat × Int64 × Int32 × Int32 × Int32 × Nat × Nat × Nat × (Nat → Int32) × Nat × (List Int32)) => (u.1 ≤ tn) ∧ (u.2.2.1 ≤ 123) ∧ (u.2.2.2.2.2.2.2.2.2.1 ≤ 280) ∧ (cOK u.2.2.2.2.2.2.2.2.2.2.1 u.2.2.2.2.2.2.2.2.2.1) ∧ (u.2.2.2.2.2.2.2.1 ≤ 30) ∧ (u.2.2.2.2.2.2.2.2.1 ≤ 60) ∧ ((r = 1 ∧ (okS (knd fby tn) (fin fby tn) (cdF fby tn) 4 7 ga ow un u.2.2.2.2.2.2.2.2.2.2.2.1 u.2.2.2.2.2.2.2.1 u.2.2.2.2.2.2.2.2.1 u.2.2.2.2.2.2.2.2.2.2.2.2) ∧ (fq = u.2.2.2.2.2.1) ∧ (pq = u.2.2.2.2.2.2.1) ∧ (tkC fby tn u.2.2.2.2.2.2.2.2.2.2.2.1 u.1 u.2.1 u.2.2.1 u.2.2.2.1 u.2.2.2.2.1) ∧ (ga < u.2.2.2.2.2.2.2.2.2.2.2.1 ∧ u.2.2.2.2.2.2.2.2.2.2.2.1 ≤ tn) ∧ (exC fco nf u.2.2.2.2.2.2.2.2.2.2.1 u.2.2.2.2.2.2.2.2.2.1 u.2.2.2.2.2.2.2.2.2.2.2.2) ∧ (u.2.2.2.2.2.2.2.2.2.1 + 2 * ow + 1 ≤ nf + 2 * u.2.2.2.2.2.2.2.1 ∧ ow < u.2.2.2.2.2.2.2.1)) ∨ (r = 0 ∧ (noS (knd fby tn) (fin fby tn) 4 7 ga ow un u.2.2.2.2.2.2.2.2.2.2.2.1) ∧ (flt fby tn u.2.2.2.2.2.2.2.2.2.2.2.1 2 u.2.2.2.2.2.1 u.2.2.2.2.2.2.1)))) (fun (u : Nat × Nat × Nat × Int64 × Int32 × Int32 × Int32 × Nat × Nat × Nat × (Nat → Int32) × Nat × (List Int32)) => [wO d0 10 [.ref t0, .ref d1, .ref h0, .ref f0, .int (nI u.2.2.2.2.2.2.2.1), .int wt, .int dt, .int vv, .int u.2.2.2.2.2.1, .int u.2.2.2.2.2.2.1], wO t0 9 [.ref t1, .ref t2, .int (nI tn), .int (nI u.1), .int (nI u.2.1), .int (nI u.2.2.1), .long u.2.2.2.1, .int u.2.2.2.2.1], wI (cy 0) t1 1600 (fby), (t2, .inl (cy 2, 24, .inr (.inl (fky)))), wO h0 4 [.ref h1, .ref h2, .ref h3, .ref h4, .ref h5, .ref h6, .ref h7, .ref h8, .ref h9, .ref h10, .ref h11, hv0, hv1, hv2, hv3, .int (nI u.2.2.2.2.2.2.2.2.1)], wO f0 3 [.ref f1, .ref f2, .int (nI u.2.2.2.2.2.2.2.2.2.1), y3], wI (cy 1) f1 280 (u.2.2.2.2.2.2.2.2.2.2.1)]) := by
  refine XMi.start (by decide) (Nat.le_of_ble_eq_true rfl) ?_
  intro p e s m below meth c args A ls Q hat hQ
  obtain ⟨hx, hb, hr, hml, hown, hg, hlocks, hin, hK, hA, hP, hD, hS, hE, hl⟩ := hat
  have hown : s.vm.findClass RX10 = some m.cls := hown
  have hl : lv_has ls 3 [(0, .ref d0), (1, .int 7)] := hl
  have hn16 : knd fby tn ga = 116 := by have h9 := hti.2.2.1; omega
  refine lv_iload_n hx hb dX10_takeNot_0 rfl (lv_at hl 1 rfl) ?_
  refine lv_bipush (v := 7) hx hb dX10_takeNot_1 (by decide) ?_
  refine lv_icmp_lt (tgt := 12) hx hb dX10_takeNot_3 (by decide) (fun h => absurd h (by decide)) (fun _ => ?_)
  refine lv_aload_n hx hb dX10_takeNot_6 rfl (lv_at hl 0 rfl) ?_
  refine lv_iconst (v := 2) hx hb dX10_takeNot_7 (by decide) ?_
  refine x_callVi (q := (RX10, TX10, 10)) (ci := 10) (q0 := 0) (wr := [wI (cy 0) t1 1600 (fby), (t2, .inl (cy 2, 24, .inr (.inl (fky)))), wO h0 4 [.ref h1, .ref h2, .ref h3, .ref h4, .ref h5, .ref h6, .ref h7, .ref h8, .ref h9, .ref h10, .ref h11, hv0, hv1, hv2, hv3, .int (nI un)], wO f0 3 [.ref f1, .ref f2, .int (nI nf), y3], wI (cy 1) f1 280 (fco)]) (rest := []) ⟨hx, hb, hml, hown, hg, hl.1⟩ k_X10_110 (s_fail l D cy d0 d1 (nI ow) wt dt vv fq pq ((.ref h0)) ((.ref f0)) t0 t1 t2 tn ta ts tk tm tr 2 (by omega)) E0_blind hK hP hD hS hA [0, 1] [2, 3, 4, 5, 6] ⟨rfl, rfl, by decide +kernel, by decide +kernel, by decide +kernel⟩ rfl rfl (fun _ _ _ => trivial) dX10_takeNot_8 rfl rfl (Nat.le_of_ble_eq_true rfl) ⟨Nat.le_of_ble_eq_true rfl, Nat.le_of_ble_eq_true rfl⟩ ⟨Nat.le_of_ble_eq_true rfl, Nat.le_of_ble_eq_true rfl⟩ (fun zr1 zu1 H locs hw1 hP9 hD9 hS9 => ?_)
  clear hP hD hS
  obtain ⟨fq2_2, pq2_3⟩ := zu1
  refine reW [wI (cy 0) t1 1600 (fby), (t2, .inl (cy 2, 24, .inr (.inl (fky)))), wO h0 4 [.ref h1, .ref h2, .ref h3, .ref h4, .ref h5, .ref h6, .ref h7, .ref h8, .ref h9, .ref h10, .ref h11, hv0, hv1, hv2, hv3, .int (nI un)], wO f0 3 [.ref f1, .ref f2, .int (nI nf), y3], wI (cy 1) f1 280 (fco), wO d0 10 [.ref t0, .ref d1, .ref h0, .ref f0, .int (nI ow), .int wt, .int dt, .int vv, .int fq2_2, .int pq2_3], wO t0 9 [.ref t1, .ref t2, .int (nI tn), .int (nI ta), .int (nI ts), .int (nI tk), .long tm, .int tr]] hP9 hD9 hS9 (fun hP hD hS => ?_)
  clear hP9 hD9 hS9
  refine W.widen (k := 0) (n := 0) (Nat.le_of_ble_eq_true rfl) (Nat.le_of_ble_eq_true rfl) ?_
  replace hw1 : ((zr1 = 0 ∧ (fq2_2 = nI (if tk = 3 then 1 else 2)) ∧ (pq2_3 = nI ts))) := hw1
  have f_4 := hw1
  rcases f_4 with ⟨hz_7, a_5, a_6⟩
  subst hz_7
  exact x_zret hQ hx hb hr hlocks hK hP hD hS rfl dX10_takeNot_11 (ta, ts, tk, tm, tr, fq2_2, pq2_3, ow, un, nf, fco, ga, []) (⟨(show ta ≤ tn from by omega), (show tk ≤ 123 from by omega), (show nf ≤ 280 from by omega), hfc, (show ow ≤ 30 from by omega), (show un ≤ 60 from by omega), (show ((0 : Int32) = 1 ∧ (okS (knd fby tn) (fin fby tn) (cdF fby tn) 4 7 ga ow un ga ow un ([])) ∧ (fq = fq2_2) ∧ (pq = pq2_3) ∧ (tkC fby tn ga ta ts tk tm tr) ∧ (ga < ga ∧ ga ≤ tn) ∧ (exC fco nf fco nf ([])) ∧ (nf + 2 * ow + 1 ≤ nf + 2 * ow ∧ ow < ow)) ∨ ((0 : Int32) = 0 ∧ (noS (knd fby tn) (fin fby tn) 4 7 ga ow un ga) ∧ (flt fby tn ga 2 fq2_2 pq2_3)) from Or.inr (⟨rfl, (not_deep hn16 (by decide)), (flt_of hti a_5 a_6)⟩))⟩) [5, 6, 0, 1, 2, 3, 4] (by decide +kernel) rfl (Nat.le_of_ble_eq_true rfl) (Nat.le_of_ble_eq_true rfl)
theorem gdX10_takeOne_0 : decode cX10_takeOne 0 = .ok (.aload_n 0, 1) ∧ decode cX10_takeOne 1 = .ok (.getfield 16, 3) ∧ decode cX10_takeOne 4 = .ok (.getfield 55, 3) ∧ decode cX10_takeOne 7 = .ok (.bipush 116, 2) ∧ decode cX10_takeOne 9 = .ok (.if_icmp .ne 9, 3) ∧ decode cX10_takeOne 18 = .ok (.aload_n 0, 1) ∧ decode cX10_takeOne 19 = .ok (.iload_n 1, 1) ∧ decode cX10_takeOne 20 = .ok (.invokevirtual 192, 3) := by decide +kernel
theorem dX10_takeOne_0 : decode cX10_takeOne 0 = .ok (.aload_n 0, 1) := gdX10_takeOne_0.1
theorem dX10_takeOne_1 : decode cX10_takeOne 1 = .ok (.getfield 16, 3) := gdX10_takeOne_0.2.1
theorem dX10_takeOne_4 : decode cX10_takeOne 4 = .ok (.getfield 55, 3) := gdX10_takeOne_0.2.2.1
theorem dX10_takeOne_7 : decode cX10_takeOne 7 = .ok (.bipush 116, 2) := gdX10_takeOne_0.2.2.2.1
theorem dX10_takeOne_9 : decode cX10_takeOne 9 = .ok (.if_icmp .ne 9, 3) := gdX10_takeOne_0.2.2.2.2.1
theorem dX10_takeOne_18 : decode cX10_takeOne 18 = .ok (.aload_n 0, 1) := gdX10_takeOne_0.2.2.2.2.2.1
theorem dX10_takeOne_19 : decode cX10_takeOne 19 = .ok (.iload_n 1, 1) := gdX10_takeOne_0.2.2.2.2.2.2.1
theorem dX10_takeOne_20 : decode cX10_takeOne 20 = .ok (.invokevirtual 192, 3) := gdX10_takeOne_0.2.2.2.2.2.2.2
theorem k_X10_192 : xV RX10 RX10 192 yX10_takeSum cX10_takeSum 5 (some .boolean) 1 := ⟨⟨m_887, m_889, m_23, m_136, m_890⟩, rfl, by decide, by decide, by decide +kernel⟩
theorem gdX10_takeOne_23 : decode cX10_takeOne 23 = .ok (.ifCond .ne 5, 3) ∧ decode cX10_takeOne 28 = .ok (.aload_n 0, 1) ∧ decode cX10_takeOne 29 = .ok (.getfield 16, 3) ∧ decode cX10_takeOne 32 = .ok (.getfield 55, 3) ∧ decode cX10_takeOne 35 = .ok (.istore_n 2, 1) ∧ decode cX10_takeOne 36 = .ok (.iload_n 2, 1) ∧ decode cX10_takeOne 37 = .ok (.bipush 60, 2) ∧ decode cX10_takeOne 39 = .ok (.if_icmp .eq 17, 3) ∧ decode cX10_takeOne 56 = .ok (.aload_n 0, 1) ∧ decode cX10_takeOne 57 = .ok (.getfield 16, 3) ∧ decode cX10_takeOne 60 = .ok (.invokevirtual 140, 3) ∧ decode cX10_takeOne 63 = .ok (.aload_n 0, 1) := by decide +kernel
theorem dX10_takeOne_23 : decode cX10_takeOne 23 = .ok (.ifCond .ne 5, 3) := gdX10_takeOne_23.1
theorem dX10_takeOne_28 : decode cX10_takeOne 28 = .ok (.aload_n 0, 1) := gdX10_takeOne_23.2.1
theorem dX10_takeOne_29 : decode cX10_takeOne 29 = .ok (.getfield 16, 3) := gdX10_takeOne_23.2.2.1
theorem dX10_takeOne_32 : decode cX10_takeOne 32 = .ok (.getfield 55, 3) := gdX10_takeOne_23.2.2.2.1
theorem dX10_takeOne_35 : decode cX10_takeOne 35 = .ok (.istore_n 2, 1) := gdX10_takeOne_23.2.2.2.2.1
theorem dX10_takeOne_36 : decode cX10_takeOne 36 = .ok (.iload_n 2, 1) := gdX10_takeOne_23.2.2.2.2.2.1
theorem dX10_takeOne_37 : decode cX10_takeOne 37 = .ok (.bipush 60, 2) := gdX10_takeOne_23.2.2.2.2.2.2.1
theorem dX10_takeOne_39 : decode cX10_takeOne 39 = .ok (.if_icmp .eq 17, 3) := gdX10_takeOne_23.2.2.2.2.2.2.2.1
theorem dX10_takeOne_56 : decode cX10_takeOne 56 = .ok (.aload_n 0, 1) := gdX10_takeOne_23.2.2.2.2.2.2.2.2.1
theorem dX10_takeOne_57 : decode cX10_takeOne 57 = .ok (.getfield 16, 3) := gdX10_takeOne_23.2.2.2.2.2.2.2.2.2.1
theorem dX10_takeOne_60 : decode cX10_takeOne 60 = .ok (.invokevirtual 140, 3) := gdX10_takeOne_23.2.2.2.2.2.2.2.2.2.2.1
theorem dX10_takeOne_63 : decode cX10_takeOne 63 = .ok (.aload_n 0, 1) := gdX10_takeOne_23.2.2.2.2.2.2.2.2.2.2.2
theorem gdX10_takeOne_64 : decode cX10_takeOne 64 = .ok (.iload_n 1, 1) ∧ decode cX10_takeOne 65 = .ok (.invokevirtual 192, 3) ∧ decode cX10_takeOne 68 = .ok (.istore_n 3, 1) ∧ decode cX10_takeOne 69 = .ok (.aload_n 0, 1) ∧ decode cX10_takeOne 70 = .ok (.getfield 34, 3) ∧ decode cX10_takeOne 73 = .ok (.iload_n 2, 1) ∧ decode cX10_takeOne 74 = .ok (.invokevirtual 182, 3) ∧ decode cX10_takeOne 77 = .ok (.iload_n 3, 1) ∧ decode cX10_takeOne 78 = .ok (.ireturn, 1) ∧ decode cX10_takeOne 42 = .ok (.iload_n 2, 1) ∧ decode cX10_takeOne 43 = .ok (.bipush 62, 2) ∧ decode cX10_takeOne 45 = .ok (.if_icmp .eq 11, 3) := by decide +kernel
theorem dX10_takeOne_64 : decode cX10_takeOne 64 = .ok (.iload_n 1, 1) := gdX10_takeOne_64.1
theorem dX10_takeOne_65 : decode cX10_takeOne 65 = .ok (.invokevirtual 192, 3) := gdX10_takeOne_64.2.1
theorem dX10_takeOne_68 : decode cX10_takeOne 68 = .ok (.istore_n 3, 1) := gdX10_takeOne_64.2.2.1
theorem dX10_takeOne_69 : decode cX10_takeOne 69 = .ok (.aload_n 0, 1) := gdX10_takeOne_64.2.2.2.1
theorem dX10_takeOne_70 : decode cX10_takeOne 70 = .ok (.getfield 34, 3) := gdX10_takeOne_64.2.2.2.2.1
theorem dX10_takeOne_73 : decode cX10_takeOne 73 = .ok (.iload_n 2, 1) := gdX10_takeOne_64.2.2.2.2.2.1
theorem dX10_takeOne_74 : decode cX10_takeOne 74 = .ok (.invokevirtual 182, 3) := gdX10_takeOne_64.2.2.2.2.2.2.1
theorem dX10_takeOne_77 : decode cX10_takeOne 77 = .ok (.iload_n 3, 1) := gdX10_takeOne_64.2.2.2.2.2.2.2.1
theorem dX10_takeOne_78 : decode cX10_takeOne 78 = .ok (.ireturn, 1) := gdX10_takeOne_64.2.2.2.2.2.2.2.2.1
theorem dX10_takeOne_42 : decode cX10_takeOne 42 = .ok (.iload_n 2, 1) := gdX10_takeOne_64.2.2.2.2.2.2.2.2.2.1
theorem dX10_takeOne_43 : decode cX10_takeOne 43 = .ok (.bipush 62, 2) := gdX10_takeOne_64.2.2.2.2.2.2.2.2.2.2.1
theorem dX10_takeOne_45 : decode cX10_takeOne 45 = .ok (.if_icmp .eq 11, 3) := gdX10_takeOne_64.2.2.2.2.2.2.2.2.2.2.2
theorem gdX10_takeOne_48 : decode cX10_takeOne 48 = .ok (.iload_n 2, 1) ∧ decode cX10_takeOne 49 = .ok (.bipush 61, 2) ∧ decode cX10_takeOne 51 = .ok (.if_icmp .eq 5, 3) ∧ decode cX10_takeOne 54 = .ok (.iconst 1, 1) ∧ decode cX10_takeOne 55 = .ok (.ireturn, 1) ∧ decode cX10_takeOne 26 = .ok (.iconst 0, 1) ∧ decode cX10_takeOne 27 = .ok (.ireturn, 1) ∧ decode cX10_takeOne 12 = .ok (.aload_n 0, 1) ∧ decode cX10_takeOne 13 = .ok (.iload_n 1, 1) ∧ decode cX10_takeOne 14 = .ok (.invokevirtual 189, 3) := by decide +kernel
theorem dX10_takeOne_48 : decode cX10_takeOne 48 = .ok (.iload_n 2, 1) := gdX10_takeOne_48.1
theorem dX10_takeOne_49 : decode cX10_takeOne 49 = .ok (.bipush 61, 2) := gdX10_takeOne_48.2.1
theorem dX10_takeOne_51 : decode cX10_takeOne 51 = .ok (.if_icmp .eq 5, 3) := gdX10_takeOne_48.2.2.1
theorem dX10_takeOne_54 : decode cX10_takeOne 54 = .ok (.iconst 1, 1) := gdX10_takeOne_48.2.2.2.1
theorem dX10_takeOne_55 : decode cX10_takeOne 55 = .ok (.ireturn, 1) := gdX10_takeOne_48.2.2.2.2.1
theorem dX10_takeOne_26 : decode cX10_takeOne 26 = .ok (.iconst 0, 1) := gdX10_takeOne_48.2.2.2.2.2.1
theorem dX10_takeOne_27 : decode cX10_takeOne 27 = .ok (.ireturn, 1) := gdX10_takeOne_48.2.2.2.2.2.2.1
theorem dX10_takeOne_12 : decode cX10_takeOne 12 = .ok (.aload_n 0, 1) := gdX10_takeOne_48.2.2.2.2.2.2.2.1
theorem dX10_takeOne_13 : decode cX10_takeOne 13 = .ok (.iload_n 1, 1) := gdX10_takeOne_48.2.2.2.2.2.2.2.2.1
theorem dX10_takeOne_14 : decode cX10_takeOne 14 = .ok (.invokevirtual 189, 3) := gdX10_takeOne_48.2.2.2.2.2.2.2.2.2
theorem k_X10_189 : xV RX10 RX10 189 yX10_takeNot cX10_takeNot 3 (some .boolean) 1 := ⟨⟨m_875, m_877, m_21, m_136, m_878⟩, rfl, by decide, by decide, by decide +kernel⟩
theorem dX10_takeOne_17 : decode cX10_takeOne 17 = .ok (.ireturn, 1) := by decide +kernel
set_option maxHeartbeats 1000000 in
set_option maxRecDepth 100000 in
theorem s_takeOne7 (l : Launch) (D : va_G) (cy : Nat → ClassId) (adK : Nat → Nat) (adV : Nat → Nat) (d0 : Nat) (d1 : Nat) (wt : Int32) (dt : Int32) (vv : Int32) (fq : Int32) (pq : Int32) (t0 : Nat) (t1 : Nat) (t2 : Nat) (tn : Nat) (ta : Nat) (ts : Nat) (tk : Nat) (tm : Int64) (tr : Int32) (fby : Nat → Int32) (fky : Nat → Int64) (h0 : Nat) (h1 : Nat) (h2 : Nat) (h3 : Nat) (h4 : Nat) (h5 : Nat) (h6 : Nat) (h7 : Nat) (h8 : Nat) (h9 : Nat) (h10 : Nat) (h11 : Nat) (hv0 : Value) (hv1 : Value) (hv2 : Value) (hv3 : Value) (ow : Nat) (un : Nat) (f0 : Nat) (f1 : Nat) (f2 : Nat) (nf : Nat) (y3 : Value) (fco : Nat → Int32) (ga : Nat) (htn : tn ≤ 1600) (hta : ta ≤ tn) (htk : tk ≤ 123) (hti : tkC fby tn ga ta ts tk tm tr) (hky : kyOK fky) (hnf : nf ≤ 280) (hfc : cOK fco nf) (how : ow ≤ 30) (hun : un ≤ 60) (hga : ga ≤ tn) (hrm : nf + 60 ≤ 280 + 2 * ow) : XMi l D (tyL cy) (EV adK adV) yX10_takeOne cX10_takeOne 4 (some .boolean) (rmk 10 0 0) [.ref d0, .int 7] [wO d0 10 [.ref t0, .ref d1, .ref h0, .ref f0, .int (nI ow), .int wt, .int dt, .int vv, .int fq, .int pq], wO t0 9 [.ref t1, .ref t2, .int (nI tn), .int (nI ta), .int (nI ts), .int (nI tk), .long tm, .int tr], wI (cy 0) t1 1600 (fby), (t2, .inl (cy 2, 24, .inr (.inl (fky)))), wO h0 4 [.ref h1, .ref h2, .ref h3, .ref h4, .ref h5, .ref h6, .ref h7, .ref h8, .ref h9, .ref h10, .ref h11, hv0, hv1, hv2, hv3, .int (nI un)], wO f0 3 [.ref f1, .ref f2, .int (nI nf), y3], wI (cy 1) f1 280 (fco)] (fun (r : Int32) (u : Nat × Nat × Nat × Int64 × Int32 × Int32 × Int32 × Nat × Nat × Nat × (Nat → Int32) × Nat × (List Int32)) => (u.1 ≤ tn) ∧ (u.2.2.1 ≤ 123) ∧ (u.2.2.2.2.2.2.2.2.2.1 ≤ 280) ∧ (cOK u.2.2.2.2.2.2.2.2.2.2.1 u.2.2.2.2.2.2.2.2.2.1) ∧ (u.2.2.2.2.2.2.2.1 ≤ 30) ∧ (u.2.2.2.2.2.2.2.2.1 ≤ 60) ∧ ((r = 1 ∧ (okS (knd fby tn) (fin fby tn) (cdF fby tn) 4 7 ga ow un u.2.2.2.2.2.2.2.2.2.2.2.1 u.2.2.2.2.2.2.2.1 u.2.2.2.2.2.2.2.2.1 u.2.2.2.2.2.2.2.2.2.2.2.2) ∧ (fq = u.2.2.2.2.2.1) ∧ (pq = u.2.2.2.2.2.2.1) ∧ (tkC fby tn u.2.2.2.2.2.2.2.2.2.2.2.1 u.1 u.2.1 u.2.2.1 u.2.2.2.1 u.2.2.2.2.1) ∧ (ga < u.2.2.2.2.2.2.2.2.2.2.2.1 ∧ u.2.2.2.2.2.2.2.2.2.2.2.1 ≤ tn) ∧ (exC fco nf u.2.2.2.2.2.2.2.2.2.2.1 u.2.2.2.2.2.2.2.2.2.1 u.2.2.2.2.2.2.2.2.2.2.2.2) ∧ (u.2.2.2.2.2.2.2.2.2.1 + 2 * ow + 1 ≤ nf + 2 * u.2.2.2.2.2.2.2.1 ∧ ow < u.2.2.2.2.2.2.2.1)) ∨ (r = 0 ∧ (noS (knd fby tn) (fin fby tn) 4 7 ga ow un u.2.2.2.2.2.2.2.2.2.2.2.1) ∧ (flt fby tn u.2.2.2.2.2.2.2.2.2.2.2.1 2 u.2.2.2.2.2.1 u.2.2.2.2.2.2.1)))) (fun (u : Nat × Nat × Nat × Int64 × Int32 × Int32 × Int32 × Nat × Nat × Nat × (Nat → Int32) × Nat × (List Int32)) => [wO d0 10 [.ref t0, .ref d1, .ref h0, .ref f0, .int (nI u.2.2.2.2.2.2.2.1), .int wt, .int dt, .int vv, .int u.2.2.2.2.2.1, .int u.2.2.2.2.2.2.1], wO t0 9 [.ref t1, .ref t2, .int (nI tn), .int (nI u.1), .int (nI u.2.1), .int (nI u.2.2.1), .long u.2.2.2.1, .int u.2.2.2.2.1], wI (cy 0) t1 1600 (fby), (t2, .inl (cy 2, 24, .inr (.inl (fky)))), wO h0 4 [.ref h1, .ref h2, .ref h3, .ref h4, .ref h5, .ref h6, .ref h7, .ref h8, .ref h9, .ref h10, .ref h11, hv0, hv1, hv2, hv3, .int (nI u.2.2.2.2.2.2.2.2.1)], wO f0 3 [.ref f1, .ref f2, .int (nI u.2.2.2.2.2.2.2.2.2.1), y3], wI (cy 1) f1 280 (u.2.2.2.2.2.2.2.2.2.2.1)]) := by
  refine XMi.start (by decide) (Nat.le_of_ble_eq_true rfl) ?_
  intro p e s m below meth c args A ls Q hat hQ
  obtain ⟨hx, hb, hr, hml, hown, hg, hlocks, hin, hK, hA, hP, hD, hS, hE, hl⟩ := hat
  have hown : s.vm.findClass RX10 = some m.cls := hown
  have hl : lv_has ls 4 [(0, .ref d0), (1, .int 7)] := hl
  refine lv_aload_n hx hb dX10_takeOne_0 rfl (lv_at hl 0 rfl) ?_
  refine va_get (D := D) (ci := 10) (v := .ref t0) (C := RX10) (T := TX10) (N := 10) hx hb hg i_X10 hown hK hP 0 rfl rfl 0 (by decide) (hg _ m_255) (fun _ h9 => h9) rfl dX10_takeOne_1 ?_
  refine va_get (D := D) (ci := 9) (v := .int (nI tk)) (C := RX9) (T := TX9) (N := 8) hx hb hg i_X9 hown hK hP 1 rfl rfl 5 (by decide) (hg _ m_222) (fun _ h9 => h9) rfl dX10_takeOne_4 ?_
  refine lv_bipush (v := 116) hx hb dX10_takeOne_7 (by decide) ?_
  refine lv_icmp_ne (tgt := 18) hx hb dX10_takeOne_9 (by decide) (fun c_1 => ?_) (fun c_1 => ?_)
  · have q_2 : ¬ tk = 116 := q_ne (a := tk) (b := 116) rfl rfl (by omega) (by omega) c_1
    have hn16 : ¬ knd fby tn ga = 116 := by have h9 := hti.2.2.1; omega
    refine lv_aload_n hx hb dX10_takeOne_18 rfl (lv_at hl 0 rfl) ?_
    refine lv_iload_n hx hb dX10_takeOne_19 rfl (lv_at hl 1 rfl) ?_
    refine x_callVi (q := (RX10, TX10, 10)) (ci := 10) (q0 := 0) (wr := []) (rest := []) ⟨hx, hb, hml, hown, hg, hl.1⟩ k_X10_192 (s_takeSum7 l D cy adK adV d0 d1 wt dt vv fq pq t0 t1 t2 tn ta ts tk tm tr fby fky h0 h1 h2 h3 h4 h5 h6 h7 h8 h9 h10 h11 hv0 hv1 hv2 hv3 ow un f0 f1 f2 nf y3 fco ga (by omega) (by omega) (by omega) (hti) (hky) (by omega) (hfc) (by omega) (by omega) (by omega) (by omega)) EV_blind hK hP hD hS hA [0, 1, 2, 3, 4, 5, 6] [] ⟨rfl, rfl, by decide +kernel, by decide +kernel, by decide +kernel⟩ rfl rfl (fun U hU hW => EV_pass hE hS (va_free hD hS hA [0, 1, 2, 3, 4, 5, 6] rfl) hU hW) dX10_takeOne_20 rfl rfl (Nat.le_of_ble_eq_true rfl) ⟨Nat.le_of_ble_eq_true rfl, Nat.le_of_ble_eq_true rfl⟩ ⟨Nat.le_of_ble_eq_true rfl, Nat.le_of_ble_eq_true rfl⟩ (fun zr3 zu3 H locs hw3 hP9 hD9 hS9 => ?_)
    clear hP hD hS
    obtain ⟨ta2_4, ts2_5, tk2_6, tm2_7, tr2_8, fq2_9, pq2_10, ow2_11, un2_12, nf2_13, fco2_14, ga2_15, nw2_16⟩ := zu3
    refine reW [wO d0 10 [.ref t0, .ref d1, .ref h0, .ref f0, .int (nI ow2_11), .int wt, .int dt, .int vv, .int fq2_9, .int pq2_10], wO t0 9 [.ref t1, .ref t2, .int (nI tn), .int (nI ta2_4), .int (nI ts2_5), .int (nI tk2_6), .long tm2_7, .int tr2_8], wI (cy 0) t1 1600 (fby), (t2, .inl (cy 2, 24, .inr (.inl (fky)))), wO h0 4 [.ref h1, .ref h2, .ref h3, .ref h4, .ref h5, .ref h6, .ref h7, .ref h8, .ref h9, .ref h10, .ref h11, hv0, hv1, hv2, hv3, .int (nI un2_12)], wO f0 3 [.ref f1, .ref f2, .int (nI nf2_13), y3], wI (cy 1) f1 280 (fco2_14)] hP9 hD9 hS9 (fun hP hD hS => ?_)
    clear hP9 hD9 hS9
    refine W.widen (k := 0) (n := 0) (Nat.le_of_ble_eq_true rfl) (Nat.le_of_ble_eq_true rfl) ?_
    replace hw3 : (ta2_4 ≤ tn) ∧ (tk2_6 ≤ 123) ∧ (nf2_13 ≤ 280) ∧ (cOK fco2_14 nf2_13) ∧ (ow2_11 ≤ 30) ∧ (un2_12 ≤ 60) ∧ ((zr3 = 1 ∧ (okS (knd fby tn) (fin fby tn) (cdF fby tn) 5 7 ga ow un ga2_15 ow2_11 un2_12 nw2_16) ∧ (fq = fq2_9) ∧ (pq = pq2_10) ∧ (tkC fby tn ga2_15 ta2_4 ts2_5 tk2_6 tm2_7 tr2_8) ∧ (ga < ga2_15 ∧ ga2_15 ≤ tn) ∧ (exC fco nf fco2_14 nf2_13 nw2_16) ∧ (nf2_13 + 2 * ow + 1 ≤ nf + 2 * ow2_11 ∧ ow < ow2_11)) ∨ (zr3 = 0 ∧ (noS (knd fby tn) (fin fby tn) 5 7 ga ow un ga2_15) ∧ (flt fby tn ga2_15 2 fq2_9 pq2_10))) := hw3
    obtain ⟨f_17, f_18, f_19, f_20, f_21, f_22, f_23⟩ := hw3
    rcases f_23 with ⟨hz_31, a_24, a_25, a_26, a_27, a_28, a_29, a_30⟩ | ⟨hz_34, a_32, a_33⟩
    · subst hz_31
      subst a_25
      subst a_26
      have hg_a_28 := a_28
      have hl_a_30 := a_30
      refine lv_if_ne (tgt := 28) hx hb dX10_takeOne_23 (by decide) (fun _ => ?_) (fun h => absurd h (by decide))
      refine lv_aload_n hx hb dX10_takeOne_28 rfl (lv_at hl 0 rfl) ?_
      refine va_get (D := D) (ci := 10) (v := .ref t0) (C := RX10) (T := TX10) (N := 10) hx hb hg i_X10 hown hK hP 0 rfl rfl 0 (by decide) (hg _ m_255) (fun _ h9 => h9) rfl dX10_takeOne_29 ?_
      refine va_get (D := D) (ci := 9) (v := .int (nI tk2_6)) (C := RX9) (T := TX9) (N := 8) hx hb hg i_X9 hown hK hP 1 rfl rfl 5 (by decide) (hg _ m_222) (fun _ h9 => h9) rfl dX10_takeOne_32 ?_
      refine lv_istore_n (lv' := [(2, .int (nI tk2_6)), (0, .ref d0), (1, .int 7)]) hx hb dX10_takeOne_35 rfl hl (by decide) rfl (fun ls hl => ?_)
      refine lv_iload_n hx hb dX10_takeOne_36 rfl (lv_at hl 0 rfl) ?_
      refine lv_bipush (v := 60) hx hb dX10_takeOne_37 (by decide) ?_
      refine lv_icmp_eq (tgt := 56) hx hb dX10_takeOne_39 (by decide) (fun c_35 => ?_) (fun c_35 => ?_)
      · have q_36 : tk2_6 = 60 := q_eq (a := tk2_6) (b := 60) rfl rfl (by omega) (by omega) c_35
        have hkk : tk2_6 = knd fby tn ga2_15 := by have h9 := a_27.2.2.1; omega
        have hop := sg_4 (show knd fby tn ga2_15 = 60 ∨ knd fby tn ga2_15 = 62 ∨ knd fby tn ga2_15 = 61 from by have h9 := a_27.2.2.1; omega)
        have hgt_37 : ga2_15 < fin fby tn ga2_15 ∧ fin fby tn ga2_15 ≤ tn := ⟨fin_gt (by have h9 := a_27.2.2.1; omega), fin_le (by omega)⟩
        refine lv_aload_n hx hb dX10_takeOne_56 rfl (lv_at hl 1 rfl) ?_
        refine va_get (D := D) (ci := 10) (v := .ref t0) (C := RX10) (T := TX10) (N := 10) hx hb hg i_X10 hown hK hP 0 rfl rfl 0 (by decide) (hg _ m_255) (fun _ h9 => h9) rfl dX10_takeOne_57 ?_
        refine x_callVv (q := (RX9, TX9, 8)) (ci := 9) (q0 := 0) (wr := [wO d0 10 [.ref t0, .ref d1, .ref h0, .ref f0, .int (nI ow2_11), .int wt, .int dt, .int vv, .int fq, .int pq], wO h0 4 [.ref h1, .ref h2, .ref h3, .ref h4, .ref h5, .ref h6, .ref h7, .ref h8, .ref h9, .ref h10, .ref h11, hv0, hv1, hv2, hv3, .int (nI un2_12)], wO f0 3 [.ref f1, .ref f2, .int (nI nf2_13), y3], wI (cy 1) f1 280 (fco2_14)]) (rest := []) ⟨hx, hb, hml, hown, hg, hl.1⟩ k_X10_140 (s_next l D cy adK adV t0 t1 t2 tn ta2_4 ts2_5 tk2_6 tm2_7 tr2_8 fby fky (fin fby tn ga2_15) (by omega) (by omega) (a_27.2.1) (hky)) EV_blind hK hP hD hS hA [1, 2, 3] [0, 4, 5, 6] ⟨rfl, rfl, by decide +kernel, by decide +kernel, by decide +kernel⟩ rfl rfl (fun U hU hW => EV_pass hE hS (va_free hD hS hA [1, 2, 3] rfl) hU hW) dX10_takeOne_60 rfl rfl (Nat.le_of_ble_eq_true rfl) ⟨Nat.le_of_ble_eq_true rfl, Nat.le_of_ble_eq_true rfl⟩ ⟨Nat.le_of_ble_eq_true rfl, Nat.le_of_ble_eq_true rfl⟩ (fun zu38 H locs hw38 hP9 hD9 hS9 => ?_)
        clear hP hD hS
        obtain ⟨ta2_39, ts2_40, tk2_41, tm2_42, tr2_43⟩ := zu38
        refine reW [wO d0 10 [.ref t0, .ref d1, .ref h0, .ref f0, .int (nI ow2_11), .int wt, .int dt, .int vv, .int fq, .int pq], wO h0 4 [.ref h1, .ref h2, .ref h3, .ref h4, .ref h5, .ref h6, .ref h7, .ref h8, .ref h9, .ref h10, .ref h11, hv0, hv1, hv2, hv3, .int (nI un2_12)], wO f0 3 [.ref f1, .ref f2, .int (nI nf2_13), y3], wI (cy 1) f1 280 (fco2_14), wO t0 9 [.ref t1, .ref t2, .int (nI tn), .int (nI ta2_39), .int (nI ts2_40), .int (nI tk2_41), .long tm2_42, .int tr2_43], wI (cy 0) t1 1600 (fby), (t2, .inl (cy 2, 24, .inr (.inl (fky))))] hP9 hD9 hS9 (fun hP hD hS => ?_)
        clear hP9 hD9 hS9
        refine W.widen (k := 0) (n := 0) (Nat.le_of_ble_eq_true rfl) (Nat.le_of_ble_eq_true rfl) ?_
        replace hw38 : (ta2_39 ≤ tn) ∧ (tk2_41 ≤ 123) ∧ (tkC fby tn (fin fby tn ga2_15) ta2_39 ts2_40 tk2_41 tm2_42 tr2_43) := hw38
        obtain ⟨f_44, f_45, f_46⟩ := hw38
        refine lv_aload_n hx hb dX10_takeOne_63 rfl (lv_at hl 1 rfl) ?_
        refine lv_iload_n hx hb dX10_takeOne_64 rfl (lv_at hl 2 rfl) ?_
        refine x_callVi (q := (RX10, TX10, 10)) (ci := 10) (q0 := 0) (wr := []) (rest := []) ⟨hx, hb, hml, hown, hg, hl.1⟩ k_X10_192 (s_takeSum7 l D cy adK adV d0 d1 wt dt vv fq pq t0 t1 t2 tn ta2_39 ts2_40 tk2_41 tm2_42 tr2_43 fby fky h0 h1 h2 h3 h4 h5 h6 h7 h8 h9 h10 h11 hv0 hv1 hv2 hv3 ow2_11 un2_12 f0 f1 f2 nf2_13 y3 fco2_14 (fin fby tn ga2_15) (by omega) (by omega) (by omega) (f_46) (hky) (by omega) (f_20) (by omega) (by omega) (by omega) (by omega)) EV_blind hK hP hD hS hA [0, 4, 5, 6, 1, 2, 3] [] ⟨rfl, rfl, by decide +kernel, by decide +kernel, by decide +kernel⟩ rfl rfl (fun U hU hW => EV_pass hE hS (va_free hD hS hA [0, 4, 5, 6, 1, 2, 3] rfl) hU hW) dX10_takeOne_65 rfl rfl (Nat.le_of_ble_eq_true rfl) ⟨Nat.le_of_ble_eq_true rfl, Nat.le_of_ble_eq_true rfl⟩ ⟨Nat.le_of_ble_eq_true rfl, Nat.le_of_ble_eq_true rfl⟩ (fun zr47 zu47 H locs hw47 hP9 hD9 hS9 => ?_)
        clear hP hD hS
        obtain ⟨ta2_48, ts2_49, tk2_50, tm2_51, tr2_52, fq2_53, pq2_54, ow2_55, un2_56, nf2_57, fco2_58, ga2_59, nw2_60⟩ := zu47
        refine reW [wO d0 10 [.ref t0, .ref d1, .ref h0, .ref f0, .int (nI ow2_55), .int wt, .int dt, .int vv, .int fq2_53, .int pq2_54], wO t0 9 [.ref t1, .ref t2, .int (nI tn), .int (nI ta2_48), .int (nI ts2_49), .int (nI tk2_50), .long tm2_51, .int tr2_52], wI (cy 0) t1 1600 (fby), (t2, .inl (cy 2, 24, .inr (.inl (fky)))), wO h0 4 [.ref h1, .ref h2, .ref h3, .ref h4, .ref h5, .ref h6, .ref h7, .ref h8, .ref h9, .ref h10, .ref h11, hv0, hv1, hv2, hv3, .int (nI un2_56)], wO f0 3 [.ref f1, .ref f2, .int (nI nf2_57), y3], wI (cy 1) f1 280 (fco2_58)] hP9 hD9 hS9 (fun hP hD hS => ?_)
        clear hP9 hD9 hS9
        refine W.widen (k := 0) (n := 0) (Nat.le_of_ble_eq_true rfl) (Nat.le_of_ble_eq_true rfl) ?_
        replace hw47 : (ta2_48 ≤ tn) ∧ (tk2_50 ≤ 123) ∧ (nf2_57 ≤ 280) ∧ (cOK fco2_58 nf2_57) ∧ (ow2_55 ≤ 30) ∧ (un2_56 ≤ 60) ∧ ((zr47 = 1 ∧ (okS (knd fby tn) (fin fby tn) (cdF fby tn) 5 7 (fin fby tn ga2_15) ow2_11 un2_12 ga2_59 ow2_55 un2_56 nw2_60) ∧ (fq = fq2_53) ∧ (pq = pq2_54) ∧ (tkC fby tn ga2_59 ta2_48 ts2_49 tk2_50 tm2_51 tr2_52) ∧ ((fin fby tn ga2_15) < ga2_59 ∧ ga2_59 ≤ tn) ∧ (exC fco2_14 nf2_13 fco2_58 nf2_57 nw2_60) ∧ (nf2_57 + 2 * ow2_11 + 1 ≤ nf2_13 + 2 * ow2_55 ∧ ow2_11 < ow2_55)) ∨ (zr47 = 0 ∧ (noS (knd fby tn) (fin fby tn) 5 7 (fin fby tn ga2_15) ow2_11 un2_12 ga2_59) ∧ (flt fby tn ga2_59 2 fq2_53 pq2_54))) := hw47
        obtain ⟨f_61, f_62, f_63, f_64, f_65, f_66, f_67⟩ := hw47
        rcases f_67 with ⟨hz_75, a_68, a_69, a_70, a_71, a_72, a_73, a_74⟩ | ⟨hz_78, a_76, a_77⟩
        · subst hz_75
          subst a_69
          subst a_70
          have hg_a_72 := a_72
          have hl_a_74 := a_74
          refine lv_istore_n (lv' := [(3, .int 1), (2, .int (nI tk2_6)), (0, .ref d0), (1, .int 7)]) hx hb dX10_takeOne_68 rfl hl (by decide) rfl (fun ls hl => ?_)
          refine lv_aload_n hx hb dX10_takeOne_69 rfl (lv_at hl 2 rfl) ?_
          refine va_get (D := D) (ci := 10) (v := .ref f0) (C := RX10) (T := TX10) (N := 10) hx hb hg i_X10 hown hK hP 0 rfl rfl 3 (by decide) (hg _ m_258) (fun _ h9 => h9) rfl dX10_takeOne_70 ?_
          refine lv_iload_n hx hb dX10_takeOne_73 rfl (lv_at hl 1 rfl) ?_
          refine x_callVv (q := (RX3, TX3, 4)) (ci := 3) (q0 := 0) (wr := [wO d0 10 [.ref t0, .ref d1, .ref h0, .ref f0, .int (nI ow2_55), .int wt, .int dt, .int vv, .int fq, .int pq], wO t0 9 [.ref t1, .ref t2, .int (nI tn), .int (nI ta2_48), .int (nI ts2_49), .int (nI tk2_50), .long tm2_51, .int tr2_52], wI (cy 0) t1 1600 (fby), (t2, .inl (cy 2, 24, .inr (.inl (fky)))), wO h0 4 [.ref h1, .ref h2, .ref h3, .ref h4, .ref h5, .ref h6, .ref h7, .ref h8, .ref h9, .ref h10, .ref h11, hv0, hv1, hv2, hv3, .int (nI un2_56)]]) (rest := []) ⟨hx, hb, hml, hown, hg, hl.1⟩ k_X10_182 (s_addDeed9 l D cy f0 f1 f2 nf2_57 y3 fco2_58 tk2_6 (by omega) (f_64) (by omega)) E0_blind hK hP hD hS hA [5, 6] [0, 1, 2, 3, 4] ⟨rfl, rfl, by decide +kernel, by decide +kernel, by decide +kernel⟩ rfl rfl (fun _ _ _ => trivial) dX10_takeOne_74 rfl rfl (Nat.le_of_ble_eq_true rfl) ⟨Nat.le_of_ble_eq_true rfl, Nat.le_of_ble_eq_true rfl⟩ ⟨Nat.le_of_ble_eq_true rfl, Nat.le_of_ble_eq_true rfl⟩ (fun zu79 H locs hw79 hP9 hD9 hS9 => ?_)
          clear hP hD hS
          obtain ⟨n2_80, fc2_81⟩ := zu79
          refine reW [wO d0 10 [.ref t0, .ref d1, .ref h0, .ref f0, .int (nI ow2_55), .int wt, .int dt, .int vv, .int fq, .int pq], wO t0 9 [.ref t1, .ref t2, .int (nI tn), .int (nI ta2_48), .int (nI ts2_49), .int (nI tk2_50), .long tm2_51, .int tr2_52], wI (cy 0) t1 1600 (fby), (t2, .inl (cy 2, 24, .inr (.inl (fky)))), wO h0 4 [.ref h1, .ref h2, .ref h3, .ref h4, .ref h5, .ref h6, .ref h7, .ref h8, .ref h9, .ref h10, .ref h11, hv0, hv1, hv2, hv3, .int (nI un2_56)], wO f0 3 [.ref f1, .ref f2, .int (nI n2_80), y3], wI (cy 1) f1 280 (fc2_81)] hP9 hD9 hS9 (fun hP hD hS => ?_)
          clear hP9 hD9 hS9
          refine W.widen (k := 0) (n := 0) (Nat.le_of_ble_eq_true rfl) (Nat.le_of_ble_eq_true rfl) ?_
          replace hw79 : (n2_80 = nf2_57 + 1) ∧ (cOK fc2_81 n2_80) ∧ (exC fco2_58 nf2_57 fc2_81 n2_80 [nI (20000 + tk2_6)]) := hw79
          obtain ⟨f_82, f_83, f_84⟩ := hw79
          refine lv_iload_n hx hb dX10_takeOne_77 rfl (lv_at hl 0 rfl) ?_
          exact x_zret hQ hx hb hr hlocks hK hP hD hS rfl dX10_takeOne_78 (ta2_48, ts2_49, tk2_50, tm2_51, tr2_52, fq, pq, ow2_55, un2_56, n2_80, fc2_81, ga2_59, (nw2_16 ++ (nw2_60 ++ [ded (sgM (knd fby tn ga2_15))]))) (⟨(show ta2_48 ≤ tn from by omega), (show tk2_50 ≤ 123 from by omega), (show n2_80 ≤ 280 from by omega), f_83, (show ow2_55 ≤ 30 from by omega), (show un2_56 ≤ 60 from by omega), (show ((1 : Int32) = 1 ∧ (okS (knd fby tn) (fin fby tn) (cdF fby tn) 4 7 ga ow un ga2_59 ow2_55 un2_56 ((nw2_16 ++ (nw2_60 ++ [ded (sgM (knd fby tn ga2_15))])))) ∧ (fq = fq) ∧ (pq = pq) ∧ (tkC fby tn ga2_59 ta2_48 ts2_49 tk2_50 tm2_51 tr2_52) ∧ (ga < ga2_59 ∧ ga2_59 ≤ tn) ∧ (exC fco nf fc2_81 n2_80 ((nw2_16 ++ (nw2_60 ++ [ded (sgM (knd fby tn ga2_15))])))) ∧ (n2_80 + 2 * ow + 1 ≤ nf + 2 * ow2_55 ∧ ow < ow2_55)) ∨ ((1 : Int32) = 0 ∧ (noS (knd fby tn) (fin fby tn) 4 7 ga ow un ga2_59) ∧ (flt fby tn ga2_59 2 fq pq)) from Or.inl ⟨rfl, (one_rel hn16 a_24 hop.1 hop.2 a_68), (rfl), (rfl), (a_71), (⟨by omega, by omega⟩), ((exC_tr a_29 (exC_tr a_73 (exC_dd f_84 hop.1 hkk)))), (⟨by omega, by omega⟩)⟩)⟩) [0, 1, 2, 3, 4, 5, 6] (by decide +kernel) rfl (Nat.le_of_ble_eq_true rfl) (Nat.le_of_ble_eq_true rfl)
        · subst hz_78
          refine lv_istore_n (lv' := [(3, .int 0), (2, .int (nI tk2_6)), (0, .ref d0), (1, .int 7)]) hx hb dX10_takeOne_68 rfl hl (by decide) rfl (fun ls hl => ?_)
          refine lv_aload_n hx hb dX10_takeOne_69 rfl (lv_at hl 2 rfl) ?_
          refine va_get (D := D) (ci := 10) (v := .ref f0) (C := RX10) (T := TX10) (N := 10) hx hb hg i_X10 hown hK hP 0 rfl rfl 3 (by decide) (hg _ m_258) (fun _ h9 => h9) rfl dX10_takeOne_70 ?_
          refine lv_iload_n hx hb dX10_takeOne_73 rfl (lv_at hl 1 rfl) ?_
          refine x_callVv (q := (RX3, TX3, 4)) (ci := 3) (q0 := 0) (wr := [wO d0 10 [.ref t0, .ref d1, .ref h0, .ref f0, .int (nI ow2_55), .int wt, .int dt, .int vv, .int fq2_53, .int pq2_54], wO t0 9 [.ref t1, .ref t2, .int (nI tn), .int (nI ta2_48), .int (nI ts2_49), .int (nI tk2_50), .long tm2_51, .int tr2_52], wI (cy 0) t1 1600 (fby), (t2, .inl (cy 2, 24, .inr (.inl (fky)))), wO h0 4 [.ref h1, .ref h2, .ref h3, .ref h4, .ref h5, .ref h6, .ref h7, .ref h8, .ref h9, .ref h10, .ref h11, hv0, hv1, hv2, hv3, .int (nI un2_56)]]) (rest := []) ⟨hx, hb, hml, hown, hg, hl.1⟩ k_X10_182 (s_addDeed l D cy f0 f1 f2 nf2_57 y3 fco2_58 tk2_6 (by omega) (f_64) (by omega)) E0_blind hK hP hD hS hA [5, 6] [0, 1, 2, 3, 4] ⟨rfl, rfl, by decide +kernel, by decide +kernel, by decide +kernel⟩ rfl rfl (fun _ _ _ => trivial) dX10_takeOne_74 rfl rfl (Nat.le_of_ble_eq_true rfl) ⟨Nat.le_of_ble_eq_true rfl, Nat.le_of_ble_eq_true rfl⟩ ⟨Nat.le_of_ble_eq_true rfl, Nat.le_of_ble_eq_true rfl⟩ (fun zu85 H locs hw85 hP9 hD9 hS9 => ?_)
          clear hP hD hS
          obtain ⟨n2_86, fc2_87⟩ := zu85
          refine reW [wO d0 10 [.ref t0, .ref d1, .ref h0, .ref f0, .int (nI ow2_55), .int wt, .int dt, .int vv, .int fq2_53, .int pq2_54], wO t0 9 [.ref t1, .ref t2, .int (nI tn), .int (nI ta2_48), .int (nI ts2_49), .int (nI tk2_50), .long tm2_51, .int tr2_52], wI (cy 0) t1 1600 (fby), (t2, .inl (cy 2, 24, .inr (.inl (fky)))), wO h0 4 [.ref h1, .ref h2, .ref h3, .ref h4, .ref h5, .ref h6, .ref h7, .ref h8, .ref h9, .ref h10, .ref h11, hv0, hv1, hv2, hv3, .int (nI un2_56)], wO f0 3 [.ref f1, .ref f2, .int (nI n2_86), y3], wI (cy 1) f1 280 (fc2_87)] hP9 hD9 hS9 (fun hP hD hS => ?_)
          clear hP9 hD9 hS9
          refine W.widen (k := 0) (n := 0) (Nat.le_of_ble_eq_true rfl) (Nat.le_of_ble_eq_true rfl) ?_
          replace hw85 : (n2_86 ≤ 280) ∧ (cOK fc2_87 n2_86) := hw85
          obtain ⟨f_88, f_89⟩ := hw85
          refine lv_iload_n hx hb dX10_takeOne_77 rfl (lv_at hl 0 rfl) ?_
          exact x_zret hQ hx hb hr hlocks hK hP hD hS rfl dX10_takeOne_78 (ta2_48, ts2_49, tk2_50, tm2_51, tr2_52, fq2_53, pq2_54, ow2_55, un2_56, n2_86, fc2_87, ga2_59, []) (⟨(show ta2_48 ≤ tn from by omega), (show tk2_50 ≤ 123 from by omega), (show n2_86 ≤ 280 from by omega), f_89, (show ow2_55 ≤ 30 from by omega), (show un2_56 ≤ 60 from by omega), (show ((0 : Int32) = 1 ∧ (okS (knd fby tn) (fin fby tn) (cdF fby tn) 4 7 ga ow un ga2_59 ow2_55 un2_56 ([])) ∧ (fq = fq2_53) ∧ (pq = pq2_54) ∧ (tkC fby tn ga2_59 ta2_48 ts2_49 tk2_50 tm2_51 tr2_52) ∧ (ga < ga2_59 ∧ ga2_59 ≤ tn) ∧ (exC fco nf fc2_87 n2_86 ([])) ∧ (n2_86 + 2 * ow + 1 ≤ nf + 2 * ow2_55 ∧ ow < ow2_55)) ∨ ((0 : Int32) = 0 ∧ (noS (knd fby tn) (fin fby tn) 4 7 ga ow un ga2_59) ∧ (flt fby tn ga2_59 2 fq2_53 pq2_54)) from Or.inr (⟨rfl, (one_relN hn16 a_24 hop.1 hop.2 a_76), (a_77)⟩))⟩) [0, 1, 2, 3, 4, 5, 6] (by decide +kernel) rfl (Nat.le_of_ble_eq_true rfl) (Nat.le_of_ble_eq_true rfl)
      · have q_36 : ¬ tk2_6 = 60 := q_ne (a := tk2_6) (b := 60) rfl rfl (by omega) (by omega) c_35
        refine lv_iload_n hx hb dX10_takeOne_42 rfl (lv_at hl 0 rfl) ?_
        refine lv_bipush (v := 62) hx hb dX10_takeOne_43 (by decide) ?_
        refine lv_icmp_eq (tgt := 56) hx hb dX10_takeOne_45 (by decide) (fun c_90 => ?_) (fun c_90 => ?_)
        · have q_91 : tk2_6 = 62 := q_eq (a := tk2_6) (b := 62) rfl rfl (by omega) (by omega) c_90
          have hkk : tk2_6 = knd fby tn ga2_15 := by have h9 := a_27.2.2.1; omega
          have hop := sg_4 (show knd fby tn ga2_15 = 60 ∨ knd fby tn ga2_15 = 62 ∨ knd fby tn ga2_15 = 61 from by have h9 := a_27.2.2.1; omega)
          have hgt_92 : ga2_15 < fin fby tn ga2_15 ∧ fin fby tn ga2_15 ≤ tn := ⟨fin_gt (by have h9 := a_27.2.2.1; omega), fin_le (by omega)⟩
          refine lv_aload_n hx hb dX10_takeOne_56 rfl (lv_at hl 1 rfl) ?_
          refine va_get (D := D) (ci := 10) (v := .ref t0) (C := RX10) (T := TX10) (N := 10) hx hb hg i_X10 hown hK hP 0 rfl rfl 0 (by decide) (hg _ m_255) (fun _ h9 => h9) rfl dX10_takeOne_57 ?_
          refine x_callVv (q := (RX9, TX9, 8)) (ci := 9) (q0 := 0) (wr := [wO d0 10 [.ref t0, .ref d1, .ref h0, .ref f0, .int (nI ow2_11), .int wt, .int dt, .int vv, .int fq, .int pq], wO h0 4 [.ref h1, .ref h2, .ref h3, .ref h4, .ref h5, .ref h6, .ref h7, .ref h8, .ref h9, .ref h10, .ref h11, hv0, hv1, hv2, hv3, .int (nI un2_12)], wO f0 3 [.ref f1, .ref f2, .int (nI nf2_13), y3], wI (cy 1) f1 280 (fco2_14)]) (rest := []) ⟨hx, hb, hml, hown, hg, hl.1⟩ k_X10_140 (s_next l D cy adK adV t0 t1 t2 tn ta2_4 ts2_5 tk2_6 tm2_7 tr2_8 fby fky (fin fby tn ga2_15) (by omega) (by omega) (a_27.2.1) (hky)) EV_blind hK hP hD hS hA [1, 2, 3] [0, 4, 5, 6] ⟨rfl, rfl, by decide +kernel, by decide +kernel, by decide +kernel⟩ rfl rfl (fun U hU hW => EV_pass hE hS (va_free hD hS hA [1, 2, 3] rfl) hU hW) dX10_takeOne_60 rfl rfl (Nat.le_of_ble_eq_true rfl) ⟨Nat.le_of_ble_eq_true rfl, Nat.le_of_ble_eq_true rfl⟩ ⟨Nat.le_of_ble_eq_true rfl, Nat.le_of_ble_eq_true rfl⟩ (fun zu93 H locs hw93 hP9 hD9 hS9 => ?_)
          clear hP hD hS
          obtain ⟨ta2_94, ts2_95, tk2_96, tm2_97, tr2_98⟩ := zu93
          refine reW [wO d0 10 [.ref t0, .ref d1, .ref h0, .ref f0, .int (nI ow2_11), .int wt, .int dt, .int vv, .int fq, .int pq], wO h0 4 [.ref h1, .ref h2, .ref h3, .ref h4, .ref h5, .ref h6, .ref h7, .ref h8, .ref h9, .ref h10, .ref h11, hv0, hv1, hv2, hv3, .int (nI un2_12)], wO f0 3 [.ref f1, .ref f2, .int (nI nf2_13), y3], wI (cy 1) f1 280 (fco2_14), wO t0 9 [.ref t1, .ref t2, .int (nI tn), .int (nI ta2_94), .int (nI ts2_95), .int (nI tk2_96), .long tm2_97, .int tr2_98], wI (cy 0) t1 1600 (fby), (t2, .inl (cy 2, 24, .inr (.inl (fky))))] hP9 hD9 hS9 (fun hP hD hS => ?_)
          clear hP9 hD9 hS9
          refine W.widen (k := 0) (n := 0) (Nat.le_of_ble_eq_true rfl) (Nat.le_of_ble_eq_true rfl) ?_
          replace hw93 : (ta2_94 ≤ tn) ∧ (tk2_96 ≤ 123) ∧ (tkC fby tn (fin fby tn ga2_15) ta2_94 ts2_95 tk2_96 tm2_97 tr2_98) := hw93
          obtain ⟨f_99, f_100, f_101⟩ := hw93
          refine lv_aload_n hx hb dX10_takeOne_63 rfl (lv_at hl 1 rfl) ?_
          refine lv_iload_n hx hb dX10_takeOne_64 rfl (lv_at hl 2 rfl) ?_
          refine x_callVi (q := (RX10, TX10, 10)) (ci := 10) (q0 := 0) (wr := []) (rest := []) ⟨hx, hb, hml, hown, hg, hl.1⟩ k_X10_192 (s_takeSum7 l D cy adK adV d0 d1 wt dt vv fq pq t0 t1 t2 tn ta2_94 ts2_95 tk2_96 tm2_97 tr2_98 fby fky h0 h1 h2 h3 h4 h5 h6 h7 h8 h9 h10 h11 hv0 hv1 hv2 hv3 ow2_11 un2_12 f0 f1 f2 nf2_13 y3 fco2_14 (fin fby tn ga2_15) (by omega) (by omega) (by omega) (f_101) (hky) (by omega) (f_20) (by omega) (by omega) (by omega) (by omega)) EV_blind hK hP hD hS hA [0, 4, 5, 6, 1, 2, 3] [] ⟨rfl, rfl, by decide +kernel, by decide +kernel, by decide +kernel⟩ rfl rfl (fun U hU hW => EV_pass hE hS (va_free hD hS hA [0, 4, 5, 6, 1, 2, 3] rfl) hU hW) dX10_takeOne_65 rfl rfl (Nat.le_of_ble_eq_true rfl) ⟨Nat.le_of_ble_eq_true rfl, Nat.le_of_ble_eq_true rfl⟩ ⟨Nat.le_of_ble_eq_true rfl, Nat.le_of_ble_eq_true rfl⟩ (fun zr102 zu102 H locs hw102 hP9 hD9 hS9 => ?_)
          clear hP hD hS
          obtain ⟨ta2_103, ts2_104, tk2_105, tm2_106, tr2_107, fq2_108, pq2_109, ow2_110, un2_111, nf2_112, fco2_113, ga2_114, nw2_115⟩ := zu102
          refine reW [wO d0 10 [.ref t0, .ref d1, .ref h0, .ref f0, .int (nI ow2_110), .int wt, .int dt, .int vv, .int fq2_108, .int pq2_109], wO t0 9 [.ref t1, .ref t2, .int (nI tn), .int (nI ta2_103), .int (nI ts2_104), .int (nI tk2_105), .long tm2_106, .int tr2_107], wI (cy 0) t1 1600 (fby), (t2, .inl (cy 2, 24, .inr (.inl (fky)))), wO h0 4 [.ref h1, .ref h2, .ref h3, .ref h4, .ref h5, .ref h6, .ref h7, .ref h8, .ref h9, .ref h10, .ref h11, hv0, hv1, hv2, hv3, .int (nI un2_111)], wO f0 3 [.ref f1, .ref f2, .int (nI nf2_112), y3], wI (cy 1) f1 280 (fco2_113)] hP9 hD9 hS9 (fun hP hD hS => ?_)
          clear hP9 hD9 hS9
          refine W.widen (k := 0) (n := 0) (Nat.le_of_ble_eq_true rfl) (Nat.le_of_ble_eq_true rfl) ?_
          replace hw102 : (ta2_103 ≤ tn) ∧ (tk2_105 ≤ 123) ∧ (nf2_112 ≤ 280) ∧ (cOK fco2_113 nf2_112) ∧ (ow2_110 ≤ 30) ∧ (un2_111 ≤ 60) ∧ ((zr102 = 1 ∧ (okS (knd fby tn) (fin fby tn) (cdF fby tn) 5 7 (fin fby tn ga2_15) ow2_11 un2_12 ga2_114 ow2_110 un2_111 nw2_115) ∧ (fq = fq2_108) ∧ (pq = pq2_109) ∧ (tkC fby tn ga2_114 ta2_103 ts2_104 tk2_105 tm2_106 tr2_107) ∧ ((fin fby tn ga2_15) < ga2_114 ∧ ga2_114 ≤ tn) ∧ (exC fco2_14 nf2_13 fco2_113 nf2_112 nw2_115) ∧ (nf2_112 + 2 * ow2_11 + 1 ≤ nf2_13 + 2 * ow2_110 ∧ ow2_11 < ow2_110)) ∨ (zr102 = 0 ∧ (noS (knd fby tn) (fin fby tn) 5 7 (fin fby tn ga2_15) ow2_11 un2_12 ga2_114) ∧ (flt fby tn ga2_114 2 fq2_108 pq2_109))) := hw102
          obtain ⟨f_116, f_117, f_118, f_119, f_120, f_121, f_122⟩ := hw102
          rcases f_122 with ⟨hz_130, a_123, a_124, a_125, a_126, a_127, a_128, a_129⟩ | ⟨hz_133, a_131, a_132⟩
          · subst hz_130
            subst a_124
            subst a_125
            have hg_a_127 := a_127
            have hl_a_129 := a_129
            refine lv_istore_n (lv' := [(3, .int 1), (2, .int (nI tk2_6)), (0, .ref d0), (1, .int 7)]) hx hb dX10_takeOne_68 rfl hl (by decide) rfl (fun ls hl => ?_)
            refine lv_aload_n hx hb dX10_takeOne_69 rfl (lv_at hl 2 rfl) ?_
            refine va_get (D := D) (ci := 10) (v := .ref f0) (C := RX10) (T := TX10) (N := 10) hx hb hg i_X10 hown hK hP 0 rfl rfl 3 (by decide) (hg _ m_258) (fun _ h9 => h9) rfl dX10_takeOne_70 ?_
            refine lv_iload_n hx hb dX10_takeOne_73 rfl (lv_at hl 1 rfl) ?_
            refine x_callVv (q := (RX3, TX3, 4)) (ci := 3) (q0 := 0) (wr := [wO d0 10 [.ref t0, .ref d1, .ref h0, .ref f0, .int (nI ow2_110), .int wt, .int dt, .int vv, .int fq, .int pq], wO t0 9 [.ref t1, .ref t2, .int (nI tn), .int (nI ta2_103), .int (nI ts2_104), .int (nI tk2_105), .long tm2_106, .int tr2_107], wI (cy 0) t1 1600 (fby), (t2, .inl (cy 2, 24, .inr (.inl (fky)))), wO h0 4 [.ref h1, .ref h2, .ref h3, .ref h4, .ref h5, .ref h6, .ref h7, .ref h8, .ref h9, .ref h10, .ref h11, hv0, hv1, hv2, hv3, .int (nI un2_111)]]) (rest := []) ⟨hx, hb, hml, hown, hg, hl.1⟩ k_X10_182 (s_addDeed9 l D cy f0 f1 f2 nf2_112 y3 fco2_113 tk2_6 (by omega) (f_119) (by omega)) E0_blind hK hP hD hS hA [5, 6] [0, 1, 2, 3, 4] ⟨rfl, rfl, by decide +kernel, by decide +kernel, by decide +kernel⟩ rfl rfl (fun _ _ _ => trivial) dX10_takeOne_74 rfl rfl (Nat.le_of_ble_eq_true rfl) ⟨Nat.le_of_ble_eq_true rfl, Nat.le_of_ble_eq_true rfl⟩ ⟨Nat.le_of_ble_eq_true rfl, Nat.le_of_ble_eq_true rfl⟩ (fun zu134 H locs hw134 hP9 hD9 hS9 => ?_)
            clear hP hD hS
            obtain ⟨n2_135, fc2_136⟩ := zu134
            refine reW [wO d0 10 [.ref t0, .ref d1, .ref h0, .ref f0, .int (nI ow2_110), .int wt, .int dt, .int vv, .int fq, .int pq], wO t0 9 [.ref t1, .ref t2, .int (nI tn), .int (nI ta2_103), .int (nI ts2_104), .int (nI tk2_105), .long tm2_106, .int tr2_107], wI (cy 0) t1 1600 (fby), (t2, .inl (cy 2, 24, .inr (.inl (fky)))), wO h0 4 [.ref h1, .ref h2, .ref h3, .ref h4, .ref h5, .ref h6, .ref h7, .ref h8, .ref h9, .ref h10, .ref h11, hv0, hv1, hv2, hv3, .int (nI un2_111)], wO f0 3 [.ref f1, .ref f2, .int (nI n2_135), y3], wI (cy 1) f1 280 (fc2_136)] hP9 hD9 hS9 (fun hP hD hS => ?_)
            clear hP9 hD9 hS9
            refine W.widen (k := 0) (n := 0) (Nat.le_of_ble_eq_true rfl) (Nat.le_of_ble_eq_true rfl) ?_
            replace hw134 : (n2_135 = nf2_112 + 1) ∧ (cOK fc2_136 n2_135) ∧ (exC fco2_113 nf2_112 fc2_136 n2_135 [nI (20000 + tk2_6)]) := hw134
            obtain ⟨f_137, f_138, f_139⟩ := hw134
            refine lv_iload_n hx hb dX10_takeOne_77 rfl (lv_at hl 0 rfl) ?_
            exact x_zret hQ hx hb hr hlocks hK hP hD hS rfl dX10_takeOne_78 (ta2_103, ts2_104, tk2_105, tm2_106, tr2_107, fq, pq, ow2_110, un2_111, n2_135, fc2_136, ga2_114, (nw2_16 ++ (nw2_115 ++ [ded (sgM (knd fby tn ga2_15))]))) (⟨(show ta2_103 ≤ tn from by omega), (show tk2_105 ≤ 123 from by omega), (show n2_135 ≤ 280 from by omega), f_138, (show ow2_110 ≤ 30 from by omega), (show un2_111 ≤ 60 from by omega), (show ((1 : Int32) = 1 ∧ (okS (knd fby tn) (fin fby tn) (cdF fby tn) 4 7 ga ow un ga2_114 ow2_110 un2_111 ((nw2_16 ++ (nw2_115 ++ [ded (sgM (knd fby tn ga2_15))])))) ∧ (fq = fq) ∧ (pq = pq) ∧ (tkC fby tn ga2_114 ta2_103 ts2_104 tk2_105 tm2_106 tr2_107) ∧ (ga < ga2_114 ∧ ga2_114 ≤ tn) ∧ (exC fco nf fc2_136 n2_135 ((nw2_16 ++ (nw2_115 ++ [ded (sgM (knd fby tn ga2_15))])))) ∧ (n2_135 + 2 * ow + 1 ≤ nf + 2 * ow2_110 ∧ ow < ow2_110)) ∨ ((1 : Int32) = 0 ∧ (noS (knd fby tn) (fin fby tn) 4 7 ga ow un ga2_114) ∧ (flt fby tn ga2_114 2 fq pq)) from Or.inl ⟨rfl, (one_rel hn16 a_24 hop.1 hop.2 a_123), (rfl), (rfl), (a_126), (⟨by omega, by omega⟩), ((exC_tr a_29 (exC_tr a_128 (exC_dd f_139 hop.1 hkk)))), (⟨by omega, by omega⟩)⟩)⟩) [0, 1, 2, 3, 4, 5, 6] (by decide +kernel) rfl (Nat.le_of_ble_eq_true rfl) (Nat.le_of_ble_eq_true rfl)
          · subst hz_133
            refine lv_istore_n (lv' := [(3, .int 0), (2, .int (nI tk2_6)), (0, .ref d0), (1, .int 7)]) hx hb dX10_takeOne_68 rfl hl (by decide) rfl (fun ls hl => ?_)
            refine lv_aload_n hx hb dX10_takeOne_69 rfl (lv_at hl 2 rfl) ?_
            refine va_get (D := D) (ci := 10) (v := .ref f0) (C := RX10) (T := TX10) (N := 10) hx hb hg i_X10 hown hK hP 0 rfl rfl 3 (by decide) (hg _ m_258) (fun _ h9 => h9) rfl dX10_takeOne_70 ?_
            refine lv_iload_n hx hb dX10_takeOne_73 rfl (lv_at hl 1 rfl) ?_
            refine x_callVv (q := (RX3, TX3, 4)) (ci := 3) (q0 := 0) (wr := [wO d0 10 [.ref t0, .ref d1, .ref h0, .ref f0, .int (nI ow2_110), .int wt, .int dt, .int vv, .int fq2_108, .int pq2_109], wO t0 9 [.ref t1, .ref t2, .int (nI tn), .int (nI ta2_103), .int (nI ts2_104), .int (nI tk2_105), .long tm2_106, .int tr2_107], wI (cy 0) t1 1600 (fby), (t2, .inl (cy 2, 24, .inr (.inl (fky)))), wO h0 4 [.ref h1, .ref h2, .ref h3, .ref h4, .ref h5, .ref h6, .ref h7, .ref h8, .ref h9, .ref h10, .ref h11, hv0, hv1, hv2, hv3, .int (nI un2_111)]]) (rest := []) ⟨hx, hb, hml, hown, hg, hl.1⟩ k_X10_182 (s_addDeed l D cy f0 f1 f2 nf2_112 y3 fco2_113 tk2_6 (by omega) (f_119) (by omega)) E0_blind hK hP hD hS hA [5, 6] [0, 1, 2, 3, 4] ⟨rfl, rfl, by decide +kernel, by decide +kernel, by decide +kernel⟩ rfl rfl (fun _ _ _ => trivial) dX10_takeOne_74 rfl rfl (Nat.le_of_ble_eq_true rfl) ⟨Nat.le_of_ble_eq_true rfl, Nat.le_of_ble_eq_true rfl⟩ ⟨Nat.le_of_ble_eq_true rfl, Nat.le_of_ble_eq_true rfl⟩ (fun zu140 H locs hw140 hP9 hD9 hS9 => ?_)
            clear hP hD hS
            obtain ⟨n2_141, fc2_142⟩ := zu140
            refine reW [wO d0 10 [.ref t0, .ref d1, .ref h0, .ref f0, .int (nI ow2_110), .int wt, .int dt, .int vv, .int fq2_108, .int pq2_109], wO t0 9 [.ref t1, .ref t2, .int (nI tn), .int (nI ta2_103), .int (nI ts2_104), .int (nI tk2_105), .long tm2_106, .int tr2_107], wI (cy 0) t1 1600 (fby), (t2, .inl (cy 2, 24, .inr (.inl (fky)))), wO h0 4 [.ref h1, .ref h2, .ref h3, .ref h4, .ref h5, .ref h6, .ref h7, .ref h8, .ref h9, .ref h10, .ref h11, hv0, hv1, hv2, hv3, .int (nI un2_111)], wO f0 3 [.ref f1, .ref f2, .int (nI n2_141), y3], wI (cy 1) f1 280 (fc2_142)] hP9 hD9 hS9 (fun hP hD hS => ?_)
            clear hP9 hD9 hS9
            refine W.widen (k := 0) (n := 0) (Nat.le_of_ble_eq_true rfl) (Nat.le_of_ble_eq_true rfl) ?_
            replace hw140 : (n2_141 ≤ 280) ∧ (cOK fc2_142 n2_141) := hw140
            obtain ⟨f_143, f_144⟩ := hw140
            refine lv_iload_n hx hb dX10_takeOne_77 rfl (lv_at hl 0 rfl) ?_
            exact x_zret hQ hx hb hr hlocks hK hP hD hS rfl dX10_takeOne_78 (ta2_103, ts2_104, tk2_105, tm2_106, tr2_107, fq2_108, pq2_109, ow2_110, un2_111, n2_141, fc2_142, ga2_114, []) (⟨(show ta2_103 ≤ tn from by omega), (show tk2_105 ≤ 123 from by omega), (show n2_141 ≤ 280 from by omega), f_144, (show ow2_110 ≤ 30 from by omega), (show un2_111 ≤ 60 from by omega), (show ((0 : Int32) = 1 ∧ (okS (knd fby tn) (fin fby tn) (cdF fby tn) 4 7 ga ow un ga2_114 ow2_110 un2_111 ([])) ∧ (fq = fq2_108) ∧ (pq = pq2_109) ∧ (tkC fby tn ga2_114 ta2_103 ts2_104 tk2_105 tm2_106 tr2_107) ∧ (ga < ga2_114 ∧ ga2_114 ≤ tn) ∧ (exC fco nf fc2_142 n2_141 ([])) ∧ (n2_141 + 2 * ow + 1 ≤ nf + 2 * ow2_110 ∧ ow < ow2_110)) ∨ ((0 : Int32) = 0 ∧ (noS (knd fby tn) (fin fby tn) 4 7 ga ow un ga2_114) ∧ (flt fby tn ga2_114 2 fq2_108 pq2_109)) from Or.inr (⟨rfl, (one_relN hn16 a_24 hop.1 hop.2 a_131), (a_132)⟩))⟩) [0, 1, 2, 3, 4, 5, 6] (by decide +kernel) rfl (Nat.le_of_ble_eq_true rfl) (Nat.le_of_ble_eq_true rfl)
        · have q_91 : ¬ tk2_6 = 62 := q_ne (a := tk2_6) (b := 62) rfl rfl (by omega) (by omega) c_90
          refine lv_iload_n hx hb dX10_takeOne_48 rfl (lv_at hl 0 rfl) ?_
          refine lv_bipush (v := 61) hx hb dX10_takeOne_49 (by decide) ?_
          refine lv_icmp_eq (tgt := 56) hx hb dX10_takeOne_51 (by decide) (fun c_145 => ?_) (fun c_145 => ?_)
          · have q_146 : tk2_6 = 61 := q_eq (a := tk2_6) (b := 61) rfl rfl (by omega) (by omega) c_145
            have hkk : tk2_6 = knd fby tn ga2_15 := by have h9 := a_27.2.2.1; omega
            have hop := sg_4 (show knd fby tn ga2_15 = 60 ∨ knd fby tn ga2_15 = 62 ∨ knd fby tn ga2_15 = 61 from by have h9 := a_27.2.2.1; omega)
            have hgt_147 : ga2_15 < fin fby tn ga2_15 ∧ fin fby tn ga2_15 ≤ tn := ⟨fin_gt (by have h9 := a_27.2.2.1; omega), fin_le (by omega)⟩
            refine lv_aload_n hx hb dX10_takeOne_56 rfl (lv_at hl 1 rfl) ?_
            refine va_get (D := D) (ci := 10) (v := .ref t0) (C := RX10) (T := TX10) (N := 10) hx hb hg i_X10 hown hK hP 0 rfl rfl 0 (by decide) (hg _ m_255) (fun _ h9 => h9) rfl dX10_takeOne_57 ?_
            refine x_callVv (q := (RX9, TX9, 8)) (ci := 9) (q0 := 0) (wr := [wO d0 10 [.ref t0, .ref d1, .ref h0, .ref f0, .int (nI ow2_11), .int wt, .int dt, .int vv, .int fq, .int pq], wO h0 4 [.ref h1, .ref h2, .ref h3, .ref h4, .ref h5, .ref h6, .ref h7, .ref h8, .ref h9, .ref h10, .ref h11, hv0, hv1, hv2, hv3, .int (nI un2_12)], wO f0 3 [.ref f1, .ref f2, .int (nI nf2_13), y3], wI (cy 1) f1 280 (fco2_14)]) (rest := []) ⟨hx, hb, hml, hown, hg, hl.1⟩ k_X10_140 (s_next l D cy adK adV t0 t1 t2 tn ta2_4 ts2_5 tk2_6 tm2_7 tr2_8 fby fky (fin fby tn ga2_15) (by omega) (by omega) (a_27.2.1) (hky)) EV_blind hK hP hD hS hA [1, 2, 3] [0, 4, 5, 6] ⟨rfl, rfl, by decide +kernel, by decide +kernel, by decide +kernel⟩ rfl rfl (fun U hU hW => EV_pass hE hS (va_free hD hS hA [1, 2, 3] rfl) hU hW) dX10_takeOne_60 rfl rfl (Nat.le_of_ble_eq_true rfl) ⟨Nat.le_of_ble_eq_true rfl, Nat.le_of_ble_eq_true rfl⟩ ⟨Nat.le_of_ble_eq_true rfl, Nat.le_of_ble_eq_true rfl⟩ (fun zu148 H locs hw148 hP9 hD9 hS9 => ?_)
            clear hP hD hS
            obtain ⟨ta2_149, ts2_150, tk2_151, tm2_152, tr2_153⟩ := zu148
            refine reW [wO d0 10 [.ref t0, .ref d1, .ref h0, .ref f0, .int (nI ow2_11), .int wt, .int dt, .int vv, .int fq, .int pq], wO h0 4 [.ref h1, .ref h2, .ref h3, .ref h4, .ref h5, .ref h6, .ref h7, .ref h8, .ref h9, .ref h10, .ref h11, hv0, hv1, hv2, hv3, .int (nI un2_12)], wO f0 3 [.ref f1, .ref f2, .int (nI nf2_13), y3], wI (cy 1) f1 280 (fco2_14), wO t0 9 [.ref t1, .ref t2, .int (nI tn), .int (nI ta2_149), .int (nI ts2_150), .int (nI tk2_151), .long tm2_152, .int tr2_153], wI (cy 0) t1 1600 (fby), (t2, .inl (cy 2, 24, .inr (.inl (fky))))] hP9 hD9 hS9 (fun hP hD hS => ?_)
            clear hP9 hD9 hS9
            refine W.widen (k := 0) (n := 0) (Nat.le_of_ble_eq_true rfl) (Nat.le_of_ble_eq_true rfl) ?_
            replace hw148 : (ta2_149 ≤ tn) ∧ (tk2_151 ≤ 123) ∧ (tkC fby tn (fin fby tn ga2_15) ta2_149 ts2_150 tk2_151 tm2_152 tr2_153) := hw148
            obtain ⟨f_154, f_155, f_156⟩ := hw148
            refine lv_aload_n hx hb dX10_takeOne_63 rfl (lv_at hl 1 rfl) ?_
            refine lv_iload_n hx hb dX10_takeOne_64 rfl (lv_at hl 2 rfl) ?_
            refine x_callVi (q := (RX10, TX10, 10)) (ci := 10) (q0 := 0) (wr := []) (rest := []) ⟨hx, hb, hml, hown, hg, hl.1⟩ k_X10_192 (s_takeSum7 l D cy adK adV d0 d1 wt dt vv fq pq t0 t1 t2 tn ta2_149 ts2_150 tk2_151 tm2_152 tr2_153 fby fky h0 h1 h2 h3 h4 h5 h6 h7 h8 h9 h10 h11 hv0 hv1 hv2 hv3 ow2_11 un2_12 f0 f1 f2 nf2_13 y3 fco2_14 (fin fby tn ga2_15) (by omega) (by omega) (by omega) (f_156) (hky) (by omega) (f_20) (by omega) (by omega) (by omega) (by omega)) EV_blind hK hP hD hS hA [0, 4, 5, 6, 1, 2, 3] [] ⟨rfl, rfl, by decide +kernel, by decide +kernel, by decide +kernel⟩ rfl rfl (fun U hU hW => EV_pass hE hS (va_free hD hS hA [0, 4, 5, 6, 1, 2, 3] rfl) hU hW) dX10_takeOne_65 rfl rfl (Nat.le_of_ble_eq_true rfl) ⟨Nat.le_of_ble_eq_true rfl, Nat.le_of_ble_eq_true rfl⟩ ⟨Nat.le_of_ble_eq_true rfl, Nat.le_of_ble_eq_true rfl⟩ (fun zr157 zu157 H locs hw157 hP9 hD9 hS9 => ?_)
            clear hP hD hS
            obtain ⟨ta2_158, ts2_159, tk2_160, tm2_161, tr2_162, fq2_163, pq2_164, ow2_165, un2_166, nf2_167, fco2_168, ga2_169, nw2_170⟩ := zu157
            refine reW [wO d0 10 [.ref t0, .ref d1, .ref h0, .ref f0, .int (nI ow2_165), .int wt, .int dt, .int vv, .int fq2_163, .int pq2_164], wO t0 9 [.ref t1, .ref t2, .int (nI tn), .int (nI ta2_158), .int (nI ts2_159), .int (nI tk2_160), .long tm2_161, .int tr2_162], wI (cy 0) t1 1600 (fby), (t2, .inl (cy 2, 24, .inr (.inl (fky)))), wO h0 4 [.ref h1, .ref h2, .ref h3, .ref h4, .ref h5, .ref h6, .ref h7, .ref h8, .ref h9, .ref h10, .ref h11, hv0, hv1, hv2, hv3, .int (nI un2_166)], wO f0 3 [.ref f1, .ref f2, .int (nI nf2_167), y3], wI (cy 1) f1 280 (fco2_168)] hP9 hD9 hS9 (fun hP hD hS => ?_)
            clear hP9 hD9 hS9
            refine W.widen (k := 0) (n := 0) (Nat.le_of_ble_eq_true rfl) (Nat.le_of_ble_eq_true rfl) ?_
            replace hw157 : (ta2_158 ≤ tn) ∧ (tk2_160 ≤ 123) ∧ (nf2_167 ≤ 280) ∧ (cOK fco2_168 nf2_167) ∧ (ow2_165 ≤ 30) ∧ (un2_166 ≤ 60) ∧ ((zr157 = 1 ∧ (okS (knd fby tn) (fin fby tn) (cdF fby tn) 5 7 (fin fby tn ga2_15) ow2_11 un2_12 ga2_169 ow2_165 un2_166 nw2_170) ∧ (fq = fq2_163) ∧ (pq = pq2_164) ∧ (tkC fby tn ga2_169 ta2_158 ts2_159 tk2_160 tm2_161 tr2_162) ∧ ((fin fby tn ga2_15) < ga2_169 ∧ ga2_169 ≤ tn) ∧ (exC fco2_14 nf2_13 fco2_168 nf2_167 nw2_170) ∧ (nf2_167 + 2 * ow2_11 + 1 ≤ nf2_13 + 2 * ow2_165 ∧ ow2_11 < ow2_165)) ∨ (zr157 = 0 ∧ (noS (knd fby tn) (fin fby tn) 5 7 (fin fby tn ga2_15) ow2_11 un2_12 ga2_169) ∧ (flt fby tn ga2_169 2 fq2_163 pq2_164))) := hw157
            obtain ⟨f_171, f_172, f_173, f_174, f_175, f_176, f_177⟩ := hw157
            rcases f_177 with ⟨hz_185, a_178, a_179, a_180, a_181, a_182, a_183, a_184⟩ | ⟨hz_188, a_186, a_187⟩
            · subst hz_185
              subst a_179
              subst a_180
              have hg_a_182 := a_182
              have hl_a_184 := a_184
              refine lv_istore_n (lv' := [(3, .int 1), (2, .int (nI tk2_6)), (0, .ref d0), (1, .int 7)]) hx hb dX10_takeOne_68 rfl hl (by decide) rfl (fun ls hl => ?_)
              refine lv_aload_n hx hb dX10_takeOne_69 rfl (lv_at hl 2 rfl) ?_
              refine va_get (D := D) (ci := 10) (v := .ref f0) (C := RX10) (T := TX10) (N := 10) hx hb hg i_X10 hown hK hP 0 rfl rfl 3 (by decide) (hg _ m_258) (fun _ h9 => h9) rfl dX10_takeOne_70 ?_
              refine lv_iload_n hx hb dX10_takeOne_73 rfl (lv_at hl 1 rfl) ?_
              refine x_callVv (q := (RX3, TX3, 4)) (ci := 3) (q0 := 0) (wr := [wO d0 10 [.ref t0, .ref d1, .ref h0, .ref f0, .int (nI ow2_165), .int wt, .int dt, .int vv, .int fq, .int pq], wO t0 9 [.ref t1, .ref t2, .int (nI tn), .int (nI ta2_158), .int (nI ts2_159), .int (nI tk2_160), .long tm2_161, .int tr2_162], wI (cy 0) t1 1600 (fby), (t2, .inl (cy 2, 24, .inr (.inl (fky)))), wO h0 4 [.ref h1, .ref h2, .ref h3, .ref h4, .ref h5, .ref h6, .ref h7, .ref h8, .ref h9, .ref h10, .ref h11, hv0, hv1, hv2, hv3, .int (nI un2_166)]]) (rest := []) ⟨hx, hb, hml, hown, hg, hl.1⟩ k_X10_182 (s_addDeed9 l D cy f0 f1 f2 nf2_167 y3 fco2_168 tk2_6 (by omega) (f_174) (by omega)) E0_blind hK hP hD hS hA [5, 6] [0, 1, 2, 3, 4] ⟨rfl, rfl, by decide +kernel, by decide +kernel, by decide +kernel⟩ rfl rfl (fun _ _ _ => trivial) dX10_takeOne_74 rfl rfl (Nat.le_of_ble_eq_true rfl) ⟨Nat.le_of_ble_eq_true rfl, Nat.le_of_ble_eq_true rfl⟩ ⟨Nat.le_of_ble_eq_true rfl, Nat.le_of_ble_eq_true rfl⟩ (fun zu189 H locs hw189 hP9 hD9 hS9 => ?_)
              clear hP hD hS
              obtain ⟨n2_190, fc2_191⟩ := zu189
              refine reW [wO d0 10 [.ref t0, .ref d1, .ref h0, .ref f0, .int (nI ow2_165), .int wt, .int dt, .int vv, .int fq, .int pq], wO t0 9 [.ref t1, .ref t2, .int (nI tn), .int (nI ta2_158), .int (nI ts2_159), .int (nI tk2_160), .long tm2_161, .int tr2_162], wI (cy 0) t1 1600 (fby), (t2, .inl (cy 2, 24, .inr (.inl (fky)))), wO h0 4 [.ref h1, .ref h2, .ref h3, .ref h4, .ref h5, .ref h6, .ref h7, .ref h8, .ref h9, .ref h10, .ref h11, hv0, hv1, hv2, hv3, .int (nI un2_166)], wO f0 3 [.ref f1, .ref f2, .int (nI n2_190), y3], wI (cy 1) f1 280 (fc2_191)] hP9 hD9 hS9 (fun hP hD hS => ?_)
              clear hP9 hD9 hS9
              refine W.widen (k := 0) (n := 0) (Nat.le_of_ble_eq_true rfl) (Nat.le_of_ble_eq_true rfl) ?_
              replace hw189 : (n2_190 = nf2_167 + 1) ∧ (cOK fc2_191 n2_190) ∧ (exC fco2_168 nf2_167 fc2_191 n2_190 [nI (20000 + tk2_6)]) := hw189
              obtain ⟨f_192, f_193, f_194⟩ := hw189
              refine lv_iload_n hx hb dX10_takeOne_77 rfl (lv_at hl 0 rfl) ?_
              exact x_zret hQ hx hb hr hlocks hK hP hD hS rfl dX10_takeOne_78 (ta2_158, ts2_159, tk2_160, tm2_161, tr2_162, fq, pq, ow2_165, un2_166, n2_190, fc2_191, ga2_169, (nw2_16 ++ (nw2_170 ++ [ded (sgM (knd fby tn ga2_15))]))) (⟨(show ta2_158 ≤ tn from by omega), (show tk2_160 ≤ 123 from by omega), (show n2_190 ≤ 280 from by omega), f_193, (show ow2_165 ≤ 30 from by omega), (show un2_166 ≤ 60 from by omega), (show ((1 : Int32) = 1 ∧ (okS (knd fby tn) (fin fby tn) (cdF fby tn) 4 7 ga ow un ga2_169 ow2_165 un2_166 ((nw2_16 ++ (nw2_170 ++ [ded (sgM (knd fby tn ga2_15))])))) ∧ (fq = fq) ∧ (pq = pq) ∧ (tkC fby tn ga2_169 ta2_158 ts2_159 tk2_160 tm2_161 tr2_162) ∧ (ga < ga2_169 ∧ ga2_169 ≤ tn) ∧ (exC fco nf fc2_191 n2_190 ((nw2_16 ++ (nw2_170 ++ [ded (sgM (knd fby tn ga2_15))])))) ∧ (n2_190 + 2 * ow + 1 ≤ nf + 2 * ow2_165 ∧ ow < ow2_165)) ∨ ((1 : Int32) = 0 ∧ (noS (knd fby tn) (fin fby tn) 4 7 ga ow un ga2_169) ∧ (flt fby tn ga2_169 2 fq pq)) from Or.inl ⟨rfl, (one_rel hn16 a_24 hop.1 hop.2 a_178), (rfl), (rfl), (a_181), (⟨by omega, by omega⟩), ((exC_tr a_29 (exC_tr a_183 (exC_dd f_194 hop.1 hkk)))), (⟨by omega, by omega⟩)⟩)⟩) [0, 1, 2, 3, 4, 5, 6] (by decide +kernel) rfl (Nat.le_of_ble_eq_true rfl) (Nat.le_of_ble_eq_true rfl)
            · subst hz_188
              refine lv_istore_n (lv' := [(3, .int 0), (2, .int (nI tk2_6)), (0, .ref d0), (1, .int 7)]) hx hb dX10_takeOne_68 rfl hl (by decide) rfl (fun ls hl => ?_)
              refine lv_aload_n hx hb dX10_takeOne_69 rfl (lv_at hl 2 rfl) ?_
              refine va_get (D := D) (ci := 10) (v := .ref f0) (C := RX10) (T := TX10) (N := 10) hx hb hg i_X10 hown hK hP 0 rfl rfl 3 (by decide) (hg _ m_258) (fun _ h9 => h9) rfl dX10_takeOne_70 ?_
              refine lv_iload_n hx hb dX10_takeOne_73 rfl (lv_at hl 1 rfl) ?_
              refine x_callVv (q := (RX3, TX3, 4)) (ci := 3) (q0 := 0) (wr := [wO d0 10 [.ref t0, .ref d1, .ref h0, .ref f0, .int (nI ow2_165), .int wt, .int dt, .int vv, .int fq2_163, .int pq2_164], wO t0 9 [.ref t1, .ref t2, .int (nI tn), .int (nI ta2_158), .int (nI ts2_159), .int (nI tk2_160), .long tm2_161, .int tr2_162], wI (cy 0) t1 1600 (fby), (t2, .inl (cy 2, 24, .inr (.inl (fky)))), wO h0 4 [.ref h1, .ref h2, .ref h3, .ref h4, .ref h5, .ref h6, .ref h7, .ref h8, .ref h9, .ref h10, .ref h11, hv0, hv1, hv2, hv3, .int (nI un2_166)]]) (rest := []) ⟨hx, hb, hml, hown, hg, hl.1⟩ k_X10_182 (s_addDeed l D cy f0 f1 f2 nf2_167 y3 fco2_168 tk2_6 (by omega) (f_174) (by omega)) E0_blind hK hP hD hS hA [5, 6] [0, 1, 2, 3, 4] ⟨rfl, rfl, by decide +kernel, by decide +kernel, by decide +kernel⟩ rfl rfl (fun _ _ _ => trivial) dX10_takeOne_74 rfl rfl (Nat.le_of_ble_eq_true rfl) ⟨Nat.le_of_ble_eq_true rfl, Nat.le_of_ble_eq_true rfl⟩ ⟨Nat.le_of_ble_eq_true rfl, Nat.le_of_ble_eq_true rfl⟩ (fun zu195 H locs hw195 hP9 hD9 hS9 => ?_)
              clear hP hD hS
              obtain ⟨n2_196, fc2_197⟩ := zu195
              refine reW [wO d0 10 [.ref t0, .ref d1, .ref h0, .ref f0, .int (nI ow2_165), .int wt, .int dt, .int vv, .int fq2_163, .int pq2_164], wO t0 9 [.ref t1, .ref t2, .int (nI tn), .int (nI ta2_158), .int (nI ts2_159), .int (nI tk2_160), .long tm2_161, .int tr2_162], wI (cy 0) t1 1600 (fby), (t2, .inl (cy 2, 24, .inr (.inl (fky)))), wO h0 4 [.ref h1, .ref h2, .ref h3, .ref h4, .ref h5, .ref h6, .ref h7, .ref h8, .ref h9, .ref h10, .ref h11, hv0, hv1, hv2, hv3, .int (nI un2_166)], wO f0 3 [.ref f1, .ref f2, .int (nI n2_196), y3], wI (cy 1) f1 280 (fc2_197)] hP9 hD9 hS9 (fun hP hD hS => ?_)
              clear hP9 hD9 hS9
              refine W.widen (k := 0) (n := 0) (Nat.le_of_ble_eq_true rfl) (Nat.le_of_ble_eq_true rfl) ?_
              replace hw195 : (n2_196 ≤ 280) ∧ (cOK fc2_197 n2_196) := hw195
              obtain ⟨f_198, f_199⟩ := hw195
              refine lv_iload_n hx hb dX10_takeOne_77 rfl (lv_at hl 0 rfl) ?_
              exact x_zret hQ hx hb hr hlocks hK hP hD hS rfl dX10_takeOne_78 (ta2_158, ts2_159, tk2_160, tm2_161, tr2_162, fq2_163, pq2_164, ow2_165, un2_166, n2_196, fc2_197, ga2_169, []) (⟨(show ta2_158 ≤ tn from by omega), (show tk2_160 ≤ 123 from by omega), (show n2_196 ≤ 280 from by omega), f_199, (show ow2_165 ≤ 30 from by omega), (show un2_166 ≤ 60 from by omega), (show ((0 : Int32) = 1 ∧ (okS (knd fby tn) (fin fby tn) (cdF fby tn) 4 7 ga ow un ga2_169 ow2_165 un2_166 ([])) ∧ (fq = fq2_163) ∧ (pq = pq2_164) ∧ (tkC fby tn ga2_169 ta2_158 ts2_159 tk2_160 tm2_161 tr2_162) ∧ (ga < ga2_169 ∧ ga2_169 ≤ tn) ∧ (exC fco nf fc2_197 n2_196 ([])) ∧ (n2_196 + 2 * ow + 1 ≤ nf + 2 * ow2_165 ∧ ow < ow2_165)) ∨ ((0 : Int32) = 0 ∧ (noS (knd fby tn) (fin fby tn) 4 7 ga ow un ga2_169) ∧ (flt fby tn ga2_169 2 fq2_163 pq2_164)) from Or.inr (⟨rfl, (one_relN hn16 a_24 hop.1 hop.2 a_186), (a_187)⟩))⟩) [0, 1, 2, 3, 4, 5, 6] (by decide +kernel) rfl (Nat.le_of_ble_eq_true rfl) (Nat.le_of_ble_eq_true rfl)
          · have q_146 : ¬ tk2_6 = 61 := q_ne (a := tk2_6) (b := 61) rfl rfl (by omega) (by omega) c_145
            refine lv_iconst (v := 1) hx hb dX10_takeOne_54 (by decide) ?_
            exact x_zret hQ hx hb hr hlocks hK hP hD hS rfl dX10_takeOne_55 (ta2_4, ts2_5, tk2_6, tm2_7, tr2_8, fq, pq, ow2_11, un2_12, nf2_13, fco2_14, ga2_15, nw2_16) (⟨(show ta2_4 ≤ tn from by omega), (show tk2_6 ≤ 123 from by omega), (show nf2_13 ≤ 280 from by omega), f_20, (show ow2_11 ≤ 30 from by omega), (show un2_12 ≤ 60 from by omega), (show ((1 : Int32) = 1 ∧ (okS (knd fby tn) (fin fby tn) (cdF fby tn) 4 7 ga ow un ga2_15 ow2_11 un2_12 nw2_16) ∧ (fq = fq) ∧ (pq = pq) ∧ (tkC fby tn ga2_15 ta2_4 ts2_5 tk2_6 tm2_7 tr2_8) ∧ (ga < ga2_15 ∧ ga2_15 ≤ tn) ∧ (exC fco nf fco2_14 nf2_13 nw2_16) ∧ (nf2_13 + 2 * ow + 1 ≤ nf + 2 * ow2_11 ∧ ow < ow2_11)) ∨ ((1 : Int32) = 0 ∧ (noS (knd fby tn) (fin fby tn) 4 7 ga ow un ga2_15) ∧ (flt fby tn ga2_15 2 fq pq)) from Or.inl ⟨rfl, (one_sum hn16 a_24 (sg_ne4 (by have h9 := a_27.2.2.1; omega))), (rfl), (rfl), (a_27), (⟨by omega, by omega⟩), (a_29), (⟨by omega, by omega⟩)⟩)⟩) [0, 1, 2, 3, 4, 5, 6] (by decide +kernel) rfl (Nat.le_of_ble_eq_true rfl) (Nat.le_of_ble_eq_true rfl)
    · subst hz_34
      refine lv_if_ne (tgt := 28) hx hb dX10_takeOne_23 (by decide) (fun h => absurd (by decide) h) (fun _ => ?_)
      refine lv_iconst (v := 0) hx hb dX10_takeOne_26 (by decide) ?_
      exact x_zret hQ hx hb hr hlocks hK hP hD hS rfl dX10_takeOne_27 (ta2_4, ts2_5, tk2_6, tm2_7, tr2_8, fq2_9, pq2_10, ow2_11, un2_12, nf2_13, fco2_14, ga2_15, []) (⟨(show ta2_4 ≤ tn from by omega), (show tk2_6 ≤ 123 from by omega), (show nf2_13 ≤ 280 from by omega), f_20, (show ow2_11 ≤ 30 from by omega), (show un2_12 ≤ 60 from by omega), (show ((0 : Int32) = 1 ∧ (okS (knd fby tn) (fin fby tn) (cdF fby tn) 4 7 ga ow un ga2_15 ow2_11 un2_12 ([])) ∧ (fq = fq2_9) ∧ (pq = pq2_10) ∧ (tkC fby tn ga2_15 ta2_4 ts2_5 tk2_6 tm2_7 tr2_8) ∧ (ga < ga2_15 ∧ ga2_15 ≤ tn) ∧ (exC fco nf fco2_14 nf2_13 ([])) ∧ (nf2_13 + 2 * ow + 1 ≤ nf + 2 * ow2_11 ∧ ow < ow2_11)) ∨ ((0 : Int32) = 0 ∧ (noS (knd fby tn) (fin fby tn) 4 7 ga ow un ga2_15) ∧ (flt fby tn ga2_15 2 fq2_9 pq2_10)) from Or.inr (⟨rfl, (one_sumN hn16 a_32), (a_33)⟩))⟩) [0, 1, 2, 3, 4, 5, 6] (by decide +kernel) rfl (Nat.le_of_ble_eq_true rfl) (Nat.le_of_ble_eq_true rfl)
  · have q_2 : tk = 116 := q_eq (a := tk) (b := 116) rfl rfl (by omega) (by omega) c_1
    refine lv_aload_n hx hb dX10_takeOne_12 rfl (lv_at hl 0 rfl) ?_
    refine lv_iload_n hx hb dX10_takeOne_13 rfl (lv_at hl 1 rfl) ?_
    refine x_callVi (q := (RX10, TX10, 10)) (ci := 10) (q0 := 0) (wr := []) (rest := []) ⟨hx, hb, hml, hown, hg, hl.1⟩ k_X10_189 (s_takeNot7 l D cy adK adV d0 d1 wt dt vv fq pq t0 t1 t2 tn ta ts tk tm tr fby fky h0 h1 h2 h3 h4 h5 h6 h7 h8 h9 h10 h11 hv0 hv1 hv2 hv3 ow un f0 f1 f2 nf y3 fco ga (by omega) (by omega) (by omega) (hti) (hky) (by omega) (hfc) (by omega) (by omega) (by omega) (by omega) (by omega)) EV_blind hK hP hD hS hA [0, 1, 2, 3, 4, 5, 6] [] ⟨rfl, rfl, by decide +kernel, by decide +kernel, by decide +kernel⟩ rfl rfl (fun U hU hW => EV_pass hE hS (va_free hD hS hA [0, 1, 2, 3, 4, 5, 6] rfl) hU hW) dX10_takeOne_14 rfl rfl (Nat.le_of_ble_eq_true rfl) ⟨Nat.le_of_ble_eq_true rfl, Nat.le_of_ble_eq_true rfl⟩ ⟨Nat.le_of_ble_eq_true rfl, Nat.le_of_ble_eq_true rfl⟩ (fun zr200 zu200 H locs hw200 hP9 hD9 hS9 => ?_)
    clear hP hD hS
    obtain ⟨ta2_201, ts2_202, tk2_203, tm2_204, tr2_205, fq2_206, pq2_207, ow2_208, un2_209, nf2_210, fco2_211, ga2_212, nw2_213⟩ := zu200
    refine reW [wO d0 10 [.ref t0, .ref d1, .ref h0, .ref f0, .int (nI ow2_208), .int wt, .int dt, .int vv, .int fq2_206, .int pq2_207], wO t0 9 [.ref t1, .ref t2, .int (nI tn), .int (nI ta2_201), .int (nI ts2_202), .int (nI tk2_203), .long tm2_204, .int tr2_205], wI (cy 0) t1 1600 (fby), (t2, .inl (cy 2, 24, .inr (.inl (fky)))), wO h0 4 [.ref h1, .ref h2, .ref h3, .ref h4, .ref h5, .ref h6, .ref h7, .ref h8, .ref h9, .ref h10, .ref h11, hv0, hv1, hv2, hv3, .int (nI un2_209)], wO f0 3 [.ref f1, .ref f2, .int (nI nf2_210), y3], wI (cy 1) f1 280 (fco2_211)] hP9 hD9 hS9 (fun hP hD hS => ?_)
    clear hP9 hD9 hS9
    refine W.widen (k := 0) (n := 0) (Nat.le_of_ble_eq_true rfl) (Nat.le_of_ble_eq_true rfl) ?_
    replace hw200 : (ta2_201 ≤ tn) ∧ (tk2_203 ≤ 123) ∧ (nf2_210 ≤ 280) ∧ (cOK fco2_211 nf2_210) ∧ (ow2_208 ≤ 30) ∧ (un2_209 ≤ 60) ∧ ((zr200 = 1 ∧ (okS (knd fby tn) (fin fby tn) (cdF fby tn) 4 7 ga ow un ga2_212 ow2_208 un2_209 nw2_213) ∧ (fq = fq2_206) ∧ (pq = pq2_207) ∧ (tkC fby tn ga2_212 ta2_201 ts2_202 tk2_203 tm2_204 tr2_205) ∧ (ga < ga2_212 ∧ ga2_212 ≤ tn) ∧ (exC fco nf fco2_211 nf2_210 nw2_213) ∧ (nf2_210 + 2 * ow + 1 ≤ nf + 2 * ow2_208 ∧ ow < ow2_208)) ∨ (zr200 = 0 ∧ (noS (knd fby tn) (fin fby tn) 4 7 ga ow un ga2_212) ∧ (flt fby tn ga2_212 2 fq2_206 pq2_207))) := hw200
    obtain ⟨f_214, f_215, f_216, f_217, f_218, f_219, f_220⟩ := hw200
    rcases f_220 with ⟨hz_228, a_221, a_222, a_223, a_224, a_225, a_226, a_227⟩ | ⟨hz_231, a_229, a_230⟩
    · subst hz_228
      subst a_222
      subst a_223
      have hg_a_225 := a_225
      have hl_a_227 := a_227
      exact x_zret hQ hx hb hr hlocks hK hP hD hS rfl dX10_takeOne_17 (ta2_201, ts2_202, tk2_203, tm2_204, tr2_205, fq, pq, ow2_208, un2_209, nf2_210, fco2_211, ga2_212, nw2_213) (⟨(show ta2_201 ≤ tn from by omega), (show tk2_203 ≤ 123 from by omega), (show nf2_210 ≤ 280 from by omega), f_217, (show ow2_208 ≤ 30 from by omega), (show un2_209 ≤ 60 from by omega), (show ((1 : Int32) = 1 ∧ (okS (knd fby tn) (fin fby tn) (cdF fby tn) 4 7 ga ow un ga2_212 ow2_208 un2_209 nw2_213) ∧ (fq = fq) ∧ (pq = pq) ∧ (tkC fby tn ga2_212 ta2_201 ts2_202 tk2_203 tm2_204 tr2_205) ∧ (ga < ga2_212 ∧ ga2_212 ≤ tn) ∧ (exC fco nf fco2_211 nf2_210 nw2_213) ∧ (nf2_210 + 2 * ow + 1 ≤ nf + 2 * ow2_208 ∧ ow < ow2_208)) ∨ ((1 : Int32) = 0 ∧ (noS (knd fby tn) (fin fby tn) 4 7 ga ow un ga2_212) ∧ (flt fby tn ga2_212 2 fq pq)) from Or.inl ⟨rfl, (a_221), (rfl), (rfl), (a_224), (⟨by omega, by omega⟩), (a_226), (⟨by omega, by omega⟩)⟩)⟩) [0, 1, 2, 3, 4, 5, 6] (by decide +kernel) rfl (Nat.le_of_ble_eq_true rfl) (Nat.le_of_ble_eq_true rfl)
    · subst hz_231
      exact x_zret hQ hx hb hr hlocks hK hP hD hS rfl dX10_takeOne_17 (ta2_201, ts2_202, tk2_203, tm2_204, tr2_205, fq2_206, pq2_207, ow2_208, un2_209, nf2_210, fco2_211, ga2_212, []) (⟨(show ta2_201 ≤ tn from by omega), (show tk2_203 ≤ 123 from by omega), (show nf2_210 ≤ 280 from by omega), f_217, (show ow2_208 ≤ 30 from by omega), (show un2_209 ≤ 60 from by omega), (show ((0 : Int32) = 1 ∧ (okS (knd fby tn) (fin fby tn) (cdF fby tn) 4 7 ga ow un ga2_212 ow2_208 un2_209 ([])) ∧ (fq = fq2_206) ∧ (pq = pq2_207) ∧ (tkC fby tn ga2_212 ta2_201 ts2_202 tk2_203 tm2_204 tr2_205) ∧ (ga < ga2_212 ∧ ga2_212 ≤ tn) ∧ (exC fco nf fco2_211 nf2_210 ([])) ∧ (nf2_210 + 2 * ow + 1 ≤ nf + 2 * ow2_208 ∧ ow < ow2_208)) ∨ ((0 : Int32) = 0 ∧ (noS (knd fby tn) (fin fby tn) 4 7 ga ow un ga2_212) ∧ (flt fby tn ga2_212 2 fq2_206 pq2_207)) from Or.inr (⟨rfl, (a_229), (a_230)⟩))⟩) [0, 1, 2, 3, 4, 5, 6] (by decide +kernel) rfl (Nat.le_of_ble_eq_true rfl) (Nat.le_of_ble_eq_true rfl)
theorem gdX10_takeBoth_0 : decode cX10_takeBoth 0 = .ok (.aload_n 0, 1) ∧ decode cX10_takeBoth 1 = .ok (.iload_n 1, 1) ∧ decode cX10_takeBoth 2 = .ok (.invokevirtual 186, 3) := by decide +kernel
theorem dX10_takeBoth_0 : decode cX10_takeBoth 0 = .ok (.aload_n 0, 1) := gdX10_takeBoth_0.1
theorem dX10_takeBoth_1 : decode cX10_takeBoth 1 = .ok (.iload_n 1, 1) := gdX10_takeBoth_0.2.1
theorem dX10_takeBoth_2 : decode cX10_takeBoth 2 = .ok (.invokevirtual 186, 3) := gdX10_takeBoth_0.2.2
theorem k_X10_186 : xV RX10 RX10 186 yX10_takeOne cX10_takeOne 4 (some .boolean) 1 := ⟨⟨m_871, m_873, m_20, m_136, m_874⟩, rfl, by decide, by decide, by decide +kernel⟩
theorem gdX10_takeBoth_5 : decode cX10_takeBoth 5 = .ok (.istore_n 2, 1) ∧ decode cX10_takeBoth 6 = .ok (.iconst 0, 1) ∧ decode cX10_takeBoth 7 = .ok (.istore_n 3, 1) ∧ decode cX10_takeBoth 8 = .ok (.iload_n 3, 1) ∧ decode cX10_takeBoth 9 = .ok (.sipush 1600, 3) ∧ decode cX10_takeBoth 12 = .ok (.if_icmp .ge 47, 3) ∧ decode cX10_takeBoth 15 = .ok (.iload_n 2, 1) ∧ decode cX10_takeBoth 16 = .ok (.ifCond .eq 43, 3) ∧ decode cX10_takeBoth 19 = .ok (.aload_n 0, 1) ∧ decode cX10_takeBoth 20 = .ok (.getfield 16, 3) ∧ decode cX10_takeBoth 23 = .ok (.getfield 55, 3) ∧ decode cX10_takeBoth 26 = .ok (.bipush 115, 2) := by decide +kernel
theorem dX10_takeBoth_5 : decode cX10_takeBoth 5 = .ok (.istore_n 2, 1) := gdX10_takeBoth_5.1
theorem dX10_takeBoth_6 : decode cX10_takeBoth 6 = .ok (.iconst 0, 1) := gdX10_takeBoth_5.2.1
theorem dX10_takeBoth_7 : decode cX10_takeBoth 7 = .ok (.istore_n 3, 1) := gdX10_takeBoth_5.2.2.1
theorem dX10_takeBoth_8 : decode cX10_takeBoth 8 = .ok (.iload_n 3, 1) := gdX10_takeBoth_5.2.2.2.1
theorem dX10_takeBoth_9 : decode cX10_takeBoth 9 = .ok (.sipush 1600, 3) := gdX10_takeBoth_5.2.2.2.2.1
theorem dX10_takeBoth_12 : decode cX10_takeBoth 12 = .ok (.if_icmp .ge 47, 3) := gdX10_takeBoth_5.2.2.2.2.2.1
theorem dX10_takeBoth_15 : decode cX10_takeBoth 15 = .ok (.iload_n 2, 1) := gdX10_takeBoth_5.2.2.2.2.2.2.1
theorem dX10_takeBoth_16 : decode cX10_takeBoth 16 = .ok (.ifCond .eq 43, 3) := gdX10_takeBoth_5.2.2.2.2.2.2.2.1
theorem dX10_takeBoth_19 : decode cX10_takeBoth 19 = .ok (.aload_n 0, 1) := gdX10_takeBoth_5.2.2.2.2.2.2.2.2.1
theorem dX10_takeBoth_20 : decode cX10_takeBoth 20 = .ok (.getfield 16, 3) := gdX10_takeBoth_5.2.2.2.2.2.2.2.2.2.1
theorem dX10_takeBoth_23 : decode cX10_takeBoth 23 = .ok (.getfield 55, 3) := gdX10_takeBoth_5.2.2.2.2.2.2.2.2.2.2.1
theorem dX10_takeBoth_26 : decode cX10_takeBoth 26 = .ok (.bipush 115, 2) := gdX10_takeBoth_5.2.2.2.2.2.2.2.2.2.2.2
theorem gdX10_takeBoth_28 : decode cX10_takeBoth 28 = .ok (.if_icmp .ne 31, 3) ∧ decode cX10_takeBoth 59 = .ok (.iload_n 2, 1) ∧ decode cX10_takeBoth 60 = .ok (.ireturn, 1) ∧ decode cX10_takeBoth 31 = .ok (.aload_n 0, 1) ∧ decode cX10_takeBoth 32 = .ok (.getfield 16, 3) ∧ decode cX10_takeBoth 35 = .ok (.invokevirtual 140, 3) ∧ decode cX10_takeBoth 38 = .ok (.aload_n 0, 1) ∧ decode cX10_takeBoth 39 = .ok (.iload_n 1, 1) ∧ decode cX10_takeBoth 40 = .ok (.invokevirtual 186, 3) ∧ decode cX10_takeBoth 43 = .ok (.istore_n 2, 1) ∧ decode cX10_takeBoth 44 = .ok (.aload_n 0, 1) ∧ decode cX10_takeBoth 45 = .ok (.getfield 34, 3) := by decide +kernel
theorem dX10_takeBoth_28 : decode cX10_takeBoth 28 = .ok (.if_icmp .ne 31, 3) := gdX10_takeBoth_28.1
theorem dX10_takeBoth_59 : decode cX10_takeBoth 59 = .ok (.iload_n 2, 1) := gdX10_takeBoth_28.2.1
theorem dX10_takeBoth_60 : decode cX10_takeBoth 60 = .ok (.ireturn, 1) := gdX10_takeBoth_28.2.2.1
theorem dX10_takeBoth_31 : decode cX10_takeBoth 31 = .ok (.aload_n 0, 1) := gdX10_takeBoth_28.2.2.2.1
theorem dX10_takeBoth_32 : decode cX10_takeBoth 32 = .ok (.getfield 16, 3) := gdX10_takeBoth_28.2.2.2.2.1
theorem dX10_takeBoth_35 : decode cX10_takeBoth 35 = .ok (.invokevirtual 140, 3) := gdX10_takeBoth_28.2.2.2.2.2.1
theorem dX10_takeBoth_38 : decode cX10_takeBoth 38 = .ok (.aload_n 0, 1) := gdX10_takeBoth_28.2.2.2.2.2.2.1
theorem dX10_takeBoth_39 : decode cX10_takeBoth 39 = .ok (.iload_n 1, 1) := gdX10_takeBoth_28.2.2.2.2.2.2.2.1
theorem dX10_takeBoth_40 : decode cX10_takeBoth 40 = .ok (.invokevirtual 186, 3) := gdX10_takeBoth_28.2.2.2.2.2.2.2.2.1
theorem dX10_takeBoth_43 : decode cX10_takeBoth 43 = .ok (.istore_n 2, 1) := gdX10_takeBoth_28.2.2.2.2.2.2.2.2.2.1
theorem dX10_takeBoth_44 : decode cX10_takeBoth 44 = .ok (.aload_n 0, 1) := gdX10_takeBoth_28.2.2.2.2.2.2.2.2.2.2.1
theorem dX10_takeBoth_45 : decode cX10_takeBoth 45 = .ok (.getfield 34, 3) := gdX10_takeBoth_28.2.2.2.2.2.2.2.2.2.2.2
theorem gdX10_takeBoth_48 : decode cX10_takeBoth 48 = .ok (.bipush 115, 2) ∧ decode cX10_takeBoth 50 = .ok (.invokevirtual 182, 3) ∧ decode cX10_takeBoth 53 = .ok (.iinc 3 1, 3) ∧ decode cX10_takeBoth 56 = .ok (.goto (-48), 3) := by decide +kernel
theorem dX10_takeBoth_48 : decode cX10_takeBoth 48 = .ok (.bipush 115, 2) := gdX10_takeBoth_48.1
theorem dX10_takeBoth_50 : decode cX10_takeBoth 50 = .ok (.invokevirtual 182, 3) := gdX10_takeBoth_48.2.1
theorem dX10_takeBoth_53 : decode cX10_takeBoth 53 = .ok (.iinc 3 1, 3) := gdX10_takeBoth_48.2.2.1
theorem dX10_takeBoth_56 : decode cX10_takeBoth 56 = .ok (.goto (-48), 3) := gdX10_takeBoth_48.2.2.2
set_option maxHeartbeats 1000000 in
set_option maxRecDepth 100000 in
theorem s_takeBoth7 (l : Launch) (D : va_G) (cy : Nat → ClassId) (adK : Nat → Nat) (adV : Nat → Nat) (d0 : Nat) (d1 : Nat) (wt : Int32) (dt : Int32) (vv : Int32) (fq : Int32) (pq : Int32) (t0 : Nat) (t1 : Nat) (t2 : Nat) (tn : Nat) (ta : Nat) (ts : Nat) (tk : Nat) (tm : Int64) (tr : Int32) (fby : Nat → Int32) (fky : Nat → Int64) (h0 : Nat) (h1 : Nat) (h2 : Nat) (h3 : Nat) (h4 : Nat) (h5 : Nat) (h6 : Nat) (h7 : Nat) (h8 : Nat) (h9 : Nat) (h10 : Nat) (h11 : Nat) (hv0 : Value) (hv1 : Value) (hv2 : Value) (hv3 : Value) (ow : Nat) (un : Nat) (f0 : Nat) (f1 : Nat) (f2 : Nat) (nf : Nat) (y3 : Value) (fco : Nat → Int32) (ga : Nat) (htn : tn ≤ 1600) (hta : ta ≤ tn) (htk : tk ≤ 123) (hti : tkC fby tn ga ta ts tk tm tr) (hky : kyOK fky) (hnf : nf ≤ 280) (hfc : cOK fco nf) (how : ow ≤ 30) (hun : un ≤ 60) (hga : ga ≤ tn) (hrm : nf + 60 ≤ 280 + 2 * ow) : XMi l D (tyL cy) (EV adK adV) yX10_takeBoth cX10_takeBoth 4 (some .boolean) (rmk 11 0 0) [.ref d0, .int 7] [wO d0 10 [.ref t0, .ref d1, .ref h0, .ref f0, .int (nI ow), .int wt, .int dt, .int vv, .int fq, .int pq], wO t0 9 [.ref t1, .ref t2, .int (nI tn), .int (nI ta), .int (nI ts), .int (nI tk), .long tm, .int tr], wI (cy 0) t1 1600 (fby), (t2, .inl (cy 2, 24, .inr (.inl (fky)))), wO h0 4 [.ref h1, .ref h2, .ref h3, .ref h4, .ref h5, .ref h6, .ref h7, .ref h8, .ref h9, .ref h10, .ref h11, hv0, hv1, hv2, hv3, .int (nI un)], wO f0 3 [.ref f1, .ref f2, .int (nI nf), y3], wI (cy 1) f1 280 (fco)] (fun (r : Int32) (u : Nat × Nat × Nat × Int64 × Int32 × Int32 × Int32 × Nat × Nat × Nat × (Nat → Int32) × Nat × (List Int32)) => (u.1 ≤ tn) ∧ (u.2.2.1 ≤ 123) ∧ (u.2.2.2.2.2.2.2.2.2.1 ≤ 280) ∧ (cOK u.2.2.2.2.2.2.2.2.2.2.1 u.2.2.2.2.2.2.2.2.2.1) ∧ (u.2.2.2.2.2.2.2.1 ≤ 30) ∧ (u.2.2.2.2.2.2.2.2.1 ≤ 60) ∧ ((r = 1 ∧ (okS (knd fby tn) (fin fby tn) (cdF fby tn) 2 7 ga ow un u.2.2.2.2.2.2.2.2.2.2.2.1 u.2.2.2.2.2.2.2.1 u.2.2.2.2.2.2.2.2.1 u.2.2.2.2.2.2.2.2.2.2.2.2) ∧ (fq = u.2.2.2.2.2.1) ∧ (pq = u.2.2.2.2.2.2.1) ∧ (tkC fby tn u.2.2.2.2.2.2.2.2.2.2.2.1 u.1 u.2.1 u.2.2.1 u.2.2.2.1 u.2.2.2.2.1) ∧ (ga < u.2.2.2.2.2.2.2.2.2.2.2.1 ∧ u.2.2.2.2.2.2.2.2.2.2.2.1 ≤ tn) ∧ (exC fco nf u.2.2.2.2.2.2.2.2.2.2.1 u.2.2.2.2.2.2.2.2.2.1 u.2.2.2.2.2.2.2.2.2.2.2.2) ∧ (u.2.2.2.2.2.2.2.2.2.1 + 2 * ow + 1 ≤ nf + 2 * u.2.2.2.2.2.2.2.1 ∧ ow < u.2.2.2.2.2.2.2.1)) ∨ (r = 0 ∧ (noS (knd fby tn) (fin fby tn) 2 7 ga ow un u.2.2.2.2.2.2.2.2.2.2.2.1) ∧ (flt fby tn u.2.2.2.2.2.2.2.2.2.2.2.1 2 u.2.2.2.2.2.1 u.2.2.2.2.2.2.1)))) (fun (u : Nat × Nat × Nat × Int64 × Int32 × Int32 × Int32 × Nat × Nat × Nat × (Nat → Int32) × Nat × (List Int32)) => [wO d0 10 [.ref t0, .ref d1, .ref h0, .ref f0, .int (nI u.2.2.2.2.2.2.2.1), .int wt, .int dt, .int vv, .int u.2.2.2.2.2.1, .int u.2.2.2.2.2.2.1], wO t0 9 [.ref t1, .ref t2, .int (nI tn), .int (nI u.1), .int (nI u.2.1), .int (nI u.2.2.1), .long u.2.2.2.1, .int u.2.2.2.2.1], wI (cy 0) t1 1600 (fby), (t2, .inl (cy 2, 24, .inr (.inl (fky)))), wO h0 4 [.ref h1, .ref h2, .ref h3, .ref h4, .ref h5, .ref h6, .ref h7, .ref h8, .ref h9, .ref h10, .ref h11, hv0, hv1, hv2, hv3, .int (nI u.2.2.2.2.2.2.2.2.1)], wO f0 3 [.ref f1, .ref f2, .int (nI u.2.2.2.2.2.2.2.2.2.1), y3], wI (cy 1) f1 280 (u.2.2.2.2.2.2.2.2.2.2.1)]) := by
  refine XMi.start (by decide) (Nat.le_of_ble_eq_true rfl) ?_
  intro p e s m below meth c args A ls Q hat hQ
  obtain ⟨hx, hb, hr, hml, hown, hg, hlocks, hin, hK, hA, hP, hD, hS, hE, hl⟩ := hat
  have hown : s.vm.findClass RX10 = some m.cls := hown
  have hl : lv_has ls 4 [(0, .ref d0), (1, .int 7)] := hl
  refine lv_aload_n hx hb dX10_takeBoth_0 rfl (lv_at hl 0 rfl) ?_
  refine lv_iload_n hx hb dX10_takeBoth_1 rfl (lv_at hl 1 rfl) ?_
  refine x_callVi (q := (RX10, TX10, 10)) (ci := 10) (q0 := 0) (wr := []) (rest := []) ⟨hx, hb, hml, hown, hg, hl.1⟩ k_X10_186 (s_takeOne7 l D cy adK adV d0 d1 wt dt vv fq pq t0 t1 t2 tn ta ts tk tm tr fby fky h0 h1 h2 h3 h4 h5 h6 h7 h8 h9 h10 h11 hv0 hv1 hv2 hv3 ow un f0 f1 f2 nf y3 fco ga (by omega) (by omega) (by omega) (hti) (hky) (by omega) (hfc) (by omega) (by omega) (by omega) (by omega)) EV_blind hK hP hD hS hA [0, 1, 2, 3, 4, 5, 6] [] ⟨rfl, rfl, by decide +kernel, by decide +kernel, by decide +kernel⟩ rfl rfl (fun U hU hW => EV_pass hE hS (va_free hD hS hA [0, 1, 2, 3, 4, 5, 6] rfl) hU hW) dX10_takeBoth_2 rfl rfl (Nat.le_of_ble_eq_true rfl) ⟨Nat.le_of_ble_eq_true rfl, Nat.le_of_ble_eq_true rfl⟩ ⟨Nat.le_of_ble_eq_true rfl, Nat.le_of_ble_eq_true rfl⟩ (fun zr1 zu1 H locs hw1 hP9 hD9 hS9 => ?_)
  clear hP hD hS
  obtain ⟨ta2_2, ts2_3, tk2_4, tm2_5, tr2_6, fq2_7, pq2_8, ow2_9, un2_10, nf2_11, fco2_12, ga2_13, nw2_14⟩ := zu1
  refine reW [wO d0 10 [.ref t0, .ref d1, .ref h0, .ref f0, .int (nI ow2_9), .int wt, .int dt, .int vv, .int fq2_7, .int pq2_8], wO t0 9 [.ref t1, .ref t2, .int (nI tn), .int (nI ta2_2), .int (nI ts2_3), .int (nI tk2_4), .long tm2_5, .int tr2_6], wI (cy 0) t1 1600 (fby), (t2, .inl (cy 2, 24, .inr (.inl (fky)))), wO h0 4 [.ref h1, .ref h2, .ref h3, .ref h4, .ref h5, .ref h6, .ref h7, .ref h8, .ref h9, .ref h10, .ref h11, hv0, hv1, hv2, hv3, .int (nI un2_10)], wO f0 3 [.ref f1, .ref f2, .int (nI nf2_11), y3], wI (cy 1) f1 280 (fco2_12)] hP9 hD9 hS9 (fun hP hD hS => ?_)
  clear hP9 hD9 hS9
  refine W.widen (k := 0) (n := 0) (Nat.le_of_ble_eq_true rfl) (Nat.le_of_ble_eq_true rfl) ?_
  replace hw1 : (ta2_2 ≤ tn) ∧ (tk2_4 ≤ 123) ∧ (nf2_11 ≤ 280) ∧ (cOK fco2_12 nf2_11) ∧ (ow2_9 ≤ 30) ∧ (un2_10 ≤ 60) ∧ ((zr1 = 1 ∧ (okS (knd fby tn) (fin fby tn) (cdF fby tn) 4 7 ga ow un ga2_13 ow2_9 un2_10 nw2_14) ∧ (fq = fq2_7) ∧ (pq = pq2_8) ∧ (tkC fby tn ga2_13 ta2_2 ts2_3 tk2_4 tm2_5 tr2_6) ∧ (ga < ga2_13 ∧ ga2_13 ≤ tn) ∧ (exC fco nf fco2_12 nf2_11 nw2_14) ∧ (nf2_11 + 2 * ow + 1 ≤ nf + 2 * ow2_9 ∧ ow < ow2_9)) ∨ (zr1 = 0 ∧ (noS (knd fby tn) (fin fby tn) 4 7 ga ow un ga2_13) ∧ (flt fby tn ga2_13 2 fq2_7 pq2_8))) := hw1
  obtain ⟨f_15, f_16, f_17, f_18, f_19, f_20, f_21⟩ := hw1
  refine lv_istore_n (lv' := [(2, .int zr1), (0, .ref d0), (1, .int 7)]) hx hb dX10_takeBoth_5 rfl hl (by decide) rfl (fun ls hl => ?_)
  refine lv_iconst (v := 0) hx hb dX10_takeBoth_6 (by decide) ?_
  refine lv_istore_n (lv' := [(3, .int 0), (2, .int zr1), (0, .ref d0), (1, .int 7)]) hx hb dX10_takeBoth_7 rfl hl (by decide) rfl (fun ls hl => ?_)
  have loop22 : ∀ (zn : Nat) (lb2_22 : Int32) (i22 : Nat) (aq22 : Nat) (sq22 : Nat) (kq22 : Nat) (fl5_22 : Int64) (rq22 : Int32) (oq22 : Nat) (fz22 : Int32) (pz22 : Int32) (uq22 : Nat) (nq22 : Nat) (gq22 : Nat) (nw22 : List Int32) (fa14_22 : Nat → Int32), (cOK fa14_22 nq22) → (i22 ≤ 1600) → (aq22 ≤ tn) → (kq22 ≤ 123) → (nq22 ≤ 280) → (oq22 ≤ 30) → (uq22 ≤ 60) → ((lb2_22 = 1 ∧ inS (knd fby tn) (fin fby tn) (cdF fby tn) 2 4 7 ga ow un gq22 oq22 uq22 nw22 ∧ tkC fby tn gq22 aq22 sq22 kq22 fl5_22 rq22 ∧ ga < gq22 ∧ gq22 ≤ tn ∧ i22 < gq22 ∧ fq = fz22 ∧ pq = pz22 ∧ exC fco nf fa14_22 nq22 nw22 ∧ nq22 + 2 * ow + 1 ≤ nf + 2 * oq22 ∧ ow < oq22) ∨ (lb2_22 = 0 ∧ noS (knd fby tn) (fin fby tn) 2 7 ga ow un gq22 ∧ flt fby tn gq22 2 fz22 pz22)) → 1600 - i22 + 1 ≤ zn → ∀ (H : Heap) (locs : List Loc), va_P D vwCl [wO d0 10 [.ref t0, .ref d1, .ref h0, .ref f0, .int (nI oq22), .int wt, .int dt, .int vv, .int fz22, .int pz22], wO t0 9 [.ref t1, .ref t2, .int (nI tn), .int (nI aq22), .int (nI sq22), .int (nI kq22), .long fl5_22, .int rq22], wI (cy 0) t1 1600 (fby), (t2, .inl (cy 2, 24, .inr (.inl (fky)))), wO h0 4 [.ref h1, .ref h2, .ref h3, .ref h4, .ref h5, .ref h6, .ref h7, .ref h8, .ref h9, .ref h10, .ref h11, hv0, hv1, hv2, hv3, .int (nI uq22)], wO f0 3 [.ref f1, .ref f2, .int (nI nq22), y3], wI (cy 1) f1 280 (fa14_22)] H → va_D A [wO d0 10 [.ref t0, .ref d1, .ref h0, .ref f0, .int (nI oq22), .int wt, .int dt, .int vv, .int fz22, .int pz22], wO t0 9 [.ref t1, .ref t2, .int (nI tn), .int (nI aq22), .int (nI sq22), .int (nI kq22), .long fl5_22, .int rq22], wI (cy 0) t1 1600 (fby), (t2, .inl (cy 2, 24, .inr (.inl (fky)))), wO h0 4 [.ref h1, .ref h2, .ref h3, .ref h4, .ref h5, .ref h6, .ref h7, .ref h8, .ref h9, .ref h10, .ref h11, hv0, hv1, hv2, hv3, .int (nI uq22)], wO f0 3 [.ref f1, .ref f2, .int (nI nq22), y3], wI (cy 1) f1 280 (fa14_22)] → va_S A s.heap H locs → ∀ ls : Array Slot, lv_has ls 4 [(3, .int (nI i22)), (2, .int lb2_22), (0, .ref d0), (1, .int 7)] → W p l e (rmk 11 0 0) s m args below meth c H locs 0 0 Q (F0 m 8 ls []) := by
    try clear hP hD hS
    intro zn
    induction zn with
    | zero => intro lb2_22 i22 aq22 sq22 kq22 fl5_22 rq22 oq22 fz22 pz22 uq22 nq22 gq22 nw22 fa14_22 _ _ _ _ _ _ _ _ hz; exact absurd hz (by omega)
    | succ zn ih22 =>
      intro lb2_22 i22 aq22 sq22 kq22 fl5_22 rq22 oq22 fz22 pz22 uq22 nq22 gq22 nw22 fa14_22 ha15_22 hf0_22 hf1_22 hf2_22 hf3_22 hf4_22 hf5_22 hf6_22 hmu22 H locs hP hD hS ls hl
      rcases hf6_22 with ⟨hlb, hin9, htk9, hg1, hg2, hg3, hfz, hpz, hex9, hln9⟩ | ⟨hlb, hno9, hfl9⟩
      · subst hlb hfz hpz
        refine lv_iload_n hx hb dX10_takeBoth_8 rfl (lv_at hl 0 rfl) ?_
        refine lv_sipush (v := 1600) hx hb dX10_takeBoth_9 (by decide) ?_
        refine lv_icmp_ge (tgt := 59) hx hb dX10_takeBoth_12 (by decide) (fun c_23 => ?_) (fun c_23 => ?_)
        · have q_24 : 1600 ≤ i22 := q_le (a := 1600) (b := i22) rfl rfl (by omega) (by omega) c_23
          exact absurd q_24 (by omega)
        · have q_24 : i22 < 1600 := q_nle (a := 1600) (b := i22) rfl rfl (by omega) (by omega) c_23
          refine lv_iload_n hx hb dX10_takeBoth_15 rfl (lv_at hl 1 rfl) ?_
          refine lv_if_eq (tgt := 59) hx hb dX10_takeBoth_16 (by decide) (fun h => absurd h (by decide)) (fun _ => ?_)
          refine lv_aload_n hx hb dX10_takeBoth_19 rfl (lv_at hl 2 rfl) ?_
          refine va_get (D := D) (ci := 10) (v := .ref t0) (C := RX10) (T := TX10) (N := 10) hx hb hg i_X10 hown hK hP 0 rfl rfl 0 (by decide) (hg _ m_255) (fun _ h9 => h9) rfl dX10_takeBoth_20 ?_
          refine va_get (D := D) (ci := 9) (v := .int (nI kq22)) (C := RX9) (T := TX9) (N := 8) hx hb hg i_X9 hown hK hP 1 rfl rfl 5 (by decide) (hg _ m_222) (fun _ h9 => h9) rfl dX10_takeBoth_23 ?_
          refine lv_bipush (v := 115) hx hb dX10_takeBoth_26 (by decide) ?_
          refine lv_icmp_ne (tgt := 59) hx hb dX10_takeBoth_28 (by decide) (fun c_25 => ?_) (fun c_25 => ?_)
          · have q_26 : ¬ kq22 = 115 := q_ne (a := kq22) (b := 115) rfl rfl (by omega) (by omega) c_25
            refine lv_iload_n hx hb dX10_takeBoth_59 rfl (lv_at hl 1 rfl) ?_
            exact x_zret hQ hx hb hr hlocks hK hP hD hS rfl dX10_takeBoth_60 (aq22, sq22, kq22, fl5_22, rq22, fq, pq, oq22, uq22, nq22, fa14_22, gq22, nw22) (⟨(show aq22 ≤ tn from by omega), (show kq22 ≤ 123 from by omega), (show nq22 ≤ 280 from by omega), ha15_22, (show oq22 ≤ 30 from by omega), (show uq22 ≤ 60 from by omega), (show ((1 : Int32) = 1 ∧ (okS (knd fby tn) (fin fby tn) (cdF fby tn) 2 7 ga ow un gq22 oq22 uq22 nw22) ∧ (fq = fq) ∧ (pq = pq) ∧ (tkC fby tn gq22 aq22 sq22 kq22 fl5_22 rq22) ∧ (ga < gq22 ∧ gq22 ≤ tn) ∧ (exC fco nf fa14_22 nq22 nw22) ∧ (nq22 + 2 * ow + 1 ≤ nf + 2 * oq22 ∧ ow < oq22)) ∨ ((1 : Int32) = 0 ∧ (noS (knd fby tn) (fin fby tn) 2 7 ga ow un gq22) ∧ (flt fby tn gq22 2 fq pq)) from Or.inl ⟨rfl, (inS_end lvP24 hin9 (sg_ne2 (by have h9 := htk9.2.2.1; omega))), (rfl), (rfl), (htk9), (⟨by omega, by omega⟩), (hex9), (⟨by omega, by omega⟩)⟩)⟩) [0, 1, 2, 3, 4, 5, 6] (by decide +kernel) rfl (Nat.le_of_ble_eq_true rfl) (Nat.le_of_ble_eq_true rfl)
          · have q_26 : kq22 = 115 := q_eq (a := kq22) (b := 115) rfl rfl (by omega) (by omega) c_25
            have hkk : 115 = knd fby tn gq22 := by have h9 := htk9.2.2.1; omega
            have hop := sg_2 (show knd fby tn gq22 = 115 from by have h9 := htk9.2.2.1; omega)
            have hgt_27 : gq22 < fin fby tn gq22 ∧ fin fby tn gq22 ≤ tn := ⟨fin_gt (by have h9 := htk9.2.2.1; omega), fin_le (by omega)⟩
            refine lv_aload_n hx hb dX10_takeBoth_31 rfl (lv_at hl 2 rfl) ?_
            refine va_get (D := D) (ci := 10) (v := .ref t0) (C := RX10) (T := TX10) (N := 10) hx hb hg i_X10 hown hK hP 0 rfl rfl 0 (by decide) (hg _ m_255) (fun _ h9 => h9) rfl dX10_takeBoth_32 ?_
            refine x_callVv (q := (RX9, TX9, 8)) (ci := 9) (q0 := 0) (wr := [wO d0 10 [.ref t0, .ref d1, .ref h0, .ref f0, .int (nI oq22), .int wt, .int dt, .int vv, .int fq, .int pq], wO h0 4 [.ref h1, .ref h2, .ref h3, .ref h4, .ref h5, .ref h6, .ref h7, .ref h8, .ref h9, .ref h10, .ref h11, hv0, hv1, hv2, hv3, .int (nI uq22)], wO f0 3 [.ref f1, .ref f2, .int (nI nq22), y3], wI (cy 1) f1 280 (fa14_22)]) (rest := []) ⟨hx, hb, hml, hown, hg, hl.1⟩ k_X10_140 (s_next l D cy adK adV t0 t1 t2 tn aq22 sq22 kq22 fl5_22 rq22 fby fky (fin fby tn gq22) (by omega) (by omega) (htk9.2.1) (hky)) EV_blind hK hP hD hS hA [1, 2, 3] [0, 4, 5, 6] ⟨rfl, rfl, by decide +kernel, by decide +kernel, by decide +kernel⟩ rfl rfl (fun U hU hW => EV_pass hE hS (va_free hD hS hA [1, 2, 3] rfl) hU hW) dX10_takeBoth_35 rfl rfl (Nat.le_of_ble_eq_true rfl) ⟨Nat.le_of_ble_eq_true rfl, Nat.le_of_ble_eq_true rfl⟩ ⟨Nat.le_of_ble_eq_true rfl, Nat.le_of_ble_eq_true rfl⟩ (fun zu28 H locs hw28 hP9 hD9 hS9 => ?_)
            clear hP hD hS
            obtain ⟨ta2_29, ts2_30, tk2_31, tm2_32, tr2_33⟩ := zu28
            refine reW [wO d0 10 [.ref t0, .ref d1, .ref h0, .ref f0, .int (nI oq22), .int wt, .int dt, .int vv, .int fq, .int pq], wO h0 4 [.ref h1, .ref h2, .ref h3, .ref h4, .ref h5, .ref h6, .ref h7, .ref h8, .ref h9, .ref h10, .ref h11, hv0, hv1, hv2, hv3, .int (nI uq22)], wO f0 3 [.ref f1, .ref f2, .int (nI nq22), y3], wI (cy 1) f1 280 (fa14_22), wO t0 9 [.ref t1, .ref t2, .int (nI tn), .int (nI ta2_29), .int (nI ts2_30), .int (nI tk2_31), .long tm2_32, .int tr2_33], wI (cy 0) t1 1600 (fby), (t2, .inl (cy 2, 24, .inr (.inl (fky))))] hP9 hD9 hS9 (fun hP hD hS => ?_)
            clear hP9 hD9 hS9
            refine W.widen (k := 0) (n := 0) (Nat.le_of_ble_eq_true rfl) (Nat.le_of_ble_eq_true rfl) ?_
            replace hw28 : (ta2_29 ≤ tn) ∧ (tk2_31 ≤ 123) ∧ (tkC fby tn (fin fby tn gq22) ta2_29 ts2_30 tk2_31 tm2_32 tr2_33) := hw28
            obtain ⟨f_34, f_35, f_36⟩ := hw28
            refine lv_aload_n hx hb dX10_takeBoth_38 rfl (lv_at hl 2 rfl) ?_
            refine lv_iload_n hx hb dX10_takeBoth_39 rfl (lv_at hl 3 rfl) ?_
            refine x_callVi (q := (RX10, TX10, 10)) (ci := 10) (q0 := 0) (wr := []) (rest := []) ⟨hx, hb, hml, hown, hg, hl.1⟩ k_X10_186 (s_takeOne7 l D cy adK adV d0 d1 wt dt vv fq pq t0 t1 t2 tn ta2_29 ts2_30 tk2_31 tm2_32 tr2_33 fby fky h0 h1 h2 h3 h4 h5 h6 h7 h8 h9 h10 h11 hv0 hv1 hv2 hv3 oq22 uq22 f0 f1 f2 nq22 y3 fa14_22 (fin fby tn gq22) (by omega) (by omega) (by omega) (f_36) (hky) (by omega) (ha15_22) (by omega) (by omega) (by omega) (by omega)) EV_blind hK hP hD hS hA [0, 4, 5, 6, 1, 2, 3] [] ⟨rfl, rfl, by decide +kernel, by decide +kernel, by decide +kernel⟩ rfl rfl (fun U hU hW => EV_pass hE hS (va_free hD hS hA [0, 4, 5, 6, 1, 2, 3] rfl) hU hW) dX10_takeBoth_40 rfl rfl (Nat.le_of_ble_eq_true rfl) ⟨Nat.le_of_ble_eq_true rfl, Nat.le_of_ble_eq_true rfl⟩ ⟨Nat.le_of_ble_eq_true rfl, Nat.le_of_ble_eq_true rfl⟩ (fun zr37 zu37 H locs hw37 hP9 hD9 hS9 => ?_)
            clear hP hD hS
            obtain ⟨ta2_38, ts2_39, tk2_40, tm2_41, tr2_42, fq2_43, pq2_44, ow2_45, un2_46, nf2_47, fco2_48, ga2_49, nw2_50⟩ := zu37
            refine reW [wO d0 10 [.ref t0, .ref d1, .ref h0, .ref f0, .int (nI ow2_45), .int wt, .int dt, .int vv, .int fq2_43, .int pq2_44], wO t0 9 [.ref t1, .ref t2, .int (nI tn), .int (nI ta2_38), .int (nI ts2_39), .int (nI tk2_40), .long tm2_41, .int tr2_42], wI (cy 0) t1 1600 (fby), (t2, .inl (cy 2, 24, .inr (.inl (fky)))), wO h0 4 [.ref h1, .ref h2, .ref h3, .ref h4, .ref h5, .ref h6, .ref h7, .ref h8, .ref h9, .ref h10, .ref h11, hv0, hv1, hv2, hv3, .int (nI un2_46)], wO f0 3 [.ref f1, .ref f2, .int (nI nf2_47), y3], wI (cy 1) f1 280 (fco2_48)] hP9 hD9 hS9 (fun hP hD hS => ?_)
            clear hP9 hD9 hS9
            refine W.widen (k := 0) (n := 0) (Nat.le_of_ble_eq_true rfl) (Nat.le_of_ble_eq_true rfl) ?_
            replace hw37 : (ta2_38 ≤ tn) ∧ (tk2_40 ≤ 123) ∧ (nf2_47 ≤ 280) ∧ (cOK fco2_48 nf2_47) ∧ (ow2_45 ≤ 30) ∧ (un2_46 ≤ 60) ∧ ((zr37 = 1 ∧ (okS (knd fby tn) (fin fby tn) (cdF fby tn) 4 7 (fin fby tn gq22) oq22 uq22 ga2_49 ow2_45 un2_46 nw2_50) ∧ (fq = fq2_43) ∧ (pq = pq2_44) ∧ (tkC fby tn ga2_49 ta2_38 ts2_39 tk2_40 tm2_41 tr2_42) ∧ ((fin fby tn gq22) < ga2_49 ∧ ga2_49 ≤ tn) ∧ (exC fa14_22 nq22 fco2_48 nf2_47 nw2_50) ∧ (nf2_47 + 2 * oq22 + 1 ≤ nq22 + 2 * ow2_45 ∧ oq22 < ow2_45)) ∨ (zr37 = 0 ∧ (noS (knd fby tn) (fin fby tn) 4 7 (fin fby tn gq22) oq22 uq22 ga2_49) ∧ (flt fby tn ga2_49 2 fq2_43 pq2_44))) := hw37
            obtain ⟨f_51, f_52, f_53, f_54, f_55, f_56, f_57⟩ := hw37
            rcases f_57 with ⟨hz_65, a_58, a_59, a_60, a_61, a_62, a_63, a_64⟩ | ⟨hz_68, a_66, a_67⟩
            · subst hz_65
              subst a_59
              subst a_60
              have hg_a_62 := a_62
              have hl_a_64 := a_64
              refine lv_istore_n (lv' := [(2, .int 1), (3, .int (nI i22)), (0, .ref d0), (1, .int 7)]) hx hb dX10_takeBoth_43 rfl hl (by decide) rfl (fun ls hl => ?_)
              refine lv_aload_n hx hb dX10_takeBoth_44 rfl (lv_at hl 2 rfl) ?_
              refine va_get (D := D) (ci := 10) (v := .ref f0) (C := RX10) (T := TX10) (N := 10) hx hb hg i_X10 hown hK hP 0 rfl rfl 3 (by decide) (hg _ m_258) (fun _ h9 => h9) rfl dX10_takeBoth_45 ?_
              refine lv_bipush (v := 115) hx hb dX10_takeBoth_48 (by decide) ?_
              refine x_callVv (q := (RX3, TX3, 4)) (ci := 3) (q0 := 0) (wr := [wO d0 10 [.ref t0, .ref d1, .ref h0, .ref f0, .int (nI ow2_45), .int wt, .int dt, .int vv, .int fq, .int pq], wO t0 9 [.ref t1, .ref t2, .int (nI tn), .int (nI ta2_38), .int (nI ts2_39), .int (nI tk2_40), .long tm2_41, .int tr2_42], wI (cy 0) t1 1600 (fby), (t2, .inl (cy 2, 24, .inr (.inl (fky)))), wO h0 4 [.ref h1, .ref h2, .ref h3, .ref h4, .ref h5, .ref h6, .ref h7, .ref h8, .ref h9, .ref h10, .ref h11, hv0, hv1, hv2, hv3, .int (nI un2_46)]]) (rest := []) ⟨hx, hb, hml, hown, hg, hl.1⟩ k_X10_182 (s_addDeed9 l D cy f0 f1 f2 nf2_47 y3 fco2_48 115 (by omega) (f_54) (by omega)) E0_blind hK hP hD hS hA [5, 6] [0, 1, 2, 3, 4] ⟨rfl, rfl, by decide +kernel, by decide +kernel, by decide +kernel⟩ rfl rfl (fun _ _ _ => trivial) dX10_takeBoth_50 rfl rfl (Nat.le_of_ble_eq_true rfl) ⟨Nat.le_of_ble_eq_true rfl, Nat.le_of_ble_eq_true rfl⟩ ⟨Nat.le_of_ble_eq_true rfl, Nat.le_of_ble_eq_true rfl⟩ (fun zu69 H locs hw69 hP9 hD9 hS9 => ?_)
              clear hP hD hS
              obtain ⟨n2_70, fc2_71⟩ := zu69
              refine reW [wO d0 10 [.ref t0, .ref d1, .ref h0, .ref f0, .int (nI ow2_45), .int wt, .int dt, .int vv, .int fq, .int pq], wO t0 9 [.ref t1, .ref t2, .int (nI tn), .int (nI ta2_38), .int (nI ts2_39), .int (nI tk2_40), .long tm2_41, .int tr2_42], wI (cy 0) t1 1600 (fby), (t2, .inl (cy 2, 24, .inr (.inl (fky)))), wO h0 4 [.ref h1, .ref h2, .ref h3, .ref h4, .ref h5, .ref h6, .ref h7, .ref h8, .ref h9, .ref h10, .ref h11, hv0, hv1, hv2, hv3, .int (nI un2_46)], wO f0 3 [.ref f1, .ref f2, .int (nI n2_70), y3], wI (cy 1) f1 280 (fc2_71)] hP9 hD9 hS9 (fun hP hD hS => ?_)
              clear hP9 hD9 hS9
              refine W.widen (k := 0) (n := 0) (Nat.le_of_ble_eq_true rfl) (Nat.le_of_ble_eq_true rfl) ?_
              replace hw69 : (n2_70 = nf2_47 + 1) ∧ (cOK fc2_71 n2_70) ∧ (exC fco2_48 nf2_47 fc2_71 n2_70 [nI (20000 + 115)]) := hw69
              obtain ⟨f_72, f_73, f_74⟩ := hw69
              refine lv_iinc (v := nI (i22 + 1)) (lv' := [(3, .int (nI (i22 + 1))), (2, .int 1), (0, .ref d0), (1, .int 7)]) hx hb dX10_takeBoth_53 hl (k := 1) rfl (nI_add i22 1) (by decide) rfl (fun ls hl => ?_)
              refine lv_goto (tgt := 8) hx hb dX10_takeBoth_56 (by decide) ?_
              exact ih22  1 ((i22 + 1)) ta2_38 ts2_39 tk2_40 tm2_41 tr2_42 ow2_45 fq pq un2_46 n2_70 ga2_49 ((nw22 ++ (nw2_50 ++ [ded (sgM (knd fby tn gq22))]))) fc2_71 f_73 (by omega) (by omega) (by omega) (by omega) (by omega) (by omega) (Or.inl ⟨rfl, inS_step lvP24 hin9 hop.1 hop.2 a_58, a_61, by omega, by omega, by omega, rfl, rfl, (exC_tr hex9 (exC_tr a_63 (exC_dd f_74 hop.1 hkk))), by omega, by omega⟩) (by omega) _ _ (hP.sub [0, 1, 2, 3, 4, 5, 6] rfl) (hD.sub [0, 1, 2, 3, 4, 5, 6] (by decide +kernel) rfl) hS ls (lv_sub hl [0, 1, 2, 3] rfl)
            · subst hz_68
              refine lv_istore_n (lv' := [(2, .int 0), (3, .int (nI i22)), (0, .ref d0), (1, .int 7)]) hx hb dX10_takeBoth_43 rfl hl (by decide) rfl (fun ls hl => ?_)
              refine lv_aload_n hx hb dX10_takeBoth_44 rfl (lv_at hl 2 rfl) ?_
              refine va_get (D := D) (ci := 10) (v := .ref f0) (C := RX10) (T := TX10) (N := 10) hx hb hg i_X10 hown hK hP 0 rfl rfl 3 (by decide) (hg _ m_258) (fun _ h9 => h9) rfl dX10_takeBoth_45 ?_
              refine lv_bipush (v := 115) hx hb dX10_takeBoth_48 (by decide) ?_
              refine x_callVv (q := (RX3, TX3, 4)) (ci := 3) (q0 := 0) (wr := [wO d0 10 [.ref t0, .ref d1, .ref h0, .ref f0, .int (nI ow2_45), .int wt, .int dt, .int vv, .int fq2_43, .int pq2_44], wO t0 9 [.ref t1, .ref t2, .int (nI tn), .int (nI ta2_38), .int (nI ts2_39), .int (nI tk2_40), .long tm2_41, .int tr2_42], wI (cy 0) t1 1600 (fby), (t2, .inl (cy 2, 24, .inr (.inl (fky)))), wO h0 4 [.ref h1, .ref h2, .ref h3, .ref h4, .ref h5, .ref h6, .ref h7, .ref h8, .ref h9, .ref h10, .ref h11, hv0, hv1, hv2, hv3, .int (nI un2_46)]]) (rest := []) ⟨hx, hb, hml, hown, hg, hl.1⟩ k_X10_182 (s_addDeed l D cy f0 f1 f2 nf2_47 y3 fco2_48 115 (by omega) (f_54) (by omega)) E0_blind hK hP hD hS hA [5, 6] [0, 1, 2, 3, 4] ⟨rfl, rfl, by decide +kernel, by decide +kernel, by decide +kernel⟩ rfl rfl (fun _ _ _ => trivial) dX10_takeBoth_50 rfl rfl (Nat.le_of_ble_eq_true rfl) ⟨Nat.le_of_ble_eq_true rfl, Nat.le_of_ble_eq_true rfl⟩ ⟨Nat.le_of_ble_eq_true rfl, Nat.le_of_ble_eq_true rfl⟩ (fun zu75 H locs hw75 hP9 hD9 hS9 => ?_)
              clear hP hD hS
              obtain ⟨n2_76, fc2_77⟩ := zu75
              refine reW [wO d0 10 [.ref t0, .ref d1, .ref h0, .ref f0, .int (nI ow2_45), .int wt, .int dt, .int vv, .int fq2_43, .int pq2_44], wO t0 9 [.ref t1, .ref t2, .int (nI tn), .int (nI ta2_38), .int (nI ts2_39), .int (nI tk2_40), .long tm2_41, .int tr2_42], wI (cy 0) t1 1600 (fby), (t2, .inl (cy 2, 24, .inr (.inl (fky)))), wO h0 4 [.ref h1, .ref h2, .ref h3, .ref h4, .ref h5, .ref h6, .ref h7, .ref h8, .ref h9, .ref h10, .ref h11, hv0, hv1, hv2, hv3, .int (nI un2_46)], wO f0 3 [.ref f1, .ref f2, .int (nI n2_76), y3], wI (cy 1) f1 280 (fc2_77)] hP9 hD9 hS9 (fun hP hD hS => ?_)
              clear hP9 hD9 hS9
              refine W.widen (k := 0) (n := 0) (Nat.le_of_ble_eq_true rfl) (Nat.le_of_ble_eq_true rfl) ?_
              replace hw75 : (n2_76 ≤ 280) ∧ (cOK fc2_77 n2_76) := hw75
              obtain ⟨f_78, f_79⟩ := hw75
              refine lv_iinc (v := nI (i22 + 1)) (lv' := [(3, .int (nI (i22 + 1))), (2, .int 0), (0, .ref d0), (1, .int 7)]) hx hb dX10_takeBoth_53 hl (k := 1) rfl (nI_add i22 1) (by decide) rfl (fun ls hl => ?_)
              refine lv_goto (tgt := 8) hx hb dX10_takeBoth_56 (by decide) ?_
              exact ih22  0 ((i22 + 1)) ta2_38 ts2_39 tk2_40 tm2_41 tr2_42 ow2_45 fq2_43 pq2_44 un2_46 n2_76 ga2_49 ([]) fc2_77 f_79 (by omega) (by omega) (by omega) (by omega) (by omega) (by omega) (Or.inr ⟨rfl, inS_bad lvP24 hin9 hop.1 hop.2 a_66, a_67⟩) (by omega) _ _ (hP.sub [0, 1, 2, 3, 4, 5, 6] rfl) (hD.sub [0, 1, 2, 3, 4, 5, 6] (by decide +kernel) rfl) hS ls (lv_sub hl [0, 1, 2, 3] rfl)
      · subst hlb
        refine lv_iload_n hx hb dX10_takeBoth_8 rfl (lv_at hl 0 rfl) ?_
        refine lv_sipush (v := 1600) hx hb dX10_takeBoth_9 (by decide) ?_
        refine lv_icmp_ge (tgt := 59) hx hb dX10_takeBoth_12 (by decide) (fun c_80 => ?_) (fun c_80 => ?_)
        · have q_81 : 1600 ≤ i22 := q_le (a := 1600) (b := i22) rfl rfl (by omega) (by omega) c_80
          refine lv_iload_n hx hb dX10_takeBoth_59 rfl (lv_at hl 1 rfl) ?_
          exact x_zret hQ hx hb hr hlocks hK hP hD hS rfl dX10_takeBoth_60 (aq22, sq22, kq22, fl5_22, rq22, fz22, pz22, oq22, uq22, nq22, fa14_22, gq22, []) (⟨(show aq22 ≤ tn from by omega), (show kq22 ≤ 123 from by omega), (show nq22 ≤ 280 from by omega), ha15_22, (show oq22 ≤ 30 from by omega), (show uq22 ≤ 60 from by omega), (show ((0 : Int32) = 1 ∧ (okS (knd fby tn) (fin fby tn) (cdF fby tn) 2 7 ga ow un gq22 oq22 uq22 ([])) ∧ (fq = fz22) ∧ (pq = pz22) ∧ (tkC fby tn gq22 aq22 sq22 kq22 fl5_22 rq22) ∧ (ga < gq22 ∧ gq22 ≤ tn) ∧ (exC fco nf fa14_22 nq22 ([])) ∧ (nq22 + 2 * ow + 1 ≤ nf + 2 * oq22 ∧ ow < oq22)) ∨ ((0 : Int32) = 0 ∧ (noS (knd fby tn) (fin fby tn) 2 7 ga ow un gq22) ∧ (flt fby tn gq22 2 fz22 pz22)) from Or.inr (⟨rfl, (hno9), (hfl9)⟩))⟩) [0, 1, 2, 3, 4, 5, 6] (by decide +kernel) rfl (Nat.le_of_ble_eq_true rfl) (Nat.le_of_ble_eq_true rfl)
        · have q_81 : i22 < 1600 := q_nle (a := 1600) (b := i22) rfl rfl (by omega) (by omega) c_80
          refine lv_iload_n hx hb dX10_takeBoth_15 rfl (lv_at hl 1 rfl) ?_
          refine lv_if_eq (tgt := 59) hx hb dX10_takeBoth_16 (by decide) (fun _ => ?_) (fun h => absurd (by decide) h)
          refine lv_iload_n hx hb dX10_takeBoth_59 rfl (lv_at hl 1 rfl) ?_
          exact x_zret hQ hx hb hr hlocks hK hP hD hS rfl dX10_takeBoth_60 (aq22, sq22, kq22, fl5_22, rq22, fz22, pz22, oq22, uq22, nq22, fa14_22, gq22, []) (⟨(show aq22 ≤ tn from by omega), (show kq22 ≤ 123 from by omega), (show nq22 ≤ 280 from by omega), ha15_22, (show oq22 ≤ 30 from by omega), (show uq22 ≤ 60 from by omega), (show ((0 : Int32) = 1 ∧ (okS (knd fby tn) (fin fby tn) (cdF fby tn) 2 7 ga ow un gq22 oq22 uq22 ([])) ∧ (fq = fz22) ∧ (pq = pz22) ∧ (tkC fby tn gq22 aq22 sq22 kq22 fl5_22 rq22) ∧ (ga < gq22 ∧ gq22 ≤ tn) ∧ (exC fco nf fa14_22 nq22 ([])) ∧ (nq22 + 2 * ow + 1 ≤ nf + 2 * oq22 ∧ ow < oq22)) ∨ ((0 : Int32) = 0 ∧ (noS (knd fby tn) (fin fby tn) 2 7 ga ow un gq22) ∧ (flt fby tn gq22 2 fz22 pz22)) from Or.inr (⟨rfl, (hno9), (hfl9)⟩))⟩) [0, 1, 2, 3, 4, 5, 6] (by decide +kernel) rfl (Nat.le_of_ble_eq_true rfl) (Nat.le_of_ble_eq_true rfl)
  exact loop22 _ zr1 0 ta2_2 ts2_3 tk2_4 tm2_5 tr2_6 ow2_9 fq2_7 pq2_8 un2_10 nf2_11 ga2_13 nw2_14 fco2_12 f_18 (by omega) (by omega) (by omega) (by omega) (by omega) (by omega) (by rcases f_21 with ⟨hx0, hxk, hxq, hxp, hxt, hxg, hxe, hxm⟩ | ⟨hx0, hxn, hxl⟩; exact Or.inl ⟨hx0, inS_0 lvP24 hxk, hxt, hxg.1, hxg.2, by omega, hxq, hxp, hxe, hxm.1, hxm.2⟩; exact Or.inr ⟨hx0, noS_0 lvP24 hxn, hxl⟩) (Nat.le_refl _) _ _ (hP.sub [0, 1, 2, 3, 4, 5, 6] rfl) (hD.sub [0, 1, 2, 3, 4, 5, 6] (by decide +kernel) rfl) hS ls (lv_sub hl [0, 1, 2, 3] rfl)
theorem gdX10_takeEither_0 : decode cX10_takeEither 0 = .ok (.aload_n 0, 1) ∧ decode cX10_takeEither 1 = .ok (.iload_n 1, 1) ∧ decode cX10_takeEither 2 = .ok (.invokevirtual 179, 3) := by decide +kernel
theorem dX10_takeEither_0 : decode cX10_takeEither 0 = .ok (.aload_n 0, 1) := gdX10_takeEither_0.1
theorem dX10_takeEither_1 : decode cX10_takeEither 1 = .ok (.iload_n 1, 1) := gdX10_takeEither_0.2.1
theorem dX10_takeEither_2 : decode cX10_takeEither 2 = .ok (.invokevirtual 179, 3) := gdX10_takeEither_0.2.2
theorem k_X10_179 : xV RX10 RX10 179 yX10_takeBoth cX10_takeBoth 4 (some .boolean) 1 := ⟨⟨m_867, m_869, m_19, m_136, m_870⟩, rfl, by decide, by decide, by decide +kernel⟩
theorem gdX10_takeEither_5 : decode cX10_takeEither 5 = .ok (.istore_n 2, 1) ∧ decode cX10_takeEither 6 = .ok (.iconst 0, 1) ∧ decode cX10_takeEither 7 = .ok (.istore_n 3, 1) ∧ decode cX10_takeEither 8 = .ok (.iload_n 3, 1) ∧ decode cX10_takeEither 9 = .ok (.sipush 1600, 3) ∧ decode cX10_takeEither 12 = .ok (.if_icmp .ge 47, 3) ∧ decode cX10_takeEither 15 = .ok (.iload_n 2, 1) ∧ decode cX10_takeEither 16 = .ok (.ifCond .eq 43, 3) ∧ decode cX10_takeEither 19 = .ok (.aload_n 0, 1) ∧ decode cX10_takeEither 20 = .ok (.getfield 16, 3) ∧ decode cX10_takeEither 23 = .ok (.getfield 55, 3) ∧ decode cX10_takeEither 26 = .ok (.bipush 114, 2) := by decide +kernel
theorem dX10_takeEither_5 : decode cX10_takeEither 5 = .ok (.istore_n 2, 1) := gdX10_takeEither_5.1
theorem dX10_takeEither_6 : decode cX10_takeEither 6 = .ok (.iconst 0, 1) := gdX10_takeEither_5.2.1
theorem dX10_takeEither_7 : decode cX10_takeEither 7 = .ok (.istore_n 3, 1) := gdX10_takeEither_5.2.2.1
theorem dX10_takeEither_8 : decode cX10_takeEither 8 = .ok (.iload_n 3, 1) := gdX10_takeEither_5.2.2.2.1
theorem dX10_takeEither_9 : decode cX10_takeEither 9 = .ok (.sipush 1600, 3) := gdX10_takeEither_5.2.2.2.2.1
theorem dX10_takeEither_12 : decode cX10_takeEither 12 = .ok (.if_icmp .ge 47, 3) := gdX10_takeEither_5.2.2.2.2.2.1
theorem dX10_takeEither_15 : decode cX10_takeEither 15 = .ok (.iload_n 2, 1) := gdX10_takeEither_5.2.2.2.2.2.2.1
theorem dX10_takeEither_16 : decode cX10_takeEither 16 = .ok (.ifCond .eq 43, 3) := gdX10_takeEither_5.2.2.2.2.2.2.2.1
theorem dX10_takeEither_19 : decode cX10_takeEither 19 = .ok (.aload_n 0, 1) := gdX10_takeEither_5.2.2.2.2.2.2.2.2.1
theorem dX10_takeEither_20 : decode cX10_takeEither 20 = .ok (.getfield 16, 3) := gdX10_takeEither_5.2.2.2.2.2.2.2.2.2.1
theorem dX10_takeEither_23 : decode cX10_takeEither 23 = .ok (.getfield 55, 3) := gdX10_takeEither_5.2.2.2.2.2.2.2.2.2.2.1
theorem dX10_takeEither_26 : decode cX10_takeEither 26 = .ok (.bipush 114, 2) := gdX10_takeEither_5.2.2.2.2.2.2.2.2.2.2.2
theorem gdX10_takeEither_28 : decode cX10_takeEither 28 = .ok (.if_icmp .ne 31, 3) ∧ decode cX10_takeEither 59 = .ok (.iload_n 2, 1) ∧ decode cX10_takeEither 60 = .ok (.ireturn, 1) ∧ decode cX10_takeEither 31 = .ok (.aload_n 0, 1) ∧ decode cX10_takeEither 32 = .ok (.getfield 16, 3) ∧ decode cX10_takeEither 35 = .ok (.invokevirtual 140, 3) ∧ decode cX10_takeEither 38 = .ok (.aload_n 0, 1) ∧ decode cX10_takeEither 39 = .ok (.iload_n 1, 1) ∧ decode cX10_takeEither 40 = .ok (.invokevirtual 179, 3) ∧ decode cX10_takeEither 43 = .ok (.istore_n 2, 1) ∧ decode cX10_takeEither 44 = .ok (.aload_n 0, 1) ∧ decode cX10_takeEither 45 = .ok (.getfield 34, 3) := by decide +kernel
theorem dX10_takeEither_28 : decode cX10_takeEither 28 = .ok (.if_icmp .ne 31, 3) := gdX10_takeEither_28.1
theorem dX10_takeEither_59 : decode cX10_takeEither 59 = .ok (.iload_n 2, 1) := gdX10_takeEither_28.2.1
theorem dX10_takeEither_60 : decode cX10_takeEither 60 = .ok (.ireturn, 1) := gdX10_takeEither_28.2.2.1
theorem dX10_takeEither_31 : decode cX10_takeEither 31 = .ok (.aload_n 0, 1) := gdX10_takeEither_28.2.2.2.1
theorem dX10_takeEither_32 : decode cX10_takeEither 32 = .ok (.getfield 16, 3) := gdX10_takeEither_28.2.2.2.2.1
theorem dX10_takeEither_35 : decode cX10_takeEither 35 = .ok (.invokevirtual 140, 3) := gdX10_takeEither_28.2.2.2.2.2.1
theorem dX10_takeEither_38 : decode cX10_takeEither 38 = .ok (.aload_n 0, 1) := gdX10_takeEither_28.2.2.2.2.2.2.1
theorem dX10_takeEither_39 : decode cX10_takeEither 39 = .ok (.iload_n 1, 1) := gdX10_takeEither_28.2.2.2.2.2.2.2.1
theorem dX10_takeEither_40 : decode cX10_takeEither 40 = .ok (.invokevirtual 179, 3) := gdX10_takeEither_28.2.2.2.2.2.2.2.2.1
theorem dX10_takeEither_43 : decode cX10_takeEither 43 = .ok (.istore_n 2, 1) := gdX10_takeEither_28.2.2.2.2.2.2.2.2.2.1
theorem dX10_takeEither_44 : decode cX10_takeEither 44 = .ok (.aload_n 0, 1) := gdX10_takeEither_28.2.2.2.2.2.2.2.2.2.2.1
theorem dX10_takeEither_45 : decode cX10_takeEither 45 = .ok (.getfield 34, 3) := gdX10_takeEither_28.2.2.2.2.2.2.2.2.2.2.2
theorem gdX10_takeEither_48 : decode cX10_takeEither 48 = .ok (.bipush 114, 2) ∧ decode cX10_takeEither 50 = .ok (.invokevirtual 182, 3) ∧ decode cX10_takeEither 53 = .ok (.iinc 3 1, 3) ∧ decode cX10_takeEither 56 = .ok (.goto (-48), 3) := by decide +kernel
theorem dX10_takeEither_48 : decode cX10_takeEither 48 = .ok (.bipush 114, 2) := gdX10_takeEither_48.1
theorem dX10_takeEither_50 : decode cX10_takeEither 50 = .ok (.invokevirtual 182, 3) := gdX10_takeEither_48.2.1
theorem dX10_takeEither_53 : decode cX10_takeEither 53 = .ok (.iinc 3 1, 3) := gdX10_takeEither_48.2.2.1
theorem dX10_takeEither_56 : decode cX10_takeEither 56 = .ok (.goto (-48), 3) := gdX10_takeEither_48.2.2.2
set_option maxHeartbeats 1000000 in
set_option maxRecDepth 100000 in
theorem s_takeEither7 (l : Launch) (D : va_G) (cy : Nat → ClassId) (adK : Nat → Nat) (adV : Nat → Nat) (d0 : Nat) (d1 : Nat) (wt : Int32) (dt : Int32) (vv : Int32) (fq : Int32) (pq : Int32) (t0 : Nat) (t1 : Nat) (t2 : Nat) (tn : Nat) (ta : Nat) (ts : Nat) (tk : Nat) (tm : Int64) (tr : Int32) (fby : Nat → Int32) (fky : Nat → Int64) (h0 : Nat) (h1 : Nat) (h2 : Nat) (h3 : Nat) (h4 : Nat) (h5 : Nat) (h6 : Nat) (h7 : Nat) (h8 : Nat) (h9 : Nat) (h10 : Nat) (h11 : Nat) (hv0 : Value) (hv1 : Value) (hv2 : Value) (hv3 : Value) (ow : Nat) (un : Nat) (f0 : Nat) (f1 : Nat) (f2 : Nat) (nf : Nat) (y3 : Value) (fco : Nat → Int32) (ga : Nat) (htn : tn ≤ 1600) (hta : ta ≤ tn) (htk : tk ≤ 123) (hti : tkC fby tn ga ta ts tk tm tr) (hky : kyOK fky) (hnf : nf ≤ 280) (hfc : cOK fco nf) (how : ow ≤ 30) (hun : un ≤ 60) (hga : ga ≤ tn) (hrm : nf + 60 ≤ 280 + 2 * ow) : XMi l D (tyL cy) (EV adK adV) yX10_takeEither cX10_takeEither 4 (some .boolean) (rmk 12 0 0) [.ref d0, .int 7] [wO d0 10 [.ref t0, .ref d1, .ref h0, .ref f0, .int (nI ow), .int wt, .int dt, .int vv, .int fq, .int pq], wO t0 9 [.ref t1, .ref t2, .int (nI tn), .int (nI ta), .int (nI ts), .int (nI tk), .long tm, .int tr], wI (cy 0) t1 1600 (fby), (t2, .inl (cy 2, 24, .inr (.inl (fky)))), wO h0 4 [.ref h1, .ref h2, .ref h3, .ref h4, .ref h5, .ref h6, .ref h7, .ref h8, .ref h9, .ref h10, .ref h11, hv0, hv1, hv2, hv3, .int (nI un)], wO f0 3 [.ref f1, .ref f2, .int (nI nf), y3], wI (cy 1) f1 280 (fco)] (fun (r : Int32) (u : Nat × Nat × Nat × Int64 × Int32 × Int32 × Int32 × Nat × Nat × Nat × (Nat → Int32) × Nat × (List Int32)) => (u.1 ≤ tn) ∧ (u.2.2.1 ≤ 123) ∧ (u.2.2.2.2.2.2.2.2.2.1 ≤ 280) ∧ (cOK u.2.2.2.2.2.2.2.2.2.2.1 u.2.2.2.2.2.2.2.2.2.1) ∧ (u.2.2.2.2.2.2.2.1 ≤ 30) ∧ (u.2.2.2.2.2.2.2.2.1 ≤ 60) ∧ ((r = 1 ∧ (okS (knd fby tn) (fin fby tn) (cdF fby tn) 1 7 ga ow un u.2.2.2.2.2.2.2.2.2.2.2.1 u.2.2.2.2.2.2.2.1 u.2.2.2.2.2.2.2.2.1 u.2.2.2.2.2.2.2.2.2.2.2.2) ∧ (fq = u.2.2.2.2.2.1) ∧ (pq = u.2.2.2.2.2.2.1) ∧ (tkC fby tn u.2.2.2.2.2.2.2.2.2.2.2.1 u.1 u.2.1 u.2.2.1 u.2.2.2.1 u.2.2.2.2.1) ∧ (ga < u.2.2.2.2.2.2.2.2.2.2.2.1 ∧ u.2.2.2.2.2.2.2.2.2.2.2.1 ≤ tn) ∧ (exC fco nf u.2.2.2.2.2.2.2.2.2.2.1 u.2.2.2.2.2.2.2.2.2.1 u.2.2.2.2.2.2.2.2.2.2.2.2) ∧ (u.2.2.2.2.2.2.2.2.2.1 + 2 * ow + 1 ≤ nf + 2 * u.2.2.2.2.2.2.2.1 ∧ ow < u.2.2.2.2.2.2.2.1)) ∨ (r = 0 ∧ (noS (knd fby tn) (fin fby tn) 1 7 ga ow un u.2.2.2.2.2.2.2.2.2.2.2.1) ∧ (flt fby tn u.2.2.2.2.2.2.2.2.2.2.2.1 2 u.2.2.2.2.2.1 u.2.2.2.2.2.2.1)))) (fun (u : Nat × Nat × Nat × Int64 × Int32 × Int32 × Int32 × Nat × Nat × Nat × (Nat → Int32) × Nat × (List Int32)) => [wO d0 10 [.ref t0, .ref d1, .ref h0, .ref f0, .int (nI u.2.2.2.2.2.2.2.1), .int wt, .int dt, .int vv, .int u.2.2.2.2.2.1, .int u.2.2.2.2.2.2.1], wO t0 9 [.ref t1, .ref t2, .int (nI tn), .int (nI u.1), .int (nI u.2.1), .int (nI u.2.2.1), .long u.2.2.2.1, .int u.2.2.2.2.1], wI (cy 0) t1 1600 (fby), (t2, .inl (cy 2, 24, .inr (.inl (fky)))), wO h0 4 [.ref h1, .ref h2, .ref h3, .ref h4, .ref h5, .ref h6, .ref h7, .ref h8, .ref h9, .ref h10, .ref h11, hv0, hv1, hv2, hv3, .int (nI u.2.2.2.2.2.2.2.2.1)], wO f0 3 [.ref f1, .ref f2, .int (nI u.2.2.2.2.2.2.2.2.2.1), y3], wI (cy 1) f1 280 (u.2.2.2.2.2.2.2.2.2.2.1)]) := by
  refine XMi.start (by decide) (Nat.le_of_ble_eq_true rfl) ?_
  intro p e s m below meth c args A ls Q hat hQ
  obtain ⟨hx, hb, hr, hml, hown, hg, hlocks, hin, hK, hA, hP, hD, hS, hE, hl⟩ := hat
  have hown : s.vm.findClass RX10 = some m.cls := hown
  have hl : lv_has ls 4 [(0, .ref d0), (1, .int 7)] := hl
  refine lv_aload_n hx hb dX10_takeEither_0 rfl (lv_at hl 0 rfl) ?_
  refine lv_iload_n hx hb dX10_takeEither_1 rfl (lv_at hl 1 rfl) ?_
  refine x_callVi (q := (RX10, TX10, 10)) (ci := 10) (q0 := 0) (wr := []) (rest := []) ⟨hx, hb, hml, hown, hg, hl.1⟩ k_X10_179 (s_takeBoth7 l D cy adK adV d0 d1 wt dt vv fq pq t0 t1 t2 tn ta ts tk tm tr fby fky h0 h1 h2 h3 h4 h5 h6 h7 h8 h9 h10 h11 hv0 hv1 hv2 hv3 ow un f0 f1 f2 nf y3 fco ga (by omega) (by omega) (by omega) (hti) (hky) (by omega) (hfc) (by omega) (by omega) (by omega) (by omega)) EV_blind hK hP hD hS hA [0, 1, 2, 3, 4, 5, 6] [] ⟨rfl, rfl, by decide +kernel, by decide +kernel, by decide +kernel⟩ rfl rfl (fun U hU hW => EV_pass hE hS (va_free hD hS hA [0, 1, 2, 3, 4, 5, 6] rfl) hU hW) dX10_takeEither_2 rfl rfl (Nat.le_of_ble_eq_true rfl) ⟨Nat.le_of_ble_eq_true rfl, Nat.le_of_ble_eq_true rfl⟩ ⟨Nat.le_of_ble_eq_true rfl, Nat.le_of_ble_eq_true rfl⟩ (fun zr1 zu1 H locs hw1 hP9 hD9 hS9 => ?_)
  clear hP hD hS
  obtain ⟨ta2_2, ts2_3, tk2_4, tm2_5, tr2_6, fq2_7, pq2_8, ow2_9, un2_10, nf2_11, fco2_12, ga2_13, nw2_14⟩ := zu1
  refine reW [wO d0 10 [.ref t0, .ref d1, .ref h0, .ref f0, .int (nI ow2_9), .int wt, .int dt, .int vv, .int fq2_7, .int pq2_8], wO t0 9 [.ref t1, .ref t2, .int (nI tn), .int (nI ta2_2), .int (nI ts2_3), .int (nI tk2_4), .long tm2_5, .int tr2_6], wI (cy 0) t1 1600 (fby), (t2, .inl (cy 2, 24, .inr (.inl (fky)))), wO h0 4 [.ref h1, .ref h2, .ref h3, .ref h4, .ref h5, .ref h6, .ref h7, .ref h8, .ref h9, .ref h10, .ref h11, hv0, hv1, hv2, hv3, .int (nI un2_10)], wO f0 3 [.ref f1, .ref f2, .int (nI nf2_11), y3], wI (cy 1) f1 280 (fco2_12)] hP9 hD9 hS9 (fun hP hD hS => ?_)
  clear hP9 hD9 hS9
  refine W.widen (k := 0) (n := 0) (Nat.le_of_ble_eq_true rfl) (Nat.le_of_ble_eq_true rfl) ?_
  replace hw1 : (ta2_2 ≤ tn) ∧ (tk2_4 ≤ 123) ∧ (nf2_11 ≤ 280) ∧ (cOK fco2_12 nf2_11) ∧ (ow2_9 ≤ 30) ∧ (un2_10 ≤ 60) ∧ ((zr1 = 1 ∧ (okS (knd fby tn) (fin fby tn) (cdF fby tn) 2 7 ga ow un ga2_13 ow2_9 un2_10 nw2_14) ∧ (fq = fq2_7) ∧ (pq = pq2_8) ∧ (tkC fby tn ga2_13 ta2_2 ts2_3 tk2_4 tm2_5 tr2_6) ∧ (ga < ga2_13 ∧ ga2_13 ≤ tn) ∧ (exC fco nf fco2_12 nf2_11 nw2_14) ∧ (nf2_11 + 2 * ow + 1 ≤ nf + 2 * ow2_9 ∧ ow < ow2_9)) ∨ (zr1 = 0 ∧ (noS (knd fby tn) (fin fby tn) 2 7 ga ow un ga2_13) ∧ (flt fby tn ga2_13 2 fq2_7 pq2_8))) := hw1
  obtain ⟨f_15, f_16, f_17, f_18, f_19, f_20, f_21⟩ := hw1
  refine lv_istore_n (lv' := [(2, .int zr1), (0, .ref d0), (1, .int 7)]) hx hb dX10_takeEither_5 rfl hl (by decide) rfl (fun ls hl => ?_)
  refine lv_iconst (v := 0) hx hb dX10_takeEither_6 (by decide) ?_
  refine lv_istore_n (lv' := [(3, .int 0), (2, .int zr1), (0, .ref d0), (1, .int 7)]) hx hb dX10_takeEither_7 rfl hl (by decide) rfl (fun ls hl => ?_)
  have loop22 : ∀ (zn : Nat) (lb2_22 : Int32) (i22 : Nat) (aq22 : Nat) (sq22 : Nat) (kq22 : Nat) (fl5_22 : Int64) (rq22 : Int32) (oq22 : Nat) (fz22 : Int32) (pz22 : Int32) (uq22 : Nat) (nq22 : Nat) (gq22 : Nat) (nw22 : List Int32) (fa14_22 : Nat → Int32), (cOK fa14_22 nq22) → (i22 ≤ 1600) → (aq22 ≤ tn) → (kq22 ≤ 123) → (nq22 ≤ 280) → (oq22 ≤ 30) → (uq22 ≤ 60) → ((lb2_22 = 1 ∧ inS (knd fby tn) (fin fby tn) (cdF fby tn) 1 2 7 ga ow un gq22 oq22 uq22 nw22 ∧ tkC fby tn gq22 aq22 sq22 kq22 fl5_22 rq22 ∧ ga < gq22 ∧ gq22 ≤ tn ∧ i22 < gq22 ∧ fq = fz22 ∧ pq = pz22 ∧ exC fco nf fa14_22 nq22 nw22 ∧ nq22 + 2 * ow + 1 ≤ nf + 2 * oq22 ∧ ow < oq22) ∨ (lb2_22 = 0 ∧ noS (knd fby tn) (fin fby tn) 1 7 ga ow un gq22 ∧ flt fby tn gq22 2 fz22 pz22)) → 1600 - i22 + 1 ≤ zn → ∀ (H : Heap) (locs : List Loc), va_P D vwCl [wO d0 10 [.ref t0, .ref d1, .ref h0, .ref f0, .int (nI oq22), .int wt, .int dt, .int vv, .int fz22, .int pz22], wO t0 9 [.ref t1, .ref t2, .int (nI tn), .int (nI aq22), .int (nI sq22), .int (nI kq22), .long fl5_22, .int rq22], wI (cy 0) t1 1600 (fby), (t2, .inl (cy 2, 24, .inr (.inl (fky)))), wO h0 4 [.ref h1, .ref h2, .ref h3, .ref h4, .ref h5, .ref h6, .ref h7, .ref h8, .ref h9, .ref h10, .ref h11, hv0, hv1, hv2, hv3, .int (nI uq22)], wO f0 3 [.ref f1, .ref f2, .int (nI nq22), y3], wI (cy 1) f1 280 (fa14_22)] H → va_D A [wO d0 10 [.ref t0, .ref d1, .ref h0, .ref f0, .int (nI oq22), .int wt, .int dt, .int vv, .int fz22, .int pz22], wO t0 9 [.ref t1, .ref t2, .int (nI tn), .int (nI aq22), .int (nI sq22), .int (nI kq22), .long fl5_22, .int rq22], wI (cy 0) t1 1600 (fby), (t2, .inl (cy 2, 24, .inr (.inl (fky)))), wO h0 4 [.ref h1, .ref h2, .ref h3, .ref h4, .ref h5, .ref h6, .ref h7, .ref h8, .ref h9, .ref h10, .ref h11, hv0, hv1, hv2, hv3, .int (nI uq22)], wO f0 3 [.ref f1, .ref f2, .int (nI nq22), y3], wI (cy 1) f1 280 (fa14_22)] → va_S A s.heap H locs → ∀ ls : Array Slot, lv_has ls 4 [(3, .int (nI i22)), (2, .int lb2_22), (0, .ref d0), (1, .int 7)] → W p l e (rmk 12 0 0) s m args below meth c H locs 0 0 Q (F0 m 8 ls []) := by
    try clear hP hD hS
    intro zn
    induction zn with
    | zero => intro lb2_22 i22 aq22 sq22 kq22 fl5_22 rq22 oq22 fz22 pz22 uq22 nq22 gq22 nw22 fa14_22 _ _ _ _ _ _ _ _ hz; exact absurd hz (by omega)
    | succ zn ih22 =>
      intro lb2_22 i22 aq22 sq22 kq22 fl5_22 rq22 oq22 fz22 pz22 uq22 nq22 gq22 nw22 fa14_22 ha15_22 hf0_22 hf1_22 hf2_22 hf3_22 hf4_22 hf5_22 hf6_22 hmu22 H locs hP hD hS ls hl
      rcases hf6_22 with ⟨hlb, hin9, htk9, hg1, hg2, hg3, hfz, hpz, hex9, hln9⟩ | ⟨hlb, hno9, hfl9⟩
      · subst hlb hfz hpz
        refine lv_iload_n hx hb dX10_takeEither_8 rfl (lv_at hl 0 rfl) ?_
        refine lv_sipush (v := 1600) hx hb dX10_takeEither_9 (by decide) ?_
        refine lv_icmp_ge (tgt := 59) hx hb dX10_takeEither_12 (by decide) (fun c_23 => ?_) (fun c_23 => ?_)
        · have q_24 : 1600 ≤ i22 := q_le (a := 1600) (b := i22) rfl rfl (by omega) (by omega) c_23
          exact absurd q_24 (by omega)
        · have q_24 : i22 < 1600 := q_nle (a := 1600) (b := i22) rfl rfl (by omega) (by omega) c_23
          refine lv_iload_n hx hb dX10_takeEither_15 rfl (lv_at hl 1 rfl) ?_
          refine lv_if_eq (tgt := 59) hx hb dX10_takeEither_16 (by decide) (fun h => absurd h (by decide)) (fun _ => ?_)
          refine lv_aload_n hx hb dX10_takeEither_19 rfl (lv_at hl 2 rfl) ?_
          refine va_get (D := D) (ci := 10) (v := .ref t0) (C := RX10) (T := TX10) (N := 10) hx hb hg i_X10 hown hK hP 0 rfl rfl 0 (by decide) (hg _ m_255) (fun _ h9 => h9) rfl dX10_takeEither_20 ?_
          refine va_get (D := D) (ci := 9) (v := .int (nI kq22)) (C := RX9) (T := TX9) (N := 8) hx hb hg i_X9 hown hK hP 1 rfl rfl 5 (by decide) (hg _ m_222) (fun _ h9 => h9) rfl dX10_takeEither_23 ?_
          refine lv_bipush (v := 114) hx hb dX10_takeEither_26 (by decide) ?_
          refine lv_icmp_ne (tgt := 59) hx hb dX10_takeEither_28 (by decide) (fun c_25 => ?_) (fun c_25 => ?_)
          · have q_26 : ¬ kq22 = 114 := q_ne (a := kq22) (b := 114) rfl rfl (by omega) (by omega) c_25
            refine lv_iload_n hx hb dX10_takeEither_59 rfl (lv_at hl 1 rfl) ?_
            exact x_zret hQ hx hb hr hlocks hK hP hD hS rfl dX10_takeEither_60 (aq22, sq22, kq22, fl5_22, rq22, fq, pq, oq22, uq22, nq22, fa14_22, gq22, nw22) (⟨(show aq22 ≤ tn from by omega), (show kq22 ≤ 123 from by omega), (show nq22 ≤ 280 from by omega), ha15_22, (show oq22 ≤ 30 from by omega), (show uq22 ≤ 60 from by omega), (show ((1 : Int32) = 1 ∧ (okS (knd fby tn) (fin fby tn) (cdF fby tn) 1 7 ga ow un gq22 oq22 uq22 nw22) ∧ (fq = fq) ∧ (pq = pq) ∧ (tkC fby tn gq22 aq22 sq22 kq22 fl5_22 rq22) ∧ (ga < gq22 ∧ gq22 ≤ tn) ∧ (exC fco nf fa14_22 nq22 nw22) ∧ (nq22 + 2 * ow + 1 ≤ nf + 2 * oq22 ∧ ow < oq22)) ∨ ((1 : Int32) = 0 ∧ (noS (knd fby tn) (fin fby tn) 1 7 ga ow un gq22) ∧ (flt fby tn gq22 2 fq pq)) from Or.inl ⟨rfl, (inS_end lvP12 hin9 (sg_ne1 (by have h9 := htk9.2.2.1; omega))), (rfl), (rfl), (htk9), (⟨by omega, by omega⟩), (hex9), (⟨by omega, by omega⟩)⟩)⟩) [0, 1, 2, 3, 4, 5, 6] (by decide +kernel) rfl (Nat.le_of_ble_eq_true rfl) (Nat.le_of_ble_eq_true rfl)
          · have q_26 : kq22 = 114 := q_eq (a := kq22) (b := 114) rfl rfl (by omega) (by omega) c_25
            have hkk : 114 = knd fby tn gq22 := by have h9 := htk9.2.2.1; omega
            have hop := sg_1 (show knd fby tn gq22 = 114 from by have h9 := htk9.2.2.1; omega)
            have hgt_27 : gq22 < fin fby tn gq22 ∧ fin fby tn gq22 ≤ tn := ⟨fin_gt (by have h9 := htk9.2.2.1; omega), fin_le (by omega)⟩
            refine lv_aload_n hx hb dX10_takeEither_31 rfl (lv_at hl 2 rfl) ?_
            refine va_get (D := D) (ci := 10) (v := .ref t0) (C := RX10) (T := TX10) (N := 10) hx hb hg i_X10 hown hK hP 0 rfl rfl 0 (by decide) (hg _ m_255) (fun _ h9 => h9) rfl dX10_takeEither_32 ?_
            refine x_callVv (q := (RX9, TX9, 8)) (ci := 9) (q0 := 0) (wr := [wO d0 10 [.ref t0, .ref d1, .ref h0, .ref f0, .int (nI oq22), .int wt, .int dt, .int vv, .int fq, .int pq], wO h0 4 [.ref h1, .ref h2, .ref h3, .ref h4, .ref h5, .ref h6, .ref h7, .ref h8, .ref h9, .ref h10, .ref h11, hv0, hv1, hv2, hv3, .int (nI uq22)], wO f0 3 [.ref f1, .ref f2, .int (nI nq22), y3], wI (cy 1) f1 280 (fa14_22)]) (rest := []) ⟨hx, hb, hml, hown, hg, hl.1⟩ k_X10_140 (s_next l D cy adK adV t0 t1 t2 tn aq22 sq22 kq22 fl5_22 rq22 fby fky (fin fby tn gq22) (by omega) (by omega) (htk9.2.1) (hky)) EV_blind hK hP hD hS hA [1, 2, 3] [0, 4, 5, 6] ⟨rfl, rfl, by decide +kernel, by decide +kernel, by decide +kernel⟩ rfl rfl (fun U hU hW => EV_pass hE hS (va_free hD hS hA [1, 2, 3] rfl) hU hW) dX10_takeEither_35 rfl rfl (Nat.le_of_ble_eq_true rfl) ⟨Nat.le_of_ble_eq_true rfl, Nat.le_of_ble_eq_true rfl⟩ ⟨Nat.le_of_ble_eq_true rfl, Nat.le_of_ble_eq_true rfl⟩ (fun zu28 H locs hw28 hP9 hD9 hS9 => ?_)
            clear hP hD hS
            obtain ⟨ta2_29, ts2_30, tk2_31, tm2_32, tr2_33⟩ := zu28
            refine reW [wO d0 10 [.ref t0, .ref d1, .ref h0, .ref f0, .int (nI oq22), .int wt, .int dt, .int vv, .int fq, .int pq], wO h0 4 [.ref h1, .ref h2, .ref h3, .ref h4, .ref h5, .ref h6, .ref h7, .ref h8, .ref h9, .ref h10, .ref h11, hv0, hv1, hv2, hv3, .int (nI uq22)], wO f0 3 [.ref f1, .ref f2, .int (nI nq22), y3], wI (cy 1) f1 280 (fa14_22), wO t0 9 [.ref t1, .ref t2, .int (nI tn), .int (nI ta2_29), .int (nI ts2_30), .int (nI tk2_31), .long tm2_32, .int tr2_33], wI (cy 0) t1 1600 (fby), (t2, .inl (cy 2, 24, .inr (.inl (fky))))] hP9 hD9 hS9 (fun hP hD hS => ?_)
            clear hP9 hD9 hS9
            refine W.widen (k := 0) (n := 0) (Nat.le_of_ble_eq_true rfl) (Nat.le_of_ble_eq_true rfl) ?_
            replace hw28 : (ta2_29 ≤ tn) ∧ (tk2_31 ≤ 123) ∧ (tkC fby tn (fin fby tn gq22) ta2_29 ts2_30 tk2_31 tm2_32 tr2_33) := hw28
            obtain ⟨f_34, f_35, f_36⟩ := hw28
            refine lv_aload_n hx hb dX10_takeEither_38 rfl (lv_at hl 2 rfl) ?_
            refine lv_iload_n hx hb dX10_takeEither_39 rfl (lv_at hl 3 rfl) ?_
            refine x_callVi (q := (RX10, TX10, 10)) (ci := 10) (q0 := 0) (wr := []) (rest := []) ⟨hx, hb, hml, hown, hg, hl.1⟩ k_X10_179 (s_takeBoth7 l D cy adK adV d0 d1 wt dt vv fq pq t0 t1 t2 tn ta2_29 ts2_30 tk2_31 tm2_32 tr2_33 fby fky h0 h1 h2 h3 h4 h5 h6 h7 h8 h9 h10 h11 hv0 hv1 hv2 hv3 oq22 uq22 f0 f1 f2 nq22 y3 fa14_22 (fin fby tn gq22) (by omega) (by omega) (by omega) (f_36) (hky) (by omega) (ha15_22) (by omega) (by omega) (by omega) (by omega)) EV_blind hK hP hD hS hA [0, 4, 5, 6, 1, 2, 3] [] ⟨rfl, rfl, by decide +kernel, by decide +kernel, by decide +kernel⟩ rfl rfl (fun U hU hW => EV_pass hE hS (va_free hD hS hA [0, 4, 5, 6, 1, 2, 3] rfl) hU hW) dX10_takeEither_40 rfl rfl (Nat.le_of_ble_eq_true rfl) ⟨Nat.le_of_ble_eq_true rfl, Nat.le_of_ble_eq_true rfl⟩ ⟨Nat.le_of_ble_eq_true rfl, Nat.le_of_ble_eq_true rfl⟩ (fun zr37 zu37 H locs hw37 hP9 hD9 hS9 => ?_)
            clear hP hD hS
            obtain ⟨ta2_38, ts2_39, tk2_40, tm2_41, tr2_42, fq2_43, pq2_44, ow2_45, un2_46, nf2_47, fco2_48, ga2_49, nw2_50⟩ := zu37
            refine reW [wO d0 10 [.ref t0, .ref d1, .ref h0, .ref f0, .int (nI ow2_45), .int wt, .int dt, .int vv, .int fq2_43, .int pq2_44], wO t0 9 [.ref t1, .ref t2, .int (nI tn), .int (nI ta2_38), .int (nI ts2_39), .int (nI tk2_40), .long tm2_41, .int tr2_42], wI (cy 0) t1 1600 (fby), (t2, .inl (cy 2, 24, .inr (.inl (fky)))), wO h0 4 [.ref h1, .ref h2, .ref h3, .ref h4, .ref h5, .ref h6, .ref h7, .ref h8, .ref h9, .ref h10, .ref h11, hv0, hv1, hv2, hv3, .int (nI un2_46)], wO f0 3 [.ref f1, .ref f2, .int (nI nf2_47), y3], wI (cy 1) f1 280 (fco2_48)] hP9 hD9 hS9 (fun hP hD hS => ?_)
            clear hP9 hD9 hS9
            refine W.widen (k := 0) (n := 0) (Nat.le_of_ble_eq_true rfl) (Nat.le_of_ble_eq_true rfl) ?_
            replace hw37 : (ta2_38 ≤ tn) ∧ (tk2_40 ≤ 123) ∧ (nf2_47 ≤ 280) ∧ (cOK fco2_48 nf2_47) ∧ (ow2_45 ≤ 30) ∧ (un2_46 ≤ 60) ∧ ((zr37 = 1 ∧ (okS (knd fby tn) (fin fby tn) (cdF fby tn) 2 7 (fin fby tn gq22) oq22 uq22 ga2_49 ow2_45 un2_46 nw2_50) ∧ (fq = fq2_43) ∧ (pq = pq2_44) ∧ (tkC fby tn ga2_49 ta2_38 ts2_39 tk2_40 tm2_41 tr2_42) ∧ ((fin fby tn gq22) < ga2_49 ∧ ga2_49 ≤ tn) ∧ (exC fa14_22 nq22 fco2_48 nf2_47 nw2_50) ∧ (nf2_47 + 2 * oq22 + 1 ≤ nq22 + 2 * ow2_45 ∧ oq22 < ow2_45)) ∨ (zr37 = 0 ∧ (noS (knd fby tn) (fin fby tn) 2 7 (fin fby tn gq22) oq22 uq22 ga2_49) ∧ (flt fby tn ga2_49 2 fq2_43 pq2_44))) := hw37
            obtain ⟨f_51, f_52, f_53, f_54, f_55, f_56, f_57⟩ := hw37
            rcases f_57 with ⟨hz_65, a_58, a_59, a_60, a_61, a_62, a_63, a_64⟩ | ⟨hz_68, a_66, a_67⟩
            · subst hz_65
              subst a_59
              subst a_60
              have hg_a_62 := a_62
              have hl_a_64 := a_64
              refine lv_istore_n (lv' := [(2, .int 1), (3, .int (nI i22)), (0, .ref d0), (1, .int 7)]) hx hb dX10_takeEither_43 rfl hl (by decide) rfl (fun ls hl => ?_)
              refine lv_aload_n hx hb dX10_takeEither_44 rfl (lv_at hl 2 rfl) ?_
              refine va_get (D := D) (ci := 10) (v := .ref f0) (C := RX10) (T := TX10) (N := 10) hx hb hg i_X10 hown hK hP 0 rfl rfl 3 (by decide) (hg _ m_258) (fun _ h9 => h9) rfl dX10_takeEither_45 ?_
              refine lv_bipush (v := 114) hx hb dX10_takeEither_48 (by decide) ?_
              refine x_callVv (q := (RX3, TX3, 4)) (ci := 3) (q0 := 0) (wr := [wO d0 10 [.ref t0, .ref d1, .ref h0, .ref f0, .int (nI ow2_45), .int wt, .int dt, .int vv, .int fq, .int pq], wO t0 9 [.ref t1, .ref t2, .int (nI tn), .int (nI ta2_38), .int (nI ts2_39), .int (nI tk2_40), .long tm2_41, .int tr2_42], wI (cy 0) t1 1600 (fby), (t2, .inl (cy 2, 24, .inr (.inl (fky)))), wO h0 4 [.ref h1, .ref h2, .ref h3, .ref h4, .ref h5, .ref h6, .ref h7, .ref h8, .ref h9, .ref h10, .ref h11, hv0, hv1, hv2, hv3, .int (nI un2_46)]]) (rest := []) ⟨hx, hb, hml, hown, hg, hl.1⟩ k_X10_182 (s_addDeed9 l D cy f0 f1 f2 nf2_47 y3 fco2_48 114 (by omega) (f_54) (by omega)) E0_blind hK hP hD hS hA [5, 6] [0, 1, 2, 3, 4] ⟨rfl, rfl, by decide +kernel, by decide +kernel, by decide +kernel⟩ rfl rfl (fun _ _ _ => trivial) dX10_takeEither_50 rfl rfl (Nat.le_of_ble_eq_true rfl) ⟨Nat.le_of_ble_eq_true rfl, Nat.le_of_ble_eq_true rfl⟩ ⟨Nat.le_of_ble_eq_true rfl, Nat.le_of_ble_eq_true rfl⟩ (fun zu69 H locs hw69 hP9 hD9 hS9 => ?_)
              clear hP hD hS
              obtain ⟨n2_70, fc2_71⟩ := zu69
              refine reW [wO d0 10 [.ref t0, .ref d1, .ref h0, .ref f0, .int (nI ow2_45), .int wt, .int dt, .int vv, .int fq, .int pq], wO t0 9 [.ref t1, .ref t2, .int (nI tn), .int (nI ta2_38), .int (nI ts2_39), .int (nI tk2_40), .long tm2_41, .int tr2_42], wI (cy 0) t1 1600 (fby), (t2, .inl (cy 2, 24, .inr (.inl (fky)))), wO h0 4 [.ref h1, .ref h2, .ref h3, .ref h4, .ref h5, .ref h6, .ref h7, .ref h8, .ref h9, .ref h10, .ref h11, hv0, hv1, hv2, hv3, .int (nI un2_46)], wO f0 3 [.ref f1, .ref f2, .int (nI n2_70), y3], wI (cy 1) f1 280 (fc2_71)] hP9 hD9 hS9 (fun hP hD hS => ?_)
              clear hP9 hD9 hS9
              refine W.widen (k := 0) (n := 0) (Nat.le_of_ble_eq_true rfl) (Nat.le_of_ble_eq_true rfl) ?_
              replace hw69 : (n2_70 = nf2_47 + 1) ∧ (cOK fc2_71 n2_70) ∧ (exC fco2_48 nf2_47 fc2_71 n2_70 [nI (20000 + 114)]) := hw69
              obtain ⟨f_72, f_73, f_74⟩ := hw69
              refine lv_iinc (v := nI (i22 + 1)) (lv' := [(3, .int (nI (i22 + 1))), (2, .int 1), (0, .ref d0), (1, .int 7)]) hx hb dX10_takeEither_53 hl (k := 1) rfl (nI_add i22 1) (by decide) rfl (fun ls hl => ?_)
              refine lv_goto (tgt := 8) hx hb dX10_takeEither_56 (by decide) ?_
              exact ih22  1 ((i22 + 1)) ta2_38 ts2_39 tk2_40 tm2_41 tr2_42 ow2_45 fq pq un2_46 n2_70 ga2_49 ((nw22 ++ (nw2_50 ++ [ded (sgM (knd fby tn gq22))]))) fc2_71 f_73 (by omega) (by omega) (by omega) (by omega) (by omega) (by omega) (Or.inl ⟨rfl, inS_step lvP12 hin9 hop.1 hop.2 a_58, a_61, by omega, by omega, by omega, rfl, rfl, (exC_tr hex9 (exC_tr a_63 (exC_dd f_74 hop.1 hkk))), by omega, by omega⟩) (by omega) _ _ (hP.sub [0, 1, 2, 3, 4, 5, 6] rfl) (hD.sub [0, 1, 2, 3, 4, 5, 6] (by decide +kernel) rfl) hS ls (lv_sub hl [0, 1, 2, 3] rfl)
            · subst hz_68
              refine lv_istore_n (lv' := [(2, .int 0), (3, .int (nI i22)), (0, .ref d0), (1, .int 7)]) hx hb dX10_takeEither_43 rfl hl (by decide) rfl (fun ls hl => ?_)
              refine lv_aload_n hx hb dX10_takeEither_44 rfl (lv_at hl 2 rfl) ?_
              refine va_get (D := D) (ci := 10) (v := .ref f0) (C := RX10) (T := TX10) (N := 10) hx hb hg i_X10 hown hK hP 0 rfl rfl 3 (by decide) (hg _ m_258) (fun _ h9 => h9) rfl dX10_takeEither_45 ?_
              refine lv_bipush (v := 114) hx hb dX10_takeEither_48 (by decide) ?_
              refine x_callVv (q := (RX3, TX3, 4)) (ci := 3) (q0 := 0) (wr := [wO d0 10 [.ref t0, .ref d1, .ref h0, .ref f0, .int (nI ow2_45), .int wt, .int dt, .int vv, .int fq2_43, .int pq2_44], wO t0 9 [.ref t1, .ref t2, .int (nI tn), .int (nI ta2_38), .int (nI ts2_39), .int (nI tk2_40), .long tm2_41, .int tr2_42], wI (cy 0) t1 1600 (fby), (t2, .inl (cy 2, 24, .inr (.inl (fky)))), wO h0 4 [.ref h1, .ref h2, .ref h3, .ref h4, .ref h5, .ref h6, .ref h7, .ref h8, .ref h9, .ref h10, .ref h11, hv0, hv1, hv2, hv3, .int (nI un2_46)]]) (rest := []) ⟨hx, hb, hml, hown, hg, hl.1⟩ k_X10_182 (s_addDeed l D cy f0 f1 f2 nf2_47 y3 fco2_48 114 (by omega) (f_54) (by omega)) E0_blind hK hP hD hS hA [5, 6] [0, 1, 2, 3, 4] ⟨rfl, rfl, by decide +kernel, by decide +kernel, by decide +kernel⟩ rfl rfl (fun _ _ _ => trivial) dX10_takeEither_50 rfl rfl (Nat.le_of_ble_eq_true rfl) ⟨Nat.le_of_ble_eq_true rfl, Nat.le_of_ble_eq_true rfl⟩ ⟨Nat.le_of_ble_eq_true rfl, Nat.le_of_ble_eq_true rfl⟩ (fun zu75 H locs hw75 hP9 hD9 hS9 => ?_)
              clear hP hD hS
              obtain ⟨n2_76, fc2_77⟩ := zu75
              refine reW [wO d0 10 [.ref t0, .ref d1, .ref h0, .ref f0, .int (nI ow2_45), .int wt, .int dt, .int vv, .int fq2_43, .int pq2_44], wO t0 9 [.ref t1, .ref t2, .int (nI tn), .int (nI ta2_38), .int (nI ts2_39), .int (nI tk2_40), .long tm2_41, .int tr2_42], wI (cy 0) t1 1600 (fby), (t2, .inl (cy 2, 24, .inr (.inl (fky)))), wO h0 4 [.ref h1, .ref h2, .ref h3, .ref h4, .ref h5, .ref h6, .ref h7, .ref h8, .ref h9, .ref h10, .ref h11, hv0, hv1, hv2, hv3, .int (nI un2_46)], wO f0 3 [.ref f1, .ref f2, .int (nI n2_76), y3], wI (cy 1) f1 280 (fc2_77)] hP9 hD9 hS9 (fun hP hD hS => ?_)
              clear hP9 hD9 hS9
              refine W.widen (k := 0) (n := 0) (Nat.le_of_ble_eq_true rfl) (Nat.le_of_ble_eq_true rfl) ?_
              replace hw75 : (n2_76 ≤ 280) ∧ (cOK fc2_77 n2_76) := hw75
              obtain ⟨f_78, f_79⟩ := hw75
              refine lv_iinc (v := nI (i22 + 1)) (lv' := [(3, .int (nI (i22 + 1))), (2, .int 0), (0, .ref d0), (1, .int 7)]) hx hb dX10_takeEither_53 hl (k := 1) rfl (nI_add i22 1) (by decide) rfl (fun ls hl => ?_)
              refine lv_goto (tgt := 8) hx hb dX10_takeEither_56 (by decide) ?_
              exact ih22  0 ((i22 + 1)) ta2_38 ts2_39 tk2_40 tm2_41 tr2_42 ow2_45 fq2_43 pq2_44 un2_46 n2_76 ga2_49 ([]) fc2_77 f_79 (by omega) (by omega) (by omega) (by omega) (by omega) (by omega) (Or.inr ⟨rfl, inS_bad lvP12 hin9 hop.1 hop.2 a_66, a_67⟩) (by omega) _ _ (hP.sub [0, 1, 2, 3, 4, 5, 6] rfl) (hD.sub [0, 1, 2, 3, 4, 5, 6] (by decide +kernel) rfl) hS ls (lv_sub hl [0, 1, 2, 3] rfl)
      · subst hlb
        refine lv_iload_n hx hb dX10_takeEither_8 rfl (lv_at hl 0 rfl) ?_
        refine lv_sipush (v := 1600) hx hb dX10_takeEither_9 (by decide) ?_
        refine lv_icmp_ge (tgt := 59) hx hb dX10_takeEither_12 (by decide) (fun c_80 => ?_) (fun c_80 => ?_)
        · have q_81 : 1600 ≤ i22 := q_le (a := 1600) (b := i22) rfl rfl (by omega) (by omega) c_80
          refine lv_iload_n hx hb dX10_takeEither_59 rfl (lv_at hl 1 rfl) ?_
          exact x_zret hQ hx hb hr hlocks hK hP hD hS rfl dX10_takeEither_60 (aq22, sq22, kq22, fl5_22, rq22, fz22, pz22, oq22, uq22, nq22, fa14_22, gq22, []) (⟨(show aq22 ≤ tn from by omega), (show kq22 ≤ 123 from by omega), (show nq22 ≤ 280 from by omega), ha15_22, (show oq22 ≤ 30 from by omega), (show uq22 ≤ 60 from by omega), (show ((0 : Int32) = 1 ∧ (okS (knd fby tn) (fin fby tn) (cdF fby tn) 1 7 ga ow un gq22 oq22 uq22 ([])) ∧ (fq = fz22) ∧ (pq = pz22) ∧ (tkC fby tn gq22 aq22 sq22 kq22 fl5_22 rq22) ∧ (ga < gq22 ∧ gq22 ≤ tn) ∧ (exC fco nf fa14_22 nq22 ([])) ∧ (nq22 + 2 * ow + 1 ≤ nf + 2 * oq22 ∧ ow < oq22)) ∨ ((0 : Int32) = 0 ∧ (noS (knd fby tn) (fin fby tn) 1 7 ga ow un gq22) ∧ (flt fby tn gq22 2 fz22 pz22)) from Or.inr (⟨rfl, (hno9), (hfl9)⟩))⟩) [0, 1, 2, 3, 4, 5, 6] (by decide +kernel) rfl (Nat.le_of_ble_eq_true rfl) (Nat.le_of_ble_eq_true rfl)
        · have q_81 : i22 < 1600 := q_nle (a := 1600) (b := i22) rfl rfl (by omega) (by omega) c_80
          refine lv_iload_n hx hb dX10_takeEither_15 rfl (lv_at hl 1 rfl) ?_
          refine lv_if_eq (tgt := 59) hx hb dX10_takeEither_16 (by decide) (fun _ => ?_) (fun h => absurd (by decide) h)
          refine lv_iload_n hx hb dX10_takeEither_59 rfl (lv_at hl 1 rfl) ?_
          exact x_zret hQ hx hb hr hlocks hK hP hD hS rfl dX10_takeEither_60 (aq22, sq22, kq22, fl5_22, rq22, fz22, pz22, oq22, uq22, nq22, fa14_22, gq22, []) (⟨(show aq22 ≤ tn from by omega), (show kq22 ≤ 123 from by omega), (show nq22 ≤ 280 from by omega), ha15_22, (show oq22 ≤ 30 from by omega), (show uq22 ≤ 60 from by omega), (show ((0 : Int32) = 1 ∧ (okS (knd fby tn) (fin fby tn) (cdF fby tn) 1 7 ga ow un gq22 oq22 uq22 ([])) ∧ (fq = fz22) ∧ (pq = pz22) ∧ (tkC fby tn gq22 aq22 sq22 kq22 fl5_22 rq22) ∧ (ga < gq22 ∧ gq22 ≤ tn) ∧ (exC fco nf fa14_22 nq22 ([])) ∧ (nq22 + 2 * ow + 1 ≤ nf + 2 * oq22 ∧ ow < oq22)) ∨ ((0 : Int32) = 0 ∧ (noS (knd fby tn) (fin fby tn) 1 7 ga ow un gq22) ∧ (flt fby tn gq22 2 fz22 pz22)) from Or.inr (⟨rfl, (hno9), (hfl9)⟩))⟩) [0, 1, 2, 3, 4, 5, 6] (by decide +kernel) rfl (Nat.le_of_ble_eq_true rfl) (Nat.le_of_ble_eq_true rfl)
  exact loop22 _ zr1 0 ta2_2 ts2_3 tk2_4 tm2_5 tr2_6 ow2_9 fq2_7 pq2_8 un2_10 nf2_11 ga2_13 nw2_14 fco2_12 f_18 (by omega) (by omega) (by omega) (by omega) (by omega) (by omega) (by rcases f_21 with ⟨hx0, hxk, hxq, hxp, hxt, hxg, hxe, hxm⟩ | ⟨hx0, hxn, hxl⟩; exact Or.inl ⟨hx0, inS_0 lvP12 hxk, hxt, hxg.1, hxg.2, by omega, hxq, hxp, hxe, hxm.1, hxm.2⟩; exact Or.inr ⟨hx0, noS_0 lvP12 hxn, hxl⟩) (Nat.le_refl _) _ _ (hP.sub [0, 1, 2, 3, 4, 5, 6] rfl) (hD.sub [0, 1, 2, 3, 4, 5, 6] (by decide +kernel) rfl) hS ls (lv_sub hl [0, 1, 2, 3] rfl)
theorem gdX10_takeInner_12 : decode cX10_takeInner 12 = .ok (.aload_n 0, 1) ∧ decode cX10_takeInner 13 = .ok (.getfield 16, 3) ∧ decode cX10_takeInner 16 = .ok (.invokevirtual 140, 3) ∧ decode cX10_takeInner 19 = .ok (.aload_n 0, 1) ∧ decode cX10_takeInner 20 = .ok (.iload_n 1, 1) ∧ decode cX10_takeInner 21 = .ok (.iconst 1, 1) ∧ decode cX10_takeInner 22 = .ok (.iadd, 1) ∧ decode cX10_takeInner 23 = .ok (.invokevirtual 166, 3) := by decide +kernel
theorem dX10_takeInner_12 : decode cX10_takeInner 12 = .ok (.aload_n 0, 1) := gdX10_takeInner_12.1
theorem dX10_takeInner_13 : decode cX10_takeInner 13 = .ok (.getfield 16, 3) := gdX10_takeInner_12.2.1
theorem dX10_takeInner_16 : decode cX10_takeInner 16 = .ok (.invokevirtual 140, 3) := gdX10_takeInner_12.2.2.1
theorem dX10_takeInner_19 : decode cX10_takeInner 19 = .ok (.aload_n 0, 1) := gdX10_takeInner_12.2.2.2.1
theorem dX10_takeInner_20 : decode cX10_takeInner 20 = .ok (.iload_n 1, 1) := gdX10_takeInner_12.2.2.2.2.1
theorem dX10_takeInner_21 : decode cX10_takeInner 21 = .ok (.iconst 1, 1) := gdX10_takeInner_12.2.2.2.2.2.1
theorem dX10_takeInner_22 : decode cX10_takeInner 22 = .ok (.iadd, 1) := gdX10_takeInner_12.2.2.2.2.2.2.1
theorem dX10_takeInner_23 : decode cX10_takeInner 23 = .ok (.invokevirtual 166, 3) := gdX10_takeInner_12.2.2.2.2.2.2.2
theorem k_X10_166 : xV RX10 RX10 166 yX10_takeEither cX10_takeEither 4 (some .boolean) 1 := ⟨⟨m_863, m_865, m_18, m_136, m_866⟩, rfl, by decide, by decide, by decide +kernel⟩
theorem gdX10_takeInner_26 : decode cX10_takeInner 26 = .ok (.ifCond .eq 16, 3) ∧ decode cX10_takeInner 29 = .ok (.aload_n 0, 1) ∧ decode cX10_takeInner 30 = .ok (.bipush 41, 2) ∧ decode cX10_takeInner 32 = .ok (.invokevirtual 128, 3) := by decide +kernel
theorem dX10_takeInner_26 : decode cX10_takeInner 26 = .ok (.ifCond .eq 16, 3) := gdX10_takeInner_26.1
theorem dX10_takeInner_29 : decode cX10_takeInner 29 = .ok (.aload_n 0, 1) := gdX10_takeInner_26.2.1
theorem dX10_takeInner_30 : decode cX10_takeInner 30 = .ok (.bipush 41, 2) := gdX10_takeInner_26.2.2.1
theorem dX10_takeInner_32 : decode cX10_takeInner 32 = .ok (.invokevirtual 128, 3) := gdX10_takeInner_26.2.2.2
theorem k_X10_128 : xV RX10 RX10 128 yX10_take cX10_take 2 (some .boolean) 1 := ⟨⟨m_839, m_841, m_12, m_136, m_842⟩, rfl, by decide, by decide, by decide +kernel⟩
theorem gdX10_takeInner_35 : decode cX10_takeInner 35 = .ok (.ifCond .eq 7, 3) ∧ decode cX10_takeInner 38 = .ok (.iconst 1, 1) ∧ decode cX10_takeInner 39 = .ok (.goto 4, 3) ∧ decode cX10_takeInner 43 = .ok (.ireturn, 1) ∧ decode cX10_takeInner 42 = .ok (.iconst 0, 1) := by decide +kernel
theorem dX10_takeInner_35 : decode cX10_takeInner 35 = .ok (.ifCond .eq 7, 3) := gdX10_takeInner_35.1
theorem dX10_takeInner_38 : decode cX10_takeInner 38 = .ok (.iconst 1, 1) := gdX10_takeInner_35.2.1
theorem dX10_takeInner_39 : decode cX10_takeInner 39 = .ok (.goto 4, 3) := gdX10_takeInner_35.2.2.1
theorem dX10_takeInner_43 : decode cX10_takeInner 43 = .ok (.ireturn, 1) := gdX10_takeInner_35.2.2.2.1
theorem dX10_takeInner_42 : decode cX10_takeInner 42 = .ok (.iconst 0, 1) := gdX10_takeInner_35.2.2.2.2
set_option maxHeartbeats 1000000 in
set_option maxRecDepth 100000 in
theorem s_takeInner6 (l : Launch) (D : va_G) (cy : Nat → ClassId) (adK : Nat → Nat) (adV : Nat → Nat) (d0 : Nat) (d1 : Nat) (wt : Int32) (dt : Int32) (vv : Int32) (fq : Int32) (pq : Int32) (t0 : Nat) (t1 : Nat) (t2 : Nat) (tn : Nat) (ta : Nat) (ts : Nat) (tk : Nat) (tm : Int64) (tr : Int32) (fby : Nat → Int32) (fky : Nat → Int64) (h0 : Nat) (h1 : Nat) (h2 : Nat) (h3 : Nat) (h4 : Nat) (h5 : Nat) (h6 : Nat) (h7 : Nat) (h8 : Nat) (h9 : Nat) (h10 : Nat) (h11 : Nat) (hv0 : Value) (hv1 : Value) (hv2 : Value) (hv3 : Value) (ow : Nat) (un : Nat) (f0 : Nat) (f1 : Nat) (f2 : Nat) (nf : Nat) (y3 : Value) (fco : Nat → Int32) (ga : Nat) (htn : tn ≤ 1600) (hta : ta ≤ tn) (htk : tk ≤ 123) (hti : tkC fby tn ga ta ts tk tm tr) (hky : kyOK fky) (hnf : nf ≤ 280) (hfc : cOK fco nf) (how : ow ≤ 30) (hun : un ≤ 60) (hga : ga ≤ tn) (h40 : tk = 40) (hrm : nf + 90 ≤ 280 + 3 * ow) : XMi l D (tyL cy) (EV adK adV) yX10_takeInner cX10_takeInner 2 (some .boolean) (rmk 13 0 0) [.ref d0, .int 6] [wO d0 10 [.ref t0, .ref d1, .ref h0, .ref f0, .int (nI ow), .int wt, .int dt, .int vv, .int fq, .int pq], wO t0 9 [.ref t1, .ref t2, .int (nI tn), .int (nI ta), .int (nI ts), .int (nI tk), .long tm, .int tr], wI (cy 0) t1 1600 (fby), (t2, .inl (cy 2, 24, .inr (.inl (fky)))), wO h0 4 [.ref h1, .ref h2, .ref h3, .ref h4, .ref h5, .ref h6, .ref h7, .ref h8, .ref h9, .ref h10, .ref h11, hv0, hv1, hv2, hv3, .int (nI un)], wO f0 3 [.ref f1, .ref f2, .int (nI nf), y3], wI (cy 1) f1 280 (fco)] (fun (r : Int32) (u : Nat × Nat × Nat × Int64 × Int32 × Int32 × Int32 × Nat × Nat × Nat × (Nat → Int32) × Nat × (List Int32)) => (u.1 ≤ tn) ∧ (u.2.2.1 ≤ 123) ∧ (u.2.2.2.2.2.2.2.2.2.1 ≤ 280) ∧ (cOK u.2.2.2.2.2.2.2.2.2.2.1 u.2.2.2.2.2.2.2.2.2.1) ∧ (u.2.2.2.2.2.2.2.1 ≤ 30) ∧ (u.2.2.2.2.2.2.2.2.1 ≤ 60) ∧ ((r = 1 ∧ (∀ o9 u9 : Nat, ow = o9 + 1 → un = u9 + 1 → ¬ (u9 = 60 ∨ o9 = 30) → okS (knd fby tn) (fin fby tn) (cdF fby tn) 7 6 ga o9 u9 u.2.2.2.2.2.2.2.2.2.2.2.1 u.2.2.2.2.2.2.2.1 u.2.2.2.2.2.2.2.2.1 u.2.2.2.2.2.2.2.2.2.2.2.2) ∧ (fq = u.2.2.2.2.2.1) ∧ (pq = u.2.2.2.2.2.2.1) ∧ (tkC fby tn u.2.2.2.2.2.2.2.2.2.2.2.1 u.1 u.2.1 u.2.2.1 u.2.2.2.1 u.2.2.2.2.1) ∧ (ga < u.2.2.2.2.2.2.2.2.2.2.2.1 ∧ u.2.2.2.2.2.2.2.2.2.2.2.1 ≤ tn) ∧ (exC fco nf u.2.2.2.2.2.2.2.2.2.2.1 u.2.2.2.2.2.2.2.2.2.1 u.2.2.2.2.2.2.2.2.2.2.2.2) ∧ (u.2.2.2.2.2.2.2.2.2.1 + 2 * ow + 1 ≤ nf + 2 * u.2.2.2.2.2.2.2.1 ∧ ow < u.2.2.2.2.2.2.2.1)) ∨ (r = 0 ∧ (∀ o9 u9 : Nat, ow = o9 + 1 → un = u9 + 1 → ¬ (u9 = 60 ∨ o9 = 30) → noS (knd fby tn) (fin fby tn) 7 6 ga o9 u9 u.2.2.2.2.2.2.2.2.2.2.2.1) ∧ (flt fby tn u.2.2.2.2.2.2.2.2.2.2.2.1 2 u.2.2.2.2.2.1 u.2.2.2.2.2.2.1)))) (fun (u : Nat × Nat × Nat × Int64 × Int32 × Int32 × Int32 × Nat × Nat × Nat × (Nat → Int32) × Nat × (List Int32)) => [wO d0 10 [.ref t0, .ref d1, .ref h0, .ref f0, .int (nI u.2.2.2.2.2.2.2.1), .int wt, .int dt, .int vv, .int u.2.2.2.2.2.1, .int u.2.2.2.2.2.2.1], wO t0 9 [.ref t1, .ref t2, .int (nI tn), .int (nI u.1), .int (nI u.2.1), .int (nI u.2.2.1), .long u.2.2.2.1, .int u.2.2.2.2.1], wI (cy 0) t1 1600 (fby), (t2, .inl (cy 2, 24, .inr (.inl (fky)))), wO h0 4 [.ref h1, .ref h2, .ref h3, .ref h4, .ref h5, .ref h6, .ref h7, .ref h8, .ref h9, .ref h10, .ref h11, hv0, hv1, hv2, hv3, .int (nI u.2.2.2.2.2.2.2.2.1)], wO f0 3 [.ref f1, .ref f2, .int (nI u.2.2.2.2.2.2.2.2.2.1), y3], wI (cy 1) f1 280 (u.2.2.2.2.2.2.2.2.2.2.1)]) := by
  refine XMi.start (by decide) (Nat.le_of_ble_eq_true rfl) ?_
  intro p e s m below meth c args A ls Q hat hQ
  obtain ⟨hx, hb, hr, hml, hown, hg, hlocks, hin, hK, hA, hP, hD, hS, hE, hl⟩ := hat
  have hown : s.vm.findClass RX10 = some m.cls := hown
  have hl : lv_has ls 2 [(0, .ref d0), (1, .int 6)] := hl
  have hk40 : knd fby tn ga = 40 := by have h9 := hti.2.2.1; omega
  refine lv_iload_n hx hb dX10_takeInner_0 rfl (lv_at hl 1 rfl) ?_
  refine lv_bipush (v := 7) hx hb dX10_takeInner_1 (by decide) ?_
  refine lv_icmp_lt (tgt := 12) hx hb dX10_takeInner_3 (by decide) (fun _ => ?_) (fun h => absurd (by decide) h)
  have hgt_1 : ga < fin fby tn ga ∧ fin fby tn ga ≤ tn := ⟨fin_gt (by have h9 := hti.2.2.1; omega), fin_le (by omega)⟩
  refine lv_aload_n hx hb dX10_takeInner_12 rfl (lv_at hl 0 rfl) ?_
  refine va_get (D := D) (ci := 10) (v := .ref t0) (C := RX10) (T := TX10) (N := 10) hx hb hg i_X10 hown hK hP 0 rfl rfl 0 (by decide) (hg _ m_255) (fun _ h9 => h9) rfl dX10_takeInner_13 ?_
  refine x_callVv (q := (RX9, TX9, 8)) (ci := 9) (q0 := 0) (wr := [wO d0 10 [.ref t0, .ref d1, .ref h0, .ref f0, .int (nI ow), .int wt, .int dt, .int vv, .int fq, .int pq], wO h0 4 [.ref h1, .ref h2, .ref h3, .ref h4, .ref h5, .ref h6, .ref h7, .ref h8, .ref h9, .ref h10, .ref h11, hv0, hv1, hv2, hv3, .int (nI un)], wO f0 3 [.ref f1, .ref f2, .int (nI nf), y3], wI (cy 1) f1 280 (fco)]) (rest := []) ⟨hx, hb, hml, hown, hg, hl.1⟩ k_X10_140 (s_next l D cy adK adV t0 t1 t2 tn ta ts tk tm tr fby fky (fin fby tn ga) (by omega) (by omega) (hti.2.1) (hky)) EV_blind hK hP hD hS hA [1, 2, 3] [0, 4, 5, 6] ⟨rfl, rfl, by decide +kernel, by decide +kernel, by decide +kernel⟩ rfl rfl (fun U hU hW => EV_pass hE hS (va_free hD hS hA [1, 2, 3] rfl) hU hW) dX10_takeInner_16 rfl rfl (Nat.le_of_ble_eq_true rfl) ⟨Nat.le_of_ble_eq_true rfl, Nat.le_of_ble_eq_true rfl⟩ ⟨Nat.le_of_ble_eq_true rfl, Nat.le_of_ble_eq_true rfl⟩ (fun zu2 H locs hw2 hP9 hD9 hS9 => ?_)
  clear hP hD hS
  obtain ⟨ta2_3, ts2_4, tk2_5, tm2_6, tr2_7⟩ := zu2
  refine reW [wO d0 10 [.ref t0, .ref d1, .ref h0, .ref f0, .int (nI ow), .int wt, .int dt, .int vv, .int fq, .int pq], wO h0 4 [.ref h1, .ref h2, .ref h3, .ref h4, .ref h5, .ref h6, .ref h7, .ref h8, .ref h9, .ref h10, .ref h11, hv0, hv1, hv2, hv3, .int (nI un)], wO f0 3 [.ref f1, .ref f2, .int (nI nf), y3], wI (cy 1) f1 280 (fco), wO t0 9 [.ref t1, .ref t2, .int (nI tn), .int (nI ta2_3), .int (nI ts2_4), .int (nI tk2_5), .long tm2_6, .int tr2_7], wI (cy 0) t1 1600 (fby), (t2, .inl (cy 2, 24, .inr (.inl (fky))))] hP9 hD9 hS9 (fun hP hD hS => ?_)
  clear hP9 hD9 hS9
  refine W.widen (k := 0) (n := 0) (Nat.le_of_ble_eq_true rfl) (Nat.le_of_ble_eq_true rfl) ?_
  replace hw2 : (ta2_3 ≤ tn) ∧ (tk2_5 ≤ 123) ∧ (tkC fby tn (fin fby tn ga) ta2_3 ts2_4 tk2_5 tm2_6 tr2_7) := hw2
  obtain ⟨f_8, f_9, f_10⟩ := hw2
  refine lv_aload_n hx hb dX10_takeInner_19 rfl (lv_at hl 0 rfl) ?_
  refine lv_iload_n hx hb dX10_takeInner_20 rfl (lv_at hl 1 rfl) ?_
  refine lv_iconst (v := 1) hx hb dX10_takeInner_21 (by decide) ?_
  refine lv_iadd hx hb dX10_takeInner_22 ?_
  refine lv_topi (fun y_11 hy_11 => ?_)
  obtain rfl : y_11 = 7 := hy_11.trans (by decide +kernel)
  refine x_callVi (q := (RX10, TX10, 10)) (ci := 10) (q0 := 0) (wr := []) (rest := []) ⟨hx, hb, hml, hown, hg, hl.1⟩ k_X10_166 (s_takeEither7 l D cy adK adV d0 d1 wt dt vv fq pq t0 t1 t2 tn ta2_3 ts2_4 tk2_5 tm2_6 tr2_7 fby fky h0 h1 h2 h3 h4 h5 h6 h7 h8 h9 h10 h11 hv0 hv1 hv2 hv3 ow un f0 f1 f2 nf y3 fco (fin fby tn ga) (by omega) (by omega) (by omega) (f_10) (hky) (by omega) (hfc) (by omega) (by omega) (by omega) (by omega)) EV_blind hK hP hD hS hA [0, 4, 5, 6, 1, 2, 3] [] ⟨rfl, rfl, by decide +kernel, by decide +kernel, by decide +kernel⟩ rfl rfl (fun U hU hW => EV_pass hE hS (va_free hD hS hA [0, 4, 5, 6, 1, 2, 3] rfl) hU hW) dX10_takeInner_23 rfl rfl (Nat.le_of_ble_eq_true rfl) ⟨Nat.le_of_ble_eq_true rfl, Nat.le_of_ble_eq_true rfl⟩ ⟨Nat.le_of_ble_eq_true rfl, Nat.le_of_ble_eq_true rfl⟩ (fun zr12 zu12 H locs hw12 hP9 hD9 hS9 => ?_)
  clear hP hD hS
  obtain ⟨ta2_13, ts2_14, tk2_15, tm2_16, tr2_17, fq2_18, pq2_19, ow2_20, un2_21, nf2_22, fco2_23, ga2_24, nw2_25⟩ := zu12
  refine reW [wO d0 10 [.ref t0, .ref d1, .ref h0, .ref f0, .int (nI ow2_20), .int wt, .int dt, .int vv, .int fq2_18, .int pq2_19], wO t0 9 [.ref t1, .ref t2, .int (nI tn), .int (nI ta2_13), .int (nI ts2_14), .int (nI tk2_15), .long tm2_16, .int tr2_17], wI (cy 0) t1 1600 (fby), (t2, .inl (cy 2, 24, .inr (.inl (fky)))), wO h0 4 [.ref h1, .ref h2, .ref h3, .ref h4, .ref h5, .ref h6, .ref h7, .ref h8, .ref h9, .ref h10, .ref h11, hv0, hv1, hv2, hv3, .int (nI un2_21)], wO f0 3 [.ref f1, .ref f2, .int (nI nf2_22), y3], wI (cy 1) f1 280 (fco2_23)] hP9 hD9 hS9 (fun hP hD hS => ?_)
  clear hP9 hD9 hS9
  refine W.widen (k := 0) (n := 0) (Nat.le_of_ble_eq_true rfl) (Nat.le_of_ble_eq_true rfl) ?_
  replace hw12 : (ta2_13 ≤ tn) ∧ (tk2_15 ≤ 123) ∧ (nf2_22 ≤ 280) ∧ (cOK fco2_23 nf2_22) ∧ (ow2_20 ≤ 30) ∧ (un2_21 ≤ 60) ∧ ((zr12 = 1 ∧ (okS (knd fby tn) (fin fby tn) (cdF fby tn) 1 7 (fin fby tn ga) ow un ga2_24 ow2_20 un2_21 nw2_25) ∧ (fq = fq2_18) ∧ (pq = pq2_19) ∧ (tkC fby tn ga2_24 ta2_13 ts2_14 tk2_15 tm2_16 tr2_17) ∧ ((fin fby tn ga) < ga2_24 ∧ ga2_24 ≤ tn) ∧ (exC fco nf fco2_23 nf2_22 nw2_25) ∧ (nf2_22 + 2 * ow + 1 ≤ nf + 2 * ow2_20 ∧ ow < ow2_20)) ∨ (zr12 = 0 ∧ (noS (knd fby tn) (fin fby tn) 1 7 (fin fby tn ga) ow un ga2_24) ∧ (flt fby tn ga2_24 2 fq2_18 pq2_19))) := hw12
  obtain ⟨f_26, f_27, f_28, f_29, f_30, f_31, f_32⟩ := hw12
  rcases f_32 with ⟨hz_40, a_33, a_34, a_35, a_36, a_37, a_38, a_39⟩ | ⟨hz_43, a_41, a_42⟩
  · subst hz_40
    subst a_34
    subst a_35
    have hg_a_37 := a_37
    have hl_a_39 := a_39
    refine lv_if_eq (tgt := 42) hx hb dX10_takeInner_26 (by decide) (fun h => absurd h (by decide)) (fun _ => ?_)
    refine lv_aload_n hx hb dX10_takeInner_29 rfl (lv_at hl 0 rfl) ?_
    refine lv_bipush (v := 41) hx hb dX10_takeInner_30 (by decide) ?_
    refine x_callVi (q := (RX10, TX10, 10)) (ci := 10) (q0 := 0) (wr := [wO h0 4 [.ref h1, .ref h2, .ref h3, .ref h4, .ref h5, .ref h6, .ref h7, .ref h8, .ref h9, .ref h10, .ref h11, hv0, hv1, hv2, hv3, .int (nI un2_21)], wO f0 3 [.ref f1, .ref f2, .int (nI nf2_22), y3], wI (cy 1) f1 280 (fco2_23)]) (rest := []) ⟨hx, hb, hml, hown, hg, hl.1⟩ k_X10_128 (s_take l D cy adK adV d0 d1 (nI ow2_20) wt dt vv fq pq ((.ref h0)) ((.ref f0)) t0 t1 t2 tn ta2_13 ts2_14 tk2_15 tm2_16 tr2_17 fby fky ga2_24 41 (by omega) (by omega) (by omega) (a_36) (hky) (by omega)) EV_blind hK hP hD hS hA [0, 1, 2, 3] [4, 5, 6] ⟨rfl, rfl, by decide +kernel, by decide +kernel, by decide +kernel⟩ rfl rfl (fun U hU hW => EV_pass hE hS (va_free hD hS hA [0, 1, 2, 3] rfl) hU hW) dX10_takeInner_32 rfl rfl (Nat.le_of_ble_eq_true rfl) ⟨Nat.le_of_ble_eq_true rfl, Nat.le_of_ble_eq_true rfl⟩ ⟨Nat.le_of_ble_eq_true rfl, Nat.le_of_ble_eq_true rfl⟩ (fun zr44 zu44 H locs hw44 hP9 hD9 hS9 => ?_)
    clear hP hD hS
    obtain ⟨ta2_45, ts2_46, tk2_47, tm2_48, tr2_49, fq2_50, pq2_51, co9_52, b9_53⟩ := zu44
    refine reW [wO h0 4 [.ref h1, .ref h2, .ref h3, .ref h4, .ref h5, .ref h6, .ref h7, .ref h8, .ref h9, .ref h10, .ref h11, hv0, hv1, hv2, hv3, .int (nI un2_21)], wO f0 3 [.ref f1, .ref f2, .int (nI nf2_22), y3], wI (cy 1) f1 280 (fco2_23), wO d0 10 [.ref t0, .ref d1, .ref h0, .ref f0, .int (nI ow2_20), .int wt, .int dt, .int vv, .int fq2_50, .int pq2_51], wO t0 9 [.ref t1, .ref t2, .int (nI tn), .int (nI ta2_45), .int (nI ts2_46), .int (nI tk2_47), .long tm2_48, .int tr2_49], wI (cy 0) t1 1600 (fby), (t2, .inl (cy 2, 24, .inr (.inl (fky))))] hP9 hD9 hS9 (fun hP hD hS => ?_)
    clear hP9 hD9 hS9
    refine W.widen (k := 0) (n := 0) (Nat.le_of_ble_eq_true rfl) (Nat.le_of_ble_eq_true rfl) ?_
    replace hw44 : (ta2_45 ≤ tn) ∧ (tk2_47 ≤ 123) ∧ ((zr44 = 1 ∧ (takS fby tn 41 ga2_24 = .inr (fin fby tn ga2_24)) ∧ (fq = fq2_50) ∧ (pq = pq2_51) ∧ (tkC fby tn (fin fby tn ga2_24) ta2_45 ts2_46 tk2_47 tm2_48 tr2_49) ∧ (knd fby tn ga2_24 = 41)) ∨ (zr44 = 0 ∧ (takS fby tn 41 ga2_24 = .inl (co9_52, b9_53)) ∧ (flt fby tn b9_53 co9_52 fq2_50 pq2_51) ∧ (¬ knd fby tn ga2_24 = 41))) := hw44
    obtain ⟨f_54, f_55, f_56⟩ := hw44
    rcases f_56 with ⟨hz_62, a_57, a_58, a_59, a_60, a_61⟩ | ⟨hz_66, a_63, a_64, a_65⟩
    · subst hz_62
      subst a_58
      subst a_59
      have hgt_67 : ga2_24 < fin fby tn ga2_24 ∧ fin fby tn ga2_24 ≤ tn := ⟨fin_gt (by rw [a_61]; decide), fin_le (by omega)⟩
      refine lv_if_eq (tgt := 42) hx hb dX10_takeInner_35 (by decide) (fun h => absurd h (by decide)) (fun _ => ?_)
      refine lv_iconst (v := 1) hx hb dX10_takeInner_38 (by decide) ?_
      refine lv_goto (tgt := 43) hx hb dX10_takeInner_39 (by decide) ?_
      exact x_zret hQ hx hb hr hlocks hK hP hD hS rfl dX10_takeInner_43 (ta2_45, ts2_46, tk2_47, tm2_48, tr2_49, fq, pq, ow2_20, un2_21, nf2_22, fco2_23, fin fby tn ga2_24, nw2_25) (⟨(show ta2_45 ≤ tn from by omega), (show tk2_47 ≤ 123 from by omega), (show nf2_22 ≤ 280 from by omega), f_29, (show ow2_20 ≤ 30 from by omega), (show un2_21 ≤ 60 from by omega), (show ((1 : Int32) = 1 ∧ (∀ o9 u9 : Nat, ow = o9 + 1 → un = u9 + 1 → ¬ (u9 = 60 ∨ o9 = 30) → okS (knd fby tn) (fin fby tn) (cdF fby tn) 7 6 ga o9 u9 (fin fby tn ga2_24) ow2_20 un2_21 nw2_25) ∧ (fq = fq) ∧ (pq = pq) ∧ (tkC fby tn (fin fby tn ga2_24) ta2_45 ts2_46 tk2_47 tm2_48 tr2_49) ∧ (ga < (fin fby tn ga2_24) ∧ (fin fby tn ga2_24) ≤ tn) ∧ (exC fco nf fco2_23 nf2_22 nw2_25) ∧ (nf2_22 + 2 * ow + 1 ≤ nf + 2 * ow2_20 ∧ ow < ow2_20)) ∨ ((1 : Int32) = 0 ∧ (∀ o9 u9 : Nat, ow = o9 + 1 → un = u9 + 1 → ¬ (u9 = 60 ∨ o9 = 30) → noS (knd fby tn) (fin fby tn) 7 6 ga o9 u9 (fin fby tn ga2_24)) ∧ (flt fby tn (fin fby tn ga2_24) 2 fq pq)) from Or.inl ⟨rfl, (fun o9 u9 e1 e2 hf9 => by subst e1 e2; exact unit_in hk40 hf9 (by decide) a_33 a_61), (rfl), (rfl), (a_60), (⟨by omega, by omega⟩), (a_38), (⟨by omega, by omega⟩)⟩)⟩) [3, 4, 5, 6, 0, 1, 2] (by decide +kernel) rfl (Nat.le_of_ble_eq_true rfl) (Nat.le_of_ble_eq_true rfl)
    · subst hz_66
      refine lv_if_eq (tgt := 42) hx hb dX10_takeInner_35 (by decide) (fun _ => ?_) (fun h => absurd (by decide) h)
      refine lv_iconst (v := 0) hx hb dX10_takeInner_42 (by decide) ?_
      exact x_zret hQ hx hb hr hlocks hK hP hD hS rfl dX10_takeInner_43 (ta2_45, ts2_46, tk2_47, tm2_48, tr2_49, fq2_50, pq2_51, ow2_20, un2_21, nf2_22, fco2_23, ga2_24, []) (⟨(show ta2_45 ≤ tn from by omega), (show tk2_47 ≤ 123 from by omega), (show nf2_22 ≤ 280 from by omega), f_29, (show ow2_20 ≤ 30 from by omega), (show un2_21 ≤ 60 from by omega), (show ((0 : Int32) = 1 ∧ (∀ o9 u9 : Nat, ow = o9 + 1 → un = u9 + 1 → ¬ (u9 = 60 ∨ o9 = 30) → okS (knd fby tn) (fin fby tn) (cdF fby tn) 7 6 ga o9 u9 ga2_24 ow2_20 un2_21 ([])) ∧ (fq = fq2_50) ∧ (pq = pq2_51) ∧ (tkC fby tn ga2_24 ta2_45 ts2_46 tk2_47 tm2_48 tr2_49) ∧ (ga < ga2_24 ∧ ga2_24 ≤ tn) ∧ (exC fco nf fco2_23 nf2_22 ([])) ∧ (nf2_22 + 2 * ow + 1 ≤ nf + 2 * ow2_20 ∧ ow < ow2_20)) ∨ ((0 : Int32) = 0 ∧ (∀ o9 u9 : Nat, ow = o9 + 1 → un = u9 + 1 → ¬ (u9 = 60 ∨ o9 = 30) → noS (knd fby tn) (fin fby tn) 7 6 ga o9 u9 ga2_24) ∧ (flt fby tn ga2_24 2 fq2_50 pq2_51)) from Or.inr (⟨rfl, (fun o9 u9 e1 e2 hf9 => by subst e1 e2; exact unit_inB hk40 hf9 (by decide) a_33 a_65), (takS_f a_63 a_64)⟩))⟩) [3, 4, 5, 6, 0, 1, 2] (by decide +kernel) rfl (Nat.le_of_ble_eq_true rfl) (Nat.le_of_ble_eq_true rfl)
  · subst hz_43
    refine lv_if_eq (tgt := 42) hx hb dX10_takeInner_26 (by decide) (fun _ => ?_) (fun h => absurd (by decide) h)
    refine lv_iconst (v := 0) hx hb dX10_takeInner_42 (by decide) ?_
    exact x_zret hQ hx hb hr hlocks hK hP hD hS rfl dX10_takeInner_43 (ta2_13, ts2_14, tk2_15, tm2_16, tr2_17, fq2_18, pq2_19, ow2_20, un2_21, nf2_22, fco2_23, ga2_24, []) (⟨(show ta2_13 ≤ tn from by omega), (show tk2_15 ≤ 123 from by omega), (show nf2_22 ≤ 280 from by omega), f_29, (show ow2_20 ≤ 30 from by omega), (show un2_21 ≤ 60 from by omega), (show ((0 : Int32) = 1 ∧ (∀ o9 u9 : Nat, ow = o9 + 1 → un = u9 + 1 → ¬ (u9 = 60 ∨ o9 = 30) → okS (knd fby tn) (fin fby tn) (cdF fby tn) 7 6 ga o9 u9 ga2_24 ow2_20 un2_21 ([])) ∧ (fq = fq2_18) ∧ (pq = pq2_19) ∧ (tkC fby tn ga2_24 ta2_13 ts2_14 tk2_15 tm2_16 tr2_17) ∧ (ga < ga2_24 ∧ ga2_24 ≤ tn) ∧ (exC fco nf fco2_23 nf2_22 ([])) ∧ (nf2_22 + 2 * ow + 1 ≤ nf + 2 * ow2_20 ∧ ow < ow2_20)) ∨ ((0 : Int32) = 0 ∧ (∀ o9 u9 : Nat, ow = o9 + 1 → un = u9 + 1 → ¬ (u9 = 60 ∨ o9 = 30) → noS (knd fby tn) (fin fby tn) 7 6 ga o9 u9 ga2_24) ∧ (flt fby tn ga2_24 2 fq2_18 pq2_19)) from Or.inr (⟨rfl, (fun o9 u9 e1 e2 hf9 => by subst e1 e2; exact unit_inN hk40 hf9 (by decide) a_41), (a_42)⟩))⟩) [0, 1, 2, 3, 4, 5, 6] (by decide +kernel) rfl (Nat.le_of_ble_eq_true rfl) (Nat.le_of_ble_eq_true rfl)
set_option maxHeartbeats 1000000 in
set_option maxRecDepth 100000 in
theorem s_takeUnit6 (l : Launch) (D : va_G) (cy : Nat → ClassId) (adK : Nat → Nat) (adV : Nat → Nat) (d0 : Nat) (d1 : Nat) (wt : Int32) (dt : Int32) (vv : Int32) (fq : Int32) (pq : Int32) (t0 : Nat) (t1 : Nat) (t2 : Nat) (tn : Nat) (ta : Nat) (ts : Nat) (tk : Nat) (tm : Int64) (tr : Int32) (fby : Nat → Int32) (fky : Nat → Int64) (h0 : Nat) (h1 : Nat) (h2 : Nat) (h3 : Nat) (h4 : Nat) (h5 : Nat) (h6 : Nat) (h7 : Nat) (h8 : Nat) (h9 : Nat) (h10 : Nat) (h11 : Nat) (hv0 : Value) (hv1 : Value) (hv2 : Value) (hv3 : Value) (ow : Nat) (un : Nat) (f0 : Nat) (f1 : Nat) (f2 : Nat) (nf : Nat) (y3 : Value) (fco : Nat → Int32) (ga : Nat) (htn : tn ≤ 1600) (hta : ta ≤ tn) (htk : tk ≤ 123) (hti : tkC fby tn ga ta ts tk tm tr) (hky : kyOK fky) (hnf : nf ≤ 280) (hfc : cOK fco nf) (how : ow ≤ 30) (hun : un ≤ 60) (hga : ga ≤ tn) (hrm : nf + 90 ≤ 280 + 3 * ow) : XMi l D (tyL cy) (EV adK adV) yX10_takeUnit cX10_takeUnit 3 (some .boolean) (rmk 14 0 0) [.ref d0, .int 6] [wO d0 10 [.ref t0, .ref d1, .ref h0, .ref f0, .int (nI ow), .int wt, .int dt, .int vv, .int fq, .int pq], wO t0 9 [.ref t1, .ref t2, .int (nI tn), .int (nI ta), .int (nI ts), .int (nI tk), .long tm, .int tr], wI (cy 0) t1 1600 (fby), (t2, .inl (cy 2, 24, .inr (.inl (fky)))), wO h0 4 [.ref h1, .ref h2, .ref h3, .ref h4, .ref h5, .ref h6, .ref h7, .ref h8, .ref h9, .ref h10, .ref h11, hv0, hv1, hv2, hv3, .int (nI un)], wO f0 3 [.ref f1, .ref f2, .int (nI nf), y3], wI (cy 1) f1 280 (fco)] (fun (r : Int32) (u : Nat × Nat × Nat × Int64 × Int32 × Int32 × Int32 × Nat × Nat × Nat × (Nat → Int32) × Nat × (List Int32)) => (u.1 ≤ tn) ∧ (u.2.2.1 ≤ 123) ∧ (u.2.2.2.2.2.2.2.2.2.1 ≤ 280) ∧ (cOK u.2.2.2.2.2.2.2.2.2.2.1 u.2.2.2.2.2.2.2.2.2.1) ∧ (u.2.2.2.2.2.2.2.1 ≤ 30) ∧ (u.2.2.2.2.2.2.2.2.1 ≤ 60) ∧ ((r = 1 ∧ (okS (knd fby tn) (fin fby tn) (cdF fby tn) 7 6 ga ow un u.2.2.2.2.2.2.2.2.2.2.2.1 u.2.2.2.2.2.2.2.1 u.2.2.2.2.2.2.2.2.1 u.2.2.2.2.2.2.2.2.2.2.2.2) ∧ (fq = u.2.2.2.2.2.1) ∧ (pq = u.2.2.2.2.2.2.1) ∧ (tkC fby tn u.2.2.2.2.2.2.2.2.2.2.2.1 u.1 u.2.1 u.2.2.1 u.2.2.2.1 u.2.2.2.2.1) ∧ (ga < u.2.2.2.2.2.2.2.2.2.2.2.1 ∧ u.2.2.2.2.2.2.2.2.2.2.2.1 ≤ tn) ∧ (exC fco nf u.2.2.2.2.2.2.2.2.2.2.1 u.2.2.2.2.2.2.2.2.2.1 u.2.2.2.2.2.2.2.2.2.2.2.2) ∧ (u.2.2.2.2.2.2.2.2.2.1 + 3 * ow + 1 ≤ nf + 3 * u.2.2.2.2.2.2.2.1 ∧ ow < u.2.2.2.2.2.2.2.1)) ∨ (r = 0 ∧ (noS (knd fby tn) (fin fby tn) 7 6 ga ow un u.2.2.2.2.2.2.2.2.2.2.2.1) ∧ (flt fby tn u.2.2.2.2.2.2.2.2.2.2.2.1 2 u.2.2.2.2.2.1 u.2.2.2.2.2.2.1)))) (fun (u : Nat × Nat × Nat × Int64 × Int32 × Int32 × Int32 × Nat × Nat × Nat × (Nat → Int32) × Nat × (List Int32)) => [wO d0 10 [.ref t0, .ref d1, .ref h0, .ref f0, .int (nI u.2.2.2.2.2.2.2.1), .int wt, .int dt, .int vv, .int u.2.2.2.2.2.1, .int u.2.2.2.2.2.2.1], wO t0 9 [.ref t1, .ref t2, .int (nI tn), .int (nI u.1), .int (nI u.2.1), .int (nI u.2.2.1), .long u.2.2.2.1, .int u.2.2.2.2.1], wI (cy 0) t1 1600 (fby), (t2, .inl (cy 2, 24, .inr (.inl (fky)))), wO h0 4 [.ref h1, .ref h2, .ref h3, .ref h4, .ref h5, .ref h6, .ref h7, .ref h8, .ref h9, .ref h10, .ref h11, hv0, hv1, hv2, hv3, .int (nI u.2.2.2.2.2.2.2.2.1)], wO f0 3 [.ref f1, .ref f2, .int (nI u.2.2.2.2.2.2.2.2.2.1), y3], wI (cy 1) f1 280 (u.2.2.2.2.2.2.2.2.2.2.1)]) := by
  refine XMi.start (by decide) (Nat.le_of_ble_eq_true rfl) ?_
  intro p e s m below meth c args A ls Q hat hQ
  obtain ⟨hx, hb, hr, hml, hown, hg, hlocks, hin, hK, hA, hP, hD, hS, hE, hl⟩ := hat
  have hown : s.vm.findClass RX10 = some m.cls := hown
  have hl : lv_has ls 3 [(0, .ref d0), (1, .int 6)] := hl
  refine lv_aload_n hx hb dX10_takeUnit_0 rfl (lv_at hl 0 rfl) ?_
  refine va_get (D := D) (ci := 10) (v := .int (nI ow)) (C := RX10) (T := TX10) (N := 10) hx hb hg i_X10 hown hK hP 0 rfl rfl 4 (by decide) (hg _ m_259) (fun _ h9 => h9) rfl dX10_takeUnit_1 ?_
  refine lv_bipush (v := 30) hx hb dX10_takeUnit_4 (by decide) ?_
  refine lv_icmp_ge (tgt := 21) hx hb dX10_takeUnit_6 (by decide) (fun c_1 => ?_) (fun c_1 => ?_)
  · have q_2 : 30 ≤ ow := q_le (a := 30) (b := ow) rfl rfl (by omega) (by omega) c_1
    refine lv_aload_n hx hb dX10_takeUnit_21 rfl (lv_at hl 0 rfl) ?_
    refine lv_iconst (v := 2) hx hb dX10_takeUnit_22 (by decide) ?_
    refine x_callVi (q := (RX10, TX10, 10)) (ci := 10) (q0 := 0) (wr := [wI (cy 0) t1 1600 (fby), (t2, .inl (cy 2, 24, .inr (.inl (fky)))), wO h0 4 [.ref h1, .ref h2, .ref h3, .ref h4, .ref h5, .ref h6, .ref h7, .ref h8, .ref h9, .ref h10, .ref h11, hv0, hv1, hv2, hv3, .int (nI un)], wO f0 3 [.ref f1, .ref f2, .int (nI nf), y3], wI (cy 1) f1 280 (fco)]) (rest := []) ⟨hx, hb, hml, hown, hg, hl.1⟩ k_X10_110 (s_fail l D cy d0 d1 (nI ow) wt dt vv fq pq ((.ref h0)) ((.ref f0)) t0 t1 t2 tn ta ts tk tm tr 2 (by omega)) E0_blind hK hP hD hS hA [0, 1] [2, 3, 4, 5, 6] ⟨rfl, rfl, by decide +kernel, by decide +kernel, by decide +kernel⟩ rfl rfl (fun _ _ _ => trivial) dX10_takeUnit_23 rfl rfl (Nat.le_of_ble_eq_true rfl) ⟨Nat.le_of_ble_eq_true rfl, Nat.le_of_ble_eq_true rfl⟩ ⟨Nat.le_of_ble_eq_true rfl, Nat.le_of_ble_eq_true rfl⟩ (fun zr3 zu3 H locs hw3 hP9 hD9 hS9 => ?_)
    clear hP hD hS
    obtain ⟨fq2_4, pq2_5⟩ := zu3
    refine reW [wI (cy 0) t1 1600 (fby), (t2, .inl (cy 2, 24, .inr (.inl (fky)))), wO h0 4 [.ref h1, .ref h2, .ref h3, .ref h4, .ref h5, .ref h6, .ref h7, .ref h8, .ref h9, .ref h10, .ref h11, hv0, hv1, hv2, hv3, .int (nI un)], wO f0 3 [.ref f1, .ref f2, .int (nI nf), y3], wI (cy 1) f1 280 (fco), wO d0 10 [.ref t0, .ref d1, .ref h0, .ref f0, .int (nI ow), .int wt, .int dt, .int vv, .int fq2_4, .int pq2_5], wO t0 9 [.ref t1, .ref t2, .int (nI tn), .int (nI ta), .int (nI ts), .int (nI tk), .long tm, .int tr]] hP9 hD9 hS9 (fun hP hD hS => ?_)
    clear hP9 hD9 hS9
    refine W.widen (k := 0) (n := 0) (Nat.le_of_ble_eq_true rfl) (Nat.le_of_ble_eq_true rfl) ?_
    replace hw3 : ((zr3 = 0 ∧ (fq2_4 = nI (if tk = 3 then 1 else 2)) ∧ (pq2_5 = nI ts))) := hw3
    have f_6 := hw3
    rcases f_6 with ⟨hz_9, a_7, a_8⟩
    subst hz_9
    exact x_zret hQ hx hb hr hlocks hK hP hD hS rfl dX10_takeUnit_26 (ta, ts, tk, tm, tr, fq2_4, pq2_5, ow, un, nf, fco, ga, []) (⟨(show ta ≤ tn from by omega), (show tk ≤ 123 from by omega), (show nf ≤ 280 from by omega), hfc, (show ow ≤ 30 from by omega), (show un ≤ 60 from by omega), (show ((0 : Int32) = 1 ∧ (okS (knd fby tn) (fin fby tn) (cdF fby tn) 7 6 ga ow un ga ow un ([])) ∧ (fq = fq2_4) ∧ (pq = pq2_5) ∧ (tkC fby tn ga ta ts tk tm tr) ∧ (ga < ga ∧ ga ≤ tn) ∧ (exC fco nf fco nf ([])) ∧ (nf + 3 * ow + 1 ≤ nf + 3 * ow ∧ ow < ow)) ∨ ((0 : Int32) = 0 ∧ (noS (knd fby tn) (fin fby tn) 7 6 ga ow un ga) ∧ (flt fby tn ga 2 fq2_4 pq2_5)) from Or.inr (⟨rfl, (unit_full (by omega)), (flt_of hti a_7 a_8)⟩))⟩) [5, 6, 0, 1, 2, 3, 4] (by decide +kernel) rfl (Nat.le_of_ble_eq_true rfl) (Nat.le_of_ble_eq_true rfl)
  · have q_2 : ow < 30 := q_nle (a := 30) (b := ow) rfl rfl (by omega) (by omega) c_1
    refine lv_aload_n hx hb dX10_takeUnit_9 rfl (lv_at hl 0 rfl) ?_
    refine va_get (D := D) (ci := 10) (v := .ref h0) (C := RX10) (T := TX10) (N := 10) hx hb hg i_X10 hown hK hP 0 rfl rfl 2 (by decide) (hg _ m_257) (fun _ h9 => h9) rfl dX10_takeUnit_10 ?_
    refine va_get (D := D) (ci := 4) (v := .int (nI un)) (C := RX4) (T := TX4) (N := 16) hx hb hg i_X4 hown hK hP 4 rfl rfl 15 (by decide) (hg _ m_382) (fun _ h9 => h9) rfl dX10_takeUnit_13 ?_
    refine lv_bipush (v := 60) hx hb dX10_takeUnit_16 (by decide) ?_
    refine lv_icmp_lt (tgt := 27) hx hb dX10_takeUnit_18 (by decide) (fun c_10 => ?_) (fun c_10 => ?_)
    · have q_11 : un < 60 := q_lt (a := un) (b := 60) rfl rfl (by omega) (by omega) c_10
      refine lv_aload_n hx hb dX10_takeUnit_27 rfl (lv_at hl 0 rfl) ?_
      refine lv_dup hx hb dX10_takeUnit_28 rfl ?_
      refine va_get (D := D) (ci := 10) (v := .int (nI ow)) (C := RX10) (T := TX10) (N := 10) hx hb hg i_X10 hown hK hP 0 rfl rfl 4 (by decide) (hg _ m_259) (fun _ h9 => h9) rfl dX10_takeUnit_29 ?_
      refine lv_iconst (v := 1) hx hb dX10_takeUnit_32 (by decide) ?_
      refine lv_iadd hx hb dX10_takeUnit_33 ?_
      refine lv_topi (fun y_12 hy_12 => ?_)
      obtain rfl : y_12 = nI (ow + 1) := hy_12.trans (nI_add ow 1)
      refine va_put (D := D) (ci := 10) (v := .int (nI (ow + 1))) (ty := .int) (C := RX10) (T := TX10) (N := 10) hx hb hg i_X10 tyX10 tyX10_ok nmX10 hown hK hP hD hS 0 rfl rfl 4 (by decide) (hg _ m_259) (fun _ h9 => h9) rfl (by decide +kernel) rfl rfl (Nat.le_of_ble_eq_true rfl) dX10_takeUnit_34 (fun H locs hP9 hD9 hS9 => ?_)
      clear hP hD hS
      refine reW [wO d0 10 [.ref t0, .ref d1, .ref h0, .ref f0, .int (nI (ow + 1)), .int wt, .int dt, .int vv, .int fq, .int pq], wO t0 9 [.ref t1, .ref t2, .int (nI tn), .int (nI ta), .int (nI ts), .int (nI tk), .long tm, .int tr], wI (cy 0) t1 1600 (fby), (t2, .inl (cy 2, 24, .inr (.inl (fky)))), wO h0 4 [.ref h1, .ref h2, .ref h3, .ref h4, .ref h5, .ref h6, .ref h7, .ref h8, .ref h9, .ref h10, .ref h11, hv0, hv1, hv2, hv3, .int (nI un)], wO f0 3 [.ref f1, .ref f2, .int (nI nf), y3], wI (cy 1) f1 280 (fco)] hP9 hD9 hS9 (fun hP hD hS => ?_)
      clear hP9 hD9 hS9
      refine lv_aload_n hx hb dX10_takeUnit_37 rfl (lv_at hl 0 rfl) ?_
      refine va_get (D := D) (ci := 10) (v := .ref h0) (C := RX10) (T := TX10) (N := 10) hx hb hg i_X10 hown hK hP 0 rfl rfl 2 (by decide) (hg _ m_257) (fun _ h9 => h9) rfl dX10_takeUnit_38 ?_
      refine lv_dup hx hb dX10_takeUnit_41 rfl ?_
      refine va_get (D := D) (ci := 4) (v := .int (nI un)) (C := RX4) (T := TX4) (N := 16) hx hb hg i_X4 hown hK hP 4 rfl rfl 15 (by decide) (hg _ m_382) (fun _ h9 => h9) rfl dX10_takeUnit_42 ?_
      refine lv_iconst (v := 1) hx hb dX10_takeUnit_45 (by decide) ?_
      refine lv_iadd hx hb dX10_takeUnit_46 ?_
      refine lv_topi (fun y_13 hy_13 => ?_)
      obtain rfl : y_13 = nI (un + 1) := hy_13.trans (nI_add un 1)
      refine va_put (D := D) (ci := 4) (v := .int (nI (un + 1))) (ty := .int) (C := RX4) (T := TX4) (N := 16) hx hb hg i_X4 tyX4 tyX4_ok nmX4 hown hK hP hD hS 4 rfl rfl 15 (by decide) (hg _ m_382) (fun _ h9 => h9) rfl (by decide +kernel) rfl rfl (Nat.le_of_ble_eq_true rfl) dX10_takeUnit_47 (fun H locs hP9 hD9 hS9 => ?_)
      clear hP hD hS
      refine reW [wO d0 10 [.ref t0, .ref d1, .ref h0, .ref f0, .int (nI (ow + 1)), .int wt, .int dt, .int vv, .int fq, .int pq], wO t0 9 [.ref t1, .ref t2, .int (nI tn), .int (nI ta), .int (nI ts), .int (nI tk), .long tm, .int tr], wI (cy 0) t1 1600 (fby), (t2, .inl (cy 2, 24, .inr (.inl (fky)))), wO h0 4 [.ref h1, .ref h2, .ref h3, .ref h4, .ref h5, .ref h6, .ref h7, .ref h8, .ref h9, .ref h10, .ref h11, hv0, hv1, hv2, hv3, .int (nI (un + 1))], wO f0 3 [.ref f1, .ref f2, .int (nI nf), y3], wI (cy 1) f1 280 (fco)] hP9 hD9 hS9 (fun hP hD hS => ?_)
      clear hP9 hD9 hS9
      refine lv_aload_n hx hb dX10_takeUnit_50 rfl (lv_at hl 0 rfl) ?_
      refine va_get (D := D) (ci := 10) (v := .ref t0) (C := RX10) (T := TX10) (N := 10) hx hb hg i_X10 hown hK hP 0 rfl rfl 0 (by decide) (hg _ m_255) (fun _ h9 => h9) rfl dX10_takeUnit_51 ?_
      refine va_get (D := D) (ci := 9) (v := .int (nI tk)) (C := RX9) (T := TX9) (N := 8) hx hb hg i_X9 hown hK hP 1 rfl rfl 5 (by decide) (hg _ m_222) (fun _ h9 => h9) rfl dX10_takeUnit_54 ?_
      refine lv_bipush (v := 40) hx hb dX10_takeUnit_57 (by decide) ?_
      refine lv_icmp_ne (tgt := 68) hx hb dX10_takeUnit_59 (by decide) (fun c_14 => ?_) (fun c_14 => ?_)
      · have q_15 : ¬ tk = 40 := q_ne (a := tk) (b := 40) rfl rfl (by omega) (by omega) c_14
        refine lv_aload_n hx hb dX10_takeUnit_68 rfl (lv_at hl 0 rfl) ?_
        refine va_get (D := D) (ci := 10) (v := .ref t0) (C := RX10) (T := TX10) (N := 10) hx hb hg i_X10 hown hK hP 0 rfl rfl 0 (by decide) (hg _ m_255) (fun _ h9 => h9) rfl dX10_takeUnit_69 ?_
        refine va_get (D := D) (ci := 9) (v := .int (nI tk)) (C := RX9) (T := TX9) (N := 8) hx hb hg i_X9 hown hK hP 1 rfl rfl 5 (by decide) (hg _ m_222) (fun _ h9 => h9) rfl dX10_takeUnit_72 ?_
        refine x_callSi (wr := [wO d0 10 [.ref t0, .ref d1, .ref h0, .ref f0, .int (nI (ow + 1)), .int wt, .int dt, .int vv, .int fq, .int pq], wO t0 9 [.ref t1, .ref t2, .int (nI tn), .int (nI ta), .int (nI ts), .int (nI tk), .long tm, .int tr], wI (cy 0) t1 1600 (fby), (t2, .inl (cy 2, 24, .inr (.inl (fky)))), wO h0 4 [.ref h1, .ref h2, .ref h3, .ref h4, .ref h5, .ref h6, .ref h7, .ref h8, .ref h9, .ref h10, .ref h11, hv0, hv1, hv2, hv3, .int (nI (un + 1))], wO f0 3 [.ref f1, .ref f2, .int (nI nf), y3], wI (cy 1) f1 280 (fco)]) (rest := []) ⟨hx, hb, hml, hown, hg, hl.1⟩ k_X10_210 (s_factOf l D cy tk (by omega)) E0_blind hK hP hD hS hA [] [0, 1, 2, 3, 4, 5, 6] ⟨rfl, rfl, by decide +kernel, by decide +kernel, by decide +kernel⟩ (fun _ _ _ => trivial) dX10_takeUnit_75 rfl rfl (Nat.le_of_ble_eq_true rfl) ⟨Nat.le_of_ble_eq_true rfl, Nat.le_of_ble_eq_true rfl⟩ ⟨Nat.le_of_ble_eq_true rfl, Nat.le_of_ble_eq_true rfl⟩ (fun zr16 zu16 H locs hw16 hP9 hD9 hS9 => ?_)
        clear hP hD hS
        obtain ⟨jr_17, rfl⟩ : ∃ z, z = zu16 := ⟨_, rfl⟩
        refine reW [wO d0 10 [.ref t0, .ref d1, .ref h0, .ref f0, .int (nI (ow + 1)), .int wt, .int dt, .int vv, .int fq, .int pq], wO t0 9 [.ref t1, .ref t2, .int (nI tn), .int (nI ta), .int (nI ts), .int (nI tk), .long tm, .int tr], wI (cy 0) t1 1600 (fby), (t2, .inl (cy 2, 24, .inr (.inl (fky)))), wO h0 4 [.ref h1, .ref h2, .ref h3, .ref h4, .ref h5, .ref h6, .ref h7, .ref h8, .ref h9, .ref h10, .ref h11, hv0, hv1, hv2, hv3, .int (nI (un + 1))], wO f0 3 [.ref f1, .ref f2, .int (nI nf), y3], wI (cy 1) f1 280 (fco)] hP9 hD9 hS9 (fun hP hD hS => ?_)
        clear hP9 hD9 hS9
        refine W.widen (k := 0) (n := 0) (Nat.le_of_ble_eq_true rfl) (Nat.le_of_ble_eq_true rfl) ?_
        replace hw16 : ((zr16 = nI jr_17 ∧ (jr_17 ≤ 6) ∧ (tk = 117 + jr_17)) ∨ (zr16 = -1 ∧ (¬ 117 ≤ tk))) := hw16
        have f_18 := hw16
        rcases f_18 with ⟨hz_21, a_19, a_20⟩ | ⟨hz_23, a_22⟩
        · subst hz_21
          refine lv_istore_n (lv' := [(2, .int (nI jr_17)), (0, .ref d0), (1, .int 6)]) hx hb dX10_takeUnit_78 rfl hl (by decide) rfl (fun ls hl => ?_)
          refine lv_iload_n hx hb dX10_takeUnit_79 rfl (lv_at hl 0 rfl) ?_
          refine lv_iconst (v := -1) hx hb dX10_takeUnit_80 (by decide) ?_
          refine lv_icmp_eq (tgt := 95) hx hb dX10_takeUnit_81 (by decide) (fun h => absurd h (nI_nneg (by omega) (by decide))) (fun _ => ?_)
          have hk117 : 117 ≤ knd fby tn ga := by have h9 := hti.2.2.1; omega
          have hkj : knd fby tn ga = 117 + jr_17 := by have h9 := hti.2.2.1; omega
          refine lv_aload_n hx hb dX10_takeUnit_84 rfl (lv_at hl 1 rfl) ?_
          refine va_get (D := D) (ci := 10) (v := .ref f0) (C := RX10) (T := TX10) (N := 10) hx hb hg i_X10 hown hK hP 0 rfl rfl 3 (by decide) (hg _ m_258) (fun _ h9 => h9) rfl dX10_takeUnit_85 ?_
          refine lv_iload_n hx hb dX10_takeUnit_88 rfl (lv_at hl 0 rfl) ?_
          refine x_callVv (q := (RX3, TX3, 4)) (ci := 3) (q0 := 0) (wr := [wO d0 10 [.ref t0, .ref d1, .ref h0, .ref f0, .int (nI (ow + 1)), .int wt, .int dt, .int vv, .int fq, .int pq], wO t0 9 [.ref t1, .ref t2, .int (nI tn), .int (nI ta), .int (nI ts), .int (nI tk), .long tm, .int tr], wI (cy 0) t1 1600 (fby), (t2, .inl (cy 2, 24, .inr (.inl (fky)))), wO h0 4 [.ref h1, .ref h2, .ref h3, .ref h4, .ref h5, .ref h6, .ref h7, .ref h8, .ref h9, .ref h10, .ref h11, hv0, hv1, hv2, hv3, .int (nI (un + 1))]]) (rest := []) ⟨hx, hb, hml, hown, hg, hl.1⟩ k_X10_213 (s_addFact9 l D cy f0 f1 f2 nf y3 fco jr_17 (by omega) (hfc) (by omega)) E0_blind hK hP hD hS hA [5, 6] [0, 1, 2, 3, 4] ⟨rfl, rfl, by decide +kernel, by decide +kernel, by decide +kernel⟩ rfl rfl (fun _ _ _ => trivial) dX10_takeUnit_89 rfl rfl (Nat.le_of_ble_eq_true rfl) ⟨Nat.le_of_ble_eq_true rfl, Nat.le_of_ble_eq_true rfl⟩ ⟨Nat.le_of_ble_eq_true rfl, Nat.le_of_ble_eq_true rfl⟩ (fun zu24 H locs hw24 hP9 hD9 hS9 => ?_)
          clear hP hD hS
          obtain ⟨n2_25, fc2_26⟩ := zu24
          refine reW [wO d0 10 [.ref t0, .ref d1, .ref h0, .ref f0, .int (nI (ow + 1)), .int wt, .int dt, .int vv, .int fq, .int pq], wO t0 9 [.ref t1, .ref t2, .int (nI tn), .int (nI ta), .int (nI ts), .int (nI tk), .long tm, .int tr], wI (cy 0) t1 1600 (fby), (t2, .inl (cy 2, 24, .inr (.inl (fky)))), wO h0 4 [.ref h1, .ref h2, .ref h3, .ref h4, .ref h5, .ref h6, .ref h7, .ref h8, .ref h9, .ref h10, .ref h11, hv0, hv1, hv2, hv3, .int (nI (un + 1))], wO f0 3 [.ref f1, .ref f2, .int (nI n2_25), y3], wI (cy 1) f1 280 (fc2_26)] hP9 hD9 hS9 (fun hP hD hS => ?_)
          clear hP9 hD9 hS9
          refine W.widen (k := 0) (n := 0) (Nat.le_of_ble_eq_true rfl) (Nat.le_of_ble_eq_true rfl) ?_
          replace hw24 : (n2_25 = nf + 1) ∧ (cOK fc2_26 n2_25) ∧ (exC fco nf fc2_26 n2_25 [nI (10000 + jr_17)]) := hw24
          obtain ⟨f_27, f_28, f_29⟩ := hw24
          refine lv_goto (tgt := 129) hx hb dX10_takeUnit_92 (by decide) ?_
          have hgt_30 : ga < fin fby tn ga ∧ fin fby tn ga ≤ tn := ⟨fin_gt (by have h9 := hti.2.2.1; omega), fin_le (by omega)⟩
          refine lv_aload_n hx hb dX10_takeUnit_129 rfl (lv_at hl 1 rfl) ?_
          refine va_get (D := D) (ci := 10) (v := .ref t0) (C := RX10) (T := TX10) (N := 10) hx hb hg i_X10 hown hK hP 0 rfl rfl 0 (by decide) (hg _ m_255) (fun _ h9 => h9) rfl dX10_takeUnit_130 ?_
          refine x_callVv (q := (RX9, TX9, 8)) (ci := 9) (q0 := 0) (wr := [wO d0 10 [.ref t0, .ref d1, .ref h0, .ref f0, .int (nI (ow + 1)), .int wt, .int dt, .int vv, .int fq, .int pq], wO h0 4 [.ref h1, .ref h2, .ref h3, .ref h4, .ref h5, .ref h6, .ref h7, .ref h8, .ref h9, .ref h10, .ref h11, hv0, hv1, hv2, hv3, .int (nI (un + 1))], wO f0 3 [.ref f1, .ref f2, .int (nI n2_25), y3], wI (cy 1) f1 280 (fc2_26)]) (rest := []) ⟨hx, hb, hml, hown, hg, hl.1⟩ k_X10_140 (s_next l D cy adK adV t0 t1 t2 tn ta ts tk tm tr fby fky (fin fby tn ga) (by omega) (by omega) (hti.2.1) (hky)) EV_blind hK hP hD hS hA [1, 2, 3] [0, 4, 5, 6] ⟨rfl, rfl, by decide +kernel, by decide +kernel, by decide +kernel⟩ rfl rfl (fun U hU hW => EV_pass hE hS (va_free hD hS hA [1, 2, 3] rfl) hU hW) dX10_takeUnit_133 rfl rfl (Nat.le_of_ble_eq_true rfl) ⟨Nat.le_of_ble_eq_true rfl, Nat.le_of_ble_eq_true rfl⟩ ⟨Nat.le_of_ble_eq_true rfl, Nat.le_of_ble_eq_true rfl⟩ (fun zu31 H locs hw31 hP9 hD9 hS9 => ?_)
          clear hP hD hS
          obtain ⟨ta2_32, ts2_33, tk2_34, tm2_35, tr2_36⟩ := zu31
          refine reW [wO d0 10 [.ref t0, .ref d1, .ref h0, .ref f0, .int (nI (ow + 1)), .int wt, .int dt, .int vv, .int fq, .int pq], wO h0 4 [.ref h1, .ref h2, .ref h3, .ref h4, .ref h5, .ref h6, .ref h7, .ref h8, .ref h9, .ref h10, .ref h11, hv0, hv1, hv2, hv3, .int (nI (un + 1))], wO f0 3 [.ref f1, .ref f2, .int (nI n2_25), y3], wI (cy 1) f1 280 (fc2_26), wO t0 9 [.ref t1, .ref t2, .int (nI tn), .int (nI ta2_32), .int (nI ts2_33), .int (nI tk2_34), .long tm2_35, .int tr2_36], wI (cy 0) t1 1600 (fby), (t2, .inl (cy 2, 24, .inr (.inl (fky))))] hP9 hD9 hS9 (fun hP hD hS => ?_)
          clear hP9 hD9 hS9
          refine W.widen (k := 0) (n := 0) (Nat.le_of_ble_eq_true rfl) (Nat.le_of_ble_eq_true rfl) ?_
          replace hw31 : (ta2_32 ≤ tn) ∧ (tk2_34 ≤ 123) ∧ (tkC fby tn (fin fby tn ga) ta2_32 ts2_33 tk2_34 tm2_35 tr2_36) := hw31
          obtain ⟨f_37, f_38, f_39⟩ := hw31
          refine lv_iconst (v := 1) hx hb dX10_takeUnit_136 (by decide) ?_
          exact x_zret hQ hx hb hr hlocks hK hP hD hS rfl dX10_takeUnit_137 (ta2_32, ts2_33, tk2_34, tm2_35, tr2_36, fq, pq, (ow + 1), (un + 1), n2_25, fc2_26, fin fby tn ga, [cdF fby tn ga]) (⟨(show ta2_32 ≤ tn from by omega), (show tk2_34 ≤ 123 from by omega), (show n2_25 ≤ 280 from by omega), f_28, (show ((ow + 1)) ≤ 30 from by omega), (show ((un + 1)) ≤ 60 from by omega), (show ((1 : Int32) = 1 ∧ (okS (knd fby tn) (fin fby tn) (cdF fby tn) 7 6 ga ow un (fin fby tn ga) ((ow + 1)) ((un + 1)) ([cdF fby tn ga])) ∧ (fq = fq) ∧ (pq = pq) ∧ (tkC fby tn (fin fby tn ga) ta2_32 ts2_33 tk2_34 tm2_35 tr2_36) ∧ (ga < (fin fby tn ga) ∧ (fin fby tn ga) ≤ tn) ∧ (exC fco nf fc2_26 n2_25 ([cdF fby tn ga])) ∧ (n2_25 + 3 * ow + 1 ≤ nf + 3 * ((ow + 1)) ∧ ow < ((ow + 1)))) ∨ ((1 : Int32) = 0 ∧ (noS (knd fby tn) (fin fby tn) 7 6 ga ow un (fin fby tn ga)) ∧ (flt fby tn (fin fby tn ga) 2 fq pq)) from Or.inl ⟨rfl, (unit_one (psh_cd (Or.inr hk117)) (by omega) (Or.inr hk117)), (rfl), (rfl), (f_39), (⟨by omega, by omega⟩), ((exC_cf f_29 hkj)), (⟨by omega, by omega⟩)⟩)⟩) [0, 4, 5, 6, 1, 2, 3] (by decide +kernel) rfl (Nat.le_of_ble_eq_true rfl) (Nat.le_of_ble_eq_true rfl)
        · subst hz_23
          refine lv_istore_n (lv' := [(2, .int (-1)), (0, .ref d0), (1, .int 6)]) hx hb dX10_takeUnit_78 rfl hl (by decide) rfl (fun ls hl => ?_)
          refine lv_iload_n hx hb dX10_takeUnit_79 rfl (lv_at hl 0 rfl) ?_
          refine lv_iconst (v := -1) hx hb dX10_takeUnit_80 (by decide) ?_
          refine lv_icmp_eq (tgt := 95) hx hb dX10_takeUnit_81 (by decide) (fun _ => ?_) (fun h => absurd (by decide) h)
          refine lv_aload_n hx hb dX10_takeUnit_95 rfl (lv_at hl 1 rfl) ?_
          refine va_get (D := D) (ci := 10) (v := .ref t0) (C := RX10) (T := TX10) (N := 10) hx hb hg i_X10 hown hK hP 0 rfl rfl 0 (by decide) (hg _ m_255) (fun _ h9 => h9) rfl dX10_takeUnit_96 ?_
          refine va_get (D := D) (ci := 9) (v := .int (nI tk)) (C := RX9) (T := TX9) (N := 8) hx hb hg i_X9 hown hK hP 1 rfl rfl 5 (by decide) (hg _ m_222) (fun _ h9 => h9) rfl dX10_takeUnit_99 ?_
          refine lv_iconst (v := 2) hx hb dX10_takeUnit_102 (by decide) ?_
          refine lv_icmp_ne (tgt := 123) hx hb dX10_takeUnit_103 (by decide) (fun c_40 => ?_) (fun c_40 => ?_)
          · have q_41 : ¬ tk = 2 := q_ne (a := tk) (b := 2) rfl rfl (by omega) (by omega) c_40
            refine lv_aload_n hx hb dX10_takeUnit_123 rfl (lv_at hl 1 rfl) ?_
            refine lv_iconst (v := 2) hx hb dX10_takeUnit_124 (by decide) ?_
            refine x_callVi (q := (RX10, TX10, 10)) (ci := 10) (q0 := 0) (wr := [wI (cy 0) t1 1600 (fby), (t2, .inl (cy 2, 24, .inr (.inl (fky)))), wO h0 4 [.ref h1, .ref h2, .ref h3, .ref h4, .ref h5, .ref h6, .ref h7, .ref h8, .ref h9, .ref h10, .ref h11, hv0, hv1, hv2, hv3, .int (nI (un + 1))], wO f0 3 [.ref f1, .ref f2, .int (nI nf), y3], wI (cy 1) f1 280 (fco)]) (rest := []) ⟨hx, hb, hml, hown, hg, hl.1⟩ k_X10_110 (s_fail l D cy d0 d1 (nI (ow + 1)) wt dt vv fq pq ((.ref h0)) ((.ref f0)) t0 t1 t2 tn ta ts tk tm tr 2 (by omega)) E0_blind hK hP hD hS hA [0, 1] [2, 3, 4, 5, 6] ⟨rfl, rfl, by decide +kernel, by decide +kernel, by decide +kernel⟩ rfl rfl (fun _ _ _ => trivial) dX10_takeUnit_125 rfl rfl (Nat.le_of_ble_eq_true rfl) ⟨Nat.le_of_ble_eq_true rfl, Nat.le_of_ble_eq_true rfl⟩ ⟨Nat.le_of_ble_eq_true rfl, Nat.le_of_ble_eq_true rfl⟩ (fun zr42 zu42 H locs hw42 hP9 hD9 hS9 => ?_)
            clear hP hD hS
            obtain ⟨fq2_43, pq2_44⟩ := zu42
            refine reW [wI (cy 0) t1 1600 (fby), (t2, .inl (cy 2, 24, .inr (.inl (fky)))), wO h0 4 [.ref h1, .ref h2, .ref h3, .ref h4, .ref h5, .ref h6, .ref h7, .ref h8, .ref h9, .ref h10, .ref h11, hv0, hv1, hv2, hv3, .int (nI (un + 1))], wO f0 3 [.ref f1, .ref f2, .int (nI nf), y3], wI (cy 1) f1 280 (fco), wO d0 10 [.ref t0, .ref d1, .ref h0, .ref f0, .int (nI (ow + 1)), .int wt, .int dt, .int vv, .int fq2_43, .int pq2_44], wO t0 9 [.ref t1, .ref t2, .int (nI tn), .int (nI ta), .int (nI ts), .int (nI tk), .long tm, .int tr]] hP9 hD9 hS9 (fun hP hD hS => ?_)
            clear hP9 hD9 hS9
            refine W.widen (k := 0) (n := 0) (Nat.le_of_ble_eq_true rfl) (Nat.le_of_ble_eq_true rfl) ?_
            replace hw42 : ((zr42 = 0 ∧ (fq2_43 = nI (if tk = 3 then 1 else 2)) ∧ (pq2_44 = nI ts))) := hw42
            have f_45 := hw42
            rcases f_45 with ⟨hz_48, a_46, a_47⟩
            subst hz_48
            exact x_zret hQ hx hb hr hlocks hK hP hD hS rfl dX10_takeUnit_128 (ta, ts, tk, tm, tr, fq2_43, pq2_44, (ow + 1), (un + 1), nf, fco, ga, []) (⟨(show ta ≤ tn from by omega), (show tk ≤ 123 from by omega), (show nf ≤ 280 from by omega), hfc, (show ((ow + 1)) ≤ 30 from by omega), (show ((un + 1)) ≤ 60 from by omega), (show ((0 : Int32) = 1 ∧ (okS (knd fby tn) (fin fby tn) (cdF fby tn) 7 6 ga ow un ga ((ow + 1)) ((un + 1)) ([])) ∧ (fq = fq2_43) ∧ (pq = pq2_44) ∧ (tkC fby tn ga ta ts tk tm tr) ∧ (ga < ga ∧ ga ≤ tn) ∧ (exC fco nf fco nf ([])) ∧ (nf + 3 * ow + 1 ≤ nf + 3 * ((ow + 1)) ∧ ow < ((ow + 1)))) ∨ ((0 : Int32) = 0 ∧ (noS (knd fby tn) (fin fby tn) 7 6 ga ow un ga) ∧ (flt fby tn ga 2 fq2_43 pq2_44)) from Or.inr (⟨rfl, (unit_none (by have h9 := hti.2.2.1; omega) (by have h9 := hti.2.2.1; omega)), (flt_of hti a_46 a_47)⟩))⟩) [5, 6, 0, 1, 2, 3, 4] (by decide +kernel) rfl (Nat.le_of_ble_eq_true rfl) (Nat.le_of_ble_eq_true rfl)
          · have q_41 : tk = 2 := q_eq (a := tk) (b := 2) rfl rfl (by omega) (by omega) c_40
            have hk8 : knd fby tn ga = 2 := by have h9 := hti.2.2.1; omega
            have hn9 : tr = nI (num fby tn ga) := hti.2.2.2.2 (by omega)
            have hn8 := (num_le hk8).1
            subst hn9
            refine lv_aload_n hx hb dX10_takeUnit_106 rfl (lv_at hl 1 rfl) ?_
            refine va_get (D := D) (ci := 10) (v := .ref f0) (C := RX10) (T := TX10) (N := 10) hx hb hg i_X10 hown hK hP 0 rfl rfl 3 (by decide) (hg _ m_258) (fun _ h9 => h9) rfl dX10_takeUnit_107 ?_
            refine lv_aload_n hx hb dX10_takeUnit_110 rfl (lv_at hl 1 rfl) ?_
            refine va_get (D := D) (ci := 10) (v := .ref t0) (C := RX10) (T := TX10) (N := 10) hx hb hg i_X10 hown hK hP 0 rfl rfl 0 (by decide) (hg _ m_255) (fun _ h9 => h9) rfl dX10_takeUnit_111 ?_
            refine va_get (D := D) (ci := 9) (v := .int (nI (num fby tn ga))) (C := RX9) (T := TX9) (N := 8) hx hb hg i_X9 hown hK hP 1 rfl rfl 7 (by decide) (hg _ m_227) (fun _ h9 => h9) rfl dX10_takeUnit_114 ?_
            refine x_callVv (q := (RX3, TX3, 4)) (ci := 3) (q0 := 0) (wr := [wO d0 10 [.ref t0, .ref d1, .ref h0, .ref f0, .int (nI (ow + 1)), .int wt, .int dt, .int vv, .int fq, .int pq], wO t0 9 [.ref t1, .ref t2, .int (nI tn), .int (nI ta), .int (nI ts), .int (nI tk), .long tm, .int (nI (num fby tn ga))], wI (cy 0) t1 1600 (fby), (t2, .inl (cy 2, 24, .inr (.inl (fky)))), wO h0 4 [.ref h1, .ref h2, .ref h3, .ref h4, .ref h5, .ref h6, .ref h7, .ref h8, .ref h9, .ref h10, .ref h11, hv0, hv1, hv2, hv3, .int (nI (un + 1))]]) (rest := []) ⟨hx, hb, hml, hown, hg, hl.1⟩ k_X10_216 (s_addNumber9 l D cy f0 f1 f2 nf y3 fco ((num fby tn ga)) (by omega) (hfc) (by omega)) E0_blind hK hP hD hS hA [5, 6] [0, 1, 2, 3, 4] ⟨rfl, rfl, by decide +kernel, by decide +kernel, by decide +kernel⟩ rfl rfl (fun _ _ _ => trivial) dX10_takeUnit_117 rfl rfl (Nat.le_of_ble_eq_true rfl) ⟨Nat.le_of_ble_eq_true rfl, Nat.le_of_ble_eq_true rfl⟩ ⟨Nat.le_of_ble_eq_true rfl, Nat.le_of_ble_eq_true rfl⟩ (fun zu49 H locs hw49 hP9 hD9 hS9 => ?_)
            clear hP hD hS
            obtain ⟨n2_50, fc2_51⟩ := zu49
            refine reW [wO d0 10 [.ref t0, .ref d1, .ref h0, .ref f0, .int (nI (ow + 1)), .int wt, .int dt, .int vv, .int fq, .int pq], wO t0 9 [.ref t1, .ref t2, .int (nI tn), .int (nI ta), .int (nI ts), .int (nI tk), .long tm, .int (nI (num fby tn ga))], wI (cy 0) t1 1600 (fby), (t2, .inl (cy 2, 24, .inr (.inl (fky)))), wO h0 4 [.ref h1, .ref h2, .ref h3, .ref h4, .ref h5, .ref h6, .ref h7, .ref h8, .ref h9, .ref h10, .ref h11, hv0, hv1, hv2, hv3, .int (nI (un + 1))], wO f0 3 [.ref f1, .ref f2, .int (nI n2_50), y3], wI (cy 1) f1 280 (fc2_51)] hP9 hD9 hS9 (fun hP hD hS => ?_)
            clear hP9 hD9 hS9
            refine W.widen (k := 0) (n := 0) (Nat.le_of_ble_eq_true rfl) (Nat.le_of_ble_eq_true rfl) ?_
            replace hw49 : (n2_50 = nf + 1) ∧ (cOK fc2_51 n2_50) ∧ (exC fco nf fc2_51 n2_50 [nI ((num fby tn ga))]) := hw49
            obtain ⟨f_52, f_53, f_54⟩ := hw49
            refine lv_goto (tgt := 129) hx hb dX10_takeUnit_120 (by decide) ?_
            have hgt_55 : ga < fin fby tn ga ∧ fin fby tn ga ≤ tn := ⟨fin_gt (by have h9 := hti.2.2.1; omega), fin_le (by omega)⟩
            refine lv_aload_n hx hb dX10_takeUnit_129 rfl (lv_at hl 1 rfl) ?_
            refine va_get (D := D) (ci := 10) (v := .ref t0) (C := RX10) (T := TX10) (N := 10) hx hb hg i_X10 hown hK hP 0 rfl rfl 0 (by decide) (hg _ m_255) (fun _ h9 => h9) rfl dX10_takeUnit_130 ?_
            refine x_callVv (q := (RX9, TX9, 8)) (ci := 9) (q0 := 0) (wr := [wO d0 10 [.ref t0, .ref d1, .ref h0, .ref f0, .int (nI (ow + 1)), .int wt, .int dt, .int vv, .int fq, .int pq], wO h0 4 [.ref h1, .ref h2, .ref h3, .ref h4, .ref h5, .ref h6, .ref h7, .ref h8, .ref h9, .ref h10, .ref h11, hv0, hv1, hv2, hv3, .int (nI (un + 1))], wO f0 3 [.ref f1, .ref f2, .int (nI n2_50), y3], wI (cy 1) f1 280 (fc2_51)]) (rest := []) ⟨hx, hb, hml, hown, hg, hl.1⟩ k_X10_140 (s_next l D cy adK adV t0 t1 t2 tn ta ts tk tm (nI (num fby tn ga)) fby fky (fin fby tn ga) (by omega) (by omega) (hti.2.1) (hky)) EV_blind hK hP hD hS hA [1, 2, 3] [0, 4, 5, 6] ⟨rfl, rfl, by decide +kernel, by decide +kernel, by decide +kernel⟩ rfl rfl (fun U hU hW => EV_pass hE hS (va_free hD hS hA [1, 2, 3] rfl) hU hW) dX10_takeUnit_133 rfl rfl (Nat.le_of_ble_eq_true rfl) ⟨Nat.le_of_ble_eq_true rfl, Nat.le_of_ble_eq_true rfl⟩ ⟨Nat.le_of_ble_eq_true rfl, Nat.le_of_ble_eq_true rfl⟩ (fun zu56 H locs hw56 hP9 hD9 hS9 => ?_)
            clear hP hD hS
            obtain ⟨ta2_57, ts2_58, tk2_59, tm2_60, tr2_61⟩ := zu56
            refine reW [wO d0 10 [.ref t0, .ref d1, .ref h0, .ref f0, .int (nI (ow + 1)), .int wt, .int dt, .int vv, .int fq, .int pq], wO h0 4 [.ref h1, .ref h2, .ref h3, .ref h4, .ref h5, .ref h6, .ref h7, .ref h8, .ref h9, .ref h10, .ref h11, hv0, hv1, hv2, hv3, .int (nI (un + 1))], wO f0 3 [.ref f1, .ref f2, .int (nI n2_50), y3], wI (cy 1) f1 280 (fc2_51), wO t0 9 [.ref t1, .ref t2, .int (nI tn), .int (nI ta2_57), .int (nI ts2_58), .int (nI tk2_59), .long tm2_60, .int tr2_61], wI (cy 0) t1 1600 (fby), (t2, .inl (cy 2, 24, .inr (.inl (fky))))] hP9 hD9 hS9 (fun hP hD hS => ?_)
            clear hP9 hD9 hS9
            refine W.widen (k := 0) (n := 0) (Nat.le_of_ble_eq_true rfl) (Nat.le_of_ble_eq_true rfl) ?_
            replace hw56 : (ta2_57 ≤ tn) ∧ (tk2_59 ≤ 123) ∧ (tkC fby tn (fin fby tn ga) ta2_57 ts2_58 tk2_59 tm2_60 tr2_61) := hw56
            obtain ⟨f_62, f_63, f_64⟩ := hw56
            refine lv_iconst (v := 1) hx hb dX10_takeUnit_136 (by decide) ?_
            exact x_zret hQ hx hb hr hlocks hK hP hD hS rfl dX10_takeUnit_137 (ta2_57, ts2_58, tk2_59, tm2_60, tr2_61, fq, pq, (ow + 1), (un + 1), n2_50, fc2_51, fin fby tn ga, [cdF fby tn ga]) (⟨(show ta2_57 ≤ tn from by omega), (show tk2_59 ≤ 123 from by omega), (show n2_50 ≤ 280 from by omega), f_53, (show ((ow + 1)) ≤ 30 from by omega), (show ((un + 1)) ≤ 60 from by omega), (show ((1 : Int32) = 1 ∧ (okS (knd fby tn) (fin fby tn) (cdF fby tn) 7 6 ga ow un (fin fby tn ga) ((ow + 1)) ((un + 1)) ([cdF fby tn ga])) ∧ (fq = fq) ∧ (pq = pq) ∧ (tkC fby tn (fin fby tn ga) ta2_57 ts2_58 tk2_59 tm2_60 tr2_61) ∧ (ga < (fin fby tn ga) ∧ (fin fby tn ga) ≤ tn) ∧ (exC fco nf fc2_51 n2_50 ([cdF fby tn ga])) ∧ (n2_50 + 3 * ow + 1 ≤ nf + 3 * ((ow + 1)) ∧ ow < ((ow + 1)))) ∨ ((1 : Int32) = 0 ∧ (noS (knd fby tn) (fin fby tn) 7 6 ga ow un (fin fby tn ga)) ∧ (flt fby tn (fin fby tn ga) 2 fq pq)) from Or.inl ⟨rfl, (unit_one (psh_cd (Or.inl hk8)) (by omega) (Or.inl hk8)), (rfl), (rfl), (f_64), (⟨by omega, by omega⟩), ((exC_cn f_54 hk8 rfl)), (⟨by omega, by omega⟩)⟩)⟩) [0, 4, 5, 6, 1, 2, 3] (by decide +kernel) rfl (Nat.le_of_ble_eq_true rfl) (Nat.le_of_ble_eq_true rfl)
      · have q_15 : tk = 40 := q_eq (a := tk) (b := 40) rfl rfl (by omega) (by omega) c_14
        refine lv_aload_n hx hb dX10_takeUnit_62 rfl (lv_at hl 0 rfl) ?_
        refine lv_iload_n hx hb dX10_takeUnit_63 rfl (lv_at hl 1 rfl) ?_
        refine x_callVi (q := (RX10, TX10, 10)) (ci := 10) (q0 := 0) (wr := []) (rest := []) ⟨hx, hb, hml, hown, hg, hl.1⟩ k_X10_207 (s_takeInner6 l D cy adK adV d0 d1 wt dt vv fq pq t0 t1 t2 tn ta ts tk tm tr fby fky h0 h1 h2 h3 h4 h5 h6 h7 h8 h9 h10 h11 hv0 hv1 hv2 hv3 ((ow + 1)) ((un + 1)) f0 f1 f2 nf y3 fco ga (by omega) (by omega) (by omega) (hti) (hky) (by omega) (hfc) (by omega) (by omega) (by omega) (by omega) (by omega)) EV_blind hK hP hD hS hA [0, 1, 2, 3, 4, 5, 6] [] ⟨rfl, rfl, by decide +kernel, by decide +kernel, by decide +kernel⟩ rfl rfl (fun U hU hW => EV_pass hE hS (va_free hD hS hA [0, 1, 2, 3, 4, 5, 6] rfl) hU hW) dX10_takeUnit_64 rfl rfl (Nat.le_of_ble_eq_true rfl) ⟨Nat.le_of_ble_eq_true rfl, Nat.le_of_ble_eq_true rfl⟩ ⟨Nat.le_of_ble_eq_true rfl, Nat.le_of_ble_eq_true rfl⟩ (fun zr65 zu65 H locs hw65 hP9 hD9 hS9 => ?_)
        clear hP hD hS
        obtain ⟨ta2_66, ts2_67, tk2_68, tm2_69, tr2_70, fq2_71, pq2_72, ow2_73, un2_74, nf2_75, fco2_76, ga2_77, nw2_78⟩ := zu65
        refine reW [wO d0 10 [.ref t0, .ref d1, .ref h0, .ref f0, .int (nI ow2_73), .int wt, .int dt, .int vv, .int fq2_71, .int pq2_72], wO t0 9 [.ref t1, .ref t2, .int (nI tn), .int (nI ta2_66), .int (nI ts2_67), .int (nI tk2_68), .long tm2_69, .int tr2_70], wI (cy 0) t1 1600 (fby), (t2, .inl (cy 2, 24, .inr (.inl (fky)))), wO h0 4 [.ref h1, .ref h2, .ref h3, .ref h4, .ref h5, .ref h6, .ref h7, .ref h8, .ref h9, .ref h10, .ref h11, hv0, hv1, hv2, hv3, .int (nI un2_74)], wO f0 3 [.ref f1, .ref f2, .int (nI nf2_75), y3], wI (cy 1) f1 280 (fco2_76)] hP9 hD9 hS9 (fun hP hD hS => ?_)
        clear hP9 hD9 hS9
        refine W.widen (k := 0) (n := 0) (Nat.le_of_ble_eq_true rfl) (Nat.le_of_ble_eq_true rfl) ?_
        replace hw65 : (ta2_66 ≤ tn) ∧ (tk2_68 ≤ 123) ∧ (nf2_75 ≤ 280) ∧ (cOK fco2_76 nf2_75) ∧ (ow2_73 ≤ 30) ∧ (un2_74 ≤ 60) ∧ ((zr65 = 1 ∧ (∀ o9 u9 : Nat, ((ow + 1)) = o9 + 1 → ((un + 1)) = u9 + 1 → ¬ (u9 = 60 ∨ o9 = 30) → okS (knd fby tn) (fin fby tn) (cdF fby tn) 7 6 ga o9 u9 ga2_77 ow2_73 un2_74 nw2_78) ∧ (fq = fq2_71) ∧ (pq = pq2_72) ∧ (tkC fby tn ga2_77 ta2_66 ts2_67 tk2_68 tm2_69 tr2_70) ∧ (ga < ga2_77 ∧ ga2_77 ≤ tn) ∧ (exC fco nf fco2_76 nf2_75 nw2_78) ∧ (nf2_75 + 2 * ((ow + 1)) + 1 ≤ nf + 2 * ow2_73 ∧ ((ow + 1)) < ow2_73)) ∨ (zr65 = 0 ∧ (∀ o9 u9 : Nat, ((ow + 1)) = o9 + 1 → ((un + 1)) = u9 + 1 → ¬ (u9 = 60 ∨ o9 = 30) → noS (knd fby tn) (fin fby tn) 7 6 ga o9 u9 ga2_77) ∧ (flt fby tn ga2_77 2 fq2_71 pq2_72))) := hw65
        obtain ⟨f_79, f_80, f_81, f_82, f_83, f_84, f_85⟩ := hw65
        rcases f_85 with ⟨hz_93, a_86, a_87, a_88, a_89, a_90, a_91, a_92⟩ | ⟨hz_96, a_94, a_95⟩
        · subst hz_93
          subst a_87
          subst a_88
          have hg_a_90 := a_90
          have hl_a_92 := a_92
          exact x_zret hQ hx hb hr hlocks hK hP hD hS rfl dX10_takeUnit_67 (ta2_66, ts2_67, tk2_68, tm2_69, tr2_70, fq, pq, ow2_73, un2_74, nf2_75, fco2_76, ga2_77, nw2_78) (⟨(show ta2_66 ≤ tn from by omega), (show tk2_68 ≤ 123 from by omega), (show nf2_75 ≤ 280 from by omega), f_82, (show ow2_73 ≤ 30 from by omega), (show un2_74 ≤ 60 from by omega), (show ((1 : Int32) = 1 ∧ (okS (knd fby tn) (fin fby tn) (cdF fby tn) 7 6 ga ow un ga2_77 ow2_73 un2_74 nw2_78) ∧ (fq = fq) ∧ (pq = pq) ∧ (tkC fby tn ga2_77 ta2_66 ts2_67 tk2_68 tm2_69 tr2_70) ∧ (ga < ga2_77 ∧ ga2_77 ≤ tn) ∧ (exC fco nf fco2_76 nf2_75 nw2_78) ∧ (nf2_75 + 3 * ow + 1 ≤ nf + 3 * ow2_73 ∧ ow < ow2_73)) ∨ ((1 : Int32) = 0 ∧ (noS (knd fby tn) (fin fby tn) 7 6 ga ow un ga2_77) ∧ (flt fby tn ga2_77 2 fq pq)) from Or.inl ⟨rfl, (a_86 ow un rfl rfl (by omega)), (rfl), (rfl), (a_89), (⟨by omega, by omega⟩), (a_91), (⟨by omega, by omega⟩)⟩)⟩) [0, 1, 2, 3, 4, 5, 6] (by decide +kernel) rfl (Nat.le_of_ble_eq_true rfl) (Nat.le_of_ble_eq_true rfl)
        · subst hz_96
          exact x_zret hQ hx hb hr hlocks hK hP hD hS rfl dX10_takeUnit_67 (ta2_66, ts2_67, tk2_68, tm2_69, tr2_70, fq2_71, pq2_72, ow2_73, un2_74, nf2_75, fco2_76, ga2_77, []) (⟨(show ta2_66 ≤ tn from by omega), (show tk2_68 ≤ 123 from by omega), (show nf2_75 ≤ 280 from by omega), f_82, (show ow2_73 ≤ 30 from by omega), (show un2_74 ≤ 60 from by omega), (show ((0 : Int32) = 1 ∧ (okS (knd fby tn) (fin fby tn) (cdF fby tn) 7 6 ga ow un ga2_77 ow2_73 un2_74 ([])) ∧ (fq = fq2_71) ∧ (pq = pq2_72) ∧ (tkC fby tn ga2_77 ta2_66 ts2_67 tk2_68 tm2_69 tr2_70) ∧ (ga < ga2_77 ∧ ga2_77 ≤ tn) ∧ (exC fco nf fco2_76 nf2_75 ([])) ∧ (nf2_75 + 3 * ow + 1 ≤ nf + 3 * ow2_73 ∧ ow < ow2_73)) ∨ ((0 : Int32) = 0 ∧ (noS (knd fby tn) (fin fby tn) 7 6 ga ow un ga2_77) ∧ (flt fby tn ga2_77 2 fq2_71 pq2_72)) from Or.inr (⟨rfl, (a_94 ow un rfl rfl (by omega)), (a_95)⟩))⟩) [0, 1, 2, 3, 4, 5, 6] (by decide +kernel) rfl (Nat.le_of_ble_eq_true rfl) (Nat.le_of_ble_eq_true rfl)
    · have q_11 : 60 ≤ un := q_nlt (a := un) (b := 60) rfl rfl (by omega) (by omega) c_10
      refine lv_aload_n hx hb dX10_takeUnit_21 rfl (lv_at hl 0 rfl) ?_
      refine lv_iconst (v := 2) hx hb dX10_takeUnit_22 (by decide) ?_
      refine x_callVi (q := (RX10, TX10, 10)) (ci := 10) (q0 := 0) (wr := [wI (cy 0) t1 1600 (fby), (t2, .inl (cy 2, 24, .inr (.inl (fky)))), wO h0 4 [.ref h1, .ref h2, .ref h3, .ref h4, .ref h5, .ref h6, .ref h7, .ref h8, .ref h9, .ref h10, .ref h11, hv0, hv1, hv2, hv3, .int (nI un)], wO f0 3 [.ref f1, .ref f2, .int (nI nf), y3], wI (cy 1) f1 280 (fco)]) (rest := []) ⟨hx, hb, hml, hown, hg, hl.1⟩ k_X10_110 (s_fail l D cy d0 d1 (nI ow) wt dt vv fq pq ((.ref h0)) ((.ref f0)) t0 t1 t2 tn ta ts tk tm tr 2 (by omega)) E0_blind hK hP hD hS hA [0, 1] [2, 3, 4, 5, 6] ⟨rfl, rfl, by decide +kernel, by decide +kernel, by decide +kernel⟩ rfl rfl (fun _ _ _ => trivial) dX10_takeUnit_23 rfl rfl (Nat.le_of_ble_eq_true rfl) ⟨Nat.le_of_ble_eq_true rfl, Nat.le_of_ble_eq_true rfl⟩ ⟨Nat.le_of_ble_eq_true rfl, Nat.le_of_ble_eq_true rfl⟩ (fun zr97 zu97 H locs hw97 hP9 hD9 hS9 => ?_)
      clear hP hD hS
      obtain ⟨fq2_98, pq2_99⟩ := zu97
      refine reW [wI (cy 0) t1 1600 (fby), (t2, .inl (cy 2, 24, .inr (.inl (fky)))), wO h0 4 [.ref h1, .ref h2, .ref h3, .ref h4, .ref h5, .ref h6, .ref h7, .ref h8, .ref h9, .ref h10, .ref h11, hv0, hv1, hv2, hv3, .int (nI un)], wO f0 3 [.ref f1, .ref f2, .int (nI nf), y3], wI (cy 1) f1 280 (fco), wO d0 10 [.ref t0, .ref d1, .ref h0, .ref f0, .int (nI ow), .int wt, .int dt, .int vv, .int fq2_98, .int pq2_99], wO t0 9 [.ref t1, .ref t2, .int (nI tn), .int (nI ta), .int (nI ts), .int (nI tk), .long tm, .int tr]] hP9 hD9 hS9 (fun hP hD hS => ?_)
      clear hP9 hD9 hS9
      refine W.widen (k := 0) (n := 0) (Nat.le_of_ble_eq_true rfl) (Nat.le_of_ble_eq_true rfl) ?_
      replace hw97 : ((zr97 = 0 ∧ (fq2_98 = nI (if tk = 3 then 1 else 2)) ∧ (pq2_99 = nI ts))) := hw97
      have f_100 := hw97
      rcases f_100 with ⟨hz_103, a_101, a_102⟩
      subst hz_103
      exact x_zret hQ hx hb hr hlocks hK hP hD hS rfl dX10_takeUnit_26 (ta, ts, tk, tm, tr, fq2_98, pq2_99, ow, un, nf, fco, ga, []) (⟨(show ta ≤ tn from by omega), (show tk ≤ 123 from by omega), (show nf ≤ 280 from by omega), hfc, (show ow ≤ 30 from by omega), (show un ≤ 60 from by omega), (show ((0 : Int32) = 1 ∧ (okS (knd fby tn) (fin fby tn) (cdF fby tn) 7 6 ga ow un ga ow un ([])) ∧ (fq = fq2_98) ∧ (pq = pq2_99) ∧ (tkC fby tn ga ta ts tk tm tr) ∧ (ga < ga ∧ ga ≤ tn) ∧ (exC fco nf fco nf ([])) ∧ (nf + 3 * ow + 1 ≤ nf + 3 * ow ∧ ow < ow)) ∨ ((0 : Int32) = 0 ∧ (noS (knd fby tn) (fin fby tn) 7 6 ga ow un ga) ∧ (flt fby tn ga 2 fq2_98 pq2_99)) from Or.inr (⟨rfl, (unit_full (by omega)), (flt_of hti a_101 a_102)⟩))⟩) [5, 6, 0, 1, 2, 3, 4] (by decide +kernel) rfl (Nat.le_of_ble_eq_true rfl) (Nat.le_of_ble_eq_true rfl)
set_option maxHeartbeats 1000000 in
set_option maxRecDepth 100000 in
theorem s_takeTerm6 (l : Launch) (D : va_G) (cy : Nat → ClassId) (adK : Nat → Nat) (adV : Nat → Nat) (d0 : Nat) (d1 : Nat) (wt : Int32) (dt : Int32) (vv : Int32) (fq : Int32) (pq : Int32) (t0 : Nat) (t1 : Nat) (t2 : Nat) (tn : Nat) (ta : Nat) (ts : Nat) (tk : Nat) (tm : Int64) (tr : Int32) (fby : Nat → Int32) (fky : Nat → Int64) (h0 : Nat) (h1 : Nat) (h2 : Nat) (h3 : Nat) (h4 : Nat) (h5 : Nat) (h6 : Nat) (h7 : Nat) (h8 : Nat) (h9 : Nat) (h10 : Nat) (h11 : Nat) (hv0 : Value) (hv1 : Value) (hv2 : Value) (hv3 : Value) (ow : Nat) (un : Nat) (f0 : Nat) (f1 : Nat) (f2 : Nat) (nf : Nat) (y3 : Value) (fco : Nat → Int32) (ga : Nat) (htn : tn ≤ 1600) (hta : ta ≤ tn) (htk : tk ≤ 123) (hti : tkC fby tn ga ta ts tk tm tr) (hky : kyOK fky) (hnf : nf ≤ 280) (hfc : cOK fco nf) (how : ow ≤ 30) (hun : un ≤ 60) (hga : ga ≤ tn) (hrm : nf + 90 ≤ 280 + 3 * ow) : XMi l D (tyL cy) (EV adK adV) yX10_takeTerm cX10_takeTerm 5 (some .boolean) (rmk 15 0 0) [.ref d0, .int 6] [wO d0 10 [.ref t0, .ref d1, .ref h0, .ref f0, .int (nI ow), .int wt, .int dt, .int vv, .int fq, .int pq], wO t0 9 [.ref t1, .ref t2, .int (nI tn), .int (nI ta), .int (nI ts), .int (nI tk), .long tm, .int tr], wI (cy 0) t1 1600 (fby), (t2, .inl (cy 2, 24, .inr (.inl (fky)))), wO h0 4 [.ref h1, .ref h2, .ref h3, .ref h4, .ref h5, .ref h6, .ref h7, .ref h8, .ref h9, .ref h10, .ref h11, hv0, hv1, hv2, hv3, .int (nI un)], wO f0 3 [.ref f1, .ref f2, .int (nI nf), y3], wI (cy 1) f1 280 (fco)] (fun (r : Int32) (u : Nat × Nat × Nat × Int64 × Int32 × Int32 × Int32 × Nat × Nat × Nat × (Nat → Int32) × Nat × (List Int32)) => (u.1 ≤ tn) ∧ (u.2.2.1 ≤ 123) ∧ (u.2.2.2.2.2.2.2.2.2.1 ≤ 280) ∧ (cOK u.2.2.2.2.2.2.2.2.2.2.1 u.2.2.2.2.2.2.2.2.2.1) ∧ (u.2.2.2.2.2.2.2.1 ≤ 30) ∧ (u.2.2.2.2.2.2.2.2.1 ≤ 60) ∧ ((r = 1 ∧ (okS (knd fby tn) (fin fby tn) (cdF fby tn) 6 6 ga ow un u.2.2.2.2.2.2.2.2.2.2.2.1 u.2.2.2.2.2.2.2.1 u.2.2.2.2.2.2.2.2.1 u.2.2.2.2.2.2.2.2.2.2.2.2) ∧ (fq = u.2.2.2.2.2.1) ∧ (pq = u.2.2.2.2.2.2.1) ∧ (tkC fby tn u.2.2.2.2.2.2.2.2.2.2.2.1 u.1 u.2.1 u.2.2.1 u.2.2.2.1 u.2.2.2.2.1) ∧ (ga < u.2.2.2.2.2.2.2.2.2.2.2.1 ∧ u.2.2.2.2.2.2.2.2.2.2.2.1 ≤ tn) ∧ (exC fco nf u.2.2.2.2.2.2.2.2.2.2.1 u.2.2.2.2.2.2.2.2.2.1 u.2.2.2.2.2.2.2.2.2.2.2.2) ∧ (u.2.2.2.2.2.2.2.2.2.1 + 3 * ow + 1 ≤ nf + 3 * u.2.2.2.2.2.2.2.1 ∧ ow < u.2.2.2.2.2.2.2.1)) ∨ (r = 0 ∧ (noS (knd fby tn) (fin fby tn) 6 6 ga ow un u.2.2.2.2.2.2.2.2.2.2.2.1) ∧ (flt fby tn u.2.2.2.2.2.2.2.2.2.2.2.1 2 u.2.2.2.2.2.1 u.2.2.2.2.2.2.1)))) (fun (u : Nat × Nat × Nat × Int64 × Int32 × Int32 × Int32 × Nat × Nat × Nat × (Nat → Int32) × Nat × (List Int32)) => [wO d0 10 [.ref t0, .ref d1, .ref h0, .ref f0, .int (nI u.2.2.2.2.2.2.2.1), .int wt, .int dt, .int vv, .int u.2.2.2.2.2.1, .int u.2.2.2.2.2.2.1], wO t0 9 [.ref t1, .ref t2, .int (nI tn), .int (nI u.1), .int (nI u.2.1), .int (nI u.2.2.1), .long u.2.2.2.1, .int u.2.2.2.2.1], wI (cy 0) t1 1600 (fby), (t2, .inl (cy 2, 24, .inr (.inl (fky)))), wO h0 4 [.ref h1, .ref h2, .ref h3, .ref h4, .ref h5, .ref h6, .ref h7, .ref h8, .ref h9, .ref h10, .ref h11, hv0, hv1, hv2, hv3, .int (nI u.2.2.2.2.2.2.2.2.1)], wO f0 3 [.ref f1, .ref f2, .int (nI u.2.2.2.2.2.2.2.2.2.1), y3], wI (cy 1) f1 280 (u.2.2.2.2.2.2.2.2.2.2.1)]) := by
  refine XMi.start (by decide) (Nat.le_of_ble_eq_true rfl) ?_
  intro p e s m below meth c args A ls Q hat hQ
  obtain ⟨hx, hb, hr, hml, hown, hg, hlocks, hin, hK, hA, hP, hD, hS, hE, hl⟩ := hat
  have hown : s.vm.findClass RX10 = some m.cls := hown
  have hl : lv_has ls 5 [(0, .ref d0), (1, .int 6)] := hl
  refine lv_aload_n hx hb dX10_takeTerm_0 rfl (lv_at hl 0 rfl) ?_
  refine lv_iload_n hx hb dX10_takeTerm_1 rfl (lv_at hl 1 rfl) ?_
  refine x_callVi (q := (RX10, TX10, 10)) (ci := 10) (q0 := 0) (wr := []) (rest := []) ⟨hx, hb, hml, hown, hg, hl.1⟩ k_X10_198 (s_takeUnit6 l D cy adK adV d0 d1 wt dt vv fq pq t0 t1 t2 tn ta ts tk tm tr fby fky h0 h1 h2 h3 h4 h5 h6 h7 h8 h9 h10 h11 hv0 hv1 hv2 hv3 ow un f0 f1 f2 nf y3 fco ga (by omega) (by omega) (by omega) (hti) (hky) (by omega) (hfc) (by omega) (by omega) (by omega) (by omega)) EV_blind hK hP hD hS hA [0, 1, 2, 3, 4, 5, 6] [] ⟨rfl, rfl, by decide +kernel, by decide +kernel, by decide +kernel⟩ rfl rfl (fun U hU hW => EV_pass hE hS (va_free hD hS hA [0, 1, 2, 3, 4, 5, 6] rfl) hU hW) dX10_takeTerm_2 rfl rfl (Nat.le_of_ble_eq_true rfl) ⟨Nat.le_of_ble_eq_true rfl, Nat.le_of_ble_eq_true rfl⟩ ⟨Nat.le_of_ble_eq_true rfl, Nat.le_of_ble_eq_true rfl⟩ (fun zr1 zu1 H locs hw1 hP9 hD9 hS9 => ?_)
  clear hP hD hS
  obtain ⟨ta2_2, ts2_3, tk2_4, tm2_5, tr2_6, fq2_7, pq2_8, ow2_9, un2_10, nf2_11, fco2_12, ga2_13, nw2_14⟩ := zu1
  refine reW [wO d0 10 [.ref t0, .ref d1, .ref h0, .ref f0, .int (nI ow2_9), .int wt, .int dt, .int vv, .int fq2_7, .int pq2_8], wO t0 9 [.ref t1, .ref t2, .int (nI tn), .int (nI ta2_2), .int (nI ts2_3), .int (nI tk2_4), .long tm2_5, .int tr2_6], wI (cy 0) t1 1600 (fby), (t2, .inl (cy 2, 24, .inr (.inl (fky)))), wO h0 4 [.ref h1, .ref h2, .ref h3, .ref h4, .ref h5, .ref h6, .ref h7, .ref h8, .ref h9, .ref h10, .ref h11, hv0, hv1, hv2, hv3, .int (nI un2_10)], wO f0 3 [.ref f1, .ref f2, .int (nI nf2_11), y3], wI (cy 1) f1 280 (fco2_12)] hP9 hD9 hS9 (fun hP hD hS => ?_)
  clear hP9 hD9 hS9
  refine W.widen (k := 0) (n := 0) (Nat.le_of_ble_eq_true rfl) (Nat.le_of_ble_eq_true rfl) ?_
  replace hw1 : (ta2_2 ≤ tn) ∧ (tk2_4 ≤ 123) ∧ (nf2_11 ≤ 280) ∧ (cOK fco2_12 nf2_11) ∧ (ow2_9 ≤ 30) ∧ (un2_10 ≤ 60) ∧ ((zr1 = 1 ∧ (okS (knd fby tn) (fin fby tn) (cdF fby tn) 7 6 ga ow un ga2_13 ow2_9 un2_10 nw2_14) ∧ (fq = fq2_7) ∧ (pq = pq2_8) ∧ (tkC fby tn ga2_13 ta2_2 ts2_3 tk2_4 tm2_5 tr2_6) ∧ (ga < ga2_13 ∧ ga2_13 ≤ tn) ∧ (exC fco nf fco2_12 nf2_11 nw2_14) ∧ (nf2_11 + 3 * ow + 1 ≤ nf + 3 * ow2_9 ∧ ow < ow2_9)) ∨ (zr1 = 0 ∧ (noS (knd fby tn) (fin fby tn) 7 6 ga ow un ga2_13) ∧ (flt fby tn ga2_13 2 fq2_7 pq2_8))) := hw1
  obtain ⟨f_15, f_16, f_17, f_18, f_19, f_20, f_21⟩ := hw1
  refine lv_istore_n (lv' := [(2, .int zr1), (0, .ref d0), (1, .int 6)]) hx hb dX10_takeTerm_5 rfl hl (by decide) rfl (fun ls hl => ?_)
  refine lv_iconst (v := 0) hx hb dX10_takeTerm_6 (by decide) ?_
  refine lv_istore_n (lv' := [(3, .int 0), (2, .int zr1), (0, .ref d0), (1, .int 6)]) hx hb dX10_takeTerm_7 rfl hl (by decide) rfl (fun ls hl => ?_)
  have loop22 : ∀ (zn : Nat) (lb2_22 : Int32) (i22 : Nat) (aq22 : Nat) (sq22 : Nat) (kq22 : Nat) (fl5_22 : Int64) (rq22 : Int32) (oq22 : Nat) (fz22 : Int32) (pz22 : Int32) (uq22 : Nat) (nq22 : Nat) (gq22 : Nat) (nw22 : List Int32) (fa14_22 : Nat → Int32), (cOK fa14_22 nq22) → (i22 ≤ 1600) → (aq22 ≤ tn) → (kq22 ≤ 123) → (nq22 ≤ 280) → (oq22 ≤ 30) → (uq22 ≤ 60) → ((lb2_22 = 1 ∧ inS (knd fby tn) (fin fby tn) (cdF fby tn) 6 7 6 ga ow un gq22 oq22 uq22 nw22 ∧ tkC fby tn gq22 aq22 sq22 kq22 fl5_22 rq22 ∧ ga < gq22 ∧ gq22 ≤ tn ∧ i22 < gq22 ∧ fq = fz22 ∧ pq = pz22 ∧ exC fco nf fa14_22 nq22 nw22 ∧ nq22 + 3 * ow + 1 ≤ nf + 3 * oq22 ∧ ow < oq22) ∨ (lb2_22 = 0 ∧ noS (knd fby tn) (fin fby tn) 6 6 ga ow un gq22 ∧ flt fby tn gq22 2 fz22 pz22)) → 1600 - i22 + 1 ≤ zn → ∀ (H : Heap) (locs : List Loc), va_P D vwCl [wO d0 10 [.ref t0, .ref d1, .ref h0, .ref f0, .int (nI oq22), .int wt, .int dt, .int vv, .int fz22, .int pz22], wO t0 9 [.ref t1, .ref t2, .int (nI tn), .int (nI aq22), .int (nI sq22), .int (nI kq22), .long fl5_22, .int rq22], wI (cy 0) t1 1600 (fby), (t2, .inl (cy 2, 24, .inr (.inl (fky)))), wO h0 4 [.ref h1, .ref h2, .ref h3, .ref h4, .ref h5, .ref h6, .ref h7, .ref h8, .ref h9, .ref h10, .ref h11, hv0, hv1, hv2, hv3, .int (nI uq22)], wO f0 3 [.ref f1, .ref f2, .int (nI nq22), y3], wI (cy 1) f1 280 (fa14_22)] H → va_D A [wO d0 10 [.ref t0, .ref d1, .ref h0, .ref f0, .int (nI oq22), .int wt, .int dt, .int vv, .int fz22, .int pz22], wO t0 9 [.ref t1, .ref t2, .int (nI tn), .int (nI aq22), .int (nI sq22), .int (nI kq22), .long fl5_22, .int rq22], wI (cy 0) t1 1600 (fby), (t2, .inl (cy 2, 24, .inr (.inl (fky)))), wO h0 4 [.ref h1, .ref h2, .ref h3, .ref h4, .ref h5, .ref h6, .ref h7, .ref h8, .ref h9, .ref h10, .ref h11, hv0, hv1, hv2, hv3, .int (nI uq22)], wO f0 3 [.ref f1, .ref f2, .int (nI nq22), y3], wI (cy 1) f1 280 (fa14_22)] → va_S A s.heap H locs → ∀ ls : Array Slot, lv_has ls 5 [(3, .int (nI i22)), (2, .int lb2_22), (0, .ref d0), (1, .int 6)] → W p l e (rmk 15 0 0) s m args below meth c H locs 0 0 Q (F0 m 8 ls []) := by
    try clear hP hD hS
    intro zn
    induction zn with
    | zero => intro lb2_22 i22 aq22 sq22 kq22 fl5_22 rq22 oq22 fz22 pz22 uq22 nq22 gq22 nw22 fa14_22 _ _ _ _ _ _ _ _ hz; exact absurd hz (by omega)
    | succ zn ih22 =>
      intro lb2_22 i22 aq22 sq22 kq22 fl5_22 rq22 oq22 fz22 pz22 uq22 nq22 gq22 nw22 fa14_22 ha15_22 hf0_22 hf1_22 hf2_22 hf3_22 hf4_22 hf5_22 hf6_22 hmu22 H locs hP hD hS ls hl
      rcases hf6_22 with ⟨hlb, hin9, htk9, hg1, hg2, hg3, hfz, hpz, hex9, hln9⟩ | ⟨hlb, hno9, hfl9⟩
      · subst hlb hfz hpz
        refine lv_iload_n hx hb dX10_takeTerm_8 rfl (lv_at hl 0 rfl) ?_
        refine lv_sipush (v := 1600) hx hb dX10_takeTerm_9 (by decide) ?_
        refine lv_icmp_ge (tgt := 69) hx hb dX10_takeTerm_12 (by decide) (fun c_23 => ?_) (fun c_23 => ?_)
        · have q_24 : 1600 ≤ i22 := q_le (a := 1600) (b := i22) rfl rfl (by omega) (by omega) c_23
          exact absurd q_24 (by omega)
        · have q_24 : i22 < 1600 := q_nle (a := 1600) (b := i22) rfl rfl (by omega) (by omega) c_23
          refine lv_iload_n hx hb dX10_takeTerm_15 rfl (lv_at hl 1 rfl) ?_
          refine lv_if_eq (tgt := 69) hx hb dX10_takeTerm_16 (by decide) (fun h => absurd h (by decide)) (fun _ => ?_)
          refine lv_aload_n hx hb dX10_takeTerm_19 rfl (lv_at hl 2 rfl) ?_
          refine va_get (D := D) (ci := 10) (v := .ref t0) (C := RX10) (T := TX10) (N := 10) hx hb hg i_X10 hown hK hP 0 rfl rfl 0 (by decide) (hg _ m_255) (fun _ h9 => h9) rfl dX10_takeTerm_20 ?_
          refine va_get (D := D) (ci := 9) (v := .int (nI kq22)) (C := RX9) (T := TX9) (N := 8) hx hb hg i_X9 hown hK hP 1 rfl rfl 5 (by decide) (hg _ m_222) (fun _ h9 => h9) rfl dX10_takeTerm_23 ?_
          refine x_callSi (wr := [wO d0 10 [.ref t0, .ref d1, .ref h0, .ref f0, .int (nI oq22), .int wt, .int dt, .int vv, .int fq, .int pq], wO t0 9 [.ref t1, .ref t2, .int (nI tn), .int (nI aq22), .int (nI sq22), .int (nI kq22), .long fl5_22, .int rq22], wI (cy 0) t1 1600 (fby), (t2, .inl (cy 2, 24, .inr (.inl (fky)))), wO h0 4 [.ref h1, .ref h2, .ref h3, .ref h4, .ref h5, .ref h6, .ref h7, .ref h8, .ref h9, .ref h10, .ref h11, hv0, hv1, hv2, hv3, .int (nI uq22)], wO f0 3 [.ref f1, .ref f2, .int (nI nq22), y3], wI (cy 1) f1 280 (fa14_22)]) (rest := []) ⟨hx, hb, hml, hown, hg, hl.1⟩ k_X10_201 (s_isOfTerm l D cy kq22 (by omega)) E0_blind hK hP hD hS hA [] [0, 1, 2, 3, 4, 5, 6] ⟨rfl, rfl, by decide +kernel, by decide +kernel, by decide +kernel⟩ (fun _ _ _ => trivial) dX10_takeTerm_26 rfl rfl (Nat.le_of_ble_eq_true rfl) ⟨Nat.le_of_ble_eq_true rfl, Nat.le_of_ble_eq_true rfl⟩ ⟨Nat.le_of_ble_eq_true rfl, Nat.le_of_ble_eq_true rfl⟩ (fun zr25 zu25 H locs hw25 hP9 hD9 hS9 => ?_)
          clear hP hD hS
          refine reW [wO d0 10 [.ref t0, .ref d1, .ref h0, .ref f0, .int (nI oq22), .int wt, .int dt, .int vv, .int fq, .int pq], wO t0 9 [.ref t1, .ref t2, .int (nI tn), .int (nI aq22), .int (nI sq22), .int (nI kq22), .long fl5_22, .int rq22], wI (cy 0) t1 1600 (fby), (t2, .inl (cy 2, 24, .inr (.inl (fky)))), wO h0 4 [.ref h1, .ref h2, .ref h3, .ref h4, .ref h5, .ref h6, .ref h7, .ref h8, .ref h9, .ref h10, .ref h11, hv0, hv1, hv2, hv3, .int (nI uq22)], wO f0 3 [.ref f1, .ref f2, .int (nI nq22), y3], wI (cy 1) f1 280 (fa14_22)] hP9 hD9 hS9 (fun hP hD hS => ?_)
          clear hP9 hD9 hS9
          refine W.widen (k := 0) (n := 0) (Nat.le_of_ble_eq_true rfl) (Nat.le_of_ble_eq_true rfl) ?_
          replace hw25 : ((zr25 = 1 ∧ (kq22 = 42 ∨ kq22 = 47 ∨ kq22 = 37)) ∨ (zr25 = 0 ∧ (¬ (kq22 = 42 ∨ kq22 = 47 ∨ kq22 = 37)))) := hw25
          have f_26 := hw25
          rcases f_26 with ⟨hz_28, a_27⟩ | ⟨hz_30, a_29⟩
          · subst hz_28
            refine lv_if_eq (tgt := 69) hx hb dX10_takeTerm_29 (by decide) (fun h => absurd h (by decide)) (fun _ => ?_)
            have hkk : kq22 = knd fby tn gq22 := by have h9 := htk9.2.2.1; omega
            have hop := sg_6 (show knd fby tn gq22 = 42 ∨ knd fby tn gq22 = 47 ∨ knd fby tn gq22 = 37 from by have h9 := htk9.2.2.1; omega)
            have hgt_31 : gq22 < fin fby tn gq22 ∧ fin fby tn gq22 ≤ tn := ⟨fin_gt (by have h9 := htk9.2.2.1; omega), fin_le (by omega)⟩
            refine lv_aload_n hx hb dX10_takeTerm_32 rfl (lv_at hl 2 rfl) ?_
            refine va_get (D := D) (ci := 10) (v := .ref t0) (C := RX10) (T := TX10) (N := 10) hx hb hg i_X10 hown hK hP 0 rfl rfl 0 (by decide) (hg _ m_255) (fun _ h9 => h9) rfl dX10_takeTerm_33 ?_
            refine va_get (D := D) (ci := 9) (v := .int (nI kq22)) (C := RX9) (T := TX9) (N := 8) hx hb hg i_X9 hown hK hP 1 rfl rfl 5 (by decide) (hg _ m_222) (fun _ h9 => h9) rfl dX10_takeTerm_36 ?_
            refine lv_istore (lv' := [(4, .int (nI kq22)), (3, .int (nI i22)), (2, .int 1), (0, .ref d0), (1, .int 6)]) hx hb dX10_takeTerm_39 hl (by decide) rfl (fun ls hl => ?_)
            refine lv_aload_n hx hb dX10_takeTerm_41 rfl (lv_at hl 3 rfl) ?_
            refine va_get (D := D) (ci := 10) (v := .ref t0) (C := RX10) (T := TX10) (N := 10) hx hb hg i_X10 hown hK hP 0 rfl rfl 0 (by decide) (hg _ m_255) (fun _ h9 => h9) rfl dX10_takeTerm_42 ?_
            refine x_callVv (q := (RX9, TX9, 8)) (ci := 9) (q0 := 0) (wr := [wO d0 10 [.ref t0, .ref d1, .ref h0, .ref f0, .int (nI oq22), .int wt, .int dt, .int vv, .int fq, .int pq], wO h0 4 [.ref h1, .ref h2, .ref h3, .ref h4, .ref h5, .ref h6, .ref h7, .ref h8, .ref h9, .ref h10, .ref h11, hv0, hv1, hv2, hv3, .int (nI uq22)], wO f0 3 [.ref f1, .ref f2, .int (nI nq22), y3], wI (cy 1) f1 280 (fa14_22)]) (rest := []) ⟨hx, hb, hml, hown, hg, hl.1⟩ k_X10_140 (s_next l D cy adK adV t0 t1 t2 tn aq22 sq22 kq22 fl5_22 rq22 fby fky (fin fby tn gq22) (by omega) (by omega) (htk9.2.1) (hky)) EV_blind hK hP hD hS hA [1, 2, 3] [0, 4, 5, 6] ⟨rfl, rfl, by decide +kernel, by decide +kernel, by decide +kernel⟩ rfl rfl (fun U hU hW => EV_pass hE hS (va_free hD hS hA [1, 2, 3] rfl) hU hW) dX10_takeTerm_45 rfl rfl (Nat.le_of_ble_eq_true rfl) ⟨Nat.le_of_ble_eq_true rfl, Nat.le_of_ble_eq_true rfl⟩ ⟨Nat.le_of_ble_eq_true rfl, Nat.le_of_ble_eq_true rfl⟩ (fun zu32 H locs hw32 hP9 hD9 hS9 => ?_)
            clear hP hD hS
            obtain ⟨ta2_33, ts2_34, tk2_35, tm2_36, tr2_37⟩ := zu32
            refine reW [wO d0 10 [.ref t0, .ref d1, .ref h0, .ref f0, .int (nI oq22), .int wt, .int dt, .int vv, .int fq, .int pq], wO h0 4 [.ref h1, .ref h2, .ref h3, .ref h4, .ref h5, .ref h6, .ref h7, .ref h8, .ref h9, .ref h10, .ref h11, hv0, hv1, hv2, hv3, .int (nI uq22)], wO f0 3 [.ref f1, .ref f2, .int (nI nq22), y3], wI (cy 1) f1 280 (fa14_22), wO t0 9 [.ref t1, .ref t2, .int (nI tn), .int (nI ta2_33), .int (nI ts2_34), .int (nI tk2_35), .long tm2_36, .int tr2_37], wI (cy 0) t1 1600 (fby), (t2, .inl (cy 2, 24, .inr (.inl (fky))))] hP9 hD9 hS9 (fun hP hD hS => ?_)
            clear hP9 hD9 hS9
            refine W.widen (k := 0) (n := 0) (Nat.le_of_ble_eq_true rfl) (Nat.le_of_ble_eq_true rfl) ?_
            replace hw32 : (ta2_33 ≤ tn) ∧ (tk2_35 ≤ 123) ∧ (tkC fby tn (fin fby tn gq22) ta2_33 ts2_34 tk2_35 tm2_36 tr2_37) := hw32
            obtain ⟨f_38, f_39, f_40⟩ := hw32
            refine lv_aload_n hx hb dX10_takeTerm_48 rfl (lv_at hl 3 rfl) ?_
            refine lv_iload_n hx hb dX10_takeTerm_49 rfl (lv_at hl 4 rfl) ?_
            refine x_callVi (q := (RX10, TX10, 10)) (ci := 10) (q0 := 0) (wr := []) (rest := []) ⟨hx, hb, hml, hown, hg, hl.1⟩ k_X10_198 (s_takeUnit6 l D cy adK adV d0 d1 wt dt vv fq pq t0 t1 t2 tn ta2_33 ts2_34 tk2_35 tm2_36 tr2_37 fby fky h0 h1 h2 h3 h4 h5 h6 h7 h8 h9 h10 h11 hv0 hv1 hv2 hv3 oq22 uq22 f0 f1 f2 nq22 y3 fa14_22 (fin fby tn gq22) (by omega) (by omega) (by omega) (f_40) (hky) (by omega) (ha15_22) (by omega) (by omega) (by omega) (by omega)) EV_blind hK hP hD hS hA [0, 4, 5, 6, 1, 2, 3] [] ⟨rfl, rfl, by decide +kernel, by decide +kernel, by decide +kernel⟩ rfl rfl (fun U hU hW => EV_pass hE hS (va_free hD hS hA [0, 4, 5, 6, 1, 2, 3] rfl) hU hW) dX10_takeTerm_50 rfl rfl (Nat.le_of_ble_eq_true rfl) ⟨Nat.le_of_ble_eq_true rfl, Nat.le_of_ble_eq_true rfl⟩ ⟨Nat.le_of_ble_eq_true rfl, Nat.le_of_ble_eq_true rfl⟩ (fun zr41 zu41 H locs hw41 hP9 hD9 hS9 => ?_)
            clear hP hD hS
            obtain ⟨ta2_42, ts2_43, tk2_44, tm2_45, tr2_46, fq2_47, pq2_48, ow2_49, un2_50, nf2_51, fco2_52, ga2_53, nw2_54⟩ := zu41
            refine reW [wO d0 10 [.ref t0, .ref d1, .ref h0, .ref f0, .int (nI ow2_49), .int wt, .int dt, .int vv, .int fq2_47, .int pq2_48], wO t0 9 [.ref t1, .ref t2, .int (nI tn), .int (nI ta2_42), .int (nI ts2_43), .int (nI tk2_44), .long tm2_45, .int tr2_46], wI (cy 0) t1 1600 (fby), (t2, .inl (cy 2, 24, .inr (.inl (fky)))), wO h0 4 [.ref h1, .ref h2, .ref h3, .ref h4, .ref h5, .ref h6, .ref h7, .ref h8, .ref h9, .ref h10, .ref h11, hv0, hv1, hv2, hv3, .int (nI un2_50)], wO f0 3 [.ref f1, .ref f2, .int (nI nf2_51), y3], wI (cy 1) f1 280 (fco2_52)] hP9 hD9 hS9 (fun hP hD hS => ?_)
            clear hP9 hD9 hS9
            refine W.widen (k := 0) (n := 0) (Nat.le_of_ble_eq_true rfl) (Nat.le_of_ble_eq_true rfl) ?_
            replace hw41 : (ta2_42 ≤ tn) ∧ (tk2_44 ≤ 123) ∧ (nf2_51 ≤ 280) ∧ (cOK fco2_52 nf2_51) ∧ (ow2_49 ≤ 30) ∧ (un2_50 ≤ 60) ∧ ((zr41 = 1 ∧ (okS (knd fby tn) (fin fby tn) (cdF fby tn) 7 6 (fin fby tn gq22) oq22 uq22 ga2_53 ow2_49 un2_50 nw2_54) ∧ (fq = fq2_47) ∧ (pq = pq2_48) ∧ (tkC fby tn ga2_53 ta2_42 ts2_43 tk2_44 tm2_45 tr2_46) ∧ ((fin fby tn gq22) < ga2_53 ∧ ga2_53 ≤ tn) ∧ (exC fa14_22 nq22 fco2_52 nf2_51 nw2_54) ∧ (nf2_51 + 3 * oq22 + 1 ≤ nq22 + 3 * ow2_49 ∧ oq22 < ow2_49)) ∨ (zr41 = 0 ∧ (noS (knd fby tn) (fin fby tn) 7 6 (fin fby tn gq22) oq22 uq22 ga2_53) ∧ (flt fby tn ga2_53 2 fq2_47 pq2_48))) := hw41
            obtain ⟨f_55, f_56, f_57, f_58, f_59, f_60, f_61⟩ := hw41
            rcases f_61 with ⟨hz_69, a_62, a_63, a_64, a_65, a_66, a_67, a_68⟩ | ⟨hz_72, a_70, a_71⟩
            · subst hz_69
              subst a_63
              subst a_64
              have hg_a_66 := a_66
              have hl_a_68 := a_68
              refine lv_istore_n (lv' := [(2, .int 1), (4, .int (nI kq22)), (3, .int (nI i22)), (0, .ref d0), (1, .int 6)]) hx hb dX10_takeTerm_53 rfl hl (by decide) rfl (fun ls hl => ?_)
              refine lv_aload_n hx hb dX10_takeTerm_54 rfl (lv_at hl 3 rfl) ?_
              refine va_get (D := D) (ci := 10) (v := .ref f0) (C := RX10) (T := TX10) (N := 10) hx hb hg i_X10 hown hK hP 0 rfl rfl 3 (by decide) (hg _ m_258) (fun _ h9 => h9) rfl dX10_takeTerm_55 ?_
              refine lv_iload hx hb dX10_takeTerm_58 (lv_at hl 1 rfl) ?_
              refine x_callVv (q := (RX3, TX3, 4)) (ci := 3) (q0 := 0) (wr := [wO d0 10 [.ref t0, .ref d1, .ref h0, .ref f0, .int (nI ow2_49), .int wt, .int dt, .int vv, .int fq, .int pq], wO t0 9 [.ref t1, .ref t2, .int (nI tn), .int (nI ta2_42), .int (nI ts2_43), .int (nI tk2_44), .long tm2_45, .int tr2_46], wI (cy 0) t1 1600 (fby), (t2, .inl (cy 2, 24, .inr (.inl (fky)))), wO h0 4 [.ref h1, .ref h2, .ref h3, .ref h4, .ref h5, .ref h6, .ref h7, .ref h8, .ref h9, .ref h10, .ref h11, hv0, hv1, hv2, hv3, .int (nI un2_50)]]) (rest := []) ⟨hx, hb, hml, hown, hg, hl.1⟩ k_X10_182 (s_addDeed9 l D cy f0 f1 f2 nf2_51 y3 fco2_52 kq22 (by omega) (f_58) (by omega)) E0_blind hK hP hD hS hA [5, 6] [0, 1, 2, 3, 4] ⟨rfl, rfl, by decide +kernel, by decide +kernel, by decide +kernel⟩ rfl rfl (fun _ _ _ => trivial) dX10_takeTerm_60 rfl rfl (Nat.le_of_ble_eq_true rfl) ⟨Nat.le_of_ble_eq_true rfl, Nat.le_of_ble_eq_true rfl⟩ ⟨Nat.le_of_ble_eq_true rfl, Nat.le_of_ble_eq_true rfl⟩ (fun zu73 H locs hw73 hP9 hD9 hS9 => ?_)
              clear hP hD hS
              obtain ⟨n2_74, fc2_75⟩ := zu73
              refine reW [wO d0 10 [.ref t0, .ref d1, .ref h0, .ref f0, .int (nI ow2_49), .int wt, .int dt, .int vv, .int fq, .int pq], wO t0 9 [.ref t1, .ref t2, .int (nI tn), .int (nI ta2_42), .int (nI ts2_43), .int (nI tk2_44), .long tm2_45, .int tr2_46], wI (cy 0) t1 1600 (fby), (t2, .inl (cy 2, 24, .inr (.inl (fky)))), wO h0 4 [.ref h1, .ref h2, .ref h3, .ref h4, .ref h5, .ref h6, .ref h7, .ref h8, .ref h9, .ref h10, .ref h11, hv0, hv1, hv2, hv3, .int (nI un2_50)], wO f0 3 [.ref f1, .ref f2, .int (nI n2_74), y3], wI (cy 1) f1 280 (fc2_75)] hP9 hD9 hS9 (fun hP hD hS => ?_)
              clear hP9 hD9 hS9
              refine W.widen (k := 0) (n := 0) (Nat.le_of_ble_eq_true rfl) (Nat.le_of_ble_eq_true rfl) ?_
              replace hw73 : (n2_74 = nf2_51 + 1) ∧ (cOK fc2_75 n2_74) ∧ (exC fco2_52 nf2_51 fc2_75 n2_74 [nI (20000 + kq22)]) := hw73
              obtain ⟨f_76, f_77, f_78⟩ := hw73
              refine lv_iinc (v := nI (i22 + 1)) (lv' := [(3, .int (nI (i22 + 1))), (2, .int 1), (4, .int (nI kq22)), (0, .ref d0), (1, .int 6)]) hx hb dX10_takeTerm_63 hl (k := 2) rfl (nI_add i22 1) (by decide) rfl (fun ls hl => ?_)
              refine lv_goto (tgt := 8) hx hb dX10_takeTerm_66 (by decide) ?_
              exact ih22  1 ((i22 + 1)) ta2_42 ts2_43 tk2_44 tm2_45 tr2_46 ow2_49 fq pq un2_50 n2_74 ga2_53 ((nw22 ++ (nw2_54 ++ [ded (sgM (knd fby tn gq22))]))) fc2_75 f_77 (by omega) (by omega) (by omega) (by omega) (by omega) (by omega) (Or.inl ⟨rfl, inS_step lvP67 hin9 hop.1 hop.2 a_62, a_65, by omega, by omega, by omega, rfl, rfl, (exC_tr hex9 (exC_tr a_67 (exC_dd f_78 hop.1 hkk))), by omega, by omega⟩) (by omega) _ _ (hP.sub [0, 1, 2, 3, 4, 5, 6] rfl) (hD.sub [0, 1, 2, 3, 4, 5, 6] (by decide +kernel) rfl) hS ls (lv_sub hl [0, 1, 3, 4] rfl)
            · subst hz_72
              refine lv_istore_n (lv' := [(2, .int 0), (4, .int (nI kq22)), (3, .int (nI i22)), (0, .ref d0), (1, .int 6)]) hx hb dX10_takeTerm_53 rfl hl (by decide) rfl (fun ls hl => ?_)
              refine lv_aload_n hx hb dX10_takeTerm_54 rfl (lv_at hl 3 rfl) ?_
              refine va_get (D := D) (ci := 10) (v := .ref f0) (C := RX10) (T := TX10) (N := 10) hx hb hg i_X10 hown hK hP 0 rfl rfl 3 (by decide) (hg _ m_258) (fun _ h9 => h9) rfl dX10_takeTerm_55 ?_
              refine lv_iload hx hb dX10_takeTerm_58 (lv_at hl 1 rfl) ?_
              refine x_callVv (q := (RX3, TX3, 4)) (ci := 3) (q0 := 0) (wr := [wO d0 10 [.ref t0, .ref d1, .ref h0, .ref f0, .int (nI ow2_49), .int wt, .int dt, .int vv, .int fq2_47, .int pq2_48], wO t0 9 [.ref t1, .ref t2, .int (nI tn), .int (nI ta2_42), .int (nI ts2_43), .int (nI tk2_44), .long tm2_45, .int tr2_46], wI (cy 0) t1 1600 (fby), (t2, .inl (cy 2, 24, .inr (.inl (fky)))), wO h0 4 [.ref h1, .ref h2, .ref h3, .ref h4, .ref h5, .ref h6, .ref h7, .ref h8, .ref h9, .ref h10, .ref h11, hv0, hv1, hv2, hv3, .int (nI un2_50)]]) (rest := []) ⟨hx, hb, hml, hown, hg, hl.1⟩ k_X10_182 (s_addDeed l D cy f0 f1 f2 nf2_51 y3 fco2_52 kq22 (by omega) (f_58) (by omega)) E0_blind hK hP hD hS hA [5, 6] [0, 1, 2, 3, 4] ⟨rfl, rfl, by decide +kernel, by decide +kernel, by decide +kernel⟩ rfl rfl (fun _ _ _ => trivial) dX10_takeTerm_60 rfl rfl (Nat.le_of_ble_eq_true rfl) ⟨Nat.le_of_ble_eq_true rfl, Nat.le_of_ble_eq_true rfl⟩ ⟨Nat.le_of_ble_eq_true rfl, Nat.le_of_ble_eq_true rfl⟩ (fun zu79 H locs hw79 hP9 hD9 hS9 => ?_)
              clear hP hD hS
              obtain ⟨n2_80, fc2_81⟩ := zu79
              refine reW [wO d0 10 [.ref t0, .ref d1, .ref h0, .ref f0, .int (nI ow2_49), .int wt, .int dt, .int vv, .int fq2_47, .int pq2_48], wO t0 9 [.ref t1, .ref t2, .int (nI tn), .int (nI ta2_42), .int (nI ts2_43), .int (nI tk2_44), .long tm2_45, .int tr2_46], wI (cy 0) t1 1600 (fby), (t2, .inl (cy 2, 24, .inr (.inl (fky)))), wO h0 4 [.ref h1, .ref h2, .ref h3, .ref h4, .ref h5, .ref h6, .ref h7, .ref h8, .ref h9, .ref h10, .ref h11, hv0, hv1, hv2, hv3, .int (nI un2_50)], wO f0 3 [.ref f1, .ref f2, .int (nI n2_80), y3], wI (cy 1) f1 280 (fc2_81)] hP9 hD9 hS9 (fun hP hD hS => ?_)
              clear hP9 hD9 hS9
              refine W.widen (k := 0) (n := 0) (Nat.le_of_ble_eq_true rfl) (Nat.le_of_ble_eq_true rfl) ?_
              replace hw79 : (n2_80 ≤ 280) ∧ (cOK fc2_81 n2_80) := hw79
              obtain ⟨f_82, f_83⟩ := hw79
              refine lv_iinc (v := nI (i22 + 1)) (lv' := [(3, .int (nI (i22 + 1))), (2, .int 0), (4, .int (nI kq22)), (0, .ref d0), (1, .int 6)]) hx hb dX10_takeTerm_63 hl (k := 2) rfl (nI_add i22 1) (by decide) rfl (fun ls hl => ?_)
              refine lv_goto (tgt := 8) hx hb dX10_takeTerm_66 (by decide) ?_
              exact ih22  0 ((i22 + 1)) ta2_42 ts2_43 tk2_44 tm2_45 tr2_46 ow2_49 fq2_47 pq2_48 un2_50 n2_80 ga2_53 ([]) fc2_81 f_83 (by omega) (by omega) (by omega) (by omega) (by omega) (by omega) (Or.inr ⟨rfl, inS_bad lvP67 hin9 hop.1 hop.2 a_70, a_71⟩) (by omega) _ _ (hP.sub [0, 1, 2, 3, 4, 5, 6] rfl) (hD.sub [0, 1, 2, 3, 4, 5, 6] (by decide +kernel) rfl) hS ls (lv_sub hl [0, 1, 3, 4] rfl)
          · subst hz_30
            refine lv_if_eq (tgt := 69) hx hb dX10_takeTerm_29 (by decide) (fun _ => ?_) (fun h => absurd (by decide) h)
            refine lv_iload_n hx hb dX10_takeTerm_69 rfl (lv_at hl 1 rfl) ?_
            exact x_zret hQ hx hb hr hlocks hK hP hD hS rfl dX10_takeTerm_70 (aq22, sq22, kq22, fl5_22, rq22, fq, pq, oq22, uq22, nq22, fa14_22, gq22, nw22) (⟨(show aq22 ≤ tn from by omega), (show kq22 ≤ 123 from by omega), (show nq22 ≤ 280 from by omega), ha15_22, (show oq22 ≤ 30 from by omega), (show uq22 ≤ 60 from by omega), (show ((1 : Int32) = 1 ∧ (okS (knd fby tn) (fin fby tn) (cdF fby tn) 6 6 ga ow un gq22 oq22 uq22 nw22) ∧ (fq = fq) ∧ (pq = pq) ∧ (tkC fby tn gq22 aq22 sq22 kq22 fl5_22 rq22) ∧ (ga < gq22 ∧ gq22 ≤ tn) ∧ (exC fco nf fa14_22 nq22 nw22) ∧ (nq22 + 3 * ow + 1 ≤ nf + 3 * oq22 ∧ ow < oq22)) ∨ ((1 : Int32) = 0 ∧ (noS (knd fby tn) (fin fby tn) 6 6 ga ow un gq22) ∧ (flt fby tn gq22 2 fq pq)) from Or.inl ⟨rfl, (inS_end lvP67 hin9 (sg_ne6 (by have h9 := htk9.2.2.1; omega))), (rfl), (rfl), (htk9), (⟨by omega, by omega⟩), (hex9), (⟨by omega, by omega⟩)⟩)⟩) [0, 1, 2, 3, 4, 5, 6] (by decide +kernel) rfl (Nat.le_of_ble_eq_true rfl) (Nat.le_of_ble_eq_true rfl)
      · subst hlb
        refine lv_iload_n hx hb dX10_takeTerm_8 rfl (lv_at hl 0 rfl) ?_
        refine lv_sipush (v := 1600) hx hb dX10_takeTerm_9 (by decide) ?_
        refine lv_icmp_ge (tgt := 69) hx hb dX10_takeTerm_12 (by decide) (fun c_84 => ?_) (fun c_84 => ?_)
        · have q_85 : 1600 ≤ i22 := q_le (a := 1600) (b := i22) rfl rfl (by omega) (by omega) c_84
          refine lv_iload_n hx hb dX10_takeTerm_69 rfl (lv_at hl 1 rfl) ?_
          exact x_zret hQ hx hb hr hlocks hK hP hD hS rfl dX10_takeTerm_70 (aq22, sq22, kq22, fl5_22, rq22, fz22, pz22, oq22, uq22, nq22, fa14_22, gq22, []) (⟨(show aq22 ≤ tn from by omega), (show kq22 ≤ 123 from by omega), (show nq22 ≤ 280 from by omega), ha15_22, (show oq22 ≤ 30 from by omega), (show uq22 ≤ 60 from by omega), (show ((0 : Int32) = 1 ∧ (okS (knd fby tn) (fin fby tn) (cdF fby tn) 6 6 ga ow un gq22 oq22 uq22 ([])) ∧ (fq = fz22) ∧ (pq = pz22) ∧ (tkC fby tn gq22 aq22 sq22 kq22 fl5_22 rq22) ∧ (ga < gq22 ∧ gq22 ≤ tn) ∧ (exC fco nf fa14_22 nq22 ([])) ∧ (nq22 + 3 * ow + 1 ≤ nf + 3 * oq22 ∧ ow < oq22)) ∨ ((0 : Int32) = 0 ∧ (noS (knd fby tn) (fin fby tn) 6 6 ga ow un gq22) ∧ (flt fby tn gq22 2 fz22 pz22)) from Or.inr (⟨rfl, (hno9), (hfl9)⟩))⟩) [0, 1, 2, 3, 4, 5, 6] (by decide +kernel) rfl (Nat.le_of_ble_eq_true rfl) (Nat.le_of_ble_eq_true rfl)
        · have q_85 : i22 < 1600 := q_nle (a := 1600) (b := i22) rfl rfl (by omega) (by omega) c_84
          refine lv_iload_n hx hb dX10_takeTerm_15 rfl (lv_at hl 1 rfl) ?_
          refine lv_if_eq (tgt := 69) hx hb dX10_takeTerm_16 (by decide) (fun _ => ?_) (fun h => absurd (by decide) h)
          refine lv_iload_n hx hb dX10_takeTerm_69 rfl (lv_at hl 1 rfl) ?_
          exact x_zret hQ hx hb hr hlocks hK hP hD hS rfl dX10_takeTerm_70 (aq22, sq22, kq22, fl5_22, rq22, fz22, pz22, oq22, uq22, nq22, fa14_22, gq22, []) (⟨(show aq22 ≤ tn from by omega), (show kq22 ≤ 123 from by omega), (show nq22 ≤ 280 from by omega), ha15_22, (show oq22 ≤ 30 from by omega), (show uq22 ≤ 60 from by omega), (show ((0 : Int32) = 1 ∧ (okS (knd fby tn) (fin fby tn) (cdF fby tn) 6 6 ga ow un gq22 oq22 uq22 ([])) ∧ (fq = fz22) ∧ (pq = pz22) ∧ (tkC fby tn gq22 aq22 sq22 kq22 fl5_22 rq22) ∧ (ga < gq22 ∧ gq22 ≤ tn) ∧ (exC fco nf fa14_22 nq22 ([])) ∧ (nq22 + 3 * ow + 1 ≤ nf + 3 * oq22 ∧ ow < oq22)) ∨ ((0 : Int32) = 0 ∧ (noS (knd fby tn) (fin fby tn) 6 6 ga ow un gq22) ∧ (flt fby tn gq22 2 fz22 pz22)) from Or.inr (⟨rfl, (hno9), (hfl9)⟩))⟩) [0, 1, 2, 3, 4, 5, 6] (by decide +kernel) rfl (Nat.le_of_ble_eq_true rfl) (Nat.le_of_ble_eq_true rfl)
  exact loop22 _ zr1 0 ta2_2 ts2_3 tk2_4 tm2_5 tr2_6 ow2_9 fq2_7 pq2_8 un2_10 nf2_11 ga2_13 nw2_14 fco2_12 f_18 (by omega) (by omega) (by omega) (by omega) (by omega) (by omega) (by rcases f_21 with ⟨hx0, hxk, hxq, hxp, hxt, hxg, hxe, hxm⟩ | ⟨hx0, hxn, hxl⟩; exact Or.inl ⟨hx0, inS_0 lvP67 hxk, hxt, hxg.1, hxg.2, by omega, hxq, hxp, hxe, hxm.1, hxm.2⟩; exact Or.inr ⟨hx0, noS_0 lvP67 hxn, hxl⟩) (Nat.le_refl _) _ _ (hP.sub [0, 1, 2, 3, 4, 5, 6] rfl) (hD.sub [0, 1, 2, 3, 4, 5, 6] (by decide +kernel) rfl) hS ls (lv_sub hl [0, 1, 2, 3] rfl)
set_option maxHeartbeats 1000000 in
set_option maxRecDepth 100000 in
theorem s_takeSum6 (l : Launch) (D : va_G) (cy : Nat → ClassId) (adK : Nat → Nat) (adV : Nat → Nat) (d0 : Nat) (d1 : Nat) (wt : Int32) (dt : Int32) (vv : Int32) (fq : Int32) (pq : Int32) (t0 : Nat) (t1 : Nat) (t2 : Nat) (tn : Nat) (ta : Nat) (ts : Nat) (tk : Nat) (tm : Int64) (tr : Int32) (fby : Nat → Int32) (fky : Nat → Int64) (h0 : Nat) (h1 : Nat) (h2 : Nat) (h3 : Nat) (h4 : Nat) (h5 : Nat) (h6 : Nat) (h7 : Nat) (h8 : Nat) (h9 : Nat) (h10 : Nat) (h11 : Nat) (hv0 : Value) (hv1 : Value) (hv2 : Value) (hv3 : Value) (ow : Nat) (un : Nat) (f0 : Nat) (f1 : Nat) (f2 : Nat) (nf : Nat) (y3 : Value) (fco : Nat → Int32) (ga : Nat) (htn : tn ≤ 1600) (hta : ta ≤ tn) (htk : tk ≤ 123) (hti : tkC fby tn ga ta ts tk tm tr) (hky : kyOK fky) (hnf : nf ≤ 280) (hfc : cOK fco nf) (how : ow ≤ 30) (hun : un ≤ 60) (hga : ga ≤ tn) (hrm : nf + 90 ≤ 280 + 3 * ow) : XMi l D (tyL cy) (EV adK adV) yX10_takeSum cX10_takeSum 5 (some .boolean) (rmk 16 0 0) [.ref d0, .int 6] [wO d0 10 [.ref t0, .ref d1, .ref h0, .ref f0, .int (nI ow), .int wt, .int dt, .int vv, .int fq, .int pq], wO t0 9 [.ref t1, .ref t2, .int (nI tn), .int (nI ta), .int (nI ts), .int (nI tk), .long tm, .int tr], wI (cy 0) t1 1600 (fby), (t2, .inl (cy 2, 24, .inr (.inl (fky)))), wO h0 4 [.ref h1, .ref h2, .ref h3, .ref h4, .ref h5, .ref h6, .ref h7, .ref h8, .ref h9, .ref h10, .ref h11, hv0, hv1, hv2, hv3, .int (nI un)], wO f0 3 [.ref f1, .ref f2, .int (nI nf), y3], wI (cy 1) f1 280 (fco)] (fun (r : Int32) (u : Nat × Nat × Nat × Int64 × Int32 × Int32 × Int32 × Nat × Nat × Nat × (Nat → Int32) × Nat × (List Int32)) => (u.1 ≤ tn) ∧ (u.2.2.1 ≤ 123) ∧ (u.2.2.2.2.2.2.2.2.2.1 ≤ 280) ∧ (cOK u.2.2.2.2.2.2.2.2.2.2.1 u.2.2.2.2.2.2.2.2.2.1) ∧ (u.2.2.2.2.2.2.2.1 ≤ 30) ∧ (u.2.2.2.2.2.2.2.2.1 ≤ 60) ∧ ((r = 1 ∧ (okS (knd fby tn) (fin fby tn) (cdF fby tn) 5 6 ga ow un u.2.2.2.2.2.2.2.2.2.2.2.1 u.2.2.2.2.2.2.2.1 u.2.2.2.2.2.2.2.2.1 u.2.2.2.2.2.2.2.2.2.2.2.2) ∧ (fq = u.2.2.2.2.2.1) ∧ (pq = u.2.2.2.2.2.2.1) ∧ (tkC fby tn u.2.2.2.2.2.2.2.2.2.2.2.1 u.1 u.2.1 u.2.2.1 u.2.2.2.1 u.2.2.2.2.1) ∧ (ga < u.2.2.2.2.2.2.2.2.2.2.2.1 ∧ u.2.2.2.2.2.2.2.2.2.2.2.1 ≤ tn) ∧ (exC fco nf u.2.2.2.2.2.2.2.2.2.2.1 u.2.2.2.2.2.2.2.2.2.1 u.2.2.2.2.2.2.2.2.2.2.2.2) ∧ (u.2.2.2.2.2.2.2.2.2.1 + 3 * ow + 1 ≤ nf + 3 * u.2.2.2.2.2.2.2.1 ∧ ow < u.2.2.2.2.2.2.2.1)) ∨ (r = 0 ∧ (noS (knd fby tn) (fin fby tn) 5 6 ga ow un u.2.2.2.2.2.2.2.2.2.2.2.1) ∧ (flt fby tn u.2.2.2.2.2.2.2.2.2.2.2.1 2 u.2.2.2.2.2.1 u.2.2.2.2.2.2.1)))) (fun (u : Nat × Nat × Nat × Int64 × Int32 × Int32 × Int32 × Nat × Nat × Nat × (Nat → Int32) × Nat × (List Int32)) => [wO d0 10 [.ref t0, .ref d1, .ref h0, .ref f0, .int (nI u.2.2.2.2.2.2.2.1), .int wt, .int dt, .int vv, .int u.2.2.2.2.2.1, .int u.2.2.2.2.2.2.1], wO t0 9 [.ref t1, .ref t2, .int (nI tn), .int (nI u.1), .int (nI u.2.1), .int (nI u.2.2.1), .long u.2.2.2.1, .int u.2.2.2.2.1], wI (cy 0) t1 1600 (fby), (t2, .inl (cy 2, 24, .inr (.inl (fky)))), wO h0 4 [.ref h1, .ref h2, .ref h3, .ref h4, .ref h5, .ref h6, .ref h7, .ref h8, .ref h9, .ref h10, .ref h11, hv0, hv1, hv2, hv3, .int (nI u.2.2.2.2.2.2.2.2.1)], wO f0 3 [.ref f1, .ref f2, .int (nI u.2.2.2.2.2.2.2.2.2.1), y3], wI (cy 1) f1 280 (u.2.2.2.2.2.2.2.2.2.2.1)]) := by
  refine XMi.start (by decide) (Nat.le_of_ble_eq_true rfl) ?_
  intro p e s m below meth c args A ls Q hat hQ
  obtain ⟨hx, hb, hr, hml, hown, hg, hlocks, hin, hK, hA, hP, hD, hS, hE, hl⟩ := hat
  have hown : s.vm.findClass RX10 = some m.cls := hown
  have hl : lv_has ls 5 [(0, .ref d0), (1, .int 6)] := hl
  refine lv_aload_n hx hb dX10_takeSum_0 rfl (lv_at hl 0 rfl) ?_
  refine lv_iload_n hx hb dX10_takeSum_1 rfl (lv_at hl 1 rfl) ?_
  refine x_callVi (q := (RX10, TX10, 10)) (ci := 10) (q0 := 0) (wr := []) (rest := []) ⟨hx, hb, hml, hown, hg, hl.1⟩ k_X10_195 (s_takeTerm6 l D cy adK adV d0 d1 wt dt vv fq pq t0 t1 t2 tn ta ts tk tm tr fby fky h0 h1 h2 h3 h4 h5 h6 h7 h8 h9 h10 h11 hv0 hv1 hv2 hv3 ow un f0 f1 f2 nf y3 fco ga (by omega) (by omega) (by omega) (hti) (hky) (by omega) (hfc) (by omega) (by omega) (by omega) (by omega)) EV_blind hK hP hD hS hA [0, 1, 2, 3, 4, 5, 6] [] ⟨rfl, rfl, by decide +kernel, by decide +kernel, by decide +kernel⟩ rfl rfl (fun U hU hW => EV_pass hE hS (va_free hD hS hA [0, 1, 2, 3, 4, 5, 6] rfl) hU hW) dX10_takeSum_2 rfl rfl (Nat.le_of_ble_eq_true rfl) ⟨Nat.le_of_ble_eq_true rfl, Nat.le_of_ble_eq_true rfl⟩ ⟨Nat.le_of_ble_eq_true rfl, Nat.le_of_ble_eq_true rfl⟩ (fun zr1 zu1 H locs hw1 hP9 hD9 hS9 => ?_)
  clear hP hD hS
  obtain ⟨ta2_2, ts2_3, tk2_4, tm2_5, tr2_6, fq2_7, pq2_8, ow2_9, un2_10, nf2_11, fco2_12, ga2_13, nw2_14⟩ := zu1
  refine reW [wO d0 10 [.ref t0, .ref d1, .ref h0, .ref f0, .int (nI ow2_9), .int wt, .int dt, .int vv, .int fq2_7, .int pq2_8], wO t0 9 [.ref t1, .ref t2, .int (nI tn), .int (nI ta2_2), .int (nI ts2_3), .int (nI tk2_4), .long tm2_5, .int tr2_6], wI (cy 0) t1 1600 (fby), (t2, .inl (cy 2, 24, .inr (.inl (fky)))), wO h0 4 [.ref h1, .ref h2, .ref h3, .ref h4, .ref h5, .ref h6, .ref h7, .ref h8, .ref h9, .ref h10, .ref h11, hv0, hv1, hv2, hv3, .int (nI un2_10)], wO f0 3 [.ref f1, .ref f2, .int (nI nf2_11), y3], wI (cy 1) f1 280 (fco2_12)] hP9 hD9 hS9 (fun hP hD hS => ?_)
  clear hP9 hD9 hS9
  refine W.widen (k := 0) (n := 0) (Nat.le_of_ble_eq_true rfl) (Nat.le_of_ble_eq_true rfl) ?_
  replace hw1 : (ta2_2 ≤ tn) ∧ (tk2_4 ≤ 123) ∧ (nf2_11 ≤ 280) ∧ (cOK fco2_12 nf2_11) ∧ (ow2_9 ≤ 30) ∧ (un2_10 ≤ 60) ∧ ((zr1 = 1 ∧ (okS (knd fby tn) (fin fby tn) (cdF fby tn) 6 6 ga ow un ga2_13 ow2_9 un2_10 nw2_14) ∧ (fq = fq2_7) ∧ (pq = pq2_8) ∧ (tkC fby tn ga2_13 ta2_2 ts2_3 tk2_4 tm2_5 tr2_6) ∧ (ga < ga2_13 ∧ ga2_13 ≤ tn) ∧ (exC fco nf fco2_12 nf2_11 nw2_14) ∧ (nf2_11 + 3 * ow + 1 ≤ nf + 3 * ow2_9 ∧ ow < ow2_9)) ∨ (zr1 = 0 ∧ (noS (knd fby tn) (fin fby tn) 6 6 ga ow un ga2_13) ∧ (flt fby tn ga2_13 2 fq2_7 pq2_8))) := hw1
  obtain ⟨f_15, f_16, f_17, f_18, f_19, f_20, f_21⟩ := hw1
  refine lv_istore_n (lv' := [(2, .int zr1), (0, .ref d0), (1, .int 6)]) hx hb dX10_takeSum_5 rfl hl (by decide) rfl (fun ls hl => ?_)
  refine lv_iconst (v := 0) hx hb dX10_takeSum_6 (by decide) ?_
  refine lv_istore_n (lv' := [(3, .int 0), (2, .int zr1), (0, .ref d0), (1, .int 6)]) hx hb dX10_takeSum_7 rfl hl (by decide) rfl (fun ls hl => ?_)
  have loop22 : ∀ (zn : Nat) (lb2_22 : Int32) (i22 : Nat) (aq22 : Nat) (sq22 : Nat) (kq22 : Nat) (fl5_22 : Int64) (rq22 : Int32) (oq22 : Nat) (fz22 : Int32) (pz22 : Int32) (uq22 : Nat) (nq22 : Nat) (gq22 : Nat) (nw22 : List Int32) (fa14_22 : Nat → Int32), (cOK fa14_22 nq22) → (i22 ≤ 1600) → (aq22 ≤ tn) → (kq22 ≤ 123) → (nq22 ≤ 280) → (oq22 ≤ 30) → (uq22 ≤ 60) → ((lb2_22 = 1 ∧ inS (knd fby tn) (fin fby tn) (cdF fby tn) 5 6 6 ga ow un gq22 oq22 uq22 nw22 ∧ tkC fby tn gq22 aq22 sq22 kq22 fl5_22 rq22 ∧ ga < gq22 ∧ gq22 ≤ tn ∧ i22 < gq22 ∧ fq = fz22 ∧ pq = pz22 ∧ exC fco nf fa14_22 nq22 nw22 ∧ nq22 + 3 * ow + 1 ≤ nf + 3 * oq22 ∧ ow < oq22) ∨ (lb2_22 = 0 ∧ noS (knd fby tn) (fin fby tn) 5 6 ga ow un gq22 ∧ flt fby tn gq22 2 fz22 pz22)) → 1600 - i22 + 1 ≤ zn → ∀ (H : Heap) (locs : List Loc), va_P D vwCl [wO d0 10 [.ref t0, .ref d1, .ref h0, .ref f0, .int (nI oq22), .int wt, .int dt, .int vv, .int fz22, .int pz22], wO t0 9 [.ref t1, .ref t2, .int (nI tn), .int (nI aq22), .int (nI sq22), .int (nI kq22), .long fl5_22, .int rq22], wI (cy 0) t1 1600 (fby), (t2, .inl (cy 2, 24, .inr (.inl (fky)))), wO h0 4 [.ref h1, .ref h2, .ref h3, .ref h4, .ref h5, .ref h6, .ref h7, .ref h8, .ref h9, .ref h10, .ref h11, hv0, hv1, hv2, hv3, .int (nI uq22)], wO f0 3 [.ref f1, .ref f2, .int (nI nq22), y3], wI (cy 1) f1 280 (fa14_22)] H → va_D A [wO d0 10 [.ref t0, .ref d1, .ref h0, .ref f0, .int (nI oq22), .int wt, .int dt, .int vv, .int fz22, .int pz22], wO t0 9 [.ref t1, .ref t2, .int (nI tn), .int (nI aq22), .int (nI sq22), .int (nI kq22), .long fl5_22, .int rq22], wI (cy 0) t1 1600 (fby), (t2, .inl (cy 2, 24, .inr (.inl (fky)))), wO h0 4 [.ref h1, .ref h2, .ref h3, .ref h4, .ref h5, .ref h6, .ref h7, .ref h8, .ref h9, .ref h10, .ref h11, hv0, hv1, hv2, hv3, .int (nI uq22)], wO f0 3 [.ref f1, .ref f2, .int (nI nq22), y3], wI (cy 1) f1 280 (fa14_22)] → va_S A s.heap H locs → ∀ ls : Array Slot, lv_has ls 5 [(3, .int (nI i22)), (2, .int lb2_22), (0, .ref d0), (1, .int 6)] → W p l e (rmk 16 0 0) s m args below meth c H locs 0 0 Q (F0 m 8 ls []) := by
    try clear hP hD hS
    intro zn
    induction zn with
    | zero => intro lb2_22 i22 aq22 sq22 kq22 fl5_22 rq22 oq22 fz22 pz22 uq22 nq22 gq22 nw22 fa14_22 _ _ _ _ _ _ _ _ hz; exact absurd hz (by omega)
    | succ zn ih22 =>
      intro lb2_22 i22 aq22 sq22 kq22 fl5_22 rq22 oq22 fz22 pz22 uq22 nq22 gq22 nw22 fa14_22 ha15_22 hf0_22 hf1_22 hf2_22 hf3_22 hf4_22 hf5_22 hf6_22 hmu22 H locs hP hD hS ls hl
      rcases hf6_22 with ⟨hlb, hin9, htk9, hg1, hg2, hg3, hfz, hpz, hex9, hln9⟩ | ⟨hlb, hno9, hfl9⟩
      · subst hlb hfz hpz
        refine lv_iload_n hx hb dX10_takeSum_8 rfl (lv_at hl 0 rfl) ?_
        refine lv_sipush (v := 1600) hx hb dX10_takeSum_9 (by decide) ?_
        refine lv_icmp_ge (tgt := 80) hx hb dX10_takeSum_12 (by decide) (fun c_23 => ?_) (fun c_23 => ?_)
        · have q_24 : 1600 ≤ i22 := q_le (a := 1600) (b := i22) rfl rfl (by omega) (by omega) c_23
          exact absurd q_24 (by omega)
        · have q_24 : i22 < 1600 := q_nle (a := 1600) (b := i22) rfl rfl (by omega) (by omega) c_23
          refine lv_iload_n hx hb dX10_takeSum_15 rfl (lv_at hl 1 rfl) ?_
          refine lv_if_eq (tgt := 80) hx hb dX10_takeSum_16 (by decide) (fun h => absurd h (by decide)) (fun _ => ?_)
          refine lv_aload_n hx hb dX10_takeSum_19 rfl (lv_at hl 2 rfl) ?_
          refine va_get (D := D) (ci := 10) (v := .ref t0) (C := RX10) (T := TX10) (N := 10) hx hb hg i_X10 hown hK hP 0 rfl rfl 0 (by decide) (hg _ m_255) (fun _ h9 => h9) rfl dX10_takeSum_20 ?_
          refine va_get (D := D) (ci := 9) (v := .int (nI kq22)) (C := RX9) (T := TX9) (N := 8) hx hb hg i_X9 hown hK hP 1 rfl rfl 5 (by decide) (hg _ m_222) (fun _ h9 => h9) rfl dX10_takeSum_23 ?_
          refine lv_bipush (v := 43) hx hb dX10_takeSum_26 (by decide) ?_
          refine lv_icmp_eq (tgt := 43) hx hb dX10_takeSum_28 (by decide) (fun c_25 => ?_) (fun c_25 => ?_)
          · have q_26 : kq22 = 43 := q_eq (a := kq22) (b := 43) rfl rfl (by omega) (by omega) c_25
            have hkk : kq22 = knd fby tn gq22 := by have h9 := htk9.2.2.1; omega
            have hop := sg_5 (show knd fby tn gq22 = 43 ∨ knd fby tn gq22 = 45 from by have h9 := htk9.2.2.1; omega)
            have hgt_27 : gq22 < fin fby tn gq22 ∧ fin fby tn gq22 ≤ tn := ⟨fin_gt (by have h9 := htk9.2.2.1; omega), fin_le (by omega)⟩
            refine lv_aload_n hx hb dX10_takeSum_43 rfl (lv_at hl 2 rfl) ?_
            refine va_get (D := D) (ci := 10) (v := .ref t0) (C := RX10) (T := TX10) (N := 10) hx hb hg i_X10 hown hK hP 0 rfl rfl 0 (by decide) (hg _ m_255) (fun _ h9 => h9) rfl dX10_takeSum_44 ?_
            refine va_get (D := D) (ci := 9) (v := .int (nI kq22)) (C := RX9) (T := TX9) (N := 8) hx hb hg i_X9 hown hK hP 1 rfl rfl 5 (by decide) (hg _ m_222) (fun _ h9 => h9) rfl dX10_takeSum_47 ?_
            refine lv_istore (lv' := [(4, .int (nI kq22)), (3, .int (nI i22)), (2, .int 1), (0, .ref d0), (1, .int 6)]) hx hb dX10_takeSum_50 hl (by decide) rfl (fun ls hl => ?_)
            refine lv_aload_n hx hb dX10_takeSum_52 rfl (lv_at hl 3 rfl) ?_
            refine va_get (D := D) (ci := 10) (v := .ref t0) (C := RX10) (T := TX10) (N := 10) hx hb hg i_X10 hown hK hP 0 rfl rfl 0 (by decide) (hg _ m_255) (fun _ h9 => h9) rfl dX10_takeSum_53 ?_
            refine x_callVv (q := (RX9, TX9, 8)) (ci := 9) (q0 := 0) (wr := [wO d0 10 [.ref t0, .ref d1, .ref h0, .ref f0, .int (nI oq22), .int wt, .int dt, .int vv, .int fq, .int pq], wO h0 4 [.ref h1, .ref h2, .ref h3, .ref h4, .ref h5, .ref h6, .ref h7, .ref h8, .ref h9, .ref h10, .ref h11, hv0, hv1, hv2, hv3, .int (nI uq22)], wO f0 3 [.ref f1, .ref f2, .int (nI nq22), y3], wI (cy 1) f1 280 (fa14_22)]) (rest := []) ⟨hx, hb, hml, hown, hg, hl.1⟩ k_X10_140 (s_next l D cy adK adV t0 t1 t2 tn aq22 sq22 kq22 fl5_22 rq22 fby fky (fin fby tn gq22) (by omega) (by omega) (htk9.2.1) (hky)) EV_blind hK hP hD hS hA [1, 2, 3] [0, 4, 5, 6] ⟨rfl, rfl, by decide +kernel, by decide +kernel, by decide +kernel⟩ rfl rfl (fun U hU hW => EV_pass hE hS (va_free hD hS hA [1, 2, 3] rfl) hU hW) dX10_takeSum_56 rfl rfl (Nat.le_of_ble_eq_true rfl) ⟨Nat.le_of_ble_eq_true rfl, Nat.le_of_ble_eq_true rfl⟩ ⟨Nat.le_of_ble_eq_true rfl, Nat.le_of_ble_eq_true rfl⟩ (fun zu28 H locs hw28 hP9 hD9 hS9 => ?_)
            clear hP hD hS
            obtain ⟨ta2_29, ts2_30, tk2_31, tm2_32, tr2_33⟩ := zu28
            refine reW [wO d0 10 [.ref t0, .ref d1, .ref h0, .ref f0, .int (nI oq22), .int wt, .int dt, .int vv, .int fq, .int pq], wO h0 4 [.ref h1, .ref h2, .ref h3, .ref h4, .ref h5, .ref h6, .ref h7, .ref h8, .ref h9, .ref h10, .ref h11, hv0, hv1, hv2, hv3, .int (nI uq22)], wO f0 3 [.ref f1, .ref f2, .int (nI nq22), y3], wI (cy 1) f1 280 (fa14_22), wO t0 9 [.ref t1, .ref t2, .int (nI tn), .int (nI ta2_29), .int (nI ts2_30), .int (nI tk2_31), .long tm2_32, .int tr2_33], wI (cy 0) t1 1600 (fby), (t2, .inl (cy 2, 24, .inr (.inl (fky))))] hP9 hD9 hS9 (fun hP hD hS => ?_)
            clear hP9 hD9 hS9
            refine W.widen (k := 0) (n := 0) (Nat.le_of_ble_eq_true rfl) (Nat.le_of_ble_eq_true rfl) ?_
            replace hw28 : (ta2_29 ≤ tn) ∧ (tk2_31 ≤ 123) ∧ (tkC fby tn (fin fby tn gq22) ta2_29 ts2_30 tk2_31 tm2_32 tr2_33) := hw28
            obtain ⟨f_34, f_35, f_36⟩ := hw28
            refine lv_aload_n hx hb dX10_takeSum_59 rfl (lv_at hl 3 rfl) ?_
            refine lv_iload_n hx hb dX10_takeSum_60 rfl (lv_at hl 4 rfl) ?_
            refine x_callVi (q := (RX10, TX10, 10)) (ci := 10) (q0 := 0) (wr := []) (rest := []) ⟨hx, hb, hml, hown, hg, hl.1⟩ k_X10_195 (s_takeTerm6 l D cy adK adV d0 d1 wt dt vv fq pq t0 t1 t2 tn ta2_29 ts2_30 tk2_31 tm2_32 tr2_33 fby fky h0 h1 h2 h3 h4 h5 h6 h7 h8 h9 h10 h11 hv0 hv1 hv2 hv3 oq22 uq22 f0 f1 f2 nq22 y3 fa14_22 (fin fby tn gq22) (by omega) (by omega) (by omega) (f_36) (hky) (by omega) (ha15_22) (by omega) (by omega) (by omega) (by omega)) EV_blind hK hP hD hS hA [0, 4, 5, 6, 1, 2, 3] [] ⟨rfl, rfl, by decide +kernel, by decide +kernel, by decide +kernel⟩ rfl rfl (fun U hU hW => EV_pass hE hS (va_free hD hS hA [0, 4, 5, 6, 1, 2, 3] rfl) hU hW) dX10_takeSum_61 rfl rfl (Nat.le_of_ble_eq_true rfl) ⟨Nat.le_of_ble_eq_true rfl, Nat.le_of_ble_eq_true rfl⟩ ⟨Nat.le_of_ble_eq_true rfl, Nat.le_of_ble_eq_true rfl⟩ (fun zr37 zu37 H locs hw37 hP9 hD9 hS9 => ?_)
            clear hP hD hS
            obtain ⟨ta2_38, ts2_39, tk2_40, tm2_41, tr2_42, fq2_43, pq2_44, ow2_45, un2_46, nf2_47, fco2_48, ga2_49, nw2_50⟩ := zu37
            refine reW [wO d0 10 [.ref t0, .ref d1, .ref h0, .ref f0, .int (nI ow2_45), .int wt, .int dt, .int vv, .int fq2_43, .int pq2_44], wO t0 9 [.ref t1, .ref t2, .int (nI tn), .int (nI ta2_38), .int (nI ts2_39), .int (nI tk2_40), .long tm2_41, .int tr2_42], wI (cy 0) t1 1600 (fby), (t2, .inl (cy 2, 24, .inr (.inl (fky)))), wO h0 4 [.ref h1, .ref h2, .ref h3, .ref h4, .ref h5, .ref h6, .ref h7, .ref h8, .ref h9, .ref h10, .ref h11, hv0, hv1, hv2, hv3, .int (nI un2_46)], wO f0 3 [.ref f1, .ref f2, .int (nI nf2_47), y3], wI (cy 1) f1 280 (fco2_48)] hP9 hD9 hS9 (fun hP hD hS => ?_)
            clear hP9 hD9 hS9
            refine W.widen (k := 0) (n := 0) (Nat.le_of_ble_eq_true rfl) (Nat.le_of_ble_eq_true rfl) ?_
            replace hw37 : (ta2_38 ≤ tn) ∧ (tk2_40 ≤ 123) ∧ (nf2_47 ≤ 280) ∧ (cOK fco2_48 nf2_47) ∧ (ow2_45 ≤ 30) ∧ (un2_46 ≤ 60) ∧ ((zr37 = 1 ∧ (okS (knd fby tn) (fin fby tn) (cdF fby tn) 6 6 (fin fby tn gq22) oq22 uq22 ga2_49 ow2_45 un2_46 nw2_50) ∧ (fq = fq2_43) ∧ (pq = pq2_44) ∧ (tkC fby tn ga2_49 ta2_38 ts2_39 tk2_40 tm2_41 tr2_42) ∧ ((fin fby tn gq22) < ga2_49 ∧ ga2_49 ≤ tn) ∧ (exC fa14_22 nq22 fco2_48 nf2_47 nw2_50) ∧ (nf2_47 + 3 * oq22 + 1 ≤ nq22 + 3 * ow2_45 ∧ oq22 < ow2_45)) ∨ (zr37 = 0 ∧ (noS (knd fby tn) (fin fby tn) 6 6 (fin fby tn gq22) oq22 uq22 ga2_49) ∧ (flt fby tn ga2_49 2 fq2_43 pq2_44))) := hw37
            obtain ⟨f_51, f_52, f_53, f_54, f_55, f_56, f_57⟩ := hw37
            rcases f_57 with ⟨hz_65, a_58, a_59, a_60, a_61, a_62, a_63, a_64⟩ | ⟨hz_68, a_66, a_67⟩
            · subst hz_65
              subst a_59
              subst a_60
              have hg_a_62 := a_62
              have hl_a_64 := a_64
              refine lv_istore_n (lv' := [(2, .int 1), (4, .int (nI kq22)), (3, .int (nI i22)), (0, .ref d0), (1, .int 6)]) hx hb dX10_takeSum_64 rfl hl (by decide) rfl (fun ls hl => ?_)
              refine lv_aload_n hx hb dX10_takeSum_65 rfl (lv_at hl 3 rfl) ?_
              refine va_get (D := D) (ci := 10) (v := .ref f0) (C := RX10) (T := TX10) (N := 10) hx hb hg i_X10 hown hK hP 0 rfl rfl 3 (by decide) (hg _ m_258) (fun _ h9 => h9) rfl dX10_takeSum_66 ?_
              refine lv_iload hx hb dX10_takeSum_69 (lv_at hl 1 rfl) ?_
              refine x_callVv (q := (RX3, TX3, 4)) (ci := 3) (q0 := 0) (wr := [wO d0 10 [.ref t0, .ref d1, .ref h0, .ref f0, .int (nI ow2_45), .int wt, .int dt, .int vv, .int fq, .int pq], wO t0 9 [.ref t1, .ref t2, .int (nI tn), .int (nI ta2_38), .int (nI ts2_39), .int (nI tk2_40), .long tm2_41, .int tr2_42], wI (cy 0) t1 1600 (fby), (t2, .inl (cy 2, 24, .inr (.inl (fky)))), wO h0 4 [.ref h1, .ref h2, .ref h3, .ref h4, .ref h5, .ref h6, .ref h7, .ref h8, .ref h9, .ref h10, .ref h11, hv0, hv1, hv2, hv3, .int (nI un2_46)]]) (rest := []) ⟨hx, hb, hml, hown, hg, hl.1⟩ k_X10_182 (s_addDeed9 l D cy f0 f1 f2 nf2_47 y3 fco2_48 kq22 (by omega) (f_54) (by omega)) E0_blind hK hP hD hS hA [5, 6] [0, 1, 2, 3, 4] ⟨rfl, rfl, by decide +kernel, by decide +kernel, by decide +kernel⟩ rfl rfl (fun _ _ _ => trivial) dX10_takeSum_71 rfl rfl (Nat.le_of_ble_eq_true rfl) ⟨Nat.le_of_ble_eq_true rfl, Nat.le_of_ble_eq_true rfl⟩ ⟨Nat.le_of_ble_eq_true rfl, Nat.le_of_ble_eq_true rfl⟩ (fun zu69 H locs hw69 hP9 hD9 hS9 => ?_)
              clear hP hD hS
              obtain ⟨n2_70, fc2_71⟩ := zu69
              refine reW [wO d0 10 [.ref t0, .ref d1, .ref h0, .ref f0, .int (nI ow2_45), .int wt, .int dt, .int vv, .int fq, .int pq], wO t0 9 [.ref t1, .ref t2, .int (nI tn), .int (nI ta2_38), .int (nI ts2_39), .int (nI tk2_40), .long tm2_41, .int tr2_42], wI (cy 0) t1 1600 (fby), (t2, .inl (cy 2, 24, .inr (.inl (fky)))), wO h0 4 [.ref h1, .ref h2, .ref h3, .ref h4, .ref h5, .ref h6, .ref h7, .ref h8, .ref h9, .ref h10, .ref h11, hv0, hv1, hv2, hv3, .int (nI un2_46)], wO f0 3 [.ref f1, .ref f2, .int (nI n2_70), y3], wI (cy 1) f1 280 (fc2_71)] hP9 hD9 hS9 (fun hP hD hS => ?_)
              clear hP9 hD9 hS9
              refine W.widen (k := 0) (n := 0) (Nat.le_of_ble_eq_true rfl) (Nat.le_of_ble_eq_true rfl) ?_
              replace hw69 : (n2_70 = nf2_47 + 1) ∧ (cOK fc2_71 n2_70) ∧ (exC fco2_48 nf2_47 fc2_71 n2_70 [nI (20000 + kq22)]) := hw69
              obtain ⟨f_72, f_73, f_74⟩ := hw69
              refine lv_iinc (v := nI (i22 + 1)) (lv' := [(3, .int (nI (i22 + 1))), (2, .int 1), (4, .int (nI kq22)), (0, .ref d0), (1, .int 6)]) hx hb dX10_takeSum_74 hl (k := 2) rfl (nI_add i22 1) (by decide) rfl (fun ls hl => ?_)
              refine lv_goto (tgt := 8) hx hb dX10_takeSum_77 (by decide) ?_
              exact ih22  1 ((i22 + 1)) ta2_38 ts2_39 tk2_40 tm2_41 tr2_42 ow2_45 fq pq un2_46 n2_70 ga2_49 ((nw22 ++ (nw2_50 ++ [ded (sgM (knd fby tn gq22))]))) fc2_71 f_73 (by omega) (by omega) (by omega) (by omega) (by omega) (by omega) (Or.inl ⟨rfl, inS_step lvP56 hin9 hop.1 hop.2 a_58, a_61, by omega, by omega, by omega, rfl, rfl, (exC_tr hex9 (exC_tr a_63 (exC_dd f_74 hop.1 hkk))), by omega, by omega⟩) (by omega) _ _ (hP.sub [0, 1, 2, 3, 4, 5, 6] rfl) (hD.sub [0, 1, 2, 3, 4, 5, 6] (by decide +kernel) rfl) hS ls (lv_sub hl [0, 1, 3, 4] rfl)
            · subst hz_68
              refine lv_istore_n (lv' := [(2, .int 0), (4, .int (nI kq22)), (3, .int (nI i22)), (0, .ref d0), (1, .int 6)]) hx hb dX10_takeSum_64 rfl hl (by decide) rfl (fun ls hl => ?_)
              refine lv_aload_n hx hb dX10_takeSum_65 rfl (lv_at hl 3 rfl) ?_
              refine va_get (D := D) (ci := 10) (v := .ref f0) (C := RX10) (T := TX10) (N := 10) hx hb hg i_X10 hown hK hP 0 rfl rfl 3 (by decide) (hg _ m_258) (fun _ h9 => h9) rfl dX10_takeSum_66 ?_
              refine lv_iload hx hb dX10_takeSum_69 (lv_at hl 1 rfl) ?_
              refine x_callVv (q := (RX3, TX3, 4)) (ci := 3) (q0 := 0) (wr := [wO d0 10 [.ref t0, .ref d1, .ref h0, .ref f0, .int (nI ow2_45), .int wt, .int dt, .int vv, .int fq2_43, .int pq2_44], wO t0 9 [.ref t1, .ref t2, .int (nI tn), .int (nI ta2_38), .int (nI ts2_39), .int (nI tk2_40), .long tm2_41, .int tr2_42], wI (cy 0) t1 1600 (fby), (t2, .inl (cy 2, 24, .inr (.inl (fky)))), wO h0 4 [.ref h1, .ref h2, .ref h3, .ref h4, .ref h5, .ref h6, .ref h7, .ref h8, .ref h9, .ref h10, .ref h11, hv0, hv1, hv2, hv3, .int (nI un2_46)]]) (rest := []) ⟨hx, hb, hml, hown, hg, hl.1⟩ k_X10_182 (s_addDeed l D cy f0 f1 f2 nf2_47 y3 fco2_48 kq22 (by omega) (f_54) (by omega)) E0_blind hK hP hD hS hA [5, 6] [0, 1, 2, 3, 4] ⟨rfl, rfl, by decide +kernel, by decide +kernel, by decide +kernel⟩ rfl rfl (fun _ _ _ => trivial) dX10_takeSum_71 rfl rfl (Nat.le_of_ble_eq_true rfl) ⟨Nat.le_of_ble_eq_true rfl, Nat.le_of_ble_eq_true rfl⟩ ⟨Nat.le_of_ble_eq_true rfl, Nat.le_of_ble_eq_true rfl⟩ (fun zu75 H locs hw75 hP9 hD9 hS9 => ?_)
              clear hP hD hS
              obtain ⟨n2_76, fc2_77⟩ := zu75
              refine reW [wO d0 10 [.ref t0, .ref d1, .ref h0, .ref f0, .int (nI ow2_45), .int wt, .int dt, .int vv, .int fq2_43, .int pq2_44], wO t0 9 [.ref t1, .ref t2, .int (nI tn), .int (nI ta2_38), .int (nI ts2_39), .int (nI tk2_40), .long tm2_41, .int tr2_42], wI (cy 0) t1 1600 (fby), (t2, .inl (cy 2, 24, .inr (.inl (fky)))), wO h0 4 [.ref h1, .ref h2, .ref h3, .ref h4, .ref h5, .ref h6, .ref h7, .ref h8, .ref h9, .ref h10, .ref h11, hv0, hv1, hv2, hv3, .int (nI un2_46)], wO f0 3 [.ref f1, .ref f2, .int (nI n2_76), y3], wI (cy 1) f1 280 (fc2_77)] hP9 hD9 hS9 (fun hP hD hS => ?_)
              clear hP9 hD9 hS9
              refine W.widen (k := 0) (n := 0) (Nat.le_of_ble_eq_true rfl) (Nat.le_of_ble_eq_true rfl) ?_
              replace hw75 : (n2_76 ≤ 280) ∧ (cOK fc2_77 n2_76) := hw75
              obtain ⟨f_78, f_79⟩ := hw75
              refine lv_iinc (v := nI (i22 + 1)) (lv' := [(3, .int (nI (i22 + 1))), (2, .int 0), (4, .int (nI kq22)), (0, .ref d0), (1, .int 6)]) hx hb dX10_takeSum_74 hl (k := 2) rfl (nI_add i22 1) (by decide) rfl (fun ls hl => ?_)
              refine lv_goto (tgt := 8) hx hb dX10_takeSum_77 (by decide) ?_
              exact ih22  0 ((i22 + 1)) ta2_38 ts2_39 tk2_40 tm2_41 tr2_42 ow2_45 fq2_43 pq2_44 un2_46 n2_76 ga2_49 ([]) fc2_77 f_79 (by omega) (by omega) (by omega) (by omega) (by omega) (by omega) (Or.inr ⟨rfl, inS_bad lvP56 hin9 hop.1 hop.2 a_66, a_67⟩) (by omega) _ _ (hP.sub [0, 1, 2, 3, 4, 5, 6] rfl) (hD.sub [0, 1, 2, 3, 4, 5, 6] (by decide +kernel) rfl) hS ls (lv_sub hl [0, 1, 3, 4] rfl)
          · have q_26 : ¬ kq22 = 43 := q_ne (a := kq22) (b := 43) rfl rfl (by omega) (by omega) c_25
            refine lv_aload_n hx hb dX10_takeSum_31 rfl (lv_at hl 2 rfl) ?_
            refine va_get (D := D) (ci := 10) (v := .ref t0) (C := RX10) (T := TX10) (N := 10) hx hb hg i_X10 hown hK hP 0 rfl rfl 0 (by decide) (hg _ m_255) (fun _ h9 => h9) rfl dX10_takeSum_32 ?_
            refine va_get (D := D) (ci := 9) (v := .int (nI kq22)) (C := RX9) (T := TX9) (N := 8) hx hb hg i_X9 hown hK hP 1 rfl rfl 5 (by decide) (hg _ m_222) (fun _ h9 => h9) rfl dX10_takeSum_35 ?_
            refine lv_bipush (v := 45) hx hb dX10_takeSum_38 (by decide) ?_
            refine lv_icmp_ne (tgt := 80) hx hb dX10_takeSum_40 (by decide) (fun c_80 => ?_) (fun c_80 => ?_)
            · have q_81 : ¬ kq22 = 45 := q_ne (a := kq22) (b := 45) rfl rfl (by omega) (by omega) c_80
              refine lv_iload_n hx hb dX10_takeSum_80 rfl (lv_at hl 1 rfl) ?_
              exact x_zret hQ hx hb hr hlocks hK hP hD hS rfl dX10_takeSum_81 (aq22, sq22, kq22, fl5_22, rq22, fq, pq, oq22, uq22, nq22, fa14_22, gq22, nw22) (⟨(show aq22 ≤ tn from by omega), (show kq22 ≤ 123 from by omega), (show nq22 ≤ 280 from by omega), ha15_22, (show oq22 ≤ 30 from by omega), (show uq22 ≤ 60 from by omega), (show ((1 : Int32) = 1 ∧ (okS (knd fby tn) (fin fby tn) (cdF fby tn) 5 6 ga ow un gq22 oq22 uq22 nw22) ∧ (fq = fq) ∧ (pq = pq) ∧ (tkC fby tn gq22 aq22 sq22 kq22 fl5_22 rq22) ∧ (ga < gq22 ∧ gq22 ≤ tn) ∧ (exC fco nf fa14_22 nq22 nw22) ∧ (nq22 + 3 * ow + 1 ≤ nf + 3 * oq22 ∧ ow < oq22)) ∨ ((1 : Int32) = 0 ∧ (noS (knd fby tn) (fin fby tn) 5 6 ga ow un gq22) ∧ (flt fby tn gq22 2 fq pq)) from Or.inl ⟨rfl, (inS_end lvP56 hin9 (sg_ne5 (by have h9 := htk9.2.2.1; omega))), (rfl), (rfl), (htk9), (⟨by omega, by omega⟩), (hex9), (⟨by omega, by omega⟩)⟩)⟩) [0, 1, 2, 3, 4, 5, 6] (by decide +kernel) rfl (Nat.le_of_ble_eq_true rfl) (Nat.le_of_ble_eq_true rfl)
            · have q_81 : kq22 = 45 := q_eq (a := kq22) (b := 45) rfl rfl (by omega) (by omega) c_80
              have hkk : kq22 = knd fby tn gq22 := by have h9 := htk9.2.2.1; omega
              have hop := sg_5 (show knd fby tn gq22 = 43 ∨ knd fby tn gq22 = 45 from by have h9 := htk9.2.2.1; omega)
              have hgt_82 : gq22 < fin fby tn gq22 ∧ fin fby tn gq22 ≤ tn := ⟨fin_gt (by have h9 := htk9.2.2.1; omega), fin_le (by omega)⟩
              refine lv_aload_n hx hb dX10_takeSum_43 rfl (lv_at hl 2 rfl) ?_
              refine va_get (D := D) (ci := 10) (v := .ref t0) (C := RX10) (T := TX10) (N := 10) hx hb hg i_X10 hown hK hP 0 rfl rfl 0 (by decide) (hg _ m_255) (fun _ h9 => h9) rfl dX10_takeSum_44 ?_
              refine va_get (D := D) (ci := 9) (v := .int (nI kq22)) (C := RX9) (T := TX9) (N := 8) hx hb hg i_X9 hown hK hP 1 rfl rfl 5 (by decide) (hg _ m_222) (fun _ h9 => h9) rfl dX10_takeSum_47 ?_
              refine lv_istore (lv' := [(4, .int (nI kq22)), (3, .int (nI i22)), (2, .int 1), (0, .ref d0), (1, .int 6)]) hx hb dX10_takeSum_50 hl (by decide) rfl (fun ls hl => ?_)
              refine lv_aload_n hx hb dX10_takeSum_52 rfl (lv_at hl 3 rfl) ?_
              refine va_get (D := D) (ci := 10) (v := .ref t0) (C := RX10) (T := TX10) (N := 10) hx hb hg i_X10 hown hK hP 0 rfl rfl 0 (by decide) (hg _ m_255) (fun _ h9 => h9) rfl dX10_takeSum_53 ?_
              refine x_callVv (q := (RX9, TX9, 8)) (ci := 9) (q0 := 0) (wr := [wO d0 10 [.ref t0, .ref d1, .ref h0, .ref f0, .int (nI oq22), .int wt, .int dt, .int vv, .int fq, .int pq], wO h0 4 [.ref h1, .ref h2, .ref h3, .ref h4, .ref h5, .ref h6, .ref h7, .ref h8, .ref h9, .ref h10, .ref h11, hv0, hv1, hv2, hv3, .int (nI uq22)], wO f0 3 [.ref f1, .ref f2, .int (nI nq22), y3], wI (cy 1) f1 280 (fa14_22)]) (rest := []) ⟨hx, hb, hml, hown, hg, hl.1⟩ k_X10_140 (s_next l D cy adK adV t0 t1 t2 tn aq22 sq22 kq22 fl5_22 rq22 fby fky (fin fby tn gq22) (by omega) (by omega) (htk9.2.1) (hky)) EV_blind hK hP hD hS hA [1, 2, 3] [0, 4, 5, 6] ⟨rfl, rfl, by decide +kernel, by decide +kernel, by decide +kernel⟩ rfl rfl (fun U hU hW => EV_pass hE hS (va_free hD hS hA [1, 2, 3] rfl) hU hW) dX10_takeSum_56 rfl rfl (Nat.le_of_ble_eq_true rfl) ⟨Nat.le_of_ble_eq_true rfl, Nat.le_of_ble_eq_true rfl⟩ ⟨Nat.le_of_ble_eq_true rfl, Nat.le_of_ble_eq_true rfl⟩ (fun zu83 H locs hw83 hP9 hD9 hS9 => ?_)
              clear hP hD hS
              obtain ⟨ta2_84, ts2_85, tk2_86, tm2_87, tr2_88⟩ := zu83
              refine reW [wO d0 10 [.ref t0, .ref d1, .ref h0, .ref f0, .int (nI oq22), .int wt, .int dt, .int vv, .int fq, .int pq], wO h0 4 [.ref h1, .ref h2, .ref h3, .ref h4, .ref h5, .ref h6, .ref h7, .ref h8, .ref h9, .ref h10, .ref h11, hv0, hv1, hv2, hv3, .int (nI uq22)], wO f0 3 [.ref f1, .ref f2, .int (nI nq22), y3], wI (cy 1) f1 280 (fa14_22), wO t0 9 [.ref t1, .ref t2, .int (nI tn), .int (nI ta2_84), .int (nI ts2_85), .int (nI tk2_86), .long tm2_87, .int tr2_88], wI (cy 0) t1 1600 (fby), (t2, .inl (cy 2, 24, .inr (.inl (fky))))] hP9 hD9 hS9 (fun hP hD hS => ?_)
              clear hP9 hD9 hS9
              refine W.widen (k := 0) (n := 0) (Nat.le_of_ble_eq_true rfl) (Nat.le_of_ble_eq_true rfl) ?_
              replace hw83 : (ta2_84 ≤ tn) ∧ (tk2_86 ≤ 123) ∧ (tkC fby tn (fin fby tn gq22) ta2_84 ts2_85 tk2_86 tm2_87 tr2_88) := hw83
              obtain ⟨f_89, f_90, f_91⟩ := hw83
              refine lv_aload_n hx hb dX10_takeSum_59 rfl (lv_at hl 3 rfl) ?_
              refine lv_iload_n hx hb dX10_takeSum_60 rfl (lv_at hl 4 rfl) ?_
              refine x_callVi (q := (RX10, TX10, 10)) (ci := 10) (q0 := 0) (wr := []) (rest := []) ⟨hx, hb, hml, hown, hg, hl.1⟩ k_X10_195 (s_takeTerm6 l D cy adK adV d0 d1 wt dt vv fq pq t0 t1 t2 tn ta2_84 ts2_85 tk2_86 tm2_87 tr2_88 fby fky h0 h1 h2 h3 h4 h5 h6 h7 h8 h9 h10 h11 hv0 hv1 hv2 hv3 oq22 uq22 f0 f1 f2 nq22 y3 fa14_22 (fin fby tn gq22) (by omega) (by omega) (by omega) (f_91) (hky) (by omega) (ha15_22) (by omega) (by omega) (by omega) (by omega)) EV_blind hK hP hD hS hA [0, 4, 5, 6, 1, 2, 3] [] ⟨rfl, rfl, by decide +kernel, by decide +kernel, by decide +kernel⟩ rfl rfl (fun U hU hW => EV_pass hE hS (va_free hD hS hA [0, 4, 5, 6, 1, 2, 3] rfl) hU hW) dX10_takeSum_61 rfl rfl (Nat.le_of_ble_eq_true rfl) ⟨Nat.le_of_ble_eq_true rfl, Nat.le_of_ble_eq_true rfl⟩ ⟨Nat.le_of_ble_eq_true rfl, Nat.le_of_ble_eq_true rfl⟩ (fun zr92 zu92 H locs hw92 hP9 hD9 hS9 => ?_)
              clear hP hD hS
              obtain ⟨ta2_93, ts2_94, tk2_95, tm2_96, tr2_97, fq2_98, pq2_99, ow2_100, un2_101, nf2_102, fco2_103, ga2_104, nw2_105⟩ := zu92
              refine reW [wO d0 10 [.ref t0, .ref d1, .ref h0, .ref f0, .int (nI ow2_100), .int wt, .int dt, .int vv, .int fq2_98, .int pq2_99], wO t0 9 [.ref t1, .ref t2, .int (nI tn), .int (nI ta2_93), .int (nI ts2_94), .int (nI tk2_95), .long tm2_96, .int tr2_97], wI (cy 0) t1 1600 (fby), (t2, .inl (cy 2, 24, .inr (.inl (fky)))), wO h0 4 [.ref h1, .ref h2, .ref h3, .ref h4, .ref h5, .ref h6, .ref h7, .ref h8, .ref h9, .ref h10, .ref h11, hv0, hv1, hv2, hv3, .int (nI un2_101)], wO f0 3 [.ref f1, .ref f2, .int (nI nf2_102), y3], wI (cy 1) f1 280 (fco2_103)] hP9 hD9 hS9 (fun hP hD hS => ?_)
              clear hP9 hD9 hS9
              refine W.widen (k := 0) (n := 0) (Nat.le_of_ble_eq_true rfl) (Nat.le_of_ble_eq_true rfl) ?_
              replace hw92 : (ta2_93 ≤ tn) ∧ (tk2_95 ≤ 123) ∧ (nf2_102 ≤ 280) ∧ (cOK fco2_103 nf2_102) ∧ (ow2_100 ≤ 30) ∧ (un2_101 ≤ 60) ∧ ((zr92 = 1 ∧ (okS (knd fby tn) (fin fby tn) (cdF fby tn) 6 6 (fin fby tn gq22) oq22 uq22 ga2_104 ow2_100 un2_101 nw2_105) ∧ (fq = fq2_98) ∧ (pq = pq2_99) ∧ (tkC fby tn ga2_104 ta2_93 ts2_94 tk2_95 tm2_96 tr2_97) ∧ ((fin fby tn gq22) < ga2_104 ∧ ga2_104 ≤ tn) ∧ (exC fa14_22 nq22 fco2_103 nf2_102 nw2_105) ∧ (nf2_102 + 3 * oq22 + 1 ≤ nq22 + 3 * ow2_100 ∧ oq22 < ow2_100)) ∨ (zr92 = 0 ∧ (noS (knd fby tn) (fin fby tn) 6 6 (fin fby tn gq22) oq22 uq22 ga2_104) ∧ (flt fby tn ga2_104 2 fq2_98 pq2_99))) := hw92
              obtain ⟨f_106, f_107, f_108, f_109, f_110, f_111, f_112⟩ := hw92
              rcases f_112 with ⟨hz_120, a_113, a_114, a_115, a_116, a_117, a_118, a_119⟩ | ⟨hz_123, a_121, a_122⟩
              · subst hz_120
                subst a_114
                subst a_115
                have hg_a_117 := a_117
                have hl_a_119 := a_119
                refine lv_istore_n (lv' := [(2, .int 1), (4, .int (nI kq22)), (3, .int (nI i22)), (0, .ref d0), (1, .int 6)]) hx hb dX10_takeSum_64 rfl hl (by decide) rfl (fun ls hl => ?_)
                refine lv_aload_n hx hb dX10_takeSum_65 rfl (lv_at hl 3 rfl) ?_
                refine va_get (D := D) (ci := 10) (v := .ref f0) (C := RX10) (T := TX10) (N := 10) hx hb hg i_X10 hown hK hP 0 rfl rfl 3 (by decide) (hg _ m_258) (fun _ h9 => h9) rfl dX10_takeSum_66 ?_
                refine lv_iload hx hb dX10_takeSum_69 (lv_at hl 1 rfl) ?_
                refine x_callVv (q := (RX3, TX3, 4)) (ci := 3) (q0 := 0) (wr := [wO d0 10 [.ref t0, .ref d1, .ref h0, .ref f0, .int (nI ow2_100), .int wt, .int dt, .int vv, .int fq, .int pq], wO t0 9 [.ref t1, .ref t2, .int (nI tn), .int (nI ta2_93), .int (nI ts2_94), .int (nI tk2_95), .long tm2_96, .int tr2_97], wI (cy 0) t1 1600 (fby), (t2, .inl (cy 2, 24, .inr (.inl (fky)))), wO h0 4 [.ref h1, .ref h2, .ref h3, .ref h4, .ref h5, .ref h6, .ref h7, .ref h8, .ref h9, .ref h10, .ref h11, hv0, hv1, hv2, hv3, .int (nI un2_101)]]) (rest := []) ⟨hx, hb, hml, hown, hg, hl.1⟩ k_X10_182 (s_addDeed9 l D cy f0 f1 f2 nf2_102 y3 fco2_103 kq22 (by omega) (f_109) (by omega)) E0_blind hK hP hD hS hA [5, 6] [0, 1, 2, 3, 4] ⟨rfl, rfl, by decide +kernel, by decide +kernel, by decide +kernel⟩ rfl rfl (fun _ _ _ => trivial) dX10_takeSum_71 rfl rfl (Nat.le_of_ble_eq_true rfl) ⟨Nat.le_of_ble_eq_true rfl, Nat.le_of_ble_eq_true rfl⟩ ⟨Nat.le_of_ble_eq_true rfl, Nat.le_of_ble_eq_true rfl⟩ (fun zu124 H locs hw124 hP9 hD9 hS9 => ?_)
                clear hP hD hS
                obtain ⟨n2_125, fc2_126⟩ := zu124
                refine reW [wO d0 10 [.ref t0, .ref d1, .ref h0, .ref f0, .int (nI ow2_100), .int wt, .int dt, .int vv, .int fq, .int pq], wO t0 9 [.ref t1, .ref t2, .int (nI tn), .int (nI ta2_93), .int (nI ts2_94), .int (nI tk2_95), .long tm2_96, .int tr2_97], wI (cy 0) t1 1600 (fby), (t2, .inl (cy 2, 24, .inr (.inl (fky)))), wO h0 4 [.ref h1, .ref h2, .ref h3, .ref h4, .ref h5, .ref h6, .ref h7, .ref h8, .ref h9, .ref h10, .ref h11, hv0, hv1, hv2, hv3, .int (nI un2_101)], wO f0 3 [.ref f1, .ref f2, .int (nI n2_125), y3], wI (cy 1) f1 280 (fc2_126)] hP9 hD9 hS9 (fun hP hD hS => ?_)
                clear hP9 hD9 hS9
                refine W.widen (k := 0) (n := 0) (Nat.le_of_ble_eq_true rfl) (Nat.le_of_ble_eq_true rfl) ?_
                replace hw124 : (n2_125 = nf2_102 + 1) ∧ (cOK fc2_126 n2_125) ∧ (exC fco2_103 nf2_102 fc2_126 n2_125 [nI (20000 + kq22)]) := hw124
                obtain ⟨f_127, f_128, f_129⟩ := hw124
                refine lv_iinc (v := nI (i22 + 1)) (lv' := [(3, .int (nI (i22 + 1))), (2, .int 1), (4, .int (nI kq22)), (0, .ref d0), (1, .int 6)]) hx hb dX10_takeSum_74 hl (k := 2) rfl (nI_add i22 1) (by decide) rfl (fun ls hl => ?_)
                refine lv_goto (tgt := 8) hx hb dX10_takeSum_77 (by decide) ?_
                exact ih22  1 ((i22 + 1)) ta2_93 ts2_94 tk2_95 tm2_96 tr2_97 ow2_100 fq pq un2_101 n2_125 ga2_104 ((nw22 ++ (nw2_105 ++ [ded (sgM (knd fby tn gq22))]))) fc2_126 f_128 (by omega) (by omega) (by omega) (by omega) (by omega) (by omega) (Or.inl ⟨rfl, inS_step lvP56 hin9 hop.1 hop.2 a_113, a_116, by omega, by omega, by omega, rfl, rfl, (exC_tr hex9 (exC_tr a_118 (exC_dd f_129 hop.1 hkk))), by omega, by omega⟩) (by omega) _ _ (hP.sub [0, 1, 2, 3, 4, 5, 6] rfl) (hD.sub [0, 1, 2, 3, 4, 5, 6] (by decide +kernel) rfl) hS ls (lv_sub hl [0, 1, 3, 4] rfl)
              · subst hz_123
                refine lv_istore_n (lv' := [(2, .int 0), (4, .int (nI kq22)), (3, .int (nI i22)), (0, .ref d0), (1, .int 6)]) hx hb dX10_takeSum_64 rfl hl (by decide) rfl (fun ls hl => ?_)
                refine lv_aload_n hx hb dX10_takeSum_65 rfl (lv_at hl 3 rfl) ?_
                refine va_get (D := D) (ci := 10) (v := .ref f0) (C := RX10) (T := TX10) (N := 10) hx hb hg i_X10 hown hK hP 0 rfl rfl 3 (by decide) (hg _ m_258) (fun _ h9 => h9) rfl dX10_takeSum_66 ?_
                refine lv_iload hx hb dX10_takeSum_69 (lv_at hl 1 rfl) ?_
                refine x_callVv (q := (RX3, TX3, 4)) (ci := 3) (q0 := 0) (wr := [wO d0 10 [.ref t0, .ref d1, .ref h0, .ref f0, .int (nI ow2_100), .int wt, .int dt, .int vv, .int fq2_98, .int pq2_99], wO t0 9 [.ref t1, .ref t2, .int (nI tn), .int (nI ta2_93), .int (nI ts2_94), .int (nI tk2_95), .long tm2_96, .int tr2_97], wI (cy 0) t1 1600 (fby), (t2, .inl (cy 2, 24, .inr (.inl (fky)))), wO h0 4 [.ref h1, .ref h2, .ref h3, .ref h4, .ref h5, .ref h6, .ref h7, .ref h8, .ref h9, .ref h10, .ref h11, hv0, hv1, hv2, hv3, .int (nI un2_101)]]) (rest := []) ⟨hx, hb, hml, hown, hg, hl.1⟩ k_X10_182 (s_addDeed l D cy f0 f1 f2 nf2_102 y3 fco2_103 kq22 (by omega) (f_109) (by omega)) E0_blind hK hP hD hS hA [5, 6] [0, 1, 2, 3, 4] ⟨rfl, rfl, by decide +kernel, by decide +kernel, by decide +kernel⟩ rfl rfl (fun _ _ _ => trivial) dX10_takeSum_71 rfl rfl (Nat.le_of_ble_eq_true rfl) ⟨Nat.le_of_ble_eq_true rfl, Nat.le_of_ble_eq_true rfl⟩ ⟨Nat.le_of_ble_eq_true rfl, Nat.le_of_ble_eq_true rfl⟩ (fun zu130 H locs hw130 hP9 hD9 hS9 => ?_)
                clear hP hD hS
                obtain ⟨n2_131, fc2_132⟩ := zu130
                refine reW [wO d0 10 [.ref t0, .ref d1, .ref h0, .ref f0, .int (nI ow2_100), .int wt, .int dt, .int vv, .int fq2_98, .int pq2_99], wO t0 9 [.ref t1, .ref t2, .int (nI tn), .int (nI ta2_93), .int (nI ts2_94), .int (nI tk2_95), .long tm2_96, .int tr2_97], wI (cy 0) t1 1600 (fby), (t2, .inl (cy 2, 24, .inr (.inl (fky)))), wO h0 4 [.ref h1, .ref h2, .ref h3, .ref h4, .ref h5, .ref h6, .ref h7, .ref h8, .ref h9, .ref h10, .ref h11, hv0, hv1, hv2, hv3, .int (nI un2_101)], wO f0 3 [.ref f1, .ref f2, .int (nI n2_131), y3], wI (cy 1) f1 280 (fc2_132)] hP9 hD9 hS9 (fun hP hD hS => ?_)
                clear hP9 hD9 hS9
                refine W.widen (k := 0) (n := 0) (Nat.le_of_ble_eq_true rfl) (Nat.le_of_ble_eq_true rfl) ?_
                replace hw130 : (n2_131 ≤ 280) ∧ (cOK fc2_132 n2_131) := hw130
                obtain ⟨f_133, f_134⟩ := hw130
                refine lv_iinc (v := nI (i22 + 1)) (lv' := [(3, .int (nI (i22 + 1))), (2, .int 0), (4, .int (nI kq22)), (0, .ref d0), (1, .int 6)]) hx hb dX10_takeSum_74 hl (k := 2) rfl (nI_add i22 1) (by decide) rfl (fun ls hl => ?_)
                refine lv_goto (tgt := 8) hx hb dX10_takeSum_77 (by decide) ?_
                exact ih22  0 ((i22 + 1)) ta2_93 ts2_94 tk2_95 tm2_96 tr2_97 ow2_100 fq2_98 pq2_99 un2_101 n2_131 ga2_104 ([]) fc2_132 f_134 (by omega) (by omega) (by omega) (by omega) (by omega) (by omega) (Or.inr ⟨rfl, inS_bad lvP56 hin9 hop.1 hop.2 a_121, a_122⟩) (by omega) _ _ (hP.sub [0, 1, 2, 3, 4, 5, 6] rfl) (hD.sub [0, 1, 2, 3, 4, 5, 6] (by decide +kernel) rfl) hS ls (lv_sub hl [0, 1, 3, 4] rfl)
      · subst hlb
        refine lv_iload_n hx hb dX10_takeSum_8 rfl (lv_at hl 0 rfl) ?_
        refine lv_sipush (v := 1600) hx hb dX10_takeSum_9 (by decide) ?_
        refine lv_icmp_ge (tgt := 80) hx hb dX10_takeSum_12 (by decide) (fun c_135 => ?_) (fun c_135 => ?_)
        · have q_136 : 1600 ≤ i22 := q_le (a := 1600) (b := i22) rfl rfl (by omega) (by omega) c_135
          refine lv_iload_n hx hb dX10_takeSum_80 rfl (lv_at hl 1 rfl) ?_
          exact x_zret hQ hx hb hr hlocks hK hP hD hS rfl dX10_takeSum_81 (aq22, sq22, kq22, fl5_22, rq22, fz22, pz22, oq22, uq22, nq22, fa14_22, gq22, []) (⟨(show aq22 ≤ tn from by omega), (show kq22 ≤ 123 from by omega), (show nq22 ≤ 280 from by omega), ha15_22, (show oq22 ≤ 30 from by omega), (show uq22 ≤ 60 from by omega), (show ((0 : Int32) = 1 ∧ (okS (knd fby tn) (fin fby tn) (cdF fby tn) 5 6 ga ow un gq22 oq22 uq22 ([])) ∧ (fq = fz22) ∧ (pq = pz22) ∧ (tkC fby tn gq22 aq22 sq22 kq22 fl5_22 rq22) ∧ (ga < gq22 ∧ gq22 ≤ tn) ∧ (exC fco nf fa14_22 nq22 ([])) ∧ (nq22 + 3 * ow + 1 ≤ nf + 3 * oq22 ∧ ow < oq22)) ∨ ((0 : Int32) = 0 ∧ (noS (knd fby tn) (fin fby tn) 5 6 ga ow un gq22) ∧ (flt fby tn gq22 2 fz22 pz22)) from Or.inr (⟨rfl, (hno9), (hfl9)⟩))⟩) [0, 1, 2, 3, 4, 5, 6] (by decide +kernel) rfl (Nat.le_of_ble_eq_true rfl) (Nat.le_of_ble_eq_true rfl)
        · have q_136 : i22 < 1600 := q_nle (a := 1600) (b := i22) rfl rfl (by omega) (by omega) c_135
          refine lv_iload_n hx hb dX10_takeSum_15 rfl (lv_at hl 1 rfl) ?_
          refine lv_if_eq (tgt := 80) hx hb dX10_takeSum_16 (by decide) (fun _ => ?_) (fun h => absurd (by decide) h)
          refine lv_iload_n hx hb dX10_takeSum_80 rfl (lv_at hl 1 rfl) ?_
          exact x_zret hQ hx hb hr hlocks hK hP hD hS rfl dX10_takeSum_81 (aq22, sq22, kq22, fl5_22, rq22, fz22, pz22, oq22, uq22, nq22, fa14_22, gq22, []) (⟨(show aq22 ≤ tn from by omega), (show kq22 ≤ 123 from by omega), (show nq22 ≤ 280 from by omega), ha15_22, (show oq22 ≤ 30 from by omega), (show uq22 ≤ 60 from by omega), (show ((0 : Int32) = 1 ∧ (okS (knd fby tn) (fin fby tn) (cdF fby tn) 5 6 ga ow un gq22 oq22 uq22 ([])) ∧ (fq = fz22) ∧ (pq = pz22) ∧ (tkC fby tn gq22 aq22 sq22 kq22 fl5_22 rq22) ∧ (ga < gq22 ∧ gq22 ≤ tn) ∧ (exC fco nf fa14_22 nq22 ([])) ∧ (nq22 + 3 * ow + 1 ≤ nf + 3 * oq22 ∧ ow < oq22)) ∨ ((0 : Int32) = 0 ∧ (noS (knd fby tn) (fin fby tn) 5 6 ga ow un gq22) ∧ (flt fby tn gq22 2 fz22 pz22)) from Or.inr (⟨rfl, (hno9), (hfl9)⟩))⟩) [0, 1, 2, 3, 4, 5, 6] (by decide +kernel) rfl (Nat.le_of_ble_eq_true rfl) (Nat.le_of_ble_eq_true rfl)
  exact loop22 _ zr1 0 ta2_2 ts2_3 tk2_4 tm2_5 tr2_6 ow2_9 fq2_7 pq2_8 un2_10 nf2_11 ga2_13 nw2_14 fco2_12 f_18 (by omega) (by omega) (by omega) (by omega) (by omega) (by omega) (by rcases f_21 with ⟨hx0, hxk, hxq, hxp, hxt, hxg, hxe, hxm⟩ | ⟨hx0, hxn, hxl⟩; exact Or.inl ⟨hx0, inS_0 lvP56 hxk, hxt, hxg.1, hxg.2, by omega, hxq, hxp, hxe, hxm.1, hxm.2⟩; exact Or.inr ⟨hx0, noS_0 lvP56 hxn, hxl⟩) (Nat.le_refl _) _ _ (hP.sub [0, 1, 2, 3, 4, 5, 6] rfl) (hD.sub [0, 1, 2, 3, 4, 5, 6] (by decide +kernel) rfl) hS ls (lv_sub hl [0, 1, 2, 3] rfl)
theorem gdX10_takeNot_12 : decode cX10_takeNot 12 = .ok (.aload_n 0, 1) ∧ decode cX10_takeNot 13 = .ok (.getfield 16, 3) ∧ decode cX10_takeNot 16 = .ok (.invokevirtual 140, 3) ∧ decode cX10_takeNot 19 = .ok (.aload_n 0, 1) ∧ decode cX10_takeNot 20 = .ok (.iload_n 1, 1) ∧ decode cX10_takeNot 21 = .ok (.iconst 1, 1) ∧ decode cX10_takeNot 22 = .ok (.iadd, 1) ∧ decode cX10_takeNot 23 = .ok (.invokevirtual 186, 3) ∧ decode cX10_takeNot 26 = .ok (.istore_n 2, 1) ∧ decode cX10_takeNot 27 = .ok (.aload_n 0, 1) ∧ decode cX10_takeNot 28 = .ok (.getfield 34, 3) ∧ decode cX10_takeNot 31 = .ok (.bipush 116, 2) := by decide +kernel
theorem dX10_takeNot_12 : decode cX10_takeNot 12 = .ok (.aload_n 0, 1) := gdX10_takeNot_12.1
theorem dX10_takeNot_13 : decode cX10_takeNot 13 = .ok (.getfield 16, 3) := gdX10_takeNot_12.2.1
theorem dX10_takeNot_16 : decode cX10_takeNot 16 = .ok (.invokevirtual 140, 3) := gdX10_takeNot_12.2.2.1
theorem dX10_takeNot_19 : decode cX10_takeNot 19 = .ok (.aload_n 0, 1) := gdX10_takeNot_12.2.2.2.1
theorem dX10_takeNot_20 : decode cX10_takeNot 20 = .ok (.iload_n 1, 1) := gdX10_takeNot_12.2.2.2.2.1
theorem dX10_takeNot_21 : decode cX10_takeNot 21 = .ok (.iconst 1, 1) := gdX10_takeNot_12.2.2.2.2.2.1
theorem dX10_takeNot_22 : decode cX10_takeNot 22 = .ok (.iadd, 1) := gdX10_takeNot_12.2.2.2.2.2.2.1
theorem dX10_takeNot_23 : decode cX10_takeNot 23 = .ok (.invokevirtual 186, 3) := gdX10_takeNot_12.2.2.2.2.2.2.2.1
theorem dX10_takeNot_26 : decode cX10_takeNot 26 = .ok (.istore_n 2, 1) := gdX10_takeNot_12.2.2.2.2.2.2.2.2.1
theorem dX10_takeNot_27 : decode cX10_takeNot 27 = .ok (.aload_n 0, 1) := gdX10_takeNot_12.2.2.2.2.2.2.2.2.2.1
theorem dX10_takeNot_28 : decode cX10_takeNot 28 = .ok (.getfield 34, 3) := gdX10_takeNot_12.2.2.2.2.2.2.2.2.2.2.1
theorem dX10_takeNot_31 : decode cX10_takeNot 31 = .ok (.bipush 116, 2) := gdX10_takeNot_12.2.2.2.2.2.2.2.2.2.2.2
theorem gdX10_takeNot_33 : decode cX10_takeNot 33 = .ok (.invokevirtual 182, 3) ∧ decode cX10_takeNot 36 = .ok (.iload_n 2, 1) ∧ decode cX10_takeNot 37 = .ok (.ireturn, 1) := by decide +kernel
theorem dX10_takeNot_33 : decode cX10_takeNot 33 = .ok (.invokevirtual 182, 3) := gdX10_takeNot_33.1
theorem dX10_takeNot_36 : decode cX10_takeNot 36 = .ok (.iload_n 2, 1) := gdX10_takeNot_33.2.1
theorem dX10_takeNot_37 : decode cX10_takeNot 37 = .ok (.ireturn, 1) := gdX10_takeNot_33.2.2
set_option maxHeartbeats 1000000 in
set_option maxRecDepth 100000 in
theorem s_takeNot6 (l : Launch) (D : va_G) (cy : Nat → ClassId) (adK : Nat → Nat) (adV : Nat → Nat) (d0 : Nat) (d1 : Nat) (wt : Int32) (dt : Int32) (vv : Int32) (fq : Int32) (pq : Int32) (t0 : Nat) (t1 : Nat) (t2 : Nat) (tn : Nat) (ta : Nat) (ts : Nat) (tk : Nat) (tm : Int64) (tr : Int32) (fby : Nat → Int32) (fky : Nat → Int64) (h0 : Nat) (h1 : Nat) (h2 : Nat) (h3 : Nat) (h4 : Nat) (h5 : Nat) (h6 : Nat) (h7 : Nat) (h8 : Nat) (h9 : Nat) (h10 : Nat) (h11 : Nat) (hv0 : Value) (hv1 : Value) (hv2 : Value) (hv3 : Value) (ow : Nat) (un : Nat) (f0 : Nat) (f1 : Nat) (f2 : Nat) (nf : Nat) (y3 : Value) (fco : Nat → Int32) (ga : Nat) (htn : tn ≤ 1600) (hta : ta ≤ tn) (htk : tk ≤ 123) (hti : tkC fby tn ga ta ts tk tm tr) (hky : kyOK fky) (hnf : nf ≤ 280) (hfc : cOK fco nf) (how : ow ≤ 30) (hun : un ≤ 60) (hga : ga ≤ tn) (h116 : tk = 116) (hrm : nf + 90 ≤ 280 + 3 * ow) : XMi l D (tyL cy) (EV adK adV) yX10_takeNot cX10_takeNot 3 (some .boolean) (rmk 11 0 0) [.ref d0, .int 6] [wO d0 10 [.ref t0, .ref d1, .ref h0, .ref f0, .int (nI ow), .int wt, .int dt, .int vv, .int fq, .int pq], wO t0 9 [.ref t1, .ref t2, .int (nI tn), .int (nI ta), .int (nI ts), .int (nI tk), .long tm, .int tr], wI (cy 0) t1 1600 (fby), (t2, .inl (cy 2, 24, .inr (.inl (fky)))), wO h0 4 [.ref h1, .ref h2, .ref h3, .ref h4, .ref h5, .ref h6, .ref h7, .ref h8, .ref h9, .ref h10, .ref h11, hv0, hv1, hv2, hv3, .int (nI un)], wO f0 3 [.ref f1, .ref f2, .int (nI nf), y3], wI (cy 1) f1 280 (fco)] (fun (r : Int32) (u : Nat × Nat × Nat × Int64 × Int32 × Int32 × Int32 × Nat × Nat × Nat × (Nat → Int32) × Nat × (List Int32)) => (u.1 ≤ tn) ∧ (u.2.2.1 ≤ 123) ∧ (u.2.2.2.2.2.2.2.2.2.1 ≤ 280) ∧ (cOK u.2.2.2.2.2.2.2.2.2.2.1 u.2.2.2.2.2.2.2.2.2.1) ∧ (u.2.2.2.2.2.2.2.1 ≤ 30) ∧ (u.2.2.2.2.2.2.2.2.1 ≤ 60) ∧ ((r = 1 ∧ (okS (knd fby tn) (fin fby tn) (cdF fby tn) 4 6 ga ow un u.2.2.2.2.2.2.2.2.2.2.2.1 u.2.2.2.2.2.2.2.1 u.2.2.2.2.2.2.2.2.1 u.2.2.2.2.2.2.2.2.2.2.2.2) ∧ (fq = u.2.2.2.2.2.1) ∧ (pq = u.2.2.2.2.2.2.1) ∧ (tkC fby tn u.2.2.2.2.2.2.2.2.2.2.2.1 u.1 u.2.1 u.2.2.1 u.2.2.2.1 u.2.2.2.2.1) ∧ (ga < u.2.2.2.2.2.2.2.2.2.2.2.1 ∧ u.2.2.2.2.2.2.2.2.2.2.2.1 ≤ tn) ∧ (exC fco nf u.2.2.2.2.2.2.2.2.2.2.1 u.2.2.2.2.2.2.2.2.2.1 u.2.2.2.2.2.2.2.2.2.2.2.2) ∧ (u.2.2.2.2.2.2.2.2.2.1 + 3 * ow + 1 ≤ nf + 3 * u.2.2.2.2.2.2.2.1 ∧ ow < u.2.2.2.2.2.2.2.1)) ∨ (r = 0 ∧ (noS (knd fby tn) (fin fby tn) 4 6 ga ow un u.2.2.2.2.2.2.2.2.2.2.2.1) ∧ (flt fby tn u.2.2.2.2.2.2.2.2.2.2.2.1 2 u.2.2.2.2.2.1 u.2.2.2.2.2.2.1)))) (fun (u : Nat × Nat × Nat × Int64 × Int32 × Int32 × Int32 × Nat × Nat × Nat × (Nat → Int32) × Nat × (List Int32)) => [wO d0 10 [.ref t0, .ref d1, .ref h0, .ref f0, .int (nI u.2.2.2.2.2.2.2.1), .int wt, .int dt, .int vv, .int u.2.2.2.2.2.1, .int u.2.2.2.2.2.2.1], wO t0 9 [.ref t1, .ref t2, .int (nI tn), .int (nI u.1), .int (nI u.2.1), .int (nI u.2.2.1), .long u.2.2.2.1, .int u.2.2.2.2.1], wI (cy 0) t1 1600 (fby), (t2, .inl (cy 2, 24, .inr (.inl (fky)))), wO h0 4 [.ref h1, .ref h2, .ref h3, .ref h4, .ref h5, .ref h6, .ref h7, .ref h8, .ref h9, .ref h10, .ref h11, hv0, hv1, hv2, hv3, .int (nI u.2.2.2.2.2.2.2.2.1)], wO f0 3 [.ref f1, .ref f2, .int (nI u.2.2.2.2.2.2.2.2.2.1), y3], wI (cy 1) f1 280 (u.2.2.2.2.2.2.2.2.2.2.1)]) := by
  refine XMi.start (by decide) (Nat.le_of_ble_eq_true rfl) ?_
  intro p e s m below meth c args A ls Q hat hQ
  obtain ⟨hx, hb, hr, hml, hown, hg, hlocks, hin, hK, hA, hP, hD, hS, hE, hl⟩ := hat
  have hown : s.vm.findClass RX10 = some m.cls := hown
  have hl : lv_has ls 3 [(0, .ref d0), (1, .int 6)] := hl
  have hn16 : knd fby tn ga = 116 := by have h9 := hti.2.2.1; omega
  refine lv_iload_n hx hb dX10_takeNot_0 rfl (lv_at hl 1 rfl) ?_
  refine lv_bipush (v := 7) hx hb dX10_takeNot_1 (by decide) ?_
  refine lv_icmp_lt (tgt := 12) hx hb dX10_takeNot_3 (by decide) (fun _ => ?_) (fun h => absurd (by decide) h)
  have hgt_1 : ga < fin fby tn ga ∧ fin fby tn ga ≤ tn := ⟨fin_gt (by have h9 := hti.2.2.1; omega), fin_le (by omega)⟩
  refine lv_aload_n hx hb dX10_takeNot_12 rfl (lv_at hl 0 rfl) ?_
  refine va_get (D := D) (ci := 10) (v := .ref t0) (C := RX10) (T := TX10) (N := 10) hx hb hg i_X10 hown hK hP 0 rfl rfl 0 (by decide) (hg _ m_255) (fun _ h9 => h9) rfl dX10_takeNot_13 ?_
  refine x_callVv (q := (RX9, TX9, 8)) (ci := 9) (q0 := 0) (wr := [wO d0 10 [.ref t0, .ref d1, .ref h0, .ref f0, .int (nI ow), .int wt, .int dt, .int vv, .int fq, .int pq], wO h0 4 [.ref h1, .ref h2, .ref h3, .ref h4, .ref h5, .ref h6, .ref h7, .ref h8, .ref h9, .ref h10, .ref h11, hv0, hv1, hv2, hv3, .int (nI un)], wO f0 3 [.ref f1, .ref f2, .int (nI nf), y3], wI (cy 1) f1 280 (fco)]) (rest := []) ⟨hx, hb, hml, hown, hg, hl.1⟩ k_X10_140 (s_next l D cy adK adV t0 t1 t2 tn ta ts tk tm tr fby fky (fin fby tn ga) (by omega) (by omega) (hti.2.1) (hky)) EV_blind hK hP hD hS hA [1, 2, 3] [0, 4, 5, 6] ⟨rfl, rfl, by decide +kernel, by decide +kernel, by decide +kernel⟩ rfl rfl (fun U hU hW => EV_pass hE hS (va_free hD hS hA [1, 2, 3] rfl) hU hW) dX10_takeNot_16 rfl rfl (Nat.le_of_ble_eq_true rfl) ⟨Nat.le_of_ble_eq_true rfl, Nat.le_of_ble_eq_true rfl⟩ ⟨Nat.le_of_ble_eq_true rfl, Nat.le_of_ble_eq_true rfl⟩ (fun zu2 H locs hw2 hP9 hD9 hS9 => ?_)
  clear hP hD hS
  obtain ⟨ta2_3, ts2_4, tk2_5, tm2_6, tr2_7⟩ := zu2
  refine reW [wO d0 10 [.ref t0, .ref d1, .ref h0, .ref f0, .int (nI ow), .int wt, .int dt, .int vv, .int fq, .int pq], wO h0 4 [.ref h1, .ref h2, .ref h3, .ref h4, .ref h5, .ref h6, .ref h7, .ref h8, .ref h9, .ref h10, .ref h11, hv0, hv1, hv2, hv3, .int (nI un)], wO f0 3 [.ref f1, .ref f2, .int (nI nf), y3], wI (cy 1) f1 280 (fco), wO t0 9 [.ref t1, .ref t2, .int (nI tn), .int (nI ta2_3), .int (nI ts2_4), .int (nI tk2_5), .long tm2_6, .int tr2_7], wI (cy 0) t1 1600 (fby), (t2, .inl (cy 2, 24, .inr (.inl (fky))))] hP9 hD9 hS9 (fun hP hD hS => ?_)
  clear hP9 hD9 hS9
  refine W.widen (k := 0) (n := 0) (Nat.le_of_ble_eq_true rfl) (Nat.le_of_ble_eq_true rfl) ?_
  replace hw2 : (ta2_3 ≤ tn) ∧ (tk2_5 ≤ 123) ∧ (tkC fby tn (fin fby tn ga) ta2_3 ts2_4 tk2_5 tm2_6 tr2_7) := hw2
  obtain ⟨f_8, f_9, f_10⟩ := hw2
  refine lv_aload_n hx hb dX10_takeNot_19 rfl (lv_at hl 0 rfl) ?_
  refine lv_iload_n hx hb dX10_takeNot_20 rfl (lv_at hl 1 rfl) ?_
  refine lv_iconst (v := 1) hx hb dX10_takeNot_21 (by decide) ?_
  refine lv_iadd hx hb dX10_takeNot_22 ?_
  refine lv_topi (fun y_11 hy_11 => ?_)
  obtain rfl : y_11 = 7 := hy_11.trans (by decide +kernel)
  refine x_callVi (q := (RX10, TX10, 10)) (ci := 10) (q0 := 0) (wr := []) (rest := []) ⟨hx, hb, hml, hown, hg, hl.1⟩ k_X10_186 (s_takeOne7 l D cy adK adV d0 d1 wt dt vv fq pq t0 t1 t2 tn ta2_3 ts2_4 tk2_5 tm2_6 tr2_7 fby fky h0 h1 h2 h3 h4 h5 h6 h7 h8 h9 h10 h11 hv0 hv1 hv2 hv3 ow un f0 f1 f2 nf y3 fco (fin fby tn ga) (by omega) (by omega) (by omega) (f_10) (hky) (by omega) (hfc) (by omega) (by omega) (by omega) (by omega)) EV_blind hK hP hD hS hA [0, 4, 5, 6, 1, 2, 3] [] ⟨rfl, rfl, by decide +kernel, by decide +kernel, by decide +kernel⟩ rfl rfl (fun U hU hW => EV_pass hE hS (va_free hD hS hA [0, 4, 5, 6, 1, 2, 3] rfl) hU hW) dX10_takeNot_23 rfl rfl (Nat.le_of_ble_eq_true rfl) ⟨Nat.le_of_ble_eq_true rfl, Nat.le_of_ble_eq_true rfl⟩ ⟨Nat.le_of_ble_eq_true rfl, Nat.le_of_ble_eq_true rfl⟩ (fun zr12 zu12 H locs hw12 hP9 hD9 hS9 => ?_)
  clear hP hD hS
  obtain ⟨ta2_13, ts2_14, tk2_15, tm2_16, tr2_17, fq2_18, pq2_19, ow2_20, un2_21, nf2_22, fco2_23, ga2_24, nw2_25⟩ := zu12
  refine reW [wO d0 10 [.ref t0, .ref d1, .ref h0, .ref f0, .int (nI ow2_20), .int wt, .int dt, .int vv, .int fq2_18, .int pq2_19], wO t0 9 [.ref t1, .ref t2, .int (nI tn), .int (nI ta2_13), .int (nI ts2_14), .int (nI tk2_15), .long tm2_16, .int tr2_17], wI (cy 0) t1 1600 (fby), (t2, .inl (cy 2, 24, .inr (.inl (fky)))), wO h0 4 [.ref h1, .ref h2, .ref h3, .ref h4, .ref h5, .ref h6, .ref h7, .ref h8, .ref h9, .ref h10, .ref h11, hv0, hv1, hv2, hv3, .int (nI un2_21)], wO f0 3 [.ref f1, .ref f2, .int (nI nf2_22), y3], wI (cy 1) f1 280 (fco2_23)] hP9 hD9 hS9 (fun hP hD hS => ?_)
  clear hP9 hD9 hS9
  refine W.widen (k := 0) (n := 0) (Nat.le_of_ble_eq_true rfl) (Nat.le_of_ble_eq_true rfl) ?_
  replace hw12 : (ta2_13 ≤ tn) ∧ (tk2_15 ≤ 123) ∧ (nf2_22 ≤ 280) ∧ (cOK fco2_23 nf2_22) ∧ (ow2_20 ≤ 30) ∧ (un2_21 ≤ 60) ∧ ((zr12 = 1 ∧ (okS (knd fby tn) (fin fby tn) (cdF fby tn) 4 7 (fin fby tn ga) ow un ga2_24 ow2_20 un2_21 nw2_25) ∧ (fq = fq2_18) ∧ (pq = pq2_19) ∧ (tkC fby tn ga2_24 ta2_13 ts2_14 tk2_15 tm2_16 tr2_17) ∧ ((fin fby tn ga) < ga2_24 ∧ ga2_24 ≤ tn) ∧ (exC fco nf fco2_23 nf2_22 nw2_25) ∧ (nf2_22 + 2 * ow + 1 ≤ nf + 2 * ow2_20 ∧ ow < ow2_20)) ∨ (zr12 = 0 ∧ (noS (knd fby tn) (fin fby tn) 4 7 (fin fby tn ga) ow un ga2_24) ∧ (flt fby tn ga2_24 2 fq2_18 pq2_19))) := hw12
  obtain ⟨f_26, f_27, f_28, f_29, f_30, f_31, f_32⟩ := hw12
  rcases f_32 with ⟨hz_40, a_33, a_34, a_35, a_36, a_37, a_38, a_39⟩ | ⟨hz_43, a_41, a_42⟩
  · subst hz_40
    subst a_34
    subst a_35
    have hg_a_37 := a_37
    have hl_a_39 := a_39
    refine lv_istore_n (lv' := [(2, .int 1), (0, .ref d0), (1, .int 6)]) hx hb dX10_takeNot_26 rfl hl (by decide) rfl (fun ls hl => ?_)
    refine lv_aload_n hx hb dX10_takeNot_27 rfl (lv_at hl 1 rfl) ?_
    refine va_get (D := D) (ci := 10) (v := .ref f0) (C := RX10) (T := TX10) (N := 10) hx hb hg i_X10 hown hK hP 0 rfl rfl 3 (by decide) (hg _ m_258) (fun _ h9 => h9) rfl dX10_takeNot_28 ?_
    refine lv_bipush (v := 116) hx hb dX10_takeNot_31 (by decide) ?_
    refine x_callVv (q := (RX3, TX3, 4)) (ci := 3) (q0 := 0) (wr := [wO d0 10 [.ref t0, .ref d1, .ref h0, .ref f0, .int (nI ow2_20), .int wt, .int dt, .int vv, .int fq, .int pq], wO t0 9 [.ref t1, .ref t2, .int (nI tn), .int (nI ta2_13), .int (nI ts2_14), .int (nI tk2_15), .long tm2_16, .int tr2_17], wI (cy 0) t1 1600 (fby), (t2, .inl (cy 2, 24, .inr (.inl (fky)))), wO h0 4 [.ref h1, .ref h2, .ref h3, .ref h4, .ref h5, .ref h6, .ref h7, .ref h8, .ref h9, .ref h10, .ref h11, hv0, hv1, hv2, hv3, .int (nI un2_21)]]) (rest := []) ⟨hx, hb, hml, hown, hg, hl.1⟩ k_X10_182 (s_addDeed9 l D cy f0 f1 f2 nf2_22 y3 fco2_23 116 (by omega) (f_29) (by omega)) E0_blind hK hP hD hS hA [5, 6] [0, 1, 2, 3, 4] ⟨rfl, rfl, by decide +kernel, by decide +kernel, by decide +kernel⟩ rfl rfl (fun _ _ _ => trivial) dX10_takeNot_33 rfl rfl (Nat.le_of_ble_eq_true rfl) ⟨Nat.le_of_ble_eq_true rfl, Nat.le_of_ble_eq_true rfl⟩ ⟨Nat.le_of_ble_eq_true rfl, Nat.le_of_ble_eq_true rfl⟩ (fun zu44 H locs hw44 hP9 hD9 hS9 => ?_)
    clear hP hD hS
    obtain ⟨n2_45, fc2_46⟩ := zu44
    refine reW [wO d0 10 [.ref t0, .ref d1, .ref h0, .ref f0, .int (nI ow2_20), .int wt, .int dt, .int vv, .int fq, .int pq], wO t0 9 [.ref t1, .ref t2, .int (nI tn), .int (nI ta2_13), .int (nI ts2_14), .int (nI tk2_15), .long tm2_16, .int tr2_17], wI (cy 0) t1 1600 (fby), (t2, .inl (cy 2, 24, .inr (.inl (fky)))), wO h0 4 [.ref h1, .ref h2, .ref h3, .ref h4, .ref h5, .ref h6, .ref h7, .ref h8, .ref h9, .ref h10, .ref h11, hv0, hv1, hv2, hv3, .int (nI un2_21)], wO f0 3 [.ref f1, .ref f2, .int (nI n2_45), y3], wI (cy 1) f1 280 (fc2_46)] hP9 hD9 hS9 (fun hP hD hS => ?_)
    clear hP9 hD9 hS9
    refine W.widen (k := 0) (n := 0) (Nat.le_of_ble_eq_true rfl) (Nat.le_of_ble_eq_true rfl) ?_
    replace hw44 : (n2_45 = nf2_22 + 1) ∧ (cOK fc2_46 n2_45) ∧ (exC fco2_23 nf2_22 fc2_46 n2_45 [nI (20000 + 116)]) := hw44
    obtain ⟨f_47, f_48, f_49⟩ := hw44
    refine lv_iload_n hx hb dX10_takeNot_36 rfl (lv_at hl 0 rfl) ?_
    exact x_zret hQ hx hb hr hlocks hK hP hD hS rfl dX10_takeNot_37 (ta2_13, ts2_14, tk2_15, tm2_16, tr2_17, fq, pq, ow2_20, un2_21, n2_45, fc2_46, ga2_24, (nw2_25 ++ [20116])) (⟨(show ta2_13 ≤ tn from by omega), (show tk2_15 ≤ 123 from by omega), (show n2_45 ≤ 280 from by omega), f_48, (show ow2_20 ≤ 30 from by omega), (show un2_21 ≤ 60 from by omega), (show ((1 : Int32) = 1 ∧ (okS (knd fby tn) (fin fby tn) (cdF fby tn) 4 6 ga ow un ga2_24 ow2_20 un2_21 ((nw2_25 ++ [20116]))) ∧ (fq = fq) ∧ (pq = pq) ∧ (tkC fby tn ga2_24 ta2_13 ts2_14 tk2_15 tm2_16 tr2_17) ∧ (ga < ga2_24 ∧ ga2_24 ≤ tn) ∧ (exC fco nf fc2_46 n2_45 ((nw2_25 ++ [20116]))) ∧ (n2_45 + 3 * ow + 1 ≤ nf + 3 * ow2_20 ∧ ow < ow2_20)) ∨ ((1 : Int32) = 0 ∧ (noS (knd fby tn) (fin fby tn) 4 6 ga ow un ga2_24) ∧ (flt fby tn ga2_24 2 fq pq)) from Or.inl ⟨rfl, (not_ok hn16 (by decide) a_33), (rfl), (rfl), (a_36), (⟨by omega, by omega⟩), ((exC_tr a_38 (exC_nt f_49))), (⟨by omega, by omega⟩)⟩)⟩) [0, 1, 2, 3, 4, 5, 6] (by decide +kernel) rfl (Nat.le_of_ble_eq_true rfl) (Nat.le_of_ble_eq_true rfl)
  · subst hz_43
    refine lv_istore_n (lv' := [(2, .int 0), (0, .ref d0), (1, .int 6)]) hx hb dX10_takeNot_26 rfl hl (by decide) rfl (fun ls hl => ?_)
    refine lv_aload_n hx hb dX10_takeNot_27 rfl (lv_at hl 1 rfl) ?_
    refine va_get (D := D) (ci := 10) (v := .ref f0) (C := RX10) (T := TX10) (N := 10) hx hb hg i_X10 hown hK hP 0 rfl rfl 3 (by decide) (hg _ m_258) (fun _ h9 => h9) rfl dX10_takeNot_28 ?_
    refine lv_bipush (v := 116) hx hb dX10_takeNot_31 (by decide) ?_
    refine x_callVv (q := (RX3, TX3, 4)) (ci := 3) (q0 := 0) (wr := [wO d0 10 [.ref t0, .ref d1, .ref h0, .ref f0, .int (nI ow2_20), .int wt, .int dt, .int vv, .int fq2_18, .int pq2_19], wO t0 9 [.ref t1, .ref t2, .int (nI tn), .int (nI ta2_13), .int (nI ts2_14), .int (nI tk2_15), .long tm2_16, .int tr2_17], wI (cy 0) t1 1600 (fby), (t2, .inl (cy 2, 24, .inr (.inl (fky)))), wO h0 4 [.ref h1, .ref h2, .ref h3, .ref h4, .ref h5, .ref h6, .ref h7, .ref h8, .ref h9, .ref h10, .ref h11, hv0, hv1, hv2, hv3, .int (nI un2_21)]]) (rest := []) ⟨hx, hb, hml, hown, hg, hl.1⟩ k_X10_182 (s_addDeed l D cy f0 f1 f2 nf2_22 y3 fco2_23 116 (by omega) (f_29) (by omega)) E0_blind hK hP hD hS hA [5, 6] [0, 1, 2, 3, 4] ⟨rfl, rfl, by decide +kernel, by decide +kernel, by decide +kernel⟩ rfl rfl (fun _ _ _ => trivial) dX10_takeNot_33 rfl rfl (Nat.le_of_ble_eq_true rfl) ⟨Nat.le_of_ble_eq_true rfl, Nat.le_of_ble_eq_true rfl⟩ ⟨Nat.le_of_ble_eq_true rfl, Nat.le_of_ble_eq_true rfl⟩ (fun zu50 H locs hw50 hP9 hD9 hS9 => ?_)
    clear hP hD hS
    obtain ⟨n2_51, fc2_52⟩ := zu50
    refine reW [wO d0 10 [.ref t0, .ref d1, .ref h0, .ref f0, .int (nI ow2_20), .int wt, .int dt, .int vv, .int fq2_18, .int pq2_19], wO t0 9 [.ref t1, .ref t2, .int (nI tn), .int (nI ta2_13), .int (nI ts2_14), .int (nI tk2_15), .long tm2_16, .int tr2_17], wI (cy 0) t1 1600 (fby), (t2, .inl (cy 2, 24, .inr (.inl (fky)))), wO h0 4 [.ref h1, .ref h2, .ref h3, .ref h4, .ref h5, .ref h6, .ref h7, .ref h8, .ref h9, .ref h10, .ref h11, hv0, hv1, hv2, hv3, .int (nI un2_21)], wO f0 3 [.ref f1, .ref f2, .int (nI n2_51), y3], wI (cy 1) f1 280 (fc2_52)] hP9 hD9 hS9 (fun hP hD hS => ?_)
    clear hP9 hD9 hS9
    refine W.widen (k := 0) (n := 0) (Nat.le_of_ble_eq_true rfl) (Nat.le_of_ble_eq_true rfl) ?_
    replace hw50 : (n2_51 ≤ 280) ∧ (cOK fc2_52 n2_51) := hw50
    obtain ⟨f_53, f_54⟩ := hw50
    refine lv_iload_n hx hb dX10_takeNot_36 rfl (lv_at hl 0 rfl) ?_
    exact x_zret hQ hx hb hr hlocks hK hP hD hS rfl dX10_takeNot_37 (ta2_13, ts2_14, tk2_15, tm2_16, tr2_17, fq2_18, pq2_19, ow2_20, un2_21, n2_51, fc2_52, ga2_24, []) (⟨(show ta2_13 ≤ tn from by omega), (show tk2_15 ≤ 123 from by omega), (show n2_51 ≤ 280 from by omega), f_54, (show ow2_20 ≤ 30 from by omega), (show un2_21 ≤ 60 from by omega), (show ((0 : Int32) = 1 ∧ (okS (knd fby tn) (fin fby tn) (cdF fby tn) 4 6 ga ow un ga2_24 ow2_20 un2_21 ([])) ∧ (fq = fq2_18) ∧ (pq = pq2_19) ∧ (tkC fby tn ga2_24 ta2_13 ts2_14 tk2_15 tm2_16 tr2_17) ∧ (ga < ga2_24 ∧ ga2_24 ≤ tn) ∧ (exC fco nf fc2_52 n2_51 ([])) ∧ (n2_51 + 3 * ow + 1 ≤ nf + 3 * ow2_20 ∧ ow < ow2_20)) ∨ ((0 : Int32) = 0 ∧ (noS (knd fby tn) (fin fby tn) 4 6 ga ow un ga2_24) ∧ (flt fby tn ga2_24 2 fq2_18 pq2_19)) from Or.inr (⟨rfl, (not_bad hn16 (by decide) a_41), (a_42)⟩))⟩) [0, 1, 2, 3, 4, 5, 6] (by decide +kernel) rfl (Nat.le_of_ble_eq_true rfl) (Nat.le_of_ble_eq_true rfl)
set_option maxHeartbeats 1000000 in
set_option maxRecDepth 100000 in
theorem s_takeOne6 (l : Launch) (D : va_G) (cy : Nat → ClassId) (adK : Nat → Nat) (adV : Nat → Nat) (d0 : Nat) (d1 : Nat) (wt : Int32) (dt : Int32) (vv : Int32) (fq : Int32) (pq : Int32) (t0 : Nat) (t1 : Nat) (t2 : Nat) (tn : Nat) (ta : Nat) (ts : Nat) (tk : Nat) (tm : Int64) (tr : Int32) (fby : Nat → Int32) (fky : Nat → Int64) (h0 : Nat) (h1 : Nat) (h2 : Nat) (h3 : Nat) (h4 : Nat) (h5 : Nat) (h6 : Nat) (h7 : Nat) (h8 : Nat) (h9 : Nat) (h10 : Nat) (h11 : Nat) (hv0 : Value) (hv1 : Value) (hv2 : Value) (hv3 : Value) (ow : Nat) (un : Nat) (f0 : Nat) (f1 : Nat) (f2 : Nat) (nf : Nat) (y3 : Value) (fco : Nat → Int32) (ga : Nat) (htn : tn ≤ 1600) (hta : ta ≤ tn) (htk : tk ≤ 123) (hti : tkC fby tn ga ta ts tk tm tr) (hky : kyOK fky) (hnf : nf ≤ 280) (hfc : cOK fco nf) (how : ow ≤ 30) (hun : un ≤ 60) (hga : ga ≤ tn) (hrm : nf + 90 ≤ 280 + 3 * ow) : XMi l D (tyL cy) (EV adK adV) yX10_takeOne cX10_takeOne 4 (some .boolean) (rmk 17 0 0) [.ref d0, .int 6] [wO d0 10 [.ref t0, .ref d1, .ref h0, .ref f0, .int (nI ow), .int wt, .int dt, .int vv, .int fq, .int pq], wO t0 9 [.ref t1, .ref t2, .int (nI tn), .int (nI ta), .int (nI ts), .int (nI tk), .long tm, .int tr], wI (cy 0) t1 1600 (fby), (t2, .inl (cy 2, 24, .inr (.inl (fky)))), wO h0 4 [.ref h1, .ref h2, .ref h3, .ref h4, .ref h5, .ref h6, .ref h7, .ref h8, .ref h9, .ref h10, .ref h11, hv0, hv1, hv2, hv3, .int (nI un)], wO f0 3 [.ref f1, .ref f2, .int (nI nf), y3], wI (cy 1) f1 280 (fco)] (fun (r : Int32) (u : Nat × Nat × Nat × Int64 × Int32 × Int32 × Int32 × Nat × Nat × Nat × (Nat → Int32) × Nat × (List Int32)) => (u.1 ≤ tn) ∧ (u.2.2.1 ≤ 123) ∧ (u.2.2.2.2.2.2.2.2.2.1 ≤ 280) ∧ (cOK u.2.2.2.2.2.2.2.2.2.2.1 u.2.2.2.2.2.2.2.2.2.1) ∧ (u.2.2.2.2.2.2.2.1 ≤ 30) ∧ (u.2.2.2.2.2.2.2.2.1 ≤ 60) ∧ ((r = 1 ∧ (okS (knd fby tn) (fin fby tn) (cdF fby tn) 4 6 ga ow un u.2.2.2.2.2.2.2.2.2.2.2.1 u.2.2.2.2.2.2.2.1 u.2.2.2.2.2.2.2.2.1 u.2.2.2.2.2.2.2.2.2.2.2.2) ∧ (fq = u.2.2.2.2.2.1) ∧ (pq = u.2.2.2.2.2.2.1) ∧ (tkC fby tn u.2.2.2.2.2.2.2.2.2.2.2.1 u.1 u.2.1 u.2.2.1 u.2.2.2.1 u.2.2.2.2.1) ∧ (ga < u.2.2.2.2.2.2.2.2.2.2.2.1 ∧ u.2.2.2.2.2.2.2.2.2.2.2.1 ≤ tn) ∧ (exC fco nf u.2.2.2.2.2.2.2.2.2.2.1 u.2.2.2.2.2.2.2.2.2.1 u.2.2.2.2.2.2.2.2.2.2.2.2) ∧ (u.2.2.2.2.2.2.2.2.2.1 + 3 * ow + 1 ≤ nf + 3 * u.2.2.2.2.2.2.2.1 ∧ ow < u.2.2.2.2.2.2.2.1)) ∨ (r = 0 ∧ (noS (knd fby tn) (fin fby tn) 4 6 ga ow un u.2.2.2.2.2.2.2.2.2.2.2.1) ∧ (flt fby tn u.2.2.2.2.2.2.2.2.2.2.2.1 2 u.2.2.2.2.2.1 u.2.2.2.2.2.2.1)))) (fun (u : Nat × Nat × Nat × Int64 × Int32 × Int32 × Int32 × Nat × Nat × Nat × (Nat → Int32) × Nat × (List Int32)) => [wO d0 10 [.ref t0, .ref d1, .ref h0, .ref f0, .int (nI u.2.2.2.2.2.2.2.1), .int wt, .int dt, .int vv, .int u.2.2.2.2.2.1, .int u.2.2.2.2.2.2.1], wO t0 9 [.ref t1, .ref t2, .int (nI tn), .int (nI u.1), .int (nI u.2.1), .int (nI u.2.2.1), .long u.2.2.2.1, .int u.2.2.2.2.1], wI (cy 0) t1 1600 (fby), (t2, .inl (cy 2, 24, .inr (.inl (fky)))), wO h0 4 [.ref h1, .ref h2, .ref h3, .ref h4, .ref h5, .ref h6, .ref h7, .ref h8, .ref h9, .ref h10, .ref h11, hv0, hv1, hv2, hv3, .int (nI u.2.2.2.2.2.2.2.2.1)], wO f0 3 [.ref f1, .ref f2, .int (nI u.2.2.2.2.2.2.2.2.2.1), y3], wI (cy 1) f1 280 (u.2.2.2.2.2.2.2.2.2.2.1)]) := by
  refine XMi.start (by decide) (Nat.le_of_ble_eq_true rfl) ?_
  intro p e s m below meth c args A ls Q hat hQ
  obtain ⟨hx, hb, hr, hml, hown, hg, hlocks, hin, hK, hA, hP, hD, hS, hE, hl⟩ := hat
  have hown : s.vm.findClass RX10 = some m.cls := hown
  have hl : lv_has ls 4 [(0, .ref d0), (1, .int 6)] := hl
  refine lv_aload_n hx hb dX10_takeOne_0 rfl (lv_at hl 0 rfl) ?_
  refine va_get (D := D) (ci := 10) (v := .ref t0) (C := RX10) (T := TX10) (N := 10) hx hb hg i_X10 hown hK hP 0 rfl rfl 0 (by decide) (hg _ m_255) (fun _ h9 => h9) rfl dX10_takeOne_1 ?_
  refine va_get (D := D) (ci := 9) (v := .int (nI tk)) (C := RX9) (T := TX9) (N := 8) hx hb hg i_X9 hown hK hP 1 rfl rfl 5 (by decide) (hg _ m_222) (fun _ h9 => h9) rfl dX10_takeOne_4 ?_
  refine lv_bipush (v := 116) hx hb dX10_takeOne_7 (by decide) ?_
  refine lv_icmp_ne (tgt := 18) hx hb dX10_takeOne_9 (by decide) (fun c_1 => ?_) (fun c_1 => ?_)
  · have q_2 : ¬ tk = 116 := q_ne (a := tk) (b := 116) rfl rfl (by omega) (by omega) c_1
    have hn16 : ¬ knd fby tn ga = 116 := by have h9 := hti.2.2.1; omega
    refine lv_aload_n hx hb dX10_takeOne_18 rfl (lv_at hl 0 rfl) ?_
    refine lv_iload_n hx hb dX10_takeOne_19 rfl (lv_at hl 1 rfl) ?_
    refine x_callVi (q := (RX10, TX10, 10)) (ci := 10) (q0 := 0) (wr := []) (rest := []) ⟨hx, hb, hml, hown, hg, hl.1⟩ k_X10_192 (s_takeSum6 l D cy adK adV d0 d1 wt dt vv fq pq t0 t1 t2 tn ta ts tk tm tr fby fky h0 h1 h2 h3 h4 h5 h6 h7 h8 h9 h10 h11 hv0 hv1 hv2 hv3 ow un f0 f1 f2 nf y3 fco ga (by omega) (by omega) (by omega) (hti) (hky) (by omega) (hfc) (by omega) (by omega) (by omega) (by omega)) EV_blind hK hP hD hS hA [0, 1, 2, 3, 4, 5, 6] [] ⟨rfl, rfl, by decide +kernel, by decide +kernel, by decide +kernel⟩ rfl rfl (fun U hU hW => EV_pass hE hS (va_free hD hS hA [0, 1, 2, 3, 4, 5, 6] rfl) hU hW) dX10_takeOne_20 rfl rfl (Nat.le_of_ble_eq_true rfl) ⟨Nat.le_of_ble_eq_true rfl, Nat.le_of_ble_eq_true rfl⟩ ⟨Nat.le_of_ble_eq_true rfl, Nat.le_of_ble_eq_true rfl⟩ (fun zr3 zu3 H locs hw3 hP9 hD9 hS9 => ?_)
    clear hP hD hS
    obtain ⟨ta2_4, ts2_5, tk2_6, tm2_7, tr2_8, fq2_9, pq2_10, ow2_11, un2_12, nf2_13, fco2_14, ga2_15, nw2_16⟩ := zu3
    refine reW [wO d0 10 [.ref t0, .ref d1, .ref h0, .ref f0, .int (nI ow2_11), .int wt, .int dt, .int vv, .int fq2_9, .int pq2_10], wO t0 9 [.ref t1, .ref t2, .int (nI tn), .int (nI ta2_4), .int (nI ts2_5), .int (nI tk2_6), .long tm2_7, .int tr2_8], wI (cy 0) t1 1600 (fby), (t2, .inl (cy 2, 24, .inr (.inl (fky)))), wO h0 4 [.ref h1, .ref h2, .ref h3, .ref h4, .ref h5, .ref h6, .ref h7, .ref h8, .ref h9, .ref h10, .ref h11, hv0, hv1, hv2, hv3, .int (nI un2_12)], wO f0 3 [.ref f1, .ref f2, .int (nI nf2_13), y3], wI (cy 1) f1 280 (fco2_14)] hP9 hD9 hS9 (fun hP hD hS => ?_)
    clear hP9 hD9 hS9
    refine W.widen (k := 0) (n := 0) (Nat.le_of_ble_eq_true rfl) (Nat.le_of_ble_eq_true rfl) ?_
    replace hw3 : (ta2_4 ≤ tn) ∧ (tk2_6 ≤ 123) ∧ (nf2_13 ≤ 280) ∧ (cOK fco2_14 nf2_13) ∧ (ow2_11 ≤ 30) ∧ (un2_12 ≤ 60) ∧ ((zr3 = 1 ∧ (okS (knd fby tn) (fin fby tn) (cdF fby tn) 5 6 ga ow un ga2_15 ow2_11 un2_12 nw2_16) ∧ (fq = fq2_9) ∧ (pq = pq2_10) ∧ (tkC fby tn ga2_15 ta2_4 ts2_5 tk2_6 tm2_7 tr2_8) ∧ (ga < ga2_15 ∧ ga2_15 ≤ tn) ∧ (exC fco nf fco2_14 nf2_13 nw2_16) ∧ (nf2_13 + 3 * ow + 1 ≤ nf + 3 * ow2_11 ∧ ow < ow2_11)) ∨ (zr3 = 0 ∧ (noS (knd fby tn) (fin fby tn) 5 6 ga ow un ga2_15) ∧ (flt fby tn ga2_15 2 fq2_9 pq2_10))) := hw3
    obtain ⟨f_17, f_18, f_19, f_20, f_21, f_22, f_23⟩ := hw3
    rcases f_23 with ⟨hz_31, a_24, a_25, a_26, a_27, a_28, a_29, a_30⟩ | ⟨hz_34, a_32, a_33⟩
    · subst hz_31
      subst a_25
      subst a_26
      have hg_a_28 := a_28
      have hl_a_30 := a_30
      refine lv_if_ne (tgt := 28) hx hb dX10_takeOne_23 (by decide) (fun _ => ?_) (fun h => absurd h (by decide))
      refine lv_aload_n hx hb dX10_takeOne_28 rfl (lv_at hl 0 rfl) ?_
      refine va_get (D := D) (ci := 10) (v := .ref t0) (C := RX10) (T := TX10) (N := 10) hx hb hg i_X10 hown hK hP 0 rfl rfl 0 (by decide) (hg _ m_255) (fun _ h9 => h9) rfl dX10_takeOne_29 ?_
      refine va_get (D := D) (ci := 9) (v := .int (nI tk2_6)) (C := RX9) (T := TX9) (N := 8) hx hb hg i_X9 hown hK hP 1 rfl rfl 5 (by decide) (hg _ m_222) (fun _ h9 => h9) rfl dX10_takeOne_32 ?_
      refine lv_istore_n (lv' := [(2, .int (nI tk2_6)), (0, .ref d0), (1, .int 6)]) hx hb dX10_takeOne_35 rfl hl (by decide) rfl (fun ls hl => ?_)
      refine lv_iload_n hx hb dX10_takeOne_36 rfl (lv_at hl 0 rfl) ?_
      refine lv_bipush (v := 60) hx hb dX10_takeOne_37 (by decide) ?_
      refine lv_icmp_eq (tgt := 56) hx hb dX10_takeOne_39 (by decide) (fun c_35 => ?_) (fun c_35 => ?_)
      · have q_36 : tk2_6 = 60 := q_eq (a := tk2_6) (b := 60) rfl rfl (by omega) (by omega) c_35
        have hkk : tk2_6 = knd fby tn ga2_15 := by have h9 := a_27.2.2.1; omega
        have hop := sg_4 (show knd fby tn ga2_15 = 60 ∨ knd fby tn ga2_15 = 62 ∨ knd fby tn ga2_15 = 61 from by have h9 := a_27.2.2.1; omega)
        have hgt_37 : ga2_15 < fin fby tn ga2_15 ∧ fin fby tn ga2_15 ≤ tn := ⟨fin_gt (by have h9 := a_27.2.2.1; omega), fin_le (by omega)⟩
        refine lv_aload_n hx hb dX10_takeOne_56 rfl (lv_at hl 1 rfl) ?_
        refine va_get (D := D) (ci := 10) (v := .ref t0) (C := RX10) (T := TX10) (N := 10) hx hb hg i_X10 hown hK hP 0 rfl rfl 0 (by decide) (hg _ m_255) (fun _ h9 => h9) rfl dX10_takeOne_57 ?_
        refine x_callVv (q := (RX9, TX9, 8)) (ci := 9) (q0 := 0) (wr := [wO d0 10 [.ref t0, .ref d1, .ref h0, .ref f0, .int (nI ow2_11), .int wt, .int dt, .int vv, .int fq, .int pq], wO h0 4 [.ref h1, .ref h2, .ref h3, .ref h4, .ref h5, .ref h6, .ref h7, .ref h8, .ref h9, .ref h10, .ref h11, hv0, hv1, hv2, hv3, .int (nI un2_12)], wO f0 3 [.ref f1, .ref f2, .int (nI nf2_13), y3], wI (cy 1) f1 280 (fco2_14)]) (rest := []) ⟨hx, hb, hml, hown, hg, hl.1⟩ k_X10_140 (s_next l D cy adK adV t0 t1 t2 tn ta2_4 ts2_5 tk2_6 tm2_7 tr2_8 fby fky (fin fby tn ga2_15) (by omega) (by omega) (a_27.2.1) (hky)) EV_blind hK hP hD hS hA [1, 2, 3] [0, 4, 5, 6] ⟨rfl, rfl, by decide +kernel, by decide +kernel, by decide +kernel⟩ rfl rfl (fun U hU hW => EV_pass hE hS (va_free hD hS hA [1, 2, 3] rfl) hU hW) dX10_takeOne_60 rfl rfl (Nat.le_of_ble_eq_true rfl) ⟨Nat.le_of_ble_eq_true rfl, Nat.le_of_ble_eq_true rfl⟩ ⟨Nat.le_of_ble_eq_true rfl, Nat.le_of_ble_eq_true rfl⟩ (fun zu38 H locs hw38 hP9 hD9 hS9 => ?_)
        clear hP hD hS
        obtain ⟨ta2_39, ts2_40, tk2_41, tm2_42, tr2_43⟩ := zu38
        refine reW [wO d0 10 [.ref t0, .ref d1, .ref h0, .ref f0, .int (nI ow2_11), .int wt, .int dt, .int vv, .int fq, .int pq], wO h0 4 [.ref h1, .ref h2, .ref h3, .ref h4, .ref h5, .ref h6, .ref h7, .ref h8, .ref h9, .ref h10, .ref h11, hv0, hv1, hv2, hv3, .int (nI un2_12)], wO f0 3 [.ref f1, .ref f2, .int (nI nf2_13), y3], wI (cy 1) f1 280 (fco2_14), wO t0 9 [.ref t1, .ref t2, .int (nI tn), .int (nI ta2_39), .int (nI ts2_40), .int (nI tk2_41), .long tm2_42, .int tr2_43], wI (cy 0) t1 1600 (fby), (t2, .inl (cy 2, 24, .inr (.inl (fky))))] hP9 hD9 hS9 (fun hP hD hS => ?_)
        clear hP9 hD9 hS9
        refine W.widen (k := 0) (n := 0) (Nat.le_of_ble_eq_true rfl) (Nat.le_of_ble_eq_true rfl) ?_
        replace hw38 : (ta2_39 ≤ tn) ∧ (tk2_41 ≤ 123) ∧ (tkC fby tn (fin fby tn ga2_15) ta2_39 ts2_40 tk2_41 tm2_42 tr2_43) := hw38
        obtain ⟨f_44, f_45, f_46⟩ := hw38
        refine lv_aload_n hx hb dX10_takeOne_63 rfl (lv_at hl 1 rfl) ?_
        refine lv_iload_n hx hb dX10_takeOne_64 rfl (lv_at hl 2 rfl) ?_
        refine x_callVi (q := (RX10, TX10, 10)) (ci := 10) (q0 := 0) (wr := []) (rest := []) ⟨hx, hb, hml, hown, hg, hl.1⟩ k_X10_192 (s_takeSum6 l D cy adK adV d0 d1 wt dt vv fq pq t0 t1 t2 tn ta2_39 ts2_40 tk2_41 tm2_42 tr2_43 fby fky h0 h1 h2 h3 h4 h5 h6 h7 h8 h9 h10 h11 hv0 hv1 hv2 hv3 ow2_11 un2_12 f0 f1 f2 nf2_13 y3 fco2_14 (fin fby tn ga2_15) (by omega) (by omega) (by omega) (f_46) (hky) (by omega) (f_20) (by omega) (by omega) (by omega) (by omega)) EV_blind hK hP hD hS hA [0, 4, 5, 6, 1, 2, 3] [] ⟨rfl, rfl, by decide +kernel, by decide +kernel, by decide +kernel⟩ rfl rfl (fun U hU hW => EV_pass hE hS (va_free hD hS hA [0, 4, 5, 6, 1, 2, 3] rfl) hU hW) dX10_takeOne_65 rfl rfl (Nat.le_of_ble_eq_true rfl) ⟨Nat.le_of_ble_eq_true rfl, Nat.le_of_ble_eq_true rfl⟩ ⟨Nat.le_of_ble_eq_true rfl, Nat.le_of_ble_eq_true rfl⟩ (fun zr47 zu47 H locs hw47 hP9 hD9 hS9 => ?_)
        clear hP hD hS
        obtain ⟨ta2_48, ts2_49, tk2_50, tm2_51, tr2_52, fq2_53, pq2_54, ow2_55, un2_56, nf2_57, fco2_58, ga2_59, nw2_60⟩ := zu47
        refine reW [wO d0 10 [.ref t0, .ref d1, .ref h0, .ref f0, .int (nI ow2_55), .int wt, .int dt, .int vv, .int fq2_53, .int pq2_54], wO t0 9 [.ref t1, .ref t2, .int (nI tn), .int (nI ta2_48), .int (nI ts2_49), .int (nI tk2_50), .long tm2_51, .int tr2_52], wI (cy 0) t1 1600 (fby), (t2, .inl (cy 2, 24, .inr (.inl (fky)))), wO h0 4 [.ref h1, .ref h2, .ref h3, .ref h4, .ref h5, .ref h6, .ref h7, .ref h8, .ref h9, .ref h10, .ref h11, hv0, hv1, hv2, hv3, .int (nI un2_56)], wO f0 3 [.ref f1, .ref f2, .int (nI nf2_57), y3], wI (cy 1) f1 280 (fco2_58)] hP9 hD9 hS9 (fun hP hD hS => ?_)
        clear hP9 hD9 hS9
        refine W.widen (k := 0) (n := 0) (Nat.le_of_ble_eq_true rfl) (Nat.le_of_ble_eq_true rfl) ?_
        replace hw47 : (ta2_48 ≤ tn) ∧ (tk2_50 ≤ 123) ∧ (nf2_57 ≤ 280) ∧ (cOK fco2_58 nf2_57) ∧ (ow2_55 ≤ 30) ∧ (un2_56 ≤ 60) ∧ ((zr47 = 1 ∧ (okS (knd fby tn) (fin fby tn) (cdF fby tn) 5 6 (fin fby tn ga2_15) ow2_11 un2_12 ga2_59 ow2_55 un2_56 nw2_60) ∧ (fq = fq2_53) ∧ (pq = pq2_54) ∧ (tkC fby tn ga2_59 ta2_48 ts2_49 tk2_50 tm2_51 tr2_52) ∧ ((fin fby tn ga2_15) < ga2_59 ∧ ga2_59 ≤ tn) ∧ (exC fco2_14 nf2_13 fco2_58 nf2_57 nw2_60) ∧ (nf2_57 + 3 * ow2_11 + 1 ≤ nf2_13 + 3 * ow2_55 ∧ ow2_11 < ow2_55)) ∨ (zr47 = 0 ∧ (noS (knd fby tn) (fin fby tn) 5 6 (fin fby tn ga2_15) ow2_11 un2_12 ga2_59) ∧ (flt fby tn ga2_59 2 fq2_53 pq2_54))) := hw47
        obtain ⟨f_61, f_62, f_63, f_64, f_65, f_66, f_67⟩ := hw47
        rcases f_67 with ⟨hz_75, a_68, a_69, a_70, a_71, a_72, a_73, a_74⟩ | ⟨hz_78, a_76, a_77⟩
        · subst hz_75
          subst a_69
          subst a_70
          have hg_a_72 := a_72
          have hl_a_74 := a_74
          refine lv_istore_n (lv' := [(3, .int 1), (2, .int (nI tk2_6)), (0, .ref d0), (1, .int 6)]) hx hb dX10_takeOne_68 rfl hl (by decide) rfl (fun ls hl => ?_)
          refine lv_aload_n hx hb dX10_takeOne_69 rfl (lv_at hl 2 rfl) ?_
          refine va_get (D := D) (ci := 10) (v := .ref f0) (C := RX10) (T := TX10) (N := 10) hx hb hg i_X10 hown hK hP 0 rfl rfl 3 (by decide) (hg _ m_258) (fun _ h9 => h9) rfl dX10_takeOne_70 ?_
          refine lv_iload_n hx hb dX10_takeOne_73 rfl (lv_at hl 1 rfl) ?_
          refine x_callVv (q := (RX3, TX3, 4)) (ci := 3) (q0 := 0) (wr := [wO d0 10 [.ref t0, .ref d1, .ref h0, .ref f0, .int (nI ow2_55), .int wt, .int dt, .int vv, .int fq, .int pq], wO t0 9 [.ref t1, .ref t2, .int (nI tn), .int (nI ta2_48), .int (nI ts2_49), .int (nI tk2_50), .long tm2_51, .int tr2_52], wI (cy 0) t1 1600 (fby), (t2, .inl (cy 2, 24, .inr (.inl (fky)))), wO h0 4 [.ref h1, .ref h2, .ref h3, .ref h4, .ref h5, .ref h6, .ref h7, .ref h8, .ref h9, .ref h10, .ref h11, hv0, hv1, hv2, hv3, .int (nI un2_56)]]) (rest := []) ⟨hx, hb, hml, hown, hg, hl.1⟩ k_X10_182 (s_addDeed9 l D cy f0 f1 f2 nf2_57 y3 fco2_58 tk2_6 (by omega) (f_64) (by omega)) E0_blind hK hP hD hS hA [5, 6] [0, 1, 2, 3, 4] ⟨rfl, rfl, by decide +kernel, by decide +kernel, by decide +kernel⟩ rfl rfl (fun _ _ _ => trivial) dX10_takeOne_74 rfl rfl (Nat.le_of_ble_eq_true rfl) ⟨Nat.le_of_ble_eq_true rfl, Nat.le_of_ble_eq_true rfl⟩ ⟨Nat.le_of_ble_eq_true rfl, Nat.le_of_ble_eq_true rfl⟩ (fun zu79 H locs hw79 hP9 hD9 hS9 => ?_)
          clear hP hD hS
          obtain ⟨n2_80, fc2_81⟩ := zu79
          refine reW [wO d0 10 [.ref t0, .ref d1, .ref h0, .ref f0, .int (nI ow2_55), .int wt, .int dt, .int vv, .int fq, .int pq], wO t0 9 [.ref t1, .ref t2, .int (nI tn), .int (nI ta2_48), .int (nI ts2_49), .int (nI tk2_50), .long tm2_51, .int tr2_52], wI (cy 0) t1 1600 (fby), (t2, .inl (cy 2, 24, .inr (.inl (fky)))), wO h0 4 [.ref h1, .ref h2, .ref h3, .ref h4, .ref h5, .ref h6, .ref h7, .ref h8, .ref h9, .ref h10, .ref h11, hv0, hv1, hv2, hv3, .int (nI un2_56)], wO f0 3 [.ref f1, .ref f2, .int (nI n2_80), y3], wI (cy 1) f1 280 (fc2_81)] hP9 hD9 hS9 (fun hP hD hS => ?_)
          clear hP9 hD9 hS9
          refine W.widen (k := 0) (n := 0) (Nat.le_of_ble_eq_true rfl) (Nat.le_of_ble_eq_true rfl) ?_
          replace hw79 : (n2_80 = nf2_57 + 1) ∧ (cOK fc2_81 n2_80) ∧ (exC fco2_58 nf2_57 fc2_81 n2_80 [nI (20000 + tk2_6)]) := hw79
          obtain ⟨f_82, f_83, f_84⟩ := hw79
          refine lv_iload_n hx hb dX10_takeOne_77 rfl (lv_at hl 0 rfl) ?_
          exact x_zret hQ hx hb hr hlocks hK hP hD hS rfl dX10_takeOne_78 (ta2_48, ts2_49, tk2_50, tm2_51, tr2_52, fq, pq, ow2_55, un2_56, n2_80, fc2_81, ga2_59, (nw2_16 ++ (nw2_60 ++ [ded (sgM (knd fby tn ga2_15))]))) (⟨(show ta2_48 ≤ tn from by omega), (show tk2_50 ≤ 123 from by omega), (show n2_80 ≤ 280 from by omega), f_83, (show ow2_55 ≤ 30 from by omega), (show un2_56 ≤ 60 from by omega), (show ((1 : Int32) = 1 ∧ (okS (knd fby tn) (fin fby tn) (cdF fby tn) 4 6 ga ow un ga2_59 ow2_55 un2_56 ((nw2_16 ++ (nw2_60 ++ [ded (sgM (knd fby tn ga2_15))])))) ∧ (fq = fq) ∧ (pq = pq) ∧ (tkC fby tn ga2_59 ta2_48 ts2_49 tk2_50 tm2_51 tr2_52) ∧ (ga < ga2_59 ∧ ga2_59 ≤ tn) ∧ (exC fco nf fc2_81 n2_80 ((nw2_16 ++ (nw2_60 ++ [ded (sgM (knd fby tn ga2_15))])))) ∧ (n2_80 + 3 * ow + 1 ≤ nf + 3 * ow2_55 ∧ ow < ow2_55)) ∨ ((1 : Int32) = 0 ∧ (noS (knd fby tn) (fin fby tn) 4 6 ga ow un ga2_59) ∧ (flt fby tn ga2_59 2 fq pq)) from Or.inl ⟨rfl, (one_rel hn16 a_24 hop.1 hop.2 a_68), (rfl), (rfl), (a_71), (⟨by omega, by omega⟩), ((exC_tr a_29 (exC_tr a_73 (exC_dd f_84 hop.1 hkk)))), (⟨by omega, by omega⟩)⟩)⟩) [0, 1, 2, 3, 4, 5, 6] (by decide +kernel) rfl (Nat.le_of_ble_eq_true rfl) (Nat.le_of_ble_eq_true rfl)
        · subst hz_78
          refine lv_istore_n (lv' := [(3, .int 0), (2, .int (nI tk2_6)), (0, .ref d0), (1, .int 6)]) hx hb dX10_takeOne_68 rfl hl (by decide) rfl (fun ls hl => ?_)
          refine lv_aload_n hx hb dX10_takeOne_69 rfl (lv_at hl 2 rfl) ?_
          refine va_get (D := D) (ci := 10) (v := .ref f0) (C := RX10) (T := TX10) (N := 10) hx hb hg i_X10 hown hK hP 0 rfl rfl 3 (by decide) (hg _ m_258) (fun _ h9 => h9) rfl dX10_takeOne_70 ?_
          refine lv_iload_n hx hb dX10_takeOne_73 rfl (lv_at hl 1 rfl) ?_
          refine x_callVv (q := (RX3, TX3, 4)) (ci := 3) (q0 := 0) (wr := [wO d0 10 [.ref t0, .ref d1, .ref h0, .ref f0, .int (nI ow2_55), .int wt, .int dt, .int vv, .int fq2_53, .int pq2_54], wO t0 9 [.ref t1, .ref t2, .int (nI tn), .int (nI ta2_48), .int (nI ts2_49), .int (nI tk2_50), .long tm2_51, .int tr2_52], wI (cy 0) t1 1600 (fby), (t2, .inl (cy 2, 24, .inr (.inl (fky)))), wO h0 4 [.ref h1, .ref h2, .ref h3, .ref h4, .ref h5, .ref h6, .ref h7, .ref h8, .ref h9, .ref h10, .ref h11, hv0, hv1, hv2, hv3, .int (nI un2_56)]]) (rest := []) ⟨hx, hb, hml, hown, hg, hl.1⟩ k_X10_182 (s_addDeed l D cy f0 f1 f2 nf2_57 y3 fco2_58 tk2_6 (by omega) (f_64) (by omega)) E0_blind hK hP hD hS hA [5, 6] [0, 1, 2, 3, 4] ⟨rfl, rfl, by decide +kernel, by decide +kernel, by decide +kernel⟩ rfl rfl (fun _ _ _ => trivial) dX10_takeOne_74 rfl rfl (Nat.le_of_ble_eq_true rfl) ⟨Nat.le_of_ble_eq_true rfl, Nat.le_of_ble_eq_true rfl⟩ ⟨Nat.le_of_ble_eq_true rfl, Nat.le_of_ble_eq_true rfl⟩ (fun zu85 H locs hw85 hP9 hD9 hS9 => ?_)
          clear hP hD hS
          obtain ⟨n2_86, fc2_87⟩ := zu85
          refine reW [wO d0 10 [.ref t0, .ref d1, .ref h0, .ref f0, .int (nI ow2_55), .int wt, .int dt, .int vv, .int fq2_53, .int pq2_54], wO t0 9 [.ref t1, .ref t2, .int (nI tn), .int (nI ta2_48), .int (nI ts2_49), .int (nI tk2_50), .long tm2_51, .int tr2_52], wI (cy 0) t1 1600 (fby), (t2, .inl (cy 2, 24, .inr (.inl (fky)))), wO h0 4 [.ref h1, .ref h2, .ref h3, .ref h4, .ref h5, .ref h6, .ref h7, .ref h8, .ref h9, .ref h10, .ref h11, hv0, hv1, hv2, hv3, .int (nI un2_56)], wO f0 3 [.ref f1, .ref f2, .int (nI n2_86), y3], wI (cy 1) f1 280 (fc2_87)] hP9 hD9 hS9 (fun hP hD hS => ?_)
          clear hP9 hD9 hS9
          refine W.widen (k := 0) (n := 0) (Nat.le_of_ble_eq_true rfl) (Nat.le_of_ble_eq_true rfl) ?_
          replace hw85 : (n2_86 ≤ 280) ∧ (cOK fc2_87 n2_86) := hw85
          obtain ⟨f_88, f_89⟩ := hw85
          refine lv_iload_n hx hb dX10_takeOne_77 rfl (lv_at hl 0 rfl) ?_
          exact x_zret hQ hx hb hr hlocks hK hP hD hS rfl dX10_takeOne_78 (ta2_48, ts2_49, tk2_50, tm2_51, tr2_52, fq2_53, pq2_54, ow2_55, un2_56, n2_86, fc2_87, ga2_59, []) (⟨(show ta2_48 ≤ tn from by omega), (show tk2_50 ≤ 123 from by omega), (show n2_86 ≤ 280 from by omega), f_89, (show ow2_55 ≤ 30 from by omega), (show un2_56 ≤ 60 from by omega), (show ((0 : Int32) = 1 ∧ (okS (knd fby tn) (fin fby tn) (cdF fby tn) 4 6 ga ow un ga2_59 ow2_55 un2_56 ([])) ∧ (fq = fq2_53) ∧ (pq = pq2_54) ∧ (tkC fby tn ga2_59 ta2_48 ts2_49 tk2_50 tm2_51 tr2_52) ∧ (ga < ga2_59 ∧ ga2_59 ≤ tn) ∧ (exC fco nf fc2_87 n2_86 ([])) ∧ (n2_86 + 3 * ow + 1 ≤ nf + 3 * ow2_55 ∧ ow < ow2_55)) ∨ ((0 : Int32) = 0 ∧ (noS (knd fby tn) (fin fby tn) 4 6 ga ow un ga2_59) ∧ (flt fby tn ga2_59 2 fq2_53 pq2_54)) from Or.inr (⟨rfl, (one_relN hn16 a_24 hop.1 hop.2 a_76), (a_77)⟩))⟩) [0, 1, 2, 3, 4, 5, 6] (by decide +kernel) rfl (Nat.le_of_ble_eq_true rfl) (Nat.le_of_ble_eq_true rfl)
      · have q_36 : ¬ tk2_6 = 60 := q_ne (a := tk2_6) (b := 60) rfl rfl (by omega) (by omega) c_35
        refine lv_iload_n hx hb dX10_takeOne_42 rfl (lv_at hl 0 rfl) ?_
        refine lv_bipush (v := 62) hx hb dX10_takeOne_43 (by decide) ?_
        refine lv_icmp_eq (tgt := 56) hx hb dX10_takeOne_45 (by decide) (fun c_90 => ?_) (fun c_90 => ?_)
        · have q_91 : tk2_6 = 62 := q_eq (a := tk2_6) (b := 62) rfl rfl (by omega) (by omega) c_90
          have hkk : tk2_6 = knd fby tn ga2_15 := by have h9 := a_27.2.2.1; omega
          have hop := sg_4 (show knd fby tn ga2_15 = 60 ∨ knd fby tn ga2_15 = 62 ∨ knd fby tn ga2_15 = 61 from by have h9 := a_27.2.2.1; omega)
          have hgt_92 : ga2_15 < fin fby tn ga2_15 ∧ fin fby tn ga2_15 ≤ tn := ⟨fin_gt (by have h9 := a_27.2.2.1; omega), fin_le (by omega)⟩
          refine lv_aload_n hx hb dX10_takeOne_56 rfl (lv_at hl 1 rfl) ?_
          refine va_get (D := D) (ci := 10) (v := .ref t0) (C := RX10) (T := TX10) (N := 10) hx hb hg i_X10 hown hK hP 0 rfl rfl 0 (by decide) (hg _ m_255) (fun _ h9 => h9) rfl dX10_takeOne_57 ?_
          refine x_callVv (q := (RX9, TX9, 8)) (ci := 9) (q0 := 0) (wr := [wO d0 10 [.ref t0, .ref d1, .ref h0, .ref f0, .int (nI ow2_11), .int wt, .int dt, .int vv, .int fq, .int pq], wO h0 4 [.ref h1, .ref h2, .ref h3, .ref h4, .ref h5, .ref h6, .ref h7, .ref h8, .ref h9, .ref h10, .ref h11, hv0, hv1, hv2, hv3, .int (nI un2_12)], wO f0 3 [.ref f1, .ref f2, .int (nI nf2_13), y3], wI (cy 1) f1 280 (fco2_14)]) (rest := []) ⟨hx, hb, hml, hown, hg, hl.1⟩ k_X10_140 (s_next l D cy adK adV t0 t1 t2 tn ta2_4 ts2_5 tk2_6 tm2_7 tr2_8 fby fky (fin fby tn ga2_15) (by omega) (by omega) (a_27.2.1) (hky)) EV_blind hK hP hD hS hA [1, 2, 3] [0, 4, 5, 6] ⟨rfl, rfl, by decide +kernel, by decide +kernel, by decide +kernel⟩ rfl rfl (fun U hU hW => EV_pass hE hS (va_free hD hS hA [1, 2, 3] rfl) hU hW) dX10_takeOne_60 rfl rfl (Nat.le_of_ble_eq_true rfl) ⟨Nat.le_of_ble_eq_true rfl, Nat.le_of_ble_eq_true rfl⟩ ⟨Nat.le_of_ble_eq_true rfl, Nat.le_of_ble_eq_true rfl⟩ (fun zu93 H locs hw93 hP9 hD9 hS9 => ?_)
          clear hP hD hS
          obtain ⟨ta2_94, ts2_95, tk2_96, tm2_97, tr2_98⟩ := zu93
          refine reW [wO d0 10 [.ref t0, .ref d1, .ref h0, .ref f0, .int (nI ow2_11), .int wt, .int dt, .int vv, .int fq, .int pq], wO h0 4 [.ref h1, .ref h2, .ref h3, .ref h4, .ref h5, .ref h6, .ref h7, .ref h8, .ref h9, .ref h10, .ref h11, hv0, hv1, hv2, hv3, .int (nI un2_12)], wO f0 3 [.ref f1, .ref f2, .int (nI nf2_13), y3], wI (cy 1) f1 280 (fco2_14), wO t0 9 [.ref t1, .ref t2, .int (nI tn), .int (nI ta2_94), .int (nI ts2_95), .int (nI tk2_96), .long tm2_97, .int tr2_98], wI (cy 0) t1 1600 (fby), (t2, .inl (cy 2, 24, .inr (.inl (fky))))] hP9 hD9 hS9 (fun hP hD hS => ?_)
          clear hP9 hD9 hS9
          refine W.widen (k := 0) (n := 0) (Nat.le_of_ble_eq_true rfl) (Nat.le_of_ble_eq_true rfl) ?_
          replace hw93 : (ta2_94 ≤ tn) ∧ (tk2_96 ≤ 123) ∧ (tkC fby tn (fin fby tn ga2_15) ta2_94 ts2_95 tk2_96 tm2_97 tr2_98) := hw93
          obtain ⟨f_99, f_100, f_101⟩ := hw93
          refine lv_aload_n hx hb dX10_takeOne_63 rfl (lv_at hl 1 rfl) ?_
          refine lv_iload_n hx hb dX10_takeOne_64 rfl (lv_at hl 2 rfl) ?_
          refine x_callVi (q := (RX10, TX10, 10)) (ci := 10) (q0 := 0) (wr := []) (rest := []) ⟨hx, hb, hml, hown, hg, hl.1⟩ k_X10_192 (s_takeSum6 l D cy adK adV d0 d1 wt dt vv fq pq t0 t1 t2 tn ta2_94 ts2_95 tk2_96 tm2_97 tr2_98 fby fky h0 h1 h2 h3 h4 h5 h6 h7 h8 h9 h10 h11 hv0 hv1 hv2 hv3 ow2_11 un2_12 f0 f1 f2 nf2_13 y3 fco2_14 (fin fby tn ga2_15) (by omega) (by omega) (by omega) (f_101) (hky) (by omega) (f_20) (by omega) (by omega) (by omega) (by omega)) EV_blind hK hP hD hS hA [0, 4, 5, 6, 1, 2, 3] [] ⟨rfl, rfl, by decide +kernel, by decide +kernel, by decide +kernel⟩ rfl rfl (fun U hU hW => EV_pass hE hS (va_free hD hS hA [0, 4, 5, 6, 1, 2, 3] rfl) hU hW) dX10_takeOne_65 rfl rfl (Nat.le_of_ble_eq_true rfl) ⟨Nat.le_of_ble_eq_true rfl, Nat.le_of_ble_eq_true rfl⟩ ⟨Nat.le_of_ble_eq_true rfl, Nat.le_of_ble_eq_true rfl⟩ (fun zr102 zu102 H locs hw102 hP9 hD9 hS9 => ?_)
          clear hP hD hS
          obtain ⟨ta2_103, ts2_104, tk2_105, tm2_106, tr2_107, fq2_108, pq2_109, ow2_110, un2_111, nf2_112, fco2_113, ga2_114, nw2_115⟩ := zu102
          refine reW [wO d0 10 [.ref t0, .ref d1, .ref h0, .ref f0, .int (nI ow2_110), .int wt, .int dt, .int vv, .int fq2_108, .int pq2_109], wO t0 9 [.ref t1, .ref t2, .int (nI tn), .int (nI ta2_103), .int (nI ts2_104), .int (nI tk2_105), .long tm2_106, .int tr2_107], wI (cy 0) t1 1600 (fby), (t2, .inl (cy 2, 24, .inr (.inl (fky)))), wO h0 4 [.ref h1, .ref h2, .ref h3, .ref h4, .ref h5, .ref h6, .ref h7, .ref h8, .ref h9, .ref h10, .ref h11, hv0, hv1, hv2, hv3, .int (nI un2_111)], wO f0 3 [.ref f1, .ref f2, .int (nI nf2_112), y3], wI (cy 1) f1 280 (fco2_113)] hP9 hD9 hS9 (fun hP hD hS => ?_)
          clear hP9 hD9 hS9
          refine W.widen (k := 0) (n := 0) (Nat.le_of_ble_eq_true rfl) (Nat.le_of_ble_eq_true rfl) ?_
          replace hw102 : (ta2_103 ≤ tn) ∧ (tk2_105 ≤ 123) ∧ (nf2_112 ≤ 280) ∧ (cOK fco2_113 nf2_112) ∧ (ow2_110 ≤ 30) ∧ (un2_111 ≤ 60) ∧ ((zr102 = 1 ∧ (okS (knd fby tn) (fin fby tn) (cdF fby tn) 5 6 (fin fby tn ga2_15) ow2_11 un2_12 ga2_114 ow2_110 un2_111 nw2_115) ∧ (fq = fq2_108) ∧ (pq = pq2_109) ∧ (tkC fby tn ga2_114 ta2_103 ts2_104 tk2_105 tm2_106 tr2_107) ∧ ((fin fby tn ga2_15) < ga2_114 ∧ ga2_114 ≤ tn) ∧ (exC fco2_14 nf2_13 fco2_113 nf2_112 nw2_115) ∧ (nf2_112 + 3 * ow2_11 + 1 ≤ nf2_13 + 3 * ow2_110 ∧ ow2_11 < ow2_110)) ∨ (zr102 = 0 ∧ (noS (knd fby tn) (fin fby tn) 5 6 (fin fby tn ga2_15) ow2_11 un2_12 ga2_114) ∧ (flt fby tn ga2_114 2 fq2_108 pq2_109))) := hw102
          obtain ⟨f_116, f_117, f_118, f_119, f_120, f_121, f_122⟩ := hw102
          rcases f_122 with ⟨hz_130, a_123, a_124, a_125, a_126, a_127, a_128, a_129⟩ | ⟨hz_133, a_131, a_132⟩
          · subst hz_130
            subst a_124
            subst a_125
            have hg_a_127 := a_127
            have hl_a_129 := a_129
            refine lv_istore_n (lv' := [(3, .int 1), (2, .int (nI tk2_6)), (0, .ref d0), (1, .int 6)]) hx hb dX10_takeOne_68 rfl hl (by decide) rfl (fun ls hl => ?_)
            refine lv_aload_n hx hb dX10_takeOne_69 rfl (lv_at hl 2 rfl) ?_
            refine va_get (D := D) (ci := 10) (v := .ref f0) (C := RX10) (T := TX10) (N := 10) hx hb hg i_X10 hown hK hP 0 rfl rfl 3 (by decide) (hg _ m_258) (fun _ h9 => h9) rfl dX10_takeOne_70 ?_
            refine lv_iload_n hx hb dX10_takeOne_73 rfl (lv_at hl 1 rfl) ?_
            refine x_callVv (q := (RX3, TX3, 4)) (ci := 3) (q0 := 0) (wr := [wO d0 10 [.ref t0, .ref d1, .ref h0, .ref f0, .int (nI ow2_110), .int wt, .int dt, .int vv, .int fq, .int pq], wO t0 9 [.ref t1, .ref t2, .int (nI tn), .int (nI ta2_103), .int (nI ts2_104), .int (nI tk2_105), .long tm2_106, .int tr2_107], wI (cy 0) t1 1600 (fby), (t2, .inl (cy 2, 24, .inr (.inl (fky)))), wO h0 4 [.ref h1, .ref h2, .ref h3, .ref h4, .ref h5, .ref h6, .ref h7, .ref h8, .ref h9, .ref h10, .ref h11, hv0, hv1, hv2, hv3, .int (nI un2_111)]]) (rest := []) ⟨hx, hb, hml, hown, hg, hl.1⟩ k_X10_182 (s_addDeed9 l D cy f0 f1 f2 nf2_112 y3 fco2_113 tk2_6 (by omega) (f_119) (by omega)) E0_blind hK hP hD hS hA [5, 6] [0, 1, 2, 3, 4] ⟨rfl, rfl, by decide +kernel, by decide +kernel, by decide +kernel⟩ rfl rfl (fun _ _ _ => trivial) dX10_takeOne_74 rfl rfl (Nat.le_of_ble_eq_true rfl) ⟨Nat.le_of_ble_eq_true rfl, Nat.le_of_ble_eq_true rfl⟩ ⟨Nat.le_of_ble_eq_true rfl, Nat.le_of_ble_eq_true rfl⟩ (fun zu134 H locs hw134 hP9 hD9 hS9 => ?_)
            clear hP hD hS
            obtain ⟨n2_135, fc2_136⟩ := zu134
            refine reW [wO d0 10 [.ref t0, .ref d1, .ref h0, .ref f0, .int (nI ow2_110), .int wt, .int dt, .int vv, .int fq, .int pq], wO t0 9 [.ref t1, .ref t2, .int (nI tn), .int (nI ta2_103), .int (nI ts2_104), .int (nI tk2_105), .long tm2_106, .int tr2_107], wI (cy 0) t1 1600 (fby), (t2, .inl (cy 2, 24, .inr (.inl (fky)))), wO h0 4 [.ref h1, .ref h2, .ref h3, .ref h4, .ref h5, .ref h6, .ref h7, .ref h8, .ref h9, .ref h10, .ref h11, hv0, hv1, hv2, hv3, .int (nI un2_111)], wO f0 3 [.ref f1, .ref f2, .int (nI n2_135), y3], wI (cy 1) f1 280 (fc2_136)] hP9 hD9 hS9 (fun hP hD hS => ?_)
            clear hP9 hD9 hS9
            refine W.widen (k := 0) (n := 0) (Nat.le_of_ble_eq_true rfl) (Nat.le_of_ble_eq_true rfl) ?_
            replace hw134 : (n2_135 = nf2_112 + 1) ∧ (cOK fc2_136 n2_135) ∧ (exC fco2_113 nf2_112 fc2_136 n2_135 [nI (20000 + tk2_6)]) := hw134
            obtain ⟨f_137, f_138, f_139⟩ := hw134
            refine lv_iload_n hx hb dX10_takeOne_77 rfl (lv_at hl 0 rfl) ?_
            exact x_zret hQ hx hb hr hlocks hK hP hD hS rfl dX10_takeOne_78 (ta2_103, ts2_104, tk2_105, tm2_106, tr2_107, fq, pq, ow2_110, un2_111, n2_135, fc2_136, ga2_114, (nw2_16 ++ (nw2_115 ++ [ded (sgM (knd fby tn ga2_15))]))) (⟨(show ta2_103 ≤ tn from by omega), (show tk2_105 ≤ 123 from by omega), (show n2_135 ≤ 280 from by omega), f_138, (show ow2_110 ≤ 30 from by omega), (show un2_111 ≤ 60 from by omega), (show ((1 : Int32) = 1 ∧ (okS (knd fby tn) (fin fby tn) (cdF fby tn) 4 6 ga ow un ga2_114 ow2_110 un2_111 ((nw2_16 ++ (nw2_115 ++ [ded (sgM (knd fby tn ga2_15))])))) ∧ (fq = fq) ∧ (pq = pq) ∧ (tkC fby tn ga2_114 ta2_103 ts2_104 tk2_105 tm2_106 tr2_107) ∧ (ga < ga2_114 ∧ ga2_114 ≤ tn) ∧ (exC fco nf fc2_136 n2_135 ((nw2_16 ++ (nw2_115 ++ [ded (sgM (knd fby tn ga2_15))])))) ∧ (n2_135 + 3 * ow + 1 ≤ nf + 3 * ow2_110 ∧ ow < ow2_110)) ∨ ((1 : Int32) = 0 ∧ (noS (knd fby tn) (fin fby tn) 4 6 ga ow un ga2_114) ∧ (flt fby tn ga2_114 2 fq pq)) from Or.inl ⟨rfl, (one_rel hn16 a_24 hop.1 hop.2 a_123), (rfl), (rfl), (a_126), (⟨by omega, by omega⟩), ((exC_tr a_29 (exC_tr a_128 (exC_dd f_139 hop.1 hkk)))), (⟨by omega, by omega⟩)⟩)⟩) [0, 1, 2, 3, 4, 5, 6] (by decide +kernel) rfl (Nat.le_of_ble_eq_true rfl) (Nat.le_of_ble_eq_true rfl)
          · subst hz_133
            refine lv_istore_n (lv' := [(3, .int 0), (2, .int (nI tk2_6)), (0, .ref d0), (1, .int 6)]) hx hb dX10_takeOne_68 rfl hl (by decide) rfl (fun ls hl => ?_)
            refine lv_aload_n hx hb dX10_takeOne_69 rfl (lv_at hl 2 rfl) ?_
            refine va_get (D := D) (ci := 10) (v := .ref f0) (C := RX10) (T := TX10) (N := 10) hx hb hg i_X10 hown hK hP 0 rfl rfl 3 (by decide) (hg _ m_258) (fun _ h9 => h9) rfl dX10_takeOne_70 ?_
            refine lv_iload_n hx hb dX10_takeOne_73 rfl (lv_at hl 1 rfl) ?_
            refine x_callVv (q := (RX3, TX3, 4)) (ci := 3) (q0 := 0) (wr := [wO d0 10 [.ref t0, .ref d1, .ref h0, .ref f0, .int (nI ow2_110), .int wt, .int dt, .int vv, .int fq2_108, .int pq2_109], wO t0 9 [.ref t1, .ref t2, .int (nI tn), .int (nI ta2_103), .int (nI ts2_104), .int (nI tk2_105), .long tm2_106, .int tr2_107], wI (cy 0) t1 1600 (fby), (t2, .inl (cy 2, 24, .inr (.inl (fky)))), wO h0 4 [.ref h1, .ref h2, .ref h3, .ref h4, .ref h5, .ref h6, .ref h7, .ref h8, .ref h9, .ref h10, .ref h11, hv0, hv1, hv2, hv3, .int (nI un2_111)]]) (rest := []) ⟨hx, hb, hml, hown, hg, hl.1⟩ k_X10_182 (s_addDeed l D cy f0 f1 f2 nf2_112 y3 fco2_113 tk2_6 (by omega) (f_119) (by omega)) E0_blind hK hP hD hS hA [5, 6] [0, 1, 2, 3, 4] ⟨rfl, rfl, by decide +kernel, by decide +kernel, by decide +kernel⟩ rfl rfl (fun _ _ _ => trivial) dX10_takeOne_74 rfl rfl (Nat.le_of_ble_eq_true rfl) ⟨Nat.le_of_ble_eq_true rfl, Nat.le_of_ble_eq_true rfl⟩ ⟨Nat.le_of_ble_eq_true rfl, Nat.le_of_ble_eq_true rfl⟩ (fun zu140 H locs hw140 hP9 hD9 hS9 => ?_)
            clear hP hD hS
            obtain ⟨n2_141, fc2_142⟩ := zu140
            refine reW [wO d0 10 [.ref t0, .ref d1, .ref h0, .ref f0, .int (nI ow2_110), .int wt, .int dt, .int vv, .int fq2_108, .int pq2_109], wO t0 9 [.ref t1, .ref t2, .int (nI tn), .int (nI ta2_103), .int (nI ts2_104), .int (nI tk2_105), .long tm2_106, .int tr2_107], wI (cy 0) t1 1600 (fby), (t2, .inl (cy 2, 24, .inr (.inl (fky)))), wO h0 4 [.ref h1, .ref h2, .ref h3, .ref h4, .ref h5, .ref h6, .ref h7, .ref h8, .ref h9, .ref h10, .ref h11, hv0, hv1, hv2, hv3, .int (nI un2_111)], wO f0 3 [.ref f1, .ref f2, .int (nI n2_141), y3], wI (cy 1) f1 280 (fc2_142)] hP9 hD9 hS9 (fun hP hD hS => ?_)
            clear hP9 hD9 hS9
            refine W.widen (k := 0) (n := 0) (Nat.le_of_ble_eq_true rfl) (Nat.le_of_ble_eq_true rfl) ?_
            replace hw140 : (n2_141 ≤ 280) ∧ (cOK fc2_142 n2_141) := hw140
            obtain ⟨f_143, f_144⟩ := hw140
            refine lv_iload_n hx hb dX10_takeOne_77 rfl (lv_at hl 0 rfl) ?_
            exact x_zret hQ hx hb hr hlocks hK hP hD hS rfl dX10_takeOne_78 (ta2_103, ts2_104, tk2_105, tm2_106, tr2_107, fq2_108, pq2_109, ow2_110, un2_111, n2_141, fc2_142, ga2_114, []) (⟨(show ta2_103 ≤ tn from by omega), (show tk2_105 ≤ 123 from by omega), (show n2_141 ≤ 280 from by omega), f_144, (show ow2_110 ≤ 30 from by omega), (show un2_111 ≤ 60 from by omega), (show ((0 : Int32) = 1 ∧ (okS (knd fby tn) (fin fby tn) (cdF fby tn) 4 6 ga ow un ga2_114 ow2_110 un2_111 ([])) ∧ (fq = fq2_108) ∧ (pq = pq2_109) ∧ (tkC fby tn ga2_114 ta2_103 ts2_104 tk2_105 tm2_106 tr2_107) ∧ (ga < ga2_114 ∧ ga2_114 ≤ tn) ∧ (exC fco nf fc2_142 n2_141 ([])) ∧ (n2_141 + 3 * ow + 1 ≤ nf + 3 * ow2_110 ∧ ow < ow2_110)) ∨ ((0 : Int32) = 0 ∧ (noS (knd fby tn) (fin fby tn) 4 6 ga ow un ga2_114) ∧ (flt fby tn ga2_114 2 fq2_108 pq2_109)) from Or.inr (⟨rfl, (one_relN hn16 a_24 hop.1 hop.2 a_131), (a_132)⟩))⟩) [0, 1, 2, 3, 4, 5, 6] (by decide +kernel) rfl (Nat.le_of_ble_eq_true rfl) (Nat.le_of_ble_eq_true rfl)
        · have q_91 : ¬ tk2_6 = 62 := q_ne (a := tk2_6) (b := 62) rfl rfl (by omega) (by omega) c_90
          refine lv_iload_n hx hb dX10_takeOne_48 rfl (lv_at hl 0 rfl) ?_
          refine lv_bipush (v := 61) hx hb dX10_takeOne_49 (by decide) ?_
          refine lv_icmp_eq (tgt := 56) hx hb dX10_takeOne_51 (by decide) (fun c_145 => ?_) (fun c_145 => ?_)
          · have q_146 : tk2_6 = 61 := q_eq (a := tk2_6) (b := 61) rfl rfl (by omega) (by omega) c_145
            have hkk : tk2_6 = knd fby tn ga2_15 := by have h9 := a_27.2.2.1; omega
            have hop := sg_4 (show knd fby tn ga2_15 = 60 ∨ knd fby tn ga2_15 = 62 ∨ knd fby tn ga2_15 = 61 from by have h9 := a_27.2.2.1; omega)
            have hgt_147 : ga2_15 < fin fby tn ga2_15 ∧ fin fby tn ga2_15 ≤ tn := ⟨fin_gt (by have h9 := a_27.2.2.1; omega), fin_le (by omega)⟩
            refine lv_aload_n hx hb dX10_takeOne_56 rfl (lv_at hl 1 rfl) ?_
            refine va_get (D := D) (ci := 10) (v := .ref t0) (C := RX10) (T := TX10) (N := 10) hx hb hg i_X10 hown hK hP 0 rfl rfl 0 (by decide) (hg _ m_255) (fun _ h9 => h9) rfl dX10_takeOne_57 ?_
            refine x_callVv (q := (RX9, TX9, 8)) (ci := 9) (q0 := 0) (wr := [wO d0 10 [.ref t0, .ref d1, .ref h0, .ref f0, .int (nI ow2_11), .int wt, .int dt, .int vv, .int fq, .int pq], wO h0 4 [.ref h1, .ref h2, .ref h3, .ref h4, .ref h5, .ref h6, .ref h7, .ref h8, .ref h9, .ref h10, .ref h11, hv0, hv1, hv2, hv3, .int (nI un2_12)], wO f0 3 [.ref f1, .ref f2, .int (nI nf2_13), y3], wI (cy 1) f1 280 (fco2_14)]) (rest := []) ⟨hx, hb, hml, hown, hg, hl.1⟩ k_X10_140 (s_next l D cy adK adV t0 t1 t2 tn ta2_4 ts2_5 tk2_6 tm2_7 tr2_8 fby fky (fin fby tn ga2_15) (by omega) (by omega) (a_27.2.1) (hky)) EV_blind hK hP hD hS hA [1, 2, 3] [0, 4, 5, 6] ⟨rfl, rfl, by decide +kernel, by decide +kernel, by decide +kernel⟩ rfl rfl (fun U hU hW => EV_pass hE hS (va_free hD hS hA [1, 2, 3] rfl) hU hW) dX10_takeOne_60 rfl rfl (Nat.le_of_ble_eq_true rfl) ⟨Nat.le_of_ble_eq_true rfl, Nat.le_of_ble_eq_true rfl⟩ ⟨Nat.le_of_ble_eq_true rfl, Nat.le_of_ble_eq_true rfl⟩ (fun zu148 H locs hw148 hP9 hD9 hS9 => ?_)
            clear hP hD hS
            obtain ⟨ta2_149, ts2_150, tk2_151, tm2_152, tr2_153⟩ := zu148
            refine reW [wO d0 10 [.ref t0, .ref d1, .ref h0, .ref f0, .int (nI ow2_11), .int wt, .int dt, .int vv, .int fq, .int pq], wO h0 4 [.ref h1, .ref h2, .ref h3, .ref h4, .ref h5, .ref h6, .ref h7, .ref h8, .ref h9, .ref h10, .ref h11, hv0, hv1, hv2, hv3, .int (nI un2_12)], wO f0 3 [.ref f1, .ref f2, .int (nI nf2_13), y3], wI (cy 1) f1 280 (fco2_14), wO t0 9 [.ref t1, .ref t2, .int (nI tn), .int (nI ta2_149), .int (nI ts2_150), .int (nI tk2_151), .long tm2_152, .int tr2_153], wI (cy 0) t1 1600 (fby), (t2, .inl (cy 2, 24, .inr (.inl (fky))))] hP9 hD9 hS9 (fun hP hD hS => ?_)
            clear hP9 hD9 hS9
            refine W.widen (k := 0) (n := 0) (Nat.le_of_ble_eq_true rfl) (Nat.le_of_ble_eq_true rfl) ?_
            replace hw148 : (ta2_149 ≤ tn) ∧ (tk2_151 ≤ 123) ∧ (tkC fby tn (fin fby tn ga2_15) ta2_149 ts2_150 tk2_151 tm2_152 tr2_153) := hw148
            obtain ⟨f_154, f_155, f_156⟩ := hw148
            refine lv_aload_n hx hb dX10_takeOne_63 rfl (lv_at hl 1 rfl) ?_
            refine lv_iload_n hx hb dX10_takeOne_64 rfl (lv_at hl 2 rfl) ?_
            refine x_callVi (q := (RX10, TX10, 10)) (ci := 10) (q0 := 0) (wr := []) (rest := []) ⟨hx, hb, hml, hown, hg, hl.1⟩ k_X10_192 (s_takeSum6 l D cy adK adV d0 d1 wt dt vv fq pq t0 t1 t2 tn ta2_149 ts2_150 tk2_151 tm2_152 tr2_153 fby fky h0 h1 h2 h3 h4 h5 h6 h7 h8 h9 h10 h11 hv0 hv1 hv2 hv3 ow2_11 un2_12 f0 f1 f2 nf2_13 y3 fco2_14 (fin fby tn ga2_15) (by omega) (by omega) (by omega) (f_156) (hky) (by omega) (f_20) (by omega) (by omega) (by omega) (by omega)) EV_blind hK hP hD hS hA [0, 4, 5, 6, 1, 2, 3] [] ⟨rfl, rfl, by decide +kernel, by decide +kernel, by decide +kernel⟩ rfl rfl (fun U hU hW => EV_pass hE hS (va_free hD hS hA [0, 4, 5, 6, 1, 2, 3] rfl) hU hW) dX10_takeOne_65 rfl rfl (Nat.le_of_ble_eq_true rfl) ⟨Nat.le_of_ble_eq_true rfl, Nat.le_of_ble_eq_true rfl⟩ ⟨Nat.le_of_ble_eq_true rfl, Nat.le_of_ble_eq_true rfl⟩ (fun zr157 zu157 H locs hw157 hP9 hD9 hS9 => ?_)
            clear hP hD hS
            obtain ⟨ta2_158, ts2_159, tk2_160, tm2_161, tr2_162, fq2_163, pq2_164, ow2_165, un2_166, nf2_167, fco2_168, ga2_169, nw2_170⟩ := zu157
            refine reW [wO d0 10 [.ref t0, .ref d1, .ref h0, .ref f0, .int (nI ow2_165), .int wt, .int dt, .int vv, .int fq2_163, .int pq2_164], wO t0 9 [.ref t1, .ref t2, .int (nI tn), .int (nI ta2_158), .int (nI ts2_159), .int (nI tk2_160), .long tm2_161, .int tr2_162], wI (cy 0) t1 1600 (fby), (t2, .inl (cy 2, 24, .inr (.inl (fky)))), wO h0 4 [.ref h1, .ref h2, .ref h3, .ref h4, .ref h5, .ref h6, .ref h7, .ref h8, .ref h9, .ref h10, .ref h11, hv0, hv1, hv2, hv3, .int (nI un2_166)], wO f0 3 [.ref f1, .ref f2, .int (nI nf2_167), y3], wI (cy 1) f1 280 (fco2_168)] hP9 hD9 hS9 (fun hP hD hS => ?_)
            clear hP9 hD9 hS9
            refine W.widen (k := 0) (n := 0) (Nat.le_of_ble_eq_true rfl) (Nat.le_of_ble_eq_true rfl) ?_
            replace hw157 : (ta2_158 ≤ tn) ∧ (tk2_160 ≤ 123) ∧ (nf2_167 ≤ 280) ∧ (cOK fco2_168 nf2_167) ∧ (ow2_165 ≤ 30) ∧ (un2_166 ≤ 60) ∧ ((zr157 = 1 ∧ (okS (knd fby tn) (fin fby tn) (cdF fby tn) 5 6 (fin fby tn ga2_15) ow2_11 un2_12 ga2_169 ow2_165 un2_166 nw2_170) ∧ (fq = fq2_163) ∧ (pq = pq2_164) ∧ (tkC fby tn ga2_169 ta2_158 ts2_159 tk2_160 tm2_161 tr2_162) ∧ ((fin fby tn ga2_15) < ga2_169 ∧ ga2_169 ≤ tn) ∧ (exC fco2_14 nf2_13 fco2_168 nf2_167 nw2_170) ∧ (nf2_167 + 3 * ow2_11 + 1 ≤ nf2_13 + 3 * ow2_165 ∧ ow2_11 < ow2_165)) ∨ (zr157 = 0 ∧ (noS (knd fby tn) (fin fby tn) 5 6 (fin fby tn ga2_15) ow2_11 un2_12 ga2_169) ∧ (flt fby tn ga2_169 2 fq2_163 pq2_164))) := hw157
            obtain ⟨f_171, f_172, f_173, f_174, f_175, f_176, f_177⟩ := hw157
            rcases f_177 with ⟨hz_185, a_178, a_179, a_180, a_181, a_182, a_183, a_184⟩ | ⟨hz_188, a_186, a_187⟩
            · subst hz_185
              subst a_179
              subst a_180
              have hg_a_182 := a_182
              have hl_a_184 := a_184
              refine lv_istore_n (lv' := [(3, .int 1), (2, .int (nI tk2_6)), (0, .ref d0), (1, .int 6)]) hx hb dX10_takeOne_68 rfl hl (by decide) rfl (fun ls hl => ?_)
              refine lv_aload_n hx hb dX10_takeOne_69 rfl (lv_at hl 2 rfl) ?_
              refine va_get (D := D) (ci := 10) (v := .ref f0) (C := RX10) (T := TX10) (N := 10) hx hb hg i_X10 hown hK hP 0 rfl rfl 3 (by decide) (hg _ m_258) (fun _ h9 => h9) rfl dX10_takeOne_70 ?_
              refine lv_iload_n hx hb dX10_takeOne_73 rfl (lv_at hl 1 rfl) ?_
              refine x_callVv (q := (RX3, TX3, 4)) (ci := 3) (q0 := 0) (wr := [wO d0 10 [.ref t0, .ref d1, .ref h0, .ref f0, .int (nI ow2_165), .int wt, .int dt, .int vv, .int fq, .int pq], wO t0 9 [.ref t1, .ref t2, .int (nI tn), .int (nI ta2_158), .int (nI ts2_159), .int (nI tk2_160), .long tm2_161, .int tr2_162], wI (cy 0) t1 1600 (fby), (t2, .inl (cy 2, 24, .inr (.inl (fky)))), wO h0 4 [.ref h1, .ref h2, .ref h3, .ref h4, .ref h5, .ref h6, .ref h7, .ref h8, .ref h9, .ref h10, .ref h11, hv0, hv1, hv2, hv3, .int (nI un2_166)]]) (rest := []) ⟨hx, hb, hml, hown, hg, hl.1⟩ k_X10_182 (s_addDeed9 l D cy f0 f1 f2 nf2_167 y3 fco2_168 tk2_6 (by omega) (f_174) (by omega)) E0_blind hK hP hD hS hA [5, 6] [0, 1, 2, 3, 4] ⟨rfl, rfl, by decide +kernel, by decide +kernel, by decide +kernel⟩ rfl rfl (fun _ _ _ => trivial) dX10_takeOne_74 rfl rfl (Nat.le_of_ble_eq_true rfl) ⟨Nat.le_of_ble_eq_true rfl, Nat.le_of_ble_eq_true rfl⟩ ⟨Nat.le_of_ble_eq_true rfl, Nat.le_of_ble_eq_true rfl⟩ (fun zu189 H locs hw189 hP9 hD9 hS9 => ?_)
              clear hP hD hS
              obtain ⟨n2_190, fc2_191⟩ := zu189
              refine reW [wO d0 10 [.ref t0, .ref d1, .ref h0, .ref f0, .int (nI ow2_165), .int wt, .int dt, .int vv, .int fq, .int pq], wO t0 9 [.ref t1, .ref t2, .int (nI tn), .int (nI ta2_158), .int (nI ts2_159), .int (nI tk2_160), .long tm2_161, .int tr2_162], wI (cy 0) t1 1600 (fby), (t2, .inl (cy 2, 24, .inr (.inl (fky)))), wO h0 4 [.ref h1, .ref h2, .ref h3, .ref h4, .ref h5, .ref h6, .ref h7, .ref h8, .ref h9, .ref h10, .ref h11, hv0, hv1, hv2, hv3, .int (nI un2_166)], wO f0 3 [.ref f1, .ref f2, .int (nI n2_190), y3], wI (cy 1) f1 280 (fc2_191)] hP9 hD9 hS9 (fun hP hD hS => ?_)
              clear hP9 hD9 hS9
              refine W.widen (k := 0) (n := 0) (Nat.le_of_ble_eq_true rfl) (Nat.le_of_ble_eq_true rfl) ?_
              replace hw189 : (n2_190 = nf2_167 + 1) ∧ (cOK fc2_191 n2_190) ∧ (exC fco2_168 nf2_167 fc2_191 n2_190 [nI (20000 + tk2_6)]) := hw189
              obtain ⟨f_192, f_193, f_194⟩ := hw189
              refine lv_iload_n hx hb dX10_takeOne_77 rfl (lv_at hl 0 rfl) ?_
              exact x_zret hQ hx hb hr hlocks hK hP hD hS rfl dX10_takeOne_78 (ta2_158, ts2_159, tk2_160, tm2_161, tr2_162, fq, pq, ow2_165, un2_166, n2_190, fc2_191, ga2_169, (nw2_16 ++ (nw2_170 ++ [ded (sgM (knd fby tn ga2_15))]))) (⟨(show ta2_158 ≤ tn from by omega), (show tk2_160 ≤ 123 from by omega), (show n2_190 ≤ 280 from by omega), f_193, (show ow2_165 ≤ 30 from by omega), (show un2_166 ≤ 60 from by omega), (show ((1 : Int32) = 1 ∧ (okS (knd fby tn) (fin fby tn) (cdF fby tn) 4 6 ga ow un ga2_169 ow2_165 un2_166 ((nw2_16 ++ (nw2_170 ++ [ded (sgM (knd fby tn ga2_15))])))) ∧ (fq = fq) ∧ (pq = pq) ∧ (tkC fby tn ga2_169 ta2_158 ts2_159 tk2_160 tm2_161 tr2_162) ∧ (ga < ga2_169 ∧ ga2_169 ≤ tn) ∧ (exC fco nf fc2_191 n2_190 ((nw2_16 ++ (nw2_170 ++ [ded (sgM (knd fby tn ga2_15))])))) ∧ (n2_190 + 3 * ow + 1 ≤ nf + 3 * ow2_165 ∧ ow < ow2_165)) ∨ ((1 : Int32) = 0 ∧ (noS (knd fby tn) (fin fby tn) 4 6 ga ow un ga2_169) ∧ (flt fby tn ga2_169 2 fq pq)) from Or.inl ⟨rfl, (one_rel hn16 a_24 hop.1 hop.2 a_178), (rfl), (rfl), (a_181), (⟨by omega, by omega⟩), ((exC_tr a_29 (exC_tr a_183 (exC_dd f_194 hop.1 hkk)))), (⟨by omega, by omega⟩)⟩)⟩) [0, 1, 2, 3, 4, 5, 6] (by decide +kernel) rfl (Nat.le_of_ble_eq_true rfl) (Nat.le_of_ble_eq_true rfl)
            · subst hz_188
              refine lv_istore_n (lv' := [(3, .int 0), (2, .int (nI tk2_6)), (0, .ref d0), (1, .int 6)]) hx hb dX10_takeOne_68 rfl hl (by decide) rfl (fun ls hl => ?_)
              refine lv_aload_n hx hb dX10_takeOne_69 rfl (lv_at hl 2 rfl) ?_
              refine va_get (D := D) (ci := 10) (v := .ref f0) (C := RX10) (T := TX10) (N := 10) hx hb hg i_X10 hown hK hP 0 rfl rfl 3 (by decide) (hg _ m_258) (fun _ h9 => h9) rfl dX10_takeOne_70 ?_
              refine lv_iload_n hx hb dX10_takeOne_73 rfl (lv_at hl 1 rfl) ?_
              refine x_callVv (q := (RX3, TX3, 4)) (ci := 3) (q0 := 0) (wr := [wO d0 10 [.ref t0, .ref d1, .ref h0, .ref f0, .int (nI ow2_165), .int wt, .int dt, .int vv, .int fq2_163, .int pq2_164], wO t0 9 [.ref t1, .ref t2, .int (nI tn), .int (nI ta2_158), .int (nI ts2_159), .int (nI tk2_160), .long tm2_161, .int tr2_162], wI (cy 0) t1 1600 (fby), (t2, .inl (cy 2, 24, .inr (.inl (fky)))), wO h0 4 [.ref h1, .ref h2, .ref h3, .ref h4, .ref h5, .ref h6, .ref h7, .ref h8, .ref h9, .ref h10, .ref h11, hv0, hv1, hv2, hv3, .int (nI un2_166)]]) (rest := []) ⟨hx, hb, hml, hown, hg, hl.1⟩ k_X10_182 (s_addDeed l D cy f0 f1 f2 nf2_167 y3 fco2_168 tk2_6 (by omega) (f_174) (by omega)) E0_blind hK hP hD hS hA [5, 6] [0, 1, 2, 3, 4] ⟨rfl, rfl, by decide +kernel, by decide +kernel, by decide +kernel⟩ rfl rfl (fun _ _ _ => trivial) dX10_takeOne_74 rfl rfl (Nat.le_of_ble_eq_true rfl) ⟨Nat.le_of_ble_eq_true rfl, Nat.le_of_ble_eq_true rfl⟩ ⟨Nat.le_of_ble_eq_true rfl, Nat.le_of_ble_eq_true rfl⟩ (fun zu195 H locs hw195 hP9 hD9 hS9 => ?_)
              clear hP hD hS
              obtain ⟨n2_196, fc2_197⟩ := zu195
              refine reW [wO d0 10 [.ref t0, .ref d1, .ref h0, .ref f0, .int (nI ow2_165), .int wt, .int dt, .int vv, .int fq2_163, .int pq2_164], wO t0 9 [.ref t1, .ref t2, .int (nI tn), .int (nI ta2_158), .int (nI ts2_159), .int (nI tk2_160), .long tm2_161, .int tr2_162], wI (cy 0) t1 1600 (fby), (t2, .inl (cy 2, 24, .inr (.inl (fky)))), wO h0 4 [.ref h1, .ref h2, .ref h3, .ref h4, .ref h5, .ref h6, .ref h7, .ref h8, .ref h9, .ref h10, .ref h11, hv0, hv1, hv2, hv3, .int (nI un2_166)], wO f0 3 [.ref f1, .ref f2, .int (nI n2_196), y3], wI (cy 1) f1 280 (fc2_197)] hP9 hD9 hS9 (fun hP hD hS => ?_)
              clear hP9 hD9 hS9
              refine W.widen (k := 0) (n := 0) (Nat.le_of_ble_eq_true rfl) (Nat.le_of_ble_eq_true rfl) ?_
              replace hw195 : (n2_196 ≤ 280) ∧ (cOK fc2_197 n2_196) := hw195
              obtain ⟨f_198, f_199⟩ := hw195
              refine lv_iload_n hx hb dX10_takeOne_77 rfl (lv_at hl 0 rfl) ?_
              exact x_zret hQ hx hb hr hlocks hK hP hD hS rfl dX10_takeOne_78 (ta2_158, ts2_159, tk2_160, tm2_161, tr2_162, fq2_163, pq2_164, ow2_165, un2_166, n2_196, fc2_197, ga2_169, []) (⟨(show ta2_158 ≤ tn from by omega), (show tk2_160 ≤ 123 from by omega), (show n2_196 ≤ 280 from by omega), f_199, (show ow2_165 ≤ 30 from by omega), (show un2_166 ≤ 60 from by omega), (show ((0 : Int32) = 1 ∧ (okS (knd fby tn) (fin fby tn) (cdF fby tn) 4 6 ga ow un ga2_169 ow2_165 un2_166 ([])) ∧ (fq = fq2_163) ∧ (pq = pq2_164) ∧ (tkC fby tn ga2_169 ta2_158 ts2_159 tk2_160 tm2_161 tr2_162) ∧ (ga < ga2_169 ∧ ga2_169 ≤ tn) ∧ (exC fco nf fc2_197 n2_196 ([])) ∧ (n2_196 + 3 * ow + 1 ≤ nf + 3 * ow2_165 ∧ ow < ow2_165)) ∨ ((0 : Int32) = 0 ∧ (noS (knd fby tn) (fin fby tn) 4 6 ga ow un ga2_169) ∧ (flt fby tn ga2_169 2 fq2_163 pq2_164)) from Or.inr (⟨rfl, (one_relN hn16 a_24 hop.1 hop.2 a_186), (a_187)⟩))⟩) [0, 1, 2, 3, 4, 5, 6] (by decide +kernel) rfl (Nat.le_of_ble_eq_true rfl) (Nat.le_of_ble_eq_true rfl)
          · have q_146 : ¬ tk2_6 = 61 := q_ne (a := tk2_6) (b := 61) rfl rfl (by omega) (by omega) c_145
            refine lv_iconst (v := 1) hx hb dX10_takeOne_54 (by decide) ?_
            exact x_zret hQ hx hb hr hlocks hK hP hD hS rfl dX10_takeOne_55 (ta2_4, ts2_5, tk2_6, tm2_7, tr2_8, fq, pq, ow2_11, un2_12, nf2_13, fco2_14, ga2_15, nw2_16) (⟨(show ta2_4 ≤ tn from by omega), (show tk2_6 ≤ 123 from by omega), (show nf2_13 ≤ 280 from by omega), f_20, (show ow2_11 ≤ 30 from by omega), (show un2_12 ≤ 60 from by omega), (show ((1 : Int32) = 1 ∧ (okS (knd fby tn) (fin fby tn) (cdF fby tn) 4 6 ga ow un ga2_15 ow2_11 un2_12 nw2_16) ∧ (fq = fq) ∧ (pq = pq) ∧ (tkC fby tn ga2_15 ta2_4 ts2_5 tk2_6 tm2_7 tr2_8) ∧ (ga < ga2_15 ∧ ga2_15 ≤ tn) ∧ (exC fco nf fco2_14 nf2_13 nw2_16) ∧ (nf2_13 + 3 * ow + 1 ≤ nf + 3 * ow2_11 ∧ ow < ow2_11)) ∨ ((1 : Int32) = 0 ∧ (noS (knd fby tn) (fin fby tn) 4 6 ga ow un ga2_15) ∧ (flt fby tn ga2_15 2 fq pq)) from Or.inl ⟨rfl, (one_sum hn16 a_24 (sg_ne4 (by have h9 := a_27.2.2.1; omega))), (rfl), (rfl), (a_27), (⟨by omega, by omega⟩), (a_29), (⟨by omega, by omega⟩)⟩)⟩) [0, 1, 2, 3, 4, 5, 6] (by decide +kernel) rfl (Nat.le_of_ble_eq_true rfl) (Nat.le_of_ble_eq_true rfl)
    · subst hz_34
      refine lv_if_ne (tgt := 28) hx hb dX10_takeOne_23 (by decide) (fun h => absurd (by decide) h) (fun _ => ?_)
      refine lv_iconst (v := 0) hx hb dX10_takeOne_26 (by decide) ?_
      exact x_zret hQ hx hb hr hlocks hK hP hD hS rfl dX10_takeOne_27 (ta2_4, ts2_5, tk2_6, tm2_7, tr2_8, fq2_9, pq2_10, ow2_11, un2_12, nf2_13, fco2_14, ga2_15, []) (⟨(show ta2_4 ≤ tn from by omega), (show tk2_6 ≤ 123 from by omega), (show nf2_13 ≤ 280 from by omega), f_20, (show ow2_11 ≤ 30 from by omega), (show un2_12 ≤ 60 from by omega), (show ((0 : Int32) = 1 ∧ (okS (knd fby tn) (fin fby tn) (cdF fby tn) 4 6 ga ow un ga2_15 ow2_11 un2_12 ([])) ∧ (fq = fq2_9) ∧ (pq = pq2_10) ∧ (tkC fby tn ga2_15 ta2_4 ts2_5 tk2_6 tm2_7 tr2_8) ∧ (ga < ga2_15 ∧ ga2_15 ≤ tn) ∧ (exC fco nf fco2_14 nf2_13 ([])) ∧ (nf2_13 + 3 * ow + 1 ≤ nf + 3 * ow2_11 ∧ ow < ow2_11)) ∨ ((0 : Int32) = 0 ∧ (noS (knd fby tn) (fin fby tn) 4 6 ga ow un ga2_15) ∧ (flt fby tn ga2_15 2 fq2_9 pq2_10)) from Or.inr (⟨rfl, (one_sumN hn16 a_32), (a_33)⟩))⟩) [0, 1, 2, 3, 4, 5, 6] (by decide +kernel) rfl (Nat.le_of_ble_eq_true rfl) (Nat.le_of_ble_eq_true rfl)
  · have q_2 : tk = 116 := q_eq (a := tk) (b := 116) rfl rfl (by omega) (by omega) c_1
    refine lv_aload_n hx hb dX10_takeOne_12 rfl (lv_at hl 0 rfl) ?_
    refine lv_iload_n hx hb dX10_takeOne_13 rfl (lv_at hl 1 rfl) ?_
    refine x_callVi (q := (RX10, TX10, 10)) (ci := 10) (q0 := 0) (wr := []) (rest := []) ⟨hx, hb, hml, hown, hg, hl.1⟩ k_X10_189 (s_takeNot6 l D cy adK adV d0 d1 wt dt vv fq pq t0 t1 t2 tn ta ts tk tm tr fby fky h0 h1 h2 h3 h4 h5 h6 h7 h8 h9 h10 h11 hv0 hv1 hv2 hv3 ow un f0 f1 f2 nf y3 fco ga (by omega) (by omega) (by omega) (hti) (hky) (by omega) (hfc) (by omega) (by omega) (by omega) (by omega) (by omega)) EV_blind hK hP hD hS hA [0, 1, 2, 3, 4, 5, 6] [] ⟨rfl, rfl, by decide +kernel, by decide +kernel, by decide +kernel⟩ rfl rfl (fun U hU hW => EV_pass hE hS (va_free hD hS hA [0, 1, 2, 3, 4, 5, 6] rfl) hU hW) dX10_takeOne_14 rfl rfl (Nat.le_of_ble_eq_true rfl) ⟨Nat.le_of_ble_eq_true rfl, Nat.le_of_ble_eq_true rfl⟩ ⟨Nat.le_of_ble_eq_true rfl, Nat.le_of_ble_eq_true rfl⟩ (fun zr200 zu200 H locs hw200 hP9 hD9 hS9 => ?_)
    clear hP hD hS
    obtain ⟨ta2_201, ts2_202, tk2_203, tm2_204, tr2_205, fq2_206, pq2_207, ow2_208, un2_209, nf2_210, fco2_211, ga2_212, nw2_213⟩ := zu200
    refine reW [wO d0 10 [.ref t0, .ref d1, .ref h0, .ref f0, .int (nI ow2_208), .int wt, .int dt, .int vv, .int fq2_206, .int pq2_207], wO t0 9 [.ref t1, .ref t2, .int (nI tn), .int (nI ta2_201), .int (nI ts2_202), .int (nI tk2_203), .long tm2_204, .int tr2_205], wI (cy 0) t1 1600 (fby), (t2, .inl (cy 2, 24, .inr (.inl (fky)))), wO h0 4 [.ref h1, .ref h2, .ref h3, .ref h4, .ref h5, .ref h6, .ref h7, .ref h8, .ref h9, .ref h10, .ref h11, hv0, hv1, hv2, hv3, .int (nI un2_209)], wO f0 3 [.ref f1, .ref f2, .int (nI nf2_210), y3], wI (cy 1) f1 280 (fco2_211)] hP9 hD9 hS9 (fun hP hD hS => ?_)
    clear hP9 hD9 hS9
    refine W.widen (k := 0) (n := 0) (Nat.le_of_ble_eq_true rfl) (Nat.le_of_ble_eq_true rfl) ?_
    replace hw200 : (ta2_201 ≤ tn) ∧ (tk2_203 ≤ 123) ∧ (nf2_210 ≤ 280) ∧ (cOK fco2_211 nf2_210) ∧ (ow2_208 ≤ 30) ∧ (un2_209 ≤ 60) ∧ ((zr200 = 1 ∧ (okS (knd fby tn) (fin fby tn) (cdF fby tn) 4 6 ga ow un ga2_212 ow2_208 un2_209 nw2_213) ∧ (fq = fq2_206) ∧ (pq = pq2_207) ∧ (tkC fby tn ga2_212 ta2_201 ts2_202 tk2_203 tm2_204 tr2_205) ∧ (ga < ga2_212 ∧ ga2_212 ≤ tn) ∧ (exC fco nf fco2_211 nf2_210 nw2_213) ∧ (nf2_210 + 3 * ow + 1 ≤ nf + 3 * ow2_208 ∧ ow < ow2_208)) ∨ (zr200 = 0 ∧ (noS (knd fby tn) (fin fby tn) 4 6 ga ow un ga2_212) ∧ (flt fby tn ga2_212 2 fq2_206 pq2_207))) := hw200
    obtain ⟨f_214, f_215, f_216, f_217, f_218, f_219, f_220⟩ := hw200
    rcases f_220 with ⟨hz_228, a_221, a_222, a_223, a_224, a_225, a_226, a_227⟩ | ⟨hz_231, a_229, a_230⟩
    · subst hz_228
      subst a_222
      subst a_223
      have hg_a_225 := a_225
      have hl_a_227 := a_227
      exact x_zret hQ hx hb hr hlocks hK hP hD hS rfl dX10_takeOne_17 (ta2_201, ts2_202, tk2_203, tm2_204, tr2_205, fq, pq, ow2_208, un2_209, nf2_210, fco2_211, ga2_212, nw2_213) (⟨(show ta2_201 ≤ tn from by omega), (show tk2_203 ≤ 123 from by omega), (show nf2_210 ≤ 280 from by omega), f_217, (show ow2_208 ≤ 30 from by omega), (show un2_209 ≤ 60 from by omega), (show ((1 : Int32) = 1 ∧ (okS (knd fby tn) (fin fby tn) (cdF fby tn) 4 6 ga ow un ga2_212 ow2_208 un2_209 nw2_213) ∧ (fq = fq) ∧ (pq = pq) ∧ (tkC fby tn ga2_212 ta2_201 ts2_202 tk2_203 tm2_204 tr2_205) ∧ (ga < ga2_212 ∧ ga2_212 ≤ tn) ∧ (exC fco nf fco2_211 nf2_210 nw2_213) ∧ (nf2_210 + 3 * ow + 1 ≤ nf + 3 * ow2_208 ∧ ow < ow2_208)) ∨ ((1 : Int32) = 0 ∧ (noS (knd fby tn) (fin fby tn) 4 6 ga ow un ga2_212) ∧ (flt fby tn ga2_212 2 fq pq)) from Or.inl ⟨rfl, (a_221), (rfl), (rfl), (a_224), (⟨by omega, by omega⟩), (a_226), (⟨by omega, by omega⟩)⟩)⟩) [0, 1, 2, 3, 4, 5, 6] (by decide +kernel) rfl (Nat.le_of_ble_eq_true rfl) (Nat.le_of_ble_eq_true rfl)
    · subst hz_231
      exact x_zret hQ hx hb hr hlocks hK hP hD hS rfl dX10_takeOne_17 (ta2_201, ts2_202, tk2_203, tm2_204, tr2_205, fq2_206, pq2_207, ow2_208, un2_209, nf2_210, fco2_211, ga2_212, []) (⟨(show ta2_201 ≤ tn from by omega), (show tk2_203 ≤ 123 from by omega), (show nf2_210 ≤ 280 from by omega), f_217, (show ow2_208 ≤ 30 from by omega), (show un2_209 ≤ 60 from by omega), (show ((0 : Int32) = 1 ∧ (okS (knd fby tn) (fin fby tn) (cdF fby tn) 4 6 ga ow un ga2_212 ow2_208 un2_209 ([])) ∧ (fq = fq2_206) ∧ (pq = pq2_207) ∧ (tkC fby tn ga2_212 ta2_201 ts2_202 tk2_203 tm2_204 tr2_205) ∧ (ga < ga2_212 ∧ ga2_212 ≤ tn) ∧ (exC fco nf fco2_211 nf2_210 ([])) ∧ (nf2_210 + 3 * ow + 1 ≤ nf + 3 * ow2_208 ∧ ow < ow2_208)) ∨ ((0 : Int32) = 0 ∧ (noS (knd fby tn) (fin fby tn) 4 6 ga ow un ga2_212) ∧ (flt fby tn ga2_212 2 fq2_206 pq2_207)) from Or.inr (⟨rfl, (a_229), (a_230)⟩))⟩) [0, 1, 2, 3, 4, 5, 6] (by decide +kernel) rfl (Nat.le_of_ble_eq_true rfl) (Nat.le_of_ble_eq_true rfl)
set_option maxHeartbeats 1000000 in
set_option maxRecDepth 100000 in
theorem s_takeBoth6 (l : Launch) (D : va_G) (cy : Nat → ClassId) (adK : Nat → Nat) (adV : Nat → Nat) (d0 : Nat) (d1 : Nat) (wt : Int32) (dt : Int32) (vv : Int32) (fq : Int32) (pq : Int32) (t0 : Nat) (t1 : Nat) (t2 : Nat) (tn : Nat) (ta : Nat) (ts : Nat) (tk : Nat) (tm : Int64) (tr : Int32) (fby : Nat → Int32) (fky : Nat → Int64) (h0 : Nat) (h1 : Nat) (h2 : Nat) (h3 : Nat) (h4 : Nat) (h5 : Nat) (h6 : Nat) (h7 : Nat) (h8 : Nat) (h9 : Nat) (h10 : Nat) (h11 : Nat) (hv0 : Value) (hv1 : Value) (hv2 : Value) (hv3 : Value) (ow : Nat) (un : Nat) (f0 : Nat) (f1 : Nat) (f2 : Nat) (nf : Nat) (y3 : Value) (fco : Nat → Int32) (ga : Nat) (htn : tn ≤ 1600) (hta : ta ≤ tn) (htk : tk ≤ 123) (hti : tkC fby tn ga ta ts tk tm tr) (hky : kyOK fky) (hnf : nf ≤ 280) (hfc : cOK fco nf) (how : ow ≤ 30) (hun : un ≤ 60) (hga : ga ≤ tn) (hrm : nf + 90 ≤ 280 + 3 * ow) : XMi l D (tyL cy) (EV adK adV) yX10_takeBoth cX10_takeBoth 4 (some .boolean) (rmk 18 0 0) [.ref d0, .int 6] [wO d0 10 [.ref t0, .ref d1, .ref h0, .ref f0, .int (nI ow), .int wt, .int dt, .int vv, .int fq, .int pq], wO t0 9 [.ref t1, .ref t2, .int (nI tn), .int (nI ta), .int (nI ts), .int (nI tk), .long tm, .int tr], wI (cy 0) t1 1600 (fby), (t2, .inl (cy 2, 24, .inr (.inl (fky)))), wO h0 4 [.ref h1, .ref h2, .ref h3, .ref h4, .ref h5, .ref h6, .ref h7, .ref h8, .ref h9, .ref h10, .ref h11, hv0, hv1, hv2, hv3, .int (nI un)], wO f0 3 [.ref f1, .ref f2, .int (nI nf), y3], wI (cy 1) f1 280 (fco)] (fun (r : Int32) (u : Nat × Nat × Nat × Int64 × Int32 × Int32 × Int32 × Nat × Nat × Nat × (Nat → Int32) × Nat × (List Int32)) => (u.1 ≤ tn) ∧ (u.2.2.1 ≤ 123) ∧ (u.2.2.2.2.2.2.2.2.2.1 ≤ 280) ∧ (cOK u.2.2.2.2.2.2.2.2.2.2.1 u.2.2.2.2.2.2.2.2.2.1) ∧ (u.2.2.2.2.2.2.2.1 ≤ 30) ∧ (u.2.2.2.2.2.2.2.2.1 ≤ 60) ∧ ((r = 1 ∧ (okS (knd fby tn) (fin fby tn) (cdF fby tn) 2 6 ga ow un u.2.2.2.2.2.2.2.2.2.2.2.1 u.2.2.2.2.2.2.2.1 u.2.2.2.2.2.2.2.2.1 u.2.2.2.2.2.2.2.2.2.2.2.2) ∧ (fq = u.2.2.2.2.2.1) ∧ (pq = u.2.2.2.2.2.2.1) ∧ (tkC fby tn u.2.2.2.2.2.2.2.2.2.2.2.1 u.1 u.2.1 u.2.2.1 u.2.2.2.1 u.2.2.2.2.1) ∧ (ga < u.2.2.2.2.2.2.2.2.2.2.2.1 ∧ u.2.2.2.2.2.2.2.2.2.2.2.1 ≤ tn) ∧ (exC fco nf u.2.2.2.2.2.2.2.2.2.2.1 u.2.2.2.2.2.2.2.2.2.1 u.2.2.2.2.2.2.2.2.2.2.2.2) ∧ (u.2.2.2.2.2.2.2.2.2.1 + 3 * ow + 1 ≤ nf + 3 * u.2.2.2.2.2.2.2.1 ∧ ow < u.2.2.2.2.2.2.2.1)) ∨ (r = 0 ∧ (noS (knd fby tn) (fin fby tn) 2 6 ga ow un u.2.2.2.2.2.2.2.2.2.2.2.1) ∧ (flt fby tn u.2.2.2.2.2.2.2.2.2.2.2.1 2 u.2.2.2.2.2.1 u.2.2.2.2.2.2.1)))) (fun (u : Nat × Nat × Nat × Int64 × Int32 × Int32 × Int32 × Nat × Nat × Nat × (Nat → Int32) × Nat × (List Int32)) => [wO d0 10 [.ref t0, .ref d1, .ref h0, .ref f0, .int (nI u.2.2.2.2.2.2.2.1), .int wt, .int dt, .int vv, .int u.2.2.2.2.2.1, .int u.2.2.2.2.2.2.1], wO t0 9 [.ref t1, .ref t2, .int (nI tn), .int (nI u.1), .int (nI u.2.1), .int (nI u.2.2.1), .long u.2.2.2.1, .int u.2.2.2.2.1], wI (cy 0) t1 1600 (fby), (t2, .inl (cy 2, 24, .inr (.inl (fky)))), wO h0 4 [.ref h1, .ref h2, .ref h3, .ref h4, .ref h5, .ref h6, .ref h7, .ref h8, .ref h9, .ref h10, .ref h11, hv0, hv1, hv2, hv3, .int (nI u.2.2.2.2.2.2.2.2.1)], wO f0 3 [.ref f1, .ref f2, .int (nI u.2.2.2.2.2.2.2.2.2.1), y3], wI (cy 1) f1 280 (u.2.2.2.2.2.2.2.2.2.2.1)]) := by
  refine XMi.start (by decide) (Nat.le_of_ble_eq_true rfl) ?_
  intro p e s m below meth c args A ls Q hat hQ
  obtain ⟨hx, hb, hr, hml, hown, hg, hlocks, hin, hK, hA, hP, hD, hS, hE, hl⟩ := hat
  have hown : s.vm.findClass RX10 = some m.cls := hown
  have hl : lv_has ls 4 [(0, .ref d0), (1, .int 6)] := hl
  refine lv_aload_n hx hb dX10_takeBoth_0 rfl (lv_at hl 0 rfl) ?_
  refine lv_iload_n hx hb dX10_takeBoth_1 rfl (lv_at hl 1 rfl) ?_
  refine x_callVi (q := (RX10, TX10, 10)) (ci := 10) (q0 := 0) (wr := []) (rest := []) ⟨hx, hb, hml, hown, hg, hl.1⟩ k_X10_186 (s_takeOne6 l D cy adK adV d0 d1 wt dt vv fq pq t0 t1 t2 tn ta ts tk tm tr fby fky h0 h1 h2 h3 h4 h5 h6 h7 h8 h9 h10 h11 hv0 hv1 hv2 hv3 ow un f0 f1 f2 nf y3 fco ga (by omega) (by omega) (by omega) (hti) (hky) (by omega) (hfc) (by omega) (by omega) (by omega) (by omega)) EV_blind hK hP hD hS hA [0, 1, 2, 3, 4, 5, 6] [] ⟨rfl, rfl, by decide +kernel, by decide +kernel, by decide +kernel⟩ rfl rfl (fun U hU hW => EV_pass hE hS (va_free hD hS hA [0, 1, 2, 3, 4, 5, 6] rfl) hU hW) dX10_takeBoth_2 rfl rfl (Nat.le_of_ble_eq_true rfl) ⟨Nat.le_of_ble_eq_true rfl, Nat.le_of_ble_eq_true rfl⟩ ⟨Nat.le_of_ble_eq_true rfl, Nat.le_of_ble_eq_true rfl⟩ (fun zr1 zu1 H locs hw1 hP9 hD9 hS9 => ?_)
  clear hP hD hS
  obtain ⟨ta2_2, ts2_3, tk2_4, tm2_5, tr2_6, fq2_7, pq2_8, ow2_9, un2_10, nf2_11, fco2_12, ga2_13, nw2_14⟩ := zu1
  refine reW [wO d0 10 [.ref t0, .ref d1, .ref h0, .ref f0, .int (nI ow2_9), .int wt, .int dt, .int vv, .int fq2_7, .int pq2_8], wO t0 9 [.ref t1, .ref t2, .int (nI tn), .int (nI ta2_2), .int (nI ts2_3), .int (nI tk2_4), .long tm2_5, .int tr2_6], wI (cy 0) t1 1600 (fby), (t2, .inl (cy 2, 24, .inr (.inl (fky)))), wO h0 4 [.ref h1, .ref h2, .ref h3, .ref h4, .ref h5, .ref h6, .ref h7, .ref h8, .ref h9, .ref h10, .ref h11, hv0, hv1, hv2, hv3, .int (nI un2_10)], wO f0 3 [.ref f1, .ref f2, .int (nI nf2_11), y3], wI (cy 1) f1 280 (fco2_12)] hP9 hD9 hS9 (fun hP hD hS => ?_)
  clear hP9 hD9 hS9
  refine W.widen (k := 0) (n := 0) (Nat.le_of_ble_eq_true rfl) (Nat.le_of_ble_eq_true rfl) ?_
  replace hw1 : (ta2_2 ≤ tn) ∧ (tk2_4 ≤ 123) ∧ (nf2_11 ≤ 280) ∧ (cOK fco2_12 nf2_11) ∧ (ow2_9 ≤ 30) ∧ (un2_10 ≤ 60) ∧ ((zr1 = 1 ∧ (okS (knd fby tn) (fin fby tn) (cdF fby tn) 4 6 ga ow un ga2_13 ow2_9 un2_10 nw2_14) ∧ (fq = fq2_7) ∧ (pq = pq2_8) ∧ (tkC fby tn ga2_13 ta2_2 ts2_3 tk2_4 tm2_5 tr2_6) ∧ (ga < ga2_13 ∧ ga2_13 ≤ tn) ∧ (exC fco nf fco2_12 nf2_11 nw2_14) ∧ (nf2_11 + 3 * ow + 1 ≤ nf + 3 * ow2_9 ∧ ow < ow2_9)) ∨ (zr1 = 0 ∧ (noS (knd fby tn) (fin fby tn) 4 6 ga ow un ga2_13) ∧ (flt fby tn ga2_13 2 fq2_7 pq2_8))) := hw1
  obtain ⟨f_15, f_16, f_17, f_18, f_19, f_20, f_21⟩ := hw1
  refine lv_istore_n (lv' := [(2, .int zr1), (0, .ref d0), (1, .int 6)]) hx hb dX10_takeBoth_5 rfl hl (by decide) rfl (fun ls hl => ?_)
  refine lv_iconst (v := 0) hx hb dX10_takeBoth_6 (by decide) ?_
  refine lv_istore_n (lv' := [(3, .int 0), (2, .int zr1), (0, .ref d0), (1, .int 6)]) hx hb dX10_takeBoth_7 rfl hl (by decide) rfl (fun ls hl => ?_)
  have loop22 : ∀ (zn : Nat) (lb2_22 : Int32) (i22 : Nat) (aq22 : Nat) (sq22 : Nat) (kq22 : Nat) (fl5_22 : Int64) (rq22 : Int32) (oq22 : Nat) (fz22 : Int32) (pz22 : Int32) (uq22 : Nat) (nq22 : Nat) (gq22 : Nat) (nw22 : List Int32) (fa14_22 : Nat → Int32), (cOK fa14_22 nq22) → (i22 ≤ 1600) → (aq22 ≤ tn) → (kq22 ≤ 123) → (nq22 ≤ 280) → (oq22 ≤ 30) → (uq22 ≤ 60) → ((lb2_22 = 1 ∧ inS (knd fby tn) (fin fby tn) (cdF fby tn) 2 4 6 ga ow un gq22 oq22 uq22 nw22 ∧ tkC fby tn gq22 aq22 sq22 kq22 fl5_22 rq22 ∧ ga < gq22 ∧ gq22 ≤ tn ∧ i22 < gq22 ∧ fq = fz22 ∧ pq = pz22 ∧ exC fco nf fa14_22 nq22 nw22 ∧ nq22 + 3 * ow + 1 ≤ nf + 3 * oq22 ∧ ow < oq22) ∨ (lb2_22 = 0 ∧ noS (knd fby tn) (fin fby tn) 2 6 ga ow un gq22 ∧ flt fby tn gq22 2 fz22 pz22)) → 1600 - i22 + 1 ≤ zn → ∀ (H : Heap) (locs : List Loc), va_P D vwCl [wO d0 10 [.ref t0, .ref d1, .ref h0, .ref f0, .int (nI oq22), .int wt, .int dt, .int vv, .int fz22, .int pz22], wO t0 9 [.ref t1, .ref t2, .int (nI tn), .int (nI aq22), .int (nI sq22), .int (nI kq22), .long fl5_22, .int rq22], wI (cy 0) t1 1600 (fby), (t2, .inl (cy 2, 24, .inr (.inl (fky)))), wO h0 4 [.ref h1, .ref h2, .ref h3, .ref h4, .ref h5, .ref h6, .ref h7, .ref h8, .ref h9, .ref h10, .ref h11, hv0, hv1, hv2, hv3, .int (nI uq22)], wO f0 3 [.ref f1, .ref f2, .int (nI nq22), y3], wI (cy 1) f1 280 (fa14_22)] H → va_D A [wO d0 10 [.ref t0, .ref d1, .ref h0, .ref f0, .int (nI oq22), .int wt, .int dt, .int vv, .int fz22, .int pz22], wO t0 9 [.ref t1, .ref t2, .int (nI tn), .int (nI aq22), .int (nI sq22), .int (nI kq22), .long fl5_22, .int rq22], wI (cy 0) t1 1600 (fby), (t2, .inl (cy 2, 24, .inr (.inl (fky)))), wO h0 4 [.ref h1, .ref h2, .ref h3, .ref h4, .ref h5, .ref h6, .ref h7, .ref h8, .ref h9, .ref h10, .ref h11, hv0, hv1, hv2, hv3, .int (nI uq22)], wO f0 3 [.ref f1, .ref f2, .int (nI nq22), y3], wI (cy 1) f1 280 (fa14_22)] → va_S A s.heap H locs → ∀ ls : Array Slot, lv_has ls 4 [(3, .int (nI i22)), (2, .int lb2_22), (0, .ref d0), (1, .int 6)] → W p l e (rmk 18 0 0) s m args below meth c H locs 0 0 Q (F0 m 8 ls []) := by
    try clear hP hD hS
    intro zn
    induction zn with
    | zero => intro lb2_22 i22 aq22 sq22 kq22 fl5_22 rq22 oq22 fz22 pz22 uq22 nq22 gq22 nw22 fa14_22 _ _ _ _ _ _ _ _ hz; exact absurd hz (by omega)
    | succ zn ih22 =>
      intro lb2_22 i22 aq22 sq22 kq22 fl5_22 rq22 oq22 fz22 pz22 uq22 nq22 gq22 nw22 fa14_22 ha15_22 hf0_22 hf1_22 hf2_22 hf3_22 hf4_22 hf5_22 hf6_22 hmu22 H locs hP hD hS ls hl
      rcases hf6_22 with ⟨hlb, hin9, htk9, hg1, hg2, hg3, hfz, hpz, hex9, hln9⟩ | ⟨hlb, hno9, hfl9⟩
      · subst hlb hfz hpz
        refine lv_iload_n hx hb dX10_takeBoth_8 rfl (lv_at hl 0 rfl) ?_
        refine lv_sipush (v := 1600) hx hb dX10_takeBoth_9 (by decide) ?_
        refine lv_icmp_ge (tgt := 59) hx hb dX10_takeBoth_12 (by decide) (fun c_23 => ?_) (fun c_23 => ?_)
        · have q_24 : 1600 ≤ i22 := q_le (a := 1600) (b := i22) rfl rfl (by omega) (by omega) c_23
          exact absurd q_24 (by omega)
        · have q_24 : i22 < 1600 := q_nle (a := 1600) (b := i22) rfl rfl (by omega) (by omega) c_23
          refine lv_iload_n hx hb dX10_takeBoth_15 rfl (lv_at hl 1 rfl) ?_
          refine lv_if_eq (tgt := 59) hx hb dX10_takeBoth_16 (by decide) (fun h => absurd h (by decide)) (fun _ => ?_)
          refine lv_aload_n hx hb dX10_takeBoth_19 rfl (lv_at hl 2 rfl) ?_
          refine va_get (D := D) (ci := 10) (v := .ref t0) (C := RX10) (T := TX10) (N := 10) hx hb hg i_X10 hown hK hP 0 rfl rfl 0 (by decide) (hg _ m_255) (fun _ h9 => h9) rfl dX10_takeBoth_20 ?_
          refine va_get (D := D) (ci := 9) (v := .int (nI kq22)) (C := RX9) (T := TX9) (N := 8) hx hb hg i_X9 hown hK hP 1 rfl rfl 5 (by decide) (hg _ m_222) (fun _ h9 => h9) rfl dX10_takeBoth_23 ?_
          refine lv_bipush (v := 115) hx hb dX10_takeBoth_26 (by decide) ?_
          refine lv_icmp_ne (tgt := 59) hx hb dX10_takeBoth_28 (by decide) (fun c_25 => ?_) (fun c_25 => ?_)
          · have q_26 : ¬ kq22 = 115 := q_ne (a := kq22) (b := 115) rfl rfl (by omega) (by omega) c_25
            refine lv_iload_n hx hb dX10_takeBoth_59 rfl (lv_at hl 1 rfl) ?_
            exact x_zret hQ hx hb hr hlocks hK hP hD hS rfl dX10_takeBoth_60 (aq22, sq22, kq22, fl5_22, rq22, fq, pq, oq22, uq22, nq22, fa14_22, gq22, nw22) (⟨(show aq22 ≤ tn from by omega), (show kq22 ≤ 123 from by omega), (show nq22 ≤ 280 from by omega), ha15_22, (show oq22 ≤ 30 from by omega), (show uq22 ≤ 60 from by omega), (show ((1 : Int32) = 1 ∧ (okS (knd fby tn) (fin fby tn) (cdF fby tn) 2 6 ga ow un gq22 oq22 uq22 nw22) ∧ (fq = fq) ∧ (pq = pq) ∧ (tkC fby tn gq22 aq22 sq22 kq22 fl5_22 rq22) ∧ (ga < gq22 ∧ gq22 ≤ tn) ∧ (exC fco nf fa14_22 nq22 nw22) ∧ (nq22 + 3 * ow + 1 ≤ nf + 3 * oq22 ∧ ow < oq22)) ∨ ((1 : Int32) = 0 ∧ (noS (knd fby tn) (fin fby tn) 2 6 ga ow un gq22) ∧ (flt fby tn gq22 2 fq pq)) from Or.inl ⟨rfl, (inS_end lvP24 hin9 (sg_ne2 (by have h9 := htk9.2.2.1; omega))), (rfl), (rfl), (htk9), (⟨by omega, by omega⟩), (hex9), (⟨by omega, by omega⟩)⟩)⟩) [0, 1, 2, 3, 4, 5, 6] (by decide +kernel) rfl (Nat.le_of_ble_eq_true rfl) (Nat.le_of_ble_eq_true rfl)
          · have q_26 : kq22 = 115 := q_eq (a := kq22) (b := 115) rfl rfl (by omega) (by omega) c_25
            have hkk : 115 = knd fby tn gq22 := by have h9 := htk9.2.2.1; omega
            have hop := sg_2 (show knd fby tn gq22 = 115 from by have h9 := htk9.2.2.1; omega)
            have hgt_27 : gq22 < fin fby tn gq22 ∧ fin fby tn gq22 ≤ tn := ⟨fin_gt (by have h9 := htk9.2.2.1; omega), fin_le (by omega)⟩
            refine lv_aload_n hx hb dX10_takeBoth_31 rfl (lv_at hl 2 rfl) ?_
            refine va_get (D := D) (ci := 10) (v := .ref t0) (C := RX10) (T := TX10) (N := 10) hx hb hg i_X10 hown hK hP 0 rfl rfl 0 (by decide) (hg _ m_255) (fun _ h9 => h9) rfl dX10_takeBoth_32 ?_
            refine x_callVv (q := (RX9, TX9, 8)) (ci := 9) (q0 := 0) (wr := [wO d0 10 [.ref t0, .ref d1, .ref h0, .ref f0, .int (nI oq22), .int wt, .int dt, .int vv, .int fq, .int pq], wO h0 4 [.ref h1, .ref h2, .ref h3, .ref h4, .ref h5, .ref h6, .ref h7, .ref h8, .ref h9, .ref h10, .ref h11, hv0, hv1, hv2, hv3, .int (nI uq22)], wO f0 3 [.ref f1, .ref f2, .int (nI nq22), y3], wI (cy 1) f1 280 (fa14_22)]) (rest := []) ⟨hx, hb, hml, hown, hg, hl.1⟩ k_X10_140 (s_next l D cy adK adV t0 t1 t2 tn aq22 sq22 kq22 fl5_22 rq22 fby fky (fin fby tn gq22) (by omega) (by omega) (htk9.2.1) (hky)) EV_blind hK hP hD hS hA [1, 2, 3] [0, 4, 5, 6] ⟨rfl, rfl, by decide +kernel, by decide +kernel, by decide +kernel⟩ rfl rfl (fun U hU hW => EV_pass hE hS (va_free hD hS hA [1, 2, 3] rfl) hU hW) dX10_takeBoth_35 rfl rfl (Nat.le_of_ble_eq_true rfl) ⟨Nat.le_of_ble_eq_true rfl, Nat.le_of_ble_eq_true rfl⟩ ⟨Nat.le_of_ble_eq_true rfl, Nat.le_of_ble_eq_true rfl⟩ (fun zu28 H locs hw28 hP9 hD9 hS9 => ?_)
            clear hP hD hS
            obtain ⟨ta2_29, ts2_30, tk2_31, tm2_32, tr2_33⟩ := zu28
            refine reW [wO d0 10 [.ref t0, .ref d1, .ref h0, .ref f0, .int (nI oq22), .int wt, .int dt, .int vv, .int fq, .int pq], wO h0 4 [.ref h1, .ref h2, .ref h3, .ref h4, .ref h5, .ref h6, .ref h7, .ref h8, .ref h9, .ref h10, .ref h11, hv0, hv1, hv2, hv3, .int (nI uq22)], wO f0 3 [.ref f1, .ref f2, .int (nI nq22), y3], wI (cy 1) f1 280 (fa14_22), wO t0 9 [.ref t1, .ref t2, .int (nI tn), .int (nI ta2_29), .int (nI ts2_30), .int (nI tk2_31), .long tm2_32, .int tr2_33], wI (cy 0) t1 1600 (fby), (t2, .inl (cy 2, 24, .inr (.inl (fky))))] hP9 hD9 hS9 (fun hP hD hS => ?_)
            clear hP9 hD9 hS9
            refine W.widen (k := 0) (n := 0) (Nat.le_of_ble_eq_true rfl) (Nat.le_of_ble_eq_true rfl) ?_
            replace hw28 : (ta2_29 ≤ tn) ∧ (tk2_31 ≤ 123) ∧ (tkC fby tn (fin fby tn gq22) ta2_29 ts2_30 tk2_31 tm2_32 tr2_33) := hw28
            obtain ⟨f_34, f_35, f_36⟩ := hw28
            refine lv_aload_n hx hb dX10_takeBoth_38 rfl (lv_at hl 2 rfl) ?_
            refine lv_iload_n hx hb dX10_takeBoth_39 rfl (lv_at hl 3 rfl) ?_
            refine x_callVi (q := (RX10, TX10, 10)) (ci := 10) (q0 := 0) (wr := []) (rest := []) ⟨hx, hb, hml, hown, hg, hl.1⟩ k_X10_186 (s_takeOne6 l D cy adK adV d0 d1 wt dt vv fq pq t0 t1 t2 tn ta2_29 ts2_30 tk2_31 tm2_32 tr2_33 fby fky h0 h1 h2 h3 h4 h5 h6 h7 h8 h9 h10 h11 hv0 hv1 hv2 hv3 oq22 uq22 f0 f1 f2 nq22 y3 fa14_22 (fin fby tn gq22) (by omega) (by omega) (by omega) (f_36) (hky) (by omega) (ha15_22) (by omega) (by omega) (by omega) (by omega)) EV_blind hK hP hD hS hA [0, 4, 5, 6, 1, 2, 3] [] ⟨rfl, rfl, by decide +kernel, by decide +kernel, by decide +kernel⟩ rfl rfl (fun U hU hW => EV_pass hE hS (va_free hD hS hA [0, 4, 5, 6, 1, 2, 3] rfl) hU hW) dX10_takeBoth_40 rfl rfl (Nat.le_of_ble_eq_true rfl) ⟨Nat.le_of_ble_eq_true rfl, Nat.le_of_ble_eq_true rfl⟩ ⟨Nat.le_of_ble_eq_true rfl, Nat.le_of_ble_eq_true rfl⟩ (fun zr37 zu37 H locs hw37 hP9 hD9 hS9 => ?_)
            clear hP hD hS
            obtain ⟨ta2_38, ts2_39, tk2_40, tm2_41, tr2_42, fq2_43, pq2_44, ow2_45, un2_46, nf2_47, fco2_48, ga2_49, nw2_50⟩ := zu37
            refine reW [wO d0 10 [.ref t0, .ref d1, .ref h0, .ref f0, .int (nI ow2_45), .int wt, .int dt, .int vv, .int fq2_43, .int pq2_44], wO t0 9 [.ref t1, .ref t2, .int (nI tn), .int (nI ta2_38), .int (nI ts2_39), .int (nI tk2_40), .long tm2_41, .int tr2_42], wI (cy 0) t1 1600 (fby), (t2, .inl (cy 2, 24, .inr (.inl (fky)))), wO h0 4 [.ref h1, .ref h2, .ref h3, .ref h4, .ref h5, .ref h6, .ref h7, .ref h8, .ref h9, .ref h10, .ref h11, hv0, hv1, hv2, hv3, .int (nI un2_46)], wO f0 3 [.ref f1, .ref f2, .int (nI nf2_47), y3], wI (cy 1) f1 280 (fco2_48)] hP9 hD9 hS9 (fun hP hD hS => ?_)
            clear hP9 hD9 hS9
            refine W.widen (k := 0) (n := 0) (Nat.le_of_ble_eq_true rfl) (Nat.le_of_ble_eq_true rfl) ?_
            replace hw37 : (ta2_38 ≤ tn) ∧ (tk2_40 ≤ 123) ∧ (nf2_47 ≤ 280) ∧ (cOK fco2_48 nf2_47) ∧ (ow2_45 ≤ 30) ∧ (un2_46 ≤ 60) ∧ ((zr37 = 1 ∧ (okS (knd fby tn) (fin fby tn) (cdF fby tn) 4 6 (fin fby tn gq22) oq22 uq22 ga2_49 ow2_45 un2_46 nw2_50) ∧ (fq = fq2_43) ∧ (pq = pq2_44) ∧ (tkC fby tn ga2_49 ta2_38 ts2_39 tk2_40 tm2_41 tr2_42) ∧ ((fin fby tn gq22) < ga2_49 ∧ ga2_49 ≤ tn) ∧ (exC fa14_22 nq22 fco2_48 nf2_47 nw2_50) ∧ (nf2_47 + 3 * oq22 + 1 ≤ nq22 + 3 * ow2_45 ∧ oq22 < ow2_45)) ∨ (zr37 = 0 ∧ (noS (knd fby tn) (fin fby tn) 4 6 (fin fby tn gq22) oq22 uq22 ga2_49) ∧ (flt fby tn ga2_49 2 fq2_43 pq2_44))) := hw37
            obtain ⟨f_51, f_52, f_53, f_54, f_55, f_56, f_57⟩ := hw37
            rcases f_57 with ⟨hz_65, a_58, a_59, a_60, a_61, a_62, a_63, a_64⟩ | ⟨hz_68, a_66, a_67⟩
            · subst hz_65
              subst a_59
              subst a_60
              have hg_a_62 := a_62
              have hl_a_64 := a_64
              refine lv_istore_n (lv' := [(2, .int 1), (3, .int (nI i22)), (0, .ref d0), (1, .int 6)]) hx hb dX10_takeBoth_43 rfl hl (by decide) rfl (fun ls hl => ?_)
              refine lv_aload_n hx hb dX10_takeBoth_44 rfl (lv_at hl 2 rfl) ?_
              refine va_get (D := D) (ci := 10) (v := .ref f0) (C := RX10) (T := TX10) (N := 10) hx hb hg i_X10 hown hK hP 0 rfl rfl 3 (by decide) (hg _ m_258) (fun _ h9 => h9) rfl dX10_takeBoth_45 ?_
              refine lv_bipush (v := 115) hx hb dX10_takeBoth_48 (by decide) ?_
              refine x_callVv (q := (RX3, TX3, 4)) (ci := 3) (q0 := 0) (wr := [wO d0 10 [.ref t0, .ref d1, .ref h0, .ref f0, .int (nI ow2_45), .int wt, .int dt, .int vv, .int fq, .int pq], wO t0 9 [.ref t1, .ref t2, .int (nI tn), .int (nI ta2_38), .int (nI ts2_39), .int (nI tk2_40), .long tm2_41, .int tr2_42], wI (cy 0) t1 1600 (fby), (t2, .inl (cy 2, 24, .inr (.inl (fky)))), wO h0 4 [.ref h1, .ref h2, .ref h3, .ref h4, .ref h5, .ref h6, .ref h7, .ref h8, .ref h9, .ref h10, .ref h11, hv0, hv1, hv2, hv3, .int (nI un2_46)]]) (rest := []) ⟨hx, hb, hml, hown, hg, hl.1⟩ k_X10_182 (s_addDeed9 l D cy f0 f1 f2 nf2_47 y3 fco2_48 115 (by omega) (f_54) (by omega)) E0_blind hK hP hD hS hA [5, 6] [0, 1, 2, 3, 4] ⟨rfl, rfl, by decide +kernel, by decide +kernel, by decide +kernel⟩ rfl rfl (fun _ _ _ => trivial) dX10_takeBoth_50 rfl rfl (Nat.le_of_ble_eq_true rfl) ⟨Nat.le_of_ble_eq_true rfl, Nat.le_of_ble_eq_true rfl⟩ ⟨Nat.le_of_ble_eq_true rfl, Nat.le_of_ble_eq_true rfl⟩ (fun zu69 H locs hw69 hP9 hD9 hS9 => ?_)
              clear hP hD hS
              obtain ⟨n2_70, fc2_71⟩ := zu69
              refine reW [wO d0 10 [.ref t0, .ref d1, .ref h0, .ref f0, .int (nI ow2_45), .int wt, .int dt, .int vv, .int fq, .int pq], wO t0 9 [.ref t1, .ref t2, .int (nI tn), .int (nI ta2_38), .int (nI ts2_39), .int (nI tk2_40), .long tm2_41, .int tr2_42], wI (cy 0) t1 1600 (fby), (t2, .inl (cy 2, 24, .inr (.inl (fky)))), wO h0 4 [.ref h1, .ref h2, .ref h3, .ref h4, .ref h5, .ref h6, .ref h7, .ref h8, .ref h9, .ref h10, .ref h11, hv0, hv1, hv2, hv3, .int (nI un2_46)], wO f0 3 [.ref f1, .ref f2, .int (nI n2_70), y3], wI (cy 1) f1 280 (fc2_71)] hP9 hD9 hS9 (fun hP hD hS => ?_)
              clear hP9 hD9 hS9
              refine W.widen (k := 0) (n := 0) (Nat.le_of_ble_eq_true rfl) (Nat.le_of_ble_eq_true rfl) ?_
              replace hw69 : (n2_70 = nf2_47 + 1) ∧ (cOK fc2_71 n2_70) ∧ (exC fco2_48 nf2_47 fc2_71 n2_70 [nI (20000 + 115)]) := hw69
              obtain ⟨f_72, f_73, f_74⟩ := hw69
              refine lv_iinc (v := nI (i22 + 1)) (lv' := [(3, .int (nI (i22 + 1))), (2, .int 1), (0, .ref d0), (1, .int 6)]) hx hb dX10_takeBoth_53 hl (k := 1) rfl (nI_add i22 1) (by decide) rfl (fun ls hl => ?_)
              refine lv_goto (tgt := 8) hx hb dX10_takeBoth_56 (by decide) ?_
              exact ih22  1 ((i22 + 1)) ta2_38 ts2_39 tk2_40 tm2_41 tr2_42 ow2_45 fq pq un2_46 n2_70 ga2_49 ((nw22 ++ (nw2_50 ++ [ded (sgM (knd fby tn gq22))]))) fc2_71 f_73 (by omega) (by omega) (by omega) (by omega) (by omega) (by omega) (Or.inl ⟨rfl, inS_step lvP24 hin9 hop.1 hop.2 a_58, a_61, by omega, by omega, by omega, rfl, rfl, (exC_tr hex9 (exC_tr a_63 (exC_dd f_74 hop.1 hkk))), by omega, by omega⟩) (by omega) _ _ (hP.sub [0, 1, 2, 3, 4, 5, 6] rfl) (hD.sub [0, 1, 2, 3, 4, 5, 6] (by decide +kernel) rfl) hS ls (lv_sub hl [0, 1, 2, 3] rfl)
            · subst hz_68
              refine lv_istore_n (lv' := [(2, .int 0), (3, .int (nI i22)), (0, .ref d0), (1, .int 6)]) hx hb dX10_takeBoth_43 rfl hl (by decide) rfl (fun ls hl => ?_)
              refine lv_aload_n hx hb dX10_takeBoth_44 rfl (lv_at hl 2 rfl) ?_
              refine va_get (D := D) (ci := 10) (v := .ref f0) (C := RX10) (T := TX10) (N := 10) hx hb hg i_X10 hown hK hP 0 rfl rfl 3 (by decide) (hg _ m_258) (fun _ h9 => h9) rfl dX10_takeBoth_45 ?_
              refine lv_bipush (v := 115) hx hb dX10_takeBoth_48 (by decide) ?_
              refine x_callVv (q := (RX3, TX3, 4)) (ci := 3) (q0 := 0) (wr := [wO d0 10 [.ref t0, .ref d1, .ref h0, .ref f0, .int (nI ow2_45), .int wt, .int dt, .int vv, .int fq2_43, .int pq2_44], wO t0 9 [.ref t1, .ref t2, .int (nI tn), .int (nI ta2_38), .int (nI ts2_39), .int (nI tk2_40), .long tm2_41, .int tr2_42], wI (cy 0) t1 1600 (fby), (t2, .inl (cy 2, 24, .inr (.inl (fky)))), wO h0 4 [.ref h1, .ref h2, .ref h3, .ref h4, .ref h5, .ref h6, .ref h7, .ref h8, .ref h9, .ref h10, .ref h11, hv0, hv1, hv2, hv3, .int (nI un2_46)]]) (rest := []) ⟨hx, hb, hml, hown, hg, hl.1⟩ k_X10_182 (s_addDeed l D cy f0 f1 f2 nf2_47 y3 fco2_48 115 (by omega) (f_54) (by omega)) E0_blind hK hP hD hS hA [5, 6] [0, 1, 2, 3, 4] ⟨rfl, rfl, by decide +kernel, by decide +kernel, by decide +kernel⟩ rfl rfl (fun _ _ _ => trivial) dX10_takeBoth_50 rfl rfl (Nat.le_of_ble_eq_true rfl) ⟨Nat.le_of_ble_eq_true rfl, Nat.le_of_ble_eq_true rfl⟩ ⟨Nat.le_of_ble_eq_true rfl, Nat.le_of_ble_eq_true rfl⟩ (fun zu75 H locs hw75 hP9 hD9 hS9 => ?_)
              clear hP hD hS
              obtain ⟨n2_76, fc2_77⟩ := zu75
              refine reW [wO d0 10 [.ref t0, .ref d1, .ref h0, .ref f0, .int (nI ow2_45), .int wt, .int dt, .int vv, .int fq2_43, .int pq2_44], wO t0 9 [.ref t1, .ref t2, .int (nI tn), .int (nI ta2_38), .int (nI ts2_39), .int (nI tk2_40), .long tm2_41, .int tr2_42], wI (cy 0) t1 1600 (fby), (t2, .inl (cy 2, 24, .inr (.inl (fky)))), wO h0 4 [.ref h1, .ref h2, .ref h3, .ref h4, .ref h5, .ref h6, .ref h7, .ref h8, .ref h9, .ref h10, .ref h11, hv0, hv1, hv2, hv3, .int (nI un2_46)], wO f0 3 [.ref f1, .ref f2, .int (nI n2_76), y3], wI (cy 1) f1 280 (fc2_77)] hP9 hD9 hS9 (fun hP hD hS => ?_)
              clear hP9 hD9 hS9
              refine W.widen (k := 0) (n := 0) (Nat.le_of_ble_eq_true rfl) (Nat.le_of_ble_eq_true rfl) ?_
              replace hw75 : (n2_76 ≤ 280) ∧ (cOK fc2_77 n2_76) := hw75
              obtain ⟨f_78, f_79⟩ := hw75
              refine lv_iinc (v := nI (i22 + 1)) (lv' := [(3, .int (nI (i22 + 1))), (2, .int 0), (0, .ref d0), (1, .int 6)]) hx hb dX10_takeBoth_53 hl (k := 1) rfl (nI_add i22 1) (by decide) rfl (fun ls hl => ?_)
              refine lv_goto (tgt := 8) hx hb dX10_takeBoth_56 (by decide) ?_
              exact ih22  0 ((i22 + 1)) ta2_38 ts2_39 tk2_40 tm2_41 tr2_42 ow2_45 fq2_43 pq2_44 un2_46 n2_76 ga2_49 ([]) fc2_77 f_79 (by omega) (by omega) (by omega) (by omega) (by omega) (by omega) (Or.inr ⟨rfl, inS_bad lvP24 hin9 hop.1 hop.2 a_66, a_67⟩) (by omega) _ _ (hP.sub [0, 1, 2, 3, 4, 5, 6] rfl) (hD.sub [0, 1, 2, 3, 4, 5, 6] (by decide +kernel) rfl) hS ls (lv_sub hl [0, 1, 2, 3] rfl)
      · subst hlb
        refine lv_iload_n hx hb dX10_takeBoth_8 rfl (lv_at hl 0 rfl) ?_
        refine lv_sipush (v := 1600) hx hb dX10_takeBoth_9 (by decide) ?_
        refine lv_icmp_ge (tgt := 59) hx hb dX10_takeBoth_12 (by decide) (fun c_80 => ?_) (fun c_80 => ?_)
        · have q_81 : 1600 ≤ i22 := q_le (a := 1600) (b := i22) rfl rfl (by omega) (by omega) c_80
          refine lv_iload_n hx hb dX10_takeBoth_59 rfl (lv_at hl 1 rfl) ?_
          exact x_zret hQ hx hb hr hlocks hK hP hD hS rfl dX10_takeBoth_60 (aq22, sq22, kq22, fl5_22, rq22, fz22, pz22, oq22, uq22, nq22, fa14_22, gq22, []) (⟨(show aq22 ≤ tn from by omega), (show kq22 ≤ 123 from by omega), (show nq22 ≤ 280 from by omega), ha15_22, (show oq22 ≤ 30 from by omega), (show uq22 ≤ 60 from by omega), (show ((0 : Int32) = 1 ∧ (okS (knd fby tn) (fin fby tn) (cdF fby tn) 2 6 ga ow un gq22 oq22 uq22 ([])) ∧ (fq = fz22) ∧ (pq = pz22) ∧ (tkC fby tn gq22 aq22 sq22 kq22 fl5_22 rq22) ∧ (ga < gq22 ∧ gq22 ≤ tn) ∧ (exC fco nf fa14_22 nq22 ([])) ∧ (nq22 + 3 * ow + 1 ≤ nf + 3 * oq22 ∧ ow < oq22)) ∨ ((0 : Int32) = 0 ∧ (noS (knd fby tn) (fin fby tn) 2 6 ga ow un gq22) ∧ (flt fby tn gq22 2 fz22 pz22)) from Or.inr (⟨rfl, (hno9), (hfl9)⟩))⟩) [0, 1, 2, 3, 4, 5, 6] (by decide +kernel) rfl (Nat.le_of_ble_eq_true rfl) (Nat.le_of_ble_eq_true rfl)
        · have q_81 : i22 < 1600 := q_nle (a := 1600) (b := i22) rfl rfl (by omega) (by omega) c_80
          refine lv_iload_n hx hb dX10_takeBoth_15 rfl (lv_at hl 1 rfl) ?_
          refine lv_if_eq (tgt := 59) hx hb dX10_takeBoth_16 (by decide) (fun _ => ?_) (fun h => absurd (by decide) h)
          refine lv_iload_n hx hb dX10_takeBoth_59 rfl (lv_at hl 1 rfl) ?_
          exact x_zret hQ hx hb hr hlocks hK hP hD hS rfl dX10_takeBoth_60 (aq22, sq22, kq22, fl5_22, rq22, fz22, pz22, oq22, uq22, nq22, fa14_22, gq22, []) (⟨(show aq22 ≤ tn from by omega), (show kq22 ≤ 123 from by omega), (show nq22 ≤ 280 from by omega), ha15_22, (show oq22 ≤ 30 from by omega), (show uq22 ≤ 60 from by omega), (show ((0 : Int32) = 1 ∧ (okS (knd fby tn) (fin fby tn) (cdF fby tn) 2 6 ga ow un gq22 oq22 uq22 ([])) ∧ (fq = fz22) ∧ (pq = pz22) ∧ (tkC fby tn gq22 aq22 sq22 kq22 fl5_22 rq22) ∧ (ga < gq22 ∧ gq22 ≤ tn) ∧ (exC fco nf fa14_22 nq22 ([])) ∧ (nq22 + 3 * ow + 1 ≤ nf + 3 * oq22 ∧ ow < oq22)) ∨ ((0 : Int32) = 0 ∧ (noS (knd fby tn) (fin fby tn) 2 6 ga ow un gq22) ∧ (flt fby tn gq22 2 fz22 pz22)) from Or.inr (⟨rfl, (hno9), (hfl9)⟩))⟩) [0, 1, 2, 3, 4, 5, 6] (by decide +kernel) rfl (Nat.le_of_ble_eq_true rfl) (Nat.le_of_ble_eq_true rfl)
  exact loop22 _ zr1 0 ta2_2 ts2_3 tk2_4 tm2_5 tr2_6 ow2_9 fq2_7 pq2_8 un2_10 nf2_11 ga2_13 nw2_14 fco2_12 f_18 (by omega) (by omega) (by omega) (by omega) (by omega) (by omega) (by rcases f_21 with ⟨hx0, hxk, hxq, hxp, hxt, hxg, hxe, hxm⟩ | ⟨hx0, hxn, hxl⟩; exact Or.inl ⟨hx0, inS_0 lvP24 hxk, hxt, hxg.1, hxg.2, by omega, hxq, hxp, hxe, hxm.1, hxm.2⟩; exact Or.inr ⟨hx0, noS_0 lvP24 hxn, hxl⟩) (Nat.le_refl _) _ _ (hP.sub [0, 1, 2, 3, 4, 5, 6] rfl) (hD.sub [0, 1, 2, 3, 4, 5, 6] (by decide +kernel) rfl) hS ls (lv_sub hl [0, 1, 2, 3] rfl)
set_option maxHeartbeats 1000000 in
set_option maxRecDepth 100000 in
theorem s_takeEither6 (l : Launch) (D : va_G) (cy : Nat → ClassId) (adK : Nat → Nat) (adV : Nat → Nat) (d0 : Nat) (d1 : Nat) (wt : Int32) (dt : Int32) (vv : Int32) (fq : Int32) (pq : Int32) (t0 : Nat) (t1 : Nat) (t2 : Nat) (tn : Nat) (ta : Nat) (ts : Nat) (tk : Nat) (tm : Int64) (tr : Int32) (fby : Nat → Int32) (fky : Nat → Int64) (h0 : Nat) (h1 : Nat) (h2 : Nat) (h3 : Nat) (h4 : Nat) (h5 : Nat) (h6 : Nat) (h7 : Nat) (h8 : Nat) (h9 : Nat) (h10 : Nat) (h11 : Nat) (hv0 : Value) (hv1 : Value) (hv2 : Value) (hv3 : Value) (ow : Nat) (un : Nat) (f0 : Nat) (f1 : Nat) (f2 : Nat) (nf : Nat) (y3 : Value) (fco : Nat → Int32) (ga : Nat) (htn : tn ≤ 1600) (hta : ta ≤ tn) (htk : tk ≤ 123) (hti : tkC fby tn ga ta ts tk tm tr) (hky : kyOK fky) (hnf : nf ≤ 280) (hfc : cOK fco nf) (how : ow ≤ 30) (hun : un ≤ 60) (hga : ga ≤ tn) (hrm : nf + 90 ≤ 280 + 3 * ow) : XMi l D (tyL cy) (EV adK adV) yX10_takeEither cX10_takeEither 4 (some .boolean) (rmk 19 0 0) [.ref d0, .int 6] [wO d0 10 [.ref t0, .ref d1, .ref h0, .ref f0, .int (nI ow), .int wt, .int dt, .int vv, .int fq, .int pq], wO t0 9 [.ref t1, .ref t2, .int (nI tn), .int (nI ta), .int (nI ts), .int (nI tk), .long tm, .int tr], wI (cy 0) t1 1600 (fby), (t2, .inl (cy 2, 24, .inr (.inl (fky)))), wO h0 4 [.ref h1, .ref h2, .ref h3, .ref h4, .ref h5, .ref h6, .ref h7, .ref h8, .ref h9, .ref h10, .ref h11, hv0, hv1, hv2, hv3, .int (nI un)], wO f0 3 [.ref f1, .ref f2, .int (nI nf), y3], wI (cy 1) f1 280 (fco)] (fun (r : Int32) (u : Nat × Nat × Nat × Int64 × Int32 × Int32 × Int32 × Nat × Nat × Nat × (Nat → Int32) × Nat × (List Int32)) => (u.1 ≤ tn) ∧ (u.2.2.1 ≤ 123) ∧ (u.2.2.2.2.2.2.2.2.2.1 ≤ 280) ∧ (cOK u.2.2.2.2.2.2.2.2.2.2.1 u.2.2.2.2.2.2.2.2.2.1) ∧ (u.2.2.2.2.2.2.2.1 ≤ 30) ∧ (u.2.2.2.2.2.2.2.2.1 ≤ 60) ∧ ((r = 1 ∧ (okS (knd fby tn) (fin fby tn) (cdF fby tn) 1 6 ga ow un u.2.2.2.2.2.2.2.2.2.2.2.1 u.2.2.2.2.2.2.2.1 u.2.2.2.2.2.2.2.2.1 u.2.2.2.2.2.2.2.2.2.2.2.2) ∧ (fq = u.2.2.2.2.2.1) ∧ (pq = u.2.2.2.2.2.2.1) ∧ (tkC fby tn u.2.2.2.2.2.2.2.2.2.2.2.1 u.1 u.2.1 u.2.2.1 u.2.2.2.1 u.2.2.2.2.1) ∧ (ga < u.2.2.2.2.2.2.2.2.2.2.2.1 ∧ u.2.2.2.2.2.2.2.2.2.2.2.1 ≤ tn) ∧ (exC fco nf u.2.2.2.2.2.2.2.2.2.2.1 u.2.2.2.2.2.2.2.2.2.1 u.2.2.2.2.2.2.2.2.2.2.2.2) ∧ (u.2.2.2.2.2.2.2.2.2.1 + 3 * ow + 1 ≤ nf + 3 * u.2.2.2.2.2.2.2.1 ∧ ow < u.2.2.2.2.2.2.2.1)) ∨ (r = 0 ∧ (noS (knd fby tn) (fin fby tn) 1 6 ga ow un u.2.2.2.2.2.2.2.2.2.2.2.1) ∧ (flt fby tn u.2.2.2.2.2.2.2.2.2.2.2.1 2 u.2.2.2.2.2.1 u.2.2.2.2.2.2.1)))) (fun (u : Nat × Nat × Nat × Int64 × Int32 × Int32 × Int32 × Nat × Nat × Nat × (Nat → Int32) × Nat × (List Int32)) => [wO d0 10 [.ref t0, .ref d1, .ref h0, .ref f0, .int (nI u.2.2.2.2.2.2.2.1), .int wt, .int dt, .int vv, .int u.2.2.2.2.2.1, .int u.2.2.2.2.2.2.1], wO t0 9 [.ref t1, .ref t2, .int (nI tn), .int (nI u.1), .int (nI u.2.1), .int (nI u.2.2.1), .long u.2.2.2.1, .int u.2.2.2.2.1], wI (cy 0) t1 1600 (fby), (t2, .inl (cy 2, 24, .inr (.inl (fky)))), wO h0 4 [.ref h1, .ref h2, .ref h3, .ref h4, .ref h5, .ref h6, .ref h7, .ref h8, .ref h9, .ref h10, .ref h11, hv0, hv1, hv2, hv3, .int (nI u.2.2.2.2.2.2.2.2.1)], wO f0 3 [.ref f1, .ref f2, .int (nI u.2.2.2.2.2.2.2.2.2.1), y3], wI (cy 1) f1 280 (u.2.2.2.2.2.2.2.2.2.2.1)]) := by
  refine XMi.start (by decide) (Nat.le_of_ble_eq_true rfl) ?_
  intro p e s m below meth c args A ls Q hat hQ
  obtain ⟨hx, hb, hr, hml, hown, hg, hlocks, hin, hK, hA, hP, hD, hS, hE, hl⟩ := hat
  have hown : s.vm.findClass RX10 = some m.cls := hown
  have hl : lv_has ls 4 [(0, .ref d0), (1, .int 6)] := hl
  refine lv_aload_n hx hb dX10_takeEither_0 rfl (lv_at hl 0 rfl) ?_
  refine lv_iload_n hx hb dX10_takeEither_1 rfl (lv_at hl 1 rfl) ?_
  refine x_callVi (q := (RX10, TX10, 10)) (ci := 10) (q0 := 0) (wr := []) (rest := []) ⟨hx, hb, hml, hown, hg, hl.1⟩ k_X10_179 (s_takeBoth6 l D cy adK adV d0 d1 wt dt vv fq pq t0 t1 t2 tn ta ts tk tm tr fby fky h0 h1 h2 h3 h4 h5 h6 h7 h8 h9 h10 h11 hv0 hv1 hv2 hv3 ow un f0 f1 f2 nf y3 fco ga (by omega) (by omega) (by omega) (hti) (hky) (by omega) (hfc) (by omega) (by omega) (by omega) (by omega)) EV_blind hK hP hD hS hA [0, 1, 2, 3, 4, 5, 6] [] ⟨rfl, rfl, by decide +kernel, by decide +kernel, by decide +kernel⟩ rfl rfl (fun U hU hW => EV_pass hE hS (va_free hD hS hA [0, 1, 2, 3, 4, 5, 6] rfl) hU hW) dX10_takeEither_2 rfl rfl (Nat.le_of_ble_eq_true rfl) ⟨Nat.le_of_ble_eq_true rfl, Nat.le_of_ble_eq_true rfl⟩ ⟨Nat.le_of_ble_eq_true rfl, Nat.le_of_ble_eq_true rfl⟩ (fun zr1 zu1 H locs hw1 hP9 hD9 hS9 => ?_)
  clear hP hD hS
  obtain ⟨ta2_2, ts2_3, tk2_4, tm2_5, tr2_6, fq2_7, pq2_8, ow2_9, un2_10, nf2_11, fco2_12, ga2_13, nw2_14⟩ := zu1
  refine reW [wO d0 10 [.ref t0, .ref d1, .ref h0, .ref f0, .int (nI ow2_9), .int wt, .int dt, .int vv, .int fq2_7, .int pq2_8], wO t0 9 [.ref t1, .ref t2, .int (nI tn), .int (nI ta2_2), .int (nI ts2_3), .int (nI tk2_4), .long tm2_5, .int tr2_6], wI (cy 0) t1 1600 (fby), (t2, .inl (cy 2, 24, .inr (.inl (fky)))), wO h0 4 [.ref h1, .ref h2, .ref h3, .ref h4, .ref h5, .ref h6, .ref h7, .ref h8, .ref h9, .ref h10, .ref h11, hv0, hv1, hv2, hv3, .int (nI un2_10)], wO f0 3 [.ref f1, .ref f2, .int (nI nf2_11), y3], wI (cy 1) f1 280 (fco2_12)] hP9 hD9 hS9 (fun hP hD hS => ?_)
  clear hP9 hD9 hS9
  refine W.widen (k := 0) (n := 0) (Nat.le_of_ble_eq_true rfl) (Nat.le_of_ble_eq_true rfl) ?_
  replace hw1 : (ta2_2 ≤ tn) ∧ (tk2_4 ≤ 123) ∧ (nf2_11 ≤ 280) ∧ (cOK fco2_12 nf2_11) ∧ (ow2_9 ≤ 30) ∧ (un2_10 ≤ 60) ∧ ((zr1 = 1 ∧ (okS (knd fby tn) (fin fby tn) (cdF fby tn) 2 6 ga ow un ga2_13 ow2_9 un2_10 nw2_14) ∧ (fq = fq2_7) ∧ (pq = pq2_8) ∧ (tkC fby tn ga2_13 ta2_2 ts2_3 tk2_4 tm2_5 tr2_6) ∧ (ga < ga2_13 ∧ ga2_13 ≤ tn) ∧ (exC fco nf fco2_12 nf2_11 nw2_14) ∧ (nf2_11 + 3 * ow + 1 ≤ nf + 3 * ow2_9 ∧ ow < ow2_9)) ∨ (zr1 = 0 ∧ (noS (knd fby tn) (fin fby tn) 2 6 ga ow un ga2_13) ∧ (flt fby tn ga2_13 2 fq2_7 pq2_8))) := hw1
  obtain ⟨f_15, f_16, f_17, f_18, f_19, f_20, f_21⟩ := hw1
  refine lv_istore_n (lv' := [(2, .int zr1), (0, .ref d0), (1, .int 6)]) hx hb dX10_takeEither_5 rfl hl (by decide) rfl (fun ls hl => ?_)
  refine lv_iconst (v := 0) hx hb dX10_takeEither_6 (by decide) ?_
  refine lv_istore_n (lv' := [(3, .int 0), (2, .int zr1), (0, .ref d0), (1, .int 6)]) hx hb dX10_takeEither_7 rfl hl (by decide) rfl (fun ls hl => ?_)
  have loop22 : ∀ (zn : Nat) (lb2_22 : Int32) (i22 : Nat) (aq22 : Nat) (sq22 : Nat) (kq22 : Nat) (fl5_22 : Int64) (rq22 : Int32) (oq22 : Nat) (fz22 : Int32) (pz22 : Int32) (uq22 : Nat) (nq22 : Nat) (gq22 : Nat) (nw22 : List Int32) (fa14_22 : Nat → Int32), (cOK fa14_22 nq22) → (i22 ≤ 1600) → (aq22 ≤ tn) → (kq22 ≤ 123) → (nq22 ≤ 280) → (oq22 ≤ 30) → (uq22 ≤ 60) → ((lb2_22 = 1 ∧ inS (knd fby tn) (fin fby tn) (cdF fby tn) 1 2 6 ga ow un gq22 oq22 uq22 nw22 ∧ tkC fby tn gq22 aq22 sq22 kq22 fl5_22 rq22 ∧ ga < gq22 ∧ gq22 ≤ tn ∧ i22 < gq22 ∧ fq = fz22 ∧ pq = pz22 ∧ exC fco nf fa14_22 nq22 nw22 ∧ nq22 + 3 * ow + 1 ≤ nf + 3 * oq22 ∧ ow < oq22) ∨ (lb2_22 = 0 ∧ noS (knd fby tn) (fin fby tn) 1 6 ga ow un gq22 ∧ flt fby tn gq22 2 fz22 pz22)) → 1600 - i22 + 1 ≤ zn → ∀ (H : Heap) (locs : List Loc), va_P D vwCl [wO d0 10 [.ref t0, .ref d1, .ref h0, .ref f0, .int (nI oq22), .int wt, .int dt, .int vv, .int fz22, .int pz22], wO t0 9 [.ref t1, .ref t2, .int (nI tn), .int (nI aq22), .int (nI sq22), .int (nI kq22), .long fl5_22, .int rq22], wI (cy 0) t1 1600 (fby), (t2, .inl (cy 2, 24, .inr (.inl (fky)))), wO h0 4 [.ref h1, .ref h2, .ref h3, .ref h4, .ref h5, .ref h6, .ref h7, .ref h8, .ref h9, .ref h10, .ref h11, hv0, hv1, hv2, hv3, .int (nI uq22)], wO f0 3 [.ref f1, .ref f2, .int (nI nq22), y3], wI (cy 1) f1 280 (fa14_22)] H → va_D A [wO d0 10 [.ref t0, .ref d1, .ref h0, .ref f0, .int (nI oq22), .int wt, .int dt, .int vv, .int fz22, .int pz22], wO t0 9 [.ref t1, .ref t2, .int (nI tn), .int (nI aq22), .int (nI sq22), .int (nI kq22), .long fl5_22, .int rq22], wI (cy 0) t1 1600 (fby), (t2, .inl (cy 2, 24, .inr (.inl (fky)))), wO h0 4 [.ref h1, .ref h2, .ref h3, .ref h4, .ref h5, .ref h6, .ref h7, .ref h8, .ref h9, .ref h10, .ref h11, hv0, hv1, hv2, hv3, .int (nI uq22)], wO f0 3 [.ref f1, .ref f2, .int (nI nq22), y3], wI (cy 1) f1 280 (fa14_22)] → va_S A s.heap H locs → ∀ ls : Array Slot, lv_has ls 4 [(3, .int (nI i22)), (2, .int lb2_22), (0, .ref d0), (1, .int 6)] → W p l e (rmk 19 0 0) s m args below meth c H locs 0 0 Q (F0 m 8 ls []) := by
    try clear hP hD hS
    intro zn
    induction zn with
    | zero => intro lb2_22 i22 aq22 sq22 kq22 fl5_22 rq22 oq22 fz22 pz22 uq22 nq22 gq22 nw22 fa14_22 _ _ _ _ _ _ _ _ hz; exact absurd hz (by omega)
    | succ zn ih22 =>
      intro lb2_22 i22 aq22 sq22 kq22 fl5_22 rq22 oq22 fz22 pz22 uq22 nq22 gq22 nw22 fa14_22 ha15_22 hf0_22 hf1_22 hf2_22 hf3_22 hf4_22 hf5_22 hf6_22 hmu22 H locs hP hD hS ls hl
      rcases hf6_22 with ⟨hlb, hin9, htk9, hg1, hg2, hg3, hfz, hpz, hex9, hln9⟩ | ⟨hlb, hno9, hfl9⟩
      · subst hlb hfz hpz
        refine lv_iload_n hx hb dX10_takeEither_8 rfl (lv_at hl 0 rfl) ?_
        refine lv_sipush (v := 1600) hx hb dX10_takeEither_9 (by decide) ?_
        refine lv_icmp_ge (tgt := 59) hx hb dX10_takeEither_12 (by decide) (fun c_23 => ?_) (fun c_23 => ?_)
        · have q_24 : 1600 ≤ i22 := q_le (a := 1600) (b := i22) rfl rfl (by omega) (by omega) c_23
          exact absurd q_24 (by omega)
        · have q_24 : i22 < 1600 := q_nle (a := 1600) (b := i22) rfl rfl (by omega) (by omega) c_23
          refine lv_iload_n hx hb dX10_takeEither_15 rfl (lv_at hl 1 rfl) ?_
          refine lv_if_eq (tgt := 59) hx hb dX10_takeEither_16 (by decide) (fun h => absurd h (by decide)) (fun _ => ?_)
          refine lv_aload_n hx hb dX10_takeEither_19 rfl (lv_at hl 2 rfl) ?_
          refine va_get (D := D) (ci := 10) (v := .ref t0) (C := RX10) (T := TX10) (N := 10) hx hb hg i_X10 hown hK hP 0 rfl rfl 0 (by decide) (hg _ m_255) (fun _ h9 => h9) rfl dX10_takeEither_20 ?_
          refine va_get (D := D) (ci := 9) (v := .int (nI kq22)) (C := RX9) (T := TX9) (N := 8) hx hb hg i_X9 hown hK hP 1 rfl rfl 5 (by decide) (hg _ m_222) (fun _ h9 => h9) rfl dX10_takeEither_23 ?_
          refine lv_bipush (v := 114) hx hb dX10_takeEither_26 (by decide) ?_
          refine lv_icmp_ne (tgt := 59) hx hb dX10_takeEither_28 (by decide) (fun c_25 => ?_) (fun c_25 => ?_)
          · have q_26 : ¬ kq22 = 114 := q_ne (a := kq22) (b := 114) rfl rfl (by omega) (by omega) c_25
            refine lv_iload_n hx hb dX10_takeEither_59 rfl (lv_at hl 1 rfl) ?_
            exact x_zret hQ hx hb hr hlocks hK hP hD hS rfl dX10_takeEither_60 (aq22, sq22, kq22, fl5_22, rq22, fq, pq, oq22, uq22, nq22, fa14_22, gq22, nw22) (⟨(show aq22 ≤ tn from by omega), (show kq22 ≤ 123 from by omega), (show nq22 ≤ 280 from by omega), ha15_22, (show oq22 ≤ 30 from by omega), (show uq22 ≤ 60 from by omega), (show ((1 : Int32) = 1 ∧ (okS (knd fby tn) (fin fby tn) (cdF fby tn) 1 6 ga ow un gq22 oq22 uq22 nw22) ∧ (fq = fq) ∧ (pq = pq) ∧ (tkC fby tn gq22 aq22 sq22 kq22 fl5_22 rq22) ∧ (ga < gq22 ∧ gq22 ≤ tn) ∧ (exC fco nf fa14_22 nq22 nw22) ∧ (nq22 + 3 * ow + 1 ≤ nf + 3 * oq22 ∧ ow < oq22)) ∨ ((1 : Int32) = 0 ∧ (noS (knd fby tn) (fin fby tn) 1 6 ga ow un gq22) ∧ (flt fby tn gq22 2 fq pq)) from Or.inl ⟨rfl, (inS_end lvP12 hin9 (sg_ne1 (by have h9 := htk9.2.2.1; omega))), (rfl), (rfl), (htk9), (⟨by omega, by omega⟩), (hex9), (⟨by omega, by omega⟩)⟩)⟩) [0, 1, 2, 3, 4, 5, 6] (by decide +kernel) rfl (Nat.le_of_ble_eq_true rfl) (Nat.le_of_ble_eq_true rfl)
          · have q_26 : kq22 = 114 := q_eq (a := kq22) (b := 114) rfl rfl (by omega) (by omega) c_25
            have hkk : 114 = knd fby tn gq22 := by have h9 := htk9.2.2.1; omega
            have hop := sg_1 (show knd fby tn gq22 = 114 from by have h9 := htk9.2.2.1; omega)
            have hgt_27 : gq22 < fin fby tn gq22 ∧ fin fby tn gq22 ≤ tn := ⟨fin_gt (by have h9 := htk9.2.2.1; omega), fin_le (by omega)⟩
            refine lv_aload_n hx hb dX10_takeEither_31 rfl (lv_at hl 2 rfl) ?_
            refine va_get (D := D) (ci := 10) (v := .ref t0) (C := RX10) (T := TX10) (N := 10) hx hb hg i_X10 hown hK hP 0 rfl rfl 0 (by decide) (hg _ m_255) (fun _ h9 => h9) rfl dX10_takeEither_32 ?_
            refine x_callVv (q := (RX9, TX9, 8)) (ci := 9) (q0 := 0) (wr := [wO d0 10 [.ref t0, .ref d1, .ref h0, .ref f0, .int (nI oq22), .int wt, .int dt, .int vv, .int fq, .int pq], wO h0 4 [.ref h1, .ref h2, .ref h3, .ref h4, .ref h5, .ref h6, .ref h7, .ref h8, .ref h9, .ref h10, .ref h11, hv0, hv1, hv2, hv3, .int (nI uq22)], wO f0 3 [.ref f1, .ref f2, .int (nI nq22), y3], wI (cy 1) f1 280 (fa14_22)]) (rest := []) ⟨hx, hb, hml, hown, hg, hl.1⟩ k_X10_140 (s_next l D cy adK adV t0 t1 t2 tn aq22 sq22 kq22 fl5_22 rq22 fby fky (fin fby tn gq22) (by omega) (by omega) (htk9.2.1) (hky)) EV_blind hK hP hD hS hA [1, 2, 3] [0, 4, 5, 6] ⟨rfl, rfl, by decide +kernel, by decide +kernel, by decide +kernel⟩ rfl rfl (fun U hU hW => EV_pass hE hS (va_free hD hS hA [1, 2, 3] rfl) hU hW) dX10_takeEither_35 rfl rfl (Nat.le_of_ble_eq_true rfl) ⟨Nat.le_of_ble_eq_true rfl, Nat.le_of_ble_eq_true rfl⟩ ⟨Nat.le_of_ble_eq_true rfl, Nat.le_of_ble_eq_true rfl⟩ (fun zu28 H locs hw28 hP9 hD9 hS9 => ?_)
            clear hP hD hS
            obtain ⟨ta2_29, ts2_30, tk2_31, tm2_32, tr2_33⟩ := zu28
            refine reW [wO d0 10 [.ref t0, .ref d1, .ref h0, .ref f0, .int (nI oq22), .int wt, .int dt, .int vv, .int fq, .int pq], wO h0 4 [.ref h1, .ref h2, .ref h3, .ref h4, .ref h5, .ref h6, .ref h7, .ref h8, .ref h9, .ref h10, .ref h11, hv0, hv1, hv2, hv3, .int (nI uq22)], wO f0 3 [.ref f1, .ref f2, .int (nI nq22), y3], wI (cy 1) f1 280 (fa14_22), wO t0 9 [.ref t1, .ref t2, .int (nI tn), .int (nI ta2_29), .int (nI ts2_30), .int (nI tk2_31), .long tm2_32, .int tr2_33], wI (cy 0) t1 1600 (fby), (t2, .inl (cy 2, 24, .inr (.inl (fky))))] hP9 hD9 hS9 (fun hP hD hS => ?_)
            clear hP9 hD9 hS9
            refine W.widen (k := 0) (n := 0) (Nat.le_of_ble_eq_true rfl) (Nat.le_of_ble_eq_true rfl) ?_
            replace hw28 : (ta2_29 ≤ tn) ∧ (tk2_31 ≤ 123) ∧ (tkC fby tn (fin fby tn gq22) ta2_29 ts2_30 tk2_31 tm2_32 tr2_33) := hw28
            obtain ⟨f_34, f_35, f_36⟩ := hw28
            refine lv_aload_n hx hb dX10_takeEither_38 rfl (lv_at hl 2 rfl) ?_
            refine lv_iload_n hx hb dX10_takeEither_39 rfl (lv_at hl 3 rfl) ?_
            refine x_callVi (q := (RX10, TX10, 10)) (ci := 10) (q0 := 0) (wr := []) (rest := []) ⟨hx, hb, hml, hown, hg, hl.1⟩ k_X10_179 (s_takeBoth6 l D cy adK adV d0 d1 wt dt vv fq pq t0 t1 t2 tn ta2_29 ts2_30 tk2_31 tm2_32 tr2_33 fby fky h0 h1 h2 h3 h4 h5 h6 h7 h8 h9 h10 h11 hv0 hv1 hv2 hv3 oq22 uq22 f0 f1 f2 nq22 y3 fa14_22 (fin fby tn gq22) (by omega) (by omega) (by omega) (f_36) (hky) (by omega) (ha15_22) (by omega) (by omega) (by omega) (by omega)) EV_blind hK hP hD hS hA [0, 4, 5, 6, 1, 2, 3] [] ⟨rfl, rfl, by decide +kernel, by decide +kernel, by decide +kernel⟩ rfl rfl (fun U hU hW => EV_pass hE hS (va_free hD hS hA [0, 4, 5, 6, 1, 2, 3] rfl) hU hW) dX10_takeEither_40 rfl rfl (Nat.le_of_ble_eq_true rfl) ⟨Nat.le_of_ble_eq_true rfl, Nat.le_of_ble_eq_true rfl⟩ ⟨Nat.le_of_ble_eq_true rfl, Nat.le_of_ble_eq_true rfl⟩ (fun zr37 zu37 H locs hw37 hP9 hD9 hS9 => ?_)
            clear hP hD hS
            obtain ⟨ta2_38, ts2_39, tk2_40, tm2_41, tr2_42, fq2_43, pq2_44, ow2_45, un2_46, nf2_47, fco2_48, ga2_49, nw2_50⟩ := zu37
            refine reW [wO d0 10 [.ref t0, .ref d1, .ref h0, .ref f0, .int (nI ow2_45), .int wt, .int dt, .int vv, .int fq2_43, .int pq2_44], wO t0 9 [.ref t1, .ref t2, .int (nI tn), .int (nI ta2_38), .int (nI ts2_39), .int (nI tk2_40), .long tm2_41, .int tr2_42], wI (cy 0) t1 1600 (fby), (t2, .inl (cy 2, 24, .inr (.inl (fky)))), wO h0 4 [.ref h1, .ref h2, .ref h3, .ref h4, .ref h5, .ref h6, .ref h7, .ref h8, .ref h9, .ref h10, .ref h11, hv0, hv1, hv2, hv3, .int (nI un2_46)], wO f0 3 [.ref f1, .ref f2, .int (nI nf2_47), y3], wI (cy 1) f1 280 (fco2_48)] hP9 hD9 hS9 (fun hP hD hS => ?_)
            clear hP9 hD9 hS9
            refine W.widen (k := 0) (n := 0) (Nat.le_of_ble_eq_true rfl) (Nat.le_of_ble_eq_true rfl) ?_
            replace hw37 : (ta2_38 ≤ tn) ∧ (tk2_40 ≤ 123) ∧ (nf2_47 ≤ 280) ∧ (cOK fco2_48 nf2_47) ∧ (ow2_45 ≤ 30) ∧ (un2_46 ≤ 60) ∧ ((zr37 = 1 ∧ (okS (knd fby tn) (fin fby tn) (cdF fby tn) 2 6 (fin fby tn gq22) oq22 uq22 ga2_49 ow2_45 un2_46 nw2_50) ∧ (fq = fq2_43) ∧ (pq = pq2_44) ∧ (tkC fby tn ga2_49 ta2_38 ts2_39 tk2_40 tm2_41 tr2_42) ∧ ((fin fby tn gq22) < ga2_49 ∧ ga2_49 ≤ tn) ∧ (exC fa14_22 nq22 fco2_48 nf2_47 nw2_50) ∧ (nf2_47 + 3 * oq22 + 1 ≤ nq22 + 3 * ow2_45 ∧ oq22 < ow2_45)) ∨ (zr37 = 0 ∧ (noS (knd fby tn) (fin fby tn) 2 6 (fin fby tn gq22) oq22 uq22 ga2_49) ∧ (flt fby tn ga2_49 2 fq2_43 pq2_44))) := hw37
            obtain ⟨f_51, f_52, f_53, f_54, f_55, f_56, f_57⟩ := hw37
            rcases f_57 with ⟨hz_65, a_58, a_59, a_60, a_61, a_62, a_63, a_64⟩ | ⟨hz_68, a_66, a_67⟩
            · subst hz_65
              subst a_59
              subst a_60
              have hg_a_62 := a_62
              have hl_a_64 := a_64
              refine lv_istore_n (lv' := [(2, .int 1), (3, .int (nI i22)), (0, .ref d0), (1, .int 6)]) hx hb dX10_takeEither_43 rfl hl (by decide) rfl (fun ls hl => ?_)
              refine lv_aload_n hx hb dX10_takeEither_44 rfl (lv_at hl 2 rfl) ?_
              refine va_get (D := D) (ci := 10) (v := .ref f0) (C := RX10) (T := TX10) (N := 10) hx hb hg i_X10 hown hK hP 0 rfl rfl 3 (by decide) (hg _ m_258) (fun _ h9 => h9) rfl dX10_takeEither_45 ?_
              refine lv_bipush (v := 114) hx hb dX10_takeEither_48 (by decide) ?_
              refine x_callVv (q := (RX3, TX3, 4)) (ci := 3) (q0 := 0) (wr := [wO d0 10 [.ref t0, .ref d1, .ref h0, .ref f0, .int (nI ow2_45), .int wt, .int dt, .int vv, .int fq, .int pq], wO t0 9 [.ref t1, .ref t2, .int (nI tn), .int (nI ta2_38), .int (nI ts2_39), .int (nI tk2_40), .long tm2_41, .int tr2_42], wI (cy 0) t1 1600 (fby), (t2, .inl (cy 2, 24, .inr (.inl (fky)))), wO h0 4 [.ref h1, .ref h2, .ref h3, .ref h4, .ref h5, .ref h6, .ref h7, .ref h8, .ref h9, .ref h10, .ref h11, hv0, hv1, hv2, hv3, .int (nI un2_46)]]) (rest := []) ⟨hx, hb, hml, hown, hg, hl.1⟩ k_X10_182 (s_addDeed9 l D cy f0 f1 f2 nf2_47 y3 fco2_48 114 (by omega) (f_54) (by omega)) E0_blind hK hP hD hS hA [5, 6] [0, 1, 2, 3, 4] ⟨rfl, rfl, by decide +kernel, by decide +kernel, by decide +kernel⟩ rfl rfl (fun _ _ _ => trivial) dX10_takeEither_50 rfl rfl (Nat.le_of_ble_eq_true rfl) ⟨Nat.le_of_ble_eq_true rfl, Nat.le_of_ble_eq_true rfl⟩ ⟨Nat.le_of_ble_eq_true rfl, Nat.le_of_ble_eq_true rfl⟩ (fun zu69 H locs hw69 hP9 hD9 hS9 => ?_)
              clear hP hD hS
              obtain ⟨n2_70, fc2_71⟩ := zu69
              refine reW [wO d0 10 [.ref t0, .ref d1, .ref h0, .ref f0, .int (nI ow2_45), .int wt, .int dt, .int vv, .int fq, .int pq], wO t0 9 [.ref t1, .ref t2, .int (nI tn), .int (nI ta2_38), .int (nI ts2_39), .int (nI tk2_40), .long tm2_41, .int tr2_42], wI (cy 0) t1 1600 (fby), (t2, .inl (cy 2, 24, .inr (.inl (fky)))), wO h0 4 [.ref h1, .ref h2, .ref h3, .ref h4, .ref h5, .ref h6, .ref h7, .ref h8, .ref h9, .ref h10, .ref h11, hv0, hv1, hv2, hv3, .int (nI un2_46)], wO f0 3 [.ref f1, .ref f2, .int (nI n2_70), y3], wI (cy 1) f1 280 (fc2_71)] hP9 hD9 hS9 (fun hP hD hS => ?_)
              clear hP9 hD9 hS9
              refine W.widen (k := 0) (n := 0) (Nat.le_of_ble_eq_true rfl) (Nat.le_of_ble_eq_true rfl) ?_
              replace hw69 : (n2_70 = nf2_47 + 1) ∧ (cOK fc2_71 n2_70) ∧ (exC fco2_48 nf2_47 fc2_71 n2_70 [nI (20000 + 114)]) := hw69
              obtain ⟨f_72, f_73, f_74⟩ := hw69
              refine lv_iinc (v := nI (i22 + 1)) (lv' := [(3, .int (nI (i22 + 1))), (2, .int 1), (0, .ref d0), (1, .int 6)]) hx hb dX10_takeEither_53 hl (k := 1) rfl (nI_add i22 1) (by decide) rfl (fun ls hl => ?_)
              refine lv_goto (tgt := 8) hx hb dX10_takeEither_56 (by decide) ?_
              exact ih22  1 ((i22 + 1)) ta2_38 ts2_39 tk2_40 tm2_41 tr2_42 ow2_45 fq pq un2_46 n2_70 ga2_49 ((nw22 ++ (nw2_50 ++ [ded (sgM (knd fby tn gq22))]))) fc2_71 f_73 (by omega) (by omega) (by omega) (by omega) (by omega) (by omega) (Or.inl ⟨rfl, inS_step lvP12 hin9 hop.1 hop.2 a_58, a_61, by omega, by omega, by omega, rfl, rfl, (exC_tr hex9 (exC_tr a_63 (exC_dd f_74 hop.1 hkk))), by omega, by omega⟩) (by omega) _ _ (hP.sub [0, 1, 2, 3, 4, 5, 6] rfl) (hD.sub [0, 1, 2, 3, 4, 5, 6] (by decide +kernel) rfl) hS ls (lv_sub hl [0, 1, 2, 3] rfl)
            · subst hz_68
              refine lv_istore_n (lv' := [(2, .int 0), (3, .int (nI i22)), (0, .ref d0), (1, .int 6)]) hx hb dX10_takeEither_43 rfl hl (by decide) rfl (fun ls hl => ?_)
              refine lv_aload_n hx hb dX10_takeEither_44 rfl (lv_at hl 2 rfl) ?_
              refine va_get (D := D) (ci := 10) (v := .ref f0) (C := RX10) (T := TX10) (N := 10) hx hb hg i_X10 hown hK hP 0 rfl rfl 3 (by decide) (hg _ m_258) (fun _ h9 => h9) rfl dX10_takeEither_45 ?_
              refine lv_bipush (v := 114) hx hb dX10_takeEither_48 (by decide) ?_
              refine x_callVv (q := (RX3, TX3, 4)) (ci := 3) (q0 := 0) (wr := [wO d0 10 [.ref t0, .ref d1, .ref h0, .ref f0, .int (nI ow2_45), .int wt, .int dt, .int vv, .int fq2_43, .int pq2_44], wO t0 9 [.ref t1, .ref t2, .int (nI tn), .int (nI ta2_38), .int (nI ts2_39), .int (nI tk2_40), .long tm2_41, .int tr2_42], wI (cy 0) t1 1600 (fby), (t2, .inl (cy 2, 24, .inr (.inl (fky)))), wO h0 4 [.ref h1, .ref h2, .ref h3, .ref h4, .ref h5, .ref h6, .ref h7, .ref h8, .ref h9, .ref h10, .ref h11, hv0, hv1, hv2, hv3, .int (nI un2_46)]]) (rest := []) ⟨hx, hb, hml, hown, hg, hl.1⟩ k_X10_182 (s_addDeed l D cy f0 f1 f2 nf2_47 y3 fco2_48 114 (by omega) (f_54) (by omega)) E0_blind hK hP hD hS hA [5, 6] [0, 1, 2, 3, 4] ⟨rfl, rfl, by decide +kernel, by decide +kernel, by decide +kernel⟩ rfl rfl (fun _ _ _ => trivial) dX10_takeEither_50 rfl rfl (Nat.le_of_ble_eq_true rfl) ⟨Nat.le_of_ble_eq_true rfl, Nat.le_of_ble_eq_true rfl⟩ ⟨Nat.le_of_ble_eq_true rfl, Nat.le_of_ble_eq_true rfl⟩ (fun zu75 H locs hw75 hP9 hD9 hS9 => ?_)
              clear hP hD hS
              obtain ⟨n2_76, fc2_77⟩ := zu75
              refine reW [wO d0 10 [.ref t0, .ref d1, .ref h0, .ref f0, .int (nI ow2_45), .int wt, .int dt, .int vv, .int fq2_43, .int pq2_44], wO t0 9 [.ref t1, .ref t2, .int (nI tn), .int (nI ta2_38), .int (nI ts2_39), .int (nI tk2_40), .long tm2_41, .int tr2_42], wI (cy 0) t1 1600 (fby), (t2, .inl (cy 2, 24, .inr (.inl (fky)))), wO h0 4 [.ref h1, .ref h2, .ref h3, .ref h4, .ref h5, .ref h6, .ref h7, .ref h8, .ref h9, .ref h10, .ref h11, hv0, hv1, hv2, hv3, .int (nI un2_46)], wO f0 3 [.ref f1, .ref f2, .int (nI n2_76), y3], wI (cy 1) f1 280 (fc2_77)] hP9 hD9 hS9 (fun hP hD hS => ?_)
              clear hP9 hD9 hS9
              refine W.widen (k := 0) (n := 0) (Nat.le_of_ble_eq_true rfl) (Nat.le_of_ble_eq_true rfl) ?_
              replace hw75 : (n2_76 ≤ 280) ∧ (cOK fc2_77 n2_76) := hw75
              obtain ⟨f_78, f_79⟩ := hw75
              refine lv_iinc (v := nI (i22 + 1)) (lv' := [(3, .int (nI (i22 + 1))), (2, .int 0), (0, .ref d0), (1, .int 6)]) hx hb dX10_takeEither_53 hl (k := 1) rfl (nI_add i22 1) (by decide) rfl (fun ls hl => ?_)
              refine lv_goto (tgt := 8) hx hb dX10_takeEither_56 (by decide) ?_
              exact ih22  0 ((i22 + 1)) ta2_38 ts2_39 tk2_40 tm2_41 tr2_42 ow2_45 fq2_43 pq2_44 un2_46 n2_76 ga2_49 ([]) fc2_77 f_79 (by omega) (by omega) (by omega) (by omega) (by omega) (by omega) (Or.inr ⟨rfl, inS_bad lvP12 hin9 hop.1 hop.2 a_66, a_67⟩) (by omega) _ _ (hP.sub [0, 1, 2, 3, 4, 5, 6] rfl) (hD.sub [0, 1, 2, 3, 4, 5, 6] (by decide +kernel) rfl) hS ls (lv_sub hl [0, 1, 2, 3] rfl)
      · subst hlb
        refine lv_iload_n hx hb dX10_takeEither_8 rfl (lv_at hl 0 rfl) ?_
        refine lv_sipush (v := 1600) hx hb dX10_takeEither_9 (by decide) ?_
        refine lv_icmp_ge (tgt := 59) hx hb dX10_takeEither_12 (by decide) (fun c_80 => ?_) (fun c_80 => ?_)
        · have q_81 : 1600 ≤ i22 := q_le (a := 1600) (b := i22) rfl rfl (by omega) (by omega) c_80
          refine lv_iload_n hx hb dX10_takeEither_59 rfl (lv_at hl 1 rfl) ?_
          exact x_zret hQ hx hb hr hlocks hK hP hD hS rfl dX10_takeEither_60 (aq22, sq22, kq22, fl5_22, rq22, fz22, pz22, oq22, uq22, nq22, fa14_22, gq22, []) (⟨(show aq22 ≤ tn from by omega), (show kq22 ≤ 123 from by omega), (show nq22 ≤ 280 from by omega), ha15_22, (show oq22 ≤ 30 from by omega), (show uq22 ≤ 60 from by omega), (show ((0 : Int32) = 1 ∧ (okS (knd fby tn) (fin fby tn) (cdF fby tn) 1 6 ga ow un gq22 oq22 uq22 ([])) ∧ (fq = fz22) ∧ (pq = pz22) ∧ (tkC fby tn gq22 aq22 sq22 kq22 fl5_22 rq22) ∧ (ga < gq22 ∧ gq22 ≤ tn) ∧ (exC fco nf fa14_22 nq22 ([])) ∧ (nq22 + 3 * ow + 1 ≤ nf + 3 * oq22 ∧ ow < oq22)) ∨ ((0 : Int32) = 0 ∧ (noS (knd fby tn) (fin fby tn) 1 6 ga ow un gq22) ∧ (flt fby tn gq22 2 fz22 pz22)) from Or.inr (⟨rfl, (hno9), (hfl9)⟩))⟩) [0, 1, 2, 3, 4, 5, 6] (by decide +kernel) rfl (Nat.le_of_ble_eq_true rfl) (Nat.le_of_ble_eq_true rfl)
        · have q_81 : i22 < 1600 := q_nle (a := 1600) (b := i22) rfl rfl (by omega) (by omega) c_80
          refine lv_iload_n hx hb dX10_takeEither_15 rfl (lv_at hl 1 rfl) ?_
          refine lv_if_eq (tgt := 59) hx hb dX10_takeEither_16 (by decide) (fun _ => ?_) (fun h => absurd (by decide) h)
          refine lv_iload_n hx hb dX10_takeEither_59 rfl (lv_at hl 1 rfl) ?_
          exact x_zret hQ hx hb hr hlocks hK hP hD hS rfl dX10_takeEither_60 (aq22, sq22, kq22, fl5_22, rq22, fz22, pz22, oq22, uq22, nq22, fa14_22, gq22, []) (⟨(show aq22 ≤ tn from by omega), (show kq22 ≤ 123 from by omega), (show nq22 ≤ 280 from by omega), ha15_22, (show oq22 ≤ 30 from by omega), (show uq22 ≤ 60 from by omega), (show ((0 : Int32) = 1 ∧ (okS (knd fby tn) (fin fby tn) (cdF fby tn) 1 6 ga ow un gq22 oq22 uq22 ([])) ∧ (fq = fz22) ∧ (pq = pz22) ∧ (tkC fby tn gq22 aq22 sq22 kq22 fl5_22 rq22) ∧ (ga < gq22 ∧ gq22 ≤ tn) ∧ (exC fco nf fa14_22 nq22 ([])) ∧ (nq22 + 3 * ow + 1 ≤ nf + 3 * oq22 ∧ ow < oq22)) ∨ ((0 : Int32) = 0 ∧ (noS (knd fby tn) (fin fby tn) 1 6 ga ow un gq22) ∧ (flt fby tn gq22 2 fz22 pz22)) from Or.inr (⟨rfl, (hno9), (hfl9)⟩))⟩) [0, 1, 2, 3, 4, 5, 6] (by decide +kernel) rfl (Nat.le_of_ble_eq_true rfl) (Nat.le_of_ble_eq_true rfl)
  exact loop22 _ zr1 0 ta2_2 ts2_3 tk2_4 tm2_5 tr2_6 ow2_9 fq2_7 pq2_8 un2_10 nf2_11 ga2_13 nw2_14 fco2_12 f_18 (by omega) (by omega) (by omega) (by omega) (by omega) (by omega) (by rcases f_21 with ⟨hx0, hxk, hxq, hxp, hxt, hxg, hxe, hxm⟩ | ⟨hx0, hxn, hxl⟩; exact Or.inl ⟨hx0, inS_0 lvP12 hxk, hxt, hxg.1, hxg.2, by omega, hxq, hxp, hxe, hxm.1, hxm.2⟩; exact Or.inr ⟨hx0, noS_0 lvP12 hxn, hxl⟩) (Nat.le_refl _) _ _ (hP.sub [0, 1, 2, 3, 4, 5, 6] rfl) (hD.sub [0, 1, 2, 3, 4, 5, 6] (by decide +kernel) rfl) hS ls (lv_sub hl [0, 1, 2, 3] rfl)
