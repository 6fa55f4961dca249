def mL11 : List (Option Cond) := [some (Cond.selects RX8 yX8_canBeAt yX8_canBeAt), some (Cond.selects RX8 yX8_counts yX8_counts), some (Cond.selects RX8 yX8_sentTo yX8_sentTo), some (Cond.selects RX8 yX8_mostLeftBehind yX8_mostLeftBehind), some (Cond.initialized RX8), some (Cond.fieldLink RX8 79 "CliffJudges$Hills" "counts" "[I"), some (Cond.fieldLink RX8 54 "CliffJudges$Hills" "cliffSnow" "[I"), some (Cond.fieldLink RX8 51 "CliffJudges$Hills" "wind" "I"), some (Cond.fieldLink RX8 9 "CliffJudges$Sounds" "cliffs" "[I"), some (Cond.fieldLink RX8 15 "CliffJudges$Sounds" "lengths" "[I"), some (Cond.fieldLink RX8 18 "CliffJudges$Sounds" "came" "[I"), some (Cond.fieldLink RX8 21 "CliffJudges$Sounds" "toldAt" "[I"), some (Cond.fieldLink RX8 24 "CliffJudges$Sounds" "untoldAt" "[I"), some (Cond.fieldLink RX8 27 "CliffJudges$Sounds" "left" "[I"), some (Cond.fieldLink RX8 30 "CliffJudges$Sounds" "leftBy" "[I"), some (Cond.fieldLink RX8 35 "CliffJudges$Sounds" "facts" "[I"), some (Cond.fieldLink RX8 38 "CliffJudges$Sounds" "count" "I"), some (Cond.fieldLink RX8 42 "CliffJudges$Sounds" "time" "I"), some (Cond.fieldLink RX8 61 "CliffJudges$Sounds" "leftCount" "I"), some (Cond.fieldLink RX8 85 "CliffJudges$Sounds" "question" "I"), some (Cond.fieldLink RX8 76 "CliffJudges$Sounds" "mostLeft" "I"), some (Cond.methodLink RX8 64 yX8_canBeAt), some (Cond.instanceMethod yX8_canBeAt), some (Cond.code yX8_canBeAt cX8_canBeAt 5 (some .boolean)), some (Cond.methodLink RX8 68 yX8_counts), some (Cond.instanceMethod yX8_counts), some (Cond.code yX8_counts cX8_counts 4 (some .boolean)), some (Cond.methodLink RX8 72 yX8_sentTo), some (Cond.instanceMethod yX8_sentTo), some (Cond.code yX8_sentTo cX8_sentTo 5 (some .int)), some (Cond.methodLink RX8 45 yX4_far), some (Cond.methodLink RX8 57 yX4_comes), some (Cond.methodLink RX8 81 yX8_mostLeftBehind), some (Cond.instanceMethod yX8_mostLeftBehind), some (Cond.code yX8_mostLeftBehind cX8_mostLeftBehind 7 (some .int)), some (Cond.methodLink RX8 88 yJ9_max_7cf53)]
set_option maxRecDepth 100000 in
theorem mP11 : pick [59, 1, 1, 1, 78, 197, 10, 29, 78, 1, 1, 1, 1, 1, 1, 1, 1, 2, 2, 2, 2, 879, 2, 1, 1, 2, 1, 1, 2, 1, 1, 1, 17, 2, 1, 1] lw_tbl = mL11 := rfl
set_option maxRecDepth 100000 in
theorem mG11 : mL11.all (fun o => o.all goodWord) = true := rfl
theorem m_59 : (Cond.selects RX8 yX8_canBeAt yX8_canBeAt) ∈ gT := gp mP11 mG11 0 rfl
theorem m_60 : (Cond.selects RX8 yX8_counts yX8_counts) ∈ gT := gp mP11 mG11 1 rfl
theorem m_61 : (Cond.selects RX8 yX8_sentTo yX8_sentTo) ∈ gT := gp mP11 mG11 2 rfl
theorem m_62 : (Cond.selects RX8 yX8_mostLeftBehind yX8_mostLeftBehind) ∈ gT := gp mP11 mG11 3 rfl
theorem m_140 : (Cond.initialized RX8) ∈ gT := gp mP11 mG11 4 rfl
theorem m_337 : (Cond.fieldLink RX8 79 "CliffJudges$Hills" "counts" "[I") ∈ gT := gp mP11 mG11 5 rfl
theorem m_347 : (Cond.fieldLink RX8 54 "CliffJudges$Hills" "cliffSnow" "[I") ∈ gT := gp mP11 mG11 6 rfl
theorem m_376 : (Cond.fieldLink RX8 51 "CliffJudges$Hills" "wind" "I") ∈ gT := gp mP11 mG11 7 rfl
theorem m_454 : (Cond.fieldLink RX8 9 "CliffJudges$Sounds" "cliffs" "[I") ∈ gT := gp mP11 mG11 8 rfl
theorem m_455 : (Cond.fieldLink RX8 15 "CliffJudges$Sounds" "lengths" "[I") ∈ gT := gp mP11 mG11 9 rfl
theorem m_456 : (Cond.fieldLink RX8 18 "CliffJudges$Sounds" "came" "[I") ∈ gT := gp mP11 mG11 10 rfl
theorem m_457 : (Cond.fieldLink RX8 21 "CliffJudges$Sounds" "toldAt" "[I") ∈ gT := gp mP11 mG11 11 rfl
theorem m_458 : (Cond.fieldLink RX8 24 "CliffJudges$Sounds" "untoldAt" "[I") ∈ gT := gp mP11 mG11 12 rfl
theorem m_459 : (Cond.fieldLink RX8 27 "CliffJudges$Sounds" "left" "[I") ∈ gT := gp mP11 mG11 13 rfl
theorem m_460 : (Cond.fieldLink RX8 30 "CliffJudges$Sounds" "leftBy" "[I") ∈ gT := gp mP11 mG11 14 rfl
theorem m_461 : (Cond.fieldLink RX8 35 "CliffJudges$Sounds" "facts" "[I") ∈ gT := gp mP11 mG11 15 rfl
theorem m_462 : (Cond.fieldLink RX8 38 "CliffJudges$Sounds" "count" "I") ∈ gT := gp mP11 mG11 16 rfl
theorem m_464 : (Cond.fieldLink RX8 42 "CliffJudges$Sounds" "time" "I") ∈ gT := gp mP11 mG11 17 rfl
theorem m_466 : (Cond.fieldLink RX8 61 "CliffJudges$Sounds" "leftCount" "I") ∈ gT := gp mP11 mG11 18 rfl
theorem m_468 : (Cond.fieldLink RX8 85 "CliffJudges$Sounds" "question" "I") ∈ gT := gp mP11 mG11 19 rfl
theorem m_470 : (Cond.fieldLink RX8 76 "CliffJudges$Sounds" "mostLeft" "I") ∈ gT := gp mP11 mG11 20 rfl
theorem m_1349 : (Cond.methodLink RX8 64 yX8_canBeAt) ∈ gT := gp mP11 mG11 21 rfl
theorem m_1351 : (Cond.instanceMethod yX8_canBeAt) ∈ gT := gp mP11 mG11 22 rfl
theorem m_1352 : (Cond.code yX8_canBeAt cX8_canBeAt 5 (some .boolean)) ∈ gT := gp mP11 mG11 23 rfl
theorem m_1353 : (Cond.methodLink RX8 68 yX8_counts) ∈ gT := gp mP11 mG11 24 rfl
theorem m_1355 : (Cond.instanceMethod yX8_counts) ∈ gT := gp mP11 mG11 25 rfl
theorem m_1356 : (Cond.code yX8_counts cX8_counts 4 (some .boolean)) ∈ gT := gp mP11 mG11 26 rfl
theorem m_1357 : (Cond.methodLink RX8 72 yX8_sentTo) ∈ gT := gp mP11 mG11 27 rfl
theorem m_1359 : (Cond.instanceMethod yX8_sentTo) ∈ gT := gp mP11 mG11 28 rfl
theorem m_1360 : (Cond.code yX8_sentTo cX8_sentTo 5 (some .int)) ∈ gT := gp mP11 mG11 29 rfl
theorem m_1361 : (Cond.methodLink RX8 45 yX4_far) ∈ gT := gp mP11 mG11 30 rfl
theorem m_1362 : (Cond.methodLink RX8 57 yX4_comes) ∈ gT := gp mP11 mG11 31 rfl
theorem m_1379 : (Cond.methodLink RX8 81 yX8_mostLeftBehind) ∈ gT := gp mP11 mG11 32 rfl
theorem m_1381 : (Cond.instanceMethod yX8_mostLeftBehind) ∈ gT := gp mP11 mG11 33 rfl
theorem m_1382 : (Cond.code yX8_mostLeftBehind cX8_mostLeftBehind 7 (some .int)) ∈ gT := gp mP11 mG11 34 rfl
theorem m_1383 : (Cond.methodLink RX8 88 yJ9_max_7cf53) ∈ gT := gp mP11 mG11 35 rfl
theorem gdX8_forget_0 : decode cX8_forget 0 = .ok (.aload_n 0, 1) ∧ decode cX8_forget 1 = .ok (.iconst 0, 1) ∧ decode cX8_forget 2 = .ok (.putfield 38, 3) := by decide +kernel
theorem dX8_forget_0 : decode cX8_forget 0 = .ok (.aload_n 0, 1) := gdX8_forget_0.1
theorem dX8_forget_1 : decode cX8_forget 1 = .ok (.iconst 0, 1) := gdX8_forget_0.2.1
theorem dX8_forget_2 : decode cX8_forget 2 = .ok (.putfield 38, 3) := gdX8_forget_0.2.2
set_option maxRecDepth 20000 in
theorem i_X8 : ∀ w ∈ u_ws RX8 TX8 13, w ∈ gT := gin [472, 474, 476, 478, 480, 482, 484, 486, 488, 490, 492, 494, 496] (by decide +kernel) (by decide +kernel)
theorem dX8_forget_5 : decode cX8_forget 5 = .ok (.return_, 1) := by decide +kernel
set_option maxHeartbeats 1000000 in
set_option maxRecDepth 100000 in
theorem s_forget (l : Launch) (D : va_G) (cy : Nat → ClassId) (u0 : Nat) (u1 : Nat) (u2 : Nat) (u3 : Nat) (u4 : Nat) (u5 : Nat) (u6 : Nat) (u7 : Nat) (u8 : Nat) (uc : Nat) (ut : Int32) (lc : Nat) (qu : Int32) (ml : Int32)  : XMv l D (tyL cy) E0 yX8_forget cX8_forget 1 none (rmk 0 0 0) [.ref u0] [wO u0 8 [.ref u1, .ref u2, .ref u3, .ref u4, .ref u5, .ref u6, .ref u7, .ref u8, .int (nI uc), .int ut, .int (nI lc), .int qu, .int ml]] (fun (_ : Unit) => True) (fun (_ : Unit) => [wO u0 8 [.ref u1, .ref u2, .ref u3, .ref u4, .ref u5, .ref u6, .ref u7, .ref u8, .int 0, .int ut, .int (nI lc), .int qu, .int ml]]) := by
  refine XMv.start (by decide) (Nat.le_of_ble_eq_true rfl) ?_
  intro p e s m below meth c args A ls Q hat hQ
  obtain ⟨hx, hb, hr, hml, hown, hg, hlocks, hin, hK, hA, hP, hD, hS, hE, hl⟩ := hat
  have hown : s.vm.findClass RX8 = some m.cls := hown
  have hl : lv_has ls 1 [(0, .ref u0)] := hl
  refine lv_aload_n hx hb dX8_forget_0 rfl (lv_at hl 0 rfl) ?_
  refine lv_iconst (v := 0) hx hb dX8_forget_1 (by decide) ?_
  refine va_put (D := D) (ci := 8) (v := .int 0) (ty := .int) (C := RX8) (T := TX8) (N := 13) hx hb hg i_X8 tyX8 tyX8_ok nmX8 hown hK hP hD hS 0 rfl rfl 8 (by decide) (hg _ m_462) (fun _ h9 => h9) rfl (by decide +kernel) rfl rfl (Nat.le_of_ble_eq_true rfl) dX8_forget_2 (fun H locs hP9 hD9 hS9 => ?_)
  clear hP hD hS
  refine reW [wO u0 8 [.ref u1, .ref u2, .ref u3, .ref u4, .ref u5, .ref u6, .ref u7, .ref u8, .int 0, .int ut, .int (nI lc), .int qu, .int ml]] hP9 hD9 hS9 (fun hP hD hS => ?_)
  clear hP9 hD9 hS9
  exact x_vret hQ hx hb hr hlocks hK hP hD hS dX8_forget_5 () (trivial) [0] (by decide +kernel) rfl (Nat.le_of_ble_eq_true rfl) (Nat.le_of_ble_eq_true rfl)
/-- a SOUND is told: where it goes, and what comes of it -/
def adS (uc : Nat) (f1 f2 f3 f4 f5 : Nat → Int32) (t x y z r : Int32) (uc2 : Nat) (g1 g2 g3 g4 g5 : Nat → Int32) : Prop :=
  (30 ≤ uc ∧ r = -1 ∧ uc2 = uc ∧ g1 = f1 ∧ g2 = f2 ∧ g3 = f3 ∧ g4 = f4 ∧ g5 = f5) ∨ (uc < 30 ∧ r = nI uc ∧ uc2 = uc + 1 ∧ g1 = upd f1 uc x ∧ g2 = upd f2 uc y ∧ g3 = upd f3 uc z ∧ g4 = upd f4 uc t ∧ g5 = upd f5 uc (-1))
/-- a SOUND is taken back -/
def unS (P : Int32 → Prop) (uc : Nat) (f5 : Nat → Int32) (t x r : Int32) (g5 : Nat → Int32) : Prop := (r = 0 ∧ g5 = f5 ∧ ¬ ∃ j : Nat, j < uc ∧ x = nI j ∧ P (f5 j)) ∨ (r = 1 ∧ ∃ j : Nat, j < uc ∧ x = nI j ∧ P (f5 j) ∧ g5 = upd f5 j t)
theorem un_out {P : Int32 → Prop} {uc : Nat} {f5 : Nat → Int32} {x : Int32} (h : ¬ inR x uc) : ¬ ∃ j : Nat, j < uc ∧ x = nI j ∧ P (f5 j) := fun ⟨j, h1, h2, _⟩ => h ⟨j, h1, h2⟩
theorem un_no {P : Int32 → Prop} {uc jx : Nat} {f5 : Nat → Int32} {x : Int32} (hj : jx < uc) (hu : uc ≤ 30) (ex : x = f5 (nI jx).toNatClampNeg) (h : ¬ P x) : ¬ ∃ j : Nat, j < uc ∧ nI jx = nI j ∧ P (f5 j) := fun ⟨j, h1, h2, h3⟩ => by
  have e := nI_inj (by omega) (by omega) h2
  subst e
  rw [nI_clamp (by omega)] at ex
  exact h (ex ▸ h3)
theorem un_yes {P : Int32 → Prop} {uc jx : Nat} {f5 g5 : Nat → Int32} {x t : Int32} (hj : jx < uc) (hu : uc ≤ 30) (ex : x = f5 (nI jx).toNatClampNeg) (h : P x) (eg : upd f5 (nI jx).toNatClampNeg t = g5) : ∃ j : Nat, j < uc ∧ nI jx = nI j ∧ P (f5 j) ∧ g5 = upd f5 j t := by
  rw [nI_clamp (by omega)] at ex eg
  exact ⟨jx, hj, rfl, ex ▸ h, eg.symm⟩
theorem gdX8_add_0 : decode cX8_add 0 = .ok (.aload_n 0, 1) ∧ decode cX8_add 1 = .ok (.getfield 38, 3) ∧ decode cX8_add 4 = .ok (.bipush 30, 2) ∧ decode cX8_add 6 = .ok (.if_icmp .lt 5, 3) ∧ decode cX8_add 11 = .ok (.aload_n 0, 1) ∧ decode cX8_add 12 = .ok (.getfield 38, 3) ∧ decode cX8_add 15 = .ok (.istore 4, 2) ∧ decode cX8_add 17 = .ok (.aload_n 0, 1) ∧ decode cX8_add 18 = .ok (.getfield 9, 3) ∧ decode cX8_add 21 = .ok (.iload 4, 2) ∧ decode cX8_add 23 = .ok (.iload_n 1, 1) ∧ decode cX8_add 24 = .ok (.iastore, 1) := by decide +kernel
theorem dX8_add_0 : decode cX8_add 0 = .ok (.aload_n 0, 1) := gdX8_add_0.1
theorem dX8_add_1 : decode cX8_add 1 = .ok (.getfield 38, 3) := gdX8_add_0.2.1
theorem dX8_add_4 : decode cX8_add 4 = .ok (.bipush 30, 2) := gdX8_add_0.2.2.1
theorem dX8_add_6 : decode cX8_add 6 = .ok (.if_icmp .lt 5, 3) := gdX8_add_0.2.2.2.1
theorem dX8_add_11 : decode cX8_add 11 = .ok (.aload_n 0, 1) := gdX8_add_0.2.2.2.2.1
theorem dX8_add_12 : decode cX8_add 12 = .ok (.getfield 38, 3) := gdX8_add_0.2.2.2.2.2.1
theorem dX8_add_15 : decode cX8_add 15 = .ok (.istore 4, 2) := gdX8_add_0.2.2.2.2.2.2.1
theorem dX8_add_17 : decode cX8_add 17 = .ok (.aload_n 0, 1) := gdX8_add_0.2.2.2.2.2.2.2.1
theorem dX8_add_18 : decode cX8_add 18 = .ok (.getfield 9, 3) := gdX8_add_0.2.2.2.2.2.2.2.2.1
theorem dX8_add_21 : decode cX8_add 21 = .ok (.iload 4, 2) := gdX8_add_0.2.2.2.2.2.2.2.2.2.1
theorem dX8_add_23 : decode cX8_add 23 = .ok (.iload_n 1, 1) := gdX8_add_0.2.2.2.2.2.2.2.2.2.2.1
theorem dX8_add_24 : decode cX8_add 24 = .ok (.iastore, 1) := gdX8_add_0.2.2.2.2.2.2.2.2.2.2.2
theorem gdX8_add_25 : decode cX8_add 25 = .ok (.aload_n 0, 1) ∧ decode cX8_add 26 = .ok (.getfield 15, 3) ∧ decode cX8_add 29 = .ok (.iload 4, 2) ∧ decode cX8_add 31 = .ok (.iload_n 2, 1) ∧ decode cX8_add 32 = .ok (.iastore, 1) ∧ decode cX8_add 33 = .ok (.aload_n 0, 1) ∧ decode cX8_add 34 = .ok (.getfield 18, 3) ∧ decode cX8_add 37 = .ok (.iload 4, 2) ∧ decode cX8_add 39 = .ok (.iload_n 3, 1) ∧ decode cX8_add 40 = .ok (.iastore, 1) ∧ decode cX8_add 41 = .ok (.aload_n 0, 1) ∧ decode cX8_add 42 = .ok (.getfield 21, 3) := by decide +kernel
theorem dX8_add_25 : decode cX8_add 25 = .ok (.aload_n 0, 1) := gdX8_add_25.1
theorem dX8_add_26 : decode cX8_add 26 = .ok (.getfield 15, 3) := gdX8_add_25.2.1
theorem dX8_add_29 : decode cX8_add 29 = .ok (.iload 4, 2) := gdX8_add_25.2.2.1
theorem dX8_add_31 : decode cX8_add 31 = .ok (.iload_n 2, 1) := gdX8_add_25.2.2.2.1
theorem dX8_add_32 : decode cX8_add 32 = .ok (.iastore, 1) := gdX8_add_25.2.2.2.2.1
theorem dX8_add_33 : decode cX8_add 33 = .ok (.aload_n 0, 1) := gdX8_add_25.2.2.2.2.2.1
theorem dX8_add_34 : decode cX8_add 34 = .ok (.getfield 18, 3) := gdX8_add_25.2.2.2.2.2.2.1
theorem dX8_add_37 : decode cX8_add 37 = .ok (.iload 4, 2) := gdX8_add_25.2.2.2.2.2.2.2.1
theorem dX8_add_39 : decode cX8_add 39 = .ok (.iload_n 3, 1) := gdX8_add_25.2.2.2.2.2.2.2.2.1
theorem dX8_add_40 : decode cX8_add 40 = .ok (.iastore, 1) := gdX8_add_25.2.2.2.2.2.2.2.2.2.1
theorem dX8_add_41 : decode cX8_add 41 = .ok (.aload_n 0, 1) := gdX8_add_25.2.2.2.2.2.2.2.2.2.2.1
theorem dX8_add_42 : decode cX8_add 42 = .ok (.getfield 21, 3) := gdX8_add_25.2.2.2.2.2.2.2.2.2.2.2
theorem gdX8_add_45 : decode cX8_add 45 = .ok (.iload 4, 2) ∧ decode cX8_add 47 = .ok (.aload_n 0, 1) ∧ decode cX8_add 48 = .ok (.getfield 42, 3) ∧ decode cX8_add 51 = .ok (.iastore, 1) ∧ decode cX8_add 52 = .ok (.aload_n 0, 1) ∧ decode cX8_add 53 = .ok (.getfield 24, 3) ∧ decode cX8_add 56 = .ok (.iload 4, 2) ∧ decode cX8_add 58 = .ok (.iconst (-1), 1) ∧ decode cX8_add 59 = .ok (.iastore, 1) ∧ decode cX8_add 60 = .ok (.aload_n 0, 1) ∧ decode cX8_add 61 = .ok (.dup, 1) ∧ decode cX8_add 62 = .ok (.getfield 38, 3) := by decide +kernel
theorem dX8_add_45 : decode cX8_add 45 = .ok (.iload 4, 2) := gdX8_add_45.1
theorem dX8_add_47 : decode cX8_add 47 = .ok (.aload_n 0, 1) := gdX8_add_45.2.1
theorem dX8_add_48 : decode cX8_add 48 = .ok (.getfield 42, 3) := gdX8_add_45.2.2.1
theorem dX8_add_51 : decode cX8_add 51 = .ok (.iastore, 1) := gdX8_add_45.2.2.2.1
theorem dX8_add_52 : decode cX8_add 52 = .ok (.aload_n 0, 1) := gdX8_add_45.2.2.2.2.1
theorem dX8_add_53 : decode cX8_add 53 = .ok (.getfield 24, 3) := gdX8_add_45.2.2.2.2.2.1
theorem dX8_add_56 : decode cX8_add 56 = .ok (.iload 4, 2) := gdX8_add_45.2.2.2.2.2.2.1
theorem dX8_add_58 : decode cX8_add 58 = .ok (.iconst (-1), 1) := gdX8_add_45.2.2.2.2.2.2.2.1
theorem dX8_add_59 : decode cX8_add 59 = .ok (.iastore, 1) := gdX8_add_45.2.2.2.2.2.2.2.2.1
theorem dX8_add_60 : decode cX8_add 60 = .ok (.aload_n 0, 1) := gdX8_add_45.2.2.2.2.2.2.2.2.2.1
theorem dX8_add_61 : decode cX8_add 61 = .ok (.dup, 1) := gdX8_add_45.2.2.2.2.2.2.2.2.2.2.1
theorem dX8_add_62 : decode cX8_add 62 = .ok (.getfield 38, 3) := gdX8_add_45.2.2.2.2.2.2.2.2.2.2.2
theorem gdX8_add_65 : decode cX8_add 65 = .ok (.iconst 1, 1) ∧ decode cX8_add 66 = .ok (.iadd, 1) ∧ decode cX8_add 67 = .ok (.putfield 38, 3) ∧ decode cX8_add 70 = .ok (.iload 4, 2) ∧ decode cX8_add 72 = .ok (.ireturn, 1) ∧ decode cX8_add 9 = .ok (.iconst (-1), 1) ∧ decode cX8_add 10 = .ok (.ireturn, 1) := by decide +kernel
theorem dX8_add_65 : decode cX8_add 65 = .ok (.iconst 1, 1) := gdX8_add_65.1
theorem dX8_add_66 : decode cX8_add 66 = .ok (.iadd, 1) := gdX8_add_65.2.1
theorem dX8_add_67 : decode cX8_add 67 = .ok (.putfield 38, 3) := gdX8_add_65.2.2.1
theorem dX8_add_70 : decode cX8_add 70 = .ok (.iload 4, 2) := gdX8_add_65.2.2.2.1
theorem dX8_add_72 : decode cX8_add 72 = .ok (.ireturn, 1) := gdX8_add_65.2.2.2.2.1
theorem dX8_add_9 : decode cX8_add 9 = .ok (.iconst (-1), 1) := gdX8_add_65.2.2.2.2.2.1
theorem dX8_add_10 : decode cX8_add 10 = .ok (.ireturn, 1) := gdX8_add_65.2.2.2.2.2.2
set_option maxHeartbeats 1000000 in
set_option maxRecDepth 100000 in
theorem s_addSound (l : Launch) (D : va_G) (cy : Nat → ClassId) (u0 : Nat) (u1 : Nat) (u2 : Nat) (u3 : Nat) (u4 : Nat) (u5 : Nat) (u6 : Nat) (u7 : Nat) (u8 : Nat) (uc : Nat) (ut : Int32) (lc : Nat) (qu : Int32) (ml : Int32) (fu1 : Nat → Int32) (fu2 : Nat → Int32) (fu3 : Nat → Int32) (fu4 : Nat → Int32) (fu5 : Nat → Int32) (j : Nat) (mm : Nat) (ca : Int32) (huc : uc ≤ 30) (hlc : lc ≤ 100) (hu1 : rng fu1 30 3) (hu2 : rng fu2 30 10) (hj : j < 4) (hmm : mm ≤ 10) : XMi l D (tyL cy) E0 yX8_add cX8_add 5 (some .int) (rmk 0 0 0) [.ref u0, .int (nI j), .int (nI mm), .int ca] [wO u0 8 [.ref u1, .ref u2, .ref u3, .ref u4, .ref u5, .ref u6, .ref u7, .ref u8, .int (nI uc), .int ut, .int (nI lc), .int qu, .int ml], wI (cy 1) u1 30 (fu1), wI (cy 1) u2 30 (fu2), wI (cy 1) u3 30 (fu3), wI (cy 1) u4 30 (fu4), wI (cy 1) u5 30 (fu5)] (fun (r : Int32) (u : Nat × (Nat → Int32) × (Nat → Int32) × (Nat → Int32) × (Nat → Int32) × (Nat → Int32)) => (u.1 ≤ 30) ∧ (rng u.2.1 30 3) ∧ (rng u.2.2.1 30 10) ∧ (adS uc fu1 fu2 fu3 fu4 fu5 ut (nI j) (nI mm) ca r u.1 u.2.1 u.2.2.1 u.2.2.2.1 u.2.2.2.2.1 u.2.2.2.2.2)) (fun (u : Nat × (Nat → Int32) × (Nat → Int32) × (Nat → Int32) × (Nat → Int32) × (Nat → Int32)) => [wO u0 8 [.ref u1, .ref u2, .ref u3, .ref u4, .ref u5, .ref u6, .ref u7, .ref u8, .int (nI u.1), .int ut, .int (nI lc), .int qu, .int ml], wI (cy 1) u1 30 (u.2.1), wI (cy 1) u2 30 (u.2.2.1), wI (cy 1) u3 30 (u.2.2.2.1), wI (cy 1) u4 30 (u.2.2.2.2.1), wI (cy 1) u5 30 (u.2.2.2.2.2)]) := by
  refine XMi.start (by decide) (Nat.le_of_ble_eq_true rfl) ?_
  intro p e s m below meth c args A ls Q hat hQ
  obtain ⟨hx, hb, hr, hml, hown, hg, hlocks, hin, hK, hA, hP, hD, hS, hE, hl⟩ := hat
  have hown : s.vm.findClass RX8 = some m.cls := hown
  have hl : lv_has ls 5 [(0, .ref u0), (1, .int (nI j)), (2, .int (nI mm)), (3, .int ca)] := hl
  refine lv_aload_n hx hb dX8_add_0 rfl (lv_at hl 0 rfl) ?_
  refine va_get (D := D) (ci := 8) (v := .int (nI uc)) (C := RX8) (T := TX8) (N := 13) hx hb hg i_X8 hown hK hP 0 rfl rfl 8 (by decide) (hg _ m_462) (fun _ h9 => h9) rfl dX8_add_1 ?_
  refine lv_bipush (v := 30) hx hb dX8_add_4 (by decide) ?_
  refine lv_icmp_lt (tgt := 11) hx hb dX8_add_6 (by decide) (fun c_1 => ?_) (fun c_1 => ?_)
  · have q_2 : uc < 30 := q_lt (a := uc) (b := 30) rfl rfl (by omega) (by omega) c_1
    refine lv_aload_n hx hb dX8_add_11 rfl (lv_at hl 0 rfl) ?_
    refine va_get (D := D) (ci := 8) (v := .int (nI uc)) (C := RX8) (T := TX8) (N := 13) hx hb hg i_X8 hown hK hP 0 rfl rfl 8 (by decide) (hg _ m_462) (fun _ h9 => h9) rfl dX8_add_12 ?_
    refine lv_istore (lv' := [(4, .int (nI uc)), (0, .ref u0), (1, .int (nI j)), (2, .int (nI mm)), (3, .int ca)]) hx hb dX8_add_15 hl (by decide) rfl (fun ls hl => ?_)
    refine lv_aload_n hx hb dX8_add_17 rfl (lv_at hl 1 rfl) ?_
    refine va_get (D := D) (ci := 8) (v := .ref u1) (C := RX8) (T := TX8) (N := 13) hx hb hg i_X8 hown hK hP 0 rfl rfl 0 (by decide) (hg _ m_454) (fun _ h9 => h9) rfl dX8_add_18 ?_
    refine lv_iload hx hb dX8_add_21 (lv_at hl 0 rfl) ?_
    refine lv_iload_n hx hb dX8_add_23 rfl (lv_at hl 2 rfl) ?_
    refine va_iast hx hb hK hP hD hS 1 1 rfl rfl (vp_in_nI (by omega) (by decide)) dX8_add_24 (fun H locs hP9 hD9 hS9 => ?_)
    clear hP hD hS
    have hP := hP9
    have hD := hD9
    have hS := hS9
    clear hP9 hD9 hS9
    obtain ⟨g_3, eg_3⟩ : ∃ y, upd fu1 (nI uc : Int32).toNatClampNeg (nI j) = y := ⟨_, rfl⟩
    rw [eg_3] at hP hD
    have hr_4 : rng g_3 30 3 := eg_3 ▸ rng_put hu1 (j := j) (by omega)
    replace hP : va_P D vwCl [wO u0 8 [.ref u1, .ref u2, .ref u3, .ref u4, .ref u5, .ref u6, .ref u7, .ref u8, .int (nI uc), .int ut, .int (nI lc), .int qu, .int ml], wI (cy 1) u1 30 (g_3), wI (cy 1) u2 30 (fu2), wI (cy 1) u3 30 (fu3), wI (cy 1) u4 30 (fu4), wI (cy 1) u5 30 (fu5)] H := hP
    replace hD : va_D A [wO u0 8 [.ref u1, .ref u2, .ref u3, .ref u4, .ref u5, .ref u6, .ref u7, .ref u8, .int (nI uc), .int ut, .int (nI lc), .int qu, .int ml], wI (cy 1) u1 30 (g_3), wI (cy 1) u2 30 (fu2), wI (cy 1) u3 30 (fu3), wI (cy 1) u4 30 (fu4), wI (cy 1) u5 30 (fu5)] := hD
    refine lv_aload_n hx hb dX8_add_25 rfl (lv_at hl 1 rfl) ?_
    refine va_get (D := D) (ci := 8) (v := .ref u2) (C := RX8) (T := TX8) (N := 13) hx hb hg i_X8 hown hK hP 0 rfl rfl 1 (by decide) (hg _ m_455) (fun _ h9 => h9) rfl dX8_add_26 ?_
    refine lv_iload hx hb dX8_add_29 (lv_at hl 0 rfl) ?_
    refine lv_iload_n hx hb dX8_add_31 rfl (lv_at hl 3 rfl) ?_
    refine va_iast hx hb hK hP hD hS 2 1 rfl rfl (vp_in_nI (by omega) (by decide)) dX8_add_32 (fun H locs hP9 hD9 hS9 => ?_)
    clear hP hD hS
    have hP := hP9
    have hD := hD9
    have hS := hS9
    clear hP9 hD9 hS9
    obtain ⟨g_5, eg_5⟩ : ∃ y, upd fu2 (nI uc : Int32).toNatClampNeg (nI mm) = y := ⟨_, rfl⟩
    rw [eg_5] at hP hD
    have hr_6 : rng g_5 30 10 := eg_5 ▸ rng_put hu2 (j := mm) (by omega)
    replace hP : va_P D vwCl [wO u0 8 [.ref u1, .ref u2, .ref u3, .ref u4, .ref u5, .ref u6, .ref u7, .ref u8, .int (nI uc), .int ut, .int (nI lc), .int qu, .int ml], wI (cy 1) u1 30 (g_3), wI (cy 1) u2 30 (g_5), wI (cy 1) u3 30 (fu3), wI (cy 1) u4 30 (fu4), wI (cy 1) u5 30 (fu5)] H := hP
    replace hD : va_D A [wO u0 8 [.ref u1, .ref u2, .ref u3, .ref u4, .ref u5, .ref u6, .ref u7, .ref u8, .int (nI uc), .int ut, .int (nI lc), .int qu, .int ml], wI (cy 1) u1 30 (g_3), wI (cy 1) u2 30 (g_5), wI (cy 1) u3 30 (fu3), wI (cy 1) u4 30 (fu4), wI (cy 1) u5 30 (fu5)] := hD
    refine lv_aload_n hx hb dX8_add_33 rfl (lv_at hl 1 rfl) ?_
    refine va_get (D := D) (ci := 8) (v := .ref u3) (C := RX8) (T := TX8) (N := 13) hx hb hg i_X8 hown hK hP 0 rfl rfl 2 (by decide) (hg _ m_456) (fun _ h9 => h9) rfl dX8_add_34 ?_
    refine lv_iload hx hb dX8_add_37 (lv_at hl 0 rfl) ?_
    refine lv_iload_n hx hb dX8_add_39 rfl (lv_at hl 4 rfl) ?_
    refine va_iast hx hb hK hP hD hS 3 1 rfl rfl (vp_in_nI (by omega) (by decide)) dX8_add_40 (fun H locs hP9 hD9 hS9 => ?_)
    clear hP hD hS
    obtain ⟨g_7, eg_7⟩ : ∃ y, upd fu3 (nI uc : Int32).toNatClampNeg ca = y := ⟨_, rfl⟩
    rw [eg_7] at hP9 hD9
    refine reW [wO u0 8 [.ref u1, .ref u2, .ref u3, .ref u4, .ref u5, .ref u6, .ref u7, .ref u8, .int (nI uc), .int ut, .int (nI lc), .int qu, .int ml], wI (cy 1) u1 30 (g_3), wI (cy 1) u2 30 (g_5), wI (cy 1) u3 30 (g_7), wI (cy 1) u4 30 (fu4), wI (cy 1) u5 30 (fu5)] hP9 hD9 hS9 (fun hP hD hS => ?_)
    clear hP9 hD9 hS9
    refine lv_aload_n hx hb dX8_add_41 rfl (lv_at hl 1 rfl) ?_
    refine va_get (D := D) (ci := 8) (v := .ref u4) (C := RX8) (T := TX8) (N := 13) hx hb hg i_X8 hown hK hP 0 rfl rfl 3 (by decide) (hg _ m_457) (fun _ h9 => h9) rfl dX8_add_42 ?_
    refine lv_iload hx hb dX8_add_45 (lv_at hl 0 rfl) ?_
    refine lv_aload_n hx hb dX8_add_47 rfl (lv_at hl 1 rfl) ?_
    refine va_get (D := D) (ci := 8) (v := .int ut) (C := RX8) (T := TX8) (N := 13) hx hb hg i_X8 hown hK hP 0 rfl rfl 9 (by decide) (hg _ m_464) (fun _ h9 => h9) rfl dX8_add_48 ?_
    refine va_iast hx hb hK hP hD hS 4 1 rfl rfl (vp_in_nI (by omega) (by decide)) dX8_add_51 (fun H locs hP9 hD9 hS9 => ?_)
    clear hP hD hS
    obtain ⟨g_8, eg_8⟩ : ∃ y, upd fu4 (nI uc : Int32).toNatClampNeg ut = y := ⟨_, rfl⟩
    rw [eg_8] at hP9 hD9
    refine reW [wO u0 8 [.ref u1, .ref u2, .ref u3, .ref u4, .ref u5, .ref u6, .ref u7, .ref u8, .int (nI uc), .int ut, .int (nI lc), .int qu, .int ml], wI (cy 1) u1 30 (g_3), wI (cy 1) u2 30 (g_5), wI (cy 1) u3 30 (g_7), wI (cy 1) u4 30 (g_8), wI (cy 1) u5 30 (fu5)] hP9 hD9 hS9 (fun hP hD hS => ?_)
    clear hP9 hD9 hS9
    refine lv_aload_n hx hb dX8_add_52 rfl (lv_at hl 1 rfl) ?_
    refine va_get (D := D) (ci := 8) (v := .ref u5) (C := RX8) (T := TX8) (N := 13) hx hb hg i_X8 hown hK hP 0 rfl rfl 4 (by decide) (hg _ m_458) (fun _ h9 => h9) rfl dX8_add_53 ?_
    refine lv_iload hx hb dX8_add_56 (lv_at hl 0 rfl) ?_
    refine lv_iconst (v := -1) hx hb dX8_add_58 (by decide) ?_
    refine va_iast hx hb hK hP hD hS 5 1 rfl rfl (vp_in_nI (by omega) (by decide)) dX8_add_59 (fun H locs hP9 hD9 hS9 => ?_)
    clear hP hD hS
    obtain ⟨g_9, eg_9⟩ : ∃ y, upd fu5 (nI uc : Int32).toNatClampNeg (-1) = y := ⟨_, rfl⟩
    rw [eg_9] at hP9 hD9
    refine reW [wO u0 8 [.ref u1, .ref u2, .ref u3, .ref u4, .ref u5, .ref u6, .ref u7, .ref u8, .int (nI uc), .int ut, .int (nI lc), .int qu, .int ml], wI (cy 1) u1 30 (g_3), wI (cy 1) u2 30 (g_5), wI (cy 1) u3 30 (g_7), wI (cy 1) u4 30 (g_8), wI (cy 1) u5 30 (g_9)] hP9 hD9 hS9 (fun hP hD hS => ?_)
    clear hP9 hD9 hS9
    refine lv_aload_n hx hb dX8_add_60 rfl (lv_at hl 1 rfl) ?_
    refine lv_dup hx hb dX8_add_61 rfl ?_
    refine va_get (D := D) (ci := 8) (v := .int (nI uc)) (C := RX8) (T := TX8) (N := 13) hx hb hg i_X8 hown hK hP 0 rfl rfl 8 (by decide) (hg _ m_462) (fun _ h9 => h9) rfl dX8_add_62 ?_
    refine lv_iconst (v := 1) hx hb dX8_add_65 (by decide) ?_
    refine lv_iadd hx hb dX8_add_66 ?_
    refine lv_topi (fun y_10 hy_10 => ?_)
    obtain rfl : y_10 = nI (uc + 1) := hy_10.trans (nI_add uc 1)
    refine va_put (D := D) (ci := 8) (v := .int (nI (uc + 1))) (ty := .int) (C := RX8) (T := TX8) (N := 13) hx hb hg i_X8 tyX8 tyX8_ok nmX8 hown hK hP hD hS 0 rfl rfl 8 (by decide) (hg _ m_462) (fun _ h9 => h9) rfl (by decide +kernel) rfl rfl (Nat.le_of_ble_eq_true rfl) dX8_add_67 (fun H locs hP9 hD9 hS9 => ?_)
    clear hP hD hS
    refine reW [wO u0 8 [.ref u1, .ref u2, .ref u3, .ref u4, .ref u5, .ref u6, .ref u7, .ref u8, .int (nI (uc + 1)), .int ut, .int (nI lc), .int qu, .int ml], wI (cy 1) u1 30 (g_3), wI (cy 1) u2 30 (g_5), wI (cy 1) u3 30 (g_7), wI (cy 1) u4 30 (g_8), wI (cy 1) u5 30 (g_9)] hP9 hD9 hS9 (fun hP hD hS => ?_)
    clear hP9 hD9 hS9
    refine lv_iload hx hb dX8_add_70 (lv_at hl 0 rfl) ?_
    exact x_iret hQ hx hb hr hlocks hK hP hD hS dX8_add_72 ((uc + 1), g_3, g_5, g_7, g_8, g_9) (⟨(show ((uc + 1)) ≤ 30 from by omega), hr_4, hr_6, Or.inr ⟨by omega, rfl, rfl, by rw [← eg_3, nI_clamp (by omega)], by rw [← eg_5, nI_clamp (by omega)], by rw [← eg_7, nI_clamp (by omega)], by rw [← eg_8, nI_clamp (by omega)], by rw [← eg_9, nI_clamp (by omega)]⟩⟩) [0, 1, 2, 3, 4, 5] (by decide +kernel) rfl (Nat.le_of_ble_eq_true rfl) (Nat.le_of_ble_eq_true rfl)
  · have q_2 : 30 ≤ uc := q_nlt (a := uc) (b := 30) rfl rfl (by omega) (by omega) c_1
    refine lv_iconst (v := -1) hx hb dX8_add_9 (by decide) ?_
    exact x_iret hQ hx hb hr hlocks hK hP hD hS dX8_add_10 (uc, fu1, fu2, fu3, fu4, fu5) (⟨(show uc ≤ 30 from by omega), hu1, hu2, Or.inl ⟨by omega, rfl, rfl, rfl, rfl, rfl, rfl, rfl⟩⟩) [0, 1, 2, 3, 4, 5] (by decide +kernel) rfl (Nat.le_of_ble_eq_true rfl) (Nat.le_of_ble_eq_true rfl)
theorem gdX8_takeBack_0 : decode cX8_takeBack 0 = .ok (.iload_n 1, 1) ∧ decode cX8_takeBack 1 = .ok (.ifCond .lt 21, 3) ∧ decode cX8_takeBack 22 = .ok (.iconst 0, 1) ∧ decode cX8_takeBack 23 = .ok (.ireturn, 1) ∧ decode cX8_takeBack 4 = .ok (.iload_n 1, 1) ∧ decode cX8_takeBack 5 = .ok (.aload_n 0, 1) ∧ decode cX8_takeBack 6 = .ok (.getfield 38, 3) ∧ decode cX8_takeBack 9 = .ok (.if_icmp .ge 13, 3) ∧ decode cX8_takeBack 12 = .ok (.aload_n 0, 1) ∧ decode cX8_takeBack 13 = .ok (.getfield 24, 3) ∧ decode cX8_takeBack 16 = .ok (.iload_n 1, 1) ∧ decode cX8_takeBack 17 = .ok (.iaload, 1) := by decide +kernel
theorem dX8_takeBack_0 : decode cX8_takeBack 0 = .ok (.iload_n 1, 1) := gdX8_takeBack_0.1
theorem dX8_takeBack_1 : decode cX8_takeBack 1 = .ok (.ifCond .lt 21, 3) := gdX8_takeBack_0.2.1
theorem dX8_takeBack_22 : decode cX8_takeBack 22 = .ok (.iconst 0, 1) := gdX8_takeBack_0.2.2.1
theorem dX8_takeBack_23 : decode cX8_takeBack 23 = .ok (.ireturn, 1) := gdX8_takeBack_0.2.2.2.1
theorem dX8_takeBack_4 : decode cX8_takeBack 4 = .ok (.iload_n 1, 1) := gdX8_takeBack_0.2.2.2.2.1
theorem dX8_takeBack_5 : decode cX8_takeBack 5 = .ok (.aload_n 0, 1) := gdX8_takeBack_0.2.2.2.2.2.1
theorem dX8_takeBack_6 : decode cX8_takeBack 6 = .ok (.getfield 38, 3) := gdX8_takeBack_0.2.2.2.2.2.2.1
theorem dX8_takeBack_9 : decode cX8_takeBack 9 = .ok (.if_icmp .ge 13, 3) := gdX8_takeBack_0.2.2.2.2.2.2.2.1
theorem dX8_takeBack_12 : decode cX8_takeBack 12 = .ok (.aload_n 0, 1) := gdX8_takeBack_0.2.2.2.2.2.2.2.2.1
theorem dX8_takeBack_13 : decode cX8_takeBack 13 = .ok (.getfield 24, 3) := gdX8_takeBack_0.2.2.2.2.2.2.2.2.2.1
theorem dX8_takeBack_16 : decode cX8_takeBack 16 = .ok (.iload_n 1, 1) := gdX8_takeBack_0.2.2.2.2.2.2.2.2.2.2.1
theorem dX8_takeBack_17 : decode cX8_takeBack 17 = .ok (.iaload, 1) := gdX8_takeBack_0.2.2.2.2.2.2.2.2.2.2.2
theorem gdX8_takeBack_18 : decode cX8_takeBack 18 = .ok (.iconst (-1), 1) ∧ decode cX8_takeBack 19 = .ok (.if_icmp .eq 5, 3) ∧ decode cX8_takeBack 24 = .ok (.aload_n 0, 1) ∧ decode cX8_takeBack 25 = .ok (.getfield 24, 3) ∧ decode cX8_takeBack 28 = .ok (.iload_n 1, 1) ∧ decode cX8_takeBack 29 = .ok (.aload_n 0, 1) ∧ decode cX8_takeBack 30 = .ok (.getfield 42, 3) ∧ decode cX8_takeBack 33 = .ok (.iastore, 1) ∧ decode cX8_takeBack 34 = .ok (.iconst 1, 1) ∧ decode cX8_takeBack 35 = .ok (.ireturn, 1) := by decide +kernel
theorem dX8_takeBack_18 : decode cX8_takeBack 18 = .ok (.iconst (-1), 1) := gdX8_takeBack_18.1
theorem dX8_takeBack_19 : decode cX8_takeBack 19 = .ok (.if_icmp .eq 5, 3) := gdX8_takeBack_18.2.1
theorem dX8_takeBack_24 : decode cX8_takeBack 24 = .ok (.aload_n 0, 1) := gdX8_takeBack_18.2.2.1
theorem dX8_takeBack_25 : decode cX8_takeBack 25 = .ok (.getfield 24, 3) := gdX8_takeBack_18.2.2.2.1
theorem dX8_takeBack_28 : decode cX8_takeBack 28 = .ok (.iload_n 1, 1) := gdX8_takeBack_18.2.2.2.2.1
theorem dX8_takeBack_29 : decode cX8_takeBack 29 = .ok (.aload_n 0, 1) := gdX8_takeBack_18.2.2.2.2.2.1
theorem dX8_takeBack_30 : decode cX8_takeBack 30 = .ok (.getfield 42, 3) := gdX8_takeBack_18.2.2.2.2.2.2.1
theorem dX8_takeBack_33 : decode cX8_takeBack 33 = .ok (.iastore, 1) := gdX8_takeBack_18.2.2.2.2.2.2.2.1
theorem dX8_takeBack_34 : decode cX8_takeBack 34 = .ok (.iconst 1, 1) := gdX8_takeBack_18.2.2.2.2.2.2.2.2.1
theorem dX8_takeBack_35 : decode cX8_takeBack 35 = .ok (.ireturn, 1) := gdX8_takeBack_18.2.2.2.2.2.2.2.2.2
set_option maxHeartbeats 1000000 in
set_option maxRecDepth 100000 in
theorem s_takeBack (l : Launch) (D : va_G) (cy : Nat → ClassId) (u0 : Nat) (u1 : Nat) (u2 : Nat) (u3 : Nat) (u4 : Nat) (u5 : Nat) (u6 : Nat) (u7 : Nat) (u8 : Nat) (uc : Nat) (ut : Int32) (lc : Nat) (qu : Int32) (ml : Int32) (fu5 : Nat → Int32) (ix : Int32) (huc : uc ≤ 30) (hlc : lc ≤ 100) : XMi l D (tyL cy) E0 yX8_takeBack cX8_takeBack 2 (some .boolean) (rmk 0 0 0) [.ref u0, .int ix] [wO u0 8 [.ref u1, .ref u2, .ref u3, .ref u4, .ref u5, .ref u6, .ref u7, .ref u8, .int (nI uc), .int ut, .int (nI lc), .int qu, .int ml], wI (cy 1) u5 30 (fu5)] (fun (r : Int32) (fu52 : Nat → Int32) => (r = 0 ∨ r = 1) ∧ (unS (fun y => y = -1) uc fu5 ut ix r fu52)) (fun (fu52 : Nat → Int32) => [wO u0 8 [.ref u1, .ref u2, .ref u3, .ref u4, .ref u5, .ref u6, .ref u7, .ref u8, .int (nI uc), .int ut, .int (nI lc), .int qu, .int ml], wI (cy 1) u5 30 (fu52)]) := by
  refine XMi.start (by decide) (Nat.le_of_ble_eq_true rfl) ?_
  intro p e s m below meth c args A ls Q hat hQ
  obtain ⟨hx, hb, hr, hml, hown, hg, hlocks, hin, hK, hA, hP, hD, hS, hE, hl⟩ := hat
  have hown : s.vm.findClass RX8 = some m.cls := hown
  have hl : lv_has ls 2 [(0, .ref u0), (1, .int ix)] := hl
  refine lv_iload_n hx hb dX8_takeBack_0 rfl (lv_at hl 1 rfl) ?_
  refine lv_if_lt (tgt := 22) hx hb dX8_takeBack_1 (by decide) (fun c_1 => ?_) (fun c_1 => ?_)
  · refine lv_iconst (v := 0) hx hb dX8_takeBack_22 (by decide) ?_
    exact x_zret hQ hx hb hr hlocks hK hP hD hS rfl dX8_takeBack_23 fu5 (⟨(Or.inl rfl), Or.inl ⟨rfl, rfl, un_out (P := fun y => y = -1) (f5 := fu5) (inR_neg (c := uc) (by omega) c_1)⟩⟩) [0, 1] (by decide +kernel) rfl (Nat.le_of_ble_eq_true rfl) (Nat.le_of_ble_eq_true rfl)
  · refine lv_iload_n hx hb dX8_takeBack_4 rfl (lv_at hl 1 rfl) ?_
    refine lv_aload_n hx hb dX8_takeBack_5 rfl (lv_at hl 0 rfl) ?_
    refine va_get (D := D) (ci := 8) (v := .int (nI uc)) (C := RX8) (T := TX8) (N := 13) hx hb hg i_X8 hown hK hP 0 rfl rfl 8 (by decide) (hg _ m_462) (fun _ h9 => h9) rfl dX8_takeBack_6 ?_
    refine lv_icmp_ge (tgt := 22) hx hb dX8_takeBack_9 (by decide) (fun c_9 => ?_) (fun c_9 => ?_)
    · refine lv_iconst (v := 0) hx hb dX8_takeBack_22 (by decide) ?_
      exact x_zret hQ hx hb hr hlocks hK hP hD hS rfl dX8_takeBack_23 fu5 (⟨(Or.inl rfl), Or.inl ⟨rfl, rfl, un_out (P := fun y => y = -1) (f5 := fu5) (inR_ge (c := uc) (by omega) c_9)⟩⟩) [0, 1] (by decide +kernel) rfl (Nat.le_of_ble_eq_true rfl) (Nat.le_of_ble_eq_true rfl)
    · obtain ⟨jx, hjx, ejx⟩ := has_in (c := uc) (by omega) c_1 c_9
      subst ejx
      refine lv_aload_n hx hb dX8_takeBack_12 rfl (lv_at hl 0 rfl) ?_
      refine va_get (D := D) (ci := 8) (v := .ref u5) (C := RX8) (T := TX8) (N := 13) hx hb hg i_X8 hown hK hP 0 rfl rfl 4 (by decide) (hg _ m_458) (fun _ h9 => h9) rfl dX8_takeBack_13 ?_
      refine lv_iload_n hx hb dX8_takeBack_16 rfl (lv_at hl 1 rfl) ?_
      refine va_iald hx hb hK hP 1 1 rfl rfl (vp_in_nI (by omega) (by decide)) dX8_takeBack_17 ?_
      refine lv_topi (fun x_1 ex_1 => ?_)
      refine lv_iconst (v := -1) hx hb dX8_takeBack_18 (by decide) ?_
      refine lv_icmp_eq (tgt := 24) hx hb dX8_takeBack_19 (by decide) (fun c_19 => ?_) (fun c_19 => ?_)
      · refine lv_aload_n hx hb dX8_takeBack_24 rfl (lv_at hl 0 rfl) ?_
        refine va_get (D := D) (ci := 8) (v := .ref u5) (C := RX8) (T := TX8) (N := 13) hx hb hg i_X8 hown hK hP 0 rfl rfl 4 (by decide) (hg _ m_458) (fun _ h9 => h9) rfl dX8_takeBack_25 ?_
        refine lv_iload_n hx hb dX8_takeBack_28 rfl (lv_at hl 1 rfl) ?_
        refine lv_aload_n hx hb dX8_takeBack_29 rfl (lv_at hl 0 rfl) ?_
        refine va_get (D := D) (ci := 8) (v := .int ut) (C := RX8) (T := TX8) (N := 13) hx hb hg i_X8 hown hK hP 0 rfl rfl 9 (by decide) (hg _ m_464) (fun _ h9 => h9) rfl dX8_takeBack_30 ?_
        refine va_iast hx hb hK hP hD hS 1 1 rfl rfl (vp_in_nI (by omega) (by decide)) dX8_takeBack_33 (fun H locs hP9 hD9 hS9 => ?_)
        clear hP hD hS
        obtain ⟨g_2, eg_2⟩ : ∃ y, upd fu5 (nI jx : Int32).toNatClampNeg ut = y := ⟨_, rfl⟩
        rw [eg_2] at hP9 hD9
        refine reW [wO u0 8 [.ref u1, .ref u2, .ref u3, .ref u4, .ref u5, .ref u6, .ref u7, .ref u8, .int (nI uc), .int ut, .int (nI lc), .int qu, .int ml], wI (cy 1) u5 30 (g_2)] hP9 hD9 hS9 (fun hP hD hS => ?_)
        clear hP9 hD9 hS9
        refine lv_iconst (v := 1) hx hb dX8_takeBack_34 (by decide) ?_
        exact x_zret hQ hx hb hr hlocks hK hP hD hS rfl dX8_takeBack_35 g_2 (⟨(Or.inr rfl), Or.inr ⟨rfl, un_yes (P := fun y => y = -1) hjx (by omega) ex_1 c_19 eg_2⟩⟩) [0, 1] (by decide +kernel) rfl (Nat.le_of_ble_eq_true rfl) (Nat.le_of_ble_eq_true rfl)
      · refine lv_iconst (v := 0) hx hb dX8_takeBack_22 (by decide) ?_
        exact x_zret hQ hx hb hr hlocks hK hP hD hS rfl dX8_takeBack_23 fu5 (⟨(Or.inl rfl), Or.inl ⟨rfl, rfl, un_no (P := fun y => y = -1) hjx (by omega) ex_1 c_19⟩⟩) [0, 1] (by decide +kernel) rfl (Nat.le_of_ble_eq_true rfl) (Nat.le_of_ble_eq_true rfl)
theorem gdX8_counts_0 : decode cX8_counts 0 = .ok (.aload_n 0, 1) ∧ decode cX8_counts 1 = .ok (.getfield 24, 3) ∧ decode cX8_counts 4 = .ok (.iload_n 1, 1) ∧ decode cX8_counts 5 = .ok (.iaload, 1) ∧ decode cX8_counts 6 = .ok (.iconst (-1), 1) ∧ decode cX8_counts 7 = .ok (.if_icmp .eq 17, 3) ∧ decode cX8_counts 24 = .ok (.iconst 0, 1) ∧ decode cX8_counts 25 = .ok (.istore_n 3, 1) ∧ decode cX8_counts 26 = .ok (.aload_n 0, 1) ∧ decode cX8_counts 27 = .ok (.getfield 21, 3) ∧ decode cX8_counts 30 = .ok (.iload_n 1, 1) ∧ decode cX8_counts 31 = .ok (.iaload, 1) := by decide +kernel
theorem dX8_counts_0 : decode cX8_counts 0 = .ok (.aload_n 0, 1) := gdX8_counts_0.1
theorem dX8_counts_1 : decode cX8_counts 1 = .ok (.getfield 24, 3) := gdX8_counts_0.2.1
theorem dX8_counts_4 : decode cX8_counts 4 = .ok (.iload_n 1, 1) := gdX8_counts_0.2.2.1
theorem dX8_counts_5 : decode cX8_counts 5 = .ok (.iaload, 1) := gdX8_counts_0.2.2.2.1
theorem dX8_counts_6 : decode cX8_counts 6 = .ok (.iconst (-1), 1) := gdX8_counts_0.2.2.2.2.1
theorem dX8_counts_7 : decode cX8_counts 7 = .ok (.if_icmp .eq 17, 3) := gdX8_counts_0.2.2.2.2.2.1
theorem dX8_counts_24 : decode cX8_counts 24 = .ok (.iconst 0, 1) := gdX8_counts_0.2.2.2.2.2.2.1
theorem dX8_counts_25 : decode cX8_counts 25 = .ok (.istore_n 3, 1) := gdX8_counts_0.2.2.2.2.2.2.2.1
theorem dX8_counts_26 : decode cX8_counts 26 = .ok (.aload_n 0, 1) := gdX8_counts_0.2.2.2.2.2.2.2.2.1
theorem dX8_counts_27 : decode cX8_counts 27 = .ok (.getfield 21, 3) := gdX8_counts_0.2.2.2.2.2.2.2.2.2.1
theorem dX8_counts_30 : decode cX8_counts 30 = .ok (.iload_n 1, 1) := gdX8_counts_0.2.2.2.2.2.2.2.2.2.2.1
theorem dX8_counts_31 : decode cX8_counts 31 = .ok (.iaload, 1) := gdX8_counts_0.2.2.2.2.2.2.2.2.2.2.2
theorem gdX8_counts_32 : decode cX8_counts 32 = .ok (.iload_n 2, 1) ∧ decode cX8_counts 33 = .ok (.if_icmp .gt 11, 3) ∧ decode cX8_counts 44 = .ok (.iconst 0, 1) ∧ decode cX8_counts 45 = .ok (.ireturn, 1) ∧ decode cX8_counts 36 = .ok (.iload_n 3, 1) ∧ decode cX8_counts 37 = .ok (.ifCond .ne 7, 3) ∧ decode cX8_counts 40 = .ok (.iconst 1, 1) ∧ decode cX8_counts 41 = .ok (.goto 4, 3) ∧ decode cX8_counts 10 = .ok (.aload_n 0, 1) ∧ decode cX8_counts 11 = .ok (.getfield 24, 3) ∧ decode cX8_counts 14 = .ok (.iload_n 1, 1) ∧ decode cX8_counts 15 = .ok (.iaload, 1) := by decide +kernel
theorem dX8_counts_32 : decode cX8_counts 32 = .ok (.iload_n 2, 1) := gdX8_counts_32.1
theorem dX8_counts_33 : decode cX8_counts 33 = .ok (.if_icmp .gt 11, 3) := gdX8_counts_32.2.1
theorem dX8_counts_44 : decode cX8_counts 44 = .ok (.iconst 0, 1) := gdX8_counts_32.2.2.1
theorem dX8_counts_45 : decode cX8_counts 45 = .ok (.ireturn, 1) := gdX8_counts_32.2.2.2.1
theorem dX8_counts_36 : decode cX8_counts 36 = .ok (.iload_n 3, 1) := gdX8_counts_32.2.2.2.2.1
theorem dX8_counts_37 : decode cX8_counts 37 = .ok (.ifCond .ne 7, 3) := gdX8_counts_32.2.2.2.2.2.1
theorem dX8_counts_40 : decode cX8_counts 40 = .ok (.iconst 1, 1) := gdX8_counts_32.2.2.2.2.2.2.1
theorem dX8_counts_41 : decode cX8_counts 41 = .ok (.goto 4, 3) := gdX8_counts_32.2.2.2.2.2.2.2.1
theorem dX8_counts_10 : decode cX8_counts 10 = .ok (.aload_n 0, 1) := gdX8_counts_32.2.2.2.2.2.2.2.2.1
theorem dX8_counts_11 : decode cX8_counts 11 = .ok (.getfield 24, 3) := gdX8_counts_32.2.2.2.2.2.2.2.2.2.1
theorem dX8_counts_14 : decode cX8_counts 14 = .ok (.iload_n 1, 1) := gdX8_counts_32.2.2.2.2.2.2.2.2.2.2.1
theorem dX8_counts_15 : decode cX8_counts 15 = .ok (.iaload, 1) := gdX8_counts_32.2.2.2.2.2.2.2.2.2.2.2
theorem gdX8_counts_16 : decode cX8_counts 16 = .ok (.iload_n 2, 1) ∧ decode cX8_counts 17 = .ok (.if_icmp .gt 7, 3) ∧ decode cX8_counts 20 = .ok (.iconst 1, 1) ∧ decode cX8_counts 21 = .ok (.goto 4, 3) := by decide +kernel
theorem dX8_counts_16 : decode cX8_counts 16 = .ok (.iload_n 2, 1) := gdX8_counts_16.1
theorem dX8_counts_17 : decode cX8_counts 17 = .ok (.if_icmp .gt 7, 3) := gdX8_counts_16.2.1
theorem dX8_counts_20 : decode cX8_counts 20 = .ok (.iconst 1, 1) := gdX8_counts_16.2.2.1
theorem dX8_counts_21 : decode cX8_counts 21 = .ok (.goto 4, 3) := gdX8_counts_16.2.2.2
set_option maxHeartbeats 1000000 in
set_option maxRecDepth 100000 in
theorem s_counts (l : Launch) (D : va_G) (cy : Nat → ClassId) (u0 : Nat) (u1 : Nat) (u2 : Nat) (u3 : Nat) (u4 : Nat) (u5 : Nat) (u6 : Nat) (u7 : Nat) (u8 : Nat) (uc : Nat) (ut : Int32) (lc : Nat) (qu : Int32) (ml : Int32) (fu4 : Nat → Int32) (fu5 : Nat → Int32) (j : Nat) (kk : Int32) (hj : j < 30) : XMi l D (tyL cy) E0 yX8_counts cX8_counts 4 (some .boolean) (rmk 0 0 0) [.ref u0, .int (nI j), .int kk] [wO u0 8 [.ref u1, .ref u2, .ref u3, .ref u4, .ref u5, .ref u6, .ref u7, .ref u8, .int (nI uc), .int ut, .int (nI lc), .int qu, .int ml], wI (cy 1) u4 30 (fu4), wI (cy 1) u5 30 (fu5)] (fun (r : Int32) (_ : Unit) => (r = 0 ∨ r = 1)) (fun (_ : Unit) => [wO u0 8 [.ref u1, .ref u2, .ref u3, .ref u4, .ref u5, .ref u6, .ref u7, .ref u8, .int (nI uc), .int ut, .int (nI lc), .int qu, .int ml], wI (cy 1) u4 30 (fu4), wI (cy 1) u5 30 (fu5)]) := by
  refine XMi.start (by decide) (Nat.le_of_ble_eq_true rfl) ?_
  intro p e s m below meth c args A ls Q hat hQ
  obtain ⟨hx, hb, hr, hml, hown, hg, hlocks, hin, hK, hA, hP, hD, hS, hE, hl⟩ := hat
  have hown : s.vm.findClass RX8 = some m.cls := hown
  have hl : lv_has ls 4 [(0, .ref u0), (1, .int (nI j)), (2, .int kk)] := hl
  refine lv_aload_n hx hb dX8_counts_0 rfl (lv_at hl 0 rfl) ?_
  refine va_get (D := D) (ci := 8) (v := .ref u5) (C := RX8) (T := TX8) (N := 13) hx hb hg i_X8 hown hK hP 0 rfl rfl 4 (by decide) (hg _ m_458) (fun _ h9 => h9) rfl dX8_counts_1 ?_
  refine lv_iload_n hx hb dX8_counts_4 rfl (lv_at hl 1 rfl) ?_
  refine va_iald hx hb hK hP 2 1 rfl rfl (vp_in_nI (by omega) (by decide)) dX8_counts_5 ?_
  refine lv_topi (fun x_1 ex_1 => ?_)
  refine lv_iconst (v := -1) hx hb dX8_counts_6 (by decide) ?_
  refine lv_icmp_eq (tgt := 24) hx hb dX8_counts_7 (by decide) (fun c_7 => ?_) (fun c_7 => ?_)
  · refine lv_iconst (v := 0) hx hb dX8_counts_24 (by decide) ?_
    refine lv_istore_n (lv' := [(3, .int 0), (0, .ref u0), (1, .int (nI j)), (2, .int kk)]) hx hb dX8_counts_25 rfl hl (by decide) rfl (fun ls hl => ?_)
    refine lv_aload_n hx hb dX8_counts_26 rfl (lv_at hl 1 rfl) ?_
    refine va_get (D := D) (ci := 8) (v := .ref u4) (C := RX8) (T := TX8) (N := 13) hx hb hg i_X8 hown hK hP 0 rfl rfl 3 (by decide) (hg _ m_457) (fun _ h9 => h9) rfl dX8_counts_27 ?_
    refine lv_iload_n hx hb dX8_counts_30 rfl (lv_at hl 2 rfl) ?_
    refine va_iald hx hb hK hP 1 1 rfl rfl (vp_in_nI (by omega) (by decide)) dX8_counts_31 ?_
    refine lv_topi (fun x_2 ex_2 => ?_)
    refine lv_iload_n hx hb dX8_counts_32 rfl (lv_at hl 3 rfl) ?_
    refine lv_icmp_gt (tgt := 44) hx hb dX8_counts_33 (by decide) (fun c_33 => ?_) (fun c_33 => ?_)
    · refine lv_iconst (v := 0) hx hb dX8_counts_44 (by decide) ?_
      exact x_zret hQ hx hb hr hlocks hK hP hD hS rfl dX8_counts_45 () ((Or.inl rfl)) [0, 1, 2] (by decide +kernel) rfl (Nat.le_of_ble_eq_true rfl) (Nat.le_of_ble_eq_true rfl)
    · refine lv_iload_n hx hb dX8_counts_36 rfl (lv_at hl 0 rfl) ?_
      refine lv_if_ne (tgt := 44) hx hb dX8_counts_37 (by decide) (fun h => absurd (by decide) h) (fun _ => ?_)
      refine lv_iconst (v := 1) hx hb dX8_counts_40 (by decide) ?_
      refine lv_goto (tgt := 45) hx hb dX8_counts_41 (by decide) ?_
      exact x_zret hQ hx hb hr hlocks hK hP hD hS rfl dX8_counts_45 () ((Or.inr rfl)) [0, 1, 2] (by decide +kernel) rfl (Nat.le_of_ble_eq_true rfl) (Nat.le_of_ble_eq_true rfl)
  · refine lv_aload_n hx hb dX8_counts_10 rfl (lv_at hl 0 rfl) ?_
    refine va_get (D := D) (ci := 8) (v := .ref u5) (C := RX8) (T := TX8) (N := 13) hx hb hg i_X8 hown hK hP 0 rfl rfl 4 (by decide) (hg _ m_458) (fun _ h9 => h9) rfl dX8_counts_11 ?_
    refine lv_iload_n hx hb dX8_counts_14 rfl (lv_at hl 1 rfl) ?_
    refine va_iald hx hb hK hP 2 1 rfl rfl (vp_in_nI (by omega) (by decide)) dX8_counts_15 ?_
    refine lv_topi (fun x_3 ex_3 => ?_)
    refine lv_iload_n hx hb dX8_counts_16 rfl (lv_at hl 2 rfl) ?_
    refine lv_icmp_gt (tgt := 24) hx hb dX8_counts_17 (by decide) (fun c_17 => ?_) (fun c_17 => ?_)
    · refine lv_iconst (v := 0) hx hb dX8_counts_24 (by decide) ?_
      refine lv_istore_n (lv' := [(3, .int 0), (0, .ref u0), (1, .int (nI j)), (2, .int kk)]) hx hb dX8_counts_25 rfl hl (by decide) rfl (fun ls hl => ?_)
      refine lv_aload_n hx hb dX8_counts_26 rfl (lv_at hl 1 rfl) ?_
      refine va_get (D := D) (ci := 8) (v := .ref u4) (C := RX8) (T := TX8) (N := 13) hx hb hg i_X8 hown hK hP 0 rfl rfl 3 (by decide) (hg _ m_457) (fun _ h9 => h9) rfl dX8_counts_27 ?_
      refine lv_iload_n hx hb dX8_counts_30 rfl (lv_at hl 2 rfl) ?_
      refine va_iald hx hb hK hP 1 1 rfl rfl (vp_in_nI (by omega) (by decide)) dX8_counts_31 ?_
      refine lv_topi (fun x_4 ex_4 => ?_)
      refine lv_iload_n hx hb dX8_counts_32 rfl (lv_at hl 3 rfl) ?_
      refine lv_icmp_gt (tgt := 44) hx hb dX8_counts_33 (by decide) (fun c_33 => ?_) (fun c_33 => ?_)
      · refine lv_iconst (v := 0) hx hb dX8_counts_44 (by decide) ?_
        exact x_zret hQ hx hb hr hlocks hK hP hD hS rfl dX8_counts_45 () ((Or.inl rfl)) [0, 1, 2] (by decide +kernel) rfl (Nat.le_of_ble_eq_true rfl) (Nat.le_of_ble_eq_true rfl)
      · refine lv_iload_n hx hb dX8_counts_36 rfl (lv_at hl 0 rfl) ?_
        refine lv_if_ne (tgt := 44) hx hb dX8_counts_37 (by decide) (fun h => absurd (by decide) h) (fun _ => ?_)
        refine lv_iconst (v := 1) hx hb dX8_counts_40 (by decide) ?_
        refine lv_goto (tgt := 45) hx hb dX8_counts_41 (by decide) ?_
        exact x_zret hQ hx hb hr hlocks hK hP hD hS rfl dX8_counts_45 () ((Or.inr rfl)) [0, 1, 2] (by decide +kernel) rfl (Nat.le_of_ble_eq_true rfl) (Nat.le_of_ble_eq_true rfl)
    · refine lv_iconst (v := 1) hx hb dX8_counts_20 (by decide) ?_
      refine lv_goto (tgt := 25) hx hb dX8_counts_21 (by decide) ?_
      refine lv_istore_n (lv' := [(3, .int 1), (0, .ref u0), (1, .int (nI j)), (2, .int kk)]) hx hb dX8_counts_25 rfl hl (by decide) rfl (fun ls hl => ?_)
      refine lv_aload_n hx hb dX8_counts_26 rfl (lv_at hl 1 rfl) ?_
      refine va_get (D := D) (ci := 8) (v := .ref u4) (C := RX8) (T := TX8) (N := 13) hx hb hg i_X8 hown hK hP 0 rfl rfl 3 (by decide) (hg _ m_457) (fun _ h9 => h9) rfl dX8_counts_27 ?_
      refine lv_iload_n hx hb dX8_counts_30 rfl (lv_at hl 2 rfl) ?_
      refine va_iald hx hb hK hP 1 1 rfl rfl (vp_in_nI (by omega) (by decide)) dX8_counts_31 ?_
      refine lv_topi (fun x_5 ex_5 => ?_)
      refine lv_iload_n hx hb dX8_counts_32 rfl (lv_at hl 3 rfl) ?_
      refine lv_icmp_gt (tgt := 44) hx hb dX8_counts_33 (by decide) (fun c_33 => ?_) (fun c_33 => ?_)
      · refine lv_iconst (v := 0) hx hb dX8_counts_44 (by decide) ?_
        exact x_zret hQ hx hb hr hlocks hK hP hD hS rfl dX8_counts_45 () ((Or.inl rfl)) [0, 1, 2] (by decide +kernel) rfl (Nat.le_of_ble_eq_true rfl) (Nat.le_of_ble_eq_true rfl)
      · refine lv_iload_n hx hb dX8_counts_36 rfl (lv_at hl 0 rfl) ?_
        refine lv_if_ne (tgt := 44) hx hb dX8_counts_37 (by decide) (fun _ => ?_) (fun h => absurd h (by decide))
        refine lv_iconst (v := 0) hx hb dX8_counts_44 (by decide) ?_
        exact x_zret hQ hx hb hr hlocks hK hP hD hS rfl dX8_counts_45 () ((Or.inl rfl)) [0, 1, 2] (by decide +kernel) rfl (Nat.le_of_ble_eq_true rfl) (Nat.le_of_ble_eq_true rfl)
theorem gdX8_sentTo_0 : decode cX8_sentTo 0 = .ok (.aload_n 0, 1) ∧ decode cX8_sentTo 1 = .ok (.getfield 35, 3) ∧ decode cX8_sentTo 4 = .ok (.iconst 0, 1) ∧ decode cX8_sentTo 5 = .ok (.aload_n 1, 1) ∧ decode cX8_sentTo 6 = .ok (.iload_n 3, 1) ∧ decode cX8_sentTo 7 = .ok (.iload_n 2, 1) ∧ decode cX8_sentTo 8 = .ok (.invokevirtual 45, 3) := by decide +kernel
theorem dX8_sentTo_0 : decode cX8_sentTo 0 = .ok (.aload_n 0, 1) := gdX8_sentTo_0.1
theorem dX8_sentTo_1 : decode cX8_sentTo 1 = .ok (.getfield 35, 3) := gdX8_sentTo_0.2.1
theorem dX8_sentTo_4 : decode cX8_sentTo 4 = .ok (.iconst 0, 1) := gdX8_sentTo_0.2.2.1
theorem dX8_sentTo_5 : decode cX8_sentTo 5 = .ok (.aload_n 1, 1) := gdX8_sentTo_0.2.2.2.1
theorem dX8_sentTo_6 : decode cX8_sentTo 6 = .ok (.iload_n 3, 1) := gdX8_sentTo_0.2.2.2.2.1
theorem dX8_sentTo_7 : decode cX8_sentTo 7 = .ok (.iload_n 2, 1) := gdX8_sentTo_0.2.2.2.2.2.1
theorem dX8_sentTo_8 : decode cX8_sentTo 8 = .ok (.invokevirtual 45, 3) := gdX8_sentTo_0.2.2.2.2.2.2
theorem k_X8_45 : xV RX8 RX4 45 yX4_far cX4_far 3 (some .int) 2 := ⟨⟨m_1361, m_1023, m_1024, m_137, m_1025⟩, rfl, by decide, by decide, by decide +kernel⟩
theorem gdX8_sentTo_11 : decode cX8_sentTo 11 = .ok (.iastore, 1) ∧ decode cX8_sentTo 12 = .ok (.aload_n 0, 1) ∧ decode cX8_sentTo 13 = .ok (.getfield 35, 3) ∧ decode cX8_sentTo 16 = .ok (.iconst 1, 1) ∧ decode cX8_sentTo 17 = .ok (.aload_n 1, 1) ∧ decode cX8_sentTo 18 = .ok (.getfield 51, 3) ∧ decode cX8_sentTo 21 = .ok (.iastore, 1) ∧ decode cX8_sentTo 22 = .ok (.aload_n 0, 1) ∧ decode cX8_sentTo 23 = .ok (.getfield 35, 3) ∧ decode cX8_sentTo 26 = .ok (.iconst 2, 1) ∧ decode cX8_sentTo 27 = .ok (.aload_n 1, 1) ∧ decode cX8_sentTo 28 = .ok (.getfield 54, 3) := by decide +kernel
theorem dX8_sentTo_11 : decode cX8_sentTo 11 = .ok (.iastore, 1) := gdX8_sentTo_11.1
theorem dX8_sentTo_12 : decode cX8_sentTo 12 = .ok (.aload_n 0, 1) := gdX8_sentTo_11.2.1
theorem dX8_sentTo_13 : decode cX8_sentTo 13 = .ok (.getfield 35, 3) := gdX8_sentTo_11.2.2.1
theorem dX8_sentTo_16 : decode cX8_sentTo 16 = .ok (.iconst 1, 1) := gdX8_sentTo_11.2.2.2.1
theorem dX8_sentTo_17 : decode cX8_sentTo 17 = .ok (.aload_n 1, 1) := gdX8_sentTo_11.2.2.2.2.1
theorem dX8_sentTo_18 : decode cX8_sentTo 18 = .ok (.getfield 51, 3) := gdX8_sentTo_11.2.2.2.2.2.1
theorem dX8_sentTo_21 : decode cX8_sentTo 21 = .ok (.iastore, 1) := gdX8_sentTo_11.2.2.2.2.2.2.1
theorem dX8_sentTo_22 : decode cX8_sentTo 22 = .ok (.aload_n 0, 1) := gdX8_sentTo_11.2.2.2.2.2.2.2.1
theorem dX8_sentTo_23 : decode cX8_sentTo 23 = .ok (.getfield 35, 3) := gdX8_sentTo_11.2.2.2.2.2.2.2.2.1
theorem dX8_sentTo_26 : decode cX8_sentTo 26 = .ok (.iconst 2, 1) := gdX8_sentTo_11.2.2.2.2.2.2.2.2.2.1
theorem dX8_sentTo_27 : decode cX8_sentTo 27 = .ok (.aload_n 1, 1) := gdX8_sentTo_11.2.2.2.2.2.2.2.2.2.2.1
theorem dX8_sentTo_28 : decode cX8_sentTo 28 = .ok (.getfield 54, 3) := gdX8_sentTo_11.2.2.2.2.2.2.2.2.2.2.2
theorem gdX8_sentTo_31 : decode cX8_sentTo 31 = .ok (.iload_n 3, 1) ∧ decode cX8_sentTo 32 = .ok (.iaload, 1) ∧ decode cX8_sentTo 33 = .ok (.iastore, 1) ∧ decode cX8_sentTo 34 = .ok (.aload_n 0, 1) ∧ decode cX8_sentTo 35 = .ok (.getfield 35, 3) ∧ decode cX8_sentTo 38 = .ok (.iconst 3, 1) ∧ decode cX8_sentTo 39 = .ok (.iload 4, 2) ∧ decode cX8_sentTo 41 = .ok (.iastore, 1) ∧ decode cX8_sentTo 42 = .ok (.aload_n 1, 1) ∧ decode cX8_sentTo 43 = .ok (.aload_n 0, 1) ∧ decode cX8_sentTo 44 = .ok (.getfield 35, 3) ∧ decode cX8_sentTo 47 = .ok (.invokevirtual 57, 3) := by decide +kernel
theorem dX8_sentTo_31 : decode cX8_sentTo 31 = .ok (.iload_n 3, 1) := gdX8_sentTo_31.1
theorem dX8_sentTo_32 : decode cX8_sentTo 32 = .ok (.iaload, 1) := gdX8_sentTo_31.2.1
theorem dX8_sentTo_33 : decode cX8_sentTo 33 = .ok (.iastore, 1) := gdX8_sentTo_31.2.2.1
theorem dX8_sentTo_34 : decode cX8_sentTo 34 = .ok (.aload_n 0, 1) := gdX8_sentTo_31.2.2.2.1
theorem dX8_sentTo_35 : decode cX8_sentTo 35 = .ok (.getfield 35, 3) := gdX8_sentTo_31.2.2.2.2.1
theorem dX8_sentTo_38 : decode cX8_sentTo 38 = .ok (.iconst 3, 1) := gdX8_sentTo_31.2.2.2.2.2.1
theorem dX8_sentTo_39 : decode cX8_sentTo 39 = .ok (.iload 4, 2) := gdX8_sentTo_31.2.2.2.2.2.2.1
theorem dX8_sentTo_41 : decode cX8_sentTo 41 = .ok (.iastore, 1) := gdX8_sentTo_31.2.2.2.2.2.2.2.1
theorem dX8_sentTo_42 : decode cX8_sentTo 42 = .ok (.aload_n 1, 1) := gdX8_sentTo_31.2.2.2.2.2.2.2.2.1
theorem dX8_sentTo_43 : decode cX8_sentTo 43 = .ok (.aload_n 0, 1) := gdX8_sentTo_31.2.2.2.2.2.2.2.2.2.1
theorem dX8_sentTo_44 : decode cX8_sentTo 44 = .ok (.getfield 35, 3) := gdX8_sentTo_31.2.2.2.2.2.2.2.2.2.2.1
theorem dX8_sentTo_47 : decode cX8_sentTo 47 = .ok (.invokevirtual 57, 3) := gdX8_sentTo_31.2.2.2.2.2.2.2.2.2.2.2
theorem k_X8_57 : xV RX8 RX4 57 yX4_comes cX4_comes 4 (some .int) 1 := ⟨⟨m_1362, m_1043, m_1044, m_137, m_1045⟩, rfl, by decide, by decide, by decide +kernel⟩
theorem dX8_sentTo_50 : decode cX8_sentTo 50 = .ok (.ireturn, 1) := by decide +kernel
set_option maxHeartbeats 1000000 in
set_option maxRecDepth 100000 in
theorem s_sentTo (l : Launch) (D : va_G) (cy : Nat → ClassId) (u0 : Nat) (u1 : Nat) (u2 : Nat) (u3 : Nat) (u4 : Nat) (u5 : Nat) (u6 : Nat) (u7 : Nat) (u8 : Nat) (uc : Nat) (ut : Int32) (lc : Nat) (qu : Int32) (ml : Int32) (fu8 : Nat → Int32) (h0 : Nat) (h1 : Nat) (h2 : Nat) (h3 : Nat) (h4 : Nat) (h5 : Nat) (h6 : Nat) (h7 : Nat) (h8 : Nat) (h9 : Nat) (h10 : Nat) (h11 : Nat) (hv0 : Value) (hv1 : Value) (hv3 : Value) (hv4 : Value) (hwi : Int32) (fp : Nat → Int32) (fcs : Nat → Int32) (h9a : Nat) (h9b : Nat) (nb : Nat) (tb : Int32) (fcb : Nat → Int32) (fsb : Nat → Int32) (pl : Int32) (j : Nat) (mm : Nat) (hnb : nb ≤ 280) (hcb : cOK fcb nb) (hj : j < 4) (hmm : mm ≤ 10) : XMi l D (tyL cy) E0 yX8_sentTo cX8_sentTo 5 (some .int) (rmk 3 0 0) [.ref u0, .ref h0, .int pl, .int (nI j), .int (nI mm)] [wO u0 8 [.ref u1, .ref u2, .ref u3, .ref u4, .ref u5, .ref u6, .ref u7, .ref u8, .int (nI uc), .int ut, .int (nI lc), .int qu, .int ml], wI (cy 1) u8 7 (fu8), wO h0 4 [.ref h1, .ref h2, .ref h3, .ref h4, .ref h5, .ref h6, .ref h7, .ref h8, .ref h9, .ref h10, .ref h11, hv0, hv1, .int hwi, hv3, hv4], wI (cy 1) h3 4 (fp), wI (cy 1) h4 4 (fcs), wO h9 3 [.ref h9a, .ref h9b, .int (nI nb), .int tb], wI (cy 1) h9a 280 (fcb), wI (cy 1) h9b 31 (fsb)] (fun (r : Int32) (u : (Nat → Int32) × (Nat → Int32) × Nat) => (r = nI u.2.2) ∧ (u.2.2 ≤ mm)) (fun (u : (Nat → Int32) × (Nat → Int32) × Nat) => [wO u0 8 [.ref u1, .ref u2, .ref u3, .ref u4, .ref u5, .ref u6, .ref u7, .ref u8, .int (nI uc), .int ut, .int (nI lc), .int qu, .int ml], wI (cy 1) u8 7 (u.1), wO h0 4 [.ref h1, .ref h2, .ref h3, .ref h4, .ref h5, .ref h6, .ref h7, .ref h8, .ref h9, .ref h10, .ref h11, hv0, hv1, .int hwi, hv3, hv4], wI (cy 1) h3 4 (fp), wI (cy 1) h4 4 (fcs), wO h9 3 [.ref h9a, .ref h9b, .int (nI nb), .int tb], wI (cy 1) h9a 280 (fcb), wI (cy 1) h9b 31 (u.2.1)]) := by
  refine XMi.start (by decide) (Nat.le_of_ble_eq_true rfl) ?_
  intro p e s m below meth c args A ls Q hat hQ
  obtain ⟨hx, hb, hr, hml, hown, hg, hlocks, hin, hK, hA, hP, hD, hS, hE, hl⟩ := hat
  have hown : s.vm.findClass RX8 = some m.cls := hown
  have hl : lv_has ls 5 [(0, .ref u0), (1, .ref h0), (2, .int pl), (3, .int (nI j)), (4, .int (nI mm))] := hl
  refine lv_aload_n hx hb dX8_sentTo_0 rfl (lv_at hl 0 rfl) ?_
  refine va_get (D := D) (ci := 8) (v := .ref u8) (C := RX8) (T := TX8) (N := 13) hx hb hg i_X8 hown hK hP 0 rfl rfl 7 (by decide) (hg _ m_461) (fun _ h9 => h9) rfl dX8_sentTo_1 ?_
  refine lv_iconst (v := 0) hx hb dX8_sentTo_4 (by decide) ?_
  refine lv_aload_n hx hb dX8_sentTo_5 rfl (lv_at hl 1 rfl) ?_
  refine lv_iload_n hx hb dX8_sentTo_6 rfl (lv_at hl 3 rfl) ?_
  refine lv_iload_n hx hb dX8_sentTo_7 rfl (lv_at hl 2 rfl) ?_
  refine x_callVi (q := (RX4, TX4, 16)) (ci := 4) (q0 := 0) (wr := [wO u0 8 [.ref u1, .ref u2, .ref u3, .ref u4, .ref u5, .ref u6, .ref u7, .ref u8, .int (nI uc), .int ut, .int (nI lc), .int qu, .int ml], wI (cy 1) u8 7 (fu8), wI (cy 1) h4 4 (fcs), wO h9 3 [.ref h9a, .ref h9b, .int (nI nb), .int tb], wI (cy 1) h9a 280 (fcb), wI (cy 1) h9b 31 (fsb)]) (rest := [.int 0, .ref u8]) ⟨hx, hb, hml, hown, hg, hl.1⟩ k_X8_45 (s_far l D cy h0 h1 h2 h3 h4 h5 h6 h7 h8 h9 h10 h11 hv0 hv1 ((.int hwi)) hv3 hv4 fp j pl (by omega)) E0_blind hK hP hD hS hA [2, 3] [0, 1, 4, 5, 6, 7] ⟨rfl, rfl, by decide +kernel, by decide +kernel, by decide +kernel⟩ rfl rfl (fun _ _ _ => trivial) dX8_sentTo_8 rfl rfl (Nat.le_of_ble_eq_true rfl) ⟨Nat.le_of_ble_eq_true rfl, Nat.le_of_ble_eq_true rfl⟩ ⟨Nat.le_of_ble_eq_true rfl, Nat.le_of_ble_eq_true rfl⟩ (fun zr1 zu1 H locs hw1 hP9 hD9 hS9 => ?_)
  clear hP hD hS
  refine reW [wO u0 8 [.ref u1, .ref u2, .ref u3, .ref u4, .ref u5, .ref u6, .ref u7, .ref u8, .int (nI uc), .int ut, .int (nI lc), .int qu, .int ml], wI (cy 1) u8 7 (fu8), wI (cy 1) h4 4 (fcs), wO h9 3 [.ref h9a, .ref h9b, .int (nI nb), .int tb], wI (cy 1) h9a 280 (fcb), wI (cy 1) h9b 31 (fsb), wO h0 4 [.ref h1, .ref h2, .ref h3, .ref h4, .ref h5, .ref h6, .ref h7, .ref h8, .ref h9, .ref h10, .ref h11, hv0, hv1, .int hwi, hv3, hv4], wI (cy 1) h3 4 (fp)] hP9 hD9 hS9 (fun hP hD hS => ?_)
  clear hP9 hD9 hS9
  refine W.widen (k := 0) (n := 0) (Nat.le_of_ble_eq_true rfl) (Nat.le_of_ble_eq_true rfl) ?_
  replace hw1 : True := hw1
  refine va_iast hx hb hK hP hD hS 1 1 rfl rfl (by unfold vp_in; decide) dX8_sentTo_11 (fun H locs hP9 hD9 hS9 => ?_)
  clear hP hD hS
  refine reW [wO u0 8 [.ref u1, .ref u2, .ref u3, .ref u4, .ref u5, .ref u6, .ref u7, .ref u8, .int (nI uc), .int ut, .int (nI lc), .int qu, .int ml], wI (cy 1) u8 7 (upd fu8 (0 : Int32).toNatClampNeg zr1), wI (cy 1) h4 4 (fcs), wO h9 3 [.ref h9a, .ref h9b, .int (nI nb), .int tb], wI (cy 1) h9a 280 (fcb), wI (cy 1) h9b 31 (fsb), wO h0 4 [.ref h1, .ref h2, .ref h3, .ref h4, .ref h5, .ref h6, .ref h7, .ref h8, .ref h9, .ref h10, .ref h11, hv0, hv1, .int hwi, hv3, hv4], wI (cy 1) h3 4 (fp)] hP9 hD9 hS9 (fun hP hD hS => ?_)
  clear hP9 hD9 hS9
  refine lv_aload_n hx hb dX8_sentTo_12 rfl (lv_at hl 0 rfl) ?_
  refine va_get (D := D) (ci := 8) (v := .ref u8) (C := RX8) (T := TX8) (N := 13) hx hb hg i_X8 hown hK hP 0 rfl rfl 7 (by decide) (hg _ m_461) (fun _ h9 => h9) rfl dX8_sentTo_13 ?_
  refine lv_iconst (v := 1) hx hb dX8_sentTo_16 (by decide) ?_
  refine lv_aload_n hx hb dX8_sentTo_17 rfl (lv_at hl 1 rfl) ?_
  refine va_get (D := D) (ci := 4) (v := .int hwi) (C := RX4) (T := TX4) (N := 16) hx hb hg i_X4 hown hK hP 6 rfl rfl 13 (by decide) (hg _ m_376) (fun _ h9 => h9) rfl dX8_sentTo_18 ?_
  refine va_iast hx hb hK hP hD hS 1 1 rfl rfl (by unfold vp_in; decide) dX8_sentTo_21 (fun H locs hP9 hD9 hS9 => ?_)
  clear hP hD hS
  refine reW [wO u0 8 [.ref u1, .ref u2, .ref u3, .ref u4, .ref u5, .ref u6, .ref u7, .ref u8, .int (nI uc), .int ut, .int (nI lc), .int qu, .int ml], wI (cy 1) u8 7 (upd (upd fu8 (0 : Int32).toNatClampNeg zr1) (1 : Int32).toNatClampNeg hwi), wI (cy 1) h4 4 (fcs), wO h9 3 [.ref h9a, .ref h9b, .int (nI nb), .int tb], wI (cy 1) h9a 280 (fcb), wI (cy 1) h9b 31 (fsb), wO h0 4 [.ref h1, .ref h2, .ref h3, .ref h4, .ref h5, .ref h6, .ref h7, .ref h8, .ref h9, .ref h10, .ref h11, hv0, hv1, .int hwi, hv3, hv4], wI (cy 1) h3 4 (fp)] hP9 hD9 hS9 (fun hP hD hS => ?_)
  clear hP9 hD9 hS9
  refine lv_aload_n hx hb dX8_sentTo_22 rfl (lv_at hl 0 rfl) ?_
  refine va_get (D := D) (ci := 8) (v := .ref u8) (C := RX8) (T := TX8) (N := 13) hx hb hg i_X8 hown hK hP 0 rfl rfl 7 (by decide) (hg _ m_461) (fun _ h9 => h9) rfl dX8_sentTo_23 ?_
  refine lv_iconst (v := 2) hx hb dX8_sentTo_26 (by decide) ?_
  refine lv_aload_n hx hb dX8_sentTo_27 rfl (lv_at hl 1 rfl) ?_
  refine va_get (D := D) (ci := 4) (v := .ref h4) (C := RX4) (T := TX4) (N := 16) hx hb hg i_X4 hown hK hP 6 rfl rfl 3 (by decide) (hg _ m_347) (fun _ h9 => h9) rfl dX8_sentTo_28 ?_
  refine lv_iload_n hx hb dX8_sentTo_31 rfl (lv_at hl 3 rfl) ?_
  refine va_iald hx hb hK hP 2 1 rfl rfl (vp_in_nI (by omega) (by decide)) dX8_sentTo_32 ?_
  refine lv_topi (fun x_2 ex_2 => ?_)
  refine va_iast hx hb hK hP hD hS 1 1 rfl rfl (by unfold vp_in; decide) dX8_sentTo_33 (fun H locs hP9 hD9 hS9 => ?_)
  clear hP hD hS
  refine reW [wO u0 8 [.ref u1, .ref u2, .ref u3, .ref u4, .ref u5, .ref u6, .ref u7, .ref u8, .int (nI uc), .int ut, .int (nI lc), .int qu, .int ml], wI (cy 1) u8 7 (upd (upd (upd fu8 (0 : Int32).toNatClampNeg zr1) (1 : Int32).toNatClampNeg hwi) (2 : Int32).toNatClampNeg x_2), wI (cy 1) h4 4 (fcs), wO h9 3 [.ref h9a, .ref h9b, .int (nI nb), .int tb], wI (cy 1) h9a 280 (fcb), wI (cy 1) h9b 31 (fsb), wO h0 4 [.ref h1, .ref h2, .ref h3, .ref h4, .ref h5, .ref h6, .ref h7, .ref h8, .ref h9, .ref h10, .ref h11, hv0, hv1, .int hwi, hv3, hv4], wI (cy 1) h3 4 (fp)] hP9 hD9 hS9 (fun hP hD hS => ?_)
  clear hP9 hD9 hS9
  refine lv_aload_n hx hb dX8_sentTo_34 rfl (lv_at hl 0 rfl) ?_
  refine va_get (D := D) (ci := 8) (v := .ref u8) (C := RX8) (T := TX8) (N := 13) hx hb hg i_X8 hown hK hP 0 rfl rfl 7 (by decide) (hg _ m_461) (fun _ h9 => h9) rfl dX8_sentTo_35 ?_
  refine lv_iconst (v := 3) hx hb dX8_sentTo_38 (by decide) ?_
  refine lv_iload hx hb dX8_sentTo_39 (lv_at hl 4 rfl) ?_
  refine va_iast hx hb hK hP hD hS 1 1 rfl rfl (by unfold vp_in; decide) dX8_sentTo_41 (fun H locs hP9 hD9 hS9 => ?_)
  clear hP hD hS
  refine reW [wO u0 8 [.ref u1, .ref u2, .ref u3, .ref u4, .ref u5, .ref u6, .ref u7, .ref u8, .int (nI uc), .int ut, .int (nI lc), .int qu, .int ml], wI (cy 1) u8 7 (upd (upd (upd (upd fu8 (0 : Int32).toNatClampNeg zr1) (1 : Int32).toNatClampNeg hwi) (2 : Int32).toNatClampNeg x_2) (3 : Int32).toNatClampNeg (nI mm)), wI (cy 1) h4 4 (fcs), wO h9 3 [.ref h9a, .ref h9b, .int (nI nb), .int tb], wI (cy 1) h9a 280 (fcb), wI (cy 1) h9b 31 (fsb), wO h0 4 [.ref h1, .ref h2, .ref h3, .ref h4, .ref h5, .ref h6, .ref h7, .ref h8, .ref h9, .ref h10, .ref h11, hv0, hv1, .int hwi, hv3, hv4], wI (cy 1) h3 4 (fp)] hP9 hD9 hS9 (fun hP hD hS => ?_)
  clear hP9 hD9 hS9
  refine lv_aload_n hx hb dX8_sentTo_42 rfl (lv_at hl 1 rfl) ?_
  refine lv_aload_n hx hb dX8_sentTo_43 rfl (lv_at hl 0 rfl) ?_
  refine va_get (D := D) (ci := 8) (v := .ref u8) (C := RX8) (T := TX8) (N := 13) hx hb hg i_X8 hown hK hP 0 rfl rfl 7 (by decide) (hg _ m_461) (fun _ h9 => h9) rfl dX8_sentTo_44 ?_
  refine x_callVi (q := (RX4, TX4, 16)) (ci := 4) (q0 := 0) (wr := [wO u0 8 [.ref u1, .ref u2, .ref u3, .ref u4, .ref u5, .ref u6, .ref u7, .ref u8, .int (nI uc), .int ut, .int (nI lc), .int qu, .int ml], wI (cy 1) h4 4 (fcs), wI (cy 1) h3 4 (fp)]) (rest := []) ⟨hx, hb, hml, hown, hg, hl.1⟩ k_X8_57 (s_comes l D cy h0 h1 h2 h3 h4 h5 h6 h7 h8 h9 h10 h11 hv0 hv1 ((.int hwi)) hv3 hv4 h9a h9b nb tb fcb fsb u8 (upd (upd (upd (upd fu8 (0 : Int32).toNatClampNeg zr1) (1 : Int32).toNatClampNeg hwi) (2 : Int32).toNatClampNeg x_2) (3 : Int32).toNatClampNeg (nI mm)) mm (by omega) (hcb) (rfl) (by omega)) E0_blind hK hP hD hS hA [6, 3, 4, 5, 1] [0, 2, 7] ⟨rfl, rfl, by decide +kernel, by decide +kernel, by decide +kernel⟩ rfl rfl (fun _ _ _ => trivial) dX8_sentTo_47 rfl rfl (Nat.le_of_ble_eq_true rfl) ⟨Nat.le_of_ble_eq_true rfl, Nat.le_of_ble_eq_true rfl⟩ ⟨Nat.le_of_ble_eq_true rfl, Nat.le_of_ble_eq_true rfl⟩ (fun zr3 zu3 H locs hw3 hP9 hD9 hS9 => ?_)
  clear hP hD hS
  obtain ⟨fs2_4, k_5⟩ := zu3
  refine reW [wO u0 8 [.ref u1, .ref u2, .ref u3, .ref u4, .ref u5, .ref u6, .ref u7, .ref u8, .int (nI uc), .int ut, .int (nI lc), .int qu, .int ml], wI (cy 1) h4 4 (fcs), wI (cy 1) h3 4 (fp), wO h0 4 [.ref h1, .ref h2, .ref h3, .ref h4, .ref h5, .ref h6, .ref h7, .ref h8, .ref h9, .ref h10, .ref h11, hv0, hv1, .int hwi, hv3, hv4], wO h9 3 [.ref h9a, .ref h9b, .int (nI nb), .int tb], wI (cy 1) h9a 280 (fcb), wI (cy 1) h9b 31 (fs2_4), wI (cy 1) u8 7 (upd (upd (upd (upd fu8 (0 : Int32).toNatClampNeg zr1) (1 : Int32).toNatClampNeg hwi) (2 : Int32).toNatClampNeg x_2) (3 : Int32).toNatClampNeg (nI mm))] hP9 hD9 hS9 (fun hP hD hS => ?_)
  clear hP9 hD9 hS9
  refine W.widen (k := 0) (n := 0) (Nat.le_of_ble_eq_true rfl) (Nat.le_of_ble_eq_true rfl) ?_
  replace hw3 : (zr3 = nI k_5) ∧ (k_5 ≤ mm) := hw3
  obtain ⟨f_6, f_7⟩ := hw3
  subst f_6
  exact x_iret hQ hx hb hr hlocks hK hP hD hS dX8_sentTo_50 (upd (upd (upd (upd fu8 (0 : Int32).toNatClampNeg zr1) (1 : Int32).toNatClampNeg hwi) (2 : Int32).toNatClampNeg x_2) (3 : Int32).toNatClampNeg (nI mm), fs2_4, k_5) (⟨rfl, (show k_5 ≤ mm from by omega)⟩) [0, 7, 3, 2, 1, 4, 5, 6] (by decide +kernel) rfl (Nat.le_of_ble_eq_true rfl) (Nat.le_of_ble_eq_true rfl)
theorem gdX8_canBeAt_0 : decode cX8_canBeAt 0 = .ok (.iconst 0, 1) ∧ decode cX8_canBeAt 1 = .ok (.istore 4, 2) ∧ decode cX8_canBeAt 3 = .ok (.iload 4, 2) ∧ decode cX8_canBeAt 5 = .ok (.aload_n 0, 1) ∧ decode cX8_canBeAt 6 = .ok (.getfield 38, 3) ∧ decode cX8_canBeAt 9 = .ok (.if_icmp .ge 51, 3) ∧ decode cX8_canBeAt 60 = .ok (.iconst 1, 1) ∧ decode cX8_canBeAt 61 = .ok (.ireturn, 1) ∧ decode cX8_canBeAt 12 = .ok (.aload_n 0, 1) ∧ decode cX8_canBeAt 13 = .ok (.iload 4, 2) ∧ decode cX8_canBeAt 15 = .ok (.iload_n 3, 1) ∧ decode cX8_canBeAt 16 = .ok (.invokevirtual 68, 3) := by decide +kernel
theorem dX8_canBeAt_0 : decode cX8_canBeAt 0 = .ok (.iconst 0, 1) := gdX8_canBeAt_0.1
theorem dX8_canBeAt_1 : decode cX8_canBeAt 1 = .ok (.istore 4, 2) := gdX8_canBeAt_0.2.1
theorem dX8_canBeAt_3 : decode cX8_canBeAt 3 = .ok (.iload 4, 2) := gdX8_canBeAt_0.2.2.1
theorem dX8_canBeAt_5 : decode cX8_canBeAt 5 = .ok (.aload_n 0, 1) := gdX8_canBeAt_0.2.2.2.1
theorem dX8_canBeAt_6 : decode cX8_canBeAt 6 = .ok (.getfield 38, 3) := gdX8_canBeAt_0.2.2.2.2.1
theorem dX8_canBeAt_9 : decode cX8_canBeAt 9 = .ok (.if_icmp .ge 51, 3) := gdX8_canBeAt_0.2.2.2.2.2.1
theorem dX8_canBeAt_60 : decode cX8_canBeAt 60 = .ok (.iconst 1, 1) := gdX8_canBeAt_0.2.2.2.2.2.2.1
theorem dX8_canBeAt_61 : decode cX8_canBeAt 61 = .ok (.ireturn, 1) := gdX8_canBeAt_0.2.2.2.2.2.2.2.1
theorem dX8_canBeAt_12 : decode cX8_canBeAt 12 = .ok (.aload_n 0, 1) := gdX8_canBeAt_0.2.2.2.2.2.2.2.2.1
theorem dX8_canBeAt_13 : decode cX8_canBeAt 13 = .ok (.iload 4, 2) := gdX8_canBeAt_0.2.2.2.2.2.2.2.2.2.1
theorem dX8_canBeAt_15 : decode cX8_canBeAt 15 = .ok (.iload_n 3, 1) := gdX8_canBeAt_0.2.2.2.2.2.2.2.2.2.2.1
theorem dX8_canBeAt_16 : decode cX8_canBeAt 16 = .ok (.invokevirtual 68, 3) := gdX8_canBeAt_0.2.2.2.2.2.2.2.2.2.2.2
theorem k_X8_68 : xV RX8 RX8 68 yX8_counts cX8_counts 4 (some .boolean) 2 := ⟨⟨m_1353, m_1355, m_60, m_140, m_1356⟩, rfl, by decide, by decide, by decide +kernel⟩
theorem gdX8_canBeAt_19 : decode cX8_canBeAt 19 = .ok (.ifCond .eq 35, 3) ∧ decode cX8_canBeAt 54 = .ok (.iinc 4 1, 3) ∧ decode cX8_canBeAt 57 = .ok (.goto (-54), 3) ∧ decode cX8_canBeAt 22 = .ok (.aload_n 0, 1) ∧ decode cX8_canBeAt 23 = .ok (.aload_n 1, 1) ∧ decode cX8_canBeAt 24 = .ok (.iload_n 2, 1) ∧ decode cX8_canBeAt 25 = .ok (.aload_n 0, 1) ∧ decode cX8_canBeAt 26 = .ok (.getfield 9, 3) ∧ decode cX8_canBeAt 29 = .ok (.iload 4, 2) ∧ decode cX8_canBeAt 31 = .ok (.iaload, 1) ∧ decode cX8_canBeAt 32 = .ok (.aload_n 0, 1) ∧ decode cX8_canBeAt 33 = .ok (.getfield 15, 3) := by decide +kernel
theorem dX8_canBeAt_19 : decode cX8_canBeAt 19 = .ok (.ifCond .eq 35, 3) := gdX8_canBeAt_19.1
theorem dX8_canBeAt_54 : decode cX8_canBeAt 54 = .ok (.iinc 4 1, 3) := gdX8_canBeAt_19.2.1
theorem dX8_canBeAt_57 : decode cX8_canBeAt 57 = .ok (.goto (-54), 3) := gdX8_canBeAt_19.2.2.1
theorem dX8_canBeAt_22 : decode cX8_canBeAt 22 = .ok (.aload_n 0, 1) := gdX8_canBeAt_19.2.2.2.1
theorem dX8_canBeAt_23 : decode cX8_canBeAt 23 = .ok (.aload_n 1, 1) := gdX8_canBeAt_19.2.2.2.2.1
theorem dX8_canBeAt_24 : decode cX8_canBeAt 24 = .ok (.iload_n 2, 1) := gdX8_canBeAt_19.2.2.2.2.2.1
theorem dX8_canBeAt_25 : decode cX8_canBeAt 25 = .ok (.aload_n 0, 1) := gdX8_canBeAt_19.2.2.2.2.2.2.1
theorem dX8_canBeAt_26 : decode cX8_canBeAt 26 = .ok (.getfield 9, 3) := gdX8_canBeAt_19.2.2.2.2.2.2.2.1
theorem dX8_canBeAt_29 : decode cX8_canBeAt 29 = .ok (.iload 4, 2) := gdX8_canBeAt_19.2.2.2.2.2.2.2.2.1
theorem dX8_canBeAt_31 : decode cX8_canBeAt 31 = .ok (.iaload, 1) := gdX8_canBeAt_19.2.2.2.2.2.2.2.2.2.1
theorem dX8_canBeAt_32 : decode cX8_canBeAt 32 = .ok (.aload_n 0, 1) := gdX8_canBeAt_19.2.2.2.2.2.2.2.2.2.2.1
theorem dX8_canBeAt_33 : decode cX8_canBeAt 33 = .ok (.getfield 15, 3) := gdX8_canBeAt_19.2.2.2.2.2.2.2.2.2.2.2
theorem gdX8_canBeAt_36 : decode cX8_canBeAt 36 = .ok (.iload 4, 2) ∧ decode cX8_canBeAt 38 = .ok (.iaload, 1) ∧ decode cX8_canBeAt 39 = .ok (.invokevirtual 72, 3) := by decide +kernel
theorem dX8_canBeAt_36 : decode cX8_canBeAt 36 = .ok (.iload 4, 2) := gdX8_canBeAt_36.1
theorem dX8_canBeAt_38 : decode cX8_canBeAt 38 = .ok (.iaload, 1) := gdX8_canBeAt_36.2.1
theorem dX8_canBeAt_39 : decode cX8_canBeAt 39 = .ok (.invokevirtual 72, 3) := gdX8_canBeAt_36.2.2
theorem k_X8_72 : xV RX8 RX8 72 yX8_sentTo cX8_sentTo 5 (some .int) 4 := ⟨⟨m_1357, m_1359, m_61, m_140, m_1360⟩, rfl, by decide, by decide, by decide +kernel⟩
theorem gdX8_canBeAt_42 : decode cX8_canBeAt 42 = .ok (.aload_n 0, 1) ∧ decode cX8_canBeAt 43 = .ok (.getfield 18, 3) ∧ decode cX8_canBeAt 46 = .ok (.iload 4, 2) ∧ decode cX8_canBeAt 48 = .ok (.iaload, 1) ∧ decode cX8_canBeAt 49 = .ok (.if_icmp .eq 5, 3) ∧ decode cX8_canBeAt 52 = .ok (.iconst 0, 1) ∧ decode cX8_canBeAt 53 = .ok (.ireturn, 1) := by decide +kernel
theorem dX8_canBeAt_42 : decode cX8_canBeAt 42 = .ok (.aload_n 0, 1) := gdX8_canBeAt_42.1
theorem dX8_canBeAt_43 : decode cX8_canBeAt 43 = .ok (.getfield 18, 3) := gdX8_canBeAt_42.2.1
theorem dX8_canBeAt_46 : decode cX8_canBeAt 46 = .ok (.iload 4, 2) := gdX8_canBeAt_42.2.2.1
theorem dX8_canBeAt_48 : decode cX8_canBeAt 48 = .ok (.iaload, 1) := gdX8_canBeAt_42.2.2.2.1
theorem dX8_canBeAt_49 : decode cX8_canBeAt 49 = .ok (.if_icmp .eq 5, 3) := gdX8_canBeAt_42.2.2.2.2.1
theorem dX8_canBeAt_52 : decode cX8_canBeAt 52 = .ok (.iconst 0, 1) := gdX8_canBeAt_42.2.2.2.2.2.1
theorem dX8_canBeAt_53 : decode cX8_canBeAt 53 = .ok (.ireturn, 1) := gdX8_canBeAt_42.2.2.2.2.2.2
set_option maxHeartbeats 1000000 in
set_option maxRecDepth 100000 in
theorem s_canBeAt (l : Launch) (D : va_G) (cy : Nat → ClassId) (u0 : Nat) (u1 : Nat) (u2 : Nat) (u3 : Nat) (u4 : Nat) (u5 : Nat) (u6 : Nat) (u7 : Nat) (u8 : Nat) (uc : Nat) (ut : Int32) (lc : Nat) (qu : Int32) (ml : Int32) (fu1 : Nat → Int32) (fu2 : Nat → Int32) (fu3 : Nat → Int32) (fu4 : Nat → Int32) (fu5 : Nat → Int32) (fu8 : Nat → Int32) (h0 : Nat) (h1 : Nat) (h2 : Nat) (h3 : Nat) (h4 : Nat) (h5 : Nat) (h6 : Nat) (h7 : Nat) (h8 : Nat) (h9 : Nat) (h10 : Nat) (h11 : Nat) (hv0 : Value) (hv1 : Value) (hv3 : Value) (hv4 : Value) (hwi : Int32) (fp : Nat → Int32) (fcs : Nat → Int32) (h9a : Nat) (h9b : Nat) (nb : Nat) (tb : Int32) (fcb : Nat → Int32) (fsb : Nat → Int32) (pl : Int32) (kk : Int32) (huc : uc ≤ 30) (hlc : lc ≤ 100) (hu1 : rng fu1 30 3) (hu2 : rng fu2 30 10) (hnb : nb ≤ 280) (hcb : cOK fcb nb) : XMi l D (tyL cy) E0 yX8_canBeAt cX8_canBeAt 5 (some .boolean) (rmk 4 0 0) [.ref u0, .ref h0, .int pl, .int kk] [wO u0 8 [.ref u1, .ref u2, .ref u3, .ref u4, .ref u5, .ref u6, .ref u7, .ref u8, .int (nI uc), .int ut, .int (nI lc), .int qu, .int ml], wI (cy 1) u1 30 (fu1), wI (cy 1) u2 30 (fu2), wI (cy 1) u3 30 (fu3), wI (cy 1) u4 30 (fu4), wI (cy 1) u5 30 (fu5), wI (cy 1) u8 7 (fu8), wO h0 4 [.ref h1, .ref h2, .ref h3, .ref h4, .ref h5, .ref h6, .ref h7, .ref h8, .ref h9, .ref h10, .ref h11, hv0, hv1, .int hwi, hv3, hv4], wI (cy 1) h3 4 (fp), wI (cy 1) h4 4 (fcs), wO h9 3 [.ref h9a, .ref h9b, .int (nI nb), .int tb], wI (cy 1) h9a 280 (fcb), wI (cy 1) h9b 31 (fsb)] (fun (r : Int32) (u : (Nat → Int32) × (Nat → Int32)) => (r = 0 ∨ r = 1)) (fun (u : (Nat → Int32) × (Nat → Int32)) => [wO u0 8 [.ref u1, .ref u2, .ref u3, .ref u4, .ref u5, .ref u6, .ref u7, .ref u8, .int (nI uc), .int ut, .int (nI lc), .int qu, .int ml], wI (cy 1) u1 30 (fu1), wI (cy 1) u2 30 (fu2), wI (cy 1) u3 30 (fu3), wI (cy 1) u4 30 (fu4), wI (cy 1) u5 30 (fu5), wI (cy 1) u8 7 (u.1), wO h0 4 [.ref h1, .ref h2, .ref h3, .ref h4, .ref h5, .ref h6, .ref h7, .ref h8, .ref h9, .ref h10, .ref h11, hv0, hv1, .int hwi, hv3, hv4], wI (cy 1) h3 4 (fp), wI (cy 1) h4 4 (fcs), wO h9 3 [.ref h9a, .ref h9b, .int (nI nb), .int tb], wI (cy 1) h9a 280 (fcb), wI (cy 1) h9b 31 (u.2)]) := by
  refine XMi.start (by decide) (Nat.le_of_ble_eq_true rfl) ?_
  intro p e s m below meth c args A ls Q hat hQ
  obtain ⟨hx, hb, hr, hml, hown, hg, hlocks, hin, hK, hA, hP, hD, hS, hE, hl⟩ := hat
  have hown : s.vm.findClass RX8 = some m.cls := hown
  have hl : lv_has ls 5 [(0, .ref u0), (1, .ref h0), (2, .int pl), (3, .int kk)] := hl
  refine lv_iconst (v := 0) hx hb dX8_canBeAt_0 (by decide) ?_
  refine lv_istore (lv' := [(4, .int 0), (0, .ref u0), (1, .ref h0), (2, .int pl), (3, .int kk)]) hx hb dX8_canBeAt_1 hl (by decide) rfl (fun ls hl => ?_)
  have loop1 : ∀ (zn : Nat) (i1 : Nat) (fa1_1 : Nat → Int32) (fa2_1 : Nat → Int32), (i1 ≤ uc) → uc - i1 + 1 ≤ zn → ∀ (H : Heap) (locs : List Loc), va_P D vwCl [wO u0 8 [.ref u1, .ref u2, .ref u3, .ref u4, .ref u5, .ref u6, .ref u7, .ref u8, .int (nI uc), .int ut, .int (nI lc), .int qu, .int ml], wI (cy 1) u1 30 (fu1), wI (cy 1) u2 30 (fu2), wI (cy 1) u3 30 (fu3), wI (cy 1) u4 30 (fu4), wI (cy 1) u5 30 (fu5), wI (cy 1) u8 7 (fa1_1), wO h0 4 [.ref h1, .ref h2, .ref h3, .ref h4, .ref h5, .ref h6, .ref h7, .ref h8, .ref h9, .ref h10, .ref h11, hv0, hv1, .int hwi, hv3, hv4], wI (cy 1) h3 4 (fp), wI (cy 1) h4 4 (fcs), wO h9 3 [.ref h9a, .ref h9b, .int (nI nb), .int tb], wI (cy 1) h9a 280 (fcb), wI (cy 1) h9b 31 (fa2_1)] H → va_D A [wO u0 8 [.ref u1, .ref u2, .ref u3, .ref u4, .ref u5, .ref u6, .ref u7, .ref u8, .int (nI uc), .int ut, .int (nI lc), .int qu, .int ml], wI (cy 1) u1 30 (fu1), wI (cy 1) u2 30 (fu2), wI (cy 1) u3 30 (fu3), wI (cy 1) u4 30 (fu4), wI (cy 1) u5 30 (fu5), wI (cy 1) u8 7 (fa1_1), wO h0 4 [.ref h1, .ref h2, .ref h3, .ref h4, .ref h5, .ref h6, .ref h7, .ref h8, .ref h9, .ref h10, .ref h11, hv0, hv1, .int hwi, hv3, hv4], wI (cy 1) h3 4 (fp), wI (cy 1) h4 4 (fcs), wO h9 3 [.ref h9a, .ref h9b, .int (nI nb), .int tb], wI (cy 1) h9a 280 (fcb), wI (cy 1) h9b 31 (fa2_1)] → va_S A s.heap H locs → ∀ ls : Array Slot, lv_has ls 5 [(4, .int (nI i1)), (0, .ref u0), (1, .ref h0), (2, .int pl), (3, .int kk)] → W p l e (rmk 4 0 0) s m args below meth c H locs 0 0 Q (F0 m 3 ls []) := by
    try clear hP hD hS
    intro zn
    induction zn with
    | zero => intro i1 fa1_1 fa2_1 _ hz; exact absurd hz (by omega)
    | succ zn ih1 =>
      intro i1 fa1_1 fa2_1 hf0_1 hmu1 H locs hP hD hS ls hl
      refine lv_iload hx hb dX8_canBeAt_3 (lv_at hl 0 rfl) ?_
      refine lv_aload_n hx hb dX8_canBeAt_5 rfl (lv_at hl 1 rfl) ?_
      refine va_get (D := D) (ci := 8) (v := .int (nI uc)) (C := RX8) (T := TX8) (N := 13) hx hb hg i_X8 hown hK hP 0 rfl rfl 8 (by decide) (hg _ m_462) (fun _ h9 => h9) rfl dX8_canBeAt_6 ?_
      refine lv_icmp_ge (tgt := 60) hx hb dX8_canBeAt_9 (by decide) (fun c_2 => ?_) (fun c_2 => ?_)
      · have q_3 : uc ≤ i1 := q_le (a := uc) (b := i1) rfl rfl (by omega) (by omega) c_2
        refine lv_iconst (v := 1) hx hb dX8_canBeAt_60 (by decide) ?_
        exact x_zret hQ hx hb hr hlocks hK hP hD hS rfl dX8_canBeAt_61 (fa1_1, fa2_1) ((Or.inr rfl)) [0, 1, 2, 3, 4, 5, 6, 7, 8, 9, 10, 11, 12] (by decide +kernel) rfl (Nat.le_of_ble_eq_true rfl) (Nat.le_of_ble_eq_true rfl)
      · have q_3 : i1 < uc := q_nle (a := uc) (b := i1) rfl rfl (by omega) (by omega) c_2
        refine lv_aload_n hx hb dX8_canBeAt_12 rfl (lv_at hl 1 rfl) ?_
        refine lv_iload hx hb dX8_canBeAt_13 (lv_at hl 0 rfl) ?_
        refine lv_iload_n hx hb dX8_canBeAt_15 rfl (lv_at hl 4 rfl) ?_
        refine x_callVi (q := (RX8, TX8, 13)) (ci := 8) (q0 := 0) (wr := [wI (cy 1) u1 30 (fu1), wI (cy 1) u2 30 (fu2), wI (cy 1) u3 30 (fu3), wI (cy 1) u8 7 (fa1_1), wO h0 4 [.ref h1, .ref h2, .ref h3, .ref h4, .ref h5, .ref h6, .ref h7, .ref h8, .ref h9, .ref h10, .ref h11, hv0, hv1, .int hwi, hv3, hv4], wI (cy 1) h3 4 (fp), wI (cy 1) h4 4 (fcs), wO h9 3 [.ref h9a, .ref h9b, .int (nI nb), .int tb], wI (cy 1) h9a 280 (fcb), wI (cy 1) h9b 31 (fa2_1)]) (rest := []) ⟨hx, hb, hml, hown, hg, hl.1⟩ k_X8_68 (s_counts l D cy u0 u1 u2 u3 u4 u5 u6 u7 u8 uc ut lc qu ml fu4 fu5 i1 kk (by omega)) E0_blind hK hP hD hS hA [0, 4, 5] [1, 2, 3, 6, 7, 8, 9, 10, 11, 12] ⟨rfl, rfl, by decide +kernel, by decide +kernel, by decide +kernel⟩ rfl rfl (fun _ _ _ => trivial) dX8_canBeAt_16 rfl rfl (Nat.le_of_ble_eq_true rfl) ⟨Nat.le_of_ble_eq_true rfl, Nat.le_of_ble_eq_true rfl⟩ ⟨Nat.le_of_ble_eq_true rfl, Nat.le_of_ble_eq_true rfl⟩ (fun zr4 zu4 H locs hw4 hP9 hD9 hS9 => ?_)
        clear hP hD hS
        refine reW [wI (cy 1) u1 30 (fu1), wI (cy 1) u2 30 (fu2), wI (cy 1) u3 30 (fu3), wI (cy 1) u8 7 (fa1_1), wO h0 4 [.ref h1, .ref h2, .ref h3, .ref h4, .ref h5, .ref h6, .ref h7, .ref h8, .ref h9, .ref h10, .ref h11, hv0, hv1, .int hwi, hv3, hv4], wI (cy 1) h3 4 (fp), wI (cy 1) h4 4 (fcs), wO h9 3 [.ref h9a, .ref h9b, .int (nI nb), .int tb], wI (cy 1) h9a 280 (fcb), wI (cy 1) h9b 31 (fa2_1), wO u0 8 [.ref u1, .ref u2, .ref u3, .ref u4, .ref u5, .ref u6, .ref u7, .ref u8, .int (nI uc), .int ut, .int (nI lc), .int qu, .int ml], wI (cy 1) u4 30 (fu4), wI (cy 1) u5 30 (fu5)] hP9 hD9 hS9 (fun hP hD hS => ?_)
        clear hP9 hD9 hS9
        refine W.widen (k := 0) (n := 0) (Nat.le_of_ble_eq_true rfl) (Nat.le_of_ble_eq_true rfl) ?_
        replace hw4 : (zr4 = 0 ∨ zr4 = 1) := hw4
        have f_5 := hw4
        refine lv_if_eq (tgt := 54) hx hb dX8_canBeAt_19 (by decide) (fun c_19 => ?_) (fun c_19 => ?_)
        · refine lv_iinc (v := nI (i1 + 1)) (lv' := [(4, .int (nI (i1 + 1))), (0, .ref u0), (1, .ref h0), (2, .int pl), (3, .int kk)]) hx hb dX8_canBeAt_54 hl (k := 0) rfl (nI_add i1 1) (by decide) rfl (fun ls hl => ?_)
          refine lv_goto (tgt := 3) hx hb dX8_canBeAt_57 (by decide) ?_
          exact ih1  ((i1 + 1)) fa1_1 fa2_1 (by omega) (by omega) _ _ (hP.sub [10, 0, 1, 2, 11, 12, 3, 4, 5, 6, 7, 8, 9] rfl) (hD.sub [10, 0, 1, 2, 11, 12, 3, 4, 5, 6, 7, 8, 9] (by decide +kernel) rfl) hS ls (lv_sub hl [0, 1, 2, 3, 4] rfl)
        · refine lv_aload_n hx hb dX8_canBeAt_22 rfl (lv_at hl 1 rfl) ?_
          refine lv_aload_n hx hb dX8_canBeAt_23 rfl (lv_at hl 2 rfl) ?_
          refine lv_iload_n hx hb dX8_canBeAt_24 rfl (lv_at hl 3 rfl) ?_
          refine lv_aload_n hx hb dX8_canBeAt_25 rfl (lv_at hl 1 rfl) ?_
          refine va_get (D := D) (ci := 8) (v := .ref u1) (C := RX8) (T := TX8) (N := 13) hx hb hg i_X8 hown hK hP 10 rfl rfl 0 (by decide) (hg _ m_454) (fun _ h9 => h9) rfl dX8_canBeAt_26 ?_
          refine lv_iload hx hb dX8_canBeAt_29 (lv_at hl 0 rfl) ?_
          refine va_iald hx hb hK hP 0 1 rfl rfl (vp_in_nI (by omega) (by decide)) dX8_canBeAt_31 ?_
          obtain ⟨j_6, hj_6, ej_6⟩ := rng_at hu1 (i := i1) (by omega) (by decide)
          refine lv_topi (fun y_7 hy_7 => ?_)
          obtain rfl : y_7 = nI j_6 := hy_7.trans ej_6
          refine lv_aload_n hx hb dX8_canBeAt_32 rfl (lv_at hl 1 rfl) ?_
          refine va_get (D := D) (ci := 8) (v := .ref u2) (C := RX8) (T := TX8) (N := 13) hx hb hg i_X8 hown hK hP 10 rfl rfl 1 (by decide) (hg _ m_455) (fun _ h9 => h9) rfl dX8_canBeAt_33 ?_
          refine lv_iload hx hb dX8_canBeAt_36 (lv_at hl 0 rfl) ?_
          refine va_iald hx hb hK hP 1 1 rfl rfl (vp_in_nI (by omega) (by decide)) dX8_canBeAt_38 ?_
          obtain ⟨j_8, hj_8, ej_8⟩ := rng_at hu2 (i := i1) (by omega) (by decide)
          refine lv_topi (fun y_9 hy_9 => ?_)
          obtain rfl : y_9 = nI j_8 := hy_9.trans ej_8
          refine x_callVi (q := (RX8, TX8, 13)) (ci := 8) (q0 := 0) (wr := [wI (cy 1) u1 30 (fu1), wI (cy 1) u2 30 (fu2), wI (cy 1) u3 30 (fu3), wI (cy 1) u4 30 (fu4), wI (cy 1) u5 30 (fu5)]) (rest := []) ⟨hx, hb, hml, hown, hg, hl.1⟩ k_X8_72 (s_sentTo l D cy u0 u1 u2 u3 u4 u5 u6 u7 u8 uc ut lc qu ml fa1_1 h0 h1 h2 h3 h4 h5 h6 h7 h8 h9 h10 h11 hv0 hv1 hv3 hv4 hwi fp fcs h9a h9b nb tb fcb fa2_1 pl j_6 j_8 (by omega) (hcb) (by omega) (by omega)) E0_blind hK hP hD hS hA [10, 3, 4, 5, 6, 7, 8, 9] [0, 1, 2, 11, 12] ⟨rfl, rfl, by decide +kernel, by decide +kernel, by decide +kernel⟩ rfl rfl (fun _ _ _ => trivial) dX8_canBeAt_39 rfl rfl (Nat.le_of_ble_eq_true rfl) ⟨Nat.le_of_ble_eq_true rfl, Nat.le_of_ble_eq_true rfl⟩ ⟨Nat.le_of_ble_eq_true rfl, Nat.le_of_ble_eq_true rfl⟩ (fun zr10 zu10 H locs hw10 hP9 hD9 hS9 => ?_)
          clear hP hD hS
          obtain ⟨fu82_11, fsb2_12, k_13⟩ := zu10
          refine reW [wI (cy 1) u1 30 (fu1), wI (cy 1) u2 30 (fu2), wI (cy 1) u3 30 (fu3), wI (cy 1) u4 30 (fu4), wI (cy 1) u5 30 (fu5), wO u0 8 [.ref u1, .ref u2, .ref u3, .ref u4, .ref u5, .ref u6, .ref u7, .ref u8, .int (nI uc), .int ut, .int (nI lc), .int qu, .int ml], wI (cy 1) u8 7 (fu82_11), wO h0 4 [.ref h1, .ref h2, .ref h3, .ref h4, .ref h5, .ref h6, .ref h7, .ref h8, .ref h9, .ref h10, .ref h11, hv0, hv1, .int hwi, hv3, hv4], wI (cy 1) h3 4 (fp), wI (cy 1) h4 4 (fcs), wO h9 3 [.ref h9a, .ref h9b, .int (nI nb), .int tb], wI (cy 1) h9a 280 (fcb), wI (cy 1) h9b 31 (fsb2_12)] hP9 hD9 hS9 (fun hP hD hS => ?_)
          clear hP9 hD9 hS9
          refine W.widen (k := 0) (n := 0) (Nat.le_of_ble_eq_true rfl) (Nat.le_of_ble_eq_true rfl) ?_
          replace hw10 : (zr10 = nI k_13) ∧ (k_13 ≤ j_8) := hw10
          obtain ⟨f_14, f_15⟩ := hw10
          subst f_14
          refine lv_aload_n hx hb dX8_canBeAt_42 rfl (lv_at hl 1 rfl) ?_
          refine va_get (D := D) (ci := 8) (v := .ref u3) (C := RX8) (T := TX8) (N := 13) hx hb hg i_X8 hown hK hP 5 rfl rfl 2 (by decide) (hg _ m_456) (fun _ h9 => h9) rfl dX8_canBeAt_43 ?_
          refine lv_iload hx hb dX8_canBeAt_46 (lv_at hl 0 rfl) ?_
          refine va_iald hx hb hK hP 2 1 rfl rfl (vp_in_nI (by omega) (by decide)) dX8_canBeAt_48 ?_
          refine lv_topi (fun x_16 ex_16 => ?_)
          refine lv_icmp_eq (tgt := 54) hx hb dX8_canBeAt_49 (by decide) (fun c_49 => ?_) (fun c_49 => ?_)
          · refine lv_iinc (v := nI (i1 + 1)) (lv' := [(4, .int (nI (i1 + 1))), (0, .ref u0), (1, .ref h0), (2, .int pl), (3, .int kk)]) hx hb dX8_canBeAt_54 hl (k := 0) rfl (nI_add i1 1) (by decide) rfl (fun ls hl => ?_)
            refine lv_goto (tgt := 3) hx hb dX8_canBeAt_57 (by decide) ?_
            exact ih1  ((i1 + 1)) fu82_11 fsb2_12 (by omega) (by omega) _ _ (hP.sub [5, 0, 1, 2, 3, 4, 6, 7, 8, 9, 10, 11, 12] rfl) (hD.sub [5, 0, 1, 2, 3, 4, 6, 7, 8, 9, 10, 11, 12] (by decide +kernel) rfl) hS ls (lv_sub hl [0, 1, 2, 3, 4] rfl)
          · refine lv_iconst (v := 0) hx hb dX8_canBeAt_52 (by decide) ?_
            exact x_zret hQ hx hb hr hlocks hK hP hD hS rfl dX8_canBeAt_53 (fu82_11, fsb2_12) ((Or.inl rfl)) [5, 0, 1, 2, 3, 4, 6, 7, 8, 9, 10, 11, 12] (by decide +kernel) rfl (Nat.le_of_ble_eq_true rfl) (Nat.le_of_ble_eq_true rfl)
  exact loop1 _ 0 fu8 fsb (by omega) (Nat.le_refl _) _ _ (hP.sub [0, 1, 2, 3, 4, 5, 6, 7, 8, 9, 10, 11, 12] rfl) (hD.sub [0, 1, 2, 3, 4, 5, 6, 7, 8, 9, 10, 11, 12] (by decide +kernel) rfl) hS ls (lv_sub hl [0, 1, 2, 3, 4] rfl)
theorem gdX8_findLeft_0 : decode cX8_findLeft 0 = .ok (.aload_n 0, 1) ∧ decode cX8_findLeft 1 = .ok (.iconst 0, 1) ∧ decode cX8_findLeft 2 = .ok (.putfield 61, 3) ∧ decode cX8_findLeft 5 = .ok (.iconst 0, 1) ∧ decode cX8_findLeft 6 = .ok (.istore_n 3, 1) ∧ decode cX8_findLeft 7 = .ok (.iload_n 3, 1) ∧ decode cX8_findLeft 8 = .ok (.bipush 100, 2) ∧ decode cX8_findLeft 10 = .ok (.if_icmp .ge 39, 3) ∧ decode cX8_findLeft 49 = .ok (.return_, 1) ∧ decode cX8_findLeft 13 = .ok (.aload_n 0, 1) ∧ decode cX8_findLeft 14 = .ok (.aload_n 1, 1) ∧ decode cX8_findLeft 15 = .ok (.iload_n 3, 1) := by decide +kernel
theorem dX8_findLeft_0 : decode cX8_findLeft 0 = .ok (.aload_n 0, 1) := gdX8_findLeft_0.1
theorem dX8_findLeft_1 : decode cX8_findLeft 1 = .ok (.iconst 0, 1) := gdX8_findLeft_0.2.1
theorem dX8_findLeft_2 : decode cX8_findLeft 2 = .ok (.putfield 61, 3) := gdX8_findLeft_0.2.2.1
theorem dX8_findLeft_5 : decode cX8_findLeft 5 = .ok (.iconst 0, 1) := gdX8_findLeft_0.2.2.2.1
theorem dX8_findLeft_6 : decode cX8_findLeft 6 = .ok (.istore_n 3, 1) := gdX8_findLeft_0.2.2.2.2.1
theorem dX8_findLeft_7 : decode cX8_findLeft 7 = .ok (.iload_n 3, 1) := gdX8_findLeft_0.2.2.2.2.2.1
theorem dX8_findLeft_8 : decode cX8_findLeft 8 = .ok (.bipush 100, 2) := gdX8_findLeft_0.2.2.2.2.2.2.1
theorem dX8_findLeft_10 : decode cX8_findLeft 10 = .ok (.if_icmp .ge 39, 3) := gdX8_findLeft_0.2.2.2.2.2.2.2.1
theorem dX8_findLeft_49 : decode cX8_findLeft 49 = .ok (.return_, 1) := gdX8_findLeft_0.2.2.2.2.2.2.2.2.1
theorem dX8_findLeft_13 : decode cX8_findLeft 13 = .ok (.aload_n 0, 1) := gdX8_findLeft_0.2.2.2.2.2.2.2.2.2.1
theorem dX8_findLeft_14 : decode cX8_findLeft 14 = .ok (.aload_n 1, 1) := gdX8_findLeft_0.2.2.2.2.2.2.2.2.2.2.1
theorem dX8_findLeft_15 : decode cX8_findLeft 15 = .ok (.iload_n 3, 1) := gdX8_findLeft_0.2.2.2.2.2.2.2.2.2.2.2
theorem dX8_findLeft_16 : decode cX8_findLeft 16 = .ok (.iload_n 2, 1) := by decide +kernel
theorem dX8_findLeft_17 : decode cX8_findLeft 17 = .ok (.invokevirtual 64, 3) := by decide +kernel
theorem k_X8_64 : xV RX8 RX8 64 yX8_canBeAt cX8_canBeAt 5 (some .boolean) 3 := ⟨⟨m_1349, m_1351, m_59, m_140, m_1352⟩, rfl, by decide, by decide, by decide +kernel⟩
theorem gdX8_findLeft_20 : decode cX8_findLeft 20 = .ok (.ifCond .eq 23, 3) ∧ decode cX8_findLeft 43 = .ok (.iinc 3 1, 3) ∧ decode cX8_findLeft 46 = .ok (.goto (-39), 3) ∧ decode cX8_findLeft 23 = .ok (.aload_n 0, 1) ∧ decode cX8_findLeft 24 = .ok (.getfield 27, 3) ∧ decode cX8_findLeft 27 = .ok (.aload_n 0, 1) ∧ decode cX8_findLeft 28 = .ok (.getfield 61, 3) ∧ decode cX8_findLeft 31 = .ok (.iload_n 3, 1) ∧ decode cX8_findLeft 32 = .ok (.iastore, 1) ∧ decode cX8_findLeft 33 = .ok (.aload_n 0, 1) ∧ decode cX8_findLeft 34 = .ok (.dup, 1) ∧ decode cX8_findLeft 35 = .ok (.getfield 61, 3) := by decide +kernel
theorem dX8_findLeft_20 : decode cX8_findLeft 20 = .ok (.ifCond .eq 23, 3) := gdX8_findLeft_20.1
theorem dX8_findLeft_43 : decode cX8_findLeft 43 = .ok (.iinc 3 1, 3) := gdX8_findLeft_20.2.1
theorem dX8_findLeft_46 : decode cX8_findLeft 46 = .ok (.goto (-39), 3) := gdX8_findLeft_20.2.2.1
theorem dX8_findLeft_23 : decode cX8_findLeft 23 = .ok (.aload_n 0, 1) := gdX8_findLeft_20.2.2.2.1
theorem dX8_findLeft_24 : decode cX8_findLeft 24 = .ok (.getfield 27, 3) := gdX8_findLeft_20.2.2.2.2.1
theorem dX8_findLeft_27 : decode cX8_findLeft 27 = .ok (.aload_n 0, 1) := gdX8_findLeft_20.2.2.2.2.2.1
theorem dX8_findLeft_28 : decode cX8_findLeft 28 = .ok (.getfield 61, 3) := gdX8_findLeft_20.2.2.2.2.2.2.1
theorem dX8_findLeft_31 : decode cX8_findLeft 31 = .ok (.iload_n 3, 1) := gdX8_findLeft_20.2.2.2.2.2.2.2.1
theorem dX8_findLeft_32 : decode cX8_findLeft 32 = .ok (.iastore, 1) := gdX8_findLeft_20.2.2.2.2.2.2.2.2.1
theorem dX8_findLeft_33 : decode cX8_findLeft 33 = .ok (.aload_n 0, 1) := gdX8_findLeft_20.2.2.2.2.2.2.2.2.2.1
theorem dX8_findLeft_34 : decode cX8_findLeft 34 = .ok (.dup, 1) := gdX8_findLeft_20.2.2.2.2.2.2.2.2.2.2.1
theorem dX8_findLeft_35 : decode cX8_findLeft 35 = .ok (.getfield 61, 3) := gdX8_findLeft_20.2.2.2.2.2.2.2.2.2.2.2
theorem gdX8_findLeft_38 : decode cX8_findLeft 38 = .ok (.iconst 1, 1) ∧ decode cX8_findLeft 39 = .ok (.iadd, 1) ∧ decode cX8_findLeft 40 = .ok (.putfield 61, 3) := by decide +kernel
theorem dX8_findLeft_38 : decode cX8_findLeft 38 = .ok (.iconst 1, 1) := gdX8_findLeft_38.1
theorem dX8_findLeft_39 : decode cX8_findLeft 39 = .ok (.iadd, 1) := gdX8_findLeft_38.2.1
theorem dX8_findLeft_40 : decode cX8_findLeft 40 = .ok (.putfield 61, 3) := gdX8_findLeft_38.2.2
set_option maxHeartbeats 1000000 in
set_option maxRecDepth 100000 in
theorem s_findLeft (l : Launch) (D : va_G) (cy : Nat → ClassId) (u0 : Nat) (u1 : Nat) (u2 : Nat) (u3 : Nat) (u4 : Nat) (u5 : Nat) (u6 : Nat) (u7 : Nat) (u8 : Nat) (uc : Nat) (ut : Int32) (lc : Nat) (qu : Int32) (ml : Int32) (fu1 : Nat → Int32) (fu2 : Nat → Int32) (fu3 : Nat → Int32) (fu4 : Nat → Int32) (fu5 : Nat → Int32) (fu6 : Nat → Int32) (fu8 : Nat → Int32) (h0 : Nat) (h1 : Nat) (h2 : Nat) (h3 : Nat) (h4 : Nat) (h5 : Nat) (h6 : Nat) (h7 : Nat) (h8 : Nat) (h9 : Nat) (h10 : Nat) (h11 : Nat) (hv0 : Value) (hv1 : Value) (hv3 : Value) (hv4 : Value) (hwi : Int32) (fp : Nat → Int32) (fcs : Nat → Int32) (h9a : Nat) (h9b : Nat) (nb : Nat) (tb : Int32) (fcb : Nat → Int32) (fsb : Nat → Int32) (kk : Int32) (huc : uc ≤ 30) (hlc : lc ≤ 100) (hu1 : rng fu1 30 3) (hu2 : rng fu2 30 10) (hnb : nb ≤ 280) (hcb : cOK fcb nb) : XMv l D (tyL cy) E0 yX8_findLeft cX8_findLeft 4 none (rmk 5 0 0) [.ref u0, .ref h0, .int kk] [wO u0 8 [.ref u1, .ref u2, .ref u3, .ref u4, .ref u5, .ref u6, .ref u7, .ref u8, .int (nI uc), .int ut, .int (nI lc), .int qu, .int ml], wI (cy 1) u1 30 (fu1), wI (cy 1) u2 30 (fu2), wI (cy 1) u3 30 (fu3), wI (cy 1) u4 30 (fu4), wI (cy 1) u5 30 (fu5), wI (cy 1) u6 100 (fu6), wI (cy 1) u8 7 (fu8), wO h0 4 [.ref h1, .ref h2, .ref h3, .ref h4, .ref h5, .ref h6, .ref h7, .ref h8, .ref h9, .ref h10, .ref h11, hv0, hv1, .int hwi, hv3, hv4], wI (cy 1) h3 4 (fp), wI (cy 1) h4 4 (fcs), wO h9 3 [.ref h9a, .ref h9b, .int (nI nb), .int tb], wI (cy 1) h9a 280 (fcb), wI (cy 1) h9b 31 (fsb)] (fun (u : Nat × (Nat → Int32) × (Nat → Int32) × (Nat → Int32)) => (u.1 ≤ 100)) (fun (u : Nat × (Nat → Int32) × (Nat → Int32) × (Nat → Int32)) => [wO u0 8 [.ref u1, .ref u2, .ref u3, .ref u4, .ref u5, .ref u6, .ref u7, .ref u8, .int (nI uc), .int ut, .int (nI u.1), .int qu, .int ml], wI (cy 1) u1 30 (fu1), wI (cy 1) u2 30 (fu2), wI (cy 1) u3 30 (fu3), wI (cy 1) u4 30 (fu4), wI (cy 1) u5 30 (fu5), wI (cy 1) u6 100 (u.2.1), wI (cy 1) u8 7 (u.2.2.1), wO h0 4 [.ref h1, .ref h2, .ref h3, .ref h4, .ref h5, .ref h6, .ref h7, .ref h8, .ref h9, .ref h10, .ref h11, hv0, hv1, .int hwi, hv3, hv4], wI (cy 1) h3 4 (fp), wI (cy 1) h4 4 (fcs), wO h9 3 [.ref h9a, .ref h9b, .int (nI nb), .int tb], wI (cy 1) h9a 280 (fcb), wI (cy 1) h9b 31 (u.2.2.2)]) := by
  refine XMv.start (by decide) (Nat.le_of_ble_eq_true rfl) ?_
  intro p e s m below meth c args A ls Q hat hQ
  obtain ⟨hx, hb, hr, hml, hown, hg, hlocks, hin, hK, hA, hP, hD, hS, hE, hl⟩ := hat
  have hown : s.vm.findClass RX8 = some m.cls := hown
  have hl : lv_has ls 4 [(0, .ref u0), (1, .ref h0), (2, .int kk)] := hl
  refine lv_aload_n hx hb dX8_findLeft_0 rfl (lv_at hl 0 rfl) ?_
  refine lv_iconst (v := 0) hx hb dX8_findLeft_1 (by decide) ?_
  refine va_put (D := D) (ci := 8) (v := .int 0) (ty := .int) (C := RX8) (T := TX8) (N := 13) hx hb hg i_X8 tyX8 tyX8_ok nmX8 hown hK hP hD hS 0 rfl rfl 10 (by decide) (hg _ m_466) (fun _ h9 => h9) rfl (by decide +kernel) rfl rfl (Nat.le_of_ble_eq_true rfl) dX8_findLeft_2 (fun H locs hP9 hD9 hS9 => ?_)
  clear hP hD hS
  refine reW [wO u0 8 [.ref u1, .ref u2, .ref u3, .ref u4, .ref u5, .ref u6, .ref u7, .ref u8, .int (nI uc), .int ut, .int 0, .int qu, .int ml], wI (cy 1) u1 30 (fu1), wI (cy 1) u2 30 (fu2), wI (cy 1) u3 30 (fu3), wI (cy 1) u4 30 (fu4), wI (cy 1) u5 30 (fu5), wI (cy 1) u6 100 (fu6), wI (cy 1) u8 7 (fu8), wO h0 4 [.ref h1, .ref h2, .ref h3, .ref h4, .ref h5, .ref h6, .ref h7, .ref h8, .ref h9, .ref h10, .ref h11, hv0, hv1, .int hwi, hv3, hv4], wI (cy 1) h3 4 (fp), wI (cy 1) h4 4 (fcs), wO h9 3 [.ref h9a, .ref h9b, .int (nI nb), .int tb], wI (cy 1) h9a 280 (fcb), wI (cy 1) h9b 31 (fsb)] hP9 hD9 hS9 (fun hP hD hS => ?_)
  clear hP9 hD9 hS9
  refine lv_iconst (v := 0) hx hb dX8_findLeft_5 (by decide) ?_
  refine lv_istore_n (lv' := [(3, .int 0), (0, .ref u0), (1, .ref h0), (2, .int kk)]) hx hb dX8_findLeft_6 rfl hl (by decide) rfl (fun ls hl => ?_)
  have loop1 : ∀ (zn : Nat) (i1 : Nat) (lq1 : Nat) (fa2_1 : Nat → Int32) (fa3_1 : Nat → Int32) (fa4_1 : Nat → Int32), (i1 ≤ 100) → (lq1 ≤ i1) → 100 - i1 + 1 ≤ zn → ∀ (H : Heap) (locs : List Loc), va_P D vwCl [wO u0 8 [.ref u1, .ref u2, .ref u3, .ref u4, .ref u5, .ref u6, .ref u7, .ref u8, .int (nI uc), .int ut, .int (nI lq1), .int qu, .int ml], wI (cy 1) u1 30 (fu1), wI (cy 1) u2 30 (fu2), wI (cy 1) u3 30 (fu3), wI (cy 1) u4 30 (fu4), wI (cy 1) u5 30 (fu5), wI (cy 1) u6 100 (fa2_1), wI (cy 1) u8 7 (fa3_1), wO h0 4 [.ref h1, .ref h2, .ref h3, .ref h4, .ref h5, .ref h6, .ref h7, .ref h8, .ref h9, .ref h10, .ref h11, hv0, hv1, .int hwi, hv3, hv4], wI (cy 1) h3 4 (fp), wI (cy 1) h4 4 (fcs), wO h9 3 [.ref h9a, .ref h9b, .int (nI nb), .int tb], wI (cy 1) h9a 280 (fcb), wI (cy 1) h9b 31 (fa4_1)] H → va_D A [wO u0 8 [.ref u1, .ref u2, .ref u3, .ref u4, .ref u5, .ref u6, .ref u7, .ref u8, .int (nI uc), .int ut, .int (nI lq1), .int qu, .int ml], wI (cy 1) u1 30 (fu1), wI (cy 1) u2 30 (fu2), wI (cy 1) u3 30 (fu3), wI (cy 1) u4 30 (fu4), wI (cy 1) u5 30 (fu5), wI (cy 1) u6 100 (fa2_1), wI (cy 1) u8 7 (fa3_1), wO h0 4 [.ref h1, .ref h2, .ref h3, .ref h4, .ref h5, .ref h6, .ref h7, .ref h8, .ref h9, .ref h10, .ref h11, hv0, hv1, .int hwi, hv3, hv4], wI (cy 1) h3 4 (fp), wI (cy 1) h4 4 (fcs), wO h9 3 [.ref h9a, .ref h9b, .int (nI nb), .int tb], wI (cy 1) h9a 280 (fcb), wI (cy 1) h9b 31 (fa4_1)] → va_S A s.heap H locs → ∀ ls : Array Slot, lv_has ls 4 [(3, .int (nI i1)), (0, .ref u0), (1, .ref h0), (2, .int kk)] → W p l e (rmk 5 0 0) s m args below meth c H locs 0 0 Q (F0 m 7 ls []) := by
    try clear hP hD hS
    intro zn
    induction zn with
    | zero => intro i1 lq1 fa2_1 fa3_1 fa4_1 _ _ hz; exact absurd hz (by omega)
    | succ zn ih1 =>
      intro i1 lq1 fa2_1 fa3_1 fa4_1 hf0_1 hf1_1 hmu1 H locs hP hD hS ls hl
      refine lv_iload_n hx hb dX8_findLeft_7 rfl (lv_at hl 0 rfl) ?_
      refine lv_bipush (v := 100) hx hb dX8_findLeft_8 (by decide) ?_
      refine lv_icmp_ge (tgt := 49) hx hb dX8_findLeft_10 (by decide) (fun c_2 => ?_) (fun c_2 => ?_)
      · have q_3 : 100 ≤ i1 := q_le (a := 100) (b := i1) rfl rfl (by omega) (by omega) c_2
        exact x_vret hQ hx hb hr hlocks hK hP hD hS dX8_findLeft_49 (lq1, fa2_1, fa3_1, fa4_1) ((show lq1 ≤ 100 from by omega)) [0, 1, 2, 3, 4, 5, 6, 7, 8, 9, 10, 11, 12, 13] (by decide +kernel) rfl (Nat.le_of_ble_eq_true rfl) (Nat.le_of_ble_eq_true rfl)
      · have q_3 : i1 < 100 := q_nle (a := 100) (b := i1) rfl rfl (by omega) (by omega) c_2
        refine lv_aload_n hx hb dX8_findLeft_13 rfl (lv_at hl 1 rfl) ?_
        refine lv_aload_n hx hb dX8_findLeft_14 rfl (lv_at hl 2 rfl) ?_
        refine lv_iload_n hx hb dX8_findLeft_15 rfl (lv_at hl 0 rfl) ?_
        refine lv_iload_n hx hb dX8_findLeft_16 rfl (lv_at hl 3 rfl) ?_
        refine x_callVi (q := (RX8, TX8, 13)) (ci := 8) (q0 := 0) (wr := [wI (cy 1) u6 100 (fa2_1)]) (rest := []) ⟨hx, hb, hml, hown, hg, hl.1⟩ k_X8_64 (s_canBeAt l D cy u0 u1 u2 u3 u4 u5 u6 u7 u8 uc ut lq1 qu ml fu1 fu2 fu3 fu4 fu5 fa3_1 h0 h1 h2 h3 h4 h5 h6 h7 h8 h9 h10 h11 hv0 hv1 hv3 hv4 hwi fp fcs h9a h9b nb tb fcb fa4_1 (nI i1) kk (by omega) (by omega) (hu1) (hu2) (by omega) (hcb)) E0_blind hK hP hD hS hA [0, 1, 2, 3, 4, 5, 7, 8, 9, 10, 11, 12, 13] [6] ⟨rfl, rfl, by decide +kernel, by decide +kernel, by decide +kernel⟩ rfl rfl (fun _ _ _ => trivial) dX8_findLeft_17 rfl rfl (Nat.le_of_ble_eq_true rfl) ⟨Nat.le_of_ble_eq_true rfl, Nat.le_of_ble_eq_true rfl⟩ ⟨Nat.le_of_ble_eq_true rfl, Nat.le_of_ble_eq_true rfl⟩ (fun zr4 zu4 H locs hw4 hP9 hD9 hS9 => ?_)
        clear hP hD hS
        obtain ⟨fu82_5, fsb2_6⟩ := zu4
        refine reW [wI (cy 1) u6 100 (fa2_1), wO u0 8 [.ref u1, .ref u2, .ref u3, .ref u4, .ref u5, .ref u6, .ref u7, .ref u8, .int (nI uc), .int ut, .int (nI lq1), .int qu, .int ml], wI (cy 1) u1 30 (fu1), wI (cy 1) u2 30 (fu2), wI (cy 1) u3 30 (fu3), wI (cy 1) u4 30 (fu4), wI (cy 1) u5 30 (fu5), wI (cy 1) u8 7 (fu82_5), wO h0 4 [.ref h1, .ref h2, .ref h3, .ref h4, .ref h5, .ref h6, .ref h7, .ref h8, .ref h9, .ref h10, .ref h11, hv0, hv1, .int hwi, hv3, hv4], wI (cy 1) h3 4 (fp), wI (cy 1) h4 4 (fcs), wO h9 3 [.ref h9a, .ref h9b, .int (nI nb), .int tb], wI (cy 1) h9a 280 (fcb), wI (cy 1) h9b 31 (fsb2_6)] hP9 hD9 hS9 (fun hP hD hS => ?_)
        clear hP9 hD9 hS9
        refine W.widen (k := 0) (n := 0) (Nat.le_of_ble_eq_true rfl) (Nat.le_of_ble_eq_true rfl) ?_
        replace hw4 : (zr4 = 0 ∨ zr4 = 1) := hw4
        have f_7 := hw4
        refine lv_if_eq (tgt := 43) hx hb dX8_findLeft_20 (by decide) (fun c_20 => ?_) (fun c_20 => ?_)
        · refine lv_iinc (v := nI (i1 + 1)) (lv' := [(3, .int (nI (i1 + 1))), (0, .ref u0), (1, .ref h0), (2, .int kk)]) hx hb dX8_findLeft_43 hl (k := 0) rfl (nI_add i1 1) (by decide) rfl (fun ls hl => ?_)
          refine lv_goto (tgt := 7) hx hb dX8_findLeft_46 (by decide) ?_
          exact ih1  ((i1 + 1)) lq1 fa2_1 fu82_5 fsb2_6 (by omega) (by omega) (by omega) _ _ (hP.sub [1, 2, 3, 4, 5, 6, 0, 7, 8, 9, 10, 11, 12, 13] rfl) (hD.sub [1, 2, 3, 4, 5, 6, 0, 7, 8, 9, 10, 11, 12, 13] (by decide +kernel) rfl) hS ls (lv_sub hl [0, 1, 2, 3] rfl)
        · refine lv_aload_n hx hb dX8_findLeft_23 rfl (lv_at hl 1 rfl) ?_
          refine va_get (D := D) (ci := 8) (v := .ref u6) (C := RX8) (T := TX8) (N := 13) hx hb hg i_X8 hown hK hP 1 rfl rfl 5 (by decide) (hg _ m_459) (fun _ h9 => h9) rfl dX8_findLeft_24 ?_
          refine lv_aload_n hx hb dX8_findLeft_27 rfl (lv_at hl 1 rfl) ?_
          refine va_get (D := D) (ci := 8) (v := .int (nI lq1)) (C := RX8) (T := TX8) (N := 13) hx hb hg i_X8 hown hK hP 1 rfl rfl 10 (by decide) (hg _ m_466) (fun _ h9 => h9) rfl dX8_findLeft_28 ?_
          refine lv_iload_n hx hb dX8_findLeft_31 rfl (lv_at hl 0 rfl) ?_
          refine va_iast hx hb hK hP hD hS 0 1 rfl rfl (vp_in_nI (by omega) (by decide)) dX8_findLeft_32 (fun H locs hP9 hD9 hS9 => ?_)
          clear hP hD hS
          obtain ⟨g_8, eg_8⟩ : ∃ y, upd fa2_1 (nI lq1 : Int32).toNatClampNeg (nI i1) = y := ⟨_, rfl⟩
          rw [eg_8] at hP9 hD9
          refine reW [wI (cy 1) u6 100 (g_8), wO u0 8 [.ref u1, .ref u2, .ref u3, .ref u4, .ref u5, .ref u6, .ref u7, .ref u8, .int (nI uc), .int ut, .int (nI lq1), .int qu, .int ml], wI (cy 1) u1 30 (fu1), wI (cy 1) u2 30 (fu2), wI (cy 1) u3 30 (fu3), wI (cy 1) u4 30 (fu4), wI (cy 1) u5 30 (fu5), wI (cy 1) u8 7 (fu82_5), wO h0 4 [.ref h1, .ref h2, .ref h3, .ref h4, .ref h5, .ref h6, .ref h7, .ref h8, .ref h9, .ref h10, .ref h11, hv0, hv1, .int hwi, hv3, hv4], wI (cy 1) h3 4 (fp), wI (cy 1) h4 4 (fcs), wO h9 3 [.ref h9a, .ref h9b, .int (nI nb), .int tb], wI (cy 1) h9a 280 (fcb), wI (cy 1) h9b 31 (fsb2_6)] hP9 hD9 hS9 (fun hP hD hS => ?_)
          clear hP9 hD9 hS9
          refine lv_aload_n hx hb dX8_findLeft_33 rfl (lv_at hl 1 rfl) ?_
          refine lv_dup hx hb dX8_findLeft_34 rfl ?_
          refine va_get (D := D) (ci := 8) (v := .int (nI lq1)) (C := RX8) (T := TX8) (N := 13) hx hb hg i_X8 hown hK hP 1 rfl rfl 10 (by decide) (hg _ m_466) (fun _ h9 => h9) rfl dX8_findLeft_35 ?_
          refine lv_iconst (v := 1) hx hb dX8_findLeft_38 (by decide) ?_
          refine lv_iadd hx hb dX8_findLeft_39 ?_
          refine lv_topi (fun y_9 hy_9 => ?_)
          obtain rfl : y_9 = nI (lq1 + 1) := hy_9.trans (nI_add lq1 1)
          refine va_put (D := D) (ci := 8) (v := .int (nI (lq1 + 1))) (ty := .int) (C := RX8) (T := TX8) (N := 13) hx hb hg i_X8 tyX8 tyX8_ok nmX8 hown hK hP hD hS 1 rfl rfl 10 (by decide) (hg _ m_466) (fun _ h9 => h9) rfl (by decide +kernel) rfl rfl (Nat.le_of_ble_eq_true rfl) dX8_findLeft_40 (fun H locs hP9 hD9 hS9 => ?_)
          clear hP hD hS
          refine reW [wI (cy 1) u6 100 (g_8), wO u0 8 [.ref u1, .ref u2, .ref u3, .ref u4, .ref u5, .ref u6, .ref u7, .ref u8, .int (nI uc), .int ut, .int (nI (lq1 + 1)), .int qu, .int ml], wI (cy 1) u1 30 (fu1), wI (cy 1) u2 30 (fu2), wI (cy 1) u3 30 (fu3), wI (cy 1) u4 30 (fu4), wI (cy 1) u5 30 (fu5), wI (cy 1) u8 7 (fu82_5), wO h0 4 [.ref h1, .ref h2, .ref h3, .ref h4, .ref h5, .ref h6, .ref h7, .ref h8, .ref h9, .ref h10, .ref h11, hv0, hv1, .int hwi, hv3, hv4], wI (cy 1) h3 4 (fp), wI (cy 1) h4 4 (fcs), wO h9 3 [.ref h9a, .ref h9b, .int (nI nb), .int tb], wI (cy 1) h9a 280 (fcb), wI (cy 1) h9b 31 (fsb2_6)] hP9 hD9 hS9 (fun hP hD hS => ?_)
          clear hP9 hD9 hS9
          refine lv_iinc (v := nI (i1 + 1)) (lv' := [(3, .int (nI (i1 + 1))), (0, .ref u0), (1, .ref h0), (2, .int kk)]) hx hb dX8_findLeft_43 hl (k := 0) rfl (nI_add i1 1) (by decide) rfl (fun ls hl => ?_)
          refine lv_goto (tgt := 7) hx hb dX8_findLeft_46 (by decide) ?_
          exact ih1  ((i1 + 1)) ((lq1 + 1)) g_8 fu82_5 fsb2_6 (by omega) (by omega) (by omega) _ _ (hP.sub [1, 2, 3, 4, 5, 6, 0, 7, 8, 9, 10, 11, 12, 13] rfl) (hD.sub [1, 2, 3, 4, 5, 6, 0, 7, 8, 9, 10, 11, 12, 13] (by decide +kernel) rfl) hS ls (lv_sub hl [0, 1, 2, 3] rfl)
  exact loop1 _ 0 0 fu6 fu8 fsb (by omega) (by omega) (Nat.le_refl _) _ _ (hP.sub [0, 1, 2, 3, 4, 5, 6, 7, 8, 9, 10, 11, 12, 13] rfl) (hD.sub [0, 1, 2, 3, 4, 5, 6, 7, 8, 9, 10, 11, 12, 13] (by decide +kernel) rfl) hS ls (lv_sub hl [0, 1, 2, 3] rfl)
theorem gdX8_firstLeft_0 : decode cX8_firstLeft 0 = .ok (.aload_n 0, 1) ∧ decode cX8_firstLeft 1 = .ok (.getfield 61, 3) ∧ decode cX8_firstLeft 4 = .ok (.ifCond .le 12, 3) ∧ decode cX8_firstLeft 16 = .ok (.iconst (-1), 1) ∧ decode cX8_firstLeft 17 = .ok (.ireturn, 1) ∧ decode cX8_firstLeft 7 = .ok (.aload_n 0, 1) ∧ decode cX8_firstLeft 8 = .ok (.getfield 27, 3) ∧ decode cX8_firstLeft 11 = .ok (.iconst 0, 1) ∧ decode cX8_firstLeft 12 = .ok (.iaload, 1) ∧ decode cX8_firstLeft 13 = .ok (.goto 4, 3) := by decide +kernel
theorem dX8_firstLeft_0 : decode cX8_firstLeft 0 = .ok (.aload_n 0, 1) := gdX8_firstLeft_0.1
theorem dX8_firstLeft_1 : decode cX8_firstLeft 1 = .ok (.getfield 61, 3) := gdX8_firstLeft_0.2.1
theorem dX8_firstLeft_4 : decode cX8_firstLeft 4 = .ok (.ifCond .le 12, 3) := gdX8_firstLeft_0.2.2.1
theorem dX8_firstLeft_16 : decode cX8_firstLeft 16 = .ok (.iconst (-1), 1) := gdX8_firstLeft_0.2.2.2.1
theorem dX8_firstLeft_17 : decode cX8_firstLeft 17 = .ok (.ireturn, 1) := gdX8_firstLeft_0.2.2.2.2.1
theorem dX8_firstLeft_7 : decode cX8_firstLeft 7 = .ok (.aload_n 0, 1) := gdX8_firstLeft_0.2.2.2.2.2.1
theorem dX8_firstLeft_8 : decode cX8_firstLeft 8 = .ok (.getfield 27, 3) := gdX8_firstLeft_0.2.2.2.2.2.2.1
theorem dX8_firstLeft_11 : decode cX8_firstLeft 11 = .ok (.iconst 0, 1) := gdX8_firstLeft_0.2.2.2.2.2.2.2.1
theorem dX8_firstLeft_12 : decode cX8_firstLeft 12 = .ok (.iaload, 1) := gdX8_firstLeft_0.2.2.2.2.2.2.2.2.1
theorem dX8_firstLeft_13 : decode cX8_firstLeft 13 = .ok (.goto 4, 3) := gdX8_firstLeft_0.2.2.2.2.2.2.2.2.2
set_option maxHeartbeats 1000000 in
set_option maxRecDepth 100000 in
theorem s_firstLeft (l : Launch) (D : va_G) (cy : Nat → ClassId) (u0 : Nat) (u1 : Nat) (u2 : Nat) (u3 : Nat) (u4 : Nat) (u5 : Nat) (u6 : Nat) (u7 : Nat) (u8 : Nat) (uc : Nat) (ut : Int32) (lc : Nat) (qu : Int32) (ml : Int32) (fu6 : Nat → Int32) (huc : uc ≤ 30) (hlc : lc ≤ 100) : XMi l D (tyL cy) E0 yX8_firstLeft cX8_firstLeft 1 (some .int) (rmk 0 0 0) [.ref u0] [wO u0 8 [.ref u1, .ref u2, .ref u3, .ref u4, .ref u5, .ref u6, .ref u7, .ref u8, .int (nI uc), .int ut, .int (nI lc), .int qu, .int ml], wI (cy 1) u6 100 (fu6)] (fun (r : Int32) (_ : Unit) => True) (fun (_ : Unit) => [wO u0 8 [.ref u1, .ref u2, .ref u3, .ref u4, .ref u5, .ref u6, .ref u7, .ref u8, .int (nI uc), .int ut, .int (nI lc), .int qu, .int ml], wI (cy 1) u6 100 (fu6)]) := by
  refine XMi.start (by decide) (Nat.le_of_ble_eq_true rfl) ?_
  intro p e s m below meth c args A ls Q hat hQ
  obtain ⟨hx, hb, hr, hml, hown, hg, hlocks, hin, hK, hA, hP, hD, hS, hE, hl⟩ := hat
  have hown : s.vm.findClass RX8 = some m.cls := hown
  have hl : lv_has ls 1 [(0, .ref u0)] := hl
  refine lv_aload_n hx hb dX8_firstLeft_0 rfl (lv_at hl 0 rfl) ?_
  refine va_get (D := D) (ci := 8) (v := .int (nI lc)) (C := RX8) (T := TX8) (N := 13) hx hb hg i_X8 hown hK hP 0 rfl rfl 10 (by decide) (hg _ m_466) (fun _ h9 => h9) rfl dX8_firstLeft_1 ?_
  refine lv_if_le (tgt := 16) hx hb dX8_firstLeft_4 (by decide) (fun c_1 => ?_) (fun c_1 => ?_)
  · have q_2 : lc ≤ 0 := q_le (a := lc) (b := 0) rfl rfl (by omega) (by omega) c_1
    refine lv_iconst (v := -1) hx hb dX8_firstLeft_16 (by decide) ?_
    exact x_iret hQ hx hb hr hlocks hK hP hD hS dX8_firstLeft_17 () (trivial) [0, 1] (by decide +kernel) rfl (Nat.le_of_ble_eq_true rfl) (Nat.le_of_ble_eq_true rfl)
  · have q_2 : 0 < lc := q_nle (a := lc) (b := 0) rfl rfl (by omega) (by omega) c_1
    refine lv_aload_n hx hb dX8_firstLeft_7 rfl (lv_at hl 0 rfl) ?_
    refine va_get (D := D) (ci := 8) (v := .ref u6) (C := RX8) (T := TX8) (N := 13) hx hb hg i_X8 hown hK hP 0 rfl rfl 5 (by decide) (hg _ m_459) (fun _ h9 => h9) rfl dX8_firstLeft_8 ?_
    refine lv_iconst (v := 0) hx hb dX8_firstLeft_11 (by decide) ?_
    refine va_iald hx hb hK hP 1 1 rfl rfl (by unfold vp_in; decide) dX8_firstLeft_12 ?_
    refine lv_topi (fun x_3 ex_3 => ?_)
    refine lv_goto (tgt := 17) hx hb dX8_firstLeft_13 (by decide) ?_
    exact x_iret hQ hx hb hr hlocks hK hP hD hS dX8_firstLeft_17 () (trivial) [0, 1] (by decide +kernel) rfl (Nat.le_of_ble_eq_true rfl) (Nat.le_of_ble_eq_true rfl)
theorem gdX8_lastLeft_0 : decode cX8_lastLeft 0 = .ok (.aload_n 0, 1) ∧ decode cX8_lastLeft 1 = .ok (.getfield 61, 3) ∧ decode cX8_lastLeft 4 = .ok (.ifCond .le 17, 3) ∧ decode cX8_lastLeft 21 = .ok (.iconst (-1), 1) ∧ decode cX8_lastLeft 22 = .ok (.ireturn, 1) ∧ decode cX8_lastLeft 7 = .ok (.aload_n 0, 1) ∧ decode cX8_lastLeft 8 = .ok (.getfield 27, 3) ∧ decode cX8_lastLeft 11 = .ok (.aload_n 0, 1) ∧ decode cX8_lastLeft 12 = .ok (.getfield 61, 3) ∧ decode cX8_lastLeft 15 = .ok (.iconst 1, 1) ∧ decode cX8_lastLeft 16 = .ok (.isub, 1) ∧ decode cX8_lastLeft 17 = .ok (.iaload, 1) := by decide +kernel
theorem dX8_lastLeft_0 : decode cX8_lastLeft 0 = .ok (.aload_n 0, 1) := gdX8_lastLeft_0.1
theorem dX8_lastLeft_1 : decode cX8_lastLeft 1 = .ok (.getfield 61, 3) := gdX8_lastLeft_0.2.1
theorem dX8_lastLeft_4 : decode cX8_lastLeft 4 = .ok (.ifCond .le 17, 3) := gdX8_lastLeft_0.2.2.1
theorem dX8_lastLeft_21 : decode cX8_lastLeft 21 = .ok (.iconst (-1), 1) := gdX8_lastLeft_0.2.2.2.1
theorem dX8_lastLeft_22 : decode cX8_lastLeft 22 = .ok (.ireturn, 1) := gdX8_lastLeft_0.2.2.2.2.1
theorem dX8_lastLeft_7 : decode cX8_lastLeft 7 = .ok (.aload_n 0, 1) := gdX8_lastLeft_0.2.2.2.2.2.1
theorem dX8_lastLeft_8 : decode cX8_lastLeft 8 = .ok (.getfield 27, 3) := gdX8_lastLeft_0.2.2.2.2.2.2.1
theorem dX8_lastLeft_11 : decode cX8_lastLeft 11 = .ok (.aload_n 0, 1) := gdX8_lastLeft_0.2.2.2.2.2.2.2.1
theorem dX8_lastLeft_12 : decode cX8_lastLeft 12 = .ok (.getfield 61, 3) := gdX8_lastLeft_0.2.2.2.2.2.2.2.2.1
theorem dX8_lastLeft_15 : decode cX8_lastLeft 15 = .ok (.iconst 1, 1) := gdX8_lastLeft_0.2.2.2.2.2.2.2.2.2.1
theorem dX8_lastLeft_16 : decode cX8_lastLeft 16 = .ok (.isub, 1) := gdX8_lastLeft_0.2.2.2.2.2.2.2.2.2.2.1
theorem dX8_lastLeft_17 : decode cX8_lastLeft 17 = .ok (.iaload, 1) := gdX8_lastLeft_0.2.2.2.2.2.2.2.2.2.2.2
theorem dX8_lastLeft_18 : decode cX8_lastLeft 18 = .ok (.goto 4, 3) := by decide +kernel
set_option maxHeartbeats 1000000 in
set_option maxRecDepth 100000 in
theorem s_lastLeft (l : Launch) (D : va_G) (cy : Nat → ClassId) (u0 : Nat) (u1 : Nat) (u2 : Nat) (u3 : Nat) (u4 : Nat) (u5 : Nat) (u6 : Nat) (u7 : Nat) (u8 : Nat) (uc : Nat) (ut : Int32) (lc : Nat) (qu : Int32) (ml : Int32) (fu6 : Nat → Int32) (huc : uc ≤ 30) (hlc : lc ≤ 100) : XMi l D (tyL cy) E0 yX8_lastLeft cX8_lastLeft 1 (some .int) (rmk 0 0 0) [.ref u0] [wO u0 8 [.ref u1, .ref u2, .ref u3, .ref u4, .ref u5, .ref u6, .ref u7, .ref u8, .int (nI uc), .int ut, .int (nI lc), .int qu, .int ml], wI (cy 1) u6 100 (fu6)] (fun (r : Int32) (_ : Unit) => True) (fun (_ : Unit) => [wO u0 8 [.ref u1, .ref u2, .ref u3, .ref u4, .ref u5, .ref u6, .ref u7, .ref u8, .int (nI uc), .int ut, .int (nI lc), .int qu, .int ml], wI (cy 1) u6 100 (fu6)]) := by
  refine XMi.start (by decide) (Nat.le_of_ble_eq_true rfl) ?_
  intro p e s m below meth c args A ls Q hat hQ
  obtain ⟨hx, hb, hr, hml, hown, hg, hlocks, hin, hK, hA, hP, hD, hS, hE, hl⟩ := hat
  have hown : s.vm.findClass RX8 = some m.cls := hown
  have hl : lv_has ls 1 [(0, .ref u0)] := hl
  refine lv_aload_n hx hb dX8_lastLeft_0 rfl (lv_at hl 0 rfl) ?_
  refine va_get (D := D) (ci := 8) (v := .int (nI lc)) (C := RX8) (T := TX8) (N := 13) hx hb hg i_X8 hown hK hP 0 rfl rfl 10 (by decide) (hg _ m_466) (fun _ h9 => h9) rfl dX8_lastLeft_1 ?_
  refine lv_if_le (tgt := 21) hx hb dX8_lastLeft_4 (by decide) (fun c_1 => ?_) (fun c_1 => ?_)
  · have q_2 : lc ≤ 0 := q_le (a := lc) (b := 0) rfl rfl (by omega) (by omega) c_1
    refine lv_iconst (v := -1) hx hb dX8_lastLeft_21 (by decide) ?_
    exact x_iret hQ hx hb hr hlocks hK hP hD hS dX8_lastLeft_22 () (trivial) [0, 1] (by decide +kernel) rfl (Nat.le_of_ble_eq_true rfl) (Nat.le_of_ble_eq_true rfl)
  · have q_2 : 0 < lc := q_nle (a := lc) (b := 0) rfl rfl (by omega) (by omega) c_1
    refine lv_aload_n hx hb dX8_lastLeft_7 rfl (lv_at hl 0 rfl) ?_
    refine va_get (D := D) (ci := 8) (v := .ref u6) (C := RX8) (T := TX8) (N := 13) hx hb hg i_X8 hown hK hP 0 rfl rfl 5 (by decide) (hg _ m_459) (fun _ h9 => h9) rfl dX8_lastLeft_8 ?_
    refine lv_aload_n hx hb dX8_lastLeft_11 rfl (lv_at hl 0 rfl) ?_
    refine va_get (D := D) (ci := 8) (v := .int (nI lc)) (C := RX8) (T := TX8) (N := 13) hx hb hg i_X8 hown hK hP 0 rfl rfl 10 (by decide) (hg _ m_466) (fun _ h9 => h9) rfl dX8_lastLeft_12 ?_
    refine lv_iconst (v := 1) hx hb dX8_lastLeft_15 (by decide) ?_
    refine lv_isub hx hb dX8_lastLeft_16 ?_
    refine lv_topi (fun y_3 hy_3 => ?_)
    obtain rfl : y_3 = nI (lc - 1) := hy_3.trans (pk_sub (a := lc) (b := 1) (by omega))
    refine va_iald hx hb hK hP 1 1 rfl rfl (vp_in_nI (by omega) (by decide)) dX8_lastLeft_17 ?_
    refine lv_topi (fun x_4 ex_4 => ?_)
    refine lv_goto (tgt := 22) hx hb dX8_lastLeft_18 (by decide) ?_
    exact x_iret hQ hx hb hr hlocks hK hP hD hS dX8_lastLeft_22 () (trivial) [0, 1] (by decide +kernel) rfl (Nat.le_of_ble_eq_true rfl) (Nat.le_of_ble_eq_true rfl)
theorem gdX8_mostLeftBehind_0 : decode cX8_mostLeftBehind 0 = .ok (.iconst 0, 1) ∧ decode cX8_mostLeftBehind 1 = .ok (.istore 4, 2) ∧ decode cX8_mostLeftBehind 3 = .ok (.iload 4, 2) ∧ decode cX8_mostLeftBehind 5 = .ok (.iload_n 3, 1) ∧ decode cX8_mostLeftBehind 6 = .ok (.if_icmp .gt 17, 3) ∧ decode cX8_mostLeftBehind 23 = .ok (.iconst 0, 1) ∧ decode cX8_mostLeftBehind 24 = .ok (.istore 4, 2) ∧ decode cX8_mostLeftBehind 26 = .ok (.iconst 0, 1) ∧ decode cX8_mostLeftBehind 27 = .ok (.istore 5, 2) ∧ decode cX8_mostLeftBehind 29 = .ok (.iload 5, 2) ∧ decode cX8_mostLeftBehind 31 = .ok (.aload_n 0, 1) ∧ decode cX8_mostLeftBehind 32 = .ok (.getfield 61, 3) := by decide +kernel
theorem dX8_mostLeftBehind_0 : decode cX8_mostLeftBehind 0 = .ok (.iconst 0, 1) := gdX8_mostLeftBehind_0.1
theorem dX8_mostLeftBehind_1 : decode cX8_mostLeftBehind 1 = .ok (.istore 4, 2) := gdX8_mostLeftBehind_0.2.1
theorem dX8_mostLeftBehind_3 : decode cX8_mostLeftBehind 3 = .ok (.iload 4, 2) := gdX8_mostLeftBehind_0.2.2.1
theorem dX8_mostLeftBehind_5 : decode cX8_mostLeftBehind 5 = .ok (.iload_n 3, 1) := gdX8_mostLeftBehind_0.2.2.2.1
theorem dX8_mostLeftBehind_6 : decode cX8_mostLeftBehind 6 = .ok (.if_icmp .gt 17, 3) := gdX8_mostLeftBehind_0.2.2.2.2.1
theorem dX8_mostLeftBehind_23 : decode cX8_mostLeftBehind 23 = .ok (.iconst 0, 1) := gdX8_mostLeftBehind_0.2.2.2.2.2.1
theorem dX8_mostLeftBehind_24 : decode cX8_mostLeftBehind 24 = .ok (.istore 4, 2) := gdX8_mostLeftBehind_0.2.2.2.2.2.2.1
theorem dX8_mostLeftBehind_26 : decode cX8_mostLeftBehind 26 = .ok (.iconst 0, 1) := gdX8_mostLeftBehind_0.2.2.2.2.2.2.2.1
theorem dX8_mostLeftBehind_27 : decode cX8_mostLeftBehind 27 = .ok (.istore 5, 2) := gdX8_mostLeftBehind_0.2.2.2.2.2.2.2.2.1
theorem dX8_mostLeftBehind_29 : decode cX8_mostLeftBehind 29 = .ok (.iload 5, 2) := gdX8_mostLeftBehind_0.2.2.2.2.2.2.2.2.2.1
theorem dX8_mostLeftBehind_31 : decode cX8_mostLeftBehind 31 = .ok (.aload_n 0, 1) := gdX8_mostLeftBehind_0.2.2.2.2.2.2.2.2.2.2.1
theorem dX8_mostLeftBehind_32 : decode cX8_mostLeftBehind 32 = .ok (.getfield 61, 3) := gdX8_mostLeftBehind_0.2.2.2.2.2.2.2.2.2.2.2
theorem gdX8_mostLeftBehind_35 : decode cX8_mostLeftBehind 35 = .ok (.if_icmp .ge 50, 3) ∧ decode cX8_mostLeftBehind 85 = .ok (.iload 4, 2) ∧ decode cX8_mostLeftBehind 87 = .ok (.ireturn, 1) ∧ decode cX8_mostLeftBehind 38 = .ok (.aload_n 0, 1) ∧ decode cX8_mostLeftBehind 39 = .ok (.aload_n 1, 1) ∧ decode cX8_mostLeftBehind 40 = .ok (.aload_n 0, 1) ∧ decode cX8_mostLeftBehind 41 = .ok (.getfield 27, 3) ∧ decode cX8_mostLeftBehind 44 = .ok (.iload 5, 2) ∧ decode cX8_mostLeftBehind 46 = .ok (.iaload, 1) ∧ decode cX8_mostLeftBehind 47 = .ok (.iload_n 2, 1) ∧ decode cX8_mostLeftBehind 48 = .ok (.iload_n 3, 1) ∧ decode cX8_mostLeftBehind 49 = .ok (.invokevirtual 72, 3) := by decide +kernel
theorem dX8_mostLeftBehind_35 : decode cX8_mostLeftBehind 35 = .ok (.if_icmp .ge 50, 3) := gdX8_mostLeftBehind_35.1
theorem dX8_mostLeftBehind_85 : decode cX8_mostLeftBehind 85 = .ok (.iload 4, 2) := gdX8_mostLeftBehind_35.2.1
theorem dX8_mostLeftBehind_87 : decode cX8_mostLeftBehind 87 = .ok (.ireturn, 1) := gdX8_mostLeftBehind_35.2.2.1
theorem dX8_mostLeftBehind_38 : decode cX8_mostLeftBehind 38 = .ok (.aload_n 0, 1) := gdX8_mostLeftBehind_35.2.2.2.1
theorem dX8_mostLeftBehind_39 : decode cX8_mostLeftBehind 39 = .ok (.aload_n 1, 1) := gdX8_mostLeftBehind_35.2.2.2.2.1
theorem dX8_mostLeftBehind_40 : decode cX8_mostLeftBehind 40 = .ok (.aload_n 0, 1) := gdX8_mostLeftBehind_35.2.2.2.2.2.1
theorem dX8_mostLeftBehind_41 : decode cX8_mostLeftBehind 41 = .ok (.getfield 27, 3) := gdX8_mostLeftBehind_35.2.2.2.2.2.2.1
theorem dX8_mostLeftBehind_44 : decode cX8_mostLeftBehind 44 = .ok (.iload 5, 2) := gdX8_mostLeftBehind_35.2.2.2.2.2.2.2.1
theorem dX8_mostLeftBehind_46 : decode cX8_mostLeftBehind 46 = .ok (.iaload, 1) := gdX8_mostLeftBehind_35.2.2.2.2.2.2.2.2.1
theorem dX8_mostLeftBehind_47 : decode cX8_mostLeftBehind 47 = .ok (.iload_n 2, 1) := gdX8_mostLeftBehind_35.2.2.2.2.2.2.2.2.2.1
theorem dX8_mostLeftBehind_48 : decode cX8_mostLeftBehind 48 = .ok (.iload_n 3, 1) := gdX8_mostLeftBehind_35.2.2.2.2.2.2.2.2.2.2.1
theorem dX8_mostLeftBehind_49 : decode cX8_mostLeftBehind 49 = .ok (.invokevirtual 72, 3) := gdX8_mostLeftBehind_35.2.2.2.2.2.2.2.2.2.2.2
theorem gdX8_mostLeftBehind_52 : decode cX8_mostLeftBehind 52 = .ok (.istore 6, 2) ∧ decode cX8_mostLeftBehind 54 = .ok (.aload_n 0, 1) ∧ decode cX8_mostLeftBehind 55 = .ok (.getfield 30, 3) ∧ decode cX8_mostLeftBehind 58 = .ok (.iload 6, 2) ∧ decode cX8_mostLeftBehind 60 = .ok (.dup2, 1) ∧ decode cX8_mostLeftBehind 61 = .ok (.iaload, 1) ∧ decode cX8_mostLeftBehind 62 = .ok (.iconst 1, 1) ∧ decode cX8_mostLeftBehind 63 = .ok (.iadd, 1) ∧ decode cX8_mostLeftBehind 64 = .ok (.iastore, 1) ∧ decode cX8_mostLeftBehind 65 = .ok (.iload 4, 2) ∧ decode cX8_mostLeftBehind 67 = .ok (.aload_n 0, 1) ∧ decode cX8_mostLeftBehind 68 = .ok (.getfield 30, 3) := by decide +kernel
theorem dX8_mostLeftBehind_52 : decode cX8_mostLeftBehind 52 = .ok (.istore 6, 2) := gdX8_mostLeftBehind_52.1
theorem dX8_mostLeftBehind_54 : decode cX8_mostLeftBehind 54 = .ok (.aload_n 0, 1) := gdX8_mostLeftBehind_52.2.1
theorem dX8_mostLeftBehind_55 : decode cX8_mostLeftBehind 55 = .ok (.getfield 30, 3) := gdX8_mostLeftBehind_52.2.2.1
theorem dX8_mostLeftBehind_58 : decode cX8_mostLeftBehind 58 = .ok (.iload 6, 2) := gdX8_mostLeftBehind_52.2.2.2.1
theorem dX8_mostLeftBehind_60 : decode cX8_mostLeftBehind 60 = .ok (.dup2, 1) := gdX8_mostLeftBehind_52.2.2.2.2.1
theorem dX8_mostLeftBehind_61 : decode cX8_mostLeftBehind 61 = .ok (.iaload, 1) := gdX8_mostLeftBehind_52.2.2.2.2.2.1
theorem dX8_mostLeftBehind_62 : decode cX8_mostLeftBehind 62 = .ok (.iconst 1, 1) := gdX8_mostLeftBehind_52.2.2.2.2.2.2.1
theorem dX8_mostLeftBehind_63 : decode cX8_mostLeftBehind 63 = .ok (.iadd, 1) := gdX8_mostLeftBehind_52.2.2.2.2.2.2.2.1
theorem dX8_mostLeftBehind_64 : decode cX8_mostLeftBehind 64 = .ok (.iastore, 1) := gdX8_mostLeftBehind_52.2.2.2.2.2.2.2.2.1
theorem dX8_mostLeftBehind_65 : decode cX8_mostLeftBehind 65 = .ok (.iload 4, 2) := gdX8_mostLeftBehind_52.2.2.2.2.2.2.2.2.2.1
theorem dX8_mostLeftBehind_67 : decode cX8_mostLeftBehind 67 = .ok (.aload_n 0, 1) := gdX8_mostLeftBehind_52.2.2.2.2.2.2.2.2.2.2.1
theorem dX8_mostLeftBehind_68 : decode cX8_mostLeftBehind 68 = .ok (.getfield 30, 3) := gdX8_mostLeftBehind_52.2.2.2.2.2.2.2.2.2.2.2
theorem gdX8_mostLeftBehind_71 : decode cX8_mostLeftBehind 71 = .ok (.iload 6, 2) ∧ decode cX8_mostLeftBehind 73 = .ok (.iaload, 1) ∧ decode cX8_mostLeftBehind 74 = .ok (.invokestatic 88, 3) ∧ decode cX8_mostLeftBehind 77 = .ok (.istore 4, 2) ∧ decode cX8_mostLeftBehind 79 = .ok (.iinc 5 1, 3) ∧ decode cX8_mostLeftBehind 82 = .ok (.goto (-53), 3) ∧ decode cX8_mostLeftBehind 9 = .ok (.aload_n 0, 1) ∧ decode cX8_mostLeftBehind 10 = .ok (.getfield 30, 3) ∧ decode cX8_mostLeftBehind 13 = .ok (.iload 4, 2) ∧ decode cX8_mostLeftBehind 15 = .ok (.iconst 0, 1) ∧ decode cX8_mostLeftBehind 16 = .ok (.iastore, 1) ∧ decode cX8_mostLeftBehind 17 = .ok (.iinc 4 1, 3) := by decide +kernel
theorem dX8_mostLeftBehind_71 : decode cX8_mostLeftBehind 71 = .ok (.iload 6, 2) := gdX8_mostLeftBehind_71.1
theorem dX8_mostLeftBehind_73 : decode cX8_mostLeftBehind 73 = .ok (.iaload, 1) := gdX8_mostLeftBehind_71.2.1
theorem dX8_mostLeftBehind_74 : decode cX8_mostLeftBehind 74 = .ok (.invokestatic 88, 3) := gdX8_mostLeftBehind_71.2.2.1
theorem dX8_mostLeftBehind_77 : decode cX8_mostLeftBehind 77 = .ok (.istore 4, 2) := gdX8_mostLeftBehind_71.2.2.2.1
theorem dX8_mostLeftBehind_79 : decode cX8_mostLeftBehind 79 = .ok (.iinc 5 1, 3) := gdX8_mostLeftBehind_71.2.2.2.2.1
theorem dX8_mostLeftBehind_82 : decode cX8_mostLeftBehind 82 = .ok (.goto (-53), 3) := gdX8_mostLeftBehind_71.2.2.2.2.2.1
theorem dX8_mostLeftBehind_9 : decode cX8_mostLeftBehind 9 = .ok (.aload_n 0, 1) := gdX8_mostLeftBehind_71.2.2.2.2.2.2.1
theorem dX8_mostLeftBehind_10 : decode cX8_mostLeftBehind 10 = .ok (.getfield 30, 3) := gdX8_mostLeftBehind_71.2.2.2.2.2.2.2.1
theorem dX8_mostLeftBehind_13 : decode cX8_mostLeftBehind 13 = .ok (.iload 4, 2) := gdX8_mostLeftBehind_71.2.2.2.2.2.2.2.2.1
theorem dX8_mostLeftBehind_15 : decode cX8_mostLeftBehind 15 = .ok (.iconst 0, 1) := gdX8_mostLeftBehind_71.2.2.2.2.2.2.2.2.2.1
theorem dX8_mostLeftBehind_16 : decode cX8_mostLeftBehind 16 = .ok (.iastore, 1) := gdX8_mostLeftBehind_71.2.2.2.2.2.2.2.2.2.2.1
theorem dX8_mostLeftBehind_17 : decode cX8_mostLeftBehind 17 = .ok (.iinc 4 1, 3) := gdX8_mostLeftBehind_71.2.2.2.2.2.2.2.2.2.2.2
theorem dX8_mostLeftBehind_20 : decode cX8_mostLeftBehind 20 = .ok (.goto (-17), 3) := by decide +kernel
set_option maxHeartbeats 1000000 in
set_option maxRecDepth 100000 in
theorem s_mostLeftBehind (l : Launch) (D : va_G) (cy : Nat → ClassId) (u0 : Nat) (u1 : Nat) (u2 : Nat) (u3 : Nat) (u4 : Nat) (u5 : Nat) (u6 : Nat) (u7 : Nat) (u8 : Nat) (uc : Nat) (ut : Int32) (lc : Nat) (qu : Int32) (ml : Int32) (fu6 : Nat → Int32) (fu7 : Nat → Int32) (fu8 : Nat → Int32) (h0 : Nat) (h1 : Nat) (h2 : Nat) (h3 : Nat) (h4 : Nat) (h5 : Nat) (h6 : Nat) (h7 : Nat) (h8 : Nat) (h9 : Nat) (h10 : Nat) (h11 : Nat) (hv0 : Value) (hv1 : Value) (hv3 : Value) (hv4 : Value) (hwi : Int32) (fp : Nat → Int32) (fcs : Nat → Int32) (h9a : Nat) (h9b : Nat) (nb : Nat) (tb : Int32) (fcb : Nat → Int32) (fsb : Nat → Int32) (j : Nat) (mm : Nat) (huc : uc ≤ 30) (hlc : lc ≤ 100) (hnb : nb ≤ 280) (hcb : cOK fcb nb) (hj : j < 4) (hmm : mm ≤ 10) : XMi l D (tyL cy) E0 yX8_mostLeftBehind cX8_mostLeftBehind 7 (some .int) (rmk 4 0 0) [.ref u0, .ref h0, .int (nI j), .int (nI mm)] [wO u0 8 [.ref u1, .ref u2, .ref u3, .ref u4, .ref u5, .ref u6, .ref u7, .ref u8, .int (nI uc), .int ut, .int (nI lc), .int qu, .int ml], wI (cy 1) u6 100 (fu6), wI (cy 1) u7 11 (fu7), wI (cy 1) u8 7 (fu8), wO h0 4 [.ref h1, .ref h2, .ref h3, .ref h4, .ref h5, .ref h6, .ref h7, .ref h8, .ref h9, .ref h10, .ref h11, hv0, hv1, .int hwi, hv3, hv4], wI (cy 1) h3 4 (fp), wI (cy 1) h4 4 (fcs), wO h9 3 [.ref h9a, .ref h9b, .int (nI nb), .int tb], wI (cy 1) h9a 280 (fcb), wI (cy 1) h9b 31 (fsb)] (fun (r : Int32) (u : (Nat → Int32) × (Nat → Int32) × (Nat → Int32)) => True) (fun (u : (Nat → Int32) × (Nat → Int32) × (Nat → Int32)) => [wO u0 8 [.ref u1, .ref u2, .ref u3, .ref u4, .ref u5, .ref u6, .ref u7, .ref u8, .int (nI uc), .int ut, .int (nI lc), .int qu, .int ml], wI (cy 1) u6 100 (fu6), wI (cy 1) u7 11 (u.1), wI (cy 1) u8 7 (u.2.1), wO h0 4 [.ref h1, .ref h2, .ref h3, .ref h4, .ref h5, .ref h6, .ref h7, .ref h8, .ref h9, .ref h10, .ref h11, hv0, hv1, .int hwi, hv3, hv4], wI (cy 1) h3 4 (fp), wI (cy 1) h4 4 (fcs), wO h9 3 [.ref h9a, .ref h9b, .int (nI nb), .int tb], wI (cy 1) h9a 280 (fcb), wI (cy 1) h9b 31 (u.2.2)]) := by
  refine XMi.start (by decide) (Nat.le_of_ble_eq_true rfl) ?_
  intro p e s m below meth c args A ls Q hat hQ
  obtain ⟨hx, hb, hr, hml, hown, hg, hlocks, hin, hK, hA, hP, hD, hS, hE, hl⟩ := hat
  have hown : s.vm.findClass RX8 = some m.cls := hown
  have hl : lv_has ls 7 [(0, .ref u0), (1, .ref h0), (2, .int (nI j)), (3, .int (nI mm))] := hl
  refine lv_iconst (v := 0) hx hb dX8_mostLeftBehind_0 (by decide) ?_
  refine lv_istore (lv' := [(4, .int 0), (0, .ref u0), (1, .ref h0), (2, .int (nI j)), (3, .int (nI mm))]) hx hb dX8_mostLeftBehind_1 hl (by decide) rfl (fun ls hl => ?_)
  have loop1 : ∀ (zn : Nat) (i1 : Nat) (fa1_1 : Nat → Int32), (i1 ≤ mm + 1) → 11 - i1 + 1 ≤ zn → ∀ (H : Heap) (locs : List Loc), va_P D vwCl [wO u0 8 [.ref u1, .ref u2, .ref u3, .ref u4, .ref u5, .ref u6, .ref u7, .ref u8, .int (nI uc), .int ut, .int (nI lc), .int qu, .int ml], wI (cy 1) u6 100 (fu6), wI (cy 1) u7 11 (fa1_1), wI (cy 1) u8 7 (fu8), wO h0 4 [.ref h1, .ref h2, .ref h3, .ref h4, .ref h5, .ref h6, .ref h7, .ref h8, .ref h9, .ref h10, .ref h11, hv0, hv1, .int hwi, hv3, hv4], wI (cy 1) h3 4 (fp), wI (cy 1) h4 4 (fcs), wO h9 3 [.ref h9a, .ref h9b, .int (nI nb), .int tb], wI (cy 1) h9a 280 (fcb), wI (cy 1) h9b 31 (fsb)] H → va_D A [wO u0 8 [.ref u1, .ref u2, .ref u3, .ref u4, .ref u5, .ref u6, .ref u7, .ref u8, .int (nI uc), .int ut, .int (nI lc), .int qu, .int ml], wI (cy 1) u6 100 (fu6), wI (cy 1) u7 11 (fa1_1), wI (cy 1) u8 7 (fu8), wO h0 4 [.ref h1, .ref h2, .ref h3, .ref h4, .ref h5, .ref h6, .ref h7, .ref h8, .ref h9, .ref h10, .ref h11, hv0, hv1, .int hwi, hv3, hv4], wI (cy 1) h3 4 (fp), wI (cy 1) h4 4 (fcs), wO h9 3 [.ref h9a, .ref h9b, .int (nI nb), .int tb], wI (cy 1) h9a 280 (fcb), wI (cy 1) h9b 31 (fsb)] → va_S A s.heap H locs → ∀ ls : Array Slot, lv_has ls 7 [(4, .int (nI i1)), (0, .ref u0), (1, .ref h0), (2, .int (nI j)), (3, .int (nI mm))] → W p l e (rmk 4 0 0) s m args below meth c H locs 0 0 Q (F0 m 3 ls []) := by
    try clear hP hD hS
    intro zn
    induction zn with
    | zero => intro i1 fa1_1 _ hz; exact absurd hz (by omega)
    | succ zn ih1 =>
      intro i1 fa1_1 hf0_1 hmu1 H locs hP hD hS ls hl
      refine lv_iload hx hb dX8_mostLeftBehind_3 (lv_at hl 0 rfl) ?_
      refine lv_iload_n hx hb dX8_mostLeftBehind_5 rfl (lv_at hl 4 rfl) ?_
      refine lv_icmp_gt (tgt := 23) hx hb dX8_mostLeftBehind_6 (by decide) (fun c_2 => ?_) (fun c_2 => ?_)
      · have q_3 : mm < i1 := q_lt (a := mm) (b := i1) rfl rfl (by omega) (by omega) c_2
        refine lv_iconst (v := 0) hx hb dX8_mostLeftBehind_23 (by decide) ?_
        refine lv_istore (lv' := [(4, .int 0), (0, .ref u0), (1, .ref h0), (2, .int (nI j)), (3, .int (nI mm))]) hx hb dX8_mostLeftBehind_24 hl (by decide) rfl (fun ls hl => ?_)
        refine lv_iconst (v := 0) hx hb dX8_mostLeftBehind_26 (by decide) ?_
        refine lv_istore (lv' := [(5, .int 0), (4, .int 0), (0, .ref u0), (1, .ref h0), (2, .int (nI j)), (3, .int (nI mm))]) hx hb dX8_mostLeftBehind_27 hl (by decide) rfl (fun ls hl => ?_)
        have loop4 : ∀ (zn : Nat) (lx4_4 : Int32) (i4 : Nat) (fa2_4 : Nat → Int32) (fa3_4 : Nat → Int32) (fa4_4 : Nat → Int32), (i4 ≤ lc) → lc - i4 + 1 ≤ zn → ∀ (H : Heap) (locs : List Loc), va_P D vwCl [wO u0 8 [.ref u1, .ref u2, .ref u3, .ref u4, .ref u5, .ref u6, .ref u7, .ref u8, .int (nI uc), .int ut, .int (nI lc), .int qu, .int ml], wI (cy 1) u6 100 (fu6), wI (cy 1) u7 11 (fa2_4), wI (cy 1) u8 7 (fa3_4), wO h0 4 [.ref h1, .ref h2, .ref h3, .ref h4, .ref h5, .ref h6, .ref h7, .ref h8, .ref h9, .ref h10, .ref h11, hv0, hv1, .int hwi, hv3, hv4], wI (cy 1) h3 4 (fp), wI (cy 1) h4 4 (fcs), wO h9 3 [.ref h9a, .ref h9b, .int (nI nb), .int tb], wI (cy 1) h9a 280 (fcb), wI (cy 1) h9b 31 (fa4_4)] H → va_D A [wO u0 8 [.ref u1, .ref u2, .ref u3, .ref u4, .ref u5, .ref u6, .ref u7, .ref u8, .int (nI uc), .int ut, .int (nI lc), .int qu, .int ml], wI (cy 1) u6 100 (fu6), wI (cy 1) u7 11 (fa2_4), wI (cy 1) u8 7 (fa3_4), wO h0 4 [.ref h1, .ref h2, .ref h3, .ref h4, .ref h5, .ref h6, .ref h7, .ref h8, .ref h9, .ref h10, .ref h11, hv0, hv1, .int hwi, hv3, hv4], wI (cy 1) h3 4 (fp), wI (cy 1) h4 4 (fcs), wO h9 3 [.ref h9a, .ref h9b, .int (nI nb), .int tb], wI (cy 1) h9a 280 (fcb), wI (cy 1) h9b 31 (fa4_4)] → va_S A s.heap H locs → ∀ ls : Array Slot, lv_has ls 7 [(5, .int (nI i4)), (4, .int lx4_4), (0, .ref u0), (1, .ref h0), (2, .int (nI j)), (3, .int (nI mm))] → W p l e (rmk 4 0 0) s m args below meth c H locs 0 0 Q (F0 m 29 ls []) := by
          try clear hP hD hS
          intro zn
          induction zn with
          | zero => intro lx4_4 i4 fa2_4 fa3_4 fa4_4 _ hz; exact absurd hz (by omega)
          | succ zn ih4 =>
            intro lx4_4 i4 fa2_4 fa3_4 fa4_4 hf0_4 hmu4 H locs hP hD hS ls hl
            refine lv_iload hx hb dX8_mostLeftBehind_29 (lv_at hl 0 rfl) ?_
            refine lv_aload_n hx hb dX8_mostLeftBehind_31 rfl (lv_at hl 2 rfl) ?_
            refine va_get (D := D) (ci := 8) (v := .int (nI lc)) (C := RX8) (T := TX8) (N := 13) hx hb hg i_X8 hown hK hP 0 rfl rfl 10 (by decide) (hg _ m_466) (fun _ h9 => h9) rfl dX8_mostLeftBehind_32 ?_
            refine lv_icmp_ge (tgt := 85) hx hb dX8_mostLeftBehind_35 (by decide) (fun c_5 => ?_) (fun c_5 => ?_)
            · have q_6 : lc ≤ i4 := q_le (a := lc) (b := i4) rfl rfl (by omega) (by omega) c_5
              refine lv_iload hx hb dX8_mostLeftBehind_85 (lv_at hl 1 rfl) ?_
              exact x_iret hQ hx hb hr hlocks hK hP hD hS dX8_mostLeftBehind_87 (fa2_4, fa3_4, fa4_4) (trivial) [0, 1, 2, 3, 4, 5, 6, 7, 8, 9] (by decide +kernel) rfl (Nat.le_of_ble_eq_true rfl) (Nat.le_of_ble_eq_true rfl)
            · have q_6 : i4 < lc := q_nle (a := lc) (b := i4) rfl rfl (by omega) (by omega) c_5
              refine lv_aload_n hx hb dX8_mostLeftBehind_38 rfl (lv_at hl 2 rfl) ?_
              refine lv_aload_n hx hb dX8_mostLeftBehind_39 rfl (lv_at hl 3 rfl) ?_
              refine lv_aload_n hx hb dX8_mostLeftBehind_40 rfl (lv_at hl 2 rfl) ?_
              refine va_get (D := D) (ci := 8) (v := .ref u6) (C := RX8) (T := TX8) (N := 13) hx hb hg i_X8 hown hK hP 0 rfl rfl 5 (by decide) (hg _ m_459) (fun _ h9 => h9) rfl dX8_mostLeftBehind_41 ?_
              refine lv_iload hx hb dX8_mostLeftBehind_44 (lv_at hl 0 rfl) ?_
              refine va_iald hx hb hK hP 1 1 rfl rfl (vp_in_nI (by omega) (by decide)) dX8_mostLeftBehind_46 ?_
              refine lv_topi (fun x_7 ex_7 => ?_)
              refine lv_iload_n hx hb dX8_mostLeftBehind_47 rfl (lv_at hl 4 rfl) ?_
              refine lv_iload_n hx hb dX8_mostLeftBehind_48 rfl (lv_at hl 5 rfl) ?_
              refine x_callVi (q := (RX8, TX8, 13)) (ci := 8) (q0 := 0) (wr := [wI (cy 1) u6 100 (fu6), wI (cy 1) u7 11 (fa2_4)]) (rest := []) ⟨hx, hb, hml, hown, hg, hl.1⟩ k_X8_72 (s_sentTo l D cy u0 u1 u2 u3 u4 u5 u6 u7 u8 uc ut lc qu ml fa3_4 h0 h1 h2 h3 h4 h5 h6 h7 h8 h9 h10 h11 hv0 hv1 hv3 hv4 hwi fp fcs h9a h9b nb tb fcb fa4_4 x_7 j mm (by omega) (hcb) (by omega) (by omega)) E0_blind hK hP hD hS hA [0, 3, 4, 5, 6, 7, 8, 9] [1, 2] ⟨rfl, rfl, by decide +kernel, by decide +kernel, by decide +kernel⟩ rfl rfl (fun _ _ _ => trivial) dX8_mostLeftBehind_49 rfl rfl (Nat.le_of_ble_eq_true rfl) ⟨Nat.le_of_ble_eq_true rfl, Nat.le_of_ble_eq_true rfl⟩ ⟨Nat.le_of_ble_eq_true rfl, Nat.le_of_ble_eq_true rfl⟩ (fun zr8 zu8 H locs hw8 hP9 hD9 hS9 => ?_)
              clear hP hD hS
              obtain ⟨fu82_9, fsb2_10, k_11⟩ := zu8
              refine reW [wI (cy 1) u6 100 (fu6), wI (cy 1) u7 11 (fa2_4), wO u0 8 [.ref u1, .ref u2, .ref u3, .ref u4, .ref u5, .ref u6, .ref u7, .ref u8, .int (nI uc), .int ut, .int (nI lc), .int qu, .int ml], wI (cy 1) u8 7 (fu82_9), wO h0 4 [.ref h1, .ref h2, .ref h3, .ref h4, .ref h5, .ref h6, .ref h7, .ref h8, .ref h9, .ref h10, .ref h11, hv0, hv1, .int hwi, hv3, hv4], wI (cy 1) h3 4 (fp), wI (cy 1) h4 4 (fcs), wO h9 3 [.ref h9a, .ref h9b, .int (nI nb), .int tb], wI (cy 1) h9a 280 (fcb), wI (cy 1) h9b 31 (fsb2_10)] hP9 hD9 hS9 (fun hP hD hS => ?_)
              clear hP9 hD9 hS9
              refine W.widen (k := 0) (n := 0) (Nat.le_of_ble_eq_true rfl) (Nat.le_of_ble_eq_true rfl) ?_
              replace hw8 : (zr8 = nI k_11) ∧ (k_11 ≤ mm) := hw8
              obtain ⟨f_12, f_13⟩ := hw8
              subst f_12
              refine lv_istore (lv' := [(6, .int (nI k_11)), (5, .int (nI i4)), (4, .int lx4_4), (0, .ref u0), (1, .ref h0), (2, .int (nI j)), (3, .int (nI mm))]) hx hb dX8_mostLeftBehind_52 hl (by decide) rfl (fun ls hl => ?_)
              refine lv_aload_n hx hb dX8_mostLeftBehind_54 rfl (lv_at hl 3 rfl) ?_
              refine va_get (D := D) (ci := 8) (v := .ref u7) (C := RX8) (T := TX8) (N := 13) hx hb hg i_X8 hown hK hP 2 rfl rfl 6 (by decide) (hg _ m_460) (fun _ h9 => h9) rfl dX8_mostLeftBehind_55 ?_
              refine lv_iload hx hb dX8_mostLeftBehind_58 (lv_at hl 0 rfl) ?_
              refine lv_dup2_11 hx hb dX8_mostLeftBehind_60 rfl rfl ?_
              refine va_iald hx hb hK hP 1 1 rfl rfl (vp_in_nI (by omega) (by decide)) dX8_mostLeftBehind_61 ?_
              refine lv_topi (fun x_14 ex_14 => ?_)
              refine lv_iconst (v := 1) hx hb dX8_mostLeftBehind_62 (by decide) ?_
              refine lv_iadd hx hb dX8_mostLeftBehind_63 ?_
              refine lv_topi (fun x_15 ex_15 => ?_)
              refine va_iast hx hb hK hP hD hS 1 1 rfl rfl (vp_in_nI (by omega) (by decide)) dX8_mostLeftBehind_64 (fun H locs hP9 hD9 hS9 => ?_)
              clear hP hD hS
              obtain ⟨g_16, eg_16⟩ : ∃ y, upd fa2_4 (nI k_11 : Int32).toNatClampNeg x_15 = y := ⟨_, rfl⟩
              rw [eg_16] at hP9 hD9
              refine reW [wI (cy 1) u6 100 (fu6), wI (cy 1) u7 11 (g_16), wO u0 8 [.ref u1, .ref u2, .ref u3, .ref u4, .ref u5, .ref u6, .ref u7, .ref u8, .int (nI uc), .int ut, .int (nI lc), .int qu, .int ml], wI (cy 1) u8 7 (fu82_9), wO h0 4 [.ref h1, .ref h2, .ref h3, .ref h4, .ref h5, .ref h6, .ref h7, .ref h8, .ref h9, .ref h10, .ref h11, hv0, hv1, .int hwi, hv3, hv4], wI (cy 1) h3 4 (fp), wI (cy 1) h4 4 (fcs), wO h9 3 [.ref h9a, .ref h9b, .int (nI nb), .int tb], wI (cy 1) h9a 280 (fcb), wI (cy 1) h9b 31 (fsb2_10)] hP9 hD9 hS9 (fun hP hD hS => ?_)
              clear hP9 hD9 hS9
              refine lv_iload hx hb dX8_mostLeftBehind_65 (lv_at hl 2 rfl) ?_
              refine lv_aload_n hx hb dX8_mostLeftBehind_67 rfl (lv_at hl 3 rfl) ?_
              refine va_get (D := D) (ci := 8) (v := .ref u7) (C := RX8) (T := TX8) (N := 13) hx hb hg i_X8 hown hK hP 2 rfl rfl 6 (by decide) (hg _ m_460) (fun _ h9 => h9) rfl dX8_mostLeftBehind_68 ?_
              refine lv_iload hx hb dX8_mostLeftBehind_71 (lv_at hl 0 rfl) ?_
              refine va_iald hx hb hK hP 1 1 rfl rfl (vp_in_nI (by omega) (by decide)) dX8_mostLeftBehind_73 ?_
              refine lv_topi (fun x_17 ex_17 => ?_)
              refine va_mmax hx hb (hml.trans hl.1.symm) hown (hg _ m_1383) (hg _ m_767) (hg _ m_147) (hg _ m_768) (by decide) (Nat.le_of_ble_eq_true rfl) (by decide) (by decide) dX8_mostLeftBehind_74 ?_
              refine lv_topi (fun x_18 ex_18 => ?_)
              refine lv_istore (lv' := [(4, .int x_18), (6, .int (nI k_11)), (5, .int (nI i4)), (0, .ref u0), (1, .ref h0), (2, .int (nI j)), (3, .int (nI mm))]) hx hb dX8_mostLeftBehind_77 hl (by decide) rfl (fun ls hl => ?_)
              refine lv_iinc (v := nI (i4 + 1)) (lv' := [(5, .int (nI (i4 + 1))), (4, .int x_18), (6, .int (nI k_11)), (0, .ref u0), (1, .ref h0), (2, .int (nI j)), (3, .int (nI mm))]) hx hb dX8_mostLeftBehind_79 hl (k := 2) rfl (nI_add i4 1) (by decide) rfl (fun ls hl => ?_)
              refine lv_goto (tgt := 29) hx hb dX8_mostLeftBehind_82 (by decide) ?_
              exact ih4  x_18 ((i4 + 1)) g_16 fu82_9 fsb2_10 (by omega) (by omega) _ _ (hP.sub [2, 0, 1, 3, 4, 5, 6, 7, 8, 9] rfl) (hD.sub [2, 0, 1, 3, 4, 5, 6, 7, 8, 9] (by decide +kernel) rfl) hS ls (lv_sub hl [0, 1, 3, 4, 5, 6] rfl)
        exact loop4 _ 0 0 fa1_1 fu8 fsb (by omega) (Nat.le_refl _) _ _ (hP.sub [0, 1, 2, 3, 4, 5, 6, 7, 8, 9] rfl) (hD.sub [0, 1, 2, 3, 4, 5, 6, 7, 8, 9] (by decide +kernel) rfl) hS ls (lv_sub hl [0, 1, 2, 3, 4, 5] rfl)
      · have q_3 : i1 ≤ mm := q_nlt (a := mm) (b := i1) rfl rfl (by omega) (by omega) c_2
        refine lv_aload_n hx hb dX8_mostLeftBehind_9 rfl (lv_at hl 1 rfl) ?_
        refine va_get (D := D) (ci := 8) (v := .ref u7) (C := RX8) (T := TX8) (N := 13) hx hb hg i_X8 hown hK hP 0 rfl rfl 6 (by decide) (hg _ m_460) (fun _ h9 => h9) rfl dX8_mostLeftBehind_10 ?_
        refine lv_iload hx hb dX8_mostLeftBehind_13 (lv_at hl 0 rfl) ?_
        refine lv_iconst (v := 0) hx hb dX8_mostLeftBehind_15 (by decide) ?_
        refine va_iast hx hb hK hP hD hS 2 1 rfl rfl (vp_in_nI (by omega) (by decide)) dX8_mostLeftBehind_16 (fun H locs hP9 hD9 hS9 => ?_)
        clear hP hD hS
        obtain ⟨g_19, eg_19⟩ : ∃ y, upd fa1_1 (nI i1 : Int32).toNatClampNeg 0 = y := ⟨_, rfl⟩
        rw [eg_19] at hP9 hD9
        refine reW [wO u0 8 [.ref u1, .ref u2, .ref u3, .ref u4, .ref u5, .ref u6, .ref u7, .ref u8, .int (nI uc), .int ut, .int (nI lc), .int qu, .int ml], wI (cy 1) u6 100 (fu6), wI (cy 1) u7 11 (g_19), wI (cy 1) u8 7 (fu8), wO h0 4 [.ref h1, .ref h2, .ref h3, .ref h4, .ref h5, .ref h6, .ref h7, .ref h8, .ref h9, .ref h10, .ref h11, hv0, hv1, .int hwi, hv3, hv4], wI (cy 1) h3 4 (fp), wI (cy 1) h4 4 (fcs), wO h9 3 [.ref h9a, .ref h9b, .int (nI nb), .int tb], wI (cy 1) h9a 280 (fcb), wI (cy 1) h9b 31 (fsb)] hP9 hD9 hS9 (fun hP hD hS => ?_)
        clear hP9 hD9 hS9
        refine lv_iinc (v := nI (i1 + 1)) (lv' := [(4, .int (nI (i1 + 1))), (0, .ref u0), (1, .ref h0), (2, .int (nI j)), (3, .int (nI mm))]) hx hb dX8_mostLeftBehind_17 hl (k := 0) rfl (nI_add i1 1) (by decide) rfl (fun ls hl => ?_)
        refine lv_goto (tgt := 3) hx hb dX8_mostLeftBehind_20 (by decide) ?_
        exact ih1  ((i1 + 1)) g_19 (by omega) (by omega) _ _ (hP.sub [0, 1, 2, 3, 4, 5, 6, 7, 8, 9] rfl) (hD.sub [0, 1, 2, 3, 4, 5, 6, 7, 8, 9] (by decide +kernel) rfl) hS ls (lv_sub hl [0, 1, 2, 3, 4] rfl)
  exact loop1 _ 0 fu7 (by omega) (Nat.le_refl _) _ _ (hP.sub [0, 1, 2, 3, 4, 5, 6, 7, 8, 9] rfl) (hD.sub [0, 1, 2, 3, 4, 5, 6, 7, 8, 9] (by decide +kernel) rfl) hS ls (lv_sub hl [0, 1, 2, 3, 4] rfl)
theorem gdX8_findQuestion_0 : decode cX8_findQuestion 0 = .ok (.aload_n 0, 1) ∧ decode cX8_findQuestion 1 = .ok (.bipush 101, 2) ∧ decode cX8_findQuestion 3 = .ok (.putfield 76, 3) ∧ decode cX8_findQuestion 6 = .ok (.iconst 0, 1) ∧ decode cX8_findQuestion 7 = .ok (.istore_n 2, 1) ∧ decode cX8_findQuestion 8 = .ok (.iload_n 2, 1) ∧ decode cX8_findQuestion 9 = .ok (.aload_n 1, 1) ∧ decode cX8_findQuestion 10 = .ok (.getfield 79, 3) ∧ decode cX8_findQuestion 13 = .ok (.iconst 1, 1) ∧ decode cX8_findQuestion 14 = .ok (.iaload, 1) ∧ decode cX8_findQuestion 15 = .ok (.if_icmp .ge 57, 3) ∧ decode cX8_findQuestion 72 = .ok (.return_, 1) := by decide +kernel
theorem dX8_findQuestion_0 : decode cX8_findQuestion 0 = .ok (.aload_n 0, 1) := gdX8_findQuestion_0.1
theorem dX8_findQuestion_1 : decode cX8_findQuestion 1 = .ok (.bipush 101, 2) := gdX8_findQuestion_0.2.1
theorem dX8_findQuestion_3 : decode cX8_findQuestion 3 = .ok (.putfield 76, 3) := gdX8_findQuestion_0.2.2.1
theorem dX8_findQuestion_6 : decode cX8_findQuestion 6 = .ok (.iconst 0, 1) := gdX8_findQuestion_0.2.2.2.1
theorem dX8_findQuestion_7 : decode cX8_findQuestion 7 = .ok (.istore_n 2, 1) := gdX8_findQuestion_0.2.2.2.2.1
theorem dX8_findQuestion_8 : decode cX8_findQuestion 8 = .ok (.iload_n 2, 1) := gdX8_findQuestion_0.2.2.2.2.2.1
theorem dX8_findQuestion_9 : decode cX8_findQuestion 9 = .ok (.aload_n 1, 1) := gdX8_findQuestion_0.2.2.2.2.2.2.1
theorem dX8_findQuestion_10 : decode cX8_findQuestion 10 = .ok (.getfield 79, 3) := gdX8_findQuestion_0.2.2.2.2.2.2.2.1
theorem dX8_findQuestion_13 : decode cX8_findQuestion 13 = .ok (.iconst 1, 1) := gdX8_findQuestion_0.2.2.2.2.2.2.2.2.1
theorem dX8_findQuestion_14 : decode cX8_findQuestion 14 = .ok (.iaload, 1) := gdX8_findQuestion_0.2.2.2.2.2.2.2.2.2.1
theorem dX8_findQuestion_15 : decode cX8_findQuestion 15 = .ok (.if_icmp .ge 57, 3) := gdX8_findQuestion_0.2.2.2.2.2.2.2.2.2.2.1
theorem dX8_findQuestion_72 : decode cX8_findQuestion 72 = .ok (.return_, 1) := gdX8_findQuestion_0.2.2.2.2.2.2.2.2.2.2.2
theorem gdX8_findQuestion_18 : decode cX8_findQuestion 18 = .ok (.iconst 1, 1) ∧ decode cX8_findQuestion 19 = .ok (.istore_n 3, 1) ∧ decode cX8_findQuestion 20 = .ok (.iload_n 3, 1) ∧ decode cX8_findQuestion 21 = .ok (.bipush 10, 2) ∧ decode cX8_findQuestion 23 = .ok (.if_icmp .gt 43, 3) ∧ decode cX8_findQuestion 66 = .ok (.iinc 2 1, 3) ∧ decode cX8_findQuestion 69 = .ok (.goto (-61), 3) ∧ decode cX8_findQuestion 26 = .ok (.aload_n 0, 1) ∧ decode cX8_findQuestion 27 = .ok (.aload_n 1, 1) ∧ decode cX8_findQuestion 28 = .ok (.iload_n 2, 1) ∧ decode cX8_findQuestion 29 = .ok (.iload_n 3, 1) ∧ decode cX8_findQuestion 30 = .ok (.invokevirtual 81, 3) := by decide +kernel
theorem dX8_findQuestion_18 : decode cX8_findQuestion 18 = .ok (.iconst 1, 1) := gdX8_findQuestion_18.1
theorem dX8_findQuestion_19 : decode cX8_findQuestion 19 = .ok (.istore_n 3, 1) := gdX8_findQuestion_18.2.1
theorem dX8_findQuestion_20 : decode cX8_findQuestion 20 = .ok (.iload_n 3, 1) := gdX8_findQuestion_18.2.2.1
theorem dX8_findQuestion_21 : decode cX8_findQuestion 21 = .ok (.bipush 10, 2) := gdX8_findQuestion_18.2.2.2.1
theorem dX8_findQuestion_23 : decode cX8_findQuestion 23 = .ok (.if_icmp .gt 43, 3) := gdX8_findQuestion_18.2.2.2.2.1
theorem dX8_findQuestion_66 : decode cX8_findQuestion 66 = .ok (.iinc 2 1, 3) := gdX8_findQuestion_18.2.2.2.2.2.1
theorem dX8_findQuestion_69 : decode cX8_findQuestion 69 = .ok (.goto (-61), 3) := gdX8_findQuestion_18.2.2.2.2.2.2.1
theorem dX8_findQuestion_26 : decode cX8_findQuestion 26 = .ok (.aload_n 0, 1) := gdX8_findQuestion_18.2.2.2.2.2.2.2.1
theorem dX8_findQuestion_27 : decode cX8_findQuestion 27 = .ok (.aload_n 1, 1) := gdX8_findQuestion_18.2.2.2.2.2.2.2.2.1
theorem dX8_findQuestion_28 : decode cX8_findQuestion 28 = .ok (.iload_n 2, 1) := gdX8_findQuestion_18.2.2.2.2.2.2.2.2.2.1
theorem dX8_findQuestion_29 : decode cX8_findQuestion 29 = .ok (.iload_n 3, 1) := gdX8_findQuestion_18.2.2.2.2.2.2.2.2.2.2.1
theorem dX8_findQuestion_30 : decode cX8_findQuestion 30 = .ok (.invokevirtual 81, 3) := gdX8_findQuestion_18.2.2.2.2.2.2.2.2.2.2.2
theorem k_X8_81 : xV RX8 RX8 81 yX8_mostLeftBehind cX8_mostLeftBehind 7 (some .int) 3 := ⟨⟨m_1379, m_1381, m_62, m_140, m_1382⟩, rfl, by decide, by decide, by decide +kernel⟩
theorem gdX8_findQuestion_33 : decode cX8_findQuestion 33 = .ok (.istore 4, 2) ∧ decode cX8_findQuestion 35 = .ok (.iload 4, 2) ∧ decode cX8_findQuestion 37 = .ok (.aload_n 0, 1) ∧ decode cX8_findQuestion 38 = .ok (.getfield 76, 3) ∧ decode cX8_findQuestion 41 = .ok (.if_icmp .ge 19, 3) ∧ decode cX8_findQuestion 60 = .ok (.iinc 3 1, 3) ∧ decode cX8_findQuestion 63 = .ok (.goto (-43), 3) ∧ decode cX8_findQuestion 44 = .ok (.aload_n 0, 1) ∧ decode cX8_findQuestion 45 = .ok (.iload 4, 2) ∧ decode cX8_findQuestion 47 = .ok (.putfield 76, 3) ∧ decode cX8_findQuestion 50 = .ok (.aload_n 0, 1) ∧ decode cX8_findQuestion 51 = .ok (.bipush 100, 2) := by decide +kernel
theorem dX8_findQuestion_33 : decode cX8_findQuestion 33 = .ok (.istore 4, 2) := gdX8_findQuestion_33.1
theorem dX8_findQuestion_35 : decode cX8_findQuestion 35 = .ok (.iload 4, 2) := gdX8_findQuestion_33.2.1
theorem dX8_findQuestion_37 : decode cX8_findQuestion 37 = .ok (.aload_n 0, 1) := gdX8_findQuestion_33.2.2.1
theorem dX8_findQuestion_38 : decode cX8_findQuestion 38 = .ok (.getfield 76, 3) := gdX8_findQuestion_33.2.2.2.1
theorem dX8_findQuestion_41 : decode cX8_findQuestion 41 = .ok (.if_icmp .ge 19, 3) := gdX8_findQuestion_33.2.2.2.2.1
theorem dX8_findQuestion_60 : decode cX8_findQuestion 60 = .ok (.iinc 3 1, 3) := gdX8_findQuestion_33.2.2.2.2.2.1
theorem dX8_findQuestion_63 : decode cX8_findQuestion 63 = .ok (.goto (-43), 3) := gdX8_findQuestion_33.2.2.2.2.2.2.1
theorem dX8_findQuestion_44 : decode cX8_findQuestion 44 = .ok (.aload_n 0, 1) := gdX8_findQuestion_33.2.2.2.2.2.2.2.1
theorem dX8_findQuestion_45 : decode cX8_findQuestion 45 = .ok (.iload 4, 2) := gdX8_findQuestion_33.2.2.2.2.2.2.2.2.1
theorem dX8_findQuestion_47 : decode cX8_findQuestion 47 = .ok (.putfield 76, 3) := gdX8_findQuestion_33.2.2.2.2.2.2.2.2.2.1
theorem dX8_findQuestion_50 : decode cX8_findQuestion 50 = .ok (.aload_n 0, 1) := gdX8_findQuestion_33.2.2.2.2.2.2.2.2.2.2.1
theorem dX8_findQuestion_51 : decode cX8_findQuestion 51 = .ok (.bipush 100, 2) := gdX8_findQuestion_33.2.2.2.2.2.2.2.2.2.2.2
theorem gdX8_findQuestion_53 : decode cX8_findQuestion 53 = .ok (.iload_n 2, 1) ∧ decode cX8_findQuestion 54 = .ok (.imul, 1) ∧ decode cX8_findQuestion 55 = .ok (.iload_n 3, 1) ∧ decode cX8_findQuestion 56 = .ok (.iadd, 1) ∧ decode cX8_findQuestion 57 = .ok (.putfield 85, 3) := by decide +kernel
theorem dX8_findQuestion_53 : decode cX8_findQuestion 53 = .ok (.iload_n 2, 1) := gdX8_findQuestion_53.1
theorem dX8_findQuestion_54 : decode cX8_findQuestion 54 = .ok (.imul, 1) := gdX8_findQuestion_53.2.1
theorem dX8_findQuestion_55 : decode cX8_findQuestion 55 = .ok (.iload_n 3, 1) := gdX8_findQuestion_53.2.2.1
theorem dX8_findQuestion_56 : decode cX8_findQuestion 56 = .ok (.iadd, 1) := gdX8_findQuestion_53.2.2.2.1
theorem dX8_findQuestion_57 : decode cX8_findQuestion 57 = .ok (.putfield 85, 3) := gdX8_findQuestion_53.2.2.2.2
set_option maxHeartbeats 1000000 in
set_option maxRecDepth 100000 in
theorem s_findQuestion (l : Launch) (D : va_G) (cy : Nat → ClassId) (u0 : Nat) (u1 : Nat) (u2 : Nat) (u3 : Nat) (u4 : Nat) (u5 : Nat) (u6 : Nat) (u7 : Nat) (u8 : Nat) (uc : Nat) (ut : Int32) (lc : Nat) (qu : Int32) (ml : Int32) (fu6 : Nat → Int32) (fu7 : Nat → Int32) (fu8 : Nat → Int32) (h0 : Nat) (h1 : Nat) (h2 : Nat) (h3 : Nat) (h4 : Nat) (h5 : Nat) (h6 : Nat) (h7 : Nat) (h8 : Nat) (h9 : Nat) (h10 : Nat) (h11 : Nat) (hv0 : Value) (hv1 : Value) (hv3 : Value) (hv4 : Value) (hwi : Int32) (fp : Nat → Int32) (fcs : Nat → Int32) (h9a : Nat) (h9b : Nat) (nb : Nat) (tb : Int32) (fcb : Nat → Int32) (fsb : Nat → Int32) (fc : Nat → Int32) (c0 : Nat) (c1 : Nat) (c2 : Nat) (c3 : Nat) (huc : uc ≤ 30) (hlc : lc ≤ 100) (hnb : nb ≤ 280) (hcb : cOK fcb nb) (hcn : cntOK fc c0 c1 c2 c3) (hc0 : c0 ≤ 8) (hc1 : c1 ≤ 4) (hc2 : c2 ≤ 4) (hc3 : c3 ≤ 6) : XMv l D (tyL cy) E0 yX8_findQuestion cX8_findQuestion 5 none (rmk 5 0 0) [.ref u0, .ref h0] [wO u0 8 [.ref u1, .ref u2, .ref u3, .ref u4, .ref u5, .ref u6, .ref u7, .ref u8, .int (nI uc), .int ut, .int (nI lc), .int qu, .int ml], wI (cy 1) u6 100 (fu6), wI (cy 1) u7 11 (fu7), wI (cy 1) u8 7 (fu8), wO h0 4 [.ref h1, .ref h2, .ref h3, .ref h4, .ref h5, .ref h6, .ref h7, .ref h8, .ref h9, .ref h10, .ref h11, hv0, hv1, .int hwi, hv3, hv4], wI (cy 1) h3 4 (fp), wI (cy 1) h4 4 (fcs), wO h9 3 [.ref h9a, .ref h9b, .int (nI nb), .int tb], wI (cy 1) h9a 280 (fcb), wI (cy 1) h9b 31 (fsb), wI (cy 1) h1 4 (fc)] (fun (u : Int32 × Int32 × (Nat → Int32) × (Nat → Int32) × (Nat → Int32)) => True) (fun (u : Int32 × Int32 × (Nat → Int32) × (Nat → Int32) × (Nat → Int32)) => [wO u0 8 [.ref u1, .ref u2, .ref u3, .ref u4, .ref u5, .ref u6, .ref u7, .ref u8, .int (nI uc), .int ut, .int (nI lc), .int u.1, .int u.2.1], wI (cy 1) u6 100 (fu6), wI (cy 1) u7 11 (u.2.2.1), wI (cy 1) u8 7 (u.2.2.2.1), wO h0 4 [.ref h1, .ref h2, .ref h3, .ref h4, .ref h5, .ref h6, .ref h7, .ref h8, .ref h9, .ref h10, .ref h11, hv0, hv1, .int hwi, hv3, hv4], wI (cy 1) h3 4 (fp), wI (cy 1) h4 4 (fcs), wO h9 3 [.ref h9a, .ref h9b, .int (nI nb), .int tb], wI (cy 1) h9a 280 (fcb), wI (cy 1) h9b 31 (u.2.2.2.2), wI (cy 1) h1 4 (fc)]) := by
  refine XMv.start (by decide) (Nat.le_of_ble_eq_true rfl) ?_
  intro p e s m below meth c args A ls Q hat hQ
  obtain ⟨hx, hb, hr, hml, hown, hg, hlocks, hin, hK, hA, hP, hD, hS, hE, hl⟩ := hat
  have hown : s.vm.findClass RX8 = some m.cls := hown
  have hl : lv_has ls 5 [(0, .ref u0), (1, .ref h0)] := hl
  refine lv_aload_n hx hb dX8_findQuestion_0 rfl (lv_at hl 0 rfl) ?_
  refine lv_bipush (v := 101) hx hb dX8_findQuestion_1 (by decide) ?_
  refine va_put (D := D) (ci := 8) (v := .int 101) (ty := .int) (C := RX8) (T := TX8) (N := 13) hx hb hg i_X8 tyX8 tyX8_ok nmX8 hown hK hP hD hS 0 rfl rfl 12 (by decide) (hg _ m_470) (fun _ h9 => h9) rfl (by decide +kernel) rfl rfl (Nat.le_of_ble_eq_true rfl) dX8_findQuestion_3 (fun H locs hP9 hD9 hS9 => ?_)
  clear hP hD hS
  refine reW [wO u0 8 [.ref u1, .ref u2, .ref u3, .ref u4, .ref u5, .ref u6, .ref u7, .ref u8, .int (nI uc), .int ut, .int (nI lc), .int qu, .int 101], wI (cy 1) u6 100 (fu6), wI (cy 1) u7 11 (fu7), wI (cy 1) u8 7 (fu8), wO h0 4 [.ref h1, .ref h2, .ref h3, .ref h4, .ref h5, .ref h6, .ref h7, .ref h8, .ref h9, .ref h10, .ref h11, hv0, hv1, .int hwi, hv3, hv4], wI (cy 1) h3 4 (fp), wI (cy 1) h4 4 (fcs), wO h9 3 [.ref h9a, .ref h9b, .int (nI nb), .int tb], wI (cy 1) h9a 280 (fcb), wI (cy 1) h9b 31 (fsb), wI (cy 1) h1 4 (fc)] hP9 hD9 hS9 (fun hP hD hS => ?_)
  clear hP9 hD9 hS9
  refine lv_iconst (v := 0) hx hb dX8_findQuestion_6 (by decide) ?_
  refine lv_istore_n (lv' := [(2, .int 0), (0, .ref u0), (1, .ref h0)]) hx hb dX8_findQuestion_7 rfl hl (by decide) rfl (fun ls hl => ?_)
  have loop1 : ∀ (zn : Nat) (i1 : Nat) (fx1_1 : Int32) (fx2_1 : Int32) (fa3_1 : Nat → Int32) (fa4_1 : Nat → Int32) (fa5_1 : Nat → Int32), (i1 ≤ c1) → c1 - i1 + 1 ≤ zn → ∀ (H : Heap) (locs : List Loc), va_P D vwCl [wO u0 8 [.ref u1, .ref u2, .ref u3, .ref u4, .ref u5, .ref u6, .ref u7, .ref u8, .int (nI uc), .int ut, .int (nI lc), .int fx1_1, .int fx2_1], wI (cy 1) u6 100 (fu6), wI (cy 1) u7 11 (fa3_1), wI (cy 1) u8 7 (fa4_1), wO h0 4 [.ref h1, .ref h2, .ref h3, .ref h4, .ref h5, .ref h6, .ref h7, .ref h8, .ref h9, .ref h10, .ref h11, hv0, hv1, .int hwi, hv3, hv4], wI (cy 1) h3 4 (fp), wI (cy 1) h4 4 (fcs), wO h9 3 [.ref h9a, .ref h9b, .int (nI nb), .int tb], wI (cy 1) h9a 280 (fcb), wI (cy 1) h9b 31 (fa5_1), wI (cy 1) h1 4 (fc)] H → va_D A [wO u0 8 [.ref u1, .ref u2, .ref u3, .ref u4, .ref u5, .ref u6, .ref u7, .ref u8, .int (nI uc), .int ut, .int (nI lc), .int fx1_1, .int fx2_1], wI (cy 1) u6 100 (fu6), wI (cy 1) u7 11 (fa3_1), wI (cy 1) u8 7 (fa4_1), wO h0 4 [.ref h1, .ref h2, .ref h3, .ref h4, .ref h5, .ref h6, .ref h7, .ref h8, .ref h9, .ref h10, .ref h11, hv0, hv1, .int hwi, hv3, hv4], wI (cy 1) h3 4 (fp), wI (cy 1) h4 4 (fcs), wO h9 3 [.ref h9a, .ref h9b, .int (nI nb), .int tb], wI (cy 1) h9a 280 (fcb), wI (cy 1) h9b 31 (fa5_1), wI (cy 1) h1 4 (fc)] → va_S A s.heap H locs → ∀ ls : Array Slot, lv_has ls 5 [(2, .int (nI i1)), (0, .ref u0), (1, .ref h0)] → W p l e (rmk 5 0 0) s m args below meth c H locs 0 0 Q (F0 m 8 ls []) := by
    try clear hP hD hS
    intro zn
    induction zn with
    | zero => intro i1 fx1_1 fx2_1 fa3_1 fa4_1 fa5_1 _ hz; exact absurd hz (by omega)
    | succ zn ih1 =>
      intro i1 fx1_1 fx2_1 fa3_1 fa4_1 fa5_1 hf0_1 hmu1 H locs hP hD hS ls hl
      refine lv_iload_n hx hb dX8_findQuestion_8 rfl (lv_at hl 0 rfl) ?_
      refine lv_aload_n hx hb dX8_findQuestion_9 rfl (lv_at hl 2 rfl) ?_
      refine va_get (D := D) (ci := 4) (v := .ref h1) (C := RX4) (T := TX4) (N := 16) hx hb hg i_X4 hown hK hP 4 rfl rfl 0 (by decide) (hg _ m_337) (fun _ h9 => h9) rfl dX8_findQuestion_10 ?_
      refine lv_iconst (v := 1) hx hb dX8_findQuestion_13 (by decide) ?_
      refine va_iald hx hb hK hP 10 1 rfl rfl (by unfold vp_in; decide) dX8_findQuestion_14 ?_
      refine lv_topi (fun y_2 hy_2 => ?_)
      obtain rfl : y_2 = nI c1 := hy_2.trans hcn.2.1
      refine lv_icmp_ge (tgt := 72) hx hb dX8_findQuestion_15 (by decide) (fun c_3 => ?_) (fun c_3 => ?_)
      · have q_4 : c1 ≤ i1 := q_le (a := c1) (b := i1) rfl rfl (by omega) (by omega) c_3
        exact x_vret hQ hx hb hr hlocks hK hP hD hS dX8_findQuestion_72 (fx1_1, fx2_1, fa3_1, fa4_1, fa5_1) (trivial) [0, 1, 2, 3, 4, 5, 6, 7, 8, 9, 10] (by decide +kernel) rfl (Nat.le_of_ble_eq_true rfl) (Nat.le_of_ble_eq_true rfl)
      · have q_4 : i1 < c1 := q_nle (a := c1) (b := i1) rfl rfl (by omega) (by omega) c_3
        refine lv_iconst (v := 1) hx hb dX8_findQuestion_18 (by decide) ?_
        refine lv_istore_n (lv' := [(3, .int 1), (2, .int (nI i1)), (0, .ref u0), (1, .ref h0)]) hx hb dX8_findQuestion_19 rfl hl (by decide) rfl (fun ls hl => ?_)
        have loop5 : ∀ (zn : Nat) (k5 : Nat) (fx1_5 : Int32) (fx2_5 : Int32) (fa3_5 : Nat → Int32) (fa4_5 : Nat → Int32) (fa5_5 : Nat → Int32), (k5 ≤ 11) → 11 - k5 + 1 ≤ zn → ∀ (H : Heap) (locs : List Loc), va_P D vwCl [wO u0 8 [.ref u1, .ref u2, .ref u3, .ref u4, .ref u5, .ref u6, .ref u7, .ref u8, .int (nI uc), .int ut, .int (nI lc), .int fx1_5, .int fx2_5], wI (cy 1) u6 100 (fu6), wI (cy 1) u7 11 (fa3_5), wI (cy 1) u8 7 (fa4_5), wO h0 4 [.ref h1, .ref h2, .ref h3, .ref h4, .ref h5, .ref h6, .ref h7, .ref h8, .ref h9, .ref h10, .ref h11, hv0, hv1, .int hwi, hv3, hv4], wI (cy 1) h3 4 (fp), wI (cy 1) h4 4 (fcs), wO h9 3 [.ref h9a, .ref h9b, .int (nI nb), .int tb], wI (cy 1) h9a 280 (fcb), wI (cy 1) h9b 31 (fa5_5), wI (cy 1) h1 4 (fc)] H → va_D A [wO u0 8 [.ref u1, .ref u2, .ref u3, .ref u4, .ref u5, .ref u6, .ref u7, .ref u8, .int (nI uc), .int ut, .int (nI lc), .int fx1_5, .int fx2_5], wI (cy 1) u6 100 (fu6), wI (cy 1) u7 11 (fa3_5), wI (cy 1) u8 7 (fa4_5), wO h0 4 [.ref h1, .ref h2, .ref h3, .ref h4, .ref h5, .ref h6, .ref h7, .ref h8, .ref h9, .ref h10, .ref h11, hv0, hv1, .int hwi, hv3, hv4], wI (cy 1) h3 4 (fp), wI (cy 1) h4 4 (fcs), wO h9 3 [.ref h9a, .ref h9b, .int (nI nb), .int tb], wI (cy 1) h9a 280 (fcb), wI (cy 1) h9b 31 (fa5_5), wI (cy 1) h1 4 (fc)] → va_S A s.heap H locs → ∀ ls : Array Slot, lv_has ls 5 [(3, .int (nI k5)), (2, .int (nI i1)), (0, .ref u0), (1, .ref h0)] → W p l e (rmk 5 0 0) s m args below meth c H locs 0 0 Q (F0 m 20 ls []) := by
          try clear hP hD hS
          intro zn
          induction zn with
          | zero => intro k5 fx1_5 fx2_5 fa3_5 fa4_5 fa5_5 _ hz; exact absurd hz (by omega)
          | succ zn ih5 =>
            intro k5 fx1_5 fx2_5 fa3_5 fa4_5 fa5_5 hf0_5 hmu5 H locs hP hD hS ls hl
            refine lv_iload_n hx hb dX8_findQuestion_20 rfl (lv_at hl 0 rfl) ?_
            refine lv_bipush (v := 10) hx hb dX8_findQuestion_21 (by decide) ?_
            refine lv_icmp_gt (tgt := 66) hx hb dX8_findQuestion_23 (by decide) (fun c_6 => ?_) (fun c_6 => ?_)
            · have q_7 : 10 < k5 := q_lt (a := 10) (b := k5) rfl rfl (by omega) (by omega) c_6
              refine lv_iinc (v := nI (i1 + 1)) (lv' := [(2, .int (nI (i1 + 1))), (3, .int (nI k5)), (0, .ref u0), (1, .ref h0)]) hx hb dX8_findQuestion_66 hl (k := 1) rfl (nI_add i1 1) (by decide) rfl (fun ls hl => ?_)
              refine lv_goto (tgt := 8) hx hb dX8_findQuestion_69 (by decide) ?_
              exact ih1  ((i1 + 1)) fx1_5 fx2_5 fa3_5 fa4_5 fa5_5 (by omega) (by omega) _ _ (hP.sub [0, 1, 2, 3, 4, 5, 6, 7, 8, 9, 10] rfl) (hD.sub [0, 1, 2, 3, 4, 5, 6, 7, 8, 9, 10] (by decide +kernel) rfl) hS ls (lv_sub hl [0, 2, 3] rfl)
            · have q_7 : k5 ≤ 10 := q_nlt (a := 10) (b := k5) rfl rfl (by omega) (by omega) c_6
              refine lv_aload_n hx hb dX8_findQuestion_26 rfl (lv_at hl 2 rfl) ?_
              refine lv_aload_n hx hb dX8_findQuestion_27 rfl (lv_at hl 3 rfl) ?_
              refine lv_iload_n hx hb dX8_findQuestion_28 rfl (lv_at hl 1 rfl) ?_
              refine lv_iload_n hx hb dX8_findQuestion_29 rfl (lv_at hl 0 rfl) ?_
              refine x_callVi (q := (RX8, TX8, 13)) (ci := 8) (q0 := 0) (wr := [wI (cy 1) h1 4 (fc)]) (rest := []) ⟨hx, hb, hml, hown, hg, hl.1⟩ k_X8_81 (s_mostLeftBehind l D cy u0 u1 u2 u3 u4 u5 u6 u7 u8 uc ut lc fx1_5 fx2_5 fu6 fa3_5 fa4_5 h0 h1 h2 h3 h4 h5 h6 h7 h8 h9 h10 h11 hv0 hv1 hv3 hv4 hwi fp fcs h9a h9b nb tb fcb fa5_5 i1 k5 (by omega) (by omega) (by omega) (hcb) (by omega) (by omega)) E0_blind hK hP hD hS hA [0, 1, 2, 3, 4, 5, 6, 7, 8, 9] [10] ⟨rfl, rfl, by decide +kernel, by decide +kernel, by decide +kernel⟩ rfl rfl (fun _ _ _ => trivial) dX8_findQuestion_30 rfl rfl (Nat.le_of_ble_eq_true rfl) ⟨Nat.le_of_ble_eq_true rfl, Nat.le_of_ble_eq_true rfl⟩ ⟨Nat.le_of_ble_eq_true rfl, Nat.le_of_ble_eq_true rfl⟩ (fun zr8 zu8 H locs hw8 hP9 hD9 hS9 => ?_)
              clear hP hD hS
              obtain ⟨fu72_9, fu82_10, fsb2_11⟩ := zu8
              refine reW [wI (cy 1) h1 4 (fc), wO u0 8 [.ref u1, .ref u2, .ref u3, .ref u4, .ref u5, .ref u6, .ref u7, .ref u8, .int (nI uc), .int ut, .int (nI lc), .int fx1_5, .int fx2_5], wI (cy 1) u6 100 (fu6), wI (cy 1) u7 11 (fu72_9), wI (cy 1) u8 7 (fu82_10), wO h0 4 [.ref h1, .ref h2, .ref h3, .ref h4, .ref h5, .ref h6, .ref h7, .ref h8, .ref h9, .ref h10, .ref h11, hv0, hv1, .int hwi, hv3, hv4], wI (cy 1) h3 4 (fp), wI (cy 1) h4 4 (fcs), wO h9 3 [.ref h9a, .ref h9b, .int (nI nb), .int tb], wI (cy 1) h9a 280 (fcb), wI (cy 1) h9b 31 (fsb2_11)] hP9 hD9 hS9 (fun hP hD hS => ?_)
              clear hP9 hD9 hS9
              refine W.widen (k := 0) (n := 0) (Nat.le_of_ble_eq_true rfl) (Nat.le_of_ble_eq_true rfl) ?_
              replace hw8 : True := hw8
              refine lv_istore (lv' := [(4, .int zr8), (3, .int (nI k5)), (2, .int (nI i1)), (0, .ref u0), (1, .ref h0)]) hx hb dX8_findQuestion_33 hl (by decide) rfl (fun ls hl => ?_)
              refine lv_iload hx hb dX8_findQuestion_35 (lv_at hl 0 rfl) ?_
              refine lv_aload_n hx hb dX8_findQuestion_37 rfl (lv_at hl 3 rfl) ?_
              refine va_get (D := D) (ci := 8) (v := .int fx2_5) (C := RX8) (T := TX8) (N := 13) hx hb hg i_X8 hown hK hP 1 rfl rfl 12 (by decide) (hg _ m_470) (fun _ h9 => h9) rfl dX8_findQuestion_38 ?_
              refine lv_icmp_ge (tgt := 60) hx hb dX8_findQuestion_41 (by decide) (fun c_41 => ?_) (fun c_41 => ?_)
              · refine lv_iinc (v := nI (k5 + 1)) (lv' := [(3, .int (nI (k5 + 1))), (4, .int zr8), (2, .int (nI i1)), (0, .ref u0), (1, .ref h0)]) hx hb dX8_findQuestion_60 hl (k := 1) rfl (nI_add k5 1) (by decide) rfl (fun ls hl => ?_)
                refine lv_goto (tgt := 20) hx hb dX8_findQuestion_63 (by decide) ?_
                exact ih5  ((k5 + 1)) fx1_5 fx2_5 fu72_9 fu82_10 fsb2_11 (by omega) (by omega) _ _ (hP.sub [1, 2, 3, 4, 5, 6, 7, 8, 9, 10, 0] rfl) (hD.sub [1, 2, 3, 4, 5, 6, 7, 8, 9, 10, 0] (by decide +kernel) rfl) hS ls (lv_sub hl [0, 2, 3, 4] rfl)
              · refine lv_aload_n hx hb dX8_findQuestion_44 rfl (lv_at hl 3 rfl) ?_
                refine lv_iload hx hb dX8_findQuestion_45 (lv_at hl 0 rfl) ?_
                refine va_put (D := D) (ci := 8) (v := .int zr8) (ty := .int) (C := RX8) (T := TX8) (N := 13) hx hb hg i_X8 tyX8 tyX8_ok nmX8 hown hK hP hD hS 1 rfl rfl 12 (by decide) (hg _ m_470) (fun _ h9 => h9) rfl (by decide +kernel) rfl rfl (Nat.le_of_ble_eq_true rfl) dX8_findQuestion_47 (fun H locs hP9 hD9 hS9 => ?_)
                clear hP hD hS
                refine reW [wI (cy 1) h1 4 (fc), wO u0 8 [.ref u1, .ref u2, .ref u3, .ref u4, .ref u5, .ref u6, .ref u7, .ref u8, .int (nI uc), .int ut, .int (nI lc), .int fx1_5, .int zr8], wI (cy 1) u6 100 (fu6), wI (cy 1) u7 11 (fu72_9), wI (cy 1) u8 7 (fu82_10), wO h0 4 [.ref h1, .ref h2, .ref h3, .ref h4, .ref h5, .ref h6, .ref h7, .ref h8, .ref h9, .ref h10, .ref h11, hv0, hv1, .int hwi, hv3, hv4], wI (cy 1) h3 4 (fp), wI (cy 1) h4 4 (fcs), wO h9 3 [.ref h9a, .ref h9b, .int (nI nb), .int tb], wI (cy 1) h9a 280 (fcb), wI (cy 1) h9b 31 (fsb2_11)] hP9 hD9 hS9 (fun hP hD hS => ?_)
                clear hP9 hD9 hS9
                refine lv_aload_n hx hb dX8_findQuestion_50 rfl (lv_at hl 3 rfl) ?_
                refine lv_bipush (v := 100) hx hb dX8_findQuestion_51 (by decide) ?_
                refine lv_iload_n hx hb dX8_findQuestion_53 rfl (lv_at hl 2 rfl) ?_
                refine lv_imul hx hb dX8_findQuestion_54 ?_
                refine lv_topi (fun y_12 hy_12 => ?_)
                obtain rfl : y_12 = nI (100 * i1) := hy_12.trans (pk_mul 100 i1)
                refine lv_iload_n hx hb dX8_findQuestion_55 rfl (lv_at hl 1 rfl) ?_
                refine lv_iadd hx hb dX8_findQuestion_56 ?_
                refine lv_topi (fun y_13 hy_13 => ?_)
                obtain rfl : y_13 = nI ((100 * i1) + k5) := hy_13.trans (nI_add ((100 * i1)) k5)
                refine va_put (D := D) (ci := 8) (v := .int (nI ((100 * i1) + k5))) (ty := .int) (C := RX8) (T := TX8) (N := 13) hx hb hg i_X8 tyX8 tyX8_ok nmX8 hown hK hP hD hS 1 rfl rfl 11 (by decide) (hg _ m_468) (fun _ h9 => h9) rfl (by decide +kernel) rfl rfl (Nat.le_of_ble_eq_true rfl) dX8_findQuestion_57 (fun H locs hP9 hD9 hS9 => ?_)
                clear hP hD hS
                refine reW [wI (cy 1) h1 4 (fc), wO u0 8 [.ref u1, .ref u2, .ref u3, .ref u4, .ref u5, .ref u6, .ref u7, .ref u8, .int (nI uc), .int ut, .int (nI lc), .int (nI ((100 * i1) + k5)), .int zr8], wI (cy 1) u6 100 (fu6), wI (cy 1) u7 11 (fu72_9), wI (cy 1) u8 7 (fu82_10), wO h0 4 [.ref h1, .ref h2, .ref h3, .ref h4, .ref h5, .ref h6, .ref h7, .ref h8, .ref h9, .ref h10, .ref h11, hv0, hv1, .int hwi, hv3, hv4], wI (cy 1) h3 4 (fp), wI (cy 1) h4 4 (fcs), wO h9 3 [.ref h9a, .ref h9b, .int (nI nb), .int tb], wI (cy 1) h9a 280 (fcb), wI (cy 1) h9b 31 (fsb2_11)] hP9 hD9 hS9 (fun hP hD hS => ?_)
                clear hP9 hD9 hS9
                refine lv_iinc (v := nI (k5 + 1)) (lv' := [(3, .int (nI (k5 + 1))), (4, .int zr8), (2, .int (nI i1)), (0, .ref u0), (1, .ref h0)]) hx hb dX8_findQuestion_60 hl (k := 1) rfl (nI_add k5 1) (by decide) rfl (fun ls hl => ?_)
                refine lv_goto (tgt := 20) hx hb dX8_findQuestion_63 (by decide) ?_
                exact ih5  ((k5 + 1)) (nI ((100 * i1) + k5)) zr8 fu72_9 fu82_10 fsb2_11 (by omega) (by omega) _ _ (hP.sub [1, 2, 3, 4, 5, 6, 7, 8, 9, 10, 0] rfl) (hD.sub [1, 2, 3, 4, 5, 6, 7, 8, 9, 10, 0] (by decide +kernel) rfl) hS ls (lv_sub hl [0, 2, 3, 4] rfl)
        exact loop5 _ 1 fx1_1 fx2_1 fa3_1 fa4_1 fa5_1 (by omega) (Nat.le_refl _) _ _ (hP.sub [0, 1, 2, 3, 4, 5, 6, 7, 8, 9, 10] rfl) (hD.sub [0, 1, 2, 3, 4, 5, 6, 7, 8, 9, 10] (by decide +kernel) rfl) hS ls (lv_sub hl [0, 1, 2, 3] rfl)
  exact loop1 _ 0 qu 101 fu7 fu8 fsb (by omega) (Nat.le_refl _) _ _ (hP.sub [0, 1, 2, 3, 4, 5, 6, 7, 8, 9, 10] rfl) (hD.sub [0, 1, 2, 3, 4, 5, 6, 7, 8, 9, 10] (by decide +kernel) rfl) hS ls (lv_sub hl [0, 1, 2] rfl)
