def mL21 : List (Option Cond) := [some (Cond.selects RX10 yX10_takeNew yX10_takeNew), some (Cond.selects RX10 yX10_takeOption yX10_takeOption), some (Cond.selects RX10 yX10_known yX10_known), some (Cond.fieldLink RX10 40 "CliffJudges$Teller" "windTold" "Z"), some (Cond.fieldLink RX10 44 "CliffJudges$Teller" "drawTold" "Z"), some (Cond.fieldLink RX10 158 "CliffJudges$Formula" "told" "Z"), some (Cond.methodLink RX4 55 yX3_clear), some (Cond.instanceMethod yX3_clear), some (Cond.selects RX3 yX3_clear yX3_clear), some (Cond.code yX3_clear cX3_clear 1 none), some (Cond.fieldLink RX10 121 "CliffJudges$Hills" "loud" "[I"), some (Cond.fieldLink RX10 150 "CliffJudges$Hills" "next" "[I"), some (Cond.fieldLink RX4 43 "CliffJudges$Hills" "lost" "LCliffJudges$Formula;"), some (Cond.fieldLink RX4 46 "CliffJudges$Hills" "turn" "LCliffJudges$Formula;"), some (Cond.fieldLink RX10 137 "CliffJudges$Hills" "yesStates" "I"), some (Cond.fieldLink RX4 60 "CliffJudges$Hills" "ons" "I"), some (Cond.fieldLink RX10 143 "CliffJudges$Hills" "ons" "I"), some (Cond.fieldLink RX4 63 "CliffJudges$Hills" "wind" "I"), some (Cond.fieldLink RX10 152 "CliffJudges$Hills" "wind" "I"), some (Cond.fieldLink RX4 66 "CliffJudges$Hills" "draw" "I"), some (Cond.fieldLink RX10 155 "CliffJudges$Hills" "draw" "I"), some (Cond.fieldLink RX4 69 "CliffJudges$Hills" "units" "I"), some (Cond.methodLink RX10 117 yX10_takeNew), some (Cond.instanceMethod yX10_takeNew), some (Cond.code yX10_takeNew cX10_takeNew 4 (some .boolean)), some (Cond.methodLink RX10 124 yX10_takeOption), some (Cond.instanceMethod yX10_takeOption), some (Cond.code yX10_takeOption cX10_takeOption 4 (some .boolean)), some (Cond.methodLink RX10 146 yX10_known), some (Cond.instanceMethod yX10_known), some (Cond.code yX10_known cX10_known 3 (some .int))]
set_option maxRecDepth 100000 in
theorem mP21 : pick [7, 3, 6, 244, 1, 45, 15, 1, 1, 1, 16, 17, 5, 3, 4, 2, 1, 3, 2, 2, 1, 1, 437, 2, 1, 10, 2, 1, 21, 2, 1] lw_tbl = mL21 := rfl
set_option maxRecDepth 100000 in
theorem mG21 : mL21.all (fun o => o.all goodWord) = true := rfl
theorem m_7 : (Cond.selects RX10 yX10_takeNew yX10_takeNew) ∈ gT := gp mP21 mG21 0 rfl
theorem m_10 : (Cond.selects RX10 yX10_takeOption yX10_takeOption) ∈ gT := gp mP21 mG21 1 rfl
theorem m_16 : (Cond.selects RX10 yX10_known yX10_known) ∈ gT := gp mP21 mG21 2 rfl
theorem m_260 : (Cond.fieldLink RX10 40 "CliffJudges$Teller" "windTold" "Z") ∈ gT := gp mP21 mG21 3 rfl
theorem m_261 : (Cond.fieldLink RX10 44 "CliffJudges$Teller" "drawTold" "Z") ∈ gT := gp mP21 mG21 4 rfl
theorem m_306 : (Cond.fieldLink RX10 158 "CliffJudges$Formula" "told" "Z") ∈ gT := gp mP21 mG21 5 rfl
theorem m_321 : (Cond.methodLink RX4 55 yX3_clear) ∈ gT := gp mP21 mG21 6 rfl
theorem m_322 : (Cond.instanceMethod yX3_clear) ∈ gT := gp mP21 mG21 7 rfl
theorem m_323 : (Cond.selects RX3 yX3_clear yX3_clear) ∈ gT := gp mP21 mG21 8 rfl
theorem m_324 : (Cond.code yX3_clear cX3_clear 1 none) ∈ gT := gp mP21 mG21 9 rfl
theorem m_340 : (Cond.fieldLink RX10 121 "CliffJudges$Hills" "loud" "[I") ∈ gT := gp mP21 mG21 10 rfl
theorem m_357 : (Cond.fieldLink RX10 150 "CliffJudges$Hills" "next" "[I") ∈ gT := gp mP21 mG21 11 rfl
theorem m_362 : (Cond.fieldLink RX4 43 "CliffJudges$Hills" "lost" "LCliffJudges$Formula;") ∈ gT := gp mP21 mG21 12 rfl
theorem m_365 : (Cond.fieldLink RX4 46 "CliffJudges$Hills" "turn" "LCliffJudges$Formula;") ∈ gT := gp mP21 mG21 13 rfl
theorem m_369 : (Cond.fieldLink RX10 137 "CliffJudges$Hills" "yesStates" "I") ∈ gT := gp mP21 mG21 14 rfl
theorem m_371 : (Cond.fieldLink RX4 60 "CliffJudges$Hills" "ons" "I") ∈ gT := gp mP21 mG21 15 rfl
theorem m_372 : (Cond.fieldLink RX10 143 "CliffJudges$Hills" "ons" "I") ∈ gT := gp mP21 mG21 16 rfl
theorem m_375 : (Cond.fieldLink RX4 63 "CliffJudges$Hills" "wind" "I") ∈ gT := gp mP21 mG21 17 rfl
theorem m_377 : (Cond.fieldLink RX10 152 "CliffJudges$Hills" "wind" "I") ∈ gT := gp mP21 mG21 18 rfl
theorem m_379 : (Cond.fieldLink RX4 66 "CliffJudges$Hills" "draw" "I") ∈ gT := gp mP21 mG21 19 rfl
theorem m_380 : (Cond.fieldLink RX10 155 "CliffJudges$Hills" "draw" "I") ∈ gT := gp mP21 mG21 20 rfl
theorem m_381 : (Cond.fieldLink RX4 69 "CliffJudges$Hills" "units" "I") ∈ gT := gp mP21 mG21 21 rfl
theorem m_818 : (Cond.methodLink RX10 117 yX10_takeNew) ∈ gT := gp mP21 mG21 22 rfl
theorem m_820 : (Cond.instanceMethod yX10_takeNew) ∈ gT := gp mP21 mG21 23 rfl
theorem m_821 : (Cond.code yX10_takeNew cX10_takeNew 4 (some .boolean)) ∈ gT := gp mP21 mG21 24 rfl
theorem m_831 : (Cond.methodLink RX10 124 yX10_takeOption) ∈ gT := gp mP21 mG21 25 rfl
theorem m_833 : (Cond.instanceMethod yX10_takeOption) ∈ gT := gp mP21 mG21 26 rfl
theorem m_834 : (Cond.code yX10_takeOption cX10_takeOption 4 (some .boolean)) ∈ gT := gp mP21 mG21 27 rfl
theorem m_855 : (Cond.methodLink RX10 146 yX10_known) ∈ gT := gp mP21 mG21 28 rfl
theorem m_857 : (Cond.instanceMethod yX10_known) ∈ gT := gp mP21 mG21 29 rfl
theorem m_858 : (Cond.code yX10_known cX10_known 3 (some .int)) ∈ gT := gp mP21 mG21 30 rfl
/-- NEXT while it is told: nothing yet, or a STATE -/
def nxT (f : Nat → Int32) : Prop := ∀ k, k < 48 → f k = -1 ∨ ∃ j : Nat, j ≤ 5 ∧ f k = nI j
theorem nxT_put {f : Nat → Int32} {k j : Nat} (h : nxT f) (hj : j ≤ 5) : nxT (upd f k (nI j)) := by
  intro i hi
  by_cases e : i = k
  · exact Or.inr ⟨j, hj, by rw [e]; exact pk_us⟩
  · rw [pk_un e]; exact h i hi
def stTo (f : Nat → Int32) (i : Nat) : Prop := (∀ k, k < i → ∃ j : Nat, j ≤ 5 ∧ f k = nI j) ∧ nxT f
theorem stTo_0 {f : Nat → Int32} (h : nxT f) : stTo f 0 := ⟨fun k hk => absurd hk (by omega), h⟩
theorem stTo_keep {f : Nat → Int32} {i : Nat} {x : Int32} (h : stTo f i) (hi : i < 48) (ex : x = f (nI i).toNatClampNeg) (hx : ¬ x = -1) : stTo f (i + 1) := by
  rw [nI_clamp (by omega)] at ex
  refine ⟨fun k hk => ?_, h.2⟩
  by_cases e : k = i
  · rw [e]; exact (h.2 i hi).resolve_left (fun h9 => hx (ex.trans h9))
  · exact h.1 k (by omega)
theorem stTo_put {f : Nat → Int32} {i j : Nat} (h : stTo f i) (hi : i < 48) (hj : j ≤ 5) : stTo (upd f (nI i).toNatClampNeg (nI j)) (i + 1) := by
  rw [nI_clamp (by omega)]
  refine ⟨fun k hk => ?_, nxT_put h.2 hj⟩
  by_cases e : k = i
  · exact ⟨j, hj, by rw [e]; exact pk_us⟩
  · rw [pk_un e]; exact h.1 k (by omega)
theorem stTo_rng {f : Nat → Int32} {i : Nat} (h : stTo f i) (hi : 48 ≤ i) : rng f 48 5 := fun k hk => h.1 k (by omega)
def mTo (f : Nat → Int32) (i : Nat) : Prop := ∀ k, k < i → f k = -1
theorem mTo_put {f : Nat → Int32} {i : Nat} (h : mTo f i) (hi : i < 48) : mTo (upd f (nI i).toNatClampNeg (-1)) (i + 1) := by
  rw [nI_clamp (by omega)]
  intro k hk
  by_cases e : k = i
  · rw [e]; exact pk_us
  · rw [pk_un e]; exact h k (by omega)
theorem mTo_nx {f : Nat → Int32} {i : Nat} (h : mTo f i) (hi : 48 ≤ i) : nxT f := fun k hk => Or.inl (h k (by omega))
theorem clr4 {f : Nat → Int32} : cntOK (upd (upd (upd (upd f (0 : Int32).toNatClampNeg 0) (1 : Int32).toNatClampNeg 0) (2 : Int32).toNatClampNeg 0) (3 : Int32).toNatClampNeg 0) 0 0 0 0 := ⟨rfl, rfl, rfl, rfl⟩
theorem gdX4_clear_0 : decode cX4_clear 0 = .ok (.iconst 0, 1) ∧ decode cX4_clear 1 = .ok (.istore_n 1, 1) ∧ decode cX4_clear 2 = .ok (.iload_n 1, 1) ∧ decode cX4_clear 3 = .ok (.aload_n 0, 1) ∧ decode cX4_clear 4 = .ok (.getfield 9, 3) ∧ decode cX4_clear 7 = .ok (.arraylength, 1) ∧ decode cX4_clear 8 = .ok (.if_icmp .ge 16, 3) ∧ decode cX4_clear 11 = .ok (.aload_n 0, 1) ∧ decode cX4_clear 12 = .ok (.getfield 9, 3) ∧ decode cX4_clear 15 = .ok (.iload_n 1, 1) ∧ decode cX4_clear 16 = .ok (.iconst 0, 1) ∧ decode cX4_clear 17 = .ok (.iastore, 1) := by decide +kernel
theorem dX4_clear_0 : decode cX4_clear 0 = .ok (.iconst 0, 1) := gdX4_clear_0.1
theorem dX4_clear_1 : decode cX4_clear 1 = .ok (.istore_n 1, 1) := gdX4_clear_0.2.1
theorem dX4_clear_2 : decode cX4_clear 2 = .ok (.iload_n 1, 1) := gdX4_clear_0.2.2.1
theorem dX4_clear_3 : decode cX4_clear 3 = .ok (.aload_n 0, 1) := gdX4_clear_0.2.2.2.1
theorem dX4_clear_4 : decode cX4_clear 4 = .ok (.getfield 9, 3) := gdX4_clear_0.2.2.2.2.1
theorem dX4_clear_7 : decode cX4_clear 7 = .ok (.arraylength, 1) := gdX4_clear_0.2.2.2.2.2.1
theorem dX4_clear_8 : decode cX4_clear 8 = .ok (.if_icmp .ge 16, 3) := gdX4_clear_0.2.2.2.2.2.2.1
theorem dX4_clear_11 : decode cX4_clear 11 = .ok (.aload_n 0, 1) := gdX4_clear_0.2.2.2.2.2.2.2.1
theorem dX4_clear_12 : decode cX4_clear 12 = .ok (.getfield 9, 3) := gdX4_clear_0.2.2.2.2.2.2.2.2.1
theorem dX4_clear_15 : decode cX4_clear 15 = .ok (.iload_n 1, 1) := gdX4_clear_0.2.2.2.2.2.2.2.2.2.1
theorem dX4_clear_16 : decode cX4_clear 16 = .ok (.iconst 0, 1) := gdX4_clear_0.2.2.2.2.2.2.2.2.2.2.1
theorem dX4_clear_17 : decode cX4_clear 17 = .ok (.iastore, 1) := gdX4_clear_0.2.2.2.2.2.2.2.2.2.2.2
theorem gdX4_clear_18 : decode cX4_clear 18 = .ok (.iinc 1 1, 3) ∧ decode cX4_clear 21 = .ok (.goto (-19), 3) ∧ decode cX4_clear 24 = .ok (.iconst 0, 1) ∧ decode cX4_clear 25 = .ok (.istore_n 1, 1) ∧ decode cX4_clear 26 = .ok (.iload_n 1, 1) ∧ decode cX4_clear 27 = .ok (.aload_n 0, 1) ∧ decode cX4_clear 28 = .ok (.getfield 30, 3) ∧ decode cX4_clear 31 = .ok (.arraylength, 1) ∧ decode cX4_clear 32 = .ok (.if_icmp .ge 16, 3) ∧ decode cX4_clear 48 = .ok (.aload_n 0, 1) ∧ decode cX4_clear 49 = .ok (.getfield 39, 3) ∧ decode cX4_clear 52 = .ok (.invokevirtual 55, 3) := by decide +kernel
theorem dX4_clear_18 : decode cX4_clear 18 = .ok (.iinc 1 1, 3) := gdX4_clear_18.1
theorem dX4_clear_21 : decode cX4_clear 21 = .ok (.goto (-19), 3) := gdX4_clear_18.2.1
theorem dX4_clear_24 : decode cX4_clear 24 = .ok (.iconst 0, 1) := gdX4_clear_18.2.2.1
theorem dX4_clear_25 : decode cX4_clear 25 = .ok (.istore_n 1, 1) := gdX4_clear_18.2.2.2.1
theorem dX4_clear_26 : decode cX4_clear 26 = .ok (.iload_n 1, 1) := gdX4_clear_18.2.2.2.2.1
theorem dX4_clear_27 : decode cX4_clear 27 = .ok (.aload_n 0, 1) := gdX4_clear_18.2.2.2.2.2.1
theorem dX4_clear_28 : decode cX4_clear 28 = .ok (.getfield 30, 3) := gdX4_clear_18.2.2.2.2.2.2.1
theorem dX4_clear_31 : decode cX4_clear 31 = .ok (.arraylength, 1) := gdX4_clear_18.2.2.2.2.2.2.2.1
theorem dX4_clear_32 : decode cX4_clear 32 = .ok (.if_icmp .ge 16, 3) := gdX4_clear_18.2.2.2.2.2.2.2.2.1
theorem dX4_clear_48 : decode cX4_clear 48 = .ok (.aload_n 0, 1) := gdX4_clear_18.2.2.2.2.2.2.2.2.2.1
theorem dX4_clear_49 : decode cX4_clear 49 = .ok (.getfield 39, 3) := gdX4_clear_18.2.2.2.2.2.2.2.2.2.2.1
theorem dX4_clear_52 : decode cX4_clear 52 = .ok (.invokevirtual 55, 3) := gdX4_clear_18.2.2.2.2.2.2.2.2.2.2.2
theorem k_X4_55 : xV RX4 RX3 55 yX3_clear cX3_clear 1 none 0 := ⟨⟨m_321, m_322, m_323, m_138, m_324⟩, rfl, by decide, by decide, by decide +kernel⟩
theorem gdX4_clear_55 : decode cX4_clear 55 = .ok (.aload_n 0, 1) ∧ decode cX4_clear 56 = .ok (.getfield 43, 3) ∧ decode cX4_clear 59 = .ok (.invokevirtual 55, 3) ∧ decode cX4_clear 62 = .ok (.aload_n 0, 1) ∧ decode cX4_clear 63 = .ok (.getfield 46, 3) ∧ decode cX4_clear 66 = .ok (.invokevirtual 55, 3) ∧ decode cX4_clear 69 = .ok (.aload_n 0, 1) ∧ decode cX4_clear 70 = .ok (.iconst 0, 1) ∧ decode cX4_clear 71 = .ok (.putfield 56, 3) ∧ decode cX4_clear 74 = .ok (.aload_n 0, 1) ∧ decode cX4_clear 75 = .ok (.iconst 0, 1) ∧ decode cX4_clear 76 = .ok (.putfield 60, 3) := by decide +kernel
theorem dX4_clear_55 : decode cX4_clear 55 = .ok (.aload_n 0, 1) := gdX4_clear_55.1
theorem dX4_clear_56 : decode cX4_clear 56 = .ok (.getfield 43, 3) := gdX4_clear_55.2.1
theorem dX4_clear_59 : decode cX4_clear 59 = .ok (.invokevirtual 55, 3) := gdX4_clear_55.2.2.1
theorem dX4_clear_62 : decode cX4_clear 62 = .ok (.aload_n 0, 1) := gdX4_clear_55.2.2.2.1
theorem dX4_clear_63 : decode cX4_clear 63 = .ok (.getfield 46, 3) := gdX4_clear_55.2.2.2.2.1
theorem dX4_clear_66 : decode cX4_clear 66 = .ok (.invokevirtual 55, 3) := gdX4_clear_55.2.2.2.2.2.1
theorem dX4_clear_69 : decode cX4_clear 69 = .ok (.aload_n 0, 1) := gdX4_clear_55.2.2.2.2.2.2.1
theorem dX4_clear_70 : decode cX4_clear 70 = .ok (.iconst 0, 1) := gdX4_clear_55.2.2.2.2.2.2.2.1
theorem dX4_clear_71 : decode cX4_clear 71 = .ok (.putfield 56, 3) := gdX4_clear_55.2.2.2.2.2.2.2.2.1
theorem dX4_clear_74 : decode cX4_clear 74 = .ok (.aload_n 0, 1) := gdX4_clear_55.2.2.2.2.2.2.2.2.2.1
theorem dX4_clear_75 : decode cX4_clear 75 = .ok (.iconst 0, 1) := gdX4_clear_55.2.2.2.2.2.2.2.2.2.2.1
theorem dX4_clear_76 : decode cX4_clear 76 = .ok (.putfield 60, 3) := gdX4_clear_55.2.2.2.2.2.2.2.2.2.2.2
theorem gdX4_clear_79 : decode cX4_clear 79 = .ok (.aload_n 0, 1) ∧ decode cX4_clear 80 = .ok (.iconst 0, 1) ∧ decode cX4_clear 81 = .ok (.putfield 63, 3) ∧ decode cX4_clear 84 = .ok (.aload_n 0, 1) ∧ decode cX4_clear 85 = .ok (.iconst 0, 1) ∧ decode cX4_clear 86 = .ok (.putfield 66, 3) ∧ decode cX4_clear 89 = .ok (.aload_n 0, 1) ∧ decode cX4_clear 90 = .ok (.iconst 0, 1) ∧ decode cX4_clear 91 = .ok (.putfield 69, 3) ∧ decode cX4_clear 94 = .ok (.return_, 1) ∧ decode cX4_clear 35 = .ok (.aload_n 0, 1) ∧ decode cX4_clear 36 = .ok (.getfield 30, 3) := by decide +kernel
theorem dX4_clear_79 : decode cX4_clear 79 = .ok (.aload_n 0, 1) := gdX4_clear_79.1
theorem dX4_clear_80 : decode cX4_clear 80 = .ok (.iconst 0, 1) := gdX4_clear_79.2.1
theorem dX4_clear_81 : decode cX4_clear 81 = .ok (.putfield 63, 3) := gdX4_clear_79.2.2.1
theorem dX4_clear_84 : decode cX4_clear 84 = .ok (.aload_n 0, 1) := gdX4_clear_79.2.2.2.1
theorem dX4_clear_85 : decode cX4_clear 85 = .ok (.iconst 0, 1) := gdX4_clear_79.2.2.2.2.1
theorem dX4_clear_86 : decode cX4_clear 86 = .ok (.putfield 66, 3) := gdX4_clear_79.2.2.2.2.2.1
theorem dX4_clear_89 : decode cX4_clear 89 = .ok (.aload_n 0, 1) := gdX4_clear_79.2.2.2.2.2.2.1
theorem dX4_clear_90 : decode cX4_clear 90 = .ok (.iconst 0, 1) := gdX4_clear_79.2.2.2.2.2.2.2.1
theorem dX4_clear_91 : decode cX4_clear 91 = .ok (.putfield 69, 3) := gdX4_clear_79.2.2.2.2.2.2.2.2.1
theorem dX4_clear_94 : decode cX4_clear 94 = .ok (.return_, 1) := gdX4_clear_79.2.2.2.2.2.2.2.2.2.1
theorem dX4_clear_35 : decode cX4_clear 35 = .ok (.aload_n 0, 1) := gdX4_clear_79.2.2.2.2.2.2.2.2.2.2.1
theorem dX4_clear_36 : decode cX4_clear 36 = .ok (.getfield 30, 3) := gdX4_clear_79.2.2.2.2.2.2.2.2.2.2.2
theorem gdX4_clear_39 : decode cX4_clear 39 = .ok (.iload_n 1, 1) ∧ decode cX4_clear 40 = .ok (.iconst (-1), 1) ∧ decode cX4_clear 41 = .ok (.iastore, 1) ∧ decode cX4_clear 42 = .ok (.iinc 1 1, 3) ∧ decode cX4_clear 45 = .ok (.goto (-19), 3) := by decide +kernel
theorem dX4_clear_39 : decode cX4_clear 39 = .ok (.iload_n 1, 1) := gdX4_clear_39.1
theorem dX4_clear_40 : decode cX4_clear 40 = .ok (.iconst (-1), 1) := gdX4_clear_39.2.1
theorem dX4_clear_41 : decode cX4_clear 41 = .ok (.iastore, 1) := gdX4_clear_39.2.2.1
theorem dX4_clear_42 : decode cX4_clear 42 = .ok (.iinc 1 1, 3) := gdX4_clear_39.2.2.2.1
theorem dX4_clear_45 : decode cX4_clear 45 = .ok (.goto (-19), 3) := gdX4_clear_39.2.2.2.2
set_option maxHeartbeats 1000000 in
set_option maxRecDepth 100000 in
theorem s_hclear (l : Launch) (D : va_G) (cy : Nat → ClassId) (h0 : Nat) (h1 : Nat) (h2 : Nat) (h3 : Nat) (h4 : Nat) (h5 : Nat) (h6 : Nat) (h7 : Nat) (h8 : Nat) (h9 : Nat) (h10 : Nat) (h11 : Nat) (hv0 : Value) (hv1 : Value) (hv2 : Value) (hv3 : Value) (hv4 : Value) (fc : Nat → Int32) (fx : Nat → Int32) (h9a : Nat) (h9b : Nat) (y2b : Value) (y3b : Value) (h10a : Nat) (h10b : Nat) (y2l : Value) (y3l : Value) (h11a : Nat) (h11b : Nat) (y2t : Value) (y3t : Value)  : XMv l D (tyL cy) E0 yX4_clear cX4_clear 2 none (rmk 1 0 0) [.ref h0] [wO h0 4 [.ref h1, .ref h2, .ref h3, .ref h4, .ref h5, .ref h6, .ref h7, .ref h8, .ref h9, .ref h10, .ref h11, hv0, hv1, hv2, hv3, hv4], wI (cy 1) h1 4 (fc), wI (cy 1) h7 48 (fx), wO h9 3 [.ref h9a, .ref h9b, y2b, y3b], wO h10 3 [.ref h10a, .ref h10b, y2l, y3l], wO h11 3 [.ref h11a, .ref h11b, y2t, y3t]] (fun (u : (Nat → Int32) × (Nat → Int32)) => (cntOK u.1 0 0 0 0) ∧ (nxT u.2) ∧ (mTo u.2 48)) (fun (u : (Nat → Int32) × (Nat → Int32)) => [wO h0 4 [.ref h1, .ref h2, .ref h3, .ref h4, .ref h5, .ref h6, .ref h7, .ref h8, .ref h9, .ref h10, .ref h11, .int 0, .int 0, .int 0, .int 0, .int 0], wI (cy 1) h1 4 (u.1), wI (cy 1) h7 48 (u.2), wO h9 3 [.ref h9a, .ref h9b, .int 0, .int 0], wO h10 3 [.ref h10a, .ref h10b, .int 0, .int 0], wO h11 3 [.ref h11a, .ref h11b, .int 0, .int 0]]) := by
  refine XMv.start (by decide) (Nat.le_of_ble_eq_true rfl) ?_
  intro p e s m below meth c args A ls Q hat hQ
  obtain ⟨hx, hb, hr, hml, hown, hg, hlocks, hin, hK, hA, hP, hD, hS, hE, hl⟩ := hat
  have hown : s.vm.findClass RX4 = some m.cls := hown
  have hl : lv_has ls 2 [(0, .ref h0)] := hl
  refine lv_iconst (v := 0) hx hb dX4_clear_0 (by decide) ?_
  refine lv_istore_n (lv' := [(1, .int 0), (0, .ref h0)]) hx hb dX4_clear_1 rfl hl (by decide) rfl (fun ls hl => ?_)
  refine lv_iload_n hx hb dX4_clear_2 rfl (lv_at hl 0 rfl) ?_
  refine lv_aload_n hx hb dX4_clear_3 rfl (lv_at hl 1 rfl) ?_
  refine va_get (D := D) (ci := 4) (v := .ref h1) (C := RX4) (T := TX4) (N := 16) hx hb hg i_X4 hown hK hP 0 rfl rfl 0 (by decide) (hg _ m_329) (fun _ h9 => h9) rfl dX4_clear_4 ?_
  refine va_alen (v := 4) hx hb hK hP 1 1 rfl rfl rfl dX4_clear_7 ?_
  refine lv_icmp_ge (tgt := 24) hx hb dX4_clear_8 (by decide) (fun h => absurd h (by decide)) (fun _ => ?_)
  refine lv_aload_n hx hb dX4_clear_11 rfl (lv_at hl 1 rfl) ?_
  refine va_get (D := D) (ci := 4) (v := .ref h1) (C := RX4) (T := TX4) (N := 16) hx hb hg i_X4 hown hK hP 0 rfl rfl 0 (by decide) (hg _ m_329) (fun _ h9 => h9) rfl dX4_clear_12 ?_
  refine lv_iload_n hx hb dX4_clear_15 rfl (lv_at hl 0 rfl) ?_
  refine lv_iconst (v := 0) hx hb dX4_clear_16 (by decide) ?_
  refine va_iast hx hb hK hP hD hS 1 1 rfl rfl (by unfold vp_in; decide) dX4_clear_17 (fun H locs hP9 hD9 hS9 => ?_)
  clear hP hD hS
  refine reW [wO h0 4 [.ref h1, .ref h2, .ref h3, .ref h4, .ref h5, .ref h6, .ref h7, .ref h8, .ref h9, .ref h10, .ref h11, hv0, hv1, hv2, hv3, hv4], wI (cy 1) h1 4 (upd fc (0 : Int32).toNatClampNeg 0), wI (cy 1) h7 48 (fx), wO h9 3 [.ref h9a, .ref h9b, y2b, y3b], wO h10 3 [.ref h10a, .ref h10b, y2l, y3l], wO h11 3 [.ref h11a, .ref h11b, y2t, y3t]] hP9 hD9 hS9 (fun hP hD hS => ?_)
  clear hP9 hD9 hS9
  refine lv_iinc (v := 1) (lv' := [(1, .int 1), (0, .ref h0)]) hx hb dX4_clear_18 hl (k := 0) rfl (by decide) (by decide) rfl (fun ls hl => ?_)
  refine lv_goto (tgt := 2) hx hb dX4_clear_21 (by decide) ?_
  refine lv_iload_n hx hb dX4_clear_2 rfl (lv_at hl 0 rfl) ?_
  refine lv_aload_n hx hb dX4_clear_3 rfl (lv_at hl 1 rfl) ?_
  refine va_get (D := D) (ci := 4) (v := .ref h1) (C := RX4) (T := TX4) (N := 16) hx hb hg i_X4 hown hK hP 0 rfl rfl 0 (by decide) (hg _ m_329) (fun _ h9 => h9) rfl dX4_clear_4 ?_
  refine va_alen (v := 4) hx hb hK hP 1 1 rfl rfl rfl dX4_clear_7 ?_
  refine lv_icmp_ge (tgt := 24) hx hb dX4_clear_8 (by decide) (fun h => absurd h (by decide)) (fun _ => ?_)
  refine lv_aload_n hx hb dX4_clear_11 rfl (lv_at hl 1 rfl) ?_
  refine va_get (D := D) (ci := 4) (v := .ref h1) (C := RX4) (T := TX4) (N := 16) hx hb hg i_X4 hown hK hP 0 rfl rfl 0 (by decide) (hg _ m_329) (fun _ h9 => h9) rfl dX4_clear_12 ?_
  refine lv_iload_n hx hb dX4_clear_15 rfl (lv_at hl 0 rfl) ?_
  refine lv_iconst (v := 0) hx hb dX4_clear_16 (by decide) ?_
  refine va_iast hx hb hK hP hD hS 1 1 rfl rfl (by unfold vp_in; decide) dX4_clear_17 (fun H locs hP9 hD9 hS9 => ?_)
  clear hP hD hS
  refine reW [wO h0 4 [.ref h1, .ref h2, .ref h3, .ref h4, .ref h5, .ref h6, .ref h7, .ref h8, .ref h9, .ref h10, .ref h11, hv0, hv1, hv2, hv3, hv4], wI (cy 1) h1 4 (upd (upd fc (0 : Int32).toNatClampNeg 0) (1 : Int32).toNatClampNeg 0), wI (cy 1) h7 48 (fx), wO h9 3 [.ref h9a, .ref h9b, y2b, y3b], wO h10 3 [.ref h10a, .ref h10b, y2l, y3l], wO h11 3 [.ref h11a, .ref h11b, y2t, y3t]] hP9 hD9 hS9 (fun hP hD hS => ?_)
  clear hP9 hD9 hS9
  refine lv_iinc (v := 2) (lv' := [(1, .int 2), (0, .ref h0)]) hx hb dX4_clear_18 hl (k := 0) rfl (by decide) (by decide) rfl (fun ls hl => ?_)
  refine lv_goto (tgt := 2) hx hb dX4_clear_21 (by decide) ?_
  refine lv_iload_n hx hb dX4_clear_2 rfl (lv_at hl 0 rfl) ?_
  refine lv_aload_n hx hb dX4_clear_3 rfl (lv_at hl 1 rfl) ?_
  refine va_get (D := D) (ci := 4) (v := .ref h1) (C := RX4) (T := TX4) (N := 16) hx hb hg i_X4 hown hK hP 0 rfl rfl 0 (by decide) (hg _ m_329) (fun _ h9 => h9) rfl dX4_clear_4 ?_
  refine va_alen (v := 4) hx hb hK hP 1 1 rfl rfl rfl dX4_clear_7 ?_
  refine lv_icmp_ge (tgt := 24) hx hb dX4_clear_8 (by decide) (fun h => absurd h (by decide)) (fun _ => ?_)
  refine lv_aload_n hx hb dX4_clear_11 rfl (lv_at hl 1 rfl) ?_
  refine va_get (D := D) (ci := 4) (v := .ref h1) (C := RX4) (T := TX4) (N := 16) hx hb hg i_X4 hown hK hP 0 rfl rfl 0 (by decide) (hg _ m_329) (fun _ h9 => h9) rfl dX4_clear_12 ?_
  refine lv_iload_n hx hb dX4_clear_15 rfl (lv_at hl 0 rfl) ?_
  refine lv_iconst (v := 0) hx hb dX4_clear_16 (by decide) ?_
  refine va_iast hx hb hK hP hD hS 1 1 rfl rfl (by unfold vp_in; decide) dX4_clear_17 (fun H locs hP9 hD9 hS9 => ?_)
  clear hP hD hS
  refine reW [wO h0 4 [.ref h1, .ref h2, .ref h3, .ref h4, .ref h5, .ref h6, .ref h7, .ref h8, .ref h9, .ref h10, .ref h11, hv0, hv1, hv2, hv3, hv4], wI (cy 1) h1 4 (upd (upd (upd fc (0 : Int32).toNatClampNeg 0) (1 : Int32).toNatClampNeg 0) (2 : Int32).toNatClampNeg 0), wI (cy 1) h7 48 (fx), wO h9 3 [.ref h9a, .ref h9b, y2b, y3b], wO h10 3 [.ref h10a, .ref h10b, y2l, y3l], wO h11 3 [.ref h11a, .ref h11b, y2t, y3t]] hP9 hD9 hS9 (fun hP hD hS => ?_)
  clear hP9 hD9 hS9
  refine lv_iinc (v := 3) (lv' := [(1, .int 3), (0, .ref h0)]) hx hb dX4_clear_18 hl (k := 0) rfl (by decide) (by decide) rfl (fun ls hl => ?_)
  refine lv_goto (tgt := 2) hx hb dX4_clear_21 (by decide) ?_
  refine lv_iload_n hx hb dX4_clear_2 rfl (lv_at hl 0 rfl) ?_
  refine lv_aload_n hx hb dX4_clear_3 rfl (lv_at hl 1 rfl) ?_
  refine va_get (D := D) (ci := 4) (v := .ref h1) (C := RX4) (T := TX4) (N := 16) hx hb hg i_X4 hown hK hP 0 rfl rfl 0 (by decide) (hg _ m_329) (fun _ h9 => h9) rfl dX4_clear_4 ?_
  refine va_alen (v := 4) hx hb hK hP 1 1 rfl rfl rfl dX4_clear_7 ?_
  refine lv_icmp_ge (tgt := 24) hx hb dX4_clear_8 (by decide) (fun h => absurd h (by decide)) (fun _ => ?_)
  refine lv_aload_n hx hb dX4_clear_11 rfl (lv_at hl 1 rfl) ?_
  refine va_get (D := D) (ci := 4) (v := .ref h1) (C := RX4) (T := TX4) (N := 16) hx hb hg i_X4 hown hK hP 0 rfl rfl 0 (by decide) (hg _ m_329) (fun _ h9 => h9) rfl dX4_clear_12 ?_
  refine lv_iload_n hx hb dX4_clear_15 rfl (lv_at hl 0 rfl) ?_
  refine lv_iconst (v := 0) hx hb dX4_clear_16 (by decide) ?_
  refine va_iast hx hb hK hP hD hS 1 1 rfl rfl (by unfold vp_in; decide) dX4_clear_17 (fun H locs hP9 hD9 hS9 => ?_)
  clear hP hD hS
  refine reW [wO h0 4 [.ref h1, .ref h2, .ref h3, .ref h4, .ref h5, .ref h6, .ref h7, .ref h8, .ref h9, .ref h10, .ref h11, hv0, hv1, hv2, hv3, hv4], wI (cy 1) h1 4 (upd (upd (upd (upd fc (0 : Int32).toNatClampNeg 0) (1 : Int32).toNatClampNeg 0) (2 : Int32).toNatClampNeg 0) (3 : Int32).toNatClampNeg 0), wI (cy 1) h7 48 (fx), wO h9 3 [.ref h9a, .ref h9b, y2b, y3b], wO h10 3 [.ref h10a, .ref h10b, y2l, y3l], wO h11 3 [.ref h11a, .ref h11b, y2t, y3t]] hP9 hD9 hS9 (fun hP hD hS => ?_)
  clear hP9 hD9 hS9
  refine lv_iinc (v := 4) (lv' := [(1, .int 4), (0, .ref h0)]) hx hb dX4_clear_18 hl (k := 0) rfl (by decide) (by decide) rfl (fun ls hl => ?_)
  refine lv_goto (tgt := 2) hx hb dX4_clear_21 (by decide) ?_
  refine lv_iload_n hx hb dX4_clear_2 rfl (lv_at hl 0 rfl) ?_
  refine lv_aload_n hx hb dX4_clear_3 rfl (lv_at hl 1 rfl) ?_
  refine va_get (D := D) (ci := 4) (v := .ref h1) (C := RX4) (T := TX4) (N := 16) hx hb hg i_X4 hown hK hP 0 rfl rfl 0 (by decide) (hg _ m_329) (fun _ h9 => h9) rfl dX4_clear_4 ?_
  refine va_alen (v := 4) hx hb hK hP 1 1 rfl rfl rfl dX4_clear_7 ?_
  refine lv_icmp_ge (tgt := 24) hx hb dX4_clear_8 (by decide) (fun _ => ?_) (fun h => absurd (by decide) h)
  refine lv_iconst (v := 0) hx hb dX4_clear_24 (by decide) ?_
  refine lv_istore_n (lv' := [(1, .int 0), (0, .ref h0)]) hx hb dX4_clear_25 rfl hl (by decide) rfl (fun ls hl => ?_)
  have loop1 : ∀ (zn : Nat) (i1 : Nat) (fa1_1 : Nat → Int32), (i1 ≤ 48) → (mTo fa1_1 i1) → 48 - i1 + 1 ≤ zn → ∀ (H : Heap) (locs : List Loc), va_P D vwCl [wO h0 4 [.ref h1, .ref h2, .ref h3, .ref h4, .ref h5, .ref h6, .ref h7, .ref h8, .ref h9, .ref h10, .ref h11, hv0, hv1, hv2, hv3, hv4], wI (cy 1) h1 4 (upd (upd (upd (upd fc (0 : Int32).toNatClampNeg 0) (1 : Int32).toNatClampNeg 0) (2 : Int32).toNatClampNeg 0) (3 : Int32).toNatClampNeg 0), wI (cy 1) h7 48 (fa1_1), wO h9 3 [.ref h9a, .ref h9b, y2b, y3b], wO h10 3 [.ref h10a, .ref h10b, y2l, y3l], wO h11 3 [.ref h11a, .ref h11b, y2t, y3t]] H → va_D A [wO h0 4 [.ref h1, .ref h2, .ref h3, .ref h4, .ref h5, .ref h6, .ref h7, .ref h8, .ref h9, .ref h10, .ref h11, hv0, hv1, hv2, hv3, hv4], wI (cy 1) h1 4 (upd (upd (upd (upd fc (0 : Int32).toNatClampNeg 0) (1 : Int32).toNatClampNeg 0) (2 : Int32).toNatClampNeg 0) (3 : Int32).toNatClampNeg 0), wI (cy 1) h7 48 (fa1_1), wO h9 3 [.ref h9a, .ref h9b, y2b, y3b], wO h10 3 [.ref h10a, .ref h10b, y2l, y3l], wO h11 3 [.ref h11a, .ref h11b, y2t, y3t]] → va_S A s.heap H locs → ∀ ls : Array Slot, lv_has ls 2 [(1, .int (nI i1)), (0, .ref h0)] → W p l e (rmk 1 0 0) s m args below meth c H locs 0 0 Q (F0 m 26 ls []) := by
    try clear hP hD hS
    intro zn
    induction zn with
    | zero => intro i1 fa1_1 _ _ hz; exact absurd hz (by omega)
    | succ zn ih1 =>
      intro i1 fa1_1 hf0_1 hf1_1 hmu1 H locs hP hD hS ls hl
      refine lv_iload_n hx hb dX4_clear_26 rfl (lv_at hl 0 rfl) ?_
      refine lv_aload_n hx hb dX4_clear_27 rfl (lv_at hl 1 rfl) ?_
      refine va_get (D := D) (ci := 4) (v := .ref h7) (C := RX4) (T := TX4) (N := 16) hx hb hg i_X4 hown hK hP 0 rfl rfl 6 (by decide) (hg _ m_354) (fun _ h9 => h9) rfl dX4_clear_28 ?_
      refine va_alen (v := 48) hx hb hK hP 2 1 rfl rfl rfl dX4_clear_31 ?_
      refine lv_icmp_ge (tgt := 48) hx hb dX4_clear_32 (by decide) (fun c_2 => ?_) (fun c_2 => ?_)
      · have q_3 : 48 ≤ i1 := q_le (a := 48) (b := i1) rfl rfl (by omega) (by omega) c_2
        refine lv_aload_n hx hb dX4_clear_48 rfl (lv_at hl 1 rfl) ?_
        refine va_get (D := D) (ci := 4) (v := .ref h9) (C := RX4) (T := TX4) (N := 16) hx hb hg i_X4 hown hK hP 0 rfl rfl 8 (by decide) (hg _ m_360) (fun _ h9 => h9) rfl dX4_clear_49 ?_
        refine x_callVv (q := (RX3, TX3, 4)) (ci := 3) (q0 := 0) (wr := [wO h0 4 [.ref h1, .ref h2, .ref h3, .ref h4, .ref h5, .ref h6, .ref h7, .ref h8, .ref h9, .ref h10, .ref h11, hv0, hv1, hv2, hv3, hv4], wI (cy 1) h1 4 (upd (upd (upd (upd fc (0 : Int32).toNatClampNeg 0) (1 : Int32).toNatClampNeg 0) (2 : Int32).toNatClampNeg 0) (3 : Int32).toNatClampNeg 0), wI (cy 1) h7 48 (fa1_1), wO h10 3 [.ref h10a, .ref h10b, y2l, y3l], wO h11 3 [.ref h11a, .ref h11b, y2t, y3t]]) (rest := []) ⟨hx, hb, hml, hown, hg, hl.1⟩ k_X4_55 (s_fclear l D cy h9 h9a h9b y2b y3b) E0_blind hK hP hD hS hA [3] [0, 1, 2, 4, 5] ⟨rfl, rfl, by decide +kernel, by decide +kernel, by decide +kernel⟩ rfl rfl (fun _ _ _ => trivial) dX4_clear_52 rfl rfl (Nat.le_of_ble_eq_true rfl) ⟨Nat.le_of_ble_eq_true rfl, Nat.le_of_ble_eq_true rfl⟩ ⟨Nat.le_of_ble_eq_true rfl, Nat.le_of_ble_eq_true rfl⟩ (fun zu4 H locs hw4 hP9 hD9 hS9 => ?_)
        clear hP hD hS
        refine reW [wO h0 4 [.ref h1, .ref h2, .ref h3, .ref h4, .ref h5, .ref h6, .ref h7, .ref h8, .ref h9, .ref h10, .ref h11, hv0, hv1, hv2, hv3, hv4], wI (cy 1) h1 4 (upd (upd (upd (upd fc (0 : Int32).toNatClampNeg 0) (1 : Int32).toNatClampNeg 0) (2 : Int32).toNatClampNeg 0) (3 : Int32).toNatClampNeg 0), wI (cy 1) h7 48 (fa1_1), wO h10 3 [.ref h10a, .ref h10b, y2l, y3l], wO h11 3 [.ref h11a, .ref h11b, y2t, y3t], wO h9 3 [.ref h9a, .ref h9b, .int 0, .int 0]] hP9 hD9 hS9 (fun hP hD hS => ?_)
        clear hP9 hD9 hS9
        refine W.widen (k := 0) (n := 0) (Nat.le_of_ble_eq_true rfl) (Nat.le_of_ble_eq_true rfl) ?_
        refine lv_aload_n hx hb dX4_clear_55 rfl (lv_at hl 1 rfl) ?_
        refine va_get (D := D) (ci := 4) (v := .ref h10) (C := RX4) (T := TX4) (N := 16) hx hb hg i_X4 hown hK hP 0 rfl rfl 9 (by decide) (hg _ m_362) (fun _ h9 => h9) rfl dX4_clear_56 ?_
        refine x_callVv (q := (RX3, TX3, 4)) (ci := 3) (q0 := 0) (wr := [wO h0 4 [.ref h1, .ref h2, .ref h3, .ref h4, .ref h5, .ref h6, .ref h7, .ref h8, .ref h9, .ref h10, .ref h11, hv0, hv1, hv2, hv3, hv4], wI (cy 1) h1 4 (upd (upd (upd (upd fc (0 : Int32).toNatClampNeg 0) (1 : Int32).toNatClampNeg 0) (2 : Int32).toNatClampNeg 0) (3 : Int32).toNatClampNeg 0), wI (cy 1) h7 48 (fa1_1), wO h11 3 [.ref h11a, .ref h11b, y2t, y3t], wO h9 3 [.ref h9a, .ref h9b, .int 0, .int 0]]) (rest := []) ⟨hx, hb, hml, hown, hg, hl.1⟩ k_X4_55 (s_fclear l D cy h10 h10a h10b y2l y3l) E0_blind hK hP hD hS hA [3] [0, 1, 2, 4, 5] ⟨rfl, rfl, by decide +kernel, by decide +kernel, by decide +kernel⟩ rfl rfl (fun _ _ _ => trivial) dX4_clear_59 rfl rfl (Nat.le_of_ble_eq_true rfl) ⟨Nat.le_of_ble_eq_true rfl, Nat.le_of_ble_eq_true rfl⟩ ⟨Nat.le_of_ble_eq_true rfl, Nat.le_of_ble_eq_true rfl⟩ (fun zu5 H locs hw5 hP9 hD9 hS9 => ?_)
        clear hP hD hS
        refine reW [wO h0 4 [.ref h1, .ref h2, .ref h3, .ref h4, .ref h5, .ref h6, .ref h7, .ref h8, .ref h9, .ref h10, .ref h11, hv0, hv1, hv2, hv3, hv4], wI (cy 1) h1 4 (upd (upd (upd (upd fc (0 : Int32).toNatClampNeg 0) (1 : Int32).toNatClampNeg 0) (2 : Int32).toNatClampNeg 0) (3 : Int32).toNatClampNeg 0), wI (cy 1) h7 48 (fa1_1), wO h11 3 [.ref h11a, .ref h11b, y2t, y3t], wO h9 3 [.ref h9a, .ref h9b, .int 0, .int 0], wO h10 3 [.ref h10a, .ref h10b, .int 0, .int 0]] hP9 hD9 hS9 (fun hP hD hS => ?_)
        clear hP9 hD9 hS9
        refine W.widen (k := 0) (n := 0) (Nat.le_of_ble_eq_true rfl) (Nat.le_of_ble_eq_true rfl) ?_
        refine lv_aload_n hx hb dX4_clear_62 rfl (lv_at hl 1 rfl) ?_
        refine va_get (D := D) (ci := 4) (v := .ref h11) (C := RX4) (T := TX4) (N := 16) hx hb hg i_X4 hown hK hP 0 rfl rfl 10 (by decide) (hg _ m_365) (fun _ h9 => h9) rfl dX4_clear_63 ?_
        refine x_callVv (q := (RX3, TX3, 4)) (ci := 3) (q0 := 0) (wr := [wO h0 4 [.ref h1, .ref h2, .ref h3, .ref h4, .ref h5, .ref h6, .ref h7, .ref h8, .ref h9, .ref h10, .ref h11, hv0, hv1, hv2, hv3, hv4], wI (cy 1) h1 4 (upd (upd (upd (upd fc (0 : Int32).toNatClampNeg 0) (1 : Int32).toNatClampNeg 0) (2 : Int32).toNatClampNeg 0) (3 : Int32).toNatClampNeg 0), wI (cy 1) h7 48 (fa1_1), wO h9 3 [.ref h9a, .ref h9b, .int 0, .int 0], wO h10 3 [.ref h10a, .ref h10b, .int 0, .int 0]]) (rest := []) ⟨hx, hb, hml, hown, hg, hl.1⟩ k_X4_55 (s_fclear l D cy h11 h11a h11b y2t y3t) E0_blind hK hP hD hS hA [3] [0, 1, 2, 4, 5] ⟨rfl, rfl, by decide +kernel, by decide +kernel, by decide +kernel⟩ rfl rfl (fun _ _ _ => trivial) dX4_clear_66 rfl rfl (Nat.le_of_ble_eq_true rfl) ⟨Nat.le_of_ble_eq_true rfl, Nat.le_of_ble_eq_true rfl⟩ ⟨Nat.le_of_ble_eq_true rfl, Nat.le_of_ble_eq_true rfl⟩ (fun zu6 H locs hw6 hP9 hD9 hS9 => ?_)
        clear hP hD hS
        refine reW [wO h0 4 [.ref h1, .ref h2, .ref h3, .ref h4, .ref h5, .ref h6, .ref h7, .ref h8, .ref h9, .ref h10, .ref h11, hv0, hv1, hv2, hv3, hv4], wI (cy 1) h1 4 (upd (upd (upd (upd fc (0 : Int32).toNatClampNeg 0) (1 : Int32).toNatClampNeg 0) (2 : Int32).toNatClampNeg 0) (3 : Int32).toNatClampNeg 0), wI (cy 1) h7 48 (fa1_1), wO h9 3 [.ref h9a, .ref h9b, .int 0, .int 0], wO h10 3 [.ref h10a, .ref h10b, .int 0, .int 0], wO h11 3 [.ref h11a, .ref h11b, .int 0, .int 0]] hP9 hD9 hS9 (fun hP hD hS => ?_)
        clear hP9 hD9 hS9
        refine W.widen (k := 0) (n := 0) (Nat.le_of_ble_eq_true rfl) (Nat.le_of_ble_eq_true rfl) ?_
        refine lv_aload_n hx hb dX4_clear_69 rfl (lv_at hl 1 rfl) ?_
        refine lv_iconst (v := 0) hx hb dX4_clear_70 (by decide) ?_
        refine va_put (D := D) (ci := 4) (v := .int 0) (ty := .int) (C := RX4) (T := TX4) (N := 16) hx hb hg i_X4 tyX4 tyX4_ok nmX4 hown hK hP hD hS 0 rfl rfl 11 (by decide) (hg _ m_368) (fun _ h9 => h9) rfl (by decide +kernel) rfl rfl (Nat.le_of_ble_eq_true rfl) dX4_clear_71 (fun H locs hP9 hD9 hS9 => ?_)
        clear hP hD hS
        refine reW [wO h0 4 [.ref h1, .ref h2, .ref h3, .ref h4, .ref h5, .ref h6, .ref h7, .ref h8, .ref h9, .ref h10, .ref h11, .int 0, hv1, hv2, hv3, hv4], wI (cy 1) h1 4 (upd (upd (upd (upd fc (0 : Int32).toNatClampNeg 0) (1 : Int32).toNatClampNeg 0) (2 : Int32).toNatClampNeg 0) (3 : Int32).toNatClampNeg 0), wI (cy 1) h7 48 (fa1_1), wO h9 3 [.ref h9a, .ref h9b, .int 0, .int 0], wO h10 3 [.ref h10a, .ref h10b, .int 0, .int 0], wO h11 3 [.ref h11a, .ref h11b, .int 0, .int 0]] hP9 hD9 hS9 (fun hP hD hS => ?_)
        clear hP9 hD9 hS9
        refine lv_aload_n hx hb dX4_clear_74 rfl (lv_at hl 1 rfl) ?_
        refine lv_iconst (v := 0) hx hb dX4_clear_75 (by decide) ?_
        refine va_put (D := D) (ci := 4) (v := .int 0) (ty := .int) (C := RX4) (T := TX4) (N := 16) hx hb hg i_X4 tyX4 tyX4_ok nmX4 hown hK hP hD hS 0 rfl rfl 12 (by decide) (hg _ m_371) (fun _ h9 => h9) rfl (by decide +kernel) rfl rfl (Nat.le_of_ble_eq_true rfl) dX4_clear_76 (fun H locs hP9 hD9 hS9 => ?_)
        clear hP hD hS
        refine reW [wO h0 4 [.ref h1, .ref h2, .ref h3, .ref h4, .ref h5, .ref h6, .ref h7, .ref h8, .ref h9, .ref h10, .ref h11, .int 0, .int 0, hv2, hv3, hv4], wI (cy 1) h1 4 (upd (upd (upd (upd fc (0 : Int32).toNatClampNeg 0) (1 : Int32).toNatClampNeg 0) (2 : Int32).toNatClampNeg 0) (3 : Int32).toNatClampNeg 0), wI (cy 1) h7 48 (fa1_1), wO h9 3 [.ref h9a, .ref h9b, .int 0, .int 0], wO h10 3 [.ref h10a, .ref h10b, .int 0, .int 0], wO h11 3 [.ref h11a, .ref h11b, .int 0, .int 0]] hP9 hD9 hS9 (fun hP hD hS => ?_)
        clear hP9 hD9 hS9
        refine lv_aload_n hx hb dX4_clear_79 rfl (lv_at hl 1 rfl) ?_
        refine lv_iconst (v := 0) hx hb dX4_clear_80 (by decide) ?_
        refine va_put (D := D) (ci := 4) (v := .int 0) (ty := .int) (C := RX4) (T := TX4) (N := 16) hx hb hg i_X4 tyX4 tyX4_ok nmX4 hown hK hP hD hS 0 rfl rfl 13 (by decide) (hg _ m_375) (fun _ h9 => h9) rfl (by decide +kernel) rfl rfl (Nat.le_of_ble_eq_true rfl) dX4_clear_81 (fun H locs hP9 hD9 hS9 => ?_)
        clear hP hD hS
        refine reW [wO h0 4 [.ref h1, .ref h2, .ref h3, .ref h4, .ref h5, .ref h6, .ref h7, .ref h8, .ref h9, .ref h10, .ref h11, .int 0, .int 0, .int 0, hv3, hv4], wI (cy 1) h1 4 (upd (upd (upd (upd fc (0 : Int32).toNatClampNeg 0) (1 : Int32).toNatClampNeg 0) (2 : Int32).toNatClampNeg 0) (3 : Int32).toNatClampNeg 0), wI (cy 1) h7 48 (fa1_1), wO h9 3 [.ref h9a, .ref h9b, .int 0, .int 0], wO h10 3 [.ref h10a, .ref h10b, .int 0, .int 0], wO h11 3 [.ref h11a, .ref h11b, .int 0, .int 0]] hP9 hD9 hS9 (fun hP hD hS => ?_)
        clear hP9 hD9 hS9
        refine lv_aload_n hx hb dX4_clear_84 rfl (lv_at hl 1 rfl) ?_
        refine lv_iconst (v := 0) hx hb dX4_clear_85 (by decide) ?_
        refine va_put (D := D) (ci := 4) (v := .int 0) (ty := .int) (C := RX4) (T := TX4) (N := 16) hx hb hg i_X4 tyX4 tyX4_ok nmX4 hown hK hP hD hS 0 rfl rfl 14 (by decide) (hg _ m_379) (fun _ h9 => h9) rfl (by decide +kernel) rfl rfl (Nat.le_of_ble_eq_true rfl) dX4_clear_86 (fun H locs hP9 hD9 hS9 => ?_)
        clear hP hD hS
        refine reW [wO h0 4 [.ref h1, .ref h2, .ref h3, .ref h4, .ref h5, .ref h6, .ref h7, .ref h8, .ref h9, .ref h10, .ref h11, .int 0, .int 0, .int 0, .int 0, hv4], wI (cy 1) h1 4 (upd (upd (upd (upd fc (0 : Int32).toNatClampNeg 0) (1 : Int32).toNatClampNeg 0) (2 : Int32).toNatClampNeg 0) (3 : Int32).toNatClampNeg 0), wI (cy 1) h7 48 (fa1_1), wO h9 3 [.ref h9a, .ref h9b, .int 0, .int 0], wO h10 3 [.ref h10a, .ref h10b, .int 0, .int 0], wO h11 3 [.ref h11a, .ref h11b, .int 0, .int 0]] hP9 hD9 hS9 (fun hP hD hS => ?_)
        clear hP9 hD9 hS9
        refine lv_aload_n hx hb dX4_clear_89 rfl (lv_at hl 1 rfl) ?_
        refine lv_iconst (v := 0) hx hb dX4_clear_90 (by decide) ?_
        refine va_put (D := D) (ci := 4) (v := .int 0) (ty := .int) (C := RX4) (T := TX4) (N := 16) hx hb hg i_X4 tyX4 tyX4_ok nmX4 hown hK hP hD hS 0 rfl rfl 15 (by decide) (hg _ m_381) (fun _ h9 => h9) rfl (by decide +kernel) rfl rfl (Nat.le_of_ble_eq_true rfl) dX4_clear_91 (fun H locs hP9 hD9 hS9 => ?_)
        clear hP hD hS
        refine reW [wO h0 4 [.ref h1, .ref h2, .ref h3, .ref h4, .ref h5, .ref h6, .ref h7, .ref h8, .ref h9, .ref h10, .ref h11, .int 0, .int 0, .int 0, .int 0, .int 0], wI (cy 1) h1 4 (upd (upd (upd (upd fc (0 : Int32).toNatClampNeg 0) (1 : Int32).toNatClampNeg 0) (2 : Int32).toNatClampNeg 0) (3 : Int32).toNatClampNeg 0), wI (cy 1) h7 48 (fa1_1), wO h9 3 [.ref h9a, .ref h9b, .int 0, .int 0], wO h10 3 [.ref h10a, .ref h10b, .int 0, .int 0], wO h11 3 [.ref h11a, .ref h11b, .int 0, .int 0]] hP9 hD9 hS9 (fun hP hD hS => ?_)
        clear hP9 hD9 hS9
        exact x_vret hQ hx hb hr hlocks hK hP hD hS dX4_clear_94 (upd (upd (upd (upd fc (0 : Int32).toNatClampNeg 0) (1 : Int32).toNatClampNeg 0) (2 : Int32).toNatClampNeg 0) (3 : Int32).toNatClampNeg 0, fa1_1) (⟨clr4, mTo_nx hf1_1 (by omega), (fun k9 hk9 => hf1_1 k9 (by omega))⟩) [0, 1, 2, 3, 4, 5] (by decide +kernel) rfl (Nat.le_of_ble_eq_true rfl) (Nat.le_of_ble_eq_true rfl)
      · have q_3 : i1 < 48 := q_nle (a := 48) (b := i1) rfl rfl (by omega) (by omega) c_2
        refine lv_aload_n hx hb dX4_clear_35 rfl (lv_at hl 1 rfl) ?_
        refine va_get (D := D) (ci := 4) (v := .ref h7) (C := RX4) (T := TX4) (N := 16) hx hb hg i_X4 hown hK hP 0 rfl rfl 6 (by decide) (hg _ m_354) (fun _ h9 => h9) rfl dX4_clear_36 ?_
        refine lv_iload_n hx hb dX4_clear_39 rfl (lv_at hl 0 rfl) ?_
        refine lv_iconst (v := -1) hx hb dX4_clear_40 (by decide) ?_
        refine va_iast hx hb hK hP hD hS 2 1 rfl rfl (vp_in_nI (by omega) (by decide)) dX4_clear_41 (fun H locs hP9 hD9 hS9 => ?_)
        clear hP hD hS
        obtain ⟨g_7, eg_7⟩ : ∃ y, upd fa1_1 (nI i1 : Int32).toNatClampNeg (-1) = y := ⟨_, rfl⟩
        rw [eg_7] at hP9 hD9
        refine reW [wO h0 4 [.ref h1, .ref h2, .ref h3, .ref h4, .ref h5, .ref h6, .ref h7, .ref h8, .ref h9, .ref h10, .ref h11, hv0, hv1, hv2, hv3, hv4], wI (cy 1) h1 4 (upd (upd (upd (upd fc (0 : Int32).toNatClampNeg 0) (1 : Int32).toNatClampNeg 0) (2 : Int32).toNatClampNeg 0) (3 : Int32).toNatClampNeg 0), wI (cy 1) h7 48 (g_7), wO h9 3 [.ref h9a, .ref h9b, y2b, y3b], wO h10 3 [.ref h10a, .ref h10b, y2l, y3l], wO h11 3 [.ref h11a, .ref h11b, y2t, y3t]] hP9 hD9 hS9 (fun hP hD hS => ?_)
        clear hP9 hD9 hS9
        have hm_8 : mTo g_7 (i1 + 1) := eg_7 ▸ mTo_put hf1_1 (by omega)
        refine lv_iinc (v := nI (i1 + 1)) (lv' := [(1, .int (nI (i1 + 1))), (0, .ref h0)]) hx hb dX4_clear_42 hl (k := 0) rfl (nI_add i1 1) (by decide) rfl (fun ls hl => ?_)
        refine lv_goto (tgt := 26) hx hb dX4_clear_45 (by decide) ?_
        exact ih1  ((i1 + 1)) g_7 (by omega) (hm_8) (by omega) _ _ (hP.sub [0, 1, 2, 3, 4, 5] rfl) (hD.sub [0, 1, 2, 3, 4, 5] (by decide +kernel) rfl) hS ls (lv_sub hl [0, 1] rfl)
  exact loop1 _ 0 fx (by omega) (fun k hk => absurd hk (by omega)) (Nat.le_refl _) _ _ (hP.sub [0, 1, 2, 3, 4, 5] rfl) (hD.sub [0, 1, 2, 3, 4, 5] (by decide +kernel) rfl) hS ls (lv_sub hl [0, 1] rfl)
/-- where no on is told, one stays: up to the place i -/
def seT (f g : Nat → Int32) (i : Nat) : Prop := ∀ k, k < 48 → f k = if k < i ∧ g k = -1 then nI (k / 8) else g k
theorem seT_0 {g : Nat → Int32} : seT g g 0 := fun k _ => (if_neg (fun h => absurd h.1 (Nat.not_lt_zero k))).symm
theorem seT_at {f g : Nat → Int32} {i : Nat} (h : seT f g i) (hi : i < 48) : f i = g i := by
  rw [h i hi, if_neg (fun h9 => absurd h9.1 (Nat.lt_irrefl i))]
theorem seT_keep {f g : Nat → Int32} {i : Nat} {x : Int32} (h : seT f g i) (hi : i < 48) (ex : x = f (nI i).toNatClampNeg) (hx : ¬ x = -1) : seT f g (i + 1) := by
  rw [nI_clamp (by omega)] at ex
  intro k hk
  rw [h k hk]
  by_cases e : k = i
  · subst e
    have h9 : ¬ g k = -1 := fun h8 => hx (by rw [ex, seT_at h hi, h8])
    rw [if_neg (fun h8 => h9 h8.2), if_neg (fun h8 => h9 h8.2)]
  · by_cases h9 : k < i ∧ g k = -1
    · rw [if_pos h9, if_pos ⟨by omega, h9.2⟩]
    · rw [if_neg h9, if_neg (fun h8 => h9 ⟨by omega, h8.2⟩)]
theorem seT_put {f g f2 : Nat → Int32} {i : Nat} {x : Int32} (h : seT f g i) (hi : i < 48) (ex : x = f (nI i).toNatClampNeg) (hx : x = -1) (e : upd f (nI i).toNatClampNeg (nI (i / 8)) = f2) : seT f2 g (i + 1) := by
  rw [nI_clamp (by omega)] at ex e
  subst e
  intro k hk
  by_cases q : k = i
  · subst q
    have h9 : g k = -1 := by rw [← seT_at h hi, ← ex, hx]
    rw [pk_us, if_pos ⟨by omega, h9⟩]
  · rw [pk_un q, h k hk]
    by_cases h9 : k < i ∧ g k = -1
    · rw [if_pos h9, if_pos ⟨by omega, h9.2⟩]
    · rw [if_neg h9, if_neg (fun h8 => h9 ⟨by omega, h8.2⟩)]
theorem gdX4_settle_0 : decode cX4_settle 0 = .ok (.iconst 0, 1) ∧ decode cX4_settle 1 = .ok (.istore_n 1, 1) ∧ decode cX4_settle 2 = .ok (.iload_n 1, 1) ∧ decode cX4_settle 3 = .ok (.aload_n 0, 1) ∧ decode cX4_settle 4 = .ok (.getfield 30, 3) ∧ decode cX4_settle 7 = .ok (.arraylength, 1) ∧ decode cX4_settle 8 = .ok (.if_icmp .ge 29, 3) ∧ decode cX4_settle 37 = .ok (.return_, 1) ∧ decode cX4_settle 11 = .ok (.aload_n 0, 1) ∧ decode cX4_settle 12 = .ok (.getfield 30, 3) ∧ decode cX4_settle 15 = .ok (.iload_n 1, 1) ∧ decode cX4_settle 16 = .ok (.iaload, 1) := by decide +kernel
theorem dX4_settle_0 : decode cX4_settle 0 = .ok (.iconst 0, 1) := gdX4_settle_0.1
theorem dX4_settle_1 : decode cX4_settle 1 = .ok (.istore_n 1, 1) := gdX4_settle_0.2.1
theorem dX4_settle_2 : decode cX4_settle 2 = .ok (.iload_n 1, 1) := gdX4_settle_0.2.2.1
theorem dX4_settle_3 : decode cX4_settle 3 = .ok (.aload_n 0, 1) := gdX4_settle_0.2.2.2.1
theorem dX4_settle_4 : decode cX4_settle 4 = .ok (.getfield 30, 3) := gdX4_settle_0.2.2.2.2.1
theorem dX4_settle_7 : decode cX4_settle 7 = .ok (.arraylength, 1) := gdX4_settle_0.2.2.2.2.2.1
theorem dX4_settle_8 : decode cX4_settle 8 = .ok (.if_icmp .ge 29, 3) := gdX4_settle_0.2.2.2.2.2.2.1
theorem dX4_settle_37 : decode cX4_settle 37 = .ok (.return_, 1) := gdX4_settle_0.2.2.2.2.2.2.2.1
theorem dX4_settle_11 : decode cX4_settle 11 = .ok (.aload_n 0, 1) := gdX4_settle_0.2.2.2.2.2.2.2.2.1
theorem dX4_settle_12 : decode cX4_settle 12 = .ok (.getfield 30, 3) := gdX4_settle_0.2.2.2.2.2.2.2.2.2.1
theorem dX4_settle_15 : decode cX4_settle 15 = .ok (.iload_n 1, 1) := gdX4_settle_0.2.2.2.2.2.2.2.2.2.2.1
theorem dX4_settle_16 : decode cX4_settle 16 = .ok (.iaload, 1) := gdX4_settle_0.2.2.2.2.2.2.2.2.2.2.2
theorem gdX4_settle_17 : decode cX4_settle 17 = .ok (.iconst (-1), 1) ∧ decode cX4_settle 18 = .ok (.if_icmp .ne 13, 3) ∧ decode cX4_settle 31 = .ok (.iinc 1 1, 3) ∧ decode cX4_settle 34 = .ok (.goto (-32), 3) ∧ decode cX4_settle 21 = .ok (.aload_n 0, 1) ∧ decode cX4_settle 22 = .ok (.getfield 30, 3) ∧ decode cX4_settle 25 = .ok (.iload_n 1, 1) ∧ decode cX4_settle 26 = .ok (.iload_n 1, 1) ∧ decode cX4_settle 27 = .ok (.bipush 8, 2) ∧ decode cX4_settle 29 = .ok (.idiv, 1) ∧ decode cX4_settle 30 = .ok (.iastore, 1) := by decide +kernel
theorem dX4_settle_17 : decode cX4_settle 17 = .ok (.iconst (-1), 1) := gdX4_settle_17.1
theorem dX4_settle_18 : decode cX4_settle 18 = .ok (.if_icmp .ne 13, 3) := gdX4_settle_17.2.1
theorem dX4_settle_31 : decode cX4_settle 31 = .ok (.iinc 1 1, 3) := gdX4_settle_17.2.2.1
theorem dX4_settle_34 : decode cX4_settle 34 = .ok (.goto (-32), 3) := gdX4_settle_17.2.2.2.1
theorem dX4_settle_21 : decode cX4_settle 21 = .ok (.aload_n 0, 1) := gdX4_settle_17.2.2.2.2.1
theorem dX4_settle_22 : decode cX4_settle 22 = .ok (.getfield 30, 3) := gdX4_settle_17.2.2.2.2.2.1
theorem dX4_settle_25 : decode cX4_settle 25 = .ok (.iload_n 1, 1) := gdX4_settle_17.2.2.2.2.2.2.1
theorem dX4_settle_26 : decode cX4_settle 26 = .ok (.iload_n 1, 1) := gdX4_settle_17.2.2.2.2.2.2.2.1
theorem dX4_settle_27 : decode cX4_settle 27 = .ok (.bipush 8, 2) := gdX4_settle_17.2.2.2.2.2.2.2.2.1
theorem dX4_settle_29 : decode cX4_settle 29 = .ok (.idiv, 1) := gdX4_settle_17.2.2.2.2.2.2.2.2.2.1
theorem dX4_settle_30 : decode cX4_settle 30 = .ok (.iastore, 1) := gdX4_settle_17.2.2.2.2.2.2.2.2.2.2
set_option maxHeartbeats 1000000 in
set_option maxRecDepth 100000 in
theorem s_settle (l : Launch) (D : va_G) (cy : Nat → ClassId) (h0 : Nat) (h1 : Nat) (h2 : Nat) (h3 : Nat) (h4 : Nat) (h5 : Nat) (h6 : Nat) (h7 : Nat) (h8 : Nat) (h9 : Nat) (h10 : Nat) (h11 : Nat) (hv0 : Value) (hv1 : Value) (hv2 : Value) (hv3 : Value) (hv4 : Value) (fx : Nat → Int32) (hnx : nxT fx) : XMv l D (tyL cy) E0 yX4_settle cX4_settle 2 none (rmk 0 0 0) [.ref h0] [wO h0 4 [.ref h1, .ref h2, .ref h3, .ref h4, .ref h5, .ref h6, .ref h7, .ref h8, .ref h9, .ref h10, .ref h11, hv0, hv1, hv2, hv3, hv4], wI (cy 1) h7 48 (fx)] (fun (fx2 : Nat → Int32) => (rng fx2 48 5) ∧ (seT fx2 fx 48)) (fun (fx2 : Nat → Int32) => [wO h0 4 [.ref h1, .ref h2, .ref h3, .ref h4, .ref h5, .ref h6, .ref h7, .ref h8, .ref h9, .ref h10, .ref h11, hv0, hv1, hv2, hv3, hv4], wI (cy 1) h7 48 (fx2)]) := by
  refine XMv.start (by decide) (Nat.le_of_ble_eq_true rfl) ?_
  intro p e s m below meth c args A ls Q hat hQ
  obtain ⟨hx, hb, hr, hml, hown, hg, hlocks, hin, hK, hA, hP, hD, hS, hE, hl⟩ := hat
  have hown : s.vm.findClass RX4 = some m.cls := hown
  have hl : lv_has ls 2 [(0, .ref h0)] := hl
  have hs0 := stTo_0 hnx
  refine lv_iconst (v := 0) hx hb dX4_settle_0 (by decide) ?_
  refine lv_istore_n (lv' := [(1, .int 0), (0, .ref h0)]) hx hb dX4_settle_1 rfl hl (by decide) rfl (fun ls hl => ?_)
  have loop1 : ∀ (zn : Nat) (i1 : Nat) (fa1_1 : Nat → Int32), (stTo fa1_1 i1) → (i1 ≤ 48) → (seT fa1_1 fx i1) → 48 - i1 + 1 ≤ zn → ∀ (H : Heap) (locs : List Loc), va_P D vwCl [wO h0 4 [.ref h1, .ref h2, .ref h3, .ref h4, .ref h5, .ref h6, .ref h7, .ref h8, .ref h9, .ref h10, .ref h11, hv0, hv1, hv2, hv3, hv4], wI (cy 1) h7 48 (fa1_1)] H → va_D A [wO h0 4 [.ref h1, .ref h2, .ref h3, .ref h4, .ref h5, .ref h6, .ref h7, .ref h8, .ref h9, .ref h10, .ref h11, hv0, hv1, hv2, hv3, hv4], wI (cy 1) h7 48 (fa1_1)] → va_S A s.heap H locs → ∀ ls : Array Slot, lv_has ls 2 [(1, .int (nI i1)), (0, .ref h0)] → W p l e (rmk 0 0 0) s m args below meth c H locs 0 0 Q (F0 m 2 ls []) := by
    try clear hP hD hS
    intro zn
    induction zn with
    | zero => intro i1 fa1_1 _ _ _ hz; exact absurd hz (by omega)
    | succ zn ih1 =>
      intro i1 fa1_1 ha2_1 hf0_1 hf1_1 hmu1 H locs hP hD hS ls hl
      refine lv_iload_n hx hb dX4_settle_2 rfl (lv_at hl 0 rfl) ?_
      refine lv_aload_n hx hb dX4_settle_3 rfl (lv_at hl 1 rfl) ?_
      refine va_get (D := D) (ci := 4) (v := .ref h7) (C := RX4) (T := TX4) (N := 16) hx hb hg i_X4 hown hK hP 0 rfl rfl 6 (by decide) (hg _ m_354) (fun _ h9 => h9) rfl dX4_settle_4 ?_
      refine va_alen (v := 48) hx hb hK hP 1 1 rfl rfl rfl dX4_settle_7 ?_
      refine lv_icmp_ge (tgt := 37) hx hb dX4_settle_8 (by decide) (fun c_2 => ?_) (fun c_2 => ?_)
      · have q_3 : 48 ≤ i1 := q_le (a := 48) (b := i1) rfl rfl (by omega) (by omega) c_2
        exact x_vret hQ hx hb hr hlocks hK hP hD hS dX4_settle_37 fa1_1 (⟨(show rng fa1_1 48 5 from stTo_rng ha2_1 (by omega)), (by have h9 := hf1_1; rwa [show i1 = 48 by omega] at h9)⟩) [0, 1] (by decide +kernel) rfl (Nat.le_of_ble_eq_true rfl) (Nat.le_of_ble_eq_true rfl)
      · have q_3 : i1 < 48 := q_nle (a := 48) (b := i1) rfl rfl (by omega) (by omega) c_2
        refine lv_aload_n hx hb dX4_settle_11 rfl (lv_at hl 1 rfl) ?_
        refine va_get (D := D) (ci := 4) (v := .ref h7) (C := RX4) (T := TX4) (N := 16) hx hb hg i_X4 hown hK hP 0 rfl rfl 6 (by decide) (hg _ m_354) (fun _ h9 => h9) rfl dX4_settle_12 ?_
        refine lv_iload_n hx hb dX4_settle_15 rfl (lv_at hl 0 rfl) ?_
        refine va_iald hx hb hK hP 1 1 rfl rfl (vp_in_nI (by omega) (by decide)) dX4_settle_16 ?_
        refine lv_topi (fun x_4 ex_4 => ?_)
        refine lv_iconst (v := -1) hx hb dX4_settle_17 (by decide) ?_
        refine lv_icmp_ne (tgt := 31) hx hb dX4_settle_18 (by decide) (fun c_18 => ?_) (fun c_18 => ?_)
        · have hk_5 : stTo fa1_1 (i1 + 1) := stTo_keep ha2_1 (by omega) ex_4 c_18
          refine lv_iinc (v := nI (i1 + 1)) (lv' := [(1, .int (nI (i1 + 1))), (0, .ref h0)]) hx hb dX4_settle_31 hl (k := 0) rfl (nI_add i1 1) (by decide) rfl (fun ls hl => ?_)
          refine lv_goto (tgt := 2) hx hb dX4_settle_34 (by decide) ?_
          exact ih1  ((i1 + 1)) fa1_1 hk_5 (by omega) (seT_keep hf1_1 (by omega) ex_4 c_18) (by omega) _ _ (hP.sub [0, 1] rfl) (hD.sub [0, 1] (by decide +kernel) rfl) hS ls (lv_sub hl [0, 1] rfl)
        · refine lv_aload_n hx hb dX4_settle_21 rfl (lv_at hl 1 rfl) ?_
          refine va_get (D := D) (ci := 4) (v := .ref h7) (C := RX4) (T := TX4) (N := 16) hx hb hg i_X4 hown hK hP 0 rfl rfl 6 (by decide) (hg _ m_354) (fun _ h9 => h9) rfl dX4_settle_22 ?_
          refine lv_iload_n hx hb dX4_settle_25 rfl (lv_at hl 0 rfl) ?_
          refine lv_iload_n hx hb dX4_settle_26 rfl (lv_at hl 0 rfl) ?_
          refine lv_bipush (v := 8) hx hb dX4_settle_27 (by decide) ?_
          refine lv_idiv hx hb dX4_settle_29 (by decide) ?_
          refine lv_topi (fun y_6 hy_6 => ?_)
          obtain rfl : y_6 = nI (i1 / 8) := hy_6.trans (pk_div (a := i1) (d := 8) (by omega) (by decide) (by decide))
          refine va_iast hx hb hK hP hD hS 1 1 rfl rfl (vp_in_nI (by omega) (by decide)) dX4_settle_30 (fun H locs hP9 hD9 hS9 => ?_)
          clear hP hD hS
          have hP := hP9
          have hD := hD9
          have hS := hS9
          clear hP9 hD9 hS9
          obtain ⟨g_7, eg_7⟩ : ∃ y, upd fa1_1 (nI i1 : Int32).toNatClampNeg (nI (i1 / 8)) = y := ⟨_, rfl⟩
          rw [eg_7] at hP hD
          have hr_8 : stTo g_7 (i1 + 1) := eg_7 ▸ stTo_put ha2_1 (by omega) (by omega)
          replace hP : va_P D vwCl [wO h0 4 [.ref h1, .ref h2, .ref h3, .ref h4, .ref h5, .ref h6, .ref h7, .ref h8, .ref h9, .ref h10, .ref h11, hv0, hv1, hv2, hv3, hv4], wI (cy 1) h7 48 (g_7)] H := hP
          replace hD : va_D A [wO h0 4 [.ref h1, .ref h2, .ref h3, .ref h4, .ref h5, .ref h6, .ref h7, .ref h8, .ref h9, .ref h10, .ref h11, hv0, hv1, hv2, hv3, hv4], wI (cy 1) h7 48 (g_7)] := hD
          refine lv_iinc (v := nI (i1 + 1)) (lv' := [(1, .int (nI (i1 + 1))), (0, .ref h0)]) hx hb dX4_settle_31 hl (k := 0) rfl (nI_add i1 1) (by decide) rfl (fun ls hl => ?_)
          refine lv_goto (tgt := 2) hx hb dX4_settle_34 (by decide) ?_
          exact ih1  ((i1 + 1)) g_7 hr_8 (by omega) (seT_put hf1_1 (by omega) ex_4 c_18 eg_7) (by omega) _ _ (hP.sub [0, 1] rfl) (hD.sub [0, 1] (by decide +kernel) rfl) hS ls (lv_sub hl [0, 1] rfl)
  exact loop1 _ 0 fx hs0 (by omega) (seT_0) (Nat.le_refl _) _ _ (hP.sub [0, 1] rfl) (hD.sub [0, 1] (by decide +kernel) rfl) hS ls (lv_sub hl [0, 1] rfl)
theorem gdX10_tellWord_0 : decode cX10_tellWord 0 = .ok (.aload_n 0, 1) ∧ decode cX10_tellWord 1 = .ok (.getfield 24, 3) ∧ decode cX10_tellWord 4 = .ok (.getfield 114, 3) ∧ decode cX10_tellWord 7 = .ok (.iconst 0, 1) ∧ decode cX10_tellWord 8 = .ok (.iaload, 1) ∧ decode cX10_tellWord 9 = .ok (.istore_n 1, 1) ∧ decode cX10_tellWord 10 = .ok (.aload_n 0, 1) ∧ decode cX10_tellWord 11 = .ok (.iconst 0, 1) ∧ decode cX10_tellWord 12 = .ok (.bipush 8, 2) ∧ decode cX10_tellWord 14 = .ok (.invokevirtual 117, 3) := by decide +kernel
theorem dX10_tellWord_0 : decode cX10_tellWord 0 = .ok (.aload_n 0, 1) := gdX10_tellWord_0.1
theorem dX10_tellWord_1 : decode cX10_tellWord 1 = .ok (.getfield 24, 3) := gdX10_tellWord_0.2.1
theorem dX10_tellWord_4 : decode cX10_tellWord 4 = .ok (.getfield 114, 3) := gdX10_tellWord_0.2.2.1
theorem dX10_tellWord_7 : decode cX10_tellWord 7 = .ok (.iconst 0, 1) := gdX10_tellWord_0.2.2.2.1
theorem dX10_tellWord_8 : decode cX10_tellWord 8 = .ok (.iaload, 1) := gdX10_tellWord_0.2.2.2.2.1
theorem dX10_tellWord_9 : decode cX10_tellWord 9 = .ok (.istore_n 1, 1) := gdX10_tellWord_0.2.2.2.2.2.1
theorem dX10_tellWord_10 : decode cX10_tellWord 10 = .ok (.aload_n 0, 1) := gdX10_tellWord_0.2.2.2.2.2.2.1
theorem dX10_tellWord_11 : decode cX10_tellWord 11 = .ok (.iconst 0, 1) := gdX10_tellWord_0.2.2.2.2.2.2.2.1
theorem dX10_tellWord_12 : decode cX10_tellWord 12 = .ok (.bipush 8, 2) := gdX10_tellWord_0.2.2.2.2.2.2.2.2.1
theorem dX10_tellWord_14 : decode cX10_tellWord 14 = .ok (.invokevirtual 117, 3) := gdX10_tellWord_0.2.2.2.2.2.2.2.2.2
theorem k_X10_117 : xV RX10 RX10 117 yX10_takeNew cX10_takeNew 4 (some .boolean) 2 := ⟨⟨m_818, m_820, m_7, m_136, m_821⟩, rfl, by decide, by decide, by decide +kernel⟩
theorem gdX10_tellWord_17 : decode cX10_tellWord 17 = .ok (.ifCond .eq 33, 3) ∧ decode cX10_tellWord 20 = .ok (.aload_n 0, 1) ∧ decode cX10_tellWord 21 = .ok (.bipush 121, 2) ∧ decode cX10_tellWord 23 = .ok (.aload_n 0, 1) ∧ decode cX10_tellWord 24 = .ok (.getfield 24, 3) ∧ decode cX10_tellWord 27 = .ok (.getfield 121, 3) ∧ decode cX10_tellWord 30 = .ok (.iload_n 1, 1) ∧ decode cX10_tellWord 31 = .ok (.invokevirtual 124, 3) := by decide +kernel
theorem dX10_tellWord_17 : decode cX10_tellWord 17 = .ok (.ifCond .eq 33, 3) := gdX10_tellWord_17.1
theorem dX10_tellWord_20 : decode cX10_tellWord 20 = .ok (.aload_n 0, 1) := gdX10_tellWord_17.2.1
theorem dX10_tellWord_21 : decode cX10_tellWord 21 = .ok (.bipush 121, 2) := gdX10_tellWord_17.2.2.1
theorem dX10_tellWord_23 : decode cX10_tellWord 23 = .ok (.aload_n 0, 1) := gdX10_tellWord_17.2.2.2.1
theorem dX10_tellWord_24 : decode cX10_tellWord 24 = .ok (.getfield 24, 3) := gdX10_tellWord_17.2.2.2.2.1
theorem dX10_tellWord_27 : decode cX10_tellWord 27 = .ok (.getfield 121, 3) := gdX10_tellWord_17.2.2.2.2.2.1
theorem dX10_tellWord_30 : decode cX10_tellWord 30 = .ok (.iload_n 1, 1) := gdX10_tellWord_17.2.2.2.2.2.2.1
theorem dX10_tellWord_31 : decode cX10_tellWord 31 = .ok (.invokevirtual 124, 3) := gdX10_tellWord_17.2.2.2.2.2.2.2
theorem k_X10_124 : xV RX10 RX10 124 yX10_takeOption cX10_takeOption 4 (some .boolean) 3 := ⟨⟨m_831, m_833, m_10, m_136, m_834⟩, rfl, by decide, by decide, by decide +kernel⟩
theorem gdX10_tellWord_34 : decode cX10_tellWord 34 = .ok (.ifCond .eq 16, 3) ∧ decode cX10_tellWord 37 = .ok (.aload_n 0, 1) ∧ decode cX10_tellWord 38 = .ok (.bipush 59, 2) ∧ decode cX10_tellWord 40 = .ok (.invokevirtual 128, 3) ∧ decode cX10_tellWord 43 = .ok (.ifCond .eq 7, 3) ∧ decode cX10_tellWord 46 = .ok (.iconst 1, 1) ∧ decode cX10_tellWord 47 = .ok (.goto 4, 3) ∧ decode cX10_tellWord 51 = .ok (.ireturn, 1) ∧ decode cX10_tellWord 50 = .ok (.iconst 0, 1) := by decide +kernel
theorem dX10_tellWord_34 : decode cX10_tellWord 34 = .ok (.ifCond .eq 16, 3) := gdX10_tellWord_34.1
theorem dX10_tellWord_37 : decode cX10_tellWord 37 = .ok (.aload_n 0, 1) := gdX10_tellWord_34.2.1
theorem dX10_tellWord_38 : decode cX10_tellWord 38 = .ok (.bipush 59, 2) := gdX10_tellWord_34.2.2.1
theorem dX10_tellWord_40 : decode cX10_tellWord 40 = .ok (.invokevirtual 128, 3) := gdX10_tellWord_34.2.2.2.1
theorem dX10_tellWord_43 : decode cX10_tellWord 43 = .ok (.ifCond .eq 7, 3) := gdX10_tellWord_34.2.2.2.2.1
theorem dX10_tellWord_46 : decode cX10_tellWord 46 = .ok (.iconst 1, 1) := gdX10_tellWord_34.2.2.2.2.2.1
theorem dX10_tellWord_47 : decode cX10_tellWord 47 = .ok (.goto 4, 3) := gdX10_tellWord_34.2.2.2.2.2.2.1
theorem dX10_tellWord_51 : decode cX10_tellWord 51 = .ok (.ireturn, 1) := gdX10_tellWord_34.2.2.2.2.2.2.2.1
theorem dX10_tellWord_50 : decode cX10_tellWord 50 = .ok (.iconst 0, 1) := gdX10_tellWord_34.2.2.2.2.2.2.2.2
set_option maxHeartbeats 1000000 in
set_option maxRecDepth 100000 in
theorem s_tellWord (l : Launch) (D : va_G) (cy : Nat → ClassId) (adK : Nat → Nat) (adV : Nat → Nat) (d0 : Nat) (d1 : Nat) (uh : Int32) (wt : Int32) (dt : Int32) (vv : Int32) (fq : Int32) (pq : Int32) (yf : Value) (t0 : Nat) (t1 : Nat) (t2 : Nat) (tn : Nat) (ta : Nat) (ts : Nat) (tk : Nat) (tm : Int64) (tr : Int32) (fby : Nat → Int32) (fky : Nat → Int64) (h0 : Nat) (h1 : Nat) (h2 : Nat) (h3 : Nat) (h4 : Nat) (h5 : Nat) (h6 : Nat) (h7 : Nat) (h8 : Nat) (h9 : Nat) (h10 : Nat) (h11 : Nat) (hv0 : Value) (hv1 : Value) (hv2 : Value) (hv3 : Value) (hv4 : Value) (fc : Nat → Int32) (c0 : Nat) (c1 : Nat) (c2 : Nat) (c3 : Nat) (flo : Nat → Int32) (d2 : Nat) (d3 : Nat) (d4 : Nat) (d5 : Nat) (fd0 : Nat → Int64) (ga : Nat) (np0 : Nat → Nat) (hcn : cntOK fc c0 c1 c2 c3) (hc0 : c0 ≤ 8) (hc1 : c1 ≤ 4) (hc2 : c2 ≤ 4) (hc3 : c3 ≤ 6) (htn : tn ≤ 1600) (hta : ta ≤ tn) (htk : tk ≤ 123) (hti : tkC fby tn ga ta ts tk tm tr) (hky : kyOK fky) (hga : ga ≤ tn) (hnm0 : nmC fby tn np0 c0 fd0) : XMi l D (tyL cy) (EV adK adV) yX10_tellWord cX10_tellWord 2 (some .boolean) (rmk 9 0 0) [.ref d0] [wO d0 10 [.ref t0, .ref d1, .ref h0, yf, .int uh, .int wt, .int dt, .int vv, .int fq, .int pq], wO t0 9 [.ref t1, .ref t2, .int (nI tn), .int (nI ta), .int (nI ts), .int (nI tk), .long tm, .int tr], wI (cy 0) t1 1600 (fby), (t2, .inl (cy 2, 24, .inr (.inl (fky)))), wO h0 4 [.ref h1, .ref h2, .ref h3, .ref h4, .ref h5, .ref h6, .ref h7, .ref h8, .ref h9, .ref h10, .ref h11, hv0, hv1, hv2, hv3, hv4], wI (cy 1) h1 4 (fc), wI (cy 1) h2 8 (flo), (d1, .inl (cy 5, 4, .inr (.inr (.inr (.inr (eF d2 d3 d4 d5)))))), (d2, .inl (cy 2, 8, .inr (.inl (fd0))))] (fun (r : Int32) (u : Nat × Nat × Nat × Int64 × Int32 × Int32 × Int32 × Int32 × Nat × (Nat → Int32) × (Nat → Int64) × (Nat → Int32) × Nat × Nat × Nat × Nat) => (u.1 ≤ tn) ∧ (u.2.2.1 ≤ 123) ∧ (cntOK u.2.2.2.2.2.2.2.2.2.1 u.2.2.2.2.2.2.2.2.1 c1 c2 c3) ∧ (u.2.2.2.2.2.2.2.2.1 ≤ 8) ∧ ((r = 1 ∧ (worS fby tn c0 np0 ga = .inr (u.2.2.2.2.2.2.2.2.2.2.2.2.1, u.2.2.2.2.2.2.2.2.2.2.2.2.2.1)) ∧ (fq = u.2.2.2.2.2.1) ∧ (pq = u.2.2.2.2.2.2.1) ∧ (tkC fby tn (u.2.2.2.2.2.2.2.2.2.2.2.2.2.1) u.1 u.2.1 u.2.2.1 u.2.2.2.1 u.2.2.2.2.1) ∧ (c0 + 1 = u.2.2.2.2.2.2.2.2.1) ∧ (c0 < 8) ∧ (nmC fby tn (updN np0 c0 (fin fby tn ga)) (c0 + 1) u.2.2.2.2.2.2.2.2.2.2.1) ∧ (knd fby tn (fin fby tn ga) = 1) ∧ (u.2.2.2.2.2.2.2.2.2.2.2.1 = upd flo c0 (nI u.2.2.2.2.2.2.2.2.2.2.2.2.1)) ∧ (ga < u.2.2.2.2.2.2.2.2.2.2.2.2.2.1 ∧ u.2.2.2.2.2.2.2.2.2.2.2.2.2.1 ≤ tn)) ∨ (r = 0 ∧ (worS fby tn c0 np0 ga = .inl (u.2.2.2.2.2.2.2.2.2.2.2.2.2.2.1, u.2.2.2.2.2.2.2.2.2.2.2.2.2.2.2)) ∧ (flt fby tn u.2.2.2.2.2.2.2.2.2.2.2.2.2.2.2 u.2.2.2.2.2.2.2.2.2.2.2.2.2.2.1 u.2.2.2.2.2.1 u.2.2.2.2.2.2.1)))) (fun (u : Nat × Nat × Nat × Int64 × Int32 × Int32 × Int32 × Int32 × Nat × (Nat → Int32) × (Nat → Int64) × (Nat → Int32) × Nat × Nat × Nat × Nat) => [wO d0 10 [.ref t0, .ref d1, .ref h0, yf, .int uh, .int wt, .int dt, .int u.2.2.2.2.2.2.2.1, .int u.2.2.2.2.2.1, .int u.2.2.2.2.2.2.1], wO t0 9 [.ref t1, .ref t2, .int (nI tn), .int (nI u.1), .int (nI u.2.1), .int (nI u.2.2.1), .long u.2.2.2.1, .int u.2.2.2.2.1], wI (cy 0) t1 1600 (fby), (t2, .inl (cy 2, 24, .inr (.inl (fky)))), wO h0 4 [.ref h1, .ref h2, .ref h3, .ref h4, .ref h5, .ref h6, .ref h7, .ref h8, .ref h9, .ref h10, .ref h11, hv0, hv1, hv2, hv3, hv4], wI (cy 1) h1 4 (u.2.2.2.2.2.2.2.2.2.1), wI (cy 1) h2 8 (u.2.2.2.2.2.2.2.2.2.2.2.1), (d1, .inl (cy 5, 4, .inr (.inr (.inr (.inr (eF d2 d3 d4 d5)))))), (d2, .inl (cy 2, 8, .inr (.inl (u.2.2.2.2.2.2.2.2.2.2.1))))]) := by
  refine XMi.start (by decide) (Nat.le_of_ble_eq_true rfl) ?_
  intro p e s m below meth c args A ls Q hat hQ
  obtain ⟨hx, hb, hr, hml, hown, hg, hlocks, hin, hK, hA, hP, hD, hS, hE, hl⟩ := hat
  have hown : s.vm.findClass RX10 = some m.cls := hown
  have hl : lv_has ls 2 [(0, .ref d0)] := hl
  refine lv_aload_n hx hb dX10_tellWord_0 rfl (lv_at hl 0 rfl) ?_
  refine va_get (D := D) (ci := 10) (v := .ref h0) (C := RX10) (T := TX10) (N := 10) hx hb hg i_X10 hown hK hP 0 rfl rfl 2 (by decide) (hg _ m_257) (fun _ h9 => h9) rfl dX10_tellWord_1 ?_
  refine va_get (D := D) (ci := 4) (v := .ref h1) (C := RX4) (T := TX4) (N := 16) hx hb hg i_X4 hown hK hP 4 rfl rfl 0 (by decide) (hg _ m_336) (fun _ h9 => h9) rfl dX10_tellWord_4 ?_
  refine lv_iconst (v := 0) hx hb dX10_tellWord_7 (by decide) ?_
  refine va_iald hx hb hK hP 5 1 rfl rfl (by unfold vp_in; decide) dX10_tellWord_8 ?_
  refine lv_topi (fun y_1 hy_1 => ?_)
  obtain rfl : y_1 = nI c0 := hy_1.trans hcn.1
  refine lv_istore_n (lv' := [(1, .int (nI c0)), (0, .ref d0)]) hx hb dX10_tellWord_9 rfl hl (by decide) rfl (fun ls hl => ?_)
  refine lv_aload_n hx hb dX10_tellWord_10 rfl (lv_at hl 1 rfl) ?_
  refine lv_iconst (v := 0) hx hb dX10_tellWord_11 (by decide) ?_
  refine lv_bipush (v := 8) hx hb dX10_tellWord_12 (by decide) ?_
  refine x_callVi (q := (RX10, TX10, 10)) (ci := 10) (q0 := 0) (wr := [wI (cy 1) h2 8 (flo)]) (rest := []) ⟨hx, hb, hml, hown, hg, hl.1⟩ k_X10_117 (s_takeNew0 l D cy adK adV d0 d1 uh wt dt vv fq pq yf t0 t1 t2 tn ta ts tk tm tr fby fky h0 h1 h2 h3 h4 h5 h6 h7 h8 h9 h10 h11 hv0 hv1 hv2 hv3 hv4 fc c0 c1 c2 c3 d2 d3 d4 d5 fd0 ga np0 (hcn) (by omega) (by omega) (by omega) (by omega) (by omega) (by omega) (by omega) (hti) (hky) (hnm0)) EV_blind hK hP hD hS hA [0, 1, 2, 3, 4, 5, 7, 8] [6] ⟨rfl, rfl, by decide +kernel, by decide +kernel, by decide +kernel⟩ rfl rfl (fun U hU hW => EV_pass hE hS (va_free hD hS hA [0, 1, 2, 3, 4, 5, 7, 8] rfl) hU hW) dX10_tellWord_14 rfl rfl (Nat.le_of_ble_eq_true rfl) ⟨Nat.le_of_ble_eq_true rfl, Nat.le_of_ble_eq_true rfl⟩ ⟨Nat.le_of_ble_eq_true rfl, Nat.le_of_ble_eq_true rfl⟩ (fun zr2 zu2 H locs hw2 hP9 hD9 hS9 => ?_)
  clear hP hD hS
  obtain ⟨ta2_3, ts2_4, tk2_5, tm2_6, tr2_7, fq2_8, pq2_9, k2_10, fc2_11, fd2_12, co9_13, b9_14⟩ := zu2
  refine reW [wI (cy 1) h2 8 (flo), wO d0 10 [.ref t0, .ref d1, .ref h0, yf, .int uh, .int wt, .int dt, .int vv, .int fq2_8, .int pq2_9], wO t0 9 [.ref t1, .ref t2, .int (nI tn), .int (nI ta2_3), .int (nI ts2_4), .int (nI tk2_5), .long tm2_6, .int tr2_7], wI (cy 0) t1 1600 (fby), (t2, .inl (cy 2, 24, .inr (.inl (fky)))), wO h0 4 [.ref h1, .ref h2, .ref h3, .ref h4, .ref h5, .ref h6, .ref h7, .ref h8, .ref h9, .ref h10, .ref h11, hv0, hv1, hv2, hv3, hv4], wI (cy 1) h1 4 (fc2_11), (d1, .inl (cy 5, 4, .inr (.inr (.inr (.inr (eF d2 d3 d4 d5)))))), (d2, .inl (cy 2, 8, .inr (.inl (fd2_12))))] hP9 hD9 hS9 (fun hP hD hS => ?_)
  clear hP9 hD9 hS9
  refine W.widen (k := 0) (n := 0) (Nat.le_of_ble_eq_true rfl) (Nat.le_of_ble_eq_true rfl) ?_
  replace hw2 : (ta2_3 ≤ tn) ∧ (tk2_5 ≤ 123) ∧ (cntOK fc2_11 k2_10 c1 c2 c3) ∧ (k2_10 ≤ 8) ∧ ((zr2 = 1 ∧ (newS fby tn 8 c0 np0 ga = .inr (fin fby tn (fin fby tn ga))) ∧ (fq = fq2_8) ∧ (pq = pq2_9) ∧ (tkC fby tn (fin fby tn (fin fby tn ga)) ta2_3 ts2_4 tk2_5 tm2_6 tr2_7) ∧ (c0 + 1 = k2_10) ∧ (c0 < 8) ∧ (nmC fby tn (updN np0 c0 (fin fby tn ga)) (c0 + 1) fd2_12) ∧ (knd fby tn (fin fby tn ga) = 1)) ∨ (zr2 = 0 ∧ (newS fby tn 8 c0 np0 ga = .inl (co9_13, b9_14)) ∧ (flt fby tn b9_14 co9_13 fq2_8 pq2_9))) := hw2
  obtain ⟨f_15, f_16, f_17, f_18, f_19⟩ := hw2
  rcases f_19 with ⟨hz_28, a_20, a_21, a_22, a_23, a_24, a_25, a_26, a_27⟩ | ⟨hz_31, a_29, a_30⟩
  · subst hz_28
    subst a_21
    subst a_22
    subst a_24
    have hgt_32 : ga < fin fby tn (fin fby tn ga) ∧ fin fby tn (fin fby tn ga) ≤ tn := ⟨Nat.lt_of_le_of_lt (fin_ge _ _ _) (fin_gt (by rw [a_27]; decide)), fin_le (fin_le (by omega))⟩
    refine lv_if_eq (tgt := 50) hx hb dX10_tellWord_17 (by decide) (fun h => absurd h (by decide)) (fun _ => ?_)
    refine lv_aload_n hx hb dX10_tellWord_20 rfl (lv_at hl 1 rfl) ?_
    refine lv_bipush (v := 121) hx hb dX10_tellWord_21 (by decide) ?_
    refine lv_aload_n hx hb dX10_tellWord_23 rfl (lv_at hl 1 rfl) ?_
    refine va_get (D := D) (ci := 10) (v := .ref h0) (C := RX10) (T := TX10) (N := 10) hx hb hg i_X10 hown hK hP 1 rfl rfl 2 (by decide) (hg _ m_257) (fun _ h9 => h9) rfl dX10_tellWord_24 ?_
    refine va_get (D := D) (ci := 4) (v := .ref h2) (C := RX4) (T := TX4) (N := 16) hx hb hg i_X4 hown hK hP 5 rfl rfl 1 (by decide) (hg _ m_340) (fun _ h9 => h9) rfl dX10_tellWord_27 ?_
    refine lv_iload_n hx hb dX10_tellWord_30 rfl (lv_at hl 0 rfl) ?_
    refine x_callVi (q := (RX10, TX10, 10)) (ci := 10) (q0 := 0) (wr := [wO h0 4 [.ref h1, .ref h2, .ref h3, .ref h4, .ref h5, .ref h6, .ref h7, .ref h8, .ref h9, .ref h10, .ref h11, hv0, hv1, hv2, hv3, hv4], wI (cy 1) h1 4 (fc2_11), (d1, .inl (cy 5, 4, .inr (.inr (.inr (.inr (eF d2 d3 d4 d5)))))), (d2, .inl (cy 2, 8, .inr (.inl (fd2_12))))]) (rest := []) ⟨hx, hb, hml, hown, hg, hl.1⟩ k_X10_124 (s_takeOption8 l D cy adK adV d0 d1 uh wt dt vv fq pq ((.ref h0)) yf t0 t1 t2 tn ta2_3 ts2_4 tk2_5 tm2_6 tr2_7 fby fky (fin fby tn (fin fby tn ga)) h2 flo 121 c0 (by omega) (by omega) (by omega) (a_23) (hky) (by omega) (by omega) (by omega)) EV_blind hK hP hD hS hA [1, 2, 3, 4, 0] [5, 6, 7, 8] ⟨rfl, rfl, by decide +kernel, by decide +kernel, by decide +kernel⟩ rfl rfl (fun U hU hW => EV_pass hE hS (va_free hD hS hA [1, 2, 3, 4, 0] rfl) hU hW) dX10_tellWord_31 rfl rfl (Nat.le_of_ble_eq_true rfl) ⟨Nat.le_of_ble_eq_true rfl, Nat.le_of_ble_eq_true rfl⟩ ⟨Nat.le_of_ble_eq_true rfl, Nat.le_of_ble_eq_true rfl⟩ (fun zr33 zu33 H locs hw33 hP9 hD9 hS9 => ?_)
    clear hP hD hS
    obtain ⟨ta2_34, ts2_35, tk2_36, tm2_37, tr2_38, fq2_39, pq2_40, vv2_41, fam2_42, va2_43, ga2_44, co9_45, b9_46⟩ := zu33
    refine reW [wO h0 4 [.ref h1, .ref h2, .ref h3, .ref h4, .ref h5, .ref h6, .ref h7, .ref h8, .ref h9, .ref h10, .ref h11, hv0, hv1, hv2, hv3, hv4], wI (cy 1) h1 4 (fc2_11), (d1, .inl (cy 5, 4, .inr (.inr (.inr (.inr (eF d2 d3 d4 d5)))))), (d2, .inl (cy 2, 8, .inr (.inl (fd2_12)))), wO d0 10 [.ref t0, .ref d1, .ref h0, yf, .int uh, .int wt, .int dt, .int vv2_41, .int fq2_39, .int pq2_40], wO t0 9 [.ref t1, .ref t2, .int (nI tn), .int (nI ta2_34), .int (nI ts2_35), .int (nI tk2_36), .long tm2_37, .int tr2_38], wI (cy 0) t1 1600 (fby), (t2, .inl (cy 2, 24, .inr (.inl (fky)))), wI (cy 1) h2 8 (fam2_42)] hP9 hD9 hS9 (fun hP hD hS => ?_)
    clear hP9 hD9 hS9
    refine W.widen (k := 0) (n := 0) (Nat.le_of_ble_eq_true rfl) (Nat.le_of_ble_eq_true rfl) ?_
    replace hw33 : (ta2_34 ≤ tn) ∧ (tk2_36 ≤ 123) ∧ ((zr33 = 1 ∧ (optS fby tn 121 (fin fby tn (fin fby tn ga)) = .inr (va2_43, ga2_44)) ∧ (fq = fq2_39) ∧ (pq = pq2_40) ∧ (tkC fby tn (ga2_44) ta2_34 ts2_35 tk2_36 tm2_37 tr2_38) ∧ (fam2_42 = upd flo c0 (nI va2_43)) ∧ ((fin fby tn (fin fby tn ga)) ≤ ga2_44 ∧ ga2_44 ≤ tn)) ∨ (zr33 = 0 ∧ (optS fby tn 121 (fin fby tn (fin fby tn ga)) = .inl (co9_45, b9_46)) ∧ (flt fby tn b9_46 co9_45 fq2_39 pq2_40))) := hw33
    obtain ⟨f_47, f_48, f_49⟩ := hw33
    rcases f_49 with ⟨hz_56, a_50, a_51, a_52, a_53, a_54, a_55⟩ | ⟨hz_59, a_57, a_58⟩
    · subst hz_56
      subst a_51
      subst a_52
      refine lv_if_eq (tgt := 50) hx hb dX10_tellWord_34 (by decide) (fun h => absurd h (by decide)) (fun _ => ?_)
      refine lv_aload_n hx hb dX10_tellWord_37 rfl (lv_at hl 1 rfl) ?_
      refine lv_bipush (v := 59) hx hb dX10_tellWord_38 (by decide) ?_
      refine x_callVi (q := (RX10, TX10, 10)) (ci := 10) (q0 := 0) (wr := [wO h0 4 [.ref h1, .ref h2, .ref h3, .ref h4, .ref h5, .ref h6, .ref h7, .ref h8, .ref h9, .ref h10, .ref h11, hv0, hv1, hv2, hv3, hv4], wI (cy 1) h1 4 (fc2_11), (d1, .inl (cy 5, 4, .inr (.inr (.inr (.inr (eF d2 d3 d4 d5)))))), (d2, .inl (cy 2, 8, .inr (.inl (fd2_12)))), wI (cy 1) h2 8 (fam2_42)]) (rest := []) ⟨hx, hb, hml, hown, hg, hl.1⟩ k_X10_128 (s_take l D cy adK adV d0 d1 uh wt dt vv2_41 fq pq ((.ref h0)) yf t0 t1 t2 tn ta2_34 ts2_35 tk2_36 tm2_37 tr2_38 fby fky ga2_44 59 (by omega) (by omega) (by omega) (a_53) (hky) (by omega)) EV_blind hK hP hD hS hA [4, 5, 6, 7] [0, 1, 2, 3, 8] ⟨rfl, rfl, by decide +kernel, by decide +kernel, by decide +kernel⟩ rfl rfl (fun U hU hW => EV_pass hE hS (va_free hD hS hA [4, 5, 6, 7] rfl) hU hW) dX10_tellWord_40 rfl rfl (Nat.le_of_ble_eq_true rfl) ⟨Nat.le_of_ble_eq_true rfl, Nat.le_of_ble_eq_true rfl⟩ ⟨Nat.le_of_ble_eq_true rfl, Nat.le_of_ble_eq_true rfl⟩ (fun zr60 zu60 H locs hw60 hP9 hD9 hS9 => ?_)
      clear hP hD hS
      obtain ⟨ta2_61, ts2_62, tk2_63, tm2_64, tr2_65, fq2_66, pq2_67, co9_68, b9_69⟩ := zu60
      refine reW [wO h0 4 [.ref h1, .ref h2, .ref h3, .ref h4, .ref h5, .ref h6, .ref h7, .ref h8, .ref h9, .ref h10, .ref h11, hv0, hv1, hv2, hv3, hv4], wI (cy 1) h1 4 (fc2_11), (d1, .inl (cy 5, 4, .inr (.inr (.inr (.inr (eF d2 d3 d4 d5)))))), (d2, .inl (cy 2, 8, .inr (.inl (fd2_12)))), wI (cy 1) h2 8 (fam2_42), wO d0 10 [.ref t0, .ref d1, .ref h0, yf, .int uh, .int wt, .int dt, .int vv2_41, .int fq2_66, .int pq2_67], wO t0 9 [.ref t1, .ref t2, .int (nI tn), .int (nI ta2_61), .int (nI ts2_62), .int (nI tk2_63), .long tm2_64, .int tr2_65], wI (cy 0) t1 1600 (fby), (t2, .inl (cy 2, 24, .inr (.inl (fky))))] hP9 hD9 hS9 (fun hP hD hS => ?_)
      clear hP9 hD9 hS9
      refine W.widen (k := 0) (n := 0) (Nat.le_of_ble_eq_true rfl) (Nat.le_of_ble_eq_true rfl) ?_
      replace hw60 : (ta2_61 ≤ tn) ∧ (tk2_63 ≤ 123) ∧ ((zr60 = 1 ∧ (takS fby tn 59 ga2_44 = .inr (fin fby tn ga2_44)) ∧ (fq = fq2_66) ∧ (pq = pq2_67) ∧ (tkC fby tn (fin fby tn ga2_44) ta2_61 ts2_62 tk2_63 tm2_64 tr2_65) ∧ (knd fby tn ga2_44 = 59)) ∨ (zr60 = 0 ∧ (takS fby tn 59 ga2_44 = .inl (co9_68, b9_69)) ∧ (flt fby tn b9_69 co9_68 fq2_66 pq2_67) ∧ (¬ knd fby tn ga2_44 = 59))) := hw60
      obtain ⟨f_70, f_71, f_72⟩ := hw60
      rcases f_72 with ⟨hz_78, a_73, a_74, a_75, a_76, a_77⟩ | ⟨hz_82, a_79, a_80, a_81⟩
      · subst hz_78
        subst a_74
        subst a_75
        have hgt_83 : ga2_44 < fin fby tn ga2_44 ∧ fin fby tn ga2_44 ≤ tn := ⟨fin_gt (by rw [a_77]; decide), fin_le (by omega)⟩
        refine lv_if_eq (tgt := 50) hx hb dX10_tellWord_43 (by decide) (fun h => absurd h (by decide)) (fun _ => ?_)
        refine lv_iconst (v := 1) hx hb dX10_tellWord_46 (by decide) ?_
        refine lv_goto (tgt := 51) hx hb dX10_tellWord_47 (by decide) ?_
        exact x_zret hQ hx hb hr hlocks hK hP hD hS rfl dX10_tellWord_51 (ta2_61, ts2_62, tk2_63, tm2_64, tr2_65, fq, pq, vv2_41, c0 + 1, fc2_11, fd2_12, fam2_42, va2_43, fin fby tn ga2_44, 0, 0) (⟨(show ta2_61 ≤ tn from by omega), (show tk2_63 ≤ 123 from by omega), f_17, (show (c0 + 1) ≤ 8 from by omega), (show ((1 : Int32) = 1 ∧ (worS fby tn c0 np0 ga = .inr (va2_43, (fin fby tn ga2_44))) ∧ (fq = fq) ∧ (pq = pq) ∧ (tkC fby tn ((fin fby tn ga2_44)) ta2_61 ts2_62 tk2_63 tm2_64 tr2_65) ∧ (c0 + 1 = (c0 + 1)) ∧ (c0 < 8) ∧ (nmC fby tn (updN np0 c0 (fin fby tn ga)) (c0 + 1) fd2_12) ∧ (knd fby tn (fin fby tn ga) = 1) ∧ (fam2_42 = upd flo c0 (nI va2_43)) ∧ (ga < (fin fby tn ga2_44) ∧ (fin fby tn ga2_44) ≤ tn)) ∨ ((1 : Int32) = 0 ∧ (worS fby tn c0 np0 ga = .inl (0, 0)) ∧ (flt fby tn 0 0 fq pq)) from Or.inl ⟨rfl, ((bnd_r _ a_20).trans ((bnd_r _ a_50).trans (bnd_r _ a_73))), (rfl), (rfl), (a_76), (rfl), (a_25), (a_26), (a_27), (a_54), (⟨by omega, by omega⟩)⟩)⟩) [5, 6, 7, 8, 0, 1, 4, 2, 3] (by decide +kernel) rfl (Nat.le_of_ble_eq_true rfl) (Nat.le_of_ble_eq_true rfl)
      · subst hz_82
        refine lv_if_eq (tgt := 50) hx hb dX10_tellWord_43 (by decide) (fun _ => ?_) (fun h => absurd (by decide) h)
        refine lv_iconst (v := 0) hx hb dX10_tellWord_50 (by decide) ?_
        exact x_zret hQ hx hb hr hlocks hK hP hD hS rfl dX10_tellWord_51 (ta2_61, ts2_62, tk2_63, tm2_64, tr2_65, fq2_66, pq2_67, vv2_41, c0 + 1, fc2_11, fd2_12, fam2_42, 0, 0, co9_68, b9_69) (⟨(show ta2_61 ≤ tn from by omega), (show tk2_63 ≤ 123 from by omega), f_17, (show (c0 + 1) ≤ 8 from by omega), (show ((0 : Int32) = 1 ∧ (worS fby tn c0 np0 ga = .inr (0, 0)) ∧ (fq = fq2_66) ∧ (pq = pq2_67) ∧ (tkC fby tn (0) ta2_61 ts2_62 tk2_63 tm2_64 tr2_65) ∧ (c0 + 1 = (c0 + 1)) ∧ (c0 < 8) ∧ (nmC fby tn (updN np0 c0 (fin fby tn ga)) (c0 + 1) fd2_12) ∧ (knd fby tn (fin fby tn ga) = 1) ∧ (fam2_42 = upd flo c0 (nI 0)) ∧ (ga < 0 ∧ 0 ≤ tn)) ∨ ((0 : Int32) = 0 ∧ (worS fby tn c0 np0 ga = .inl (co9_68, b9_69)) ∧ (flt fby tn b9_69 co9_68 fq2_66 pq2_67)) from Or.inr (⟨rfl, ((bnd_r _ a_20).trans ((bnd_r _ a_50).trans (bnd_l _ a_79))), (a_80)⟩))⟩) [5, 6, 7, 8, 0, 1, 4, 2, 3] (by decide +kernel) rfl (Nat.le_of_ble_eq_true rfl) (Nat.le_of_ble_eq_true rfl)
    · subst hz_59
      refine lv_if_eq (tgt := 50) hx hb dX10_tellWord_34 (by decide) (fun _ => ?_) (fun h => absurd (by decide) h)
      refine lv_iconst (v := 0) hx hb dX10_tellWord_50 (by decide) ?_
      exact x_zret hQ hx hb hr hlocks hK hP hD hS rfl dX10_tellWord_51 (ta2_34, ts2_35, tk2_36, tm2_37, tr2_38, fq2_39, pq2_40, vv2_41, c0 + 1, fc2_11, fd2_12, fam2_42, 0, 0, co9_45, b9_46) (⟨(show ta2_34 ≤ tn from by omega), (show tk2_36 ≤ 123 from by omega), f_17, (show (c0 + 1) ≤ 8 from by omega), (show ((0 : Int32) = 1 ∧ (worS fby tn c0 np0 ga = .inr (0, 0)) ∧ (fq = fq2_39) ∧ (pq = pq2_40) ∧ (tkC fby tn (0) ta2_34 ts2_35 tk2_36 tm2_37 tr2_38) ∧ (c0 + 1 = (c0 + 1)) ∧ (c0 < 8) ∧ (nmC fby tn (updN np0 c0 (fin fby tn ga)) (c0 + 1) fd2_12) ∧ (knd fby tn (fin fby tn ga) = 1) ∧ (fam2_42 = upd flo c0 (nI 0)) ∧ (ga < 0 ∧ 0 ≤ tn)) ∨ ((0 : Int32) = 0 ∧ (worS fby tn c0 np0 ga = .inl (co9_45, b9_46)) ∧ (flt fby tn b9_46 co9_45 fq2_39 pq2_40)) from Or.inr (⟨rfl, ((bnd_r _ a_20).trans (bnd_l _ a_57)), (a_58)⟩))⟩) [4, 5, 6, 7, 0, 1, 8, 2, 3] (by decide +kernel) rfl (Nat.le_of_ble_eq_true rfl) (Nat.le_of_ble_eq_true rfl)
  · subst hz_31
    refine lv_if_eq (tgt := 50) hx hb dX10_tellWord_17 (by decide) (fun _ => ?_) (fun h => absurd (by decide) h)
    refine lv_iconst (v := 0) hx hb dX10_tellWord_50 (by decide) ?_
    exact x_zret hQ hx hb hr hlocks hK hP hD hS rfl dX10_tellWord_51 (ta2_3, ts2_4, tk2_5, tm2_6, tr2_7, fq2_8, pq2_9, vv, k2_10, fc2_11, fd2_12, flo, 0, 0, co9_13, b9_14) (⟨(show ta2_3 ≤ tn from by omega), (show tk2_5 ≤ 123 from by omega), f_17, (show k2_10 ≤ 8 from by omega), (show ((0 : Int32) = 1 ∧ (worS fby tn c0 np0 ga = .inr (0, 0)) ∧ (fq = fq2_8) ∧ (pq = pq2_9) ∧ (tkC fby tn (0) ta2_3 ts2_4 tk2_5 tm2_6 tr2_7) ∧ (c0 + 1 = k2_10) ∧ (c0 < 8) ∧ (nmC fby tn (updN np0 c0 (fin fby tn ga)) (c0 + 1) fd2_12) ∧ (knd fby tn (fin fby tn ga) = 1) ∧ (flo = upd flo c0 (nI 0)) ∧ (ga < 0 ∧ 0 ≤ tn)) ∨ ((0 : Int32) = 0 ∧ (worS fby tn c0 np0 ga = .inl (co9_13, b9_14)) ∧ (flt fby tn b9_14 co9_13 fq2_8 pq2_9)) from Or.inr (⟨rfl, (bnd_l _ a_29), (a_30)⟩))⟩) [1, 2, 3, 4, 5, 6, 0, 7, 8] (by decide +kernel) rfl (Nat.le_of_ble_eq_true rfl) (Nat.le_of_ble_eq_true rfl)
theorem gdX10_tellPlaced_0 : decode cX10_tellPlaced 0 = .ok (.aload_n 0, 1) ∧ decode cX10_tellPlaced 1 = .ok (.getfield 24, 3) ∧ decode cX10_tellPlaced 4 = .ok (.getfield 114, 3) ∧ decode cX10_tellPlaced 7 = .ok (.iload_n 1, 1) ∧ decode cX10_tellPlaced 8 = .ok (.iaload, 1) ∧ decode cX10_tellPlaced 9 = .ok (.istore 5, 2) ∧ decode cX10_tellPlaced 11 = .ok (.aload_n 0, 1) ∧ decode cX10_tellPlaced 12 = .ok (.iload_n 1, 1) ∧ decode cX10_tellPlaced 13 = .ok (.aload_n 2, 1) ∧ decode cX10_tellPlaced 14 = .ok (.arraylength, 1) ∧ decode cX10_tellPlaced 15 = .ok (.invokevirtual 117, 3) ∧ decode cX10_tellPlaced 18 = .ok (.ifCond .eq 21, 3) := by decide +kernel
theorem dX10_tellPlaced_0 : decode cX10_tellPlaced 0 = .ok (.aload_n 0, 1) := gdX10_tellPlaced_0.1
theorem dX10_tellPlaced_1 : decode cX10_tellPlaced 1 = .ok (.getfield 24, 3) := gdX10_tellPlaced_0.2.1
theorem dX10_tellPlaced_4 : decode cX10_tellPlaced 4 = .ok (.getfield 114, 3) := gdX10_tellPlaced_0.2.2.1
theorem dX10_tellPlaced_7 : decode cX10_tellPlaced 7 = .ok (.iload_n 1, 1) := gdX10_tellPlaced_0.2.2.2.1
theorem dX10_tellPlaced_8 : decode cX10_tellPlaced 8 = .ok (.iaload, 1) := gdX10_tellPlaced_0.2.2.2.2.1
theorem dX10_tellPlaced_9 : decode cX10_tellPlaced 9 = .ok (.istore 5, 2) := gdX10_tellPlaced_0.2.2.2.2.2.1
theorem dX10_tellPlaced_11 : decode cX10_tellPlaced 11 = .ok (.aload_n 0, 1) := gdX10_tellPlaced_0.2.2.2.2.2.2.1
theorem dX10_tellPlaced_12 : decode cX10_tellPlaced 12 = .ok (.iload_n 1, 1) := gdX10_tellPlaced_0.2.2.2.2.2.2.2.1
theorem dX10_tellPlaced_13 : decode cX10_tellPlaced 13 = .ok (.aload_n 2, 1) := gdX10_tellPlaced_0.2.2.2.2.2.2.2.2.1
theorem dX10_tellPlaced_14 : decode cX10_tellPlaced 14 = .ok (.arraylength, 1) := gdX10_tellPlaced_0.2.2.2.2.2.2.2.2.2.1
theorem dX10_tellPlaced_15 : decode cX10_tellPlaced 15 = .ok (.invokevirtual 117, 3) := gdX10_tellPlaced_0.2.2.2.2.2.2.2.2.2.2.1
theorem dX10_tellPlaced_18 : decode cX10_tellPlaced 18 = .ok (.ifCond .eq 21, 3) := gdX10_tellPlaced_0.2.2.2.2.2.2.2.2.2.2.2
theorem gdX10_tellPlaced_21 : decode cX10_tellPlaced 21 = .ok (.aload_n 0, 1) ∧ decode cX10_tellPlaced 22 = .ok (.bipush 110, 2) ∧ decode cX10_tellPlaced 24 = .ok (.invokevirtual 128, 3) ∧ decode cX10_tellPlaced 27 = .ok (.ifCond .eq 12, 3) ∧ decode cX10_tellPlaced 30 = .ok (.aload_n 0, 1) ∧ decode cX10_tellPlaced 31 = .ok (.bipush 99, 2) ∧ decode cX10_tellPlaced 33 = .ok (.invokevirtual 131, 3) ∧ decode cX10_tellPlaced 36 = .ok (.ifCond .ne 5, 3) ∧ decode cX10_tellPlaced 41 = .ok (.aload_n 2, 1) ∧ decode cX10_tellPlaced 42 = .ok (.iload 5, 2) ∧ decode cX10_tellPlaced 44 = .ok (.aload_n 0, 1) ∧ decode cX10_tellPlaced 45 = .ok (.getfield 134, 3) := by decide +kernel
theorem dX10_tellPlaced_21 : decode cX10_tellPlaced 21 = .ok (.aload_n 0, 1) := gdX10_tellPlaced_21.1
theorem dX10_tellPlaced_22 : decode cX10_tellPlaced 22 = .ok (.bipush 110, 2) := gdX10_tellPlaced_21.2.1
theorem dX10_tellPlaced_24 : decode cX10_tellPlaced 24 = .ok (.invokevirtual 128, 3) := gdX10_tellPlaced_21.2.2.1
theorem dX10_tellPlaced_27 : decode cX10_tellPlaced 27 = .ok (.ifCond .eq 12, 3) := gdX10_tellPlaced_21.2.2.2.1
theorem dX10_tellPlaced_30 : decode cX10_tellPlaced 30 = .ok (.aload_n 0, 1) := gdX10_tellPlaced_21.2.2.2.2.1
theorem dX10_tellPlaced_31 : decode cX10_tellPlaced 31 = .ok (.bipush 99, 2) := gdX10_tellPlaced_21.2.2.2.2.2.1
theorem dX10_tellPlaced_33 : decode cX10_tellPlaced 33 = .ok (.invokevirtual 131, 3) := gdX10_tellPlaced_21.2.2.2.2.2.2.1
theorem dX10_tellPlaced_36 : decode cX10_tellPlaced 36 = .ok (.ifCond .ne 5, 3) := gdX10_tellPlaced_21.2.2.2.2.2.2.2.1
theorem dX10_tellPlaced_41 : decode cX10_tellPlaced 41 = .ok (.aload_n 2, 1) := gdX10_tellPlaced_21.2.2.2.2.2.2.2.2.1
theorem dX10_tellPlaced_42 : decode cX10_tellPlaced 42 = .ok (.iload 5, 2) := gdX10_tellPlaced_21.2.2.2.2.2.2.2.2.2.1
theorem dX10_tellPlaced_44 : decode cX10_tellPlaced 44 = .ok (.aload_n 0, 1) := gdX10_tellPlaced_21.2.2.2.2.2.2.2.2.2.2.1
theorem dX10_tellPlaced_45 : decode cX10_tellPlaced 45 = .ok (.getfield 134, 3) := gdX10_tellPlaced_21.2.2.2.2.2.2.2.2.2.2.2
theorem gdX10_tellPlaced_48 : decode cX10_tellPlaced 48 = .ok (.iastore, 1) ∧ decode cX10_tellPlaced 49 = .ok (.aload_n 0, 1) ∧ decode cX10_tellPlaced 50 = .ok (.iload_n 3, 1) ∧ decode cX10_tellPlaced 51 = .ok (.aload 4, 2) ∧ decode cX10_tellPlaced 53 = .ok (.iload 5, 2) ∧ decode cX10_tellPlaced 55 = .ok (.invokevirtual 124, 3) ∧ decode cX10_tellPlaced 58 = .ok (.ifCond .eq 16, 3) ∧ decode cX10_tellPlaced 61 = .ok (.aload_n 0, 1) ∧ decode cX10_tellPlaced 62 = .ok (.bipush 59, 2) ∧ decode cX10_tellPlaced 64 = .ok (.invokevirtual 128, 3) ∧ decode cX10_tellPlaced 67 = .ok (.ifCond .eq 7, 3) ∧ decode cX10_tellPlaced 70 = .ok (.iconst 1, 1) := by decide +kernel
theorem dX10_tellPlaced_48 : decode cX10_tellPlaced 48 = .ok (.iastore, 1) := gdX10_tellPlaced_48.1
theorem dX10_tellPlaced_49 : decode cX10_tellPlaced 49 = .ok (.aload_n 0, 1) := gdX10_tellPlaced_48.2.1
theorem dX10_tellPlaced_50 : decode cX10_tellPlaced 50 = .ok (.iload_n 3, 1) := gdX10_tellPlaced_48.2.2.1
theorem dX10_tellPlaced_51 : decode cX10_tellPlaced 51 = .ok (.aload 4, 2) := gdX10_tellPlaced_48.2.2.2.1
theorem dX10_tellPlaced_53 : decode cX10_tellPlaced 53 = .ok (.iload 5, 2) := gdX10_tellPlaced_48.2.2.2.2.1
theorem dX10_tellPlaced_55 : decode cX10_tellPlaced 55 = .ok (.invokevirtual 124, 3) := gdX10_tellPlaced_48.2.2.2.2.2.1
theorem dX10_tellPlaced_58 : decode cX10_tellPlaced 58 = .ok (.ifCond .eq 16, 3) := gdX10_tellPlaced_48.2.2.2.2.2.2.1
theorem dX10_tellPlaced_61 : decode cX10_tellPlaced 61 = .ok (.aload_n 0, 1) := gdX10_tellPlaced_48.2.2.2.2.2.2.2.1
theorem dX10_tellPlaced_62 : decode cX10_tellPlaced 62 = .ok (.bipush 59, 2) := gdX10_tellPlaced_48.2.2.2.2.2.2.2.2.1
theorem dX10_tellPlaced_64 : decode cX10_tellPlaced 64 = .ok (.invokevirtual 128, 3) := gdX10_tellPlaced_48.2.2.2.2.2.2.2.2.2.1
theorem dX10_tellPlaced_67 : decode cX10_tellPlaced 67 = .ok (.ifCond .eq 7, 3) := gdX10_tellPlaced_48.2.2.2.2.2.2.2.2.2.2.1
theorem dX10_tellPlaced_70 : decode cX10_tellPlaced 70 = .ok (.iconst 1, 1) := gdX10_tellPlaced_48.2.2.2.2.2.2.2.2.2.2.2
theorem gdX10_tellPlaced_71 : decode cX10_tellPlaced 71 = .ok (.goto 4, 3) ∧ decode cX10_tellPlaced 75 = .ok (.ireturn, 1) ∧ decode cX10_tellPlaced 74 = .ok (.iconst 0, 1) ∧ decode cX10_tellPlaced 39 = .ok (.iconst 0, 1) ∧ decode cX10_tellPlaced 40 = .ok (.ireturn, 1) := by decide +kernel
theorem dX10_tellPlaced_71 : decode cX10_tellPlaced 71 = .ok (.goto 4, 3) := gdX10_tellPlaced_71.1
theorem dX10_tellPlaced_75 : decode cX10_tellPlaced 75 = .ok (.ireturn, 1) := gdX10_tellPlaced_71.2.1
theorem dX10_tellPlaced_74 : decode cX10_tellPlaced 74 = .ok (.iconst 0, 1) := gdX10_tellPlaced_71.2.2.1
theorem dX10_tellPlaced_39 : decode cX10_tellPlaced 39 = .ok (.iconst 0, 1) := gdX10_tellPlaced_71.2.2.2.1
theorem dX10_tellPlaced_40 : decode cX10_tellPlaced 40 = .ok (.ireturn, 1) := gdX10_tellPlaced_71.2.2.2.2
set_option maxHeartbeats 1000000 in
set_option maxRecDepth 100000 in
theorem s_tellPlaced1 (l : Launch) (D : va_G) (cy : Nat → ClassId) (adK : Nat → Nat) (adV : Nat → Nat) (d0 : Nat) (d1 : Nat) (uh : Int32) (wt : Int32) (dt : Int32) (vv : Int32) (fq : Int32) (pq : Int32) (yf : Value) (t0 : Nat) (t1 : Nat) (t2 : Nat) (tn : Nat) (ta : Nat) (ts : Nat) (tk : Nat) (tm : Int64) (tr : Int32) (fby : Nat → Int32) (fky : Nat → Int64) (h0 : Nat) (h1 : Nat) (h2 : Nat) (h3 : Nat) (h4 : Nat) (h5 : Nat) (h6 : Nat) (h7 : Nat) (h8 : Nat) (h9 : Nat) (h10 : Nat) (h11 : Nat) (hv0 : Value) (hv1 : Value) (hv2 : Value) (hv3 : Value) (hv4 : Value) (fc : Nat → Int32) (c0 : Nat) (c1 : Nat) (c2 : Nat) (c3 : Nat) (fpa : Nat → Int32) (fpb : Nat → Int32) (d2 : Nat) (d3 : Nat) (d4 : Nat) (d5 : Nat) (fd1 : Nat → Int64) (ga : Nat) (np1 : Nat → Nat) (hcn : cntOK fc c0 c1 c2 c3) (hc0 : c0 ≤ 8) (hc1 : c1 ≤ 4) (hc2 : c2 ≤ 4) (hc3 : c3 ≤ 6) (htn : tn ≤ 1600) (hta : ta ≤ tn) (htk : tk ≤ 123) (hti : tkC fby tn ga ta ts tk tm tr) (hky : kyOK fky) (hga : ga ≤ tn) (hnm1 : nmC fby tn np1 c1 fd1) : XMi l D (tyL cy) (EV adK adV) yX10_tellPlaced cX10_tellPlaced 6 (some .boolean) (rmk 9 0 0) [.ref d0, .int 1, .ref h3, .int 119, .ref h4] [wO d0 10 [.ref t0, .ref d1, .ref h0, yf, .int uh, .int wt, .int dt, .int vv, .int fq, .int pq], wO t0 9 [.ref t1, .ref t2, .int (nI tn), .int (nI ta), .int (nI ts), .int (nI tk), .long tm, .int tr], wI (cy 0) t1 1600 (fby), (t2, .inl (cy 2, 24, .inr (.inl (fky)))), wO h0 4 [.ref h1, .ref h2, .ref h3, .ref h4, .ref h5, .ref h6, .ref h7, .ref h8, .ref h9, .ref h10, .ref h11, hv0, hv1, hv2, hv3, hv4], wI (cy 1) h1 4 (fc), wI (cy 1) h3 4 (fpa), wI (cy 1) h4 4 (fpb), (d1, .inl (cy 5, 4, .inr (.inr (.inr (.inr (eF d2 d3 d4 d5)))))), (d3, .inl (cy 2, 8, .inr (.inl (fd1))))] (fun (r : Int32) (u : Nat × Nat × Nat × Int64 × Int32 × Int32 × Int32 × Int32 × Nat × (Nat → Int32) × (Nat → Int64) × (Nat → Int32) × (Nat → Int32) × Nat × Nat × Nat × Nat × Nat) => (u.1 ≤ tn) ∧ (u.2.2.1 ≤ 123) ∧ (cntOK u.2.2.2.2.2.2.2.2.2.1 c0 u.2.2.2.2.2.2.2.2.1 c2 c3) ∧ (u.2.2.2.2.2.2.2.2.1 ≤ 4) ∧ ((r = 1 ∧ (plaS fby tn c1 np1 119 ga = .inr (u.2.2.2.2.2.2.2.2.2.2.2.2.2.1, u.2.2.2.2.2.2.2.2.2.2.2.2.2.2.1, u.2.2.2.2.2.2.2.2.2.2.2.2.2.2.2.1)) ∧ (fq = u.2.2.2.2.2.1) ∧ (pq = u.2.2.2.2.2.2.1) ∧ (tkC fby tn (u.2.2.2.2.2.2.2.2.2.2.2.2.2.2.2.1) u.1 u.2.1 u.2.2.1 u.2.2.2.1 u.2.2.2.2.1) ∧ (c1 + 1 = u.2.2.2.2.2.2.2.2.1) ∧ (c1 < 4) ∧ (nmC fby tn (updN np1 c1 (fin fby tn ga)) (c1 + 1) u.2.2.2.2.2.2.2.2.2.2.1) ∧ (knd fby tn (fin fby tn ga) = 1) ∧ (u.2.2.2.2.2.2.2.2.2.2.2.1 = upd fpa c1 (nI u.2.2.2.2.2.2.2.2.2.2.2.2.2.1)) ∧ (u.2.2.2.2.2.2.2.2.2.2.2.2.1 = upd fpb c1 (nI u.2.2.2.2.2.2.2.2.2.2.2.2.2.2.1)) ∧ (ga < u.2.2.2.2.2.2.2.2.2.2.2.2.2.2.2.1 ∧ u.2.2.2.2.2.2.2.2.2.2.2.2.2.2.2.1 ≤ tn)) ∨ (r = 0 ∧ (plaS fby tn c1 np1 119 ga = .inl (u.2.2.2.2.2.2.2.2.2.2.2.2.2.2.2.2.1, u.2.2.2.2.2.2.2.2.2.2.2.2.2.2.2.2.2)) ∧ (flt fby tn u.2.2.2.2.2.2.2.2.2.2.2.2.2.2.2.2.2 u.2.2.2.2.2.2.2.2.2.2.2.2.2.2.2.2.1 u.2.2.2.2.2.1 u.2.2.2.2.2.2.1)))) (fun (u : Nat × Nat × Nat × Int64 × Int32 × Int32 × Int32 × Int32 × Nat × (Nat → Int32) × (Nat → Int64) × (Nat → Int32) × (Nat → Int32) × Nat × Nat × Nat × Nat × Nat) => [wO d0 10 [.ref t0, .ref d1, .ref h0, yf, .int uh, .int wt, .int dt, .int u.2.2.2.2.2.2.2.1, .int u.2.2.2.2.2.1, .int u.2.2.2.2.2.2.1], wO t0 9 [.ref t1, .ref t2, .int (nI tn), .int (nI u.1), .int (nI u.2.1), .int (nI u.2.2.1), .long u.2.2.2.1, .int u.2.2.2.2.1], wI (cy 0) t1 1600 (fby), (t2, .inl (cy 2, 24, .inr (.inl (fky)))), wO h0 4 [.ref h1, .ref h2, .ref h3, .ref h4, .ref h5, .ref h6, .ref h7, .ref h8, .ref h9, .ref h10, .ref h11, hv0, hv1, hv2, hv3, hv4], wI (cy 1) h1 4 (u.2.2.2.2.2.2.2.2.2.1), wI (cy 1) h3 4 (u.2.2.2.2.2.2.2.2.2.2.2.1), wI (cy 1) h4 4 (u.2.2.2.2.2.2.2.2.2.2.2.2.1), (d1, .inl (cy 5, 4, .inr (.inr (.inr (.inr (eF d2 d3 d4 d5)))))), (d3, .inl (cy 2, 8, .inr (.inl (u.2.2.2.2.2.2.2.2.2.2.1))))]) := by
  refine XMi.start (by decide) (Nat.le_of_ble_eq_true rfl) ?_
  intro p e s m below meth c args A ls Q hat hQ
  obtain ⟨hx, hb, hr, hml, hown, hg, hlocks, hin, hK, hA, hP, hD, hS, hE, hl⟩ := hat
  have hown : s.vm.findClass RX10 = some m.cls := hown
  have hl : lv_has ls 6 [(0, .ref d0), (1, .int 1), (2, .ref h3), (3, .int 119), (4, .ref h4)] := hl
  refine lv_aload_n hx hb dX10_tellPlaced_0 rfl (lv_at hl 0 rfl) ?_
  refine va_get (D := D) (ci := 10) (v := .ref h0) (C := RX10) (T := TX10) (N := 10) hx hb hg i_X10 hown hK hP 0 rfl rfl 2 (by decide) (hg _ m_257) (fun _ h9 => h9) rfl dX10_tellPlaced_1 ?_
  refine va_get (D := D) (ci := 4) (v := .ref h1) (C := RX4) (T := TX4) (N := 16) hx hb hg i_X4 hown hK hP 4 rfl rfl 0 (by decide) (hg _ m_336) (fun _ h9 => h9) rfl dX10_tellPlaced_4 ?_
  refine lv_iload_n hx hb dX10_tellPlaced_7 rfl (lv_at hl 1 rfl) ?_
  refine va_iald hx hb hK hP 5 1 rfl rfl (by unfold vp_in; decide) dX10_tellPlaced_8 ?_
  refine lv_topi (fun y_1 hy_1 => ?_)
  obtain rfl : y_1 = nI c1 := hy_1.trans hcn.2.1
  refine lv_istore (lv' := [(5, .int (nI c1)), (0, .ref d0), (1, .int 1), (2, .ref h3), (3, .int 119), (4, .ref h4)]) hx hb dX10_tellPlaced_9 hl (by decide) rfl (fun ls hl => ?_)
  refine lv_aload_n hx hb dX10_tellPlaced_11 rfl (lv_at hl 1 rfl) ?_
  refine lv_iload_n hx hb dX10_tellPlaced_12 rfl (lv_at hl 2 rfl) ?_
  refine lv_aload_n hx hb dX10_tellPlaced_13 rfl (lv_at hl 3 rfl) ?_
  refine va_alen (v := 4) hx hb hK hP 6 1 rfl rfl rfl dX10_tellPlaced_14 ?_
  refine x_callVi (q := (RX10, TX10, 10)) (ci := 10) (q0 := 0) (wr := [wI (cy 1) h3 4 (fpa), wI (cy 1) h4 4 (fpb)]) (rest := []) ⟨hx, hb, hml, hown, hg, hl.1⟩ k_X10_117 (s_takeNew1 l D cy adK adV d0 d1 uh wt dt vv fq pq yf t0 t1 t2 tn ta ts tk tm tr fby fky h0 h1 h2 h3 h4 h5 h6 h7 h8 h9 h10 h11 hv0 hv1 hv2 hv3 hv4 fc c0 c1 c2 c3 d2 d3 d4 d5 fd1 ga np1 (hcn) (by omega) (by omega) (by omega) (by omega) (by omega) (by omega) (by omega) (hti) (hky) (hnm1)) EV_blind hK hP hD hS hA [0, 1, 2, 3, 4, 5, 8, 9] [6, 7] ⟨rfl, rfl, by decide +kernel, by decide +kernel, by decide +kernel⟩ rfl rfl (fun U hU hW => EV_pass hE hS (va_free hD hS hA [0, 1, 2, 3, 4, 5, 8, 9] rfl) hU hW) dX10_tellPlaced_15 rfl rfl (Nat.le_of_ble_eq_true rfl) ⟨Nat.le_of_ble_eq_true rfl, Nat.le_of_ble_eq_true rfl⟩ ⟨Nat.le_of_ble_eq_true rfl, Nat.le_of_ble_eq_true rfl⟩ (fun zr2 zu2 H locs hw2 hP9 hD9 hS9 => ?_)
  clear hP hD hS
  obtain ⟨ta2_3, ts2_4, tk2_5, tm2_6, tr2_7, fq2_8, pq2_9, k2_10, fc2_11, fd2_12, co9_13, b9_14⟩ := zu2
  refine reW [wI (cy 1) h3 4 (fpa), wI (cy 1) h4 4 (fpb), wO d0 10 [.ref t0, .ref d1, .ref h0, yf, .int uh, .int wt, .int dt, .int vv, .int fq2_8, .int pq2_9], wO t0 9 [.ref t1, .ref t2, .int (nI tn), .int (nI ta2_3), .int (nI ts2_4), .int (nI tk2_5), .long tm2_6, .int tr2_7], wI (cy 0) t1 1600 (fby), (t2, .inl (cy 2, 24, .inr (.inl (fky)))), wO h0 4 [.ref h1, .ref h2, .ref h3, .ref h4, .ref h5, .ref h6, .ref h7, .ref h8, .ref h9, .ref h10, .ref h11, hv0, hv1, hv2, hv3, hv4], wI (cy 1) h1 4 (fc2_11), (d1, .inl (cy 5, 4, .inr (.inr (.inr (.inr (eF d2 d3 d4 d5)))))), (d3, .inl (cy 2, 8, .inr (.inl (fd2_12))))] hP9 hD9 hS9 (fun hP hD hS => ?_)
  clear hP9 hD9 hS9
  refine W.widen (k := 0) (n := 0) (Nat.le_of_ble_eq_true rfl) (Nat.le_of_ble_eq_true rfl) ?_
  replace hw2 : (ta2_3 ≤ tn) ∧ (tk2_5 ≤ 123) ∧ (cntOK fc2_11 c0 k2_10 c2 c3) ∧ (k2_10 ≤ 4) ∧ ((zr2 = 1 ∧ (newS fby tn 4 c1 np1 ga = .inr (fin fby tn (fin fby tn ga))) ∧ (fq = fq2_8) ∧ (pq = pq2_9) ∧ (tkC fby tn (fin fby tn (fin fby tn ga)) ta2_3 ts2_4 tk2_5 tm2_6 tr2_7) ∧ (c1 + 1 = k2_10) ∧ (c1 < 4) ∧ (nmC fby tn (updN np1 c1 (fin fby tn ga)) (c1 + 1) fd2_12) ∧ (knd fby tn (fin fby tn ga) = 1)) ∨ (zr2 = 0 ∧ (newS fby tn 4 c1 np1 ga = .inl (co9_13, b9_14)) ∧ (flt fby tn b9_14 co9_13 fq2_8 pq2_9))) := hw2
  obtain ⟨f_15, f_16, f_17, f_18, f_19⟩ := hw2
  rcases f_19 with ⟨hz_28, a_20, a_21, a_22, a_23, a_24, a_25, a_26, a_27⟩ | ⟨hz_31, a_29, a_30⟩
  · subst hz_28
    subst a_21
    subst a_22
    subst a_24
    have hgt_32 : ga < fin fby tn (fin fby tn ga) ∧ fin fby tn (fin fby tn ga) ≤ tn := ⟨Nat.lt_of_le_of_lt (fin_ge _ _ _) (fin_gt (by rw [a_27]; decide)), fin_le (fin_le (by omega))⟩
    refine lv_if_eq (tgt := 39) hx hb dX10_tellPlaced_18 (by decide) (fun h => absurd h (by decide)) (fun _ => ?_)
    refine lv_aload_n hx hb dX10_tellPlaced_21 rfl (lv_at hl 1 rfl) ?_
    refine lv_bipush (v := 110) hx hb dX10_tellPlaced_22 (by decide) ?_
    refine x_callVi (q := (RX10, TX10, 10)) (ci := 10) (q0 := 0) (wr := [wI (cy 1) h3 4 (fpa), wI (cy 1) h4 4 (fpb), wO h0 4 [.ref h1, .ref h2, .ref h3, .ref h4, .ref h5, .ref h6, .ref h7, .ref h8, .ref h9, .ref h10, .ref h11, hv0, hv1, hv2, hv3, hv4], wI (cy 1) h1 4 (fc2_11), (d1, .inl (cy 5, 4, .inr (.inr (.inr (.inr (eF d2 d3 d4 d5)))))), (d3, .inl (cy 2, 8, .inr (.inl (fd2_12))))]) (rest := []) ⟨hx, hb, hml, hown, hg, hl.1⟩ k_X10_128 (s_take l D cy adK adV d0 d1 uh wt dt vv fq pq ((.ref h0)) yf t0 t1 t2 tn ta2_3 ts2_4 tk2_5 tm2_6 tr2_7 fby fky (fin fby tn (fin fby tn ga)) 110 (by omega) (by omega) (by omega) (a_23) (hky) (by omega)) EV_blind hK hP hD hS hA [2, 3, 4, 5] [0, 1, 6, 7, 8, 9] ⟨rfl, rfl, by decide +kernel, by decide +kernel, by decide +kernel⟩ rfl rfl (fun U hU hW => EV_pass hE hS (va_free hD hS hA [2, 3, 4, 5] rfl) hU hW) dX10_tellPlaced_24 rfl rfl (Nat.le_of_ble_eq_true rfl) ⟨Nat.le_of_ble_eq_true rfl, Nat.le_of_ble_eq_true rfl⟩ ⟨Nat.le_of_ble_eq_true rfl, Nat.le_of_ble_eq_true rfl⟩ (fun zr33 zu33 H locs hw33 hP9 hD9 hS9 => ?_)
    clear hP hD hS
    obtain ⟨ta2_34, ts2_35, tk2_36, tm2_37, tr2_38, fq2_39, pq2_40, co9_41, b9_42⟩ := zu33
    refine reW [wI (cy 1) h3 4 (fpa), wI (cy 1) h4 4 (fpb), wO h0 4 [.ref h1, .ref h2, .ref h3, .ref h4, .ref h5, .ref h6, .ref h7, .ref h8, .ref h9, .ref h10, .ref h11, hv0, hv1, hv2, hv3, hv4], wI (cy 1) h1 4 (fc2_11), (d1, .inl (cy 5, 4, .inr (.inr (.inr (.inr (eF d2 d3 d4 d5)))))), (d3, .inl (cy 2, 8, .inr (.inl (fd2_12)))), wO d0 10 [.ref t0, .ref d1, .ref h0, yf, .int uh, .int wt, .int dt, .int vv, .int fq2_39, .int pq2_40], wO t0 9 [.ref t1, .ref t2, .int (nI tn), .int (nI ta2_34), .int (nI ts2_35), .int (nI tk2_36), .long tm2_37, .int tr2_38], wI (cy 0) t1 1600 (fby), (t2, .inl (cy 2, 24, .inr (.inl (fky))))] hP9 hD9 hS9 (fun hP hD hS => ?_)
    clear hP9 hD9 hS9
    refine W.widen (k := 0) (n := 0) (Nat.le_of_ble_eq_true rfl) (Nat.le_of_ble_eq_true rfl) ?_
    replace hw33 : (ta2_34 ≤ tn) ∧ (tk2_36 ≤ 123) ∧ ((zr33 = 1 ∧ (takS fby tn 110 (fin fby tn (fin fby tn ga)) = .inr (fin fby tn (fin fby tn (fin fby tn ga)))) ∧ (fq = fq2_39) ∧ (pq = pq2_40) ∧ (tkC fby tn (fin fby tn (fin fby tn (fin fby tn ga))) ta2_34 ts2_35 tk2_36 tm2_37 tr2_38) ∧ (knd fby tn (fin fby tn (fin fby tn ga)) = 110)) ∨ (zr33 = 0 ∧ (takS fby tn 110 (fin fby tn (fin fby tn ga)) = .inl (co9_41, b9_42)) ∧ (flt fby tn b9_42 co9_41 fq2_39 pq2_40) ∧ (¬ knd fby tn (fin fby tn (fin fby tn ga)) = 110))) := hw33
    obtain ⟨f_43, f_44, f_45⟩ := hw33
    rcases f_45 with ⟨hz_51, a_46, a_47, a_48, a_49, a_50⟩ | ⟨hz_55, a_52, a_53, a_54⟩
    · subst hz_51
      subst a_47
      subst a_48
      have hgt_56 : fin fby tn (fin fby tn ga) < fin fby tn (fin fby tn (fin fby tn ga)) ∧ fin fby tn (fin fby tn (fin fby tn ga)) ≤ tn := ⟨fin_gt (by rw [a_50]; decide), fin_le (by omega)⟩
      refine lv_if_eq (tgt := 39) hx hb dX10_tellPlaced_27 (by decide) (fun h => absurd h (by decide)) (fun _ => ?_)
      refine lv_aload_n hx hb dX10_tellPlaced_30 rfl (lv_at hl 1 rfl) ?_
      refine lv_bipush (v := 99) hx hb dX10_tellPlaced_31 (by decide) ?_
      refine x_callVi (q := (RX10, TX10, 10)) (ci := 10) (q0 := 0) (wr := [wI (cy 1) h3 4 (fpa), wI (cy 1) h4 4 (fpb), wO h0 4 [.ref h1, .ref h2, .ref h3, .ref h4, .ref h5, .ref h6, .ref h7, .ref h8, .ref h9, .ref h10, .ref h11, hv0, hv1, hv2, hv3, hv4], wI (cy 1) h1 4 (fc2_11), (d1, .inl (cy 5, 4, .inr (.inr (.inr (.inr (eF d2 d3 d4 d5)))))), (d3, .inl (cy 2, 8, .inr (.inl (fd2_12))))]) (rest := []) ⟨hx, hb, hml, hown, hg, hl.1⟩ k_X10_131 (s_takeNumber l D cy adK adV d0 d1 uh wt dt vv fq pq ((.ref h0)) yf t0 t1 t2 tn ta2_34 ts2_35 tk2_36 tm2_37 tr2_38 fby fky (fin fby tn (fin fby tn (fin fby tn ga))) 99 (by omega) (by omega) (by omega) (a_49) (hky) (by omega)) EV_blind hK hP hD hS hA [6, 7, 8, 9] [0, 1, 2, 3, 4, 5] ⟨rfl, rfl, by decide +kernel, by decide +kernel, by decide +kernel⟩ rfl rfl (fun U hU hW => EV_pass hE hS (va_free hD hS hA [6, 7, 8, 9] rfl) hU hW) dX10_tellPlaced_33 rfl rfl (Nat.le_of_ble_eq_true rfl) ⟨Nat.le_of_ble_eq_true rfl, Nat.le_of_ble_eq_true rfl⟩ ⟨Nat.le_of_ble_eq_true rfl, Nat.le_of_ble_eq_true rfl⟩ (fun zr57 zu57 H locs hw57 hP9 hD9 hS9 => ?_)
      clear hP hD hS
      obtain ⟨ta2_58, ts2_59, tk2_60, tm2_61, tr2_62, fq2_63, pq2_64, vv2_65, co9_66, b9_67⟩ := zu57
      refine reW [wI (cy 1) h3 4 (fpa), wI (cy 1) h4 4 (fpb), wO h0 4 [.ref h1, .ref h2, .ref h3, .ref h4, .ref h5, .ref h6, .ref h7, .ref h8, .ref h9, .ref h10, .ref h11, hv0, hv1, hv2, hv3, hv4], wI (cy 1) h1 4 (fc2_11), (d1, .inl (cy 5, 4, .inr (.inr (.inr (.inr (eF d2 d3 d4 d5)))))), (d3, .inl (cy 2, 8, .inr (.inl (fd2_12)))), wO d0 10 [.ref t0, .ref d1, .ref h0, yf, .int uh, .int wt, .int dt, .int vv2_65, .int fq2_63, .int pq2_64], wO t0 9 [.ref t1, .ref t2, .int (nI tn), .int (nI ta2_58), .int (nI ts2_59), .int (nI tk2_60), .long tm2_61, .int tr2_62], wI (cy 0) t1 1600 (fby), (t2, .inl (cy 2, 24, .inr (.inl (fky))))] hP9 hD9 hS9 (fun hP hD hS => ?_)
      clear hP9 hD9 hS9
      refine W.widen (k := 0) (n := 0) (Nat.le_of_ble_eq_true rfl) (Nat.le_of_ble_eq_true rfl) ?_
      replace hw57 : (ta2_58 ≤ tn) ∧ (tk2_60 ≤ 123) ∧ ((zr57 = 1 ∧ (numS fby tn 99 (fin fby tn (fin fby tn (fin fby tn ga))) = .inr (num fby tn (fin fby tn (fin fby tn (fin fby tn ga))), fin fby tn (fin fby tn (fin fby tn (fin fby tn ga))))) ∧ (fq = fq2_63) ∧ (pq = pq2_64) ∧ (tkC fby tn (fin fby tn (fin fby tn (fin fby tn (fin fby tn ga)))) ta2_58 ts2_59 tk2_60 tm2_61 tr2_62) ∧ (nI (num fby tn (fin fby tn (fin fby tn (fin fby tn ga)))) = vv2_65) ∧ (num fby tn (fin fby tn (fin fby tn (fin fby tn ga))) ≤ 99)) ∨ (zr57 = 0 ∧ (numS fby tn 99 (fin fby tn (fin fby tn (fin fby tn ga))) = .inl (co9_66, b9_67)) ∧ (flt fby tn b9_67 co9_66 fq2_63 pq2_64))) := hw57
      obtain ⟨f_68, f_69, f_70⟩ := hw57
      rcases f_70 with ⟨hz_77, a_71, a_72, a_73, a_74, a_75, a_76⟩ | ⟨hz_80, a_78, a_79⟩
      · subst hz_77
        subst a_72
        subst a_73
        subst a_75
        have hgt_81 : fin fby tn (fin fby tn (fin fby tn ga)) ≤ fin fby tn (fin fby tn (fin fby tn (fin fby tn ga))) ∧ fin fby tn (fin fby tn (fin fby tn (fin fby tn ga))) ≤ tn := ⟨fin_ge _ _ _, fin_le (by omega)⟩
        refine lv_if_ne (tgt := 41) hx hb dX10_tellPlaced_36 (by decide) (fun _ => ?_) (fun h => absurd h (by decide))
        refine lv_aload_n hx hb dX10_tellPlaced_41 rfl (lv_at hl 3 rfl) ?_
        refine lv_iload hx hb dX10_tellPlaced_42 (lv_at hl 0 rfl) ?_
        refine lv_aload_n hx hb dX10_tellPlaced_44 rfl (lv_at hl 1 rfl) ?_
        refine va_get (D := D) (ci := 10) (v := .int (nI (num fby tn (fin fby tn (fin fby tn (fin fby tn ga)))))) (C := RX10) (T := TX10) (N := 10) hx hb hg i_X10 hown hK hP 6 rfl rfl 7 (by decide) (hg _ m_262) (fun _ h9 => h9) rfl dX10_tellPlaced_45 ?_
        refine va_iast hx hb hK hP hD hS 0 1 rfl rfl (vp_in_nI (by omega) (by decide)) dX10_tellPlaced_48 (fun H locs hP9 hD9 hS9 => ?_)
        clear hP hD hS
        obtain ⟨g_82, eg_82⟩ : ∃ y, upd fpa (nI c1 : Int32).toNatClampNeg (nI (num fby tn (fin fby tn (fin fby tn (fin fby tn ga))))) = y := ⟨_, rfl⟩
        rw [eg_82] at hP9 hD9
        refine reW [wI (cy 1) h3 4 (g_82), wI (cy 1) h4 4 (fpb), wO h0 4 [.ref h1, .ref h2, .ref h3, .ref h4, .ref h5, .ref h6, .ref h7, .ref h8, .ref h9, .ref h10, .ref h11, hv0, hv1, hv2, hv3, hv4], wI (cy 1) h1 4 (fc2_11), (d1, .inl (cy 5, 4, .inr (.inr (.inr (.inr (eF d2 d3 d4 d5)))))), (d3, .inl (cy 2, 8, .inr (.inl (fd2_12)))), wO d0 10 [.ref t0, .ref d1, .ref h0, yf, .int uh, .int wt, .int dt, .int (nI (num fby tn (fin fby tn (fin fby tn (fin fby tn ga))))), .int fq, .int pq], wO t0 9 [.ref t1, .ref t2, .int (nI tn), .int (nI ta2_58), .int (nI ts2_59), .int (nI tk2_60), .long tm2_61, .int tr2_62], wI (cy 0) t1 1600 (fby), (t2, .inl (cy 2, 24, .inr (.inl (fky))))] hP9 hD9 hS9 (fun hP hD hS => ?_)
        clear hP9 hD9 hS9
        refine lv_aload_n hx hb dX10_tellPlaced_49 rfl (lv_at hl 1 rfl) ?_
        refine lv_iload_n hx hb dX10_tellPlaced_50 rfl (lv_at hl 4 rfl) ?_
        refine lv_aload hx hb dX10_tellPlaced_51 (lv_at hl 5 rfl) ?_
        refine lv_iload hx hb dX10_tellPlaced_53 (lv_at hl 0 rfl) ?_
        refine x_callVi (q := (RX10, TX10, 10)) (ci := 10) (q0 := 0) (wr := [wI (cy 1) h3 4 (g_82), wO h0 4 [.ref h1, .ref h2, .ref h3, .ref h4, .ref h5, .ref h6, .ref h7, .ref h8, .ref h9, .ref h10, .ref h11, hv0, hv1, hv2, hv3, hv4], wI (cy 1) h1 4 (fc2_11), (d1, .inl (cy 5, 4, .inr (.inr (.inr (.inr (eF d2 d3 d4 d5)))))), (d3, .inl (cy 2, 8, .inr (.inl (fd2_12))))]) (rest := []) ⟨hx, hb, hml, hown, hg, hl.1⟩ k_X10_124 (s_takeOption4 l D cy adK adV d0 d1 uh wt dt (nI (num fby tn (fin fby tn (fin fby tn (fin fby tn ga))))) fq pq ((.ref h0)) yf t0 t1 t2 tn ta2_58 ts2_59 tk2_60 tm2_61 tr2_62 fby fky (fin fby tn (fin fby tn (fin fby tn (fin fby tn ga)))) h4 fpb 119 c1 (by omega) (by omega) (by omega) (a_74) (hky) (by omega) (by omega) (by omega)) EV_blind hK hP hD hS hA [6, 7, 8, 9, 1] [0, 2, 3, 4, 5] ⟨rfl, rfl, by decide +kernel, by decide +kernel, by decide +kernel⟩ rfl rfl (fun U hU hW => EV_pass hE hS (va_free hD hS hA [6, 7, 8, 9, 1] rfl) hU hW) dX10_tellPlaced_55 rfl rfl (Nat.le_of_ble_eq_true rfl) ⟨Nat.le_of_ble_eq_true rfl, Nat.le_of_ble_eq_true rfl⟩ ⟨Nat.le_of_ble_eq_true rfl, Nat.le_of_ble_eq_true rfl⟩ (fun zr83 zu83 H locs hw83 hP9 hD9 hS9 => ?_)
        clear hP hD hS
        obtain ⟨ta2_84, ts2_85, tk2_86, tm2_87, tr2_88, fq2_89, pq2_90, vv2_91, fam2_92, va2_93, ga2_94, co9_95, b9_96⟩ := zu83
        refine reW [wI (cy 1) h3 4 (g_82), wO h0 4 [.ref h1, .ref h2, .ref h3, .ref h4, .ref h5, .ref h6, .ref h7, .ref h8, .ref h9, .ref h10, .ref h11, hv0, hv1, hv2, hv3, hv4], wI (cy 1) h1 4 (fc2_11), (d1, .inl (cy 5, 4, .inr (.inr (.inr (.inr (eF d2 d3 d4 d5)))))), (d3, .inl (cy 2, 8, .inr (.inl (fd2_12)))), wO d0 10 [.ref t0, .ref d1, .ref h0, yf, .int uh, .int wt, .int dt, .int vv2_91, .int fq2_89, .int pq2_90], wO t0 9 [.ref t1, .ref t2, .int (nI tn), .int (nI ta2_84), .int (nI ts2_85), .int (nI tk2_86), .long tm2_87, .int tr2_88], wI (cy 0) t1 1600 (fby), (t2, .inl (cy 2, 24, .inr (.inl (fky)))), wI (cy 1) h4 4 (fam2_92)] hP9 hD9 hS9 (fun hP hD hS => ?_)
        clear hP9 hD9 hS9
        refine W.widen (k := 0) (n := 0) (Nat.le_of_ble_eq_true rfl) (Nat.le_of_ble_eq_true rfl) ?_
        replace hw83 : (ta2_84 ≤ tn) ∧ (tk2_86 ≤ 123) ∧ ((zr83 = 1 ∧ (optS fby tn 119 (fin fby tn (fin fby tn (fin fby tn (fin fby tn ga)))) = .inr (va2_93, ga2_94)) ∧ (fq = fq2_89) ∧ (pq = pq2_90) ∧ (tkC fby tn (ga2_94) ta2_84 ts2_85 tk2_86 tm2_87 tr2_88) ∧ (fam2_92 = upd fpb c1 (nI va2_93)) ∧ ((fin fby tn (fin fby tn (fin fby tn (fin fby tn ga)))) ≤ ga2_94 ∧ ga2_94 ≤ tn)) ∨ (zr83 = 0 ∧ (optS fby tn 119 (fin fby tn (fin fby tn (fin fby tn (fin fby tn ga)))) = .inl (co9_95, b9_96)) ∧ (flt fby tn b9_96 co9_95 fq2_89 pq2_90))) := hw83
        obtain ⟨f_97, f_98, f_99⟩ := hw83
        rcases f_99 with ⟨hz_106, a_100, a_101, a_102, a_103, a_104, a_105⟩ | ⟨hz_109, a_107, a_108⟩
        · subst hz_106
          subst a_101
          subst a_102
          refine lv_if_eq (tgt := 74) hx hb dX10_tellPlaced_58 (by decide) (fun h => absurd h (by decide)) (fun _ => ?_)
          refine lv_aload_n hx hb dX10_tellPlaced_61 rfl (lv_at hl 1 rfl) ?_
          refine lv_bipush (v := 59) hx hb dX10_tellPlaced_62 (by decide) ?_
          refine x_callVi (q := (RX10, TX10, 10)) (ci := 10) (q0 := 0) (wr := [wI (cy 1) h3 4 (g_82), wO h0 4 [.ref h1, .ref h2, .ref h3, .ref h4, .ref h5, .ref h6, .ref h7, .ref h8, .ref h9, .ref h10, .ref h11, hv0, hv1, hv2, hv3, hv4], wI (cy 1) h1 4 (fc2_11), (d1, .inl (cy 5, 4, .inr (.inr (.inr (.inr (eF d2 d3 d4 d5)))))), (d3, .inl (cy 2, 8, .inr (.inl (fd2_12)))), wI (cy 1) h4 4 (fam2_92)]) (rest := []) ⟨hx, hb, hml, hown, hg, hl.1⟩ k_X10_128 (s_take l D cy adK adV d0 d1 uh wt dt vv2_91 fq pq ((.ref h0)) yf t0 t1 t2 tn ta2_84 ts2_85 tk2_86 tm2_87 tr2_88 fby fky ga2_94 59 (by omega) (by omega) (by omega) (a_103) (hky) (by omega)) EV_blind hK hP hD hS hA [5, 6, 7, 8] [0, 1, 2, 3, 4, 9] ⟨rfl, rfl, by decide +kernel, by decide +kernel, by decide +kernel⟩ rfl rfl (fun U hU hW => EV_pass hE hS (va_free hD hS hA [5, 6, 7, 8] rfl) hU hW) dX10_tellPlaced_64 rfl rfl (Nat.le_of_ble_eq_true rfl) ⟨Nat.le_of_ble_eq_true rfl, Nat.le_of_ble_eq_true rfl⟩ ⟨Nat.le_of_ble_eq_true rfl, Nat.le_of_ble_eq_true rfl⟩ (fun zr110 zu110 H locs hw110 hP9 hD9 hS9 => ?_)
          clear hP hD hS
          obtain ⟨ta2_111, ts2_112, tk2_113, tm2_114, tr2_115, fq2_116, pq2_117, co9_118, b9_119⟩ := zu110
          refine reW [wI (cy 1) h3 4 (g_82), wO h0 4 [.ref h1, .ref h2, .ref h3, .ref h4, .ref h5, .ref h6, .ref h7, .ref h8, .ref h9, .ref h10, .ref h11, hv0, hv1, hv2, hv3, hv4], wI (cy 1) h1 4 (fc2_11), (d1, .inl (cy 5, 4, .inr (.inr (.inr (.inr (eF d2 d3 d4 d5)))))), (d3, .inl (cy 2, 8, .inr (.inl (fd2_12)))), wI (cy 1) h4 4 (fam2_92), wO d0 10 [.ref t0, .ref d1, .ref h0, yf, .int uh, .int wt, .int dt, .int vv2_91, .int fq2_116, .int pq2_117], wO t0 9 [.ref t1, .ref t2, .int (nI tn), .int (nI ta2_111), .int (nI ts2_112), .int (nI tk2_113), .long tm2_114, .int tr2_115], wI (cy 0) t1 1600 (fby), (t2, .inl (cy 2, 24, .inr (.inl (fky))))] hP9 hD9 hS9 (fun hP hD hS => ?_)
          clear hP9 hD9 hS9
          refine W.widen (k := 0) (n := 0) (Nat.le_of_ble_eq_true rfl) (Nat.le_of_ble_eq_true rfl) ?_
          replace hw110 : (ta2_111 ≤ tn) ∧ (tk2_113 ≤ 123) ∧ ((zr110 = 1 ∧ (takS fby tn 59 ga2_94 = .inr (fin fby tn ga2_94)) ∧ (fq = fq2_116) ∧ (pq = pq2_117) ∧ (tkC fby tn (fin fby tn ga2_94) ta2_111 ts2_112 tk2_113 tm2_114 tr2_115) ∧ (knd fby tn ga2_94 = 59)) ∨ (zr110 = 0 ∧ (takS fby tn 59 ga2_94 = .inl (co9_118, b9_119)) ∧ (flt fby tn b9_119 co9_118 fq2_116 pq2_117) ∧ (¬ knd fby tn ga2_94 = 59))) := hw110
          obtain ⟨f_120, f_121, f_122⟩ := hw110
          rcases f_122 with ⟨hz_128, a_123, a_124, a_125, a_126, a_127⟩ | ⟨hz_132, a_129, a_130, a_131⟩
          · subst hz_128
            subst a_124
            subst a_125
            have hgt_133 : ga2_94 < fin fby tn ga2_94 ∧ fin fby tn ga2_94 ≤ tn := ⟨fin_gt (by rw [a_127]; decide), fin_le (by omega)⟩
            refine lv_if_eq (tgt := 74) hx hb dX10_tellPlaced_67 (by decide) (fun h => absurd h (by decide)) (fun _ => ?_)
            refine lv_iconst (v := 1) hx hb dX10_tellPlaced_70 (by decide) ?_
            refine lv_goto (tgt := 75) hx hb dX10_tellPlaced_71 (by decide) ?_
            exact x_zret hQ hx hb hr hlocks hK hP hD hS rfl dX10_tellPlaced_75 (ta2_111, ts2_112, tk2_113, tm2_114, tr2_115, fq, pq, vv2_91, c1 + 1, fc2_11, fd2_12, g_82, fam2_92, num fby tn (fin fby tn (fin fby tn (fin fby tn ga))), va2_93, fin fby tn ga2_94, 0, 0) (⟨(show ta2_111 ≤ tn from by omega), (show tk2_113 ≤ 123 from by omega), f_17, (show (c1 + 1) ≤ 4 from by omega), (show ((1 : Int32) = 1 ∧ (plaS fby tn c1 np1 119 ga = .inr ((num fby tn (fin fby tn (fin fby tn (fin fby tn ga)))), va2_93, (fin fby tn ga2_94))) ∧ (fq = fq) ∧ (pq = pq) ∧ (tkC fby tn ((fin fby tn ga2_94)) ta2_111 ts2_112 tk2_113 tm2_114 tr2_115) ∧ (c1 + 1 = (c1 + 1)) ∧ (c1 < 4) ∧ (nmC fby tn (updN np1 c1 (fin fby tn ga)) (c1 + 1) fd2_12) ∧ (knd fby tn (fin fby tn ga) = 1) ∧ (g_82 = upd fpa c1 (nI (num fby tn (fin fby tn (fin fby tn (fin fby tn ga)))))) ∧ (fam2_92 = upd fpb c1 (nI va2_93)) ∧ (ga < (fin fby tn ga2_94) ∧ (fin fby tn ga2_94) ≤ tn)) ∨ ((1 : Int32) = 0 ∧ (plaS fby tn c1 np1 119 ga = .inl (0, 0)) ∧ (flt fby tn 0 0 fq pq)) from Or.inl ⟨rfl, ((bnd_r _ a_20).trans ((bnd_r _ a_46).trans ((bnd_r _ a_71).trans ((bnd_r _ a_100).trans (bnd_r _ a_123))))), (rfl), (rfl), (a_126), (rfl), (a_25), (a_26), (a_27), (upd_1 (by omega) eg_82), (a_104), (⟨by omega, by omega⟩)⟩)⟩) [6, 7, 8, 9, 1, 2, 0, 5, 3, 4] (by decide +kernel) rfl (Nat.le_of_ble_eq_true rfl) (Nat.le_of_ble_eq_true rfl)
          · subst hz_132
            refine lv_if_eq (tgt := 74) hx hb dX10_tellPlaced_67 (by decide) (fun _ => ?_) (fun h => absurd (by decide) h)
            refine lv_iconst (v := 0) hx hb dX10_tellPlaced_74 (by decide) ?_
            exact x_zret hQ hx hb hr hlocks hK hP hD hS rfl dX10_tellPlaced_75 (ta2_111, ts2_112, tk2_113, tm2_114, tr2_115, fq2_116, pq2_117, vv2_91, c1 + 1, fc2_11, fd2_12, g_82, fam2_92, 0, 0, 0, co9_118, b9_119) (⟨(show ta2_111 ≤ tn from by omega), (show tk2_113 ≤ 123 from by omega), f_17, (show (c1 + 1) ≤ 4 from by omega), (show ((0 : Int32) = 1 ∧ (plaS fby tn c1 np1 119 ga = .inr (0, 0, 0)) ∧ (fq = fq2_116) ∧ (pq = pq2_117) ∧ (tkC fby tn (0) ta2_111 ts2_112 tk2_113 tm2_114 tr2_115) ∧ (c1 + 1 = (c1 + 1)) ∧ (c1 < 4) ∧ (nmC fby tn (updN np1 c1 (fin fby tn ga)) (c1 + 1) fd2_12) ∧ (knd fby tn (fin fby tn ga) = 1) ∧ (g_82 = upd fpa c1 (nI 0)) ∧ (fam2_92 = upd fpb c1 (nI 0)) ∧ (ga < 0 ∧ 0 ≤ tn)) ∨ ((0 : Int32) = 0 ∧ (plaS fby tn c1 np1 119 ga = .inl (co9_118, b9_119)) ∧ (flt fby tn b9_119 co9_118 fq2_116 pq2_117)) from Or.inr (⟨rfl, ((bnd_r _ a_20).trans ((bnd_r _ a_46).trans ((bnd_r _ a_71).trans ((bnd_r _ a_100).trans (bnd_l _ a_129))))), (a_130)⟩))⟩) [6, 7, 8, 9, 1, 2, 0, 5, 3, 4] (by decide +kernel) rfl (Nat.le_of_ble_eq_true rfl) (Nat.le_of_ble_eq_true rfl)
        · subst hz_109
          refine lv_if_eq (tgt := 74) hx hb dX10_tellPlaced_58 (by decide) (fun _ => ?_) (fun h => absurd (by decide) h)
          refine lv_iconst (v := 0) hx hb dX10_tellPlaced_74 (by decide) ?_
          exact x_zret hQ hx hb hr hlocks hK hP hD hS rfl dX10_tellPlaced_75 (ta2_84, ts2_85, tk2_86, tm2_87, tr2_88, fq2_89, pq2_90, vv2_91, c1 + 1, fc2_11, fd2_12, g_82, fam2_92, 0, 0, 0, co9_95, b9_96) (⟨(show ta2_84 ≤ tn from by omega), (show tk2_86 ≤ 123 from by omega), f_17, (show (c1 + 1) ≤ 4 from by omega), (show ((0 : Int32) = 1 ∧ (plaS fby tn c1 np1 119 ga = .inr (0, 0, 0)) ∧ (fq = fq2_89) ∧ (pq = pq2_90) ∧ (tkC fby tn (0) ta2_84 ts2_85 tk2_86 tm2_87 tr2_88) ∧ (c1 + 1 = (c1 + 1)) ∧ (c1 < 4) ∧ (nmC fby tn (updN np1 c1 (fin fby tn ga)) (c1 + 1) fd2_12) ∧ (knd fby tn (fin fby tn ga) = 1) ∧ (g_82 = upd fpa c1 (nI 0)) ∧ (fam2_92 = upd fpb c1 (nI 0)) ∧ (ga < 0 ∧ 0 ≤ tn)) ∨ ((0 : Int32) = 0 ∧ (plaS fby tn c1 np1 119 ga = .inl (co9_95, b9_96)) ∧ (flt fby tn b9_96 co9_95 fq2_89 pq2_90)) from Or.inr (⟨rfl, ((bnd_r _ a_20).trans ((bnd_r _ a_46).trans ((bnd_r _ a_71).trans (bnd_l _ a_107)))), (a_108)⟩))⟩) [5, 6, 7, 8, 1, 2, 0, 9, 3, 4] (by decide +kernel) rfl (Nat.le_of_ble_eq_true rfl) (Nat.le_of_ble_eq_true rfl)
      · subst hz_80
        refine lv_if_ne (tgt := 41) hx hb dX10_tellPlaced_36 (by decide) (fun h => absurd (by decide) h) (fun _ => ?_)
        refine lv_iconst (v := 0) hx hb dX10_tellPlaced_39 (by decide) ?_
        exact x_zret hQ hx hb hr hlocks hK hP hD hS rfl dX10_tellPlaced_40 (ta2_58, ts2_59, tk2_60, tm2_61, tr2_62, fq2_63, pq2_64, vv2_65, c1 + 1, fc2_11, fd2_12, fpa, fpb, 0, 0, 0, co9_66, b9_67) (⟨(show ta2_58 ≤ tn from by omega), (show tk2_60 ≤ 123 from by omega), f_17, (show (c1 + 1) ≤ 4 from by omega), (show ((0 : Int32) = 1 ∧ (plaS fby tn c1 np1 119 ga = .inr (0, 0, 0)) ∧ (fq = fq2_63) ∧ (pq = pq2_64) ∧ (tkC fby tn (0) ta2_58 ts2_59 tk2_60 tm2_61 tr2_62) ∧ (c1 + 1 = (c1 + 1)) ∧ (c1 < 4) ∧ (nmC fby tn (updN np1 c1 (fin fby tn ga)) (c1 + 1) fd2_12) ∧ (knd fby tn (fin fby tn ga) = 1) ∧ (fpa = upd fpa c1 (nI 0)) ∧ (fpb = upd fpb c1 (nI 0)) ∧ (ga < 0 ∧ 0 ≤ tn)) ∨ ((0 : Int32) = 0 ∧ (plaS fby tn c1 np1 119 ga = .inl (co9_66, b9_67)) ∧ (flt fby tn b9_67 co9_66 fq2_63 pq2_64)) from Or.inr (⟨rfl, ((bnd_r _ a_20).trans ((bnd_r _ a_46).trans (bnd_l _ a_78))), (a_79)⟩))⟩) [6, 7, 8, 9, 2, 3, 0, 1, 4, 5] (by decide +kernel) rfl (Nat.le_of_ble_eq_true rfl) (Nat.le_of_ble_eq_true rfl)
    · subst hz_55
      refine lv_if_eq (tgt := 39) hx hb dX10_tellPlaced_27 (by decide) (fun _ => ?_) (fun h => absurd (by decide) h)
      refine lv_iconst (v := 0) hx hb dX10_tellPlaced_39 (by decide) ?_
      exact x_zret hQ hx hb hr hlocks hK hP hD hS rfl dX10_tellPlaced_40 (ta2_34, ts2_35, tk2_36, tm2_37, tr2_38, fq2_39, pq2_40, vv, c1 + 1, fc2_11, fd2_12, fpa, fpb, 0, 0, 0, co9_41, b9_42) (⟨(show ta2_34 ≤ tn from by omega), (show tk2_36 ≤ 123 from by omega), f_17, (show (c1 + 1) ≤ 4 from by omega), (show ((0 : Int32) = 1 ∧ (plaS fby tn c1 np1 119 ga = .inr (0, 0, 0)) ∧ (fq = fq2_39) ∧ (pq = pq2_40) ∧ (tkC fby tn (0) ta2_34 ts2_35 tk2_36 tm2_37 tr2_38) ∧ (c1 + 1 = (c1 + 1)) ∧ (c1 < 4) ∧ (nmC fby tn (updN np1 c1 (fin fby tn ga)) (c1 + 1) fd2_12) ∧ (knd fby tn (fin fby tn ga) = 1) ∧ (fpa = upd fpa c1 (nI 0)) ∧ (fpb = upd fpb c1 (nI 0)) ∧ (ga < 0 ∧ 0 ≤ tn)) ∨ ((0 : Int32) = 0 ∧ (plaS fby tn c1 np1 119 ga = .inl (co9_41, b9_42)) ∧ (flt fby tn b9_42 co9_41 fq2_39 pq2_40)) from Or.inr (⟨rfl, ((bnd_r _ a_20).trans (bnd_l _ a_52)), (a_53)⟩))⟩) [6, 7, 8, 9, 2, 3, 0, 1, 4, 5] (by decide +kernel) rfl (Nat.le_of_ble_eq_true rfl) (Nat.le_of_ble_eq_true rfl)
  · subst hz_31
    refine lv_if_eq (tgt := 39) hx hb dX10_tellPlaced_18 (by decide) (fun _ => ?_) (fun h => absurd (by decide) h)
    refine lv_iconst (v := 0) hx hb dX10_tellPlaced_39 (by decide) ?_
    exact x_zret hQ hx hb hr hlocks hK hP hD hS rfl dX10_tellPlaced_40 (ta2_3, ts2_4, tk2_5, tm2_6, tr2_7, fq2_8, pq2_9, vv, k2_10, fc2_11, fd2_12, fpa, fpb, 0, 0, 0, co9_13, b9_14) (⟨(show ta2_3 ≤ tn from by omega), (show tk2_5 ≤ 123 from by omega), f_17, (show k2_10 ≤ 4 from by omega), (show ((0 : Int32) = 1 ∧ (plaS fby tn c1 np1 119 ga = .inr (0, 0, 0)) ∧ (fq = fq2_8) ∧ (pq = pq2_9) ∧ (tkC fby tn (0) ta2_3 ts2_4 tk2_5 tm2_6 tr2_7) ∧ (c1 + 1 = k2_10) ∧ (c1 < 4) ∧ (nmC fby tn (updN np1 c1 (fin fby tn ga)) (c1 + 1) fd2_12) ∧ (knd fby tn (fin fby tn ga) = 1) ∧ (fpa = upd fpa c1 (nI 0)) ∧ (fpb = upd fpb c1 (nI 0)) ∧ (ga < 0 ∧ 0 ≤ tn)) ∨ ((0 : Int32) = 0 ∧ (plaS fby tn c1 np1 119 ga = .inl (co9_13, b9_14)) ∧ (flt fby tn b9_14 co9_13 fq2_8 pq2_9)) from Or.inr (⟨rfl, (bnd_l _ a_29), (a_30)⟩))⟩) [2, 3, 4, 5, 6, 7, 0, 1, 8, 9] (by decide +kernel) rfl (Nat.le_of_ble_eq_true rfl) (Nat.le_of_ble_eq_true rfl)
set_option maxHeartbeats 1000000 in
set_option maxRecDepth 100000 in
theorem s_tellPlaced2 (l : Launch) (D : va_G) (cy : Nat → ClassId) (adK : Nat → Nat) (adV : Nat → Nat) (d0 : Nat) (d1 : Nat) (uh : Int32) (wt : Int32) (dt : Int32) (vv : Int32) (fq : Int32) (pq : Int32) (yf : Value) (t0 : Nat) (t1 : Nat) (t2 : Nat) (tn : Nat) (ta : Nat) (ts : Nat) (tk : Nat) (tm : Int64) (tr : Int32) (fby : Nat → Int32) (fky : Nat → Int64) (h0 : Nat) (h1 : Nat) (h2 : Nat) (h3 : Nat) (h4 : Nat) (h5 : Nat) (h6 : Nat) (h7 : Nat) (h8 : Nat) (h9 : Nat) (h10 : Nat) (h11 : Nat) (hv0 : Value) (hv1 : Value) (hv2 : Value) (hv3 : Value) (hv4 : Value) (fc : Nat → Int32) (c0 : Nat) (c1 : Nat) (c2 : Nat) (c3 : Nat) (fpa : Nat → Int32) (fpb : Nat → Int32) (d2 : Nat) (d3 : Nat) (d4 : Nat) (d5 : Nat) (fd2 : Nat → Int64) (ga : Nat) (np2 : Nat → Nat) (hcn : cntOK fc c0 c1 c2 c3) (hc0 : c0 ≤ 8) (hc1 : c1 ≤ 4) (hc2 : c2 ≤ 4) (hc3 : c3 ≤ 6) (htn : tn ≤ 1600) (hta : ta ≤ tn) (htk : tk ≤ 123) (hti : tkC fby tn ga ta ts tk tm tr) (hky : kyOK fky) (hga : ga ≤ tn) (hnm2 : nmC fby tn np2 c2 fd2) : XMi l D (tyL cy) (EV adK adV) yX10_tellPlaced cX10_tellPlaced 6 (some .boolean) (rmk 9 0 0) [.ref d0, .int 2, .ref h5, .int 111, .ref h6] [wO d0 10 [.ref t0, .ref d1, .ref h0, yf, .int uh, .int wt, .int dt, .int vv, .int fq, .int pq], wO t0 9 [.ref t1, .ref t2, .int (nI tn), .int (nI ta), .int (nI ts), .int (nI tk), .long tm, .int tr], wI (cy 0) t1 1600 (fby), (t2, .inl (cy 2, 24, .inr (.inl (fky)))), wO h0 4 [.ref h1, .ref h2, .ref h3, .ref h4, .ref h5, .ref h6, .ref h7, .ref h8, .ref h9, .ref h10, .ref h11, hv0, hv1, hv2, hv3, hv4], wI (cy 1) h1 4 (fc), wI (cy 1) h5 4 (fpa), wI (cy 1) h6 4 (fpb), (d1, .inl (cy 5, 4, .inr (.inr (.inr (.inr (eF d2 d3 d4 d5)))))), (d4, .inl (cy 2, 8, .inr (.inl (fd2))))] (fun (r : Int32) (u : Nat × Nat × Nat × Int64 × Int32 × Int32 × Int32 × Int32 × Nat × (Nat → Int32) × (Nat → Int64) × (Nat → Int32) × (Nat → Int32) × Nat × Nat × Nat × Nat × Nat) => (u.1 ≤ tn) ∧ (u.2.2.1 ≤ 123) ∧ (cntOK u.2.2.2.2.2.2.2.2.2.1 c0 c1 u.2.2.2.2.2.2.2.2.1 c3) ∧ (u.2.2.2.2.2.2.2.2.1 ≤ 4) ∧ ((r = 1 ∧ (plaS fby tn c2 np2 111 ga = .inr (u.2.2.2.2.2.2.2.2.2.2.2.2.2.1, u.2.2.2.2.2.2.2.2.2.2.2.2.2.2.1, u.2.2.2.2.2.2.2.2.2.2.2.2.2.2.2.1)) ∧ (fq = u.2.2.2.2.2.1) ∧ (pq = u.2.2.2.2.2.2.1) ∧ (tkC fby tn (u.2.2.2.2.2.2.2.2.2.2.2.2.2.2.2.1) u.1 u.2.1 u.2.2.1 u.2.2.2.1 u.2.2.2.2.1) ∧ (c2 + 1 = u.2.2.2.2.2.2.2.2.1) ∧ (c2 < 4) ∧ (nmC fby tn (updN np2 c2 (fin fby tn ga)) (c2 + 1) u.2.2.2.2.2.2.2.2.2.2.1) ∧ (knd fby tn (fin fby tn ga) = 1) ∧ (u.2.2.2.2.2.2.2.2.2.2.2.1 = upd fpa c2 (nI u.2.2.2.2.2.2.2.2.2.2.2.2.2.1)) ∧ (u.2.2.2.2.2.2.2.2.2.2.2.2.1 = upd fpb c2 (nI u.2.2.2.2.2.2.2.2.2.2.2.2.2.2.1)) ∧ (ga < u.2.2.2.2.2.2.2.2.2.2.2.2.2.2.2.1 ∧ u.2.2.2.2.2.2.2.2.2.2.2.2.2.2.2.1 ≤ tn)) ∨ (r = 0 ∧ (plaS fby tn c2 np2 111 ga = .inl (u.2.2.2.2.2.2.2.2.2.2.2.2.2.2.2.2.1, u.2.2.2.2.2.2.2.2.2.2.2.2.2.2.2.2.2)) ∧ (flt fby tn u.2.2.2.2.2.2.2.2.2.2.2.2.2.2.2.2.2 u.2.2.2.2.2.2.2.2.2.2.2.2.2.2.2.2.1 u.2.2.2.2.2.1 u.2.2.2.2.2.2.1)))) (fun (u : Nat × Nat × Nat × Int64 × Int32 × Int32 × Int32 × Int32 × Nat × (Nat → Int32) × (Nat → Int64) × (Nat → Int32) × (Nat → Int32) × Nat × Nat × Nat × Nat × Nat) => [wO d0 10 [.ref t0, .ref d1, .ref h0, yf, .int uh, .int wt, .int dt, .int u.2.2.2.2.2.2.2.1, .int u.2.2.2.2.2.1, .int u.2.2.2.2.2.2.1], wO t0 9 [.ref t1, .ref t2, .int (nI tn), .int (nI u.1), .int (nI u.2.1), .int (nI u.2.2.1), .long u.2.2.2.1, .int u.2.2.2.2.1], wI (cy 0) t1 1600 (fby), (t2, .inl (cy 2, 24, .inr (.inl (fky)))), wO h0 4 [.ref h1, .ref h2, .ref h3, .ref h4, .ref h5, .ref h6, .ref h7, .ref h8, .ref h9, .ref h10, .ref h11, hv0, hv1, hv2, hv3, hv4], wI (cy 1) h1 4 (u.2.2.2.2.2.2.2.2.2.1), wI (cy 1) h5 4 (u.2.2.2.2.2.2.2.2.2.2.2.1), wI (cy 1) h6 4 (u.2.2.2.2.2.2.2.2.2.2.2.2.1), (d1, .inl (cy 5, 4, .inr (.inr (.inr (.inr (eF d2 d3 d4 d5)))))), (d4, .inl (cy 2, 8, .inr (.inl (u.2.2.2.2.2.2.2.2.2.2.1))))]) := by
  refine XMi.start (by decide) (Nat.le_of_ble_eq_true rfl) ?_
  intro p e s m below meth c args A ls Q hat hQ
  obtain ⟨hx, hb, hr, hml, hown, hg, hlocks, hin, hK, hA, hP, hD, hS, hE, hl⟩ := hat
  have hown : s.vm.findClass RX10 = some m.cls := hown
  have hl : lv_has ls 6 [(0, .ref d0), (1, .int 2), (2, .ref h5), (3, .int 111), (4, .ref h6)] := hl
  refine lv_aload_n hx hb dX10_tellPlaced_0 rfl (lv_at hl 0 rfl) ?_
  refine va_get (D := D) (ci := 10) (v := .ref h0) (C := RX10) (T := TX10) (N := 10) hx hb hg i_X10 hown hK hP 0 rfl rfl 2 (by decide) (hg _ m_257) (fun _ h9 => h9) rfl dX10_tellPlaced_1 ?_
  refine va_get (D := D) (ci := 4) (v := .ref h1) (C := RX4) (T := TX4) (N := 16) hx hb hg i_X4 hown hK hP 4 rfl rfl 0 (by decide) (hg _ m_336) (fun _ h9 => h9) rfl dX10_tellPlaced_4 ?_
  refine lv_iload_n hx hb dX10_tellPlaced_7 rfl (lv_at hl 1 rfl) ?_
  refine va_iald hx hb hK hP 5 1 rfl rfl (by unfold vp_in; decide) dX10_tellPlaced_8 ?_
  refine lv_topi (fun y_1 hy_1 => ?_)
  obtain rfl : y_1 = nI c2 := hy_1.trans hcn.2.2.1
  refine lv_istore (lv' := [(5, .int (nI c2)), (0, .ref d0), (1, .int 2), (2, .ref h5), (3, .int 111), (4, .ref h6)]) hx hb dX10_tellPlaced_9 hl (by decide) rfl (fun ls hl => ?_)
  refine lv_aload_n hx hb dX10_tellPlaced_11 rfl (lv_at hl 1 rfl) ?_
  refine lv_iload_n hx hb dX10_tellPlaced_12 rfl (lv_at hl 2 rfl) ?_
  refine lv_aload_n hx hb dX10_tellPlaced_13 rfl (lv_at hl 3 rfl) ?_
  refine va_alen (v := 4) hx hb hK hP 6 1 rfl rfl rfl dX10_tellPlaced_14 ?_
  refine x_callVi (q := (RX10, TX10, 10)) (ci := 10) (q0 := 0) (wr := [wI (cy 1) h5 4 (fpa), wI (cy 1) h6 4 (fpb)]) (rest := []) ⟨hx, hb, hml, hown, hg, hl.1⟩ k_X10_117 (s_takeNew2 l D cy adK adV d0 d1 uh wt dt vv fq pq yf t0 t1 t2 tn ta ts tk tm tr fby fky h0 h1 h2 h3 h4 h5 h6 h7 h8 h9 h10 h11 hv0 hv1 hv2 hv3 hv4 fc c0 c1 c2 c3 d2 d3 d4 d5 fd2 ga np2 (hcn) (by omega) (by omega) (by omega) (by omega) (by omega) (by omega) (by omega) (hti) (hky) (hnm2)) EV_blind hK hP hD hS hA [0, 1, 2, 3, 4, 5, 8, 9] [6, 7] ⟨rfl, rfl, by decide +kernel, by decide +kernel, by decide +kernel⟩ rfl rfl (fun U hU hW => EV_pass hE hS (va_free hD hS hA [0, 1, 2, 3, 4, 5, 8, 9] rfl) hU hW) dX10_tellPlaced_15 rfl rfl (Nat.le_of_ble_eq_true rfl) ⟨Nat.le_of_ble_eq_true rfl, Nat.le_of_ble_eq_true rfl⟩ ⟨Nat.le_of_ble_eq_true rfl, Nat.le_of_ble_eq_true rfl⟩ (fun zr2 zu2 H locs hw2 hP9 hD9 hS9 => ?_)
  clear hP hD hS
  obtain ⟨ta2_3, ts2_4, tk2_5, tm2_6, tr2_7, fq2_8, pq2_9, k2_10, fc2_11, fd2_12, co9_13, b9_14⟩ := zu2
  refine reW [wI (cy 1) h5 4 (fpa), wI (cy 1) h6 4 (fpb), wO d0 10 [.ref t0, .ref d1, .ref h0, yf, .int uh, .int wt, .int dt, .int vv, .int fq2_8, .int pq2_9], wO t0 9 [.ref t1, .ref t2, .int (nI tn), .int (nI ta2_3), .int (nI ts2_4), .int (nI tk2_5), .long tm2_6, .int tr2_7], wI (cy 0) t1 1600 (fby), (t2, .inl (cy 2, 24, .inr (.inl (fky)))), wO h0 4 [.ref h1, .ref h2, .ref h3, .ref h4, .ref h5, .ref h6, .ref h7, .ref h8, .ref h9, .ref h10, .ref h11, hv0, hv1, hv2, hv3, hv4], wI (cy 1) h1 4 (fc2_11), (d1, .inl (cy 5, 4, .inr (.inr (.inr (.inr (eF d2 d3 d4 d5)))))), (d4, .inl (cy 2, 8, .inr (.inl (fd2_12))))] hP9 hD9 hS9 (fun hP hD hS => ?_)
  clear hP9 hD9 hS9
  refine W.widen (k := 0) (n := 0) (Nat.le_of_ble_eq_true rfl) (Nat.le_of_ble_eq_true rfl) ?_
  replace hw2 : (ta2_3 ≤ tn) ∧ (tk2_5 ≤ 123) ∧ (cntOK fc2_11 c0 c1 k2_10 c3) ∧ (k2_10 ≤ 4) ∧ ((zr2 = 1 ∧ (newS fby tn 4 c2 np2 ga = .inr (fin fby tn (fin fby tn ga))) ∧ (fq = fq2_8) ∧ (pq = pq2_9) ∧ (tkC fby tn (fin fby tn (fin fby tn ga)) ta2_3 ts2_4 tk2_5 tm2_6 tr2_7) ∧ (c2 + 1 = k2_10) ∧ (c2 < 4) ∧ (nmC fby tn (updN np2 c2 (fin fby tn ga)) (c2 + 1) fd2_12) ∧ (knd fby tn (fin fby tn ga) = 1)) ∨ (zr2 = 0 ∧ (newS fby tn 4 c2 np2 ga = .inl (co9_13, b9_14)) ∧ (flt fby tn b9_14 co9_13 fq2_8 pq2_9))) := hw2
  obtain ⟨f_15, f_16, f_17, f_18, f_19⟩ := hw2
  rcases f_19 with ⟨hz_28, a_20, a_21, a_22, a_23, a_24, a_25, a_26, a_27⟩ | ⟨hz_31, a_29, a_30⟩
  · subst hz_28
    subst a_21
    subst a_22
    subst a_24
    have hgt_32 : ga < fin fby tn (fin fby tn ga) ∧ fin fby tn (fin fby tn ga) ≤ tn := ⟨Nat.lt_of_le_of_lt (fin_ge _ _ _) (fin_gt (by rw [a_27]; decide)), fin_le (fin_le (by omega))⟩
    refine lv_if_eq (tgt := 39) hx hb dX10_tellPlaced_18 (by decide) (fun h => absurd h (by decide)) (fun _ => ?_)
    refine lv_aload_n hx hb dX10_tellPlaced_21 rfl (lv_at hl 1 rfl) ?_
    refine lv_bipush (v := 110) hx hb dX10_tellPlaced_22 (by decide) ?_
    refine x_callVi (q := (RX10, TX10, 10)) (ci := 10) (q0 := 0) (wr := [wI (cy 1) h5 4 (fpa), wI (cy 1) h6 4 (fpb), wO h0 4 [.ref h1, .ref h2, .ref h3, .ref h4, .ref h5, .ref h6, .ref h7, .ref h8, .ref h9, .ref h10, .ref h11, hv0, hv1, hv2, hv3, hv4], wI (cy 1) h1 4 (fc2_11), (d1, .inl (cy 5, 4, .inr (.inr (.inr (.inr (eF d2 d3 d4 d5)))))), (d4, .inl (cy 2, 8, .inr (.inl (fd2_12))))]) (rest := []) ⟨hx, hb, hml, hown, hg, hl.1⟩ k_X10_128 (s_take l D cy adK adV d0 d1 uh wt dt vv fq pq ((.ref h0)) yf t0 t1 t2 tn ta2_3 ts2_4 tk2_5 tm2_6 tr2_7 fby fky (fin fby tn (fin fby tn ga)) 110 (by omega) (by omega) (by omega) (a_23) (hky) (by omega)) EV_blind hK hP hD hS hA [2, 3, 4, 5] [0, 1, 6, 7, 8, 9] ⟨rfl, rfl, by decide +kernel, by decide +kernel, by decide +kernel⟩ rfl rfl (fun U hU hW => EV_pass hE hS (va_free hD hS hA [2, 3, 4, 5] rfl) hU hW) dX10_tellPlaced_24 rfl rfl (Nat.le_of_ble_eq_true rfl) ⟨Nat.le_of_ble_eq_true rfl, Nat.le_of_ble_eq_true rfl⟩ ⟨Nat.le_of_ble_eq_true rfl, Nat.le_of_ble_eq_true rfl⟩ (fun zr33 zu33 H locs hw33 hP9 hD9 hS9 => ?_)
    clear hP hD hS
    obtain ⟨ta2_34, ts2_35, tk2_36, tm2_37, tr2_38, fq2_39, pq2_40, co9_41, b9_42⟩ := zu33
    refine reW [wI (cy 1) h5 4 (fpa), wI (cy 1) h6 4 (fpb), wO h0 4 [.ref h1, .ref h2, .ref h3, .ref h4, .ref h5, .ref h6, .ref h7, .ref h8, .ref h9, .ref h10, .ref h11, hv0, hv1, hv2, hv3, hv4], wI (cy 1) h1 4 (fc2_11), (d1, .inl (cy 5, 4, .inr (.inr (.inr (.inr (eF d2 d3 d4 d5)))))), (d4, .inl (cy 2, 8, .inr (.inl (fd2_12)))), wO d0 10 [.ref t0, .ref d1, .ref h0, yf, .int uh, .int wt, .int dt, .int vv, .int fq2_39, .int pq2_40], wO t0 9 [.ref t1, .ref t2, .int (nI tn), .int (nI ta2_34), .int (nI ts2_35), .int (nI tk2_36), .long tm2_37, .int tr2_38], wI (cy 0) t1 1600 (fby), (t2, .inl (cy 2, 24, .inr (.inl (fky))))] hP9 hD9 hS9 (fun hP hD hS => ?_)
    clear hP9 hD9 hS9
    refine W.widen (k := 0) (n := 0) (Nat.le_of_ble_eq_true rfl) (Nat.le_of_ble_eq_true rfl) ?_
    replace hw33 : (ta2_34 ≤ tn) ∧ (tk2_36 ≤ 123) ∧ ((zr33 = 1 ∧ (takS fby tn 110 (fin fby tn (fin fby tn ga)) = .inr (fin fby tn (fin fby tn (fin fby tn ga)))) ∧ (fq = fq2_39) ∧ (pq = pq2_40) ∧ (tkC fby tn (fin fby tn (fin fby tn (fin fby tn ga))) ta2_34 ts2_35 tk2_36 tm2_37 tr2_38) ∧ (knd fby tn (fin fby tn (fin fby tn ga)) = 110)) ∨ (zr33 = 0 ∧ (takS fby tn 110 (fin fby tn (fin fby tn ga)) = .inl (co9_41, b9_42)) ∧ (flt fby tn b9_42 co9_41 fq2_39 pq2_40) ∧ (¬ knd fby tn (fin fby tn (fin fby tn ga)) = 110))) := hw33
    obtain ⟨f_43, f_44, f_45⟩ := hw33
    rcases f_45 with ⟨hz_51, a_46, a_47, a_48, a_49, a_50⟩ | ⟨hz_55, a_52, a_53, a_54⟩
    · subst hz_51
      subst a_47
      subst a_48
      have hgt_56 : fin fby tn (fin fby tn ga) < fin fby tn (fin fby tn (fin fby tn ga)) ∧ fin fby tn (fin fby tn (fin fby tn ga)) ≤ tn := ⟨fin_gt (by rw [a_50]; decide), fin_le (by omega)⟩
      refine lv_if_eq (tgt := 39) hx hb dX10_tellPlaced_27 (by decide) (fun h => absurd h (by decide)) (fun _ => ?_)
      refine lv_aload_n hx hb dX10_tellPlaced_30 rfl (lv_at hl 1 rfl) ?_
      refine lv_bipush (v := 99) hx hb dX10_tellPlaced_31 (by decide) ?_
      refine x_callVi (q := (RX10, TX10, 10)) (ci := 10) (q0 := 0) (wr := [wI (cy 1) h5 4 (fpa), wI (cy 1) h6 4 (fpb), wO h0 4 [.ref h1, .ref h2, .ref h3, .ref h4, .ref h5, .ref h6, .ref h7, .ref h8, .ref h9, .ref h10, .ref h11, hv0, hv1, hv2, hv3, hv4], wI (cy 1) h1 4 (fc2_11), (d1, .inl (cy 5, 4, .inr (.inr (.inr (.inr (eF d2 d3 d4 d5)))))), (d4, .inl (cy 2, 8, .inr (.inl (fd2_12))))]) (rest := []) ⟨hx, hb, hml, hown, hg, hl.1⟩ k_X10_131 (s_takeNumber l D cy adK adV d0 d1 uh wt dt vv fq pq ((.ref h0)) yf t0 t1 t2 tn ta2_34 ts2_35 tk2_36 tm2_37 tr2_38 fby fky (fin fby tn (fin fby tn (fin fby tn ga))) 99 (by omega) (by omega) (by omega) (a_49) (hky) (by omega)) EV_blind hK hP hD hS hA [6, 7, 8, 9] [0, 1, 2, 3, 4, 5] ⟨rfl, rfl, by decide +kernel, by decide +kernel, by decide +kernel⟩ rfl rfl (fun U hU hW => EV_pass hE hS (va_free hD hS hA [6, 7, 8, 9] rfl) hU hW) dX10_tellPlaced_33 rfl rfl (Nat.le_of_ble_eq_true rfl) ⟨Nat.le_of_ble_eq_true rfl, Nat.le_of_ble_eq_true rfl⟩ ⟨Nat.le_of_ble_eq_true rfl, Nat.le_of_ble_eq_true rfl⟩ (fun zr57 zu57 H locs hw57 hP9 hD9 hS9 => ?_)
      clear hP hD hS
      obtain ⟨ta2_58, ts2_59, tk2_60, tm2_61, tr2_62, fq2_63, pq2_64, vv2_65, co9_66, b9_67⟩ := zu57
      refine reW [wI (cy 1) h5 4 (fpa), wI (cy 1) h6 4 (fpb), wO h0 4 [.ref h1, .ref h2, .ref h3, .ref h4, .ref h5, .ref h6, .ref h7, .ref h8, .ref h9, .ref h10, .ref h11, hv0, hv1, hv2, hv3, hv4], wI (cy 1) h1 4 (fc2_11), (d1, .inl (cy 5, 4, .inr (.inr (.inr (.inr (eF d2 d3 d4 d5)))))), (d4, .inl (cy 2, 8, .inr (.inl (fd2_12)))), wO d0 10 [.ref t0, .ref d1, .ref h0, yf, .int uh, .int wt, .int dt, .int vv2_65, .int fq2_63, .int pq2_64], wO t0 9 [.ref t1, .ref t2, .int (nI tn), .int (nI ta2_58), .int (nI ts2_59), .int (nI tk2_60), .long tm2_61, .int tr2_62], wI (cy 0) t1 1600 (fby), (t2, .inl (cy 2, 24, .inr (.inl (fky))))] hP9 hD9 hS9 (fun hP hD hS => ?_)
      clear hP9 hD9 hS9
      refine W.widen (k := 0) (n := 0) (Nat.le_of_ble_eq_true rfl) (Nat.le_of_ble_eq_true rfl) ?_
      replace hw57 : (ta2_58 ≤ tn) ∧ (tk2_60 ≤ 123) ∧ ((zr57 = 1 ∧ (numS fby tn 99 (fin fby tn (fin fby tn (fin fby tn ga))) = .inr (num fby tn (fin fby tn (fin fby tn (fin fby tn ga))), fin fby tn (fin fby tn (fin fby tn (fin fby tn ga))))) ∧ (fq = fq2_63) ∧ (pq = pq2_64) ∧ (tkC fby tn (fin fby tn (fin fby tn (fin fby tn (fin fby tn ga)))) ta2_58 ts2_59 tk2_60 tm2_61 tr2_62) ∧ (nI (num fby tn (fin fby tn (fin fby tn (fin fby tn ga)))) = vv2_65) ∧ (num fby tn (fin fby tn (fin fby tn (fin fby tn ga))) ≤ 99)) ∨ (zr57 = 0 ∧ (numS fby tn 99 (fin fby tn (fin fby tn (fin fby tn ga))) = .inl (co9_66, b9_67)) ∧ (flt fby tn b9_67 co9_66 fq2_63 pq2_64))) := hw57
      obtain ⟨f_68, f_69, f_70⟩ := hw57
      rcases f_70 with ⟨hz_77, a_71, a_72, a_73, a_74, a_75, a_76⟩ | ⟨hz_80, a_78, a_79⟩
      · subst hz_77
        subst a_72
        subst a_73
        subst a_75
        have hgt_81 : fin fby tn (fin fby tn (fin fby tn ga)) ≤ fin fby tn (fin fby tn (fin fby tn (fin fby tn ga))) ∧ fin fby tn (fin fby tn (fin fby tn (fin fby tn ga))) ≤ tn := ⟨fin_ge _ _ _, fin_le (by omega)⟩
        refine lv_if_ne (tgt := 41) hx hb dX10_tellPlaced_36 (by decide) (fun _ => ?_) (fun h => absurd h (by decide))
        refine lv_aload_n hx hb dX10_tellPlaced_41 rfl (lv_at hl 3 rfl) ?_
        refine lv_iload hx hb dX10_tellPlaced_42 (lv_at hl 0 rfl) ?_
        refine lv_aload_n hx hb dX10_tellPlaced_44 rfl (lv_at hl 1 rfl) ?_
        refine va_get (D := D) (ci := 10) (v := .int (nI (num fby tn (fin fby tn (fin fby tn (fin fby tn ga)))))) (C := RX10) (T := TX10) (N := 10) hx hb hg i_X10 hown hK hP 6 rfl rfl 7 (by decide) (hg _ m_262) (fun _ h9 => h9) rfl dX10_tellPlaced_45 ?_
        refine va_iast hx hb hK hP hD hS 0 1 rfl rfl (vp_in_nI (by omega) (by decide)) dX10_tellPlaced_48 (fun H locs hP9 hD9 hS9 => ?_)
        clear hP hD hS
        obtain ⟨g_82, eg_82⟩ : ∃ y, upd fpa (nI c2 : Int32).toNatClampNeg (nI (num fby tn (fin fby tn (fin fby tn (fin fby tn ga))))) = y := ⟨_, rfl⟩
        rw [eg_82] at hP9 hD9
        refine reW [wI (cy 1) h5 4 (g_82), wI (cy 1) h6 4 (fpb), wO h0 4 [.ref h1, .ref h2, .ref h3, .ref h4, .ref h5, .ref h6, .ref h7, .ref h8, .ref h9, .ref h10, .ref h11, hv0, hv1, hv2, hv3, hv4], wI (cy 1) h1 4 (fc2_11), (d1, .inl (cy 5, 4, .inr (.inr (.inr (.inr (eF d2 d3 d4 d5)))))), (d4, .inl (cy 2, 8, .inr (.inl (fd2_12)))), wO d0 10 [.ref t0, .ref d1, .ref h0, yf, .int uh, .int wt, .int dt, .int (nI (num fby tn (fin fby tn (fin fby tn (fin fby tn ga))))), .int fq, .int pq], wO t0 9 [.ref t1, .ref t2, .int (nI tn), .int (nI ta2_58), .int (nI ts2_59), .int (nI tk2_60), .long tm2_61, .int tr2_62], wI (cy 0) t1 1600 (fby), (t2, .inl (cy 2, 24, .inr (.inl (fky))))] hP9 hD9 hS9 (fun hP hD hS => ?_)
        clear hP9 hD9 hS9
        refine lv_aload_n hx hb dX10_tellPlaced_49 rfl (lv_at hl 1 rfl) ?_
        refine lv_iload_n hx hb dX10_tellPlaced_50 rfl (lv_at hl 4 rfl) ?_
        refine lv_aload hx hb dX10_tellPlaced_51 (lv_at hl 5 rfl) ?_
        refine lv_iload hx hb dX10_tellPlaced_53 (lv_at hl 0 rfl) ?_
        refine x_callVi (q := (RX10, TX10, 10)) (ci := 10) (q0 := 0) (wr := [wI (cy 1) h5 4 (g_82), wO h0 4 [.ref h1, .ref h2, .ref h3, .ref h4, .ref h5, .ref h6, .ref h7, .ref h8, .ref h9, .ref h10, .ref h11, hv0, hv1, hv2, hv3, hv4], wI (cy 1) h1 4 (fc2_11), (d1, .inl (cy 5, 4, .inr (.inr (.inr (.inr (eF d2 d3 d4 d5)))))), (d4, .inl (cy 2, 8, .inr (.inl (fd2_12))))]) (rest := []) ⟨hx, hb, hml, hown, hg, hl.1⟩ k_X10_124 (s_takeOption4 l D cy adK adV d0 d1 uh wt dt (nI (num fby tn (fin fby tn (fin fby tn (fin fby tn ga))))) fq pq ((.ref h0)) yf t0 t1 t2 tn ta2_58 ts2_59 tk2_60 tm2_61 tr2_62 fby fky (fin fby tn (fin fby tn (fin fby tn (fin fby tn ga)))) h6 fpb 111 c2 (by omega) (by omega) (by omega) (a_74) (hky) (by omega) (by omega) (by omega)) EV_blind hK hP hD hS hA [6, 7, 8, 9, 1] [0, 2, 3, 4, 5] ⟨rfl, rfl, by decide +kernel, by decide +kernel, by decide +kernel⟩ rfl rfl (fun U hU hW => EV_pass hE hS (va_free hD hS hA [6, 7, 8, 9, 1] rfl) hU hW) dX10_tellPlaced_55 rfl rfl (Nat.le_of_ble_eq_true rfl) ⟨Nat.le_of_ble_eq_true rfl, Nat.le_of_ble_eq_true rfl⟩ ⟨Nat.le_of_ble_eq_true rfl, Nat.le_of_ble_eq_true rfl⟩ (fun zr83 zu83 H locs hw83 hP9 hD9 hS9 => ?_)
        clear hP hD hS
        obtain ⟨ta2_84, ts2_85, tk2_86, tm2_87, tr2_88, fq2_89, pq2_90, vv2_91, fam2_92, va2_93, ga2_94, co9_95, b9_96⟩ := zu83
        refine reW [wI (cy 1) h5 4 (g_82), wO h0 4 [.ref h1, .ref h2, .ref h3, .ref h4, .ref h5, .ref h6, .ref h7, .ref h8, .ref h9, .ref h10, .ref h11, hv0, hv1, hv2, hv3, hv4], wI (cy 1) h1 4 (fc2_11), (d1, .inl (cy 5, 4, .inr (.inr (.inr (.inr (eF d2 d3 d4 d5)))))), (d4, .inl (cy 2, 8, .inr (.inl (fd2_12)))), wO d0 10 [.ref t0, .ref d1, .ref h0, yf, .int uh, .int wt, .int dt, .int vv2_91, .int fq2_89, .int pq2_90], wO t0 9 [.ref t1, .ref t2, .int (nI tn), .int (nI ta2_84), .int (nI ts2_85), .int (nI tk2_86), .long tm2_87, .int tr2_88], wI (cy 0) t1 1600 (fby), (t2, .inl (cy 2, 24, .inr (.inl (fky)))), wI (cy 1) h6 4 (fam2_92)] hP9 hD9 hS9 (fun hP hD hS => ?_)
        clear hP9 hD9 hS9
        refine W.widen (k := 0) (n := 0) (Nat.le_of_ble_eq_true rfl) (Nat.le_of_ble_eq_true rfl) ?_
        replace hw83 : (ta2_84 ≤ tn) ∧ (tk2_86 ≤ 123) ∧ ((zr83 = 1 ∧ (optS fby tn 111 (fin fby tn (fin fby tn (fin fby tn (fin fby tn ga)))) = .inr (va2_93, ga2_94)) ∧ (fq = fq2_89) ∧ (pq = pq2_90) ∧ (tkC fby tn (ga2_94) ta2_84 ts2_85 tk2_86 tm2_87 tr2_88) ∧ (fam2_92 = upd fpb c2 (nI va2_93)) ∧ ((fin fby tn (fin fby tn (fin fby tn (fin fby tn ga)))) ≤ ga2_94 ∧ ga2_94 ≤ tn)) ∨ (zr83 = 0 ∧ (optS fby tn 111 (fin fby tn (fin fby tn (fin fby tn (fin fby tn ga)))) = .inl (co9_95, b9_96)) ∧ (flt fby tn b9_96 co9_95 fq2_89 pq2_90))) := hw83
        obtain ⟨f_97, f_98, f_99⟩ := hw83
        rcases f_99 with ⟨hz_106, a_100, a_101, a_102, a_103, a_104, a_105⟩ | ⟨hz_109, a_107, a_108⟩
        · subst hz_106
          subst a_101
          subst a_102
          refine lv_if_eq (tgt := 74) hx hb dX10_tellPlaced_58 (by decide) (fun h => absurd h (by decide)) (fun _ => ?_)
          refine lv_aload_n hx hb dX10_tellPlaced_61 rfl (lv_at hl 1 rfl) ?_
          refine lv_bipush (v := 59) hx hb dX10_tellPlaced_62 (by decide) ?_
          refine x_callVi (q := (RX10, TX10, 10)) (ci := 10) (q0 := 0) (wr := [wI (cy 1) h5 4 (g_82), wO h0 4 [.ref h1, .ref h2, .ref h3, .ref h4, .ref h5, .ref h6, .ref h7, .ref h8, .ref h9, .ref h10, .ref h11, hv0, hv1, hv2, hv3, hv4], wI (cy 1) h1 4 (fc2_11), (d1, .inl (cy 5, 4, .inr (.inr (.inr (.inr (eF d2 d3 d4 d5)))))), (d4, .inl (cy 2, 8, .inr (.inl (fd2_12)))), wI (cy 1) h6 4 (fam2_92)]) (rest := []) ⟨hx, hb, hml, hown, hg, hl.1⟩ k_X10_128 (s_take l D cy adK adV d0 d1 uh wt dt vv2_91 fq pq ((.ref h0)) yf t0 t1 t2 tn ta2_84 ts2_85 tk2_86 tm2_87 tr2_88 fby fky ga2_94 59 (by omega) (by omega) (by omega) (a_103) (hky) (by omega)) EV_blind hK hP hD hS hA [5, 6, 7, 8] [0, 1, 2, 3, 4, 9] ⟨rfl, rfl, by decide +kernel, by decide +kernel, by decide +kernel⟩ rfl rfl (fun U hU hW => EV_pass hE hS (va_free hD hS hA [5, 6, 7, 8] rfl) hU hW) dX10_tellPlaced_64 rfl rfl (Nat.le_of_ble_eq_true rfl) ⟨Nat.le_of_ble_eq_true rfl, Nat.le_of_ble_eq_true rfl⟩ ⟨Nat.le_of_ble_eq_true rfl, Nat.le_of_ble_eq_true rfl⟩ (fun zr110 zu110 H locs hw110 hP9 hD9 hS9 => ?_)
          clear hP hD hS
          obtain ⟨ta2_111, ts2_112, tk2_113, tm2_114, tr2_115, fq2_116, pq2_117, co9_118, b9_119⟩ := zu110
          refine reW [wI (cy 1) h5 4 (g_82), wO h0 4 [.ref h1, .ref h2, .ref h3, .ref h4, .ref h5, .ref h6, .ref h7, .ref h8, .ref h9, .ref h10, .ref h11, hv0, hv1, hv2, hv3, hv4], wI (cy 1) h1 4 (fc2_11), (d1, .inl (cy 5, 4, .inr (.inr (.inr (.inr (eF d2 d3 d4 d5)))))), (d4, .inl (cy 2, 8, .inr (.inl (fd2_12)))), wI (cy 1) h6 4 (fam2_92), wO d0 10 [.ref t0, .ref d1, .ref h0, yf, .int uh, .int wt, .int dt, .int vv2_91, .int fq2_116, .int pq2_117], wO t0 9 [.ref t1, .ref t2, .int (nI tn), .int (nI ta2_111), .int (nI ts2_112), .int (nI tk2_113), .long tm2_114, .int tr2_115], wI (cy 0) t1 1600 (fby), (t2, .inl (cy 2, 24, .inr (.inl (fky))))] hP9 hD9 hS9 (fun hP hD hS => ?_)
          clear hP9 hD9 hS9
          refine W.widen (k := 0) (n := 0) (Nat.le_of_ble_eq_true rfl) (Nat.le_of_ble_eq_true rfl) ?_
          replace hw110 : (ta2_111 ≤ tn) ∧ (tk2_113 ≤ 123) ∧ ((zr110 = 1 ∧ (takS fby tn 59 ga2_94 = .inr (fin fby tn ga2_94)) ∧ (fq = fq2_116) ∧ (pq = pq2_117) ∧ (tkC fby tn (fin fby tn ga2_94) ta2_111 ts2_112 tk2_113 tm2_114 tr2_115) ∧ (knd fby tn ga2_94 = 59)) ∨ (zr110 = 0 ∧ (takS fby tn 59 ga2_94 = .inl (co9_118, b9_119)) ∧ (flt fby tn b9_119 co9_118 fq2_116 pq2_117) ∧ (¬ knd fby tn ga2_94 = 59))) := hw110
          obtain ⟨f_120, f_121, f_122⟩ := hw110
          rcases f_122 with ⟨hz_128, a_123, a_124, a_125, a_126, a_127⟩ | ⟨hz_132, a_129, a_130, a_131⟩
          · subst hz_128
            subst a_124
            subst a_125
            have hgt_133 : ga2_94 < fin fby tn ga2_94 ∧ fin fby tn ga2_94 ≤ tn := ⟨fin_gt (by rw [a_127]; decide), fin_le (by omega)⟩
            refine lv_if_eq (tgt := 74) hx hb dX10_tellPlaced_67 (by decide) (fun h => absurd h (by decide)) (fun _ => ?_)
            refine lv_iconst (v := 1) hx hb dX10_tellPlaced_70 (by decide) ?_
            refine lv_goto (tgt := 75) hx hb dX10_tellPlaced_71 (by decide) ?_
            exact x_zret hQ hx hb hr hlocks hK hP hD hS rfl dX10_tellPlaced_75 (ta2_111, ts2_112, tk2_113, tm2_114, tr2_115, fq, pq, vv2_91, c2 + 1, fc2_11, fd2_12, g_82, fam2_92, num fby tn (fin fby tn (fin fby tn (fin fby tn ga))), va2_93, fin fby tn ga2_94, 0, 0) (⟨(show ta2_111 ≤ tn from by omega), (show tk2_113 ≤ 123 from by omega), f_17, (show (c2 + 1) ≤ 4 from by omega), (show ((1 : Int32) = 1 ∧ (plaS fby tn c2 np2 111 ga = .inr ((num fby tn (fin fby tn (fin fby tn (fin fby tn ga)))), va2_93, (fin fby tn ga2_94))) ∧ (fq = fq) ∧ (pq = pq) ∧ (tkC fby tn ((fin fby tn ga2_94)) ta2_111 ts2_112 tk2_113 tm2_114 tr2_115) ∧ (c2 + 1 = (c2 + 1)) ∧ (c2 < 4) ∧ (nmC fby tn (updN np2 c2 (fin fby tn ga)) (c2 + 1) fd2_12) ∧ (knd fby tn (fin fby tn ga) = 1) ∧ (g_82 = upd fpa c2 (nI (num fby tn (fin fby tn (fin fby tn (fin fby tn ga)))))) ∧ (fam2_92 = upd fpb c2 (nI va2_93)) ∧ (ga < (fin fby tn ga2_94) ∧ (fin fby tn ga2_94) ≤ tn)) ∨ ((1 : Int32) = 0 ∧ (plaS fby tn c2 np2 111 ga = .inl (0, 0)) ∧ (flt fby tn 0 0 fq pq)) from Or.inl ⟨rfl, ((bnd_r _ a_20).trans ((bnd_r _ a_46).trans ((bnd_r _ a_71).trans ((bnd_r _ a_100).trans (bnd_r _ a_123))))), (rfl), (rfl), (a_126), (rfl), (a_25), (a_26), (a_27), (upd_1 (by omega) eg_82), (a_104), (⟨by omega, by omega⟩)⟩)⟩) [6, 7, 8, 9, 1, 2, 0, 5, 3, 4] (by decide +kernel) rfl (Nat.le_of_ble_eq_true rfl) (Nat.le_of_ble_eq_true rfl)
          · subst hz_132
            refine lv_if_eq (tgt := 74) hx hb dX10_tellPlaced_67 (by decide) (fun _ => ?_) (fun h => absurd (by decide) h)
            refine lv_iconst (v := 0) hx hb dX10_tellPlaced_74 (by decide) ?_
            exact x_zret hQ hx hb hr hlocks hK hP hD hS rfl dX10_tellPlaced_75 (ta2_111, ts2_112, tk2_113, tm2_114, tr2_115, fq2_116, pq2_117, vv2_91, c2 + 1, fc2_11, fd2_12, g_82, fam2_92, 0, 0, 0, co9_118, b9_119) (⟨(show ta2_111 ≤ tn from by omega), (show tk2_113 ≤ 123 from by omega), f_17, (show (c2 + 1) ≤ 4 from by omega), (show ((0 : Int32) = 1 ∧ (plaS fby tn c2 np2 111 ga = .inr (0, 0, 0)) ∧ (fq = fq2_116) ∧ (pq = pq2_117) ∧ (tkC fby tn (0) ta2_111 ts2_112 tk2_113 tm2_114 tr2_115) ∧ (c2 + 1 = (c2 + 1)) ∧ (c2 < 4) ∧ (nmC fby tn (updN np2 c2 (fin fby tn ga)) (c2 + 1) fd2_12) ∧ (knd fby tn (fin fby tn ga) = 1) ∧ (g_82 = upd fpa c2 (nI 0)) ∧ (fam2_92 = upd fpb c2 (nI 0)) ∧ (ga < 0 ∧ 0 ≤ tn)) ∨ ((0 : Int32) = 0 ∧ (plaS fby tn c2 np2 111 ga = .inl (co9_118, b9_119)) ∧ (flt fby tn b9_119 co9_118 fq2_116 pq2_117)) from Or.inr (⟨rfl, ((bnd_r _ a_20).trans ((bnd_r _ a_46).trans ((bnd_r _ a_71).trans ((bnd_r _ a_100).trans (bnd_l _ a_129))))), (a_130)⟩))⟩) [6, 7, 8, 9, 1, 2, 0, 5, 3, 4] (by decide +kernel) rfl (Nat.le_of_ble_eq_true rfl) (Nat.le_of_ble_eq_true rfl)
        · subst hz_109
          refine lv_if_eq (tgt := 74) hx hb dX10_tellPlaced_58 (by decide) (fun _ => ?_) (fun h => absurd (by decide) h)
          refine lv_iconst (v := 0) hx hb dX10_tellPlaced_74 (by decide) ?_
          exact x_zret hQ hx hb hr hlocks hK hP hD hS rfl dX10_tellPlaced_75 (ta2_84, ts2_85, tk2_86, tm2_87, tr2_88, fq2_89, pq2_90, vv2_91, c2 + 1, fc2_11, fd2_12, g_82, fam2_92, 0, 0, 0, co9_95, b9_96) (⟨(show ta2_84 ≤ tn from by omega), (show tk2_86 ≤ 123 from by omega), f_17, (show (c2 + 1) ≤ 4 from by omega), (show ((0 : Int32) = 1 ∧ (plaS fby tn c2 np2 111 ga = .inr (0, 0, 0)) ∧ (fq = fq2_89) ∧ (pq = pq2_90) ∧ (tkC fby tn (0) ta2_84 ts2_85 tk2_86 tm2_87 tr2_88) ∧ (c2 + 1 = (c2 + 1)) ∧ (c2 < 4) ∧ (nmC fby tn (updN np2 c2 (fin fby tn ga)) (c2 + 1) fd2_12) ∧ (knd fby tn (fin fby tn ga) = 1) ∧ (g_82 = upd fpa c2 (nI 0)) ∧ (fam2_92 = upd fpb c2 (nI 0)) ∧ (ga < 0 ∧ 0 ≤ tn)) ∨ ((0 : Int32) = 0 ∧ (plaS fby tn c2 np2 111 ga = .inl (co9_95, b9_96)) ∧ (flt fby tn b9_96 co9_95 fq2_89 pq2_90)) from Or.inr (⟨rfl, ((bnd_r _ a_20).trans ((bnd_r _ a_46).trans ((bnd_r _ a_71).trans (bnd_l _ a_107)))), (a_108)⟩))⟩) [5, 6, 7, 8, 1, 2, 0, 9, 3, 4] (by decide +kernel) rfl (Nat.le_of_ble_eq_true rfl) (Nat.le_of_ble_eq_true rfl)
      · subst hz_80
        refine lv_if_ne (tgt := 41) hx hb dX10_tellPlaced_36 (by decide) (fun h => absurd (by decide) h) (fun _ => ?_)
        refine lv_iconst (v := 0) hx hb dX10_tellPlaced_39 (by decide) ?_
        exact x_zret hQ hx hb hr hlocks hK hP hD hS rfl dX10_tellPlaced_40 (ta2_58, ts2_59, tk2_60, tm2_61, tr2_62, fq2_63, pq2_64, vv2_65, c2 + 1, fc2_11, fd2_12, fpa, fpb, 0, 0, 0, co9_66, b9_67) (⟨(show ta2_58 ≤ tn from by omega), (show tk2_60 ≤ 123 from by omega), f_17, (show (c2 + 1) ≤ 4 from by omega), (show ((0 : Int32) = 1 ∧ (plaS fby tn c2 np2 111 ga = .inr (0, 0, 0)) ∧ (fq = fq2_63) ∧ (pq = pq2_64) ∧ (tkC fby tn (0) ta2_58 ts2_59 tk2_60 tm2_61 tr2_62) ∧ (c2 + 1 = (c2 + 1)) ∧ (c2 < 4) ∧ (nmC fby tn (updN np2 c2 (fin fby tn ga)) (c2 + 1) fd2_12) ∧ (knd fby tn (fin fby tn ga) = 1) ∧ (fpa = upd fpa c2 (nI 0)) ∧ (fpb = upd fpb c2 (nI 0)) ∧ (ga < 0 ∧ 0 ≤ tn)) ∨ ((0 : Int32) = 0 ∧ (plaS fby tn c2 np2 111 ga = .inl (co9_66, b9_67)) ∧ (flt fby tn b9_67 co9_66 fq2_63 pq2_64)) from Or.inr (⟨rfl, ((bnd_r _ a_20).trans ((bnd_r _ a_46).trans (bnd_l _ a_78))), (a_79)⟩))⟩) [6, 7, 8, 9, 2, 3, 0, 1, 4, 5] (by decide +kernel) rfl (Nat.le_of_ble_eq_true rfl) (Nat.le_of_ble_eq_true rfl)
    · subst hz_55
      refine lv_if_eq (tgt := 39) hx hb dX10_tellPlaced_27 (by decide) (fun _ => ?_) (fun h => absurd (by decide) h)
      refine lv_iconst (v := 0) hx hb dX10_tellPlaced_39 (by decide) ?_
      exact x_zret hQ hx hb hr hlocks hK hP hD hS rfl dX10_tellPlaced_40 (ta2_34, ts2_35, tk2_36, tm2_37, tr2_38, fq2_39, pq2_40, vv, c2 + 1, fc2_11, fd2_12, fpa, fpb, 0, 0, 0, co9_41, b9_42) (⟨(show ta2_34 ≤ tn from by omega), (show tk2_36 ≤ 123 from by omega), f_17, (show (c2 + 1) ≤ 4 from by omega), (show ((0 : Int32) = 1 ∧ (plaS fby tn c2 np2 111 ga = .inr (0, 0, 0)) ∧ (fq = fq2_39) ∧ (pq = pq2_40) ∧ (tkC fby tn (0) ta2_34 ts2_35 tk2_36 tm2_37 tr2_38) ∧ (c2 + 1 = (c2 + 1)) ∧ (c2 < 4) ∧ (nmC fby tn (updN np2 c2 (fin fby tn ga)) (c2 + 1) fd2_12) ∧ (knd fby tn (fin fby tn ga) = 1) ∧ (fpa = upd fpa c2 (nI 0)) ∧ (fpb = upd fpb c2 (nI 0)) ∧ (ga < 0 ∧ 0 ≤ tn)) ∨ ((0 : Int32) = 0 ∧ (plaS fby tn c2 np2 111 ga = .inl (co9_41, b9_42)) ∧ (flt fby tn b9_42 co9_41 fq2_39 pq2_40)) from Or.inr (⟨rfl, ((bnd_r _ a_20).trans (bnd_l _ a_52)), (a_53)⟩))⟩) [6, 7, 8, 9, 2, 3, 0, 1, 4, 5] (by decide +kernel) rfl (Nat.le_of_ble_eq_true rfl) (Nat.le_of_ble_eq_true rfl)
  · subst hz_31
    refine lv_if_eq (tgt := 39) hx hb dX10_tellPlaced_18 (by decide) (fun _ => ?_) (fun h => absurd (by decide) h)
    refine lv_iconst (v := 0) hx hb dX10_tellPlaced_39 (by decide) ?_
    exact x_zret hQ hx hb hr hlocks hK hP hD hS rfl dX10_tellPlaced_40 (ta2_3, ts2_4, tk2_5, tm2_6, tr2_7, fq2_8, pq2_9, vv, k2_10, fc2_11, fd2_12, fpa, fpb, 0, 0, 0, co9_13, b9_14) (⟨(show ta2_3 ≤ tn from by omega), (show tk2_5 ≤ 123 from by omega), f_17, (show k2_10 ≤ 4 from by omega), (show ((0 : Int32) = 1 ∧ (plaS fby tn c2 np2 111 ga = .inr (0, 0, 0)) ∧ (fq = fq2_8) ∧ (pq = pq2_9) ∧ (tkC fby tn (0) ta2_3 ts2_4 tk2_5 tm2_6 tr2_7) ∧ (c2 + 1 = k2_10) ∧ (c2 < 4) ∧ (nmC fby tn (updN np2 c2 (fin fby tn ga)) (c2 + 1) fd2_12) ∧ (knd fby tn (fin fby tn ga) = 1) ∧ (fpa = upd fpa c2 (nI 0)) ∧ (fpb = upd fpb c2 (nI 0)) ∧ (ga < 0 ∧ 0 ≤ tn)) ∨ ((0 : Int32) = 0 ∧ (plaS fby tn c2 np2 111 ga = .inl (co9_13, b9_14)) ∧ (flt fby tn b9_14 co9_13 fq2_8 pq2_9)) from Or.inr (⟨rfl, (bnd_l _ a_29), (a_30)⟩))⟩) [2, 3, 4, 5, 6, 7, 0, 1, 8, 9] (by decide +kernel) rfl (Nat.le_of_ble_eq_true rfl) (Nat.le_of_ble_eq_true rfl)
theorem gdX10_tellState_0 : decode cX10_tellState 0 = .ok (.aload_n 0, 1) ∧ decode cX10_tellState 1 = .ok (.getfield 24, 3) ∧ decode cX10_tellState 4 = .ok (.getfield 114, 3) ∧ decode cX10_tellState 7 = .ok (.iconst 3, 1) ∧ decode cX10_tellState 8 = .ok (.iaload, 1) ∧ decode cX10_tellState 9 = .ok (.istore_n 1, 1) ∧ decode cX10_tellState 10 = .ok (.aload_n 0, 1) ∧ decode cX10_tellState 11 = .ok (.iconst 3, 1) ∧ decode cX10_tellState 12 = .ok (.bipush 6, 2) ∧ decode cX10_tellState 14 = .ok (.invokevirtual 117, 3) ∧ decode cX10_tellState 17 = .ok (.ifCond .ne 5, 3) ∧ decode cX10_tellState 22 = .ok (.aload_n 0, 1) := by decide +kernel
theorem dX10_tellState_0 : decode cX10_tellState 0 = .ok (.aload_n 0, 1) := gdX10_tellState_0.1
theorem dX10_tellState_1 : decode cX10_tellState 1 = .ok (.getfield 24, 3) := gdX10_tellState_0.2.1
theorem dX10_tellState_4 : decode cX10_tellState 4 = .ok (.getfield 114, 3) := gdX10_tellState_0.2.2.1
theorem dX10_tellState_7 : decode cX10_tellState 7 = .ok (.iconst 3, 1) := gdX10_tellState_0.2.2.2.1
theorem dX10_tellState_8 : decode cX10_tellState 8 = .ok (.iaload, 1) := gdX10_tellState_0.2.2.2.2.1
theorem dX10_tellState_9 : decode cX10_tellState 9 = .ok (.istore_n 1, 1) := gdX10_tellState_0.2.2.2.2.2.1
theorem dX10_tellState_10 : decode cX10_tellState 10 = .ok (.aload_n 0, 1) := gdX10_tellState_0.2.2.2.2.2.2.1
theorem dX10_tellState_11 : decode cX10_tellState 11 = .ok (.iconst 3, 1) := gdX10_tellState_0.2.2.2.2.2.2.2.1
theorem dX10_tellState_12 : decode cX10_tellState 12 = .ok (.bipush 6, 2) := gdX10_tellState_0.2.2.2.2.2.2.2.2.1
theorem dX10_tellState_14 : decode cX10_tellState 14 = .ok (.invokevirtual 117, 3) := gdX10_tellState_0.2.2.2.2.2.2.2.2.2.1
theorem dX10_tellState_17 : decode cX10_tellState 17 = .ok (.ifCond .ne 5, 3) := gdX10_tellState_0.2.2.2.2.2.2.2.2.2.2.1
theorem dX10_tellState_22 : decode cX10_tellState 22 = .ok (.aload_n 0, 1) := gdX10_tellState_0.2.2.2.2.2.2.2.2.2.2.2
theorem gdX10_tellState_23 : decode cX10_tellState 23 = .ok (.getfield 16, 3) ∧ decode cX10_tellState 26 = .ok (.getfield 55, 3) ∧ decode cX10_tellState 29 = .ok (.bipush 112, 2) ∧ decode cX10_tellState 31 = .ok (.if_icmp .ne 25, 3) ∧ decode cX10_tellState 56 = .ok (.aload_n 0, 1) ∧ decode cX10_tellState 57 = .ok (.bipush 59, 2) ∧ decode cX10_tellState 59 = .ok (.invokevirtual 128, 3) ∧ decode cX10_tellState 62 = .ok (.ireturn, 1) ∧ decode cX10_tellState 34 = .ok (.aload_n 0, 1) ∧ decode cX10_tellState 35 = .ok (.getfield 24, 3) ∧ decode cX10_tellState 38 = .ok (.dup, 1) ∧ decode cX10_tellState 39 = .ok (.getfield 137, 3) := by decide +kernel
theorem dX10_tellState_23 : decode cX10_tellState 23 = .ok (.getfield 16, 3) := gdX10_tellState_23.1
theorem dX10_tellState_26 : decode cX10_tellState 26 = .ok (.getfield 55, 3) := gdX10_tellState_23.2.1
theorem dX10_tellState_29 : decode cX10_tellState 29 = .ok (.bipush 112, 2) := gdX10_tellState_23.2.2.1
theorem dX10_tellState_31 : decode cX10_tellState 31 = .ok (.if_icmp .ne 25, 3) := gdX10_tellState_23.2.2.2.1
theorem dX10_tellState_56 : decode cX10_tellState 56 = .ok (.aload_n 0, 1) := gdX10_tellState_23.2.2.2.2.1
theorem dX10_tellState_57 : decode cX10_tellState 57 = .ok (.bipush 59, 2) := gdX10_tellState_23.2.2.2.2.2.1
theorem dX10_tellState_59 : decode cX10_tellState 59 = .ok (.invokevirtual 128, 3) := gdX10_tellState_23.2.2.2.2.2.2.1
theorem dX10_tellState_62 : decode cX10_tellState 62 = .ok (.ireturn, 1) := gdX10_tellState_23.2.2.2.2.2.2.2.1
theorem dX10_tellState_34 : decode cX10_tellState 34 = .ok (.aload_n 0, 1) := gdX10_tellState_23.2.2.2.2.2.2.2.2.1
theorem dX10_tellState_35 : decode cX10_tellState 35 = .ok (.getfield 24, 3) := gdX10_tellState_23.2.2.2.2.2.2.2.2.2.1
theorem dX10_tellState_38 : decode cX10_tellState 38 = .ok (.dup, 1) := gdX10_tellState_23.2.2.2.2.2.2.2.2.2.2.1
theorem dX10_tellState_39 : decode cX10_tellState 39 = .ok (.getfield 137, 3) := gdX10_tellState_23.2.2.2.2.2.2.2.2.2.2.2
theorem gdX10_tellState_42 : decode cX10_tellState 42 = .ok (.iconst 1, 1) ∧ decode cX10_tellState 43 = .ok (.iload_n 1, 1) ∧ decode cX10_tellState 44 = .ok (.ishl, 1) ∧ decode cX10_tellState 45 = .ok (.ior, 1) ∧ decode cX10_tellState 46 = .ok (.putfield 137, 3) ∧ decode cX10_tellState 49 = .ok (.aload_n 0, 1) ∧ decode cX10_tellState 50 = .ok (.getfield 16, 3) ∧ decode cX10_tellState 53 = .ok (.invokevirtual 140, 3) ∧ decode cX10_tellState 20 = .ok (.iconst 0, 1) ∧ decode cX10_tellState 21 = .ok (.ireturn, 1) := by decide +kernel
theorem dX10_tellState_42 : decode cX10_tellState 42 = .ok (.iconst 1, 1) := gdX10_tellState_42.1
theorem dX10_tellState_43 : decode cX10_tellState 43 = .ok (.iload_n 1, 1) := gdX10_tellState_42.2.1
theorem dX10_tellState_44 : decode cX10_tellState 44 = .ok (.ishl, 1) := gdX10_tellState_42.2.2.1
theorem dX10_tellState_45 : decode cX10_tellState 45 = .ok (.ior, 1) := gdX10_tellState_42.2.2.2.1
theorem dX10_tellState_46 : decode cX10_tellState 46 = .ok (.putfield 137, 3) := gdX10_tellState_42.2.2.2.2.1
theorem dX10_tellState_49 : decode cX10_tellState 49 = .ok (.aload_n 0, 1) := gdX10_tellState_42.2.2.2.2.2.1
theorem dX10_tellState_50 : decode cX10_tellState 50 = .ok (.getfield 16, 3) := gdX10_tellState_42.2.2.2.2.2.2.1
theorem dX10_tellState_53 : decode cX10_tellState 53 = .ok (.invokevirtual 140, 3) := gdX10_tellState_42.2.2.2.2.2.2.2.1
theorem dX10_tellState_20 : decode cX10_tellState 20 = .ok (.iconst 0, 1) := gdX10_tellState_42.2.2.2.2.2.2.2.2.1
theorem dX10_tellState_21 : decode cX10_tellState 21 = .ok (.ireturn, 1) := gdX10_tellState_42.2.2.2.2.2.2.2.2.2
set_option maxHeartbeats 1000000 in
set_option maxRecDepth 100000 in
theorem s_tellState (l : Launch) (D : va_G) (cy : Nat → ClassId) (adK : Nat → Nat) (adV : Nat → Nat) (d0 : Nat) (d1 : Nat) (uh : Int32) (wt : Int32) (dt : Int32) (vv : Int32) (fq : Int32) (pq : Int32) (yf : Value) (t0 : Nat) (t1 : Nat) (t2 : Nat) (tn : Nat) (ta : Nat) (ts : Nat) (tk : Nat) (tm : Int64) (tr : Int32) (fby : Nat → Int32) (fky : Nat → Int64) (h0 : Nat) (h1 : Nat) (h2 : Nat) (h3 : Nat) (h4 : Nat) (h5 : Nat) (h6 : Nat) (h7 : Nat) (h8 : Nat) (h9 : Nat) (h10 : Nat) (h11 : Nat) (hv1 : Value) (hv2 : Value) (hv3 : Value) (hv4 : Value) (ys : Int32) (fc : Nat → Int32) (c0 : Nat) (c1 : Nat) (c2 : Nat) (c3 : Nat) (d2 : Nat) (d3 : Nat) (d4 : Nat) (d5 : Nat) (fd3 : Nat → Int64) (ga : Nat) (np3 : Nat → Nat) (hcn : cntOK fc c0 c1 c2 c3) (hc0 : c0 ≤ 8) (hc1 : c1 ≤ 4) (hc2 : c2 ≤ 4) (hc3 : c3 ≤ 6) (htn : tn ≤ 1600) (hta : ta ≤ tn) (htk : tk ≤ 123) (hti : tkC fby tn ga ta ts tk tm tr) (hky : kyOK fky) (hga : ga ≤ tn) (hnm3 : nmC fby tn np3 c3 fd3) : XMi l D (tyL cy) (EV adK adV) yX10_tellState cX10_tellState 2 (some .boolean) (rmk 8 0 0) [.ref d0] [wO d0 10 [.ref t0, .ref d1, .ref h0, yf, .int uh, .int wt, .int dt, .int vv, .int fq, .int pq], wO t0 9 [.ref t1, .ref t2, .int (nI tn), .int (nI ta), .int (nI ts), .int (nI tk), .long tm, .int tr], wI (cy 0) t1 1600 (fby), (t2, .inl (cy 2, 24, .inr (.inl (fky)))), wO h0 4 [.ref h1, .ref h2, .ref h3, .ref h4, .ref h5, .ref h6, .ref h7, .ref h8, .ref h9, .ref h10, .ref h11, .int ys, hv1, hv2, hv3, hv4], wI (cy 1) h1 4 (fc), (d1, .inl (cy 5, 4, .inr (.inr (.inr (.inr (eF d2 d3 d4 d5)))))), (d5, .inl (cy 2, 8, .inr (.inl (fd3))))] (fun (r : Int32) (u : Nat × Nat × Nat × Int64 × Int32 × Int32 × Int32 × Nat × (Nat → Int32) × (Nat → Int64) × Int32 × Nat × Nat × Nat × Nat) => (u.1 ≤ tn) ∧ (u.2.2.1 ≤ 123) ∧ (cntOK u.2.2.2.2.2.2.2.2.1 c0 c1 c2 u.2.2.2.2.2.2.2.1) ∧ (u.2.2.2.2.2.2.2.1 ≤ 6) ∧ ((r = 1 ∧ (staS fby tn c3 np3 ga = .inr (u.2.2.2.2.2.2.2.2.2.2.2.1, u.2.2.2.2.2.2.2.2.2.2.2.2.1)) ∧ (fq = u.2.2.2.2.2.1) ∧ (pq = u.2.2.2.2.2.2.1) ∧ (tkC fby tn (u.2.2.2.2.2.2.2.2.2.2.2.2.1) u.1 u.2.1 u.2.2.1 u.2.2.2.1 u.2.2.2.2.1) ∧ (c3 + 1 = u.2.2.2.2.2.2.2.1) ∧ (c3 < 6) ∧ (nmC fby tn (updN np3 c3 (fin fby tn ga)) (c3 + 1) u.2.2.2.2.2.2.2.2.2.1) ∧ (knd fby tn (fin fby tn ga) = 1) ∧ (ga < u.2.2.2.2.2.2.2.2.2.2.2.2.1 ∧ u.2.2.2.2.2.2.2.2.2.2.2.2.1 ≤ tn)) ∨ (r = 0 ∧ (staS fby tn c3 np3 ga = .inl (u.2.2.2.2.2.2.2.2.2.2.2.2.2.1, u.2.2.2.2.2.2.2.2.2.2.2.2.2.2)) ∧ (flt fby tn u.2.2.2.2.2.2.2.2.2.2.2.2.2.2 u.2.2.2.2.2.2.2.2.2.2.2.2.2.1 u.2.2.2.2.2.1 u.2.2.2.2.2.2.1)))) (fun (u : Nat × Nat × Nat × Int64 × Int32 × Int32 × Int32 × Nat × (Nat → Int32) × (Nat → Int64) × Int32 × Nat × Nat × Nat × Nat) => [wO d0 10 [.ref t0, .ref d1, .ref h0, yf, .int uh, .int wt, .int dt, .int vv, .int u.2.2.2.2.2.1, .int u.2.2.2.2.2.2.1], wO t0 9 [.ref t1, .ref t2, .int (nI tn), .int (nI u.1), .int (nI u.2.1), .int (nI u.2.2.1), .long u.2.2.2.1, .int u.2.2.2.2.1], wI (cy 0) t1 1600 (fby), (t2, .inl (cy 2, 24, .inr (.inl (fky)))), wO h0 4 [.ref h1, .ref h2, .ref h3, .ref h4, .ref h5, .ref h6, .ref h7, .ref h8, .ref h9, .ref h10, .ref h11, .int u.2.2.2.2.2.2.2.2.2.2.1, hv1, hv2, hv3, hv4], wI (cy 1) h1 4 (u.2.2.2.2.2.2.2.2.1), (d1, .inl (cy 5, 4, .inr (.inr (.inr (.inr (eF d2 d3 d4 d5)))))), (d5, .inl (cy 2, 8, .inr (.inl (u.2.2.2.2.2.2.2.2.2.1))))]) := by
  refine XMi.start (by decide) (Nat.le_of_ble_eq_true rfl) ?_
  intro p e s m below meth c args A ls Q hat hQ
  obtain ⟨hx, hb, hr, hml, hown, hg, hlocks, hin, hK, hA, hP, hD, hS, hE, hl⟩ := hat
  have hown : s.vm.findClass RX10 = some m.cls := hown
  have hl : lv_has ls 2 [(0, .ref d0)] := hl
  refine lv_aload_n hx hb dX10_tellState_0 rfl (lv_at hl 0 rfl) ?_
  refine va_get (D := D) (ci := 10) (v := .ref h0) (C := RX10) (T := TX10) (N := 10) hx hb hg i_X10 hown hK hP 0 rfl rfl 2 (by decide) (hg _ m_257) (fun _ h9 => h9) rfl dX10_tellState_1 ?_
  refine va_get (D := D) (ci := 4) (v := .ref h1) (C := RX4) (T := TX4) (N := 16) hx hb hg i_X4 hown hK hP 4 rfl rfl 0 (by decide) (hg _ m_336) (fun _ h9 => h9) rfl dX10_tellState_4 ?_
  refine lv_iconst (v := 3) hx hb dX10_tellState_7 (by decide) ?_
  refine va_iald hx hb hK hP 5 1 rfl rfl (by unfold vp_in; decide) dX10_tellState_8 ?_
  refine lv_topi (fun y_1 hy_1 => ?_)
  obtain rfl : y_1 = nI c3 := hy_1.trans hcn.2.2.2
  refine lv_istore_n (lv' := [(1, .int (nI c3)), (0, .ref d0)]) hx hb dX10_tellState_9 rfl hl (by decide) rfl (fun ls hl => ?_)
  refine lv_aload_n hx hb dX10_tellState_10 rfl (lv_at hl 1 rfl) ?_
  refine lv_iconst (v := 3) hx hb dX10_tellState_11 (by decide) ?_
  refine lv_bipush (v := 6) hx hb dX10_tellState_12 (by decide) ?_
  refine x_callVi (q := (RX10, TX10, 10)) (ci := 10) (q0 := 0) (wr := []) (rest := []) ⟨hx, hb, hml, hown, hg, hl.1⟩ k_X10_117 (s_takeNew3 l D cy adK adV d0 d1 uh wt dt vv fq pq yf t0 t1 t2 tn ta ts tk tm tr fby fky h0 h1 h2 h3 h4 h5 h6 h7 h8 h9 h10 h11 ((.int ys)) hv1 hv2 hv3 hv4 fc c0 c1 c2 c3 d2 d3 d4 d5 fd3 ga np3 (hcn) (by omega) (by omega) (by omega) (by omega) (by omega) (by omega) (by omega) (hti) (hky) (hnm3)) EV_blind hK hP hD hS hA [0, 1, 2, 3, 4, 5, 6, 7] [] ⟨rfl, rfl, by decide +kernel, by decide +kernel, by decide +kernel⟩ rfl rfl (fun U hU hW => EV_pass hE hS (va_free hD hS hA [0, 1, 2, 3, 4, 5, 6, 7] rfl) hU hW) dX10_tellState_14 rfl rfl (Nat.le_of_ble_eq_true rfl) ⟨Nat.le_of_ble_eq_true rfl, Nat.le_of_ble_eq_true rfl⟩ ⟨Nat.le_of_ble_eq_true rfl, Nat.le_of_ble_eq_true rfl⟩ (fun zr2 zu2 H locs hw2 hP9 hD9 hS9 => ?_)
  clear hP hD hS
  obtain ⟨ta2_3, ts2_4, tk2_5, tm2_6, tr2_7, fq2_8, pq2_9, k2_10, fc2_11, fd2_12, co9_13, b9_14⟩ := zu2
  refine reW [wO d0 10 [.ref t0, .ref d1, .ref h0, yf, .int uh, .int wt, .int dt, .int vv, .int fq2_8, .int pq2_9], wO t0 9 [.ref t1, .ref t2, .int (nI tn), .int (nI ta2_3), .int (nI ts2_4), .int (nI tk2_5), .long tm2_6, .int tr2_7], wI (cy 0) t1 1600 (fby), (t2, .inl (cy 2, 24, .inr (.inl (fky)))), wO h0 4 [.ref h1, .ref h2, .ref h3, .ref h4, .ref h5, .ref h6, .ref h7, .ref h8, .ref h9, .ref h10, .ref h11, .int ys, hv1, hv2, hv3, hv4], wI (cy 1) h1 4 (fc2_11), (d1, .inl (cy 5, 4, .inr (.inr (.inr (.inr (eF d2 d3 d4 d5)))))), (d5, .inl (cy 2, 8, .inr (.inl (fd2_12))))] hP9 hD9 hS9 (fun hP hD hS => ?_)
  clear hP9 hD9 hS9
  refine W.widen (k := 0) (n := 0) (Nat.le_of_ble_eq_true rfl) (Nat.le_of_ble_eq_true rfl) ?_
  replace hw2 : (ta2_3 ≤ tn) ∧ (tk2_5 ≤ 123) ∧ (cntOK fc2_11 c0 c1 c2 k2_10) ∧ (k2_10 ≤ 6) ∧ ((zr2 = 1 ∧ (newS fby tn 6 c3 np3 ga = .inr (fin fby tn (fin fby tn ga))) ∧ (fq = fq2_8) ∧ (pq = pq2_9) ∧ (tkC fby tn (fin fby tn (fin fby tn ga)) ta2_3 ts2_4 tk2_5 tm2_6 tr2_7) ∧ (c3 + 1 = k2_10) ∧ (c3 < 6) ∧ (nmC fby tn (updN np3 c3 (fin fby tn ga)) (c3 + 1) fd2_12) ∧ (knd fby tn (fin fby tn ga) = 1)) ∨ (zr2 = 0 ∧ (newS fby tn 6 c3 np3 ga = .inl (co9_13, b9_14)) ∧ (flt fby tn b9_14 co9_13 fq2_8 pq2_9))) := hw2
  obtain ⟨f_15, f_16, f_17, f_18, f_19⟩ := hw2
  rcases f_19 with ⟨hz_28, a_20, a_21, a_22, a_23, a_24, a_25, a_26, a_27⟩ | ⟨hz_31, a_29, a_30⟩
  · subst hz_28
    subst a_21
    subst a_22
    subst a_24
    have hgt_32 : ga < fin fby tn (fin fby tn ga) ∧ fin fby tn (fin fby tn ga) ≤ tn := ⟨Nat.lt_of_le_of_lt (fin_ge _ _ _) (fin_gt (by rw [a_27]; decide)), fin_le (fin_le (by omega))⟩
    refine lv_if_ne (tgt := 22) hx hb dX10_tellState_17 (by decide) (fun _ => ?_) (fun h => absurd h (by decide))
    refine lv_aload_n hx hb dX10_tellState_22 rfl (lv_at hl 1 rfl) ?_
    refine va_get (D := D) (ci := 10) (v := .ref t0) (C := RX10) (T := TX10) (N := 10) hx hb hg i_X10 hown hK hP 0 rfl rfl 0 (by decide) (hg _ m_255) (fun _ h9 => h9) rfl dX10_tellState_23 ?_
    refine va_get (D := D) (ci := 9) (v := .int (nI tk2_5)) (C := RX9) (T := TX9) (N := 8) hx hb hg i_X9 hown hK hP 1 rfl rfl 5 (by decide) (hg _ m_222) (fun _ h9 => h9) rfl dX10_tellState_26 ?_
    refine lv_bipush (v := 112) hx hb dX10_tellState_29 (by decide) ?_
    refine lv_icmp_ne (tgt := 56) hx hb dX10_tellState_31 (by decide) (fun c_33 => ?_) (fun c_33 => ?_)
    · have q_34 : ¬ tk2_5 = 112 := q_ne (a := tk2_5) (b := 112) rfl rfl (by omega) (by omega) c_33
      refine lv_aload_n hx hb dX10_tellState_56 rfl (lv_at hl 1 rfl) ?_
      refine lv_bipush (v := 59) hx hb dX10_tellState_57 (by decide) ?_
      refine x_callVi (q := (RX10, TX10, 10)) (ci := 10) (q0 := 0) (wr := [wO h0 4 [.ref h1, .ref h2, .ref h3, .ref h4, .ref h5, .ref h6, .ref h7, .ref h8, .ref h9, .ref h10, .ref h11, .int ys, hv1, hv2, hv3, hv4], wI (cy 1) h1 4 (fc2_11), (d1, .inl (cy 5, 4, .inr (.inr (.inr (.inr (eF d2 d3 d4 d5)))))), (d5, .inl (cy 2, 8, .inr (.inl (fd2_12))))]) (rest := []) ⟨hx, hb, hml, hown, hg, hl.1⟩ k_X10_128 (s_take l D cy adK adV d0 d1 uh wt dt vv fq pq ((.ref h0)) yf t0 t1 t2 tn ta2_3 ts2_4 tk2_5 tm2_6 tr2_7 fby fky (fin fby tn (fin fby tn ga)) 59 (by omega) (by omega) (by omega) (a_23) (hky) (by omega)) EV_blind hK hP hD hS hA [0, 1, 2, 3] [4, 5, 6, 7] ⟨rfl, rfl, by decide +kernel, by decide +kernel, by decide +kernel⟩ rfl rfl (fun U hU hW => EV_pass hE hS (va_free hD hS hA [0, 1, 2, 3] rfl) hU hW) dX10_tellState_59 rfl rfl (Nat.le_of_ble_eq_true rfl) ⟨Nat.le_of_ble_eq_true rfl, Nat.le_of_ble_eq_true rfl⟩ ⟨Nat.le_of_ble_eq_true rfl, Nat.le_of_ble_eq_true rfl⟩ (fun zr35 zu35 H locs hw35 hP9 hD9 hS9 => ?_)
      clear hP hD hS
      obtain ⟨ta2_36, ts2_37, tk2_38, tm2_39, tr2_40, fq2_41, pq2_42, co9_43, b9_44⟩ := zu35
      refine reW [wO h0 4 [.ref h1, .ref h2, .ref h3, .ref h4, .ref h5, .ref h6, .ref h7, .ref h8, .ref h9, .ref h10, .ref h11, .int ys, hv1, hv2, hv3, hv4], wI (cy 1) h1 4 (fc2_11), (d1, .inl (cy 5, 4, .inr (.inr (.inr (.inr (eF d2 d3 d4 d5)))))), (d5, .inl (cy 2, 8, .inr (.inl (fd2_12)))), wO d0 10 [.ref t0, .ref d1, .ref h0, yf, .int uh, .int wt, .int dt, .int vv, .int fq2_41, .int pq2_42], wO t0 9 [.ref t1, .ref t2, .int (nI tn), .int (nI ta2_36), .int (nI ts2_37), .int (nI tk2_38), .long tm2_39, .int tr2_40], wI (cy 0) t1 1600 (fby), (t2, .inl (cy 2, 24, .inr (.inl (fky))))] hP9 hD9 hS9 (fun hP hD hS => ?_)
      clear hP9 hD9 hS9
      refine W.widen (k := 0) (n := 0) (Nat.le_of_ble_eq_true rfl) (Nat.le_of_ble_eq_true rfl) ?_
      replace hw35 : (ta2_36 ≤ tn) ∧ (tk2_38 ≤ 123) ∧ ((zr35 = 1 ∧ (takS fby tn 59 (fin fby tn (fin fby tn ga)) = .inr (fin fby tn (fin fby tn (fin fby tn ga)))) ∧ (fq = fq2_41) ∧ (pq = pq2_42) ∧ (tkC fby tn (fin fby tn (fin fby tn (fin fby tn ga))) ta2_36 ts2_37 tk2_38 tm2_39 tr2_40) ∧ (knd fby tn (fin fby tn (fin fby tn ga)) = 59)) ∨ (zr35 = 0 ∧ (takS fby tn 59 (fin fby tn (fin fby tn ga)) = .inl (co9_43, b9_44)) ∧ (flt fby tn b9_44 co9_43 fq2_41 pq2_42) ∧ (¬ knd fby tn (fin fby tn (fin fby tn ga)) = 59))) := hw35
      obtain ⟨f_45, f_46, f_47⟩ := hw35
      rcases f_47 with ⟨hz_53, a_48, a_49, a_50, a_51, a_52⟩ | ⟨hz_57, a_54, a_55, a_56⟩
      · subst hz_53
        subst a_49
        subst a_50
        have hgt_58 : fin fby tn (fin fby tn ga) < fin fby tn (fin fby tn (fin fby tn ga)) ∧ fin fby tn (fin fby tn (fin fby tn ga)) ≤ tn := ⟨fin_gt (by rw [a_52]; decide), fin_le (by omega)⟩
        exact x_zret hQ hx hb hr hlocks hK hP hD hS rfl dX10_tellState_62 (ta2_36, ts2_37, tk2_38, tm2_39, tr2_40, fq, pq, c3 + 1, fc2_11, fd2_12, ys, 0, fin fby tn (fin fby tn (fin fby tn ga)), 0, 0) (⟨(show ta2_36 ≤ tn from by omega), (show tk2_38 ≤ 123 from by omega), f_17, (show (c3 + 1) ≤ 6 from by omega), (show ((1 : Int32) = 1 ∧ (staS fby tn c3 np3 ga = .inr (0, (fin fby tn (fin fby tn (fin fby tn ga))))) ∧ (fq = fq) ∧ (pq = pq) ∧ (tkC fby tn ((fin fby tn (fin fby tn (fin fby tn ga)))) ta2_36 ts2_37 tk2_38 tm2_39 tr2_40) ∧ (c3 + 1 = (c3 + 1)) ∧ (c3 < 6) ∧ (nmC fby tn (updN np3 c3 (fin fby tn ga)) (c3 + 1) fd2_12) ∧ (knd fby tn (fin fby tn ga) = 1) ∧ (ga < (fin fby tn (fin fby tn (fin fby tn ga))) ∧ (fin fby tn (fin fby tn (fin fby tn ga))) ≤ tn)) ∨ ((1 : Int32) = 0 ∧ (staS fby tn c3 np3 ga = .inl (0, 0)) ∧ (flt fby tn 0 0 fq pq)) from Or.inl ⟨rfl, ((bnd_r _ a_20).trans ((if_neg (by have h9 := a_23.2.2.1; omega)).trans (bnd_r _ a_48))), (rfl), (rfl), (a_51), (rfl), (a_25), (a_26), (a_27), (⟨by omega, by omega⟩)⟩)⟩) [4, 5, 6, 7, 0, 1, 2, 3] (by decide +kernel) rfl (Nat.le_of_ble_eq_true rfl) (Nat.le_of_ble_eq_true rfl)
      · subst hz_57
        exact x_zret hQ hx hb hr hlocks hK hP hD hS rfl dX10_tellState_62 (ta2_36, ts2_37, tk2_38, tm2_39, tr2_40, fq2_41, pq2_42, c3 + 1, fc2_11, fd2_12, ys, 0, 0, co9_43, b9_44) (⟨(show ta2_36 ≤ tn from by omega), (show tk2_38 ≤ 123 from by omega), f_17, (show (c3 + 1) ≤ 6 from by omega), (show ((0 : Int32) = 1 ∧ (staS fby tn c3 np3 ga = .inr (0, 0)) ∧ (fq = fq2_41) ∧ (pq = pq2_42) ∧ (tkC fby tn (0) ta2_36 ts2_37 tk2_38 tm2_39 tr2_40) ∧ (c3 + 1 = (c3 + 1)) ∧ (c3 < 6) ∧ (nmC fby tn (updN np3 c3 (fin fby tn ga)) (c3 + 1) fd2_12) ∧ (knd fby tn (fin fby tn ga) = 1) ∧ (ga < 0 ∧ 0 ≤ tn)) ∨ ((0 : Int32) = 0 ∧ (staS fby tn c3 np3 ga = .inl (co9_43, b9_44)) ∧ (flt fby tn b9_44 co9_43 fq2_41 pq2_42)) from Or.inr (⟨rfl, ((bnd_r _ a_20).trans ((if_neg (by have h9 := a_23.2.2.1; omega)).trans (bnd_l _ a_54))), (a_55)⟩))⟩) [4, 5, 6, 7, 0, 1, 2, 3] (by decide +kernel) rfl (Nat.le_of_ble_eq_true rfl) (Nat.le_of_ble_eq_true rfl)
    · have q_34 : tk2_5 = 112 := q_eq (a := tk2_5) (b := 112) rfl rfl (by omega) (by omega) c_33
      refine lv_aload_n hx hb dX10_tellState_34 rfl (lv_at hl 1 rfl) ?_
      refine va_get (D := D) (ci := 10) (v := .ref h0) (C := RX10) (T := TX10) (N := 10) hx hb hg i_X10 hown hK hP 0 rfl rfl 2 (by decide) (hg _ m_257) (fun _ h9 => h9) rfl dX10_tellState_35 ?_
      refine lv_dup hx hb dX10_tellState_38 rfl ?_
      refine va_get (D := D) (ci := 4) (v := .int ys) (C := RX4) (T := TX4) (N := 16) hx hb hg i_X4 hown hK hP 4 rfl rfl 11 (by decide) (hg _ m_369) (fun _ h9 => h9) rfl dX10_tellState_39 ?_
      refine lv_iconst (v := 1) hx hb dX10_tellState_42 (by decide) ?_
      refine lv_iload_n hx hb dX10_tellState_43 rfl (lv_at hl 0 rfl) ?_
      refine lv_ishl hx hb dX10_tellState_44 ?_
      refine lv_topi (fun x_59 ex_59 => ?_)
      refine lv_ior hx hb dX10_tellState_45 ?_
      refine lv_topi (fun x_60 ex_60 => ?_)
      refine va_put (D := D) (ci := 4) (v := .int x_60) (ty := .int) (C := RX4) (T := TX4) (N := 16) hx hb hg i_X4 tyX4 tyX4_ok nmX4 hown hK hP hD hS 4 rfl rfl 11 (by decide) (hg _ m_369) (fun _ h9 => h9) rfl (by decide +kernel) rfl rfl (Nat.le_of_ble_eq_true rfl) dX10_tellState_46 (fun H locs hP9 hD9 hS9 => ?_)
      clear hP hD hS
      refine reW [wO d0 10 [.ref t0, .ref d1, .ref h0, yf, .int uh, .int wt, .int dt, .int vv, .int fq, .int pq], wO t0 9 [.ref t1, .ref t2, .int (nI tn), .int (nI ta2_3), .int (nI ts2_4), .int (nI tk2_5), .long tm2_6, .int tr2_7], wI (cy 0) t1 1600 (fby), (t2, .inl (cy 2, 24, .inr (.inl (fky)))), wO h0 4 [.ref h1, .ref h2, .ref h3, .ref h4, .ref h5, .ref h6, .ref h7, .ref h8, .ref h9, .ref h10, .ref h11, .int x_60, hv1, hv2, hv3, hv4], wI (cy 1) h1 4 (fc2_11), (d1, .inl (cy 5, 4, .inr (.inr (.inr (.inr (eF d2 d3 d4 d5)))))), (d5, .inl (cy 2, 8, .inr (.inl (fd2_12))))] hP9 hD9 hS9 (fun hP hD hS => ?_)
      clear hP9 hD9 hS9
      refine lv_aload_n hx hb dX10_tellState_49 rfl (lv_at hl 1 rfl) ?_
      refine va_get (D := D) (ci := 10) (v := .ref t0) (C := RX10) (T := TX10) (N := 10) hx hb hg i_X10 hown hK hP 0 rfl rfl 0 (by decide) (hg _ m_255) (fun _ h9 => h9) rfl dX10_tellState_50 ?_
      refine x_callVv (q := (RX9, TX9, 8)) (ci := 9) (q0 := 0) (wr := [wO d0 10 [.ref t0, .ref d1, .ref h0, yf, .int uh, .int wt, .int dt, .int vv, .int fq, .int pq], wO h0 4 [.ref h1, .ref h2, .ref h3, .ref h4, .ref h5, .ref h6, .ref h7, .ref h8, .ref h9, .ref h10, .ref h11, .int x_60, hv1, hv2, hv3, hv4], wI (cy 1) h1 4 (fc2_11), (d1, .inl (cy 5, 4, .inr (.inr (.inr (.inr (eF d2 d3 d4 d5)))))), (d5, .inl (cy 2, 8, .inr (.inl (fd2_12))))]) (rest := []) ⟨hx, hb, hml, hown, hg, hl.1⟩ k_X10_140 (s_next l D cy adK adV t0 t1 t2 tn ta2_3 ts2_4 tk2_5 tm2_6 tr2_7 fby fky (fin fby tn (fin fby tn (fin fby tn ga))) (by omega) (by omega) (a_23.2.1) (hky)) EV_blind hK hP hD hS hA [1, 2, 3] [0, 4, 5, 6, 7] ⟨rfl, rfl, by decide +kernel, by decide +kernel, by decide +kernel⟩ rfl rfl (fun U hU hW => EV_pass hE hS (va_free hD hS hA [1, 2, 3] rfl) hU hW) dX10_tellState_53 rfl rfl (Nat.le_of_ble_eq_true rfl) ⟨Nat.le_of_ble_eq_true rfl, Nat.le_of_ble_eq_true rfl⟩ ⟨Nat.le_of_ble_eq_true rfl, Nat.le_of_ble_eq_true rfl⟩ (fun zu61 H locs hw61 hP9 hD9 hS9 => ?_)
      clear hP hD hS
      obtain ⟨ta2_62, ts2_63, tk2_64, tm2_65, tr2_66⟩ := zu61
      refine reW [wO d0 10 [.ref t0, .ref d1, .ref h0, yf, .int uh, .int wt, .int dt, .int vv, .int fq, .int pq], wO h0 4 [.ref h1, .ref h2, .ref h3, .ref h4, .ref h5, .ref h6, .ref h7, .ref h8, .ref h9, .ref h10, .ref h11, .int x_60, hv1, hv2, hv3, hv4], wI (cy 1) h1 4 (fc2_11), (d1, .inl (cy 5, 4, .inr (.inr (.inr (.inr (eF d2 d3 d4 d5)))))), (d5, .inl (cy 2, 8, .inr (.inl (fd2_12)))), wO t0 9 [.ref t1, .ref t2, .int (nI tn), .int (nI ta2_62), .int (nI ts2_63), .int (nI tk2_64), .long tm2_65, .int tr2_66], wI (cy 0) t1 1600 (fby), (t2, .inl (cy 2, 24, .inr (.inl (fky))))] hP9 hD9 hS9 (fun hP hD hS => ?_)
      clear hP9 hD9 hS9
      refine W.widen (k := 0) (n := 0) (Nat.le_of_ble_eq_true rfl) (Nat.le_of_ble_eq_true rfl) ?_
      replace hw61 : (ta2_62 ≤ tn) ∧ (tk2_64 ≤ 123) ∧ (tkC fby tn (fin fby tn (fin fby tn (fin fby tn ga))) ta2_62 ts2_63 tk2_64 tm2_65 tr2_66) := hw61
      obtain ⟨f_67, f_68, f_69⟩ := hw61
      have hgt_70 : fin fby tn (fin fby tn ga) ≤ fin fby tn (fin fby tn (fin fby tn ga)) ∧ fin fby tn (fin fby tn (fin fby tn ga)) ≤ tn := ⟨fin_ge _ _ _, fin_le (by omega)⟩
      refine lv_aload_n hx hb dX10_tellState_56 rfl (lv_at hl 1 rfl) ?_
      refine lv_bipush (v := 59) hx hb dX10_tellState_57 (by decide) ?_
      refine x_callVi (q := (RX10, TX10, 10)) (ci := 10) (q0 := 0) (wr := [wO h0 4 [.ref h1, .ref h2, .ref h3, .ref h4, .ref h5, .ref h6, .ref h7, .ref h8, .ref h9, .ref h10, .ref h11, .int x_60, hv1, hv2, hv3, hv4], wI (cy 1) h1 4 (fc2_11), (d1, .inl (cy 5, 4, .inr (.inr (.inr (.inr (eF d2 d3 d4 d5)))))), (d5, .inl (cy 2, 8, .inr (.inl (fd2_12))))]) (rest := []) ⟨hx, hb, hml, hown, hg, hl.1⟩ k_X10_128 (s_take l D cy adK adV d0 d1 uh wt dt vv fq pq ((.ref h0)) yf t0 t1 t2 tn ta2_62 ts2_63 tk2_64 tm2_65 tr2_66 fby fky (fin fby tn (fin fby tn (fin fby tn ga))) 59 (by omega) (by omega) (by omega) (f_69) (hky) (by omega)) EV_blind hK hP hD hS hA [0, 5, 6, 7] [1, 2, 3, 4] ⟨rfl, rfl, by decide +kernel, by decide +kernel, by decide +kernel⟩ rfl rfl (fun U hU hW => EV_pass hE hS (va_free hD hS hA [0, 5, 6, 7] rfl) hU hW) dX10_tellState_59 rfl rfl (Nat.le_of_ble_eq_true rfl) ⟨Nat.le_of_ble_eq_true rfl, Nat.le_of_ble_eq_true rfl⟩ ⟨Nat.le_of_ble_eq_true rfl, Nat.le_of_ble_eq_true rfl⟩ (fun zr71 zu71 H locs hw71 hP9 hD9 hS9 => ?_)
      clear hP hD hS
      obtain ⟨ta2_72, ts2_73, tk2_74, tm2_75, tr2_76, fq2_77, pq2_78, co9_79, b9_80⟩ := zu71
      refine reW [wO h0 4 [.ref h1, .ref h2, .ref h3, .ref h4, .ref h5, .ref h6, .ref h7, .ref h8, .ref h9, .ref h10, .ref h11, .int x_60, hv1, hv2, hv3, hv4], wI (cy 1) h1 4 (fc2_11), (d1, .inl (cy 5, 4, .inr (.inr (.inr (.inr (eF d2 d3 d4 d5)))))), (d5, .inl (cy 2, 8, .inr (.inl (fd2_12)))), wO d0 10 [.ref t0, .ref d1, .ref h0, yf, .int uh, .int wt, .int dt, .int vv, .int fq2_77, .int pq2_78], wO t0 9 [.ref t1, .ref t2, .int (nI tn), .int (nI ta2_72), .int (nI ts2_73), .int (nI tk2_74), .long tm2_75, .int tr2_76], wI (cy 0) t1 1600 (fby), (t2, .inl (cy 2, 24, .inr (.inl (fky))))] hP9 hD9 hS9 (fun hP hD hS => ?_)
      clear hP9 hD9 hS9
      refine W.widen (k := 0) (n := 0) (Nat.le_of_ble_eq_true rfl) (Nat.le_of_ble_eq_true rfl) ?_
      replace hw71 : (ta2_72 ≤ tn) ∧ (tk2_74 ≤ 123) ∧ ((zr71 = 1 ∧ (takS fby tn 59 (fin fby tn (fin fby tn (fin fby tn ga))) = .inr (fin fby tn (fin fby tn (fin fby tn (fin fby tn ga))))) ∧ (fq = fq2_77) ∧ (pq = pq2_78) ∧ (tkC fby tn (fin fby tn (fin fby tn (fin fby tn (fin fby tn ga)))) ta2_72 ts2_73 tk2_74 tm2_75 tr2_76) ∧ (knd fby tn (fin fby tn (fin fby tn (fin fby tn ga))) = 59)) ∨ (zr71 = 0 ∧ (takS fby tn 59 (fin fby tn (fin fby tn (fin fby tn ga))) = .inl (co9_79, b9_80)) ∧ (flt fby tn b9_80 co9_79 fq2_77 pq2_78) ∧ (¬ knd fby tn (fin fby tn (fin fby tn (fin fby tn ga))) = 59))) := hw71
      obtain ⟨f_81, f_82, f_83⟩ := hw71
      rcases f_83 with ⟨hz_89, a_84, a_85, a_86, a_87, a_88⟩ | ⟨hz_93, a_90, a_91, a_92⟩
      · subst hz_89
        subst a_85
        subst a_86
        have hgt_94 : fin fby tn (fin fby tn (fin fby tn ga)) < fin fby tn (fin fby tn (fin fby tn (fin fby tn ga))) ∧ fin fby tn (fin fby tn (fin fby tn (fin fby tn ga))) ≤ tn := ⟨fin_gt (by rw [a_88]; decide), fin_le (by omega)⟩
        exact x_zret hQ hx hb hr hlocks hK hP hD hS rfl dX10_tellState_62 (ta2_72, ts2_73, tk2_74, tm2_75, tr2_76, fq, pq, c3 + 1, fc2_11, fd2_12, x_60, 1, fin fby tn (fin fby tn (fin fby tn (fin fby tn ga))), 0, 0) (⟨(show ta2_72 ≤ tn from by omega), (show tk2_74 ≤ 123 from by omega), f_17, (show (c3 + 1) ≤ 6 from by omega), (show ((1 : Int32) = 1 ∧ (staS fby tn c3 np3 ga = .inr (1, (fin fby tn (fin fby tn (fin fby tn (fin fby tn ga)))))) ∧ (fq = fq) ∧ (pq = pq) ∧ (tkC fby tn ((fin fby tn (fin fby tn (fin fby tn (fin fby tn ga))))) ta2_72 ts2_73 tk2_74 tm2_75 tr2_76) ∧ (c3 + 1 = (c3 + 1)) ∧ (c3 < 6) ∧ (nmC fby tn (updN np3 c3 (fin fby tn ga)) (c3 + 1) fd2_12) ∧ (knd fby tn (fin fby tn ga) = 1) ∧ (ga < (fin fby tn (fin fby tn (fin fby tn (fin fby tn ga)))) ∧ (fin fby tn (fin fby tn (fin fby tn (fin fby tn ga)))) ≤ tn)) ∨ ((1 : Int32) = 0 ∧ (staS fby tn c3 np3 ga = .inl (0, 0)) ∧ (flt fby tn 0 0 fq pq)) from Or.inl ⟨rfl, ((bnd_r _ a_20).trans ((if_pos (by have h9 := a_23.2.2.1; omega)).trans (bnd_r _ a_84))), (rfl), (rfl), (a_87), (rfl), (a_25), (a_26), (a_27), (⟨by omega, by omega⟩)⟩)⟩) [4, 5, 6, 7, 0, 1, 2, 3] (by decide +kernel) rfl (Nat.le_of_ble_eq_true rfl) (Nat.le_of_ble_eq_true rfl)
      · subst hz_93
        exact x_zret hQ hx hb hr hlocks hK hP hD hS rfl dX10_tellState_62 (ta2_72, ts2_73, tk2_74, tm2_75, tr2_76, fq2_77, pq2_78, c3 + 1, fc2_11, fd2_12, x_60, 0, 0, co9_79, b9_80) (⟨(show ta2_72 ≤ tn from by omega), (show tk2_74 ≤ 123 from by omega), f_17, (show (c3 + 1) ≤ 6 from by omega), (show ((0 : Int32) = 1 ∧ (staS fby tn c3 np3 ga = .inr (0, 0)) ∧ (fq = fq2_77) ∧ (pq = pq2_78) ∧ (tkC fby tn (0) ta2_72 ts2_73 tk2_74 tm2_75 tr2_76) ∧ (c3 + 1 = (c3 + 1)) ∧ (c3 < 6) ∧ (nmC fby tn (updN np3 c3 (fin fby tn ga)) (c3 + 1) fd2_12) ∧ (knd fby tn (fin fby tn ga) = 1) ∧ (ga < 0 ∧ 0 ≤ tn)) ∨ ((0 : Int32) = 0 ∧ (staS fby tn c3 np3 ga = .inl (co9_79, b9_80)) ∧ (flt fby tn b9_80 co9_79 fq2_77 pq2_78)) from Or.inr (⟨rfl, ((bnd_r _ a_20).trans ((if_pos (by have h9 := a_23.2.2.1; omega)).trans (bnd_l _ a_90))), (a_91)⟩))⟩) [4, 5, 6, 7, 0, 1, 2, 3] (by decide +kernel) rfl (Nat.le_of_ble_eq_true rfl) (Nat.le_of_ble_eq_true rfl)
  · subst hz_31
    refine lv_if_ne (tgt := 22) hx hb dX10_tellState_17 (by decide) (fun h => absurd (by decide) h) (fun _ => ?_)
    refine lv_iconst (v := 0) hx hb dX10_tellState_20 (by decide) ?_
    exact x_zret hQ hx hb hr hlocks hK hP hD hS rfl dX10_tellState_21 (ta2_3, ts2_4, tk2_5, tm2_6, tr2_7, fq2_8, pq2_9, k2_10, fc2_11, fd2_12, ys, 0, 0, co9_13, b9_14) (⟨(show ta2_3 ≤ tn from by omega), (show tk2_5 ≤ 123 from by omega), f_17, (show k2_10 ≤ 6 from by omega), (show ((0 : Int32) = 1 ∧ (staS fby tn c3 np3 ga = .inr (0, 0)) ∧ (fq = fq2_8) ∧ (pq = pq2_9) ∧ (tkC fby tn (0) ta2_3 ts2_4 tk2_5 tm2_6 tr2_7) ∧ (c3 + 1 = k2_10) ∧ (c3 < 6) ∧ (nmC fby tn (updN np3 c3 (fin fby tn ga)) (c3 + 1) fd2_12) ∧ (knd fby tn (fin fby tn ga) = 1) ∧ (ga < 0 ∧ 0 ≤ tn)) ∨ ((0 : Int32) = 0 ∧ (staS fby tn c3 np3 ga = .inl (co9_13, b9_14)) ∧ (flt fby tn b9_14 co9_13 fq2_8 pq2_9)) from Or.inr (⟨rfl, (bnd_l _ a_29), (a_30)⟩))⟩) [0, 1, 2, 3, 4, 5, 6, 7] (by decide +kernel) rfl (Nat.le_of_ble_eq_true rfl) (Nat.le_of_ble_eq_true rfl)
theorem gdX10_tellOn_0 : decode cX10_tellOn 0 = .ok (.aload_n 0, 1) ∧ decode cX10_tellOn 1 = .ok (.getfield 24, 3) ∧ decode cX10_tellOn 4 = .ok (.getfield 143, 3) ∧ decode cX10_tellOn 7 = .ok (.bipush 30, 2) ∧ decode cX10_tellOn 9 = .ok (.if_icmp .lt 9, 3) ∧ decode cX10_tellOn 18 = .ok (.aload_n 0, 1) ∧ decode cX10_tellOn 19 = .ok (.getfield 16, 3) ∧ decode cX10_tellOn 22 = .ok (.invokevirtual 140, 3) ∧ decode cX10_tellOn 25 = .ok (.aload_n 0, 1) ∧ decode cX10_tellOn 26 = .ok (.iconst 3, 1) ∧ decode cX10_tellOn 27 = .ok (.invokevirtual 146, 3) := by decide +kernel
theorem dX10_tellOn_0 : decode cX10_tellOn 0 = .ok (.aload_n 0, 1) := gdX10_tellOn_0.1
theorem dX10_tellOn_1 : decode cX10_tellOn 1 = .ok (.getfield 24, 3) := gdX10_tellOn_0.2.1
theorem dX10_tellOn_4 : decode cX10_tellOn 4 = .ok (.getfield 143, 3) := gdX10_tellOn_0.2.2.1
theorem dX10_tellOn_7 : decode cX10_tellOn 7 = .ok (.bipush 30, 2) := gdX10_tellOn_0.2.2.2.1
theorem dX10_tellOn_9 : decode cX10_tellOn 9 = .ok (.if_icmp .lt 9, 3) := gdX10_tellOn_0.2.2.2.2.1
theorem dX10_tellOn_18 : decode cX10_tellOn 18 = .ok (.aload_n 0, 1) := gdX10_tellOn_0.2.2.2.2.2.1
theorem dX10_tellOn_19 : decode cX10_tellOn 19 = .ok (.getfield 16, 3) := gdX10_tellOn_0.2.2.2.2.2.2.1
theorem dX10_tellOn_22 : decode cX10_tellOn 22 = .ok (.invokevirtual 140, 3) := gdX10_tellOn_0.2.2.2.2.2.2.2.1
theorem dX10_tellOn_25 : decode cX10_tellOn 25 = .ok (.aload_n 0, 1) := gdX10_tellOn_0.2.2.2.2.2.2.2.2.1
theorem dX10_tellOn_26 : decode cX10_tellOn 26 = .ok (.iconst 3, 1) := gdX10_tellOn_0.2.2.2.2.2.2.2.2.2.1
theorem dX10_tellOn_27 : decode cX10_tellOn 27 = .ok (.invokevirtual 146, 3) := gdX10_tellOn_0.2.2.2.2.2.2.2.2.2.2
theorem k_X10_146 : xV RX10 RX10 146 yX10_known cX10_known 3 (some .int) 1 := ⟨⟨m_855, m_857, m_16, m_136, m_858⟩, rfl, by decide, by decide, by decide +kernel⟩
theorem gdX10_tellOn_30 : decode cX10_tellOn 30 = .ok (.istore_n 1, 1) ∧ decode cX10_tellOn 31 = .ok (.iload_n 1, 1) ∧ decode cX10_tellOn 32 = .ok (.iconst (-1), 1) ∧ decode cX10_tellOn 33 = .ok (.if_icmp .ne 5, 3) ∧ decode cX10_tellOn 38 = .ok (.aload_n 0, 1) ∧ decode cX10_tellOn 39 = .ok (.getfield 16, 3) ∧ decode cX10_tellOn 42 = .ok (.invokevirtual 140, 3) ∧ decode cX10_tellOn 45 = .ok (.aload_n 0, 1) ∧ decode cX10_tellOn 46 = .ok (.iconst 0, 1) ∧ decode cX10_tellOn 47 = .ok (.invokevirtual 146, 3) ∧ decode cX10_tellOn 50 = .ok (.istore_n 2, 1) ∧ decode cX10_tellOn 51 = .ok (.iload_n 2, 1) := by decide +kernel
theorem dX10_tellOn_30 : decode cX10_tellOn 30 = .ok (.istore_n 1, 1) := gdX10_tellOn_30.1
theorem dX10_tellOn_31 : decode cX10_tellOn 31 = .ok (.iload_n 1, 1) := gdX10_tellOn_30.2.1
theorem dX10_tellOn_32 : decode cX10_tellOn 32 = .ok (.iconst (-1), 1) := gdX10_tellOn_30.2.2.1
theorem dX10_tellOn_33 : decode cX10_tellOn 33 = .ok (.if_icmp .ne 5, 3) := gdX10_tellOn_30.2.2.2.1
theorem dX10_tellOn_38 : decode cX10_tellOn 38 = .ok (.aload_n 0, 1) := gdX10_tellOn_30.2.2.2.2.1
theorem dX10_tellOn_39 : decode cX10_tellOn 39 = .ok (.getfield 16, 3) := gdX10_tellOn_30.2.2.2.2.2.1
theorem dX10_tellOn_42 : decode cX10_tellOn 42 = .ok (.invokevirtual 140, 3) := gdX10_tellOn_30.2.2.2.2.2.2.1
theorem dX10_tellOn_45 : decode cX10_tellOn 45 = .ok (.aload_n 0, 1) := gdX10_tellOn_30.2.2.2.2.2.2.2.1
theorem dX10_tellOn_46 : decode cX10_tellOn 46 = .ok (.iconst 0, 1) := gdX10_tellOn_30.2.2.2.2.2.2.2.2.1
theorem dX10_tellOn_47 : decode cX10_tellOn 47 = .ok (.invokevirtual 146, 3) := gdX10_tellOn_30.2.2.2.2.2.2.2.2.2.1
theorem dX10_tellOn_50 : decode cX10_tellOn 50 = .ok (.istore_n 2, 1) := gdX10_tellOn_30.2.2.2.2.2.2.2.2.2.2.1
theorem dX10_tellOn_51 : decode cX10_tellOn 51 = .ok (.iload_n 2, 1) := gdX10_tellOn_30.2.2.2.2.2.2.2.2.2.2.2
theorem gdX10_tellOn_52 : decode cX10_tellOn 52 = .ok (.iconst (-1), 1) ∧ decode cX10_tellOn 53 = .ok (.if_icmp .ne 5, 3) ∧ decode cX10_tellOn 58 = .ok (.iload_n 1, 1) ∧ decode cX10_tellOn 59 = .ok (.bipush 8, 2) ∧ decode cX10_tellOn 61 = .ok (.imul, 1) ∧ decode cX10_tellOn 62 = .ok (.iload_n 2, 1) ∧ decode cX10_tellOn 63 = .ok (.iadd, 1) ∧ decode cX10_tellOn 64 = .ok (.istore_n 3, 1) ∧ decode cX10_tellOn 65 = .ok (.aload_n 0, 1) ∧ decode cX10_tellOn 66 = .ok (.getfield 24, 3) ∧ decode cX10_tellOn 69 = .ok (.getfield 150, 3) ∧ decode cX10_tellOn 72 = .ok (.iload_n 3, 1) := by decide +kernel
theorem dX10_tellOn_52 : decode cX10_tellOn 52 = .ok (.iconst (-1), 1) := gdX10_tellOn_52.1
theorem dX10_tellOn_53 : decode cX10_tellOn 53 = .ok (.if_icmp .ne 5, 3) := gdX10_tellOn_52.2.1
theorem dX10_tellOn_58 : decode cX10_tellOn 58 = .ok (.iload_n 1, 1) := gdX10_tellOn_52.2.2.1
theorem dX10_tellOn_59 : decode cX10_tellOn 59 = .ok (.bipush 8, 2) := gdX10_tellOn_52.2.2.2.1
theorem dX10_tellOn_61 : decode cX10_tellOn 61 = .ok (.imul, 1) := gdX10_tellOn_52.2.2.2.2.1
theorem dX10_tellOn_62 : decode cX10_tellOn 62 = .ok (.iload_n 2, 1) := gdX10_tellOn_52.2.2.2.2.2.1
theorem dX10_tellOn_63 : decode cX10_tellOn 63 = .ok (.iadd, 1) := gdX10_tellOn_52.2.2.2.2.2.2.1
theorem dX10_tellOn_64 : decode cX10_tellOn 64 = .ok (.istore_n 3, 1) := gdX10_tellOn_52.2.2.2.2.2.2.2.1
theorem dX10_tellOn_65 : decode cX10_tellOn 65 = .ok (.aload_n 0, 1) := gdX10_tellOn_52.2.2.2.2.2.2.2.2.1
theorem dX10_tellOn_66 : decode cX10_tellOn 66 = .ok (.getfield 24, 3) := gdX10_tellOn_52.2.2.2.2.2.2.2.2.2.1
theorem dX10_tellOn_69 : decode cX10_tellOn 69 = .ok (.getfield 150, 3) := gdX10_tellOn_52.2.2.2.2.2.2.2.2.2.2.1
theorem dX10_tellOn_72 : decode cX10_tellOn 72 = .ok (.iload_n 3, 1) := gdX10_tellOn_52.2.2.2.2.2.2.2.2.2.2.2
theorem gdX10_tellOn_73 : decode cX10_tellOn 73 = .ok (.iaload, 1) ∧ decode cX10_tellOn 74 = .ok (.iconst (-1), 1) ∧ decode cX10_tellOn 75 = .ok (.if_icmp .eq 9, 3) ∧ decode cX10_tellOn 84 = .ok (.aload_n 0, 1) ∧ decode cX10_tellOn 85 = .ok (.getfield 16, 3) ∧ decode cX10_tellOn 88 = .ok (.invokevirtual 140, 3) ∧ decode cX10_tellOn 91 = .ok (.aload_n 0, 1) ∧ decode cX10_tellOn 92 = .ok (.bipush 113, 2) ∧ decode cX10_tellOn 94 = .ok (.invokevirtual 128, 3) ∧ decode cX10_tellOn 97 = .ok (.ifCond .ne 5, 3) ∧ decode cX10_tellOn 102 = .ok (.aload_n 0, 1) ∧ decode cX10_tellOn 103 = .ok (.iconst 3, 1) := by decide +kernel
theorem dX10_tellOn_73 : decode cX10_tellOn 73 = .ok (.iaload, 1) := gdX10_tellOn_73.1
theorem dX10_tellOn_74 : decode cX10_tellOn 74 = .ok (.iconst (-1), 1) := gdX10_tellOn_73.2.1
theorem dX10_tellOn_75 : decode cX10_tellOn 75 = .ok (.if_icmp .eq 9, 3) := gdX10_tellOn_73.2.2.1
theorem dX10_tellOn_84 : decode cX10_tellOn 84 = .ok (.aload_n 0, 1) := gdX10_tellOn_73.2.2.2.1
theorem dX10_tellOn_85 : decode cX10_tellOn 85 = .ok (.getfield 16, 3) := gdX10_tellOn_73.2.2.2.2.1
theorem dX10_tellOn_88 : decode cX10_tellOn 88 = .ok (.invokevirtual 140, 3) := gdX10_tellOn_73.2.2.2.2.2.1
theorem dX10_tellOn_91 : decode cX10_tellOn 91 = .ok (.aload_n 0, 1) := gdX10_tellOn_73.2.2.2.2.2.2.1
theorem dX10_tellOn_92 : decode cX10_tellOn 92 = .ok (.bipush 113, 2) := gdX10_tellOn_73.2.2.2.2.2.2.2.1
theorem dX10_tellOn_94 : decode cX10_tellOn 94 = .ok (.invokevirtual 128, 3) := gdX10_tellOn_73.2.2.2.2.2.2.2.2.1
theorem dX10_tellOn_97 : decode cX10_tellOn 97 = .ok (.ifCond .ne 5, 3) := gdX10_tellOn_73.2.2.2.2.2.2.2.2.2.1
theorem dX10_tellOn_102 : decode cX10_tellOn 102 = .ok (.aload_n 0, 1) := gdX10_tellOn_73.2.2.2.2.2.2.2.2.2.2.1
theorem dX10_tellOn_103 : decode cX10_tellOn 103 = .ok (.iconst 3, 1) := gdX10_tellOn_73.2.2.2.2.2.2.2.2.2.2.2
theorem gdX10_tellOn_104 : decode cX10_tellOn 104 = .ok (.invokevirtual 146, 3) ∧ decode cX10_tellOn 107 = .ok (.istore 4, 2) ∧ decode cX10_tellOn 109 = .ok (.iload 4, 2) ∧ decode cX10_tellOn 111 = .ok (.iconst (-1), 1) ∧ decode cX10_tellOn 112 = .ok (.if_icmp .ne 5, 3) ∧ decode cX10_tellOn 117 = .ok (.aload_n 0, 1) ∧ decode cX10_tellOn 118 = .ok (.getfield 24, 3) ∧ decode cX10_tellOn 121 = .ok (.getfield 150, 3) ∧ decode cX10_tellOn 124 = .ok (.iload_n 3, 1) ∧ decode cX10_tellOn 125 = .ok (.iload 4, 2) ∧ decode cX10_tellOn 127 = .ok (.iastore, 1) ∧ decode cX10_tellOn 128 = .ok (.aload_n 0, 1) := by decide +kernel
theorem dX10_tellOn_104 : decode cX10_tellOn 104 = .ok (.invokevirtual 146, 3) := gdX10_tellOn_104.1
theorem dX10_tellOn_107 : decode cX10_tellOn 107 = .ok (.istore 4, 2) := gdX10_tellOn_104.2.1
theorem dX10_tellOn_109 : decode cX10_tellOn 109 = .ok (.iload 4, 2) := gdX10_tellOn_104.2.2.1
theorem dX10_tellOn_111 : decode cX10_tellOn 111 = .ok (.iconst (-1), 1) := gdX10_tellOn_104.2.2.2.1
theorem dX10_tellOn_112 : decode cX10_tellOn 112 = .ok (.if_icmp .ne 5, 3) := gdX10_tellOn_104.2.2.2.2.1
theorem dX10_tellOn_117 : decode cX10_tellOn 117 = .ok (.aload_n 0, 1) := gdX10_tellOn_104.2.2.2.2.2.1
theorem dX10_tellOn_118 : decode cX10_tellOn 118 = .ok (.getfield 24, 3) := gdX10_tellOn_104.2.2.2.2.2.2.1
theorem dX10_tellOn_121 : decode cX10_tellOn 121 = .ok (.getfield 150, 3) := gdX10_tellOn_104.2.2.2.2.2.2.2.1
theorem dX10_tellOn_124 : decode cX10_tellOn 124 = .ok (.iload_n 3, 1) := gdX10_tellOn_104.2.2.2.2.2.2.2.2.1
theorem dX10_tellOn_125 : decode cX10_tellOn 125 = .ok (.iload 4, 2) := gdX10_tellOn_104.2.2.2.2.2.2.2.2.2.1
theorem dX10_tellOn_127 : decode cX10_tellOn 127 = .ok (.iastore, 1) := gdX10_tellOn_104.2.2.2.2.2.2.2.2.2.2.1
theorem dX10_tellOn_128 : decode cX10_tellOn 128 = .ok (.aload_n 0, 1) := gdX10_tellOn_104.2.2.2.2.2.2.2.2.2.2.2
theorem gdX10_tellOn_129 : decode cX10_tellOn 129 = .ok (.getfield 24, 3) ∧ decode cX10_tellOn 132 = .ok (.dup, 1) ∧ decode cX10_tellOn 133 = .ok (.getfield 143, 3) ∧ decode cX10_tellOn 136 = .ok (.iconst 1, 1) ∧ decode cX10_tellOn 137 = .ok (.iadd, 1) ∧ decode cX10_tellOn 138 = .ok (.putfield 143, 3) ∧ decode cX10_tellOn 141 = .ok (.aload_n 0, 1) ∧ decode cX10_tellOn 142 = .ok (.getfield 16, 3) ∧ decode cX10_tellOn 145 = .ok (.invokevirtual 140, 3) ∧ decode cX10_tellOn 148 = .ok (.aload_n 0, 1) ∧ decode cX10_tellOn 149 = .ok (.bipush 59, 2) ∧ decode cX10_tellOn 151 = .ok (.invokevirtual 128, 3) := by decide +kernel
theorem dX10_tellOn_129 : decode cX10_tellOn 129 = .ok (.getfield 24, 3) := gdX10_tellOn_129.1
theorem dX10_tellOn_132 : decode cX10_tellOn 132 = .ok (.dup, 1) := gdX10_tellOn_129.2.1
theorem dX10_tellOn_133 : decode cX10_tellOn 133 = .ok (.getfield 143, 3) := gdX10_tellOn_129.2.2.1
theorem dX10_tellOn_136 : decode cX10_tellOn 136 = .ok (.iconst 1, 1) := gdX10_tellOn_129.2.2.2.1
theorem dX10_tellOn_137 : decode cX10_tellOn 137 = .ok (.iadd, 1) := gdX10_tellOn_129.2.2.2.2.1
theorem dX10_tellOn_138 : decode cX10_tellOn 138 = .ok (.putfield 143, 3) := gdX10_tellOn_129.2.2.2.2.2.1
theorem dX10_tellOn_141 : decode cX10_tellOn 141 = .ok (.aload_n 0, 1) := gdX10_tellOn_129.2.2.2.2.2.2.1
theorem dX10_tellOn_142 : decode cX10_tellOn 142 = .ok (.getfield 16, 3) := gdX10_tellOn_129.2.2.2.2.2.2.2.1
theorem dX10_tellOn_145 : decode cX10_tellOn 145 = .ok (.invokevirtual 140, 3) := gdX10_tellOn_129.2.2.2.2.2.2.2.2.1
theorem dX10_tellOn_148 : decode cX10_tellOn 148 = .ok (.aload_n 0, 1) := gdX10_tellOn_129.2.2.2.2.2.2.2.2.2.1
theorem dX10_tellOn_149 : decode cX10_tellOn 149 = .ok (.bipush 59, 2) := gdX10_tellOn_129.2.2.2.2.2.2.2.2.2.2.1
theorem dX10_tellOn_151 : decode cX10_tellOn 151 = .ok (.invokevirtual 128, 3) := gdX10_tellOn_129.2.2.2.2.2.2.2.2.2.2.2
theorem gdX10_tellOn_154 : decode cX10_tellOn 154 = .ok (.ireturn, 1) ∧ decode cX10_tellOn 115 = .ok (.iconst 0, 1) ∧ decode cX10_tellOn 116 = .ok (.ireturn, 1) ∧ decode cX10_tellOn 100 = .ok (.iconst 0, 1) ∧ decode cX10_tellOn 101 = .ok (.ireturn, 1) ∧ decode cX10_tellOn 78 = .ok (.aload_n 0, 1) ∧ decode cX10_tellOn 79 = .ok (.iconst 3, 1) ∧ decode cX10_tellOn 80 = .ok (.invokevirtual 110, 3) ∧ decode cX10_tellOn 83 = .ok (.ireturn, 1) ∧ decode cX10_tellOn 56 = .ok (.iconst 0, 1) ∧ decode cX10_tellOn 57 = .ok (.ireturn, 1) ∧ decode cX10_tellOn 36 = .ok (.iconst 0, 1) := by decide +kernel
theorem dX10_tellOn_154 : decode cX10_tellOn 154 = .ok (.ireturn, 1) := gdX10_tellOn_154.1
theorem dX10_tellOn_115 : decode cX10_tellOn 115 = .ok (.iconst 0, 1) := gdX10_tellOn_154.2.1
theorem dX10_tellOn_116 : decode cX10_tellOn 116 = .ok (.ireturn, 1) := gdX10_tellOn_154.2.2.1
theorem dX10_tellOn_100 : decode cX10_tellOn 100 = .ok (.iconst 0, 1) := gdX10_tellOn_154.2.2.2.1
theorem dX10_tellOn_101 : decode cX10_tellOn 101 = .ok (.ireturn, 1) := gdX10_tellOn_154.2.2.2.2.1
theorem dX10_tellOn_78 : decode cX10_tellOn 78 = .ok (.aload_n 0, 1) := gdX10_tellOn_154.2.2.2.2.2.1
theorem dX10_tellOn_79 : decode cX10_tellOn 79 = .ok (.iconst 3, 1) := gdX10_tellOn_154.2.2.2.2.2.2.1
theorem dX10_tellOn_80 : decode cX10_tellOn 80 = .ok (.invokevirtual 110, 3) := gdX10_tellOn_154.2.2.2.2.2.2.2.1
theorem dX10_tellOn_83 : decode cX10_tellOn 83 = .ok (.ireturn, 1) := gdX10_tellOn_154.2.2.2.2.2.2.2.2.1
theorem dX10_tellOn_56 : decode cX10_tellOn 56 = .ok (.iconst 0, 1) := gdX10_tellOn_154.2.2.2.2.2.2.2.2.2.1
theorem dX10_tellOn_57 : decode cX10_tellOn 57 = .ok (.ireturn, 1) := gdX10_tellOn_154.2.2.2.2.2.2.2.2.2.2.1
theorem dX10_tellOn_36 : decode cX10_tellOn 36 = .ok (.iconst 0, 1) := gdX10_tellOn_154.2.2.2.2.2.2.2.2.2.2.2
theorem gdX10_tellOn_37 : decode cX10_tellOn 37 = .ok (.ireturn, 1) ∧ decode cX10_tellOn 12 = .ok (.aload_n 0, 1) ∧ decode cX10_tellOn 13 = .ok (.iconst 2, 1) ∧ decode cX10_tellOn 14 = .ok (.invokevirtual 110, 3) ∧ decode cX10_tellOn 17 = .ok (.ireturn, 1) := by decide +kernel
theorem dX10_tellOn_37 : decode cX10_tellOn 37 = .ok (.ireturn, 1) := gdX10_tellOn_37.1
theorem dX10_tellOn_12 : decode cX10_tellOn 12 = .ok (.aload_n 0, 1) := gdX10_tellOn_37.2.1
theorem dX10_tellOn_13 : decode cX10_tellOn 13 = .ok (.iconst 2, 1) := gdX10_tellOn_37.2.2.1
theorem dX10_tellOn_14 : decode cX10_tellOn 14 = .ok (.invokevirtual 110, 3) := gdX10_tellOn_37.2.2.2.1
theorem dX10_tellOn_17 : decode cX10_tellOn 17 = .ok (.ireturn, 1) := gdX10_tellOn_37.2.2.2.2
set_option maxHeartbeats 1000000 in
set_option maxRecDepth 100000 in
theorem s_tellOn (l : Launch) (D : va_G) (cy : Nat → ClassId) (adK : Nat → Nat) (adV : Nat → Nat) (d0 : Nat) (d1 : Nat) (uh : Int32) (wt : Int32) (dt : Int32) (vv : Int32) (fq : Int32) (pq : Int32) (yf : Value) (t0 : Nat) (t1 : Nat) (t2 : Nat) (tn : Nat) (ta : Nat) (ts : Nat) (tk : Nat) (tm : Int64) (tr : Int32) (fby : Nat → Int32) (fky : Nat → Int64) (h0 : Nat) (h1 : Nat) (h2 : Nat) (h3 : Nat) (h4 : Nat) (h5 : Nat) (h6 : Nat) (h7 : Nat) (h8 : Nat) (h9 : Nat) (h10 : Nat) (h11 : Nat) (hv0 : Value) (hv2 : Value) (hv3 : Value) (hv4 : Value) (on9 : Nat) (fc : Nat → Int32) (c0 : Nat) (c1 : Nat) (c2 : Nat) (c3 : Nat) (fx : Nat → Int32) (d2 : Nat) (d3 : Nat) (d4 : Nat) (d5 : Nat) (fd0 : Nat → Int64) (fd3 : Nat → Int64) (ga : Nat) (np0 : Nat → Nat) (np3 : Nat → Nat) (hcn : cntOK fc c0 c1 c2 c3) (hc0 : c0 ≤ 8) (hc1 : c1 ≤ 4) (hc2 : c2 ≤ 4) (hc3 : c3 ≤ 6) (htn : tn ≤ 1600) (hta : ta ≤ tn) (htk : tk ≤ 123) (hti : tkC fby tn ga ta ts tk tm tr) (hky : kyOK fky) (hga : ga ≤ tn) (hnx : nxT fx) (hon : on9 ≤ 30) (hnm0 : nmC fby tn np0 c0 fd0) (hnm3 : nmC fby tn np3 c3 fd3) : XMi l D (tyL cy) (EV adK adV) yX10_tellOn cX10_tellOn 5 (some .boolean) (rmk 8 0 0) [.ref d0] [wO d0 10 [.ref t0, .ref d1, .ref h0, yf, .int uh, .int wt, .int dt, .int vv, .int fq, .int pq], wO t0 9 [.ref t1, .ref t2, .int (nI tn), .int (nI ta), .int (nI ts), .int (nI tk), .long tm, .int tr], wI (cy 0) t1 1600 (fby), (t2, .inl (cy 2, 24, .inr (.inl (fky)))), wO h0 4 [.ref h1, .ref h2, .ref h3, .ref h4, .ref h5, .ref h6, .ref h7, .ref h8, .ref h9, .ref h10, .ref h11, hv0, .int (nI on9), hv2, hv3, hv4], wI (cy 1) h1 4 (fc), wI (cy 1) h7 48 (fx), (d1, .inl (cy 5, 4, .inr (.inr (.inr (.inr (eF d2 d3 d4 d5)))))), (d2, .inl (cy 2, 8, .inr (.inl (fd0)))), (d5, .inl (cy 2, 8, .inr (.inl (fd3))))] (fun (r : Int32) (u : Nat × Nat × Nat × Int64 × Int32 × Int32 × Int32 × Nat × (Nat → Int32) × Nat × Nat × Nat × Nat × Nat) => (u.1 ≤ tn) ∧ (u.2.2.1 ≤ 123) ∧ (nxT u.2.2.2.2.2.2.2.2.1) ∧ (u.2.2.2.2.2.2.2.1 ≤ 30) ∧ ((r = 1 ∧ (onnS fby tn on9 c3 np3 c0 np0 fx ga = .inr (u.2.2.2.2.2.2.2.2.2.1, u.2.2.2.2.2.2.2.2.2.2.1, u.2.2.2.2.2.2.2.2.2.2.2.1)) ∧ (fq = u.2.2.2.2.2.1) ∧ (pq = u.2.2.2.2.2.2.1) ∧ (tkC fby tn (u.2.2.2.2.2.2.2.2.2.2.2.1) u.1 u.2.1 u.2.2.1 u.2.2.2.1 u.2.2.2.2.1) ∧ (on9 + 1 = u.2.2.2.2.2.2.2.1) ∧ (u.2.2.2.2.2.2.2.2.2.1 < c3 * 8) ∧ (u.2.2.2.2.2.2.2.2.2.2.1 ≤ 5) ∧ (u.2.2.2.2.2.2.2.2.1 = upd fx u.2.2.2.2.2.2.2.2.2.1 (nI u.2.2.2.2.2.2.2.2.2.2.1)) ∧ (ga < u.2.2.2.2.2.2.2.2.2.2.2.1 ∧ u.2.2.2.2.2.2.2.2.2.2.2.1 ≤ tn)) ∨ (r = 0 ∧ (onnS fby tn on9 c3 np3 c0 np0 fx ga = .inl (u.2.2.2.2.2.2.2.2.2.2.2.2.1, u.2.2.2.2.2.2.2.2.2.2.2.2.2)) ∧ (flt fby tn u.2.2.2.2.2.2.2.2.2.2.2.2.2 u.2.2.2.2.2.2.2.2.2.2.2.2.1 u.2.2.2.2.2.1 u.2.2.2.2.2.2.1)))) (fun (u : Nat × Nat × Nat × Int64 × Int32 × Int32 × Int32 × Nat × (Nat → Int32) × Nat × Nat × Nat × Nat × Nat) => [wO d0 10 [.ref t0, .ref d1, .ref h0, yf, .int uh, .int wt, .int dt, .int vv, .int u.2.2.2.2.2.1, .int u.2.2.2.2.2.2.1], wO t0 9 [.ref t1, .ref t2, .int (nI tn), .int (nI u.1), .int (nI u.2.1), .int (nI u.2.2.1), .long u.2.2.2.1, .int u.2.2.2.2.1], wI (cy 0) t1 1600 (fby), (t2, .inl (cy 2, 24, .inr (.inl (fky)))), wO h0 4 [.ref h1, .ref h2, .ref h3, .ref h4, .ref h5, .ref h6, .ref h7, .ref h8, .ref h9, .ref h10, .ref h11, hv0, .int (nI u.2.2.2.2.2.2.2.1), hv2, hv3, hv4], wI (cy 1) h1 4 (fc), wI (cy 1) h7 48 (u.2.2.2.2.2.2.2.2.1), (d1, .inl (cy 5, 4, .inr (.inr (.inr (.inr (eF d2 d3 d4 d5)))))), (d2, .inl (cy 2, 8, .inr (.inl (fd0)))), (d5, .inl (cy 2, 8, .inr (.inl (fd3))))]) := by
  refine XMi.start (by decide) (Nat.le_of_ble_eq_true rfl) ?_
  intro p e s m below meth c args A ls Q hat hQ
  obtain ⟨hx, hb, hr, hml, hown, hg, hlocks, hin, hK, hA, hP, hD, hS, hE, hl⟩ := hat
  have hown : s.vm.findClass RX10 = some m.cls := hown
  have hl : lv_has ls 5 [(0, .ref d0)] := hl
  refine lv_aload_n hx hb dX10_tellOn_0 rfl (lv_at hl 0 rfl) ?_
  refine va_get (D := D) (ci := 10) (v := .ref h0) (C := RX10) (T := TX10) (N := 10) hx hb hg i_X10 hown hK hP 0 rfl rfl 2 (by decide) (hg _ m_257) (fun _ h9 => h9) rfl dX10_tellOn_1 ?_
  refine va_get (D := D) (ci := 4) (v := .int (nI on9)) (C := RX4) (T := TX4) (N := 16) hx hb hg i_X4 hown hK hP 4 rfl rfl 12 (by decide) (hg _ m_372) (fun _ h9 => h9) rfl dX10_tellOn_4 ?_
  refine lv_bipush (v := 30) hx hb dX10_tellOn_7 (by decide) ?_
  refine lv_icmp_lt (tgt := 18) hx hb dX10_tellOn_9 (by decide) (fun c_1 => ?_) (fun c_1 => ?_)
  · have q_2 : on9 < 30 := q_lt (a := on9) (b := 30) rfl rfl (by omega) (by omega) c_1
    refine lv_aload_n hx hb dX10_tellOn_18 rfl (lv_at hl 0 rfl) ?_
    refine va_get (D := D) (ci := 10) (v := .ref t0) (C := RX10) (T := TX10) (N := 10) hx hb hg i_X10 hown hK hP 0 rfl rfl 0 (by decide) (hg _ m_255) (fun _ h9 => h9) rfl dX10_tellOn_19 ?_
    refine x_callVv (q := (RX9, TX9, 8)) (ci := 9) (q0 := 0) (wr := [wO d0 10 [.ref t0, .ref d1, .ref h0, yf, .int uh, .int wt, .int dt, .int vv, .int fq, .int pq], wO h0 4 [.ref h1, .ref h2, .ref h3, .ref h4, .ref h5, .ref h6, .ref h7, .ref h8, .ref h9, .ref h10, .ref h11, hv0, .int (nI on9), hv2, hv3, hv4], wI (cy 1) h1 4 (fc), wI (cy 1) h7 48 (fx), (d1, .inl (cy 5, 4, .inr (.inr (.inr (.inr (eF d2 d3 d4 d5)))))), (d2, .inl (cy 2, 8, .inr (.inl (fd0)))), (d5, .inl (cy 2, 8, .inr (.inl (fd3))))]) (rest := []) ⟨hx, hb, hml, hown, hg, hl.1⟩ k_X10_140 (s_next l D cy adK adV t0 t1 t2 tn ta ts tk tm tr fby fky (fin fby tn ga) (by omega) (by omega) (hti.2.1) (hky)) EV_blind hK hP hD hS hA [1, 2, 3] [0, 4, 5, 6, 7, 8, 9] ⟨rfl, rfl, by decide +kernel, by decide +kernel, by decide +kernel⟩ rfl rfl (fun U hU hW => EV_pass hE hS (va_free hD hS hA [1, 2, 3] rfl) hU hW) dX10_tellOn_22 rfl rfl (Nat.le_of_ble_eq_true rfl) ⟨Nat.le_of_ble_eq_true rfl, Nat.le_of_ble_eq_true rfl⟩ ⟨Nat.le_of_ble_eq_true rfl, Nat.le_of_ble_eq_true rfl⟩ (fun zu3 H locs hw3 hP9 hD9 hS9 => ?_)
    clear hP hD hS
    obtain ⟨ta2_4, ts2_5, tk2_6, tm2_7, tr2_8⟩ := zu3
    refine reW [wO d0 10 [.ref t0, .ref d1, .ref h0, yf, .int uh, .int wt, .int dt, .int vv, .int fq, .int pq], wO h0 4 [.ref h1, .ref h2, .ref h3, .ref h4, .ref h5, .ref h6, .ref h7, .ref h8, .ref h9, .ref h10, .ref h11, hv0, .int (nI on9), hv2, hv3, hv4], wI (cy 1) h1 4 (fc), wI (cy 1) h7 48 (fx), (d1, .inl (cy 5, 4, .inr (.inr (.inr (.inr (eF d2 d3 d4 d5)))))), (d2, .inl (cy 2, 8, .inr (.inl (fd0)))), (d5, .inl (cy 2, 8, .inr (.inl (fd3)))), wO t0 9 [.ref t1, .ref t2, .int (nI tn), .int (nI ta2_4), .int (nI ts2_5), .int (nI tk2_6), .long tm2_7, .int tr2_8], wI (cy 0) t1 1600 (fby), (t2, .inl (cy 2, 24, .inr (.inl (fky))))] hP9 hD9 hS9 (fun hP hD hS => ?_)
    clear hP9 hD9 hS9
    refine W.widen (k := 0) (n := 0) (Nat.le_of_ble_eq_true rfl) (Nat.le_of_ble_eq_true rfl) ?_
    replace hw3 : (ta2_4 ≤ tn) ∧ (tk2_6 ≤ 123) ∧ (tkC fby tn (fin fby tn ga) ta2_4 ts2_5 tk2_6 tm2_7 tr2_8) := hw3
    obtain ⟨f_9, f_10, f_11⟩ := hw3
    have hgt_12 : ga ≤ fin fby tn ga ∧ fin fby tn ga ≤ tn := ⟨fin_ge _ _ _, fin_le (by omega)⟩
    refine lv_aload_n hx hb dX10_tellOn_25 rfl (lv_at hl 0 rfl) ?_
    refine lv_iconst (v := 3) hx hb dX10_tellOn_26 (by decide) ?_
    refine x_callVi (q := (RX10, TX10, 10)) (ci := 10) (q0 := 0) (wr := [wI (cy 1) h7 48 (fx), (d2, .inl (cy 2, 8, .inr (.inl (fd0)))), wI (cy 0) t1 1600 (fby), (t2, .inl (cy 2, 24, .inr (.inl (fky))))]) (rest := []) ⟨hx, hb, hml, hown, hg, hl.1⟩ k_X10_146 (s_known3 l D cy d0 d1 uh wt dt vv fq pq yf t0 t1 t2 tn ta2_4 ts2_5 tk2_6 tm2_7 tr2_8 h0 h1 h2 h3 h4 h5 h6 h7 h8 h9 h10 h11 hv0 ((.int (nI on9))) hv2 hv3 hv4 fc c0 c1 c2 c3 d2 d3 d4 d5 fd3 fby (fin fby tn ga) np3 (hcn) (by omega) (by omega) (by omega) (by omega) (by omega) (f_11) (hnm3)) E0_blind hK hP hD hS hA [0, 7, 1, 2, 4, 6] [3, 5, 8, 9] ⟨rfl, rfl, by decide +kernel, by decide +kernel, by decide +kernel⟩ rfl rfl (fun _ _ _ => trivial) dX10_tellOn_27 rfl rfl (Nat.le_of_ble_eq_true rfl) ⟨Nat.le_of_ble_eq_true rfl, Nat.le_of_ble_eq_true rfl⟩ ⟨Nat.le_of_ble_eq_true rfl, Nat.le_of_ble_eq_true rfl⟩ (fun zr13 zu13 H locs hw13 hP9 hD9 hS9 => ?_)
    clear hP hD hS
    obtain ⟨fq2_14, pq2_15, jr_16, co9_17, b9_18⟩ := zu13
    refine reW [wI (cy 1) h7 48 (fx), (d2, .inl (cy 2, 8, .inr (.inl (fd0)))), wI (cy 0) t1 1600 (fby), (t2, .inl (cy 2, 24, .inr (.inl (fky)))), wO d0 10 [.ref t0, .ref d1, .ref h0, yf, .int uh, .int wt, .int dt, .int vv, .int fq2_14, .int pq2_15], wO t0 9 [.ref t1, .ref t2, .int (nI tn), .int (nI ta2_4), .int (nI ts2_5), .int (nI tk2_6), .long tm2_7, .int tr2_8], wO h0 4 [.ref h1, .ref h2, .ref h3, .ref h4, .ref h5, .ref h6, .ref h7, .ref h8, .ref h9, .ref h10, .ref h11, hv0, .int (nI on9), hv2, hv3, hv4], wI (cy 1) h1 4 (fc), (d1, .inl (cy 5, 4, .inr (.inr (.inr (.inr (eF d2 d3 d4 d5)))))), (d5, .inl (cy 2, 8, .inr (.inl (fd3))))] hP9 hD9 hS9 (fun hP hD hS => ?_)
    clear hP9 hD9 hS9
    refine W.widen (k := 0) (n := 0) (Nat.le_of_ble_eq_true rfl) (Nat.le_of_ble_eq_true rfl) ?_
    replace hw13 : ((zr13 = nI jr_16 ∧ (knoS fby tn c3 np3 (fin fby tn ga) = .inr jr_16) ∧ (fq = fq2_14) ∧ (pq = pq2_15) ∧ (jr_16 < c3)) ∨ (zr13 = -1 ∧ (knoS fby tn c3 np3 (fin fby tn ga) = .inl (co9_17, b9_18)) ∧ (flt fby tn b9_18 co9_17 fq2_14 pq2_15))) := hw13
    have f_19 := hw13
    rcases f_19 with ⟨hz_24, a_20, a_21, a_22, a_23⟩ | ⟨hz_27, a_25, a_26⟩
    · subst hz_24
      subst a_21
      subst a_22
      refine lv_istore_n (lv' := [(1, .int (nI jr_16)), (0, .ref d0)]) hx hb dX10_tellOn_30 rfl hl (by decide) rfl (fun ls hl => ?_)
      refine lv_iload_n hx hb dX10_tellOn_31 rfl (lv_at hl 0 rfl) ?_
      refine lv_iconst (v := -1) hx hb dX10_tellOn_32 (by decide) ?_
      refine lv_icmp_ne (tgt := 38) hx hb dX10_tellOn_33 (by decide) (fun _ => ?_) (fun h => absurd h (nI_nneg (by omega) (by decide)))
      refine lv_aload_n hx hb dX10_tellOn_38 rfl (lv_at hl 1 rfl) ?_
      refine va_get (D := D) (ci := 10) (v := .ref t0) (C := RX10) (T := TX10) (N := 10) hx hb hg i_X10 hown hK hP 4 rfl rfl 0 (by decide) (hg _ m_255) (fun _ h9 => h9) rfl dX10_tellOn_39 ?_
      refine x_callVv (q := (RX9, TX9, 8)) (ci := 9) (q0 := 0) (wr := [wI (cy 1) h7 48 (fx), (d2, .inl (cy 2, 8, .inr (.inl (fd0)))), wO d0 10 [.ref t0, .ref d1, .ref h0, yf, .int uh, .int wt, .int dt, .int vv, .int fq, .int pq], wO h0 4 [.ref h1, .ref h2, .ref h3, .ref h4, .ref h5, .ref h6, .ref h7, .ref h8, .ref h9, .ref h10, .ref h11, hv0, .int (nI on9), hv2, hv3, hv4], wI (cy 1) h1 4 (fc), (d1, .inl (cy 5, 4, .inr (.inr (.inr (.inr (eF d2 d3 d4 d5)))))), (d5, .inl (cy 2, 8, .inr (.inl (fd3))))]) (rest := []) ⟨hx, hb, hml, hown, hg, hl.1⟩ k_X10_140 (s_next l D cy adK adV t0 t1 t2 tn ta2_4 ts2_5 tk2_6 tm2_7 tr2_8 fby fky (fin fby tn (fin fby tn ga)) (by omega) (by omega) (f_11.2.1) (hky)) EV_blind hK hP hD hS hA [5, 2, 3] [0, 1, 4, 6, 7, 8, 9] ⟨rfl, rfl, by decide +kernel, by decide +kernel, by decide +kernel⟩ rfl rfl (fun U hU hW => EV_pass hE hS (va_free hD hS hA [5, 2, 3] rfl) hU hW) dX10_tellOn_42 rfl rfl (Nat.le_of_ble_eq_true rfl) ⟨Nat.le_of_ble_eq_true rfl, Nat.le_of_ble_eq_true rfl⟩ ⟨Nat.le_of_ble_eq_true rfl, Nat.le_of_ble_eq_true rfl⟩ (fun zu28 H locs hw28 hP9 hD9 hS9 => ?_)
      clear hP hD hS
      obtain ⟨ta2_29, ts2_30, tk2_31, tm2_32, tr2_33⟩ := zu28
      refine reW [wI (cy 1) h7 48 (fx), (d2, .inl (cy 2, 8, .inr (.inl (fd0)))), wO d0 10 [.ref t0, .ref d1, .ref h0, yf, .int uh, .int wt, .int dt, .int vv, .int fq, .int pq], wO h0 4 [.ref h1, .ref h2, .ref h3, .ref h4, .ref h5, .ref h6, .ref h7, .ref h8, .ref h9, .ref h10, .ref h11, hv0, .int (nI on9), hv2, hv3, hv4], wI (cy 1) h1 4 (fc), (d1, .inl (cy 5, 4, .inr (.inr (.inr (.inr (eF d2 d3 d4 d5)))))), (d5, .inl (cy 2, 8, .inr (.inl (fd3)))), wO t0 9 [.ref t1, .ref t2, .int (nI tn), .int (nI ta2_29), .int (nI ts2_30), .int (nI tk2_31), .long tm2_32, .int tr2_33], wI (cy 0) t1 1600 (fby), (t2, .inl (cy 2, 24, .inr (.inl (fky))))] hP9 hD9 hS9 (fun hP hD hS => ?_)
      clear hP9 hD9 hS9
      refine W.widen (k := 0) (n := 0) (Nat.le_of_ble_eq_true rfl) (Nat.le_of_ble_eq_true rfl) ?_
      replace hw28 : (ta2_29 ≤ tn) ∧ (tk2_31 ≤ 123) ∧ (tkC fby tn (fin fby tn (fin fby tn ga)) ta2_29 ts2_30 tk2_31 tm2_32 tr2_33) := hw28
      obtain ⟨f_34, f_35, f_36⟩ := hw28
      have hgt_37 : fin fby tn ga ≤ fin fby tn (fin fby tn ga) ∧ fin fby tn (fin fby tn ga) ≤ tn := ⟨fin_ge _ _ _, fin_le (by omega)⟩
      refine lv_aload_n hx hb dX10_tellOn_45 rfl (lv_at hl 1 rfl) ?_
      refine lv_iconst (v := 0) hx hb dX10_tellOn_46 (by decide) ?_
      refine x_callVi (q := (RX10, TX10, 10)) (ci := 10) (q0 := 0) (wr := [wI (cy 1) h7 48 (fx), (d5, .inl (cy 2, 8, .inr (.inl (fd3)))), wI (cy 0) t1 1600 (fby), (t2, .inl (cy 2, 24, .inr (.inl (fky))))]) (rest := []) ⟨hx, hb, hml, hown, hg, hl.1⟩ k_X10_146 (s_known0 l D cy d0 d1 uh wt dt vv fq pq yf t0 t1 t2 tn ta2_29 ts2_30 tk2_31 tm2_32 tr2_33 h0 h1 h2 h3 h4 h5 h6 h7 h8 h9 h10 h11 hv0 ((.int (nI on9))) hv2 hv3 hv4 fc c0 c1 c2 c3 d2 d3 d4 d5 fd0 fby (fin fby tn (fin fby tn ga)) np0 (hcn) (by omega) (by omega) (by omega) (by omega) (by omega) (f_36) (hnm0)) E0_blind hK hP hD hS hA [2, 7, 3, 4, 5, 1] [0, 6, 8, 9] ⟨rfl, rfl, by decide +kernel, by decide +kernel, by decide +kernel⟩ rfl rfl (fun _ _ _ => trivial) dX10_tellOn_47 rfl rfl (Nat.le_of_ble_eq_true rfl) ⟨Nat.le_of_ble_eq_true rfl, Nat.le_of_ble_eq_true rfl⟩ ⟨Nat.le_of_ble_eq_true rfl, Nat.le_of_ble_eq_true rfl⟩ (fun zr38 zu38 H locs hw38 hP9 hD9 hS9 => ?_)
      clear hP hD hS
      obtain ⟨fq2_39, pq2_40, jr_41, co9_42, b9_43⟩ := zu38
      refine reW [wI (cy 1) h7 48 (fx), (d5, .inl (cy 2, 8, .inr (.inl (fd3)))), wI (cy 0) t1 1600 (fby), (t2, .inl (cy 2, 24, .inr (.inl (fky)))), wO d0 10 [.ref t0, .ref d1, .ref h0, yf, .int uh, .int wt, .int dt, .int vv, .int fq2_39, .int pq2_40], wO t0 9 [.ref t1, .ref t2, .int (nI tn), .int (nI ta2_29), .int (nI ts2_30), .int (nI tk2_31), .long tm2_32, .int tr2_33], wO h0 4 [.ref h1, .ref h2, .ref h3, .ref h4, .ref h5, .ref h6, .ref h7, .ref h8, .ref h9, .ref h10, .ref h11, hv0, .int (nI on9), hv2, hv3, hv4], wI (cy 1) h1 4 (fc), (d1, .inl (cy 5, 4, .inr (.inr (.inr (.inr (eF d2 d3 d4 d5)))))), (d2, .inl (cy 2, 8, .inr (.inl (fd0))))] hP9 hD9 hS9 (fun hP hD hS => ?_)
      clear hP9 hD9 hS9
      refine W.widen (k := 0) (n := 0) (Nat.le_of_ble_eq_true rfl) (Nat.le_of_ble_eq_true rfl) ?_
      replace hw38 : ((zr38 = nI jr_41 ∧ (knoS fby tn c0 np0 (fin fby tn (fin fby tn ga)) = .inr jr_41) ∧ (fq = fq2_39) ∧ (pq = pq2_40) ∧ (jr_41 < c0)) ∨ (zr38 = -1 ∧ (knoS fby tn c0 np0 (fin fby tn (fin fby tn ga)) = .inl (co9_42, b9_43)) ∧ (flt fby tn b9_43 co9_42 fq2_39 pq2_40))) := hw38
      have f_44 := hw38
      rcases f_44 with ⟨hz_49, a_45, a_46, a_47, a_48⟩ | ⟨hz_52, a_50, a_51⟩
      · subst hz_49
        subst a_46
        subst a_47
        refine lv_istore_n (lv' := [(2, .int (nI jr_41)), (1, .int (nI jr_16)), (0, .ref d0)]) hx hb dX10_tellOn_50 rfl hl (by decide) rfl (fun ls hl => ?_)
        refine lv_iload_n hx hb dX10_tellOn_51 rfl (lv_at hl 0 rfl) ?_
        refine lv_iconst (v := -1) hx hb dX10_tellOn_52 (by decide) ?_
        refine lv_icmp_ne (tgt := 58) hx hb dX10_tellOn_53 (by decide) (fun _ => ?_) (fun h => absurd h (nI_nneg (by omega) (by decide)))
        refine lv_iload_n hx hb dX10_tellOn_58 rfl (lv_at hl 1 rfl) ?_
        refine lv_bipush (v := 8) hx hb dX10_tellOn_59 (by decide) ?_
        refine lv_imul hx hb dX10_tellOn_61 ?_
        refine lv_topi (fun y_53 hy_53 => ?_)
        obtain rfl : y_53 = nI (jr_16 * 8) := hy_53.trans (pk_mul jr_16 8)
        refine lv_iload_n hx hb dX10_tellOn_62 rfl (lv_at hl 0 rfl) ?_
        refine lv_iadd hx hb dX10_tellOn_63 ?_
        refine lv_topi (fun y_54 hy_54 => ?_)
        obtain rfl : y_54 = nI ((jr_16 * 8) + jr_41) := hy_54.trans (nI_add ((jr_16 * 8)) jr_41)
        refine lv_istore_n (lv' := [(3, .int (nI ((jr_16 * 8) + jr_41))), (2, .int (nI jr_41)), (1, .int (nI jr_16)), (0, .ref d0)]) hx hb dX10_tellOn_64 rfl hl (by decide) rfl (fun ls hl => ?_)
        refine lv_aload_n hx hb dX10_tellOn_65 rfl (lv_at hl 3 rfl) ?_
        refine va_get (D := D) (ci := 10) (v := .ref h0) (C := RX10) (T := TX10) (N := 10) hx hb hg i_X10 hown hK hP 4 rfl rfl 2 (by decide) (hg _ m_257) (fun _ h9 => h9) rfl dX10_tellOn_66 ?_
        refine va_get (D := D) (ci := 4) (v := .ref h7) (C := RX4) (T := TX4) (N := 16) hx hb hg i_X4 hown hK hP 6 rfl rfl 6 (by decide) (hg _ m_357) (fun _ h9 => h9) rfl dX10_tellOn_69 ?_
        refine lv_iload_n hx hb dX10_tellOn_72 rfl (lv_at hl 0 rfl) ?_
        refine va_iald hx hb hK hP 0 1 rfl rfl (vp_in_nI (by omega) (by decide)) dX10_tellOn_73 ?_
        refine lv_topi (fun x_55 ex_55 => ?_)
        refine lv_iconst (v := -1) hx hb dX10_tellOn_74 (by decide) ?_
        refine lv_icmp_eq (tgt := 84) hx hb dX10_tellOn_75 (by decide) (fun c_75 => ?_) (fun c_75 => ?_)
        · have hfx75 :  fx (jr_16 * 8 + jr_41) = -1 := by have h9 := ex_55; rw [nI_clamp (by omega)] at h9; rw [← h9]; exact c_75
          refine lv_aload_n hx hb dX10_tellOn_84 rfl (lv_at hl 3 rfl) ?_
          refine va_get (D := D) (ci := 10) (v := .ref t0) (C := RX10) (T := TX10) (N := 10) hx hb hg i_X10 hown hK hP 4 rfl rfl 0 (by decide) (hg _ m_255) (fun _ h9 => h9) rfl dX10_tellOn_85 ?_
          refine x_callVv (q := (RX9, TX9, 8)) (ci := 9) (q0 := 0) (wr := [wI (cy 1) h7 48 (fx), (d5, .inl (cy 2, 8, .inr (.inl (fd3)))), wO d0 10 [.ref t0, .ref d1, .ref h0, yf, .int uh, .int wt, .int dt, .int vv, .int fq, .int pq], wO h0 4 [.ref h1, .ref h2, .ref h3, .ref h4, .ref h5, .ref h6, .ref h7, .ref h8, .ref h9, .ref h10, .ref h11, hv0, .int (nI on9), hv2, hv3, hv4], wI (cy 1) h1 4 (fc), (d1, .inl (cy 5, 4, .inr (.inr (.inr (.inr (eF d2 d3 d4 d5)))))), (d2, .inl (cy 2, 8, .inr (.inl (fd0))))]) (rest := []) ⟨hx, hb, hml, hown, hg, hl.1⟩ k_X10_140 (s_next l D cy adK adV t0 t1 t2 tn ta2_29 ts2_30 tk2_31 tm2_32 tr2_33 fby fky (fin fby tn (fin fby tn (fin fby tn ga))) (by omega) (by omega) (f_36.2.1) (hky)) EV_blind hK hP hD hS hA [5, 2, 3] [0, 1, 4, 6, 7, 8, 9] ⟨rfl, rfl, by decide +kernel, by decide +kernel, by decide +kernel⟩ rfl rfl (fun U hU hW => EV_pass hE hS (va_free hD hS hA [5, 2, 3] rfl) hU hW) dX10_tellOn_88 rfl rfl (Nat.le_of_ble_eq_true rfl) ⟨Nat.le_of_ble_eq_true rfl, Nat.le_of_ble_eq_true rfl⟩ ⟨Nat.le_of_ble_eq_true rfl, Nat.le_of_ble_eq_true rfl⟩ (fun zu56 H locs hw56 hP9 hD9 hS9 => ?_)
          clear hP hD hS
          obtain ⟨ta2_57, ts2_58, tk2_59, tm2_60, tr2_61⟩ := zu56
          refine reW [wI (cy 1) h7 48 (fx), (d5, .inl (cy 2, 8, .inr (.inl (fd3)))), wO d0 10 [.ref t0, .ref d1, .ref h0, yf, .int uh, .int wt, .int dt, .int vv, .int fq, .int pq], wO h0 4 [.ref h1, .ref h2, .ref h3, .ref h4, .ref h5, .ref h6, .ref h7, .ref h8, .ref h9, .ref h10, .ref h11, hv0, .int (nI on9), hv2, hv3, hv4], wI (cy 1) h1 4 (fc), (d1, .inl (cy 5, 4, .inr (.inr (.inr (.inr (eF d2 d3 d4 d5)))))), (d2, .inl (cy 2, 8, .inr (.inl (fd0)))), wO t0 9 [.ref t1, .ref t2, .int (nI tn), .int (nI ta2_57), .int (nI ts2_58), .int (nI tk2_59), .long tm2_60, .int tr2_61], wI (cy 0) t1 1600 (fby), (t2, .inl (cy 2, 24, .inr (.inl (fky))))] hP9 hD9 hS9 (fun hP hD hS => ?_)
          clear hP9 hD9 hS9
          refine W.widen (k := 0) (n := 0) (Nat.le_of_ble_eq_true rfl) (Nat.le_of_ble_eq_true rfl) ?_
          replace hw56 : (ta2_57 ≤ tn) ∧ (tk2_59 ≤ 123) ∧ (tkC fby tn (fin fby tn (fin fby tn (fin fby tn ga))) ta2_57 ts2_58 tk2_59 tm2_60 tr2_61) := hw56
          obtain ⟨f_62, f_63, f_64⟩ := hw56
          have hgt_65 : fin fby tn (fin fby tn ga) ≤ fin fby tn (fin fby tn (fin fby tn ga)) ∧ fin fby tn (fin fby tn (fin fby tn ga)) ≤ tn := ⟨fin_ge _ _ _, fin_le (by omega)⟩
          refine lv_aload_n hx hb dX10_tellOn_91 rfl (lv_at hl 3 rfl) ?_
          refine lv_bipush (v := 113) hx hb dX10_tellOn_92 (by decide) ?_
          refine x_callVi (q := (RX10, TX10, 10)) (ci := 10) (q0 := 0) (wr := [wI (cy 1) h7 48 (fx), (d5, .inl (cy 2, 8, .inr (.inl (fd3)))), wO h0 4 [.ref h1, .ref h2, .ref h3, .ref h4, .ref h5, .ref h6, .ref h7, .ref h8, .ref h9, .ref h10, .ref h11, hv0, .int (nI on9), hv2, hv3, hv4], wI (cy 1) h1 4 (fc), (d1, .inl (cy 5, 4, .inr (.inr (.inr (.inr (eF d2 d3 d4 d5)))))), (d2, .inl (cy 2, 8, .inr (.inl (fd0))))]) (rest := []) ⟨hx, hb, hml, hown, hg, hl.1⟩ k_X10_128 (s_take l D cy adK adV d0 d1 uh wt dt vv fq pq ((.ref h0)) yf t0 t1 t2 tn ta2_57 ts2_58 tk2_59 tm2_60 tr2_61 fby fky (fin fby tn (fin fby tn (fin fby tn ga))) 113 (by omega) (by omega) (by omega) (f_64) (hky) (by omega)) EV_blind hK hP hD hS hA [2, 7, 8, 9] [0, 1, 3, 4, 5, 6] ⟨rfl, rfl, by decide +kernel, by decide +kernel, by decide +kernel⟩ rfl rfl (fun U hU hW => EV_pass hE hS (va_free hD hS hA [2, 7, 8, 9] rfl) hU hW) dX10_tellOn_94 rfl rfl (Nat.le_of_ble_eq_true rfl) ⟨Nat.le_of_ble_eq_true rfl, Nat.le_of_ble_eq_true rfl⟩ ⟨Nat.le_of_ble_eq_true rfl, Nat.le_of_ble_eq_true rfl⟩ (fun zr66 zu66 H locs hw66 hP9 hD9 hS9 => ?_)
          clear hP hD hS
          obtain ⟨ta2_67, ts2_68, tk2_69, tm2_70, tr2_71, fq2_72, pq2_73, co9_74, b9_75⟩ := zu66
          refine reW [wI (cy 1) h7 48 (fx), (d5, .inl (cy 2, 8, .inr (.inl (fd3)))), wO h0 4 [.ref h1, .ref h2, .ref h3, .ref h4, .ref h5, .ref h6, .ref h7, .ref h8, .ref h9, .ref h10, .ref h11, hv0, .int (nI on9), hv2, hv3, hv4], wI (cy 1) h1 4 (fc), (d1, .inl (cy 5, 4, .inr (.inr (.inr (.inr (eF d2 d3 d4 d5)))))), (d2, .inl (cy 2, 8, .inr (.inl (fd0)))), wO d0 10 [.ref t0, .ref d1, .ref h0, yf, .int uh, .int wt, .int dt, .int vv, .int fq2_72, .int pq2_73], wO t0 9 [.ref t1, .ref t2, .int (nI tn), .int (nI ta2_67), .int (nI ts2_68), .int (nI tk2_69), .long tm2_70, .int tr2_71], wI (cy 0) t1 1600 (fby), (t2, .inl (cy 2, 24, .inr (.inl (fky))))] hP9 hD9 hS9 (fun hP hD hS => ?_)
          clear hP9 hD9 hS9
          refine W.widen (k := 0) (n := 0) (Nat.le_of_ble_eq_true rfl) (Nat.le_of_ble_eq_true rfl) ?_
          replace hw66 : (ta2_67 ≤ tn) ∧ (tk2_69 ≤ 123) ∧ ((zr66 = 1 ∧ (takS fby tn 113 (fin fby tn (fin fby tn (fin fby tn ga))) = .inr (fin fby tn (fin fby tn (fin fby tn (fin fby tn ga))))) ∧ (fq = fq2_72) ∧ (pq = pq2_73) ∧ (tkC fby tn (fin fby tn (fin fby tn (fin fby tn (fin fby tn ga)))) ta2_67 ts2_68 tk2_69 tm2_70 tr2_71) ∧ (knd fby tn (fin fby tn (fin fby tn (fin fby tn ga))) = 113)) ∨ (zr66 = 0 ∧ (takS fby tn 113 (fin fby tn (fin fby tn (fin fby tn ga))) = .inl (co9_74, b9_75)) ∧ (flt fby tn b9_75 co9_74 fq2_72 pq2_73) ∧ (¬ knd fby tn (fin fby tn (fin fby tn (fin fby tn ga))) = 113))) := hw66
          obtain ⟨f_76, f_77, f_78⟩ := hw66
          rcases f_78 with ⟨hz_84, a_79, a_80, a_81, a_82, a_83⟩ | ⟨hz_88, a_85, a_86, a_87⟩
          · subst hz_84
            subst a_80
            subst a_81
            have hgt_89 : fin fby tn (fin fby tn (fin fby tn ga)) < fin fby tn (fin fby tn (fin fby tn (fin fby tn ga))) ∧ fin fby tn (fin fby tn (fin fby tn (fin fby tn ga))) ≤ tn := ⟨fin_gt (by rw [a_83]; decide), fin_le (by omega)⟩
            refine lv_if_ne (tgt := 102) hx hb dX10_tellOn_97 (by decide) (fun _ => ?_) (fun h => absurd h (by decide))
            refine lv_aload_n hx hb dX10_tellOn_102 rfl (lv_at hl 3 rfl) ?_
            refine lv_iconst (v := 3) hx hb dX10_tellOn_103 (by decide) ?_
            refine x_callVi (q := (RX10, TX10, 10)) (ci := 10) (q0 := 0) (wr := [wI (cy 1) h7 48 (fx), (d2, .inl (cy 2, 8, .inr (.inl (fd0)))), wI (cy 0) t1 1600 (fby), (t2, .inl (cy 2, 24, .inr (.inl (fky))))]) (rest := []) ⟨hx, hb, hml, hown, hg, hl.1⟩ k_X10_146 (s_known3 l D cy d0 d1 uh wt dt vv fq pq yf t0 t1 t2 tn ta2_67 ts2_68 tk2_69 tm2_70 tr2_71 h0 h1 h2 h3 h4 h5 h6 h7 h8 h9 h10 h11 hv0 ((.int (nI on9))) hv2 hv3 hv4 fc c0 c1 c2 c3 d2 d3 d4 d5 fd3 fby (fin fby tn (fin fby tn (fin fby tn (fin fby tn ga)))) np3 (hcn) (by omega) (by omega) (by omega) (by omega) (by omega) (a_82) (hnm3)) E0_blind hK hP hD hS hA [6, 7, 2, 3, 4, 1] [0, 5, 8, 9] ⟨rfl, rfl, by decide +kernel, by decide +kernel, by decide +kernel⟩ rfl rfl (fun _ _ _ => trivial) dX10_tellOn_104 rfl rfl (Nat.le_of_ble_eq_true rfl) ⟨Nat.le_of_ble_eq_true rfl, Nat.le_of_ble_eq_true rfl⟩ ⟨Nat.le_of_ble_eq_true rfl, Nat.le_of_ble_eq_true rfl⟩ (fun zr90 zu90 H locs hw90 hP9 hD9 hS9 => ?_)
            clear hP hD hS
            obtain ⟨fq2_91, pq2_92, jr_93, co9_94, b9_95⟩ := zu90
            refine reW [wI (cy 1) h7 48 (fx), (d2, .inl (cy 2, 8, .inr (.inl (fd0)))), wI (cy 0) t1 1600 (fby), (t2, .inl (cy 2, 24, .inr (.inl (fky)))), wO d0 10 [.ref t0, .ref d1, .ref h0, yf, .int uh, .int wt, .int dt, .int vv, .int fq2_91, .int pq2_92], wO t0 9 [.ref t1, .ref t2, .int (nI tn), .int (nI ta2_67), .int (nI ts2_68), .int (nI tk2_69), .long tm2_70, .int tr2_71], wO h0 4 [.ref h1, .ref h2, .ref h3, .ref h4, .ref h5, .ref h6, .ref h7, .ref h8, .ref h9, .ref h10, .ref h11, hv0, .int (nI on9), hv2, hv3, hv4], wI (cy 1) h1 4 (fc), (d1, .inl (cy 5, 4, .inr (.inr (.inr (.inr (eF d2 d3 d4 d5)))))), (d5, .inl (cy 2, 8, .inr (.inl (fd3))))] hP9 hD9 hS9 (fun hP hD hS => ?_)
            clear hP9 hD9 hS9
            refine W.widen (k := 0) (n := 0) (Nat.le_of_ble_eq_true rfl) (Nat.le_of_ble_eq_true rfl) ?_
            replace hw90 : ((zr90 = nI jr_93 ∧ (knoS fby tn c3 np3 (fin fby tn (fin fby tn (fin fby tn (fin fby tn ga)))) = .inr jr_93) ∧ (fq = fq2_91) ∧ (pq = pq2_92) ∧ (jr_93 < c3)) ∨ (zr90 = -1 ∧ (knoS fby tn c3 np3 (fin fby tn (fin fby tn (fin fby tn (fin fby tn ga)))) = .inl (co9_94, b9_95)) ∧ (flt fby tn b9_95 co9_94 fq2_91 pq2_92))) := hw90
            have f_96 := hw90
            rcases f_96 with ⟨hz_101, a_97, a_98, a_99, a_100⟩ | ⟨hz_104, a_102, a_103⟩
            · subst hz_101
              subst a_98
              subst a_99
              refine lv_istore (lv' := [(4, .int (nI jr_93)), (3, .int (nI ((jr_16 * 8) + jr_41))), (2, .int (nI jr_41)), (1, .int (nI jr_16)), (0, .ref d0)]) hx hb dX10_tellOn_107 hl (by decide) rfl (fun ls hl => ?_)
              refine lv_iload hx hb dX10_tellOn_109 (lv_at hl 0 rfl) ?_
              refine lv_iconst (v := -1) hx hb dX10_tellOn_111 (by decide) ?_
              refine lv_icmp_ne (tgt := 117) hx hb dX10_tellOn_112 (by decide) (fun _ => ?_) (fun h => absurd h (nI_nneg (by omega) (by decide)))
              refine lv_aload_n hx hb dX10_tellOn_117 rfl (lv_at hl 4 rfl) ?_
              refine va_get (D := D) (ci := 10) (v := .ref h0) (C := RX10) (T := TX10) (N := 10) hx hb hg i_X10 hown hK hP 4 rfl rfl 2 (by decide) (hg _ m_257) (fun _ h9 => h9) rfl dX10_tellOn_118 ?_
              refine va_get (D := D) (ci := 4) (v := .ref h7) (C := RX4) (T := TX4) (N := 16) hx hb hg i_X4 hown hK hP 6 rfl rfl 6 (by decide) (hg _ m_357) (fun _ h9 => h9) rfl dX10_tellOn_121 ?_
              refine lv_iload_n hx hb dX10_tellOn_124 rfl (lv_at hl 1 rfl) ?_
              refine lv_iload hx hb dX10_tellOn_125 (lv_at hl 0 rfl) ?_
              refine va_iast hx hb hK hP hD hS 0 1 rfl rfl (vp_in_nI (by omega) (by decide)) dX10_tellOn_127 (fun H locs hP9 hD9 hS9 => ?_)
              clear hP hD hS
              have hP := hP9
              have hD := hD9
              have hS := hS9
              clear hP9 hD9 hS9
              obtain ⟨g_105, eg_105⟩ : ∃ y, upd fx (nI ((jr_16 * 8) + jr_41) : Int32).toNatClampNeg (nI jr_93) = y := ⟨_, rfl⟩
              rw [eg_105] at hP hD
              have hr_106 : nxT g_105 := eg_105 ▸ nxT_put hnx (by omega)
              replace hP : va_P D vwCl [wI (cy 1) h7 48 (g_105), (d2, .inl (cy 2, 8, .inr (.inl (fd0)))), wI (cy 0) t1 1600 (fby), (t2, .inl (cy 2, 24, .inr (.inl (fky)))), wO d0 10 [.ref t0, .ref d1, .ref h0, yf, .int uh, .int wt, .int dt, .int vv, .int fq, .int pq], wO t0 9 [.ref t1, .ref t2, .int (nI tn), .int (nI ta2_67), .int (nI ts2_68), .int (nI tk2_69), .long tm2_70, .int tr2_71], wO h0 4 [.ref h1, .ref h2, .ref h3, .ref h4, .ref h5, .ref h6, .ref h7, .ref h8, .ref h9, .ref h10, .ref h11, hv0, .int (nI on9), hv2, hv3, hv4], wI (cy 1) h1 4 (fc), (d1, .inl (cy 5, 4, .inr (.inr (.inr (.inr (eF d2 d3 d4 d5)))))), (d5, .inl (cy 2, 8, .inr (.inl (fd3))))] H := hP
              replace hD : va_D A [wI (cy 1) h7 48 (g_105), (d2, .inl (cy 2, 8, .inr (.inl (fd0)))), wI (cy 0) t1 1600 (fby), (t2, .inl (cy 2, 24, .inr (.inl (fky)))), wO d0 10 [.ref t0, .ref d1, .ref h0, yf, .int uh, .int wt, .int dt, .int vv, .int fq, .int pq], wO t0 9 [.ref t1, .ref t2, .int (nI tn), .int (nI ta2_67), .int (nI ts2_68), .int (nI tk2_69), .long tm2_70, .int tr2_71], wO h0 4 [.ref h1, .ref h2, .ref h3, .ref h4, .ref h5, .ref h6, .ref h7, .ref h8, .ref h9, .ref h10, .ref h11, hv0, .int (nI on9), hv2, hv3, hv4], wI (cy 1) h1 4 (fc), (d1, .inl (cy 5, 4, .inr (.inr (.inr (.inr (eF d2 d3 d4 d5)))))), (d5, .inl (cy 2, 8, .inr (.inl (fd3))))] := hD
              refine lv_aload_n hx hb dX10_tellOn_128 rfl (lv_at hl 4 rfl) ?_
              refine va_get (D := D) (ci := 10) (v := .ref h0) (C := RX10) (T := TX10) (N := 10) hx hb hg i_X10 hown hK hP 4 rfl rfl 2 (by decide) (hg _ m_257) (fun _ h9 => h9) rfl dX10_tellOn_129 ?_
              refine lv_dup hx hb dX10_tellOn_132 rfl ?_
              refine va_get (D := D) (ci := 4) (v := .int (nI on9)) (C := RX4) (T := TX4) (N := 16) hx hb hg i_X4 hown hK hP 6 rfl rfl 12 (by decide) (hg _ m_372) (fun _ h9 => h9) rfl dX10_tellOn_133 ?_
              refine lv_iconst (v := 1) hx hb dX10_tellOn_136 (by decide) ?_
              refine lv_iadd hx hb dX10_tellOn_137 ?_
              refine lv_topi (fun y_107 hy_107 => ?_)
              obtain rfl : y_107 = nI (on9 + 1) := hy_107.trans (nI_add on9 1)
              refine va_put (D := D) (ci := 4) (v := .int (nI (on9 + 1))) (ty := .int) (C := RX4) (T := TX4) (N := 16) hx hb hg i_X4 tyX4 tyX4_ok nmX4 hown hK hP hD hS 6 rfl rfl 12 (by decide) (hg _ m_372) (fun _ h9 => h9) rfl (by decide +kernel) rfl rfl (Nat.le_of_ble_eq_true rfl) dX10_tellOn_138 (fun H locs hP9 hD9 hS9 => ?_)
              clear hP hD hS
              refine reW [wI (cy 1) h7 48 (g_105), (d2, .inl (cy 2, 8, .inr (.inl (fd0)))), wI (cy 0) t1 1600 (fby), (t2, .inl (cy 2, 24, .inr (.inl (fky)))), wO d0 10 [.ref t0, .ref d1, .ref h0, yf, .int uh, .int wt, .int dt, .int vv, .int fq, .int pq], wO t0 9 [.ref t1, .ref t2, .int (nI tn), .int (nI ta2_67), .int (nI ts2_68), .int (nI tk2_69), .long tm2_70, .int tr2_71], wO h0 4 [.ref h1, .ref h2, .ref h3, .ref h4, .ref h5, .ref h6, .ref h7, .ref h8, .ref h9, .ref h10, .ref h11, hv0, .int (nI (on9 + 1)), hv2, hv3, hv4], wI (cy 1) h1 4 (fc), (d1, .inl (cy 5, 4, .inr (.inr (.inr (.inr (eF d2 d3 d4 d5)))))), (d5, .inl (cy 2, 8, .inr (.inl (fd3))))] hP9 hD9 hS9 (fun hP hD hS => ?_)
              clear hP9 hD9 hS9
              refine lv_aload_n hx hb dX10_tellOn_141 rfl (lv_at hl 4 rfl) ?_
              refine va_get (D := D) (ci := 10) (v := .ref t0) (C := RX10) (T := TX10) (N := 10) hx hb hg i_X10 hown hK hP 4 rfl rfl 0 (by decide) (hg _ m_255) (fun _ h9 => h9) rfl dX10_tellOn_142 ?_
              refine x_callVv (q := (RX9, TX9, 8)) (ci := 9) (q0 := 0) (wr := [wI (cy 1) h7 48 (g_105), (d2, .inl (cy 2, 8, .inr (.inl (fd0)))), wO d0 10 [.ref t0, .ref d1, .ref h0, yf, .int uh, .int wt, .int dt, .int vv, .int fq, .int pq], wO h0 4 [.ref h1, .ref h2, .ref h3, .ref h4, .ref h5, .ref h6, .ref h7, .ref h8, .ref h9, .ref h10, .ref h11, hv0, .int (nI (on9 + 1)), hv2, hv3, hv4], wI (cy 1) h1 4 (fc), (d1, .inl (cy 5, 4, .inr (.inr (.inr (.inr (eF d2 d3 d4 d5)))))), (d5, .inl (cy 2, 8, .inr (.inl (fd3))))]) (rest := []) ⟨hx, hb, hml, hown, hg, hl.1⟩ k_X10_140 (s_next l D cy adK adV t0 t1 t2 tn ta2_67 ts2_68 tk2_69 tm2_70 tr2_71 fby fky (fin fby tn (fin fby tn (fin fby tn (fin fby tn (fin fby tn ga))))) (by omega) (by omega) (a_82.2.1) (hky)) EV_blind hK hP hD hS hA [5, 2, 3] [0, 1, 4, 6, 7, 8, 9] ⟨rfl, rfl, by decide +kernel, by decide +kernel, by decide +kernel⟩ rfl rfl (fun U hU hW => EV_pass hE hS (va_free hD hS hA [5, 2, 3] rfl) hU hW) dX10_tellOn_145 rfl rfl (Nat.le_of_ble_eq_true rfl) ⟨Nat.le_of_ble_eq_true rfl, Nat.le_of_ble_eq_true rfl⟩ ⟨Nat.le_of_ble_eq_true rfl, Nat.le_of_ble_eq_true rfl⟩ (fun zu108 H locs hw108 hP9 hD9 hS9 => ?_)
              clear hP hD hS
              obtain ⟨ta2_109, ts2_110, tk2_111, tm2_112, tr2_113⟩ := zu108
              refine reW [wI (cy 1) h7 48 (g_105), (d2, .inl (cy 2, 8, .inr (.inl (fd0)))), wO d0 10 [.ref t0, .ref d1, .ref h0, yf, .int uh, .int wt, .int dt, .int vv, .int fq, .int pq], wO h0 4 [.ref h1, .ref h2, .ref h3, .ref h4, .ref h5, .ref h6, .ref h7, .ref h8, .ref h9, .ref h10, .ref h11, hv0, .int (nI (on9 + 1)), hv2, hv3, hv4], wI (cy 1) h1 4 (fc), (d1, .inl (cy 5, 4, .inr (.inr (.inr (.inr (eF d2 d3 d4 d5)))))), (d5, .inl (cy 2, 8, .inr (.inl (fd3)))), wO t0 9 [.ref t1, .ref t2, .int (nI tn), .int (nI ta2_109), .int (nI ts2_110), .int (nI tk2_111), .long tm2_112, .int tr2_113], wI (cy 0) t1 1600 (fby), (t2, .inl (cy 2, 24, .inr (.inl (fky))))] hP9 hD9 hS9 (fun hP hD hS => ?_)
              clear hP9 hD9 hS9
              refine W.widen (k := 0) (n := 0) (Nat.le_of_ble_eq_true rfl) (Nat.le_of_ble_eq_true rfl) ?_
              replace hw108 : (ta2_109 ≤ tn) ∧ (tk2_111 ≤ 123) ∧ (tkC fby tn (fin fby tn (fin fby tn (fin fby tn (fin fby tn (fin fby tn ga))))) ta2_109 ts2_110 tk2_111 tm2_112 tr2_113) := hw108
              obtain ⟨f_114, f_115, f_116⟩ := hw108
              have hgt_117 : fin fby tn (fin fby tn (fin fby tn (fin fby tn ga))) ≤ fin fby tn (fin fby tn (fin fby tn (fin fby tn (fin fby tn ga)))) ∧ fin fby tn (fin fby tn (fin fby tn (fin fby tn (fin fby tn ga)))) ≤ tn := ⟨fin_ge _ _ _, fin_le (by omega)⟩
              refine lv_aload_n hx hb dX10_tellOn_148 rfl (lv_at hl 4 rfl) ?_
              refine lv_bipush (v := 59) hx hb dX10_tellOn_149 (by decide) ?_
              refine x_callVi (q := (RX10, TX10, 10)) (ci := 10) (q0 := 0) (wr := [wI (cy 1) h7 48 (g_105), (d2, .inl (cy 2, 8, .inr (.inl (fd0)))), wO h0 4 [.ref h1, .ref h2, .ref h3, .ref h4, .ref h5, .ref h6, .ref h7, .ref h8, .ref h9, .ref h10, .ref h11, hv0, .int (nI (on9 + 1)), hv2, hv3, hv4], wI (cy 1) h1 4 (fc), (d1, .inl (cy 5, 4, .inr (.inr (.inr (.inr (eF d2 d3 d4 d5)))))), (d5, .inl (cy 2, 8, .inr (.inl (fd3))))]) (rest := []) ⟨hx, hb, hml, hown, hg, hl.1⟩ k_X10_128 (s_take l D cy adK adV d0 d1 uh wt dt vv fq pq ((.ref h0)) yf t0 t1 t2 tn ta2_109 ts2_110 tk2_111 tm2_112 tr2_113 fby fky (fin fby tn (fin fby tn (fin fby tn (fin fby tn (fin fby tn ga))))) 59 (by omega) (by omega) (by omega) (f_116) (hky) (by omega)) EV_blind hK hP hD hS hA [2, 7, 8, 9] [0, 1, 3, 4, 5, 6] ⟨rfl, rfl, by decide +kernel, by decide +kernel, by decide +kernel⟩ rfl rfl (fun U hU hW => EV_pass hE hS (va_free hD hS hA [2, 7, 8, 9] rfl) hU hW) dX10_tellOn_151 rfl rfl (Nat.le_of_ble_eq_true rfl) ⟨Nat.le_of_ble_eq_true rfl, Nat.le_of_ble_eq_true rfl⟩ ⟨Nat.le_of_ble_eq_true rfl, Nat.le_of_ble_eq_true rfl⟩ (fun zr118 zu118 H locs hw118 hP9 hD9 hS9 => ?_)
              clear hP hD hS
              obtain ⟨ta2_119, ts2_120, tk2_121, tm2_122, tr2_123, fq2_124, pq2_125, co9_126, b9_127⟩ := zu118
              refine reW [wI (cy 1) h7 48 (g_105), (d2, .inl (cy 2, 8, .inr (.inl (fd0)))), wO h0 4 [.ref h1, .ref h2, .ref h3, .ref h4, .ref h5, .ref h6, .ref h7, .ref h8, .ref h9, .ref h10, .ref h11, hv0, .int (nI (on9 + 1)), hv2, hv3, hv4], wI (cy 1) h1 4 (fc), (d1, .inl (cy 5, 4, .inr (.inr (.inr (.inr (eF d2 d3 d4 d5)))))), (d5, .inl (cy 2, 8, .inr (.inl (fd3)))), wO d0 10 [.ref t0, .ref d1, .ref h0, yf, .int uh, .int wt, .int dt, .int vv, .int fq2_124, .int pq2_125], wO t0 9 [.ref t1, .ref t2, .int (nI tn), .int (nI ta2_119), .int (nI ts2_120), .int (nI tk2_121), .long tm2_122, .int tr2_123], wI (cy 0) t1 1600 (fby), (t2, .inl (cy 2, 24, .inr (.inl (fky))))] hP9 hD9 hS9 (fun hP hD hS => ?_)
              clear hP9 hD9 hS9
              refine W.widen (k := 0) (n := 0) (Nat.le_of_ble_eq_true rfl) (Nat.le_of_ble_eq_true rfl) ?_
              replace hw118 : (ta2_119 ≤ tn) ∧ (tk2_121 ≤ 123) ∧ ((zr118 = 1 ∧ (takS fby tn 59 (fin fby tn (fin fby tn (fin fby tn (fin fby tn (fin fby tn ga))))) = .inr (fin fby tn (fin fby tn (fin fby tn (fin fby tn (fin fby tn (fin fby tn ga))))))) ∧ (fq = fq2_124) ∧ (pq = pq2_125) ∧ (tkC fby tn (fin fby tn (fin fby tn (fin fby tn (fin fby tn (fin fby tn (fin fby tn ga)))))) ta2_119 ts2_120 tk2_121 tm2_122 tr2_123) ∧ (knd fby tn (fin fby tn (fin fby tn (fin fby tn (fin fby tn (fin fby tn ga))))) = 59)) ∨ (zr118 = 0 ∧ (takS fby tn 59 (fin fby tn (fin fby tn (fin fby tn (fin fby tn (fin fby tn ga))))) = .inl (co9_126, b9_127)) ∧ (flt fby tn b9_127 co9_126 fq2_124 pq2_125) ∧ (¬ knd fby tn (fin fby tn (fin fby tn (fin fby tn (fin fby tn (fin fby tn ga))))) = 59))) := hw118
              obtain ⟨f_128, f_129, f_130⟩ := hw118
              rcases f_130 with ⟨hz_136, a_131, a_132, a_133, a_134, a_135⟩ | ⟨hz_140, a_137, a_138, a_139⟩
              · subst hz_136
                subst a_132
                subst a_133
                have hgt_141 : fin fby tn (fin fby tn (fin fby tn (fin fby tn (fin fby tn ga)))) < fin fby tn (fin fby tn (fin fby tn (fin fby tn (fin fby tn (fin fby tn ga))))) ∧ fin fby tn (fin fby tn (fin fby tn (fin fby tn (fin fby tn (fin fby tn ga))))) ≤ tn := ⟨fin_gt (by rw [a_135]; decide), fin_le (by omega)⟩
                exact x_zret hQ hx hb hr hlocks hK hP hD hS rfl dX10_tellOn_154 (ta2_119, ts2_120, tk2_121, tm2_122, tr2_123, fq, pq, (on9 + 1), g_105, jr_16 * 8 + jr_41, jr_93, fin fby tn (fin fby tn (fin fby tn (fin fby tn (fin fby tn (fin fby tn ga))))), 0, 0) (⟨(show ta2_119 ≤ tn from by omega), (show tk2_121 ≤ 123 from by omega), hr_106, (show ((on9 + 1)) ≤ 30 from by omega), (show ((1 : Int32) = 1 ∧ (onnS fby tn on9 c3 np3 c0 np0 fx ga = .inr ((jr_16 * 8 + jr_41), jr_93, (fin fby tn (fin fby tn (fin fby tn (fin fby tn (fin fby tn (fin fby tn ga)))))))) ∧ (fq = fq) ∧ (pq = pq) ∧ (tkC fby tn ((fin fby tn (fin fby tn (fin fby tn (fin fby tn (fin fby tn (fin fby tn ga))))))) ta2_119 ts2_120 tk2_121 tm2_122 tr2_123) ∧ (on9 + 1 = ((on9 + 1))) ∧ ((jr_16 * 8 + jr_41) < c3 * 8) ∧ (jr_93 ≤ 5) ∧ (g_105 = upd fx (jr_16 * 8 + jr_41) (nI jr_93)) ∧ (ga < (fin fby tn (fin fby tn (fin fby tn (fin fby tn (fin fby tn (fin fby tn ga)))))) ∧ (fin fby tn (fin fby tn (fin fby tn (fin fby tn (fin fby tn (fin fby tn ga)))))) ≤ tn)) ∨ ((1 : Int32) = 0 ∧ (onnS fby tn on9 c3 np3 c0 np0 fx ga = .inl (0, 0)) ∧ (flt fby tn 0 0 fq pq)) from Or.inl ⟨rfl, ((if_neg (by omega)).trans ((bnd_r _ a_20).trans ((bnd_r _ a_45).trans ((if_pos hfx75).trans ((bnd_r _ a_79).trans ((bnd_r _ a_97).trans (bnd_r _ a_131))))))), (rfl), (rfl), (a_134), (rfl), (by omega), (by omega), (upd_1 (by omega) eg_105), (⟨by omega, by omega⟩)⟩)⟩) [6, 7, 8, 9, 2, 3, 0, 4, 1, 5] (by decide +kernel) rfl (Nat.le_of_ble_eq_true rfl) (Nat.le_of_ble_eq_true rfl)
              · subst hz_140
                exact x_zret hQ hx hb hr hlocks hK hP hD hS rfl dX10_tellOn_154 (ta2_119, ts2_120, tk2_121, tm2_122, tr2_123, fq2_124, pq2_125, (on9 + 1), g_105, 0, 0, 0, co9_126, b9_127) (⟨(show ta2_119 ≤ tn from by omega), (show tk2_121 ≤ 123 from by omega), hr_106, (show ((on9 + 1)) ≤ 30 from by omega), (show ((0 : Int32) = 1 ∧ (onnS fby tn on9 c3 np3 c0 np0 fx ga = .inr (0, 0, 0)) ∧ (fq = fq2_124) ∧ (pq = pq2_125) ∧ (tkC fby tn (0) ta2_119 ts2_120 tk2_121 tm2_122 tr2_123) ∧ (on9 + 1 = ((on9 + 1))) ∧ (0 < c3 * 8) ∧ (0 ≤ 5) ∧ (g_105 = upd fx 0 (nI 0)) ∧ (ga < 0 ∧ 0 ≤ tn)) ∨ ((0 : Int32) = 0 ∧ (onnS fby tn on9 c3 np3 c0 np0 fx ga = .inl (co9_126, b9_127)) ∧ (flt fby tn b9_127 co9_126 fq2_124 pq2_125)) from Or.inr (⟨rfl, ((if_neg (by omega)).trans ((bnd_r _ a_20).trans ((bnd_r _ a_45).trans ((if_pos hfx75).trans ((bnd_r _ a_79).trans ((bnd_r _ a_97).trans (bnd_l _ a_137))))))), (a_138)⟩))⟩) [6, 7, 8, 9, 2, 3, 0, 4, 1, 5] (by decide +kernel) rfl (Nat.le_of_ble_eq_true rfl) (Nat.le_of_ble_eq_true rfl)
            · subst hz_104
              refine lv_istore (lv' := [(4, .int (-1)), (3, .int (nI ((jr_16 * 8) + jr_41))), (2, .int (nI jr_41)), (1, .int (nI jr_16)), (0, .ref d0)]) hx hb dX10_tellOn_107 hl (by decide) rfl (fun ls hl => ?_)
              refine lv_iload hx hb dX10_tellOn_109 (lv_at hl 0 rfl) ?_
              refine lv_iconst (v := -1) hx hb dX10_tellOn_111 (by decide) ?_
              refine lv_icmp_ne (tgt := 117) hx hb dX10_tellOn_112 (by decide) (fun h => absurd (by decide) h) (fun _ => ?_)
              refine lv_iconst (v := 0) hx hb dX10_tellOn_115 (by decide) ?_
              exact x_zret hQ hx hb hr hlocks hK hP hD hS rfl dX10_tellOn_116 (ta2_67, ts2_68, tk2_69, tm2_70, tr2_71, fq2_91, pq2_92, on9, fx, 0, 0, 0, co9_94, b9_95) (⟨(show ta2_67 ≤ tn from by omega), (show tk2_69 ≤ 123 from by omega), hnx, (show on9 ≤ 30 from by omega), (show ((0 : Int32) = 1 ∧ (onnS fby tn on9 c3 np3 c0 np0 fx ga = .inr (0, 0, 0)) ∧ (fq = fq2_91) ∧ (pq = pq2_92) ∧ (tkC fby tn (0) ta2_67 ts2_68 tk2_69 tm2_70 tr2_71) ∧ (on9 + 1 = on9) ∧ (0 < c3 * 8) ∧ (0 ≤ 5) ∧ (fx = upd fx 0 (nI 0)) ∧ (ga < 0 ∧ 0 ≤ tn)) ∨ ((0 : Int32) = 0 ∧ (onnS fby tn on9 c3 np3 c0 np0 fx ga = .inl (co9_94, b9_95)) ∧ (flt fby tn b9_95 co9_94 fq2_91 pq2_92)) from Or.inr (⟨rfl, ((if_neg (by omega)).trans ((bnd_r _ a_20).trans ((bnd_r _ a_45).trans ((if_pos hfx75).trans ((bnd_r _ a_79).trans (bnd_l _ a_102)))))), (a_103)⟩))⟩) [4, 5, 2, 3, 6, 7, 0, 8, 1, 9] (by decide +kernel) rfl (Nat.le_of_ble_eq_true rfl) (Nat.le_of_ble_eq_true rfl)
          · subst hz_88
            refine lv_if_ne (tgt := 102) hx hb dX10_tellOn_97 (by decide) (fun h => absurd (by decide) h) (fun _ => ?_)
            refine lv_iconst (v := 0) hx hb dX10_tellOn_100 (by decide) ?_
            exact x_zret hQ hx hb hr hlocks hK hP hD hS rfl dX10_tellOn_101 (ta2_67, ts2_68, tk2_69, tm2_70, tr2_71, fq2_72, pq2_73, on9, fx, 0, 0, 0, co9_74, b9_75) (⟨(show ta2_67 ≤ tn from by omega), (show tk2_69 ≤ 123 from by omega), hnx, (show on9 ≤ 30 from by omega), (show ((0 : Int32) = 1 ∧ (onnS fby tn on9 c3 np3 c0 np0 fx ga = .inr (0, 0, 0)) ∧ (fq = fq2_72) ∧ (pq = pq2_73) ∧ (tkC fby tn (0) ta2_67 ts2_68 tk2_69 tm2_70 tr2_71) ∧ (on9 + 1 = on9) ∧ (0 < c3 * 8) ∧ (0 ≤ 5) ∧ (fx = upd fx 0 (nI 0)) ∧ (ga < 0 ∧ 0 ≤ tn)) ∨ ((0 : Int32) = 0 ∧ (onnS fby tn on9 c3 np3 c0 np0 fx ga = .inl (co9_74, b9_75)) ∧ (flt fby tn b9_75 co9_74 fq2_72 pq2_73)) from Or.inr (⟨rfl, ((if_neg (by omega)).trans ((bnd_r _ a_20).trans ((bnd_r _ a_45).trans ((if_pos hfx75).trans (bnd_l _ a_85))))), (a_86)⟩))⟩) [6, 7, 8, 9, 2, 3, 0, 4, 5, 1] (by decide +kernel) rfl (Nat.le_of_ble_eq_true rfl) (Nat.le_of_ble_eq_true rfl)
        · have hfx75 : ¬ fx (jr_16 * 8 + jr_41) = -1 := by have h9 := ex_55; rw [nI_clamp (by omega)] at h9; rw [← h9]; exact c_75
          refine lv_aload_n hx hb dX10_tellOn_78 rfl (lv_at hl 3 rfl) ?_
          refine lv_iconst (v := 3) hx hb dX10_tellOn_79 (by decide) ?_
          refine x_callVi (q := (RX10, TX10, 10)) (ci := 10) (q0 := 0) (wr := [wI (cy 1) h7 48 (fx), (d5, .inl (cy 2, 8, .inr (.inl (fd3)))), wI (cy 0) t1 1600 (fby), (t2, .inl (cy 2, 24, .inr (.inl (fky)))), wO h0 4 [.ref h1, .ref h2, .ref h3, .ref h4, .ref h5, .ref h6, .ref h7, .ref h8, .ref h9, .ref h10, .ref h11, hv0, .int (nI on9), hv2, hv3, hv4], wI (cy 1) h1 4 (fc), (d1, .inl (cy 5, 4, .inr (.inr (.inr (.inr (eF d2 d3 d4 d5)))))), (d2, .inl (cy 2, 8, .inr (.inl (fd0))))]) (rest := []) ⟨hx, hb, hml, hown, hg, hl.1⟩ k_X10_110 (s_fail l D cy d0 d1 uh wt dt vv fq pq ((.ref h0)) yf t0 t1 t2 tn ta2_29 ts2_30 tk2_31 tm2_32 tr2_33 3 (by omega)) E0_blind hK hP hD hS hA [4, 5] [0, 1, 2, 3, 6, 7, 8, 9] ⟨rfl, rfl, by decide +kernel, by decide +kernel, by decide +kernel⟩ rfl rfl (fun _ _ _ => trivial) dX10_tellOn_80 rfl rfl (Nat.le_of_ble_eq_true rfl) ⟨Nat.le_of_ble_eq_true rfl, Nat.le_of_ble_eq_true rfl⟩ ⟨Nat.le_of_ble_eq_true rfl, Nat.le_of_ble_eq_true rfl⟩ (fun zr142 zu142 H locs hw142 hP9 hD9 hS9 => ?_)
          clear hP hD hS
          obtain ⟨fq2_143, pq2_144⟩ := zu142
          refine reW [wI (cy 1) h7 48 (fx), (d5, .inl (cy 2, 8, .inr (.inl (fd3)))), wI (cy 0) t1 1600 (fby), (t2, .inl (cy 2, 24, .inr (.inl (fky)))), wO h0 4 [.ref h1, .ref h2, .ref h3, .ref h4, .ref h5, .ref h6, .ref h7, .ref h8, .ref h9, .ref h10, .ref h11, hv0, .int (nI on9), hv2, hv3, hv4], wI (cy 1) h1 4 (fc), (d1, .inl (cy 5, 4, .inr (.inr (.inr (.inr (eF d2 d3 d4 d5)))))), (d2, .inl (cy 2, 8, .inr (.inl (fd0)))), wO d0 10 [.ref t0, .ref d1, .ref h0, yf, .int uh, .int wt, .int dt, .int vv, .int fq2_143, .int pq2_144], wO t0 9 [.ref t1, .ref t2, .int (nI tn), .int (nI ta2_29), .int (nI ts2_30), .int (nI tk2_31), .long tm2_32, .int tr2_33]] hP9 hD9 hS9 (fun hP hD hS => ?_)
          clear hP9 hD9 hS9
          refine W.widen (k := 0) (n := 0) (Nat.le_of_ble_eq_true rfl) (Nat.le_of_ble_eq_true rfl) ?_
          replace hw142 : ((zr142 = 0 ∧ (fq2_143 = nI (if tk2_31 = 3 then 1 else 3)) ∧ (pq2_144 = nI ts2_30))) := hw142
          have f_145 := hw142
          rcases f_145 with ⟨hz_148, a_146, a_147⟩
          subst hz_148
          exact x_zret hQ hx hb hr hlocks hK hP hD hS rfl dX10_tellOn_83 (ta2_29, ts2_30, tk2_31, tm2_32, tr2_33, fq2_143, pq2_144, on9, fx, 0, 0, 0, 3, fin fby tn (fin fby tn ga)) (⟨(show ta2_29 ≤ tn from by omega), (show tk2_31 ≤ 123 from by omega), hnx, (show on9 ≤ 30 from by omega), (show ((0 : Int32) = 1 ∧ (onnS fby tn on9 c3 np3 c0 np0 fx ga = .inr (0, 0, 0)) ∧ (fq = fq2_143) ∧ (pq = pq2_144) ∧ (tkC fby tn (0) ta2_29 ts2_30 tk2_31 tm2_32 tr2_33) ∧ (on9 + 1 = on9) ∧ (0 < c3 * 8) ∧ (0 ≤ 5) ∧ (fx = upd fx 0 (nI 0)) ∧ (ga < 0 ∧ 0 ≤ tn)) ∨ ((0 : Int32) = 0 ∧ (onnS fby tn on9 c3 np3 c0 np0 fx ga = .inl (3, (fin fby tn (fin fby tn ga)))) ∧ (flt fby tn (fin fby tn (fin fby tn ga)) 3 fq2_143 pq2_144)) from Or.inr (⟨rfl, ((if_neg (by omega)).trans ((bnd_r _ a_20).trans ((bnd_r _ a_45).trans (if_neg hfx75)))), (flt_of f_36 a_146 a_147)⟩))⟩) [8, 9, 2, 3, 4, 5, 0, 6, 7, 1] (by decide +kernel) rfl (Nat.le_of_ble_eq_true rfl) (Nat.le_of_ble_eq_true rfl)
      · subst hz_52
        refine lv_istore_n (lv' := [(2, .int (-1)), (1, .int (nI jr_16)), (0, .ref d0)]) hx hb dX10_tellOn_50 rfl hl (by decide) rfl (fun ls hl => ?_)
        refine lv_iload_n hx hb dX10_tellOn_51 rfl (lv_at hl 0 rfl) ?_
        refine lv_iconst (v := -1) hx hb dX10_tellOn_52 (by decide) ?_
        refine lv_icmp_ne (tgt := 58) hx hb dX10_tellOn_53 (by decide) (fun h => absurd (by decide) h) (fun _ => ?_)
        refine lv_iconst (v := 0) hx hb dX10_tellOn_56 (by decide) ?_
        exact x_zret hQ hx hb hr hlocks hK hP hD hS rfl dX10_tellOn_57 (ta2_29, ts2_30, tk2_31, tm2_32, tr2_33, fq2_39, pq2_40, on9, fx, 0, 0, 0, co9_42, b9_43) (⟨(show ta2_29 ≤ tn from by omega), (show tk2_31 ≤ 123 from by omega), hnx, (show on9 ≤ 30 from by omega), (show ((0 : Int32) = 1 ∧ (onnS fby tn on9 c3 np3 c0 np0 fx ga = .inr (0, 0, 0)) ∧ (fq = fq2_39) ∧ (pq = pq2_40) ∧ (tkC fby tn (0) ta2_29 ts2_30 tk2_31 tm2_32 tr2_33) ∧ (on9 + 1 = on9) ∧ (0 < c3 * 8) ∧ (0 ≤ 5) ∧ (fx = upd fx 0 (nI 0)) ∧ (ga < 0 ∧ 0 ≤ tn)) ∨ ((0 : Int32) = 0 ∧ (onnS fby tn on9 c3 np3 c0 np0 fx ga = .inl (co9_42, b9_43)) ∧ (flt fby tn b9_43 co9_42 fq2_39 pq2_40)) from Or.inr (⟨rfl, ((if_neg (by omega)).trans ((bnd_r _ a_20).trans (bnd_l _ a_50))), (a_51)⟩))⟩) [4, 5, 2, 3, 6, 7, 0, 8, 9, 1] (by decide +kernel) rfl (Nat.le_of_ble_eq_true rfl) (Nat.le_of_ble_eq_true rfl)
    · subst hz_27
      refine lv_istore_n (lv' := [(1, .int (-1)), (0, .ref d0)]) hx hb dX10_tellOn_30 rfl hl (by decide) rfl (fun ls hl => ?_)
      refine lv_iload_n hx hb dX10_tellOn_31 rfl (lv_at hl 0 rfl) ?_
      refine lv_iconst (v := -1) hx hb dX10_tellOn_32 (by decide) ?_
      refine lv_icmp_ne (tgt := 38) hx hb dX10_tellOn_33 (by decide) (fun h => absurd (by decide) h) (fun _ => ?_)
      refine lv_iconst (v := 0) hx hb dX10_tellOn_36 (by decide) ?_
      exact x_zret hQ hx hb hr hlocks hK hP hD hS rfl dX10_tellOn_37 (ta2_4, ts2_5, tk2_6, tm2_7, tr2_8, fq2_14, pq2_15, on9, fx, 0, 0, 0, co9_17, b9_18) (⟨(show ta2_4 ≤ tn from by omega), (show tk2_6 ≤ 123 from by omega), hnx, (show on9 ≤ 30 from by omega), (show ((0 : Int32) = 1 ∧ (onnS fby tn on9 c3 np3 c0 np0 fx ga = .inr (0, 0, 0)) ∧ (fq = fq2_14) ∧ (pq = pq2_15) ∧ (tkC fby tn (0) ta2_4 ts2_5 tk2_6 tm2_7 tr2_8) ∧ (on9 + 1 = on9) ∧ (0 < c3 * 8) ∧ (0 ≤ 5) ∧ (fx = upd fx 0 (nI 0)) ∧ (ga < 0 ∧ 0 ≤ tn)) ∨ ((0 : Int32) = 0 ∧ (onnS fby tn on9 c3 np3 c0 np0 fx ga = .inl (co9_17, b9_18)) ∧ (flt fby tn b9_18 co9_17 fq2_14 pq2_15)) from Or.inr (⟨rfl, ((if_neg (by omega)).trans (bnd_l _ a_25)), (a_26)⟩))⟩) [4, 5, 2, 3, 6, 7, 0, 8, 1, 9] (by decide +kernel) rfl (Nat.le_of_ble_eq_true rfl) (Nat.le_of_ble_eq_true rfl)
  · have q_2 : 30 ≤ on9 := q_nlt (a := on9) (b := 30) rfl rfl (by omega) (by omega) c_1
    refine lv_aload_n hx hb dX10_tellOn_12 rfl (lv_at hl 0 rfl) ?_
    refine lv_iconst (v := 2) hx hb dX10_tellOn_13 (by decide) ?_
    refine x_callVi (q := (RX10, TX10, 10)) (ci := 10) (q0 := 0) (wr := [wI (cy 0) t1 1600 (fby), (t2, .inl (cy 2, 24, .inr (.inl (fky)))), wO h0 4 [.ref h1, .ref h2, .ref h3, .ref h4, .ref h5, .ref h6, .ref h7, .ref h8, .ref h9, .ref h10, .ref h11, hv0, .int (nI on9), hv2, hv3, hv4], wI (cy 1) h1 4 (fc), wI (cy 1) h7 48 (fx), (d1, .inl (cy 5, 4, .inr (.inr (.inr (.inr (eF d2 d3 d4 d5)))))), (d2, .inl (cy 2, 8, .inr (.inl (fd0)))), (d5, .inl (cy 2, 8, .inr (.inl (fd3))))]) (rest := []) ⟨hx, hb, hml, hown, hg, hl.1⟩ k_X10_110 (s_fail l D cy d0 d1 uh wt dt vv fq pq ((.ref h0)) yf t0 t1 t2 tn ta ts tk tm tr 2 (by omega)) E0_blind hK hP hD hS hA [0, 1] [2, 3, 4, 5, 6, 7, 8, 9] ⟨rfl, rfl, by decide +kernel, by decide +kernel, by decide +kernel⟩ rfl rfl (fun _ _ _ => trivial) dX10_tellOn_14 rfl rfl (Nat.le_of_ble_eq_true rfl) ⟨Nat.le_of_ble_eq_true rfl, Nat.le_of_ble_eq_true rfl⟩ ⟨Nat.le_of_ble_eq_true rfl, Nat.le_of_ble_eq_true rfl⟩ (fun zr149 zu149 H locs hw149 hP9 hD9 hS9 => ?_)
    clear hP hD hS
    obtain ⟨fq2_150, pq2_151⟩ := zu149
    refine reW [wI (cy 0) t1 1600 (fby), (t2, .inl (cy 2, 24, .inr (.inl (fky)))), wO h0 4 [.ref h1, .ref h2, .ref h3, .ref h4, .ref h5, .ref h6, .ref h7, .ref h8, .ref h9, .ref h10, .ref h11, hv0, .int (nI on9), hv2, hv3, hv4], wI (cy 1) h1 4 (fc), wI (cy 1) h7 48 (fx), (d1, .inl (cy 5, 4, .inr (.inr (.inr (.inr (eF d2 d3 d4 d5)))))), (d2, .inl (cy 2, 8, .inr (.inl (fd0)))), (d5, .inl (cy 2, 8, .inr (.inl (fd3)))), wO d0 10 [.ref t0, .ref d1, .ref h0, yf, .int uh, .int wt, .int dt, .int vv, .int fq2_150, .int pq2_151], wO t0 9 [.ref t1, .ref t2, .int (nI tn), .int (nI ta), .int (nI ts), .int (nI tk), .long tm, .int tr]] hP9 hD9 hS9 (fun hP hD hS => ?_)
    clear hP9 hD9 hS9
    refine W.widen (k := 0) (n := 0) (Nat.le_of_ble_eq_true rfl) (Nat.le_of_ble_eq_true rfl) ?_
    replace hw149 : ((zr149 = 0 ∧ (fq2_150 = nI (if tk = 3 then 1 else 2)) ∧ (pq2_151 = nI ts))) := hw149
    have f_152 := hw149
    rcases f_152 with ⟨hz_155, a_153, a_154⟩
    subst hz_155
    exact x_zret hQ hx hb hr hlocks hK hP hD hS rfl dX10_tellOn_17 (ta, ts, tk, tm, tr, fq2_150, pq2_151, on9, fx, 0, 0, 0, 2, ga) (⟨(show ta ≤ tn from by omega), (show tk ≤ 123 from by omega), hnx, (show on9 ≤ 30 from by omega), (show ((0 : Int32) = 1 ∧ (onnS fby tn on9 c3 np3 c0 np0 fx ga = .inr (0, 0, 0)) ∧ (fq = fq2_150) ∧ (pq = pq2_151) ∧ (tkC fby tn (0) ta ts tk tm tr) ∧ (on9 + 1 = on9) ∧ (0 < c3 * 8) ∧ (0 ≤ 5) ∧ (fx = upd fx 0 (nI 0)) ∧ (ga < 0 ∧ 0 ≤ tn)) ∨ ((0 : Int32) = 0 ∧ (onnS fby tn on9 c3 np3 c0 np0 fx ga = .inl (2, ga)) ∧ (flt fby tn ga 2 fq2_150 pq2_151)) from Or.inr (⟨rfl, (if_pos (by omega)), (flt_of hti a_153 a_154)⟩))⟩) [8, 9, 0, 1, 2, 3, 4, 5, 6, 7] (by decide +kernel) rfl (Nat.le_of_ble_eq_true rfl) (Nat.le_of_ble_eq_true rfl)
theorem gdX10_tellWind_0 : decode cX10_tellWind 0 = .ok (.aload_n 0, 1) ∧ decode cX10_tellWind 1 = .ok (.getfield 40, 3) ∧ decode cX10_tellWind 4 = .ok (.ifCond .eq 9, 3) ∧ decode cX10_tellWind 13 = .ok (.aload_n 0, 1) ∧ decode cX10_tellWind 14 = .ok (.iconst 1, 1) ∧ decode cX10_tellWind 15 = .ok (.putfield 40, 3) ∧ decode cX10_tellWind 18 = .ok (.aload_n 0, 1) ∧ decode cX10_tellWind 19 = .ok (.getfield 16, 3) ∧ decode cX10_tellWind 22 = .ok (.invokevirtual 140, 3) ∧ decode cX10_tellWind 25 = .ok (.aload_n 0, 1) ∧ decode cX10_tellWind 26 = .ok (.bipush 9, 2) ∧ decode cX10_tellWind 28 = .ok (.invokevirtual 131, 3) := by decide +kernel
theorem dX10_tellWind_0 : decode cX10_tellWind 0 = .ok (.aload_n 0, 1) := gdX10_tellWind_0.1
theorem dX10_tellWind_1 : decode cX10_tellWind 1 = .ok (.getfield 40, 3) := gdX10_tellWind_0.2.1
theorem dX10_tellWind_4 : decode cX10_tellWind 4 = .ok (.ifCond .eq 9, 3) := gdX10_tellWind_0.2.2.1
theorem dX10_tellWind_13 : decode cX10_tellWind 13 = .ok (.aload_n 0, 1) := gdX10_tellWind_0.2.2.2.1
theorem dX10_tellWind_14 : decode cX10_tellWind 14 = .ok (.iconst 1, 1) := gdX10_tellWind_0.2.2.2.2.1
theorem dX10_tellWind_15 : decode cX10_tellWind 15 = .ok (.putfield 40, 3) := gdX10_tellWind_0.2.2.2.2.2.1
theorem dX10_tellWind_18 : decode cX10_tellWind 18 = .ok (.aload_n 0, 1) := gdX10_tellWind_0.2.2.2.2.2.2.1
theorem dX10_tellWind_19 : decode cX10_tellWind 19 = .ok (.getfield 16, 3) := gdX10_tellWind_0.2.2.2.2.2.2.2.1
theorem dX10_tellWind_22 : decode cX10_tellWind 22 = .ok (.invokevirtual 140, 3) := gdX10_tellWind_0.2.2.2.2.2.2.2.2.1
theorem dX10_tellWind_25 : decode cX10_tellWind 25 = .ok (.aload_n 0, 1) := gdX10_tellWind_0.2.2.2.2.2.2.2.2.2.1
theorem dX10_tellWind_26 : decode cX10_tellWind 26 = .ok (.bipush 9, 2) := gdX10_tellWind_0.2.2.2.2.2.2.2.2.2.2.1
theorem dX10_tellWind_28 : decode cX10_tellWind 28 = .ok (.invokevirtual 131, 3) := gdX10_tellWind_0.2.2.2.2.2.2.2.2.2.2.2
theorem gdX10_tellWind_31 : decode cX10_tellWind 31 = .ok (.ifCond .ne 5, 3) ∧ decode cX10_tellWind 36 = .ok (.aload_n 0, 1) ∧ decode cX10_tellWind 37 = .ok (.getfield 24, 3) ∧ decode cX10_tellWind 40 = .ok (.aload_n 0, 1) ∧ decode cX10_tellWind 41 = .ok (.getfield 134, 3) ∧ decode cX10_tellWind 44 = .ok (.putfield 152, 3) ∧ decode cX10_tellWind 47 = .ok (.aload_n 0, 1) ∧ decode cX10_tellWind 48 = .ok (.bipush 59, 2) ∧ decode cX10_tellWind 50 = .ok (.invokevirtual 128, 3) ∧ decode cX10_tellWind 53 = .ok (.ireturn, 1) ∧ decode cX10_tellWind 34 = .ok (.iconst 0, 1) ∧ decode cX10_tellWind 35 = .ok (.ireturn, 1) := by decide +kernel
theorem dX10_tellWind_31 : decode cX10_tellWind 31 = .ok (.ifCond .ne 5, 3) := gdX10_tellWind_31.1
theorem dX10_tellWind_36 : decode cX10_tellWind 36 = .ok (.aload_n 0, 1) := gdX10_tellWind_31.2.1
theorem dX10_tellWind_37 : decode cX10_tellWind 37 = .ok (.getfield 24, 3) := gdX10_tellWind_31.2.2.1
theorem dX10_tellWind_40 : decode cX10_tellWind 40 = .ok (.aload_n 0, 1) := gdX10_tellWind_31.2.2.2.1
theorem dX10_tellWind_41 : decode cX10_tellWind 41 = .ok (.getfield 134, 3) := gdX10_tellWind_31.2.2.2.2.1
theorem dX10_tellWind_44 : decode cX10_tellWind 44 = .ok (.putfield 152, 3) := gdX10_tellWind_31.2.2.2.2.2.1
theorem dX10_tellWind_47 : decode cX10_tellWind 47 = .ok (.aload_n 0, 1) := gdX10_tellWind_31.2.2.2.2.2.2.1
theorem dX10_tellWind_48 : decode cX10_tellWind 48 = .ok (.bipush 59, 2) := gdX10_tellWind_31.2.2.2.2.2.2.2.1
theorem dX10_tellWind_50 : decode cX10_tellWind 50 = .ok (.invokevirtual 128, 3) := gdX10_tellWind_31.2.2.2.2.2.2.2.2.1
theorem dX10_tellWind_53 : decode cX10_tellWind 53 = .ok (.ireturn, 1) := gdX10_tellWind_31.2.2.2.2.2.2.2.2.2.1
theorem dX10_tellWind_34 : decode cX10_tellWind 34 = .ok (.iconst 0, 1) := gdX10_tellWind_31.2.2.2.2.2.2.2.2.2.2.1
theorem dX10_tellWind_35 : decode cX10_tellWind 35 = .ok (.ireturn, 1) := gdX10_tellWind_31.2.2.2.2.2.2.2.2.2.2.2
theorem gdX10_tellWind_7 : decode cX10_tellWind 7 = .ok (.aload_n 0, 1) ∧ decode cX10_tellWind 8 = .ok (.iconst 2, 1) ∧ decode cX10_tellWind 9 = .ok (.invokevirtual 110, 3) ∧ decode cX10_tellWind 12 = .ok (.ireturn, 1) := by decide +kernel
theorem dX10_tellWind_7 : decode cX10_tellWind 7 = .ok (.aload_n 0, 1) := gdX10_tellWind_7.1
theorem dX10_tellWind_8 : decode cX10_tellWind 8 = .ok (.iconst 2, 1) := gdX10_tellWind_7.2.1
theorem dX10_tellWind_9 : decode cX10_tellWind 9 = .ok (.invokevirtual 110, 3) := gdX10_tellWind_7.2.2.1
theorem dX10_tellWind_12 : decode cX10_tellWind 12 = .ok (.ireturn, 1) := gdX10_tellWind_7.2.2.2
set_option maxHeartbeats 1000000 in
set_option maxRecDepth 100000 in
theorem s_tellWind (l : Launch) (D : va_G) (cy : Nat → ClassId) (adK : Nat → Nat) (adV : Nat → Nat) (d0 : Nat) (d1 : Nat) (uh : Int32) (wt : Int32) (dt : Int32) (vv : Int32) (fq : Int32) (pq : Int32) (yf : Value) (t0 : Nat) (t1 : Nat) (t2 : Nat) (tn : Nat) (ta : Nat) (ts : Nat) (tk : Nat) (tm : Int64) (tr : Int32) (fby : Nat → Int32) (fky : Nat → Int64) (h0 : Nat) (h1 : Nat) (h2 : Nat) (h3 : Nat) (h4 : Nat) (h5 : Nat) (h6 : Nat) (h7 : Nat) (h8 : Nat) (h9 : Nat) (h10 : Nat) (h11 : Nat) (hv0 : Value) (hv1 : Value) (hv3 : Value) (hv4 : Value) (hwi : Int32) (ga : Nat) (htn : tn ≤ 1600) (hta : ta ≤ tn) (htk : tk ≤ 123) (hti : tkC fby tn ga ta ts tk tm tr) (hky : kyOK fky) (hga : ga ≤ tn) : XMi l D (tyL cy) (EV adK adV) yX10_tellWind cX10_tellWind 1 (some .boolean) (rmk 8 0 0) [.ref d0] [wO d0 10 [.ref t0, .ref d1, .ref h0, yf, .int uh, .int wt, .int dt, .int vv, .int fq, .int pq], wO t0 9 [.ref t1, .ref t2, .int (nI tn), .int (nI ta), .int (nI ts), .int (nI tk), .long tm, .int tr], wI (cy 0) t1 1600 (fby), (t2, .inl (cy 2, 24, .inr (.inl (fky)))), wO h0 4 [.ref h1, .ref h2, .ref h3, .ref h4, .ref h5, .ref h6, .ref h7, .ref h8, .ref h9, .ref h10, .ref h11, hv0, hv1, .int hwi, hv3, hv4]] (fun (r : Int32) (u : Nat × Nat × Nat × Int64 × Int32 × Int32 × Int32 × Int32 × Int32 × Int32 × Nat × Nat × Nat × Nat) => (u.1 ≤ tn) ∧ (u.2.2.1 ≤ 123) ∧ ((r = 1 ∧ (wndS fby tn wt 9 ga = .inr (u.2.2.2.2.2.2.2.2.2.2.1, u.2.2.2.2.2.2.2.2.2.2.2.1)) ∧ (fq = u.2.2.2.2.2.1) ∧ (pq = u.2.2.2.2.2.2.1) ∧ (tkC fby tn (u.2.2.2.2.2.2.2.2.2.2.2.1) u.1 u.2.1 u.2.2.1 u.2.2.2.1 u.2.2.2.2.1) ∧ (1 = u.2.2.2.2.2.2.2.2.1) ∧ (nI u.2.2.2.2.2.2.2.2.2.2.1 = u.2.2.2.2.2.2.2.2.2.1) ∧ (u.2.2.2.2.2.2.2.2.2.2.1 ≤ 9) ∧ (ga < u.2.2.2.2.2.2.2.2.2.2.2.1 ∧ u.2.2.2.2.2.2.2.2.2.2.2.1 ≤ tn)) ∨ (r = 0 ∧ (wndS fby tn wt 9 ga = .inl (u.2.2.2.2.2.2.2.2.2.2.2.2.1, u.2.2.2.2.2.2.2.2.2.2.2.2.2)) ∧ (flt fby tn u.2.2.2.2.2.2.2.2.2.2.2.2.2 u.2.2.2.2.2.2.2.2.2.2.2.2.1 u.2.2.2.2.2.1 u.2.2.2.2.2.2.1)))) (fun (u : Nat × Nat × Nat × Int64 × Int32 × Int32 × Int32 × Int32 × Int32 × Int32 × Nat × Nat × Nat × Nat) => [wO d0 10 [.ref t0, .ref d1, .ref h0, yf, .int uh, .int u.2.2.2.2.2.2.2.2.1, .int dt, .int u.2.2.2.2.2.2.2.1, .int u.2.2.2.2.2.1, .int u.2.2.2.2.2.2.1], wO t0 9 [.ref t1, .ref t2, .int (nI tn), .int (nI u.1), .int (nI u.2.1), .int (nI u.2.2.1), .long u.2.2.2.1, .int u.2.2.2.2.1], wI (cy 0) t1 1600 (fby), (t2, .inl (cy 2, 24, .inr (.inl (fky)))), wO h0 4 [.ref h1, .ref h2, .ref h3, .ref h4, .ref h5, .ref h6, .ref h7, .ref h8, .ref h9, .ref h10, .ref h11, hv0, hv1, .int u.2.2.2.2.2.2.2.2.2.1, hv3, hv4]]) := by
  refine XMi.start (by decide) (Nat.le_of_ble_eq_true rfl) ?_
  intro p e s m below meth c args A ls Q hat hQ
  obtain ⟨hx, hb, hr, hml, hown, hg, hlocks, hin, hK, hA, hP, hD, hS, hE, hl⟩ := hat
  have hown : s.vm.findClass RX10 = some m.cls := hown
  have hl : lv_has ls 1 [(0, .ref d0)] := hl
  refine lv_aload_n hx hb dX10_tellWind_0 rfl (lv_at hl 0 rfl) ?_
  refine va_get (D := D) (ci := 10) (v := .int wt) (C := RX10) (T := TX10) (N := 10) hx hb hg i_X10 hown hK hP 0 rfl rfl 5 (by decide) (hg _ m_260) (fun _ h9 => h9) rfl dX10_tellWind_1 ?_
  refine lv_if_eq (tgt := 13) hx hb dX10_tellWind_4 (by decide) (fun c_4 => ?_) (fun c_4 => ?_)
  · refine lv_aload_n hx hb dX10_tellWind_13 rfl (lv_at hl 0 rfl) ?_
    refine lv_iconst (v := 1) hx hb dX10_tellWind_14 (by decide) ?_
    refine va_put (D := D) (ci := 10) (v := .int 1) (ty := .boolean) (C := RX10) (T := TX10) (N := 10) hx hb hg i_X10 tyX10 tyX10_ok nmX10 hown hK hP hD hS 0 rfl rfl 5 (by decide) (hg _ m_260) (fun _ h9 => h9) rfl (by decide +kernel) rfl rfl (Nat.le_of_ble_eq_true rfl) dX10_tellWind_15 (fun H locs hP9 hD9 hS9 => ?_)
    clear hP hD hS
    refine reW [wO d0 10 [.ref t0, .ref d1, .ref h0, yf, .int uh, .int 1, .int dt, .int vv, .int fq, .int pq], wO t0 9 [.ref t1, .ref t2, .int (nI tn), .int (nI ta), .int (nI ts), .int (nI tk), .long tm, .int tr], wI (cy 0) t1 1600 (fby), (t2, .inl (cy 2, 24, .inr (.inl (fky)))), wO h0 4 [.ref h1, .ref h2, .ref h3, .ref h4, .ref h5, .ref h6, .ref h7, .ref h8, .ref h9, .ref h10, .ref h11, hv0, hv1, .int hwi, hv3, hv4]] hP9 hD9 hS9 (fun hP hD hS => ?_)
    clear hP9 hD9 hS9
    refine lv_aload_n hx hb dX10_tellWind_18 rfl (lv_at hl 0 rfl) ?_
    refine va_get (D := D) (ci := 10) (v := .ref t0) (C := RX10) (T := TX10) (N := 10) hx hb hg i_X10 hown hK hP 0 rfl rfl 0 (by decide) (hg _ m_255) (fun _ h9 => h9) rfl dX10_tellWind_19 ?_
    refine x_callVv (q := (RX9, TX9, 8)) (ci := 9) (q0 := 0) (wr := [wO d0 10 [.ref t0, .ref d1, .ref h0, yf, .int uh, .int 1, .int dt, .int vv, .int fq, .int pq], wO h0 4 [.ref h1, .ref h2, .ref h3, .ref h4, .ref h5, .ref h6, .ref h7, .ref h8, .ref h9, .ref h10, .ref h11, hv0, hv1, .int hwi, hv3, hv4]]) (rest := []) ⟨hx, hb, hml, hown, hg, hl.1⟩ k_X10_140 (s_next l D cy adK adV t0 t1 t2 tn ta ts tk tm tr fby fky (fin fby tn ga) (by omega) (by omega) (hti.2.1) (hky)) EV_blind hK hP hD hS hA [1, 2, 3] [0, 4] ⟨rfl, rfl, by decide +kernel, by decide +kernel, by decide +kernel⟩ rfl rfl (fun U hU hW => EV_pass hE hS (va_free hD hS hA [1, 2, 3] rfl) hU hW) dX10_tellWind_22 rfl rfl (Nat.le_of_ble_eq_true rfl) ⟨Nat.le_of_ble_eq_true rfl, Nat.le_of_ble_eq_true rfl⟩ ⟨Nat.le_of_ble_eq_true rfl, Nat.le_of_ble_eq_true rfl⟩ (fun zu1 H locs hw1 hP9 hD9 hS9 => ?_)
    clear hP hD hS
    obtain ⟨ta2_2, ts2_3, tk2_4, tm2_5, tr2_6⟩ := zu1
    refine reW [wO d0 10 [.ref t0, .ref d1, .ref h0, yf, .int uh, .int 1, .int dt, .int vv, .int fq, .int pq], wO h0 4 [.ref h1, .ref h2, .ref h3, .ref h4, .ref h5, .ref h6, .ref h7, .ref h8, .ref h9, .ref h10, .ref h11, hv0, hv1, .int hwi, hv3, hv4], wO t0 9 [.ref t1, .ref t2, .int (nI tn), .int (nI ta2_2), .int (nI ts2_3), .int (nI tk2_4), .long tm2_5, .int tr2_6], wI (cy 0) t1 1600 (fby), (t2, .inl (cy 2, 24, .inr (.inl (fky))))] hP9 hD9 hS9 (fun hP hD hS => ?_)
    clear hP9 hD9 hS9
    refine W.widen (k := 0) (n := 0) (Nat.le_of_ble_eq_true rfl) (Nat.le_of_ble_eq_true rfl) ?_
    replace hw1 : (ta2_2 ≤ tn) ∧ (tk2_4 ≤ 123) ∧ (tkC fby tn (fin fby tn ga) ta2_2 ts2_3 tk2_4 tm2_5 tr2_6) := hw1
    obtain ⟨f_7, f_8, f_9⟩ := hw1
    have hgt_10 : ga ≤ fin fby tn ga ∧ fin fby tn ga ≤ tn := ⟨fin_ge _ _ _, fin_le (by omega)⟩
    refine lv_aload_n hx hb dX10_tellWind_25 rfl (lv_at hl 0 rfl) ?_
    refine lv_bipush (v := 9) hx hb dX10_tellWind_26 (by decide) ?_
    refine x_callVi (q := (RX10, TX10, 10)) (ci := 10) (q0 := 0) (wr := [wO h0 4 [.ref h1, .ref h2, .ref h3, .ref h4, .ref h5, .ref h6, .ref h7, .ref h8, .ref h9, .ref h10, .ref h11, hv0, hv1, .int hwi, hv3, hv4]]) (rest := []) ⟨hx, hb, hml, hown, hg, hl.1⟩ k_X10_131 (s_takeNumber l D cy adK adV d0 d1 uh 1 dt vv fq pq ((.ref h0)) yf t0 t1 t2 tn ta2_2 ts2_3 tk2_4 tm2_5 tr2_6 fby fky (fin fby tn ga) 9 (by omega) (by omega) (by omega) (f_9) (hky) (by omega)) EV_blind hK hP hD hS hA [0, 2, 3, 4] [1] ⟨rfl, rfl, by decide +kernel, by decide +kernel, by decide +kernel⟩ rfl rfl (fun U hU hW => EV_pass hE hS (va_free hD hS hA [0, 2, 3, 4] rfl) hU hW) dX10_tellWind_28 rfl rfl (Nat.le_of_ble_eq_true rfl) ⟨Nat.le_of_ble_eq_true rfl, Nat.le_of_ble_eq_true rfl⟩ ⟨Nat.le_of_ble_eq_true rfl, Nat.le_of_ble_eq_true rfl⟩ (fun zr11 zu11 H locs hw11 hP9 hD9 hS9 => ?_)
    clear hP hD hS
    obtain ⟨ta2_12, ts2_13, tk2_14, tm2_15, tr2_16, fq2_17, pq2_18, vv2_19, co9_20, b9_21⟩ := zu11
    refine reW [wO h0 4 [.ref h1, .ref h2, .ref h3, .ref h4, .ref h5, .ref h6, .ref h7, .ref h8, .ref h9, .ref h10, .ref h11, hv0, hv1, .int hwi, hv3, hv4], wO d0 10 [.ref t0, .ref d1, .ref h0, yf, .int uh, .int 1, .int dt, .int vv2_19, .int fq2_17, .int pq2_18], wO t0 9 [.ref t1, .ref t2, .int (nI tn), .int (nI ta2_12), .int (nI ts2_13), .int (nI tk2_14), .long tm2_15, .int tr2_16], wI (cy 0) t1 1600 (fby), (t2, .inl (cy 2, 24, .inr (.inl (fky))))] hP9 hD9 hS9 (fun hP hD hS => ?_)
    clear hP9 hD9 hS9
    refine W.widen (k := 0) (n := 0) (Nat.le_of_ble_eq_true rfl) (Nat.le_of_ble_eq_true rfl) ?_
    replace hw11 : (ta2_12 ≤ tn) ∧ (tk2_14 ≤ 123) ∧ ((zr11 = 1 ∧ (numS fby tn 9 (fin fby tn ga) = .inr (num fby tn (fin fby tn ga), fin fby tn (fin fby tn ga))) ∧ (fq = fq2_17) ∧ (pq = pq2_18) ∧ (tkC fby tn (fin fby tn (fin fby tn ga)) ta2_12 ts2_13 tk2_14 tm2_15 tr2_16) ∧ (nI (num fby tn (fin fby tn ga)) = vv2_19) ∧ (num fby tn (fin fby tn ga) ≤ 9)) ∨ (zr11 = 0 ∧ (numS fby tn 9 (fin fby tn ga) = .inl (co9_20, b9_21)) ∧ (flt fby tn b9_21 co9_20 fq2_17 pq2_18))) := hw11
    obtain ⟨f_22, f_23, f_24⟩ := hw11
    rcases f_24 with ⟨hz_31, a_25, a_26, a_27, a_28, a_29, a_30⟩ | ⟨hz_34, a_32, a_33⟩
    · subst hz_31
      subst a_26
      subst a_27
      subst a_29
      have hgt_35 : fin fby tn ga ≤ fin fby tn (fin fby tn ga) ∧ fin fby tn (fin fby tn ga) ≤ tn := ⟨fin_ge _ _ _, fin_le (by omega)⟩
      refine lv_if_ne (tgt := 36) hx hb dX10_tellWind_31 (by decide) (fun _ => ?_) (fun h => absurd h (by decide))
      refine lv_aload_n hx hb dX10_tellWind_36 rfl (lv_at hl 0 rfl) ?_
      refine va_get (D := D) (ci := 10) (v := .ref h0) (C := RX10) (T := TX10) (N := 10) hx hb hg i_X10 hown hK hP 1 rfl rfl 2 (by decide) (hg _ m_257) (fun _ h9 => h9) rfl dX10_tellWind_37 ?_
      refine lv_aload_n hx hb dX10_tellWind_40 rfl (lv_at hl 0 rfl) ?_
      refine va_get (D := D) (ci := 10) (v := .int (nI (num fby tn (fin fby tn ga)))) (C := RX10) (T := TX10) (N := 10) hx hb hg i_X10 hown hK hP 1 rfl rfl 7 (by decide) (hg _ m_262) (fun _ h9 => h9) rfl dX10_tellWind_41 ?_
      refine va_put (D := D) (ci := 4) (v := .int (nI (num fby tn (fin fby tn ga)))) (ty := .int) (C := RX4) (T := TX4) (N := 16) hx hb hg i_X4 tyX4 tyX4_ok nmX4 hown hK hP hD hS 0 rfl rfl 13 (by decide) (hg _ m_377) (fun _ h9 => h9) rfl (by decide +kernel) rfl rfl (Nat.le_of_ble_eq_true rfl) dX10_tellWind_44 (fun H locs hP9 hD9 hS9 => ?_)
      clear hP hD hS
      refine reW [wO h0 4 [.ref h1, .ref h2, .ref h3, .ref h4, .ref h5, .ref h6, .ref h7, .ref h8, .ref h9, .ref h10, .ref h11, hv0, hv1, .int (nI (num fby tn (fin fby tn ga))), hv3, hv4], wO d0 10 [.ref t0, .ref d1, .ref h0, yf, .int uh, .int 1, .int dt, .int (nI (num fby tn (fin fby tn ga))), .int fq, .int pq], wO t0 9 [.ref t1, .ref t2, .int (nI tn), .int (nI ta2_12), .int (nI ts2_13), .int (nI tk2_14), .long tm2_15, .int tr2_16], wI (cy 0) t1 1600 (fby), (t2, .inl (cy 2, 24, .inr (.inl (fky))))] hP9 hD9 hS9 (fun hP hD hS => ?_)
      clear hP9 hD9 hS9
      refine lv_aload_n hx hb dX10_tellWind_47 rfl (lv_at hl 0 rfl) ?_
      refine lv_bipush (v := 59) hx hb dX10_tellWind_48 (by decide) ?_
      refine x_callVi (q := (RX10, TX10, 10)) (ci := 10) (q0 := 0) (wr := [wO h0 4 [.ref h1, .ref h2, .ref h3, .ref h4, .ref h5, .ref h6, .ref h7, .ref h8, .ref h9, .ref h10, .ref h11, hv0, hv1, .int (nI (num fby tn (fin fby tn ga))), hv3, hv4]]) (rest := []) ⟨hx, hb, hml, hown, hg, hl.1⟩ k_X10_128 (s_take l D cy adK adV d0 d1 uh 1 dt (nI (num fby tn (fin fby tn ga))) fq pq ((.ref h0)) yf t0 t1 t2 tn ta2_12 ts2_13 tk2_14 tm2_15 tr2_16 fby fky (fin fby tn (fin fby tn ga)) 59 (by omega) (by omega) (by omega) (a_28) (hky) (by omega)) EV_blind hK hP hD hS hA [1, 2, 3, 4] [0] ⟨rfl, rfl, by decide +kernel, by decide +kernel, by decide +kernel⟩ rfl rfl (fun U hU hW => EV_pass hE hS (va_free hD hS hA [1, 2, 3, 4] rfl) hU hW) dX10_tellWind_50 rfl rfl (Nat.le_of_ble_eq_true rfl) ⟨Nat.le_of_ble_eq_true rfl, Nat.le_of_ble_eq_true rfl⟩ ⟨Nat.le_of_ble_eq_true rfl, Nat.le_of_ble_eq_true rfl⟩ (fun zr36 zu36 H locs hw36 hP9 hD9 hS9 => ?_)
      clear hP hD hS
      obtain ⟨ta2_37, ts2_38, tk2_39, tm2_40, tr2_41, fq2_42, pq2_43, co9_44, b9_45⟩ := zu36
      refine reW [wO h0 4 [.ref h1, .ref h2, .ref h3, .ref h4, .ref h5, .ref h6, .ref h7, .ref h8, .ref h9, .ref h10, .ref h11, hv0, hv1, .int (nI (num fby tn (fin fby tn ga))), hv3, hv4], wO d0 10 [.ref t0, .ref d1, .ref h0, yf, .int uh, .int 1, .int dt, .int (nI (num fby tn (fin fby tn ga))), .int fq2_42, .int pq2_43], wO t0 9 [.ref t1, .ref t2, .int (nI tn), .int (nI ta2_37), .int (nI ts2_38), .int (nI tk2_39), .long tm2_40, .int tr2_41], wI (cy 0) t1 1600 (fby), (t2, .inl (cy 2, 24, .inr (.inl (fky))))] hP9 hD9 hS9 (fun hP hD hS => ?_)
      clear hP9 hD9 hS9
      refine W.widen (k := 0) (n := 0) (Nat.le_of_ble_eq_true rfl) (Nat.le_of_ble_eq_true rfl) ?_
      replace hw36 : (ta2_37 ≤ tn) ∧ (tk2_39 ≤ 123) ∧ ((zr36 = 1 ∧ (takS fby tn 59 (fin fby tn (fin fby tn ga)) = .inr (fin fby tn (fin fby tn (fin fby tn ga)))) ∧ (fq = fq2_42) ∧ (pq = pq2_43) ∧ (tkC fby tn (fin fby tn (fin fby tn (fin fby tn ga))) ta2_37 ts2_38 tk2_39 tm2_40 tr2_41) ∧ (knd fby tn (fin fby tn (fin fby tn ga)) = 59)) ∨ (zr36 = 0 ∧ (takS fby tn 59 (fin fby tn (fin fby tn ga)) = .inl (co9_44, b9_45)) ∧ (flt fby tn b9_45 co9_44 fq2_42 pq2_43) ∧ (¬ knd fby tn (fin fby tn (fin fby tn ga)) = 59))) := hw36
      obtain ⟨f_46, f_47, f_48⟩ := hw36
      rcases f_48 with ⟨hz_54, a_49, a_50, a_51, a_52, a_53⟩ | ⟨hz_58, a_55, a_56, a_57⟩
      · subst hz_54
        subst a_50
        subst a_51
        have hgt_59 : fin fby tn (fin fby tn ga) < fin fby tn (fin fby tn (fin fby tn ga)) ∧ fin fby tn (fin fby tn (fin fby tn ga)) ≤ tn := ⟨fin_gt (by rw [a_53]; decide), fin_le (by omega)⟩
        exact x_zret hQ hx hb hr hlocks hK hP hD hS rfl dX10_tellWind_53 (ta2_37, ts2_38, tk2_39, tm2_40, tr2_41, fq, pq, nI (num fby tn (fin fby tn ga)), 1, nI (num fby tn (fin fby tn ga)), num fby tn (fin fby tn ga), fin fby tn (fin fby tn (fin fby tn ga)), 0, 0) (⟨(show ta2_37 ≤ tn from by omega), (show tk2_39 ≤ 123 from by omega), (show ((1 : Int32) = 1 ∧ (wndS fby tn wt 9 ga = .inr ((num fby tn (fin fby tn ga)), (fin fby tn (fin fby tn (fin fby tn ga))))) ∧ (fq = fq) ∧ (pq = pq) ∧ (tkC fby tn ((fin fby tn (fin fby tn (fin fby tn ga)))) ta2_37 ts2_38 tk2_39 tm2_40 tr2_41) ∧ (1 = 1) ∧ (nI (num fby tn (fin fby tn ga)) = (nI (num fby tn (fin fby tn ga)))) ∧ ((num fby tn (fin fby tn ga)) ≤ 9) ∧ (ga < (fin fby tn (fin fby tn (fin fby tn ga))) ∧ (fin fby tn (fin fby tn (fin fby tn ga))) ≤ tn)) ∨ ((1 : Int32) = 0 ∧ (wndS fby tn wt 9 ga = .inl (0, 0)) ∧ (flt fby tn 0 0 fq pq)) from Or.inl ⟨rfl, ((if_pos (c_4)).trans ((bnd_r _ a_25).trans (bnd_r _ a_49))), (rfl), (rfl), (a_52), (rfl), (rfl), (by omega), (⟨by have h9 := fin_ge fby tn ga; have h8 := fin_gt (show ¬ knd fby tn (fin fby tn ga) = 0 by rw [numS_k a_25]; decide); omega, by omega⟩)⟩)⟩) [1, 2, 3, 4, 0] (by decide +kernel) rfl (Nat.le_of_ble_eq_true rfl) (Nat.le_of_ble_eq_true rfl)
      · subst hz_58
        exact x_zret hQ hx hb hr hlocks hK hP hD hS rfl dX10_tellWind_53 (ta2_37, ts2_38, tk2_39, tm2_40, tr2_41, fq2_42, pq2_43, nI (num fby tn (fin fby tn ga)), 1, nI (num fby tn (fin fby tn ga)), 0, 0, co9_44, b9_45) (⟨(show ta2_37 ≤ tn from by omega), (show tk2_39 ≤ 123 from by omega), (show ((0 : Int32) = 1 ∧ (wndS fby tn wt 9 ga = .inr (0, 0)) ∧ (fq = fq2_42) ∧ (pq = pq2_43) ∧ (tkC fby tn (0) ta2_37 ts2_38 tk2_39 tm2_40 tr2_41) ∧ (1 = 1) ∧ (nI 0 = (nI (num fby tn (fin fby tn ga)))) ∧ (0 ≤ 9) ∧ (ga < 0 ∧ 0 ≤ tn)) ∨ ((0 : Int32) = 0 ∧ (wndS fby tn wt 9 ga = .inl (co9_44, b9_45)) ∧ (flt fby tn b9_45 co9_44 fq2_42 pq2_43)) from Or.inr (⟨rfl, ((if_pos (c_4)).trans ((bnd_r _ a_25).trans (bnd_l _ a_55))), (a_56)⟩))⟩) [1, 2, 3, 4, 0] (by decide +kernel) rfl (Nat.le_of_ble_eq_true rfl) (Nat.le_of_ble_eq_true rfl)
    · subst hz_34
      refine lv_if_ne (tgt := 36) hx hb dX10_tellWind_31 (by decide) (fun h => absurd (by decide) h) (fun _ => ?_)
      refine lv_iconst (v := 0) hx hb dX10_tellWind_34 (by decide) ?_
      exact x_zret hQ hx hb hr hlocks hK hP hD hS rfl dX10_tellWind_35 (ta2_12, ts2_13, tk2_14, tm2_15, tr2_16, fq2_17, pq2_18, vv2_19, 1, hwi, 0, 0, co9_20, b9_21) (⟨(show ta2_12 ≤ tn from by omega), (show tk2_14 ≤ 123 from by omega), (show ((0 : Int32) = 1 ∧ (wndS fby tn wt 9 ga = .inr (0, 0)) ∧ (fq = fq2_17) ∧ (pq = pq2_18) ∧ (tkC fby tn (0) ta2_12 ts2_13 tk2_14 tm2_15 tr2_16) ∧ (1 = 1) ∧ (nI 0 = hwi) ∧ (0 ≤ 9) ∧ (ga < 0 ∧ 0 ≤ tn)) ∨ ((0 : Int32) = 0 ∧ (wndS fby tn wt 9 ga = .inl (co9_20, b9_21)) ∧ (flt fby tn b9_21 co9_20 fq2_17 pq2_18)) from Or.inr (⟨rfl, ((if_pos (c_4)).trans (bnd_l _ a_32)), (a_33)⟩))⟩) [1, 2, 3, 4, 0] (by decide +kernel) rfl (Nat.le_of_ble_eq_true rfl) (Nat.le_of_ble_eq_true rfl)
  · refine lv_aload_n hx hb dX10_tellWind_7 rfl (lv_at hl 0 rfl) ?_
    refine lv_iconst (v := 2) hx hb dX10_tellWind_8 (by decide) ?_
    refine x_callVi (q := (RX10, TX10, 10)) (ci := 10) (q0 := 0) (wr := [wI (cy 0) t1 1600 (fby), (t2, .inl (cy 2, 24, .inr (.inl (fky)))), wO h0 4 [.ref h1, .ref h2, .ref h3, .ref h4, .ref h5, .ref h6, .ref h7, .ref h8, .ref h9, .ref h10, .ref h11, hv0, hv1, .int hwi, hv3, hv4]]) (rest := []) ⟨hx, hb, hml, hown, hg, hl.1⟩ k_X10_110 (s_fail l D cy d0 d1 uh wt dt vv fq pq ((.ref h0)) yf t0 t1 t2 tn ta ts tk tm tr 2 (by omega)) E0_blind hK hP hD hS hA [0, 1] [2, 3, 4] ⟨rfl, rfl, by decide +kernel, by decide +kernel, by decide +kernel⟩ rfl rfl (fun _ _ _ => trivial) dX10_tellWind_9 rfl rfl (Nat.le_of_ble_eq_true rfl) ⟨Nat.le_of_ble_eq_true rfl, Nat.le_of_ble_eq_true rfl⟩ ⟨Nat.le_of_ble_eq_true rfl, Nat.le_of_ble_eq_true rfl⟩ (fun zr60 zu60 H locs hw60 hP9 hD9 hS9 => ?_)
    clear hP hD hS
    obtain ⟨fq2_61, pq2_62⟩ := zu60
    refine reW [wI (cy 0) t1 1600 (fby), (t2, .inl (cy 2, 24, .inr (.inl (fky)))), wO h0 4 [.ref h1, .ref h2, .ref h3, .ref h4, .ref h5, .ref h6, .ref h7, .ref h8, .ref h9, .ref h10, .ref h11, hv0, hv1, .int hwi, hv3, hv4], wO d0 10 [.ref t0, .ref d1, .ref h0, yf, .int uh, .int wt, .int dt, .int vv, .int fq2_61, .int pq2_62], wO t0 9 [.ref t1, .ref t2, .int (nI tn), .int (nI ta), .int (nI ts), .int (nI tk), .long tm, .int tr]] hP9 hD9 hS9 (fun hP hD hS => ?_)
    clear hP9 hD9 hS9
    refine W.widen (k := 0) (n := 0) (Nat.le_of_ble_eq_true rfl) (Nat.le_of_ble_eq_true rfl) ?_
    replace hw60 : ((zr60 = 0 ∧ (fq2_61 = nI (if tk = 3 then 1 else 2)) ∧ (pq2_62 = nI ts))) := hw60
    have f_63 := hw60
    rcases f_63 with ⟨hz_66, a_64, a_65⟩
    subst hz_66
    exact x_zret hQ hx hb hr hlocks hK hP hD hS rfl dX10_tellWind_12 (ta, ts, tk, tm, tr, fq2_61, pq2_62, vv, wt, hwi, 0, 0, 2, ga) (⟨(show ta ≤ tn from by omega), (show tk ≤ 123 from by omega), (show ((0 : Int32) = 1 ∧ (wndS fby tn wt 9 ga = .inr (0, 0)) ∧ (fq = fq2_61) ∧ (pq = pq2_62) ∧ (tkC fby tn (0) ta ts tk tm tr) ∧ (1 = wt) ∧ (nI 0 = hwi) ∧ (0 ≤ 9) ∧ (ga < 0 ∧ 0 ≤ tn)) ∨ ((0 : Int32) = 0 ∧ (wndS fby tn wt 9 ga = .inl (2, ga)) ∧ (flt fby tn ga 2 fq2_61 pq2_62)) from Or.inr (⟨rfl, (if_neg (c_4)), (flt_of hti a_64 a_65)⟩))⟩) [3, 4, 0, 1, 2] (by decide +kernel) rfl (Nat.le_of_ble_eq_true rfl) (Nat.le_of_ble_eq_true rfl)
theorem gdX10_tellDraw_0 : decode cX10_tellDraw 0 = .ok (.aload_n 0, 1) ∧ decode cX10_tellDraw 1 = .ok (.getfield 44, 3) ∧ decode cX10_tellDraw 4 = .ok (.ifCond .eq 9, 3) ∧ decode cX10_tellDraw 13 = .ok (.aload_n 0, 1) ∧ decode cX10_tellDraw 14 = .ok (.iconst 1, 1) ∧ decode cX10_tellDraw 15 = .ok (.putfield 44, 3) ∧ decode cX10_tellDraw 18 = .ok (.aload_n 0, 1) ∧ decode cX10_tellDraw 19 = .ok (.getfield 16, 3) ∧ decode cX10_tellDraw 22 = .ok (.invokevirtual 140, 3) ∧ decode cX10_tellDraw 25 = .ok (.aload_n 0, 1) ∧ decode cX10_tellDraw 26 = .ok (.sipush 999, 3) ∧ decode cX10_tellDraw 29 = .ok (.invokevirtual 131, 3) := by decide +kernel
theorem dX10_tellDraw_0 : decode cX10_tellDraw 0 = .ok (.aload_n 0, 1) := gdX10_tellDraw_0.1
theorem dX10_tellDraw_1 : decode cX10_tellDraw 1 = .ok (.getfield 44, 3) := gdX10_tellDraw_0.2.1
theorem dX10_tellDraw_4 : decode cX10_tellDraw 4 = .ok (.ifCond .eq 9, 3) := gdX10_tellDraw_0.2.2.1
theorem dX10_tellDraw_13 : decode cX10_tellDraw 13 = .ok (.aload_n 0, 1) := gdX10_tellDraw_0.2.2.2.1
theorem dX10_tellDraw_14 : decode cX10_tellDraw 14 = .ok (.iconst 1, 1) := gdX10_tellDraw_0.2.2.2.2.1
theorem dX10_tellDraw_15 : decode cX10_tellDraw 15 = .ok (.putfield 44, 3) := gdX10_tellDraw_0.2.2.2.2.2.1
theorem dX10_tellDraw_18 : decode cX10_tellDraw 18 = .ok (.aload_n 0, 1) := gdX10_tellDraw_0.2.2.2.2.2.2.1
theorem dX10_tellDraw_19 : decode cX10_tellDraw 19 = .ok (.getfield 16, 3) := gdX10_tellDraw_0.2.2.2.2.2.2.2.1
theorem dX10_tellDraw_22 : decode cX10_tellDraw 22 = .ok (.invokevirtual 140, 3) := gdX10_tellDraw_0.2.2.2.2.2.2.2.2.1
theorem dX10_tellDraw_25 : decode cX10_tellDraw 25 = .ok (.aload_n 0, 1) := gdX10_tellDraw_0.2.2.2.2.2.2.2.2.2.1
theorem dX10_tellDraw_26 : decode cX10_tellDraw 26 = .ok (.sipush 999, 3) := gdX10_tellDraw_0.2.2.2.2.2.2.2.2.2.2.1
theorem dX10_tellDraw_29 : decode cX10_tellDraw 29 = .ok (.invokevirtual 131, 3) := gdX10_tellDraw_0.2.2.2.2.2.2.2.2.2.2.2
theorem gdX10_tellDraw_32 : decode cX10_tellDraw 32 = .ok (.ifCond .ne 5, 3) ∧ decode cX10_tellDraw 37 = .ok (.aload_n 0, 1) ∧ decode cX10_tellDraw 38 = .ok (.getfield 24, 3) ∧ decode cX10_tellDraw 41 = .ok (.aload_n 0, 1) ∧ decode cX10_tellDraw 42 = .ok (.getfield 134, 3) ∧ decode cX10_tellDraw 45 = .ok (.putfield 155, 3) ∧ decode cX10_tellDraw 48 = .ok (.aload_n 0, 1) ∧ decode cX10_tellDraw 49 = .ok (.bipush 59, 2) ∧ decode cX10_tellDraw 51 = .ok (.invokevirtual 128, 3) ∧ decode cX10_tellDraw 54 = .ok (.ireturn, 1) ∧ decode cX10_tellDraw 35 = .ok (.iconst 0, 1) ∧ decode cX10_tellDraw 36 = .ok (.ireturn, 1) := by decide +kernel
theorem dX10_tellDraw_32 : decode cX10_tellDraw 32 = .ok (.ifCond .ne 5, 3) := gdX10_tellDraw_32.1
theorem dX10_tellDraw_37 : decode cX10_tellDraw 37 = .ok (.aload_n 0, 1) := gdX10_tellDraw_32.2.1
theorem dX10_tellDraw_38 : decode cX10_tellDraw 38 = .ok (.getfield 24, 3) := gdX10_tellDraw_32.2.2.1
theorem dX10_tellDraw_41 : decode cX10_tellDraw 41 = .ok (.aload_n 0, 1) := gdX10_tellDraw_32.2.2.2.1
theorem dX10_tellDraw_42 : decode cX10_tellDraw 42 = .ok (.getfield 134, 3) := gdX10_tellDraw_32.2.2.2.2.1
theorem dX10_tellDraw_45 : decode cX10_tellDraw 45 = .ok (.putfield 155, 3) := gdX10_tellDraw_32.2.2.2.2.2.1
theorem dX10_tellDraw_48 : decode cX10_tellDraw 48 = .ok (.aload_n 0, 1) := gdX10_tellDraw_32.2.2.2.2.2.2.1
theorem dX10_tellDraw_49 : decode cX10_tellDraw 49 = .ok (.bipush 59, 2) := gdX10_tellDraw_32.2.2.2.2.2.2.2.1
theorem dX10_tellDraw_51 : decode cX10_tellDraw 51 = .ok (.invokevirtual 128, 3) := gdX10_tellDraw_32.2.2.2.2.2.2.2.2.1
theorem dX10_tellDraw_54 : decode cX10_tellDraw 54 = .ok (.ireturn, 1) := gdX10_tellDraw_32.2.2.2.2.2.2.2.2.2.1
theorem dX10_tellDraw_35 : decode cX10_tellDraw 35 = .ok (.iconst 0, 1) := gdX10_tellDraw_32.2.2.2.2.2.2.2.2.2.2.1
theorem dX10_tellDraw_36 : decode cX10_tellDraw 36 = .ok (.ireturn, 1) := gdX10_tellDraw_32.2.2.2.2.2.2.2.2.2.2.2
theorem gdX10_tellDraw_7 : decode cX10_tellDraw 7 = .ok (.aload_n 0, 1) ∧ decode cX10_tellDraw 8 = .ok (.iconst 2, 1) ∧ decode cX10_tellDraw 9 = .ok (.invokevirtual 110, 3) ∧ decode cX10_tellDraw 12 = .ok (.ireturn, 1) := by decide +kernel
theorem dX10_tellDraw_7 : decode cX10_tellDraw 7 = .ok (.aload_n 0, 1) := gdX10_tellDraw_7.1
theorem dX10_tellDraw_8 : decode cX10_tellDraw 8 = .ok (.iconst 2, 1) := gdX10_tellDraw_7.2.1
theorem dX10_tellDraw_9 : decode cX10_tellDraw 9 = .ok (.invokevirtual 110, 3) := gdX10_tellDraw_7.2.2.1
theorem dX10_tellDraw_12 : decode cX10_tellDraw 12 = .ok (.ireturn, 1) := gdX10_tellDraw_7.2.2.2
set_option maxHeartbeats 1000000 in
set_option maxRecDepth 100000 in
theorem s_tellDraw (l : Launch) (D : va_G) (cy : Nat → ClassId) (adK : Nat → Nat) (adV : Nat → Nat) (d0 : Nat) (d1 : Nat) (uh : Int32) (wt : Int32) (dt : Int32) (vv : Int32) (fq : Int32) (pq : Int32) (yf : Value) (t0 : Nat) (t1 : Nat) (t2 : Nat) (tn : Nat) (ta : Nat) (ts : Nat) (tk : Nat) (tm : Int64) (tr : Int32) (fby : Nat → Int32) (fky : Nat → Int64) (h0 : Nat) (h1 : Nat) (h2 : Nat) (h3 : Nat) (h4 : Nat) (h5 : Nat) (h6 : Nat) (h7 : Nat) (h8 : Nat) (h9 : Nat) (h10 : Nat) (h11 : Nat) (hv0 : Value) (hv1 : Value) (hv2 : Value) (hv4 : Value) (hdr : Int32) (ga : Nat) (htn : tn ≤ 1600) (hta : ta ≤ tn) (htk : tk ≤ 123) (hti : tkC fby tn ga ta ts tk tm tr) (hky : kyOK fky) (hga : ga ≤ tn) : XMi l D (tyL cy) (EV adK adV) yX10_tellDraw cX10_tellDraw 1 (some .boolean) (rmk 8 0 0) [.ref d0] [wO d0 10 [.ref t0, .ref d1, .ref h0, yf, .int uh, .int wt, .int dt, .int vv, .int fq, .int pq], wO t0 9 [.ref t1, .ref t2, .int (nI tn), .int (nI ta), .int (nI ts), .int (nI tk), .long tm, .int tr], wI (cy 0) t1 1600 (fby), (t2, .inl (cy 2, 24, .inr (.inl (fky)))), wO h0 4 [.ref h1, .ref h2, .ref h3, .ref h4, .ref h5, .ref h6, .ref h7, .ref h8, .ref h9, .ref h10, .ref h11, hv0, hv1, hv2, .int hdr, hv4]] (fun (r : Int32) (u : Nat × Nat × Nat × Int64 × Int32 × Int32 × Int32 × Int32 × Int32 × Int32 × Nat × Nat × Nat × Nat) => (u.1 ≤ tn) ∧ (u.2.2.1 ≤ 123) ∧ ((r = 1 ∧ (wndS fby tn dt 999 ga = .inr (u.2.2.2.2.2.2.2.2.2.2.1, u.2.2.2.2.2.2.2.2.2.2.2.1)) ∧ (fq = u.2.2.2.2.2.1) ∧ (pq = u.2.2.2.2.2.2.1) ∧ (tkC fby tn (u.2.2.2.2.2.2.2.2.2.2.2.1) u.1 u.2.1 u.2.2.1 u.2.2.2.1 u.2.2.2.2.1) ∧ (1 = u.2.2.2.2.2.2.2.2.1) ∧ (nI u.2.2.2.2.2.2.2.2.2.2.1 = u.2.2.2.2.2.2.2.2.2.1) ∧ (u.2.2.2.2.2.2.2.2.2.2.1 ≤ 999) ∧ (ga < u.2.2.2.2.2.2.2.2.2.2.2.1 ∧ u.2.2.2.2.2.2.2.2.2.2.2.1 ≤ tn)) ∨ (r = 0 ∧ (wndS fby tn dt 999 ga = .inl (u.2.2.2.2.2.2.2.2.2.2.2.2.1, u.2.2.2.2.2.2.2.2.2.2.2.2.2)) ∧ (flt fby tn u.2.2.2.2.2.2.2.2.2.2.2.2.2 u.2.2.2.2.2.2.2.2.2.2.2.2.1 u.2.2.2.2.2.1 u.2.2.2.2.2.2.1)))) (fun (u : Nat × Nat × Nat × Int64 × Int32 × Int32 × Int32 × Int32 × Int32 × Int32 × Nat × Nat × Nat × Nat) => [wO d0 10 [.ref t0, .ref d1, .ref h0, yf, .int uh, .int wt, .int u.2.2.2.2.2.2.2.2.1, .int u.2.2.2.2.2.2.2.1, .int u.2.2.2.2.2.1, .int u.2.2.2.2.2.2.1], wO t0 9 [.ref t1, .ref t2, .int (nI tn), .int (nI u.1), .int (nI u.2.1), .int (nI u.2.2.1), .long u.2.2.2.1, .int u.2.2.2.2.1], wI (cy 0) t1 1600 (fby), (t2, .inl (cy 2, 24, .inr (.inl (fky)))), wO h0 4 [.ref h1, .ref h2, .ref h3, .ref h4, .ref h5, .ref h6, .ref h7, .ref h8, .ref h9, .ref h10, .ref h11, hv0, hv1, hv2, .int u.2.2.2.2.2.2.2.2.2.1, hv4]]) := by
  refine XMi.start (by decide) (Nat.le_of_ble_eq_true rfl) ?_
  intro p e s m below meth c args A ls Q hat hQ
  obtain ⟨hx, hb, hr, hml, hown, hg, hlocks, hin, hK, hA, hP, hD, hS, hE, hl⟩ := hat
  have hown : s.vm.findClass RX10 = some m.cls := hown
  have hl : lv_has ls 1 [(0, .ref d0)] := hl
  refine lv_aload_n hx hb dX10_tellDraw_0 rfl (lv_at hl 0 rfl) ?_
  refine va_get (D := D) (ci := 10) (v := .int dt) (C := RX10) (T := TX10) (N := 10) hx hb hg i_X10 hown hK hP 0 rfl rfl 6 (by decide) (hg _ m_261) (fun _ h9 => h9) rfl dX10_tellDraw_1 ?_
  refine lv_if_eq (tgt := 13) hx hb dX10_tellDraw_4 (by decide) (fun c_4 => ?_) (fun c_4 => ?_)
  · refine lv_aload_n hx hb dX10_tellDraw_13 rfl (lv_at hl 0 rfl) ?_
    refine lv_iconst (v := 1) hx hb dX10_tellDraw_14 (by decide) ?_
    refine va_put (D := D) (ci := 10) (v := .int 1) (ty := .boolean) (C := RX10) (T := TX10) (N := 10) hx hb hg i_X10 tyX10 tyX10_ok nmX10 hown hK hP hD hS 0 rfl rfl 6 (by decide) (hg _ m_261) (fun _ h9 => h9) rfl (by decide +kernel) rfl rfl (Nat.le_of_ble_eq_true rfl) dX10_tellDraw_15 (fun H locs hP9 hD9 hS9 => ?_)
    clear hP hD hS
    refine reW [wO d0 10 [.ref t0, .ref d1, .ref h0, yf, .int uh, .int wt, .int 1, .int vv, .int fq, .int pq], wO t0 9 [.ref t1, .ref t2, .int (nI tn), .int (nI ta), .int (nI ts), .int (nI tk), .long tm, .int tr], wI (cy 0) t1 1600 (fby), (t2, .inl (cy 2, 24, .inr (.inl (fky)))), wO h0 4 [.ref h1, .ref h2, .ref h3, .ref h4, .ref h5, .ref h6, .ref h7, .ref h8, .ref h9, .ref h10, .ref h11, hv0, hv1, hv2, .int hdr, hv4]] hP9 hD9 hS9 (fun hP hD hS => ?_)
    clear hP9 hD9 hS9
    refine lv_aload_n hx hb dX10_tellDraw_18 rfl (lv_at hl 0 rfl) ?_
    refine va_get (D := D) (ci := 10) (v := .ref t0) (C := RX10) (T := TX10) (N := 10) hx hb hg i_X10 hown hK hP 0 rfl rfl 0 (by decide) (hg _ m_255) (fun _ h9 => h9) rfl dX10_tellDraw_19 ?_
    refine x_callVv (q := (RX9, TX9, 8)) (ci := 9) (q0 := 0) (wr := [wO d0 10 [.ref t0, .ref d1, .ref h0, yf, .int uh, .int wt, .int 1, .int vv, .int fq, .int pq], wO h0 4 [.ref h1, .ref h2, .ref h3, .ref h4, .ref h5, .ref h6, .ref h7, .ref h8, .ref h9, .ref h10, .ref h11, hv0, hv1, hv2, .int hdr, hv4]]) (rest := []) ⟨hx, hb, hml, hown, hg, hl.1⟩ k_X10_140 (s_next l D cy adK adV t0 t1 t2 tn ta ts tk tm tr fby fky (fin fby tn ga) (by omega) (by omega) (hti.2.1) (hky)) EV_blind hK hP hD hS hA [1, 2, 3] [0, 4] ⟨rfl, rfl, by decide +kernel, by decide +kernel, by decide +kernel⟩ rfl rfl (fun U hU hW => EV_pass hE hS (va_free hD hS hA [1, 2, 3] rfl) hU hW) dX10_tellDraw_22 rfl rfl (Nat.le_of_ble_eq_true rfl) ⟨Nat.le_of_ble_eq_true rfl, Nat.le_of_ble_eq_true rfl⟩ ⟨Nat.le_of_ble_eq_true rfl, Nat.le_of_ble_eq_true rfl⟩ (fun zu1 H locs hw1 hP9 hD9 hS9 => ?_)
    clear hP hD hS
    obtain ⟨ta2_2, ts2_3, tk2_4, tm2_5, tr2_6⟩ := zu1
    refine reW [wO d0 10 [.ref t0, .ref d1, .ref h0, yf, .int uh, .int wt, .int 1, .int vv, .int fq, .int pq], wO h0 4 [.ref h1, .ref h2, .ref h3, .ref h4, .ref h5, .ref h6, .ref h7, .ref h8, .ref h9, .ref h10, .ref h11, hv0, hv1, hv2, .int hdr, hv4], wO t0 9 [.ref t1, .ref t2, .int (nI tn), .int (nI ta2_2), .int (nI ts2_3), .int (nI tk2_4), .long tm2_5, .int tr2_6], wI (cy 0) t1 1600 (fby), (t2, .inl (cy 2, 24, .inr (.inl (fky))))] hP9 hD9 hS9 (fun hP hD hS => ?_)
    clear hP9 hD9 hS9
    refine W.widen (k := 0) (n := 0) (Nat.le_of_ble_eq_true rfl) (Nat.le_of_ble_eq_true rfl) ?_
    replace hw1 : (ta2_2 ≤ tn) ∧ (tk2_4 ≤ 123) ∧ (tkC fby tn (fin fby tn ga) ta2_2 ts2_3 tk2_4 tm2_5 tr2_6) := hw1
    obtain ⟨f_7, f_8, f_9⟩ := hw1
    have hgt_10 : ga ≤ fin fby tn ga ∧ fin fby tn ga ≤ tn := ⟨fin_ge _ _ _, fin_le (by omega)⟩
    refine lv_aload_n hx hb dX10_tellDraw_25 rfl (lv_at hl 0 rfl) ?_
    refine lv_sipush (v := 999) hx hb dX10_tellDraw_26 (by decide) ?_
    refine x_callVi (q := (RX10, TX10, 10)) (ci := 10) (q0 := 0) (wr := [wO h0 4 [.ref h1, .ref h2, .ref h3, .ref h4, .ref h5, .ref h6, .ref h7, .ref h8, .ref h9, .ref h10, .ref h11, hv0, hv1, hv2, .int hdr, hv4]]) (rest := []) ⟨hx, hb, hml, hown, hg, hl.1⟩ k_X10_131 (s_takeNumber l D cy adK adV d0 d1 uh wt 1 vv fq pq ((.ref h0)) yf t0 t1 t2 tn ta2_2 ts2_3 tk2_4 tm2_5 tr2_6 fby fky (fin fby tn ga) 999 (by omega) (by omega) (by omega) (f_9) (hky) (by omega)) EV_blind hK hP hD hS hA [0, 2, 3, 4] [1] ⟨rfl, rfl, by decide +kernel, by decide +kernel, by decide +kernel⟩ rfl rfl (fun U hU hW => EV_pass hE hS (va_free hD hS hA [0, 2, 3, 4] rfl) hU hW) dX10_tellDraw_29 rfl rfl (Nat.le_of_ble_eq_true rfl) ⟨Nat.le_of_ble_eq_true rfl, Nat.le_of_ble_eq_true rfl⟩ ⟨Nat.le_of_ble_eq_true rfl, Nat.le_of_ble_eq_true rfl⟩ (fun zr11 zu11 H locs hw11 hP9 hD9 hS9 => ?_)
    clear hP hD hS
    obtain ⟨ta2_12, ts2_13, tk2_14, tm2_15, tr2_16, fq2_17, pq2_18, vv2_19, co9_20, b9_21⟩ := zu11
    refine reW [wO h0 4 [.ref h1, .ref h2, .ref h3, .ref h4, .ref h5, .ref h6, .ref h7, .ref h8, .ref h9, .ref h10, .ref h11, hv0, hv1, hv2, .int hdr, hv4], wO d0 10 [.ref t0, .ref d1, .ref h0, yf, .int uh, .int wt, .int 1, .int vv2_19, .int fq2_17, .int pq2_18], wO t0 9 [.ref t1, .ref t2, .int (nI tn), .int (nI ta2_12), .int (nI ts2_13), .int (nI tk2_14), .long tm2_15, .int tr2_16], wI (cy 0) t1 1600 (fby), (t2, .inl (cy 2, 24, .inr (.inl (fky))))] hP9 hD9 hS9 (fun hP hD hS => ?_)
    clear hP9 hD9 hS9
    refine W.widen (k := 0) (n := 0) (Nat.le_of_ble_eq_true rfl) (Nat.le_of_ble_eq_true rfl) ?_
    replace hw11 : (ta2_12 ≤ tn) ∧ (tk2_14 ≤ 123) ∧ ((zr11 = 1 ∧ (numS fby tn 999 (fin fby tn ga) = .inr (num fby tn (fin fby tn ga), fin fby tn (fin fby tn ga))) ∧ (fq = fq2_17) ∧ (pq = pq2_18) ∧ (tkC fby tn (fin fby tn (fin fby tn ga)) ta2_12 ts2_13 tk2_14 tm2_15 tr2_16) ∧ (nI (num fby tn (fin fby tn ga)) = vv2_19) ∧ (num fby tn (fin fby tn ga) ≤ 999)) ∨ (zr11 = 0 ∧ (numS fby tn 999 (fin fby tn ga) = .inl (co9_20, b9_21)) ∧ (flt fby tn b9_21 co9_20 fq2_17 pq2_18))) := hw11
    obtain ⟨f_22, f_23, f_24⟩ := hw11
    rcases f_24 with ⟨hz_31, a_25, a_26, a_27, a_28, a_29, a_30⟩ | ⟨hz_34, a_32, a_33⟩
    · subst hz_31
      subst a_26
      subst a_27
      subst a_29
      have hgt_35 : fin fby tn ga ≤ fin fby tn (fin fby tn ga) ∧ fin fby tn (fin fby tn ga) ≤ tn := ⟨fin_ge _ _ _, fin_le (by omega)⟩
      refine lv_if_ne (tgt := 37) hx hb dX10_tellDraw_32 (by decide) (fun _ => ?_) (fun h => absurd h (by decide))
      refine lv_aload_n hx hb dX10_tellDraw_37 rfl (lv_at hl 0 rfl) ?_
      refine va_get (D := D) (ci := 10) (v := .ref h0) (C := RX10) (T := TX10) (N := 10) hx hb hg i_X10 hown hK hP 1 rfl rfl 2 (by decide) (hg _ m_257) (fun _ h9 => h9) rfl dX10_tellDraw_38 ?_
      refine lv_aload_n hx hb dX10_tellDraw_41 rfl (lv_at hl 0 rfl) ?_
      refine va_get (D := D) (ci := 10) (v := .int (nI (num fby tn (fin fby tn ga)))) (C := RX10) (T := TX10) (N := 10) hx hb hg i_X10 hown hK hP 1 rfl rfl 7 (by decide) (hg _ m_262) (fun _ h9 => h9) rfl dX10_tellDraw_42 ?_
      refine va_put (D := D) (ci := 4) (v := .int (nI (num fby tn (fin fby tn ga)))) (ty := .int) (C := RX4) (T := TX4) (N := 16) hx hb hg i_X4 tyX4 tyX4_ok nmX4 hown hK hP hD hS 0 rfl rfl 14 (by decide) (hg _ m_380) (fun _ h9 => h9) rfl (by decide +kernel) rfl rfl (Nat.le_of_ble_eq_true rfl) dX10_tellDraw_45 (fun H locs hP9 hD9 hS9 => ?_)
      clear hP hD hS
      refine reW [wO h0 4 [.ref h1, .ref h2, .ref h3, .ref h4, .ref h5, .ref h6, .ref h7, .ref h8, .ref h9, .ref h10, .ref h11, hv0, hv1, hv2, .int (nI (num fby tn (fin fby tn ga))), hv4], wO d0 10 [.ref t0, .ref d1, .ref h0, yf, .int uh, .int wt, .int 1, .int (nI (num fby tn (fin fby tn ga))), .int fq, .int pq], wO t0 9 [.ref t1, .ref t2, .int (nI tn), .int (nI ta2_12), .int (nI ts2_13), .int (nI tk2_14), .long tm2_15, .int tr2_16], wI (cy 0) t1 1600 (fby), (t2, .inl (cy 2, 24, .inr (.inl (fky))))] hP9 hD9 hS9 (fun hP hD hS => ?_)
      clear hP9 hD9 hS9
      refine lv_aload_n hx hb dX10_tellDraw_48 rfl (lv_at hl 0 rfl) ?_
      refine lv_bipush (v := 59) hx hb dX10_tellDraw_49 (by decide) ?_
      refine x_callVi (q := (RX10, TX10, 10)) (ci := 10) (q0 := 0) (wr := [wO h0 4 [.ref h1, .ref h2, .ref h3, .ref h4, .ref h5, .ref h6, .ref h7, .ref h8, .ref h9, .ref h10, .ref h11, hv0, hv1, hv2, .int (nI (num fby tn (fin fby tn ga))), hv4]]) (rest := []) ⟨hx, hb, hml, hown, hg, hl.1⟩ k_X10_128 (s_take l D cy adK adV d0 d1 uh wt 1 (nI (num fby tn (fin fby tn ga))) fq pq ((.ref h0)) yf t0 t1 t2 tn ta2_12 ts2_13 tk2_14 tm2_15 tr2_16 fby fky (fin fby tn (fin fby tn ga)) 59 (by omega) (by omega) (by omega) (a_28) (hky) (by omega)) EV_blind hK hP hD hS hA [1, 2, 3, 4] [0] ⟨rfl, rfl, by decide +kernel, by decide +kernel, by decide +kernel⟩ rfl rfl (fun U hU hW => EV_pass hE hS (va_free hD hS hA [1, 2, 3, 4] rfl) hU hW) dX10_tellDraw_51 rfl rfl (Nat.le_of_ble_eq_true rfl) ⟨Nat.le_of_ble_eq_true rfl, Nat.le_of_ble_eq_true rfl⟩ ⟨Nat.le_of_ble_eq_true rfl, Nat.le_of_ble_eq_true rfl⟩ (fun zr36 zu36 H locs hw36 hP9 hD9 hS9 => ?_)
      clear hP hD hS
      obtain ⟨ta2_37, ts2_38, tk2_39, tm2_40, tr2_41, fq2_42, pq2_43, co9_44, b9_45⟩ := zu36
      refine reW [wO h0 4 [.ref h1, .ref h2, .ref h3, .ref h4, .ref h5, .ref h6, .ref h7, .ref h8, .ref h9, .ref h10, .ref h11, hv0, hv1, hv2, .int (nI (num fby tn (fin fby tn ga))), hv4], wO d0 10 [.ref t0, .ref d1, .ref h0, yf, .int uh, .int wt, .int 1, .int (nI (num fby tn (fin fby tn ga))), .int fq2_42, .int pq2_43], wO t0 9 [.ref t1, .ref t2, .int (nI tn), .int (nI ta2_37), .int (nI ts2_38), .int (nI tk2_39), .long tm2_40, .int tr2_41], wI (cy 0) t1 1600 (fby), (t2, .inl (cy 2, 24, .inr (.inl (fky))))] hP9 hD9 hS9 (fun hP hD hS => ?_)
      clear hP9 hD9 hS9
      refine W.widen (k := 0) (n := 0) (Nat.le_of_ble_eq_true rfl) (Nat.le_of_ble_eq_true rfl) ?_
      replace hw36 : (ta2_37 ≤ tn) ∧ (tk2_39 ≤ 123) ∧ ((zr36 = 1 ∧ (takS fby tn 59 (fin fby tn (fin fby tn ga)) = .inr (fin fby tn (fin fby tn (fin fby tn ga)))) ∧ (fq = fq2_42) ∧ (pq = pq2_43) ∧ (tkC fby tn (fin fby tn (fin fby tn (fin fby tn ga))) ta2_37 ts2_38 tk2_39 tm2_40 tr2_41) ∧ (knd fby tn (fin fby tn (fin fby tn ga)) = 59)) ∨ (zr36 = 0 ∧ (takS fby tn 59 (fin fby tn (fin fby tn ga)) = .inl (co9_44, b9_45)) ∧ (flt fby tn b9_45 co9_44 fq2_42 pq2_43) ∧ (¬ knd fby tn (fin fby tn (fin fby tn ga)) = 59))) := hw36
      obtain ⟨f_46, f_47, f_48⟩ := hw36
      rcases f_48 with ⟨hz_54, a_49, a_50, a_51, a_52, a_53⟩ | ⟨hz_58, a_55, a_56, a_57⟩
      · subst hz_54
        subst a_50
        subst a_51
        have hgt_59 : fin fby tn (fin fby tn ga) < fin fby tn (fin fby tn (fin fby tn ga)) ∧ fin fby tn (fin fby tn (fin fby tn ga)) ≤ tn := ⟨fin_gt (by rw [a_53]; decide), fin_le (by omega)⟩
        exact x_zret hQ hx hb hr hlocks hK hP hD hS rfl dX10_tellDraw_54 (ta2_37, ts2_38, tk2_39, tm2_40, tr2_41, fq, pq, nI (num fby tn (fin fby tn ga)), 1, nI (num fby tn (fin fby tn ga)), num fby tn (fin fby tn ga), fin fby tn (fin fby tn (fin fby tn ga)), 0, 0) (⟨(show ta2_37 ≤ tn from by omega), (show tk2_39 ≤ 123 from by omega), (show ((1 : Int32) = 1 ∧ (wndS fby tn dt 999 ga = .inr ((num fby tn (fin fby tn ga)), (fin fby tn (fin fby tn (fin fby tn ga))))) ∧ (fq = fq) ∧ (pq = pq) ∧ (tkC fby tn ((fin fby tn (fin fby tn (fin fby tn ga)))) ta2_37 ts2_38 tk2_39 tm2_40 tr2_41) ∧ (1 = 1) ∧ (nI (num fby tn (fin fby tn ga)) = (nI (num fby tn (fin fby tn ga)))) ∧ ((num fby tn (fin fby tn ga)) ≤ 999) ∧ (ga < (fin fby tn (fin fby tn (fin fby tn ga))) ∧ (fin fby tn (fin fby tn (fin fby tn ga))) ≤ tn)) ∨ ((1 : Int32) = 0 ∧ (wndS fby tn dt 999 ga = .inl (0, 0)) ∧ (flt fby tn 0 0 fq pq)) from Or.inl ⟨rfl, ((if_pos (c_4)).trans ((bnd_r _ a_25).trans (bnd_r _ a_49))), (rfl), (rfl), (a_52), (rfl), (rfl), (by omega), (⟨by have h9 := fin_ge fby tn ga; have h8 := fin_gt (show ¬ knd fby tn (fin fby tn ga) = 0 by rw [numS_k a_25]; decide); omega, by omega⟩)⟩)⟩) [1, 2, 3, 4, 0] (by decide +kernel) rfl (Nat.le_of_ble_eq_true rfl) (Nat.le_of_ble_eq_true rfl)
      · subst hz_58
        exact x_zret hQ hx hb hr hlocks hK hP hD hS rfl dX10_tellDraw_54 (ta2_37, ts2_38, tk2_39, tm2_40, tr2_41, fq2_42, pq2_43, nI (num fby tn (fin fby tn ga)), 1, nI (num fby tn (fin fby tn ga)), 0, 0, co9_44, b9_45) (⟨(show ta2_37 ≤ tn from by omega), (show tk2_39 ≤ 123 from by omega), (show ((0 : Int32) = 1 ∧ (wndS fby tn dt 999 ga = .inr (0, 0)) ∧ (fq = fq2_42) ∧ (pq = pq2_43) ∧ (tkC fby tn (0) ta2_37 ts2_38 tk2_39 tm2_40 tr2_41) ∧ (1 = 1) ∧ (nI 0 = (nI (num fby tn (fin fby tn ga)))) ∧ (0 ≤ 999) ∧ (ga < 0 ∧ 0 ≤ tn)) ∨ ((0 : Int32) = 0 ∧ (wndS fby tn dt 999 ga = .inl (co9_44, b9_45)) ∧ (flt fby tn b9_45 co9_44 fq2_42 pq2_43)) from Or.inr (⟨rfl, ((if_pos (c_4)).trans ((bnd_r _ a_25).trans (bnd_l _ a_55))), (a_56)⟩))⟩) [1, 2, 3, 4, 0] (by decide +kernel) rfl (Nat.le_of_ble_eq_true rfl) (Nat.le_of_ble_eq_true rfl)
    · subst hz_34
      refine lv_if_ne (tgt := 37) hx hb dX10_tellDraw_32 (by decide) (fun h => absurd (by decide) h) (fun _ => ?_)
      refine lv_iconst (v := 0) hx hb dX10_tellDraw_35 (by decide) ?_
      exact x_zret hQ hx hb hr hlocks hK hP hD hS rfl dX10_tellDraw_36 (ta2_12, ts2_13, tk2_14, tm2_15, tr2_16, fq2_17, pq2_18, vv2_19, 1, hdr, 0, 0, co9_20, b9_21) (⟨(show ta2_12 ≤ tn from by omega), (show tk2_14 ≤ 123 from by omega), (show ((0 : Int32) = 1 ∧ (wndS fby tn dt 999 ga = .inr (0, 0)) ∧ (fq = fq2_17) ∧ (pq = pq2_18) ∧ (tkC fby tn (0) ta2_12 ts2_13 tk2_14 tm2_15 tr2_16) ∧ (1 = 1) ∧ (nI 0 = hdr) ∧ (0 ≤ 999) ∧ (ga < 0 ∧ 0 ≤ tn)) ∨ ((0 : Int32) = 0 ∧ (wndS fby tn dt 999 ga = .inl (co9_20, b9_21)) ∧ (flt fby tn b9_21 co9_20 fq2_17 pq2_18)) from Or.inr (⟨rfl, ((if_pos (c_4)).trans (bnd_l _ a_32)), (a_33)⟩))⟩) [1, 2, 3, 4, 0] (by decide +kernel) rfl (Nat.le_of_ble_eq_true rfl) (Nat.le_of_ble_eq_true rfl)
  · refine lv_aload_n hx hb dX10_tellDraw_7 rfl (lv_at hl 0 rfl) ?_
    refine lv_iconst (v := 2) hx hb dX10_tellDraw_8 (by decide) ?_
    refine x_callVi (q := (RX10, TX10, 10)) (ci := 10) (q0 := 0) (wr := [wI (cy 0) t1 1600 (fby), (t2, .inl (cy 2, 24, .inr (.inl (fky)))), wO h0 4 [.ref h1, .ref h2, .ref h3, .ref h4, .ref h5, .ref h6, .ref h7, .ref h8, .ref h9, .ref h10, .ref h11, hv0, hv1, hv2, .int hdr, hv4]]) (rest := []) ⟨hx, hb, hml, hown, hg, hl.1⟩ k_X10_110 (s_fail l D cy d0 d1 uh wt dt vv fq pq ((.ref h0)) yf t0 t1 t2 tn ta ts tk tm tr 2 (by omega)) E0_blind hK hP hD hS hA [0, 1] [2, 3, 4] ⟨rfl, rfl, by decide +kernel, by decide +kernel, by decide +kernel⟩ rfl rfl (fun _ _ _ => trivial) dX10_tellDraw_9 rfl rfl (Nat.le_of_ble_eq_true rfl) ⟨Nat.le_of_ble_eq_true rfl, Nat.le_of_ble_eq_true rfl⟩ ⟨Nat.le_of_ble_eq_true rfl, Nat.le_of_ble_eq_true rfl⟩ (fun zr60 zu60 H locs hw60 hP9 hD9 hS9 => ?_)
    clear hP hD hS
    obtain ⟨fq2_61, pq2_62⟩ := zu60
    refine reW [wI (cy 0) t1 1600 (fby), (t2, .inl (cy 2, 24, .inr (.inl (fky)))), wO h0 4 [.ref h1, .ref h2, .ref h3, .ref h4, .ref h5, .ref h6, .ref h7, .ref h8, .ref h9, .ref h10, .ref h11, hv0, hv1, hv2, .int hdr, hv4], wO d0 10 [.ref t0, .ref d1, .ref h0, yf, .int uh, .int wt, .int dt, .int vv, .int fq2_61, .int pq2_62], wO t0 9 [.ref t1, .ref t2, .int (nI tn), .int (nI ta), .int (nI ts), .int (nI tk), .long tm, .int tr]] hP9 hD9 hS9 (fun hP hD hS => ?_)
    clear hP9 hD9 hS9
    refine W.widen (k := 0) (n := 0) (Nat.le_of_ble_eq_true rfl) (Nat.le_of_ble_eq_true rfl) ?_
    replace hw60 : ((zr60 = 0 ∧ (fq2_61 = nI (if tk = 3 then 1 else 2)) ∧ (pq2_62 = nI ts))) := hw60
    have f_63 := hw60
    rcases f_63 with ⟨hz_66, a_64, a_65⟩
    subst hz_66
    exact x_zret hQ hx hb hr hlocks hK hP hD hS rfl dX10_tellDraw_12 (ta, ts, tk, tm, tr, fq2_61, pq2_62, vv, dt, hdr, 0, 0, 2, ga) (⟨(show ta ≤ tn from by omega), (show tk ≤ 123 from by omega), (show ((0 : Int32) = 1 ∧ (wndS fby tn dt 999 ga = .inr (0, 0)) ∧ (fq = fq2_61) ∧ (pq = pq2_62) ∧ (tkC fby tn (0) ta ts tk tm tr) ∧ (1 = dt) ∧ (nI 0 = hdr) ∧ (0 ≤ 999) ∧ (ga < 0 ∧ 0 ≤ tn)) ∨ ((0 : Int32) = 0 ∧ (wndS fby tn dt 999 ga = .inl (2, ga)) ∧ (flt fby tn ga 2 fq2_61 pq2_62)) from Or.inr (⟨rfl, (if_neg (c_4)), (flt_of hti a_64 a_65)⟩))⟩) [3, 4, 0, 1, 2] (by decide +kernel) rfl (Nat.le_of_ble_eq_true rfl) (Nat.le_of_ble_eq_true rfl)
theorem gdX10_tellFormula_0 : decode cX10_tellFormula 0 = .ok (.aload_n 1, 1) ∧ decode cX10_tellFormula 1 = .ok (.getfield 158, 3) ∧ decode cX10_tellFormula 4 = .ok (.ifCond .eq 9, 3) ∧ decode cX10_tellFormula 13 = .ok (.aload_n 1, 1) ∧ decode cX10_tellFormula 14 = .ok (.iconst 1, 1) ∧ decode cX10_tellFormula 15 = .ok (.putfield 158, 3) ∧ decode cX10_tellFormula 18 = .ok (.aload_n 0, 1) ∧ decode cX10_tellFormula 19 = .ok (.aload_n 1, 1) ∧ decode cX10_tellFormula 20 = .ok (.putfield 34, 3) ∧ decode cX10_tellFormula 23 = .ok (.aload_n 0, 1) ∧ decode cX10_tellFormula 24 = .ok (.iconst 0, 1) ∧ decode cX10_tellFormula 25 = .ok (.putfield 163, 3) := by decide +kernel
theorem dX10_tellFormula_0 : decode cX10_tellFormula 0 = .ok (.aload_n 1, 1) := gdX10_tellFormula_0.1
theorem dX10_tellFormula_1 : decode cX10_tellFormula 1 = .ok (.getfield 158, 3) := gdX10_tellFormula_0.2.1
theorem dX10_tellFormula_4 : decode cX10_tellFormula 4 = .ok (.ifCond .eq 9, 3) := gdX10_tellFormula_0.2.2.1
theorem dX10_tellFormula_13 : decode cX10_tellFormula 13 = .ok (.aload_n 1, 1) := gdX10_tellFormula_0.2.2.2.1
theorem dX10_tellFormula_14 : decode cX10_tellFormula 14 = .ok (.iconst 1, 1) := gdX10_tellFormula_0.2.2.2.2.1
theorem dX10_tellFormula_15 : decode cX10_tellFormula 15 = .ok (.putfield 158, 3) := gdX10_tellFormula_0.2.2.2.2.2.1
theorem dX10_tellFormula_18 : decode cX10_tellFormula 18 = .ok (.aload_n 0, 1) := gdX10_tellFormula_0.2.2.2.2.2.2.1
theorem dX10_tellFormula_19 : decode cX10_tellFormula 19 = .ok (.aload_n 1, 1) := gdX10_tellFormula_0.2.2.2.2.2.2.2.1
theorem dX10_tellFormula_20 : decode cX10_tellFormula 20 = .ok (.putfield 34, 3) := gdX10_tellFormula_0.2.2.2.2.2.2.2.2.1
theorem dX10_tellFormula_23 : decode cX10_tellFormula 23 = .ok (.aload_n 0, 1) := gdX10_tellFormula_0.2.2.2.2.2.2.2.2.2.1
theorem dX10_tellFormula_24 : decode cX10_tellFormula 24 = .ok (.iconst 0, 1) := gdX10_tellFormula_0.2.2.2.2.2.2.2.2.2.2.1
theorem dX10_tellFormula_25 : decode cX10_tellFormula 25 = .ok (.putfield 163, 3) := gdX10_tellFormula_0.2.2.2.2.2.2.2.2.2.2.2
theorem gdX10_tellFormula_28 : decode cX10_tellFormula 28 = .ok (.aload_n 0, 1) ∧ decode cX10_tellFormula 29 = .ok (.getfield 16, 3) ∧ decode cX10_tellFormula 32 = .ok (.invokevirtual 140, 3) ∧ decode cX10_tellFormula 35 = .ok (.aload_n 0, 1) ∧ decode cX10_tellFormula 36 = .ok (.iconst 0, 1) ∧ decode cX10_tellFormula 37 = .ok (.invokevirtual 166, 3) ∧ decode cX10_tellFormula 40 = .ok (.ifCond .eq 16, 3) ∧ decode cX10_tellFormula 43 = .ok (.aload_n 0, 1) ∧ decode cX10_tellFormula 44 = .ok (.bipush 59, 2) ∧ decode cX10_tellFormula 46 = .ok (.invokevirtual 128, 3) ∧ decode cX10_tellFormula 49 = .ok (.ifCond .eq 7, 3) ∧ decode cX10_tellFormula 52 = .ok (.iconst 1, 1) := by decide +kernel
theorem dX10_tellFormula_28 : decode cX10_tellFormula 28 = .ok (.aload_n 0, 1) := gdX10_tellFormula_28.1
theorem dX10_tellFormula_29 : decode cX10_tellFormula 29 = .ok (.getfield 16, 3) := gdX10_tellFormula_28.2.1
theorem dX10_tellFormula_32 : decode cX10_tellFormula 32 = .ok (.invokevirtual 140, 3) := gdX10_tellFormula_28.2.2.1
theorem dX10_tellFormula_35 : decode cX10_tellFormula 35 = .ok (.aload_n 0, 1) := gdX10_tellFormula_28.2.2.2.1
theorem dX10_tellFormula_36 : decode cX10_tellFormula 36 = .ok (.iconst 0, 1) := gdX10_tellFormula_28.2.2.2.2.1
theorem dX10_tellFormula_37 : decode cX10_tellFormula 37 = .ok (.invokevirtual 166, 3) := gdX10_tellFormula_28.2.2.2.2.2.1
theorem dX10_tellFormula_40 : decode cX10_tellFormula 40 = .ok (.ifCond .eq 16, 3) := gdX10_tellFormula_28.2.2.2.2.2.2.1
theorem dX10_tellFormula_43 : decode cX10_tellFormula 43 = .ok (.aload_n 0, 1) := gdX10_tellFormula_28.2.2.2.2.2.2.2.1
theorem dX10_tellFormula_44 : decode cX10_tellFormula 44 = .ok (.bipush 59, 2) := gdX10_tellFormula_28.2.2.2.2.2.2.2.2.1
theorem dX10_tellFormula_46 : decode cX10_tellFormula 46 = .ok (.invokevirtual 128, 3) := gdX10_tellFormula_28.2.2.2.2.2.2.2.2.2.1
theorem dX10_tellFormula_49 : decode cX10_tellFormula 49 = .ok (.ifCond .eq 7, 3) := gdX10_tellFormula_28.2.2.2.2.2.2.2.2.2.2.1
theorem dX10_tellFormula_52 : decode cX10_tellFormula 52 = .ok (.iconst 1, 1) := gdX10_tellFormula_28.2.2.2.2.2.2.2.2.2.2.2
theorem gdX10_tellFormula_53 : decode cX10_tellFormula 53 = .ok (.goto 4, 3) ∧ decode cX10_tellFormula 57 = .ok (.ireturn, 1) ∧ decode cX10_tellFormula 56 = .ok (.iconst 0, 1) ∧ decode cX10_tellFormula 7 = .ok (.aload_n 0, 1) ∧ decode cX10_tellFormula 8 = .ok (.iconst 2, 1) ∧ decode cX10_tellFormula 9 = .ok (.invokevirtual 110, 3) ∧ decode cX10_tellFormula 12 = .ok (.ireturn, 1) := by decide +kernel
theorem dX10_tellFormula_53 : decode cX10_tellFormula 53 = .ok (.goto 4, 3) := gdX10_tellFormula_53.1
theorem dX10_tellFormula_57 : decode cX10_tellFormula 57 = .ok (.ireturn, 1) := gdX10_tellFormula_53.2.1
theorem dX10_tellFormula_56 : decode cX10_tellFormula 56 = .ok (.iconst 0, 1) := gdX10_tellFormula_53.2.2.1
theorem dX10_tellFormula_7 : decode cX10_tellFormula 7 = .ok (.aload_n 0, 1) := gdX10_tellFormula_53.2.2.2.1
theorem dX10_tellFormula_8 : decode cX10_tellFormula 8 = .ok (.iconst 2, 1) := gdX10_tellFormula_53.2.2.2.2.1
theorem dX10_tellFormula_9 : decode cX10_tellFormula 9 = .ok (.invokevirtual 110, 3) := gdX10_tellFormula_53.2.2.2.2.2.1
theorem dX10_tellFormula_12 : decode cX10_tellFormula 12 = .ok (.ireturn, 1) := gdX10_tellFormula_53.2.2.2.2.2.2
set_option maxHeartbeats 1000000 in
set_option maxRecDepth 100000 in
theorem s_tellFormula (l : Launch) (D : va_G) (cy : Nat → ClassId) (adK : Nat → Nat) (adV : Nat → Nat) (d0 : Nat) (d1 : Nat) (uh : Int32) (wt : Int32) (dt : Int32) (vv : Int32) (fq : Int32) (pq : Int32) (yf : Value) (t0 : Nat) (t1 : Nat) (t2 : Nat) (tn : Nat) (ta : Nat) (ts : Nat) (tk : Nat) (tm : Int64) (tr : Int32) (fby : Nat → Int32) (fky : Nat → Int64) (h0 : Nat) (h1 : Nat) (h2 : Nat) (h3 : Nat) (h4 : Nat) (h5 : Nat) (h6 : Nat) (h7 : Nat) (h8 : Nat) (h9 : Nat) (h10 : Nat) (h11 : Nat) (hv0 : Value) (hv1 : Value) (hv2 : Value) (hv3 : Value) (un : Nat) (f0 : Nat) (f1 : Nat) (f2 : Nat) (nf : Nat) (fco : Nat → Int32) (tt : Int32) (ga : Nat) (htn : tn ≤ 1600) (hta : ta ≤ tn) (htk : tk ≤ 123) (hti : tkC fby tn ga ta ts tk tm tr) (hky : kyOK fky) (hnf : nf ≤ 280) (hfc : cOK fco nf) (hga : ga ≤ tn) (hun : un ≤ 60) : XMi l D (tyL cy) (EV adK adV) yX10_tellFormula cX10_tellFormula 2 (some .boolean) (rmk 62 0 0) [.ref d0, .ref f0] [wO d0 10 [.ref t0, .ref d1, .ref h0, yf, .int uh, .int wt, .int dt, .int vv, .int fq, .int pq], wO t0 9 [.ref t1, .ref t2, .int (nI tn), .int (nI ta), .int (nI ts), .int (nI tk), .long tm, .int tr], wI (cy 0) t1 1600 (fby), (t2, .inl (cy 2, 24, .inr (.inl (fky)))), wO h0 4 [.ref h1, .ref h2, .ref h3, .ref h4, .ref h5, .ref h6, .ref h7, .ref h8, .ref h9, .ref h10, .ref h11, hv0, hv1, hv2, hv3, .int (nI un)], wO f0 3 [.ref f1, .ref f2, .int (nI nf), .int tt], wI (cy 1) f1 280 (fco)] (fun (r : Int32) (u : Nat × Nat × Nat × Int64 × Int32 × Int32 × Int32 × Int32 × Nat × Nat × (Nat → Int32) × Nat × Int32 × Value × Nat × Nat) => (u.1 ≤ tn) ∧ (u.2.2.1 ≤ 123) ∧ (u.2.2.2.2.2.2.2.2.2.1 ≤ 280) ∧ (cOK u.2.2.2.2.2.2.2.2.2.2.1 u.2.2.2.2.2.2.2.2.2.1) ∧ (u.2.2.2.2.2.2.2.2.1 ≤ 60) ∧ ((r = 1 ∧ (frmR fby tn tt un ga (.inr (u.2.2.2.2.2.2.2.2.1, u.2.2.2.2.2.2.2.2.2.2.2.1))) ∧ (fq = u.2.2.2.2.2.1) ∧ (pq = u.2.2.2.2.2.2.1) ∧ (tkC fby tn u.2.2.2.2.2.2.2.2.2.2.2.1 u.1 u.2.1 u.2.2.1 u.2.2.2.1 u.2.2.2.2.1) ∧ (1 = u.2.2.2.2.2.2.2.2.2.2.2.2.1) ∧ (ga < u.2.2.2.2.2.2.2.2.2.2.2.1 ∧ u.2.2.2.2.2.2.2.2.2.2.2.1 ≤ tn)) ∨ (r = 0 ∧ (frmR fby tn tt un ga (.inl (u.2.2.2.2.2.2.2.2.2.2.2.2.2.2.1, u.2.2.2.2.2.2.2.2.2.2.2.2.2.2.2))) ∧ (flt fby tn u.2.2.2.2.2.2.2.2.2.2.2.2.2.2.2 u.2.2.2.2.2.2.2.2.2.2.2.2.2.2.1 u.2.2.2.2.2.1 u.2.2.2.2.2.2.1)))) (fun (u : Nat × Nat × Nat × Int64 × Int32 × Int32 × Int32 × Int32 × Nat × Nat × (Nat → Int32) × Nat × Int32 × Value × Nat × Nat) => [wO d0 10 [.ref t0, .ref d1, .ref h0, u.2.2.2.2.2.2.2.2.2.2.2.2.2.1, .int u.2.2.2.2.2.2.2.1, .int wt, .int dt, .int vv, .int u.2.2.2.2.2.1, .int u.2.2.2.2.2.2.1], wO t0 9 [.ref t1, .ref t2, .int (nI tn), .int (nI u.1), .int (nI u.2.1), .int (nI u.2.2.1), .long u.2.2.2.1, .int u.2.2.2.2.1], wI (cy 0) t1 1600 (fby), (t2, .inl (cy 2, 24, .inr (.inl (fky)))), wO h0 4 [.ref h1, .ref h2, .ref h3, .ref h4, .ref h5, .ref h6, .ref h7, .ref h8, .ref h9, .ref h10, .ref h11, hv0, hv1, hv2, hv3, .int (nI u.2.2.2.2.2.2.2.2.1)], wO f0 3 [.ref f1, .ref f2, .int (nI u.2.2.2.2.2.2.2.2.2.1), .int u.2.2.2.2.2.2.2.2.2.2.2.2.1], wI (cy 1) f1 280 (u.2.2.2.2.2.2.2.2.2.2.1)]) := by
  refine XMi.start (by decide) (Nat.le_of_ble_eq_true rfl) ?_
  intro p e s m below meth c args A ls Q hat hQ
  obtain ⟨hx, hb, hr, hml, hown, hg, hlocks, hin, hK, hA, hP, hD, hS, hE, hl⟩ := hat
  have hown : s.vm.findClass RX10 = some m.cls := hown
  have hl : lv_has ls 2 [(0, .ref d0), (1, .ref f0)] := hl
  refine lv_aload_n hx hb dX10_tellFormula_0 rfl (lv_at hl 1 rfl) ?_
  refine va_get (D := D) (ci := 3) (v := .int tt) (C := RX3) (T := TX3) (N := 4) hx hb hg i_X3 hown hK hP 5 rfl rfl 3 (by decide) (hg _ m_306) (fun _ h9 => h9) rfl dX10_tellFormula_1 ?_
  refine lv_if_eq (tgt := 13) hx hb dX10_tellFormula_4 (by decide) (fun c_4 => ?_) (fun c_4 => ?_)
  · refine lv_aload_n hx hb dX10_tellFormula_13 rfl (lv_at hl 1 rfl) ?_
    refine lv_iconst (v := 1) hx hb dX10_tellFormula_14 (by decide) ?_
    refine va_put (D := D) (ci := 3) (v := .int 1) (ty := .boolean) (C := RX3) (T := TX3) (N := 4) hx hb hg i_X3 tyX3 tyX3_ok nmX3 hown hK hP hD hS 5 rfl rfl 3 (by decide) (hg _ m_306) (fun _ h9 => h9) rfl (by decide +kernel) rfl rfl (Nat.le_of_ble_eq_true rfl) dX10_tellFormula_15 (fun H locs hP9 hD9 hS9 => ?_)
    clear hP hD hS
    refine reW [wO d0 10 [.ref t0, .ref d1, .ref h0, yf, .int uh, .int wt, .int dt, .int vv, .int fq, .int pq], wO t0 9 [.ref t1, .ref t2, .int (nI tn), .int (nI ta), .int (nI ts), .int (nI tk), .long tm, .int tr], wI (cy 0) t1 1600 (fby), (t2, .inl (cy 2, 24, .inr (.inl (fky)))), wO h0 4 [.ref h1, .ref h2, .ref h3, .ref h4, .ref h5, .ref h6, .ref h7, .ref h8, .ref h9, .ref h10, .ref h11, hv0, hv1, hv2, hv3, .int (nI un)], wO f0 3 [.ref f1, .ref f2, .int (nI nf), .int 1], wI (cy 1) f1 280 (fco)] hP9 hD9 hS9 (fun hP hD hS => ?_)
    clear hP9 hD9 hS9
    refine lv_aload_n hx hb dX10_tellFormula_18 rfl (lv_at hl 0 rfl) ?_
    refine lv_aload_n hx hb dX10_tellFormula_19 rfl (lv_at hl 1 rfl) ?_
    refine va_put (D := D) (ci := 10) (v := .ref f0) (ty := .object "CliffJudges$Formula") (C := RX10) (T := TX10) (N := 10) hx hb hg i_X10 tyX10 tyX10_ok nmX10 hown hK hP hD hS 0 rfl rfl 3 (by decide) (hg _ m_258) (fun _ h9 => h9) rfl (by decide +kernel) rfl rfl (Nat.le_of_ble_eq_true rfl) dX10_tellFormula_20 (fun H locs hP9 hD9 hS9 => ?_)
    clear hP hD hS
    refine reW [wO d0 10 [.ref t0, .ref d1, .ref h0, .ref f0, .int uh, .int wt, .int dt, .int vv, .int fq, .int pq], wO t0 9 [.ref t1, .ref t2, .int (nI tn), .int (nI ta), .int (nI ts), .int (nI tk), .long tm, .int tr], wI (cy 0) t1 1600 (fby), (t2, .inl (cy 2, 24, .inr (.inl (fky)))), wO h0 4 [.ref h1, .ref h2, .ref h3, .ref h4, .ref h5, .ref h6, .ref h7, .ref h8, .ref h9, .ref h10, .ref h11, hv0, hv1, hv2, hv3, .int (nI un)], wO f0 3 [.ref f1, .ref f2, .int (nI nf), .int 1], wI (cy 1) f1 280 (fco)] hP9 hD9 hS9 (fun hP hD hS => ?_)
    clear hP9 hD9 hS9
    refine lv_aload_n hx hb dX10_tellFormula_23 rfl (lv_at hl 0 rfl) ?_
    refine lv_iconst (v := 0) hx hb dX10_tellFormula_24 (by decide) ?_
    refine va_put (D := D) (ci := 10) (v := .int 0) (ty := .int) (C := RX10) (T := TX10) (N := 10) hx hb hg i_X10 tyX10 tyX10_ok nmX10 hown hK hP hD hS 0 rfl rfl 4 (by decide) (hg _ m_259) (fun _ h9 => h9) rfl (by decide +kernel) rfl rfl (Nat.le_of_ble_eq_true rfl) dX10_tellFormula_25 (fun H locs hP9 hD9 hS9 => ?_)
    clear hP hD hS
    refine reW [wO d0 10 [.ref t0, .ref d1, .ref h0, .ref f0, .int 0, .int wt, .int dt, .int vv, .int fq, .int pq], wO t0 9 [.ref t1, .ref t2, .int (nI tn), .int (nI ta), .int (nI ts), .int (nI tk), .long tm, .int tr], wI (cy 0) t1 1600 (fby), (t2, .inl (cy 2, 24, .inr (.inl (fky)))), wO h0 4 [.ref h1, .ref h2, .ref h3, .ref h4, .ref h5, .ref h6, .ref h7, .ref h8, .ref h9, .ref h10, .ref h11, hv0, hv1, hv2, hv3, .int (nI un)], wO f0 3 [.ref f1, .ref f2, .int (nI nf), .int 1], wI (cy 1) f1 280 (fco)] hP9 hD9 hS9 (fun hP hD hS => ?_)
    clear hP9 hD9 hS9
    refine lv_aload_n hx hb dX10_tellFormula_28 rfl (lv_at hl 0 rfl) ?_
    refine va_get (D := D) (ci := 10) (v := .ref t0) (C := RX10) (T := TX10) (N := 10) hx hb hg i_X10 hown hK hP 0 rfl rfl 0 (by decide) (hg _ m_255) (fun _ h9 => h9) rfl dX10_tellFormula_29 ?_
    refine x_callVv (q := (RX9, TX9, 8)) (ci := 9) (q0 := 0) (wr := [wO d0 10 [.ref t0, .ref d1, .ref h0, .ref f0, .int 0, .int wt, .int dt, .int vv, .int fq, .int pq], wO h0 4 [.ref h1, .ref h2, .ref h3, .ref h4, .ref h5, .ref h6, .ref h7, .ref h8, .ref h9, .ref h10, .ref h11, hv0, hv1, hv2, hv3, .int (nI un)], wO f0 3 [.ref f1, .ref f2, .int (nI nf), .int 1], wI (cy 1) f1 280 (fco)]) (rest := []) ⟨hx, hb, hml, hown, hg, hl.1⟩ k_X10_140 (s_next l D cy adK adV t0 t1 t2 tn ta ts tk tm tr fby fky (fin fby tn ga) (by omega) (by omega) (hti.2.1) (hky)) EV_blind hK hP hD hS hA [1, 2, 3] [0, 4, 5, 6] ⟨rfl, rfl, by decide +kernel, by decide +kernel, by decide +kernel⟩ rfl rfl (fun U hU hW => EV_pass hE hS (va_free hD hS hA [1, 2, 3] rfl) hU hW) dX10_tellFormula_32 rfl rfl (Nat.le_of_ble_eq_true rfl) ⟨Nat.le_of_ble_eq_true rfl, Nat.le_of_ble_eq_true rfl⟩ ⟨Nat.le_of_ble_eq_true rfl, Nat.le_of_ble_eq_true rfl⟩ (fun zu1 H locs hw1 hP9 hD9 hS9 => ?_)
    clear hP hD hS
    obtain ⟨ta2_2, ts2_3, tk2_4, tm2_5, tr2_6⟩ := zu1
    refine reW [wO d0 10 [.ref t0, .ref d1, .ref h0, .ref f0, .int 0, .int wt, .int dt, .int vv, .int fq, .int pq], wO h0 4 [.ref h1, .ref h2, .ref h3, .ref h4, .ref h5, .ref h6, .ref h7, .ref h8, .ref h9, .ref h10, .ref h11, hv0, hv1, hv2, hv3, .int (nI un)], wO f0 3 [.ref f1, .ref f2, .int (nI nf), .int 1], wI (cy 1) f1 280 (fco), wO t0 9 [.ref t1, .ref t2, .int (nI tn), .int (nI ta2_2), .int (nI ts2_3), .int (nI tk2_4), .long tm2_5, .int tr2_6], wI (cy 0) t1 1600 (fby), (t2, .inl (cy 2, 24, .inr (.inl (fky))))] hP9 hD9 hS9 (fun hP hD hS => ?_)
    clear hP9 hD9 hS9
    refine W.widen (k := 0) (n := 0) (Nat.le_of_ble_eq_true rfl) (Nat.le_of_ble_eq_true rfl) ?_
    replace hw1 : (ta2_2 ≤ tn) ∧ (tk2_4 ≤ 123) ∧ (tkC fby tn (fin fby tn ga) ta2_2 ts2_3 tk2_4 tm2_5 tr2_6) := hw1
    obtain ⟨f_7, f_8, f_9⟩ := hw1
    have hgt_10 : ga ≤ fin fby tn ga ∧ fin fby tn ga ≤ tn := ⟨fin_ge _ _ _, fin_le (by omega)⟩
    refine lv_aload_n hx hb dX10_tellFormula_35 rfl (lv_at hl 0 rfl) ?_
    refine lv_iconst (v := 0) hx hb dX10_tellFormula_36 (by decide) ?_
    refine x_callVi (q := (RX10, TX10, 10)) (ci := 10) (q0 := 0) (wr := []) (rest := []) ⟨hx, hb, hml, hown, hg, hl.1⟩ k_X10_166 (s_takeEither0 l D cy adK adV d0 d1 wt dt vv fq pq t0 t1 t2 tn ta2_2 ts2_3 tk2_4 tm2_5 tr2_6 fby fky h0 h1 h2 h3 h4 h5 h6 h7 h8 h9 h10 h11 hv0 hv1 hv2 hv3 0 un f0 f1 f2 nf ((.int 1)) fco (fin fby tn ga) (by omega) (by omega) (by omega) (f_9) (hky) (by omega) (hfc) (by omega) (by omega) (by omega)) EV_blind hK hP hD hS hA [0, 4, 5, 6, 1, 2, 3] [] ⟨rfl, rfl, by decide +kernel, by decide +kernel, by decide +kernel⟩ rfl rfl (fun U hU hW => EV_pass hE hS (va_free hD hS hA [0, 4, 5, 6, 1, 2, 3] rfl) hU hW) dX10_tellFormula_37 rfl rfl (Nat.le_of_ble_eq_true rfl) ⟨Nat.le_of_ble_eq_true rfl, Nat.le_of_ble_eq_true rfl⟩ ⟨Nat.le_of_ble_eq_true rfl, Nat.le_of_ble_eq_true rfl⟩ (fun zr11 zu11 H locs hw11 hP9 hD9 hS9 => ?_)
    clear hP hD hS
    obtain ⟨ta2_12, ts2_13, tk2_14, tm2_15, tr2_16, fq2_17, pq2_18, ow2_19, un2_20, nf2_21, fco2_22, ga2_23⟩ := zu11
    refine reW [wO d0 10 [.ref t0, .ref d1, .ref h0, .ref f0, .int (nI ow2_19), .int wt, .int dt, .int vv, .int fq2_17, .int pq2_18], wO t0 9 [.ref t1, .ref t2, .int (nI tn), .int (nI ta2_12), .int (nI ts2_13), .int (nI tk2_14), .long tm2_15, .int tr2_16], wI (cy 0) t1 1600 (fby), (t2, .inl (cy 2, 24, .inr (.inl (fky)))), wO h0 4 [.ref h1, .ref h2, .ref h3, .ref h4, .ref h5, .ref h6, .ref h7, .ref h8, .ref h9, .ref h10, .ref h11, hv0, hv1, hv2, hv3, .int (nI un2_20)], wO f0 3 [.ref f1, .ref f2, .int (nI nf2_21), .int 1], wI (cy 1) f1 280 (fco2_22)] hP9 hD9 hS9 (fun hP hD hS => ?_)
    clear hP9 hD9 hS9
    refine W.widen (k := 0) (n := 0) (Nat.le_of_ble_eq_true rfl) (Nat.le_of_ble_eq_true rfl) ?_
    replace hw11 : (ta2_12 ≤ tn) ∧ (tk2_14 ≤ 123) ∧ (nf2_21 ≤ 280) ∧ (cOK fco2_22 nf2_21) ∧ (ow2_19 ≤ 30) ∧ (un2_20 ≤ 60) ∧ ((zr11 = 1 ∧ (okS (knd fby tn) (fin fby tn) 1 0 (fin fby tn ga) 0 un ga2_23 ow2_19 un2_20) ∧ (fq = fq2_17) ∧ (pq = pq2_18) ∧ (tkC fby tn ga2_23 ta2_12 ts2_13 tk2_14 tm2_15 tr2_16) ∧ ((fin fby tn ga) < ga2_23 ∧ ga2_23 ≤ tn)) ∨ (zr11 = 0 ∧ (noS (knd fby tn) (fin fby tn) 1 0 (fin fby tn ga) 0 un ga2_23) ∧ (flt fby tn ga2_23 2 fq2_17 pq2_18))) := hw11
    obtain ⟨f_24, f_25, f_26, f_27, f_28, f_29, f_30⟩ := hw11
    rcases f_30 with ⟨hz_36, a_31, a_32, a_33, a_34, a_35⟩ | ⟨hz_39, a_37, a_38⟩
    · subst hz_36
      subst a_32
      subst a_33
      have hg_a_35 := a_35
      refine lv_if_eq (tgt := 56) hx hb dX10_tellFormula_40 (by decide) (fun h => absurd h (by decide)) (fun _ => ?_)
      refine lv_aload_n hx hb dX10_tellFormula_43 rfl (lv_at hl 0 rfl) ?_
      refine lv_bipush (v := 59) hx hb dX10_tellFormula_44 (by decide) ?_
      refine x_callVi (q := (RX10, TX10, 10)) (ci := 10) (q0 := 0) (wr := [wO h0 4 [.ref h1, .ref h2, .ref h3, .ref h4, .ref h5, .ref h6, .ref h7, .ref h8, .ref h9, .ref h10, .ref h11, hv0, hv1, hv2, hv3, .int (nI un2_20)], wO f0 3 [.ref f1, .ref f2, .int (nI nf2_21), .int 1], wI (cy 1) f1 280 (fco2_22)]) (rest := []) ⟨hx, hb, hml, hown, hg, hl.1⟩ k_X10_128 (s_take l D cy adK adV d0 d1 (nI ow2_19) wt dt vv fq pq ((.ref h0)) ((.ref f0)) t0 t1 t2 tn ta2_12 ts2_13 tk2_14 tm2_15 tr2_16 fby fky ga2_23 59 (by omega) (by omega) (by omega) (a_34) (hky) (by omega)) EV_blind hK hP hD hS hA [0, 1, 2, 3] [4, 5, 6] ⟨rfl, rfl, by decide +kernel, by decide +kernel, by decide +kernel⟩ rfl rfl (fun U hU hW => EV_pass hE hS (va_free hD hS hA [0, 1, 2, 3] rfl) hU hW) dX10_tellFormula_46 rfl rfl (Nat.le_of_ble_eq_true rfl) ⟨Nat.le_of_ble_eq_true rfl, Nat.le_of_ble_eq_true rfl⟩ ⟨Nat.le_of_ble_eq_true rfl, Nat.le_of_ble_eq_true rfl⟩ (fun zr40 zu40 H locs hw40 hP9 hD9 hS9 => ?_)
      clear hP hD hS
      obtain ⟨ta2_41, ts2_42, tk2_43, tm2_44, tr2_45, fq2_46, pq2_47, co9_48, b9_49⟩ := zu40
      refine reW [wO h0 4 [.ref h1, .ref h2, .ref h3, .ref h4, .ref h5, .ref h6, .ref h7, .ref h8, .ref h9, .ref h10, .ref h11, hv0, hv1, hv2, hv3, .int (nI un2_20)], wO f0 3 [.ref f1, .ref f2, .int (nI nf2_21), .int 1], wI (cy 1) f1 280 (fco2_22), wO d0 10 [.ref t0, .ref d1, .ref h0, .ref f0, .int (nI ow2_19), .int wt, .int dt, .int vv, .int fq2_46, .int pq2_47], wO t0 9 [.ref t1, .ref t2, .int (nI tn), .int (nI ta2_41), .int (nI ts2_42), .int (nI tk2_43), .long tm2_44, .int tr2_45], wI (cy 0) t1 1600 (fby), (t2, .inl (cy 2, 24, .inr (.inl (fky))))] hP9 hD9 hS9 (fun hP hD hS => ?_)
      clear hP9 hD9 hS9
      refine W.widen (k := 0) (n := 0) (Nat.le_of_ble_eq_true rfl) (Nat.le_of_ble_eq_true rfl) ?_
      replace hw40 : (ta2_41 ≤ tn) ∧ (tk2_43 ≤ 123) ∧ ((zr40 = 1 ∧ (takS fby tn 59 ga2_23 = .inr (fin fby tn ga2_23)) ∧ (fq = fq2_46) ∧ (pq = pq2_47) ∧ (tkC fby tn (fin fby tn ga2_23) ta2_41 ts2_42 tk2_43 tm2_44 tr2_45) ∧ (knd fby tn ga2_23 = 59)) ∨ (zr40 = 0 ∧ (takS fby tn 59 ga2_23 = .inl (co9_48, b9_49)) ∧ (flt fby tn b9_49 co9_48 fq2_46 pq2_47) ∧ (¬ knd fby tn ga2_23 = 59))) := hw40
      obtain ⟨f_50, f_51, f_52⟩ := hw40
      rcases f_52 with ⟨hz_58, a_53, a_54, a_55, a_56, a_57⟩ | ⟨hz_62, a_59, a_60, a_61⟩
      · subst hz_58
        subst a_54
        subst a_55
        have hgt_63 : ga2_23 < fin fby tn ga2_23 ∧ fin fby tn ga2_23 ≤ tn := ⟨fin_gt (by rw [a_57]; decide), fin_le (by omega)⟩
        refine lv_if_eq (tgt := 56) hx hb dX10_tellFormula_49 (by decide) (fun h => absurd h (by decide)) (fun _ => ?_)
        refine lv_iconst (v := 1) hx hb dX10_tellFormula_52 (by decide) ?_
        refine lv_goto (tgt := 57) hx hb dX10_tellFormula_53 (by decide) ?_
        exact x_zret hQ hx hb hr hlocks hK hP hD hS rfl dX10_tellFormula_57 (ta2_41, ts2_42, tk2_43, tm2_44, tr2_45, fq, pq, nI ow2_19, un2_20, nf2_21, fco2_22, fin fby tn ga2_23, 1, .ref f0, 0, 0) (⟨(show ta2_41 ≤ tn from by omega), (show tk2_43 ≤ 123 from by omega), (show nf2_21 ≤ 280 from by omega), f_27, (show un2_20 ≤ 60 from by omega), (show ((1 : Int32) = 1 ∧ (frmR fby tn tt un ga (.inr (un2_20, (fin fby tn ga2_23)))) ∧ (fq = fq) ∧ (pq = pq) ∧ (tkC fby tn (fin fby tn ga2_23) ta2_41 ts2_42 tk2_43 tm2_44 tr2_45) ∧ (1 = 1) ∧ (ga < (fin fby tn ga2_23) ∧ (fin fby tn ga2_23) ≤ tn)) ∨ ((1 : Int32) = 0 ∧ (frmR fby tn tt un ga (.inl (0, 0))) ∧ (flt fby tn 0 0 fq pq)) from Or.inl ⟨rfl, (by unfold frmR; rw [if_pos c_4]; exact Or.inl ⟨_, _, form_ok a_31 a_57, rfl⟩), (rfl), (rfl), (a_56), (rfl), (⟨by omega, by omega⟩)⟩)⟩) [3, 4, 5, 6, 0, 1, 2] (by decide +kernel) rfl (Nat.le_of_ble_eq_true rfl) (Nat.le_of_ble_eq_true rfl)
      · subst hz_62
        refine lv_if_eq (tgt := 56) hx hb dX10_tellFormula_49 (by decide) (fun _ => ?_) (fun h => absurd (by decide) h)
        refine lv_iconst (v := 0) hx hb dX10_tellFormula_56 (by decide) ?_
        exact x_zret hQ hx hb hr hlocks hK hP hD hS rfl dX10_tellFormula_57 (ta2_41, ts2_42, tk2_43, tm2_44, tr2_45, fq2_46, pq2_47, nI ow2_19, un2_20, nf2_21, fco2_22, 0, 1, .ref f0, 2, ga2_23) (⟨(show ta2_41 ≤ tn from by omega), (show tk2_43 ≤ 123 from by omega), (show nf2_21 ≤ 280 from by omega), f_27, (show un2_20 ≤ 60 from by omega), (show ((0 : Int32) = 1 ∧ (frmR fby tn tt un ga (.inr (un2_20, 0))) ∧ (fq = fq2_46) ∧ (pq = pq2_47) ∧ (tkC fby tn 0 ta2_41 ts2_42 tk2_43 tm2_44 tr2_45) ∧ (1 = 1) ∧ (ga < 0 ∧ 0 ≤ tn)) ∨ ((0 : Int32) = 0 ∧ (frmR fby tn tt un ga (.inl (2, ga2_23))) ∧ (flt fby tn ga2_23 2 fq2_46 pq2_47)) from Or.inr (⟨rfl, (by unfold frmR; rw [if_pos c_4]; exact Or.inr ⟨_, form_bad a_31 a_61, rfl⟩), (takS_f a_59 a_60)⟩))⟩) [3, 4, 5, 6, 0, 1, 2] (by decide +kernel) rfl (Nat.le_of_ble_eq_true rfl) (Nat.le_of_ble_eq_true rfl)
    · subst hz_39
      refine lv_if_eq (tgt := 56) hx hb dX10_tellFormula_40 (by decide) (fun _ => ?_) (fun h => absurd (by decide) h)
      refine lv_iconst (v := 0) hx hb dX10_tellFormula_56 (by decide) ?_
      exact x_zret hQ hx hb hr hlocks hK hP hD hS rfl dX10_tellFormula_57 (ta2_12, ts2_13, tk2_14, tm2_15, tr2_16, fq2_17, pq2_18, nI ow2_19, un2_20, nf2_21, fco2_22, 0, 1, .ref f0, 2, ga2_23) (⟨(show ta2_12 ≤ tn from by omega), (show tk2_14 ≤ 123 from by omega), (show nf2_21 ≤ 280 from by omega), f_27, (show un2_20 ≤ 60 from by omega), (show ((0 : Int32) = 1 ∧ (frmR fby tn tt un ga (.inr (un2_20, 0))) ∧ (fq = fq2_17) ∧ (pq = pq2_18) ∧ (tkC fby tn 0 ta2_12 ts2_13 tk2_14 tm2_15 tr2_16) ∧ (1 = 1) ∧ (ga < 0 ∧ 0 ≤ tn)) ∨ ((0 : Int32) = 0 ∧ (frmR fby tn tt un ga (.inl (2, ga2_23))) ∧ (flt fby tn ga2_23 2 fq2_17 pq2_18)) from Or.inr (⟨rfl, (by unfold frmR; rw [if_pos c_4]; exact Or.inr ⟨_, form_no a_37, rfl⟩), (a_38)⟩))⟩) [0, 1, 2, 3, 4, 5, 6] (by decide +kernel) rfl (Nat.le_of_ble_eq_true rfl) (Nat.le_of_ble_eq_true rfl)
  · refine lv_aload_n hx hb dX10_tellFormula_7 rfl (lv_at hl 0 rfl) ?_
    refine lv_iconst (v := 2) hx hb dX10_tellFormula_8 (by decide) ?_
    refine x_callVi (q := (RX10, TX10, 10)) (ci := 10) (q0 := 0) (wr := [wI (cy 0) t1 1600 (fby), (t2, .inl (cy 2, 24, .inr (.inl (fky)))), wO h0 4 [.ref h1, .ref h2, .ref h3, .ref h4, .ref h5, .ref h6, .ref h7, .ref h8, .ref h9, .ref h10, .ref h11, hv0, hv1, hv2, hv3, .int (nI un)], wO f0 3 [.ref f1, .ref f2, .int (nI nf), .int tt], wI (cy 1) f1 280 (fco)]) (rest := []) ⟨hx, hb, hml, hown, hg, hl.1⟩ k_X10_110 (s_fail l D cy d0 d1 uh wt dt vv fq pq ((.ref h0)) yf t0 t1 t2 tn ta ts tk tm tr 2 (by omega)) E0_blind hK hP hD hS hA [0, 1] [2, 3, 4, 5, 6] ⟨rfl, rfl, by decide +kernel, by decide +kernel, by decide +kernel⟩ rfl rfl (fun _ _ _ => trivial) dX10_tellFormula_9 rfl rfl (Nat.le_of_ble_eq_true rfl) ⟨Nat.le_of_ble_eq_true rfl, Nat.le_of_ble_eq_true rfl⟩ ⟨Nat.le_of_ble_eq_true rfl, Nat.le_of_ble_eq_true rfl⟩ (fun zr64 zu64 H locs hw64 hP9 hD9 hS9 => ?_)
    clear hP hD hS
    obtain ⟨fq2_65, pq2_66⟩ := zu64
    refine reW [wI (cy 0) t1 1600 (fby), (t2, .inl (cy 2, 24, .inr (.inl (fky)))), wO h0 4 [.ref h1, .ref h2, .ref h3, .ref h4, .ref h5, .ref h6, .ref h7, .ref h8, .ref h9, .ref h10, .ref h11, hv0, hv1, hv2, hv3, .int (nI un)], wO f0 3 [.ref f1, .ref f2, .int (nI nf), .int tt], wI (cy 1) f1 280 (fco), wO d0 10 [.ref t0, .ref d1, .ref h0, yf, .int uh, .int wt, .int dt, .int vv, .int fq2_65, .int pq2_66], wO t0 9 [.ref t1, .ref t2, .int (nI tn), .int (nI ta), .int (nI ts), .int (nI tk), .long tm, .int tr]] hP9 hD9 hS9 (fun hP hD hS => ?_)
    clear hP9 hD9 hS9
    refine W.widen (k := 0) (n := 0) (Nat.le_of_ble_eq_true rfl) (Nat.le_of_ble_eq_true rfl) ?_
    replace hw64 : ((zr64 = 0 ∧ (fq2_65 = nI (if tk = 3 then 1 else 2)) ∧ (pq2_66 = nI ts))) := hw64
    have f_67 := hw64
    rcases f_67 with ⟨hz_70, a_68, a_69⟩
    subst hz_70
    exact x_zret hQ hx hb hr hlocks hK hP hD hS rfl dX10_tellFormula_12 (ta, ts, tk, tm, tr, fq2_65, pq2_66, uh, un, nf, fco, 0, tt, yf, 2, ga) (⟨(show ta ≤ tn from by omega), (show tk ≤ 123 from by omega), (show nf ≤ 280 from by omega), hfc, (show un ≤ 60 from by omega), (show ((0 : Int32) = 1 ∧ (frmR fby tn tt un ga (.inr (un, 0))) ∧ (fq = fq2_65) ∧ (pq = pq2_66) ∧ (tkC fby tn 0 ta ts tk tm tr) ∧ (1 = tt) ∧ (ga < 0 ∧ 0 ≤ tn)) ∨ ((0 : Int32) = 0 ∧ (frmR fby tn tt un ga (.inl (2, ga))) ∧ (flt fby tn ga 2 fq2_65 pq2_66)) from Or.inr (⟨rfl, (by unfold frmR; rw [if_neg c_4]), (flt_of hti a_68 a_69)⟩))⟩) [5, 6, 0, 1, 2, 3, 4] (by decide +kernel) rfl (Nat.le_of_ble_eq_true rfl) (Nat.le_of_ble_eq_true rfl)
