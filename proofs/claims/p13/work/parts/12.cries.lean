def mL12 : List (Option Cond) := [some (Cond.selects RX1 yX1_straightPath yX1_straightPath), some (Cond.initialized RX1), some (Cond.fieldLink RX1 43 "CliffJudges$Hills" "counts" "[I"), some (Cond.fieldLink RX1 84 "CliffJudges$Hills" "next" "[I"), some (Cond.fieldLink RX1 74 "CliffJudges$Ear" "turned" "Z"), some (Cond.fieldLink RX1 31 "CliffJudges$Cries" "hills" "LCliffJudges$Hills;"), some (Cond.methodLink RX1 87 yX1_stateOf), some (Cond.static yX1_stateOf), some (Cond.code yX1_stateOf cX1_stateOf 2 (some .int)), some (Cond.methodLink RX1 81 yX1_straightPath), some (Cond.instanceMethod yX1_straightPath), some (Cond.code yX1_straightPath cX1_straightPath 3 (some .int)), some (Cond.constant RJ6 265 (1431655765)), some (Cond.constant RJ6 266 (858993459)), some (Cond.constant RJ6 267 (252645135))]
set_option maxRecDepth 100000 in
theorem mP12 : pick [41, 102, 188, 24, 162, 41, 609, 1, 1, 1, 2, 1, 35, 1, 1] lw_tbl = mL12 := rfl
set_option maxRecDepth 100000 in
theorem mG12 : mL12.all (fun o => o.all goodWord) = true := rfl
theorem m_41 : (Cond.selects RX1 yX1_straightPath yX1_straightPath) ∈ gT := gp mP12 mG12 0 rfl
theorem m_143 : (Cond.initialized RX1) ∈ gT := gp mP12 mG12 1 rfl
theorem m_331 : (Cond.fieldLink RX1 43 "CliffJudges$Hills" "counts" "[I") ∈ gT := gp mP12 mG12 2 rfl
theorem m_355 : (Cond.fieldLink RX1 84 "CliffJudges$Hills" "next" "[I") ∈ gT := gp mP12 mG12 3 rfl
theorem m_517 : (Cond.fieldLink RX1 74 "CliffJudges$Ear" "turned" "Z") ∈ gT := gp mP12 mG12 4 rfl
theorem m_558 : (Cond.fieldLink RX1 31 "CliffJudges$Cries" "hills" "LCliffJudges$Hills;") ∈ gT := gp mP12 mG12 5 rfl
theorem m_1167 : (Cond.methodLink RX1 87 yX1_stateOf) ∈ gT := gp mP12 mG12 6 rfl
theorem m_1168 : (Cond.static yX1_stateOf) ∈ gT := gp mP12 mG12 7 rfl
theorem m_1169 : (Cond.code yX1_stateOf cX1_stateOf 2 (some .int)) ∈ gT := gp mP12 mG12 8 rfl
theorem m_1170 : (Cond.methodLink RX1 81 yX1_straightPath) ∈ gT := gp mP12 mG12 9 rfl
theorem m_1172 : (Cond.instanceMethod yX1_straightPath) ∈ gT := gp mP12 mG12 10 rfl
theorem m_1173 : (Cond.code yX1_straightPath cX1_straightPath 3 (some .int)) ∈ gT := gp mP12 mG12 11 rfl
theorem m_1208 : (Cond.constant RJ6 265 (1431655765)) ∈ gT := gp mP12 mG12 12 rfl
theorem m_1209 : (Cond.constant RJ6 266 (858993459)) ∈ gT := gp mP12 mG12 13 rfl
theorem m_1210 : (Cond.constant RJ6 267 (252645135)) ∈ gT := gp mP12 mG12 14 rfl
theorem s31 : ∀ n, n < 32 → ((nI n &&& 31).toBitVec.smod 32).toNat = n := by decide +kernel
/-- what the WORDS so far do at one CLIFF: of each of six STATES, in three bits, a STATE of six -/
def pOK (v : Nat) : Prop := v < 524288 ∧ v % 8 ≤ 5 ∧ v / 8 % 8 ≤ 5 ∧ v / 64 % 8 ≤ 5 ∧ v / 512 % 8 ≤ 5 ∧ v / 4096 % 8 ≤ 5 ∧ v / 32768 % 8 ≤ 5
theorem pOK_dig {v i : Nat} (h : pOK v) (hi : i ≤ 5) : v / 2 ^ (3 * i) % 2 ^ 3 ≤ 5 := by
  obtain ⟨h0, h1, h2, h3, h4, h5, h6⟩ := h
  rcases (show i = 0 ∨ i = 1 ∨ i = 2 ∨ i = 3 ∨ i = 4 ∨ i = 5 by omega) with rfl | rfl | rfl | rfl | rfl | rfl <;> simp <;> omega
theorem st_of {v i : Nat} (hv : v < 2 ^ 31) (hi : i ≤ 5) : (nI v >>> (nI (3 * i) &&& 31)) &&& 7 = nI (v / 2 ^ (3 * i) % 2 ^ 3) := by
  rw [pk_shrN hv _ (3 * i) (s31 _ (by omega)), pk_andN (Nat.lt_of_le_of_lt (Nat.div_le_self _ _) (by omega)) 3 (by decide)]
theorem fa_or (a b : Nat) : nI a ||| nI b = nI (a ||| b) := by
  apply Int32.toBitVec_inj.1
  show BitVec.ofNat 32 a ||| BitVec.ofNat 32 b = BitVec.ofNat 32 (a ||| b)
  apply BitVec.eq_of_getLsbD_eq
  intro i hi
  simp [hi]
theorem or_pow {a b k : Nat} (h : a < 2 ^ k) : nI a ||| nI (b * 2 ^ k) = nI (b * 2 ^ k + a) := by
  rw [fa_or, Nat.or_comm, Nat.mul_comm, Nat.two_pow_add_eq_or_of_lt h]
theorem pOK_up {v : Nat} (h : pOK v) (h2 : v < 262144) : pOK (262144 + v) := by
  obtain ⟨h0, h1, h2, h3, h4, h5, h6⟩ := h
  refine ⟨by omega, ?_, ?_, ?_, ?_, ?_, ?_⟩ <;> omega
theorem pOK_small {k : Nat} (h : k ≤ 5) : pOK k := by
  refine ⟨by omega, ?_, ?_, ?_, ?_, ?_, ?_⟩ <;> omega
/-- the first i states told -/
def pTo (v i : Nat) : Prop := v < 8 ^ i ∧ pOK v
theorem pTo_0 : pTo 0 0 := ⟨by decide, pOK_small (by decide)⟩
theorem pTo_put {v i a : Nat} (hi : i ≤ 5) (ha : a ≤ 5) (h : pTo v i) : pTo (a * 2 ^ (3 * i) + v) (i + 1) := by
  obtain ⟨h, h0, h1, h2, h3, h4, h5, h6⟩ := h
  rcases (show i = 0 ∨ i = 1 ∨ i = 2 ∨ i = 3 ∨ i = 4 ∨ i = 5 by omega) with rfl | rfl | rfl | rfl | rfl | rfl <;> simp at h ⊢ <;> (refine ⟨by omega, by omega, ?_, ?_, ?_, ?_, ?_, ?_⟩ <;> omega)
def pRow (f : Nat → Int32) : Prop := ∀ k, k < 24 → ∃ v : Nat, pOK v ∧ f k = nI v
theorem pRow_at {f : Nat → Int32} (h : pRow f) {i : Nat} (hi : i < 24) : ∃ v : Nat, pOK v ∧ f (nI i).toNatClampNeg = nI v := by
  rw [nI_clamp (by omega)]; exact h i hi
theorem pRow_put {f : Nat → Int32} (h : pRow f) {k v : Nat} (hv : pOK v) : pRow (upd f k (nI v)) := by
  intro i hi
  by_cases e : i = k
  · exact ⟨v, hv, by rw [e]; exact pk_us⟩
  · rw [pk_un e]; exact h i hi
theorem gdX1_unmoved_0 : decode cX1_unmoved 0 = .ok (.iconst 0, 1) ∧ decode cX1_unmoved 1 = .ok (.istore_n 0, 1) ∧ decode cX1_unmoved 2 = .ok (.iconst 0, 1) ∧ decode cX1_unmoved 3 = .ok (.istore_n 1, 1) ∧ decode cX1_unmoved 4 = .ok (.iload_n 1, 1) ∧ decode cX1_unmoved 5 = .ok (.bipush 6, 2) ∧ decode cX1_unmoved 7 = .ok (.if_icmp .ge 17, 3) ∧ decode cX1_unmoved 10 = .ok (.iload_n 0, 1) ∧ decode cX1_unmoved 11 = .ok (.iload_n 1, 1) ∧ decode cX1_unmoved 12 = .ok (.iconst 3, 1) ∧ decode cX1_unmoved 13 = .ok (.iload_n 1, 1) ∧ decode cX1_unmoved 14 = .ok (.imul, 1) := by decide +kernel
theorem dX1_unmoved_0 : decode cX1_unmoved 0 = .ok (.iconst 0, 1) := gdX1_unmoved_0.1
theorem dX1_unmoved_1 : decode cX1_unmoved 1 = .ok (.istore_n 0, 1) := gdX1_unmoved_0.2.1
theorem dX1_unmoved_2 : decode cX1_unmoved 2 = .ok (.iconst 0, 1) := gdX1_unmoved_0.2.2.1
theorem dX1_unmoved_3 : decode cX1_unmoved 3 = .ok (.istore_n 1, 1) := gdX1_unmoved_0.2.2.2.1
theorem dX1_unmoved_4 : decode cX1_unmoved 4 = .ok (.iload_n 1, 1) := gdX1_unmoved_0.2.2.2.2.1
theorem dX1_unmoved_5 : decode cX1_unmoved 5 = .ok (.bipush 6, 2) := gdX1_unmoved_0.2.2.2.2.2.1
theorem dX1_unmoved_7 : decode cX1_unmoved 7 = .ok (.if_icmp .ge 17, 3) := gdX1_unmoved_0.2.2.2.2.2.2.1
theorem dX1_unmoved_10 : decode cX1_unmoved 10 = .ok (.iload_n 0, 1) := gdX1_unmoved_0.2.2.2.2.2.2.2.1
theorem dX1_unmoved_11 : decode cX1_unmoved 11 = .ok (.iload_n 1, 1) := gdX1_unmoved_0.2.2.2.2.2.2.2.2.1
theorem dX1_unmoved_12 : decode cX1_unmoved 12 = .ok (.iconst 3, 1) := gdX1_unmoved_0.2.2.2.2.2.2.2.2.2.1
theorem dX1_unmoved_13 : decode cX1_unmoved 13 = .ok (.iload_n 1, 1) := gdX1_unmoved_0.2.2.2.2.2.2.2.2.2.2.1
theorem dX1_unmoved_14 : decode cX1_unmoved 14 = .ok (.imul, 1) := gdX1_unmoved_0.2.2.2.2.2.2.2.2.2.2.2
theorem gdX1_unmoved_15 : decode cX1_unmoved 15 = .ok (.ishl, 1) ∧ decode cX1_unmoved 16 = .ok (.ior, 1) ∧ decode cX1_unmoved 17 = .ok (.istore_n 0, 1) ∧ decode cX1_unmoved 18 = .ok (.iinc 1 1, 3) ∧ decode cX1_unmoved 21 = .ok (.goto (-17), 3) ∧ decode cX1_unmoved 24 = .ok (.iload_n 0, 1) ∧ decode cX1_unmoved 25 = .ok (.ireturn, 1) := by decide +kernel
theorem dX1_unmoved_15 : decode cX1_unmoved 15 = .ok (.ishl, 1) := gdX1_unmoved_15.1
theorem dX1_unmoved_16 : decode cX1_unmoved 16 = .ok (.ior, 1) := gdX1_unmoved_15.2.1
theorem dX1_unmoved_17 : decode cX1_unmoved 17 = .ok (.istore_n 0, 1) := gdX1_unmoved_15.2.2.1
theorem dX1_unmoved_18 : decode cX1_unmoved 18 = .ok (.iinc 1 1, 3) := gdX1_unmoved_15.2.2.2.1
theorem dX1_unmoved_21 : decode cX1_unmoved 21 = .ok (.goto (-17), 3) := gdX1_unmoved_15.2.2.2.2.1
theorem dX1_unmoved_24 : decode cX1_unmoved 24 = .ok (.iload_n 0, 1) := gdX1_unmoved_15.2.2.2.2.2.1
theorem dX1_unmoved_25 : decode cX1_unmoved 25 = .ok (.ireturn, 1) := gdX1_unmoved_15.2.2.2.2.2.2
set_option maxHeartbeats 1000000 in
set_option maxRecDepth 100000 in
theorem s_unmoved (l : Launch) (D : va_G) (cy : Nat → ClassId)   : XMi l D (tyL cy) E0 yX1_unmoved cX1_unmoved 2 (some .int) (rmk 0 0 0) [] [] (fun (r : Int32) (_ : Unit) => r = 181896) (fun (_ : Unit) => []) := by
  refine XMi.start (by decide) (Nat.le_of_ble_eq_true rfl) ?_
  intro p e s m below meth c args A ls Q hat hQ
  obtain ⟨hx, hb, hr, hml, hown, hg, hlocks, hin, hK, hA, hP, hD, hS, hE, hl⟩ := hat
  have hown : s.vm.findClass RX1 = some m.cls := hown
  have hl : lv_has ls 2 [] := hl
  refine lv_iconst (v := 0) hx hb dX1_unmoved_0 (by decide) ?_
  refine lv_istore_n (lv' := [(0, .int 0)]) hx hb dX1_unmoved_1 rfl hl (by decide) rfl (fun ls hl => ?_)
  refine lv_iconst (v := 0) hx hb dX1_unmoved_2 (by decide) ?_
  refine lv_istore_n (lv' := [(1, .int 0), (0, .int 0)]) hx hb dX1_unmoved_3 rfl hl (by decide) rfl (fun ls hl => ?_)
  refine lv_iload_n hx hb dX1_unmoved_4 rfl (lv_at hl 0 rfl) ?_
  refine lv_bipush (v := 6) hx hb dX1_unmoved_5 (by decide) ?_
  refine lv_icmp_ge (tgt := 24) hx hb dX1_unmoved_7 (by decide) (fun h => absurd h (by decide)) (fun _ => ?_)
  refine lv_iload_n hx hb dX1_unmoved_10 rfl (lv_at hl 1 rfl) ?_
  refine lv_iload_n hx hb dX1_unmoved_11 rfl (lv_at hl 0 rfl) ?_
  refine lv_iconst (v := 3) hx hb dX1_unmoved_12 (by decide) ?_
  refine lv_iload_n hx hb dX1_unmoved_13 rfl (lv_at hl 0 rfl) ?_
  refine lv_imul hx hb dX1_unmoved_14 ?_
  refine lv_topi (fun y_1 hy_1 => ?_)
  obtain rfl : y_1 = 0 := hy_1.trans (by decide +kernel)
  refine lv_ishl hx hb dX1_unmoved_15 ?_
  refine lv_topi (fun y_2 hy_2 => ?_)
  obtain rfl : y_2 = 0 := hy_2.trans (by decide +kernel)
  refine lv_ior hx hb dX1_unmoved_16 ?_
  refine lv_topi (fun y_3 hy_3 => ?_)
  obtain rfl : y_3 = 0 := hy_3.trans (by decide +kernel)
  refine lv_istore_n (lv' := [(0, .int 0), (1, .int 0)]) hx hb dX1_unmoved_17 rfl hl (by decide) rfl (fun ls hl => ?_)
  refine lv_iinc (v := 1) (lv' := [(1, .int 1), (0, .int 0)]) hx hb dX1_unmoved_18 hl (k := 1) rfl (by decide) (by decide) rfl (fun ls hl => ?_)
  refine lv_goto (tgt := 4) hx hb dX1_unmoved_21 (by decide) ?_
  refine lv_iload_n hx hb dX1_unmoved_4 rfl (lv_at hl 0 rfl) ?_
  refine lv_bipush (v := 6) hx hb dX1_unmoved_5 (by decide) ?_
  refine lv_icmp_ge (tgt := 24) hx hb dX1_unmoved_7 (by decide) (fun h => absurd h (by decide)) (fun _ => ?_)
  refine lv_iload_n hx hb dX1_unmoved_10 rfl (lv_at hl 1 rfl) ?_
  refine lv_iload_n hx hb dX1_unmoved_11 rfl (lv_at hl 0 rfl) ?_
  refine lv_iconst (v := 3) hx hb dX1_unmoved_12 (by decide) ?_
  refine lv_iload_n hx hb dX1_unmoved_13 rfl (lv_at hl 0 rfl) ?_
  refine lv_imul hx hb dX1_unmoved_14 ?_
  refine lv_topi (fun y_4 hy_4 => ?_)
  obtain rfl : y_4 = 3 := hy_4.trans (by decide +kernel)
  refine lv_ishl hx hb dX1_unmoved_15 ?_
  refine lv_topi (fun y_5 hy_5 => ?_)
  obtain rfl : y_5 = 8 := hy_5.trans (by decide +kernel)
  refine lv_ior hx hb dX1_unmoved_16 ?_
  refine lv_topi (fun y_6 hy_6 => ?_)
  obtain rfl : y_6 = 8 := hy_6.trans (by decide +kernel)
  refine lv_istore_n (lv' := [(0, .int 8), (1, .int 1)]) hx hb dX1_unmoved_17 rfl hl (by decide) rfl (fun ls hl => ?_)
  refine lv_iinc (v := 2) (lv' := [(1, .int 2), (0, .int 8)]) hx hb dX1_unmoved_18 hl (k := 1) rfl (by decide) (by decide) rfl (fun ls hl => ?_)
  refine lv_goto (tgt := 4) hx hb dX1_unmoved_21 (by decide) ?_
  refine lv_iload_n hx hb dX1_unmoved_4 rfl (lv_at hl 0 rfl) ?_
  refine lv_bipush (v := 6) hx hb dX1_unmoved_5 (by decide) ?_
  refine lv_icmp_ge (tgt := 24) hx hb dX1_unmoved_7 (by decide) (fun h => absurd h (by decide)) (fun _ => ?_)
  refine lv_iload_n hx hb dX1_unmoved_10 rfl (lv_at hl 1 rfl) ?_
  refine lv_iload_n hx hb dX1_unmoved_11 rfl (lv_at hl 0 rfl) ?_
  refine lv_iconst (v := 3) hx hb dX1_unmoved_12 (by decide) ?_
  refine lv_iload_n hx hb dX1_unmoved_13 rfl (lv_at hl 0 rfl) ?_
  refine lv_imul hx hb dX1_unmoved_14 ?_
  refine lv_topi (fun y_7 hy_7 => ?_)
  obtain rfl : y_7 = 6 := hy_7.trans (by decide +kernel)
  refine lv_ishl hx hb dX1_unmoved_15 ?_
  refine lv_topi (fun y_8 hy_8 => ?_)
  obtain rfl : y_8 = 128 := hy_8.trans (by decide +kernel)
  refine lv_ior hx hb dX1_unmoved_16 ?_
  refine lv_topi (fun y_9 hy_9 => ?_)
  obtain rfl : y_9 = 136 := hy_9.trans (by decide +kernel)
  refine lv_istore_n (lv' := [(0, .int 136), (1, .int 2)]) hx hb dX1_unmoved_17 rfl hl (by decide) rfl (fun ls hl => ?_)
  refine lv_iinc (v := 3) (lv' := [(1, .int 3), (0, .int 136)]) hx hb dX1_unmoved_18 hl (k := 1) rfl (by decide) (by decide) rfl (fun ls hl => ?_)
  refine lv_goto (tgt := 4) hx hb dX1_unmoved_21 (by decide) ?_
  refine lv_iload_n hx hb dX1_unmoved_4 rfl (lv_at hl 0 rfl) ?_
  refine lv_bipush (v := 6) hx hb dX1_unmoved_5 (by decide) ?_
  refine lv_icmp_ge (tgt := 24) hx hb dX1_unmoved_7 (by decide) (fun h => absurd h (by decide)) (fun _ => ?_)
  refine lv_iload_n hx hb dX1_unmoved_10 rfl (lv_at hl 1 rfl) ?_
  refine lv_iload_n hx hb dX1_unmoved_11 rfl (lv_at hl 0 rfl) ?_
  refine lv_iconst (v := 3) hx hb dX1_unmoved_12 (by decide) ?_
  refine lv_iload_n hx hb dX1_unmoved_13 rfl (lv_at hl 0 rfl) ?_
  refine lv_imul hx hb dX1_unmoved_14 ?_
  refine lv_topi (fun y_10 hy_10 => ?_)
  obtain rfl : y_10 = 9 := hy_10.trans (by decide +kernel)
  refine lv_ishl hx hb dX1_unmoved_15 ?_
  refine lv_topi (fun y_11 hy_11 => ?_)
  obtain rfl : y_11 = 1536 := hy_11.trans (by decide +kernel)
  refine lv_ior hx hb dX1_unmoved_16 ?_
  refine lv_topi (fun y_12 hy_12 => ?_)
  obtain rfl : y_12 = 1672 := hy_12.trans (by decide +kernel)
  refine lv_istore_n (lv' := [(0, .int 1672), (1, .int 3)]) hx hb dX1_unmoved_17 rfl hl (by decide) rfl (fun ls hl => ?_)
  refine lv_iinc (v := 4) (lv' := [(1, .int 4), (0, .int 1672)]) hx hb dX1_unmoved_18 hl (k := 1) rfl (by decide) (by decide) rfl (fun ls hl => ?_)
  refine lv_goto (tgt := 4) hx hb dX1_unmoved_21 (by decide) ?_
  refine lv_iload_n hx hb dX1_unmoved_4 rfl (lv_at hl 0 rfl) ?_
  refine lv_bipush (v := 6) hx hb dX1_unmoved_5 (by decide) ?_
  refine lv_icmp_ge (tgt := 24) hx hb dX1_unmoved_7 (by decide) (fun h => absurd h (by decide)) (fun _ => ?_)
  refine lv_iload_n hx hb dX1_unmoved_10 rfl (lv_at hl 1 rfl) ?_
  refine lv_iload_n hx hb dX1_unmoved_11 rfl (lv_at hl 0 rfl) ?_
  refine lv_iconst (v := 3) hx hb dX1_unmoved_12 (by decide) ?_
  refine lv_iload_n hx hb dX1_unmoved_13 rfl (lv_at hl 0 rfl) ?_
  refine lv_imul hx hb dX1_unmoved_14 ?_
  refine lv_topi (fun y_13 hy_13 => ?_)
  obtain rfl : y_13 = 12 := hy_13.trans (by decide +kernel)
  refine lv_ishl hx hb dX1_unmoved_15 ?_
  refine lv_topi (fun y_14 hy_14 => ?_)
  obtain rfl : y_14 = 16384 := hy_14.trans (by decide +kernel)
  refine lv_ior hx hb dX1_unmoved_16 ?_
  refine lv_topi (fun y_15 hy_15 => ?_)
  obtain rfl : y_15 = 18056 := hy_15.trans (by decide +kernel)
  refine lv_istore_n (lv' := [(0, .int 18056), (1, .int 4)]) hx hb dX1_unmoved_17 rfl hl (by decide) rfl (fun ls hl => ?_)
  refine lv_iinc (v := 5) (lv' := [(1, .int 5), (0, .int 18056)]) hx hb dX1_unmoved_18 hl (k := 1) rfl (by decide) (by decide) rfl (fun ls hl => ?_)
  refine lv_goto (tgt := 4) hx hb dX1_unmoved_21 (by decide) ?_
  refine lv_iload_n hx hb dX1_unmoved_4 rfl (lv_at hl 0 rfl) ?_
  refine lv_bipush (v := 6) hx hb dX1_unmoved_5 (by decide) ?_
  refine lv_icmp_ge (tgt := 24) hx hb dX1_unmoved_7 (by decide) (fun h => absurd h (by decide)) (fun _ => ?_)
  refine lv_iload_n hx hb dX1_unmoved_10 rfl (lv_at hl 1 rfl) ?_
  refine lv_iload_n hx hb dX1_unmoved_11 rfl (lv_at hl 0 rfl) ?_
  refine lv_iconst (v := 3) hx hb dX1_unmoved_12 (by decide) ?_
  refine lv_iload_n hx hb dX1_unmoved_13 rfl (lv_at hl 0 rfl) ?_
  refine lv_imul hx hb dX1_unmoved_14 ?_
  refine lv_topi (fun y_16 hy_16 => ?_)
  obtain rfl : y_16 = 15 := hy_16.trans (by decide +kernel)
  refine lv_ishl hx hb dX1_unmoved_15 ?_
  refine lv_topi (fun y_17 hy_17 => ?_)
  obtain rfl : y_17 = 163840 := hy_17.trans (by decide +kernel)
  refine lv_ior hx hb dX1_unmoved_16 ?_
  refine lv_topi (fun y_18 hy_18 => ?_)
  obtain rfl : y_18 = 181896 := hy_18.trans (by decide +kernel)
  refine lv_istore_n (lv' := [(0, .int 181896), (1, .int 5)]) hx hb dX1_unmoved_17 rfl hl (by decide) rfl (fun ls hl => ?_)
  refine lv_iinc (v := 6) (lv' := [(1, .int 6), (0, .int 181896)]) hx hb dX1_unmoved_18 hl (k := 1) rfl (by decide) (by decide) rfl (fun ls hl => ?_)
  refine lv_goto (tgt := 4) hx hb dX1_unmoved_21 (by decide) ?_
  refine lv_iload_n hx hb dX1_unmoved_4 rfl (lv_at hl 0 rfl) ?_
  refine lv_bipush (v := 6) hx hb dX1_unmoved_5 (by decide) ?_
  refine lv_icmp_ge (tgt := 24) hx hb dX1_unmoved_7 (by decide) (fun _ => ?_) (fun h => absurd (by decide) h)
  refine lv_iload_n hx hb dX1_unmoved_24 rfl (lv_at hl 1 rfl) ?_
  exact x_iret hQ hx hb hr hlocks hK hP hD hS dX1_unmoved_25 () (rfl) [] (by decide +kernel) rfl (Nat.le_of_ble_eq_true rfl) (Nat.le_of_ble_eq_true rfl)
theorem gdX1_stateOf_0 : decode cX1_stateOf 0 = .ok (.iload_n 0, 1) ∧ decode cX1_stateOf 1 = .ok (.iconst 3, 1) ∧ decode cX1_stateOf 2 = .ok (.iload_n 1, 1) ∧ decode cX1_stateOf 3 = .ok (.imul, 1) ∧ decode cX1_stateOf 4 = .ok (.ishr, 1) ∧ decode cX1_stateOf 5 = .ok (.bipush 7, 2) ∧ decode cX1_stateOf 7 = .ok (.iand, 1) ∧ decode cX1_stateOf 8 = .ok (.ireturn, 1) := by decide +kernel
theorem dX1_stateOf_0 : decode cX1_stateOf 0 = .ok (.iload_n 0, 1) := gdX1_stateOf_0.1
theorem dX1_stateOf_1 : decode cX1_stateOf 1 = .ok (.iconst 3, 1) := gdX1_stateOf_0.2.1
theorem dX1_stateOf_2 : decode cX1_stateOf 2 = .ok (.iload_n 1, 1) := gdX1_stateOf_0.2.2.1
theorem dX1_stateOf_3 : decode cX1_stateOf 3 = .ok (.imul, 1) := gdX1_stateOf_0.2.2.2.1
theorem dX1_stateOf_4 : decode cX1_stateOf 4 = .ok (.ishr, 1) := gdX1_stateOf_0.2.2.2.2.1
theorem dX1_stateOf_5 : decode cX1_stateOf 5 = .ok (.bipush 7, 2) := gdX1_stateOf_0.2.2.2.2.2.1
theorem dX1_stateOf_7 : decode cX1_stateOf 7 = .ok (.iand, 1) := gdX1_stateOf_0.2.2.2.2.2.2.1
theorem dX1_stateOf_8 : decode cX1_stateOf 8 = .ok (.ireturn, 1) := gdX1_stateOf_0.2.2.2.2.2.2.2
set_option maxHeartbeats 1000000 in
set_option maxRecDepth 100000 in
theorem s_stateOf (l : Launch) (D : va_G) (cy : Nat → ClassId) (v : Nat) (i : Nat) (hv : pOK v) (hi : i ≤ 5) : XMi l D (tyL cy) E0 yX1_stateOf cX1_stateOf 2 (some .int) (rmk 0 0 0) [.int (nI v), .int (nI i)] [] (fun (r : Int32) (k : Nat) => (r = nI k) ∧ (k ≤ 5)) (fun (k : Nat) => []) := by
  refine XMi.start (by decide) (Nat.le_of_ble_eq_true rfl) ?_
  intro p e s m below meth c args A ls Q hat hQ
  obtain ⟨hx, hb, hr, hml, hown, hg, hlocks, hin, hK, hA, hP, hD, hS, hE, hl⟩ := hat
  have hown : s.vm.findClass RX1 = some m.cls := hown
  have hl : lv_has ls 2 [(0, .int (nI v)), (1, .int (nI i))] := hl
  refine lv_iload_n hx hb dX1_stateOf_0 rfl (lv_at hl 0 rfl) ?_
  refine lv_iconst (v := 3) hx hb dX1_stateOf_1 (by decide) ?_
  refine lv_iload_n hx hb dX1_stateOf_2 rfl (lv_at hl 1 rfl) ?_
  refine lv_imul hx hb dX1_stateOf_3 ?_
  refine lv_topi (fun y_1 hy_1 => ?_)
  obtain rfl : y_1 = nI (3 * i) := hy_1.trans (pk_mul 3 i)
  refine lv_ishr hx hb dX1_stateOf_4 ?_
  refine lv_topi (fun x_2 ex_2 => ?_)
  refine lv_bipush (v := 7) hx hb dX1_stateOf_5 (by decide) ?_
  refine lv_iand hx hb dX1_stateOf_7 ?_
  refine lv_topi (fun x_3 ex_3 => ?_)
  have hdig := pOK_dig hv hi
  obtain rfl : x_3 = nI (v / 2 ^ (3 * i) % 2 ^ 3) := by rw [ex_3, ex_2]; exact st_of (Nat.lt_trans hv.1 (by decide)) hi
  exact x_iret hQ hx hb hr hlocks hK hP hD hS dX1_stateOf_8 ((v / 2 ^ (3 * i) % 2 ^ 3)) (⟨rfl, hdig⟩) [] (by decide +kernel) rfl (Nat.le_of_ble_eq_true rfl) (Nat.le_of_ble_eq_true rfl)
theorem dX1_straightPath_0 : decode cX1_straightPath 0 = .ok (.aload_n 0, 1) := by decide +kernel
theorem dX1_straightPath_1 : decode cX1_straightPath 1 = .ok (.getfield 31, 3) := by decide +kernel
set_option maxRecDepth 20000 in
theorem i_X1 : ∀ w ∈ u_ws RX1 TX1 8, w ∈ gT := gin [561, 563, 565, 567, 569, 571, 573, 575] (by decide +kernel) (by decide +kernel)
theorem gdX1_straightPath_4 : decode cX1_straightPath 4 = .ok (.getfield 84, 3) ∧ decode cX1_straightPath 7 = .ok (.iload_n 1, 1) ∧ decode cX1_straightPath 8 = .ok (.iconst 0, 1) ∧ decode cX1_straightPath 9 = .ok (.invokestatic 87, 3) := by decide +kernel
theorem dX1_straightPath_4 : decode cX1_straightPath 4 = .ok (.getfield 84, 3) := gdX1_straightPath_4.1
theorem dX1_straightPath_7 : decode cX1_straightPath 7 = .ok (.iload_n 1, 1) := gdX1_straightPath_4.2.1
theorem dX1_straightPath_8 : decode cX1_straightPath 8 = .ok (.iconst 0, 1) := gdX1_straightPath_4.2.2.1
theorem dX1_straightPath_9 : decode cX1_straightPath 9 = .ok (.invokestatic 87, 3) := gdX1_straightPath_4.2.2.2
theorem k_X1_87 : xS RX1 87 yX1_stateOf cX1_stateOf 2 (some .int) 2 := ⟨⟨m_1167, m_1168, m_143, m_1169⟩, by decide, by decide, by decide +kernel⟩
theorem gdX1_straightPath_12 : decode cX1_straightPath 12 = .ok (.bipush 8, 2) ∧ decode cX1_straightPath 14 = .ok (.imul, 1) ∧ decode cX1_straightPath 15 = .ok (.iload_n 2, 1) ∧ decode cX1_straightPath 16 = .ok (.iadd, 1) ∧ decode cX1_straightPath 17 = .ok (.iaload, 1) ∧ decode cX1_straightPath 18 = .ok (.ireturn, 1) := by decide +kernel
theorem dX1_straightPath_12 : decode cX1_straightPath 12 = .ok (.bipush 8, 2) := gdX1_straightPath_12.1
theorem dX1_straightPath_14 : decode cX1_straightPath 14 = .ok (.imul, 1) := gdX1_straightPath_12.2.1
theorem dX1_straightPath_15 : decode cX1_straightPath 15 = .ok (.iload_n 2, 1) := gdX1_straightPath_12.2.2.1
theorem dX1_straightPath_16 : decode cX1_straightPath 16 = .ok (.iadd, 1) := gdX1_straightPath_12.2.2.2.1
theorem dX1_straightPath_17 : decode cX1_straightPath 17 = .ok (.iaload, 1) := gdX1_straightPath_12.2.2.2.2.1
theorem dX1_straightPath_18 : decode cX1_straightPath 18 = .ok (.ireturn, 1) := gdX1_straightPath_12.2.2.2.2.2
set_option maxHeartbeats 1000000 in
set_option maxRecDepth 100000 in
theorem s_straightPath (l : Launch) (D : va_G) (cy : Nat → ClassId) (q0 : Nat) (q1 : Nat) (q2 : Nat) (q3 : Nat) (q4 : Nat) (er : Nat) (ql : Nat) (qo : Int32) (h0 : Nat) (h1 : Nat) (h2 : Nat) (h3 : Nat) (h4 : Nat) (h5 : Nat) (h6 : Nat) (h7 : Nat) (h8 : Nat) (h9 : Nat) (h10 : Nat) (h11 : Nat) (hv0 : Value) (hv1 : Value) (hv2 : Value) (hv3 : Value) (hv4 : Value) (fx : Nat → Int32) (v : Nat) (wd : Nat) (hnx : rng fx 48 5) (hv : pOK v) (hwd : wd ≤ 7) : XMi l D (tyL cy) E0 yX1_straightPath cX1_straightPath 3 (some .int) (rmk 1 0 0) [.ref q0, .int (nI v), .int (nI wd)] [wO q0 1 [.ref q1, .ref er, .ref q2, .ref q3, .ref q4, .ref h0, .int (nI ql), .int qo], wO h0 4 [.ref h1, .ref h2, .ref h3, .ref h4, .ref h5, .ref h6, .ref h7, .ref h8, .ref h9, .ref h10, .ref h11, hv0, hv1, hv2, hv3, hv4], wI (cy 1) h7 48 (fx)] (fun (r : Int32) (k : Nat) => (r = nI k) ∧ (k ≤ 5)) (fun (k : Nat) => [wO q0 1 [.ref q1, .ref er, .ref q2, .ref q3, .ref q4, .ref h0, .int (nI ql), .int qo], wO h0 4 [.ref h1, .ref h2, .ref h3, .ref h4, .ref h5, .ref h6, .ref h7, .ref h8, .ref h9, .ref h10, .ref h11, hv0, hv1, hv2, hv3, hv4], wI (cy 1) h7 48 (fx)]) := by
  refine XMi.start (by decide) (Nat.le_of_ble_eq_true rfl) ?_
  intro p e s m below meth c args A ls Q hat hQ
  obtain ⟨hx, hb, hr, hml, hown, hg, hlocks, hin, hK, hA, hP, hD, hS, hE, hl⟩ := hat
  have hown : s.vm.findClass RX1 = some m.cls := hown
  have hl : lv_has ls 3 [(0, .ref q0), (1, .int (nI v)), (2, .int (nI wd))] := hl
  refine lv_aload_n hx hb dX1_straightPath_0 rfl (lv_at hl 0 rfl) ?_
  refine va_get (D := D) (ci := 1) (v := .ref h0) (C := RX1) (T := TX1) (N := 8) hx hb hg i_X1 hown hK hP 0 rfl rfl 5 (by decide) (hg _ m_558) (fun _ h9 => h9) rfl dX1_straightPath_1 ?_
  refine va_get (D := D) (ci := 4) (v := .ref h7) (C := RX4) (T := TX4) (N := 16) hx hb hg i_X4 hown hK hP 1 rfl rfl 6 (by decide) (hg _ m_355) (fun _ h9 => h9) rfl dX1_straightPath_4 ?_
  refine lv_iload_n hx hb dX1_straightPath_7 rfl (lv_at hl 1 rfl) ?_
  refine lv_iconst (v := 0) hx hb dX1_straightPath_8 (by decide) ?_
  refine x_callSi (wr := [wO q0 1 [.ref q1, .ref er, .ref q2, .ref q3, .ref q4, .ref h0, .int (nI ql), .int qo], wO h0 4 [.ref h1, .ref h2, .ref h3, .ref h4, .ref h5, .ref h6, .ref h7, .ref h8, .ref h9, .ref h10, .ref h11, hv0, hv1, hv2, hv3, hv4], wI (cy 1) h7 48 (fx)]) (rest := [.ref h7]) ⟨hx, hb, hml, hown, hg, hl.1⟩ k_X1_87 (s_stateOf l D cy v 0 (hv) (by omega)) E0_blind hK hP hD hS hA [] [0, 1, 2] ⟨rfl, rfl, by decide +kernel, by decide +kernel, by decide +kernel⟩ (fun _ _ _ => trivial) dX1_straightPath_9 rfl rfl (Nat.le_of_ble_eq_true rfl) ⟨Nat.le_of_ble_eq_true rfl, Nat.le_of_ble_eq_true rfl⟩ ⟨Nat.le_of_ble_eq_true rfl, Nat.le_of_ble_eq_true rfl⟩ (fun zr1 zu1 H locs hw1 hP9 hD9 hS9 => ?_)
  clear hP hD hS
  obtain ⟨k_2, rfl⟩ : ∃ z, z = zu1 := ⟨_, rfl⟩
  refine reW [wO q0 1 [.ref q1, .ref er, .ref q2, .ref q3, .ref q4, .ref h0, .int (nI ql), .int qo], wO h0 4 [.ref h1, .ref h2, .ref h3, .ref h4, .ref h5, .ref h6, .ref h7, .ref h8, .ref h9, .ref h10, .ref h11, hv0, hv1, hv2, hv3, hv4], wI (cy 1) h7 48 (fx)] hP9 hD9 hS9 (fun hP hD hS => ?_)
  clear hP9 hD9 hS9
  refine W.widen (k := 0) (n := 0) (Nat.le_of_ble_eq_true rfl) (Nat.le_of_ble_eq_true rfl) ?_
  replace hw1 : (zr1 = nI k_2) ∧ (k_2 ≤ 5) := hw1
  obtain ⟨f_3, f_4⟩ := hw1
  subst f_3
  refine lv_bipush (v := 8) hx hb dX1_straightPath_12 (by decide) ?_
  refine lv_imul hx hb dX1_straightPath_14 ?_
  refine lv_topi (fun y_5 hy_5 => ?_)
  obtain rfl : y_5 = nI (k_2 * 8) := hy_5.trans (pk_mul k_2 8)
  refine lv_iload_n hx hb dX1_straightPath_15 rfl (lv_at hl 2 rfl) ?_
  refine lv_iadd hx hb dX1_straightPath_16 ?_
  refine lv_topi (fun y_6 hy_6 => ?_)
  obtain rfl : y_6 = nI ((k_2 * 8) + wd) := hy_6.trans (nI_add ((k_2 * 8)) wd)
  refine va_iald hx hb hK hP 2 1 rfl rfl (vp_in_nI (by omega) (by decide)) dX1_straightPath_17 ?_
  obtain ⟨j_7, hj_7, ej_7⟩ := rng_at hnx (i := ((k_2 * 8) + wd)) (by omega) (by decide)
  refine lv_topi (fun y_8 hy_8 => ?_)
  obtain rfl : y_8 = nI j_7 := hy_8.trans ej_7
  exact x_iret hQ hx hb hr hlocks hK hP hD hS dX1_straightPath_18 j_7 (⟨rfl, (show j_7 ≤ 5 from by omega)⟩) [0, 1, 2] (by decide +kernel) rfl (Nat.le_of_ble_eq_true rfl) (Nat.le_of_ble_eq_true rfl)
theorem pTo_lt {v i : Nat} (hi : i ≤ 6) (h : pTo v i) : v < 262144 := by
  have := h.1
  rcases (show i = 0 ∨ i = 1 ∨ i = 2 ∨ i = 3 ∨ i = 4 ∨ i = 5 ∨ i = 6 by omega) with rfl | rfl | rfl | rfl | rfl | rfl | rfl <;> simp at this <;> omega
theorem gdX1_turnedPath_0 : decode cX1_turnedPath 0 = .ok (.iconst 0, 1) ∧ decode cX1_turnedPath 1 = .ok (.istore_n 3, 1) ∧ decode cX1_turnedPath 2 = .ok (.iconst 0, 1) ∧ decode cX1_turnedPath 3 = .ok (.istore 4, 2) ∧ decode cX1_turnedPath 5 = .ok (.iload 4, 2) ∧ decode cX1_turnedPath 7 = .ok (.aload_n 0, 1) ∧ decode cX1_turnedPath 8 = .ok (.getfield 31, 3) ∧ decode cX1_turnedPath 11 = .ok (.getfield 43, 3) ∧ decode cX1_turnedPath 14 = .ok (.iconst 3, 1) ∧ decode cX1_turnedPath 15 = .ok (.iaload, 1) ∧ decode cX1_turnedPath 16 = .ok (.if_icmp .ge 40, 3) ∧ decode cX1_turnedPath 56 = .ok (.iload_n 3, 1) := by decide +kernel
theorem dX1_turnedPath_0 : decode cX1_turnedPath 0 = .ok (.iconst 0, 1) := gdX1_turnedPath_0.1
theorem dX1_turnedPath_1 : decode cX1_turnedPath 1 = .ok (.istore_n 3, 1) := gdX1_turnedPath_0.2.1
theorem dX1_turnedPath_2 : decode cX1_turnedPath 2 = .ok (.iconst 0, 1) := gdX1_turnedPath_0.2.2.1
theorem dX1_turnedPath_3 : decode cX1_turnedPath 3 = .ok (.istore 4, 2) := gdX1_turnedPath_0.2.2.2.1
theorem dX1_turnedPath_5 : decode cX1_turnedPath 5 = .ok (.iload 4, 2) := gdX1_turnedPath_0.2.2.2.2.1
theorem dX1_turnedPath_7 : decode cX1_turnedPath 7 = .ok (.aload_n 0, 1) := gdX1_turnedPath_0.2.2.2.2.2.1
theorem dX1_turnedPath_8 : decode cX1_turnedPath 8 = .ok (.getfield 31, 3) := gdX1_turnedPath_0.2.2.2.2.2.2.1
theorem dX1_turnedPath_11 : decode cX1_turnedPath 11 = .ok (.getfield 43, 3) := gdX1_turnedPath_0.2.2.2.2.2.2.2.1
theorem dX1_turnedPath_14 : decode cX1_turnedPath 14 = .ok (.iconst 3, 1) := gdX1_turnedPath_0.2.2.2.2.2.2.2.2.1
theorem dX1_turnedPath_15 : decode cX1_turnedPath 15 = .ok (.iaload, 1) := gdX1_turnedPath_0.2.2.2.2.2.2.2.2.2.1
theorem dX1_turnedPath_16 : decode cX1_turnedPath 16 = .ok (.if_icmp .ge 40, 3) := gdX1_turnedPath_0.2.2.2.2.2.2.2.2.2.2.1
theorem dX1_turnedPath_56 : decode cX1_turnedPath 56 = .ok (.iload_n 3, 1) := gdX1_turnedPath_0.2.2.2.2.2.2.2.2.2.2.2
theorem gdX1_turnedPath_57 : decode cX1_turnedPath 57 = .ok (.ireturn, 1) ∧ decode cX1_turnedPath 19 = .ok (.iload_n 1, 1) ∧ decode cX1_turnedPath 20 = .ok (.aload_n 0, 1) ∧ decode cX1_turnedPath 21 = .ok (.getfield 31, 3) ∧ decode cX1_turnedPath 24 = .ok (.getfield 84, 3) ∧ decode cX1_turnedPath 27 = .ok (.iload 4, 2) ∧ decode cX1_turnedPath 29 = .ok (.bipush 8, 2) ∧ decode cX1_turnedPath 31 = .ok (.imul, 1) ∧ decode cX1_turnedPath 32 = .ok (.iload_n 2, 1) ∧ decode cX1_turnedPath 33 = .ok (.iadd, 1) ∧ decode cX1_turnedPath 34 = .ok (.iaload, 1) ∧ decode cX1_turnedPath 35 = .ok (.invokestatic 87, 3) := by decide +kernel
theorem dX1_turnedPath_57 : decode cX1_turnedPath 57 = .ok (.ireturn, 1) := gdX1_turnedPath_57.1
theorem dX1_turnedPath_19 : decode cX1_turnedPath 19 = .ok (.iload_n 1, 1) := gdX1_turnedPath_57.2.1
theorem dX1_turnedPath_20 : decode cX1_turnedPath 20 = .ok (.aload_n 0, 1) := gdX1_turnedPath_57.2.2.1
theorem dX1_turnedPath_21 : decode cX1_turnedPath 21 = .ok (.getfield 31, 3) := gdX1_turnedPath_57.2.2.2.1
theorem dX1_turnedPath_24 : decode cX1_turnedPath 24 = .ok (.getfield 84, 3) := gdX1_turnedPath_57.2.2.2.2.1
theorem dX1_turnedPath_27 : decode cX1_turnedPath 27 = .ok (.iload 4, 2) := gdX1_turnedPath_57.2.2.2.2.2.1
theorem dX1_turnedPath_29 : decode cX1_turnedPath 29 = .ok (.bipush 8, 2) := gdX1_turnedPath_57.2.2.2.2.2.2.1
theorem dX1_turnedPath_31 : decode cX1_turnedPath 31 = .ok (.imul, 1) := gdX1_turnedPath_57.2.2.2.2.2.2.2.1
theorem dX1_turnedPath_32 : decode cX1_turnedPath 32 = .ok (.iload_n 2, 1) := gdX1_turnedPath_57.2.2.2.2.2.2.2.2.1
theorem dX1_turnedPath_33 : decode cX1_turnedPath 33 = .ok (.iadd, 1) := gdX1_turnedPath_57.2.2.2.2.2.2.2.2.2.1
theorem dX1_turnedPath_34 : decode cX1_turnedPath 34 = .ok (.iaload, 1) := gdX1_turnedPath_57.2.2.2.2.2.2.2.2.2.2.1
theorem dX1_turnedPath_35 : decode cX1_turnedPath 35 = .ok (.invokestatic 87, 3) := gdX1_turnedPath_57.2.2.2.2.2.2.2.2.2.2.2
theorem gdX1_turnedPath_38 : decode cX1_turnedPath 38 = .ok (.istore 5, 2) ∧ decode cX1_turnedPath 40 = .ok (.iload_n 3, 1) ∧ decode cX1_turnedPath 41 = .ok (.iload 5, 2) ∧ decode cX1_turnedPath 43 = .ok (.iconst 3, 1) ∧ decode cX1_turnedPath 44 = .ok (.iload 4, 2) ∧ decode cX1_turnedPath 46 = .ok (.imul, 1) ∧ decode cX1_turnedPath 47 = .ok (.ishl, 1) ∧ decode cX1_turnedPath 48 = .ok (.ior, 1) ∧ decode cX1_turnedPath 49 = .ok (.istore_n 3, 1) ∧ decode cX1_turnedPath 50 = .ok (.iinc 4 1, 3) ∧ decode cX1_turnedPath 53 = .ok (.goto (-48), 3) := by decide +kernel
theorem dX1_turnedPath_38 : decode cX1_turnedPath 38 = .ok (.istore 5, 2) := gdX1_turnedPath_38.1
theorem dX1_turnedPath_40 : decode cX1_turnedPath 40 = .ok (.iload_n 3, 1) := gdX1_turnedPath_38.2.1
theorem dX1_turnedPath_41 : decode cX1_turnedPath 41 = .ok (.iload 5, 2) := gdX1_turnedPath_38.2.2.1
theorem dX1_turnedPath_43 : decode cX1_turnedPath 43 = .ok (.iconst 3, 1) := gdX1_turnedPath_38.2.2.2.1
theorem dX1_turnedPath_44 : decode cX1_turnedPath 44 = .ok (.iload 4, 2) := gdX1_turnedPath_38.2.2.2.2.1
theorem dX1_turnedPath_46 : decode cX1_turnedPath 46 = .ok (.imul, 1) := gdX1_turnedPath_38.2.2.2.2.2.1
theorem dX1_turnedPath_47 : decode cX1_turnedPath 47 = .ok (.ishl, 1) := gdX1_turnedPath_38.2.2.2.2.2.2.1
theorem dX1_turnedPath_48 : decode cX1_turnedPath 48 = .ok (.ior, 1) := gdX1_turnedPath_38.2.2.2.2.2.2.2.1
theorem dX1_turnedPath_49 : decode cX1_turnedPath 49 = .ok (.istore_n 3, 1) := gdX1_turnedPath_38.2.2.2.2.2.2.2.2.1
theorem dX1_turnedPath_50 : decode cX1_turnedPath 50 = .ok (.iinc 4 1, 3) := gdX1_turnedPath_38.2.2.2.2.2.2.2.2.2.1
theorem dX1_turnedPath_53 : decode cX1_turnedPath 53 = .ok (.goto (-48), 3) := gdX1_turnedPath_38.2.2.2.2.2.2.2.2.2.2
set_option maxHeartbeats 1000000 in
set_option maxRecDepth 100000 in
theorem s_turnedPath (l : Launch) (D : va_G) (cy : Nat → ClassId) (q0 : Nat) (q1 : Nat) (q2 : Nat) (q3 : Nat) (q4 : Nat) (er : Nat) (ql : Nat) (qo : Int32) (h0 : Nat) (h1 : Nat) (h2 : Nat) (h3 : Nat) (h4 : Nat) (h5 : Nat) (h6 : Nat) (h7 : Nat) (h8 : Nat) (h9 : Nat) (h10 : Nat) (h11 : Nat) (hv0 : Value) (hv1 : Value) (hv2 : Value) (hv3 : Value) (hv4 : Value) (fx : Nat → Int32) (fc : Nat → Int32) (c0 : Nat) (c1 : Nat) (c2 : Nat) (c3 : Nat) (v : Nat) (wd : Nat) (hnx : rng fx 48 5) (hcn : cntOK fc c0 c1 c2 c3) (hc0 : c0 ≤ 8) (hc1 : c1 ≤ 4) (hc2 : c2 ≤ 4) (hc3 : c3 ≤ 6) (hv : pOK v) (hwd : wd ≤ 7) : XMi l D (tyL cy) E0 yX1_turnedPath cX1_turnedPath 6 (some .int) (rmk 1 0 0) [.ref q0, .int (nI v), .int (nI wd)] [wO q0 1 [.ref q1, .ref er, .ref q2, .ref q3, .ref q4, .ref h0, .int (nI ql), .int qo], wO h0 4 [.ref h1, .ref h2, .ref h3, .ref h4, .ref h5, .ref h6, .ref h7, .ref h8, .ref h9, .ref h10, .ref h11, hv0, hv1, hv2, hv3, hv4], wI (cy 1) h7 48 (fx), wI (cy 1) h1 4 (fc)] (fun (r : Int32) (k : Nat) => (r = nI k) ∧ (pOK k) ∧ (k < 262144)) (fun (k : Nat) => [wO q0 1 [.ref q1, .ref er, .ref q2, .ref q3, .ref q4, .ref h0, .int (nI ql), .int qo], wO h0 4 [.ref h1, .ref h2, .ref h3, .ref h4, .ref h5, .ref h6, .ref h7, .ref h8, .ref h9, .ref h10, .ref h11, hv0, hv1, hv2, hv3, hv4], wI (cy 1) h7 48 (fx), wI (cy 1) h1 4 (fc)]) := by
  refine XMi.start (by decide) (Nat.le_of_ble_eq_true rfl) ?_
  intro p e s m below meth c args A ls Q hat hQ
  obtain ⟨hx, hb, hr, hml, hown, hg, hlocks, hin, hK, hA, hP, hD, hS, hE, hl⟩ := hat
  have hown : s.vm.findClass RX1 = some m.cls := hown
  have hl : lv_has ls 6 [(0, .ref q0), (1, .int (nI v)), (2, .int (nI wd))] := hl
  refine lv_iconst (v := 0) hx hb dX1_turnedPath_0 (by decide) ?_
  refine lv_istore_n (lv' := [(3, .int 0), (0, .ref q0), (1, .int (nI v)), (2, .int (nI wd))]) hx hb dX1_turnedPath_1 rfl hl (by decide) rfl (fun ls hl => ?_)
  refine lv_iconst (v := 0) hx hb dX1_turnedPath_2 (by decide) ?_
  refine lv_istore (lv' := [(4, .int 0), (3, .int 0), (0, .ref q0), (1, .int (nI v)), (2, .int (nI wd))]) hx hb dX1_turnedPath_3 hl (by decide) rfl (fun ls hl => ?_)
  have loop1 : ∀ (zn : Nat) (tq1 : Nat) (i1 : Nat), (i1 ≤ c3) → (pTo tq1 i1) → c3 - i1 + 1 ≤ zn → ∀ (H : Heap) (locs : List Loc), va_P D vwCl [wO q0 1 [.ref q1, .ref er, .ref q2, .ref q3, .ref q4, .ref h0, .int (nI ql), .int qo], wO h0 4 [.ref h1, .ref h2, .ref h3, .ref h4, .ref h5, .ref h6, .ref h7, .ref h8, .ref h9, .ref h10, .ref h11, hv0, hv1, hv2, hv3, hv4], wI (cy 1) h7 48 (fx), wI (cy 1) h1 4 (fc)] H → va_D A [wO q0 1 [.ref q1, .ref er, .ref q2, .ref q3, .ref q4, .ref h0, .int (nI ql), .int qo], wO h0 4 [.ref h1, .ref h2, .ref h3, .ref h4, .ref h5, .ref h6, .ref h7, .ref h8, .ref h9, .ref h10, .ref h11, hv0, hv1, hv2, hv3, hv4], wI (cy 1) h7 48 (fx), wI (cy 1) h1 4 (fc)] → va_S A s.heap H locs → ∀ ls : Array Slot, lv_has ls 6 [(4, .int (nI i1)), (3, .int (nI tq1)), (0, .ref q0), (1, .int (nI v)), (2, .int (nI wd))] → W p l e (rmk 1 0 0) s m args below meth c H locs 0 0 Q (F0 m 5 ls []) := by
    try clear hP hD hS
    intro zn
    induction zn with
    | zero => intro tq1 i1 _ _ hz; exact absurd hz (by omega)
    | succ zn ih1 =>
      intro tq1 i1 hf0_1 hf1_1 hmu1 H locs hP hD hS ls hl
      refine lv_iload hx hb dX1_turnedPath_5 (lv_at hl 0 rfl) ?_
      refine lv_aload_n hx hb dX1_turnedPath_7 rfl (lv_at hl 2 rfl) ?_
      refine va_get (D := D) (ci := 1) (v := .ref h0) (C := RX1) (T := TX1) (N := 8) hx hb hg i_X1 hown hK hP 0 rfl rfl 5 (by decide) (hg _ m_558) (fun _ h9 => h9) rfl dX1_turnedPath_8 ?_
      refine va_get (D := D) (ci := 4) (v := .ref h1) (C := RX4) (T := TX4) (N := 16) hx hb hg i_X4 hown hK hP 1 rfl rfl 0 (by decide) (hg _ m_331) (fun _ h9 => h9) rfl dX1_turnedPath_11 ?_
      refine lv_iconst (v := 3) hx hb dX1_turnedPath_14 (by decide) ?_
      refine va_iald hx hb hK hP 3 1 rfl rfl (by unfold vp_in; decide) dX1_turnedPath_15 ?_
      refine lv_topi (fun y_2 hy_2 => ?_)
      obtain rfl : y_2 = nI c3 := hy_2.trans hcn.2.2.2
      refine lv_icmp_ge (tgt := 56) hx hb dX1_turnedPath_16 (by decide) (fun c_3 => ?_) (fun c_3 => ?_)
      · have q_4 : c3 ≤ i1 := q_le (a := c3) (b := i1) rfl rfl (by omega) (by omega) c_3
        refine lv_iload_n hx hb dX1_turnedPath_56 rfl (lv_at hl 1 rfl) ?_
        exact x_iret hQ hx hb hr hlocks hK hP hD hS dX1_turnedPath_57 tq1 (⟨rfl, hf1_1.2, pTo_lt (by omega) hf1_1⟩) [0, 1, 2, 3] (by decide +kernel) rfl (Nat.le_of_ble_eq_true rfl) (Nat.le_of_ble_eq_true rfl)
      · have q_4 : i1 < c3 := q_nle (a := c3) (b := i1) rfl rfl (by omega) (by omega) c_3
        refine lv_iload_n hx hb dX1_turnedPath_19 rfl (lv_at hl 3 rfl) ?_
        refine lv_aload_n hx hb dX1_turnedPath_20 rfl (lv_at hl 2 rfl) ?_
        refine va_get (D := D) (ci := 1) (v := .ref h0) (C := RX1) (T := TX1) (N := 8) hx hb hg i_X1 hown hK hP 0 rfl rfl 5 (by decide) (hg _ m_558) (fun _ h9 => h9) rfl dX1_turnedPath_21 ?_
        refine va_get (D := D) (ci := 4) (v := .ref h7) (C := RX4) (T := TX4) (N := 16) hx hb hg i_X4 hown hK hP 1 rfl rfl 6 (by decide) (hg _ m_355) (fun _ h9 => h9) rfl dX1_turnedPath_24 ?_
        refine lv_iload hx hb dX1_turnedPath_27 (lv_at hl 0 rfl) ?_
        refine lv_bipush (v := 8) hx hb dX1_turnedPath_29 (by decide) ?_
        refine lv_imul hx hb dX1_turnedPath_31 ?_
        refine lv_topi (fun y_5 hy_5 => ?_)
        obtain rfl : y_5 = nI (i1 * 8) := hy_5.trans (pk_mul i1 8)
        refine lv_iload_n hx hb dX1_turnedPath_32 rfl (lv_at hl 4 rfl) ?_
        refine lv_iadd hx hb dX1_turnedPath_33 ?_
        refine lv_topi (fun y_6 hy_6 => ?_)
        obtain rfl : y_6 = nI ((i1 * 8) + wd) := hy_6.trans (nI_add ((i1 * 8)) wd)
        refine va_iald hx hb hK hP 2 1 rfl rfl (vp_in_nI (by omega) (by decide)) dX1_turnedPath_34 ?_
        obtain ⟨j_7, hj_7, ej_7⟩ := rng_at hnx (i := ((i1 * 8) + wd)) (by omega) (by decide)
        refine lv_topi (fun y_8 hy_8 => ?_)
        obtain rfl : y_8 = nI j_7 := hy_8.trans ej_7
        refine x_callSi (wr := [wO q0 1 [.ref q1, .ref er, .ref q2, .ref q3, .ref q4, .ref h0, .int (nI ql), .int qo], wO h0 4 [.ref h1, .ref h2, .ref h3, .ref h4, .ref h5, .ref h6, .ref h7, .ref h8, .ref h9, .ref h10, .ref h11, hv0, hv1, hv2, hv3, hv4], wI (cy 1) h7 48 (fx), wI (cy 1) h1 4 (fc)]) (rest := []) ⟨hx, hb, hml, hown, hg, hl.1⟩ k_X1_87 (s_stateOf l D cy v j_7 (hv) (by omega)) E0_blind hK hP hD hS hA [] [0, 1, 2, 3] ⟨rfl, rfl, by decide +kernel, by decide +kernel, by decide +kernel⟩ (fun _ _ _ => trivial) dX1_turnedPath_35 rfl rfl (Nat.le_of_ble_eq_true rfl) ⟨Nat.le_of_ble_eq_true rfl, Nat.le_of_ble_eq_true rfl⟩ ⟨Nat.le_of_ble_eq_true rfl, Nat.le_of_ble_eq_true rfl⟩ (fun zr9 zu9 H locs hw9 hP9 hD9 hS9 => ?_)
        clear hP hD hS
        obtain ⟨k_10, rfl⟩ : ∃ z, z = zu9 := ⟨_, rfl⟩
        refine reW [wO q0 1 [.ref q1, .ref er, .ref q2, .ref q3, .ref q4, .ref h0, .int (nI ql), .int qo], wO h0 4 [.ref h1, .ref h2, .ref h3, .ref h4, .ref h5, .ref h6, .ref h7, .ref h8, .ref h9, .ref h10, .ref h11, hv0, hv1, hv2, hv3, hv4], wI (cy 1) h7 48 (fx), wI (cy 1) h1 4 (fc)] hP9 hD9 hS9 (fun hP hD hS => ?_)
        clear hP9 hD9 hS9
        refine W.widen (k := 0) (n := 0) (Nat.le_of_ble_eq_true rfl) (Nat.le_of_ble_eq_true rfl) ?_
        replace hw9 : (zr9 = nI k_10) ∧ (k_10 ≤ 5) := hw9
        obtain ⟨f_11, f_12⟩ := hw9
        subst f_11
        refine lv_istore (lv' := [(5, .int (nI k_10)), (4, .int (nI i1)), (3, .int (nI tq1)), (0, .ref q0), (1, .int (nI v)), (2, .int (nI wd))]) hx hb dX1_turnedPath_38 hl (by decide) rfl (fun ls hl => ?_)
        refine lv_iload_n hx hb dX1_turnedPath_40 rfl (lv_at hl 2 rfl) ?_
        refine lv_iload hx hb dX1_turnedPath_41 (lv_at hl 0 rfl) ?_
        refine lv_iconst (v := 3) hx hb dX1_turnedPath_43 (by decide) ?_
        refine lv_iload hx hb dX1_turnedPath_44 (lv_at hl 1 rfl) ?_
        refine lv_imul hx hb dX1_turnedPath_46 ?_
        refine lv_topi (fun y_13 hy_13 => ?_)
        obtain rfl : y_13 = nI (3 * i1) := hy_13.trans (pk_mul 3 i1)
        refine lv_ishl hx hb dX1_turnedPath_47 ?_
        refine lv_topi (fun x_14 ex_14 => ?_)
        refine lv_ior hx hb dX1_turnedPath_48 ?_
        refine lv_topi (fun x_15 ex_15 => ?_)
        have hp8 : tq1 < 2 ^ (3 * i1) := by have h9 := hf1_1.1; rw [show 8 = 2 ^ 3 from rfl, ← Nat.pow_mul] at h9; exact h9
        have hsm : k_10 * 2 ^ (3 * i1) < 2 ^ 32 := by rcases (show i1 = 0 ∨ i1 = 1 ∨ i1 = 2 ∨ i1 = 3 ∨ i1 = 4 ∨ i1 = 5 by omega) with h | h | h | h | h | h <;> (rw [h]; simp; omega)
        obtain rfl : x_15 = nI (k_10 * 2 ^ (3 * i1) + tq1) := by rw [ex_15, ex_14, pk_shlN _ (3 * i1) (s31 _ (by omega)) hsm]; exact or_pow hp8
        have hput := pTo_put (i := i1) (a := k_10) (by omega) (by omega) hf1_1
        refine lv_istore_n (lv' := [(3, .int (nI (k_10 * 2 ^ (3 * i1) + tq1))), (5, .int (nI k_10)), (4, .int (nI i1)), (0, .ref q0), (1, .int (nI v)), (2, .int (nI wd))]) hx hb dX1_turnedPath_49 rfl hl (by decide) rfl (fun ls hl => ?_)
        refine lv_iinc (v := nI (i1 + 1)) (lv' := [(4, .int (nI (i1 + 1))), (3, .int (nI (k_10 * 2 ^ (3 * i1) + tq1))), (5, .int (nI k_10)), (0, .ref q0), (1, .int (nI v)), (2, .int (nI wd))]) hx hb dX1_turnedPath_50 hl (k := 2) rfl (nI_add i1 1) (by decide) rfl (fun ls hl => ?_)
        refine lv_goto (tgt := 5) hx hb dX1_turnedPath_53 (by decide) ?_
        exact ih1  ((k_10 * 2 ^ (3 * i1) + tq1)) ((i1 + 1)) (by omega) (hput) (by omega) _ _ (hP.sub [0, 1, 2, 3] rfl) (hD.sub [0, 1, 2, 3] (by decide +kernel) rfl) hS ls (lv_sub hl [0, 1, 3, 4, 5] rfl)
  exact loop1 _ 0 0 (by omega) (pTo_0) (Nat.le_refl _) _ _ (hP.sub [0, 1, 2, 3] rfl) (hD.sub [0, 1, 2, 3] (by decide +kernel) rfl) hS ls (lv_sub hl [0, 1, 2, 3, 4] rfl)
theorem gdX1_endState_0 : decode cX1_endState 0 = .ok (.aload_n 1, 1) ∧ decode cX1_endState 1 = .ok (.getfield 74, 3) ∧ decode cX1_endState 4 = .ok (.ifCond .eq 19, 3) ∧ decode cX1_endState 23 = .ok (.aload_n 0, 1) ∧ decode cX1_endState 24 = .ok (.iload_n 2, 1) ∧ decode cX1_endState 25 = .ok (.iload_n 3, 1) ∧ decode cX1_endState 26 = .ok (.invokevirtual 81, 3) := by decide +kernel
theorem dX1_endState_0 : decode cX1_endState 0 = .ok (.aload_n 1, 1) := gdX1_endState_0.1
theorem dX1_endState_1 : decode cX1_endState 1 = .ok (.getfield 74, 3) := gdX1_endState_0.2.1
theorem dX1_endState_4 : decode cX1_endState 4 = .ok (.ifCond .eq 19, 3) := gdX1_endState_0.2.2.1
theorem dX1_endState_23 : decode cX1_endState 23 = .ok (.aload_n 0, 1) := gdX1_endState_0.2.2.2.1
theorem dX1_endState_24 : decode cX1_endState 24 = .ok (.iload_n 2, 1) := gdX1_endState_0.2.2.2.2.1
theorem dX1_endState_25 : decode cX1_endState 25 = .ok (.iload_n 3, 1) := gdX1_endState_0.2.2.2.2.2.1
theorem dX1_endState_26 : decode cX1_endState 26 = .ok (.invokevirtual 81, 3) := gdX1_endState_0.2.2.2.2.2.2
theorem k_X1_81 : xV RX1 RX1 81 yX1_straightPath cX1_straightPath 3 (some .int) 2 := ⟨⟨m_1170, m_1172, m_41, m_143, m_1173⟩, rfl, by decide, by decide, by decide +kernel⟩
theorem gdX1_endState_29 : decode cX1_endState 29 = .ok (.ireturn, 1) ∧ decode cX1_endState 7 = .ok (.iload_n 2, 1) ∧ decode cX1_endState 8 = .ok (.aload_n 0, 1) ∧ decode cX1_endState 9 = .ok (.getfield 31, 3) ∧ decode cX1_endState 12 = .ok (.getfield 84, 3) ∧ decode cX1_endState 15 = .ok (.iload_n 3, 1) ∧ decode cX1_endState 16 = .ok (.iaload, 1) ∧ decode cX1_endState 17 = .ok (.invokestatic 87, 3) ∧ decode cX1_endState 20 = .ok (.goto 9, 3) := by decide +kernel
theorem dX1_endState_29 : decode cX1_endState 29 = .ok (.ireturn, 1) := gdX1_endState_29.1
theorem dX1_endState_7 : decode cX1_endState 7 = .ok (.iload_n 2, 1) := gdX1_endState_29.2.1
theorem dX1_endState_8 : decode cX1_endState 8 = .ok (.aload_n 0, 1) := gdX1_endState_29.2.2.1
theorem dX1_endState_9 : decode cX1_endState 9 = .ok (.getfield 31, 3) := gdX1_endState_29.2.2.2.1
theorem dX1_endState_12 : decode cX1_endState 12 = .ok (.getfield 84, 3) := gdX1_endState_29.2.2.2.2.1
theorem dX1_endState_15 : decode cX1_endState 15 = .ok (.iload_n 3, 1) := gdX1_endState_29.2.2.2.2.2.1
theorem dX1_endState_16 : decode cX1_endState 16 = .ok (.iaload, 1) := gdX1_endState_29.2.2.2.2.2.2.1
theorem dX1_endState_17 : decode cX1_endState 17 = .ok (.invokestatic 87, 3) := gdX1_endState_29.2.2.2.2.2.2.2.1
theorem dX1_endState_20 : decode cX1_endState 20 = .ok (.goto 9, 3) := gdX1_endState_29.2.2.2.2.2.2.2.2
set_option maxHeartbeats 1000000 in
set_option maxRecDepth 100000 in
theorem s_endState (l : Launch) (D : va_G) (cy : Nat → ClassId) (q0 : Nat) (q1 : Nat) (q2 : Nat) (q3 : Nat) (q4 : Nat) (er : Nat) (ql : Nat) (qo : Int32) (h0 : Nat) (h1 : Nat) (h2 : Nat) (h3 : Nat) (h4 : Nat) (h5 : Nat) (h6 : Nat) (h7 : Nat) (h8 : Nat) (h9 : Nat) (h10 : Nat) (h11 : Nat) (hv0 : Value) (hv1 : Value) (hv2 : Value) (hv3 : Value) (hv4 : Value) (fx : Nat → Int32) (e0 : Nat) (e1 : Nat) (e2 : Nat) (et : Int32) (el : Nat) (ef : Nat) (v : Nat) (wd : Nat) (hnx : rng fx 48 5) (hv : pOK v) (hwd : wd ≤ 7) : XMi l D (tyL cy) E0 yX1_endState cX1_endState 4 (some .int) (rmk 2 0 0) [.ref q0, .ref e0, .int (nI v), .int (nI wd)] [wO q0 1 [.ref q1, .ref er, .ref q2, .ref q3, .ref q4, .ref h0, .int (nI ql), .int qo], wO h0 4 [.ref h1, .ref h2, .ref h3, .ref h4, .ref h5, .ref h6, .ref h7, .ref h8, .ref h9, .ref h10, .ref h11, hv0, hv1, hv2, hv3, hv4], wI (cy 1) h7 48 (fx), wO e0 2 [.ref e1, .ref e2, .int et, .int (nI el), .int (nI ef)]] (fun (r : Int32) (k : Nat) => (r = nI k) ∧ (k ≤ 5)) (fun (k : Nat) => [wO q0 1 [.ref q1, .ref er, .ref q2, .ref q3, .ref q4, .ref h0, .int (nI ql), .int qo], wO h0 4 [.ref h1, .ref h2, .ref h3, .ref h4, .ref h5, .ref h6, .ref h7, .ref h8, .ref h9, .ref h10, .ref h11, hv0, hv1, hv2, hv3, hv4], wI (cy 1) h7 48 (fx), wO e0 2 [.ref e1, .ref e2, .int et, .int (nI el), .int (nI ef)]]) := by
  refine XMi.start (by decide) (Nat.le_of_ble_eq_true rfl) ?_
  intro p e s m below meth c args A ls Q hat hQ
  obtain ⟨hx, hb, hr, hml, hown, hg, hlocks, hin, hK, hA, hP, hD, hS, hE, hl⟩ := hat
  have hown : s.vm.findClass RX1 = some m.cls := hown
  have hl : lv_has ls 4 [(0, .ref q0), (1, .ref e0), (2, .int (nI v)), (3, .int (nI wd))] := hl
  refine lv_aload_n hx hb dX1_endState_0 rfl (lv_at hl 1 rfl) ?_
  refine va_get (D := D) (ci := 2) (v := .int et) (C := RX2) (T := TX2) (N := 5) hx hb hg i_X2 hown hK hP 3 rfl rfl 2 (by decide) (hg _ m_517) (fun _ h9 => h9) rfl dX1_endState_1 ?_
  refine lv_if_eq (tgt := 23) hx hb dX1_endState_4 (by decide) (fun c_4 => ?_) (fun c_4 => ?_)
  · refine lv_aload_n hx hb dX1_endState_23 rfl (lv_at hl 0 rfl) ?_
    refine lv_iload_n hx hb dX1_endState_24 rfl (lv_at hl 2 rfl) ?_
    refine lv_iload_n hx hb dX1_endState_25 rfl (lv_at hl 3 rfl) ?_
    refine x_callVi (q := (RX1, TX1, 8)) (ci := 1) (q0 := 0) (wr := [wO e0 2 [.ref e1, .ref e2, .int et, .int (nI el), .int (nI ef)]]) (rest := []) ⟨hx, hb, hml, hown, hg, hl.1⟩ k_X1_81 (s_straightPath l D cy q0 q1 q2 q3 q4 er ql qo h0 h1 h2 h3 h4 h5 h6 h7 h8 h9 h10 h11 hv0 hv1 hv2 hv3 hv4 fx v wd (hnx) (hv) (by omega)) E0_blind hK hP hD hS hA [0, 1, 2] [3] ⟨rfl, rfl, by decide +kernel, by decide +kernel, by decide +kernel⟩ rfl rfl (fun _ _ _ => trivial) dX1_endState_26 rfl rfl (Nat.le_of_ble_eq_true rfl) ⟨Nat.le_of_ble_eq_true rfl, Nat.le_of_ble_eq_true rfl⟩ ⟨Nat.le_of_ble_eq_true rfl, Nat.le_of_ble_eq_true rfl⟩ (fun zr1 zu1 H locs hw1 hP9 hD9 hS9 => ?_)
    clear hP hD hS
    obtain ⟨k_2, rfl⟩ : ∃ z, z = zu1 := ⟨_, rfl⟩
    refine reW [wO e0 2 [.ref e1, .ref e2, .int et, .int (nI el), .int (nI ef)], wO q0 1 [.ref q1, .ref er, .ref q2, .ref q3, .ref q4, .ref h0, .int (nI ql), .int qo], wO h0 4 [.ref h1, .ref h2, .ref h3, .ref h4, .ref h5, .ref h6, .ref h7, .ref h8, .ref h9, .ref h10, .ref h11, hv0, hv1, hv2, hv3, hv4], wI (cy 1) h7 48 (fx)] hP9 hD9 hS9 (fun hP hD hS => ?_)
    clear hP9 hD9 hS9
    refine W.widen (k := 0) (n := 0) (Nat.le_of_ble_eq_true rfl) (Nat.le_of_ble_eq_true rfl) ?_
    replace hw1 : (zr1 = nI k_2) ∧ (k_2 ≤ 5) := hw1
    obtain ⟨f_3, f_4⟩ := hw1
    subst f_3
    exact x_iret hQ hx hb hr hlocks hK hP hD hS dX1_endState_29 k_2 (⟨rfl, (show k_2 ≤ 5 from by omega)⟩) [1, 2, 3, 0] (by decide +kernel) rfl (Nat.le_of_ble_eq_true rfl) (Nat.le_of_ble_eq_true rfl)
  · refine lv_iload_n hx hb dX1_endState_7 rfl (lv_at hl 2 rfl) ?_
    refine lv_aload_n hx hb dX1_endState_8 rfl (lv_at hl 0 rfl) ?_
    refine va_get (D := D) (ci := 1) (v := .ref h0) (C := RX1) (T := TX1) (N := 8) hx hb hg i_X1 hown hK hP 0 rfl rfl 5 (by decide) (hg _ m_558) (fun _ h9 => h9) rfl dX1_endState_9 ?_
    refine va_get (D := D) (ci := 4) (v := .ref h7) (C := RX4) (T := TX4) (N := 16) hx hb hg i_X4 hown hK hP 1 rfl rfl 6 (by decide) (hg _ m_355) (fun _ h9 => h9) rfl dX1_endState_12 ?_
    refine lv_iload_n hx hb dX1_endState_15 rfl (lv_at hl 3 rfl) ?_
    refine va_iald hx hb hK hP 2 1 rfl rfl (vp_in_nI (by omega) (by decide)) dX1_endState_16 ?_
    obtain ⟨j_5, hj_5, ej_5⟩ := rng_at hnx (i := wd) (by omega) (by decide)
    refine lv_topi (fun y_6 hy_6 => ?_)
    obtain rfl : y_6 = nI j_5 := hy_6.trans ej_5
    refine x_callSi (wr := [wO q0 1 [.ref q1, .ref er, .ref q2, .ref q3, .ref q4, .ref h0, .int (nI ql), .int qo], wO h0 4 [.ref h1, .ref h2, .ref h3, .ref h4, .ref h5, .ref h6, .ref h7, .ref h8, .ref h9, .ref h10, .ref h11, hv0, hv1, hv2, hv3, hv4], wI (cy 1) h7 48 (fx), wO e0 2 [.ref e1, .ref e2, .int et, .int (nI el), .int (nI ef)]]) (rest := []) ⟨hx, hb, hml, hown, hg, hl.1⟩ k_X1_87 (s_stateOf l D cy v j_5 (hv) (by omega)) E0_blind hK hP hD hS hA [] [0, 1, 2, 3] ⟨rfl, rfl, by decide +kernel, by decide +kernel, by decide +kernel⟩ (fun _ _ _ => trivial) dX1_endState_17 rfl rfl (Nat.le_of_ble_eq_true rfl) ⟨Nat.le_of_ble_eq_true rfl, Nat.le_of_ble_eq_true rfl⟩ ⟨Nat.le_of_ble_eq_true rfl, Nat.le_of_ble_eq_true rfl⟩ (fun zr7 zu7 H locs hw7 hP9 hD9 hS9 => ?_)
    clear hP hD hS
    obtain ⟨k_8, rfl⟩ : ∃ z, z = zu7 := ⟨_, rfl⟩
    refine reW [wO q0 1 [.ref q1, .ref er, .ref q2, .ref q3, .ref q4, .ref h0, .int (nI ql), .int qo], wO h0 4 [.ref h1, .ref h2, .ref h3, .ref h4, .ref h5, .ref h6, .ref h7, .ref h8, .ref h9, .ref h10, .ref h11, hv0, hv1, hv2, hv3, hv4], wI (cy 1) h7 48 (fx), wO e0 2 [.ref e1, .ref e2, .int et, .int (nI el), .int (nI ef)]] hP9 hD9 hS9 (fun hP hD hS => ?_)
    clear hP9 hD9 hS9
    refine W.widen (k := 0) (n := 0) (Nat.le_of_ble_eq_true rfl) (Nat.le_of_ble_eq_true rfl) ?_
    replace hw7 : (zr7 = nI k_8) ∧ (k_8 ≤ 5) := hw7
    obtain ⟨f_9, f_10⟩ := hw7
    subst f_9
    refine lv_goto (tgt := 29) hx hb dX1_endState_20 (by decide) ?_
    exact x_iret hQ hx hb hr hlocks hK hP hD hS dX1_endState_29 k_8 (⟨rfl, (show k_8 ≤ 5 from by omega)⟩) [0, 1, 2, 3] (by decide +kernel) rfl (Nat.le_of_ble_eq_true rfl) (Nat.le_of_ble_eq_true rfl)
theorem gdX1_wayIndex_0 : decode cX1_wayIndex 0 = .ok (.iload_n 0, 1) ∧ decode cX1_wayIndex 1 = .ok (.bipush 11, 2) ∧ decode cX1_wayIndex 3 = .ok (.imul, 1) ∧ decode cX1_wayIndex 4 = .ok (.iload_n 1, 1) ∧ decode cX1_wayIndex 5 = .ok (.iadd, 1) ∧ decode cX1_wayIndex 6 = .ok (.ireturn, 1) := by decide +kernel
theorem dX1_wayIndex_0 : decode cX1_wayIndex 0 = .ok (.iload_n 0, 1) := gdX1_wayIndex_0.1
theorem dX1_wayIndex_1 : decode cX1_wayIndex 1 = .ok (.bipush 11, 2) := gdX1_wayIndex_0.2.1
theorem dX1_wayIndex_3 : decode cX1_wayIndex 3 = .ok (.imul, 1) := gdX1_wayIndex_0.2.2.1
theorem dX1_wayIndex_4 : decode cX1_wayIndex 4 = .ok (.iload_n 1, 1) := gdX1_wayIndex_0.2.2.2.1
theorem dX1_wayIndex_5 : decode cX1_wayIndex 5 = .ok (.iadd, 1) := gdX1_wayIndex_0.2.2.2.2.1
theorem dX1_wayIndex_6 : decode cX1_wayIndex 6 = .ok (.ireturn, 1) := gdX1_wayIndex_0.2.2.2.2.2
set_option maxHeartbeats 1000000 in
set_option maxRecDepth 100000 in
theorem s_wayIndex (l : Launch) (D : va_G) (cy : Nat → ClassId) (i : Nat) (j : Nat) (hi : i ≤ 1000) (hj : j ≤ 1000) : XMi l D (tyL cy) E0 yX1_wayIndex cX1_wayIndex 2 (some .int) (rmk 0 0 0) [.int (nI i), .int (nI j)] [] (fun (r : Int32) (k : Nat) => (r = nI k) ∧ (k = i * 11 + j)) (fun (k : Nat) => []) := by
  refine XMi.start (by decide) (Nat.le_of_ble_eq_true rfl) ?_
  intro p e s m below meth c args A ls Q hat hQ
  obtain ⟨hx, hb, hr, hml, hown, hg, hlocks, hin, hK, hA, hP, hD, hS, hE, hl⟩ := hat
  have hown : s.vm.findClass RX1 = some m.cls := hown
  have hl : lv_has ls 2 [(0, .int (nI i)), (1, .int (nI j))] := hl
  refine lv_iload_n hx hb dX1_wayIndex_0 rfl (lv_at hl 0 rfl) ?_
  refine lv_bipush (v := 11) hx hb dX1_wayIndex_1 (by decide) ?_
  refine lv_imul hx hb dX1_wayIndex_3 ?_
  refine lv_topi (fun y_1 hy_1 => ?_)
  obtain rfl : y_1 = nI (i * 11) := hy_1.trans (pk_mul i 11)
  refine lv_iload_n hx hb dX1_wayIndex_4 rfl (lv_at hl 1 rfl) ?_
  refine lv_iadd hx hb dX1_wayIndex_5 ?_
  refine lv_topi (fun y_2 hy_2 => ?_)
  obtain rfl : y_2 = nI ((i * 11) + j) := hy_2.trans (nI_add ((i * 11)) j)
  exact x_iret hQ hx hb hr hlocks hK hP hD hS dX1_wayIndex_6 (((i * 11) + j)) (⟨rfl, (show (((i * 11) + j)) = i * 11 + j from by omega)⟩) [] (by decide +kernel) rfl (Nat.le_of_ble_eq_true rfl) (Nat.le_of_ble_eq_true rfl)
theorem gdJ6_bitCount_0f7a4_0 : decode cJ6_bitCount_0f7a4 0 = .ok (.iload_n 0, 1) ∧ decode cJ6_bitCount_0f7a4 1 = .ok (.iload_n 0, 1) ∧ decode cJ6_bitCount_0f7a4 2 = .ok (.iconst 1, 1) ∧ decode cJ6_bitCount_0f7a4 3 = .ok (.iushr, 1) ∧ decode cJ6_bitCount_0f7a4 4 = .ok (.ldc_w 265, 3) ∧ decode cJ6_bitCount_0f7a4 7 = .ok (.iand, 1) ∧ decode cJ6_bitCount_0f7a4 8 = .ok (.isub, 1) ∧ decode cJ6_bitCount_0f7a4 9 = .ok (.istore_n 0, 1) ∧ decode cJ6_bitCount_0f7a4 10 = .ok (.iload_n 0, 1) ∧ decode cJ6_bitCount_0f7a4 11 = .ok (.ldc_w 266, 3) ∧ decode cJ6_bitCount_0f7a4 14 = .ok (.iand, 1) ∧ decode cJ6_bitCount_0f7a4 15 = .ok (.iload_n 0, 1) := by decide +kernel
theorem dJ6_bitCount_0f7a4_0 : decode cJ6_bitCount_0f7a4 0 = .ok (.iload_n 0, 1) := gdJ6_bitCount_0f7a4_0.1
theorem dJ6_bitCount_0f7a4_1 : decode cJ6_bitCount_0f7a4 1 = .ok (.iload_n 0, 1) := gdJ6_bitCount_0f7a4_0.2.1
theorem dJ6_bitCount_0f7a4_2 : decode cJ6_bitCount_0f7a4 2 = .ok (.iconst 1, 1) := gdJ6_bitCount_0f7a4_0.2.2.1
theorem dJ6_bitCount_0f7a4_3 : decode cJ6_bitCount_0f7a4 3 = .ok (.iushr, 1) := gdJ6_bitCount_0f7a4_0.2.2.2.1
theorem dJ6_bitCount_0f7a4_4 : decode cJ6_bitCount_0f7a4 4 = .ok (.ldc_w 265, 3) := gdJ6_bitCount_0f7a4_0.2.2.2.2.1
theorem dJ6_bitCount_0f7a4_7 : decode cJ6_bitCount_0f7a4 7 = .ok (.iand, 1) := gdJ6_bitCount_0f7a4_0.2.2.2.2.2.1
theorem dJ6_bitCount_0f7a4_8 : decode cJ6_bitCount_0f7a4 8 = .ok (.isub, 1) := gdJ6_bitCount_0f7a4_0.2.2.2.2.2.2.1
theorem dJ6_bitCount_0f7a4_9 : decode cJ6_bitCount_0f7a4 9 = .ok (.istore_n 0, 1) := gdJ6_bitCount_0f7a4_0.2.2.2.2.2.2.2.1
theorem dJ6_bitCount_0f7a4_10 : decode cJ6_bitCount_0f7a4 10 = .ok (.iload_n 0, 1) := gdJ6_bitCount_0f7a4_0.2.2.2.2.2.2.2.2.1
theorem dJ6_bitCount_0f7a4_11 : decode cJ6_bitCount_0f7a4 11 = .ok (.ldc_w 266, 3) := gdJ6_bitCount_0f7a4_0.2.2.2.2.2.2.2.2.2.1
theorem dJ6_bitCount_0f7a4_14 : decode cJ6_bitCount_0f7a4 14 = .ok (.iand, 1) := gdJ6_bitCount_0f7a4_0.2.2.2.2.2.2.2.2.2.2.1
theorem dJ6_bitCount_0f7a4_15 : decode cJ6_bitCount_0f7a4 15 = .ok (.iload_n 0, 1) := gdJ6_bitCount_0f7a4_0.2.2.2.2.2.2.2.2.2.2.2
theorem gdJ6_bitCount_0f7a4_16 : decode cJ6_bitCount_0f7a4 16 = .ok (.iconst 2, 1) ∧ decode cJ6_bitCount_0f7a4 17 = .ok (.iushr, 1) ∧ decode cJ6_bitCount_0f7a4 18 = .ok (.ldc_w 266, 3) ∧ decode cJ6_bitCount_0f7a4 21 = .ok (.iand, 1) ∧ decode cJ6_bitCount_0f7a4 22 = .ok (.iadd, 1) ∧ decode cJ6_bitCount_0f7a4 23 = .ok (.istore_n 0, 1) ∧ decode cJ6_bitCount_0f7a4 24 = .ok (.iload_n 0, 1) ∧ decode cJ6_bitCount_0f7a4 25 = .ok (.iload_n 0, 1) ∧ decode cJ6_bitCount_0f7a4 26 = .ok (.iconst 4, 1) ∧ decode cJ6_bitCount_0f7a4 27 = .ok (.iushr, 1) ∧ decode cJ6_bitCount_0f7a4 28 = .ok (.iadd, 1) ∧ decode cJ6_bitCount_0f7a4 29 = .ok (.ldc_w 267, 3) := by decide +kernel
theorem dJ6_bitCount_0f7a4_16 : decode cJ6_bitCount_0f7a4 16 = .ok (.iconst 2, 1) := gdJ6_bitCount_0f7a4_16.1
theorem dJ6_bitCount_0f7a4_17 : decode cJ6_bitCount_0f7a4 17 = .ok (.iushr, 1) := gdJ6_bitCount_0f7a4_16.2.1
theorem dJ6_bitCount_0f7a4_18 : decode cJ6_bitCount_0f7a4 18 = .ok (.ldc_w 266, 3) := gdJ6_bitCount_0f7a4_16.2.2.1
theorem dJ6_bitCount_0f7a4_21 : decode cJ6_bitCount_0f7a4 21 = .ok (.iand, 1) := gdJ6_bitCount_0f7a4_16.2.2.2.1
theorem dJ6_bitCount_0f7a4_22 : decode cJ6_bitCount_0f7a4 22 = .ok (.iadd, 1) := gdJ6_bitCount_0f7a4_16.2.2.2.2.1
theorem dJ6_bitCount_0f7a4_23 : decode cJ6_bitCount_0f7a4 23 = .ok (.istore_n 0, 1) := gdJ6_bitCount_0f7a4_16.2.2.2.2.2.1
theorem dJ6_bitCount_0f7a4_24 : decode cJ6_bitCount_0f7a4 24 = .ok (.iload_n 0, 1) := gdJ6_bitCount_0f7a4_16.2.2.2.2.2.2.1
theorem dJ6_bitCount_0f7a4_25 : decode cJ6_bitCount_0f7a4 25 = .ok (.iload_n 0, 1) := gdJ6_bitCount_0f7a4_16.2.2.2.2.2.2.2.1
theorem dJ6_bitCount_0f7a4_26 : decode cJ6_bitCount_0f7a4 26 = .ok (.iconst 4, 1) := gdJ6_bitCount_0f7a4_16.2.2.2.2.2.2.2.2.1
theorem dJ6_bitCount_0f7a4_27 : decode cJ6_bitCount_0f7a4 27 = .ok (.iushr, 1) := gdJ6_bitCount_0f7a4_16.2.2.2.2.2.2.2.2.2.1
theorem dJ6_bitCount_0f7a4_28 : decode cJ6_bitCount_0f7a4 28 = .ok (.iadd, 1) := gdJ6_bitCount_0f7a4_16.2.2.2.2.2.2.2.2.2.2.1
theorem dJ6_bitCount_0f7a4_29 : decode cJ6_bitCount_0f7a4 29 = .ok (.ldc_w 267, 3) := gdJ6_bitCount_0f7a4_16.2.2.2.2.2.2.2.2.2.2.2
theorem gdJ6_bitCount_0f7a4_32 : decode cJ6_bitCount_0f7a4 32 = .ok (.iand, 1) ∧ decode cJ6_bitCount_0f7a4 33 = .ok (.istore_n 0, 1) ∧ decode cJ6_bitCount_0f7a4 34 = .ok (.iload_n 0, 1) ∧ decode cJ6_bitCount_0f7a4 35 = .ok (.iload_n 0, 1) ∧ decode cJ6_bitCount_0f7a4 36 = .ok (.bipush 8, 2) ∧ decode cJ6_bitCount_0f7a4 38 = .ok (.iushr, 1) ∧ decode cJ6_bitCount_0f7a4 39 = .ok (.iadd, 1) ∧ decode cJ6_bitCount_0f7a4 40 = .ok (.istore_n 0, 1) ∧ decode cJ6_bitCount_0f7a4 41 = .ok (.iload_n 0, 1) ∧ decode cJ6_bitCount_0f7a4 42 = .ok (.iload_n 0, 1) ∧ decode cJ6_bitCount_0f7a4 43 = .ok (.bipush 16, 2) ∧ decode cJ6_bitCount_0f7a4 45 = .ok (.iushr, 1) := by decide +kernel
theorem dJ6_bitCount_0f7a4_32 : decode cJ6_bitCount_0f7a4 32 = .ok (.iand, 1) := gdJ6_bitCount_0f7a4_32.1
theorem dJ6_bitCount_0f7a4_33 : decode cJ6_bitCount_0f7a4 33 = .ok (.istore_n 0, 1) := gdJ6_bitCount_0f7a4_32.2.1
theorem dJ6_bitCount_0f7a4_34 : decode cJ6_bitCount_0f7a4 34 = .ok (.iload_n 0, 1) := gdJ6_bitCount_0f7a4_32.2.2.1
theorem dJ6_bitCount_0f7a4_35 : decode cJ6_bitCount_0f7a4 35 = .ok (.iload_n 0, 1) := gdJ6_bitCount_0f7a4_32.2.2.2.1
theorem dJ6_bitCount_0f7a4_36 : decode cJ6_bitCount_0f7a4 36 = .ok (.bipush 8, 2) := gdJ6_bitCount_0f7a4_32.2.2.2.2.1
theorem dJ6_bitCount_0f7a4_38 : decode cJ6_bitCount_0f7a4 38 = .ok (.iushr, 1) := gdJ6_bitCount_0f7a4_32.2.2.2.2.2.1
theorem dJ6_bitCount_0f7a4_39 : decode cJ6_bitCount_0f7a4 39 = .ok (.iadd, 1) := gdJ6_bitCount_0f7a4_32.2.2.2.2.2.2.1
theorem dJ6_bitCount_0f7a4_40 : decode cJ6_bitCount_0f7a4 40 = .ok (.istore_n 0, 1) := gdJ6_bitCount_0f7a4_32.2.2.2.2.2.2.2.1
theorem dJ6_bitCount_0f7a4_41 : decode cJ6_bitCount_0f7a4 41 = .ok (.iload_n 0, 1) := gdJ6_bitCount_0f7a4_32.2.2.2.2.2.2.2.2.1
theorem dJ6_bitCount_0f7a4_42 : decode cJ6_bitCount_0f7a4 42 = .ok (.iload_n 0, 1) := gdJ6_bitCount_0f7a4_32.2.2.2.2.2.2.2.2.2.1
theorem dJ6_bitCount_0f7a4_43 : decode cJ6_bitCount_0f7a4 43 = .ok (.bipush 16, 2) := gdJ6_bitCount_0f7a4_32.2.2.2.2.2.2.2.2.2.2.1
theorem dJ6_bitCount_0f7a4_45 : decode cJ6_bitCount_0f7a4 45 = .ok (.iushr, 1) := gdJ6_bitCount_0f7a4_32.2.2.2.2.2.2.2.2.2.2.2
theorem gdJ6_bitCount_0f7a4_46 : decode cJ6_bitCount_0f7a4 46 = .ok (.iadd, 1) ∧ decode cJ6_bitCount_0f7a4 47 = .ok (.istore_n 0, 1) ∧ decode cJ6_bitCount_0f7a4 48 = .ok (.iload_n 0, 1) ∧ decode cJ6_bitCount_0f7a4 49 = .ok (.bipush 63, 2) ∧ decode cJ6_bitCount_0f7a4 51 = .ok (.iand, 1) ∧ decode cJ6_bitCount_0f7a4 52 = .ok (.ireturn, 1) := by decide +kernel
theorem dJ6_bitCount_0f7a4_46 : decode cJ6_bitCount_0f7a4 46 = .ok (.iadd, 1) := gdJ6_bitCount_0f7a4_46.1
theorem dJ6_bitCount_0f7a4_47 : decode cJ6_bitCount_0f7a4 47 = .ok (.istore_n 0, 1) := gdJ6_bitCount_0f7a4_46.2.1
theorem dJ6_bitCount_0f7a4_48 : decode cJ6_bitCount_0f7a4 48 = .ok (.iload_n 0, 1) := gdJ6_bitCount_0f7a4_46.2.2.1
theorem dJ6_bitCount_0f7a4_49 : decode cJ6_bitCount_0f7a4 49 = .ok (.bipush 63, 2) := gdJ6_bitCount_0f7a4_46.2.2.2.1
theorem dJ6_bitCount_0f7a4_51 : decode cJ6_bitCount_0f7a4 51 = .ok (.iand, 1) := gdJ6_bitCount_0f7a4_46.2.2.2.2.1
theorem dJ6_bitCount_0f7a4_52 : decode cJ6_bitCount_0f7a4 52 = .ok (.ireturn, 1) := gdJ6_bitCount_0f7a4_46.2.2.2.2.2
set_option maxHeartbeats 1000000 in
set_option maxRecDepth 100000 in
theorem s_bitCount (l : Launch) (D : va_G) (cy : Nat → ClassId) (bi : Int32)  : XMi l D (tyL cy) E0 yJ6_bitCount_0f7a4 cJ6_bitCount_0f7a4 1 (some .int) (rmk 0 0 0) [.int bi] [] (fun (r : Int32) (_ : Unit) => True) (fun (_ : Unit) => []) := by
  refine XMi.start (by decide) (Nat.le_of_ble_eq_true rfl) ?_
  intro p e s m below meth c args A ls Q hat hQ
  obtain ⟨hx, hb, hr, hml, hown, hg, hlocks, hin, hK, hA, hP, hD, hS, hE, hl⟩ := hat
  have hown : s.vm.findClass RJ6 = some m.cls := hown
  have hl : lv_has ls 1 [(0, .int bi)] := hl
  refine lv_iload_n hx hb dJ6_bitCount_0f7a4_0 rfl (lv_at hl 0 rfl) ?_
  refine lv_iload_n hx hb dJ6_bitCount_0f7a4_1 rfl (lv_at hl 0 rfl) ?_
  refine lv_iconst (v := 1) hx hb dJ6_bitCount_0f7a4_2 (by decide) ?_
  obtain ⟨x_1, ex_1⟩ : ∃ y : Int32, ((bi : Int32).toUInt32 >>> ((1 : Int32).toUInt32 &&& Int32.toUInt32 31)).toInt32 = y := ⟨_, rfl⟩
  refine lv_iushr (v := x_1) hx hb dJ6_bitCount_0f7a4_3 ex_1 ?_
  refine lv_ldcw (v := 1431655765) hx hb hown (hg _ m_1208) dJ6_bitCount_0f7a4_4 ?_
  refine lv_iand hx hb dJ6_bitCount_0f7a4_7 ?_
  refine lv_topi (fun x_2 ex_2 => ?_)
  refine lv_isub hx hb dJ6_bitCount_0f7a4_8 ?_
  refine lv_topi (fun x_3 ex_3 => ?_)
  refine lv_istore_n (lv' := [(0, .int x_3)]) hx hb dJ6_bitCount_0f7a4_9 rfl hl (by decide) rfl (fun ls hl => ?_)
  refine lv_iload_n hx hb dJ6_bitCount_0f7a4_10 rfl (lv_at hl 0 rfl) ?_
  refine lv_ldcw (v := 858993459) hx hb hown (hg _ m_1209) dJ6_bitCount_0f7a4_11 ?_
  refine lv_iand hx hb dJ6_bitCount_0f7a4_14 ?_
  refine lv_topi (fun x_4 ex_4 => ?_)
  refine lv_iload_n hx hb dJ6_bitCount_0f7a4_15 rfl (lv_at hl 0 rfl) ?_
  refine lv_iconst (v := 2) hx hb dJ6_bitCount_0f7a4_16 (by decide) ?_
  obtain ⟨x_5, ex_5⟩ : ∃ y : Int32, ((x_3 : Int32).toUInt32 >>> ((2 : Int32).toUInt32 &&& Int32.toUInt32 31)).toInt32 = y := ⟨_, rfl⟩
  refine lv_iushr (v := x_5) hx hb dJ6_bitCount_0f7a4_17 ex_5 ?_
  refine lv_ldcw (v := 858993459) hx hb hown (hg _ m_1209) dJ6_bitCount_0f7a4_18 ?_
  refine lv_iand hx hb dJ6_bitCount_0f7a4_21 ?_
  refine lv_topi (fun x_6 ex_6 => ?_)
  refine lv_iadd hx hb dJ6_bitCount_0f7a4_22 ?_
  refine lv_topi (fun x_7 ex_7 => ?_)
  refine lv_istore_n (lv' := [(0, .int x_7)]) hx hb dJ6_bitCount_0f7a4_23 rfl hl (by decide) rfl (fun ls hl => ?_)
  refine lv_iload_n hx hb dJ6_bitCount_0f7a4_24 rfl (lv_at hl 0 rfl) ?_
  refine lv_iload_n hx hb dJ6_bitCount_0f7a4_25 rfl (lv_at hl 0 rfl) ?_
  refine lv_iconst (v := 4) hx hb dJ6_bitCount_0f7a4_26 (by decide) ?_
  obtain ⟨x_8, ex_8⟩ : ∃ y : Int32, ((x_7 : Int32).toUInt32 >>> ((4 : Int32).toUInt32 &&& Int32.toUInt32 31)).toInt32 = y := ⟨_, rfl⟩
  refine lv_iushr (v := x_8) hx hb dJ6_bitCount_0f7a4_27 ex_8 ?_
  refine lv_iadd hx hb dJ6_bitCount_0f7a4_28 ?_
  refine lv_topi (fun x_9 ex_9 => ?_)
  refine lv_ldcw (v := 252645135) hx hb hown (hg _ m_1210) dJ6_bitCount_0f7a4_29 ?_
  refine lv_iand hx hb dJ6_bitCount_0f7a4_32 ?_
  refine lv_topi (fun x_10 ex_10 => ?_)
  refine lv_istore_n (lv' := [(0, .int x_10)]) hx hb dJ6_bitCount_0f7a4_33 rfl hl (by decide) rfl (fun ls hl => ?_)
  refine lv_iload_n hx hb dJ6_bitCount_0f7a4_34 rfl (lv_at hl 0 rfl) ?_
  refine lv_iload_n hx hb dJ6_bitCount_0f7a4_35 rfl (lv_at hl 0 rfl) ?_
  refine lv_bipush (v := 8) hx hb dJ6_bitCount_0f7a4_36 (by decide) ?_
  obtain ⟨x_11, ex_11⟩ : ∃ y : Int32, ((x_10 : Int32).toUInt32 >>> ((8 : Int32).toUInt32 &&& Int32.toUInt32 31)).toInt32 = y := ⟨_, rfl⟩
  refine lv_iushr (v := x_11) hx hb dJ6_bitCount_0f7a4_38 ex_11 ?_
  refine lv_iadd hx hb dJ6_bitCount_0f7a4_39 ?_
  refine lv_topi (fun x_12 ex_12 => ?_)
  refine lv_istore_n (lv' := [(0, .int x_12)]) hx hb dJ6_bitCount_0f7a4_40 rfl hl (by decide) rfl (fun ls hl => ?_)
  refine lv_iload_n hx hb dJ6_bitCount_0f7a4_41 rfl (lv_at hl 0 rfl) ?_
  refine lv_iload_n hx hb dJ6_bitCount_0f7a4_42 rfl (lv_at hl 0 rfl) ?_
  refine lv_bipush (v := 16) hx hb dJ6_bitCount_0f7a4_43 (by decide) ?_
  obtain ⟨x_13, ex_13⟩ : ∃ y : Int32, ((x_12 : Int32).toUInt32 >>> ((16 : Int32).toUInt32 &&& Int32.toUInt32 31)).toInt32 = y := ⟨_, rfl⟩
  refine lv_iushr (v := x_13) hx hb dJ6_bitCount_0f7a4_45 ex_13 ?_
  refine lv_iadd hx hb dJ6_bitCount_0f7a4_46 ?_
  refine lv_topi (fun x_14 ex_14 => ?_)
  refine lv_istore_n (lv' := [(0, .int x_14)]) hx hb dJ6_bitCount_0f7a4_47 rfl hl (by decide) rfl (fun ls hl => ?_)
  refine lv_iload_n hx hb dJ6_bitCount_0f7a4_48 rfl (lv_at hl 0 rfl) ?_
  refine lv_bipush (v := 63) hx hb dJ6_bitCount_0f7a4_49 (by decide) ?_
  refine lv_iand hx hb dJ6_bitCount_0f7a4_51 ?_
  refine lv_topi (fun x_15 ex_15 => ?_)
  exact x_iret hQ hx hb hr hlocks hK hP hD hS dJ6_bitCount_0f7a4_52 () (trivial) [] (by decide +kernel) rfl (Nat.le_of_ble_eq_true rfl) (Nat.le_of_ble_eq_true rfl)
