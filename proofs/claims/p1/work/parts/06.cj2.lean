theorem upd_run {f : Nat → Int32} {i : Nat} (h : ∀ j, j < i → f j = nI j) (hi : i < 2 ^ 31) : ∀ j, j < i + 1 → upd f (nI i).toNatClampNeg (nI i) j = nI j := by
  intro j hj
  rw [nI_clamp hi]
  unfold upd
  by_cases e : j = i
  · rw [if_pos e, e]
  · rw [if_neg e]
    exact h j (by omega)
theorem dX9_append_0 : decode cX9_append 0 = .ok (.bipush 24, 2) := by decide +kernel
theorem dX9_append_2 : decode cX9_append 2 = .ok (.istore_n 2, 1) := by decide +kernel
theorem dX9_append_3 : decode cX9_append 3 = .ok (.iload_n 2, 1) := by decide +kernel
theorem dX9_append_4 : decode cX9_append 4 = .ok (.ifCond .lt 42, 3) := by decide +kernel
theorem dX9_append_7 : decode cX9_append 7 = .ok (.aload_n 0, 1) := by decide +kernel
theorem dX9_append_8 : decode cX9_append 8 = .ok (.getfield 33, 3) := by decide +kernel
theorem m_218 : (Cond.fieldLink RX9 33 "CliffJudges$Tape" "length" "I") ∈ gT := gm 218 (by decide +kernel) (by decide +kernel)
theorem dX9_append_11 : decode cX9_append 11 = .ok (.sipush 1600, 3) := by decide +kernel
theorem dX9_append_14 : decode cX9_append 14 = .ok (.if_icmp .ge 32, 3) := by decide +kernel
theorem dX9_append_17 : decode cX9_append 17 = .ok (.aload_n 0, 1) := by decide +kernel
theorem dX9_append_18 : decode cX9_append 18 = .ok (.getfield 11, 3) := by decide +kernel
theorem m_215 : (Cond.fieldLink RX9 11 "CliffJudges$Tape" "bytes" "[B") ∈ gT := gm 215 (by decide +kernel) (by decide +kernel)
theorem dX9_append_21 : decode cX9_append 21 = .ok (.aload_n 0, 1) := by decide +kernel
theorem dX9_append_22 : decode cX9_append 22 = .ok (.getfield 33, 3) := by decide +kernel
theorem dX9_append_25 : decode cX9_append 25 = .ok (.iload_n 1, 1) := by decide +kernel
theorem dX9_append_26 : decode cX9_append 26 = .ok (.iload_n 2, 1) := by decide +kernel
theorem dX9_append_27 : decode cX9_append 27 = .ok (.ishr, 1) := by decide +kernel
theorem dX9_append_28 : decode cX9_append 28 = .ok (.i2b, 1) := by decide +kernel
theorem dX9_append_29 : decode cX9_append 29 = .ok (.bastore, 1) := by decide +kernel
theorem dX9_append_30 : decode cX9_append 30 = .ok (.aload_n 0, 1) := by decide +kernel
theorem dX9_append_31 : decode cX9_append 31 = .ok (.dup, 1) := by decide +kernel
theorem dX9_append_32 : decode cX9_append 32 = .ok (.getfield 33, 3) := by decide +kernel
theorem dX9_append_35 : decode cX9_append 35 = .ok (.iconst 1, 1) := by decide +kernel
theorem dX9_append_36 : decode cX9_append 36 = .ok (.iadd, 1) := by decide +kernel
theorem dX9_append_37 : decode cX9_append 37 = .ok (.putfield 33, 3) := by decide +kernel
theorem dX9_append_40 : decode cX9_append 40 = .ok (.iinc 2 (-8), 3) := by decide +kernel
theorem dX9_append_43 : decode cX9_append 43 = .ok (.goto (-40), 3) := by decide +kernel
theorem dX9_append_46 : decode cX9_append 46 = .ok (.return_, 1) := by decide +kernel
set_option maxHeartbeats 400000 in
set_option maxRecDepth 100000 in
theorem c_append (l : Launch) (D : va_G) (cy : Nat → ClassId) (ta0 : Nat) (ta1 : Nat) (tv1 : Value) (tv3 : Value) (tv4 : Value) (tv5 : Value) (tv6 : Value) (tv7 : Value) (n : Nat) (fb : Nat → Int32) (fo : Int32) (hn : n + 4 ≤ 1600) : XMv l D (tyL cy) E0 yX9_append cX9_append 3 none (rmk 0 0 0) [.ref ta0, .int fo] [(ta0, .inr (9, [.ref ta1, tv1, .int (nI n), tv3, tv4, tv5, tv6, tv7])), (ta1, .inl (cy 0, 1600, .inl (fb)))] (fun (fb2 : Nat → Int32) => True) (fun (fb2 : Nat → Int32) => [(ta0, .inr (9, [.ref ta1, tv1, .int (nI (n + 4)), tv3, tv4, tv5, tv6, tv7])), (ta1, .inl (cy 0, 1600, .inl (fb2)))]) := by
  refine XMv.start (by decide) (Nat.le_of_ble_eq_true rfl) ?_
  intro p e s m below meth c args A ls Q hat hQ
  obtain ⟨hx, hb, hr, hml, hown, hg, hlocks, hin, hK, hA, hP, hD, hS, hE, hl⟩ := hat
  have hown : s.vm.findClass RX9 = some m.cls := hown
  have hl : lv_has ls 3 [(0, .ref ta0), (1, .int fo)] := hl
  refine lv_bipush (v := 24) hx hb dX9_append_0 (by decide) ?_
  refine lv_istore_n (lv' := [(2, .int 24), (0, .ref ta0), (1, .int fo)]) hx hb dX9_append_2 rfl hl (by decide) rfl (fun ls hl => ?_)
  refine lv_iload_n hx hb dX9_append_3 rfl (lv_at hl 0 rfl) ?_
  refine lv_if_lt (tgt := 46) hx hb dX9_append_4 (by decide) (fun h => absurd h (by decide)) (fun _ => ?_)
  refine lv_aload_n hx hb dX9_append_7 rfl (lv_at hl 1 rfl) ?_
  refine va_get (D := D) (ci := 9) (v := .int (nI n)) (C := RX9) (T := TX9) (N := 8) hx hb hg i_X9 hown hK hP 0 rfl rfl 2 (by decide) (hg _ m_218) (fun _ h9 => h9) rfl dX9_append_8 ?_
  refine lv_sipush (v := 1600) hx hb dX9_append_11 (by decide) ?_
  refine lv_icmp_ge (tgt := 46) hx hb dX9_append_14 (by decide) (fun h => absurd h (nI_ge (a := n) (b := 1600) (by omega) (by decide))) (fun _ => ?_)
  refine lv_aload_n hx hb dX9_append_17 rfl (lv_at hl 1 rfl) ?_
  refine va_get (D := D) (ci := 9) (v := .ref ta1) (C := RX9) (T := TX9) (N := 8) hx hb hg i_X9 hown hK hP 0 rfl rfl 0 (by decide) (hg _ m_215) (fun _ h9 => h9) rfl dX9_append_18 ?_
  refine lv_aload_n hx hb dX9_append_21 rfl (lv_at hl 1 rfl) ?_
  refine va_get (D := D) (ci := 9) (v := .int (nI n)) (C := RX9) (T := TX9) (N := 8) hx hb hg i_X9 hown hK hP 0 rfl rfl 2 (by decide) (hg _ m_218) (fun _ h9 => h9) rfl dX9_append_22 ?_
  refine lv_iload_n hx hb dX9_append_25 rfl (lv_at hl 2 rfl) ?_
  refine lv_iload_n hx hb dX9_append_26 rfl (lv_at hl 0 rfl) ?_
  refine lv_ishr hx hb dX9_append_27 ?_
  refine lv_topi (fun x_1 ex_1 => ?_)
  obtain ⟨x_2, ex_2⟩ : ∃ y : Int32, (x_1 : Int32).toInt8.toInt32 = y := ⟨_, rfl⟩
  refine lv_i2b (v := x_2) hx hb dX9_append_28 ex_2 ?_
  refine va_bast hx hb hK hP hD hS 1 0 rfl rfl (vp_in_nI (by omega) (by decide)) dX9_append_29 (fun H locs hP hD hS => ?_)
  obtain ⟨g_3, eg_3⟩ : ∃ y, upd fb (nI n : Int32).toNatClampNeg (vp_nar .byte x_2) = y := ⟨_, rfl⟩
  rw [eg_3] at hP hD
  have hP : va_P D vwCl [(ta0, .inr (9, [.ref ta1, tv1, .int (nI n), tv3, tv4, tv5, tv6, tv7])), (ta1, .inl (cy 0, 1600, .inl (g_3)))] H := hP
  have hD : va_D A [(ta0, .inr (9, [.ref ta1, tv1, .int (nI n), tv3, tv4, tv5, tv6, tv7])), (ta1, .inl (cy 0, 1600, .inl (g_3)))] := hD
  refine lv_aload_n hx hb dX9_append_30 rfl (lv_at hl 1 rfl) ?_
  refine lv_dup hx hb dX9_append_31 rfl ?_
  refine va_get (D := D) (ci := 9) (v := .int (nI n)) (C := RX9) (T := TX9) (N := 8) hx hb hg i_X9 hown hK hP 0 rfl rfl 2 (by decide) (hg _ m_218) (fun _ h9 => h9) rfl dX9_append_32 ?_
  refine lv_iconst (v := 1) hx hb dX9_append_35 (by decide) ?_
  refine lv_iadd hx hb dX9_append_36 ?_
  refine lv_topi (fun y_4 hy_4 => ?_)
  obtain rfl : y_4 = nI (n + 1) := hy_4.trans (nI_add _ _)
  refine va_put (D := D) (ci := 9) (v := .int (nI (n + 1))) (ty := .int) (C := RX9) (T := TX9) (N := 8) hx hb hg i_X9 tyX9 tyX9_ok nmX9 hown hK hP hD hS 0 rfl rfl 2 (by decide) (hg _ m_218) (fun _ h9 => h9) rfl (by decide +kernel) rfl rfl (Nat.le_of_ble_eq_true rfl) dX9_append_37 (fun H locs hP hD hS => ?_)
  have hP : va_P D vwCl [(ta0, .inr (9, [.ref ta1, tv1, .int (nI (n + 1)), tv3, tv4, tv5, tv6, tv7])), (ta1, .inl (cy 0, 1600, .inl (g_3)))] H := hP
  have hD : va_D A [(ta0, .inr (9, [.ref ta1, tv1, .int (nI (n + 1)), tv3, tv4, tv5, tv6, tv7])), (ta1, .inl (cy 0, 1600, .inl (g_3)))] := hD
  refine lv_iinc (v := 16) (lv' := [(2, .int 16), (0, .ref ta0), (1, .int fo)]) hx hb dX9_append_40 hl (k := 0) rfl (by decide) (by decide) rfl (fun ls hl => ?_)
  refine lv_goto (tgt := 3) hx hb dX9_append_43 (by decide) ?_
  refine lv_iload_n hx hb dX9_append_3 rfl (lv_at hl 0 rfl) ?_
  refine lv_if_lt (tgt := 46) hx hb dX9_append_4 (by decide) (fun h => absurd h (by decide)) (fun _ => ?_)
  refine lv_aload_n hx hb dX9_append_7 rfl (lv_at hl 1 rfl) ?_
  refine va_get (D := D) (ci := 9) (v := .int (nI (n + 1))) (C := RX9) (T := TX9) (N := 8) hx hb hg i_X9 hown hK hP 0 rfl rfl 2 (by decide) (hg _ m_218) (fun _ h9 => h9) rfl dX9_append_8 ?_
  refine lv_sipush (v := 1600) hx hb dX9_append_11 (by decide) ?_
  refine lv_icmp_ge (tgt := 46) hx hb dX9_append_14 (by decide) (fun h => absurd h (nI_ge (a := (n + 1)) (b := 1600) (by omega) (by decide))) (fun _ => ?_)
  refine lv_aload_n hx hb dX9_append_17 rfl (lv_at hl 1 rfl) ?_
  refine va_get (D := D) (ci := 9) (v := .ref ta1) (C := RX9) (T := TX9) (N := 8) hx hb hg i_X9 hown hK hP 0 rfl rfl 0 (by decide) (hg _ m_215) (fun _ h9 => h9) rfl dX9_append_18 ?_
  refine lv_aload_n hx hb dX9_append_21 rfl (lv_at hl 1 rfl) ?_
  refine va_get (D := D) (ci := 9) (v := .int (nI (n + 1))) (C := RX9) (T := TX9) (N := 8) hx hb hg i_X9 hown hK hP 0 rfl rfl 2 (by decide) (hg _ m_218) (fun _ h9 => h9) rfl dX9_append_22 ?_
  refine lv_iload_n hx hb dX9_append_25 rfl (lv_at hl 2 rfl) ?_
  refine lv_iload_n hx hb dX9_append_26 rfl (lv_at hl 0 rfl) ?_
  refine lv_ishr hx hb dX9_append_27 ?_
  refine lv_topi (fun x_5 ex_5 => ?_)
  obtain ⟨x_6, ex_6⟩ : ∃ y : Int32, (x_5 : Int32).toInt8.toInt32 = y := ⟨_, rfl⟩
  refine lv_i2b (v := x_6) hx hb dX9_append_28 ex_6 ?_
  refine va_bast hx hb hK hP hD hS 1 0 rfl rfl (vp_in_nI (by omega) (by decide)) dX9_append_29 (fun H locs hP hD hS => ?_)
  obtain ⟨g_7, eg_7⟩ : ∃ y, upd g_3 (nI (n + 1) : Int32).toNatClampNeg (vp_nar .byte x_6) = y := ⟨_, rfl⟩
  rw [eg_7] at hP hD
  have hP : va_P D vwCl [(ta0, .inr (9, [.ref ta1, tv1, .int (nI (n + 1)), tv3, tv4, tv5, tv6, tv7])), (ta1, .inl (cy 0, 1600, .inl (g_7)))] H := hP
  have hD : va_D A [(ta0, .inr (9, [.ref ta1, tv1, .int (nI (n + 1)), tv3, tv4, tv5, tv6, tv7])), (ta1, .inl (cy 0, 1600, .inl (g_7)))] := hD
  refine lv_aload_n hx hb dX9_append_30 rfl (lv_at hl 1 rfl) ?_
  refine lv_dup hx hb dX9_append_31 rfl ?_
  refine va_get (D := D) (ci := 9) (v := .int (nI (n + 1))) (C := RX9) (T := TX9) (N := 8) hx hb hg i_X9 hown hK hP 0 rfl rfl 2 (by decide) (hg _ m_218) (fun _ h9 => h9) rfl dX9_append_32 ?_
  refine lv_iconst (v := 1) hx hb dX9_append_35 (by decide) ?_
  refine lv_iadd hx hb dX9_append_36 ?_
  refine lv_topi (fun y_8 hy_8 => ?_)
  obtain rfl : y_8 = nI ((n + 1) + 1) := hy_8.trans (nI_add _ _)
  refine va_put (D := D) (ci := 9) (v := .int (nI ((n + 1) + 1))) (ty := .int) (C := RX9) (T := TX9) (N := 8) hx hb hg i_X9 tyX9 tyX9_ok nmX9 hown hK hP hD hS 0 rfl rfl 2 (by decide) (hg _ m_218) (fun _ h9 => h9) rfl (by decide +kernel) rfl rfl (Nat.le_of_ble_eq_true rfl) dX9_append_37 (fun H locs hP hD hS => ?_)
  have hP : va_P D vwCl [(ta0, .inr (9, [.ref ta1, tv1, .int (nI ((n + 1) + 1)), tv3, tv4, tv5, tv6, tv7])), (ta1, .inl (cy 0, 1600, .inl (g_7)))] H := hP
  have hD : va_D A [(ta0, .inr (9, [.ref ta1, tv1, .int (nI ((n + 1) + 1)), tv3, tv4, tv5, tv6, tv7])), (ta1, .inl (cy 0, 1600, .inl (g_7)))] := hD
  refine lv_iinc (v := 8) (lv' := [(2, .int 8), (0, .ref ta0), (1, .int fo)]) hx hb dX9_append_40 hl (k := 0) rfl (by decide) (by decide) rfl (fun ls hl => ?_)
  refine lv_goto (tgt := 3) hx hb dX9_append_43 (by decide) ?_
  refine lv_iload_n hx hb dX9_append_3 rfl (lv_at hl 0 rfl) ?_
  refine lv_if_lt (tgt := 46) hx hb dX9_append_4 (by decide) (fun h => absurd h (by decide)) (fun _ => ?_)
  refine lv_aload_n hx hb dX9_append_7 rfl (lv_at hl 1 rfl) ?_
  refine va_get (D := D) (ci := 9) (v := .int (nI ((n + 1) + 1))) (C := RX9) (T := TX9) (N := 8) hx hb hg i_X9 hown hK hP 0 rfl rfl 2 (by decide) (hg _ m_218) (fun _ h9 => h9) rfl dX9_append_8 ?_
  refine lv_sipush (v := 1600) hx hb dX9_append_11 (by decide) ?_
  refine lv_icmp_ge (tgt := 46) hx hb dX9_append_14 (by decide) (fun h => absurd h (nI_ge (a := ((n + 1) + 1)) (b := 1600) (by omega) (by decide))) (fun _ => ?_)
  refine lv_aload_n hx hb dX9_append_17 rfl (lv_at hl 1 rfl) ?_
  refine va_get (D := D) (ci := 9) (v := .ref ta1) (C := RX9) (T := TX9) (N := 8) hx hb hg i_X9 hown hK hP 0 rfl rfl 0 (by decide) (hg _ m_215) (fun _ h9 => h9) rfl dX9_append_18 ?_
  refine lv_aload_n hx hb dX9_append_21 rfl (lv_at hl 1 rfl) ?_
  refine va_get (D := D) (ci := 9) (v := .int (nI ((n + 1) + 1))) (C := RX9) (T := TX9) (N := 8) hx hb hg i_X9 hown hK hP 0 rfl rfl 2 (by decide) (hg _ m_218) (fun _ h9 => h9) rfl dX9_append_22 ?_
  refine lv_iload_n hx hb dX9_append_25 rfl (lv_at hl 2 rfl) ?_
  refine lv_iload_n hx hb dX9_append_26 rfl (lv_at hl 0 rfl) ?_
  refine lv_ishr hx hb dX9_append_27 ?_
  refine lv_topi (fun x_9 ex_9 => ?_)
  obtain ⟨x_10, ex_10⟩ : ∃ y : Int32, (x_9 : Int32).toInt8.toInt32 = y := ⟨_, rfl⟩
  refine lv_i2b (v := x_10) hx hb dX9_append_28 ex_10 ?_
  refine va_bast hx hb hK hP hD hS 1 0 rfl rfl (vp_in_nI (by omega) (by decide)) dX9_append_29 (fun H locs hP hD hS => ?_)
  obtain ⟨g_11, eg_11⟩ : ∃ y, upd g_7 (nI ((n + 1) + 1) : Int32).toNatClampNeg (vp_nar .byte x_10) = y := ⟨_, rfl⟩
  rw [eg_11] at hP hD
  have hP : va_P D vwCl [(ta0, .inr (9, [.ref ta1, tv1, .int (nI ((n + 1) + 1)), tv3, tv4, tv5, tv6, tv7])), (ta1, .inl (cy 0, 1600, .inl (g_11)))] H := hP
  have hD : va_D A [(ta0, .inr (9, [.ref ta1, tv1, .int (nI ((n + 1) + 1)), tv3, tv4, tv5, tv6, tv7])), (ta1, .inl (cy 0, 1600, .inl (g_11)))] := hD
  refine lv_aload_n hx hb dX9_append_30 rfl (lv_at hl 1 rfl) ?_
  refine lv_dup hx hb dX9_append_31 rfl ?_
  refine va_get (D := D) (ci := 9) (v := .int (nI ((n + 1) + 1))) (C := RX9) (T := TX9) (N := 8) hx hb hg i_X9 hown hK hP 0 rfl rfl 2 (by decide) (hg _ m_218) (fun _ h9 => h9) rfl dX9_append_32 ?_
  refine lv_iconst (v := 1) hx hb dX9_append_35 (by decide) ?_
  refine lv_iadd hx hb dX9_append_36 ?_
  refine lv_topi (fun y_12 hy_12 => ?_)
  obtain rfl : y_12 = nI (((n + 1) + 1) + 1) := hy_12.trans (nI_add _ _)
  refine va_put (D := D) (ci := 9) (v := .int (nI (((n + 1) + 1) + 1))) (ty := .int) (C := RX9) (T := TX9) (N := 8) hx hb hg i_X9 tyX9 tyX9_ok nmX9 hown hK hP hD hS 0 rfl rfl 2 (by decide) (hg _ m_218) (fun _ h9 => h9) rfl (by decide +kernel) rfl rfl (Nat.le_of_ble_eq_true rfl) dX9_append_37 (fun H locs hP hD hS => ?_)
  have hP : va_P D vwCl [(ta0, .inr (9, [.ref ta1, tv1, .int (nI (((n + 1) + 1) + 1)), tv3, tv4, tv5, tv6, tv7])), (ta1, .inl (cy 0, 1600, .inl (g_11)))] H := hP
  have hD : va_D A [(ta0, .inr (9, [.ref ta1, tv1, .int (nI (((n + 1) + 1) + 1)), tv3, tv4, tv5, tv6, tv7])), (ta1, .inl (cy 0, 1600, .inl (g_11)))] := hD
  refine lv_iinc (v := 0) (lv' := [(2, .int 0), (0, .ref ta0), (1, .int fo)]) hx hb dX9_append_40 hl (k := 0) rfl (by decide) (by decide) rfl (fun ls hl => ?_)
  refine lv_goto (tgt := 3) hx hb dX9_append_43 (by decide) ?_
  refine lv_iload_n hx hb dX9_append_3 rfl (lv_at hl 0 rfl) ?_
  refine lv_if_lt (tgt := 46) hx hb dX9_append_4 (by decide) (fun h => absurd h (by decide)) (fun _ => ?_)
  refine lv_aload_n hx hb dX9_append_7 rfl (lv_at hl 1 rfl) ?_
  refine va_get (D := D) (ci := 9) (v := .int (nI (((n + 1) + 1) + 1))) (C := RX9) (T := TX9) (N := 8) hx hb hg i_X9 hown hK hP 0 rfl rfl 2 (by decide) (hg _ m_218) (fun _ h9 => h9) rfl dX9_append_8 ?_
  refine lv_sipush (v := 1600) hx hb dX9_append_11 (by decide) ?_
  refine lv_icmp_ge (tgt := 46) hx hb dX9_append_14 (by decide) (fun h => absurd h (nI_ge (a := (((n + 1) + 1) + 1)) (b := 1600) (by omega) (by decide))) (fun _ => ?_)
  refine lv_aload_n hx hb dX9_append_17 rfl (lv_at hl 1 rfl) ?_
  refine va_get (D := D) (ci := 9) (v := .ref ta1) (C := RX9) (T := TX9) (N := 8) hx hb hg i_X9 hown hK hP 0 rfl rfl 0 (by decide) (hg _ m_215) (fun _ h9 => h9) rfl dX9_append_18 ?_
  refine lv_aload_n hx hb dX9_append_21 rfl (lv_at hl 1 rfl) ?_
  refine va_get (D := D) (ci := 9) (v := .int (nI (((n + 1) + 1) + 1))) (C := RX9) (T := TX9) (N := 8) hx hb hg i_X9 hown hK hP 0 rfl rfl 2 (by decide) (hg _ m_218) (fun _ h9 => h9) rfl dX9_append_22 ?_
  refine lv_iload_n hx hb dX9_append_25 rfl (lv_at hl 2 rfl) ?_
  refine lv_iload_n hx hb dX9_append_26 rfl (lv_at hl 0 rfl) ?_
  refine lv_ishr hx hb dX9_append_27 ?_
  refine lv_topi (fun x_13 ex_13 => ?_)
  obtain ⟨x_14, ex_14⟩ : ∃ y : Int32, (x_13 : Int32).toInt8.toInt32 = y := ⟨_, rfl⟩
  refine lv_i2b (v := x_14) hx hb dX9_append_28 ex_14 ?_
  refine va_bast hx hb hK hP hD hS 1 0 rfl rfl (vp_in_nI (by omega) (by decide)) dX9_append_29 (fun H locs hP hD hS => ?_)
  obtain ⟨g_15, eg_15⟩ : ∃ y, upd g_11 (nI (((n + 1) + 1) + 1) : Int32).toNatClampNeg (vp_nar .byte x_14) = y := ⟨_, rfl⟩
  rw [eg_15] at hP hD
  have hP : va_P D vwCl [(ta0, .inr (9, [.ref ta1, tv1, .int (nI (((n + 1) + 1) + 1)), tv3, tv4, tv5, tv6, tv7])), (ta1, .inl (cy 0, 1600, .inl (g_15)))] H := hP
  have hD : va_D A [(ta0, .inr (9, [.ref ta1, tv1, .int (nI (((n + 1) + 1) + 1)), tv3, tv4, tv5, tv6, tv7])), (ta1, .inl (cy 0, 1600, .inl (g_15)))] := hD
  refine lv_aload_n hx hb dX9_append_30 rfl (lv_at hl 1 rfl) ?_
  refine lv_dup hx hb dX9_append_31 rfl ?_
  refine va_get (D := D) (ci := 9) (v := .int (nI (((n + 1) + 1) + 1))) (C := RX9) (T := TX9) (N := 8) hx hb hg i_X9 hown hK hP 0 rfl rfl 2 (by decide) (hg _ m_218) (fun _ h9 => h9) rfl dX9_append_32 ?_
  refine lv_iconst (v := 1) hx hb dX9_append_35 (by decide) ?_
  refine lv_iadd hx hb dX9_append_36 ?_
  refine lv_topi (fun y_16 hy_16 => ?_)
  obtain rfl : y_16 = nI ((((n + 1) + 1) + 1) + 1) := hy_16.trans (nI_add _ _)
  refine va_put (D := D) (ci := 9) (v := .int (nI ((((n + 1) + 1) + 1) + 1))) (ty := .int) (C := RX9) (T := TX9) (N := 8) hx hb hg i_X9 tyX9 tyX9_ok nmX9 hown hK hP hD hS 0 rfl rfl 2 (by decide) (hg _ m_218) (fun _ h9 => h9) rfl (by decide +kernel) rfl rfl (Nat.le_of_ble_eq_true rfl) dX9_append_37 (fun H locs hP hD hS => ?_)
  have hP : va_P D vwCl [(ta0, .inr (9, [.ref ta1, tv1, .int (nI ((((n + 1) + 1) + 1) + 1)), tv3, tv4, tv5, tv6, tv7])), (ta1, .inl (cy 0, 1600, .inl (g_15)))] H := hP
  have hD : va_D A [(ta0, .inr (9, [.ref ta1, tv1, .int (nI ((((n + 1) + 1) + 1) + 1)), tv3, tv4, tv5, tv6, tv7])), (ta1, .inl (cy 0, 1600, .inl (g_15)))] := hD
  refine lv_iinc (v := -8) (lv' := [(2, .int (-8)), (0, .ref ta0), (1, .int fo)]) hx hb dX9_append_40 hl (k := 0) rfl (by decide) (by decide) rfl (fun ls hl => ?_)
  refine lv_goto (tgt := 3) hx hb dX9_append_43 (by decide) ?_
  refine lv_iload_n hx hb dX9_append_3 rfl (lv_at hl 0 rfl) ?_
  refine lv_if_lt (tgt := 46) hx hb dX9_append_4 (by decide) (fun _ => ?_) (fun h => absurd (by decide) h)
  exact x_vret hQ hx hb hr hlocks hK hP hD hS dX9_append_46 g_15 (trivial) [0, 1] (by decide) rfl (Nat.le_of_ble_eq_true rfl) (Nat.le_of_ble_eq_true rfl)
theorem dX11_feed_0 : decode cX11_feed 0 = .ok (.aload_n 0, 1) := by decide +kernel
theorem dX11_feed_1 : decode cX11_feed 1 = .ok (.getfield 10, 3) := by decide +kernel
theorem dX11_feed_4 : decode cX11_feed 4 = .ok (.getfield 93, 3) := by decide +kernel
theorem dX11_feed_7 : decode cX11_feed 7 = .ok (.bipush 20, 2) := by decide +kernel
theorem dX11_feed_9 : decode cX11_feed 9 = .ok (.iadd, 1) := by decide +kernel
theorem dX11_feed_10 : decode cX11_feed 10 = .ok (.sipush 1600, 3) := by decide +kernel
theorem dX11_feed_13 : decode cX11_feed 13 = .ok (.if_icmp .le 5, 3) := by decide +kernel
theorem dX11_feed_18 : decode cX11_feed 18 = .ok (.aload_n 0, 1) := by decide +kernel
theorem dX11_feed_19 : decode cX11_feed 19 = .ok (.getfield 10, 3) := by decide +kernel
theorem dX11_feed_22 : decode cX11_feed 22 = .ok (.iload_n 1, 1) := by decide +kernel
theorem dX11_feed_23 : decode cX11_feed 23 = .ok (.invokevirtual 96, 3) := by decide +kernel
theorem m_705 : (Cond.methodLink RX11 96 yX9_append) ∈ gT := gm 705 (by decide +kernel) (by decide +kernel)
theorem m_706 : (Cond.instanceMethod yX9_append) ∈ gT := gm 706 (by decide +kernel) (by decide +kernel)
theorem m_707 : (Cond.selects RX9 yX9_append yX9_append) ∈ gT := gm 707 (by decide +kernel) (by decide +kernel)
theorem m_131 : (Cond.initialized RX9) ∈ gT := gm 131 (by decide +kernel) (by decide +kernel)
theorem m_708 : (Cond.code yX9_append cX9_append 3 none) ∈ gT := gm 708 (by decide +kernel) (by decide +kernel)
theorem k_X11_96 : xV RX11 RX9 96 yX9_append cX9_append 3 none 1 := ⟨⟨m_705, m_706, m_707, m_131, m_708⟩, rfl, by decide, by decide, by decide +kernel⟩
theorem dX11_feed_26 : decode cX11_feed 26 = .ok (.aload_n 0, 1) := by decide +kernel
theorem dX11_feed_27 : decode cX11_feed 27 = .ok (.getfield 10, 3) := by decide +kernel
theorem dX11_feed_30 : decode cX11_feed 30 = .ok (.iload_n 2, 1) := by decide +kernel
theorem dX11_feed_31 : decode cX11_feed 31 = .ok (.invokevirtual 96, 3) := by decide +kernel
theorem dX11_feed_34 : decode cX11_feed 34 = .ok (.aload_n 0, 1) := by decide +kernel
theorem dX11_feed_35 : decode cX11_feed 35 = .ok (.getfield 10, 3) := by decide +kernel
theorem dX11_feed_38 : decode cX11_feed 38 = .ok (.iload_n 3, 1) := by decide +kernel
theorem dX11_feed_39 : decode cX11_feed 39 = .ok (.invokevirtual 96, 3) := by decide +kernel
theorem dX11_feed_42 : decode cX11_feed 42 = .ok (.aload_n 0, 1) := by decide +kernel
theorem dX11_feed_43 : decode cX11_feed 43 = .ok (.getfield 10, 3) := by decide +kernel
theorem dX11_feed_46 : decode cX11_feed 46 = .ok (.iload 4, 2) := by decide +kernel
theorem dX11_feed_48 : decode cX11_feed 48 = .ok (.invokevirtual 96, 3) := by decide +kernel
theorem dX11_feed_51 : decode cX11_feed 51 = .ok (.aload_n 0, 1) := by decide +kernel
theorem dX11_feed_52 : decode cX11_feed 52 = .ok (.getfield 10, 3) := by decide +kernel
theorem dX11_feed_55 : decode cX11_feed 55 = .ok (.iload 5, 2) := by decide +kernel
theorem dX11_feed_57 : decode cX11_feed 57 = .ok (.invokevirtual 96, 3) := by decide +kernel
theorem dX11_feed_60 : decode cX11_feed 60 = .ok (.aload_n 0, 1) := by decide +kernel
theorem dX11_feed_61 : decode cX11_feed 61 = .ok (.getfield 10, 3) := by decide +kernel
theorem dX11_feed_64 : decode cX11_feed 64 = .ok (.getfield 93, 3) := by decide +kernel
theorem dX11_feed_67 : decode cX11_feed 67 = .ok (.ireturn, 1) := by decide +kernel
set_option maxHeartbeats 400000 in
set_option maxRecDepth 100000 in
theorem t_feed (l : Launch) (D : va_G) (cy : Nat → ClassId) (a0 : Nat) (w1 : Value) (w2 : Value) (w3 : Value) (w4 : Value) (w5 : Value) (w6 : Value) (w7 : Value) (w8 : Value) (w9 : Value) (w10 : Value) (w11 : Value) (w12 : Value) (w13 : Value) (ta0 : Nat) (ta1 : Nat) (tv1 : Value) (tv3 : Value) (tv4 : Value) (tv5 : Value) (tv6 : Value) (tv7 : Value) (fb : Nat → Int32) (ka : Int32) (kb : Int32) (kc : Int32) (kd : Int32) (ke : Int32)  : XMi l D (tyL cy) E0 yX11_feed cX11_feed 6 (some .int) (rmk 2 0 0) [.ref a0, .int ka, .int kb, .int kc, .int kd, .int ke] [(a0, .inr (11, [.ref ta0, w1, w2, w3, w4, w5, w6, w7, w8, w9, w10, w11, w12, w13])), (ta0, .inr (9, [.ref ta1, tv1, .int 0, tv3, tv4, tv5, tv6, tv7])), (ta1, .inl (cy 0, 1600, .inl (fb)))] (fun (r : Int32) (_ : Unit) => r = 20) (fun (_ : Unit) => []) := by
  refine XMi.start (by decide) (Nat.le_of_ble_eq_true rfl) ?_
  intro p e s m below meth c args A ls Q hat hQ
  obtain ⟨hx, hb, hr, hml, hown, hg, hlocks, hin, hK, hA, hP, hD, hS, hE, hl⟩ := hat
  have hown : s.vm.findClass RX11 = some m.cls := hown
  have hl : lv_has ls 6 [(0, .ref a0), (1, .int ka), (2, .int kb), (3, .int kc), (4, .int kd), (5, .int ke)] := hl
  refine lv_aload_n hx hb dX11_feed_0 rfl (lv_at hl 0 rfl) ?_
  refine va_get (D := D) (ci := 11) (v := .ref ta0) (C := RX11) (T := TX11) (N := 14) hx hb hg i_X11 hown hK hP 0 rfl rfl 0 (by decide) (hg _ m_658) (fun _ h9 => h9) rfl dX11_feed_1 ?_
  refine va_get (D := D) (ci := 9) (v := .int 0) (C := RX9) (T := TX9) (N := 8) hx hb hg i_X9 hown hK hP 1 rfl rfl 2 (by decide) (hg _ m_217) (fun _ h9 => h9) rfl dX11_feed_4 ?_
  refine lv_bipush (v := 20) hx hb dX11_feed_7 (by decide) ?_
  refine lv_iadd hx hb dX11_feed_9 ?_
  refine lv_topi (fun y_1 hy_1 => ?_)
  obtain rfl : y_1 = 20 := hy_1.trans (by decide +kernel)
  refine lv_sipush (v := 1600) hx hb dX11_feed_10 (by decide) ?_
  refine lv_icmp_le (tgt := 18) hx hb dX11_feed_13 (by decide) (fun _ => ?_) (fun h => absurd (by decide) h)
  refine lv_aload_n hx hb dX11_feed_18 rfl (lv_at hl 0 rfl) ?_
  refine va_get (D := D) (ci := 11) (v := .ref ta0) (C := RX11) (T := TX11) (N := 14) hx hb hg i_X11 hown hK hP 0 rfl rfl 0 (by decide) (hg _ m_658) (fun _ h9 => h9) rfl dX11_feed_19 ?_
  refine lv_iload_n hx hb dX11_feed_22 rfl (lv_at hl 1 rfl) ?_
  refine x_callVv (q := (RX9, TX9, 8)) (ci := 9) (q0 := 0) (wr := [(a0, .inr (11, [.ref ta0, w1, w2, w3, w4, w5, w6, w7, w8, w9, w10, w11, w12, w13]))]) (rest := []) ⟨hx, hb, hml, hown, hg, hl.1⟩ k_X11_96 (c_append l D cy ta0 ta1 tv1 tv3 tv4 tv5 tv6 tv7 0 fb ka (by omega)) E0_blind hK hP hD hS hA [1, 2] [0] ⟨rfl, rfl, by decide, by decide, by decide⟩ rfl rfl (fun _ _ _ => trivial) dX11_feed_23 rfl rfl (Nat.le_of_ble_eq_true rfl) ⟨Nat.le_of_ble_eq_true rfl, Nat.le_of_ble_eq_true rfl⟩ ⟨Nat.le_of_ble_eq_true rfl, Nat.le_of_ble_eq_true rfl⟩ (fun u2 H locs hw2 hP hD hS => ?_)
  obtain ⟨fb2_3, rfl⟩ : ∃ z, z = u2 := ⟨_, rfl⟩
  have hP : va_P D vwCl [(a0, .inr (11, [.ref ta0, w1, w2, w3, w4, w5, w6, w7, w8, w9, w10, w11, w12, w13])), (ta0, .inr (9, [.ref ta1, tv1, .int (nI (0 + 4)), tv3, tv4, tv5, tv6, tv7])), (ta1, .inl (cy 0, 1600, .inl (fb2_3)))] H := hP
  have hD : va_D A [(a0, .inr (11, [.ref ta0, w1, w2, w3, w4, w5, w6, w7, w8, w9, w10, w11, w12, w13])), (ta0, .inr (9, [.ref ta1, tv1, .int (nI (0 + 4)), tv3, tv4, tv5, tv6, tv7])), (ta1, .inl (cy 0, 1600, .inl (fb2_3)))] := hD
  refine W.widen (k := 0) (n := 0) (Nat.le_of_ble_eq_true rfl) (Nat.le_of_ble_eq_true rfl) ?_
  refine lv_aload_n hx hb dX11_feed_26 rfl (lv_at hl 0 rfl) ?_
  refine va_get (D := D) (ci := 11) (v := .ref ta0) (C := RX11) (T := TX11) (N := 14) hx hb hg i_X11 hown hK hP 0 rfl rfl 0 (by decide) (hg _ m_658) (fun _ h9 => h9) rfl dX11_feed_27 ?_
  refine lv_iload_n hx hb dX11_feed_30 rfl (lv_at hl 2 rfl) ?_
  refine x_callVv (q := (RX9, TX9, 8)) (ci := 9) (q0 := 0) (wr := [(a0, .inr (11, [.ref ta0, w1, w2, w3, w4, w5, w6, w7, w8, w9, w10, w11, w12, w13]))]) (rest := []) ⟨hx, hb, hml, hown, hg, hl.1⟩ k_X11_96 (c_append l D cy ta0 ta1 tv1 tv3 tv4 tv5 tv6 tv7 ((0 + 4)) fb2_3 kb (by omega)) E0_blind hK hP hD hS hA [1, 2] [0] ⟨rfl, rfl, by decide, by decide, by decide⟩ rfl rfl (fun _ _ _ => trivial) dX11_feed_31 rfl rfl (Nat.le_of_ble_eq_true rfl) ⟨Nat.le_of_ble_eq_true rfl, Nat.le_of_ble_eq_true rfl⟩ ⟨Nat.le_of_ble_eq_true rfl, Nat.le_of_ble_eq_true rfl⟩ (fun u4 H locs hw4 hP hD hS => ?_)
  obtain ⟨fb2_5, rfl⟩ : ∃ z, z = u4 := ⟨_, rfl⟩
  have hP : va_P D vwCl [(a0, .inr (11, [.ref ta0, w1, w2, w3, w4, w5, w6, w7, w8, w9, w10, w11, w12, w13])), (ta0, .inr (9, [.ref ta1, tv1, .int (nI (((0 + 4)) + 4)), tv3, tv4, tv5, tv6, tv7])), (ta1, .inl (cy 0, 1600, .inl (fb2_5)))] H := hP
  have hD : va_D A [(a0, .inr (11, [.ref ta0, w1, w2, w3, w4, w5, w6, w7, w8, w9, w10, w11, w12, w13])), (ta0, .inr (9, [.ref ta1, tv1, .int (nI (((0 + 4)) + 4)), tv3, tv4, tv5, tv6, tv7])), (ta1, .inl (cy 0, 1600, .inl (fb2_5)))] := hD
  refine W.widen (k := 0) (n := 0) (Nat.le_of_ble_eq_true rfl) (Nat.le_of_ble_eq_true rfl) ?_
  refine lv_aload_n hx hb dX11_feed_34 rfl (lv_at hl 0 rfl) ?_
  refine va_get (D := D) (ci := 11) (v := .ref ta0) (C := RX11) (T := TX11) (N := 14) hx hb hg i_X11 hown hK hP 0 rfl rfl 0 (by decide) (hg _ m_658) (fun _ h9 => h9) rfl dX11_feed_35 ?_
  refine lv_iload_n hx hb dX11_feed_38 rfl (lv_at hl 3 rfl) ?_
  refine x_callVv (q := (RX9, TX9, 8)) (ci := 9) (q0 := 0) (wr := [(a0, .inr (11, [.ref ta0, w1, w2, w3, w4, w5, w6, w7, w8, w9, w10, w11, w12, w13]))]) (rest := []) ⟨hx, hb, hml, hown, hg, hl.1⟩ k_X11_96 (c_append l D cy ta0 ta1 tv1 tv3 tv4 tv5 tv6 tv7 ((((0 + 4)) + 4)) fb2_5 kc (by omega)) E0_blind hK hP hD hS hA [1, 2] [0] ⟨rfl, rfl, by decide, by decide, by decide⟩ rfl rfl (fun _ _ _ => trivial) dX11_feed_39 rfl rfl (Nat.le_of_ble_eq_true rfl) ⟨Nat.le_of_ble_eq_true rfl, Nat.le_of_ble_eq_true rfl⟩ ⟨Nat.le_of_ble_eq_true rfl, Nat.le_of_ble_eq_true rfl⟩ (fun u6 H locs hw6 hP hD hS => ?_)
  obtain ⟨fb2_7, rfl⟩ : ∃ z, z = u6 := ⟨_, rfl⟩
  have hP : va_P D vwCl [(a0, .inr (11, [.ref ta0, w1, w2, w3, w4, w5, w6, w7, w8, w9, w10, w11, w12, w13])), (ta0, .inr (9, [.ref ta1, tv1, .int (nI (((((0 + 4)) + 4)) + 4)), tv3, tv4, tv5, tv6, tv7])), (ta1, .inl (cy 0, 1600, .inl (fb2_7)))] H := hP
  have hD : va_D A [(a0, .inr (11, [.ref ta0, w1, w2, w3, w4, w5, w6, w7, w8, w9, w10, w11, w12, w13])), (ta0, .inr (9, [.ref ta1, tv1, .int (nI (((((0 + 4)) + 4)) + 4)), tv3, tv4, tv5, tv6, tv7])), (ta1, .inl (cy 0, 1600, .inl (fb2_7)))] := hD
  refine W.widen (k := 0) (n := 0) (Nat.le_of_ble_eq_true rfl) (Nat.le_of_ble_eq_true rfl) ?_
  refine lv_aload_n hx hb dX11_feed_42 rfl (lv_at hl 0 rfl) ?_
  refine va_get (D := D) (ci := 11) (v := .ref ta0) (C := RX11) (T := TX11) (N := 14) hx hb hg i_X11 hown hK hP 0 rfl rfl 0 (by decide) (hg _ m_658) (fun _ h9 => h9) rfl dX11_feed_43 ?_
  refine lv_iload hx hb dX11_feed_46 (lv_at hl 4 rfl) ?_
  refine x_callVv (q := (RX9, TX9, 8)) (ci := 9) (q0 := 0) (wr := [(a0, .inr (11, [.ref ta0, w1, w2, w3, w4, w5, w6, w7, w8, w9, w10, w11, w12, w13]))]) (rest := []) ⟨hx, hb, hml, hown, hg, hl.1⟩ k_X11_96 (c_append l D cy ta0 ta1 tv1 tv3 tv4 tv5 tv6 tv7 ((((((0 + 4)) + 4)) + 4)) fb2_7 kd (by omega)) E0_blind hK hP hD hS hA [1, 2] [0] ⟨rfl, rfl, by decide, by decide, by decide⟩ rfl rfl (fun _ _ _ => trivial) dX11_feed_48 rfl rfl (Nat.le_of_ble_eq_true rfl) ⟨Nat.le_of_ble_eq_true rfl, Nat.le_of_ble_eq_true rfl⟩ ⟨Nat.le_of_ble_eq_true rfl, Nat.le_of_ble_eq_true rfl⟩ (fun u8 H locs hw8 hP hD hS => ?_)
  obtain ⟨fb2_9, rfl⟩ : ∃ z, z = u8 := ⟨_, rfl⟩
  have hP : va_P D vwCl [(a0, .inr (11, [.ref ta0, w1, w2, w3, w4, w5, w6, w7, w8, w9, w10, w11, w12, w13])), (ta0, .inr (9, [.ref ta1, tv1, .int (nI (((((((0 + 4)) + 4)) + 4)) + 4)), tv3, tv4, tv5, tv6, tv7])), (ta1, .inl (cy 0, 1600, .inl (fb2_9)))] H := hP
  have hD : va_D A [(a0, .inr (11, [.ref ta0, w1, w2, w3, w4, w5, w6, w7, w8, w9, w10, w11, w12, w13])), (ta0, .inr (9, [.ref ta1, tv1, .int (nI (((((((0 + 4)) + 4)) + 4)) + 4)), tv3, tv4, tv5, tv6, tv7])), (ta1, .inl (cy 0, 1600, .inl (fb2_9)))] := hD
  refine W.widen (k := 0) (n := 0) (Nat.le_of_ble_eq_true rfl) (Nat.le_of_ble_eq_true rfl) ?_
  refine lv_aload_n hx hb dX11_feed_51 rfl (lv_at hl 0 rfl) ?_
  refine va_get (D := D) (ci := 11) (v := .ref ta0) (C := RX11) (T := TX11) (N := 14) hx hb hg i_X11 hown hK hP 0 rfl rfl 0 (by decide) (hg _ m_658) (fun _ h9 => h9) rfl dX11_feed_52 ?_
  refine lv_iload hx hb dX11_feed_55 (lv_at hl 5 rfl) ?_
  refine x_callVv (q := (RX9, TX9, 8)) (ci := 9) (q0 := 0) (wr := [(a0, .inr (11, [.ref ta0, w1, w2, w3, w4, w5, w6, w7, w8, w9, w10, w11, w12, w13]))]) (rest := []) ⟨hx, hb, hml, hown, hg, hl.1⟩ k_X11_96 (c_append l D cy ta0 ta1 tv1 tv3 tv4 tv5 tv6 tv7 ((((((((0 + 4)) + 4)) + 4)) + 4)) fb2_9 ke (by omega)) E0_blind hK hP hD hS hA [1, 2] [0] ⟨rfl, rfl, by decide, by decide, by decide⟩ rfl rfl (fun _ _ _ => trivial) dX11_feed_57 rfl rfl (Nat.le_of_ble_eq_true rfl) ⟨Nat.le_of_ble_eq_true rfl, Nat.le_of_ble_eq_true rfl⟩ ⟨Nat.le_of_ble_eq_true rfl, Nat.le_of_ble_eq_true rfl⟩ (fun u10 H locs hw10 hP hD hS => ?_)
  obtain ⟨fb2_11, rfl⟩ : ∃ z, z = u10 := ⟨_, rfl⟩
  have hP : va_P D vwCl [(a0, .inr (11, [.ref ta0, w1, w2, w3, w4, w5, w6, w7, w8, w9, w10, w11, w12, w13])), (ta0, .inr (9, [.ref ta1, tv1, .int (nI (((((((((0 + 4)) + 4)) + 4)) + 4)) + 4)), tv3, tv4, tv5, tv6, tv7])), (ta1, .inl (cy 0, 1600, .inl (fb2_11)))] H := hP
  have hD : va_D A [(a0, .inr (11, [.ref ta0, w1, w2, w3, w4, w5, w6, w7, w8, w9, w10, w11, w12, w13])), (ta0, .inr (9, [.ref ta1, tv1, .int (nI (((((((((0 + 4)) + 4)) + 4)) + 4)) + 4)), tv3, tv4, tv5, tv6, tv7])), (ta1, .inl (cy 0, 1600, .inl (fb2_11)))] := hD
  refine W.widen (k := 0) (n := 0) (Nat.le_of_ble_eq_true rfl) (Nat.le_of_ble_eq_true rfl) ?_
  refine lv_aload_n hx hb dX11_feed_60 rfl (lv_at hl 0 rfl) ?_
  refine va_get (D := D) (ci := 11) (v := .ref ta0) (C := RX11) (T := TX11) (N := 14) hx hb hg i_X11 hown hK hP 0 rfl rfl 0 (by decide) (hg _ m_658) (fun _ h9 => h9) rfl dX11_feed_61 ?_
  refine va_get (D := D) (ci := 9) (v := .int (nI (((((((((0 + 4)) + 4)) + 4)) + 4)) + 4))) (C := RX9) (T := TX9) (N := 8) hx hb hg i_X9 hown hK hP 1 rfl rfl 2 (by decide) (hg _ m_217) (fun _ h9 => h9) rfl dX11_feed_64 ?_
  exact x_iret hQ hx hb hr hlocks hK hP hD hS dX11_feed_67 () (rfl) [] (by decide) rfl (Nat.le_of_ble_eq_true rfl) (Nat.le_of_ble_eq_true rfl)
theorem dX11_about_0 : decode cX11_about 0 = .ok (.iload_n 1, 1) := by decide +kernel
theorem dX11_about_1 : decode cX11_about 1 = .ok (.tableswitch 235 0 16 #[83, 93, 103, 113, 123, 131, 142, 153, 164, 173, 182, 190, 198, 206, 214, 222, 230], 83) := by decide +kernel
theorem dX11_about_236 : decode cX11_about 236 = .ok (.iconst (-1), 1) := by decide +kernel
theorem dX11_about_237 : decode cX11_about 237 = .ok (.ireturn, 1) := by decide +kernel
theorem dX11_about_84 : decode cX11_about 84 = .ok (.aload_n 0, 1) := by decide +kernel
theorem dX11_about_85 : decode cX11_about 85 = .ok (.getfield 28, 3) := by decide +kernel
theorem dX11_about_88 : decode cX11_about 88 = .ok (.getfield 111, 3) := by decide +kernel
theorem dX11_about_91 : decode cX11_about 91 = .ok (.iconst 1, 1) := by decide +kernel
theorem dX11_about_92 : decode cX11_about 92 = .ok (.iaload, 1) := by decide +kernel
theorem dX11_about_93 : decode cX11_about 93 = .ok (.ireturn, 1) := by decide +kernel
theorem dX11_about_94 : decode cX11_about 94 = .ok (.aload_n 0, 1) := by decide +kernel
theorem dX11_about_95 : decode cX11_about 95 = .ok (.getfield 28, 3) := by decide +kernel
theorem dX11_about_98 : decode cX11_about 98 = .ok (.getfield 111, 3) := by decide +kernel
theorem dX11_about_101 : decode cX11_about 101 = .ok (.iconst 0, 1) := by decide +kernel
theorem dX11_about_102 : decode cX11_about 102 = .ok (.iaload, 1) := by decide +kernel
theorem dX11_about_103 : decode cX11_about 103 = .ok (.ireturn, 1) := by decide +kernel
theorem dX11_about_104 : decode cX11_about 104 = .ok (.aload_n 0, 1) := by decide +kernel
theorem dX11_about_105 : decode cX11_about 105 = .ok (.getfield 28, 3) := by decide +kernel
theorem dX11_about_108 : decode cX11_about 108 = .ok (.getfield 111, 3) := by decide +kernel
theorem dX11_about_111 : decode cX11_about 111 = .ok (.iconst 2, 1) := by decide +kernel
theorem dX11_about_112 : decode cX11_about 112 = .ok (.iaload, 1) := by decide +kernel
theorem dX11_about_113 : decode cX11_about 113 = .ok (.ireturn, 1) := by decide +kernel
theorem dX11_about_114 : decode cX11_about 114 = .ok (.aload_n 0, 1) := by decide +kernel
theorem dX11_about_115 : decode cX11_about 115 = .ok (.getfield 28, 3) := by decide +kernel
theorem dX11_about_118 : decode cX11_about 118 = .ok (.getfield 111, 3) := by decide +kernel
theorem dX11_about_121 : decode cX11_about 121 = .ok (.iconst 3, 1) := by decide +kernel
theorem dX11_about_122 : decode cX11_about 122 = .ok (.iaload, 1) := by decide +kernel
theorem dX11_about_123 : decode cX11_about 123 = .ok (.ireturn, 1) := by decide +kernel
theorem dX11_about_124 : decode cX11_about 124 = .ok (.aload_n 0, 1) := by decide +kernel
theorem dX11_about_125 : decode cX11_about 125 = .ok (.getfield 28, 3) := by decide +kernel
theorem dX11_about_128 : decode cX11_about 128 = .ok (.getfield 304, 3) := by decide +kernel
theorem m_373 : (Cond.fieldLink RX11 304 "CliffJudges$Hills" "ons" "I") ∈ gT := gm 373 (by decide +kernel) (by decide +kernel)
theorem dX11_about_131 : decode cX11_about 131 = .ok (.ireturn, 1) := by decide +kernel
theorem dX11_about_132 : decode cX11_about 132 = .ok (.aload_n 0, 1) := by decide +kernel
theorem dX11_about_133 : decode cX11_about 133 = .ok (.getfield 38, 3) := by decide +kernel
theorem dX11_about_136 : decode cX11_about 136 = .ok (.getfield 127, 3) := by decide +kernel
theorem dX11_about_139 : decode cX11_about 139 = .ok (.bipush 22, 2) := by decide +kernel
theorem dX11_about_141 : decode cX11_about 141 = .ok (.iaload, 1) := by decide +kernel
theorem dX11_about_142 : decode cX11_about 142 = .ok (.ireturn, 1) := by decide +kernel
theorem dX11_about_143 : decode cX11_about 143 = .ok (.aload_n 0, 1) := by decide +kernel
theorem dX11_about_144 : decode cX11_about 144 = .ok (.getfield 38, 3) := by decide +kernel
theorem dX11_about_147 : decode cX11_about 147 = .ok (.getfield 127, 3) := by decide +kernel
theorem dX11_about_150 : decode cX11_about 150 = .ok (.bipush 23, 2) := by decide +kernel
theorem dX11_about_152 : decode cX11_about 152 = .ok (.iaload, 1) := by decide +kernel
theorem dX11_about_153 : decode cX11_about 153 = .ok (.ireturn, 1) := by decide +kernel
theorem dX11_about_154 : decode cX11_about 154 = .ok (.aload_n 0, 1) := by decide +kernel
theorem dX11_about_155 : decode cX11_about 155 = .ok (.getfield 38, 3) := by decide +kernel
theorem dX11_about_158 : decode cX11_about 158 = .ok (.getfield 127, 3) := by decide +kernel
theorem dX11_about_161 : decode cX11_about 161 = .ok (.bipush 24, 2) := by decide +kernel
theorem dX11_about_163 : decode cX11_about 163 = .ok (.iaload, 1) := by decide +kernel
theorem dX11_about_164 : decode cX11_about 164 = .ok (.ireturn, 1) := by decide +kernel
theorem dX11_about_165 : decode cX11_about 165 = .ok (.aload_n 0, 1) := by decide +kernel
theorem dX11_about_166 : decode cX11_about 166 = .ok (.getfield 38, 3) := by decide +kernel
theorem dX11_about_169 : decode cX11_about 169 = .ok (.iconst 0, 1) := by decide +kernel
theorem dX11_about_170 : decode cX11_about 170 = .ok (.invokevirtual 147, 3) := by decide +kernel
theorem dX11_about_173 : decode cX11_about 173 = .ok (.ireturn, 1) := by decide +kernel
theorem dX11_about_174 : decode cX11_about 174 = .ok (.aload_n 0, 1) := by decide +kernel
theorem dX11_about_175 : decode cX11_about 175 = .ok (.getfield 38, 3) := by decide +kernel
theorem dX11_about_178 : decode cX11_about 178 = .ok (.iconst 1, 1) := by decide +kernel
theorem dX11_about_179 : decode cX11_about 179 = .ok (.invokevirtual 147, 3) := by decide +kernel
theorem dX11_about_182 : decode cX11_about 182 = .ok (.ireturn, 1) := by decide +kernel
theorem dX11_about_183 : decode cX11_about 183 = .ok (.aload_n 0, 1) := by decide +kernel
theorem dX11_about_184 : decode cX11_about 184 = .ok (.getfield 38, 3) := by decide +kernel
theorem dX11_about_187 : decode cX11_about 187 = .ok (.getfield 307, 3) := by decide +kernel
theorem m_430 : (Cond.fieldLink RX11 307 "CliffJudges$Moments" "undoable" "I") ∈ gT := gm 430 (by decide +kernel) (by decide +kernel)
theorem dX11_about_190 : decode cX11_about 190 = .ok (.ireturn, 1) := by decide +kernel
theorem dX11_about_191 : decode cX11_about 191 = .ok (.aload_n 0, 1) := by decide +kernel
theorem dX11_about_192 : decode cX11_about 192 = .ok (.getfield 38, 3) := by decide +kernel
theorem dX11_about_195 : decode cX11_about 195 = .ok (.getfield 310, 3) := by decide +kernel
theorem m_432 : (Cond.fieldLink RX11 310 "CliffJudges$Moments" "redoable" "I") ∈ gT := gm 432 (by decide +kernel) (by decide +kernel)
theorem dX11_about_198 : decode cX11_about 198 = .ok (.ireturn, 1) := by decide +kernel
theorem dX11_about_199 : decode cX11_about 199 = .ok (.aload_n 0, 1) := by decide +kernel
theorem dX11_about_200 : decode cX11_about 200 = .ok (.getfield 45, 3) := by decide +kernel
theorem dX11_about_203 : decode cX11_about 203 = .ok (.getfield 313, 3) := by decide +kernel
theorem m_463 : (Cond.fieldLink RX11 313 "CliffJudges$Sounds" "count" "I") ∈ gT := gm 463 (by decide +kernel) (by decide +kernel)
theorem dX11_about_206 : decode cX11_about 206 = .ok (.ireturn, 1) := by decide +kernel
theorem dX11_about_207 : decode cX11_about 207 = .ok (.aload_n 0, 1) := by decide +kernel
theorem dX11_about_208 : decode cX11_about 208 = .ok (.getfield 45, 3) := by decide +kernel
theorem dX11_about_211 : decode cX11_about 211 = .ok (.getfield 268, 3) := by decide +kernel
theorem dX11_about_214 : decode cX11_about 214 = .ok (.ireturn, 1) := by decide +kernel
theorem dX11_about_215 : decode cX11_about 215 = .ok (.aload_n 0, 1) := by decide +kernel
theorem dX11_about_216 : decode cX11_about 216 = .ok (.getfield 10, 3) := by decide +kernel
theorem dX11_about_219 : decode cX11_about 219 = .ok (.getfield 93, 3) := by decide +kernel
theorem dX11_about_222 : decode cX11_about 222 = .ok (.ireturn, 1) := by decide +kernel
theorem dX11_about_223 : decode cX11_about 223 = .ok (.aload_n 0, 1) := by decide +kernel
theorem dX11_about_224 : decode cX11_about 224 = .ok (.getfield 28, 3) := by decide +kernel
theorem dX11_about_227 : decode cX11_about 227 = .ok (.getfield 316, 3) := by decide +kernel
theorem m_383 : (Cond.fieldLink RX11 316 "CliffJudges$Hills" "units" "I") ∈ gT := gm 383 (by decide +kernel) (by decide +kernel)
theorem dX11_about_230 : decode cX11_about 230 = .ok (.ireturn, 1) := by decide +kernel
theorem dX11_about_231 : decode cX11_about 231 = .ok (.aload_n 0, 1) := by decide +kernel
theorem dX11_about_232 : decode cX11_about 232 = .ok (.getfield 89, 3) := by decide +kernel
theorem dX11_about_235 : decode cX11_about 235 = .ok (.ireturn, 1) := by decide +kernel
set_option maxHeartbeats 400000 in
set_option maxRecDepth 100000 in
theorem t_about (l : Launch) (D : va_G) (cy : Nat → ClassId) (a0 : Nat) (w1 : Value) (w3 : Value) (w6 : Value) (w7 : Value) (w8 : Value) (w9 : Value) (w10 : Value) (w11 : Value) (w12 : Value) (h0 : Nat) (h1 : Nat) (v1 : Value) (v2 : Value) (v3 : Value) (v4 : Value) (v5 : Value) (v6 : Value) (v7 : Value) (v8 : Value) (v9 : Value) (v10 : Value) (v11 : Value) (v13 : Value) (v14 : Value) (n0 : Nat) (n1 : Nat) (n2 : Nat) (n3 : Nat) (z3 : Value) (z4 : Value) (so0 : Nat) (uv0 : Value) (uv1 : Value) (uv2 : Value) (uv3 : Value) (uv4 : Value) (uv5 : Value) (uv6 : Value) (uv7 : Value) (uv10 : Value) (uv11 : Value) (uv12 : Value) (ta0 : Nat) (tv0 : Value) (tv1 : Value) (tv3 : Value) (tv4 : Value) (tv5 : Value) (tv6 : Value) (tv7 : Value) (ka : Int32)  : XMi l D (tyL cy) E0 yX11_about cX11_about 2 (some .int) (rmk 2 0 0) [.ref a0, .int ka] [(a0, .inr (11, [.ref ta0, w1, .ref h0, w3, .ref n0, .ref so0, w6, w7, w8, w9, w10, w11, w12, .int 0])), (h0, .inr (4, [.ref h1, v1, v2, v3, v4, v5, v6, v7, v8, v9, v10, v11, .int 0, v13, v14, .int 0])), (h1, .inl (cy 1, 4, .inl (fun _ => 0))), (n0, .inr (5, [.ref n1, .ref n2, .ref n3, z3, z4, .int 0, .int 0])), (n1, .inl (cy 1, 41, .inl (fun _ => 0))), (so0, .inr (8, [uv0, uv1, uv2, uv3, uv4, uv5, uv6, uv7, .int 0, .int 0, uv10, uv11, uv12])), (ta0, .inr (9, [tv0, tv1, .int 0, tv3, tv4, tv5, tv6, tv7]))] (fun (r : Int32) (_ : Unit) => r = if 0 ≤ ka.toInt ∧ ka.toInt ≤ 16 then 0 else -1) (fun (_ : Unit) => []) := by
  refine XMi.start (by decide) (Nat.le_of_ble_eq_true rfl) ?_
  intro p e s m below meth c args A ls Q hat hQ
  obtain ⟨hx, hb, hr, hml, hown, hg, hlocks, hin, hK, hA, hP, hD, hS, hE, hl⟩ := hat
  have hown : s.vm.findClass RX11 = some m.cls := hown
  have hl : lv_has ls 2 [(0, .ref a0), (1, .int ka)] := hl
  refine lv_iload_n hx hb dX11_about_0 rfl (lv_at hl 1 rfl) ?_
  rcases sw_split ka 17 (by decide) with hs | ⟨j, hj, rfl⟩
  · refine lv_tableOut (tgt := 236) hx hb dX11_about_1 (by omega) (by decide) ?_
    refine lv_iconst (v := -1) hx hb dX11_about_236 (by decide) ?_
    exact x_iret hQ hx hb hr hlocks hK hP hD hS dX11_about_237 () ((if_neg (by omega)).symm) [] (by decide) rfl (Nat.le_of_ble_eq_true rfl) (Nat.le_of_ble_eq_true rfl)
  · rcases (show j = 0 ∨ j = 1 ∨ j = 2 ∨ j = 3 ∨ j = 4 ∨ j = 5 ∨ j = 6 ∨ j = 7 ∨ j = 8 ∨ j = 9 ∨ j = 10 ∨ j = 11 ∨ j = 12 ∨ j = 13 ∨ j = 14 ∨ j = 15 ∨ j = 16 by omega) with rfl | rfl | rfl | rfl | rfl | rfl | rfl | rfl | rfl | rfl | rfl | rfl | rfl | rfl | rfl | rfl | rfl
    · refine lv_tableIn (off := 83) (tgt := 84) hx hb dX11_about_1 (by decide) (by decide) (by decide) (by decide) ?_
      refine lv_aload_n hx hb dX11_about_84 rfl (lv_at hl 0 rfl) ?_
      refine va_get (D := D) (ci := 11) (v := .ref h0) (C := RX11) (T := TX11) (N := 14) hx hb hg i_X11 hown hK hP 0 rfl rfl 2 (by decide) (hg _ m_660) (fun _ h9 => h9) rfl dX11_about_85 ?_
      refine va_get (D := D) (ci := 4) (v := .ref h1) (C := RX4) (T := TX4) (N := 16) hx hb hg i_X4 hown hK hP 1 rfl rfl 0 (by decide) (hg _ m_335) (fun _ h9 => h9) rfl dX11_about_88 ?_
      refine lv_iconst (v := 1) hx hb dX11_about_91 (by decide) ?_
      refine va_iald hx hb hK hP 2 1 rfl rfl (by unfold vp_in; decide) dX11_about_92 ?_
      refine lv_topi (fun y_1 hy_1 => ?_)
      obtain rfl : y_1 = 0 := hy_1.trans (by decide +kernel)
      exact x_iret hQ hx hb hr hlocks hK hP hD hS dX11_about_93 () (by decide) [] (by decide) rfl (Nat.le_of_ble_eq_true rfl) (Nat.le_of_ble_eq_true rfl)
    · refine lv_tableIn (off := 93) (tgt := 94) hx hb dX11_about_1 (by decide) (by decide) (by decide) (by decide) ?_
      refine lv_aload_n hx hb dX11_about_94 rfl (lv_at hl 0 rfl) ?_
      refine va_get (D := D) (ci := 11) (v := .ref h0) (C := RX11) (T := TX11) (N := 14) hx hb hg i_X11 hown hK hP 0 rfl rfl 2 (by decide) (hg _ m_660) (fun _ h9 => h9) rfl dX11_about_95 ?_
      refine va_get (D := D) (ci := 4) (v := .ref h1) (C := RX4) (T := TX4) (N := 16) hx hb hg i_X4 hown hK hP 1 rfl rfl 0 (by decide) (hg _ m_335) (fun _ h9 => h9) rfl dX11_about_98 ?_
      refine lv_iconst (v := 0) hx hb dX11_about_101 (by decide) ?_
      refine va_iald hx hb hK hP 2 1 rfl rfl (by unfold vp_in; decide) dX11_about_102 ?_
      refine lv_topi (fun y_2 hy_2 => ?_)
      obtain rfl : y_2 = 0 := hy_2.trans (by decide +kernel)
      exact x_iret hQ hx hb hr hlocks hK hP hD hS dX11_about_103 () (by decide) [] (by decide) rfl (Nat.le_of_ble_eq_true rfl) (Nat.le_of_ble_eq_true rfl)
    · refine lv_tableIn (off := 103) (tgt := 104) hx hb dX11_about_1 (by decide) (by decide) (by decide) (by decide) ?_
      refine lv_aload_n hx hb dX11_about_104 rfl (lv_at hl 0 rfl) ?_
      refine va_get (D := D) (ci := 11) (v := .ref h0) (C := RX11) (T := TX11) (N := 14) hx hb hg i_X11 hown hK hP 0 rfl rfl 2 (by decide) (hg _ m_660) (fun _ h9 => h9) rfl dX11_about_105 ?_
      refine va_get (D := D) (ci := 4) (v := .ref h1) (C := RX4) (T := TX4) (N := 16) hx hb hg i_X4 hown hK hP 1 rfl rfl 0 (by decide) (hg _ m_335) (fun _ h9 => h9) rfl dX11_about_108 ?_
      refine lv_iconst (v := 2) hx hb dX11_about_111 (by decide) ?_
      refine va_iald hx hb hK hP 2 1 rfl rfl (by unfold vp_in; decide) dX11_about_112 ?_
      refine lv_topi (fun y_3 hy_3 => ?_)
      obtain rfl : y_3 = 0 := hy_3.trans (by decide +kernel)
      exact x_iret hQ hx hb hr hlocks hK hP hD hS dX11_about_113 () (by decide) [] (by decide) rfl (Nat.le_of_ble_eq_true rfl) (Nat.le_of_ble_eq_true rfl)
    · refine lv_tableIn (off := 113) (tgt := 114) hx hb dX11_about_1 (by decide) (by decide) (by decide) (by decide) ?_
      refine lv_aload_n hx hb dX11_about_114 rfl (lv_at hl 0 rfl) ?_
      refine va_get (D := D) (ci := 11) (v := .ref h0) (C := RX11) (T := TX11) (N := 14) hx hb hg i_X11 hown hK hP 0 rfl rfl 2 (by decide) (hg _ m_660) (fun _ h9 => h9) rfl dX11_about_115 ?_
      refine va_get (D := D) (ci := 4) (v := .ref h1) (C := RX4) (T := TX4) (N := 16) hx hb hg i_X4 hown hK hP 1 rfl rfl 0 (by decide) (hg _ m_335) (fun _ h9 => h9) rfl dX11_about_118 ?_
      refine lv_iconst (v := 3) hx hb dX11_about_121 (by decide) ?_
      refine va_iald hx hb hK hP 2 1 rfl rfl (by unfold vp_in; decide) dX11_about_122 ?_
      refine lv_topi (fun y_4 hy_4 => ?_)
      obtain rfl : y_4 = 0 := hy_4.trans (by decide +kernel)
      exact x_iret hQ hx hb hr hlocks hK hP hD hS dX11_about_123 () (by decide) [] (by decide) rfl (Nat.le_of_ble_eq_true rfl) (Nat.le_of_ble_eq_true rfl)
    · refine lv_tableIn (off := 123) (tgt := 124) hx hb dX11_about_1 (by decide) (by decide) (by decide) (by decide) ?_
      refine lv_aload_n hx hb dX11_about_124 rfl (lv_at hl 0 rfl) ?_
      refine va_get (D := D) (ci := 11) (v := .ref h0) (C := RX11) (T := TX11) (N := 14) hx hb hg i_X11 hown hK hP 0 rfl rfl 2 (by decide) (hg _ m_660) (fun _ h9 => h9) rfl dX11_about_125 ?_
      refine va_get (D := D) (ci := 4) (v := .int 0) (C := RX4) (T := TX4) (N := 16) hx hb hg i_X4 hown hK hP 1 rfl rfl 12 (by decide) (hg _ m_373) (fun _ h9 => h9) rfl dX11_about_128 ?_
      exact x_iret hQ hx hb hr hlocks hK hP hD hS dX11_about_131 () (by decide) [] (by decide) rfl (Nat.le_of_ble_eq_true rfl) (Nat.le_of_ble_eq_true rfl)
    · refine lv_tableIn (off := 131) (tgt := 132) hx hb dX11_about_1 (by decide) (by decide) (by decide) (by decide) ?_
      refine lv_aload_n hx hb dX11_about_132 rfl (lv_at hl 0 rfl) ?_
      refine va_get (D := D) (ci := 11) (v := .ref n0) (C := RX11) (T := TX11) (N := 14) hx hb hg i_X11 hown hK hP 0 rfl rfl 4 (by decide) (hg _ m_662) (fun _ h9 => h9) rfl dX11_about_133 ?_
      refine va_get (D := D) (ci := 5) (v := .ref n1) (C := RX5) (T := TX5) (N := 7) hx hb hg i_X5 hown hK hP 3 rfl rfl 0 (by decide) (hg _ m_424) (fun _ h9 => h9) rfl dX11_about_136 ?_
      refine lv_bipush (v := 22) hx hb dX11_about_139 (by decide) ?_
      refine va_iald hx hb hK hP 4 1 rfl rfl (by unfold vp_in; decide) dX11_about_141 ?_
      refine lv_topi (fun y_5 hy_5 => ?_)
      obtain rfl : y_5 = 0 := hy_5.trans (by decide +kernel)
      exact x_iret hQ hx hb hr hlocks hK hP hD hS dX11_about_142 () (by decide) [] (by decide) rfl (Nat.le_of_ble_eq_true rfl) (Nat.le_of_ble_eq_true rfl)
    · refine lv_tableIn (off := 142) (tgt := 143) hx hb dX11_about_1 (by decide) (by decide) (by decide) (by decide) ?_
      refine lv_aload_n hx hb dX11_about_143 rfl (lv_at hl 0 rfl) ?_
      refine va_get (D := D) (ci := 11) (v := .ref n0) (C := RX11) (T := TX11) (N := 14) hx hb hg i_X11 hown hK hP 0 rfl rfl 4 (by decide) (hg _ m_662) (fun _ h9 => h9) rfl dX11_about_144 ?_
      refine va_get (D := D) (ci := 5) (v := .ref n1) (C := RX5) (T := TX5) (N := 7) hx hb hg i_X5 hown hK hP 3 rfl rfl 0 (by decide) (hg _ m_424) (fun _ h9 => h9) rfl dX11_about_147 ?_
      refine lv_bipush (v := 23) hx hb dX11_about_150 (by decide) ?_
      refine va_iald hx hb hK hP 4 1 rfl rfl (by unfold vp_in; decide) dX11_about_152 ?_
      refine lv_topi (fun y_6 hy_6 => ?_)
      obtain rfl : y_6 = 0 := hy_6.trans (by decide +kernel)
      exact x_iret hQ hx hb hr hlocks hK hP hD hS dX11_about_153 () (by decide) [] (by decide) rfl (Nat.le_of_ble_eq_true rfl) (Nat.le_of_ble_eq_true rfl)
    · refine lv_tableIn (off := 153) (tgt := 154) hx hb dX11_about_1 (by decide) (by decide) (by decide) (by decide) ?_
      refine lv_aload_n hx hb dX11_about_154 rfl (lv_at hl 0 rfl) ?_
      refine va_get (D := D) (ci := 11) (v := .ref n0) (C := RX11) (T := TX11) (N := 14) hx hb hg i_X11 hown hK hP 0 rfl rfl 4 (by decide) (hg _ m_662) (fun _ h9 => h9) rfl dX11_about_155 ?_
      refine va_get (D := D) (ci := 5) (v := .ref n1) (C := RX5) (T := TX5) (N := 7) hx hb hg i_X5 hown hK hP 3 rfl rfl 0 (by decide) (hg _ m_424) (fun _ h9 => h9) rfl dX11_about_158 ?_
      refine lv_bipush (v := 24) hx hb dX11_about_161 (by decide) ?_
      refine va_iald hx hb hK hP 4 1 rfl rfl (by unfold vp_in; decide) dX11_about_163 ?_
      refine lv_topi (fun y_7 hy_7 => ?_)
      obtain rfl : y_7 = 0 := hy_7.trans (by decide +kernel)
      exact x_iret hQ hx hb hr hlocks hK hP hD hS dX11_about_164 () (by decide) [] (by decide) rfl (Nat.le_of_ble_eq_true rfl) (Nat.le_of_ble_eq_true rfl)
    · refine lv_tableIn (off := 164) (tgt := 165) hx hb dX11_about_1 (by decide) (by decide) (by decide) (by decide) ?_
      refine lv_aload_n hx hb dX11_about_165 rfl (lv_at hl 0 rfl) ?_
      refine va_get (D := D) (ci := 11) (v := .ref n0) (C := RX11) (T := TX11) (N := 14) hx hb hg i_X11 hown hK hP 0 rfl rfl 4 (by decide) (hg _ m_662) (fun _ h9 => h9) rfl dX11_about_166 ?_
      refine lv_iconst (v := 0) hx hb dX11_about_169 (by decide) ?_
      refine x_callVi (q := (RX5, TX5, 7)) (ci := 5) (q0 := 0) (wr := [(a0, .inr (11, [.ref ta0, w1, .ref h0, w3, .ref n0, .ref so0, w6, w7, w8, w9, w10, w11, w12, .int 0])), (h0, .inr (4, [.ref h1, v1, v2, v3, v4, v5, v6, v7, v8, v9, v10, v11, .int 0, v13, v14, .int 0])), (h1, .inl (cy 1, 4, .inl (fun _ => 0))), (so0, .inr (8, [uv0, uv1, uv2, uv3, uv4, uv5, uv6, uv7, .int 0, .int 0, uv10, uv11, uv12])), (ta0, .inr (9, [tv0, tv1, .int 0, tv3, tv4, tv5, tv6, tv7]))]) (rest := []) ⟨hx, hb, hml, hown, hg, hl.1⟩ k_X11_147 (c_cryLength l D cy n0 n1 n2 n3 z3 z4 ((.int 0)) ((.int 0)) 0 (by unfold vp_in; decide)) E0_blind hK hP hD hS hA [3, 4] [0, 1, 2, 5, 6] ⟨rfl, rfl, by decide, by decide, by decide⟩ rfl rfl (fun _ _ _ => trivial) dX11_about_170 rfl rfl (Nat.le_of_ble_eq_true rfl) ⟨Nat.le_of_ble_eq_true rfl, Nat.le_of_ble_eq_true rfl⟩ ⟨Nat.le_of_ble_eq_true rfl, Nat.le_of_ble_eq_true rfl⟩ (fun r8 u8 H locs hw8 hP hD hS => ?_)
      have hP : va_P D vwCl [(a0, .inr (11, [.ref ta0, w1, .ref h0, w3, .ref n0, .ref so0, w6, w7, w8, w9, w10, w11, w12, .int 0])), (h0, .inr (4, [.ref h1, v1, v2, v3, v4, v5, v6, v7, v8, v9, v10, v11, .int 0, v13, v14, .int 0])), (h1, .inl (cy 1, 4, .inl (fun _ => 0))), (so0, .inr (8, [uv0, uv1, uv2, uv3, uv4, uv5, uv6, uv7, .int 0, .int 0, uv10, uv11, uv12])), (ta0, .inr (9, [tv0, tv1, .int 0, tv3, tv4, tv5, tv6, tv7])), (n0, .inr (5, [.ref n1, .ref n2, .ref n3, z3, z4, .int 0, .int 0])), (n1, .inl (cy 1, 41, .inl (fun _ => 0)))] H := hP
      have hD : va_D A [(a0, .inr (11, [.ref ta0, w1, .ref h0, w3, .ref n0, .ref so0, w6, w7, w8, w9, w10, w11, w12, .int 0])), (h0, .inr (4, [.ref h1, v1, v2, v3, v4, v5, v6, v7, v8, v9, v10, v11, .int 0, v13, v14, .int 0])), (h1, .inl (cy 1, 4, .inl (fun _ => 0))), (so0, .inr (8, [uv0, uv1, uv2, uv3, uv4, uv5, uv6, uv7, .int 0, .int 0, uv10, uv11, uv12])), (ta0, .inr (9, [tv0, tv1, .int 0, tv3, tv4, tv5, tv6, tv7])), (n0, .inr (5, [.ref n1, .ref n2, .ref n3, z3, z4, .int 0, .int 0])), (n1, .inl (cy 1, 41, .inl (fun _ => 0)))] := hD
      refine W.widen (k := 0) (n := 0) (Nat.le_of_ble_eq_true rfl) (Nat.le_of_ble_eq_true rfl) ?_
      have hw8 : r8 = 0 := hw8
      subst hw8
      exact x_iret hQ hx hb hr hlocks hK hP hD hS dX11_about_173 () (by decide) [] (by decide) rfl (Nat.le_of_ble_eq_true rfl) (Nat.le_of_ble_eq_true rfl)
    · refine lv_tableIn (off := 173) (tgt := 174) hx hb dX11_about_1 (by decide) (by decide) (by decide) (by decide) ?_
      refine lv_aload_n hx hb dX11_about_174 rfl (lv_at hl 0 rfl) ?_
      refine va_get (D := D) (ci := 11) (v := .ref n0) (C := RX11) (T := TX11) (N := 14) hx hb hg i_X11 hown hK hP 0 rfl rfl 4 (by decide) (hg _ m_662) (fun _ h9 => h9) rfl dX11_about_175 ?_
      refine lv_iconst (v := 1) hx hb dX11_about_178 (by decide) ?_
      refine x_callVi (q := (RX5, TX5, 7)) (ci := 5) (q0 := 0) (wr := [(a0, .inr (11, [.ref ta0, w1, .ref h0, w3, .ref n0, .ref so0, w6, w7, w8, w9, w10, w11, w12, .int 0])), (h0, .inr (4, [.ref h1, v1, v2, v3, v4, v5, v6, v7, v8, v9, v10, v11, .int 0, v13, v14, .int 0])), (h1, .inl (cy 1, 4, .inl (fun _ => 0))), (so0, .inr (8, [uv0, uv1, uv2, uv3, uv4, uv5, uv6, uv7, .int 0, .int 0, uv10, uv11, uv12])), (ta0, .inr (9, [tv0, tv1, .int 0, tv3, tv4, tv5, tv6, tv7]))]) (rest := []) ⟨hx, hb, hml, hown, hg, hl.1⟩ k_X11_147 (c_cryLength l D cy n0 n1 n2 n3 z3 z4 ((.int 0)) ((.int 0)) 1 (by unfold vp_in; decide)) E0_blind hK hP hD hS hA [3, 4] [0, 1, 2, 5, 6] ⟨rfl, rfl, by decide, by decide, by decide⟩ rfl rfl (fun _ _ _ => trivial) dX11_about_179 rfl rfl (Nat.le_of_ble_eq_true rfl) ⟨Nat.le_of_ble_eq_true rfl, Nat.le_of_ble_eq_true rfl⟩ ⟨Nat.le_of_ble_eq_true rfl, Nat.le_of_ble_eq_true rfl⟩ (fun r9 u9 H locs hw9 hP hD hS => ?_)
      have hP : va_P D vwCl [(a0, .inr (11, [.ref ta0, w1, .ref h0, w3, .ref n0, .ref so0, w6, w7, w8, w9, w10, w11, w12, .int 0])), (h0, .inr (4, [.ref h1, v1, v2, v3, v4, v5, v6, v7, v8, v9, v10, v11, .int 0, v13, v14, .int 0])), (h1, .inl (cy 1, 4, .inl (fun _ => 0))), (so0, .inr (8, [uv0, uv1, uv2, uv3, uv4, uv5, uv6, uv7, .int 0, .int 0, uv10, uv11, uv12])), (ta0, .inr (9, [tv0, tv1, .int 0, tv3, tv4, tv5, tv6, tv7])), (n0, .inr (5, [.ref n1, .ref n2, .ref n3, z3, z4, .int 0, .int 0])), (n1, .inl (cy 1, 41, .inl (fun _ => 0)))] H := hP
      have hD : va_D A [(a0, .inr (11, [.ref ta0, w1, .ref h0, w3, .ref n0, .ref so0, w6, w7, w8, w9, w10, w11, w12, .int 0])), (h0, .inr (4, [.ref h1, v1, v2, v3, v4, v5, v6, v7, v8, v9, v10, v11, .int 0, v13, v14, .int 0])), (h1, .inl (cy 1, 4, .inl (fun _ => 0))), (so0, .inr (8, [uv0, uv1, uv2, uv3, uv4, uv5, uv6, uv7, .int 0, .int 0, uv10, uv11, uv12])), (ta0, .inr (9, [tv0, tv1, .int 0, tv3, tv4, tv5, tv6, tv7])), (n0, .inr (5, [.ref n1, .ref n2, .ref n3, z3, z4, .int 0, .int 0])), (n1, .inl (cy 1, 41, .inl (fun _ => 0)))] := hD
      refine W.widen (k := 0) (n := 0) (Nat.le_of_ble_eq_true rfl) (Nat.le_of_ble_eq_true rfl) ?_
      have hw9 : r9 = 0 := hw9
      subst hw9
      exact x_iret hQ hx hb hr hlocks hK hP hD hS dX11_about_182 () (by decide) [] (by decide) rfl (Nat.le_of_ble_eq_true rfl) (Nat.le_of_ble_eq_true rfl)
    · refine lv_tableIn (off := 182) (tgt := 183) hx hb dX11_about_1 (by decide) (by decide) (by decide) (by decide) ?_
      refine lv_aload_n hx hb dX11_about_183 rfl (lv_at hl 0 rfl) ?_
      refine va_get (D := D) (ci := 11) (v := .ref n0) (C := RX11) (T := TX11) (N := 14) hx hb hg i_X11 hown hK hP 0 rfl rfl 4 (by decide) (hg _ m_662) (fun _ h9 => h9) rfl dX11_about_184 ?_
      refine va_get (D := D) (ci := 5) (v := .int 0) (C := RX5) (T := TX5) (N := 7) hx hb hg i_X5 hown hK hP 3 rfl rfl 5 (by decide) (hg _ m_430) (fun _ h9 => h9) rfl dX11_about_187 ?_
      exact x_iret hQ hx hb hr hlocks hK hP hD hS dX11_about_190 () (by decide) [] (by decide) rfl (Nat.le_of_ble_eq_true rfl) (Nat.le_of_ble_eq_true rfl)
    · refine lv_tableIn (off := 190) (tgt := 191) hx hb dX11_about_1 (by decide) (by decide) (by decide) (by decide) ?_
      refine lv_aload_n hx hb dX11_about_191 rfl (lv_at hl 0 rfl) ?_
      refine va_get (D := D) (ci := 11) (v := .ref n0) (C := RX11) (T := TX11) (N := 14) hx hb hg i_X11 hown hK hP 0 rfl rfl 4 (by decide) (hg _ m_662) (fun _ h9 => h9) rfl dX11_about_192 ?_
      refine va_get (D := D) (ci := 5) (v := .int 0) (C := RX5) (T := TX5) (N := 7) hx hb hg i_X5 hown hK hP 3 rfl rfl 6 (by decide) (hg _ m_432) (fun _ h9 => h9) rfl dX11_about_195 ?_
      exact x_iret hQ hx hb hr hlocks hK hP hD hS dX11_about_198 () (by decide) [] (by decide) rfl (Nat.le_of_ble_eq_true rfl) (Nat.le_of_ble_eq_true rfl)
    · refine lv_tableIn (off := 198) (tgt := 199) hx hb dX11_about_1 (by decide) (by decide) (by decide) (by decide) ?_
      refine lv_aload_n hx hb dX11_about_199 rfl (lv_at hl 0 rfl) ?_
      refine va_get (D := D) (ci := 11) (v := .ref so0) (C := RX11) (T := TX11) (N := 14) hx hb hg i_X11 hown hK hP 0 rfl rfl 5 (by decide) (hg _ m_663) (fun _ h9 => h9) rfl dX11_about_200 ?_
      refine va_get (D := D) (ci := 8) (v := .int 0) (C := RX8) (T := TX8) (N := 13) hx hb hg i_X8 hown hK hP 5 rfl rfl 8 (by decide) (hg _ m_463) (fun _ h9 => h9) rfl dX11_about_203 ?_
      exact x_iret hQ hx hb hr hlocks hK hP hD hS dX11_about_206 () (by decide) [] (by decide) rfl (Nat.le_of_ble_eq_true rfl) (Nat.le_of_ble_eq_true rfl)
    · refine lv_tableIn (off := 206) (tgt := 207) hx hb dX11_about_1 (by decide) (by decide) (by decide) (by decide) ?_
      refine lv_aload_n hx hb dX11_about_207 rfl (lv_at hl 0 rfl) ?_
      refine va_get (D := D) (ci := 11) (v := .ref so0) (C := RX11) (T := TX11) (N := 14) hx hb hg i_X11 hown hK hP 0 rfl rfl 5 (by decide) (hg _ m_663) (fun _ h9 => h9) rfl dX11_about_208 ?_
      refine va_get (D := D) (ci := 8) (v := .int 0) (C := RX8) (T := TX8) (N := 13) hx hb hg i_X8 hown hK hP 5 rfl rfl 9 (by decide) (hg _ m_465) (fun _ h9 => h9) rfl dX11_about_211 ?_
      exact x_iret hQ hx hb hr hlocks hK hP hD hS dX11_about_214 () (by decide) [] (by decide) rfl (Nat.le_of_ble_eq_true rfl) (Nat.le_of_ble_eq_true rfl)
    · refine lv_tableIn (off := 214) (tgt := 215) hx hb dX11_about_1 (by decide) (by decide) (by decide) (by decide) ?_
      refine lv_aload_n hx hb dX11_about_215 rfl (lv_at hl 0 rfl) ?_
      refine va_get (D := D) (ci := 11) (v := .ref ta0) (C := RX11) (T := TX11) (N := 14) hx hb hg i_X11 hown hK hP 0 rfl rfl 0 (by decide) (hg _ m_658) (fun _ h9 => h9) rfl dX11_about_216 ?_
      refine va_get (D := D) (ci := 9) (v := .int 0) (C := RX9) (T := TX9) (N := 8) hx hb hg i_X9 hown hK hP 6 rfl rfl 2 (by decide) (hg _ m_217) (fun _ h9 => h9) rfl dX11_about_219 ?_
      exact x_iret hQ hx hb hr hlocks hK hP hD hS dX11_about_222 () (by decide) [] (by decide) rfl (Nat.le_of_ble_eq_true rfl) (Nat.le_of_ble_eq_true rfl)
    · refine lv_tableIn (off := 222) (tgt := 223) hx hb dX11_about_1 (by decide) (by decide) (by decide) (by decide) ?_
      refine lv_aload_n hx hb dX11_about_223 rfl (lv_at hl 0 rfl) ?_
      refine va_get (D := D) (ci := 11) (v := .ref h0) (C := RX11) (T := TX11) (N := 14) hx hb hg i_X11 hown hK hP 0 rfl rfl 2 (by decide) (hg _ m_660) (fun _ h9 => h9) rfl dX11_about_224 ?_
      refine va_get (D := D) (ci := 4) (v := .int 0) (C := RX4) (T := TX4) (N := 16) hx hb hg i_X4 hown hK hP 1 rfl rfl 15 (by decide) (hg _ m_383) (fun _ h9 => h9) rfl dX11_about_227 ?_
      exact x_iret hQ hx hb hr hlocks hK hP hD hS dX11_about_230 () (by decide) [] (by decide) rfl (Nat.le_of_ble_eq_true rfl) (Nat.le_of_ble_eq_true rfl)
    · refine lv_tableIn (off := 230) (tgt := 231) hx hb dX11_about_1 (by decide) (by decide) (by decide) (by decide) ?_
      refine lv_aload_n hx hb dX11_about_231 rfl (lv_at hl 0 rfl) ?_
      refine va_get (D := D) (ci := 11) (v := .int 0) (C := RX11) (T := TX11) (N := 14) hx hb hg i_X11 hown hK hP 0 rfl rfl 13 (by decide) (hg _ m_671) (fun _ h9 => h9) rfl dX11_about_232 ?_
      exact x_iret hQ hx hb hr hlocks hK hP hD hS dX11_about_235 () (by decide) [] (by decide) rfl (Nat.le_of_ble_eq_true rfl) (Nat.le_of_ble_eq_true rfl)
theorem dX5_keepAct_0 : decode cX5_keepAct 0 = .ok (.aload_n 0, 1) := by decide +kernel
theorem dX5_keepAct_1 : decode cX5_keepAct 1 = .ok (.aload_n 0, 1) := by decide +kernel
theorem dX5_keepAct_2 : decode cX5_keepAct 2 = .ok (.getfield 42, 3) := by decide +kernel
theorem m_428 : (Cond.fieldLink RX5 42 "CliffJudges$Moments" "current" "I") ∈ gT := gm 428 (by decide +kernel) (by decide +kernel)
theorem dX5_keepAct_5 : decode cX5_keepAct 5 = .ok (.iconst 1, 1) := by decide +kernel
theorem dX5_keepAct_6 : decode cX5_keepAct 6 = .ok (.iadd, 1) := by decide +kernel
theorem dX5_keepAct_7 : decode cX5_keepAct 7 = .ok (.bipush 41, 2) := by decide +kernel
theorem dX5_keepAct_9 : decode cX5_keepAct 9 = .ok (.irem, 1) := by decide +kernel
theorem dX5_keepAct_10 : decode cX5_keepAct 10 = .ok (.putfield 42, 3) := by decide +kernel
theorem dX5_keepAct_13 : decode cX5_keepAct 13 = .ok (.aload_n 0, 1) := by decide +kernel
theorem dX5_keepAct_14 : decode cX5_keepAct 14 = .ok (.aload_n 0, 1) := by decide +kernel
theorem dX5_keepAct_15 : decode cX5_keepAct 15 = .ok (.getfield 45, 3) := by decide +kernel
theorem dX5_keepAct_18 : decode cX5_keepAct 18 = .ok (.iconst 1, 1) := by decide +kernel
theorem dX5_keepAct_19 : decode cX5_keepAct 19 = .ok (.iadd, 1) := by decide +kernel
theorem dX5_keepAct_20 : decode cX5_keepAct 20 = .ok (.bipush 40, 2) := by decide +kernel
theorem dX5_keepAct_22 : decode cX5_keepAct 22 = .ok (.invokestatic 57, 3) := by decide +kernel
theorem m_984 : (Cond.methodLink RX5 57 yJ9_min_7cf53) ∈ gT := gm 984 (by decide +kernel) (by decide +kernel)
theorem m_770 : (Cond.static yJ9_min_7cf53) ∈ gT := gm 770 (by decide +kernel) (by decide +kernel)
theorem m_147 : (Cond.initialized RJ9) ∈ gT := gm 147 (by decide +kernel) (by decide +kernel)
theorem m_771 : (Cond.code yJ9_min_7cf53 cJ9_min_7cf53 2 (some .int)) ∈ gT := gm 771 (by decide +kernel) (by decide +kernel)
theorem dX5_keepAct_25 : decode cX5_keepAct 25 = .ok (.putfield 45, 3) := by decide +kernel
theorem dX5_keepAct_28 : decode cX5_keepAct 28 = .ok (.aload_n 0, 1) := by decide +kernel
theorem dX5_keepAct_29 : decode cX5_keepAct 29 = .ok (.iconst 0, 1) := by decide +kernel
theorem dX5_keepAct_30 : decode cX5_keepAct 30 = .ok (.putfield 48, 3) := by decide +kernel
theorem dX5_keepAct_33 : decode cX5_keepAct 33 = .ok (.aload_n 0, 1) := by decide +kernel
theorem dX5_keepAct_34 : decode cX5_keepAct 34 = .ok (.getfield 11, 3) := by decide +kernel
theorem dX5_keepAct_37 : decode cX5_keepAct 37 = .ok (.iconst 0, 1) := by decide +kernel
theorem dX5_keepAct_38 : decode cX5_keepAct 38 = .ok (.aload_n 0, 1) := by decide +kernel
theorem dX5_keepAct_39 : decode cX5_keepAct 39 = .ok (.getfield 15, 3) := by decide +kernel
theorem m_425 : (Cond.fieldLink RX5 15 "CliffJudges$Moments" "rows" "[I") ∈ gT := gm 425 (by decide +kernel) (by decide +kernel)
theorem dX5_keepAct_42 : decode cX5_keepAct 42 = .ok (.aload_n 0, 1) := by decide +kernel
theorem dX5_keepAct_43 : decode cX5_keepAct 43 = .ok (.getfield 42, 3) := by decide +kernel
theorem dX5_keepAct_46 : decode cX5_keepAct 46 = .ok (.bipush 41, 2) := by decide +kernel
theorem dX5_keepAct_48 : decode cX5_keepAct 48 = .ok (.imul, 1) := by decide +kernel
theorem dX5_keepAct_49 : decode cX5_keepAct 49 = .ok (.bipush 41, 2) := by decide +kernel
theorem dX5_keepAct_51 : decode cX5_keepAct 51 = .ok (.invokestatic 51, 3) := by decide +kernel
theorem dX5_keepAct_54 : decode cX5_keepAct 54 = .ok (.return_, 1) := by decide +kernel
set_option maxHeartbeats 400000 in
set_option maxRecDepth 100000 in
theorem c_keepAct (l : Launch) (D : va_G) (cy : Nat → ClassId) (n0 : Nat) (n1 : Nat) (n2 : Nat) (n3 : Nat) (z3 : Value) (z6 : Value) (fn : Nat → Int32) (fr : Nat → Int32)  : XMv l D (tyL cy) E0 yX5_keepAct cX5_keepAct 1 none (rmk 1 0 0) [.ref n0] [(n0, .inr (5, [.ref n1, .ref n2, .ref n3, z3, .int 0, .int 0, z6])), (n1, .inl (cy 1, 41, .inl (fn))), (n2, .inl (cy 1, 1681, .inl (fr)))] (fun (fr2 : Nat → Int32) => True) (fun (fr2 : Nat → Int32) => [(n0, .inr (5, [.ref n1, .ref n2, .ref n3, z3, .int 1, .int 1, .int 0])), (n1, .inl (cy 1, 41, .inl (fn))), (n2, .inl (cy 1, 1681, .inl (fr2)))]) := by
  refine XMv.start (by decide) (Nat.le_of_ble_eq_true rfl) ?_
  intro p e s m below meth c args A ls Q hat hQ
  obtain ⟨hx, hb, hr, hml, hown, hg, hlocks, hin, hK, hA, hP, hD, hS, hE, hl⟩ := hat
  have hown : s.vm.findClass RX5 = some m.cls := hown
  have hl : lv_has ls 1 [(0, .ref n0)] := hl
  refine lv_aload_n hx hb dX5_keepAct_0 rfl (lv_at hl 0 rfl) ?_
  refine lv_aload_n hx hb dX5_keepAct_1 rfl (lv_at hl 0 rfl) ?_
  refine va_get (D := D) (ci := 5) (v := .int 0) (C := RX5) (T := TX5) (N := 7) hx hb hg i_X5 hown hK hP 0 rfl rfl 4 (by decide) (hg _ m_428) (fun _ h9 => h9) rfl dX5_keepAct_2 ?_
  refine lv_iconst (v := 1) hx hb dX5_keepAct_5 (by decide) ?_
  refine lv_iadd hx hb dX5_keepAct_6 ?_
  refine lv_topi (fun y_1 hy_1 => ?_)
  obtain rfl : y_1 = 1 := hy_1.trans (by decide +kernel)
  refine lv_bipush (v := 41) hx hb dX5_keepAct_7 (by decide) ?_
  refine lv_irem hx hb dX5_keepAct_9 (by decide) ?_
  refine lv_topi (fun y_2 hy_2 => ?_)
  obtain rfl : y_2 = 1 := hy_2.trans (by decide +kernel)
  refine va_put (D := D) (ci := 5) (v := .int 1) (ty := .int) (C := RX5) (T := TX5) (N := 7) hx hb hg i_X5 tyX5 tyX5_ok nmX5 hown hK hP hD hS 0 rfl rfl 4 (by decide) (hg _ m_428) (fun _ h9 => h9) rfl (by decide +kernel) rfl rfl (Nat.le_of_ble_eq_true rfl) dX5_keepAct_10 (fun H locs hP hD hS => ?_)
  have hP : va_P D vwCl [(n0, .inr (5, [.ref n1, .ref n2, .ref n3, z3, .int 1, .int 0, z6])), (n1, .inl (cy 1, 41, .inl (fn))), (n2, .inl (cy 1, 1681, .inl (fr)))] H := hP
  have hD : va_D A [(n0, .inr (5, [.ref n1, .ref n2, .ref n3, z3, .int 1, .int 0, z6])), (n1, .inl (cy 1, 41, .inl (fn))), (n2, .inl (cy 1, 1681, .inl (fr)))] := hD
  refine lv_aload_n hx hb dX5_keepAct_13 rfl (lv_at hl 0 rfl) ?_
  refine lv_aload_n hx hb dX5_keepAct_14 rfl (lv_at hl 0 rfl) ?_
  refine va_get (D := D) (ci := 5) (v := .int 0) (C := RX5) (T := TX5) (N := 7) hx hb hg i_X5 hown hK hP 0 rfl rfl 5 (by decide) (hg _ m_429) (fun _ h9 => h9) rfl dX5_keepAct_15 ?_
  refine lv_iconst (v := 1) hx hb dX5_keepAct_18 (by decide) ?_
  refine lv_iadd hx hb dX5_keepAct_19 ?_
  refine lv_topi (fun y_3 hy_3 => ?_)
  obtain rfl : y_3 = 1 := hy_3.trans (by decide +kernel)
  refine lv_bipush (v := 40) hx hb dX5_keepAct_20 (by decide) ?_
  refine va_mmin hx hb (hml.trans hl.1.symm) hown (hg _ m_984) (hg _ m_770) (hg _ m_147) (hg _ m_771) (by decide) (Nat.le_of_ble_eq_true rfl) (by decide) (by decide) dX5_keepAct_22 ?_
  refine lv_topi (fun y_4 hy_4 => ?_)
  obtain rfl : y_4 = 1 := hy_4.trans (by decide +kernel)
  refine va_put (D := D) (ci := 5) (v := .int 1) (ty := .int) (C := RX5) (T := TX5) (N := 7) hx hb hg i_X5 tyX5 tyX5_ok nmX5 hown hK hP hD hS 0 rfl rfl 5 (by decide) (hg _ m_429) (fun _ h9 => h9) rfl (by decide +kernel) rfl rfl (Nat.le_of_ble_eq_true rfl) dX5_keepAct_25 (fun H locs hP hD hS => ?_)
  have hP : va_P D vwCl [(n0, .inr (5, [.ref n1, .ref n2, .ref n3, z3, .int 1, .int 1, z6])), (n1, .inl (cy 1, 41, .inl (fn))), (n2, .inl (cy 1, 1681, .inl (fr)))] H := hP
  have hD : va_D A [(n0, .inr (5, [.ref n1, .ref n2, .ref n3, z3, .int 1, .int 1, z6])), (n1, .inl (cy 1, 41, .inl (fn))), (n2, .inl (cy 1, 1681, .inl (fr)))] := hD
  refine lv_aload_n hx hb dX5_keepAct_28 rfl (lv_at hl 0 rfl) ?_
  refine lv_iconst (v := 0) hx hb dX5_keepAct_29 (by decide) ?_
  refine va_put (D := D) (ci := 5) (v := .int 0) (ty := .int) (C := RX5) (T := TX5) (N := 7) hx hb hg i_X5 tyX5 tyX5_ok nmX5 hown hK hP hD hS 0 rfl rfl 6 (by decide) (hg _ m_431) (fun _ h9 => h9) rfl (by decide +kernel) rfl rfl (Nat.le_of_ble_eq_true rfl) dX5_keepAct_30 (fun H locs hP hD hS => ?_)
  have hP : va_P D vwCl [(n0, .inr (5, [.ref n1, .ref n2, .ref n3, z3, .int 1, .int 1, .int 0])), (n1, .inl (cy 1, 41, .inl (fn))), (n2, .inl (cy 1, 1681, .inl (fr)))] H := hP
  have hD : va_D A [(n0, .inr (5, [.ref n1, .ref n2, .ref n3, z3, .int 1, .int 1, .int 0])), (n1, .inl (cy 1, 41, .inl (fn))), (n2, .inl (cy 1, 1681, .inl (fr)))] := hD
  refine lv_aload_n hx hb dX5_keepAct_33 rfl (lv_at hl 0 rfl) ?_
  refine va_get (D := D) (ci := 5) (v := .ref n1) (C := RX5) (T := TX5) (N := 7) hx hb hg i_X5 hown hK hP 0 rfl rfl 0 (by decide) (hg _ m_423) (fun _ h9 => h9) rfl dX5_keepAct_34 ?_
  refine lv_iconst (v := 0) hx hb dX5_keepAct_37 (by decide) ?_
  refine lv_aload_n hx hb dX5_keepAct_38 rfl (lv_at hl 0 rfl) ?_
  refine va_get (D := D) (ci := 5) (v := .ref n2) (C := RX5) (T := TX5) (N := 7) hx hb hg i_X5 hown hK hP 0 rfl rfl 1 (by decide) (hg _ m_425) (fun _ h9 => h9) rfl dX5_keepAct_39 ?_
  refine lv_aload_n hx hb dX5_keepAct_42 rfl (lv_at hl 0 rfl) ?_
  refine va_get (D := D) (ci := 5) (v := .int 1) (C := RX5) (T := TX5) (N := 7) hx hb hg i_X5 hown hK hP 0 rfl rfl 4 (by decide) (hg _ m_428) (fun _ h9 => h9) rfl dX5_keepAct_43 ?_
  refine lv_bipush (v := 41) hx hb dX5_keepAct_46 (by decide) ?_
  refine lv_imul hx hb dX5_keepAct_48 ?_
  refine lv_topi (fun y_5 hy_5 => ?_)
  obtain rfl : y_5 = 41 := hy_5.trans (by decide +kernel)
  refine lv_bipush (v := 41) hx hb dX5_keepAct_49 (by decide) ?_
  refine va_copyi hx hb (hml.trans hl.1.symm) hown (hg _ m_934) (hg _ m_936) (hg _ m_935) (hg _ m_149) hK hP hD hS 1 2 1 1 rfl rfl rfl rfl rfl (by decide) (by decide) (by decide) (by decide) (by decide) (fun _ _ => rfl) (by decide) (Nat.le_of_ble_eq_true rfl) dX5_keepAct_51 (fun H locs hP hD hS => ?_)
  obtain ⟨g_6, eg_6⟩ : ∃ y, va_cpy (fn) (fr) (0 : Int32).toNatClampNeg (41 : Int32).toNatClampNeg (41 : Int32).toNatClampNeg = y := ⟨_, rfl⟩
  rw [eg_6] at hP hD
  have hP : va_P D vwCl [(n0, .inr (5, [.ref n1, .ref n2, .ref n3, z3, .int 1, .int 1, .int 0])), (n1, .inl (cy 1, 41, .inl (fn))), (n2, .inl (cy 1, 1681, .inl (g_6)))] H := hP
  have hD : va_D A [(n0, .inr (5, [.ref n1, .ref n2, .ref n3, z3, .int 1, .int 1, .int 0])), (n1, .inl (cy 1, 41, .inl (fn))), (n2, .inl (cy 1, 1681, .inl (g_6)))] := hD
  exact x_vret hQ hx hb hr hlocks hK hP hD hS dX5_keepAct_54 g_6 (trivial) [0, 1, 2] (by decide) rfl (Nat.le_of_ble_eq_true rfl) (Nat.le_of_ble_eq_true rfl)
theorem dX5_passNoon_0 : decode cX5_passNoon 0 = .ok (.aload_n 0, 1) := by decide +kernel
theorem dX5_passNoon_1 : decode cX5_passNoon 1 = .ok (.getfield 11, 3) := by decide +kernel
theorem dX5_passNoon_4 : decode cX5_passNoon 4 = .ok (.bipush 23, 2) := by decide +kernel
theorem dX5_passNoon_6 : decode cX5_passNoon 6 = .ok (.iaload, 1) := by decide +kernel
theorem dX5_passNoon_7 : decode cX5_passNoon 7 = .ok (.sipush 137, 3) := by decide +kernel
theorem dX5_passNoon_10 : decode cX5_passNoon 10 = .ok (.imul, 1) := by decide +kernel
theorem dX5_passNoon_11 : decode cX5_passNoon 11 = .ok (.bipush 71, 2) := by decide +kernel
theorem dX5_passNoon_13 : decode cX5_passNoon 13 = .ok (.iadd, 1) := by decide +kernel
theorem dX5_passNoon_14 : decode cX5_passNoon 14 = .ok (.sipush 1000, 3) := by decide +kernel
theorem dX5_passNoon_17 : decode cX5_passNoon 17 = .ok (.irem, 1) := by decide +kernel
theorem dX5_passNoon_18 : decode cX5_passNoon 18 = .ok (.istore_n 2, 1) := by decide +kernel
theorem dX5_passNoon_19 : decode cX5_passNoon 19 = .ok (.aload_n 0, 1) := by decide +kernel
theorem dX5_passNoon_20 : decode cX5_passNoon 20 = .ok (.getfield 11, 3) := by decide +kernel
theorem dX5_passNoon_23 : decode cX5_passNoon 23 = .ok (.bipush 23, 2) := by decide +kernel
theorem dX5_passNoon_25 : decode cX5_passNoon 25 = .ok (.iload_n 2, 1) := by decide +kernel
theorem dX5_passNoon_26 : decode cX5_passNoon 26 = .ok (.iastore, 1) := by decide +kernel
theorem dX5_passNoon_27 : decode cX5_passNoon 27 = .ok (.aload_n 0, 1) := by decide +kernel
theorem dX5_passNoon_28 : decode cX5_passNoon 28 = .ok (.getfield 11, 3) := by decide +kernel
theorem dX5_passNoon_31 : decode cX5_passNoon 31 = .ok (.bipush 22, 2) := by decide +kernel
theorem dX5_passNoon_33 : decode cX5_passNoon 33 = .ok (.iload_n 2, 1) := by decide +kernel
theorem dX5_passNoon_34 : decode cX5_passNoon 34 = .ok (.bipush 10, 2) := by decide +kernel
theorem dX5_passNoon_36 : decode cX5_passNoon 36 = .ok (.irem, 1) := by decide +kernel
theorem dX5_passNoon_37 : decode cX5_passNoon 37 = .ok (.iastore, 1) := by decide +kernel
theorem dX5_passNoon_38 : decode cX5_passNoon 38 = .ok (.aload_n 0, 1) := by decide +kernel
theorem dX5_passNoon_39 : decode cX5_passNoon 39 = .ok (.getfield 11, 3) := by decide +kernel
theorem dX5_passNoon_42 : decode cX5_passNoon 42 = .ok (.bipush 24, 2) := by decide +kernel
theorem dX5_passNoon_44 : decode cX5_passNoon 44 = .ok (.dup2, 1) := by decide +kernel
theorem dX5_passNoon_45 : decode cX5_passNoon 45 = .ok (.iaload, 1) := by decide +kernel
theorem dX5_passNoon_46 : decode cX5_passNoon 46 = .ok (.iconst 1, 1) := by decide +kernel
theorem dX5_passNoon_47 : decode cX5_passNoon 47 = .ok (.iadd, 1) := by decide +kernel
theorem dX5_passNoon_48 : decode cX5_passNoon 48 = .ok (.iastore, 1) := by decide +kernel
theorem dX5_passNoon_49 : decode cX5_passNoon 49 = .ok (.iload_n 2, 1) := by decide +kernel
theorem dX5_passNoon_50 : decode cX5_passNoon 50 = .ok (.bipush 10, 2) := by decide +kernel
theorem dX5_passNoon_52 : decode cX5_passNoon 52 = .ok (.idiv, 1) := by decide +kernel
theorem dX5_passNoon_53 : decode cX5_passNoon 53 = .ok (.iconst 2, 1) := by decide +kernel
theorem dX5_passNoon_54 : decode cX5_passNoon 54 = .ok (.irem, 1) := by decide +kernel
theorem dX5_passNoon_55 : decode cX5_passNoon 55 = .ok (.ifCond .ne 41, 3) := by decide +kernel
theorem dX5_passNoon_96 : decode cX5_passNoon 96 = .ok (.aload_n 0, 1) := by decide +kernel
theorem dX5_passNoon_97 : decode cX5_passNoon 97 = .ok (.invokevirtual 67, 3) := by decide +kernel
theorem m_980 : (Cond.methodLink RX5 67 yX5_keepAct) ∈ gT := gm 980 (by decide +kernel) (by decide +kernel)
theorem m_982 : (Cond.instanceMethod yX5_keepAct) ∈ gT := gm 982 (by decide +kernel) (by decide +kernel)
theorem m_30 : (Cond.selects RX5 yX5_keepAct yX5_keepAct) ∈ gT := gm 30 (by decide +kernel) (by decide +kernel)
theorem m_983 : (Cond.code yX5_keepAct cX5_keepAct 1 none) ∈ gT := gm 983 (by decide +kernel) (by decide +kernel)
theorem k_X5_67 : xV RX5 RX5 67 yX5_keepAct cX5_keepAct 1 none 0 := ⟨⟨m_980, m_982, m_30, m_139, m_983⟩, rfl, by decide, by decide, by decide +kernel⟩
theorem dX5_passNoon_100 : decode cX5_passNoon 100 = .ok (.return_, 1) := by decide +kernel
set_option maxHeartbeats 400000 in
set_option maxRecDepth 100000 in
theorem c_passNoon (l : Launch) (D : va_G) (cy : Nat → ClassId) (n0 : Nat) (n1 : Nat) (n2 : Nat) (n3 : Nat) (z3 : Value) (z6 : Value) (fr : Nat → Int32)  : XMv l D (tyL cy) E0 yX5_passNoon cX5_passNoon 4 none (rmk 2 0 0) [.ref n0, .int 0] [(n0, .inr (5, [.ref n1, .ref n2, .ref n3, z3, .int 0, .int 0, z6])), (n1, .inl (cy 1, 41, .inl (fun _ => 0))), (n2, .inl (cy 1, 1681, .inl (fr)))] (fun (fr2 : Nat → Int32) => True) (fun (fr2 : Nat → Int32) => [(n0, .inr (5, [.ref n1, .ref n2, .ref n3, z3, .int 1, .int 1, .int 0])), (n1, .inl (cy 1, 41, .inl (upd (upd (upd (fun _ => 0) (23 : Int32).toNatClampNeg 71) (22 : Int32).toNatClampNeg 1) (24 : Int32).toNatClampNeg 1))), (n2, .inl (cy 1, 1681, .inl (fr2)))]) := by
  refine XMv.start (by decide) (Nat.le_of_ble_eq_true rfl) ?_
  intro p e s m below meth c args A ls Q hat hQ
  obtain ⟨hx, hb, hr, hml, hown, hg, hlocks, hin, hK, hA, hP, hD, hS, hE, hl⟩ := hat
  have hown : s.vm.findClass RX5 = some m.cls := hown
  have hl : lv_has ls 4 [(0, .ref n0), (1, .int 0)] := hl
  refine lv_aload_n hx hb dX5_passNoon_0 rfl (lv_at hl 0 rfl) ?_
  refine va_get (D := D) (ci := 5) (v := .ref n1) (C := RX5) (T := TX5) (N := 7) hx hb hg i_X5 hown hK hP 0 rfl rfl 0 (by decide) (hg _ m_423) (fun _ h9 => h9) rfl dX5_passNoon_1 ?_
  refine lv_bipush (v := 23) hx hb dX5_passNoon_4 (by decide) ?_
  refine va_iald hx hb hK hP 1 1 rfl rfl (by unfold vp_in; decide) dX5_passNoon_6 ?_
  refine lv_topi (fun y_1 hy_1 => ?_)
  obtain rfl : y_1 = 0 := hy_1.trans (by decide +kernel)
  refine lv_sipush (v := 137) hx hb dX5_passNoon_7 (by decide) ?_
  refine lv_imul hx hb dX5_passNoon_10 ?_
  refine lv_topi (fun y_2 hy_2 => ?_)
  obtain rfl : y_2 = 0 := hy_2.trans (by decide +kernel)
  refine lv_bipush (v := 71) hx hb dX5_passNoon_11 (by decide) ?_
  refine lv_iadd hx hb dX5_passNoon_13 ?_
  refine lv_topi (fun y_3 hy_3 => ?_)
  obtain rfl : y_3 = 71 := hy_3.trans (by decide +kernel)
  refine lv_sipush (v := 1000) hx hb dX5_passNoon_14 (by decide) ?_
  refine lv_irem hx hb dX5_passNoon_17 (by decide) ?_
  refine lv_topi (fun y_4 hy_4 => ?_)
  obtain rfl : y_4 = 71 := hy_4.trans (by decide +kernel)
  refine lv_istore_n (lv' := [(2, .int 71), (0, .ref n0), (1, .int 0)]) hx hb dX5_passNoon_18 rfl hl (by decide) rfl (fun ls hl => ?_)
  refine lv_aload_n hx hb dX5_passNoon_19 rfl (lv_at hl 1 rfl) ?_
  refine va_get (D := D) (ci := 5) (v := .ref n1) (C := RX5) (T := TX5) (N := 7) hx hb hg i_X5 hown hK hP 0 rfl rfl 0 (by decide) (hg _ m_423) (fun _ h9 => h9) rfl dX5_passNoon_20 ?_
  refine lv_bipush (v := 23) hx hb dX5_passNoon_23 (by decide) ?_
  refine lv_iload_n hx hb dX5_passNoon_25 rfl (lv_at hl 0 rfl) ?_
  refine va_iast hx hb hK hP hD hS 1 1 rfl rfl (by unfold vp_in; decide) dX5_passNoon_26 (fun H locs hP hD hS => ?_)
  have hP : va_P D vwCl [(n0, .inr (5, [.ref n1, .ref n2, .ref n3, z3, .int 0, .int 0, z6])), (n1, .inl (cy 1, 41, .inl (upd (fun _ => 0) (23 : Int32).toNatClampNeg 71))), (n2, .inl (cy 1, 1681, .inl (fr)))] H := hP
  have hD : va_D A [(n0, .inr (5, [.ref n1, .ref n2, .ref n3, z3, .int 0, .int 0, z6])), (n1, .inl (cy 1, 41, .inl (upd (fun _ => 0) (23 : Int32).toNatClampNeg 71))), (n2, .inl (cy 1, 1681, .inl (fr)))] := hD
  refine lv_aload_n hx hb dX5_passNoon_27 rfl (lv_at hl 1 rfl) ?_
  refine va_get (D := D) (ci := 5) (v := .ref n1) (C := RX5) (T := TX5) (N := 7) hx hb hg i_X5 hown hK hP 0 rfl rfl 0 (by decide) (hg _ m_423) (fun _ h9 => h9) rfl dX5_passNoon_28 ?_
  refine lv_bipush (v := 22) hx hb dX5_passNoon_31 (by decide) ?_
  refine lv_iload_n hx hb dX5_passNoon_33 rfl (lv_at hl 0 rfl) ?_
  refine lv_bipush (v := 10) hx hb dX5_passNoon_34 (by decide) ?_
  refine lv_irem hx hb dX5_passNoon_36 (by decide) ?_
  refine lv_topi (fun y_5 hy_5 => ?_)
  obtain rfl : y_5 = 1 := hy_5.trans (by decide +kernel)
  refine va_iast hx hb hK hP hD hS 1 1 rfl rfl (by unfold vp_in; decide) dX5_passNoon_37 (fun H locs hP hD hS => ?_)
  have hP : va_P D vwCl [(n0, .inr (5, [.ref n1, .ref n2, .ref n3, z3, .int 0, .int 0, z6])), (n1, .inl (cy 1, 41, .inl (upd (upd (fun _ => 0) (23 : Int32).toNatClampNeg 71) (22 : Int32).toNatClampNeg 1))), (n2, .inl (cy 1, 1681, .inl (fr)))] H := hP
  have hD : va_D A [(n0, .inr (5, [.ref n1, .ref n2, .ref n3, z3, .int 0, .int 0, z6])), (n1, .inl (cy 1, 41, .inl (upd (upd (fun _ => 0) (23 : Int32).toNatClampNeg 71) (22 : Int32).toNatClampNeg 1))), (n2, .inl (cy 1, 1681, .inl (fr)))] := hD
  refine lv_aload_n hx hb dX5_passNoon_38 rfl (lv_at hl 1 rfl) ?_
  refine va_get (D := D) (ci := 5) (v := .ref n1) (C := RX5) (T := TX5) (N := 7) hx hb hg i_X5 hown hK hP 0 rfl rfl 0 (by decide) (hg _ m_423) (fun _ h9 => h9) rfl dX5_passNoon_39 ?_
  refine lv_bipush (v := 24) hx hb dX5_passNoon_42 (by decide) ?_
  refine lv_dup2_11 hx hb dX5_passNoon_44 rfl rfl ?_
  refine va_iald hx hb hK hP 1 1 rfl rfl (by unfold vp_in; decide) dX5_passNoon_45 ?_
  refine lv_topi (fun y_6 hy_6 => ?_)
  obtain rfl : y_6 = 0 := hy_6.trans (by decide +kernel)
  refine lv_iconst (v := 1) hx hb dX5_passNoon_46 (by decide) ?_
  refine lv_iadd hx hb dX5_passNoon_47 ?_
  refine lv_topi (fun y_7 hy_7 => ?_)
  obtain rfl : y_7 = 1 := hy_7.trans (by decide +kernel)
  refine va_iast hx hb hK hP hD hS 1 1 rfl rfl (by unfold vp_in; decide) dX5_passNoon_48 (fun H locs hP hD hS => ?_)
  have hP : va_P D vwCl [(n0, .inr (5, [.ref n1, .ref n2, .ref n3, z3, .int 0, .int 0, z6])), (n1, .inl (cy 1, 41, .inl (upd (upd (upd (fun _ => 0) (23 : Int32).toNatClampNeg 71) (22 : Int32).toNatClampNeg 1) (24 : Int32).toNatClampNeg 1))), (n2, .inl (cy 1, 1681, .inl (fr)))] H := hP
  have hD : va_D A [(n0, .inr (5, [.ref n1, .ref n2, .ref n3, z3, .int 0, .int 0, z6])), (n1, .inl (cy 1, 41, .inl (upd (upd (upd (fun _ => 0) (23 : Int32).toNatClampNeg 71) (22 : Int32).toNatClampNeg 1) (24 : Int32).toNatClampNeg 1))), (n2, .inl (cy 1, 1681, .inl (fr)))] := hD
  refine lv_iload_n hx hb dX5_passNoon_49 rfl (lv_at hl 0 rfl) ?_
  refine lv_bipush (v := 10) hx hb dX5_passNoon_50 (by decide) ?_
  refine lv_idiv hx hb dX5_passNoon_52 (by decide) ?_
  refine lv_topi (fun y_8 hy_8 => ?_)
  obtain rfl : y_8 = 7 := hy_8.trans (by decide +kernel)
  refine lv_iconst (v := 2) hx hb dX5_passNoon_53 (by decide) ?_
  refine lv_irem hx hb dX5_passNoon_54 (by decide) ?_
  refine lv_topi (fun y_9 hy_9 => ?_)
  obtain rfl : y_9 = 1 := hy_9.trans (by decide +kernel)
  refine lv_if_ne (tgt := 96) hx hb dX5_passNoon_55 (by decide) (fun _ => ?_) (fun h => absurd h (by decide))
  refine lv_aload_n hx hb dX5_passNoon_96 rfl (lv_at hl 1 rfl) ?_
  refine x_callVv (q := (RX5, TX5, 7)) (ci := 5) (q0 := 0) (wr := []) (rest := []) ⟨hx, hb, hml, hown, hg, hl.1⟩ k_X5_67 (c_keepAct l D cy n0 n1 n2 n3 z3 z6 (upd (upd (upd (fun _ => 0) (23 : Int32).toNatClampNeg 71) (22 : Int32).toNatClampNeg 1) (24 : Int32).toNatClampNeg 1) fr) E0_blind hK hP hD hS hA [0, 1, 2] [] ⟨rfl, rfl, by decide, by decide, by decide⟩ rfl rfl (fun _ _ _ => trivial) dX5_passNoon_97 rfl rfl (Nat.le_of_ble_eq_true rfl) ⟨Nat.le_of_ble_eq_true rfl, Nat.le_of_ble_eq_true rfl⟩ ⟨Nat.le_of_ble_eq_true rfl, Nat.le_of_ble_eq_true rfl⟩ (fun u10 H locs hw10 hP hD hS => ?_)
  obtain ⟨fr2_11, rfl⟩ : ∃ z, z = u10 := ⟨_, rfl⟩
  have hP : va_P D vwCl [(n0, .inr (5, [.ref n1, .ref n2, .ref n3, z3, .int 1, .int 1, .int 0])), (n1, .inl (cy 1, 41, .inl (upd (upd (upd (fun _ => 0) (23 : Int32).toNatClampNeg 71) (22 : Int32).toNatClampNeg 1) (24 : Int32).toNatClampNeg 1))), (n2, .inl (cy 1, 1681, .inl (fr2_11)))] H := hP
  have hD : va_D A [(n0, .inr (5, [.ref n1, .ref n2, .ref n3, z3, .int 1, .int 1, .int 0])), (n1, .inl (cy 1, 41, .inl (upd (upd (upd (fun _ => 0) (23 : Int32).toNatClampNeg 71) (22 : Int32).toNatClampNeg 1) (24 : Int32).toNatClampNeg 1))), (n2, .inl (cy 1, 1681, .inl (fr2_11)))] := hD
  refine W.widen (k := 0) (n := 0) (Nat.le_of_ble_eq_true rfl) (Nat.le_of_ble_eq_true rfl) ?_
  exact x_vret hQ hx hb hr hlocks hK hP hD hS dX5_passNoon_100 fr2_11 (trivial) [0, 1, 2] (by decide) rfl (Nat.le_of_ble_eq_true rfl) (Nat.le_of_ble_eq_true rfl)
theorem dX11_noon_0 : decode cX11_noon 0 = .ok (.aload_n 0, 1) := by decide +kernel
theorem dX11_noon_1 : decode cX11_noon 1 = .ok (.getfield 38, 3) := by decide +kernel
theorem dX11_noon_4 : decode cX11_noon 4 = .ok (.getfield 127, 3) := by decide +kernel
theorem dX11_noon_7 : decode cX11_noon 7 = .ok (.bipush 24, 2) := by decide +kernel
theorem dX11_noon_9 : decode cX11_noon 9 = .ok (.iaload, 1) := by decide +kernel
theorem dX11_noon_10 : decode cX11_noon 10 = .ok (.sipush 999, 3) := by decide +kernel
theorem dX11_noon_13 : decode cX11_noon 13 = .ok (.if_icmp .lt 5, 3) := by decide +kernel
theorem dX11_noon_18 : decode cX11_noon 18 = .ok (.aload_n 0, 1) := by decide +kernel
theorem dX11_noon_19 : decode cX11_noon 19 = .ok (.getfield 38, 3) := by decide +kernel
theorem dX11_noon_22 : decode cX11_noon 22 = .ok (.aload_n 0, 1) := by decide +kernel
theorem dX11_noon_23 : decode cX11_noon 23 = .ok (.getfield 28, 3) := by decide +kernel
theorem dX11_noon_26 : decode cX11_noon 26 = .ok (.getfield 111, 3) := by decide +kernel
theorem dX11_noon_29 : decode cX11_noon 29 = .ok (.iconst 1, 1) := by decide +kernel
theorem dX11_noon_30 : decode cX11_noon 30 = .ok (.iaload, 1) := by decide +kernel
theorem dX11_noon_31 : decode cX11_noon 31 = .ok (.invokevirtual 171, 3) := by decide +kernel
theorem m_1088 : (Cond.methodLink RX11 171 yX5_passNoon) ∈ gT := gm 1088 (by decide +kernel) (by decide +kernel)
theorem m_1089 : (Cond.instanceMethod yX5_passNoon) ∈ gT := gm 1089 (by decide +kernel) (by decide +kernel)
theorem m_1090 : (Cond.selects RX5 yX5_passNoon yX5_passNoon) ∈ gT := gm 1090 (by decide +kernel) (by decide +kernel)
theorem m_1091 : (Cond.code yX5_passNoon cX5_passNoon 4 none) ∈ gT := gm 1091 (by decide +kernel) (by decide +kernel)
theorem k_X11_171 : xV RX11 RX5 171 yX5_passNoon cX5_passNoon 4 none 1 := ⟨⟨m_1088, m_1089, m_1090, m_139, m_1091⟩, rfl, by decide, by decide, by decide +kernel⟩
theorem dX11_noon_34 : decode cX11_noon 34 = .ok (.aload_n 0, 1) := by decide +kernel
theorem dX11_noon_35 : decode cX11_noon 35 = .ok (.getfield 38, 3) := by decide +kernel
theorem dX11_noon_38 : decode cX11_noon 38 = .ok (.getfield 127, 3) := by decide +kernel
theorem dX11_noon_41 : decode cX11_noon 41 = .ok (.bipush 22, 2) := by decide +kernel
theorem dX11_noon_43 : decode cX11_noon 43 = .ok (.iaload, 1) := by decide +kernel
theorem dX11_noon_44 : decode cX11_noon 44 = .ok (.ireturn, 1) := by decide +kernel
set_option maxHeartbeats 400000 in
set_option maxRecDepth 100000 in
theorem t_noon (l : Launch) (D : va_G) (cy : Nat → ClassId) (a0 : Nat) (w0 : Value) (w1 : Value) (w3 : Value) (w5 : Value) (w6 : Value) (w7 : Value) (w8 : Value) (w9 : Value) (w10 : Value) (w11 : Value) (w12 : Value) (w13 : Value) (h0 : Nat) (h1 : Nat) (v1 : Value) (v2 : Value) (v3 : Value) (v4 : Value) (v5 : Value) (v6 : Value) (v7 : Value) (v8 : Value) (v9 : Value) (v10 : Value) (v11 : Value) (v12 : Value) (v13 : Value) (v14 : Value) (v15 : Value) (n0 : Nat) (n1 : Nat) (n2 : Nat) (n3 : Nat) (z3 : Value) (z6 : Value) (fr : Nat → Int32)  : XMi l D (tyL cy) E0 yX11_noon cX11_noon 1 (some .int) (rmk 3 0 0) [.ref a0] [(a0, .inr (11, [w0, w1, .ref h0, w3, .ref n0, w5, w6, w7, w8, w9, w10, w11, w12, w13])), (h0, .inr (4, [.ref h1, v1, v2, v3, v4, v5, v6, v7, v8, v9, v10, v11, v12, v13, v14, v15])), (h1, .inl (cy 1, 4, .inl (fun _ => 0))), (n0, .inr (5, [.ref n1, .ref n2, .ref n3, z3, .int 0, .int 0, z6])), (n1, .inl (cy 1, 41, .inl (fun _ => 0))), (n2, .inl (cy 1, 1681, .inl (fr)))] (fun (r : Int32) (_ : Unit) => r = 1) (fun (_ : Unit) => []) := by
  refine XMi.start (by decide) (Nat.le_of_ble_eq_true rfl) ?_
  intro p e s m below meth c args A ls Q hat hQ
  obtain ⟨hx, hb, hr, hml, hown, hg, hlocks, hin, hK, hA, hP, hD, hS, hE, hl⟩ := hat
  have hown : s.vm.findClass RX11 = some m.cls := hown
  have hl : lv_has ls 1 [(0, .ref a0)] := hl
  refine lv_aload_n hx hb dX11_noon_0 rfl (lv_at hl 0 rfl) ?_
  refine va_get (D := D) (ci := 11) (v := .ref n0) (C := RX11) (T := TX11) (N := 14) hx hb hg i_X11 hown hK hP 0 rfl rfl 4 (by decide) (hg _ m_662) (fun _ h9 => h9) rfl dX11_noon_1 ?_
  refine va_get (D := D) (ci := 5) (v := .ref n1) (C := RX5) (T := TX5) (N := 7) hx hb hg i_X5 hown hK hP 3 rfl rfl 0 (by decide) (hg _ m_424) (fun _ h9 => h9) rfl dX11_noon_4 ?_
  refine lv_bipush (v := 24) hx hb dX11_noon_7 (by decide) ?_
  refine va_iald hx hb hK hP 4 1 rfl rfl (by unfold vp_in; decide) dX11_noon_9 ?_
  refine lv_topi (fun y_1 hy_1 => ?_)
  obtain rfl : y_1 = 0 := hy_1.trans (by decide +kernel)
  refine lv_sipush (v := 999) hx hb dX11_noon_10 (by decide) ?_
  refine lv_icmp_lt (tgt := 18) hx hb dX11_noon_13 (by decide) (fun _ => ?_) (fun h => absurd (by decide) h)
  refine lv_aload_n hx hb dX11_noon_18 rfl (lv_at hl 0 rfl) ?_
  refine va_get (D := D) (ci := 11) (v := .ref n0) (C := RX11) (T := TX11) (N := 14) hx hb hg i_X11 hown hK hP 0 rfl rfl 4 (by decide) (hg _ m_662) (fun _ h9 => h9) rfl dX11_noon_19 ?_
  refine lv_aload_n hx hb dX11_noon_22 rfl (lv_at hl 0 rfl) ?_
  refine va_get (D := D) (ci := 11) (v := .ref h0) (C := RX11) (T := TX11) (N := 14) hx hb hg i_X11 hown hK hP 0 rfl rfl 2 (by decide) (hg _ m_660) (fun _ h9 => h9) rfl dX11_noon_23 ?_
  refine va_get (D := D) (ci := 4) (v := .ref h1) (C := RX4) (T := TX4) (N := 16) hx hb hg i_X4 hown hK hP 1 rfl rfl 0 (by decide) (hg _ m_335) (fun _ h9 => h9) rfl dX11_noon_26 ?_
  refine lv_iconst (v := 1) hx hb dX11_noon_29 (by decide) ?_
  refine va_iald hx hb hK hP 2 1 rfl rfl (by unfold vp_in; decide) dX11_noon_30 ?_
  refine lv_topi (fun y_2 hy_2 => ?_)
  obtain rfl : y_2 = 0 := hy_2.trans (by decide +kernel)
  refine x_callVv (q := (RX5, TX5, 7)) (ci := 5) (q0 := 0) (wr := [(a0, .inr (11, [w0, w1, .ref h0, w3, .ref n0, w5, w6, w7, w8, w9, w10, w11, w12, w13])), (h0, .inr (4, [.ref h1, v1, v2, v3, v4, v5, v6, v7, v8, v9, v10, v11, v12, v13, v14, v15])), (h1, .inl (cy 1, 4, .inl (fun _ => 0)))]) (rest := []) ⟨hx, hb, hml, hown, hg, hl.1⟩ k_X11_171 (c_passNoon l D cy n0 n1 n2 n3 z3 z6 fr) E0_blind hK hP hD hS hA [3, 4, 5] [0, 1, 2] ⟨rfl, rfl, by decide, by decide, by decide⟩ rfl rfl (fun _ _ _ => trivial) dX11_noon_31 rfl rfl (Nat.le_of_ble_eq_true rfl) ⟨Nat.le_of_ble_eq_true rfl, Nat.le_of_ble_eq_true rfl⟩ ⟨Nat.le_of_ble_eq_true rfl, Nat.le_of_ble_eq_true rfl⟩ (fun u3 H locs hw3 hP hD hS => ?_)
  obtain ⟨fr2_4, rfl⟩ : ∃ z, z = u3 := ⟨_, rfl⟩
  have hP : va_P D vwCl [(a0, .inr (11, [w0, w1, .ref h0, w3, .ref n0, w5, w6, w7, w8, w9, w10, w11, w12, w13])), (h0, .inr (4, [.ref h1, v1, v2, v3, v4, v5, v6, v7, v8, v9, v10, v11, v12, v13, v14, v15])), (h1, .inl (cy 1, 4, .inl (fun _ => 0))), (n0, .inr (5, [.ref n1, .ref n2, .ref n3, z3, .int 1, .int 1, .int 0])), (n1, .inl (cy 1, 41, .inl (upd (upd (upd (fun _ => 0) (23 : Int32).toNatClampNeg 71) (22 : Int32).toNatClampNeg 1) (24 : Int32).toNatClampNeg 1))), (n2, .inl (cy 1, 1681, .inl (fr2_4)))] H := hP
  have hD : va_D A [(a0, .inr (11, [w0, w1, .ref h0, w3, .ref n0, w5, w6, w7, w8, w9, w10, w11, w12, w13])), (h0, .inr (4, [.ref h1, v1, v2, v3, v4, v5, v6, v7, v8, v9, v10, v11, v12, v13, v14, v15])), (h1, .inl (cy 1, 4, .inl (fun _ => 0))), (n0, .inr (5, [.ref n1, .ref n2, .ref n3, z3, .int 1, .int 1, .int 0])), (n1, .inl (cy 1, 41, .inl (upd (upd (upd (fun _ => 0) (23 : Int32).toNatClampNeg 71) (22 : Int32).toNatClampNeg 1) (24 : Int32).toNatClampNeg 1))), (n2, .inl (cy 1, 1681, .inl (fr2_4)))] := hD
  refine W.widen (k := 0) (n := 0) (Nat.le_of_ble_eq_true rfl) (Nat.le_of_ble_eq_true rfl) ?_
  refine lv_aload_n hx hb dX11_noon_34 rfl (lv_at hl 0 rfl) ?_
  refine va_get (D := D) (ci := 11) (v := .ref n0) (C := RX11) (T := TX11) (N := 14) hx hb hg i_X11 hown hK hP 0 rfl rfl 4 (by decide) (hg _ m_662) (fun _ h9 => h9) rfl dX11_noon_35 ?_
  refine va_get (D := D) (ci := 5) (v := .ref n1) (C := RX5) (T := TX5) (N := 7) hx hb hg i_X5 hown hK hP 3 rfl rfl 0 (by decide) (hg _ m_424) (fun _ h9 => h9) rfl dX11_noon_38 ?_
  refine lv_bipush (v := 22) hx hb dX11_noon_41 (by decide) ?_
  refine va_iald hx hb hK hP 4 1 rfl rfl (by unfold vp_in; decide) dX11_noon_43 ?_
  refine lv_topi (fun y_5 hy_5 => ?_)
  obtain rfl : y_5 = 1 := hy_5.trans (by decide +kernel)
  exact x_iret hQ hx hb hr hlocks hK hP hD hS dX11_noon_44 () (rfl) [] (by decide) rfl (Nat.le_of_ble_eq_true rfl) (Nat.le_of_ble_eq_true rfl)
theorem dX3_clear_0 : decode cX3_clear 0 = .ok (.aload_n 0, 1) := by decide +kernel
theorem dX3_clear_1 : decode cX3_clear 1 = .ok (.iconst 0, 1) := by decide +kernel
theorem dX3_clear_2 : decode cX3_clear 2 = .ok (.putfield 16, 3) := by decide +kernel
set_option maxRecDepth 20000 in
theorem i_X3 : ∀ w ∈ u_ws RX3 TX3 4, w ∈ gT := gin [307, 309, 311, 313] (by decide +kernel) (by decide +kernel)
theorem m_302 : (Cond.fieldLink RX3 16 "CliffJudges$Formula" "length" "I") ∈ gT := gm 302 (by decide +kernel) (by decide +kernel)
theorem dX3_clear_5 : decode cX3_clear 5 = .ok (.aload_n 0, 1) := by decide +kernel
theorem dX3_clear_6 : decode cX3_clear 6 = .ok (.iconst 0, 1) := by decide +kernel
theorem dX3_clear_7 : decode cX3_clear 7 = .ok (.putfield 20, 3) := by decide +kernel
theorem m_303 : (Cond.fieldLink RX3 20 "CliffJudges$Formula" "told" "Z") ∈ gT := gm 303 (by decide +kernel) (by decide +kernel)
theorem dX3_clear_10 : decode cX3_clear 10 = .ok (.return_, 1) := by decide +kernel
set_option maxHeartbeats 400000 in
set_option maxRecDepth 100000 in
theorem c_fclear (l : Launch) (D : va_G) (cy : Nat → ClassId) (f0 : Nat) (y0 : Value) (y1 : Value) (y2 : Value) (y3 : Value)  : XMv l D (tyL cy) E0 yX3_clear cX3_clear 1 none (rmk 0 0 0) [.ref f0] [(f0, .inr (3, [y0, y1, y2, y3]))] (fun (_ : Unit) => True) (fun (_ : Unit) => [(f0, .inr (3, [y0, y1, .int 0, .int 0]))]) := by
  refine XMv.start (by decide) (Nat.le_of_ble_eq_true rfl) ?_
  intro p e s m below meth c args A ls Q hat hQ
  obtain ⟨hx, hb, hr, hml, hown, hg, hlocks, hin, hK, hA, hP, hD, hS, hE, hl⟩ := hat
  have hown : s.vm.findClass RX3 = some m.cls := hown
  have hl : lv_has ls 1 [(0, .ref f0)] := hl
  refine lv_aload_n hx hb dX3_clear_0 rfl (lv_at hl 0 rfl) ?_
  refine lv_iconst (v := 0) hx hb dX3_clear_1 (by decide) ?_
  refine va_put (D := D) (ci := 3) (v := .int 0) (ty := .int) (C := RX3) (T := TX3) (N := 4) hx hb hg i_X3 tyX3 tyX3_ok nmX3 hown hK hP hD hS 0 rfl rfl 2 (by decide) (hg _ m_302) (fun _ h9 => h9) rfl (by decide +kernel) rfl rfl (Nat.le_of_ble_eq_true rfl) dX3_clear_2 (fun H locs hP hD hS => ?_)
  have hP : va_P D vwCl [(f0, .inr (3, [y0, y1, .int 0, y3]))] H := hP
  have hD : va_D A [(f0, .inr (3, [y0, y1, .int 0, y3]))] := hD
  refine lv_aload_n hx hb dX3_clear_5 rfl (lv_at hl 0 rfl) ?_
  refine lv_iconst (v := 0) hx hb dX3_clear_6 (by decide) ?_
  refine va_put (D := D) (ci := 3) (v := .int 0) (ty := .boolean) (C := RX3) (T := TX3) (N := 4) hx hb hg i_X3 tyX3 tyX3_ok nmX3 hown hK hP hD hS 0 rfl rfl 3 (by decide) (hg _ m_303) (fun _ h9 => h9) rfl (by decide +kernel) rfl rfl (Nat.le_of_ble_eq_true rfl) dX3_clear_7 (fun H locs hP hD hS => ?_)
  have hP : va_P D vwCl [(f0, .inr (3, [y0, y1, .int 0, .int 0]))] H := hP
  have hD : va_D A [(f0, .inr (3, [y0, y1, .int 0, .int 0]))] := hD
  exact x_vret hQ hx hb hr hlocks hK hP hD hS dX3_clear_10 () (trivial) [0] (by decide) rfl (Nat.le_of_ble_eq_true rfl) (Nat.le_of_ble_eq_true rfl)
theorem dX4_clear_0 : decode cX4_clear 0 = .ok (.iconst 0, 1) := by decide +kernel
theorem dX4_clear_1 : decode cX4_clear 1 = .ok (.istore_n 1, 1) := by decide +kernel
theorem dX4_clear_2 : decode cX4_clear 2 = .ok (.iload_n 1, 1) := by decide +kernel
theorem dX4_clear_3 : decode cX4_clear 3 = .ok (.aload_n 0, 1) := by decide +kernel
theorem dX4_clear_4 : decode cX4_clear 4 = .ok (.getfield 9, 3) := by decide +kernel
theorem dX4_clear_7 : decode cX4_clear 7 = .ok (.arraylength, 1) := by decide +kernel
theorem dX4_clear_8 : decode cX4_clear 8 = .ok (.if_icmp .ge 16, 3) := by decide +kernel
theorem dX4_clear_24 : decode cX4_clear 24 = .ok (.iconst 0, 1) := by decide +kernel
theorem dX4_clear_25 : decode cX4_clear 25 = .ok (.istore_n 1, 1) := by decide +kernel
theorem dX4_clear_26 : decode cX4_clear 26 = .ok (.iload_n 1, 1) := by decide +kernel
theorem dX4_clear_27 : decode cX4_clear 27 = .ok (.aload_n 0, 1) := by decide +kernel
theorem dX4_clear_28 : decode cX4_clear 28 = .ok (.getfield 30, 3) := by decide +kernel
theorem m_354 : (Cond.fieldLink RX4 30 "CliffJudges$Hills" "next" "[I") ∈ gT := gm 354 (by decide +kernel) (by decide +kernel)
theorem dX4_clear_31 : decode cX4_clear 31 = .ok (.arraylength, 1) := by decide +kernel
theorem dX4_clear_32 : decode cX4_clear 32 = .ok (.if_icmp .ge 16, 3) := by decide +kernel
theorem dX4_clear_48 : decode cX4_clear 48 = .ok (.aload_n 0, 1) := by decide +kernel
theorem dX4_clear_49 : decode cX4_clear 49 = .ok (.getfield 39, 3) := by decide +kernel
theorem m_360 : (Cond.fieldLink RX4 39 "CliffJudges$Hills" "back" "LCliffJudges$Formula;") ∈ gT := gm 360 (by decide +kernel) (by decide +kernel)
theorem dX4_clear_52 : decode cX4_clear 52 = .ok (.invokevirtual 55, 3) := by decide +kernel
theorem m_321 : (Cond.methodLink RX4 55 yX3_clear) ∈ gT := gm 321 (by decide +kernel) (by decide +kernel)
theorem m_322 : (Cond.instanceMethod yX3_clear) ∈ gT := gm 322 (by decide +kernel) (by decide +kernel)
theorem m_323 : (Cond.selects RX3 yX3_clear yX3_clear) ∈ gT := gm 323 (by decide +kernel) (by decide +kernel)
theorem m_138 : (Cond.initialized RX3) ∈ gT := gm 138 (by decide +kernel) (by decide +kernel)
theorem m_324 : (Cond.code yX3_clear cX3_clear 1 none) ∈ gT := gm 324 (by decide +kernel) (by decide +kernel)
theorem k_X4_55 : xV RX4 RX3 55 yX3_clear cX3_clear 1 none 0 := ⟨⟨m_321, m_322, m_323, m_138, m_324⟩, rfl, by decide, by decide, by decide +kernel⟩
theorem dX4_clear_55 : decode cX4_clear 55 = .ok (.aload_n 0, 1) := by decide +kernel
theorem dX4_clear_56 : decode cX4_clear 56 = .ok (.getfield 43, 3) := by decide +kernel
theorem m_362 : (Cond.fieldLink RX4 43 "CliffJudges$Hills" "lost" "LCliffJudges$Formula;") ∈ gT := gm 362 (by decide +kernel) (by decide +kernel)
theorem dX4_clear_59 : decode cX4_clear 59 = .ok (.invokevirtual 55, 3) := by decide +kernel
theorem dX4_clear_62 : decode cX4_clear 62 = .ok (.aload_n 0, 1) := by decide +kernel
theorem dX4_clear_63 : decode cX4_clear 63 = .ok (.getfield 46, 3) := by decide +kernel
theorem m_365 : (Cond.fieldLink RX4 46 "CliffJudges$Hills" "turn" "LCliffJudges$Formula;") ∈ gT := gm 365 (by decide +kernel) (by decide +kernel)
theorem dX4_clear_66 : decode cX4_clear 66 = .ok (.invokevirtual 55, 3) := by decide +kernel
theorem dX4_clear_69 : decode cX4_clear 69 = .ok (.aload_n 0, 1) := by decide +kernel
theorem dX4_clear_70 : decode cX4_clear 70 = .ok (.iconst 0, 1) := by decide +kernel
theorem dX4_clear_71 : decode cX4_clear 71 = .ok (.putfield 56, 3) := by decide +kernel
theorem m_368 : (Cond.fieldLink RX4 56 "CliffJudges$Hills" "yesStates" "I") ∈ gT := gm 368 (by decide +kernel) (by decide +kernel)
theorem dX4_clear_74 : decode cX4_clear 74 = .ok (.aload_n 0, 1) := by decide +kernel
theorem dX4_clear_75 : decode cX4_clear 75 = .ok (.iconst 0, 1) := by decide +kernel
theorem dX4_clear_76 : decode cX4_clear 76 = .ok (.putfield 60, 3) := by decide +kernel
theorem m_371 : (Cond.fieldLink RX4 60 "CliffJudges$Hills" "ons" "I") ∈ gT := gm 371 (by decide +kernel) (by decide +kernel)
theorem dX4_clear_79 : decode cX4_clear 79 = .ok (.aload_n 0, 1) := by decide +kernel
theorem dX4_clear_80 : decode cX4_clear 80 = .ok (.iconst 0, 1) := by decide +kernel
theorem dX4_clear_81 : decode cX4_clear 81 = .ok (.putfield 63, 3) := by decide +kernel
theorem m_375 : (Cond.fieldLink RX4 63 "CliffJudges$Hills" "wind" "I") ∈ gT := gm 375 (by decide +kernel) (by decide +kernel)
theorem dX4_clear_84 : decode cX4_clear 84 = .ok (.aload_n 0, 1) := by decide +kernel
theorem dX4_clear_85 : decode cX4_clear 85 = .ok (.iconst 0, 1) := by decide +kernel
theorem dX4_clear_86 : decode cX4_clear 86 = .ok (.putfield 66, 3) := by decide +kernel
theorem m_379 : (Cond.fieldLink RX4 66 "CliffJudges$Hills" "draw" "I") ∈ gT := gm 379 (by decide +kernel) (by decide +kernel)
theorem dX4_clear_89 : decode cX4_clear 89 = .ok (.aload_n 0, 1) := by decide +kernel
theorem dX4_clear_90 : decode cX4_clear 90 = .ok (.iconst 0, 1) := by decide +kernel
theorem dX4_clear_91 : decode cX4_clear 91 = .ok (.putfield 69, 3) := by decide +kernel
theorem m_381 : (Cond.fieldLink RX4 69 "CliffJudges$Hills" "units" "I") ∈ gT := gm 381 (by decide +kernel) (by decide +kernel)
theorem dX4_clear_94 : decode cX4_clear 94 = .ok (.return_, 1) := by decide +kernel
theorem dX4_clear_35 : decode cX4_clear 35 = .ok (.aload_n 0, 1) := by decide +kernel
theorem dX4_clear_36 : decode cX4_clear 36 = .ok (.getfield 30, 3) := by decide +kernel
theorem dX4_clear_39 : decode cX4_clear 39 = .ok (.iload_n 1, 1) := by decide +kernel
theorem dX4_clear_40 : decode cX4_clear 40 = .ok (.iconst (-1), 1) := by decide +kernel
theorem dX4_clear_41 : decode cX4_clear 41 = .ok (.iastore, 1) := by decide +kernel
theorem dX4_clear_42 : decode cX4_clear 42 = .ok (.iinc 1 1, 3) := by decide +kernel
theorem dX4_clear_45 : decode cX4_clear 45 = .ok (.goto (-19), 3) := by decide +kernel
theorem dX4_clear_11 : decode cX4_clear 11 = .ok (.aload_n 0, 1) := by decide +kernel
theorem dX4_clear_12 : decode cX4_clear 12 = .ok (.getfield 9, 3) := by decide +kernel
theorem dX4_clear_15 : decode cX4_clear 15 = .ok (.iload_n 1, 1) := by decide +kernel
theorem dX4_clear_16 : decode cX4_clear 16 = .ok (.iconst 0, 1) := by decide +kernel
theorem dX4_clear_17 : decode cX4_clear 17 = .ok (.iastore, 1) := by decide +kernel
theorem dX4_clear_18 : decode cX4_clear 18 = .ok (.iinc 1 1, 3) := by decide +kernel
theorem dX4_clear_21 : decode cX4_clear 21 = .ok (.goto (-19), 3) := by decide +kernel
set_option maxHeartbeats 400000 in
set_option maxRecDepth 100000 in
theorem c_hclear (l : Launch) (D : va_G) (cy : Nat → ClassId) (h0 : Nat) (h1 : Nat) (h7 : Nat) (h9 : Nat) (h10 : Nat) (h11 : Nat) (v1 : Value) (v2 : Value) (v3 : Value) (v4 : Value) (v5 : Value) (v7 : Value) (v11 : Value) (v12 : Value) (v13 : Value) (v14 : Value) (v15 : Value) (ya0 : Value) (ya1 : Value) (ya2 : Value) (ya3 : Value) (yb0 : Value) (yb1 : Value) (yb2 : Value) (yb3 : Value) (yc0 : Value) (yc1 : Value) (yc2 : Value) (yc3 : Value) (fx : Nat → Int32)  : XMv l D (tyL cy) E0 yX4_clear cX4_clear 2 none (rmk 1 0 0) [.ref h0] [(h0, .inr (4, [.ref h1, v1, v2, v3, v4, v5, .ref h7, v7, .ref h9, .ref h10, .ref h11, v11, v12, v13, v14, v15])), (h1, .inl (cy 1, 4, .inl (fun _ => 0))), (h7, .inl (cy 1, 48, .inl (fx))), (h9, .inr (3, [ya0, ya1, ya2, ya3])), (h10, .inr (3, [yb0, yb1, yb2, yb3])), (h11, .inr (3, [yc0, yc1, yc2, yc3]))] (fun (fx2 : Nat → Int32) => True) (fun (fx2 : Nat → Int32) => [(h0, .inr (4, [.ref h1, v1, v2, v3, v4, v5, .ref h7, v7, .ref h9, .ref h10, .ref h11, .int 0, .int 0, .int 0, .int 0, .int 0])), (h1, .inl (cy 1, 4, .inl (fun _ => 0))), (h7, .inl (cy 1, 48, .inl (fx2))), (h9, .inr (3, [ya0, ya1, .int 0, .int 0])), (h10, .inr (3, [yb0, yb1, .int 0, .int 0])), (h11, .inr (3, [yc0, yc1, .int 0, .int 0]))]) := by
  refine XMv.start (by decide) (Nat.le_of_ble_eq_true rfl) ?_
  intro p e s m below meth c args A ls Q hat hQ
  obtain ⟨hx, hb, hr, hml, hown, hg, hlocks, hin, hK, hA, hP, hD, hS, hE, hl⟩ := hat
  have hown : s.vm.findClass RX4 = some m.cls := hown
  have hl : lv_has ls 2 [(0, .ref h0)] := hl
  refine lv_iconst (v := 0) hx hb dX4_clear_0 (by decide) ?_
  refine lv_istore_n (lv' := [(1, .int 0), (0, .ref h0)]) hx hb dX4_clear_1 rfl hl (by decide) rfl (fun ls hl => ?_)
  have loop1 : ∀ (n i1 : Nat), i1 ≤ 4 → 5 ≤ i1 + n → ∀ (H : Heap) (locs : List Loc), va_P D vwCl [(h0, .inr (4, [.ref h1, v1, v2, v3, v4, v5, .ref h7, v7, .ref h9, .ref h10, .ref h11, v11, v12, v13, v14, v15])), (h1, .inl (cy 1, 4, .inl (fun _ => 0))), (h7, .inl (cy 1, 48, .inl (fx))), (h9, .inr (3, [ya0, ya1, ya2, ya3])), (h10, .inr (3, [yb0, yb1, yb2, yb3])), (h11, .inr (3, [yc0, yc1, yc2, yc3]))] H → va_D A [(h0, .inr (4, [.ref h1, v1, v2, v3, v4, v5, .ref h7, v7, .ref h9, .ref h10, .ref h11, v11, v12, v13, v14, v15])), (h1, .inl (cy 1, 4, .inl (fun _ => 0))), (h7, .inl (cy 1, 48, .inl (fx))), (h9, .inr (3, [ya0, ya1, ya2, ya3])), (h10, .inr (3, [yb0, yb1, yb2, yb3])), (h11, .inr (3, [yc0, yc1, yc2, yc3]))] → va_S A s.heap H locs → ∀ ls : Array Slot, lv_has ls 2 [(1, .int (nI i1)), (0, .ref h0)] → W p l e (rmk 1 0 0) s m args below meth c H locs 0 0 Q (F0 m 2 ls []) := by
    intro n
    induction n with
    | zero => intro i1 h1 h2; exact absurd h2 (by omega)
    | succ n ih =>
      intro i1 hi1 hn1  H locs hP hD hS ls hl
      have ih1 := ih
      refine lv_iload_n hx hb dX4_clear_2 rfl (lv_at hl 0 rfl) ?_
      refine lv_aload_n hx hb dX4_clear_3 rfl (lv_at hl 1 rfl) ?_
      refine va_get (D := D) (ci := 4) (v := .ref h1) (C := RX4) (T := TX4) (N := 16) hx hb hg i_X4 hown hK hP 0 rfl rfl 0 (by decide) (hg _ m_329) (fun _ h9 => h9) rfl dX4_clear_4 ?_
      refine va_alen (v := 4) hx hb hK hP 1 1 rfl rfl rfl dX4_clear_7 ?_
      refine lv_icmp_ge (tgt := 24) hx hb dX4_clear_8 (by decide) (fun c1 => ?_) (fun c1 => ?_)
      · have hend1 : i1 = 4 := lp_end (N := 4) (by decide) hi1 (by decide) c1
        subst hend1
        refine lv_iconst (v := 0) hx hb dX4_clear_24 (by decide) ?_
        refine lv_istore_n (lv' := [(1, .int 0), (0, .ref h0)]) hx hb dX4_clear_25 rfl hl (by decide) rfl (fun ls hl => ?_)
        have loop2 : ∀ (n i2 : Nat), i2 ≤ 48 → 49 ≤ i2 + n → ∀ (fq : Nat → Int32), ∀ (H : Heap) (locs : List Loc), va_P D vwCl [(h0, .inr (4, [.ref h1, v1, v2, v3, v4, v5, .ref h7, v7, .ref h9, .ref h10, .ref h11, v11, v12, v13, v14, v15])), (h1, .inl (cy 1, 4, .inl (fun _ => 0))), (h7, .inl (cy 1, 48, .inl (fq))), (h9, .inr (3, [ya0, ya1, ya2, ya3])), (h10, .inr (3, [yb0, yb1, yb2, yb3])), (h11, .inr (3, [yc0, yc1, yc2, yc3]))] H → va_D A [(h0, .inr (4, [.ref h1, v1, v2, v3, v4, v5, .ref h7, v7, .ref h9, .ref h10, .ref h11, v11, v12, v13, v14, v15])), (h1, .inl (cy 1, 4, .inl (fun _ => 0))), (h7, .inl (cy 1, 48, .inl (fq))), (h9, .inr (3, [ya0, ya1, ya2, ya3])), (h10, .inr (3, [yb0, yb1, yb2, yb3])), (h11, .inr (3, [yc0, yc1, yc2, yc3]))] → va_S A s.heap H locs → ∀ ls : Array Slot, lv_has ls 2 [(1, .int (nI i2)), (0, .ref h0)] → W p l e (rmk 1 0 0) s m args below meth c H locs 0 0 Q (F0 m 26 ls []) := by
          intro n
          induction n with
          | zero => intro i2 h1 h2; exact absurd h2 (by omega)
          | succ n ih =>
            intro i2 hi2 hn2 fq H locs hP hD hS ls hl
            have ih2 := ih
            refine lv_iload_n hx hb dX4_clear_26 rfl (lv_at hl 0 rfl) ?_
            refine lv_aload_n hx hb dX4_clear_27 rfl (lv_at hl 1 rfl) ?_
            refine va_get (D := D) (ci := 4) (v := .ref h7) (C := RX4) (T := TX4) (N := 16) hx hb hg i_X4 hown hK hP 0 rfl rfl 6 (by decide) (hg _ m_354) (fun _ h9 => h9) rfl dX4_clear_28 ?_
            refine va_alen (v := 48) hx hb hK hP 2 1 rfl rfl rfl dX4_clear_31 ?_
            refine lv_icmp_ge (tgt := 48) hx hb dX4_clear_32 (by decide) (fun c2 => ?_) (fun c2 => ?_)
            · have hend2 : i2 = 48 := lp_end (N := 48) (by decide) hi2 (by decide) c2
              subst hend2
              refine lv_aload_n hx hb dX4_clear_48 rfl (lv_at hl 1 rfl) ?_
              refine va_get (D := D) (ci := 4) (v := .ref h9) (C := RX4) (T := TX4) (N := 16) hx hb hg i_X4 hown hK hP 0 rfl rfl 8 (by decide) (hg _ m_360) (fun _ h9 => h9) rfl dX4_clear_49 ?_
              refine x_callVv (q := (RX3, TX3, 4)) (ci := 3) (q0 := 0) (wr := [(h0, .inr (4, [.ref h1, v1, v2, v3, v4, v5, .ref h7, v7, .ref h9, .ref h10, .ref h11, v11, v12, v13, v14, v15])), (h1, .inl (cy 1, 4, .inl (fun _ => 0))), (h7, .inl (cy 1, 48, .inl (fq))), (h10, .inr (3, [yb0, yb1, yb2, yb3])), (h11, .inr (3, [yc0, yc1, yc2, yc3]))]) (rest := []) ⟨hx, hb, hml, hown, hg, hl.1⟩ k_X4_55 (c_fclear l D cy h9 ya0 ya1 ya2 ya3) E0_blind hK hP hD hS hA [3] [0, 1, 2, 4, 5] ⟨rfl, rfl, by decide, by decide, by decide⟩ rfl rfl (fun _ _ _ => trivial) dX4_clear_52 rfl rfl (Nat.le_of_ble_eq_true rfl) ⟨Nat.le_of_ble_eq_true rfl, Nat.le_of_ble_eq_true rfl⟩ ⟨Nat.le_of_ble_eq_true rfl, Nat.le_of_ble_eq_true rfl⟩ (fun u3 H locs hw3 hP hD hS => ?_)
              have hP : va_P D vwCl [(h0, .inr (4, [.ref h1, v1, v2, v3, v4, v5, .ref h7, v7, .ref h9, .ref h10, .ref h11, v11, v12, v13, v14, v15])), (h1, .inl (cy 1, 4, .inl (fun _ => 0))), (h7, .inl (cy 1, 48, .inl (fq))), (h10, .inr (3, [yb0, yb1, yb2, yb3])), (h11, .inr (3, [yc0, yc1, yc2, yc3])), (h9, .inr (3, [ya0, ya1, .int 0, .int 0]))] H := hP
              have hD : va_D A [(h0, .inr (4, [.ref h1, v1, v2, v3, v4, v5, .ref h7, v7, .ref h9, .ref h10, .ref h11, v11, v12, v13, v14, v15])), (h1, .inl (cy 1, 4, .inl (fun _ => 0))), (h7, .inl (cy 1, 48, .inl (fq))), (h10, .inr (3, [yb0, yb1, yb2, yb3])), (h11, .inr (3, [yc0, yc1, yc2, yc3])), (h9, .inr (3, [ya0, ya1, .int 0, .int 0]))] := hD
              refine W.widen (k := 0) (n := 0) (Nat.le_of_ble_eq_true rfl) (Nat.le_of_ble_eq_true rfl) ?_
              refine lv_aload_n hx hb dX4_clear_55 rfl (lv_at hl 1 rfl) ?_
              refine va_get (D := D) (ci := 4) (v := .ref h10) (C := RX4) (T := TX4) (N := 16) hx hb hg i_X4 hown hK hP 0 rfl rfl 9 (by decide) (hg _ m_362) (fun _ h9 => h9) rfl dX4_clear_56 ?_
              refine x_callVv (q := (RX3, TX3, 4)) (ci := 3) (q0 := 0) (wr := [(h0, .inr (4, [.ref h1, v1, v2, v3, v4, v5, .ref h7, v7, .ref h9, .ref h10, .ref h11, v11, v12, v13, v14, v15])), (h1, .inl (cy 1, 4, .inl (fun _ => 0))), (h7, .inl (cy 1, 48, .inl (fq))), (h11, .inr (3, [yc0, yc1, yc2, yc3])), (h9, .inr (3, [ya0, ya1, .int 0, .int 0]))]) (rest := []) ⟨hx, hb, hml, hown, hg, hl.1⟩ k_X4_55 (c_fclear l D cy h10 yb0 yb1 yb2 yb3) E0_blind hK hP hD hS hA [3] [0, 1, 2, 4, 5] ⟨rfl, rfl, by decide, by decide, by decide⟩ rfl rfl (fun _ _ _ => trivial) dX4_clear_59 rfl rfl (Nat.le_of_ble_eq_true rfl) ⟨Nat.le_of_ble_eq_true rfl, Nat.le_of_ble_eq_true rfl⟩ ⟨Nat.le_of_ble_eq_true rfl, Nat.le_of_ble_eq_true rfl⟩ (fun u4 H locs hw4 hP hD hS => ?_)
              have hP : va_P D vwCl [(h0, .inr (4, [.ref h1, v1, v2, v3, v4, v5, .ref h7, v7, .ref h9, .ref h10, .ref h11, v11, v12, v13, v14, v15])), (h1, .inl (cy 1, 4, .inl (fun _ => 0))), (h7, .inl (cy 1, 48, .inl (fq))), (h11, .inr (3, [yc0, yc1, yc2, yc3])), (h9, .inr (3, [ya0, ya1, .int 0, .int 0])), (h10, .inr (3, [yb0, yb1, .int 0, .int 0]))] H := hP
              have hD : va_D A [(h0, .inr (4, [.ref h1, v1, v2, v3, v4, v5, .ref h7, v7, .ref h9, .ref h10, .ref h11, v11, v12, v13, v14, v15])), (h1, .inl (cy 1, 4, .inl (fun _ => 0))), (h7, .inl (cy 1, 48, .inl (fq))), (h11, .inr (3, [yc0, yc1, yc2, yc3])), (h9, .inr (3, [ya0, ya1, .int 0, .int 0])), (h10, .inr (3, [yb0, yb1, .int 0, .int 0]))] := hD
              refine W.widen (k := 0) (n := 0) (Nat.le_of_ble_eq_true rfl) (Nat.le_of_ble_eq_true rfl) ?_
              refine lv_aload_n hx hb dX4_clear_62 rfl (lv_at hl 1 rfl) ?_
              refine va_get (D := D) (ci := 4) (v := .ref h11) (C := RX4) (T := TX4) (N := 16) hx hb hg i_X4 hown hK hP 0 rfl rfl 10 (by decide) (hg _ m_365) (fun _ h9 => h9) rfl dX4_clear_63 ?_
              refine x_callVv (q := (RX3, TX3, 4)) (ci := 3) (q0 := 0) (wr := [(h0, .inr (4, [.ref h1, v1, v2, v3, v4, v5, .ref h7, v7, .ref h9, .ref h10, .ref h11, v11, v12, v13, v14, v15])), (h1, .inl (cy 1, 4, .inl (fun _ => 0))), (h7, .inl (cy 1, 48, .inl (fq))), (h9, .inr (3, [ya0, ya1, .int 0, .int 0])), (h10, .inr (3, [yb0, yb1, .int 0, .int 0]))]) (rest := []) ⟨hx, hb, hml, hown, hg, hl.1⟩ k_X4_55 (c_fclear l D cy h11 yc0 yc1 yc2 yc3) E0_blind hK hP hD hS hA [3] [0, 1, 2, 4, 5] ⟨rfl, rfl, by decide, by decide, by decide⟩ rfl rfl (fun _ _ _ => trivial) dX4_clear_66 rfl rfl (Nat.le_of_ble_eq_true rfl) ⟨Nat.le_of_ble_eq_true rfl, Nat.le_of_ble_eq_true rfl⟩ ⟨Nat.le_of_ble_eq_true rfl, Nat.le_of_ble_eq_true rfl⟩ (fun u5 H locs hw5 hP hD hS => ?_)
              have hP : va_P D vwCl [(h0, .inr (4, [.ref h1, v1, v2, v3, v4, v5, .ref h7, v7, .ref h9, .ref h10, .ref h11, v11, v12, v13, v14, v15])), (h1, .inl (cy 1, 4, .inl (fun _ => 0))), (h7, .inl (cy 1, 48, .inl (fq))), (h9, .inr (3, [ya0, ya1, .int 0, .int 0])), (h10, .inr (3, [yb0, yb1, .int 0, .int 0])), (h11, .inr (3, [yc0, yc1, .int 0, .int 0]))] H := hP
              have hD : va_D A [(h0, .inr (4, [.ref h1, v1, v2, v3, v4, v5, .ref h7, v7, .ref h9, .ref h10, .ref h11, v11, v12, v13, v14, v15])), (h1, .inl (cy 1, 4, .inl (fun _ => 0))), (h7, .inl (cy 1, 48, .inl (fq))), (h9, .inr (3, [ya0, ya1, .int 0, .int 0])), (h10, .inr (3, [yb0, yb1, .int 0, .int 0])), (h11, .inr (3, [yc0, yc1, .int 0, .int 0]))] := hD
              refine W.widen (k := 0) (n := 0) (Nat.le_of_ble_eq_true rfl) (Nat.le_of_ble_eq_true rfl) ?_
              refine lv_aload_n hx hb dX4_clear_69 rfl (lv_at hl 1 rfl) ?_
              refine lv_iconst (v := 0) hx hb dX4_clear_70 (by decide) ?_
              refine va_put (D := D) (ci := 4) (v := .int 0) (ty := .int) (C := RX4) (T := TX4) (N := 16) hx hb hg i_X4 tyX4 tyX4_ok nmX4 hown hK hP hD hS 0 rfl rfl 11 (by decide) (hg _ m_368) (fun _ h9 => h9) rfl (by decide +kernel) rfl rfl (Nat.le_of_ble_eq_true rfl) dX4_clear_71 (fun H locs hP hD hS => ?_)
              have hP : va_P D vwCl [(h0, .inr (4, [.ref h1, v1, v2, v3, v4, v5, .ref h7, v7, .ref h9, .ref h10, .ref h11, .int 0, v12, v13, v14, v15])), (h1, .inl (cy 1, 4, .inl (fun _ => 0))), (h7, .inl (cy 1, 48, .inl (fq))), (h9, .inr (3, [ya0, ya1, .int 0, .int 0])), (h10, .inr (3, [yb0, yb1, .int 0, .int 0])), (h11, .inr (3, [yc0, yc1, .int 0, .int 0]))] H := hP
              have hD : va_D A [(h0, .inr (4, [.ref h1, v1, v2, v3, v4, v5, .ref h7, v7, .ref h9, .ref h10, .ref h11, .int 0, v12, v13, v14, v15])), (h1, .inl (cy 1, 4, .inl (fun _ => 0))), (h7, .inl (cy 1, 48, .inl (fq))), (h9, .inr (3, [ya0, ya1, .int 0, .int 0])), (h10, .inr (3, [yb0, yb1, .int 0, .int 0])), (h11, .inr (3, [yc0, yc1, .int 0, .int 0]))] := hD
              refine lv_aload_n hx hb dX4_clear_74 rfl (lv_at hl 1 rfl) ?_
              refine lv_iconst (v := 0) hx hb dX4_clear_75 (by decide) ?_
              refine va_put (D := D) (ci := 4) (v := .int 0) (ty := .int) (C := RX4) (T := TX4) (N := 16) hx hb hg i_X4 tyX4 tyX4_ok nmX4 hown hK hP hD hS 0 rfl rfl 12 (by decide) (hg _ m_371) (fun _ h9 => h9) rfl (by decide +kernel) rfl rfl (Nat.le_of_ble_eq_true rfl) dX4_clear_76 (fun H locs hP hD hS => ?_)
              have hP : va_P D vwCl [(h0, .inr (4, [.ref h1, v1, v2, v3, v4, v5, .ref h7, v7, .ref h9, .ref h10, .ref h11, .int 0, .int 0, v13, v14, v15])), (h1, .inl (cy 1, 4, .inl (fun _ => 0))), (h7, .inl (cy 1, 48, .inl (fq))), (h9, .inr (3, [ya0, ya1, .int 0, .int 0])), (h10, .inr (3, [yb0, yb1, .int 0, .int 0])), (h11, .inr (3, [yc0, yc1, .int 0, .int 0]))] H := hP
              have hD : va_D A [(h0, .inr (4, [.ref h1, v1, v2, v3, v4, v5, .ref h7, v7, .ref h9, .ref h10, .ref h11, .int 0, .int 0, v13, v14, v15])), (h1, .inl (cy 1, 4, .inl (fun _ => 0))), (h7, .inl (cy 1, 48, .inl (fq))), (h9, .inr (3, [ya0, ya1, .int 0, .int 0])), (h10, .inr (3, [yb0, yb1, .int 0, .int 0])), (h11, .inr (3, [yc0, yc1, .int 0, .int 0]))] := hD
              refine lv_aload_n hx hb dX4_clear_79 rfl (lv_at hl 1 rfl) ?_
              refine lv_iconst (v := 0) hx hb dX4_clear_80 (by decide) ?_
              refine va_put (D := D) (ci := 4) (v := .int 0) (ty := .int) (C := RX4) (T := TX4) (N := 16) hx hb hg i_X4 tyX4 tyX4_ok nmX4 hown hK hP hD hS 0 rfl rfl 13 (by decide) (hg _ m_375) (fun _ h9 => h9) rfl (by decide +kernel) rfl rfl (Nat.le_of_ble_eq_true rfl) dX4_clear_81 (fun H locs hP hD hS => ?_)
              have hP : va_P D vwCl [(h0, .inr (4, [.ref h1, v1, v2, v3, v4, v5, .ref h7, v7, .ref h9, .ref h10, .ref h11, .int 0, .int 0, .int 0, v14, v15])), (h1, .inl (cy 1, 4, .inl (fun _ => 0))), (h7, .inl (cy 1, 48, .inl (fq))), (h9, .inr (3, [ya0, ya1, .int 0, .int 0])), (h10, .inr (3, [yb0, yb1, .int 0, .int 0])), (h11, .inr (3, [yc0, yc1, .int 0, .int 0]))] H := hP
              have hD : va_D A [(h0, .inr (4, [.ref h1, v1, v2, v3, v4, v5, .ref h7, v7, .ref h9, .ref h10, .ref h11, .int 0, .int 0, .int 0, v14, v15])), (h1, .inl (cy 1, 4, .inl (fun _ => 0))), (h7, .inl (cy 1, 48, .inl (fq))), (h9, .inr (3, [ya0, ya1, .int 0, .int 0])), (h10, .inr (3, [yb0, yb1, .int 0, .int 0])), (h11, .inr (3, [yc0, yc1, .int 0, .int 0]))] := hD
              refine lv_aload_n hx hb dX4_clear_84 rfl (lv_at hl 1 rfl) ?_
              refine lv_iconst (v := 0) hx hb dX4_clear_85 (by decide) ?_
              refine va_put (D := D) (ci := 4) (v := .int 0) (ty := .int) (C := RX4) (T := TX4) (N := 16) hx hb hg i_X4 tyX4 tyX4_ok nmX4 hown hK hP hD hS 0 rfl rfl 14 (by decide) (hg _ m_379) (fun _ h9 => h9) rfl (by decide +kernel) rfl rfl (Nat.le_of_ble_eq_true rfl) dX4_clear_86 (fun H locs hP hD hS => ?_)
              have hP : va_P D vwCl [(h0, .inr (4, [.ref h1, v1, v2, v3, v4, v5, .ref h7, v7, .ref h9, .ref h10, .ref h11, .int 0, .int 0, .int 0, .int 0, v15])), (h1, .inl (cy 1, 4, .inl (fun _ => 0))), (h7, .inl (cy 1, 48, .inl (fq))), (h9, .inr (3, [ya0, ya1, .int 0, .int 0])), (h10, .inr (3, [yb0, yb1, .int 0, .int 0])), (h11, .inr (3, [yc0, yc1, .int 0, .int 0]))] H := hP
              have hD : va_D A [(h0, .inr (4, [.ref h1, v1, v2, v3, v4, v5, .ref h7, v7, .ref h9, .ref h10, .ref h11, .int 0, .int 0, .int 0, .int 0, v15])), (h1, .inl (cy 1, 4, .inl (fun _ => 0))), (h7, .inl (cy 1, 48, .inl (fq))), (h9, .inr (3, [ya0, ya1, .int 0, .int 0])), (h10, .inr (3, [yb0, yb1, .int 0, .int 0])), (h11, .inr (3, [yc0, yc1, .int 0, .int 0]))] := hD
              refine lv_aload_n hx hb dX4_clear_89 rfl (lv_at hl 1 rfl) ?_
              refine lv_iconst (v := 0) hx hb dX4_clear_90 (by decide) ?_
              refine va_put (D := D) (ci := 4) (v := .int 0) (ty := .int) (C := RX4) (T := TX4) (N := 16) hx hb hg i_X4 tyX4 tyX4_ok nmX4 hown hK hP hD hS 0 rfl rfl 15 (by decide) (hg _ m_381) (fun _ h9 => h9) rfl (by decide +kernel) rfl rfl (Nat.le_of_ble_eq_true rfl) dX4_clear_91 (fun H locs hP hD hS => ?_)
              have hP : va_P D vwCl [(h0, .inr (4, [.ref h1, v1, v2, v3, v4, v5, .ref h7, v7, .ref h9, .ref h10, .ref h11, .int 0, .int 0, .int 0, .int 0, .int 0])), (h1, .inl (cy 1, 4, .inl (fun _ => 0))), (h7, .inl (cy 1, 48, .inl (fq))), (h9, .inr (3, [ya0, ya1, .int 0, .int 0])), (h10, .inr (3, [yb0, yb1, .int 0, .int 0])), (h11, .inr (3, [yc0, yc1, .int 0, .int 0]))] H := hP
              have hD : va_D A [(h0, .inr (4, [.ref h1, v1, v2, v3, v4, v5, .ref h7, v7, .ref h9, .ref h10, .ref h11, .int 0, .int 0, .int 0, .int 0, .int 0])), (h1, .inl (cy 1, 4, .inl (fun _ => 0))), (h7, .inl (cy 1, 48, .inl (fq))), (h9, .inr (3, [ya0, ya1, .int 0, .int 0])), (h10, .inr (3, [yb0, yb1, .int 0, .int 0])), (h11, .inr (3, [yc0, yc1, .int 0, .int 0]))] := hD
              exact x_vret hQ hx hb hr hlocks hK hP hD hS dX4_clear_94 fq (trivial) [0, 1, 2, 3, 4, 5] (by decide) rfl (Nat.le_of_ble_eq_true rfl) (Nat.le_of_ble_eq_true rfl)
            · have hlt2 : i2 < 48 := lp_go (by decide) hi2 (by decide) c2
              refine lv_aload_n hx hb dX4_clear_35 rfl (lv_at hl 1 rfl) ?_
              refine va_get (D := D) (ci := 4) (v := .ref h7) (C := RX4) (T := TX4) (N := 16) hx hb hg i_X4 hown hK hP 0 rfl rfl 6 (by decide) (hg _ m_354) (fun _ h9 => h9) rfl dX4_clear_36 ?_
              refine lv_iload_n hx hb dX4_clear_39 rfl (lv_at hl 0 rfl) ?_
              refine lv_iconst (v := -1) hx hb dX4_clear_40 (by decide) ?_
              refine va_iast hx hb hK hP hD hS 2 1 rfl rfl (vp_in_nI (by omega) (by decide)) dX4_clear_41 (fun H locs hP hD hS => ?_)
              obtain ⟨g_6, eg_6⟩ : ∃ y, upd fq (nI i2 : Int32).toNatClampNeg (-1) = y := ⟨_, rfl⟩
              rw [eg_6] at hP hD
              have hP : va_P D vwCl [(h0, .inr (4, [.ref h1, v1, v2, v3, v4, v5, .ref h7, v7, .ref h9, .ref h10, .ref h11, v11, v12, v13, v14, v15])), (h1, .inl (cy 1, 4, .inl (fun _ => 0))), (h7, .inl (cy 1, 48, .inl (g_6))), (h9, .inr (3, [ya0, ya1, ya2, ya3])), (h10, .inr (3, [yb0, yb1, yb2, yb3])), (h11, .inr (3, [yc0, yc1, yc2, yc3]))] H := hP
              have hD : va_D A [(h0, .inr (4, [.ref h1, v1, v2, v3, v4, v5, .ref h7, v7, .ref h9, .ref h10, .ref h11, v11, v12, v13, v14, v15])), (h1, .inl (cy 1, 4, .inl (fun _ => 0))), (h7, .inl (cy 1, 48, .inl (g_6))), (h9, .inr (3, [ya0, ya1, ya2, ya3])), (h10, .inr (3, [yb0, yb1, yb2, yb3])), (h11, .inr (3, [yc0, yc1, yc2, yc3]))] := hD
              refine lv_iinc (v := nI (i2 + 1)) (lv' := [(1, .int (nI (i2 + 1))), (0, .ref h0)]) hx hb dX4_clear_42 hl (k := 0) rfl (lp_inc i2) (by decide) rfl (fun ls hl => ?_)
              refine lv_goto (tgt := 26) hx hb dX4_clear_45 (by decide) ?_
              exact ih2 (i2 + 1) (by omega) (by omega) g_6 _ _ (hP.sub [0, 1, 2, 3, 4, 5] rfl) (hD.sub [0, 1, 2, 3, 4, 5] (by decide) rfl) hS ls (lv_sub hl [0, 1] rfl)
        exact loop2 49 0 (by omega) (by omega) fx _ _ (hP.sub [0, 1, 2, 3, 4, 5] rfl) (hD.sub [0, 1, 2, 3, 4, 5] (by decide) rfl) hS ls (lv_sub hl [0, 1] rfl)
      · have hlt1 : i1 < 4 := lp_go (by decide) hi1 (by decide) c1
        refine lv_aload_n hx hb dX4_clear_11 rfl (lv_at hl 1 rfl) ?_
        refine va_get (D := D) (ci := 4) (v := .ref h1) (C := RX4) (T := TX4) (N := 16) hx hb hg i_X4 hown hK hP 0 rfl rfl 0 (by decide) (hg _ m_329) (fun _ h9 => h9) rfl dX4_clear_12 ?_
        refine lv_iload_n hx hb dX4_clear_15 rfl (lv_at hl 0 rfl) ?_
        refine lv_iconst (v := 0) hx hb dX4_clear_16 (by decide) ?_
        refine va_iast hx hb hK hP hD hS 1 1 rfl rfl (vp_in_nI (by omega) (by decide)) dX4_clear_17 (fun H locs hP hD hS => ?_)
        rw [upd_z] at hP hD
        have hP : va_P D vwCl [(h0, .inr (4, [.ref h1, v1, v2, v3, v4, v5, .ref h7, v7, .ref h9, .ref h10, .ref h11, v11, v12, v13, v14, v15])), (h1, .inl (cy 1, 4, .inl (fun _ => 0))), (h7, .inl (cy 1, 48, .inl (fx))), (h9, .inr (3, [ya0, ya1, ya2, ya3])), (h10, .inr (3, [yb0, yb1, yb2, yb3])), (h11, .inr (3, [yc0, yc1, yc2, yc3]))] H := hP
        have hD : va_D A [(h0, .inr (4, [.ref h1, v1, v2, v3, v4, v5, .ref h7, v7, .ref h9, .ref h10, .ref h11, v11, v12, v13, v14, v15])), (h1, .inl (cy 1, 4, .inl (fun _ => 0))), (h7, .inl (cy 1, 48, .inl (fx))), (h9, .inr (3, [ya0, ya1, ya2, ya3])), (h10, .inr (3, [yb0, yb1, yb2, yb3])), (h11, .inr (3, [yc0, yc1, yc2, yc3]))] := hD
        refine lv_iinc (v := nI (i1 + 1)) (lv' := [(1, .int (nI (i1 + 1))), (0, .ref h0)]) hx hb dX4_clear_18 hl (k := 0) rfl (lp_inc i1) (by decide) rfl (fun ls hl => ?_)
        refine lv_goto (tgt := 2) hx hb dX4_clear_21 (by decide) ?_
        exact ih1 (i1 + 1) (by omega) (by omega)  _ _ (hP.sub [0, 1, 2, 3, 4, 5] rfl) (hD.sub [0, 1, 2, 3, 4, 5] (by decide) rfl) hS ls (lv_sub hl [0, 1] rfl)
  exact loop1 5 0 (by omega) (by omega)  _ _ (hP.sub [0, 1, 2, 3, 4, 5] rfl) (hD.sub [0, 1, 2, 3, 4, 5] (by decide) rfl) hS ls (lv_sub hl [0, 1] rfl)
theorem dX4_settle_0 : decode cX4_settle 0 = .ok (.iconst 0, 1) := by decide +kernel
theorem dX4_settle_1 : decode cX4_settle 1 = .ok (.istore_n 1, 1) := by decide +kernel
theorem dX4_settle_2 : decode cX4_settle 2 = .ok (.iload_n 1, 1) := by decide +kernel
theorem dX4_settle_3 : decode cX4_settle 3 = .ok (.aload_n 0, 1) := by decide +kernel
theorem dX4_settle_4 : decode cX4_settle 4 = .ok (.getfield 30, 3) := by decide +kernel
theorem dX4_settle_7 : decode cX4_settle 7 = .ok (.arraylength, 1) := by decide +kernel
theorem dX4_settle_8 : decode cX4_settle 8 = .ok (.if_icmp .ge 29, 3) := by decide +kernel
theorem dX4_settle_37 : decode cX4_settle 37 = .ok (.return_, 1) := by decide +kernel
theorem dX4_settle_11 : decode cX4_settle 11 = .ok (.aload_n 0, 1) := by decide +kernel
theorem dX4_settle_12 : decode cX4_settle 12 = .ok (.getfield 30, 3) := by decide +kernel
theorem dX4_settle_15 : decode cX4_settle 15 = .ok (.iload_n 1, 1) := by decide +kernel
theorem dX4_settle_16 : decode cX4_settle 16 = .ok (.iaload, 1) := by decide +kernel
theorem dX4_settle_17 : decode cX4_settle 17 = .ok (.iconst (-1), 1) := by decide +kernel
theorem dX4_settle_18 : decode cX4_settle 18 = .ok (.if_icmp .ne 13, 3) := by decide +kernel
theorem dX4_settle_31 : decode cX4_settle 31 = .ok (.iinc 1 1, 3) := by decide +kernel
theorem dX4_settle_34 : decode cX4_settle 34 = .ok (.goto (-32), 3) := by decide +kernel
theorem dX4_settle_21 : decode cX4_settle 21 = .ok (.aload_n 0, 1) := by decide +kernel
theorem dX4_settle_22 : decode cX4_settle 22 = .ok (.getfield 30, 3) := by decide +kernel
theorem dX4_settle_25 : decode cX4_settle 25 = .ok (.iload_n 1, 1) := by decide +kernel
theorem dX4_settle_26 : decode cX4_settle 26 = .ok (.iload_n 1, 1) := by decide +kernel
theorem dX4_settle_27 : decode cX4_settle 27 = .ok (.bipush 8, 2) := by decide +kernel
theorem dX4_settle_29 : decode cX4_settle 29 = .ok (.idiv, 1) := by decide +kernel
theorem dX4_settle_30 : decode cX4_settle 30 = .ok (.iastore, 1) := by decide +kernel
set_option maxHeartbeats 400000 in
set_option maxRecDepth 100000 in
theorem c_settle (l : Launch) (D : va_G) (cy : Nat → ClassId) (h0 : Nat) (h7 : Nat) (v0 : Value) (v1 : Value) (v2 : Value) (v3 : Value) (v4 : Value) (v5 : Value) (v7 : Value) (v8 : Value) (v9 : Value) (v10 : Value) (v11 : Value) (v12 : Value) (v13 : Value) (v14 : Value) (v15 : Value) (fx : Nat → Int32)  : XMv l D (tyL cy) E0 yX4_settle cX4_settle 2 none (rmk 0 0 0) [.ref h0] [(h0, .inr (4, [v0, v1, v2, v3, v4, v5, .ref h7, v7, v8, v9, v10, v11, v12, v13, v14, v15])), (h7, .inl (cy 1, 48, .inl (fx)))] (fun (fx2 : Nat → Int32) => True) (fun (fx2 : Nat → Int32) => [(h0, .inr (4, [v0, v1, v2, v3, v4, v5, .ref h7, v7, v8, v9, v10, v11, v12, v13, v14, v15])), (h7, .inl (cy 1, 48, .inl (fx2)))]) := by
  refine XMv.start (by decide) (Nat.le_of_ble_eq_true rfl) ?_
  intro p e s m below meth c args A ls Q hat hQ
  obtain ⟨hx, hb, hr, hml, hown, hg, hlocks, hin, hK, hA, hP, hD, hS, hE, hl⟩ := hat
  have hown : s.vm.findClass RX4 = some m.cls := hown
  have hl : lv_has ls 2 [(0, .ref h0)] := hl
  refine lv_iconst (v := 0) hx hb dX4_settle_0 (by decide) ?_
  refine lv_istore_n (lv' := [(1, .int 0), (0, .ref h0)]) hx hb dX4_settle_1 rfl hl (by decide) rfl (fun ls hl => ?_)
  have loop1 : ∀ (n i1 : Nat), i1 ≤ 48 → 49 ≤ i1 + n → ∀ (fq : Nat → Int32), ∀ (H : Heap) (locs : List Loc), va_P D vwCl [(h0, .inr (4, [v0, v1, v2, v3, v4, v5, .ref h7, v7, v8, v9, v10, v11, v12, v13, v14, v15])), (h7, .inl (cy 1, 48, .inl (fq)))] H → va_D A [(h0, .inr (4, [v0, v1, v2, v3, v4, v5, .ref h7, v7, v8, v9, v10, v11, v12, v13, v14, v15])), (h7, .inl (cy 1, 48, .inl (fq)))] → va_S A s.heap H locs → ∀ ls : Array Slot, lv_has ls 2 [(1, .int (nI i1)), (0, .ref h0)] → W p l e (rmk 0 0 0) s m args below meth c H locs 0 0 Q (F0 m 2 ls []) := by
    intro n
    induction n with
    | zero => intro i1 h1 h2; exact absurd h2 (by omega)
    | succ n ih =>
      intro i1 hi1 hn1 fq H locs hP hD hS ls hl
      have ih1 := ih
      refine lv_iload_n hx hb dX4_settle_2 rfl (lv_at hl 0 rfl) ?_
      refine lv_aload_n hx hb dX4_settle_3 rfl (lv_at hl 1 rfl) ?_
      refine va_get (D := D) (ci := 4) (v := .ref h7) (C := RX4) (T := TX4) (N := 16) hx hb hg i_X4 hown hK hP 0 rfl rfl 6 (by decide) (hg _ m_354) (fun _ h9 => h9) rfl dX4_settle_4 ?_
      refine va_alen (v := 48) hx hb hK hP 1 1 rfl rfl rfl dX4_settle_7 ?_
      refine lv_icmp_ge (tgt := 37) hx hb dX4_settle_8 (by decide) (fun c1 => ?_) (fun c1 => ?_)
      · have hend1 : i1 = 48 := lp_end (N := 48) (by decide) hi1 (by decide) c1
        subst hend1
        exact x_vret hQ hx hb hr hlocks hK hP hD hS dX4_settle_37 fq (trivial) [0, 1] (by decide) rfl (Nat.le_of_ble_eq_true rfl) (Nat.le_of_ble_eq_true rfl)
      · have hlt1 : i1 < 48 := lp_go (by decide) hi1 (by decide) c1
        refine lv_aload_n hx hb dX4_settle_11 rfl (lv_at hl 1 rfl) ?_
        refine va_get (D := D) (ci := 4) (v := .ref h7) (C := RX4) (T := TX4) (N := 16) hx hb hg i_X4 hown hK hP 0 rfl rfl 6 (by decide) (hg _ m_354) (fun _ h9 => h9) rfl dX4_settle_12 ?_
        refine lv_iload_n hx hb dX4_settle_15 rfl (lv_at hl 0 rfl) ?_
        refine va_iald hx hb hK hP 1 1 rfl rfl (vp_in_nI (by omega) (by decide)) dX4_settle_16 ?_
        refine lv_topi (fun x_2 ex_2 => ?_)
        refine lv_iconst (v := -1) hx hb dX4_settle_17 (by decide) ?_
        refine lv_icmp_ne (tgt := 31) hx hb dX4_settle_18 (by decide) (fun c_18 => ?_) (fun c_18 => ?_)
        · refine lv_iinc (v := nI (i1 + 1)) (lv' := [(1, .int (nI (i1 + 1))), (0, .ref h0)]) hx hb dX4_settle_31 hl (k := 0) rfl (lp_inc i1) (by decide) rfl (fun ls hl => ?_)
          refine lv_goto (tgt := 2) hx hb dX4_settle_34 (by decide) ?_
          exact ih1 (i1 + 1) (by omega) (by omega) fq _ _ (hP.sub [0, 1] rfl) (hD.sub [0, 1] (by decide) rfl) hS ls (lv_sub hl [0, 1] rfl)
        · refine lv_aload_n hx hb dX4_settle_21 rfl (lv_at hl 1 rfl) ?_
          refine va_get (D := D) (ci := 4) (v := .ref h7) (C := RX4) (T := TX4) (N := 16) hx hb hg i_X4 hown hK hP 0 rfl rfl 6 (by decide) (hg _ m_354) (fun _ h9 => h9) rfl dX4_settle_22 ?_
          refine lv_iload_n hx hb dX4_settle_25 rfl (lv_at hl 0 rfl) ?_
          refine lv_iload_n hx hb dX4_settle_26 rfl (lv_at hl 0 rfl) ?_
          refine lv_bipush (v := 8) hx hb dX4_settle_27 (by decide) ?_
          refine lv_idiv hx hb dX4_settle_29 (by decide) ?_
          refine lv_topi (fun x_3 ex_3 => ?_)
          refine va_iast hx hb hK hP hD hS 1 1 rfl rfl (vp_in_nI (by omega) (by decide)) dX4_settle_30 (fun H locs hP hD hS => ?_)
          obtain ⟨g_4, eg_4⟩ : ∃ y, upd fq (nI i1 : Int32).toNatClampNeg x_3 = y := ⟨_, rfl⟩
          rw [eg_4] at hP hD
          have hP : va_P D vwCl [(h0, .inr (4, [v0, v1, v2, v3, v4, v5, .ref h7, v7, v8, v9, v10, v11, v12, v13, v14, v15])), (h7, .inl (cy 1, 48, .inl (g_4)))] H := hP
          have hD : va_D A [(h0, .inr (4, [v0, v1, v2, v3, v4, v5, .ref h7, v7, v8, v9, v10, v11, v12, v13, v14, v15])), (h7, .inl (cy 1, 48, .inl (g_4)))] := hD
          refine lv_iinc (v := nI (i1 + 1)) (lv' := [(1, .int (nI (i1 + 1))), (0, .ref h0)]) hx hb dX4_settle_31 hl (k := 0) rfl (lp_inc i1) (by decide) rfl (fun ls hl => ?_)
          refine lv_goto (tgt := 2) hx hb dX4_settle_34 (by decide) ?_
          exact ih1 (i1 + 1) (by omega) (by omega) g_4 _ _ (hP.sub [0, 1] rfl) (hD.sub [0, 1] (by decide) rfl) hS ls (lv_sub hl [0, 1] rfl)
  exact loop1 49 0 (by omega) (by omega) fx _ _ (hP.sub [0, 1] rfl) (hD.sub [0, 1] (by decide) rfl) hS ls (lv_sub hl [0, 1] rfl)
theorem dX9_next_0 : decode cX9_next 0 = .ok (.aload_n 0, 1) := by decide +kernel
theorem dX9_next_1 : decode cX9_next 1 = .ok (.getfield 36, 3) := by decide +kernel
theorem m_219 : (Cond.fieldLink RX9 36 "CliffJudges$Tape" "at" "I") ∈ gT := gm 219 (by decide +kernel) (by decide +kernel)
theorem dX9_next_4 : decode cX9_next 4 = .ok (.aload_n 0, 1) := by decide +kernel
theorem dX9_next_5 : decode cX9_next 5 = .ok (.getfield 33, 3) := by decide +kernel
theorem dX9_next_8 : decode cX9_next 8 = .ok (.if_icmp .ge 44, 3) := by decide +kernel
theorem dX9_next_52 : decode cX9_next 52 = .ok (.aload_n 0, 1) := by decide +kernel
theorem dX9_next_53 : decode cX9_next 53 = .ok (.aload_n 0, 1) := by decide +kernel
theorem dX9_next_54 : decode cX9_next 54 = .ok (.getfield 36, 3) := by decide +kernel
theorem dX9_next_57 : decode cX9_next 57 = .ok (.putfield 42, 3) := by decide +kernel
theorem m_221 : (Cond.fieldLink RX9 42 "CliffJudges$Tape" "start" "I") ∈ gT := gm 221 (by decide +kernel) (by decide +kernel)
theorem dX9_next_60 : decode cX9_next 60 = .ok (.aload_n 0, 1) := by decide +kernel
theorem dX9_next_61 : decode cX9_next 61 = .ok (.getfield 36, 3) := by decide +kernel
theorem dX9_next_64 : decode cX9_next 64 = .ok (.aload_n 0, 1) := by decide +kernel
theorem dX9_next_65 : decode cX9_next 65 = .ok (.getfield 33, 3) := by decide +kernel
theorem dX9_next_68 : decode cX9_next 68 = .ok (.if_icmp .lt 11, 3) := by decide +kernel
theorem dX9_next_71 : decode cX9_next 71 = .ok (.aload_n 0, 1) := by decide +kernel
theorem dX9_next_72 : decode cX9_next 72 = .ok (.iconst 0, 1) := by decide +kernel
theorem dX9_next_73 : decode cX9_next 73 = .ok (.putfield 45, 3) := by decide +kernel
theorem m_223 : (Cond.fieldLink RX9 45 "CliffJudges$Tape" "kind" "I") ∈ gT := gm 223 (by decide +kernel) (by decide +kernel)
theorem dX9_next_76 : decode cX9_next 76 = .ok (.goto 145, 3) := by decide +kernel
theorem dX9_next_221 : decode cX9_next 221 = .ok (.return_, 1) := by decide +kernel
set_option maxHeartbeats 400000 in
set_option maxRecDepth 100000 in
theorem c_next0 (l : Launch) (D : va_G) (cy : Nat → ClassId) (ta0 : Nat) (tv0 : Value) (tv1 : Value) (tv6 : Value) (tv7 : Value) (tv4 : Value) (tv5 : Value)  : XMv l D (tyL cy) E0 yX9_next cX9_next 2 none (rmk 0 0 0) [.ref ta0] [(ta0, .inr (9, [tv0, tv1, .int 0, .int 0, tv4, tv5, tv6, tv7]))] (fun (_ : Unit) => True) (fun (_ : Unit) => [(ta0, .inr (9, [tv0, tv1, .int 0, .int 0, .int 0, .int 0, tv6, tv7]))]) := by
  refine XMv.start (by decide) (Nat.le_of_ble_eq_true rfl) ?_
  intro p e s m below meth c args A ls Q hat hQ
  obtain ⟨hx, hb, hr, hml, hown, hg, hlocks, hin, hK, hA, hP, hD, hS, hE, hl⟩ := hat
  have hown : s.vm.findClass RX9 = some m.cls := hown
  have hl : lv_has ls 2 [(0, .ref ta0)] := hl
  refine lv_aload_n hx hb dX9_next_0 rfl (lv_at hl 0 rfl) ?_
  refine va_get (D := D) (ci := 9) (v := .int 0) (C := RX9) (T := TX9) (N := 8) hx hb hg i_X9 hown hK hP 0 rfl rfl 3 (by decide) (hg _ m_219) (fun _ h9 => h9) rfl dX9_next_1 ?_
  refine lv_aload_n hx hb dX9_next_4 rfl (lv_at hl 0 rfl) ?_
  refine va_get (D := D) (ci := 9) (v := .int 0) (C := RX9) (T := TX9) (N := 8) hx hb hg i_X9 hown hK hP 0 rfl rfl 2 (by decide) (hg _ m_218) (fun _ h9 => h9) rfl dX9_next_5 ?_
  refine lv_icmp_ge (tgt := 52) hx hb dX9_next_8 (by decide) (fun _ => ?_) (fun h => absurd (by decide) h)
  refine lv_aload_n hx hb dX9_next_52 rfl (lv_at hl 0 rfl) ?_
  refine lv_aload_n hx hb dX9_next_53 rfl (lv_at hl 0 rfl) ?_
  refine va_get (D := D) (ci := 9) (v := .int 0) (C := RX9) (T := TX9) (N := 8) hx hb hg i_X9 hown hK hP 0 rfl rfl 3 (by decide) (hg _ m_219) (fun _ h9 => h9) rfl dX9_next_54 ?_
  refine va_put (D := D) (ci := 9) (v := .int 0) (ty := .int) (C := RX9) (T := TX9) (N := 8) hx hb hg i_X9 tyX9 tyX9_ok nmX9 hown hK hP hD hS 0 rfl rfl 4 (by decide) (hg _ m_221) (fun _ h9 => h9) rfl (by decide +kernel) rfl rfl (Nat.le_of_ble_eq_true rfl) dX9_next_57 (fun H locs hP hD hS => ?_)
  have hP : va_P D vwCl [(ta0, .inr (9, [tv0, tv1, .int 0, .int 0, .int 0, tv5, tv6, tv7]))] H := hP
  have hD : va_D A [(ta0, .inr (9, [tv0, tv1, .int 0, .int 0, .int 0, tv5, tv6, tv7]))] := hD
  refine lv_aload_n hx hb dX9_next_60 rfl (lv_at hl 0 rfl) ?_
  refine va_get (D := D) (ci := 9) (v := .int 0) (C := RX9) (T := TX9) (N := 8) hx hb hg i_X9 hown hK hP 0 rfl rfl 3 (by decide) (hg _ m_219) (fun _ h9 => h9) rfl dX9_next_61 ?_
  refine lv_aload_n hx hb dX9_next_64 rfl (lv_at hl 0 rfl) ?_
  refine va_get (D := D) (ci := 9) (v := .int 0) (C := RX9) (T := TX9) (N := 8) hx hb hg i_X9 hown hK hP 0 rfl rfl 2 (by decide) (hg _ m_218) (fun _ h9 => h9) rfl dX9_next_65 ?_
  refine lv_icmp_lt (tgt := 79) hx hb dX9_next_68 (by decide) (fun h => absurd h (by decide)) (fun _ => ?_)
  refine lv_aload_n hx hb dX9_next_71 rfl (lv_at hl 0 rfl) ?_
  refine lv_iconst (v := 0) hx hb dX9_next_72 (by decide) ?_
  refine va_put (D := D) (ci := 9) (v := .int 0) (ty := .int) (C := RX9) (T := TX9) (N := 8) hx hb hg i_X9 tyX9 tyX9_ok nmX9 hown hK hP hD hS 0 rfl rfl 5 (by decide) (hg _ m_223) (fun _ h9 => h9) rfl (by decide +kernel) rfl rfl (Nat.le_of_ble_eq_true rfl) dX9_next_73 (fun H locs hP hD hS => ?_)
  have hP : va_P D vwCl [(ta0, .inr (9, [tv0, tv1, .int 0, .int 0, .int 0, .int 0, tv6, tv7]))] H := hP
  have hD : va_D A [(ta0, .inr (9, [tv0, tv1, .int 0, .int 0, .int 0, .int 0, tv6, tv7]))] := hD
  refine lv_goto (tgt := 221) hx hb dX9_next_76 (by decide) ?_
  exact x_vret hQ hx hb hr hlocks hK hP hD hS dX9_next_221 () (trivial) [0] (by decide) rfl (Nat.le_of_ble_eq_true rfl) (Nat.le_of_ble_eq_true rfl)
theorem dX9_rewind_0 : decode cX9_rewind 0 = .ok (.aload_n 0, 1) := by decide +kernel
theorem dX9_rewind_1 : decode cX9_rewind 1 = .ok (.iconst 0, 1) := by decide +kernel
theorem dX9_rewind_2 : decode cX9_rewind 2 = .ok (.putfield 36, 3) := by decide +kernel
theorem dX9_rewind_5 : decode cX9_rewind 5 = .ok (.aload_n 0, 1) := by decide +kernel
theorem dX9_rewind_6 : decode cX9_rewind 6 = .ok (.invokevirtual 39, 3) := by decide +kernel
theorem m_726 : (Cond.methodLink RX9 39 yX9_next) ∈ gT := gm 726 (by decide +kernel) (by decide +kernel)
theorem m_727 : (Cond.instanceMethod yX9_next) ∈ gT := gm 727 (by decide +kernel) (by decide +kernel)
theorem m_728 : (Cond.selects RX9 yX9_next yX9_next) ∈ gT := gm 728 (by decide +kernel) (by decide +kernel)
theorem m_729 : (Cond.code yX9_next cX9_next 2 none) ∈ gT := gm 729 (by decide +kernel) (by decide +kernel)
theorem k_X9_39 : xV RX9 RX9 39 yX9_next cX9_next 2 none 0 := ⟨⟨m_726, m_727, m_728, m_131, m_729⟩, rfl, by decide, by decide, by decide +kernel⟩
theorem dX9_rewind_9 : decode cX9_rewind 9 = .ok (.return_, 1) := by decide +kernel
set_option maxHeartbeats 400000 in
set_option maxRecDepth 100000 in
theorem c_rewind0 (l : Launch) (D : va_G) (cy : Nat → ClassId) (ta0 : Nat) (tv0 : Value) (tv1 : Value) (tv6 : Value) (tv7 : Value) (tv3 : Value) (tv4 : Value) (tv5 : Value)  : XMv l D (tyL cy) E0 yX9_rewind cX9_rewind 1 none (rmk 1 0 0) [.ref ta0] [(ta0, .inr (9, [tv0, tv1, .int 0, tv3, tv4, tv5, tv6, tv7]))] (fun (_ : Unit) => True) (fun (_ : Unit) => [(ta0, .inr (9, [tv0, tv1, .int 0, .int 0, .int 0, .int 0, tv6, tv7]))]) := by
  refine XMv.start (by decide) (Nat.le_of_ble_eq_true rfl) ?_
  intro p e s m below meth c args A ls Q hat hQ
  obtain ⟨hx, hb, hr, hml, hown, hg, hlocks, hin, hK, hA, hP, hD, hS, hE, hl⟩ := hat
  have hown : s.vm.findClass RX9 = some m.cls := hown
  have hl : lv_has ls 1 [(0, .ref ta0)] := hl
  refine lv_aload_n hx hb dX9_rewind_0 rfl (lv_at hl 0 rfl) ?_
  refine lv_iconst (v := 0) hx hb dX9_rewind_1 (by decide) ?_
  refine va_put (D := D) (ci := 9) (v := .int 0) (ty := .int) (C := RX9) (T := TX9) (N := 8) hx hb hg i_X9 tyX9 tyX9_ok nmX9 hown hK hP hD hS 0 rfl rfl 3 (by decide) (hg _ m_219) (fun _ h9 => h9) rfl (by decide +kernel) rfl rfl (Nat.le_of_ble_eq_true rfl) dX9_rewind_2 (fun H locs hP hD hS => ?_)
  have hP : va_P D vwCl [(ta0, .inr (9, [tv0, tv1, .int 0, .int 0, tv4, tv5, tv6, tv7]))] H := hP
  have hD : va_D A [(ta0, .inr (9, [tv0, tv1, .int 0, .int 0, tv4, tv5, tv6, tv7]))] := hD
  refine lv_aload_n hx hb dX9_rewind_5 rfl (lv_at hl 0 rfl) ?_
  refine x_callVv (q := (RX9, TX9, 8)) (ci := 9) (q0 := 0) (wr := []) (rest := []) ⟨hx, hb, hml, hown, hg, hl.1⟩ k_X9_39 (c_next0 l D cy ta0 tv0 tv1 tv6 tv7 tv4 tv5) E0_blind hK hP hD hS hA [0] [] ⟨rfl, rfl, by decide, by decide, by decide⟩ rfl rfl (fun _ _ _ => trivial) dX9_rewind_6 rfl rfl (Nat.le_of_ble_eq_true rfl) ⟨Nat.le_of_ble_eq_true rfl, Nat.le_of_ble_eq_true rfl⟩ ⟨Nat.le_of_ble_eq_true rfl, Nat.le_of_ble_eq_true rfl⟩ (fun u1 H locs hw1 hP hD hS => ?_)
  have hP : va_P D vwCl [(ta0, .inr (9, [tv0, tv1, .int 0, .int 0, .int 0, .int 0, tv6, tv7]))] H := hP
  have hD : va_D A [(ta0, .inr (9, [tv0, tv1, .int 0, .int 0, .int 0, .int 0, tv6, tv7]))] := hD
  refine W.widen (k := 0) (n := 0) (Nat.le_of_ble_eq_true rfl) (Nat.le_of_ble_eq_true rfl) ?_
  exact x_vret hQ hx hb hr hlocks hK hP hD hS dX9_rewind_9 () (trivial) [0] (by decide) rfl (Nat.le_of_ble_eq_true rfl) (Nat.le_of_ble_eq_true rfl)
theorem dX10_tell_0 : decode cX10_tell 0 = .ok (.aload_n 0, 1) := by decide +kernel
theorem dX10_tell_1 : decode cX10_tell 1 = .ok (.aload_n 1, 1) := by decide +kernel
theorem dX10_tell_2 : decode cX10_tell 2 = .ok (.putfield 24, 3) := by decide +kernel
theorem m_257 : (Cond.fieldLink RX10 24 "CliffJudges$Teller" "hills" "LCliffJudges$Hills;") ∈ gT := gm 257 (by decide +kernel) (by decide +kernel)
theorem dX10_tell_5 : decode cX10_tell 5 = .ok (.aload_n 0, 1) := by decide +kernel
theorem dX10_tell_6 : decode cX10_tell 6 = .ok (.aload_n 1, 1) := by decide +kernel
theorem dX10_tell_7 : decode cX10_tell 7 = .ok (.getfield 28, 3) := by decide +kernel
theorem m_361 : (Cond.fieldLink RX10 28 "CliffJudges$Hills" "back" "LCliffJudges$Formula;") ∈ gT := gm 361 (by decide +kernel) (by decide +kernel)
theorem dX10_tell_10 : decode cX10_tell 10 = .ok (.putfield 34, 3) := by decide +kernel
theorem m_258 : (Cond.fieldLink RX10 34 "CliffJudges$Teller" "formula" "LCliffJudges$Formula;") ∈ gT := gm 258 (by decide +kernel) (by decide +kernel)
theorem dX10_tell_13 : decode cX10_tell 13 = .ok (.aload_n 1, 1) := by decide +kernel
theorem dX10_tell_14 : decode cX10_tell 14 = .ok (.invokevirtual 37, 3) := by decide +kernel
theorem m_721 : (Cond.methodLink RX10 37 yX4_clear) ∈ gT := gm 721 (by decide +kernel) (by decide +kernel)
theorem m_318 : (Cond.instanceMethod yX4_clear) ∈ gT := gm 318 (by decide +kernel) (by decide +kernel)
theorem m_319 : (Cond.selects RX4 yX4_clear yX4_clear) ∈ gT := gm 319 (by decide +kernel) (by decide +kernel)
theorem m_320 : (Cond.code yX4_clear cX4_clear 2 none) ∈ gT := gm 320 (by decide +kernel) (by decide +kernel)
theorem k_X10_37 : xV RX10 RX4 37 yX4_clear cX4_clear 2 none 0 := ⟨⟨m_721, m_318, m_319, m_137, m_320⟩, rfl, by decide, by decide, by decide +kernel⟩
theorem dX10_tell_17 : decode cX10_tell 17 = .ok (.aload_n 0, 1) := by decide +kernel
theorem dX10_tell_18 : decode cX10_tell 18 = .ok (.iconst 0, 1) := by decide +kernel
theorem dX10_tell_19 : decode cX10_tell 19 = .ok (.putfield 40, 3) := by decide +kernel
theorem m_260 : (Cond.fieldLink RX10 40 "CliffJudges$Teller" "windTold" "Z") ∈ gT := gm 260 (by decide +kernel) (by decide +kernel)
theorem dX10_tell_22 : decode cX10_tell 22 = .ok (.aload_n 0, 1) := by decide +kernel
theorem dX10_tell_23 : decode cX10_tell 23 = .ok (.iconst 0, 1) := by decide +kernel
theorem dX10_tell_24 : decode cX10_tell 24 = .ok (.putfield 44, 3) := by decide +kernel
theorem m_261 : (Cond.fieldLink RX10 44 "CliffJudges$Teller" "drawTold" "Z") ∈ gT := gm 261 (by decide +kernel) (by decide +kernel)
theorem dX10_tell_27 : decode cX10_tell 27 = .ok (.aload_n 0, 1) := by decide +kernel
theorem dX10_tell_28 : decode cX10_tell 28 = .ok (.iconst 0, 1) := by decide +kernel
theorem dX10_tell_29 : decode cX10_tell 29 = .ok (.putfield 47, 3) := by decide +kernel
theorem m_263 : (Cond.fieldLink RX10 47 "CliffJudges$Teller" "fault" "I") ∈ gT := gm 263 (by decide +kernel) (by decide +kernel)
theorem dX10_tell_32 : decode cX10_tell 32 = .ok (.aload_n 0, 1) := by decide +kernel
theorem dX10_tell_33 : decode cX10_tell 33 = .ok (.iconst (-1), 1) := by decide +kernel
theorem dX10_tell_34 : decode cX10_tell 34 = .ok (.putfield 20, 3) := by decide +kernel
theorem m_265 : (Cond.fieldLink RX10 20 "CliffJudges$Teller" "place" "I") ∈ gT := gm 265 (by decide +kernel) (by decide +kernel)
theorem dX10_tell_37 : decode cX10_tell 37 = .ok (.aload_n 0, 1) := by decide +kernel
theorem dX10_tell_38 : decode cX10_tell 38 = .ok (.getfield 16, 3) := by decide +kernel
theorem m_255 : (Cond.fieldLink RX10 16 "CliffJudges$Teller" "tape" "LCliffJudges$Tape;") ∈ gT := gm 255 (by decide +kernel) (by decide +kernel)
theorem dX10_tell_41 : decode cX10_tell 41 = .ok (.invokevirtual 50, 3) := by decide +kernel
theorem m_722 : (Cond.methodLink RX10 50 yX9_rewind) ∈ gT := gm 722 (by decide +kernel) (by decide +kernel)
theorem m_723 : (Cond.instanceMethod yX9_rewind) ∈ gT := gm 723 (by decide +kernel) (by decide +kernel)
theorem m_724 : (Cond.selects RX9 yX9_rewind yX9_rewind) ∈ gT := gm 724 (by decide +kernel) (by decide +kernel)
theorem m_725 : (Cond.code yX9_rewind cX9_rewind 1 none) ∈ gT := gm 725 (by decide +kernel) (by decide +kernel)
theorem k_X10_50 : xV RX10 RX9 50 yX9_rewind cX9_rewind 1 none 0 := ⟨⟨m_722, m_723, m_724, m_131, m_725⟩, rfl, by decide, by decide, by decide +kernel⟩
theorem dX10_tell_44 : decode cX10_tell 44 = .ok (.iconst 1, 1) := by decide +kernel
theorem dX10_tell_45 : decode cX10_tell 45 = .ok (.istore_n 2, 1) := by decide +kernel
theorem dX10_tell_46 : decode cX10_tell 46 = .ok (.iconst 0, 1) := by decide +kernel
theorem dX10_tell_47 : decode cX10_tell 47 = .ok (.istore_n 3, 1) := by decide +kernel
theorem dX10_tell_48 : decode cX10_tell 48 = .ok (.iload_n 3, 1) := by decide +kernel
theorem dX10_tell_49 : decode cX10_tell 49 = .ok (.sipush 1600, 3) := by decide +kernel
theorem dX10_tell_52 : decode cX10_tell 52 = .ok (.if_icmp .ge 28, 3) := by decide +kernel
theorem dX10_tell_55 : decode cX10_tell 55 = .ok (.iload_n 2, 1) := by decide +kernel
theorem dX10_tell_56 : decode cX10_tell 56 = .ok (.ifCond .eq 24, 3) := by decide +kernel
theorem dX10_tell_59 : decode cX10_tell 59 = .ok (.aload_n 0, 1) := by decide +kernel
theorem dX10_tell_60 : decode cX10_tell 60 = .ok (.getfield 16, 3) := by decide +kernel
theorem dX10_tell_63 : decode cX10_tell 63 = .ok (.getfield 55, 3) := by decide +kernel
theorem m_222 : (Cond.fieldLink RX10 55 "CliffJudges$Tape" "kind" "I") ∈ gT := gm 222 (by decide +kernel) (by decide +kernel)
theorem dX10_tell_66 : decode cX10_tell 66 = .ok (.ifCond .eq 14, 3) := by decide +kernel
theorem dX10_tell_80 : decode cX10_tell 80 = .ok (.aload_n 1, 1) := by decide +kernel
theorem dX10_tell_81 : decode cX10_tell 81 = .ok (.invokevirtual 62, 3) := by decide +kernel
theorem m_925 : (Cond.methodLink RX10 62 yX4_settle) ∈ gT := gm 925 (by decide +kernel) (by decide +kernel)
theorem m_326 : (Cond.instanceMethod yX4_settle) ∈ gT := gm 326 (by decide +kernel) (by decide +kernel)
theorem m_327 : (Cond.selects RX4 yX4_settle yX4_settle) ∈ gT := gm 327 (by decide +kernel) (by decide +kernel)
theorem m_328 : (Cond.code yX4_settle cX4_settle 2 none) ∈ gT := gm 328 (by decide +kernel) (by decide +kernel)
theorem k_X10_62 : xV RX10 RX4 62 yX4_settle cX4_settle 2 none 0 := ⟨⟨m_925, m_326, m_327, m_137, m_328⟩, rfl, by decide, by decide, by decide +kernel⟩
theorem dX10_tell_84 : decode cX10_tell 84 = .ok (.iload_n 2, 1) := by decide +kernel
theorem dX10_tell_85 : decode cX10_tell 85 = .ok (.ireturn, 1) := by decide +kernel
set_option maxHeartbeats 400000 in
set_option maxRecDepth 100000 in
theorem c_tell0 (l : Launch) (D : va_G) (cy : Nat → ClassId) (te0 : Nat) (sv1 : Value) (sv2 : Value) (sv3 : Value) (sv4 : Value) (sv5 : Value) (sv6 : Value) (sv7 : Value) (sv8 : Value) (sv9 : Value) (ta0 : Nat) (tv0 : Value) (tv1 : Value) (tv6 : Value) (tv7 : Value) (tv3 : Value) (tv4 : Value) (tv5 : Value) (h0 : Nat) (h1 : Nat) (h7 : Nat) (h9 : Nat) (h10 : Nat) (h11 : Nat) (v1 : Value) (v2 : Value) (v3 : Value) (v4 : Value) (v5 : Value) (v7 : Value) (v11 : Value) (v12 : Value) (v13 : Value) (v14 : Value) (v15 : Value) (ya0 : Value) (ya1 : Value) (ya2 : Value) (ya3 : Value) (yb0 : Value) (yb1 : Value) (yb2 : Value) (yb3 : Value) (yc0 : Value) (yc1 : Value) (yc2 : Value) (yc3 : Value) (fx : Nat → Int32)  : XMi l D (tyL cy) E0 yX10_tell cX10_tell 4 (some .boolean) (rmk 2 0 0) [.ref te0, .ref h0] [(te0, .inr (10, [.ref ta0, sv1, sv2, sv3, sv4, sv5, sv6, sv7, sv8, sv9])), (ta0, .inr (9, [tv0, tv1, .int 0, tv3, tv4, tv5, tv6, tv7])), (h0, .inr (4, [.ref h1, v1, v2, v3, v4, v5, .ref h7, v7, .ref h9, .ref h10, .ref h11, v11, v12, v13, v14, v15])), (h1, .inl (cy 1, 4, .inl (fun _ => 0))), (h7, .inl (cy 1, 48, .inl (fx))), (h9, .inr (3, [ya0, ya1, ya2, ya3])), (h10, .inr (3, [yb0, yb1, yb2, yb3])), (h11, .inr (3, [yc0, yc1, yc2, yc3]))] (fun (r : Int32) (fx2 : Nat → Int32) => r = 1) (fun (fx2 : Nat → Int32) => [(ta0, .inr (9, [tv0, tv1, .int 0, .int 0, .int 0, .int 0, tv6, tv7])), (h0, .inr (4, [.ref h1, v1, v2, v3, v4, v5, .ref h7, v7, .ref h9, .ref h10, .ref h11, .int 0, .int 0, .int 0, .int 0, .int 0])), (h1, .inl (cy 1, 4, .inl (fun _ => 0))), (h7, .inl (cy 1, 48, .inl (fx2)))]) := by
  refine XMi.start (by decide) (Nat.le_of_ble_eq_true rfl) ?_
  intro p e s m below meth c args A ls Q hat hQ
  obtain ⟨hx, hb, hr, hml, hown, hg, hlocks, hin, hK, hA, hP, hD, hS, hE, hl⟩ := hat
  have hown : s.vm.findClass RX10 = some m.cls := hown
  have hl : lv_has ls 4 [(0, .ref te0), (1, .ref h0)] := hl
  refine lv_aload_n hx hb dX10_tell_0 rfl (lv_at hl 0 rfl) ?_
  refine lv_aload_n hx hb dX10_tell_1 rfl (lv_at hl 1 rfl) ?_
  refine va_put (D := D) (ci := 10) (v := .ref h0) (ty := .object "CliffJudges$Hills") (C := RX10) (T := TX10) (N := 10) hx hb hg i_X10 tyX10 tyX10_ok nmX10 hown hK hP hD hS 0 rfl rfl 2 (by decide) (hg _ m_257) (fun _ h9 => h9) rfl (by decide +kernel) rfl rfl (Nat.le_of_ble_eq_true rfl) dX10_tell_2 (fun H locs hP hD hS => ?_)
  have hP : va_P D vwCl [(te0, .inr (10, [.ref ta0, sv1, .ref h0, sv3, sv4, sv5, sv6, sv7, sv8, sv9])), (ta0, .inr (9, [tv0, tv1, .int 0, tv3, tv4, tv5, tv6, tv7])), (h0, .inr (4, [.ref h1, v1, v2, v3, v4, v5, .ref h7, v7, .ref h9, .ref h10, .ref h11, v11, v12, v13, v14, v15])), (h1, .inl (cy 1, 4, .inl (fun _ => 0))), (h7, .inl (cy 1, 48, .inl (fx))), (h9, .inr (3, [ya0, ya1, ya2, ya3])), (h10, .inr (3, [yb0, yb1, yb2, yb3])), (h11, .inr (3, [yc0, yc1, yc2, yc3]))] H := hP
  have hD : va_D A [(te0, .inr (10, [.ref ta0, sv1, .ref h0, sv3, sv4, sv5, sv6, sv7, sv8, sv9])), (ta0, .inr (9, [tv0, tv1, .int 0, tv3, tv4, tv5, tv6, tv7])), (h0, .inr (4, [.ref h1, v1, v2, v3, v4, v5, .ref h7, v7, .ref h9, .ref h10, .ref h11, v11, v12, v13, v14, v15])), (h1, .inl (cy 1, 4, .inl (fun _ => 0))), (h7, .inl (cy 1, 48, .inl (fx))), (h9, .inr (3, [ya0, ya1, ya2, ya3])), (h10, .inr (3, [yb0, yb1, yb2, yb3])), (h11, .inr (3, [yc0, yc1, yc2, yc3]))] := hD
  refine lv_aload_n hx hb dX10_tell_5 rfl (lv_at hl 0 rfl) ?_
  refine lv_aload_n hx hb dX10_tell_6 rfl (lv_at hl 1 rfl) ?_
  refine va_get (D := D) (ci := 4) (v := .ref h9) (C := RX4) (T := TX4) (N := 16) hx hb hg i_X4 hown hK hP 2 rfl rfl 8 (by decide) (hg _ m_361) (fun _ h9 => h9) rfl dX10_tell_7 ?_
  refine va_put (D := D) (ci := 10) (v := .ref h9) (ty := .object "CliffJudges$Formula") (C := RX10) (T := TX10) (N := 10) hx hb hg i_X10 tyX10 tyX10_ok nmX10 hown hK hP hD hS 0 rfl rfl 3 (by decide) (hg _ m_258) (fun _ h9 => h9) rfl (by decide +kernel) rfl rfl (Nat.le_of_ble_eq_true rfl) dX10_tell_10 (fun H locs hP hD hS => ?_)
  have hP : va_P D vwCl [(te0, .inr (10, [.ref ta0, sv1, .ref h0, .ref h9, sv4, sv5, sv6, sv7, sv8, sv9])), (ta0, .inr (9, [tv0, tv1, .int 0, tv3, tv4, tv5, tv6, tv7])), (h0, .inr (4, [.ref h1, v1, v2, v3, v4, v5, .ref h7, v7, .ref h9, .ref h10, .ref h11, v11, v12, v13, v14, v15])), (h1, .inl (cy 1, 4, .inl (fun _ => 0))), (h7, .inl (cy 1, 48, .inl (fx))), (h9, .inr (3, [ya0, ya1, ya2, ya3])), (h10, .inr (3, [yb0, yb1, yb2, yb3])), (h11, .inr (3, [yc0, yc1, yc2, yc3]))] H := hP
  have hD : va_D A [(te0, .inr (10, [.ref ta0, sv1, .ref h0, .ref h9, sv4, sv5, sv6, sv7, sv8, sv9])), (ta0, .inr (9, [tv0, tv1, .int 0, tv3, tv4, tv5, tv6, tv7])), (h0, .inr (4, [.ref h1, v1, v2, v3, v4, v5, .ref h7, v7, .ref h9, .ref h10, .ref h11, v11, v12, v13, v14, v15])), (h1, .inl (cy 1, 4, .inl (fun _ => 0))), (h7, .inl (cy 1, 48, .inl (fx))), (h9, .inr (3, [ya0, ya1, ya2, ya3])), (h10, .inr (3, [yb0, yb1, yb2, yb3])), (h11, .inr (3, [yc0, yc1, yc2, yc3]))] := hD
  refine lv_aload_n hx hb dX10_tell_13 rfl (lv_at hl 1 rfl) ?_
  refine x_callVv (q := (RX4, TX4, 16)) (ci := 4) (q0 := 0) (wr := [(te0, .inr (10, [.ref ta0, sv1, .ref h0, .ref h9, sv4, sv5, sv6, sv7, sv8, sv9])), (ta0, .inr (9, [tv0, tv1, .int 0, tv3, tv4, tv5, tv6, tv7]))]) (rest := []) ⟨hx, hb, hml, hown, hg, hl.1⟩ k_X10_37 (c_hclear l D cy h0 h1 h7 h9 h10 h11 v1 v2 v3 v4 v5 v7 v11 v12 v13 v14 v15 ya0 ya1 ya2 ya3 yb0 yb1 yb2 yb3 yc0 yc1 yc2 yc3 fx) E0_blind hK hP hD hS hA [2, 3, 4, 5, 6, 7] [0, 1] ⟨rfl, rfl, by decide, by decide, by decide⟩ rfl rfl (fun _ _ _ => trivial) dX10_tell_14 rfl rfl (Nat.le_of_ble_eq_true rfl) ⟨Nat.le_of_ble_eq_true rfl, Nat.le_of_ble_eq_true rfl⟩ ⟨Nat.le_of_ble_eq_true rfl, Nat.le_of_ble_eq_true rfl⟩ (fun u1 H locs hw1 hP hD hS => ?_)
  obtain ⟨fx2_2, rfl⟩ : ∃ z, z = u1 := ⟨_, rfl⟩
  have hP : va_P D vwCl [(te0, .inr (10, [.ref ta0, sv1, .ref h0, .ref h9, sv4, sv5, sv6, sv7, sv8, sv9])), (ta0, .inr (9, [tv0, tv1, .int 0, tv3, tv4, tv5, tv6, tv7])), (h0, .inr (4, [.ref h1, v1, v2, v3, v4, v5, .ref h7, v7, .ref h9, .ref h10, .ref h11, .int 0, .int 0, .int 0, .int 0, .int 0])), (h1, .inl (cy 1, 4, .inl (fun _ => 0))), (h7, .inl (cy 1, 48, .inl (fx2_2))), (h9, .inr (3, [ya0, ya1, .int 0, .int 0])), (h10, .inr (3, [yb0, yb1, .int 0, .int 0])), (h11, .inr (3, [yc0, yc1, .int 0, .int 0]))] H := hP
  have hD : va_D A [(te0, .inr (10, [.ref ta0, sv1, .ref h0, .ref h9, sv4, sv5, sv6, sv7, sv8, sv9])), (ta0, .inr (9, [tv0, tv1, .int 0, tv3, tv4, tv5, tv6, tv7])), (h0, .inr (4, [.ref h1, v1, v2, v3, v4, v5, .ref h7, v7, .ref h9, .ref h10, .ref h11, .int 0, .int 0, .int 0, .int 0, .int 0])), (h1, .inl (cy 1, 4, .inl (fun _ => 0))), (h7, .inl (cy 1, 48, .inl (fx2_2))), (h9, .inr (3, [ya0, ya1, .int 0, .int 0])), (h10, .inr (3, [yb0, yb1, .int 0, .int 0])), (h11, .inr (3, [yc0, yc1, .int 0, .int 0]))] := hD
  refine W.widen (k := 0) (n := 0) (Nat.le_of_ble_eq_true rfl) (Nat.le_of_ble_eq_true rfl) ?_
  refine lv_aload_n hx hb dX10_tell_17 rfl (lv_at hl 0 rfl) ?_
  refine lv_iconst (v := 0) hx hb dX10_tell_18 (by decide) ?_
  refine va_put (D := D) (ci := 10) (v := .int 0) (ty := .boolean) (C := RX10) (T := TX10) (N := 10) hx hb hg i_X10 tyX10 tyX10_ok nmX10 hown hK hP hD hS 0 rfl rfl 5 (by decide) (hg _ m_260) (fun _ h9 => h9) rfl (by decide +kernel) rfl rfl (Nat.le_of_ble_eq_true rfl) dX10_tell_19 (fun H locs hP hD hS => ?_)
  have hP : va_P D vwCl [(te0, .inr (10, [.ref ta0, sv1, .ref h0, .ref h9, sv4, .int 0, sv6, sv7, sv8, sv9])), (ta0, .inr (9, [tv0, tv1, .int 0, tv3, tv4, tv5, tv6, tv7])), (h0, .inr (4, [.ref h1, v1, v2, v3, v4, v5, .ref h7, v7, .ref h9, .ref h10, .ref h11, .int 0, .int 0, .int 0, .int 0, .int 0])), (h1, .inl (cy 1, 4, .inl (fun _ => 0))), (h7, .inl (cy 1, 48, .inl (fx2_2))), (h9, .inr (3, [ya0, ya1, .int 0, .int 0])), (h10, .inr (3, [yb0, yb1, .int 0, .int 0])), (h11, .inr (3, [yc0, yc1, .int 0, .int 0]))] H := hP
  have hD : va_D A [(te0, .inr (10, [.ref ta0, sv1, .ref h0, .ref h9, sv4, .int 0, sv6, sv7, sv8, sv9])), (ta0, .inr (9, [tv0, tv1, .int 0, tv3, tv4, tv5, tv6, tv7])), (h0, .inr (4, [.ref h1, v1, v2, v3, v4, v5, .ref h7, v7, .ref h9, .ref h10, .ref h11, .int 0, .int 0, .int 0, .int 0, .int 0])), (h1, .inl (cy 1, 4, .inl (fun _ => 0))), (h7, .inl (cy 1, 48, .inl (fx2_2))), (h9, .inr (3, [ya0, ya1, .int 0, .int 0])), (h10, .inr (3, [yb0, yb1, .int 0, .int 0])), (h11, .inr (3, [yc0, yc1, .int 0, .int 0]))] := hD
  refine lv_aload_n hx hb dX10_tell_22 rfl (lv_at hl 0 rfl) ?_
  refine lv_iconst (v := 0) hx hb dX10_tell_23 (by decide) ?_
  refine va_put (D := D) (ci := 10) (v := .int 0) (ty := .boolean) (C := RX10) (T := TX10) (N := 10) hx hb hg i_X10 tyX10 tyX10_ok nmX10 hown hK hP hD hS 0 rfl rfl 6 (by decide) (hg _ m_261) (fun _ h9 => h9) rfl (by decide +kernel) rfl rfl (Nat.le_of_ble_eq_true rfl) dX10_tell_24 (fun H locs hP hD hS => ?_)
  have hP : va_P D vwCl [(te0, .inr (10, [.ref ta0, sv1, .ref h0, .ref h9, sv4, .int 0, .int 0, sv7, sv8, sv9])), (ta0, .inr (9, [tv0, tv1, .int 0, tv3, tv4, tv5, tv6, tv7])), (h0, .inr (4, [.ref h1, v1, v2, v3, v4, v5, .ref h7, v7, .ref h9, .ref h10, .ref h11, .int 0, .int 0, .int 0, .int 0, .int 0])), (h1, .inl (cy 1, 4, .inl (fun _ => 0))), (h7, .inl (cy 1, 48, .inl (fx2_2))), (h9, .inr (3, [ya0, ya1, .int 0, .int 0])), (h10, .inr (3, [yb0, yb1, .int 0, .int 0])), (h11, .inr (3, [yc0, yc1, .int 0, .int 0]))] H := hP
  have hD : va_D A [(te0, .inr (10, [.ref ta0, sv1, .ref h0, .ref h9, sv4, .int 0, .int 0, sv7, sv8, sv9])), (ta0, .inr (9, [tv0, tv1, .int 0, tv3, tv4, tv5, tv6, tv7])), (h0, .inr (4, [.ref h1, v1, v2, v3, v4, v5, .ref h7, v7, .ref h9, .ref h10, .ref h11, .int 0, .int 0, .int 0, .int 0, .int 0])), (h1, .inl (cy 1, 4, .inl (fun _ => 0))), (h7, .inl (cy 1, 48, .inl (fx2_2))), (h9, .inr (3, [ya0, ya1, .int 0, .int 0])), (h10, .inr (3, [yb0, yb1, .int 0, .int 0])), (h11, .inr (3, [yc0, yc1, .int 0, .int 0]))] := hD
  refine lv_aload_n hx hb dX10_tell_27 rfl (lv_at hl 0 rfl) ?_
  refine lv_iconst (v := 0) hx hb dX10_tell_28 (by decide) ?_
  refine va_put (D := D) (ci := 10) (v := .int 0) (ty := .int) (C := RX10) (T := TX10) (N := 10) hx hb hg i_X10 tyX10 tyX10_ok nmX10 hown hK hP hD hS 0 rfl rfl 8 (by decide) (hg _ m_263) (fun _ h9 => h9) rfl (by decide +kernel) rfl rfl (Nat.le_of_ble_eq_true rfl) dX10_tell_29 (fun H locs hP hD hS => ?_)
  have hP : va_P D vwCl [(te0, .inr (10, [.ref ta0, sv1, .ref h0, .ref h9, sv4, .int 0, .int 0, sv7, .int 0, sv9])), (ta0, .inr (9, [tv0, tv1, .int 0, tv3, tv4, tv5, tv6, tv7])), (h0, .inr (4, [.ref h1, v1, v2, v3, v4, v5, .ref h7, v7, .ref h9, .ref h10, .ref h11, .int 0, .int 0, .int 0, .int 0, .int 0])), (h1, .inl (cy 1, 4, .inl (fun _ => 0))), (h7, .inl (cy 1, 48, .inl (fx2_2))), (h9, .inr (3, [ya0, ya1, .int 0, .int 0])), (h10, .inr (3, [yb0, yb1, .int 0, .int 0])), (h11, .inr (3, [yc0, yc1, .int 0, .int 0]))] H := hP
  have hD : va_D A [(te0, .inr (10, [.ref ta0, sv1, .ref h0, .ref h9, sv4, .int 0, .int 0, sv7, .int 0, sv9])), (ta0, .inr (9, [tv0, tv1, .int 0, tv3, tv4, tv5, tv6, tv7])), (h0, .inr (4, [.ref h1, v1, v2, v3, v4, v5, .ref h7, v7, .ref h9, .ref h10, .ref h11, .int 0, .int 0, .int 0, .int 0, .int 0])), (h1, .inl (cy 1, 4, .inl (fun _ => 0))), (h7, .inl (cy 1, 48, .inl (fx2_2))), (h9, .inr (3, [ya0, ya1, .int 0, .int 0])), (h10, .inr (3, [yb0, yb1, .int 0, .int 0])), (h11, .inr (3, [yc0, yc1, .int 0, .int 0]))] := hD
  refine lv_aload_n hx hb dX10_tell_32 rfl (lv_at hl 0 rfl) ?_
  refine lv_iconst (v := -1) hx hb dX10_tell_33 (by decide) ?_
  refine va_put (D := D) (ci := 10) (v := .int (-1)) (ty := .int) (C := RX10) (T := TX10) (N := 10) hx hb hg i_X10 tyX10 tyX10_ok nmX10 hown hK hP hD hS 0 rfl rfl 9 (by decide) (hg _ m_265) (fun _ h9 => h9) rfl (by decide +kernel) rfl rfl (Nat.le_of_ble_eq_true rfl) dX10_tell_34 (fun H locs hP hD hS => ?_)
  have hP : va_P D vwCl [(te0, .inr (10, [.ref ta0, sv1, .ref h0, .ref h9, sv4, .int 0, .int 0, sv7, .int 0, .int (-1)])), (ta0, .inr (9, [tv0, tv1, .int 0, tv3, tv4, tv5, tv6, tv7])), (h0, .inr (4, [.ref h1, v1, v2, v3, v4, v5, .ref h7, v7, .ref h9, .ref h10, .ref h11, .int 0, .int 0, .int 0, .int 0, .int 0])), (h1, .inl (cy 1, 4, .inl (fun _ => 0))), (h7, .inl (cy 1, 48, .inl (fx2_2))), (h9, .inr (3, [ya0, ya1, .int 0, .int 0])), (h10, .inr (3, [yb0, yb1, .int 0, .int 0])), (h11, .inr (3, [yc0, yc1, .int 0, .int 0]))] H := hP
  have hD : va_D A [(te0, .inr (10, [.ref ta0, sv1, .ref h0, .ref h9, sv4, .int 0, .int 0, sv7, .int 0, .int (-1)])), (ta0, .inr (9, [tv0, tv1, .int 0, tv3, tv4, tv5, tv6, tv7])), (h0, .inr (4, [.ref h1, v1, v2, v3, v4, v5, .ref h7, v7, .ref h9, .ref h10, .ref h11, .int 0, .int 0, .int 0, .int 0, .int 0])), (h1, .inl (cy 1, 4, .inl (fun _ => 0))), (h7, .inl (cy 1, 48, .inl (fx2_2))), (h9, .inr (3, [ya0, ya1, .int 0, .int 0])), (h10, .inr (3, [yb0, yb1, .int 0, .int 0])), (h11, .inr (3, [yc0, yc1, .int 0, .int 0]))] := hD
  refine lv_aload_n hx hb dX10_tell_37 rfl (lv_at hl 0 rfl) ?_
  refine va_get (D := D) (ci := 10) (v := .ref ta0) (C := RX10) (T := TX10) (N := 10) hx hb hg i_X10 hown hK hP 0 rfl rfl 0 (by decide) (hg _ m_255) (fun _ h9 => h9) rfl dX10_tell_38 ?_
  refine x_callVv (q := (RX9, TX9, 8)) (ci := 9) (q0 := 0) (wr := [(te0, .inr (10, [.ref ta0, sv1, .ref h0, .ref h9, sv4, .int 0, .int 0, sv7, .int 0, .int (-1)])), (h0, .inr (4, [.ref h1, v1, v2, v3, v4, v5, .ref h7, v7, .ref h9, .ref h10, .ref h11, .int 0, .int 0, .int 0, .int 0, .int 0])), (h1, .inl (cy 1, 4, .inl (fun _ => 0))), (h7, .inl (cy 1, 48, .inl (fx2_2))), (h9, .inr (3, [ya0, ya1, .int 0, .int 0])), (h10, .inr (3, [yb0, yb1, .int 0, .int 0])), (h11, .inr (3, [yc0, yc1, .int 0, .int 0]))]) (rest := []) ⟨hx, hb, hml, hown, hg, hl.1⟩ k_X10_50 (c_rewind0 l D cy ta0 tv0 tv1 tv6 tv7 tv3 tv4 tv5) E0_blind hK hP hD hS hA [1] [0, 2, 3, 4, 5, 6, 7] ⟨rfl, rfl, by decide, by decide, by decide⟩ rfl rfl (fun _ _ _ => trivial) dX10_tell_41 rfl rfl (Nat.le_of_ble_eq_true rfl) ⟨Nat.le_of_ble_eq_true rfl, Nat.le_of_ble_eq_true rfl⟩ ⟨Nat.le_of_ble_eq_true rfl, Nat.le_of_ble_eq_true rfl⟩ (fun u3 H locs hw3 hP hD hS => ?_)
  have hP : va_P D vwCl [(te0, .inr (10, [.ref ta0, sv1, .ref h0, .ref h9, sv4, .int 0, .int 0, sv7, .int 0, .int (-1)])), (h0, .inr (4, [.ref h1, v1, v2, v3, v4, v5, .ref h7, v7, .ref h9, .ref h10, .ref h11, .int 0, .int 0, .int 0, .int 0, .int 0])), (h1, .inl (cy 1, 4, .inl (fun _ => 0))), (h7, .inl (cy 1, 48, .inl (fx2_2))), (h9, .inr (3, [ya0, ya1, .int 0, .int 0])), (h10, .inr (3, [yb0, yb1, .int 0, .int 0])), (h11, .inr (3, [yc0, yc1, .int 0, .int 0])), (ta0, .inr (9, [tv0, tv1, .int 0, .int 0, .int 0, .int 0, tv6, tv7]))] H := hP
  have hD : va_D A [(te0, .inr (10, [.ref ta0, sv1, .ref h0, .ref h9, sv4, .int 0, .int 0, sv7, .int 0, .int (-1)])), (h0, .inr (4, [.ref h1, v1, v2, v3, v4, v5, .ref h7, v7, .ref h9, .ref h10, .ref h11, .int 0, .int 0, .int 0, .int 0, .int 0])), (h1, .inl (cy 1, 4, .inl (fun _ => 0))), (h7, .inl (cy 1, 48, .inl (fx2_2))), (h9, .inr (3, [ya0, ya1, .int 0, .int 0])), (h10, .inr (3, [yb0, yb1, .int 0, .int 0])), (h11, .inr (3, [yc0, yc1, .int 0, .int 0])), (ta0, .inr (9, [tv0, tv1, .int 0, .int 0, .int 0, .int 0, tv6, tv7]))] := hD
  refine W.widen (k := 0) (n := 0) (Nat.le_of_ble_eq_true rfl) (Nat.le_of_ble_eq_true rfl) ?_
  refine lv_iconst (v := 1) hx hb dX10_tell_44 (by decide) ?_
  refine lv_istore_n (lv' := [(2, .int 1), (0, .ref te0), (1, .ref h0)]) hx hb dX10_tell_45 rfl hl (by decide) rfl (fun ls hl => ?_)
  refine lv_iconst (v := 0) hx hb dX10_tell_46 (by decide) ?_
  refine lv_istore_n (lv' := [(3, .int 0), (2, .int 1), (0, .ref te0), (1, .ref h0)]) hx hb dX10_tell_47 rfl hl (by decide) rfl (fun ls hl => ?_)
  refine lv_iload_n hx hb dX10_tell_48 rfl (lv_at hl 0 rfl) ?_
  refine lv_sipush (v := 1600) hx hb dX10_tell_49 (by decide) ?_
  refine lv_icmp_ge (tgt := 80) hx hb dX10_tell_52 (by decide) (fun h => absurd h (by decide)) (fun _ => ?_)
  refine lv_iload_n hx hb dX10_tell_55 rfl (lv_at hl 1 rfl) ?_
  refine lv_if_eq (tgt := 80) hx hb dX10_tell_56 (by decide) (fun h => absurd h (by decide)) (fun _ => ?_)
  refine lv_aload_n hx hb dX10_tell_59 rfl (lv_at hl 2 rfl) ?_
  refine va_get (D := D) (ci := 10) (v := .ref ta0) (C := RX10) (T := TX10) (N := 10) hx hb hg i_X10 hown hK hP 0 rfl rfl 0 (by decide) (hg _ m_255) (fun _ h9 => h9) rfl dX10_tell_60 ?_
  refine va_get (D := D) (ci := 9) (v := .int 0) (C := RX9) (T := TX9) (N := 8) hx hb hg i_X9 hown hK hP 7 rfl rfl 5 (by decide) (hg _ m_222) (fun _ h9 => h9) rfl dX10_tell_63 ?_
  refine lv_if_eq (tgt := 80) hx hb dX10_tell_66 (by decide) (fun _ => ?_) (fun h => absurd (by decide) h)
  refine lv_aload_n hx hb dX10_tell_80 rfl (lv_at hl 3 rfl) ?_
  refine x_callVv (q := (RX4, TX4, 16)) (ci := 4) (q0 := 0) (wr := [(te0, .inr (10, [.ref ta0, sv1, .ref h0, .ref h9, sv4, .int 0, .int 0, sv7, .int 0, .int (-1)])), (h1, .inl (cy 1, 4, .inl (fun _ => 0))), (h9, .inr (3, [ya0, ya1, .int 0, .int 0])), (h10, .inr (3, [yb0, yb1, .int 0, .int 0])), (h11, .inr (3, [yc0, yc1, .int 0, .int 0])), (ta0, .inr (9, [tv0, tv1, .int 0, .int 0, .int 0, .int 0, tv6, tv7]))]) (rest := []) ⟨hx, hb, hml, hown, hg, hl.1⟩ k_X10_62 (c_settle l D cy h0 h7 ((.ref h1)) v1 v2 v3 v4 v5 v7 ((.ref h9)) ((.ref h10)) ((.ref h11)) ((.int 0)) ((.int 0)) ((.int 0)) ((.int 0)) ((.int 0)) fx2_2) E0_blind hK hP hD hS hA [1, 3] [0, 2, 4, 5, 6, 7] ⟨rfl, rfl, by decide, by decide, by decide⟩ rfl rfl (fun _ _ _ => trivial) dX10_tell_81 rfl rfl (Nat.le_of_ble_eq_true rfl) ⟨Nat.le_of_ble_eq_true rfl, Nat.le_of_ble_eq_true rfl⟩ ⟨Nat.le_of_ble_eq_true rfl, Nat.le_of_ble_eq_true rfl⟩ (fun u4 H locs hw4 hP hD hS => ?_)
  obtain ⟨fx2_5, rfl⟩ : ∃ z, z = u4 := ⟨_, rfl⟩
  have hP : va_P D vwCl [(te0, .inr (10, [.ref ta0, sv1, .ref h0, .ref h9, sv4, .int 0, .int 0, sv7, .int 0, .int (-1)])), (h1, .inl (cy 1, 4, .inl (fun _ => 0))), (h9, .inr (3, [ya0, ya1, .int 0, .int 0])), (h10, .inr (3, [yb0, yb1, .int 0, .int 0])), (h11, .inr (3, [yc0, yc1, .int 0, .int 0])), (ta0, .inr (9, [tv0, tv1, .int 0, .int 0, .int 0, .int 0, tv6, tv7])), (h0, .inr (4, [.ref h1, v1, v2, v3, v4, v5, .ref h7, v7, .ref h9, .ref h10, .ref h11, .int 0, .int 0, .int 0, .int 0, .int 0])), (h7, .inl (cy 1, 48, .inl (fx2_5)))] H := hP
  have hD : va_D A [(te0, .inr (10, [.ref ta0, sv1, .ref h0, .ref h9, sv4, .int 0, .int 0, sv7, .int 0, .int (-1)])), (h1, .inl (cy 1, 4, .inl (fun _ => 0))), (h9, .inr (3, [ya0, ya1, .int 0, .int 0])), (h10, .inr (3, [yb0, yb1, .int 0, .int 0])), (h11, .inr (3, [yc0, yc1, .int 0, .int 0])), (ta0, .inr (9, [tv0, tv1, .int 0, .int 0, .int 0, .int 0, tv6, tv7])), (h0, .inr (4, [.ref h1, v1, v2, v3, v4, v5, .ref h7, v7, .ref h9, .ref h10, .ref h11, .int 0, .int 0, .int 0, .int 0, .int 0])), (h7, .inl (cy 1, 48, .inl (fx2_5)))] := hD
  refine W.widen (k := 0) (n := 0) (Nat.le_of_ble_eq_true rfl) (Nat.le_of_ble_eq_true rfl) ?_
  refine lv_iload_n hx hb dX10_tell_84 rfl (lv_at hl 1 rfl) ?_
  exact x_zret hQ hx hb hr hlocks hK hP hD hS rfl dX10_tell_85 fx2_5 (rfl) [5, 6, 1, 7] (by decide) rfl (Nat.le_of_ble_eq_true rfl) (Nat.le_of_ble_eq_true rfl)
theorem dX5_forgetActs_0 : decode cX5_forgetActs 0 = .ok (.aload_n 0, 1) := by decide +kernel
theorem dX5_forgetActs_1 : decode cX5_forgetActs 1 = .ok (.iconst 0, 1) := by decide +kernel
theorem dX5_forgetActs_2 : decode cX5_forgetActs 2 = .ok (.putfield 42, 3) := by decide +kernel
theorem dX5_forgetActs_5 : decode cX5_forgetActs 5 = .ok (.aload_n 0, 1) := by decide +kernel
theorem dX5_forgetActs_6 : decode cX5_forgetActs 6 = .ok (.iconst 0, 1) := by decide +kernel
theorem dX5_forgetActs_7 : decode cX5_forgetActs 7 = .ok (.putfield 45, 3) := by decide +kernel
theorem dX5_forgetActs_10 : decode cX5_forgetActs 10 = .ok (.aload_n 0, 1) := by decide +kernel
theorem dX5_forgetActs_11 : decode cX5_forgetActs 11 = .ok (.iconst 0, 1) := by decide +kernel
theorem dX5_forgetActs_12 : decode cX5_forgetActs 12 = .ok (.putfield 48, 3) := by decide +kernel
theorem dX5_forgetActs_15 : decode cX5_forgetActs 15 = .ok (.aload_n 0, 1) := by decide +kernel
theorem dX5_forgetActs_16 : decode cX5_forgetActs 16 = .ok (.getfield 11, 3) := by decide +kernel
theorem dX5_forgetActs_19 : decode cX5_forgetActs 19 = .ok (.iconst 0, 1) := by decide +kernel
theorem dX5_forgetActs_20 : decode cX5_forgetActs 20 = .ok (.aload_n 0, 1) := by decide +kernel
theorem dX5_forgetActs_21 : decode cX5_forgetActs 21 = .ok (.getfield 15, 3) := by decide +kernel
theorem dX5_forgetActs_24 : decode cX5_forgetActs 24 = .ok (.iconst 0, 1) := by decide +kernel
theorem dX5_forgetActs_25 : decode cX5_forgetActs 25 = .ok (.bipush 41, 2) := by decide +kernel
theorem dX5_forgetActs_27 : decode cX5_forgetActs 27 = .ok (.invokestatic 51, 3) := by decide +kernel
theorem dX5_forgetActs_30 : decode cX5_forgetActs 30 = .ok (.return_, 1) := by decide +kernel
set_option maxHeartbeats 400000 in
set_option maxRecDepth 100000 in
theorem c_forgetActs (l : Launch) (D : va_G) (cy : Nat → ClassId) (n0 : Nat) (n1 : Nat) (n2 : Nat) (n3 : Nat) (z3 : Value) (z4 : Value) (z5 : Value) (z6 : Value) (fn : Nat → Int32) (fr : Nat → Int32)  : XMv l D (tyL cy) E0 yX5_forgetActs cX5_forgetActs 1 none (rmk 1 0 0) [.ref n0] [(n0, .inr (5, [.ref n1, .ref n2, .ref n3, z3, z4, z5, z6])), (n1, .inl (cy 1, 41, .inl (fn))), (n2, .inl (cy 1, 1681, .inl (fr)))] (fun (fr2 : Nat → Int32) => True) (fun (fr2 : Nat → Int32) => [(n0, .inr (5, [.ref n1, .ref n2, .ref n3, z3, .int 0, .int 0, .int 0])), (n1, .inl (cy 1, 41, .inl (fn))), (n2, .inl (cy 1, 1681, .inl (fr2)))]) := by
  refine XMv.start (by decide) (Nat.le_of_ble_eq_true rfl) ?_
  intro p e s m below meth c args A ls Q hat hQ
  obtain ⟨hx, hb, hr, hml, hown, hg, hlocks, hin, hK, hA, hP, hD, hS, hE, hl⟩ := hat
  have hown : s.vm.findClass RX5 = some m.cls := hown
  have hl : lv_has ls 1 [(0, .ref n0)] := hl
  refine lv_aload_n hx hb dX5_forgetActs_0 rfl (lv_at hl 0 rfl) ?_
  refine lv_iconst (v := 0) hx hb dX5_forgetActs_1 (by decide) ?_
  refine va_put (D := D) (ci := 5) (v := .int 0) (ty := .int) (C := RX5) (T := TX5) (N := 7) hx hb hg i_X5 tyX5 tyX5_ok nmX5 hown hK hP hD hS 0 rfl rfl 4 (by decide) (hg _ m_428) (fun _ h9 => h9) rfl (by decide +kernel) rfl rfl (Nat.le_of_ble_eq_true rfl) dX5_forgetActs_2 (fun H locs hP hD hS => ?_)
  have hP : va_P D vwCl [(n0, .inr (5, [.ref n1, .ref n2, .ref n3, z3, .int 0, z5, z6])), (n1, .inl (cy 1, 41, .inl (fn))), (n2, .inl (cy 1, 1681, .inl (fr)))] H := hP
  have hD : va_D A [(n0, .inr (5, [.ref n1, .ref n2, .ref n3, z3, .int 0, z5, z6])), (n1, .inl (cy 1, 41, .inl (fn))), (n2, .inl (cy 1, 1681, .inl (fr)))] := hD
  refine lv_aload_n hx hb dX5_forgetActs_5 rfl (lv_at hl 0 rfl) ?_
  refine lv_iconst (v := 0) hx hb dX5_forgetActs_6 (by decide) ?_
  refine va_put (D := D) (ci := 5) (v := .int 0) (ty := .int) (C := RX5) (T := TX5) (N := 7) hx hb hg i_X5 tyX5 tyX5_ok nmX5 hown hK hP hD hS 0 rfl rfl 5 (by decide) (hg _ m_429) (fun _ h9 => h9) rfl (by decide +kernel) rfl rfl (Nat.le_of_ble_eq_true rfl) dX5_forgetActs_7 (fun H locs hP hD hS => ?_)
  have hP : va_P D vwCl [(n0, .inr (5, [.ref n1, .ref n2, .ref n3, z3, .int 0, .int 0, z6])), (n1, .inl (cy 1, 41, .inl (fn))), (n2, .inl (cy 1, 1681, .inl (fr)))] H := hP
  have hD : va_D A [(n0, .inr (5, [.ref n1, .ref n2, .ref n3, z3, .int 0, .int 0, z6])), (n1, .inl (cy 1, 41, .inl (fn))), (n2, .inl (cy 1, 1681, .inl (fr)))] := hD
  refine lv_aload_n hx hb dX5_forgetActs_10 rfl (lv_at hl 0 rfl) ?_
  refine lv_iconst (v := 0) hx hb dX5_forgetActs_11 (by decide) ?_
  refine va_put (D := D) (ci := 5) (v := .int 0) (ty := .int) (C := RX5) (T := TX5) (N := 7) hx hb hg i_X5 tyX5 tyX5_ok nmX5 hown hK hP hD hS 0 rfl rfl 6 (by decide) (hg _ m_431) (fun _ h9 => h9) rfl (by decide +kernel) rfl rfl (Nat.le_of_ble_eq_true rfl) dX5_forgetActs_12 (fun H locs hP hD hS => ?_)
  have hP : va_P D vwCl [(n0, .inr (5, [.ref n1, .ref n2, .ref n3, z3, .int 0, .int 0, .int 0])), (n1, .inl (cy 1, 41, .inl (fn))), (n2, .inl (cy 1, 1681, .inl (fr)))] H := hP
  have hD : va_D A [(n0, .inr (5, [.ref n1, .ref n2, .ref n3, z3, .int 0, .int 0, .int 0])), (n1, .inl (cy 1, 41, .inl (fn))), (n2, .inl (cy 1, 1681, .inl (fr)))] := hD
  refine lv_aload_n hx hb dX5_forgetActs_15 rfl (lv_at hl 0 rfl) ?_
  refine va_get (D := D) (ci := 5) (v := .ref n1) (C := RX5) (T := TX5) (N := 7) hx hb hg i_X5 hown hK hP 0 rfl rfl 0 (by decide) (hg _ m_423) (fun _ h9 => h9) rfl dX5_forgetActs_16 ?_
  refine lv_iconst (v := 0) hx hb dX5_forgetActs_19 (by decide) ?_
  refine lv_aload_n hx hb dX5_forgetActs_20 rfl (lv_at hl 0 rfl) ?_
  refine va_get (D := D) (ci := 5) (v := .ref n2) (C := RX5) (T := TX5) (N := 7) hx hb hg i_X5 hown hK hP 0 rfl rfl 1 (by decide) (hg _ m_425) (fun _ h9 => h9) rfl dX5_forgetActs_21 ?_
  refine lv_iconst (v := 0) hx hb dX5_forgetActs_24 (by decide) ?_
  refine lv_bipush (v := 41) hx hb dX5_forgetActs_25 (by decide) ?_
  refine va_copyi hx hb (hml.trans hl.1.symm) hown (hg _ m_934) (hg _ m_936) (hg _ m_935) (hg _ m_149) hK hP hD hS 1 2 1 1 rfl rfl rfl rfl rfl (by decide) (by decide) (by decide) (by decide) (by decide) (fun _ _ => rfl) (by decide) (Nat.le_of_ble_eq_true rfl) dX5_forgetActs_27 (fun H locs hP hD hS => ?_)
  obtain ⟨g_1, eg_1⟩ : ∃ y, va_cpy (fn) (fr) (0 : Int32).toNatClampNeg (0 : Int32).toNatClampNeg (41 : Int32).toNatClampNeg = y := ⟨_, rfl⟩
  rw [eg_1] at hP hD
  have hP : va_P D vwCl [(n0, .inr (5, [.ref n1, .ref n2, .ref n3, z3, .int 0, .int 0, .int 0])), (n1, .inl (cy 1, 41, .inl (fn))), (n2, .inl (cy 1, 1681, .inl (g_1)))] H := hP
  have hD : va_D A [(n0, .inr (5, [.ref n1, .ref n2, .ref n3, z3, .int 0, .int 0, .int 0])), (n1, .inl (cy 1, 41, .inl (fn))), (n2, .inl (cy 1, 1681, .inl (g_1)))] := hD
  exact x_vret hQ hx hb hr hlocks hK hP hD hS dX5_forgetActs_30 g_1 (trivial) [0, 1, 2] (by decide) rfl (Nat.le_of_ble_eq_true rfl) (Nat.le_of_ble_eq_true rfl)
theorem dX5_begin_0 : decode cX5_begin 0 = .ok (.iconst 0, 1) := by decide +kernel
theorem dX5_begin_1 : decode cX5_begin 1 = .ok (.istore_n 2, 1) := by decide +kernel
theorem dX5_begin_2 : decode cX5_begin 2 = .ok (.iload_n 2, 1) := by decide +kernel
theorem dX5_begin_3 : decode cX5_begin 3 = .ok (.bipush 41, 2) := by decide +kernel
theorem dX5_begin_5 : decode cX5_begin 5 = .ok (.if_icmp .ge 16, 3) := by decide +kernel
theorem dX5_begin_21 : decode cX5_begin 21 = .ok (.aload_n 0, 1) := by decide +kernel
theorem dX5_begin_22 : decode cX5_begin 22 = .ok (.getfield 11, 3) := by decide +kernel
theorem dX5_begin_25 : decode cX5_begin 25 = .ok (.bipush 22, 2) := by decide +kernel
theorem dX5_begin_27 : decode cX5_begin 27 = .ok (.aload_n 1, 1) := by decide +kernel
theorem dX5_begin_28 : decode cX5_begin 28 = .ok (.getfield 21, 3) := by decide +kernel
theorem m_374 : (Cond.fieldLink RX5 21 "CliffJudges$Hills" "wind" "I") ∈ gT := gm 374 (by decide +kernel) (by decide +kernel)
theorem dX5_begin_31 : decode cX5_begin 31 = .ok (.iastore, 1) := by decide +kernel
theorem dX5_begin_32 : decode cX5_begin 32 = .ok (.aload_n 0, 1) := by decide +kernel
theorem dX5_begin_33 : decode cX5_begin 33 = .ok (.getfield 11, 3) := by decide +kernel
theorem dX5_begin_36 : decode cX5_begin 36 = .ok (.bipush 23, 2) := by decide +kernel
theorem dX5_begin_38 : decode cX5_begin 38 = .ok (.aload_n 1, 1) := by decide +kernel
theorem dX5_begin_39 : decode cX5_begin 39 = .ok (.getfield 27, 3) := by decide +kernel
theorem m_378 : (Cond.fieldLink RX5 27 "CliffJudges$Hills" "draw" "I") ∈ gT := gm 378 (by decide +kernel) (by decide +kernel)
theorem dX5_begin_42 : decode cX5_begin 42 = .ok (.iastore, 1) := by decide +kernel
theorem dX5_begin_43 : decode cX5_begin 43 = .ok (.iconst 0, 1) := by decide +kernel
theorem dX5_begin_44 : decode cX5_begin 44 = .ok (.istore_n 2, 1) := by decide +kernel
theorem dX5_begin_45 : decode cX5_begin 45 = .ok (.iload_n 2, 1) := by decide +kernel
theorem dX5_begin_46 : decode cX5_begin 46 = .ok (.aload_n 1, 1) := by decide +kernel
theorem dX5_begin_47 : decode cX5_begin 47 = .ok (.getfield 30, 3) := by decide +kernel
theorem m_332 : (Cond.fieldLink RX5 30 "CliffJudges$Hills" "counts" "[I") ∈ gT := gm 332 (by decide +kernel) (by decide +kernel)
theorem dX5_begin_50 : decode cX5_begin 50 = .ok (.iconst 1, 1) := by decide +kernel
theorem dX5_begin_51 : decode cX5_begin 51 = .ok (.iaload, 1) := by decide +kernel
theorem dX5_begin_52 : decode cX5_begin 52 = .ok (.if_icmp .ge 24, 3) := by decide +kernel
theorem dX5_begin_76 : decode cX5_begin 76 = .ok (.aload_n 0, 1) := by decide +kernel
theorem dX5_begin_77 : decode cX5_begin 77 = .ok (.iconst 0, 1) := by decide +kernel
theorem dX5_begin_78 : decode cX5_begin 78 = .ok (.putfield 36, 3) := by decide +kernel
theorem dX5_begin_81 : decode cX5_begin 81 = .ok (.aload_n 0, 1) := by decide +kernel
theorem dX5_begin_82 : decode cX5_begin 82 = .ok (.invokevirtual 39, 3) := by decide +kernel
theorem m_930 : (Cond.methodLink RX5 39 yX5_forgetActs) ∈ gT := gm 930 (by decide +kernel) (by decide +kernel)
theorem m_932 : (Cond.instanceMethod yX5_forgetActs) ∈ gT := gm 932 (by decide +kernel) (by decide +kernel)
theorem m_29 : (Cond.selects RX5 yX5_forgetActs yX5_forgetActs) ∈ gT := gm 29 (by decide +kernel) (by decide +kernel)
theorem m_933 : (Cond.code yX5_forgetActs cX5_forgetActs 1 none) ∈ gT := gm 933 (by decide +kernel) (by decide +kernel)
theorem k_X5_39 : xV RX5 RX5 39 yX5_forgetActs cX5_forgetActs 1 none 0 := ⟨⟨m_930, m_932, m_29, m_139, m_933⟩, rfl, by decide, by decide, by decide +kernel⟩
theorem dX5_begin_85 : decode cX5_begin 85 = .ok (.return_, 1) := by decide +kernel
theorem dX5_begin_8 : decode cX5_begin 8 = .ok (.aload_n 0, 1) := by decide +kernel
theorem dX5_begin_9 : decode cX5_begin 9 = .ok (.getfield 11, 3) := by decide +kernel
theorem dX5_begin_12 : decode cX5_begin 12 = .ok (.iload_n 2, 1) := by decide +kernel
theorem dX5_begin_13 : decode cX5_begin 13 = .ok (.iconst 0, 1) := by decide +kernel
theorem dX5_begin_14 : decode cX5_begin 14 = .ok (.iastore, 1) := by decide +kernel
theorem dX5_begin_15 : decode cX5_begin 15 = .ok (.iinc 2 1, 3) := by decide +kernel
theorem dX5_begin_18 : decode cX5_begin 18 = .ok (.goto (-16), 3) := by decide +kernel
set_option maxHeartbeats 400000 in
set_option maxRecDepth 100000 in
theorem c_begin0 (l : Launch) (D : va_G) (cy : Nat → ClassId) (n0 : Nat) (n1 : Nat) (n2 : Nat) (n3 : Nat) (z3 : Value) (z4 : Value) (z5 : Value) (z6 : Value) (h0 : Nat) (h1 : Nat) (v1 : Value) (v2 : Value) (v3 : Value) (v4 : Value) (v5 : Value) (v6 : Value) (v7 : Value) (v8 : Value) (v9 : Value) (v10 : Value) (fr : Nat → Int32)  : XMv l D (tyL cy) E0 yX5_begin cX5_begin 3 none (rmk 2 0 0) [.ref n0, .ref h0] [(n0, .inr (5, [.ref n1, .ref n2, .ref n3, z3, z4, z5, z6])), (n1, .inl (cy 1, 41, .inl (fun _ => 0))), (n2, .inl (cy 1, 1681, .inl (fr))), (h0, .inr (4, [.ref h1, v1, v2, v3, v4, v5, v6, v7, v8, v9, v10, .int 0, .int 0, .int 0, .int 0, .int 0])), (h1, .inl (cy 1, 4, .inl (fun _ => 0)))] (fun (fr2 : Nat → Int32) => True) (fun (fr2 : Nat → Int32) => [(n0, .inr (5, [.ref n1, .ref n2, .ref n3, .int 0, .int 0, .int 0, .int 0])), (n1, .inl (cy 1, 41, .inl (fun _ => 0))), (n2, .inl (cy 1, 1681, .inl (fr2))), (h0, .inr (4, [.ref h1, v1, v2, v3, v4, v5, v6, v7, v8, v9, v10, .int 0, .int 0, .int 0, .int 0, .int 0])), (h1, .inl (cy 1, 4, .inl (fun _ => 0)))]) := by
  refine XMv.start (by decide) (Nat.le_of_ble_eq_true rfl) ?_
  intro p e s m below meth c args A ls Q hat hQ
  obtain ⟨hx, hb, hr, hml, hown, hg, hlocks, hin, hK, hA, hP, hD, hS, hE, hl⟩ := hat
  have hown : s.vm.findClass RX5 = some m.cls := hown
  have hl : lv_has ls 3 [(0, .ref n0), (1, .ref h0)] := hl
  refine lv_iconst (v := 0) hx hb dX5_begin_0 (by decide) ?_
  refine lv_istore_n (lv' := [(2, .int 0), (0, .ref n0), (1, .ref h0)]) hx hb dX5_begin_1 rfl hl (by decide) rfl (fun ls hl => ?_)
  have loop1 : ∀ (n i1 : Nat), i1 ≤ 41 → 42 ≤ i1 + n → ∀ (H : Heap) (locs : List Loc), va_P D vwCl [(n0, .inr (5, [.ref n1, .ref n2, .ref n3, z3, z4, z5, z6])), (n1, .inl (cy 1, 41, .inl (fun _ => 0))), (n2, .inl (cy 1, 1681, .inl (fr))), (h0, .inr (4, [.ref h1, v1, v2, v3, v4, v5, v6, v7, v8, v9, v10, .int 0, .int 0, .int 0, .int 0, .int 0])), (h1, .inl (cy 1, 4, .inl (fun _ => 0)))] H → va_D A [(n0, .inr (5, [.ref n1, .ref n2, .ref n3, z3, z4, z5, z6])), (n1, .inl (cy 1, 41, .inl (fun _ => 0))), (n2, .inl (cy 1, 1681, .inl (fr))), (h0, .inr (4, [.ref h1, v1, v2, v3, v4, v5, v6, v7, v8, v9, v10, .int 0, .int 0, .int 0, .int 0, .int 0])), (h1, .inl (cy 1, 4, .inl (fun _ => 0)))] → va_S A s.heap H locs → ∀ ls : Array Slot, lv_has ls 3 [(2, .int (nI i1)), (0, .ref n0), (1, .ref h0)] → W p l e (rmk 2 0 0) s m args below meth c H locs 0 0 Q (F0 m 2 ls []) := by
    intro n
    induction n with
    | zero => intro i1 h1 h2; exact absurd h2 (by omega)
    | succ n ih =>
      intro i1 hi1 hn1  H locs hP hD hS ls hl
      have ih1 := ih
      refine lv_iload_n hx hb dX5_begin_2 rfl (lv_at hl 0 rfl) ?_
      refine lv_bipush (v := 41) hx hb dX5_begin_3 (by decide) ?_
      refine lv_icmp_ge (tgt := 21) hx hb dX5_begin_5 (by decide) (fun c1 => ?_) (fun c1 => ?_)
      · have hend1 : i1 = 41 := lp_end (N := 41) (by decide) hi1 (by decide) c1
        subst hend1
        refine lv_aload_n hx hb dX5_begin_21 rfl (lv_at hl 1 rfl) ?_
        refine va_get (D := D) (ci := 5) (v := .ref n1) (C := RX5) (T := TX5) (N := 7) hx hb hg i_X5 hown hK hP 0 rfl rfl 0 (by decide) (hg _ m_423) (fun _ h9 => h9) rfl dX5_begin_22 ?_
        refine lv_bipush (v := 22) hx hb dX5_begin_25 (by decide) ?_
        refine lv_aload_n hx hb dX5_begin_27 rfl (lv_at hl 2 rfl) ?_
        refine va_get (D := D) (ci := 4) (v := .int 0) (C := RX4) (T := TX4) (N := 16) hx hb hg i_X4 hown hK hP 3 rfl rfl 13 (by decide) (hg _ m_374) (fun _ h9 => h9) rfl dX5_begin_28 ?_
        refine va_iast hx hb hK hP hD hS 1 1 rfl rfl (by unfold vp_in; decide) dX5_begin_31 (fun H locs hP hD hS => ?_)
        rw [upd_z] at hP hD
        have hP : va_P D vwCl [(n0, .inr (5, [.ref n1, .ref n2, .ref n3, z3, z4, z5, z6])), (n1, .inl (cy 1, 41, .inl (fun _ => 0))), (n2, .inl (cy 1, 1681, .inl (fr))), (h0, .inr (4, [.ref h1, v1, v2, v3, v4, v5, v6, v7, v8, v9, v10, .int 0, .int 0, .int 0, .int 0, .int 0])), (h1, .inl (cy 1, 4, .inl (fun _ => 0)))] H := hP
        have hD : va_D A [(n0, .inr (5, [.ref n1, .ref n2, .ref n3, z3, z4, z5, z6])), (n1, .inl (cy 1, 41, .inl (fun _ => 0))), (n2, .inl (cy 1, 1681, .inl (fr))), (h0, .inr (4, [.ref h1, v1, v2, v3, v4, v5, v6, v7, v8, v9, v10, .int 0, .int 0, .int 0, .int 0, .int 0])), (h1, .inl (cy 1, 4, .inl (fun _ => 0)))] := hD
        refine lv_aload_n hx hb dX5_begin_32 rfl (lv_at hl 1 rfl) ?_
        refine va_get (D := D) (ci := 5) (v := .ref n1) (C := RX5) (T := TX5) (N := 7) hx hb hg i_X5 hown hK hP 0 rfl rfl 0 (by decide) (hg _ m_423) (fun _ h9 => h9) rfl dX5_begin_33 ?_
        refine lv_bipush (v := 23) hx hb dX5_begin_36 (by decide) ?_
        refine lv_aload_n hx hb dX5_begin_38 rfl (lv_at hl 2 rfl) ?_
        refine va_get (D := D) (ci := 4) (v := .int 0) (C := RX4) (T := TX4) (N := 16) hx hb hg i_X4 hown hK hP 3 rfl rfl 14 (by decide) (hg _ m_378) (fun _ h9 => h9) rfl dX5_begin_39 ?_
        refine va_iast hx hb hK hP hD hS 1 1 rfl rfl (by unfold vp_in; decide) dX5_begin_42 (fun H locs hP hD hS => ?_)
        rw [upd_z] at hP hD
        have hP : va_P D vwCl [(n0, .inr (5, [.ref n1, .ref n2, .ref n3, z3, z4, z5, z6])), (n1, .inl (cy 1, 41, .inl (fun _ => 0))), (n2, .inl (cy 1, 1681, .inl (fr))), (h0, .inr (4, [.ref h1, v1, v2, v3, v4, v5, v6, v7, v8, v9, v10, .int 0, .int 0, .int 0, .int 0, .int 0])), (h1, .inl (cy 1, 4, .inl (fun _ => 0)))] H := hP
        have hD : va_D A [(n0, .inr (5, [.ref n1, .ref n2, .ref n3, z3, z4, z5, z6])), (n1, .inl (cy 1, 41, .inl (fun _ => 0))), (n2, .inl (cy 1, 1681, .inl (fr))), (h0, .inr (4, [.ref h1, v1, v2, v3, v4, v5, v6, v7, v8, v9, v10, .int 0, .int 0, .int 0, .int 0, .int 0])), (h1, .inl (cy 1, 4, .inl (fun _ => 0)))] := hD
        refine lv_iconst (v := 0) hx hb dX5_begin_43 (by decide) ?_
        refine lv_istore_n (lv' := [(2, .int 0), (0, .ref n0), (1, .ref h0)]) hx hb dX5_begin_44 rfl hl (by decide) rfl (fun ls hl => ?_)
        refine lv_iload_n hx hb dX5_begin_45 rfl (lv_at hl 0 rfl) ?_
        refine lv_aload_n hx hb dX5_begin_46 rfl (lv_at hl 2 rfl) ?_
        refine va_get (D := D) (ci := 4) (v := .ref h1) (C := RX4) (T := TX4) (N := 16) hx hb hg i_X4 hown hK hP 3 rfl rfl 0 (by decide) (hg _ m_332) (fun _ h9 => h9) rfl dX5_begin_47 ?_
        refine lv_iconst (v := 1) hx hb dX5_begin_50 (by decide) ?_
        refine va_iald hx hb hK hP 4 1 rfl rfl (by unfold vp_in; decide) dX5_begin_51 ?_
        refine lv_topi (fun y_2 hy_2 => ?_)
        obtain rfl : y_2 = 0 := hy_2.trans (by decide +kernel)
        refine lv_icmp_ge (tgt := 76) hx hb dX5_begin_52 (by decide) (fun _ => ?_) (fun h => absurd (by decide) h)
        refine lv_aload_n hx hb dX5_begin_76 rfl (lv_at hl 1 rfl) ?_
        refine lv_iconst (v := 0) hx hb dX5_begin_77 (by decide) ?_
        refine va_put (D := D) (ci := 5) (v := .int 0) (ty := .int) (C := RX5) (T := TX5) (N := 7) hx hb hg i_X5 tyX5 tyX5_ok nmX5 hown hK hP hD hS 0 rfl rfl 3 (by decide) (hg _ m_427) (fun _ h9 => h9) rfl (by decide +kernel) rfl rfl (Nat.le_of_ble_eq_true rfl) dX5_begin_78 (fun H locs hP hD hS => ?_)
        have hP : va_P D vwCl [(n0, .inr (5, [.ref n1, .ref n2, .ref n3, .int 0, z4, z5, z6])), (n1, .inl (cy 1, 41, .inl (fun _ => 0))), (n2, .inl (cy 1, 1681, .inl (fr))), (h0, .inr (4, [.ref h1, v1, v2, v3, v4, v5, v6, v7, v8, v9, v10, .int 0, .int 0, .int 0, .int 0, .int 0])), (h1, .inl (cy 1, 4, .inl (fun _ => 0)))] H := hP
        have hD : va_D A [(n0, .inr (5, [.ref n1, .ref n2, .ref n3, .int 0, z4, z5, z6])), (n1, .inl (cy 1, 41, .inl (fun _ => 0))), (n2, .inl (cy 1, 1681, .inl (fr))), (h0, .inr (4, [.ref h1, v1, v2, v3, v4, v5, v6, v7, v8, v9, v10, .int 0, .int 0, .int 0, .int 0, .int 0])), (h1, .inl (cy 1, 4, .inl (fun _ => 0)))] := hD
        refine lv_aload_n hx hb dX5_begin_81 rfl (lv_at hl 1 rfl) ?_
        refine x_callVv (q := (RX5, TX5, 7)) (ci := 5) (q0 := 0) (wr := [(h0, .inr (4, [.ref h1, v1, v2, v3, v4, v5, v6, v7, v8, v9, v10, .int 0, .int 0, .int 0, .int 0, .int 0])), (h1, .inl (cy 1, 4, .inl (fun _ => 0)))]) (rest := []) ⟨hx, hb, hml, hown, hg, hl.1⟩ k_X5_39 (c_forgetActs l D cy n0 n1 n2 n3 ((.int 0)) z4 z5 z6 (fun _ => 0) fr) E0_blind hK hP hD hS hA [0, 1, 2] [3, 4] ⟨rfl, rfl, by decide, by decide, by decide⟩ rfl rfl (fun _ _ _ => trivial) dX5_begin_82 rfl rfl (Nat.le_of_ble_eq_true rfl) ⟨Nat.le_of_ble_eq_true rfl, Nat.le_of_ble_eq_true rfl⟩ ⟨Nat.le_of_ble_eq_true rfl, Nat.le_of_ble_eq_true rfl⟩ (fun u3 H locs hw3 hP hD hS => ?_)
        obtain ⟨fr2_4, rfl⟩ : ∃ z, z = u3 := ⟨_, rfl⟩
        have hP : va_P D vwCl [(h0, .inr (4, [.ref h1, v1, v2, v3, v4, v5, v6, v7, v8, v9, v10, .int 0, .int 0, .int 0, .int 0, .int 0])), (h1, .inl (cy 1, 4, .inl (fun _ => 0))), (n0, .inr (5, [.ref n1, .ref n2, .ref n3, .int 0, .int 0, .int 0, .int 0])), (n1, .inl (cy 1, 41, .inl (fun _ => 0))), (n2, .inl (cy 1, 1681, .inl (fr2_4)))] H := hP
        have hD : va_D A [(h0, .inr (4, [.ref h1, v1, v2, v3, v4, v5, v6, v7, v8, v9, v10, .int 0, .int 0, .int 0, .int 0, .int 0])), (h1, .inl (cy 1, 4, .inl (fun _ => 0))), (n0, .inr (5, [.ref n1, .ref n2, .ref n3, .int 0, .int 0, .int 0, .int 0])), (n1, .inl (cy 1, 41, .inl (fun _ => 0))), (n2, .inl (cy 1, 1681, .inl (fr2_4)))] := hD
        refine W.widen (k := 0) (n := 0) (Nat.le_of_ble_eq_true rfl) (Nat.le_of_ble_eq_true rfl) ?_
        exact x_vret hQ hx hb hr hlocks hK hP hD hS dX5_begin_85 fr2_4 (trivial) [2, 3, 4, 0, 1] (by decide) rfl (Nat.le_of_ble_eq_true rfl) (Nat.le_of_ble_eq_true rfl)
      · have hlt1 : i1 < 41 := lp_go (by decide) hi1 (by decide) c1
        refine lv_aload_n hx hb dX5_begin_8 rfl (lv_at hl 1 rfl) ?_
        refine va_get (D := D) (ci := 5) (v := .ref n1) (C := RX5) (T := TX5) (N := 7) hx hb hg i_X5 hown hK hP 0 rfl rfl 0 (by decide) (hg _ m_423) (fun _ h9 => h9) rfl dX5_begin_9 ?_
        refine lv_iload_n hx hb dX5_begin_12 rfl (lv_at hl 0 rfl) ?_
        refine lv_iconst (v := 0) hx hb dX5_begin_13 (by decide) ?_
        refine va_iast hx hb hK hP hD hS 1 1 rfl rfl (vp_in_nI (by omega) (by decide)) dX5_begin_14 (fun H locs hP hD hS => ?_)
        rw [upd_z] at hP hD
        have hP : va_P D vwCl [(n0, .inr (5, [.ref n1, .ref n2, .ref n3, z3, z4, z5, z6])), (n1, .inl (cy 1, 41, .inl (fun _ => 0))), (n2, .inl (cy 1, 1681, .inl (fr))), (h0, .inr (4, [.ref h1, v1, v2, v3, v4, v5, v6, v7, v8, v9, v10, .int 0, .int 0, .int 0, .int 0, .int 0])), (h1, .inl (cy 1, 4, .inl (fun _ => 0)))] H := hP
        have hD : va_D A [(n0, .inr (5, [.ref n1, .ref n2, .ref n3, z3, z4, z5, z6])), (n1, .inl (cy 1, 41, .inl (fun _ => 0))), (n2, .inl (cy 1, 1681, .inl (fr))), (h0, .inr (4, [.ref h1, v1, v2, v3, v4, v5, v6, v7, v8, v9, v10, .int 0, .int 0, .int 0, .int 0, .int 0])), (h1, .inl (cy 1, 4, .inl (fun _ => 0)))] := hD
        refine lv_iinc (v := nI (i1 + 1)) (lv' := [(2, .int (nI (i1 + 1))), (0, .ref n0), (1, .ref h0)]) hx hb dX5_begin_15 hl (k := 0) rfl (lp_inc i1) (by decide) rfl (fun ls hl => ?_)
        refine lv_goto (tgt := 2) hx hb dX5_begin_18 (by decide) ?_
        exact ih1 (i1 + 1) (by omega) (by omega)  _ _ (hP.sub [0, 1, 2, 3, 4] rfl) (hD.sub [0, 1, 2, 3, 4] (by decide) rfl) hS ls (lv_sub hl [0, 1, 2] rfl)
  exact loop1 42 0 (by omega) (by omega)  _ _ (hP.sub [0, 1, 2, 3, 4] rfl) (hD.sub [0, 1, 2, 3, 4] (by decide) rfl) hS ls (lv_sub hl [0, 1, 2] rfl)
theorem dX8_forget_0 : decode cX8_forget 0 = .ok (.aload_n 0, 1) := by decide +kernel
theorem dX8_forget_1 : decode cX8_forget 1 = .ok (.iconst 0, 1) := by decide +kernel
theorem dX8_forget_2 : decode cX8_forget 2 = .ok (.putfield 38, 3) := by decide +kernel
theorem dX8_forget_5 : decode cX8_forget 5 = .ok (.return_, 1) := by decide +kernel
set_option maxHeartbeats 400000 in
set_option maxRecDepth 100000 in
theorem c_forget (l : Launch) (D : va_G) (cy : Nat → ClassId) (so0 : Nat) (uv0 : Value) (uv1 : Value) (uv2 : Value) (uv3 : Value) (uv4 : Value) (uv5 : Value) (uv6 : Value) (uv7 : Value) (uv8 : Value) (uv9 : Value) (uv10 : Value) (uv11 : Value) (uv12 : Value)  : XMv l D (tyL cy) E0 yX8_forget cX8_forget 1 none (rmk 0 0 0) [.ref so0] [(so0, .inr (8, [uv0, uv1, uv2, uv3, uv4, uv5, uv6, uv7, uv8, uv9, uv10, uv11, uv12]))] (fun (_ : Unit) => True) (fun (_ : Unit) => []) := by
  refine XMv.start (by decide) (Nat.le_of_ble_eq_true rfl) ?_
  intro p e s m below meth c args A ls Q hat hQ
  obtain ⟨hx, hb, hr, hml, hown, hg, hlocks, hin, hK, hA, hP, hD, hS, hE, hl⟩ := hat
  have hown : s.vm.findClass RX8 = some m.cls := hown
  have hl : lv_has ls 1 [(0, .ref so0)] := hl
  refine lv_aload_n hx hb dX8_forget_0 rfl (lv_at hl 0 rfl) ?_
  refine lv_iconst (v := 0) hx hb dX8_forget_1 (by decide) ?_
  refine va_put (D := D) (ci := 8) (v := .int 0) (ty := .int) (C := RX8) (T := TX8) (N := 13) hx hb hg i_X8 tyX8 tyX8_ok nmX8 hown hK hP hD hS 0 rfl rfl 8 (by decide) (hg _ m_462) (fun _ h9 => h9) rfl (by decide +kernel) rfl rfl (Nat.le_of_ble_eq_true rfl) dX8_forget_2 (fun H locs hP hD hS => ?_)
  have hP : va_P D vwCl [(so0, .inr (8, [uv0, uv1, uv2, uv3, uv4, uv5, uv6, uv7, .int 0, uv9, uv10, uv11, uv12]))] H := hP
  have hD : va_D A [(so0, .inr (8, [uv0, uv1, uv2, uv3, uv4, uv5, uv6, uv7, .int 0, uv9, uv10, uv11, uv12]))] := hD
  exact x_vret hQ hx hb hr hlocks hK hP hD hS dX8_forget_5 () (trivial) [] (by decide) rfl (Nat.le_of_ble_eq_true rfl) (Nat.le_of_ble_eq_true rfl)
theorem dX11_hills_0 : decode cX11_hills 0 = .ok (.aload_n 0, 1) := by decide +kernel
theorem dX11_hills_1 : decode cX11_hills 1 = .ok (.getfield 21, 3) := by decide +kernel
theorem dX11_hills_4 : decode cX11_hills 4 = .ok (.aload_n 0, 1) := by decide +kernel
theorem dX11_hills_5 : decode cX11_hills 5 = .ok (.getfield 32, 3) := by decide +kernel
theorem m_661 : (Cond.fieldLink RX11 32 "CliffJudges" "spare" "LCliffJudges$Hills;") ∈ gT := gm 661 (by decide +kernel) (by decide +kernel)
theorem dX11_hills_8 : decode cX11_hills 8 = .ok (.invokevirtual 100, 3) := by decide +kernel
theorem m_717 : (Cond.methodLink RX11 100 yX10_tell) ∈ gT := gm 717 (by decide +kernel) (by decide +kernel)
theorem m_718 : (Cond.instanceMethod yX10_tell) ∈ gT := gm 718 (by decide +kernel) (by decide +kernel)
theorem m_719 : (Cond.selects RX10 yX10_tell yX10_tell) ∈ gT := gm 719 (by decide +kernel) (by decide +kernel)
theorem m_136 : (Cond.initialized RX10) ∈ gT := gm 136 (by decide +kernel) (by decide +kernel)
theorem m_720 : (Cond.code yX10_tell cX10_tell 4 (some .boolean)) ∈ gT := gm 720 (by decide +kernel) (by decide +kernel)
theorem k_X11_100 : xV RX11 RX10 100 yX10_tell cX10_tell 4 (some .boolean) 1 := ⟨⟨m_717, m_718, m_719, m_136, m_720⟩, rfl, by decide, by decide, by decide +kernel⟩
theorem dX11_hills_11 : decode cX11_hills 11 = .ok (.istore_n 1, 1) := by decide +kernel
theorem dX11_hills_12 : decode cX11_hills 12 = .ok (.aload_n 0, 1) := by decide +kernel
theorem dX11_hills_13 : decode cX11_hills 13 = .ok (.getfield 10, 3) := by decide +kernel
theorem dX11_hills_16 : decode cX11_hills 16 = .ok (.iconst 0, 1) := by decide +kernel
theorem dX11_hills_17 : decode cX11_hills 17 = .ok (.putfield 93, 3) := by decide +kernel
theorem dX11_hills_20 : decode cX11_hills 20 = .ok (.iload_n 1, 1) := by decide +kernel
theorem dX11_hills_21 : decode cX11_hills 21 = .ok (.ifCond .ne 5, 3) := by decide +kernel
theorem dX11_hills_26 : decode cX11_hills 26 = .ok (.aload_n 0, 1) := by decide +kernel
theorem dX11_hills_27 : decode cX11_hills 27 = .ok (.getfield 28, 3) := by decide +kernel
theorem dX11_hills_30 : decode cX11_hills 30 = .ok (.astore_n 2, 1) := by decide +kernel
theorem dX11_hills_31 : decode cX11_hills 31 = .ok (.aload_n 0, 1) := by decide +kernel
theorem dX11_hills_32 : decode cX11_hills 32 = .ok (.aload_n 0, 1) := by decide +kernel
theorem dX11_hills_33 : decode cX11_hills 33 = .ok (.getfield 32, 3) := by decide +kernel
theorem dX11_hills_36 : decode cX11_hills 36 = .ok (.putfield 28, 3) := by decide +kernel
theorem dX11_hills_39 : decode cX11_hills 39 = .ok (.aload_n 0, 1) := by decide +kernel
theorem dX11_hills_40 : decode cX11_hills 40 = .ok (.aload_n 2, 1) := by decide +kernel
theorem dX11_hills_41 : decode cX11_hills 41 = .ok (.putfield 32, 3) := by decide +kernel
theorem dX11_hills_44 : decode cX11_hills 44 = .ok (.aload_n 0, 1) := by decide +kernel
theorem dX11_hills_45 : decode cX11_hills 45 = .ok (.getfield 38, 3) := by decide +kernel
theorem dX11_hills_48 : decode cX11_hills 48 = .ok (.aload_n 0, 1) := by decide +kernel
theorem dX11_hills_49 : decode cX11_hills 49 = .ok (.getfield 28, 3) := by decide +kernel
theorem dX11_hills_52 : decode cX11_hills 52 = .ok (.invokevirtual 104, 3) := by decide +kernel
theorem m_926 : (Cond.methodLink RX11 104 yX5_begin) ∈ gT := gm 926 (by decide +kernel) (by decide +kernel)
theorem m_927 : (Cond.instanceMethod yX5_begin) ∈ gT := gm 927 (by decide +kernel) (by decide +kernel)
theorem m_928 : (Cond.selects RX5 yX5_begin yX5_begin) ∈ gT := gm 928 (by decide +kernel) (by decide +kernel)
theorem m_929 : (Cond.code yX5_begin cX5_begin 3 none) ∈ gT := gm 929 (by decide +kernel) (by decide +kernel)
theorem k_X11_104 : xV RX11 RX5 104 yX5_begin cX5_begin 3 none 1 := ⟨⟨m_926, m_927, m_928, m_139, m_929⟩, rfl, by decide, by decide, by decide +kernel⟩
theorem dX11_hills_55 : decode cX11_hills 55 = .ok (.aload_n 0, 1) := by decide +kernel
theorem dX11_hills_56 : decode cX11_hills 56 = .ok (.getfield 45, 3) := by decide +kernel
theorem dX11_hills_59 : decode cX11_hills 59 = .ok (.invokevirtual 108, 3) := by decide +kernel
theorem m_937 : (Cond.methodLink RX11 108 yX8_forget) ∈ gT := gm 937 (by decide +kernel) (by decide +kernel)
theorem m_938 : (Cond.instanceMethod yX8_forget) ∈ gT := gm 938 (by decide +kernel) (by decide +kernel)
theorem m_939 : (Cond.selects RX8 yX8_forget yX8_forget) ∈ gT := gm 939 (by decide +kernel) (by decide +kernel)
theorem m_940 : (Cond.code yX8_forget cX8_forget 1 none) ∈ gT := gm 940 (by decide +kernel) (by decide +kernel)
theorem k_X11_108 : xV RX11 RX8 108 yX8_forget cX8_forget 1 none 0 := ⟨⟨m_937, m_938, m_939, m_140, m_940⟩, rfl, by decide, by decide, by decide +kernel⟩
theorem dX11_hills_62 : decode cX11_hills 62 = .ok (.aload_n 0, 1) := by decide +kernel
theorem dX11_hills_63 : decode cX11_hills 63 = .ok (.iconst 0, 1) := by decide +kernel
theorem dX11_hills_64 : decode cX11_hills 64 = .ok (.putfield 89, 3) := by decide +kernel
theorem dX11_hills_67 : decode cX11_hills 67 = .ok (.aload_n 0, 1) := by decide +kernel
theorem dX11_hills_68 : decode cX11_hills 68 = .ok (.getfield 28, 3) := by decide +kernel
theorem dX11_hills_71 : decode cX11_hills 71 = .ok (.getfield 111, 3) := by decide +kernel
theorem dX11_hills_74 : decode cX11_hills 74 = .ok (.iconst 1, 1) := by decide +kernel
theorem dX11_hills_75 : decode cX11_hills 75 = .ok (.iaload, 1) := by decide +kernel
theorem dX11_hills_76 : decode cX11_hills 76 = .ok (.ireturn, 1) := by decide +kernel
set_option maxHeartbeats 400000 in
set_option maxRecDepth 100000 in
theorem t_hills (l : Launch) (D : va_G) (cy : Nat → ClassId) (a0 : Nat) (w6 : Value) (w7 : Value) (w8 : Value) (w9 : Value) (w10 : Value) (w11 : Value) (w12 : Value) (w13 : Value) (g0 : Nat) (te0 : Nat) (sv1 : Value) (sv2 : Value) (sv3 : Value) (sv4 : Value) (sv5 : Value) (sv6 : Value) (sv7 : Value) (sv8 : Value) (sv9 : Value) (ta0 : Nat) (tv0 : Value) (tv1 : Value) (tv6 : Value) (tv7 : Value) (tv3 : Value) (tv4 : Value) (tv5 : Value) (h0 : Nat) (h1 : Nat) (h7 : Nat) (h9 : Nat) (h10 : Nat) (h11 : Nat) (v1 : Value) (v2 : Value) (v3 : Value) (v4 : Value) (v5 : Value) (v7 : Value) (v11 : Value) (v12 : Value) (v13 : Value) (v14 : Value) (v15 : Value) (ya0 : Value) (ya1 : Value) (ya2 : Value) (ya3 : Value) (yb0 : Value) (yb1 : Value) (yb2 : Value) (yb3 : Value) (yc0 : Value) (yc1 : Value) (yc2 : Value) (yc3 : Value) (fx : Nat → Int32) (n0 : Nat) (n1 : Nat) (n2 : Nat) (n3 : Nat) (z3 : Value) (z4 : Value) (z5 : Value) (z6 : Value) (fr : Nat → Int32) (so0 : Nat) (uv0 : Value) (uv1 : Value) (uv2 : Value) (uv3 : Value) (uv4 : Value) (uv5 : Value) (uv6 : Value) (uv7 : Value) (uv8 : Value) (uv9 : Value) (uv10 : Value) (uv11 : Value) (uv12 : Value)  : XMi l D (tyL cy) E0 yX11_hills cX11_hills 3 (some .int) (rmk 4 0 0) [.ref a0] [(a0, .inr (11, [.ref ta0, .ref te0, .ref g0, .ref h0, .ref n0, .ref so0, w6, w7, w8, w9, w10, w11, w12, w13])), (te0, .inr (10, [.ref ta0, sv1, sv2, sv3, sv4, sv5, sv6, sv7, sv8, sv9])), (ta0, .inr (9, [tv0, tv1, .int 0, tv3, tv4, tv5, tv6, tv7])), (h0, .inr (4, [.ref h1, v1, v2, v3, v4, v5, .ref h7, v7, .ref h9, .ref h10, .ref h11, v11, v12, v13, v14, v15])), (h1, .inl (cy 1, 4, .inl (fun _ => 0))), (h7, .inl (cy 1, 48, .inl (fx))), (h9, .inr (3, [ya0, ya1, ya2, ya3])), (h10, .inr (3, [yb0, yb1, yb2, yb3])), (h11, .inr (3, [yc0, yc1, yc2, yc3])), (n0, .inr (5, [.ref n1, .ref n2, .ref n3, z3, z4, z5, z6])), (n1, .inl (cy 1, 41, .inl (fun _ => 0))), (n2, .inl (cy 1, 1681, .inl (fr))), (so0, .inr (8, [uv0, uv1, uv2, uv3, uv4, uv5, uv6, uv7, uv8, uv9, uv10, uv11, uv12]))] (fun (r : Int32) (_ : Unit) => r = 0) (fun (_ : Unit) => []) := by
  refine XMi.start (by decide) (Nat.le_of_ble_eq_true rfl) ?_
  intro p e s m below meth c args A ls Q hat hQ
  obtain ⟨hx, hb, hr, hml, hown, hg, hlocks, hin, hK, hA, hP, hD, hS, hE, hl⟩ := hat
  have hown : s.vm.findClass RX11 = some m.cls := hown
  have hl : lv_has ls 3 [(0, .ref a0)] := hl
  refine lv_aload_n hx hb dX11_hills_0 rfl (lv_at hl 0 rfl) ?_
  refine va_get (D := D) (ci := 11) (v := .ref te0) (C := RX11) (T := TX11) (N := 14) hx hb hg i_X11 hown hK hP 0 rfl rfl 1 (by decide) (hg _ m_659) (fun _ h9 => h9) rfl dX11_hills_1 ?_
  refine lv_aload_n hx hb dX11_hills_4 rfl (lv_at hl 0 rfl) ?_
  refine va_get (D := D) (ci := 11) (v := .ref h0) (C := RX11) (T := TX11) (N := 14) hx hb hg i_X11 hown hK hP 0 rfl rfl 3 (by decide) (hg _ m_661) (fun _ h9 => h9) rfl dX11_hills_5 ?_
  refine x_callVi (q := (RX10, TX10, 10)) (ci := 10) (q0 := 0) (wr := [(a0, .inr (11, [.ref ta0, .ref te0, .ref g0, .ref h0, .ref n0, .ref so0, w6, w7, w8, w9, w10, w11, w12, w13])), (n0, .inr (5, [.ref n1, .ref n2, .ref n3, z3, z4, z5, z6])), (n1, .inl (cy 1, 41, .inl (fun _ => 0))), (n2, .inl (cy 1, 1681, .inl (fr))), (so0, .inr (8, [uv0, uv1, uv2, uv3, uv4, uv5, uv6, uv7, uv8, uv9, uv10, uv11, uv12]))]) (rest := []) ⟨hx, hb, hml, hown, hg, hl.1⟩ k_X11_100 (c_tell0 l D cy te0 sv1 sv2 sv3 sv4 sv5 sv6 sv7 sv8 sv9 ta0 tv0 tv1 tv6 tv7 tv3 tv4 tv5 h0 h1 h7 h9 h10 h11 v1 v2 v3 v4 v5 v7 v11 v12 v13 v14 v15 ya0 ya1 ya2 ya3 yb0 yb1 yb2 yb3 yc0 yc1 yc2 yc3 fx) E0_blind hK hP hD hS hA [1, 2, 3, 4, 5, 6, 7, 8] [0, 9, 10, 11, 12] ⟨rfl, rfl, by decide, by decide, by decide⟩ rfl rfl (fun _ _ _ => trivial) dX11_hills_8 rfl rfl (Nat.le_of_ble_eq_true rfl) ⟨Nat.le_of_ble_eq_true rfl, Nat.le_of_ble_eq_true rfl⟩ ⟨Nat.le_of_ble_eq_true rfl, Nat.le_of_ble_eq_true rfl⟩ (fun r1 u1 H locs hw1 hP hD hS => ?_)
  obtain ⟨fx2_2, rfl⟩ : ∃ z, z = u1 := ⟨_, rfl⟩
  have hP : va_P D vwCl [(a0, .inr (11, [.ref ta0, .ref te0, .ref g0, .ref h0, .ref n0, .ref so0, w6, w7, w8, w9, w10, w11, w12, w13])), (n0, .inr (5, [.ref n1, .ref n2, .ref n3, z3, z4, z5, z6])), (n1, .inl (cy 1, 41, .inl (fun _ => 0))), (n2, .inl (cy 1, 1681, .inl (fr))), (so0, .inr (8, [uv0, uv1, uv2, uv3, uv4, uv5, uv6, uv7, uv8, uv9, uv10, uv11, uv12])), (ta0, .inr (9, [tv0, tv1, .int 0, .int 0, .int 0, .int 0, tv6, tv7])), (h0, .inr (4, [.ref h1, v1, v2, v3, v4, v5, .ref h7, v7, .ref h9, .ref h10, .ref h11, .int 0, .int 0, .int 0, .int 0, .int 0])), (h1, .inl (cy 1, 4, .inl (fun _ => 0))), (h7, .inl (cy 1, 48, .inl (fx2_2)))] H := hP
  have hD : va_D A [(a0, .inr (11, [.ref ta0, .ref te0, .ref g0, .ref h0, .ref n0, .ref so0, w6, w7, w8, w9, w10, w11, w12, w13])), (n0, .inr (5, [.ref n1, .ref n2, .ref n3, z3, z4, z5, z6])), (n1, .inl (cy 1, 41, .inl (fun _ => 0))), (n2, .inl (cy 1, 1681, .inl (fr))), (so0, .inr (8, [uv0, uv1, uv2, uv3, uv4, uv5, uv6, uv7, uv8, uv9, uv10, uv11, uv12])), (ta0, .inr (9, [tv0, tv1, .int 0, .int 0, .int 0, .int 0, tv6, tv7])), (h0, .inr (4, [.ref h1, v1, v2, v3, v4, v5, .ref h7, v7, .ref h9, .ref h10, .ref h11, .int 0, .int 0, .int 0, .int 0, .int 0])), (h1, .inl (cy 1, 4, .inl (fun _ => 0))), (h7, .inl (cy 1, 48, .inl (fx2_2)))] := hD
  refine W.widen (k := 0) (n := 0) (Nat.le_of_ble_eq_true rfl) (Nat.le_of_ble_eq_true rfl) ?_
  have hw1 : r1 = 1 := hw1
  subst hw1
  refine lv_istore_n (lv' := [(1, .int 1), (0, .ref a0)]) hx hb dX11_hills_11 rfl hl (by decide) rfl (fun ls hl => ?_)
  refine lv_aload_n hx hb dX11_hills_12 rfl (lv_at hl 1 rfl) ?_
  refine va_get (D := D) (ci := 11) (v := .ref ta0) (C := RX11) (T := TX11) (N := 14) hx hb hg i_X11 hown hK hP 0 rfl rfl 0 (by decide) (hg _ m_658) (fun _ h9 => h9) rfl dX11_hills_13 ?_
  refine lv_iconst (v := 0) hx hb dX11_hills_16 (by decide) ?_
  refine va_put (D := D) (ci := 9) (v := .int 0) (ty := .int) (C := RX9) (T := TX9) (N := 8) hx hb hg i_X9 tyX9 tyX9_ok nmX9 hown hK hP hD hS 5 rfl rfl 2 (by decide) (hg _ m_217) (fun _ h9 => h9) rfl (by decide +kernel) rfl rfl (Nat.le_of_ble_eq_true rfl) dX11_hills_17 (fun H locs hP hD hS => ?_)
  have hP : va_P D vwCl [(a0, .inr (11, [.ref ta0, .ref te0, .ref g0, .ref h0, .ref n0, .ref so0, w6, w7, w8, w9, w10, w11, w12, w13])), (n0, .inr (5, [.ref n1, .ref n2, .ref n3, z3, z4, z5, z6])), (n1, .inl (cy 1, 41, .inl (fun _ => 0))), (n2, .inl (cy 1, 1681, .inl (fr))), (so0, .inr (8, [uv0, uv1, uv2, uv3, uv4, uv5, uv6, uv7, uv8, uv9, uv10, uv11, uv12])), (ta0, .inr (9, [tv0, tv1, .int 0, .int 0, .int 0, .int 0, tv6, tv7])), (h0, .inr (4, [.ref h1, v1, v2, v3, v4, v5, .ref h7, v7, .ref h9, .ref h10, .ref h11, .int 0, .int 0, .int 0, .int 0, .int 0])), (h1, .inl (cy 1, 4, .inl (fun _ => 0))), (h7, .inl (cy 1, 48, .inl (fx2_2)))] H := hP
  have hD : va_D A [(a0, .inr (11, [.ref ta0, .ref te0, .ref g0, .ref h0, .ref n0, .ref so0, w6, w7, w8, w9, w10, w11, w12, w13])), (n0, .inr (5, [.ref n1, .ref n2, .ref n3, z3, z4, z5, z6])), (n1, .inl (cy 1, 41, .inl (fun _ => 0))), (n2, .inl (cy 1, 1681, .inl (fr))), (so0, .inr (8, [uv0, uv1, uv2, uv3, uv4, uv5, uv6, uv7, uv8, uv9, uv10, uv11, uv12])), (ta0, .inr (9, [tv0, tv1, .int 0, .int 0, .int 0, .int 0, tv6, tv7])), (h0, .inr (4, [.ref h1, v1, v2, v3, v4, v5, .ref h7, v7, .ref h9, .ref h10, .ref h11, .int 0, .int 0, .int 0, .int 0, .int 0])), (h1, .inl (cy 1, 4, .inl (fun _ => 0))), (h7, .inl (cy 1, 48, .inl (fx2_2)))] := hD
  refine lv_iload_n hx hb dX11_hills_20 rfl (lv_at hl 0 rfl) ?_
  refine lv_if_ne (tgt := 26) hx hb dX11_hills_21 (by decide) (fun _ => ?_) (fun h => absurd h (by decide))
  refine lv_aload_n hx hb dX11_hills_26 rfl (lv_at hl 1 rfl) ?_
  refine va_get (D := D) (ci := 11) (v := .ref g0) (C := RX11) (T := TX11) (N := 14) hx hb hg i_X11 hown hK hP 0 rfl rfl 2 (by decide) (hg _ m_660) (fun _ h9 => h9) rfl dX11_hills_27 ?_
  refine lv_astore_n (lv' := [(2, .ref g0), (1, .int 1), (0, .ref a0)]) hx hb dX11_hills_30 rfl hl (by decide) rfl (fun ls hl => ?_)
  refine lv_aload_n hx hb dX11_hills_31 rfl (lv_at hl 2 rfl) ?_
  refine lv_aload_n hx hb dX11_hills_32 rfl (lv_at hl 2 rfl) ?_
  refine va_get (D := D) (ci := 11) (v := .ref h0) (C := RX11) (T := TX11) (N := 14) hx hb hg i_X11 hown hK hP 0 rfl rfl 3 (by decide) (hg _ m_661) (fun _ h9 => h9) rfl dX11_hills_33 ?_
  refine va_put (D := D) (ci := 11) (v := .ref h0) (ty := .object "CliffJudges$Hills") (C := RX11) (T := TX11) (N := 14) hx hb hg i_X11 tyX11 tyX11_ok nmX11 hown hK hP hD hS 0 rfl rfl 2 (by decide) (hg _ m_660) (fun _ h9 => h9) rfl (by decide +kernel) rfl rfl (Nat.le_of_ble_eq_true rfl) dX11_hills_36 (fun H locs hP hD hS => ?_)
  have hP : va_P D vwCl [(a0, .inr (11, [.ref ta0, .ref te0, .ref h0, .ref h0, .ref n0, .ref so0, w6, w7, w8, w9, w10, w11, w12, w13])), (n0, .inr (5, [.ref n1, .ref n2, .ref n3, z3, z4, z5, z6])), (n1, .inl (cy 1, 41, .inl (fun _ => 0))), (n2, .inl (cy 1, 1681, .inl (fr))), (so0, .inr (8, [uv0, uv1, uv2, uv3, uv4, uv5, uv6, uv7, uv8, uv9, uv10, uv11, uv12])), (ta0, .inr (9, [tv0, tv1, .int 0, .int 0, .int 0, .int 0, tv6, tv7])), (h0, .inr (4, [.ref h1, v1, v2, v3, v4, v5, .ref h7, v7, .ref h9, .ref h10, .ref h11, .int 0, .int 0, .int 0, .int 0, .int 0])), (h1, .inl (cy 1, 4, .inl (fun _ => 0))), (h7, .inl (cy 1, 48, .inl (fx2_2)))] H := hP
  have hD : va_D A [(a0, .inr (11, [.ref ta0, .ref te0, .ref h0, .ref h0, .ref n0, .ref so0, w6, w7, w8, w9, w10, w11, w12, w13])), (n0, .inr (5, [.ref n1, .ref n2, .ref n3, z3, z4, z5, z6])), (n1, .inl (cy 1, 41, .inl (fun _ => 0))), (n2, .inl (cy 1, 1681, .inl (fr))), (so0, .inr (8, [uv0, uv1, uv2, uv3, uv4, uv5, uv6, uv7, uv8, uv9, uv10, uv11, uv12])), (ta0, .inr (9, [tv0, tv1, .int 0, .int 0, .int 0, .int 0, tv6, tv7])), (h0, .inr (4, [.ref h1, v1, v2, v3, v4, v5, .ref h7, v7, .ref h9, .ref h10, .ref h11, .int 0, .int 0, .int 0, .int 0, .int 0])), (h1, .inl (cy 1, 4, .inl (fun _ => 0))), (h7, .inl (cy 1, 48, .inl (fx2_2)))] := hD
  refine lv_aload_n hx hb dX11_hills_39 rfl (lv_at hl 2 rfl) ?_
  refine lv_aload_n hx hb dX11_hills_40 rfl (lv_at hl 0 rfl) ?_
  refine va_put (D := D) (ci := 11) (v := .ref g0) (ty := .object "CliffJudges$Hills") (C := RX11) (T := TX11) (N := 14) hx hb hg i_X11 tyX11 tyX11_ok nmX11 hown hK hP hD hS 0 rfl rfl 3 (by decide) (hg _ m_661) (fun _ h9 => h9) rfl (by decide +kernel) rfl rfl (Nat.le_of_ble_eq_true rfl) dX11_hills_41 (fun H locs hP hD hS => ?_)
  have hP : va_P D vwCl [(a0, .inr (11, [.ref ta0, .ref te0, .ref h0, .ref g0, .ref n0, .ref so0, w6, w7, w8, w9, w10, w11, w12, w13])), (n0, .inr (5, [.ref n1, .ref n2, .ref n3, z3, z4, z5, z6])), (n1, .inl (cy 1, 41, .inl (fun _ => 0))), (n2, .inl (cy 1, 1681, .inl (fr))), (so0, .inr (8, [uv0, uv1, uv2, uv3, uv4, uv5, uv6, uv7, uv8, uv9, uv10, uv11, uv12])), (ta0, .inr (9, [tv0, tv1, .int 0, .int 0, .int 0, .int 0, tv6, tv7])), (h0, .inr (4, [.ref h1, v1, v2, v3, v4, v5, .ref h7, v7, .ref h9, .ref h10, .ref h11, .int 0, .int 0, .int 0, .int 0, .int 0])), (h1, .inl (cy 1, 4, .inl (fun _ => 0))), (h7, .inl (cy 1, 48, .inl (fx2_2)))] H := hP
  have hD : va_D A [(a0, .inr (11, [.ref ta0, .ref te0, .ref h0, .ref g0, .ref n0, .ref so0, w6, w7, w8, w9, w10, w11, w12, w13])), (n0, .inr (5, [.ref n1, .ref n2, .ref n3, z3, z4, z5, z6])), (n1, .inl (cy 1, 41, .inl (fun _ => 0))), (n2, .inl (cy 1, 1681, .inl (fr))), (so0, .inr (8, [uv0, uv1, uv2, uv3, uv4, uv5, uv6, uv7, uv8, uv9, uv10, uv11, uv12])), (ta0, .inr (9, [tv0, tv1, .int 0, .int 0, .int 0, .int 0, tv6, tv7])), (h0, .inr (4, [.ref h1, v1, v2, v3, v4, v5, .ref h7, v7, .ref h9, .ref h10, .ref h11, .int 0, .int 0, .int 0, .int 0, .int 0])), (h1, .inl (cy 1, 4, .inl (fun _ => 0))), (h7, .inl (cy 1, 48, .inl (fx2_2)))] := hD
  refine lv_aload_n hx hb dX11_hills_44 rfl (lv_at hl 2 rfl) ?_
  refine va_get (D := D) (ci := 11) (v := .ref n0) (C := RX11) (T := TX11) (N := 14) hx hb hg i_X11 hown hK hP 0 rfl rfl 4 (by decide) (hg _ m_662) (fun _ h9 => h9) rfl dX11_hills_45 ?_
  refine lv_aload_n hx hb dX11_hills_48 rfl (lv_at hl 2 rfl) ?_
  refine va_get (D := D) (ci := 11) (v := .ref h0) (C := RX11) (T := TX11) (N := 14) hx hb hg i_X11 hown hK hP 0 rfl rfl 2 (by decide) (hg _ m_660) (fun _ h9 => h9) rfl dX11_hills_49 ?_
  refine x_callVv (q := (RX5, TX5, 7)) (ci := 5) (q0 := 0) (wr := [(a0, .inr (11, [.ref ta0, .ref te0, .ref h0, .ref g0, .ref n0, .ref so0, w6, w7, w8, w9, w10, w11, w12, w13])), (so0, .inr (8, [uv0, uv1, uv2, uv3, uv4, uv5, uv6, uv7, uv8, uv9, uv10, uv11, uv12])), (ta0, .inr (9, [tv0, tv1, .int 0, .int 0, .int 0, .int 0, tv6, tv7])), (h7, .inl (cy 1, 48, .inl (fx2_2)))]) (rest := []) ⟨hx, hb, hml, hown, hg, hl.1⟩ k_X11_104 (c_begin0 l D cy n0 n1 n2 n3 z3 z4 z5 z6 h0 h1 v1 v2 v3 v4 v5 ((.ref h7)) v7 ((.ref h9)) ((.ref h10)) ((.ref h11)) fr) E0_blind hK hP hD hS hA [1, 2, 3, 6, 7] [0, 4, 5, 8] ⟨rfl, rfl, by decide, by decide, by decide⟩ rfl rfl (fun _ _ _ => trivial) dX11_hills_52 rfl rfl (Nat.le_of_ble_eq_true rfl) ⟨Nat.le_of_ble_eq_true rfl, Nat.le_of_ble_eq_true rfl⟩ ⟨Nat.le_of_ble_eq_true rfl, Nat.le_of_ble_eq_true rfl⟩ (fun u3 H locs hw3 hP hD hS => ?_)
  obtain ⟨fr2_4, rfl⟩ : ∃ z, z = u3 := ⟨_, rfl⟩
  have hP : va_P D vwCl [(a0, .inr (11, [.ref ta0, .ref te0, .ref h0, .ref g0, .ref n0, .ref so0, w6, w7, w8, w9, w10, w11, w12, w13])), (so0, .inr (8, [uv0, uv1, uv2, uv3, uv4, uv5, uv6, uv7, uv8, uv9, uv10, uv11, uv12])), (ta0, .inr (9, [tv0, tv1, .int 0, .int 0, .int 0, .int 0, tv6, tv7])), (h7, .inl (cy 1, 48, .inl (fx2_2))), (n0, .inr (5, [.ref n1, .ref n2, .ref n3, .int 0, .int 0, .int 0, .int 0])), (n1, .inl (cy 1, 41, .inl (fun _ => 0))), (n2, .inl (cy 1, 1681, .inl (fr2_4))), (h0, .inr (4, [.ref h1, v1, v2, v3, v4, v5, .ref h7, v7, .ref h9, .ref h10, .ref h11, .int 0, .int 0, .int 0, .int 0, .int 0])), (h1, .inl (cy 1, 4, .inl (fun _ => 0)))] H := hP
  have hD : va_D A [(a0, .inr (11, [.ref ta0, .ref te0, .ref h0, .ref g0, .ref n0, .ref so0, w6, w7, w8, w9, w10, w11, w12, w13])), (so0, .inr (8, [uv0, uv1, uv2, uv3, uv4, uv5, uv6, uv7, uv8, uv9, uv10, uv11, uv12])), (ta0, .inr (9, [tv0, tv1, .int 0, .int 0, .int 0, .int 0, tv6, tv7])), (h7, .inl (cy 1, 48, .inl (fx2_2))), (n0, .inr (5, [.ref n1, .ref n2, .ref n3, .int 0, .int 0, .int 0, .int 0])), (n1, .inl (cy 1, 41, .inl (fun _ => 0))), (n2, .inl (cy 1, 1681, .inl (fr2_4))), (h0, .inr (4, [.ref h1, v1, v2, v3, v4, v5, .ref h7, v7, .ref h9, .ref h10, .ref h11, .int 0, .int 0, .int 0, .int 0, .int 0])), (h1, .inl (cy 1, 4, .inl (fun _ => 0)))] := hD
  refine W.widen (k := 0) (n := 0) (Nat.le_of_ble_eq_true rfl) (Nat.le_of_ble_eq_true rfl) ?_
  refine lv_aload_n hx hb dX11_hills_55 rfl (lv_at hl 2 rfl) ?_
  refine va_get (D := D) (ci := 11) (v := .ref so0) (C := RX11) (T := TX11) (N := 14) hx hb hg i_X11 hown hK hP 0 rfl rfl 5 (by decide) (hg _ m_663) (fun _ h9 => h9) rfl dX11_hills_56 ?_
  refine x_callVv (q := (RX8, TX8, 13)) (ci := 8) (q0 := 0) (wr := [(a0, .inr (11, [.ref ta0, .ref te0, .ref h0, .ref g0, .ref n0, .ref so0, w6, w7, w8, w9, w10, w11, w12, w13])), (ta0, .inr (9, [tv0, tv1, .int 0, .int 0, .int 0, .int 0, tv6, tv7])), (h7, .inl (cy 1, 48, .inl (fx2_2))), (n0, .inr (5, [.ref n1, .ref n2, .ref n3, .int 0, .int 0, .int 0, .int 0])), (n1, .inl (cy 1, 41, .inl (fun _ => 0))), (n2, .inl (cy 1, 1681, .inl (fr2_4))), (h0, .inr (4, [.ref h1, v1, v2, v3, v4, v5, .ref h7, v7, .ref h9, .ref h10, .ref h11, .int 0, .int 0, .int 0, .int 0, .int 0])), (h1, .inl (cy 1, 4, .inl (fun _ => 0)))]) (rest := []) ⟨hx, hb, hml, hown, hg, hl.1⟩ k_X11_108 (c_forget l D cy so0 uv0 uv1 uv2 uv3 uv4 uv5 uv6 uv7 uv8 uv9 uv10 uv11 uv12) E0_blind hK hP hD hS hA [1] [0, 2, 3, 4, 5, 6, 7, 8] ⟨rfl, rfl, by decide, by decide, by decide⟩ rfl rfl (fun _ _ _ => trivial) dX11_hills_59 rfl rfl (Nat.le_of_ble_eq_true rfl) ⟨Nat.le_of_ble_eq_true rfl, Nat.le_of_ble_eq_true rfl⟩ ⟨Nat.le_of_ble_eq_true rfl, Nat.le_of_ble_eq_true rfl⟩ (fun u5 H locs hw5 hP hD hS => ?_)
  have hP : va_P D vwCl [(a0, .inr (11, [.ref ta0, .ref te0, .ref h0, .ref g0, .ref n0, .ref so0, w6, w7, w8, w9, w10, w11, w12, w13])), (ta0, .inr (9, [tv0, tv1, .int 0, .int 0, .int 0, .int 0, tv6, tv7])), (h7, .inl (cy 1, 48, .inl (fx2_2))), (n0, .inr (5, [.ref n1, .ref n2, .ref n3, .int 0, .int 0, .int 0, .int 0])), (n1, .inl (cy 1, 41, .inl (fun _ => 0))), (n2, .inl (cy 1, 1681, .inl (fr2_4))), (h0, .inr (4, [.ref h1, v1, v2, v3, v4, v5, .ref h7, v7, .ref h9, .ref h10, .ref h11, .int 0, .int 0, .int 0, .int 0, .int 0])), (h1, .inl (cy 1, 4, .inl (fun _ => 0)))] H := hP
  have hD : va_D A [(a0, .inr (11, [.ref ta0, .ref te0, .ref h0, .ref g0, .ref n0, .ref so0, w6, w7, w8, w9, w10, w11, w12, w13])), (ta0, .inr (9, [tv0, tv1, .int 0, .int 0, .int 0, .int 0, tv6, tv7])), (h7, .inl (cy 1, 48, .inl (fx2_2))), (n0, .inr (5, [.ref n1, .ref n2, .ref n3, .int 0, .int 0, .int 0, .int 0])), (n1, .inl (cy 1, 41, .inl (fun _ => 0))), (n2, .inl (cy 1, 1681, .inl (fr2_4))), (h0, .inr (4, [.ref h1, v1, v2, v3, v4, v5, .ref h7, v7, .ref h9, .ref h10, .ref h11, .int 0, .int 0, .int 0, .int 0, .int 0])), (h1, .inl (cy 1, 4, .inl (fun _ => 0)))] := hD
  refine W.widen (k := 0) (n := 0) (Nat.le_of_ble_eq_true rfl) (Nat.le_of_ble_eq_true rfl) ?_
  refine lv_aload_n hx hb dX11_hills_62 rfl (lv_at hl 2 rfl) ?_
  refine lv_iconst (v := 0) hx hb dX11_hills_63 (by decide) ?_
  refine va_put (D := D) (ci := 11) (v := .int 0) (ty := .int) (C := RX11) (T := TX11) (N := 14) hx hb hg i_X11 tyX11 tyX11_ok nmX11 hown hK hP hD hS 0 rfl rfl 13 (by decide) (hg _ m_671) (fun _ h9 => h9) rfl (by decide +kernel) rfl rfl (Nat.le_of_ble_eq_true rfl) dX11_hills_64 (fun H locs hP hD hS => ?_)
  have hP : va_P D vwCl [(a0, .inr (11, [.ref ta0, .ref te0, .ref h0, .ref g0, .ref n0, .ref so0, w6, w7, w8, w9, w10, w11, w12, .int 0])), (ta0, .inr (9, [tv0, tv1, .int 0, .int 0, .int 0, .int 0, tv6, tv7])), (h7, .inl (cy 1, 48, .inl (fx2_2))), (n0, .inr (5, [.ref n1, .ref n2, .ref n3, .int 0, .int 0, .int 0, .int 0])), (n1, .inl (cy 1, 41, .inl (fun _ => 0))), (n2, .inl (cy 1, 1681, .inl (fr2_4))), (h0, .inr (4, [.ref h1, v1, v2, v3, v4, v5, .ref h7, v7, .ref h9, .ref h10, .ref h11, .int 0, .int 0, .int 0, .int 0, .int 0])), (h1, .inl (cy 1, 4, .inl (fun _ => 0)))] H := hP
  have hD : va_D A [(a0, .inr (11, [.ref ta0, .ref te0, .ref h0, .ref g0, .ref n0, .ref so0, w6, w7, w8, w9, w10, w11, w12, .int 0])), (ta0, .inr (9, [tv0, tv1, .int 0, .int 0, .int 0, .int 0, tv6, tv7])), (h7, .inl (cy 1, 48, .inl (fx2_2))), (n0, .inr (5, [.ref n1, .ref n2, .ref n3, .int 0, .int 0, .int 0, .int 0])), (n1, .inl (cy 1, 41, .inl (fun _ => 0))), (n2, .inl (cy 1, 1681, .inl (fr2_4))), (h0, .inr (4, [.ref h1, v1, v2, v3, v4, v5, .ref h7, v7, .ref h9, .ref h10, .ref h11, .int 0, .int 0, .int 0, .int 0, .int 0])), (h1, .inl (cy 1, 4, .inl (fun _ => 0)))] := hD
  refine lv_aload_n hx hb dX11_hills_67 rfl (lv_at hl 2 rfl) ?_
  refine va_get (D := D) (ci := 11) (v := .ref h0) (C := RX11) (T := TX11) (N := 14) hx hb hg i_X11 hown hK hP 0 rfl rfl 2 (by decide) (hg _ m_660) (fun _ h9 => h9) rfl dX11_hills_68 ?_
  refine va_get (D := D) (ci := 4) (v := .ref h1) (C := RX4) (T := TX4) (N := 16) hx hb hg i_X4 hown hK hP 6 rfl rfl 0 (by decide) (hg _ m_335) (fun _ h9 => h9) rfl dX11_hills_71 ?_
  refine lv_iconst (v := 1) hx hb dX11_hills_74 (by decide) ?_
  refine va_iald hx hb hK hP 7 1 rfl rfl (by unfold vp_in; decide) dX11_hills_75 ?_
  refine lv_topi (fun y_6 hy_6 => ?_)
  obtain rfl : y_6 = 0 := hy_6.trans (by decide +kernel)
  exact x_iret hQ hx hb hr hlocks hK hP hD hS dX11_hills_76 () (rfl) [] (by decide) rfl (Nat.le_of_ble_eq_true rfl) (Nat.le_of_ble_eq_true rfl)
theorem dX11_loadWeather_0 : decode cX11_loadWeather 0 = .ok (.aload_n 1, 1) := by decide +kernel
theorem dX11_loadWeather_1 : decode cX11_loadWeather 1 = .ok (.aload_n 0, 1) := by decide +kernel
theorem dX11_loadWeather_2 : decode cX11_loadWeather 2 = .ok (.getfield 38, 3) := by decide +kernel
theorem dX11_loadWeather_5 : decode cX11_loadWeather 5 = .ok (.getfield 127, 3) := by decide +kernel
theorem dX11_loadWeather_8 : decode cX11_loadWeather 8 = .ok (.bipush 22, 2) := by decide +kernel
theorem dX11_loadWeather_10 : decode cX11_loadWeather 10 = .ok (.iaload, 1) := by decide +kernel
theorem dX11_loadWeather_11 : decode cX11_loadWeather 11 = .ok (.putfield 250, 3) := by decide +kernel
set_option maxRecDepth 20000 in
theorem i_X7 : ∀ w ∈ u_ws RX7 TX7 7, w ∈ gT := gin [643, 645, 647, 649, 651, 653, 655] (by decide +kernel) (by decide +kernel)
theorem m_640 : (Cond.fieldLink RX11 250 "CliffJudges$Shout" "wind" "I") ∈ gT := gm 640 (by decide +kernel) (by decide +kernel)
theorem dX11_loadWeather_14 : decode cX11_loadWeather 14 = .ok (.aload_n 1, 1) := by decide +kernel
theorem dX11_loadWeather_15 : decode cX11_loadWeather 15 = .ok (.iconst 0, 1) := by decide +kernel
theorem dX11_loadWeather_16 : decode cX11_loadWeather 16 = .ok (.putfield 247, 3) := by decide +kernel
theorem m_642 : (Cond.fieldLink RX11 247 "CliffJudges$Shout" "chance" "I") ∈ gT := gm 642 (by decide +kernel) (by decide +kernel)
theorem dX11_loadWeather_19 : decode cX11_loadWeather 19 = .ok (.aload_n 0, 1) := by decide +kernel
theorem dX11_loadWeather_20 : decode cX11_loadWeather 20 = .ok (.getfield 38, 3) := by decide +kernel
theorem dX11_loadWeather_23 : decode cX11_loadWeather 23 = .ok (.getfield 127, 3) := by decide +kernel
theorem dX11_loadWeather_26 : decode cX11_loadWeather 26 = .ok (.bipush 25, 2) := by decide +kernel
theorem dX11_loadWeather_28 : decode cX11_loadWeather 28 = .ok (.aload_n 1, 1) := by decide +kernel
theorem dX11_loadWeather_29 : decode cX11_loadWeather 29 = .ok (.getfield 319, 3) := by decide +kernel
theorem m_627 : (Cond.fieldLink RX11 319 "CliffJudges$Shout" "snow" "[I") ∈ gT := gm 627 (by decide +kernel) (by decide +kernel)
theorem dX11_loadWeather_32 : decode cX11_loadWeather 32 = .ok (.iconst 0, 1) := by decide +kernel
theorem dX11_loadWeather_33 : decode cX11_loadWeather 33 = .ok (.iconst 4, 1) := by decide +kernel
theorem dX11_loadWeather_34 : decode cX11_loadWeather 34 = .ok (.invokestatic 322, 3) := by decide +kernel
theorem m_1013 : (Cond.methodLink RX11 322 ⟨"java/lang/System", "arraycopy", "(Ljava/lang/Object;ILjava/lang/Object;II)V"⟩) ∈ gT := gm 1013 (by decide +kernel) (by decide +kernel)
theorem dX11_loadWeather_37 : decode cX11_loadWeather 37 = .ok (.return_, 1) := by decide +kernel
set_option maxHeartbeats 400000 in
set_option maxRecDepth 100000 in
theorem c_loadWeather (l : Launch) (D : va_G) (cy : Nat → ClassId) (a0 : Nat) (w0 : Value) (w1 : Value) (w2 : Value) (w3 : Value) (w5 : Value) (w6 : Value) (w7 : Value) (w8 : Value) (w9 : Value) (w10 : Value) (w11 : Value) (w12 : Value) (w13 : Value) (n0 : Nat) (n1 : Nat) (n2 : Nat) (n3 : Nat) (z3 : Value) (z4 : Value) (z5 : Value) (z6 : Value) (sh0 : Nat) (sh1 : Nat) (xv0 : Value) (xv2 : Value) (xv3 : Value) (xv4 : Value) (xv5 : Value) (xv6 : Value) (fs : Nat → Int32)  : XMv l D (tyL cy) E0 yX11_loadWeather cX11_loadWeather 2 none (rmk 1 0 0) [.ref a0, .ref sh0] [(a0, .inr (11, [w0, w1, w2, w3, .ref n0, w5, w6, w7, w8, w9, w10, w11, w12, w13])), (n0, .inr (5, [.ref n1, .ref n2, .ref n3, z3, z4, z5, z6])), (n1, .inl (cy 1, 41, .inl (fun _ => 0))), (sh0, .inr (7, [xv0, .ref sh1, xv2, xv3, xv4, xv5, xv6])), (sh1, .inl (cy 1, 4, .inl (fs)))] (fun (fs2 : Nat → Int32) => True) (fun (fs2 : Nat → Int32) => [(a0, .inr (11, [w0, w1, w2, w3, .ref n0, w5, w6, w7, w8, w9, w10, w11, w12, w13])), (n0, .inr (5, [.ref n1, .ref n2, .ref n3, z3, z4, z5, z6])), (n1, .inl (cy 1, 41, .inl (fun _ => 0))), (sh0, .inr (7, [xv0, .ref sh1, xv2, xv3, xv4, .int 0, .int 0])), (sh1, .inl (cy 1, 4, .inl (fs2)))]) := by
  refine XMv.start (by decide) (Nat.le_of_ble_eq_true rfl) ?_
  intro p e s m below meth c args A ls Q hat hQ
  obtain ⟨hx, hb, hr, hml, hown, hg, hlocks, hin, hK, hA, hP, hD, hS, hE, hl⟩ := hat
  have hown : s.vm.findClass RX11 = some m.cls := hown
  have hl : lv_has ls 2 [(0, .ref a0), (1, .ref sh0)] := hl
  refine lv_aload_n hx hb dX11_loadWeather_0 rfl (lv_at hl 1 rfl) ?_
  refine lv_aload_n hx hb dX11_loadWeather_1 rfl (lv_at hl 0 rfl) ?_
  refine va_get (D := D) (ci := 11) (v := .ref n0) (C := RX11) (T := TX11) (N := 14) hx hb hg i_X11 hown hK hP 0 rfl rfl 4 (by decide) (hg _ m_662) (fun _ h9 => h9) rfl dX11_loadWeather_2 ?_
  refine va_get (D := D) (ci := 5) (v := .ref n1) (C := RX5) (T := TX5) (N := 7) hx hb hg i_X5 hown hK hP 1 rfl rfl 0 (by decide) (hg _ m_424) (fun _ h9 => h9) rfl dX11_loadWeather_5 ?_
  refine lv_bipush (v := 22) hx hb dX11_loadWeather_8 (by decide) ?_
  refine va_iald hx hb hK hP 2 1 rfl rfl (by unfold vp_in; decide) dX11_loadWeather_10 ?_
  refine lv_topi (fun y_1 hy_1 => ?_)
  obtain rfl : y_1 = 0 := hy_1.trans (by decide +kernel)
  refine va_put (D := D) (ci := 7) (v := .int 0) (ty := .int) (C := RX7) (T := TX7) (N := 7) hx hb hg i_X7 tyX7 tyX7_ok nmX7 hown hK hP hD hS 3 rfl rfl 5 (by decide) (hg _ m_640) (fun _ h9 => h9) rfl (by decide +kernel) rfl rfl (Nat.le_of_ble_eq_true rfl) dX11_loadWeather_11 (fun H locs hP hD hS => ?_)
  have hP : va_P D vwCl [(a0, .inr (11, [w0, w1, w2, w3, .ref n0, w5, w6, w7, w8, w9, w10, w11, w12, w13])), (n0, .inr (5, [.ref n1, .ref n2, .ref n3, z3, z4, z5, z6])), (n1, .inl (cy 1, 41, .inl (fun _ => 0))), (sh0, .inr (7, [xv0, .ref sh1, xv2, xv3, xv4, .int 0, xv6])), (sh1, .inl (cy 1, 4, .inl (fs)))] H := hP
  have hD : va_D A [(a0, .inr (11, [w0, w1, w2, w3, .ref n0, w5, w6, w7, w8, w9, w10, w11, w12, w13])), (n0, .inr (5, [.ref n1, .ref n2, .ref n3, z3, z4, z5, z6])), (n1, .inl (cy 1, 41, .inl (fun _ => 0))), (sh0, .inr (7, [xv0, .ref sh1, xv2, xv3, xv4, .int 0, xv6])), (sh1, .inl (cy 1, 4, .inl (fs)))] := hD
  refine lv_aload_n hx hb dX11_loadWeather_14 rfl (lv_at hl 1 rfl) ?_
  refine lv_iconst (v := 0) hx hb dX11_loadWeather_15 (by decide) ?_
  refine va_put (D := D) (ci := 7) (v := .int 0) (ty := .int) (C := RX7) (T := TX7) (N := 7) hx hb hg i_X7 tyX7 tyX7_ok nmX7 hown hK hP hD hS 3 rfl rfl 6 (by decide) (hg _ m_642) (fun _ h9 => h9) rfl (by decide +kernel) rfl rfl (Nat.le_of_ble_eq_true rfl) dX11_loadWeather_16 (fun H locs hP hD hS => ?_)
  have hP : va_P D vwCl [(a0, .inr (11, [w0, w1, w2, w3, .ref n0, w5, w6, w7, w8, w9, w10, w11, w12, w13])), (n0, .inr (5, [.ref n1, .ref n2, .ref n3, z3, z4, z5, z6])), (n1, .inl (cy 1, 41, .inl (fun _ => 0))), (sh0, .inr (7, [xv0, .ref sh1, xv2, xv3, xv4, .int 0, .int 0])), (sh1, .inl (cy 1, 4, .inl (fs)))] H := hP
  have hD : va_D A [(a0, .inr (11, [w0, w1, w2, w3, .ref n0, w5, w6, w7, w8, w9, w10, w11, w12, w13])), (n0, .inr (5, [.ref n1, .ref n2, .ref n3, z3, z4, z5, z6])), (n1, .inl (cy 1, 41, .inl (fun _ => 0))), (sh0, .inr (7, [xv0, .ref sh1, xv2, xv3, xv4, .int 0, .int 0])), (sh1, .inl (cy 1, 4, .inl (fs)))] := hD
  refine lv_aload_n hx hb dX11_loadWeather_19 rfl (lv_at hl 0 rfl) ?_
  refine va_get (D := D) (ci := 11) (v := .ref n0) (C := RX11) (T := TX11) (N := 14) hx hb hg i_X11 hown hK hP 0 rfl rfl 4 (by decide) (hg _ m_662) (fun _ h9 => h9) rfl dX11_loadWeather_20 ?_
  refine va_get (D := D) (ci := 5) (v := .ref n1) (C := RX5) (T := TX5) (N := 7) hx hb hg i_X5 hown hK hP 1 rfl rfl 0 (by decide) (hg _ m_424) (fun _ h9 => h9) rfl dX11_loadWeather_23 ?_
  refine lv_bipush (v := 25) hx hb dX11_loadWeather_26 (by decide) ?_
  refine lv_aload_n hx hb dX11_loadWeather_28 rfl (lv_at hl 1 rfl) ?_
  refine va_get (D := D) (ci := 7) (v := .ref sh1) (C := RX7) (T := TX7) (N := 7) hx hb hg i_X7 hown hK hP 3 rfl rfl 1 (by decide) (hg _ m_627) (fun _ h9 => h9) rfl dX11_loadWeather_29 ?_
  refine lv_iconst (v := 0) hx hb dX11_loadWeather_32 (by decide) ?_
  refine lv_iconst (v := 4) hx hb dX11_loadWeather_33 (by decide) ?_
  refine va_copyi hx hb (hml.trans hl.1.symm) hown (hg _ m_1013) (hg _ m_936) (hg _ m_935) (hg _ m_149) hK hP hD hS 2 4 1 1 rfl rfl rfl rfl rfl (by decide) (by decide) (by decide) (by decide) (by decide) (fun _ _ => rfl) (by decide) (Nat.le_of_ble_eq_true rfl) dX11_loadWeather_34 (fun H locs hP hD hS => ?_)
  obtain ⟨g_2, eg_2⟩ : ∃ y, va_cpy (fun _ => 0) (fs) (25 : Int32).toNatClampNeg (0 : Int32).toNatClampNeg (4 : Int32).toNatClampNeg = y := ⟨_, rfl⟩
  rw [eg_2] at hP hD
  have hP : va_P D vwCl [(a0, .inr (11, [w0, w1, w2, w3, .ref n0, w5, w6, w7, w8, w9, w10, w11, w12, w13])), (n0, .inr (5, [.ref n1, .ref n2, .ref n3, z3, z4, z5, z6])), (n1, .inl (cy 1, 41, .inl (fun _ => 0))), (sh0, .inr (7, [xv0, .ref sh1, xv2, xv3, xv4, .int 0, .int 0])), (sh1, .inl (cy 1, 4, .inl (g_2)))] H := hP
  have hD : va_D A [(a0, .inr (11, [w0, w1, w2, w3, .ref n0, w5, w6, w7, w8, w9, w10, w11, w12, w13])), (n0, .inr (5, [.ref n1, .ref n2, .ref n3, z3, z4, z5, z6])), (n1, .inl (cy 1, 41, .inl (fun _ => 0))), (sh0, .inr (7, [xv0, .ref sh1, xv2, xv3, xv4, .int 0, .int 0])), (sh1, .inl (cy 1, 4, .inl (g_2)))] := hD
  exact x_vret hQ hx hb hr hlocks hK hP hD hS dX11_loadWeather_37 g_2 (trivial) [0, 1, 2, 3, 4] (by decide) rfl (Nat.le_of_ble_eq_true rfl) (Nat.le_of_ble_eq_true rfl)
theorem dX11_loadCry_0 : decode cX11_loadCry 0 = .ok (.aload_n 1, 1) := by decide +kernel
theorem dX11_loadCry_1 : decode cX11_loadCry 1 = .ok (.aload_n 0, 1) := by decide +kernel
theorem dX11_loadCry_2 : decode cX11_loadCry 2 = .ok (.getfield 38, 3) := by decide +kernel
theorem dX11_loadCry_5 : decode cX11_loadCry 5 = .ok (.iload_n 2, 1) := by decide +kernel
theorem dX11_loadCry_6 : decode cX11_loadCry 6 = .ok (.invokevirtual 147, 3) := by decide +kernel
theorem dX11_loadCry_9 : decode cX11_loadCry 9 = .ok (.putfield 253, 3) := by decide +kernel
theorem m_632 : (Cond.fieldLink RX11 253 "CliffJudges$Shout" "length" "I") ∈ gT := gm 632 (by decide +kernel) (by decide +kernel)
theorem dX11_loadCry_12 : decode cX11_loadCry 12 = .ok (.iconst 0, 1) := by decide +kernel
theorem dX11_loadCry_13 : decode cX11_loadCry 13 = .ok (.istore_n 3, 1) := by decide +kernel
theorem dX11_loadCry_14 : decode cX11_loadCry 14 = .ok (.iload_n 3, 1) := by decide +kernel
theorem dX11_loadCry_15 : decode cX11_loadCry 15 = .ok (.aload_n 1, 1) := by decide +kernel
theorem dX11_loadCry_16 : decode cX11_loadCry 16 = .ok (.getfield 253, 3) := by decide +kernel
theorem dX11_loadCry_19 : decode cX11_loadCry 19 = .ok (.if_icmp .ge 24, 3) := by decide +kernel
theorem dX11_loadCry_43 : decode cX11_loadCry 43 = .ok (.return_, 1) := by decide +kernel
set_option maxHeartbeats 400000 in
set_option maxRecDepth 100000 in
theorem c_loadCry (l : Launch) (D : va_G) (cy : Nat → ClassId) (a0 : Nat) (w0 : Value) (w1 : Value) (w2 : Value) (w3 : Value) (w5 : Value) (w6 : Value) (w7 : Value) (w8 : Value) (w9 : Value) (w10 : Value) (w11 : Value) (w12 : Value) (w13 : Value) (n0 : Nat) (n1 : Nat) (n2 : Nat) (n3 : Nat) (z3 : Value) (z4 : Value) (z5 : Value) (z6 : Value) (sh0 : Nat) (sh1 : Nat) (xv0 : Value) (xv2 : Value) (xv3 : Value) (xv4 : Value) (xv5 : Value) (xv6 : Value)  : XMv l D (tyL cy) E0 yX11_loadCry cX11_loadCry 4 none (rmk 1 0 0) [.ref a0, .ref sh0, .int 0] [(a0, .inr (11, [w0, w1, w2, w3, .ref n0, w5, w6, w7, w8, w9, w10, w11, w12, w13])), (n0, .inr (5, [.ref n1, .ref n2, .ref n3, z3, z4, z5, z6])), (n1, .inl (cy 1, 41, .inl (fun _ => 0))), (sh0, .inr (7, [xv0, .ref sh1, xv2, xv3, xv4, xv5, xv6]))] (fun (_ : Unit) => True) (fun (_ : Unit) => [(a0, .inr (11, [w0, w1, w2, w3, .ref n0, w5, w6, w7, w8, w9, w10, w11, w12, w13])), (n0, .inr (5, [.ref n1, .ref n2, .ref n3, z3, z4, z5, z6])), (n1, .inl (cy 1, 41, .inl (fun _ => 0))), (sh0, .inr (7, [xv0, .ref sh1, .int 0, xv3, xv4, xv5, xv6]))]) := by
  refine XMv.start (by decide) (Nat.le_of_ble_eq_true rfl) ?_
  intro p e s m below meth c args A ls Q hat hQ
  obtain ⟨hx, hb, hr, hml, hown, hg, hlocks, hin, hK, hA, hP, hD, hS, hE, hl⟩ := hat
  have hown : s.vm.findClass RX11 = some m.cls := hown
  have hl : lv_has ls 4 [(0, .ref a0), (1, .ref sh0), (2, .int 0)] := hl
  refine lv_aload_n hx hb dX11_loadCry_0 rfl (lv_at hl 1 rfl) ?_
  refine lv_aload_n hx hb dX11_loadCry_1 rfl (lv_at hl 0 rfl) ?_
  refine va_get (D := D) (ci := 11) (v := .ref n0) (C := RX11) (T := TX11) (N := 14) hx hb hg i_X11 hown hK hP 0 rfl rfl 4 (by decide) (hg _ m_662) (fun _ h9 => h9) rfl dX11_loadCry_2 ?_
  refine lv_iload_n hx hb dX11_loadCry_5 rfl (lv_at hl 2 rfl) ?_
  refine x_callVi (q := (RX5, TX5, 7)) (ci := 5) (q0 := 0) (wr := [(a0, .inr (11, [w0, w1, w2, w3, .ref n0, w5, w6, w7, w8, w9, w10, w11, w12, w13])), (sh0, .inr (7, [xv0, .ref sh1, xv2, xv3, xv4, xv5, xv6]))]) (rest := [.ref sh0]) ⟨hx, hb, hml, hown, hg, hl.1⟩ k_X11_147 (c_cryLength l D cy n0 n1 n2 n3 z3 z4 z5 z6 0 (by unfold vp_in; decide)) E0_blind hK hP hD hS hA [1, 2] [0, 3] ⟨rfl, rfl, by decide, by decide, by decide⟩ rfl rfl (fun _ _ _ => trivial) dX11_loadCry_6 rfl rfl (Nat.le_of_ble_eq_true rfl) ⟨Nat.le_of_ble_eq_true rfl, Nat.le_of_ble_eq_true rfl⟩ ⟨Nat.le_of_ble_eq_true rfl, Nat.le_of_ble_eq_true rfl⟩ (fun r1 u1 H locs hw1 hP hD hS => ?_)
  have hP : va_P D vwCl [(a0, .inr (11, [w0, w1, w2, w3, .ref n0, w5, w6, w7, w8, w9, w10, w11, w12, w13])), (sh0, .inr (7, [xv0, .ref sh1, xv2, xv3, xv4, xv5, xv6])), (n0, .inr (5, [.ref n1, .ref n2, .ref n3, z3, z4, z5, z6])), (n1, .inl (cy 1, 41, .inl (fun _ => 0)))] H := hP
  have hD : va_D A [(a0, .inr (11, [w0, w1, w2, w3, .ref n0, w5, w6, w7, w8, w9, w10, w11, w12, w13])), (sh0, .inr (7, [xv0, .ref sh1, xv2, xv3, xv4, xv5, xv6])), (n0, .inr (5, [.ref n1, .ref n2, .ref n3, z3, z4, z5, z6])), (n1, .inl (cy 1, 41, .inl (fun _ => 0)))] := hD
  refine W.widen (k := 0) (n := 0) (Nat.le_of_ble_eq_true rfl) (Nat.le_of_ble_eq_true rfl) ?_
  have hw1 : r1 = 0 := hw1
  subst hw1
  refine va_put (D := D) (ci := 7) (v := .int 0) (ty := .int) (C := RX7) (T := TX7) (N := 7) hx hb hg i_X7 tyX7 tyX7_ok nmX7 hown hK hP hD hS 1 rfl rfl 2 (by decide) (hg _ m_632) (fun _ h9 => h9) rfl (by decide +kernel) rfl rfl (Nat.le_of_ble_eq_true rfl) dX11_loadCry_9 (fun H locs hP hD hS => ?_)
  have hP : va_P D vwCl [(a0, .inr (11, [w0, w1, w2, w3, .ref n0, w5, w6, w7, w8, w9, w10, w11, w12, w13])), (sh0, .inr (7, [xv0, .ref sh1, .int 0, xv3, xv4, xv5, xv6])), (n0, .inr (5, [.ref n1, .ref n2, .ref n3, z3, z4, z5, z6])), (n1, .inl (cy 1, 41, .inl (fun _ => 0)))] H := hP
  have hD : va_D A [(a0, .inr (11, [w0, w1, w2, w3, .ref n0, w5, w6, w7, w8, w9, w10, w11, w12, w13])), (sh0, .inr (7, [xv0, .ref sh1, .int 0, xv3, xv4, xv5, xv6])), (n0, .inr (5, [.ref n1, .ref n2, .ref n3, z3, z4, z5, z6])), (n1, .inl (cy 1, 41, .inl (fun _ => 0)))] := hD
  refine lv_iconst (v := 0) hx hb dX11_loadCry_12 (by decide) ?_
  refine lv_istore_n (lv' := [(3, .int 0), (0, .ref a0), (1, .ref sh0), (2, .int 0)]) hx hb dX11_loadCry_13 rfl hl (by decide) rfl (fun ls hl => ?_)
  refine lv_iload_n hx hb dX11_loadCry_14 rfl (lv_at hl 0 rfl) ?_
  refine lv_aload_n hx hb dX11_loadCry_15 rfl (lv_at hl 2 rfl) ?_
  refine va_get (D := D) (ci := 7) (v := .int 0) (C := RX7) (T := TX7) (N := 7) hx hb hg i_X7 hown hK hP 1 rfl rfl 2 (by decide) (hg _ m_632) (fun _ h9 => h9) rfl dX11_loadCry_16 ?_
  refine lv_icmp_ge (tgt := 43) hx hb dX11_loadCry_19 (by decide) (fun _ => ?_) (fun h => absurd (by decide) h)
  exact x_vret hQ hx hb hr hlocks hK hP hD hS dX11_loadCry_43 () (trivial) [0, 2, 3, 1] (by decide) rfl (Nat.le_of_ble_eq_true rfl) (Nat.le_of_ble_eq_true rfl)
theorem dX0_verdict_0 : decode cX0_verdict 0 = .ok (.aload_n 0, 1) := by decide +kernel
theorem dX0_verdict_1 : decode cX0_verdict 1 = .ok (.iconst (-1), 1) := by decide +kernel
theorem dX0_verdict_2 : decode cX0_verdict 2 = .ok (.putfield 39, 3) := by decide +kernel
set_option maxRecDepth 20000 in
theorem i_X0 : ∀ w ∈ u_ws RX0 TX0 3, w ∈ gT := gin [539, 541, 543] (by decide +kernel) (by decide +kernel)
theorem m_537 : (Cond.fieldLink RX0 39 "CliffJudges$Court" "bound" "I") ∈ gT := gm 537 (by decide +kernel) (by decide +kernel)
theorem dX0_verdict_5 : decode cX0_verdict 5 = .ok (.iconst 0, 1) := by decide +kernel
theorem dX0_verdict_6 : decode cX0_verdict 6 = .ok (.istore 4, 2) := by decide +kernel
theorem dX0_verdict_8 : decode cX0_verdict 8 = .ok (.iconst 0, 1) := by decide +kernel
theorem dX0_verdict_9 : decode cX0_verdict 9 = .ok (.istore 5, 2) := by decide +kernel
theorem dX0_verdict_11 : decode cX0_verdict 11 = .ok (.iload 5, 2) := by decide +kernel
theorem dX0_verdict_13 : decode cX0_verdict 13 = .ok (.aload_n 1, 1) := by decide +kernel
theorem dX0_verdict_14 : decode cX0_verdict 14 = .ok (.getfield 42, 3) := by decide +kernel
theorem m_333 : (Cond.fieldLink RX0 42 "CliffJudges$Hills" "counts" "[I") ∈ gT := gm 333 (by decide +kernel) (by decide +kernel)
theorem dX0_verdict_17 : decode cX0_verdict 17 = .ok (.iconst 1, 1) := by decide +kernel
theorem dX0_verdict_18 : decode cX0_verdict 18 = .ok (.iaload, 1) := by decide +kernel
theorem dX0_verdict_19 : decode cX0_verdict 19 = .ok (.if_icmp .ge 92, 3) := by decide +kernel
theorem dX0_verdict_111 : decode cX0_verdict 111 = .ok (.iload 4, 2) := by decide +kernel
theorem dX0_verdict_113 : decode cX0_verdict 113 = .ok (.ireturn, 1) := by decide +kernel
set_option maxHeartbeats 400000 in
set_option maxRecDepth 100000 in
theorem c_verdict0 (l : Launch) (D : va_G) (cy : Nat → ClassId) (co0 : Nat) (cv0 : Value) (cv1 : Value) (cv2 : Value) (h0 : Nat) (h1 : Nat) (v1 : Value) (v2 : Value) (v3 : Value) (v4 : Value) (v5 : Value) (v6 : Value) (v7 : Value) (v8 : Value) (v9 : Value) (v10 : Value) (v11 : Value) (v12 : Value) (v13 : Value) (v14 : Value) (v15 : Value) (s1 : Nat) (s2 : Nat)  : XMi l D (tyL cy) E0 yX0_verdict cX0_verdict 7 (some .int) (rmk 0 0 0) [.ref co0, .ref h0, .ref s1, .ref s2] [(co0, .inr (0, [cv0, cv1, cv2])), (h0, .inr (4, [.ref h1, v1, v2, v3, v4, v5, v6, v7, v8, v9, v10, v11, v12, v13, v14, v15])), (h1, .inl (cy 1, 4, .inl (fun _ => 0)))] (fun (r : Int32) (_ : Unit) => r = 0) (fun (_ : Unit) => [(co0, .inr (0, [cv0, cv1, .int (-1)])), (h0, .inr (4, [.ref h1, v1, v2, v3, v4, v5, v6, v7, v8, v9, v10, v11, v12, v13, v14, v15])), (h1, .inl (cy 1, 4, .inl (fun _ => 0)))]) := by
  refine XMi.start (by decide) (Nat.le_of_ble_eq_true rfl) ?_
  intro p e s m below meth c args A ls Q hat hQ
  obtain ⟨hx, hb, hr, hml, hown, hg, hlocks, hin, hK, hA, hP, hD, hS, hE, hl⟩ := hat
  have hown : s.vm.findClass RX0 = some m.cls := hown
  have hl : lv_has ls 7 [(0, .ref co0), (1, .ref h0), (2, .ref s1), (3, .ref s2)] := hl
  refine lv_aload_n hx hb dX0_verdict_0 rfl (lv_at hl 0 rfl) ?_
  refine lv_iconst (v := -1) hx hb dX0_verdict_1 (by decide) ?_
  refine va_put (D := D) (ci := 0) (v := .int (-1)) (ty := .int) (C := RX0) (T := TX0) (N := 3) hx hb hg i_X0 tyX0 tyX0_ok nmX0 hown hK hP hD hS 0 rfl rfl 2 (by decide) (hg _ m_537) (fun _ h9 => h9) rfl (by decide +kernel) rfl rfl (Nat.le_of_ble_eq_true rfl) dX0_verdict_2 (fun H locs hP hD hS => ?_)
  have hP : va_P D vwCl [(co0, .inr (0, [cv0, cv1, .int (-1)])), (h0, .inr (4, [.ref h1, v1, v2, v3, v4, v5, v6, v7, v8, v9, v10, v11, v12, v13, v14, v15])), (h1, .inl (cy 1, 4, .inl (fun _ => 0)))] H := hP
  have hD : va_D A [(co0, .inr (0, [cv0, cv1, .int (-1)])), (h0, .inr (4, [.ref h1, v1, v2, v3, v4, v5, v6, v7, v8, v9, v10, v11, v12, v13, v14, v15])), (h1, .inl (cy 1, 4, .inl (fun _ => 0)))] := hD
  refine lv_iconst (v := 0) hx hb dX0_verdict_5 (by decide) ?_
  refine lv_istore (lv' := [(4, .int 0), (0, .ref co0), (1, .ref h0), (2, .ref s1), (3, .ref s2)]) hx hb dX0_verdict_6 hl (by decide) rfl (fun ls hl => ?_)
  refine lv_iconst (v := 0) hx hb dX0_verdict_8 (by decide) ?_
  refine lv_istore (lv' := [(5, .int 0), (4, .int 0), (0, .ref co0), (1, .ref h0), (2, .ref s1), (3, .ref s2)]) hx hb dX0_verdict_9 hl (by decide) rfl (fun ls hl => ?_)
  refine lv_iload hx hb dX0_verdict_11 (lv_at hl 0 rfl) ?_
  refine lv_aload_n hx hb dX0_verdict_13 rfl (lv_at hl 3 rfl) ?_
  refine va_get (D := D) (ci := 4) (v := .ref h1) (C := RX4) (T := TX4) (N := 16) hx hb hg i_X4 hown hK hP 1 rfl rfl 0 (by decide) (hg _ m_333) (fun _ h9 => h9) rfl dX0_verdict_14 ?_
  refine lv_iconst (v := 1) hx hb dX0_verdict_17 (by decide) ?_
  refine va_iald hx hb hK hP 2 1 rfl rfl (by unfold vp_in; decide) dX0_verdict_18 ?_
  refine lv_topi (fun y_1 hy_1 => ?_)
  obtain rfl : y_1 = 0 := hy_1.trans (by decide +kernel)
  refine lv_icmp_ge (tgt := 111) hx hb dX0_verdict_19 (by decide) (fun _ => ?_) (fun h => absurd (by decide) h)
  refine lv_iload hx hb dX0_verdict_111 (lv_at hl 1 rfl) ?_
  exact x_iret hQ hx hb hr hlocks hK hP hD hS dX0_verdict_113 () (rfl) [0, 1, 2] (by decide) rfl (Nat.le_of_ble_eq_true rfl) (Nat.le_of_ble_eq_true rfl)
theorem dX11_oneOf_0 : decode cX11_oneOf 0 = .ok (.iload_n 0, 1) := by decide +kernel
theorem dX11_oneOf_1 : decode cX11_oneOf 1 = .ok (.ifCond .ne 5, 3) := by decide +kernel
theorem dX11_oneOf_6 : decode cX11_oneOf 6 = .ok (.iload_n 0, 1) := by decide +kernel
theorem dX11_oneOf_7 : decode cX11_oneOf 7 = .ok (.iconst 1, 1) := by decide +kernel
theorem dX11_oneOf_8 : decode cX11_oneOf 8 = .ok (.if_icmp .ne 7, 3) := by decide +kernel
theorem dX11_oneOf_15 : decode cX11_oneOf 15 = .ok (.iload_n 3, 1) := by decide +kernel
theorem dX11_oneOf_16 : decode cX11_oneOf 16 = .ok (.ireturn, 1) := by decide +kernel
theorem dX11_oneOf_11 : decode cX11_oneOf 11 = .ok (.iload_n 2, 1) := by decide +kernel
theorem dX11_oneOf_12 : decode cX11_oneOf 12 = .ok (.goto 4, 3) := by decide +kernel
theorem dX11_oneOf_4 : decode cX11_oneOf 4 = .ok (.iload_n 1, 1) := by decide +kernel
theorem dX11_oneOf_5 : decode cX11_oneOf 5 = .ok (.ireturn, 1) := by decide +kernel
set_option maxHeartbeats 400000 in
set_option maxRecDepth 100000 in
theorem c_oneOf (l : Launch) (D : va_G) (cy : Nat → ClassId) (wh : Int32) (cn : Int32) (fi : Int32) (la : Int32)  : XMi l D (tyL cy) E0 yX11_oneOf cX11_oneOf 4 (some .int) (rmk 0 0 0) [.int wh, .int cn, .int fi, .int la] [] (fun (r : Int32) (_ : Unit) => r = if wh.toInt = 0 then cn else if wh.toInt = 1 then fi else la) (fun (_ : Unit) => []) := by
  refine XMi.start (by decide) (Nat.le_of_ble_eq_true rfl) ?_
  intro p e s m below meth c args A ls Q hat hQ
  obtain ⟨hx, hb, hr, hml, hown, hg, hlocks, hin, hK, hA, hP, hD, hS, hE, hl⟩ := hat
  have hown : s.vm.findClass RX11 = some m.cls := hown
  have hl : lv_has ls 4 [(0, .int wh), (1, .int cn), (2, .int fi), (3, .int la)] := hl
  refine lv_iload_n hx hb dX11_oneOf_0 rfl (lv_at hl 0 rfl) ?_
  refine lv_if_ne (tgt := 6) hx hb dX11_oneOf_1 (by decide) (fun c_1 => ?_) (fun c_1 => ?_)
  · refine lv_iload_n hx hb dX11_oneOf_6 rfl (lv_at hl 0 rfl) ?_
    refine lv_iconst (v := 1) hx hb dX11_oneOf_7 (by decide) ?_
    refine lv_icmp_ne (tgt := 15) hx hb dX11_oneOf_8 (by decide) (fun c_8 => ?_) (fun c_8 => ?_)
    · refine lv_iload_n hx hb dX11_oneOf_15 rfl (lv_at hl 3 rfl) ?_
      have qc_1 : ¬ (wh : Int32).toInt = (0 : Int32).toInt := fun h => c_1 ((fa_eq _ _).mpr h)
      have qc_8 : ¬ (wh : Int32).toInt = (1 : Int32).toInt := fun h => c_8 ((fa_eq _ _).mpr h)
      have z0 : (0 : Int32).toInt = 0 := by decide
      have z1 : (1 : Int32).toInt = 1 := by decide
      exact x_iret hQ hx hb hr hlocks hK hP hD hS dX11_oneOf_16 () (by rw [if_neg (by omega), if_neg (by omega)]) [] (by decide) rfl (Nat.le_of_ble_eq_true rfl) (Nat.le_of_ble_eq_true rfl)
    · refine lv_iload_n hx hb dX11_oneOf_11 rfl (lv_at hl 2 rfl) ?_
      refine lv_goto (tgt := 16) hx hb dX11_oneOf_12 (by decide) ?_
      have qc_1 : ¬ (wh : Int32).toInt = (0 : Int32).toInt := fun h => c_1 ((fa_eq _ _).mpr h)
      have qc_8 : (wh : Int32).toInt = (1 : Int32).toInt := (fa_eq _ _).mp c_8
      have z0 : (0 : Int32).toInt = 0 := by decide
      have z1 : (1 : Int32).toInt = 1 := by decide
      exact x_iret hQ hx hb hr hlocks hK hP hD hS dX11_oneOf_16 () (by rw [if_neg (by omega), if_pos (by omega)]) [] (by decide) rfl (Nat.le_of_ble_eq_true rfl) (Nat.le_of_ble_eq_true rfl)
  · refine lv_iload_n hx hb dX11_oneOf_4 rfl (lv_at hl 1 rfl) ?_
    have qc_1 : (wh : Int32).toInt = (0 : Int32).toInt := (fa_eq _ _).mp c_1
    have z0 : (0 : Int32).toInt = 0 := by decide
    have z1 : (1 : Int32).toInt = 1 := by decide
    exact x_iret hQ hx hb hr hlocks hK hP hD hS dX11_oneOf_5 () ((if_pos (by omega)).symm) [] (by decide) rfl (Nat.le_of_ble_eq_true rfl) (Nat.le_of_ble_eq_true rfl)
theorem dX11_yeas_0 : decode cX11_yeas 0 = .ok (.iload_n 1, 1) := by decide +kernel
theorem dX11_yeas_1 : decode cX11_yeas 1 = .ok (.ifCond .lt 18, 3) := by decide +kernel
theorem dX11_yeas_19 : decode cX11_yeas 19 = .ok (.iconst (-1), 1) := by decide +kernel
theorem dX11_yeas_20 : decode cX11_yeas 20 = .ok (.ireturn, 1) := by decide +kernel
theorem dX11_yeas_4 : decode cX11_yeas 4 = .ok (.iload_n 1, 1) := by decide +kernel
theorem dX11_yeas_5 : decode cX11_yeas 5 = .ok (.bipush 10, 2) := by decide +kernel
theorem dX11_yeas_7 : decode cX11_yeas 7 = .ok (.if_icmp .ge 12, 3) := by decide +kernel
theorem dX11_yeas_10 : decode cX11_yeas 10 = .ok (.iload_n 2, 1) := by decide +kernel
theorem dX11_yeas_11 : decode cX11_yeas 11 = .ok (.ifCond .lt 8, 3) := by decide +kernel
theorem dX11_yeas_14 : decode cX11_yeas 14 = .ok (.iload_n 2, 1) := by decide +kernel
theorem dX11_yeas_15 : decode cX11_yeas 15 = .ok (.iconst 2, 1) := by decide +kernel
theorem dX11_yeas_16 : decode cX11_yeas 16 = .ok (.if_icmp .le 5, 3) := by decide +kernel
theorem dX11_yeas_21 : decode cX11_yeas 21 = .ok (.aload_n 0, 1) := by decide +kernel
theorem dX11_yeas_22 : decode cX11_yeas 22 = .ok (.aload_n 0, 1) := by decide +kernel
theorem dX11_yeas_23 : decode cX11_yeas 23 = .ok (.getfield 75, 3) := by decide +kernel
theorem m_667 : (Cond.fieldLink RX11 75 "CliffJudges" "shout" "LCliffJudges$Shout;") ∈ gT := gm 667 (by decide +kernel) (by decide +kernel)
theorem dX11_yeas_26 : decode cX11_yeas 26 = .ok (.invokevirtual 220, 3) := by decide +kernel
theorem m_1009 : (Cond.methodLink RX11 220 yX11_loadWeather) ∈ gT := gm 1009 (by decide +kernel) (by decide +kernel)
theorem m_1011 : (Cond.instanceMethod yX11_loadWeather) ∈ gT := gm 1011 (by decide +kernel) (by decide +kernel)
theorem m_32 : (Cond.selects RX11 yX11_loadWeather yX11_loadWeather) ∈ gT := gm 32 (by decide +kernel) (by decide +kernel)
theorem m_1012 : (Cond.code yX11_loadWeather cX11_loadWeather 2 none) ∈ gT := gm 1012 (by decide +kernel) (by decide +kernel)
theorem k_X11_220 : xV RX11 RX11 220 yX11_loadWeather cX11_loadWeather 2 none 1 := ⟨⟨m_1009, m_1011, m_32, m_130, m_1012⟩, rfl, by decide, by decide, by decide +kernel⟩
theorem dX11_yeas_29 : decode cX11_yeas 29 = .ok (.aload_n 0, 1) := by decide +kernel
theorem dX11_yeas_30 : decode cX11_yeas 30 = .ok (.aload_n 0, 1) := by decide +kernel
theorem dX11_yeas_31 : decode cX11_yeas 31 = .ok (.getfield 75, 3) := by decide +kernel
theorem dX11_yeas_34 : decode cX11_yeas 34 = .ok (.iconst 0, 1) := by decide +kernel
theorem dX11_yeas_35 : decode cX11_yeas 35 = .ok (.invokevirtual 212, 3) := by decide +kernel
theorem m_1014 : (Cond.methodLink RX11 212 yX11_loadCry) ∈ gT := gm 1014 (by decide +kernel) (by decide +kernel)
theorem m_1016 : (Cond.instanceMethod yX11_loadCry) ∈ gT := gm 1016 (by decide +kernel) (by decide +kernel)
theorem m_33 : (Cond.selects RX11 yX11_loadCry yX11_loadCry) ∈ gT := gm 33 (by decide +kernel) (by decide +kernel)
theorem m_1017 : (Cond.code yX11_loadCry cX11_loadCry 4 none) ∈ gT := gm 1017 (by decide +kernel) (by decide +kernel)
theorem k_X11_212 : xV RX11 RX11 212 yX11_loadCry cX11_loadCry 4 none 2 := ⟨⟨m_1014, m_1016, m_33, m_130, m_1017⟩, rfl, by decide, by decide, by decide +kernel⟩
theorem dX11_yeas_38 : decode cX11_yeas 38 = .ok (.aload_n 0, 1) := by decide +kernel
theorem dX11_yeas_39 : decode cX11_yeas 39 = .ok (.getfield 75, 3) := by decide +kernel
theorem dX11_yeas_42 : decode cX11_yeas 42 = .ok (.iload_n 1, 1) := by decide +kernel
theorem dX11_yeas_43 : decode cX11_yeas 43 = .ok (.putfield 224, 3) := by decide +kernel
theorem m_638 : (Cond.fieldLink RX11 224 "CliffJudges$Shout" "voice" "I") ∈ gT := gm 638 (by decide +kernel) (by decide +kernel)
theorem dX11_yeas_46 : decode cX11_yeas 46 = .ok (.iconst 0, 1) := by decide +kernel
theorem dX11_yeas_47 : decode cX11_yeas 47 = .ok (.istore_n 3, 1) := by decide +kernel
theorem dX11_yeas_48 : decode cX11_yeas 48 = .ok (.iconst (-1), 1) := by decide +kernel
theorem dX11_yeas_49 : decode cX11_yeas 49 = .ok (.istore 4, 2) := by decide +kernel
theorem dX11_yeas_51 : decode cX11_yeas 51 = .ok (.iconst (-1), 1) := by decide +kernel
theorem dX11_yeas_52 : decode cX11_yeas 52 = .ok (.istore 5, 2) := by decide +kernel
theorem dX11_yeas_54 : decode cX11_yeas 54 = .ok (.iconst 0, 1) := by decide +kernel
theorem dX11_yeas_55 : decode cX11_yeas 55 = .ok (.istore 6, 2) := by decide +kernel
theorem dX11_yeas_57 : decode cX11_yeas 57 = .ok (.iload 6, 2) := by decide +kernel
theorem dX11_yeas_59 : decode cX11_yeas 59 = .ok (.bipush 100, 2) := by decide +kernel
theorem dX11_yeas_61 : decode cX11_yeas 61 = .ok (.if_icmp .ge 63, 3) := by decide +kernel
theorem dX11_yeas_124 : decode cX11_yeas 124 = .ok (.iload_n 2, 1) := by decide +kernel
theorem dX11_yeas_125 : decode cX11_yeas 125 = .ok (.iload_n 3, 1) := by decide +kernel
theorem dX11_yeas_126 : decode cX11_yeas 126 = .ok (.iload 4, 2) := by decide +kernel
theorem dX11_yeas_128 : decode cX11_yeas 128 = .ok (.iload 5, 2) := by decide +kernel
theorem dX11_yeas_130 : decode cX11_yeas 130 = .ok (.invokestatic 228, 3) := by decide +kernel
theorem m_1219 : (Cond.methodLink RX11 228 yX11_oneOf) ∈ gT := gm 1219 (by decide +kernel) (by decide +kernel)
theorem m_1220 : (Cond.static yX11_oneOf) ∈ gT := gm 1220 (by decide +kernel) (by decide +kernel)
theorem m_1221 : (Cond.code yX11_oneOf cX11_oneOf 4 (some .int)) ∈ gT := gm 1221 (by decide +kernel) (by decide +kernel)
theorem k_X11_228 : xS RX11 228 yX11_oneOf cX11_oneOf 4 (some .int) 4 := ⟨⟨m_1219, m_1220, m_130, m_1221⟩, by decide, by decide, by decide +kernel⟩
theorem dX11_yeas_133 : decode cX11_yeas 133 = .ok (.ireturn, 1) := by decide +kernel
theorem dX11_yeas_64 : decode cX11_yeas 64 = .ok (.aload_n 0, 1) := by decide +kernel
theorem dX11_yeas_65 : decode cX11_yeas 65 = .ok (.getfield 75, 3) := by decide +kernel
theorem dX11_yeas_68 : decode cX11_yeas 68 = .ok (.iload 6, 2) := by decide +kernel
theorem dX11_yeas_70 : decode cX11_yeas 70 = .ok (.putfield 227, 3) := by decide +kernel
theorem m_636 : (Cond.fieldLink RX11 227 "CliffJudges$Shout" "place" "I") ∈ gT := gm 636 (by decide +kernel) (by decide +kernel)
theorem dX11_yeas_73 : decode cX11_yeas 73 = .ok (.aload_n 0, 1) := by decide +kernel
theorem dX11_yeas_74 : decode cX11_yeas 74 = .ok (.getfield 52, 3) := by decide +kernel
theorem m_664 : (Cond.fieldLink RX11 52 "CliffJudges" "court" "LCliffJudges$Court;") ∈ gT := gm 664 (by decide +kernel) (by decide +kernel)
theorem dX11_yeas_77 : decode cX11_yeas 77 = .ok (.aload_n 0, 1) := by decide +kernel
theorem dX11_yeas_78 : decode cX11_yeas 78 = .ok (.getfield 28, 3) := by decide +kernel
theorem dX11_yeas_81 : decode cX11_yeas 81 = .ok (.aload_n 0, 1) := by decide +kernel
theorem dX11_yeas_82 : decode cX11_yeas 82 = .ok (.getfield 75, 3) := by decide +kernel
theorem dX11_yeas_85 : decode cX11_yeas 85 = .ok (.aload_n 0, 1) := by decide +kernel
theorem dX11_yeas_86 : decode cX11_yeas 86 = .ok (.getfield 82, 3) := by decide +kernel
theorem m_669 : (Cond.fieldLink RX11 82 "CliffJudges" "silence" "LCliffJudges$Shout;") ∈ gT := gm 669 (by decide +kernel) (by decide +kernel)
theorem dX11_yeas_89 : decode cX11_yeas 89 = .ok (.invokevirtual 164, 3) := by decide +kernel
theorem m_1018 : (Cond.methodLink RX11 164 yX0_verdict) ∈ gT := gm 1018 (by decide +kernel) (by decide +kernel)
theorem m_1019 : (Cond.instanceMethod yX0_verdict) ∈ gT := gm 1019 (by decide +kernel) (by decide +kernel)
theorem m_1020 : (Cond.selects RX0 yX0_verdict yX0_verdict) ∈ gT := gm 1020 (by decide +kernel) (by decide +kernel)
theorem m_141 : (Cond.initialized RX0) ∈ gT := gm 141 (by decide +kernel) (by decide +kernel)
theorem m_1021 : (Cond.code yX0_verdict cX0_verdict 7 (some .int)) ∈ gT := gm 1021 (by decide +kernel) (by decide +kernel)
theorem k_X11_164 : xV RX11 RX0 164 yX0_verdict cX0_verdict 7 (some .int) 3 := ⟨⟨m_1018, m_1019, m_1020, m_141, m_1021⟩, rfl, by decide, by decide, by decide +kernel⟩
theorem dX11_yeas_92 : decode cX11_yeas 92 = .ok (.iconst 2, 1) := by decide +kernel
theorem dX11_yeas_93 : decode cX11_yeas 93 = .ok (.if_icmp .ne 25, 3) := by decide +kernel
theorem dX11_yeas_118 : decode cX11_yeas 118 = .ok (.iinc 6 1, 3) := by decide +kernel
theorem dX11_yeas_121 : decode cX11_yeas 121 = .ok (.goto (-64), 3) := by decide +kernel
set_option maxHeartbeats 400000 in
set_option maxRecDepth 100000 in
theorem t_yeas (l : Launch) (D : va_G) (cy : Nat → ClassId) (a0 : Nat) (w0 : Value) (w1 : Value) (w3 : Value) (w5 : Value) (w7 : Value) (w8 : Value) (w10 : Value) (w12 : Value) (w13 : Value) (si0 : Nat) (n0 : Nat) (n1 : Nat) (n2 : Nat) (n3 : Nat) (z3 : Value) (z4 : Value) (z5 : Value) (z6 : Value) (sh0 : Nat) (sh1 : Nat) (xv0 : Value) (xv2 : Value) (xv4 : Value) (xv5 : Value) (xv6 : Value) (fs : Nat → Int32) (co0 : Nat) (cv0 : Value) (cv1 : Value) (cv2 : Int32) (h0 : Nat) (h1 : Nat) (v1 : Value) (v2 : Value) (v3 : Value) (v4 : Value) (v5 : Value) (v6 : Value) (v7 : Value) (v8 : Value) (v9 : Value) (v10 : Value) (v11 : Value) (v12 : Value) (v13 : Value) (v14 : Value) (v15 : Value) (ka : Int32) (kb : Int32) (pl : Int32)  : XMi l D (tyL cy) E0 yX11_yeas cX11_yeas 7 (some .int) (rmk 3 0 0) [.ref a0, .int ka, .int kb] [(a0, .inr (11, [w0, w1, .ref h0, w3, .ref n0, w5, .ref co0, w7, w8, .ref sh0, w10, .ref si0, w12, w13])), (n0, .inr (5, [.ref n1, .ref n2, .ref n3, z3, z4, z5, z6])), (n1, .inl (cy 1, 41, .inl (fun _ => 0))), (sh0, .inr (7, [xv0, .ref sh1, xv2, .int pl, xv4, xv5, xv6])), (sh1, .inl (cy 1, 4, .inl (fs))), (co0, .inr (0, [cv0, cv1, .int cv2])), (h0, .inr (4, [.ref h1, v1, v2, v3, v4, v5, v6, v7, v8, v9, v10, v11, v12, v13, v14, v15])), (h1, .inl (cy 1, 4, .inl (fun _ => 0)))] (fun (r : Int32) (_ : Unit) => r = if 0 ≤ ka.toInt ∧ ka.toInt ≤ 9 ∧ kb.toInt = 0 then 0 else -1) (fun (_ : Unit) => []) := by
  refine XMi.start (by decide) (Nat.le_of_ble_eq_true rfl) ?_
  intro p e s m below meth c args A ls Q hat hQ
  obtain ⟨hx, hb, hr, hml, hown, hg, hlocks, hin, hK, hA, hP, hD, hS, hE, hl⟩ := hat
  have hown : s.vm.findClass RX11 = some m.cls := hown
  have hl : lv_has ls 7 [(0, .ref a0), (1, .int ka), (2, .int kb)] := hl
  refine lv_iload_n hx hb dX11_yeas_0 rfl (lv_at hl 1 rfl) ?_
  refine lv_if_lt (tgt := 19) hx hb dX11_yeas_1 (by decide) (fun c_1 => ?_) (fun c_1 => ?_)
  · refine lv_iconst (v := -1) hx hb dX11_yeas_19 (by decide) ?_
    have qc_1 : (ka : Int32).toInt < (0 : Int32).toInt := (fa_lt _ _).mp c_1
    have z0 : (0 : Int32).toInt = 0 := by decide
    exact x_iret hQ hx hb hr hlocks hK hP hD hS dX11_yeas_20 () ((if_neg (by omega)).symm) [] (by decide) rfl (Nat.le_of_ble_eq_true rfl) (Nat.le_of_ble_eq_true rfl)
  · refine lv_iload_n hx hb dX11_yeas_4 rfl (lv_at hl 1 rfl) ?_
    refine lv_bipush (v := 10) hx hb dX11_yeas_5 (by decide) ?_
    refine lv_icmp_ge (tgt := 19) hx hb dX11_yeas_7 (by decide) (fun c_7 => ?_) (fun c_7 => ?_)
    · refine lv_iconst (v := -1) hx hb dX11_yeas_19 (by decide) ?_
      have qc_1 : ¬ (ka : Int32).toInt < (0 : Int32).toInt := fun h => c_1 ((fa_lt _ _).mpr h)
      have qc_7 : (10 : Int32).toInt ≤ (ka : Int32).toInt := (fa_le _ _).mp c_7
      have z0 : (0 : Int32).toInt = 0 := by decide
      have z10 : (10 : Int32).toInt = 10 := by decide
      exact x_iret hQ hx hb hr hlocks hK hP hD hS dX11_yeas_20 () ((if_neg (by omega)).symm) [] (by decide) rfl (Nat.le_of_ble_eq_true rfl) (Nat.le_of_ble_eq_true rfl)
    · refine lv_iload_n hx hb dX11_yeas_10 rfl (lv_at hl 2 rfl) ?_
      refine lv_if_lt (tgt := 19) hx hb dX11_yeas_11 (by decide) (fun c_11 => ?_) (fun c_11 => ?_)
      · refine lv_iconst (v := -1) hx hb dX11_yeas_19 (by decide) ?_
        have qc_1 : ¬ (ka : Int32).toInt < (0 : Int32).toInt := fun h => c_1 ((fa_lt _ _).mpr h)
        have qc_7 : ¬ (10 : Int32).toInt ≤ (ka : Int32).toInt := fun h => c_7 ((fa_le _ _).mpr h)
        have qc_11 : (kb : Int32).toInt < (0 : Int32).toInt := (fa_lt _ _).mp c_11
        have z0 : (0 : Int32).toInt = 0 := by decide
        have z10 : (10 : Int32).toInt = 10 := by decide
        exact x_iret hQ hx hb hr hlocks hK hP hD hS dX11_yeas_20 () ((if_neg (by omega)).symm) [] (by decide) rfl (Nat.le_of_ble_eq_true rfl) (Nat.le_of_ble_eq_true rfl)
      · refine lv_iload_n hx hb dX11_yeas_14 rfl (lv_at hl 2 rfl) ?_
        refine lv_iconst (v := 2) hx hb dX11_yeas_15 (by decide) ?_
        refine lv_icmp_le (tgt := 21) hx hb dX11_yeas_16 (by decide) (fun c_16 => ?_) (fun c_16 => ?_)
        · refine lv_aload_n hx hb dX11_yeas_21 rfl (lv_at hl 0 rfl) ?_
          refine lv_aload_n hx hb dX11_yeas_22 rfl (lv_at hl 0 rfl) ?_
          refine va_get (D := D) (ci := 11) (v := .ref sh0) (C := RX11) (T := TX11) (N := 14) hx hb hg i_X11 hown hK hP 0 rfl rfl 9 (by decide) (hg _ m_667) (fun _ h9 => h9) rfl dX11_yeas_23 ?_
          refine x_callVv (q := (RX11, TX11, 14)) (ci := 11) (q0 := 0) (wr := [(co0, .inr (0, [cv0, cv1, .int cv2])), (h0, .inr (4, [.ref h1, v1, v2, v3, v4, v5, v6, v7, v8, v9, v10, v11, v12, v13, v14, v15])), (h1, .inl (cy 1, 4, .inl (fun _ => 0)))]) (rest := []) ⟨hx, hb, hml, hown, hg, hl.1⟩ k_X11_220 (c_loadWeather l D cy a0 w0 w1 ((.ref h0)) w3 w5 ((.ref co0)) w7 w8 ((.ref sh0)) w10 ((.ref si0)) w12 w13 n0 n1 n2 n3 z3 z4 z5 z6 sh0 sh1 xv0 xv2 ((.int pl)) xv4 xv5 xv6 fs) E0_blind hK hP hD hS hA [0, 1, 2, 3, 4] [5, 6, 7] ⟨rfl, rfl, by decide, by decide, by decide⟩ rfl rfl (fun _ _ _ => trivial) dX11_yeas_26 rfl rfl (Nat.le_of_ble_eq_true rfl) ⟨Nat.le_of_ble_eq_true rfl, Nat.le_of_ble_eq_true rfl⟩ ⟨Nat.le_of_ble_eq_true rfl, Nat.le_of_ble_eq_true rfl⟩ (fun u1 H locs hw1 hP hD hS => ?_)
          obtain ⟨fs2_2, rfl⟩ : ∃ z, z = u1 := ⟨_, rfl⟩
          have hP : va_P D vwCl [(co0, .inr (0, [cv0, cv1, .int cv2])), (h0, .inr (4, [.ref h1, v1, v2, v3, v4, v5, v6, v7, v8, v9, v10, v11, v12, v13, v14, v15])), (h1, .inl (cy 1, 4, .inl (fun _ => 0))), (a0, .inr (11, [w0, w1, .ref h0, w3, .ref n0, w5, .ref co0, w7, w8, .ref sh0, w10, .ref si0, w12, w13])), (n0, .inr (5, [.ref n1, .ref n2, .ref n3, z3, z4, z5, z6])), (n1, .inl (cy 1, 41, .inl (fun _ => 0))), (sh0, .inr (7, [xv0, .ref sh1, xv2, .int pl, xv4, .int 0, .int 0])), (sh1, .inl (cy 1, 4, .inl (fs2_2)))] H := hP
          have hD : va_D A [(co0, .inr (0, [cv0, cv1, .int cv2])), (h0, .inr (4, [.ref h1, v1, v2, v3, v4, v5, v6, v7, v8, v9, v10, v11, v12, v13, v14, v15])), (h1, .inl (cy 1, 4, .inl (fun _ => 0))), (a0, .inr (11, [w0, w1, .ref h0, w3, .ref n0, w5, .ref co0, w7, w8, .ref sh0, w10, .ref si0, w12, w13])), (n0, .inr (5, [.ref n1, .ref n2, .ref n3, z3, z4, z5, z6])), (n1, .inl (cy 1, 41, .inl (fun _ => 0))), (sh0, .inr (7, [xv0, .ref sh1, xv2, .int pl, xv4, .int 0, .int 0])), (sh1, .inl (cy 1, 4, .inl (fs2_2)))] := hD
          refine W.widen (k := 0) (n := 0) (Nat.le_of_ble_eq_true rfl) (Nat.le_of_ble_eq_true rfl) ?_
          refine lv_aload_n hx hb dX11_yeas_29 rfl (lv_at hl 0 rfl) ?_
          refine lv_aload_n hx hb dX11_yeas_30 rfl (lv_at hl 0 rfl) ?_
          refine va_get (D := D) (ci := 11) (v := .ref sh0) (C := RX11) (T := TX11) (N := 14) hx hb hg i_X11 hown hK hP 3 rfl rfl 9 (by decide) (hg _ m_667) (fun _ h9 => h9) rfl dX11_yeas_31 ?_
          refine lv_iconst (v := 0) hx hb dX11_yeas_34 (by decide) ?_
          refine x_callVv (q := (RX11, TX11, 14)) (ci := 11) (q0 := 0) (wr := [(co0, .inr (0, [cv0, cv1, .int cv2])), (h0, .inr (4, [.ref h1, v1, v2, v3, v4, v5, v6, v7, v8, v9, v10, v11, v12, v13, v14, v15])), (h1, .inl (cy 1, 4, .inl (fun _ => 0))), (sh1, .inl (cy 1, 4, .inl (fs2_2)))]) (rest := []) ⟨hx, hb, hml, hown, hg, hl.1⟩ k_X11_212 (c_loadCry l D cy a0 w0 w1 ((.ref h0)) w3 w5 ((.ref co0)) w7 w8 ((.ref sh0)) w10 ((.ref si0)) w12 w13 n0 n1 n2 n3 z3 z4 z5 z6 sh0 sh1 xv0 xv2 ((.int pl)) xv4 ((.int 0)) ((.int 0))) E0_blind hK hP hD hS hA [3, 4, 5, 6] [0, 1, 2, 7] ⟨rfl, rfl, by decide, by decide, by decide⟩ rfl rfl (fun _ _ _ => trivial) dX11_yeas_35 rfl rfl (Nat.le_of_ble_eq_true rfl) ⟨Nat.le_of_ble_eq_true rfl, Nat.le_of_ble_eq_true rfl⟩ ⟨Nat.le_of_ble_eq_true rfl, Nat.le_of_ble_eq_true rfl⟩ (fun u3 H locs hw3 hP hD hS => ?_)
          have hP : va_P D vwCl [(co0, .inr (0, [cv0, cv1, .int cv2])), (h0, .inr (4, [.ref h1, v1, v2, v3, v4, v5, v6, v7, v8, v9, v10, v11, v12, v13, v14, v15])), (h1, .inl (cy 1, 4, .inl (fun _ => 0))), (sh1, .inl (cy 1, 4, .inl (fs2_2))), (a0, .inr (11, [w0, w1, .ref h0, w3, .ref n0, w5, .ref co0, w7, w8, .ref sh0, w10, .ref si0, w12, w13])), (n0, .inr (5, [.ref n1, .ref n2, .ref n3, z3, z4, z5, z6])), (n1, .inl (cy 1, 41, .inl (fun _ => 0))), (sh0, .inr (7, [xv0, .ref sh1, .int 0, .int pl, xv4, .int 0, .int 0]))] H := hP
          have hD : va_D A [(co0, .inr (0, [cv0, cv1, .int cv2])), (h0, .inr (4, [.ref h1, v1, v2, v3, v4, v5, v6, v7, v8, v9, v10, v11, v12, v13, v14, v15])), (h1, .inl (cy 1, 4, .inl (fun _ => 0))), (sh1, .inl (cy 1, 4, .inl (fs2_2))), (a0, .inr (11, [w0, w1, .ref h0, w3, .ref n0, w5, .ref co0, w7, w8, .ref sh0, w10, .ref si0, w12, w13])), (n0, .inr (5, [.ref n1, .ref n2, .ref n3, z3, z4, z5, z6])), (n1, .inl (cy 1, 41, .inl (fun _ => 0))), (sh0, .inr (7, [xv0, .ref sh1, .int 0, .int pl, xv4, .int 0, .int 0]))] := hD
          refine W.widen (k := 0) (n := 0) (Nat.le_of_ble_eq_true rfl) (Nat.le_of_ble_eq_true rfl) ?_
          refine lv_aload_n hx hb dX11_yeas_38 rfl (lv_at hl 0 rfl) ?_
          refine va_get (D := D) (ci := 11) (v := .ref sh0) (C := RX11) (T := TX11) (N := 14) hx hb hg i_X11 hown hK hP 4 rfl rfl 9 (by decide) (hg _ m_667) (fun _ h9 => h9) rfl dX11_yeas_39 ?_
          refine lv_iload_n hx hb dX11_yeas_42 rfl (lv_at hl 1 rfl) ?_
          refine va_put (D := D) (ci := 7) (v := .int ka) (ty := .int) (C := RX7) (T := TX7) (N := 7) hx hb hg i_X7 tyX7 tyX7_ok nmX7 hown hK hP hD hS 7 rfl rfl 4 (by decide) (hg _ m_638) (fun _ h9 => h9) rfl (by decide +kernel) rfl rfl (Nat.le_of_ble_eq_true rfl) dX11_yeas_43 (fun H locs hP hD hS => ?_)
          have hP : va_P D vwCl [(co0, .inr (0, [cv0, cv1, .int cv2])), (h0, .inr (4, [.ref h1, v1, v2, v3, v4, v5, v6, v7, v8, v9, v10, v11, v12, v13, v14, v15])), (h1, .inl (cy 1, 4, .inl (fun _ => 0))), (sh1, .inl (cy 1, 4, .inl (fs2_2))), (a0, .inr (11, [w0, w1, .ref h0, w3, .ref n0, w5, .ref co0, w7, w8, .ref sh0, w10, .ref si0, w12, w13])), (n0, .inr (5, [.ref n1, .ref n2, .ref n3, z3, z4, z5, z6])), (n1, .inl (cy 1, 41, .inl (fun _ => 0))), (sh0, .inr (7, [xv0, .ref sh1, .int 0, .int pl, .int ka, .int 0, .int 0]))] H := hP
          have hD : va_D A [(co0, .inr (0, [cv0, cv1, .int cv2])), (h0, .inr (4, [.ref h1, v1, v2, v3, v4, v5, v6, v7, v8, v9, v10, v11, v12, v13, v14, v15])), (h1, .inl (cy 1, 4, .inl (fun _ => 0))), (sh1, .inl (cy 1, 4, .inl (fs2_2))), (a0, .inr (11, [w0, w1, .ref h0, w3, .ref n0, w5, .ref co0, w7, w8, .ref sh0, w10, .ref si0, w12, w13])), (n0, .inr (5, [.ref n1, .ref n2, .ref n3, z3, z4, z5, z6])), (n1, .inl (cy 1, 41, .inl (fun _ => 0))), (sh0, .inr (7, [xv0, .ref sh1, .int 0, .int pl, .int ka, .int 0, .int 0]))] := hD
          refine lv_iconst (v := 0) hx hb dX11_yeas_46 (by decide) ?_
          refine lv_istore_n (lv' := [(3, .int 0), (0, .ref a0), (1, .int ka), (2, .int kb)]) hx hb dX11_yeas_47 rfl hl (by decide) rfl (fun ls hl => ?_)
          refine lv_iconst (v := -1) hx hb dX11_yeas_48 (by decide) ?_
          refine lv_istore (lv' := [(4, .int (-1)), (3, .int 0), (0, .ref a0), (1, .int ka), (2, .int kb)]) hx hb dX11_yeas_49 hl (by decide) rfl (fun ls hl => ?_)
          refine lv_iconst (v := -1) hx hb dX11_yeas_51 (by decide) ?_
          refine lv_istore (lv' := [(5, .int (-1)), (4, .int (-1)), (3, .int 0), (0, .ref a0), (1, .int ka), (2, .int kb)]) hx hb dX11_yeas_52 hl (by decide) rfl (fun ls hl => ?_)
          refine lv_iconst (v := 0) hx hb dX11_yeas_54 (by decide) ?_
          refine lv_istore (lv' := [(6, .int 0), (5, .int (-1)), (4, .int (-1)), (3, .int 0), (0, .ref a0), (1, .int ka), (2, .int kb)]) hx hb dX11_yeas_55 hl (by decide) rfl (fun ls hl => ?_)
          have loop4 : ∀ (n i4 : Nat), i4 ≤ 100 → 101 ≤ i4 + n → ∀ (pq : Int32), ∀ (bq : Int32), ∀ (H : Heap) (locs : List Loc), va_P D vwCl [(co0, .inr (0, [cv0, cv1, .int bq])), (h0, .inr (4, [.ref h1, v1, v2, v3, v4, v5, v6, v7, v8, v9, v10, v11, v12, v13, v14, v15])), (h1, .inl (cy 1, 4, .inl (fun _ => 0))), (sh1, .inl (cy 1, 4, .inl (fs2_2))), (a0, .inr (11, [w0, w1, .ref h0, w3, .ref n0, w5, .ref co0, w7, w8, .ref sh0, w10, .ref si0, w12, w13])), (n0, .inr (5, [.ref n1, .ref n2, .ref n3, z3, z4, z5, z6])), (n1, .inl (cy 1, 41, .inl (fun _ => 0))), (sh0, .inr (7, [xv0, .ref sh1, .int 0, .int pq, .int ka, .int 0, .int 0]))] H → va_D A [(co0, .inr (0, [cv0, cv1, .int bq])), (h0, .inr (4, [.ref h1, v1, v2, v3, v4, v5, v6, v7, v8, v9, v10, v11, v12, v13, v14, v15])), (h1, .inl (cy 1, 4, .inl (fun _ => 0))), (sh1, .inl (cy 1, 4, .inl (fs2_2))), (a0, .inr (11, [w0, w1, .ref h0, w3, .ref n0, w5, .ref co0, w7, w8, .ref sh0, w10, .ref si0, w12, w13])), (n0, .inr (5, [.ref n1, .ref n2, .ref n3, z3, z4, z5, z6])), (n1, .inl (cy 1, 41, .inl (fun _ => 0))), (sh0, .inr (7, [xv0, .ref sh1, .int 0, .int pq, .int ka, .int 0, .int 0]))] → va_S A s.heap H locs → ∀ ls : Array Slot, lv_has ls 7 [(6, .int (nI i4)), (5, .int (-1)), (4, .int (-1)), (3, .int 0), (0, .ref a0), (1, .int ka), (2, .int kb)] → W p l e (rmk 3 0 0) s m args below meth c H locs 0 0 Q (F0 m 57 ls []) := by
            intro n
            induction n with
            | zero => intro i4 h1 h2; exact absurd h2 (by omega)
            | succ n ih =>
              intro i4 hi4 hn4 pq bq H locs hP hD hS ls hl
              have ih4 := ih
              refine lv_iload hx hb dX11_yeas_57 (lv_at hl 0 rfl) ?_
              refine lv_bipush (v := 100) hx hb dX11_yeas_59 (by decide) ?_
              refine lv_icmp_ge (tgt := 124) hx hb dX11_yeas_61 (by decide) (fun c4 => ?_) (fun c4 => ?_)
              · have hend4 : i4 = 100 := lp_end (N := 100) (by decide) hi4 (by decide) c4
                subst hend4
                refine lv_iload_n hx hb dX11_yeas_124 rfl (lv_at hl 6 rfl) ?_
                refine lv_iload_n hx hb dX11_yeas_125 rfl (lv_at hl 3 rfl) ?_
                refine lv_iload hx hb dX11_yeas_126 (lv_at hl 2 rfl) ?_
                refine lv_iload hx hb dX11_yeas_128 (lv_at hl 1 rfl) ?_
                refine x_callSi (wr := [(co0, .inr (0, [cv0, cv1, .int bq])), (h0, .inr (4, [.ref h1, v1, v2, v3, v4, v5, v6, v7, v8, v9, v10, v11, v12, v13, v14, v15])), (h1, .inl (cy 1, 4, .inl (fun _ => 0))), (sh1, .inl (cy 1, 4, .inl (fs2_2))), (a0, .inr (11, [w0, w1, .ref h0, w3, .ref n0, w5, .ref co0, w7, w8, .ref sh0, w10, .ref si0, w12, w13])), (n0, .inr (5, [.ref n1, .ref n2, .ref n3, z3, z4, z5, z6])), (n1, .inl (cy 1, 41, .inl (fun _ => 0))), (sh0, .inr (7, [xv0, .ref sh1, .int 0, .int pq, .int ka, .int 0, .int 0]))]) (rest := []) ⟨hx, hb, hml, hown, hg, hl.1⟩ k_X11_228 (c_oneOf l D cy kb 0 (-1) (-1)) E0_blind hK hP hD hS hA [] [0, 1, 2, 3, 4, 5, 6, 7] ⟨rfl, rfl, by decide, by decide, by decide⟩ (fun _ _ _ => trivial) dX11_yeas_130 rfl rfl (Nat.le_of_ble_eq_true rfl) ⟨Nat.le_of_ble_eq_true rfl, Nat.le_of_ble_eq_true rfl⟩ ⟨Nat.le_of_ble_eq_true rfl, Nat.le_of_ble_eq_true rfl⟩ (fun r5 u5 H locs hw5 hP hD hS => ?_)
                have hP : va_P D vwCl [(co0, .inr (0, [cv0, cv1, .int bq])), (h0, .inr (4, [.ref h1, v1, v2, v3, v4, v5, v6, v7, v8, v9, v10, v11, v12, v13, v14, v15])), (h1, .inl (cy 1, 4, .inl (fun _ => 0))), (sh1, .inl (cy 1, 4, .inl (fs2_2))), (a0, .inr (11, [w0, w1, .ref h0, w3, .ref n0, w5, .ref co0, w7, w8, .ref sh0, w10, .ref si0, w12, w13])), (n0, .inr (5, [.ref n1, .ref n2, .ref n3, z3, z4, z5, z6])), (n1, .inl (cy 1, 41, .inl (fun _ => 0))), (sh0, .inr (7, [xv0, .ref sh1, .int 0, .int pq, .int ka, .int 0, .int 0]))] H := hP
                have hD : va_D A [(co0, .inr (0, [cv0, cv1, .int bq])), (h0, .inr (4, [.ref h1, v1, v2, v3, v4, v5, v6, v7, v8, v9, v10, v11, v12, v13, v14, v15])), (h1, .inl (cy 1, 4, .inl (fun _ => 0))), (sh1, .inl (cy 1, 4, .inl (fs2_2))), (a0, .inr (11, [w0, w1, .ref h0, w3, .ref n0, w5, .ref co0, w7, w8, .ref sh0, w10, .ref si0, w12, w13])), (n0, .inr (5, [.ref n1, .ref n2, .ref n3, z3, z4, z5, z6])), (n1, .inl (cy 1, 41, .inl (fun _ => 0))), (sh0, .inr (7, [xv0, .ref sh1, .int 0, .int pq, .int ka, .int 0, .int 0]))] := hD
                refine W.widen (k := 0) (n := 0) (Nat.le_of_ble_eq_true rfl) (Nat.le_of_ble_eq_true rfl) ?_
                have hw5 : r5 = if kb.toInt = 0 then 0 else if kb.toInt = 1 then (-1) else (-1) := hw5
                have qc_1 : ¬ (ka : Int32).toInt < (0 : Int32).toInt := fun h => c_1 ((fa_lt _ _).mpr h)
                have qc_7 : ¬ (10 : Int32).toInt ≤ (ka : Int32).toInt := fun h => c_7 ((fa_le _ _).mpr h)
                have qc_11 : ¬ (kb : Int32).toInt < (0 : Int32).toInt := fun h => c_11 ((fa_lt _ _).mpr h)
                have qc_16 : (kb : Int32).toInt ≤ (2 : Int32).toInt := (fa_le _ _).mp c_16
                have z0 : (0 : Int32).toInt = 0 := by decide
                have z2 : (2 : Int32).toInt = 2 := by decide
                have z10 : (10 : Int32).toInt = 10 := by decide
                exact x_iret hQ hx hb hr hlocks hK hP hD hS dX11_yeas_133 () (by rw [hw5]; by_cases h0 : kb.toInt = 0; rw [if_pos h0, if_pos (by omega)]; rw [if_neg h0, ite_self, if_neg (by omega)]) [] (by decide) rfl (Nat.le_of_ble_eq_true rfl) (Nat.le_of_ble_eq_true rfl)
              · have hlt4 : i4 < 100 := lp_go (by decide) hi4 (by decide) c4
                refine lv_aload_n hx hb dX11_yeas_64 rfl (lv_at hl 4 rfl) ?_
                refine va_get (D := D) (ci := 11) (v := .ref sh0) (C := RX11) (T := TX11) (N := 14) hx hb hg i_X11 hown hK hP 4 rfl rfl 9 (by decide) (hg _ m_667) (fun _ h9 => h9) rfl dX11_yeas_65 ?_
                refine lv_iload hx hb dX11_yeas_68 (lv_at hl 0 rfl) ?_
                refine va_put (D := D) (ci := 7) (v := .int (nI i4)) (ty := .int) (C := RX7) (T := TX7) (N := 7) hx hb hg i_X7 tyX7 tyX7_ok nmX7 hown hK hP hD hS 7 rfl rfl 3 (by decide) (hg _ m_636) (fun _ h9 => h9) rfl (by decide +kernel) rfl rfl (Nat.le_of_ble_eq_true rfl) dX11_yeas_70 (fun H locs hP hD hS => ?_)
                have hP : va_P D vwCl [(co0, .inr (0, [cv0, cv1, .int bq])), (h0, .inr (4, [.ref h1, v1, v2, v3, v4, v5, v6, v7, v8, v9, v10, v11, v12, v13, v14, v15])), (h1, .inl (cy 1, 4, .inl (fun _ => 0))), (sh1, .inl (cy 1, 4, .inl (fs2_2))), (a0, .inr (11, [w0, w1, .ref h0, w3, .ref n0, w5, .ref co0, w7, w8, .ref sh0, w10, .ref si0, w12, w13])), (n0, .inr (5, [.ref n1, .ref n2, .ref n3, z3, z4, z5, z6])), (n1, .inl (cy 1, 41, .inl (fun _ => 0))), (sh0, .inr (7, [xv0, .ref sh1, .int 0, .int (nI i4), .int ka, .int 0, .int 0]))] H := hP
                have hD : va_D A [(co0, .inr (0, [cv0, cv1, .int bq])), (h0, .inr (4, [.ref h1, v1, v2, v3, v4, v5, v6, v7, v8, v9, v10, v11, v12, v13, v14, v15])), (h1, .inl (cy 1, 4, .inl (fun _ => 0))), (sh1, .inl (cy 1, 4, .inl (fs2_2))), (a0, .inr (11, [w0, w1, .ref h0, w3, .ref n0, w5, .ref co0, w7, w8, .ref sh0, w10, .ref si0, w12, w13])), (n0, .inr (5, [.ref n1, .ref n2, .ref n3, z3, z4, z5, z6])), (n1, .inl (cy 1, 41, .inl (fun _ => 0))), (sh0, .inr (7, [xv0, .ref sh1, .int 0, .int (nI i4), .int ka, .int 0, .int 0]))] := hD
                refine lv_aload_n hx hb dX11_yeas_73 rfl (lv_at hl 4 rfl) ?_
                refine va_get (D := D) (ci := 11) (v := .ref co0) (C := RX11) (T := TX11) (N := 14) hx hb hg i_X11 hown hK hP 4 rfl rfl 6 (by decide) (hg _ m_664) (fun _ h9 => h9) rfl dX11_yeas_74 ?_
                refine lv_aload_n hx hb dX11_yeas_77 rfl (lv_at hl 4 rfl) ?_
                refine va_get (D := D) (ci := 11) (v := .ref h0) (C := RX11) (T := TX11) (N := 14) hx hb hg i_X11 hown hK hP 4 rfl rfl 2 (by decide) (hg _ m_660) (fun _ h9 => h9) rfl dX11_yeas_78 ?_
                refine lv_aload_n hx hb dX11_yeas_81 rfl (lv_at hl 4 rfl) ?_
                refine va_get (D := D) (ci := 11) (v := .ref sh0) (C := RX11) (T := TX11) (N := 14) hx hb hg i_X11 hown hK hP 4 rfl rfl 9 (by decide) (hg _ m_667) (fun _ h9 => h9) rfl dX11_yeas_82 ?_
                refine lv_aload_n hx hb dX11_yeas_85 rfl (lv_at hl 4 rfl) ?_
                refine va_get (D := D) (ci := 11) (v := .ref si0) (C := RX11) (T := TX11) (N := 14) hx hb hg i_X11 hown hK hP 4 rfl rfl 11 (by decide) (hg _ m_669) (fun _ h9 => h9) rfl dX11_yeas_86 ?_
                refine x_callVi (q := (RX0, TX0, 3)) (ci := 0) (q0 := 0) (wr := [(sh1, .inl (cy 1, 4, .inl (fs2_2))), (a0, .inr (11, [w0, w1, .ref h0, w3, .ref n0, w5, .ref co0, w7, w8, .ref sh0, w10, .ref si0, w12, w13])), (n0, .inr (5, [.ref n1, .ref n2, .ref n3, z3, z4, z5, z6])), (n1, .inl (cy 1, 41, .inl (fun _ => 0))), (sh0, .inr (7, [xv0, .ref sh1, .int 0, .int (nI i4), .int ka, .int 0, .int 0]))]) (rest := []) ⟨hx, hb, hml, hown, hg, hl.1⟩ k_X11_164 (c_verdict0 l D cy co0 cv0 cv1 ((.int bq)) h0 h1 v1 v2 v3 v4 v5 v6 v7 v8 v9 v10 v11 v12 v13 v14 v15 sh0 si0) E0_blind hK hP hD hS hA [0, 1, 2] [3, 4, 5, 6, 7] ⟨rfl, rfl, by decide, by decide, by decide⟩ rfl rfl (fun _ _ _ => trivial) dX11_yeas_89 rfl rfl (Nat.le_of_ble_eq_true rfl) ⟨Nat.le_of_ble_eq_true rfl, Nat.le_of_ble_eq_true rfl⟩ ⟨Nat.le_of_ble_eq_true rfl, Nat.le_of_ble_eq_true rfl⟩ (fun r6 u6 H locs hw6 hP hD hS => ?_)
                have hP : va_P D vwCl [(sh1, .inl (cy 1, 4, .inl (fs2_2))), (a0, .inr (11, [w0, w1, .ref h0, w3, .ref n0, w5, .ref co0, w7, w8, .ref sh0, w10, .ref si0, w12, w13])), (n0, .inr (5, [.ref n1, .ref n2, .ref n3, z3, z4, z5, z6])), (n1, .inl (cy 1, 41, .inl (fun _ => 0))), (sh0, .inr (7, [xv0, .ref sh1, .int 0, .int (nI i4), .int ka, .int 0, .int 0])), (co0, .inr (0, [cv0, cv1, .int (-1)])), (h0, .inr (4, [.ref h1, v1, v2, v3, v4, v5, v6, v7, v8, v9, v10, v11, v12, v13, v14, v15])), (h1, .inl (cy 1, 4, .inl (fun _ => 0)))] H := hP
                have hD : va_D A [(sh1, .inl (cy 1, 4, .inl (fs2_2))), (a0, .inr (11, [w0, w1, .ref h0, w3, .ref n0, w5, .ref co0, w7, w8, .ref sh0, w10, .ref si0, w12, w13])), (n0, .inr (5, [.ref n1, .ref n2, .ref n3, z3, z4, z5, z6])), (n1, .inl (cy 1, 41, .inl (fun _ => 0))), (sh0, .inr (7, [xv0, .ref sh1, .int 0, .int (nI i4), .int ka, .int 0, .int 0])), (co0, .inr (0, [cv0, cv1, .int (-1)])), (h0, .inr (4, [.ref h1, v1, v2, v3, v4, v5, v6, v7, v8, v9, v10, v11, v12, v13, v14, v15])), (h1, .inl (cy 1, 4, .inl (fun _ => 0)))] := hD
                refine W.widen (k := 0) (n := 0) (Nat.le_of_ble_eq_true rfl) (Nat.le_of_ble_eq_true rfl) ?_
                have hw6 : r6 = 0 := hw6
                subst hw6
                refine lv_iconst (v := 2) hx hb dX11_yeas_92 (by decide) ?_
                refine lv_icmp_ne (tgt := 118) hx hb dX11_yeas_93 (by decide) (fun _ => ?_) (fun h => absurd h (by decide))
                refine lv_iinc (v := nI (i4 + 1)) (lv' := [(6, .int (nI (i4 + 1))), (5, .int (-1)), (4, .int (-1)), (3, .int 0), (0, .ref a0), (1, .int ka), (2, .int kb)]) hx hb dX11_yeas_118 hl (k := 0) rfl (lp_inc i4) (by decide) rfl (fun ls hl => ?_)
                refine lv_goto (tgt := 57) hx hb dX11_yeas_121 (by decide) ?_
                exact ih4 (i4 + 1) (by omega) (by omega) (nI i4) (-1) _ _ (hP.sub [5, 6, 7, 0, 1, 2, 3, 4] rfl) (hD.sub [5, 6, 7, 0, 1, 2, 3, 4] (by decide) rfl) hS ls (lv_sub hl [0, 1, 2, 3, 4, 5, 6] rfl)
          exact loop4 101 0 (by omega) (by omega) pl cv2 _ _ (hP.sub [0, 1, 2, 3, 4, 5, 6, 7] rfl) (hD.sub [0, 1, 2, 3, 4, 5, 6, 7] (by decide) rfl) hS ls (lv_sub hl [0, 1, 2, 3, 4, 5, 6] rfl)
        · refine lv_iconst (v := -1) hx hb dX11_yeas_19 (by decide) ?_
          have qc_1 : ¬ (ka : Int32).toInt < (0 : Int32).toInt := fun h => c_1 ((fa_lt _ _).mpr h)
          have qc_7 : ¬ (10 : Int32).toInt ≤ (ka : Int32).toInt := fun h => c_7 ((fa_le _ _).mpr h)
          have qc_11 : ¬ (kb : Int32).toInt < (0 : Int32).toInt := fun h => c_11 ((fa_lt _ _).mpr h)
          have qc_16 : ¬ (kb : Int32).toInt ≤ (2 : Int32).toInt := fun h => c_16 ((fa_le _ _).mpr h)
          have z0 : (0 : Int32).toInt = 0 := by decide
          have z2 : (2 : Int32).toInt = 2 := by decide
          have z10 : (10 : Int32).toInt = 10 := by decide
          exact x_iret hQ hx hb hr hlocks hK hP hD hS dX11_yeas_20 () ((if_neg (by omega)).symm) [] (by decide) rfl (Nat.le_of_ble_eq_true rfl) (Nat.le_of_ble_eq_true rfl)
theorem dX8_canBeAt_0 : decode cX8_canBeAt 0 = .ok (.iconst 0, 1) := by decide +kernel
theorem dX8_canBeAt_1 : decode cX8_canBeAt 1 = .ok (.istore 4, 2) := by decide +kernel
theorem dX8_canBeAt_3 : decode cX8_canBeAt 3 = .ok (.iload 4, 2) := by decide +kernel
theorem dX8_canBeAt_5 : decode cX8_canBeAt 5 = .ok (.aload_n 0, 1) := by decide +kernel
theorem dX8_canBeAt_6 : decode cX8_canBeAt 6 = .ok (.getfield 38, 3) := by decide +kernel
theorem dX8_canBeAt_9 : decode cX8_canBeAt 9 = .ok (.if_icmp .ge 51, 3) := by decide +kernel
theorem dX8_canBeAt_60 : decode cX8_canBeAt 60 = .ok (.iconst 1, 1) := by decide +kernel
theorem dX8_canBeAt_61 : decode cX8_canBeAt 61 = .ok (.ireturn, 1) := by decide +kernel
set_option maxHeartbeats 400000 in
set_option maxRecDepth 100000 in
theorem c_canBeAt (l : Launch) (D : va_G) (cy : Nat → ClassId) (so0 : Nat) (uv0 : Value) (uv1 : Value) (uv2 : Value) (uv3 : Value) (uv4 : Value) (uv5 : Value) (uv6 : Value) (uv7 : Value) (uv9 : Value) (uv10 : Value) (uv11 : Value) (uv12 : Value) (hh : Nat) (pl : Int32) (kk : Int32)  : XMi l D (tyL cy) E0 yX8_canBeAt cX8_canBeAt 5 (some .boolean) (rmk 0 0 0) [.ref so0, .ref hh, .int pl, .int kk] [(so0, .inr (8, [uv0, uv1, uv2, uv3, uv4, uv5, uv6, uv7, .int 0, uv9, uv10, uv11, uv12]))] (fun (r : Int32) (_ : Unit) => r = 1) (fun (_ : Unit) => [(so0, .inr (8, [uv0, uv1, uv2, uv3, uv4, uv5, uv6, uv7, .int 0, uv9, uv10, uv11, uv12]))]) := by
  refine XMi.start (by decide) (Nat.le_of_ble_eq_true rfl) ?_
  intro p e s m below meth c args A ls Q hat hQ
  obtain ⟨hx, hb, hr, hml, hown, hg, hlocks, hin, hK, hA, hP, hD, hS, hE, hl⟩ := hat
  have hown : s.vm.findClass RX8 = some m.cls := hown
  have hl : lv_has ls 5 [(0, .ref so0), (1, .ref hh), (2, .int pl), (3, .int kk)] := hl
  refine lv_iconst (v := 0) hx hb dX8_canBeAt_0 (by decide) ?_
  refine lv_istore (lv' := [(4, .int 0), (0, .ref so0), (1, .ref hh), (2, .int pl), (3, .int kk)]) hx hb dX8_canBeAt_1 hl (by decide) rfl (fun ls hl => ?_)
  refine lv_iload hx hb dX8_canBeAt_3 (lv_at hl 0 rfl) ?_
  refine lv_aload_n hx hb dX8_canBeAt_5 rfl (lv_at hl 1 rfl) ?_
  refine va_get (D := D) (ci := 8) (v := .int 0) (C := RX8) (T := TX8) (N := 13) hx hb hg i_X8 hown hK hP 0 rfl rfl 8 (by decide) (hg _ m_462) (fun _ h9 => h9) rfl dX8_canBeAt_6 ?_
  refine lv_icmp_ge (tgt := 60) hx hb dX8_canBeAt_9 (by decide) (fun _ => ?_) (fun h => absurd (by decide) h)
  refine lv_iconst (v := 1) hx hb dX8_canBeAt_60 (by decide) ?_
  exact x_zret hQ hx hb hr hlocks hK hP hD hS rfl dX8_canBeAt_61 () (rfl) [0] (by decide) rfl (Nat.le_of_ble_eq_true rfl) (Nat.le_of_ble_eq_true rfl)
theorem dX8_findLeft_0 : decode cX8_findLeft 0 = .ok (.aload_n 0, 1) := by decide +kernel
theorem dX8_findLeft_1 : decode cX8_findLeft 1 = .ok (.iconst 0, 1) := by decide +kernel
theorem dX8_findLeft_2 : decode cX8_findLeft 2 = .ok (.putfield 61, 3) := by decide +kernel
theorem m_466 : (Cond.fieldLink RX8 61 "CliffJudges$Sounds" "leftCount" "I") ∈ gT := gm 466 (by decide +kernel) (by decide +kernel)
theorem dX8_findLeft_5 : decode cX8_findLeft 5 = .ok (.iconst 0, 1) := by decide +kernel
theorem dX8_findLeft_6 : decode cX8_findLeft 6 = .ok (.istore_n 3, 1) := by decide +kernel
theorem dX8_findLeft_7 : decode cX8_findLeft 7 = .ok (.iload_n 3, 1) := by decide +kernel
theorem dX8_findLeft_8 : decode cX8_findLeft 8 = .ok (.bipush 100, 2) := by decide +kernel
theorem dX8_findLeft_10 : decode cX8_findLeft 10 = .ok (.if_icmp .ge 39, 3) := by decide +kernel
theorem dX8_findLeft_49 : decode cX8_findLeft 49 = .ok (.return_, 1) := by decide +kernel
theorem dX8_findLeft_13 : decode cX8_findLeft 13 = .ok (.aload_n 0, 1) := by decide +kernel
theorem dX8_findLeft_14 : decode cX8_findLeft 14 = .ok (.aload_n 1, 1) := by decide +kernel
theorem dX8_findLeft_15 : decode cX8_findLeft 15 = .ok (.iload_n 3, 1) := by decide +kernel
theorem dX8_findLeft_16 : decode cX8_findLeft 16 = .ok (.iload_n 2, 1) := by decide +kernel
theorem dX8_findLeft_17 : decode cX8_findLeft 17 = .ok (.invokevirtual 64, 3) := by decide +kernel
theorem m_1349 : (Cond.methodLink RX8 64 yX8_canBeAt) ∈ gT := gm 1349 (by decide +kernel) (by decide +kernel)
theorem m_1351 : (Cond.instanceMethod yX8_canBeAt) ∈ gT := gm 1351 (by decide +kernel) (by decide +kernel)
theorem m_59 : (Cond.selects RX8 yX8_canBeAt yX8_canBeAt) ∈ gT := gm 59 (by decide +kernel) (by decide +kernel)
theorem m_1352 : (Cond.code yX8_canBeAt cX8_canBeAt 5 (some .boolean)) ∈ gT := gm 1352 (by decide +kernel) (by decide +kernel)
theorem k_X8_64 : xV RX8 RX8 64 yX8_canBeAt cX8_canBeAt 5 (some .boolean) 3 := ⟨⟨m_1349, m_1351, m_59, m_140, m_1352⟩, rfl, by decide, by decide, by decide +kernel⟩
theorem dX8_findLeft_20 : decode cX8_findLeft 20 = .ok (.ifCond .eq 23, 3) := by decide +kernel
theorem dX8_findLeft_23 : decode cX8_findLeft 23 = .ok (.aload_n 0, 1) := by decide +kernel
theorem dX8_findLeft_24 : decode cX8_findLeft 24 = .ok (.getfield 27, 3) := by decide +kernel
theorem m_459 : (Cond.fieldLink RX8 27 "CliffJudges$Sounds" "left" "[I") ∈ gT := gm 459 (by decide +kernel) (by decide +kernel)
theorem dX8_findLeft_27 : decode cX8_findLeft 27 = .ok (.aload_n 0, 1) := by decide +kernel
theorem dX8_findLeft_28 : decode cX8_findLeft 28 = .ok (.getfield 61, 3) := by decide +kernel
theorem dX8_findLeft_31 : decode cX8_findLeft 31 = .ok (.iload_n 3, 1) := by decide +kernel
theorem dX8_findLeft_32 : decode cX8_findLeft 32 = .ok (.iastore, 1) := by decide +kernel
theorem dX8_findLeft_33 : decode cX8_findLeft 33 = .ok (.aload_n 0, 1) := by decide +kernel
theorem dX8_findLeft_34 : decode cX8_findLeft 34 = .ok (.dup, 1) := by decide +kernel
theorem dX8_findLeft_35 : decode cX8_findLeft 35 = .ok (.getfield 61, 3) := by decide +kernel
theorem dX8_findLeft_38 : decode cX8_findLeft 38 = .ok (.iconst 1, 1) := by decide +kernel
theorem dX8_findLeft_39 : decode cX8_findLeft 39 = .ok (.iadd, 1) := by decide +kernel
theorem dX8_findLeft_40 : decode cX8_findLeft 40 = .ok (.putfield 61, 3) := by decide +kernel
theorem dX8_findLeft_43 : decode cX8_findLeft 43 = .ok (.iinc 3 1, 3) := by decide +kernel
theorem dX8_findLeft_46 : decode cX8_findLeft 46 = .ok (.goto (-39), 3) := by decide +kernel
set_option maxHeartbeats 400000 in
set_option maxRecDepth 100000 in
theorem c_findLeft (l : Launch) (D : va_G) (cy : Nat → ClassId) (so0 : Nat) (so6 : Nat) (uv0 : Value) (uv1 : Value) (uv2 : Value) (uv3 : Value) (uv4 : Value) (uv6 : Value) (uv7 : Value) (uv9 : Value) (uv11 : Value) (uv12 : Value) (lc : Int32) (fl : Nat → Int32) (hh : Nat) (kk : Int32)  : XMv l D (tyL cy) E0 yX8_findLeft cX8_findLeft 4 none (rmk 1 0 0) [.ref so0, .ref hh, .int kk] [(so0, .inr (8, [uv0, uv1, uv2, uv3, uv4, .ref so6, uv6, uv7, .int 0, uv9, .int lc, uv11, uv12])), (so6, .inl (cy 1, 100, .inl (fl)))] (fun (fl2 : Nat → Int32) => ∀ j : Nat, j < 100 → fl2 j = nI j) (fun (fl2 : Nat → Int32) => [(so0, .inr (8, [uv0, uv1, uv2, uv3, uv4, .ref so6, uv6, uv7, .int 0, uv9, .int 100, uv11, uv12])), (so6, .inl (cy 1, 100, .inl (fl2)))]) := by
  refine XMv.start (by decide) (Nat.le_of_ble_eq_true rfl) ?_
  intro p e s m below meth c args A ls Q hat hQ
  obtain ⟨hx, hb, hr, hml, hown, hg, hlocks, hin, hK, hA, hP, hD, hS, hE, hl⟩ := hat
  have hown : s.vm.findClass RX8 = some m.cls := hown
  have hl : lv_has ls 4 [(0, .ref so0), (1, .ref hh), (2, .int kk)] := hl
  refine lv_aload_n hx hb dX8_findLeft_0 rfl (lv_at hl 0 rfl) ?_
  refine lv_iconst (v := 0) hx hb dX8_findLeft_1 (by decide) ?_
  refine va_put (D := D) (ci := 8) (v := .int 0) (ty := .int) (C := RX8) (T := TX8) (N := 13) hx hb hg i_X8 tyX8 tyX8_ok nmX8 hown hK hP hD hS 0 rfl rfl 10 (by decide) (hg _ m_466) (fun _ h9 => h9) rfl (by decide +kernel) rfl rfl (Nat.le_of_ble_eq_true rfl) dX8_findLeft_2 (fun H locs hP hD hS => ?_)
  have hP : va_P D vwCl [(so0, .inr (8, [uv0, uv1, uv2, uv3, uv4, .ref so6, uv6, uv7, .int 0, uv9, .int 0, uv11, uv12])), (so6, .inl (cy 1, 100, .inl (fl)))] H := hP
  have hD : va_D A [(so0, .inr (8, [uv0, uv1, uv2, uv3, uv4, .ref so6, uv6, uv7, .int 0, uv9, .int 0, uv11, uv12])), (so6, .inl (cy 1, 100, .inl (fl)))] := hD
  refine lv_iconst (v := 0) hx hb dX8_findLeft_5 (by decide) ?_
  refine lv_istore_n (lv' := [(3, .int 0), (0, .ref so0), (1, .ref hh), (2, .int kk)]) hx hb dX8_findLeft_6 rfl hl (by decide) rfl (fun ls hl => ?_)
  have loop1 : ∀ (n i1 : Nat), i1 ≤ 100 → 101 ≤ i1 + n → ∀ (fq : Nat → Int32), (∀ j : Nat, j < i1 → fq j = nI j) → ∀ (H : Heap) (locs : List Loc), va_P D vwCl [(so0, .inr (8, [uv0, uv1, uv2, uv3, uv4, .ref so6, uv6, uv7, .int 0, uv9, .int (nI i1), uv11, uv12])), (so6, .inl (cy 1, 100, .inl (fq)))] H → va_D A [(so0, .inr (8, [uv0, uv1, uv2, uv3, uv4, .ref so6, uv6, uv7, .int 0, uv9, .int (nI i1), uv11, uv12])), (so6, .inl (cy 1, 100, .inl (fq)))] → va_S A s.heap H locs → ∀ ls : Array Slot, lv_has ls 4 [(3, .int (nI i1)), (0, .ref so0), (1, .ref hh), (2, .int kk)] → W p l e (rmk 1 0 0) s m args below meth c H locs 0 0 Q (F0 m 7 ls []) := by
    intro n
    induction n with
    | zero => intro i1 h1 h2; exact absurd h2 (by omega)
    | succ n ih =>
      intro i1 hi1 hn1 fq hv1 H locs hP hD hS ls hl
      have ih1 := ih
      refine lv_iload_n hx hb dX8_findLeft_7 rfl (lv_at hl 0 rfl) ?_
      refine lv_bipush (v := 100) hx hb dX8_findLeft_8 (by decide) ?_
      refine lv_icmp_ge (tgt := 49) hx hb dX8_findLeft_10 (by decide) (fun c1 => ?_) (fun c1 => ?_)
      · have hend1 : i1 = 100 := lp_end (N := 100) (by decide) hi1 (by decide) c1
        subst hend1
        exact x_vret hQ hx hb hr hlocks hK hP hD hS dX8_findLeft_49 fq (hv1) [0, 1] (by decide) rfl (Nat.le_of_ble_eq_true rfl) (Nat.le_of_ble_eq_true rfl)
      · have hlt1 : i1 < 100 := lp_go (by decide) hi1 (by decide) c1
        refine lv_aload_n hx hb dX8_findLeft_13 rfl (lv_at hl 1 rfl) ?_
        refine lv_aload_n hx hb dX8_findLeft_14 rfl (lv_at hl 2 rfl) ?_
        refine lv_iload_n hx hb dX8_findLeft_15 rfl (lv_at hl 0 rfl) ?_
        refine lv_iload_n hx hb dX8_findLeft_16 rfl (lv_at hl 3 rfl) ?_
        refine x_callVi (q := (RX8, TX8, 13)) (ci := 8) (q0 := 0) (wr := [(so6, .inl (cy 1, 100, .inl (fq)))]) (rest := []) ⟨hx, hb, hml, hown, hg, hl.1⟩ k_X8_64 (c_canBeAt l D cy so0 uv0 uv1 uv2 uv3 uv4 ((.ref so6)) uv6 uv7 uv9 ((.int (nI i1))) uv11 uv12 hh (nI i1) kk) E0_blind hK hP hD hS hA [0] [1] ⟨rfl, rfl, by decide, by decide, by decide⟩ rfl rfl (fun _ _ _ => trivial) dX8_findLeft_17 rfl rfl (Nat.le_of_ble_eq_true rfl) ⟨Nat.le_of_ble_eq_true rfl, Nat.le_of_ble_eq_true rfl⟩ ⟨Nat.le_of_ble_eq_true rfl, Nat.le_of_ble_eq_true rfl⟩ (fun r2 u2 H locs hw2 hP hD hS => ?_)
        have hP : va_P D vwCl [(so6, .inl (cy 1, 100, .inl (fq))), (so0, .inr (8, [uv0, uv1, uv2, uv3, uv4, .ref so6, uv6, uv7, .int 0, uv9, .int (nI i1), uv11, uv12]))] H := hP
        have hD : va_D A [(so6, .inl (cy 1, 100, .inl (fq))), (so0, .inr (8, [uv0, uv1, uv2, uv3, uv4, .ref so6, uv6, uv7, .int 0, uv9, .int (nI i1), uv11, uv12]))] := hD
        refine W.widen (k := 0) (n := 0) (Nat.le_of_ble_eq_true rfl) (Nat.le_of_ble_eq_true rfl) ?_
        have hw2 : r2 = 1 := hw2
        subst hw2
        refine lv_if_eq (tgt := 43) hx hb dX8_findLeft_20 (by decide) (fun h => absurd h (by decide)) (fun _ => ?_)
        refine lv_aload_n hx hb dX8_findLeft_23 rfl (lv_at hl 1 rfl) ?_
        refine va_get (D := D) (ci := 8) (v := .ref so6) (C := RX8) (T := TX8) (N := 13) hx hb hg i_X8 hown hK hP 1 rfl rfl 5 (by decide) (hg _ m_459) (fun _ h9 => h9) rfl dX8_findLeft_24 ?_
        refine lv_aload_n hx hb dX8_findLeft_27 rfl (lv_at hl 1 rfl) ?_
        refine va_get (D := D) (ci := 8) (v := .int (nI i1)) (C := RX8) (T := TX8) (N := 13) hx hb hg i_X8 hown hK hP 1 rfl rfl 10 (by decide) (hg _ m_466) (fun _ h9 => h9) rfl dX8_findLeft_28 ?_
        refine lv_iload_n hx hb dX8_findLeft_31 rfl (lv_at hl 0 rfl) ?_
        refine va_iast hx hb hK hP hD hS 0 1 rfl rfl (vp_in_nI (by omega) (by decide)) dX8_findLeft_32 (fun H locs hP hD hS => ?_)
        obtain ⟨g_3, eg_3⟩ : ∃ y, upd fq (nI i1 : Int32).toNatClampNeg (nI i1) = y := ⟨_, rfl⟩
        rw [eg_3] at hP hD
        have hP : va_P D vwCl [(so6, .inl (cy 1, 100, .inl (g_3))), (so0, .inr (8, [uv0, uv1, uv2, uv3, uv4, .ref so6, uv6, uv7, .int 0, uv9, .int (nI i1), uv11, uv12]))] H := hP
        have hD : va_D A [(so6, .inl (cy 1, 100, .inl (g_3))), (so0, .inr (8, [uv0, uv1, uv2, uv3, uv4, .ref so6, uv6, uv7, .int 0, uv9, .int (nI i1), uv11, uv12]))] := hD
        refine lv_aload_n hx hb dX8_findLeft_33 rfl (lv_at hl 1 rfl) ?_
        refine lv_dup hx hb dX8_findLeft_34 rfl ?_
        refine va_get (D := D) (ci := 8) (v := .int (nI i1)) (C := RX8) (T := TX8) (N := 13) hx hb hg i_X8 hown hK hP 1 rfl rfl 10 (by decide) (hg _ m_466) (fun _ h9 => h9) rfl dX8_findLeft_35 ?_
        refine lv_iconst (v := 1) hx hb dX8_findLeft_38 (by decide) ?_
        refine lv_iadd hx hb dX8_findLeft_39 ?_
        refine lv_topi (fun y_4 hy_4 => ?_)
        obtain rfl : y_4 = nI (i1 + 1) := hy_4.trans (nI_add _ _)
        refine va_put (D := D) (ci := 8) (v := .int (nI (i1 + 1))) (ty := .int) (C := RX8) (T := TX8) (N := 13) hx hb hg i_X8 tyX8 tyX8_ok nmX8 hown hK hP hD hS 1 rfl rfl 10 (by decide) (hg _ m_466) (fun _ h9 => h9) rfl (by decide +kernel) rfl rfl (Nat.le_of_ble_eq_true rfl) dX8_findLeft_40 (fun H locs hP hD hS => ?_)
        have hP : va_P D vwCl [(so6, .inl (cy 1, 100, .inl (g_3))), (so0, .inr (8, [uv0, uv1, uv2, uv3, uv4, .ref so6, uv6, uv7, .int 0, uv9, .int (nI (i1 + 1)), uv11, uv12]))] H := hP
        have hD : va_D A [(so6, .inl (cy 1, 100, .inl (g_3))), (so0, .inr (8, [uv0, uv1, uv2, uv3, uv4, .ref so6, uv6, uv7, .int 0, uv9, .int (nI (i1 + 1)), uv11, uv12]))] := hD
        refine lv_iinc (v := nI (i1 + 1)) (lv' := [(3, .int (nI (i1 + 1))), (0, .ref so0), (1, .ref hh), (2, .int kk)]) hx hb dX8_findLeft_43 hl (k := 0) rfl (lp_inc i1) (by decide) rfl (fun ls hl => ?_)
        refine lv_goto (tgt := 7) hx hb dX8_findLeft_46 (by decide) ?_
        exact ih1 (i1 + 1) (by omega) (by omega) g_3 (eg_3 ▸ upd_run hv1 (by omega)) _ _ (hP.sub [1, 0] rfl) (hD.sub [1, 0] (by decide) rfl) hS ls (lv_sub hl [0, 1, 2, 3] rfl)
  exact loop1 101 0 (by omega) (by omega) fl (fun j h => absurd h (by omega)) _ _ (hP.sub [0, 1] rfl) (hD.sub [0, 1] (by decide) rfl) hS ls (lv_sub hl [0, 1, 2, 3] rfl)
theorem dX8_firstLeft_0 : decode cX8_firstLeft 0 = .ok (.aload_n 0, 1) := by decide +kernel
theorem dX8_firstLeft_1 : decode cX8_firstLeft 1 = .ok (.getfield 61, 3) := by decide +kernel
theorem dX8_firstLeft_4 : decode cX8_firstLeft 4 = .ok (.ifCond .le 12, 3) := by decide +kernel
theorem dX8_firstLeft_7 : decode cX8_firstLeft 7 = .ok (.aload_n 0, 1) := by decide +kernel
theorem dX8_firstLeft_8 : decode cX8_firstLeft 8 = .ok (.getfield 27, 3) := by decide +kernel
theorem dX8_firstLeft_11 : decode cX8_firstLeft 11 = .ok (.iconst 0, 1) := by decide +kernel
theorem dX8_firstLeft_12 : decode cX8_firstLeft 12 = .ok (.iaload, 1) := by decide +kernel
theorem dX8_firstLeft_13 : decode cX8_firstLeft 13 = .ok (.goto 4, 3) := by decide +kernel
theorem dX8_firstLeft_17 : decode cX8_firstLeft 17 = .ok (.ireturn, 1) := by decide +kernel
set_option maxHeartbeats 400000 in
set_option maxRecDepth 100000 in
theorem c_firstLeft (l : Launch) (D : va_G) (cy : Nat → ClassId) (so0 : Nat) (so6 : Nat) (uv0 : Value) (uv1 : Value) (uv2 : Value) (uv3 : Value) (uv4 : Value) (uv6 : Value) (uv7 : Value) (uv9 : Value) (uv11 : Value) (uv12 : Value) (fl : Nat → Int32)  : XMi l D (tyL cy) E0 yX8_firstLeft cX8_firstLeft 1 (some .int) (rmk 0 0 0) [.ref so0] [(so0, .inr (8, [uv0, uv1, uv2, uv3, uv4, .ref so6, uv6, uv7, .int 0, uv9, .int 100, uv11, uv12])), (so6, .inl (cy 1, 100, .inl (fl)))] (fun (r : Int32) (_ : Unit) => r = fl 0) (fun (_ : Unit) => [(so0, .inr (8, [uv0, uv1, uv2, uv3, uv4, .ref so6, uv6, uv7, .int 0, uv9, .int 100, uv11, uv12])), (so6, .inl (cy 1, 100, .inl (fl)))]) := by
  refine XMi.start (by decide) (Nat.le_of_ble_eq_true rfl) ?_
  intro p e s m below meth c args A ls Q hat hQ
  obtain ⟨hx, hb, hr, hml, hown, hg, hlocks, hin, hK, hA, hP, hD, hS, hE, hl⟩ := hat
  have hown : s.vm.findClass RX8 = some m.cls := hown
  have hl : lv_has ls 1 [(0, .ref so0)] := hl
  refine lv_aload_n hx hb dX8_firstLeft_0 rfl (lv_at hl 0 rfl) ?_
  refine va_get (D := D) (ci := 8) (v := .int 100) (C := RX8) (T := TX8) (N := 13) hx hb hg i_X8 hown hK hP 0 rfl rfl 10 (by decide) (hg _ m_466) (fun _ h9 => h9) rfl dX8_firstLeft_1 ?_
  refine lv_if_le (tgt := 16) hx hb dX8_firstLeft_4 (by decide) (fun h => absurd h (by decide)) (fun _ => ?_)
  refine lv_aload_n hx hb dX8_firstLeft_7 rfl (lv_at hl 0 rfl) ?_
  refine va_get (D := D) (ci := 8) (v := .ref so6) (C := RX8) (T := TX8) (N := 13) hx hb hg i_X8 hown hK hP 0 rfl rfl 5 (by decide) (hg _ m_459) (fun _ h9 => h9) rfl dX8_firstLeft_8 ?_
  refine lv_iconst (v := 0) hx hb dX8_firstLeft_11 (by decide) ?_
  refine va_iald hx hb hK hP 1 1 rfl rfl (by unfold vp_in; decide) dX8_firstLeft_12 ?_
  refine lv_topi (fun x_1 ex_1 => ?_)
  refine lv_goto (tgt := 17) hx hb dX8_firstLeft_13 (by decide) ?_
  exact x_iret hQ hx hb hr hlocks hK hP hD hS dX8_firstLeft_17 () (ex_1) [0, 1] (by decide) rfl (Nat.le_of_ble_eq_true rfl) (Nat.le_of_ble_eq_true rfl)
theorem dX8_lastLeft_0 : decode cX8_lastLeft 0 = .ok (.aload_n 0, 1) := by decide +kernel
theorem dX8_lastLeft_1 : decode cX8_lastLeft 1 = .ok (.getfield 61, 3) := by decide +kernel
theorem dX8_lastLeft_4 : decode cX8_lastLeft 4 = .ok (.ifCond .le 17, 3) := by decide +kernel
theorem dX8_lastLeft_7 : decode cX8_lastLeft 7 = .ok (.aload_n 0, 1) := by decide +kernel
theorem dX8_lastLeft_8 : decode cX8_lastLeft 8 = .ok (.getfield 27, 3) := by decide +kernel
theorem dX8_lastLeft_11 : decode cX8_lastLeft 11 = .ok (.aload_n 0, 1) := by decide +kernel
theorem dX8_lastLeft_12 : decode cX8_lastLeft 12 = .ok (.getfield 61, 3) := by decide +kernel
theorem dX8_lastLeft_15 : decode cX8_lastLeft 15 = .ok (.iconst 1, 1) := by decide +kernel
theorem dX8_lastLeft_16 : decode cX8_lastLeft 16 = .ok (.isub, 1) := by decide +kernel
theorem dX8_lastLeft_17 : decode cX8_lastLeft 17 = .ok (.iaload, 1) := by decide +kernel
theorem dX8_lastLeft_18 : decode cX8_lastLeft 18 = .ok (.goto 4, 3) := by decide +kernel
theorem dX8_lastLeft_22 : decode cX8_lastLeft 22 = .ok (.ireturn, 1) := by decide +kernel
set_option maxHeartbeats 400000 in
set_option maxRecDepth 100000 in
theorem c_lastLeft (l : Launch) (D : va_G) (cy : Nat → ClassId) (so0 : Nat) (so6 : Nat) (uv0 : Value) (uv1 : Value) (uv2 : Value) (uv3 : Value) (uv4 : Value) (uv6 : Value) (uv7 : Value) (uv9 : Value) (uv11 : Value) (uv12 : Value) (fl : Nat → Int32)  : XMi l D (tyL cy) E0 yX8_lastLeft cX8_lastLeft 1 (some .int) (rmk 0 0 0) [.ref so0] [(so0, .inr (8, [uv0, uv1, uv2, uv3, uv4, .ref so6, uv6, uv7, .int 0, uv9, .int 100, uv11, uv12])), (so6, .inl (cy 1, 100, .inl (fl)))] (fun (r : Int32) (_ : Unit) => r = fl 99) (fun (_ : Unit) => [(so0, .inr (8, [uv0, uv1, uv2, uv3, uv4, .ref so6, uv6, uv7, .int 0, uv9, .int 100, uv11, uv12])), (so6, .inl (cy 1, 100, .inl (fl)))]) := by
  refine XMi.start (by decide) (Nat.le_of_ble_eq_true rfl) ?_
  intro p e s m below meth c args A ls Q hat hQ
  obtain ⟨hx, hb, hr, hml, hown, hg, hlocks, hin, hK, hA, hP, hD, hS, hE, hl⟩ := hat
  have hown : s.vm.findClass RX8 = some m.cls := hown
  have hl : lv_has ls 1 [(0, .ref so0)] := hl
  refine lv_aload_n hx hb dX8_lastLeft_0 rfl (lv_at hl 0 rfl) ?_
  refine va_get (D := D) (ci := 8) (v := .int 100) (C := RX8) (T := TX8) (N := 13) hx hb hg i_X8 hown hK hP 0 rfl rfl 10 (by decide) (hg _ m_466) (fun _ h9 => h9) rfl dX8_lastLeft_1 ?_
  refine lv_if_le (tgt := 21) hx hb dX8_lastLeft_4 (by decide) (fun h => absurd h (by decide)) (fun _ => ?_)
  refine lv_aload_n hx hb dX8_lastLeft_7 rfl (lv_at hl 0 rfl) ?_
  refine va_get (D := D) (ci := 8) (v := .ref so6) (C := RX8) (T := TX8) (N := 13) hx hb hg i_X8 hown hK hP 0 rfl rfl 5 (by decide) (hg _ m_459) (fun _ h9 => h9) rfl dX8_lastLeft_8 ?_
  refine lv_aload_n hx hb dX8_lastLeft_11 rfl (lv_at hl 0 rfl) ?_
  refine va_get (D := D) (ci := 8) (v := .int 100) (C := RX8) (T := TX8) (N := 13) hx hb hg i_X8 hown hK hP 0 rfl rfl 10 (by decide) (hg _ m_466) (fun _ h9 => h9) rfl dX8_lastLeft_12 ?_
  refine lv_iconst (v := 1) hx hb dX8_lastLeft_15 (by decide) ?_
  refine lv_isub hx hb dX8_lastLeft_16 ?_
  refine lv_topi (fun y_1 hy_1 => ?_)
  obtain rfl : y_1 = 99 := hy_1.trans (by decide +kernel)
  refine va_iald hx hb hK hP 1 1 rfl rfl (by unfold vp_in; decide) dX8_lastLeft_17 ?_
  refine lv_topi (fun x_2 ex_2 => ?_)
  refine lv_goto (tgt := 22) hx hb dX8_lastLeft_18 (by decide) ?_
  exact x_iret hQ hx hb hr hlocks hK hP hD hS dX8_lastLeft_22 () (ex_2) [0, 1] (by decide) rfl (Nat.le_of_ble_eq_true rfl) (Nat.le_of_ble_eq_true rfl)
theorem dX11_stood_0 : decode cX11_stood 0 = .ok (.iload_n 1, 1) := by decide +kernel
theorem dX11_stood_1 : decode cX11_stood 1 = .ok (.ifCond .lt 8, 3) := by decide +kernel
theorem dX11_stood_9 : decode cX11_stood 9 = .ok (.iconst (-1), 1) := by decide +kernel
theorem dX11_stood_10 : decode cX11_stood 10 = .ok (.ireturn, 1) := by decide +kernel
theorem dX11_stood_4 : decode cX11_stood 4 = .ok (.iload_n 1, 1) := by decide +kernel
theorem dX11_stood_5 : decode cX11_stood 5 = .ok (.iconst 2, 1) := by decide +kernel
theorem dX11_stood_6 : decode cX11_stood 6 = .ok (.if_icmp .le 5, 3) := by decide +kernel
theorem dX11_stood_11 : decode cX11_stood 11 = .ok (.aload_n 0, 1) := by decide +kernel
theorem dX11_stood_12 : decode cX11_stood 12 = .ok (.getfield 45, 3) := by decide +kernel
theorem dX11_stood_15 : decode cX11_stood 15 = .ok (.aload_n 0, 1) := by decide +kernel
theorem dX11_stood_16 : decode cX11_stood 16 = .ok (.getfield 28, 3) := by decide +kernel
theorem dX11_stood_19 : decode cX11_stood 19 = .ok (.iload_n 2, 1) := by decide +kernel
theorem dX11_stood_20 : decode cX11_stood 20 = .ok (.invokevirtual 272, 3) := by decide +kernel
theorem m_1345 : (Cond.methodLink RX11 272 yX8_findLeft) ∈ gT := gm 1345 (by decide +kernel) (by decide +kernel)
theorem m_1346 : (Cond.instanceMethod yX8_findLeft) ∈ gT := gm 1346 (by decide +kernel) (by decide +kernel)
theorem m_1347 : (Cond.selects RX8 yX8_findLeft yX8_findLeft) ∈ gT := gm 1347 (by decide +kernel) (by decide +kernel)
theorem m_1348 : (Cond.code yX8_findLeft cX8_findLeft 4 none) ∈ gT := gm 1348 (by decide +kernel) (by decide +kernel)
theorem k_X11_272 : xV RX11 RX8 272 yX8_findLeft cX8_findLeft 4 none 2 := ⟨⟨m_1345, m_1346, m_1347, m_140, m_1348⟩, rfl, by decide, by decide, by decide +kernel⟩
theorem dX11_stood_23 : decode cX11_stood 23 = .ok (.iload_n 1, 1) := by decide +kernel
theorem dX11_stood_24 : decode cX11_stood 24 = .ok (.aload_n 0, 1) := by decide +kernel
theorem dX11_stood_25 : decode cX11_stood 25 = .ok (.getfield 45, 3) := by decide +kernel
theorem dX11_stood_28 : decode cX11_stood 28 = .ok (.getfield 276, 3) := by decide +kernel
theorem m_467 : (Cond.fieldLink RX11 276 "CliffJudges$Sounds" "leftCount" "I") ∈ gT := gm 467 (by decide +kernel) (by decide +kernel)
theorem dX11_stood_31 : decode cX11_stood 31 = .ok (.aload_n 0, 1) := by decide +kernel
theorem dX11_stood_32 : decode cX11_stood 32 = .ok (.getfield 45, 3) := by decide +kernel
theorem dX11_stood_35 : decode cX11_stood 35 = .ok (.invokevirtual 279, 3) := by decide +kernel
theorem m_1363 : (Cond.methodLink RX11 279 yX8_firstLeft) ∈ gT := gm 1363 (by decide +kernel) (by decide +kernel)
theorem m_1364 : (Cond.instanceMethod yX8_firstLeft) ∈ gT := gm 1364 (by decide +kernel) (by decide +kernel)
theorem m_1365 : (Cond.selects RX8 yX8_firstLeft yX8_firstLeft) ∈ gT := gm 1365 (by decide +kernel) (by decide +kernel)
theorem m_1366 : (Cond.code yX8_firstLeft cX8_firstLeft 1 (some .int)) ∈ gT := gm 1366 (by decide +kernel) (by decide +kernel)
theorem k_X11_279 : xV RX11 RX8 279 yX8_firstLeft cX8_firstLeft 1 (some .int) 0 := ⟨⟨m_1363, m_1364, m_1365, m_140, m_1366⟩, rfl, by decide, by decide, by decide +kernel⟩
theorem dX11_stood_38 : decode cX11_stood 38 = .ok (.aload_n 0, 1) := by decide +kernel
theorem dX11_stood_39 : decode cX11_stood 39 = .ok (.getfield 45, 3) := by decide +kernel
theorem dX11_stood_42 : decode cX11_stood 42 = .ok (.invokevirtual 283, 3) := by decide +kernel
theorem m_1367 : (Cond.methodLink RX11 283 yX8_lastLeft) ∈ gT := gm 1367 (by decide +kernel) (by decide +kernel)
theorem m_1368 : (Cond.instanceMethod yX8_lastLeft) ∈ gT := gm 1368 (by decide +kernel) (by decide +kernel)
theorem m_1369 : (Cond.selects RX8 yX8_lastLeft yX8_lastLeft) ∈ gT := gm 1369 (by decide +kernel) (by decide +kernel)
theorem m_1370 : (Cond.code yX8_lastLeft cX8_lastLeft 1 (some .int)) ∈ gT := gm 1370 (by decide +kernel) (by decide +kernel)
theorem k_X11_283 : xV RX11 RX8 283 yX8_lastLeft cX8_lastLeft 1 (some .int) 0 := ⟨⟨m_1367, m_1368, m_1369, m_140, m_1370⟩, rfl, by decide, by decide, by decide +kernel⟩
theorem dX11_stood_45 : decode cX11_stood 45 = .ok (.invokestatic 228, 3) := by decide +kernel
theorem dX11_stood_48 : decode cX11_stood 48 = .ok (.ireturn, 1) := by decide +kernel
set_option maxHeartbeats 400000 in
set_option maxRecDepth 100000 in
theorem t_stood (l : Launch) (D : va_G) (cy : Nat → ClassId) (a0 : Nat) (w0 : Value) (w1 : Value) (w3 : Value) (w4 : Value) (w6 : Value) (w7 : Value) (w8 : Value) (w9 : Value) (w10 : Value) (w11 : Value) (w12 : Value) (w13 : Value) (hh : Nat) (so0 : Nat) (so6 : Nat) (uv0 : Value) (uv1 : Value) (uv2 : Value) (uv3 : Value) (uv4 : Value) (uv6 : Value) (uv7 : Value) (uv9 : Value) (uv11 : Value) (uv12 : Value) (lc : Int32) (fl : Nat → Int32) (ka : Int32) (kb : Int32)  : XMi l D (tyL cy) E0 yX11_stood cX11_stood 3 (some .int) (rmk 3 0 0) [.ref a0, .int ka, .int kb] [(a0, .inr (11, [w0, w1, .ref hh, w3, w4, .ref so0, w6, w7, w8, w9, w10, w11, w12, w13])), (so0, .inr (8, [uv0, uv1, uv2, uv3, uv4, .ref so6, uv6, uv7, .int 0, uv9, .int lc, uv11, uv12])), (so6, .inl (cy 1, 100, .inl (fl)))] (fun (r : Int32) (_ : Unit) => r = if ka.toInt = 0 then 100 else if ka.toInt = 1 then 0 else if ka.toInt = 2 then 99 else -1) (fun (_ : Unit) => []) := by
  refine XMi.start (by decide) (Nat.le_of_ble_eq_true rfl) ?_
  intro p e s m below meth c args A ls Q hat hQ
  obtain ⟨hx, hb, hr, hml, hown, hg, hlocks, hin, hK, hA, hP, hD, hS, hE, hl⟩ := hat
  have hown : s.vm.findClass RX11 = some m.cls := hown
  have hl : lv_has ls 3 [(0, .ref a0), (1, .int ka), (2, .int kb)] := hl
  refine lv_iload_n hx hb dX11_stood_0 rfl (lv_at hl 1 rfl) ?_
  refine lv_if_lt (tgt := 9) hx hb dX11_stood_1 (by decide) (fun c_1 => ?_) (fun c_1 => ?_)
  · refine lv_iconst (v := -1) hx hb dX11_stood_9 (by decide) ?_
    have qc_1 : (ka : Int32).toInt < (0 : Int32).toInt := (fa_lt _ _).mp c_1
    have z0 : (0 : Int32).toInt = 0 := by decide
    have z2 : (2 : Int32).toInt = 2 := by decide
    exact x_iret hQ hx hb hr hlocks hK hP hD hS dX11_stood_10 () (by rw [if_neg (by omega), if_neg (by omega), if_neg (by omega)]) [] (by decide) rfl (Nat.le_of_ble_eq_true rfl) (Nat.le_of_ble_eq_true rfl)
  · refine lv_iload_n hx hb dX11_stood_4 rfl (lv_at hl 1 rfl) ?_
    refine lv_iconst (v := 2) hx hb dX11_stood_5 (by decide) ?_
    refine lv_icmp_le (tgt := 11) hx hb dX11_stood_6 (by decide) (fun c_6 => ?_) (fun c_6 => ?_)
    · refine lv_aload_n hx hb dX11_stood_11 rfl (lv_at hl 0 rfl) ?_
      refine va_get (D := D) (ci := 11) (v := .ref so0) (C := RX11) (T := TX11) (N := 14) hx hb hg i_X11 hown hK hP 0 rfl rfl 5 (by decide) (hg _ m_663) (fun _ h9 => h9) rfl dX11_stood_12 ?_
      refine lv_aload_n hx hb dX11_stood_15 rfl (lv_at hl 0 rfl) ?_
      refine va_get (D := D) (ci := 11) (v := .ref hh) (C := RX11) (T := TX11) (N := 14) hx hb hg i_X11 hown hK hP 0 rfl rfl 2 (by decide) (hg _ m_660) (fun _ h9 => h9) rfl dX11_stood_16 ?_
      refine lv_iload_n hx hb dX11_stood_19 rfl (lv_at hl 2 rfl) ?_
      refine x_callVv (q := (RX8, TX8, 13)) (ci := 8) (q0 := 0) (wr := [(a0, .inr (11, [w0, w1, .ref hh, w3, w4, .ref so0, w6, w7, w8, w9, w10, w11, w12, w13]))]) (rest := []) ⟨hx, hb, hml, hown, hg, hl.1⟩ k_X11_272 (c_findLeft l D cy so0 so6 uv0 uv1 uv2 uv3 uv4 uv6 uv7 uv9 uv11 uv12 lc fl hh kb) E0_blind hK hP hD hS hA [1, 2] [0] ⟨rfl, rfl, by decide, by decide, by decide⟩ rfl rfl (fun _ _ _ => trivial) dX11_stood_20 rfl rfl (Nat.le_of_ble_eq_true rfl) ⟨Nat.le_of_ble_eq_true rfl, Nat.le_of_ble_eq_true rfl⟩ ⟨Nat.le_of_ble_eq_true rfl, Nat.le_of_ble_eq_true rfl⟩ (fun u1 H locs hw1 hP hD hS => ?_)
      obtain ⟨fl2_2, rfl⟩ : ∃ z, z = u1 := ⟨_, rfl⟩
      have hP : va_P D vwCl [(a0, .inr (11, [w0, w1, .ref hh, w3, w4, .ref so0, w6, w7, w8, w9, w10, w11, w12, w13])), (so0, .inr (8, [uv0, uv1, uv2, uv3, uv4, .ref so6, uv6, uv7, .int 0, uv9, .int 100, uv11, uv12])), (so6, .inl (cy 1, 100, .inl (fl2_2)))] H := hP
      have hD : va_D A [(a0, .inr (11, [w0, w1, .ref hh, w3, w4, .ref so0, w6, w7, w8, w9, w10, w11, w12, w13])), (so0, .inr (8, [uv0, uv1, uv2, uv3, uv4, .ref so6, uv6, uv7, .int 0, uv9, .int 100, uv11, uv12])), (so6, .inl (cy 1, 100, .inl (fl2_2)))] := hD
      refine W.widen (k := 0) (n := 0) (Nat.le_of_ble_eq_true rfl) (Nat.le_of_ble_eq_true rfl) ?_
      have hw1 : ∀ j : Nat, j < 100 → fl2_2 j = nI j := hw1
      refine lv_iload_n hx hb dX11_stood_23 rfl (lv_at hl 1 rfl) ?_
      refine lv_aload_n hx hb dX11_stood_24 rfl (lv_at hl 0 rfl) ?_
      refine va_get (D := D) (ci := 11) (v := .ref so0) (C := RX11) (T := TX11) (N := 14) hx hb hg i_X11 hown hK hP 0 rfl rfl 5 (by decide) (hg _ m_663) (fun _ h9 => h9) rfl dX11_stood_25 ?_
      refine va_get (D := D) (ci := 8) (v := .int 100) (C := RX8) (T := TX8) (N := 13) hx hb hg i_X8 hown hK hP 1 rfl rfl 10 (by decide) (hg _ m_467) (fun _ h9 => h9) rfl dX11_stood_28 ?_
      refine lv_aload_n hx hb dX11_stood_31 rfl (lv_at hl 0 rfl) ?_
      refine va_get (D := D) (ci := 11) (v := .ref so0) (C := RX11) (T := TX11) (N := 14) hx hb hg i_X11 hown hK hP 0 rfl rfl 5 (by decide) (hg _ m_663) (fun _ h9 => h9) rfl dX11_stood_32 ?_
      refine x_callVi (q := (RX8, TX8, 13)) (ci := 8) (q0 := 0) (wr := [(a0, .inr (11, [w0, w1, .ref hh, w3, w4, .ref so0, w6, w7, w8, w9, w10, w11, w12, w13]))]) (rest := [.int 100, .int ka]) ⟨hx, hb, hml, hown, hg, hl.1⟩ k_X11_279 (c_firstLeft l D cy so0 so6 uv0 uv1 uv2 uv3 uv4 uv6 uv7 uv9 uv11 uv12 fl2_2) E0_blind hK hP hD hS hA [1, 2] [0] ⟨rfl, rfl, by decide, by decide, by decide⟩ rfl rfl (fun _ _ _ => trivial) dX11_stood_35 rfl rfl (Nat.le_of_ble_eq_true rfl) ⟨Nat.le_of_ble_eq_true rfl, Nat.le_of_ble_eq_true rfl⟩ ⟨Nat.le_of_ble_eq_true rfl, Nat.le_of_ble_eq_true rfl⟩ (fun r3 u3 H locs hw3 hP hD hS => ?_)
      have hP : va_P D vwCl [(a0, .inr (11, [w0, w1, .ref hh, w3, w4, .ref so0, w6, w7, w8, w9, w10, w11, w12, w13])), (so0, .inr (8, [uv0, uv1, uv2, uv3, uv4, .ref so6, uv6, uv7, .int 0, uv9, .int 100, uv11, uv12])), (so6, .inl (cy 1, 100, .inl (fl2_2)))] H := hP
      have hD : va_D A [(a0, .inr (11, [w0, w1, .ref hh, w3, w4, .ref so0, w6, w7, w8, w9, w10, w11, w12, w13])), (so0, .inr (8, [uv0, uv1, uv2, uv3, uv4, .ref so6, uv6, uv7, .int 0, uv9, .int 100, uv11, uv12])), (so6, .inl (cy 1, 100, .inl (fl2_2)))] := hD
      refine W.widen (k := 0) (n := 0) (Nat.le_of_ble_eq_true rfl) (Nat.le_of_ble_eq_true rfl) ?_
      have hw3 : r3 = fl2_2 0 := hw3
      refine lv_aload_n hx hb dX11_stood_38 rfl (lv_at hl 0 rfl) ?_
      refine va_get (D := D) (ci := 11) (v := .ref so0) (C := RX11) (T := TX11) (N := 14) hx hb hg i_X11 hown hK hP 0 rfl rfl 5 (by decide) (hg _ m_663) (fun _ h9 => h9) rfl dX11_stood_39 ?_
      refine x_callVi (q := (RX8, TX8, 13)) (ci := 8) (q0 := 0) (wr := [(a0, .inr (11, [w0, w1, .ref hh, w3, w4, .ref so0, w6, w7, w8, w9, w10, w11, w12, w13]))]) (rest := [.int r3, .int 100, .int ka]) ⟨hx, hb, hml, hown, hg, hl.1⟩ k_X11_283 (c_lastLeft l D cy so0 so6 uv0 uv1 uv2 uv3 uv4 uv6 uv7 uv9 uv11 uv12 fl2_2) E0_blind hK hP hD hS hA [1, 2] [0] ⟨rfl, rfl, by decide, by decide, by decide⟩ rfl rfl (fun _ _ _ => trivial) dX11_stood_42 rfl rfl (Nat.le_of_ble_eq_true rfl) ⟨Nat.le_of_ble_eq_true rfl, Nat.le_of_ble_eq_true rfl⟩ ⟨Nat.le_of_ble_eq_true rfl, Nat.le_of_ble_eq_true rfl⟩ (fun r4 u4 H locs hw4 hP hD hS => ?_)
      have hP : va_P D vwCl [(a0, .inr (11, [w0, w1, .ref hh, w3, w4, .ref so0, w6, w7, w8, w9, w10, w11, w12, w13])), (so0, .inr (8, [uv0, uv1, uv2, uv3, uv4, .ref so6, uv6, uv7, .int 0, uv9, .int 100, uv11, uv12])), (so6, .inl (cy 1, 100, .inl (fl2_2)))] H := hP
      have hD : va_D A [(a0, .inr (11, [w0, w1, .ref hh, w3, w4, .ref so0, w6, w7, w8, w9, w10, w11, w12, w13])), (so0, .inr (8, [uv0, uv1, uv2, uv3, uv4, .ref so6, uv6, uv7, .int 0, uv9, .int 100, uv11, uv12])), (so6, .inl (cy 1, 100, .inl (fl2_2)))] := hD
      refine W.widen (k := 0) (n := 0) (Nat.le_of_ble_eq_true rfl) (Nat.le_of_ble_eq_true rfl) ?_
      have hw4 : r4 = fl2_2 99 := hw4
      refine x_callSi (wr := [(a0, .inr (11, [w0, w1, .ref hh, w3, w4, .ref so0, w6, w7, w8, w9, w10, w11, w12, w13])), (so0, .inr (8, [uv0, uv1, uv2, uv3, uv4, .ref so6, uv6, uv7, .int 0, uv9, .int 100, uv11, uv12])), (so6, .inl (cy 1, 100, .inl (fl2_2)))]) (rest := []) ⟨hx, hb, hml, hown, hg, hl.1⟩ k_X11_228 (c_oneOf l D cy ka 100 r3 r4) E0_blind hK hP hD hS hA [] [0, 1, 2] ⟨rfl, rfl, by decide, by decide, by decide⟩ (fun _ _ _ => trivial) dX11_stood_45 rfl rfl (Nat.le_of_ble_eq_true rfl) ⟨Nat.le_of_ble_eq_true rfl, Nat.le_of_ble_eq_true rfl⟩ ⟨Nat.le_of_ble_eq_true rfl, Nat.le_of_ble_eq_true rfl⟩ (fun r5 u5 H locs hw5 hP hD hS => ?_)
      have hP : va_P D vwCl [(a0, .inr (11, [w0, w1, .ref hh, w3, w4, .ref so0, w6, w7, w8, w9, w10, w11, w12, w13])), (so0, .inr (8, [uv0, uv1, uv2, uv3, uv4, .ref so6, uv6, uv7, .int 0, uv9, .int 100, uv11, uv12])), (so6, .inl (cy 1, 100, .inl (fl2_2)))] H := hP
      have hD : va_D A [(a0, .inr (11, [w0, w1, .ref hh, w3, w4, .ref so0, w6, w7, w8, w9, w10, w11, w12, w13])), (so0, .inr (8, [uv0, uv1, uv2, uv3, uv4, .ref so6, uv6, uv7, .int 0, uv9, .int 100, uv11, uv12])), (so6, .inl (cy 1, 100, .inl (fl2_2)))] := hD
      refine W.widen (k := 0) (n := 0) (Nat.le_of_ble_eq_true rfl) (Nat.le_of_ble_eq_true rfl) ?_
      have hw5 : r5 = if ka.toInt = 0 then 100 else if ka.toInt = 1 then r3 else r4 := hw5
      have qc_1 : ¬ (ka : Int32).toInt < (0 : Int32).toInt := fun h => c_1 ((fa_lt _ _).mpr h)
      have qc_6 : (ka : Int32).toInt ≤ (2 : Int32).toInt := (fa_le _ _).mp c_6
      have z0 : (0 : Int32).toInt = 0 := by decide
      have z2 : (2 : Int32).toInt = 2 := by decide
      have hf0 : r3 = 0 := by rw [hw3, hw1 0 (by omega)]; rfl
      have hf9 : r4 = 99 := by rw [hw4, hw1 99 (by omega)]; rfl
      exact x_iret hQ hx hb hr hlocks hK hP hD hS dX11_stood_48 () (by rw [hw5, hf0, hf9]; by_cases h0 : ka.toInt = 0; rw [if_pos h0, if_pos h0]; by_cases h1 : ka.toInt = 1; rw [if_neg h0, if_pos h1, if_neg h0, if_pos h1]; rw [if_neg h0, if_neg h1, if_neg h0, if_neg h1, if_pos (by omega)]) [] (by decide) rfl (Nat.le_of_ble_eq_true rfl) (Nat.le_of_ble_eq_true rfl)
    · refine lv_iconst (v := -1) hx hb dX11_stood_9 (by decide) ?_
      have qc_1 : ¬ (ka : Int32).toInt < (0 : Int32).toInt := fun h => c_1 ((fa_lt _ _).mpr h)
      have qc_6 : ¬ (ka : Int32).toInt ≤ (2 : Int32).toInt := fun h => c_6 ((fa_le _ _).mpr h)
      have z0 : (0 : Int32).toInt = 0 := by decide
      have z2 : (2 : Int32).toInt = 2 := by decide
      exact x_iret hQ hx hb hr hlocks hK hP hD hS dX11_stood_10 () (by rw [if_neg (by omega), if_neg (by omega), if_neg (by omega)]) [] (by decide) rfl (Nat.le_of_ble_eq_true rfl) (Nat.le_of_ble_eq_true rfl)
