theorem upd_z (k : Nat) : upd (fun _ => (0 : Int32)) k 0 = fun _ => 0 := by
  funext j
  unfold upd
  split <;> rfl
theorem sw_split (x : Int32) (n : Nat) (hn : n < 2 ^ 31) : (x.toInt < 0 ∨ (n : Int) ≤ x.toInt) ∨ ∃ j : Nat, j < n ∧ x = nI j := by
  by_cases h : x < 0
  · exact Or.inl (Or.inl ((fa_lt _ _).mp h))
  · obtain ⟨j, hj, e⟩ := nI_of h
    by_cases hjn : j < n
    · exact Or.inr ⟨j, hjn, e⟩
    · refine Or.inl (Or.inr ?_)
      rw [e, nI_toInt hj]
      omega
theorem sh_zero (k : Int32) : (0 : Int32) >>> (k &&& 31) = 0 := by
  rw [fa_eq]
  have h := pk_shr 0 (k &&& 31) _ rfl
  rw [h]
  exact Int.zero_shiftRight _
theorem box_in {b : Int32} (h0 : ¬ b < 0) (h : ¬ (3 : Int32) ≤ b) : b = 0 ∨ b = 1 ∨ b = 2 := by
  obtain ⟨j, hj, e⟩ := nI_of h0
  have h2 : j < 3 := by
    rcases Nat.lt_or_ge j 3 with q | q
    · exact q
    · exact absurd (by rw [e]; exact nI_le q hj) h
  rcases (show j = 0 ∨ j = 1 ∨ j = 2 by omega) with rfl | rfl | rfl
  · exact Or.inl e
  · exact Or.inr (Or.inl e)
  · exact Or.inr (Or.inr e)
theorem dX11_end_0 : decode cX11_end 0 = .ok (.iload_n 1, 1) := by decide +kernel
theorem dX11_end_1 : decode cX11_end 1 = .ok (.ifCond .lt 14, 3) := by decide +kernel
theorem dX11_end_15 : decode cX11_end 15 = .ok (.iconst (-1), 1) := by decide +kernel
theorem dX11_end_16 : decode cX11_end 16 = .ok (.ireturn, 1) := by decide +kernel
theorem dX11_end_4 : decode cX11_end 4 = .ok (.iload_n 1, 1) := by decide +kernel
theorem dX11_end_5 : decode cX11_end 5 = .ok (.aload_n 0, 1) := by decide +kernel
theorem dX11_end_6 : decode cX11_end 6 = .ok (.getfield 10, 3) := by decide +kernel
theorem m_658 : (Cond.fieldLink RX11 10 "CliffJudges" "tape" "LCliffJudges$Tape;") ∈ gT := gm 658 (by decide +kernel) (by decide +kernel)
theorem dX11_end_9 : decode cX11_end 9 = .ok (.getfield 93, 3) := by decide +kernel
set_option maxRecDepth 20000 in
theorem i_X9 : ∀ w ∈ u_ws RX9 TX9 8, w ∈ gT := gin [228, 230, 232, 234, 236, 238, 240, 242] (by decide +kernel) (by decide +kernel)
theorem m_217 : (Cond.fieldLink RX11 93 "CliffJudges$Tape" "length" "I") ∈ gT := gm 217 (by decide +kernel) (by decide +kernel)
theorem dX11_end_12 : decode cX11_end 12 = .ok (.if_icmp .le 5, 3) := by decide +kernel
theorem dX11_end_17 : decode cX11_end 17 = .ok (.aload_n 0, 1) := by decide +kernel
theorem dX11_end_18 : decode cX11_end 18 = .ok (.getfield 10, 3) := by decide +kernel
theorem dX11_end_21 : decode cX11_end 21 = .ok (.iload_n 1, 1) := by decide +kernel
theorem dX11_end_22 : decode cX11_end 22 = .ok (.putfield 93, 3) := by decide +kernel
theorem dX11_end_25 : decode cX11_end 25 = .ok (.iload_n 1, 1) := by decide +kernel
theorem dX11_end_26 : decode cX11_end 26 = .ok (.ireturn, 1) := by decide +kernel
set_option maxHeartbeats 400000 in
set_option maxRecDepth 100000 in
theorem t_end (l : Launch) (D : va_G) (cy : Nat → ClassId) (a0 : Nat) (w1 : Value) (w2 : Value) (w3 : Value) (w4 : Value) (w5 : Value) (w6 : Value) (w7 : Value) (w8 : Value) (w9 : Value) (w10 : Value) (w11 : Value) (w12 : Value) (w13 : Value) (ta0 : Nat) (tv0 : Value) (tv1 : Value) (tv3 : Value) (tv4 : Value) (tv5 : Value) (tv6 : Value) (tv7 : Value) (ka : Int32)  : XMi l D (tyL cy) E0 yX11_end cX11_end 2 (some .int) (rmk 2 0 0) [.ref a0, .int ka] [(a0, .inr (11, [.ref ta0, w1, w2, w3, w4, w5, w6, w7, w8, w9, w10, w11, w12, w13])), (ta0, .inr (9, [tv0, tv1, .int 0, tv3, tv4, tv5, tv6, tv7]))] (fun (r : Int32) (_ : Unit) => r = if ka.toInt = 0 then 0 else -1) (fun (_ : Unit) => []) := by
  refine XMi.start (by decide) (Nat.le_of_ble_eq_true rfl) ?_
  intro p e s m below meth c args A ls Q hat hQ
  obtain ⟨hx, hb, hr, hml, hown, hg, hlocks, hin, hK, hA, hP, hD, hS, hE, hl⟩ := hat
  have hown : s.vm.findClass RX11 = some m.cls := hown
  have hl : lv_has ls 2 [(0, .ref a0), (1, .int ka)] := hl
  refine lv_iload_n hx hb dX11_end_0 rfl (lv_at hl 1 rfl) ?_
  refine lv_if_lt (tgt := 15) hx hb dX11_end_1 (by decide) (fun c_1 => ?_) (fun c_1 => ?_)
  · refine lv_iconst (v := -1) hx hb dX11_end_15 (by decide) ?_
    have qc_1 : (ka : Int32).toInt < (0 : Int32).toInt := (fa_lt _ _).mp c_1
    have z0 : (0 : Int32).toInt = 0 := by decide
    exact x_iret hQ hx hb hr hlocks hK hP hD hS dX11_end_16 () ((if_neg (by omega)).symm) [] (by decide) rfl (Nat.le_of_ble_eq_true rfl) (Nat.le_of_ble_eq_true rfl)
  · refine lv_iload_n hx hb dX11_end_4 rfl (lv_at hl 1 rfl) ?_
    refine lv_aload_n hx hb dX11_end_5 rfl (lv_at hl 0 rfl) ?_
    refine va_get (D := D) (ci := 11) (v := .ref ta0) (C := RX11) (T := TX11) (N := 14) hx hb hg i_X11 hown hK hP 0 rfl rfl 0 (by decide) (hg _ m_658) (fun _ h9 => h9) rfl dX11_end_6 ?_
    refine va_get (D := D) (ci := 9) (v := .int 0) (C := RX9) (T := TX9) (N := 8) hx hb hg i_X9 hown hK hP 1 rfl rfl 2 (by decide) (hg _ m_217) (fun _ h9 => h9) rfl dX11_end_9 ?_
    refine lv_icmp_le (tgt := 17) hx hb dX11_end_12 (by decide) (fun c_12 => ?_) (fun c_12 => ?_)
    · refine lv_aload_n hx hb dX11_end_17 rfl (lv_at hl 0 rfl) ?_
      refine va_get (D := D) (ci := 11) (v := .ref ta0) (C := RX11) (T := TX11) (N := 14) hx hb hg i_X11 hown hK hP 0 rfl rfl 0 (by decide) (hg _ m_658) (fun _ h9 => h9) rfl dX11_end_18 ?_
      refine lv_iload_n hx hb dX11_end_21 rfl (lv_at hl 1 rfl) ?_
      refine va_put (D := D) (ci := 9) (v := .int ka) (ty := .int) (C := RX9) (T := TX9) (N := 8) hx hb hg i_X9 tyX9 tyX9_ok nmX9 hown hK hP hD hS 1 rfl rfl 2 (by decide) (hg _ m_217) (fun _ h9 => h9) rfl (by decide +kernel) rfl rfl (Nat.le_of_ble_eq_true rfl) dX11_end_22 (fun H locs hP hD hS => ?_)
      have hP : va_P D vwCl [(a0, .inr (11, [.ref ta0, w1, w2, w3, w4, w5, w6, w7, w8, w9, w10, w11, w12, w13])), (ta0, .inr (9, [tv0, tv1, .int ka, tv3, tv4, tv5, tv6, tv7]))] H := hP
      have hD : va_D A [(a0, .inr (11, [.ref ta0, w1, w2, w3, w4, w5, w6, w7, w8, w9, w10, w11, w12, w13])), (ta0, .inr (9, [tv0, tv1, .int ka, tv3, tv4, tv5, tv6, tv7]))] := hD
      refine lv_iload_n hx hb dX11_end_25 rfl (lv_at hl 1 rfl) ?_
      have qc_1 : ¬ (ka : Int32).toInt < (0 : Int32).toInt := fun h => c_1 ((fa_lt _ _).mpr h)
      have qc_12 : (ka : Int32).toInt ≤ (0 : Int32).toInt := (fa_le _ _).mp c_12
      have z0 : (0 : Int32).toInt = 0 := by decide
      exact x_iret hQ hx hb hr hlocks hK hP hD hS dX11_end_26 () (by rw [if_pos (by omega)]; exact (fa_eq _ _).mpr (by omega)) [] (by decide) rfl (Nat.le_of_ble_eq_true rfl) (Nat.le_of_ble_eq_true rfl)
    · refine lv_iconst (v := -1) hx hb dX11_end_15 (by decide) ?_
      have qc_1 : ¬ (ka : Int32).toInt < (0 : Int32).toInt := fun h => c_1 ((fa_lt _ _).mpr h)
      have qc_12 : ¬ (ka : Int32).toInt ≤ (0 : Int32).toInt := fun h => c_12 ((fa_le _ _).mpr h)
      have z0 : (0 : Int32).toInt = 0 := by decide
      exact x_iret hQ hx hb hr hlocks hK hP hD hS dX11_end_16 () ((if_neg (by omega)).symm) [] (by decide) rfl (Nat.le_of_ble_eq_true rfl) (Nat.le_of_ble_eq_true rfl)
theorem dX11_fault_0 : decode cX11_fault 0 = .ok (.iload_n 1, 1) := by decide +kernel
theorem dX11_fault_1 : decode cX11_fault 1 = .ok (.lookupswitch 43 #[(0, 27), (1, 35)], 27) := by decide +kernel
theorem dX11_fault_28 : decode cX11_fault 28 = .ok (.aload_n 0, 1) := by decide +kernel
theorem dX11_fault_29 : decode cX11_fault 29 = .ok (.getfield 21, 3) := by decide +kernel
theorem m_659 : (Cond.fieldLink RX11 21 "CliffJudges" "teller" "LCliffJudges$Teller;") ∈ gT := gm 659 (by decide +kernel) (by decide +kernel)
theorem dX11_fault_32 : decode cX11_fault 32 = .ok (.getfield 114, 3) := by decide +kernel
set_option maxRecDepth 20000 in
theorem i_X10 : ∀ w ∈ u_ws RX10 TX10 10, w ∈ gT := gin [267, 269, 271, 273, 275, 277, 279, 281, 283, 285] (by decide +kernel) (by decide +kernel)
theorem m_264 : (Cond.fieldLink RX11 114 "CliffJudges$Teller" "fault" "I") ∈ gT := gm 264 (by decide +kernel) (by decide +kernel)
theorem dX11_fault_35 : decode cX11_fault 35 = .ok (.ireturn, 1) := by decide +kernel
theorem dX11_fault_36 : decode cX11_fault 36 = .ok (.aload_n 0, 1) := by decide +kernel
theorem dX11_fault_37 : decode cX11_fault 37 = .ok (.getfield 21, 3) := by decide +kernel
theorem dX11_fault_40 : decode cX11_fault 40 = .ok (.getfield 117, 3) := by decide +kernel
theorem m_266 : (Cond.fieldLink RX11 117 "CliffJudges$Teller" "place" "I") ∈ gT := gm 266 (by decide +kernel) (by decide +kernel)
theorem dX11_fault_43 : decode cX11_fault 43 = .ok (.ireturn, 1) := by decide +kernel
theorem dX11_fault_44 : decode cX11_fault 44 = .ok (.iconst (-1), 1) := by decide +kernel
theorem dX11_fault_45 : decode cX11_fault 45 = .ok (.ireturn, 1) := by decide +kernel
set_option maxHeartbeats 400000 in
set_option maxRecDepth 100000 in
theorem t_fault (l : Launch) (D : va_G) (cy : Nat → ClassId) (a0 : Nat) (w0 : Value) (w2 : Value) (w3 : Value) (w4 : Value) (w5 : Value) (w6 : Value) (w7 : Value) (w8 : Value) (w9 : Value) (w10 : Value) (w11 : Value) (w12 : Value) (w13 : Value) (te0 : Nat) (sv0 : Value) (sv1 : Value) (sv2 : Value) (sv3 : Value) (sv4 : Value) (sv5 : Value) (sv6 : Value) (sv7 : Value) (ka : Int32)  : XMi l D (tyL cy) E0 yX11_fault cX11_fault 2 (some .int) (rmk 2 0 0) [.ref a0, .int ka] [(a0, .inr (11, [w0, .ref te0, w2, w3, w4, w5, w6, w7, w8, w9, w10, w11, w12, w13])), (te0, .inr (10, [sv0, sv1, sv2, sv3, sv4, sv5, sv6, sv7, .int 0, .int (-1)]))] (fun (r : Int32) (_ : Unit) => r = if ka.toInt = 0 then 0 else -1) (fun (_ : Unit) => []) := by
  refine XMi.start (by decide) (Nat.le_of_ble_eq_true rfl) ?_
  intro p e s m below meth c args A ls Q hat hQ
  obtain ⟨hx, hb, hr, hml, hown, hg, hlocks, hin, hK, hA, hP, hD, hS, hE, hl⟩ := hat
  have hown : s.vm.findClass RX11 = some m.cls := hown
  have hl : lv_has ls 2 [(0, .ref a0), (1, .int ka)] := hl
  refine lv_iload_n hx hb dX11_fault_0 rfl (lv_at hl 1 rfl) ?_
  rcases (show ka = 0 ∨ ka = 1 ∨ (¬ ka = 0 ∧ ¬ ka = 1) from by by_cases h0 : ka = 0; exact Or.inl h0; by_cases h1 : ka = 1; exact Or.inr (Or.inl h1); exact Or.inr (Or.inr (⟨h0, h1⟩))) with rfl | rfl | hs
  · refine lv_lookup (off := 27) (tgt := 28) hx hb dX11_fault_1 (by decide) (by decide) (by decide) ?_
    refine lv_aload_n hx hb dX11_fault_28 rfl (lv_at hl 0 rfl) ?_
    refine va_get (D := D) (ci := 11) (v := .ref te0) (C := RX11) (T := TX11) (N := 14) hx hb hg i_X11 hown hK hP 0 rfl rfl 1 (by decide) (hg _ m_659) (fun _ h9 => h9) rfl dX11_fault_29 ?_
    refine va_get (D := D) (ci := 10) (v := .int 0) (C := RX10) (T := TX10) (N := 10) hx hb hg i_X10 hown hK hP 1 rfl rfl 8 (by decide) (hg _ m_264) (fun _ h9 => h9) rfl dX11_fault_32 ?_
    exact x_iret hQ hx hb hr hlocks hK hP hD hS dX11_fault_35 () (by decide) [] (by decide) rfl (Nat.le_of_ble_eq_true rfl) (Nat.le_of_ble_eq_true rfl)
  · refine lv_lookup (off := 35) (tgt := 36) hx hb dX11_fault_1 (by decide) (by decide) (by decide) ?_
    refine lv_aload_n hx hb dX11_fault_36 rfl (lv_at hl 0 rfl) ?_
    refine va_get (D := D) (ci := 11) (v := .ref te0) (C := RX11) (T := TX11) (N := 14) hx hb hg i_X11 hown hK hP 0 rfl rfl 1 (by decide) (hg _ m_659) (fun _ h9 => h9) rfl dX11_fault_37 ?_
    refine va_get (D := D) (ci := 10) (v := .int (-1)) (C := RX10) (T := TX10) (N := 10) hx hb hg i_X10 hown hK hP 1 rfl rfl 9 (by decide) (hg _ m_266) (fun _ h9 => h9) rfl dX11_fault_40 ?_
    exact x_iret hQ hx hb hr hlocks hK hP hD hS dX11_fault_43 () (by decide) [] (by decide) rfl (Nat.le_of_ble_eq_true rfl) (Nat.le_of_ble_eq_true rfl)
  · have hs0 : ¬ (0 : Int) = (ka : Int32).toInt := fun h => hs.1 ((fa_eq _ _).mpr h.symm)
    have hs1 : ¬ (1 : Int) = (ka : Int32).toInt := fun h => hs.2 ((fa_eq _ _).mpr h.symm)
    refine lv_lookup (off := 43) (tgt := 44) hx hb dX11_fault_1 (by decide) (by simp [Op.lookupswitch.offset, hs0, hs1]) (by decide) ?_
    refine lv_iconst (v := -1) hx hb dX11_fault_44 (by decide) ?_
    have hz : ¬ ka.toInt = 0 := fun h => hs0 h.symm
    exact x_iret hQ hx hb hr hlocks hK hP hD hS dX11_fault_45 () ((if_neg hz).symm) [] (by decide) rfl (Nat.le_of_ble_eq_true rfl) (Nat.le_of_ble_eq_true rfl)
theorem dX11_lies_0 : decode cX11_lies 0 = .ok (.iload_n 1, 1) := by decide +kernel
theorem dX11_lies_1 : decode cX11_lies 1 = .ok (.ifCond .lt 11, 3) := by decide +kernel
theorem dX11_lies_12 : decode cX11_lies 12 = .ok (.iconst (-1), 1) := by decide +kernel
theorem dX11_lies_13 : decode cX11_lies 13 = .ok (.goto 9, 3) := by decide +kernel
theorem dX11_lies_22 : decode cX11_lies 22 = .ok (.ireturn, 1) := by decide +kernel
theorem dX11_lies_4 : decode cX11_lies 4 = .ok (.iload_n 1, 1) := by decide +kernel
theorem dX11_lies_5 : decode cX11_lies 5 = .ok (.aload_n 0, 1) := by decide +kernel
theorem dX11_lies_6 : decode cX11_lies 6 = .ok (.getfield 89, 3) := by decide +kernel
theorem dX11_lies_9 : decode cX11_lies 9 = .ok (.if_icmp .lt 7, 3) := by decide +kernel
set_option maxHeartbeats 400000 in
set_option maxRecDepth 100000 in
theorem t_lies (l : Launch) (D : va_G) (cy : Nat → ClassId) (a0 : Nat) (w0 : Value) (w1 : Value) (w2 : Value) (w3 : Value) (w4 : Value) (w5 : Value) (w6 : Value) (w7 : Value) (w8 : Value) (w9 : Value) (w10 : Value) (w11 : Value) (w12 : Value) (ka : Int32)  : XMi l D (tyL cy) E0 yX11_lies cX11_lies 2 (some .int) (rmk 2 0 0) [.ref a0, .int ka] [(a0, .inr (11, [w0, w1, w2, w3, w4, w5, w6, w7, w8, w9, w10, w11, w12, .int 0]))] (fun (r : Int32) (_ : Unit) => r = -1) (fun (_ : Unit) => []) := by
  refine XMi.start (by decide) (Nat.le_of_ble_eq_true rfl) ?_
  intro p e s m below meth c args A ls Q hat hQ
  obtain ⟨hx, hb, hr, hml, hown, hg, hlocks, hin, hK, hA, hP, hD, hS, hE, hl⟩ := hat
  have hown : s.vm.findClass RX11 = some m.cls := hown
  have hl : lv_has ls 2 [(0, .ref a0), (1, .int ka)] := hl
  refine lv_iload_n hx hb dX11_lies_0 rfl (lv_at hl 1 rfl) ?_
  refine lv_if_lt (tgt := 12) hx hb dX11_lies_1 (by decide) (fun c_1 => ?_) (fun c_1 => ?_)
  · refine lv_iconst (v := -1) hx hb dX11_lies_12 (by decide) ?_
    refine lv_goto (tgt := 22) hx hb dX11_lies_13 (by decide) ?_
    exact x_iret hQ hx hb hr hlocks hK hP hD hS dX11_lies_22 () (rfl) [] (by decide) rfl (Nat.le_of_ble_eq_true rfl) (Nat.le_of_ble_eq_true rfl)
  · refine lv_iload_n hx hb dX11_lies_4 rfl (lv_at hl 1 rfl) ?_
    refine lv_aload_n hx hb dX11_lies_5 rfl (lv_at hl 0 rfl) ?_
    refine va_get (D := D) (ci := 11) (v := .int 0) (C := RX11) (T := TX11) (N := 14) hx hb hg i_X11 hown hK hP 0 rfl rfl 13 (by decide) (hg _ m_671) (fun _ h9 => h9) rfl dX11_lies_6 ?_
    refine lv_icmp_lt (tgt := 16) hx hb dX11_lies_9 (by decide) (fun h => absurd h c_1) (fun _ => ?_)
    refine lv_iconst (v := -1) hx hb dX11_lies_12 (by decide) ?_
    refine lv_goto (tgt := 22) hx hb dX11_lies_13 (by decide) ?_
    exact x_iret hQ hx hb hr hlocks hK hP hD hS dX11_lies_22 () (rfl) [] (by decide) rfl (Nat.le_of_ble_eq_true rfl) (Nat.le_of_ble_eq_true rfl)
theorem dX11_later_0 : decode cX11_later 0 = .ok (.iload_n 1, 1) := by decide +kernel
theorem dX11_later_1 : decode cX11_later 1 = .ok (.ifCond .lt 25, 3) := by decide +kernel
theorem dX11_later_26 : decode cX11_later 26 = .ok (.iconst (-1), 1) := by decide +kernel
theorem dX11_later_27 : decode cX11_later 27 = .ok (.ireturn, 1) := by decide +kernel
theorem dX11_later_4 : decode cX11_later 4 = .ok (.iload_n 1, 1) := by decide +kernel
theorem dX11_later_5 : decode cX11_later 5 = .ok (.sipush 1000, 3) := by decide +kernel
theorem dX11_later_8 : decode cX11_later 8 = .ok (.if_icmp .gt 18, 3) := by decide +kernel
theorem dX11_later_11 : decode cX11_later 11 = .ok (.aload_n 0, 1) := by decide +kernel
theorem dX11_later_12 : decode cX11_later 12 = .ok (.getfield 45, 3) := by decide +kernel
theorem m_663 : (Cond.fieldLink RX11 45 "CliffJudges" "sounds" "LCliffJudges$Sounds;") ∈ gT := gm 663 (by decide +kernel) (by decide +kernel)
theorem dX11_later_15 : decode cX11_later 15 = .ok (.getfield 268, 3) := by decide +kernel
set_option maxRecDepth 20000 in
theorem i_X8 : ∀ w ∈ u_ws RX8 TX8 13, w ∈ gT := gin [472, 474, 476, 478, 480, 482, 484, 486, 488, 490, 492, 494, 496] (by decide +kernel) (by decide +kernel)
theorem m_465 : (Cond.fieldLink RX11 268 "CliffJudges$Sounds" "time" "I") ∈ gT := gm 465 (by decide +kernel) (by decide +kernel)
theorem dX11_later_18 : decode cX11_later 18 = .ok (.iload_n 1, 1) := by decide +kernel
theorem dX11_later_19 : decode cX11_later 19 = .ok (.iadd, 1) := by decide +kernel
theorem dX11_later_20 : decode cX11_later 20 = .ok (.ldc_w 271, 3) := by decide +kernel
theorem m_1340 : (Cond.constant RX11 271 (100000)) ∈ gT := gm 1340 (by decide +kernel) (by decide +kernel)
theorem dX11_later_23 : decode cX11_later 23 = .ok (.if_icmp .le 5, 3) := by decide +kernel
theorem dX11_later_28 : decode cX11_later 28 = .ok (.aload_n 0, 1) := by decide +kernel
theorem dX11_later_29 : decode cX11_later 29 = .ok (.getfield 45, 3) := by decide +kernel
theorem dX11_later_32 : decode cX11_later 32 = .ok (.dup, 1) := by decide +kernel
theorem dX11_later_33 : decode cX11_later 33 = .ok (.getfield 268, 3) := by decide +kernel
theorem dX11_later_36 : decode cX11_later 36 = .ok (.iload_n 1, 1) := by decide +kernel
theorem dX11_later_37 : decode cX11_later 37 = .ok (.iadd, 1) := by decide +kernel
theorem dX11_later_38 : decode cX11_later 38 = .ok (.putfield 268, 3) := by decide +kernel
theorem dX11_later_41 : decode cX11_later 41 = .ok (.aload_n 0, 1) := by decide +kernel
theorem dX11_later_42 : decode cX11_later 42 = .ok (.getfield 45, 3) := by decide +kernel
theorem dX11_later_45 : decode cX11_later 45 = .ok (.getfield 268, 3) := by decide +kernel
theorem dX11_later_48 : decode cX11_later 48 = .ok (.ireturn, 1) := by decide +kernel
set_option maxHeartbeats 400000 in
set_option maxRecDepth 100000 in
theorem t_later (l : Launch) (D : va_G) (cy : Nat → ClassId) (a0 : Nat) (w0 : Value) (w1 : Value) (w2 : Value) (w3 : Value) (w4 : Value) (w6 : Value) (w7 : Value) (w8 : Value) (w9 : Value) (w10 : Value) (w11 : Value) (w12 : Value) (w13 : Value) (so0 : Nat) (uv0 : Value) (uv1 : Value) (uv2 : Value) (uv3 : Value) (uv4 : Value) (uv5 : Value) (uv6 : Value) (uv7 : Value) (uv8 : Value) (uv10 : Value) (uv11 : Value) (uv12 : Value) (ka : Int32)  : XMi l D (tyL cy) E0 yX11_later cX11_later 2 (some .int) (rmk 2 0 0) [.ref a0, .int ka] [(a0, .inr (11, [w0, w1, w2, w3, w4, .ref so0, w6, w7, w8, w9, w10, w11, w12, w13])), (so0, .inr (8, [uv0, uv1, uv2, uv3, uv4, uv5, uv6, uv7, uv8, .int 0, uv10, uv11, uv12]))] (fun (r : Int32) (_ : Unit) => r = if 0 ≤ ka.toInt ∧ ka.toInt ≤ 1000 then ka else -1) (fun (_ : Unit) => []) := by
  refine XMi.start (by decide) (Nat.le_of_ble_eq_true rfl) ?_
  intro p e s m below meth c args A ls Q hat hQ
  obtain ⟨hx, hb, hr, hml, hown, hg, hlocks, hin, hK, hA, hP, hD, hS, hE, hl⟩ := hat
  have hown : s.vm.findClass RX11 = some m.cls := hown
  have hl : lv_has ls 2 [(0, .ref a0), (1, .int ka)] := hl
  refine lv_iload_n hx hb dX11_later_0 rfl (lv_at hl 1 rfl) ?_
  refine lv_if_lt (tgt := 26) hx hb dX11_later_1 (by decide) (fun c_1 => ?_) (fun c_1 => ?_)
  · refine lv_iconst (v := -1) hx hb dX11_later_26 (by decide) ?_
    have qc_1 : (ka : Int32).toInt < (0 : Int32).toInt := (fa_lt _ _).mp c_1
    have z0 : (0 : Int32).toInt = 0 := by decide
    exact x_iret hQ hx hb hr hlocks hK hP hD hS dX11_later_27 () ((if_neg (by omega)).symm) [] (by decide) rfl (Nat.le_of_ble_eq_true rfl) (Nat.le_of_ble_eq_true rfl)
  · refine lv_iload_n hx hb dX11_later_4 rfl (lv_at hl 1 rfl) ?_
    refine lv_sipush (v := 1000) hx hb dX11_later_5 (by decide) ?_
    refine lv_icmp_gt (tgt := 26) hx hb dX11_later_8 (by decide) (fun c_8 => ?_) (fun c_8 => ?_)
    · refine lv_iconst (v := -1) hx hb dX11_later_26 (by decide) ?_
      have qc_1 : ¬ (ka : Int32).toInt < (0 : Int32).toInt := fun h => c_1 ((fa_lt _ _).mpr h)
      have qc_8 : (1000 : Int32).toInt < (ka : Int32).toInt := (fa_lt _ _).mp c_8
      have z0 : (0 : Int32).toInt = 0 := by decide
      have z1000 : (1000 : Int32).toInt = 1000 := by decide
      exact x_iret hQ hx hb hr hlocks hK hP hD hS dX11_later_27 () ((if_neg (by omega)).symm) [] (by decide) rfl (Nat.le_of_ble_eq_true rfl) (Nat.le_of_ble_eq_true rfl)
    · refine lv_aload_n hx hb dX11_later_11 rfl (lv_at hl 0 rfl) ?_
      refine va_get (D := D) (ci := 11) (v := .ref so0) (C := RX11) (T := TX11) (N := 14) hx hb hg i_X11 hown hK hP 0 rfl rfl 5 (by decide) (hg _ m_663) (fun _ h9 => h9) rfl dX11_later_12 ?_
      refine va_get (D := D) (ci := 8) (v := .int 0) (C := RX8) (T := TX8) (N := 13) hx hb hg i_X8 hown hK hP 1 rfl rfl 9 (by decide) (hg _ m_465) (fun _ h9 => h9) rfl dX11_later_15 ?_
      refine lv_iload_n hx hb dX11_later_18 rfl (lv_at hl 1 rfl) ?_
      refine lv_iadd hx hb dX11_later_19 ?_
      refine lv_topi (fun x_1 ex_1 => ?_)
      refine lv_ldcw (v := 100000) hx hb hown (hg _ m_1340) dX11_later_20 ?_
      have qc_1 : ¬ (ka : Int32).toInt < (0 : Int32).toInt := fun h => c_1 ((fa_lt _ _).mpr h)
      have qc_8 : ¬ (1000 : Int32).toInt < (ka : Int32).toInt := fun h => c_8 ((fa_lt _ _).mpr h)
      have z0 : (0 : Int32).toInt = 0 := by decide
      have z1000 : (1000 : Int32).toInt = 1000 := by decide
      have z100000 : (100000 : Int32).toInt = 100000 := by decide
      have hle : x_1 ≤ (100000 : Int32) := by rw [ex_1, Int32.zero_add, fa_le]; omega
      refine lv_icmp_le (tgt := 28) hx hb dX11_later_23 (by decide) (fun _ => ?_) (fun h => absurd hle h)
      refine lv_aload_n hx hb dX11_later_28 rfl (lv_at hl 0 rfl) ?_
      refine va_get (D := D) (ci := 11) (v := .ref so0) (C := RX11) (T := TX11) (N := 14) hx hb hg i_X11 hown hK hP 0 rfl rfl 5 (by decide) (hg _ m_663) (fun _ h9 => h9) rfl dX11_later_29 ?_
      refine lv_dup hx hb dX11_later_32 rfl ?_
      refine va_get (D := D) (ci := 8) (v := .int 0) (C := RX8) (T := TX8) (N := 13) hx hb hg i_X8 hown hK hP 1 rfl rfl 9 (by decide) (hg _ m_465) (fun _ h9 => h9) rfl dX11_later_33 ?_
      refine lv_iload_n hx hb dX11_later_36 rfl (lv_at hl 1 rfl) ?_
      refine lv_iadd hx hb dX11_later_37 ?_
      refine lv_topi (fun x_2 ex_2 => ?_)
      refine va_put (D := D) (ci := 8) (v := .int x_2) (ty := .int) (C := RX8) (T := TX8) (N := 13) hx hb hg i_X8 tyX8 tyX8_ok nmX8 hown hK hP hD hS 1 rfl rfl 9 (by decide) (hg _ m_465) (fun _ h9 => h9) rfl (by decide +kernel) rfl rfl (Nat.le_of_ble_eq_true rfl) dX11_later_38 (fun H locs hP hD hS => ?_)
      have hP : va_P D vwCl [(a0, .inr (11, [w0, w1, w2, w3, w4, .ref so0, w6, w7, w8, w9, w10, w11, w12, w13])), (so0, .inr (8, [uv0, uv1, uv2, uv3, uv4, uv5, uv6, uv7, uv8, .int x_2, uv10, uv11, uv12]))] H := hP
      have hD : va_D A [(a0, .inr (11, [w0, w1, w2, w3, w4, .ref so0, w6, w7, w8, w9, w10, w11, w12, w13])), (so0, .inr (8, [uv0, uv1, uv2, uv3, uv4, uv5, uv6, uv7, uv8, .int x_2, uv10, uv11, uv12]))] := hD
      refine lv_aload_n hx hb dX11_later_41 rfl (lv_at hl 0 rfl) ?_
      refine va_get (D := D) (ci := 11) (v := .ref so0) (C := RX11) (T := TX11) (N := 14) hx hb hg i_X11 hown hK hP 0 rfl rfl 5 (by decide) (hg _ m_663) (fun _ h9 => h9) rfl dX11_later_42 ?_
      refine va_get (D := D) (ci := 8) (v := .int x_2) (C := RX8) (T := TX8) (N := 13) hx hb hg i_X8 hown hK hP 1 rfl rfl 9 (by decide) (hg _ m_465) (fun _ h9 => h9) rfl dX11_later_45 ?_
      have qc_1 : ¬ (ka : Int32).toInt < (0 : Int32).toInt := fun h => c_1 ((fa_lt _ _).mpr h)
      have qc_8 : ¬ (1000 : Int32).toInt < (ka : Int32).toInt := fun h => c_8 ((fa_lt _ _).mpr h)
      have z0 : (0 : Int32).toInt = 0 := by decide
      have z1000 : (1000 : Int32).toInt = 1000 := by decide
      exact x_iret hQ hx hb hr hlocks hK hP hD hS dX11_later_48 () (by rw [if_pos (by omega), ex_2, Int32.zero_add]) [] (by decide) rfl (Nat.le_of_ble_eq_true rfl) (Nat.le_of_ble_eq_true rfl)
theorem dX11_ask_0 : decode cX11_ask 0 = .ok (.iload_n 1, 1) := by decide +kernel
theorem dX11_ask_1 : decode cX11_ask 1 = .ok (.ifCond .lt 20, 3) := by decide +kernel
theorem dX11_ask_21 : decode cX11_ask 21 = .ok (.iconst (-1), 1) := by decide +kernel
theorem dX11_ask_22 : decode cX11_ask 22 = .ok (.ireturn, 1) := by decide +kernel
theorem dX11_ask_4 : decode cX11_ask 4 = .ok (.iload_n 1, 1) := by decide +kernel
theorem dX11_ask_5 : decode cX11_ask 5 = .ok (.iconst 1, 1) := by decide +kernel
theorem dX11_ask_6 : decode cX11_ask 6 = .ok (.if_icmp .gt 15, 3) := by decide +kernel
theorem dX11_ask_9 : decode cX11_ask 9 = .ok (.aload_n 0, 1) := by decide +kernel
theorem dX11_ask_10 : decode cX11_ask 10 = .ok (.getfield 28, 3) := by decide +kernel
theorem dX11_ask_13 : decode cX11_ask 13 = .ok (.getfield 111, 3) := by decide +kernel
theorem m_335 : (Cond.fieldLink RX11 111 "CliffJudges$Hills" "counts" "[I") ∈ gT := gm 335 (by decide +kernel) (by decide +kernel)
theorem dX11_ask_16 : decode cX11_ask 16 = .ok (.iconst 1, 1) := by decide +kernel
theorem dX11_ask_17 : decode cX11_ask 17 = .ok (.iaload, 1) := by decide +kernel
theorem dX11_ask_18 : decode cX11_ask 18 = .ok (.ifCond .ne 5, 3) := by decide +kernel
set_option maxHeartbeats 400000 in
set_option maxRecDepth 100000 in
theorem t_ask (l : Launch) (D : va_G) (cy : Nat → ClassId) (a0 : Nat) (w0 : Value) (w1 : Value) (w3 : Value) (w4 : Value) (w5 : Value) (w6 : Value) (w7 : Value) (w8 : Value) (w9 : Value) (w10 : Value) (w11 : Value) (w12 : Value) (w13 : Value) (h0 : Nat) (h1 : Nat) (v1 : Value) (v2 : Value) (v3 : Value) (v4 : Value) (v5 : Value) (v6 : Value) (v7 : Value) (v8 : Value) (v9 : Value) (v10 : Value) (v11 : Value) (v12 : Value) (v13 : Value) (v14 : Value) (v15 : Value) (ka : Int32) (kb : Int32)  : XMi l D (tyL cy) E0 yX11_ask cX11_ask 3 (some .int) (rmk 2 0 0) [.ref a0, .int ka, .int kb] [(a0, .inr (11, [w0, w1, .ref h0, w3, w4, w5, w6, w7, w8, w9, w10, w11, w12, w13])), (h0, .inr (4, [.ref h1, v1, v2, v3, v4, v5, v6, v7, v8, v9, v10, v11, v12, v13, v14, v15])), (h1, .inl (cy 1, 4, .inl (fun _ => 0)))] (fun (r : Int32) (_ : Unit) => r = -1) (fun (_ : Unit) => []) := by
  refine XMi.start (by decide) (Nat.le_of_ble_eq_true rfl) ?_
  intro p e s m below meth c args A ls Q hat hQ
  obtain ⟨hx, hb, hr, hml, hown, hg, hlocks, hin, hK, hA, hP, hD, hS, hE, hl⟩ := hat
  have hown : s.vm.findClass RX11 = some m.cls := hown
  have hl : lv_has ls 3 [(0, .ref a0), (1, .int ka), (2, .int kb)] := hl
  refine lv_iload_n hx hb dX11_ask_0 rfl (lv_at hl 1 rfl) ?_
  refine lv_if_lt (tgt := 21) hx hb dX11_ask_1 (by decide) (fun c_1 => ?_) (fun c_1 => ?_)
  · refine lv_iconst (v := -1) hx hb dX11_ask_21 (by decide) ?_
    exact x_iret hQ hx hb hr hlocks hK hP hD hS dX11_ask_22 () (rfl) [] (by decide) rfl (Nat.le_of_ble_eq_true rfl) (Nat.le_of_ble_eq_true rfl)
  · refine lv_iload_n hx hb dX11_ask_4 rfl (lv_at hl 1 rfl) ?_
    refine lv_iconst (v := 1) hx hb dX11_ask_5 (by decide) ?_
    refine lv_icmp_gt (tgt := 21) hx hb dX11_ask_6 (by decide) (fun c_6 => ?_) (fun c_6 => ?_)
    · refine lv_iconst (v := -1) hx hb dX11_ask_21 (by decide) ?_
      exact x_iret hQ hx hb hr hlocks hK hP hD hS dX11_ask_22 () (rfl) [] (by decide) rfl (Nat.le_of_ble_eq_true rfl) (Nat.le_of_ble_eq_true rfl)
    · refine lv_aload_n hx hb dX11_ask_9 rfl (lv_at hl 0 rfl) ?_
      refine va_get (D := D) (ci := 11) (v := .ref h0) (C := RX11) (T := TX11) (N := 14) hx hb hg i_X11 hown hK hP 0 rfl rfl 2 (by decide) (hg _ m_660) (fun _ h9 => h9) rfl dX11_ask_10 ?_
      refine va_get (D := D) (ci := 4) (v := .ref h1) (C := RX4) (T := TX4) (N := 16) hx hb hg i_X4 hown hK hP 1 rfl rfl 0 (by decide) (hg _ m_335) (fun _ h9 => h9) rfl dX11_ask_13 ?_
      refine lv_iconst (v := 1) hx hb dX11_ask_16 (by decide) ?_
      refine va_iald hx hb hK hP 2 1 rfl rfl (by unfold vp_in; decide) dX11_ask_17 ?_
      refine lv_topi (fun y_1 hy_1 => ?_)
      obtain rfl : y_1 = 0 := hy_1.trans (by decide +kernel)
      refine lv_if_ne (tgt := 23) hx hb dX11_ask_18 (by decide) (fun h => absurd (by decide) h) (fun _ => ?_)
      refine lv_iconst (v := -1) hx hb dX11_ask_21 (by decide) ?_
      exact x_iret hQ hx hb hr hlocks hK hP hD hS dX11_ask_22 () (rfl) [] (by decide) rfl (Nat.le_of_ble_eq_true rfl) (Nat.le_of_ble_eq_true rfl)
theorem dX5_stepBack_0 : decode cX5_stepBack 0 = .ok (.aload_n 0, 1) := by decide +kernel
theorem dX5_stepBack_1 : decode cX5_stepBack 1 = .ok (.getfield 45, 3) := by decide +kernel
theorem m_429 : (Cond.fieldLink RX5 45 "CliffJudges$Moments" "undoable" "I") ∈ gT := gm 429 (by decide +kernel) (by decide +kernel)
theorem dX5_stepBack_4 : decode cX5_stepBack 4 = .ok (.ifCond .ne 5, 3) := by decide +kernel
theorem dX5_stepBack_7 : decode cX5_stepBack 7 = .ok (.iconst 0, 1) := by decide +kernel
theorem dX5_stepBack_8 : decode cX5_stepBack 8 = .ok (.ireturn, 1) := by decide +kernel
set_option maxHeartbeats 400000 in
set_option maxRecDepth 100000 in
theorem c_stepBack (l : Launch) (D : va_G) (cy : Nat → ClassId) (n0 : Nat) (n1 : Nat) (n2 : Nat) (n3 : Nat) (z3 : Value) (z4 : Value) (z6 : Value)  : XMi l D (tyL cy) E0 yX5_stepBack cX5_stepBack 1 (some .boolean) (rmk 0 0 0) [.ref n0] [(n0, .inr (5, [.ref n1, .ref n2, .ref n3, z3, z4, .int 0, z6]))] (fun (r : Int32) (_ : Unit) => r = 0) (fun (_ : Unit) => []) := by
  refine XMi.start (by decide) (Nat.le_of_ble_eq_true rfl) ?_
  intro p e s m below meth c args A ls Q hat hQ
  obtain ⟨hx, hb, hr, hml, hown, hg, hlocks, hin, hK, hA, hP, hD, hS, hE, hl⟩ := hat
  have hown : s.vm.findClass RX5 = some m.cls := hown
  have hl : lv_has ls 1 [(0, .ref n0)] := hl
  refine lv_aload_n hx hb dX5_stepBack_0 rfl (lv_at hl 0 rfl) ?_
  refine va_get (D := D) (ci := 5) (v := .int 0) (C := RX5) (T := TX5) (N := 7) hx hb hg i_X5 hown hK hP 0 rfl rfl 5 (by decide) (hg _ m_429) (fun _ h9 => h9) rfl dX5_stepBack_1 ?_
  refine lv_if_ne (tgt := 9) hx hb dX5_stepBack_4 (by decide) (fun h => absurd (by decide) h) (fun _ => ?_)
  refine lv_iconst (v := 0) hx hb dX5_stepBack_7 (by decide) ?_
  exact x_zret hQ hx hb hr hlocks hK hP hD hS rfl dX5_stepBack_8 () (rfl) [] (by decide) rfl (Nat.le_of_ble_eq_true rfl) (Nat.le_of_ble_eq_true rfl)
theorem dX11_undo_0 : decode cX11_undo 0 = .ok (.aload_n 0, 1) := by decide +kernel
theorem dX11_undo_1 : decode cX11_undo 1 = .ok (.getfield 38, 3) := by decide +kernel
theorem dX11_undo_4 : decode cX11_undo 4 = .ok (.invokevirtual 177, 3) := by decide +kernel
theorem m_1104 : (Cond.methodLink RX11 177 yX5_stepBack) ∈ gT := gm 1104 (by decide +kernel) (by decide +kernel)
theorem m_1105 : (Cond.instanceMethod yX5_stepBack) ∈ gT := gm 1105 (by decide +kernel) (by decide +kernel)
theorem m_1106 : (Cond.selects RX5 yX5_stepBack yX5_stepBack) ∈ gT := gm 1106 (by decide +kernel) (by decide +kernel)
theorem m_1107 : (Cond.code yX5_stepBack cX5_stepBack 1 (some .boolean)) ∈ gT := gm 1107 (by decide +kernel) (by decide +kernel)
theorem k_X11_177 : xV RX11 RX5 177 yX5_stepBack cX5_stepBack 1 (some .boolean) 0 := ⟨⟨m_1104, m_1105, m_1106, m_139, m_1107⟩, rfl, by decide, by decide, by decide +kernel⟩
theorem dX11_undo_7 : decode cX11_undo 7 = .ok (.ireturn, 1) := by decide +kernel
set_option maxHeartbeats 400000 in
set_option maxRecDepth 100000 in
theorem t_undo (l : Launch) (D : va_G) (cy : Nat → ClassId) (a0 : Nat) (w0 : Value) (w1 : Value) (w2 : Value) (w3 : Value) (w5 : Value) (w6 : Value) (w7 : Value) (w8 : Value) (w9 : Value) (w10 : Value) (w11 : Value) (w12 : Value) (w13 : Value) (n0 : Nat) (n1 : Nat) (n2 : Nat) (n3 : Nat) (z3 : Value) (z4 : Value) (z6 : Value)  : XMi l D (tyL cy) E0 yX11_undo cX11_undo 1 (some .boolean) (rmk 2 0 0) [.ref a0] [(a0, .inr (11, [w0, w1, w2, w3, .ref n0, w5, w6, w7, w8, w9, w10, w11, w12, w13])), (n0, .inr (5, [.ref n1, .ref n2, .ref n3, z3, z4, .int 0, z6]))] (fun (r : Int32) (_ : Unit) => r = 0) (fun (_ : Unit) => []) := by
  refine XMi.start (by decide) (Nat.le_of_ble_eq_true rfl) ?_
  intro p e s m below meth c args A ls Q hat hQ
  obtain ⟨hx, hb, hr, hml, hown, hg, hlocks, hin, hK, hA, hP, hD, hS, hE, hl⟩ := hat
  have hown : s.vm.findClass RX11 = some m.cls := hown
  have hl : lv_has ls 1 [(0, .ref a0)] := hl
  refine lv_aload_n hx hb dX11_undo_0 rfl (lv_at hl 0 rfl) ?_
  refine va_get (D := D) (ci := 11) (v := .ref n0) (C := RX11) (T := TX11) (N := 14) hx hb hg i_X11 hown hK hP 0 rfl rfl 4 (by decide) (hg _ m_662) (fun _ h9 => h9) rfl dX11_undo_1 ?_
  refine x_callVi (q := (RX5, TX5, 7)) (ci := 5) (q0 := 0) (wr := [(a0, .inr (11, [w0, w1, w2, w3, .ref n0, w5, w6, w7, w8, w9, w10, w11, w12, w13]))]) (rest := []) ⟨hx, hb, hml, hown, hg, hl.1⟩ k_X11_177 (c_stepBack l D cy n0 n1 n2 n3 z3 z4 z6) E0_blind hK hP hD hS hA [1] [0] ⟨rfl, rfl, by decide, by decide, by decide⟩ rfl rfl (fun _ _ _ => trivial) dX11_undo_4 rfl rfl (Nat.le_of_ble_eq_true rfl) ⟨Nat.le_of_ble_eq_true rfl, Nat.le_of_ble_eq_true rfl⟩ ⟨Nat.le_of_ble_eq_true rfl, Nat.le_of_ble_eq_true rfl⟩ (fun r1 u1 H locs hw1 hP hD hS => ?_)
  have hP : va_P D vwCl [(a0, .inr (11, [w0, w1, w2, w3, .ref n0, w5, w6, w7, w8, w9, w10, w11, w12, w13]))] H := hP
  have hD : va_D A [(a0, .inr (11, [w0, w1, w2, w3, .ref n0, w5, w6, w7, w8, w9, w10, w11, w12, w13]))] := hD
  refine W.widen (k := 0) (n := 0) (Nat.le_of_ble_eq_true rfl) (Nat.le_of_ble_eq_true rfl) ?_
  have hw1 : r1 = 0 := hw1
  subst hw1
  exact x_zret hQ hx hb hr hlocks hK hP hD hS rfl dX11_undo_7 () (rfl) [] (by decide) rfl (Nat.le_of_ble_eq_true rfl) (Nat.le_of_ble_eq_true rfl)
theorem dX5_stepOn_0 : decode cX5_stepOn 0 = .ok (.aload_n 0, 1) := by decide +kernel
theorem dX5_stepOn_1 : decode cX5_stepOn 1 = .ok (.getfield 48, 3) := by decide +kernel
theorem m_431 : (Cond.fieldLink RX5 48 "CliffJudges$Moments" "redoable" "I") ∈ gT := gm 431 (by decide +kernel) (by decide +kernel)
theorem dX5_stepOn_4 : decode cX5_stepOn 4 = .ok (.ifCond .ne 5, 3) := by decide +kernel
theorem dX5_stepOn_7 : decode cX5_stepOn 7 = .ok (.iconst 0, 1) := by decide +kernel
theorem dX5_stepOn_8 : decode cX5_stepOn 8 = .ok (.ireturn, 1) := by decide +kernel
set_option maxHeartbeats 400000 in
set_option maxRecDepth 100000 in
theorem c_stepOn (l : Launch) (D : va_G) (cy : Nat → ClassId) (n0 : Nat) (n1 : Nat) (n2 : Nat) (n3 : Nat) (z3 : Value) (z4 : Value) (z5 : Value)  : XMi l D (tyL cy) E0 yX5_stepOn cX5_stepOn 1 (some .boolean) (rmk 0 0 0) [.ref n0] [(n0, .inr (5, [.ref n1, .ref n2, .ref n3, z3, z4, z5, .int 0]))] (fun (r : Int32) (_ : Unit) => r = 0) (fun (_ : Unit) => []) := by
  refine XMi.start (by decide) (Nat.le_of_ble_eq_true rfl) ?_
  intro p e s m below meth c args A ls Q hat hQ
  obtain ⟨hx, hb, hr, hml, hown, hg, hlocks, hin, hK, hA, hP, hD, hS, hE, hl⟩ := hat
  have hown : s.vm.findClass RX5 = some m.cls := hown
  have hl : lv_has ls 1 [(0, .ref n0)] := hl
  refine lv_aload_n hx hb dX5_stepOn_0 rfl (lv_at hl 0 rfl) ?_
  refine va_get (D := D) (ci := 5) (v := .int 0) (C := RX5) (T := TX5) (N := 7) hx hb hg i_X5 hown hK hP 0 rfl rfl 6 (by decide) (hg _ m_431) (fun _ h9 => h9) rfl dX5_stepOn_1 ?_
  refine lv_if_ne (tgt := 9) hx hb dX5_stepOn_4 (by decide) (fun h => absurd (by decide) h) (fun _ => ?_)
  refine lv_iconst (v := 0) hx hb dX5_stepOn_7 (by decide) ?_
  exact x_zret hQ hx hb hr hlocks hK hP hD hS rfl dX5_stepOn_8 () (rfl) [] (by decide) rfl (Nat.le_of_ble_eq_true rfl) (Nat.le_of_ble_eq_true rfl)
theorem dX11_redo_0 : decode cX11_redo 0 = .ok (.aload_n 0, 1) := by decide +kernel
theorem dX11_redo_1 : decode cX11_redo 1 = .ok (.getfield 38, 3) := by decide +kernel
theorem dX11_redo_4 : decode cX11_redo 4 = .ok (.invokevirtual 181, 3) := by decide +kernel
theorem m_1116 : (Cond.methodLink RX11 181 yX5_stepOn) ∈ gT := gm 1116 (by decide +kernel) (by decide +kernel)
theorem m_1117 : (Cond.instanceMethod yX5_stepOn) ∈ gT := gm 1117 (by decide +kernel) (by decide +kernel)
theorem m_1118 : (Cond.selects RX5 yX5_stepOn yX5_stepOn) ∈ gT := gm 1118 (by decide +kernel) (by decide +kernel)
theorem m_1119 : (Cond.code yX5_stepOn cX5_stepOn 1 (some .boolean)) ∈ gT := gm 1119 (by decide +kernel) (by decide +kernel)
theorem k_X11_181 : xV RX11 RX5 181 yX5_stepOn cX5_stepOn 1 (some .boolean) 0 := ⟨⟨m_1116, m_1117, m_1118, m_139, m_1119⟩, rfl, by decide, by decide, by decide +kernel⟩
theorem dX11_redo_7 : decode cX11_redo 7 = .ok (.ireturn, 1) := by decide +kernel
set_option maxHeartbeats 400000 in
set_option maxRecDepth 100000 in
theorem t_redo (l : Launch) (D : va_G) (cy : Nat → ClassId) (a0 : Nat) (w0 : Value) (w1 : Value) (w2 : Value) (w3 : Value) (w5 : Value) (w6 : Value) (w7 : Value) (w8 : Value) (w9 : Value) (w10 : Value) (w11 : Value) (w12 : Value) (w13 : Value) (n0 : Nat) (n1 : Nat) (n2 : Nat) (n3 : Nat) (z3 : Value) (z4 : Value) (z5 : Value)  : XMi l D (tyL cy) E0 yX11_redo cX11_redo 1 (some .boolean) (rmk 2 0 0) [.ref a0] [(a0, .inr (11, [w0, w1, w2, w3, .ref n0, w5, w6, w7, w8, w9, w10, w11, w12, w13])), (n0, .inr (5, [.ref n1, .ref n2, .ref n3, z3, z4, z5, .int 0]))] (fun (r : Int32) (_ : Unit) => r = 0) (fun (_ : Unit) => []) := by
  refine XMi.start (by decide) (Nat.le_of_ble_eq_true rfl) ?_
  intro p e s m below meth c args A ls Q hat hQ
  obtain ⟨hx, hb, hr, hml, hown, hg, hlocks, hin, hK, hA, hP, hD, hS, hE, hl⟩ := hat
  have hown : s.vm.findClass RX11 = some m.cls := hown
  have hl : lv_has ls 1 [(0, .ref a0)] := hl
  refine lv_aload_n hx hb dX11_redo_0 rfl (lv_at hl 0 rfl) ?_
  refine va_get (D := D) (ci := 11) (v := .ref n0) (C := RX11) (T := TX11) (N := 14) hx hb hg i_X11 hown hK hP 0 rfl rfl 4 (by decide) (hg _ m_662) (fun _ h9 => h9) rfl dX11_redo_1 ?_
  refine x_callVi (q := (RX5, TX5, 7)) (ci := 5) (q0 := 0) (wr := [(a0, .inr (11, [w0, w1, w2, w3, .ref n0, w5, w6, w7, w8, w9, w10, w11, w12, w13]))]) (rest := []) ⟨hx, hb, hml, hown, hg, hl.1⟩ k_X11_181 (c_stepOn l D cy n0 n1 n2 n3 z3 z4 z5) E0_blind hK hP hD hS hA [1] [0] ⟨rfl, rfl, by decide, by decide, by decide⟩ rfl rfl (fun _ _ _ => trivial) dX11_redo_4 rfl rfl (Nat.le_of_ble_eq_true rfl) ⟨Nat.le_of_ble_eq_true rfl, Nat.le_of_ble_eq_true rfl⟩ ⟨Nat.le_of_ble_eq_true rfl, Nat.le_of_ble_eq_true rfl⟩ (fun r1 u1 H locs hw1 hP hD hS => ?_)
  have hP : va_P D vwCl [(a0, .inr (11, [w0, w1, w2, w3, .ref n0, w5, w6, w7, w8, w9, w10, w11, w12, w13]))] H := hP
  have hD : va_D A [(a0, .inr (11, [w0, w1, w2, w3, .ref n0, w5, w6, w7, w8, w9, w10, w11, w12, w13]))] := hD
  refine W.widen (k := 0) (n := 0) (Nat.le_of_ble_eq_true rfl) (Nat.le_of_ble_eq_true rfl) ?_
  have hw1 : r1 = 0 := hw1
  subst hw1
  exact x_zret hQ hx hb hr hlocks hK hP hD hS rfl dX11_redo_7 () (rfl) [] (by decide) rfl (Nat.le_of_ble_eq_true rfl) (Nat.le_of_ble_eq_true rfl)
theorem dX8_takeBack_0 : decode cX8_takeBack 0 = .ok (.iload_n 1, 1) := by decide +kernel
theorem dX8_takeBack_1 : decode cX8_takeBack 1 = .ok (.ifCond .lt 21, 3) := by decide +kernel
theorem dX8_takeBack_22 : decode cX8_takeBack 22 = .ok (.iconst 0, 1) := by decide +kernel
theorem dX8_takeBack_23 : decode cX8_takeBack 23 = .ok (.ireturn, 1) := by decide +kernel
theorem dX8_takeBack_4 : decode cX8_takeBack 4 = .ok (.iload_n 1, 1) := by decide +kernel
theorem dX8_takeBack_5 : decode cX8_takeBack 5 = .ok (.aload_n 0, 1) := by decide +kernel
theorem dX8_takeBack_6 : decode cX8_takeBack 6 = .ok (.getfield 38, 3) := by decide +kernel
theorem m_462 : (Cond.fieldLink RX8 38 "CliffJudges$Sounds" "count" "I") ∈ gT := gm 462 (by decide +kernel) (by decide +kernel)
theorem dX8_takeBack_9 : decode cX8_takeBack 9 = .ok (.if_icmp .ge 13, 3) := by decide +kernel
set_option maxHeartbeats 400000 in
set_option maxRecDepth 100000 in
theorem c_takeBack (l : Launch) (D : va_G) (cy : Nat → ClassId) (so0 : Nat) (uv0 : Value) (uv1 : Value) (uv2 : Value) (uv3 : Value) (uv4 : Value) (uv5 : Value) (uv6 : Value) (uv7 : Value) (uv9 : Value) (uv10 : Value) (uv11 : Value) (uv12 : Value) (ka : Int32)  : XMi l D (tyL cy) E0 yX8_takeBack cX8_takeBack 2 (some .boolean) (rmk 0 0 0) [.ref so0, .int ka] [(so0, .inr (8, [uv0, uv1, uv2, uv3, uv4, uv5, uv6, uv7, .int 0, uv9, uv10, uv11, uv12]))] (fun (r : Int32) (_ : Unit) => r = 0) (fun (_ : Unit) => []) := by
  refine XMi.start (by decide) (Nat.le_of_ble_eq_true rfl) ?_
  intro p e s m below meth c args A ls Q hat hQ
  obtain ⟨hx, hb, hr, hml, hown, hg, hlocks, hin, hK, hA, hP, hD, hS, hE, hl⟩ := hat
  have hown : s.vm.findClass RX8 = some m.cls := hown
  have hl : lv_has ls 2 [(0, .ref so0), (1, .int ka)] := hl
  refine lv_iload_n hx hb dX8_takeBack_0 rfl (lv_at hl 1 rfl) ?_
  refine lv_if_lt (tgt := 22) hx hb dX8_takeBack_1 (by decide) (fun c_1 => ?_) (fun c_1 => ?_)
  · refine lv_iconst (v := 0) hx hb dX8_takeBack_22 (by decide) ?_
    exact x_zret hQ hx hb hr hlocks hK hP hD hS rfl dX8_takeBack_23 () (rfl) [] (by decide) rfl (Nat.le_of_ble_eq_true rfl) (Nat.le_of_ble_eq_true rfl)
  · refine lv_iload_n hx hb dX8_takeBack_4 rfl (lv_at hl 1 rfl) ?_
    refine lv_aload_n hx hb dX8_takeBack_5 rfl (lv_at hl 0 rfl) ?_
    refine va_get (D := D) (ci := 8) (v := .int 0) (C := RX8) (T := TX8) (N := 13) hx hb hg i_X8 hown hK hP 0 rfl rfl 8 (by decide) (hg _ m_462) (fun _ h9 => h9) rfl dX8_takeBack_6 ?_
    refine lv_icmp_ge (tgt := 22) hx hb dX8_takeBack_9 (by decide) (fun _ => ?_) (fun h => absurd (nlt_le c_1) h)
    refine lv_iconst (v := 0) hx hb dX8_takeBack_22 (by decide) ?_
    exact x_zret hQ hx hb hr hlocks hK hP hD hS rfl dX8_takeBack_23 () (rfl) [] (by decide) rfl (Nat.le_of_ble_eq_true rfl) (Nat.le_of_ble_eq_true rfl)
theorem dX11_untell_0 : decode cX11_untell 0 = .ok (.aload_n 0, 1) := by decide +kernel
theorem dX11_untell_1 : decode cX11_untell 1 = .ok (.getfield 45, 3) := by decide +kernel
theorem dX11_untell_4 : decode cX11_untell 4 = .ok (.iload_n 1, 1) := by decide +kernel
theorem dX11_untell_5 : decode cX11_untell 5 = .ok (.invokevirtual 265, 3) := by decide +kernel
theorem m_1332 : (Cond.methodLink RX11 265 yX8_takeBack) ∈ gT := gm 1332 (by decide +kernel) (by decide +kernel)
theorem m_1333 : (Cond.instanceMethod yX8_takeBack) ∈ gT := gm 1333 (by decide +kernel) (by decide +kernel)
theorem m_1334 : (Cond.selects RX8 yX8_takeBack yX8_takeBack) ∈ gT := gm 1334 (by decide +kernel) (by decide +kernel)
theorem m_140 : (Cond.initialized RX8) ∈ gT := gm 140 (by decide +kernel) (by decide +kernel)
theorem m_1335 : (Cond.code yX8_takeBack cX8_takeBack 2 (some .boolean)) ∈ gT := gm 1335 (by decide +kernel) (by decide +kernel)
theorem k_X11_265 : xV RX11 RX8 265 yX8_takeBack cX8_takeBack 2 (some .boolean) 1 := ⟨⟨m_1332, m_1333, m_1334, m_140, m_1335⟩, rfl, by decide, by decide, by decide +kernel⟩
theorem dX11_untell_8 : decode cX11_untell 8 = .ok (.ireturn, 1) := by decide +kernel
set_option maxHeartbeats 400000 in
set_option maxRecDepth 100000 in
theorem t_untell (l : Launch) (D : va_G) (cy : Nat → ClassId) (a0 : Nat) (w0 : Value) (w1 : Value) (w2 : Value) (w3 : Value) (w4 : Value) (w6 : Value) (w7 : Value) (w8 : Value) (w9 : Value) (w10 : Value) (w11 : Value) (w12 : Value) (w13 : Value) (so0 : Nat) (uv0 : Value) (uv1 : Value) (uv2 : Value) (uv3 : Value) (uv4 : Value) (uv5 : Value) (uv6 : Value) (uv7 : Value) (uv9 : Value) (uv10 : Value) (uv11 : Value) (uv12 : Value) (ka : Int32)  : XMi l D (tyL cy) E0 yX11_untell cX11_untell 2 (some .boolean) (rmk 2 0 0) [.ref a0, .int ka] [(a0, .inr (11, [w0, w1, w2, w3, w4, .ref so0, w6, w7, w8, w9, w10, w11, w12, w13])), (so0, .inr (8, [uv0, uv1, uv2, uv3, uv4, uv5, uv6, uv7, .int 0, uv9, uv10, uv11, uv12]))] (fun (r : Int32) (_ : Unit) => r = 0) (fun (_ : Unit) => []) := by
  refine XMi.start (by decide) (Nat.le_of_ble_eq_true rfl) ?_
  intro p e s m below meth c args A ls Q hat hQ
  obtain ⟨hx, hb, hr, hml, hown, hg, hlocks, hin, hK, hA, hP, hD, hS, hE, hl⟩ := hat
  have hown : s.vm.findClass RX11 = some m.cls := hown
  have hl : lv_has ls 2 [(0, .ref a0), (1, .int ka)] := hl
  refine lv_aload_n hx hb dX11_untell_0 rfl (lv_at hl 0 rfl) ?_
  refine va_get (D := D) (ci := 11) (v := .ref so0) (C := RX11) (T := TX11) (N := 14) hx hb hg i_X11 hown hK hP 0 rfl rfl 5 (by decide) (hg _ m_663) (fun _ h9 => h9) rfl dX11_untell_1 ?_
  refine lv_iload_n hx hb dX11_untell_4 rfl (lv_at hl 1 rfl) ?_
  refine x_callVi (q := (RX8, TX8, 13)) (ci := 8) (q0 := 0) (wr := [(a0, .inr (11, [w0, w1, w2, w3, w4, .ref so0, w6, w7, w8, w9, w10, w11, w12, w13]))]) (rest := []) ⟨hx, hb, hml, hown, hg, hl.1⟩ k_X11_265 (c_takeBack l D cy so0 uv0 uv1 uv2 uv3 uv4 uv5 uv6 uv7 uv9 uv10 uv11 uv12 ka) E0_blind hK hP hD hS hA [1] [0] ⟨rfl, rfl, by decide, by decide, by decide⟩ rfl rfl (fun _ _ _ => trivial) dX11_untell_5 rfl rfl (Nat.le_of_ble_eq_true rfl) ⟨Nat.le_of_ble_eq_true rfl, Nat.le_of_ble_eq_true rfl⟩ ⟨Nat.le_of_ble_eq_true rfl, Nat.le_of_ble_eq_true rfl⟩ (fun r1 u1 H locs hw1 hP hD hS => ?_)
  have hP : va_P D vwCl [(a0, .inr (11, [w0, w1, w2, w3, w4, .ref so0, w6, w7, w8, w9, w10, w11, w12, w13]))] H := hP
  have hD : va_D A [(a0, .inr (11, [w0, w1, w2, w3, w4, .ref so0, w6, w7, w8, w9, w10, w11, w12, w13]))] := hD
  refine W.widen (k := 0) (n := 0) (Nat.le_of_ble_eq_true rfl) (Nat.le_of_ble_eq_true rfl) ?_
  have hw1 : r1 = 0 := hw1
  subst hw1
  exact x_zret hQ hx hb hr hlocks hK hP hD hS rfl dX11_untell_8 () (rfl) [] (by decide) rfl (Nat.le_of_ble_eq_true rfl) (Nat.le_of_ble_eq_true rfl)
theorem dX11_isBox_0 : decode cX11_isBox 0 = .ok (.iload_n 0, 1) := by decide +kernel
theorem dX11_isBox_1 : decode cX11_isBox 1 = .ok (.ifCond .lt 12, 3) := by decide +kernel
theorem dX11_isBox_13 : decode cX11_isBox 13 = .ok (.iconst 0, 1) := by decide +kernel
theorem dX11_isBox_14 : decode cX11_isBox 14 = .ok (.ireturn, 1) := by decide +kernel
theorem dX11_isBox_4 : decode cX11_isBox 4 = .ok (.iload_n 0, 1) := by decide +kernel
theorem dX11_isBox_5 : decode cX11_isBox 5 = .ok (.iconst 3, 1) := by decide +kernel
theorem dX11_isBox_6 : decode cX11_isBox 6 = .ok (.if_icmp .ge 7, 3) := by decide +kernel
theorem dX11_isBox_9 : decode cX11_isBox 9 = .ok (.iconst 1, 1) := by decide +kernel
theorem dX11_isBox_10 : decode cX11_isBox 10 = .ok (.goto 4, 3) := by decide +kernel
set_option maxHeartbeats 400000 in
set_option maxRecDepth 100000 in
theorem c_isBox (l : Launch) (D : va_G) (cy : Nat → ClassId) (bx : Int32)  : XMi l D (tyL cy) E0 yX11_isBox cX11_isBox 1 (some .boolean) (rmk 0 0 0) [.int bx] [] (fun (r : Int32) (_ : Unit) => (r = 0 ∧ ¬ (0 ≤ bx.toInt ∧ bx.toInt < 3)) ∨ (r = 1 ∧ (bx = 0 ∨ bx = 1 ∨ bx = 2))) (fun (_ : Unit) => []) := by
  refine XMi.start (by decide) (Nat.le_of_ble_eq_true rfl) ?_
  intro p e s m below meth c args A ls Q hat hQ
  obtain ⟨hx, hb, hr, hml, hown, hg, hlocks, hin, hK, hA, hP, hD, hS, hE, hl⟩ := hat
  have hown : s.vm.findClass RX11 = some m.cls := hown
  have hl : lv_has ls 1 [(0, .int bx)] := hl
  refine lv_iload_n hx hb dX11_isBox_0 rfl (lv_at hl 0 rfl) ?_
  refine lv_if_lt (tgt := 13) hx hb dX11_isBox_1 (by decide) (fun c_1 => ?_) (fun c_1 => ?_)
  · refine lv_iconst (v := 0) hx hb dX11_isBox_13 (by decide) ?_
    have qc_1 : (bx : Int32).toInt < (0 : Int32).toInt := (fa_lt _ _).mp c_1
    have z0 : (0 : Int32).toInt = 0 := by decide
    have z3 : (3 : Int32).toInt = 3 := by decide
    exact x_zret hQ hx hb hr hlocks hK hP hD hS rfl dX11_isBox_14 () (Or.inl ⟨rfl, by omega⟩) [] (by decide) rfl (Nat.le_of_ble_eq_true rfl) (Nat.le_of_ble_eq_true rfl)
  · refine lv_iload_n hx hb dX11_isBox_4 rfl (lv_at hl 0 rfl) ?_
    refine lv_iconst (v := 3) hx hb dX11_isBox_5 (by decide) ?_
    refine lv_icmp_ge (tgt := 13) hx hb dX11_isBox_6 (by decide) (fun c_6 => ?_) (fun c_6 => ?_)
    · refine lv_iconst (v := 0) hx hb dX11_isBox_13 (by decide) ?_
      have qc_1 : ¬ (bx : Int32).toInt < (0 : Int32).toInt := fun h => c_1 ((fa_lt _ _).mpr h)
      have qc_6 : (3 : Int32).toInt ≤ (bx : Int32).toInt := (fa_le _ _).mp c_6
      have z0 : (0 : Int32).toInt = 0 := by decide
      have z3 : (3 : Int32).toInt = 3 := by decide
      exact x_zret hQ hx hb hr hlocks hK hP hD hS rfl dX11_isBox_14 () (Or.inl ⟨rfl, by omega⟩) [] (by decide) rfl (Nat.le_of_ble_eq_true rfl) (Nat.le_of_ble_eq_true rfl)
    · refine lv_iconst (v := 1) hx hb dX11_isBox_9 (by decide) ?_
      refine lv_goto (tgt := 14) hx hb dX11_isBox_10 (by decide) ?_
      exact x_zret hQ hx hb hr hlocks hK hP hD hS rfl dX11_isBox_14 () (Or.inr ⟨rfl, box_in c_1 c_6⟩) [] (by decide) rfl (Nat.le_of_ble_eq_true rfl) (Nat.le_of_ble_eq_true rfl)
theorem dX5_keepIn_0 : decode cX5_keepIn 0 = .ok (.aload_n 0, 1) := by decide +kernel
theorem dX5_keepIn_1 : decode cX5_keepIn 1 = .ok (.getfield 11, 3) := by decide +kernel
theorem dX5_keepIn_4 : decode cX5_keepIn 4 = .ok (.iconst 0, 1) := by decide +kernel
theorem dX5_keepIn_5 : decode cX5_keepIn 5 = .ok (.aload_n 0, 1) := by decide +kernel
theorem dX5_keepIn_6 : decode cX5_keepIn 6 = .ok (.getfield 18, 3) := by decide +kernel
theorem m_426 : (Cond.fieldLink RX5 18 "CliffJudges$Moments" "boxes" "[I") ∈ gT := gm 426 (by decide +kernel) (by decide +kernel)
theorem dX5_keepIn_9 : decode cX5_keepIn 9 = .ok (.iload_n 1, 1) := by decide +kernel
theorem dX5_keepIn_10 : decode cX5_keepIn 10 = .ok (.bipush 41, 2) := by decide +kernel
theorem dX5_keepIn_12 : decode cX5_keepIn 12 = .ok (.imul, 1) := by decide +kernel
theorem dX5_keepIn_13 : decode cX5_keepIn 13 = .ok (.bipush 41, 2) := by decide +kernel
theorem dX5_keepIn_15 : decode cX5_keepIn 15 = .ok (.invokestatic 51, 3) := by decide +kernel
theorem m_934 : (Cond.methodLink RX5 51 ⟨"java/lang/System", "arraycopy", "(Ljava/lang/Object;ILjava/lang/Object;II)V"⟩) ∈ gT := gm 934 (by decide +kernel) (by decide +kernel)
theorem m_936 : (Cond.native ⟨"java/lang/System", "arraycopy", "(Ljava/lang/Object;ILjava/lang/Object;II)V"⟩) ∈ gT := gm 936 (by decide +kernel) (by decide +kernel)
theorem m_935 : (Cond.static ⟨"java/lang/System", "arraycopy", "(Ljava/lang/Object;ILjava/lang/Object;II)V"⟩) ∈ gT := gm 935 (by decide +kernel) (by decide +kernel)
theorem m_149 : (Cond.initialized RJ10) ∈ gT := gm 149 (by decide +kernel) (by decide +kernel)
theorem dX5_keepIn_18 : decode cX5_keepIn 18 = .ok (.aload_n 0, 1) := by decide +kernel
theorem dX5_keepIn_19 : decode cX5_keepIn 19 = .ok (.dup, 1) := by decide +kernel
theorem dX5_keepIn_20 : decode cX5_keepIn 20 = .ok (.getfield 36, 3) := by decide +kernel
theorem m_427 : (Cond.fieldLink RX5 36 "CliffJudges$Moments" "fullBoxes" "I") ∈ gT := gm 427 (by decide +kernel) (by decide +kernel)
theorem dX5_keepIn_23 : decode cX5_keepIn 23 = .ok (.iconst 1, 1) := by decide +kernel
theorem dX5_keepIn_24 : decode cX5_keepIn 24 = .ok (.iload_n 1, 1) := by decide +kernel
theorem dX5_keepIn_25 : decode cX5_keepIn 25 = .ok (.ishl, 1) := by decide +kernel
theorem dX5_keepIn_26 : decode cX5_keepIn 26 = .ok (.ior, 1) := by decide +kernel
theorem dX5_keepIn_27 : decode cX5_keepIn 27 = .ok (.putfield 36, 3) := by decide +kernel
theorem dX5_keepIn_30 : decode cX5_keepIn 30 = .ok (.return_, 1) := by decide +kernel
set_option maxHeartbeats 400000 in
set_option maxRecDepth 100000 in
theorem c_keepIn (l : Launch) (D : va_G) (cy : Nat → ClassId) (n0 : Nat) (n1 : Nat) (n2 : Nat) (n3 : Nat) (z4 : Value) (z5 : Value) (z6 : Value) (fu : Int32) (fb : Nat → Int32) (bx : Int32) (hbx : bx = 0 ∨ bx = 1 ∨ bx = 2) : XMv l D (tyL cy) E0 yX5_keepIn cX5_keepIn 2 none (rmk 1 0 0) [.ref n0, .int bx] [(n0, .inr (5, [.ref n1, .ref n2, .ref n3, .int fu, z4, z5, z6])), (n1, .inl (cy 1, 41, .inl (fun _ => 0))), (n3, .inl (cy 1, 123, .inl (fb)))] (fun (u : Int32 × (Nat → Int32)) => True) (fun (u : Int32 × (Nat → Int32)) => [(n0, .inr (5, [.ref n1, .ref n2, .ref n3, .int u.1, z4, z5, z6])), (n1, .inl (cy 1, 41, .inl (fun _ => 0))), (n3, .inl (cy 1, 123, .inl (u.2)))]) := by
  refine XMv.start (by decide) (Nat.le_of_ble_eq_true rfl) ?_
  intro p e s m below meth c args A ls Q hat hQ
  obtain ⟨hx, hb, hr, hml, hown, hg, hlocks, hin, hK, hA, hP, hD, hS, hE, hl⟩ := hat
  have hown : s.vm.findClass RX5 = some m.cls := hown
  have hl : lv_has ls 2 [(0, .ref n0), (1, .int bx)] := hl
  refine lv_aload_n hx hb dX5_keepIn_0 rfl (lv_at hl 0 rfl) ?_
  refine va_get (D := D) (ci := 5) (v := .ref n1) (C := RX5) (T := TX5) (N := 7) hx hb hg i_X5 hown hK hP 0 rfl rfl 0 (by decide) (hg _ m_423) (fun _ h9 => h9) rfl dX5_keepIn_1 ?_
  refine lv_iconst (v := 0) hx hb dX5_keepIn_4 (by decide) ?_
  refine lv_aload_n hx hb dX5_keepIn_5 rfl (lv_at hl 0 rfl) ?_
  refine va_get (D := D) (ci := 5) (v := .ref n3) (C := RX5) (T := TX5) (N := 7) hx hb hg i_X5 hown hK hP 0 rfl rfl 2 (by decide) (hg _ m_426) (fun _ h9 => h9) rfl dX5_keepIn_6 ?_
  refine lv_iload_n hx hb dX5_keepIn_9 rfl (lv_at hl 1 rfl) ?_
  refine lv_bipush (v := 41) hx hb dX5_keepIn_10 (by decide) ?_
  refine lv_imul hx hb dX5_keepIn_12 ?_
  refine lv_topi (fun x_1 ex_1 => ?_)
  refine lv_bipush (v := 41) hx hb dX5_keepIn_13 (by decide) ?_
  have hdp : ¬ x_1 < 0 ∧ x_1.toNatClampNeg + 41 ≤ 123 := by rcases hbx with h | h | h <;> (rw [ex_1, h]; decide)
  refine va_copyi hx hb (hml.trans hl.1.symm) hown (hg _ m_934) (hg _ m_936) (hg _ m_935) (hg _ m_149) hK hP hD hS 1 2 1 1 rfl rfl rfl rfl rfl (by decide) hdp.1 (by decide) (by decide) hdp.2 (fun _ _ => rfl) (by decide) (by decide) dX5_keepIn_15 (fun H locs hP hD hS => ?_)
  obtain ⟨g_2, eg_2⟩ : ∃ y, va_cpy (fun _ => 0) (fb) (0 : Int32).toNatClampNeg (x_1 : Int32).toNatClampNeg (41 : Int32).toNatClampNeg = y := ⟨_, rfl⟩
  rw [eg_2] at hP hD
  have hP : va_P D vwCl [(n0, .inr (5, [.ref n1, .ref n2, .ref n3, .int fu, z4, z5, z6])), (n1, .inl (cy 1, 41, .inl (fun _ => 0))), (n3, .inl (cy 1, 123, .inl (g_2)))] H := hP
  have hD : va_D A [(n0, .inr (5, [.ref n1, .ref n2, .ref n3, .int fu, z4, z5, z6])), (n1, .inl (cy 1, 41, .inl (fun _ => 0))), (n3, .inl (cy 1, 123, .inl (g_2)))] := hD
  refine lv_aload_n hx hb dX5_keepIn_18 rfl (lv_at hl 0 rfl) ?_
  refine lv_dup hx hb dX5_keepIn_19 rfl ?_
  refine va_get (D := D) (ci := 5) (v := .int fu) (C := RX5) (T := TX5) (N := 7) hx hb hg i_X5 hown hK hP 0 rfl rfl 3 (by decide) (hg _ m_427) (fun _ h9 => h9) rfl dX5_keepIn_20 ?_
  refine lv_iconst (v := 1) hx hb dX5_keepIn_23 (by decide) ?_
  refine lv_iload_n hx hb dX5_keepIn_24 rfl (lv_at hl 1 rfl) ?_
  refine lv_ishl hx hb dX5_keepIn_25 ?_
  refine lv_topi (fun x_3 ex_3 => ?_)
  refine lv_ior hx hb dX5_keepIn_26 ?_
  refine lv_topi (fun x_4 ex_4 => ?_)
  refine va_put (D := D) (ci := 5) (v := .int x_4) (ty := .int) (C := RX5) (T := TX5) (N := 7) hx hb hg i_X5 tyX5 tyX5_ok nmX5 hown hK hP hD hS 0 rfl rfl 3 (by decide) (hg _ m_427) (fun _ h9 => h9) rfl (by decide +kernel) rfl rfl (Nat.le_of_ble_eq_true rfl) dX5_keepIn_27 (fun H locs hP hD hS => ?_)
  have hP : va_P D vwCl [(n0, .inr (5, [.ref n1, .ref n2, .ref n3, .int x_4, z4, z5, z6])), (n1, .inl (cy 1, 41, .inl (fun _ => 0))), (n3, .inl (cy 1, 123, .inl (g_2)))] H := hP
  have hD : va_D A [(n0, .inr (5, [.ref n1, .ref n2, .ref n3, .int x_4, z4, z5, z6])), (n1, .inl (cy 1, 41, .inl (fun _ => 0))), (n3, .inl (cy 1, 123, .inl (g_2)))] := hD
  exact x_vret hQ hx hb hr hlocks hK hP hD hS dX5_keepIn_30 (x_4, g_2) (trivial) [0, 1, 2] (by decide) rfl (Nat.le_of_ble_eq_true rfl) (Nat.le_of_ble_eq_true rfl)
theorem dX11_image_0 : decode cX11_image 0 = .ok (.iload_n 1, 1) := by decide +kernel
theorem dX11_image_1 : decode cX11_image 1 = .ok (.invokestatic 295, 3) := by decide +kernel
theorem m_1388 : (Cond.methodLink RX11 295 yX11_isBox) ∈ gT := gm 1388 (by decide +kernel) (by decide +kernel)
theorem m_1389 : (Cond.static yX11_isBox) ∈ gT := gm 1389 (by decide +kernel) (by decide +kernel)
theorem m_1390 : (Cond.code yX11_isBox cX11_isBox 1 (some .boolean)) ∈ gT := gm 1390 (by decide +kernel) (by decide +kernel)
theorem k_X11_295 : xS RX11 295 yX11_isBox cX11_isBox 1 (some .boolean) 1 := ⟨⟨m_1388, m_1389, m_130, m_1390⟩, by decide, by decide, by decide +kernel⟩
theorem dX11_image_4 : decode cX11_image 4 = .ok (.ifCond .ne 5, 3) := by decide +kernel
theorem dX11_image_9 : decode cX11_image 9 = .ok (.aload_n 0, 1) := by decide +kernel
theorem dX11_image_10 : decode cX11_image 10 = .ok (.getfield 38, 3) := by decide +kernel
theorem dX11_image_13 : decode cX11_image 13 = .ok (.iload_n 1, 1) := by decide +kernel
theorem dX11_image_14 : decode cX11_image 14 = .ok (.invokevirtual 298, 3) := by decide +kernel
theorem m_1391 : (Cond.methodLink RX11 298 yX5_keepIn) ∈ gT := gm 1391 (by decide +kernel) (by decide +kernel)
theorem m_1392 : (Cond.instanceMethod yX5_keepIn) ∈ gT := gm 1392 (by decide +kernel) (by decide +kernel)
theorem m_1393 : (Cond.selects RX5 yX5_keepIn yX5_keepIn) ∈ gT := gm 1393 (by decide +kernel) (by decide +kernel)
theorem m_1394 : (Cond.code yX5_keepIn cX5_keepIn 2 none) ∈ gT := gm 1394 (by decide +kernel) (by decide +kernel)
theorem k_X11_298 : xV RX11 RX5 298 yX5_keepIn cX5_keepIn 2 none 1 := ⟨⟨m_1391, m_1392, m_1393, m_139, m_1394⟩, rfl, by decide, by decide, by decide +kernel⟩
theorem dX11_image_17 : decode cX11_image 17 = .ok (.aload_n 0, 1) := by decide +kernel
theorem dX11_image_18 : decode cX11_image 18 = .ok (.getfield 38, 3) := by decide +kernel
theorem dX11_image_21 : decode cX11_image 21 = .ok (.getfield 127, 3) := by decide +kernel
theorem m_424 : (Cond.fieldLink RX11 127 "CliffJudges$Moments" "now" "[I") ∈ gT := gm 424 (by decide +kernel) (by decide +kernel)
theorem dX11_image_24 : decode cX11_image 24 = .ok (.bipush 24, 2) := by decide +kernel
theorem dX11_image_26 : decode cX11_image 26 = .ok (.iaload, 1) := by decide +kernel
theorem dX11_image_27 : decode cX11_image 27 = .ok (.ireturn, 1) := by decide +kernel
theorem dX11_image_7 : decode cX11_image 7 = .ok (.iconst (-1), 1) := by decide +kernel
theorem dX11_image_8 : decode cX11_image 8 = .ok (.ireturn, 1) := by decide +kernel
set_option maxHeartbeats 400000 in
set_option maxRecDepth 100000 in
theorem t_image (l : Launch) (D : va_G) (cy : Nat → ClassId) (a0 : Nat) (w0 : Value) (w1 : Value) (w2 : Value) (w3 : Value) (w5 : Value) (w6 : Value) (w7 : Value) (w8 : Value) (w9 : Value) (w10 : Value) (w11 : Value) (w12 : Value) (w13 : Value) (n0 : Nat) (n1 : Nat) (n2 : Nat) (n3 : Nat) (z4 : Value) (z5 : Value) (z6 : Value) (fu : Int32) (fb : Nat → Int32) (ka : Int32)  : XMi l D (tyL cy) E0 yX11_image cX11_image 2 (some .int) (rmk 2 0 0) [.ref a0, .int ka] [(a0, .inr (11, [w0, w1, w2, w3, .ref n0, w5, w6, w7, w8, w9, w10, w11, w12, w13])), (n0, .inr (5, [.ref n1, .ref n2, .ref n3, .int fu, z4, z5, z6])), (n1, .inl (cy 1, 41, .inl (fun _ => 0))), (n3, .inl (cy 1, 123, .inl (fb)))] (fun (r : Int32) (_ : Unit) => r = if 0 ≤ ka.toInt ∧ ka.toInt < 3 then 0 else -1) (fun (_ : Unit) => []) := by
  refine XMi.start (by decide) (Nat.le_of_ble_eq_true rfl) ?_
  intro p e s m below meth c args A ls Q hat hQ
  obtain ⟨hx, hb, hr, hml, hown, hg, hlocks, hin, hK, hA, hP, hD, hS, hE, hl⟩ := hat
  have hown : s.vm.findClass RX11 = some m.cls := hown
  have hl : lv_has ls 2 [(0, .ref a0), (1, .int ka)] := hl
  refine lv_iload_n hx hb dX11_image_0 rfl (lv_at hl 1 rfl) ?_
  refine x_callSi (wr := [(a0, .inr (11, [w0, w1, w2, w3, .ref n0, w5, w6, w7, w8, w9, w10, w11, w12, w13])), (n0, .inr (5, [.ref n1, .ref n2, .ref n3, .int fu, z4, z5, z6])), (n1, .inl (cy 1, 41, .inl (fun _ => 0))), (n3, .inl (cy 1, 123, .inl (fb)))]) (rest := []) ⟨hx, hb, hml, hown, hg, hl.1⟩ k_X11_295 (c_isBox l D cy ka) E0_blind hK hP hD hS hA [] [0, 1, 2, 3] ⟨rfl, rfl, by decide, by decide, by decide⟩ (fun _ _ _ => trivial) dX11_image_1 rfl rfl (Nat.le_of_ble_eq_true rfl) ⟨Nat.le_of_ble_eq_true rfl, Nat.le_of_ble_eq_true rfl⟩ ⟨Nat.le_of_ble_eq_true rfl, Nat.le_of_ble_eq_true rfl⟩ (fun r1 u1 H locs hw1 hP hD hS => ?_)
  have hP : va_P D vwCl [(a0, .inr (11, [w0, w1, w2, w3, .ref n0, w5, w6, w7, w8, w9, w10, w11, w12, w13])), (n0, .inr (5, [.ref n1, .ref n2, .ref n3, .int fu, z4, z5, z6])), (n1, .inl (cy 1, 41, .inl (fun _ => 0))), (n3, .inl (cy 1, 123, .inl (fb)))] H := hP
  have hD : va_D A [(a0, .inr (11, [w0, w1, w2, w3, .ref n0, w5, w6, w7, w8, w9, w10, w11, w12, w13])), (n0, .inr (5, [.ref n1, .ref n2, .ref n3, .int fu, z4, z5, z6])), (n1, .inl (cy 1, 41, .inl (fun _ => 0))), (n3, .inl (cy 1, 123, .inl (fb)))] := hD
  refine W.widen (k := 0) (n := 0) (Nat.le_of_ble_eq_true rfl) (Nat.le_of_ble_eq_true rfl) ?_
  have hw1 : (r1 = 0 ∧ ¬ (0 ≤ ka.toInt ∧ ka.toInt < 3)) ∨ (r1 = 1 ∧ (ka = 0 ∨ ka = 1 ∨ ka = 2)) := hw1
  refine lv_if_ne (tgt := 9) hx hb dX11_image_4 (by decide) (fun c_4 => ?_) (fun c_4 => ?_)
  · refine lv_aload_n hx hb dX11_image_9 rfl (lv_at hl 0 rfl) ?_
    refine va_get (D := D) (ci := 11) (v := .ref n0) (C := RX11) (T := TX11) (N := 14) hx hb hg i_X11 hown hK hP 0 rfl rfl 4 (by decide) (hg _ m_662) (fun _ h9 => h9) rfl dX11_image_10 ?_
    refine lv_iload_n hx hb dX11_image_13 rfl (lv_at hl 1 rfl) ?_
    refine x_callVv (q := (RX5, TX5, 7)) (ci := 5) (q0 := 0) (wr := [(a0, .inr (11, [w0, w1, w2, w3, .ref n0, w5, w6, w7, w8, w9, w10, w11, w12, w13]))]) (rest := []) ⟨hx, hb, hml, hown, hg, hl.1⟩ k_X11_298 (c_keepIn l D cy n0 n1 n2 n3 z4 z5 z6 fu fb ka (hw1.elim (fun h => absurd h.1 c_4) (fun h => h.2))) E0_blind hK hP hD hS hA [1, 2, 3] [0] ⟨rfl, rfl, by decide, by decide, by decide⟩ rfl rfl (fun _ _ _ => trivial) dX11_image_14 rfl rfl (Nat.le_of_ble_eq_true rfl) ⟨Nat.le_of_ble_eq_true rfl, Nat.le_of_ble_eq_true rfl⟩ ⟨Nat.le_of_ble_eq_true rfl, Nat.le_of_ble_eq_true rfl⟩ (fun u2 H locs hw2 hP hD hS => ?_)
    obtain ⟨fu2_3, fb2_4⟩ := u2
    have hP : va_P D vwCl [(a0, .inr (11, [w0, w1, w2, w3, .ref n0, w5, w6, w7, w8, w9, w10, w11, w12, w13])), (n0, .inr (5, [.ref n1, .ref n2, .ref n3, .int fu2_3, z4, z5, z6])), (n1, .inl (cy 1, 41, .inl (fun _ => 0))), (n3, .inl (cy 1, 123, .inl (fb2_4)))] H := hP
    have hD : va_D A [(a0, .inr (11, [w0, w1, w2, w3, .ref n0, w5, w6, w7, w8, w9, w10, w11, w12, w13])), (n0, .inr (5, [.ref n1, .ref n2, .ref n3, .int fu2_3, z4, z5, z6])), (n1, .inl (cy 1, 41, .inl (fun _ => 0))), (n3, .inl (cy 1, 123, .inl (fb2_4)))] := hD
    refine W.widen (k := 0) (n := 0) (Nat.le_of_ble_eq_true rfl) (Nat.le_of_ble_eq_true rfl) ?_
    refine lv_aload_n hx hb dX11_image_17 rfl (lv_at hl 0 rfl) ?_
    refine va_get (D := D) (ci := 11) (v := .ref n0) (C := RX11) (T := TX11) (N := 14) hx hb hg i_X11 hown hK hP 0 rfl rfl 4 (by decide) (hg _ m_662) (fun _ h9 => h9) rfl dX11_image_18 ?_
    refine va_get (D := D) (ci := 5) (v := .ref n1) (C := RX5) (T := TX5) (N := 7) hx hb hg i_X5 hown hK hP 1 rfl rfl 0 (by decide) (hg _ m_424) (fun _ h9 => h9) rfl dX11_image_21 ?_
    refine lv_bipush (v := 24) hx hb dX11_image_24 (by decide) ?_
    refine va_iald hx hb hK hP 2 1 rfl rfl (by unfold vp_in; decide) dX11_image_26 ?_
    refine lv_topi (fun y_5 hy_5 => ?_)
    obtain rfl : y_5 = 0 := hy_5.trans (by decide +kernel)
    exact x_iret hQ hx hb hr hlocks hK hP hD hS dX11_image_27 () (hw1.elim (fun h => absurd h.1 c_4) (fun h => by rcases h.2 with h | h | h <;> (rw [h]; decide))) [] (by decide) rfl (Nat.le_of_ble_eq_true rfl) (Nat.le_of_ble_eq_true rfl)
  · refine lv_iconst (v := -1) hx hb dX11_image_7 (by decide) ?_
    exact x_iret hQ hx hb hr hlocks hK hP hD hS dX11_image_8 () (hw1.elim (fun h => (if_neg h.2).symm) (fun h => absurd c_4 (by rw [h.1]; decide))) [] (by decide) rfl (Nat.le_of_ble_eq_true rfl) (Nat.le_of_ble_eq_true rfl)
theorem dX5_goBackTo_0 : decode cX5_goBackTo 0 = .ok (.aload_n 0, 1) := by decide +kernel
theorem dX5_goBackTo_1 : decode cX5_goBackTo 1 = .ok (.getfield 36, 3) := by decide +kernel
theorem dX5_goBackTo_4 : decode cX5_goBackTo 4 = .ok (.iload_n 1, 1) := by decide +kernel
theorem dX5_goBackTo_5 : decode cX5_goBackTo 5 = .ok (.ishr, 1) := by decide +kernel
theorem dX5_goBackTo_6 : decode cX5_goBackTo 6 = .ok (.iconst 1, 1) := by decide +kernel
theorem dX5_goBackTo_7 : decode cX5_goBackTo 7 = .ok (.iand, 1) := by decide +kernel
theorem dX5_goBackTo_8 : decode cX5_goBackTo 8 = .ok (.ifCond .ne 5, 3) := by decide +kernel
theorem dX5_goBackTo_11 : decode cX5_goBackTo 11 = .ok (.iconst 0, 1) := by decide +kernel
theorem dX5_goBackTo_12 : decode cX5_goBackTo 12 = .ok (.ireturn, 1) := by decide +kernel
set_option maxHeartbeats 400000 in
set_option maxRecDepth 100000 in
theorem c_goBackTo (l : Launch) (D : va_G) (cy : Nat → ClassId) (n0 : Nat) (n1 : Nat) (n2 : Nat) (n3 : Nat) (z4 : Value) (z5 : Value) (z6 : Value) (bx : Int32)  : XMi l D (tyL cy) E0 yX5_goBackTo cX5_goBackTo 2 (some .boolean) (rmk 0 0 0) [.ref n0, .int bx] [(n0, .inr (5, [.ref n1, .ref n2, .ref n3, .int 0, z4, z5, z6]))] (fun (r : Int32) (_ : Unit) => r = 0) (fun (_ : Unit) => []) := by
  refine XMi.start (by decide) (Nat.le_of_ble_eq_true rfl) ?_
  intro p e s m below meth c args A ls Q hat hQ
  obtain ⟨hx, hb, hr, hml, hown, hg, hlocks, hin, hK, hA, hP, hD, hS, hE, hl⟩ := hat
  have hown : s.vm.findClass RX5 = some m.cls := hown
  have hl : lv_has ls 2 [(0, .ref n0), (1, .int bx)] := hl
  refine lv_aload_n hx hb dX5_goBackTo_0 rfl (lv_at hl 0 rfl) ?_
  refine va_get (D := D) (ci := 5) (v := .int 0) (C := RX5) (T := TX5) (N := 7) hx hb hg i_X5 hown hK hP 0 rfl rfl 3 (by decide) (hg _ m_427) (fun _ h9 => h9) rfl dX5_goBackTo_1 ?_
  refine lv_iload_n hx hb dX5_goBackTo_4 rfl (lv_at hl 1 rfl) ?_
  refine lv_ishr hx hb dX5_goBackTo_5 ?_
  refine lv_topi (fun x_1 ex_1 => ?_)
  rw [sh_zero] at ex_1
  refine lv_iconst (v := 1) hx hb dX5_goBackTo_6 (by decide) ?_
  refine lv_iand hx hb dX5_goBackTo_7 ?_
  refine lv_topi (fun x_2 ex_2 => ?_)
  obtain rfl : x_2 = 0 := by rw [ex_2, ex_1]; decide
  refine lv_if_ne (tgt := 13) hx hb dX5_goBackTo_8 (by decide) (fun h => absurd (by decide) h) (fun _ => ?_)
  refine lv_iconst (v := 0) hx hb dX5_goBackTo_11 (by decide) ?_
  exact x_zret hQ hx hb hr hlocks hK hP hD hS rfl dX5_goBackTo_12 () (rfl) [] (by decide) rfl (Nat.le_of_ble_eq_true rfl) (Nat.le_of_ble_eq_true rfl)
theorem dX11_back_0 : decode cX11_back 0 = .ok (.iload_n 1, 1) := by decide +kernel
theorem dX11_back_1 : decode cX11_back 1 = .ok (.invokestatic 295, 3) := by decide +kernel
theorem dX11_back_4 : decode cX11_back 4 = .ok (.ifCond .eq 14, 3) := by decide +kernel
theorem dX11_back_18 : decode cX11_back 18 = .ok (.iconst (-1), 1) := by decide +kernel
theorem dX11_back_19 : decode cX11_back 19 = .ok (.ireturn, 1) := by decide +kernel
theorem dX11_back_7 : decode cX11_back 7 = .ok (.aload_n 0, 1) := by decide +kernel
theorem dX11_back_8 : decode cX11_back 8 = .ok (.getfield 38, 3) := by decide +kernel
theorem dX11_back_11 : decode cX11_back 11 = .ok (.iload_n 1, 1) := by decide +kernel
theorem dX11_back_12 : decode cX11_back 12 = .ok (.invokevirtual 301, 3) := by decide +kernel
theorem m_1399 : (Cond.methodLink RX11 301 yX5_goBackTo) ∈ gT := gm 1399 (by decide +kernel) (by decide +kernel)
theorem m_1400 : (Cond.instanceMethod yX5_goBackTo) ∈ gT := gm 1400 (by decide +kernel) (by decide +kernel)
theorem m_1401 : (Cond.selects RX5 yX5_goBackTo yX5_goBackTo) ∈ gT := gm 1401 (by decide +kernel) (by decide +kernel)
theorem m_1402 : (Cond.code yX5_goBackTo cX5_goBackTo 2 (some .boolean)) ∈ gT := gm 1402 (by decide +kernel) (by decide +kernel)
theorem k_X11_301 : xV RX11 RX5 301 yX5_goBackTo cX5_goBackTo 2 (some .boolean) 1 := ⟨⟨m_1399, m_1400, m_1401, m_139, m_1402⟩, rfl, by decide, by decide, by decide +kernel⟩
theorem dX11_back_15 : decode cX11_back 15 = .ok (.ifCond .ne 5, 3) := by decide +kernel
set_option maxHeartbeats 400000 in
set_option maxRecDepth 100000 in
theorem t_back (l : Launch) (D : va_G) (cy : Nat → ClassId) (a0 : Nat) (w0 : Value) (w1 : Value) (w2 : Value) (w3 : Value) (w5 : Value) (w6 : Value) (w7 : Value) (w8 : Value) (w9 : Value) (w10 : Value) (w11 : Value) (w12 : Value) (w13 : Value) (n0 : Nat) (n1 : Nat) (n2 : Nat) (n3 : Nat) (z4 : Value) (z5 : Value) (z6 : Value) (ka : Int32)  : XMi l D (tyL cy) E0 yX11_back cX11_back 2 (some .int) (rmk 2 0 0) [.ref a0, .int ka] [(a0, .inr (11, [w0, w1, w2, w3, .ref n0, w5, w6, w7, w8, w9, w10, w11, w12, w13])), (n0, .inr (5, [.ref n1, .ref n2, .ref n3, .int 0, z4, z5, z6]))] (fun (r : Int32) (_ : Unit) => r = -1) (fun (_ : Unit) => []) := by
  refine XMi.start (by decide) (Nat.le_of_ble_eq_true rfl) ?_
  intro p e s m below meth c args A ls Q hat hQ
  obtain ⟨hx, hb, hr, hml, hown, hg, hlocks, hin, hK, hA, hP, hD, hS, hE, hl⟩ := hat
  have hown : s.vm.findClass RX11 = some m.cls := hown
  have hl : lv_has ls 2 [(0, .ref a0), (1, .int ka)] := hl
  refine lv_iload_n hx hb dX11_back_0 rfl (lv_at hl 1 rfl) ?_
  refine x_callSi (wr := [(a0, .inr (11, [w0, w1, w2, w3, .ref n0, w5, w6, w7, w8, w9, w10, w11, w12, w13])), (n0, .inr (5, [.ref n1, .ref n2, .ref n3, .int 0, z4, z5, z6]))]) (rest := []) ⟨hx, hb, hml, hown, hg, hl.1⟩ k_X11_295 (c_isBox l D cy ka) E0_blind hK hP hD hS hA [] [0, 1] ⟨rfl, rfl, by decide, by decide, by decide⟩ (fun _ _ _ => trivial) dX11_back_1 rfl rfl (Nat.le_of_ble_eq_true rfl) ⟨Nat.le_of_ble_eq_true rfl, Nat.le_of_ble_eq_true rfl⟩ ⟨Nat.le_of_ble_eq_true rfl, Nat.le_of_ble_eq_true rfl⟩ (fun r1 u1 H locs hw1 hP hD hS => ?_)
  have hP : va_P D vwCl [(a0, .inr (11, [w0, w1, w2, w3, .ref n0, w5, w6, w7, w8, w9, w10, w11, w12, w13])), (n0, .inr (5, [.ref n1, .ref n2, .ref n3, .int 0, z4, z5, z6]))] H := hP
  have hD : va_D A [(a0, .inr (11, [w0, w1, w2, w3, .ref n0, w5, w6, w7, w8, w9, w10, w11, w12, w13])), (n0, .inr (5, [.ref n1, .ref n2, .ref n3, .int 0, z4, z5, z6]))] := hD
  refine W.widen (k := 0) (n := 0) (Nat.le_of_ble_eq_true rfl) (Nat.le_of_ble_eq_true rfl) ?_
  have hw1 : (r1 = 0 ∧ ¬ (0 ≤ ka.toInt ∧ ka.toInt < 3)) ∨ (r1 = 1 ∧ (ka = 0 ∨ ka = 1 ∨ ka = 2)) := hw1
  refine lv_if_eq (tgt := 18) hx hb dX11_back_4 (by decide) (fun c_4 => ?_) (fun c_4 => ?_)
  · refine lv_iconst (v := -1) hx hb dX11_back_18 (by decide) ?_
    exact x_iret hQ hx hb hr hlocks hK hP hD hS dX11_back_19 () (rfl) [] (by decide) rfl (Nat.le_of_ble_eq_true rfl) (Nat.le_of_ble_eq_true rfl)
  · refine lv_aload_n hx hb dX11_back_7 rfl (lv_at hl 0 rfl) ?_
    refine va_get (D := D) (ci := 11) (v := .ref n0) (C := RX11) (T := TX11) (N := 14) hx hb hg i_X11 hown hK hP 0 rfl rfl 4 (by decide) (hg _ m_662) (fun _ h9 => h9) rfl dX11_back_8 ?_
    refine lv_iload_n hx hb dX11_back_11 rfl (lv_at hl 1 rfl) ?_
    refine x_callVi (q := (RX5, TX5, 7)) (ci := 5) (q0 := 0) (wr := [(a0, .inr (11, [w0, w1, w2, w3, .ref n0, w5, w6, w7, w8, w9, w10, w11, w12, w13]))]) (rest := []) ⟨hx, hb, hml, hown, hg, hl.1⟩ k_X11_301 (c_goBackTo l D cy n0 n1 n2 n3 z4 z5 z6 ka) E0_blind hK hP hD hS hA [1] [0] ⟨rfl, rfl, by decide, by decide, by decide⟩ rfl rfl (fun _ _ _ => trivial) dX11_back_12 rfl rfl (Nat.le_of_ble_eq_true rfl) ⟨Nat.le_of_ble_eq_true rfl, Nat.le_of_ble_eq_true rfl⟩ ⟨Nat.le_of_ble_eq_true rfl, Nat.le_of_ble_eq_true rfl⟩ (fun r2 u2 H locs hw2 hP hD hS => ?_)
    have hP : va_P D vwCl [(a0, .inr (11, [w0, w1, w2, w3, .ref n0, w5, w6, w7, w8, w9, w10, w11, w12, w13]))] H := hP
    have hD : va_D A [(a0, .inr (11, [w0, w1, w2, w3, .ref n0, w5, w6, w7, w8, w9, w10, w11, w12, w13]))] := hD
    refine W.widen (k := 0) (n := 0) (Nat.le_of_ble_eq_true rfl) (Nat.le_of_ble_eq_true rfl) ?_
    have hw2 : r2 = 0 := hw2
    subst hw2
    refine lv_if_ne (tgt := 20) hx hb dX11_back_15 (by decide) (fun h => absurd (by decide) h) (fun _ => ?_)
    refine lv_iconst (v := -1) hx hb dX11_back_18 (by decide) ?_
    exact x_iret hQ hx hb hr hlocks hK hP hD hS dX11_back_19 () (rfl) [] (by decide) rfl (Nat.le_of_ble_eq_true rfl) (Nat.le_of_ble_eq_true rfl)
