theorem nlt_le {a b : Int32} (h : ¬ a < b) : b ≤ a := by
  rw [fa_le]
  rw [fa_lt] at h
  omega
theorem nle_lt {a b : Int32} (h : ¬ a ≤ b) : b < a := by
  rw [fa_lt]
  rw [fa_le] at h
  omega
theorem cry_in {r cry : Int32} (h : r = 0 ∨ cry = 0 ∨ cry = 1) (hr : ¬ r = 0) : vp_in (cry * 11) 41 := by
  rcases h with h | h | h
  · exact absurd h hr
  · subst h; unfold vp_in; decide
  · subst h; unfold vp_in; decide
theorem dX4_has_0 : decode cX4_has 0 = .ok (.iload_n 2, 1) := by decide +kernel
theorem dX4_has_1 : decode cX4_has 1 = .ok (.ifCond .lt 17, 3) := by decide +kernel
theorem dX4_has_18 : decode cX4_has 18 = .ok (.iconst 0, 1) := by decide +kernel
theorem dX4_has_19 : decode cX4_has 19 = .ok (.ireturn, 1) := by decide +kernel
theorem dX4_has_4 : decode cX4_has 4 = .ok (.iload_n 2, 1) := by decide +kernel
theorem dX4_has_5 : decode cX4_has 5 = .ok (.aload_n 0, 1) := by decide +kernel
theorem dX4_has_6 : decode cX4_has 6 = .ok (.getfield 9, 3) := by decide +kernel
set_option maxRecDepth 20000 in
theorem i_X4 : ∀ w ∈ u_ws RX4 TX4 16, w ∈ gT := gin [384, 386, 388, 390, 392, 394, 396, 398, 400, 402, 404, 406, 408, 410, 412, 414] (by decide +kernel) (by decide +kernel)
theorem m_329 : (Cond.fieldLink RX4 9 "CliffJudges$Hills" "counts" "[I") ∈ gT := gm 329 (by decide +kernel) (by decide +kernel)
theorem dX4_has_9 : decode cX4_has 9 = .ok (.iload_n 1, 1) := by decide +kernel
theorem dX4_has_10 : decode cX4_has 10 = .ok (.iaload, 1) := by decide +kernel
theorem dX4_has_11 : decode cX4_has 11 = .ok (.if_icmp .ge 7, 3) := by decide +kernel
set_option maxHeartbeats 400000 in
set_option maxRecDepth 100000 in
theorem c_has (l : Launch) (D : va_G) (cy : Nat → ClassId) (h0 : Nat) (h1 : Nat) (v1 : Value) (v2 : Value) (v3 : Value) (v4 : Value) (v5 : Value) (v6 : Value) (v7 : Value) (v8 : Value) (v9 : Value) (v10 : Value) (v11 : Value) (v12 : Value) (v13 : Value) (v14 : Value) (v15 : Value) (so : Int32) (ix : Int32) (hso : vp_in so 4) : XMi l D (tyL cy) E0 yX4_has cX4_has 3 (some .boolean) (rmk 0 0 0) [.ref h0, .int so, .int ix] [(h0, .inr (4, [.ref h1, v1, v2, v3, v4, v5, v6, v7, v8, v9, v10, v11, v12, v13, v14, v15])), (h1, .inl (cy 1, 4, .inl (fun _ => 0)))] (fun (r : Int32) (_ : Unit) => r = 0) (fun (_ : Unit) => [(h0, .inr (4, [.ref h1, v1, v2, v3, v4, v5, v6, v7, v8, v9, v10, v11, v12, v13, v14, v15])), (h1, .inl (cy 1, 4, .inl (fun _ => 0)))]) := by
  refine XMi.start (by decide) (Nat.le_of_ble_eq_true rfl) ?_
  intro p e s m below meth c args A ls Q hat hQ
  obtain ⟨hx, hb, hr, hml, hown, hg, hlocks, hin, hK, hA, hP, hD, hS, hE, hl⟩ := hat
  have hown : s.vm.findClass RX4 = some m.cls := hown
  have hl : lv_has ls 3 [(0, .ref h0), (1, .int so), (2, .int ix)] := hl
  refine lv_iload_n hx hb dX4_has_0 rfl (lv_at hl 2 rfl) ?_
  refine lv_if_lt (tgt := 18) hx hb dX4_has_1 (by decide) (fun c_1 => ?_) (fun c_1 => ?_)
  · refine lv_iconst (v := 0) hx hb dX4_has_18 (by decide) ?_
    exact x_zret hQ hx hb hr hlocks hK hP hD hS rfl dX4_has_19 () (rfl) [0, 1] (by decide) rfl (Nat.le_of_ble_eq_true rfl) (Nat.le_of_ble_eq_true rfl)
  · refine lv_iload_n hx hb dX4_has_4 rfl (lv_at hl 2 rfl) ?_
    refine lv_aload_n hx hb dX4_has_5 rfl (lv_at hl 0 rfl) ?_
    refine va_get (D := D) (ci := 4) (v := .ref h1) (C := RX4) (T := TX4) (N := 16) hx hb hg i_X4 hown hK hP 0 rfl rfl 0 (by decide) (hg _ m_329) (fun _ h9 => h9) rfl dX4_has_6 ?_
    refine lv_iload_n hx hb dX4_has_9 rfl (lv_at hl 1 rfl) ?_
    refine va_iald hx hb hK hP 1 1 rfl rfl hso dX4_has_10 ?_
    refine lv_topi (fun y_1 hy_1 => ?_)
    obtain rfl : y_1 = 0 := hy_1.trans rfl
    refine lv_icmp_ge (tgt := 18) hx hb dX4_has_11 (by decide) (fun _ => ?_) (fun h => absurd (nlt_le c_1) h)
    refine lv_iconst (v := 0) hx hb dX4_has_18 (by decide) ?_
    exact x_zret hQ hx hb hr hlocks hK hP hD hS rfl dX4_has_19 () (rfl) [0, 1] (by decide) rfl (Nat.le_of_ble_eq_true rfl) (Nat.le_of_ble_eq_true rfl)
theorem dX11_isCry_0 : decode cX11_isCry 0 = .ok (.iload_n 0, 1) := by decide +kernel
theorem dX11_isCry_1 : decode cX11_isCry 1 = .ok (.ifCond .eq 8, 3) := by decide +kernel
theorem dX11_isCry_9 : decode cX11_isCry 9 = .ok (.iconst 1, 1) := by decide +kernel
theorem dX11_isCry_10 : decode cX11_isCry 10 = .ok (.goto 4, 3) := by decide +kernel
theorem dX11_isCry_14 : decode cX11_isCry 14 = .ok (.ireturn, 1) := by decide +kernel
theorem dX11_isCry_4 : decode cX11_isCry 4 = .ok (.iload_n 0, 1) := by decide +kernel
theorem dX11_isCry_5 : decode cX11_isCry 5 = .ok (.iconst 1, 1) := by decide +kernel
theorem dX11_isCry_6 : decode cX11_isCry 6 = .ok (.if_icmp .ne 7, 3) := by decide +kernel
theorem dX11_isCry_13 : decode cX11_isCry 13 = .ok (.iconst 0, 1) := by decide +kernel
set_option maxHeartbeats 400000 in
set_option maxRecDepth 100000 in
theorem c_isCry (l : Launch) (D : va_G) (cy : Nat → ClassId) (cry : Int32)  : XMi l D (tyL cy) E0 yX11_isCry cX11_isCry 1 (some .boolean) (rmk 0 0 0) [.int cry] [] (fun (r : Int32) (_ : Unit) => r = 0 ∨ cry = 0 ∨ cry = 1) (fun (_ : Unit) => []) := by
  refine XMi.start (by decide) (Nat.le_of_ble_eq_true rfl) ?_
  intro p e s m below meth c args A ls Q hat hQ
  obtain ⟨hx, hb, hr, hml, hown, hg, hlocks, hin, hK, hA, hP, hD, hS, hE, hl⟩ := hat
  have hown : s.vm.findClass RX11 = some m.cls := hown
  have hl : lv_has ls 1 [(0, .int cry)] := hl
  refine lv_iload_n hx hb dX11_isCry_0 rfl (lv_at hl 0 rfl) ?_
  refine lv_if_eq (tgt := 9) hx hb dX11_isCry_1 (by decide) (fun c_1 => ?_) (fun c_1 => ?_)
  · refine lv_iconst (v := 1) hx hb dX11_isCry_9 (by decide) ?_
    refine lv_goto (tgt := 14) hx hb dX11_isCry_10 (by decide) ?_
    exact x_zret hQ hx hb hr hlocks hK hP hD hS rfl dX11_isCry_14 () ((by first | exact Or.inr (Or.inl c_1) | exact Or.inr (Or.inr c_6))) [] (by decide) rfl (Nat.le_of_ble_eq_true rfl) (Nat.le_of_ble_eq_true rfl)
  · refine lv_iload_n hx hb dX11_isCry_4 rfl (lv_at hl 0 rfl) ?_
    refine lv_iconst (v := 1) hx hb dX11_isCry_5 (by decide) ?_
    refine lv_icmp_ne (tgt := 13) hx hb dX11_isCry_6 (by decide) (fun c_6 => ?_) (fun c_6 => ?_)
    · refine lv_iconst (v := 0) hx hb dX11_isCry_13 (by decide) ?_
      exact x_zret hQ hx hb hr hlocks hK hP hD hS rfl dX11_isCry_14 () (Or.inl rfl) [] (by decide) rfl (Nat.le_of_ble_eq_true rfl) (Nat.le_of_ble_eq_true rfl)
    · refine lv_iconst (v := 1) hx hb dX11_isCry_9 (by decide) ?_
      refine lv_goto (tgt := 14) hx hb dX11_isCry_10 (by decide) ?_
      exact x_zret hQ hx hb hr hlocks hK hP hD hS rfl dX11_isCry_14 () ((by first | exact Or.inr (Or.inl c_1) | exact Or.inr (Or.inr c_6))) [] (by decide) rfl (Nat.le_of_ble_eq_true rfl) (Nat.le_of_ble_eq_true rfl)
theorem dX11_isSought_0 : decode cX11_isSought 0 = .ok (.iload_n 0, 1) := by decide +kernel
theorem dX11_isSought_1 : decode cX11_isSought 1 = .ok (.iconst 1, 1) := by decide +kernel
theorem dX11_isSought_2 : decode cX11_isSought 2 = .ok (.if_icmp .lt 12, 3) := by decide +kernel
theorem dX11_isSought_14 : decode cX11_isSought 14 = .ok (.iconst 0, 1) := by decide +kernel
theorem dX11_isSought_15 : decode cX11_isSought 15 = .ok (.ireturn, 1) := by decide +kernel
theorem dX11_isSought_5 : decode cX11_isSought 5 = .ok (.iload_n 0, 1) := by decide +kernel
theorem dX11_isSought_6 : decode cX11_isSought 6 = .ok (.iconst 5, 1) := by decide +kernel
theorem dX11_isSought_7 : decode cX11_isSought 7 = .ok (.if_icmp .gt 7, 3) := by decide +kernel
theorem dX11_isSought_10 : decode cX11_isSought 10 = .ok (.iconst 1, 1) := by decide +kernel
theorem dX11_isSought_11 : decode cX11_isSought 11 = .ok (.goto 4, 3) := by decide +kernel
set_option maxHeartbeats 400000 in
set_option maxRecDepth 100000 in
theorem c_isSought (l : Launch) (D : va_G) (cy : Nat → ClassId) (n : Int32)  : XMi l D (tyL cy) E0 yX11_isSought cX11_isSought 1 (some .boolean) (rmk 0 0 0) [.int n] [] (fun (r : Int32) (_ : Unit) => True) (fun (_ : Unit) => []) := by
  refine XMi.start (by decide) (Nat.le_of_ble_eq_true rfl) ?_
  intro p e s m below meth c args A ls Q hat hQ
  obtain ⟨hx, hb, hr, hml, hown, hg, hlocks, hin, hK, hA, hP, hD, hS, hE, hl⟩ := hat
  have hown : s.vm.findClass RX11 = some m.cls := hown
  have hl : lv_has ls 1 [(0, .int n)] := hl
  refine lv_iload_n hx hb dX11_isSought_0 rfl (lv_at hl 0 rfl) ?_
  refine lv_iconst (v := 1) hx hb dX11_isSought_1 (by decide) ?_
  refine lv_icmp_lt (tgt := 14) hx hb dX11_isSought_2 (by decide) (fun c_2 => ?_) (fun c_2 => ?_)
  · refine lv_iconst (v := 0) hx hb dX11_isSought_14 (by decide) ?_
    exact x_zret hQ hx hb hr hlocks hK hP hD hS rfl dX11_isSought_15 () (trivial) [] (by decide) rfl (Nat.le_of_ble_eq_true rfl) (Nat.le_of_ble_eq_true rfl)
  · refine lv_iload_n hx hb dX11_isSought_5 rfl (lv_at hl 0 rfl) ?_
    refine lv_iconst (v := 5) hx hb dX11_isSought_6 (by decide) ?_
    refine lv_icmp_gt (tgt := 14) hx hb dX11_isSought_7 (by decide) (fun c_7 => ?_) (fun c_7 => ?_)
    · refine lv_iconst (v := 0) hx hb dX11_isSought_14 (by decide) ?_
      exact x_zret hQ hx hb hr hlocks hK hP hD hS rfl dX11_isSought_15 () (trivial) [] (by decide) rfl (Nat.le_of_ble_eq_true rfl) (Nat.le_of_ble_eq_true rfl)
    · refine lv_iconst (v := 1) hx hb dX11_isSought_10 (by decide) ?_
      refine lv_goto (tgt := 15) hx hb dX11_isSought_11 (by decide) ?_
      exact x_zret hQ hx hb hr hlocks hK hP hD hS rfl dX11_isSought_15 () (trivial) [] (by decide) rfl (Nat.le_of_ble_eq_true rfl) (Nat.le_of_ble_eq_true rfl)
theorem dX5_cryLength_0 : decode cX5_cryLength 0 = .ok (.aload_n 0, 1) := by decide +kernel
theorem dX5_cryLength_1 : decode cX5_cryLength 1 = .ok (.getfield 11, 3) := by decide +kernel
set_option maxRecDepth 20000 in
theorem i_X5 : ∀ w ∈ u_ws RX5 TX5 7, w ∈ gT := gin [433, 435, 437, 439, 441, 443, 445] (by decide +kernel) (by decide +kernel)
theorem m_423 : (Cond.fieldLink RX5 11 "CliffJudges$Moments" "now" "[I") ∈ gT := gm 423 (by decide +kernel) (by decide +kernel)
theorem dX5_cryLength_4 : decode cX5_cryLength 4 = .ok (.iload_n 1, 1) := by decide +kernel
theorem dX5_cryLength_5 : decode cX5_cryLength 5 = .ok (.bipush 11, 2) := by decide +kernel
theorem dX5_cryLength_7 : decode cX5_cryLength 7 = .ok (.imul, 1) := by decide +kernel
theorem dX5_cryLength_8 : decode cX5_cryLength 8 = .ok (.iaload, 1) := by decide +kernel
theorem dX5_cryLength_9 : decode cX5_cryLength 9 = .ok (.ireturn, 1) := by decide +kernel
set_option maxHeartbeats 400000 in
set_option maxRecDepth 100000 in
theorem c_cryLength (l : Launch) (D : va_G) (cy : Nat → ClassId) (n0 : Nat) (n1 : Nat) (n2 : Nat) (n3 : Nat) (z3 : Value) (z4 : Value) (z5 : Value) (z6 : Value) (cry : Int32) (hc : vp_in (cry * 11) 41) : XMi l D (tyL cy) E0 yX5_cryLength cX5_cryLength 2 (some .int) (rmk 0 0 0) [.ref n0, .int cry] [(n0, .inr (5, [.ref n1, .ref n2, .ref n3, z3, z4, z5, z6])), (n1, .inl (cy 1, 41, .inl (fun _ => 0)))] (fun (r : Int32) (_ : Unit) => r = 0) (fun (_ : Unit) => [(n0, .inr (5, [.ref n1, .ref n2, .ref n3, z3, z4, z5, z6])), (n1, .inl (cy 1, 41, .inl (fun _ => 0)))]) := by
  refine XMi.start (by decide) (Nat.le_of_ble_eq_true rfl) ?_
  intro p e s m below meth c args A ls Q hat hQ
  obtain ⟨hx, hb, hr, hml, hown, hg, hlocks, hin, hK, hA, hP, hD, hS, hE, hl⟩ := hat
  have hown : s.vm.findClass RX5 = some m.cls := hown
  have hl : lv_has ls 2 [(0, .ref n0), (1, .int cry)] := hl
  refine lv_aload_n hx hb dX5_cryLength_0 rfl (lv_at hl 0 rfl) ?_
  refine va_get (D := D) (ci := 5) (v := .ref n1) (C := RX5) (T := TX5) (N := 7) hx hb hg i_X5 hown hK hP 0 rfl rfl 0 (by decide) (hg _ m_423) (fun _ h9 => h9) rfl dX5_cryLength_1 ?_
  refine lv_iload_n hx hb dX5_cryLength_4 rfl (lv_at hl 1 rfl) ?_
  refine lv_bipush (v := 11) hx hb dX5_cryLength_5 (by decide) ?_
  refine lv_imul hx hb dX5_cryLength_7 ?_
  refine lv_topi (fun x_1 ex_1 => ?_)
  refine va_iald hx hb hK hP 1 1 rfl rfl (by rw [ex_1]; exact hc) dX5_cryLength_8 ?_
  refine lv_topi (fun y_2 hy_2 => ?_)
  obtain rfl : y_2 = 0 := hy_2.trans rfl
  exact x_iret hQ hx hb hr hlocks hK hP hD hS dX5_cryLength_9 () (rfl) [0, 1] (by decide) rfl (Nat.le_of_ble_eq_true rfl) (Nat.le_of_ble_eq_true rfl)
theorem dX11_cliff_0 : decode cX11_cliff 0 = .ok (.aload_n 0, 1) := by decide +kernel
theorem dX11_cliff_1 : decode cX11_cliff 1 = .ok (.getfield 28, 3) := by decide +kernel
set_option maxRecDepth 20000 in
theorem i_X11 : ∀ w ∈ u_ws RX11 TX11 14, w ∈ gT := gin [672, 674, 676, 678, 680, 682, 684, 686, 688, 690, 692, 694, 696, 698] (by decide +kernel) (by decide +kernel)
theorem m_660 : (Cond.fieldLink RX11 28 "CliffJudges" "told" "LCliffJudges$Hills;") ∈ gT := gm 660 (by decide +kernel) (by decide +kernel)
theorem dX11_cliff_4 : decode cX11_cliff 4 = .ok (.iconst 1, 1) := by decide +kernel
theorem dX11_cliff_5 : decode cX11_cliff 5 = .ok (.iload_n 1, 1) := by decide +kernel
theorem dX11_cliff_6 : decode cX11_cliff 6 = .ok (.invokevirtual 120, 3) := by decide +kernel
theorem m_949 : (Cond.methodLink RX11 120 yX4_has) ∈ gT := gm 949 (by decide +kernel) (by decide +kernel)
theorem m_950 : (Cond.instanceMethod yX4_has) ∈ gT := gm 950 (by decide +kernel) (by decide +kernel)
theorem m_951 : (Cond.selects RX4 yX4_has yX4_has) ∈ gT := gm 951 (by decide +kernel) (by decide +kernel)
theorem m_137 : (Cond.initialized RX4) ∈ gT := gm 137 (by decide +kernel) (by decide +kernel)
theorem m_952 : (Cond.code yX4_has cX4_has 3 (some .boolean)) ∈ gT := gm 952 (by decide +kernel) (by decide +kernel)
theorem k_X11_120 : xV RX11 RX4 120 yX4_has cX4_has 3 (some .boolean) 2 := ⟨⟨m_949, m_950, m_951, m_137, m_952⟩, rfl, by decide, by decide, by decide +kernel⟩
theorem dX11_cliff_9 : decode cX11_cliff 9 = .ok (.ifCond .ne 5, 3) := by decide +kernel
theorem dX11_cliff_12 : decode cX11_cliff 12 = .ok (.iconst (-1), 1) := by decide +kernel
theorem dX11_cliff_13 : decode cX11_cliff 13 = .ok (.ireturn, 1) := by decide +kernel
set_option maxHeartbeats 400000 in
set_option maxRecDepth 100000 in
theorem t_cliff (l : Launch) (D : va_G) (cy : Nat → ClassId) (a0 : Nat) (w0 : Value) (w1 : Value) (w3 : Value) (w4 : Value) (w5 : Value) (w6 : Value) (w7 : Value) (w8 : Value) (w9 : Value) (w10 : Value) (w11 : Value) (w12 : Value) (w13 : Value) (h0 : Nat) (h1 : Nat) (v1 : Value) (v2 : Value) (v3 : Value) (v4 : Value) (v5 : Value) (v6 : Value) (v7 : Value) (v8 : Value) (v9 : Value) (v10 : Value) (v11 : Value) (v12 : Value) (v13 : Value) (v14 : Value) (v15 : Value) (ka : Int32) (kb : Int32)  : XMi l D (tyL cy) E0 yX11_cliff cX11_cliff 3 (some .int) (rmk 2 0 0) [.ref a0, .int ka, .int kb] [(a0, .inr (11, [w0, w1, .ref h0, w3, w4, w5, w6, w7, w8, w9, w10, w11, w12, w13])), (h0, .inr (4, [.ref h1, v1, v2, v3, v4, v5, v6, v7, v8, v9, v10, v11, v12, v13, v14, v15])), (h1, .inl (cy 1, 4, .inl (fun _ => 0)))] (fun (r : Int32) (_ : Unit) => r = -1) (fun (_ : Unit) => []) := by
  refine XMi.start (by decide) (Nat.le_of_ble_eq_true rfl) ?_
  intro p e s m below meth c args A ls Q hat hQ
  obtain ⟨hx, hb, hr, hml, hown, hg, hlocks, hin, hK, hA, hP, hD, hS, hE, hl⟩ := hat
  have hown : s.vm.findClass RX11 = some m.cls := hown
  have hl : lv_has ls 3 [(0, .ref a0), (1, .int ka), (2, .int kb)] := hl
  refine lv_aload_n hx hb dX11_cliff_0 rfl (lv_at hl 0 rfl) ?_
  refine va_get (D := D) (ci := 11) (v := .ref h0) (C := RX11) (T := TX11) (N := 14) hx hb hg i_X11 hown hK hP 0 rfl rfl 2 (by decide) (hg _ m_660) (fun _ h9 => h9) rfl dX11_cliff_1 ?_
  refine lv_iconst (v := 1) hx hb dX11_cliff_4 (by decide) ?_
  refine lv_iload_n hx hb dX11_cliff_5 rfl (lv_at hl 1 rfl) ?_
  refine x_callVi (q := (RX4, TX4, 16)) (ci := 4) (q0 := 0) (wr := [(a0, .inr (11, [w0, w1, .ref h0, w3, w4, w5, w6, w7, w8, w9, w10, w11, w12, w13]))]) (rest := []) ⟨hx, hb, hml, hown, hg, hl.1⟩ k_X11_120 (c_has l D cy h0 h1 v1 v2 v3 v4 v5 v6 v7 v8 v9 v10 v11 v12 v13 v14 v15 1 ka (by unfold vp_in; decide)) E0_blind hK hP hD hS hA [1, 2] [0] ⟨rfl, rfl, by decide, by decide, by decide⟩ rfl rfl (fun _ _ _ => trivial) dX11_cliff_6 rfl rfl (Nat.le_of_ble_eq_true rfl) ⟨Nat.le_of_ble_eq_true rfl, Nat.le_of_ble_eq_true rfl⟩ ⟨Nat.le_of_ble_eq_true rfl, Nat.le_of_ble_eq_true rfl⟩ (fun r1 u1 H locs hw1 hP hD hS => ?_)
  have hP : va_P D vwCl [(a0, .inr (11, [w0, w1, .ref h0, w3, w4, w5, w6, w7, w8, w9, w10, w11, w12, w13])), (h0, .inr (4, [.ref h1, v1, v2, v3, v4, v5, v6, v7, v8, v9, v10, v11, v12, v13, v14, v15])), (h1, .inl (cy 1, 4, .inl (fun _ => 0)))] H := hP
  have hD : va_D A [(a0, .inr (11, [w0, w1, .ref h0, w3, w4, w5, w6, w7, w8, w9, w10, w11, w12, w13])), (h0, .inr (4, [.ref h1, v1, v2, v3, v4, v5, v6, v7, v8, v9, v10, v11, v12, v13, v14, v15])), (h1, .inl (cy 1, 4, .inl (fun _ => 0)))] := hD
  refine W.widen (k := 0) (n := 0) (Nat.le_of_ble_eq_true rfl) (Nat.le_of_ble_eq_true rfl) ?_
  have hw1 : r1 = 0 := hw1
  subst hw1
  refine lv_if_ne (tgt := 14) hx hb dX11_cliff_9 (by decide) (fun h => absurd (by decide) h) (fun _ => ?_)
  refine lv_iconst (v := -1) hx hb dX11_cliff_12 (by decide) ?_
  exact x_iret hQ hx hb hr hlocks hK hP hD hS dX11_cliff_13 () (rfl) [] (by decide) rfl (Nat.le_of_ble_eq_true rfl) (Nat.le_of_ble_eq_true rfl)
theorem dX11_man_0 : decode cX11_man 0 = .ok (.aload_n 0, 1) := by decide +kernel
theorem dX11_man_1 : decode cX11_man 1 = .ok (.getfield 28, 3) := by decide +kernel
theorem dX11_man_4 : decode cX11_man 4 = .ok (.iconst 2, 1) := by decide +kernel
theorem dX11_man_5 : decode cX11_man 5 = .ok (.iload_n 1, 1) := by decide +kernel
theorem dX11_man_6 : decode cX11_man 6 = .ok (.invokevirtual 120, 3) := by decide +kernel
theorem dX11_man_9 : decode cX11_man 9 = .ok (.ifCond .ne 5, 3) := by decide +kernel
theorem dX11_man_12 : decode cX11_man 12 = .ok (.iconst (-1), 1) := by decide +kernel
theorem dX11_man_13 : decode cX11_man 13 = .ok (.ireturn, 1) := by decide +kernel
set_option maxHeartbeats 400000 in
set_option maxRecDepth 100000 in
theorem t_man (l : Launch) (D : va_G) (cy : Nat → ClassId) (a0 : Nat) (w0 : Value) (w1 : Value) (w3 : Value) (w4 : Value) (w5 : Value) (w6 : Value) (w7 : Value) (w8 : Value) (w9 : Value) (w10 : Value) (w11 : Value) (w12 : Value) (w13 : Value) (h0 : Nat) (h1 : Nat) (v1 : Value) (v2 : Value) (v3 : Value) (v4 : Value) (v5 : Value) (v6 : Value) (v7 : Value) (v8 : Value) (v9 : Value) (v10 : Value) (v11 : Value) (v12 : Value) (v13 : Value) (v14 : Value) (v15 : Value) (ka : Int32) (kb : Int32)  : XMi l D (tyL cy) E0 yX11_man cX11_man 3 (some .int) (rmk 2 0 0) [.ref a0, .int ka, .int kb] [(a0, .inr (11, [w0, w1, .ref h0, w3, w4, w5, w6, w7, w8, w9, w10, w11, w12, w13])), (h0, .inr (4, [.ref h1, v1, v2, v3, v4, v5, v6, v7, v8, v9, v10, v11, v12, v13, v14, v15])), (h1, .inl (cy 1, 4, .inl (fun _ => 0)))] (fun (r : Int32) (_ : Unit) => r = -1) (fun (_ : Unit) => []) := by
  refine XMi.start (by decide) (Nat.le_of_ble_eq_true rfl) ?_
  intro p e s m below meth c args A ls Q hat hQ
  obtain ⟨hx, hb, hr, hml, hown, hg, hlocks, hin, hK, hA, hP, hD, hS, hE, hl⟩ := hat
  have hown : s.vm.findClass RX11 = some m.cls := hown
  have hl : lv_has ls 3 [(0, .ref a0), (1, .int ka), (2, .int kb)] := hl
  refine lv_aload_n hx hb dX11_man_0 rfl (lv_at hl 0 rfl) ?_
  refine va_get (D := D) (ci := 11) (v := .ref h0) (C := RX11) (T := TX11) (N := 14) hx hb hg i_X11 hown hK hP 0 rfl rfl 2 (by decide) (hg _ m_660) (fun _ h9 => h9) rfl dX11_man_1 ?_
  refine lv_iconst (v := 2) hx hb dX11_man_4 (by decide) ?_
  refine lv_iload_n hx hb dX11_man_5 rfl (lv_at hl 1 rfl) ?_
  refine x_callVi (q := (RX4, TX4, 16)) (ci := 4) (q0 := 0) (wr := [(a0, .inr (11, [w0, w1, .ref h0, w3, w4, w5, w6, w7, w8, w9, w10, w11, w12, w13]))]) (rest := []) ⟨hx, hb, hml, hown, hg, hl.1⟩ k_X11_120 (c_has l D cy h0 h1 v1 v2 v3 v4 v5 v6 v7 v8 v9 v10 v11 v12 v13 v14 v15 2 ka (by unfold vp_in; decide)) E0_blind hK hP hD hS hA [1, 2] [0] ⟨rfl, rfl, by decide, by decide, by decide⟩ rfl rfl (fun _ _ _ => trivial) dX11_man_6 rfl rfl (Nat.le_of_ble_eq_true rfl) ⟨Nat.le_of_ble_eq_true rfl, Nat.le_of_ble_eq_true rfl⟩ ⟨Nat.le_of_ble_eq_true rfl, Nat.le_of_ble_eq_true rfl⟩ (fun r1 u1 H locs hw1 hP hD hS => ?_)
  have hP : va_P D vwCl [(a0, .inr (11, [w0, w1, .ref h0, w3, w4, w5, w6, w7, w8, w9, w10, w11, w12, w13])), (h0, .inr (4, [.ref h1, v1, v2, v3, v4, v5, v6, v7, v8, v9, v10, v11, v12, v13, v14, v15])), (h1, .inl (cy 1, 4, .inl (fun _ => 0)))] H := hP
  have hD : va_D A [(a0, .inr (11, [w0, w1, .ref h0, w3, w4, w5, w6, w7, w8, w9, w10, w11, w12, w13])), (h0, .inr (4, [.ref h1, v1, v2, v3, v4, v5, v6, v7, v8, v9, v10, v11, v12, v13, v14, v15])), (h1, .inl (cy 1, 4, .inl (fun _ => 0)))] := hD
  refine W.widen (k := 0) (n := 0) (Nat.le_of_ble_eq_true rfl) (Nat.le_of_ble_eq_true rfl) ?_
  have hw1 : r1 = 0 := hw1
  subst hw1
  refine lv_if_ne (tgt := 14) hx hb dX11_man_9 (by decide) (fun h => absurd (by decide) h) (fun _ => ?_)
  refine lv_iconst (v := -1) hx hb dX11_man_12 (by decide) ?_
  exact x_iret hQ hx hb hr hlocks hK hP hD hS dX11_man_13 () (rfl) [] (by decide) rfl (Nat.le_of_ble_eq_true rfl) (Nat.le_of_ble_eq_true rfl)
theorem dX11_leads_0 : decode cX11_leads 0 = .ok (.aload_n 0, 1) := by decide +kernel
theorem dX11_leads_1 : decode cX11_leads 1 = .ok (.getfield 28, 3) := by decide +kernel
theorem dX11_leads_4 : decode cX11_leads 4 = .ok (.iconst 3, 1) := by decide +kernel
theorem dX11_leads_5 : decode cX11_leads 5 = .ok (.iload_n 1, 1) := by decide +kernel
theorem dX11_leads_6 : decode cX11_leads 6 = .ok (.invokevirtual 120, 3) := by decide +kernel
theorem dX11_leads_9 : decode cX11_leads 9 = .ok (.ifCond .eq 15, 3) := by decide +kernel
theorem dX11_leads_24 : decode cX11_leads 24 = .ok (.iconst (-1), 1) := by decide +kernel
theorem dX11_leads_25 : decode cX11_leads 25 = .ok (.ireturn, 1) := by decide +kernel
set_option maxHeartbeats 400000 in
set_option maxRecDepth 100000 in
theorem t_leads (l : Launch) (D : va_G) (cy : Nat → ClassId) (a0 : Nat) (w0 : Value) (w1 : Value) (w3 : Value) (w4 : Value) (w5 : Value) (w6 : Value) (w7 : Value) (w8 : Value) (w9 : Value) (w10 : Value) (w11 : Value) (w12 : Value) (w13 : Value) (h0 : Nat) (h1 : Nat) (v1 : Value) (v2 : Value) (v3 : Value) (v4 : Value) (v5 : Value) (v6 : Value) (v7 : Value) (v8 : Value) (v9 : Value) (v10 : Value) (v11 : Value) (v12 : Value) (v13 : Value) (v14 : Value) (v15 : Value) (ka : Int32) (kb : Int32)  : XMi l D (tyL cy) E0 yX11_leads cX11_leads 3 (some .int) (rmk 2 0 0) [.ref a0, .int ka, .int kb] [(a0, .inr (11, [w0, w1, .ref h0, w3, w4, w5, w6, w7, w8, w9, w10, w11, w12, w13])), (h0, .inr (4, [.ref h1, v1, v2, v3, v4, v5, v6, v7, v8, v9, v10, v11, v12, v13, v14, v15])), (h1, .inl (cy 1, 4, .inl (fun _ => 0)))] (fun (r : Int32) (_ : Unit) => r = -1) (fun (_ : Unit) => []) := by
  refine XMi.start (by decide) (Nat.le_of_ble_eq_true rfl) ?_
  intro p e s m below meth c args A ls Q hat hQ
  obtain ⟨hx, hb, hr, hml, hown, hg, hlocks, hin, hK, hA, hP, hD, hS, hE, hl⟩ := hat
  have hown : s.vm.findClass RX11 = some m.cls := hown
  have hl : lv_has ls 3 [(0, .ref a0), (1, .int ka), (2, .int kb)] := hl
  refine lv_aload_n hx hb dX11_leads_0 rfl (lv_at hl 0 rfl) ?_
  refine va_get (D := D) (ci := 11) (v := .ref h0) (C := RX11) (T := TX11) (N := 14) hx hb hg i_X11 hown hK hP 0 rfl rfl 2 (by decide) (hg _ m_660) (fun _ h9 => h9) rfl dX11_leads_1 ?_
  refine lv_iconst (v := 3) hx hb dX11_leads_4 (by decide) ?_
  refine lv_iload_n hx hb dX11_leads_5 rfl (lv_at hl 1 rfl) ?_
  refine x_callVi (q := (RX4, TX4, 16)) (ci := 4) (q0 := 0) (wr := [(a0, .inr (11, [w0, w1, .ref h0, w3, w4, w5, w6, w7, w8, w9, w10, w11, w12, w13]))]) (rest := []) ⟨hx, hb, hml, hown, hg, hl.1⟩ k_X11_120 (c_has l D cy h0 h1 v1 v2 v3 v4 v5 v6 v7 v8 v9 v10 v11 v12 v13 v14 v15 3 ka (by unfold vp_in; decide)) E0_blind hK hP hD hS hA [1, 2] [0] ⟨rfl, rfl, by decide, by decide, by decide⟩ rfl rfl (fun _ _ _ => trivial) dX11_leads_6 rfl rfl (Nat.le_of_ble_eq_true rfl) ⟨Nat.le_of_ble_eq_true rfl, Nat.le_of_ble_eq_true rfl⟩ ⟨Nat.le_of_ble_eq_true rfl, Nat.le_of_ble_eq_true rfl⟩ (fun r1 u1 H locs hw1 hP hD hS => ?_)
  have hP : va_P D vwCl [(a0, .inr (11, [w0, w1, .ref h0, w3, w4, w5, w6, w7, w8, w9, w10, w11, w12, w13])), (h0, .inr (4, [.ref h1, v1, v2, v3, v4, v5, v6, v7, v8, v9, v10, v11, v12, v13, v14, v15])), (h1, .inl (cy 1, 4, .inl (fun _ => 0)))] H := hP
  have hD : va_D A [(a0, .inr (11, [w0, w1, .ref h0, w3, w4, w5, w6, w7, w8, w9, w10, w11, w12, w13])), (h0, .inr (4, [.ref h1, v1, v2, v3, v4, v5, v6, v7, v8, v9, v10, v11, v12, v13, v14, v15])), (h1, .inl (cy 1, 4, .inl (fun _ => 0)))] := hD
  refine W.widen (k := 0) (n := 0) (Nat.le_of_ble_eq_true rfl) (Nat.le_of_ble_eq_true rfl) ?_
  have hw1 : r1 = 0 := hw1
  subst hw1
  refine lv_if_eq (tgt := 24) hx hb dX11_leads_9 (by decide) (fun _ => ?_) (fun h => absurd (by decide) h)
  refine lv_iconst (v := -1) hx hb dX11_leads_24 (by decide) ?_
  exact x_iret hQ hx hb hr hlocks hK hP hD hS dX11_leads_25 () (rfl) [] (by decide) rfl (Nat.le_of_ble_eq_true rfl) (Nat.le_of_ble_eq_true rfl)
theorem dX11_say_0 : decode cX11_say 0 = .ok (.iload_n 1, 1) := by decide +kernel
theorem dX11_say_1 : decode cX11_say 1 = .ok (.invokestatic 143, 3) := by decide +kernel
theorem m_969 : (Cond.methodLink RX11 143 yX11_isCry) ∈ gT := gm 969 (by decide +kernel) (by decide +kernel)
theorem m_970 : (Cond.static yX11_isCry) ∈ gT := gm 970 (by decide +kernel) (by decide +kernel)
theorem m_130 : (Cond.initialized RX11) ∈ gT := gm 130 (by decide +kernel) (by decide +kernel)
theorem m_971 : (Cond.code yX11_isCry cX11_isCry 1 (some .boolean)) ∈ gT := gm 971 (by decide +kernel) (by decide +kernel)
theorem k_X11_143 : xS RX11 143 yX11_isCry cX11_isCry 1 (some .boolean) 1 := ⟨⟨m_969, m_970, m_130, m_971⟩, by decide, by decide, by decide +kernel⟩
theorem dX11_say_4 : decode cX11_say 4 = .ok (.ifCond .eq 28, 3) := by decide +kernel
theorem dX11_say_32 : decode cX11_say 32 = .ok (.iconst (-1), 1) := by decide +kernel
theorem dX11_say_33 : decode cX11_say 33 = .ok (.ireturn, 1) := by decide +kernel
theorem dX11_say_7 : decode cX11_say 7 = .ok (.aload_n 0, 1) := by decide +kernel
theorem dX11_say_8 : decode cX11_say 8 = .ok (.getfield 28, 3) := by decide +kernel
theorem dX11_say_11 : decode cX11_say 11 = .ok (.iconst 0, 1) := by decide +kernel
theorem dX11_say_12 : decode cX11_say 12 = .ok (.iload_n 2, 1) := by decide +kernel
theorem dX11_say_13 : decode cX11_say 13 = .ok (.invokevirtual 120, 3) := by decide +kernel
theorem dX11_say_16 : decode cX11_say 16 = .ok (.ifCond .eq 16, 3) := by decide +kernel
set_option maxHeartbeats 400000 in
set_option maxRecDepth 100000 in
theorem t_say (l : Launch) (D : va_G) (cy : Nat → ClassId) (a0 : Nat) (w0 : Value) (w1 : Value) (w3 : Value) (w4 : Value) (w5 : Value) (w6 : Value) (w7 : Value) (w8 : Value) (w9 : Value) (w10 : Value) (w11 : Value) (w12 : Value) (w13 : Value) (h0 : Nat) (h1 : Nat) (v1 : Value) (v2 : Value) (v3 : Value) (v4 : Value) (v5 : Value) (v6 : Value) (v7 : Value) (v8 : Value) (v9 : Value) (v10 : Value) (v11 : Value) (v12 : Value) (v13 : Value) (v14 : Value) (v15 : Value) (ka : Int32) (kb : Int32)  : XMi l D (tyL cy) E0 yX11_say cX11_say 3 (some .int) (rmk 2 0 0) [.ref a0, .int ka, .int kb] [(a0, .inr (11, [w0, w1, .ref h0, w3, w4, w5, w6, w7, w8, w9, w10, w11, w12, w13])), (h0, .inr (4, [.ref h1, v1, v2, v3, v4, v5, v6, v7, v8, v9, v10, v11, v12, v13, v14, v15])), (h1, .inl (cy 1, 4, .inl (fun _ => 0)))] (fun (r : Int32) (_ : Unit) => r = -1) (fun (_ : Unit) => []) := by
  refine XMi.start (by decide) (Nat.le_of_ble_eq_true rfl) ?_
  intro p e s m below meth c args A ls Q hat hQ
  obtain ⟨hx, hb, hr, hml, hown, hg, hlocks, hin, hK, hA, hP, hD, hS, hE, hl⟩ := hat
  have hown : s.vm.findClass RX11 = some m.cls := hown
  have hl : lv_has ls 3 [(0, .ref a0), (1, .int ka), (2, .int kb)] := hl
  refine lv_iload_n hx hb dX11_say_0 rfl (lv_at hl 1 rfl) ?_
  refine x_callSi (wr := [(a0, .inr (11, [w0, w1, .ref h0, w3, w4, w5, w6, w7, w8, w9, w10, w11, w12, w13])), (h0, .inr (4, [.ref h1, v1, v2, v3, v4, v5, v6, v7, v8, v9, v10, v11, v12, v13, v14, v15])), (h1, .inl (cy 1, 4, .inl (fun _ => 0)))]) (rest := []) ⟨hx, hb, hml, hown, hg, hl.1⟩ k_X11_143 (c_isCry l D cy ka) E0_blind hK hP hD hS hA [] [0, 1, 2] ⟨rfl, rfl, by decide, by decide, by decide⟩ (fun _ _ _ => trivial) dX11_say_1 rfl rfl (Nat.le_of_ble_eq_true rfl) ⟨Nat.le_of_ble_eq_true rfl, Nat.le_of_ble_eq_true rfl⟩ ⟨Nat.le_of_ble_eq_true rfl, Nat.le_of_ble_eq_true rfl⟩ (fun r1 u1 H locs hw1 hP hD hS => ?_)
  have hP : va_P D vwCl [(a0, .inr (11, [w0, w1, .ref h0, w3, w4, w5, w6, w7, w8, w9, w10, w11, w12, w13])), (h0, .inr (4, [.ref h1, v1, v2, v3, v4, v5, v6, v7, v8, v9, v10, v11, v12, v13, v14, v15])), (h1, .inl (cy 1, 4, .inl (fun _ => 0)))] H := hP
  have hD : va_D A [(a0, .inr (11, [w0, w1, .ref h0, w3, w4, w5, w6, w7, w8, w9, w10, w11, w12, w13])), (h0, .inr (4, [.ref h1, v1, v2, v3, v4, v5, v6, v7, v8, v9, v10, v11, v12, v13, v14, v15])), (h1, .inl (cy 1, 4, .inl (fun _ => 0)))] := hD
  refine W.widen (k := 0) (n := 0) (Nat.le_of_ble_eq_true rfl) (Nat.le_of_ble_eq_true rfl) ?_
  have hw1 : r1 = 0 ∨ ka = 0 ∨ ka = 1 := hw1
  refine lv_if_eq (tgt := 32) hx hb dX11_say_4 (by decide) (fun c_4 => ?_) (fun c_4 => ?_)
  · refine lv_iconst (v := -1) hx hb dX11_say_32 (by decide) ?_
    exact x_iret hQ hx hb hr hlocks hK hP hD hS dX11_say_33 () (rfl) [] (by decide) rfl (Nat.le_of_ble_eq_true rfl) (Nat.le_of_ble_eq_true rfl)
  · refine lv_aload_n hx hb dX11_say_7 rfl (lv_at hl 0 rfl) ?_
    refine va_get (D := D) (ci := 11) (v := .ref h0) (C := RX11) (T := TX11) (N := 14) hx hb hg i_X11 hown hK hP 0 rfl rfl 2 (by decide) (hg _ m_660) (fun _ h9 => h9) rfl dX11_say_8 ?_
    refine lv_iconst (v := 0) hx hb dX11_say_11 (by decide) ?_
    refine lv_iload_n hx hb dX11_say_12 rfl (lv_at hl 2 rfl) ?_
    refine x_callVi (q := (RX4, TX4, 16)) (ci := 4) (q0 := 0) (wr := [(a0, .inr (11, [w0, w1, .ref h0, w3, w4, w5, w6, w7, w8, w9, w10, w11, w12, w13]))]) (rest := []) ⟨hx, hb, hml, hown, hg, hl.1⟩ k_X11_120 (c_has l D cy h0 h1 v1 v2 v3 v4 v5 v6 v7 v8 v9 v10 v11 v12 v13 v14 v15 0 kb (by unfold vp_in; decide)) E0_blind hK hP hD hS hA [1, 2] [0] ⟨rfl, rfl, by decide, by decide, by decide⟩ rfl rfl (fun _ _ _ => trivial) dX11_say_13 rfl rfl (Nat.le_of_ble_eq_true rfl) ⟨Nat.le_of_ble_eq_true rfl, Nat.le_of_ble_eq_true rfl⟩ ⟨Nat.le_of_ble_eq_true rfl, Nat.le_of_ble_eq_true rfl⟩ (fun r2 u2 H locs hw2 hP hD hS => ?_)
    have hP : va_P D vwCl [(a0, .inr (11, [w0, w1, .ref h0, w3, w4, w5, w6, w7, w8, w9, w10, w11, w12, w13])), (h0, .inr (4, [.ref h1, v1, v2, v3, v4, v5, v6, v7, v8, v9, v10, v11, v12, v13, v14, v15])), (h1, .inl (cy 1, 4, .inl (fun _ => 0)))] H := hP
    have hD : va_D A [(a0, .inr (11, [w0, w1, .ref h0, w3, w4, w5, w6, w7, w8, w9, w10, w11, w12, w13])), (h0, .inr (4, [.ref h1, v1, v2, v3, v4, v5, v6, v7, v8, v9, v10, v11, v12, v13, v14, v15])), (h1, .inl (cy 1, 4, .inl (fun _ => 0)))] := hD
    refine W.widen (k := 0) (n := 0) (Nat.le_of_ble_eq_true rfl) (Nat.le_of_ble_eq_true rfl) ?_
    have hw2 : r2 = 0 := hw2
    subst hw2
    refine lv_if_eq (tgt := 32) hx hb dX11_say_16 (by decide) (fun _ => ?_) (fun h => absurd (by decide) h)
    refine lv_iconst (v := -1) hx hb dX11_say_32 (by decide) ?_
    exact x_iret hQ hx hb hr hlocks hK hP hD hS dX11_say_33 () (rfl) [] (by decide) rfl (Nat.le_of_ble_eq_true rfl) (Nat.le_of_ble_eq_true rfl)
theorem dX11_call_0 : decode cX11_call 0 = .ok (.aload_n 0, 1) := by decide +kernel
theorem dX11_call_1 : decode cX11_call 1 = .ok (.getfield 28, 3) := by decide +kernel
theorem dX11_call_4 : decode cX11_call 4 = .ok (.iconst 2, 1) := by decide +kernel
theorem dX11_call_5 : decode cX11_call 5 = .ok (.iload_n 1, 1) := by decide +kernel
theorem dX11_call_6 : decode cX11_call 6 = .ok (.invokevirtual 120, 3) := by decide +kernel
theorem dX11_call_9 : decode cX11_call 9 = .ok (.ifCond .ne 5, 3) := by decide +kernel
theorem dX11_call_12 : decode cX11_call 12 = .ok (.iconst (-1), 1) := by decide +kernel
theorem dX11_call_13 : decode cX11_call 13 = .ok (.ireturn, 1) := by decide +kernel
set_option maxHeartbeats 400000 in
set_option maxRecDepth 100000 in
theorem t_call (l : Launch) (D : va_G) (cy : Nat → ClassId) (a0 : Nat) (w0 : Value) (w1 : Value) (w3 : Value) (w4 : Value) (w5 : Value) (w6 : Value) (w7 : Value) (w8 : Value) (w9 : Value) (w10 : Value) (w11 : Value) (w12 : Value) (w13 : Value) (h0 : Nat) (h1 : Nat) (v1 : Value) (v2 : Value) (v3 : Value) (v4 : Value) (v5 : Value) (v6 : Value) (v7 : Value) (v8 : Value) (v9 : Value) (v10 : Value) (v11 : Value) (v12 : Value) (v13 : Value) (v14 : Value) (v15 : Value) (ka : Int32)  : XMi l D (tyL cy) E0 yX11_call cX11_call 3 (some .int) (rmk 2 0 0) [.ref a0, .int ka] [(a0, .inr (11, [w0, w1, .ref h0, w3, w4, w5, w6, w7, w8, w9, w10, w11, w12, w13])), (h0, .inr (4, [.ref h1, v1, v2, v3, v4, v5, v6, v7, v8, v9, v10, v11, v12, v13, v14, v15])), (h1, .inl (cy 1, 4, .inl (fun _ => 0)))] (fun (r : Int32) (_ : Unit) => r = -1) (fun (_ : Unit) => []) := by
  refine XMi.start (by decide) (Nat.le_of_ble_eq_true rfl) ?_
  intro p e s m below meth c args A ls Q hat hQ
  obtain ⟨hx, hb, hr, hml, hown, hg, hlocks, hin, hK, hA, hP, hD, hS, hE, hl⟩ := hat
  have hown : s.vm.findClass RX11 = some m.cls := hown
  have hl : lv_has ls 3 [(0, .ref a0), (1, .int ka)] := hl
  refine lv_aload_n hx hb dX11_call_0 rfl (lv_at hl 0 rfl) ?_
  refine va_get (D := D) (ci := 11) (v := .ref h0) (C := RX11) (T := TX11) (N := 14) hx hb hg i_X11 hown hK hP 0 rfl rfl 2 (by decide) (hg _ m_660) (fun _ h9 => h9) rfl dX11_call_1 ?_
  refine lv_iconst (v := 2) hx hb dX11_call_4 (by decide) ?_
  refine lv_iload_n hx hb dX11_call_5 rfl (lv_at hl 1 rfl) ?_
  refine x_callVi (q := (RX4, TX4, 16)) (ci := 4) (q0 := 0) (wr := [(a0, .inr (11, [w0, w1, .ref h0, w3, w4, w5, w6, w7, w8, w9, w10, w11, w12, w13]))]) (rest := []) ⟨hx, hb, hml, hown, hg, hl.1⟩ k_X11_120 (c_has l D cy h0 h1 v1 v2 v3 v4 v5 v6 v7 v8 v9 v10 v11 v12 v13 v14 v15 2 ka (by unfold vp_in; decide)) E0_blind hK hP hD hS hA [1, 2] [0] ⟨rfl, rfl, by decide, by decide, by decide⟩ rfl rfl (fun _ _ _ => trivial) dX11_call_6 rfl rfl (Nat.le_of_ble_eq_true rfl) ⟨Nat.le_of_ble_eq_true rfl, Nat.le_of_ble_eq_true rfl⟩ ⟨Nat.le_of_ble_eq_true rfl, Nat.le_of_ble_eq_true rfl⟩ (fun r1 u1 H locs hw1 hP hD hS => ?_)
  have hP : va_P D vwCl [(a0, .inr (11, [w0, w1, .ref h0, w3, w4, w5, w6, w7, w8, w9, w10, w11, w12, w13])), (h0, .inr (4, [.ref h1, v1, v2, v3, v4, v5, v6, v7, v8, v9, v10, v11, v12, v13, v14, v15])), (h1, .inl (cy 1, 4, .inl (fun _ => 0)))] H := hP
  have hD : va_D A [(a0, .inr (11, [w0, w1, .ref h0, w3, w4, w5, w6, w7, w8, w9, w10, w11, w12, w13])), (h0, .inr (4, [.ref h1, v1, v2, v3, v4, v5, v6, v7, v8, v9, v10, v11, v12, v13, v14, v15])), (h1, .inl (cy 1, 4, .inl (fun _ => 0)))] := hD
  refine W.widen (k := 0) (n := 0) (Nat.le_of_ble_eq_true rfl) (Nat.le_of_ble_eq_true rfl) ?_
  have hw1 : r1 = 0 := hw1
  subst hw1
  refine lv_if_ne (tgt := 14) hx hb dX11_call_9 (by decide) (fun h => absurd (by decide) h) (fun _ => ?_)
  refine lv_iconst (v := -1) hx hb dX11_call_12 (by decide) ?_
  exact x_iret hQ hx hb hr hlocks hK hP hD hS dX11_call_13 () (rfl) [] (by decide) rfl (Nat.le_of_ble_eq_true rfl) (Nat.le_of_ble_eq_true rfl)
theorem dX11_sweep_0 : decode cX11_sweep 0 = .ok (.aload_n 0, 1) := by decide +kernel
theorem dX11_sweep_1 : decode cX11_sweep 1 = .ok (.getfield 28, 3) := by decide +kernel
theorem dX11_sweep_4 : decode cX11_sweep 4 = .ok (.iconst 1, 1) := by decide +kernel
theorem dX11_sweep_5 : decode cX11_sweep 5 = .ok (.iload_n 1, 1) := by decide +kernel
theorem dX11_sweep_6 : decode cX11_sweep 6 = .ok (.invokevirtual 120, 3) := by decide +kernel
theorem dX11_sweep_9 : decode cX11_sweep 9 = .ok (.ifCond .ne 5, 3) := by decide +kernel
theorem dX11_sweep_12 : decode cX11_sweep 12 = .ok (.iconst (-1), 1) := by decide +kernel
theorem dX11_sweep_13 : decode cX11_sweep 13 = .ok (.ireturn, 1) := by decide +kernel
set_option maxHeartbeats 400000 in
set_option maxRecDepth 100000 in
theorem t_sweep (l : Launch) (D : va_G) (cy : Nat → ClassId) (a0 : Nat) (w0 : Value) (w1 : Value) (w3 : Value) (w4 : Value) (w5 : Value) (w6 : Value) (w7 : Value) (w8 : Value) (w9 : Value) (w10 : Value) (w11 : Value) (w12 : Value) (w13 : Value) (h0 : Nat) (h1 : Nat) (v1 : Value) (v2 : Value) (v3 : Value) (v4 : Value) (v5 : Value) (v6 : Value) (v7 : Value) (v8 : Value) (v9 : Value) (v10 : Value) (v11 : Value) (v12 : Value) (v13 : Value) (v14 : Value) (v15 : Value) (ka : Int32)  : XMi l D (tyL cy) E0 yX11_sweep cX11_sweep 2 (some .int) (rmk 2 0 0) [.ref a0, .int ka] [(a0, .inr (11, [w0, w1, .ref h0, w3, w4, w5, w6, w7, w8, w9, w10, w11, w12, w13])), (h0, .inr (4, [.ref h1, v1, v2, v3, v4, v5, v6, v7, v8, v9, v10, v11, v12, v13, v14, v15])), (h1, .inl (cy 1, 4, .inl (fun _ => 0)))] (fun (r : Int32) (_ : Unit) => r = -1) (fun (_ : Unit) => []) := by
  refine XMi.start (by decide) (Nat.le_of_ble_eq_true rfl) ?_
  intro p e s m below meth c args A ls Q hat hQ
  obtain ⟨hx, hb, hr, hml, hown, hg, hlocks, hin, hK, hA, hP, hD, hS, hE, hl⟩ := hat
  have hown : s.vm.findClass RX11 = some m.cls := hown
  have hl : lv_has ls 2 [(0, .ref a0), (1, .int ka)] := hl
  refine lv_aload_n hx hb dX11_sweep_0 rfl (lv_at hl 0 rfl) ?_
  refine va_get (D := D) (ci := 11) (v := .ref h0) (C := RX11) (T := TX11) (N := 14) hx hb hg i_X11 hown hK hP 0 rfl rfl 2 (by decide) (hg _ m_660) (fun _ h9 => h9) rfl dX11_sweep_1 ?_
  refine lv_iconst (v := 1) hx hb dX11_sweep_4 (by decide) ?_
  refine lv_iload_n hx hb dX11_sweep_5 rfl (lv_at hl 1 rfl) ?_
  refine x_callVi (q := (RX4, TX4, 16)) (ci := 4) (q0 := 0) (wr := [(a0, .inr (11, [w0, w1, .ref h0, w3, w4, w5, w6, w7, w8, w9, w10, w11, w12, w13]))]) (rest := []) ⟨hx, hb, hml, hown, hg, hl.1⟩ k_X11_120 (c_has l D cy h0 h1 v1 v2 v3 v4 v5 v6 v7 v8 v9 v10 v11 v12 v13 v14 v15 1 ka (by unfold vp_in; decide)) E0_blind hK hP hD hS hA [1, 2] [0] ⟨rfl, rfl, by decide, by decide, by decide⟩ rfl rfl (fun _ _ _ => trivial) dX11_sweep_6 rfl rfl (Nat.le_of_ble_eq_true rfl) ⟨Nat.le_of_ble_eq_true rfl, Nat.le_of_ble_eq_true rfl⟩ ⟨Nat.le_of_ble_eq_true rfl, Nat.le_of_ble_eq_true rfl⟩ (fun r1 u1 H locs hw1 hP hD hS => ?_)
  have hP : va_P D vwCl [(a0, .inr (11, [w0, w1, .ref h0, w3, w4, w5, w6, w7, w8, w9, w10, w11, w12, w13])), (h0, .inr (4, [.ref h1, v1, v2, v3, v4, v5, v6, v7, v8, v9, v10, v11, v12, v13, v14, v15])), (h1, .inl (cy 1, 4, .inl (fun _ => 0)))] H := hP
  have hD : va_D A [(a0, .inr (11, [w0, w1, .ref h0, w3, w4, w5, w6, w7, w8, w9, w10, w11, w12, w13])), (h0, .inr (4, [.ref h1, v1, v2, v3, v4, v5, v6, v7, v8, v9, v10, v11, v12, v13, v14, v15])), (h1, .inl (cy 1, 4, .inl (fun _ => 0)))] := hD
  refine W.widen (k := 0) (n := 0) (Nat.le_of_ble_eq_true rfl) (Nat.le_of_ble_eq_true rfl) ?_
  have hw1 : r1 = 0 := hw1
  subst hw1
  refine lv_if_ne (tgt := 14) hx hb dX11_sweep_9 (by decide) (fun h => absurd (by decide) h) (fun _ => ?_)
  refine lv_iconst (v := -1) hx hb dX11_sweep_12 (by decide) ?_
  exact x_iret hQ hx hb hr hlocks hK hP hD hS dX11_sweep_13 () (rfl) [] (by decide) rfl (Nat.le_of_ble_eq_true rfl) (Nat.le_of_ble_eq_true rfl)
theorem dX11_echo_0 : decode cX11_echo 0 = .ok (.aload_n 0, 1) := by decide +kernel
theorem dX11_echo_1 : decode cX11_echo 1 = .ok (.iconst 0, 1) := by decide +kernel
theorem dX11_echo_2 : decode cX11_echo 2 = .ok (.putfield 89, 3) := by decide +kernel
theorem m_671 : (Cond.fieldLink RX11 89 "CliffJudges" "lyingCount" "I") ∈ gT := gm 671 (by decide +kernel) (by decide +kernel)
theorem dX11_echo_5 : decode cX11_echo 5 = .ok (.aload_n 0, 1) := by decide +kernel
theorem dX11_echo_6 : decode cX11_echo 6 = .ok (.getfield 28, 3) := by decide +kernel
theorem dX11_echo_9 : decode cX11_echo 9 = .ok (.iconst 2, 1) := by decide +kernel
theorem dX11_echo_10 : decode cX11_echo 10 = .ok (.iload_n 1, 1) := by decide +kernel
theorem dX11_echo_11 : decode cX11_echo 11 = .ok (.invokevirtual 120, 3) := by decide +kernel
theorem dX11_echo_14 : decode cX11_echo 14 = .ok (.ifCond .eq 15, 3) := by decide +kernel
theorem dX11_echo_29 : decode cX11_echo 29 = .ok (.iconst (-1), 1) := by decide +kernel
theorem dX11_echo_30 : decode cX11_echo 30 = .ok (.ireturn, 1) := by decide +kernel
set_option maxHeartbeats 400000 in
set_option maxRecDepth 100000 in
theorem t_echo (l : Launch) (D : va_G) (cy : Nat → ClassId) (a0 : Nat) (w0 : Value) (w1 : Value) (w3 : Value) (w4 : Value) (w5 : Value) (w6 : Value) (w7 : Value) (w8 : Value) (w9 : Value) (w10 : Value) (w11 : Value) (w12 : Value) (w13 : Value) (h0 : Nat) (h1 : Nat) (v1 : Value) (v2 : Value) (v3 : Value) (v4 : Value) (v5 : Value) (v6 : Value) (v7 : Value) (v8 : Value) (v9 : Value) (v10 : Value) (v11 : Value) (v12 : Value) (v13 : Value) (v14 : Value) (v15 : Value) (ka : Int32) (kb : Int32)  : XMi l D (tyL cy) E0 yX11_echo cX11_echo 4 (some .int) (rmk 2 0 0) [.ref a0, .int ka, .int kb] [(a0, .inr (11, [w0, w1, .ref h0, w3, w4, w5, w6, w7, w8, w9, w10, w11, w12, w13])), (h0, .inr (4, [.ref h1, v1, v2, v3, v4, v5, v6, v7, v8, v9, v10, v11, v12, v13, v14, v15])), (h1, .inl (cy 1, 4, .inl (fun _ => 0)))] (fun (r : Int32) (_ : Unit) => r = -1) (fun (_ : Unit) => []) := by
  refine XMi.start (by decide) (Nat.le_of_ble_eq_true rfl) ?_
  intro p e s m below meth c args A ls Q hat hQ
  obtain ⟨hx, hb, hr, hml, hown, hg, hlocks, hin, hK, hA, hP, hD, hS, hE, hl⟩ := hat
  have hown : s.vm.findClass RX11 = some m.cls := hown
  have hl : lv_has ls 4 [(0, .ref a0), (1, .int ka), (2, .int kb)] := hl
  refine lv_aload_n hx hb dX11_echo_0 rfl (lv_at hl 0 rfl) ?_
  refine lv_iconst (v := 0) hx hb dX11_echo_1 (by decide) ?_
  refine va_put (D := D) (ci := 11) (v := .int 0) (ty := .int) (C := RX11) (T := TX11) (N := 14) hx hb hg i_X11 tyX11 tyX11_ok nmX11 hown hK hP hD hS 0 rfl rfl 13 (by decide) (hg _ m_671) (fun _ h9 => h9) rfl (by decide +kernel) rfl rfl (Nat.le_of_ble_eq_true rfl) dX11_echo_2 (fun H locs hP hD hS => ?_)
  have hP : va_P D vwCl [(a0, .inr (11, [w0, w1, .ref h0, w3, w4, w5, w6, w7, w8, w9, w10, w11, w12, .int 0])), (h0, .inr (4, [.ref h1, v1, v2, v3, v4, v5, v6, v7, v8, v9, v10, v11, v12, v13, v14, v15])), (h1, .inl (cy 1, 4, .inl (fun _ => 0)))] H := hP
  have hD : va_D A [(a0, .inr (11, [w0, w1, .ref h0, w3, w4, w5, w6, w7, w8, w9, w10, w11, w12, .int 0])), (h0, .inr (4, [.ref h1, v1, v2, v3, v4, v5, v6, v7, v8, v9, v10, v11, v12, v13, v14, v15])), (h1, .inl (cy 1, 4, .inl (fun _ => 0)))] := hD
  refine lv_aload_n hx hb dX11_echo_5 rfl (lv_at hl 0 rfl) ?_
  refine va_get (D := D) (ci := 11) (v := .ref h0) (C := RX11) (T := TX11) (N := 14) hx hb hg i_X11 hown hK hP 0 rfl rfl 2 (by decide) (hg _ m_660) (fun _ h9 => h9) rfl dX11_echo_6 ?_
  refine lv_iconst (v := 2) hx hb dX11_echo_9 (by decide) ?_
  refine lv_iload_n hx hb dX11_echo_10 rfl (lv_at hl 1 rfl) ?_
  refine x_callVi (q := (RX4, TX4, 16)) (ci := 4) (q0 := 0) (wr := [(a0, .inr (11, [w0, w1, .ref h0, w3, w4, w5, w6, w7, w8, w9, w10, w11, w12, .int 0]))]) (rest := []) ⟨hx, hb, hml, hown, hg, hl.1⟩ k_X11_120 (c_has l D cy h0 h1 v1 v2 v3 v4 v5 v6 v7 v8 v9 v10 v11 v12 v13 v14 v15 2 ka (by unfold vp_in; decide)) E0_blind hK hP hD hS hA [1, 2] [0] ⟨rfl, rfl, by decide, by decide, by decide⟩ rfl rfl (fun _ _ _ => trivial) dX11_echo_11 rfl rfl (Nat.le_of_ble_eq_true rfl) ⟨Nat.le_of_ble_eq_true rfl, Nat.le_of_ble_eq_true rfl⟩ ⟨Nat.le_of_ble_eq_true rfl, Nat.le_of_ble_eq_true rfl⟩ (fun r1 u1 H locs hw1 hP hD hS => ?_)
  have hP : va_P D vwCl [(a0, .inr (11, [w0, w1, .ref h0, w3, w4, w5, w6, w7, w8, w9, w10, w11, w12, .int 0])), (h0, .inr (4, [.ref h1, v1, v2, v3, v4, v5, v6, v7, v8, v9, v10, v11, v12, v13, v14, v15])), (h1, .inl (cy 1, 4, .inl (fun _ => 0)))] H := hP
  have hD : va_D A [(a0, .inr (11, [w0, w1, .ref h0, w3, w4, w5, w6, w7, w8, w9, w10, w11, w12, .int 0])), (h0, .inr (4, [.ref h1, v1, v2, v3, v4, v5, v6, v7, v8, v9, v10, v11, v12, v13, v14, v15])), (h1, .inl (cy 1, 4, .inl (fun _ => 0)))] := hD
  refine W.widen (k := 0) (n := 0) (Nat.le_of_ble_eq_true rfl) (Nat.le_of_ble_eq_true rfl) ?_
  have hw1 : r1 = 0 := hw1
  subst hw1
  refine lv_if_eq (tgt := 29) hx hb dX11_echo_14 (by decide) (fun _ => ?_) (fun h => absurd (by decide) h)
  refine lv_iconst (v := -1) hx hb dX11_echo_29 (by decide) ?_
  exact x_iret hQ hx hb hr hlocks hK hP hD hS dX11_echo_30 () (rfl) [] (by decide) rfl (Nat.le_of_ble_eq_true rfl) (Nat.le_of_ble_eq_true rfl)
theorem dX11_answers_0 : decode cX11_answers 0 = .ok (.aload_n 0, 1) := by decide +kernel
theorem dX11_answers_1 : decode cX11_answers 1 = .ok (.getfield 28, 3) := by decide +kernel
theorem dX11_answers_4 : decode cX11_answers 4 = .ok (.iconst 2, 1) := by decide +kernel
theorem dX11_answers_5 : decode cX11_answers 5 = .ok (.iload_n 1, 1) := by decide +kernel
theorem dX11_answers_6 : decode cX11_answers 6 = .ok (.invokevirtual 120, 3) := by decide +kernel
theorem dX11_answers_9 : decode cX11_answers 9 = .ok (.ifCond .eq 12, 3) := by decide +kernel
theorem dX11_answers_21 : decode cX11_answers 21 = .ok (.iconst (-1), 1) := by decide +kernel
theorem dX11_answers_22 : decode cX11_answers 22 = .ok (.ireturn, 1) := by decide +kernel
set_option maxHeartbeats 400000 in
set_option maxRecDepth 100000 in
theorem t_answers (l : Launch) (D : va_G) (cy : Nat → ClassId) (a0 : Nat) (w0 : Value) (w1 : Value) (w3 : Value) (w4 : Value) (w5 : Value) (w6 : Value) (w7 : Value) (w8 : Value) (w9 : Value) (w10 : Value) (w11 : Value) (w12 : Value) (w13 : Value) (h0 : Nat) (h1 : Nat) (v1 : Value) (v2 : Value) (v3 : Value) (v4 : Value) (v5 : Value) (v6 : Value) (v7 : Value) (v8 : Value) (v9 : Value) (v10 : Value) (v11 : Value) (v12 : Value) (v13 : Value) (v14 : Value) (v15 : Value) (ka : Int32) (kb : Int32)  : XMi l D (tyL cy) E0 yX11_answers cX11_answers 6 (some .int) (rmk 2 0 0) [.ref a0, .int ka, .int kb] [(a0, .inr (11, [w0, w1, .ref h0, w3, w4, w5, w6, w7, w8, w9, w10, w11, w12, w13])), (h0, .inr (4, [.ref h1, v1, v2, v3, v4, v5, v6, v7, v8, v9, v10, v11, v12, v13, v14, v15])), (h1, .inl (cy 1, 4, .inl (fun _ => 0)))] (fun (r : Int32) (_ : Unit) => r = -1) (fun (_ : Unit) => []) := by
  refine XMi.start (by decide) (Nat.le_of_ble_eq_true rfl) ?_
  intro p e s m below meth c args A ls Q hat hQ
  obtain ⟨hx, hb, hr, hml, hown, hg, hlocks, hin, hK, hA, hP, hD, hS, hE, hl⟩ := hat
  have hown : s.vm.findClass RX11 = some m.cls := hown
  have hl : lv_has ls 6 [(0, .ref a0), (1, .int ka), (2, .int kb)] := hl
  refine lv_aload_n hx hb dX11_answers_0 rfl (lv_at hl 0 rfl) ?_
  refine va_get (D := D) (ci := 11) (v := .ref h0) (C := RX11) (T := TX11) (N := 14) hx hb hg i_X11 hown hK hP 0 rfl rfl 2 (by decide) (hg _ m_660) (fun _ h9 => h9) rfl dX11_answers_1 ?_
  refine lv_iconst (v := 2) hx hb dX11_answers_4 (by decide) ?_
  refine lv_iload_n hx hb dX11_answers_5 rfl (lv_at hl 1 rfl) ?_
  refine x_callVi (q := (RX4, TX4, 16)) (ci := 4) (q0 := 0) (wr := [(a0, .inr (11, [w0, w1, .ref h0, w3, w4, w5, w6, w7, w8, w9, w10, w11, w12, w13]))]) (rest := []) ⟨hx, hb, hml, hown, hg, hl.1⟩ k_X11_120 (c_has l D cy h0 h1 v1 v2 v3 v4 v5 v6 v7 v8 v9 v10 v11 v12 v13 v14 v15 2 ka (by unfold vp_in; decide)) E0_blind hK hP hD hS hA [1, 2] [0] ⟨rfl, rfl, by decide, by decide, by decide⟩ rfl rfl (fun _ _ _ => trivial) dX11_answers_6 rfl rfl (Nat.le_of_ble_eq_true rfl) ⟨Nat.le_of_ble_eq_true rfl, Nat.le_of_ble_eq_true rfl⟩ ⟨Nat.le_of_ble_eq_true rfl, Nat.le_of_ble_eq_true rfl⟩ (fun r1 u1 H locs hw1 hP hD hS => ?_)
  have hP : va_P D vwCl [(a0, .inr (11, [w0, w1, .ref h0, w3, w4, w5, w6, w7, w8, w9, w10, w11, w12, w13])), (h0, .inr (4, [.ref h1, v1, v2, v3, v4, v5, v6, v7, v8, v9, v10, v11, v12, v13, v14, v15])), (h1, .inl (cy 1, 4, .inl (fun _ => 0)))] H := hP
  have hD : va_D A [(a0, .inr (11, [w0, w1, .ref h0, w3, w4, w5, w6, w7, w8, w9, w10, w11, w12, w13])), (h0, .inr (4, [.ref h1, v1, v2, v3, v4, v5, v6, v7, v8, v9, v10, v11, v12, v13, v14, v15])), (h1, .inl (cy 1, 4, .inl (fun _ => 0)))] := hD
  refine W.widen (k := 0) (n := 0) (Nat.le_of_ble_eq_true rfl) (Nat.le_of_ble_eq_true rfl) ?_
  have hw1 : r1 = 0 := hw1
  subst hw1
  refine lv_if_eq (tgt := 21) hx hb dX11_answers_9 (by decide) (fun _ => ?_) (fun h => absurd (by decide) h)
  refine lv_iconst (v := -1) hx hb dX11_answers_21 (by decide) ?_
  exact x_iret hQ hx hb hr hlocks hK hP hD hS dX11_answers_22 () (rfl) [] (by decide) rfl (Nat.le_of_ble_eq_true rfl) (Nat.le_of_ble_eq_true rfl)
theorem dX11_binds_0 : decode cX11_binds 0 = .ok (.aload_n 0, 1) := by decide +kernel
theorem dX11_binds_1 : decode cX11_binds 1 = .ok (.getfield 28, 3) := by decide +kernel
theorem dX11_binds_4 : decode cX11_binds 4 = .ok (.iconst 2, 1) := by decide +kernel
theorem dX11_binds_5 : decode cX11_binds 5 = .ok (.iload_n 1, 1) := by decide +kernel
theorem dX11_binds_6 : decode cX11_binds 6 = .ok (.invokevirtual 120, 3) := by decide +kernel
theorem dX11_binds_9 : decode cX11_binds 9 = .ok (.ifCond .ne 5, 3) := by decide +kernel
theorem dX11_binds_12 : decode cX11_binds 12 = .ok (.iconst (-1), 1) := by decide +kernel
theorem dX11_binds_13 : decode cX11_binds 13 = .ok (.ireturn, 1) := by decide +kernel
set_option maxHeartbeats 400000 in
set_option maxRecDepth 100000 in
theorem t_binds (l : Launch) (D : va_G) (cy : Nat → ClassId) (a0 : Nat) (w0 : Value) (w1 : Value) (w3 : Value) (w4 : Value) (w5 : Value) (w6 : Value) (w7 : Value) (w8 : Value) (w9 : Value) (w10 : Value) (w11 : Value) (w12 : Value) (w13 : Value) (h0 : Nat) (h1 : Nat) (v1 : Value) (v2 : Value) (v3 : Value) (v4 : Value) (v5 : Value) (v6 : Value) (v7 : Value) (v8 : Value) (v9 : Value) (v10 : Value) (v11 : Value) (v12 : Value) (v13 : Value) (v14 : Value) (v15 : Value) (ka : Int32)  : XMi l D (tyL cy) E0 yX11_binds cX11_binds 2 (some .int) (rmk 2 0 0) [.ref a0, .int ka] [(a0, .inr (11, [w0, w1, .ref h0, w3, w4, w5, w6, w7, w8, w9, w10, w11, w12, w13])), (h0, .inr (4, [.ref h1, v1, v2, v3, v4, v5, v6, v7, v8, v9, v10, v11, v12, v13, v14, v15])), (h1, .inl (cy 1, 4, .inl (fun _ => 0)))] (fun (r : Int32) (_ : Unit) => r = -1) (fun (_ : Unit) => []) := by
  refine XMi.start (by decide) (Nat.le_of_ble_eq_true rfl) ?_
  intro p e s m below meth c args A ls Q hat hQ
  obtain ⟨hx, hb, hr, hml, hown, hg, hlocks, hin, hK, hA, hP, hD, hS, hE, hl⟩ := hat
  have hown : s.vm.findClass RX11 = some m.cls := hown
  have hl : lv_has ls 2 [(0, .ref a0), (1, .int ka)] := hl
  refine lv_aload_n hx hb dX11_binds_0 rfl (lv_at hl 0 rfl) ?_
  refine va_get (D := D) (ci := 11) (v := .ref h0) (C := RX11) (T := TX11) (N := 14) hx hb hg i_X11 hown hK hP 0 rfl rfl 2 (by decide) (hg _ m_660) (fun _ h9 => h9) rfl dX11_binds_1 ?_
  refine lv_iconst (v := 2) hx hb dX11_binds_4 (by decide) ?_
  refine lv_iload_n hx hb dX11_binds_5 rfl (lv_at hl 1 rfl) ?_
  refine x_callVi (q := (RX4, TX4, 16)) (ci := 4) (q0 := 0) (wr := [(a0, .inr (11, [w0, w1, .ref h0, w3, w4, w5, w6, w7, w8, w9, w10, w11, w12, w13]))]) (rest := []) ⟨hx, hb, hml, hown, hg, hl.1⟩ k_X11_120 (c_has l D cy h0 h1 v1 v2 v3 v4 v5 v6 v7 v8 v9 v10 v11 v12 v13 v14 v15 2 ka (by unfold vp_in; decide)) E0_blind hK hP hD hS hA [1, 2] [0] ⟨rfl, rfl, by decide, by decide, by decide⟩ rfl rfl (fun _ _ _ => trivial) dX11_binds_6 rfl rfl (Nat.le_of_ble_eq_true rfl) ⟨Nat.le_of_ble_eq_true rfl, Nat.le_of_ble_eq_true rfl⟩ ⟨Nat.le_of_ble_eq_true rfl, Nat.le_of_ble_eq_true rfl⟩ (fun r1 u1 H locs hw1 hP hD hS => ?_)
  have hP : va_P D vwCl [(a0, .inr (11, [w0, w1, .ref h0, w3, w4, w5, w6, w7, w8, w9, w10, w11, w12, w13])), (h0, .inr (4, [.ref h1, v1, v2, v3, v4, v5, v6, v7, v8, v9, v10, v11, v12, v13, v14, v15])), (h1, .inl (cy 1, 4, .inl (fun _ => 0)))] H := hP
  have hD : va_D A [(a0, .inr (11, [w0, w1, .ref h0, w3, w4, w5, w6, w7, w8, w9, w10, w11, w12, w13])), (h0, .inr (4, [.ref h1, v1, v2, v3, v4, v5, v6, v7, v8, v9, v10, v11, v12, v13, v14, v15])), (h1, .inl (cy 1, 4, .inl (fun _ => 0)))] := hD
  refine W.widen (k := 0) (n := 0) (Nat.le_of_ble_eq_true rfl) (Nat.le_of_ble_eq_true rfl) ?_
  have hw1 : r1 = 0 := hw1
  subst hw1
  refine lv_if_ne (tgt := 14) hx hb dX11_binds_9 (by decide) (fun h => absurd (by decide) h) (fun _ => ?_)
  refine lv_iconst (v := -1) hx hb dX11_binds_12 (by decide) ?_
  exact x_iret hQ hx hb hr hlocks hK hP hD hS dX11_binds_13 () (rfl) [] (by decide) rfl (Nat.le_of_ble_eq_true rfl) (Nat.le_of_ble_eq_true rfl)
theorem dX11_pardon_0 : decode cX11_pardon 0 = .ok (.aload_n 0, 1) := by decide +kernel
theorem dX11_pardon_1 : decode cX11_pardon 1 = .ok (.iconst 0, 1) := by decide +kernel
theorem dX11_pardon_2 : decode cX11_pardon 2 = .ok (.putfield 89, 3) := by decide +kernel
theorem dX11_pardon_5 : decode cX11_pardon 5 = .ok (.aload_n 0, 1) := by decide +kernel
theorem dX11_pardon_6 : decode cX11_pardon 6 = .ok (.getfield 28, 3) := by decide +kernel
theorem dX11_pardon_9 : decode cX11_pardon 9 = .ok (.iconst 2, 1) := by decide +kernel
theorem dX11_pardon_10 : decode cX11_pardon 10 = .ok (.iload_n 1, 1) := by decide +kernel
theorem dX11_pardon_11 : decode cX11_pardon 11 = .ok (.invokevirtual 120, 3) := by decide +kernel
theorem dX11_pardon_14 : decode cX11_pardon 14 = .ok (.ifCond .eq 15, 3) := by decide +kernel
theorem dX11_pardon_29 : decode cX11_pardon 29 = .ok (.iconst (-1), 1) := by decide +kernel
theorem dX11_pardon_30 : decode cX11_pardon 30 = .ok (.ireturn, 1) := by decide +kernel
set_option maxHeartbeats 400000 in
set_option maxRecDepth 100000 in
theorem t_pardon (l : Launch) (D : va_G) (cy : Nat → ClassId) (a0 : Nat) (w0 : Value) (w1 : Value) (w3 : Value) (w4 : Value) (w5 : Value) (w6 : Value) (w7 : Value) (w8 : Value) (w9 : Value) (w10 : Value) (w11 : Value) (w12 : Value) (w13 : Value) (h0 : Nat) (h1 : Nat) (v1 : Value) (v2 : Value) (v3 : Value) (v4 : Value) (v5 : Value) (v6 : Value) (v7 : Value) (v8 : Value) (v9 : Value) (v10 : Value) (v11 : Value) (v12 : Value) (v13 : Value) (v14 : Value) (v15 : Value) (ka : Int32)  : XMi l D (tyL cy) E0 yX11_pardon cX11_pardon 3 (some .int) (rmk 2 0 0) [.ref a0, .int ka] [(a0, .inr (11, [w0, w1, .ref h0, w3, w4, w5, w6, w7, w8, w9, w10, w11, w12, w13])), (h0, .inr (4, [.ref h1, v1, v2, v3, v4, v5, v6, v7, v8, v9, v10, v11, v12, v13, v14, v15])), (h1, .inl (cy 1, 4, .inl (fun _ => 0)))] (fun (r : Int32) (_ : Unit) => r = -1) (fun (_ : Unit) => []) := by
  refine XMi.start (by decide) (Nat.le_of_ble_eq_true rfl) ?_
  intro p e s m below meth c args A ls Q hat hQ
  obtain ⟨hx, hb, hr, hml, hown, hg, hlocks, hin, hK, hA, hP, hD, hS, hE, hl⟩ := hat
  have hown : s.vm.findClass RX11 = some m.cls := hown
  have hl : lv_has ls 3 [(0, .ref a0), (1, .int ka)] := hl
  refine lv_aload_n hx hb dX11_pardon_0 rfl (lv_at hl 0 rfl) ?_
  refine lv_iconst (v := 0) hx hb dX11_pardon_1 (by decide) ?_
  refine va_put (D := D) (ci := 11) (v := .int 0) (ty := .int) (C := RX11) (T := TX11) (N := 14) hx hb hg i_X11 tyX11 tyX11_ok nmX11 hown hK hP hD hS 0 rfl rfl 13 (by decide) (hg _ m_671) (fun _ h9 => h9) rfl (by decide +kernel) rfl rfl (Nat.le_of_ble_eq_true rfl) dX11_pardon_2 (fun H locs hP hD hS => ?_)
  have hP : va_P D vwCl [(a0, .inr (11, [w0, w1, .ref h0, w3, w4, w5, w6, w7, w8, w9, w10, w11, w12, .int 0])), (h0, .inr (4, [.ref h1, v1, v2, v3, v4, v5, v6, v7, v8, v9, v10, v11, v12, v13, v14, v15])), (h1, .inl (cy 1, 4, .inl (fun _ => 0)))] H := hP
  have hD : va_D A [(a0, .inr (11, [w0, w1, .ref h0, w3, w4, w5, w6, w7, w8, w9, w10, w11, w12, .int 0])), (h0, .inr (4, [.ref h1, v1, v2, v3, v4, v5, v6, v7, v8, v9, v10, v11, v12, v13, v14, v15])), (h1, .inl (cy 1, 4, .inl (fun _ => 0)))] := hD
  refine lv_aload_n hx hb dX11_pardon_5 rfl (lv_at hl 0 rfl) ?_
  refine va_get (D := D) (ci := 11) (v := .ref h0) (C := RX11) (T := TX11) (N := 14) hx hb hg i_X11 hown hK hP 0 rfl rfl 2 (by decide) (hg _ m_660) (fun _ h9 => h9) rfl dX11_pardon_6 ?_
  refine lv_iconst (v := 2) hx hb dX11_pardon_9 (by decide) ?_
  refine lv_iload_n hx hb dX11_pardon_10 rfl (lv_at hl 1 rfl) ?_
  refine x_callVi (q := (RX4, TX4, 16)) (ci := 4) (q0 := 0) (wr := [(a0, .inr (11, [w0, w1, .ref h0, w3, w4, w5, w6, w7, w8, w9, w10, w11, w12, .int 0]))]) (rest := []) ⟨hx, hb, hml, hown, hg, hl.1⟩ k_X11_120 (c_has l D cy h0 h1 v1 v2 v3 v4 v5 v6 v7 v8 v9 v10 v11 v12 v13 v14 v15 2 ka (by unfold vp_in; decide)) E0_blind hK hP hD hS hA [1, 2] [0] ⟨rfl, rfl, by decide, by decide, by decide⟩ rfl rfl (fun _ _ _ => trivial) dX11_pardon_11 rfl rfl (Nat.le_of_ble_eq_true rfl) ⟨Nat.le_of_ble_eq_true rfl, Nat.le_of_ble_eq_true rfl⟩ ⟨Nat.le_of_ble_eq_true rfl, Nat.le_of_ble_eq_true rfl⟩ (fun r1 u1 H locs hw1 hP hD hS => ?_)
  have hP : va_P D vwCl [(a0, .inr (11, [w0, w1, .ref h0, w3, w4, w5, w6, w7, w8, w9, w10, w11, w12, .int 0])), (h0, .inr (4, [.ref h1, v1, v2, v3, v4, v5, v6, v7, v8, v9, v10, v11, v12, v13, v14, v15])), (h1, .inl (cy 1, 4, .inl (fun _ => 0)))] H := hP
  have hD : va_D A [(a0, .inr (11, [w0, w1, .ref h0, w3, w4, w5, w6, w7, w8, w9, w10, w11, w12, .int 0])), (h0, .inr (4, [.ref h1, v1, v2, v3, v4, v5, v6, v7, v8, v9, v10, v11, v12, v13, v14, v15])), (h1, .inl (cy 1, 4, .inl (fun _ => 0)))] := hD
  refine W.widen (k := 0) (n := 0) (Nat.le_of_ble_eq_true rfl) (Nat.le_of_ble_eq_true rfl) ?_
  have hw1 : r1 = 0 := hw1
  subst hw1
  refine lv_if_eq (tgt := 29) hx hb dX11_pardon_14 (by decide) (fun _ => ?_) (fun h => absurd (by decide) h)
  refine lv_iconst (v := -1) hx hb dX11_pardon_29 (by decide) ?_
  exact x_iret hQ hx hb hr hlocks hK hP hD hS dX11_pardon_30 () (rfl) [] (by decide) rfl (Nat.le_of_ble_eq_true rfl) (Nat.le_of_ble_eq_true rfl)
theorem dX11_pardons_0 : decode cX11_pardons 0 = .ok (.aload_n 0, 1) := by decide +kernel
theorem dX11_pardons_1 : decode cX11_pardons 1 = .ok (.getfield 28, 3) := by decide +kernel
theorem dX11_pardons_4 : decode cX11_pardons 4 = .ok (.iconst 2, 1) := by decide +kernel
theorem dX11_pardons_5 : decode cX11_pardons 5 = .ok (.iload_n 1, 1) := by decide +kernel
theorem dX11_pardons_6 : decode cX11_pardons 6 = .ok (.invokevirtual 120, 3) := by decide +kernel
theorem dX11_pardons_9 : decode cX11_pardons 9 = .ok (.ifCond .eq 22, 3) := by decide +kernel
theorem dX11_pardons_31 : decode cX11_pardons 31 = .ok (.iconst (-1), 1) := by decide +kernel
theorem dX11_pardons_32 : decode cX11_pardons 32 = .ok (.ireturn, 1) := by decide +kernel
set_option maxHeartbeats 400000 in
set_option maxRecDepth 100000 in
theorem t_pardons (l : Launch) (D : va_G) (cy : Nat → ClassId) (a0 : Nat) (w0 : Value) (w1 : Value) (w3 : Value) (w4 : Value) (w5 : Value) (w6 : Value) (w7 : Value) (w8 : Value) (w9 : Value) (w10 : Value) (w11 : Value) (w12 : Value) (w13 : Value) (h0 : Nat) (h1 : Nat) (v1 : Value) (v2 : Value) (v3 : Value) (v4 : Value) (v5 : Value) (v6 : Value) (v7 : Value) (v8 : Value) (v9 : Value) (v10 : Value) (v11 : Value) (v12 : Value) (v13 : Value) (v14 : Value) (v15 : Value) (ka : Int32) (kb : Int32)  : XMi l D (tyL cy) E0 yX11_pardons cX11_pardons 3 (some .int) (rmk 2 0 0) [.ref a0, .int ka, .int kb] [(a0, .inr (11, [w0, w1, .ref h0, w3, w4, w5, w6, w7, w8, w9, w10, w11, w12, w13])), (h0, .inr (4, [.ref h1, v1, v2, v3, v4, v5, v6, v7, v8, v9, v10, v11, v12, v13, v14, v15])), (h1, .inl (cy 1, 4, .inl (fun _ => 0)))] (fun (r : Int32) (_ : Unit) => r = -1) (fun (_ : Unit) => []) := by
  refine XMi.start (by decide) (Nat.le_of_ble_eq_true rfl) ?_
  intro p e s m below meth c args A ls Q hat hQ
  obtain ⟨hx, hb, hr, hml, hown, hg, hlocks, hin, hK, hA, hP, hD, hS, hE, hl⟩ := hat
  have hown : s.vm.findClass RX11 = some m.cls := hown
  have hl : lv_has ls 3 [(0, .ref a0), (1, .int ka), (2, .int kb)] := hl
  refine lv_aload_n hx hb dX11_pardons_0 rfl (lv_at hl 0 rfl) ?_
  refine va_get (D := D) (ci := 11) (v := .ref h0) (C := RX11) (T := TX11) (N := 14) hx hb hg i_X11 hown hK hP 0 rfl rfl 2 (by decide) (hg _ m_660) (fun _ h9 => h9) rfl dX11_pardons_1 ?_
  refine lv_iconst (v := 2) hx hb dX11_pardons_4 (by decide) ?_
  refine lv_iload_n hx hb dX11_pardons_5 rfl (lv_at hl 1 rfl) ?_
  refine x_callVi (q := (RX4, TX4, 16)) (ci := 4) (q0 := 0) (wr := [(a0, .inr (11, [w0, w1, .ref h0, w3, w4, w5, w6, w7, w8, w9, w10, w11, w12, w13]))]) (rest := []) ⟨hx, hb, hml, hown, hg, hl.1⟩ k_X11_120 (c_has l D cy h0 h1 v1 v2 v3 v4 v5 v6 v7 v8 v9 v10 v11 v12 v13 v14 v15 2 ka (by unfold vp_in; decide)) E0_blind hK hP hD hS hA [1, 2] [0] ⟨rfl, rfl, by decide, by decide, by decide⟩ rfl rfl (fun _ _ _ => trivial) dX11_pardons_6 rfl rfl (Nat.le_of_ble_eq_true rfl) ⟨Nat.le_of_ble_eq_true rfl, Nat.le_of_ble_eq_true rfl⟩ ⟨Nat.le_of_ble_eq_true rfl, Nat.le_of_ble_eq_true rfl⟩ (fun r1 u1 H locs hw1 hP hD hS => ?_)
  have hP : va_P D vwCl [(a0, .inr (11, [w0, w1, .ref h0, w3, w4, w5, w6, w7, w8, w9, w10, w11, w12, w13])), (h0, .inr (4, [.ref h1, v1, v2, v3, v4, v5, v6, v7, v8, v9, v10, v11, v12, v13, v14, v15])), (h1, .inl (cy 1, 4, .inl (fun _ => 0)))] H := hP
  have hD : va_D A [(a0, .inr (11, [w0, w1, .ref h0, w3, w4, w5, w6, w7, w8, w9, w10, w11, w12, w13])), (h0, .inr (4, [.ref h1, v1, v2, v3, v4, v5, v6, v7, v8, v9, v10, v11, v12, v13, v14, v15])), (h1, .inl (cy 1, 4, .inl (fun _ => 0)))] := hD
  refine W.widen (k := 0) (n := 0) (Nat.le_of_ble_eq_true rfl) (Nat.le_of_ble_eq_true rfl) ?_
  have hw1 : r1 = 0 := hw1
  subst hw1
  refine lv_if_eq (tgt := 31) hx hb dX11_pardons_9 (by decide) (fun _ => ?_) (fun h => absurd (by decide) h)
  refine lv_iconst (v := -1) hx hb dX11_pardons_31 (by decide) ?_
  exact x_iret hQ hx hb hr hlocks hK hP hD hS dX11_pardons_32 () (rfl) [] (by decide) rfl (Nat.le_of_ble_eq_true rfl) (Nat.le_of_ble_eq_true rfl)
theorem dX11_ahead_0 : decode cX11_ahead 0 = .ok (.aload_n 0, 1) := by decide +kernel
theorem dX11_ahead_1 : decode cX11_ahead 1 = .ok (.iconst 0, 1) := by decide +kernel
theorem dX11_ahead_2 : decode cX11_ahead 2 = .ok (.putfield 89, 3) := by decide +kernel
theorem dX11_ahead_5 : decode cX11_ahead 5 = .ok (.aload_n 0, 1) := by decide +kernel
theorem dX11_ahead_6 : decode cX11_ahead 6 = .ok (.getfield 28, 3) := by decide +kernel
theorem dX11_ahead_9 : decode cX11_ahead 9 = .ok (.iconst 2, 1) := by decide +kernel
theorem dX11_ahead_10 : decode cX11_ahead 10 = .ok (.iload_n 1, 1) := by decide +kernel
theorem dX11_ahead_11 : decode cX11_ahead 11 = .ok (.invokevirtual 120, 3) := by decide +kernel
theorem dX11_ahead_14 : decode cX11_ahead 14 = .ok (.ifCond .eq 22, 3) := by decide +kernel
theorem dX11_ahead_36 : decode cX11_ahead 36 = .ok (.iconst (-1), 1) := by decide +kernel
theorem dX11_ahead_37 : decode cX11_ahead 37 = .ok (.ireturn, 1) := by decide +kernel
set_option maxHeartbeats 400000 in
set_option maxRecDepth 100000 in
theorem t_ahead (l : Launch) (D : va_G) (cy : Nat → ClassId) (a0 : Nat) (w0 : Value) (w1 : Value) (w3 : Value) (w4 : Value) (w5 : Value) (w6 : Value) (w7 : Value) (w8 : Value) (w9 : Value) (w10 : Value) (w11 : Value) (w12 : Value) (w13 : Value) (h0 : Nat) (h1 : Nat) (v1 : Value) (v2 : Value) (v3 : Value) (v4 : Value) (v5 : Value) (v6 : Value) (v7 : Value) (v8 : Value) (v9 : Value) (v10 : Value) (v11 : Value) (v12 : Value) (v13 : Value) (v14 : Value) (v15 : Value) (ka : Int32) (kb : Int32) (kc : Int32)  : XMi l D (tyL cy) E0 yX11_ahead cX11_ahead 5 (some .int) (rmk 2 0 0) [.ref a0, .int ka, .int kb, .int kc] [(a0, .inr (11, [w0, w1, .ref h0, w3, w4, w5, w6, w7, w8, w9, w10, w11, w12, w13])), (h0, .inr (4, [.ref h1, v1, v2, v3, v4, v5, v6, v7, v8, v9, v10, v11, v12, v13, v14, v15])), (h1, .inl (cy 1, 4, .inl (fun _ => 0)))] (fun (r : Int32) (_ : Unit) => r = -1) (fun (_ : Unit) => []) := by
  refine XMi.start (by decide) (Nat.le_of_ble_eq_true rfl) ?_
  intro p e s m below meth c args A ls Q hat hQ
  obtain ⟨hx, hb, hr, hml, hown, hg, hlocks, hin, hK, hA, hP, hD, hS, hE, hl⟩ := hat
  have hown : s.vm.findClass RX11 = some m.cls := hown
  have hl : lv_has ls 5 [(0, .ref a0), (1, .int ka), (2, .int kb), (3, .int kc)] := hl
  refine lv_aload_n hx hb dX11_ahead_0 rfl (lv_at hl 0 rfl) ?_
  refine lv_iconst (v := 0) hx hb dX11_ahead_1 (by decide) ?_
  refine va_put (D := D) (ci := 11) (v := .int 0) (ty := .int) (C := RX11) (T := TX11) (N := 14) hx hb hg i_X11 tyX11 tyX11_ok nmX11 hown hK hP hD hS 0 rfl rfl 13 (by decide) (hg _ m_671) (fun _ h9 => h9) rfl (by decide +kernel) rfl rfl (Nat.le_of_ble_eq_true rfl) dX11_ahead_2 (fun H locs hP hD hS => ?_)
  have hP : va_P D vwCl [(a0, .inr (11, [w0, w1, .ref h0, w3, w4, w5, w6, w7, w8, w9, w10, w11, w12, .int 0])), (h0, .inr (4, [.ref h1, v1, v2, v3, v4, v5, v6, v7, v8, v9, v10, v11, v12, v13, v14, v15])), (h1, .inl (cy 1, 4, .inl (fun _ => 0)))] H := hP
  have hD : va_D A [(a0, .inr (11, [w0, w1, .ref h0, w3, w4, w5, w6, w7, w8, w9, w10, w11, w12, .int 0])), (h0, .inr (4, [.ref h1, v1, v2, v3, v4, v5, v6, v7, v8, v9, v10, v11, v12, v13, v14, v15])), (h1, .inl (cy 1, 4, .inl (fun _ => 0)))] := hD
  refine lv_aload_n hx hb dX11_ahead_5 rfl (lv_at hl 0 rfl) ?_
  refine va_get (D := D) (ci := 11) (v := .ref h0) (C := RX11) (T := TX11) (N := 14) hx hb hg i_X11 hown hK hP 0 rfl rfl 2 (by decide) (hg _ m_660) (fun _ h9 => h9) rfl dX11_ahead_6 ?_
  refine lv_iconst (v := 2) hx hb dX11_ahead_9 (by decide) ?_
  refine lv_iload_n hx hb dX11_ahead_10 rfl (lv_at hl 1 rfl) ?_
  refine x_callVi (q := (RX4, TX4, 16)) (ci := 4) (q0 := 0) (wr := [(a0, .inr (11, [w0, w1, .ref h0, w3, w4, w5, w6, w7, w8, w9, w10, w11, w12, .int 0]))]) (rest := []) ⟨hx, hb, hml, hown, hg, hl.1⟩ k_X11_120 (c_has l D cy h0 h1 v1 v2 v3 v4 v5 v6 v7 v8 v9 v10 v11 v12 v13 v14 v15 2 ka (by unfold vp_in; decide)) E0_blind hK hP hD hS hA [1, 2] [0] ⟨rfl, rfl, by decide, by decide, by decide⟩ rfl rfl (fun _ _ _ => trivial) dX11_ahead_11 rfl rfl (Nat.le_of_ble_eq_true rfl) ⟨Nat.le_of_ble_eq_true rfl, Nat.le_of_ble_eq_true rfl⟩ ⟨Nat.le_of_ble_eq_true rfl, Nat.le_of_ble_eq_true rfl⟩ (fun r1 u1 H locs hw1 hP hD hS => ?_)
  have hP : va_P D vwCl [(a0, .inr (11, [w0, w1, .ref h0, w3, w4, w5, w6, w7, w8, w9, w10, w11, w12, .int 0])), (h0, .inr (4, [.ref h1, v1, v2, v3, v4, v5, v6, v7, v8, v9, v10, v11, v12, v13, v14, v15])), (h1, .inl (cy 1, 4, .inl (fun _ => 0)))] H := hP
  have hD : va_D A [(a0, .inr (11, [w0, w1, .ref h0, w3, w4, w5, w6, w7, w8, w9, w10, w11, w12, .int 0])), (h0, .inr (4, [.ref h1, v1, v2, v3, v4, v5, v6, v7, v8, v9, v10, v11, v12, v13, v14, v15])), (h1, .inl (cy 1, 4, .inl (fun _ => 0)))] := hD
  refine W.widen (k := 0) (n := 0) (Nat.le_of_ble_eq_true rfl) (Nat.le_of_ble_eq_true rfl) ?_
  have hw1 : r1 = 0 := hw1
  subst hw1
  refine lv_if_eq (tgt := 36) hx hb dX11_ahead_14 (by decide) (fun _ => ?_) (fun h => absurd (by decide) h)
  refine lv_iconst (v := -1) hx hb dX11_ahead_36 (by decide) ?_
  exact x_iret hQ hx hb hr hlocks hK hP hD hS dX11_ahead_37 () (rfl) [] (by decide) rfl (Nat.le_of_ble_eq_true rfl) (Nat.le_of_ble_eq_true rfl)
theorem dX11_clears_0 : decode cX11_clears 0 = .ok (.aload_n 0, 1) := by decide +kernel
theorem dX11_clears_1 : decode cX11_clears 1 = .ok (.getfield 28, 3) := by decide +kernel
theorem dX11_clears_4 : decode cX11_clears 4 = .ok (.iconst 2, 1) := by decide +kernel
theorem dX11_clears_5 : decode cX11_clears 5 = .ok (.iload_n 1, 1) := by decide +kernel
theorem dX11_clears_6 : decode cX11_clears 6 = .ok (.invokevirtual 120, 3) := by decide +kernel
theorem dX11_clears_9 : decode cX11_clears 9 = .ok (.ifCond .eq 12, 3) := by decide +kernel
theorem dX11_clears_21 : decode cX11_clears 21 = .ok (.iconst (-1), 1) := by decide +kernel
theorem dX11_clears_22 : decode cX11_clears 22 = .ok (.ireturn, 1) := by decide +kernel
set_option maxHeartbeats 400000 in
set_option maxRecDepth 100000 in
theorem t_clears (l : Launch) (D : va_G) (cy : Nat → ClassId) (a0 : Nat) (w0 : Value) (w1 : Value) (w3 : Value) (w4 : Value) (w5 : Value) (w6 : Value) (w7 : Value) (w8 : Value) (w9 : Value) (w10 : Value) (w11 : Value) (w12 : Value) (w13 : Value) (h0 : Nat) (h1 : Nat) (v1 : Value) (v2 : Value) (v3 : Value) (v4 : Value) (v5 : Value) (v6 : Value) (v7 : Value) (v8 : Value) (v9 : Value) (v10 : Value) (v11 : Value) (v12 : Value) (v13 : Value) (v14 : Value) (v15 : Value) (ka : Int32) (kb : Int32)  : XMi l D (tyL cy) E0 yX11_clears cX11_clears 6 (some .int) (rmk 2 0 0) [.ref a0, .int ka, .int kb] [(a0, .inr (11, [w0, w1, .ref h0, w3, w4, w5, w6, w7, w8, w9, w10, w11, w12, w13])), (h0, .inr (4, [.ref h1, v1, v2, v3, v4, v5, v6, v7, v8, v9, v10, v11, v12, v13, v14, v15])), (h1, .inl (cy 1, 4, .inl (fun _ => 0)))] (fun (r : Int32) (_ : Unit) => r = -1) (fun (_ : Unit) => []) := by
  refine XMi.start (by decide) (Nat.le_of_ble_eq_true rfl) ?_
  intro p e s m below meth c args A ls Q hat hQ
  obtain ⟨hx, hb, hr, hml, hown, hg, hlocks, hin, hK, hA, hP, hD, hS, hE, hl⟩ := hat
  have hown : s.vm.findClass RX11 = some m.cls := hown
  have hl : lv_has ls 6 [(0, .ref a0), (1, .int ka), (2, .int kb)] := hl
  refine lv_aload_n hx hb dX11_clears_0 rfl (lv_at hl 0 rfl) ?_
  refine va_get (D := D) (ci := 11) (v := .ref h0) (C := RX11) (T := TX11) (N := 14) hx hb hg i_X11 hown hK hP 0 rfl rfl 2 (by decide) (hg _ m_660) (fun _ h9 => h9) rfl dX11_clears_1 ?_
  refine lv_iconst (v := 2) hx hb dX11_clears_4 (by decide) ?_
  refine lv_iload_n hx hb dX11_clears_5 rfl (lv_at hl 1 rfl) ?_
  refine x_callVi (q := (RX4, TX4, 16)) (ci := 4) (q0 := 0) (wr := [(a0, .inr (11, [w0, w1, .ref h0, w3, w4, w5, w6, w7, w8, w9, w10, w11, w12, w13]))]) (rest := []) ⟨hx, hb, hml, hown, hg, hl.1⟩ k_X11_120 (c_has l D cy h0 h1 v1 v2 v3 v4 v5 v6 v7 v8 v9 v10 v11 v12 v13 v14 v15 2 ka (by unfold vp_in; decide)) E0_blind hK hP hD hS hA [1, 2] [0] ⟨rfl, rfl, by decide, by decide, by decide⟩ rfl rfl (fun _ _ _ => trivial) dX11_clears_6 rfl rfl (Nat.le_of_ble_eq_true rfl) ⟨Nat.le_of_ble_eq_true rfl, Nat.le_of_ble_eq_true rfl⟩ ⟨Nat.le_of_ble_eq_true rfl, Nat.le_of_ble_eq_true rfl⟩ (fun r1 u1 H locs hw1 hP hD hS => ?_)
  have hP : va_P D vwCl [(a0, .inr (11, [w0, w1, .ref h0, w3, w4, w5, w6, w7, w8, w9, w10, w11, w12, w13])), (h0, .inr (4, [.ref h1, v1, v2, v3, v4, v5, v6, v7, v8, v9, v10, v11, v12, v13, v14, v15])), (h1, .inl (cy 1, 4, .inl (fun _ => 0)))] H := hP
  have hD : va_D A [(a0, .inr (11, [w0, w1, .ref h0, w3, w4, w5, w6, w7, w8, w9, w10, w11, w12, w13])), (h0, .inr (4, [.ref h1, v1, v2, v3, v4, v5, v6, v7, v8, v9, v10, v11, v12, v13, v14, v15])), (h1, .inl (cy 1, 4, .inl (fun _ => 0)))] := hD
  refine W.widen (k := 0) (n := 0) (Nat.le_of_ble_eq_true rfl) (Nat.le_of_ble_eq_true rfl) ?_
  have hw1 : r1 = 0 := hw1
  subst hw1
  refine lv_if_eq (tgt := 21) hx hb dX11_clears_9 (by decide) (fun _ => ?_) (fun h => absurd (by decide) h)
  refine lv_iconst (v := -1) hx hb dX11_clears_21 (by decide) ?_
  exact x_iret hQ hx hb hr hlocks hK hP hD hS dX11_clears_22 () (rfl) [] (by decide) rfl (Nat.le_of_ble_eq_true rfl) (Nat.le_of_ble_eq_true rfl)
theorem dX11_rhyme_0 : decode cX11_rhyme 0 = .ok (.aload_n 0, 1) := by decide +kernel
theorem dX11_rhyme_1 : decode cX11_rhyme 1 = .ok (.iconst 0, 1) := by decide +kernel
theorem dX11_rhyme_2 : decode cX11_rhyme 2 = .ok (.putfield 89, 3) := by decide +kernel
theorem dX11_rhyme_5 : decode cX11_rhyme 5 = .ok (.aload_n 0, 1) := by decide +kernel
theorem dX11_rhyme_6 : decode cX11_rhyme 6 = .ok (.getfield 28, 3) := by decide +kernel
theorem dX11_rhyme_9 : decode cX11_rhyme 9 = .ok (.iconst 2, 1) := by decide +kernel
theorem dX11_rhyme_10 : decode cX11_rhyme 10 = .ok (.iload_n 1, 1) := by decide +kernel
theorem dX11_rhyme_11 : decode cX11_rhyme 11 = .ok (.invokevirtual 120, 3) := by decide +kernel
theorem dX11_rhyme_14 : decode cX11_rhyme 14 = .ok (.ifCond .ne 5, 3) := by decide +kernel
theorem dX11_rhyme_17 : decode cX11_rhyme 17 = .ok (.iconst (-1), 1) := by decide +kernel
theorem dX11_rhyme_18 : decode cX11_rhyme 18 = .ok (.ireturn, 1) := by decide +kernel
set_option maxHeartbeats 400000 in
set_option maxRecDepth 100000 in
theorem t_rhyme (l : Launch) (D : va_G) (cy : Nat → ClassId) (a0 : Nat) (w0 : Value) (w1 : Value) (w3 : Value) (w4 : Value) (w5 : Value) (w6 : Value) (w7 : Value) (w8 : Value) (w9 : Value) (w10 : Value) (w11 : Value) (w12 : Value) (w13 : Value) (h0 : Nat) (h1 : Nat) (v1 : Value) (v2 : Value) (v3 : Value) (v4 : Value) (v5 : Value) (v6 : Value) (v7 : Value) (v8 : Value) (v9 : Value) (v10 : Value) (v11 : Value) (v12 : Value) (v13 : Value) (v14 : Value) (v15 : Value) (ka : Int32)  : XMi l D (tyL cy) E0 yX11_rhyme cX11_rhyme 3 (some .int) (rmk 2 0 0) [.ref a0, .int ka] [(a0, .inr (11, [w0, w1, .ref h0, w3, w4, w5, w6, w7, w8, w9, w10, w11, w12, w13])), (h0, .inr (4, [.ref h1, v1, v2, v3, v4, v5, v6, v7, v8, v9, v10, v11, v12, v13, v14, v15])), (h1, .inl (cy 1, 4, .inl (fun _ => 0)))] (fun (r : Int32) (_ : Unit) => r = -1) (fun (_ : Unit) => []) := by
  refine XMi.start (by decide) (Nat.le_of_ble_eq_true rfl) ?_
  intro p e s m below meth c args A ls Q hat hQ
  obtain ⟨hx, hb, hr, hml, hown, hg, hlocks, hin, hK, hA, hP, hD, hS, hE, hl⟩ := hat
  have hown : s.vm.findClass RX11 = some m.cls := hown
  have hl : lv_has ls 3 [(0, .ref a0), (1, .int ka)] := hl
  refine lv_aload_n hx hb dX11_rhyme_0 rfl (lv_at hl 0 rfl) ?_
  refine lv_iconst (v := 0) hx hb dX11_rhyme_1 (by decide) ?_
  refine va_put (D := D) (ci := 11) (v := .int 0) (ty := .int) (C := RX11) (T := TX11) (N := 14) hx hb hg i_X11 tyX11 tyX11_ok nmX11 hown hK hP hD hS 0 rfl rfl 13 (by decide) (hg _ m_671) (fun _ h9 => h9) rfl (by decide +kernel) rfl rfl (Nat.le_of_ble_eq_true rfl) dX11_rhyme_2 (fun H locs hP hD hS => ?_)
  have hP : va_P D vwCl [(a0, .inr (11, [w0, w1, .ref h0, w3, w4, w5, w6, w7, w8, w9, w10, w11, w12, .int 0])), (h0, .inr (4, [.ref h1, v1, v2, v3, v4, v5, v6, v7, v8, v9, v10, v11, v12, v13, v14, v15])), (h1, .inl (cy 1, 4, .inl (fun _ => 0)))] H := hP
  have hD : va_D A [(a0, .inr (11, [w0, w1, .ref h0, w3, w4, w5, w6, w7, w8, w9, w10, w11, w12, .int 0])), (h0, .inr (4, [.ref h1, v1, v2, v3, v4, v5, v6, v7, v8, v9, v10, v11, v12, v13, v14, v15])), (h1, .inl (cy 1, 4, .inl (fun _ => 0)))] := hD
  refine lv_aload_n hx hb dX11_rhyme_5 rfl (lv_at hl 0 rfl) ?_
  refine va_get (D := D) (ci := 11) (v := .ref h0) (C := RX11) (T := TX11) (N := 14) hx hb hg i_X11 hown hK hP 0 rfl rfl 2 (by decide) (hg _ m_660) (fun _ h9 => h9) rfl dX11_rhyme_6 ?_
  refine lv_iconst (v := 2) hx hb dX11_rhyme_9 (by decide) ?_
  refine lv_iload_n hx hb dX11_rhyme_10 rfl (lv_at hl 1 rfl) ?_
  refine x_callVi (q := (RX4, TX4, 16)) (ci := 4) (q0 := 0) (wr := [(a0, .inr (11, [w0, w1, .ref h0, w3, w4, w5, w6, w7, w8, w9, w10, w11, w12, .int 0]))]) (rest := []) ⟨hx, hb, hml, hown, hg, hl.1⟩ k_X11_120 (c_has l D cy h0 h1 v1 v2 v3 v4 v5 v6 v7 v8 v9 v10 v11 v12 v13 v14 v15 2 ka (by unfold vp_in; decide)) E0_blind hK hP hD hS hA [1, 2] [0] ⟨rfl, rfl, by decide, by decide, by decide⟩ rfl rfl (fun _ _ _ => trivial) dX11_rhyme_11 rfl rfl (Nat.le_of_ble_eq_true rfl) ⟨Nat.le_of_ble_eq_true rfl, Nat.le_of_ble_eq_true rfl⟩ ⟨Nat.le_of_ble_eq_true rfl, Nat.le_of_ble_eq_true rfl⟩ (fun r1 u1 H locs hw1 hP hD hS => ?_)
  have hP : va_P D vwCl [(a0, .inr (11, [w0, w1, .ref h0, w3, w4, w5, w6, w7, w8, w9, w10, w11, w12, .int 0])), (h0, .inr (4, [.ref h1, v1, v2, v3, v4, v5, v6, v7, v8, v9, v10, v11, v12, v13, v14, v15])), (h1, .inl (cy 1, 4, .inl (fun _ => 0)))] H := hP
  have hD : va_D A [(a0, .inr (11, [w0, w1, .ref h0, w3, w4, w5, w6, w7, w8, w9, w10, w11, w12, .int 0])), (h0, .inr (4, [.ref h1, v1, v2, v3, v4, v5, v6, v7, v8, v9, v10, v11, v12, v13, v14, v15])), (h1, .inl (cy 1, 4, .inl (fun _ => 0)))] := hD
  refine W.widen (k := 0) (n := 0) (Nat.le_of_ble_eq_true rfl) (Nat.le_of_ble_eq_true rfl) ?_
  have hw1 : r1 = 0 := hw1
  subst hw1
  refine lv_if_ne (tgt := 19) hx hb dX11_rhyme_14 (by decide) (fun h => absurd (by decide) h) (fun _ => ?_)
  refine lv_iconst (v := -1) hx hb dX11_rhyme_17 (by decide) ?_
  exact x_iret hQ hx hb hr hlocks hK hP hD hS dX11_rhyme_18 () (rfl) [] (by decide) rfl (Nat.le_of_ble_eq_true rfl) (Nat.le_of_ble_eq_true rfl)
theorem dX11_joined_0 : decode cX11_joined 0 = .ok (.aload_n 0, 1) := by decide +kernel
theorem dX11_joined_1 : decode cX11_joined 1 = .ok (.getfield 28, 3) := by decide +kernel
theorem dX11_joined_4 : decode cX11_joined 4 = .ok (.iconst 2, 1) := by decide +kernel
theorem dX11_joined_5 : decode cX11_joined 5 = .ok (.iload_n 1, 1) := by decide +kernel
theorem dX11_joined_6 : decode cX11_joined 6 = .ok (.invokevirtual 120, 3) := by decide +kernel
theorem dX11_joined_9 : decode cX11_joined 9 = .ok (.ifCond .eq 20, 3) := by decide +kernel
theorem dX11_joined_29 : decode cX11_joined 29 = .ok (.iconst (-1), 1) := by decide +kernel
theorem dX11_joined_30 : decode cX11_joined 30 = .ok (.ireturn, 1) := by decide +kernel
set_option maxHeartbeats 400000 in
set_option maxRecDepth 100000 in
theorem t_joined (l : Launch) (D : va_G) (cy : Nat → ClassId) (a0 : Nat) (w0 : Value) (w1 : Value) (w3 : Value) (w4 : Value) (w5 : Value) (w6 : Value) (w7 : Value) (w8 : Value) (w9 : Value) (w10 : Value) (w11 : Value) (w12 : Value) (w13 : Value) (h0 : Nat) (h1 : Nat) (v1 : Value) (v2 : Value) (v3 : Value) (v4 : Value) (v5 : Value) (v6 : Value) (v7 : Value) (v8 : Value) (v9 : Value) (v10 : Value) (v11 : Value) (v12 : Value) (v13 : Value) (v14 : Value) (v15 : Value) (ka : Int32) (kb : Int32)  : XMi l D (tyL cy) E0 yX11_joined cX11_joined 3 (some .int) (rmk 2 0 0) [.ref a0, .int ka, .int kb] [(a0, .inr (11, [w0, w1, .ref h0, w3, w4, w5, w6, w7, w8, w9, w10, w11, w12, w13])), (h0, .inr (4, [.ref h1, v1, v2, v3, v4, v5, v6, v7, v8, v9, v10, v11, v12, v13, v14, v15])), (h1, .inl (cy 1, 4, .inl (fun _ => 0)))] (fun (r : Int32) (_ : Unit) => r = -1) (fun (_ : Unit) => []) := by
  refine XMi.start (by decide) (Nat.le_of_ble_eq_true rfl) ?_
  intro p e s m below meth c args A ls Q hat hQ
  obtain ⟨hx, hb, hr, hml, hown, hg, hlocks, hin, hK, hA, hP, hD, hS, hE, hl⟩ := hat
  have hown : s.vm.findClass RX11 = some m.cls := hown
  have hl : lv_has ls 3 [(0, .ref a0), (1, .int ka), (2, .int kb)] := hl
  refine lv_aload_n hx hb dX11_joined_0 rfl (lv_at hl 0 rfl) ?_
  refine va_get (D := D) (ci := 11) (v := .ref h0) (C := RX11) (T := TX11) (N := 14) hx hb hg i_X11 hown hK hP 0 rfl rfl 2 (by decide) (hg _ m_660) (fun _ h9 => h9) rfl dX11_joined_1 ?_
  refine lv_iconst (v := 2) hx hb dX11_joined_4 (by decide) ?_
  refine lv_iload_n hx hb dX11_joined_5 rfl (lv_at hl 1 rfl) ?_
  refine x_callVi (q := (RX4, TX4, 16)) (ci := 4) (q0 := 0) (wr := [(a0, .inr (11, [w0, w1, .ref h0, w3, w4, w5, w6, w7, w8, w9, w10, w11, w12, w13]))]) (rest := []) ⟨hx, hb, hml, hown, hg, hl.1⟩ k_X11_120 (c_has l D cy h0 h1 v1 v2 v3 v4 v5 v6 v7 v8 v9 v10 v11 v12 v13 v14 v15 2 ka (by unfold vp_in; decide)) E0_blind hK hP hD hS hA [1, 2] [0] ⟨rfl, rfl, by decide, by decide, by decide⟩ rfl rfl (fun _ _ _ => trivial) dX11_joined_6 rfl rfl (Nat.le_of_ble_eq_true rfl) ⟨Nat.le_of_ble_eq_true rfl, Nat.le_of_ble_eq_true rfl⟩ ⟨Nat.le_of_ble_eq_true rfl, Nat.le_of_ble_eq_true rfl⟩ (fun r1 u1 H locs hw1 hP hD hS => ?_)
  have hP : va_P D vwCl [(a0, .inr (11, [w0, w1, .ref h0, w3, w4, w5, w6, w7, w8, w9, w10, w11, w12, w13])), (h0, .inr (4, [.ref h1, v1, v2, v3, v4, v5, v6, v7, v8, v9, v10, v11, v12, v13, v14, v15])), (h1, .inl (cy 1, 4, .inl (fun _ => 0)))] H := hP
  have hD : va_D A [(a0, .inr (11, [w0, w1, .ref h0, w3, w4, w5, w6, w7, w8, w9, w10, w11, w12, w13])), (h0, .inr (4, [.ref h1, v1, v2, v3, v4, v5, v6, v7, v8, v9, v10, v11, v12, v13, v14, v15])), (h1, .inl (cy 1, 4, .inl (fun _ => 0)))] := hD
  refine W.widen (k := 0) (n := 0) (Nat.le_of_ble_eq_true rfl) (Nat.le_of_ble_eq_true rfl) ?_
  have hw1 : r1 = 0 := hw1
  subst hw1
  refine lv_if_eq (tgt := 29) hx hb dX11_joined_9 (by decide) (fun _ => ?_) (fun h => absurd (by decide) h)
  refine lv_iconst (v := -1) hx hb dX11_joined_29 (by decide) ?_
  exact x_iret hQ hx hb hr hlocks hK hP hD hS dX11_joined_30 () (rfl) [] (by decide) rfl (Nat.le_of_ble_eq_true rfl) (Nat.le_of_ble_eq_true rfl)
theorem dX11_luck_0 : decode cX11_luck 0 = .ok (.aload_n 0, 1) := by decide +kernel
theorem dX11_luck_1 : decode cX11_luck 1 = .ok (.getfield 28, 3) := by decide +kernel
theorem dX11_luck_4 : decode cX11_luck 4 = .ok (.iconst 2, 1) := by decide +kernel
theorem dX11_luck_5 : decode cX11_luck 5 = .ok (.iload_n 1, 1) := by decide +kernel
theorem dX11_luck_6 : decode cX11_luck 6 = .ok (.invokevirtual 120, 3) := by decide +kernel
theorem dX11_luck_9 : decode cX11_luck 9 = .ok (.ifCond .ne 5, 3) := by decide +kernel
theorem dX11_luck_12 : decode cX11_luck 12 = .ok (.iconst (-1), 1) := by decide +kernel
theorem dX11_luck_13 : decode cX11_luck 13 = .ok (.ireturn, 1) := by decide +kernel
set_option maxHeartbeats 400000 in
set_option maxRecDepth 100000 in
theorem t_luck (l : Launch) (D : va_G) (cy : Nat → ClassId) (a0 : Nat) (w0 : Value) (w1 : Value) (w3 : Value) (w4 : Value) (w5 : Value) (w6 : Value) (w7 : Value) (w8 : Value) (w9 : Value) (w10 : Value) (w11 : Value) (w12 : Value) (w13 : Value) (h0 : Nat) (h1 : Nat) (v1 : Value) (v2 : Value) (v3 : Value) (v4 : Value) (v5 : Value) (v6 : Value) (v7 : Value) (v8 : Value) (v9 : Value) (v10 : Value) (v11 : Value) (v12 : Value) (v13 : Value) (v14 : Value) (v15 : Value) (ka : Int32)  : XMi l D (tyL cy) E0 yX11_luck cX11_luck 4 (some .int) (rmk 2 0 0) [.ref a0, .int ka] [(a0, .inr (11, [w0, w1, .ref h0, w3, w4, w5, w6, w7, w8, w9, w10, w11, w12, w13])), (h0, .inr (4, [.ref h1, v1, v2, v3, v4, v5, v6, v7, v8, v9, v10, v11, v12, v13, v14, v15])), (h1, .inl (cy 1, 4, .inl (fun _ => 0)))] (fun (r : Int32) (_ : Unit) => r = -1) (fun (_ : Unit) => []) := by
  refine XMi.start (by decide) (Nat.le_of_ble_eq_true rfl) ?_
  intro p e s m below meth c args A ls Q hat hQ
  obtain ⟨hx, hb, hr, hml, hown, hg, hlocks, hin, hK, hA, hP, hD, hS, hE, hl⟩ := hat
  have hown : s.vm.findClass RX11 = some m.cls := hown
  have hl : lv_has ls 4 [(0, .ref a0), (1, .int ka)] := hl
  refine lv_aload_n hx hb dX11_luck_0 rfl (lv_at hl 0 rfl) ?_
  refine va_get (D := D) (ci := 11) (v := .ref h0) (C := RX11) (T := TX11) (N := 14) hx hb hg i_X11 hown hK hP 0 rfl rfl 2 (by decide) (hg _ m_660) (fun _ h9 => h9) rfl dX11_luck_1 ?_
  refine lv_iconst (v := 2) hx hb dX11_luck_4 (by decide) ?_
  refine lv_iload_n hx hb dX11_luck_5 rfl (lv_at hl 1 rfl) ?_
  refine x_callVi (q := (RX4, TX4, 16)) (ci := 4) (q0 := 0) (wr := [(a0, .inr (11, [w0, w1, .ref h0, w3, w4, w5, w6, w7, w8, w9, w10, w11, w12, w13]))]) (rest := []) ⟨hx, hb, hml, hown, hg, hl.1⟩ k_X11_120 (c_has l D cy h0 h1 v1 v2 v3 v4 v5 v6 v7 v8 v9 v10 v11 v12 v13 v14 v15 2 ka (by unfold vp_in; decide)) E0_blind hK hP hD hS hA [1, 2] [0] ⟨rfl, rfl, by decide, by decide, by decide⟩ rfl rfl (fun _ _ _ => trivial) dX11_luck_6 rfl rfl (Nat.le_of_ble_eq_true rfl) ⟨Nat.le_of_ble_eq_true rfl, Nat.le_of_ble_eq_true rfl⟩ ⟨Nat.le_of_ble_eq_true rfl, Nat.le_of_ble_eq_true rfl⟩ (fun r1 u1 H locs hw1 hP hD hS => ?_)
  have hP : va_P D vwCl [(a0, .inr (11, [w0, w1, .ref h0, w3, w4, w5, w6, w7, w8, w9, w10, w11, w12, w13])), (h0, .inr (4, [.ref h1, v1, v2, v3, v4, v5, v6, v7, v8, v9, v10, v11, v12, v13, v14, v15])), (h1, .inl (cy 1, 4, .inl (fun _ => 0)))] H := hP
  have hD : va_D A [(a0, .inr (11, [w0, w1, .ref h0, w3, w4, w5, w6, w7, w8, w9, w10, w11, w12, w13])), (h0, .inr (4, [.ref h1, v1, v2, v3, v4, v5, v6, v7, v8, v9, v10, v11, v12, v13, v14, v15])), (h1, .inl (cy 1, 4, .inl (fun _ => 0)))] := hD
  refine W.widen (k := 0) (n := 0) (Nat.le_of_ble_eq_true rfl) (Nat.le_of_ble_eq_true rfl) ?_
  have hw1 : r1 = 0 := hw1
  subst hw1
  refine lv_if_ne (tgt := 14) hx hb dX11_luck_9 (by decide) (fun h => absurd (by decide) h) (fun _ => ?_)
  refine lv_iconst (v := -1) hx hb dX11_luck_12 (by decide) ?_
  exact x_iret hQ hx hb hr hlocks hK hP hD hS dX11_luck_13 () (rfl) [] (by decide) rfl (Nat.le_of_ble_eq_true rfl) (Nat.le_of_ble_eq_true rfl)
theorem dX11_winds_0 : decode cX11_winds 0 = .ok (.aload_n 0, 1) := by decide +kernel
theorem dX11_winds_1 : decode cX11_winds 1 = .ok (.getfield 28, 3) := by decide +kernel
theorem dX11_winds_4 : decode cX11_winds 4 = .ok (.iconst 2, 1) := by decide +kernel
theorem dX11_winds_5 : decode cX11_winds 5 = .ok (.iload_n 1, 1) := by decide +kernel
theorem dX11_winds_6 : decode cX11_winds 6 = .ok (.invokevirtual 120, 3) := by decide +kernel
theorem dX11_winds_9 : decode cX11_winds 9 = .ok (.ifCond .ne 5, 3) := by decide +kernel
theorem dX11_winds_12 : decode cX11_winds 12 = .ok (.iconst (-1), 1) := by decide +kernel
theorem dX11_winds_13 : decode cX11_winds 13 = .ok (.ireturn, 1) := by decide +kernel
set_option maxHeartbeats 400000 in
set_option maxRecDepth 100000 in
theorem t_winds (l : Launch) (D : va_G) (cy : Nat → ClassId) (a0 : Nat) (w0 : Value) (w1 : Value) (w3 : Value) (w4 : Value) (w5 : Value) (w6 : Value) (w7 : Value) (w8 : Value) (w9 : Value) (w10 : Value) (w11 : Value) (w12 : Value) (w13 : Value) (h0 : Nat) (h1 : Nat) (v1 : Value) (v2 : Value) (v3 : Value) (v4 : Value) (v5 : Value) (v6 : Value) (v7 : Value) (v8 : Value) (v9 : Value) (v10 : Value) (v11 : Value) (v12 : Value) (v13 : Value) (v14 : Value) (v15 : Value) (ka : Int32)  : XMi l D (tyL cy) E0 yX11_winds cX11_winds 4 (some .int) (rmk 2 0 0) [.ref a0, .int ka] [(a0, .inr (11, [w0, w1, .ref h0, w3, w4, w5, w6, w7, w8, w9, w10, w11, w12, w13])), (h0, .inr (4, [.ref h1, v1, v2, v3, v4, v5, v6, v7, v8, v9, v10, v11, v12, v13, v14, v15])), (h1, .inl (cy 1, 4, .inl (fun _ => 0)))] (fun (r : Int32) (_ : Unit) => r = -1) (fun (_ : Unit) => []) := by
  refine XMi.start (by decide) (Nat.le_of_ble_eq_true rfl) ?_
  intro p e s m below meth c args A ls Q hat hQ
  obtain ⟨hx, hb, hr, hml, hown, hg, hlocks, hin, hK, hA, hP, hD, hS, hE, hl⟩ := hat
  have hown : s.vm.findClass RX11 = some m.cls := hown
  have hl : lv_has ls 4 [(0, .ref a0), (1, .int ka)] := hl
  refine lv_aload_n hx hb dX11_winds_0 rfl (lv_at hl 0 rfl) ?_
  refine va_get (D := D) (ci := 11) (v := .ref h0) (C := RX11) (T := TX11) (N := 14) hx hb hg i_X11 hown hK hP 0 rfl rfl 2 (by decide) (hg _ m_660) (fun _ h9 => h9) rfl dX11_winds_1 ?_
  refine lv_iconst (v := 2) hx hb dX11_winds_4 (by decide) ?_
  refine lv_iload_n hx hb dX11_winds_5 rfl (lv_at hl 1 rfl) ?_
  refine x_callVi (q := (RX4, TX4, 16)) (ci := 4) (q0 := 0) (wr := [(a0, .inr (11, [w0, w1, .ref h0, w3, w4, w5, w6, w7, w8, w9, w10, w11, w12, w13]))]) (rest := []) ⟨hx, hb, hml, hown, hg, hl.1⟩ k_X11_120 (c_has l D cy h0 h1 v1 v2 v3 v4 v5 v6 v7 v8 v9 v10 v11 v12 v13 v14 v15 2 ka (by unfold vp_in; decide)) E0_blind hK hP hD hS hA [1, 2] [0] ⟨rfl, rfl, by decide, by decide, by decide⟩ rfl rfl (fun _ _ _ => trivial) dX11_winds_6 rfl rfl (Nat.le_of_ble_eq_true rfl) ⟨Nat.le_of_ble_eq_true rfl, Nat.le_of_ble_eq_true rfl⟩ ⟨Nat.le_of_ble_eq_true rfl, Nat.le_of_ble_eq_true rfl⟩ (fun r1 u1 H locs hw1 hP hD hS => ?_)
  have hP : va_P D vwCl [(a0, .inr (11, [w0, w1, .ref h0, w3, w4, w5, w6, w7, w8, w9, w10, w11, w12, w13])), (h0, .inr (4, [.ref h1, v1, v2, v3, v4, v5, v6, v7, v8, v9, v10, v11, v12, v13, v14, v15])), (h1, .inl (cy 1, 4, .inl (fun _ => 0)))] H := hP
  have hD : va_D A [(a0, .inr (11, [w0, w1, .ref h0, w3, w4, w5, w6, w7, w8, w9, w10, w11, w12, w13])), (h0, .inr (4, [.ref h1, v1, v2, v3, v4, v5, v6, v7, v8, v9, v10, v11, v12, v13, v14, v15])), (h1, .inl (cy 1, 4, .inl (fun _ => 0)))] := hD
  refine W.widen (k := 0) (n := 0) (Nat.le_of_ble_eq_true rfl) (Nat.le_of_ble_eq_true rfl) ?_
  have hw1 : r1 = 0 := hw1
  subst hw1
  refine lv_if_ne (tgt := 14) hx hb dX11_winds_9 (by decide) (fun h => absurd (by decide) h) (fun _ => ?_)
  refine lv_iconst (v := -1) hx hb dX11_winds_12 (by decide) ?_
  exact x_iret hQ hx hb hr hlocks hK hP hD hS dX11_winds_13 () (rfl) [] (by decide) rfl (Nat.le_of_ble_eq_true rfl) (Nat.le_of_ble_eq_true rfl)
theorem dX11_more_0 : decode cX11_more 0 = .ok (.aload_n 0, 1) := by decide +kernel
theorem dX11_more_1 : decode cX11_more 1 = .ok (.getfield 28, 3) := by decide +kernel
theorem dX11_more_4 : decode cX11_more 4 = .ok (.iconst 2, 1) := by decide +kernel
theorem dX11_more_5 : decode cX11_more 5 = .ok (.iload_n 1, 1) := by decide +kernel
theorem dX11_more_6 : decode cX11_more 6 = .ok (.invokevirtual 120, 3) := by decide +kernel
theorem dX11_more_9 : decode cX11_more 9 = .ok (.ifCond .ne 5, 3) := by decide +kernel
theorem dX11_more_12 : decode cX11_more 12 = .ok (.iconst (-1), 1) := by decide +kernel
theorem dX11_more_13 : decode cX11_more 13 = .ok (.ireturn, 1) := by decide +kernel
set_option maxHeartbeats 400000 in
set_option maxRecDepth 100000 in
theorem t_more (l : Launch) (D : va_G) (cy : Nat → ClassId) (a0 : Nat) (w0 : Value) (w1 : Value) (w3 : Value) (w4 : Value) (w5 : Value) (w6 : Value) (w7 : Value) (w8 : Value) (w9 : Value) (w10 : Value) (w11 : Value) (w12 : Value) (w13 : Value) (h0 : Nat) (h1 : Nat) (v1 : Value) (v2 : Value) (v3 : Value) (v4 : Value) (v5 : Value) (v6 : Value) (v7 : Value) (v8 : Value) (v9 : Value) (v10 : Value) (v11 : Value) (v12 : Value) (v13 : Value) (v14 : Value) (v15 : Value) (ka : Int32)  : XMi l D (tyL cy) E0 yX11_more cX11_more 5 (some .int) (rmk 2 0 0) [.ref a0, .int ka] [(a0, .inr (11, [w0, w1, .ref h0, w3, w4, w5, w6, w7, w8, w9, w10, w11, w12, w13])), (h0, .inr (4, [.ref h1, v1, v2, v3, v4, v5, v6, v7, v8, v9, v10, v11, v12, v13, v14, v15])), (h1, .inl (cy 1, 4, .inl (fun _ => 0)))] (fun (r : Int32) (_ : Unit) => r = -1) (fun (_ : Unit) => []) := by
  refine XMi.start (by decide) (Nat.le_of_ble_eq_true rfl) ?_
  intro p e s m below meth c args A ls Q hat hQ
  obtain ⟨hx, hb, hr, hml, hown, hg, hlocks, hin, hK, hA, hP, hD, hS, hE, hl⟩ := hat
  have hown : s.vm.findClass RX11 = some m.cls := hown
  have hl : lv_has ls 5 [(0, .ref a0), (1, .int ka)] := hl
  refine lv_aload_n hx hb dX11_more_0 rfl (lv_at hl 0 rfl) ?_
  refine va_get (D := D) (ci := 11) (v := .ref h0) (C := RX11) (T := TX11) (N := 14) hx hb hg i_X11 hown hK hP 0 rfl rfl 2 (by decide) (hg _ m_660) (fun _ h9 => h9) rfl dX11_more_1 ?_
  refine lv_iconst (v := 2) hx hb dX11_more_4 (by decide) ?_
  refine lv_iload_n hx hb dX11_more_5 rfl (lv_at hl 1 rfl) ?_
  refine x_callVi (q := (RX4, TX4, 16)) (ci := 4) (q0 := 0) (wr := [(a0, .inr (11, [w0, w1, .ref h0, w3, w4, w5, w6, w7, w8, w9, w10, w11, w12, w13]))]) (rest := []) ⟨hx, hb, hml, hown, hg, hl.1⟩ k_X11_120 (c_has l D cy h0 h1 v1 v2 v3 v4 v5 v6 v7 v8 v9 v10 v11 v12 v13 v14 v15 2 ka (by unfold vp_in; decide)) E0_blind hK hP hD hS hA [1, 2] [0] ⟨rfl, rfl, by decide, by decide, by decide⟩ rfl rfl (fun _ _ _ => trivial) dX11_more_6 rfl rfl (Nat.le_of_ble_eq_true rfl) ⟨Nat.le_of_ble_eq_true rfl, Nat.le_of_ble_eq_true rfl⟩ ⟨Nat.le_of_ble_eq_true rfl, Nat.le_of_ble_eq_true rfl⟩ (fun r1 u1 H locs hw1 hP hD hS => ?_)
  have hP : va_P D vwCl [(a0, .inr (11, [w0, w1, .ref h0, w3, w4, w5, w6, w7, w8, w9, w10, w11, w12, w13])), (h0, .inr (4, [.ref h1, v1, v2, v3, v4, v5, v6, v7, v8, v9, v10, v11, v12, v13, v14, v15])), (h1, .inl (cy 1, 4, .inl (fun _ => 0)))] H := hP
  have hD : va_D A [(a0, .inr (11, [w0, w1, .ref h0, w3, w4, w5, w6, w7, w8, w9, w10, w11, w12, w13])), (h0, .inr (4, [.ref h1, v1, v2, v3, v4, v5, v6, v7, v8, v9, v10, v11, v12, v13, v14, v15])), (h1, .inl (cy 1, 4, .inl (fun _ => 0)))] := hD
  refine W.widen (k := 0) (n := 0) (Nat.le_of_ble_eq_true rfl) (Nat.le_of_ble_eq_true rfl) ?_
  have hw1 : r1 = 0 := hw1
  subst hw1
  refine lv_if_ne (tgt := 14) hx hb dX11_more_9 (by decide) (fun h => absurd (by decide) h) (fun _ => ?_)
  refine lv_iconst (v := -1) hx hb dX11_more_12 (by decide) ?_
  exact x_iret hQ hx hb hr hlocks hK hP hD hS dX11_more_13 () (rfl) [] (by decide) rfl (Nat.le_of_ble_eq_true rfl) (Nat.le_of_ble_eq_true rfl)
theorem dX11_way_0 : decode cX11_way 0 = .ok (.aload_n 0, 1) := by decide +kernel
theorem dX11_way_1 : decode cX11_way 1 = .ok (.iconst 0, 1) := by decide +kernel
theorem dX11_way_2 : decode cX11_way 2 = .ok (.putfield 89, 3) := by decide +kernel
theorem dX11_way_5 : decode cX11_way 5 = .ok (.aload_n 0, 1) := by decide +kernel
theorem dX11_way_6 : decode cX11_way 6 = .ok (.getfield 28, 3) := by decide +kernel
theorem dX11_way_9 : decode cX11_way 9 = .ok (.iconst 3, 1) := by decide +kernel
theorem dX11_way_10 : decode cX11_way 10 = .ok (.iload_n 1, 1) := by decide +kernel
theorem dX11_way_11 : decode cX11_way 11 = .ok (.invokevirtual 120, 3) := by decide +kernel
theorem dX11_way_14 : decode cX11_way 14 = .ok (.ifCond .ne 5, 3) := by decide +kernel
theorem dX11_way_17 : decode cX11_way 17 = .ok (.iconst (-1), 1) := by decide +kernel
theorem dX11_way_18 : decode cX11_way 18 = .ok (.ireturn, 1) := by decide +kernel
set_option maxHeartbeats 400000 in
set_option maxRecDepth 100000 in
theorem t_way (l : Launch) (D : va_G) (cy : Nat → ClassId) (a0 : Nat) (w0 : Value) (w1 : Value) (w3 : Value) (w4 : Value) (w5 : Value) (w6 : Value) (w7 : Value) (w8 : Value) (w9 : Value) (w10 : Value) (w11 : Value) (w12 : Value) (w13 : Value) (h0 : Nat) (h1 : Nat) (v1 : Value) (v2 : Value) (v3 : Value) (v4 : Value) (v5 : Value) (v6 : Value) (v7 : Value) (v8 : Value) (v9 : Value) (v10 : Value) (v11 : Value) (v12 : Value) (v13 : Value) (v14 : Value) (v15 : Value) (ka : Int32)  : XMi l D (tyL cy) E0 yX11_way cX11_way 3 (some .int) (rmk 2 0 0) [.ref a0, .int ka] [(a0, .inr (11, [w0, w1, .ref h0, w3, w4, w5, w6, w7, w8, w9, w10, w11, w12, w13])), (h0, .inr (4, [.ref h1, v1, v2, v3, v4, v5, v6, v7, v8, v9, v10, v11, v12, v13, v14, v15])), (h1, .inl (cy 1, 4, .inl (fun _ => 0)))] (fun (r : Int32) (_ : Unit) => r = -1) (fun (_ : Unit) => []) := by
  refine XMi.start (by decide) (Nat.le_of_ble_eq_true rfl) ?_
  intro p e s m below meth c args A ls Q hat hQ
  obtain ⟨hx, hb, hr, hml, hown, hg, hlocks, hin, hK, hA, hP, hD, hS, hE, hl⟩ := hat
  have hown : s.vm.findClass RX11 = some m.cls := hown
  have hl : lv_has ls 3 [(0, .ref a0), (1, .int ka)] := hl
  refine lv_aload_n hx hb dX11_way_0 rfl (lv_at hl 0 rfl) ?_
  refine lv_iconst (v := 0) hx hb dX11_way_1 (by decide) ?_
  refine va_put (D := D) (ci := 11) (v := .int 0) (ty := .int) (C := RX11) (T := TX11) (N := 14) hx hb hg i_X11 tyX11 tyX11_ok nmX11 hown hK hP hD hS 0 rfl rfl 13 (by decide) (hg _ m_671) (fun _ h9 => h9) rfl (by decide +kernel) rfl rfl (Nat.le_of_ble_eq_true rfl) dX11_way_2 (fun H locs hP hD hS => ?_)
  have hP : va_P D vwCl [(a0, .inr (11, [w0, w1, .ref h0, w3, w4, w5, w6, w7, w8, w9, w10, w11, w12, .int 0])), (h0, .inr (4, [.ref h1, v1, v2, v3, v4, v5, v6, v7, v8, v9, v10, v11, v12, v13, v14, v15])), (h1, .inl (cy 1, 4, .inl (fun _ => 0)))] H := hP
  have hD : va_D A [(a0, .inr (11, [w0, w1, .ref h0, w3, w4, w5, w6, w7, w8, w9, w10, w11, w12, .int 0])), (h0, .inr (4, [.ref h1, v1, v2, v3, v4, v5, v6, v7, v8, v9, v10, v11, v12, v13, v14, v15])), (h1, .inl (cy 1, 4, .inl (fun _ => 0)))] := hD
  refine lv_aload_n hx hb dX11_way_5 rfl (lv_at hl 0 rfl) ?_
  refine va_get (D := D) (ci := 11) (v := .ref h0) (C := RX11) (T := TX11) (N := 14) hx hb hg i_X11 hown hK hP 0 rfl rfl 2 (by decide) (hg _ m_660) (fun _ h9 => h9) rfl dX11_way_6 ?_
  refine lv_iconst (v := 3) hx hb dX11_way_9 (by decide) ?_
  refine lv_iload_n hx hb dX11_way_10 rfl (lv_at hl 1 rfl) ?_
  refine x_callVi (q := (RX4, TX4, 16)) (ci := 4) (q0 := 0) (wr := [(a0, .inr (11, [w0, w1, .ref h0, w3, w4, w5, w6, w7, w8, w9, w10, w11, w12, .int 0]))]) (rest := []) ⟨hx, hb, hml, hown, hg, hl.1⟩ k_X11_120 (c_has l D cy h0 h1 v1 v2 v3 v4 v5 v6 v7 v8 v9 v10 v11 v12 v13 v14 v15 3 ka (by unfold vp_in; decide)) E0_blind hK hP hD hS hA [1, 2] [0] ⟨rfl, rfl, by decide, by decide, by decide⟩ rfl rfl (fun _ _ _ => trivial) dX11_way_11 rfl rfl (Nat.le_of_ble_eq_true rfl) ⟨Nat.le_of_ble_eq_true rfl, Nat.le_of_ble_eq_true rfl⟩ ⟨Nat.le_of_ble_eq_true rfl, Nat.le_of_ble_eq_true rfl⟩ (fun r1 u1 H locs hw1 hP hD hS => ?_)
  have hP : va_P D vwCl [(a0, .inr (11, [w0, w1, .ref h0, w3, w4, w5, w6, w7, w8, w9, w10, w11, w12, .int 0])), (h0, .inr (4, [.ref h1, v1, v2, v3, v4, v5, v6, v7, v8, v9, v10, v11, v12, v13, v14, v15])), (h1, .inl (cy 1, 4, .inl (fun _ => 0)))] H := hP
  have hD : va_D A [(a0, .inr (11, [w0, w1, .ref h0, w3, w4, w5, w6, w7, w8, w9, w10, w11, w12, .int 0])), (h0, .inr (4, [.ref h1, v1, v2, v3, v4, v5, v6, v7, v8, v9, v10, v11, v12, v13, v14, v15])), (h1, .inl (cy 1, 4, .inl (fun _ => 0)))] := hD
  refine W.widen (k := 0) (n := 0) (Nat.le_of_ble_eq_true rfl) (Nat.le_of_ble_eq_true rfl) ?_
  have hw1 : r1 = 0 := hw1
  subst hw1
  refine lv_if_ne (tgt := 19) hx hb dX11_way_14 (by decide) (fun h => absurd (by decide) h) (fun _ => ?_)
  refine lv_iconst (v := -1) hx hb dX11_way_17 (by decide) ?_
  exact x_iret hQ hx hb hr hlocks hK hP hD hS dX11_way_18 () (rfl) [] (by decide) rfl (Nat.le_of_ble_eq_true rfl) (Nat.le_of_ble_eq_true rfl)
theorem dX11_sound_0 : decode cX11_sound 0 = .ok (.aload_n 0, 1) := by decide +kernel
theorem dX11_sound_1 : decode cX11_sound 1 = .ok (.getfield 28, 3) := by decide +kernel
theorem dX11_sound_4 : decode cX11_sound 4 = .ok (.iconst 1, 1) := by decide +kernel
theorem dX11_sound_5 : decode cX11_sound 5 = .ok (.iload_n 1, 1) := by decide +kernel
theorem dX11_sound_6 : decode cX11_sound 6 = .ok (.invokevirtual 120, 3) := by decide +kernel
theorem dX11_sound_9 : decode cX11_sound 9 = .ok (.ifCond .eq 23, 3) := by decide +kernel
theorem dX11_sound_32 : decode cX11_sound 32 = .ok (.iconst (-1), 1) := by decide +kernel
theorem dX11_sound_33 : decode cX11_sound 33 = .ok (.ireturn, 1) := by decide +kernel
set_option maxHeartbeats 400000 in
set_option maxRecDepth 100000 in
theorem t_sound (l : Launch) (D : va_G) (cy : Nat → ClassId) (a0 : Nat) (w0 : Value) (w1 : Value) (w3 : Value) (w4 : Value) (w5 : Value) (w6 : Value) (w7 : Value) (w8 : Value) (w9 : Value) (w10 : Value) (w11 : Value) (w12 : Value) (w13 : Value) (h0 : Nat) (h1 : Nat) (v1 : Value) (v2 : Value) (v3 : Value) (v4 : Value) (v5 : Value) (v6 : Value) (v7 : Value) (v8 : Value) (v9 : Value) (v10 : Value) (v11 : Value) (v12 : Value) (v13 : Value) (v14 : Value) (v15 : Value) (ka : Int32) (kb : Int32) (kc : Int32)  : XMi l D (tyL cy) E0 yX11_sound cX11_sound 4 (some .int) (rmk 2 0 0) [.ref a0, .int ka, .int kb, .int kc] [(a0, .inr (11, [w0, w1, .ref h0, w3, w4, w5, w6, w7, w8, w9, w10, w11, w12, w13])), (h0, .inr (4, [.ref h1, v1, v2, v3, v4, v5, v6, v7, v8, v9, v10, v11, v12, v13, v14, v15])), (h1, .inl (cy 1, 4, .inl (fun _ => 0)))] (fun (r : Int32) (_ : Unit) => r = -1) (fun (_ : Unit) => []) := by
  refine XMi.start (by decide) (Nat.le_of_ble_eq_true rfl) ?_
  intro p e s m below meth c args A ls Q hat hQ
  obtain ⟨hx, hb, hr, hml, hown, hg, hlocks, hin, hK, hA, hP, hD, hS, hE, hl⟩ := hat
  have hown : s.vm.findClass RX11 = some m.cls := hown
  have hl : lv_has ls 4 [(0, .ref a0), (1, .int ka), (2, .int kb), (3, .int kc)] := hl
  refine lv_aload_n hx hb dX11_sound_0 rfl (lv_at hl 0 rfl) ?_
  refine va_get (D := D) (ci := 11) (v := .ref h0) (C := RX11) (T := TX11) (N := 14) hx hb hg i_X11 hown hK hP 0 rfl rfl 2 (by decide) (hg _ m_660) (fun _ h9 => h9) rfl dX11_sound_1 ?_
  refine lv_iconst (v := 1) hx hb dX11_sound_4 (by decide) ?_
  refine lv_iload_n hx hb dX11_sound_5 rfl (lv_at hl 1 rfl) ?_
  refine x_callVi (q := (RX4, TX4, 16)) (ci := 4) (q0 := 0) (wr := [(a0, .inr (11, [w0, w1, .ref h0, w3, w4, w5, w6, w7, w8, w9, w10, w11, w12, w13]))]) (rest := []) ⟨hx, hb, hml, hown, hg, hl.1⟩ k_X11_120 (c_has l D cy h0 h1 v1 v2 v3 v4 v5 v6 v7 v8 v9 v10 v11 v12 v13 v14 v15 1 ka (by unfold vp_in; decide)) E0_blind hK hP hD hS hA [1, 2] [0] ⟨rfl, rfl, by decide, by decide, by decide⟩ rfl rfl (fun _ _ _ => trivial) dX11_sound_6 rfl rfl (Nat.le_of_ble_eq_true rfl) ⟨Nat.le_of_ble_eq_true rfl, Nat.le_of_ble_eq_true rfl⟩ ⟨Nat.le_of_ble_eq_true rfl, Nat.le_of_ble_eq_true rfl⟩ (fun r1 u1 H locs hw1 hP hD hS => ?_)
  have hP : va_P D vwCl [(a0, .inr (11, [w0, w1, .ref h0, w3, w4, w5, w6, w7, w8, w9, w10, w11, w12, w13])), (h0, .inr (4, [.ref h1, v1, v2, v3, v4, v5, v6, v7, v8, v9, v10, v11, v12, v13, v14, v15])), (h1, .inl (cy 1, 4, .inl (fun _ => 0)))] H := hP
  have hD : va_D A [(a0, .inr (11, [w0, w1, .ref h0, w3, w4, w5, w6, w7, w8, w9, w10, w11, w12, w13])), (h0, .inr (4, [.ref h1, v1, v2, v3, v4, v5, v6, v7, v8, v9, v10, v11, v12, v13, v14, v15])), (h1, .inl (cy 1, 4, .inl (fun _ => 0)))] := hD
  refine W.widen (k := 0) (n := 0) (Nat.le_of_ble_eq_true rfl) (Nat.le_of_ble_eq_true rfl) ?_
  have hw1 : r1 = 0 := hw1
  subst hw1
  refine lv_if_eq (tgt := 32) hx hb dX11_sound_9 (by decide) (fun _ => ?_) (fun h => absurd (by decide) h)
  refine lv_iconst (v := -1) hx hb dX11_sound_32 (by decide) ?_
  exact x_iret hQ hx hb hr hlocks hK hP hD hS dX11_sound_33 () (rfl) [] (by decide) rfl (Nat.le_of_ble_eq_true rfl) (Nat.le_of_ble_eq_true rfl)
theorem dX11_unsay_0 : decode cX11_unsay 0 = .ok (.iload_n 1, 1) := by decide +kernel
theorem dX11_unsay_1 : decode cX11_unsay 1 = .ok (.invokestatic 143, 3) := by decide +kernel
theorem dX11_unsay_4 : decode cX11_unsay 4 = .ok (.ifCond .eq 14, 3) := by decide +kernel
theorem dX11_unsay_18 : decode cX11_unsay 18 = .ok (.iconst (-1), 1) := by decide +kernel
theorem dX11_unsay_19 : decode cX11_unsay 19 = .ok (.ireturn, 1) := by decide +kernel
theorem dX11_unsay_7 : decode cX11_unsay 7 = .ok (.aload_n 0, 1) := by decide +kernel
theorem dX11_unsay_8 : decode cX11_unsay 8 = .ok (.getfield 38, 3) := by decide +kernel
theorem m_662 : (Cond.fieldLink RX11 38 "CliffJudges" "moments" "LCliffJudges$Moments;") ∈ gT := gm 662 (by decide +kernel) (by decide +kernel)
theorem dX11_unsay_11 : decode cX11_unsay 11 = .ok (.iload_n 1, 1) := by decide +kernel
theorem dX11_unsay_12 : decode cX11_unsay 12 = .ok (.invokevirtual 147, 3) := by decide +kernel
theorem m_972 : (Cond.methodLink RX11 147 yX5_cryLength) ∈ gT := gm 972 (by decide +kernel) (by decide +kernel)
theorem m_973 : (Cond.instanceMethod yX5_cryLength) ∈ gT := gm 973 (by decide +kernel) (by decide +kernel)
theorem m_974 : (Cond.selects RX5 yX5_cryLength yX5_cryLength) ∈ gT := gm 974 (by decide +kernel) (by decide +kernel)
theorem m_139 : (Cond.initialized RX5) ∈ gT := gm 139 (by decide +kernel) (by decide +kernel)
theorem m_975 : (Cond.code yX5_cryLength cX5_cryLength 2 (some .int)) ∈ gT := gm 975 (by decide +kernel) (by decide +kernel)
theorem k_X11_147 : xV RX11 RX5 147 yX5_cryLength cX5_cryLength 2 (some .int) 1 := ⟨⟨m_972, m_973, m_974, m_139, m_975⟩, rfl, by decide, by decide, by decide +kernel⟩
theorem dX11_unsay_15 : decode cX11_unsay 15 = .ok (.ifCond .gt 5, 3) := by decide +kernel
set_option maxHeartbeats 400000 in
set_option maxRecDepth 100000 in
theorem t_unsay (l : Launch) (D : va_G) (cy : Nat → ClassId) (a0 : Nat) (w0 : Value) (w1 : Value) (w2 : Value) (w3 : Value) (w5 : Value) (w6 : Value) (w7 : Value) (w8 : Value) (w9 : Value) (w10 : Value) (w11 : Value) (w12 : Value) (w13 : Value) (n0 : Nat) (n1 : Nat) (n2 : Nat) (n3 : Nat) (z3 : Value) (z4 : Value) (z5 : Value) (z6 : Value) (ka : Int32)  : XMi l D (tyL cy) E0 yX11_unsay cX11_unsay 2 (some .int) (rmk 2 0 0) [.ref a0, .int ka] [(a0, .inr (11, [w0, w1, w2, w3, .ref n0, w5, w6, w7, w8, w9, w10, w11, w12, w13])), (n0, .inr (5, [.ref n1, .ref n2, .ref n3, z3, z4, z5, z6])), (n1, .inl (cy 1, 41, .inl (fun _ => 0)))] (fun (r : Int32) (_ : Unit) => r = -1) (fun (_ : Unit) => []) := by
  refine XMi.start (by decide) (Nat.le_of_ble_eq_true rfl) ?_
  intro p e s m below meth c args A ls Q hat hQ
  obtain ⟨hx, hb, hr, hml, hown, hg, hlocks, hin, hK, hA, hP, hD, hS, hE, hl⟩ := hat
  have hown : s.vm.findClass RX11 = some m.cls := hown
  have hl : lv_has ls 2 [(0, .ref a0), (1, .int ka)] := hl
  refine lv_iload_n hx hb dX11_unsay_0 rfl (lv_at hl 1 rfl) ?_
  refine x_callSi (wr := [(a0, .inr (11, [w0, w1, w2, w3, .ref n0, w5, w6, w7, w8, w9, w10, w11, w12, w13])), (n0, .inr (5, [.ref n1, .ref n2, .ref n3, z3, z4, z5, z6])), (n1, .inl (cy 1, 41, .inl (fun _ => 0)))]) (rest := []) ⟨hx, hb, hml, hown, hg, hl.1⟩ k_X11_143 (c_isCry l D cy ka) E0_blind hK hP hD hS hA [] [0, 1, 2] ⟨rfl, rfl, by decide, by decide, by decide⟩ (fun _ _ _ => trivial) dX11_unsay_1 rfl rfl (Nat.le_of_ble_eq_true rfl) ⟨Nat.le_of_ble_eq_true rfl, Nat.le_of_ble_eq_true rfl⟩ ⟨Nat.le_of_ble_eq_true rfl, Nat.le_of_ble_eq_true rfl⟩ (fun r1 u1 H locs hw1 hP hD hS => ?_)
  have hP : va_P D vwCl [(a0, .inr (11, [w0, w1, w2, w3, .ref n0, w5, w6, w7, w8, w9, w10, w11, w12, w13])), (n0, .inr (5, [.ref n1, .ref n2, .ref n3, z3, z4, z5, z6])), (n1, .inl (cy 1, 41, .inl (fun _ => 0)))] H := hP
  have hD : va_D A [(a0, .inr (11, [w0, w1, w2, w3, .ref n0, w5, w6, w7, w8, w9, w10, w11, w12, w13])), (n0, .inr (5, [.ref n1, .ref n2, .ref n3, z3, z4, z5, z6])), (n1, .inl (cy 1, 41, .inl (fun _ => 0)))] := hD
  refine W.widen (k := 0) (n := 0) (Nat.le_of_ble_eq_true rfl) (Nat.le_of_ble_eq_true rfl) ?_
  have hw1 : r1 = 0 ∨ ka = 0 ∨ ka = 1 := hw1
  refine lv_if_eq (tgt := 18) hx hb dX11_unsay_4 (by decide) (fun c_4 => ?_) (fun c_4 => ?_)
  · refine lv_iconst (v := -1) hx hb dX11_unsay_18 (by decide) ?_
    exact x_iret hQ hx hb hr hlocks hK hP hD hS dX11_unsay_19 () (rfl) [] (by decide) rfl (Nat.le_of_ble_eq_true rfl) (Nat.le_of_ble_eq_true rfl)
  · refine lv_aload_n hx hb dX11_unsay_7 rfl (lv_at hl 0 rfl) ?_
    refine va_get (D := D) (ci := 11) (v := .ref n0) (C := RX11) (T := TX11) (N := 14) hx hb hg i_X11 hown hK hP 0 rfl rfl 4 (by decide) (hg _ m_662) (fun _ h9 => h9) rfl dX11_unsay_8 ?_
    refine lv_iload_n hx hb dX11_unsay_11 rfl (lv_at hl 1 rfl) ?_
    refine x_callVi (q := (RX5, TX5, 7)) (ci := 5) (q0 := 0) (wr := [(a0, .inr (11, [w0, w1, w2, w3, .ref n0, w5, w6, w7, w8, w9, w10, w11, w12, w13]))]) (rest := []) ⟨hx, hb, hml, hown, hg, hl.1⟩ k_X11_147 (c_cryLength l D cy n0 n1 n2 n3 z3 z4 z5 z6 ka (cry_in hw1 c_4)) E0_blind hK hP hD hS hA [1, 2] [0] ⟨rfl, rfl, by decide, by decide, by decide⟩ rfl rfl (fun _ _ _ => trivial) dX11_unsay_12 rfl rfl (Nat.le_of_ble_eq_true rfl) ⟨Nat.le_of_ble_eq_true rfl, Nat.le_of_ble_eq_true rfl⟩ ⟨Nat.le_of_ble_eq_true rfl, Nat.le_of_ble_eq_true rfl⟩ (fun r2 u2 H locs hw2 hP hD hS => ?_)
    have hP : va_P D vwCl [(a0, .inr (11, [w0, w1, w2, w3, .ref n0, w5, w6, w7, w8, w9, w10, w11, w12, w13])), (n0, .inr (5, [.ref n1, .ref n2, .ref n3, z3, z4, z5, z6])), (n1, .inl (cy 1, 41, .inl (fun _ => 0)))] H := hP
    have hD : va_D A [(a0, .inr (11, [w0, w1, w2, w3, .ref n0, w5, w6, w7, w8, w9, w10, w11, w12, w13])), (n0, .inr (5, [.ref n1, .ref n2, .ref n3, z3, z4, z5, z6])), (n1, .inl (cy 1, 41, .inl (fun _ => 0)))] := hD
    refine W.widen (k := 0) (n := 0) (Nat.le_of_ble_eq_true rfl) (Nat.le_of_ble_eq_true rfl) ?_
    have hw2 : r2 = 0 := hw2
    subst hw2
    refine lv_if_gt (tgt := 20) hx hb dX11_unsay_15 (by decide) (fun h => absurd h (by decide)) (fun _ => ?_)
    refine lv_iconst (v := -1) hx hb dX11_unsay_18 (by decide) ?_
    exact x_iret hQ hx hb hr hlocks hK hP hD hS dX11_unsay_19 () (rfl) [] (by decide) rfl (Nat.le_of_ble_eq_true rfl) (Nat.le_of_ble_eq_true rfl)
theorem dX11_said_0 : decode cX11_said 0 = .ok (.iload_n 1, 1) := by decide +kernel
theorem dX11_said_1 : decode cX11_said 1 = .ok (.invokestatic 143, 3) := by decide +kernel
theorem dX11_said_4 : decode cX11_said 4 = .ok (.ifCond .eq 19, 3) := by decide +kernel
theorem dX11_said_23 : decode cX11_said 23 = .ok (.iconst (-1), 1) := by decide +kernel
theorem dX11_said_24 : decode cX11_said 24 = .ok (.ireturn, 1) := by decide +kernel
theorem dX11_said_7 : decode cX11_said 7 = .ok (.iload_n 2, 1) := by decide +kernel
theorem dX11_said_8 : decode cX11_said 8 = .ok (.ifCond .lt 15, 3) := by decide +kernel
theorem dX11_said_11 : decode cX11_said 11 = .ok (.iload_n 2, 1) := by decide +kernel
theorem dX11_said_12 : decode cX11_said 12 = .ok (.aload_n 0, 1) := by decide +kernel
theorem dX11_said_13 : decode cX11_said 13 = .ok (.getfield 38, 3) := by decide +kernel
theorem dX11_said_16 : decode cX11_said 16 = .ok (.iload_n 1, 1) := by decide +kernel
theorem dX11_said_17 : decode cX11_said 17 = .ok (.invokevirtual 147, 3) := by decide +kernel
theorem dX11_said_20 : decode cX11_said 20 = .ok (.if_icmp .lt 5, 3) := by decide +kernel
set_option maxHeartbeats 400000 in
set_option maxRecDepth 100000 in
theorem t_said (l : Launch) (D : va_G) (cy : Nat → ClassId) (a0 : Nat) (w0 : Value) (w1 : Value) (w2 : Value) (w3 : Value) (w5 : Value) (w6 : Value) (w7 : Value) (w8 : Value) (w9 : Value) (w10 : Value) (w11 : Value) (w12 : Value) (w13 : Value) (n0 : Nat) (n1 : Nat) (n2 : Nat) (n3 : Nat) (z3 : Value) (z4 : Value) (z5 : Value) (z6 : Value) (ka : Int32) (kb : Int32)  : XMi l D (tyL cy) E0 yX11_said cX11_said 3 (some .int) (rmk 2 0 0) [.ref a0, .int ka, .int kb] [(a0, .inr (11, [w0, w1, w2, w3, .ref n0, w5, w6, w7, w8, w9, w10, w11, w12, w13])), (n0, .inr (5, [.ref n1, .ref n2, .ref n3, z3, z4, z5, z6])), (n1, .inl (cy 1, 41, .inl (fun _ => 0)))] (fun (r : Int32) (_ : Unit) => r = -1) (fun (_ : Unit) => []) := by
  refine XMi.start (by decide) (Nat.le_of_ble_eq_true rfl) ?_
  intro p e s m below meth c args A ls Q hat hQ
  obtain ⟨hx, hb, hr, hml, hown, hg, hlocks, hin, hK, hA, hP, hD, hS, hE, hl⟩ := hat
  have hown : s.vm.findClass RX11 = some m.cls := hown
  have hl : lv_has ls 3 [(0, .ref a0), (1, .int ka), (2, .int kb)] := hl
  refine lv_iload_n hx hb dX11_said_0 rfl (lv_at hl 1 rfl) ?_
  refine x_callSi (wr := [(a0, .inr (11, [w0, w1, w2, w3, .ref n0, w5, w6, w7, w8, w9, w10, w11, w12, w13])), (n0, .inr (5, [.ref n1, .ref n2, .ref n3, z3, z4, z5, z6])), (n1, .inl (cy 1, 41, .inl (fun _ => 0)))]) (rest := []) ⟨hx, hb, hml, hown, hg, hl.1⟩ k_X11_143 (c_isCry l D cy ka) E0_blind hK hP hD hS hA [] [0, 1, 2] ⟨rfl, rfl, by decide, by decide, by decide⟩ (fun _ _ _ => trivial) dX11_said_1 rfl rfl (Nat.le_of_ble_eq_true rfl) ⟨Nat.le_of_ble_eq_true rfl, Nat.le_of_ble_eq_true rfl⟩ ⟨Nat.le_of_ble_eq_true rfl, Nat.le_of_ble_eq_true rfl⟩ (fun r1 u1 H locs hw1 hP hD hS => ?_)
  have hP : va_P D vwCl [(a0, .inr (11, [w0, w1, w2, w3, .ref n0, w5, w6, w7, w8, w9, w10, w11, w12, w13])), (n0, .inr (5, [.ref n1, .ref n2, .ref n3, z3, z4, z5, z6])), (n1, .inl (cy 1, 41, .inl (fun _ => 0)))] H := hP
  have hD : va_D A [(a0, .inr (11, [w0, w1, w2, w3, .ref n0, w5, w6, w7, w8, w9, w10, w11, w12, w13])), (n0, .inr (5, [.ref n1, .ref n2, .ref n3, z3, z4, z5, z6])), (n1, .inl (cy 1, 41, .inl (fun _ => 0)))] := hD
  refine W.widen (k := 0) (n := 0) (Nat.le_of_ble_eq_true rfl) (Nat.le_of_ble_eq_true rfl) ?_
  have hw1 : r1 = 0 ∨ ka = 0 ∨ ka = 1 := hw1
  refine lv_if_eq (tgt := 23) hx hb dX11_said_4 (by decide) (fun c_4 => ?_) (fun c_4 => ?_)
  · refine lv_iconst (v := -1) hx hb dX11_said_23 (by decide) ?_
    exact x_iret hQ hx hb hr hlocks hK hP hD hS dX11_said_24 () (rfl) [] (by decide) rfl (Nat.le_of_ble_eq_true rfl) (Nat.le_of_ble_eq_true rfl)
  · refine lv_iload_n hx hb dX11_said_7 rfl (lv_at hl 2 rfl) ?_
    refine lv_if_lt (tgt := 23) hx hb dX11_said_8 (by decide) (fun c_8 => ?_) (fun c_8 => ?_)
    · refine lv_iconst (v := -1) hx hb dX11_said_23 (by decide) ?_
      exact x_iret hQ hx hb hr hlocks hK hP hD hS dX11_said_24 () (rfl) [] (by decide) rfl (Nat.le_of_ble_eq_true rfl) (Nat.le_of_ble_eq_true rfl)
    · refine lv_iload_n hx hb dX11_said_11 rfl (lv_at hl 2 rfl) ?_
      refine lv_aload_n hx hb dX11_said_12 rfl (lv_at hl 0 rfl) ?_
      refine va_get (D := D) (ci := 11) (v := .ref n0) (C := RX11) (T := TX11) (N := 14) hx hb hg i_X11 hown hK hP 0 rfl rfl 4 (by decide) (hg _ m_662) (fun _ h9 => h9) rfl dX11_said_13 ?_
      refine lv_iload_n hx hb dX11_said_16 rfl (lv_at hl 1 rfl) ?_
      refine x_callVi (q := (RX5, TX5, 7)) (ci := 5) (q0 := 0) (wr := [(a0, .inr (11, [w0, w1, w2, w3, .ref n0, w5, w6, w7, w8, w9, w10, w11, w12, w13]))]) (rest := [.int kb]) ⟨hx, hb, hml, hown, hg, hl.1⟩ k_X11_147 (c_cryLength l D cy n0 n1 n2 n3 z3 z4 z5 z6 ka (cry_in hw1 c_4)) E0_blind hK hP hD hS hA [1, 2] [0] ⟨rfl, rfl, by decide, by decide, by decide⟩ rfl rfl (fun _ _ _ => trivial) dX11_said_17 rfl rfl (Nat.le_of_ble_eq_true rfl) ⟨Nat.le_of_ble_eq_true rfl, Nat.le_of_ble_eq_true rfl⟩ ⟨Nat.le_of_ble_eq_true rfl, Nat.le_of_ble_eq_true rfl⟩ (fun r2 u2 H locs hw2 hP hD hS => ?_)
      have hP : va_P D vwCl [(a0, .inr (11, [w0, w1, w2, w3, .ref n0, w5, w6, w7, w8, w9, w10, w11, w12, w13])), (n0, .inr (5, [.ref n1, .ref n2, .ref n3, z3, z4, z5, z6])), (n1, .inl (cy 1, 41, .inl (fun _ => 0)))] H := hP
      have hD : va_D A [(a0, .inr (11, [w0, w1, w2, w3, .ref n0, w5, w6, w7, w8, w9, w10, w11, w12, w13])), (n0, .inr (5, [.ref n1, .ref n2, .ref n3, z3, z4, z5, z6])), (n1, .inl (cy 1, 41, .inl (fun _ => 0)))] := hD
      refine W.widen (k := 0) (n := 0) (Nat.le_of_ble_eq_true rfl) (Nat.le_of_ble_eq_true rfl) ?_
      have hw2 : r2 = 0 := hw2
      subst hw2
      refine lv_icmp_lt (tgt := 25) hx hb dX11_said_20 (by decide) (fun h => absurd h c_8) (fun _ => ?_)
      refine lv_iconst (v := -1) hx hb dX11_said_23 (by decide) ?_
      exact x_iret hQ hx hb hr hlocks hK hP hD hS dX11_said_24 () (rfl) [] (by decide) rfl (Nat.le_of_ble_eq_true rfl) (Nat.le_of_ble_eq_true rfl)
