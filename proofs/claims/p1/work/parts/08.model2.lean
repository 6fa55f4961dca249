theorem dX12_four_0 : decode cX12_four 0 = .ok (.bipush 24, 2) := by decide +kernel
theorem dX12_four_2 : decode cX12_four 2 = .ok (.istore_n 2, 1) := by decide +kernel
theorem dX12_four_3 : decode cX12_four 3 = .ok (.iload_n 2, 1) := by decide +kernel
theorem dX12_four_4 : decode cX12_four 4 = .ok (.ifCond .lt 35, 3) := by decide +kernel
theorem dX12_four_7 : decode cX12_four 7 = .ok (.aload_n 0, 1) := by decide +kernel
theorem dX12_four_8 : decode cX12_four 8 = .ok (.getfield 7, 3) := by decide +kernel
theorem m_1413 : (Cond.fieldLink RX12 7 "CliffJudgesModel" "tape" "[I") ∈ gT := gm 1413 (by decide +kernel) (by decide +kernel)
theorem dX12_four_11 : decode cX12_four 11 = .ok (.aload_n 0, 1) := by decide +kernel
theorem dX12_four_12 : decode cX12_four 12 = .ok (.getfield 157, 3) := by decide +kernel
theorem dX12_four_15 : decode cX12_four 15 = .ok (.iload_n 1, 1) := by decide +kernel
theorem dX12_four_16 : decode cX12_four 16 = .ok (.iload_n 2, 1) := by decide +kernel
theorem dX12_four_17 : decode cX12_four 17 = .ok (.ishr, 1) := by decide +kernel
theorem dX12_four_18 : decode cX12_four 18 = .ok (.sipush 255, 3) := by decide +kernel
theorem dX12_four_21 : decode cX12_four 21 = .ok (.iand, 1) := by decide +kernel
theorem dX12_four_22 : decode cX12_four 22 = .ok (.iastore, 1) := by decide +kernel
theorem dX12_four_23 : decode cX12_four 23 = .ok (.aload_n 0, 1) := by decide +kernel
theorem dX12_four_24 : decode cX12_four 24 = .ok (.dup, 1) := by decide +kernel
theorem dX12_four_25 : decode cX12_four 25 = .ok (.getfield 157, 3) := by decide +kernel
theorem dX12_four_28 : decode cX12_four 28 = .ok (.iconst 1, 1) := by decide +kernel
theorem dX12_four_29 : decode cX12_four 29 = .ok (.iadd, 1) := by decide +kernel
theorem dX12_four_30 : decode cX12_four 30 = .ok (.putfield 157, 3) := by decide +kernel
theorem dX12_four_33 : decode cX12_four 33 = .ok (.iinc 2 (-8), 3) := by decide +kernel
theorem dX12_four_36 : decode cX12_four 36 = .ok (.goto (-33), 3) := by decide +kernel
theorem dX12_four_39 : decode cX12_four 39 = .ok (.return_, 1) := by decide +kernel
set_option maxHeartbeats 400000 in
set_option maxRecDepth 100000 in
theorem m_four (l : Launch) (D : va_G) (cy : Nat → ClassId) (b0 : Nat) (x2 : Value) (x3 : Value) (x4 : Value) (x5 : Value) (x6 : Value) (x7 : Value) (x8 : Value) (x9 : Value) (x10 : Value) (x11 : Value) (x12 : Value) (x13 : Value) (x14 : Value) (x15 : Value) (x16 : Value) (x17 : Value) (x18 : Value) (x19 : Value) (x20 : Value) (x21 : Value) (x22 : Value) (x23 : Value) (x24 : Value) (x25 : Value) (x26 : Value) (x27 : Value) (x28 : Value) (x29 : Value) (x30 : Value) (x31 : Value) (x32 : Value) (x33 : Value) (x34 : Value) (x35 : Value) (x36 : Value) (x37 : Value) (x38 : Value) (x39 : Value) (x40 : Value) (x41 : Value) (x42 : Value) (x43 : Value) (x44 : Value) (x45 : Value) (x46 : Value) (x47 : Value) (x48 : Value) (x49 : Value) (x50 : Value) (x51 : Value) (x52 : Value) (x53 : Value) (x54 : Value) (x55 : Value) (x56 : Value) (x57 : Value) (x58 : Value) (x59 : Value) (x60 : Value) (x61 : Value) (x62 : Value) (x63 : Value) (x64 : Value) (x65 : Value) (x66 : Value) (x67 : Value) (x68 : Value) (x69 : Value) (x70 : Value) (x71 : Value) (x72 : Value) (x73 : Value) (x74 : Value) (x75 : Value) (x76 : Value) (x77 : Value) (x78 : Value) (x79 : Value) (x80 : Value) (x81 : Value) (x82 : Value) (x83 : Value) (x84 : Value) (x85 : Value) (x86 : Value) (x87 : Value) (x88 : Value) (b_tape : Nat) (n : Nat) (ft : Nat → Int32) (fo : Int32) (hn : n + 4 ≤ 1600) : XMv l D (tyL cy) E0 yX12_four cX12_four 3 none (rmk 0 0 0) [.ref b0, .int fo] [(b0, .inr (12, [.ref b_tape, .int (nI n), x2, x3, x4, x5, x6, x7, x8, x9, x10, x11, x12, x13, x14, x15, x16, x17, x18, x19, x20, x21, x22, x23, x24, x25, x26, x27, x28, x29, x30, x31, x32, x33, x34, x35, x36, x37, x38, x39, x40, x41, x42, x43, x44, x45, x46, x47, x48, x49, x50, x51, x52, x53, x54, x55, x56, x57, x58, x59, x60, x61, x62, x63, x64, x65, x66, x67, x68, x69, x70, x71, x72, x73, x74, x75, x76, x77, x78, x79, x80, x81, x82, x83, x84, x85, x86, x87, x88])), (b_tape, .inl (cy 1, 1600, .inl (ft)))] (fun (ft2 : Nat → Int32) => True) (fun (ft2 : Nat → Int32) => [(b0, .inr (12, [.ref b_tape, .int (nI (n + 4)), x2, x3, x4, x5, x6, x7, x8, x9, x10, x11, x12, x13, x14, x15, x16, x17, x18, x19, x20, x21, x22, x23, x24, x25, x26, x27, x28, x29, x30, x31, x32, x33, x34, x35, x36, x37, x38, x39, x40, x41, x42, x43, x44, x45, x46, x47, x48, x49, x50, x51, x52, x53, x54, x55, x56, x57, x58, x59, x60, x61, x62, x63, x64, x65, x66, x67, x68, x69, x70, x71, x72, x73, x74, x75, x76, x77, x78, x79, x80, x81, x82, x83, x84, x85, x86, x87, x88])), (b_tape, .inl (cy 1, 1600, .inl (ft2)))]) := by
  refine XMv.start (by decide) (Nat.le_of_ble_eq_true rfl) ?_
  intro p e s m below meth c args A ls Q hat hQ
  obtain ⟨hx, hb, hr, hml, hown, hg, hlocks, hin, hK, hA, hP, hD, hS, hE, hl⟩ := hat
  have hown : s.vm.findClass RX12 = some m.cls := hown
  have hl : lv_has ls 3 [(0, .ref b0), (1, .int fo)] := hl
  refine lv_bipush (v := 24) hx hb dX12_four_0 (by decide) ?_
  refine lv_istore_n (lv' := [(2, .int 24), (0, .ref b0), (1, .int fo)]) hx hb dX12_four_2 rfl hl (by decide) rfl (fun ls hl => ?_)
  refine lv_iload_n hx hb dX12_four_3 rfl (lv_at hl 0 rfl) ?_
  refine lv_if_lt (tgt := 39) hx hb dX12_four_4 (by decide) (fun h => absurd h (by decide)) (fun _ => ?_)
  refine lv_aload_n hx hb dX12_four_7 rfl (lv_at hl 1 rfl) ?_
  refine va_get (D := D) (ci := 12) (v := .ref b_tape) (C := RX12) (T := TX12) (N := 89) hx hb hg i_X12 hown hK hP 0 rfl rfl 0 (by decide) (hg _ m_1413) (fun _ h9 => h9) rfl dX12_four_8 ?_
  refine lv_aload_n hx hb dX12_four_11 rfl (lv_at hl 1 rfl) ?_
  refine va_get (D := D) (ci := 12) (v := .int (nI n)) (C := RX12) (T := TX12) (N := 89) hx hb hg i_X12 hown hK hP 0 rfl rfl 1 (by decide) (hg _ m_1414) (fun _ h9 => h9) rfl dX12_four_12 ?_
  refine lv_iload_n hx hb dX12_four_15 rfl (lv_at hl 2 rfl) ?_
  refine lv_iload_n hx hb dX12_four_16 rfl (lv_at hl 0 rfl) ?_
  refine lv_ishr hx hb dX12_four_17 ?_
  refine lv_topi (fun x_1 ex_1 => ?_)
  refine lv_sipush (v := 255) hx hb dX12_four_18 (by decide) ?_
  refine lv_iand hx hb dX12_four_21 ?_
  refine lv_topi (fun x_2 ex_2 => ?_)
  refine va_iast hx hb hK hP hD hS 1 1 rfl rfl (vp_in_nI (by omega) (by decide)) dX12_four_22 (fun H locs hP hD hS => ?_)
  obtain ⟨g_3, eg_3⟩ : ∃ y, upd ft (nI n : Int32).toNatClampNeg x_2 = y := ⟨_, rfl⟩
  rw [eg_3] at hP hD
  have hP : va_P D vwCl [(b0, .inr (12, [.ref b_tape, .int (nI n), x2, x3, x4, x5, x6, x7, x8, x9, x10, x11, x12, x13, x14, x15, x16, x17, x18, x19, x20, x21, x22, x23, x24, x25, x26, x27, x28, x29, x30, x31, x32, x33, x34, x35, x36, x37, x38, x39, x40, x41, x42, x43, x44, x45, x46, x47, x48, x49, x50, x51, x52, x53, x54, x55, x56, x57, x58, x59, x60, x61, x62, x63, x64, x65, x66, x67, x68, x69, x70, x71, x72, x73, x74, x75, x76, x77, x78, x79, x80, x81, x82, x83, x84, x85, x86, x87, x88])), (b_tape, .inl (cy 1, 1600, .inl (g_3)))] H := hP
  have hD : va_D A [(b0, .inr (12, [.ref b_tape, .int (nI n), x2, x3, x4, x5, x6, x7, x8, x9, x10, x11, x12, x13, x14, x15, x16, x17, x18, x19, x20, x21, x22, x23, x24, x25, x26, x27, x28, x29, x30, x31, x32, x33, x34, x35, x36, x37, x38, x39, x40, x41, x42, x43, x44, x45, x46, x47, x48, x49, x50, x51, x52, x53, x54, x55, x56, x57, x58, x59, x60, x61, x62, x63, x64, x65, x66, x67, x68, x69, x70, x71, x72, x73, x74, x75, x76, x77, x78, x79, x80, x81, x82, x83, x84, x85, x86, x87, x88])), (b_tape, .inl (cy 1, 1600, .inl (g_3)))] := hD
  refine lv_aload_n hx hb dX12_four_23 rfl (lv_at hl 1 rfl) ?_
  refine lv_dup hx hb dX12_four_24 rfl ?_
  refine va_get (D := D) (ci := 12) (v := .int (nI n)) (C := RX12) (T := TX12) (N := 89) hx hb hg i_X12 hown hK hP 0 rfl rfl 1 (by decide) (hg _ m_1414) (fun _ h9 => h9) rfl dX12_four_25 ?_
  refine lv_iconst (v := 1) hx hb dX12_four_28 (by decide) ?_
  refine lv_iadd hx hb dX12_four_29 ?_
  refine lv_topi (fun y_4 hy_4 => ?_)
  obtain rfl : y_4 = nI (n + 1) := hy_4.trans (nI_add _ _)
  refine va_put (D := D) (ci := 12) (v := .int (nI (n + 1))) (ty := .int) (C := RX12) (T := TX12) (N := 89) hx hb hg i_X12 tyX12 tyX12_ok nmX12 hown hK hP hD hS 0 rfl rfl 1 (by decide) (hg _ m_1414) (fun _ h9 => h9) rfl (by decide +kernel) rfl rfl (Nat.le_of_ble_eq_true rfl) dX12_four_30 (fun H locs hP hD hS => ?_)
  have hP : va_P D vwCl [(b0, .inr (12, [.ref b_tape, .int (nI (n + 1)), x2, x3, x4, x5, x6, x7, x8, x9, x10, x11, x12, x13, x14, x15, x16, x17, x18, x19, x20, x21, x22, x23, x24, x25, x26, x27, x28, x29, x30, x31, x32, x33, x34, x35, x36, x37, x38, x39, x40, x41, x42, x43, x44, x45, x46, x47, x48, x49, x50, x51, x52, x53, x54, x55, x56, x57, x58, x59, x60, x61, x62, x63, x64, x65, x66, x67, x68, x69, x70, x71, x72, x73, x74, x75, x76, x77, x78, x79, x80, x81, x82, x83, x84, x85, x86, x87, x88])), (b_tape, .inl (cy 1, 1600, .inl (g_3)))] H := hP
  have hD : va_D A [(b0, .inr (12, [.ref b_tape, .int (nI (n + 1)), x2, x3, x4, x5, x6, x7, x8, x9, x10, x11, x12, x13, x14, x15, x16, x17, x18, x19, x20, x21, x22, x23, x24, x25, x26, x27, x28, x29, x30, x31, x32, x33, x34, x35, x36, x37, x38, x39, x40, x41, x42, x43, x44, x45, x46, x47, x48, x49, x50, x51, x52, x53, x54, x55, x56, x57, x58, x59, x60, x61, x62, x63, x64, x65, x66, x67, x68, x69, x70, x71, x72, x73, x74, x75, x76, x77, x78, x79, x80, x81, x82, x83, x84, x85, x86, x87, x88])), (b_tape, .inl (cy 1, 1600, .inl (g_3)))] := hD
  refine lv_iinc (v := 16) (lv' := [(2, .int 16), (0, .ref b0), (1, .int fo)]) hx hb dX12_four_33 hl (k := 0) rfl (by decide) (by decide) rfl (fun ls hl => ?_)
  refine lv_goto (tgt := 3) hx hb dX12_four_36 (by decide) ?_
  refine lv_iload_n hx hb dX12_four_3 rfl (lv_at hl 0 rfl) ?_
  refine lv_if_lt (tgt := 39) hx hb dX12_four_4 (by decide) (fun h => absurd h (by decide)) (fun _ => ?_)
  refine lv_aload_n hx hb dX12_four_7 rfl (lv_at hl 1 rfl) ?_
  refine va_get (D := D) (ci := 12) (v := .ref b_tape) (C := RX12) (T := TX12) (N := 89) hx hb hg i_X12 hown hK hP 0 rfl rfl 0 (by decide) (hg _ m_1413) (fun _ h9 => h9) rfl dX12_four_8 ?_
  refine lv_aload_n hx hb dX12_four_11 rfl (lv_at hl 1 rfl) ?_
  refine va_get (D := D) (ci := 12) (v := .int (nI (n + 1))) (C := RX12) (T := TX12) (N := 89) hx hb hg i_X12 hown hK hP 0 rfl rfl 1 (by decide) (hg _ m_1414) (fun _ h9 => h9) rfl dX12_four_12 ?_
  refine lv_iload_n hx hb dX12_four_15 rfl (lv_at hl 2 rfl) ?_
  refine lv_iload_n hx hb dX12_four_16 rfl (lv_at hl 0 rfl) ?_
  refine lv_ishr hx hb dX12_four_17 ?_
  refine lv_topi (fun x_5 ex_5 => ?_)
  refine lv_sipush (v := 255) hx hb dX12_four_18 (by decide) ?_
  refine lv_iand hx hb dX12_four_21 ?_
  refine lv_topi (fun x_6 ex_6 => ?_)
  refine va_iast hx hb hK hP hD hS 1 1 rfl rfl (vp_in_nI (by omega) (by decide)) dX12_four_22 (fun H locs hP hD hS => ?_)
  obtain ⟨g_7, eg_7⟩ : ∃ y, upd g_3 (nI (n + 1) : Int32).toNatClampNeg x_6 = y := ⟨_, rfl⟩
  rw [eg_7] at hP hD
  have hP : va_P D vwCl [(b0, .inr (12, [.ref b_tape, .int (nI (n + 1)), x2, x3, x4, x5, x6, x7, x8, x9, x10, x11, x12, x13, x14, x15, x16, x17, x18, x19, x20, x21, x22, x23, x24, x25, x26, x27, x28, x29, x30, x31, x32, x33, x34, x35, x36, x37, x38, x39, x40, x41, x42, x43, x44, x45, x46, x47, x48, x49, x50, x51, x52, x53, x54, x55, x56, x57, x58, x59, x60, x61, x62, x63, x64, x65, x66, x67, x68, x69, x70, x71, x72, x73, x74, x75, x76, x77, x78, x79, x80, x81, x82, x83, x84, x85, x86, x87, x88])), (b_tape, .inl (cy 1, 1600, .inl (g_7)))] H := hP
  have hD : va_D A [(b0, .inr (12, [.ref b_tape, .int (nI (n + 1)), x2, x3, x4, x5, x6, x7, x8, x9, x10, x11, x12, x13, x14, x15, x16, x17, x18, x19, x20, x21, x22, x23, x24, x25, x26, x27, x28, x29, x30, x31, x32, x33, x34, x35, x36, x37, x38, x39, x40, x41, x42, x43, x44, x45, x46, x47, x48, x49, x50, x51, x52, x53, x54, x55, x56, x57, x58, x59, x60, x61, x62, x63, x64, x65, x66, x67, x68, x69, x70, x71, x72, x73, x74, x75, x76, x77, x78, x79, x80, x81, x82, x83, x84, x85, x86, x87, x88])), (b_tape, .inl (cy 1, 1600, .inl (g_7)))] := hD
  refine lv_aload_n hx hb dX12_four_23 rfl (lv_at hl 1 rfl) ?_
  refine lv_dup hx hb dX12_four_24 rfl ?_
  refine va_get (D := D) (ci := 12) (v := .int (nI (n + 1))) (C := RX12) (T := TX12) (N := 89) hx hb hg i_X12 hown hK hP 0 rfl rfl 1 (by decide) (hg _ m_1414) (fun _ h9 => h9) rfl dX12_four_25 ?_
  refine lv_iconst (v := 1) hx hb dX12_four_28 (by decide) ?_
  refine lv_iadd hx hb dX12_four_29 ?_
  refine lv_topi (fun y_8 hy_8 => ?_)
  obtain rfl : y_8 = nI ((n + 1) + 1) := hy_8.trans (nI_add _ _)
  refine va_put (D := D) (ci := 12) (v := .int (nI ((n + 1) + 1))) (ty := .int) (C := RX12) (T := TX12) (N := 89) hx hb hg i_X12 tyX12 tyX12_ok nmX12 hown hK hP hD hS 0 rfl rfl 1 (by decide) (hg _ m_1414) (fun _ h9 => h9) rfl (by decide +kernel) rfl rfl (Nat.le_of_ble_eq_true rfl) dX12_four_30 (fun H locs hP hD hS => ?_)
  have hP : va_P D vwCl [(b0, .inr (12, [.ref b_tape, .int (nI ((n + 1) + 1)), x2, x3, x4, x5, x6, x7, x8, x9, x10, x11, x12, x13, x14, x15, x16, x17, x18, x19, x20, x21, x22, x23, x24, x25, x26, x27, x28, x29, x30, x31, x32, x33, x34, x35, x36, x37, x38, x39, x40, x41, x42, x43, x44, x45, x46, x47, x48, x49, x50, x51, x52, x53, x54, x55, x56, x57, x58, x59, x60, x61, x62, x63, x64, x65, x66, x67, x68, x69, x70, x71, x72, x73, x74, x75, x76, x77, x78, x79, x80, x81, x82, x83, x84, x85, x86, x87, x88])), (b_tape, .inl (cy 1, 1600, .inl (g_7)))] H := hP
  have hD : va_D A [(b0, .inr (12, [.ref b_tape, .int (nI ((n + 1) + 1)), x2, x3, x4, x5, x6, x7, x8, x9, x10, x11, x12, x13, x14, x15, x16, x17, x18, x19, x20, x21, x22, x23, x24, x25, x26, x27, x28, x29, x30, x31, x32, x33, x34, x35, x36, x37, x38, x39, x40, x41, x42, x43, x44, x45, x46, x47, x48, x49, x50, x51, x52, x53, x54, x55, x56, x57, x58, x59, x60, x61, x62, x63, x64, x65, x66, x67, x68, x69, x70, x71, x72, x73, x74, x75, x76, x77, x78, x79, x80, x81, x82, x83, x84, x85, x86, x87, x88])), (b_tape, .inl (cy 1, 1600, .inl (g_7)))] := hD
  refine lv_iinc (v := 8) (lv' := [(2, .int 8), (0, .ref b0), (1, .int fo)]) hx hb dX12_four_33 hl (k := 0) rfl (by decide) (by decide) rfl (fun ls hl => ?_)
  refine lv_goto (tgt := 3) hx hb dX12_four_36 (by decide) ?_
  refine lv_iload_n hx hb dX12_four_3 rfl (lv_at hl 0 rfl) ?_
  refine lv_if_lt (tgt := 39) hx hb dX12_four_4 (by decide) (fun h => absurd h (by decide)) (fun _ => ?_)
  refine lv_aload_n hx hb dX12_four_7 rfl (lv_at hl 1 rfl) ?_
  refine va_get (D := D) (ci := 12) (v := .ref b_tape) (C := RX12) (T := TX12) (N := 89) hx hb hg i_X12 hown hK hP 0 rfl rfl 0 (by decide) (hg _ m_1413) (fun _ h9 => h9) rfl dX12_four_8 ?_
  refine lv_aload_n hx hb dX12_four_11 rfl (lv_at hl 1 rfl) ?_
  refine va_get (D := D) (ci := 12) (v := .int (nI ((n + 1) + 1))) (C := RX12) (T := TX12) (N := 89) hx hb hg i_X12 hown hK hP 0 rfl rfl 1 (by decide) (hg _ m_1414) (fun _ h9 => h9) rfl dX12_four_12 ?_
  refine lv_iload_n hx hb dX12_four_15 rfl (lv_at hl 2 rfl) ?_
  refine lv_iload_n hx hb dX12_four_16 rfl (lv_at hl 0 rfl) ?_
  refine lv_ishr hx hb dX12_four_17 ?_
  refine lv_topi (fun x_9 ex_9 => ?_)
  refine lv_sipush (v := 255) hx hb dX12_four_18 (by decide) ?_
  refine lv_iand hx hb dX12_four_21 ?_
  refine lv_topi (fun x_10 ex_10 => ?_)
  refine va_iast hx hb hK hP hD hS 1 1 rfl rfl (vp_in_nI (by omega) (by decide)) dX12_four_22 (fun H locs hP hD hS => ?_)
  obtain ⟨g_11, eg_11⟩ : ∃ y, upd g_7 (nI ((n + 1) + 1) : Int32).toNatClampNeg x_10 = y := ⟨_, rfl⟩
  rw [eg_11] at hP hD
  have hP : va_P D vwCl [(b0, .inr (12, [.ref b_tape, .int (nI ((n + 1) + 1)), x2, x3, x4, x5, x6, x7, x8, x9, x10, x11, x12, x13, x14, x15, x16, x17, x18, x19, x20, x21, x22, x23, x24, x25, x26, x27, x28, x29, x30, x31, x32, x33, x34, x35, x36, x37, x38, x39, x40, x41, x42, x43, x44, x45, x46, x47, x48, x49, x50, x51, x52, x53, x54, x55, x56, x57, x58, x59, x60, x61, x62, x63, x64, x65, x66, x67, x68, x69, x70, x71, x72, x73, x74, x75, x76, x77, x78, x79, x80, x81, x82, x83, x84, x85, x86, x87, x88])), (b_tape, .inl (cy 1, 1600, .inl (g_11)))] H := hP
  have hD : va_D A [(b0, .inr (12, [.ref b_tape, .int (nI ((n + 1) + 1)), x2, x3, x4, x5, x6, x7, x8, x9, x10, x11, x12, x13, x14, x15, x16, x17, x18, x19, x20, x21, x22, x23, x24, x25, x26, x27, x28, x29, x30, x31, x32, x33, x34, x35, x36, x37, x38, x39, x40, x41, x42, x43, x44, x45, x46, x47, x48, x49, x50, x51, x52, x53, x54, x55, x56, x57, x58, x59, x60, x61, x62, x63, x64, x65, x66, x67, x68, x69, x70, x71, x72, x73, x74, x75, x76, x77, x78, x79, x80, x81, x82, x83, x84, x85, x86, x87, x88])), (b_tape, .inl (cy 1, 1600, .inl (g_11)))] := hD
  refine lv_aload_n hx hb dX12_four_23 rfl (lv_at hl 1 rfl) ?_
  refine lv_dup hx hb dX12_four_24 rfl ?_
  refine va_get (D := D) (ci := 12) (v := .int (nI ((n + 1) + 1))) (C := RX12) (T := TX12) (N := 89) hx hb hg i_X12 hown hK hP 0 rfl rfl 1 (by decide) (hg _ m_1414) (fun _ h9 => h9) rfl dX12_four_25 ?_
  refine lv_iconst (v := 1) hx hb dX12_four_28 (by decide) ?_
  refine lv_iadd hx hb dX12_four_29 ?_
  refine lv_topi (fun y_12 hy_12 => ?_)
  obtain rfl : y_12 = nI (((n + 1) + 1) + 1) := hy_12.trans (nI_add _ _)
  refine va_put (D := D) (ci := 12) (v := .int (nI (((n + 1) + 1) + 1))) (ty := .int) (C := RX12) (T := TX12) (N := 89) hx hb hg i_X12 tyX12 tyX12_ok nmX12 hown hK hP hD hS 0 rfl rfl 1 (by decide) (hg _ m_1414) (fun _ h9 => h9) rfl (by decide +kernel) rfl rfl (Nat.le_of_ble_eq_true rfl) dX12_four_30 (fun H locs hP hD hS => ?_)
  have hP : va_P D vwCl [(b0, .inr (12, [.ref b_tape, .int (nI (((n + 1) + 1) + 1)), x2, x3, x4, x5, x6, x7, x8, x9, x10, x11, x12, x13, x14, x15, x16, x17, x18, x19, x20, x21, x22, x23, x24, x25, x26, x27, x28, x29, x30, x31, x32, x33, x34, x35, x36, x37, x38, x39, x40, x41, x42, x43, x44, x45, x46, x47, x48, x49, x50, x51, x52, x53, x54, x55, x56, x57, x58, x59, x60, x61, x62, x63, x64, x65, x66, x67, x68, x69, x70, x71, x72, x73, x74, x75, x76, x77, x78, x79, x80, x81, x82, x83, x84, x85, x86, x87, x88])), (b_tape, .inl (cy 1, 1600, .inl (g_11)))] H := hP
  have hD : va_D A [(b0, .inr (12, [.ref b_tape, .int (nI (((n + 1) + 1) + 1)), x2, x3, x4, x5, x6, x7, x8, x9, x10, x11, x12, x13, x14, x15, x16, x17, x18, x19, x20, x21, x22, x23, x24, x25, x26, x27, x28, x29, x30, x31, x32, x33, x34, x35, x36, x37, x38, x39, x40, x41, x42, x43, x44, x45, x46, x47, x48, x49, x50, x51, x52, x53, x54, x55, x56, x57, x58, x59, x60, x61, x62, x63, x64, x65, x66, x67, x68, x69, x70, x71, x72, x73, x74, x75, x76, x77, x78, x79, x80, x81, x82, x83, x84, x85, x86, x87, x88])), (b_tape, .inl (cy 1, 1600, .inl (g_11)))] := hD
  refine lv_iinc (v := 0) (lv' := [(2, .int 0), (0, .ref b0), (1, .int fo)]) hx hb dX12_four_33 hl (k := 0) rfl (by decide) (by decide) rfl (fun ls hl => ?_)
  refine lv_goto (tgt := 3) hx hb dX12_four_36 (by decide) ?_
  refine lv_iload_n hx hb dX12_four_3 rfl (lv_at hl 0 rfl) ?_
  refine lv_if_lt (tgt := 39) hx hb dX12_four_4 (by decide) (fun h => absurd h (by decide)) (fun _ => ?_)
  refine lv_aload_n hx hb dX12_four_7 rfl (lv_at hl 1 rfl) ?_
  refine va_get (D := D) (ci := 12) (v := .ref b_tape) (C := RX12) (T := TX12) (N := 89) hx hb hg i_X12 hown hK hP 0 rfl rfl 0 (by decide) (hg _ m_1413) (fun _ h9 => h9) rfl dX12_four_8 ?_
  refine lv_aload_n hx hb dX12_four_11 rfl (lv_at hl 1 rfl) ?_
  refine va_get (D := D) (ci := 12) (v := .int (nI (((n + 1) + 1) + 1))) (C := RX12) (T := TX12) (N := 89) hx hb hg i_X12 hown hK hP 0 rfl rfl 1 (by decide) (hg _ m_1414) (fun _ h9 => h9) rfl dX12_four_12 ?_
  refine lv_iload_n hx hb dX12_four_15 rfl (lv_at hl 2 rfl) ?_
  refine lv_iload_n hx hb dX12_four_16 rfl (lv_at hl 0 rfl) ?_
  refine lv_ishr hx hb dX12_four_17 ?_
  refine lv_topi (fun x_13 ex_13 => ?_)
  refine lv_sipush (v := 255) hx hb dX12_four_18 (by decide) ?_
  refine lv_iand hx hb dX12_four_21 ?_
  refine lv_topi (fun x_14 ex_14 => ?_)
  refine va_iast hx hb hK hP hD hS 1 1 rfl rfl (vp_in_nI (by omega) (by decide)) dX12_four_22 (fun H locs hP hD hS => ?_)
  obtain ⟨g_15, eg_15⟩ : ∃ y, upd g_11 (nI (((n + 1) + 1) + 1) : Int32).toNatClampNeg x_14 = y := ⟨_, rfl⟩
  rw [eg_15] at hP hD
  have hP : va_P D vwCl [(b0, .inr (12, [.ref b_tape, .int (nI (((n + 1) + 1) + 1)), x2, x3, x4, x5, x6, x7, x8, x9, x10, x11, x12, x13, x14, x15, x16, x17, x18, x19, x20, x21, x22, x23, x24, x25, x26, x27, x28, x29, x30, x31, x32, x33, x34, x35, x36, x37, x38, x39, x40, x41, x42, x43, x44, x45, x46, x47, x48, x49, x50, x51, x52, x53, x54, x55, x56, x57, x58, x59, x60, x61, x62, x63, x64, x65, x66, x67, x68, x69, x70, x71, x72, x73, x74, x75, x76, x77, x78, x79, x80, x81, x82, x83, x84, x85, x86, x87, x88])), (b_tape, .inl (cy 1, 1600, .inl (g_15)))] H := hP
  have hD : va_D A [(b0, .inr (12, [.ref b_tape, .int (nI (((n + 1) + 1) + 1)), x2, x3, x4, x5, x6, x7, x8, x9, x10, x11, x12, x13, x14, x15, x16, x17, x18, x19, x20, x21, x22, x23, x24, x25, x26, x27, x28, x29, x30, x31, x32, x33, x34, x35, x36, x37, x38, x39, x40, x41, x42, x43, x44, x45, x46, x47, x48, x49, x50, x51, x52, x53, x54, x55, x56, x57, x58, x59, x60, x61, x62, x63, x64, x65, x66, x67, x68, x69, x70, x71, x72, x73, x74, x75, x76, x77, x78, x79, x80, x81, x82, x83, x84, x85, x86, x87, x88])), (b_tape, .inl (cy 1, 1600, .inl (g_15)))] := hD
  refine lv_aload_n hx hb dX12_four_23 rfl (lv_at hl 1 rfl) ?_
  refine lv_dup hx hb dX12_four_24 rfl ?_
  refine va_get (D := D) (ci := 12) (v := .int (nI (((n + 1) + 1) + 1))) (C := RX12) (T := TX12) (N := 89) hx hb hg i_X12 hown hK hP 0 rfl rfl 1 (by decide) (hg _ m_1414) (fun _ h9 => h9) rfl dX12_four_25 ?_
  refine lv_iconst (v := 1) hx hb dX12_four_28 (by decide) ?_
  refine lv_iadd hx hb dX12_four_29 ?_
  refine lv_topi (fun y_16 hy_16 => ?_)
  obtain rfl : y_16 = nI ((((n + 1) + 1) + 1) + 1) := hy_16.trans (nI_add _ _)
  refine va_put (D := D) (ci := 12) (v := .int (nI ((((n + 1) + 1) + 1) + 1))) (ty := .int) (C := RX12) (T := TX12) (N := 89) hx hb hg i_X12 tyX12 tyX12_ok nmX12 hown hK hP hD hS 0 rfl rfl 1 (by decide) (hg _ m_1414) (fun _ h9 => h9) rfl (by decide +kernel) rfl rfl (Nat.le_of_ble_eq_true rfl) dX12_four_30 (fun H locs hP hD hS => ?_)
  have hP : va_P D vwCl [(b0, .inr (12, [.ref b_tape, .int (nI ((((n + 1) + 1) + 1) + 1)), x2, x3, x4, x5, x6, x7, x8, x9, x10, x11, x12, x13, x14, x15, x16, x17, x18, x19, x20, x21, x22, x23, x24, x25, x26, x27, x28, x29, x30, x31, x32, x33, x34, x35, x36, x37, x38, x39, x40, x41, x42, x43, x44, x45, x46, x47, x48, x49, x50, x51, x52, x53, x54, x55, x56, x57, x58, x59, x60, x61, x62, x63, x64, x65, x66, x67, x68, x69, x70, x71, x72, x73, x74, x75, x76, x77, x78, x79, x80, x81, x82, x83, x84, x85, x86, x87, x88])), (b_tape, .inl (cy 1, 1600, .inl (g_15)))] H := hP
  have hD : va_D A [(b0, .inr (12, [.ref b_tape, .int (nI ((((n + 1) + 1) + 1) + 1)), x2, x3, x4, x5, x6, x7, x8, x9, x10, x11, x12, x13, x14, x15, x16, x17, x18, x19, x20, x21, x22, x23, x24, x25, x26, x27, x28, x29, x30, x31, x32, x33, x34, x35, x36, x37, x38, x39, x40, x41, x42, x43, x44, x45, x46, x47, x48, x49, x50, x51, x52, x53, x54, x55, x56, x57, x58, x59, x60, x61, x62, x63, x64, x65, x66, x67, x68, x69, x70, x71, x72, x73, x74, x75, x76, x77, x78, x79, x80, x81, x82, x83, x84, x85, x86, x87, x88])), (b_tape, .inl (cy 1, 1600, .inl (g_15)))] := hD
  refine lv_iinc (v := -8) (lv' := [(2, .int (-8)), (0, .ref b0), (1, .int fo)]) hx hb dX12_four_33 hl (k := 0) rfl (by decide) (by decide) rfl (fun ls hl => ?_)
  refine lv_goto (tgt := 3) hx hb dX12_four_36 (by decide) ?_
  refine lv_iload_n hx hb dX12_four_3 rfl (lv_at hl 0 rfl) ?_
  refine lv_if_lt (tgt := 39) hx hb dX12_four_4 (by decide) (fun _ => ?_) (fun h => absurd (by decide) h)
  exact x_vret hQ hx hb hr hlocks hK hP hD hS dX12_four_39 g_15 (trivial) [0, 1] (by decide) rfl (Nat.le_of_ble_eq_true rfl) (Nat.le_of_ble_eq_true rfl)
theorem dX12_feed_0 : decode cX12_feed 0 = .ok (.aload_n 0, 1) := by decide +kernel
theorem dX12_feed_1 : decode cX12_feed 1 = .ok (.getfield 157, 3) := by decide +kernel
theorem dX12_feed_4 : decode cX12_feed 4 = .ok (.bipush 20, 2) := by decide +kernel
theorem dX12_feed_6 : decode cX12_feed 6 = .ok (.iadd, 1) := by decide +kernel
theorem dX12_feed_7 : decode cX12_feed 7 = .ok (.sipush 1600, 3) := by decide +kernel
theorem dX12_feed_10 : decode cX12_feed 10 = .ok (.if_icmp .le 5, 3) := by decide +kernel
theorem dX12_feed_15 : decode cX12_feed 15 = .ok (.aload_n 0, 1) := by decide +kernel
theorem dX12_feed_16 : decode cX12_feed 16 = .ok (.iload_n 1, 1) := by decide +kernel
theorem dX12_feed_17 : decode cX12_feed 17 = .ok (.invokevirtual 160, 3) := by decide +kernel
theorem m_1686 : (Cond.methodLink RX12 160 yX12_four) ∈ gT := gm 1686 (by decide +kernel) (by decide +kernel)
theorem m_1688 : (Cond.instanceMethod yX12_four) ∈ gT := gm 1688 (by decide +kernel) (by decide +kernel)
theorem m_63 : (Cond.selects RX12 yX12_four yX12_four) ∈ gT := gm 63 (by decide +kernel) (by decide +kernel)
theorem m_1689 : (Cond.code yX12_four cX12_four 3 none) ∈ gT := gm 1689 (by decide +kernel) (by decide +kernel)
theorem k_X12_160 : xV RX12 RX12 160 yX12_four cX12_four 3 none 1 := ⟨⟨m_1686, m_1688, m_63, m_146, m_1689⟩, rfl, by decide, by decide, by decide +kernel⟩
theorem dX12_feed_20 : decode cX12_feed 20 = .ok (.aload_n 0, 1) := by decide +kernel
theorem dX12_feed_21 : decode cX12_feed 21 = .ok (.iload_n 2, 1) := by decide +kernel
theorem dX12_feed_22 : decode cX12_feed 22 = .ok (.invokevirtual 160, 3) := by decide +kernel
theorem dX12_feed_25 : decode cX12_feed 25 = .ok (.aload_n 0, 1) := by decide +kernel
theorem dX12_feed_26 : decode cX12_feed 26 = .ok (.iload_n 3, 1) := by decide +kernel
theorem dX12_feed_27 : decode cX12_feed 27 = .ok (.invokevirtual 160, 3) := by decide +kernel
theorem dX12_feed_30 : decode cX12_feed 30 = .ok (.aload_n 0, 1) := by decide +kernel
theorem dX12_feed_31 : decode cX12_feed 31 = .ok (.iload 4, 2) := by decide +kernel
theorem dX12_feed_33 : decode cX12_feed 33 = .ok (.invokevirtual 160, 3) := by decide +kernel
theorem dX12_feed_36 : decode cX12_feed 36 = .ok (.aload_n 0, 1) := by decide +kernel
theorem dX12_feed_37 : decode cX12_feed 37 = .ok (.iload 5, 2) := by decide +kernel
theorem dX12_feed_39 : decode cX12_feed 39 = .ok (.invokevirtual 160, 3) := by decide +kernel
theorem dX12_feed_42 : decode cX12_feed 42 = .ok (.aload_n 0, 1) := by decide +kernel
theorem dX12_feed_43 : decode cX12_feed 43 = .ok (.getfield 157, 3) := by decide +kernel
theorem dX12_feed_46 : decode cX12_feed 46 = .ok (.ireturn, 1) := by decide +kernel
set_option maxHeartbeats 400000 in
set_option maxRecDepth 100000 in
theorem m_feed (l : Launch) (D : va_G) (cy : Nat → ClassId) (b0 : Nat) (x2 : Value) (x3 : Value) (x4 : Value) (x5 : Value) (x6 : Value) (x7 : Value) (x8 : Value) (x9 : Value) (x10 : Value) (x11 : Value) (x12 : Value) (x13 : Value) (x14 : Value) (x15 : Value) (x16 : Value) (x17 : Value) (x18 : Value) (x19 : Value) (x20 : Value) (x21 : Value) (x22 : Value) (x23 : Value) (x24 : Value) (x25 : Value) (x26 : Value) (x27 : Value) (x28 : Value) (x29 : Value) (x30 : Value) (x31 : Value) (x32 : Value) (x33 : Value) (x34 : Value) (x35 : Value) (x36 : Value) (x37 : Value) (x38 : Value) (x39 : Value) (x40 : Value) (x41 : Value) (x42 : Value) (x43 : Value) (x44 : Value) (x45 : Value) (x46 : Value) (x47 : Value) (x48 : Value) (x49 : Value) (x50 : Value) (x51 : Value) (x52 : Value) (x53 : Value) (x54 : Value) (x55 : Value) (x56 : Value) (x57 : Value) (x58 : Value) (x59 : Value) (x60 : Value) (x61 : Value) (x62 : Value) (x63 : Value) (x64 : Value) (x65 : Value) (x66 : Value) (x67 : Value) (x68 : Value) (x69 : Value) (x70 : Value) (x71 : Value) (x72 : Value) (x73 : Value) (x74 : Value) (x75 : Value) (x76 : Value) (x77 : Value) (x78 : Value) (x79 : Value) (x80 : Value) (x81 : Value) (x82 : Value) (x83 : Value) (x84 : Value) (x85 : Value) (x86 : Value) (x87 : Value) (x88 : Value) (b_tape : Nat) (ft : Nat → Int32) (ka : Int32) (kb : Int32) (kc : Int32) (kd : Int32) (ke : Int32)  : XMi l D (tyL cy) E0 yX12_feed cX12_feed 6 (some .int) (rmk 3 0 0) [.ref b0, .int ka, .int kb, .int kc, .int kd, .int ke] [(b0, .inr (12, [.ref b_tape, .int 0, x2, x3, x4, x5, x6, x7, x8, x9, x10, x11, x12, x13, x14, x15, x16, x17, x18, x19, x20, x21, x22, x23, x24, x25, x26, x27, x28, x29, x30, x31, x32, x33, x34, x35, x36, x37, x38, x39, x40, x41, x42, x43, x44, x45, x46, x47, x48, x49, x50, x51, x52, x53, x54, x55, x56, x57, x58, x59, x60, x61, x62, x63, x64, x65, x66, x67, x68, x69, x70, x71, x72, x73, x74, x75, x76, x77, x78, x79, x80, x81, x82, x83, x84, x85, x86, x87, x88])), (b_tape, .inl (cy 1, 1600, .inl (ft)))] (fun (r : Int32) (_ : Unit) => r = 20) (fun (_ : Unit) => []) := by
  refine XMi.start (by decide) (Nat.le_of_ble_eq_true rfl) ?_
  intro p e s m below meth c args A ls Q hat hQ
  obtain ⟨hx, hb, hr, hml, hown, hg, hlocks, hin, hK, hA, hP, hD, hS, hE, hl⟩ := hat
  have hown : s.vm.findClass RX12 = some m.cls := hown
  have hl : lv_has ls 6 [(0, .ref b0), (1, .int ka), (2, .int kb), (3, .int kc), (4, .int kd), (5, .int ke)] := hl
  refine lv_aload_n hx hb dX12_feed_0 rfl (lv_at hl 0 rfl) ?_
  refine va_get (D := D) (ci := 12) (v := .int 0) (C := RX12) (T := TX12) (N := 89) hx hb hg i_X12 hown hK hP 0 rfl rfl 1 (by decide) (hg _ m_1414) (fun _ h9 => h9) rfl dX12_feed_1 ?_
  refine lv_bipush (v := 20) hx hb dX12_feed_4 (by decide) ?_
  refine lv_iadd hx hb dX12_feed_6 ?_
  refine lv_topi (fun y_1 hy_1 => ?_)
  obtain rfl : y_1 = 20 := hy_1.trans (by decide +kernel)
  refine lv_sipush (v := 1600) hx hb dX12_feed_7 (by decide) ?_
  refine lv_icmp_le (tgt := 15) hx hb dX12_feed_10 (by decide) (fun _ => ?_) (fun h => absurd (by decide) h)
  refine lv_aload_n hx hb dX12_feed_15 rfl (lv_at hl 0 rfl) ?_
  refine lv_iload_n hx hb dX12_feed_16 rfl (lv_at hl 1 rfl) ?_
  refine x_callVv (q := (RX12, TX12, 89)) (ci := 12) (q0 := 0) (wr := []) (rest := []) ⟨hx, hb, hml, hown, hg, hl.1⟩ k_X12_160 (m_four l D cy b0 x2 x3 x4 x5 x6 x7 x8 x9 x10 x11 x12 x13 x14 x15 x16 x17 x18 x19 x20 x21 x22 x23 x24 x25 x26 x27 x28 x29 x30 x31 x32 x33 x34 x35 x36 x37 x38 x39 x40 x41 x42 x43 x44 x45 x46 x47 x48 x49 x50 x51 x52 x53 x54 x55 x56 x57 x58 x59 x60 x61 x62 x63 x64 x65 x66 x67 x68 x69 x70 x71 x72 x73 x74 x75 x76 x77 x78 x79 x80 x81 x82 x83 x84 x85 x86 x87 x88 b_tape 0 ft ka (by omega)) E0_blind hK hP hD hS hA [0, 1] [] ⟨rfl, rfl, by decide, by decide, by decide⟩ rfl rfl (fun _ _ _ => trivial) dX12_feed_17 rfl rfl (Nat.le_of_ble_eq_true rfl) ⟨Nat.le_of_ble_eq_true rfl, Nat.le_of_ble_eq_true rfl⟩ ⟨Nat.le_of_ble_eq_true rfl, Nat.le_of_ble_eq_true rfl⟩ (fun u2 H locs hw2 hP hD hS => ?_)
  obtain ⟨ft2_3, rfl⟩ : ∃ z, z = u2 := ⟨_, rfl⟩
  have hP : va_P D vwCl [(b0, .inr (12, [.ref b_tape, .int (nI (0 + 4)), x2, x3, x4, x5, x6, x7, x8, x9, x10, x11, x12, x13, x14, x15, x16, x17, x18, x19, x20, x21, x22, x23, x24, x25, x26, x27, x28, x29, x30, x31, x32, x33, x34, x35, x36, x37, x38, x39, x40, x41, x42, x43, x44, x45, x46, x47, x48, x49, x50, x51, x52, x53, x54, x55, x56, x57, x58, x59, x60, x61, x62, x63, x64, x65, x66, x67, x68, x69, x70, x71, x72, x73, x74, x75, x76, x77, x78, x79, x80, x81, x82, x83, x84, x85, x86, x87, x88])), (b_tape, .inl (cy 1, 1600, .inl (ft2_3)))] H := hP
  have hD : va_D A [(b0, .inr (12, [.ref b_tape, .int (nI (0 + 4)), x2, x3, x4, x5, x6, x7, x8, x9, x10, x11, x12, x13, x14, x15, x16, x17, x18, x19, x20, x21, x22, x23, x24, x25, x26, x27, x28, x29, x30, x31, x32, x33, x34, x35, x36, x37, x38, x39, x40, x41, x42, x43, x44, x45, x46, x47, x48, x49, x50, x51, x52, x53, x54, x55, x56, x57, x58, x59, x60, x61, x62, x63, x64, x65, x66, x67, x68, x69, x70, x71, x72, x73, x74, x75, x76, x77, x78, x79, x80, x81, x82, x83, x84, x85, x86, x87, x88])), (b_tape, .inl (cy 1, 1600, .inl (ft2_3)))] := hD
  refine W.widen (k := 0) (n := 0) (Nat.le_of_ble_eq_true rfl) (Nat.le_of_ble_eq_true rfl) ?_
  refine lv_aload_n hx hb dX12_feed_20 rfl (lv_at hl 0 rfl) ?_
  refine lv_iload_n hx hb dX12_feed_21 rfl (lv_at hl 2 rfl) ?_
  refine x_callVv (q := (RX12, TX12, 89)) (ci := 12) (q0 := 0) (wr := []) (rest := []) ⟨hx, hb, hml, hown, hg, hl.1⟩ k_X12_160 (m_four l D cy b0 x2 x3 x4 x5 x6 x7 x8 x9 x10 x11 x12 x13 x14 x15 x16 x17 x18 x19 x20 x21 x22 x23 x24 x25 x26 x27 x28 x29 x30 x31 x32 x33 x34 x35 x36 x37 x38 x39 x40 x41 x42 x43 x44 x45 x46 x47 x48 x49 x50 x51 x52 x53 x54 x55 x56 x57 x58 x59 x60 x61 x62 x63 x64 x65 x66 x67 x68 x69 x70 x71 x72 x73 x74 x75 x76 x77 x78 x79 x80 x81 x82 x83 x84 x85 x86 x87 x88 b_tape ((0 + 4)) ft2_3 kb (by omega)) E0_blind hK hP hD hS hA [0, 1] [] ⟨rfl, rfl, by decide, by decide, by decide⟩ rfl rfl (fun _ _ _ => trivial) dX12_feed_22 rfl rfl (Nat.le_of_ble_eq_true rfl) ⟨Nat.le_of_ble_eq_true rfl, Nat.le_of_ble_eq_true rfl⟩ ⟨Nat.le_of_ble_eq_true rfl, Nat.le_of_ble_eq_true rfl⟩ (fun u4 H locs hw4 hP hD hS => ?_)
  obtain ⟨ft2_5, rfl⟩ : ∃ z, z = u4 := ⟨_, rfl⟩
  have hP : va_P D vwCl [(b0, .inr (12, [.ref b_tape, .int (nI (((0 + 4)) + 4)), x2, x3, x4, x5, x6, x7, x8, x9, x10, x11, x12, x13, x14, x15, x16, x17, x18, x19, x20, x21, x22, x23, x24, x25, x26, x27, x28, x29, x30, x31, x32, x33, x34, x35, x36, x37, x38, x39, x40, x41, x42, x43, x44, x45, x46, x47, x48, x49, x50, x51, x52, x53, x54, x55, x56, x57, x58, x59, x60, x61, x62, x63, x64, x65, x66, x67, x68, x69, x70, x71, x72, x73, x74, x75, x76, x77, x78, x79, x80, x81, x82, x83, x84, x85, x86, x87, x88])), (b_tape, .inl (cy 1, 1600, .inl (ft2_5)))] H := hP
  have hD : va_D A [(b0, .inr (12, [.ref b_tape, .int (nI (((0 + 4)) + 4)), x2, x3, x4, x5, x6, x7, x8, x9, x10, x11, x12, x13, x14, x15, x16, x17, x18, x19, x20, x21, x22, x23, x24, x25, x26, x27, x28, x29, x30, x31, x32, x33, x34, x35, x36, x37, x38, x39, x40, x41, x42, x43, x44, x45, x46, x47, x48, x49, x50, x51, x52, x53, x54, x55, x56, x57, x58, x59, x60, x61, x62, x63, x64, x65, x66, x67, x68, x69, x70, x71, x72, x73, x74, x75, x76, x77, x78, x79, x80, x81, x82, x83, x84, x85, x86, x87, x88])), (b_tape, .inl (cy 1, 1600, .inl (ft2_5)))] := hD
  refine W.widen (k := 0) (n := 0) (Nat.le_of_ble_eq_true rfl) (Nat.le_of_ble_eq_true rfl) ?_
  refine lv_aload_n hx hb dX12_feed_25 rfl (lv_at hl 0 rfl) ?_
  refine lv_iload_n hx hb dX12_feed_26 rfl (lv_at hl 3 rfl) ?_
  refine x_callVv (q := (RX12, TX12, 89)) (ci := 12) (q0 := 0) (wr := []) (rest := []) ⟨hx, hb, hml, hown, hg, hl.1⟩ k_X12_160 (m_four l D cy b0 x2 x3 x4 x5 x6 x7 x8 x9 x10 x11 x12 x13 x14 x15 x16 x17 x18 x19 x20 x21 x22 x23 x24 x25 x26 x27 x28 x29 x30 x31 x32 x33 x34 x35 x36 x37 x38 x39 x40 x41 x42 x43 x44 x45 x46 x47 x48 x49 x50 x51 x52 x53 x54 x55 x56 x57 x58 x59 x60 x61 x62 x63 x64 x65 x66 x67 x68 x69 x70 x71 x72 x73 x74 x75 x76 x77 x78 x79 x80 x81 x82 x83 x84 x85 x86 x87 x88 b_tape ((((0 + 4)) + 4)) ft2_5 kc (by omega)) E0_blind hK hP hD hS hA [0, 1] [] ⟨rfl, rfl, by decide, by decide, by decide⟩ rfl rfl (fun _ _ _ => trivial) dX12_feed_27 rfl rfl (Nat.le_of_ble_eq_true rfl) ⟨Nat.le_of_ble_eq_true rfl, Nat.le_of_ble_eq_true rfl⟩ ⟨Nat.le_of_ble_eq_true rfl, Nat.le_of_ble_eq_true rfl⟩ (fun u6 H locs hw6 hP hD hS => ?_)
  obtain ⟨ft2_7, rfl⟩ : ∃ z, z = u6 := ⟨_, rfl⟩
  have hP : va_P D vwCl [(b0, .inr (12, [.ref b_tape, .int (nI (((((0 + 4)) + 4)) + 4)), x2, x3, x4, x5, x6, x7, x8, x9, x10, x11, x12, x13, x14, x15, x16, x17, x18, x19, x20, x21, x22, x23, x24, x25, x26, x27, x28, x29, x30, x31, x32, x33, x34, x35, x36, x37, x38, x39, x40, x41, x42, x43, x44, x45, x46, x47, x48, x49, x50, x51, x52, x53, x54, x55, x56, x57, x58, x59, x60, x61, x62, x63, x64, x65, x66, x67, x68, x69, x70, x71, x72, x73, x74, x75, x76, x77, x78, x79, x80, x81, x82, x83, x84, x85, x86, x87, x88])), (b_tape, .inl (cy 1, 1600, .inl (ft2_7)))] H := hP
  have hD : va_D A [(b0, .inr (12, [.ref b_tape, .int (nI (((((0 + 4)) + 4)) + 4)), x2, x3, x4, x5, x6, x7, x8, x9, x10, x11, x12, x13, x14, x15, x16, x17, x18, x19, x20, x21, x22, x23, x24, x25, x26, x27, x28, x29, x30, x31, x32, x33, x34, x35, x36, x37, x38, x39, x40, x41, x42, x43, x44, x45, x46, x47, x48, x49, x50, x51, x52, x53, x54, x55, x56, x57, x58, x59, x60, x61, x62, x63, x64, x65, x66, x67, x68, x69, x70, x71, x72, x73, x74, x75, x76, x77, x78, x79, x80, x81, x82, x83, x84, x85, x86, x87, x88])), (b_tape, .inl (cy 1, 1600, .inl (ft2_7)))] := hD
  refine W.widen (k := 0) (n := 0) (Nat.le_of_ble_eq_true rfl) (Nat.le_of_ble_eq_true rfl) ?_
  refine lv_aload_n hx hb dX12_feed_30 rfl (lv_at hl 0 rfl) ?_
  refine lv_iload hx hb dX12_feed_31 (lv_at hl 4 rfl) ?_
  refine x_callVv (q := (RX12, TX12, 89)) (ci := 12) (q0 := 0) (wr := []) (rest := []) ⟨hx, hb, hml, hown, hg, hl.1⟩ k_X12_160 (m_four l D cy b0 x2 x3 x4 x5 x6 x7 x8 x9 x10 x11 x12 x13 x14 x15 x16 x17 x18 x19 x20 x21 x22 x23 x24 x25 x26 x27 x28 x29 x30 x31 x32 x33 x34 x35 x36 x37 x38 x39 x40 x41 x42 x43 x44 x45 x46 x47 x48 x49 x50 x51 x52 x53 x54 x55 x56 x57 x58 x59 x60 x61 x62 x63 x64 x65 x66 x67 x68 x69 x70 x71 x72 x73 x74 x75 x76 x77 x78 x79 x80 x81 x82 x83 x84 x85 x86 x87 x88 b_tape ((((((0 + 4)) + 4)) + 4)) ft2_7 kd (by omega)) E0_blind hK hP hD hS hA [0, 1] [] ⟨rfl, rfl, by decide, by decide, by decide⟩ rfl rfl (fun _ _ _ => trivial) dX12_feed_33 rfl rfl (Nat.le_of_ble_eq_true rfl) ⟨Nat.le_of_ble_eq_true rfl, Nat.le_of_ble_eq_true rfl⟩ ⟨Nat.le_of_ble_eq_true rfl, Nat.le_of_ble_eq_true rfl⟩ (fun u8 H locs hw8 hP hD hS => ?_)
  obtain ⟨ft2_9, rfl⟩ : ∃ z, z = u8 := ⟨_, rfl⟩
  have hP : va_P D vwCl [(b0, .inr (12, [.ref b_tape, .int (nI (((((((0 + 4)) + 4)) + 4)) + 4)), x2, x3, x4, x5, x6, x7, x8, x9, x10, x11, x12, x13, x14, x15, x16, x17, x18, x19, x20, x21, x22, x23, x24, x25, x26, x27, x28, x29, x30, x31, x32, x33, x34, x35, x36, x37, x38, x39, x40, x41, x42, x43, x44, x45, x46, x47, x48, x49, x50, x51, x52, x53, x54, x55, x56, x57, x58, x59, x60, x61, x62, x63, x64, x65, x66, x67, x68, x69, x70, x71, x72, x73, x74, x75, x76, x77, x78, x79, x80, x81, x82, x83, x84, x85, x86, x87, x88])), (b_tape, .inl (cy 1, 1600, .inl (ft2_9)))] H := hP
  have hD : va_D A [(b0, .inr (12, [.ref b_tape, .int (nI (((((((0 + 4)) + 4)) + 4)) + 4)), x2, x3, x4, x5, x6, x7, x8, x9, x10, x11, x12, x13, x14, x15, x16, x17, x18, x19, x20, x21, x22, x23, x24, x25, x26, x27, x28, x29, x30, x31, x32, x33, x34, x35, x36, x37, x38, x39, x40, x41, x42, x43, x44, x45, x46, x47, x48, x49, x50, x51, x52, x53, x54, x55, x56, x57, x58, x59, x60, x61, x62, x63, x64, x65, x66, x67, x68, x69, x70, x71, x72, x73, x74, x75, x76, x77, x78, x79, x80, x81, x82, x83, x84, x85, x86, x87, x88])), (b_tape, .inl (cy 1, 1600, .inl (ft2_9)))] := hD
  refine W.widen (k := 0) (n := 0) (Nat.le_of_ble_eq_true rfl) (Nat.le_of_ble_eq_true rfl) ?_
  refine lv_aload_n hx hb dX12_feed_36 rfl (lv_at hl 0 rfl) ?_
  refine lv_iload hx hb dX12_feed_37 (lv_at hl 5 rfl) ?_
  refine x_callVv (q := (RX12, TX12, 89)) (ci := 12) (q0 := 0) (wr := []) (rest := []) ⟨hx, hb, hml, hown, hg, hl.1⟩ k_X12_160 (m_four l D cy b0 x2 x3 x4 x5 x6 x7 x8 x9 x10 x11 x12 x13 x14 x15 x16 x17 x18 x19 x20 x21 x22 x23 x24 x25 x26 x27 x28 x29 x30 x31 x32 x33 x34 x35 x36 x37 x38 x39 x40 x41 x42 x43 x44 x45 x46 x47 x48 x49 x50 x51 x52 x53 x54 x55 x56 x57 x58 x59 x60 x61 x62 x63 x64 x65 x66 x67 x68 x69 x70 x71 x72 x73 x74 x75 x76 x77 x78 x79 x80 x81 x82 x83 x84 x85 x86 x87 x88 b_tape ((((((((0 + 4)) + 4)) + 4)) + 4)) ft2_9 ke (by omega)) E0_blind hK hP hD hS hA [0, 1] [] ⟨rfl, rfl, by decide, by decide, by decide⟩ rfl rfl (fun _ _ _ => trivial) dX12_feed_39 rfl rfl (Nat.le_of_ble_eq_true rfl) ⟨Nat.le_of_ble_eq_true rfl, Nat.le_of_ble_eq_true rfl⟩ ⟨Nat.le_of_ble_eq_true rfl, Nat.le_of_ble_eq_true rfl⟩ (fun u10 H locs hw10 hP hD hS => ?_)
  obtain ⟨ft2_11, rfl⟩ : ∃ z, z = u10 := ⟨_, rfl⟩
  have hP : va_P D vwCl [(b0, .inr (12, [.ref b_tape, .int (nI (((((((((0 + 4)) + 4)) + 4)) + 4)) + 4)), x2, x3, x4, x5, x6, x7, x8, x9, x10, x11, x12, x13, x14, x15, x16, x17, x18, x19, x20, x21, x22, x23, x24, x25, x26, x27, x28, x29, x30, x31, x32, x33, x34, x35, x36, x37, x38, x39, x40, x41, x42, x43, x44, x45, x46, x47, x48, x49, x50, x51, x52, x53, x54, x55, x56, x57, x58, x59, x60, x61, x62, x63, x64, x65, x66, x67, x68, x69, x70, x71, x72, x73, x74, x75, x76, x77, x78, x79, x80, x81, x82, x83, x84, x85, x86, x87, x88])), (b_tape, .inl (cy 1, 1600, .inl (ft2_11)))] H := hP
  have hD : va_D A [(b0, .inr (12, [.ref b_tape, .int (nI (((((((((0 + 4)) + 4)) + 4)) + 4)) + 4)), x2, x3, x4, x5, x6, x7, x8, x9, x10, x11, x12, x13, x14, x15, x16, x17, x18, x19, x20, x21, x22, x23, x24, x25, x26, x27, x28, x29, x30, x31, x32, x33, x34, x35, x36, x37, x38, x39, x40, x41, x42, x43, x44, x45, x46, x47, x48, x49, x50, x51, x52, x53, x54, x55, x56, x57, x58, x59, x60, x61, x62, x63, x64, x65, x66, x67, x68, x69, x70, x71, x72, x73, x74, x75, x76, x77, x78, x79, x80, x81, x82, x83, x84, x85, x86, x87, x88])), (b_tape, .inl (cy 1, 1600, .inl (ft2_11)))] := hD
  refine W.widen (k := 0) (n := 0) (Nat.le_of_ble_eq_true rfl) (Nat.le_of_ble_eq_true rfl) ?_
  refine lv_aload_n hx hb dX12_feed_42 rfl (lv_at hl 0 rfl) ?_
  refine va_get (D := D) (ci := 12) (v := .int (nI (((((((((0 + 4)) + 4)) + 4)) + 4)) + 4))) (C := RX12) (T := TX12) (N := 89) hx hb hg i_X12 hown hK hP 0 rfl rfl 1 (by decide) (hg _ m_1414) (fun _ h9 => h9) rfl dX12_feed_43 ?_
  exact x_iret hQ hx hb hr hlocks hK hP hD hS dX12_feed_46 () (rfl) [] (by decide) rfl (Nat.le_of_ble_eq_true rfl) (Nat.le_of_ble_eq_true rfl)
theorem dX12_act_0 : decode cX12_act 0 = .ok (.aload_n 0, 1) := by decide +kernel
theorem dX12_act_1 : decode cX12_act 1 = .ok (.getfield 424, 3) := by decide +kernel
theorem dX12_act_4 : decode cX12_act 4 = .ok (.bipush 40, 2) := by decide +kernel
theorem dX12_act_6 : decode cX12_act 6 = .ok (.if_icmp .ne 43, 3) := by decide +kernel
theorem dX12_act_49 : decode cX12_act 49 = .ok (.iconst 0, 1) := by decide +kernel
theorem dX12_act_50 : decode cX12_act 50 = .ok (.istore_n 1, 1) := by decide +kernel
theorem dX12_act_51 : decode cX12_act 51 = .ok (.iload_n 1, 1) := by decide +kernel
theorem dX12_act_52 : decode cX12_act 52 = .ok (.bipush 41, 2) := by decide +kernel
theorem dX12_act_54 : decode cX12_act 54 = .ok (.if_icmp .ge 29, 3) := by decide +kernel
theorem dX12_act_83 : decode cX12_act 83 = .ok (.aload_n 0, 1) := by decide +kernel
theorem dX12_act_84 : decode cX12_act 84 = .ok (.dup, 1) := by decide +kernel
theorem dX12_act_85 : decode cX12_act 85 = .ok (.getfield 424, 3) := by decide +kernel
theorem dX12_act_88 : decode cX12_act 88 = .ok (.iconst 1, 1) := by decide +kernel
theorem dX12_act_89 : decode cX12_act 89 = .ok (.iadd, 1) := by decide +kernel
theorem dX12_act_90 : decode cX12_act 90 = .ok (.putfield 424, 3) := by decide +kernel
theorem dX12_act_93 : decode cX12_act 93 = .ok (.aload_n 0, 1) := by decide +kernel
theorem dX12_act_94 : decode cX12_act 94 = .ok (.iconst 0, 1) := by decide +kernel
theorem dX12_act_95 : decode cX12_act 95 = .ok (.putfield 427, 3) := by decide +kernel
theorem dX12_act_98 : decode cX12_act 98 = .ok (.return_, 1) := by decide +kernel
theorem dX12_act_57 : decode cX12_act 57 = .ok (.aload_n 0, 1) := by decide +kernel
theorem dX12_act_58 : decode cX12_act 58 = .ok (.getfield 109, 3) := by decide +kernel
theorem m_1480 : (Cond.fieldLink RX12 109 "CliffJudgesModel" "were" "[I") ∈ gT := gm 1480 (by decide +kernel) (by decide +kernel)
theorem dX12_act_61 : decode cX12_act 61 = .ok (.bipush 42, 2) := by decide +kernel
theorem dX12_act_63 : decode cX12_act 63 = .ok (.aload_n 0, 1) := by decide +kernel
theorem dX12_act_64 : decode cX12_act 64 = .ok (.getfield 424, 3) := by decide +kernel
theorem dX12_act_67 : decode cX12_act 67 = .ok (.imul, 1) := by decide +kernel
theorem dX12_act_68 : decode cX12_act 68 = .ok (.iload_n 1, 1) := by decide +kernel
theorem dX12_act_69 : decode cX12_act 69 = .ok (.iadd, 1) := by decide +kernel
theorem dX12_act_70 : decode cX12_act 70 = .ok (.aload_n 0, 1) := by decide +kernel
theorem dX12_act_71 : decode cX12_act 71 = .ok (.getfield 97, 3) := by decide +kernel
theorem dX12_act_74 : decode cX12_act 74 = .ok (.iload_n 1, 1) := by decide +kernel
theorem dX12_act_75 : decode cX12_act 75 = .ok (.iaload, 1) := by decide +kernel
theorem dX12_act_76 : decode cX12_act 76 = .ok (.iastore, 1) := by decide +kernel
theorem dX12_act_77 : decode cX12_act 77 = .ok (.iinc 1 1, 3) := by decide +kernel
theorem dX12_act_80 : decode cX12_act 80 = .ok (.goto (-29), 3) := by decide +kernel
set_option maxHeartbeats 400000 in
set_option maxRecDepth 100000 in
theorem m_act (l : Launch) (D : va_G) (cy : Nat → ClassId) (b0 : Nat) (x0 : Value) (x1 : Value) (x2 : Value) (x3 : Value) (x4 : Value) (x5 : Value) (x6 : Value) (x7 : Value) (x8 : Value) (x9 : Value) (x10 : Value) (x11 : Value) (x12 : Value) (x13 : Value) (x14 : Value) (x15 : Value) (x16 : Value) (x17 : Value) (x18 : Value) (x19 : Value) (x20 : Value) (x21 : Value) (x22 : Value) (x23 : Value) (x24 : Value) (x25 : Value) (x26 : Value) (x27 : Value) (x28 : Value) (x29 : Value) (x30 : Value) (x31 : Value) (x32 : Value) (x33 : Value) (x34 : Value) (x35 : Value) (x36 : Value) (x37 : Value) (x38 : Value) (x39 : Value) (x40 : Value) (x41 : Value) (x42 : Value) (x43 : Value) (x44 : Value) (x45 : Value) (x46 : Value) (x47 : Value) (x48 : Value) (x49 : Value) (x50 : Value) (x51 : Value) (x52 : Value) (x53 : Value) (x54 : Value) (x55 : Value) (x56 : Value) (x58 : Value) (x59 : Value) (x60 : Value) (x61 : Value) (x62 : Value) (x63 : Value) (x64 : Value) (x65 : Value) (x66 : Value) (x70 : Value) (x71 : Value) (x72 : Value) (x73 : Value) (x74 : Value) (x75 : Value) (x76 : Value) (x77 : Value) (x78 : Value) (x79 : Value) (x80 : Value) (x81 : Value) (x82 : Value) (x83 : Value) (x84 : Value) (x85 : Value) (x86 : Value) (x87 : Value) (x88 : Value) (b_were : Nat) (b_now : Nat) (fw : Nat → Int32)  : XMv l D (tyL cy) E0 yX12_act cX12_act 2 none (rmk 0 0 0) [.ref b0] [(b0, .inr (12, [x0, x1, x2, x3, x4, x5, x6, x7, x8, x9, x10, x11, x12, x13, x14, x15, x16, x17, x18, x19, x20, x21, x22, x23, x24, x25, x26, x27, x28, x29, x30, x31, x32, x33, x34, x35, x36, x37, x38, x39, x40, x41, x42, x43, x44, x45, x46, x47, x48, x49, x50, x51, x52, x53, x54, x55, x56, .ref b_now, x58, x59, x60, x61, x62, x63, x64, x65, x66, .ref b_were, .int 0, .int 0, x70, x71, x72, x73, x74, x75, x76, x77, x78, x79, x80, x81, x82, x83, x84, x85, x86, x87, x88])), (b_now, .inl (cy 1, 42, .inl (fun _ => 0))), (b_were, .inl (cy 1, 1680, .inl (fw)))] (fun (fw2 : Nat → Int32) => True) (fun (fw2 : Nat → Int32) => [(b0, .inr (12, [x0, x1, x2, x3, x4, x5, x6, x7, x8, x9, x10, x11, x12, x13, x14, x15, x16, x17, x18, x19, x20, x21, x22, x23, x24, x25, x26, x27, x28, x29, x30, x31, x32, x33, x34, x35, x36, x37, x38, x39, x40, x41, x42, x43, x44, x45, x46, x47, x48, x49, x50, x51, x52, x53, x54, x55, x56, .ref b_now, x58, x59, x60, x61, x62, x63, x64, x65, x66, .ref b_were, .int 1, .int 0, x70, x71, x72, x73, x74, x75, x76, x77, x78, x79, x80, x81, x82, x83, x84, x85, x86, x87, x88])), (b_now, .inl (cy 1, 42, .inl (fun _ => 0)))]) := by
  refine XMv.start (by decide) (Nat.le_of_ble_eq_true rfl) ?_
  intro p e s m below meth c args A ls Q hat hQ
  obtain ⟨hx, hb, hr, hml, hown, hg, hlocks, hin, hK, hA, hP, hD, hS, hE, hl⟩ := hat
  have hown : s.vm.findClass RX12 = some m.cls := hown
  have hl : lv_has ls 2 [(0, .ref b0)] := hl
  refine lv_aload_n hx hb dX12_act_0 rfl (lv_at hl 0 rfl) ?_
  refine va_get (D := D) (ci := 12) (v := .int 0) (C := RX12) (T := TX12) (N := 89) hx hb hg i_X12 hown hK hP 0 rfl rfl 68 (by decide) (hg _ m_1481) (fun _ h9 => h9) rfl dX12_act_1 ?_
  refine lv_bipush (v := 40) hx hb dX12_act_4 (by decide) ?_
  refine lv_icmp_ne (tgt := 49) hx hb dX12_act_6 (by decide) (fun _ => ?_) (fun h => absurd h (by decide))
  refine lv_iconst (v := 0) hx hb dX12_act_49 (by decide) ?_
  refine lv_istore_n (lv' := [(1, .int 0), (0, .ref b0)]) hx hb dX12_act_50 rfl hl (by decide) rfl (fun ls hl => ?_)
  have loop1 : ∀ (n i1 : Nat), i1 ≤ 41 → 42 ≤ i1 + n → ∀ (fq : Nat → Int32), ∀ (H : Heap) (locs : List Loc), va_P D vwCl [(b0, .inr (12, [x0, x1, x2, x3, x4, x5, x6, x7, x8, x9, x10, x11, x12, x13, x14, x15, x16, x17, x18, x19, x20, x21, x22, x23, x24, x25, x26, x27, x28, x29, x30, x31, x32, x33, x34, x35, x36, x37, x38, x39, x40, x41, x42, x43, x44, x45, x46, x47, x48, x49, x50, x51, x52, x53, x54, x55, x56, .ref b_now, x58, x59, x60, x61, x62, x63, x64, x65, x66, .ref b_were, .int 0, .int 0, x70, x71, x72, x73, x74, x75, x76, x77, x78, x79, x80, x81, x82, x83, x84, x85, x86, x87, x88])), (b_now, .inl (cy 1, 42, .inl (fun _ => 0))), (b_were, .inl (cy 1, 1680, .inl (fq)))] H → va_D A [(b0, .inr (12, [x0, x1, x2, x3, x4, x5, x6, x7, x8, x9, x10, x11, x12, x13, x14, x15, x16, x17, x18, x19, x20, x21, x22, x23, x24, x25, x26, x27, x28, x29, x30, x31, x32, x33, x34, x35, x36, x37, x38, x39, x40, x41, x42, x43, x44, x45, x46, x47, x48, x49, x50, x51, x52, x53, x54, x55, x56, .ref b_now, x58, x59, x60, x61, x62, x63, x64, x65, x66, .ref b_were, .int 0, .int 0, x70, x71, x72, x73, x74, x75, x76, x77, x78, x79, x80, x81, x82, x83, x84, x85, x86, x87, x88])), (b_now, .inl (cy 1, 42, .inl (fun _ => 0))), (b_were, .inl (cy 1, 1680, .inl (fq)))] → va_S A s.heap H locs → ∀ ls : Array Slot, lv_has ls 2 [(1, .int (nI i1)), (0, .ref b0)] → W p l e (rmk 0 0 0) s m args below meth c H locs 0 0 Q (F0 m 51 ls []) := by
    intro n
    induction n with
    | zero => intro i1 h1 h2; exact absurd h2 (by omega)
    | succ n ih =>
      intro i1 hi1 hn1 fq H locs hP hD hS ls hl
      have ih1 := ih
      refine lv_iload_n hx hb dX12_act_51 rfl (lv_at hl 0 rfl) ?_
      refine lv_bipush (v := 41) hx hb dX12_act_52 (by decide) ?_
      refine lv_icmp_ge (tgt := 83) hx hb dX12_act_54 (by decide) (fun c1 => ?_) (fun c1 => ?_)
      · have hend1 : i1 = 41 := lp_end (N := 41) (by decide) hi1 (by decide) c1
        subst hend1
        refine lv_aload_n hx hb dX12_act_83 rfl (lv_at hl 1 rfl) ?_
        refine lv_dup hx hb dX12_act_84 rfl ?_
        refine va_get (D := D) (ci := 12) (v := .int 0) (C := RX12) (T := TX12) (N := 89) hx hb hg i_X12 hown hK hP 0 rfl rfl 68 (by decide) (hg _ m_1481) (fun _ h9 => h9) rfl dX12_act_85 ?_
        refine lv_iconst (v := 1) hx hb dX12_act_88 (by decide) ?_
        refine lv_iadd hx hb dX12_act_89 ?_
        refine lv_topi (fun y_2 hy_2 => ?_)
        obtain rfl : y_2 = 1 := hy_2.trans (by decide +kernel)
        refine va_put (D := D) (ci := 12) (v := .int 1) (ty := .int) (C := RX12) (T := TX12) (N := 89) hx hb hg i_X12 tyX12 tyX12_ok nmX12 hown hK hP hD hS 0 rfl rfl 68 (by decide) (hg _ m_1481) (fun _ h9 => h9) rfl (by decide +kernel) rfl rfl (Nat.le_of_ble_eq_true rfl) dX12_act_90 (fun H locs hP hD hS => ?_)
        have hP : va_P D vwCl [(b0, .inr (12, [x0, x1, x2, x3, x4, x5, x6, x7, x8, x9, x10, x11, x12, x13, x14, x15, x16, x17, x18, x19, x20, x21, x22, x23, x24, x25, x26, x27, x28, x29, x30, x31, x32, x33, x34, x35, x36, x37, x38, x39, x40, x41, x42, x43, x44, x45, x46, x47, x48, x49, x50, x51, x52, x53, x54, x55, x56, .ref b_now, x58, x59, x60, x61, x62, x63, x64, x65, x66, .ref b_were, .int 1, .int 0, x70, x71, x72, x73, x74, x75, x76, x77, x78, x79, x80, x81, x82, x83, x84, x85, x86, x87, x88])), (b_now, .inl (cy 1, 42, .inl (fun _ => 0))), (b_were, .inl (cy 1, 1680, .inl (fq)))] H := hP
        have hD : va_D A [(b0, .inr (12, [x0, x1, x2, x3, x4, x5, x6, x7, x8, x9, x10, x11, x12, x13, x14, x15, x16, x17, x18, x19, x20, x21, x22, x23, x24, x25, x26, x27, x28, x29, x30, x31, x32, x33, x34, x35, x36, x37, x38, x39, x40, x41, x42, x43, x44, x45, x46, x47, x48, x49, x50, x51, x52, x53, x54, x55, x56, .ref b_now, x58, x59, x60, x61, x62, x63, x64, x65, x66, .ref b_were, .int 1, .int 0, x70, x71, x72, x73, x74, x75, x76, x77, x78, x79, x80, x81, x82, x83, x84, x85, x86, x87, x88])), (b_now, .inl (cy 1, 42, .inl (fun _ => 0))), (b_were, .inl (cy 1, 1680, .inl (fq)))] := hD
        refine lv_aload_n hx hb dX12_act_93 rfl (lv_at hl 1 rfl) ?_
        refine lv_iconst (v := 0) hx hb dX12_act_94 (by decide) ?_
        refine va_put (D := D) (ci := 12) (v := .int 0) (ty := .int) (C := RX12) (T := TX12) (N := 89) hx hb hg i_X12 tyX12 tyX12_ok nmX12 hown hK hP hD hS 0 rfl rfl 69 (by decide) (hg _ m_1482) (fun _ h9 => h9) rfl (by decide +kernel) rfl rfl (Nat.le_of_ble_eq_true rfl) dX12_act_95 (fun H locs hP hD hS => ?_)
        have hP : va_P D vwCl [(b0, .inr (12, [x0, x1, x2, x3, x4, x5, x6, x7, x8, x9, x10, x11, x12, x13, x14, x15, x16, x17, x18, x19, x20, x21, x22, x23, x24, x25, x26, x27, x28, x29, x30, x31, x32, x33, x34, x35, x36, x37, x38, x39, x40, x41, x42, x43, x44, x45, x46, x47, x48, x49, x50, x51, x52, x53, x54, x55, x56, .ref b_now, x58, x59, x60, x61, x62, x63, x64, x65, x66, .ref b_were, .int 1, .int 0, x70, x71, x72, x73, x74, x75, x76, x77, x78, x79, x80, x81, x82, x83, x84, x85, x86, x87, x88])), (b_now, .inl (cy 1, 42, .inl (fun _ => 0))), (b_were, .inl (cy 1, 1680, .inl (fq)))] H := hP
        have hD : va_D A [(b0, .inr (12, [x0, x1, x2, x3, x4, x5, x6, x7, x8, x9, x10, x11, x12, x13, x14, x15, x16, x17, x18, x19, x20, x21, x22, x23, x24, x25, x26, x27, x28, x29, x30, x31, x32, x33, x34, x35, x36, x37, x38, x39, x40, x41, x42, x43, x44, x45, x46, x47, x48, x49, x50, x51, x52, x53, x54, x55, x56, .ref b_now, x58, x59, x60, x61, x62, x63, x64, x65, x66, .ref b_were, .int 1, .int 0, x70, x71, x72, x73, x74, x75, x76, x77, x78, x79, x80, x81, x82, x83, x84, x85, x86, x87, x88])), (b_now, .inl (cy 1, 42, .inl (fun _ => 0))), (b_were, .inl (cy 1, 1680, .inl (fq)))] := hD
        exact x_vret hQ hx hb hr hlocks hK hP hD hS dX12_act_98 fq (trivial) [0, 1] (by decide) rfl (Nat.le_of_ble_eq_true rfl) (Nat.le_of_ble_eq_true rfl)
      · have hlt1 : i1 < 41 := lp_go (by decide) hi1 (by decide) c1
        refine lv_aload_n hx hb dX12_act_57 rfl (lv_at hl 1 rfl) ?_
        refine va_get (D := D) (ci := 12) (v := .ref b_were) (C := RX12) (T := TX12) (N := 89) hx hb hg i_X12 hown hK hP 0 rfl rfl 67 (by decide) (hg _ m_1480) (fun _ h9 => h9) rfl dX12_act_58 ?_
        refine lv_bipush (v := 42) hx hb dX12_act_61 (by decide) ?_
        refine lv_aload_n hx hb dX12_act_63 rfl (lv_at hl 1 rfl) ?_
        refine va_get (D := D) (ci := 12) (v := .int 0) (C := RX12) (T := TX12) (N := 89) hx hb hg i_X12 hown hK hP 0 rfl rfl 68 (by decide) (hg _ m_1481) (fun _ h9 => h9) rfl dX12_act_64 ?_
        refine lv_imul hx hb dX12_act_67 ?_
        refine lv_topi (fun y_3 hy_3 => ?_)
        obtain rfl : y_3 = 0 := hy_3.trans (by decide +kernel)
        refine lv_iload_n hx hb dX12_act_68 rfl (lv_at hl 0 rfl) ?_
        refine lv_iadd hx hb dX12_act_69 ?_
        refine lv_topi (fun y_4 hy_4 => ?_)
        obtain rfl : y_4 = nI (0 + i1) := hy_4.trans (nI_add _ _)
        refine lv_aload_n hx hb dX12_act_70 rfl (lv_at hl 1 rfl) ?_
        refine va_get (D := D) (ci := 12) (v := .ref b_now) (C := RX12) (T := TX12) (N := 89) hx hb hg i_X12 hown hK hP 0 rfl rfl 57 (by decide) (hg _ m_1470) (fun _ h9 => h9) rfl dX12_act_71 ?_
        refine lv_iload_n hx hb dX12_act_74 rfl (lv_at hl 0 rfl) ?_
        refine va_iald hx hb hK hP 1 1 rfl rfl (vp_in_nI (by omega) (by decide)) dX12_act_75 ?_
        refine lv_topi (fun y_5 hy_5 => ?_)
        obtain rfl : y_5 = 0 := hy_5.trans rfl
        refine va_iast hx hb hK hP hD hS 2 1 rfl rfl (vp_in_nI (by omega) (by decide)) dX12_act_76 (fun H locs hP hD hS => ?_)
        obtain ⟨g_6, eg_6⟩ : ∃ y, upd fq (nI (0 + i1) : Int32).toNatClampNeg 0 = y := ⟨_, rfl⟩
        rw [eg_6] at hP hD
        have hP : va_P D vwCl [(b0, .inr (12, [x0, x1, x2, x3, x4, x5, x6, x7, x8, x9, x10, x11, x12, x13, x14, x15, x16, x17, x18, x19, x20, x21, x22, x23, x24, x25, x26, x27, x28, x29, x30, x31, x32, x33, x34, x35, x36, x37, x38, x39, x40, x41, x42, x43, x44, x45, x46, x47, x48, x49, x50, x51, x52, x53, x54, x55, x56, .ref b_now, x58, x59, x60, x61, x62, x63, x64, x65, x66, .ref b_were, .int 0, .int 0, x70, x71, x72, x73, x74, x75, x76, x77, x78, x79, x80, x81, x82, x83, x84, x85, x86, x87, x88])), (b_now, .inl (cy 1, 42, .inl (fun _ => 0))), (b_were, .inl (cy 1, 1680, .inl (g_6)))] H := hP
        have hD : va_D A [(b0, .inr (12, [x0, x1, x2, x3, x4, x5, x6, x7, x8, x9, x10, x11, x12, x13, x14, x15, x16, x17, x18, x19, x20, x21, x22, x23, x24, x25, x26, x27, x28, x29, x30, x31, x32, x33, x34, x35, x36, x37, x38, x39, x40, x41, x42, x43, x44, x45, x46, x47, x48, x49, x50, x51, x52, x53, x54, x55, x56, .ref b_now, x58, x59, x60, x61, x62, x63, x64, x65, x66, .ref b_were, .int 0, .int 0, x70, x71, x72, x73, x74, x75, x76, x77, x78, x79, x80, x81, x82, x83, x84, x85, x86, x87, x88])), (b_now, .inl (cy 1, 42, .inl (fun _ => 0))), (b_were, .inl (cy 1, 1680, .inl (g_6)))] := hD
        refine lv_iinc (v := nI (i1 + 1)) (lv' := [(1, .int (nI (i1 + 1))), (0, .ref b0)]) hx hb dX12_act_77 hl (k := 0) rfl (lp_inc i1) (by decide) rfl (fun ls hl => ?_)
        refine lv_goto (tgt := 51) hx hb dX12_act_80 (by decide) ?_
        exact ih1 (i1 + 1) (by omega) (by omega) g_6 _ _ (hP.sub [0, 1, 2] rfl) (hD.sub [0, 1, 2] (by decide) rfl) hS ls (lv_sub hl [0, 1] rfl)
  exact loop1 42 0 (by omega) (by omega) fw _ _ (hP.sub [0, 1, 2] rfl) (hD.sub [0, 1, 2] (by decide) rfl) hS ls (lv_sub hl [0, 1] rfl)
theorem dX12_noon_0 : decode cX12_noon 0 = .ok (.aload_n 0, 1) := by decide +kernel
theorem dX12_noon_1 : decode cX12_noon 1 = .ok (.getfield 97, 3) := by decide +kernel
theorem dX12_noon_4 : decode cX12_noon 4 = .ok (.bipush 28, 2) := by decide +kernel
theorem dX12_noon_6 : decode cX12_noon 6 = .ok (.iaload, 1) := by decide +kernel
theorem dX12_noon_7 : decode cX12_noon 7 = .ok (.sipush 999, 3) := by decide +kernel
theorem dX12_noon_10 : decode cX12_noon 10 = .ok (.if_icmp .ne 5, 3) := by decide +kernel
theorem dX12_noon_15 : decode cX12_noon 15 = .ok (.aload_n 0, 1) := by decide +kernel
theorem dX12_noon_16 : decode cX12_noon 16 = .ok (.invokevirtual 518, 3) := by decide +kernel
theorem m_1908 : (Cond.methodLink RX12 518 yX12_act) ∈ gT := gm 1908 (by decide +kernel) (by decide +kernel)
theorem m_1910 : (Cond.instanceMethod yX12_act) ∈ gT := gm 1910 (by decide +kernel) (by decide +kernel)
theorem m_101 : (Cond.selects RX12 yX12_act yX12_act) ∈ gT := gm 101 (by decide +kernel) (by decide +kernel)
theorem m_1911 : (Cond.code yX12_act cX12_act 2 none) ∈ gT := gm 1911 (by decide +kernel) (by decide +kernel)
theorem k_X12_518 : xV RX12 RX12 518 yX12_act cX12_act 2 none 0 := ⟨⟨m_1908, m_1910, m_101, m_146, m_1911⟩, rfl, by decide, by decide, by decide +kernel⟩
theorem dX12_noon_19 : decode cX12_noon 19 = .ok (.aload_n 0, 1) := by decide +kernel
theorem dX12_noon_20 : decode cX12_noon 20 = .ok (.getfield 97, 3) := by decide +kernel
theorem dX12_noon_23 : decode cX12_noon 23 = .ok (.bipush 27, 2) := by decide +kernel
theorem dX12_noon_25 : decode cX12_noon 25 = .ok (.aload_n 0, 1) := by decide +kernel
theorem dX12_noon_26 : decode cX12_noon 26 = .ok (.getfield 97, 3) := by decide +kernel
theorem dX12_noon_29 : decode cX12_noon 29 = .ok (.bipush 27, 2) := by decide +kernel
theorem dX12_noon_31 : decode cX12_noon 31 = .ok (.iaload, 1) := by decide +kernel
theorem dX12_noon_32 : decode cX12_noon 32 = .ok (.sipush 137, 3) := by decide +kernel
theorem dX12_noon_35 : decode cX12_noon 35 = .ok (.imul, 1) := by decide +kernel
theorem dX12_noon_36 : decode cX12_noon 36 = .ok (.bipush 71, 2) := by decide +kernel
theorem dX12_noon_38 : decode cX12_noon 38 = .ok (.iadd, 1) := by decide +kernel
theorem dX12_noon_39 : decode cX12_noon 39 = .ok (.sipush 1000, 3) := by decide +kernel
theorem dX12_noon_42 : decode cX12_noon 42 = .ok (.irem, 1) := by decide +kernel
theorem dX12_noon_43 : decode cX12_noon 43 = .ok (.iastore, 1) := by decide +kernel
theorem dX12_noon_44 : decode cX12_noon 44 = .ok (.aload_n 0, 1) := by decide +kernel
theorem dX12_noon_45 : decode cX12_noon 45 = .ok (.getfield 97, 3) := by decide +kernel
theorem dX12_noon_48 : decode cX12_noon 48 = .ok (.bipush 22, 2) := by decide +kernel
theorem dX12_noon_50 : decode cX12_noon 50 = .ok (.aload_n 0, 1) := by decide +kernel
theorem dX12_noon_51 : decode cX12_noon 51 = .ok (.getfield 97, 3) := by decide +kernel
theorem dX12_noon_54 : decode cX12_noon 54 = .ok (.bipush 27, 2) := by decide +kernel
theorem dX12_noon_56 : decode cX12_noon 56 = .ok (.iaload, 1) := by decide +kernel
theorem dX12_noon_57 : decode cX12_noon 57 = .ok (.bipush 10, 2) := by decide +kernel
theorem dX12_noon_59 : decode cX12_noon 59 = .ok (.irem, 1) := by decide +kernel
theorem dX12_noon_60 : decode cX12_noon 60 = .ok (.iastore, 1) := by decide +kernel
theorem dX12_noon_61 : decode cX12_noon 61 = .ok (.iconst 0, 1) := by decide +kernel
theorem dX12_noon_62 : decode cX12_noon 62 = .ok (.istore_n 1, 1) := by decide +kernel
theorem dX12_noon_63 : decode cX12_noon 63 = .ok (.iload_n 1, 1) := by decide +kernel
theorem dX12_noon_64 : decode cX12_noon 64 = .ok (.aload_n 0, 1) := by decide +kernel
theorem dX12_noon_65 : decode cX12_noon 65 = .ok (.getfield 406, 3) := by decide +kernel
theorem dX12_noon_68 : decode cX12_noon 68 = .ok (.if_icmp .ge 51, 3) := by decide +kernel
theorem dX12_noon_119 : decode cX12_noon 119 = .ok (.aload_n 0, 1) := by decide +kernel
theorem dX12_noon_120 : decode cX12_noon 120 = .ok (.getfield 97, 3) := by decide +kernel
theorem dX12_noon_123 : decode cX12_noon 123 = .ok (.bipush 28, 2) := by decide +kernel
theorem dX12_noon_125 : decode cX12_noon 125 = .ok (.dup2, 1) := by decide +kernel
theorem dX12_noon_126 : decode cX12_noon 126 = .ok (.iaload, 1) := by decide +kernel
theorem dX12_noon_127 : decode cX12_noon 127 = .ok (.iconst 1, 1) := by decide +kernel
theorem dX12_noon_128 : decode cX12_noon 128 = .ok (.iadd, 1) := by decide +kernel
theorem dX12_noon_129 : decode cX12_noon 129 = .ok (.iastore, 1) := by decide +kernel
theorem dX12_noon_130 : decode cX12_noon 130 = .ok (.aload_n 0, 1) := by decide +kernel
theorem dX12_noon_131 : decode cX12_noon 131 = .ok (.getfield 97, 3) := by decide +kernel
theorem dX12_noon_134 : decode cX12_noon 134 = .ok (.bipush 22, 2) := by decide +kernel
theorem dX12_noon_136 : decode cX12_noon 136 = .ok (.iaload, 1) := by decide +kernel
theorem dX12_noon_137 : decode cX12_noon 137 = .ok (.ireturn, 1) := by decide +kernel
set_option maxHeartbeats 400000 in
set_option maxRecDepth 100000 in
theorem m_noon (l : Launch) (D : va_G) (cy : Nat → ClassId) (b0 : Nat) (x0 : Value) (x1 : Value) (x2 : Value) (x3 : Value) (x4 : Value) (x5 : Value) (x6 : Value) (x7 : Value) (x8 : Value) (x9 : Value) (x10 : Value) (x11 : Value) (x12 : Value) (x13 : Value) (x14 : Value) (x15 : Value) (x16 : Value) (x17 : Value) (x18 : Value) (x19 : Value) (x20 : Value) (x21 : Value) (x22 : Value) (x23 : Value) (x24 : Value) (x25 : Value) (x26 : Value) (x27 : Value) (x28 : Value) (x29 : Value) (x30 : Value) (x31 : Value) (x32 : Value) (x33 : Value) (x34 : Value) (x35 : Value) (x36 : Value) (x37 : Value) (x38 : Value) (x39 : Value) (x40 : Value) (x41 : Value) (x42 : Value) (x43 : Value) (x44 : Value) (x45 : Value) (x46 : Value) (x47 : Value) (x48 : Value) (x49 : Value) (x51 : Value) (x52 : Value) (x53 : Value) (x54 : Value) (x55 : Value) (x56 : Value) (x58 : Value) (x59 : Value) (x60 : Value) (x61 : Value) (x62 : Value) (x63 : Value) (x64 : Value) (x65 : Value) (x66 : Value) (x70 : Value) (x71 : Value) (x72 : Value) (x73 : Value) (x74 : Value) (x75 : Value) (x76 : Value) (x77 : Value) (x78 : Value) (x79 : Value) (x80 : Value) (x81 : Value) (x82 : Value) (x83 : Value) (x84 : Value) (x85 : Value) (x86 : Value) (x87 : Value) (x88 : Value) (b_were : Nat) (b_now : Nat) (fw : Nat → Int32)  : XMi l D (tyL cy) E0 yX12_noon cX12_noon 2 (some .int) (rmk 3 0 0) [.ref b0] [(b0, .inr (12, [x0, x1, x2, x3, x4, x5, x6, x7, x8, x9, x10, x11, x12, x13, x14, x15, x16, x17, x18, x19, x20, x21, x22, x23, x24, x25, x26, x27, x28, x29, x30, x31, x32, x33, x34, x35, x36, x37, x38, x39, x40, x41, x42, x43, x44, x45, x46, x47, x48, x49, .int 0, x51, x52, x53, x54, x55, x56, .ref b_now, x58, x59, x60, x61, x62, x63, x64, x65, x66, .ref b_were, .int 0, .int 0, x70, x71, x72, x73, x74, x75, x76, x77, x78, x79, x80, x81, x82, x83, x84, x85, x86, x87, x88])), (b_now, .inl (cy 1, 42, .inl (fun _ => 0))), (b_were, .inl (cy 1, 1680, .inl (fw)))] (fun (r : Int32) (_ : Unit) => r = 1) (fun (_ : Unit) => []) := by
  refine XMi.start (by decide) (Nat.le_of_ble_eq_true rfl) ?_
  intro p e s m below meth c args A ls Q hat hQ
  obtain ⟨hx, hb, hr, hml, hown, hg, hlocks, hin, hK, hA, hP, hD, hS, hE, hl⟩ := hat
  have hown : s.vm.findClass RX12 = some m.cls := hown
  have hl : lv_has ls 2 [(0, .ref b0)] := hl
  refine lv_aload_n hx hb dX12_noon_0 rfl (lv_at hl 0 rfl) ?_
  refine va_get (D := D) (ci := 12) (v := .ref b_now) (C := RX12) (T := TX12) (N := 89) hx hb hg i_X12 hown hK hP 0 rfl rfl 57 (by decide) (hg _ m_1470) (fun _ h9 => h9) rfl dX12_noon_1 ?_
  refine lv_bipush (v := 28) hx hb dX12_noon_4 (by decide) ?_
  refine va_iald hx hb hK hP 1 1 rfl rfl (by unfold vp_in; decide) dX12_noon_6 ?_
  refine lv_topi (fun y_1 hy_1 => ?_)
  obtain rfl : y_1 = 0 := hy_1.trans (by decide +kernel)
  refine lv_sipush (v := 999) hx hb dX12_noon_7 (by decide) ?_
  refine lv_icmp_ne (tgt := 15) hx hb dX12_noon_10 (by decide) (fun _ => ?_) (fun h => absurd h (by decide))
  refine lv_aload_n hx hb dX12_noon_15 rfl (lv_at hl 0 rfl) ?_
  refine x_callVv (q := (RX12, TX12, 89)) (ci := 12) (q0 := 0) (wr := []) (rest := []) ⟨hx, hb, hml, hown, hg, hl.1⟩ k_X12_518 (m_act l D cy b0 x0 x1 x2 x3 x4 x5 x6 x7 x8 x9 x10 x11 x12 x13 x14 x15 x16 x17 x18 x19 x20 x21 x22 x23 x24 x25 x26 x27 x28 x29 x30 x31 x32 x33 x34 x35 x36 x37 x38 x39 x40 x41 x42 x43 x44 x45 x46 x47 x48 x49 ((.int 0)) x51 x52 x53 x54 x55 x56 x58 x59 x60 x61 x62 x63 x64 x65 x66 x70 x71 x72 x73 x74 x75 x76 x77 x78 x79 x80 x81 x82 x83 x84 x85 x86 x87 x88 b_were b_now fw) E0_blind hK hP hD hS hA [0, 1, 2] [] ⟨rfl, rfl, by decide, by decide, by decide⟩ rfl rfl (fun _ _ _ => trivial) dX12_noon_16 rfl rfl (Nat.le_of_ble_eq_true rfl) ⟨Nat.le_of_ble_eq_true rfl, Nat.le_of_ble_eq_true rfl⟩ ⟨Nat.le_of_ble_eq_true rfl, Nat.le_of_ble_eq_true rfl⟩ (fun u2 H locs hw2 hP hD hS => ?_)
  obtain ⟨fw2_3, rfl⟩ : ∃ z, z = u2 := ⟨_, rfl⟩
  have hP : va_P D vwCl [(b0, .inr (12, [x0, x1, x2, x3, x4, x5, x6, x7, x8, x9, x10, x11, x12, x13, x14, x15, x16, x17, x18, x19, x20, x21, x22, x23, x24, x25, x26, x27, x28, x29, x30, x31, x32, x33, x34, x35, x36, x37, x38, x39, x40, x41, x42, x43, x44, x45, x46, x47, x48, x49, .int 0, x51, x52, x53, x54, x55, x56, .ref b_now, x58, x59, x60, x61, x62, x63, x64, x65, x66, .ref b_were, .int 1, .int 0, x70, x71, x72, x73, x74, x75, x76, x77, x78, x79, x80, x81, x82, x83, x84, x85, x86, x87, x88])), (b_now, .inl (cy 1, 42, .inl (fun _ => 0)))] H := hP
  have hD : va_D A [(b0, .inr (12, [x0, x1, x2, x3, x4, x5, x6, x7, x8, x9, x10, x11, x12, x13, x14, x15, x16, x17, x18, x19, x20, x21, x22, x23, x24, x25, x26, x27, x28, x29, x30, x31, x32, x33, x34, x35, x36, x37, x38, x39, x40, x41, x42, x43, x44, x45, x46, x47, x48, x49, .int 0, x51, x52, x53, x54, x55, x56, .ref b_now, x58, x59, x60, x61, x62, x63, x64, x65, x66, .ref b_were, .int 1, .int 0, x70, x71, x72, x73, x74, x75, x76, x77, x78, x79, x80, x81, x82, x83, x84, x85, x86, x87, x88])), (b_now, .inl (cy 1, 42, .inl (fun _ => 0)))] := hD
  refine W.widen (k := 0) (n := 0) (Nat.le_of_ble_eq_true rfl) (Nat.le_of_ble_eq_true rfl) ?_
  refine lv_aload_n hx hb dX12_noon_19 rfl (lv_at hl 0 rfl) ?_
  refine va_get (D := D) (ci := 12) (v := .ref b_now) (C := RX12) (T := TX12) (N := 89) hx hb hg i_X12 hown hK hP 0 rfl rfl 57 (by decide) (hg _ m_1470) (fun _ h9 => h9) rfl dX12_noon_20 ?_
  refine lv_bipush (v := 27) hx hb dX12_noon_23 (by decide) ?_
  refine lv_aload_n hx hb dX12_noon_25 rfl (lv_at hl 0 rfl) ?_
  refine va_get (D := D) (ci := 12) (v := .ref b_now) (C := RX12) (T := TX12) (N := 89) hx hb hg i_X12 hown hK hP 0 rfl rfl 57 (by decide) (hg _ m_1470) (fun _ h9 => h9) rfl dX12_noon_26 ?_
  refine lv_bipush (v := 27) hx hb dX12_noon_29 (by decide) ?_
  refine va_iald hx hb hK hP 1 1 rfl rfl (by unfold vp_in; decide) dX12_noon_31 ?_
  refine lv_topi (fun y_4 hy_4 => ?_)
  obtain rfl : y_4 = 0 := hy_4.trans (by decide +kernel)
  refine lv_sipush (v := 137) hx hb dX12_noon_32 (by decide) ?_
  refine lv_imul hx hb dX12_noon_35 ?_
  refine lv_topi (fun y_5 hy_5 => ?_)
  obtain rfl : y_5 = 0 := hy_5.trans (by decide +kernel)
  refine lv_bipush (v := 71) hx hb dX12_noon_36 (by decide) ?_
  refine lv_iadd hx hb dX12_noon_38 ?_
  refine lv_topi (fun y_6 hy_6 => ?_)
  obtain rfl : y_6 = 71 := hy_6.trans (by decide +kernel)
  refine lv_sipush (v := 1000) hx hb dX12_noon_39 (by decide) ?_
  refine lv_irem hx hb dX12_noon_42 (by decide) ?_
  refine lv_topi (fun y_7 hy_7 => ?_)
  obtain rfl : y_7 = 71 := hy_7.trans (by decide +kernel)
  refine va_iast hx hb hK hP hD hS 1 1 rfl rfl (by unfold vp_in; decide) dX12_noon_43 (fun H locs hP hD hS => ?_)
  have hP : va_P D vwCl [(b0, .inr (12, [x0, x1, x2, x3, x4, x5, x6, x7, x8, x9, x10, x11, x12, x13, x14, x15, x16, x17, x18, x19, x20, x21, x22, x23, x24, x25, x26, x27, x28, x29, x30, x31, x32, x33, x34, x35, x36, x37, x38, x39, x40, x41, x42, x43, x44, x45, x46, x47, x48, x49, .int 0, x51, x52, x53, x54, x55, x56, .ref b_now, x58, x59, x60, x61, x62, x63, x64, x65, x66, .ref b_were, .int 1, .int 0, x70, x71, x72, x73, x74, x75, x76, x77, x78, x79, x80, x81, x82, x83, x84, x85, x86, x87, x88])), (b_now, .inl (cy 1, 42, .inl (upd (fun _ => 0) (27 : Int32).toNatClampNeg 71)))] H := hP
  have hD : va_D A [(b0, .inr (12, [x0, x1, x2, x3, x4, x5, x6, x7, x8, x9, x10, x11, x12, x13, x14, x15, x16, x17, x18, x19, x20, x21, x22, x23, x24, x25, x26, x27, x28, x29, x30, x31, x32, x33, x34, x35, x36, x37, x38, x39, x40, x41, x42, x43, x44, x45, x46, x47, x48, x49, .int 0, x51, x52, x53, x54, x55, x56, .ref b_now, x58, x59, x60, x61, x62, x63, x64, x65, x66, .ref b_were, .int 1, .int 0, x70, x71, x72, x73, x74, x75, x76, x77, x78, x79, x80, x81, x82, x83, x84, x85, x86, x87, x88])), (b_now, .inl (cy 1, 42, .inl (upd (fun _ => 0) (27 : Int32).toNatClampNeg 71)))] := hD
  refine lv_aload_n hx hb dX12_noon_44 rfl (lv_at hl 0 rfl) ?_
  refine va_get (D := D) (ci := 12) (v := .ref b_now) (C := RX12) (T := TX12) (N := 89) hx hb hg i_X12 hown hK hP 0 rfl rfl 57 (by decide) (hg _ m_1470) (fun _ h9 => h9) rfl dX12_noon_45 ?_
  refine lv_bipush (v := 22) hx hb dX12_noon_48 (by decide) ?_
  refine lv_aload_n hx hb dX12_noon_50 rfl (lv_at hl 0 rfl) ?_
  refine va_get (D := D) (ci := 12) (v := .ref b_now) (C := RX12) (T := TX12) (N := 89) hx hb hg i_X12 hown hK hP 0 rfl rfl 57 (by decide) (hg _ m_1470) (fun _ h9 => h9) rfl dX12_noon_51 ?_
  refine lv_bipush (v := 27) hx hb dX12_noon_54 (by decide) ?_
  refine va_iald hx hb hK hP 1 1 rfl rfl (by unfold vp_in; decide) dX12_noon_56 ?_
  refine lv_topi (fun y_8 hy_8 => ?_)
  obtain rfl : y_8 = 71 := hy_8.trans (by decide +kernel)
  refine lv_bipush (v := 10) hx hb dX12_noon_57 (by decide) ?_
  refine lv_irem hx hb dX12_noon_59 (by decide) ?_
  refine lv_topi (fun y_9 hy_9 => ?_)
  obtain rfl : y_9 = 1 := hy_9.trans (by decide +kernel)
  refine va_iast hx hb hK hP hD hS 1 1 rfl rfl (by unfold vp_in; decide) dX12_noon_60 (fun H locs hP hD hS => ?_)
  have hP : va_P D vwCl [(b0, .inr (12, [x0, x1, x2, x3, x4, x5, x6, x7, x8, x9, x10, x11, x12, x13, x14, x15, x16, x17, x18, x19, x20, x21, x22, x23, x24, x25, x26, x27, x28, x29, x30, x31, x32, x33, x34, x35, x36, x37, x38, x39, x40, x41, x42, x43, x44, x45, x46, x47, x48, x49, .int 0, x51, x52, x53, x54, x55, x56, .ref b_now, x58, x59, x60, x61, x62, x63, x64, x65, x66, .ref b_were, .int 1, .int 0, x70, x71, x72, x73, x74, x75, x76, x77, x78, x79, x80, x81, x82, x83, x84, x85, x86, x87, x88])), (b_now, .inl (cy 1, 42, .inl (upd (upd (fun _ => 0) (27 : Int32).toNatClampNeg 71) (22 : Int32).toNatClampNeg 1)))] H := hP
  have hD : va_D A [(b0, .inr (12, [x0, x1, x2, x3, x4, x5, x6, x7, x8, x9, x10, x11, x12, x13, x14, x15, x16, x17, x18, x19, x20, x21, x22, x23, x24, x25, x26, x27, x28, x29, x30, x31, x32, x33, x34, x35, x36, x37, x38, x39, x40, x41, x42, x43, x44, x45, x46, x47, x48, x49, .int 0, x51, x52, x53, x54, x55, x56, .ref b_now, x58, x59, x60, x61, x62, x63, x64, x65, x66, .ref b_were, .int 1, .int 0, x70, x71, x72, x73, x74, x75, x76, x77, x78, x79, x80, x81, x82, x83, x84, x85, x86, x87, x88])), (b_now, .inl (cy 1, 42, .inl (upd (upd (fun _ => 0) (27 : Int32).toNatClampNeg 71) (22 : Int32).toNatClampNeg 1)))] := hD
  refine lv_iconst (v := 0) hx hb dX12_noon_61 (by decide) ?_
  refine lv_istore_n (lv' := [(1, .int 0), (0, .ref b0)]) hx hb dX12_noon_62 rfl hl (by decide) rfl (fun ls hl => ?_)
  refine lv_iload_n hx hb dX12_noon_63 rfl (lv_at hl 0 rfl) ?_
  refine lv_aload_n hx hb dX12_noon_64 rfl (lv_at hl 1 rfl) ?_
  refine va_get (D := D) (ci := 12) (v := .int 0) (C := RX12) (T := TX12) (N := 89) hx hb hg i_X12 hown hK hP 0 rfl rfl 50 (by decide) (hg _ m_1463) (fun _ h9 => h9) rfl dX12_noon_65 ?_
  refine lv_icmp_ge (tgt := 119) hx hb dX12_noon_68 (by decide) (fun _ => ?_) (fun h => absurd (by decide) h)
  refine lv_aload_n hx hb dX12_noon_119 rfl (lv_at hl 1 rfl) ?_
  refine va_get (D := D) (ci := 12) (v := .ref b_now) (C := RX12) (T := TX12) (N := 89) hx hb hg i_X12 hown hK hP 0 rfl rfl 57 (by decide) (hg _ m_1470) (fun _ h9 => h9) rfl dX12_noon_120 ?_
  refine lv_bipush (v := 28) hx hb dX12_noon_123 (by decide) ?_
  refine lv_dup2_11 hx hb dX12_noon_125 rfl rfl ?_
  refine va_iald hx hb hK hP 1 1 rfl rfl (by unfold vp_in; decide) dX12_noon_126 ?_
  refine lv_topi (fun y_10 hy_10 => ?_)
  obtain rfl : y_10 = 0 := hy_10.trans (by decide +kernel)
  refine lv_iconst (v := 1) hx hb dX12_noon_127 (by decide) ?_
  refine lv_iadd hx hb dX12_noon_128 ?_
  refine lv_topi (fun y_11 hy_11 => ?_)
  obtain rfl : y_11 = 1 := hy_11.trans (by decide +kernel)
  refine va_iast hx hb hK hP hD hS 1 1 rfl rfl (by unfold vp_in; decide) dX12_noon_129 (fun H locs hP hD hS => ?_)
  have hP : va_P D vwCl [(b0, .inr (12, [x0, x1, x2, x3, x4, x5, x6, x7, x8, x9, x10, x11, x12, x13, x14, x15, x16, x17, x18, x19, x20, x21, x22, x23, x24, x25, x26, x27, x28, x29, x30, x31, x32, x33, x34, x35, x36, x37, x38, x39, x40, x41, x42, x43, x44, x45, x46, x47, x48, x49, .int 0, x51, x52, x53, x54, x55, x56, .ref b_now, x58, x59, x60, x61, x62, x63, x64, x65, x66, .ref b_were, .int 1, .int 0, x70, x71, x72, x73, x74, x75, x76, x77, x78, x79, x80, x81, x82, x83, x84, x85, x86, x87, x88])), (b_now, .inl (cy 1, 42, .inl (upd (upd (upd (fun _ => 0) (27 : Int32).toNatClampNeg 71) (22 : Int32).toNatClampNeg 1) (28 : Int32).toNatClampNeg 1)))] H := hP
  have hD : va_D A [(b0, .inr (12, [x0, x1, x2, x3, x4, x5, x6, x7, x8, x9, x10, x11, x12, x13, x14, x15, x16, x17, x18, x19, x20, x21, x22, x23, x24, x25, x26, x27, x28, x29, x30, x31, x32, x33, x34, x35, x36, x37, x38, x39, x40, x41, x42, x43, x44, x45, x46, x47, x48, x49, .int 0, x51, x52, x53, x54, x55, x56, .ref b_now, x58, x59, x60, x61, x62, x63, x64, x65, x66, .ref b_were, .int 1, .int 0, x70, x71, x72, x73, x74, x75, x76, x77, x78, x79, x80, x81, x82, x83, x84, x85, x86, x87, x88])), (b_now, .inl (cy 1, 42, .inl (upd (upd (upd (fun _ => 0) (27 : Int32).toNatClampNeg 71) (22 : Int32).toNatClampNeg 1) (28 : Int32).toNatClampNeg 1)))] := hD
  refine lv_aload_n hx hb dX12_noon_130 rfl (lv_at hl 1 rfl) ?_
  refine va_get (D := D) (ci := 12) (v := .ref b_now) (C := RX12) (T := TX12) (N := 89) hx hb hg i_X12 hown hK hP 0 rfl rfl 57 (by decide) (hg _ m_1470) (fun _ h9 => h9) rfl dX12_noon_131 ?_
  refine lv_bipush (v := 22) hx hb dX12_noon_134 (by decide) ?_
  refine va_iald hx hb hK hP 1 1 rfl rfl (by unfold vp_in; decide) dX12_noon_136 ?_
  refine lv_topi (fun y_12 hy_12 => ?_)
  obtain rfl : y_12 = 1 := hy_12.trans (by decide +kernel)
  exact x_iret hQ hx hb hr hlocks hK hP hD hS dX12_noon_137 () (rfl) [] (by decide) rfl (Nat.le_of_ble_eq_true rfl) (Nat.le_of_ble_eq_true rfl)
theorem dX12_here_0 : decode cX12_here 0 = .ok (.aload_n 0, 1) := by decide +kernel
theorem dX12_here_1 : decode cX12_here 1 = .ok (.getfield 164, 3) := by decide +kernel
theorem m_1417 : (Cond.fieldLink RX12 164 "CliffJudgesModel" "at" "I") ∈ gT := gm 1417 (by decide +kernel) (by decide +kernel)
theorem dX12_here_4 : decode cX12_here 4 = .ok (.iload_n 1, 1) := by decide +kernel
theorem dX12_here_5 : decode cX12_here 5 = .ok (.iadd, 1) := by decide +kernel
theorem dX12_here_6 : decode cX12_here 6 = .ok (.aload_n 0, 1) := by decide +kernel
theorem dX12_here_7 : decode cX12_here 7 = .ok (.getfield 167, 3) := by decide +kernel
theorem m_1418 : (Cond.fieldLink RX12 167 "CliffJudgesModel" "size" "I") ∈ gT := gm 1418 (by decide +kernel) (by decide +kernel)
theorem dX12_here_10 : decode cX12_here 10 = .ok (.if_icmp .ge 17, 3) := by decide +kernel
theorem dX12_here_27 : decode cX12_here 27 = .ok (.iconst (-1), 1) := by decide +kernel
theorem dX12_here_28 : decode cX12_here 28 = .ok (.ireturn, 1) := by decide +kernel
set_option maxHeartbeats 400000 in
set_option maxRecDepth 100000 in
theorem m_here (l : Launch) (D : va_G) (cy : Nat → ClassId) (b0 : Nat) (x0 : Value) (x1 : Value) (x2 : Value) (x3 : Value) (x6 : Value) (x7 : Value) (x8 : Value) (x9 : Value) (x10 : Value) (x11 : Value) (x12 : Value) (x13 : Value) (x14 : Value) (x15 : Value) (x16 : Value) (x17 : Value) (x18 : Value) (x19 : Value) (x20 : Value) (x21 : Value) (x22 : Value) (x23 : Value) (x24 : Value) (x25 : Value) (x26 : Value) (x27 : Value) (x28 : Value) (x29 : Value) (x30 : Value) (x31 : Value) (x32 : Value) (x33 : Value) (x34 : Value) (x35 : Value) (x36 : Value) (x37 : Value) (x38 : Value) (x39 : Value) (x40 : Value) (x41 : Value) (x42 : Value) (x43 : Value) (x44 : Value) (x45 : Value) (x46 : Value) (x47 : Value) (x48 : Value) (x49 : Value) (x50 : Value) (x51 : Value) (x52 : Value) (x53 : Value) (x54 : Value) (x55 : Value) (x56 : Value) (x57 : Value) (x58 : Value) (x59 : Value) (x60 : Value) (x61 : Value) (x62 : Value) (x63 : Value) (x64 : Value) (x65 : Value) (x66 : Value) (x67 : Value) (x68 : Value) (x69 : Value) (x70 : Value) (x71 : Value) (x72 : Value) (x73 : Value) (x74 : Value) (x75 : Value) (x76 : Value) (x77 : Value) (x78 : Value) (x79 : Value) (x80 : Value) (x81 : Value) (x82 : Value) (x83 : Value) (x84 : Value) (x85 : Value) (x86 : Value) (x87 : Value) (x88 : Value)  : XMi l D (tyL cy) E0 yX12_here cX12_here 2 (some .int) (rmk 0 0 0) [.ref b0, .int 0] [(b0, .inr (12, [x0, x1, x2, x3, .int 0, .int 0, x6, x7, x8, x9, x10, x11, x12, x13, x14, x15, x16, x17, x18, x19, x20, x21, x22, x23, x24, x25, x26, x27, x28, x29, x30, x31, x32, x33, x34, x35, x36, x37, x38, x39, x40, x41, x42, x43, x44, x45, x46, x47, x48, x49, x50, x51, x52, x53, x54, x55, x56, x57, x58, x59, x60, x61, x62, x63, x64, x65, x66, x67, x68, x69, x70, x71, x72, x73, x74, x75, x76, x77, x78, x79, x80, x81, x82, x83, x84, x85, x86, x87, x88]))] (fun (r : Int32) (_ : Unit) => r = -1) (fun (_ : Unit) => [(b0, .inr (12, [x0, x1, x2, x3, .int 0, .int 0, x6, x7, x8, x9, x10, x11, x12, x13, x14, x15, x16, x17, x18, x19, x20, x21, x22, x23, x24, x25, x26, x27, x28, x29, x30, x31, x32, x33, x34, x35, x36, x37, x38, x39, x40, x41, x42, x43, x44, x45, x46, x47, x48, x49, x50, x51, x52, x53, x54, x55, x56, x57, x58, x59, x60, x61, x62, x63, x64, x65, x66, x67, x68, x69, x70, x71, x72, x73, x74, x75, x76, x77, x78, x79, x80, x81, x82, x83, x84, x85, x86, x87, x88]))]) := by
  refine XMi.start (by decide) (Nat.le_of_ble_eq_true rfl) ?_
  intro p e s m below meth c args A ls Q hat hQ
  obtain ⟨hx, hb, hr, hml, hown, hg, hlocks, hin, hK, hA, hP, hD, hS, hE, hl⟩ := hat
  have hown : s.vm.findClass RX12 = some m.cls := hown
  have hl : lv_has ls 2 [(0, .ref b0), (1, .int 0)] := hl
  refine lv_aload_n hx hb dX12_here_0 rfl (lv_at hl 0 rfl) ?_
  refine va_get (D := D) (ci := 12) (v := .int 0) (C := RX12) (T := TX12) (N := 89) hx hb hg i_X12 hown hK hP 0 rfl rfl 4 (by decide) (hg _ m_1417) (fun _ h9 => h9) rfl dX12_here_1 ?_
  refine lv_iload_n hx hb dX12_here_4 rfl (lv_at hl 1 rfl) ?_
  refine lv_iadd hx hb dX12_here_5 ?_
  refine lv_topi (fun y_1 hy_1 => ?_)
  obtain rfl : y_1 = 0 := hy_1.trans (by decide +kernel)
  refine lv_aload_n hx hb dX12_here_6 rfl (lv_at hl 0 rfl) ?_
  refine va_get (D := D) (ci := 12) (v := .int 0) (C := RX12) (T := TX12) (N := 89) hx hb hg i_X12 hown hK hP 0 rfl rfl 5 (by decide) (hg _ m_1418) (fun _ h9 => h9) rfl dX12_here_7 ?_
  refine lv_icmp_ge (tgt := 27) hx hb dX12_here_10 (by decide) (fun _ => ?_) (fun h => absurd (by decide) h)
  refine lv_iconst (v := -1) hx hb dX12_here_27 (by decide) ?_
  exact x_iret hQ hx hb hr hlocks hK hP hD hS dX12_here_28 () (rfl) [0] (by decide) rfl (Nat.le_of_ble_eq_true rfl) (Nat.le_of_ble_eq_true rfl)
theorem dX12_token_0 : decode cX12_token 0 = .ok (.aload_n 0, 1) := by decide +kernel
theorem dX12_token_1 : decode cX12_token 1 = .ok (.iconst 0, 1) := by decide +kernel
theorem dX12_token_2 : decode cX12_token 2 = .ok (.invokevirtual 170, 3) := by decide +kernel
theorem m_1706 : (Cond.methodLink RX12 170 yX12_here) ∈ gT := gm 1706 (by decide +kernel) (by decide +kernel)
theorem m_1708 : (Cond.instanceMethod yX12_here) ∈ gT := gm 1708 (by decide +kernel) (by decide +kernel)
theorem m_66 : (Cond.selects RX12 yX12_here yX12_here) ∈ gT := gm 66 (by decide +kernel) (by decide +kernel)
theorem m_1709 : (Cond.code yX12_here cX12_here 2 (some .int)) ∈ gT := gm 1709 (by decide +kernel) (by decide +kernel)
theorem k_X12_170 : xV RX12 RX12 170 yX12_here cX12_here 2 (some .int) 1 := ⟨⟨m_1706, m_1708, m_66, m_146, m_1709⟩, rfl, by decide, by decide, by decide +kernel⟩
theorem dX12_token_5 : decode cX12_token 5 = .ok (.bipush 32, 2) := by decide +kernel
theorem dX12_token_7 : decode cX12_token 7 = .ok (.if_icmp .eq 13, 3) := by decide +kernel
theorem dX12_token_10 : decode cX12_token 10 = .ok (.aload_n 0, 1) := by decide +kernel
theorem dX12_token_11 : decode cX12_token 11 = .ok (.iconst 0, 1) := by decide +kernel
theorem dX12_token_12 : decode cX12_token 12 = .ok (.invokevirtual 170, 3) := by decide +kernel
theorem dX12_token_15 : decode cX12_token 15 = .ok (.bipush 10, 2) := by decide +kernel
theorem dX12_token_17 : decode cX12_token 17 = .ok (.if_icmp .ne 16, 3) := by decide +kernel
theorem dX12_token_33 : decode cX12_token 33 = .ok (.aload_n 0, 1) := by decide +kernel
theorem dX12_token_34 : decode cX12_token 34 = .ok (.aload_n 0, 1) := by decide +kernel
theorem dX12_token_35 : decode cX12_token 35 = .ok (.getfield 164, 3) := by decide +kernel
theorem dX12_token_38 : decode cX12_token 38 = .ok (.putfield 174, 3) := by decide +kernel
theorem m_1420 : (Cond.fieldLink RX12 174 "CliffJudgesModel" "place" "I") ∈ gT := gm 1420 (by decide +kernel) (by decide +kernel)
theorem dX12_token_41 : decode cX12_token 41 = .ok (.aload_n 0, 1) := by decide +kernel
theorem dX12_token_42 : decode cX12_token 42 = .ok (.iconst 0, 1) := by decide +kernel
theorem dX12_token_43 : decode cX12_token 43 = .ok (.invokevirtual 170, 3) := by decide +kernel
theorem dX12_token_46 : decode cX12_token 46 = .ok (.istore_n 1, 1) := by decide +kernel
theorem dX12_token_47 : decode cX12_token 47 = .ok (.iconst 0, 1) := by decide +kernel
theorem dX12_token_48 : decode cX12_token 48 = .ok (.istore_n 2, 1) := by decide +kernel
theorem dX12_token_49 : decode cX12_token 49 = .ok (.aload_n 0, 1) := by decide +kernel
theorem dX12_token_50 : decode cX12_token 50 = .ok (.lconst 0, 1) := by decide +kernel
theorem dX12_token_51 : decode cX12_token 51 = .ok (.putfield 177, 3) := by decide +kernel
theorem m_1422 : (Cond.fieldLink RX12 177 "CliffJudgesModel" "word" "J") ∈ gT := gm 1422 (by decide +kernel) (by decide +kernel)
theorem dX12_token_54 : decode cX12_token 54 = .ok (.aload_n 0, 1) := by decide +kernel
theorem dX12_token_55 : decode cX12_token 55 = .ok (.iconst 0, 1) := by decide +kernel
theorem dX12_token_56 : decode cX12_token 56 = .ok (.putfield 181, 3) := by decide +kernel
theorem m_1421 : (Cond.fieldLink RX12 181 "CliffJudgesModel" "number" "I") ∈ gT := gm 1421 (by decide +kernel) (by decide +kernel)
theorem dX12_token_59 : decode cX12_token 59 = .ok (.iload_n 1, 1) := by decide +kernel
theorem dX12_token_60 : decode cX12_token 60 = .ok (.ifCond .ge 11, 3) := by decide +kernel
theorem dX12_token_63 : decode cX12_token 63 = .ok (.aload_n 0, 1) := by decide +kernel
theorem dX12_token_64 : decode cX12_token 64 = .ok (.iconst 0, 1) := by decide +kernel
theorem dX12_token_65 : decode cX12_token 65 = .ok (.putfield 184, 3) := by decide +kernel
theorem m_1419 : (Cond.fieldLink RX12 184 "CliffJudgesModel" "sort" "I") ∈ gT := gm 1419 (by decide +kernel) (by decide +kernel)
theorem dX12_token_68 : decode cX12_token 68 = .ok (.goto 164, 3) := by decide +kernel
theorem dX12_token_232 : decode cX12_token 232 = .ok (.aload_n 0, 1) := by decide +kernel
theorem dX12_token_233 : decode cX12_token 233 = .ok (.getfield 184, 3) := by decide +kernel
theorem dX12_token_236 : decode cX12_token 236 = .ok (.iconst 3, 1) := by decide +kernel
theorem dX12_token_237 : decode cX12_token 237 = .ok (.if_icmp .eq 13, 3) := by decide +kernel
theorem dX12_token_240 : decode cX12_token 240 = .ok (.aload_n 0, 1) := by decide +kernel
theorem dX12_token_241 : decode cX12_token 241 = .ok (.dup, 1) := by decide +kernel
theorem dX12_token_242 : decode cX12_token 242 = .ok (.getfield 164, 3) := by decide +kernel
theorem dX12_token_245 : decode cX12_token 245 = .ok (.iload_n 2, 1) := by decide +kernel
theorem dX12_token_246 : decode cX12_token 246 = .ok (.iadd, 1) := by decide +kernel
theorem dX12_token_247 : decode cX12_token 247 = .ok (.putfield 164, 3) := by decide +kernel
theorem dX12_token_250 : decode cX12_token 250 = .ok (.return_, 1) := by decide +kernel
set_option maxHeartbeats 400000 in
set_option maxRecDepth 100000 in
theorem m_token (l : Launch) (D : va_G) (cy : Nat → ClassId) (b0 : Nat) (x0 : Value) (x1 : Value) (x2 : Value) (x3 : Value) (x6 : Value) (x7 : Value) (x8 : Value) (x9 : Value) (x10 : Value) (x11 : Value) (x12 : Value) (x13 : Value) (x14 : Value) (x15 : Value) (x16 : Value) (x17 : Value) (x18 : Value) (x19 : Value) (x20 : Value) (x21 : Value) (x22 : Value) (x23 : Value) (x24 : Value) (x25 : Value) (x26 : Value) (x27 : Value) (x28 : Value) (x29 : Value) (x30 : Value) (x31 : Value) (x32 : Value) (x33 : Value) (x34 : Value) (x35 : Value) (x36 : Value) (x37 : Value) (x38 : Value) (x39 : Value) (x40 : Value) (x41 : Value) (x42 : Value) (x43 : Value) (x44 : Value) (x45 : Value) (x46 : Value) (x47 : Value) (x48 : Value) (x49 : Value) (x50 : Value) (x51 : Value) (x52 : Value) (x53 : Value) (x54 : Value) (x55 : Value) (x56 : Value) (x57 : Value) (x58 : Value) (x59 : Value) (x60 : Value) (x61 : Value) (x62 : Value) (x63 : Value) (x64 : Value) (x65 : Value) (x66 : Value) (x67 : Value) (x68 : Value) (x69 : Value) (x70 : Value) (x71 : Value) (x72 : Value) (x73 : Value) (x74 : Value) (x75 : Value) (x76 : Value) (x77 : Value) (x78 : Value) (x79 : Value) (x80 : Value) (x81 : Value) (x82 : Value) (x83 : Value) (x84 : Value) (x85 : Value) (x86 : Value) (x87 : Value) (x88 : Value)  : XMv l D (tyL cy) E0 yX12_token cX12_token 3 none (rmk 1 0 0) [.ref b0] [(b0, .inr (12, [x0, x1, x2, x3, .int 0, .int 0, x6, x7, x8, x9, x10, x11, x12, x13, x14, x15, x16, x17, x18, x19, x20, x21, x22, x23, x24, x25, x26, x27, x28, x29, x30, x31, x32, x33, x34, x35, x36, x37, x38, x39, x40, x41, x42, x43, x44, x45, x46, x47, x48, x49, x50, x51, x52, x53, x54, x55, x56, x57, x58, x59, x60, x61, x62, x63, x64, x65, x66, x67, x68, x69, x70, x71, x72, x73, x74, x75, x76, x77, x78, x79, x80, x81, x82, x83, x84, x85, x86, x87, x88]))] (fun (_ : Unit) => True) (fun (_ : Unit) => [(b0, .inr (12, [x0, x1, x2, x3, .int 0, .int 0, .int 0, .int 0, .int 0, .long 0, x10, x11, x12, x13, x14, x15, x16, x17, x18, x19, x20, x21, x22, x23, x24, x25, x26, x27, x28, x29, x30, x31, x32, x33, x34, x35, x36, x37, x38, x39, x40, x41, x42, x43, x44, x45, x46, x47, x48, x49, x50, x51, x52, x53, x54, x55, x56, x57, x58, x59, x60, x61, x62, x63, x64, x65, x66, x67, x68, x69, x70, x71, x72, x73, x74, x75, x76, x77, x78, x79, x80, x81, x82, x83, x84, x85, x86, x87, x88]))]) := by
  refine XMv.start (by decide) (Nat.le_of_ble_eq_true rfl) ?_
  intro p e s m below meth c args A ls Q hat hQ
  obtain ⟨hx, hb, hr, hml, hown, hg, hlocks, hin, hK, hA, hP, hD, hS, hE, hl⟩ := hat
  have hown : s.vm.findClass RX12 = some m.cls := hown
  have hl : lv_has ls 3 [(0, .ref b0)] := hl
  refine lv_aload_n hx hb dX12_token_0 rfl (lv_at hl 0 rfl) ?_
  refine lv_iconst (v := 0) hx hb dX12_token_1 (by decide) ?_
  refine x_callVi (q := (RX12, TX12, 89)) (ci := 12) (q0 := 0) (wr := []) (rest := []) ⟨hx, hb, hml, hown, hg, hl.1⟩ k_X12_170 (m_here l D cy b0 x0 x1 x2 x3 x6 x7 x8 x9 x10 x11 x12 x13 x14 x15 x16 x17 x18 x19 x20 x21 x22 x23 x24 x25 x26 x27 x28 x29 x30 x31 x32 x33 x34 x35 x36 x37 x38 x39 x40 x41 x42 x43 x44 x45 x46 x47 x48 x49 x50 x51 x52 x53 x54 x55 x56 x57 x58 x59 x60 x61 x62 x63 x64 x65 x66 x67 x68 x69 x70 x71 x72 x73 x74 x75 x76 x77 x78 x79 x80 x81 x82 x83 x84 x85 x86 x87 x88) E0_blind hK hP hD hS hA [0] [] ⟨rfl, rfl, by decide, by decide, by decide⟩ rfl rfl (fun _ _ _ => trivial) dX12_token_2 rfl rfl (Nat.le_of_ble_eq_true rfl) ⟨Nat.le_of_ble_eq_true rfl, Nat.le_of_ble_eq_true rfl⟩ ⟨Nat.le_of_ble_eq_true rfl, Nat.le_of_ble_eq_true rfl⟩ (fun r1 u1 H locs hw1 hP hD hS => ?_)
  have hP : va_P D vwCl [(b0, .inr (12, [x0, x1, x2, x3, .int 0, .int 0, x6, x7, x8, x9, x10, x11, x12, x13, x14, x15, x16, x17, x18, x19, x20, x21, x22, x23, x24, x25, x26, x27, x28, x29, x30, x31, x32, x33, x34, x35, x36, x37, x38, x39, x40, x41, x42, x43, x44, x45, x46, x47, x48, x49, x50, x51, x52, x53, x54, x55, x56, x57, x58, x59, x60, x61, x62, x63, x64, x65, x66, x67, x68, x69, x70, x71, x72, x73, x74, x75, x76, x77, x78, x79, x80, x81, x82, x83, x84, x85, x86, x87, x88]))] H := hP
  have hD : va_D A [(b0, .inr (12, [x0, x1, x2, x3, .int 0, .int 0, x6, x7, x8, x9, x10, x11, x12, x13, x14, x15, x16, x17, x18, x19, x20, x21, x22, x23, x24, x25, x26, x27, x28, x29, x30, x31, x32, x33, x34, x35, x36, x37, x38, x39, x40, x41, x42, x43, x44, x45, x46, x47, x48, x49, x50, x51, x52, x53, x54, x55, x56, x57, x58, x59, x60, x61, x62, x63, x64, x65, x66, x67, x68, x69, x70, x71, x72, x73, x74, x75, x76, x77, x78, x79, x80, x81, x82, x83, x84, x85, x86, x87, x88]))] := hD
  refine W.widen (k := 0) (n := 0) (Nat.le_of_ble_eq_true rfl) (Nat.le_of_ble_eq_true rfl) ?_
  have hw1 : r1 = -1 := hw1
  subst hw1
  refine lv_bipush (v := 32) hx hb dX12_token_5 (by decide) ?_
  refine lv_icmp_eq (tgt := 20) hx hb dX12_token_7 (by decide) (fun h => absurd h (by decide)) (fun _ => ?_)
  refine lv_aload_n hx hb dX12_token_10 rfl (lv_at hl 0 rfl) ?_
  refine lv_iconst (v := 0) hx hb dX12_token_11 (by decide) ?_
  refine x_callVi (q := (RX12, TX12, 89)) (ci := 12) (q0 := 0) (wr := []) (rest := []) ⟨hx, hb, hml, hown, hg, hl.1⟩ k_X12_170 (m_here l D cy b0 x0 x1 x2 x3 x6 x7 x8 x9 x10 x11 x12 x13 x14 x15 x16 x17 x18 x19 x20 x21 x22 x23 x24 x25 x26 x27 x28 x29 x30 x31 x32 x33 x34 x35 x36 x37 x38 x39 x40 x41 x42 x43 x44 x45 x46 x47 x48 x49 x50 x51 x52 x53 x54 x55 x56 x57 x58 x59 x60 x61 x62 x63 x64 x65 x66 x67 x68 x69 x70 x71 x72 x73 x74 x75 x76 x77 x78 x79 x80 x81 x82 x83 x84 x85 x86 x87 x88) E0_blind hK hP hD hS hA [0] [] ⟨rfl, rfl, by decide, by decide, by decide⟩ rfl rfl (fun _ _ _ => trivial) dX12_token_12 rfl rfl (Nat.le_of_ble_eq_true rfl) ⟨Nat.le_of_ble_eq_true rfl, Nat.le_of_ble_eq_true rfl⟩ ⟨Nat.le_of_ble_eq_true rfl, Nat.le_of_ble_eq_true rfl⟩ (fun r2 u2 H locs hw2 hP hD hS => ?_)
  have hP : va_P D vwCl [(b0, .inr (12, [x0, x1, x2, x3, .int 0, .int 0, x6, x7, x8, x9, x10, x11, x12, x13, x14, x15, x16, x17, x18, x19, x20, x21, x22, x23, x24, x25, x26, x27, x28, x29, x30, x31, x32, x33, x34, x35, x36, x37, x38, x39, x40, x41, x42, x43, x44, x45, x46, x47, x48, x49, x50, x51, x52, x53, x54, x55, x56, x57, x58, x59, x60, x61, x62, x63, x64, x65, x66, x67, x68, x69, x70, x71, x72, x73, x74, x75, x76, x77, x78, x79, x80, x81, x82, x83, x84, x85, x86, x87, x88]))] H := hP
  have hD : va_D A [(b0, .inr (12, [x0, x1, x2, x3, .int 0, .int 0, x6, x7, x8, x9, x10, x11, x12, x13, x14, x15, x16, x17, x18, x19, x20, x21, x22, x23, x24, x25, x26, x27, x28, x29, x30, x31, x32, x33, x34, x35, x36, x37, x38, x39, x40, x41, x42, x43, x44, x45, x46, x47, x48, x49, x50, x51, x52, x53, x54, x55, x56, x57, x58, x59, x60, x61, x62, x63, x64, x65, x66, x67, x68, x69, x70, x71, x72, x73, x74, x75, x76, x77, x78, x79, x80, x81, x82, x83, x84, x85, x86, x87, x88]))] := hD
  refine W.widen (k := 0) (n := 0) (Nat.le_of_ble_eq_true rfl) (Nat.le_of_ble_eq_true rfl) ?_
  have hw2 : r2 = -1 := hw2
  subst hw2
  refine lv_bipush (v := 10) hx hb dX12_token_15 (by decide) ?_
  refine lv_icmp_ne (tgt := 33) hx hb dX12_token_17 (by decide) (fun _ => ?_) (fun h => absurd h (by decide))
  refine lv_aload_n hx hb dX12_token_33 rfl (lv_at hl 0 rfl) ?_
  refine lv_aload_n hx hb dX12_token_34 rfl (lv_at hl 0 rfl) ?_
  refine va_get (D := D) (ci := 12) (v := .int 0) (C := RX12) (T := TX12) (N := 89) hx hb hg i_X12 hown hK hP 0 rfl rfl 4 (by decide) (hg _ m_1417) (fun _ h9 => h9) rfl dX12_token_35 ?_
  refine va_put (D := D) (ci := 12) (v := .int 0) (ty := .int) (C := RX12) (T := TX12) (N := 89) hx hb hg i_X12 tyX12 tyX12_ok nmX12 hown hK hP hD hS 0 rfl rfl 7 (by decide) (hg _ m_1420) (fun _ h9 => h9) rfl (by decide +kernel) rfl rfl (Nat.le_of_ble_eq_true rfl) dX12_token_38 (fun H locs hP hD hS => ?_)
  have hP : va_P D vwCl [(b0, .inr (12, [x0, x1, x2, x3, .int 0, .int 0, x6, .int 0, x8, x9, x10, x11, x12, x13, x14, x15, x16, x17, x18, x19, x20, x21, x22, x23, x24, x25, x26, x27, x28, x29, x30, x31, x32, x33, x34, x35, x36, x37, x38, x39, x40, x41, x42, x43, x44, x45, x46, x47, x48, x49, x50, x51, x52, x53, x54, x55, x56, x57, x58, x59, x60, x61, x62, x63, x64, x65, x66, x67, x68, x69, x70, x71, x72, x73, x74, x75, x76, x77, x78, x79, x80, x81, x82, x83, x84, x85, x86, x87, x88]))] H := hP
  have hD : va_D A [(b0, .inr (12, [x0, x1, x2, x3, .int 0, .int 0, x6, .int 0, x8, x9, x10, x11, x12, x13, x14, x15, x16, x17, x18, x19, x20, x21, x22, x23, x24, x25, x26, x27, x28, x29, x30, x31, x32, x33, x34, x35, x36, x37, x38, x39, x40, x41, x42, x43, x44, x45, x46, x47, x48, x49, x50, x51, x52, x53, x54, x55, x56, x57, x58, x59, x60, x61, x62, x63, x64, x65, x66, x67, x68, x69, x70, x71, x72, x73, x74, x75, x76, x77, x78, x79, x80, x81, x82, x83, x84, x85, x86, x87, x88]))] := hD
  refine lv_aload_n hx hb dX12_token_41 rfl (lv_at hl 0 rfl) ?_
  refine lv_iconst (v := 0) hx hb dX12_token_42 (by decide) ?_
  refine x_callVi (q := (RX12, TX12, 89)) (ci := 12) (q0 := 0) (wr := []) (rest := []) ⟨hx, hb, hml, hown, hg, hl.1⟩ k_X12_170 (m_here l D cy b0 x0 x1 x2 x3 x6 ((.int 0)) x8 x9 x10 x11 x12 x13 x14 x15 x16 x17 x18 x19 x20 x21 x22 x23 x24 x25 x26 x27 x28 x29 x30 x31 x32 x33 x34 x35 x36 x37 x38 x39 x40 x41 x42 x43 x44 x45 x46 x47 x48 x49 x50 x51 x52 x53 x54 x55 x56 x57 x58 x59 x60 x61 x62 x63 x64 x65 x66 x67 x68 x69 x70 x71 x72 x73 x74 x75 x76 x77 x78 x79 x80 x81 x82 x83 x84 x85 x86 x87 x88) E0_blind hK hP hD hS hA [0] [] ⟨rfl, rfl, by decide, by decide, by decide⟩ rfl rfl (fun _ _ _ => trivial) dX12_token_43 rfl rfl (Nat.le_of_ble_eq_true rfl) ⟨Nat.le_of_ble_eq_true rfl, Nat.le_of_ble_eq_true rfl⟩ ⟨Nat.le_of_ble_eq_true rfl, Nat.le_of_ble_eq_true rfl⟩ (fun r3 u3 H locs hw3 hP hD hS => ?_)
  have hP : va_P D vwCl [(b0, .inr (12, [x0, x1, x2, x3, .int 0, .int 0, x6, .int 0, x8, x9, x10, x11, x12, x13, x14, x15, x16, x17, x18, x19, x20, x21, x22, x23, x24, x25, x26, x27, x28, x29, x30, x31, x32, x33, x34, x35, x36, x37, x38, x39, x40, x41, x42, x43, x44, x45, x46, x47, x48, x49, x50, x51, x52, x53, x54, x55, x56, x57, x58, x59, x60, x61, x62, x63, x64, x65, x66, x67, x68, x69, x70, x71, x72, x73, x74, x75, x76, x77, x78, x79, x80, x81, x82, x83, x84, x85, x86, x87, x88]))] H := hP
  have hD : va_D A [(b0, .inr (12, [x0, x1, x2, x3, .int 0, .int 0, x6, .int 0, x8, x9, x10, x11, x12, x13, x14, x15, x16, x17, x18, x19, x20, x21, x22, x23, x24, x25, x26, x27, x28, x29, x30, x31, x32, x33, x34, x35, x36, x37, x38, x39, x40, x41, x42, x43, x44, x45, x46, x47, x48, x49, x50, x51, x52, x53, x54, x55, x56, x57, x58, x59, x60, x61, x62, x63, x64, x65, x66, x67, x68, x69, x70, x71, x72, x73, x74, x75, x76, x77, x78, x79, x80, x81, x82, x83, x84, x85, x86, x87, x88]))] := hD
  refine W.widen (k := 0) (n := 0) (Nat.le_of_ble_eq_true rfl) (Nat.le_of_ble_eq_true rfl) ?_
  have hw3 : r3 = -1 := hw3
  subst hw3
  refine lv_istore_n (lv' := [(1, .int (-1)), (0, .ref b0)]) hx hb dX12_token_46 rfl hl (by decide) rfl (fun ls hl => ?_)
  refine lv_iconst (v := 0) hx hb dX12_token_47 (by decide) ?_
  refine lv_istore_n (lv' := [(2, .int 0), (1, .int (-1)), (0, .ref b0)]) hx hb dX12_token_48 rfl hl (by decide) rfl (fun ls hl => ?_)
  refine lv_aload_n hx hb dX12_token_49 rfl (lv_at hl 2 rfl) ?_
  refine lv_lconst (v := 0) hx hb dX12_token_50 (by decide) ?_
  refine va_put (D := D) (ci := 12) (v := .long 0) (ty := .long) (C := RX12) (T := TX12) (N := 89) hx hb hg i_X12 tyX12 tyX12_ok nmX12 hown hK hP hD hS 0 rfl rfl 9 (by decide) (hg _ m_1422) (fun _ h9 => h9) rfl (by decide +kernel) rfl rfl (Nat.le_of_ble_eq_true rfl) dX12_token_51 (fun H locs hP hD hS => ?_)
  have hP : va_P D vwCl [(b0, .inr (12, [x0, x1, x2, x3, .int 0, .int 0, x6, .int 0, x8, .long 0, x10, x11, x12, x13, x14, x15, x16, x17, x18, x19, x20, x21, x22, x23, x24, x25, x26, x27, x28, x29, x30, x31, x32, x33, x34, x35, x36, x37, x38, x39, x40, x41, x42, x43, x44, x45, x46, x47, x48, x49, x50, x51, x52, x53, x54, x55, x56, x57, x58, x59, x60, x61, x62, x63, x64, x65, x66, x67, x68, x69, x70, x71, x72, x73, x74, x75, x76, x77, x78, x79, x80, x81, x82, x83, x84, x85, x86, x87, x88]))] H := hP
  have hD : va_D A [(b0, .inr (12, [x0, x1, x2, x3, .int 0, .int 0, x6, .int 0, x8, .long 0, x10, x11, x12, x13, x14, x15, x16, x17, x18, x19, x20, x21, x22, x23, x24, x25, x26, x27, x28, x29, x30, x31, x32, x33, x34, x35, x36, x37, x38, x39, x40, x41, x42, x43, x44, x45, x46, x47, x48, x49, x50, x51, x52, x53, x54, x55, x56, x57, x58, x59, x60, x61, x62, x63, x64, x65, x66, x67, x68, x69, x70, x71, x72, x73, x74, x75, x76, x77, x78, x79, x80, x81, x82, x83, x84, x85, x86, x87, x88]))] := hD
  refine lv_aload_n hx hb dX12_token_54 rfl (lv_at hl 2 rfl) ?_
  refine lv_iconst (v := 0) hx hb dX12_token_55 (by decide) ?_
  refine va_put (D := D) (ci := 12) (v := .int 0) (ty := .int) (C := RX12) (T := TX12) (N := 89) hx hb hg i_X12 tyX12 tyX12_ok nmX12 hown hK hP hD hS 0 rfl rfl 8 (by decide) (hg _ m_1421) (fun _ h9 => h9) rfl (by decide +kernel) rfl rfl (Nat.le_of_ble_eq_true rfl) dX12_token_56 (fun H locs hP hD hS => ?_)
  have hP : va_P D vwCl [(b0, .inr (12, [x0, x1, x2, x3, .int 0, .int 0, x6, .int 0, .int 0, .long 0, x10, x11, x12, x13, x14, x15, x16, x17, x18, x19, x20, x21, x22, x23, x24, x25, x26, x27, x28, x29, x30, x31, x32, x33, x34, x35, x36, x37, x38, x39, x40, x41, x42, x43, x44, x45, x46, x47, x48, x49, x50, x51, x52, x53, x54, x55, x56, x57, x58, x59, x60, x61, x62, x63, x64, x65, x66, x67, x68, x69, x70, x71, x72, x73, x74, x75, x76, x77, x78, x79, x80, x81, x82, x83, x84, x85, x86, x87, x88]))] H := hP
  have hD : va_D A [(b0, .inr (12, [x0, x1, x2, x3, .int 0, .int 0, x6, .int 0, .int 0, .long 0, x10, x11, x12, x13, x14, x15, x16, x17, x18, x19, x20, x21, x22, x23, x24, x25, x26, x27, x28, x29, x30, x31, x32, x33, x34, x35, x36, x37, x38, x39, x40, x41, x42, x43, x44, x45, x46, x47, x48, x49, x50, x51, x52, x53, x54, x55, x56, x57, x58, x59, x60, x61, x62, x63, x64, x65, x66, x67, x68, x69, x70, x71, x72, x73, x74, x75, x76, x77, x78, x79, x80, x81, x82, x83, x84, x85, x86, x87, x88]))] := hD
  refine lv_iload_n hx hb dX12_token_59 rfl (lv_at hl 1 rfl) ?_
  refine lv_if_ge (tgt := 71) hx hb dX12_token_60 (by decide) (fun h => absurd h (by decide)) (fun _ => ?_)
  refine lv_aload_n hx hb dX12_token_63 rfl (lv_at hl 2 rfl) ?_
  refine lv_iconst (v := 0) hx hb dX12_token_64 (by decide) ?_
  refine va_put (D := D) (ci := 12) (v := .int 0) (ty := .int) (C := RX12) (T := TX12) (N := 89) hx hb hg i_X12 tyX12 tyX12_ok nmX12 hown hK hP hD hS 0 rfl rfl 6 (by decide) (hg _ m_1419) (fun _ h9 => h9) rfl (by decide +kernel) rfl rfl (Nat.le_of_ble_eq_true rfl) dX12_token_65 (fun H locs hP hD hS => ?_)
  have hP : va_P D vwCl [(b0, .inr (12, [x0, x1, x2, x3, .int 0, .int 0, .int 0, .int 0, .int 0, .long 0, x10, x11, x12, x13, x14, x15, x16, x17, x18, x19, x20, x21, x22, x23, x24, x25, x26, x27, x28, x29, x30, x31, x32, x33, x34, x35, x36, x37, x38, x39, x40, x41, x42, x43, x44, x45, x46, x47, x48, x49, x50, x51, x52, x53, x54, x55, x56, x57, x58, x59, x60, x61, x62, x63, x64, x65, x66, x67, x68, x69, x70, x71, x72, x73, x74, x75, x76, x77, x78, x79, x80, x81, x82, x83, x84, x85, x86, x87, x88]))] H := hP
  have hD : va_D A [(b0, .inr (12, [x0, x1, x2, x3, .int 0, .int 0, .int 0, .int 0, .int 0, .long 0, x10, x11, x12, x13, x14, x15, x16, x17, x18, x19, x20, x21, x22, x23, x24, x25, x26, x27, x28, x29, x30, x31, x32, x33, x34, x35, x36, x37, x38, x39, x40, x41, x42, x43, x44, x45, x46, x47, x48, x49, x50, x51, x52, x53, x54, x55, x56, x57, x58, x59, x60, x61, x62, x63, x64, x65, x66, x67, x68, x69, x70, x71, x72, x73, x74, x75, x76, x77, x78, x79, x80, x81, x82, x83, x84, x85, x86, x87, x88]))] := hD
  refine lv_goto (tgt := 232) hx hb dX12_token_68 (by decide) ?_
  refine lv_aload_n hx hb dX12_token_232 rfl (lv_at hl 2 rfl) ?_
  refine va_get (D := D) (ci := 12) (v := .int 0) (C := RX12) (T := TX12) (N := 89) hx hb hg i_X12 hown hK hP 0 rfl rfl 6 (by decide) (hg _ m_1419) (fun _ h9 => h9) rfl dX12_token_233 ?_
  refine lv_iconst (v := 3) hx hb dX12_token_236 (by decide) ?_
  refine lv_icmp_eq (tgt := 250) hx hb dX12_token_237 (by decide) (fun h => absurd h (by decide)) (fun _ => ?_)
  refine lv_aload_n hx hb dX12_token_240 rfl (lv_at hl 2 rfl) ?_
  refine lv_dup hx hb dX12_token_241 rfl ?_
  refine va_get (D := D) (ci := 12) (v := .int 0) (C := RX12) (T := TX12) (N := 89) hx hb hg i_X12 hown hK hP 0 rfl rfl 4 (by decide) (hg _ m_1417) (fun _ h9 => h9) rfl dX12_token_242 ?_
  refine lv_iload_n hx hb dX12_token_245 rfl (lv_at hl 0 rfl) ?_
  refine lv_iadd hx hb dX12_token_246 ?_
  refine lv_topi (fun y_4 hy_4 => ?_)
  obtain rfl : y_4 = 0 := hy_4.trans (by decide +kernel)
  refine va_put (D := D) (ci := 12) (v := .int 0) (ty := .int) (C := RX12) (T := TX12) (N := 89) hx hb hg i_X12 tyX12 tyX12_ok nmX12 hown hK hP hD hS 0 rfl rfl 4 (by decide) (hg _ m_1417) (fun _ h9 => h9) rfl (by decide +kernel) rfl rfl (Nat.le_of_ble_eq_true rfl) dX12_token_247 (fun H locs hP hD hS => ?_)
  have hP : va_P D vwCl [(b0, .inr (12, [x0, x1, x2, x3, .int 0, .int 0, .int 0, .int 0, .int 0, .long 0, x10, x11, x12, x13, x14, x15, x16, x17, x18, x19, x20, x21, x22, x23, x24, x25, x26, x27, x28, x29, x30, x31, x32, x33, x34, x35, x36, x37, x38, x39, x40, x41, x42, x43, x44, x45, x46, x47, x48, x49, x50, x51, x52, x53, x54, x55, x56, x57, x58, x59, x60, x61, x62, x63, x64, x65, x66, x67, x68, x69, x70, x71, x72, x73, x74, x75, x76, x77, x78, x79, x80, x81, x82, x83, x84, x85, x86, x87, x88]))] H := hP
  have hD : va_D A [(b0, .inr (12, [x0, x1, x2, x3, .int 0, .int 0, .int 0, .int 0, .int 0, .long 0, x10, x11, x12, x13, x14, x15, x16, x17, x18, x19, x20, x21, x22, x23, x24, x25, x26, x27, x28, x29, x30, x31, x32, x33, x34, x35, x36, x37, x38, x39, x40, x41, x42, x43, x44, x45, x46, x47, x48, x49, x50, x51, x52, x53, x54, x55, x56, x57, x58, x59, x60, x61, x62, x63, x64, x65, x66, x67, x68, x69, x70, x71, x72, x73, x74, x75, x76, x77, x78, x79, x80, x81, x82, x83, x84, x85, x86, x87, x88]))] := hD
  exact x_vret hQ hx hb hr hlocks hK hP hD hS dX12_token_250 () (trivial) [0] (by decide) rfl (Nat.le_of_ble_eq_true rfl) (Nat.le_of_ble_eq_true rfl)
theorem dX12_readAll_0 : decode cX12_readAll 0 = .ok (.aload_n 0, 1) := by decide +kernel
theorem dX12_readAll_1 : decode cX12_readAll 1 = .ok (.aload_n 0, 1) := by decide +kernel
theorem dX12_readAll_2 : decode cX12_readAll 2 = .ok (.getfield 157, 3) := by decide +kernel
theorem dX12_readAll_5 : decode cX12_readAll 5 = .ok (.putfield 167, 3) := by decide +kernel
theorem dX12_readAll_8 : decode cX12_readAll 8 = .ok (.aload_n 0, 1) := by decide +kernel
theorem dX12_readAll_9 : decode cX12_readAll 9 = .ok (.iconst 0, 1) := by decide +kernel
theorem dX12_readAll_10 : decode cX12_readAll 10 = .ok (.putfield 157, 3) := by decide +kernel
theorem dX12_readAll_13 : decode cX12_readAll 13 = .ok (.aload_n 0, 1) := by decide +kernel
theorem dX12_readAll_14 : decode cX12_readAll 14 = .ok (.iconst 0, 1) := by decide +kernel
theorem dX12_readAll_15 : decode cX12_readAll 15 = .ok (.putfield 164, 3) := by decide +kernel
theorem dX12_readAll_18 : decode cX12_readAll 18 = .ok (.aload_n 0, 1) := by decide +kernel
theorem dX12_readAll_19 : decode cX12_readAll 19 = .ok (.iconst 0, 1) := by decide +kernel
theorem dX12_readAll_20 : decode cX12_readAll 20 = .ok (.putfield 197, 3) := by decide +kernel
theorem dX12_readAll_23 : decode cX12_readAll 23 = .ok (.aload_n 0, 1) := by decide +kernel
theorem dX12_readAll_24 : decode cX12_readAll 24 = .ok (.iconst (-1), 1) := by decide +kernel
theorem dX12_readAll_25 : decode cX12_readAll 25 = .ok (.putfield 13, 3) := by decide +kernel
theorem dX12_readAll_28 : decode cX12_readAll 28 = .ok (.aload_n 0, 1) := by decide +kernel
theorem dX12_readAll_29 : decode cX12_readAll 29 = .ok (.iconst 0, 1) := by decide +kernel
theorem dX12_readAll_30 : decode cX12_readAll 30 = .ok (.putfield 341, 3) := by decide +kernel
theorem m_1455 : (Cond.fieldLink RX12 341 "CliffJudgesModel" "nWords" "I") ∈ gT := gm 1455 (by decide +kernel) (by decide +kernel)
theorem dX12_readAll_33 : decode cX12_readAll 33 = .ok (.aload_n 0, 1) := by decide +kernel
theorem dX12_readAll_34 : decode cX12_readAll 34 = .ok (.iconst 0, 1) := by decide +kernel
theorem dX12_readAll_35 : decode cX12_readAll 35 = .ok (.putfield 351, 3) := by decide +kernel
theorem m_1456 : (Cond.fieldLink RX12 351 "CliffJudgesModel" "nCliffs" "I") ∈ gT := gm 1456 (by decide +kernel) (by decide +kernel)
theorem dX12_readAll_38 : decode cX12_readAll 38 = .ok (.aload_n 0, 1) := by decide +kernel
theorem dX12_readAll_39 : decode cX12_readAll 39 = .ok (.iconst 0, 1) := by decide +kernel
theorem dX12_readAll_40 : decode cX12_readAll 40 = .ok (.putfield 354, 3) := by decide +kernel
theorem m_1457 : (Cond.fieldLink RX12 354 "CliffJudgesModel" "nMen" "I") ∈ gT := gm 1457 (by decide +kernel) (by decide +kernel)
theorem dX12_readAll_43 : decode cX12_readAll 43 = .ok (.aload_n 0, 1) := by decide +kernel
theorem dX12_readAll_44 : decode cX12_readAll 44 = .ok (.iconst 0, 1) := by decide +kernel
theorem dX12_readAll_45 : decode cX12_readAll 45 = .ok (.putfield 357, 3) := by decide +kernel
theorem m_1458 : (Cond.fieldLink RX12 357 "CliffJudgesModel" "nStates" "I") ∈ gT := gm 1458 (by decide +kernel) (by decide +kernel)
theorem dX12_readAll_48 : decode cX12_readAll 48 = .ok (.aload_n 0, 1) := by decide +kernel
theorem dX12_readAll_49 : decode cX12_readAll 49 = .ok (.iconst 0, 1) := by decide +kernel
theorem dX12_readAll_50 : decode cX12_readAll 50 = .ok (.putfield 363, 3) := by decide +kernel
theorem m_1459 : (Cond.fieldLink RX12 363 "CliffJudgesModel" "nOns" "I") ∈ gT := gm 1459 (by decide +kernel) (by decide +kernel)
theorem dX12_readAll_53 : decode cX12_readAll 53 = .ok (.aload_n 0, 1) := by decide +kernel
theorem dX12_readAll_54 : decode cX12_readAll 54 = .ok (.iconst 0, 1) := by decide +kernel
theorem dX12_readAll_55 : decode cX12_readAll 55 = .ok (.putfield 388, 3) := by decide +kernel
theorem m_1460 : (Cond.fieldLink RX12 388 "CliffJudgesModel" "nWind" "I") ∈ gT := gm 1460 (by decide +kernel) (by decide +kernel)
theorem dX12_readAll_58 : decode cX12_readAll 58 = .ok (.aload_n 0, 1) := by decide +kernel
theorem dX12_readAll_59 : decode cX12_readAll 59 = .ok (.iconst 0, 1) := by decide +kernel
theorem dX12_readAll_60 : decode cX12_readAll 60 = .ok (.putfield 394, 3) := by decide +kernel
theorem m_1461 : (Cond.fieldLink RX12 394 "CliffJudgesModel" "nDraw" "I") ∈ gT := gm 1461 (by decide +kernel) (by decide +kernel)
theorem dX12_readAll_63 : decode cX12_readAll 63 = .ok (.aload_n 0, 1) := by decide +kernel
theorem dX12_readAll_64 : decode cX12_readAll 64 = .ok (.iconst 0, 1) := by decide +kernel
theorem dX12_readAll_65 : decode cX12_readAll 65 = .ok (.putfield 384, 3) := by decide +kernel
theorem m_1468 : (Cond.fieldLink RX12 384 "CliffJudgesModel" "nHasWind" "Z") ∈ gT := gm 1468 (by decide +kernel) (by decide +kernel)
theorem dX12_readAll_68 : decode cX12_readAll 68 = .ok (.aload_n 0, 1) := by decide +kernel
theorem dX12_readAll_69 : decode cX12_readAll 69 = .ok (.iconst 0, 1) := by decide +kernel
theorem dX12_readAll_70 : decode cX12_readAll 70 = .ok (.putfield 391, 3) := by decide +kernel
theorem m_1469 : (Cond.fieldLink RX12 391 "CliffJudgesModel" "nHasDraw" "Z") ∈ gT := gm 1469 (by decide +kernel) (by decide +kernel)
theorem dX12_readAll_73 : decode cX12_readAll 73 = .ok (.aload_n 0, 1) := by decide +kernel
theorem dX12_readAll_74 : decode cX12_readAll 74 = .ok (.iconst 0, 1) := by decide +kernel
theorem dX12_readAll_75 : decode cX12_readAll 75 = .ok (.putfield 296, 3) := by decide +kernel
theorem m_1436 : (Cond.fieldLink RX12 296 "CliffJudgesModel" "nUnits" "I") ∈ gT := gm 1436 (by decide +kernel) (by decide +kernel)
theorem dX12_readAll_78 : decode cX12_readAll 78 = .ok (.iconst 0, 1) := by decide +kernel
theorem dX12_readAll_79 : decode cX12_readAll 79 = .ok (.istore_n 1, 1) := by decide +kernel
theorem dX12_readAll_80 : decode cX12_readAll 80 = .ok (.iload_n 1, 1) := by decide +kernel
theorem dX12_readAll_81 : decode cX12_readAll 81 = .ok (.iconst 3, 1) := by decide +kernel
theorem dX12_readAll_82 : decode cX12_readAll 82 = .ok (.if_icmp .ge 16, 3) := by decide +kernel
theorem dX12_readAll_98 : decode cX12_readAll 98 = .ok (.aload_n 0, 1) := by decide +kernel
theorem dX12_readAll_99 : decode cX12_readAll 99 = .ok (.invokevirtual 259, 3) := by decide +kernel
theorem m_1702 : (Cond.methodLink RX12 259 yX12_token) ∈ gT := gm 1702 (by decide +kernel) (by decide +kernel)
theorem m_1704 : (Cond.instanceMethod yX12_token) ∈ gT := gm 1704 (by decide +kernel) (by decide +kernel)
theorem m_65 : (Cond.selects RX12 yX12_token yX12_token) ∈ gT := gm 65 (by decide +kernel) (by decide +kernel)
theorem m_1705 : (Cond.code yX12_token cX12_token 3 none) ∈ gT := gm 1705 (by decide +kernel) (by decide +kernel)
theorem k_X12_259 : xV RX12 RX12 259 yX12_token cX12_token 3 none 0 := ⟨⟨m_1702, m_1704, m_65, m_146, m_1705⟩, rfl, by decide, by decide, by decide +kernel⟩
theorem dX12_readAll_102 : decode cX12_readAll 102 = .ok (.aload_n 0, 1) := by decide +kernel
theorem dX12_readAll_103 : decode cX12_readAll 103 = .ok (.getfield 197, 3) := by decide +kernel
theorem dX12_readAll_106 : decode cX12_readAll 106 = .ok (.ifCond .ne 17, 3) := by decide +kernel
theorem dX12_readAll_109 : decode cX12_readAll 109 = .ok (.aload_n 0, 1) := by decide +kernel
theorem dX12_readAll_110 : decode cX12_readAll 110 = .ok (.getfield 184, 3) := by decide +kernel
theorem dX12_readAll_113 : decode cX12_readAll 113 = .ok (.ifCond .eq 10, 3) := by decide +kernel
theorem dX12_readAll_123 : decode cX12_readAll 123 = .ok (.return_, 1) := by decide +kernel
theorem dX12_readAll_85 : decode cX12_readAll 85 = .ok (.aload_n 0, 1) := by decide +kernel
theorem dX12_readAll_86 : decode cX12_readAll 86 = .ok (.getfield 45, 3) := by decide +kernel
theorem m_1432 : (Cond.fieldLink RX12 45 "CliffJudgesModel" "nHasForm" "[Z") ∈ gT := gm 1432 (by decide +kernel) (by decide +kernel)
theorem dX12_readAll_89 : decode cX12_readAll 89 = .ok (.iload_n 1, 1) := by decide +kernel
theorem dX12_readAll_90 : decode cX12_readAll 90 = .ok (.iconst 0, 1) := by decide +kernel
theorem dX12_readAll_91 : decode cX12_readAll 91 = .ok (.bastore, 1) := by decide +kernel
theorem dX12_readAll_92 : decode cX12_readAll 92 = .ok (.iinc 1 1, 3) := by decide +kernel
theorem dX12_readAll_95 : decode cX12_readAll 95 = .ok (.goto (-15), 3) := by decide +kernel
set_option maxHeartbeats 400000 in
set_option maxRecDepth 100000 in
theorem m_readAll (l : Launch) (D : va_G) (cy : Nat → ClassId) (b0 : Nat) (x0 : Value) (x10 : Value) (x11 : Value) (x12 : Value) (x13 : Value) (x14 : Value) (x15 : Value) (x16 : Value) (x17 : Value) (x18 : Value) (x20 : Value) (x21 : Value) (x22 : Value) (x24 : Value) (x25 : Value) (x26 : Value) (x27 : Value) (x28 : Value) (x29 : Value) (x30 : Value) (x31 : Value) (x32 : Value) (x33 : Value) (x34 : Value) (x35 : Value) (x36 : Value) (x37 : Value) (x38 : Value) (x39 : Value) (x40 : Value) (x41 : Value) (x49 : Value) (x50 : Value) (x51 : Value) (x52 : Value) (x53 : Value) (x54 : Value) (x57 : Value) (x58 : Value) (x59 : Value) (x60 : Value) (x61 : Value) (x62 : Value) (x63 : Value) (x64 : Value) (x65 : Value) (x66 : Value) (x67 : Value) (x68 : Value) (x69 : Value) (x70 : Value) (x71 : Value) (x72 : Value) (x73 : Value) (x74 : Value) (x75 : Value) (x76 : Value) (x77 : Value) (x78 : Value) (x79 : Value) (x80 : Value) (x81 : Value) (x82 : Value) (x83 : Value) (x84 : Value) (x85 : Value) (x86 : Value) (x87 : Value) (x88 : Value) (b_nHasForm : Nat)  : XMv l D (tyL cy) E0 yX12_readAll cX12_readAll 2 none (rmk 2 0 0) [.ref b0] [(b0, .inr (12, [x0, .int 0, .int 0, .int (-1), .int 0, .int 0, .int 0, .int 0, .int 0, .long 0, x10, x11, x12, x13, x14, x15, x16, x17, x18, .ref b_nHasForm, x20, x21, x22, .int 0, x24, x25, x26, x27, x28, x29, x30, x31, x32, x33, x34, x35, x36, x37, x38, x39, x40, x41, .int 0, .int 0, .int 0, .int 0, .int 0, .int 0, .int 0, x49, x50, x51, x52, x53, x54, .int 0, .int 0, x57, x58, x59, x60, x61, x62, x63, x64, x65, x66, x67, x68, x69, x70, x71, x72, x73, x74, x75, x76, x77, x78, x79, x80, x81, x82, x83, x84, x85, x86, x87, x88])), (b_nHasForm, .inl (cy 3, 3, .inl (fun _ => 0)))] (fun (_ : Unit) => True) (fun (_ : Unit) => [(b0, .inr (12, [x0, .int 0, .int 0, .int (-1), .int 0, .int 0, .int 0, .int 0, .int 0, .long 0, x10, x11, x12, x13, x14, x15, x16, x17, x18, .ref b_nHasForm, x20, x21, x22, .int 0, x24, x25, x26, x27, x28, x29, x30, x31, x32, x33, x34, x35, x36, x37, x38, x39, x40, x41, .int 0, .int 0, .int 0, .int 0, .int 0, .int 0, .int 0, x49, x50, x51, x52, x53, x54, .int 0, .int 0, x57, x58, x59, x60, x61, x62, x63, x64, x65, x66, x67, x68, x69, x70, x71, x72, x73, x74, x75, x76, x77, x78, x79, x80, x81, x82, x83, x84, x85, x86, x87, x88])), (b_nHasForm, .inl (cy 3, 3, .inl (fun _ => 0)))]) := by
  refine XMv.start (by decide) (Nat.le_of_ble_eq_true rfl) ?_
  intro p e s m below meth c args A ls Q hat hQ
  obtain ⟨hx, hb, hr, hml, hown, hg, hlocks, hin, hK, hA, hP, hD, hS, hE, hl⟩ := hat
  have hown : s.vm.findClass RX12 = some m.cls := hown
  have hl : lv_has ls 2 [(0, .ref b0)] := hl
  refine lv_aload_n hx hb dX12_readAll_0 rfl (lv_at hl 0 rfl) ?_
  refine lv_aload_n hx hb dX12_readAll_1 rfl (lv_at hl 0 rfl) ?_
  refine va_get (D := D) (ci := 12) (v := .int 0) (C := RX12) (T := TX12) (N := 89) hx hb hg i_X12 hown hK hP 0 rfl rfl 1 (by decide) (hg _ m_1414) (fun _ h9 => h9) rfl dX12_readAll_2 ?_
  refine va_put (D := D) (ci := 12) (v := .int 0) (ty := .int) (C := RX12) (T := TX12) (N := 89) hx hb hg i_X12 tyX12 tyX12_ok nmX12 hown hK hP hD hS 0 rfl rfl 5 (by decide) (hg _ m_1418) (fun _ h9 => h9) rfl (by decide +kernel) rfl rfl (Nat.le_of_ble_eq_true rfl) dX12_readAll_5 (fun H locs hP hD hS => ?_)
  have hP : va_P D vwCl [(b0, .inr (12, [x0, .int 0, .int 0, .int (-1), .int 0, .int 0, .int 0, .int 0, .int 0, .long 0, x10, x11, x12, x13, x14, x15, x16, x17, x18, .ref b_nHasForm, x20, x21, x22, .int 0, x24, x25, x26, x27, x28, x29, x30, x31, x32, x33, x34, x35, x36, x37, x38, x39, x40, x41, .int 0, .int 0, .int 0, .int 0, .int 0, .int 0, .int 0, x49, x50, x51, x52, x53, x54, .int 0, .int 0, x57, x58, x59, x60, x61, x62, x63, x64, x65, x66, x67, x68, x69, x70, x71, x72, x73, x74, x75, x76, x77, x78, x79, x80, x81, x82, x83, x84, x85, x86, x87, x88])), (b_nHasForm, .inl (cy 3, 3, .inl (fun _ => 0)))] H := hP
  have hD : va_D A [(b0, .inr (12, [x0, .int 0, .int 0, .int (-1), .int 0, .int 0, .int 0, .int 0, .int 0, .long 0, x10, x11, x12, x13, x14, x15, x16, x17, x18, .ref b_nHasForm, x20, x21, x22, .int 0, x24, x25, x26, x27, x28, x29, x30, x31, x32, x33, x34, x35, x36, x37, x38, x39, x40, x41, .int 0, .int 0, .int 0, .int 0, .int 0, .int 0, .int 0, x49, x50, x51, x52, x53, x54, .int 0, .int 0, x57, x58, x59, x60, x61, x62, x63, x64, x65, x66, x67, x68, x69, x70, x71, x72, x73, x74, x75, x76, x77, x78, x79, x80, x81, x82, x83, x84, x85, x86, x87, x88])), (b_nHasForm, .inl (cy 3, 3, .inl (fun _ => 0)))] := hD
  refine lv_aload_n hx hb dX12_readAll_8 rfl (lv_at hl 0 rfl) ?_
  refine lv_iconst (v := 0) hx hb dX12_readAll_9 (by decide) ?_
  refine va_put (D := D) (ci := 12) (v := .int 0) (ty := .int) (C := RX12) (T := TX12) (N := 89) hx hb hg i_X12 tyX12 tyX12_ok nmX12 hown hK hP hD hS 0 rfl rfl 1 (by decide) (hg _ m_1414) (fun _ h9 => h9) rfl (by decide +kernel) rfl rfl (Nat.le_of_ble_eq_true rfl) dX12_readAll_10 (fun H locs hP hD hS => ?_)
  have hP : va_P D vwCl [(b0, .inr (12, [x0, .int 0, .int 0, .int (-1), .int 0, .int 0, .int 0, .int 0, .int 0, .long 0, x10, x11, x12, x13, x14, x15, x16, x17, x18, .ref b_nHasForm, x20, x21, x22, .int 0, x24, x25, x26, x27, x28, x29, x30, x31, x32, x33, x34, x35, x36, x37, x38, x39, x40, x41, .int 0, .int 0, .int 0, .int 0, .int 0, .int 0, .int 0, x49, x50, x51, x52, x53, x54, .int 0, .int 0, x57, x58, x59, x60, x61, x62, x63, x64, x65, x66, x67, x68, x69, x70, x71, x72, x73, x74, x75, x76, x77, x78, x79, x80, x81, x82, x83, x84, x85, x86, x87, x88])), (b_nHasForm, .inl (cy 3, 3, .inl (fun _ => 0)))] H := hP
  have hD : va_D A [(b0, .inr (12, [x0, .int 0, .int 0, .int (-1), .int 0, .int 0, .int 0, .int 0, .int 0, .long 0, x10, x11, x12, x13, x14, x15, x16, x17, x18, .ref b_nHasForm, x20, x21, x22, .int 0, x24, x25, x26, x27, x28, x29, x30, x31, x32, x33, x34, x35, x36, x37, x38, x39, x40, x41, .int 0, .int 0, .int 0, .int 0, .int 0, .int 0, .int 0, x49, x50, x51, x52, x53, x54, .int 0, .int 0, x57, x58, x59, x60, x61, x62, x63, x64, x65, x66, x67, x68, x69, x70, x71, x72, x73, x74, x75, x76, x77, x78, x79, x80, x81, x82, x83, x84, x85, x86, x87, x88])), (b_nHasForm, .inl (cy 3, 3, .inl (fun _ => 0)))] := hD
  refine lv_aload_n hx hb dX12_readAll_13 rfl (lv_at hl 0 rfl) ?_
  refine lv_iconst (v := 0) hx hb dX12_readAll_14 (by decide) ?_
  refine va_put (D := D) (ci := 12) (v := .int 0) (ty := .int) (C := RX12) (T := TX12) (N := 89) hx hb hg i_X12 tyX12 tyX12_ok nmX12 hown hK hP hD hS 0 rfl rfl 4 (by decide) (hg _ m_1417) (fun _ h9 => h9) rfl (by decide +kernel) rfl rfl (Nat.le_of_ble_eq_true rfl) dX12_readAll_15 (fun H locs hP hD hS => ?_)
  have hP : va_P D vwCl [(b0, .inr (12, [x0, .int 0, .int 0, .int (-1), .int 0, .int 0, .int 0, .int 0, .int 0, .long 0, x10, x11, x12, x13, x14, x15, x16, x17, x18, .ref b_nHasForm, x20, x21, x22, .int 0, x24, x25, x26, x27, x28, x29, x30, x31, x32, x33, x34, x35, x36, x37, x38, x39, x40, x41, .int 0, .int 0, .int 0, .int 0, .int 0, .int 0, .int 0, x49, x50, x51, x52, x53, x54, .int 0, .int 0, x57, x58, x59, x60, x61, x62, x63, x64, x65, x66, x67, x68, x69, x70, x71, x72, x73, x74, x75, x76, x77, x78, x79, x80, x81, x82, x83, x84, x85, x86, x87, x88])), (b_nHasForm, .inl (cy 3, 3, .inl (fun _ => 0)))] H := hP
  have hD : va_D A [(b0, .inr (12, [x0, .int 0, .int 0, .int (-1), .int 0, .int 0, .int 0, .int 0, .int 0, .long 0, x10, x11, x12, x13, x14, x15, x16, x17, x18, .ref b_nHasForm, x20, x21, x22, .int 0, x24, x25, x26, x27, x28, x29, x30, x31, x32, x33, x34, x35, x36, x37, x38, x39, x40, x41, .int 0, .int 0, .int 0, .int 0, .int 0, .int 0, .int 0, x49, x50, x51, x52, x53, x54, .int 0, .int 0, x57, x58, x59, x60, x61, x62, x63, x64, x65, x66, x67, x68, x69, x70, x71, x72, x73, x74, x75, x76, x77, x78, x79, x80, x81, x82, x83, x84, x85, x86, x87, x88])), (b_nHasForm, .inl (cy 3, 3, .inl (fun _ => 0)))] := hD
  refine lv_aload_n hx hb dX12_readAll_18 rfl (lv_at hl 0 rfl) ?_
  refine lv_iconst (v := 0) hx hb dX12_readAll_19 (by decide) ?_
  refine va_put (D := D) (ci := 12) (v := .int 0) (ty := .int) (C := RX12) (T := TX12) (N := 89) hx hb hg i_X12 tyX12 tyX12_ok nmX12 hown hK hP hD hS 0 rfl rfl 2 (by decide) (hg _ m_1415) (fun _ h9 => h9) rfl (by decide +kernel) rfl rfl (Nat.le_of_ble_eq_true rfl) dX12_readAll_20 (fun H locs hP hD hS => ?_)
  have hP : va_P D vwCl [(b0, .inr (12, [x0, .int 0, .int 0, .int (-1), .int 0, .int 0, .int 0, .int 0, .int 0, .long 0, x10, x11, x12, x13, x14, x15, x16, x17, x18, .ref b_nHasForm, x20, x21, x22, .int 0, x24, x25, x26, x27, x28, x29, x30, x31, x32, x33, x34, x35, x36, x37, x38, x39, x40, x41, .int 0, .int 0, .int 0, .int 0, .int 0, .int 0, .int 0, x49, x50, x51, x52, x53, x54, .int 0, .int 0, x57, x58, x59, x60, x61, x62, x63, x64, x65, x66, x67, x68, x69, x70, x71, x72, x73, x74, x75, x76, x77, x78, x79, x80, x81, x82, x83, x84, x85, x86, x87, x88])), (b_nHasForm, .inl (cy 3, 3, .inl (fun _ => 0)))] H := hP
  have hD : va_D A [(b0, .inr (12, [x0, .int 0, .int 0, .int (-1), .int 0, .int 0, .int 0, .int 0, .int 0, .long 0, x10, x11, x12, x13, x14, x15, x16, x17, x18, .ref b_nHasForm, x20, x21, x22, .int 0, x24, x25, x26, x27, x28, x29, x30, x31, x32, x33, x34, x35, x36, x37, x38, x39, x40, x41, .int 0, .int 0, .int 0, .int 0, .int 0, .int 0, .int 0, x49, x50, x51, x52, x53, x54, .int 0, .int 0, x57, x58, x59, x60, x61, x62, x63, x64, x65, x66, x67, x68, x69, x70, x71, x72, x73, x74, x75, x76, x77, x78, x79, x80, x81, x82, x83, x84, x85, x86, x87, x88])), (b_nHasForm, .inl (cy 3, 3, .inl (fun _ => 0)))] := hD
  refine lv_aload_n hx hb dX12_readAll_23 rfl (lv_at hl 0 rfl) ?_
  refine lv_iconst (v := -1) hx hb dX12_readAll_24 (by decide) ?_
  refine va_put (D := D) (ci := 12) (v := .int (-1)) (ty := .int) (C := RX12) (T := TX12) (N := 89) hx hb hg i_X12 tyX12 tyX12_ok nmX12 hown hK hP hD hS 0 rfl rfl 3 (by decide) (hg _ m_1416) (fun _ h9 => h9) rfl (by decide +kernel) rfl rfl (Nat.le_of_ble_eq_true rfl) dX12_readAll_25 (fun H locs hP hD hS => ?_)
  have hP : va_P D vwCl [(b0, .inr (12, [x0, .int 0, .int 0, .int (-1), .int 0, .int 0, .int 0, .int 0, .int 0, .long 0, x10, x11, x12, x13, x14, x15, x16, x17, x18, .ref b_nHasForm, x20, x21, x22, .int 0, x24, x25, x26, x27, x28, x29, x30, x31, x32, x33, x34, x35, x36, x37, x38, x39, x40, x41, .int 0, .int 0, .int 0, .int 0, .int 0, .int 0, .int 0, x49, x50, x51, x52, x53, x54, .int 0, .int 0, x57, x58, x59, x60, x61, x62, x63, x64, x65, x66, x67, x68, x69, x70, x71, x72, x73, x74, x75, x76, x77, x78, x79, x80, x81, x82, x83, x84, x85, x86, x87, x88])), (b_nHasForm, .inl (cy 3, 3, .inl (fun _ => 0)))] H := hP
  have hD : va_D A [(b0, .inr (12, [x0, .int 0, .int 0, .int (-1), .int 0, .int 0, .int 0, .int 0, .int 0, .long 0, x10, x11, x12, x13, x14, x15, x16, x17, x18, .ref b_nHasForm, x20, x21, x22, .int 0, x24, x25, x26, x27, x28, x29, x30, x31, x32, x33, x34, x35, x36, x37, x38, x39, x40, x41, .int 0, .int 0, .int 0, .int 0, .int 0, .int 0, .int 0, x49, x50, x51, x52, x53, x54, .int 0, .int 0, x57, x58, x59, x60, x61, x62, x63, x64, x65, x66, x67, x68, x69, x70, x71, x72, x73, x74, x75, x76, x77, x78, x79, x80, x81, x82, x83, x84, x85, x86, x87, x88])), (b_nHasForm, .inl (cy 3, 3, .inl (fun _ => 0)))] := hD
  refine lv_aload_n hx hb dX12_readAll_28 rfl (lv_at hl 0 rfl) ?_
  refine lv_iconst (v := 0) hx hb dX12_readAll_29 (by decide) ?_
  refine va_put (D := D) (ci := 12) (v := .int 0) (ty := .int) (C := RX12) (T := TX12) (N := 89) hx hb hg i_X12 tyX12 tyX12_ok nmX12 hown hK hP hD hS 0 rfl rfl 42 (by decide) (hg _ m_1455) (fun _ h9 => h9) rfl (by decide +kernel) rfl rfl (Nat.le_of_ble_eq_true rfl) dX12_readAll_30 (fun H locs hP hD hS => ?_)
  have hP : va_P D vwCl [(b0, .inr (12, [x0, .int 0, .int 0, .int (-1), .int 0, .int 0, .int 0, .int 0, .int 0, .long 0, x10, x11, x12, x13, x14, x15, x16, x17, x18, .ref b_nHasForm, x20, x21, x22, .int 0, x24, x25, x26, x27, x28, x29, x30, x31, x32, x33, x34, x35, x36, x37, x38, x39, x40, x41, .int 0, .int 0, .int 0, .int 0, .int 0, .int 0, .int 0, x49, x50, x51, x52, x53, x54, .int 0, .int 0, x57, x58, x59, x60, x61, x62, x63, x64, x65, x66, x67, x68, x69, x70, x71, x72, x73, x74, x75, x76, x77, x78, x79, x80, x81, x82, x83, x84, x85, x86, x87, x88])), (b_nHasForm, .inl (cy 3, 3, .inl (fun _ => 0)))] H := hP
  have hD : va_D A [(b0, .inr (12, [x0, .int 0, .int 0, .int (-1), .int 0, .int 0, .int 0, .int 0, .int 0, .long 0, x10, x11, x12, x13, x14, x15, x16, x17, x18, .ref b_nHasForm, x20, x21, x22, .int 0, x24, x25, x26, x27, x28, x29, x30, x31, x32, x33, x34, x35, x36, x37, x38, x39, x40, x41, .int 0, .int 0, .int 0, .int 0, .int 0, .int 0, .int 0, x49, x50, x51, x52, x53, x54, .int 0, .int 0, x57, x58, x59, x60, x61, x62, x63, x64, x65, x66, x67, x68, x69, x70, x71, x72, x73, x74, x75, x76, x77, x78, x79, x80, x81, x82, x83, x84, x85, x86, x87, x88])), (b_nHasForm, .inl (cy 3, 3, .inl (fun _ => 0)))] := hD
  refine lv_aload_n hx hb dX12_readAll_33 rfl (lv_at hl 0 rfl) ?_
  refine lv_iconst (v := 0) hx hb dX12_readAll_34 (by decide) ?_
  refine va_put (D := D) (ci := 12) (v := .int 0) (ty := .int) (C := RX12) (T := TX12) (N := 89) hx hb hg i_X12 tyX12 tyX12_ok nmX12 hown hK hP hD hS 0 rfl rfl 43 (by decide) (hg _ m_1456) (fun _ h9 => h9) rfl (by decide +kernel) rfl rfl (Nat.le_of_ble_eq_true rfl) dX12_readAll_35 (fun H locs hP hD hS => ?_)
  have hP : va_P D vwCl [(b0, .inr (12, [x0, .int 0, .int 0, .int (-1), .int 0, .int 0, .int 0, .int 0, .int 0, .long 0, x10, x11, x12, x13, x14, x15, x16, x17, x18, .ref b_nHasForm, x20, x21, x22, .int 0, x24, x25, x26, x27, x28, x29, x30, x31, x32, x33, x34, x35, x36, x37, x38, x39, x40, x41, .int 0, .int 0, .int 0, .int 0, .int 0, .int 0, .int 0, x49, x50, x51, x52, x53, x54, .int 0, .int 0, x57, x58, x59, x60, x61, x62, x63, x64, x65, x66, x67, x68, x69, x70, x71, x72, x73, x74, x75, x76, x77, x78, x79, x80, x81, x82, x83, x84, x85, x86, x87, x88])), (b_nHasForm, .inl (cy 3, 3, .inl (fun _ => 0)))] H := hP
  have hD : va_D A [(b0, .inr (12, [x0, .int 0, .int 0, .int (-1), .int 0, .int 0, .int 0, .int 0, .int 0, .long 0, x10, x11, x12, x13, x14, x15, x16, x17, x18, .ref b_nHasForm, x20, x21, x22, .int 0, x24, x25, x26, x27, x28, x29, x30, x31, x32, x33, x34, x35, x36, x37, x38, x39, x40, x41, .int 0, .int 0, .int 0, .int 0, .int 0, .int 0, .int 0, x49, x50, x51, x52, x53, x54, .int 0, .int 0, x57, x58, x59, x60, x61, x62, x63, x64, x65, x66, x67, x68, x69, x70, x71, x72, x73, x74, x75, x76, x77, x78, x79, x80, x81, x82, x83, x84, x85, x86, x87, x88])), (b_nHasForm, .inl (cy 3, 3, .inl (fun _ => 0)))] := hD
  refine lv_aload_n hx hb dX12_readAll_38 rfl (lv_at hl 0 rfl) ?_
  refine lv_iconst (v := 0) hx hb dX12_readAll_39 (by decide) ?_
  refine va_put (D := D) (ci := 12) (v := .int 0) (ty := .int) (C := RX12) (T := TX12) (N := 89) hx hb hg i_X12 tyX12 tyX12_ok nmX12 hown hK hP hD hS 0 rfl rfl 44 (by decide) (hg _ m_1457) (fun _ h9 => h9) rfl (by decide +kernel) rfl rfl (Nat.le_of_ble_eq_true rfl) dX12_readAll_40 (fun H locs hP hD hS => ?_)
  have hP : va_P D vwCl [(b0, .inr (12, [x0, .int 0, .int 0, .int (-1), .int 0, .int 0, .int 0, .int 0, .int 0, .long 0, x10, x11, x12, x13, x14, x15, x16, x17, x18, .ref b_nHasForm, x20, x21, x22, .int 0, x24, x25, x26, x27, x28, x29, x30, x31, x32, x33, x34, x35, x36, x37, x38, x39, x40, x41, .int 0, .int 0, .int 0, .int 0, .int 0, .int 0, .int 0, x49, x50, x51, x52, x53, x54, .int 0, .int 0, x57, x58, x59, x60, x61, x62, x63, x64, x65, x66, x67, x68, x69, x70, x71, x72, x73, x74, x75, x76, x77, x78, x79, x80, x81, x82, x83, x84, x85, x86, x87, x88])), (b_nHasForm, .inl (cy 3, 3, .inl (fun _ => 0)))] H := hP
  have hD : va_D A [(b0, .inr (12, [x0, .int 0, .int 0, .int (-1), .int 0, .int 0, .int 0, .int 0, .int 0, .long 0, x10, x11, x12, x13, x14, x15, x16, x17, x18, .ref b_nHasForm, x20, x21, x22, .int 0, x24, x25, x26, x27, x28, x29, x30, x31, x32, x33, x34, x35, x36, x37, x38, x39, x40, x41, .int 0, .int 0, .int 0, .int 0, .int 0, .int 0, .int 0, x49, x50, x51, x52, x53, x54, .int 0, .int 0, x57, x58, x59, x60, x61, x62, x63, x64, x65, x66, x67, x68, x69, x70, x71, x72, x73, x74, x75, x76, x77, x78, x79, x80, x81, x82, x83, x84, x85, x86, x87, x88])), (b_nHasForm, .inl (cy 3, 3, .inl (fun _ => 0)))] := hD
  refine lv_aload_n hx hb dX12_readAll_43 rfl (lv_at hl 0 rfl) ?_
  refine lv_iconst (v := 0) hx hb dX12_readAll_44 (by decide) ?_
  refine va_put (D := D) (ci := 12) (v := .int 0) (ty := .int) (C := RX12) (T := TX12) (N := 89) hx hb hg i_X12 tyX12 tyX12_ok nmX12 hown hK hP hD hS 0 rfl rfl 45 (by decide) (hg _ m_1458) (fun _ h9 => h9) rfl (by decide +kernel) rfl rfl (Nat.le_of_ble_eq_true rfl) dX12_readAll_45 (fun H locs hP hD hS => ?_)
  have hP : va_P D vwCl [(b0, .inr (12, [x0, .int 0, .int 0, .int (-1), .int 0, .int 0, .int 0, .int 0, .int 0, .long 0, x10, x11, x12, x13, x14, x15, x16, x17, x18, .ref b_nHasForm, x20, x21, x22, .int 0, x24, x25, x26, x27, x28, x29, x30, x31, x32, x33, x34, x35, x36, x37, x38, x39, x40, x41, .int 0, .int 0, .int 0, .int 0, .int 0, .int 0, .int 0, x49, x50, x51, x52, x53, x54, .int 0, .int 0, x57, x58, x59, x60, x61, x62, x63, x64, x65, x66, x67, x68, x69, x70, x71, x72, x73, x74, x75, x76, x77, x78, x79, x80, x81, x82, x83, x84, x85, x86, x87, x88])), (b_nHasForm, .inl (cy 3, 3, .inl (fun _ => 0)))] H := hP
  have hD : va_D A [(b0, .inr (12, [x0, .int 0, .int 0, .int (-1), .int 0, .int 0, .int 0, .int 0, .int 0, .long 0, x10, x11, x12, x13, x14, x15, x16, x17, x18, .ref b_nHasForm, x20, x21, x22, .int 0, x24, x25, x26, x27, x28, x29, x30, x31, x32, x33, x34, x35, x36, x37, x38, x39, x40, x41, .int 0, .int 0, .int 0, .int 0, .int 0, .int 0, .int 0, x49, x50, x51, x52, x53, x54, .int 0, .int 0, x57, x58, x59, x60, x61, x62, x63, x64, x65, x66, x67, x68, x69, x70, x71, x72, x73, x74, x75, x76, x77, x78, x79, x80, x81, x82, x83, x84, x85, x86, x87, x88])), (b_nHasForm, .inl (cy 3, 3, .inl (fun _ => 0)))] := hD
  refine lv_aload_n hx hb dX12_readAll_48 rfl (lv_at hl 0 rfl) ?_
  refine lv_iconst (v := 0) hx hb dX12_readAll_49 (by decide) ?_
  refine va_put (D := D) (ci := 12) (v := .int 0) (ty := .int) (C := RX12) (T := TX12) (N := 89) hx hb hg i_X12 tyX12 tyX12_ok nmX12 hown hK hP hD hS 0 rfl rfl 46 (by decide) (hg _ m_1459) (fun _ h9 => h9) rfl (by decide +kernel) rfl rfl (Nat.le_of_ble_eq_true rfl) dX12_readAll_50 (fun H locs hP hD hS => ?_)
  have hP : va_P D vwCl [(b0, .inr (12, [x0, .int 0, .int 0, .int (-1), .int 0, .int 0, .int 0, .int 0, .int 0, .long 0, x10, x11, x12, x13, x14, x15, x16, x17, x18, .ref b_nHasForm, x20, x21, x22, .int 0, x24, x25, x26, x27, x28, x29, x30, x31, x32, x33, x34, x35, x36, x37, x38, x39, x40, x41, .int 0, .int 0, .int 0, .int 0, .int 0, .int 0, .int 0, x49, x50, x51, x52, x53, x54, .int 0, .int 0, x57, x58, x59, x60, x61, x62, x63, x64, x65, x66, x67, x68, x69, x70, x71, x72, x73, x74, x75, x76, x77, x78, x79, x80, x81, x82, x83, x84, x85, x86, x87, x88])), (b_nHasForm, .inl (cy 3, 3, .inl (fun _ => 0)))] H := hP
  have hD : va_D A [(b0, .inr (12, [x0, .int 0, .int 0, .int (-1), .int 0, .int 0, .int 0, .int 0, .int 0, .long 0, x10, x11, x12, x13, x14, x15, x16, x17, x18, .ref b_nHasForm, x20, x21, x22, .int 0, x24, x25, x26, x27, x28, x29, x30, x31, x32, x33, x34, x35, x36, x37, x38, x39, x40, x41, .int 0, .int 0, .int 0, .int 0, .int 0, .int 0, .int 0, x49, x50, x51, x52, x53, x54, .int 0, .int 0, x57, x58, x59, x60, x61, x62, x63, x64, x65, x66, x67, x68, x69, x70, x71, x72, x73, x74, x75, x76, x77, x78, x79, x80, x81, x82, x83, x84, x85, x86, x87, x88])), (b_nHasForm, .inl (cy 3, 3, .inl (fun _ => 0)))] := hD
  refine lv_aload_n hx hb dX12_readAll_53 rfl (lv_at hl 0 rfl) ?_
  refine lv_iconst (v := 0) hx hb dX12_readAll_54 (by decide) ?_
  refine va_put (D := D) (ci := 12) (v := .int 0) (ty := .int) (C := RX12) (T := TX12) (N := 89) hx hb hg i_X12 tyX12 tyX12_ok nmX12 hown hK hP hD hS 0 rfl rfl 47 (by decide) (hg _ m_1460) (fun _ h9 => h9) rfl (by decide +kernel) rfl rfl (Nat.le_of_ble_eq_true rfl) dX12_readAll_55 (fun H locs hP hD hS => ?_)
  have hP : va_P D vwCl [(b0, .inr (12, [x0, .int 0, .int 0, .int (-1), .int 0, .int 0, .int 0, .int 0, .int 0, .long 0, x10, x11, x12, x13, x14, x15, x16, x17, x18, .ref b_nHasForm, x20, x21, x22, .int 0, x24, x25, x26, x27, x28, x29, x30, x31, x32, x33, x34, x35, x36, x37, x38, x39, x40, x41, .int 0, .int 0, .int 0, .int 0, .int 0, .int 0, .int 0, x49, x50, x51, x52, x53, x54, .int 0, .int 0, x57, x58, x59, x60, x61, x62, x63, x64, x65, x66, x67, x68, x69, x70, x71, x72, x73, x74, x75, x76, x77, x78, x79, x80, x81, x82, x83, x84, x85, x86, x87, x88])), (b_nHasForm, .inl (cy 3, 3, .inl (fun _ => 0)))] H := hP
  have hD : va_D A [(b0, .inr (12, [x0, .int 0, .int 0, .int (-1), .int 0, .int 0, .int 0, .int 0, .int 0, .long 0, x10, x11, x12, x13, x14, x15, x16, x17, x18, .ref b_nHasForm, x20, x21, x22, .int 0, x24, x25, x26, x27, x28, x29, x30, x31, x32, x33, x34, x35, x36, x37, x38, x39, x40, x41, .int 0, .int 0, .int 0, .int 0, .int 0, .int 0, .int 0, x49, x50, x51, x52, x53, x54, .int 0, .int 0, x57, x58, x59, x60, x61, x62, x63, x64, x65, x66, x67, x68, x69, x70, x71, x72, x73, x74, x75, x76, x77, x78, x79, x80, x81, x82, x83, x84, x85, x86, x87, x88])), (b_nHasForm, .inl (cy 3, 3, .inl (fun _ => 0)))] := hD
  refine lv_aload_n hx hb dX12_readAll_58 rfl (lv_at hl 0 rfl) ?_
  refine lv_iconst (v := 0) hx hb dX12_readAll_59 (by decide) ?_
  refine va_put (D := D) (ci := 12) (v := .int 0) (ty := .int) (C := RX12) (T := TX12) (N := 89) hx hb hg i_X12 tyX12 tyX12_ok nmX12 hown hK hP hD hS 0 rfl rfl 48 (by decide) (hg _ m_1461) (fun _ h9 => h9) rfl (by decide +kernel) rfl rfl (Nat.le_of_ble_eq_true rfl) dX12_readAll_60 (fun H locs hP hD hS => ?_)
  have hP : va_P D vwCl [(b0, .inr (12, [x0, .int 0, .int 0, .int (-1), .int 0, .int 0, .int 0, .int 0, .int 0, .long 0, x10, x11, x12, x13, x14, x15, x16, x17, x18, .ref b_nHasForm, x20, x21, x22, .int 0, x24, x25, x26, x27, x28, x29, x30, x31, x32, x33, x34, x35, x36, x37, x38, x39, x40, x41, .int 0, .int 0, .int 0, .int 0, .int 0, .int 0, .int 0, x49, x50, x51, x52, x53, x54, .int 0, .int 0, x57, x58, x59, x60, x61, x62, x63, x64, x65, x66, x67, x68, x69, x70, x71, x72, x73, x74, x75, x76, x77, x78, x79, x80, x81, x82, x83, x84, x85, x86, x87, x88])), (b_nHasForm, .inl (cy 3, 3, .inl (fun _ => 0)))] H := hP
  have hD : va_D A [(b0, .inr (12, [x0, .int 0, .int 0, .int (-1), .int 0, .int 0, .int 0, .int 0, .int 0, .long 0, x10, x11, x12, x13, x14, x15, x16, x17, x18, .ref b_nHasForm, x20, x21, x22, .int 0, x24, x25, x26, x27, x28, x29, x30, x31, x32, x33, x34, x35, x36, x37, x38, x39, x40, x41, .int 0, .int 0, .int 0, .int 0, .int 0, .int 0, .int 0, x49, x50, x51, x52, x53, x54, .int 0, .int 0, x57, x58, x59, x60, x61, x62, x63, x64, x65, x66, x67, x68, x69, x70, x71, x72, x73, x74, x75, x76, x77, x78, x79, x80, x81, x82, x83, x84, x85, x86, x87, x88])), (b_nHasForm, .inl (cy 3, 3, .inl (fun _ => 0)))] := hD
  refine lv_aload_n hx hb dX12_readAll_63 rfl (lv_at hl 0 rfl) ?_
  refine lv_iconst (v := 0) hx hb dX12_readAll_64 (by decide) ?_
  refine va_put (D := D) (ci := 12) (v := .int 0) (ty := .boolean) (C := RX12) (T := TX12) (N := 89) hx hb hg i_X12 tyX12 tyX12_ok nmX12 hown hK hP hD hS 0 rfl rfl 55 (by decide) (hg _ m_1468) (fun _ h9 => h9) rfl (by decide +kernel) rfl rfl (Nat.le_of_ble_eq_true rfl) dX12_readAll_65 (fun H locs hP hD hS => ?_)
  have hP : va_P D vwCl [(b0, .inr (12, [x0, .int 0, .int 0, .int (-1), .int 0, .int 0, .int 0, .int 0, .int 0, .long 0, x10, x11, x12, x13, x14, x15, x16, x17, x18, .ref b_nHasForm, x20, x21, x22, .int 0, x24, x25, x26, x27, x28, x29, x30, x31, x32, x33, x34, x35, x36, x37, x38, x39, x40, x41, .int 0, .int 0, .int 0, .int 0, .int 0, .int 0, .int 0, x49, x50, x51, x52, x53, x54, .int 0, .int 0, x57, x58, x59, x60, x61, x62, x63, x64, x65, x66, x67, x68, x69, x70, x71, x72, x73, x74, x75, x76, x77, x78, x79, x80, x81, x82, x83, x84, x85, x86, x87, x88])), (b_nHasForm, .inl (cy 3, 3, .inl (fun _ => 0)))] H := hP
  have hD : va_D A [(b0, .inr (12, [x0, .int 0, .int 0, .int (-1), .int 0, .int 0, .int 0, .int 0, .int 0, .long 0, x10, x11, x12, x13, x14, x15, x16, x17, x18, .ref b_nHasForm, x20, x21, x22, .int 0, x24, x25, x26, x27, x28, x29, x30, x31, x32, x33, x34, x35, x36, x37, x38, x39, x40, x41, .int 0, .int 0, .int 0, .int 0, .int 0, .int 0, .int 0, x49, x50, x51, x52, x53, x54, .int 0, .int 0, x57, x58, x59, x60, x61, x62, x63, x64, x65, x66, x67, x68, x69, x70, x71, x72, x73, x74, x75, x76, x77, x78, x79, x80, x81, x82, x83, x84, x85, x86, x87, x88])), (b_nHasForm, .inl (cy 3, 3, .inl (fun _ => 0)))] := hD
  refine lv_aload_n hx hb dX12_readAll_68 rfl (lv_at hl 0 rfl) ?_
  refine lv_iconst (v := 0) hx hb dX12_readAll_69 (by decide) ?_
  refine va_put (D := D) (ci := 12) (v := .int 0) (ty := .boolean) (C := RX12) (T := TX12) (N := 89) hx hb hg i_X12 tyX12 tyX12_ok nmX12 hown hK hP hD hS 0 rfl rfl 56 (by decide) (hg _ m_1469) (fun _ h9 => h9) rfl (by decide +kernel) rfl rfl (Nat.le_of_ble_eq_true rfl) dX12_readAll_70 (fun H locs hP hD hS => ?_)
  have hP : va_P D vwCl [(b0, .inr (12, [x0, .int 0, .int 0, .int (-1), .int 0, .int 0, .int 0, .int 0, .int 0, .long 0, x10, x11, x12, x13, x14, x15, x16, x17, x18, .ref b_nHasForm, x20, x21, x22, .int 0, x24, x25, x26, x27, x28, x29, x30, x31, x32, x33, x34, x35, x36, x37, x38, x39, x40, x41, .int 0, .int 0, .int 0, .int 0, .int 0, .int 0, .int 0, x49, x50, x51, x52, x53, x54, .int 0, .int 0, x57, x58, x59, x60, x61, x62, x63, x64, x65, x66, x67, x68, x69, x70, x71, x72, x73, x74, x75, x76, x77, x78, x79, x80, x81, x82, x83, x84, x85, x86, x87, x88])), (b_nHasForm, .inl (cy 3, 3, .inl (fun _ => 0)))] H := hP
  have hD : va_D A [(b0, .inr (12, [x0, .int 0, .int 0, .int (-1), .int 0, .int 0, .int 0, .int 0, .int 0, .long 0, x10, x11, x12, x13, x14, x15, x16, x17, x18, .ref b_nHasForm, x20, x21, x22, .int 0, x24, x25, x26, x27, x28, x29, x30, x31, x32, x33, x34, x35, x36, x37, x38, x39, x40, x41, .int 0, .int 0, .int 0, .int 0, .int 0, .int 0, .int 0, x49, x50, x51, x52, x53, x54, .int 0, .int 0, x57, x58, x59, x60, x61, x62, x63, x64, x65, x66, x67, x68, x69, x70, x71, x72, x73, x74, x75, x76, x77, x78, x79, x80, x81, x82, x83, x84, x85, x86, x87, x88])), (b_nHasForm, .inl (cy 3, 3, .inl (fun _ => 0)))] := hD
  refine lv_aload_n hx hb dX12_readAll_73 rfl (lv_at hl 0 rfl) ?_
  refine lv_iconst (v := 0) hx hb dX12_readAll_74 (by decide) ?_
  refine va_put (D := D) (ci := 12) (v := .int 0) (ty := .int) (C := RX12) (T := TX12) (N := 89) hx hb hg i_X12 tyX12 tyX12_ok nmX12 hown hK hP hD hS 0 rfl rfl 23 (by decide) (hg _ m_1436) (fun _ h9 => h9) rfl (by decide +kernel) rfl rfl (Nat.le_of_ble_eq_true rfl) dX12_readAll_75 (fun H locs hP hD hS => ?_)
  have hP : va_P D vwCl [(b0, .inr (12, [x0, .int 0, .int 0, .int (-1), .int 0, .int 0, .int 0, .int 0, .int 0, .long 0, x10, x11, x12, x13, x14, x15, x16, x17, x18, .ref b_nHasForm, x20, x21, x22, .int 0, x24, x25, x26, x27, x28, x29, x30, x31, x32, x33, x34, x35, x36, x37, x38, x39, x40, x41, .int 0, .int 0, .int 0, .int 0, .int 0, .int 0, .int 0, x49, x50, x51, x52, x53, x54, .int 0, .int 0, x57, x58, x59, x60, x61, x62, x63, x64, x65, x66, x67, x68, x69, x70, x71, x72, x73, x74, x75, x76, x77, x78, x79, x80, x81, x82, x83, x84, x85, x86, x87, x88])), (b_nHasForm, .inl (cy 3, 3, .inl (fun _ => 0)))] H := hP
  have hD : va_D A [(b0, .inr (12, [x0, .int 0, .int 0, .int (-1), .int 0, .int 0, .int 0, .int 0, .int 0, .long 0, x10, x11, x12, x13, x14, x15, x16, x17, x18, .ref b_nHasForm, x20, x21, x22, .int 0, x24, x25, x26, x27, x28, x29, x30, x31, x32, x33, x34, x35, x36, x37, x38, x39, x40, x41, .int 0, .int 0, .int 0, .int 0, .int 0, .int 0, .int 0, x49, x50, x51, x52, x53, x54, .int 0, .int 0, x57, x58, x59, x60, x61, x62, x63, x64, x65, x66, x67, x68, x69, x70, x71, x72, x73, x74, x75, x76, x77, x78, x79, x80, x81, x82, x83, x84, x85, x86, x87, x88])), (b_nHasForm, .inl (cy 3, 3, .inl (fun _ => 0)))] := hD
  refine lv_iconst (v := 0) hx hb dX12_readAll_78 (by decide) ?_
  refine lv_istore_n (lv' := [(1, .int 0), (0, .ref b0)]) hx hb dX12_readAll_79 rfl hl (by decide) rfl (fun ls hl => ?_)
  have loop1 : ∀ (n i1 : Nat), i1 ≤ 3 → 4 ≤ i1 + n → ∀ (H : Heap) (locs : List Loc), va_P D vwCl [(b0, .inr (12, [x0, .int 0, .int 0, .int (-1), .int 0, .int 0, .int 0, .int 0, .int 0, .long 0, x10, x11, x12, x13, x14, x15, x16, x17, x18, .ref b_nHasForm, x20, x21, x22, .int 0, x24, x25, x26, x27, x28, x29, x30, x31, x32, x33, x34, x35, x36, x37, x38, x39, x40, x41, .int 0, .int 0, .int 0, .int 0, .int 0, .int 0, .int 0, x49, x50, x51, x52, x53, x54, .int 0, .int 0, x57, x58, x59, x60, x61, x62, x63, x64, x65, x66, x67, x68, x69, x70, x71, x72, x73, x74, x75, x76, x77, x78, x79, x80, x81, x82, x83, x84, x85, x86, x87, x88])), (b_nHasForm, .inl (cy 3, 3, .inl (fun _ => 0)))] H → va_D A [(b0, .inr (12, [x0, .int 0, .int 0, .int (-1), .int 0, .int 0, .int 0, .int 0, .int 0, .long 0, x10, x11, x12, x13, x14, x15, x16, x17, x18, .ref b_nHasForm, x20, x21, x22, .int 0, x24, x25, x26, x27, x28, x29, x30, x31, x32, x33, x34, x35, x36, x37, x38, x39, x40, x41, .int 0, .int 0, .int 0, .int 0, .int 0, .int 0, .int 0, x49, x50, x51, x52, x53, x54, .int 0, .int 0, x57, x58, x59, x60, x61, x62, x63, x64, x65, x66, x67, x68, x69, x70, x71, x72, x73, x74, x75, x76, x77, x78, x79, x80, x81, x82, x83, x84, x85, x86, x87, x88])), (b_nHasForm, .inl (cy 3, 3, .inl (fun _ => 0)))] → va_S A s.heap H locs → ∀ ls : Array Slot, lv_has ls 2 [(1, .int (nI i1)), (0, .ref b0)] → W p l e (rmk 2 0 0) s m args below meth c H locs 0 0 Q (F0 m 80 ls []) := by
    intro n
    induction n with
    | zero => intro i1 h1 h2; exact absurd h2 (by omega)
    | succ n ih =>
      intro i1 hi1 hn1  H locs hP hD hS ls hl
      have ih1 := ih
      refine lv_iload_n hx hb dX12_readAll_80 rfl (lv_at hl 0 rfl) ?_
      refine lv_iconst (v := 3) hx hb dX12_readAll_81 (by decide) ?_
      refine lv_icmp_ge (tgt := 98) hx hb dX12_readAll_82 (by decide) (fun c1 => ?_) (fun c1 => ?_)
      · have hend1 : i1 = 3 := lp_end (N := 3) (by decide) hi1 (by decide) c1
        subst hend1
        refine lv_aload_n hx hb dX12_readAll_98 rfl (lv_at hl 1 rfl) ?_
        refine x_callVv (q := (RX12, TX12, 89)) (ci := 12) (q0 := 0) (wr := [(b_nHasForm, .inl (cy 3, 3, .inl (fun _ => 0)))]) (rest := []) ⟨hx, hb, hml, hown, hg, hl.1⟩ k_X12_259 (m_token l D cy b0 x0 ((.int 0)) ((.int 0)) ((.int (-1))) ((.int 0)) ((.int 0)) ((.int 0)) ((.long 0)) x10 x11 x12 x13 x14 x15 x16 x17 x18 ((.ref b_nHasForm)) x20 x21 x22 ((.int 0)) x24 x25 x26 x27 x28 x29 x30 x31 x32 x33 x34 x35 x36 x37 x38 x39 x40 x41 ((.int 0)) ((.int 0)) ((.int 0)) ((.int 0)) ((.int 0)) ((.int 0)) ((.int 0)) x49 x50 x51 x52 x53 x54 ((.int 0)) ((.int 0)) x57 x58 x59 x60 x61 x62 x63 x64 x65 x66 x67 x68 x69 x70 x71 x72 x73 x74 x75 x76 x77 x78 x79 x80 x81 x82 x83 x84 x85 x86 x87 x88) E0_blind hK hP hD hS hA [0] [1] ⟨rfl, rfl, by decide, by decide, by decide⟩ rfl rfl (fun _ _ _ => trivial) dX12_readAll_99 rfl rfl (Nat.le_of_ble_eq_true rfl) ⟨Nat.le_of_ble_eq_true rfl, Nat.le_of_ble_eq_true rfl⟩ ⟨Nat.le_of_ble_eq_true rfl, Nat.le_of_ble_eq_true rfl⟩ (fun u2 H locs hw2 hP hD hS => ?_)
        have hP : va_P D vwCl [(b_nHasForm, .inl (cy 3, 3, .inl (fun _ => 0))), (b0, .inr (12, [x0, .int 0, .int 0, .int (-1), .int 0, .int 0, .int 0, .int 0, .int 0, .long 0, x10, x11, x12, x13, x14, x15, x16, x17, x18, .ref b_nHasForm, x20, x21, x22, .int 0, x24, x25, x26, x27, x28, x29, x30, x31, x32, x33, x34, x35, x36, x37, x38, x39, x40, x41, .int 0, .int 0, .int 0, .int 0, .int 0, .int 0, .int 0, x49, x50, x51, x52, x53, x54, .int 0, .int 0, x57, x58, x59, x60, x61, x62, x63, x64, x65, x66, x67, x68, x69, x70, x71, x72, x73, x74, x75, x76, x77, x78, x79, x80, x81, x82, x83, x84, x85, x86, x87, x88]))] H := hP
        have hD : va_D A [(b_nHasForm, .inl (cy 3, 3, .inl (fun _ => 0))), (b0, .inr (12, [x0, .int 0, .int 0, .int (-1), .int 0, .int 0, .int 0, .int 0, .int 0, .long 0, x10, x11, x12, x13, x14, x15, x16, x17, x18, .ref b_nHasForm, x20, x21, x22, .int 0, x24, x25, x26, x27, x28, x29, x30, x31, x32, x33, x34, x35, x36, x37, x38, x39, x40, x41, .int 0, .int 0, .int 0, .int 0, .int 0, .int 0, .int 0, x49, x50, x51, x52, x53, x54, .int 0, .int 0, x57, x58, x59, x60, x61, x62, x63, x64, x65, x66, x67, x68, x69, x70, x71, x72, x73, x74, x75, x76, x77, x78, x79, x80, x81, x82, x83, x84, x85, x86, x87, x88]))] := hD
        refine W.widen (k := 0) (n := 0) (Nat.le_of_ble_eq_true rfl) (Nat.le_of_ble_eq_true rfl) ?_
        refine lv_aload_n hx hb dX12_readAll_102 rfl (lv_at hl 1 rfl) ?_
        refine va_get (D := D) (ci := 12) (v := .int 0) (C := RX12) (T := TX12) (N := 89) hx hb hg i_X12 hown hK hP 1 rfl rfl 2 (by decide) (hg _ m_1415) (fun _ h9 => h9) rfl dX12_readAll_103 ?_
        refine lv_if_ne (tgt := 123) hx hb dX12_readAll_106 (by decide) (fun h => absurd (by decide) h) (fun _ => ?_)
        refine lv_aload_n hx hb dX12_readAll_109 rfl (lv_at hl 1 rfl) ?_
        refine va_get (D := D) (ci := 12) (v := .int 0) (C := RX12) (T := TX12) (N := 89) hx hb hg i_X12 hown hK hP 1 rfl rfl 6 (by decide) (hg _ m_1419) (fun _ h9 => h9) rfl dX12_readAll_110 ?_
        refine lv_if_eq (tgt := 123) hx hb dX12_readAll_113 (by decide) (fun _ => ?_) (fun h => absurd (by decide) h)
        exact x_vret hQ hx hb hr hlocks hK hP hD hS dX12_readAll_123 () (trivial) [1, 0] (by decide) rfl (Nat.le_of_ble_eq_true rfl) (Nat.le_of_ble_eq_true rfl)
      · have hlt1 : i1 < 3 := lp_go (by decide) hi1 (by decide) c1
        refine lv_aload_n hx hb dX12_readAll_85 rfl (lv_at hl 1 rfl) ?_
        refine va_get (D := D) (ci := 12) (v := .ref b_nHasForm) (C := RX12) (T := TX12) (N := 89) hx hb hg i_X12 hown hK hP 0 rfl rfl 19 (by decide) (hg _ m_1432) (fun _ h9 => h9) rfl dX12_readAll_86 ?_
        refine lv_iload_n hx hb dX12_readAll_89 rfl (lv_at hl 0 rfl) ?_
        refine lv_iconst (v := 0) hx hb dX12_readAll_90 (by decide) ?_
        refine va_zast hx hb hK hP hD hS 1 3 rfl rfl (vp_in_nI (by omega) (by decide)) dX12_readAll_91 (fun H locs hP hD hS => ?_)
        rw [upd_zZ] at hP hD
        have hP : va_P D vwCl [(b0, .inr (12, [x0, .int 0, .int 0, .int (-1), .int 0, .int 0, .int 0, .int 0, .int 0, .long 0, x10, x11, x12, x13, x14, x15, x16, x17, x18, .ref b_nHasForm, x20, x21, x22, .int 0, x24, x25, x26, x27, x28, x29, x30, x31, x32, x33, x34, x35, x36, x37, x38, x39, x40, x41, .int 0, .int 0, .int 0, .int 0, .int 0, .int 0, .int 0, x49, x50, x51, x52, x53, x54, .int 0, .int 0, x57, x58, x59, x60, x61, x62, x63, x64, x65, x66, x67, x68, x69, x70, x71, x72, x73, x74, x75, x76, x77, x78, x79, x80, x81, x82, x83, x84, x85, x86, x87, x88])), (b_nHasForm, .inl (cy 3, 3, .inl (fun _ => 0)))] H := hP
        have hD : va_D A [(b0, .inr (12, [x0, .int 0, .int 0, .int (-1), .int 0, .int 0, .int 0, .int 0, .int 0, .long 0, x10, x11, x12, x13, x14, x15, x16, x17, x18, .ref b_nHasForm, x20, x21, x22, .int 0, x24, x25, x26, x27, x28, x29, x30, x31, x32, x33, x34, x35, x36, x37, x38, x39, x40, x41, .int 0, .int 0, .int 0, .int 0, .int 0, .int 0, .int 0, x49, x50, x51, x52, x53, x54, .int 0, .int 0, x57, x58, x59, x60, x61, x62, x63, x64, x65, x66, x67, x68, x69, x70, x71, x72, x73, x74, x75, x76, x77, x78, x79, x80, x81, x82, x83, x84, x85, x86, x87, x88])), (b_nHasForm, .inl (cy 3, 3, .inl (fun _ => 0)))] := hD
        refine lv_iinc (v := nI (i1 + 1)) (lv' := [(1, .int (nI (i1 + 1))), (0, .ref b0)]) hx hb dX12_readAll_92 hl (k := 0) rfl (lp_inc i1) (by decide) rfl (fun ls hl => ?_)
        refine lv_goto (tgt := 80) hx hb dX12_readAll_95 (by decide) ?_
        exact ih1 (i1 + 1) (by omega) (by omega)  _ _ (hP.sub [0, 1] rfl) (hD.sub [0, 1] (by decide) rfl) hS ls (lv_sub hl [0, 1] rfl)
  exact loop1 4 0 (by omega) (by omega)  _ _ (hP.sub [0, 1] rfl) (hD.sub [0, 1] (by decide) rfl) hS ls (lv_sub hl [0, 1] rfl)
theorem dX12_hills_0 : decode cX12_hills 0 = .ok (.aload_n 0, 1) := by decide +kernel
theorem dX12_hills_1 : decode cX12_hills 1 = .ok (.invokevirtual 400, 3) := by decide +kernel
theorem m_1698 : (Cond.methodLink RX12 400 yX12_readAll) ∈ gT := gm 1698 (by decide +kernel) (by decide +kernel)
theorem m_1700 : (Cond.instanceMethod yX12_readAll) ∈ gT := gm 1700 (by decide +kernel) (by decide +kernel)
theorem m_64 : (Cond.selects RX12 yX12_readAll yX12_readAll) ∈ gT := gm 64 (by decide +kernel) (by decide +kernel)
theorem m_1701 : (Cond.code yX12_readAll cX12_readAll 2 none) ∈ gT := gm 1701 (by decide +kernel) (by decide +kernel)
theorem k_X12_400 : xV RX12 RX12 400 yX12_readAll cX12_readAll 2 none 0 := ⟨⟨m_1698, m_1700, m_64, m_146, m_1701⟩, rfl, by decide, by decide, by decide +kernel⟩
theorem dX12_hills_4 : decode cX12_hills 4 = .ok (.aload_n 0, 1) := by decide +kernel
theorem dX12_hills_5 : decode cX12_hills 5 = .ok (.getfield 197, 3) := by decide +kernel
theorem dX12_hills_8 : decode cX12_hills 8 = .ok (.ifCond .le 5, 3) := by decide +kernel
theorem dX12_hills_13 : decode cX12_hills 13 = .ok (.aload_n 0, 1) := by decide +kernel
theorem dX12_hills_14 : decode cX12_hills 14 = .ok (.aload_n 0, 1) := by decide +kernel
theorem dX12_hills_15 : decode cX12_hills 15 = .ok (.getfield 341, 3) := by decide +kernel
theorem dX12_hills_18 : decode cX12_hills 18 = .ok (.putfield 403, 3) := by decide +kernel
theorem dX12_hills_21 : decode cX12_hills 21 = .ok (.aload_n 0, 1) := by decide +kernel
theorem dX12_hills_22 : decode cX12_hills 22 = .ok (.aload_n 0, 1) := by decide +kernel
theorem dX12_hills_23 : decode cX12_hills 23 = .ok (.getfield 351, 3) := by decide +kernel
theorem dX12_hills_26 : decode cX12_hills 26 = .ok (.putfield 406, 3) := by decide +kernel
theorem dX12_hills_29 : decode cX12_hills 29 = .ok (.aload_n 0, 1) := by decide +kernel
theorem dX12_hills_30 : decode cX12_hills 30 = .ok (.aload_n 0, 1) := by decide +kernel
theorem dX12_hills_31 : decode cX12_hills 31 = .ok (.getfield 354, 3) := by decide +kernel
theorem dX12_hills_34 : decode cX12_hills 34 = .ok (.putfield 409, 3) := by decide +kernel
theorem dX12_hills_37 : decode cX12_hills 37 = .ok (.aload_n 0, 1) := by decide +kernel
theorem dX12_hills_38 : decode cX12_hills 38 = .ok (.aload_n 0, 1) := by decide +kernel
theorem dX12_hills_39 : decode cX12_hills 39 = .ok (.getfield 357, 3) := by decide +kernel
theorem dX12_hills_42 : decode cX12_hills 42 = .ok (.putfield 412, 3) := by decide +kernel
theorem dX12_hills_45 : decode cX12_hills 45 = .ok (.aload_n 0, 1) := by decide +kernel
theorem dX12_hills_46 : decode cX12_hills 46 = .ok (.aload_n 0, 1) := by decide +kernel
theorem dX12_hills_47 : decode cX12_hills 47 = .ok (.getfield 363, 3) := by decide +kernel
theorem dX12_hills_50 : decode cX12_hills 50 = .ok (.putfield 415, 3) := by decide +kernel
theorem dX12_hills_53 : decode cX12_hills 53 = .ok (.aload_n 0, 1) := by decide +kernel
theorem dX12_hills_54 : decode cX12_hills 54 = .ok (.aload_n 0, 1) := by decide +kernel
theorem dX12_hills_55 : decode cX12_hills 55 = .ok (.getfield 388, 3) := by decide +kernel
theorem dX12_hills_58 : decode cX12_hills 58 = .ok (.putfield 418, 3) := by decide +kernel
theorem m_1467 : (Cond.fieldLink RX12 418 "CliffJudgesModel" "windTold" "I") ∈ gT := gm 1467 (by decide +kernel) (by decide +kernel)
theorem dX12_hills_61 : decode cX12_hills 61 = .ok (.aload_n 0, 1) := by decide +kernel
theorem dX12_hills_62 : decode cX12_hills 62 = .ok (.aload_n 0, 1) := by decide +kernel
theorem dX12_hills_63 : decode cX12_hills 63 = .ok (.getfield 296, 3) := by decide +kernel
theorem dX12_hills_66 : decode cX12_hills 66 = .ok (.putfield 421, 3) := by decide +kernel
theorem dX12_hills_69 : decode cX12_hills 69 = .ok (.iconst 0, 1) := by decide +kernel
theorem dX12_hills_70 : decode cX12_hills 70 = .ok (.istore_n 1, 1) := by decide +kernel
theorem dX12_hills_71 : decode cX12_hills 71 = .ok (.iload_n 1, 1) := by decide +kernel
theorem dX12_hills_72 : decode cX12_hills 72 = .ok (.iconst 3, 1) := by decide +kernel
theorem dX12_hills_73 : decode cX12_hills 73 = .ok (.if_icmp .ge 98, 3) := by decide +kernel
theorem dX12_hills_171 : decode cX12_hills 171 = .ok (.iconst 0, 1) := by decide +kernel
theorem dX12_hills_172 : decode cX12_hills 172 = .ok (.istore_n 1, 1) := by decide +kernel
theorem dX12_hills_173 : decode cX12_hills 173 = .ok (.iload_n 1, 1) := by decide +kernel
theorem dX12_hills_174 : decode cX12_hills 174 = .ok (.bipush 8, 2) := by decide +kernel
theorem dX12_hills_176 : decode cX12_hills 176 = .ok (.if_icmp .ge 21, 3) := by decide +kernel
theorem dX12_hills_197 : decode cX12_hills 197 = .ok (.iconst 0, 1) := by decide +kernel
theorem dX12_hills_198 : decode cX12_hills 198 = .ok (.istore_n 1, 1) := by decide +kernel
theorem dX12_hills_199 : decode cX12_hills 199 = .ok (.iload_n 1, 1) := by decide +kernel
theorem dX12_hills_200 : decode cX12_hills 200 = .ok (.iconst 4, 1) := by decide +kernel
theorem dX12_hills_201 : decode cX12_hills 201 = .ok (.if_icmp .ge 57, 3) := by decide +kernel
theorem dX12_hills_258 : decode cX12_hills 258 = .ok (.iconst 0, 1) := by decide +kernel
theorem dX12_hills_259 : decode cX12_hills 259 = .ok (.istore_n 1, 1) := by decide +kernel
theorem dX12_hills_260 : decode cX12_hills 260 = .ok (.iload_n 1, 1) := by decide +kernel
theorem dX12_hills_261 : decode cX12_hills 261 = .ok (.bipush 6, 2) := by decide +kernel
theorem dX12_hills_263 : decode cX12_hills 263 = .ok (.if_icmp .ge 21, 3) := by decide +kernel
theorem dX12_hills_284 : decode cX12_hills 284 = .ok (.iconst 0, 1) := by decide +kernel
theorem dX12_hills_285 : decode cX12_hills 285 = .ok (.istore_n 1, 1) := by decide +kernel
theorem dX12_hills_286 : decode cX12_hills 286 = .ok (.iload_n 1, 1) := by decide +kernel
theorem dX12_hills_287 : decode cX12_hills 287 = .ok (.bipush 48, 2) := by decide +kernel
theorem dX12_hills_289 : decode cX12_hills 289 = .ok (.if_icmp .ge 21, 3) := by decide +kernel
theorem dX12_hills_310 : decode cX12_hills 310 = .ok (.iconst 0, 1) := by decide +kernel
theorem dX12_hills_311 : decode cX12_hills 311 = .ok (.istore_n 1, 1) := by decide +kernel
theorem dX12_hills_312 : decode cX12_hills 312 = .ok (.iload_n 1, 1) := by decide +kernel
theorem dX12_hills_313 : decode cX12_hills 313 = .ok (.bipush 41, 2) := by decide +kernel
theorem dX12_hills_315 : decode cX12_hills 315 = .ok (.if_icmp .ge 16, 3) := by decide +kernel
theorem dX12_hills_331 : decode cX12_hills 331 = .ok (.aload_n 0, 1) := by decide +kernel
theorem dX12_hills_332 : decode cX12_hills 332 = .ok (.getfield 97, 3) := by decide +kernel
theorem dX12_hills_335 : decode cX12_hills 335 = .ok (.bipush 22, 2) := by decide +kernel
theorem dX12_hills_337 : decode cX12_hills 337 = .ok (.aload_n 0, 1) := by decide +kernel
theorem dX12_hills_338 : decode cX12_hills 338 = .ok (.getfield 418, 3) := by decide +kernel
theorem dX12_hills_341 : decode cX12_hills 341 = .ok (.iastore, 1) := by decide +kernel
theorem dX12_hills_342 : decode cX12_hills 342 = .ok (.iconst 0, 1) := by decide +kernel
theorem dX12_hills_343 : decode cX12_hills 343 = .ok (.istore_n 1, 1) := by decide +kernel
theorem dX12_hills_344 : decode cX12_hills 344 = .ok (.iload_n 1, 1) := by decide +kernel
theorem dX12_hills_345 : decode cX12_hills 345 = .ok (.aload_n 0, 1) := by decide +kernel
theorem dX12_hills_346 : decode cX12_hills 346 = .ok (.getfield 406, 3) := by decide +kernel
theorem dX12_hills_349 : decode cX12_hills 349 = .ok (.if_icmp .ge 24, 3) := by decide +kernel
theorem dX12_hills_373 : decode cX12_hills 373 = .ok (.aload_n 0, 1) := by decide +kernel
theorem dX12_hills_374 : decode cX12_hills 374 = .ok (.getfield 97, 3) := by decide +kernel
theorem dX12_hills_377 : decode cX12_hills 377 = .ok (.bipush 27, 2) := by decide +kernel
theorem dX12_hills_379 : decode cX12_hills 379 = .ok (.aload_n 0, 1) := by decide +kernel
theorem dX12_hills_380 : decode cX12_hills 380 = .ok (.getfield 394, 3) := by decide +kernel
theorem dX12_hills_383 : decode cX12_hills 383 = .ok (.iastore, 1) := by decide +kernel
theorem dX12_hills_384 : decode cX12_hills 384 = .ok (.aload_n 0, 1) := by decide +kernel
theorem dX12_hills_385 : decode cX12_hills 385 = .ok (.iconst 0, 1) := by decide +kernel
theorem dX12_hills_386 : decode cX12_hills 386 = .ok (.putfield 424, 3) := by decide +kernel
theorem dX12_hills_389 : decode cX12_hills 389 = .ok (.aload_n 0, 1) := by decide +kernel
theorem dX12_hills_390 : decode cX12_hills 390 = .ok (.iconst 0, 1) := by decide +kernel
theorem dX12_hills_391 : decode cX12_hills 391 = .ok (.putfield 427, 3) := by decide +kernel
theorem dX12_hills_394 : decode cX12_hills 394 = .ok (.aload_n 0, 1) := by decide +kernel
theorem dX12_hills_395 : decode cX12_hills 395 = .ok (.iconst 0, 1) := by decide +kernel
theorem dX12_hills_396 : decode cX12_hills 396 = .ok (.putfield 430, 3) := by decide +kernel
theorem dX12_hills_399 : decode cX12_hills 399 = .ok (.aload_n 0, 1) := by decide +kernel
theorem dX12_hills_400 : decode cX12_hills 400 = .ok (.iconst 0, 1) := by decide +kernel
theorem dX12_hills_401 : decode cX12_hills 401 = .ok (.putfield 433, 3) := by decide +kernel
theorem dX12_hills_404 : decode cX12_hills 404 = .ok (.iconst 0, 1) := by decide +kernel
theorem dX12_hills_405 : decode cX12_hills 405 = .ok (.istore_n 1, 1) := by decide +kernel
theorem dX12_hills_406 : decode cX12_hills 406 = .ok (.iload_n 1, 1) := by decide +kernel
theorem dX12_hills_407 : decode cX12_hills 407 = .ok (.iconst 3, 1) := by decide +kernel
theorem dX12_hills_408 : decode cX12_hills 408 = .ok (.if_icmp .ge 16, 3) := by decide +kernel
theorem dX12_hills_424 : decode cX12_hills 424 = .ok (.aload_n 0, 1) := by decide +kernel
theorem dX12_hills_425 : decode cX12_hills 425 = .ok (.getfield 406, 3) := by decide +kernel
theorem dX12_hills_428 : decode cX12_hills 428 = .ok (.ireturn, 1) := by decide +kernel
theorem dX12_hills_411 : decode cX12_hills 411 = .ok (.aload_n 0, 1) := by decide +kernel
theorem dX12_hills_412 : decode cX12_hills 412 = .ok (.getfield 151, 3) := by decide +kernel
theorem m_1500 : (Cond.fieldLink RX12 151 "CliffJudgesModel" "hasBox" "[Z") ∈ gT := gm 1500 (by decide +kernel) (by decide +kernel)
theorem dX12_hills_415 : decode cX12_hills 415 = .ok (.iload_n 1, 1) := by decide +kernel
theorem dX12_hills_416 : decode cX12_hills 416 = .ok (.iconst 0, 1) := by decide +kernel
theorem dX12_hills_417 : decode cX12_hills 417 = .ok (.bastore, 1) := by decide +kernel
theorem dX12_hills_418 : decode cX12_hills 418 = .ok (.iinc 1 1, 3) := by decide +kernel
theorem dX12_hills_421 : decode cX12_hills 421 = .ok (.goto (-15), 3) := by decide +kernel
theorem dX12_hills_318 : decode cX12_hills 318 = .ok (.aload_n 0, 1) := by decide +kernel
theorem dX12_hills_319 : decode cX12_hills 319 = .ok (.getfield 97, 3) := by decide +kernel
theorem dX12_hills_322 : decode cX12_hills 322 = .ok (.iload_n 1, 1) := by decide +kernel
theorem dX12_hills_323 : decode cX12_hills 323 = .ok (.iconst 0, 1) := by decide +kernel
theorem dX12_hills_324 : decode cX12_hills 324 = .ok (.iastore, 1) := by decide +kernel
theorem dX12_hills_325 : decode cX12_hills 325 = .ok (.iinc 1 1, 3) := by decide +kernel
theorem dX12_hills_328 : decode cX12_hills 328 = .ok (.goto (-16), 3) := by decide +kernel
theorem dX12_hills_292 : decode cX12_hills 292 = .ok (.aload_n 0, 1) := by decide +kernel
theorem dX12_hills_293 : decode cX12_hills 293 = .ok (.getfield 88, 3) := by decide +kernel
theorem m_1452 : (Cond.fieldLink RX12 88 "CliffJudgesModel" "on" "[I") ∈ gT := gm 1452 (by decide +kernel) (by decide +kernel)
theorem dX12_hills_296 : decode cX12_hills 296 = .ok (.iload_n 1, 1) := by decide +kernel
theorem dX12_hills_297 : decode cX12_hills 297 = .ok (.aload_n 0, 1) := by decide +kernel
theorem dX12_hills_298 : decode cX12_hills 298 = .ok (.getfield 70, 3) := by decide +kernel
theorem m_1446 : (Cond.fieldLink RX12 70 "CliffJudgesModel" "nOn" "[I") ∈ gT := gm 1446 (by decide +kernel) (by decide +kernel)
theorem dX12_hills_301 : decode cX12_hills 301 = .ok (.iload_n 1, 1) := by decide +kernel
theorem dX12_hills_302 : decode cX12_hills 302 = .ok (.iaload, 1) := by decide +kernel
theorem dX12_hills_303 : decode cX12_hills 303 = .ok (.iastore, 1) := by decide +kernel
theorem dX12_hills_304 : decode cX12_hills 304 = .ok (.iinc 1 1, 3) := by decide +kernel
theorem dX12_hills_307 : decode cX12_hills 307 = .ok (.goto (-21), 3) := by decide +kernel
theorem dX12_hills_266 : decode cX12_hills 266 = .ok (.aload_n 0, 1) := by decide +kernel
theorem dX12_hills_267 : decode cX12_hills 267 = .ok (.getfield 94, 3) := by decide +kernel
theorem m_1454 : (Cond.fieldLink RX12 94 "CliffJudgesModel" "yes" "[Z") ∈ gT := gm 1454 (by decide +kernel) (by decide +kernel)
theorem dX12_hills_270 : decode cX12_hills 270 = .ok (.iload_n 1, 1) := by decide +kernel
theorem dX12_hills_271 : decode cX12_hills 271 = .ok (.aload_n 0, 1) := by decide +kernel
theorem dX12_hills_272 : decode cX12_hills 272 = .ok (.getfield 91, 3) := by decide +kernel
theorem m_1453 : (Cond.fieldLink RX12 91 "CliffJudgesModel" "nYes" "[Z") ∈ gT := gm 1453 (by decide +kernel) (by decide +kernel)
theorem dX12_hills_275 : decode cX12_hills 275 = .ok (.iload_n 1, 1) := by decide +kernel
theorem dX12_hills_276 : decode cX12_hills 276 = .ok (.baload, 1) := by decide +kernel
theorem dX12_hills_277 : decode cX12_hills 277 = .ok (.bastore, 1) := by decide +kernel
theorem dX12_hills_278 : decode cX12_hills 278 = .ok (.iinc 1 1, 3) := by decide +kernel
theorem dX12_hills_281 : decode cX12_hills 281 = .ok (.goto (-21), 3) := by decide +kernel
theorem dX12_hills_204 : decode cX12_hills 204 = .ok (.aload_n 0, 1) := by decide +kernel
theorem dX12_hills_205 : decode cX12_hills 205 = .ok (.getfield 76, 3) := by decide +kernel
theorem m_1448 : (Cond.fieldLink RX12 76 "CliffJudgesModel" "cliffAt" "[I") ∈ gT := gm 1448 (by decide +kernel) (by decide +kernel)
theorem dX12_hills_208 : decode cX12_hills 208 = .ok (.iload_n 1, 1) := by decide +kernel
theorem dX12_hills_209 : decode cX12_hills 209 = .ok (.aload_n 0, 1) := by decide +kernel
theorem dX12_hills_210 : decode cX12_hills 210 = .ok (.getfield 58, 3) := by decide +kernel
theorem m_1442 : (Cond.fieldLink RX12 58 "CliffJudgesModel" "nCliffAt" "[I") ∈ gT := gm 1442 (by decide +kernel) (by decide +kernel)
theorem dX12_hills_213 : decode cX12_hills 213 = .ok (.iload_n 1, 1) := by decide +kernel
theorem dX12_hills_214 : decode cX12_hills 214 = .ok (.iaload, 1) := by decide +kernel
theorem dX12_hills_215 : decode cX12_hills 215 = .ok (.iastore, 1) := by decide +kernel
theorem dX12_hills_216 : decode cX12_hills 216 = .ok (.aload_n 0, 1) := by decide +kernel
theorem dX12_hills_217 : decode cX12_hills 217 = .ok (.getfield 79, 3) := by decide +kernel
theorem m_1449 : (Cond.fieldLink RX12 79 "CliffJudgesModel" "snowTold" "[I") ∈ gT := gm 1449 (by decide +kernel) (by decide +kernel)
theorem dX12_hills_220 : decode cX12_hills 220 = .ok (.iload_n 1, 1) := by decide +kernel
theorem dX12_hills_221 : decode cX12_hills 221 = .ok (.aload_n 0, 1) := by decide +kernel
theorem dX12_hills_222 : decode cX12_hills 222 = .ok (.getfield 61, 3) := by decide +kernel
theorem m_1443 : (Cond.fieldLink RX12 61 "CliffJudgesModel" "nSnow" "[I") ∈ gT := gm 1443 (by decide +kernel) (by decide +kernel)
theorem dX12_hills_225 : decode cX12_hills 225 = .ok (.iload_n 1, 1) := by decide +kernel
theorem dX12_hills_226 : decode cX12_hills 226 = .ok (.iaload, 1) := by decide +kernel
theorem dX12_hills_227 : decode cX12_hills 227 = .ok (.iastore, 1) := by decide +kernel
theorem dX12_hills_228 : decode cX12_hills 228 = .ok (.aload_n 0, 1) := by decide +kernel
theorem dX12_hills_229 : decode cX12_hills 229 = .ok (.getfield 82, 3) := by decide +kernel
theorem m_1450 : (Cond.fieldLink RX12 82 "CliffJudgesModel" "manAt" "[I") ∈ gT := gm 1450 (by decide +kernel) (by decide +kernel)
theorem dX12_hills_232 : decode cX12_hills 232 = .ok (.iload_n 1, 1) := by decide +kernel
theorem dX12_hills_233 : decode cX12_hills 233 = .ok (.aload_n 0, 1) := by decide +kernel
theorem dX12_hills_234 : decode cX12_hills 234 = .ok (.getfield 64, 3) := by decide +kernel
theorem m_1444 : (Cond.fieldLink RX12 64 "CliffJudgesModel" "nManAt" "[I") ∈ gT := gm 1444 (by decide +kernel) (by decide +kernel)
theorem dX12_hills_237 : decode cX12_hills 237 = .ok (.iload_n 1, 1) := by decide +kernel
theorem dX12_hills_238 : decode cX12_hills 238 = .ok (.iaload, 1) := by decide +kernel
theorem dX12_hills_239 : decode cX12_hills 239 = .ok (.iastore, 1) := by decide +kernel
theorem dX12_hills_240 : decode cX12_hills 240 = .ok (.aload_n 0, 1) := by decide +kernel
theorem dX12_hills_241 : decode cX12_hills 241 = .ok (.getfield 85, 3) := by decide +kernel
theorem m_1451 : (Cond.fieldLink RX12 85 "CliffJudgesModel" "voice" "[I") ∈ gT := gm 1451 (by decide +kernel) (by decide +kernel)
theorem dX12_hills_244 : decode cX12_hills 244 = .ok (.iload_n 1, 1) := by decide +kernel
theorem dX12_hills_245 : decode cX12_hills 245 = .ok (.aload_n 0, 1) := by decide +kernel
theorem dX12_hills_246 : decode cX12_hills 246 = .ok (.getfield 67, 3) := by decide +kernel
theorem m_1445 : (Cond.fieldLink RX12 67 "CliffJudgesModel" "nVoice" "[I") ∈ gT := gm 1445 (by decide +kernel) (by decide +kernel)
theorem dX12_hills_249 : decode cX12_hills 249 = .ok (.iload_n 1, 1) := by decide +kernel
theorem dX12_hills_250 : decode cX12_hills 250 = .ok (.iaload, 1) := by decide +kernel
theorem dX12_hills_251 : decode cX12_hills 251 = .ok (.iastore, 1) := by decide +kernel
theorem dX12_hills_252 : decode cX12_hills 252 = .ok (.iinc 1 1, 3) := by decide +kernel
theorem dX12_hills_255 : decode cX12_hills 255 = .ok (.goto (-56), 3) := by decide +kernel
theorem dX12_hills_179 : decode cX12_hills 179 = .ok (.aload_n 0, 1) := by decide +kernel
theorem dX12_hills_180 : decode cX12_hills 180 = .ok (.getfield 73, 3) := by decide +kernel
theorem m_1447 : (Cond.fieldLink RX12 73 "CliffJudgesModel" "loud" "[I") ∈ gT := gm 1447 (by decide +kernel) (by decide +kernel)
theorem dX12_hills_183 : decode cX12_hills 183 = .ok (.iload_n 1, 1) := by decide +kernel
theorem dX12_hills_184 : decode cX12_hills 184 = .ok (.aload_n 0, 1) := by decide +kernel
theorem dX12_hills_185 : decode cX12_hills 185 = .ok (.getfield 55, 3) := by decide +kernel
theorem m_1441 : (Cond.fieldLink RX12 55 "CliffJudgesModel" "nLoud" "[I") ∈ gT := gm 1441 (by decide +kernel) (by decide +kernel)
theorem dX12_hills_188 : decode cX12_hills 188 = .ok (.iload_n 1, 1) := by decide +kernel
theorem dX12_hills_189 : decode cX12_hills 189 = .ok (.iaload, 1) := by decide +kernel
theorem dX12_hills_190 : decode cX12_hills 190 = .ok (.iastore, 1) := by decide +kernel
theorem dX12_hills_191 : decode cX12_hills 191 = .ok (.iinc 1 1, 3) := by decide +kernel
theorem dX12_hills_194 : decode cX12_hills 194 = .ok (.goto (-21), 3) := by decide +kernel
theorem dX12_hills_76 : decode cX12_hills 76 = .ok (.aload_n 0, 1) := by decide +kernel
theorem dX12_hills_77 : decode cX12_hills 77 = .ok (.getfield 49, 3) := by decide +kernel
theorem m_1433 : (Cond.fieldLink RX12 49 "CliffJudgesModel" "hasForm" "[Z") ∈ gT := gm 1433 (by decide +kernel) (by decide +kernel)
theorem dX12_hills_80 : decode cX12_hills 80 = .ok (.iload_n 1, 1) := by decide +kernel
theorem dX12_hills_81 : decode cX12_hills 81 = .ok (.aload_n 0, 1) := by decide +kernel
theorem dX12_hills_82 : decode cX12_hills 82 = .ok (.getfield 45, 3) := by decide +kernel
theorem dX12_hills_85 : decode cX12_hills 85 = .ok (.iload_n 1, 1) := by decide +kernel
theorem dX12_hills_86 : decode cX12_hills 86 = .ok (.baload, 1) := by decide +kernel
theorem dX12_hills_87 : decode cX12_hills 87 = .ok (.bastore, 1) := by decide +kernel
theorem dX12_hills_88 : decode cX12_hills 88 = .ok (.aload_n 0, 1) := by decide +kernel
theorem dX12_hills_89 : decode cX12_hills 89 = .ok (.getfield 36, 3) := by decide +kernel
theorem m_1429 : (Cond.fieldLink RX12 36 "CliffJudgesModel" "many" "[I") ∈ gT := gm 1429 (by decide +kernel) (by decide +kernel)
theorem dX12_hills_92 : decode cX12_hills 92 = .ok (.iload_n 1, 1) := by decide +kernel
theorem dX12_hills_93 : decode cX12_hills 93 = .ok (.aload_n 0, 1) := by decide +kernel
theorem dX12_hills_94 : decode cX12_hills 94 = .ok (.getfield 49, 3) := by decide +kernel
theorem dX12_hills_97 : decode cX12_hills 97 = .ok (.iload_n 1, 1) := by decide +kernel
theorem dX12_hills_98 : decode cX12_hills 98 = .ok (.baload, 1) := by decide +kernel
theorem dX12_hills_99 : decode cX12_hills 99 = .ok (.ifCond .eq 12, 3) := by decide +kernel
theorem dX12_hills_111 : decode cX12_hills 111 = .ok (.iconst 0, 1) := by decide +kernel
theorem dX12_hills_112 : decode cX12_hills 112 = .ok (.iastore, 1) := by decide +kernel
theorem dX12_hills_113 : decode cX12_hills 113 = .ok (.sipush 320, 3) := by decide +kernel
theorem dX12_hills_116 : decode cX12_hills 116 = .ok (.iload_n 1, 1) := by decide +kernel
theorem dX12_hills_117 : decode cX12_hills 117 = .ok (.imul, 1) := by decide +kernel
theorem dX12_hills_118 : decode cX12_hills 118 = .ok (.istore_n 2, 1) := by decide +kernel
theorem dX12_hills_119 : decode cX12_hills 119 = .ok (.iload_n 2, 1) := by decide +kernel
theorem dX12_hills_120 : decode cX12_hills 120 = .ok (.sipush 320, 3) := by decide +kernel
theorem dX12_hills_123 : decode cX12_hills 123 = .ok (.iload_n 1, 1) := by decide +kernel
theorem dX12_hills_124 : decode cX12_hills 124 = .ok (.imul, 1) := by decide +kernel
theorem dX12_hills_125 : decode cX12_hills 125 = .ok (.aload_n 0, 1) := by decide +kernel
theorem dX12_hills_126 : decode cX12_hills 126 = .ok (.getfield 36, 3) := by decide +kernel
theorem dX12_hills_129 : decode cX12_hills 129 = .ok (.iload_n 1, 1) := by decide +kernel
theorem dX12_hills_130 : decode cX12_hills 130 = .ok (.iaload, 1) := by decide +kernel
theorem dX12_hills_131 : decode cX12_hills 131 = .ok (.iadd, 1) := by decide +kernel
theorem dX12_hills_132 : decode cX12_hills 132 = .ok (.if_icmp .ge 33, 3) := by decide +kernel
theorem dX12_hills_165 : decode cX12_hills 165 = .ok (.iinc 1 1, 3) := by decide +kernel
theorem dX12_hills_168 : decode cX12_hills 168 = .ok (.goto (-97), 3) := by decide +kernel
set_option maxHeartbeats 400000 in
set_option maxRecDepth 100000 in
theorem m_hills (l : Launch) (D : va_G) (cy : Nat → ClassId) (b0 : Nat) (x0 : Value) (x10 : Value) (x11 : Value) (x12 : Value) (x13 : Value) (x14 : Value) (x15 : Value) (x17 : Value) (x18 : Value) (x21 : Value) (x22 : Value) (x25 : Value) (x26 : Value) (x27 : Value) (x58 : Value) (x59 : Value) (x60 : Value) (x61 : Value) (x62 : Value) (x63 : Value) (x64 : Value) (x65 : Value) (x66 : Value) (x67 : Value) (x70 : Value) (x72 : Value) (x73 : Value) (x74 : Value) (x75 : Value) (x76 : Value) (x77 : Value) (x78 : Value) (x79 : Value) (x80 : Value) (x81 : Value) (x83 : Value) (x84 : Value) (x85 : Value) (x86 : Value) (x88 : Value) (b_nHasForm : Nat) (b_hasForm : Nat) (b_many : Nat) (b_loud : Nat) (b_nLoud : Nat) (b_cliffAt : Nat) (b_nCliffAt : Nat) (b_snowTold : Nat) (b_nSnow : Nat) (b_manAt : Nat) (b_nManAt : Nat) (b_voice : Nat) (b_nVoice : Nat) (b_yes : Nat) (b_nYes : Nat) (b_on : Nat) (b_nOn : Nat) (b_now : Nat) (b_hasBox : Nat) (fl0 : Nat → Int32) (fl1 : Nat → Int32) (fl2 : Nat → Int32) (fl3 : Nat → Int32) (fl4 : Nat → Int32) (fl5 : Nat → Int32) (fl6 : Nat → Int32) (fl7 : Nat → Int32) (fl8 : Nat → Int32) (fl9 : Nat → Int32) (fl10 : Nat → Int32) (fl11 : Nat → Int32) (fl12 : Nat → Int32) (fl13 : Nat → Int32)  : XMi l D (tyL cy) E0 yX12_hills cX12_hills 3 (some .int) (rmk 3 0 0) [.ref b0] [(b0, .inr (12, [x0, .int 0, .int 0, .int (-1), .int 0, .int 0, .int 0, .int 0, .int 0, .long 0, x10, x11, x12, x13, x14, x15, .ref b_many, x17, x18, .ref b_nHasForm, .ref b_hasForm, x21, x22, .int 0, .int 0, x25, x26, x27, .ref b_nLoud, .ref b_nCliffAt, .ref b_nSnow, .ref b_nManAt, .ref b_nVoice, .ref b_nOn, .ref b_loud, .ref b_cliffAt, .ref b_snowTold, .ref b_manAt, .ref b_voice, .ref b_on, .ref b_nYes, .ref b_yes, .int 0, .int 0, .int 0, .int 0, .int 0, .int 0, .int 0, .int 0, .int 0, .int 0, .int 0, .int 0, .int 0, .int 0, .int 0, .ref b_now, x58, x59, x60, x61, x62, x63, x64, x65, x66, x67, .int 0, .int 0, x70, .int 0, x72, x73, x74, x75, x76, x77, x78, x79, x80, x81, .int 0, x83, x84, x85, x86, .ref b_hasBox, x88])), (b_nHasForm, .inl (cy 3, 3, .inl (fun _ => 0))), (b_hasForm, .inl (cy 3, 3, .inl (fun _ => 0))), (b_many, .inl (cy 1, 3, .inl (fun _ => 0))), (b_loud, .inl (cy 1, 8, .inl (fl0))), (b_nLoud, .inl (cy 1, 8, .inl (fl1))), (b_cliffAt, .inl (cy 1, 4, .inl (fl2))), (b_nCliffAt, .inl (cy 1, 4, .inl (fl3))), (b_snowTold, .inl (cy 1, 4, .inl (fl4))), (b_nSnow, .inl (cy 1, 4, .inl (fl5))), (b_manAt, .inl (cy 1, 4, .inl (fl6))), (b_nManAt, .inl (cy 1, 4, .inl (fl7))), (b_voice, .inl (cy 1, 4, .inl (fl8))), (b_nVoice, .inl (cy 1, 4, .inl (fl9))), (b_yes, .inl (cy 3, 6, .inl (fl10))), (b_nYes, .inl (cy 3, 6, .inl (fl11))), (b_on, .inl (cy 1, 48, .inl (fl12))), (b_nOn, .inl (cy 1, 48, .inl (fl13))), (b_now, .inl (cy 1, 42, .inl (fun _ => 0))), (b_hasBox, .inl (cy 3, 3, .inl (fun _ => 0)))] (fun (r : Int32) (_ : Unit) => r = 0) (fun (_ : Unit) => []) := by
  refine XMi.start (by decide) (Nat.le_of_ble_eq_true rfl) ?_
  intro p e s m below meth c args A ls Q hat hQ
  obtain ⟨hx, hb, hr, hml, hown, hg, hlocks, hin, hK, hA, hP, hD, hS, hE, hl⟩ := hat
  have hown : s.vm.findClass RX12 = some m.cls := hown
  have hl : lv_has ls 3 [(0, .ref b0)] := hl
  refine lv_aload_n hx hb dX12_hills_0 rfl (lv_at hl 0 rfl) ?_
  refine x_callVv (q := (RX12, TX12, 89)) (ci := 12) (q0 := 0) (wr := [(b_hasForm, .inl (cy 3, 3, .inl (fun _ => 0))), (b_many, .inl (cy 1, 3, .inl (fun _ => 0))), (b_loud, .inl (cy 1, 8, .inl (fl0))), (b_nLoud, .inl (cy 1, 8, .inl (fl1))), (b_cliffAt, .inl (cy 1, 4, .inl (fl2))), (b_nCliffAt, .inl (cy 1, 4, .inl (fl3))), (b_snowTold, .inl (cy 1, 4, .inl (fl4))), (b_nSnow, .inl (cy 1, 4, .inl (fl5))), (b_manAt, .inl (cy 1, 4, .inl (fl6))), (b_nManAt, .inl (cy 1, 4, .inl (fl7))), (b_voice, .inl (cy 1, 4, .inl (fl8))), (b_nVoice, .inl (cy 1, 4, .inl (fl9))), (b_yes, .inl (cy 3, 6, .inl (fl10))), (b_nYes, .inl (cy 3, 6, .inl (fl11))), (b_on, .inl (cy 1, 48, .inl (fl12))), (b_nOn, .inl (cy 1, 48, .inl (fl13))), (b_now, .inl (cy 1, 42, .inl (fun _ => 0))), (b_hasBox, .inl (cy 3, 3, .inl (fun _ => 0)))]) (rest := []) ⟨hx, hb, hml, hown, hg, hl.1⟩ k_X12_400 (m_readAll l D cy b0 x0 x10 x11 x12 x13 x14 x15 ((.ref b_many)) x17 x18 ((.ref b_hasForm)) x21 x22 ((.int 0)) x25 x26 x27 ((.ref b_nLoud)) ((.ref b_nCliffAt)) ((.ref b_nSnow)) ((.ref b_nManAt)) ((.ref b_nVoice)) ((.ref b_nOn)) ((.ref b_loud)) ((.ref b_cliffAt)) ((.ref b_snowTold)) ((.ref b_manAt)) ((.ref b_voice)) ((.ref b_on)) ((.ref b_nYes)) ((.ref b_yes)) ((.int 0)) ((.int 0)) ((.int 0)) ((.int 0)) ((.int 0)) ((.int 0)) ((.ref b_now)) x58 x59 x60 x61 x62 x63 x64 x65 x66 x67 ((.int 0)) ((.int 0)) x70 ((.int 0)) x72 x73 x74 x75 x76 x77 x78 x79 x80 x81 ((.int 0)) x83 x84 x85 x86 ((.ref b_hasBox)) x88 b_nHasForm) E0_blind hK hP hD hS hA [0, 1] [2, 3, 4, 5, 6, 7, 8, 9, 10, 11, 12, 13, 14, 15, 16, 17, 18, 19] ⟨rfl, rfl, by decide, by decide, by decide⟩ rfl rfl (fun _ _ _ => trivial) dX12_hills_1 rfl rfl (Nat.le_of_ble_eq_true rfl) ⟨Nat.le_of_ble_eq_true rfl, Nat.le_of_ble_eq_true rfl⟩ ⟨Nat.le_of_ble_eq_true rfl, Nat.le_of_ble_eq_true rfl⟩ (fun u1 H locs hw1 hP hD hS => ?_)
  have hP : va_P D vwCl [(b_hasForm, .inl (cy 3, 3, .inl (fun _ => 0))), (b_many, .inl (cy 1, 3, .inl (fun _ => 0))), (b_loud, .inl (cy 1, 8, .inl (fl0))), (b_nLoud, .inl (cy 1, 8, .inl (fl1))), (b_cliffAt, .inl (cy 1, 4, .inl (fl2))), (b_nCliffAt, .inl (cy 1, 4, .inl (fl3))), (b_snowTold, .inl (cy 1, 4, .inl (fl4))), (b_nSnow, .inl (cy 1, 4, .inl (fl5))), (b_manAt, .inl (cy 1, 4, .inl (fl6))), (b_nManAt, .inl (cy 1, 4, .inl (fl7))), (b_voice, .inl (cy 1, 4, .inl (fl8))), (b_nVoice, .inl (cy 1, 4, .inl (fl9))), (b_yes, .inl (cy 3, 6, .inl (fl10))), (b_nYes, .inl (cy 3, 6, .inl (fl11))), (b_on, .inl (cy 1, 48, .inl (fl12))), (b_nOn, .inl (cy 1, 48, .inl (fl13))), (b_now, .inl (cy 1, 42, .inl (fun _ => 0))), (b_hasBox, .inl (cy 3, 3, .inl (fun _ => 0))), (b0, .inr (12, [x0, .int 0, .int 0, .int (-1), .int 0, .int 0, .int 0, .int 0, .int 0, .long 0, x10, x11, x12, x13, x14, x15, .ref b_many, x17, x18, .ref b_nHasForm, .ref b_hasForm, x21, x22, .int 0, .int 0, x25, x26, x27, .ref b_nLoud, .ref b_nCliffAt, .ref b_nSnow, .ref b_nManAt, .ref b_nVoice, .ref b_nOn, .ref b_loud, .ref b_cliffAt, .ref b_snowTold, .ref b_manAt, .ref b_voice, .ref b_on, .ref b_nYes, .ref b_yes, .int 0, .int 0, .int 0, .int 0, .int 0, .int 0, .int 0, .int 0, .int 0, .int 0, .int 0, .int 0, .int 0, .int 0, .int 0, .ref b_now, x58, x59, x60, x61, x62, x63, x64, x65, x66, x67, .int 0, .int 0, x70, .int 0, x72, x73, x74, x75, x76, x77, x78, x79, x80, x81, .int 0, x83, x84, x85, x86, .ref b_hasBox, x88])), (b_nHasForm, .inl (cy 3, 3, .inl (fun _ => 0)))] H := hP
  have hD : va_D A [(b_hasForm, .inl (cy 3, 3, .inl (fun _ => 0))), (b_many, .inl (cy 1, 3, .inl (fun _ => 0))), (b_loud, .inl (cy 1, 8, .inl (fl0))), (b_nLoud, .inl (cy 1, 8, .inl (fl1))), (b_cliffAt, .inl (cy 1, 4, .inl (fl2))), (b_nCliffAt, .inl (cy 1, 4, .inl (fl3))), (b_snowTold, .inl (cy 1, 4, .inl (fl4))), (b_nSnow, .inl (cy 1, 4, .inl (fl5))), (b_manAt, .inl (cy 1, 4, .inl (fl6))), (b_nManAt, .inl (cy 1, 4, .inl (fl7))), (b_voice, .inl (cy 1, 4, .inl (fl8))), (b_nVoice, .inl (cy 1, 4, .inl (fl9))), (b_yes, .inl (cy 3, 6, .inl (fl10))), (b_nYes, .inl (cy 3, 6, .inl (fl11))), (b_on, .inl (cy 1, 48, .inl (fl12))), (b_nOn, .inl (cy 1, 48, .inl (fl13))), (b_now, .inl (cy 1, 42, .inl (fun _ => 0))), (b_hasBox, .inl (cy 3, 3, .inl (fun _ => 0))), (b0, .inr (12, [x0, .int 0, .int 0, .int (-1), .int 0, .int 0, .int 0, .int 0, .int 0, .long 0, x10, x11, x12, x13, x14, x15, .ref b_many, x17, x18, .ref b_nHasForm, .ref b_hasForm, x21, x22, .int 0, .int 0, x25, x26, x27, .ref b_nLoud, .ref b_nCliffAt, .ref b_nSnow, .ref b_nManAt, .ref b_nVoice, .ref b_nOn, .ref b_loud, .ref b_cliffAt, .ref b_snowTold, .ref b_manAt, .ref b_voice, .ref b_on, .ref b_nYes, .ref b_yes, .int 0, .int 0, .int 0, .int 0, .int 0, .int 0, .int 0, .int 0, .int 0, .int 0, .int 0, .int 0, .int 0, .int 0, .int 0, .ref b_now, x58, x59, x60, x61, x62, x63, x64, x65, x66, x67, .int 0, .int 0, x70, .int 0, x72, x73, x74, x75, x76, x77, x78, x79, x80, x81, .int 0, x83, x84, x85, x86, .ref b_hasBox, x88])), (b_nHasForm, .inl (cy 3, 3, .inl (fun _ => 0)))] := hD
  refine W.widen (k := 0) (n := 0) (Nat.le_of_ble_eq_true rfl) (Nat.le_of_ble_eq_true rfl) ?_
  refine lv_aload_n hx hb dX12_hills_4 rfl (lv_at hl 0 rfl) ?_
  refine va_get (D := D) (ci := 12) (v := .int 0) (C := RX12) (T := TX12) (N := 89) hx hb hg i_X12 hown hK hP 18 rfl rfl 2 (by decide) (hg _ m_1415) (fun _ h9 => h9) rfl dX12_hills_5 ?_
  refine lv_if_le (tgt := 13) hx hb dX12_hills_8 (by decide) (fun _ => ?_) (fun h => absurd (by decide) h)
  refine lv_aload_n hx hb dX12_hills_13 rfl (lv_at hl 0 rfl) ?_
  refine lv_aload_n hx hb dX12_hills_14 rfl (lv_at hl 0 rfl) ?_
  refine va_get (D := D) (ci := 12) (v := .int 0) (C := RX12) (T := TX12) (N := 89) hx hb hg i_X12 hown hK hP 18 rfl rfl 42 (by decide) (hg _ m_1455) (fun _ h9 => h9) rfl dX12_hills_15 ?_
  refine va_put (D := D) (ci := 12) (v := .int 0) (ty := .int) (C := RX12) (T := TX12) (N := 89) hx hb hg i_X12 tyX12 tyX12_ok nmX12 hown hK hP hD hS 18 rfl rfl 49 (by decide) (hg _ m_1462) (fun _ h9 => h9) rfl (by decide +kernel) rfl rfl (Nat.le_of_ble_eq_true rfl) dX12_hills_18 (fun H locs hP hD hS => ?_)
  have hP : va_P D vwCl [(b_hasForm, .inl (cy 3, 3, .inl (fun _ => 0))), (b_many, .inl (cy 1, 3, .inl (fun _ => 0))), (b_loud, .inl (cy 1, 8, .inl (fl0))), (b_nLoud, .inl (cy 1, 8, .inl (fl1))), (b_cliffAt, .inl (cy 1, 4, .inl (fl2))), (b_nCliffAt, .inl (cy 1, 4, .inl (fl3))), (b_snowTold, .inl (cy 1, 4, .inl (fl4))), (b_nSnow, .inl (cy 1, 4, .inl (fl5))), (b_manAt, .inl (cy 1, 4, .inl (fl6))), (b_nManAt, .inl (cy 1, 4, .inl (fl7))), (b_voice, .inl (cy 1, 4, .inl (fl8))), (b_nVoice, .inl (cy 1, 4, .inl (fl9))), (b_yes, .inl (cy 3, 6, .inl (fl10))), (b_nYes, .inl (cy 3, 6, .inl (fl11))), (b_on, .inl (cy 1, 48, .inl (fl12))), (b_nOn, .inl (cy 1, 48, .inl (fl13))), (b_now, .inl (cy 1, 42, .inl (fun _ => 0))), (b_hasBox, .inl (cy 3, 3, .inl (fun _ => 0))), (b0, .inr (12, [x0, .int 0, .int 0, .int (-1), .int 0, .int 0, .int 0, .int 0, .int 0, .long 0, x10, x11, x12, x13, x14, x15, .ref b_many, x17, x18, .ref b_nHasForm, .ref b_hasForm, x21, x22, .int 0, .int 0, x25, x26, x27, .ref b_nLoud, .ref b_nCliffAt, .ref b_nSnow, .ref b_nManAt, .ref b_nVoice, .ref b_nOn, .ref b_loud, .ref b_cliffAt, .ref b_snowTold, .ref b_manAt, .ref b_voice, .ref b_on, .ref b_nYes, .ref b_yes, .int 0, .int 0, .int 0, .int 0, .int 0, .int 0, .int 0, .int 0, .int 0, .int 0, .int 0, .int 0, .int 0, .int 0, .int 0, .ref b_now, x58, x59, x60, x61, x62, x63, x64, x65, x66, x67, .int 0, .int 0, x70, .int 0, x72, x73, x74, x75, x76, x77, x78, x79, x80, x81, .int 0, x83, x84, x85, x86, .ref b_hasBox, x88])), (b_nHasForm, .inl (cy 3, 3, .inl (fun _ => 0)))] H := hP
  have hD : va_D A [(b_hasForm, .inl (cy 3, 3, .inl (fun _ => 0))), (b_many, .inl (cy 1, 3, .inl (fun _ => 0))), (b_loud, .inl (cy 1, 8, .inl (fl0))), (b_nLoud, .inl (cy 1, 8, .inl (fl1))), (b_cliffAt, .inl (cy 1, 4, .inl (fl2))), (b_nCliffAt, .inl (cy 1, 4, .inl (fl3))), (b_snowTold, .inl (cy 1, 4, .inl (fl4))), (b_nSnow, .inl (cy 1, 4, .inl (fl5))), (b_manAt, .inl (cy 1, 4, .inl (fl6))), (b_nManAt, .inl (cy 1, 4, .inl (fl7))), (b_voice, .inl (cy 1, 4, .inl (fl8))), (b_nVoice, .inl (cy 1, 4, .inl (fl9))), (b_yes, .inl (cy 3, 6, .inl (fl10))), (b_nYes, .inl (cy 3, 6, .inl (fl11))), (b_on, .inl (cy 1, 48, .inl (fl12))), (b_nOn, .inl (cy 1, 48, .inl (fl13))), (b_now, .inl (cy 1, 42, .inl (fun _ => 0))), (b_hasBox, .inl (cy 3, 3, .inl (fun _ => 0))), (b0, .inr (12, [x0, .int 0, .int 0, .int (-1), .int 0, .int 0, .int 0, .int 0, .int 0, .long 0, x10, x11, x12, x13, x14, x15, .ref b_many, x17, x18, .ref b_nHasForm, .ref b_hasForm, x21, x22, .int 0, .int 0, x25, x26, x27, .ref b_nLoud, .ref b_nCliffAt, .ref b_nSnow, .ref b_nManAt, .ref b_nVoice, .ref b_nOn, .ref b_loud, .ref b_cliffAt, .ref b_snowTold, .ref b_manAt, .ref b_voice, .ref b_on, .ref b_nYes, .ref b_yes, .int 0, .int 0, .int 0, .int 0, .int 0, .int 0, .int 0, .int 0, .int 0, .int 0, .int 0, .int 0, .int 0, .int 0, .int 0, .ref b_now, x58, x59, x60, x61, x62, x63, x64, x65, x66, x67, .int 0, .int 0, x70, .int 0, x72, x73, x74, x75, x76, x77, x78, x79, x80, x81, .int 0, x83, x84, x85, x86, .ref b_hasBox, x88])), (b_nHasForm, .inl (cy 3, 3, .inl (fun _ => 0)))] := hD
  refine lv_aload_n hx hb dX12_hills_21 rfl (lv_at hl 0 rfl) ?_
  refine lv_aload_n hx hb dX12_hills_22 rfl (lv_at hl 0 rfl) ?_
  refine va_get (D := D) (ci := 12) (v := .int 0) (C := RX12) (T := TX12) (N := 89) hx hb hg i_X12 hown hK hP 18 rfl rfl 43 (by decide) (hg _ m_1456) (fun _ h9 => h9) rfl dX12_hills_23 ?_
  refine va_put (D := D) (ci := 12) (v := .int 0) (ty := .int) (C := RX12) (T := TX12) (N := 89) hx hb hg i_X12 tyX12 tyX12_ok nmX12 hown hK hP hD hS 18 rfl rfl 50 (by decide) (hg _ m_1463) (fun _ h9 => h9) rfl (by decide +kernel) rfl rfl (Nat.le_of_ble_eq_true rfl) dX12_hills_26 (fun H locs hP hD hS => ?_)
  have hP : va_P D vwCl [(b_hasForm, .inl (cy 3, 3, .inl (fun _ => 0))), (b_many, .inl (cy 1, 3, .inl (fun _ => 0))), (b_loud, .inl (cy 1, 8, .inl (fl0))), (b_nLoud, .inl (cy 1, 8, .inl (fl1))), (b_cliffAt, .inl (cy 1, 4, .inl (fl2))), (b_nCliffAt, .inl (cy 1, 4, .inl (fl3))), (b_snowTold, .inl (cy 1, 4, .inl (fl4))), (b_nSnow, .inl (cy 1, 4, .inl (fl5))), (b_manAt, .inl (cy 1, 4, .inl (fl6))), (b_nManAt, .inl (cy 1, 4, .inl (fl7))), (b_voice, .inl (cy 1, 4, .inl (fl8))), (b_nVoice, .inl (cy 1, 4, .inl (fl9))), (b_yes, .inl (cy 3, 6, .inl (fl10))), (b_nYes, .inl (cy 3, 6, .inl (fl11))), (b_on, .inl (cy 1, 48, .inl (fl12))), (b_nOn, .inl (cy 1, 48, .inl (fl13))), (b_now, .inl (cy 1, 42, .inl (fun _ => 0))), (b_hasBox, .inl (cy 3, 3, .inl (fun _ => 0))), (b0, .inr (12, [x0, .int 0, .int 0, .int (-1), .int 0, .int 0, .int 0, .int 0, .int 0, .long 0, x10, x11, x12, x13, x14, x15, .ref b_many, x17, x18, .ref b_nHasForm, .ref b_hasForm, x21, x22, .int 0, .int 0, x25, x26, x27, .ref b_nLoud, .ref b_nCliffAt, .ref b_nSnow, .ref b_nManAt, .ref b_nVoice, .ref b_nOn, .ref b_loud, .ref b_cliffAt, .ref b_snowTold, .ref b_manAt, .ref b_voice, .ref b_on, .ref b_nYes, .ref b_yes, .int 0, .int 0, .int 0, .int 0, .int 0, .int 0, .int 0, .int 0, .int 0, .int 0, .int 0, .int 0, .int 0, .int 0, .int 0, .ref b_now, x58, x59, x60, x61, x62, x63, x64, x65, x66, x67, .int 0, .int 0, x70, .int 0, x72, x73, x74, x75, x76, x77, x78, x79, x80, x81, .int 0, x83, x84, x85, x86, .ref b_hasBox, x88])), (b_nHasForm, .inl (cy 3, 3, .inl (fun _ => 0)))] H := hP
  have hD : va_D A [(b_hasForm, .inl (cy 3, 3, .inl (fun _ => 0))), (b_many, .inl (cy 1, 3, .inl (fun _ => 0))), (b_loud, .inl (cy 1, 8, .inl (fl0))), (b_nLoud, .inl (cy 1, 8, .inl (fl1))), (b_cliffAt, .inl (cy 1, 4, .inl (fl2))), (b_nCliffAt, .inl (cy 1, 4, .inl (fl3))), (b_snowTold, .inl (cy 1, 4, .inl (fl4))), (b_nSnow, .inl (cy 1, 4, .inl (fl5))), (b_manAt, .inl (cy 1, 4, .inl (fl6))), (b_nManAt, .inl (cy 1, 4, .inl (fl7))), (b_voice, .inl (cy 1, 4, .inl (fl8))), (b_nVoice, .inl (cy 1, 4, .inl (fl9))), (b_yes, .inl (cy 3, 6, .inl (fl10))), (b_nYes, .inl (cy 3, 6, .inl (fl11))), (b_on, .inl (cy 1, 48, .inl (fl12))), (b_nOn, .inl (cy 1, 48, .inl (fl13))), (b_now, .inl (cy 1, 42, .inl (fun _ => 0))), (b_hasBox, .inl (cy 3, 3, .inl (fun _ => 0))), (b0, .inr (12, [x0, .int 0, .int 0, .int (-1), .int 0, .int 0, .int 0, .int 0, .int 0, .long 0, x10, x11, x12, x13, x14, x15, .ref b_many, x17, x18, .ref b_nHasForm, .ref b_hasForm, x21, x22, .int 0, .int 0, x25, x26, x27, .ref b_nLoud, .ref b_nCliffAt, .ref b_nSnow, .ref b_nManAt, .ref b_nVoice, .ref b_nOn, .ref b_loud, .ref b_cliffAt, .ref b_snowTold, .ref b_manAt, .ref b_voice, .ref b_on, .ref b_nYes, .ref b_yes, .int 0, .int 0, .int 0, .int 0, .int 0, .int 0, .int 0, .int 0, .int 0, .int 0, .int 0, .int 0, .int 0, .int 0, .int 0, .ref b_now, x58, x59, x60, x61, x62, x63, x64, x65, x66, x67, .int 0, .int 0, x70, .int 0, x72, x73, x74, x75, x76, x77, x78, x79, x80, x81, .int 0, x83, x84, x85, x86, .ref b_hasBox, x88])), (b_nHasForm, .inl (cy 3, 3, .inl (fun _ => 0)))] := hD
  refine lv_aload_n hx hb dX12_hills_29 rfl (lv_at hl 0 rfl) ?_
  refine lv_aload_n hx hb dX12_hills_30 rfl (lv_at hl 0 rfl) ?_
  refine va_get (D := D) (ci := 12) (v := .int 0) (C := RX12) (T := TX12) (N := 89) hx hb hg i_X12 hown hK hP 18 rfl rfl 44 (by decide) (hg _ m_1457) (fun _ h9 => h9) rfl dX12_hills_31 ?_
  refine va_put (D := D) (ci := 12) (v := .int 0) (ty := .int) (C := RX12) (T := TX12) (N := 89) hx hb hg i_X12 tyX12 tyX12_ok nmX12 hown hK hP hD hS 18 rfl rfl 51 (by decide) (hg _ m_1464) (fun _ h9 => h9) rfl (by decide +kernel) rfl rfl (Nat.le_of_ble_eq_true rfl) dX12_hills_34 (fun H locs hP hD hS => ?_)
  have hP : va_P D vwCl [(b_hasForm, .inl (cy 3, 3, .inl (fun _ => 0))), (b_many, .inl (cy 1, 3, .inl (fun _ => 0))), (b_loud, .inl (cy 1, 8, .inl (fl0))), (b_nLoud, .inl (cy 1, 8, .inl (fl1))), (b_cliffAt, .inl (cy 1, 4, .inl (fl2))), (b_nCliffAt, .inl (cy 1, 4, .inl (fl3))), (b_snowTold, .inl (cy 1, 4, .inl (fl4))), (b_nSnow, .inl (cy 1, 4, .inl (fl5))), (b_manAt, .inl (cy 1, 4, .inl (fl6))), (b_nManAt, .inl (cy 1, 4, .inl (fl7))), (b_voice, .inl (cy 1, 4, .inl (fl8))), (b_nVoice, .inl (cy 1, 4, .inl (fl9))), (b_yes, .inl (cy 3, 6, .inl (fl10))), (b_nYes, .inl (cy 3, 6, .inl (fl11))), (b_on, .inl (cy 1, 48, .inl (fl12))), (b_nOn, .inl (cy 1, 48, .inl (fl13))), (b_now, .inl (cy 1, 42, .inl (fun _ => 0))), (b_hasBox, .inl (cy 3, 3, .inl (fun _ => 0))), (b0, .inr (12, [x0, .int 0, .int 0, .int (-1), .int 0, .int 0, .int 0, .int 0, .int 0, .long 0, x10, x11, x12, x13, x14, x15, .ref b_many, x17, x18, .ref b_nHasForm, .ref b_hasForm, x21, x22, .int 0, .int 0, x25, x26, x27, .ref b_nLoud, .ref b_nCliffAt, .ref b_nSnow, .ref b_nManAt, .ref b_nVoice, .ref b_nOn, .ref b_loud, .ref b_cliffAt, .ref b_snowTold, .ref b_manAt, .ref b_voice, .ref b_on, .ref b_nYes, .ref b_yes, .int 0, .int 0, .int 0, .int 0, .int 0, .int 0, .int 0, .int 0, .int 0, .int 0, .int 0, .int 0, .int 0, .int 0, .int 0, .ref b_now, x58, x59, x60, x61, x62, x63, x64, x65, x66, x67, .int 0, .int 0, x70, .int 0, x72, x73, x74, x75, x76, x77, x78, x79, x80, x81, .int 0, x83, x84, x85, x86, .ref b_hasBox, x88])), (b_nHasForm, .inl (cy 3, 3, .inl (fun _ => 0)))] H := hP
  have hD : va_D A [(b_hasForm, .inl (cy 3, 3, .inl (fun _ => 0))), (b_many, .inl (cy 1, 3, .inl (fun _ => 0))), (b_loud, .inl (cy 1, 8, .inl (fl0))), (b_nLoud, .inl (cy 1, 8, .inl (fl1))), (b_cliffAt, .inl (cy 1, 4, .inl (fl2))), (b_nCliffAt, .inl (cy 1, 4, .inl (fl3))), (b_snowTold, .inl (cy 1, 4, .inl (fl4))), (b_nSnow, .inl (cy 1, 4, .inl (fl5))), (b_manAt, .inl (cy 1, 4, .inl (fl6))), (b_nManAt, .inl (cy 1, 4, .inl (fl7))), (b_voice, .inl (cy 1, 4, .inl (fl8))), (b_nVoice, .inl (cy 1, 4, .inl (fl9))), (b_yes, .inl (cy 3, 6, .inl (fl10))), (b_nYes, .inl (cy 3, 6, .inl (fl11))), (b_on, .inl (cy 1, 48, .inl (fl12))), (b_nOn, .inl (cy 1, 48, .inl (fl13))), (b_now, .inl (cy 1, 42, .inl (fun _ => 0))), (b_hasBox, .inl (cy 3, 3, .inl (fun _ => 0))), (b0, .inr (12, [x0, .int 0, .int 0, .int (-1), .int 0, .int 0, .int 0, .int 0, .int 0, .long 0, x10, x11, x12, x13, x14, x15, .ref b_many, x17, x18, .ref b_nHasForm, .ref b_hasForm, x21, x22, .int 0, .int 0, x25, x26, x27, .ref b_nLoud, .ref b_nCliffAt, .ref b_nSnow, .ref b_nManAt, .ref b_nVoice, .ref b_nOn, .ref b_loud, .ref b_cliffAt, .ref b_snowTold, .ref b_manAt, .ref b_voice, .ref b_on, .ref b_nYes, .ref b_yes, .int 0, .int 0, .int 0, .int 0, .int 0, .int 0, .int 0, .int 0, .int 0, .int 0, .int 0, .int 0, .int 0, .int 0, .int 0, .ref b_now, x58, x59, x60, x61, x62, x63, x64, x65, x66, x67, .int 0, .int 0, x70, .int 0, x72, x73, x74, x75, x76, x77, x78, x79, x80, x81, .int 0, x83, x84, x85, x86, .ref b_hasBox, x88])), (b_nHasForm, .inl (cy 3, 3, .inl (fun _ => 0)))] := hD
  refine lv_aload_n hx hb dX12_hills_37 rfl (lv_at hl 0 rfl) ?_
  refine lv_aload_n hx hb dX12_hills_38 rfl (lv_at hl 0 rfl) ?_
  refine va_get (D := D) (ci := 12) (v := .int 0) (C := RX12) (T := TX12) (N := 89) hx hb hg i_X12 hown hK hP 18 rfl rfl 45 (by decide) (hg _ m_1458) (fun _ h9 => h9) rfl dX12_hills_39 ?_
  refine va_put (D := D) (ci := 12) (v := .int 0) (ty := .int) (C := RX12) (T := TX12) (N := 89) hx hb hg i_X12 tyX12 tyX12_ok nmX12 hown hK hP hD hS 18 rfl rfl 52 (by decide) (hg _ m_1465) (fun _ h9 => h9) rfl (by decide +kernel) rfl rfl (Nat.le_of_ble_eq_true rfl) dX12_hills_42 (fun H locs hP hD hS => ?_)
  have hP : va_P D vwCl [(b_hasForm, .inl (cy 3, 3, .inl (fun _ => 0))), (b_many, .inl (cy 1, 3, .inl (fun _ => 0))), (b_loud, .inl (cy 1, 8, .inl (fl0))), (b_nLoud, .inl (cy 1, 8, .inl (fl1))), (b_cliffAt, .inl (cy 1, 4, .inl (fl2))), (b_nCliffAt, .inl (cy 1, 4, .inl (fl3))), (b_snowTold, .inl (cy 1, 4, .inl (fl4))), (b_nSnow, .inl (cy 1, 4, .inl (fl5))), (b_manAt, .inl (cy 1, 4, .inl (fl6))), (b_nManAt, .inl (cy 1, 4, .inl (fl7))), (b_voice, .inl (cy 1, 4, .inl (fl8))), (b_nVoice, .inl (cy 1, 4, .inl (fl9))), (b_yes, .inl (cy 3, 6, .inl (fl10))), (b_nYes, .inl (cy 3, 6, .inl (fl11))), (b_on, .inl (cy 1, 48, .inl (fl12))), (b_nOn, .inl (cy 1, 48, .inl (fl13))), (b_now, .inl (cy 1, 42, .inl (fun _ => 0))), (b_hasBox, .inl (cy 3, 3, .inl (fun _ => 0))), (b0, .inr (12, [x0, .int 0, .int 0, .int (-1), .int 0, .int 0, .int 0, .int 0, .int 0, .long 0, x10, x11, x12, x13, x14, x15, .ref b_many, x17, x18, .ref b_nHasForm, .ref b_hasForm, x21, x22, .int 0, .int 0, x25, x26, x27, .ref b_nLoud, .ref b_nCliffAt, .ref b_nSnow, .ref b_nManAt, .ref b_nVoice, .ref b_nOn, .ref b_loud, .ref b_cliffAt, .ref b_snowTold, .ref b_manAt, .ref b_voice, .ref b_on, .ref b_nYes, .ref b_yes, .int 0, .int 0, .int 0, .int 0, .int 0, .int 0, .int 0, .int 0, .int 0, .int 0, .int 0, .int 0, .int 0, .int 0, .int 0, .ref b_now, x58, x59, x60, x61, x62, x63, x64, x65, x66, x67, .int 0, .int 0, x70, .int 0, x72, x73, x74, x75, x76, x77, x78, x79, x80, x81, .int 0, x83, x84, x85, x86, .ref b_hasBox, x88])), (b_nHasForm, .inl (cy 3, 3, .inl (fun _ => 0)))] H := hP
  have hD : va_D A [(b_hasForm, .inl (cy 3, 3, .inl (fun _ => 0))), (b_many, .inl (cy 1, 3, .inl (fun _ => 0))), (b_loud, .inl (cy 1, 8, .inl (fl0))), (b_nLoud, .inl (cy 1, 8, .inl (fl1))), (b_cliffAt, .inl (cy 1, 4, .inl (fl2))), (b_nCliffAt, .inl (cy 1, 4, .inl (fl3))), (b_snowTold, .inl (cy 1, 4, .inl (fl4))), (b_nSnow, .inl (cy 1, 4, .inl (fl5))), (b_manAt, .inl (cy 1, 4, .inl (fl6))), (b_nManAt, .inl (cy 1, 4, .inl (fl7))), (b_voice, .inl (cy 1, 4, .inl (fl8))), (b_nVoice, .inl (cy 1, 4, .inl (fl9))), (b_yes, .inl (cy 3, 6, .inl (fl10))), (b_nYes, .inl (cy 3, 6, .inl (fl11))), (b_on, .inl (cy 1, 48, .inl (fl12))), (b_nOn, .inl (cy 1, 48, .inl (fl13))), (b_now, .inl (cy 1, 42, .inl (fun _ => 0))), (b_hasBox, .inl (cy 3, 3, .inl (fun _ => 0))), (b0, .inr (12, [x0, .int 0, .int 0, .int (-1), .int 0, .int 0, .int 0, .int 0, .int 0, .long 0, x10, x11, x12, x13, x14, x15, .ref b_many, x17, x18, .ref b_nHasForm, .ref b_hasForm, x21, x22, .int 0, .int 0, x25, x26, x27, .ref b_nLoud, .ref b_nCliffAt, .ref b_nSnow, .ref b_nManAt, .ref b_nVoice, .ref b_nOn, .ref b_loud, .ref b_cliffAt, .ref b_snowTold, .ref b_manAt, .ref b_voice, .ref b_on, .ref b_nYes, .ref b_yes, .int 0, .int 0, .int 0, .int 0, .int 0, .int 0, .int 0, .int 0, .int 0, .int 0, .int 0, .int 0, .int 0, .int 0, .int 0, .ref b_now, x58, x59, x60, x61, x62, x63, x64, x65, x66, x67, .int 0, .int 0, x70, .int 0, x72, x73, x74, x75, x76, x77, x78, x79, x80, x81, .int 0, x83, x84, x85, x86, .ref b_hasBox, x88])), (b_nHasForm, .inl (cy 3, 3, .inl (fun _ => 0)))] := hD
  refine lv_aload_n hx hb dX12_hills_45 rfl (lv_at hl 0 rfl) ?_
  refine lv_aload_n hx hb dX12_hills_46 rfl (lv_at hl 0 rfl) ?_
  refine va_get (D := D) (ci := 12) (v := .int 0) (C := RX12) (T := TX12) (N := 89) hx hb hg i_X12 hown hK hP 18 rfl rfl 46 (by decide) (hg _ m_1459) (fun _ h9 => h9) rfl dX12_hills_47 ?_
  refine va_put (D := D) (ci := 12) (v := .int 0) (ty := .int) (C := RX12) (T := TX12) (N := 89) hx hb hg i_X12 tyX12 tyX12_ok nmX12 hown hK hP hD hS 18 rfl rfl 53 (by decide) (hg _ m_1466) (fun _ h9 => h9) rfl (by decide +kernel) rfl rfl (Nat.le_of_ble_eq_true rfl) dX12_hills_50 (fun H locs hP hD hS => ?_)
  have hP : va_P D vwCl [(b_hasForm, .inl (cy 3, 3, .inl (fun _ => 0))), (b_many, .inl (cy 1, 3, .inl (fun _ => 0))), (b_loud, .inl (cy 1, 8, .inl (fl0))), (b_nLoud, .inl (cy 1, 8, .inl (fl1))), (b_cliffAt, .inl (cy 1, 4, .inl (fl2))), (b_nCliffAt, .inl (cy 1, 4, .inl (fl3))), (b_snowTold, .inl (cy 1, 4, .inl (fl4))), (b_nSnow, .inl (cy 1, 4, .inl (fl5))), (b_manAt, .inl (cy 1, 4, .inl (fl6))), (b_nManAt, .inl (cy 1, 4, .inl (fl7))), (b_voice, .inl (cy 1, 4, .inl (fl8))), (b_nVoice, .inl (cy 1, 4, .inl (fl9))), (b_yes, .inl (cy 3, 6, .inl (fl10))), (b_nYes, .inl (cy 3, 6, .inl (fl11))), (b_on, .inl (cy 1, 48, .inl (fl12))), (b_nOn, .inl (cy 1, 48, .inl (fl13))), (b_now, .inl (cy 1, 42, .inl (fun _ => 0))), (b_hasBox, .inl (cy 3, 3, .inl (fun _ => 0))), (b0, .inr (12, [x0, .int 0, .int 0, .int (-1), .int 0, .int 0, .int 0, .int 0, .int 0, .long 0, x10, x11, x12, x13, x14, x15, .ref b_many, x17, x18, .ref b_nHasForm, .ref b_hasForm, x21, x22, .int 0, .int 0, x25, x26, x27, .ref b_nLoud, .ref b_nCliffAt, .ref b_nSnow, .ref b_nManAt, .ref b_nVoice, .ref b_nOn, .ref b_loud, .ref b_cliffAt, .ref b_snowTold, .ref b_manAt, .ref b_voice, .ref b_on, .ref b_nYes, .ref b_yes, .int 0, .int 0, .int 0, .int 0, .int 0, .int 0, .int 0, .int 0, .int 0, .int 0, .int 0, .int 0, .int 0, .int 0, .int 0, .ref b_now, x58, x59, x60, x61, x62, x63, x64, x65, x66, x67, .int 0, .int 0, x70, .int 0, x72, x73, x74, x75, x76, x77, x78, x79, x80, x81, .int 0, x83, x84, x85, x86, .ref b_hasBox, x88])), (b_nHasForm, .inl (cy 3, 3, .inl (fun _ => 0)))] H := hP
  have hD : va_D A [(b_hasForm, .inl (cy 3, 3, .inl (fun _ => 0))), (b_many, .inl (cy 1, 3, .inl (fun _ => 0))), (b_loud, .inl (cy 1, 8, .inl (fl0))), (b_nLoud, .inl (cy 1, 8, .inl (fl1))), (b_cliffAt, .inl (cy 1, 4, .inl (fl2))), (b_nCliffAt, .inl (cy 1, 4, .inl (fl3))), (b_snowTold, .inl (cy 1, 4, .inl (fl4))), (b_nSnow, .inl (cy 1, 4, .inl (fl5))), (b_manAt, .inl (cy 1, 4, .inl (fl6))), (b_nManAt, .inl (cy 1, 4, .inl (fl7))), (b_voice, .inl (cy 1, 4, .inl (fl8))), (b_nVoice, .inl (cy 1, 4, .inl (fl9))), (b_yes, .inl (cy 3, 6, .inl (fl10))), (b_nYes, .inl (cy 3, 6, .inl (fl11))), (b_on, .inl (cy 1, 48, .inl (fl12))), (b_nOn, .inl (cy 1, 48, .inl (fl13))), (b_now, .inl (cy 1, 42, .inl (fun _ => 0))), (b_hasBox, .inl (cy 3, 3, .inl (fun _ => 0))), (b0, .inr (12, [x0, .int 0, .int 0, .int (-1), .int 0, .int 0, .int 0, .int 0, .int 0, .long 0, x10, x11, x12, x13, x14, x15, .ref b_many, x17, x18, .ref b_nHasForm, .ref b_hasForm, x21, x22, .int 0, .int 0, x25, x26, x27, .ref b_nLoud, .ref b_nCliffAt, .ref b_nSnow, .ref b_nManAt, .ref b_nVoice, .ref b_nOn, .ref b_loud, .ref b_cliffAt, .ref b_snowTold, .ref b_manAt, .ref b_voice, .ref b_on, .ref b_nYes, .ref b_yes, .int 0, .int 0, .int 0, .int 0, .int 0, .int 0, .int 0, .int 0, .int 0, .int 0, .int 0, .int 0, .int 0, .int 0, .int 0, .ref b_now, x58, x59, x60, x61, x62, x63, x64, x65, x66, x67, .int 0, .int 0, x70, .int 0, x72, x73, x74, x75, x76, x77, x78, x79, x80, x81, .int 0, x83, x84, x85, x86, .ref b_hasBox, x88])), (b_nHasForm, .inl (cy 3, 3, .inl (fun _ => 0)))] := hD
  refine lv_aload_n hx hb dX12_hills_53 rfl (lv_at hl 0 rfl) ?_
  refine lv_aload_n hx hb dX12_hills_54 rfl (lv_at hl 0 rfl) ?_
  refine va_get (D := D) (ci := 12) (v := .int 0) (C := RX12) (T := TX12) (N := 89) hx hb hg i_X12 hown hK hP 18 rfl rfl 47 (by decide) (hg _ m_1460) (fun _ h9 => h9) rfl dX12_hills_55 ?_
  refine va_put (D := D) (ci := 12) (v := .int 0) (ty := .int) (C := RX12) (T := TX12) (N := 89) hx hb hg i_X12 tyX12 tyX12_ok nmX12 hown hK hP hD hS 18 rfl rfl 54 (by decide) (hg _ m_1467) (fun _ h9 => h9) rfl (by decide +kernel) rfl rfl (Nat.le_of_ble_eq_true rfl) dX12_hills_58 (fun H locs hP hD hS => ?_)
  have hP : va_P D vwCl [(b_hasForm, .inl (cy 3, 3, .inl (fun _ => 0))), (b_many, .inl (cy 1, 3, .inl (fun _ => 0))), (b_loud, .inl (cy 1, 8, .inl (fl0))), (b_nLoud, .inl (cy 1, 8, .inl (fl1))), (b_cliffAt, .inl (cy 1, 4, .inl (fl2))), (b_nCliffAt, .inl (cy 1, 4, .inl (fl3))), (b_snowTold, .inl (cy 1, 4, .inl (fl4))), (b_nSnow, .inl (cy 1, 4, .inl (fl5))), (b_manAt, .inl (cy 1, 4, .inl (fl6))), (b_nManAt, .inl (cy 1, 4, .inl (fl7))), (b_voice, .inl (cy 1, 4, .inl (fl8))), (b_nVoice, .inl (cy 1, 4, .inl (fl9))), (b_yes, .inl (cy 3, 6, .inl (fl10))), (b_nYes, .inl (cy 3, 6, .inl (fl11))), (b_on, .inl (cy 1, 48, .inl (fl12))), (b_nOn, .inl (cy 1, 48, .inl (fl13))), (b_now, .inl (cy 1, 42, .inl (fun _ => 0))), (b_hasBox, .inl (cy 3, 3, .inl (fun _ => 0))), (b0, .inr (12, [x0, .int 0, .int 0, .int (-1), .int 0, .int 0, .int 0, .int 0, .int 0, .long 0, x10, x11, x12, x13, x14, x15, .ref b_many, x17, x18, .ref b_nHasForm, .ref b_hasForm, x21, x22, .int 0, .int 0, x25, x26, x27, .ref b_nLoud, .ref b_nCliffAt, .ref b_nSnow, .ref b_nManAt, .ref b_nVoice, .ref b_nOn, .ref b_loud, .ref b_cliffAt, .ref b_snowTold, .ref b_manAt, .ref b_voice, .ref b_on, .ref b_nYes, .ref b_yes, .int 0, .int 0, .int 0, .int 0, .int 0, .int 0, .int 0, .int 0, .int 0, .int 0, .int 0, .int 0, .int 0, .int 0, .int 0, .ref b_now, x58, x59, x60, x61, x62, x63, x64, x65, x66, x67, .int 0, .int 0, x70, .int 0, x72, x73, x74, x75, x76, x77, x78, x79, x80, x81, .int 0, x83, x84, x85, x86, .ref b_hasBox, x88])), (b_nHasForm, .inl (cy 3, 3, .inl (fun _ => 0)))] H := hP
  have hD : va_D A [(b_hasForm, .inl (cy 3, 3, .inl (fun _ => 0))), (b_many, .inl (cy 1, 3, .inl (fun _ => 0))), (b_loud, .inl (cy 1, 8, .inl (fl0))), (b_nLoud, .inl (cy 1, 8, .inl (fl1))), (b_cliffAt, .inl (cy 1, 4, .inl (fl2))), (b_nCliffAt, .inl (cy 1, 4, .inl (fl3))), (b_snowTold, .inl (cy 1, 4, .inl (fl4))), (b_nSnow, .inl (cy 1, 4, .inl (fl5))), (b_manAt, .inl (cy 1, 4, .inl (fl6))), (b_nManAt, .inl (cy 1, 4, .inl (fl7))), (b_voice, .inl (cy 1, 4, .inl (fl8))), (b_nVoice, .inl (cy 1, 4, .inl (fl9))), (b_yes, .inl (cy 3, 6, .inl (fl10))), (b_nYes, .inl (cy 3, 6, .inl (fl11))), (b_on, .inl (cy 1, 48, .inl (fl12))), (b_nOn, .inl (cy 1, 48, .inl (fl13))), (b_now, .inl (cy 1, 42, .inl (fun _ => 0))), (b_hasBox, .inl (cy 3, 3, .inl (fun _ => 0))), (b0, .inr (12, [x0, .int 0, .int 0, .int (-1), .int 0, .int 0, .int 0, .int 0, .int 0, .long 0, x10, x11, x12, x13, x14, x15, .ref b_many, x17, x18, .ref b_nHasForm, .ref b_hasForm, x21, x22, .int 0, .int 0, x25, x26, x27, .ref b_nLoud, .ref b_nCliffAt, .ref b_nSnow, .ref b_nManAt, .ref b_nVoice, .ref b_nOn, .ref b_loud, .ref b_cliffAt, .ref b_snowTold, .ref b_manAt, .ref b_voice, .ref b_on, .ref b_nYes, .ref b_yes, .int 0, .int 0, .int 0, .int 0, .int 0, .int 0, .int 0, .int 0, .int 0, .int 0, .int 0, .int 0, .int 0, .int 0, .int 0, .ref b_now, x58, x59, x60, x61, x62, x63, x64, x65, x66, x67, .int 0, .int 0, x70, .int 0, x72, x73, x74, x75, x76, x77, x78, x79, x80, x81, .int 0, x83, x84, x85, x86, .ref b_hasBox, x88])), (b_nHasForm, .inl (cy 3, 3, .inl (fun _ => 0)))] := hD
  refine lv_aload_n hx hb dX12_hills_61 rfl (lv_at hl 0 rfl) ?_
  refine lv_aload_n hx hb dX12_hills_62 rfl (lv_at hl 0 rfl) ?_
  refine va_get (D := D) (ci := 12) (v := .int 0) (C := RX12) (T := TX12) (N := 89) hx hb hg i_X12 hown hK hP 18 rfl rfl 23 (by decide) (hg _ m_1436) (fun _ h9 => h9) rfl dX12_hills_63 ?_
  refine va_put (D := D) (ci := 12) (v := .int 0) (ty := .int) (C := RX12) (T := TX12) (N := 89) hx hb hg i_X12 tyX12 tyX12_ok nmX12 hown hK hP hD hS 18 rfl rfl 24 (by decide) (hg _ m_1437) (fun _ h9 => h9) rfl (by decide +kernel) rfl rfl (Nat.le_of_ble_eq_true rfl) dX12_hills_66 (fun H locs hP hD hS => ?_)
  have hP : va_P D vwCl [(b_hasForm, .inl (cy 3, 3, .inl (fun _ => 0))), (b_many, .inl (cy 1, 3, .inl (fun _ => 0))), (b_loud, .inl (cy 1, 8, .inl (fl0))), (b_nLoud, .inl (cy 1, 8, .inl (fl1))), (b_cliffAt, .inl (cy 1, 4, .inl (fl2))), (b_nCliffAt, .inl (cy 1, 4, .inl (fl3))), (b_snowTold, .inl (cy 1, 4, .inl (fl4))), (b_nSnow, .inl (cy 1, 4, .inl (fl5))), (b_manAt, .inl (cy 1, 4, .inl (fl6))), (b_nManAt, .inl (cy 1, 4, .inl (fl7))), (b_voice, .inl (cy 1, 4, .inl (fl8))), (b_nVoice, .inl (cy 1, 4, .inl (fl9))), (b_yes, .inl (cy 3, 6, .inl (fl10))), (b_nYes, .inl (cy 3, 6, .inl (fl11))), (b_on, .inl (cy 1, 48, .inl (fl12))), (b_nOn, .inl (cy 1, 48, .inl (fl13))), (b_now, .inl (cy 1, 42, .inl (fun _ => 0))), (b_hasBox, .inl (cy 3, 3, .inl (fun _ => 0))), (b0, .inr (12, [x0, .int 0, .int 0, .int (-1), .int 0, .int 0, .int 0, .int 0, .int 0, .long 0, x10, x11, x12, x13, x14, x15, .ref b_many, x17, x18, .ref b_nHasForm, .ref b_hasForm, x21, x22, .int 0, .int 0, x25, x26, x27, .ref b_nLoud, .ref b_nCliffAt, .ref b_nSnow, .ref b_nManAt, .ref b_nVoice, .ref b_nOn, .ref b_loud, .ref b_cliffAt, .ref b_snowTold, .ref b_manAt, .ref b_voice, .ref b_on, .ref b_nYes, .ref b_yes, .int 0, .int 0, .int 0, .int 0, .int 0, .int 0, .int 0, .int 0, .int 0, .int 0, .int 0, .int 0, .int 0, .int 0, .int 0, .ref b_now, x58, x59, x60, x61, x62, x63, x64, x65, x66, x67, .int 0, .int 0, x70, .int 0, x72, x73, x74, x75, x76, x77, x78, x79, x80, x81, .int 0, x83, x84, x85, x86, .ref b_hasBox, x88])), (b_nHasForm, .inl (cy 3, 3, .inl (fun _ => 0)))] H := hP
  have hD : va_D A [(b_hasForm, .inl (cy 3, 3, .inl (fun _ => 0))), (b_many, .inl (cy 1, 3, .inl (fun _ => 0))), (b_loud, .inl (cy 1, 8, .inl (fl0))), (b_nLoud, .inl (cy 1, 8, .inl (fl1))), (b_cliffAt, .inl (cy 1, 4, .inl (fl2))), (b_nCliffAt, .inl (cy 1, 4, .inl (fl3))), (b_snowTold, .inl (cy 1, 4, .inl (fl4))), (b_nSnow, .inl (cy 1, 4, .inl (fl5))), (b_manAt, .inl (cy 1, 4, .inl (fl6))), (b_nManAt, .inl (cy 1, 4, .inl (fl7))), (b_voice, .inl (cy 1, 4, .inl (fl8))), (b_nVoice, .inl (cy 1, 4, .inl (fl9))), (b_yes, .inl (cy 3, 6, .inl (fl10))), (b_nYes, .inl (cy 3, 6, .inl (fl11))), (b_on, .inl (cy 1, 48, .inl (fl12))), (b_nOn, .inl (cy 1, 48, .inl (fl13))), (b_now, .inl (cy 1, 42, .inl (fun _ => 0))), (b_hasBox, .inl (cy 3, 3, .inl (fun _ => 0))), (b0, .inr (12, [x0, .int 0, .int 0, .int (-1), .int 0, .int 0, .int 0, .int 0, .int 0, .long 0, x10, x11, x12, x13, x14, x15, .ref b_many, x17, x18, .ref b_nHasForm, .ref b_hasForm, x21, x22, .int 0, .int 0, x25, x26, x27, .ref b_nLoud, .ref b_nCliffAt, .ref b_nSnow, .ref b_nManAt, .ref b_nVoice, .ref b_nOn, .ref b_loud, .ref b_cliffAt, .ref b_snowTold, .ref b_manAt, .ref b_voice, .ref b_on, .ref b_nYes, .ref b_yes, .int 0, .int 0, .int 0, .int 0, .int 0, .int 0, .int 0, .int 0, .int 0, .int 0, .int 0, .int 0, .int 0, .int 0, .int 0, .ref b_now, x58, x59, x60, x61, x62, x63, x64, x65, x66, x67, .int 0, .int 0, x70, .int 0, x72, x73, x74, x75, x76, x77, x78, x79, x80, x81, .int 0, x83, x84, x85, x86, .ref b_hasBox, x88])), (b_nHasForm, .inl (cy 3, 3, .inl (fun _ => 0)))] := hD
  refine lv_iconst (v := 0) hx hb dX12_hills_69 (by decide) ?_
  refine lv_istore_n (lv' := [(1, .int 0), (0, .ref b0)]) hx hb dX12_hills_70 rfl hl (by decide) rfl (fun ls hl => ?_)
  have loop2 : ∀ (n i2 : Nat), i2 ≤ 3 → 4 ≤ i2 + n → ∀ (H : Heap) (locs : List Loc), va_P D vwCl [(b_hasForm, .inl (cy 3, 3, .inl (fun _ => 0))), (b_many, .inl (cy 1, 3, .inl (fun _ => 0))), (b_loud, .inl (cy 1, 8, .inl (fl0))), (b_nLoud, .inl (cy 1, 8, .inl (fl1))), (b_cliffAt, .inl (cy 1, 4, .inl (fl2))), (b_nCliffAt, .inl (cy 1, 4, .inl (fl3))), (b_snowTold, .inl (cy 1, 4, .inl (fl4))), (b_nSnow, .inl (cy 1, 4, .inl (fl5))), (b_manAt, .inl (cy 1, 4, .inl (fl6))), (b_nManAt, .inl (cy 1, 4, .inl (fl7))), (b_voice, .inl (cy 1, 4, .inl (fl8))), (b_nVoice, .inl (cy 1, 4, .inl (fl9))), (b_yes, .inl (cy 3, 6, .inl (fl10))), (b_nYes, .inl (cy 3, 6, .inl (fl11))), (b_on, .inl (cy 1, 48, .inl (fl12))), (b_nOn, .inl (cy 1, 48, .inl (fl13))), (b_now, .inl (cy 1, 42, .inl (fun _ => 0))), (b_hasBox, .inl (cy 3, 3, .inl (fun _ => 0))), (b0, .inr (12, [x0, .int 0, .int 0, .int (-1), .int 0, .int 0, .int 0, .int 0, .int 0, .long 0, x10, x11, x12, x13, x14, x15, .ref b_many, x17, x18, .ref b_nHasForm, .ref b_hasForm, x21, x22, .int 0, .int 0, x25, x26, x27, .ref b_nLoud, .ref b_nCliffAt, .ref b_nSnow, .ref b_nManAt, .ref b_nVoice, .ref b_nOn, .ref b_loud, .ref b_cliffAt, .ref b_snowTold, .ref b_manAt, .ref b_voice, .ref b_on, .ref b_nYes, .ref b_yes, .int 0, .int 0, .int 0, .int 0, .int 0, .int 0, .int 0, .int 0, .int 0, .int 0, .int 0, .int 0, .int 0, .int 0, .int 0, .ref b_now, x58, x59, x60, x61, x62, x63, x64, x65, x66, x67, .int 0, .int 0, x70, .int 0, x72, x73, x74, x75, x76, x77, x78, x79, x80, x81, .int 0, x83, x84, x85, x86, .ref b_hasBox, x88])), (b_nHasForm, .inl (cy 3, 3, .inl (fun _ => 0)))] H → va_D A [(b_hasForm, .inl (cy 3, 3, .inl (fun _ => 0))), (b_many, .inl (cy 1, 3, .inl (fun _ => 0))), (b_loud, .inl (cy 1, 8, .inl (fl0))), (b_nLoud, .inl (cy 1, 8, .inl (fl1))), (b_cliffAt, .inl (cy 1, 4, .inl (fl2))), (b_nCliffAt, .inl (cy 1, 4, .inl (fl3))), (b_snowTold, .inl (cy 1, 4, .inl (fl4))), (b_nSnow, .inl (cy 1, 4, .inl (fl5))), (b_manAt, .inl (cy 1, 4, .inl (fl6))), (b_nManAt, .inl (cy 1, 4, .inl (fl7))), (b_voice, .inl (cy 1, 4, .inl (fl8))), (b_nVoice, .inl (cy 1, 4, .inl (fl9))), (b_yes, .inl (cy 3, 6, .inl (fl10))), (b_nYes, .inl (cy 3, 6, .inl (fl11))), (b_on, .inl (cy 1, 48, .inl (fl12))), (b_nOn, .inl (cy 1, 48, .inl (fl13))), (b_now, .inl (cy 1, 42, .inl (fun _ => 0))), (b_hasBox, .inl (cy 3, 3, .inl (fun _ => 0))), (b0, .inr (12, [x0, .int 0, .int 0, .int (-1), .int 0, .int 0, .int 0, .int 0, .int 0, .long 0, x10, x11, x12, x13, x14, x15, .ref b_many, x17, x18, .ref b_nHasForm, .ref b_hasForm, x21, x22, .int 0, .int 0, x25, x26, x27, .ref b_nLoud, .ref b_nCliffAt, .ref b_nSnow, .ref b_nManAt, .ref b_nVoice, .ref b_nOn, .ref b_loud, .ref b_cliffAt, .ref b_snowTold, .ref b_manAt, .ref b_voice, .ref b_on, .ref b_nYes, .ref b_yes, .int 0, .int 0, .int 0, .int 0, .int 0, .int 0, .int 0, .int 0, .int 0, .int 0, .int 0, .int 0, .int 0, .int 0, .int 0, .ref b_now, x58, x59, x60, x61, x62, x63, x64, x65, x66, x67, .int 0, .int 0, x70, .int 0, x72, x73, x74, x75, x76, x77, x78, x79, x80, x81, .int 0, x83, x84, x85, x86, .ref b_hasBox, x88])), (b_nHasForm, .inl (cy 3, 3, .inl (fun _ => 0)))] → va_S A s.heap H locs → ∀ ls : Array Slot, lv_has ls 3 [(1, .int (nI i2)), (0, .ref b0)] → W p l e (rmk 3 0 0) s m args below meth c H locs 0 0 Q (F0 m 71 ls []) := by
    intro n
    induction n with
    | zero => intro i2 h1 h2; exact absurd h2 (by omega)
    | succ n ih =>
      intro i2 hi2 hn2  H locs hP hD hS ls hl
      have ih2 := ih
      refine lv_iload_n hx hb dX12_hills_71 rfl (lv_at hl 0 rfl) ?_
      refine lv_iconst (v := 3) hx hb dX12_hills_72 (by decide) ?_
      refine lv_icmp_ge (tgt := 171) hx hb dX12_hills_73 (by decide) (fun c2 => ?_) (fun c2 => ?_)
      · have hend2 : i2 = 3 := lp_end (N := 3) (by decide) hi2 (by decide) c2
        subst hend2
        refine lv_iconst (v := 0) hx hb dX12_hills_171 (by decide) ?_
        refine lv_istore_n (lv' := [(1, .int 0), (0, .ref b0)]) hx hb dX12_hills_172 rfl hl (by decide) rfl (fun ls hl => ?_)
        have loop3 : ∀ (n i3 : Nat), i3 ≤ 8 → 9 ≤ i3 + n → ∀ (fq0 : Nat → Int32), ∀ (H : Heap) (locs : List Loc), va_P D vwCl [(b_hasForm, .inl (cy 3, 3, .inl (fun _ => 0))), (b_many, .inl (cy 1, 3, .inl (fun _ => 0))), (b_loud, .inl (cy 1, 8, .inl (fq0))), (b_nLoud, .inl (cy 1, 8, .inl (fl1))), (b_cliffAt, .inl (cy 1, 4, .inl (fl2))), (b_nCliffAt, .inl (cy 1, 4, .inl (fl3))), (b_snowTold, .inl (cy 1, 4, .inl (fl4))), (b_nSnow, .inl (cy 1, 4, .inl (fl5))), (b_manAt, .inl (cy 1, 4, .inl (fl6))), (b_nManAt, .inl (cy 1, 4, .inl (fl7))), (b_voice, .inl (cy 1, 4, .inl (fl8))), (b_nVoice, .inl (cy 1, 4, .inl (fl9))), (b_yes, .inl (cy 3, 6, .inl (fl10))), (b_nYes, .inl (cy 3, 6, .inl (fl11))), (b_on, .inl (cy 1, 48, .inl (fl12))), (b_nOn, .inl (cy 1, 48, .inl (fl13))), (b_now, .inl (cy 1, 42, .inl (fun _ => 0))), (b_hasBox, .inl (cy 3, 3, .inl (fun _ => 0))), (b0, .inr (12, [x0, .int 0, .int 0, .int (-1), .int 0, .int 0, .int 0, .int 0, .int 0, .long 0, x10, x11, x12, x13, x14, x15, .ref b_many, x17, x18, .ref b_nHasForm, .ref b_hasForm, x21, x22, .int 0, .int 0, x25, x26, x27, .ref b_nLoud, .ref b_nCliffAt, .ref b_nSnow, .ref b_nManAt, .ref b_nVoice, .ref b_nOn, .ref b_loud, .ref b_cliffAt, .ref b_snowTold, .ref b_manAt, .ref b_voice, .ref b_on, .ref b_nYes, .ref b_yes, .int 0, .int 0, .int 0, .int 0, .int 0, .int 0, .int 0, .int 0, .int 0, .int 0, .int 0, .int 0, .int 0, .int 0, .int 0, .ref b_now, x58, x59, x60, x61, x62, x63, x64, x65, x66, x67, .int 0, .int 0, x70, .int 0, x72, x73, x74, x75, x76, x77, x78, x79, x80, x81, .int 0, x83, x84, x85, x86, .ref b_hasBox, x88])), (b_nHasForm, .inl (cy 3, 3, .inl (fun _ => 0)))] H → va_D A [(b_hasForm, .inl (cy 3, 3, .inl (fun _ => 0))), (b_many, .inl (cy 1, 3, .inl (fun _ => 0))), (b_loud, .inl (cy 1, 8, .inl (fq0))), (b_nLoud, .inl (cy 1, 8, .inl (fl1))), (b_cliffAt, .inl (cy 1, 4, .inl (fl2))), (b_nCliffAt, .inl (cy 1, 4, .inl (fl3))), (b_snowTold, .inl (cy 1, 4, .inl (fl4))), (b_nSnow, .inl (cy 1, 4, .inl (fl5))), (b_manAt, .inl (cy 1, 4, .inl (fl6))), (b_nManAt, .inl (cy 1, 4, .inl (fl7))), (b_voice, .inl (cy 1, 4, .inl (fl8))), (b_nVoice, .inl (cy 1, 4, .inl (fl9))), (b_yes, .inl (cy 3, 6, .inl (fl10))), (b_nYes, .inl (cy 3, 6, .inl (fl11))), (b_on, .inl (cy 1, 48, .inl (fl12))), (b_nOn, .inl (cy 1, 48, .inl (fl13))), (b_now, .inl (cy 1, 42, .inl (fun _ => 0))), (b_hasBox, .inl (cy 3, 3, .inl (fun _ => 0))), (b0, .inr (12, [x0, .int 0, .int 0, .int (-1), .int 0, .int 0, .int 0, .int 0, .int 0, .long 0, x10, x11, x12, x13, x14, x15, .ref b_many, x17, x18, .ref b_nHasForm, .ref b_hasForm, x21, x22, .int 0, .int 0, x25, x26, x27, .ref b_nLoud, .ref b_nCliffAt, .ref b_nSnow, .ref b_nManAt, .ref b_nVoice, .ref b_nOn, .ref b_loud, .ref b_cliffAt, .ref b_snowTold, .ref b_manAt, .ref b_voice, .ref b_on, .ref b_nYes, .ref b_yes, .int 0, .int 0, .int 0, .int 0, .int 0, .int 0, .int 0, .int 0, .int 0, .int 0, .int 0, .int 0, .int 0, .int 0, .int 0, .ref b_now, x58, x59, x60, x61, x62, x63, x64, x65, x66, x67, .int 0, .int 0, x70, .int 0, x72, x73, x74, x75, x76, x77, x78, x79, x80, x81, .int 0, x83, x84, x85, x86, .ref b_hasBox, x88])), (b_nHasForm, .inl (cy 3, 3, .inl (fun _ => 0)))] → va_S A s.heap H locs → ∀ ls : Array Slot, lv_has ls 3 [(1, .int (nI i3)), (0, .ref b0)] → W p l e (rmk 3 0 0) s m args below meth c H locs 0 0 Q (F0 m 173 ls []) := by
          intro n
          induction n with
          | zero => intro i3 h1 h2; exact absurd h2 (by omega)
          | succ n ih =>
            intro i3 hi3 hn3 fq0 H locs hP hD hS ls hl
            have ih3 := ih
            refine lv_iload_n hx hb dX12_hills_173 rfl (lv_at hl 0 rfl) ?_
            refine lv_bipush (v := 8) hx hb dX12_hills_174 (by decide) ?_
            refine lv_icmp_ge (tgt := 197) hx hb dX12_hills_176 (by decide) (fun c3 => ?_) (fun c3 => ?_)
            · have hend3 : i3 = 8 := lp_end (N := 8) (by decide) hi3 (by decide) c3
              subst hend3
              refine lv_iconst (v := 0) hx hb dX12_hills_197 (by decide) ?_
              refine lv_istore_n (lv' := [(1, .int 0), (0, .ref b0)]) hx hb dX12_hills_198 rfl hl (by decide) rfl (fun ls hl => ?_)
              have loop4 : ∀ (n i4 : Nat), i4 ≤ 4 → 5 ≤ i4 + n → ∀ (fq1 : Nat → Int32), ∀ (fq2 : Nat → Int32), ∀ (fq3 : Nat → Int32), ∀ (fq4 : Nat → Int32), ∀ (H : Heap) (locs : List Loc), va_P D vwCl [(b_hasForm, .inl (cy 3, 3, .inl (fun _ => 0))), (b_many, .inl (cy 1, 3, .inl (fun _ => 0))), (b_loud, .inl (cy 1, 8, .inl (fq0))), (b_nLoud, .inl (cy 1, 8, .inl (fl1))), (b_cliffAt, .inl (cy 1, 4, .inl (fq1))), (b_nCliffAt, .inl (cy 1, 4, .inl (fl3))), (b_snowTold, .inl (cy 1, 4, .inl (fq2))), (b_nSnow, .inl (cy 1, 4, .inl (fl5))), (b_manAt, .inl (cy 1, 4, .inl (fq3))), (b_nManAt, .inl (cy 1, 4, .inl (fl7))), (b_voice, .inl (cy 1, 4, .inl (fq4))), (b_nVoice, .inl (cy 1, 4, .inl (fl9))), (b_yes, .inl (cy 3, 6, .inl (fl10))), (b_nYes, .inl (cy 3, 6, .inl (fl11))), (b_on, .inl (cy 1, 48, .inl (fl12))), (b_nOn, .inl (cy 1, 48, .inl (fl13))), (b_now, .inl (cy 1, 42, .inl (fun _ => 0))), (b_hasBox, .inl (cy 3, 3, .inl (fun _ => 0))), (b0, .inr (12, [x0, .int 0, .int 0, .int (-1), .int 0, .int 0, .int 0, .int 0, .int 0, .long 0, x10, x11, x12, x13, x14, x15, .ref b_many, x17, x18, .ref b_nHasForm, .ref b_hasForm, x21, x22, .int 0, .int 0, x25, x26, x27, .ref b_nLoud, .ref b_nCliffAt, .ref b_nSnow, .ref b_nManAt, .ref b_nVoice, .ref b_nOn, .ref b_loud, .ref b_cliffAt, .ref b_snowTold, .ref b_manAt, .ref b_voice, .ref b_on, .ref b_nYes, .ref b_yes, .int 0, .int 0, .int 0, .int 0, .int 0, .int 0, .int 0, .int 0, .int 0, .int 0, .int 0, .int 0, .int 0, .int 0, .int 0, .ref b_now, x58, x59, x60, x61, x62, x63, x64, x65, x66, x67, .int 0, .int 0, x70, .int 0, x72, x73, x74, x75, x76, x77, x78, x79, x80, x81, .int 0, x83, x84, x85, x86, .ref b_hasBox, x88])), (b_nHasForm, .inl (cy 3, 3, .inl (fun _ => 0)))] H → va_D A [(b_hasForm, .inl (cy 3, 3, .inl (fun _ => 0))), (b_many, .inl (cy 1, 3, .inl (fun _ => 0))), (b_loud, .inl (cy 1, 8, .inl (fq0))), (b_nLoud, .inl (cy 1, 8, .inl (fl1))), (b_cliffAt, .inl (cy 1, 4, .inl (fq1))), (b_nCliffAt, .inl (cy 1, 4, .inl (fl3))), (b_snowTold, .inl (cy 1, 4, .inl (fq2))), (b_nSnow, .inl (cy 1, 4, .inl (fl5))), (b_manAt, .inl (cy 1, 4, .inl (fq3))), (b_nManAt, .inl (cy 1, 4, .inl (fl7))), (b_voice, .inl (cy 1, 4, .inl (fq4))), (b_nVoice, .inl (cy 1, 4, .inl (fl9))), (b_yes, .inl (cy 3, 6, .inl (fl10))), (b_nYes, .inl (cy 3, 6, .inl (fl11))), (b_on, .inl (cy 1, 48, .inl (fl12))), (b_nOn, .inl (cy 1, 48, .inl (fl13))), (b_now, .inl (cy 1, 42, .inl (fun _ => 0))), (b_hasBox, .inl (cy 3, 3, .inl (fun _ => 0))), (b0, .inr (12, [x0, .int 0, .int 0, .int (-1), .int 0, .int 0, .int 0, .int 0, .int 0, .long 0, x10, x11, x12, x13, x14, x15, .ref b_many, x17, x18, .ref b_nHasForm, .ref b_hasForm, x21, x22, .int 0, .int 0, x25, x26, x27, .ref b_nLoud, .ref b_nCliffAt, .ref b_nSnow, .ref b_nManAt, .ref b_nVoice, .ref b_nOn, .ref b_loud, .ref b_cliffAt, .ref b_snowTold, .ref b_manAt, .ref b_voice, .ref b_on, .ref b_nYes, .ref b_yes, .int 0, .int 0, .int 0, .int 0, .int 0, .int 0, .int 0, .int 0, .int 0, .int 0, .int 0, .int 0, .int 0, .int 0, .int 0, .ref b_now, x58, x59, x60, x61, x62, x63, x64, x65, x66, x67, .int 0, .int 0, x70, .int 0, x72, x73, x74, x75, x76, x77, x78, x79, x80, x81, .int 0, x83, x84, x85, x86, .ref b_hasBox, x88])), (b_nHasForm, .inl (cy 3, 3, .inl (fun _ => 0)))] → va_S A s.heap H locs → ∀ ls : Array Slot, lv_has ls 3 [(1, .int (nI i4)), (0, .ref b0)] → W p l e (rmk 3 0 0) s m args below meth c H locs 0 0 Q (F0 m 199 ls []) := by
                intro n
                induction n with
                | zero => intro i4 h1 h2; exact absurd h2 (by omega)
                | succ n ih =>
                  intro i4 hi4 hn4 fq1 fq2 fq3 fq4 H locs hP hD hS ls hl
                  have ih4 := ih
                  refine lv_iload_n hx hb dX12_hills_199 rfl (lv_at hl 0 rfl) ?_
                  refine lv_iconst (v := 4) hx hb dX12_hills_200 (by decide) ?_
                  refine lv_icmp_ge (tgt := 258) hx hb dX12_hills_201 (by decide) (fun c4 => ?_) (fun c4 => ?_)
                  · have hend4 : i4 = 4 := lp_end (N := 4) (by decide) hi4 (by decide) c4
                    subst hend4
                    refine lv_iconst (v := 0) hx hb dX12_hills_258 (by decide) ?_
                    refine lv_istore_n (lv' := [(1, .int 0), (0, .ref b0)]) hx hb dX12_hills_259 rfl hl (by decide) rfl (fun ls hl => ?_)
                    have loop5 : ∀ (n i5 : Nat), i5 ≤ 6 → 7 ≤ i5 + n → ∀ (fq5 : Nat → Int32), ∀ (H : Heap) (locs : List Loc), va_P D vwCl [(b_hasForm, .inl (cy 3, 3, .inl (fun _ => 0))), (b_many, .inl (cy 1, 3, .inl (fun _ => 0))), (b_loud, .inl (cy 1, 8, .inl (fq0))), (b_nLoud, .inl (cy 1, 8, .inl (fl1))), (b_cliffAt, .inl (cy 1, 4, .inl (fq1))), (b_nCliffAt, .inl (cy 1, 4, .inl (fl3))), (b_snowTold, .inl (cy 1, 4, .inl (fq2))), (b_nSnow, .inl (cy 1, 4, .inl (fl5))), (b_manAt, .inl (cy 1, 4, .inl (fq3))), (b_nManAt, .inl (cy 1, 4, .inl (fl7))), (b_voice, .inl (cy 1, 4, .inl (fq4))), (b_nVoice, .inl (cy 1, 4, .inl (fl9))), (b_yes, .inl (cy 3, 6, .inl (fq5))), (b_nYes, .inl (cy 3, 6, .inl (fl11))), (b_on, .inl (cy 1, 48, .inl (fl12))), (b_nOn, .inl (cy 1, 48, .inl (fl13))), (b_now, .inl (cy 1, 42, .inl (fun _ => 0))), (b_hasBox, .inl (cy 3, 3, .inl (fun _ => 0))), (b0, .inr (12, [x0, .int 0, .int 0, .int (-1), .int 0, .int 0, .int 0, .int 0, .int 0, .long 0, x10, x11, x12, x13, x14, x15, .ref b_many, x17, x18, .ref b_nHasForm, .ref b_hasForm, x21, x22, .int 0, .int 0, x25, x26, x27, .ref b_nLoud, .ref b_nCliffAt, .ref b_nSnow, .ref b_nManAt, .ref b_nVoice, .ref b_nOn, .ref b_loud, .ref b_cliffAt, .ref b_snowTold, .ref b_manAt, .ref b_voice, .ref b_on, .ref b_nYes, .ref b_yes, .int 0, .int 0, .int 0, .int 0, .int 0, .int 0, .int 0, .int 0, .int 0, .int 0, .int 0, .int 0, .int 0, .int 0, .int 0, .ref b_now, x58, x59, x60, x61, x62, x63, x64, x65, x66, x67, .int 0, .int 0, x70, .int 0, x72, x73, x74, x75, x76, x77, x78, x79, x80, x81, .int 0, x83, x84, x85, x86, .ref b_hasBox, x88])), (b_nHasForm, .inl (cy 3, 3, .inl (fun _ => 0)))] H → va_D A [(b_hasForm, .inl (cy 3, 3, .inl (fun _ => 0))), (b_many, .inl (cy 1, 3, .inl (fun _ => 0))), (b_loud, .inl (cy 1, 8, .inl (fq0))), (b_nLoud, .inl (cy 1, 8, .inl (fl1))), (b_cliffAt, .inl (cy 1, 4, .inl (fq1))), (b_nCliffAt, .inl (cy 1, 4, .inl (fl3))), (b_snowTold, .inl (cy 1, 4, .inl (fq2))), (b_nSnow, .inl (cy 1, 4, .inl (fl5))), (b_manAt, .inl (cy 1, 4, .inl (fq3))), (b_nManAt, .inl (cy 1, 4, .inl (fl7))), (b_voice, .inl (cy 1, 4, .inl (fq4))), (b_nVoice, .inl (cy 1, 4, .inl (fl9))), (b_yes, .inl (cy 3, 6, .inl (fq5))), (b_nYes, .inl (cy 3, 6, .inl (fl11))), (b_on, .inl (cy 1, 48, .inl (fl12))), (b_nOn, .inl (cy 1, 48, .inl (fl13))), (b_now, .inl (cy 1, 42, .inl (fun _ => 0))), (b_hasBox, .inl (cy 3, 3, .inl (fun _ => 0))), (b0, .inr (12, [x0, .int 0, .int 0, .int (-1), .int 0, .int 0, .int 0, .int 0, .int 0, .long 0, x10, x11, x12, x13, x14, x15, .ref b_many, x17, x18, .ref b_nHasForm, .ref b_hasForm, x21, x22, .int 0, .int 0, x25, x26, x27, .ref b_nLoud, .ref b_nCliffAt, .ref b_nSnow, .ref b_nManAt, .ref b_nVoice, .ref b_nOn, .ref b_loud, .ref b_cliffAt, .ref b_snowTold, .ref b_manAt, .ref b_voice, .ref b_on, .ref b_nYes, .ref b_yes, .int 0, .int 0, .int 0, .int 0, .int 0, .int 0, .int 0, .int 0, .int 0, .int 0, .int 0, .int 0, .int 0, .int 0, .int 0, .ref b_now, x58, x59, x60, x61, x62, x63, x64, x65, x66, x67, .int 0, .int 0, x70, .int 0, x72, x73, x74, x75, x76, x77, x78, x79, x80, x81, .int 0, x83, x84, x85, x86, .ref b_hasBox, x88])), (b_nHasForm, .inl (cy 3, 3, .inl (fun _ => 0)))] → va_S A s.heap H locs → ∀ ls : Array Slot, lv_has ls 3 [(1, .int (nI i5)), (0, .ref b0)] → W p l e (rmk 3 0 0) s m args below meth c H locs 0 0 Q (F0 m 260 ls []) := by
                      intro n
                      induction n with
                      | zero => intro i5 h1 h2; exact absurd h2 (by omega)
                      | succ n ih =>
                        intro i5 hi5 hn5 fq5 H locs hP hD hS ls hl
                        have ih5 := ih
                        refine lv_iload_n hx hb dX12_hills_260 rfl (lv_at hl 0 rfl) ?_
                        refine lv_bipush (v := 6) hx hb dX12_hills_261 (by decide) ?_
                        refine lv_icmp_ge (tgt := 284) hx hb dX12_hills_263 (by decide) (fun c5 => ?_) (fun c5 => ?_)
                        · have hend5 : i5 = 6 := lp_end (N := 6) (by decide) hi5 (by decide) c5
                          subst hend5
                          refine lv_iconst (v := 0) hx hb dX12_hills_284 (by decide) ?_
                          refine lv_istore_n (lv' := [(1, .int 0), (0, .ref b0)]) hx hb dX12_hills_285 rfl hl (by decide) rfl (fun ls hl => ?_)
                          have loop6 : ∀ (n i6 : Nat), i6 ≤ 48 → 49 ≤ i6 + n → ∀ (fq6 : Nat → Int32), ∀ (H : Heap) (locs : List Loc), va_P D vwCl [(b_hasForm, .inl (cy 3, 3, .inl (fun _ => 0))), (b_many, .inl (cy 1, 3, .inl (fun _ => 0))), (b_loud, .inl (cy 1, 8, .inl (fq0))), (b_nLoud, .inl (cy 1, 8, .inl (fl1))), (b_cliffAt, .inl (cy 1, 4, .inl (fq1))), (b_nCliffAt, .inl (cy 1, 4, .inl (fl3))), (b_snowTold, .inl (cy 1, 4, .inl (fq2))), (b_nSnow, .inl (cy 1, 4, .inl (fl5))), (b_manAt, .inl (cy 1, 4, .inl (fq3))), (b_nManAt, .inl (cy 1, 4, .inl (fl7))), (b_voice, .inl (cy 1, 4, .inl (fq4))), (b_nVoice, .inl (cy 1, 4, .inl (fl9))), (b_yes, .inl (cy 3, 6, .inl (fq5))), (b_nYes, .inl (cy 3, 6, .inl (fl11))), (b_on, .inl (cy 1, 48, .inl (fq6))), (b_nOn, .inl (cy 1, 48, .inl (fl13))), (b_now, .inl (cy 1, 42, .inl (fun _ => 0))), (b_hasBox, .inl (cy 3, 3, .inl (fun _ => 0))), (b0, .inr (12, [x0, .int 0, .int 0, .int (-1), .int 0, .int 0, .int 0, .int 0, .int 0, .long 0, x10, x11, x12, x13, x14, x15, .ref b_many, x17, x18, .ref b_nHasForm, .ref b_hasForm, x21, x22, .int 0, .int 0, x25, x26, x27, .ref b_nLoud, .ref b_nCliffAt, .ref b_nSnow, .ref b_nManAt, .ref b_nVoice, .ref b_nOn, .ref b_loud, .ref b_cliffAt, .ref b_snowTold, .ref b_manAt, .ref b_voice, .ref b_on, .ref b_nYes, .ref b_yes, .int 0, .int 0, .int 0, .int 0, .int 0, .int 0, .int 0, .int 0, .int 0, .int 0, .int 0, .int 0, .int 0, .int 0, .int 0, .ref b_now, x58, x59, x60, x61, x62, x63, x64, x65, x66, x67, .int 0, .int 0, x70, .int 0, x72, x73, x74, x75, x76, x77, x78, x79, x80, x81, .int 0, x83, x84, x85, x86, .ref b_hasBox, x88])), (b_nHasForm, .inl (cy 3, 3, .inl (fun _ => 0)))] H → va_D A [(b_hasForm, .inl (cy 3, 3, .inl (fun _ => 0))), (b_many, .inl (cy 1, 3, .inl (fun _ => 0))), (b_loud, .inl (cy 1, 8, .inl (fq0))), (b_nLoud, .inl (cy 1, 8, .inl (fl1))), (b_cliffAt, .inl (cy 1, 4, .inl (fq1))), (b_nCliffAt, .inl (cy 1, 4, .inl (fl3))), (b_snowTold, .inl (cy 1, 4, .inl (fq2))), (b_nSnow, .inl (cy 1, 4, .inl (fl5))), (b_manAt, .inl (cy 1, 4, .inl (fq3))), (b_nManAt, .inl (cy 1, 4, .inl (fl7))), (b_voice, .inl (cy 1, 4, .inl (fq4))), (b_nVoice, .inl (cy 1, 4, .inl (fl9))), (b_yes, .inl (cy 3, 6, .inl (fq5))), (b_nYes, .inl (cy 3, 6, .inl (fl11))), (b_on, .inl (cy 1, 48, .inl (fq6))), (b_nOn, .inl (cy 1, 48, .inl (fl13))), (b_now, .inl (cy 1, 42, .inl (fun _ => 0))), (b_hasBox, .inl (cy 3, 3, .inl (fun _ => 0))), (b0, .inr (12, [x0, .int 0, .int 0, .int (-1), .int 0, .int 0, .int 0, .int 0, .int 0, .long 0, x10, x11, x12, x13, x14, x15, .ref b_many, x17, x18, .ref b_nHasForm, .ref b_hasForm, x21, x22, .int 0, .int 0, x25, x26, x27, .ref b_nLoud, .ref b_nCliffAt, .ref b_nSnow, .ref b_nManAt, .ref b_nVoice, .ref b_nOn, .ref b_loud, .ref b_cliffAt, .ref b_snowTold, .ref b_manAt, .ref b_voice, .ref b_on, .ref b_nYes, .ref b_yes, .int 0, .int 0, .int 0, .int 0, .int 0, .int 0, .int 0, .int 0, .int 0, .int 0, .int 0, .int 0, .int 0, .int 0, .int 0, .ref b_now, x58, x59, x60, x61, x62, x63, x64, x65, x66, x67, .int 0, .int 0, x70, .int 0, x72, x73, x74, x75, x76, x77, x78, x79, x80, x81, .int 0, x83, x84, x85, x86, .ref b_hasBox, x88])), (b_nHasForm, .inl (cy 3, 3, .inl (fun _ => 0)))] → va_S A s.heap H locs → ∀ ls : Array Slot, lv_has ls 3 [(1, .int (nI i6)), (0, .ref b0)] → W p l e (rmk 3 0 0) s m args below meth c H locs 0 0 Q (F0 m 286 ls []) := by
                            intro n
                            induction n with
                            | zero => intro i6 h1 h2; exact absurd h2 (by omega)
                            | succ n ih =>
                              intro i6 hi6 hn6 fq6 H locs hP hD hS ls hl
                              have ih6 := ih
                              refine lv_iload_n hx hb dX12_hills_286 rfl (lv_at hl 0 rfl) ?_
                              refine lv_bipush (v := 48) hx hb dX12_hills_287 (by decide) ?_
                              refine lv_icmp_ge (tgt := 310) hx hb dX12_hills_289 (by decide) (fun c6 => ?_) (fun c6 => ?_)
                              · have hend6 : i6 = 48 := lp_end (N := 48) (by decide) hi6 (by decide) c6
                                subst hend6
                                refine lv_iconst (v := 0) hx hb dX12_hills_310 (by decide) ?_
                                refine lv_istore_n (lv' := [(1, .int 0), (0, .ref b0)]) hx hb dX12_hills_311 rfl hl (by decide) rfl (fun ls hl => ?_)
                                have loop7 : ∀ (n i7 : Nat), i7 ≤ 41 → 42 ≤ i7 + n → ∀ (H : Heap) (locs : List Loc), va_P D vwCl [(b_hasForm, .inl (cy 3, 3, .inl (fun _ => 0))), (b_many, .inl (cy 1, 3, .inl (fun _ => 0))), (b_loud, .inl (cy 1, 8, .inl (fq0))), (b_nLoud, .inl (cy 1, 8, .inl (fl1))), (b_cliffAt, .inl (cy 1, 4, .inl (fq1))), (b_nCliffAt, .inl (cy 1, 4, .inl (fl3))), (b_snowTold, .inl (cy 1, 4, .inl (fq2))), (b_nSnow, .inl (cy 1, 4, .inl (fl5))), (b_manAt, .inl (cy 1, 4, .inl (fq3))), (b_nManAt, .inl (cy 1, 4, .inl (fl7))), (b_voice, .inl (cy 1, 4, .inl (fq4))), (b_nVoice, .inl (cy 1, 4, .inl (fl9))), (b_yes, .inl (cy 3, 6, .inl (fq5))), (b_nYes, .inl (cy 3, 6, .inl (fl11))), (b_on, .inl (cy 1, 48, .inl (fq6))), (b_nOn, .inl (cy 1, 48, .inl (fl13))), (b_now, .inl (cy 1, 42, .inl (fun _ => 0))), (b_hasBox, .inl (cy 3, 3, .inl (fun _ => 0))), (b0, .inr (12, [x0, .int 0, .int 0, .int (-1), .int 0, .int 0, .int 0, .int 0, .int 0, .long 0, x10, x11, x12, x13, x14, x15, .ref b_many, x17, x18, .ref b_nHasForm, .ref b_hasForm, x21, x22, .int 0, .int 0, x25, x26, x27, .ref b_nLoud, .ref b_nCliffAt, .ref b_nSnow, .ref b_nManAt, .ref b_nVoice, .ref b_nOn, .ref b_loud, .ref b_cliffAt, .ref b_snowTold, .ref b_manAt, .ref b_voice, .ref b_on, .ref b_nYes, .ref b_yes, .int 0, .int 0, .int 0, .int 0, .int 0, .int 0, .int 0, .int 0, .int 0, .int 0, .int 0, .int 0, .int 0, .int 0, .int 0, .ref b_now, x58, x59, x60, x61, x62, x63, x64, x65, x66, x67, .int 0, .int 0, x70, .int 0, x72, x73, x74, x75, x76, x77, x78, x79, x80, x81, .int 0, x83, x84, x85, x86, .ref b_hasBox, x88])), (b_nHasForm, .inl (cy 3, 3, .inl (fun _ => 0)))] H → va_D A [(b_hasForm, .inl (cy 3, 3, .inl (fun _ => 0))), (b_many, .inl (cy 1, 3, .inl (fun _ => 0))), (b_loud, .inl (cy 1, 8, .inl (fq0))), (b_nLoud, .inl (cy 1, 8, .inl (fl1))), (b_cliffAt, .inl (cy 1, 4, .inl (fq1))), (b_nCliffAt, .inl (cy 1, 4, .inl (fl3))), (b_snowTold, .inl (cy 1, 4, .inl (fq2))), (b_nSnow, .inl (cy 1, 4, .inl (fl5))), (b_manAt, .inl (cy 1, 4, .inl (fq3))), (b_nManAt, .inl (cy 1, 4, .inl (fl7))), (b_voice, .inl (cy 1, 4, .inl (fq4))), (b_nVoice, .inl (cy 1, 4, .inl (fl9))), (b_yes, .inl (cy 3, 6, .inl (fq5))), (b_nYes, .inl (cy 3, 6, .inl (fl11))), (b_on, .inl (cy 1, 48, .inl (fq6))), (b_nOn, .inl (cy 1, 48, .inl (fl13))), (b_now, .inl (cy 1, 42, .inl (fun _ => 0))), (b_hasBox, .inl (cy 3, 3, .inl (fun _ => 0))), (b0, .inr (12, [x0, .int 0, .int 0, .int (-1), .int 0, .int 0, .int 0, .int 0, .int 0, .long 0, x10, x11, x12, x13, x14, x15, .ref b_many, x17, x18, .ref b_nHasForm, .ref b_hasForm, x21, x22, .int 0, .int 0, x25, x26, x27, .ref b_nLoud, .ref b_nCliffAt, .ref b_nSnow, .ref b_nManAt, .ref b_nVoice, .ref b_nOn, .ref b_loud, .ref b_cliffAt, .ref b_snowTold, .ref b_manAt, .ref b_voice, .ref b_on, .ref b_nYes, .ref b_yes, .int 0, .int 0, .int 0, .int 0, .int 0, .int 0, .int 0, .int 0, .int 0, .int 0, .int 0, .int 0, .int 0, .int 0, .int 0, .ref b_now, x58, x59, x60, x61, x62, x63, x64, x65, x66, x67, .int 0, .int 0, x70, .int 0, x72, x73, x74, x75, x76, x77, x78, x79, x80, x81, .int 0, x83, x84, x85, x86, .ref b_hasBox, x88])), (b_nHasForm, .inl (cy 3, 3, .inl (fun _ => 0)))] → va_S A s.heap H locs → ∀ ls : Array Slot, lv_has ls 3 [(1, .int (nI i7)), (0, .ref b0)] → W p l e (rmk 3 0 0) s m args below meth c H locs 0 0 Q (F0 m 312 ls []) := by
                                  intro n
                                  induction n with
                                  | zero => intro i7 h1 h2; exact absurd h2 (by omega)
                                  | succ n ih =>
                                    intro i7 hi7 hn7  H locs hP hD hS ls hl
                                    have ih7 := ih
                                    refine lv_iload_n hx hb dX12_hills_312 rfl (lv_at hl 0 rfl) ?_
                                    refine lv_bipush (v := 41) hx hb dX12_hills_313 (by decide) ?_
                                    refine lv_icmp_ge (tgt := 331) hx hb dX12_hills_315 (by decide) (fun c7 => ?_) (fun c7 => ?_)
                                    · have hend7 : i7 = 41 := lp_end (N := 41) (by decide) hi7 (by decide) c7
                                      subst hend7
                                      refine lv_aload_n hx hb dX12_hills_331 rfl (lv_at hl 1 rfl) ?_
                                      refine va_get (D := D) (ci := 12) (v := .ref b_now) (C := RX12) (T := TX12) (N := 89) hx hb hg i_X12 hown hK hP 18 rfl rfl 57 (by decide) (hg _ m_1470) (fun _ h9 => h9) rfl dX12_hills_332 ?_
                                      refine lv_bipush (v := 22) hx hb dX12_hills_335 (by decide) ?_
                                      refine lv_aload_n hx hb dX12_hills_337 rfl (lv_at hl 1 rfl) ?_
                                      refine va_get (D := D) (ci := 12) (v := .int 0) (C := RX12) (T := TX12) (N := 89) hx hb hg i_X12 hown hK hP 18 rfl rfl 54 (by decide) (hg _ m_1467) (fun _ h9 => h9) rfl dX12_hills_338 ?_
                                      refine va_iast hx hb hK hP hD hS 16 1 rfl rfl (by unfold vp_in; decide) dX12_hills_341 (fun H locs hP hD hS => ?_)
                                      rw [upd_z] at hP hD
                                      have hP : va_P D vwCl [(b_hasForm, .inl (cy 3, 3, .inl (fun _ => 0))), (b_many, .inl (cy 1, 3, .inl (fun _ => 0))), (b_loud, .inl (cy 1, 8, .inl (fq0))), (b_nLoud, .inl (cy 1, 8, .inl (fl1))), (b_cliffAt, .inl (cy 1, 4, .inl (fq1))), (b_nCliffAt, .inl (cy 1, 4, .inl (fl3))), (b_snowTold, .inl (cy 1, 4, .inl (fq2))), (b_nSnow, .inl (cy 1, 4, .inl (fl5))), (b_manAt, .inl (cy 1, 4, .inl (fq3))), (b_nManAt, .inl (cy 1, 4, .inl (fl7))), (b_voice, .inl (cy 1, 4, .inl (fq4))), (b_nVoice, .inl (cy 1, 4, .inl (fl9))), (b_yes, .inl (cy 3, 6, .inl (fq5))), (b_nYes, .inl (cy 3, 6, .inl (fl11))), (b_on, .inl (cy 1, 48, .inl (fq6))), (b_nOn, .inl (cy 1, 48, .inl (fl13))), (b_now, .inl (cy 1, 42, .inl (fun _ => 0))), (b_hasBox, .inl (cy 3, 3, .inl (fun _ => 0))), (b0, .inr (12, [x0, .int 0, .int 0, .int (-1), .int 0, .int 0, .int 0, .int 0, .int 0, .long 0, x10, x11, x12, x13, x14, x15, .ref b_many, x17, x18, .ref b_nHasForm, .ref b_hasForm, x21, x22, .int 0, .int 0, x25, x26, x27, .ref b_nLoud, .ref b_nCliffAt, .ref b_nSnow, .ref b_nManAt, .ref b_nVoice, .ref b_nOn, .ref b_loud, .ref b_cliffAt, .ref b_snowTold, .ref b_manAt, .ref b_voice, .ref b_on, .ref b_nYes, .ref b_yes, .int 0, .int 0, .int 0, .int 0, .int 0, .int 0, .int 0, .int 0, .int 0, .int 0, .int 0, .int 0, .int 0, .int 0, .int 0, .ref b_now, x58, x59, x60, x61, x62, x63, x64, x65, x66, x67, .int 0, .int 0, x70, .int 0, x72, x73, x74, x75, x76, x77, x78, x79, x80, x81, .int 0, x83, x84, x85, x86, .ref b_hasBox, x88])), (b_nHasForm, .inl (cy 3, 3, .inl (fun _ => 0)))] H := hP
                                      have hD : va_D A [(b_hasForm, .inl (cy 3, 3, .inl (fun _ => 0))), (b_many, .inl (cy 1, 3, .inl (fun _ => 0))), (b_loud, .inl (cy 1, 8, .inl (fq0))), (b_nLoud, .inl (cy 1, 8, .inl (fl1))), (b_cliffAt, .inl (cy 1, 4, .inl (fq1))), (b_nCliffAt, .inl (cy 1, 4, .inl (fl3))), (b_snowTold, .inl (cy 1, 4, .inl (fq2))), (b_nSnow, .inl (cy 1, 4, .inl (fl5))), (b_manAt, .inl (cy 1, 4, .inl (fq3))), (b_nManAt, .inl (cy 1, 4, .inl (fl7))), (b_voice, .inl (cy 1, 4, .inl (fq4))), (b_nVoice, .inl (cy 1, 4, .inl (fl9))), (b_yes, .inl (cy 3, 6, .inl (fq5))), (b_nYes, .inl (cy 3, 6, .inl (fl11))), (b_on, .inl (cy 1, 48, .inl (fq6))), (b_nOn, .inl (cy 1, 48, .inl (fl13))), (b_now, .inl (cy 1, 42, .inl (fun _ => 0))), (b_hasBox, .inl (cy 3, 3, .inl (fun _ => 0))), (b0, .inr (12, [x0, .int 0, .int 0, .int (-1), .int 0, .int 0, .int 0, .int 0, .int 0, .long 0, x10, x11, x12, x13, x14, x15, .ref b_many, x17, x18, .ref b_nHasForm, .ref b_hasForm, x21, x22, .int 0, .int 0, x25, x26, x27, .ref b_nLoud, .ref b_nCliffAt, .ref b_nSnow, .ref b_nManAt, .ref b_nVoice, .ref b_nOn, .ref b_loud, .ref b_cliffAt, .ref b_snowTold, .ref b_manAt, .ref b_voice, .ref b_on, .ref b_nYes, .ref b_yes, .int 0, .int 0, .int 0, .int 0, .int 0, .int 0, .int 0, .int 0, .int 0, .int 0, .int 0, .int 0, .int 0, .int 0, .int 0, .ref b_now, x58, x59, x60, x61, x62, x63, x64, x65, x66, x67, .int 0, .int 0, x70, .int 0, x72, x73, x74, x75, x76, x77, x78, x79, x80, x81, .int 0, x83, x84, x85, x86, .ref b_hasBox, x88])), (b_nHasForm, .inl (cy 3, 3, .inl (fun _ => 0)))] := hD
                                      refine lv_iconst (v := 0) hx hb dX12_hills_342 (by decide) ?_
                                      refine lv_istore_n (lv' := [(1, .int 0), (0, .ref b0)]) hx hb dX12_hills_343 rfl hl (by decide) rfl (fun ls hl => ?_)
                                      refine lv_iload_n hx hb dX12_hills_344 rfl (lv_at hl 0 rfl) ?_
                                      refine lv_aload_n hx hb dX12_hills_345 rfl (lv_at hl 1 rfl) ?_
                                      refine va_get (D := D) (ci := 12) (v := .int 0) (C := RX12) (T := TX12) (N := 89) hx hb hg i_X12 hown hK hP 18 rfl rfl 50 (by decide) (hg _ m_1463) (fun _ h9 => h9) rfl dX12_hills_346 ?_
                                      refine lv_icmp_ge (tgt := 373) hx hb dX12_hills_349 (by decide) (fun _ => ?_) (fun h => absurd (by decide) h)
                                      refine lv_aload_n hx hb dX12_hills_373 rfl (lv_at hl 1 rfl) ?_
                                      refine va_get (D := D) (ci := 12) (v := .ref b_now) (C := RX12) (T := TX12) (N := 89) hx hb hg i_X12 hown hK hP 18 rfl rfl 57 (by decide) (hg _ m_1470) (fun _ h9 => h9) rfl dX12_hills_374 ?_
                                      refine lv_bipush (v := 27) hx hb dX12_hills_377 (by decide) ?_
                                      refine lv_aload_n hx hb dX12_hills_379 rfl (lv_at hl 1 rfl) ?_
                                      refine va_get (D := D) (ci := 12) (v := .int 0) (C := RX12) (T := TX12) (N := 89) hx hb hg i_X12 hown hK hP 18 rfl rfl 48 (by decide) (hg _ m_1461) (fun _ h9 => h9) rfl dX12_hills_380 ?_
                                      refine va_iast hx hb hK hP hD hS 16 1 rfl rfl (by unfold vp_in; decide) dX12_hills_383 (fun H locs hP hD hS => ?_)
                                      rw [upd_z] at hP hD
                                      have hP : va_P D vwCl [(b_hasForm, .inl (cy 3, 3, .inl (fun _ => 0))), (b_many, .inl (cy 1, 3, .inl (fun _ => 0))), (b_loud, .inl (cy 1, 8, .inl (fq0))), (b_nLoud, .inl (cy 1, 8, .inl (fl1))), (b_cliffAt, .inl (cy 1, 4, .inl (fq1))), (b_nCliffAt, .inl (cy 1, 4, .inl (fl3))), (b_snowTold, .inl (cy 1, 4, .inl (fq2))), (b_nSnow, .inl (cy 1, 4, .inl (fl5))), (b_manAt, .inl (cy 1, 4, .inl (fq3))), (b_nManAt, .inl (cy 1, 4, .inl (fl7))), (b_voice, .inl (cy 1, 4, .inl (fq4))), (b_nVoice, .inl (cy 1, 4, .inl (fl9))), (b_yes, .inl (cy 3, 6, .inl (fq5))), (b_nYes, .inl (cy 3, 6, .inl (fl11))), (b_on, .inl (cy 1, 48, .inl (fq6))), (b_nOn, .inl (cy 1, 48, .inl (fl13))), (b_now, .inl (cy 1, 42, .inl (fun _ => 0))), (b_hasBox, .inl (cy 3, 3, .inl (fun _ => 0))), (b0, .inr (12, [x0, .int 0, .int 0, .int (-1), .int 0, .int 0, .int 0, .int 0, .int 0, .long 0, x10, x11, x12, x13, x14, x15, .ref b_many, x17, x18, .ref b_nHasForm, .ref b_hasForm, x21, x22, .int 0, .int 0, x25, x26, x27, .ref b_nLoud, .ref b_nCliffAt, .ref b_nSnow, .ref b_nManAt, .ref b_nVoice, .ref b_nOn, .ref b_loud, .ref b_cliffAt, .ref b_snowTold, .ref b_manAt, .ref b_voice, .ref b_on, .ref b_nYes, .ref b_yes, .int 0, .int 0, .int 0, .int 0, .int 0, .int 0, .int 0, .int 0, .int 0, .int 0, .int 0, .int 0, .int 0, .int 0, .int 0, .ref b_now, x58, x59, x60, x61, x62, x63, x64, x65, x66, x67, .int 0, .int 0, x70, .int 0, x72, x73, x74, x75, x76, x77, x78, x79, x80, x81, .int 0, x83, x84, x85, x86, .ref b_hasBox, x88])), (b_nHasForm, .inl (cy 3, 3, .inl (fun _ => 0)))] H := hP
                                      have hD : va_D A [(b_hasForm, .inl (cy 3, 3, .inl (fun _ => 0))), (b_many, .inl (cy 1, 3, .inl (fun _ => 0))), (b_loud, .inl (cy 1, 8, .inl (fq0))), (b_nLoud, .inl (cy 1, 8, .inl (fl1))), (b_cliffAt, .inl (cy 1, 4, .inl (fq1))), (b_nCliffAt, .inl (cy 1, 4, .inl (fl3))), (b_snowTold, .inl (cy 1, 4, .inl (fq2))), (b_nSnow, .inl (cy 1, 4, .inl (fl5))), (b_manAt, .inl (cy 1, 4, .inl (fq3))), (b_nManAt, .inl (cy 1, 4, .inl (fl7))), (b_voice, .inl (cy 1, 4, .inl (fq4))), (b_nVoice, .inl (cy 1, 4, .inl (fl9))), (b_yes, .inl (cy 3, 6, .inl (fq5))), (b_nYes, .inl (cy 3, 6, .inl (fl11))), (b_on, .inl (cy 1, 48, .inl (fq6))), (b_nOn, .inl (cy 1, 48, .inl (fl13))), (b_now, .inl (cy 1, 42, .inl (fun _ => 0))), (b_hasBox, .inl (cy 3, 3, .inl (fun _ => 0))), (b0, .inr (12, [x0, .int 0, .int 0, .int (-1), .int 0, .int 0, .int 0, .int 0, .int 0, .long 0, x10, x11, x12, x13, x14, x15, .ref b_many, x17, x18, .ref b_nHasForm, .ref b_hasForm, x21, x22, .int 0, .int 0, x25, x26, x27, .ref b_nLoud, .ref b_nCliffAt, .ref b_nSnow, .ref b_nManAt, .ref b_nVoice, .ref b_nOn, .ref b_loud, .ref b_cliffAt, .ref b_snowTold, .ref b_manAt, .ref b_voice, .ref b_on, .ref b_nYes, .ref b_yes, .int 0, .int 0, .int 0, .int 0, .int 0, .int 0, .int 0, .int 0, .int 0, .int 0, .int 0, .int 0, .int 0, .int 0, .int 0, .ref b_now, x58, x59, x60, x61, x62, x63, x64, x65, x66, x67, .int 0, .int 0, x70, .int 0, x72, x73, x74, x75, x76, x77, x78, x79, x80, x81, .int 0, x83, x84, x85, x86, .ref b_hasBox, x88])), (b_nHasForm, .inl (cy 3, 3, .inl (fun _ => 0)))] := hD
                                      refine lv_aload_n hx hb dX12_hills_384 rfl (lv_at hl 1 rfl) ?_
                                      refine lv_iconst (v := 0) hx hb dX12_hills_385 (by decide) ?_
                                      refine va_put (D := D) (ci := 12) (v := .int 0) (ty := .int) (C := RX12) (T := TX12) (N := 89) hx hb hg i_X12 tyX12 tyX12_ok nmX12 hown hK hP hD hS 18 rfl rfl 68 (by decide) (hg _ m_1481) (fun _ h9 => h9) rfl (by decide +kernel) rfl rfl (Nat.le_of_ble_eq_true rfl) dX12_hills_386 (fun H locs hP hD hS => ?_)
                                      have hP : va_P D vwCl [(b_hasForm, .inl (cy 3, 3, .inl (fun _ => 0))), (b_many, .inl (cy 1, 3, .inl (fun _ => 0))), (b_loud, .inl (cy 1, 8, .inl (fq0))), (b_nLoud, .inl (cy 1, 8, .inl (fl1))), (b_cliffAt, .inl (cy 1, 4, .inl (fq1))), (b_nCliffAt, .inl (cy 1, 4, .inl (fl3))), (b_snowTold, .inl (cy 1, 4, .inl (fq2))), (b_nSnow, .inl (cy 1, 4, .inl (fl5))), (b_manAt, .inl (cy 1, 4, .inl (fq3))), (b_nManAt, .inl (cy 1, 4, .inl (fl7))), (b_voice, .inl (cy 1, 4, .inl (fq4))), (b_nVoice, .inl (cy 1, 4, .inl (fl9))), (b_yes, .inl (cy 3, 6, .inl (fq5))), (b_nYes, .inl (cy 3, 6, .inl (fl11))), (b_on, .inl (cy 1, 48, .inl (fq6))), (b_nOn, .inl (cy 1, 48, .inl (fl13))), (b_now, .inl (cy 1, 42, .inl (fun _ => 0))), (b_hasBox, .inl (cy 3, 3, .inl (fun _ => 0))), (b0, .inr (12, [x0, .int 0, .int 0, .int (-1), .int 0, .int 0, .int 0, .int 0, .int 0, .long 0, x10, x11, x12, x13, x14, x15, .ref b_many, x17, x18, .ref b_nHasForm, .ref b_hasForm, x21, x22, .int 0, .int 0, x25, x26, x27, .ref b_nLoud, .ref b_nCliffAt, .ref b_nSnow, .ref b_nManAt, .ref b_nVoice, .ref b_nOn, .ref b_loud, .ref b_cliffAt, .ref b_snowTold, .ref b_manAt, .ref b_voice, .ref b_on, .ref b_nYes, .ref b_yes, .int 0, .int 0, .int 0, .int 0, .int 0, .int 0, .int 0, .int 0, .int 0, .int 0, .int 0, .int 0, .int 0, .int 0, .int 0, .ref b_now, x58, x59, x60, x61, x62, x63, x64, x65, x66, x67, .int 0, .int 0, x70, .int 0, x72, x73, x74, x75, x76, x77, x78, x79, x80, x81, .int 0, x83, x84, x85, x86, .ref b_hasBox, x88])), (b_nHasForm, .inl (cy 3, 3, .inl (fun _ => 0)))] H := hP
                                      have hD : va_D A [(b_hasForm, .inl (cy 3, 3, .inl (fun _ => 0))), (b_many, .inl (cy 1, 3, .inl (fun _ => 0))), (b_loud, .inl (cy 1, 8, .inl (fq0))), (b_nLoud, .inl (cy 1, 8, .inl (fl1))), (b_cliffAt, .inl (cy 1, 4, .inl (fq1))), (b_nCliffAt, .inl (cy 1, 4, .inl (fl3))), (b_snowTold, .inl (cy 1, 4, .inl (fq2))), (b_nSnow, .inl (cy 1, 4, .inl (fl5))), (b_manAt, .inl (cy 1, 4, .inl (fq3))), (b_nManAt, .inl (cy 1, 4, .inl (fl7))), (b_voice, .inl (cy 1, 4, .inl (fq4))), (b_nVoice, .inl (cy 1, 4, .inl (fl9))), (b_yes, .inl (cy 3, 6, .inl (fq5))), (b_nYes, .inl (cy 3, 6, .inl (fl11))), (b_on, .inl (cy 1, 48, .inl (fq6))), (b_nOn, .inl (cy 1, 48, .inl (fl13))), (b_now, .inl (cy 1, 42, .inl (fun _ => 0))), (b_hasBox, .inl (cy 3, 3, .inl (fun _ => 0))), (b0, .inr (12, [x0, .int 0, .int 0, .int (-1), .int 0, .int 0, .int 0, .int 0, .int 0, .long 0, x10, x11, x12, x13, x14, x15, .ref b_many, x17, x18, .ref b_nHasForm, .ref b_hasForm, x21, x22, .int 0, .int 0, x25, x26, x27, .ref b_nLoud, .ref b_nCliffAt, .ref b_nSnow, .ref b_nManAt, .ref b_nVoice, .ref b_nOn, .ref b_loud, .ref b_cliffAt, .ref b_snowTold, .ref b_manAt, .ref b_voice, .ref b_on, .ref b_nYes, .ref b_yes, .int 0, .int 0, .int 0, .int 0, .int 0, .int 0, .int 0, .int 0, .int 0, .int 0, .int 0, .int 0, .int 0, .int 0, .int 0, .ref b_now, x58, x59, x60, x61, x62, x63, x64, x65, x66, x67, .int 0, .int 0, x70, .int 0, x72, x73, x74, x75, x76, x77, x78, x79, x80, x81, .int 0, x83, x84, x85, x86, .ref b_hasBox, x88])), (b_nHasForm, .inl (cy 3, 3, .inl (fun _ => 0)))] := hD
                                      refine lv_aload_n hx hb dX12_hills_389 rfl (lv_at hl 1 rfl) ?_
                                      refine lv_iconst (v := 0) hx hb dX12_hills_390 (by decide) ?_
                                      refine va_put (D := D) (ci := 12) (v := .int 0) (ty := .int) (C := RX12) (T := TX12) (N := 89) hx hb hg i_X12 tyX12 tyX12_ok nmX12 hown hK hP hD hS 18 rfl rfl 69 (by decide) (hg _ m_1482) (fun _ h9 => h9) rfl (by decide +kernel) rfl rfl (Nat.le_of_ble_eq_true rfl) dX12_hills_391 (fun H locs hP hD hS => ?_)
                                      have hP : va_P D vwCl [(b_hasForm, .inl (cy 3, 3, .inl (fun _ => 0))), (b_many, .inl (cy 1, 3, .inl (fun _ => 0))), (b_loud, .inl (cy 1, 8, .inl (fq0))), (b_nLoud, .inl (cy 1, 8, .inl (fl1))), (b_cliffAt, .inl (cy 1, 4, .inl (fq1))), (b_nCliffAt, .inl (cy 1, 4, .inl (fl3))), (b_snowTold, .inl (cy 1, 4, .inl (fq2))), (b_nSnow, .inl (cy 1, 4, .inl (fl5))), (b_manAt, .inl (cy 1, 4, .inl (fq3))), (b_nManAt, .inl (cy 1, 4, .inl (fl7))), (b_voice, .inl (cy 1, 4, .inl (fq4))), (b_nVoice, .inl (cy 1, 4, .inl (fl9))), (b_yes, .inl (cy 3, 6, .inl (fq5))), (b_nYes, .inl (cy 3, 6, .inl (fl11))), (b_on, .inl (cy 1, 48, .inl (fq6))), (b_nOn, .inl (cy 1, 48, .inl (fl13))), (b_now, .inl (cy 1, 42, .inl (fun _ => 0))), (b_hasBox, .inl (cy 3, 3, .inl (fun _ => 0))), (b0, .inr (12, [x0, .int 0, .int 0, .int (-1), .int 0, .int 0, .int 0, .int 0, .int 0, .long 0, x10, x11, x12, x13, x14, x15, .ref b_many, x17, x18, .ref b_nHasForm, .ref b_hasForm, x21, x22, .int 0, .int 0, x25, x26, x27, .ref b_nLoud, .ref b_nCliffAt, .ref b_nSnow, .ref b_nManAt, .ref b_nVoice, .ref b_nOn, .ref b_loud, .ref b_cliffAt, .ref b_snowTold, .ref b_manAt, .ref b_voice, .ref b_on, .ref b_nYes, .ref b_yes, .int 0, .int 0, .int 0, .int 0, .int 0, .int 0, .int 0, .int 0, .int 0, .int 0, .int 0, .int 0, .int 0, .int 0, .int 0, .ref b_now, x58, x59, x60, x61, x62, x63, x64, x65, x66, x67, .int 0, .int 0, x70, .int 0, x72, x73, x74, x75, x76, x77, x78, x79, x80, x81, .int 0, x83, x84, x85, x86, .ref b_hasBox, x88])), (b_nHasForm, .inl (cy 3, 3, .inl (fun _ => 0)))] H := hP
                                      have hD : va_D A [(b_hasForm, .inl (cy 3, 3, .inl (fun _ => 0))), (b_many, .inl (cy 1, 3, .inl (fun _ => 0))), (b_loud, .inl (cy 1, 8, .inl (fq0))), (b_nLoud, .inl (cy 1, 8, .inl (fl1))), (b_cliffAt, .inl (cy 1, 4, .inl (fq1))), (b_nCliffAt, .inl (cy 1, 4, .inl (fl3))), (b_snowTold, .inl (cy 1, 4, .inl (fq2))), (b_nSnow, .inl (cy 1, 4, .inl (fl5))), (b_manAt, .inl (cy 1, 4, .inl (fq3))), (b_nManAt, .inl (cy 1, 4, .inl (fl7))), (b_voice, .inl (cy 1, 4, .inl (fq4))), (b_nVoice, .inl (cy 1, 4, .inl (fl9))), (b_yes, .inl (cy 3, 6, .inl (fq5))), (b_nYes, .inl (cy 3, 6, .inl (fl11))), (b_on, .inl (cy 1, 48, .inl (fq6))), (b_nOn, .inl (cy 1, 48, .inl (fl13))), (b_now, .inl (cy 1, 42, .inl (fun _ => 0))), (b_hasBox, .inl (cy 3, 3, .inl (fun _ => 0))), (b0, .inr (12, [x0, .int 0, .int 0, .int (-1), .int 0, .int 0, .int 0, .int 0, .int 0, .long 0, x10, x11, x12, x13, x14, x15, .ref b_many, x17, x18, .ref b_nHasForm, .ref b_hasForm, x21, x22, .int 0, .int 0, x25, x26, x27, .ref b_nLoud, .ref b_nCliffAt, .ref b_nSnow, .ref b_nManAt, .ref b_nVoice, .ref b_nOn, .ref b_loud, .ref b_cliffAt, .ref b_snowTold, .ref b_manAt, .ref b_voice, .ref b_on, .ref b_nYes, .ref b_yes, .int 0, .int 0, .int 0, .int 0, .int 0, .int 0, .int 0, .int 0, .int 0, .int 0, .int 0, .int 0, .int 0, .int 0, .int 0, .ref b_now, x58, x59, x60, x61, x62, x63, x64, x65, x66, x67, .int 0, .int 0, x70, .int 0, x72, x73, x74, x75, x76, x77, x78, x79, x80, x81, .int 0, x83, x84, x85, x86, .ref b_hasBox, x88])), (b_nHasForm, .inl (cy 3, 3, .inl (fun _ => 0)))] := hD
                                      refine lv_aload_n hx hb dX12_hills_394 rfl (lv_at hl 1 rfl) ?_
                                      refine lv_iconst (v := 0) hx hb dX12_hills_395 (by decide) ?_
                                      refine va_put (D := D) (ci := 12) (v := .int 0) (ty := .int) (C := RX12) (T := TX12) (N := 89) hx hb hg i_X12 tyX12 tyX12_ok nmX12 hown hK hP hD hS 18 rfl rfl 82 (by decide) (hg _ m_1495) (fun _ h9 => h9) rfl (by decide +kernel) rfl rfl (Nat.le_of_ble_eq_true rfl) dX12_hills_396 (fun H locs hP hD hS => ?_)
                                      have hP : va_P D vwCl [(b_hasForm, .inl (cy 3, 3, .inl (fun _ => 0))), (b_many, .inl (cy 1, 3, .inl (fun _ => 0))), (b_loud, .inl (cy 1, 8, .inl (fq0))), (b_nLoud, .inl (cy 1, 8, .inl (fl1))), (b_cliffAt, .inl (cy 1, 4, .inl (fq1))), (b_nCliffAt, .inl (cy 1, 4, .inl (fl3))), (b_snowTold, .inl (cy 1, 4, .inl (fq2))), (b_nSnow, .inl (cy 1, 4, .inl (fl5))), (b_manAt, .inl (cy 1, 4, .inl (fq3))), (b_nManAt, .inl (cy 1, 4, .inl (fl7))), (b_voice, .inl (cy 1, 4, .inl (fq4))), (b_nVoice, .inl (cy 1, 4, .inl (fl9))), (b_yes, .inl (cy 3, 6, .inl (fq5))), (b_nYes, .inl (cy 3, 6, .inl (fl11))), (b_on, .inl (cy 1, 48, .inl (fq6))), (b_nOn, .inl (cy 1, 48, .inl (fl13))), (b_now, .inl (cy 1, 42, .inl (fun _ => 0))), (b_hasBox, .inl (cy 3, 3, .inl (fun _ => 0))), (b0, .inr (12, [x0, .int 0, .int 0, .int (-1), .int 0, .int 0, .int 0, .int 0, .int 0, .long 0, x10, x11, x12, x13, x14, x15, .ref b_many, x17, x18, .ref b_nHasForm, .ref b_hasForm, x21, x22, .int 0, .int 0, x25, x26, x27, .ref b_nLoud, .ref b_nCliffAt, .ref b_nSnow, .ref b_nManAt, .ref b_nVoice, .ref b_nOn, .ref b_loud, .ref b_cliffAt, .ref b_snowTold, .ref b_manAt, .ref b_voice, .ref b_on, .ref b_nYes, .ref b_yes, .int 0, .int 0, .int 0, .int 0, .int 0, .int 0, .int 0, .int 0, .int 0, .int 0, .int 0, .int 0, .int 0, .int 0, .int 0, .ref b_now, x58, x59, x60, x61, x62, x63, x64, x65, x66, x67, .int 0, .int 0, x70, .int 0, x72, x73, x74, x75, x76, x77, x78, x79, x80, x81, .int 0, x83, x84, x85, x86, .ref b_hasBox, x88])), (b_nHasForm, .inl (cy 3, 3, .inl (fun _ => 0)))] H := hP
                                      have hD : va_D A [(b_hasForm, .inl (cy 3, 3, .inl (fun _ => 0))), (b_many, .inl (cy 1, 3, .inl (fun _ => 0))), (b_loud, .inl (cy 1, 8, .inl (fq0))), (b_nLoud, .inl (cy 1, 8, .inl (fl1))), (b_cliffAt, .inl (cy 1, 4, .inl (fq1))), (b_nCliffAt, .inl (cy 1, 4, .inl (fl3))), (b_snowTold, .inl (cy 1, 4, .inl (fq2))), (b_nSnow, .inl (cy 1, 4, .inl (fl5))), (b_manAt, .inl (cy 1, 4, .inl (fq3))), (b_nManAt, .inl (cy 1, 4, .inl (fl7))), (b_voice, .inl (cy 1, 4, .inl (fq4))), (b_nVoice, .inl (cy 1, 4, .inl (fl9))), (b_yes, .inl (cy 3, 6, .inl (fq5))), (b_nYes, .inl (cy 3, 6, .inl (fl11))), (b_on, .inl (cy 1, 48, .inl (fq6))), (b_nOn, .inl (cy 1, 48, .inl (fl13))), (b_now, .inl (cy 1, 42, .inl (fun _ => 0))), (b_hasBox, .inl (cy 3, 3, .inl (fun _ => 0))), (b0, .inr (12, [x0, .int 0, .int 0, .int (-1), .int 0, .int 0, .int 0, .int 0, .int 0, .long 0, x10, x11, x12, x13, x14, x15, .ref b_many, x17, x18, .ref b_nHasForm, .ref b_hasForm, x21, x22, .int 0, .int 0, x25, x26, x27, .ref b_nLoud, .ref b_nCliffAt, .ref b_nSnow, .ref b_nManAt, .ref b_nVoice, .ref b_nOn, .ref b_loud, .ref b_cliffAt, .ref b_snowTold, .ref b_manAt, .ref b_voice, .ref b_on, .ref b_nYes, .ref b_yes, .int 0, .int 0, .int 0, .int 0, .int 0, .int 0, .int 0, .int 0, .int 0, .int 0, .int 0, .int 0, .int 0, .int 0, .int 0, .ref b_now, x58, x59, x60, x61, x62, x63, x64, x65, x66, x67, .int 0, .int 0, x70, .int 0, x72, x73, x74, x75, x76, x77, x78, x79, x80, x81, .int 0, x83, x84, x85, x86, .ref b_hasBox, x88])), (b_nHasForm, .inl (cy 3, 3, .inl (fun _ => 0)))] := hD
                                      refine lv_aload_n hx hb dX12_hills_399 rfl (lv_at hl 1 rfl) ?_
                                      refine lv_iconst (v := 0) hx hb dX12_hills_400 (by decide) ?_
                                      refine va_put (D := D) (ci := 12) (v := .int 0) (ty := .int) (C := RX12) (T := TX12) (N := 89) hx hb hg i_X12 tyX12 tyX12_ok nmX12 hown hK hP hD hS 18 rfl rfl 71 (by decide) (hg _ m_1484) (fun _ h9 => h9) rfl (by decide +kernel) rfl rfl (Nat.le_of_ble_eq_true rfl) dX12_hills_401 (fun H locs hP hD hS => ?_)
                                      have hP : va_P D vwCl [(b_hasForm, .inl (cy 3, 3, .inl (fun _ => 0))), (b_many, .inl (cy 1, 3, .inl (fun _ => 0))), (b_loud, .inl (cy 1, 8, .inl (fq0))), (b_nLoud, .inl (cy 1, 8, .inl (fl1))), (b_cliffAt, .inl (cy 1, 4, .inl (fq1))), (b_nCliffAt, .inl (cy 1, 4, .inl (fl3))), (b_snowTold, .inl (cy 1, 4, .inl (fq2))), (b_nSnow, .inl (cy 1, 4, .inl (fl5))), (b_manAt, .inl (cy 1, 4, .inl (fq3))), (b_nManAt, .inl (cy 1, 4, .inl (fl7))), (b_voice, .inl (cy 1, 4, .inl (fq4))), (b_nVoice, .inl (cy 1, 4, .inl (fl9))), (b_yes, .inl (cy 3, 6, .inl (fq5))), (b_nYes, .inl (cy 3, 6, .inl (fl11))), (b_on, .inl (cy 1, 48, .inl (fq6))), (b_nOn, .inl (cy 1, 48, .inl (fl13))), (b_now, .inl (cy 1, 42, .inl (fun _ => 0))), (b_hasBox, .inl (cy 3, 3, .inl (fun _ => 0))), (b0, .inr (12, [x0, .int 0, .int 0, .int (-1), .int 0, .int 0, .int 0, .int 0, .int 0, .long 0, x10, x11, x12, x13, x14, x15, .ref b_many, x17, x18, .ref b_nHasForm, .ref b_hasForm, x21, x22, .int 0, .int 0, x25, x26, x27, .ref b_nLoud, .ref b_nCliffAt, .ref b_nSnow, .ref b_nManAt, .ref b_nVoice, .ref b_nOn, .ref b_loud, .ref b_cliffAt, .ref b_snowTold, .ref b_manAt, .ref b_voice, .ref b_on, .ref b_nYes, .ref b_yes, .int 0, .int 0, .int 0, .int 0, .int 0, .int 0, .int 0, .int 0, .int 0, .int 0, .int 0, .int 0, .int 0, .int 0, .int 0, .ref b_now, x58, x59, x60, x61, x62, x63, x64, x65, x66, x67, .int 0, .int 0, x70, .int 0, x72, x73, x74, x75, x76, x77, x78, x79, x80, x81, .int 0, x83, x84, x85, x86, .ref b_hasBox, x88])), (b_nHasForm, .inl (cy 3, 3, .inl (fun _ => 0)))] H := hP
                                      have hD : va_D A [(b_hasForm, .inl (cy 3, 3, .inl (fun _ => 0))), (b_many, .inl (cy 1, 3, .inl (fun _ => 0))), (b_loud, .inl (cy 1, 8, .inl (fq0))), (b_nLoud, .inl (cy 1, 8, .inl (fl1))), (b_cliffAt, .inl (cy 1, 4, .inl (fq1))), (b_nCliffAt, .inl (cy 1, 4, .inl (fl3))), (b_snowTold, .inl (cy 1, 4, .inl (fq2))), (b_nSnow, .inl (cy 1, 4, .inl (fl5))), (b_manAt, .inl (cy 1, 4, .inl (fq3))), (b_nManAt, .inl (cy 1, 4, .inl (fl7))), (b_voice, .inl (cy 1, 4, .inl (fq4))), (b_nVoice, .inl (cy 1, 4, .inl (fl9))), (b_yes, .inl (cy 3, 6, .inl (fq5))), (b_nYes, .inl (cy 3, 6, .inl (fl11))), (b_on, .inl (cy 1, 48, .inl (fq6))), (b_nOn, .inl (cy 1, 48, .inl (fl13))), (b_now, .inl (cy 1, 42, .inl (fun _ => 0))), (b_hasBox, .inl (cy 3, 3, .inl (fun _ => 0))), (b0, .inr (12, [x0, .int 0, .int 0, .int (-1), .int 0, .int 0, .int 0, .int 0, .int 0, .long 0, x10, x11, x12, x13, x14, x15, .ref b_many, x17, x18, .ref b_nHasForm, .ref b_hasForm, x21, x22, .int 0, .int 0, x25, x26, x27, .ref b_nLoud, .ref b_nCliffAt, .ref b_nSnow, .ref b_nManAt, .ref b_nVoice, .ref b_nOn, .ref b_loud, .ref b_cliffAt, .ref b_snowTold, .ref b_manAt, .ref b_voice, .ref b_on, .ref b_nYes, .ref b_yes, .int 0, .int 0, .int 0, .int 0, .int 0, .int 0, .int 0, .int 0, .int 0, .int 0, .int 0, .int 0, .int 0, .int 0, .int 0, .ref b_now, x58, x59, x60, x61, x62, x63, x64, x65, x66, x67, .int 0, .int 0, x70, .int 0, x72, x73, x74, x75, x76, x77, x78, x79, x80, x81, .int 0, x83, x84, x85, x86, .ref b_hasBox, x88])), (b_nHasForm, .inl (cy 3, 3, .inl (fun _ => 0)))] := hD
                                      refine lv_iconst (v := 0) hx hb dX12_hills_404 (by decide) ?_
                                      refine lv_istore_n (lv' := [(1, .int 0), (0, .ref b0)]) hx hb dX12_hills_405 rfl hl (by decide) rfl (fun ls hl => ?_)
                                      have loop8 : ∀ (n i8 : Nat), i8 ≤ 3 → 4 ≤ i8 + n → ∀ (H : Heap) (locs : List Loc), va_P D vwCl [(b_hasForm, .inl (cy 3, 3, .inl (fun _ => 0))), (b_many, .inl (cy 1, 3, .inl (fun _ => 0))), (b_loud, .inl (cy 1, 8, .inl (fq0))), (b_nLoud, .inl (cy 1, 8, .inl (fl1))), (b_cliffAt, .inl (cy 1, 4, .inl (fq1))), (b_nCliffAt, .inl (cy 1, 4, .inl (fl3))), (b_snowTold, .inl (cy 1, 4, .inl (fq2))), (b_nSnow, .inl (cy 1, 4, .inl (fl5))), (b_manAt, .inl (cy 1, 4, .inl (fq3))), (b_nManAt, .inl (cy 1, 4, .inl (fl7))), (b_voice, .inl (cy 1, 4, .inl (fq4))), (b_nVoice, .inl (cy 1, 4, .inl (fl9))), (b_yes, .inl (cy 3, 6, .inl (fq5))), (b_nYes, .inl (cy 3, 6, .inl (fl11))), (b_on, .inl (cy 1, 48, .inl (fq6))), (b_nOn, .inl (cy 1, 48, .inl (fl13))), (b_now, .inl (cy 1, 42, .inl (fun _ => 0))), (b_hasBox, .inl (cy 3, 3, .inl (fun _ => 0))), (b0, .inr (12, [x0, .int 0, .int 0, .int (-1), .int 0, .int 0, .int 0, .int 0, .int 0, .long 0, x10, x11, x12, x13, x14, x15, .ref b_many, x17, x18, .ref b_nHasForm, .ref b_hasForm, x21, x22, .int 0, .int 0, x25, x26, x27, .ref b_nLoud, .ref b_nCliffAt, .ref b_nSnow, .ref b_nManAt, .ref b_nVoice, .ref b_nOn, .ref b_loud, .ref b_cliffAt, .ref b_snowTold, .ref b_manAt, .ref b_voice, .ref b_on, .ref b_nYes, .ref b_yes, .int 0, .int 0, .int 0, .int 0, .int 0, .int 0, .int 0, .int 0, .int 0, .int 0, .int 0, .int 0, .int 0, .int 0, .int 0, .ref b_now, x58, x59, x60, x61, x62, x63, x64, x65, x66, x67, .int 0, .int 0, x70, .int 0, x72, x73, x74, x75, x76, x77, x78, x79, x80, x81, .int 0, x83, x84, x85, x86, .ref b_hasBox, x88])), (b_nHasForm, .inl (cy 3, 3, .inl (fun _ => 0)))] H → va_D A [(b_hasForm, .inl (cy 3, 3, .inl (fun _ => 0))), (b_many, .inl (cy 1, 3, .inl (fun _ => 0))), (b_loud, .inl (cy 1, 8, .inl (fq0))), (b_nLoud, .inl (cy 1, 8, .inl (fl1))), (b_cliffAt, .inl (cy 1, 4, .inl (fq1))), (b_nCliffAt, .inl (cy 1, 4, .inl (fl3))), (b_snowTold, .inl (cy 1, 4, .inl (fq2))), (b_nSnow, .inl (cy 1, 4, .inl (fl5))), (b_manAt, .inl (cy 1, 4, .inl (fq3))), (b_nManAt, .inl (cy 1, 4, .inl (fl7))), (b_voice, .inl (cy 1, 4, .inl (fq4))), (b_nVoice, .inl (cy 1, 4, .inl (fl9))), (b_yes, .inl (cy 3, 6, .inl (fq5))), (b_nYes, .inl (cy 3, 6, .inl (fl11))), (b_on, .inl (cy 1, 48, .inl (fq6))), (b_nOn, .inl (cy 1, 48, .inl (fl13))), (b_now, .inl (cy 1, 42, .inl (fun _ => 0))), (b_hasBox, .inl (cy 3, 3, .inl (fun _ => 0))), (b0, .inr (12, [x0, .int 0, .int 0, .int (-1), .int 0, .int 0, .int 0, .int 0, .int 0, .long 0, x10, x11, x12, x13, x14, x15, .ref b_many, x17, x18, .ref b_nHasForm, .ref b_hasForm, x21, x22, .int 0, .int 0, x25, x26, x27, .ref b_nLoud, .ref b_nCliffAt, .ref b_nSnow, .ref b_nManAt, .ref b_nVoice, .ref b_nOn, .ref b_loud, .ref b_cliffAt, .ref b_snowTold, .ref b_manAt, .ref b_voice, .ref b_on, .ref b_nYes, .ref b_yes, .int 0, .int 0, .int 0, .int 0, .int 0, .int 0, .int 0, .int 0, .int 0, .int 0, .int 0, .int 0, .int 0, .int 0, .int 0, .ref b_now, x58, x59, x60, x61, x62, x63, x64, x65, x66, x67, .int 0, .int 0, x70, .int 0, x72, x73, x74, x75, x76, x77, x78, x79, x80, x81, .int 0, x83, x84, x85, x86, .ref b_hasBox, x88])), (b_nHasForm, .inl (cy 3, 3, .inl (fun _ => 0)))] → va_S A s.heap H locs → ∀ ls : Array Slot, lv_has ls 3 [(1, .int (nI i8)), (0, .ref b0)] → W p l e (rmk 3 0 0) s m args below meth c H locs 0 0 Q (F0 m 406 ls []) := by
                                        intro n
                                        induction n with
                                        | zero => intro i8 h1 h2; exact absurd h2 (by omega)
                                        | succ n ih =>
                                          intro i8 hi8 hn8  H locs hP hD hS ls hl
                                          have ih8 := ih
                                          refine lv_iload_n hx hb dX12_hills_406 rfl (lv_at hl 0 rfl) ?_
                                          refine lv_iconst (v := 3) hx hb dX12_hills_407 (by decide) ?_
                                          refine lv_icmp_ge (tgt := 424) hx hb dX12_hills_408 (by decide) (fun c8 => ?_) (fun c8 => ?_)
                                          · have hend8 : i8 = 3 := lp_end (N := 3) (by decide) hi8 (by decide) c8
                                            subst hend8
                                            refine lv_aload_n hx hb dX12_hills_424 rfl (lv_at hl 1 rfl) ?_
                                            refine va_get (D := D) (ci := 12) (v := .int 0) (C := RX12) (T := TX12) (N := 89) hx hb hg i_X12 hown hK hP 18 rfl rfl 50 (by decide) (hg _ m_1463) (fun _ h9 => h9) rfl dX12_hills_425 ?_
                                            exact x_iret hQ hx hb hr hlocks hK hP hD hS dX12_hills_428 () (rfl) [] (by decide) rfl (Nat.le_of_ble_eq_true rfl) (Nat.le_of_ble_eq_true rfl)
                                          · have hlt8 : i8 < 3 := lp_go (by decide) hi8 (by decide) c8
                                            refine lv_aload_n hx hb dX12_hills_411 rfl (lv_at hl 1 rfl) ?_
                                            refine va_get (D := D) (ci := 12) (v := .ref b_hasBox) (C := RX12) (T := TX12) (N := 89) hx hb hg i_X12 hown hK hP 18 rfl rfl 87 (by decide) (hg _ m_1500) (fun _ h9 => h9) rfl dX12_hills_412 ?_
                                            refine lv_iload_n hx hb dX12_hills_415 rfl (lv_at hl 0 rfl) ?_
                                            refine lv_iconst (v := 0) hx hb dX12_hills_416 (by decide) ?_
                                            refine va_zast hx hb hK hP hD hS 17 3 rfl rfl (vp_in_nI (by omega) (by decide)) dX12_hills_417 (fun H locs hP hD hS => ?_)
                                            rw [upd_zZ] at hP hD
                                            have hP : va_P D vwCl [(b_hasForm, .inl (cy 3, 3, .inl (fun _ => 0))), (b_many, .inl (cy 1, 3, .inl (fun _ => 0))), (b_loud, .inl (cy 1, 8, .inl (fq0))), (b_nLoud, .inl (cy 1, 8, .inl (fl1))), (b_cliffAt, .inl (cy 1, 4, .inl (fq1))), (b_nCliffAt, .inl (cy 1, 4, .inl (fl3))), (b_snowTold, .inl (cy 1, 4, .inl (fq2))), (b_nSnow, .inl (cy 1, 4, .inl (fl5))), (b_manAt, .inl (cy 1, 4, .inl (fq3))), (b_nManAt, .inl (cy 1, 4, .inl (fl7))), (b_voice, .inl (cy 1, 4, .inl (fq4))), (b_nVoice, .inl (cy 1, 4, .inl (fl9))), (b_yes, .inl (cy 3, 6, .inl (fq5))), (b_nYes, .inl (cy 3, 6, .inl (fl11))), (b_on, .inl (cy 1, 48, .inl (fq6))), (b_nOn, .inl (cy 1, 48, .inl (fl13))), (b_now, .inl (cy 1, 42, .inl (fun _ => 0))), (b_hasBox, .inl (cy 3, 3, .inl (fun _ => 0))), (b0, .inr (12, [x0, .int 0, .int 0, .int (-1), .int 0, .int 0, .int 0, .int 0, .int 0, .long 0, x10, x11, x12, x13, x14, x15, .ref b_many, x17, x18, .ref b_nHasForm, .ref b_hasForm, x21, x22, .int 0, .int 0, x25, x26, x27, .ref b_nLoud, .ref b_nCliffAt, .ref b_nSnow, .ref b_nManAt, .ref b_nVoice, .ref b_nOn, .ref b_loud, .ref b_cliffAt, .ref b_snowTold, .ref b_manAt, .ref b_voice, .ref b_on, .ref b_nYes, .ref b_yes, .int 0, .int 0, .int 0, .int 0, .int 0, .int 0, .int 0, .int 0, .int 0, .int 0, .int 0, .int 0, .int 0, .int 0, .int 0, .ref b_now, x58, x59, x60, x61, x62, x63, x64, x65, x66, x67, .int 0, .int 0, x70, .int 0, x72, x73, x74, x75, x76, x77, x78, x79, x80, x81, .int 0, x83, x84, x85, x86, .ref b_hasBox, x88])), (b_nHasForm, .inl (cy 3, 3, .inl (fun _ => 0)))] H := hP
                                            have hD : va_D A [(b_hasForm, .inl (cy 3, 3, .inl (fun _ => 0))), (b_many, .inl (cy 1, 3, .inl (fun _ => 0))), (b_loud, .inl (cy 1, 8, .inl (fq0))), (b_nLoud, .inl (cy 1, 8, .inl (fl1))), (b_cliffAt, .inl (cy 1, 4, .inl (fq1))), (b_nCliffAt, .inl (cy 1, 4, .inl (fl3))), (b_snowTold, .inl (cy 1, 4, .inl (fq2))), (b_nSnow, .inl (cy 1, 4, .inl (fl5))), (b_manAt, .inl (cy 1, 4, .inl (fq3))), (b_nManAt, .inl (cy 1, 4, .inl (fl7))), (b_voice, .inl (cy 1, 4, .inl (fq4))), (b_nVoice, .inl (cy 1, 4, .inl (fl9))), (b_yes, .inl (cy 3, 6, .inl (fq5))), (b_nYes, .inl (cy 3, 6, .inl (fl11))), (b_on, .inl (cy 1, 48, .inl (fq6))), (b_nOn, .inl (cy 1, 48, .inl (fl13))), (b_now, .inl (cy 1, 42, .inl (fun _ => 0))), (b_hasBox, .inl (cy 3, 3, .inl (fun _ => 0))), (b0, .inr (12, [x0, .int 0, .int 0, .int (-1), .int 0, .int 0, .int 0, .int 0, .int 0, .long 0, x10, x11, x12, x13, x14, x15, .ref b_many, x17, x18, .ref b_nHasForm, .ref b_hasForm, x21, x22, .int 0, .int 0, x25, x26, x27, .ref b_nLoud, .ref b_nCliffAt, .ref b_nSnow, .ref b_nManAt, .ref b_nVoice, .ref b_nOn, .ref b_loud, .ref b_cliffAt, .ref b_snowTold, .ref b_manAt, .ref b_voice, .ref b_on, .ref b_nYes, .ref b_yes, .int 0, .int 0, .int 0, .int 0, .int 0, .int 0, .int 0, .int 0, .int 0, .int 0, .int 0, .int 0, .int 0, .int 0, .int 0, .ref b_now, x58, x59, x60, x61, x62, x63, x64, x65, x66, x67, .int 0, .int 0, x70, .int 0, x72, x73, x74, x75, x76, x77, x78, x79, x80, x81, .int 0, x83, x84, x85, x86, .ref b_hasBox, x88])), (b_nHasForm, .inl (cy 3, 3, .inl (fun _ => 0)))] := hD
                                            refine lv_iinc (v := nI (i8 + 1)) (lv' := [(1, .int (nI (i8 + 1))), (0, .ref b0)]) hx hb dX12_hills_418 hl (k := 0) rfl (lp_inc i8) (by decide) rfl (fun ls hl => ?_)
                                            refine lv_goto (tgt := 406) hx hb dX12_hills_421 (by decide) ?_
                                            exact ih8 (i8 + 1) (by omega) (by omega)  _ _ (hP.sub [0, 1, 2, 3, 4, 5, 6, 7, 8, 9, 10, 11, 12, 13, 14, 15, 16, 17, 18, 19] rfl) (hD.sub [0, 1, 2, 3, 4, 5, 6, 7, 8, 9, 10, 11, 12, 13, 14, 15, 16, 17, 18, 19] (by decide) rfl) hS ls (lv_sub hl [0, 1] rfl)
                                      exact loop8 4 0 (by omega) (by omega)  _ _ (hP.sub [0, 1, 2, 3, 4, 5, 6, 7, 8, 9, 10, 11, 12, 13, 14, 15, 16, 17, 18, 19] rfl) (hD.sub [0, 1, 2, 3, 4, 5, 6, 7, 8, 9, 10, 11, 12, 13, 14, 15, 16, 17, 18, 19] (by decide) rfl) hS ls (lv_sub hl [0, 1] rfl)
                                    · have hlt7 : i7 < 41 := lp_go (by decide) hi7 (by decide) c7
                                      refine lv_aload_n hx hb dX12_hills_318 rfl (lv_at hl 1 rfl) ?_
                                      refine va_get (D := D) (ci := 12) (v := .ref b_now) (C := RX12) (T := TX12) (N := 89) hx hb hg i_X12 hown hK hP 18 rfl rfl 57 (by decide) (hg _ m_1470) (fun _ h9 => h9) rfl dX12_hills_319 ?_
                                      refine lv_iload_n hx hb dX12_hills_322 rfl (lv_at hl 0 rfl) ?_
                                      refine lv_iconst (v := 0) hx hb dX12_hills_323 (by decide) ?_
                                      refine va_iast hx hb hK hP hD hS 16 1 rfl rfl (vp_in_nI (by omega) (by decide)) dX12_hills_324 (fun H locs hP hD hS => ?_)
                                      rw [upd_z] at hP hD
                                      have hP : va_P D vwCl [(b_hasForm, .inl (cy 3, 3, .inl (fun _ => 0))), (b_many, .inl (cy 1, 3, .inl (fun _ => 0))), (b_loud, .inl (cy 1, 8, .inl (fq0))), (b_nLoud, .inl (cy 1, 8, .inl (fl1))), (b_cliffAt, .inl (cy 1, 4, .inl (fq1))), (b_nCliffAt, .inl (cy 1, 4, .inl (fl3))), (b_snowTold, .inl (cy 1, 4, .inl (fq2))), (b_nSnow, .inl (cy 1, 4, .inl (fl5))), (b_manAt, .inl (cy 1, 4, .inl (fq3))), (b_nManAt, .inl (cy 1, 4, .inl (fl7))), (b_voice, .inl (cy 1, 4, .inl (fq4))), (b_nVoice, .inl (cy 1, 4, .inl (fl9))), (b_yes, .inl (cy 3, 6, .inl (fq5))), (b_nYes, .inl (cy 3, 6, .inl (fl11))), (b_on, .inl (cy 1, 48, .inl (fq6))), (b_nOn, .inl (cy 1, 48, .inl (fl13))), (b_now, .inl (cy 1, 42, .inl (fun _ => 0))), (b_hasBox, .inl (cy 3, 3, .inl (fun _ => 0))), (b0, .inr (12, [x0, .int 0, .int 0, .int (-1), .int 0, .int 0, .int 0, .int 0, .int 0, .long 0, x10, x11, x12, x13, x14, x15, .ref b_many, x17, x18, .ref b_nHasForm, .ref b_hasForm, x21, x22, .int 0, .int 0, x25, x26, x27, .ref b_nLoud, .ref b_nCliffAt, .ref b_nSnow, .ref b_nManAt, .ref b_nVoice, .ref b_nOn, .ref b_loud, .ref b_cliffAt, .ref b_snowTold, .ref b_manAt, .ref b_voice, .ref b_on, .ref b_nYes, .ref b_yes, .int 0, .int 0, .int 0, .int 0, .int 0, .int 0, .int 0, .int 0, .int 0, .int 0, .int 0, .int 0, .int 0, .int 0, .int 0, .ref b_now, x58, x59, x60, x61, x62, x63, x64, x65, x66, x67, .int 0, .int 0, x70, .int 0, x72, x73, x74, x75, x76, x77, x78, x79, x80, x81, .int 0, x83, x84, x85, x86, .ref b_hasBox, x88])), (b_nHasForm, .inl (cy 3, 3, .inl (fun _ => 0)))] H := hP
                                      have hD : va_D A [(b_hasForm, .inl (cy 3, 3, .inl (fun _ => 0))), (b_many, .inl (cy 1, 3, .inl (fun _ => 0))), (b_loud, .inl (cy 1, 8, .inl (fq0))), (b_nLoud, .inl (cy 1, 8, .inl (fl1))), (b_cliffAt, .inl (cy 1, 4, .inl (fq1))), (b_nCliffAt, .inl (cy 1, 4, .inl (fl3))), (b_snowTold, .inl (cy 1, 4, .inl (fq2))), (b_nSnow, .inl (cy 1, 4, .inl (fl5))), (b_manAt, .inl (cy 1, 4, .inl (fq3))), (b_nManAt, .inl (cy 1, 4, .inl (fl7))), (b_voice, .inl (cy 1, 4, .inl (fq4))), (b_nVoice, .inl (cy 1, 4, .inl (fl9))), (b_yes, .inl (cy 3, 6, .inl (fq5))), (b_nYes, .inl (cy 3, 6, .inl (fl11))), (b_on, .inl (cy 1, 48, .inl (fq6))), (b_nOn, .inl (cy 1, 48, .inl (fl13))), (b_now, .inl (cy 1, 42, .inl (fun _ => 0))), (b_hasBox, .inl (cy 3, 3, .inl (fun _ => 0))), (b0, .inr (12, [x0, .int 0, .int 0, .int (-1), .int 0, .int 0, .int 0, .int 0, .int 0, .long 0, x10, x11, x12, x13, x14, x15, .ref b_many, x17, x18, .ref b_nHasForm, .ref b_hasForm, x21, x22, .int 0, .int 0, x25, x26, x27, .ref b_nLoud, .ref b_nCliffAt, .ref b_nSnow, .ref b_nManAt, .ref b_nVoice, .ref b_nOn, .ref b_loud, .ref b_cliffAt, .ref b_snowTold, .ref b_manAt, .ref b_voice, .ref b_on, .ref b_nYes, .ref b_yes, .int 0, .int 0, .int 0, .int 0, .int 0, .int 0, .int 0, .int 0, .int 0, .int 0, .int 0, .int 0, .int 0, .int 0, .int 0, .ref b_now, x58, x59, x60, x61, x62, x63, x64, x65, x66, x67, .int 0, .int 0, x70, .int 0, x72, x73, x74, x75, x76, x77, x78, x79, x80, x81, .int 0, x83, x84, x85, x86, .ref b_hasBox, x88])), (b_nHasForm, .inl (cy 3, 3, .inl (fun _ => 0)))] := hD
                                      refine lv_iinc (v := nI (i7 + 1)) (lv' := [(1, .int (nI (i7 + 1))), (0, .ref b0)]) hx hb dX12_hills_325 hl (k := 0) rfl (lp_inc i7) (by decide) rfl (fun ls hl => ?_)
                                      refine lv_goto (tgt := 312) hx hb dX12_hills_328 (by decide) ?_
                                      exact ih7 (i7 + 1) (by omega) (by omega)  _ _ (hP.sub [0, 1, 2, 3, 4, 5, 6, 7, 8, 9, 10, 11, 12, 13, 14, 15, 16, 17, 18, 19] rfl) (hD.sub [0, 1, 2, 3, 4, 5, 6, 7, 8, 9, 10, 11, 12, 13, 14, 15, 16, 17, 18, 19] (by decide) rfl) hS ls (lv_sub hl [0, 1] rfl)
                                exact loop7 42 0 (by omega) (by omega)  _ _ (hP.sub [0, 1, 2, 3, 4, 5, 6, 7, 8, 9, 10, 11, 12, 13, 14, 15, 16, 17, 18, 19] rfl) (hD.sub [0, 1, 2, 3, 4, 5, 6, 7, 8, 9, 10, 11, 12, 13, 14, 15, 16, 17, 18, 19] (by decide) rfl) hS ls (lv_sub hl [0, 1] rfl)
                              · have hlt6 : i6 < 48 := lp_go (by decide) hi6 (by decide) c6
                                refine lv_aload_n hx hb dX12_hills_292 rfl (lv_at hl 1 rfl) ?_
                                refine va_get (D := D) (ci := 12) (v := .ref b_on) (C := RX12) (T := TX12) (N := 89) hx hb hg i_X12 hown hK hP 18 rfl rfl 39 (by decide) (hg _ m_1452) (fun _ h9 => h9) rfl dX12_hills_293 ?_
                                refine lv_iload_n hx hb dX12_hills_296 rfl (lv_at hl 0 rfl) ?_
                                refine lv_aload_n hx hb dX12_hills_297 rfl (lv_at hl 1 rfl) ?_
                                refine va_get (D := D) (ci := 12) (v := .ref b_nOn) (C := RX12) (T := TX12) (N := 89) hx hb hg i_X12 hown hK hP 18 rfl rfl 33 (by decide) (hg _ m_1446) (fun _ h9 => h9) rfl dX12_hills_298 ?_
                                refine lv_iload_n hx hb dX12_hills_301 rfl (lv_at hl 0 rfl) ?_
                                refine va_iald hx hb hK hP 15 1 rfl rfl (vp_in_nI (by omega) (by decide)) dX12_hills_302 ?_
                                refine lv_topi (fun x_9 ex_9 => ?_)
                                refine va_iast hx hb hK hP hD hS 14 1 rfl rfl (vp_in_nI (by omega) (by decide)) dX12_hills_303 (fun H locs hP hD hS => ?_)
                                obtain ⟨g_10, eg_10⟩ : ∃ y, upd fq6 (nI i6 : Int32).toNatClampNeg x_9 = y := ⟨_, rfl⟩
                                rw [eg_10] at hP hD
                                have hP : va_P D vwCl [(b_hasForm, .inl (cy 3, 3, .inl (fun _ => 0))), (b_many, .inl (cy 1, 3, .inl (fun _ => 0))), (b_loud, .inl (cy 1, 8, .inl (fq0))), (b_nLoud, .inl (cy 1, 8, .inl (fl1))), (b_cliffAt, .inl (cy 1, 4, .inl (fq1))), (b_nCliffAt, .inl (cy 1, 4, .inl (fl3))), (b_snowTold, .inl (cy 1, 4, .inl (fq2))), (b_nSnow, .inl (cy 1, 4, .inl (fl5))), (b_manAt, .inl (cy 1, 4, .inl (fq3))), (b_nManAt, .inl (cy 1, 4, .inl (fl7))), (b_voice, .inl (cy 1, 4, .inl (fq4))), (b_nVoice, .inl (cy 1, 4, .inl (fl9))), (b_yes, .inl (cy 3, 6, .inl (fq5))), (b_nYes, .inl (cy 3, 6, .inl (fl11))), (b_on, .inl (cy 1, 48, .inl (g_10))), (b_nOn, .inl (cy 1, 48, .inl (fl13))), (b_now, .inl (cy 1, 42, .inl (fun _ => 0))), (b_hasBox, .inl (cy 3, 3, .inl (fun _ => 0))), (b0, .inr (12, [x0, .int 0, .int 0, .int (-1), .int 0, .int 0, .int 0, .int 0, .int 0, .long 0, x10, x11, x12, x13, x14, x15, .ref b_many, x17, x18, .ref b_nHasForm, .ref b_hasForm, x21, x22, .int 0, .int 0, x25, x26, x27, .ref b_nLoud, .ref b_nCliffAt, .ref b_nSnow, .ref b_nManAt, .ref b_nVoice, .ref b_nOn, .ref b_loud, .ref b_cliffAt, .ref b_snowTold, .ref b_manAt, .ref b_voice, .ref b_on, .ref b_nYes, .ref b_yes, .int 0, .int 0, .int 0, .int 0, .int 0, .int 0, .int 0, .int 0, .int 0, .int 0, .int 0, .int 0, .int 0, .int 0, .int 0, .ref b_now, x58, x59, x60, x61, x62, x63, x64, x65, x66, x67, .int 0, .int 0, x70, .int 0, x72, x73, x74, x75, x76, x77, x78, x79, x80, x81, .int 0, x83, x84, x85, x86, .ref b_hasBox, x88])), (b_nHasForm, .inl (cy 3, 3, .inl (fun _ => 0)))] H := hP
                                have hD : va_D A [(b_hasForm, .inl (cy 3, 3, .inl (fun _ => 0))), (b_many, .inl (cy 1, 3, .inl (fun _ => 0))), (b_loud, .inl (cy 1, 8, .inl (fq0))), (b_nLoud, .inl (cy 1, 8, .inl (fl1))), (b_cliffAt, .inl (cy 1, 4, .inl (fq1))), (b_nCliffAt, .inl (cy 1, 4, .inl (fl3))), (b_snowTold, .inl (cy 1, 4, .inl (fq2))), (b_nSnow, .inl (cy 1, 4, .inl (fl5))), (b_manAt, .inl (cy 1, 4, .inl (fq3))), (b_nManAt, .inl (cy 1, 4, .inl (fl7))), (b_voice, .inl (cy 1, 4, .inl (fq4))), (b_nVoice, .inl (cy 1, 4, .inl (fl9))), (b_yes, .inl (cy 3, 6, .inl (fq5))), (b_nYes, .inl (cy 3, 6, .inl (fl11))), (b_on, .inl (cy 1, 48, .inl (g_10))), (b_nOn, .inl (cy 1, 48, .inl (fl13))), (b_now, .inl (cy 1, 42, .inl (fun _ => 0))), (b_hasBox, .inl (cy 3, 3, .inl (fun _ => 0))), (b0, .inr (12, [x0, .int 0, .int 0, .int (-1), .int 0, .int 0, .int 0, .int 0, .int 0, .long 0, x10, x11, x12, x13, x14, x15, .ref b_many, x17, x18, .ref b_nHasForm, .ref b_hasForm, x21, x22, .int 0, .int 0, x25, x26, x27, .ref b_nLoud, .ref b_nCliffAt, .ref b_nSnow, .ref b_nManAt, .ref b_nVoice, .ref b_nOn, .ref b_loud, .ref b_cliffAt, .ref b_snowTold, .ref b_manAt, .ref b_voice, .ref b_on, .ref b_nYes, .ref b_yes, .int 0, .int 0, .int 0, .int 0, .int 0, .int 0, .int 0, .int 0, .int 0, .int 0, .int 0, .int 0, .int 0, .int 0, .int 0, .ref b_now, x58, x59, x60, x61, x62, x63, x64, x65, x66, x67, .int 0, .int 0, x70, .int 0, x72, x73, x74, x75, x76, x77, x78, x79, x80, x81, .int 0, x83, x84, x85, x86, .ref b_hasBox, x88])), (b_nHasForm, .inl (cy 3, 3, .inl (fun _ => 0)))] := hD
                                refine lv_iinc (v := nI (i6 + 1)) (lv' := [(1, .int (nI (i6 + 1))), (0, .ref b0)]) hx hb dX12_hills_304 hl (k := 0) rfl (lp_inc i6) (by decide) rfl (fun ls hl => ?_)
                                refine lv_goto (tgt := 286) hx hb dX12_hills_307 (by decide) ?_
                                exact ih6 (i6 + 1) (by omega) (by omega) g_10 _ _ (hP.sub [0, 1, 2, 3, 4, 5, 6, 7, 8, 9, 10, 11, 12, 13, 14, 15, 16, 17, 18, 19] rfl) (hD.sub [0, 1, 2, 3, 4, 5, 6, 7, 8, 9, 10, 11, 12, 13, 14, 15, 16, 17, 18, 19] (by decide) rfl) hS ls (lv_sub hl [0, 1] rfl)
                          exact loop6 49 0 (by omega) (by omega) fl12 _ _ (hP.sub [0, 1, 2, 3, 4, 5, 6, 7, 8, 9, 10, 11, 12, 13, 14, 15, 16, 17, 18, 19] rfl) (hD.sub [0, 1, 2, 3, 4, 5, 6, 7, 8, 9, 10, 11, 12, 13, 14, 15, 16, 17, 18, 19] (by decide) rfl) hS ls (lv_sub hl [0, 1] rfl)
                        · have hlt5 : i5 < 6 := lp_go (by decide) hi5 (by decide) c5
                          refine lv_aload_n hx hb dX12_hills_266 rfl (lv_at hl 1 rfl) ?_
                          refine va_get (D := D) (ci := 12) (v := .ref b_yes) (C := RX12) (T := TX12) (N := 89) hx hb hg i_X12 hown hK hP 18 rfl rfl 41 (by decide) (hg _ m_1454) (fun _ h9 => h9) rfl dX12_hills_267 ?_
                          refine lv_iload_n hx hb dX12_hills_270 rfl (lv_at hl 0 rfl) ?_
                          refine lv_aload_n hx hb dX12_hills_271 rfl (lv_at hl 1 rfl) ?_
                          refine va_get (D := D) (ci := 12) (v := .ref b_nYes) (C := RX12) (T := TX12) (N := 89) hx hb hg i_X12 hown hK hP 18 rfl rfl 40 (by decide) (hg _ m_1453) (fun _ h9 => h9) rfl dX12_hills_272 ?_
                          refine lv_iload_n hx hb dX12_hills_275 rfl (lv_at hl 0 rfl) ?_
                          refine va_zald hx hb hK hP 13 3 rfl rfl (vp_in_nI (by omega) (by decide)) dX12_hills_276 ?_
                          refine lv_topi (fun x_11 ex_11 => ?_)
                          refine va_zast hx hb hK hP hD hS 12 3 rfl rfl (vp_in_nI (by omega) (by decide)) dX12_hills_277 (fun H locs hP hD hS => ?_)
                          obtain ⟨g_12, eg_12⟩ : ∃ y, upd fq5 (nI i5 : Int32).toNatClampNeg (vp_nar .boolean x_11) = y := ⟨_, rfl⟩
                          rw [eg_12] at hP hD
                          have hP : va_P D vwCl [(b_hasForm, .inl (cy 3, 3, .inl (fun _ => 0))), (b_many, .inl (cy 1, 3, .inl (fun _ => 0))), (b_loud, .inl (cy 1, 8, .inl (fq0))), (b_nLoud, .inl (cy 1, 8, .inl (fl1))), (b_cliffAt, .inl (cy 1, 4, .inl (fq1))), (b_nCliffAt, .inl (cy 1, 4, .inl (fl3))), (b_snowTold, .inl (cy 1, 4, .inl (fq2))), (b_nSnow, .inl (cy 1, 4, .inl (fl5))), (b_manAt, .inl (cy 1, 4, .inl (fq3))), (b_nManAt, .inl (cy 1, 4, .inl (fl7))), (b_voice, .inl (cy 1, 4, .inl (fq4))), (b_nVoice, .inl (cy 1, 4, .inl (fl9))), (b_yes, .inl (cy 3, 6, .inl (g_12))), (b_nYes, .inl (cy 3, 6, .inl (fl11))), (b_on, .inl (cy 1, 48, .inl (fl12))), (b_nOn, .inl (cy 1, 48, .inl (fl13))), (b_now, .inl (cy 1, 42, .inl (fun _ => 0))), (b_hasBox, .inl (cy 3, 3, .inl (fun _ => 0))), (b0, .inr (12, [x0, .int 0, .int 0, .int (-1), .int 0, .int 0, .int 0, .int 0, .int 0, .long 0, x10, x11, x12, x13, x14, x15, .ref b_many, x17, x18, .ref b_nHasForm, .ref b_hasForm, x21, x22, .int 0, .int 0, x25, x26, x27, .ref b_nLoud, .ref b_nCliffAt, .ref b_nSnow, .ref b_nManAt, .ref b_nVoice, .ref b_nOn, .ref b_loud, .ref b_cliffAt, .ref b_snowTold, .ref b_manAt, .ref b_voice, .ref b_on, .ref b_nYes, .ref b_yes, .int 0, .int 0, .int 0, .int 0, .int 0, .int 0, .int 0, .int 0, .int 0, .int 0, .int 0, .int 0, .int 0, .int 0, .int 0, .ref b_now, x58, x59, x60, x61, x62, x63, x64, x65, x66, x67, .int 0, .int 0, x70, .int 0, x72, x73, x74, x75, x76, x77, x78, x79, x80, x81, .int 0, x83, x84, x85, x86, .ref b_hasBox, x88])), (b_nHasForm, .inl (cy 3, 3, .inl (fun _ => 0)))] H := hP
                          have hD : va_D A [(b_hasForm, .inl (cy 3, 3, .inl (fun _ => 0))), (b_many, .inl (cy 1, 3, .inl (fun _ => 0))), (b_loud, .inl (cy 1, 8, .inl (fq0))), (b_nLoud, .inl (cy 1, 8, .inl (fl1))), (b_cliffAt, .inl (cy 1, 4, .inl (fq1))), (b_nCliffAt, .inl (cy 1, 4, .inl (fl3))), (b_snowTold, .inl (cy 1, 4, .inl (fq2))), (b_nSnow, .inl (cy 1, 4, .inl (fl5))), (b_manAt, .inl (cy 1, 4, .inl (fq3))), (b_nManAt, .inl (cy 1, 4, .inl (fl7))), (b_voice, .inl (cy 1, 4, .inl (fq4))), (b_nVoice, .inl (cy 1, 4, .inl (fl9))), (b_yes, .inl (cy 3, 6, .inl (g_12))), (b_nYes, .inl (cy 3, 6, .inl (fl11))), (b_on, .inl (cy 1, 48, .inl (fl12))), (b_nOn, .inl (cy 1, 48, .inl (fl13))), (b_now, .inl (cy 1, 42, .inl (fun _ => 0))), (b_hasBox, .inl (cy 3, 3, .inl (fun _ => 0))), (b0, .inr (12, [x0, .int 0, .int 0, .int (-1), .int 0, .int 0, .int 0, .int 0, .int 0, .long 0, x10, x11, x12, x13, x14, x15, .ref b_many, x17, x18, .ref b_nHasForm, .ref b_hasForm, x21, x22, .int 0, .int 0, x25, x26, x27, .ref b_nLoud, .ref b_nCliffAt, .ref b_nSnow, .ref b_nManAt, .ref b_nVoice, .ref b_nOn, .ref b_loud, .ref b_cliffAt, .ref b_snowTold, .ref b_manAt, .ref b_voice, .ref b_on, .ref b_nYes, .ref b_yes, .int 0, .int 0, .int 0, .int 0, .int 0, .int 0, .int 0, .int 0, .int 0, .int 0, .int 0, .int 0, .int 0, .int 0, .int 0, .ref b_now, x58, x59, x60, x61, x62, x63, x64, x65, x66, x67, .int 0, .int 0, x70, .int 0, x72, x73, x74, x75, x76, x77, x78, x79, x80, x81, .int 0, x83, x84, x85, x86, .ref b_hasBox, x88])), (b_nHasForm, .inl (cy 3, 3, .inl (fun _ => 0)))] := hD
                          refine lv_iinc (v := nI (i5 + 1)) (lv' := [(1, .int (nI (i5 + 1))), (0, .ref b0)]) hx hb dX12_hills_278 hl (k := 0) rfl (lp_inc i5) (by decide) rfl (fun ls hl => ?_)
                          refine lv_goto (tgt := 260) hx hb dX12_hills_281 (by decide) ?_
                          exact ih5 (i5 + 1) (by omega) (by omega) g_12 _ _ (hP.sub [0, 1, 2, 3, 4, 5, 6, 7, 8, 9, 10, 11, 12, 13, 14, 15, 16, 17, 18, 19] rfl) (hD.sub [0, 1, 2, 3, 4, 5, 6, 7, 8, 9, 10, 11, 12, 13, 14, 15, 16, 17, 18, 19] (by decide) rfl) hS ls (lv_sub hl [0, 1] rfl)
                    exact loop5 7 0 (by omega) (by omega) fl10 _ _ (hP.sub [0, 1, 2, 3, 4, 5, 6, 7, 8, 9, 10, 11, 12, 13, 14, 15, 16, 17, 18, 19] rfl) (hD.sub [0, 1, 2, 3, 4, 5, 6, 7, 8, 9, 10, 11, 12, 13, 14, 15, 16, 17, 18, 19] (by decide) rfl) hS ls (lv_sub hl [0, 1] rfl)
                  · have hlt4 : i4 < 4 := lp_go (by decide) hi4 (by decide) c4
                    refine lv_aload_n hx hb dX12_hills_204 rfl (lv_at hl 1 rfl) ?_
                    refine va_get (D := D) (ci := 12) (v := .ref b_cliffAt) (C := RX12) (T := TX12) (N := 89) hx hb hg i_X12 hown hK hP 18 rfl rfl 35 (by decide) (hg _ m_1448) (fun _ h9 => h9) rfl dX12_hills_205 ?_
                    refine lv_iload_n hx hb dX12_hills_208 rfl (lv_at hl 0 rfl) ?_
                    refine lv_aload_n hx hb dX12_hills_209 rfl (lv_at hl 1 rfl) ?_
                    refine va_get (D := D) (ci := 12) (v := .ref b_nCliffAt) (C := RX12) (T := TX12) (N := 89) hx hb hg i_X12 hown hK hP 18 rfl rfl 29 (by decide) (hg _ m_1442) (fun _ h9 => h9) rfl dX12_hills_210 ?_
                    refine lv_iload_n hx hb dX12_hills_213 rfl (lv_at hl 0 rfl) ?_
                    refine va_iald hx hb hK hP 5 1 rfl rfl (vp_in_nI (by omega) (by decide)) dX12_hills_214 ?_
                    refine lv_topi (fun x_13 ex_13 => ?_)
                    refine va_iast hx hb hK hP hD hS 4 1 rfl rfl (vp_in_nI (by omega) (by decide)) dX12_hills_215 (fun H locs hP hD hS => ?_)
                    obtain ⟨g_14, eg_14⟩ : ∃ y, upd fq1 (nI i4 : Int32).toNatClampNeg x_13 = y := ⟨_, rfl⟩
                    rw [eg_14] at hP hD
                    have hP : va_P D vwCl [(b_hasForm, .inl (cy 3, 3, .inl (fun _ => 0))), (b_many, .inl (cy 1, 3, .inl (fun _ => 0))), (b_loud, .inl (cy 1, 8, .inl (fq0))), (b_nLoud, .inl (cy 1, 8, .inl (fl1))), (b_cliffAt, .inl (cy 1, 4, .inl (g_14))), (b_nCliffAt, .inl (cy 1, 4, .inl (fl3))), (b_snowTold, .inl (cy 1, 4, .inl (fq2))), (b_nSnow, .inl (cy 1, 4, .inl (fl5))), (b_manAt, .inl (cy 1, 4, .inl (fq3))), (b_nManAt, .inl (cy 1, 4, .inl (fl7))), (b_voice, .inl (cy 1, 4, .inl (fq4))), (b_nVoice, .inl (cy 1, 4, .inl (fl9))), (b_yes, .inl (cy 3, 6, .inl (fl10))), (b_nYes, .inl (cy 3, 6, .inl (fl11))), (b_on, .inl (cy 1, 48, .inl (fl12))), (b_nOn, .inl (cy 1, 48, .inl (fl13))), (b_now, .inl (cy 1, 42, .inl (fun _ => 0))), (b_hasBox, .inl (cy 3, 3, .inl (fun _ => 0))), (b0, .inr (12, [x0, .int 0, .int 0, .int (-1), .int 0, .int 0, .int 0, .int 0, .int 0, .long 0, x10, x11, x12, x13, x14, x15, .ref b_many, x17, x18, .ref b_nHasForm, .ref b_hasForm, x21, x22, .int 0, .int 0, x25, x26, x27, .ref b_nLoud, .ref b_nCliffAt, .ref b_nSnow, .ref b_nManAt, .ref b_nVoice, .ref b_nOn, .ref b_loud, .ref b_cliffAt, .ref b_snowTold, .ref b_manAt, .ref b_voice, .ref b_on, .ref b_nYes, .ref b_yes, .int 0, .int 0, .int 0, .int 0, .int 0, .int 0, .int 0, .int 0, .int 0, .int 0, .int 0, .int 0, .int 0, .int 0, .int 0, .ref b_now, x58, x59, x60, x61, x62, x63, x64, x65, x66, x67, .int 0, .int 0, x70, .int 0, x72, x73, x74, x75, x76, x77, x78, x79, x80, x81, .int 0, x83, x84, x85, x86, .ref b_hasBox, x88])), (b_nHasForm, .inl (cy 3, 3, .inl (fun _ => 0)))] H := hP
                    have hD : va_D A [(b_hasForm, .inl (cy 3, 3, .inl (fun _ => 0))), (b_many, .inl (cy 1, 3, .inl (fun _ => 0))), (b_loud, .inl (cy 1, 8, .inl (fq0))), (b_nLoud, .inl (cy 1, 8, .inl (fl1))), (b_cliffAt, .inl (cy 1, 4, .inl (g_14))), (b_nCliffAt, .inl (cy 1, 4, .inl (fl3))), (b_snowTold, .inl (cy 1, 4, .inl (fq2))), (b_nSnow, .inl (cy 1, 4, .inl (fl5))), (b_manAt, .inl (cy 1, 4, .inl (fq3))), (b_nManAt, .inl (cy 1, 4, .inl (fl7))), (b_voice, .inl (cy 1, 4, .inl (fq4))), (b_nVoice, .inl (cy 1, 4, .inl (fl9))), (b_yes, .inl (cy 3, 6, .inl (fl10))), (b_nYes, .inl (cy 3, 6, .inl (fl11))), (b_on, .inl (cy 1, 48, .inl (fl12))), (b_nOn, .inl (cy 1, 48, .inl (fl13))), (b_now, .inl (cy 1, 42, .inl (fun _ => 0))), (b_hasBox, .inl (cy 3, 3, .inl (fun _ => 0))), (b0, .inr (12, [x0, .int 0, .int 0, .int (-1), .int 0, .int 0, .int 0, .int 0, .int 0, .long 0, x10, x11, x12, x13, x14, x15, .ref b_many, x17, x18, .ref b_nHasForm, .ref b_hasForm, x21, x22, .int 0, .int 0, x25, x26, x27, .ref b_nLoud, .ref b_nCliffAt, .ref b_nSnow, .ref b_nManAt, .ref b_nVoice, .ref b_nOn, .ref b_loud, .ref b_cliffAt, .ref b_snowTold, .ref b_manAt, .ref b_voice, .ref b_on, .ref b_nYes, .ref b_yes, .int 0, .int 0, .int 0, .int 0, .int 0, .int 0, .int 0, .int 0, .int 0, .int 0, .int 0, .int 0, .int 0, .int 0, .int 0, .ref b_now, x58, x59, x60, x61, x62, x63, x64, x65, x66, x67, .int 0, .int 0, x70, .int 0, x72, x73, x74, x75, x76, x77, x78, x79, x80, x81, .int 0, x83, x84, x85, x86, .ref b_hasBox, x88])), (b_nHasForm, .inl (cy 3, 3, .inl (fun _ => 0)))] := hD
                    refine lv_aload_n hx hb dX12_hills_216 rfl (lv_at hl 1 rfl) ?_
                    refine va_get (D := D) (ci := 12) (v := .ref b_snowTold) (C := RX12) (T := TX12) (N := 89) hx hb hg i_X12 hown hK hP 18 rfl rfl 36 (by decide) (hg _ m_1449) (fun _ h9 => h9) rfl dX12_hills_217 ?_
                    refine lv_iload_n hx hb dX12_hills_220 rfl (lv_at hl 0 rfl) ?_
                    refine lv_aload_n hx hb dX12_hills_221 rfl (lv_at hl 1 rfl) ?_
                    refine va_get (D := D) (ci := 12) (v := .ref b_nSnow) (C := RX12) (T := TX12) (N := 89) hx hb hg i_X12 hown hK hP 18 rfl rfl 30 (by decide) (hg _ m_1443) (fun _ h9 => h9) rfl dX12_hills_222 ?_
                    refine lv_iload_n hx hb dX12_hills_225 rfl (lv_at hl 0 rfl) ?_
                    refine va_iald hx hb hK hP 7 1 rfl rfl (vp_in_nI (by omega) (by decide)) dX12_hills_226 ?_
                    refine lv_topi (fun x_15 ex_15 => ?_)
                    refine va_iast hx hb hK hP hD hS 6 1 rfl rfl (vp_in_nI (by omega) (by decide)) dX12_hills_227 (fun H locs hP hD hS => ?_)
                    obtain ⟨g_16, eg_16⟩ : ∃ y, upd fq2 (nI i4 : Int32).toNatClampNeg x_15 = y := ⟨_, rfl⟩
                    rw [eg_16] at hP hD
                    have hP : va_P D vwCl [(b_hasForm, .inl (cy 3, 3, .inl (fun _ => 0))), (b_many, .inl (cy 1, 3, .inl (fun _ => 0))), (b_loud, .inl (cy 1, 8, .inl (fq0))), (b_nLoud, .inl (cy 1, 8, .inl (fl1))), (b_cliffAt, .inl (cy 1, 4, .inl (g_14))), (b_nCliffAt, .inl (cy 1, 4, .inl (fl3))), (b_snowTold, .inl (cy 1, 4, .inl (g_16))), (b_nSnow, .inl (cy 1, 4, .inl (fl5))), (b_manAt, .inl (cy 1, 4, .inl (fq3))), (b_nManAt, .inl (cy 1, 4, .inl (fl7))), (b_voice, .inl (cy 1, 4, .inl (fq4))), (b_nVoice, .inl (cy 1, 4, .inl (fl9))), (b_yes, .inl (cy 3, 6, .inl (fl10))), (b_nYes, .inl (cy 3, 6, .inl (fl11))), (b_on, .inl (cy 1, 48, .inl (fl12))), (b_nOn, .inl (cy 1, 48, .inl (fl13))), (b_now, .inl (cy 1, 42, .inl (fun _ => 0))), (b_hasBox, .inl (cy 3, 3, .inl (fun _ => 0))), (b0, .inr (12, [x0, .int 0, .int 0, .int (-1), .int 0, .int 0, .int 0, .int 0, .int 0, .long 0, x10, x11, x12, x13, x14, x15, .ref b_many, x17, x18, .ref b_nHasForm, .ref b_hasForm, x21, x22, .int 0, .int 0, x25, x26, x27, .ref b_nLoud, .ref b_nCliffAt, .ref b_nSnow, .ref b_nManAt, .ref b_nVoice, .ref b_nOn, .ref b_loud, .ref b_cliffAt, .ref b_snowTold, .ref b_manAt, .ref b_voice, .ref b_on, .ref b_nYes, .ref b_yes, .int 0, .int 0, .int 0, .int 0, .int 0, .int 0, .int 0, .int 0, .int 0, .int 0, .int 0, .int 0, .int 0, .int 0, .int 0, .ref b_now, x58, x59, x60, x61, x62, x63, x64, x65, x66, x67, .int 0, .int 0, x70, .int 0, x72, x73, x74, x75, x76, x77, x78, x79, x80, x81, .int 0, x83, x84, x85, x86, .ref b_hasBox, x88])), (b_nHasForm, .inl (cy 3, 3, .inl (fun _ => 0)))] H := hP
                    have hD : va_D A [(b_hasForm, .inl (cy 3, 3, .inl (fun _ => 0))), (b_many, .inl (cy 1, 3, .inl (fun _ => 0))), (b_loud, .inl (cy 1, 8, .inl (fq0))), (b_nLoud, .inl (cy 1, 8, .inl (fl1))), (b_cliffAt, .inl (cy 1, 4, .inl (g_14))), (b_nCliffAt, .inl (cy 1, 4, .inl (fl3))), (b_snowTold, .inl (cy 1, 4, .inl (g_16))), (b_nSnow, .inl (cy 1, 4, .inl (fl5))), (b_manAt, .inl (cy 1, 4, .inl (fq3))), (b_nManAt, .inl (cy 1, 4, .inl (fl7))), (b_voice, .inl (cy 1, 4, .inl (fq4))), (b_nVoice, .inl (cy 1, 4, .inl (fl9))), (b_yes, .inl (cy 3, 6, .inl (fl10))), (b_nYes, .inl (cy 3, 6, .inl (fl11))), (b_on, .inl (cy 1, 48, .inl (fl12))), (b_nOn, .inl (cy 1, 48, .inl (fl13))), (b_now, .inl (cy 1, 42, .inl (fun _ => 0))), (b_hasBox, .inl (cy 3, 3, .inl (fun _ => 0))), (b0, .inr (12, [x0, .int 0, .int 0, .int (-1), .int 0, .int 0, .int 0, .int 0, .int 0, .long 0, x10, x11, x12, x13, x14, x15, .ref b_many, x17, x18, .ref b_nHasForm, .ref b_hasForm, x21, x22, .int 0, .int 0, x25, x26, x27, .ref b_nLoud, .ref b_nCliffAt, .ref b_nSnow, .ref b_nManAt, .ref b_nVoice, .ref b_nOn, .ref b_loud, .ref b_cliffAt, .ref b_snowTold, .ref b_manAt, .ref b_voice, .ref b_on, .ref b_nYes, .ref b_yes, .int 0, .int 0, .int 0, .int 0, .int 0, .int 0, .int 0, .int 0, .int 0, .int 0, .int 0, .int 0, .int 0, .int 0, .int 0, .ref b_now, x58, x59, x60, x61, x62, x63, x64, x65, x66, x67, .int 0, .int 0, x70, .int 0, x72, x73, x74, x75, x76, x77, x78, x79, x80, x81, .int 0, x83, x84, x85, x86, .ref b_hasBox, x88])), (b_nHasForm, .inl (cy 3, 3, .inl (fun _ => 0)))] := hD
                    refine lv_aload_n hx hb dX12_hills_228 rfl (lv_at hl 1 rfl) ?_
                    refine va_get (D := D) (ci := 12) (v := .ref b_manAt) (C := RX12) (T := TX12) (N := 89) hx hb hg i_X12 hown hK hP 18 rfl rfl 37 (by decide) (hg _ m_1450) (fun _ h9 => h9) rfl dX12_hills_229 ?_
                    refine lv_iload_n hx hb dX12_hills_232 rfl (lv_at hl 0 rfl) ?_
                    refine lv_aload_n hx hb dX12_hills_233 rfl (lv_at hl 1 rfl) ?_
                    refine va_get (D := D) (ci := 12) (v := .ref b_nManAt) (C := RX12) (T := TX12) (N := 89) hx hb hg i_X12 hown hK hP 18 rfl rfl 31 (by decide) (hg _ m_1444) (fun _ h9 => h9) rfl dX12_hills_234 ?_
                    refine lv_iload_n hx hb dX12_hills_237 rfl (lv_at hl 0 rfl) ?_
                    refine va_iald hx hb hK hP 9 1 rfl rfl (vp_in_nI (by omega) (by decide)) dX12_hills_238 ?_
                    refine lv_topi (fun x_17 ex_17 => ?_)
                    refine va_iast hx hb hK hP hD hS 8 1 rfl rfl (vp_in_nI (by omega) (by decide)) dX12_hills_239 (fun H locs hP hD hS => ?_)
                    obtain ⟨g_18, eg_18⟩ : ∃ y, upd fq3 (nI i4 : Int32).toNatClampNeg x_17 = y := ⟨_, rfl⟩
                    rw [eg_18] at hP hD
                    have hP : va_P D vwCl [(b_hasForm, .inl (cy 3, 3, .inl (fun _ => 0))), (b_many, .inl (cy 1, 3, .inl (fun _ => 0))), (b_loud, .inl (cy 1, 8, .inl (fq0))), (b_nLoud, .inl (cy 1, 8, .inl (fl1))), (b_cliffAt, .inl (cy 1, 4, .inl (g_14))), (b_nCliffAt, .inl (cy 1, 4, .inl (fl3))), (b_snowTold, .inl (cy 1, 4, .inl (g_16))), (b_nSnow, .inl (cy 1, 4, .inl (fl5))), (b_manAt, .inl (cy 1, 4, .inl (g_18))), (b_nManAt, .inl (cy 1, 4, .inl (fl7))), (b_voice, .inl (cy 1, 4, .inl (fq4))), (b_nVoice, .inl (cy 1, 4, .inl (fl9))), (b_yes, .inl (cy 3, 6, .inl (fl10))), (b_nYes, .inl (cy 3, 6, .inl (fl11))), (b_on, .inl (cy 1, 48, .inl (fl12))), (b_nOn, .inl (cy 1, 48, .inl (fl13))), (b_now, .inl (cy 1, 42, .inl (fun _ => 0))), (b_hasBox, .inl (cy 3, 3, .inl (fun _ => 0))), (b0, .inr (12, [x0, .int 0, .int 0, .int (-1), .int 0, .int 0, .int 0, .int 0, .int 0, .long 0, x10, x11, x12, x13, x14, x15, .ref b_many, x17, x18, .ref b_nHasForm, .ref b_hasForm, x21, x22, .int 0, .int 0, x25, x26, x27, .ref b_nLoud, .ref b_nCliffAt, .ref b_nSnow, .ref b_nManAt, .ref b_nVoice, .ref b_nOn, .ref b_loud, .ref b_cliffAt, .ref b_snowTold, .ref b_manAt, .ref b_voice, .ref b_on, .ref b_nYes, .ref b_yes, .int 0, .int 0, .int 0, .int 0, .int 0, .int 0, .int 0, .int 0, .int 0, .int 0, .int 0, .int 0, .int 0, .int 0, .int 0, .ref b_now, x58, x59, x60, x61, x62, x63, x64, x65, x66, x67, .int 0, .int 0, x70, .int 0, x72, x73, x74, x75, x76, x77, x78, x79, x80, x81, .int 0, x83, x84, x85, x86, .ref b_hasBox, x88])), (b_nHasForm, .inl (cy 3, 3, .inl (fun _ => 0)))] H := hP
                    have hD : va_D A [(b_hasForm, .inl (cy 3, 3, .inl (fun _ => 0))), (b_many, .inl (cy 1, 3, .inl (fun _ => 0))), (b_loud, .inl (cy 1, 8, .inl (fq0))), (b_nLoud, .inl (cy 1, 8, .inl (fl1))), (b_cliffAt, .inl (cy 1, 4, .inl (g_14))), (b_nCliffAt, .inl (cy 1, 4, .inl (fl3))), (b_snowTold, .inl (cy 1, 4, .inl (g_16))), (b_nSnow, .inl (cy 1, 4, .inl (fl5))), (b_manAt, .inl (cy 1, 4, .inl (g_18))), (b_nManAt, .inl (cy 1, 4, .inl (fl7))), (b_voice, .inl (cy 1, 4, .inl (fq4))), (b_nVoice, .inl (cy 1, 4, .inl (fl9))), (b_yes, .inl (cy 3, 6, .inl (fl10))), (b_nYes, .inl (cy 3, 6, .inl (fl11))), (b_on, .inl (cy 1, 48, .inl (fl12))), (b_nOn, .inl (cy 1, 48, .inl (fl13))), (b_now, .inl (cy 1, 42, .inl (fun _ => 0))), (b_hasBox, .inl (cy 3, 3, .inl (fun _ => 0))), (b0, .inr (12, [x0, .int 0, .int 0, .int (-1), .int 0, .int 0, .int 0, .int 0, .int 0, .long 0, x10, x11, x12, x13, x14, x15, .ref b_many, x17, x18, .ref b_nHasForm, .ref b_hasForm, x21, x22, .int 0, .int 0, x25, x26, x27, .ref b_nLoud, .ref b_nCliffAt, .ref b_nSnow, .ref b_nManAt, .ref b_nVoice, .ref b_nOn, .ref b_loud, .ref b_cliffAt, .ref b_snowTold, .ref b_manAt, .ref b_voice, .ref b_on, .ref b_nYes, .ref b_yes, .int 0, .int 0, .int 0, .int 0, .int 0, .int 0, .int 0, .int 0, .int 0, .int 0, .int 0, .int 0, .int 0, .int 0, .int 0, .ref b_now, x58, x59, x60, x61, x62, x63, x64, x65, x66, x67, .int 0, .int 0, x70, .int 0, x72, x73, x74, x75, x76, x77, x78, x79, x80, x81, .int 0, x83, x84, x85, x86, .ref b_hasBox, x88])), (b_nHasForm, .inl (cy 3, 3, .inl (fun _ => 0)))] := hD
                    refine lv_aload_n hx hb dX12_hills_240 rfl (lv_at hl 1 rfl) ?_
                    refine va_get (D := D) (ci := 12) (v := .ref b_voice) (C := RX12) (T := TX12) (N := 89) hx hb hg i_X12 hown hK hP 18 rfl rfl 38 (by decide) (hg _ m_1451) (fun _ h9 => h9) rfl dX12_hills_241 ?_
                    refine lv_iload_n hx hb dX12_hills_244 rfl (lv_at hl 0 rfl) ?_
                    refine lv_aload_n hx hb dX12_hills_245 rfl (lv_at hl 1 rfl) ?_
                    refine va_get (D := D) (ci := 12) (v := .ref b_nVoice) (C := RX12) (T := TX12) (N := 89) hx hb hg i_X12 hown hK hP 18 rfl rfl 32 (by decide) (hg _ m_1445) (fun _ h9 => h9) rfl dX12_hills_246 ?_
                    refine lv_iload_n hx hb dX12_hills_249 rfl (lv_at hl 0 rfl) ?_
                    refine va_iald hx hb hK hP 11 1 rfl rfl (vp_in_nI (by omega) (by decide)) dX12_hills_250 ?_
                    refine lv_topi (fun x_19 ex_19 => ?_)
                    refine va_iast hx hb hK hP hD hS 10 1 rfl rfl (vp_in_nI (by omega) (by decide)) dX12_hills_251 (fun H locs hP hD hS => ?_)
                    obtain ⟨g_20, eg_20⟩ : ∃ y, upd fq4 (nI i4 : Int32).toNatClampNeg x_19 = y := ⟨_, rfl⟩
                    rw [eg_20] at hP hD
                    have hP : va_P D vwCl [(b_hasForm, .inl (cy 3, 3, .inl (fun _ => 0))), (b_many, .inl (cy 1, 3, .inl (fun _ => 0))), (b_loud, .inl (cy 1, 8, .inl (fq0))), (b_nLoud, .inl (cy 1, 8, .inl (fl1))), (b_cliffAt, .inl (cy 1, 4, .inl (g_14))), (b_nCliffAt, .inl (cy 1, 4, .inl (fl3))), (b_snowTold, .inl (cy 1, 4, .inl (g_16))), (b_nSnow, .inl (cy 1, 4, .inl (fl5))), (b_manAt, .inl (cy 1, 4, .inl (g_18))), (b_nManAt, .inl (cy 1, 4, .inl (fl7))), (b_voice, .inl (cy 1, 4, .inl (g_20))), (b_nVoice, .inl (cy 1, 4, .inl (fl9))), (b_yes, .inl (cy 3, 6, .inl (fl10))), (b_nYes, .inl (cy 3, 6, .inl (fl11))), (b_on, .inl (cy 1, 48, .inl (fl12))), (b_nOn, .inl (cy 1, 48, .inl (fl13))), (b_now, .inl (cy 1, 42, .inl (fun _ => 0))), (b_hasBox, .inl (cy 3, 3, .inl (fun _ => 0))), (b0, .inr (12, [x0, .int 0, .int 0, .int (-1), .int 0, .int 0, .int 0, .int 0, .int 0, .long 0, x10, x11, x12, x13, x14, x15, .ref b_many, x17, x18, .ref b_nHasForm, .ref b_hasForm, x21, x22, .int 0, .int 0, x25, x26, x27, .ref b_nLoud, .ref b_nCliffAt, .ref b_nSnow, .ref b_nManAt, .ref b_nVoice, .ref b_nOn, .ref b_loud, .ref b_cliffAt, .ref b_snowTold, .ref b_manAt, .ref b_voice, .ref b_on, .ref b_nYes, .ref b_yes, .int 0, .int 0, .int 0, .int 0, .int 0, .int 0, .int 0, .int 0, .int 0, .int 0, .int 0, .int 0, .int 0, .int 0, .int 0, .ref b_now, x58, x59, x60, x61, x62, x63, x64, x65, x66, x67, .int 0, .int 0, x70, .int 0, x72, x73, x74, x75, x76, x77, x78, x79, x80, x81, .int 0, x83, x84, x85, x86, .ref b_hasBox, x88])), (b_nHasForm, .inl (cy 3, 3, .inl (fun _ => 0)))] H := hP
                    have hD : va_D A [(b_hasForm, .inl (cy 3, 3, .inl (fun _ => 0))), (b_many, .inl (cy 1, 3, .inl (fun _ => 0))), (b_loud, .inl (cy 1, 8, .inl (fq0))), (b_nLoud, .inl (cy 1, 8, .inl (fl1))), (b_cliffAt, .inl (cy 1, 4, .inl (g_14))), (b_nCliffAt, .inl (cy 1, 4, .inl (fl3))), (b_snowTold, .inl (cy 1, 4, .inl (g_16))), (b_nSnow, .inl (cy 1, 4, .inl (fl5))), (b_manAt, .inl (cy 1, 4, .inl (g_18))), (b_nManAt, .inl (cy 1, 4, .inl (fl7))), (b_voice, .inl (cy 1, 4, .inl (g_20))), (b_nVoice, .inl (cy 1, 4, .inl (fl9))), (b_yes, .inl (cy 3, 6, .inl (fl10))), (b_nYes, .inl (cy 3, 6, .inl (fl11))), (b_on, .inl (cy 1, 48, .inl (fl12))), (b_nOn, .inl (cy 1, 48, .inl (fl13))), (b_now, .inl (cy 1, 42, .inl (fun _ => 0))), (b_hasBox, .inl (cy 3, 3, .inl (fun _ => 0))), (b0, .inr (12, [x0, .int 0, .int 0, .int (-1), .int 0, .int 0, .int 0, .int 0, .int 0, .long 0, x10, x11, x12, x13, x14, x15, .ref b_many, x17, x18, .ref b_nHasForm, .ref b_hasForm, x21, x22, .int 0, .int 0, x25, x26, x27, .ref b_nLoud, .ref b_nCliffAt, .ref b_nSnow, .ref b_nManAt, .ref b_nVoice, .ref b_nOn, .ref b_loud, .ref b_cliffAt, .ref b_snowTold, .ref b_manAt, .ref b_voice, .ref b_on, .ref b_nYes, .ref b_yes, .int 0, .int 0, .int 0, .int 0, .int 0, .int 0, .int 0, .int 0, .int 0, .int 0, .int 0, .int 0, .int 0, .int 0, .int 0, .ref b_now, x58, x59, x60, x61, x62, x63, x64, x65, x66, x67, .int 0, .int 0, x70, .int 0, x72, x73, x74, x75, x76, x77, x78, x79, x80, x81, .int 0, x83, x84, x85, x86, .ref b_hasBox, x88])), (b_nHasForm, .inl (cy 3, 3, .inl (fun _ => 0)))] := hD
                    refine lv_iinc (v := nI (i4 + 1)) (lv' := [(1, .int (nI (i4 + 1))), (0, .ref b0)]) hx hb dX12_hills_252 hl (k := 0) rfl (lp_inc i4) (by decide) rfl (fun ls hl => ?_)
                    refine lv_goto (tgt := 199) hx hb dX12_hills_255 (by decide) ?_
                    exact ih4 (i4 + 1) (by omega) (by omega) g_14 g_16 g_18 g_20 _ _ (hP.sub [0, 1, 2, 3, 4, 5, 6, 7, 8, 9, 10, 11, 12, 13, 14, 15, 16, 17, 18, 19] rfl) (hD.sub [0, 1, 2, 3, 4, 5, 6, 7, 8, 9, 10, 11, 12, 13, 14, 15, 16, 17, 18, 19] (by decide) rfl) hS ls (lv_sub hl [0, 1] rfl)
              exact loop4 5 0 (by omega) (by omega) fl2 fl4 fl6 fl8 _ _ (hP.sub [0, 1, 2, 3, 4, 5, 6, 7, 8, 9, 10, 11, 12, 13, 14, 15, 16, 17, 18, 19] rfl) (hD.sub [0, 1, 2, 3, 4, 5, 6, 7, 8, 9, 10, 11, 12, 13, 14, 15, 16, 17, 18, 19] (by decide) rfl) hS ls (lv_sub hl [0, 1] rfl)
            · have hlt3 : i3 < 8 := lp_go (by decide) hi3 (by decide) c3
              refine lv_aload_n hx hb dX12_hills_179 rfl (lv_at hl 1 rfl) ?_
              refine va_get (D := D) (ci := 12) (v := .ref b_loud) (C := RX12) (T := TX12) (N := 89) hx hb hg i_X12 hown hK hP 18 rfl rfl 34 (by decide) (hg _ m_1447) (fun _ h9 => h9) rfl dX12_hills_180 ?_
              refine lv_iload_n hx hb dX12_hills_183 rfl (lv_at hl 0 rfl) ?_
              refine lv_aload_n hx hb dX12_hills_184 rfl (lv_at hl 1 rfl) ?_
              refine va_get (D := D) (ci := 12) (v := .ref b_nLoud) (C := RX12) (T := TX12) (N := 89) hx hb hg i_X12 hown hK hP 18 rfl rfl 28 (by decide) (hg _ m_1441) (fun _ h9 => h9) rfl dX12_hills_185 ?_
              refine lv_iload_n hx hb dX12_hills_188 rfl (lv_at hl 0 rfl) ?_
              refine va_iald hx hb hK hP 3 1 rfl rfl (vp_in_nI (by omega) (by decide)) dX12_hills_189 ?_
              refine lv_topi (fun x_21 ex_21 => ?_)
              refine va_iast hx hb hK hP hD hS 2 1 rfl rfl (vp_in_nI (by omega) (by decide)) dX12_hills_190 (fun H locs hP hD hS => ?_)
              obtain ⟨g_22, eg_22⟩ : ∃ y, upd fq0 (nI i3 : Int32).toNatClampNeg x_21 = y := ⟨_, rfl⟩
              rw [eg_22] at hP hD
              have hP : va_P D vwCl [(b_hasForm, .inl (cy 3, 3, .inl (fun _ => 0))), (b_many, .inl (cy 1, 3, .inl (fun _ => 0))), (b_loud, .inl (cy 1, 8, .inl (g_22))), (b_nLoud, .inl (cy 1, 8, .inl (fl1))), (b_cliffAt, .inl (cy 1, 4, .inl (fl2))), (b_nCliffAt, .inl (cy 1, 4, .inl (fl3))), (b_snowTold, .inl (cy 1, 4, .inl (fl4))), (b_nSnow, .inl (cy 1, 4, .inl (fl5))), (b_manAt, .inl (cy 1, 4, .inl (fl6))), (b_nManAt, .inl (cy 1, 4, .inl (fl7))), (b_voice, .inl (cy 1, 4, .inl (fl8))), (b_nVoice, .inl (cy 1, 4, .inl (fl9))), (b_yes, .inl (cy 3, 6, .inl (fl10))), (b_nYes, .inl (cy 3, 6, .inl (fl11))), (b_on, .inl (cy 1, 48, .inl (fl12))), (b_nOn, .inl (cy 1, 48, .inl (fl13))), (b_now, .inl (cy 1, 42, .inl (fun _ => 0))), (b_hasBox, .inl (cy 3, 3, .inl (fun _ => 0))), (b0, .inr (12, [x0, .int 0, .int 0, .int (-1), .int 0, .int 0, .int 0, .int 0, .int 0, .long 0, x10, x11, x12, x13, x14, x15, .ref b_many, x17, x18, .ref b_nHasForm, .ref b_hasForm, x21, x22, .int 0, .int 0, x25, x26, x27, .ref b_nLoud, .ref b_nCliffAt, .ref b_nSnow, .ref b_nManAt, .ref b_nVoice, .ref b_nOn, .ref b_loud, .ref b_cliffAt, .ref b_snowTold, .ref b_manAt, .ref b_voice, .ref b_on, .ref b_nYes, .ref b_yes, .int 0, .int 0, .int 0, .int 0, .int 0, .int 0, .int 0, .int 0, .int 0, .int 0, .int 0, .int 0, .int 0, .int 0, .int 0, .ref b_now, x58, x59, x60, x61, x62, x63, x64, x65, x66, x67, .int 0, .int 0, x70, .int 0, x72, x73, x74, x75, x76, x77, x78, x79, x80, x81, .int 0, x83, x84, x85, x86, .ref b_hasBox, x88])), (b_nHasForm, .inl (cy 3, 3, .inl (fun _ => 0)))] H := hP
              have hD : va_D A [(b_hasForm, .inl (cy 3, 3, .inl (fun _ => 0))), (b_many, .inl (cy 1, 3, .inl (fun _ => 0))), (b_loud, .inl (cy 1, 8, .inl (g_22))), (b_nLoud, .inl (cy 1, 8, .inl (fl1))), (b_cliffAt, .inl (cy 1, 4, .inl (fl2))), (b_nCliffAt, .inl (cy 1, 4, .inl (fl3))), (b_snowTold, .inl (cy 1, 4, .inl (fl4))), (b_nSnow, .inl (cy 1, 4, .inl (fl5))), (b_manAt, .inl (cy 1, 4, .inl (fl6))), (b_nManAt, .inl (cy 1, 4, .inl (fl7))), (b_voice, .inl (cy 1, 4, .inl (fl8))), (b_nVoice, .inl (cy 1, 4, .inl (fl9))), (b_yes, .inl (cy 3, 6, .inl (fl10))), (b_nYes, .inl (cy 3, 6, .inl (fl11))), (b_on, .inl (cy 1, 48, .inl (fl12))), (b_nOn, .inl (cy 1, 48, .inl (fl13))), (b_now, .inl (cy 1, 42, .inl (fun _ => 0))), (b_hasBox, .inl (cy 3, 3, .inl (fun _ => 0))), (b0, .inr (12, [x0, .int 0, .int 0, .int (-1), .int 0, .int 0, .int 0, .int 0, .int 0, .long 0, x10, x11, x12, x13, x14, x15, .ref b_many, x17, x18, .ref b_nHasForm, .ref b_hasForm, x21, x22, .int 0, .int 0, x25, x26, x27, .ref b_nLoud, .ref b_nCliffAt, .ref b_nSnow, .ref b_nManAt, .ref b_nVoice, .ref b_nOn, .ref b_loud, .ref b_cliffAt, .ref b_snowTold, .ref b_manAt, .ref b_voice, .ref b_on, .ref b_nYes, .ref b_yes, .int 0, .int 0, .int 0, .int 0, .int 0, .int 0, .int 0, .int 0, .int 0, .int 0, .int 0, .int 0, .int 0, .int 0, .int 0, .ref b_now, x58, x59, x60, x61, x62, x63, x64, x65, x66, x67, .int 0, .int 0, x70, .int 0, x72, x73, x74, x75, x76, x77, x78, x79, x80, x81, .int 0, x83, x84, x85, x86, .ref b_hasBox, x88])), (b_nHasForm, .inl (cy 3, 3, .inl (fun _ => 0)))] := hD
              refine lv_iinc (v := nI (i3 + 1)) (lv' := [(1, .int (nI (i3 + 1))), (0, .ref b0)]) hx hb dX12_hills_191 hl (k := 0) rfl (lp_inc i3) (by decide) rfl (fun ls hl => ?_)
              refine lv_goto (tgt := 173) hx hb dX12_hills_194 (by decide) ?_
              exact ih3 (i3 + 1) (by omega) (by omega) g_22 _ _ (hP.sub [0, 1, 2, 3, 4, 5, 6, 7, 8, 9, 10, 11, 12, 13, 14, 15, 16, 17, 18, 19] rfl) (hD.sub [0, 1, 2, 3, 4, 5, 6, 7, 8, 9, 10, 11, 12, 13, 14, 15, 16, 17, 18, 19] (by decide) rfl) hS ls (lv_sub hl [0, 1] rfl)
        exact loop3 9 0 (by omega) (by omega) fl0 _ _ (hP.sub [0, 1, 2, 3, 4, 5, 6, 7, 8, 9, 10, 11, 12, 13, 14, 15, 16, 17, 18, 19] rfl) (hD.sub [0, 1, 2, 3, 4, 5, 6, 7, 8, 9, 10, 11, 12, 13, 14, 15, 16, 17, 18, 19] (by decide) rfl) hS ls (lv_sub hl [0, 1] rfl)
      · have hlt2 : i2 < 3 := lp_go (by decide) hi2 (by decide) c2
        refine lv_aload_n hx hb dX12_hills_76 rfl (lv_at hl 1 rfl) ?_
        refine va_get (D := D) (ci := 12) (v := .ref b_hasForm) (C := RX12) (T := TX12) (N := 89) hx hb hg i_X12 hown hK hP 18 rfl rfl 20 (by decide) (hg _ m_1433) (fun _ h9 => h9) rfl dX12_hills_77 ?_
        refine lv_iload_n hx hb dX12_hills_80 rfl (lv_at hl 0 rfl) ?_
        refine lv_aload_n hx hb dX12_hills_81 rfl (lv_at hl 1 rfl) ?_
        refine va_get (D := D) (ci := 12) (v := .ref b_nHasForm) (C := RX12) (T := TX12) (N := 89) hx hb hg i_X12 hown hK hP 18 rfl rfl 19 (by decide) (hg _ m_1432) (fun _ h9 => h9) rfl dX12_hills_82 ?_
        refine lv_iload_n hx hb dX12_hills_85 rfl (lv_at hl 0 rfl) ?_
        refine va_zald hx hb hK hP 19 3 rfl rfl (vp_in_nI (by omega) (by decide)) dX12_hills_86 ?_
        refine lv_topi (fun y_23 hy_23 => ?_)
        obtain rfl : y_23 = 0 := hy_23.trans rfl
        refine va_zast hx hb hK hP hD hS 0 3 rfl rfl (vp_in_nI (by omega) (by decide)) dX12_hills_87 (fun H locs hP hD hS => ?_)
        rw [upd_zZ] at hP hD
        have hP : va_P D vwCl [(b_hasForm, .inl (cy 3, 3, .inl (fun _ => 0))), (b_many, .inl (cy 1, 3, .inl (fun _ => 0))), (b_loud, .inl (cy 1, 8, .inl (fl0))), (b_nLoud, .inl (cy 1, 8, .inl (fl1))), (b_cliffAt, .inl (cy 1, 4, .inl (fl2))), (b_nCliffAt, .inl (cy 1, 4, .inl (fl3))), (b_snowTold, .inl (cy 1, 4, .inl (fl4))), (b_nSnow, .inl (cy 1, 4, .inl (fl5))), (b_manAt, .inl (cy 1, 4, .inl (fl6))), (b_nManAt, .inl (cy 1, 4, .inl (fl7))), (b_voice, .inl (cy 1, 4, .inl (fl8))), (b_nVoice, .inl (cy 1, 4, .inl (fl9))), (b_yes, .inl (cy 3, 6, .inl (fl10))), (b_nYes, .inl (cy 3, 6, .inl (fl11))), (b_on, .inl (cy 1, 48, .inl (fl12))), (b_nOn, .inl (cy 1, 48, .inl (fl13))), (b_now, .inl (cy 1, 42, .inl (fun _ => 0))), (b_hasBox, .inl (cy 3, 3, .inl (fun _ => 0))), (b0, .inr (12, [x0, .int 0, .int 0, .int (-1), .int 0, .int 0, .int 0, .int 0, .int 0, .long 0, x10, x11, x12, x13, x14, x15, .ref b_many, x17, x18, .ref b_nHasForm, .ref b_hasForm, x21, x22, .int 0, .int 0, x25, x26, x27, .ref b_nLoud, .ref b_nCliffAt, .ref b_nSnow, .ref b_nManAt, .ref b_nVoice, .ref b_nOn, .ref b_loud, .ref b_cliffAt, .ref b_snowTold, .ref b_manAt, .ref b_voice, .ref b_on, .ref b_nYes, .ref b_yes, .int 0, .int 0, .int 0, .int 0, .int 0, .int 0, .int 0, .int 0, .int 0, .int 0, .int 0, .int 0, .int 0, .int 0, .int 0, .ref b_now, x58, x59, x60, x61, x62, x63, x64, x65, x66, x67, .int 0, .int 0, x70, .int 0, x72, x73, x74, x75, x76, x77, x78, x79, x80, x81, .int 0, x83, x84, x85, x86, .ref b_hasBox, x88])), (b_nHasForm, .inl (cy 3, 3, .inl (fun _ => 0)))] H := hP
        have hD : va_D A [(b_hasForm, .inl (cy 3, 3, .inl (fun _ => 0))), (b_many, .inl (cy 1, 3, .inl (fun _ => 0))), (b_loud, .inl (cy 1, 8, .inl (fl0))), (b_nLoud, .inl (cy 1, 8, .inl (fl1))), (b_cliffAt, .inl (cy 1, 4, .inl (fl2))), (b_nCliffAt, .inl (cy 1, 4, .inl (fl3))), (b_snowTold, .inl (cy 1, 4, .inl (fl4))), (b_nSnow, .inl (cy 1, 4, .inl (fl5))), (b_manAt, .inl (cy 1, 4, .inl (fl6))), (b_nManAt, .inl (cy 1, 4, .inl (fl7))), (b_voice, .inl (cy 1, 4, .inl (fl8))), (b_nVoice, .inl (cy 1, 4, .inl (fl9))), (b_yes, .inl (cy 3, 6, .inl (fl10))), (b_nYes, .inl (cy 3, 6, .inl (fl11))), (b_on, .inl (cy 1, 48, .inl (fl12))), (b_nOn, .inl (cy 1, 48, .inl (fl13))), (b_now, .inl (cy 1, 42, .inl (fun _ => 0))), (b_hasBox, .inl (cy 3, 3, .inl (fun _ => 0))), (b0, .inr (12, [x0, .int 0, .int 0, .int (-1), .int 0, .int 0, .int 0, .int 0, .int 0, .long 0, x10, x11, x12, x13, x14, x15, .ref b_many, x17, x18, .ref b_nHasForm, .ref b_hasForm, x21, x22, .int 0, .int 0, x25, x26, x27, .ref b_nLoud, .ref b_nCliffAt, .ref b_nSnow, .ref b_nManAt, .ref b_nVoice, .ref b_nOn, .ref b_loud, .ref b_cliffAt, .ref b_snowTold, .ref b_manAt, .ref b_voice, .ref b_on, .ref b_nYes, .ref b_yes, .int 0, .int 0, .int 0, .int 0, .int 0, .int 0, .int 0, .int 0, .int 0, .int 0, .int 0, .int 0, .int 0, .int 0, .int 0, .ref b_now, x58, x59, x60, x61, x62, x63, x64, x65, x66, x67, .int 0, .int 0, x70, .int 0, x72, x73, x74, x75, x76, x77, x78, x79, x80, x81, .int 0, x83, x84, x85, x86, .ref b_hasBox, x88])), (b_nHasForm, .inl (cy 3, 3, .inl (fun _ => 0)))] := hD
        refine lv_aload_n hx hb dX12_hills_88 rfl (lv_at hl 1 rfl) ?_
        refine va_get (D := D) (ci := 12) (v := .ref b_many) (C := RX12) (T := TX12) (N := 89) hx hb hg i_X12 hown hK hP 18 rfl rfl 16 (by decide) (hg _ m_1429) (fun _ h9 => h9) rfl dX12_hills_89 ?_
        refine lv_iload_n hx hb dX12_hills_92 rfl (lv_at hl 0 rfl) ?_
        refine lv_aload_n hx hb dX12_hills_93 rfl (lv_at hl 1 rfl) ?_
        refine va_get (D := D) (ci := 12) (v := .ref b_hasForm) (C := RX12) (T := TX12) (N := 89) hx hb hg i_X12 hown hK hP 18 rfl rfl 20 (by decide) (hg _ m_1433) (fun _ h9 => h9) rfl dX12_hills_94 ?_
        refine lv_iload_n hx hb dX12_hills_97 rfl (lv_at hl 0 rfl) ?_
        refine va_zald hx hb hK hP 0 3 rfl rfl (vp_in_nI (by omega) (by decide)) dX12_hills_98 ?_
        refine lv_topi (fun y_24 hy_24 => ?_)
        obtain rfl : y_24 = 0 := hy_24.trans rfl
        refine lv_if_eq (tgt := 111) hx hb dX12_hills_99 (by decide) (fun _ => ?_) (fun h => absurd (by decide) h)
        refine lv_iconst (v := 0) hx hb dX12_hills_111 (by decide) ?_
        refine va_iast hx hb hK hP hD hS 1 1 rfl rfl (vp_in_nI (by omega) (by decide)) dX12_hills_112 (fun H locs hP hD hS => ?_)
        rw [upd_z] at hP hD
        have hP : va_P D vwCl [(b_hasForm, .inl (cy 3, 3, .inl (fun _ => 0))), (b_many, .inl (cy 1, 3, .inl (fun _ => 0))), (b_loud, .inl (cy 1, 8, .inl (fl0))), (b_nLoud, .inl (cy 1, 8, .inl (fl1))), (b_cliffAt, .inl (cy 1, 4, .inl (fl2))), (b_nCliffAt, .inl (cy 1, 4, .inl (fl3))), (b_snowTold, .inl (cy 1, 4, .inl (fl4))), (b_nSnow, .inl (cy 1, 4, .inl (fl5))), (b_manAt, .inl (cy 1, 4, .inl (fl6))), (b_nManAt, .inl (cy 1, 4, .inl (fl7))), (b_voice, .inl (cy 1, 4, .inl (fl8))), (b_nVoice, .inl (cy 1, 4, .inl (fl9))), (b_yes, .inl (cy 3, 6, .inl (fl10))), (b_nYes, .inl (cy 3, 6, .inl (fl11))), (b_on, .inl (cy 1, 48, .inl (fl12))), (b_nOn, .inl (cy 1, 48, .inl (fl13))), (b_now, .inl (cy 1, 42, .inl (fun _ => 0))), (b_hasBox, .inl (cy 3, 3, .inl (fun _ => 0))), (b0, .inr (12, [x0, .int 0, .int 0, .int (-1), .int 0, .int 0, .int 0, .int 0, .int 0, .long 0, x10, x11, x12, x13, x14, x15, .ref b_many, x17, x18, .ref b_nHasForm, .ref b_hasForm, x21, x22, .int 0, .int 0, x25, x26, x27, .ref b_nLoud, .ref b_nCliffAt, .ref b_nSnow, .ref b_nManAt, .ref b_nVoice, .ref b_nOn, .ref b_loud, .ref b_cliffAt, .ref b_snowTold, .ref b_manAt, .ref b_voice, .ref b_on, .ref b_nYes, .ref b_yes, .int 0, .int 0, .int 0, .int 0, .int 0, .int 0, .int 0, .int 0, .int 0, .int 0, .int 0, .int 0, .int 0, .int 0, .int 0, .ref b_now, x58, x59, x60, x61, x62, x63, x64, x65, x66, x67, .int 0, .int 0, x70, .int 0, x72, x73, x74, x75, x76, x77, x78, x79, x80, x81, .int 0, x83, x84, x85, x86, .ref b_hasBox, x88])), (b_nHasForm, .inl (cy 3, 3, .inl (fun _ => 0)))] H := hP
        have hD : va_D A [(b_hasForm, .inl (cy 3, 3, .inl (fun _ => 0))), (b_many, .inl (cy 1, 3, .inl (fun _ => 0))), (b_loud, .inl (cy 1, 8, .inl (fl0))), (b_nLoud, .inl (cy 1, 8, .inl (fl1))), (b_cliffAt, .inl (cy 1, 4, .inl (fl2))), (b_nCliffAt, .inl (cy 1, 4, .inl (fl3))), (b_snowTold, .inl (cy 1, 4, .inl (fl4))), (b_nSnow, .inl (cy 1, 4, .inl (fl5))), (b_manAt, .inl (cy 1, 4, .inl (fl6))), (b_nManAt, .inl (cy 1, 4, .inl (fl7))), (b_voice, .inl (cy 1, 4, .inl (fl8))), (b_nVoice, .inl (cy 1, 4, .inl (fl9))), (b_yes, .inl (cy 3, 6, .inl (fl10))), (b_nYes, .inl (cy 3, 6, .inl (fl11))), (b_on, .inl (cy 1, 48, .inl (fl12))), (b_nOn, .inl (cy 1, 48, .inl (fl13))), (b_now, .inl (cy 1, 42, .inl (fun _ => 0))), (b_hasBox, .inl (cy 3, 3, .inl (fun _ => 0))), (b0, .inr (12, [x0, .int 0, .int 0, .int (-1), .int 0, .int 0, .int 0, .int 0, .int 0, .long 0, x10, x11, x12, x13, x14, x15, .ref b_many, x17, x18, .ref b_nHasForm, .ref b_hasForm, x21, x22, .int 0, .int 0, x25, x26, x27, .ref b_nLoud, .ref b_nCliffAt, .ref b_nSnow, .ref b_nManAt, .ref b_nVoice, .ref b_nOn, .ref b_loud, .ref b_cliffAt, .ref b_snowTold, .ref b_manAt, .ref b_voice, .ref b_on, .ref b_nYes, .ref b_yes, .int 0, .int 0, .int 0, .int 0, .int 0, .int 0, .int 0, .int 0, .int 0, .int 0, .int 0, .int 0, .int 0, .int 0, .int 0, .ref b_now, x58, x59, x60, x61, x62, x63, x64, x65, x66, x67, .int 0, .int 0, x70, .int 0, x72, x73, x74, x75, x76, x77, x78, x79, x80, x81, .int 0, x83, x84, x85, x86, .ref b_hasBox, x88])), (b_nHasForm, .inl (cy 3, 3, .inl (fun _ => 0)))] := hD
        refine lv_sipush (v := 320) hx hb dX12_hills_113 (by decide) ?_
        refine lv_iload_n hx hb dX12_hills_116 rfl (lv_at hl 0 rfl) ?_
        refine lv_imul hx hb dX12_hills_117 ?_
        refine lv_topi (fun y_25 hy_25 => ?_)
        obtain rfl : y_25 = nI (320 * i2) := hy_25.trans (pk_mul _ _)
        refine lv_istore_n (lv' := [(2, .int (nI (320 * i2))), (1, .int (nI i2)), (0, .ref b0)]) hx hb dX12_hills_118 rfl hl (by decide) rfl (fun ls hl => ?_)
        refine lv_iload_n hx hb dX12_hills_119 rfl (lv_at hl 0 rfl) ?_
        refine lv_sipush (v := 320) hx hb dX12_hills_120 (by decide) ?_
        refine lv_iload_n hx hb dX12_hills_123 rfl (lv_at hl 1 rfl) ?_
        refine lv_imul hx hb dX12_hills_124 ?_
        refine lv_topi (fun y_26 hy_26 => ?_)
        obtain rfl : y_26 = nI (320 * i2) := hy_26.trans (pk_mul _ _)
        refine lv_aload_n hx hb dX12_hills_125 rfl (lv_at hl 2 rfl) ?_
        refine va_get (D := D) (ci := 12) (v := .ref b_many) (C := RX12) (T := TX12) (N := 89) hx hb hg i_X12 hown hK hP 18 rfl rfl 16 (by decide) (hg _ m_1429) (fun _ h9 => h9) rfl dX12_hills_126 ?_
        refine lv_iload_n hx hb dX12_hills_129 rfl (lv_at hl 1 rfl) ?_
        refine va_iald hx hb hK hP 1 1 rfl rfl (vp_in_nI (by omega) (by decide)) dX12_hills_130 ?_
        refine lv_topi (fun y_27 hy_27 => ?_)
        obtain rfl : y_27 = 0 := hy_27.trans rfl
        refine lv_iadd hx hb dX12_hills_131 ?_
        refine lv_topi (fun y_28 hy_28 => ?_)
        obtain rfl : y_28 = nI ((320 * i2) + 0) := hy_28.trans (nI_add _ _)
        refine lv_icmp_ge (tgt := 165) hx hb dX12_hills_132 (by decide) (fun _ => ?_) (fun h => absurd (nI_le (by omega) (by omega)) h)
        refine lv_iinc (v := nI (i2 + 1)) (lv' := [(1, .int (nI (i2 + 1))), (2, .int (nI (320 * i2))), (0, .ref b0)]) hx hb dX12_hills_165 hl (k := 1) rfl (lp_inc i2) (by decide) rfl (fun ls hl => ?_)
        refine lv_goto (tgt := 71) hx hb dX12_hills_168 (by decide) ?_
        exact ih2 (i2 + 1) (by omega) (by omega)  _ _ (hP.sub [0, 1, 2, 3, 4, 5, 6, 7, 8, 9, 10, 11, 12, 13, 14, 15, 16, 17, 18, 19] rfl) (hD.sub [0, 1, 2, 3, 4, 5, 6, 7, 8, 9, 10, 11, 12, 13, 14, 15, 16, 17, 18, 19] (by decide) rfl) hS ls (lv_sub hl [0, 2] rfl)
  exact loop2 4 0 (by omega) (by omega)  _ _ (hP.sub [0, 1, 2, 3, 4, 5, 6, 7, 8, 9, 10, 11, 12, 13, 14, 15, 16, 17, 18, 19] rfl) (hD.sub [0, 1, 2, 3, 4, 5, 6, 7, 8, 9, 10, 11, 12, 13, 14, 15, 16, 17, 18, 19] (by decide) rfl) hS ls (lv_sub hl [0, 1] rfl)
theorem dX12_loadSky_0 : decode cX12_loadSky 0 = .ok (.aload_n 0, 1) := by decide +kernel
theorem dX12_loadSky_1 : decode cX12_loadSky 1 = .ok (.aload_n 0, 1) := by decide +kernel
theorem dX12_loadSky_2 : decode cX12_loadSky 2 = .ok (.getfield 97, 3) := by decide +kernel
theorem dX12_loadSky_5 : decode cX12_loadSky 5 = .ok (.bipush 22, 2) := by decide +kernel
theorem dX12_loadSky_7 : decode cX12_loadSky 7 = .ok (.iaload, 1) := by decide +kernel
theorem dX12_loadSky_8 : decode cX12_loadSky 8 = .ok (.putfield 440, 3) := by decide +kernel
theorem m_1477 : (Cond.fieldLink RX12 440 "CliffJudgesModel" "wind" "I") ∈ gT := gm 1477 (by decide +kernel) (by decide +kernel)
theorem dX12_loadSky_11 : decode cX12_loadSky 11 = .ok (.aload_n 0, 1) := by decide +kernel
theorem dX12_loadSky_12 : decode cX12_loadSky 12 = .ok (.iconst 0, 1) := by decide +kernel
theorem dX12_loadSky_13 : decode cX12_loadSky 13 = .ok (.putfield 443, 3) := by decide +kernel
theorem m_1478 : (Cond.fieldLink RX12 443 "CliffJudgesModel" "chance" "I") ∈ gT := gm 1478 (by decide +kernel) (by decide +kernel)
theorem dX12_loadSky_16 : decode cX12_loadSky 16 = .ok (.iconst 0, 1) := by decide +kernel
theorem dX12_loadSky_17 : decode cX12_loadSky 17 = .ok (.istore_n 1, 1) := by decide +kernel
theorem dX12_loadSky_18 : decode cX12_loadSky 18 = .ok (.iload_n 1, 1) := by decide +kernel
theorem dX12_loadSky_19 : decode cX12_loadSky 19 = .ok (.iconst 4, 1) := by decide +kernel
theorem dX12_loadSky_20 : decode cX12_loadSky 20 = .ok (.if_icmp .ge 24, 3) := by decide +kernel
theorem dX12_loadSky_44 : decode cX12_loadSky 44 = .ok (.return_, 1) := by decide +kernel
theorem dX12_loadSky_23 : decode cX12_loadSky 23 = .ok (.aload_n 0, 1) := by decide +kernel
theorem dX12_loadSky_24 : decode cX12_loadSky 24 = .ok (.getfield 103, 3) := by decide +kernel
theorem m_1472 : (Cond.fieldLink RX12 103 "CliffJudgesModel" "snow" "[I") ∈ gT := gm 1472 (by decide +kernel) (by decide +kernel)
theorem dX12_loadSky_27 : decode cX12_loadSky 27 = .ok (.iload_n 1, 1) := by decide +kernel
theorem dX12_loadSky_28 : decode cX12_loadSky 28 = .ok (.aload_n 0, 1) := by decide +kernel
theorem dX12_loadSky_29 : decode cX12_loadSky 29 = .ok (.getfield 97, 3) := by decide +kernel
theorem dX12_loadSky_32 : decode cX12_loadSky 32 = .ok (.bipush 23, 2) := by decide +kernel
theorem dX12_loadSky_34 : decode cX12_loadSky 34 = .ok (.iload_n 1, 1) := by decide +kernel
theorem dX12_loadSky_35 : decode cX12_loadSky 35 = .ok (.iadd, 1) := by decide +kernel
theorem dX12_loadSky_36 : decode cX12_loadSky 36 = .ok (.iaload, 1) := by decide +kernel
theorem dX12_loadSky_37 : decode cX12_loadSky 37 = .ok (.iastore, 1) := by decide +kernel
theorem dX12_loadSky_38 : decode cX12_loadSky 38 = .ok (.iinc 1 1, 3) := by decide +kernel
theorem dX12_loadSky_41 : decode cX12_loadSky 41 = .ok (.goto (-23), 3) := by decide +kernel
set_option maxHeartbeats 400000 in
set_option maxRecDepth 100000 in
theorem m_loadSky (l : Launch) (D : va_G) (cy : Nat → ClassId) (b0 : Nat) (x0 : Value) (x1 : Value) (x2 : Value) (x3 : Value) (x4 : Value) (x5 : Value) (x6 : Value) (x7 : Value) (x8 : Value) (x9 : Value) (x10 : Value) (x11 : Value) (x12 : Value) (x13 : Value) (x14 : Value) (x15 : Value) (x16 : Value) (x17 : Value) (x18 : Value) (x19 : Value) (x20 : Value) (x21 : Value) (x22 : Value) (x23 : Value) (x24 : Value) (x25 : Value) (x26 : Value) (x27 : Value) (x28 : Value) (x29 : Value) (x30 : Value) (x31 : Value) (x32 : Value) (x33 : Value) (x34 : Value) (x35 : Value) (x36 : Value) (x37 : Value) (x38 : Value) (x39 : Value) (x40 : Value) (x41 : Value) (x42 : Value) (x43 : Value) (x44 : Value) (x45 : Value) (x46 : Value) (x47 : Value) (x48 : Value) (x49 : Value) (x50 : Value) (x51 : Value) (x52 : Value) (x53 : Value) (x54 : Value) (x55 : Value) (x56 : Value) (x58 : Value) (x60 : Value) (x61 : Value) (x62 : Value) (x63 : Value) (x64 : Value) (x65 : Value) (x66 : Value) (x67 : Value) (x68 : Value) (x69 : Value) (x70 : Value) (x71 : Value) (x72 : Value) (x73 : Value) (x74 : Value) (x75 : Value) (x76 : Value) (x77 : Value) (x78 : Value) (x79 : Value) (x80 : Value) (x81 : Value) (x82 : Value) (x83 : Value) (x84 : Value) (x85 : Value) (x86 : Value) (x87 : Value) (x88 : Value) (b_now : Nat) (b_snow : Nat) (fs : Nat → Int32)  : XMv l D (tyL cy) E0 yX12_loadSky cX12_loadSky 2 none (rmk 0 0 0) [.ref b0] [(b0, .inr (12, [x0, x1, x2, x3, x4, x5, x6, x7, x8, x9, x10, x11, x12, x13, x14, x15, x16, x17, x18, x19, x20, x21, x22, x23, x24, x25, x26, x27, x28, x29, x30, x31, x32, x33, x34, x35, x36, x37, x38, x39, x40, x41, x42, x43, x44, x45, x46, x47, x48, x49, x50, x51, x52, x53, x54, x55, x56, .ref b_now, x58, .ref b_snow, x60, x61, x62, x63, x64, x65, x66, x67, x68, x69, x70, x71, x72, x73, x74, x75, x76, x77, x78, x79, x80, x81, x82, x83, x84, x85, x86, x87, x88])), (b_now, .inl (cy 1, 42, .inl (fun _ => 0))), (b_snow, .inl (cy 1, 4, .inl (fs)))] (fun (fs2 : Nat → Int32) => True) (fun (fs2 : Nat → Int32) => [(b0, .inr (12, [x0, x1, x2, x3, x4, x5, x6, x7, x8, x9, x10, x11, x12, x13, x14, x15, x16, x17, x18, x19, x20, x21, x22, x23, x24, x25, x26, x27, x28, x29, x30, x31, x32, x33, x34, x35, x36, x37, x38, x39, x40, x41, x42, x43, x44, x45, x46, x47, x48, x49, x50, x51, x52, x53, x54, x55, x56, .ref b_now, x58, .ref b_snow, x60, x61, x62, x63, .int 0, .int 0, x66, x67, x68, x69, x70, x71, x72, x73, x74, x75, x76, x77, x78, x79, x80, x81, x82, x83, x84, x85, x86, x87, x88])), (b_now, .inl (cy 1, 42, .inl (fun _ => 0))), (b_snow, .inl (cy 1, 4, .inl (fs2)))]) := by
  refine XMv.start (by decide) (Nat.le_of_ble_eq_true rfl) ?_
  intro p e s m below meth c args A ls Q hat hQ
  obtain ⟨hx, hb, hr, hml, hown, hg, hlocks, hin, hK, hA, hP, hD, hS, hE, hl⟩ := hat
  have hown : s.vm.findClass RX12 = some m.cls := hown
  have hl : lv_has ls 2 [(0, .ref b0)] := hl
  refine lv_aload_n hx hb dX12_loadSky_0 rfl (lv_at hl 0 rfl) ?_
  refine lv_aload_n hx hb dX12_loadSky_1 rfl (lv_at hl 0 rfl) ?_
  refine va_get (D := D) (ci := 12) (v := .ref b_now) (C := RX12) (T := TX12) (N := 89) hx hb hg i_X12 hown hK hP 0 rfl rfl 57 (by decide) (hg _ m_1470) (fun _ h9 => h9) rfl dX12_loadSky_2 ?_
  refine lv_bipush (v := 22) hx hb dX12_loadSky_5 (by decide) ?_
  refine va_iald hx hb hK hP 1 1 rfl rfl (by unfold vp_in; decide) dX12_loadSky_7 ?_
  refine lv_topi (fun y_1 hy_1 => ?_)
  obtain rfl : y_1 = 0 := hy_1.trans (by decide +kernel)
  refine va_put (D := D) (ci := 12) (v := .int 0) (ty := .int) (C := RX12) (T := TX12) (N := 89) hx hb hg i_X12 tyX12 tyX12_ok nmX12 hown hK hP hD hS 0 rfl rfl 64 (by decide) (hg _ m_1477) (fun _ h9 => h9) rfl (by decide +kernel) rfl rfl (Nat.le_of_ble_eq_true rfl) dX12_loadSky_8 (fun H locs hP hD hS => ?_)
  have hP : va_P D vwCl [(b0, .inr (12, [x0, x1, x2, x3, x4, x5, x6, x7, x8, x9, x10, x11, x12, x13, x14, x15, x16, x17, x18, x19, x20, x21, x22, x23, x24, x25, x26, x27, x28, x29, x30, x31, x32, x33, x34, x35, x36, x37, x38, x39, x40, x41, x42, x43, x44, x45, x46, x47, x48, x49, x50, x51, x52, x53, x54, x55, x56, .ref b_now, x58, .ref b_snow, x60, x61, x62, x63, .int 0, x65, x66, x67, x68, x69, x70, x71, x72, x73, x74, x75, x76, x77, x78, x79, x80, x81, x82, x83, x84, x85, x86, x87, x88])), (b_now, .inl (cy 1, 42, .inl (fun _ => 0))), (b_snow, .inl (cy 1, 4, .inl (fs)))] H := hP
  have hD : va_D A [(b0, .inr (12, [x0, x1, x2, x3, x4, x5, x6, x7, x8, x9, x10, x11, x12, x13, x14, x15, x16, x17, x18, x19, x20, x21, x22, x23, x24, x25, x26, x27, x28, x29, x30, x31, x32, x33, x34, x35, x36, x37, x38, x39, x40, x41, x42, x43, x44, x45, x46, x47, x48, x49, x50, x51, x52, x53, x54, x55, x56, .ref b_now, x58, .ref b_snow, x60, x61, x62, x63, .int 0, x65, x66, x67, x68, x69, x70, x71, x72, x73, x74, x75, x76, x77, x78, x79, x80, x81, x82, x83, x84, x85, x86, x87, x88])), (b_now, .inl (cy 1, 42, .inl (fun _ => 0))), (b_snow, .inl (cy 1, 4, .inl (fs)))] := hD
  refine lv_aload_n hx hb dX12_loadSky_11 rfl (lv_at hl 0 rfl) ?_
  refine lv_iconst (v := 0) hx hb dX12_loadSky_12 (by decide) ?_
  refine va_put (D := D) (ci := 12) (v := .int 0) (ty := .int) (C := RX12) (T := TX12) (N := 89) hx hb hg i_X12 tyX12 tyX12_ok nmX12 hown hK hP hD hS 0 rfl rfl 65 (by decide) (hg _ m_1478) (fun _ h9 => h9) rfl (by decide +kernel) rfl rfl (Nat.le_of_ble_eq_true rfl) dX12_loadSky_13 (fun H locs hP hD hS => ?_)
  have hP : va_P D vwCl [(b0, .inr (12, [x0, x1, x2, x3, x4, x5, x6, x7, x8, x9, x10, x11, x12, x13, x14, x15, x16, x17, x18, x19, x20, x21, x22, x23, x24, x25, x26, x27, x28, x29, x30, x31, x32, x33, x34, x35, x36, x37, x38, x39, x40, x41, x42, x43, x44, x45, x46, x47, x48, x49, x50, x51, x52, x53, x54, x55, x56, .ref b_now, x58, .ref b_snow, x60, x61, x62, x63, .int 0, .int 0, x66, x67, x68, x69, x70, x71, x72, x73, x74, x75, x76, x77, x78, x79, x80, x81, x82, x83, x84, x85, x86, x87, x88])), (b_now, .inl (cy 1, 42, .inl (fun _ => 0))), (b_snow, .inl (cy 1, 4, .inl (fs)))] H := hP
  have hD : va_D A [(b0, .inr (12, [x0, x1, x2, x3, x4, x5, x6, x7, x8, x9, x10, x11, x12, x13, x14, x15, x16, x17, x18, x19, x20, x21, x22, x23, x24, x25, x26, x27, x28, x29, x30, x31, x32, x33, x34, x35, x36, x37, x38, x39, x40, x41, x42, x43, x44, x45, x46, x47, x48, x49, x50, x51, x52, x53, x54, x55, x56, .ref b_now, x58, .ref b_snow, x60, x61, x62, x63, .int 0, .int 0, x66, x67, x68, x69, x70, x71, x72, x73, x74, x75, x76, x77, x78, x79, x80, x81, x82, x83, x84, x85, x86, x87, x88])), (b_now, .inl (cy 1, 42, .inl (fun _ => 0))), (b_snow, .inl (cy 1, 4, .inl (fs)))] := hD
  refine lv_iconst (v := 0) hx hb dX12_loadSky_16 (by decide) ?_
  refine lv_istore_n (lv' := [(1, .int 0), (0, .ref b0)]) hx hb dX12_loadSky_17 rfl hl (by decide) rfl (fun ls hl => ?_)
  have loop2 : ∀ (n i2 : Nat), i2 ≤ 4 → 5 ≤ i2 + n → ∀ (fq : Nat → Int32), ∀ (H : Heap) (locs : List Loc), va_P D vwCl [(b0, .inr (12, [x0, x1, x2, x3, x4, x5, x6, x7, x8, x9, x10, x11, x12, x13, x14, x15, x16, x17, x18, x19, x20, x21, x22, x23, x24, x25, x26, x27, x28, x29, x30, x31, x32, x33, x34, x35, x36, x37, x38, x39, x40, x41, x42, x43, x44, x45, x46, x47, x48, x49, x50, x51, x52, x53, x54, x55, x56, .ref b_now, x58, .ref b_snow, x60, x61, x62, x63, .int 0, .int 0, x66, x67, x68, x69, x70, x71, x72, x73, x74, x75, x76, x77, x78, x79, x80, x81, x82, x83, x84, x85, x86, x87, x88])), (b_now, .inl (cy 1, 42, .inl (fun _ => 0))), (b_snow, .inl (cy 1, 4, .inl (fq)))] H → va_D A [(b0, .inr (12, [x0, x1, x2, x3, x4, x5, x6, x7, x8, x9, x10, x11, x12, x13, x14, x15, x16, x17, x18, x19, x20, x21, x22, x23, x24, x25, x26, x27, x28, x29, x30, x31, x32, x33, x34, x35, x36, x37, x38, x39, x40, x41, x42, x43, x44, x45, x46, x47, x48, x49, x50, x51, x52, x53, x54, x55, x56, .ref b_now, x58, .ref b_snow, x60, x61, x62, x63, .int 0, .int 0, x66, x67, x68, x69, x70, x71, x72, x73, x74, x75, x76, x77, x78, x79, x80, x81, x82, x83, x84, x85, x86, x87, x88])), (b_now, .inl (cy 1, 42, .inl (fun _ => 0))), (b_snow, .inl (cy 1, 4, .inl (fq)))] → va_S A s.heap H locs → ∀ ls : Array Slot, lv_has ls 2 [(1, .int (nI i2)), (0, .ref b0)] → W p l e (rmk 0 0 0) s m args below meth c H locs 0 0 Q (F0 m 18 ls []) := by
    intro n
    induction n with
    | zero => intro i2 h1 h2; exact absurd h2 (by omega)
    | succ n ih =>
      intro i2 hi2 hn2 fq H locs hP hD hS ls hl
      have ih2 := ih
      refine lv_iload_n hx hb dX12_loadSky_18 rfl (lv_at hl 0 rfl) ?_
      refine lv_iconst (v := 4) hx hb dX12_loadSky_19 (by decide) ?_
      refine lv_icmp_ge (tgt := 44) hx hb dX12_loadSky_20 (by decide) (fun c2 => ?_) (fun c2 => ?_)
      · have hend2 : i2 = 4 := lp_end (N := 4) (by decide) hi2 (by decide) c2
        subst hend2
        exact x_vret hQ hx hb hr hlocks hK hP hD hS dX12_loadSky_44 fq (trivial) [0, 1, 2] (by decide) rfl (Nat.le_of_ble_eq_true rfl) (Nat.le_of_ble_eq_true rfl)
      · have hlt2 : i2 < 4 := lp_go (by decide) hi2 (by decide) c2
        refine lv_aload_n hx hb dX12_loadSky_23 rfl (lv_at hl 1 rfl) ?_
        refine va_get (D := D) (ci := 12) (v := .ref b_snow) (C := RX12) (T := TX12) (N := 89) hx hb hg i_X12 hown hK hP 0 rfl rfl 59 (by decide) (hg _ m_1472) (fun _ h9 => h9) rfl dX12_loadSky_24 ?_
        refine lv_iload_n hx hb dX12_loadSky_27 rfl (lv_at hl 0 rfl) ?_
        refine lv_aload_n hx hb dX12_loadSky_28 rfl (lv_at hl 1 rfl) ?_
        refine va_get (D := D) (ci := 12) (v := .ref b_now) (C := RX12) (T := TX12) (N := 89) hx hb hg i_X12 hown hK hP 0 rfl rfl 57 (by decide) (hg _ m_1470) (fun _ h9 => h9) rfl dX12_loadSky_29 ?_
        refine lv_bipush (v := 23) hx hb dX12_loadSky_32 (by decide) ?_
        refine lv_iload_n hx hb dX12_loadSky_34 rfl (lv_at hl 0 rfl) ?_
        refine lv_iadd hx hb dX12_loadSky_35 ?_
        refine lv_topi (fun y_3 hy_3 => ?_)
        obtain rfl : y_3 = nI (23 + i2) := hy_3.trans (nI_add _ _)
        refine va_iald hx hb hK hP 1 1 rfl rfl (vp_in_nI (by omega) (by decide)) dX12_loadSky_36 ?_
        refine lv_topi (fun y_4 hy_4 => ?_)
        obtain rfl : y_4 = 0 := hy_4.trans rfl
        refine va_iast hx hb hK hP hD hS 2 1 rfl rfl (vp_in_nI (by omega) (by decide)) dX12_loadSky_37 (fun H locs hP hD hS => ?_)
        obtain ⟨g_5, eg_5⟩ : ∃ y, upd fq (nI i2 : Int32).toNatClampNeg 0 = y := ⟨_, rfl⟩
        rw [eg_5] at hP hD
        have hP : va_P D vwCl [(b0, .inr (12, [x0, x1, x2, x3, x4, x5, x6, x7, x8, x9, x10, x11, x12, x13, x14, x15, x16, x17, x18, x19, x20, x21, x22, x23, x24, x25, x26, x27, x28, x29, x30, x31, x32, x33, x34, x35, x36, x37, x38, x39, x40, x41, x42, x43, x44, x45, x46, x47, x48, x49, x50, x51, x52, x53, x54, x55, x56, .ref b_now, x58, .ref b_snow, x60, x61, x62, x63, .int 0, .int 0, x66, x67, x68, x69, x70, x71, x72, x73, x74, x75, x76, x77, x78, x79, x80, x81, x82, x83, x84, x85, x86, x87, x88])), (b_now, .inl (cy 1, 42, .inl (fun _ => 0))), (b_snow, .inl (cy 1, 4, .inl (g_5)))] H := hP
        have hD : va_D A [(b0, .inr (12, [x0, x1, x2, x3, x4, x5, x6, x7, x8, x9, x10, x11, x12, x13, x14, x15, x16, x17, x18, x19, x20, x21, x22, x23, x24, x25, x26, x27, x28, x29, x30, x31, x32, x33, x34, x35, x36, x37, x38, x39, x40, x41, x42, x43, x44, x45, x46, x47, x48, x49, x50, x51, x52, x53, x54, x55, x56, .ref b_now, x58, .ref b_snow, x60, x61, x62, x63, .int 0, .int 0, x66, x67, x68, x69, x70, x71, x72, x73, x74, x75, x76, x77, x78, x79, x80, x81, x82, x83, x84, x85, x86, x87, x88])), (b_now, .inl (cy 1, 42, .inl (fun _ => 0))), (b_snow, .inl (cy 1, 4, .inl (g_5)))] := hD
        refine lv_iinc (v := nI (i2 + 1)) (lv' := [(1, .int (nI (i2 + 1))), (0, .ref b0)]) hx hb dX12_loadSky_38 hl (k := 0) rfl (lp_inc i2) (by decide) rfl (fun ls hl => ?_)
        refine lv_goto (tgt := 18) hx hb dX12_loadSky_41 (by decide) ?_
        exact ih2 (i2 + 1) (by omega) (by omega) g_5 _ _ (hP.sub [0, 1, 2] rfl) (hD.sub [0, 1, 2] (by decide) rfl) hS ls (lv_sub hl [0, 1] rfl)
  exact loop2 5 0 (by omega) (by omega) fs _ _ (hP.sub [0, 1, 2] rfl) (hD.sub [0, 1, 2] (by decide) rfl) hS ls (lv_sub hl [0, 1] rfl)
theorem dX12_loadCry_0 : decode cX12_loadCry 0 = .ok (.aload_n 0, 1) := by decide +kernel
theorem dX12_loadCry_1 : decode cX12_loadCry 1 = .ok (.aload_n 0, 1) := by decide +kernel
theorem dX12_loadCry_2 : decode cX12_loadCry 2 = .ok (.getfield 97, 3) := by decide +kernel
theorem dX12_loadCry_5 : decode cX12_loadCry 5 = .ok (.bipush 20, 2) := by decide +kernel
theorem dX12_loadCry_7 : decode cX12_loadCry 7 = .ok (.iload_n 1, 1) := by decide +kernel
theorem dX12_loadCry_8 : decode cX12_loadCry 8 = .ok (.iadd, 1) := by decide +kernel
theorem dX12_loadCry_9 : decode cX12_loadCry 9 = .ok (.iaload, 1) := by decide +kernel
theorem dX12_loadCry_10 : decode cX12_loadCry 10 = .ok (.putfield 446, 3) := by decide +kernel
theorem m_1474 : (Cond.fieldLink RX12 446 "CliffJudgesModel" "cryMany" "I") ∈ gT := gm 1474 (by decide +kernel) (by decide +kernel)
theorem dX12_loadCry_13 : decode cX12_loadCry 13 = .ok (.iconst 0, 1) := by decide +kernel
theorem dX12_loadCry_14 : decode cX12_loadCry 14 = .ok (.istore_n 2, 1) := by decide +kernel
theorem dX12_loadCry_15 : decode cX12_loadCry 15 = .ok (.iload_n 2, 1) := by decide +kernel
theorem dX12_loadCry_16 : decode cX12_loadCry 16 = .ok (.aload_n 0, 1) := by decide +kernel
theorem dX12_loadCry_17 : decode cX12_loadCry 17 = .ok (.getfield 446, 3) := by decide +kernel
theorem dX12_loadCry_20 : decode cX12_loadCry 20 = .ok (.if_icmp .ge 26, 3) := by decide +kernel
theorem dX12_loadCry_46 : decode cX12_loadCry 46 = .ok (.return_, 1) := by decide +kernel
set_option maxHeartbeats 400000 in
set_option maxRecDepth 100000 in
theorem m_loadCry (l : Launch) (D : va_G) (cy : Nat → ClassId) (b0 : Nat) (x0 : Value) (x1 : Value) (x2 : Value) (x3 : Value) (x4 : Value) (x5 : Value) (x6 : Value) (x7 : Value) (x8 : Value) (x9 : Value) (x10 : Value) (x11 : Value) (x12 : Value) (x13 : Value) (x14 : Value) (x15 : Value) (x16 : Value) (x17 : Value) (x18 : Value) (x19 : Value) (x20 : Value) (x21 : Value) (x22 : Value) (x23 : Value) (x24 : Value) (x25 : Value) (x26 : Value) (x27 : Value) (x28 : Value) (x29 : Value) (x30 : Value) (x31 : Value) (x32 : Value) (x33 : Value) (x34 : Value) (x35 : Value) (x36 : Value) (x37 : Value) (x38 : Value) (x39 : Value) (x40 : Value) (x41 : Value) (x42 : Value) (x43 : Value) (x44 : Value) (x45 : Value) (x46 : Value) (x47 : Value) (x48 : Value) (x49 : Value) (x50 : Value) (x51 : Value) (x52 : Value) (x53 : Value) (x54 : Value) (x55 : Value) (x56 : Value) (x58 : Value) (x59 : Value) (x60 : Value) (x61 : Value) (x62 : Value) (x63 : Value) (x64 : Value) (x65 : Value) (x66 : Value) (x67 : Value) (x68 : Value) (x69 : Value) (x70 : Value) (x71 : Value) (x72 : Value) (x73 : Value) (x74 : Value) (x75 : Value) (x76 : Value) (x77 : Value) (x78 : Value) (x79 : Value) (x80 : Value) (x81 : Value) (x82 : Value) (x83 : Value) (x84 : Value) (x85 : Value) (x86 : Value) (x87 : Value) (x88 : Value) (b_now : Nat)  : XMv l D (tyL cy) E0 yX12_loadCry cX12_loadCry 3 none (rmk 0 0 0) [.ref b0, .int 0] [(b0, .inr (12, [x0, x1, x2, x3, x4, x5, x6, x7, x8, x9, x10, x11, x12, x13, x14, x15, x16, x17, x18, x19, x20, x21, x22, x23, x24, x25, x26, x27, x28, x29, x30, x31, x32, x33, x34, x35, x36, x37, x38, x39, x40, x41, x42, x43, x44, x45, x46, x47, x48, x49, x50, x51, x52, x53, x54, x55, x56, .ref b_now, x58, x59, x60, x61, x62, x63, x64, x65, x66, x67, x68, x69, x70, x71, x72, x73, x74, x75, x76, x77, x78, x79, x80, x81, x82, x83, x84, x85, x86, x87, x88])), (b_now, .inl (cy 1, 42, .inl (fun _ => 0)))] (fun (_ : Unit) => True) (fun (_ : Unit) => [(b0, .inr (12, [x0, x1, x2, x3, x4, x5, x6, x7, x8, x9, x10, x11, x12, x13, x14, x15, x16, x17, x18, x19, x20, x21, x22, x23, x24, x25, x26, x27, x28, x29, x30, x31, x32, x33, x34, x35, x36, x37, x38, x39, x40, x41, x42, x43, x44, x45, x46, x47, x48, x49, x50, x51, x52, x53, x54, x55, x56, .ref b_now, x58, x59, x60, .int 0, x62, x63, x64, x65, x66, x67, x68, x69, x70, x71, x72, x73, x74, x75, x76, x77, x78, x79, x80, x81, x82, x83, x84, x85, x86, x87, x88])), (b_now, .inl (cy 1, 42, .inl (fun _ => 0)))]) := by
  refine XMv.start (by decide) (Nat.le_of_ble_eq_true rfl) ?_
  intro p e s m below meth c args A ls Q hat hQ
  obtain ⟨hx, hb, hr, hml, hown, hg, hlocks, hin, hK, hA, hP, hD, hS, hE, hl⟩ := hat
  have hown : s.vm.findClass RX12 = some m.cls := hown
  have hl : lv_has ls 3 [(0, .ref b0), (1, .int 0)] := hl
  refine lv_aload_n hx hb dX12_loadCry_0 rfl (lv_at hl 0 rfl) ?_
  refine lv_aload_n hx hb dX12_loadCry_1 rfl (lv_at hl 0 rfl) ?_
  refine va_get (D := D) (ci := 12) (v := .ref b_now) (C := RX12) (T := TX12) (N := 89) hx hb hg i_X12 hown hK hP 0 rfl rfl 57 (by decide) (hg _ m_1470) (fun _ h9 => h9) rfl dX12_loadCry_2 ?_
  refine lv_bipush (v := 20) hx hb dX12_loadCry_5 (by decide) ?_
  refine lv_iload_n hx hb dX12_loadCry_7 rfl (lv_at hl 1 rfl) ?_
  refine lv_iadd hx hb dX12_loadCry_8 ?_
  refine lv_topi (fun y_1 hy_1 => ?_)
  obtain rfl : y_1 = 20 := hy_1.trans (by decide +kernel)
  refine va_iald hx hb hK hP 1 1 rfl rfl (by unfold vp_in; decide) dX12_loadCry_9 ?_
  refine lv_topi (fun y_2 hy_2 => ?_)
  obtain rfl : y_2 = 0 := hy_2.trans (by decide +kernel)
  refine va_put (D := D) (ci := 12) (v := .int 0) (ty := .int) (C := RX12) (T := TX12) (N := 89) hx hb hg i_X12 tyX12 tyX12_ok nmX12 hown hK hP hD hS 0 rfl rfl 61 (by decide) (hg _ m_1474) (fun _ h9 => h9) rfl (by decide +kernel) rfl rfl (Nat.le_of_ble_eq_true rfl) dX12_loadCry_10 (fun H locs hP hD hS => ?_)
  have hP : va_P D vwCl [(b0, .inr (12, [x0, x1, x2, x3, x4, x5, x6, x7, x8, x9, x10, x11, x12, x13, x14, x15, x16, x17, x18, x19, x20, x21, x22, x23, x24, x25, x26, x27, x28, x29, x30, x31, x32, x33, x34, x35, x36, x37, x38, x39, x40, x41, x42, x43, x44, x45, x46, x47, x48, x49, x50, x51, x52, x53, x54, x55, x56, .ref b_now, x58, x59, x60, .int 0, x62, x63, x64, x65, x66, x67, x68, x69, x70, x71, x72, x73, x74, x75, x76, x77, x78, x79, x80, x81, x82, x83, x84, x85, x86, x87, x88])), (b_now, .inl (cy 1, 42, .inl (fun _ => 0)))] H := hP
  have hD : va_D A [(b0, .inr (12, [x0, x1, x2, x3, x4, x5, x6, x7, x8, x9, x10, x11, x12, x13, x14, x15, x16, x17, x18, x19, x20, x21, x22, x23, x24, x25, x26, x27, x28, x29, x30, x31, x32, x33, x34, x35, x36, x37, x38, x39, x40, x41, x42, x43, x44, x45, x46, x47, x48, x49, x50, x51, x52, x53, x54, x55, x56, .ref b_now, x58, x59, x60, .int 0, x62, x63, x64, x65, x66, x67, x68, x69, x70, x71, x72, x73, x74, x75, x76, x77, x78, x79, x80, x81, x82, x83, x84, x85, x86, x87, x88])), (b_now, .inl (cy 1, 42, .inl (fun _ => 0)))] := hD
  refine lv_iconst (v := 0) hx hb dX12_loadCry_13 (by decide) ?_
  refine lv_istore_n (lv' := [(2, .int 0), (0, .ref b0), (1, .int 0)]) hx hb dX12_loadCry_14 rfl hl (by decide) rfl (fun ls hl => ?_)
  refine lv_iload_n hx hb dX12_loadCry_15 rfl (lv_at hl 0 rfl) ?_
  refine lv_aload_n hx hb dX12_loadCry_16 rfl (lv_at hl 1 rfl) ?_
  refine va_get (D := D) (ci := 12) (v := .int 0) (C := RX12) (T := TX12) (N := 89) hx hb hg i_X12 hown hK hP 0 rfl rfl 61 (by decide) (hg _ m_1474) (fun _ h9 => h9) rfl dX12_loadCry_17 ?_
  refine lv_icmp_ge (tgt := 46) hx hb dX12_loadCry_20 (by decide) (fun _ => ?_) (fun h => absurd (by decide) h)
  exact x_vret hQ hx hb hr hlocks hK hP hD hS dX12_loadCry_46 () (trivial) [0, 1] (by decide) rfl (Nat.le_of_ble_eq_true rfl) (Nat.le_of_ble_eq_true rfl)
theorem dX12_bindsAtHand_0 : decode cX12_bindsAtHand 0 = .ok (.iconst (-1), 1) := by decide +kernel
theorem dX12_bindsAtHand_1 : decode cX12_bindsAtHand 1 = .ok (.istore_n 1, 1) := by decide +kernel
theorem dX12_bindsAtHand_2 : decode cX12_bindsAtHand 2 = .ok (.iconst 0, 1) := by decide +kernel
theorem dX12_bindsAtHand_3 : decode cX12_bindsAtHand 3 = .ok (.istore_n 2, 1) := by decide +kernel
theorem dX12_bindsAtHand_4 : decode cX12_bindsAtHand 4 = .ok (.iload_n 2, 1) := by decide +kernel
theorem dX12_bindsAtHand_5 : decode cX12_bindsAtHand 5 = .ok (.aload_n 0, 1) := by decide +kernel
theorem dX12_bindsAtHand_6 : decode cX12_bindsAtHand 6 = .ok (.getfield 406, 3) := by decide +kernel
theorem dX12_bindsAtHand_9 : decode cX12_bindsAtHand 9 = .ok (.if_icmp .ge 40, 3) := by decide +kernel
theorem dX12_bindsAtHand_49 : decode cX12_bindsAtHand 49 = .ok (.iload_n 1, 1) := by decide +kernel
theorem dX12_bindsAtHand_50 : decode cX12_bindsAtHand 50 = .ok (.ireturn, 1) := by decide +kernel
set_option maxHeartbeats 400000 in
set_option maxRecDepth 100000 in
theorem m_bindsAtHand (l : Launch) (D : va_G) (cy : Nat → ClassId) (b0 : Nat) (x0 : Value) (x1 : Value) (x2 : Value) (x3 : Value) (x4 : Value) (x5 : Value) (x6 : Value) (x7 : Value) (x8 : Value) (x9 : Value) (x10 : Value) (x11 : Value) (x12 : Value) (x13 : Value) (x14 : Value) (x15 : Value) (x16 : Value) (x17 : Value) (x18 : Value) (x19 : Value) (x20 : Value) (x21 : Value) (x22 : Value) (x23 : Value) (x24 : Value) (x25 : Value) (x26 : Value) (x27 : Value) (x28 : Value) (x29 : Value) (x30 : Value) (x31 : Value) (x32 : Value) (x33 : Value) (x34 : Value) (x35 : Value) (x36 : Value) (x37 : Value) (x38 : Value) (x39 : Value) (x40 : Value) (x41 : Value) (x42 : Value) (x43 : Value) (x44 : Value) (x45 : Value) (x46 : Value) (x47 : Value) (x48 : Value) (x49 : Value) (x51 : Value) (x52 : Value) (x53 : Value) (x54 : Value) (x55 : Value) (x56 : Value) (x57 : Value) (x58 : Value) (x59 : Value) (x60 : Value) (x61 : Value) (x62 : Value) (x63 : Value) (x64 : Value) (x65 : Value) (x66 : Value) (x67 : Value) (x68 : Value) (x69 : Value) (x70 : Value) (x71 : Value) (x72 : Value) (x73 : Value) (x74 : Value) (x75 : Value) (x76 : Value) (x77 : Value) (x78 : Value) (x79 : Value) (x80 : Value) (x81 : Value) (x82 : Value) (x83 : Value) (x84 : Value) (x85 : Value) (x86 : Value) (x87 : Value) (x88 : Value)  : XMi l D (tyL cy) E0 yX12_bindsAtHand cX12_bindsAtHand 3 (some .int) (rmk 0 0 0) [.ref b0] [(b0, .inr (12, [x0, x1, x2, x3, x4, x5, x6, x7, x8, x9, x10, x11, x12, x13, x14, x15, x16, x17, x18, x19, x20, x21, x22, x23, x24, x25, x26, x27, x28, x29, x30, x31, x32, x33, x34, x35, x36, x37, x38, x39, x40, x41, x42, x43, x44, x45, x46, x47, x48, x49, .int 0, x51, x52, x53, x54, x55, x56, x57, x58, x59, x60, x61, x62, x63, x64, x65, x66, x67, x68, x69, x70, x71, x72, x73, x74, x75, x76, x77, x78, x79, x80, x81, x82, x83, x84, x85, x86, x87, x88]))] (fun (r : Int32) (_ : Unit) => r = -1) (fun (_ : Unit) => [(b0, .inr (12, [x0, x1, x2, x3, x4, x5, x6, x7, x8, x9, x10, x11, x12, x13, x14, x15, x16, x17, x18, x19, x20, x21, x22, x23, x24, x25, x26, x27, x28, x29, x30, x31, x32, x33, x34, x35, x36, x37, x38, x39, x40, x41, x42, x43, x44, x45, x46, x47, x48, x49, .int 0, x51, x52, x53, x54, x55, x56, x57, x58, x59, x60, x61, x62, x63, x64, x65, x66, x67, x68, x69, x70, x71, x72, x73, x74, x75, x76, x77, x78, x79, x80, x81, x82, x83, x84, x85, x86, x87, x88]))]) := by
  refine XMi.start (by decide) (Nat.le_of_ble_eq_true rfl) ?_
  intro p e s m below meth c args A ls Q hat hQ
  obtain ⟨hx, hb, hr, hml, hown, hg, hlocks, hin, hK, hA, hP, hD, hS, hE, hl⟩ := hat
  have hown : s.vm.findClass RX12 = some m.cls := hown
  have hl : lv_has ls 3 [(0, .ref b0)] := hl
  refine lv_iconst (v := -1) hx hb dX12_bindsAtHand_0 (by decide) ?_
  refine lv_istore_n (lv' := [(1, .int (-1)), (0, .ref b0)]) hx hb dX12_bindsAtHand_1 rfl hl (by decide) rfl (fun ls hl => ?_)
  refine lv_iconst (v := 0) hx hb dX12_bindsAtHand_2 (by decide) ?_
  refine lv_istore_n (lv' := [(2, .int 0), (1, .int (-1)), (0, .ref b0)]) hx hb dX12_bindsAtHand_3 rfl hl (by decide) rfl (fun ls hl => ?_)
  refine lv_iload_n hx hb dX12_bindsAtHand_4 rfl (lv_at hl 0 rfl) ?_
  refine lv_aload_n hx hb dX12_bindsAtHand_5 rfl (lv_at hl 2 rfl) ?_
  refine va_get (D := D) (ci := 12) (v := .int 0) (C := RX12) (T := TX12) (N := 89) hx hb hg i_X12 hown hK hP 0 rfl rfl 50 (by decide) (hg _ m_1463) (fun _ h9 => h9) rfl dX12_bindsAtHand_6 ?_
  refine lv_icmp_ge (tgt := 49) hx hb dX12_bindsAtHand_9 (by decide) (fun _ => ?_) (fun h => absurd (by decide) h)
  refine lv_iload_n hx hb dX12_bindsAtHand_49 rfl (lv_at hl 1 rfl) ?_
  exact x_iret hQ hx hb hr hlocks hK hP hD hS dX12_bindsAtHand_50 () (rfl) [0] (by decide) rfl (Nat.le_of_ble_eq_true rfl) (Nat.le_of_ble_eq_true rfl)
theorem dX12_verdict_0 : decode cX12_verdict 0 = .ok (.aload_n 0, 1) := by decide +kernel
theorem dX12_verdict_1 : decode cX12_verdict 1 = .ok (.invokevirtual 497, 3) := by decide +kernel
theorem m_1944 : (Cond.methodLink RX12 497 yX12_bindsAtHand) ∈ gT := gm 1944 (by decide +kernel) (by decide +kernel)
theorem m_1946 : (Cond.instanceMethod yX12_bindsAtHand) ∈ gT := gm 1946 (by decide +kernel) (by decide +kernel)
theorem m_107 : (Cond.selects RX12 yX12_bindsAtHand yX12_bindsAtHand) ∈ gT := gm 107 (by decide +kernel) (by decide +kernel)
theorem m_1947 : (Cond.code yX12_bindsAtHand cX12_bindsAtHand 3 (some .int)) ∈ gT := gm 1947 (by decide +kernel) (by decide +kernel)
theorem k_X12_497 : xV RX12 RX12 497 yX12_bindsAtHand cX12_bindsAtHand 3 (some .int) 0 := ⟨⟨m_1944, m_1946, m_107, m_146, m_1947⟩, rfl, by decide, by decide, by decide +kernel⟩
theorem dX12_verdict_4 : decode cX12_verdict 4 = .ok (.istore_n 1, 1) := by decide +kernel
theorem dX12_verdict_5 : decode cX12_verdict 5 = .ok (.iload_n 1, 1) := by decide +kernel
theorem dX12_verdict_6 : decode cX12_verdict 6 = .ok (.ifCond .ge 5, 3) := by decide +kernel
theorem dX12_verdict_9 : decode cX12_verdict 9 = .ok (.iconst 0, 1) := by decide +kernel
theorem dX12_verdict_10 : decode cX12_verdict 10 = .ok (.ireturn, 1) := by decide +kernel
set_option maxHeartbeats 400000 in
set_option maxRecDepth 100000 in
theorem m_verdict (l : Launch) (D : va_G) (cy : Nat → ClassId) (b0 : Nat) (x0 : Value) (x1 : Value) (x2 : Value) (x3 : Value) (x4 : Value) (x5 : Value) (x6 : Value) (x7 : Value) (x8 : Value) (x9 : Value) (x10 : Value) (x11 : Value) (x12 : Value) (x13 : Value) (x14 : Value) (x15 : Value) (x16 : Value) (x17 : Value) (x18 : Value) (x19 : Value) (x20 : Value) (x21 : Value) (x22 : Value) (x23 : Value) (x24 : Value) (x25 : Value) (x26 : Value) (x27 : Value) (x28 : Value) (x29 : Value) (x30 : Value) (x31 : Value) (x32 : Value) (x33 : Value) (x34 : Value) (x35 : Value) (x36 : Value) (x37 : Value) (x38 : Value) (x39 : Value) (x40 : Value) (x41 : Value) (x42 : Value) (x43 : Value) (x44 : Value) (x45 : Value) (x46 : Value) (x47 : Value) (x48 : Value) (x49 : Value) (x51 : Value) (x52 : Value) (x53 : Value) (x54 : Value) (x55 : Value) (x56 : Value) (x57 : Value) (x58 : Value) (x59 : Value) (x60 : Value) (x61 : Value) (x62 : Value) (x63 : Value) (x64 : Value) (x65 : Value) (x66 : Value) (x67 : Value) (x68 : Value) (x69 : Value) (x70 : Value) (x71 : Value) (x72 : Value) (x73 : Value) (x74 : Value) (x75 : Value) (x76 : Value) (x77 : Value) (x78 : Value) (x79 : Value) (x80 : Value) (x81 : Value) (x82 : Value) (x83 : Value) (x84 : Value) (x85 : Value) (x86 : Value) (x87 : Value) (x88 : Value)  : XMi l D (tyL cy) E0 yX12_verdict cX12_verdict 2 (some .int) (rmk 1 0 0) [.ref b0] [(b0, .inr (12, [x0, x1, x2, x3, x4, x5, x6, x7, x8, x9, x10, x11, x12, x13, x14, x15, x16, x17, x18, x19, x20, x21, x22, x23, x24, x25, x26, x27, x28, x29, x30, x31, x32, x33, x34, x35, x36, x37, x38, x39, x40, x41, x42, x43, x44, x45, x46, x47, x48, x49, .int 0, x51, x52, x53, x54, x55, x56, x57, x58, x59, x60, x61, x62, x63, x64, x65, x66, x67, x68, x69, x70, x71, x72, x73, x74, x75, x76, x77, x78, x79, x80, x81, x82, x83, x84, x85, x86, x87, x88]))] (fun (r : Int32) (_ : Unit) => r = 0) (fun (_ : Unit) => [(b0, .inr (12, [x0, x1, x2, x3, x4, x5, x6, x7, x8, x9, x10, x11, x12, x13, x14, x15, x16, x17, x18, x19, x20, x21, x22, x23, x24, x25, x26, x27, x28, x29, x30, x31, x32, x33, x34, x35, x36, x37, x38, x39, x40, x41, x42, x43, x44, x45, x46, x47, x48, x49, .int 0, x51, x52, x53, x54, x55, x56, x57, x58, x59, x60, x61, x62, x63, x64, x65, x66, x67, x68, x69, x70, x71, x72, x73, x74, x75, x76, x77, x78, x79, x80, x81, x82, x83, x84, x85, x86, x87, x88]))]) := by
  refine XMi.start (by decide) (Nat.le_of_ble_eq_true rfl) ?_
  intro p e s m below meth c args A ls Q hat hQ
  obtain ⟨hx, hb, hr, hml, hown, hg, hlocks, hin, hK, hA, hP, hD, hS, hE, hl⟩ := hat
  have hown : s.vm.findClass RX12 = some m.cls := hown
  have hl : lv_has ls 2 [(0, .ref b0)] := hl
  refine lv_aload_n hx hb dX12_verdict_0 rfl (lv_at hl 0 rfl) ?_
  refine x_callVi (q := (RX12, TX12, 89)) (ci := 12) (q0 := 0) (wr := []) (rest := []) ⟨hx, hb, hml, hown, hg, hl.1⟩ k_X12_497 (m_bindsAtHand l D cy b0 x0 x1 x2 x3 x4 x5 x6 x7 x8 x9 x10 x11 x12 x13 x14 x15 x16 x17 x18 x19 x20 x21 x22 x23 x24 x25 x26 x27 x28 x29 x30 x31 x32 x33 x34 x35 x36 x37 x38 x39 x40 x41 x42 x43 x44 x45 x46 x47 x48 x49 x51 x52 x53 x54 x55 x56 x57 x58 x59 x60 x61 x62 x63 x64 x65 x66 x67 x68 x69 x70 x71 x72 x73 x74 x75 x76 x77 x78 x79 x80 x81 x82 x83 x84 x85 x86 x87 x88) E0_blind hK hP hD hS hA [0] [] ⟨rfl, rfl, by decide, by decide, by decide⟩ rfl rfl (fun _ _ _ => trivial) dX12_verdict_1 rfl rfl (Nat.le_of_ble_eq_true rfl) ⟨Nat.le_of_ble_eq_true rfl, Nat.le_of_ble_eq_true rfl⟩ ⟨Nat.le_of_ble_eq_true rfl, Nat.le_of_ble_eq_true rfl⟩ (fun r1 u1 H locs hw1 hP hD hS => ?_)
  have hP : va_P D vwCl [(b0, .inr (12, [x0, x1, x2, x3, x4, x5, x6, x7, x8, x9, x10, x11, x12, x13, x14, x15, x16, x17, x18, x19, x20, x21, x22, x23, x24, x25, x26, x27, x28, x29, x30, x31, x32, x33, x34, x35, x36, x37, x38, x39, x40, x41, x42, x43, x44, x45, x46, x47, x48, x49, .int 0, x51, x52, x53, x54, x55, x56, x57, x58, x59, x60, x61, x62, x63, x64, x65, x66, x67, x68, x69, x70, x71, x72, x73, x74, x75, x76, x77, x78, x79, x80, x81, x82, x83, x84, x85, x86, x87, x88]))] H := hP
  have hD : va_D A [(b0, .inr (12, [x0, x1, x2, x3, x4, x5, x6, x7, x8, x9, x10, x11, x12, x13, x14, x15, x16, x17, x18, x19, x20, x21, x22, x23, x24, x25, x26, x27, x28, x29, x30, x31, x32, x33, x34, x35, x36, x37, x38, x39, x40, x41, x42, x43, x44, x45, x46, x47, x48, x49, .int 0, x51, x52, x53, x54, x55, x56, x57, x58, x59, x60, x61, x62, x63, x64, x65, x66, x67, x68, x69, x70, x71, x72, x73, x74, x75, x76, x77, x78, x79, x80, x81, x82, x83, x84, x85, x86, x87, x88]))] := hD
  refine W.widen (k := 0) (n := 0) (Nat.le_of_ble_eq_true rfl) (Nat.le_of_ble_eq_true rfl) ?_
  have hw1 : r1 = -1 := hw1
  subst hw1
  refine lv_istore_n (lv' := [(1, .int (-1)), (0, .ref b0)]) hx hb dX12_verdict_4 rfl hl (by decide) rfl (fun ls hl => ?_)
  refine lv_iload_n hx hb dX12_verdict_5 rfl (lv_at hl 0 rfl) ?_
  refine lv_if_ge (tgt := 11) hx hb dX12_verdict_6 (by decide) (fun h => absurd h (by decide)) (fun _ => ?_)
  refine lv_iconst (v := 0) hx hb dX12_verdict_9 (by decide) ?_
  exact x_iret hQ hx hb hr hlocks hK hP hD hS dX12_verdict_10 () (rfl) [0] (by decide) rfl (Nat.le_of_ble_eq_true rfl) (Nat.le_of_ble_eq_true rfl)
theorem dX12_yeas_0 : decode cX12_yeas 0 = .ok (.iload_n 1, 1) := by decide +kernel
theorem dX12_yeas_1 : decode cX12_yeas 1 = .ok (.iconst 0, 1) := by decide +kernel
theorem dX12_yeas_2 : decode cX12_yeas 2 = .ok (.bipush 9, 2) := by decide +kernel
theorem dX12_yeas_4 : decode cX12_yeas 4 = .ok (.invokestatic 436, 3) := by decide +kernel
theorem dX12_yeas_7 : decode cX12_yeas 7 = .ok (.ifCond .eq 12, 3) := by decide +kernel
theorem dX12_yeas_19 : decode cX12_yeas 19 = .ok (.iconst (-1), 1) := by decide +kernel
theorem dX12_yeas_20 : decode cX12_yeas 20 = .ok (.ireturn, 1) := by decide +kernel
theorem dX12_yeas_10 : decode cX12_yeas 10 = .ok (.iload_n 2, 1) := by decide +kernel
theorem dX12_yeas_11 : decode cX12_yeas 11 = .ok (.iconst 0, 1) := by decide +kernel
theorem dX12_yeas_12 : decode cX12_yeas 12 = .ok (.iconst 2, 1) := by decide +kernel
theorem dX12_yeas_13 : decode cX12_yeas 13 = .ok (.invokestatic 436, 3) := by decide +kernel
theorem dX12_yeas_16 : decode cX12_yeas 16 = .ok (.ifCond .ne 5, 3) := by decide +kernel
theorem dX12_yeas_21 : decode cX12_yeas 21 = .ok (.aload_n 0, 1) := by decide +kernel
theorem dX12_yeas_22 : decode cX12_yeas 22 = .ok (.invokevirtual 455, 3) := by decide +kernel
theorem m_1928 : (Cond.methodLink RX12 455 yX12_loadSky) ∈ gT := gm 1928 (by decide +kernel) (by decide +kernel)
theorem m_1930 : (Cond.instanceMethod yX12_loadSky) ∈ gT := gm 1930 (by decide +kernel) (by decide +kernel)
theorem m_103 : (Cond.selects RX12 yX12_loadSky yX12_loadSky) ∈ gT := gm 103 (by decide +kernel) (by decide +kernel)
theorem m_1931 : (Cond.code yX12_loadSky cX12_loadSky 2 none) ∈ gT := gm 1931 (by decide +kernel) (by decide +kernel)
theorem k_X12_455 : xV RX12 RX12 455 yX12_loadSky cX12_loadSky 2 none 0 := ⟨⟨m_1928, m_1930, m_103, m_146, m_1931⟩, rfl, by decide, by decide, by decide +kernel⟩
theorem dX12_yeas_25 : decode cX12_yeas 25 = .ok (.aload_n 0, 1) := by decide +kernel
theorem dX12_yeas_26 : decode cX12_yeas 26 = .ok (.iconst 0, 1) := by decide +kernel
theorem dX12_yeas_27 : decode cX12_yeas 27 = .ok (.invokevirtual 458, 3) := by decide +kernel
theorem m_1932 : (Cond.methodLink RX12 458 yX12_loadCry) ∈ gT := gm 1932 (by decide +kernel) (by decide +kernel)
theorem m_1934 : (Cond.instanceMethod yX12_loadCry) ∈ gT := gm 1934 (by decide +kernel) (by decide +kernel)
theorem m_104 : (Cond.selects RX12 yX12_loadCry yX12_loadCry) ∈ gT := gm 104 (by decide +kernel) (by decide +kernel)
theorem m_1935 : (Cond.code yX12_loadCry cX12_loadCry 3 none) ∈ gT := gm 1935 (by decide +kernel) (by decide +kernel)
theorem k_X12_458 : xV RX12 RX12 458 yX12_loadCry cX12_loadCry 3 none 1 := ⟨⟨m_1932, m_1934, m_104, m_146, m_1935⟩, rfl, by decide, by decide, by decide +kernel⟩
theorem dX12_yeas_30 : decode cX12_yeas 30 = .ok (.aload_n 0, 1) := by decide +kernel
theorem dX12_yeas_31 : decode cX12_yeas 31 = .ok (.iload_n 1, 1) := by decide +kernel
theorem dX12_yeas_32 : decode cX12_yeas 32 = .ok (.putfield 452, 3) := by decide +kernel
theorem m_1476 : (Cond.fieldLink RX12 452 "CliffJudgesModel" "callVoice" "I") ∈ gT := gm 1476 (by decide +kernel) (by decide +kernel)
theorem dX12_yeas_35 : decode cX12_yeas 35 = .ok (.iconst 0, 1) := by decide +kernel
theorem dX12_yeas_36 : decode cX12_yeas 36 = .ok (.istore_n 3, 1) := by decide +kernel
theorem dX12_yeas_37 : decode cX12_yeas 37 = .ok (.iconst (-1), 1) := by decide +kernel
theorem dX12_yeas_38 : decode cX12_yeas 38 = .ok (.istore 4, 2) := by decide +kernel
theorem dX12_yeas_40 : decode cX12_yeas 40 = .ok (.iconst (-1), 1) := by decide +kernel
theorem dX12_yeas_41 : decode cX12_yeas 41 = .ok (.istore 5, 2) := by decide +kernel
theorem dX12_yeas_43 : decode cX12_yeas 43 = .ok (.iconst 0, 1) := by decide +kernel
theorem dX12_yeas_44 : decode cX12_yeas 44 = .ok (.istore 6, 2) := by decide +kernel
theorem dX12_yeas_46 : decode cX12_yeas 46 = .ok (.iload 6, 2) := by decide +kernel
theorem dX12_yeas_48 : decode cX12_yeas 48 = .ok (.bipush 99, 2) := by decide +kernel
theorem dX12_yeas_50 : decode cX12_yeas 50 = .ok (.if_icmp .gt 47, 3) := by decide +kernel
theorem dX12_yeas_97 : decode cX12_yeas 97 = .ok (.iload_n 2, 1) := by decide +kernel
theorem dX12_yeas_98 : decode cX12_yeas 98 = .ok (.ifCond .ne 7, 3) := by decide +kernel
theorem dX12_yeas_105 : decode cX12_yeas 105 = .ok (.iload_n 2, 1) := by decide +kernel
theorem dX12_yeas_106 : decode cX12_yeas 106 = .ok (.iconst 1, 1) := by decide +kernel
theorem dX12_yeas_107 : decode cX12_yeas 107 = .ok (.if_icmp .ne 8, 3) := by decide +kernel
theorem dX12_yeas_115 : decode cX12_yeas 115 = .ok (.iload 5, 2) := by decide +kernel
theorem dX12_yeas_117 : decode cX12_yeas 117 = .ok (.ireturn, 1) := by decide +kernel
theorem dX12_yeas_110 : decode cX12_yeas 110 = .ok (.iload 4, 2) := by decide +kernel
theorem dX12_yeas_112 : decode cX12_yeas 112 = .ok (.goto 5, 3) := by decide +kernel
theorem dX12_yeas_101 : decode cX12_yeas 101 = .ok (.iload_n 3, 1) := by decide +kernel
theorem dX12_yeas_102 : decode cX12_yeas 102 = .ok (.goto 15, 3) := by decide +kernel
theorem dX12_yeas_53 : decode cX12_yeas 53 = .ok (.aload_n 0, 1) := by decide +kernel
theorem dX12_yeas_54 : decode cX12_yeas 54 = .ok (.iload 6, 2) := by decide +kernel
theorem dX12_yeas_56 : decode cX12_yeas 56 = .ok (.putfield 449, 3) := by decide +kernel
theorem m_1475 : (Cond.fieldLink RX12 449 "CliffJudgesModel" "callPlace" "I") ∈ gT := gm 1475 (by decide +kernel) (by decide +kernel)
theorem dX12_yeas_59 : decode cX12_yeas 59 = .ok (.aload_n 0, 1) := by decide +kernel
theorem dX12_yeas_60 : decode cX12_yeas 60 = .ok (.invokevirtual 524, 3) := by decide +kernel
theorem m_1940 : (Cond.methodLink RX12 524 yX12_verdict) ∈ gT := gm 1940 (by decide +kernel) (by decide +kernel)
theorem m_1942 : (Cond.instanceMethod yX12_verdict) ∈ gT := gm 1942 (by decide +kernel) (by decide +kernel)
theorem m_106 : (Cond.selects RX12 yX12_verdict yX12_verdict) ∈ gT := gm 106 (by decide +kernel) (by decide +kernel)
theorem m_1943 : (Cond.code yX12_verdict cX12_verdict 2 (some .int)) ∈ gT := gm 1943 (by decide +kernel) (by decide +kernel)
theorem k_X12_524 : xV RX12 RX12 524 yX12_verdict cX12_verdict 2 (some .int) 0 := ⟨⟨m_1940, m_1942, m_106, m_146, m_1943⟩, rfl, by decide, by decide, by decide +kernel⟩
theorem dX12_yeas_63 : decode cX12_yeas 63 = .ok (.iconst 2, 1) := by decide +kernel
theorem dX12_yeas_64 : decode cX12_yeas 64 = .ok (.if_icmp .ge 6, 3) := by decide +kernel
theorem dX12_yeas_67 : decode cX12_yeas 67 = .ok (.goto 24, 3) := by decide +kernel
theorem dX12_yeas_91 : decode cX12_yeas 91 = .ok (.iinc 6 1, 3) := by decide +kernel
theorem dX12_yeas_94 : decode cX12_yeas 94 = .ok (.goto (-48), 3) := by decide +kernel
set_option maxHeartbeats 400000 in
set_option maxRecDepth 100000 in
theorem m_yeas (l : Launch) (D : va_G) (cy : Nat → ClassId) (b0 : Nat) (x0 : Value) (x1 : Value) (x2 : Value) (x3 : Value) (x4 : Value) (x5 : Value) (x6 : Value) (x7 : Value) (x8 : Value) (x9 : Value) (x10 : Value) (x11 : Value) (x12 : Value) (x13 : Value) (x14 : Value) (x15 : Value) (x16 : Value) (x17 : Value) (x18 : Value) (x19 : Value) (x20 : Value) (x21 : Value) (x22 : Value) (x23 : Value) (x24 : Value) (x25 : Value) (x26 : Value) (x27 : Value) (x28 : Value) (x29 : Value) (x30 : Value) (x31 : Value) (x32 : Value) (x33 : Value) (x34 : Value) (x35 : Value) (x36 : Value) (x37 : Value) (x38 : Value) (x39 : Value) (x40 : Value) (x41 : Value) (x42 : Value) (x43 : Value) (x44 : Value) (x45 : Value) (x46 : Value) (x47 : Value) (x48 : Value) (x49 : Value) (x51 : Value) (x52 : Value) (x53 : Value) (x54 : Value) (x55 : Value) (x56 : Value) (x58 : Value) (x60 : Value) (x61 : Value) (x63 : Value) (x64 : Value) (x65 : Value) (x66 : Value) (x67 : Value) (x68 : Value) (x69 : Value) (x70 : Value) (x71 : Value) (x72 : Value) (x73 : Value) (x74 : Value) (x75 : Value) (x76 : Value) (x77 : Value) (x78 : Value) (x79 : Value) (x80 : Value) (x81 : Value) (x82 : Value) (x83 : Value) (x84 : Value) (x85 : Value) (x86 : Value) (x87 : Value) (x88 : Value) (b_now : Nat) (b_snow : Nat) (cpl : Int32) (fs : Nat → Int32) (ka : Int32) (kb : Int32)  : XMi l D (tyL cy) E0 yX12_yeas cX12_yeas 7 (some .int) (rmk 3 0 0) [.ref b0, .int ka, .int kb] [(b0, .inr (12, [x0, x1, x2, x3, x4, x5, x6, x7, x8, x9, x10, x11, x12, x13, x14, x15, x16, x17, x18, x19, x20, x21, x22, x23, x24, x25, x26, x27, x28, x29, x30, x31, x32, x33, x34, x35, x36, x37, x38, x39, x40, x41, x42, x43, x44, x45, x46, x47, x48, x49, .int 0, x51, x52, x53, x54, x55, x56, .ref b_now, x58, .ref b_snow, x60, x61, .int cpl, x63, x64, x65, x66, x67, x68, x69, x70, x71, x72, x73, x74, x75, x76, x77, x78, x79, x80, x81, x82, x83, x84, x85, x86, x87, x88])), (b_now, .inl (cy 1, 42, .inl (fun _ => 0))), (b_snow, .inl (cy 1, 4, .inl (fs)))] (fun (r : Int32) (_ : Unit) => r = if 0 ≤ ka.toInt ∧ ka.toInt ≤ 9 ∧ kb.toInt = 0 then 0 else -1) (fun (_ : Unit) => []) := by
  refine XMi.start (by decide) (Nat.le_of_ble_eq_true rfl) ?_
  intro p e s m below meth c args A ls Q hat hQ
  obtain ⟨hx, hb, hr, hml, hown, hg, hlocks, hin, hK, hA, hP, hD, hS, hE, hl⟩ := hat
  have hown : s.vm.findClass RX12 = some m.cls := hown
  have hl : lv_has ls 7 [(0, .ref b0), (1, .int ka), (2, .int kb)] := hl
  refine lv_iload_n hx hb dX12_yeas_0 rfl (lv_at hl 1 rfl) ?_
  refine lv_iconst (v := 0) hx hb dX12_yeas_1 (by decide) ?_
  refine lv_bipush (v := 9) hx hb dX12_yeas_2 (by decide) ?_
  refine x_callSi (wr := [(b0, .inr (12, [x0, x1, x2, x3, x4, x5, x6, x7, x8, x9, x10, x11, x12, x13, x14, x15, x16, x17, x18, x19, x20, x21, x22, x23, x24, x25, x26, x27, x28, x29, x30, x31, x32, x33, x34, x35, x36, x37, x38, x39, x40, x41, x42, x43, x44, x45, x46, x47, x48, x49, .int 0, x51, x52, x53, x54, x55, x56, .ref b_now, x58, .ref b_snow, x60, x61, .int cpl, x63, x64, x65, x66, x67, x68, x69, x70, x71, x72, x73, x74, x75, x76, x77, x78, x79, x80, x81, x82, x83, x84, x85, x86, x87, x88])), (b_now, .inl (cy 1, 42, .inl (fun _ => 0))), (b_snow, .inl (cy 1, 4, .inl (fs)))]) (rest := []) ⟨hx, hb, hml, hown, hg, hl.1⟩ k_X12_436 (m_isIn l D cy ka 0 9) E0_blind hK hP hD hS hA [] [0, 1, 2] ⟨rfl, rfl, by decide, by decide, by decide⟩ (fun _ _ _ => trivial) dX12_yeas_4 rfl rfl (Nat.le_of_ble_eq_true rfl) ⟨Nat.le_of_ble_eq_true rfl, Nat.le_of_ble_eq_true rfl⟩ ⟨Nat.le_of_ble_eq_true rfl, Nat.le_of_ble_eq_true rfl⟩ (fun r1 u1 H locs hw1 hP hD hS => ?_)
  have hP : va_P D vwCl [(b0, .inr (12, [x0, x1, x2, x3, x4, x5, x6, x7, x8, x9, x10, x11, x12, x13, x14, x15, x16, x17, x18, x19, x20, x21, x22, x23, x24, x25, x26, x27, x28, x29, x30, x31, x32, x33, x34, x35, x36, x37, x38, x39, x40, x41, x42, x43, x44, x45, x46, x47, x48, x49, .int 0, x51, x52, x53, x54, x55, x56, .ref b_now, x58, .ref b_snow, x60, x61, .int cpl, x63, x64, x65, x66, x67, x68, x69, x70, x71, x72, x73, x74, x75, x76, x77, x78, x79, x80, x81, x82, x83, x84, x85, x86, x87, x88])), (b_now, .inl (cy 1, 42, .inl (fun _ => 0))), (b_snow, .inl (cy 1, 4, .inl (fs)))] H := hP
  have hD : va_D A [(b0, .inr (12, [x0, x1, x2, x3, x4, x5, x6, x7, x8, x9, x10, x11, x12, x13, x14, x15, x16, x17, x18, x19, x20, x21, x22, x23, x24, x25, x26, x27, x28, x29, x30, x31, x32, x33, x34, x35, x36, x37, x38, x39, x40, x41, x42, x43, x44, x45, x46, x47, x48, x49, .int 0, x51, x52, x53, x54, x55, x56, .ref b_now, x58, .ref b_snow, x60, x61, .int cpl, x63, x64, x65, x66, x67, x68, x69, x70, x71, x72, x73, x74, x75, x76, x77, x78, x79, x80, x81, x82, x83, x84, x85, x86, x87, x88])), (b_now, .inl (cy 1, 42, .inl (fun _ => 0))), (b_snow, .inl (cy 1, 4, .inl (fs)))] := hD
  refine W.widen (k := 0) (n := 0) (Nat.le_of_ble_eq_true rfl) (Nat.le_of_ble_eq_true rfl) ?_
  have hw1 : (r1 = 1 ∧ (0 : Int32).toInt ≤ ka.toInt ∧ ka.toInt ≤ (9 : Int32).toInt) ∨ (r1 = 0 ∧ ¬ ((0 : Int32).toInt ≤ ka.toInt ∧ ka.toInt ≤ (9 : Int32).toInt)) := hw1
  refine lv_if_eq (tgt := 19) hx hb dX12_yeas_7 (by decide) (fun c_7 => ?_) (fun c_7 => ?_)
  · have qi7 := hw1.elim (fun h => absurd (c_7.symm.trans h.1) (by decide)) (fun h => h.2)
    refine lv_iconst (v := -1) hx hb dX12_yeas_19 (by decide) ?_
    have z0 : (0 : Int32).toInt = 0 := by decide
    have z1 : (1 : Int32).toInt = 1 := by decide
    have z2 : (2 : Int32).toInt = 2 := by decide
    have z9 : (9 : Int32).toInt = 9 := by decide
    exact x_iret hQ hx hb hr hlocks hK hP hD hS dX12_yeas_20 () ((if_neg (by omega)).symm) [] (by decide) rfl (Nat.le_of_ble_eq_true rfl) (Nat.le_of_ble_eq_true rfl)
  · have qi7 := hw1.elim (fun h => h.2) (fun h => absurd h.1 c_7)
    refine lv_iload_n hx hb dX12_yeas_10 rfl (lv_at hl 2 rfl) ?_
    refine lv_iconst (v := 0) hx hb dX12_yeas_11 (by decide) ?_
    refine lv_iconst (v := 2) hx hb dX12_yeas_12 (by decide) ?_
    refine x_callSi (wr := [(b0, .inr (12, [x0, x1, x2, x3, x4, x5, x6, x7, x8, x9, x10, x11, x12, x13, x14, x15, x16, x17, x18, x19, x20, x21, x22, x23, x24, x25, x26, x27, x28, x29, x30, x31, x32, x33, x34, x35, x36, x37, x38, x39, x40, x41, x42, x43, x44, x45, x46, x47, x48, x49, .int 0, x51, x52, x53, x54, x55, x56, .ref b_now, x58, .ref b_snow, x60, x61, .int cpl, x63, x64, x65, x66, x67, x68, x69, x70, x71, x72, x73, x74, x75, x76, x77, x78, x79, x80, x81, x82, x83, x84, x85, x86, x87, x88])), (b_now, .inl (cy 1, 42, .inl (fun _ => 0))), (b_snow, .inl (cy 1, 4, .inl (fs)))]) (rest := []) ⟨hx, hb, hml, hown, hg, hl.1⟩ k_X12_436 (m_isIn l D cy kb 0 2) E0_blind hK hP hD hS hA [] [0, 1, 2] ⟨rfl, rfl, by decide, by decide, by decide⟩ (fun _ _ _ => trivial) dX12_yeas_13 rfl rfl (Nat.le_of_ble_eq_true rfl) ⟨Nat.le_of_ble_eq_true rfl, Nat.le_of_ble_eq_true rfl⟩ ⟨Nat.le_of_ble_eq_true rfl, Nat.le_of_ble_eq_true rfl⟩ (fun r2 u2 H locs hw2 hP hD hS => ?_)
    have hP : va_P D vwCl [(b0, .inr (12, [x0, x1, x2, x3, x4, x5, x6, x7, x8, x9, x10, x11, x12, x13, x14, x15, x16, x17, x18, x19, x20, x21, x22, x23, x24, x25, x26, x27, x28, x29, x30, x31, x32, x33, x34, x35, x36, x37, x38, x39, x40, x41, x42, x43, x44, x45, x46, x47, x48, x49, .int 0, x51, x52, x53, x54, x55, x56, .ref b_now, x58, .ref b_snow, x60, x61, .int cpl, x63, x64, x65, x66, x67, x68, x69, x70, x71, x72, x73, x74, x75, x76, x77, x78, x79, x80, x81, x82, x83, x84, x85, x86, x87, x88])), (b_now, .inl (cy 1, 42, .inl (fun _ => 0))), (b_snow, .inl (cy 1, 4, .inl (fs)))] H := hP
    have hD : va_D A [(b0, .inr (12, [x0, x1, x2, x3, x4, x5, x6, x7, x8, x9, x10, x11, x12, x13, x14, x15, x16, x17, x18, x19, x20, x21, x22, x23, x24, x25, x26, x27, x28, x29, x30, x31, x32, x33, x34, x35, x36, x37, x38, x39, x40, x41, x42, x43, x44, x45, x46, x47, x48, x49, .int 0, x51, x52, x53, x54, x55, x56, .ref b_now, x58, .ref b_snow, x60, x61, .int cpl, x63, x64, x65, x66, x67, x68, x69, x70, x71, x72, x73, x74, x75, x76, x77, x78, x79, x80, x81, x82, x83, x84, x85, x86, x87, x88])), (b_now, .inl (cy 1, 42, .inl (fun _ => 0))), (b_snow, .inl (cy 1, 4, .inl (fs)))] := hD
    refine W.widen (k := 0) (n := 0) (Nat.le_of_ble_eq_true rfl) (Nat.le_of_ble_eq_true rfl) ?_
    have hw2 : (r2 = 1 ∧ (0 : Int32).toInt ≤ kb.toInt ∧ kb.toInt ≤ (2 : Int32).toInt) ∨ (r2 = 0 ∧ ¬ ((0 : Int32).toInt ≤ kb.toInt ∧ kb.toInt ≤ (2 : Int32).toInt)) := hw2
    refine lv_if_ne (tgt := 21) hx hb dX12_yeas_16 (by decide) (fun c_16 => ?_) (fun c_16 => ?_)
    · have qi16 := hw2.elim (fun h => h.2) (fun h => absurd h.1 c_16)
      refine lv_aload_n hx hb dX12_yeas_21 rfl (lv_at hl 0 rfl) ?_
      refine x_callVv (q := (RX12, TX12, 89)) (ci := 12) (q0 := 0) (wr := []) (rest := []) ⟨hx, hb, hml, hown, hg, hl.1⟩ k_X12_455 (m_loadSky l D cy b0 x0 x1 x2 x3 x4 x5 x6 x7 x8 x9 x10 x11 x12 x13 x14 x15 x16 x17 x18 x19 x20 x21 x22 x23 x24 x25 x26 x27 x28 x29 x30 x31 x32 x33 x34 x35 x36 x37 x38 x39 x40 x41 x42 x43 x44 x45 x46 x47 x48 x49 ((.int 0)) x51 x52 x53 x54 x55 x56 x58 x60 x61 ((.int cpl)) x63 x64 x65 x66 x67 x68 x69 x70 x71 x72 x73 x74 x75 x76 x77 x78 x79 x80 x81 x82 x83 x84 x85 x86 x87 x88 b_now b_snow fs) E0_blind hK hP hD hS hA [0, 1, 2] [] ⟨rfl, rfl, by decide, by decide, by decide⟩ rfl rfl (fun _ _ _ => trivial) dX12_yeas_22 rfl rfl (Nat.le_of_ble_eq_true rfl) ⟨Nat.le_of_ble_eq_true rfl, Nat.le_of_ble_eq_true rfl⟩ ⟨Nat.le_of_ble_eq_true rfl, Nat.le_of_ble_eq_true rfl⟩ (fun u3 H locs hw3 hP hD hS => ?_)
      obtain ⟨fs2_4, rfl⟩ : ∃ z, z = u3 := ⟨_, rfl⟩
      have hP : va_P D vwCl [(b0, .inr (12, [x0, x1, x2, x3, x4, x5, x6, x7, x8, x9, x10, x11, x12, x13, x14, x15, x16, x17, x18, x19, x20, x21, x22, x23, x24, x25, x26, x27, x28, x29, x30, x31, x32, x33, x34, x35, x36, x37, x38, x39, x40, x41, x42, x43, x44, x45, x46, x47, x48, x49, .int 0, x51, x52, x53, x54, x55, x56, .ref b_now, x58, .ref b_snow, x60, x61, .int cpl, x63, .int 0, .int 0, x66, x67, x68, x69, x70, x71, x72, x73, x74, x75, x76, x77, x78, x79, x80, x81, x82, x83, x84, x85, x86, x87, x88])), (b_now, .inl (cy 1, 42, .inl (fun _ => 0))), (b_snow, .inl (cy 1, 4, .inl (fs2_4)))] H := hP
      have hD : va_D A [(b0, .inr (12, [x0, x1, x2, x3, x4, x5, x6, x7, x8, x9, x10, x11, x12, x13, x14, x15, x16, x17, x18, x19, x20, x21, x22, x23, x24, x25, x26, x27, x28, x29, x30, x31, x32, x33, x34, x35, x36, x37, x38, x39, x40, x41, x42, x43, x44, x45, x46, x47, x48, x49, .int 0, x51, x52, x53, x54, x55, x56, .ref b_now, x58, .ref b_snow, x60, x61, .int cpl, x63, .int 0, .int 0, x66, x67, x68, x69, x70, x71, x72, x73, x74, x75, x76, x77, x78, x79, x80, x81, x82, x83, x84, x85, x86, x87, x88])), (b_now, .inl (cy 1, 42, .inl (fun _ => 0))), (b_snow, .inl (cy 1, 4, .inl (fs2_4)))] := hD
      refine W.widen (k := 0) (n := 0) (Nat.le_of_ble_eq_true rfl) (Nat.le_of_ble_eq_true rfl) ?_
      refine lv_aload_n hx hb dX12_yeas_25 rfl (lv_at hl 0 rfl) ?_
      refine lv_iconst (v := 0) hx hb dX12_yeas_26 (by decide) ?_
      refine x_callVv (q := (RX12, TX12, 89)) (ci := 12) (q0 := 0) (wr := [(b_snow, .inl (cy 1, 4, .inl (fs2_4)))]) (rest := []) ⟨hx, hb, hml, hown, hg, hl.1⟩ k_X12_458 (m_loadCry l D cy b0 x0 x1 x2 x3 x4 x5 x6 x7 x8 x9 x10 x11 x12 x13 x14 x15 x16 x17 x18 x19 x20 x21 x22 x23 x24 x25 x26 x27 x28 x29 x30 x31 x32 x33 x34 x35 x36 x37 x38 x39 x40 x41 x42 x43 x44 x45 x46 x47 x48 x49 ((.int 0)) x51 x52 x53 x54 x55 x56 x58 ((.ref b_snow)) x60 x61 ((.int cpl)) x63 ((.int 0)) ((.int 0)) x66 x67 x68 x69 x70 x71 x72 x73 x74 x75 x76 x77 x78 x79 x80 x81 x82 x83 x84 x85 x86 x87 x88 b_now) E0_blind hK hP hD hS hA [0, 1] [2] ⟨rfl, rfl, by decide, by decide, by decide⟩ rfl rfl (fun _ _ _ => trivial) dX12_yeas_27 rfl rfl (Nat.le_of_ble_eq_true rfl) ⟨Nat.le_of_ble_eq_true rfl, Nat.le_of_ble_eq_true rfl⟩ ⟨Nat.le_of_ble_eq_true rfl, Nat.le_of_ble_eq_true rfl⟩ (fun u5 H locs hw5 hP hD hS => ?_)
      have hP : va_P D vwCl [(b_snow, .inl (cy 1, 4, .inl (fs2_4))), (b0, .inr (12, [x0, x1, x2, x3, x4, x5, x6, x7, x8, x9, x10, x11, x12, x13, x14, x15, x16, x17, x18, x19, x20, x21, x22, x23, x24, x25, x26, x27, x28, x29, x30, x31, x32, x33, x34, x35, x36, x37, x38, x39, x40, x41, x42, x43, x44, x45, x46, x47, x48, x49, .int 0, x51, x52, x53, x54, x55, x56, .ref b_now, x58, .ref b_snow, x60, .int 0, .int cpl, x63, .int 0, .int 0, x66, x67, x68, x69, x70, x71, x72, x73, x74, x75, x76, x77, x78, x79, x80, x81, x82, x83, x84, x85, x86, x87, x88])), (b_now, .inl (cy 1, 42, .inl (fun _ => 0)))] H := hP
      have hD : va_D A [(b_snow, .inl (cy 1, 4, .inl (fs2_4))), (b0, .inr (12, [x0, x1, x2, x3, x4, x5, x6, x7, x8, x9, x10, x11, x12, x13, x14, x15, x16, x17, x18, x19, x20, x21, x22, x23, x24, x25, x26, x27, x28, x29, x30, x31, x32, x33, x34, x35, x36, x37, x38, x39, x40, x41, x42, x43, x44, x45, x46, x47, x48, x49, .int 0, x51, x52, x53, x54, x55, x56, .ref b_now, x58, .ref b_snow, x60, .int 0, .int cpl, x63, .int 0, .int 0, x66, x67, x68, x69, x70, x71, x72, x73, x74, x75, x76, x77, x78, x79, x80, x81, x82, x83, x84, x85, x86, x87, x88])), (b_now, .inl (cy 1, 42, .inl (fun _ => 0)))] := hD
      refine W.widen (k := 0) (n := 0) (Nat.le_of_ble_eq_true rfl) (Nat.le_of_ble_eq_true rfl) ?_
      refine lv_aload_n hx hb dX12_yeas_30 rfl (lv_at hl 0 rfl) ?_
      refine lv_iload_n hx hb dX12_yeas_31 rfl (lv_at hl 1 rfl) ?_
      refine va_put (D := D) (ci := 12) (v := .int ka) (ty := .int) (C := RX12) (T := TX12) (N := 89) hx hb hg i_X12 tyX12 tyX12_ok nmX12 hown hK hP hD hS 1 rfl rfl 63 (by decide) (hg _ m_1476) (fun _ h9 => h9) rfl (by decide +kernel) rfl rfl (Nat.le_of_ble_eq_true rfl) dX12_yeas_32 (fun H locs hP hD hS => ?_)
      have hP : va_P D vwCl [(b_snow, .inl (cy 1, 4, .inl (fs2_4))), (b0, .inr (12, [x0, x1, x2, x3, x4, x5, x6, x7, x8, x9, x10, x11, x12, x13, x14, x15, x16, x17, x18, x19, x20, x21, x22, x23, x24, x25, x26, x27, x28, x29, x30, x31, x32, x33, x34, x35, x36, x37, x38, x39, x40, x41, x42, x43, x44, x45, x46, x47, x48, x49, .int 0, x51, x52, x53, x54, x55, x56, .ref b_now, x58, .ref b_snow, x60, .int 0, .int cpl, .int ka, .int 0, .int 0, x66, x67, x68, x69, x70, x71, x72, x73, x74, x75, x76, x77, x78, x79, x80, x81, x82, x83, x84, x85, x86, x87, x88])), (b_now, .inl (cy 1, 42, .inl (fun _ => 0)))] H := hP
      have hD : va_D A [(b_snow, .inl (cy 1, 4, .inl (fs2_4))), (b0, .inr (12, [x0, x1, x2, x3, x4, x5, x6, x7, x8, x9, x10, x11, x12, x13, x14, x15, x16, x17, x18, x19, x20, x21, x22, x23, x24, x25, x26, x27, x28, x29, x30, x31, x32, x33, x34, x35, x36, x37, x38, x39, x40, x41, x42, x43, x44, x45, x46, x47, x48, x49, .int 0, x51, x52, x53, x54, x55, x56, .ref b_now, x58, .ref b_snow, x60, .int 0, .int cpl, .int ka, .int 0, .int 0, x66, x67, x68, x69, x70, x71, x72, x73, x74, x75, x76, x77, x78, x79, x80, x81, x82, x83, x84, x85, x86, x87, x88])), (b_now, .inl (cy 1, 42, .inl (fun _ => 0)))] := hD
      refine lv_iconst (v := 0) hx hb dX12_yeas_35 (by decide) ?_
      refine lv_istore_n (lv' := [(3, .int 0), (0, .ref b0), (1, .int ka), (2, .int kb)]) hx hb dX12_yeas_36 rfl hl (by decide) rfl (fun ls hl => ?_)
      refine lv_iconst (v := -1) hx hb dX12_yeas_37 (by decide) ?_
      refine lv_istore (lv' := [(4, .int (-1)), (3, .int 0), (0, .ref b0), (1, .int ka), (2, .int kb)]) hx hb dX12_yeas_38 hl (by decide) rfl (fun ls hl => ?_)
      refine lv_iconst (v := -1) hx hb dX12_yeas_40 (by decide) ?_
      refine lv_istore (lv' := [(5, .int (-1)), (4, .int (-1)), (3, .int 0), (0, .ref b0), (1, .int ka), (2, .int kb)]) hx hb dX12_yeas_41 hl (by decide) rfl (fun ls hl => ?_)
      refine lv_iconst (v := 0) hx hb dX12_yeas_43 (by decide) ?_
      refine lv_istore (lv' := [(6, .int 0), (5, .int (-1)), (4, .int (-1)), (3, .int 0), (0, .ref b0), (1, .int ka), (2, .int kb)]) hx hb dX12_yeas_44 hl (by decide) rfl (fun ls hl => ?_)
      have loop6 : ∀ (n i6 : Nat), i6 ≤ 100 → 101 ≤ i6 + n → ∀ (pq : Int32), ∀ (H : Heap) (locs : List Loc), va_P D vwCl [(b_snow, .inl (cy 1, 4, .inl (fs2_4))), (b0, .inr (12, [x0, x1, x2, x3, x4, x5, x6, x7, x8, x9, x10, x11, x12, x13, x14, x15, x16, x17, x18, x19, x20, x21, x22, x23, x24, x25, x26, x27, x28, x29, x30, x31, x32, x33, x34, x35, x36, x37, x38, x39, x40, x41, x42, x43, x44, x45, x46, x47, x48, x49, .int 0, x51, x52, x53, x54, x55, x56, .ref b_now, x58, .ref b_snow, x60, .int 0, .int pq, .int ka, .int 0, .int 0, x66, x67, x68, x69, x70, x71, x72, x73, x74, x75, x76, x77, x78, x79, x80, x81, x82, x83, x84, x85, x86, x87, x88])), (b_now, .inl (cy 1, 42, .inl (fun _ => 0)))] H → va_D A [(b_snow, .inl (cy 1, 4, .inl (fs2_4))), (b0, .inr (12, [x0, x1, x2, x3, x4, x5, x6, x7, x8, x9, x10, x11, x12, x13, x14, x15, x16, x17, x18, x19, x20, x21, x22, x23, x24, x25, x26, x27, x28, x29, x30, x31, x32, x33, x34, x35, x36, x37, x38, x39, x40, x41, x42, x43, x44, x45, x46, x47, x48, x49, .int 0, x51, x52, x53, x54, x55, x56, .ref b_now, x58, .ref b_snow, x60, .int 0, .int pq, .int ka, .int 0, .int 0, x66, x67, x68, x69, x70, x71, x72, x73, x74, x75, x76, x77, x78, x79, x80, x81, x82, x83, x84, x85, x86, x87, x88])), (b_now, .inl (cy 1, 42, .inl (fun _ => 0)))] → va_S A s.heap H locs → ∀ ls : Array Slot, lv_has ls 7 [(6, .int (nI i6)), (5, .int (-1)), (4, .int (-1)), (3, .int 0), (0, .ref b0), (1, .int ka), (2, .int kb)] → W p l e (rmk 3 0 0) s m args below meth c H locs 0 0 Q (F0 m 46 ls []) := by
        intro n
        induction n with
        | zero => intro i6 h1 h2; exact absurd h2 (by omega)
        | succ n ih =>
          intro i6 hi6 hn6 pq H locs hP hD hS ls hl
          have ih6 := ih
          refine lv_iload hx hb dX12_yeas_46 (lv_at hl 0 rfl) ?_
          refine lv_bipush (v := 99) hx hb dX12_yeas_48 (by decide) ?_
          refine lv_icmp_gt (tgt := 97) hx hb dX12_yeas_50 (by decide) (fun c6 => ?_) (fun c6 => ?_)
          · have hend6 : i6 = 100 := lp_end2 (N := 100) (by decide) hi6 (by decide) c6
            subst hend6
            refine lv_iload_n hx hb dX12_yeas_97 rfl (lv_at hl 6 rfl) ?_
            refine lv_if_ne (tgt := 105) hx hb dX12_yeas_98 (by decide) (fun c_98 => ?_) (fun c_98 => ?_)
            · refine lv_iload_n hx hb dX12_yeas_105 rfl (lv_at hl 6 rfl) ?_
              refine lv_iconst (v := 1) hx hb dX12_yeas_106 (by decide) ?_
              refine lv_icmp_ne (tgt := 115) hx hb dX12_yeas_107 (by decide) (fun c_107 => ?_) (fun c_107 => ?_)
              · refine lv_iload hx hb dX12_yeas_115 (lv_at hl 1 rfl) ?_
                have qc_98 : ¬ (kb : Int32).toInt = (0 : Int32).toInt := fun h => c_98 ((fa_eq _ _).mpr h)
                have qc_107 : ¬ (kb : Int32).toInt = (1 : Int32).toInt := fun h => c_107 ((fa_eq _ _).mpr h)
                have z0 : (0 : Int32).toInt = 0 := by decide
                have z1 : (1 : Int32).toInt = 1 := by decide
                have z2 : (2 : Int32).toInt = 2 := by decide
                have z9 : (9 : Int32).toInt = 9 := by decide
                exact x_iret hQ hx hb hr hlocks hK hP hD hS dX12_yeas_117 () ((if_neg (by omega)).symm) [] (by decide) rfl (Nat.le_of_ble_eq_true rfl) (Nat.le_of_ble_eq_true rfl)
              · refine lv_iload hx hb dX12_yeas_110 (lv_at hl 2 rfl) ?_
                refine lv_goto (tgt := 117) hx hb dX12_yeas_112 (by decide) ?_
                have qc_98 : ¬ (kb : Int32).toInt = (0 : Int32).toInt := fun h => c_98 ((fa_eq _ _).mpr h)
                have qc_107 : (kb : Int32).toInt = (1 : Int32).toInt := (fa_eq _ _).mp c_107
                have z0 : (0 : Int32).toInt = 0 := by decide
                have z1 : (1 : Int32).toInt = 1 := by decide
                have z2 : (2 : Int32).toInt = 2 := by decide
                have z9 : (9 : Int32).toInt = 9 := by decide
                exact x_iret hQ hx hb hr hlocks hK hP hD hS dX12_yeas_117 () ((if_neg (by omega)).symm) [] (by decide) rfl (Nat.le_of_ble_eq_true rfl) (Nat.le_of_ble_eq_true rfl)
            · refine lv_iload_n hx hb dX12_yeas_101 rfl (lv_at hl 3 rfl) ?_
              refine lv_goto (tgt := 117) hx hb dX12_yeas_102 (by decide) ?_
              have qc_98 : (kb : Int32).toInt = (0 : Int32).toInt := (fa_eq _ _).mp c_98
              have z0 : (0 : Int32).toInt = 0 := by decide
              have z1 : (1 : Int32).toInt = 1 := by decide
              have z2 : (2 : Int32).toInt = 2 := by decide
              have z9 : (9 : Int32).toInt = 9 := by decide
              exact x_iret hQ hx hb hr hlocks hK hP hD hS dX12_yeas_117 () ((if_pos (by omega)).symm) [] (by decide) rfl (Nat.le_of_ble_eq_true rfl) (Nat.le_of_ble_eq_true rfl)
          · have hlt6 : i6 < 100 := lp_go2 (by decide) hi6 (by decide) c6
            refine lv_aload_n hx hb dX12_yeas_53 rfl (lv_at hl 4 rfl) ?_
            refine lv_iload hx hb dX12_yeas_54 (lv_at hl 0 rfl) ?_
            refine va_put (D := D) (ci := 12) (v := .int (nI i6)) (ty := .int) (C := RX12) (T := TX12) (N := 89) hx hb hg i_X12 tyX12 tyX12_ok nmX12 hown hK hP hD hS 1 rfl rfl 62 (by decide) (hg _ m_1475) (fun _ h9 => h9) rfl (by decide +kernel) rfl rfl (Nat.le_of_ble_eq_true rfl) dX12_yeas_56 (fun H locs hP hD hS => ?_)
            have hP : va_P D vwCl [(b_snow, .inl (cy 1, 4, .inl (fs2_4))), (b0, .inr (12, [x0, x1, x2, x3, x4, x5, x6, x7, x8, x9, x10, x11, x12, x13, x14, x15, x16, x17, x18, x19, x20, x21, x22, x23, x24, x25, x26, x27, x28, x29, x30, x31, x32, x33, x34, x35, x36, x37, x38, x39, x40, x41, x42, x43, x44, x45, x46, x47, x48, x49, .int 0, x51, x52, x53, x54, x55, x56, .ref b_now, x58, .ref b_snow, x60, .int 0, .int (nI i6), .int ka, .int 0, .int 0, x66, x67, x68, x69, x70, x71, x72, x73, x74, x75, x76, x77, x78, x79, x80, x81, x82, x83, x84, x85, x86, x87, x88])), (b_now, .inl (cy 1, 42, .inl (fun _ => 0)))] H := hP
            have hD : va_D A [(b_snow, .inl (cy 1, 4, .inl (fs2_4))), (b0, .inr (12, [x0, x1, x2, x3, x4, x5, x6, x7, x8, x9, x10, x11, x12, x13, x14, x15, x16, x17, x18, x19, x20, x21, x22, x23, x24, x25, x26, x27, x28, x29, x30, x31, x32, x33, x34, x35, x36, x37, x38, x39, x40, x41, x42, x43, x44, x45, x46, x47, x48, x49, .int 0, x51, x52, x53, x54, x55, x56, .ref b_now, x58, .ref b_snow, x60, .int 0, .int (nI i6), .int ka, .int 0, .int 0, x66, x67, x68, x69, x70, x71, x72, x73, x74, x75, x76, x77, x78, x79, x80, x81, x82, x83, x84, x85, x86, x87, x88])), (b_now, .inl (cy 1, 42, .inl (fun _ => 0)))] := hD
            refine lv_aload_n hx hb dX12_yeas_59 rfl (lv_at hl 4 rfl) ?_
            refine x_callVi (q := (RX12, TX12, 89)) (ci := 12) (q0 := 0) (wr := [(b_snow, .inl (cy 1, 4, .inl (fs2_4))), (b_now, .inl (cy 1, 42, .inl (fun _ => 0)))]) (rest := []) ⟨hx, hb, hml, hown, hg, hl.1⟩ k_X12_524 (m_verdict l D cy b0 x0 x1 x2 x3 x4 x5 x6 x7 x8 x9 x10 x11 x12 x13 x14 x15 x16 x17 x18 x19 x20 x21 x22 x23 x24 x25 x26 x27 x28 x29 x30 x31 x32 x33 x34 x35 x36 x37 x38 x39 x40 x41 x42 x43 x44 x45 x46 x47 x48 x49 x51 x52 x53 x54 x55 x56 ((.ref b_now)) x58 ((.ref b_snow)) x60 ((.int 0)) ((.int (nI i6))) ((.int ka)) ((.int 0)) ((.int 0)) x66 x67 x68 x69 x70 x71 x72 x73 x74 x75 x76 x77 x78 x79 x80 x81 x82 x83 x84 x85 x86 x87 x88) E0_blind hK hP hD hS hA [1] [0, 2] ⟨rfl, rfl, by decide, by decide, by decide⟩ rfl rfl (fun _ _ _ => trivial) dX12_yeas_60 rfl rfl (Nat.le_of_ble_eq_true rfl) ⟨Nat.le_of_ble_eq_true rfl, Nat.le_of_ble_eq_true rfl⟩ ⟨Nat.le_of_ble_eq_true rfl, Nat.le_of_ble_eq_true rfl⟩ (fun r7 u7 H locs hw7 hP hD hS => ?_)
            have hP : va_P D vwCl [(b_snow, .inl (cy 1, 4, .inl (fs2_4))), (b_now, .inl (cy 1, 42, .inl (fun _ => 0))), (b0, .inr (12, [x0, x1, x2, x3, x4, x5, x6, x7, x8, x9, x10, x11, x12, x13, x14, x15, x16, x17, x18, x19, x20, x21, x22, x23, x24, x25, x26, x27, x28, x29, x30, x31, x32, x33, x34, x35, x36, x37, x38, x39, x40, x41, x42, x43, x44, x45, x46, x47, x48, x49, .int 0, x51, x52, x53, x54, x55, x56, .ref b_now, x58, .ref b_snow, x60, .int 0, .int (nI i6), .int ka, .int 0, .int 0, x66, x67, x68, x69, x70, x71, x72, x73, x74, x75, x76, x77, x78, x79, x80, x81, x82, x83, x84, x85, x86, x87, x88]))] H := hP
            have hD : va_D A [(b_snow, .inl (cy 1, 4, .inl (fs2_4))), (b_now, .inl (cy 1, 42, .inl (fun _ => 0))), (b0, .inr (12, [x0, x1, x2, x3, x4, x5, x6, x7, x8, x9, x10, x11, x12, x13, x14, x15, x16, x17, x18, x19, x20, x21, x22, x23, x24, x25, x26, x27, x28, x29, x30, x31, x32, x33, x34, x35, x36, x37, x38, x39, x40, x41, x42, x43, x44, x45, x46, x47, x48, x49, .int 0, x51, x52, x53, x54, x55, x56, .ref b_now, x58, .ref b_snow, x60, .int 0, .int (nI i6), .int ka, .int 0, .int 0, x66, x67, x68, x69, x70, x71, x72, x73, x74, x75, x76, x77, x78, x79, x80, x81, x82, x83, x84, x85, x86, x87, x88]))] := hD
            refine W.widen (k := 0) (n := 0) (Nat.le_of_ble_eq_true rfl) (Nat.le_of_ble_eq_true rfl) ?_
            have hw7 : r7 = 0 := hw7
            subst hw7
            refine lv_iconst (v := 2) hx hb dX12_yeas_63 (by decide) ?_
            refine lv_icmp_ge (tgt := 70) hx hb dX12_yeas_64 (by decide) (fun h => absurd h (by decide)) (fun _ => ?_)
            refine lv_goto (tgt := 91) hx hb dX12_yeas_67 (by decide) ?_
            refine lv_iinc (v := nI (i6 + 1)) (lv' := [(6, .int (nI (i6 + 1))), (5, .int (-1)), (4, .int (-1)), (3, .int 0), (0, .ref b0), (1, .int ka), (2, .int kb)]) hx hb dX12_yeas_91 hl (k := 0) rfl (lp_inc i6) (by decide) rfl (fun ls hl => ?_)
            refine lv_goto (tgt := 46) hx hb dX12_yeas_94 (by decide) ?_
            exact ih6 (i6 + 1) (by omega) (by omega) (nI i6) _ _ (hP.sub [0, 2, 1] rfl) (hD.sub [0, 2, 1] (by decide) rfl) hS ls (lv_sub hl [0, 1, 2, 3, 4, 5, 6] rfl)
      exact loop6 101 0 (by omega) (by omega) cpl _ _ (hP.sub [0, 1, 2] rfl) (hD.sub [0, 1, 2] (by decide) rfl) hS ls (lv_sub hl [0, 1, 2, 3, 4, 5, 6] rfl)
    · have qi16 := hw2.elim (fun h => absurd (c_16.symm.trans h.1) (by decide)) (fun h => h.2)
      refine lv_iconst (v := -1) hx hb dX12_yeas_19 (by decide) ?_
      have z0 : (0 : Int32).toInt = 0 := by decide
      have z1 : (1 : Int32).toInt = 1 := by decide
      have z2 : (2 : Int32).toInt = 2 := by decide
      have z9 : (9 : Int32).toInt = 9 := by decide
      exact x_iret hQ hx hb hr hlocks hK hP hD hS dX12_yeas_20 () ((if_neg (by omega)).symm) [] (by decide) rfl (Nat.le_of_ble_eq_true rfl) (Nat.le_of_ble_eq_true rfl)
theorem dX12_truth_0 : decode cX12_truth 0 = .ok (.iload_n 0, 1) := by decide +kernel
theorem dX12_truth_1 : decode cX12_truth 1 = .ok (.ifCond .eq 7, 3) := by decide +kernel
theorem dX12_truth_8 : decode cX12_truth 8 = .ok (.iconst 0, 1) := by decide +kernel
theorem dX12_truth_9 : decode cX12_truth 9 = .ok (.ireturn, 1) := by decide +kernel
theorem dX12_truth_4 : decode cX12_truth 4 = .ok (.iconst 1, 1) := by decide +kernel
theorem dX12_truth_5 : decode cX12_truth 5 = .ok (.goto 4, 3) := by decide +kernel
set_option maxHeartbeats 400000 in
set_option maxRecDepth 100000 in
theorem m_truth (l : Launch) (D : va_G) (cy : Nat → ClassId) (bb : Int32)  : XMi l D (tyL cy) E0 yX12_truth cX12_truth 1 (some .int) (rmk 0 0 0) [.int bb] [] (fun (r : Int32) (_ : Unit) => r = if bb.toInt = 0 then 0 else 1) (fun (_ : Unit) => []) := by
  refine XMi.start (by decide) (Nat.le_of_ble_eq_true rfl) ?_
  intro p e s m below meth c args A ls Q hat hQ
  obtain ⟨hx, hb, hr, hml, hown, hg, hlocks, hin, hK, hA, hP, hD, hS, hE, hl⟩ := hat
  have hown : s.vm.findClass RX12 = some m.cls := hown
  have hl : lv_has ls 1 [(0, .int bb)] := hl
  refine lv_iload_n hx hb dX12_truth_0 rfl (lv_at hl 0 rfl) ?_
  refine lv_if_eq (tgt := 8) hx hb dX12_truth_1 (by decide) (fun c_1 => ?_) (fun c_1 => ?_)
  · refine lv_iconst (v := 0) hx hb dX12_truth_8 (by decide) ?_
    have qc_1 : (bb : Int32).toInt = (0 : Int32).toInt := (fa_eq _ _).mp c_1
    have z0 : (0 : Int32).toInt = 0 := by decide
    exact x_iret hQ hx hb hr hlocks hK hP hD hS dX12_truth_9 () ((if_pos (by omega)).symm) [] (by decide) rfl (Nat.le_of_ble_eq_true rfl) (Nat.le_of_ble_eq_true rfl)
  · refine lv_iconst (v := 1) hx hb dX12_truth_4 (by decide) ?_
    refine lv_goto (tgt := 9) hx hb dX12_truth_5 (by decide) ?_
    have qc_1 : ¬ (bb : Int32).toInt = (0 : Int32).toInt := fun h => c_1 ((fa_eq _ _).mpr h)
    have z0 : (0 : Int32).toInt = 0 := by decide
    exact x_iret hQ hx hb hr hlocks hK hP hD hS dX12_truth_9 () ((if_neg (by omega)).symm) [] (by decide) rfl (Nat.le_of_ble_eq_true rfl) (Nat.le_of_ble_eq_true rfl)
theorem dX12_layStands_0 : decode cX12_layStands 0 = .ok (.aload_n 0, 1) := by decide +kernel
theorem dX12_layStands_1 : decode cX12_layStands 1 = .ok (.iconst 0, 1) := by decide +kernel
theorem dX12_layStands_2 : decode cX12_layStands 2 = .ok (.putfield 565, 3) := by decide +kernel
theorem m_1498 : (Cond.fieldLink RX12 565 "CliffJudgesModel" "standMany" "I") ∈ gT := gm 1498 (by decide +kernel) (by decide +kernel)
theorem dX12_layStands_5 : decode cX12_layStands 5 = .ok (.iconst 0, 1) := by decide +kernel
theorem dX12_layStands_6 : decode cX12_layStands 6 = .ok (.istore_n 2, 1) := by decide +kernel
theorem dX12_layStands_7 : decode cX12_layStands 7 = .ok (.iload_n 2, 1) := by decide +kernel
theorem dX12_layStands_8 : decode cX12_layStands 8 = .ok (.bipush 99, 2) := by decide +kernel
theorem dX12_layStands_10 : decode cX12_layStands 10 = .ok (.if_icmp .gt 125, 3) := by decide +kernel
theorem dX12_layStands_135 : decode cX12_layStands 135 = .ok (.return_, 1) := by decide +kernel
theorem dX12_layStands_13 : decode cX12_layStands 13 = .ok (.aload_n 0, 1) := by decide +kernel
theorem dX12_layStands_14 : decode cX12_layStands 14 = .ok (.getfield 145, 3) := by decide +kernel
theorem m_1497 : (Cond.fieldLink RX12 145 "CliffJudgesModel" "stands" "[Z") ∈ gT := gm 1497 (by decide +kernel) (by decide +kernel)
theorem dX12_layStands_17 : decode cX12_layStands 17 = .ok (.iload_n 2, 1) := by decide +kernel
theorem dX12_layStands_18 : decode cX12_layStands 18 = .ok (.iconst 1, 1) := by decide +kernel
theorem dX12_layStands_19 : decode cX12_layStands 19 = .ok (.bastore, 1) := by decide +kernel
theorem dX12_layStands_20 : decode cX12_layStands 20 = .ok (.iconst 0, 1) := by decide +kernel
theorem dX12_layStands_21 : decode cX12_layStands 21 = .ok (.istore_n 3, 1) := by decide +kernel
theorem dX12_layStands_22 : decode cX12_layStands 22 = .ok (.iload_n 3, 1) := by decide +kernel
theorem dX12_layStands_23 : decode cX12_layStands 23 = .ok (.aload_n 0, 1) := by decide +kernel
theorem dX12_layStands_24 : decode cX12_layStands 24 = .ok (.getfield 430, 3) := by decide +kernel
theorem dX12_layStands_27 : decode cX12_layStands 27 = .ok (.if_icmp .ge 84, 3) := by decide +kernel
theorem dX12_layStands_111 : decode cX12_layStands 111 = .ok (.aload_n 0, 1) := by decide +kernel
theorem dX12_layStands_112 : decode cX12_layStands 112 = .ok (.dup, 1) := by decide +kernel
theorem dX12_layStands_113 : decode cX12_layStands 113 = .ok (.getfield 565, 3) := by decide +kernel
theorem dX12_layStands_116 : decode cX12_layStands 116 = .ok (.aload_n 0, 1) := by decide +kernel
theorem dX12_layStands_117 : decode cX12_layStands 117 = .ok (.getfield 145, 3) := by decide +kernel
theorem dX12_layStands_120 : decode cX12_layStands 120 = .ok (.iload_n 2, 1) := by decide +kernel
theorem dX12_layStands_121 : decode cX12_layStands 121 = .ok (.baload, 1) := by decide +kernel
theorem dX12_layStands_122 : decode cX12_layStands 122 = .ok (.invokestatic 333, 3) := by decide +kernel
theorem m_1975 : (Cond.methodLink RX12 333 yX12_truth) ∈ gT := gm 1975 (by decide +kernel) (by decide +kernel)
theorem m_1976 : (Cond.static yX12_truth) ∈ gT := gm 1976 (by decide +kernel) (by decide +kernel)
theorem m_1977 : (Cond.code yX12_truth cX12_truth 1 (some .int)) ∈ gT := gm 1977 (by decide +kernel) (by decide +kernel)
theorem k_X12_333 : xS RX12 333 yX12_truth cX12_truth 1 (some .int) 1 := ⟨⟨m_1975, m_1976, m_146, m_1977⟩, by decide, by decide, by decide +kernel⟩
theorem dX12_layStands_125 : decode cX12_layStands 125 = .ok (.iadd, 1) := by decide +kernel
theorem dX12_layStands_126 : decode cX12_layStands 126 = .ok (.putfield 565, 3) := by decide +kernel
theorem dX12_layStands_129 : decode cX12_layStands 129 = .ok (.iinc 2 1, 3) := by decide +kernel
theorem dX12_layStands_132 : decode cX12_layStands 132 = .ok (.goto (-125), 3) := by decide +kernel
set_option maxHeartbeats 400000 in
set_option maxRecDepth 100000 in
theorem m_layStands (l : Launch) (D : va_G) (cy : Nat → ClassId) (b0 : Nat) (x0 : Value) (x1 : Value) (x2 : Value) (x3 : Value) (x4 : Value) (x5 : Value) (x6 : Value) (x7 : Value) (x8 : Value) (x9 : Value) (x10 : Value) (x11 : Value) (x12 : Value) (x13 : Value) (x14 : Value) (x15 : Value) (x16 : Value) (x17 : Value) (x18 : Value) (x19 : Value) (x20 : Value) (x21 : Value) (x22 : Value) (x23 : Value) (x24 : Value) (x25 : Value) (x26 : Value) (x27 : Value) (x28 : Value) (x29 : Value) (x30 : Value) (x31 : Value) (x32 : Value) (x33 : Value) (x34 : Value) (x35 : Value) (x36 : Value) (x37 : Value) (x38 : Value) (x39 : Value) (x40 : Value) (x41 : Value) (x42 : Value) (x43 : Value) (x44 : Value) (x45 : Value) (x46 : Value) (x47 : Value) (x48 : Value) (x49 : Value) (x50 : Value) (x51 : Value) (x52 : Value) (x53 : Value) (x54 : Value) (x55 : Value) (x56 : Value) (x57 : Value) (x58 : Value) (x59 : Value) (x60 : Value) (x61 : Value) (x62 : Value) (x63 : Value) (x64 : Value) (x65 : Value) (x66 : Value) (x67 : Value) (x68 : Value) (x69 : Value) (x70 : Value) (x71 : Value) (x72 : Value) (x73 : Value) (x74 : Value) (x75 : Value) (x76 : Value) (x77 : Value) (x78 : Value) (x79 : Value) (x80 : Value) (x81 : Value) (x83 : Value) (x86 : Value) (x87 : Value) (x88 : Value) (b_stands : Nat) (smv : Int32) (fs : Nat → Int32) (kk : Int32)  : XMv l D (tyL cy) E0 yX12_layStands cX12_layStands 4 none (rmk 1 0 0) [.ref b0, .int kk] [(b0, .inr (12, [x0, x1, x2, x3, x4, x5, x6, x7, x8, x9, x10, x11, x12, x13, x14, x15, x16, x17, x18, x19, x20, x21, x22, x23, x24, x25, x26, x27, x28, x29, x30, x31, x32, x33, x34, x35, x36, x37, x38, x39, x40, x41, x42, x43, x44, x45, x46, x47, x48, x49, x50, x51, x52, x53, x54, x55, x56, x57, x58, x59, x60, x61, x62, x63, x64, x65, x66, x67, x68, x69, x70, x71, x72, x73, x74, x75, x76, x77, x78, x79, x80, x81, .int 0, x83, .ref b_stands, .int smv, x86, x87, x88])), (b_stands, .inl (cy 3, 100, .inl (fs)))] (fun (fs2 : Nat → Int32) => ∀ j : Nat, j < 100 → fs2 j = 1) (fun (fs2 : Nat → Int32) => [(b0, .inr (12, [x0, x1, x2, x3, x4, x5, x6, x7, x8, x9, x10, x11, x12, x13, x14, x15, x16, x17, x18, x19, x20, x21, x22, x23, x24, x25, x26, x27, x28, x29, x30, x31, x32, x33, x34, x35, x36, x37, x38, x39, x40, x41, x42, x43, x44, x45, x46, x47, x48, x49, x50, x51, x52, x53, x54, x55, x56, x57, x58, x59, x60, x61, x62, x63, x64, x65, x66, x67, x68, x69, x70, x71, x72, x73, x74, x75, x76, x77, x78, x79, x80, x81, .int 0, x83, .ref b_stands, .int 100, x86, x87, x88])), (b_stands, .inl (cy 3, 100, .inl (fs2)))]) := by
  refine XMv.start (by decide) (Nat.le_of_ble_eq_true rfl) ?_
  intro p e s m below meth c args A ls Q hat hQ
  obtain ⟨hx, hb, hr, hml, hown, hg, hlocks, hin, hK, hA, hP, hD, hS, hE, hl⟩ := hat
  have hown : s.vm.findClass RX12 = some m.cls := hown
  have hl : lv_has ls 4 [(0, .ref b0), (1, .int kk)] := hl
  refine lv_aload_n hx hb dX12_layStands_0 rfl (lv_at hl 0 rfl) ?_
  refine lv_iconst (v := 0) hx hb dX12_layStands_1 (by decide) ?_
  refine va_put (D := D) (ci := 12) (v := .int 0) (ty := .int) (C := RX12) (T := TX12) (N := 89) hx hb hg i_X12 tyX12 tyX12_ok nmX12 hown hK hP hD hS 0 rfl rfl 85 (by decide) (hg _ m_1498) (fun _ h9 => h9) rfl (by decide +kernel) rfl rfl (Nat.le_of_ble_eq_true rfl) dX12_layStands_2 (fun H locs hP hD hS => ?_)
  have hP : va_P D vwCl [(b0, .inr (12, [x0, x1, x2, x3, x4, x5, x6, x7, x8, x9, x10, x11, x12, x13, x14, x15, x16, x17, x18, x19, x20, x21, x22, x23, x24, x25, x26, x27, x28, x29, x30, x31, x32, x33, x34, x35, x36, x37, x38, x39, x40, x41, x42, x43, x44, x45, x46, x47, x48, x49, x50, x51, x52, x53, x54, x55, x56, x57, x58, x59, x60, x61, x62, x63, x64, x65, x66, x67, x68, x69, x70, x71, x72, x73, x74, x75, x76, x77, x78, x79, x80, x81, .int 0, x83, .ref b_stands, .int 0, x86, x87, x88])), (b_stands, .inl (cy 3, 100, .inl (fs)))] H := hP
  have hD : va_D A [(b0, .inr (12, [x0, x1, x2, x3, x4, x5, x6, x7, x8, x9, x10, x11, x12, x13, x14, x15, x16, x17, x18, x19, x20, x21, x22, x23, x24, x25, x26, x27, x28, x29, x30, x31, x32, x33, x34, x35, x36, x37, x38, x39, x40, x41, x42, x43, x44, x45, x46, x47, x48, x49, x50, x51, x52, x53, x54, x55, x56, x57, x58, x59, x60, x61, x62, x63, x64, x65, x66, x67, x68, x69, x70, x71, x72, x73, x74, x75, x76, x77, x78, x79, x80, x81, .int 0, x83, .ref b_stands, .int 0, x86, x87, x88])), (b_stands, .inl (cy 3, 100, .inl (fs)))] := hD
  refine lv_iconst (v := 0) hx hb dX12_layStands_5 (by decide) ?_
  refine lv_istore_n (lv' := [(2, .int 0), (0, .ref b0), (1, .int kk)]) hx hb dX12_layStands_6 rfl hl (by decide) rfl (fun ls hl => ?_)
  have loop1 : ∀ (n i1 : Nat), i1 ≤ 100 → 101 ≤ i1 + n → ∀ (fq : Nat → Int32), (∀ j : Nat, j < i1 → fq j = 1) → ∀ (H : Heap) (locs : List Loc), va_P D vwCl [(b0, .inr (12, [x0, x1, x2, x3, x4, x5, x6, x7, x8, x9, x10, x11, x12, x13, x14, x15, x16, x17, x18, x19, x20, x21, x22, x23, x24, x25, x26, x27, x28, x29, x30, x31, x32, x33, x34, x35, x36, x37, x38, x39, x40, x41, x42, x43, x44, x45, x46, x47, x48, x49, x50, x51, x52, x53, x54, x55, x56, x57, x58, x59, x60, x61, x62, x63, x64, x65, x66, x67, x68, x69, x70, x71, x72, x73, x74, x75, x76, x77, x78, x79, x80, x81, .int 0, x83, .ref b_stands, .int (nI i1), x86, x87, x88])), (b_stands, .inl (cy 3, 100, .inl (fq)))] H → va_D A [(b0, .inr (12, [x0, x1, x2, x3, x4, x5, x6, x7, x8, x9, x10, x11, x12, x13, x14, x15, x16, x17, x18, x19, x20, x21, x22, x23, x24, x25, x26, x27, x28, x29, x30, x31, x32, x33, x34, x35, x36, x37, x38, x39, x40, x41, x42, x43, x44, x45, x46, x47, x48, x49, x50, x51, x52, x53, x54, x55, x56, x57, x58, x59, x60, x61, x62, x63, x64, x65, x66, x67, x68, x69, x70, x71, x72, x73, x74, x75, x76, x77, x78, x79, x80, x81, .int 0, x83, .ref b_stands, .int (nI i1), x86, x87, x88])), (b_stands, .inl (cy 3, 100, .inl (fq)))] → va_S A s.heap H locs → ∀ ls : Array Slot, lv_has ls 4 [(2, .int (nI i1)), (0, .ref b0), (1, .int kk)] → W p l e (rmk 1 0 0) s m args below meth c H locs 0 0 Q (F0 m 7 ls []) := by
    intro n
    induction n with
    | zero => intro i1 h1 h2; exact absurd h2 (by omega)
    | succ n ih =>
      intro i1 hi1 hn1 fq hv1 H locs hP hD hS ls hl
      have ih1 := ih
      refine lv_iload_n hx hb dX12_layStands_7 rfl (lv_at hl 0 rfl) ?_
      refine lv_bipush (v := 99) hx hb dX12_layStands_8 (by decide) ?_
      refine lv_icmp_gt (tgt := 135) hx hb dX12_layStands_10 (by decide) (fun c1 => ?_) (fun c1 => ?_)
      · have hend1 : i1 = 100 := lp_end2 (N := 100) (by decide) hi1 (by decide) c1
        subst hend1
        exact x_vret hQ hx hb hr hlocks hK hP hD hS dX12_layStands_135 fq (hv1) [0, 1] (by decide) rfl (Nat.le_of_ble_eq_true rfl) (Nat.le_of_ble_eq_true rfl)
      · have hlt1 : i1 < 100 := lp_go2 (by decide) hi1 (by decide) c1
        refine lv_aload_n hx hb dX12_layStands_13 rfl (lv_at hl 1 rfl) ?_
        refine va_get (D := D) (ci := 12) (v := .ref b_stands) (C := RX12) (T := TX12) (N := 89) hx hb hg i_X12 hown hK hP 0 rfl rfl 84 (by decide) (hg _ m_1497) (fun _ h9 => h9) rfl dX12_layStands_14 ?_
        refine lv_iload_n hx hb dX12_layStands_17 rfl (lv_at hl 0 rfl) ?_
        refine lv_iconst (v := 1) hx hb dX12_layStands_18 (by decide) ?_
        refine va_zast hx hb hK hP hD hS 1 3 rfl rfl (vp_in_nI (by omega) (by decide)) dX12_layStands_19 (fun H locs hP hD hS => ?_)
        rw [vb1] at hP hD
        have hP : va_P D vwCl [(b0, .inr (12, [x0, x1, x2, x3, x4, x5, x6, x7, x8, x9, x10, x11, x12, x13, x14, x15, x16, x17, x18, x19, x20, x21, x22, x23, x24, x25, x26, x27, x28, x29, x30, x31, x32, x33, x34, x35, x36, x37, x38, x39, x40, x41, x42, x43, x44, x45, x46, x47, x48, x49, x50, x51, x52, x53, x54, x55, x56, x57, x58, x59, x60, x61, x62, x63, x64, x65, x66, x67, x68, x69, x70, x71, x72, x73, x74, x75, x76, x77, x78, x79, x80, x81, .int 0, x83, .ref b_stands, .int (nI i1), x86, x87, x88])), (b_stands, .inl (cy 3, 100, .inl (upd fq (nI i1 : Int32).toNatClampNeg 1)))] H := hP
        have hD : va_D A [(b0, .inr (12, [x0, x1, x2, x3, x4, x5, x6, x7, x8, x9, x10, x11, x12, x13, x14, x15, x16, x17, x18, x19, x20, x21, x22, x23, x24, x25, x26, x27, x28, x29, x30, x31, x32, x33, x34, x35, x36, x37, x38, x39, x40, x41, x42, x43, x44, x45, x46, x47, x48, x49, x50, x51, x52, x53, x54, x55, x56, x57, x58, x59, x60, x61, x62, x63, x64, x65, x66, x67, x68, x69, x70, x71, x72, x73, x74, x75, x76, x77, x78, x79, x80, x81, .int 0, x83, .ref b_stands, .int (nI i1), x86, x87, x88])), (b_stands, .inl (cy 3, 100, .inl (upd fq (nI i1 : Int32).toNatClampNeg 1)))] := hD
        refine lv_iconst (v := 0) hx hb dX12_layStands_20 (by decide) ?_
        refine lv_istore_n (lv' := [(3, .int 0), (2, .int (nI i1)), (0, .ref b0), (1, .int kk)]) hx hb dX12_layStands_21 rfl hl (by decide) rfl (fun ls hl => ?_)
        refine lv_iload_n hx hb dX12_layStands_22 rfl (lv_at hl 0 rfl) ?_
        refine lv_aload_n hx hb dX12_layStands_23 rfl (lv_at hl 2 rfl) ?_
        refine va_get (D := D) (ci := 12) (v := .int 0) (C := RX12) (T := TX12) (N := 89) hx hb hg i_X12 hown hK hP 0 rfl rfl 82 (by decide) (hg _ m_1495) (fun _ h9 => h9) rfl dX12_layStands_24 ?_
        refine lv_icmp_ge (tgt := 111) hx hb dX12_layStands_27 (by decide) (fun _ => ?_) (fun h => absurd (by decide) h)
        refine lv_aload_n hx hb dX12_layStands_111 rfl (lv_at hl 2 rfl) ?_
        refine lv_dup hx hb dX12_layStands_112 rfl ?_
        refine va_get (D := D) (ci := 12) (v := .int (nI i1)) (C := RX12) (T := TX12) (N := 89) hx hb hg i_X12 hown hK hP 0 rfl rfl 85 (by decide) (hg _ m_1498) (fun _ h9 => h9) rfl dX12_layStands_113 ?_
        refine lv_aload_n hx hb dX12_layStands_116 rfl (lv_at hl 2 rfl) ?_
        refine va_get (D := D) (ci := 12) (v := .ref b_stands) (C := RX12) (T := TX12) (N := 89) hx hb hg i_X12 hown hK hP 0 rfl rfl 84 (by decide) (hg _ m_1497) (fun _ h9 => h9) rfl dX12_layStands_117 ?_
        refine lv_iload_n hx hb dX12_layStands_120 rfl (lv_at hl 1 rfl) ?_
        refine va_zald hx hb hK hP 1 3 rfl rfl (vp_in_nI (by omega) (by decide)) dX12_layStands_121 ?_
        refine lv_topi (fun y_2 hy_2 => ?_)
        obtain rfl : y_2 = 1 := hy_2.trans pk_us
        refine x_callSi (wr := [(b0, .inr (12, [x0, x1, x2, x3, x4, x5, x6, x7, x8, x9, x10, x11, x12, x13, x14, x15, x16, x17, x18, x19, x20, x21, x22, x23, x24, x25, x26, x27, x28, x29, x30, x31, x32, x33, x34, x35, x36, x37, x38, x39, x40, x41, x42, x43, x44, x45, x46, x47, x48, x49, x50, x51, x52, x53, x54, x55, x56, x57, x58, x59, x60, x61, x62, x63, x64, x65, x66, x67, x68, x69, x70, x71, x72, x73, x74, x75, x76, x77, x78, x79, x80, x81, .int 0, x83, .ref b_stands, .int (nI i1), x86, x87, x88])), (b_stands, .inl (cy 3, 100, .inl (upd fq (nI i1 : Int32).toNatClampNeg 1)))]) (rest := [.int (nI i1), .ref b0]) ⟨hx, hb, hml, hown, hg, hl.1⟩ k_X12_333 (m_truth l D cy 1) E0_blind hK hP hD hS hA [] [0, 1] ⟨rfl, rfl, by decide, by decide, by decide⟩ (fun _ _ _ => trivial) dX12_layStands_122 rfl rfl (Nat.le_of_ble_eq_true rfl) ⟨Nat.le_of_ble_eq_true rfl, Nat.le_of_ble_eq_true rfl⟩ ⟨Nat.le_of_ble_eq_true rfl, Nat.le_of_ble_eq_true rfl⟩ (fun r3 u3 H locs hw3 hP hD hS => ?_)
        have hP : va_P D vwCl [(b0, .inr (12, [x0, x1, x2, x3, x4, x5, x6, x7, x8, x9, x10, x11, x12, x13, x14, x15, x16, x17, x18, x19, x20, x21, x22, x23, x24, x25, x26, x27, x28, x29, x30, x31, x32, x33, x34, x35, x36, x37, x38, x39, x40, x41, x42, x43, x44, x45, x46, x47, x48, x49, x50, x51, x52, x53, x54, x55, x56, x57, x58, x59, x60, x61, x62, x63, x64, x65, x66, x67, x68, x69, x70, x71, x72, x73, x74, x75, x76, x77, x78, x79, x80, x81, .int 0, x83, .ref b_stands, .int (nI i1), x86, x87, x88])), (b_stands, .inl (cy 3, 100, .inl (upd fq (nI i1 : Int32).toNatClampNeg 1)))] H := hP
        have hD : va_D A [(b0, .inr (12, [x0, x1, x2, x3, x4, x5, x6, x7, x8, x9, x10, x11, x12, x13, x14, x15, x16, x17, x18, x19, x20, x21, x22, x23, x24, x25, x26, x27, x28, x29, x30, x31, x32, x33, x34, x35, x36, x37, x38, x39, x40, x41, x42, x43, x44, x45, x46, x47, x48, x49, x50, x51, x52, x53, x54, x55, x56, x57, x58, x59, x60, x61, x62, x63, x64, x65, x66, x67, x68, x69, x70, x71, x72, x73, x74, x75, x76, x77, x78, x79, x80, x81, .int 0, x83, .ref b_stands, .int (nI i1), x86, x87, x88])), (b_stands, .inl (cy 3, 100, .inl (upd fq (nI i1 : Int32).toNatClampNeg 1)))] := hD
        refine W.widen (k := 0) (n := 0) (Nat.le_of_ble_eq_true rfl) (Nat.le_of_ble_eq_true rfl) ?_
        have hw3 : r3 = if (1 : Int32).toInt = 0 then 0 else 1 := hw3
        obtain rfl : r3 = 1 := hw3.trans (by decide)
        refine lv_iadd hx hb dX12_layStands_125 ?_
        refine lv_topi (fun y_4 hy_4 => ?_)
        obtain rfl : y_4 = nI (i1 + 1) := hy_4.trans (nI_add _ _)
        refine va_put (D := D) (ci := 12) (v := .int (nI (i1 + 1))) (ty := .int) (C := RX12) (T := TX12) (N := 89) hx hb hg i_X12 tyX12 tyX12_ok nmX12 hown hK hP hD hS 0 rfl rfl 85 (by decide) (hg _ m_1498) (fun _ h9 => h9) rfl (by decide +kernel) rfl rfl (Nat.le_of_ble_eq_true rfl) dX12_layStands_126 (fun H locs hP hD hS => ?_)
        have hP : va_P D vwCl [(b0, .inr (12, [x0, x1, x2, x3, x4, x5, x6, x7, x8, x9, x10, x11, x12, x13, x14, x15, x16, x17, x18, x19, x20, x21, x22, x23, x24, x25, x26, x27, x28, x29, x30, x31, x32, x33, x34, x35, x36, x37, x38, x39, x40, x41, x42, x43, x44, x45, x46, x47, x48, x49, x50, x51, x52, x53, x54, x55, x56, x57, x58, x59, x60, x61, x62, x63, x64, x65, x66, x67, x68, x69, x70, x71, x72, x73, x74, x75, x76, x77, x78, x79, x80, x81, .int 0, x83, .ref b_stands, .int (nI (i1 + 1)), x86, x87, x88])), (b_stands, .inl (cy 3, 100, .inl (upd fq (nI i1 : Int32).toNatClampNeg 1)))] H := hP
        have hD : va_D A [(b0, .inr (12, [x0, x1, x2, x3, x4, x5, x6, x7, x8, x9, x10, x11, x12, x13, x14, x15, x16, x17, x18, x19, x20, x21, x22, x23, x24, x25, x26, x27, x28, x29, x30, x31, x32, x33, x34, x35, x36, x37, x38, x39, x40, x41, x42, x43, x44, x45, x46, x47, x48, x49, x50, x51, x52, x53, x54, x55, x56, x57, x58, x59, x60, x61, x62, x63, x64, x65, x66, x67, x68, x69, x70, x71, x72, x73, x74, x75, x76, x77, x78, x79, x80, x81, .int 0, x83, .ref b_stands, .int (nI (i1 + 1)), x86, x87, x88])), (b_stands, .inl (cy 3, 100, .inl (upd fq (nI i1 : Int32).toNatClampNeg 1)))] := hD
        refine lv_iinc (v := nI (i1 + 1)) (lv' := [(2, .int (nI (i1 + 1))), (3, .int 0), (0, .ref b0), (1, .int kk)]) hx hb dX12_layStands_129 hl (k := 1) rfl (lp_inc i1) (by decide) rfl (fun ls hl => ?_)
        refine lv_goto (tgt := 7) hx hb dX12_layStands_132 (by decide) ?_
        exact ih1 (i1 + 1) (by omega) (by omega) (upd fq (nI i1 : Int32).toNatClampNeg 1) (upd_ones hv1 (by omega)) _ _ (hP.sub [0, 1] rfl) (hD.sub [0, 1] (by decide) rfl) hS ls (lv_sub hl [0, 2, 3] rfl)
  exact loop1 101 0 (by omega) (by omega) fs (fun j h => absurd h (by omega)) _ _ (hP.sub [0, 1] rfl) (hD.sub [0, 1] (by decide) rfl) hS ls (lv_sub hl [0, 1, 2] rfl)
theorem dX12_stood_0 : decode cX12_stood 0 = .ok (.iload_n 1, 1) := by decide +kernel
theorem dX12_stood_1 : decode cX12_stood 1 = .ok (.iconst 0, 1) := by decide +kernel
theorem dX12_stood_2 : decode cX12_stood 2 = .ok (.iconst 2, 1) := by decide +kernel
theorem dX12_stood_3 : decode cX12_stood 3 = .ok (.invokestatic 436, 3) := by decide +kernel
theorem dX12_stood_6 : decode cX12_stood 6 = .ok (.ifCond .ne 5, 3) := by decide +kernel
theorem dX12_stood_11 : decode cX12_stood 11 = .ok (.aload_n 0, 1) := by decide +kernel
theorem dX12_stood_12 : decode cX12_stood 12 = .ok (.iload_n 2, 1) := by decide +kernel
theorem dX12_stood_13 : decode cX12_stood 13 = .ok (.invokevirtual 571, 3) := by decide +kernel
theorem m_2125 : (Cond.methodLink RX12 571 yX12_layStands) ∈ gT := gm 2125 (by decide +kernel) (by decide +kernel)
theorem m_2127 : (Cond.instanceMethod yX12_layStands) ∈ gT := gm 2127 (by decide +kernel) (by decide +kernel)
theorem m_126 : (Cond.selects RX12 yX12_layStands yX12_layStands) ∈ gT := gm 126 (by decide +kernel) (by decide +kernel)
theorem m_2128 : (Cond.code yX12_layStands cX12_layStands 4 none) ∈ gT := gm 2128 (by decide +kernel) (by decide +kernel)
theorem k_X12_571 : xV RX12 RX12 571 yX12_layStands cX12_layStands 4 none 1 := ⟨⟨m_2125, m_2127, m_126, m_146, m_2128⟩, rfl, by decide, by decide, by decide +kernel⟩
theorem dX12_stood_16 : decode cX12_stood 16 = .ok (.iconst (-1), 1) := by decide +kernel
theorem dX12_stood_17 : decode cX12_stood 17 = .ok (.istore_n 3, 1) := by decide +kernel
theorem dX12_stood_18 : decode cX12_stood 18 = .ok (.iconst (-1), 1) := by decide +kernel
theorem dX12_stood_19 : decode cX12_stood 19 = .ok (.istore 4, 2) := by decide +kernel
theorem dX12_stood_21 : decode cX12_stood 21 = .ok (.iconst 0, 1) := by decide +kernel
theorem dX12_stood_22 : decode cX12_stood 22 = .ok (.istore 5, 2) := by decide +kernel
theorem dX12_stood_24 : decode cX12_stood 24 = .ok (.iload 5, 2) := by decide +kernel
theorem dX12_stood_26 : decode cX12_stood 26 = .ok (.bipush 99, 2) := by decide +kernel
theorem dX12_stood_28 : decode cX12_stood 28 = .ok (.if_icmp .gt 37, 3) := by decide +kernel
theorem dX12_stood_65 : decode cX12_stood 65 = .ok (.iload_n 1, 1) := by decide +kernel
theorem dX12_stood_66 : decode cX12_stood 66 = .ok (.ifCond .ne 10, 3) := by decide +kernel
theorem dX12_stood_76 : decode cX12_stood 76 = .ok (.iload_n 1, 1) := by decide +kernel
theorem dX12_stood_77 : decode cX12_stood 77 = .ok (.iconst 1, 1) := by decide +kernel
theorem dX12_stood_78 : decode cX12_stood 78 = .ok (.if_icmp .ne 7, 3) := by decide +kernel
theorem dX12_stood_85 : decode cX12_stood 85 = .ok (.iload 4, 2) := by decide +kernel
theorem dX12_stood_87 : decode cX12_stood 87 = .ok (.ireturn, 1) := by decide +kernel
theorem dX12_stood_81 : decode cX12_stood 81 = .ok (.iload_n 3, 1) := by decide +kernel
theorem dX12_stood_82 : decode cX12_stood 82 = .ok (.goto 5, 3) := by decide +kernel
theorem dX12_stood_69 : decode cX12_stood 69 = .ok (.aload_n 0, 1) := by decide +kernel
theorem dX12_stood_70 : decode cX12_stood 70 = .ok (.getfield 565, 3) := by decide +kernel
theorem dX12_stood_73 : decode cX12_stood 73 = .ok (.goto 14, 3) := by decide +kernel
theorem dX12_stood_31 : decode cX12_stood 31 = .ok (.aload_n 0, 1) := by decide +kernel
theorem dX12_stood_32 : decode cX12_stood 32 = .ok (.getfield 145, 3) := by decide +kernel
theorem dX12_stood_35 : decode cX12_stood 35 = .ok (.iload 5, 2) := by decide +kernel
theorem dX12_stood_37 : decode cX12_stood 37 = .ok (.baload, 1) := by decide +kernel
theorem dX12_stood_38 : decode cX12_stood 38 = .ok (.ifCond .ne 6, 3) := by decide +kernel
theorem dX12_stood_44 : decode cX12_stood 44 = .ok (.iload_n 3, 1) := by decide +kernel
theorem dX12_stood_45 : decode cX12_stood 45 = .ok (.ifCond .ge 8, 3) := by decide +kernel
theorem dX12_stood_53 : decode cX12_stood 53 = .ok (.iload_n 3, 1) := by decide +kernel
theorem dX12_stood_54 : decode cX12_stood 54 = .ok (.istore_n 3, 1) := by decide +kernel
theorem dX12_stood_55 : decode cX12_stood 55 = .ok (.iload 5, 2) := by decide +kernel
theorem dX12_stood_57 : decode cX12_stood 57 = .ok (.istore 4, 2) := by decide +kernel
theorem dX12_stood_59 : decode cX12_stood 59 = .ok (.iinc 5 1, 3) := by decide +kernel
theorem dX12_stood_62 : decode cX12_stood 62 = .ok (.goto (-38), 3) := by decide +kernel
theorem dX12_stood_48 : decode cX12_stood 48 = .ok (.iload 5, 2) := by decide +kernel
theorem dX12_stood_50 : decode cX12_stood 50 = .ok (.goto 4, 3) := by decide +kernel
theorem dX12_stood_9 : decode cX12_stood 9 = .ok (.iconst (-1), 1) := by decide +kernel
theorem dX12_stood_10 : decode cX12_stood 10 = .ok (.ireturn, 1) := by decide +kernel
set_option maxHeartbeats 400000 in
set_option maxRecDepth 100000 in
theorem m_stood (l : Launch) (D : va_G) (cy : Nat → ClassId) (b0 : Nat) (x0 : Value) (x1 : Value) (x2 : Value) (x3 : Value) (x4 : Value) (x5 : Value) (x6 : Value) (x7 : Value) (x8 : Value) (x9 : Value) (x10 : Value) (x11 : Value) (x12 : Value) (x13 : Value) (x14 : Value) (x15 : Value) (x16 : Value) (x17 : Value) (x18 : Value) (x19 : Value) (x20 : Value) (x21 : Value) (x22 : Value) (x23 : Value) (x24 : Value) (x25 : Value) (x26 : Value) (x27 : Value) (x28 : Value) (x29 : Value) (x30 : Value) (x31 : Value) (x32 : Value) (x33 : Value) (x34 : Value) (x35 : Value) (x36 : Value) (x37 : Value) (x38 : Value) (x39 : Value) (x40 : Value) (x41 : Value) (x42 : Value) (x43 : Value) (x44 : Value) (x45 : Value) (x46 : Value) (x47 : Value) (x48 : Value) (x49 : Value) (x50 : Value) (x51 : Value) (x52 : Value) (x53 : Value) (x54 : Value) (x55 : Value) (x56 : Value) (x57 : Value) (x58 : Value) (x59 : Value) (x60 : Value) (x61 : Value) (x62 : Value) (x63 : Value) (x64 : Value) (x65 : Value) (x66 : Value) (x67 : Value) (x68 : Value) (x69 : Value) (x70 : Value) (x71 : Value) (x72 : Value) (x73 : Value) (x74 : Value) (x75 : Value) (x76 : Value) (x77 : Value) (x78 : Value) (x79 : Value) (x80 : Value) (x81 : Value) (x83 : Value) (x86 : Value) (x87 : Value) (x88 : Value) (b_stands : Nat) (smv : Int32) (fs : Nat → Int32) (ka : Int32) (kb : Int32)  : XMi l D (tyL cy) E0 yX12_stood cX12_stood 6 (some .int) (rmk 3 0 0) [.ref b0, .int ka, .int kb] [(b0, .inr (12, [x0, x1, x2, x3, x4, x5, x6, x7, x8, x9, x10, x11, x12, x13, x14, x15, x16, x17, x18, x19, x20, x21, x22, x23, x24, x25, x26, x27, x28, x29, x30, x31, x32, x33, x34, x35, x36, x37, x38, x39, x40, x41, x42, x43, x44, x45, x46, x47, x48, x49, x50, x51, x52, x53, x54, x55, x56, x57, x58, x59, x60, x61, x62, x63, x64, x65, x66, x67, x68, x69, x70, x71, x72, x73, x74, x75, x76, x77, x78, x79, x80, x81, .int 0, x83, .ref b_stands, .int smv, x86, x87, x88])), (b_stands, .inl (cy 3, 100, .inl (fs)))] (fun (r : Int32) (_ : Unit) => r = if ka.toInt = 0 then 100 else if ka.toInt = 1 then 0 else if ka.toInt = 2 then 99 else -1) (fun (_ : Unit) => []) := by
  refine XMi.start (by decide) (Nat.le_of_ble_eq_true rfl) ?_
  intro p e s m below meth c args A ls Q hat hQ
  obtain ⟨hx, hb, hr, hml, hown, hg, hlocks, hin, hK, hA, hP, hD, hS, hE, hl⟩ := hat
  have hown : s.vm.findClass RX12 = some m.cls := hown
  have hl : lv_has ls 6 [(0, .ref b0), (1, .int ka), (2, .int kb)] := hl
  refine lv_iload_n hx hb dX12_stood_0 rfl (lv_at hl 1 rfl) ?_
  refine lv_iconst (v := 0) hx hb dX12_stood_1 (by decide) ?_
  refine lv_iconst (v := 2) hx hb dX12_stood_2 (by decide) ?_
  refine x_callSi (wr := [(b0, .inr (12, [x0, x1, x2, x3, x4, x5, x6, x7, x8, x9, x10, x11, x12, x13, x14, x15, x16, x17, x18, x19, x20, x21, x22, x23, x24, x25, x26, x27, x28, x29, x30, x31, x32, x33, x34, x35, x36, x37, x38, x39, x40, x41, x42, x43, x44, x45, x46, x47, x48, x49, x50, x51, x52, x53, x54, x55, x56, x57, x58, x59, x60, x61, x62, x63, x64, x65, x66, x67, x68, x69, x70, x71, x72, x73, x74, x75, x76, x77, x78, x79, x80, x81, .int 0, x83, .ref b_stands, .int smv, x86, x87, x88])), (b_stands, .inl (cy 3, 100, .inl (fs)))]) (rest := []) ⟨hx, hb, hml, hown, hg, hl.1⟩ k_X12_436 (m_isIn l D cy ka 0 2) E0_blind hK hP hD hS hA [] [0, 1] ⟨rfl, rfl, by decide, by decide, by decide⟩ (fun _ _ _ => trivial) dX12_stood_3 rfl rfl (Nat.le_of_ble_eq_true rfl) ⟨Nat.le_of_ble_eq_true rfl, Nat.le_of_ble_eq_true rfl⟩ ⟨Nat.le_of_ble_eq_true rfl, Nat.le_of_ble_eq_true rfl⟩ (fun r1 u1 H locs hw1 hP hD hS => ?_)
  have hP : va_P D vwCl [(b0, .inr (12, [x0, x1, x2, x3, x4, x5, x6, x7, x8, x9, x10, x11, x12, x13, x14, x15, x16, x17, x18, x19, x20, x21, x22, x23, x24, x25, x26, x27, x28, x29, x30, x31, x32, x33, x34, x35, x36, x37, x38, x39, x40, x41, x42, x43, x44, x45, x46, x47, x48, x49, x50, x51, x52, x53, x54, x55, x56, x57, x58, x59, x60, x61, x62, x63, x64, x65, x66, x67, x68, x69, x70, x71, x72, x73, x74, x75, x76, x77, x78, x79, x80, x81, .int 0, x83, .ref b_stands, .int smv, x86, x87, x88])), (b_stands, .inl (cy 3, 100, .inl (fs)))] H := hP
  have hD : va_D A [(b0, .inr (12, [x0, x1, x2, x3, x4, x5, x6, x7, x8, x9, x10, x11, x12, x13, x14, x15, x16, x17, x18, x19, x20, x21, x22, x23, x24, x25, x26, x27, x28, x29, x30, x31, x32, x33, x34, x35, x36, x37, x38, x39, x40, x41, x42, x43, x44, x45, x46, x47, x48, x49, x50, x51, x52, x53, x54, x55, x56, x57, x58, x59, x60, x61, x62, x63, x64, x65, x66, x67, x68, x69, x70, x71, x72, x73, x74, x75, x76, x77, x78, x79, x80, x81, .int 0, x83, .ref b_stands, .int smv, x86, x87, x88])), (b_stands, .inl (cy 3, 100, .inl (fs)))] := hD
  refine W.widen (k := 0) (n := 0) (Nat.le_of_ble_eq_true rfl) (Nat.le_of_ble_eq_true rfl) ?_
  have hw1 : (r1 = 1 ∧ (0 : Int32).toInt ≤ ka.toInt ∧ ka.toInt ≤ (2 : Int32).toInt) ∨ (r1 = 0 ∧ ¬ ((0 : Int32).toInt ≤ ka.toInt ∧ ka.toInt ≤ (2 : Int32).toInt)) := hw1
  refine lv_if_ne (tgt := 11) hx hb dX12_stood_6 (by decide) (fun c_6 => ?_) (fun c_6 => ?_)
  · have qi6 := hw1.elim (fun h => h.2) (fun h => absurd h.1 c_6)
    refine lv_aload_n hx hb dX12_stood_11 rfl (lv_at hl 0 rfl) ?_
    refine lv_iload_n hx hb dX12_stood_12 rfl (lv_at hl 2 rfl) ?_
    refine x_callVv (q := (RX12, TX12, 89)) (ci := 12) (q0 := 0) (wr := []) (rest := []) ⟨hx, hb, hml, hown, hg, hl.1⟩ k_X12_571 (m_layStands l D cy b0 x0 x1 x2 x3 x4 x5 x6 x7 x8 x9 x10 x11 x12 x13 x14 x15 x16 x17 x18 x19 x20 x21 x22 x23 x24 x25 x26 x27 x28 x29 x30 x31 x32 x33 x34 x35 x36 x37 x38 x39 x40 x41 x42 x43 x44 x45 x46 x47 x48 x49 x50 x51 x52 x53 x54 x55 x56 x57 x58 x59 x60 x61 x62 x63 x64 x65 x66 x67 x68 x69 x70 x71 x72 x73 x74 x75 x76 x77 x78 x79 x80 x81 x83 x86 x87 x88 b_stands smv fs kb) E0_blind hK hP hD hS hA [0, 1] [] ⟨rfl, rfl, by decide, by decide, by decide⟩ rfl rfl (fun _ _ _ => trivial) dX12_stood_13 rfl rfl (Nat.le_of_ble_eq_true rfl) ⟨Nat.le_of_ble_eq_true rfl, Nat.le_of_ble_eq_true rfl⟩ ⟨Nat.le_of_ble_eq_true rfl, Nat.le_of_ble_eq_true rfl⟩ (fun u2 H locs hw2 hP hD hS => ?_)
    obtain ⟨fs2_3, rfl⟩ : ∃ z, z = u2 := ⟨_, rfl⟩
    have hP : va_P D vwCl [(b0, .inr (12, [x0, x1, x2, x3, x4, x5, x6, x7, x8, x9, x10, x11, x12, x13, x14, x15, x16, x17, x18, x19, x20, x21, x22, x23, x24, x25, x26, x27, x28, x29, x30, x31, x32, x33, x34, x35, x36, x37, x38, x39, x40, x41, x42, x43, x44, x45, x46, x47, x48, x49, x50, x51, x52, x53, x54, x55, x56, x57, x58, x59, x60, x61, x62, x63, x64, x65, x66, x67, x68, x69, x70, x71, x72, x73, x74, x75, x76, x77, x78, x79, x80, x81, .int 0, x83, .ref b_stands, .int 100, x86, x87, x88])), (b_stands, .inl (cy 3, 100, .inl (fs2_3)))] H := hP
    have hD : va_D A [(b0, .inr (12, [x0, x1, x2, x3, x4, x5, x6, x7, x8, x9, x10, x11, x12, x13, x14, x15, x16, x17, x18, x19, x20, x21, x22, x23, x24, x25, x26, x27, x28, x29, x30, x31, x32, x33, x34, x35, x36, x37, x38, x39, x40, x41, x42, x43, x44, x45, x46, x47, x48, x49, x50, x51, x52, x53, x54, x55, x56, x57, x58, x59, x60, x61, x62, x63, x64, x65, x66, x67, x68, x69, x70, x71, x72, x73, x74, x75, x76, x77, x78, x79, x80, x81, .int 0, x83, .ref b_stands, .int 100, x86, x87, x88])), (b_stands, .inl (cy 3, 100, .inl (fs2_3)))] := hD
    refine W.widen (k := 0) (n := 0) (Nat.le_of_ble_eq_true rfl) (Nat.le_of_ble_eq_true rfl) ?_
    have hw2 : ∀ j : Nat, j < 100 → fs2_3 j = 1 := hw2
    refine lv_iconst (v := -1) hx hb dX12_stood_16 (by decide) ?_
    refine lv_istore_n (lv' := [(3, .int (-1)), (0, .ref b0), (1, .int ka), (2, .int kb)]) hx hb dX12_stood_17 rfl hl (by decide) rfl (fun ls hl => ?_)
    refine lv_iconst (v := -1) hx hb dX12_stood_18 (by decide) ?_
    refine lv_istore (lv' := [(4, .int (-1)), (3, .int (-1)), (0, .ref b0), (1, .int ka), (2, .int kb)]) hx hb dX12_stood_19 hl (by decide) rfl (fun ls hl => ?_)
    refine lv_iconst (v := 0) hx hb dX12_stood_21 (by decide) ?_
    refine lv_istore (lv' := [(5, .int 0), (4, .int (-1)), (3, .int (-1)), (0, .ref b0), (1, .int ka), (2, .int kb)]) hx hb dX12_stood_22 hl (by decide) rfl (fun ls hl => ?_)
    have loop4 : ∀ (n i4 : Nat), i4 ≤ 100 → 101 ≤ i4 + n → ∀ (fi : Int32), ∀ (la : Int32), ((i4 = 0 → fi = -1 ∧ la = -1) ∧ (0 < i4 → fi = 0 ∧ la = nI (i4 - 1))) → ∀ (H : Heap) (locs : List Loc), va_P D vwCl [(b0, .inr (12, [x0, x1, x2, x3, x4, x5, x6, x7, x8, x9, x10, x11, x12, x13, x14, x15, x16, x17, x18, x19, x20, x21, x22, x23, x24, x25, x26, x27, x28, x29, x30, x31, x32, x33, x34, x35, x36, x37, x38, x39, x40, x41, x42, x43, x44, x45, x46, x47, x48, x49, x50, x51, x52, x53, x54, x55, x56, x57, x58, x59, x60, x61, x62, x63, x64, x65, x66, x67, x68, x69, x70, x71, x72, x73, x74, x75, x76, x77, x78, x79, x80, x81, .int 0, x83, .ref b_stands, .int 100, x86, x87, x88])), (b_stands, .inl (cy 3, 100, .inl (fs2_3)))] H → va_D A [(b0, .inr (12, [x0, x1, x2, x3, x4, x5, x6, x7, x8, x9, x10, x11, x12, x13, x14, x15, x16, x17, x18, x19, x20, x21, x22, x23, x24, x25, x26, x27, x28, x29, x30, x31, x32, x33, x34, x35, x36, x37, x38, x39, x40, x41, x42, x43, x44, x45, x46, x47, x48, x49, x50, x51, x52, x53, x54, x55, x56, x57, x58, x59, x60, x61, x62, x63, x64, x65, x66, x67, x68, x69, x70, x71, x72, x73, x74, x75, x76, x77, x78, x79, x80, x81, .int 0, x83, .ref b_stands, .int 100, x86, x87, x88])), (b_stands, .inl (cy 3, 100, .inl (fs2_3)))] → va_S A s.heap H locs → ∀ ls : Array Slot, lv_has ls 6 [(5, .int (nI i4)), (4, .int la), (3, .int fi), (0, .ref b0), (1, .int ka), (2, .int kb)] → W p l e (rmk 3 0 0) s m args below meth c H locs 0 0 Q (F0 m 24 ls []) := by
      intro n
      induction n with
      | zero => intro i4 h1 h2; exact absurd h2 (by omega)
      | succ n ih =>
        intro i4 hi4 hn4 fi la hv4 H locs hP hD hS ls hl
        have ih4 := ih
        refine lv_iload hx hb dX12_stood_24 (lv_at hl 0 rfl) ?_
        refine lv_bipush (v := 99) hx hb dX12_stood_26 (by decide) ?_
        refine lv_icmp_gt (tgt := 65) hx hb dX12_stood_28 (by decide) (fun c4 => ?_) (fun c4 => ?_)
        · have hend4 : i4 = 100 := lp_end2 (N := 100) (by decide) hi4 (by decide) c4
          subst hend4
          refine lv_iload_n hx hb dX12_stood_65 rfl (lv_at hl 4 rfl) ?_
          refine lv_if_ne (tgt := 76) hx hb dX12_stood_66 (by decide) (fun c_66 => ?_) (fun c_66 => ?_)
          · refine lv_iload_n hx hb dX12_stood_76 rfl (lv_at hl 4 rfl) ?_
            refine lv_iconst (v := 1) hx hb dX12_stood_77 (by decide) ?_
            refine lv_icmp_ne (tgt := 85) hx hb dX12_stood_78 (by decide) (fun c_78 => ?_) (fun c_78 => ?_)
            · refine lv_iload hx hb dX12_stood_85 (lv_at hl 1 rfl) ?_
              have qc_66 : ¬ (ka : Int32).toInt = (0 : Int32).toInt := fun h => c_66 ((fa_eq _ _).mpr h)
              have qc_78 : ¬ (ka : Int32).toInt = (1 : Int32).toInt := fun h => c_78 ((fa_eq _ _).mpr h)
              have z0 : (0 : Int32).toInt = 0 := by decide
              have z1 : (1 : Int32).toInt = 1 := by decide
              have z2 : (2 : Int32).toInt = 2 := by decide
              exact x_iret hQ hx hb hr hlocks hK hP hD hS dX12_stood_87 () (by rw [if_neg (by omega), if_neg (by omega), if_pos (by omega)]; exact (hv4.2 (by omega)).2) [] (by decide) rfl (Nat.le_of_ble_eq_true rfl) (Nat.le_of_ble_eq_true rfl)
            · refine lv_iload_n hx hb dX12_stood_81 rfl (lv_at hl 2 rfl) ?_
              refine lv_goto (tgt := 87) hx hb dX12_stood_82 (by decide) ?_
              have qc_66 : ¬ (ka : Int32).toInt = (0 : Int32).toInt := fun h => c_66 ((fa_eq _ _).mpr h)
              have qc_78 : (ka : Int32).toInt = (1 : Int32).toInt := (fa_eq _ _).mp c_78
              have z0 : (0 : Int32).toInt = 0 := by decide
              have z1 : (1 : Int32).toInt = 1 := by decide
              have z2 : (2 : Int32).toInt = 2 := by decide
              exact x_iret hQ hx hb hr hlocks hK hP hD hS dX12_stood_87 () (by rw [if_neg (by omega), if_pos (by omega)]; exact (hv4.2 (by omega)).1) [] (by decide) rfl (Nat.le_of_ble_eq_true rfl) (Nat.le_of_ble_eq_true rfl)
          · refine lv_aload_n hx hb dX12_stood_69 rfl (lv_at hl 3 rfl) ?_
            refine va_get (D := D) (ci := 12) (v := .int 100) (C := RX12) (T := TX12) (N := 89) hx hb hg i_X12 hown hK hP 0 rfl rfl 85 (by decide) (hg _ m_1498) (fun _ h9 => h9) rfl dX12_stood_70 ?_
            refine lv_goto (tgt := 87) hx hb dX12_stood_73 (by decide) ?_
            have qc_66 : (ka : Int32).toInt = (0 : Int32).toInt := (fa_eq _ _).mp c_66
            have z0 : (0 : Int32).toInt = 0 := by decide
            have z1 : (1 : Int32).toInt = 1 := by decide
            have z2 : (2 : Int32).toInt = 2 := by decide
            exact x_iret hQ hx hb hr hlocks hK hP hD hS dX12_stood_87 () ((if_pos (by omega)).symm) [] (by decide) rfl (Nat.le_of_ble_eq_true rfl) (Nat.le_of_ble_eq_true rfl)
        · have hlt4 : i4 < 100 := lp_go2 (by decide) hi4 (by decide) c4
          refine lv_aload_n hx hb dX12_stood_31 rfl (lv_at hl 3 rfl) ?_
          refine va_get (D := D) (ci := 12) (v := .ref b_stands) (C := RX12) (T := TX12) (N := 89) hx hb hg i_X12 hown hK hP 0 rfl rfl 84 (by decide) (hg _ m_1497) (fun _ h9 => h9) rfl dX12_stood_32 ?_
          refine lv_iload hx hb dX12_stood_35 (lv_at hl 0 rfl) ?_
          refine va_zald hx hb hK hP 1 3 rfl rfl (vp_in_nI (by omega) (by decide)) dX12_stood_37 ?_
          refine lv_topi (fun x_5 ex_5 => ?_)
          have h38 : x_5 = 1 := by rw [ex_5, nI_clamp (by omega)]; exact hw2 i4 (by omega)
          refine lv_if_ne (tgt := 44) hx hb dX12_stood_38 (by decide) (fun _ => ?_) (fun h => absurd h (by rw [h38]; decide))
          refine lv_iload_n hx hb dX12_stood_44 rfl (lv_at hl 2 rfl) ?_
          refine lv_if_ge (tgt := 53) hx hb dX12_stood_45 (by decide) (fun c_45 => ?_) (fun c_45 => ?_)
          · have hpos : 0 < i4 := by rcases Nat.eq_zero_or_pos i4 with h | h; exact absurd c_45 (by rw [(hv4.1 h).1]; decide); exact h
            refine lv_iload_n hx hb dX12_stood_53 rfl (lv_at hl 2 rfl) ?_
            refine lv_istore_n (lv' := [(3, .int fi), (5, .int (nI i4)), (4, .int la), (0, .ref b0), (1, .int ka), (2, .int kb)]) hx hb dX12_stood_54 rfl hl (by decide) rfl (fun ls hl => ?_)
            refine lv_iload hx hb dX12_stood_55 (lv_at hl 1 rfl) ?_
            refine lv_istore (lv' := [(4, .int (nI i4)), (3, .int fi), (5, .int (nI i4)), (0, .ref b0), (1, .int ka), (2, .int kb)]) hx hb dX12_stood_57 hl (by decide) rfl (fun ls hl => ?_)
            refine lv_iinc (v := nI (i4 + 1)) (lv' := [(5, .int (nI (i4 + 1))), (4, .int (nI i4)), (3, .int fi), (0, .ref b0), (1, .int ka), (2, .int kb)]) hx hb dX12_stood_59 hl (k := 2) rfl (lp_inc i4) (by decide) rfl (fun ls hl => ?_)
            refine lv_goto (tgt := 24) hx hb dX12_stood_62 (by decide) ?_
            exact ih4 (i4 + 1) (by omega) (by omega) fi (nI i4) ⟨fun h => absurd h (by omega), fun _ => ⟨(hv4.2 hpos).1, by rw [Nat.add_sub_cancel]⟩⟩ _ _ (hP.sub [0, 1] rfl) (hD.sub [0, 1] (by decide) rfl) hS ls (lv_sub hl [0, 1, 2, 3, 4, 5] rfl)
          · have hzer : i4 = 0 := by rcases Nat.eq_zero_or_pos i4 with h | h; exact h; exact absurd (by rw [(hv4.2 h).1]; decide) c_45
            refine lv_iload hx hb dX12_stood_48 (lv_at hl 0 rfl) ?_
            refine lv_goto (tgt := 54) hx hb dX12_stood_50 (by decide) ?_
            refine lv_istore_n (lv' := [(3, .int (nI i4)), (5, .int (nI i4)), (4, .int la), (0, .ref b0), (1, .int ka), (2, .int kb)]) hx hb dX12_stood_54 rfl hl (by decide) rfl (fun ls hl => ?_)
            refine lv_iload hx hb dX12_stood_55 (lv_at hl 1 rfl) ?_
            refine lv_istore (lv' := [(4, .int (nI i4)), (3, .int (nI i4)), (5, .int (nI i4)), (0, .ref b0), (1, .int ka), (2, .int kb)]) hx hb dX12_stood_57 hl (by decide) rfl (fun ls hl => ?_)
            refine lv_iinc (v := nI (i4 + 1)) (lv' := [(5, .int (nI (i4 + 1))), (4, .int (nI i4)), (3, .int (nI i4)), (0, .ref b0), (1, .int ka), (2, .int kb)]) hx hb dX12_stood_59 hl (k := 2) rfl (lp_inc i4) (by decide) rfl (fun ls hl => ?_)
            refine lv_goto (tgt := 24) hx hb dX12_stood_62 (by decide) ?_
            exact ih4 (i4 + 1) (by omega) (by omega) (nI i4) (nI i4) ⟨fun h => absurd h (by omega), fun _ => ⟨by rw [hzer]; rfl, by rw [Nat.add_sub_cancel]⟩⟩ _ _ (hP.sub [0, 1] rfl) (hD.sub [0, 1] (by decide) rfl) hS ls (lv_sub hl [0, 1, 2, 3, 4, 5] rfl)
    exact loop4 101 0 (by omega) (by omega) (-1) (-1) ⟨fun _ => ⟨rfl, rfl⟩, fun h => absurd h (by omega)⟩ _ _ (hP.sub [0, 1] rfl) (hD.sub [0, 1] (by decide) rfl) hS ls (lv_sub hl [0, 1, 2, 3, 4, 5] rfl)
  · have qi6 := hw1.elim (fun h => absurd (c_6.symm.trans h.1) (by decide)) (fun h => h.2)
    refine lv_iconst (v := -1) hx hb dX12_stood_9 (by decide) ?_
    have z0 : (0 : Int32).toInt = 0 := by decide
    have z1 : (1 : Int32).toInt = 1 := by decide
    have z2 : (2 : Int32).toInt = 2 := by decide
    exact x_iret hQ hx hb hr hlocks hK hP hD hS dX12_stood_10 () (by rw [if_neg (by omega), if_neg (by omega), if_neg (by omega)]) [] (by decide) rfl (Nat.le_of_ble_eq_true rfl) (Nat.le_of_ble_eq_true rfl)
theorem dX12_image_0 : decode cX12_image 0 = .ok (.iload_n 1, 1) := by decide +kernel
theorem dX12_image_1 : decode cX12_image 1 = .ok (.invokestatic 577, 3) := by decide +kernel
theorem m_2145 : (Cond.methodLink RX12 577 yX12_isBox) ∈ gT := gm 2145 (by decide +kernel) (by decide +kernel)
theorem m_2146 : (Cond.static yX12_isBox) ∈ gT := gm 2146 (by decide +kernel) (by decide +kernel)
theorem m_2147 : (Cond.code yX12_isBox cX12_isBox 1 (some .boolean)) ∈ gT := gm 2147 (by decide +kernel) (by decide +kernel)
theorem k_X12_577 : xS RX12 577 yX12_isBox cX12_isBox 1 (some .boolean) 1 := ⟨⟨m_2145, m_2146, m_146, m_2147⟩, by decide, by decide, by decide +kernel⟩
theorem dX12_image_4 : decode cX12_image 4 = .ok (.ifCond .ne 5, 3) := by decide +kernel
theorem dX12_image_9 : decode cX12_image 9 = .ok (.aload_n 0, 1) := by decide +kernel
theorem dX12_image_10 : decode cX12_image 10 = .ok (.getfield 151, 3) := by decide +kernel
theorem dX12_image_13 : decode cX12_image 13 = .ok (.iload_n 1, 1) := by decide +kernel
theorem dX12_image_14 : decode cX12_image 14 = .ok (.iconst 1, 1) := by decide +kernel
theorem dX12_image_15 : decode cX12_image 15 = .ok (.bastore, 1) := by decide +kernel
theorem dX12_image_16 : decode cX12_image 16 = .ok (.iconst 0, 1) := by decide +kernel
theorem dX12_image_17 : decode cX12_image 17 = .ok (.istore_n 2, 1) := by decide +kernel
theorem dX12_image_18 : decode cX12_image 18 = .ok (.iload_n 2, 1) := by decide +kernel
theorem dX12_image_19 : decode cX12_image 19 = .ok (.bipush 41, 2) := by decide +kernel
theorem dX12_image_21 : decode cX12_image 21 = .ok (.if_icmp .ge 26, 3) := by decide +kernel
theorem dX12_image_47 : decode cX12_image 47 = .ok (.aload_n 0, 1) := by decide +kernel
theorem dX12_image_48 : decode cX12_image 48 = .ok (.getfield 97, 3) := by decide +kernel
theorem dX12_image_51 : decode cX12_image 51 = .ok (.bipush 28, 2) := by decide +kernel
theorem dX12_image_53 : decode cX12_image 53 = .ok (.iaload, 1) := by decide +kernel
theorem dX12_image_54 : decode cX12_image 54 = .ok (.ireturn, 1) := by decide +kernel
theorem dX12_image_24 : decode cX12_image 24 = .ok (.aload_n 0, 1) := by decide +kernel
theorem dX12_image_25 : decode cX12_image 25 = .ok (.getfield 154, 3) := by decide +kernel
theorem m_1501 : (Cond.fieldLink RX12 154 "CliffJudgesModel" "boxes" "[I") ∈ gT := gm 1501 (by decide +kernel) (by decide +kernel)
theorem dX12_image_28 : decode cX12_image 28 = .ok (.bipush 42, 2) := by decide +kernel
theorem dX12_image_30 : decode cX12_image 30 = .ok (.iload_n 1, 1) := by decide +kernel
theorem dX12_image_31 : decode cX12_image 31 = .ok (.imul, 1) := by decide +kernel
theorem dX12_image_32 : decode cX12_image 32 = .ok (.iload_n 2, 1) := by decide +kernel
theorem dX12_image_33 : decode cX12_image 33 = .ok (.iadd, 1) := by decide +kernel
theorem dX12_image_34 : decode cX12_image 34 = .ok (.aload_n 0, 1) := by decide +kernel
theorem dX12_image_35 : decode cX12_image 35 = .ok (.getfield 97, 3) := by decide +kernel
theorem dX12_image_38 : decode cX12_image 38 = .ok (.iload_n 2, 1) := by decide +kernel
theorem dX12_image_39 : decode cX12_image 39 = .ok (.iaload, 1) := by decide +kernel
theorem dX12_image_40 : decode cX12_image 40 = .ok (.iastore, 1) := by decide +kernel
theorem dX12_image_41 : decode cX12_image 41 = .ok (.iinc 2 1, 3) := by decide +kernel
theorem dX12_image_44 : decode cX12_image 44 = .ok (.goto (-26), 3) := by decide +kernel
theorem dX12_image_7 : decode cX12_image 7 = .ok (.iconst (-1), 1) := by decide +kernel
theorem dX12_image_8 : decode cX12_image 8 = .ok (.ireturn, 1) := by decide +kernel
set_option maxHeartbeats 400000 in
set_option maxRecDepth 100000 in
theorem m_image (l : Launch) (D : va_G) (cy : Nat → ClassId) (b0 : Nat) (x0 : Value) (x1 : Value) (x2 : Value) (x3 : Value) (x4 : Value) (x5 : Value) (x6 : Value) (x7 : Value) (x8 : Value) (x9 : Value) (x10 : Value) (x11 : Value) (x12 : Value) (x13 : Value) (x14 : Value) (x15 : Value) (x16 : Value) (x17 : Value) (x18 : Value) (x19 : Value) (x20 : Value) (x21 : Value) (x22 : Value) (x23 : Value) (x24 : Value) (x25 : Value) (x26 : Value) (x27 : Value) (x28 : Value) (x29 : Value) (x30 : Value) (x31 : Value) (x32 : Value) (x33 : Value) (x34 : Value) (x35 : Value) (x36 : Value) (x37 : Value) (x38 : Value) (x39 : Value) (x40 : Value) (x41 : Value) (x42 : Value) (x43 : Value) (x44 : Value) (x45 : Value) (x46 : Value) (x47 : Value) (x48 : Value) (x49 : Value) (x50 : Value) (x51 : Value) (x52 : Value) (x53 : Value) (x54 : Value) (x55 : Value) (x56 : Value) (x58 : Value) (x59 : Value) (x60 : Value) (x61 : Value) (x62 : Value) (x63 : Value) (x64 : Value) (x65 : Value) (x66 : Value) (x67 : Value) (x68 : Value) (x69 : Value) (x70 : Value) (x71 : Value) (x72 : Value) (x73 : Value) (x74 : Value) (x75 : Value) (x76 : Value) (x77 : Value) (x78 : Value) (x79 : Value) (x80 : Value) (x81 : Value) (x82 : Value) (x83 : Value) (x84 : Value) (x85 : Value) (x86 : Value) (b_now : Nat) (b_boxes : Nat) (b_hasBox : Nat) (fb : Nat → Int32) (fh : Nat → Int32) (ka : Int32)  : XMi l D (tyL cy) E0 yX12_image cX12_image 3 (some .int) (rmk 3 0 0) [.ref b0, .int ka] [(b0, .inr (12, [x0, x1, x2, x3, x4, x5, x6, x7, x8, x9, x10, x11, x12, x13, x14, x15, x16, x17, x18, x19, x20, x21, x22, x23, x24, x25, x26, x27, x28, x29, x30, x31, x32, x33, x34, x35, x36, x37, x38, x39, x40, x41, x42, x43, x44, x45, x46, x47, x48, x49, x50, x51, x52, x53, x54, x55, x56, .ref b_now, x58, x59, x60, x61, x62, x63, x64, x65, x66, x67, x68, x69, x70, x71, x72, x73, x74, x75, x76, x77, x78, x79, x80, x81, x82, x83, x84, x85, x86, .ref b_hasBox, .ref b_boxes])), (b_now, .inl (cy 1, 42, .inl (fun _ => 0))), (b_boxes, .inl (cy 1, 126, .inl (fb))), (b_hasBox, .inl (cy 3, 3, .inl (fh)))] (fun (r : Int32) (_ : Unit) => r = if 0 ≤ ka.toInt ∧ ka.toInt < 3 then 0 else -1) (fun (_ : Unit) => []) := by
  refine XMi.start (by decide) (Nat.le_of_ble_eq_true rfl) ?_
  intro p e s m below meth c args A ls Q hat hQ
  obtain ⟨hx, hb, hr, hml, hown, hg, hlocks, hin, hK, hA, hP, hD, hS, hE, hl⟩ := hat
  have hown : s.vm.findClass RX12 = some m.cls := hown
  have hl : lv_has ls 3 [(0, .ref b0), (1, .int ka)] := hl
  refine lv_iload_n hx hb dX12_image_0 rfl (lv_at hl 1 rfl) ?_
  refine x_callSi (wr := [(b0, .inr (12, [x0, x1, x2, x3, x4, x5, x6, x7, x8, x9, x10, x11, x12, x13, x14, x15, x16, x17, x18, x19, x20, x21, x22, x23, x24, x25, x26, x27, x28, x29, x30, x31, x32, x33, x34, x35, x36, x37, x38, x39, x40, x41, x42, x43, x44, x45, x46, x47, x48, x49, x50, x51, x52, x53, x54, x55, x56, .ref b_now, x58, x59, x60, x61, x62, x63, x64, x65, x66, x67, x68, x69, x70, x71, x72, x73, x74, x75, x76, x77, x78, x79, x80, x81, x82, x83, x84, x85, x86, .ref b_hasBox, .ref b_boxes])), (b_now, .inl (cy 1, 42, .inl (fun _ => 0))), (b_boxes, .inl (cy 1, 126, .inl (fb))), (b_hasBox, .inl (cy 3, 3, .inl (fh)))]) (rest := []) ⟨hx, hb, hml, hown, hg, hl.1⟩ k_X12_577 (m_isBox l D cy ka) E0_blind hK hP hD hS hA [] [0, 1, 2, 3] ⟨rfl, rfl, by decide, by decide, by decide⟩ (fun _ _ _ => trivial) dX12_image_1 rfl rfl (Nat.le_of_ble_eq_true rfl) ⟨Nat.le_of_ble_eq_true rfl, Nat.le_of_ble_eq_true rfl⟩ ⟨Nat.le_of_ble_eq_true rfl, Nat.le_of_ble_eq_true rfl⟩ (fun r1 u1 H locs hw1 hP hD hS => ?_)
  have hP : va_P D vwCl [(b0, .inr (12, [x0, x1, x2, x3, x4, x5, x6, x7, x8, x9, x10, x11, x12, x13, x14, x15, x16, x17, x18, x19, x20, x21, x22, x23, x24, x25, x26, x27, x28, x29, x30, x31, x32, x33, x34, x35, x36, x37, x38, x39, x40, x41, x42, x43, x44, x45, x46, x47, x48, x49, x50, x51, x52, x53, x54, x55, x56, .ref b_now, x58, x59, x60, x61, x62, x63, x64, x65, x66, x67, x68, x69, x70, x71, x72, x73, x74, x75, x76, x77, x78, x79, x80, x81, x82, x83, x84, x85, x86, .ref b_hasBox, .ref b_boxes])), (b_now, .inl (cy 1, 42, .inl (fun _ => 0))), (b_boxes, .inl (cy 1, 126, .inl (fb))), (b_hasBox, .inl (cy 3, 3, .inl (fh)))] H := hP
  have hD : va_D A [(b0, .inr (12, [x0, x1, x2, x3, x4, x5, x6, x7, x8, x9, x10, x11, x12, x13, x14, x15, x16, x17, x18, x19, x20, x21, x22, x23, x24, x25, x26, x27, x28, x29, x30, x31, x32, x33, x34, x35, x36, x37, x38, x39, x40, x41, x42, x43, x44, x45, x46, x47, x48, x49, x50, x51, x52, x53, x54, x55, x56, .ref b_now, x58, x59, x60, x61, x62, x63, x64, x65, x66, x67, x68, x69, x70, x71, x72, x73, x74, x75, x76, x77, x78, x79, x80, x81, x82, x83, x84, x85, x86, .ref b_hasBox, .ref b_boxes])), (b_now, .inl (cy 1, 42, .inl (fun _ => 0))), (b_boxes, .inl (cy 1, 126, .inl (fb))), (b_hasBox, .inl (cy 3, 3, .inl (fh)))] := hD
  refine W.widen (k := 0) (n := 0) (Nat.le_of_ble_eq_true rfl) (Nat.le_of_ble_eq_true rfl) ?_
  have hw1 : (r1 = 0 ∧ ¬ (0 ≤ ka.toInt ∧ ka.toInt < 3)) ∨ (r1 = 1 ∧ (ka = 0 ∨ ka = 1 ∨ ka = 2)) := hw1
  refine lv_if_ne (tgt := 9) hx hb dX12_image_4 (by decide) (fun c_4 => ?_) (fun c_4 => ?_)
  · have hbx : ka = 0 ∨ ka = 1 ∨ ka = 2 := hw1.elim (fun h => absurd h.1 c_4) (fun h => h.2)
    clear hw1
    rcases hbx with rfl | rfl | rfl
    · refine lv_aload_n hx hb dX12_image_9 rfl (lv_at hl 0 rfl) ?_
      refine va_get (D := D) (ci := 12) (v := .ref b_hasBox) (C := RX12) (T := TX12) (N := 89) hx hb hg i_X12 hown hK hP 0 rfl rfl 87 (by decide) (hg _ m_1500) (fun _ h9 => h9) rfl dX12_image_10 ?_
      refine lv_iload_n hx hb dX12_image_13 rfl (lv_at hl 1 rfl) ?_
      refine lv_iconst (v := 1) hx hb dX12_image_14 (by decide) ?_
      refine va_zast hx hb hK hP hD hS 3 3 rfl rfl (by unfold vp_in; decide) dX12_image_15 (fun H locs hP hD hS => ?_)
      obtain ⟨g_2, eg_2⟩ : ∃ y, upd fh (0 : Int32).toNatClampNeg (vp_nar .boolean 1) = y := ⟨_, rfl⟩
      rw [eg_2] at hP hD
      have hP : va_P D vwCl [(b0, .inr (12, [x0, x1, x2, x3, x4, x5, x6, x7, x8, x9, x10, x11, x12, x13, x14, x15, x16, x17, x18, x19, x20, x21, x22, x23, x24, x25, x26, x27, x28, x29, x30, x31, x32, x33, x34, x35, x36, x37, x38, x39, x40, x41, x42, x43, x44, x45, x46, x47, x48, x49, x50, x51, x52, x53, x54, x55, x56, .ref b_now, x58, x59, x60, x61, x62, x63, x64, x65, x66, x67, x68, x69, x70, x71, x72, x73, x74, x75, x76, x77, x78, x79, x80, x81, x82, x83, x84, x85, x86, .ref b_hasBox, .ref b_boxes])), (b_now, .inl (cy 1, 42, .inl (fun _ => 0))), (b_boxes, .inl (cy 1, 126, .inl (fb))), (b_hasBox, .inl (cy 3, 3, .inl (g_2)))] H := hP
      have hD : va_D A [(b0, .inr (12, [x0, x1, x2, x3, x4, x5, x6, x7, x8, x9, x10, x11, x12, x13, x14, x15, x16, x17, x18, x19, x20, x21, x22, x23, x24, x25, x26, x27, x28, x29, x30, x31, x32, x33, x34, x35, x36, x37, x38, x39, x40, x41, x42, x43, x44, x45, x46, x47, x48, x49, x50, x51, x52, x53, x54, x55, x56, .ref b_now, x58, x59, x60, x61, x62, x63, x64, x65, x66, x67, x68, x69, x70, x71, x72, x73, x74, x75, x76, x77, x78, x79, x80, x81, x82, x83, x84, x85, x86, .ref b_hasBox, .ref b_boxes])), (b_now, .inl (cy 1, 42, .inl (fun _ => 0))), (b_boxes, .inl (cy 1, 126, .inl (fb))), (b_hasBox, .inl (cy 3, 3, .inl (g_2)))] := hD
      refine lv_iconst (v := 0) hx hb dX12_image_16 (by decide) ?_
      refine lv_istore_n (lv' := [(2, .int 0), (0, .ref b0), (1, .int 0)]) hx hb dX12_image_17 rfl hl (by decide) rfl (fun ls hl => ?_)
      have loop3 : ∀ (n i3 : Nat), i3 ≤ 41 → 42 ≤ i3 + n → ∀ (fq : Nat → Int32), ∀ (H : Heap) (locs : List Loc), va_P D vwCl [(b0, .inr (12, [x0, x1, x2, x3, x4, x5, x6, x7, x8, x9, x10, x11, x12, x13, x14, x15, x16, x17, x18, x19, x20, x21, x22, x23, x24, x25, x26, x27, x28, x29, x30, x31, x32, x33, x34, x35, x36, x37, x38, x39, x40, x41, x42, x43, x44, x45, x46, x47, x48, x49, x50, x51, x52, x53, x54, x55, x56, .ref b_now, x58, x59, x60, x61, x62, x63, x64, x65, x66, x67, x68, x69, x70, x71, x72, x73, x74, x75, x76, x77, x78, x79, x80, x81, x82, x83, x84, x85, x86, .ref b_hasBox, .ref b_boxes])), (b_now, .inl (cy 1, 42, .inl (fun _ => 0))), (b_boxes, .inl (cy 1, 126, .inl (fq))), (b_hasBox, .inl (cy 3, 3, .inl (g_2)))] H → va_D A [(b0, .inr (12, [x0, x1, x2, x3, x4, x5, x6, x7, x8, x9, x10, x11, x12, x13, x14, x15, x16, x17, x18, x19, x20, x21, x22, x23, x24, x25, x26, x27, x28, x29, x30, x31, x32, x33, x34, x35, x36, x37, x38, x39, x40, x41, x42, x43, x44, x45, x46, x47, x48, x49, x50, x51, x52, x53, x54, x55, x56, .ref b_now, x58, x59, x60, x61, x62, x63, x64, x65, x66, x67, x68, x69, x70, x71, x72, x73, x74, x75, x76, x77, x78, x79, x80, x81, x82, x83, x84, x85, x86, .ref b_hasBox, .ref b_boxes])), (b_now, .inl (cy 1, 42, .inl (fun _ => 0))), (b_boxes, .inl (cy 1, 126, .inl (fq))), (b_hasBox, .inl (cy 3, 3, .inl (g_2)))] → va_S A s.heap H locs → ∀ ls : Array Slot, lv_has ls 3 [(2, .int (nI i3)), (0, .ref b0), (1, .int 0)] → W p l e (rmk 3 0 0) s m args below meth c H locs 0 0 Q (F0 m 18 ls []) := by
        intro n
        induction n with
        | zero => intro i3 h1 h2; exact absurd h2 (by omega)
        | succ n ih =>
          intro i3 hi3 hn3 fq H locs hP hD hS ls hl
          have ih3 := ih
          refine lv_iload_n hx hb dX12_image_18 rfl (lv_at hl 0 rfl) ?_
          refine lv_bipush (v := 41) hx hb dX12_image_19 (by decide) ?_
          refine lv_icmp_ge (tgt := 47) hx hb dX12_image_21 (by decide) (fun c3 => ?_) (fun c3 => ?_)
          · have hend3 : i3 = 41 := lp_end (N := 41) (by decide) hi3 (by decide) c3
            subst hend3
            refine lv_aload_n hx hb dX12_image_47 rfl (lv_at hl 1 rfl) ?_
            refine va_get (D := D) (ci := 12) (v := .ref b_now) (C := RX12) (T := TX12) (N := 89) hx hb hg i_X12 hown hK hP 0 rfl rfl 57 (by decide) (hg _ m_1470) (fun _ h9 => h9) rfl dX12_image_48 ?_
            refine lv_bipush (v := 28) hx hb dX12_image_51 (by decide) ?_
            refine va_iald hx hb hK hP 1 1 rfl rfl (by unfold vp_in; decide) dX12_image_53 ?_
            refine lv_topi (fun y_4 hy_4 => ?_)
            obtain rfl : y_4 = 0 := hy_4.trans (by decide +kernel)
            exact x_iret hQ hx hb hr hlocks hK hP hD hS dX12_image_54 () (by decide) [] (by decide) rfl (Nat.le_of_ble_eq_true rfl) (Nat.le_of_ble_eq_true rfl)
          · have hlt3 : i3 < 41 := lp_go (by decide) hi3 (by decide) c3
            refine lv_aload_n hx hb dX12_image_24 rfl (lv_at hl 1 rfl) ?_
            refine va_get (D := D) (ci := 12) (v := .ref b_boxes) (C := RX12) (T := TX12) (N := 89) hx hb hg i_X12 hown hK hP 0 rfl rfl 88 (by decide) (hg _ m_1501) (fun _ h9 => h9) rfl dX12_image_25 ?_
            refine lv_bipush (v := 42) hx hb dX12_image_28 (by decide) ?_
            refine lv_iload_n hx hb dX12_image_30 rfl (lv_at hl 2 rfl) ?_
            refine lv_imul hx hb dX12_image_31 ?_
            refine lv_topi (fun y_5 hy_5 => ?_)
            obtain rfl : y_5 = 0 := hy_5.trans (by decide +kernel)
            refine lv_iload_n hx hb dX12_image_32 rfl (lv_at hl 0 rfl) ?_
            refine lv_iadd hx hb dX12_image_33 ?_
            refine lv_topi (fun y_6 hy_6 => ?_)
            obtain rfl : y_6 = nI (0 + i3) := hy_6.trans (nI_add _ _)
            refine lv_aload_n hx hb dX12_image_34 rfl (lv_at hl 1 rfl) ?_
            refine va_get (D := D) (ci := 12) (v := .ref b_now) (C := RX12) (T := TX12) (N := 89) hx hb hg i_X12 hown hK hP 0 rfl rfl 57 (by decide) (hg _ m_1470) (fun _ h9 => h9) rfl dX12_image_35 ?_
            refine lv_iload_n hx hb dX12_image_38 rfl (lv_at hl 0 rfl) ?_
            refine va_iald hx hb hK hP 1 1 rfl rfl (vp_in_nI (by omega) (by decide)) dX12_image_39 ?_
            refine lv_topi (fun y_7 hy_7 => ?_)
            obtain rfl : y_7 = 0 := hy_7.trans rfl
            refine va_iast hx hb hK hP hD hS 2 1 rfl rfl (vp_in_nI (by omega) (by decide)) dX12_image_40 (fun H locs hP hD hS => ?_)
            obtain ⟨g_8, eg_8⟩ : ∃ y, upd fq (nI (0 + i3) : Int32).toNatClampNeg 0 = y := ⟨_, rfl⟩
            rw [eg_8] at hP hD
            have hP : va_P D vwCl [(b0, .inr (12, [x0, x1, x2, x3, x4, x5, x6, x7, x8, x9, x10, x11, x12, x13, x14, x15, x16, x17, x18, x19, x20, x21, x22, x23, x24, x25, x26, x27, x28, x29, x30, x31, x32, x33, x34, x35, x36, x37, x38, x39, x40, x41, x42, x43, x44, x45, x46, x47, x48, x49, x50, x51, x52, x53, x54, x55, x56, .ref b_now, x58, x59, x60, x61, x62, x63, x64, x65, x66, x67, x68, x69, x70, x71, x72, x73, x74, x75, x76, x77, x78, x79, x80, x81, x82, x83, x84, x85, x86, .ref b_hasBox, .ref b_boxes])), (b_now, .inl (cy 1, 42, .inl (fun _ => 0))), (b_boxes, .inl (cy 1, 126, .inl (g_8))), (b_hasBox, .inl (cy 3, 3, .inl (g_2)))] H := hP
            have hD : va_D A [(b0, .inr (12, [x0, x1, x2, x3, x4, x5, x6, x7, x8, x9, x10, x11, x12, x13, x14, x15, x16, x17, x18, x19, x20, x21, x22, x23, x24, x25, x26, x27, x28, x29, x30, x31, x32, x33, x34, x35, x36, x37, x38, x39, x40, x41, x42, x43, x44, x45, x46, x47, x48, x49, x50, x51, x52, x53, x54, x55, x56, .ref b_now, x58, x59, x60, x61, x62, x63, x64, x65, x66, x67, x68, x69, x70, x71, x72, x73, x74, x75, x76, x77, x78, x79, x80, x81, x82, x83, x84, x85, x86, .ref b_hasBox, .ref b_boxes])), (b_now, .inl (cy 1, 42, .inl (fun _ => 0))), (b_boxes, .inl (cy 1, 126, .inl (g_8))), (b_hasBox, .inl (cy 3, 3, .inl (g_2)))] := hD
            refine lv_iinc (v := nI (i3 + 1)) (lv' := [(2, .int (nI (i3 + 1))), (0, .ref b0), (1, .int 0)]) hx hb dX12_image_41 hl (k := 0) rfl (lp_inc i3) (by decide) rfl (fun ls hl => ?_)
            refine lv_goto (tgt := 18) hx hb dX12_image_44 (by decide) ?_
            exact ih3 (i3 + 1) (by omega) (by omega) g_8 _ _ (hP.sub [0, 1, 2, 3] rfl) (hD.sub [0, 1, 2, 3] (by decide) rfl) hS ls (lv_sub hl [0, 1, 2] rfl)
      exact loop3 42 0 (by omega) (by omega) fb _ _ (hP.sub [0, 1, 2, 3] rfl) (hD.sub [0, 1, 2, 3] (by decide) rfl) hS ls (lv_sub hl [0, 1, 2] rfl)
    · refine lv_aload_n hx hb dX12_image_9 rfl (lv_at hl 0 rfl) ?_
      refine va_get (D := D) (ci := 12) (v := .ref b_hasBox) (C := RX12) (T := TX12) (N := 89) hx hb hg i_X12 hown hK hP 0 rfl rfl 87 (by decide) (hg _ m_1500) (fun _ h9 => h9) rfl dX12_image_10 ?_
      refine lv_iload_n hx hb dX12_image_13 rfl (lv_at hl 1 rfl) ?_
      refine lv_iconst (v := 1) hx hb dX12_image_14 (by decide) ?_
      refine va_zast hx hb hK hP hD hS 3 3 rfl rfl (by unfold vp_in; decide) dX12_image_15 (fun H locs hP hD hS => ?_)
      obtain ⟨g_9, eg_9⟩ : ∃ y, upd fh (1 : Int32).toNatClampNeg (vp_nar .boolean 1) = y := ⟨_, rfl⟩
      rw [eg_9] at hP hD
      have hP : va_P D vwCl [(b0, .inr (12, [x0, x1, x2, x3, x4, x5, x6, x7, x8, x9, x10, x11, x12, x13, x14, x15, x16, x17, x18, x19, x20, x21, x22, x23, x24, x25, x26, x27, x28, x29, x30, x31, x32, x33, x34, x35, x36, x37, x38, x39, x40, x41, x42, x43, x44, x45, x46, x47, x48, x49, x50, x51, x52, x53, x54, x55, x56, .ref b_now, x58, x59, x60, x61, x62, x63, x64, x65, x66, x67, x68, x69, x70, x71, x72, x73, x74, x75, x76, x77, x78, x79, x80, x81, x82, x83, x84, x85, x86, .ref b_hasBox, .ref b_boxes])), (b_now, .inl (cy 1, 42, .inl (fun _ => 0))), (b_boxes, .inl (cy 1, 126, .inl (fb))), (b_hasBox, .inl (cy 3, 3, .inl (g_9)))] H := hP
      have hD : va_D A [(b0, .inr (12, [x0, x1, x2, x3, x4, x5, x6, x7, x8, x9, x10, x11, x12, x13, x14, x15, x16, x17, x18, x19, x20, x21, x22, x23, x24, x25, x26, x27, x28, x29, x30, x31, x32, x33, x34, x35, x36, x37, x38, x39, x40, x41, x42, x43, x44, x45, x46, x47, x48, x49, x50, x51, x52, x53, x54, x55, x56, .ref b_now, x58, x59, x60, x61, x62, x63, x64, x65, x66, x67, x68, x69, x70, x71, x72, x73, x74, x75, x76, x77, x78, x79, x80, x81, x82, x83, x84, x85, x86, .ref b_hasBox, .ref b_boxes])), (b_now, .inl (cy 1, 42, .inl (fun _ => 0))), (b_boxes, .inl (cy 1, 126, .inl (fb))), (b_hasBox, .inl (cy 3, 3, .inl (g_9)))] := hD
      refine lv_iconst (v := 0) hx hb dX12_image_16 (by decide) ?_
      refine lv_istore_n (lv' := [(2, .int 0), (0, .ref b0), (1, .int 1)]) hx hb dX12_image_17 rfl hl (by decide) rfl (fun ls hl => ?_)
      have loop10 : ∀ (n i10 : Nat), i10 ≤ 41 → 42 ≤ i10 + n → ∀ (fq : Nat → Int32), ∀ (H : Heap) (locs : List Loc), va_P D vwCl [(b0, .inr (12, [x0, x1, x2, x3, x4, x5, x6, x7, x8, x9, x10, x11, x12, x13, x14, x15, x16, x17, x18, x19, x20, x21, x22, x23, x24, x25, x26, x27, x28, x29, x30, x31, x32, x33, x34, x35, x36, x37, x38, x39, x40, x41, x42, x43, x44, x45, x46, x47, x48, x49, x50, x51, x52, x53, x54, x55, x56, .ref b_now, x58, x59, x60, x61, x62, x63, x64, x65, x66, x67, x68, x69, x70, x71, x72, x73, x74, x75, x76, x77, x78, x79, x80, x81, x82, x83, x84, x85, x86, .ref b_hasBox, .ref b_boxes])), (b_now, .inl (cy 1, 42, .inl (fun _ => 0))), (b_boxes, .inl (cy 1, 126, .inl (fq))), (b_hasBox, .inl (cy 3, 3, .inl (g_9)))] H → va_D A [(b0, .inr (12, [x0, x1, x2, x3, x4, x5, x6, x7, x8, x9, x10, x11, x12, x13, x14, x15, x16, x17, x18, x19, x20, x21, x22, x23, x24, x25, x26, x27, x28, x29, x30, x31, x32, x33, x34, x35, x36, x37, x38, x39, x40, x41, x42, x43, x44, x45, x46, x47, x48, x49, x50, x51, x52, x53, x54, x55, x56, .ref b_now, x58, x59, x60, x61, x62, x63, x64, x65, x66, x67, x68, x69, x70, x71, x72, x73, x74, x75, x76, x77, x78, x79, x80, x81, x82, x83, x84, x85, x86, .ref b_hasBox, .ref b_boxes])), (b_now, .inl (cy 1, 42, .inl (fun _ => 0))), (b_boxes, .inl (cy 1, 126, .inl (fq))), (b_hasBox, .inl (cy 3, 3, .inl (g_9)))] → va_S A s.heap H locs → ∀ ls : Array Slot, lv_has ls 3 [(2, .int (nI i10)), (0, .ref b0), (1, .int 1)] → W p l e (rmk 3 0 0) s m args below meth c H locs 0 0 Q (F0 m 18 ls []) := by
        intro n
        induction n with
        | zero => intro i10 h1 h2; exact absurd h2 (by omega)
        | succ n ih =>
          intro i10 hi10 hn10 fq H locs hP hD hS ls hl
          have ih10 := ih
          refine lv_iload_n hx hb dX12_image_18 rfl (lv_at hl 0 rfl) ?_
          refine lv_bipush (v := 41) hx hb dX12_image_19 (by decide) ?_
          refine lv_icmp_ge (tgt := 47) hx hb dX12_image_21 (by decide) (fun c10 => ?_) (fun c10 => ?_)
          · have hend10 : i10 = 41 := lp_end (N := 41) (by decide) hi10 (by decide) c10
            subst hend10
            refine lv_aload_n hx hb dX12_image_47 rfl (lv_at hl 1 rfl) ?_
            refine va_get (D := D) (ci := 12) (v := .ref b_now) (C := RX12) (T := TX12) (N := 89) hx hb hg i_X12 hown hK hP 0 rfl rfl 57 (by decide) (hg _ m_1470) (fun _ h9 => h9) rfl dX12_image_48 ?_
            refine lv_bipush (v := 28) hx hb dX12_image_51 (by decide) ?_
            refine va_iald hx hb hK hP 1 1 rfl rfl (by unfold vp_in; decide) dX12_image_53 ?_
            refine lv_topi (fun y_11 hy_11 => ?_)
            obtain rfl : y_11 = 0 := hy_11.trans (by decide +kernel)
            exact x_iret hQ hx hb hr hlocks hK hP hD hS dX12_image_54 () (by decide) [] (by decide) rfl (Nat.le_of_ble_eq_true rfl) (Nat.le_of_ble_eq_true rfl)
          · have hlt10 : i10 < 41 := lp_go (by decide) hi10 (by decide) c10
            refine lv_aload_n hx hb dX12_image_24 rfl (lv_at hl 1 rfl) ?_
            refine va_get (D := D) (ci := 12) (v := .ref b_boxes) (C := RX12) (T := TX12) (N := 89) hx hb hg i_X12 hown hK hP 0 rfl rfl 88 (by decide) (hg _ m_1501) (fun _ h9 => h9) rfl dX12_image_25 ?_
            refine lv_bipush (v := 42) hx hb dX12_image_28 (by decide) ?_
            refine lv_iload_n hx hb dX12_image_30 rfl (lv_at hl 2 rfl) ?_
            refine lv_imul hx hb dX12_image_31 ?_
            refine lv_topi (fun y_12 hy_12 => ?_)
            obtain rfl : y_12 = 42 := hy_12.trans (by decide +kernel)
            refine lv_iload_n hx hb dX12_image_32 rfl (lv_at hl 0 rfl) ?_
            refine lv_iadd hx hb dX12_image_33 ?_
            refine lv_topi (fun y_13 hy_13 => ?_)
            obtain rfl : y_13 = nI (42 + i10) := hy_13.trans (nI_add _ _)
            refine lv_aload_n hx hb dX12_image_34 rfl (lv_at hl 1 rfl) ?_
            refine va_get (D := D) (ci := 12) (v := .ref b_now) (C := RX12) (T := TX12) (N := 89) hx hb hg i_X12 hown hK hP 0 rfl rfl 57 (by decide) (hg _ m_1470) (fun _ h9 => h9) rfl dX12_image_35 ?_
            refine lv_iload_n hx hb dX12_image_38 rfl (lv_at hl 0 rfl) ?_
            refine va_iald hx hb hK hP 1 1 rfl rfl (vp_in_nI (by omega) (by decide)) dX12_image_39 ?_
            refine lv_topi (fun y_14 hy_14 => ?_)
            obtain rfl : y_14 = 0 := hy_14.trans rfl
            refine va_iast hx hb hK hP hD hS 2 1 rfl rfl (vp_in_nI (by omega) (by decide)) dX12_image_40 (fun H locs hP hD hS => ?_)
            obtain ⟨g_15, eg_15⟩ : ∃ y, upd fq (nI (42 + i10) : Int32).toNatClampNeg 0 = y := ⟨_, rfl⟩
            rw [eg_15] at hP hD
            have hP : va_P D vwCl [(b0, .inr (12, [x0, x1, x2, x3, x4, x5, x6, x7, x8, x9, x10, x11, x12, x13, x14, x15, x16, x17, x18, x19, x20, x21, x22, x23, x24, x25, x26, x27, x28, x29, x30, x31, x32, x33, x34, x35, x36, x37, x38, x39, x40, x41, x42, x43, x44, x45, x46, x47, x48, x49, x50, x51, x52, x53, x54, x55, x56, .ref b_now, x58, x59, x60, x61, x62, x63, x64, x65, x66, x67, x68, x69, x70, x71, x72, x73, x74, x75, x76, x77, x78, x79, x80, x81, x82, x83, x84, x85, x86, .ref b_hasBox, .ref b_boxes])), (b_now, .inl (cy 1, 42, .inl (fun _ => 0))), (b_boxes, .inl (cy 1, 126, .inl (g_15))), (b_hasBox, .inl (cy 3, 3, .inl (g_9)))] H := hP
            have hD : va_D A [(b0, .inr (12, [x0, x1, x2, x3, x4, x5, x6, x7, x8, x9, x10, x11, x12, x13, x14, x15, x16, x17, x18, x19, x20, x21, x22, x23, x24, x25, x26, x27, x28, x29, x30, x31, x32, x33, x34, x35, x36, x37, x38, x39, x40, x41, x42, x43, x44, x45, x46, x47, x48, x49, x50, x51, x52, x53, x54, x55, x56, .ref b_now, x58, x59, x60, x61, x62, x63, x64, x65, x66, x67, x68, x69, x70, x71, x72, x73, x74, x75, x76, x77, x78, x79, x80, x81, x82, x83, x84, x85, x86, .ref b_hasBox, .ref b_boxes])), (b_now, .inl (cy 1, 42, .inl (fun _ => 0))), (b_boxes, .inl (cy 1, 126, .inl (g_15))), (b_hasBox, .inl (cy 3, 3, .inl (g_9)))] := hD
            refine lv_iinc (v := nI (i10 + 1)) (lv' := [(2, .int (nI (i10 + 1))), (0, .ref b0), (1, .int 1)]) hx hb dX12_image_41 hl (k := 0) rfl (lp_inc i10) (by decide) rfl (fun ls hl => ?_)
            refine lv_goto (tgt := 18) hx hb dX12_image_44 (by decide) ?_
            exact ih10 (i10 + 1) (by omega) (by omega) g_15 _ _ (hP.sub [0, 1, 2, 3] rfl) (hD.sub [0, 1, 2, 3] (by decide) rfl) hS ls (lv_sub hl [0, 1, 2] rfl)
      exact loop10 42 0 (by omega) (by omega) fb _ _ (hP.sub [0, 1, 2, 3] rfl) (hD.sub [0, 1, 2, 3] (by decide) rfl) hS ls (lv_sub hl [0, 1, 2] rfl)
    · refine lv_aload_n hx hb dX12_image_9 rfl (lv_at hl 0 rfl) ?_
      refine va_get (D := D) (ci := 12) (v := .ref b_hasBox) (C := RX12) (T := TX12) (N := 89) hx hb hg i_X12 hown hK hP 0 rfl rfl 87 (by decide) (hg _ m_1500) (fun _ h9 => h9) rfl dX12_image_10 ?_
      refine lv_iload_n hx hb dX12_image_13 rfl (lv_at hl 1 rfl) ?_
      refine lv_iconst (v := 1) hx hb dX12_image_14 (by decide) ?_
      refine va_zast hx hb hK hP hD hS 3 3 rfl rfl (by unfold vp_in; decide) dX12_image_15 (fun H locs hP hD hS => ?_)
      obtain ⟨g_16, eg_16⟩ : ∃ y, upd fh (2 : Int32).toNatClampNeg (vp_nar .boolean 1) = y := ⟨_, rfl⟩
      rw [eg_16] at hP hD
      have hP : va_P D vwCl [(b0, .inr (12, [x0, x1, x2, x3, x4, x5, x6, x7, x8, x9, x10, x11, x12, x13, x14, x15, x16, x17, x18, x19, x20, x21, x22, x23, x24, x25, x26, x27, x28, x29, x30, x31, x32, x33, x34, x35, x36, x37, x38, x39, x40, x41, x42, x43, x44, x45, x46, x47, x48, x49, x50, x51, x52, x53, x54, x55, x56, .ref b_now, x58, x59, x60, x61, x62, x63, x64, x65, x66, x67, x68, x69, x70, x71, x72, x73, x74, x75, x76, x77, x78, x79, x80, x81, x82, x83, x84, x85, x86, .ref b_hasBox, .ref b_boxes])), (b_now, .inl (cy 1, 42, .inl (fun _ => 0))), (b_boxes, .inl (cy 1, 126, .inl (fb))), (b_hasBox, .inl (cy 3, 3, .inl (g_16)))] H := hP
      have hD : va_D A [(b0, .inr (12, [x0, x1, x2, x3, x4, x5, x6, x7, x8, x9, x10, x11, x12, x13, x14, x15, x16, x17, x18, x19, x20, x21, x22, x23, x24, x25, x26, x27, x28, x29, x30, x31, x32, x33, x34, x35, x36, x37, x38, x39, x40, x41, x42, x43, x44, x45, x46, x47, x48, x49, x50, x51, x52, x53, x54, x55, x56, .ref b_now, x58, x59, x60, x61, x62, x63, x64, x65, x66, x67, x68, x69, x70, x71, x72, x73, x74, x75, x76, x77, x78, x79, x80, x81, x82, x83, x84, x85, x86, .ref b_hasBox, .ref b_boxes])), (b_now, .inl (cy 1, 42, .inl (fun _ => 0))), (b_boxes, .inl (cy 1, 126, .inl (fb))), (b_hasBox, .inl (cy 3, 3, .inl (g_16)))] := hD
      refine lv_iconst (v := 0) hx hb dX12_image_16 (by decide) ?_
      refine lv_istore_n (lv' := [(2, .int 0), (0, .ref b0), (1, .int 2)]) hx hb dX12_image_17 rfl hl (by decide) rfl (fun ls hl => ?_)
      have loop17 : ∀ (n i17 : Nat), i17 ≤ 41 → 42 ≤ i17 + n → ∀ (fq : Nat → Int32), ∀ (H : Heap) (locs : List Loc), va_P D vwCl [(b0, .inr (12, [x0, x1, x2, x3, x4, x5, x6, x7, x8, x9, x10, x11, x12, x13, x14, x15, x16, x17, x18, x19, x20, x21, x22, x23, x24, x25, x26, x27, x28, x29, x30, x31, x32, x33, x34, x35, x36, x37, x38, x39, x40, x41, x42, x43, x44, x45, x46, x47, x48, x49, x50, x51, x52, x53, x54, x55, x56, .ref b_now, x58, x59, x60, x61, x62, x63, x64, x65, x66, x67, x68, x69, x70, x71, x72, x73, x74, x75, x76, x77, x78, x79, x80, x81, x82, x83, x84, x85, x86, .ref b_hasBox, .ref b_boxes])), (b_now, .inl (cy 1, 42, .inl (fun _ => 0))), (b_boxes, .inl (cy 1, 126, .inl (fq))), (b_hasBox, .inl (cy 3, 3, .inl (g_16)))] H → va_D A [(b0, .inr (12, [x0, x1, x2, x3, x4, x5, x6, x7, x8, x9, x10, x11, x12, x13, x14, x15, x16, x17, x18, x19, x20, x21, x22, x23, x24, x25, x26, x27, x28, x29, x30, x31, x32, x33, x34, x35, x36, x37, x38, x39, x40, x41, x42, x43, x44, x45, x46, x47, x48, x49, x50, x51, x52, x53, x54, x55, x56, .ref b_now, x58, x59, x60, x61, x62, x63, x64, x65, x66, x67, x68, x69, x70, x71, x72, x73, x74, x75, x76, x77, x78, x79, x80, x81, x82, x83, x84, x85, x86, .ref b_hasBox, .ref b_boxes])), (b_now, .inl (cy 1, 42, .inl (fun _ => 0))), (b_boxes, .inl (cy 1, 126, .inl (fq))), (b_hasBox, .inl (cy 3, 3, .inl (g_16)))] → va_S A s.heap H locs → ∀ ls : Array Slot, lv_has ls 3 [(2, .int (nI i17)), (0, .ref b0), (1, .int 2)] → W p l e (rmk 3 0 0) s m args below meth c H locs 0 0 Q (F0 m 18 ls []) := by
        intro n
        induction n with
        | zero => intro i17 h1 h2; exact absurd h2 (by omega)
        | succ n ih =>
          intro i17 hi17 hn17 fq H locs hP hD hS ls hl
          have ih17 := ih
          refine lv_iload_n hx hb dX12_image_18 rfl (lv_at hl 0 rfl) ?_
          refine lv_bipush (v := 41) hx hb dX12_image_19 (by decide) ?_
          refine lv_icmp_ge (tgt := 47) hx hb dX12_image_21 (by decide) (fun c17 => ?_) (fun c17 => ?_)
          · have hend17 : i17 = 41 := lp_end (N := 41) (by decide) hi17 (by decide) c17
            subst hend17
            refine lv_aload_n hx hb dX12_image_47 rfl (lv_at hl 1 rfl) ?_
            refine va_get (D := D) (ci := 12) (v := .ref b_now) (C := RX12) (T := TX12) (N := 89) hx hb hg i_X12 hown hK hP 0 rfl rfl 57 (by decide) (hg _ m_1470) (fun _ h9 => h9) rfl dX12_image_48 ?_
            refine lv_bipush (v := 28) hx hb dX12_image_51 (by decide) ?_
            refine va_iald hx hb hK hP 1 1 rfl rfl (by unfold vp_in; decide) dX12_image_53 ?_
            refine lv_topi (fun y_18 hy_18 => ?_)
            obtain rfl : y_18 = 0 := hy_18.trans (by decide +kernel)
            exact x_iret hQ hx hb hr hlocks hK hP hD hS dX12_image_54 () (by decide) [] (by decide) rfl (Nat.le_of_ble_eq_true rfl) (Nat.le_of_ble_eq_true rfl)
          · have hlt17 : i17 < 41 := lp_go (by decide) hi17 (by decide) c17
            refine lv_aload_n hx hb dX12_image_24 rfl (lv_at hl 1 rfl) ?_
            refine va_get (D := D) (ci := 12) (v := .ref b_boxes) (C := RX12) (T := TX12) (N := 89) hx hb hg i_X12 hown hK hP 0 rfl rfl 88 (by decide) (hg _ m_1501) (fun _ h9 => h9) rfl dX12_image_25 ?_
            refine lv_bipush (v := 42) hx hb dX12_image_28 (by decide) ?_
            refine lv_iload_n hx hb dX12_image_30 rfl (lv_at hl 2 rfl) ?_
            refine lv_imul hx hb dX12_image_31 ?_
            refine lv_topi (fun y_19 hy_19 => ?_)
            obtain rfl : y_19 = 84 := hy_19.trans (by decide +kernel)
            refine lv_iload_n hx hb dX12_image_32 rfl (lv_at hl 0 rfl) ?_
            refine lv_iadd hx hb dX12_image_33 ?_
            refine lv_topi (fun y_20 hy_20 => ?_)
            obtain rfl : y_20 = nI (84 + i17) := hy_20.trans (nI_add _ _)
            refine lv_aload_n hx hb dX12_image_34 rfl (lv_at hl 1 rfl) ?_
            refine va_get (D := D) (ci := 12) (v := .ref b_now) (C := RX12) (T := TX12) (N := 89) hx hb hg i_X12 hown hK hP 0 rfl rfl 57 (by decide) (hg _ m_1470) (fun _ h9 => h9) rfl dX12_image_35 ?_
            refine lv_iload_n hx hb dX12_image_38 rfl (lv_at hl 0 rfl) ?_
            refine va_iald hx hb hK hP 1 1 rfl rfl (vp_in_nI (by omega) (by decide)) dX12_image_39 ?_
            refine lv_topi (fun y_21 hy_21 => ?_)
            obtain rfl : y_21 = 0 := hy_21.trans rfl
            refine va_iast hx hb hK hP hD hS 2 1 rfl rfl (vp_in_nI (by omega) (by decide)) dX12_image_40 (fun H locs hP hD hS => ?_)
            obtain ⟨g_22, eg_22⟩ : ∃ y, upd fq (nI (84 + i17) : Int32).toNatClampNeg 0 = y := ⟨_, rfl⟩
            rw [eg_22] at hP hD
            have hP : va_P D vwCl [(b0, .inr (12, [x0, x1, x2, x3, x4, x5, x6, x7, x8, x9, x10, x11, x12, x13, x14, x15, x16, x17, x18, x19, x20, x21, x22, x23, x24, x25, x26, x27, x28, x29, x30, x31, x32, x33, x34, x35, x36, x37, x38, x39, x40, x41, x42, x43, x44, x45, x46, x47, x48, x49, x50, x51, x52, x53, x54, x55, x56, .ref b_now, x58, x59, x60, x61, x62, x63, x64, x65, x66, x67, x68, x69, x70, x71, x72, x73, x74, x75, x76, x77, x78, x79, x80, x81, x82, x83, x84, x85, x86, .ref b_hasBox, .ref b_boxes])), (b_now, .inl (cy 1, 42, .inl (fun _ => 0))), (b_boxes, .inl (cy 1, 126, .inl (g_22))), (b_hasBox, .inl (cy 3, 3, .inl (g_16)))] H := hP
            have hD : va_D A [(b0, .inr (12, [x0, x1, x2, x3, x4, x5, x6, x7, x8, x9, x10, x11, x12, x13, x14, x15, x16, x17, x18, x19, x20, x21, x22, x23, x24, x25, x26, x27, x28, x29, x30, x31, x32, x33, x34, x35, x36, x37, x38, x39, x40, x41, x42, x43, x44, x45, x46, x47, x48, x49, x50, x51, x52, x53, x54, x55, x56, .ref b_now, x58, x59, x60, x61, x62, x63, x64, x65, x66, x67, x68, x69, x70, x71, x72, x73, x74, x75, x76, x77, x78, x79, x80, x81, x82, x83, x84, x85, x86, .ref b_hasBox, .ref b_boxes])), (b_now, .inl (cy 1, 42, .inl (fun _ => 0))), (b_boxes, .inl (cy 1, 126, .inl (g_22))), (b_hasBox, .inl (cy 3, 3, .inl (g_16)))] := hD
            refine lv_iinc (v := nI (i17 + 1)) (lv' := [(2, .int (nI (i17 + 1))), (0, .ref b0), (1, .int 2)]) hx hb dX12_image_41 hl (k := 0) rfl (lp_inc i17) (by decide) rfl (fun ls hl => ?_)
            refine lv_goto (tgt := 18) hx hb dX12_image_44 (by decide) ?_
            exact ih17 (i17 + 1) (by omega) (by omega) g_22 _ _ (hP.sub [0, 1, 2, 3] rfl) (hD.sub [0, 1, 2, 3] (by decide) rfl) hS ls (lv_sub hl [0, 1, 2] rfl)
      exact loop17 42 0 (by omega) (by omega) fb _ _ (hP.sub [0, 1, 2, 3] rfl) (hD.sub [0, 1, 2, 3] (by decide) rfl) hS ls (lv_sub hl [0, 1, 2] rfl)
  · refine lv_iconst (v := -1) hx hb dX12_image_7 (by decide) ?_
    exact x_iret hQ hx hb hr hlocks hK hP hD hS dX12_image_8 () (hw1.elim (fun h => (if_neg h.2).symm) (fun h => absurd c_4 (by rw [h.1]; decide))) [] (by decide) rfl (Nat.le_of_ble_eq_true rfl) (Nat.le_of_ble_eq_true rfl)
theorem dX12_back_0 : decode cX12_back 0 = .ok (.iload_n 1, 1) := by decide +kernel
theorem dX12_back_1 : decode cX12_back 1 = .ok (.invokestatic 577, 3) := by decide +kernel
theorem dX12_back_4 : decode cX12_back 4 = .ok (.ifCond .eq 12, 3) := by decide +kernel
theorem dX12_back_16 : decode cX12_back 16 = .ok (.iconst (-1), 1) := by decide +kernel
theorem dX12_back_17 : decode cX12_back 17 = .ok (.ireturn, 1) := by decide +kernel
theorem dX12_back_7 : decode cX12_back 7 = .ok (.aload_n 0, 1) := by decide +kernel
theorem dX12_back_8 : decode cX12_back 8 = .ok (.getfield 151, 3) := by decide +kernel
theorem dX12_back_11 : decode cX12_back 11 = .ok (.iload_n 1, 1) := by decide +kernel
theorem dX12_back_12 : decode cX12_back 12 = .ok (.baload, 1) := by decide +kernel
theorem dX12_back_13 : decode cX12_back 13 = .ok (.ifCond .ne 5, 3) := by decide +kernel
set_option maxHeartbeats 400000 in
set_option maxRecDepth 100000 in
theorem m_back (l : Launch) (D : va_G) (cy : Nat → ClassId) (b0 : Nat) (x0 : Value) (x1 : Value) (x2 : Value) (x3 : Value) (x4 : Value) (x5 : Value) (x6 : Value) (x7 : Value) (x8 : Value) (x9 : Value) (x10 : Value) (x11 : Value) (x12 : Value) (x13 : Value) (x14 : Value) (x15 : Value) (x16 : Value) (x17 : Value) (x18 : Value) (x19 : Value) (x20 : Value) (x21 : Value) (x22 : Value) (x23 : Value) (x24 : Value) (x25 : Value) (x26 : Value) (x27 : Value) (x28 : Value) (x29 : Value) (x30 : Value) (x31 : Value) (x32 : Value) (x33 : Value) (x34 : Value) (x35 : Value) (x36 : Value) (x37 : Value) (x38 : Value) (x39 : Value) (x40 : Value) (x41 : Value) (x42 : Value) (x43 : Value) (x44 : Value) (x45 : Value) (x46 : Value) (x47 : Value) (x48 : Value) (x49 : Value) (x50 : Value) (x51 : Value) (x52 : Value) (x53 : Value) (x54 : Value) (x55 : Value) (x56 : Value) (x57 : Value) (x58 : Value) (x59 : Value) (x60 : Value) (x61 : Value) (x62 : Value) (x63 : Value) (x64 : Value) (x65 : Value) (x66 : Value) (x67 : Value) (x68 : Value) (x69 : Value) (x70 : Value) (x71 : Value) (x72 : Value) (x73 : Value) (x74 : Value) (x75 : Value) (x76 : Value) (x77 : Value) (x78 : Value) (x79 : Value) (x80 : Value) (x81 : Value) (x82 : Value) (x83 : Value) (x84 : Value) (x85 : Value) (x86 : Value) (x88 : Value) (b_hasBox : Nat) (ka : Int32)  : XMi l D (tyL cy) E0 yX12_back cX12_back 3 (some .int) (rmk 3 0 0) [.ref b0, .int ka] [(b0, .inr (12, [x0, x1, x2, x3, x4, x5, x6, x7, x8, x9, x10, x11, x12, x13, x14, x15, x16, x17, x18, x19, x20, x21, x22, x23, x24, x25, x26, x27, x28, x29, x30, x31, x32, x33, x34, x35, x36, x37, x38, x39, x40, x41, x42, x43, x44, x45, x46, x47, x48, x49, x50, x51, x52, x53, x54, x55, x56, x57, x58, x59, x60, x61, x62, x63, x64, x65, x66, x67, x68, x69, x70, x71, x72, x73, x74, x75, x76, x77, x78, x79, x80, x81, x82, x83, x84, x85, x86, .ref b_hasBox, x88])), (b_hasBox, .inl (cy 3, 3, .inl (fun _ => 0)))] (fun (r : Int32) (_ : Unit) => r = -1) (fun (_ : Unit) => []) := by
  refine XMi.start (by decide) (Nat.le_of_ble_eq_true rfl) ?_
  intro p e s m below meth c args A ls Q hat hQ
  obtain ⟨hx, hb, hr, hml, hown, hg, hlocks, hin, hK, hA, hP, hD, hS, hE, hl⟩ := hat
  have hown : s.vm.findClass RX12 = some m.cls := hown
  have hl : lv_has ls 3 [(0, .ref b0), (1, .int ka)] := hl
  refine lv_iload_n hx hb dX12_back_0 rfl (lv_at hl 1 rfl) ?_
  refine x_callSi (wr := [(b0, .inr (12, [x0, x1, x2, x3, x4, x5, x6, x7, x8, x9, x10, x11, x12, x13, x14, x15, x16, x17, x18, x19, x20, x21, x22, x23, x24, x25, x26, x27, x28, x29, x30, x31, x32, x33, x34, x35, x36, x37, x38, x39, x40, x41, x42, x43, x44, x45, x46, x47, x48, x49, x50, x51, x52, x53, x54, x55, x56, x57, x58, x59, x60, x61, x62, x63, x64, x65, x66, x67, x68, x69, x70, x71, x72, x73, x74, x75, x76, x77, x78, x79, x80, x81, x82, x83, x84, x85, x86, .ref b_hasBox, x88])), (b_hasBox, .inl (cy 3, 3, .inl (fun _ => 0)))]) (rest := []) ⟨hx, hb, hml, hown, hg, hl.1⟩ k_X12_577 (m_isBox l D cy ka) E0_blind hK hP hD hS hA [] [0, 1] ⟨rfl, rfl, by decide, by decide, by decide⟩ (fun _ _ _ => trivial) dX12_back_1 rfl rfl (Nat.le_of_ble_eq_true rfl) ⟨Nat.le_of_ble_eq_true rfl, Nat.le_of_ble_eq_true rfl⟩ ⟨Nat.le_of_ble_eq_true rfl, Nat.le_of_ble_eq_true rfl⟩ (fun r1 u1 H locs hw1 hP hD hS => ?_)
  have hP : va_P D vwCl [(b0, .inr (12, [x0, x1, x2, x3, x4, x5, x6, x7, x8, x9, x10, x11, x12, x13, x14, x15, x16, x17, x18, x19, x20, x21, x22, x23, x24, x25, x26, x27, x28, x29, x30, x31, x32, x33, x34, x35, x36, x37, x38, x39, x40, x41, x42, x43, x44, x45, x46, x47, x48, x49, x50, x51, x52, x53, x54, x55, x56, x57, x58, x59, x60, x61, x62, x63, x64, x65, x66, x67, x68, x69, x70, x71, x72, x73, x74, x75, x76, x77, x78, x79, x80, x81, x82, x83, x84, x85, x86, .ref b_hasBox, x88])), (b_hasBox, .inl (cy 3, 3, .inl (fun _ => 0)))] H := hP
  have hD : va_D A [(b0, .inr (12, [x0, x1, x2, x3, x4, x5, x6, x7, x8, x9, x10, x11, x12, x13, x14, x15, x16, x17, x18, x19, x20, x21, x22, x23, x24, x25, x26, x27, x28, x29, x30, x31, x32, x33, x34, x35, x36, x37, x38, x39, x40, x41, x42, x43, x44, x45, x46, x47, x48, x49, x50, x51, x52, x53, x54, x55, x56, x57, x58, x59, x60, x61, x62, x63, x64, x65, x66, x67, x68, x69, x70, x71, x72, x73, x74, x75, x76, x77, x78, x79, x80, x81, x82, x83, x84, x85, x86, .ref b_hasBox, x88])), (b_hasBox, .inl (cy 3, 3, .inl (fun _ => 0)))] := hD
  refine W.widen (k := 0) (n := 0) (Nat.le_of_ble_eq_true rfl) (Nat.le_of_ble_eq_true rfl) ?_
  have hw1 : (r1 = 0 ∧ ¬ (0 ≤ ka.toInt ∧ ka.toInt < 3)) ∨ (r1 = 1 ∧ (ka = 0 ∨ ka = 1 ∨ ka = 2)) := hw1
  refine lv_if_eq (tgt := 16) hx hb dX12_back_4 (by decide) (fun c_4 => ?_) (fun c_4 => ?_)
  · refine lv_iconst (v := -1) hx hb dX12_back_16 (by decide) ?_
    exact x_iret hQ hx hb hr hlocks hK hP hD hS dX12_back_17 () (rfl) [] (by decide) rfl (Nat.le_of_ble_eq_true rfl) (Nat.le_of_ble_eq_true rfl)
  · refine lv_aload_n hx hb dX12_back_7 rfl (lv_at hl 0 rfl) ?_
    refine va_get (D := D) (ci := 12) (v := .ref b_hasBox) (C := RX12) (T := TX12) (N := 89) hx hb hg i_X12 hown hK hP 0 rfl rfl 87 (by decide) (hg _ m_1500) (fun _ h9 => h9) rfl dX12_back_8 ?_
    refine lv_iload_n hx hb dX12_back_11 rfl (lv_at hl 1 rfl) ?_
    have hbx : ka = 0 ∨ ka = 1 ∨ ka = 2 := hw1.elim (fun h => absurd h.1 c_4) (fun h => h.2)
    refine va_zald hx hb hK hP 1 3 rfl rfl (by rcases hbx with h | h | h <;> (rw [h]; unfold vp_in; decide)) dX12_back_12 ?_
    refine lv_topi (fun y_2 hy_2 => ?_)
    obtain rfl : y_2 = 0 := hy_2.trans rfl
    refine lv_if_ne (tgt := 18) hx hb dX12_back_13 (by decide) (fun h => absurd (by decide) h) (fun _ => ?_)
    refine lv_iconst (v := -1) hx hb dX12_back_16 (by decide) ?_
    exact x_iret hQ hx hb hr hlocks hK hP hD hS dX12_back_17 () (rfl) [] (by decide) rfl (Nat.le_of_ble_eq_true rfl) (Nat.le_of_ble_eq_true rfl)
