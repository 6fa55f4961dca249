theorem dJ0_coder_7d493_0 : decode cJ0_coder_7d493 0 = .ok (.getstatic 38, 3) := by decide +kernel
theorem m_174 : (Cond.fieldLink RJ0 38 "java/lang/String" "COMPACT_STRINGS" "Z") ∈ gT := gm 174 (by decide +kernel) (by decide +kernel)
theorem dJ0_coder_7d493_3 : decode cJ0_coder_7d493 3 = .ok (.ifCond .eq 10, 3) := by decide +kernel
theorem dJ0_coder_7d493_6 : decode cJ0_coder_7d493 6 = .ok (.aload_n 0, 1) := by decide +kernel
theorem dJ0_coder_7d493_7 : decode cJ0_coder_7d493 7 = .ok (.getfield 15, 3) := by decide +kernel
theorem m_2157 : (Cond.fieldLink RJ0 15 "java/lang/String" "coder" "B") ∈ gT := gm 2157 (by decide +kernel) (by decide +kernel)
theorem dJ0_coder_7d493_10 : decode cJ0_coder_7d493 10 = .ok (.goto 4, 3) := by decide +kernel
theorem dJ0_coder_7d493_14 : decode cJ0_coder_7d493 14 = .ok (.ireturn, 1) := by decide +kernel
set_option maxHeartbeats 400000 in
set_option maxRecDepth 100000 in
theorem j_coder (l : Launch) (D : va_G) (cy : Nat → ClassId) (adK : Nat → Nat) (adV : Nat → Nat)  : XMi l D (tyL cy) (EV adK adV) yJ0_coder_7d493 cJ0_coder_7d493 1 (some .byte) (rmk 0 0 0) [.ref (adK 0)] [] (fun (r : Int32) (_ : Unit) => r = 0) (fun (_ : Unit) => []) := by
  refine XMi.start (by decide) (Nat.le_of_ble_eq_true rfl) ?_
  intro p e s m below meth c args A ls Q hat hQ
  obtain ⟨hx, hb, hr, hml, hown, hg, hlocks, hin, hK, hA, hP, hD, hS, hE, hl⟩ := hat
  have hown : s.vm.findClass RJ0 = some m.cls := hown
  have hl : lv_has ls 1 [(0, .ref (adK 0))] := hl
  refine va_gets hx hb hE.2.2.2.2.2.2.2.2.2.1 hS hown (hg _ m_174) (fun _ h => h) dJ0_coder_7d493_0 ?_
  refine lv_if_eq (tgt := 13) hx hb dJ0_coder_7d493_3 (by decide) (fun h => absurd h (by decide)) (fun _ => ?_)
  refine lv_aload_n hx hb dJ0_coder_7d493_6 rfl (lv_at hl 0 rfl) ?_
  refine vk_getf hx hb (hE.2.2.2.2.2.2.2.2.1.1 0 (by decide)).2.1 hS hown (hg _ m_2157) (fun _ h => h) dJ0_coder_7d493_7 ?_
  refine lv_goto (tgt := 14) hx hb dJ0_coder_7d493_10 (by decide) ?_
  exact x_zret hQ hx hb hr hlocks hK hP hD hS rfl dJ0_coder_7d493_14 () (rfl) [] (by decide) rfl (Nat.le_of_ble_eq_true rfl) (Nat.le_of_ble_eq_true rfl)
theorem dJ0_length_8abf5_0 : decode cJ0_length_8abf5 0 = .ok (.aload_n 0, 1) := by decide +kernel
theorem dJ0_length_8abf5_1 : decode cJ0_length_8abf5 1 = .ok (.getfield 9, 3) := by decide +kernel
theorem m_2156 : (Cond.fieldLink RJ0 9 "java/lang/String" "value" "[B") ∈ gT := gm 2156 (by decide +kernel) (by decide +kernel)
theorem dJ0_length_8abf5_4 : decode cJ0_length_8abf5 4 = .ok (.arraylength, 1) := by decide +kernel
theorem dJ0_length_8abf5_5 : decode cJ0_length_8abf5 5 = .ok (.aload_n 0, 1) := by decide +kernel
theorem dJ0_length_8abf5_6 : decode cJ0_length_8abf5 6 = .ok (.invokevirtual 335, 3) := by decide +kernel
theorem m_170 : (Cond.methodLink RJ0 335 yJ0_coder_7d493) ∈ gT := gm 170 (by decide +kernel) (by decide +kernel)
theorem m_171 : (Cond.instanceMethod yJ0_coder_7d493) ∈ gT := gm 171 (by decide +kernel) (by decide +kernel)
theorem m_172 : (Cond.selects RJ0 yJ0_coder_7d493 yJ0_coder_7d493) ∈ gT := gm 172 (by decide +kernel) (by decide +kernel)
theorem m_132 : (Cond.initialized RJ0) ∈ gT := gm 132 (by decide +kernel) (by decide +kernel)
theorem m_173 : (Cond.code yJ0_coder_7d493 cJ0_coder_7d493 1 (some .byte)) ∈ gT := gm 173 (by decide +kernel) (by decide +kernel)
theorem k_J0_335 : xV RJ0 RJ0 335 yJ0_coder_7d493 cJ0_coder_7d493 1 (some .byte) 0 := ⟨⟨m_170, m_171, m_172, m_132, m_173⟩, rfl, by decide, by decide, by decide +kernel⟩
theorem dJ0_length_8abf5_9 : decode cJ0_length_8abf5 9 = .ok (.ishr, 1) := by decide +kernel
theorem dJ0_length_8abf5_10 : decode cJ0_length_8abf5 10 = .ok (.ireturn, 1) := by decide +kernel
set_option maxHeartbeats 400000 in
set_option maxRecDepth 100000 in
theorem j_length (l : Launch) (D : va_G) (cy : Nat → ClassId) (adK : Nat → Nat) (adV : Nat → Nat)  : XMi l D (tyL cy) (EV adK adV) yJ0_length_8abf5 cJ0_length_8abf5 1 (some .int) (rmk 1 0 0) [.ref (adK 0)] [] (fun (r : Int32) (_ : Unit) => r = 115) (fun (_ : Unit) => []) := by
  refine XMi.start (by decide) (Nat.le_of_ble_eq_true rfl) ?_
  intro p e s m below meth c args A ls Q hat hQ
  obtain ⟨hx, hb, hr, hml, hown, hg, hlocks, hin, hK, hA, hP, hD, hS, hE, hl⟩ := hat
  have hown : s.vm.findClass RJ0 = some m.cls := hown
  have hl : lv_has ls 1 [(0, .ref (adK 0))] := hl
  refine lv_aload_n hx hb dJ0_length_8abf5_0 rfl (lv_at hl 0 rfl) ?_
  refine vk_getf hx hb (hE.2.2.2.2.2.2.2.2.1.1 0 (by decide)).2.2.1 hS hown (hg _ m_2156) (fun _ h => h) dJ0_length_8abf5_1 ?_
  refine va_tlen (v := 115) hx hb (hE.2.2.2.2.2.2.2.2.1.1 0 (by decide)).2.2.2 hS rfl dJ0_length_8abf5_4 ?_
  refine lv_aload_n hx hb dJ0_length_8abf5_5 rfl (lv_at hl 0 rfl) ?_
  refine x_callOi (C := RJ0) (wr := []) (rest := [.int 115]) ⟨hx, hb, hml, hown, hg, hl.1⟩ k_J0_335 (j_coder l D cy adK adV) EV_blind hK hP hD hS hA [] ⟨rfl, rfl, by decide, by decide, by decide⟩ (vk_recv (i := 0) hE.2.2.2.2.2.2.2.2.1 (by decide) hS) (fun U hU hW => EV_pass hE hS (va_free hD hS hA [] rfl) hU hW) dJ0_length_8abf5_6 rfl rfl (Nat.le_of_ble_eq_true rfl) ⟨Nat.le_of_ble_eq_true rfl, Nat.le_of_ble_eq_true rfl⟩ ⟨Nat.le_of_ble_eq_true rfl, Nat.le_of_ble_eq_true rfl⟩ (fun r1 u1 H locs hw1 hP hD hS => ?_)
  have hP : va_P D vwCl [] H := hP
  have hD : va_D A [] := hD
  refine W.widen (k := 0) (n := 0) (Nat.le_of_ble_eq_true rfl) (Nat.le_of_ble_eq_true rfl) ?_
  have hw1 : r1 = 0 := hw1
  subst hw1
  refine lv_ishr hx hb dJ0_length_8abf5_9 ?_
  refine lv_topi (fun y_2 hy_2 => ?_)
  obtain rfl : y_2 = 115 := hy_2.trans (by decide +kernel)
  exact x_iret hQ hx hb hr hlocks hK hP hD hS dJ0_length_8abf5_10 () (rfl) [] (by decide) rfl (Nat.le_of_ble_eq_true rfl) (Nat.le_of_ble_eq_true rfl)
theorem dJ0_isLatin1_aae02_0 : decode cJ0_isLatin1_aae02 0 = .ok (.getstatic 38, 3) := by decide +kernel
theorem dJ0_isLatin1_aae02_3 : decode cJ0_isLatin1_aae02 3 = .ok (.ifCond .eq 14, 3) := by decide +kernel
theorem dJ0_isLatin1_aae02_6 : decode cJ0_isLatin1_aae02 6 = .ok (.aload_n 0, 1) := by decide +kernel
theorem dJ0_isLatin1_aae02_7 : decode cJ0_isLatin1_aae02 7 = .ok (.getfield 15, 3) := by decide +kernel
theorem dJ0_isLatin1_aae02_10 : decode cJ0_isLatin1_aae02 10 = .ok (.ifCond .ne 7, 3) := by decide +kernel
theorem dJ0_isLatin1_aae02_13 : decode cJ0_isLatin1_aae02 13 = .ok (.iconst 1, 1) := by decide +kernel
theorem dJ0_isLatin1_aae02_14 : decode cJ0_isLatin1_aae02 14 = .ok (.goto 4, 3) := by decide +kernel
theorem dJ0_isLatin1_aae02_18 : decode cJ0_isLatin1_aae02 18 = .ok (.ireturn, 1) := by decide +kernel
set_option maxHeartbeats 400000 in
set_option maxRecDepth 100000 in
theorem j_isLatin1 (l : Launch) (D : va_G) (cy : Nat → ClassId) (adK : Nat → Nat) (adV : Nat → Nat)  : XMi l D (tyL cy) (EV adK adV) yJ0_isLatin1_aae02 cJ0_isLatin1_aae02 1 (some .boolean) (rmk 0 0 0) [.ref (adK 0)] [] (fun (r : Int32) (_ : Unit) => r = 1) (fun (_ : Unit) => []) := by
  refine XMi.start (by decide) (Nat.le_of_ble_eq_true rfl) ?_
  intro p e s m below meth c args A ls Q hat hQ
  obtain ⟨hx, hb, hr, hml, hown, hg, hlocks, hin, hK, hA, hP, hD, hS, hE, hl⟩ := hat
  have hown : s.vm.findClass RJ0 = some m.cls := hown
  have hl : lv_has ls 1 [(0, .ref (adK 0))] := hl
  refine va_gets hx hb hE.2.2.2.2.2.2.2.2.2.1 hS hown (hg _ m_174) (fun _ h => h) dJ0_isLatin1_aae02_0 ?_
  refine lv_if_eq (tgt := 17) hx hb dJ0_isLatin1_aae02_3 (by decide) (fun h => absurd h (by decide)) (fun _ => ?_)
  refine lv_aload_n hx hb dJ0_isLatin1_aae02_6 rfl (lv_at hl 0 rfl) ?_
  refine vk_getf hx hb (hE.2.2.2.2.2.2.2.2.1.1 0 (by decide)).2.1 hS hown (hg _ m_2157) (fun _ h => h) dJ0_isLatin1_aae02_7 ?_
  refine lv_if_ne (tgt := 17) hx hb dJ0_isLatin1_aae02_10 (by decide) (fun h => absurd (by decide) h) (fun _ => ?_)
  refine lv_iconst (v := 1) hx hb dJ0_isLatin1_aae02_13 (by decide) ?_
  refine lv_goto (tgt := 18) hx hb dJ0_isLatin1_aae02_14 (by decide) ?_
  exact x_zret hQ hx hb hr hlocks hK hP hD hS rfl dJ0_isLatin1_aae02_18 () (rfl) [] (by decide) rfl (Nat.le_of_ble_eq_true rfl) (Nat.le_of_ble_eq_true rfl)
theorem dJ3_checkIndex_8e157_0 : decode cJ3_checkIndex_8e157 0 = .ok (.iload_n 0, 1) := by decide +kernel
theorem dJ3_checkIndex_8e157_1 : decode cJ3_checkIndex_8e157 1 = .ok (.ifCond .lt 8, 3) := by decide +kernel
theorem dJ3_checkIndex_8e157_4 : decode cJ3_checkIndex_8e157 4 = .ok (.iload_n 0, 1) := by decide +kernel
theorem dJ3_checkIndex_8e157_5 : decode cJ3_checkIndex_8e157 5 = .ok (.iload_n 1, 1) := by decide +kernel
theorem dJ3_checkIndex_8e157_6 : decode cJ3_checkIndex_8e157 6 = .ok (.if_icmp .lt 10, 3) := by decide +kernel
theorem dJ3_checkIndex_8e157_16 : decode cJ3_checkIndex_8e157 16 = .ok (.iload_n 0, 1) := by decide +kernel
theorem dJ3_checkIndex_8e157_17 : decode cJ3_checkIndex_8e157 17 = .ok (.ireturn, 1) := by decide +kernel
set_option maxHeartbeats 400000 in
set_option maxRecDepth 100000 in
theorem j_ci3n (l : Launch) (D : va_G) (cy : Nat → ClassId) (adK : Nat → Nat) (adV : Nat → Nat) (ix : Int32) (le : Int32) (hix : ¬ ix < 0) (hle : ix < le) : XMi l D (tyL cy) (EV adK adV) yJ3_checkIndex_8e157 cJ3_checkIndex_8e157 3 (some .int) (rmk 0 0 0) [.int ix, .int le, .null] [] (fun (r : Int32) (_ : Unit) => True) (fun (_ : Unit) => []) := by
  refine XMi.start (by decide) (Nat.le_of_ble_eq_true rfl) ?_
  intro p e s m below meth c args A ls Q hat hQ
  obtain ⟨hx, hb, hr, hml, hown, hg, hlocks, hin, hK, hA, hP, hD, hS, hE, hl⟩ := hat
  have hown : s.vm.findClass RJ3 = some m.cls := hown
  have hl : lv_has ls 3 [(0, .int ix), (1, .int le), (2, .null)] := hl
  refine lv_iload_n hx hb dJ3_checkIndex_8e157_0 rfl (lv_at hl 0 rfl) ?_
  refine lv_if_lt (tgt := 9) hx hb dJ3_checkIndex_8e157_1 (by decide) (fun h => absurd h hix) (fun _ => ?_)
  refine lv_iload_n hx hb dJ3_checkIndex_8e157_4 rfl (lv_at hl 0 rfl) ?_
  refine lv_iload_n hx hb dJ3_checkIndex_8e157_5 rfl (lv_at hl 1 rfl) ?_
  refine lv_icmp_lt (tgt := 16) hx hb dJ3_checkIndex_8e157_6 (by decide) (fun _ => ?_) (fun h => absurd hle h)
  refine lv_iload_n hx hb dJ3_checkIndex_8e157_16 rfl (lv_at hl 0 rfl) ?_
  exact x_iret hQ hx hb hr hlocks hK hP hD hS dJ3_checkIndex_8e157_17 () (trivial) [] (by decide) rfl (Nat.le_of_ble_eq_true rfl) (Nat.le_of_ble_eq_true rfl)
set_option maxHeartbeats 400000 in
set_option maxRecDepth 100000 in
theorem j_ci3r (l : Launch) (D : va_G) (cy : Nat → ClassId) (adK : Nat → Nat) (adV : Nat → Nat) (ix : Int32) (le : Int32) (tz : Nat) (hix : ¬ ix < 0) (hle : ix < le) : XMi l D (tyL cy) (EV adK adV) yJ3_checkIndex_8e157 cJ3_checkIndex_8e157 3 (some .int) (rmk 0 0 0) [.int ix, .int le, .ref tz] [] (fun (r : Int32) (_ : Unit) => True) (fun (_ : Unit) => []) := by
  refine XMi.start (by decide) (Nat.le_of_ble_eq_true rfl) ?_
  intro p e s m below meth c args A ls Q hat hQ
  obtain ⟨hx, hb, hr, hml, hown, hg, hlocks, hin, hK, hA, hP, hD, hS, hE, hl⟩ := hat
  have hown : s.vm.findClass RJ3 = some m.cls := hown
  have hl : lv_has ls 3 [(0, .int ix), (1, .int le), (2, .ref tz)] := hl
  refine lv_iload_n hx hb dJ3_checkIndex_8e157_0 rfl (lv_at hl 0 rfl) ?_
  refine lv_if_lt (tgt := 9) hx hb dJ3_checkIndex_8e157_1 (by decide) (fun h => absurd h hix) (fun _ => ?_)
  refine lv_iload_n hx hb dJ3_checkIndex_8e157_4 rfl (lv_at hl 0 rfl) ?_
  refine lv_iload_n hx hb dJ3_checkIndex_8e157_5 rfl (lv_at hl 1 rfl) ?_
  refine lv_icmp_lt (tgt := 16) hx hb dJ3_checkIndex_8e157_6 (by decide) (fun _ => ?_) (fun h => absurd hle h)
  refine lv_iload_n hx hb dJ3_checkIndex_8e157_16 rfl (lv_at hl 0 rfl) ?_
  exact x_iret hQ hx hb hr hlocks hK hP hD hS dJ3_checkIndex_8e157_17 () (trivial) [] (by decide) rfl (Nat.le_of_ble_eq_true rfl) (Nat.le_of_ble_eq_true rfl)
theorem dJ0_checkIndex_df160_0 : decode cJ0_checkIndex_df160 0 = .ok (.iload_n 0, 1) := by decide +kernel
theorem dJ0_checkIndex_df160_1 : decode cJ0_checkIndex_df160 1 = .ok (.iload_n 1, 1) := by decide +kernel
theorem dJ0_checkIndex_df160_2 : decode cJ0_checkIndex_df160 2 = .ok (.getstatic 1053, 3) := by decide +kernel
theorem m_190 : (Cond.fieldLink RJ0 1053 "jdk/internal/util/Preconditions" "SIOOBE_FORMATTER" "Ljava/util/function/BiFunction;") ∈ gT := gm 190 (by decide +kernel) (by decide +kernel)
theorem dJ0_checkIndex_df160_5 : decode cJ0_checkIndex_df160 5 = .ok (.invokestatic 1059, 3) := by decide +kernel
theorem m_192 : (Cond.methodLink RJ0 1059 yJ3_checkIndex_8e157) ∈ gT := gm 192 (by decide +kernel) (by decide +kernel)
theorem m_193 : (Cond.static yJ3_checkIndex_8e157) ∈ gT := gm 193 (by decide +kernel) (by decide +kernel)
theorem m_134 : (Cond.initialized RJ3) ∈ gT := gm 134 (by decide +kernel) (by decide +kernel)
theorem m_194 : (Cond.code yJ3_checkIndex_8e157 cJ3_checkIndex_8e157 3 (some .int)) ∈ gT := gm 194 (by decide +kernel) (by decide +kernel)
theorem k_J0_1059 : xS RJ0 1059 yJ3_checkIndex_8e157 cJ3_checkIndex_8e157 3 (some .int) 3 := ⟨⟨m_192, m_193, m_134, m_194⟩, by decide, by decide, by decide +kernel⟩
theorem dJ0_checkIndex_df160_8 : decode cJ0_checkIndex_df160 8 = .ok (.pop, 1) := by decide +kernel
theorem dJ0_checkIndex_df160_9 : decode cJ0_checkIndex_df160 9 = .ok (.return_, 1) := by decide +kernel
set_option maxHeartbeats 400000 in
set_option maxRecDepth 100000 in
theorem j_ci (l : Launch) (D : va_G) (cy : Nat → ClassId) (adK : Nat → Nat) (adV : Nat → Nat) (ix : Int32) (le : Int32) (hix : ¬ ix < 0) (hle : ix < le) : XMv l D (tyL cy) (EV adK adV) yJ0_checkIndex_df160 cJ0_checkIndex_df160 2 none (rmk 1 0 0) [.int ix, .int le] [] (fun (_ : Unit) => True) (fun (_ : Unit) => []) := by
  refine XMv.start (by decide) (Nat.le_of_ble_eq_true rfl) ?_
  intro p e s m below meth c args A ls Q hat hQ
  obtain ⟨hx, hb, hr, hml, hown, hg, hlocks, hin, hK, hA, hP, hD, hS, hE, hl⟩ := hat
  have hown : s.vm.findClass RJ0 = some m.cls := hown
  have hl : lv_has ls 2 [(0, .int ix), (1, .int le)] := hl
  refine lv_iload_n hx hb dJ0_checkIndex_df160_0 rfl (lv_at hl 0 rfl) ?_
  refine lv_iload_n hx hb dJ0_checkIndex_df160_1 rfl (lv_at hl 1 rfl) ?_
  rcases hE.2.2.2.2.2.2.2.2.2.2 with hz | ⟨tz, hz⟩
  · refine va_gets hx hb hz hS hown (hg _ m_190) (fun _ h => h) dJ0_checkIndex_df160_2 ?_
    refine x_callSi (wr := []) (rest := []) ⟨hx, hb, hml, hown, hg, hl.1⟩ k_J0_1059 (j_ci3n l D cy adK adV ix le (hix) (hle)) EV_blind hK hP hD hS hA [] [] ⟨rfl, rfl, by decide, by decide, by decide⟩ (fun U hU hW => EV_pass hE hS (va_free hD hS hA [] rfl) hU hW) dJ0_checkIndex_df160_5 rfl rfl (Nat.le_of_ble_eq_true rfl) ⟨Nat.le_of_ble_eq_true rfl, Nat.le_of_ble_eq_true rfl⟩ ⟨Nat.le_of_ble_eq_true rfl, Nat.le_of_ble_eq_true rfl⟩ (fun r1 u1 H locs hw1 hP hD hS => ?_)
    have hP : va_P D vwCl [] H := hP
    have hD : va_D A [] := hD
    refine W.widen (k := 0) (n := 0) (Nat.le_of_ble_eq_true rfl) (Nat.le_of_ble_eq_true rfl) ?_
    have hw1 : True := hw1
    refine lv_pop hx hb dJ0_checkIndex_df160_8 rfl ?_
    exact x_vret hQ hx hb hr hlocks hK hP hD hS dJ0_checkIndex_df160_9 () (trivial) [] (by decide) rfl (Nat.le_of_ble_eq_true rfl) (Nat.le_of_ble_eq_true rfl)
  · refine va_gets hx hb hz hS hown (hg _ m_190) (fun _ h => h) dJ0_checkIndex_df160_2 ?_
    refine x_callSi (wr := []) (rest := []) ⟨hx, hb, hml, hown, hg, hl.1⟩ k_J0_1059 (j_ci3r l D cy adK adV ix le tz (hix) (hle)) EV_blind hK hP hD hS hA [] [] ⟨rfl, rfl, by decide, by decide, by decide⟩ (fun U hU hW => EV_pass hE hS (va_free hD hS hA [] rfl) hU hW) dJ0_checkIndex_df160_5 rfl rfl (Nat.le_of_ble_eq_true rfl) ⟨Nat.le_of_ble_eq_true rfl, Nat.le_of_ble_eq_true rfl⟩ ⟨Nat.le_of_ble_eq_true rfl, Nat.le_of_ble_eq_true rfl⟩ (fun r2 u2 H locs hw2 hP hD hS => ?_)
    have hP : va_P D vwCl [] H := hP
    have hD : va_D A [] := hD
    refine W.widen (k := 0) (n := 0) (Nat.le_of_ble_eq_true rfl) (Nat.le_of_ble_eq_true rfl) ?_
    have hw2 : True := hw2
    refine lv_pop hx hb dJ0_checkIndex_df160_8 rfl ?_
    exact x_vret hQ hx hb hr hlocks hK hP hD hS dJ0_checkIndex_df160_9 () (trivial) [] (by decide) rfl (Nat.le_of_ble_eq_true rfl) (Nat.le_of_ble_eq_true rfl)
theorem dJ1_charAt_3b067_0 : decode cJ1_charAt_3b067 0 = .ok (.iload_n 1, 1) := by decide +kernel
theorem dJ1_charAt_3b067_1 : decode cJ1_charAt_3b067 1 = .ok (.aload_n 0, 1) := by decide +kernel
theorem dJ1_charAt_3b067_2 : decode cJ1_charAt_3b067 2 = .ok (.arraylength, 1) := by decide +kernel
theorem dJ1_charAt_3b067_3 : decode cJ1_charAt_3b067 3 = .ok (.invokestatic 9, 3) := by decide +kernel
theorem m_187 : (Cond.methodLink RJ1 9 yJ0_checkIndex_df160) ∈ gT := gm 187 (by decide +kernel) (by decide +kernel)
theorem m_188 : (Cond.static yJ0_checkIndex_df160) ∈ gT := gm 188 (by decide +kernel) (by decide +kernel)
theorem m_189 : (Cond.code yJ0_checkIndex_df160 cJ0_checkIndex_df160 2 none) ∈ gT := gm 189 (by decide +kernel) (by decide +kernel)
theorem k_J1_9 : xS RJ1 9 yJ0_checkIndex_df160 cJ0_checkIndex_df160 2 none 2 := ⟨⟨m_187, m_188, m_132, m_189⟩, by decide, by decide, by decide +kernel⟩
theorem dJ1_charAt_3b067_6 : decode cJ1_charAt_3b067 6 = .ok (.aload_n 0, 1) := by decide +kernel
theorem dJ1_charAt_3b067_7 : decode cJ1_charAt_3b067 7 = .ok (.iload_n 1, 1) := by decide +kernel
theorem dJ1_charAt_3b067_8 : decode cJ1_charAt_3b067 8 = .ok (.baload, 1) := by decide +kernel
theorem dJ1_charAt_3b067_9 : decode cJ1_charAt_3b067 9 = .ok (.sipush 255, 3) := by decide +kernel
theorem dJ1_charAt_3b067_12 : decode cJ1_charAt_3b067 12 = .ok (.iand, 1) := by decide +kernel
theorem dJ1_charAt_3b067_13 : decode cJ1_charAt_3b067 13 = .ok (.i2c, 1) := by decide +kernel
theorem dJ1_charAt_3b067_14 : decode cJ1_charAt_3b067 14 = .ok (.ireturn, 1) := by decide +kernel
set_option maxHeartbeats 400000 in
set_option maxRecDepth 100000 in
theorem j_charL (l : Launch) (D : va_G) (cy : Nat → ClassId) (adK : Nat → Nat) (adV : Nat → Nat) (ix : Int32) (hin0 : vp_in ix 115) : XMi l D (tyL cy) (EV adK adV) yJ1_charAt_3b067 cJ1_charAt_3b067 2 (some .char) (rmk 2 0 0) [.ref (adV 0), .int ix] [] (fun (r : Int32) (_ : Unit) => narrow .char (.int r) = .int r) (fun (_ : Unit) => []) := by
  refine XMi.start (by decide) (Nat.le_of_ble_eq_true rfl) ?_
  intro p e s m below meth c args A ls Q hat hQ
  obtain ⟨hx, hb, hr, hml, hown, hg, hlocks, hin, hK, hA, hP, hD, hS, hE, hl⟩ := hat
  have hown : s.vm.findClass RJ1 = some m.cls := hown
  have hl : lv_has ls 2 [(0, .ref (adV 0)), (1, .int ix)] := hl
  refine lv_iload_n hx hb dJ1_charAt_3b067_0 rfl (lv_at hl 1 rfl) ?_
  refine lv_aload_n hx hb dJ1_charAt_3b067_1 rfl (lv_at hl 0 rfl) ?_
  refine va_tlen (v := 115) hx hb (hE.2.2.2.2.2.2.2.2.1.1 0 (by decide)).2.2.2 hS rfl dJ1_charAt_3b067_2 ?_
  refine x_callSv (wr := []) (rest := []) ⟨hx, hb, hml, hown, hg, hl.1⟩ k_J1_9 (j_ci l D cy adK adV ix 115 ((fits_ci hin0 (by decide)).1) ((fits_ci hin0 (by decide)).2)) EV_blind hK hP hD hS hA [] [] ⟨rfl, rfl, by decide, by decide, by decide⟩ (fun U hU hW => EV_pass hE hS (va_free hD hS hA [] rfl) hU hW) dJ1_charAt_3b067_3 rfl rfl (Nat.le_of_ble_eq_true rfl) ⟨Nat.le_of_ble_eq_true rfl, Nat.le_of_ble_eq_true rfl⟩ ⟨Nat.le_of_ble_eq_true rfl, Nat.le_of_ble_eq_true rfl⟩ (fun u1 H locs hw1 hP hD hS => ?_)
  have hP : va_P D vwCl [] H := hP
  have hD : va_D A [] := hD
  refine W.widen (k := 0) (n := 0) (Nat.le_of_ble_eq_true rfl) (Nat.le_of_ble_eq_true rfl) ?_
  refine lv_aload_n hx hb dJ1_charAt_3b067_6 rfl (lv_at hl 0 rfl) ?_
  refine lv_iload_n hx hb dJ1_charAt_3b067_7 rfl (lv_at hl 1 rfl) ?_
  refine va_tb hx hb (hE.2.2.2.2.2.2.2.2.1.1 0 (by decide)).2.2.2 hS hin0 rfl dJ1_charAt_3b067_8 ?_
  refine lv_topi (fun x_2 ex_2 => ?_)
  refine lv_sipush (v := 255) hx hb dJ1_charAt_3b067_9 (by decide) ?_
  refine lv_iand hx hb dJ1_charAt_3b067_12 ?_
  refine lv_topi (fun x_3 ex_3 => ?_)
  obtain ⟨x_4, ex_4⟩ : ∃ y : Int32, ((x_3 : Int32).toUInt32 % 65536).toInt32 = y := ⟨_, rfl⟩
  refine lv_i2c (v := x_4) hx hb dJ1_charAt_3b067_13 ex_4 ?_
  exact x_zret hQ hx hb hr hlocks hK hP hD hS (ex_4 ▸ pk_nc _) dJ1_charAt_3b067_14 () (ex_4 ▸ pk_nc _) [] (by decide) rfl (Nat.le_of_ble_eq_true rfl) (Nat.le_of_ble_eq_true rfl)
theorem dJ0_charAt_5068e_0 : decode cJ0_charAt_5068e 0 = .ok (.aload_n 0, 1) := by decide +kernel
theorem dJ0_charAt_5068e_1 : decode cJ0_charAt_5068e 1 = .ok (.invokevirtual 492, 3) := by decide +kernel
theorem m_180 : (Cond.methodLink RJ0 492 yJ0_isLatin1_aae02) ∈ gT := gm 180 (by decide +kernel) (by decide +kernel)
theorem m_181 : (Cond.instanceMethod yJ0_isLatin1_aae02) ∈ gT := gm 181 (by decide +kernel) (by decide +kernel)
theorem m_182 : (Cond.selects RJ0 yJ0_isLatin1_aae02 yJ0_isLatin1_aae02) ∈ gT := gm 182 (by decide +kernel) (by decide +kernel)
theorem m_183 : (Cond.code yJ0_isLatin1_aae02 cJ0_isLatin1_aae02 1 (some .boolean)) ∈ gT := gm 183 (by decide +kernel) (by decide +kernel)
theorem k_J0_492 : xV RJ0 RJ0 492 yJ0_isLatin1_aae02 cJ0_isLatin1_aae02 1 (some .boolean) 0 := ⟨⟨m_180, m_181, m_182, m_132, m_183⟩, rfl, by decide, by decide, by decide +kernel⟩
theorem dJ0_charAt_5068e_4 : decode cJ0_charAt_5068e 4 = .ok (.ifCond .eq 12, 3) := by decide +kernel
theorem dJ0_charAt_5068e_7 : decode cJ0_charAt_5068e 7 = .ok (.aload_n 0, 1) := by decide +kernel
theorem dJ0_charAt_5068e_8 : decode cJ0_charAt_5068e 8 = .ok (.getfield 9, 3) := by decide +kernel
theorem dJ0_charAt_5068e_11 : decode cJ0_charAt_5068e 11 = .ok (.iload_n 1, 1) := by decide +kernel
theorem dJ0_charAt_5068e_12 : decode cJ0_charAt_5068e 12 = .ok (.invokestatic 495, 3) := by decide +kernel
theorem m_184 : (Cond.methodLink RJ0 495 yJ1_charAt_3b067) ∈ gT := gm 184 (by decide +kernel) (by decide +kernel)
theorem m_185 : (Cond.static yJ1_charAt_3b067) ∈ gT := gm 185 (by decide +kernel) (by decide +kernel)
theorem m_133 : (Cond.initialized RJ1) ∈ gT := gm 133 (by decide +kernel) (by decide +kernel)
theorem m_186 : (Cond.code yJ1_charAt_3b067 cJ1_charAt_3b067 2 (some .char)) ∈ gT := gm 186 (by decide +kernel) (by decide +kernel)
theorem k_J0_495 : xS RJ0 495 yJ1_charAt_3b067 cJ1_charAt_3b067 2 (some .char) 2 := ⟨⟨m_184, m_185, m_133, m_186⟩, by decide, by decide, by decide +kernel⟩
theorem dJ0_charAt_5068e_15 : decode cJ0_charAt_5068e 15 = .ok (.ireturn, 1) := by decide +kernel
set_option maxHeartbeats 400000 in
set_option maxRecDepth 100000 in
theorem j_charAt (l : Launch) (D : va_G) (cy : Nat → ClassId) (adK : Nat → Nat) (adV : Nat → Nat) (ix : Int32) (hin0 : vp_in ix 115) : XMi l D (tyL cy) (EV adK adV) yJ0_charAt_5068e cJ0_charAt_5068e 2 (some .char) (rmk 3 0 0) [.ref (adK 0), .int ix] [] (fun (r : Int32) (_ : Unit) => True) (fun (_ : Unit) => []) := by
  refine XMi.start (by decide) (Nat.le_of_ble_eq_true rfl) ?_
  intro p e s m below meth c args A ls Q hat hQ
  obtain ⟨hx, hb, hr, hml, hown, hg, hlocks, hin, hK, hA, hP, hD, hS, hE, hl⟩ := hat
  have hown : s.vm.findClass RJ0 = some m.cls := hown
  have hl : lv_has ls 2 [(0, .ref (adK 0)), (1, .int ix)] := hl
  refine lv_aload_n hx hb dJ0_charAt_5068e_0 rfl (lv_at hl 0 rfl) ?_
  refine x_callOi (C := RJ0) (wr := []) (rest := []) ⟨hx, hb, hml, hown, hg, hl.1⟩ k_J0_492 (j_isLatin1 l D cy adK adV) EV_blind hK hP hD hS hA [] ⟨rfl, rfl, by decide, by decide, by decide⟩ (vk_recv (i := 0) hE.2.2.2.2.2.2.2.2.1 (by decide) hS) (fun U hU hW => EV_pass hE hS (va_free hD hS hA [] rfl) hU hW) dJ0_charAt_5068e_1 rfl rfl (Nat.le_of_ble_eq_true rfl) ⟨Nat.le_of_ble_eq_true rfl, Nat.le_of_ble_eq_true rfl⟩ ⟨Nat.le_of_ble_eq_true rfl, Nat.le_of_ble_eq_true rfl⟩ (fun r1 u1 H locs hw1 hP hD hS => ?_)
  have hP : va_P D vwCl [] H := hP
  have hD : va_D A [] := hD
  refine W.widen (k := 0) (n := 0) (Nat.le_of_ble_eq_true rfl) (Nat.le_of_ble_eq_true rfl) ?_
  have hw1 : r1 = 1 := hw1
  subst hw1
  refine lv_if_eq (tgt := 16) hx hb dJ0_charAt_5068e_4 (by decide) (fun h => absurd h (by decide)) (fun _ => ?_)
  refine lv_aload_n hx hb dJ0_charAt_5068e_7 rfl (lv_at hl 0 rfl) ?_
  refine vk_getf hx hb (hE.2.2.2.2.2.2.2.2.1.1 0 (by decide)).2.2.1 hS hown (hg _ m_2156) (fun _ h => h) dJ0_charAt_5068e_8 ?_
  refine lv_iload_n hx hb dJ0_charAt_5068e_11 rfl (lv_at hl 1 rfl) ?_
  refine x_callSi (wr := []) (rest := []) ⟨hx, hb, hml, hown, hg, hl.1⟩ k_J0_495 (j_charL l D cy adK adV ix (hin0)) EV_blind hK hP hD hS hA [] [] ⟨rfl, rfl, by decide, by decide, by decide⟩ (fun U hU hW => EV_pass hE hS (va_free hD hS hA [] rfl) hU hW) dJ0_charAt_5068e_12 rfl rfl (Nat.le_of_ble_eq_true rfl) ⟨Nat.le_of_ble_eq_true rfl, Nat.le_of_ble_eq_true rfl⟩ ⟨Nat.le_of_ble_eq_true rfl, Nat.le_of_ble_eq_true rfl⟩ (fun r2 u2 H locs hw2 hP hD hS => ?_)
  have hP : va_P D vwCl [] H := hP
  have hD : va_D A [] := hD
  refine W.widen (k := 0) (n := 0) (Nat.le_of_ble_eq_true rfl) (Nat.le_of_ble_eq_true rfl) ?_
  have hw2 : narrow .char (.int r2) = .int r2 := hw2
  exact x_zret hQ hx hb hr hlocks hK hP hD hS hw2 dJ0_charAt_5068e_15 () (trivial) [] (by decide) rfl (Nat.le_of_ble_eq_true rfl) (Nat.le_of_ble_eq_true rfl)
theorem dX9_init_0 : decode cX9_init 0 = .ok (.aload_n 0, 1) := by decide +kernel
theorem dX9_init_1 : decode cX9_init 1 = .ok (.invokespecial 5, 3) := by decide +kernel
theorem m_164 : (Cond.methodLink RX9 5 objectInit) ∈ gT := gm 164 (by decide +kernel) (by decide +kernel)
theorem m_157 : (Cond.instanceMethod objectInit) ∈ gT := gm 157 (by decide +kernel) (by decide +kernel)
theorem m_158 : (Cond.code objectInit ⟨#[0xb1]⟩ 1 none) ∈ gT := gm 158 (by decide +kernel) (by decide +kernel)
theorem dX9_init_4 : decode cX9_init 4 = .ok (.aload_n 0, 1) := by decide +kernel
theorem dX9_init_5 : decode cX9_init 5 = .ok (.sipush 1600, 3) := by decide +kernel
theorem dX9_init_8 : decode cX9_init 8 = .ok (.newarray .byte, 2) := by decide +kernel
theorem m_245 : (Cond.arrayClass .byte) ∈ gT := gm 245 (by decide +kernel) (by decide +kernel)
theorem dX9_init_10 : decode cX9_init 10 = .ok (.putfield 11, 3) := by decide +kernel
theorem dX9_init_13 : decode cX9_init 13 = .ok (.aload_n 0, 1) := by decide +kernel
theorem dX9_init_14 : decode cX9_init 14 = .ok (.bipush 24, 2) := by decide +kernel
theorem dX9_init_16 : decode cX9_init 16 = .ok (.newarray .long, 2) := by decide +kernel
theorem m_246 : (Cond.arrayClass .long) ∈ gT := gm 246 (by decide +kernel) (by decide +kernel)
theorem dX9_init_18 : decode cX9_init 18 = .ok (.putfield 15, 3) := by decide +kernel
theorem m_216 : (Cond.fieldLink RX9 15 "CliffJudges$Tape" "keys" "[J") ∈ gT := gm 216 (by decide +kernel) (by decide +kernel)
theorem dX9_init_21 : decode cX9_init 21 = .ok (.iconst 0, 1) := by decide +kernel
theorem dX9_init_22 : decode cX9_init 22 = .ok (.istore_n 1, 1) := by decide +kernel
theorem dX9_init_23 : decode cX9_init 23 = .ok (.iconst 0, 1) := by decide +kernel
theorem dX9_init_24 : decode cX9_init 24 = .ok (.istore_n 2, 1) := by decide +kernel
theorem dX9_init_25 : decode cX9_init 25 = .ok (.iload_n 2, 1) := by decide +kernel
theorem dX9_init_26 : decode cX9_init 26 = .ok (.ldc 19, 2) := by decide +kernel
theorem dX9_init_28 : decode cX9_init 28 = .ok (.invokevirtual 21, 3) := by decide +kernel
theorem m_166 : (Cond.methodLink RX9 21 yJ0_length_8abf5) ∈ gT := gm 166 (by decide +kernel) (by decide +kernel)
theorem m_167 : (Cond.instanceMethod yJ0_length_8abf5) ∈ gT := gm 167 (by decide +kernel) (by decide +kernel)
theorem m_168 : (Cond.selects RJ0 yJ0_length_8abf5 yJ0_length_8abf5) ∈ gT := gm 168 (by decide +kernel) (by decide +kernel)
theorem m_169 : (Cond.code yJ0_length_8abf5 cJ0_length_8abf5 1 (some .int)) ∈ gT := gm 169 (by decide +kernel) (by decide +kernel)
theorem k_X9_21 : xV RX9 RJ0 21 yJ0_length_8abf5 cJ0_length_8abf5 1 (some .int) 0 := ⟨⟨m_166, m_167, m_168, m_132, m_169⟩, rfl, by decide, by decide, by decide +kernel⟩
theorem dX9_init_31 : decode cX9_init 31 = .ok (.if_icmp .ge 56, 3) := by decide +kernel
theorem dX9_init_87 : decode cX9_init 87 = .ok (.return_, 1) := by decide +kernel
theorem dX9_init_34 : decode cX9_init 34 = .ok (.iload_n 1, 1) := by decide +kernel
theorem dX9_init_35 : decode cX9_init 35 = .ok (.bipush 24, 2) := by decide +kernel
theorem dX9_init_37 : decode cX9_init 37 = .ok (.if_icmp .ge 50, 3) := by decide +kernel
theorem dX9_init_40 : decode cX9_init 40 = .ok (.ldc 19, 2) := by decide +kernel
theorem dX9_init_42 : decode cX9_init 42 = .ok (.iload_n 2, 1) := by decide +kernel
theorem dX9_init_43 : decode cX9_init 43 = .ok (.invokevirtual 27, 3) := by decide +kernel
theorem m_176 : (Cond.methodLink RX9 27 yJ0_charAt_5068e) ∈ gT := gm 176 (by decide +kernel) (by decide +kernel)
theorem m_177 : (Cond.instanceMethod yJ0_charAt_5068e) ∈ gT := gm 177 (by decide +kernel) (by decide +kernel)
theorem m_178 : (Cond.selects RJ0 yJ0_charAt_5068e yJ0_charAt_5068e) ∈ gT := gm 178 (by decide +kernel) (by decide +kernel)
theorem m_179 : (Cond.code yJ0_charAt_5068e cJ0_charAt_5068e 2 (some .char)) ∈ gT := gm 179 (by decide +kernel) (by decide +kernel)
theorem k_X9_27 : xV RX9 RJ0 27 yJ0_charAt_5068e cJ0_charAt_5068e 2 (some .char) 1 := ⟨⟨m_176, m_177, m_178, m_132, m_179⟩, rfl, by decide, by decide, by decide +kernel⟩
theorem dX9_init_46 : decode cX9_init 46 = .ok (.istore_n 3, 1) := by decide +kernel
theorem dX9_init_47 : decode cX9_init 47 = .ok (.iload_n 3, 1) := by decide +kernel
theorem dX9_init_48 : decode cX9_init 48 = .ok (.bipush 32, 2) := by decide +kernel
theorem dX9_init_50 : decode cX9_init 50 = .ok (.if_icmp .ne 9, 3) := by decide +kernel
theorem dX9_init_59 : decode cX9_init 59 = .ok (.aload_n 0, 1) := by decide +kernel
theorem dX9_init_60 : decode cX9_init 60 = .ok (.getfield 15, 3) := by decide +kernel
theorem dX9_init_63 : decode cX9_init 63 = .ok (.iload_n 1, 1) := by decide +kernel
theorem dX9_init_64 : decode cX9_init 64 = .ok (.aload_n 0, 1) := by decide +kernel
theorem dX9_init_65 : decode cX9_init 65 = .ok (.getfield 15, 3) := by decide +kernel
theorem dX9_init_68 : decode cX9_init 68 = .ok (.iload_n 1, 1) := by decide +kernel
theorem dX9_init_69 : decode cX9_init 69 = .ok (.laload, 1) := by decide +kernel
theorem dX9_init_70 : decode cX9_init 70 = .ok (.ldc2_w 31, 3) := by decide +kernel
theorem m_214 : (Cond.constantLong RX9 31 (27)) ∈ gT := gm 214 (by decide +kernel) (by decide +kernel)
theorem dX9_init_73 : decode cX9_init 73 = .ok (.lmul, 1) := by decide +kernel
theorem dX9_init_74 : decode cX9_init 74 = .ok (.iload_n 3, 1) := by decide +kernel
theorem dX9_init_75 : decode cX9_init 75 = .ok (.bipush 96, 2) := by decide +kernel
theorem dX9_init_77 : decode cX9_init 77 = .ok (.isub, 1) := by decide +kernel
theorem dX9_init_78 : decode cX9_init 78 = .ok (.i2l, 1) := by decide +kernel
theorem dX9_init_79 : decode cX9_init 79 = .ok (.ladd, 1) := by decide +kernel
theorem dX9_init_80 : decode cX9_init 80 = .ok (.lastore, 1) := by decide +kernel
theorem dX9_init_81 : decode cX9_init 81 = .ok (.iinc 2 1, 3) := by decide +kernel
theorem dX9_init_84 : decode cX9_init 84 = .ok (.goto (-59), 3) := by decide +kernel
theorem dX9_init_53 : decode cX9_init 53 = .ok (.iinc 1 1, 3) := by decide +kernel
theorem dX9_init_56 : decode cX9_init 56 = .ok (.goto 25, 3) := by decide +kernel
set_option maxHeartbeats 400000 in
set_option maxRecDepth 100000 in
theorem n_Tape (l : Launch) (D : va_G) (cy : Nat → ClassId) (adK : Nat → Nat) (adV : Nat → Nat) (ta0 : Nat)  : XMv l D (tyL cy) (EV adK adV) yX9_init cX9_init 4 none (rmk 5 2 1624) [.ref ta0] [(ta0, .inr (9, [.null, .null, .int 0, .int 0, .int 0, .int 0, .long 0, .int 0]))] (fun (ad : Nat → Nat) => True) (fun (ad : Nat → Nat) => [(ta0, .inr (9, [.ref (ad 0), .ref (ad 1), .int 0, .int 0, .int 0, .int 0, .long 0, .int 0])), (ad 0, .inl (cy 0, 1600, .inl (fun _ => 0)))]) := by
  refine XMv.start (by decide) (Nat.le_of_ble_eq_true rfl) ?_
  intro p e s m below meth c args A ls Q hat hQ
  obtain ⟨hx, hb, hr, hml, hown, hg, hlocks, hin, hK, hA, hP, hD, hS, hE, hl⟩ := hat
  have hown : s.vm.findClass RX9 = some m.cls := hown
  have hl : lv_has ls 4 [(0, .ref ta0)] := hl
  refine lv_aload_n hx hb dX9_init_0 rfl (lv_at hl 0 rfl) ?_
  refine W.objInit hx hb hown (hg _ m_164) (hg _ m_157) (hg _ m_158) rfl (by rw [hml]; exact hl.1) rfl dX9_init_1 (by decide) (Nat.le_of_ble_eq_true rfl) ?_
  refine W.eq (g2 := F0 m 4 ls []) rfl ?_
  refine lv_aload_n hx hb dX9_init_4 rfl (lv_at hl 0 rfl) ?_
  refine lv_sipush (v := 1600) hx hb dX9_init_5 (by decide) ?_
  refine x_newa (atype := .byte) (ty := .byte) (a0 := (1600, .inl (fun _ => 0))) (N' := 1600) hx hb (hg _ m_245) rfl hK 0 rfl one_byte hP hD hS hA (fun _ => rfl) (by decide) (by decide) (by decide) (by decide) (by decide) dX9_init_8 (fun q_1 H hP hD hS => ?_)
  have hP : va_P D vwCl [(ta0, .inr (9, [.null, .null, .int 0, .int 0, .int 0, .int 0, .long 0, .int 0])), (q_1, .inl (cy 0, 1600, .inl (fun _ => 0)))] H := hP
  have hD : va_D A [(ta0, .inr (9, [.null, .null, .int 0, .int 0, .int 0, .int 0, .long 0, .int 0])), (q_1, .inl (cy 0, 1600, .inl (fun _ => 0)))] := hD
  refine W.widen (k := 1) (n := 1600) (Nat.le_of_ble_eq_true rfl) (Nat.le_of_ble_eq_true rfl) ?_
  refine va_putF (D := D) (ci := 9) (v := .ref q_1) (ty := .array .byte) (C := RX9) (T := TX9) (N := 8) hx hb hg i_X9 tyX9 tyX9_ok nmX9 hown hK hP hD hS 0 rfl rfl 0 (by decide) (hg _ m_215) (fun _ h9 => h9) rfl hin rfl (by decide +kernel) rfl rfl (Nat.le_of_ble_eq_true rfl) dX9_init_10 (fun H locs hP hD hS => ?_)
  have hP : va_P D vwCl [(ta0, .inr (9, [.ref q_1, .null, .int 0, .int 0, .int 0, .int 0, .long 0, .int 0])), (q_1, .inl (cy 0, 1600, .inl (fun _ => 0)))] H := hP
  have hD : va_D A [(ta0, .inr (9, [.ref q_1, .null, .int 0, .int 0, .int 0, .int 0, .long 0, .int 0])), (q_1, .inl (cy 0, 1600, .inl (fun _ => 0)))] := hD
  refine lv_aload_n hx hb dX9_init_13 rfl (lv_at hl 0 rfl) ?_
  refine lv_bipush (v := 24) hx hb dX9_init_14 (by decide) ?_
  refine x_newa (atype := .long) (ty := .long) (a0 := (24, .inr (.inl (fun _ => 0)))) (N' := 24) hx hb (hg _ m_246) rfl hK 2 rfl one_long hP hD hS hA (fun _ => rfl) (by decide) (by decide) (by decide) (by decide) (by decide) dX9_init_16 (fun q_2 H hP hD hS => ?_)
  have hP : va_P D vwCl [(ta0, .inr (9, [.ref q_1, .null, .int 0, .int 0, .int 0, .int 0, .long 0, .int 0])), (q_1, .inl (cy 0, 1600, .inl (fun _ => 0))), (q_2, .inl (cy 2, 24, .inr (.inl (fun _ => 0))))] H := hP
  have hD : va_D A [(ta0, .inr (9, [.ref q_1, .null, .int 0, .int 0, .int 0, .int 0, .long 0, .int 0])), (q_1, .inl (cy 0, 1600, .inl (fun _ => 0))), (q_2, .inl (cy 2, 24, .inr (.inl (fun _ => 0))))] := hD
  refine W.widen (k := 2) (n := 1624) (Nat.le_of_ble_eq_true rfl) (Nat.le_of_ble_eq_true rfl) ?_
  refine va_putF (D := D) (ci := 9) (v := .ref q_2) (ty := .array .long) (C := RX9) (T := TX9) (N := 8) hx hb hg i_X9 tyX9 tyX9_ok nmX9 hown hK hP hD hS 0 rfl rfl 1 (by decide) (hg _ m_216) (fun _ h9 => h9) rfl hin rfl (by decide +kernel) rfl rfl (Nat.le_of_ble_eq_true rfl) dX9_init_18 (fun H locs hP hD hS => ?_)
  have hP : va_P D vwCl [(ta0, .inr (9, [.ref q_1, .ref q_2, .int 0, .int 0, .int 0, .int 0, .long 0, .int 0])), (q_1, .inl (cy 0, 1600, .inl (fun _ => 0))), (q_2, .inl (cy 2, 24, .inr (.inl (fun _ => 0))))] H := hP
  have hD : va_D A [(ta0, .inr (9, [.ref q_1, .ref q_2, .int 0, .int 0, .int 0, .int 0, .long 0, .int 0])), (q_1, .inl (cy 0, 1600, .inl (fun _ => 0))), (q_2, .inl (cy 2, 24, .inr (.inl (fun _ => 0))))] := hD
  refine lv_iconst (v := 0) hx hb dX9_init_21 (by decide) ?_
  refine lv_istore_n (lv' := [(1, .int 0), (0, .ref ta0)]) hx hb dX9_init_22 rfl hl (by decide) rfl (fun ls hl => ?_)
  refine lv_iconst (v := 0) hx hb dX9_init_23 (by decide) ?_
  refine lv_istore_n (lv' := [(2, .int 0), (1, .int 0), (0, .ref ta0)]) hx hb dX9_init_24 rfl hl (by decide) rfl (fun ls hl => ?_)
  have loop3 : ∀ (n i3 : Nat), i3 ≤ 115 → 116 ≤ i3 + n → ∀ (fk : Nat → Int64), ∀ (kx : Int32), (∃ k : Nat, k ≤ 24 ∧ kx = nI k) → ∀ (H : Heap) (locs : List Loc), va_P D vwCl [(ta0, .inr (9, [.ref q_1, .ref q_2, .int 0, .int 0, .int 0, .int 0, .long 0, .int 0])), (q_1, .inl (cy 0, 1600, .inl (fun _ => 0))), (q_2, .inl (cy 2, 24, .inr (.inl (fk))))] H → va_D A [(ta0, .inr (9, [.ref q_1, .ref q_2, .int 0, .int 0, .int 0, .int 0, .long 0, .int 0])), (q_1, .inl (cy 0, 1600, .inl (fun _ => 0))), (q_2, .inl (cy 2, 24, .inr (.inl (fk))))] → va_S A s.heap H locs → ∀ ls : Array Slot, lv_has ls 4 [(2, .int (nI i3)), (1, .int kx), (0, .ref ta0)] → W p l e (rmk 5 2 1624) s m args below meth c H locs 2 1624 Q (F0 m 25 ls []) := by
    intro n
    induction n with
    | zero => intro i3 h1 h2; exact absurd h2 (by omega)
    | succ n ih =>
      intro i3 hi3 hn3 fk kx hv3 H locs hP hD hS ls hl
      have ih3 := ih
      refine lv_iload_n hx hb dX9_init_25 rfl (lv_at hl 0 rfl) ?_
      refine va_ldcS hx hb hown hE.2.2.2.2.2.2.2.1 dX9_init_26 ?_
      refine x_callOi (C := RJ0) (wr := [(ta0, .inr (9, [.ref q_1, .ref q_2, .int 0, .int 0, .int 0, .int 0, .long 0, .int 0])), (q_1, .inl (cy 0, 1600, .inl (fun _ => 0))), (q_2, .inl (cy 2, 24, .inr (.inl (fk))))]) (rest := [.int (nI i3)]) ⟨hx, hb, hml, hown, hg, hl.1⟩ k_X9_21 (j_length l D cy adK adV) EV_blind hK hP hD hS hA [0, 1, 2] ⟨rfl, rfl, by decide, by decide, by decide⟩ (vk_recv (i := 0) hE.2.2.2.2.2.2.2.2.1 (by decide) hS) (fun U hU hW => EV_pass hE hS (va_free hD hS hA [] rfl) hU hW) dX9_init_28 rfl rfl (Nat.le_of_ble_eq_true rfl) ⟨Nat.le_of_ble_eq_true rfl, Nat.le_of_ble_eq_true rfl⟩ ⟨Nat.le_of_ble_eq_true rfl, Nat.le_of_ble_eq_true rfl⟩ (fun r4 u4 H locs hw4 hP hD hS => ?_)
      have hP : va_P D vwCl [(ta0, .inr (9, [.ref q_1, .ref q_2, .int 0, .int 0, .int 0, .int 0, .long 0, .int 0])), (q_1, .inl (cy 0, 1600, .inl (fun _ => 0))), (q_2, .inl (cy 2, 24, .inr (.inl (fk))))] H := hP
      have hD : va_D A [(ta0, .inr (9, [.ref q_1, .ref q_2, .int 0, .int 0, .int 0, .int 0, .long 0, .int 0])), (q_1, .inl (cy 0, 1600, .inl (fun _ => 0))), (q_2, .inl (cy 2, 24, .inr (.inl (fk))))] := hD
      refine W.widen (k := 2) (n := 1624) (Nat.le_of_ble_eq_true rfl) (Nat.le_of_ble_eq_true rfl) ?_
      have hw4 : r4 = 115 := hw4
      subst hw4
      refine lv_icmp_ge (tgt := 87) hx hb dX9_init_31 (by decide) (fun c3 => ?_) (fun c3 => ?_)
      · have hend3 : i3 = 115 := lp_end (N := 115) (by decide) hi3 (by decide) c3
        subst hend3
        exact x_vret hQ hx hb hr hlocks hK hP hD hS dX9_init_87 (fun k => [q_1, q_2].getD k 0) (trivial) [0, 1] (by decide) rfl (Nat.le_of_ble_eq_true rfl) (Nat.le_of_ble_eq_true rfl)
      · have hlt3 : i3 < 115 := lp_go (by decide) hi3 (by decide) c3
        refine lv_iload_n hx hb dX9_init_34 rfl (lv_at hl 1 rfl) ?_
        refine lv_bipush (v := 24) hx hb dX9_init_35 (by decide) ?_
        refine lv_icmp_ge (tgt := 87) hx hb dX9_init_37 (by decide) (fun c_37 => ?_) (fun c_37 => ?_)
        · exact x_vret hQ hx hb hr hlocks hK hP hD hS dX9_init_87 (fun k => [q_1, q_2].getD k 0) (trivial) [0, 1] (by decide) rfl (Nat.le_of_ble_eq_true rfl) (Nat.le_of_ble_eq_true rfl)
        · obtain ⟨k9, hk9, ek9⟩ := hv3
          have hk24 : k9 < 24 := lp_go (y := 24) (by decide) hk9 (by decide) (by rw [← ek9]; exact c_37)
          have hin9 : vp_in kx 24 := by rw [ek9]; exact vp_in_nI hk24 (by decide)
          refine va_ldcS hx hb hown hE.2.2.2.2.2.2.2.1 dX9_init_40 ?_
          refine lv_iload_n hx hb dX9_init_42 rfl (lv_at hl 0 rfl) ?_
          refine x_callOi (C := RJ0) (wr := [(ta0, .inr (9, [.ref q_1, .ref q_2, .int 0, .int 0, .int 0, .int 0, .long 0, .int 0])), (q_1, .inl (cy 0, 1600, .inl (fun _ => 0))), (q_2, .inl (cy 2, 24, .inr (.inl (fk))))]) (rest := []) ⟨hx, hb, hml, hown, hg, hl.1⟩ k_X9_27 (j_charAt l D cy adK adV (nI i3) (vp_in_nI (by omega) (by decide))) EV_blind hK hP hD hS hA [0, 1, 2] ⟨rfl, rfl, by decide, by decide, by decide⟩ (vk_recv (i := 0) hE.2.2.2.2.2.2.2.2.1 (by decide) hS) (fun U hU hW => EV_pass hE hS (va_free hD hS hA [] rfl) hU hW) dX9_init_43 rfl rfl (Nat.le_of_ble_eq_true rfl) ⟨Nat.le_of_ble_eq_true rfl, Nat.le_of_ble_eq_true rfl⟩ ⟨Nat.le_of_ble_eq_true rfl, Nat.le_of_ble_eq_true rfl⟩ (fun r5 u5 H locs hw5 hP hD hS => ?_)
          have hP : va_P D vwCl [(ta0, .inr (9, [.ref q_1, .ref q_2, .int 0, .int 0, .int 0, .int 0, .long 0, .int 0])), (q_1, .inl (cy 0, 1600, .inl (fun _ => 0))), (q_2, .inl (cy 2, 24, .inr (.inl (fk))))] H := hP
          have hD : va_D A [(ta0, .inr (9, [.ref q_1, .ref q_2, .int 0, .int 0, .int 0, .int 0, .long 0, .int 0])), (q_1, .inl (cy 0, 1600, .inl (fun _ => 0))), (q_2, .inl (cy 2, 24, .inr (.inl (fk))))] := hD
          refine W.widen (k := 2) (n := 1624) (Nat.le_of_ble_eq_true rfl) (Nat.le_of_ble_eq_true rfl) ?_
          have hw5 : True := hw5
          refine lv_istore_n (lv' := [(3, .int r5), (2, .int (nI i3)), (1, .int kx), (0, .ref ta0)]) hx hb dX9_init_46 rfl hl (by decide) rfl (fun ls hl => ?_)
          refine lv_iload_n hx hb dX9_init_47 rfl (lv_at hl 0 rfl) ?_
          refine lv_bipush (v := 32) hx hb dX9_init_48 (by decide) ?_
          refine lv_icmp_ne (tgt := 59) hx hb dX9_init_50 (by decide) (fun c_50 => ?_) (fun c_50 => ?_)
          · refine lv_aload_n hx hb dX9_init_59 rfl (lv_at hl 3 rfl) ?_
            refine va_get (D := D) (ci := 9) (v := .ref q_2) (C := RX9) (T := TX9) (N := 8) hx hb hg i_X9 hown hK hP 0 rfl rfl 1 (by decide) (hg _ m_216) (fun _ h9 => h9) rfl dX9_init_60 ?_
            refine lv_iload_n hx hb dX9_init_63 rfl (lv_at hl 2 rfl) ?_
            refine lv_aload_n hx hb dX9_init_64 rfl (lv_at hl 3 rfl) ?_
            refine va_get (D := D) (ci := 9) (v := .ref q_2) (C := RX9) (T := TX9) (N := 8) hx hb hg i_X9 hown hK hP 0 rfl rfl 1 (by decide) (hg _ m_216) (fun _ h9 => h9) rfl dX9_init_65 ?_
            refine lv_iload_n hx hb dX9_init_68 rfl (lv_at hl 2 rfl) ?_
            refine va_lald hx hb hK hP 2 2 rfl rfl hin9 dX9_init_69 ?_
            refine lv_topl (fun z_6 ez_6 => ?_)
            refine lv_ldc2 (v := 27) hx hb hown (hg _ m_214) dX9_init_70 ?_
            refine lv_lmul hx hb dX9_init_73 ?_
            refine lv_topl (fun z_7 ez_7 => ?_)
            refine lv_iload_n hx hb dX9_init_74 rfl (lv_at hl 0 rfl) ?_
            refine lv_bipush (v := 96) hx hb dX9_init_75 (by decide) ?_
            refine lv_isub hx hb dX9_init_77 ?_
            refine lv_topi (fun x_8 ex_8 => ?_)
            obtain ⟨z_9, ez_9⟩ : ∃ y : Int64, (x_8 : Int32).toInt64 = y := ⟨_, rfl⟩
            refine lv_i2l (v := z_9) hx hb dX9_init_78 ez_9 ?_
            refine lv_ladd hx hb dX9_init_79 ?_
            refine lv_topl (fun z_10 ez_10 => ?_)
            refine va_last hx hb hK hP hD hS 2 2 rfl rfl hin9 dX9_init_80 (fun H locs hP hD hS => ?_)
            obtain ⟨g_11, eg_11⟩ : ∃ y, vp_updL fk (kx : Int32).toNatClampNeg z_10 = y := ⟨_, rfl⟩
            rw [eg_11] at hP hD
            have hP : va_P D vwCl [(ta0, .inr (9, [.ref q_1, .ref q_2, .int 0, .int 0, .int 0, .int 0, .long 0, .int 0])), (q_1, .inl (cy 0, 1600, .inl (fun _ => 0))), (q_2, .inl (cy 2, 24, .inr (.inl (g_11))))] H := hP
            have hD : va_D A [(ta0, .inr (9, [.ref q_1, .ref q_2, .int 0, .int 0, .int 0, .int 0, .long 0, .int 0])), (q_1, .inl (cy 0, 1600, .inl (fun _ => 0))), (q_2, .inl (cy 2, 24, .inr (.inl (g_11))))] := hD
            refine lv_iinc (v := nI (i3 + 1)) (lv' := [(2, .int (nI (i3 + 1))), (3, .int r5), (1, .int kx), (0, .ref ta0)]) hx hb dX9_init_81 hl (k := 1) rfl (lp_inc i3) (by decide) rfl (fun ls hl => ?_)
            refine lv_goto (tgt := 25) hx hb dX9_init_84 (by decide) ?_
            exact ih3 (i3 + 1) (by omega) (by omega) g_11 kx ⟨k9, hk9, ek9⟩ _ _ (hP.sub [0, 1, 2] rfl) (hD.sub [0, 1, 2] (by decide) rfl) hS ls (lv_sub hl [0, 2, 3] rfl)
          · obtain ⟨x_12, ex_12⟩ : ∃ y : Int32, kx + Int32.ofInt (1) = y := ⟨_, rfl⟩
            refine lv_iinc (v := x_12) (lv' := [(1, .int x_12), (3, .int r5), (2, .int (nI i3)), (0, .ref ta0)]) hx hb dX9_init_53 hl (k := 2) rfl ex_12 (by decide) rfl (fun ls hl => ?_)
            refine lv_goto (tgt := 81) hx hb dX9_init_56 (by decide) ?_
            refine lv_iinc (v := nI (i3 + 1)) (lv' := [(2, .int (nI (i3 + 1))), (1, .int x_12), (3, .int r5), (0, .ref ta0)]) hx hb dX9_init_81 hl (k := 2) rfl (lp_inc i3) (by decide) rfl (fun ls hl => ?_)
            refine lv_goto (tgt := 25) hx hb dX9_init_84 (by decide) ?_
            exact ih3 (i3 + 1) (by omega) (by omega) fk x_12 ⟨k9 + 1, by omega, by rw [← ex_12, ek9]; exact lp_inc k9⟩ _ _ (hP.sub [0, 1, 2] rfl) (hD.sub [0, 1, 2] (by decide) rfl) hS ls (lv_sub hl [0, 1, 3] rfl)
  exact loop3 116 0 (by omega) (by omega) (fun _ => 0) 0 ⟨0, by omega, rfl⟩ _ _ (hP.sub [0, 1, 2] rfl) (hD.sub [0, 1, 2] (by decide) rfl) hS ls (lv_sub hl [0, 1, 2] rfl)
theorem dX10_init_0 : decode cX10_init 0 = .ok (.aload_n 0, 1) := by decide +kernel
theorem dX10_init_1 : decode cX10_init 1 = .ok (.invokespecial 3, 3) := by decide +kernel
theorem m_252 : (Cond.methodLink RX10 3 objectInit) ∈ gT := gm 252 (by decide +kernel) (by decide +kernel)
theorem dX10_init_4 : decode cX10_init 4 = .ok (.aload_n 0, 1) := by decide +kernel
theorem dX10_init_5 : decode cX10_init 5 = .ok (.iconst 4, 1) := by decide +kernel
theorem dX10_init_6 : decode cX10_init 6 = .ok (.bipush 8, 2) := by decide +kernel
theorem dX10_init_8 : decode cX10_init 8 = .ok (.multianewarray 9 2, 4) := by decide +kernel
theorem m_253 : (Cond.classLink RX10 9 "[[J") ∈ gT := gm 253 (by decide +kernel) (by decide +kernel)
theorem dX10_init_12 : decode cX10_init 12 = .ok (.putfield 11, 3) := by decide +kernel
theorem m_256 : (Cond.fieldLink RX10 11 "CliffJudges$Teller" "names" "[[J") ∈ gT := gm 256 (by decide +kernel) (by decide +kernel)
theorem dX10_init_15 : decode cX10_init 15 = .ok (.aload_n 0, 1) := by decide +kernel
theorem dX10_init_16 : decode cX10_init 16 = .ok (.aload_n 1, 1) := by decide +kernel
theorem dX10_init_17 : decode cX10_init 17 = .ok (.putfield 16, 3) := by decide +kernel
theorem dX10_init_20 : decode cX10_init 20 = .ok (.aload_n 0, 1) := by decide +kernel
theorem dX10_init_21 : decode cX10_init 21 = .ok (.iconst (-1), 1) := by decide +kernel
theorem dX10_init_22 : decode cX10_init 22 = .ok (.putfield 20, 3) := by decide +kernel
theorem dX10_init_25 : decode cX10_init 25 = .ok (.return_, 1) := by decide +kernel
set_option maxHeartbeats 400000 in
set_option maxRecDepth 100000 in
theorem n_Teller (l : Launch) (D : va_G) (cy : Nat → ClassId) (adK : Nat → Nat) (adV : Nat → Nat) (te0 : Nat) (tp : Nat)  : XMv l D (tyL cy) (EV adK adV) yX10_init cX10_init 2 none (rmk 1 5 36) [.ref te0, .ref tp] [(te0, .inr (10, [.null, .null, .null, .null, .int 0, .int 0, .int 0, .int 0, .int 0, .int 0]))] (fun (na : Nat) => True) (fun (na : Nat) => [(te0, .inr (10, [.ref tp, .ref na, .null, .null, .int 0, .int 0, .int 0, .int 0, .int 0, .int (-1)]))]) := by
  refine XMv.start (by decide) (Nat.le_of_ble_eq_true rfl) ?_
  intro p e s m below meth c args A ls Q hat hQ
  obtain ⟨hx, hb, hr, hml, hown, hg, hlocks, hin, hK, hA, hP, hD, hS, hE, hl⟩ := hat
  have hown : s.vm.findClass RX10 = some m.cls := hown
  have hl : lv_has ls 2 [(0, .ref te0), (1, .ref tp)] := hl
  refine lv_aload_n hx hb dX10_init_0 rfl (lv_at hl 0 rfl) ?_
  refine W.objInit hx hb hown (hg _ m_252) (hg _ m_157) (hg _ m_158) rfl (by rw [hml]; exact hl.1) rfl dX10_init_1 (by decide) (Nat.le_of_ble_eq_true rfl) ?_
  refine W.eq (g2 := F0 m 4 ls []) rfl ?_
  refine lv_aload_n hx hb dX10_init_4 rfl (lv_at hl 0 rfl) ?_
  refine lv_iconst (v := 4) hx hb dX10_init_5 (by decide) ?_
  refine lv_bipush (v := 8) hx hb dX10_init_6 (by decide) ?_
  refine x_mna (D := D) (ty := .long) (N' := 4) (K' := 8) hx hb hown (hg _ m_253) hE.2.2.2.2.2.1 (hg _ m_246) hP hS (by decide) (by decide) (by decide) (by decide) (by decide) (by decide) (by decide) rfl rfl (by decide) (by decide) dX10_init_8 (fun q_1 H hP hS => ?_)
  refine W.widen (k := 5) (n := 36) (Nat.le_of_ble_eq_true rfl) (Nat.le_of_ble_eq_true rfl) ?_
  refine va_putF (D := D) (ci := 10) (v := .ref q_1) (ty := .array (.array .long)) (C := RX10) (T := TX10) (N := 10) hx hb hg i_X10 tyX10 tyX10_ok nmX10 hown hK hP hD hS 0 rfl rfl 1 (by decide) (hg _ m_256) (fun _ h9 => h9) rfl hin rfl (by decide +kernel) rfl rfl (Nat.le_of_ble_eq_true rfl) dX10_init_12 (fun H locs hP hD hS => ?_)
  have hP : va_P D vwCl [(te0, .inr (10, [.null, .ref q_1, .null, .null, .int 0, .int 0, .int 0, .int 0, .int 0, .int 0]))] H := hP
  have hD : va_D A [(te0, .inr (10, [.null, .ref q_1, .null, .null, .int 0, .int 0, .int 0, .int 0, .int 0, .int 0]))] := hD
  refine lv_aload_n hx hb dX10_init_15 rfl (lv_at hl 0 rfl) ?_
  refine lv_aload_n hx hb dX10_init_16 rfl (lv_at hl 1 rfl) ?_
  refine va_putF (D := D) (ci := 10) (v := .ref tp) (ty := .object "CliffJudges$Tape") (C := RX10) (T := TX10) (N := 10) hx hb hg i_X10 tyX10 tyX10_ok nmX10 hown hK hP hD hS 0 rfl rfl 0 (by decide) (hg _ m_255) (fun _ h9 => h9) rfl hin rfl (by decide +kernel) rfl rfl (Nat.le_of_ble_eq_true rfl) dX10_init_17 (fun H locs hP hD hS => ?_)
  have hP : va_P D vwCl [(te0, .inr (10, [.ref tp, .ref q_1, .null, .null, .int 0, .int 0, .int 0, .int 0, .int 0, .int 0]))] H := hP
  have hD : va_D A [(te0, .inr (10, [.ref tp, .ref q_1, .null, .null, .int 0, .int 0, .int 0, .int 0, .int 0, .int 0]))] := hD
  refine lv_aload_n hx hb dX10_init_20 rfl (lv_at hl 0 rfl) ?_
  refine lv_iconst (v := -1) hx hb dX10_init_21 (by decide) ?_
  refine va_put (D := D) (ci := 10) (v := .int (-1)) (ty := .int) (C := RX10) (T := TX10) (N := 10) hx hb hg i_X10 tyX10 tyX10_ok nmX10 hown hK hP hD hS 0 rfl rfl 9 (by decide) (hg _ m_265) (fun _ h9 => h9) rfl (by decide +kernel) rfl rfl (Nat.le_of_ble_eq_true rfl) dX10_init_22 (fun H locs hP hD hS => ?_)
  have hP : va_P D vwCl [(te0, .inr (10, [.ref tp, .ref q_1, .null, .null, .int 0, .int 0, .int 0, .int 0, .int 0, .int (-1)]))] H := hP
  have hD : va_D A [(te0, .inr (10, [.ref tp, .ref q_1, .null, .null, .int 0, .int 0, .int 0, .int 0, .int 0, .int (-1)]))] := hD
  exact x_vret hQ hx hb hr hlocks hK hP hD hS dX10_init_25 q_1 (trivial) [0] (by decide) rfl (Nat.le_of_ble_eq_true rfl) (Nat.le_of_ble_eq_true rfl)
theorem dX2_init_0 : decode cX2_init 0 = .ok (.aload_n 0, 1) := by decide +kernel
theorem dX2_init_1 : decode cX2_init 1 = .ok (.invokespecial 3, 3) := by decide +kernel
theorem m_511 : (Cond.methodLink RX2 3 objectInit) ∈ gT := gm 511 (by decide +kernel) (by decide +kernel)
theorem dX2_init_4 : decode cX2_init 4 = .ok (.aload_n 0, 1) := by decide +kernel
theorem dX2_init_5 : decode cX2_init 5 = .ok (.bipush 10, 2) := by decide +kernel
theorem dX2_init_7 : decode cX2_init 7 = .ok (.newarray .int, 2) := by decide +kernel
theorem m_316 : (Cond.arrayClass .int) ∈ gT := gm 316 (by decide +kernel) (by decide +kernel)
theorem dX2_init_9 : decode cX2_init 9 = .ok (.putfield 9, 3) := by decide +kernel
set_option maxRecDepth 20000 in
theorem i_X2 : ∀ w ∈ u_ws RX2 TX2 5, w ∈ gT := gin [520, 522, 524, 526, 528] (by decide +kernel) (by decide +kernel)
theorem m_512 : (Cond.fieldLink RX2 9 "CliffJudges$Ear" "gone" "[I") ∈ gT := gm 512 (by decide +kernel) (by decide +kernel)
theorem dX2_init_12 : decode cX2_init 12 = .ok (.aload_n 0, 1) := by decide +kernel
theorem dX2_init_13 : decode cX2_init 13 = .ok (.bipush 7, 2) := by decide +kernel
theorem dX2_init_15 : decode cX2_init 15 = .ok (.newarray .int, 2) := by decide +kernel
theorem dX2_init_17 : decode cX2_init 17 = .ok (.putfield 17, 3) := by decide +kernel
theorem m_515 : (Cond.fieldLink RX2 17 "CliffJudges$Ear" "facts" "[I") ∈ gT := gm 515 (by decide +kernel) (by decide +kernel)
theorem dX2_init_20 : decode cX2_init 20 = .ok (.return_, 1) := by decide +kernel
set_option maxHeartbeats 400000 in
set_option maxRecDepth 100000 in
theorem n_Ear (l : Launch) (D : va_G) (cy : Nat → ClassId) (adK : Nat → Nat) (adV : Nat → Nat) (o0 : Nat)  : XMv l D (tyL cy) (EV adK adV) yX2_init cX2_init 1 none (rmk 1 2 17) [.ref o0] [(o0, .inr (2, [.null, .null, .int 0, .int 0, .int 0]))] (fun (vs : Nat → Value) => True) (fun (vs : Nat → Value) => [(o0, .inr (2, [vs 0, vs 1, .int 0, .int 0, .int 0]))]) := by
  refine XMv.start (by decide) (Nat.le_of_ble_eq_true rfl) ?_
  intro p e s m below meth c args A ls Q hat hQ
  obtain ⟨hx, hb, hr, hml, hown, hg, hlocks, hin, hK, hA, hP, hD, hS, hE, hl⟩ := hat
  have hown : s.vm.findClass RX2 = some m.cls := hown
  have hl : lv_has ls 1 [(0, .ref o0)] := hl
  refine lv_aload_n hx hb dX2_init_0 rfl (lv_at hl 0 rfl) ?_
  refine W.objInit hx hb hown (hg _ m_511) (hg _ m_157) (hg _ m_158) rfl (by rw [hml]; exact hl.1) rfl dX2_init_1 (by decide) (Nat.le_of_ble_eq_true rfl) ?_
  refine W.eq (g2 := F0 m 4 ls []) rfl ?_
  refine lv_aload_n hx hb dX2_init_4 rfl (lv_at hl 0 rfl) ?_
  refine lv_bipush (v := 10) hx hb dX2_init_5 (by decide) ?_
  refine x_newa (atype := .int) (ty := .int) (a0 := (10, .inl (fun _ => 0))) (N' := 10) hx hb (hg _ m_316) rfl hK 1 rfl one_int hP hD hS hA (fun _ => rfl) (by decide) (by decide) (by decide) (by decide) (by decide) dX2_init_7 (fun q_1 H hP hD hS => ?_)
  have hP : va_P D vwCl [(o0, .inr (2, [.null, .null, .int 0, .int 0, .int 0])), (q_1, .inl (cy 1, 10, .inl (fun _ => 0)))] H := hP
  have hD : va_D A [(o0, .inr (2, [.null, .null, .int 0, .int 0, .int 0])), (q_1, .inl (cy 1, 10, .inl (fun _ => 0)))] := hD
  refine W.widen (k := 1) (n := 10) (Nat.le_of_ble_eq_true rfl) (Nat.le_of_ble_eq_true rfl) ?_
  refine va_putF (D := D) (ci := 2) (v := .ref q_1) (ty := .array .int) (C := RX2) (T := TX2) (N := 5) hx hb hg i_X2 tyX2 tyX2_ok nmX2 hown hK hP hD hS 0 rfl rfl 0 (by decide) (hg _ m_512) (fun _ h9 => h9) rfl hin rfl (by decide +kernel) rfl rfl (Nat.le_of_ble_eq_true rfl) dX2_init_9 (fun H locs hP hD hS => ?_)
  have hP : va_P D vwCl [(o0, .inr (2, [.ref q_1, .null, .int 0, .int 0, .int 0])), (q_1, .inl (cy 1, 10, .inl (fun _ => 0)))] H := hP
  have hD : va_D A [(o0, .inr (2, [.ref q_1, .null, .int 0, .int 0, .int 0])), (q_1, .inl (cy 1, 10, .inl (fun _ => 0)))] := hD
  refine lv_aload_n hx hb dX2_init_12 rfl (lv_at hl 0 rfl) ?_
  refine lv_bipush (v := 7) hx hb dX2_init_13 (by decide) ?_
  refine x_newa (atype := .int) (ty := .int) (a0 := (7, .inl (fun _ => 0))) (N' := 7) hx hb (hg _ m_316) rfl hK 1 rfl one_int hP hD hS hA (fun _ => rfl) (by decide) (by decide) (by decide) (by decide) (by decide) dX2_init_15 (fun q_2 H hP hD hS => ?_)
  have hP : va_P D vwCl [(o0, .inr (2, [.ref q_1, .null, .int 0, .int 0, .int 0])), (q_1, .inl (cy 1, 10, .inl (fun _ => 0))), (q_2, .inl (cy 1, 7, .inl (fun _ => 0)))] H := hP
  have hD : va_D A [(o0, .inr (2, [.ref q_1, .null, .int 0, .int 0, .int 0])), (q_1, .inl (cy 1, 10, .inl (fun _ => 0))), (q_2, .inl (cy 1, 7, .inl (fun _ => 0)))] := hD
  refine W.widen (k := 2) (n := 17) (Nat.le_of_ble_eq_true rfl) (Nat.le_of_ble_eq_true rfl) ?_
  refine va_putF (D := D) (ci := 2) (v := .ref q_2) (ty := .array .int) (C := RX2) (T := TX2) (N := 5) hx hb hg i_X2 tyX2 tyX2_ok nmX2 hown hK hP hD hS 0 rfl rfl 1 (by decide) (hg _ m_515) (fun _ h9 => h9) rfl hin rfl (by decide +kernel) rfl rfl (Nat.le_of_ble_eq_true rfl) dX2_init_17 (fun H locs hP hD hS => ?_)
  have hP : va_P D vwCl [(o0, .inr (2, [.ref q_1, .ref q_2, .int 0, .int 0, .int 0])), (q_1, .inl (cy 1, 10, .inl (fun _ => 0))), (q_2, .inl (cy 1, 7, .inl (fun _ => 0)))] H := hP
  have hD : va_D A [(o0, .inr (2, [.ref q_1, .ref q_2, .int 0, .int 0, .int 0])), (q_1, .inl (cy 1, 10, .inl (fun _ => 0))), (q_2, .inl (cy 1, 7, .inl (fun _ => 0)))] := hD
  exact x_vret hQ hx hb hr hlocks hK hP hD hS dX2_init_20 (fun k => [.ref q_1, .ref q_2].getD k .null) (trivial) [0] (by decide) rfl (Nat.le_of_ble_eq_true rfl) (Nat.le_of_ble_eq_true rfl)
theorem dX3_init_0 : decode cX3_init 0 = .ok (.aload_n 0, 1) := by decide +kernel
theorem dX3_init_1 : decode cX3_init 1 = .ok (.invokespecial 1, 3) := by decide +kernel
theorem m_299 : (Cond.methodLink RX3 1 objectInit) ∈ gT := gm 299 (by decide +kernel) (by decide +kernel)
theorem dX3_init_4 : decode cX3_init 4 = .ok (.aload_n 0, 1) := by decide +kernel
theorem dX3_init_5 : decode cX3_init 5 = .ok (.sipush 280, 3) := by decide +kernel
theorem dX3_init_8 : decode cX3_init 8 = .ok (.newarray .int, 2) := by decide +kernel
theorem dX3_init_10 : decode cX3_init 10 = .ok (.putfield 9, 3) := by decide +kernel
theorem m_300 : (Cond.fieldLink RX3 9 "CliffJudges$Formula" "code" "[I") ∈ gT := gm 300 (by decide +kernel) (by decide +kernel)
theorem dX3_init_13 : decode cX3_init 13 = .ok (.aload_n 0, 1) := by decide +kernel
theorem dX3_init_14 : decode cX3_init 14 = .ok (.bipush 31, 2) := by decide +kernel
theorem dX3_init_16 : decode cX3_init 16 = .ok (.newarray .int, 2) := by decide +kernel
theorem dX3_init_18 : decode cX3_init 18 = .ok (.putfield 13, 3) := by decide +kernel
theorem m_301 : (Cond.fieldLink RX3 13 "CliffJudges$Formula" "stack" "[I") ∈ gT := gm 301 (by decide +kernel) (by decide +kernel)
theorem dX3_init_21 : decode cX3_init 21 = .ok (.return_, 1) := by decide +kernel
set_option maxHeartbeats 400000 in
set_option maxRecDepth 100000 in
theorem n_Formula (l : Launch) (D : va_G) (cy : Nat → ClassId) (adK : Nat → Nat) (adV : Nat → Nat) (o0 : Nat)  : XMv l D (tyL cy) (EV adK adV) yX3_init cX3_init 1 none (rmk 1 2 311) [.ref o0] [(o0, .inr (3, [.null, .null, .int 0, .int 0]))] (fun (vs : Nat → Value) => True) (fun (vs : Nat → Value) => [(o0, .inr (3, [vs 0, vs 1, .int 0, .int 0]))]) := by
  refine XMv.start (by decide) (Nat.le_of_ble_eq_true rfl) ?_
  intro p e s m below meth c args A ls Q hat hQ
  obtain ⟨hx, hb, hr, hml, hown, hg, hlocks, hin, hK, hA, hP, hD, hS, hE, hl⟩ := hat
  have hown : s.vm.findClass RX3 = some m.cls := hown
  have hl : lv_has ls 1 [(0, .ref o0)] := hl
  refine lv_aload_n hx hb dX3_init_0 rfl (lv_at hl 0 rfl) ?_
  refine W.objInit hx hb hown (hg _ m_299) (hg _ m_157) (hg _ m_158) rfl (by rw [hml]; exact hl.1) rfl dX3_init_1 (by decide) (Nat.le_of_ble_eq_true rfl) ?_
  refine W.eq (g2 := F0 m 4 ls []) rfl ?_
  refine lv_aload_n hx hb dX3_init_4 rfl (lv_at hl 0 rfl) ?_
  refine lv_sipush (v := 280) hx hb dX3_init_5 (by decide) ?_
  refine x_newa (atype := .int) (ty := .int) (a0 := (280, .inl (fun _ => 0))) (N' := 280) hx hb (hg _ m_316) rfl hK 1 rfl one_int hP hD hS hA (fun _ => rfl) (by decide) (by decide) (by decide) (by decide) (by decide) dX3_init_8 (fun q_1 H hP hD hS => ?_)
  have hP : va_P D vwCl [(o0, .inr (3, [.null, .null, .int 0, .int 0])), (q_1, .inl (cy 1, 280, .inl (fun _ => 0)))] H := hP
  have hD : va_D A [(o0, .inr (3, [.null, .null, .int 0, .int 0])), (q_1, .inl (cy 1, 280, .inl (fun _ => 0)))] := hD
  refine W.widen (k := 1) (n := 280) (Nat.le_of_ble_eq_true rfl) (Nat.le_of_ble_eq_true rfl) ?_
  refine va_putF (D := D) (ci := 3) (v := .ref q_1) (ty := .array .int) (C := RX3) (T := TX3) (N := 4) hx hb hg i_X3 tyX3 tyX3_ok nmX3 hown hK hP hD hS 0 rfl rfl 0 (by decide) (hg _ m_300) (fun _ h9 => h9) rfl hin rfl (by decide +kernel) rfl rfl (Nat.le_of_ble_eq_true rfl) dX3_init_10 (fun H locs hP hD hS => ?_)
  have hP : va_P D vwCl [(o0, .inr (3, [.ref q_1, .null, .int 0, .int 0])), (q_1, .inl (cy 1, 280, .inl (fun _ => 0)))] H := hP
  have hD : va_D A [(o0, .inr (3, [.ref q_1, .null, .int 0, .int 0])), (q_1, .inl (cy 1, 280, .inl (fun _ => 0)))] := hD
  refine lv_aload_n hx hb dX3_init_13 rfl (lv_at hl 0 rfl) ?_
  refine lv_bipush (v := 31) hx hb dX3_init_14 (by decide) ?_
  refine x_newa (atype := .int) (ty := .int) (a0 := (31, .inl (fun _ => 0))) (N' := 31) hx hb (hg _ m_316) rfl hK 1 rfl one_int hP hD hS hA (fun _ => rfl) (by decide) (by decide) (by decide) (by decide) (by decide) dX3_init_16 (fun q_2 H hP hD hS => ?_)
  have hP : va_P D vwCl [(o0, .inr (3, [.ref q_1, .null, .int 0, .int 0])), (q_1, .inl (cy 1, 280, .inl (fun _ => 0))), (q_2, .inl (cy 1, 31, .inl (fun _ => 0)))] H := hP
  have hD : va_D A [(o0, .inr (3, [.ref q_1, .null, .int 0, .int 0])), (q_1, .inl (cy 1, 280, .inl (fun _ => 0))), (q_2, .inl (cy 1, 31, .inl (fun _ => 0)))] := hD
  refine W.widen (k := 2) (n := 311) (Nat.le_of_ble_eq_true rfl) (Nat.le_of_ble_eq_true rfl) ?_
  refine va_putF (D := D) (ci := 3) (v := .ref q_2) (ty := .array .int) (C := RX3) (T := TX3) (N := 4) hx hb hg i_X3 tyX3 tyX3_ok nmX3 hown hK hP hD hS 0 rfl rfl 1 (by decide) (hg _ m_301) (fun _ h9 => h9) rfl hin rfl (by decide +kernel) rfl rfl (Nat.le_of_ble_eq_true rfl) dX3_init_18 (fun H locs hP hD hS => ?_)
  have hP : va_P D vwCl [(o0, .inr (3, [.ref q_1, .ref q_2, .int 0, .int 0])), (q_1, .inl (cy 1, 280, .inl (fun _ => 0))), (q_2, .inl (cy 1, 31, .inl (fun _ => 0)))] H := hP
  have hD : va_D A [(o0, .inr (3, [.ref q_1, .ref q_2, .int 0, .int 0])), (q_1, .inl (cy 1, 280, .inl (fun _ => 0))), (q_2, .inl (cy 1, 31, .inl (fun _ => 0)))] := hD
  exact x_vret hQ hx hb hr hlocks hK hP hD hS dX3_init_21 (fun k => [.ref q_1, .ref q_2].getD k .null) (trivial) [0] (by decide) rfl (Nat.le_of_ble_eq_true rfl) (Nat.le_of_ble_eq_true rfl)
theorem dX5_init_0 : decode cX5_init 0 = .ok (.aload_n 0, 1) := by decide +kernel
theorem dX5_init_1 : decode cX5_init 1 = .ok (.invokespecial 5, 3) := by decide +kernel
theorem m_422 : (Cond.methodLink RX5 5 objectInit) ∈ gT := gm 422 (by decide +kernel) (by decide +kernel)
theorem dX5_init_4 : decode cX5_init 4 = .ok (.aload_n 0, 1) := by decide +kernel
theorem dX5_init_5 : decode cX5_init 5 = .ok (.bipush 41, 2) := by decide +kernel
theorem dX5_init_7 : decode cX5_init 7 = .ok (.newarray .int, 2) := by decide +kernel
theorem dX5_init_9 : decode cX5_init 9 = .ok (.putfield 11, 3) := by decide +kernel
theorem dX5_init_12 : decode cX5_init 12 = .ok (.aload_n 0, 1) := by decide +kernel
theorem dX5_init_13 : decode cX5_init 13 = .ok (.sipush 1681, 3) := by decide +kernel
theorem dX5_init_16 : decode cX5_init 16 = .ok (.newarray .int, 2) := by decide +kernel
theorem dX5_init_18 : decode cX5_init 18 = .ok (.putfield 15, 3) := by decide +kernel
theorem dX5_init_21 : decode cX5_init 21 = .ok (.aload_n 0, 1) := by decide +kernel
theorem dX5_init_22 : decode cX5_init 22 = .ok (.bipush 123, 2) := by decide +kernel
theorem dX5_init_24 : decode cX5_init 24 = .ok (.newarray .int, 2) := by decide +kernel
theorem dX5_init_26 : decode cX5_init 26 = .ok (.putfield 18, 3) := by decide +kernel
theorem dX5_init_29 : decode cX5_init 29 = .ok (.return_, 1) := by decide +kernel
set_option maxHeartbeats 400000 in
set_option maxRecDepth 100000 in
theorem n_Moments (l : Launch) (D : va_G) (cy : Nat → ClassId) (adK : Nat → Nat) (adV : Nat → Nat) (o0 : Nat)  : XMv l D (tyL cy) (EV adK adV) yX5_init cX5_init 1 none (rmk 1 3 1845) [.ref o0] [(o0, .inr (5, [.null, .null, .null, .int 0, .int 0, .int 0, .int 0]))] (fun (ad : Nat → Nat) => True) (fun (ad : Nat → Nat) => [(o0, .inr (5, [.ref (ad 0), .ref (ad 1), .ref (ad 2), .int 0, .int 0, .int 0, .int 0])), (ad 0, .inl (cy 1, 41, .inl (fun _ => 0))), (ad 1, .inl (cy 1, 1681, .inl (fun _ => 0))), (ad 2, .inl (cy 1, 123, .inl (fun _ => 0)))]) := by
  refine XMv.start (by decide) (Nat.le_of_ble_eq_true rfl) ?_
  intro p e s m below meth c args A ls Q hat hQ
  obtain ⟨hx, hb, hr, hml, hown, hg, hlocks, hin, hK, hA, hP, hD, hS, hE, hl⟩ := hat
  have hown : s.vm.findClass RX5 = some m.cls := hown
  have hl : lv_has ls 1 [(0, .ref o0)] := hl
  refine lv_aload_n hx hb dX5_init_0 rfl (lv_at hl 0 rfl) ?_
  refine W.objInit hx hb hown (hg _ m_422) (hg _ m_157) (hg _ m_158) rfl (by rw [hml]; exact hl.1) rfl dX5_init_1 (by decide) (Nat.le_of_ble_eq_true rfl) ?_
  refine W.eq (g2 := F0 m 4 ls []) rfl ?_
  refine lv_aload_n hx hb dX5_init_4 rfl (lv_at hl 0 rfl) ?_
  refine lv_bipush (v := 41) hx hb dX5_init_5 (by decide) ?_
  refine x_newa (atype := .int) (ty := .int) (a0 := (41, .inl (fun _ => 0))) (N' := 41) hx hb (hg _ m_316) rfl hK 1 rfl one_int hP hD hS hA (fun _ => rfl) (by decide) (by decide) (by decide) (by decide) (by decide) dX5_init_7 (fun q_1 H hP hD hS => ?_)
  have hP : va_P D vwCl [(o0, .inr (5, [.null, .null, .null, .int 0, .int 0, .int 0, .int 0])), (q_1, .inl (cy 1, 41, .inl (fun _ => 0)))] H := hP
  have hD : va_D A [(o0, .inr (5, [.null, .null, .null, .int 0, .int 0, .int 0, .int 0])), (q_1, .inl (cy 1, 41, .inl (fun _ => 0)))] := hD
  refine W.widen (k := 1) (n := 41) (Nat.le_of_ble_eq_true rfl) (Nat.le_of_ble_eq_true rfl) ?_
  refine va_putF (D := D) (ci := 5) (v := .ref q_1) (ty := .array .int) (C := RX5) (T := TX5) (N := 7) hx hb hg i_X5 tyX5 tyX5_ok nmX5 hown hK hP hD hS 0 rfl rfl 0 (by decide) (hg _ m_423) (fun _ h9 => h9) rfl hin rfl (by decide +kernel) rfl rfl (Nat.le_of_ble_eq_true rfl) dX5_init_9 (fun H locs hP hD hS => ?_)
  have hP : va_P D vwCl [(o0, .inr (5, [.ref q_1, .null, .null, .int 0, .int 0, .int 0, .int 0])), (q_1, .inl (cy 1, 41, .inl (fun _ => 0)))] H := hP
  have hD : va_D A [(o0, .inr (5, [.ref q_1, .null, .null, .int 0, .int 0, .int 0, .int 0])), (q_1, .inl (cy 1, 41, .inl (fun _ => 0)))] := hD
  refine lv_aload_n hx hb dX5_init_12 rfl (lv_at hl 0 rfl) ?_
  refine lv_sipush (v := 1681) hx hb dX5_init_13 (by decide) ?_
  refine x_newa (atype := .int) (ty := .int) (a0 := (1681, .inl (fun _ => 0))) (N' := 1681) hx hb (hg _ m_316) rfl hK 1 rfl one_int hP hD hS hA (fun _ => rfl) (by decide) (by decide) (by decide) (by decide) (by decide) dX5_init_16 (fun q_2 H hP hD hS => ?_)
  have hP : va_P D vwCl [(o0, .inr (5, [.ref q_1, .null, .null, .int 0, .int 0, .int 0, .int 0])), (q_1, .inl (cy 1, 41, .inl (fun _ => 0))), (q_2, .inl (cy 1, 1681, .inl (fun _ => 0)))] H := hP
  have hD : va_D A [(o0, .inr (5, [.ref q_1, .null, .null, .int 0, .int 0, .int 0, .int 0])), (q_1, .inl (cy 1, 41, .inl (fun _ => 0))), (q_2, .inl (cy 1, 1681, .inl (fun _ => 0)))] := hD
  refine W.widen (k := 2) (n := 1722) (Nat.le_of_ble_eq_true rfl) (Nat.le_of_ble_eq_true rfl) ?_
  refine va_putF (D := D) (ci := 5) (v := .ref q_2) (ty := .array .int) (C := RX5) (T := TX5) (N := 7) hx hb hg i_X5 tyX5 tyX5_ok nmX5 hown hK hP hD hS 0 rfl rfl 1 (by decide) (hg _ m_425) (fun _ h9 => h9) rfl hin rfl (by decide +kernel) rfl rfl (Nat.le_of_ble_eq_true rfl) dX5_init_18 (fun H locs hP hD hS => ?_)
  have hP : va_P D vwCl [(o0, .inr (5, [.ref q_1, .ref q_2, .null, .int 0, .int 0, .int 0, .int 0])), (q_1, .inl (cy 1, 41, .inl (fun _ => 0))), (q_2, .inl (cy 1, 1681, .inl (fun _ => 0)))] H := hP
  have hD : va_D A [(o0, .inr (5, [.ref q_1, .ref q_2, .null, .int 0, .int 0, .int 0, .int 0])), (q_1, .inl (cy 1, 41, .inl (fun _ => 0))), (q_2, .inl (cy 1, 1681, .inl (fun _ => 0)))] := hD
  refine lv_aload_n hx hb dX5_init_21 rfl (lv_at hl 0 rfl) ?_
  refine lv_bipush (v := 123) hx hb dX5_init_22 (by decide) ?_
  refine x_newa (atype := .int) (ty := .int) (a0 := (123, .inl (fun _ => 0))) (N' := 123) hx hb (hg _ m_316) rfl hK 1 rfl one_int hP hD hS hA (fun _ => rfl) (by decide) (by decide) (by decide) (by decide) (by decide) dX5_init_24 (fun q_3 H hP hD hS => ?_)
  have hP : va_P D vwCl [(o0, .inr (5, [.ref q_1, .ref q_2, .null, .int 0, .int 0, .int 0, .int 0])), (q_1, .inl (cy 1, 41, .inl (fun _ => 0))), (q_2, .inl (cy 1, 1681, .inl (fun _ => 0))), (q_3, .inl (cy 1, 123, .inl (fun _ => 0)))] H := hP
  have hD : va_D A [(o0, .inr (5, [.ref q_1, .ref q_2, .null, .int 0, .int 0, .int 0, .int 0])), (q_1, .inl (cy 1, 41, .inl (fun _ => 0))), (q_2, .inl (cy 1, 1681, .inl (fun _ => 0))), (q_3, .inl (cy 1, 123, .inl (fun _ => 0)))] := hD
  refine W.widen (k := 3) (n := 1845) (Nat.le_of_ble_eq_true rfl) (Nat.le_of_ble_eq_true rfl) ?_
  refine va_putF (D := D) (ci := 5) (v := .ref q_3) (ty := .array .int) (C := RX5) (T := TX5) (N := 7) hx hb hg i_X5 tyX5 tyX5_ok nmX5 hown hK hP hD hS 0 rfl rfl 2 (by decide) (hg _ m_426) (fun _ h9 => h9) rfl hin rfl (by decide +kernel) rfl rfl (Nat.le_of_ble_eq_true rfl) dX5_init_26 (fun H locs hP hD hS => ?_)
  have hP : va_P D vwCl [(o0, .inr (5, [.ref q_1, .ref q_2, .ref q_3, .int 0, .int 0, .int 0, .int 0])), (q_1, .inl (cy 1, 41, .inl (fun _ => 0))), (q_2, .inl (cy 1, 1681, .inl (fun _ => 0))), (q_3, .inl (cy 1, 123, .inl (fun _ => 0)))] H := hP
  have hD : va_D A [(o0, .inr (5, [.ref q_1, .ref q_2, .ref q_3, .int 0, .int 0, .int 0, .int 0])), (q_1, .inl (cy 1, 41, .inl (fun _ => 0))), (q_2, .inl (cy 1, 1681, .inl (fun _ => 0))), (q_3, .inl (cy 1, 123, .inl (fun _ => 0)))] := hD
  exact x_vret hQ hx hb hr hlocks hK hP hD hS dX5_init_29 (fun k => [q_1, q_2, q_3].getD k 0) (trivial) [0, 1, 2, 3] (by decide) rfl (Nat.le_of_ble_eq_true rfl) (Nat.le_of_ble_eq_true rfl)
theorem dX7_init_0 : decode cX7_init 0 = .ok (.aload_n 0, 1) := by decide +kernel
theorem dX7_init_1 : decode cX7_init 1 = .ok (.invokespecial 3, 3) := by decide +kernel
theorem m_618 : (Cond.methodLink RX7 3 objectInit) ∈ gT := gm 618 (by decide +kernel) (by decide +kernel)
theorem dX7_init_4 : decode cX7_init 4 = .ok (.aload_n 0, 1) := by decide +kernel
theorem dX7_init_5 : decode cX7_init 5 = .ok (.bipush 10, 2) := by decide +kernel
theorem dX7_init_7 : decode cX7_init 7 = .ok (.newarray .int, 2) := by decide +kernel
theorem dX7_init_9 : decode cX7_init 9 = .ok (.putfield 9, 3) := by decide +kernel
theorem m_619 : (Cond.fieldLink RX7 9 "CliffJudges$Shout" "words" "[I") ∈ gT := gm 619 (by decide +kernel) (by decide +kernel)
theorem dX7_init_12 : decode cX7_init 12 = .ok (.aload_n 0, 1) := by decide +kernel
theorem dX7_init_13 : decode cX7_init 13 = .ok (.iconst 4, 1) := by decide +kernel
theorem dX7_init_14 : decode cX7_init 14 = .ok (.newarray .int, 2) := by decide +kernel
theorem dX7_init_16 : decode cX7_init 16 = .ok (.putfield 15, 3) := by decide +kernel
theorem m_625 : (Cond.fieldLink RX7 15 "CliffJudges$Shout" "snow" "[I") ∈ gT := gm 625 (by decide +kernel) (by decide +kernel)
theorem dX7_init_19 : decode cX7_init 19 = .ok (.return_, 1) := by decide +kernel
set_option maxHeartbeats 400000 in
set_option maxRecDepth 100000 in
theorem n_Shout (l : Launch) (D : va_G) (cy : Nat → ClassId) (adK : Nat → Nat) (adV : Nat → Nat) (o0 : Nat)  : XMv l D (tyL cy) (EV adK adV) yX7_init cX7_init 1 none (rmk 1 2 14) [.ref o0] [(o0, .inr (7, [.null, .null, .int 0, .int 0, .int 0, .int 0, .int 0]))] (fun (u : (Nat → Nat) × (Nat → Value)) => True) (fun (u : (Nat → Nat) × (Nat → Value)) => [(o0, .inr (7, [u.2 0, .ref (u.1 0), .int 0, .int 0, .int 0, .int 0, .int 0])), (u.1 0, .inl (cy 1, 4, .inl (fun _ => 0)))]) := by
  refine XMv.start (by decide) (Nat.le_of_ble_eq_true rfl) ?_
  intro p e s m below meth c args A ls Q hat hQ
  obtain ⟨hx, hb, hr, hml, hown, hg, hlocks, hin, hK, hA, hP, hD, hS, hE, hl⟩ := hat
  have hown : s.vm.findClass RX7 = some m.cls := hown
  have hl : lv_has ls 1 [(0, .ref o0)] := hl
  refine lv_aload_n hx hb dX7_init_0 rfl (lv_at hl 0 rfl) ?_
  refine W.objInit hx hb hown (hg _ m_618) (hg _ m_157) (hg _ m_158) rfl (by rw [hml]; exact hl.1) rfl dX7_init_1 (by decide) (Nat.le_of_ble_eq_true rfl) ?_
  refine W.eq (g2 := F0 m 4 ls []) rfl ?_
  refine lv_aload_n hx hb dX7_init_4 rfl (lv_at hl 0 rfl) ?_
  refine lv_bipush (v := 10) hx hb dX7_init_5 (by decide) ?_
  refine x_newa (atype := .int) (ty := .int) (a0 := (10, .inl (fun _ => 0))) (N' := 10) hx hb (hg _ m_316) rfl hK 1 rfl one_int hP hD hS hA (fun _ => rfl) (by decide) (by decide) (by decide) (by decide) (by decide) dX7_init_7 (fun q_1 H hP hD hS => ?_)
  have hP : va_P D vwCl [(o0, .inr (7, [.null, .null, .int 0, .int 0, .int 0, .int 0, .int 0])), (q_1, .inl (cy 1, 10, .inl (fun _ => 0)))] H := hP
  have hD : va_D A [(o0, .inr (7, [.null, .null, .int 0, .int 0, .int 0, .int 0, .int 0])), (q_1, .inl (cy 1, 10, .inl (fun _ => 0)))] := hD
  refine W.widen (k := 1) (n := 10) (Nat.le_of_ble_eq_true rfl) (Nat.le_of_ble_eq_true rfl) ?_
  refine va_putF (D := D) (ci := 7) (v := .ref q_1) (ty := .array .int) (C := RX7) (T := TX7) (N := 7) hx hb hg i_X7 tyX7 tyX7_ok nmX7 hown hK hP hD hS 0 rfl rfl 0 (by decide) (hg _ m_619) (fun _ h9 => h9) rfl hin rfl (by decide +kernel) rfl rfl (Nat.le_of_ble_eq_true rfl) dX7_init_9 (fun H locs hP hD hS => ?_)
  have hP : va_P D vwCl [(o0, .inr (7, [.ref q_1, .null, .int 0, .int 0, .int 0, .int 0, .int 0])), (q_1, .inl (cy 1, 10, .inl (fun _ => 0)))] H := hP
  have hD : va_D A [(o0, .inr (7, [.ref q_1, .null, .int 0, .int 0, .int 0, .int 0, .int 0])), (q_1, .inl (cy 1, 10, .inl (fun _ => 0)))] := hD
  refine lv_aload_n hx hb dX7_init_12 rfl (lv_at hl 0 rfl) ?_
  refine lv_iconst (v := 4) hx hb dX7_init_13 (by decide) ?_
  refine x_newa (atype := .int) (ty := .int) (a0 := (4, .inl (fun _ => 0))) (N' := 4) hx hb (hg _ m_316) rfl hK 1 rfl one_int hP hD hS hA (fun _ => rfl) (by decide) (by decide) (by decide) (by decide) (by decide) dX7_init_14 (fun q_2 H hP hD hS => ?_)
  have hP : va_P D vwCl [(o0, .inr (7, [.ref q_1, .null, .int 0, .int 0, .int 0, .int 0, .int 0])), (q_1, .inl (cy 1, 10, .inl (fun _ => 0))), (q_2, .inl (cy 1, 4, .inl (fun _ => 0)))] H := hP
  have hD : va_D A [(o0, .inr (7, [.ref q_1, .null, .int 0, .int 0, .int 0, .int 0, .int 0])), (q_1, .inl (cy 1, 10, .inl (fun _ => 0))), (q_2, .inl (cy 1, 4, .inl (fun _ => 0)))] := hD
  refine W.widen (k := 2) (n := 14) (Nat.le_of_ble_eq_true rfl) (Nat.le_of_ble_eq_true rfl) ?_
  refine va_putF (D := D) (ci := 7) (v := .ref q_2) (ty := .array .int) (C := RX7) (T := TX7) (N := 7) hx hb hg i_X7 tyX7 tyX7_ok nmX7 hown hK hP hD hS 0 rfl rfl 1 (by decide) (hg _ m_625) (fun _ h9 => h9) rfl hin rfl (by decide +kernel) rfl rfl (Nat.le_of_ble_eq_true rfl) dX7_init_16 (fun H locs hP hD hS => ?_)
  have hP : va_P D vwCl [(o0, .inr (7, [.ref q_1, .ref q_2, .int 0, .int 0, .int 0, .int 0, .int 0])), (q_1, .inl (cy 1, 10, .inl (fun _ => 0))), (q_2, .inl (cy 1, 4, .inl (fun _ => 0)))] H := hP
  have hD : va_D A [(o0, .inr (7, [.ref q_1, .ref q_2, .int 0, .int 0, .int 0, .int 0, .int 0])), (q_1, .inl (cy 1, 10, .inl (fun _ => 0))), (q_2, .inl (cy 1, 4, .inl (fun _ => 0)))] := hD
  exact x_vret hQ hx hb hr hlocks hK hP hD hS dX7_init_19 ((fun k => [q_2].getD k 0), (fun k => [.ref q_1].getD k .null)) (trivial) [0, 2] (by decide) rfl (Nat.le_of_ble_eq_true rfl) (Nat.le_of_ble_eq_true rfl)
theorem dX8_init_0 : decode cX8_init 0 = .ok (.aload_n 0, 1) := by decide +kernel
theorem dX8_init_1 : decode cX8_init 1 = .ok (.invokespecial 3, 3) := by decide +kernel
theorem m_453 : (Cond.methodLink RX8 3 objectInit) ∈ gT := gm 453 (by decide +kernel) (by decide +kernel)
theorem dX8_init_4 : decode cX8_init 4 = .ok (.aload_n 0, 1) := by decide +kernel
theorem dX8_init_5 : decode cX8_init 5 = .ok (.bipush 30, 2) := by decide +kernel
theorem dX8_init_7 : decode cX8_init 7 = .ok (.newarray .int, 2) := by decide +kernel
theorem dX8_init_9 : decode cX8_init 9 = .ok (.putfield 9, 3) := by decide +kernel
theorem m_454 : (Cond.fieldLink RX8 9 "CliffJudges$Sounds" "cliffs" "[I") ∈ gT := gm 454 (by decide +kernel) (by decide +kernel)
theorem dX8_init_12 : decode cX8_init 12 = .ok (.aload_n 0, 1) := by decide +kernel
theorem dX8_init_13 : decode cX8_init 13 = .ok (.bipush 30, 2) := by decide +kernel
theorem dX8_init_15 : decode cX8_init 15 = .ok (.newarray .int, 2) := by decide +kernel
theorem dX8_init_17 : decode cX8_init 17 = .ok (.putfield 15, 3) := by decide +kernel
theorem m_455 : (Cond.fieldLink RX8 15 "CliffJudges$Sounds" "lengths" "[I") ∈ gT := gm 455 (by decide +kernel) (by decide +kernel)
theorem dX8_init_20 : decode cX8_init 20 = .ok (.aload_n 0, 1) := by decide +kernel
theorem dX8_init_21 : decode cX8_init 21 = .ok (.bipush 30, 2) := by decide +kernel
theorem dX8_init_23 : decode cX8_init 23 = .ok (.newarray .int, 2) := by decide +kernel
theorem dX8_init_25 : decode cX8_init 25 = .ok (.putfield 18, 3) := by decide +kernel
theorem m_456 : (Cond.fieldLink RX8 18 "CliffJudges$Sounds" "came" "[I") ∈ gT := gm 456 (by decide +kernel) (by decide +kernel)
theorem dX8_init_28 : decode cX8_init 28 = .ok (.aload_n 0, 1) := by decide +kernel
theorem dX8_init_29 : decode cX8_init 29 = .ok (.bipush 30, 2) := by decide +kernel
theorem dX8_init_31 : decode cX8_init 31 = .ok (.newarray .int, 2) := by decide +kernel
theorem dX8_init_33 : decode cX8_init 33 = .ok (.putfield 21, 3) := by decide +kernel
theorem m_457 : (Cond.fieldLink RX8 21 "CliffJudges$Sounds" "toldAt" "[I") ∈ gT := gm 457 (by decide +kernel) (by decide +kernel)
theorem dX8_init_36 : decode cX8_init 36 = .ok (.aload_n 0, 1) := by decide +kernel
theorem dX8_init_37 : decode cX8_init 37 = .ok (.bipush 30, 2) := by decide +kernel
theorem dX8_init_39 : decode cX8_init 39 = .ok (.newarray .int, 2) := by decide +kernel
theorem dX8_init_41 : decode cX8_init 41 = .ok (.putfield 24, 3) := by decide +kernel
theorem m_458 : (Cond.fieldLink RX8 24 "CliffJudges$Sounds" "untoldAt" "[I") ∈ gT := gm 458 (by decide +kernel) (by decide +kernel)
theorem dX8_init_44 : decode cX8_init 44 = .ok (.aload_n 0, 1) := by decide +kernel
theorem dX8_init_45 : decode cX8_init 45 = .ok (.bipush 100, 2) := by decide +kernel
theorem dX8_init_47 : decode cX8_init 47 = .ok (.newarray .int, 2) := by decide +kernel
theorem dX8_init_49 : decode cX8_init 49 = .ok (.putfield 27, 3) := by decide +kernel
theorem dX8_init_52 : decode cX8_init 52 = .ok (.aload_n 0, 1) := by decide +kernel
theorem dX8_init_53 : decode cX8_init 53 = .ok (.bipush 11, 2) := by decide +kernel
theorem dX8_init_55 : decode cX8_init 55 = .ok (.newarray .int, 2) := by decide +kernel
theorem dX8_init_57 : decode cX8_init 57 = .ok (.putfield 30, 3) := by decide +kernel
theorem m_460 : (Cond.fieldLink RX8 30 "CliffJudges$Sounds" "leftBy" "[I") ∈ gT := gm 460 (by decide +kernel) (by decide +kernel)
theorem dX8_init_60 : decode cX8_init 60 = .ok (.aload_n 0, 1) := by decide +kernel
theorem dX8_init_61 : decode cX8_init 61 = .ok (.bipush 7, 2) := by decide +kernel
theorem dX8_init_63 : decode cX8_init 63 = .ok (.newarray .int, 2) := by decide +kernel
theorem dX8_init_65 : decode cX8_init 65 = .ok (.putfield 35, 3) := by decide +kernel
theorem m_461 : (Cond.fieldLink RX8 35 "CliffJudges$Sounds" "facts" "[I") ∈ gT := gm 461 (by decide +kernel) (by decide +kernel)
theorem dX8_init_68 : decode cX8_init 68 = .ok (.return_, 1) := by decide +kernel
set_option maxHeartbeats 400000 in
set_option maxRecDepth 100000 in
theorem n_Sounds (l : Launch) (D : va_G) (cy : Nat → ClassId) (adK : Nat → Nat) (adV : Nat → Nat) (o0 : Nat)  : XMv l D (tyL cy) (EV adK adV) yX8_init cX8_init 1 none (rmk 1 8 268) [.ref o0] [(o0, .inr (8, [.null, .null, .null, .null, .null, .null, .null, .null, .int 0, .int 0, .int 0, .int 0, .int 0]))] (fun (u : (Nat → Nat) × (Nat → Value)) => True) (fun (u : (Nat → Nat) × (Nat → Value)) => [(o0, .inr (8, [u.2 0, u.2 1, u.2 2, u.2 3, u.2 4, .ref (u.1 0), u.2 5, u.2 6, .int 0, .int 0, .int 0, .int 0, .int 0])), (u.1 0, .inl (cy 1, 100, .inl (fun _ => 0)))]) := by
  refine XMv.start (by decide) (Nat.le_of_ble_eq_true rfl) ?_
  intro p e s m below meth c args A ls Q hat hQ
  obtain ⟨hx, hb, hr, hml, hown, hg, hlocks, hin, hK, hA, hP, hD, hS, hE, hl⟩ := hat
  have hown : s.vm.findClass RX8 = some m.cls := hown
  have hl : lv_has ls 1 [(0, .ref o0)] := hl
  refine lv_aload_n hx hb dX8_init_0 rfl (lv_at hl 0 rfl) ?_
  refine W.objInit hx hb hown (hg _ m_453) (hg _ m_157) (hg _ m_158) rfl (by rw [hml]; exact hl.1) rfl dX8_init_1 (by decide) (Nat.le_of_ble_eq_true rfl) ?_
  refine W.eq (g2 := F0 m 4 ls []) rfl ?_
  refine lv_aload_n hx hb dX8_init_4 rfl (lv_at hl 0 rfl) ?_
  refine lv_bipush (v := 30) hx hb dX8_init_5 (by decide) ?_
  refine x_newa (atype := .int) (ty := .int) (a0 := (30, .inl (fun _ => 0))) (N' := 30) hx hb (hg _ m_316) rfl hK 1 rfl one_int hP hD hS hA (fun _ => rfl) (by decide) (by decide) (by decide) (by decide) (by decide) dX8_init_7 (fun q_1 H hP hD hS => ?_)
  have hP : va_P D vwCl [(o0, .inr (8, [.null, .null, .null, .null, .null, .null, .null, .null, .int 0, .int 0, .int 0, .int 0, .int 0])), (q_1, .inl (cy 1, 30, .inl (fun _ => 0)))] H := hP
  have hD : va_D A [(o0, .inr (8, [.null, .null, .null, .null, .null, .null, .null, .null, .int 0, .int 0, .int 0, .int 0, .int 0])), (q_1, .inl (cy 1, 30, .inl (fun _ => 0)))] := hD
  refine W.widen (k := 1) (n := 30) (Nat.le_of_ble_eq_true rfl) (Nat.le_of_ble_eq_true rfl) ?_
  refine va_putF (D := D) (ci := 8) (v := .ref q_1) (ty := .array .int) (C := RX8) (T := TX8) (N := 13) hx hb hg i_X8 tyX8 tyX8_ok nmX8 hown hK hP hD hS 0 rfl rfl 0 (by decide) (hg _ m_454) (fun _ h9 => h9) rfl hin rfl (by decide +kernel) rfl rfl (Nat.le_of_ble_eq_true rfl) dX8_init_9 (fun H locs hP hD hS => ?_)
  have hP : va_P D vwCl [(o0, .inr (8, [.ref q_1, .null, .null, .null, .null, .null, .null, .null, .int 0, .int 0, .int 0, .int 0, .int 0])), (q_1, .inl (cy 1, 30, .inl (fun _ => 0)))] H := hP
  have hD : va_D A [(o0, .inr (8, [.ref q_1, .null, .null, .null, .null, .null, .null, .null, .int 0, .int 0, .int 0, .int 0, .int 0])), (q_1, .inl (cy 1, 30, .inl (fun _ => 0)))] := hD
  refine lv_aload_n hx hb dX8_init_12 rfl (lv_at hl 0 rfl) ?_
  refine lv_bipush (v := 30) hx hb dX8_init_13 (by decide) ?_
  refine x_newa (atype := .int) (ty := .int) (a0 := (30, .inl (fun _ => 0))) (N' := 30) hx hb (hg _ m_316) rfl hK 1 rfl one_int hP hD hS hA (fun _ => rfl) (by decide) (by decide) (by decide) (by decide) (by decide) dX8_init_15 (fun q_2 H hP hD hS => ?_)
  have hP : va_P D vwCl [(o0, .inr (8, [.ref q_1, .null, .null, .null, .null, .null, .null, .null, .int 0, .int 0, .int 0, .int 0, .int 0])), (q_1, .inl (cy 1, 30, .inl (fun _ => 0))), (q_2, .inl (cy 1, 30, .inl (fun _ => 0)))] H := hP
  have hD : va_D A [(o0, .inr (8, [.ref q_1, .null, .null, .null, .null, .null, .null, .null, .int 0, .int 0, .int 0, .int 0, .int 0])), (q_1, .inl (cy 1, 30, .inl (fun _ => 0))), (q_2, .inl (cy 1, 30, .inl (fun _ => 0)))] := hD
  refine W.widen (k := 2) (n := 60) (Nat.le_of_ble_eq_true rfl) (Nat.le_of_ble_eq_true rfl) ?_
  refine va_putF (D := D) (ci := 8) (v := .ref q_2) (ty := .array .int) (C := RX8) (T := TX8) (N := 13) hx hb hg i_X8 tyX8 tyX8_ok nmX8 hown hK hP hD hS 0 rfl rfl 1 (by decide) (hg _ m_455) (fun _ h9 => h9) rfl hin rfl (by decide +kernel) rfl rfl (Nat.le_of_ble_eq_true rfl) dX8_init_17 (fun H locs hP hD hS => ?_)
  have hP : va_P D vwCl [(o0, .inr (8, [.ref q_1, .ref q_2, .null, .null, .null, .null, .null, .null, .int 0, .int 0, .int 0, .int 0, .int 0])), (q_1, .inl (cy 1, 30, .inl (fun _ => 0))), (q_2, .inl (cy 1, 30, .inl (fun _ => 0)))] H := hP
  have hD : va_D A [(o0, .inr (8, [.ref q_1, .ref q_2, .null, .null, .null, .null, .null, .null, .int 0, .int 0, .int 0, .int 0, .int 0])), (q_1, .inl (cy 1, 30, .inl (fun _ => 0))), (q_2, .inl (cy 1, 30, .inl (fun _ => 0)))] := hD
  refine lv_aload_n hx hb dX8_init_20 rfl (lv_at hl 0 rfl) ?_
  refine lv_bipush (v := 30) hx hb dX8_init_21 (by decide) ?_
  refine x_newa (atype := .int) (ty := .int) (a0 := (30, .inl (fun _ => 0))) (N' := 30) hx hb (hg _ m_316) rfl hK 1 rfl one_int hP hD hS hA (fun _ => rfl) (by decide) (by decide) (by decide) (by decide) (by decide) dX8_init_23 (fun q_3 H hP hD hS => ?_)
  have hP : va_P D vwCl [(o0, .inr (8, [.ref q_1, .ref q_2, .null, .null, .null, .null, .null, .null, .int 0, .int 0, .int 0, .int 0, .int 0])), (q_1, .inl (cy 1, 30, .inl (fun _ => 0))), (q_2, .inl (cy 1, 30, .inl (fun _ => 0))), (q_3, .inl (cy 1, 30, .inl (fun _ => 0)))] H := hP
  have hD : va_D A [(o0, .inr (8, [.ref q_1, .ref q_2, .null, .null, .null, .null, .null, .null, .int 0, .int 0, .int 0, .int 0, .int 0])), (q_1, .inl (cy 1, 30, .inl (fun _ => 0))), (q_2, .inl (cy 1, 30, .inl (fun _ => 0))), (q_3, .inl (cy 1, 30, .inl (fun _ => 0)))] := hD
  refine W.widen (k := 3) (n := 90) (Nat.le_of_ble_eq_true rfl) (Nat.le_of_ble_eq_true rfl) ?_
  refine va_putF (D := D) (ci := 8) (v := .ref q_3) (ty := .array .int) (C := RX8) (T := TX8) (N := 13) hx hb hg i_X8 tyX8 tyX8_ok nmX8 hown hK hP hD hS 0 rfl rfl 2 (by decide) (hg _ m_456) (fun _ h9 => h9) rfl hin rfl (by decide +kernel) rfl rfl (Nat.le_of_ble_eq_true rfl) dX8_init_25 (fun H locs hP hD hS => ?_)
  have hP : va_P D vwCl [(o0, .inr (8, [.ref q_1, .ref q_2, .ref q_3, .null, .null, .null, .null, .null, .int 0, .int 0, .int 0, .int 0, .int 0])), (q_1, .inl (cy 1, 30, .inl (fun _ => 0))), (q_2, .inl (cy 1, 30, .inl (fun _ => 0))), (q_3, .inl (cy 1, 30, .inl (fun _ => 0)))] H := hP
  have hD : va_D A [(o0, .inr (8, [.ref q_1, .ref q_2, .ref q_3, .null, .null, .null, .null, .null, .int 0, .int 0, .int 0, .int 0, .int 0])), (q_1, .inl (cy 1, 30, .inl (fun _ => 0))), (q_2, .inl (cy 1, 30, .inl (fun _ => 0))), (q_3, .inl (cy 1, 30, .inl (fun _ => 0)))] := hD
  refine lv_aload_n hx hb dX8_init_28 rfl (lv_at hl 0 rfl) ?_
  refine lv_bipush (v := 30) hx hb dX8_init_29 (by decide) ?_
  refine x_newa (atype := .int) (ty := .int) (a0 := (30, .inl (fun _ => 0))) (N' := 30) hx hb (hg _ m_316) rfl hK 1 rfl one_int hP hD hS hA (fun _ => rfl) (by decide) (by decide) (by decide) (by decide) (by decide) dX8_init_31 (fun q_4 H hP hD hS => ?_)
  have hP : va_P D vwCl [(o0, .inr (8, [.ref q_1, .ref q_2, .ref q_3, .null, .null, .null, .null, .null, .int 0, .int 0, .int 0, .int 0, .int 0])), (q_1, .inl (cy 1, 30, .inl (fun _ => 0))), (q_2, .inl (cy 1, 30, .inl (fun _ => 0))), (q_3, .inl (cy 1, 30, .inl (fun _ => 0))), (q_4, .inl (cy 1, 30, .inl (fun _ => 0)))] H := hP
  have hD : va_D A [(o0, .inr (8, [.ref q_1, .ref q_2, .ref q_3, .null, .null, .null, .null, .null, .int 0, .int 0, .int 0, .int 0, .int 0])), (q_1, .inl (cy 1, 30, .inl (fun _ => 0))), (q_2, .inl (cy 1, 30, .inl (fun _ => 0))), (q_3, .inl (cy 1, 30, .inl (fun _ => 0))), (q_4, .inl (cy 1, 30, .inl (fun _ => 0)))] := hD
  refine W.widen (k := 4) (n := 120) (Nat.le_of_ble_eq_true rfl) (Nat.le_of_ble_eq_true rfl) ?_
  refine va_putF (D := D) (ci := 8) (v := .ref q_4) (ty := .array .int) (C := RX8) (T := TX8) (N := 13) hx hb hg i_X8 tyX8 tyX8_ok nmX8 hown hK hP hD hS 0 rfl rfl 3 (by decide) (hg _ m_457) (fun _ h9 => h9) rfl hin rfl (by decide +kernel) rfl rfl (Nat.le_of_ble_eq_true rfl) dX8_init_33 (fun H locs hP hD hS => ?_)
  have hP : va_P D vwCl [(o0, .inr (8, [.ref q_1, .ref q_2, .ref q_3, .ref q_4, .null, .null, .null, .null, .int 0, .int 0, .int 0, .int 0, .int 0])), (q_1, .inl (cy 1, 30, .inl (fun _ => 0))), (q_2, .inl (cy 1, 30, .inl (fun _ => 0))), (q_3, .inl (cy 1, 30, .inl (fun _ => 0))), (q_4, .inl (cy 1, 30, .inl (fun _ => 0)))] H := hP
  have hD : va_D A [(o0, .inr (8, [.ref q_1, .ref q_2, .ref q_3, .ref q_4, .null, .null, .null, .null, .int 0, .int 0, .int 0, .int 0, .int 0])), (q_1, .inl (cy 1, 30, .inl (fun _ => 0))), (q_2, .inl (cy 1, 30, .inl (fun _ => 0))), (q_3, .inl (cy 1, 30, .inl (fun _ => 0))), (q_4, .inl (cy 1, 30, .inl (fun _ => 0)))] := hD
  refine lv_aload_n hx hb dX8_init_36 rfl (lv_at hl 0 rfl) ?_
  refine lv_bipush (v := 30) hx hb dX8_init_37 (by decide) ?_
  refine x_newa (atype := .int) (ty := .int) (a0 := (30, .inl (fun _ => 0))) (N' := 30) hx hb (hg _ m_316) rfl hK 1 rfl one_int hP hD hS hA (fun _ => rfl) (by decide) (by decide) (by decide) (by decide) (by decide) dX8_init_39 (fun q_5 H hP hD hS => ?_)
  have hP : va_P D vwCl [(o0, .inr (8, [.ref q_1, .ref q_2, .ref q_3, .ref q_4, .null, .null, .null, .null, .int 0, .int 0, .int 0, .int 0, .int 0])), (q_1, .inl (cy 1, 30, .inl (fun _ => 0))), (q_2, .inl (cy 1, 30, .inl (fun _ => 0))), (q_3, .inl (cy 1, 30, .inl (fun _ => 0))), (q_4, .inl (cy 1, 30, .inl (fun _ => 0))), (q_5, .inl (cy 1, 30, .inl (fun _ => 0)))] H := hP
  have hD : va_D A [(o0, .inr (8, [.ref q_1, .ref q_2, .ref q_3, .ref q_4, .null, .null, .null, .null, .int 0, .int 0, .int 0, .int 0, .int 0])), (q_1, .inl (cy 1, 30, .inl (fun _ => 0))), (q_2, .inl (cy 1, 30, .inl (fun _ => 0))), (q_3, .inl (cy 1, 30, .inl (fun _ => 0))), (q_4, .inl (cy 1, 30, .inl (fun _ => 0))), (q_5, .inl (cy 1, 30, .inl (fun _ => 0)))] := hD
  refine W.widen (k := 5) (n := 150) (Nat.le_of_ble_eq_true rfl) (Nat.le_of_ble_eq_true rfl) ?_
  refine va_putF (D := D) (ci := 8) (v := .ref q_5) (ty := .array .int) (C := RX8) (T := TX8) (N := 13) hx hb hg i_X8 tyX8 tyX8_ok nmX8 hown hK hP hD hS 0 rfl rfl 4 (by decide) (hg _ m_458) (fun _ h9 => h9) rfl hin rfl (by decide +kernel) rfl rfl (Nat.le_of_ble_eq_true rfl) dX8_init_41 (fun H locs hP hD hS => ?_)
  have hP : va_P D vwCl [(o0, .inr (8, [.ref q_1, .ref q_2, .ref q_3, .ref q_4, .ref q_5, .null, .null, .null, .int 0, .int 0, .int 0, .int 0, .int 0])), (q_1, .inl (cy 1, 30, .inl (fun _ => 0))), (q_2, .inl (cy 1, 30, .inl (fun _ => 0))), (q_3, .inl (cy 1, 30, .inl (fun _ => 0))), (q_4, .inl (cy 1, 30, .inl (fun _ => 0))), (q_5, .inl (cy 1, 30, .inl (fun _ => 0)))] H := hP
  have hD : va_D A [(o0, .inr (8, [.ref q_1, .ref q_2, .ref q_3, .ref q_4, .ref q_5, .null, .null, .null, .int 0, .int 0, .int 0, .int 0, .int 0])), (q_1, .inl (cy 1, 30, .inl (fun _ => 0))), (q_2, .inl (cy 1, 30, .inl (fun _ => 0))), (q_3, .inl (cy 1, 30, .inl (fun _ => 0))), (q_4, .inl (cy 1, 30, .inl (fun _ => 0))), (q_5, .inl (cy 1, 30, .inl (fun _ => 0)))] := hD
  refine lv_aload_n hx hb dX8_init_44 rfl (lv_at hl 0 rfl) ?_
  refine lv_bipush (v := 100) hx hb dX8_init_45 (by decide) ?_
  refine x_newa (atype := .int) (ty := .int) (a0 := (100, .inl (fun _ => 0))) (N' := 100) hx hb (hg _ m_316) rfl hK 1 rfl one_int hP hD hS hA (fun _ => rfl) (by decide) (by decide) (by decide) (by decide) (by decide) dX8_init_47 (fun q_6 H hP hD hS => ?_)
  have hP : va_P D vwCl [(o0, .inr (8, [.ref q_1, .ref q_2, .ref q_3, .ref q_4, .ref q_5, .null, .null, .null, .int 0, .int 0, .int 0, .int 0, .int 0])), (q_1, .inl (cy 1, 30, .inl (fun _ => 0))), (q_2, .inl (cy 1, 30, .inl (fun _ => 0))), (q_3, .inl (cy 1, 30, .inl (fun _ => 0))), (q_4, .inl (cy 1, 30, .inl (fun _ => 0))), (q_5, .inl (cy 1, 30, .inl (fun _ => 0))), (q_6, .inl (cy 1, 100, .inl (fun _ => 0)))] H := hP
  have hD : va_D A [(o0, .inr (8, [.ref q_1, .ref q_2, .ref q_3, .ref q_4, .ref q_5, .null, .null, .null, .int 0, .int 0, .int 0, .int 0, .int 0])), (q_1, .inl (cy 1, 30, .inl (fun _ => 0))), (q_2, .inl (cy 1, 30, .inl (fun _ => 0))), (q_3, .inl (cy 1, 30, .inl (fun _ => 0))), (q_4, .inl (cy 1, 30, .inl (fun _ => 0))), (q_5, .inl (cy 1, 30, .inl (fun _ => 0))), (q_6, .inl (cy 1, 100, .inl (fun _ => 0)))] := hD
  refine W.widen (k := 6) (n := 250) (Nat.le_of_ble_eq_true rfl) (Nat.le_of_ble_eq_true rfl) ?_
  refine va_putF (D := D) (ci := 8) (v := .ref q_6) (ty := .array .int) (C := RX8) (T := TX8) (N := 13) hx hb hg i_X8 tyX8 tyX8_ok nmX8 hown hK hP hD hS 0 rfl rfl 5 (by decide) (hg _ m_459) (fun _ h9 => h9) rfl hin rfl (by decide +kernel) rfl rfl (Nat.le_of_ble_eq_true rfl) dX8_init_49 (fun H locs hP hD hS => ?_)
  have hP : va_P D vwCl [(o0, .inr (8, [.ref q_1, .ref q_2, .ref q_3, .ref q_4, .ref q_5, .ref q_6, .null, .null, .int 0, .int 0, .int 0, .int 0, .int 0])), (q_1, .inl (cy 1, 30, .inl (fun _ => 0))), (q_2, .inl (cy 1, 30, .inl (fun _ => 0))), (q_3, .inl (cy 1, 30, .inl (fun _ => 0))), (q_4, .inl (cy 1, 30, .inl (fun _ => 0))), (q_5, .inl (cy 1, 30, .inl (fun _ => 0))), (q_6, .inl (cy 1, 100, .inl (fun _ => 0)))] H := hP
  have hD : va_D A [(o0, .inr (8, [.ref q_1, .ref q_2, .ref q_3, .ref q_4, .ref q_5, .ref q_6, .null, .null, .int 0, .int 0, .int 0, .int 0, .int 0])), (q_1, .inl (cy 1, 30, .inl (fun _ => 0))), (q_2, .inl (cy 1, 30, .inl (fun _ => 0))), (q_3, .inl (cy 1, 30, .inl (fun _ => 0))), (q_4, .inl (cy 1, 30, .inl (fun _ => 0))), (q_5, .inl (cy 1, 30, .inl (fun _ => 0))), (q_6, .inl (cy 1, 100, .inl (fun _ => 0)))] := hD
  refine lv_aload_n hx hb dX8_init_52 rfl (lv_at hl 0 rfl) ?_
  refine lv_bipush (v := 11) hx hb dX8_init_53 (by decide) ?_
  refine x_newa (atype := .int) (ty := .int) (a0 := (11, .inl (fun _ => 0))) (N' := 11) hx hb (hg _ m_316) rfl hK 1 rfl one_int hP hD hS hA (fun _ => rfl) (by decide) (by decide) (by decide) (by decide) (by decide) dX8_init_55 (fun q_7 H hP hD hS => ?_)
  have hP : va_P D vwCl [(o0, .inr (8, [.ref q_1, .ref q_2, .ref q_3, .ref q_4, .ref q_5, .ref q_6, .null, .null, .int 0, .int 0, .int 0, .int 0, .int 0])), (q_1, .inl (cy 1, 30, .inl (fun _ => 0))), (q_2, .inl (cy 1, 30, .inl (fun _ => 0))), (q_3, .inl (cy 1, 30, .inl (fun _ => 0))), (q_4, .inl (cy 1, 30, .inl (fun _ => 0))), (q_5, .inl (cy 1, 30, .inl (fun _ => 0))), (q_6, .inl (cy 1, 100, .inl (fun _ => 0))), (q_7, .inl (cy 1, 11, .inl (fun _ => 0)))] H := hP
  have hD : va_D A [(o0, .inr (8, [.ref q_1, .ref q_2, .ref q_3, .ref q_4, .ref q_5, .ref q_6, .null, .null, .int 0, .int 0, .int 0, .int 0, .int 0])), (q_1, .inl (cy 1, 30, .inl (fun _ => 0))), (q_2, .inl (cy 1, 30, .inl (fun _ => 0))), (q_3, .inl (cy 1, 30, .inl (fun _ => 0))), (q_4, .inl (cy 1, 30, .inl (fun _ => 0))), (q_5, .inl (cy 1, 30, .inl (fun _ => 0))), (q_6, .inl (cy 1, 100, .inl (fun _ => 0))), (q_7, .inl (cy 1, 11, .inl (fun _ => 0)))] := hD
  refine W.widen (k := 7) (n := 261) (Nat.le_of_ble_eq_true rfl) (Nat.le_of_ble_eq_true rfl) ?_
  refine va_putF (D := D) (ci := 8) (v := .ref q_7) (ty := .array .int) (C := RX8) (T := TX8) (N := 13) hx hb hg i_X8 tyX8 tyX8_ok nmX8 hown hK hP hD hS 0 rfl rfl 6 (by decide) (hg _ m_460) (fun _ h9 => h9) rfl hin rfl (by decide +kernel) rfl rfl (Nat.le_of_ble_eq_true rfl) dX8_init_57 (fun H locs hP hD hS => ?_)
  have hP : va_P D vwCl [(o0, .inr (8, [.ref q_1, .ref q_2, .ref q_3, .ref q_4, .ref q_5, .ref q_6, .ref q_7, .null, .int 0, .int 0, .int 0, .int 0, .int 0])), (q_1, .inl (cy 1, 30, .inl (fun _ => 0))), (q_2, .inl (cy 1, 30, .inl (fun _ => 0))), (q_3, .inl (cy 1, 30, .inl (fun _ => 0))), (q_4, .inl (cy 1, 30, .inl (fun _ => 0))), (q_5, .inl (cy 1, 30, .inl (fun _ => 0))), (q_6, .inl (cy 1, 100, .inl (fun _ => 0))), (q_7, .inl (cy 1, 11, .inl (fun _ => 0)))] H := hP
  have hD : va_D A [(o0, .inr (8, [.ref q_1, .ref q_2, .ref q_3, .ref q_4, .ref q_5, .ref q_6, .ref q_7, .null, .int 0, .int 0, .int 0, .int 0, .int 0])), (q_1, .inl (cy 1, 30, .inl (fun _ => 0))), (q_2, .inl (cy 1, 30, .inl (fun _ => 0))), (q_3, .inl (cy 1, 30, .inl (fun _ => 0))), (q_4, .inl (cy 1, 30, .inl (fun _ => 0))), (q_5, .inl (cy 1, 30, .inl (fun _ => 0))), (q_6, .inl (cy 1, 100, .inl (fun _ => 0))), (q_7, .inl (cy 1, 11, .inl (fun _ => 0)))] := hD
  refine lv_aload_n hx hb dX8_init_60 rfl (lv_at hl 0 rfl) ?_
  refine lv_bipush (v := 7) hx hb dX8_init_61 (by decide) ?_
  refine x_newa (atype := .int) (ty := .int) (a0 := (7, .inl (fun _ => 0))) (N' := 7) hx hb (hg _ m_316) rfl hK 1 rfl one_int hP hD hS hA (fun _ => rfl) (by decide) (by decide) (by decide) (by decide) (by decide) dX8_init_63 (fun q_8 H hP hD hS => ?_)
  have hP : va_P D vwCl [(o0, .inr (8, [.ref q_1, .ref q_2, .ref q_3, .ref q_4, .ref q_5, .ref q_6, .ref q_7, .null, .int 0, .int 0, .int 0, .int 0, .int 0])), (q_1, .inl (cy 1, 30, .inl (fun _ => 0))), (q_2, .inl (cy 1, 30, .inl (fun _ => 0))), (q_3, .inl (cy 1, 30, .inl (fun _ => 0))), (q_4, .inl (cy 1, 30, .inl (fun _ => 0))), (q_5, .inl (cy 1, 30, .inl (fun _ => 0))), (q_6, .inl (cy 1, 100, .inl (fun _ => 0))), (q_7, .inl (cy 1, 11, .inl (fun _ => 0))), (q_8, .inl (cy 1, 7, .inl (fun _ => 0)))] H := hP
  have hD : va_D A [(o0, .inr (8, [.ref q_1, .ref q_2, .ref q_3, .ref q_4, .ref q_5, .ref q_6, .ref q_7, .null, .int 0, .int 0, .int 0, .int 0, .int 0])), (q_1, .inl (cy 1, 30, .inl (fun _ => 0))), (q_2, .inl (cy 1, 30, .inl (fun _ => 0))), (q_3, .inl (cy 1, 30, .inl (fun _ => 0))), (q_4, .inl (cy 1, 30, .inl (fun _ => 0))), (q_5, .inl (cy 1, 30, .inl (fun _ => 0))), (q_6, .inl (cy 1, 100, .inl (fun _ => 0))), (q_7, .inl (cy 1, 11, .inl (fun _ => 0))), (q_8, .inl (cy 1, 7, .inl (fun _ => 0)))] := hD
  refine W.widen (k := 8) (n := 268) (Nat.le_of_ble_eq_true rfl) (Nat.le_of_ble_eq_true rfl) ?_
  refine va_putF (D := D) (ci := 8) (v := .ref q_8) (ty := .array .int) (C := RX8) (T := TX8) (N := 13) hx hb hg i_X8 tyX8 tyX8_ok nmX8 hown hK hP hD hS 0 rfl rfl 7 (by decide) (hg _ m_461) (fun _ h9 => h9) rfl hin rfl (by decide +kernel) rfl rfl (Nat.le_of_ble_eq_true rfl) dX8_init_65 (fun H locs hP hD hS => ?_)
  have hP : va_P D vwCl [(o0, .inr (8, [.ref q_1, .ref q_2, .ref q_3, .ref q_4, .ref q_5, .ref q_6, .ref q_7, .ref q_8, .int 0, .int 0, .int 0, .int 0, .int 0])), (q_1, .inl (cy 1, 30, .inl (fun _ => 0))), (q_2, .inl (cy 1, 30, .inl (fun _ => 0))), (q_3, .inl (cy 1, 30, .inl (fun _ => 0))), (q_4, .inl (cy 1, 30, .inl (fun _ => 0))), (q_5, .inl (cy 1, 30, .inl (fun _ => 0))), (q_6, .inl (cy 1, 100, .inl (fun _ => 0))), (q_7, .inl (cy 1, 11, .inl (fun _ => 0))), (q_8, .inl (cy 1, 7, .inl (fun _ => 0)))] H := hP
  have hD : va_D A [(o0, .inr (8, [.ref q_1, .ref q_2, .ref q_3, .ref q_4, .ref q_5, .ref q_6, .ref q_7, .ref q_8, .int 0, .int 0, .int 0, .int 0, .int 0])), (q_1, .inl (cy 1, 30, .inl (fun _ => 0))), (q_2, .inl (cy 1, 30, .inl (fun _ => 0))), (q_3, .inl (cy 1, 30, .inl (fun _ => 0))), (q_4, .inl (cy 1, 30, .inl (fun _ => 0))), (q_5, .inl (cy 1, 30, .inl (fun _ => 0))), (q_6, .inl (cy 1, 100, .inl (fun _ => 0))), (q_7, .inl (cy 1, 11, .inl (fun _ => 0))), (q_8, .inl (cy 1, 7, .inl (fun _ => 0)))] := hD
  exact x_vret hQ hx hb hr hlocks hK hP hD hS dX8_init_68 ((fun k => [q_6].getD k 0), (fun k => [.ref q_1, .ref q_2, .ref q_3, .ref q_4, .ref q_5, .ref q_7, .ref q_8].getD k .null)) (trivial) [0, 6] (by decide) rfl (Nat.le_of_ble_eq_true rfl) (Nat.le_of_ble_eq_true rfl)
theorem dX4_init_0 : decode cX4_init 0 = .ok (.aload_n 0, 1) := by decide +kernel
theorem dX4_init_1 : decode cX4_init 1 = .ok (.invokespecial 3, 3) := by decide +kernel
theorem m_293 : (Cond.methodLink RX4 3 objectInit) ∈ gT := gm 293 (by decide +kernel) (by decide +kernel)
theorem dX4_init_4 : decode cX4_init 4 = .ok (.aload_n 0, 1) := by decide +kernel
theorem dX4_init_5 : decode cX4_init 5 = .ok (.iconst 4, 1) := by decide +kernel
theorem dX4_init_6 : decode cX4_init 6 = .ok (.newarray .int, 2) := by decide +kernel
theorem dX4_init_8 : decode cX4_init 8 = .ok (.putfield 9, 3) := by decide +kernel
theorem dX4_init_11 : decode cX4_init 11 = .ok (.aload_n 0, 1) := by decide +kernel
theorem dX4_init_12 : decode cX4_init 12 = .ok (.bipush 8, 2) := by decide +kernel
theorem dX4_init_14 : decode cX4_init 14 = .ok (.newarray .int, 2) := by decide +kernel
theorem dX4_init_16 : decode cX4_init 16 = .ok (.putfield 15, 3) := by decide +kernel
theorem m_338 : (Cond.fieldLink RX4 15 "CliffJudges$Hills" "loud" "[I") ∈ gT := gm 338 (by decide +kernel) (by decide +kernel)
theorem dX4_init_19 : decode cX4_init 19 = .ok (.aload_n 0, 1) := by decide +kernel
theorem dX4_init_20 : decode cX4_init 20 = .ok (.iconst 4, 1) := by decide +kernel
theorem dX4_init_21 : decode cX4_init 21 = .ok (.newarray .int, 2) := by decide +kernel
theorem dX4_init_23 : decode cX4_init 23 = .ok (.putfield 18, 3) := by decide +kernel
theorem m_341 : (Cond.fieldLink RX4 18 "CliffJudges$Hills" "cliffPlace" "[I") ∈ gT := gm 341 (by decide +kernel) (by decide +kernel)
theorem dX4_init_26 : decode cX4_init 26 = .ok (.aload_n 0, 1) := by decide +kernel
theorem dX4_init_27 : decode cX4_init 27 = .ok (.iconst 4, 1) := by decide +kernel
theorem dX4_init_28 : decode cX4_init 28 = .ok (.newarray .int, 2) := by decide +kernel
theorem dX4_init_30 : decode cX4_init 30 = .ok (.putfield 21, 3) := by decide +kernel
theorem m_344 : (Cond.fieldLink RX4 21 "CliffJudges$Hills" "cliffSnow" "[I") ∈ gT := gm 344 (by decide +kernel) (by decide +kernel)
theorem dX4_init_33 : decode cX4_init 33 = .ok (.aload_n 0, 1) := by decide +kernel
theorem dX4_init_34 : decode cX4_init 34 = .ok (.iconst 4, 1) := by decide +kernel
theorem dX4_init_35 : decode cX4_init 35 = .ok (.newarray .int, 2) := by decide +kernel
theorem dX4_init_37 : decode cX4_init 37 = .ok (.putfield 24, 3) := by decide +kernel
theorem m_348 : (Cond.fieldLink RX4 24 "CliffJudges$Hills" "manPlace" "[I") ∈ gT := gm 348 (by decide +kernel) (by decide +kernel)
theorem dX4_init_40 : decode cX4_init 40 = .ok (.aload_n 0, 1) := by decide +kernel
theorem dX4_init_41 : decode cX4_init 41 = .ok (.iconst 4, 1) := by decide +kernel
theorem dX4_init_42 : decode cX4_init 42 = .ok (.newarray .int, 2) := by decide +kernel
theorem dX4_init_44 : decode cX4_init 44 = .ok (.putfield 27, 3) := by decide +kernel
theorem m_351 : (Cond.fieldLink RX4 27 "CliffJudges$Hills" "manVoice" "[I") ∈ gT := gm 351 (by decide +kernel) (by decide +kernel)
theorem dX4_init_47 : decode cX4_init 47 = .ok (.aload_n 0, 1) := by decide +kernel
theorem dX4_init_48 : decode cX4_init 48 = .ok (.bipush 48, 2) := by decide +kernel
theorem dX4_init_50 : decode cX4_init 50 = .ok (.newarray .int, 2) := by decide +kernel
theorem dX4_init_52 : decode cX4_init 52 = .ok (.putfield 30, 3) := by decide +kernel
theorem dX4_init_55 : decode cX4_init 55 = .ok (.aload_n 0, 1) := by decide +kernel
theorem dX4_init_56 : decode cX4_init 56 = .ok (.bipush 6, 2) := by decide +kernel
theorem dX4_init_58 : decode cX4_init 58 = .ok (.newarray .int, 2) := by decide +kernel
theorem dX4_init_60 : decode cX4_init 60 = .ok (.putfield 33, 3) := by decide +kernel
theorem m_359 : (Cond.fieldLink RX4 33 "CliffJudges$Hills" "stepsLeft" "[I") ∈ gT := gm 359 (by decide +kernel) (by decide +kernel)
theorem dX4_init_63 : decode cX4_init 63 = .ok (.aload_n 0, 1) := by decide +kernel
theorem dX4_init_64 : decode cX4_init 64 = .ok (.new 36, 3) := by decide +kernel
theorem m_294 : (Cond.classLink RX4 36 RX3) ∈ gT := gm 294 (by decide +kernel) (by decide +kernel)
theorem m_295 : (Cond.instantiable RX3 4) ∈ gT := gm 295 (by decide +kernel) (by decide +kernel)
theorem dX4_init_67 : decode cX4_init 67 = .ok (.dup, 1) := by decide +kernel
theorem dX4_init_68 : decode cX4_init 68 = .ok (.invokespecial 38, 3) := by decide +kernel
theorem m_297 : (Cond.instanceMethod yX3_init) ∈ gT := gm 297 (by decide +kernel) (by decide +kernel)
theorem m_298 : (Cond.code yX3_init cX3_init 1 none) ∈ gT := gm 298 (by decide +kernel) (by decide +kernel)
theorem kN_X3_init : xN yX3_init cX3_init 1 0 := ⟨⟨m_297, m_138, m_298⟩, rfl, by decide, by decide, by decide +kernel⟩
theorem dX4_init_71 : decode cX4_init 71 = .ok (.putfield 39, 3) := by decide +kernel
theorem dX4_init_74 : decode cX4_init 74 = .ok (.aload_n 0, 1) := by decide +kernel
theorem dX4_init_75 : decode cX4_init 75 = .ok (.new 36, 3) := by decide +kernel
theorem dX4_init_78 : decode cX4_init 78 = .ok (.dup, 1) := by decide +kernel
theorem dX4_init_79 : decode cX4_init 79 = .ok (.invokespecial 38, 3) := by decide +kernel
theorem dX4_init_82 : decode cX4_init 82 = .ok (.putfield 43, 3) := by decide +kernel
theorem dX4_init_85 : decode cX4_init 85 = .ok (.aload_n 0, 1) := by decide +kernel
theorem dX4_init_86 : decode cX4_init 86 = .ok (.new 36, 3) := by decide +kernel
theorem dX4_init_89 : decode cX4_init 89 = .ok (.dup, 1) := by decide +kernel
theorem dX4_init_90 : decode cX4_init 90 = .ok (.invokespecial 38, 3) := by decide +kernel
theorem dX4_init_93 : decode cX4_init 93 = .ok (.putfield 46, 3) := by decide +kernel
theorem dX4_init_96 : decode cX4_init 96 = .ok (.aload_n 0, 1) := by decide +kernel
theorem dX4_init_97 : decode cX4_init 97 = .ok (.invokevirtual 49, 3) := by decide +kernel
theorem m_317 : (Cond.methodLink RX4 49 yX4_clear) ∈ gT := gm 317 (by decide +kernel) (by decide +kernel)
theorem k_X4_49 : xV RX4 RX4 49 yX4_clear cX4_clear 2 none 0 := ⟨⟨m_317, m_318, m_319, m_137, m_320⟩, rfl, by decide, by decide, by decide +kernel⟩
theorem dX4_init_100 : decode cX4_init 100 = .ok (.aload_n 0, 1) := by decide +kernel
theorem dX4_init_101 : decode cX4_init 101 = .ok (.invokevirtual 52, 3) := by decide +kernel
theorem m_325 : (Cond.methodLink RX4 52 yX4_settle) ∈ gT := gm 325 (by decide +kernel) (by decide +kernel)
theorem k_X4_52 : xV RX4 RX4 52 yX4_settle cX4_settle 2 none 0 := ⟨⟨m_325, m_326, m_327, m_137, m_328⟩, rfl, by decide, by decide, by decide +kernel⟩
theorem dX4_init_104 : decode cX4_init 104 = .ok (.return_, 1) := by decide +kernel
set_option maxHeartbeats 400000 in
set_option maxRecDepth 100000 in
theorem n_Hills (l : Launch) (D : va_G) (cy : Nat → ClassId) (adK : Nat → Nat) (adV : Nat → Nat) (o0 : Nat)  : XMv l D (tyL cy) (EV adK adV) yX4_init cX4_init 1 none (rmk 3 17 1027) [.ref o0] [(o0, .inr (4, [.null, .null, .null, .null, .null, .null, .null, .null, .null, .null, .null, .int 0, .int 0, .int 0, .int 0, .int 0]))] (fun (u : (Nat → Nat) × (Nat → Value) × (Nat → Int32)) => True) (fun (u : (Nat → Nat) × (Nat → Value) × (Nat → Int32)) => [(o0, .inr (4, [.ref (u.1 0), u.2.1 0, u.2.1 1, u.2.1 2, u.2.1 3, u.2.1 4, .ref (u.1 1), u.2.1 5, .ref (u.1 2), .ref (u.1 3), .ref (u.1 4), .int 0, .int 0, .int 0, .int 0, .int 0])), (u.1 0, .inl (cy 1, 4, .inl (fun _ => 0))), (u.1 1, .inl (cy 1, 48, .inl (u.2.2))), (u.1 2, .inr (3, [u.2.1 6, u.2.1 7, .int 0, .int 0])), (u.1 3, .inr (3, [u.2.1 8, u.2.1 9, .int 0, .int 0])), (u.1 4, .inr (3, [u.2.1 10, u.2.1 11, .int 0, .int 0]))]) := by
  refine XMv.start (by decide) (Nat.le_of_ble_eq_true rfl) ?_
  intro p e s m below meth c args A ls Q hat hQ
  obtain ⟨hx, hb, hr, hml, hown, hg, hlocks, hin, hK, hA, hP, hD, hS, hE, hl⟩ := hat
  have hown : s.vm.findClass RX4 = some m.cls := hown
  have hl : lv_has ls 1 [(0, .ref o0)] := hl
  refine lv_aload_n hx hb dX4_init_0 rfl (lv_at hl 0 rfl) ?_
  refine W.objInit hx hb hown (hg _ m_293) (hg _ m_157) (hg _ m_158) rfl (by rw [hml]; exact hl.1) rfl dX4_init_1 (by decide) (Nat.le_of_ble_eq_true rfl) ?_
  refine W.eq (g2 := F0 m 4 ls []) rfl ?_
  refine lv_aload_n hx hb dX4_init_4 rfl (lv_at hl 0 rfl) ?_
  refine lv_iconst (v := 4) hx hb dX4_init_5 (by decide) ?_
  refine x_newa (atype := .int) (ty := .int) (a0 := (4, .inl (fun _ => 0))) (N' := 4) hx hb (hg _ m_316) rfl hK 1 rfl one_int hP hD hS hA (fun _ => rfl) (by decide) (by decide) (by decide) (by decide) (by decide) dX4_init_6 (fun q_1 H hP hD hS => ?_)
  have hP : va_P D vwCl [(o0, .inr (4, [.null, .null, .null, .null, .null, .null, .null, .null, .null, .null, .null, .int 0, .int 0, .int 0, .int 0, .int 0])), (q_1, .inl (cy 1, 4, .inl (fun _ => 0)))] H := hP
  have hD : va_D A [(o0, .inr (4, [.null, .null, .null, .null, .null, .null, .null, .null, .null, .null, .null, .int 0, .int 0, .int 0, .int 0, .int 0])), (q_1, .inl (cy 1, 4, .inl (fun _ => 0)))] := hD
  refine W.widen (k := 1) (n := 4) (Nat.le_of_ble_eq_true rfl) (Nat.le_of_ble_eq_true rfl) ?_
  refine va_putF (D := D) (ci := 4) (v := .ref q_1) (ty := .array .int) (C := RX4) (T := TX4) (N := 16) hx hb hg i_X4 tyX4 tyX4_ok nmX4 hown hK hP hD hS 0 rfl rfl 0 (by decide) (hg _ m_329) (fun _ h9 => h9) rfl hin rfl (by decide +kernel) rfl rfl (Nat.le_of_ble_eq_true rfl) dX4_init_8 (fun H locs hP hD hS => ?_)
  have hP : va_P D vwCl [(o0, .inr (4, [.ref q_1, .null, .null, .null, .null, .null, .null, .null, .null, .null, .null, .int 0, .int 0, .int 0, .int 0, .int 0])), (q_1, .inl (cy 1, 4, .inl (fun _ => 0)))] H := hP
  have hD : va_D A [(o0, .inr (4, [.ref q_1, .null, .null, .null, .null, .null, .null, .null, .null, .null, .null, .int 0, .int 0, .int 0, .int 0, .int 0])), (q_1, .inl (cy 1, 4, .inl (fun _ => 0)))] := hD
  refine lv_aload_n hx hb dX4_init_11 rfl (lv_at hl 0 rfl) ?_
  refine lv_bipush (v := 8) hx hb dX4_init_12 (by decide) ?_
  refine x_newa (atype := .int) (ty := .int) (a0 := (8, .inl (fun _ => 0))) (N' := 8) hx hb (hg _ m_316) rfl hK 1 rfl one_int hP hD hS hA (fun _ => rfl) (by decide) (by decide) (by decide) (by decide) (by decide) dX4_init_14 (fun q_2 H hP hD hS => ?_)
  have hP : va_P D vwCl [(o0, .inr (4, [.ref q_1, .null, .null, .null, .null, .null, .null, .null, .null, .null, .null, .int 0, .int 0, .int 0, .int 0, .int 0])), (q_1, .inl (cy 1, 4, .inl (fun _ => 0))), (q_2, .inl (cy 1, 8, .inl (fun _ => 0)))] H := hP
  have hD : va_D A [(o0, .inr (4, [.ref q_1, .null, .null, .null, .null, .null, .null, .null, .null, .null, .null, .int 0, .int 0, .int 0, .int 0, .int 0])), (q_1, .inl (cy 1, 4, .inl (fun _ => 0))), (q_2, .inl (cy 1, 8, .inl (fun _ => 0)))] := hD
  refine W.widen (k := 2) (n := 12) (Nat.le_of_ble_eq_true rfl) (Nat.le_of_ble_eq_true rfl) ?_
  refine va_putF (D := D) (ci := 4) (v := .ref q_2) (ty := .array .int) (C := RX4) (T := TX4) (N := 16) hx hb hg i_X4 tyX4 tyX4_ok nmX4 hown hK hP hD hS 0 rfl rfl 1 (by decide) (hg _ m_338) (fun _ h9 => h9) rfl hin rfl (by decide +kernel) rfl rfl (Nat.le_of_ble_eq_true rfl) dX4_init_16 (fun H locs hP hD hS => ?_)
  have hP : va_P D vwCl [(o0, .inr (4, [.ref q_1, .ref q_2, .null, .null, .null, .null, .null, .null, .null, .null, .null, .int 0, .int 0, .int 0, .int 0, .int 0])), (q_1, .inl (cy 1, 4, .inl (fun _ => 0))), (q_2, .inl (cy 1, 8, .inl (fun _ => 0)))] H := hP
  have hD : va_D A [(o0, .inr (4, [.ref q_1, .ref q_2, .null, .null, .null, .null, .null, .null, .null, .null, .null, .int 0, .int 0, .int 0, .int 0, .int 0])), (q_1, .inl (cy 1, 4, .inl (fun _ => 0))), (q_2, .inl (cy 1, 8, .inl (fun _ => 0)))] := hD
  refine lv_aload_n hx hb dX4_init_19 rfl (lv_at hl 0 rfl) ?_
  refine lv_iconst (v := 4) hx hb dX4_init_20 (by decide) ?_
  refine x_newa (atype := .int) (ty := .int) (a0 := (4, .inl (fun _ => 0))) (N' := 4) hx hb (hg _ m_316) rfl hK 1 rfl one_int hP hD hS hA (fun _ => rfl) (by decide) (by decide) (by decide) (by decide) (by decide) dX4_init_21 (fun q_3 H hP hD hS => ?_)
  have hP : va_P D vwCl [(o0, .inr (4, [.ref q_1, .ref q_2, .null, .null, .null, .null, .null, .null, .null, .null, .null, .int 0, .int 0, .int 0, .int 0, .int 0])), (q_1, .inl (cy 1, 4, .inl (fun _ => 0))), (q_2, .inl (cy 1, 8, .inl (fun _ => 0))), (q_3, .inl (cy 1, 4, .inl (fun _ => 0)))] H := hP
  have hD : va_D A [(o0, .inr (4, [.ref q_1, .ref q_2, .null, .null, .null, .null, .null, .null, .null, .null, .null, .int 0, .int 0, .int 0, .int 0, .int 0])), (q_1, .inl (cy 1, 4, .inl (fun _ => 0))), (q_2, .inl (cy 1, 8, .inl (fun _ => 0))), (q_3, .inl (cy 1, 4, .inl (fun _ => 0)))] := hD
  refine W.widen (k := 3) (n := 16) (Nat.le_of_ble_eq_true rfl) (Nat.le_of_ble_eq_true rfl) ?_
  refine va_putF (D := D) (ci := 4) (v := .ref q_3) (ty := .array .int) (C := RX4) (T := TX4) (N := 16) hx hb hg i_X4 tyX4 tyX4_ok nmX4 hown hK hP hD hS 0 rfl rfl 2 (by decide) (hg _ m_341) (fun _ h9 => h9) rfl hin rfl (by decide +kernel) rfl rfl (Nat.le_of_ble_eq_true rfl) dX4_init_23 (fun H locs hP hD hS => ?_)
  have hP : va_P D vwCl [(o0, .inr (4, [.ref q_1, .ref q_2, .ref q_3, .null, .null, .null, .null, .null, .null, .null, .null, .int 0, .int 0, .int 0, .int 0, .int 0])), (q_1, .inl (cy 1, 4, .inl (fun _ => 0))), (q_2, .inl (cy 1, 8, .inl (fun _ => 0))), (q_3, .inl (cy 1, 4, .inl (fun _ => 0)))] H := hP
  have hD : va_D A [(o0, .inr (4, [.ref q_1, .ref q_2, .ref q_3, .null, .null, .null, .null, .null, .null, .null, .null, .int 0, .int 0, .int 0, .int 0, .int 0])), (q_1, .inl (cy 1, 4, .inl (fun _ => 0))), (q_2, .inl (cy 1, 8, .inl (fun _ => 0))), (q_3, .inl (cy 1, 4, .inl (fun _ => 0)))] := hD
  refine lv_aload_n hx hb dX4_init_26 rfl (lv_at hl 0 rfl) ?_
  refine lv_iconst (v := 4) hx hb dX4_init_27 (by decide) ?_
  refine x_newa (atype := .int) (ty := .int) (a0 := (4, .inl (fun _ => 0))) (N' := 4) hx hb (hg _ m_316) rfl hK 1 rfl one_int hP hD hS hA (fun _ => rfl) (by decide) (by decide) (by decide) (by decide) (by decide) dX4_init_28 (fun q_4 H hP hD hS => ?_)
  have hP : va_P D vwCl [(o0, .inr (4, [.ref q_1, .ref q_2, .ref q_3, .null, .null, .null, .null, .null, .null, .null, .null, .int 0, .int 0, .int 0, .int 0, .int 0])), (q_1, .inl (cy 1, 4, .inl (fun _ => 0))), (q_2, .inl (cy 1, 8, .inl (fun _ => 0))), (q_3, .inl (cy 1, 4, .inl (fun _ => 0))), (q_4, .inl (cy 1, 4, .inl (fun _ => 0)))] H := hP
  have hD : va_D A [(o0, .inr (4, [.ref q_1, .ref q_2, .ref q_3, .null, .null, .null, .null, .null, .null, .null, .null, .int 0, .int 0, .int 0, .int 0, .int 0])), (q_1, .inl (cy 1, 4, .inl (fun _ => 0))), (q_2, .inl (cy 1, 8, .inl (fun _ => 0))), (q_3, .inl (cy 1, 4, .inl (fun _ => 0))), (q_4, .inl (cy 1, 4, .inl (fun _ => 0)))] := hD
  refine W.widen (k := 4) (n := 20) (Nat.le_of_ble_eq_true rfl) (Nat.le_of_ble_eq_true rfl) ?_
  refine va_putF (D := D) (ci := 4) (v := .ref q_4) (ty := .array .int) (C := RX4) (T := TX4) (N := 16) hx hb hg i_X4 tyX4 tyX4_ok nmX4 hown hK hP hD hS 0 rfl rfl 3 (by decide) (hg _ m_344) (fun _ h9 => h9) rfl hin rfl (by decide +kernel) rfl rfl (Nat.le_of_ble_eq_true rfl) dX4_init_30 (fun H locs hP hD hS => ?_)
  have hP : va_P D vwCl [(o0, .inr (4, [.ref q_1, .ref q_2, .ref q_3, .ref q_4, .null, .null, .null, .null, .null, .null, .null, .int 0, .int 0, .int 0, .int 0, .int 0])), (q_1, .inl (cy 1, 4, .inl (fun _ => 0))), (q_2, .inl (cy 1, 8, .inl (fun _ => 0))), (q_3, .inl (cy 1, 4, .inl (fun _ => 0))), (q_4, .inl (cy 1, 4, .inl (fun _ => 0)))] H := hP
  have hD : va_D A [(o0, .inr (4, [.ref q_1, .ref q_2, .ref q_3, .ref q_4, .null, .null, .null, .null, .null, .null, .null, .int 0, .int 0, .int 0, .int 0, .int 0])), (q_1, .inl (cy 1, 4, .inl (fun _ => 0))), (q_2, .inl (cy 1, 8, .inl (fun _ => 0))), (q_3, .inl (cy 1, 4, .inl (fun _ => 0))), (q_4, .inl (cy 1, 4, .inl (fun _ => 0)))] := hD
  refine lv_aload_n hx hb dX4_init_33 rfl (lv_at hl 0 rfl) ?_
  refine lv_iconst (v := 4) hx hb dX4_init_34 (by decide) ?_
  refine x_newa (atype := .int) (ty := .int) (a0 := (4, .inl (fun _ => 0))) (N' := 4) hx hb (hg _ m_316) rfl hK 1 rfl one_int hP hD hS hA (fun _ => rfl) (by decide) (by decide) (by decide) (by decide) (by decide) dX4_init_35 (fun q_5 H hP hD hS => ?_)
  have hP : va_P D vwCl [(o0, .inr (4, [.ref q_1, .ref q_2, .ref q_3, .ref q_4, .null, .null, .null, .null, .null, .null, .null, .int 0, .int 0, .int 0, .int 0, .int 0])), (q_1, .inl (cy 1, 4, .inl (fun _ => 0))), (q_2, .inl (cy 1, 8, .inl (fun _ => 0))), (q_3, .inl (cy 1, 4, .inl (fun _ => 0))), (q_4, .inl (cy 1, 4, .inl (fun _ => 0))), (q_5, .inl (cy 1, 4, .inl (fun _ => 0)))] H := hP
  have hD : va_D A [(o0, .inr (4, [.ref q_1, .ref q_2, .ref q_3, .ref q_4, .null, .null, .null, .null, .null, .null, .null, .int 0, .int 0, .int 0, .int 0, .int 0])), (q_1, .inl (cy 1, 4, .inl (fun _ => 0))), (q_2, .inl (cy 1, 8, .inl (fun _ => 0))), (q_3, .inl (cy 1, 4, .inl (fun _ => 0))), (q_4, .inl (cy 1, 4, .inl (fun _ => 0))), (q_5, .inl (cy 1, 4, .inl (fun _ => 0)))] := hD
  refine W.widen (k := 5) (n := 24) (Nat.le_of_ble_eq_true rfl) (Nat.le_of_ble_eq_true rfl) ?_
  refine va_putF (D := D) (ci := 4) (v := .ref q_5) (ty := .array .int) (C := RX4) (T := TX4) (N := 16) hx hb hg i_X4 tyX4 tyX4_ok nmX4 hown hK hP hD hS 0 rfl rfl 4 (by decide) (hg _ m_348) (fun _ h9 => h9) rfl hin rfl (by decide +kernel) rfl rfl (Nat.le_of_ble_eq_true rfl) dX4_init_37 (fun H locs hP hD hS => ?_)
  have hP : va_P D vwCl [(o0, .inr (4, [.ref q_1, .ref q_2, .ref q_3, .ref q_4, .ref q_5, .null, .null, .null, .null, .null, .null, .int 0, .int 0, .int 0, .int 0, .int 0])), (q_1, .inl (cy 1, 4, .inl (fun _ => 0))), (q_2, .inl (cy 1, 8, .inl (fun _ => 0))), (q_3, .inl (cy 1, 4, .inl (fun _ => 0))), (q_4, .inl (cy 1, 4, .inl (fun _ => 0))), (q_5, .inl (cy 1, 4, .inl (fun _ => 0)))] H := hP
  have hD : va_D A [(o0, .inr (4, [.ref q_1, .ref q_2, .ref q_3, .ref q_4, .ref q_5, .null, .null, .null, .null, .null, .null, .int 0, .int 0, .int 0, .int 0, .int 0])), (q_1, .inl (cy 1, 4, .inl (fun _ => 0))), (q_2, .inl (cy 1, 8, .inl (fun _ => 0))), (q_3, .inl (cy 1, 4, .inl (fun _ => 0))), (q_4, .inl (cy 1, 4, .inl (fun _ => 0))), (q_5, .inl (cy 1, 4, .inl (fun _ => 0)))] := hD
  refine lv_aload_n hx hb dX4_init_40 rfl (lv_at hl 0 rfl) ?_
  refine lv_iconst (v := 4) hx hb dX4_init_41 (by decide) ?_
  refine x_newa (atype := .int) (ty := .int) (a0 := (4, .inl (fun _ => 0))) (N' := 4) hx hb (hg _ m_316) rfl hK 1 rfl one_int hP hD hS hA (fun _ => rfl) (by decide) (by decide) (by decide) (by decide) (by decide) dX4_init_42 (fun q_6 H hP hD hS => ?_)
  have hP : va_P D vwCl [(o0, .inr (4, [.ref q_1, .ref q_2, .ref q_3, .ref q_4, .ref q_5, .null, .null, .null, .null, .null, .null, .int 0, .int 0, .int 0, .int 0, .int 0])), (q_1, .inl (cy 1, 4, .inl (fun _ => 0))), (q_2, .inl (cy 1, 8, .inl (fun _ => 0))), (q_3, .inl (cy 1, 4, .inl (fun _ => 0))), (q_4, .inl (cy 1, 4, .inl (fun _ => 0))), (q_5, .inl (cy 1, 4, .inl (fun _ => 0))), (q_6, .inl (cy 1, 4, .inl (fun _ => 0)))] H := hP
  have hD : va_D A [(o0, .inr (4, [.ref q_1, .ref q_2, .ref q_3, .ref q_4, .ref q_5, .null, .null, .null, .null, .null, .null, .int 0, .int 0, .int 0, .int 0, .int 0])), (q_1, .inl (cy 1, 4, .inl (fun _ => 0))), (q_2, .inl (cy 1, 8, .inl (fun _ => 0))), (q_3, .inl (cy 1, 4, .inl (fun _ => 0))), (q_4, .inl (cy 1, 4, .inl (fun _ => 0))), (q_5, .inl (cy 1, 4, .inl (fun _ => 0))), (q_6, .inl (cy 1, 4, .inl (fun _ => 0)))] := hD
  refine W.widen (k := 6) (n := 28) (Nat.le_of_ble_eq_true rfl) (Nat.le_of_ble_eq_true rfl) ?_
  refine va_putF (D := D) (ci := 4) (v := .ref q_6) (ty := .array .int) (C := RX4) (T := TX4) (N := 16) hx hb hg i_X4 tyX4 tyX4_ok nmX4 hown hK hP hD hS 0 rfl rfl 5 (by decide) (hg _ m_351) (fun _ h9 => h9) rfl hin rfl (by decide +kernel) rfl rfl (Nat.le_of_ble_eq_true rfl) dX4_init_44 (fun H locs hP hD hS => ?_)
  have hP : va_P D vwCl [(o0, .inr (4, [.ref q_1, .ref q_2, .ref q_3, .ref q_4, .ref q_5, .ref q_6, .null, .null, .null, .null, .null, .int 0, .int 0, .int 0, .int 0, .int 0])), (q_1, .inl (cy 1, 4, .inl (fun _ => 0))), (q_2, .inl (cy 1, 8, .inl (fun _ => 0))), (q_3, .inl (cy 1, 4, .inl (fun _ => 0))), (q_4, .inl (cy 1, 4, .inl (fun _ => 0))), (q_5, .inl (cy 1, 4, .inl (fun _ => 0))), (q_6, .inl (cy 1, 4, .inl (fun _ => 0)))] H := hP
  have hD : va_D A [(o0, .inr (4, [.ref q_1, .ref q_2, .ref q_3, .ref q_4, .ref q_5, .ref q_6, .null, .null, .null, .null, .null, .int 0, .int 0, .int 0, .int 0, .int 0])), (q_1, .inl (cy 1, 4, .inl (fun _ => 0))), (q_2, .inl (cy 1, 8, .inl (fun _ => 0))), (q_3, .inl (cy 1, 4, .inl (fun _ => 0))), (q_4, .inl (cy 1, 4, .inl (fun _ => 0))), (q_5, .inl (cy 1, 4, .inl (fun _ => 0))), (q_6, .inl (cy 1, 4, .inl (fun _ => 0)))] := hD
  refine lv_aload_n hx hb dX4_init_47 rfl (lv_at hl 0 rfl) ?_
  refine lv_bipush (v := 48) hx hb dX4_init_48 (by decide) ?_
  refine x_newa (atype := .int) (ty := .int) (a0 := (48, .inl (fun _ => 0))) (N' := 48) hx hb (hg _ m_316) rfl hK 1 rfl one_int hP hD hS hA (fun _ => rfl) (by decide) (by decide) (by decide) (by decide) (by decide) dX4_init_50 (fun q_7 H hP hD hS => ?_)
  have hP : va_P D vwCl [(o0, .inr (4, [.ref q_1, .ref q_2, .ref q_3, .ref q_4, .ref q_5, .ref q_6, .null, .null, .null, .null, .null, .int 0, .int 0, .int 0, .int 0, .int 0])), (q_1, .inl (cy 1, 4, .inl (fun _ => 0))), (q_2, .inl (cy 1, 8, .inl (fun _ => 0))), (q_3, .inl (cy 1, 4, .inl (fun _ => 0))), (q_4, .inl (cy 1, 4, .inl (fun _ => 0))), (q_5, .inl (cy 1, 4, .inl (fun _ => 0))), (q_6, .inl (cy 1, 4, .inl (fun _ => 0))), (q_7, .inl (cy 1, 48, .inl (fun _ => 0)))] H := hP
  have hD : va_D A [(o0, .inr (4, [.ref q_1, .ref q_2, .ref q_3, .ref q_4, .ref q_5, .ref q_6, .null, .null, .null, .null, .null, .int 0, .int 0, .int 0, .int 0, .int 0])), (q_1, .inl (cy 1, 4, .inl (fun _ => 0))), (q_2, .inl (cy 1, 8, .inl (fun _ => 0))), (q_3, .inl (cy 1, 4, .inl (fun _ => 0))), (q_4, .inl (cy 1, 4, .inl (fun _ => 0))), (q_5, .inl (cy 1, 4, .inl (fun _ => 0))), (q_6, .inl (cy 1, 4, .inl (fun _ => 0))), (q_7, .inl (cy 1, 48, .inl (fun _ => 0)))] := hD
  refine W.widen (k := 7) (n := 76) (Nat.le_of_ble_eq_true rfl) (Nat.le_of_ble_eq_true rfl) ?_
  refine va_putF (D := D) (ci := 4) (v := .ref q_7) (ty := .array .int) (C := RX4) (T := TX4) (N := 16) hx hb hg i_X4 tyX4 tyX4_ok nmX4 hown hK hP hD hS 0 rfl rfl 6 (by decide) (hg _ m_354) (fun _ h9 => h9) rfl hin rfl (by decide +kernel) rfl rfl (Nat.le_of_ble_eq_true rfl) dX4_init_52 (fun H locs hP hD hS => ?_)
  have hP : va_P D vwCl [(o0, .inr (4, [.ref q_1, .ref q_2, .ref q_3, .ref q_4, .ref q_5, .ref q_6, .ref q_7, .null, .null, .null, .null, .int 0, .int 0, .int 0, .int 0, .int 0])), (q_1, .inl (cy 1, 4, .inl (fun _ => 0))), (q_2, .inl (cy 1, 8, .inl (fun _ => 0))), (q_3, .inl (cy 1, 4, .inl (fun _ => 0))), (q_4, .inl (cy 1, 4, .inl (fun _ => 0))), (q_5, .inl (cy 1, 4, .inl (fun _ => 0))), (q_6, .inl (cy 1, 4, .inl (fun _ => 0))), (q_7, .inl (cy 1, 48, .inl (fun _ => 0)))] H := hP
  have hD : va_D A [(o0, .inr (4, [.ref q_1, .ref q_2, .ref q_3, .ref q_4, .ref q_5, .ref q_6, .ref q_7, .null, .null, .null, .null, .int 0, .int 0, .int 0, .int 0, .int 0])), (q_1, .inl (cy 1, 4, .inl (fun _ => 0))), (q_2, .inl (cy 1, 8, .inl (fun _ => 0))), (q_3, .inl (cy 1, 4, .inl (fun _ => 0))), (q_4, .inl (cy 1, 4, .inl (fun _ => 0))), (q_5, .inl (cy 1, 4, .inl (fun _ => 0))), (q_6, .inl (cy 1, 4, .inl (fun _ => 0))), (q_7, .inl (cy 1, 48, .inl (fun _ => 0)))] := hD
  refine lv_aload_n hx hb dX4_init_55 rfl (lv_at hl 0 rfl) ?_
  refine lv_bipush (v := 6) hx hb dX4_init_56 (by decide) ?_
  refine x_newa (atype := .int) (ty := .int) (a0 := (6, .inl (fun _ => 0))) (N' := 6) hx hb (hg _ m_316) rfl hK 1 rfl one_int hP hD hS hA (fun _ => rfl) (by decide) (by decide) (by decide) (by decide) (by decide) dX4_init_58 (fun q_8 H hP hD hS => ?_)
  have hP : va_P D vwCl [(o0, .inr (4, [.ref q_1, .ref q_2, .ref q_3, .ref q_4, .ref q_5, .ref q_6, .ref q_7, .null, .null, .null, .null, .int 0, .int 0, .int 0, .int 0, .int 0])), (q_1, .inl (cy 1, 4, .inl (fun _ => 0))), (q_2, .inl (cy 1, 8, .inl (fun _ => 0))), (q_3, .inl (cy 1, 4, .inl (fun _ => 0))), (q_4, .inl (cy 1, 4, .inl (fun _ => 0))), (q_5, .inl (cy 1, 4, .inl (fun _ => 0))), (q_6, .inl (cy 1, 4, .inl (fun _ => 0))), (q_7, .inl (cy 1, 48, .inl (fun _ => 0))), (q_8, .inl (cy 1, 6, .inl (fun _ => 0)))] H := hP
  have hD : va_D A [(o0, .inr (4, [.ref q_1, .ref q_2, .ref q_3, .ref q_4, .ref q_5, .ref q_6, .ref q_7, .null, .null, .null, .null, .int 0, .int 0, .int 0, .int 0, .int 0])), (q_1, .inl (cy 1, 4, .inl (fun _ => 0))), (q_2, .inl (cy 1, 8, .inl (fun _ => 0))), (q_3, .inl (cy 1, 4, .inl (fun _ => 0))), (q_4, .inl (cy 1, 4, .inl (fun _ => 0))), (q_5, .inl (cy 1, 4, .inl (fun _ => 0))), (q_6, .inl (cy 1, 4, .inl (fun _ => 0))), (q_7, .inl (cy 1, 48, .inl (fun _ => 0))), (q_8, .inl (cy 1, 6, .inl (fun _ => 0)))] := hD
  refine W.widen (k := 8) (n := 82) (Nat.le_of_ble_eq_true rfl) (Nat.le_of_ble_eq_true rfl) ?_
  refine va_putF (D := D) (ci := 4) (v := .ref q_8) (ty := .array .int) (C := RX4) (T := TX4) (N := 16) hx hb hg i_X4 tyX4 tyX4_ok nmX4 hown hK hP hD hS 0 rfl rfl 7 (by decide) (hg _ m_359) (fun _ h9 => h9) rfl hin rfl (by decide +kernel) rfl rfl (Nat.le_of_ble_eq_true rfl) dX4_init_60 (fun H locs hP hD hS => ?_)
  have hP : va_P D vwCl [(o0, .inr (4, [.ref q_1, .ref q_2, .ref q_3, .ref q_4, .ref q_5, .ref q_6, .ref q_7, .ref q_8, .null, .null, .null, .int 0, .int 0, .int 0, .int 0, .int 0])), (q_1, .inl (cy 1, 4, .inl (fun _ => 0))), (q_2, .inl (cy 1, 8, .inl (fun _ => 0))), (q_3, .inl (cy 1, 4, .inl (fun _ => 0))), (q_4, .inl (cy 1, 4, .inl (fun _ => 0))), (q_5, .inl (cy 1, 4, .inl (fun _ => 0))), (q_6, .inl (cy 1, 4, .inl (fun _ => 0))), (q_7, .inl (cy 1, 48, .inl (fun _ => 0))), (q_8, .inl (cy 1, 6, .inl (fun _ => 0)))] H := hP
  have hD : va_D A [(o0, .inr (4, [.ref q_1, .ref q_2, .ref q_3, .ref q_4, .ref q_5, .ref q_6, .ref q_7, .ref q_8, .null, .null, .null, .int 0, .int 0, .int 0, .int 0, .int 0])), (q_1, .inl (cy 1, 4, .inl (fun _ => 0))), (q_2, .inl (cy 1, 8, .inl (fun _ => 0))), (q_3, .inl (cy 1, 4, .inl (fun _ => 0))), (q_4, .inl (cy 1, 4, .inl (fun _ => 0))), (q_5, .inl (cy 1, 4, .inl (fun _ => 0))), (q_6, .inl (cy 1, 4, .inl (fun _ => 0))), (q_7, .inl (cy 1, 48, .inl (fun _ => 0))), (q_8, .inl (cy 1, 6, .inl (fun _ => 0)))] := hD
  have hP := hP.sub (ws' := [(o0, .inr (4, [.ref q_1, .ref q_2, .ref q_3, .ref q_4, .ref q_5, .ref q_6, .ref q_7, .ref q_8, .null, .null, .null, .int 0, .int 0, .int 0, .int 0, .int 0])), (q_1, .inl (cy 1, 4, .inl (fun _ => 0))), (q_7, .inl (cy 1, 48, .inl (fun _ => 0)))]) [0, 1, 7] rfl
  have hD := hD.sub (ws' := [(o0, .inr (4, [.ref q_1, .ref q_2, .ref q_3, .ref q_4, .ref q_5, .ref q_6, .ref q_7, .ref q_8, .null, .null, .null, .int 0, .int 0, .int 0, .int 0, .int 0])), (q_1, .inl (cy 1, 4, .inl (fun _ => 0))), (q_7, .inl (cy 1, 48, .inl (fun _ => 0)))]) [0, 1, 7] (by decide) rfl
  refine lv_aload_n hx hb dX4_init_63 rfl (lv_at hl 0 rfl) ?_
  refine va_new (D := D) (cl := vwCl) (ci := 3) (fs := [.null, .null, .int 0, .int 0]) (C := RX3) (T := TX3) (N := 4) hx hb hg i_X3 tyX3 tyX3_ok hown (hg _ m_294) (hg _ m_295) (hg _ m_138) hK hP hD hS hA rfl (fun j hj => by rcases (show j = 0 ∨ j = 1 ∨ j = 2 ∨ j = 3 by omega) with rfl | rfl | rfl | rfl <;> rfl) (by decide) (by decide) dX4_init_64 (fun q_9 H hP hD hS => ?_)
  have hP : va_P D vwCl [(o0, .inr (4, [.ref q_1, .ref q_2, .ref q_3, .ref q_4, .ref q_5, .ref q_6, .ref q_7, .ref q_8, .null, .null, .null, .int 0, .int 0, .int 0, .int 0, .int 0])), (q_1, .inl (cy 1, 4, .inl (fun _ => 0))), (q_7, .inl (cy 1, 48, .inl (fun _ => 0))), (q_9, .inr (3, [.null, .null, .int 0, .int 0]))] H := hP
  have hD : va_D A [(o0, .inr (4, [.ref q_1, .ref q_2, .ref q_3, .ref q_4, .ref q_5, .ref q_6, .ref q_7, .ref q_8, .null, .null, .null, .int 0, .int 0, .int 0, .int 0, .int 0])), (q_1, .inl (cy 1, 4, .inl (fun _ => 0))), (q_7, .inl (cy 1, 48, .inl (fun _ => 0))), (q_9, .inr (3, [.null, .null, .int 0, .int 0]))] := hD
  refine W.widen (k := 9) (n := 86) (Nat.le_of_ble_eq_true rfl) (Nat.le_of_ble_eq_true rfl) ?_
  refine lv_dup hx hb dX4_init_67 rfl ?_
  refine x_callN (wr := [(o0, .inr (4, [.ref q_1, .ref q_2, .ref q_3, .ref q_4, .ref q_5, .ref q_6, .ref q_7, .ref q_8, .null, .null, .null, .int 0, .int 0, .int 0, .int 0, .int 0])), (q_1, .inl (cy 1, 4, .inl (fun _ => 0))), (q_7, .inl (cy 1, 48, .inl (fun _ => 0)))]) (rest := [.ref q_9, .ref o0]) ⟨hx, hb, hml, hown, hg, hl.1⟩ hE.1 kN_X3_init (n_Formula l D cy adK adV q_9) EV_blind hK hP hD hS hA [3] [0, 1, 2] ⟨rfl, rfl, by decide, by decide, by decide⟩ (fun U hU hW => EV_pass hE hS (va_free hD hS hA [3] rfl) hU hW) dX4_init_68 rfl rfl (Nat.le_of_ble_eq_true rfl) ⟨Nat.le_of_ble_eq_true rfl, Nat.le_of_ble_eq_true rfl⟩ ⟨Nat.le_of_ble_eq_true rfl, Nat.le_of_ble_eq_true rfl⟩ (fun u10 H locs hw10 hP hD hS => ?_)
  obtain ⟨vs_11, rfl⟩ : ∃ z, z = u10 := ⟨_, rfl⟩
  have hP : va_P D vwCl [(o0, .inr (4, [.ref q_1, .ref q_2, .ref q_3, .ref q_4, .ref q_5, .ref q_6, .ref q_7, .ref q_8, .null, .null, .null, .int 0, .int 0, .int 0, .int 0, .int 0])), (q_1, .inl (cy 1, 4, .inl (fun _ => 0))), (q_7, .inl (cy 1, 48, .inl (fun _ => 0))), (q_9, .inr (3, [vs_11 0, vs_11 1, .int 0, .int 0]))] H := hP
  have hD : va_D A [(o0, .inr (4, [.ref q_1, .ref q_2, .ref q_3, .ref q_4, .ref q_5, .ref q_6, .ref q_7, .ref q_8, .null, .null, .null, .int 0, .int 0, .int 0, .int 0, .int 0])), (q_1, .inl (cy 1, 4, .inl (fun _ => 0))), (q_7, .inl (cy 1, 48, .inl (fun _ => 0))), (q_9, .inr (3, [vs_11 0, vs_11 1, .int 0, .int 0]))] := hD
  refine W.widen (k := 11) (n := 397) (Nat.le_of_ble_eq_true rfl) (Nat.le_of_ble_eq_true rfl) ?_
  refine va_putF (D := D) (ci := 4) (v := .ref q_9) (ty := .object "CliffJudges$Formula") (C := RX4) (T := TX4) (N := 16) hx hb hg i_X4 tyX4 tyX4_ok nmX4 hown hK hP hD hS 0 rfl rfl 8 (by decide) (hg _ m_360) (fun _ h9 => h9) rfl hin rfl (by decide +kernel) rfl rfl (Nat.le_of_ble_eq_true rfl) dX4_init_71 (fun H locs hP hD hS => ?_)
  have hP : va_P D vwCl [(o0, .inr (4, [.ref q_1, .ref q_2, .ref q_3, .ref q_4, .ref q_5, .ref q_6, .ref q_7, .ref q_8, .ref q_9, .null, .null, .int 0, .int 0, .int 0, .int 0, .int 0])), (q_1, .inl (cy 1, 4, .inl (fun _ => 0))), (q_7, .inl (cy 1, 48, .inl (fun _ => 0))), (q_9, .inr (3, [vs_11 0, vs_11 1, .int 0, .int 0]))] H := hP
  have hD : va_D A [(o0, .inr (4, [.ref q_1, .ref q_2, .ref q_3, .ref q_4, .ref q_5, .ref q_6, .ref q_7, .ref q_8, .ref q_9, .null, .null, .int 0, .int 0, .int 0, .int 0, .int 0])), (q_1, .inl (cy 1, 4, .inl (fun _ => 0))), (q_7, .inl (cy 1, 48, .inl (fun _ => 0))), (q_9, .inr (3, [vs_11 0, vs_11 1, .int 0, .int 0]))] := hD
  refine lv_aload_n hx hb dX4_init_74 rfl (lv_at hl 0 rfl) ?_
  refine va_new (D := D) (cl := vwCl) (ci := 3) (fs := [.null, .null, .int 0, .int 0]) (C := RX3) (T := TX3) (N := 4) hx hb hg i_X3 tyX3 tyX3_ok hown (hg _ m_294) (hg _ m_295) (hg _ m_138) hK hP hD hS hA rfl (fun j hj => by rcases (show j = 0 ∨ j = 1 ∨ j = 2 ∨ j = 3 by omega) with rfl | rfl | rfl | rfl <;> rfl) (by decide) (by decide) dX4_init_75 (fun q_12 H hP hD hS => ?_)
  have hP : va_P D vwCl [(o0, .inr (4, [.ref q_1, .ref q_2, .ref q_3, .ref q_4, .ref q_5, .ref q_6, .ref q_7, .ref q_8, .ref q_9, .null, .null, .int 0, .int 0, .int 0, .int 0, .int 0])), (q_1, .inl (cy 1, 4, .inl (fun _ => 0))), (q_7, .inl (cy 1, 48, .inl (fun _ => 0))), (q_9, .inr (3, [vs_11 0, vs_11 1, .int 0, .int 0])), (q_12, .inr (3, [.null, .null, .int 0, .int 0]))] H := hP
  have hD : va_D A [(o0, .inr (4, [.ref q_1, .ref q_2, .ref q_3, .ref q_4, .ref q_5, .ref q_6, .ref q_7, .ref q_8, .ref q_9, .null, .null, .int 0, .int 0, .int 0, .int 0, .int 0])), (q_1, .inl (cy 1, 4, .inl (fun _ => 0))), (q_7, .inl (cy 1, 48, .inl (fun _ => 0))), (q_9, .inr (3, [vs_11 0, vs_11 1, .int 0, .int 0])), (q_12, .inr (3, [.null, .null, .int 0, .int 0]))] := hD
  refine W.widen (k := 12) (n := 401) (Nat.le_of_ble_eq_true rfl) (Nat.le_of_ble_eq_true rfl) ?_
  refine lv_dup hx hb dX4_init_78 rfl ?_
  refine x_callN (wr := [(o0, .inr (4, [.ref q_1, .ref q_2, .ref q_3, .ref q_4, .ref q_5, .ref q_6, .ref q_7, .ref q_8, .ref q_9, .null, .null, .int 0, .int 0, .int 0, .int 0, .int 0])), (q_1, .inl (cy 1, 4, .inl (fun _ => 0))), (q_7, .inl (cy 1, 48, .inl (fun _ => 0))), (q_9, .inr (3, [vs_11 0, vs_11 1, .int 0, .int 0]))]) (rest := [.ref q_12, .ref o0]) ⟨hx, hb, hml, hown, hg, hl.1⟩ hE.1 kN_X3_init (n_Formula l D cy adK adV q_12) EV_blind hK hP hD hS hA [4] [0, 1, 2, 3] ⟨rfl, rfl, by decide, by decide, by decide⟩ (fun U hU hW => EV_pass hE hS (va_free hD hS hA [4] rfl) hU hW) dX4_init_79 rfl rfl (Nat.le_of_ble_eq_true rfl) ⟨Nat.le_of_ble_eq_true rfl, Nat.le_of_ble_eq_true rfl⟩ ⟨Nat.le_of_ble_eq_true rfl, Nat.le_of_ble_eq_true rfl⟩ (fun u13 H locs hw13 hP hD hS => ?_)
  obtain ⟨vs_14, rfl⟩ : ∃ z, z = u13 := ⟨_, rfl⟩
  have hP : va_P D vwCl [(o0, .inr (4, [.ref q_1, .ref q_2, .ref q_3, .ref q_4, .ref q_5, .ref q_6, .ref q_7, .ref q_8, .ref q_9, .null, .null, .int 0, .int 0, .int 0, .int 0, .int 0])), (q_1, .inl (cy 1, 4, .inl (fun _ => 0))), (q_7, .inl (cy 1, 48, .inl (fun _ => 0))), (q_9, .inr (3, [vs_11 0, vs_11 1, .int 0, .int 0])), (q_12, .inr (3, [vs_14 0, vs_14 1, .int 0, .int 0]))] H := hP
  have hD : va_D A [(o0, .inr (4, [.ref q_1, .ref q_2, .ref q_3, .ref q_4, .ref q_5, .ref q_6, .ref q_7, .ref q_8, .ref q_9, .null, .null, .int 0, .int 0, .int 0, .int 0, .int 0])), (q_1, .inl (cy 1, 4, .inl (fun _ => 0))), (q_7, .inl (cy 1, 48, .inl (fun _ => 0))), (q_9, .inr (3, [vs_11 0, vs_11 1, .int 0, .int 0])), (q_12, .inr (3, [vs_14 0, vs_14 1, .int 0, .int 0]))] := hD
  refine W.widen (k := 14) (n := 712) (Nat.le_of_ble_eq_true rfl) (Nat.le_of_ble_eq_true rfl) ?_
  refine va_putF (D := D) (ci := 4) (v := .ref q_12) (ty := .object "CliffJudges$Formula") (C := RX4) (T := TX4) (N := 16) hx hb hg i_X4 tyX4 tyX4_ok nmX4 hown hK hP hD hS 0 rfl rfl 9 (by decide) (hg _ m_362) (fun _ h9 => h9) rfl hin rfl (by decide +kernel) rfl rfl (Nat.le_of_ble_eq_true rfl) dX4_init_82 (fun H locs hP hD hS => ?_)
  have hP : va_P D vwCl [(o0, .inr (4, [.ref q_1, .ref q_2, .ref q_3, .ref q_4, .ref q_5, .ref q_6, .ref q_7, .ref q_8, .ref q_9, .ref q_12, .null, .int 0, .int 0, .int 0, .int 0, .int 0])), (q_1, .inl (cy 1, 4, .inl (fun _ => 0))), (q_7, .inl (cy 1, 48, .inl (fun _ => 0))), (q_9, .inr (3, [vs_11 0, vs_11 1, .int 0, .int 0])), (q_12, .inr (3, [vs_14 0, vs_14 1, .int 0, .int 0]))] H := hP
  have hD : va_D A [(o0, .inr (4, [.ref q_1, .ref q_2, .ref q_3, .ref q_4, .ref q_5, .ref q_6, .ref q_7, .ref q_8, .ref q_9, .ref q_12, .null, .int 0, .int 0, .int 0, .int 0, .int 0])), (q_1, .inl (cy 1, 4, .inl (fun _ => 0))), (q_7, .inl (cy 1, 48, .inl (fun _ => 0))), (q_9, .inr (3, [vs_11 0, vs_11 1, .int 0, .int 0])), (q_12, .inr (3, [vs_14 0, vs_14 1, .int 0, .int 0]))] := hD
  refine lv_aload_n hx hb dX4_init_85 rfl (lv_at hl 0 rfl) ?_
  refine va_new (D := D) (cl := vwCl) (ci := 3) (fs := [.null, .null, .int 0, .int 0]) (C := RX3) (T := TX3) (N := 4) hx hb hg i_X3 tyX3 tyX3_ok hown (hg _ m_294) (hg _ m_295) (hg _ m_138) hK hP hD hS hA rfl (fun j hj => by rcases (show j = 0 ∨ j = 1 ∨ j = 2 ∨ j = 3 by omega) with rfl | rfl | rfl | rfl <;> rfl) (by decide) (by decide) dX4_init_86 (fun q_15 H hP hD hS => ?_)
  have hP : va_P D vwCl [(o0, .inr (4, [.ref q_1, .ref q_2, .ref q_3, .ref q_4, .ref q_5, .ref q_6, .ref q_7, .ref q_8, .ref q_9, .ref q_12, .null, .int 0, .int 0, .int 0, .int 0, .int 0])), (q_1, .inl (cy 1, 4, .inl (fun _ => 0))), (q_7, .inl (cy 1, 48, .inl (fun _ => 0))), (q_9, .inr (3, [vs_11 0, vs_11 1, .int 0, .int 0])), (q_12, .inr (3, [vs_14 0, vs_14 1, .int 0, .int 0])), (q_15, .inr (3, [.null, .null, .int 0, .int 0]))] H := hP
  have hD : va_D A [(o0, .inr (4, [.ref q_1, .ref q_2, .ref q_3, .ref q_4, .ref q_5, .ref q_6, .ref q_7, .ref q_8, .ref q_9, .ref q_12, .null, .int 0, .int 0, .int 0, .int 0, .int 0])), (q_1, .inl (cy 1, 4, .inl (fun _ => 0))), (q_7, .inl (cy 1, 48, .inl (fun _ => 0))), (q_9, .inr (3, [vs_11 0, vs_11 1, .int 0, .int 0])), (q_12, .inr (3, [vs_14 0, vs_14 1, .int 0, .int 0])), (q_15, .inr (3, [.null, .null, .int 0, .int 0]))] := hD
  refine W.widen (k := 15) (n := 716) (Nat.le_of_ble_eq_true rfl) (Nat.le_of_ble_eq_true rfl) ?_
  refine lv_dup hx hb dX4_init_89 rfl ?_
  refine x_callN (wr := [(o0, .inr (4, [.ref q_1, .ref q_2, .ref q_3, .ref q_4, .ref q_5, .ref q_6, .ref q_7, .ref q_8, .ref q_9, .ref q_12, .null, .int 0, .int 0, .int 0, .int 0, .int 0])), (q_1, .inl (cy 1, 4, .inl (fun _ => 0))), (q_7, .inl (cy 1, 48, .inl (fun _ => 0))), (q_9, .inr (3, [vs_11 0, vs_11 1, .int 0, .int 0])), (q_12, .inr (3, [vs_14 0, vs_14 1, .int 0, .int 0]))]) (rest := [.ref q_15, .ref o0]) ⟨hx, hb, hml, hown, hg, hl.1⟩ hE.1 kN_X3_init (n_Formula l D cy adK adV q_15) EV_blind hK hP hD hS hA [5] [0, 1, 2, 3, 4] ⟨rfl, rfl, by decide, by decide, by decide⟩ (fun U hU hW => EV_pass hE hS (va_free hD hS hA [5] rfl) hU hW) dX4_init_90 rfl rfl (Nat.le_of_ble_eq_true rfl) ⟨Nat.le_of_ble_eq_true rfl, Nat.le_of_ble_eq_true rfl⟩ ⟨Nat.le_of_ble_eq_true rfl, Nat.le_of_ble_eq_true rfl⟩ (fun u16 H locs hw16 hP hD hS => ?_)
  obtain ⟨vs_17, rfl⟩ : ∃ z, z = u16 := ⟨_, rfl⟩
  have hP : va_P D vwCl [(o0, .inr (4, [.ref q_1, .ref q_2, .ref q_3, .ref q_4, .ref q_5, .ref q_6, .ref q_7, .ref q_8, .ref q_9, .ref q_12, .null, .int 0, .int 0, .int 0, .int 0, .int 0])), (q_1, .inl (cy 1, 4, .inl (fun _ => 0))), (q_7, .inl (cy 1, 48, .inl (fun _ => 0))), (q_9, .inr (3, [vs_11 0, vs_11 1, .int 0, .int 0])), (q_12, .inr (3, [vs_14 0, vs_14 1, .int 0, .int 0])), (q_15, .inr (3, [vs_17 0, vs_17 1, .int 0, .int 0]))] H := hP
  have hD : va_D A [(o0, .inr (4, [.ref q_1, .ref q_2, .ref q_3, .ref q_4, .ref q_5, .ref q_6, .ref q_7, .ref q_8, .ref q_9, .ref q_12, .null, .int 0, .int 0, .int 0, .int 0, .int 0])), (q_1, .inl (cy 1, 4, .inl (fun _ => 0))), (q_7, .inl (cy 1, 48, .inl (fun _ => 0))), (q_9, .inr (3, [vs_11 0, vs_11 1, .int 0, .int 0])), (q_12, .inr (3, [vs_14 0, vs_14 1, .int 0, .int 0])), (q_15, .inr (3, [vs_17 0, vs_17 1, .int 0, .int 0]))] := hD
  refine W.widen (k := 17) (n := 1027) (Nat.le_of_ble_eq_true rfl) (Nat.le_of_ble_eq_true rfl) ?_
  refine va_putF (D := D) (ci := 4) (v := .ref q_15) (ty := .object "CliffJudges$Formula") (C := RX4) (T := TX4) (N := 16) hx hb hg i_X4 tyX4 tyX4_ok nmX4 hown hK hP hD hS 0 rfl rfl 10 (by decide) (hg _ m_365) (fun _ h9 => h9) rfl hin rfl (by decide +kernel) rfl rfl (Nat.le_of_ble_eq_true rfl) dX4_init_93 (fun H locs hP hD hS => ?_)
  have hP : va_P D vwCl [(o0, .inr (4, [.ref q_1, .ref q_2, .ref q_3, .ref q_4, .ref q_5, .ref q_6, .ref q_7, .ref q_8, .ref q_9, .ref q_12, .ref q_15, .int 0, .int 0, .int 0, .int 0, .int 0])), (q_1, .inl (cy 1, 4, .inl (fun _ => 0))), (q_7, .inl (cy 1, 48, .inl (fun _ => 0))), (q_9, .inr (3, [vs_11 0, vs_11 1, .int 0, .int 0])), (q_12, .inr (3, [vs_14 0, vs_14 1, .int 0, .int 0])), (q_15, .inr (3, [vs_17 0, vs_17 1, .int 0, .int 0]))] H := hP
  have hD : va_D A [(o0, .inr (4, [.ref q_1, .ref q_2, .ref q_3, .ref q_4, .ref q_5, .ref q_6, .ref q_7, .ref q_8, .ref q_9, .ref q_12, .ref q_15, .int 0, .int 0, .int 0, .int 0, .int 0])), (q_1, .inl (cy 1, 4, .inl (fun _ => 0))), (q_7, .inl (cy 1, 48, .inl (fun _ => 0))), (q_9, .inr (3, [vs_11 0, vs_11 1, .int 0, .int 0])), (q_12, .inr (3, [vs_14 0, vs_14 1, .int 0, .int 0])), (q_15, .inr (3, [vs_17 0, vs_17 1, .int 0, .int 0]))] := hD
  refine lv_aload_n hx hb dX4_init_96 rfl (lv_at hl 0 rfl) ?_
  refine x_callVv (q := (RX4, TX4, 16)) (ci := 4) (q0 := 0) (wr := []) (rest := []) ⟨hx, hb, hml, hown, hg, hl.1⟩ k_X4_49 (c_hclear l D cy o0 q_1 q_7 q_9 q_12 q_15 ((.ref q_2)) ((.ref q_3)) ((.ref q_4)) ((.ref q_5)) ((.ref q_6)) ((.ref q_8)) ((.int 0)) ((.int 0)) ((.int 0)) ((.int 0)) ((.int 0)) (vs_11 0) (vs_11 1) ((.int 0)) ((.int 0)) (vs_14 0) (vs_14 1) ((.int 0)) ((.int 0)) (vs_17 0) (vs_17 1) ((.int 0)) ((.int 0)) (fun _ => 0)) E0_blind hK hP hD hS hA [0, 1, 2, 3, 4, 5] [] ⟨rfl, rfl, by decide, by decide, by decide⟩ rfl rfl (fun _ _ _ => trivial) dX4_init_97 rfl rfl (Nat.le_of_ble_eq_true rfl) ⟨Nat.le_of_ble_eq_true rfl, Nat.le_of_ble_eq_true rfl⟩ ⟨Nat.le_of_ble_eq_true rfl, Nat.le_of_ble_eq_true rfl⟩ (fun u18 H locs hw18 hP hD hS => ?_)
  obtain ⟨fx2_19, rfl⟩ : ∃ z, z = u18 := ⟨_, rfl⟩
  have hP : va_P D vwCl [(o0, .inr (4, [.ref q_1, .ref q_2, .ref q_3, .ref q_4, .ref q_5, .ref q_6, .ref q_7, .ref q_8, .ref q_9, .ref q_12, .ref q_15, .int 0, .int 0, .int 0, .int 0, .int 0])), (q_1, .inl (cy 1, 4, .inl (fun _ => 0))), (q_7, .inl (cy 1, 48, .inl (fx2_19))), (q_9, .inr (3, [vs_11 0, vs_11 1, .int 0, .int 0])), (q_12, .inr (3, [vs_14 0, vs_14 1, .int 0, .int 0])), (q_15, .inr (3, [vs_17 0, vs_17 1, .int 0, .int 0]))] H := hP
  have hD : va_D A [(o0, .inr (4, [.ref q_1, .ref q_2, .ref q_3, .ref q_4, .ref q_5, .ref q_6, .ref q_7, .ref q_8, .ref q_9, .ref q_12, .ref q_15, .int 0, .int 0, .int 0, .int 0, .int 0])), (q_1, .inl (cy 1, 4, .inl (fun _ => 0))), (q_7, .inl (cy 1, 48, .inl (fx2_19))), (q_9, .inr (3, [vs_11 0, vs_11 1, .int 0, .int 0])), (q_12, .inr (3, [vs_14 0, vs_14 1, .int 0, .int 0])), (q_15, .inr (3, [vs_17 0, vs_17 1, .int 0, .int 0]))] := hD
  refine W.widen (k := 17) (n := 1027) (Nat.le_of_ble_eq_true rfl) (Nat.le_of_ble_eq_true rfl) ?_
  refine lv_aload_n hx hb dX4_init_100 rfl (lv_at hl 0 rfl) ?_
  refine x_callVv (q := (RX4, TX4, 16)) (ci := 4) (q0 := 0) (wr := [(q_1, .inl (cy 1, 4, .inl (fun _ => 0))), (q_9, .inr (3, [vs_11 0, vs_11 1, .int 0, .int 0])), (q_12, .inr (3, [vs_14 0, vs_14 1, .int 0, .int 0])), (q_15, .inr (3, [vs_17 0, vs_17 1, .int 0, .int 0]))]) (rest := []) ⟨hx, hb, hml, hown, hg, hl.1⟩ k_X4_52 (c_settle l D cy o0 q_7 ((.ref q_1)) ((.ref q_2)) ((.ref q_3)) ((.ref q_4)) ((.ref q_5)) ((.ref q_6)) ((.ref q_8)) ((.ref q_9)) ((.ref q_12)) ((.ref q_15)) ((.int 0)) ((.int 0)) ((.int 0)) ((.int 0)) ((.int 0)) fx2_19) E0_blind hK hP hD hS hA [0, 2] [1, 3, 4, 5] ⟨rfl, rfl, by decide, by decide, by decide⟩ rfl rfl (fun _ _ _ => trivial) dX4_init_101 rfl rfl (Nat.le_of_ble_eq_true rfl) ⟨Nat.le_of_ble_eq_true rfl, Nat.le_of_ble_eq_true rfl⟩ ⟨Nat.le_of_ble_eq_true rfl, Nat.le_of_ble_eq_true rfl⟩ (fun u20 H locs hw20 hP hD hS => ?_)
  obtain ⟨fx2_21, rfl⟩ : ∃ z, z = u20 := ⟨_, rfl⟩
  have hP : va_P D vwCl [(q_1, .inl (cy 1, 4, .inl (fun _ => 0))), (q_9, .inr (3, [vs_11 0, vs_11 1, .int 0, .int 0])), (q_12, .inr (3, [vs_14 0, vs_14 1, .int 0, .int 0])), (q_15, .inr (3, [vs_17 0, vs_17 1, .int 0, .int 0])), (o0, .inr (4, [.ref q_1, .ref q_2, .ref q_3, .ref q_4, .ref q_5, .ref q_6, .ref q_7, .ref q_8, .ref q_9, .ref q_12, .ref q_15, .int 0, .int 0, .int 0, .int 0, .int 0])), (q_7, .inl (cy 1, 48, .inl (fx2_21)))] H := hP
  have hD : va_D A [(q_1, .inl (cy 1, 4, .inl (fun _ => 0))), (q_9, .inr (3, [vs_11 0, vs_11 1, .int 0, .int 0])), (q_12, .inr (3, [vs_14 0, vs_14 1, .int 0, .int 0])), (q_15, .inr (3, [vs_17 0, vs_17 1, .int 0, .int 0])), (o0, .inr (4, [.ref q_1, .ref q_2, .ref q_3, .ref q_4, .ref q_5, .ref q_6, .ref q_7, .ref q_8, .ref q_9, .ref q_12, .ref q_15, .int 0, .int 0, .int 0, .int 0, .int 0])), (q_7, .inl (cy 1, 48, .inl (fx2_21)))] := hD
  refine W.widen (k := 17) (n := 1027) (Nat.le_of_ble_eq_true rfl) (Nat.le_of_ble_eq_true rfl) ?_
  exact x_vret hQ hx hb hr hlocks hK hP hD hS dX4_init_104 ((fun k => [q_1, q_7, q_9, q_12, q_15].getD k 0), (fun k => [.ref q_2, .ref q_3, .ref q_4, .ref q_5, .ref q_6, .ref q_8, vs_11 0, vs_11 1, vs_14 0, vs_14 1, vs_17 0, vs_17 1].getD k .null), fx2_21) (trivial) [4, 0, 5, 1, 2, 3] (by decide) rfl (Nat.le_of_ble_eq_true rfl) (Nat.le_of_ble_eq_true rfl)
theorem dX0_init_0 : decode cX0_init 0 = .ok (.aload_n 0, 1) := by decide +kernel
theorem dX0_init_1 : decode cX0_init 1 = .ok (.invokespecial 3, 3) := by decide +kernel
theorem m_504 : (Cond.methodLink RX0 3 objectInit) ∈ gT := gm 504 (by decide +kernel) (by decide +kernel)
theorem dX0_init_4 : decode cX0_init 4 = .ok (.aload_n 0, 1) := by decide +kernel
theorem dX0_init_5 : decode cX0_init 5 = .ok (.iconst 4, 1) := by decide +kernel
theorem dX0_init_6 : decode cX0_init 6 = .ok (.anewarray 9, 3) := by decide +kernel
theorem m_505 : (Cond.classLink RX0 9 RX2) ∈ gT := gm 505 (by decide +kernel) (by decide +kernel)
theorem dX0_init_9 : decode cX0_init 9 = .ok (.putfield 11, 3) := by decide +kernel
theorem m_531 : (Cond.fieldLink RX0 11 "CliffJudges$Court" "ears" "[LCliffJudges$Ear;") ∈ gT := gm 531 (by decide +kernel) (by decide +kernel)
theorem dX0_init_12 : decode cX0_init 12 = .ok (.aload_n 0, 1) := by decide +kernel
theorem dX0_init_13 : decode cX0_init 13 = .ok (.bipush 20, 2) := by decide +kernel
theorem dX0_init_15 : decode cX0_init 15 = .ok (.newarray .int, 2) := by decide +kernel
theorem dX0_init_17 : decode cX0_init 17 = .ok (.putfield 17, 3) := by decide +kernel
theorem m_534 : (Cond.fieldLink RX0 17 "CliffJudges$Court" "row" "[I") ∈ gT := gm 534 (by decide +kernel) (by decide +kernel)
theorem dX0_init_20 : decode cX0_init 20 = .ok (.iconst 0, 1) := by decide +kernel
theorem dX0_init_21 : decode cX0_init 21 = .ok (.istore_n 1, 1) := by decide +kernel
theorem dX0_init_22 : decode cX0_init 22 = .ok (.iload_n 1, 1) := by decide +kernel
theorem dX0_init_23 : decode cX0_init 23 = .ok (.iconst 4, 1) := by decide +kernel
theorem dX0_init_24 : decode cX0_init 24 = .ok (.if_icmp .ge 22, 3) := by decide +kernel
theorem dX0_init_27 : decode cX0_init 27 = .ok (.aload_n 0, 1) := by decide +kernel
theorem dX0_init_28 : decode cX0_init 28 = .ok (.getfield 11, 3) := by decide +kernel
theorem dX0_init_31 : decode cX0_init 31 = .ok (.iload_n 1, 1) := by decide +kernel
theorem dX0_init_32 : decode cX0_init 32 = .ok (.new 9, 3) := by decide +kernel
theorem m_507 : (Cond.instantiable RX2 5) ∈ gT := gm 507 (by decide +kernel) (by decide +kernel)
theorem m_142 : (Cond.initialized RX2) ∈ gT := gm 142 (by decide +kernel) (by decide +kernel)
theorem dX0_init_35 : decode cX0_init 35 = .ok (.dup, 1) := by decide +kernel
theorem dX0_init_36 : decode cX0_init 36 = .ok (.invokespecial 21, 3) := by decide +kernel
theorem m_509 : (Cond.instanceMethod yX2_init) ∈ gT := gm 509 (by decide +kernel) (by decide +kernel)
theorem m_510 : (Cond.code yX2_init cX2_init 1 none) ∈ gT := gm 510 (by decide +kernel) (by decide +kernel)
theorem kN_X2_init : xN yX2_init cX2_init 1 0 := ⟨⟨m_509, m_142, m_510⟩, rfl, by decide, by decide, by decide +kernel⟩
theorem dX0_init_39 : decode cX0_init 39 = .ok (.aastore, 1) := by decide +kernel
theorem dX0_init_40 : decode cX0_init 40 = .ok (.iinc 1 1, 3) := by decide +kernel
theorem dX0_init_43 : decode cX0_init 43 = .ok (.goto (-21), 3) := by decide +kernel
theorem dX0_init_46 : decode cX0_init 46 = .ok (.return_, 1) := by decide +kernel
set_option maxHeartbeats 400000 in
set_option maxRecDepth 100000 in
theorem n_Court (l : Launch) (D : va_G) (cy : Nat → ClassId) (adK : Nat → Nat) (adV : Nat → Nat) (o0 : Nat)  : XMv l D (tyL cy) (EV adK adV) yX0_init cX0_init 2 none (rmk 3 14 112) [.ref o0] [(o0, .inr (0, [.null, .null, .int 0]))] (fun (vs : Nat → Nat) => True) (fun (vs : Nat → Nat) => [(o0, .inr (0, [.ref (vs 0), .ref (vs 1), .int 0]))]) := by
  refine XMv.start (by decide) (Nat.le_of_ble_eq_true rfl) ?_
  intro p e s m below meth c args A ls Q hat hQ
  obtain ⟨hx, hb, hr, hml, hown, hg, hlocks, hin, hK, hA, hP, hD, hS, hE, hl⟩ := hat
  have hown : s.vm.findClass RX0 = some m.cls := hown
  have hl : lv_has ls 2 [(0, .ref o0)] := hl
  refine lv_aload_n hx hb dX0_init_0 rfl (lv_at hl 0 rfl) ?_
  refine W.objInit hx hb hown (hg _ m_504) (hg _ m_157) (hg _ m_158) rfl (by rw [hml]; exact hl.1) rfl dX0_init_1 (by decide) (Nat.le_of_ble_eq_true rfl) ?_
  refine W.eq (g2 := F0 m 4 ls []) rfl ?_
  refine lv_aload_n hx hb dX0_init_4 rfl (lv_at hl 0 rfl) ?_
  refine lv_iconst (v := 4) hx hb dX0_init_5 (by decide) ?_
  refine va_newq (N' := 4) hx hb hown (hg _ m_505) hE.2.2.2.2.2.2.1 hK hP hD hS hA (by decide) (by decide) (by decide) (by decide) (by decide) dX0_init_6 (fun q_1 cA_2 H hK2 hP hD hS => ?_)
  have hP : va_P D vwCl [(o0, .inr (0, [.null, .null, .int 0])), (q_1, .inl (cA_2, 4, .inr (.inr (.inr (.inr (fun _ => none))))))] H := hP
  have hD : va_D A [(o0, .inr (0, [.null, .null, .int 0])), (q_1, .inl (cA_2, 4, .inr (.inr (.inr (.inr (fun _ => none))))))] := hD
  refine W.widen (k := 1) (n := 4) (Nat.le_of_ble_eq_true rfl) (Nat.le_of_ble_eq_true rfl) ?_
  refine va_putF (D := D) (ci := 0) (v := .ref q_1) (ty := .array (.object "CliffJudges$Ear")) (C := RX0) (T := TX0) (N := 3) hx hb hg i_X0 tyX0 tyX0_ok nmX0 hown hK hP hD hS 0 rfl rfl 0 (by decide) (hg _ m_531) (fun _ h9 => h9) rfl hin rfl (by decide +kernel) rfl rfl (Nat.le_of_ble_eq_true rfl) dX0_init_9 (fun H locs hP hD hS => ?_)
  have hP : va_P D vwCl [(o0, .inr (0, [.ref q_1, .null, .int 0])), (q_1, .inl (cA_2, 4, .inr (.inr (.inr (.inr (fun _ => none))))))] H := hP
  have hD : va_D A [(o0, .inr (0, [.ref q_1, .null, .int 0])), (q_1, .inl (cA_2, 4, .inr (.inr (.inr (.inr (fun _ => none))))))] := hD
  refine lv_aload_n hx hb dX0_init_12 rfl (lv_at hl 0 rfl) ?_
  refine lv_bipush (v := 20) hx hb dX0_init_13 (by decide) ?_
  refine x_newa (atype := .int) (ty := .int) (a0 := (20, .inl (fun _ => 0))) (N' := 20) hx hb (hg _ m_316) rfl hK 1 rfl one_int hP hD hS hA (fun _ => rfl) (by decide) (by decide) (by decide) (by decide) (by decide) dX0_init_15 (fun q_3 H hP hD hS => ?_)
  have hP : va_P D vwCl [(o0, .inr (0, [.ref q_1, .null, .int 0])), (q_1, .inl (cA_2, 4, .inr (.inr (.inr (.inr (fun _ => none)))))), (q_3, .inl (cy 1, 20, .inl (fun _ => 0)))] H := hP
  have hD : va_D A [(o0, .inr (0, [.ref q_1, .null, .int 0])), (q_1, .inl (cA_2, 4, .inr (.inr (.inr (.inr (fun _ => none)))))), (q_3, .inl (cy 1, 20, .inl (fun _ => 0)))] := hD
  refine W.widen (k := 2) (n := 24) (Nat.le_of_ble_eq_true rfl) (Nat.le_of_ble_eq_true rfl) ?_
  refine va_putF (D := D) (ci := 0) (v := .ref q_3) (ty := .array .int) (C := RX0) (T := TX0) (N := 3) hx hb hg i_X0 tyX0 tyX0_ok nmX0 hown hK hP hD hS 0 rfl rfl 1 (by decide) (hg _ m_534) (fun _ h9 => h9) rfl hin rfl (by decide +kernel) rfl rfl (Nat.le_of_ble_eq_true rfl) dX0_init_17 (fun H locs hP hD hS => ?_)
  have hP : va_P D vwCl [(o0, .inr (0, [.ref q_1, .ref q_3, .int 0])), (q_1, .inl (cA_2, 4, .inr (.inr (.inr (.inr (fun _ => none)))))), (q_3, .inl (cy 1, 20, .inl (fun _ => 0)))] H := hP
  have hD : va_D A [(o0, .inr (0, [.ref q_1, .ref q_3, .int 0])), (q_1, .inl (cA_2, 4, .inr (.inr (.inr (.inr (fun _ => none)))))), (q_3, .inl (cy 1, 20, .inl (fun _ => 0)))] := hD
  have hP := hP.sub (ws' := [(o0, .inr (0, [.ref q_1, .ref q_3, .int 0])), (q_1, .inl (cA_2, 4, .inr (.inr (.inr (.inr (fun _ => none))))))]) [0, 1] rfl
  have hD := hD.sub (ws' := [(o0, .inr (0, [.ref q_1, .ref q_3, .int 0])), (q_1, .inl (cA_2, 4, .inr (.inr (.inr (.inr (fun _ => none))))))]) [0, 1] (by decide) rfl
  refine lv_iconst (v := 0) hx hb dX0_init_20 (by decide) ?_
  refine lv_istore_n (lv' := [(1, .int 0), (0, .ref o0)]) hx hb dX0_init_21 rfl hl (by decide) rfl (fun ls hl => ?_)
  refine lv_iload_n hx hb dX0_init_22 rfl (lv_at hl 0 rfl) ?_
  refine lv_iconst (v := 4) hx hb dX0_init_23 (by decide) ?_
  refine lv_icmp_ge (tgt := 46) hx hb dX0_init_24 (by decide) (fun h => absurd h (by decide)) (fun _ => ?_)
  refine lv_aload_n hx hb dX0_init_27 rfl (lv_at hl 1 rfl) ?_
  refine va_get (D := D) (ci := 0) (v := .ref q_1) (C := RX0) (T := TX0) (N := 3) hx hb hg i_X0 hown hK hP 0 rfl rfl 0 (by decide) (hg _ m_531) (fun _ h9 => h9) rfl dX0_init_28 ?_
  refine lv_iload_n hx hb dX0_init_31 rfl (lv_at hl 0 rfl) ?_
  refine va_new (D := D) (cl := vwCl) (ci := 2) (fs := [.null, .null, .int 0, .int 0, .int 0]) (C := RX2) (T := TX2) (N := 5) hx hb hg i_X2 tyX2 tyX2_ok hown (hg _ m_505) (hg _ m_507) (hg _ m_142) hK hP hD hS hA rfl (fun j hj => by rcases (show j = 0 ∨ j = 1 ∨ j = 2 ∨ j = 3 ∨ j = 4 by omega) with rfl | rfl | rfl | rfl | rfl <;> rfl) (by decide) (by decide) dX0_init_32 (fun q_4 H hP hD hS => ?_)
  have hP : va_P D vwCl [(o0, .inr (0, [.ref q_1, .ref q_3, .int 0])), (q_1, .inl (cA_2, 4, .inr (.inr (.inr (.inr (fun _ => none)))))), (q_4, .inr (2, [.null, .null, .int 0, .int 0, .int 0]))] H := hP
  have hD : va_D A [(o0, .inr (0, [.ref q_1, .ref q_3, .int 0])), (q_1, .inl (cA_2, 4, .inr (.inr (.inr (.inr (fun _ => none)))))), (q_4, .inr (2, [.null, .null, .int 0, .int 0, .int 0]))] := hD
  refine W.widen (k := 3) (n := 29) (Nat.le_of_ble_eq_true rfl) (Nat.le_of_ble_eq_true rfl) ?_
  refine lv_dup hx hb dX0_init_35 rfl ?_
  refine x_callN (wr := [(o0, .inr (0, [.ref q_1, .ref q_3, .int 0])), (q_1, .inl (cA_2, 4, .inr (.inr (.inr (.inr (fun _ => none))))))]) (rest := [.ref q_4, .int 0, .ref q_1]) ⟨hx, hb, hml, hown, hg, hl.1⟩ hE.2.1 kN_X2_init (n_Ear l D cy adK adV q_4) EV_blind hK hP hD hS hA [2] [0, 1] ⟨rfl, rfl, by decide, by decide, by decide⟩ (fun U hU hW => EV_pass hE hS (va_free hD hS hA [2] rfl) hU hW) dX0_init_36 rfl rfl (Nat.le_of_ble_eq_true rfl) ⟨Nat.le_of_ble_eq_true rfl, Nat.le_of_ble_eq_true rfl⟩ ⟨Nat.le_of_ble_eq_true rfl, Nat.le_of_ble_eq_true rfl⟩ (fun u5 H locs hw5 hP hD hS => ?_)
  obtain ⟨vs_6, rfl⟩ : ∃ z, z = u5 := ⟨_, rfl⟩
  have hP : va_P D vwCl [(o0, .inr (0, [.ref q_1, .ref q_3, .int 0])), (q_1, .inl (cA_2, 4, .inr (.inr (.inr (.inr (fun _ => none)))))), (q_4, .inr (2, [vs_6 0, vs_6 1, .int 0, .int 0, .int 0]))] H := hP
  have hD : va_D A [(o0, .inr (0, [.ref q_1, .ref q_3, .int 0])), (q_1, .inl (cA_2, 4, .inr (.inr (.inr (.inr (fun _ => none)))))), (q_4, .inr (2, [vs_6 0, vs_6 1, .int 0, .int 0, .int 0]))] := hD
  refine W.widen (k := 5) (n := 46) (Nat.le_of_ble_eq_true rfl) (Nat.le_of_ble_eq_true rfl) ?_
  refine va_astq (r := (RX2, TX2, 5)) hx hb hK2 hP hD hS 1 4 2 2 rfl rfl rfl rfl (by unfold vp_in; decide) dX0_init_39 (fun H locs hP hD hS => ?_)
  obtain ⟨g_7, eg_7⟩ : ∃ y, va_up (fun _ => none) (0 : Int32).toNatClampNeg (some q_4) = y := ⟨_, rfl⟩
  rw [eg_7] at hP hD
  have hP : va_P D vwCl [(o0, .inr (0, [.ref q_1, .ref q_3, .int 0])), (q_1, .inl (cA_2, 4, .inr (.inr (.inr (.inr (g_7)))))), (q_4, .inr (2, [vs_6 0, vs_6 1, .int 0, .int 0, .int 0]))] H := hP
  have hD : va_D A [(o0, .inr (0, [.ref q_1, .ref q_3, .int 0])), (q_1, .inl (cA_2, 4, .inr (.inr (.inr (.inr (g_7)))))), (q_4, .inr (2, [vs_6 0, vs_6 1, .int 0, .int 0, .int 0]))] := hD
  have hP := hP.sub (ws' := [(o0, .inr (0, [.ref q_1, .ref q_3, .int 0])), (q_1, .inl (cA_2, 4, .inr (.inr (.inr (.inr (g_7))))))]) [0, 1] rfl
  have hD := hD.sub (ws' := [(o0, .inr (0, [.ref q_1, .ref q_3, .int 0])), (q_1, .inl (cA_2, 4, .inr (.inr (.inr (.inr (g_7))))))]) [0, 1] (by decide) rfl
  refine lv_iinc (v := 1) (lv' := [(1, .int 1), (0, .ref o0)]) hx hb dX0_init_40 hl (k := 0) rfl (by decide) (by decide) rfl (fun ls hl => ?_)
  refine lv_goto (tgt := 22) hx hb dX0_init_43 (by decide) ?_
  refine lv_iload_n hx hb dX0_init_22 rfl (lv_at hl 0 rfl) ?_
  refine lv_iconst (v := 4) hx hb dX0_init_23 (by decide) ?_
  refine lv_icmp_ge (tgt := 46) hx hb dX0_init_24 (by decide) (fun h => absurd h (by decide)) (fun _ => ?_)
  refine lv_aload_n hx hb dX0_init_27 rfl (lv_at hl 1 rfl) ?_
  refine va_get (D := D) (ci := 0) (v := .ref q_1) (C := RX0) (T := TX0) (N := 3) hx hb hg i_X0 hown hK hP 0 rfl rfl 0 (by decide) (hg _ m_531) (fun _ h9 => h9) rfl dX0_init_28 ?_
  refine lv_iload_n hx hb dX0_init_31 rfl (lv_at hl 0 rfl) ?_
  refine va_new (D := D) (cl := vwCl) (ci := 2) (fs := [.null, .null, .int 0, .int 0, .int 0]) (C := RX2) (T := TX2) (N := 5) hx hb hg i_X2 tyX2 tyX2_ok hown (hg _ m_505) (hg _ m_507) (hg _ m_142) hK hP hD hS hA rfl (fun j hj => by rcases (show j = 0 ∨ j = 1 ∨ j = 2 ∨ j = 3 ∨ j = 4 by omega) with rfl | rfl | rfl | rfl | rfl <;> rfl) (by decide) (by decide) dX0_init_32 (fun q_8 H hP hD hS => ?_)
  have hP : va_P D vwCl [(o0, .inr (0, [.ref q_1, .ref q_3, .int 0])), (q_1, .inl (cA_2, 4, .inr (.inr (.inr (.inr (g_7)))))), (q_8, .inr (2, [.null, .null, .int 0, .int 0, .int 0]))] H := hP
  have hD : va_D A [(o0, .inr (0, [.ref q_1, .ref q_3, .int 0])), (q_1, .inl (cA_2, 4, .inr (.inr (.inr (.inr (g_7)))))), (q_8, .inr (2, [.null, .null, .int 0, .int 0, .int 0]))] := hD
  refine W.widen (k := 6) (n := 51) (Nat.le_of_ble_eq_true rfl) (Nat.le_of_ble_eq_true rfl) ?_
  refine lv_dup hx hb dX0_init_35 rfl ?_
  refine x_callN (wr := [(o0, .inr (0, [.ref q_1, .ref q_3, .int 0])), (q_1, .inl (cA_2, 4, .inr (.inr (.inr (.inr (g_7))))))]) (rest := [.ref q_8, .int 1, .ref q_1]) ⟨hx, hb, hml, hown, hg, hl.1⟩ hE.2.1 kN_X2_init (n_Ear l D cy adK adV q_8) EV_blind hK hP hD hS hA [2] [0, 1] ⟨rfl, rfl, by decide, by decide, by decide⟩ (fun U hU hW => EV_pass hE hS (va_free hD hS hA [2] rfl) hU hW) dX0_init_36 rfl rfl (Nat.le_of_ble_eq_true rfl) ⟨Nat.le_of_ble_eq_true rfl, Nat.le_of_ble_eq_true rfl⟩ ⟨Nat.le_of_ble_eq_true rfl, Nat.le_of_ble_eq_true rfl⟩ (fun u9 H locs hw9 hP hD hS => ?_)
  obtain ⟨vs_10, rfl⟩ : ∃ z, z = u9 := ⟨_, rfl⟩
  have hP : va_P D vwCl [(o0, .inr (0, [.ref q_1, .ref q_3, .int 0])), (q_1, .inl (cA_2, 4, .inr (.inr (.inr (.inr (g_7)))))), (q_8, .inr (2, [vs_10 0, vs_10 1, .int 0, .int 0, .int 0]))] H := hP
  have hD : va_D A [(o0, .inr (0, [.ref q_1, .ref q_3, .int 0])), (q_1, .inl (cA_2, 4, .inr (.inr (.inr (.inr (g_7)))))), (q_8, .inr (2, [vs_10 0, vs_10 1, .int 0, .int 0, .int 0]))] := hD
  refine W.widen (k := 8) (n := 68) (Nat.le_of_ble_eq_true rfl) (Nat.le_of_ble_eq_true rfl) ?_
  refine va_astq (r := (RX2, TX2, 5)) hx hb hK2 hP hD hS 1 4 2 2 rfl rfl rfl rfl (by unfold vp_in; decide) dX0_init_39 (fun H locs hP hD hS => ?_)
  obtain ⟨g_11, eg_11⟩ : ∃ y, va_up (g_7) (1 : Int32).toNatClampNeg (some q_8) = y := ⟨_, rfl⟩
  rw [eg_11] at hP hD
  have hP : va_P D vwCl [(o0, .inr (0, [.ref q_1, .ref q_3, .int 0])), (q_1, .inl (cA_2, 4, .inr (.inr (.inr (.inr (g_11)))))), (q_8, .inr (2, [vs_10 0, vs_10 1, .int 0, .int 0, .int 0]))] H := hP
  have hD : va_D A [(o0, .inr (0, [.ref q_1, .ref q_3, .int 0])), (q_1, .inl (cA_2, 4, .inr (.inr (.inr (.inr (g_11)))))), (q_8, .inr (2, [vs_10 0, vs_10 1, .int 0, .int 0, .int 0]))] := hD
  have hP := hP.sub (ws' := [(o0, .inr (0, [.ref q_1, .ref q_3, .int 0])), (q_1, .inl (cA_2, 4, .inr (.inr (.inr (.inr (g_11))))))]) [0, 1] rfl
  have hD := hD.sub (ws' := [(o0, .inr (0, [.ref q_1, .ref q_3, .int 0])), (q_1, .inl (cA_2, 4, .inr (.inr (.inr (.inr (g_11))))))]) [0, 1] (by decide) rfl
  refine lv_iinc (v := 2) (lv' := [(1, .int 2), (0, .ref o0)]) hx hb dX0_init_40 hl (k := 0) rfl (by decide) (by decide) rfl (fun ls hl => ?_)
  refine lv_goto (tgt := 22) hx hb dX0_init_43 (by decide) ?_
  refine lv_iload_n hx hb dX0_init_22 rfl (lv_at hl 0 rfl) ?_
  refine lv_iconst (v := 4) hx hb dX0_init_23 (by decide) ?_
  refine lv_icmp_ge (tgt := 46) hx hb dX0_init_24 (by decide) (fun h => absurd h (by decide)) (fun _ => ?_)
  refine lv_aload_n hx hb dX0_init_27 rfl (lv_at hl 1 rfl) ?_
  refine va_get (D := D) (ci := 0) (v := .ref q_1) (C := RX0) (T := TX0) (N := 3) hx hb hg i_X0 hown hK hP 0 rfl rfl 0 (by decide) (hg _ m_531) (fun _ h9 => h9) rfl dX0_init_28 ?_
  refine lv_iload_n hx hb dX0_init_31 rfl (lv_at hl 0 rfl) ?_
  refine va_new (D := D) (cl := vwCl) (ci := 2) (fs := [.null, .null, .int 0, .int 0, .int 0]) (C := RX2) (T := TX2) (N := 5) hx hb hg i_X2 tyX2 tyX2_ok hown (hg _ m_505) (hg _ m_507) (hg _ m_142) hK hP hD hS hA rfl (fun j hj => by rcases (show j = 0 ∨ j = 1 ∨ j = 2 ∨ j = 3 ∨ j = 4 by omega) with rfl | rfl | rfl | rfl | rfl <;> rfl) (by decide) (by decide) dX0_init_32 (fun q_12 H hP hD hS => ?_)
  have hP : va_P D vwCl [(o0, .inr (0, [.ref q_1, .ref q_3, .int 0])), (q_1, .inl (cA_2, 4, .inr (.inr (.inr (.inr (g_11)))))), (q_12, .inr (2, [.null, .null, .int 0, .int 0, .int 0]))] H := hP
  have hD : va_D A [(o0, .inr (0, [.ref q_1, .ref q_3, .int 0])), (q_1, .inl (cA_2, 4, .inr (.inr (.inr (.inr (g_11)))))), (q_12, .inr (2, [.null, .null, .int 0, .int 0, .int 0]))] := hD
  refine W.widen (k := 9) (n := 73) (Nat.le_of_ble_eq_true rfl) (Nat.le_of_ble_eq_true rfl) ?_
  refine lv_dup hx hb dX0_init_35 rfl ?_
  refine x_callN (wr := [(o0, .inr (0, [.ref q_1, .ref q_3, .int 0])), (q_1, .inl (cA_2, 4, .inr (.inr (.inr (.inr (g_11))))))]) (rest := [.ref q_12, .int 2, .ref q_1]) ⟨hx, hb, hml, hown, hg, hl.1⟩ hE.2.1 kN_X2_init (n_Ear l D cy adK adV q_12) EV_blind hK hP hD hS hA [2] [0, 1] ⟨rfl, rfl, by decide, by decide, by decide⟩ (fun U hU hW => EV_pass hE hS (va_free hD hS hA [2] rfl) hU hW) dX0_init_36 rfl rfl (Nat.le_of_ble_eq_true rfl) ⟨Nat.le_of_ble_eq_true rfl, Nat.le_of_ble_eq_true rfl⟩ ⟨Nat.le_of_ble_eq_true rfl, Nat.le_of_ble_eq_true rfl⟩ (fun u13 H locs hw13 hP hD hS => ?_)
  obtain ⟨vs_14, rfl⟩ : ∃ z, z = u13 := ⟨_, rfl⟩
  have hP : va_P D vwCl [(o0, .inr (0, [.ref q_1, .ref q_3, .int 0])), (q_1, .inl (cA_2, 4, .inr (.inr (.inr (.inr (g_11)))))), (q_12, .inr (2, [vs_14 0, vs_14 1, .int 0, .int 0, .int 0]))] H := hP
  have hD : va_D A [(o0, .inr (0, [.ref q_1, .ref q_3, .int 0])), (q_1, .inl (cA_2, 4, .inr (.inr (.inr (.inr (g_11)))))), (q_12, .inr (2, [vs_14 0, vs_14 1, .int 0, .int 0, .int 0]))] := hD
  refine W.widen (k := 11) (n := 90) (Nat.le_of_ble_eq_true rfl) (Nat.le_of_ble_eq_true rfl) ?_
  refine va_astq (r := (RX2, TX2, 5)) hx hb hK2 hP hD hS 1 4 2 2 rfl rfl rfl rfl (by unfold vp_in; decide) dX0_init_39 (fun H locs hP hD hS => ?_)
  obtain ⟨g_15, eg_15⟩ : ∃ y, va_up (g_11) (2 : Int32).toNatClampNeg (some q_12) = y := ⟨_, rfl⟩
  rw [eg_15] at hP hD
  have hP : va_P D vwCl [(o0, .inr (0, [.ref q_1, .ref q_3, .int 0])), (q_1, .inl (cA_2, 4, .inr (.inr (.inr (.inr (g_15)))))), (q_12, .inr (2, [vs_14 0, vs_14 1, .int 0, .int 0, .int 0]))] H := hP
  have hD : va_D A [(o0, .inr (0, [.ref q_1, .ref q_3, .int 0])), (q_1, .inl (cA_2, 4, .inr (.inr (.inr (.inr (g_15)))))), (q_12, .inr (2, [vs_14 0, vs_14 1, .int 0, .int 0, .int 0]))] := hD
  have hP := hP.sub (ws' := [(o0, .inr (0, [.ref q_1, .ref q_3, .int 0])), (q_1, .inl (cA_2, 4, .inr (.inr (.inr (.inr (g_15))))))]) [0, 1] rfl
  have hD := hD.sub (ws' := [(o0, .inr (0, [.ref q_1, .ref q_3, .int 0])), (q_1, .inl (cA_2, 4, .inr (.inr (.inr (.inr (g_15))))))]) [0, 1] (by decide) rfl
  refine lv_iinc (v := 3) (lv' := [(1, .int 3), (0, .ref o0)]) hx hb dX0_init_40 hl (k := 0) rfl (by decide) (by decide) rfl (fun ls hl => ?_)
  refine lv_goto (tgt := 22) hx hb dX0_init_43 (by decide) ?_
  refine lv_iload_n hx hb dX0_init_22 rfl (lv_at hl 0 rfl) ?_
  refine lv_iconst (v := 4) hx hb dX0_init_23 (by decide) ?_
  refine lv_icmp_ge (tgt := 46) hx hb dX0_init_24 (by decide) (fun h => absurd h (by decide)) (fun _ => ?_)
  refine lv_aload_n hx hb dX0_init_27 rfl (lv_at hl 1 rfl) ?_
  refine va_get (D := D) (ci := 0) (v := .ref q_1) (C := RX0) (T := TX0) (N := 3) hx hb hg i_X0 hown hK hP 0 rfl rfl 0 (by decide) (hg _ m_531) (fun _ h9 => h9) rfl dX0_init_28 ?_
  refine lv_iload_n hx hb dX0_init_31 rfl (lv_at hl 0 rfl) ?_
  refine va_new (D := D) (cl := vwCl) (ci := 2) (fs := [.null, .null, .int 0, .int 0, .int 0]) (C := RX2) (T := TX2) (N := 5) hx hb hg i_X2 tyX2 tyX2_ok hown (hg _ m_505) (hg _ m_507) (hg _ m_142) hK hP hD hS hA rfl (fun j hj => by rcases (show j = 0 ∨ j = 1 ∨ j = 2 ∨ j = 3 ∨ j = 4 by omega) with rfl | rfl | rfl | rfl | rfl <;> rfl) (by decide) (by decide) dX0_init_32 (fun q_16 H hP hD hS => ?_)
  have hP : va_P D vwCl [(o0, .inr (0, [.ref q_1, .ref q_3, .int 0])), (q_1, .inl (cA_2, 4, .inr (.inr (.inr (.inr (g_15)))))), (q_16, .inr (2, [.null, .null, .int 0, .int 0, .int 0]))] H := hP
  have hD : va_D A [(o0, .inr (0, [.ref q_1, .ref q_3, .int 0])), (q_1, .inl (cA_2, 4, .inr (.inr (.inr (.inr (g_15)))))), (q_16, .inr (2, [.null, .null, .int 0, .int 0, .int 0]))] := hD
  refine W.widen (k := 12) (n := 95) (Nat.le_of_ble_eq_true rfl) (Nat.le_of_ble_eq_true rfl) ?_
  refine lv_dup hx hb dX0_init_35 rfl ?_
  refine x_callN (wr := [(o0, .inr (0, [.ref q_1, .ref q_3, .int 0])), (q_1, .inl (cA_2, 4, .inr (.inr (.inr (.inr (g_15))))))]) (rest := [.ref q_16, .int 3, .ref q_1]) ⟨hx, hb, hml, hown, hg, hl.1⟩ hE.2.1 kN_X2_init (n_Ear l D cy adK adV q_16) EV_blind hK hP hD hS hA [2] [0, 1] ⟨rfl, rfl, by decide, by decide, by decide⟩ (fun U hU hW => EV_pass hE hS (va_free hD hS hA [2] rfl) hU hW) dX0_init_36 rfl rfl (Nat.le_of_ble_eq_true rfl) ⟨Nat.le_of_ble_eq_true rfl, Nat.le_of_ble_eq_true rfl⟩ ⟨Nat.le_of_ble_eq_true rfl, Nat.le_of_ble_eq_true rfl⟩ (fun u17 H locs hw17 hP hD hS => ?_)
  obtain ⟨vs_18, rfl⟩ : ∃ z, z = u17 := ⟨_, rfl⟩
  have hP : va_P D vwCl [(o0, .inr (0, [.ref q_1, .ref q_3, .int 0])), (q_1, .inl (cA_2, 4, .inr (.inr (.inr (.inr (g_15)))))), (q_16, .inr (2, [vs_18 0, vs_18 1, .int 0, .int 0, .int 0]))] H := hP
  have hD : va_D A [(o0, .inr (0, [.ref q_1, .ref q_3, .int 0])), (q_1, .inl (cA_2, 4, .inr (.inr (.inr (.inr (g_15)))))), (q_16, .inr (2, [vs_18 0, vs_18 1, .int 0, .int 0, .int 0]))] := hD
  refine W.widen (k := 14) (n := 112) (Nat.le_of_ble_eq_true rfl) (Nat.le_of_ble_eq_true rfl) ?_
  refine va_astq (r := (RX2, TX2, 5)) hx hb hK2 hP hD hS 1 4 2 2 rfl rfl rfl rfl (by unfold vp_in; decide) dX0_init_39 (fun H locs hP hD hS => ?_)
  obtain ⟨g_19, eg_19⟩ : ∃ y, va_up (g_15) (3 : Int32).toNatClampNeg (some q_16) = y := ⟨_, rfl⟩
  rw [eg_19] at hP hD
  have hP : va_P D vwCl [(o0, .inr (0, [.ref q_1, .ref q_3, .int 0])), (q_1, .inl (cA_2, 4, .inr (.inr (.inr (.inr (g_19)))))), (q_16, .inr (2, [vs_18 0, vs_18 1, .int 0, .int 0, .int 0]))] H := hP
  have hD : va_D A [(o0, .inr (0, [.ref q_1, .ref q_3, .int 0])), (q_1, .inl (cA_2, 4, .inr (.inr (.inr (.inr (g_19)))))), (q_16, .inr (2, [vs_18 0, vs_18 1, .int 0, .int 0, .int 0]))] := hD
  have hP := hP.sub (ws' := [(o0, .inr (0, [.ref q_1, .ref q_3, .int 0])), (q_1, .inl (cA_2, 4, .inr (.inr (.inr (.inr (g_19))))))]) [0, 1] rfl
  have hD := hD.sub (ws' := [(o0, .inr (0, [.ref q_1, .ref q_3, .int 0])), (q_1, .inl (cA_2, 4, .inr (.inr (.inr (.inr (g_19))))))]) [0, 1] (by decide) rfl
  refine lv_iinc (v := 4) (lv' := [(1, .int 4), (0, .ref o0)]) hx hb dX0_init_40 hl (k := 0) rfl (by decide) (by decide) rfl (fun ls hl => ?_)
  refine lv_goto (tgt := 22) hx hb dX0_init_43 (by decide) ?_
  refine lv_iload_n hx hb dX0_init_22 rfl (lv_at hl 0 rfl) ?_
  refine lv_iconst (v := 4) hx hb dX0_init_23 (by decide) ?_
  refine lv_icmp_ge (tgt := 46) hx hb dX0_init_24 (by decide) (fun _ => ?_) (fun h => absurd (by decide) h)
  exact x_vret hQ hx hb hr hlocks hK hP hD hS dX0_init_46 (fun k => [q_1, q_3].getD k 0) (trivial) [0] (by decide) rfl (Nat.le_of_ble_eq_true rfl) (Nat.le_of_ble_eq_true rfl)
theorem dX1_init_0 : decode cX1_init 0 = .ok (.aload_n 0, 1) := by decide +kernel
theorem dX1_init_1 : decode cX1_init 1 = .ok (.invokespecial 5, 3) := by decide +kernel
theorem m_551 : (Cond.methodLink RX1 5 objectInit) ∈ gT := gm 551 (by decide +kernel) (by decide +kernel)
theorem dX1_init_4 : decode cX1_init 4 = .ok (.aload_n 0, 1) := by decide +kernel
theorem dX1_init_5 : decode cX1_init 5 = .ok (.iconst 5, 1) := by decide +kernel
theorem dX1_init_6 : decode cX1_init 6 = .ok (.newarray .int, 2) := by decide +kernel
theorem dX1_init_8 : decode cX1_init 8 = .ok (.putfield 11, 3) := by decide +kernel
set_option maxRecDepth 20000 in
theorem i_X1 : ∀ w ∈ u_ws RX1 TX1 8, w ∈ gT := gin [561, 563, 565, 567, 569, 571, 573, 575] (by decide +kernel) (by decide +kernel)
theorem m_552 : (Cond.fieldLink RX1 11 "CliffJudges$Cries" "cry" "[I") ∈ gT := gm 552 (by decide +kernel) (by decide +kernel)
theorem dX1_init_11 : decode cX1_init 11 = .ok (.aload_n 0, 1) := by decide +kernel
theorem dX1_init_12 : decode cX1_init 12 = .ok (.bipush 24, 2) := by decide +kernel
theorem dX1_init_14 : decode cX1_init 14 = .ok (.newarray .int, 2) := by decide +kernel
theorem dX1_init_16 : decode cX1_init 16 = .ok (.putfield 15, 3) := by decide +kernel
theorem m_555 : (Cond.fieldLink RX1 15 "CliffJudges$Cries" "paths" "[I") ∈ gT := gm 555 (by decide +kernel) (by decide +kernel)
theorem dX1_init_19 : decode cX1_init 19 = .ok (.aload_n 0, 1) := by decide +kernel
theorem dX1_init_20 : decode cX1_init 20 = .ok (.bipush 10, 2) := by decide +kernel
theorem dX1_init_22 : decode cX1_init 22 = .ok (.newarray .int, 2) := by decide +kernel
theorem dX1_init_24 : decode cX1_init 24 = .ok (.putfield 18, 3) := by decide +kernel
theorem m_556 : (Cond.fieldLink RX1 18 "CliffJudges$Cries" "wanted" "[I") ∈ gT := gm 556 (by decide +kernel) (by decide +kernel)
theorem dX1_init_27 : decode cX1_init 27 = .ok (.aload_n 0, 1) := by decide +kernel
theorem dX1_init_28 : decode cX1_init 28 = .ok (.bipush 66, 2) := by decide +kernel
theorem dX1_init_30 : decode cX1_init 30 = .ok (.newarray .int, 2) := by decide +kernel
theorem dX1_init_32 : decode cX1_init 32 = .ok (.putfield 21, 3) := by decide +kernel
theorem m_557 : (Cond.fieldLink RX1 21 "CliffJudges$Cries" "ways" "[I") ∈ gT := gm 557 (by decide +kernel) (by decide +kernel)
theorem dX1_init_35 : decode cX1_init 35 = .ok (.aload_n 0, 1) := by decide +kernel
theorem dX1_init_36 : decode cX1_init 36 = .ok (.aload_n 1, 1) := by decide +kernel
theorem dX1_init_37 : decode cX1_init 37 = .ok (.getfield 24, 3) := by decide +kernel
theorem m_533 : (Cond.fieldLink RX1 24 "CliffJudges$Court" "ears" "[LCliffJudges$Ear;") ∈ gT := gm 533 (by decide +kernel) (by decide +kernel)
theorem dX1_init_40 : decode cX1_init 40 = .ok (.putfield 30, 3) := by decide +kernel
theorem m_554 : (Cond.fieldLink RX1 30 "CliffJudges$Cries" "ears" "[LCliffJudges$Ear;") ∈ gT := gm 554 (by decide +kernel) (by decide +kernel)
theorem dX1_init_43 : decode cX1_init 43 = .ok (.return_, 1) := by decide +kernel
set_option maxHeartbeats 400000 in
set_option maxRecDepth 100000 in
theorem n_Cries (l : Launch) (D : va_G) (cy : Nat → ClassId) (adK : Nat → Nat) (adV : Nat → Nat) (o0 : Nat) (co0 : Nat) (cr0 : Nat) (cr1 : Nat) (cv2 : Value)  : XMv l D (tyL cy) (EV adK adV) yX1_init cX1_init 2 none (rmk 1 4 105) [.ref o0, .ref co0] [(o0, .inr (1, [.null, .null, .null, .null, .null, .null, .int 0, .int 0])), (co0, .inr (0, [.ref cr0, .ref cr1, cv2]))] (fun (_ : Unit) => True) (fun (_ : Unit) => [(co0, .inr (0, [.ref cr0, .ref cr1, cv2]))]) := by
  refine XMv.start (by decide) (Nat.le_of_ble_eq_true rfl) ?_
  intro p e s m below meth c args A ls Q hat hQ
  obtain ⟨hx, hb, hr, hml, hown, hg, hlocks, hin, hK, hA, hP, hD, hS, hE, hl⟩ := hat
  have hown : s.vm.findClass RX1 = some m.cls := hown
  have hl : lv_has ls 2 [(0, .ref o0), (1, .ref co0)] := hl
  refine lv_aload_n hx hb dX1_init_0 rfl (lv_at hl 0 rfl) ?_
  refine W.objInit hx hb hown (hg _ m_551) (hg _ m_157) (hg _ m_158) rfl (by rw [hml]; exact hl.1) rfl dX1_init_1 (by decide) (Nat.le_of_ble_eq_true rfl) ?_
  refine W.eq (g2 := F0 m 4 ls []) rfl ?_
  refine lv_aload_n hx hb dX1_init_4 rfl (lv_at hl 0 rfl) ?_
  refine lv_iconst (v := 5) hx hb dX1_init_5 (by decide) ?_
  refine x_newa (atype := .int) (ty := .int) (a0 := (5, .inl (fun _ => 0))) (N' := 5) hx hb (hg _ m_316) rfl hK 1 rfl one_int hP hD hS hA (fun _ => rfl) (by decide) (by decide) (by decide) (by decide) (by decide) dX1_init_6 (fun q_1 H hP hD hS => ?_)
  have hP : va_P D vwCl [(o0, .inr (1, [.null, .null, .null, .null, .null, .null, .int 0, .int 0])), (co0, .inr (0, [.ref cr0, .ref cr1, cv2])), (q_1, .inl (cy 1, 5, .inl (fun _ => 0)))] H := hP
  have hD : va_D A [(o0, .inr (1, [.null, .null, .null, .null, .null, .null, .int 0, .int 0])), (co0, .inr (0, [.ref cr0, .ref cr1, cv2])), (q_1, .inl (cy 1, 5, .inl (fun _ => 0)))] := hD
  refine W.widen (k := 1) (n := 5) (Nat.le_of_ble_eq_true rfl) (Nat.le_of_ble_eq_true rfl) ?_
  refine va_putF (D := D) (ci := 1) (v := .ref q_1) (ty := .array .int) (C := RX1) (T := TX1) (N := 8) hx hb hg i_X1 tyX1 tyX1_ok nmX1 hown hK hP hD hS 0 rfl rfl 0 (by decide) (hg _ m_552) (fun _ h9 => h9) rfl hin rfl (by decide +kernel) rfl rfl (Nat.le_of_ble_eq_true rfl) dX1_init_8 (fun H locs hP hD hS => ?_)
  have hP : va_P D vwCl [(o0, .inr (1, [.ref q_1, .null, .null, .null, .null, .null, .int 0, .int 0])), (co0, .inr (0, [.ref cr0, .ref cr1, cv2])), (q_1, .inl (cy 1, 5, .inl (fun _ => 0)))] H := hP
  have hD : va_D A [(o0, .inr (1, [.ref q_1, .null, .null, .null, .null, .null, .int 0, .int 0])), (co0, .inr (0, [.ref cr0, .ref cr1, cv2])), (q_1, .inl (cy 1, 5, .inl (fun _ => 0)))] := hD
  have hP := hP.sub (ws' := [(o0, .inr (1, [.ref q_1, .null, .null, .null, .null, .null, .int 0, .int 0])), (co0, .inr (0, [.ref cr0, .ref cr1, cv2]))]) [0, 1] rfl
  have hD := hD.sub (ws' := [(o0, .inr (1, [.ref q_1, .null, .null, .null, .null, .null, .int 0, .int 0])), (co0, .inr (0, [.ref cr0, .ref cr1, cv2]))]) [0, 1] (by decide) rfl
  refine lv_aload_n hx hb dX1_init_11 rfl (lv_at hl 0 rfl) ?_
  refine lv_bipush (v := 24) hx hb dX1_init_12 (by decide) ?_
  refine x_newa (atype := .int) (ty := .int) (a0 := (24, .inl (fun _ => 0))) (N' := 24) hx hb (hg _ m_316) rfl hK 1 rfl one_int hP hD hS hA (fun _ => rfl) (by decide) (by decide) (by decide) (by decide) (by decide) dX1_init_14 (fun q_2 H hP hD hS => ?_)
  have hP : va_P D vwCl [(o0, .inr (1, [.ref q_1, .null, .null, .null, .null, .null, .int 0, .int 0])), (co0, .inr (0, [.ref cr0, .ref cr1, cv2])), (q_2, .inl (cy 1, 24, .inl (fun _ => 0)))] H := hP
  have hD : va_D A [(o0, .inr (1, [.ref q_1, .null, .null, .null, .null, .null, .int 0, .int 0])), (co0, .inr (0, [.ref cr0, .ref cr1, cv2])), (q_2, .inl (cy 1, 24, .inl (fun _ => 0)))] := hD
  refine W.widen (k := 2) (n := 29) (Nat.le_of_ble_eq_true rfl) (Nat.le_of_ble_eq_true rfl) ?_
  refine va_putF (D := D) (ci := 1) (v := .ref q_2) (ty := .array .int) (C := RX1) (T := TX1) (N := 8) hx hb hg i_X1 tyX1 tyX1_ok nmX1 hown hK hP hD hS 0 rfl rfl 2 (by decide) (hg _ m_555) (fun _ h9 => h9) rfl hin rfl (by decide +kernel) rfl rfl (Nat.le_of_ble_eq_true rfl) dX1_init_16 (fun H locs hP hD hS => ?_)
  have hP : va_P D vwCl [(o0, .inr (1, [.ref q_1, .null, .ref q_2, .null, .null, .null, .int 0, .int 0])), (co0, .inr (0, [.ref cr0, .ref cr1, cv2])), (q_2, .inl (cy 1, 24, .inl (fun _ => 0)))] H := hP
  have hD : va_D A [(o0, .inr (1, [.ref q_1, .null, .ref q_2, .null, .null, .null, .int 0, .int 0])), (co0, .inr (0, [.ref cr0, .ref cr1, cv2])), (q_2, .inl (cy 1, 24, .inl (fun _ => 0)))] := hD
  have hP := hP.sub (ws' := [(o0, .inr (1, [.ref q_1, .null, .ref q_2, .null, .null, .null, .int 0, .int 0])), (co0, .inr (0, [.ref cr0, .ref cr1, cv2]))]) [0, 1] rfl
  have hD := hD.sub (ws' := [(o0, .inr (1, [.ref q_1, .null, .ref q_2, .null, .null, .null, .int 0, .int 0])), (co0, .inr (0, [.ref cr0, .ref cr1, cv2]))]) [0, 1] (by decide) rfl
  refine lv_aload_n hx hb dX1_init_19 rfl (lv_at hl 0 rfl) ?_
  refine lv_bipush (v := 10) hx hb dX1_init_20 (by decide) ?_
  refine x_newa (atype := .int) (ty := .int) (a0 := (10, .inl (fun _ => 0))) (N' := 10) hx hb (hg _ m_316) rfl hK 1 rfl one_int hP hD hS hA (fun _ => rfl) (by decide) (by decide) (by decide) (by decide) (by decide) dX1_init_22 (fun q_3 H hP hD hS => ?_)
  have hP : va_P D vwCl [(o0, .inr (1, [.ref q_1, .null, .ref q_2, .null, .null, .null, .int 0, .int 0])), (co0, .inr (0, [.ref cr0, .ref cr1, cv2])), (q_3, .inl (cy 1, 10, .inl (fun _ => 0)))] H := hP
  have hD : va_D A [(o0, .inr (1, [.ref q_1, .null, .ref q_2, .null, .null, .null, .int 0, .int 0])), (co0, .inr (0, [.ref cr0, .ref cr1, cv2])), (q_3, .inl (cy 1, 10, .inl (fun _ => 0)))] := hD
  refine W.widen (k := 3) (n := 39) (Nat.le_of_ble_eq_true rfl) (Nat.le_of_ble_eq_true rfl) ?_
  refine va_putF (D := D) (ci := 1) (v := .ref q_3) (ty := .array .int) (C := RX1) (T := TX1) (N := 8) hx hb hg i_X1 tyX1 tyX1_ok nmX1 hown hK hP hD hS 0 rfl rfl 3 (by decide) (hg _ m_556) (fun _ h9 => h9) rfl hin rfl (by decide +kernel) rfl rfl (Nat.le_of_ble_eq_true rfl) dX1_init_24 (fun H locs hP hD hS => ?_)
  have hP : va_P D vwCl [(o0, .inr (1, [.ref q_1, .null, .ref q_2, .ref q_3, .null, .null, .int 0, .int 0])), (co0, .inr (0, [.ref cr0, .ref cr1, cv2])), (q_3, .inl (cy 1, 10, .inl (fun _ => 0)))] H := hP
  have hD : va_D A [(o0, .inr (1, [.ref q_1, .null, .ref q_2, .ref q_3, .null, .null, .int 0, .int 0])), (co0, .inr (0, [.ref cr0, .ref cr1, cv2])), (q_3, .inl (cy 1, 10, .inl (fun _ => 0)))] := hD
  have hP := hP.sub (ws' := [(o0, .inr (1, [.ref q_1, .null, .ref q_2, .ref q_3, .null, .null, .int 0, .int 0])), (co0, .inr (0, [.ref cr0, .ref cr1, cv2]))]) [0, 1] rfl
  have hD := hD.sub (ws' := [(o0, .inr (1, [.ref q_1, .null, .ref q_2, .ref q_3, .null, .null, .int 0, .int 0])), (co0, .inr (0, [.ref cr0, .ref cr1, cv2]))]) [0, 1] (by decide) rfl
  refine lv_aload_n hx hb dX1_init_27 rfl (lv_at hl 0 rfl) ?_
  refine lv_bipush (v := 66) hx hb dX1_init_28 (by decide) ?_
  refine x_newa (atype := .int) (ty := .int) (a0 := (66, .inl (fun _ => 0))) (N' := 66) hx hb (hg _ m_316) rfl hK 1 rfl one_int hP hD hS hA (fun _ => rfl) (by decide) (by decide) (by decide) (by decide) (by decide) dX1_init_30 (fun q_4 H hP hD hS => ?_)
  have hP : va_P D vwCl [(o0, .inr (1, [.ref q_1, .null, .ref q_2, .ref q_3, .null, .null, .int 0, .int 0])), (co0, .inr (0, [.ref cr0, .ref cr1, cv2])), (q_4, .inl (cy 1, 66, .inl (fun _ => 0)))] H := hP
  have hD : va_D A [(o0, .inr (1, [.ref q_1, .null, .ref q_2, .ref q_3, .null, .null, .int 0, .int 0])), (co0, .inr (0, [.ref cr0, .ref cr1, cv2])), (q_4, .inl (cy 1, 66, .inl (fun _ => 0)))] := hD
  refine W.widen (k := 4) (n := 105) (Nat.le_of_ble_eq_true rfl) (Nat.le_of_ble_eq_true rfl) ?_
  refine va_putF (D := D) (ci := 1) (v := .ref q_4) (ty := .array .int) (C := RX1) (T := TX1) (N := 8) hx hb hg i_X1 tyX1 tyX1_ok nmX1 hown hK hP hD hS 0 rfl rfl 4 (by decide) (hg _ m_557) (fun _ h9 => h9) rfl hin rfl (by decide +kernel) rfl rfl (Nat.le_of_ble_eq_true rfl) dX1_init_32 (fun H locs hP hD hS => ?_)
  have hP : va_P D vwCl [(o0, .inr (1, [.ref q_1, .null, .ref q_2, .ref q_3, .ref q_4, .null, .int 0, .int 0])), (co0, .inr (0, [.ref cr0, .ref cr1, cv2])), (q_4, .inl (cy 1, 66, .inl (fun _ => 0)))] H := hP
  have hD : va_D A [(o0, .inr (1, [.ref q_1, .null, .ref q_2, .ref q_3, .ref q_4, .null, .int 0, .int 0])), (co0, .inr (0, [.ref cr0, .ref cr1, cv2])), (q_4, .inl (cy 1, 66, .inl (fun _ => 0)))] := hD
  have hP := hP.sub (ws' := [(o0, .inr (1, [.ref q_1, .null, .ref q_2, .ref q_3, .ref q_4, .null, .int 0, .int 0])), (co0, .inr (0, [.ref cr0, .ref cr1, cv2]))]) [0, 1] rfl
  have hD := hD.sub (ws' := [(o0, .inr (1, [.ref q_1, .null, .ref q_2, .ref q_3, .ref q_4, .null, .int 0, .int 0])), (co0, .inr (0, [.ref cr0, .ref cr1, cv2]))]) [0, 1] (by decide) rfl
  refine lv_aload_n hx hb dX1_init_35 rfl (lv_at hl 0 rfl) ?_
  refine lv_aload_n hx hb dX1_init_36 rfl (lv_at hl 1 rfl) ?_
  refine va_get (D := D) (ci := 0) (v := .ref cr0) (C := RX0) (T := TX0) (N := 3) hx hb hg i_X0 hown hK hP 1 rfl rfl 0 (by decide) (hg _ m_533) (fun _ h9 => h9) rfl dX1_init_37 ?_
  refine va_putF (D := D) (ci := 1) (v := .ref cr0) (ty := .array (.object "CliffJudges$Ear")) (C := RX1) (T := TX1) (N := 8) hx hb hg i_X1 tyX1 tyX1_ok nmX1 hown hK hP hD hS 0 rfl rfl 1 (by decide) (hg _ m_554) (fun _ h9 => h9) rfl hin rfl (by decide +kernel) rfl rfl (Nat.le_of_ble_eq_true rfl) dX1_init_40 (fun H locs hP hD hS => ?_)
  have hP : va_P D vwCl [(o0, .inr (1, [.ref q_1, .ref cr0, .ref q_2, .ref q_3, .ref q_4, .null, .int 0, .int 0])), (co0, .inr (0, [.ref cr0, .ref cr1, cv2]))] H := hP
  have hD : va_D A [(o0, .inr (1, [.ref q_1, .ref cr0, .ref q_2, .ref q_3, .ref q_4, .null, .int 0, .int 0])), (co0, .inr (0, [.ref cr0, .ref cr1, cv2]))] := hD
  exact x_vret hQ hx hb hr hlocks hK hP hD hS dX1_init_43 () (trivial) [1] (by decide) rfl (Nat.le_of_ble_eq_true rfl) (Nat.le_of_ble_eq_true rfl)
theorem dX6_init_0 : decode cX6_init 0 = .ok (.aload_n 0, 1) := by decide +kernel
theorem dX6_init_1 : decode cX6_init 1 = .ok (.invokespecial 3, 3) := by decide +kernel
theorem m_583 : (Cond.methodLink RX6 3 objectInit) ∈ gT := gm 583 (by decide +kernel) (by decide +kernel)
theorem dX6_init_4 : decode cX6_init 4 = .ok (.aload_n 0, 1) := by decide +kernel
theorem dX6_init_5 : decode cX6_init 5 = .ok (.iconst 3, 1) := by decide +kernel
theorem dX6_init_6 : decode cX6_init 6 = .ok (.newarray .int, 2) := by decide +kernel
theorem dX6_init_8 : decode cX6_init 8 = .ok (.putfield 9, 3) := by decide +kernel
set_option maxRecDepth 20000 in
theorem i_X6 : ∀ w ∈ u_ws RX6 TX6 9, w ∈ gT := gin [594, 596, 598, 600, 602, 604, 606, 608, 610] (by decide +kernel) (by decide +kernel)
theorem m_584 : (Cond.fieldLink RX6 9 "CliffJudges$Rhymes" "found" "[I") ∈ gT := gm 584 (by decide +kernel) (by decide +kernel)
theorem dX6_init_11 : decode cX6_init 11 = .ok (.aload_n 0, 1) := by decide +kernel
theorem dX6_init_12 : decode cX6_init 12 = .ok (.iconst 3, 1) := by decide +kernel
theorem dX6_init_13 : decode cX6_init 13 = .ok (.newarray .int, 2) := by decide +kernel
theorem dX6_init_15 : decode cX6_init 15 = .ok (.putfield 15, 3) := by decide +kernel
theorem m_588 : (Cond.fieldLink RX6 15 "CliffJudges$Rhymes" "places" "[I") ∈ gT := gm 588 (by decide +kernel) (by decide +kernel)
theorem dX6_init_18 : decode cX6_init 18 = .ok (.aload_n 0, 1) := by decide +kernel
theorem dX6_init_19 : decode cX6_init 19 = .ok (.iconst 4, 1) := by decide +kernel
theorem dX6_init_20 : decode cX6_init 20 = .ok (.newarray .int, 2) := by decide +kernel
theorem dX6_init_22 : decode cX6_init 22 = .ok (.putfield 18, 3) := by decide +kernel
theorem m_589 : (Cond.fieldLink RX6 18 "CliffJudges$Rhymes" "nearest" "[I") ∈ gT := gm 589 (by decide +kernel) (by decide +kernel)
theorem dX6_init_25 : decode cX6_init 25 = .ok (.aload_n 0, 1) := by decide +kernel
theorem dX6_init_26 : decode cX6_init 26 = .ok (.bipush 40, 2) := by decide +kernel
theorem dX6_init_28 : decode cX6_init 28 = .ok (.newarray .int, 2) := by decide +kernel
theorem dX6_init_30 : decode cX6_init 30 = .ok (.putfield 21, 3) := by decide +kernel
theorem m_590 : (Cond.fieldLink RX6 21 "CliffJudges$Rhymes" "quiet" "[I") ∈ gT := gm 590 (by decide +kernel) (by decide +kernel)
theorem dX6_init_33 : decode cX6_init 33 = .ok (.aload_n 0, 1) := by decide +kernel
theorem dX6_init_34 : decode cX6_init 34 = .ok (.aload_n 1, 1) := by decide +kernel
theorem dX6_init_35 : decode cX6_init 35 = .ok (.getfield 24, 3) := by decide +kernel
theorem m_532 : (Cond.fieldLink RX6 24 "CliffJudges$Court" "ears" "[LCliffJudges$Ear;") ∈ gT := gm 532 (by decide +kernel) (by decide +kernel)
theorem dX6_init_38 : decode cX6_init 38 = .ok (.putfield 30, 3) := by decide +kernel
theorem m_586 : (Cond.fieldLink RX6 30 "CliffJudges$Rhymes" "ears" "[LCliffJudges$Ear;") ∈ gT := gm 586 (by decide +kernel) (by decide +kernel)
theorem dX6_init_41 : decode cX6_init 41 = .ok (.aload_n 0, 1) := by decide +kernel
theorem dX6_init_42 : decode cX6_init 42 = .ok (.aload_n 1, 1) := by decide +kernel
theorem dX6_init_43 : decode cX6_init 43 = .ok (.getfield 31, 3) := by decide +kernel
theorem m_535 : (Cond.fieldLink RX6 31 "CliffJudges$Court" "row" "[I") ∈ gT := gm 535 (by decide +kernel) (by decide +kernel)
theorem dX6_init_46 : decode cX6_init 46 = .ok (.putfield 34, 3) := by decide +kernel
theorem m_587 : (Cond.fieldLink RX6 34 "CliffJudges$Rhymes" "row" "[I") ∈ gT := gm 587 (by decide +kernel) (by decide +kernel)
theorem dX6_init_49 : decode cX6_init 49 = .ok (.return_, 1) := by decide +kernel
set_option maxHeartbeats 400000 in
set_option maxRecDepth 100000 in
theorem n_Rhymes (l : Launch) (D : va_G) (cy : Nat → ClassId) (adK : Nat → Nat) (adV : Nat → Nat) (o0 : Nat) (co0 : Nat) (cr0 : Nat) (cr1 : Nat) (cv2 : Value)  : XMv l D (tyL cy) (EV adK adV) yX6_init cX6_init 2 none (rmk 1 4 50) [.ref o0, .ref co0] [(o0, .inr (6, [.null, .null, .null, .null, .null, .null, .null, .null, .int 0])), (co0, .inr (0, [.ref cr0, .ref cr1, cv2]))] (fun (_ : Unit) => True) (fun (_ : Unit) => [(co0, .inr (0, [.ref cr0, .ref cr1, cv2]))]) := by
  refine XMv.start (by decide) (Nat.le_of_ble_eq_true rfl) ?_
  intro p e s m below meth c args A ls Q hat hQ
  obtain ⟨hx, hb, hr, hml, hown, hg, hlocks, hin, hK, hA, hP, hD, hS, hE, hl⟩ := hat
  have hown : s.vm.findClass RX6 = some m.cls := hown
  have hl : lv_has ls 2 [(0, .ref o0), (1, .ref co0)] := hl
  refine lv_aload_n hx hb dX6_init_0 rfl (lv_at hl 0 rfl) ?_
  refine W.objInit hx hb hown (hg _ m_583) (hg _ m_157) (hg _ m_158) rfl (by rw [hml]; exact hl.1) rfl dX6_init_1 (by decide) (Nat.le_of_ble_eq_true rfl) ?_
  refine W.eq (g2 := F0 m 4 ls []) rfl ?_
  refine lv_aload_n hx hb dX6_init_4 rfl (lv_at hl 0 rfl) ?_
  refine lv_iconst (v := 3) hx hb dX6_init_5 (by decide) ?_
  refine x_newa (atype := .int) (ty := .int) (a0 := (3, .inl (fun _ => 0))) (N' := 3) hx hb (hg _ m_316) rfl hK 1 rfl one_int hP hD hS hA (fun _ => rfl) (by decide) (by decide) (by decide) (by decide) (by decide) dX6_init_6 (fun q_1 H hP hD hS => ?_)
  have hP : va_P D vwCl [(o0, .inr (6, [.null, .null, .null, .null, .null, .null, .null, .null, .int 0])), (co0, .inr (0, [.ref cr0, .ref cr1, cv2])), (q_1, .inl (cy 1, 3, .inl (fun _ => 0)))] H := hP
  have hD : va_D A [(o0, .inr (6, [.null, .null, .null, .null, .null, .null, .null, .null, .int 0])), (co0, .inr (0, [.ref cr0, .ref cr1, cv2])), (q_1, .inl (cy 1, 3, .inl (fun _ => 0)))] := hD
  refine W.widen (k := 1) (n := 3) (Nat.le_of_ble_eq_true rfl) (Nat.le_of_ble_eq_true rfl) ?_
  refine va_putF (D := D) (ci := 6) (v := .ref q_1) (ty := .array .int) (C := RX6) (T := TX6) (N := 9) hx hb hg i_X6 tyX6 tyX6_ok nmX6 hown hK hP hD hS 0 rfl rfl 0 (by decide) (hg _ m_584) (fun _ h9 => h9) rfl hin rfl (by decide +kernel) rfl rfl (Nat.le_of_ble_eq_true rfl) dX6_init_8 (fun H locs hP hD hS => ?_)
  have hP : va_P D vwCl [(o0, .inr (6, [.ref q_1, .null, .null, .null, .null, .null, .null, .null, .int 0])), (co0, .inr (0, [.ref cr0, .ref cr1, cv2])), (q_1, .inl (cy 1, 3, .inl (fun _ => 0)))] H := hP
  have hD : va_D A [(o0, .inr (6, [.ref q_1, .null, .null, .null, .null, .null, .null, .null, .int 0])), (co0, .inr (0, [.ref cr0, .ref cr1, cv2])), (q_1, .inl (cy 1, 3, .inl (fun _ => 0)))] := hD
  have hP := hP.sub (ws' := [(o0, .inr (6, [.ref q_1, .null, .null, .null, .null, .null, .null, .null, .int 0])), (co0, .inr (0, [.ref cr0, .ref cr1, cv2]))]) [0, 1] rfl
  have hD := hD.sub (ws' := [(o0, .inr (6, [.ref q_1, .null, .null, .null, .null, .null, .null, .null, .int 0])), (co0, .inr (0, [.ref cr0, .ref cr1, cv2]))]) [0, 1] (by decide) rfl
  refine lv_aload_n hx hb dX6_init_11 rfl (lv_at hl 0 rfl) ?_
  refine lv_iconst (v := 3) hx hb dX6_init_12 (by decide) ?_
  refine x_newa (atype := .int) (ty := .int) (a0 := (3, .inl (fun _ => 0))) (N' := 3) hx hb (hg _ m_316) rfl hK 1 rfl one_int hP hD hS hA (fun _ => rfl) (by decide) (by decide) (by decide) (by decide) (by decide) dX6_init_13 (fun q_2 H hP hD hS => ?_)
  have hP : va_P D vwCl [(o0, .inr (6, [.ref q_1, .null, .null, .null, .null, .null, .null, .null, .int 0])), (co0, .inr (0, [.ref cr0, .ref cr1, cv2])), (q_2, .inl (cy 1, 3, .inl (fun _ => 0)))] H := hP
  have hD : va_D A [(o0, .inr (6, [.ref q_1, .null, .null, .null, .null, .null, .null, .null, .int 0])), (co0, .inr (0, [.ref cr0, .ref cr1, cv2])), (q_2, .inl (cy 1, 3, .inl (fun _ => 0)))] := hD
  refine W.widen (k := 2) (n := 6) (Nat.le_of_ble_eq_true rfl) (Nat.le_of_ble_eq_true rfl) ?_
  refine va_putF (D := D) (ci := 6) (v := .ref q_2) (ty := .array .int) (C := RX6) (T := TX6) (N := 9) hx hb hg i_X6 tyX6 tyX6_ok nmX6 hown hK hP hD hS 0 rfl rfl 3 (by decide) (hg _ m_588) (fun _ h9 => h9) rfl hin rfl (by decide +kernel) rfl rfl (Nat.le_of_ble_eq_true rfl) dX6_init_15 (fun H locs hP hD hS => ?_)
  have hP : va_P D vwCl [(o0, .inr (6, [.ref q_1, .null, .null, .ref q_2, .null, .null, .null, .null, .int 0])), (co0, .inr (0, [.ref cr0, .ref cr1, cv2])), (q_2, .inl (cy 1, 3, .inl (fun _ => 0)))] H := hP
  have hD : va_D A [(o0, .inr (6, [.ref q_1, .null, .null, .ref q_2, .null, .null, .null, .null, .int 0])), (co0, .inr (0, [.ref cr0, .ref cr1, cv2])), (q_2, .inl (cy 1, 3, .inl (fun _ => 0)))] := hD
  have hP := hP.sub (ws' := [(o0, .inr (6, [.ref q_1, .null, .null, .ref q_2, .null, .null, .null, .null, .int 0])), (co0, .inr (0, [.ref cr0, .ref cr1, cv2]))]) [0, 1] rfl
  have hD := hD.sub (ws' := [(o0, .inr (6, [.ref q_1, .null, .null, .ref q_2, .null, .null, .null, .null, .int 0])), (co0, .inr (0, [.ref cr0, .ref cr1, cv2]))]) [0, 1] (by decide) rfl
  refine lv_aload_n hx hb dX6_init_18 rfl (lv_at hl 0 rfl) ?_
  refine lv_iconst (v := 4) hx hb dX6_init_19 (by decide) ?_
  refine x_newa (atype := .int) (ty := .int) (a0 := (4, .inl (fun _ => 0))) (N' := 4) hx hb (hg _ m_316) rfl hK 1 rfl one_int hP hD hS hA (fun _ => rfl) (by decide) (by decide) (by decide) (by decide) (by decide) dX6_init_20 (fun q_3 H hP hD hS => ?_)
  have hP : va_P D vwCl [(o0, .inr (6, [.ref q_1, .null, .null, .ref q_2, .null, .null, .null, .null, .int 0])), (co0, .inr (0, [.ref cr0, .ref cr1, cv2])), (q_3, .inl (cy 1, 4, .inl (fun _ => 0)))] H := hP
  have hD : va_D A [(o0, .inr (6, [.ref q_1, .null, .null, .ref q_2, .null, .null, .null, .null, .int 0])), (co0, .inr (0, [.ref cr0, .ref cr1, cv2])), (q_3, .inl (cy 1, 4, .inl (fun _ => 0)))] := hD
  refine W.widen (k := 3) (n := 10) (Nat.le_of_ble_eq_true rfl) (Nat.le_of_ble_eq_true rfl) ?_
  refine va_putF (D := D) (ci := 6) (v := .ref q_3) (ty := .array .int) (C := RX6) (T := TX6) (N := 9) hx hb hg i_X6 tyX6 tyX6_ok nmX6 hown hK hP hD hS 0 rfl rfl 4 (by decide) (hg _ m_589) (fun _ h9 => h9) rfl hin rfl (by decide +kernel) rfl rfl (Nat.le_of_ble_eq_true rfl) dX6_init_22 (fun H locs hP hD hS => ?_)
  have hP : va_P D vwCl [(o0, .inr (6, [.ref q_1, .null, .null, .ref q_2, .ref q_3, .null, .null, .null, .int 0])), (co0, .inr (0, [.ref cr0, .ref cr1, cv2])), (q_3, .inl (cy 1, 4, .inl (fun _ => 0)))] H := hP
  have hD : va_D A [(o0, .inr (6, [.ref q_1, .null, .null, .ref q_2, .ref q_3, .null, .null, .null, .int 0])), (co0, .inr (0, [.ref cr0, .ref cr1, cv2])), (q_3, .inl (cy 1, 4, .inl (fun _ => 0)))] := hD
  have hP := hP.sub (ws' := [(o0, .inr (6, [.ref q_1, .null, .null, .ref q_2, .ref q_3, .null, .null, .null, .int 0])), (co0, .inr (0, [.ref cr0, .ref cr1, cv2]))]) [0, 1] rfl
  have hD := hD.sub (ws' := [(o0, .inr (6, [.ref q_1, .null, .null, .ref q_2, .ref q_3, .null, .null, .null, .int 0])), (co0, .inr (0, [.ref cr0, .ref cr1, cv2]))]) [0, 1] (by decide) rfl
  refine lv_aload_n hx hb dX6_init_25 rfl (lv_at hl 0 rfl) ?_
  refine lv_bipush (v := 40) hx hb dX6_init_26 (by decide) ?_
  refine x_newa (atype := .int) (ty := .int) (a0 := (40, .inl (fun _ => 0))) (N' := 40) hx hb (hg _ m_316) rfl hK 1 rfl one_int hP hD hS hA (fun _ => rfl) (by decide) (by decide) (by decide) (by decide) (by decide) dX6_init_28 (fun q_4 H hP hD hS => ?_)
  have hP : va_P D vwCl [(o0, .inr (6, [.ref q_1, .null, .null, .ref q_2, .ref q_3, .null, .null, .null, .int 0])), (co0, .inr (0, [.ref cr0, .ref cr1, cv2])), (q_4, .inl (cy 1, 40, .inl (fun _ => 0)))] H := hP
  have hD : va_D A [(o0, .inr (6, [.ref q_1, .null, .null, .ref q_2, .ref q_3, .null, .null, .null, .int 0])), (co0, .inr (0, [.ref cr0, .ref cr1, cv2])), (q_4, .inl (cy 1, 40, .inl (fun _ => 0)))] := hD
  refine W.widen (k := 4) (n := 50) (Nat.le_of_ble_eq_true rfl) (Nat.le_of_ble_eq_true rfl) ?_
  refine va_putF (D := D) (ci := 6) (v := .ref q_4) (ty := .array .int) (C := RX6) (T := TX6) (N := 9) hx hb hg i_X6 tyX6 tyX6_ok nmX6 hown hK hP hD hS 0 rfl rfl 5 (by decide) (hg _ m_590) (fun _ h9 => h9) rfl hin rfl (by decide +kernel) rfl rfl (Nat.le_of_ble_eq_true rfl) dX6_init_30 (fun H locs hP hD hS => ?_)
  have hP : va_P D vwCl [(o0, .inr (6, [.ref q_1, .null, .null, .ref q_2, .ref q_3, .ref q_4, .null, .null, .int 0])), (co0, .inr (0, [.ref cr0, .ref cr1, cv2])), (q_4, .inl (cy 1, 40, .inl (fun _ => 0)))] H := hP
  have hD : va_D A [(o0, .inr (6, [.ref q_1, .null, .null, .ref q_2, .ref q_3, .ref q_4, .null, .null, .int 0])), (co0, .inr (0, [.ref cr0, .ref cr1, cv2])), (q_4, .inl (cy 1, 40, .inl (fun _ => 0)))] := hD
  have hP := hP.sub (ws' := [(o0, .inr (6, [.ref q_1, .null, .null, .ref q_2, .ref q_3, .ref q_4, .null, .null, .int 0])), (co0, .inr (0, [.ref cr0, .ref cr1, cv2]))]) [0, 1] rfl
  have hD := hD.sub (ws' := [(o0, .inr (6, [.ref q_1, .null, .null, .ref q_2, .ref q_3, .ref q_4, .null, .null, .int 0])), (co0, .inr (0, [.ref cr0, .ref cr1, cv2]))]) [0, 1] (by decide) rfl
  refine lv_aload_n hx hb dX6_init_33 rfl (lv_at hl 0 rfl) ?_
  refine lv_aload_n hx hb dX6_init_34 rfl (lv_at hl 1 rfl) ?_
  refine va_get (D := D) (ci := 0) (v := .ref cr0) (C := RX0) (T := TX0) (N := 3) hx hb hg i_X0 hown hK hP 1 rfl rfl 0 (by decide) (hg _ m_532) (fun _ h9 => h9) rfl dX6_init_35 ?_
  refine va_putF (D := D) (ci := 6) (v := .ref cr0) (ty := .array (.object "CliffJudges$Ear")) (C := RX6) (T := TX6) (N := 9) hx hb hg i_X6 tyX6 tyX6_ok nmX6 hown hK hP hD hS 0 rfl rfl 1 (by decide) (hg _ m_586) (fun _ h9 => h9) rfl hin rfl (by decide +kernel) rfl rfl (Nat.le_of_ble_eq_true rfl) dX6_init_38 (fun H locs hP hD hS => ?_)
  have hP : va_P D vwCl [(o0, .inr (6, [.ref q_1, .ref cr0, .null, .ref q_2, .ref q_3, .ref q_4, .null, .null, .int 0])), (co0, .inr (0, [.ref cr0, .ref cr1, cv2]))] H := hP
  have hD : va_D A [(o0, .inr (6, [.ref q_1, .ref cr0, .null, .ref q_2, .ref q_3, .ref q_4, .null, .null, .int 0])), (co0, .inr (0, [.ref cr0, .ref cr1, cv2]))] := hD
  refine lv_aload_n hx hb dX6_init_41 rfl (lv_at hl 0 rfl) ?_
  refine lv_aload_n hx hb dX6_init_42 rfl (lv_at hl 1 rfl) ?_
  refine va_get (D := D) (ci := 0) (v := .ref cr1) (C := RX0) (T := TX0) (N := 3) hx hb hg i_X0 hown hK hP 1 rfl rfl 1 (by decide) (hg _ m_535) (fun _ h9 => h9) rfl dX6_init_43 ?_
  refine va_putF (D := D) (ci := 6) (v := .ref cr1) (ty := .array .int) (C := RX6) (T := TX6) (N := 9) hx hb hg i_X6 tyX6 tyX6_ok nmX6 hown hK hP hD hS 0 rfl rfl 2 (by decide) (hg _ m_587) (fun _ h9 => h9) rfl hin rfl (by decide +kernel) rfl rfl (Nat.le_of_ble_eq_true rfl) dX6_init_46 (fun H locs hP hD hS => ?_)
  have hP : va_P D vwCl [(o0, .inr (6, [.ref q_1, .ref cr0, .ref cr1, .ref q_2, .ref q_3, .ref q_4, .null, .null, .int 0])), (co0, .inr (0, [.ref cr0, .ref cr1, cv2]))] H := hP
  have hD : va_D A [(o0, .inr (6, [.ref q_1, .ref cr0, .ref cr1, .ref q_2, .ref q_3, .ref q_4, .null, .null, .int 0])), (co0, .inr (0, [.ref cr0, .ref cr1, cv2]))] := hD
  exact x_vret hQ hx hb hr hlocks hK hP hD hS dX6_init_49 () (trivial) [1] (by decide) rfl (Nat.le_of_ble_eq_true rfl) (Nat.le_of_ble_eq_true rfl)
