def mL15 : List (Option Cond) := [some (Cond.fieldLink RX6 43 "CliffJudges$Hills" "counts" "[I"), some (Cond.fieldLink RX6 18 "CliffJudges$Rhymes" "nearest" "[I"), some (Cond.fieldLink RX6 35 "CliffJudges$Rhymes" "hills" "LCliffJudges$Hills;"), some (Cond.fieldLink RX6 39 "CliffJudges$Rhymes" "shout" "LCliffJudges$Shout;"), some (Cond.fieldLink RX6 77 "CliffJudges$Shout" "place" "I"), some (Cond.methodLink RX6 80 yX4_far)]
set_option maxRecDepth 100000 in
theorem mP15 : pick [330, 259, 2, 1, 41, 611] lw_tbl = mL15 := rfl
set_option maxRecDepth 100000 in
theorem mG15 : mL15.all (fun o => o.all goodWord) = true := rfl
theorem m_330 : (Cond.fieldLink RX6 43 "CliffJudges$Hills" "counts" "[I") ∈ gT := gp mP15 mG15 0 rfl
theorem m_589 : (Cond.fieldLink RX6 18 "CliffJudges$Rhymes" "nearest" "[I") ∈ gT := gp mP15 mG15 1 rfl
theorem m_591 : (Cond.fieldLink RX6 35 "CliffJudges$Rhymes" "hills" "LCliffJudges$Hills;") ∈ gT := gp mP15 mG15 2 rfl
theorem m_592 : (Cond.fieldLink RX6 39 "CliffJudges$Rhymes" "shout" "LCliffJudges$Shout;") ∈ gT := gp mP15 mG15 3 rfl
theorem m_633 : (Cond.fieldLink RX6 77 "CliffJudges$Shout" "place" "I") ∈ gT := gp mP15 mG15 4 rfl
theorem m_1244 : (Cond.methodLink RX6 80 yX4_far) ∈ gT := gp mP15 mG15 5 rfl
def nOK (f : Nat → Int32) (c : Nat) : Prop := ∀ k, k < c → ∃ j : Nat, j < c ∧ f k = nI j
def hOK (f : Nat → Int32) (i r : Nat) : Prop := ∀ k, k ≤ i → k ≠ r → ∃ j : Nat, j < i ∧ f k = nI j
theorem nOK_at {f : Nat → Int32} {c : Nat} (h : nOK f c) {i : Nat} (hi : i < c) (hc : c < 2 ^ 31) : ∃ j : Nat, j < c ∧ f (nI i).toNatClampNeg = nI j := by
  rw [nI_clamp (by omega)]; exact h i hi
theorem hOK_at {f : Nat → Int32} {i r : Nat} (h : hOK f i r) {k : Nat} (hk : k ≤ i) (hr : k ≠ r) (hc : i < 2 ^ 31) : ∃ j : Nat, j < i ∧ f (nI k).toNatClampNeg = nI j := by
  rw [nI_clamp (by omega)]; exact h k hk hr
theorem hOK_in {f : Nat → Int32} {i : Nat} (h : nOK f i) : hOK f i i := fun k hk hr => h k (by omega)
theorem hOK_mv {f : Nat → Int32} {i r j : Nat} (h : hOK f i r) (h1 : 1 ≤ r) (hr : r ≤ i) (hi : i < 2 ^ 31) (hj : j < i) : hOK (upd f (nI r).toNatClampNeg (nI j)) i (r - 1) := by
  intro k hk hk2
  rw [nI_clamp (by omega)]
  by_cases e : k = r
  · exact ⟨j, hj, by rw [e]; exact pk_us⟩
  · rw [pk_un e]; exact h k hk e
theorem hOK_fill {f : Nat → Int32} {i r : Nat} (h : hOK f i r) (hr : r ≤ i) (hi : i < 2 ^ 31) : nOK (upd f (nI r).toNatClampNeg (nI i)) (i + 1) := by
  intro k hk
  rw [nI_clamp (by omega)]
  by_cases e : k = r
  · exact ⟨i, by omega, by rw [e]; exact pk_us⟩
  · rw [pk_un e]; obtain ⟨j, hj, ej⟩ := h k (by omega) e; exact ⟨j, by omega, ej⟩
theorem gdX6_orderCliffs_0 : decode cX6_orderCliffs 0 = .ok (.iconst 0, 1) ∧ decode cX6_orderCliffs 1 = .ok (.istore_n 1, 1) ∧ decode cX6_orderCliffs 2 = .ok (.iload_n 1, 1) ∧ decode cX6_orderCliffs 3 = .ok (.aload_n 0, 1) ∧ decode cX6_orderCliffs 4 = .ok (.getfield 35, 3) := by decide +kernel
theorem dX6_orderCliffs_0 : decode cX6_orderCliffs 0 = .ok (.iconst 0, 1) := gdX6_orderCliffs_0.1
theorem dX6_orderCliffs_1 : decode cX6_orderCliffs 1 = .ok (.istore_n 1, 1) := gdX6_orderCliffs_0.2.1
theorem dX6_orderCliffs_2 : decode cX6_orderCliffs 2 = .ok (.iload_n 1, 1) := gdX6_orderCliffs_0.2.2.1
theorem dX6_orderCliffs_3 : decode cX6_orderCliffs 3 = .ok (.aload_n 0, 1) := gdX6_orderCliffs_0.2.2.2.1
theorem dX6_orderCliffs_4 : decode cX6_orderCliffs 4 = .ok (.getfield 35, 3) := gdX6_orderCliffs_0.2.2.2.2
set_option maxRecDepth 20000 in
theorem i_X6 : ∀ w ∈ u_ws RX6 TX6 9, w ∈ gT := gin [594, 596, 598, 600, 602, 604, 606, 608, 610] (by decide +kernel) (by decide +kernel)
theorem gdX6_orderCliffs_7 : decode cX6_orderCliffs 7 = .ok (.getfield 43, 3) ∧ decode cX6_orderCliffs 10 = .ok (.iconst 1, 1) ∧ decode cX6_orderCliffs 11 = .ok (.iaload, 1) ∧ decode cX6_orderCliffs 12 = .ok (.if_icmp .ge 84, 3) ∧ decode cX6_orderCliffs 96 = .ok (.return_, 1) ∧ decode cX6_orderCliffs 15 = .ok (.iload_n 1, 1) ∧ decode cX6_orderCliffs 16 = .ok (.istore_n 2, 1) ∧ decode cX6_orderCliffs 17 = .ok (.aload_n 0, 1) ∧ decode cX6_orderCliffs 18 = .ok (.getfield 35, 3) ∧ decode cX6_orderCliffs 21 = .ok (.iload_n 1, 1) ∧ decode cX6_orderCliffs 22 = .ok (.aload_n 0, 1) ∧ decode cX6_orderCliffs 23 = .ok (.getfield 39, 3) := by decide +kernel
theorem dX6_orderCliffs_7 : decode cX6_orderCliffs 7 = .ok (.getfield 43, 3) := gdX6_orderCliffs_7.1
theorem dX6_orderCliffs_10 : decode cX6_orderCliffs 10 = .ok (.iconst 1, 1) := gdX6_orderCliffs_7.2.1
theorem dX6_orderCliffs_11 : decode cX6_orderCliffs 11 = .ok (.iaload, 1) := gdX6_orderCliffs_7.2.2.1
theorem dX6_orderCliffs_12 : decode cX6_orderCliffs 12 = .ok (.if_icmp .ge 84, 3) := gdX6_orderCliffs_7.2.2.2.1
theorem dX6_orderCliffs_96 : decode cX6_orderCliffs 96 = .ok (.return_, 1) := gdX6_orderCliffs_7.2.2.2.2.1
theorem dX6_orderCliffs_15 : decode cX6_orderCliffs 15 = .ok (.iload_n 1, 1) := gdX6_orderCliffs_7.2.2.2.2.2.1
theorem dX6_orderCliffs_16 : decode cX6_orderCliffs 16 = .ok (.istore_n 2, 1) := gdX6_orderCliffs_7.2.2.2.2.2.2.1
theorem dX6_orderCliffs_17 : decode cX6_orderCliffs 17 = .ok (.aload_n 0, 1) := gdX6_orderCliffs_7.2.2.2.2.2.2.2.1
theorem dX6_orderCliffs_18 : decode cX6_orderCliffs 18 = .ok (.getfield 35, 3) := gdX6_orderCliffs_7.2.2.2.2.2.2.2.2.1
theorem dX6_orderCliffs_21 : decode cX6_orderCliffs 21 = .ok (.iload_n 1, 1) := gdX6_orderCliffs_7.2.2.2.2.2.2.2.2.2.1
theorem dX6_orderCliffs_22 : decode cX6_orderCliffs 22 = .ok (.aload_n 0, 1) := gdX6_orderCliffs_7.2.2.2.2.2.2.2.2.2.2.1
theorem dX6_orderCliffs_23 : decode cX6_orderCliffs 23 = .ok (.getfield 39, 3) := gdX6_orderCliffs_7.2.2.2.2.2.2.2.2.2.2.2
theorem dX6_orderCliffs_26 : decode cX6_orderCliffs 26 = .ok (.getfield 77, 3) := by decide +kernel
theorem dX6_orderCliffs_29 : decode cX6_orderCliffs 29 = .ok (.invokevirtual 80, 3) := by decide +kernel
theorem k_X6_80 : xV RX6 RX4 80 yX4_far cX4_far 3 (some .int) 2 := ⟨⟨m_1244, m_1023, m_1024, m_137, m_1025⟩, rfl, by decide, by decide, by decide +kernel⟩
theorem gdX6_orderCliffs_32 : decode cX6_orderCliffs 32 = .ok (.istore_n 3, 1) ∧ decode cX6_orderCliffs 33 = .ok (.iload_n 2, 1) ∧ decode cX6_orderCliffs 34 = .ok (.ifCond .le 49, 3) ∧ decode cX6_orderCliffs 83 = .ok (.aload_n 0, 1) ∧ decode cX6_orderCliffs 84 = .ok (.getfield 18, 3) ∧ decode cX6_orderCliffs 87 = .ok (.iload_n 2, 1) ∧ decode cX6_orderCliffs 88 = .ok (.iload_n 1, 1) ∧ decode cX6_orderCliffs 89 = .ok (.iastore, 1) ∧ decode cX6_orderCliffs 90 = .ok (.iinc 1 1, 3) ∧ decode cX6_orderCliffs 93 = .ok (.goto (-91), 3) ∧ decode cX6_orderCliffs 37 = .ok (.aload_n 0, 1) ∧ decode cX6_orderCliffs 38 = .ok (.getfield 35, 3) := by decide +kernel
theorem dX6_orderCliffs_32 : decode cX6_orderCliffs 32 = .ok (.istore_n 3, 1) := gdX6_orderCliffs_32.1
theorem dX6_orderCliffs_33 : decode cX6_orderCliffs 33 = .ok (.iload_n 2, 1) := gdX6_orderCliffs_32.2.1
theorem dX6_orderCliffs_34 : decode cX6_orderCliffs 34 = .ok (.ifCond .le 49, 3) := gdX6_orderCliffs_32.2.2.1
theorem dX6_orderCliffs_83 : decode cX6_orderCliffs 83 = .ok (.aload_n 0, 1) := gdX6_orderCliffs_32.2.2.2.1
theorem dX6_orderCliffs_84 : decode cX6_orderCliffs 84 = .ok (.getfield 18, 3) := gdX6_orderCliffs_32.2.2.2.2.1
theorem dX6_orderCliffs_87 : decode cX6_orderCliffs 87 = .ok (.iload_n 2, 1) := gdX6_orderCliffs_32.2.2.2.2.2.1
theorem dX6_orderCliffs_88 : decode cX6_orderCliffs 88 = .ok (.iload_n 1, 1) := gdX6_orderCliffs_32.2.2.2.2.2.2.1
theorem dX6_orderCliffs_89 : decode cX6_orderCliffs 89 = .ok (.iastore, 1) := gdX6_orderCliffs_32.2.2.2.2.2.2.2.1
theorem dX6_orderCliffs_90 : decode cX6_orderCliffs 90 = .ok (.iinc 1 1, 3) := gdX6_orderCliffs_32.2.2.2.2.2.2.2.2.1
theorem dX6_orderCliffs_93 : decode cX6_orderCliffs 93 = .ok (.goto (-91), 3) := gdX6_orderCliffs_32.2.2.2.2.2.2.2.2.2.1
theorem dX6_orderCliffs_37 : decode cX6_orderCliffs 37 = .ok (.aload_n 0, 1) := gdX6_orderCliffs_32.2.2.2.2.2.2.2.2.2.2.1
theorem dX6_orderCliffs_38 : decode cX6_orderCliffs 38 = .ok (.getfield 35, 3) := gdX6_orderCliffs_32.2.2.2.2.2.2.2.2.2.2.2
theorem gdX6_orderCliffs_41 : decode cX6_orderCliffs 41 = .ok (.aload_n 0, 1) ∧ decode cX6_orderCliffs 42 = .ok (.getfield 18, 3) ∧ decode cX6_orderCliffs 45 = .ok (.iload_n 2, 1) ∧ decode cX6_orderCliffs 46 = .ok (.iconst 1, 1) ∧ decode cX6_orderCliffs 47 = .ok (.isub, 1) ∧ decode cX6_orderCliffs 48 = .ok (.iaload, 1) ∧ decode cX6_orderCliffs 49 = .ok (.aload_n 0, 1) ∧ decode cX6_orderCliffs 50 = .ok (.getfield 39, 3) ∧ decode cX6_orderCliffs 53 = .ok (.getfield 77, 3) ∧ decode cX6_orderCliffs 56 = .ok (.invokevirtual 80, 3) ∧ decode cX6_orderCliffs 59 = .ok (.iload_n 3, 1) ∧ decode cX6_orderCliffs 60 = .ok (.if_icmp .le 23, 3) := by decide +kernel
theorem dX6_orderCliffs_41 : decode cX6_orderCliffs 41 = .ok (.aload_n 0, 1) := gdX6_orderCliffs_41.1
theorem dX6_orderCliffs_42 : decode cX6_orderCliffs 42 = .ok (.getfield 18, 3) := gdX6_orderCliffs_41.2.1
theorem dX6_orderCliffs_45 : decode cX6_orderCliffs 45 = .ok (.iload_n 2, 1) := gdX6_orderCliffs_41.2.2.1
theorem dX6_orderCliffs_46 : decode cX6_orderCliffs 46 = .ok (.iconst 1, 1) := gdX6_orderCliffs_41.2.2.2.1
theorem dX6_orderCliffs_47 : decode cX6_orderCliffs 47 = .ok (.isub, 1) := gdX6_orderCliffs_41.2.2.2.2.1
theorem dX6_orderCliffs_48 : decode cX6_orderCliffs 48 = .ok (.iaload, 1) := gdX6_orderCliffs_41.2.2.2.2.2.1
theorem dX6_orderCliffs_49 : decode cX6_orderCliffs 49 = .ok (.aload_n 0, 1) := gdX6_orderCliffs_41.2.2.2.2.2.2.1
theorem dX6_orderCliffs_50 : decode cX6_orderCliffs 50 = .ok (.getfield 39, 3) := gdX6_orderCliffs_41.2.2.2.2.2.2.2.1
theorem dX6_orderCliffs_53 : decode cX6_orderCliffs 53 = .ok (.getfield 77, 3) := gdX6_orderCliffs_41.2.2.2.2.2.2.2.2.1
theorem dX6_orderCliffs_56 : decode cX6_orderCliffs 56 = .ok (.invokevirtual 80, 3) := gdX6_orderCliffs_41.2.2.2.2.2.2.2.2.2.1
theorem dX6_orderCliffs_59 : decode cX6_orderCliffs 59 = .ok (.iload_n 3, 1) := gdX6_orderCliffs_41.2.2.2.2.2.2.2.2.2.2.1
theorem dX6_orderCliffs_60 : decode cX6_orderCliffs 60 = .ok (.if_icmp .le 23, 3) := gdX6_orderCliffs_41.2.2.2.2.2.2.2.2.2.2.2
theorem gdX6_orderCliffs_63 : decode cX6_orderCliffs 63 = .ok (.aload_n 0, 1) ∧ decode cX6_orderCliffs 64 = .ok (.getfield 18, 3) ∧ decode cX6_orderCliffs 67 = .ok (.iload_n 2, 1) ∧ decode cX6_orderCliffs 68 = .ok (.aload_n 0, 1) ∧ decode cX6_orderCliffs 69 = .ok (.getfield 18, 3) ∧ decode cX6_orderCliffs 72 = .ok (.iload_n 2, 1) ∧ decode cX6_orderCliffs 73 = .ok (.iconst 1, 1) ∧ decode cX6_orderCliffs 74 = .ok (.isub, 1) ∧ decode cX6_orderCliffs 75 = .ok (.iaload, 1) ∧ decode cX6_orderCliffs 76 = .ok (.iastore, 1) ∧ decode cX6_orderCliffs 77 = .ok (.iinc 2 (-1), 3) ∧ decode cX6_orderCliffs 80 = .ok (.goto (-47), 3) := by decide +kernel
theorem dX6_orderCliffs_63 : decode cX6_orderCliffs 63 = .ok (.aload_n 0, 1) := gdX6_orderCliffs_63.1
theorem dX6_orderCliffs_64 : decode cX6_orderCliffs 64 = .ok (.getfield 18, 3) := gdX6_orderCliffs_63.2.1
theorem dX6_orderCliffs_67 : decode cX6_orderCliffs 67 = .ok (.iload_n 2, 1) := gdX6_orderCliffs_63.2.2.1
theorem dX6_orderCliffs_68 : decode cX6_orderCliffs 68 = .ok (.aload_n 0, 1) := gdX6_orderCliffs_63.2.2.2.1
theorem dX6_orderCliffs_69 : decode cX6_orderCliffs 69 = .ok (.getfield 18, 3) := gdX6_orderCliffs_63.2.2.2.2.1
theorem dX6_orderCliffs_72 : decode cX6_orderCliffs 72 = .ok (.iload_n 2, 1) := gdX6_orderCliffs_63.2.2.2.2.2.1
theorem dX6_orderCliffs_73 : decode cX6_orderCliffs 73 = .ok (.iconst 1, 1) := gdX6_orderCliffs_63.2.2.2.2.2.2.1
theorem dX6_orderCliffs_74 : decode cX6_orderCliffs 74 = .ok (.isub, 1) := gdX6_orderCliffs_63.2.2.2.2.2.2.2.1
theorem dX6_orderCliffs_75 : decode cX6_orderCliffs 75 = .ok (.iaload, 1) := gdX6_orderCliffs_63.2.2.2.2.2.2.2.2.1
theorem dX6_orderCliffs_76 : decode cX6_orderCliffs 76 = .ok (.iastore, 1) := gdX6_orderCliffs_63.2.2.2.2.2.2.2.2.2.1
theorem dX6_orderCliffs_77 : decode cX6_orderCliffs 77 = .ok (.iinc 2 (-1), 3) := gdX6_orderCliffs_63.2.2.2.2.2.2.2.2.2.2.1
theorem dX6_orderCliffs_80 : decode cX6_orderCliffs 80 = .ok (.goto (-47), 3) := gdX6_orderCliffs_63.2.2.2.2.2.2.2.2.2.2.2
set_option maxHeartbeats 1000000 in
set_option maxRecDepth 100000 in
theorem s_orderCliffs (l : Launch) (D : va_G) (cy : Nat → ClassId) (p0 : Nat) (p1 : Nat) (p2 : Nat) (p3 : Nat) (p4 : Nat) (er : Nat) (ro : Nat) (ch : Nat) (fne : Nat → Int32) (h0 : Nat) (h1 : Nat) (h2 : Nat) (h3 : Nat) (h4 : Nat) (h5 : Nat) (h6 : Nat) (h7 : Nat) (h8 : Nat) (h9 : Nat) (h10 : Nat) (h11 : Nat) (hv0 : Value) (hv1 : Value) (hv2 : Value) (hv3 : Value) (hv4 : Value) (fc : Nat → Int32) (c0 : Nat) (c1 : Nat) (c2 : Nat) (c3 : Nat) (fp : Nat → Int32) (s0 : Nat) (s1 : Nat) (s2 : Nat) (sl : Nat) (spl : Int32) (svo : Int32) (swi : Int32) (sch : Int32) (hcn : cntOK fc c0 c1 c2 c3) (hc0 : c0 ≤ 8) (hc1 : c1 ≤ 4) (hc2 : c2 ≤ 4) (hc3 : c3 ≤ 6) : XMv l D (tyL cy) E0 yX6_orderCliffs cX6_orderCliffs 4 none (rmk 2 0 0) [.ref p0] [wO p0 6 [.ref p1, .ref er, .ref ro, .ref p2, .ref p3, .ref p4, .ref h0, .ref s0, .int (nI ch)], wI (cy 1) p3 4 (fne), wO h0 4 [.ref h1, .ref h2, .ref h3, .ref h4, .ref h5, .ref h6, .ref h7, .ref h8, .ref h9, .ref h10, .ref h11, hv0, hv1, hv2, hv3, hv4], wI (cy 1) h1 4 (fc), wI (cy 1) h3 4 (fp), wO s0 7 [.ref s1, .ref s2, .int (nI sl), .int spl, .int svo, .int swi, .int sch]] (fun (fne2 : Nat → Int32) => (nOK fne2 c1)) (fun (fne2 : Nat → Int32) => [wO p0 6 [.ref p1, .ref er, .ref ro, .ref p2, .ref p3, .ref p4, .ref h0, .ref s0, .int (nI ch)], wI (cy 1) p3 4 (fne2), wO h0 4 [.ref h1, .ref h2, .ref h3, .ref h4, .ref h5, .ref h6, .ref h7, .ref h8, .ref h9, .ref h10, .ref h11, hv0, hv1, hv2, hv3, hv4], wI (cy 1) h1 4 (fc), wI (cy 1) h3 4 (fp), wO s0 7 [.ref s1, .ref s2, .int (nI sl), .int spl, .int svo, .int swi, .int sch]]) := by
  refine XMv.start (by decide) (Nat.le_of_ble_eq_true rfl) ?_
  intro p e s m below meth c args A ls Q hat hQ
  obtain ⟨hx, hb, hr, hml, hown, hg, hlocks, hin, hK, hA, hP, hD, hS, hE, hl⟩ := hat
  have hown : s.vm.findClass RX6 = some m.cls := hown
  have hl : lv_has ls 4 [(0, .ref p0)] := hl
  refine lv_iconst (v := 0) hx hb dX6_orderCliffs_0 (by decide) ?_
  refine lv_istore_n (lv' := [(1, .int 0), (0, .ref p0)]) hx hb dX6_orderCliffs_1 rfl hl (by decide) rfl (fun ls hl => ?_)
  have loop1 : ∀ (zn : Nat) (i1 : Nat) (fa1_1 : Nat → Int32), (i1 ≤ c1) → (nOK fa1_1 i1) → c1 - i1 + 1 ≤ zn → ∀ (H : Heap) (locs : List Loc), va_P D vwCl [wO p0 6 [.ref p1, .ref er, .ref ro, .ref p2, .ref p3, .ref p4, .ref h0, .ref s0, .int (nI ch)], wI (cy 1) p3 4 (fa1_1), wO h0 4 [.ref h1, .ref h2, .ref h3, .ref h4, .ref h5, .ref h6, .ref h7, .ref h8, .ref h9, .ref h10, .ref h11, hv0, hv1, hv2, hv3, hv4], wI (cy 1) h1 4 (fc), wI (cy 1) h3 4 (fp), wO s0 7 [.ref s1, .ref s2, .int (nI sl), .int spl, .int svo, .int swi, .int sch]] H → va_D A [wO p0 6 [.ref p1, .ref er, .ref ro, .ref p2, .ref p3, .ref p4, .ref h0, .ref s0, .int (nI ch)], wI (cy 1) p3 4 (fa1_1), wO h0 4 [.ref h1, .ref h2, .ref h3, .ref h4, .ref h5, .ref h6, .ref h7, .ref h8, .ref h9, .ref h10, .ref h11, hv0, hv1, hv2, hv3, hv4], wI (cy 1) h1 4 (fc), wI (cy 1) h3 4 (fp), wO s0 7 [.ref s1, .ref s2, .int (nI sl), .int spl, .int svo, .int swi, .int sch]] → va_S A s.heap H locs → ∀ ls : Array Slot, lv_has ls 4 [(1, .int (nI i1)), (0, .ref p0)] → W p l e (rmk 2 0 0) s m args below meth c H locs 0 0 Q (F0 m 2 ls []) := by
    try clear hP hD hS
    intro zn
    induction zn with
    | zero => intro i1 fa1_1 _ _ hz; exact absurd hz (by omega)
    | succ zn ih1 =>
      intro i1 fa1_1 hf0_1 hf1_1 hmu1 H locs hP hD hS ls hl
      refine lv_iload_n hx hb dX6_orderCliffs_2 rfl (lv_at hl 0 rfl) ?_
      refine lv_aload_n hx hb dX6_orderCliffs_3 rfl (lv_at hl 1 rfl) ?_
      refine va_get (D := D) (ci := 6) (v := .ref h0) (C := RX6) (T := TX6) (N := 9) hx hb hg i_X6 hown hK hP 0 rfl rfl 6 (by decide) (hg _ m_591) (fun _ h9 => h9) rfl dX6_orderCliffs_4 ?_
      refine va_get (D := D) (ci := 4) (v := .ref h1) (C := RX4) (T := TX4) (N := 16) hx hb hg i_X4 hown hK hP 2 rfl rfl 0 (by decide) (hg _ m_330) (fun _ h9 => h9) rfl dX6_orderCliffs_7 ?_
      refine lv_iconst (v := 1) hx hb dX6_orderCliffs_10 (by decide) ?_
      refine va_iald hx hb hK hP 3 1 rfl rfl (by unfold vp_in; decide) dX6_orderCliffs_11 ?_
      refine lv_topi (fun y_2 hy_2 => ?_)
      obtain rfl : y_2 = nI c1 := hy_2.trans hcn.2.1
      refine lv_icmp_ge (tgt := 96) hx hb dX6_orderCliffs_12 (by decide) (fun c_3 => ?_) (fun c_3 => ?_)
      · have q_4 : c1 ≤ i1 := q_le (a := c1) (b := i1) rfl rfl (by omega) (by omega) c_3
        exact x_vret hQ hx hb hr hlocks hK hP hD hS dX6_orderCliffs_96 fa1_1 ((show nOK fa1_1 c1 from fun k hk => by obtain ⟨j, hj, ej⟩ := hf1_1 k (by omega); exact ⟨j, by omega, ej⟩)) [0, 1, 2, 3, 4, 5] (by decide +kernel) rfl (Nat.le_of_ble_eq_true rfl) (Nat.le_of_ble_eq_true rfl)
      · have q_4 : i1 < c1 := q_nle (a := c1) (b := i1) rfl rfl (by omega) (by omega) c_3
        have hn_1 := hf1_1
        refine lv_iload_n hx hb dX6_orderCliffs_15 rfl (lv_at hl 0 rfl) ?_
        refine lv_istore_n (lv' := [(2, .int (nI i1)), (1, .int (nI i1)), (0, .ref p0)]) hx hb dX6_orderCliffs_16 rfl hl (by decide) rfl (fun ls hl => ?_)
        refine lv_aload_n hx hb dX6_orderCliffs_17 rfl (lv_at hl 2 rfl) ?_
        refine va_get (D := D) (ci := 6) (v := .ref h0) (C := RX6) (T := TX6) (N := 9) hx hb hg i_X6 hown hK hP 0 rfl rfl 6 (by decide) (hg _ m_591) (fun _ h9 => h9) rfl dX6_orderCliffs_18 ?_
        refine lv_iload_n hx hb dX6_orderCliffs_21 rfl (lv_at hl 1 rfl) ?_
        refine lv_aload_n hx hb dX6_orderCliffs_22 rfl (lv_at hl 2 rfl) ?_
        refine va_get (D := D) (ci := 6) (v := .ref s0) (C := RX6) (T := TX6) (N := 9) hx hb hg i_X6 hown hK hP 0 rfl rfl 7 (by decide) (hg _ m_592) (fun _ h9 => h9) rfl dX6_orderCliffs_23 ?_
        refine va_get (D := D) (ci := 7) (v := .int spl) (C := RX7) (T := TX7) (N := 7) hx hb hg i_X7 hown hK hP 5 rfl rfl 3 (by decide) (hg _ m_633) (fun _ h9 => h9) rfl dX6_orderCliffs_26 ?_
        refine x_callVi (q := (RX4, TX4, 16)) (ci := 4) (q0 := 0) (wr := [wO p0 6 [.ref p1, .ref er, .ref ro, .ref p2, .ref p3, .ref p4, .ref h0, .ref s0, .int (nI ch)], wI (cy 1) p3 4 (fa1_1), wI (cy 1) h1 4 (fc), wO s0 7 [.ref s1, .ref s2, .int (nI sl), .int spl, .int svo, .int swi, .int sch]]) (rest := []) ⟨hx, hb, hml, hown, hg, hl.1⟩ k_X6_80 (s_far l D cy h0 h1 h2 h3 h4 h5 h6 h7 h8 h9 h10 h11 hv0 hv1 hv2 hv3 hv4 fp i1 spl (by omega)) E0_blind hK hP hD hS hA [2, 4] [0, 1, 3, 5] ⟨rfl, rfl, by decide +kernel, by decide +kernel, by decide +kernel⟩ rfl rfl (fun _ _ _ => trivial) dX6_orderCliffs_29 rfl rfl (Nat.le_of_ble_eq_true rfl) ⟨Nat.le_of_ble_eq_true rfl, Nat.le_of_ble_eq_true rfl⟩ ⟨Nat.le_of_ble_eq_true rfl, Nat.le_of_ble_eq_true rfl⟩ (fun zr5 zu5 H locs hw5 hP9 hD9 hS9 => ?_)
        clear hP hD hS
        refine reW [wO p0 6 [.ref p1, .ref er, .ref ro, .ref p2, .ref p3, .ref p4, .ref h0, .ref s0, .int (nI ch)], wI (cy 1) p3 4 (fa1_1), wI (cy 1) h1 4 (fc), wO s0 7 [.ref s1, .ref s2, .int (nI sl), .int spl, .int svo, .int swi, .int sch], wO h0 4 [.ref h1, .ref h2, .ref h3, .ref h4, .ref h5, .ref h6, .ref h7, .ref h8, .ref h9, .ref h10, .ref h11, hv0, hv1, hv2, hv3, hv4], wI (cy 1) h3 4 (fp)] hP9 hD9 hS9 (fun hP hD hS => ?_)
        clear hP9 hD9 hS9
        refine W.widen (k := 0) (n := 0) (Nat.le_of_ble_eq_true rfl) (Nat.le_of_ble_eq_true rfl) ?_
        replace hw5 : True := hw5
        refine lv_istore_n (lv' := [(3, .int zr5), (2, .int (nI i1)), (1, .int (nI i1)), (0, .ref p0)]) hx hb dX6_orderCliffs_32 rfl hl (by decide) rfl (fun ls hl => ?_)
        have loop6 : ∀ (zn : Nat) (rk6 : Nat) (fa1_6 : Nat → Int32), (rk6 ≤ i1) → (hOK fa1_6 i1 rk6) → rk6 + 1 ≤ zn → ∀ (H : Heap) (locs : List Loc), va_P D vwCl [wO p0 6 [.ref p1, .ref er, .ref ro, .ref p2, .ref p3, .ref p4, .ref h0, .ref s0, .int (nI ch)], wI (cy 1) p3 4 (fa1_6), wI (cy 1) h1 4 (fc), wO s0 7 [.ref s1, .ref s2, .int (nI sl), .int spl, .int svo, .int swi, .int sch], wO h0 4 [.ref h1, .ref h2, .ref h3, .ref h4, .ref h5, .ref h6, .ref h7, .ref h8, .ref h9, .ref h10, .ref h11, hv0, hv1, hv2, hv3, hv4], wI (cy 1) h3 4 (fp)] H → va_D A [wO p0 6 [.ref p1, .ref er, .ref ro, .ref p2, .ref p3, .ref p4, .ref h0, .ref s0, .int (nI ch)], wI (cy 1) p3 4 (fa1_6), wI (cy 1) h1 4 (fc), wO s0 7 [.ref s1, .ref s2, .int (nI sl), .int spl, .int svo, .int swi, .int sch], wO h0 4 [.ref h1, .ref h2, .ref h3, .ref h4, .ref h5, .ref h6, .ref h7, .ref h8, .ref h9, .ref h10, .ref h11, hv0, hv1, hv2, hv3, hv4], wI (cy 1) h3 4 (fp)] → va_S A s.heap H locs → ∀ ls : Array Slot, lv_has ls 4 [(3, .int zr5), (2, .int (nI rk6)), (1, .int (nI i1)), (0, .ref p0)] → W p l e (rmk 2 0 0) s m args below meth c H locs 0 0 Q (F0 m 33 ls []) := by
          try clear hP hD hS
          intro zn
          induction zn with
          | zero => intro rk6 fa1_6 _ _ hz; exact absurd hz (by omega)
          | succ zn ih6 =>
            intro rk6 fa1_6 hf0_6 hf1_6 hmu6 H locs hP hD hS ls hl
            refine lv_iload_n hx hb dX6_orderCliffs_33 rfl (lv_at hl 1 rfl) ?_
            refine lv_if_le (tgt := 83) hx hb dX6_orderCliffs_34 (by decide) (fun c_7 => ?_) (fun c_7 => ?_)
            · have q_8 : rk6 ≤ 0 := q_le (a := rk6) (b := 0) rfl rfl (by omega) (by omega) c_7
              refine lv_aload_n hx hb dX6_orderCliffs_83 rfl (lv_at hl 3 rfl) ?_
              refine va_get (D := D) (ci := 6) (v := .ref p3) (C := RX6) (T := TX6) (N := 9) hx hb hg i_X6 hown hK hP 0 rfl rfl 4 (by decide) (hg _ m_589) (fun _ h9 => h9) rfl dX6_orderCliffs_84 ?_
              refine lv_iload_n hx hb dX6_orderCliffs_87 rfl (lv_at hl 1 rfl) ?_
              refine lv_iload_n hx hb dX6_orderCliffs_88 rfl (lv_at hl 2 rfl) ?_
              refine va_iast hx hb hK hP hD hS 1 1 rfl rfl (vp_in_nI (by omega) (by decide)) dX6_orderCliffs_89 (fun H locs hP9 hD9 hS9 => ?_)
              clear hP hD hS
              obtain ⟨g_9, eg_9⟩ : ∃ y, upd fa1_6 (nI rk6 : Int32).toNatClampNeg (nI i1) = y := ⟨_, rfl⟩
              rw [eg_9] at hP9 hD9
              refine reW [wO p0 6 [.ref p1, .ref er, .ref ro, .ref p2, .ref p3, .ref p4, .ref h0, .ref s0, .int (nI ch)], wI (cy 1) p3 4 (g_9), wI (cy 1) h1 4 (fc), wO s0 7 [.ref s1, .ref s2, .int (nI sl), .int spl, .int svo, .int swi, .int sch], wO h0 4 [.ref h1, .ref h2, .ref h3, .ref h4, .ref h5, .ref h6, .ref h7, .ref h8, .ref h9, .ref h10, .ref h11, hv0, hv1, hv2, hv3, hv4], wI (cy 1) h3 4 (fp)] hP9 hD9 hS9 (fun hP hD hS => ?_)
              clear hP9 hD9 hS9
              have hn_10 := hOK_fill (r := rk6) (i := i1) hf1_6 (by omega) (by omega)
              rw [eg_9] at hn_10
              refine lv_iinc (v := nI (i1 + 1)) (lv' := [(1, .int (nI (i1 + 1))), (3, .int zr5), (2, .int (nI rk6)), (0, .ref p0)]) hx hb dX6_orderCliffs_90 hl (k := 2) rfl (nI_add i1 1) (by decide) rfl (fun ls hl => ?_)
              refine lv_goto (tgt := 2) hx hb dX6_orderCliffs_93 (by decide) ?_
              exact ih1  ((i1 + 1)) g_9 (by omega) (hn_10) (by omega) _ _ (hP.sub [0, 1, 4, 2, 5, 3] rfl) (hD.sub [0, 1, 4, 2, 5, 3] (by decide +kernel) rfl) hS ls (lv_sub hl [0, 3] rfl)
            · have q_8 : 0 < rk6 := q_nle (a := rk6) (b := 0) rfl rfl (by omega) (by omega) c_7
              refine lv_aload_n hx hb dX6_orderCliffs_37 rfl (lv_at hl 3 rfl) ?_
              refine va_get (D := D) (ci := 6) (v := .ref h0) (C := RX6) (T := TX6) (N := 9) hx hb hg i_X6 hown hK hP 0 rfl rfl 6 (by decide) (hg _ m_591) (fun _ h9 => h9) rfl dX6_orderCliffs_38 ?_
              refine lv_aload_n hx hb dX6_orderCliffs_41 rfl (lv_at hl 3 rfl) ?_
              refine va_get (D := D) (ci := 6) (v := .ref p3) (C := RX6) (T := TX6) (N := 9) hx hb hg i_X6 hown hK hP 0 rfl rfl 4 (by decide) (hg _ m_589) (fun _ h9 => h9) rfl dX6_orderCliffs_42 ?_
              refine lv_iload_n hx hb dX6_orderCliffs_45 rfl (lv_at hl 1 rfl) ?_
              refine lv_iconst (v := 1) hx hb dX6_orderCliffs_46 (by decide) ?_
              refine lv_isub hx hb dX6_orderCliffs_47 ?_
              refine lv_topi (fun y_11 hy_11 => ?_)
              obtain rfl : y_11 = nI (rk6 - 1) := hy_11.trans (pk_sub (a := rk6) (b := 1) (by omega))
              refine va_iald hx hb hK hP 1 1 rfl rfl (vp_in_nI (by omega) (by decide)) dX6_orderCliffs_48 ?_
              obtain ⟨j_12, hj_12, ej_12⟩ := hOK_at hf1_6 (k := (rk6 - 1)) (by omega) (by omega) (by omega)
              refine lv_topi (fun y_13 hy_13 => ?_)
              obtain rfl : y_13 = nI j_12 := hy_13.trans ej_12
              refine lv_aload_n hx hb dX6_orderCliffs_49 rfl (lv_at hl 3 rfl) ?_
              refine va_get (D := D) (ci := 6) (v := .ref s0) (C := RX6) (T := TX6) (N := 9) hx hb hg i_X6 hown hK hP 0 rfl rfl 7 (by decide) (hg _ m_592) (fun _ h9 => h9) rfl dX6_orderCliffs_50 ?_
              refine va_get (D := D) (ci := 7) (v := .int spl) (C := RX7) (T := TX7) (N := 7) hx hb hg i_X7 hown hK hP 3 rfl rfl 3 (by decide) (hg _ m_633) (fun _ h9 => h9) rfl dX6_orderCliffs_53 ?_
              refine x_callVi (q := (RX4, TX4, 16)) (ci := 4) (q0 := 0) (wr := [wO p0 6 [.ref p1, .ref er, .ref ro, .ref p2, .ref p3, .ref p4, .ref h0, .ref s0, .int (nI ch)], wI (cy 1) p3 4 (fa1_6), wI (cy 1) h1 4 (fc), wO s0 7 [.ref s1, .ref s2, .int (nI sl), .int spl, .int svo, .int swi, .int sch]]) (rest := []) ⟨hx, hb, hml, hown, hg, hl.1⟩ k_X6_80 (s_far l D cy h0 h1 h2 h3 h4 h5 h6 h7 h8 h9 h10 h11 hv0 hv1 hv2 hv3 hv4 fp j_12 spl (by omega)) E0_blind hK hP hD hS hA [4, 5] [0, 1, 2, 3] ⟨rfl, rfl, by decide +kernel, by decide +kernel, by decide +kernel⟩ rfl rfl (fun _ _ _ => trivial) dX6_orderCliffs_56 rfl rfl (Nat.le_of_ble_eq_true rfl) ⟨Nat.le_of_ble_eq_true rfl, Nat.le_of_ble_eq_true rfl⟩ ⟨Nat.le_of_ble_eq_true rfl, Nat.le_of_ble_eq_true rfl⟩ (fun zr14 zu14 H locs hw14 hP9 hD9 hS9 => ?_)
              clear hP hD hS
              refine reW [wO p0 6 [.ref p1, .ref er, .ref ro, .ref p2, .ref p3, .ref p4, .ref h0, .ref s0, .int (nI ch)], wI (cy 1) p3 4 (fa1_6), wI (cy 1) h1 4 (fc), wO s0 7 [.ref s1, .ref s2, .int (nI sl), .int spl, .int svo, .int swi, .int sch], wO h0 4 [.ref h1, .ref h2, .ref h3, .ref h4, .ref h5, .ref h6, .ref h7, .ref h8, .ref h9, .ref h10, .ref h11, hv0, hv1, hv2, hv3, hv4], wI (cy 1) h3 4 (fp)] hP9 hD9 hS9 (fun hP hD hS => ?_)
              clear hP9 hD9 hS9
              refine W.widen (k := 0) (n := 0) (Nat.le_of_ble_eq_true rfl) (Nat.le_of_ble_eq_true rfl) ?_
              replace hw14 : True := hw14
              refine lv_iload_n hx hb dX6_orderCliffs_59 rfl (lv_at hl 0 rfl) ?_
              refine lv_icmp_le (tgt := 83) hx hb dX6_orderCliffs_60 (by decide) (fun c_60 => ?_) (fun c_60 => ?_)
              · refine lv_aload_n hx hb dX6_orderCliffs_83 rfl (lv_at hl 3 rfl) ?_
                refine va_get (D := D) (ci := 6) (v := .ref p3) (C := RX6) (T := TX6) (N := 9) hx hb hg i_X6 hown hK hP 0 rfl rfl 4 (by decide) (hg _ m_589) (fun _ h9 => h9) rfl dX6_orderCliffs_84 ?_
                refine lv_iload_n hx hb dX6_orderCliffs_87 rfl (lv_at hl 1 rfl) ?_
                refine lv_iload_n hx hb dX6_orderCliffs_88 rfl (lv_at hl 2 rfl) ?_
                refine va_iast hx hb hK hP hD hS 1 1 rfl rfl (vp_in_nI (by omega) (by decide)) dX6_orderCliffs_89 (fun H locs hP9 hD9 hS9 => ?_)
                clear hP hD hS
                obtain ⟨g_15, eg_15⟩ : ∃ y, upd fa1_6 (nI rk6 : Int32).toNatClampNeg (nI i1) = y := ⟨_, rfl⟩
                rw [eg_15] at hP9 hD9
                refine reW [wO p0 6 [.ref p1, .ref er, .ref ro, .ref p2, .ref p3, .ref p4, .ref h0, .ref s0, .int (nI ch)], wI (cy 1) p3 4 (g_15), wI (cy 1) h1 4 (fc), wO s0 7 [.ref s1, .ref s2, .int (nI sl), .int spl, .int svo, .int swi, .int sch], wO h0 4 [.ref h1, .ref h2, .ref h3, .ref h4, .ref h5, .ref h6, .ref h7, .ref h8, .ref h9, .ref h10, .ref h11, hv0, hv1, hv2, hv3, hv4], wI (cy 1) h3 4 (fp)] hP9 hD9 hS9 (fun hP hD hS => ?_)
                clear hP9 hD9 hS9
                have hn_16 := hOK_fill (r := rk6) (i := i1) hf1_6 (by omega) (by omega)
                rw [eg_15] at hn_16
                refine lv_iinc (v := nI (i1 + 1)) (lv' := [(1, .int (nI (i1 + 1))), (3, .int zr5), (2, .int (nI rk6)), (0, .ref p0)]) hx hb dX6_orderCliffs_90 hl (k := 2) rfl (nI_add i1 1) (by decide) rfl (fun ls hl => ?_)
                refine lv_goto (tgt := 2) hx hb dX6_orderCliffs_93 (by decide) ?_
                exact ih1  ((i1 + 1)) g_15 (by omega) (hn_16) (by omega) _ _ (hP.sub [0, 1, 4, 2, 5, 3] rfl) (hD.sub [0, 1, 4, 2, 5, 3] (by decide +kernel) rfl) hS ls (lv_sub hl [0, 3] rfl)
              · refine lv_aload_n hx hb dX6_orderCliffs_63 rfl (lv_at hl 3 rfl) ?_
                refine va_get (D := D) (ci := 6) (v := .ref p3) (C := RX6) (T := TX6) (N := 9) hx hb hg i_X6 hown hK hP 0 rfl rfl 4 (by decide) (hg _ m_589) (fun _ h9 => h9) rfl dX6_orderCliffs_64 ?_
                refine lv_iload_n hx hb dX6_orderCliffs_67 rfl (lv_at hl 1 rfl) ?_
                refine lv_aload_n hx hb dX6_orderCliffs_68 rfl (lv_at hl 3 rfl) ?_
                refine va_get (D := D) (ci := 6) (v := .ref p3) (C := RX6) (T := TX6) (N := 9) hx hb hg i_X6 hown hK hP 0 rfl rfl 4 (by decide) (hg _ m_589) (fun _ h9 => h9) rfl dX6_orderCliffs_69 ?_
                refine lv_iload_n hx hb dX6_orderCliffs_72 rfl (lv_at hl 1 rfl) ?_
                refine lv_iconst (v := 1) hx hb dX6_orderCliffs_73 (by decide) ?_
                refine lv_isub hx hb dX6_orderCliffs_74 ?_
                refine lv_topi (fun y_17 hy_17 => ?_)
                obtain rfl : y_17 = nI (rk6 - 1) := hy_17.trans (pk_sub (a := rk6) (b := 1) (by omega))
                refine va_iald hx hb hK hP 1 1 rfl rfl (vp_in_nI (by omega) (by decide)) dX6_orderCliffs_75 ?_
                obtain ⟨j_18, hj_18, ej_18⟩ := hOK_at hf1_6 (k := (rk6 - 1)) (by omega) (by omega) (by omega)
                refine lv_topi (fun y_19 hy_19 => ?_)
                obtain rfl : y_19 = nI j_18 := hy_19.trans ej_18
                refine va_iast hx hb hK hP hD hS 1 1 rfl rfl (vp_in_nI (by omega) (by decide)) dX6_orderCliffs_76 (fun H locs hP9 hD9 hS9 => ?_)
                clear hP hD hS
                obtain ⟨g_20, eg_20⟩ : ∃ y, upd fa1_6 (nI rk6 : Int32).toNatClampNeg (nI j_18) = y := ⟨_, rfl⟩
                rw [eg_20] at hP9 hD9
                refine reW [wO p0 6 [.ref p1, .ref er, .ref ro, .ref p2, .ref p3, .ref p4, .ref h0, .ref s0, .int (nI ch)], wI (cy 1) p3 4 (g_20), wI (cy 1) h1 4 (fc), wO s0 7 [.ref s1, .ref s2, .int (nI sl), .int spl, .int svo, .int swi, .int sch], wO h0 4 [.ref h1, .ref h2, .ref h3, .ref h4, .ref h5, .ref h6, .ref h7, .ref h8, .ref h9, .ref h10, .ref h11, hv0, hv1, hv2, hv3, hv4], wI (cy 1) h3 4 (fp)] hP9 hD9 hS9 (fun hP hD hS => ?_)
                clear hP9 hD9 hS9
                have hh_21 := hOK_mv (r := rk6) (j := j_18) hf1_6 (by omega) (by omega) (by omega) (by omega)
                rw [eg_20] at hh_21
                refine lv_iinc (v := nI (rk6 - 1)) (lv' := [(2, .int (nI (rk6 - 1))), (3, .int zr5), (1, .int (nI i1)), (0, .ref p0)]) hx hb dX6_orderCliffs_77 hl (k := 1) rfl (sb_m1 (by omega)) (by decide) rfl (fun ls hl => ?_)
                refine lv_goto (tgt := 33) hx hb dX6_orderCliffs_80 (by decide) ?_
                exact ih6  ((rk6 - 1)) g_20 (by omega) (hh_21) (by omega) _ _ (hP.sub [0, 1, 2, 3, 4, 5] rfl) (hD.sub [0, 1, 2, 3, 4, 5] (by decide +kernel) rfl) hS ls (lv_sub hl [1, 0, 2, 3] rfl)
        exact loop6 _ i1 fa1_1 (by omega) (hOK_in hn_1) (Nat.le_refl _) _ _ (hP.sub [0, 1, 2, 3, 4, 5] rfl) (hD.sub [0, 1, 2, 3, 4, 5] (by decide +kernel) rfl) hS ls (lv_sub hl [0, 1, 2, 3] rfl)
  exact loop1 _ 0 fne (by omega) (fun k hk => absurd hk (by omega)) (Nat.le_refl _) _ _ (hP.sub [0, 1, 2, 3, 4, 5] rfl) (hD.sub [0, 1, 2, 3, 4, 5] (by decide +kernel) rfl) hS ls (lv_sub hl [0, 1] rfl)
