/-- NEXT while it is told: nothing yet, or a STATE -/
def nxT (f : Nat → Int32) : Prop := ∀ k, k < 48 → f k = -1 ∨ ∃ j : Nat, j ≤ 5 ∧ f k = nI j
theorem nxT_put {f : Nat → Int32} {k j : Nat} (h : nxT f) (hj : j ≤ 5) : nxT (upd f k (nI j)) := by
  intro i hi
  by_cases e : i = k
  · exact Or.inr ⟨j, hj, by rw [e]; exact pk_us⟩
  · rw [pk_un e]; exact h i hi
def stTo (f : Nat → Int32) (i : Nat) : Prop := (∀ k, k < i → ∃ j : Nat, j ≤ 5 ∧ f k = nI j) ∧ nxT f
theorem stTo_0 {f : Nat → Int32} (h : nxT f) : stTo f 0 := ⟨fun k hk => absurd hk (by omega), h⟩
theorem stTo_keep {f : Nat → Int32} {i : Nat} {x : Int32} (h : stTo f i) (hi : i < 48) (ex : x = f (nI i).toNatClampNeg) (hx : ¬ x = -1) : stTo f (i + 1) := by
  rw [nI_clamp (by omega)] at ex
  refine ⟨fun k hk => ?_, h.2⟩
  by_cases e : k = i
  · rw [e]; exact (h.2 i hi).resolve_left (fun h9 => hx (ex.trans h9))
  · exact h.1 k (by omega)
theorem stTo_put {f : Nat → Int32} {i j : Nat} (h : stTo f i) (hi : i < 48) (hj : j ≤ 5) : stTo (upd f (nI i).toNatClampNeg (nI j)) (i + 1) := by
  rw [nI_clamp (by omega)]
  refine ⟨fun k hk => ?_, nxT_put h.2 hj⟩
  by_cases e : k = i
  · exact ⟨j, hj, by rw [e]; exact pk_us⟩
  · rw [pk_un e]; exact h.1 k (by omega)
theorem stTo_rng {f : Nat → Int32} {i : Nat} (h : stTo f i) (hi : 48 ≤ i) : rng f 48 5 := fun k hk => h.1 k (by omega)
def mTo (f : Nat → Int32) (i : Nat) : Prop := ∀ k, k < i → f k = -1
theorem mTo_put {f : Nat → Int32} {i : Nat} (h : mTo f i) (hi : i < 48) : mTo (upd f (nI i).toNatClampNeg (-1)) (i + 1) := by
  rw [nI_clamp (by omega)]
  intro k hk
  by_cases e : k = i
  · rw [e]; exact pk_us
  · rw [pk_un e]; exact h k (by omega)
theorem mTo_nx {f : Nat → Int32} {i : Nat} (h : mTo f i) (hi : 48 ≤ i) : nxT f := fun k hk => Or.inl (h k (by omega))
theorem clr4 {f : Nat → Int32} : cntOK (upd (upd (upd (upd f (0 : Int32).toNatClampNeg 0) (1 : Int32).toNatClampNeg 0) (2 : Int32).toNatClampNeg 0) (3 : Int32).toNatClampNeg 0) 0 0 0 0 := ⟨rfl, rfl, rfl, rfl⟩
theorem dX4_clear_0 : decode cX4_clear 0 = .ok (.iconst 0, 1) := by decide +kernel
theorem dX4_clear_1 : decode cX4_clear 1 = .ok (.istore_n 1, 1) := by decide +kernel
theorem dX4_clear_2 : decode cX4_clear 2 = .ok (.iload_n 1, 1) := by decide +kernel
theorem dX4_clear_3 : decode cX4_clear 3 = .ok (.aload_n 0, 1) := by decide +kernel
theorem dX4_clear_4 : decode cX4_clear 4 = .ok (.getfield 9, 3) := by decide +kernel
theorem dX4_clear_7 : decode cX4_clear 7 = .ok (.arraylength, 1) := by decide +kernel
theorem dX4_clear_8 : decode cX4_clear 8 = .ok (.if_icmp .ge 16, 3) := by decide +kernel
theorem dX4_clear_11 : decode cX4_clear 11 = .ok (.aload_n 0, 1) := by decide +kernel
theorem dX4_clear_12 : decode cX4_clear 12 = .ok (.getfield 9, 3) := by decide +kernel
theorem dX4_clear_15 : decode cX4_clear 15 = .ok (.iload_n 1, 1) := by decide +kernel
theorem dX4_clear_16 : decode cX4_clear 16 = .ok (.iconst 0, 1) := by decide +kernel
theorem dX4_clear_17 : decode cX4_clear 17 = .ok (.iastore, 1) := by decide +kernel
theorem dX4_clear_18 : decode cX4_clear 18 = .ok (.iinc 1 1, 3) := by decide +kernel
theorem dX4_clear_21 : decode cX4_clear 21 = .ok (.goto (-19), 3) := by decide +kernel
theorem dX4_clear_24 : decode cX4_clear 24 = .ok (.iconst 0, 1) := by decide +kernel
theorem dX4_clear_25 : decode cX4_clear 25 = .ok (.istore_n 1, 1) := by decide +kernel
theorem dX4_clear_26 : decode cX4_clear 26 = .ok (.iload_n 1, 1) := by decide +kernel
theorem dX4_clear_27 : decode cX4_clear 27 = .ok (.aload_n 0, 1) := by decide +kernel
theorem dX4_clear_28 : decode cX4_clear 28 = .ok (.getfield 30, 3) := by decide +kernel
theorem dX4_clear_31 : decode cX4_clear 31 = .ok (.arraylength, 1) := by decide +kernel
theorem dX4_clear_32 : decode cX4_clear 32 = .ok (.if_icmp .ge 16, 3) := by decide +kernel
theorem dX4_clear_48 : decode cX4_clear 48 = .ok (.aload_n 0, 1) := by decide +kernel
theorem dX4_clear_49 : decode cX4_clear 49 = .ok (.getfield 39, 3) := by decide +kernel
theorem dX4_clear_52 : decode cX4_clear 52 = .ok (.invokevirtual 55, 3) := by decide +kernel
set_option maxRecDepth 100000 in
theorem m_321 : (Cond.methodLink RX4 55 yX3_clear) ∈ gT := gm 321 rfl rfl
set_option maxRecDepth 100000 in
theorem m_322 : (Cond.instanceMethod yX3_clear) ∈ gT := gm 322 rfl rfl
set_option maxRecDepth 100000 in
theorem m_323 : (Cond.selects RX3 yX3_clear yX3_clear) ∈ gT := gm 323 rfl rfl
set_option maxRecDepth 100000 in
theorem m_324 : (Cond.code yX3_clear cX3_clear 1 none) ∈ gT := gm 324 rfl rfl
theorem k_X4_55 : xV RX4 RX3 55 yX3_clear cX3_clear 1 none 0 := ⟨⟨m_321, m_322, m_323, m_138, m_324⟩, rfl, by decide, by decide, by decide +kernel⟩
theorem dX4_clear_55 : decode cX4_clear 55 = .ok (.aload_n 0, 1) := by decide +kernel
theorem dX4_clear_56 : decode cX4_clear 56 = .ok (.getfield 43, 3) := by decide +kernel
set_option maxRecDepth 100000 in
theorem m_362 : (Cond.fieldLink RX4 43 "CliffJudges$Hills" "lost" "LCliffJudges$Formula;") ∈ gT := gm 362 rfl rfl
theorem dX4_clear_59 : decode cX4_clear 59 = .ok (.invokevirtual 55, 3) := by decide +kernel
theorem dX4_clear_62 : decode cX4_clear 62 = .ok (.aload_n 0, 1) := by decide +kernel
theorem dX4_clear_63 : decode cX4_clear 63 = .ok (.getfield 46, 3) := by decide +kernel
set_option maxRecDepth 100000 in
theorem m_365 : (Cond.fieldLink RX4 46 "CliffJudges$Hills" "turn" "LCliffJudges$Formula;") ∈ gT := gm 365 rfl rfl
theorem dX4_clear_66 : decode cX4_clear 66 = .ok (.invokevirtual 55, 3) := by decide +kernel
theorem dX4_clear_69 : decode cX4_clear 69 = .ok (.aload_n 0, 1) := by decide +kernel
theorem dX4_clear_70 : decode cX4_clear 70 = .ok (.iconst 0, 1) := by decide +kernel
theorem dX4_clear_71 : decode cX4_clear 71 = .ok (.putfield 56, 3) := by decide +kernel
theorem dX4_clear_74 : decode cX4_clear 74 = .ok (.aload_n 0, 1) := by decide +kernel
theorem dX4_clear_75 : decode cX4_clear 75 = .ok (.iconst 0, 1) := by decide +kernel
theorem dX4_clear_76 : decode cX4_clear 76 = .ok (.putfield 60, 3) := by decide +kernel
set_option maxRecDepth 100000 in
theorem m_371 : (Cond.fieldLink RX4 60 "CliffJudges$Hills" "ons" "I") ∈ gT := gm 371 rfl rfl
theorem dX4_clear_79 : decode cX4_clear 79 = .ok (.aload_n 0, 1) := by decide +kernel
theorem dX4_clear_80 : decode cX4_clear 80 = .ok (.iconst 0, 1) := by decide +kernel
theorem dX4_clear_81 : decode cX4_clear 81 = .ok (.putfield 63, 3) := by decide +kernel
set_option maxRecDepth 100000 in
theorem m_375 : (Cond.fieldLink RX4 63 "CliffJudges$Hills" "wind" "I") ∈ gT := gm 375 rfl rfl
theorem dX4_clear_84 : decode cX4_clear 84 = .ok (.aload_n 0, 1) := by decide +kernel
theorem dX4_clear_85 : decode cX4_clear 85 = .ok (.iconst 0, 1) := by decide +kernel
theorem dX4_clear_86 : decode cX4_clear 86 = .ok (.putfield 66, 3) := by decide +kernel
set_option maxRecDepth 100000 in
theorem m_379 : (Cond.fieldLink RX4 66 "CliffJudges$Hills" "draw" "I") ∈ gT := gm 379 rfl rfl
theorem dX4_clear_89 : decode cX4_clear 89 = .ok (.aload_n 0, 1) := by decide +kernel
theorem dX4_clear_90 : decode cX4_clear 90 = .ok (.iconst 0, 1) := by decide +kernel
theorem dX4_clear_91 : decode cX4_clear 91 = .ok (.putfield 69, 3) := by decide +kernel
set_option maxRecDepth 100000 in
theorem m_381 : (Cond.fieldLink RX4 69 "CliffJudges$Hills" "units" "I") ∈ gT := gm 381 rfl rfl
theorem dX4_clear_94 : decode cX4_clear 94 = .ok (.return_, 1) := by decide +kernel
theorem dX4_clear_35 : decode cX4_clear 35 = .ok (.aload_n 0, 1) := by decide +kernel
theorem dX4_clear_36 : decode cX4_clear 36 = .ok (.getfield 30, 3) := by decide +kernel
theorem dX4_clear_39 : decode cX4_clear 39 = .ok (.iload_n 1, 1) := by decide +kernel
theorem dX4_clear_40 : decode cX4_clear 40 = .ok (.iconst (-1), 1) := by decide +kernel
theorem dX4_clear_41 : decode cX4_clear 41 = .ok (.iastore, 1) := by decide +kernel
theorem dX4_clear_42 : decode cX4_clear 42 = .ok (.iinc 1 1, 3) := by decide +kernel
theorem dX4_clear_45 : decode cX4_clear 45 = .ok (.goto (-19), 3) := by decide +kernel
set_option maxHeartbeats 1000000 in
set_option maxRecDepth 100000 in
theorem s_hclear (l : Launch) (D : va_G) (cy : Nat → ClassId) (h0 : Nat) (h1 : Nat) (h2 : Nat) (h3 : Nat) (h4 : Nat) (h5 : Nat) (h6 : Nat) (h7 : Nat) (h8 : Nat) (h9 : Nat) (h10 : Nat) (h11 : Nat) (hv0 : Value) (hv1 : Value) (hv2 : Value) (hv3 : Value) (hv4 : Value) (fc : Nat → Int32) (fx : Nat → Int32) (h9a : Nat) (h9b : Nat) (y2b : Value) (y3b : Value) (h10a : Nat) (h10b : Nat) (y2l : Value) (y3l : Value) (h11a : Nat) (h11b : Nat) (y2t : Value) (y3t : Value)  : XMv l D (tyL cy) E0 yX4_clear cX4_clear 2 none (rmk 1 0 0) [.ref h0] [(h0, .inr (4, [.ref h1, .ref h2, .ref h3, .ref h4, .ref h5, .ref h6, .ref h7, .ref h8, .ref h9, .ref h10, .ref h11, hv0, hv1, hv2, hv3, hv4])), (h1, .inl (cy 1, 4, .inl (fc))), (h7, .inl (cy 1, 48, .inl (fx))), (h9, .inr (3, [.ref h9a, .ref h9b, y2b, y3b])), (h10, .inr (3, [.ref h10a, .ref h10b, y2l, y3l])), (h11, .inr (3, [.ref h11a, .ref h11b, y2t, y3t]))] (fun (u : (Nat → Int32) × (Nat → Int32)) => (cntOK u.1 0 0 0 0) ∧ (nxT u.2)) (fun (u : (Nat → Int32) × (Nat → Int32)) => [(h0, .inr (4, [.ref h1, .ref h2, .ref h3, .ref h4, .ref h5, .ref h6, .ref h7, .ref h8, .ref h9, .ref h10, .ref h11, .int 0, .int 0, .int 0, .int 0, .int 0])), (h1, .inl (cy 1, 4, .inl (u.1))), (h7, .inl (cy 1, 48, .inl (u.2))), (h9, .inr (3, [.ref h9a, .ref h9b, .int 0, .int 0])), (h10, .inr (3, [.ref h10a, .ref h10b, .int 0, .int 0])), (h11, .inr (3, [.ref h11a, .ref h11b, .int 0, .int 0]))]) := by
  refine XMv.start (by decide) (Nat.le_of_ble_eq_true rfl) ?_
  intro p e s m below meth c args A ls Q hat hQ
  obtain ⟨hx, hb, hr, hml, hown, hg, hlocks, hin, hK, hA, hP, hD, hS, hE, hl⟩ := hat
  have hown : s.vm.findClass RX4 = some m.cls := hown
  have hl : lv_has ls 2 [(0, .ref h0)] := hl
  refine lv_iconst (v := 0) hx hb dX4_clear_0 (by decide) ?_
  refine lv_istore_n (lv' := [(1, .int 0), (0, .ref h0)]) hx hb dX4_clear_1 rfl hl (by decide) rfl (fun ls hl => ?_)
  refine lv_iload_n hx hb dX4_clear_2 rfl (lv_at hl 0 rfl) ?_
  refine lv_aload_n hx hb dX4_clear_3 rfl (lv_at hl 1 rfl) ?_
  refine va_get (D := D) (ci := 4) (v := .ref h1) (C := RX4) (T := TX4) (N := 16) hx hb hg i_X4 hown hK hP 0 rfl rfl 0 (by decide) (hg _ m_329) (fun _ h9 => h9) rfl dX4_clear_4 ?_
  refine va_alen (v := 4) hx hb hK hP 1 1 rfl rfl rfl dX4_clear_7 ?_
  refine lv_icmp_ge (tgt := 24) hx hb dX4_clear_8 (by decide) (fun h => absurd h (by decide)) (fun _ => ?_)
  refine lv_aload_n hx hb dX4_clear_11 rfl (lv_at hl 1 rfl) ?_
  refine va_get (D := D) (ci := 4) (v := .ref h1) (C := RX4) (T := TX4) (N := 16) hx hb hg i_X4 hown hK hP 0 rfl rfl 0 (by decide) (hg _ m_329) (fun _ h9 => h9) rfl dX4_clear_12 ?_
  refine lv_iload_n hx hb dX4_clear_15 rfl (lv_at hl 0 rfl) ?_
  refine lv_iconst (v := 0) hx hb dX4_clear_16 (by decide) ?_
  refine va_iast hx hb hK hP hD hS 1 1 rfl rfl (by unfold vp_in; decide) dX4_clear_17 (fun H locs hP hD hS => ?_)
  have hP : va_P D vwCl [(h0, .inr (4, [.ref h1, .ref h2, .ref h3, .ref h4, .ref h5, .ref h6, .ref h7, .ref h8, .ref h9, .ref h10, .ref h11, hv0, hv1, hv2, hv3, hv4])), (h1, .inl (cy 1, 4, .inl (upd fc (0 : Int32).toNatClampNeg 0))), (h7, .inl (cy 1, 48, .inl (fx))), (h9, .inr (3, [.ref h9a, .ref h9b, y2b, y3b])), (h10, .inr (3, [.ref h10a, .ref h10b, y2l, y3l])), (h11, .inr (3, [.ref h11a, .ref h11b, y2t, y3t]))] H := hP
  have hD : va_D A [(h0, .inr (4, [.ref h1, .ref h2, .ref h3, .ref h4, .ref h5, .ref h6, .ref h7, .ref h8, .ref h9, .ref h10, .ref h11, hv0, hv1, hv2, hv3, hv4])), (h1, .inl (cy 1, 4, .inl (upd fc (0 : Int32).toNatClampNeg 0))), (h7, .inl (cy 1, 48, .inl (fx))), (h9, .inr (3, [.ref h9a, .ref h9b, y2b, y3b])), (h10, .inr (3, [.ref h10a, .ref h10b, y2l, y3l])), (h11, .inr (3, [.ref h11a, .ref h11b, y2t, y3t]))] := hD
  refine lv_iinc (v := 1) (lv' := [(1, .int 1), (0, .ref h0)]) hx hb dX4_clear_18 hl (k := 0) rfl (by decide) (by decide) rfl (fun ls hl => ?_)
  refine lv_goto (tgt := 2) hx hb dX4_clear_21 (by decide) ?_
  refine lv_iload_n hx hb dX4_clear_2 rfl (lv_at hl 0 rfl) ?_
  refine lv_aload_n hx hb dX4_clear_3 rfl (lv_at hl 1 rfl) ?_
  refine va_get (D := D) (ci := 4) (v := .ref h1) (C := RX4) (T := TX4) (N := 16) hx hb hg i_X4 hown hK hP 0 rfl rfl 0 (by decide) (hg _ m_329) (fun _ h9 => h9) rfl dX4_clear_4 ?_
  refine va_alen (v := 4) hx hb hK hP 1 1 rfl rfl rfl dX4_clear_7 ?_
  refine lv_icmp_ge (tgt := 24) hx hb dX4_clear_8 (by decide) (fun h => absurd h (by decide)) (fun _ => ?_)
  refine lv_aload_n hx hb dX4_clear_11 rfl (lv_at hl 1 rfl) ?_
  refine va_get (D := D) (ci := 4) (v := .ref h1) (C := RX4) (T := TX4) (N := 16) hx hb hg i_X4 hown hK hP 0 rfl rfl 0 (by decide) (hg _ m_329) (fun _ h9 => h9) rfl dX4_clear_12 ?_
  refine lv_iload_n hx hb dX4_clear_15 rfl (lv_at hl 0 rfl) ?_
  refine lv_iconst (v := 0) hx hb dX4_clear_16 (by decide) ?_
  refine va_iast hx hb hK hP hD hS 1 1 rfl rfl (by unfold vp_in; decide) dX4_clear_17 (fun H locs hP hD hS => ?_)
  have hP : va_P D vwCl [(h0, .inr (4, [.ref h1, .ref h2, .ref h3, .ref h4, .ref h5, .ref h6, .ref h7, .ref h8, .ref h9, .ref h10, .ref h11, hv0, hv1, hv2, hv3, hv4])), (h1, .inl (cy 1, 4, .inl (upd (upd fc (0 : Int32).toNatClampNeg 0) (1 : Int32).toNatClampNeg 0))), (h7, .inl (cy 1, 48, .inl (fx))), (h9, .inr (3, [.ref h9a, .ref h9b, y2b, y3b])), (h10, .inr (3, [.ref h10a, .ref h10b, y2l, y3l])), (h11, .inr (3, [.ref h11a, .ref h11b, y2t, y3t]))] H := hP
  have hD : va_D A [(h0, .inr (4, [.ref h1, .ref h2, .ref h3, .ref h4, .ref h5, .ref h6, .ref h7, .ref h8, .ref h9, .ref h10, .ref h11, hv0, hv1, hv2, hv3, hv4])), (h1, .inl (cy 1, 4, .inl (upd (upd fc (0 : Int32).toNatClampNeg 0) (1 : Int32).toNatClampNeg 0))), (h7, .inl (cy 1, 48, .inl (fx))), (h9, .inr (3, [.ref h9a, .ref h9b, y2b, y3b])), (h10, .inr (3, [.ref h10a, .ref h10b, y2l, y3l])), (h11, .inr (3, [.ref h11a, .ref h11b, y2t, y3t]))] := hD
  refine lv_iinc (v := 2) (lv' := [(1, .int 2), (0, .ref h0)]) hx hb dX4_clear_18 hl (k := 0) rfl (by decide) (by decide) rfl (fun ls hl => ?_)
  refine lv_goto (tgt := 2) hx hb dX4_clear_21 (by decide) ?_
  refine lv_iload_n hx hb dX4_clear_2 rfl (lv_at hl 0 rfl) ?_
  refine lv_aload_n hx hb dX4_clear_3 rfl (lv_at hl 1 rfl) ?_
  refine va_get (D := D) (ci := 4) (v := .ref h1) (C := RX4) (T := TX4) (N := 16) hx hb hg i_X4 hown hK hP 0 rfl rfl 0 (by decide) (hg _ m_329) (fun _ h9 => h9) rfl dX4_clear_4 ?_
  refine va_alen (v := 4) hx hb hK hP 1 1 rfl rfl rfl dX4_clear_7 ?_
  refine lv_icmp_ge (tgt := 24) hx hb dX4_clear_8 (by decide) (fun h => absurd h (by decide)) (fun _ => ?_)
  refine lv_aload_n hx hb dX4_clear_11 rfl (lv_at hl 1 rfl) ?_
  refine va_get (D := D) (ci := 4) (v := .ref h1) (C := RX4) (T := TX4) (N := 16) hx hb hg i_X4 hown hK hP 0 rfl rfl 0 (by decide) (hg _ m_329) (fun _ h9 => h9) rfl dX4_clear_12 ?_
  refine lv_iload_n hx hb dX4_clear_15 rfl (lv_at hl 0 rfl) ?_
  refine lv_iconst (v := 0) hx hb dX4_clear_16 (by decide) ?_
  refine va_iast hx hb hK hP hD hS 1 1 rfl rfl (by unfold vp_in; decide) dX4_clear_17 (fun H locs hP hD hS => ?_)
  have hP : va_P D vwCl [(h0, .inr (4, [.ref h1, .ref h2, .ref h3, .ref h4, .ref h5, .ref h6, .ref h7, .ref h8, .ref h9, .ref h10, .ref h11, hv0, hv1, hv2, hv3, hv4])), (h1, .inl (cy 1, 4, .inl (upd (upd (upd fc (0 : Int32).toNatClampNeg 0) (1 : Int32).toNatClampNeg 0) (2 : Int32).toNatClampNeg 0))), (h7, .inl (cy 1, 48, .inl (fx))), (h9, .inr (3, [.ref h9a, .ref h9b, y2b, y3b])), (h10, .inr (3, [.ref h10a, .ref h10b, y2l, y3l])), (h11, .inr (3, [.ref h11a, .ref h11b, y2t, y3t]))] H := hP
  have hD : va_D A [(h0, .inr (4, [.ref h1, .ref h2, .ref h3, .ref h4, .ref h5, .ref h6, .ref h7, .ref h8, .ref h9, .ref h10, .ref h11, hv0, hv1, hv2, hv3, hv4])), (h1, .inl (cy 1, 4, .inl (upd (upd (upd fc (0 : Int32).toNatClampNeg 0) (1 : Int32).toNatClampNeg 0) (2 : Int32).toNatClampNeg 0))), (h7, .inl (cy 1, 48, .inl (fx))), (h9, .inr (3, [.ref h9a, .ref h9b, y2b, y3b])), (h10, .inr (3, [.ref h10a, .ref h10b, y2l, y3l])), (h11, .inr (3, [.ref h11a, .ref h11b, y2t, y3t]))] := hD
  refine lv_iinc (v := 3) (lv' := [(1, .int 3), (0, .ref h0)]) hx hb dX4_clear_18 hl (k := 0) rfl (by decide) (by decide) rfl (fun ls hl => ?_)
  refine lv_goto (tgt := 2) hx hb dX4_clear_21 (by decide) ?_
  refine lv_iload_n hx hb dX4_clear_2 rfl (lv_at hl 0 rfl) ?_
  refine lv_aload_n hx hb dX4_clear_3 rfl (lv_at hl 1 rfl) ?_
  refine va_get (D := D) (ci := 4) (v := .ref h1) (C := RX4) (T := TX4) (N := 16) hx hb hg i_X4 hown hK hP 0 rfl rfl 0 (by decide) (hg _ m_329) (fun _ h9 => h9) rfl dX4_clear_4 ?_
  refine va_alen (v := 4) hx hb hK hP 1 1 rfl rfl rfl dX4_clear_7 ?_
  refine lv_icmp_ge (tgt := 24) hx hb dX4_clear_8 (by decide) (fun h => absurd h (by decide)) (fun _ => ?_)
  refine lv_aload_n hx hb dX4_clear_11 rfl (lv_at hl 1 rfl) ?_
  refine va_get (D := D) (ci := 4) (v := .ref h1) (C := RX4) (T := TX4) (N := 16) hx hb hg i_X4 hown hK hP 0 rfl rfl 0 (by decide) (hg _ m_329) (fun _ h9 => h9) rfl dX4_clear_12 ?_
  refine lv_iload_n hx hb dX4_clear_15 rfl (lv_at hl 0 rfl) ?_
  refine lv_iconst (v := 0) hx hb dX4_clear_16 (by decide) ?_
  refine va_iast hx hb hK hP hD hS 1 1 rfl rfl (by unfold vp_in; decide) dX4_clear_17 (fun H locs hP hD hS => ?_)
  have hP : va_P D vwCl [(h0, .inr (4, [.ref h1, .ref h2, .ref h3, .ref h4, .ref h5, .ref h6, .ref h7, .ref h8, .ref h9, .ref h10, .ref h11, hv0, hv1, hv2, hv3, hv4])), (h1, .inl (cy 1, 4, .inl (upd (upd (upd (upd fc (0 : Int32).toNatClampNeg 0) (1 : Int32).toNatClampNeg 0) (2 : Int32).toNatClampNeg 0) (3 : Int32).toNatClampNeg 0))), (h7, .inl (cy 1, 48, .inl (fx))), (h9, .inr (3, [.ref h9a, .ref h9b, y2b, y3b])), (h10, .inr (3, [.ref h10a, .ref h10b, y2l, y3l])), (h11, .inr (3, [.ref h11a, .ref h11b, y2t, y3t]))] H := hP
  have hD : va_D A [(h0, .inr (4, [.ref h1, .ref h2, .ref h3, .ref h4, .ref h5, .ref h6, .ref h7, .ref h8, .ref h9, .ref h10, .ref h11, hv0, hv1, hv2, hv3, hv4])), (h1, .inl (cy 1, 4, .inl (upd (upd (upd (upd fc (0 : Int32).toNatClampNeg 0) (1 : Int32).toNatClampNeg 0) (2 : Int32).toNatClampNeg 0) (3 : Int32).toNatClampNeg 0))), (h7, .inl (cy 1, 48, .inl (fx))), (h9, .inr (3, [.ref h9a, .ref h9b, y2b, y3b])), (h10, .inr (3, [.ref h10a, .ref h10b, y2l, y3l])), (h11, .inr (3, [.ref h11a, .ref h11b, y2t, y3t]))] := hD
  refine lv_iinc (v := 4) (lv' := [(1, .int 4), (0, .ref h0)]) hx hb dX4_clear_18 hl (k := 0) rfl (by decide) (by decide) rfl (fun ls hl => ?_)
  refine lv_goto (tgt := 2) hx hb dX4_clear_21 (by decide) ?_
  refine lv_iload_n hx hb dX4_clear_2 rfl (lv_at hl 0 rfl) ?_
  refine lv_aload_n hx hb dX4_clear_3 rfl (lv_at hl 1 rfl) ?_
  refine va_get (D := D) (ci := 4) (v := .ref h1) (C := RX4) (T := TX4) (N := 16) hx hb hg i_X4 hown hK hP 0 rfl rfl 0 (by decide) (hg _ m_329) (fun _ h9 => h9) rfl dX4_clear_4 ?_
  refine va_alen (v := 4) hx hb hK hP 1 1 rfl rfl rfl dX4_clear_7 ?_
  refine lv_icmp_ge (tgt := 24) hx hb dX4_clear_8 (by decide) (fun _ => ?_) (fun h => absurd (by decide) h)
  refine lv_iconst (v := 0) hx hb dX4_clear_24 (by decide) ?_
  refine lv_istore_n (lv' := [(1, .int 0), (0, .ref h0)]) hx hb dX4_clear_25 rfl hl (by decide) rfl (fun ls hl => ?_)
  have loop1 : ∀ (zn : Nat) (i1 : Nat) (fa1_1 : Nat → Int32), (i1 ≤ 48) → (mTo fa1_1 i1) → 48 - i1 + 1 ≤ zn → ∀ (H : Heap) (locs : List Loc), va_P D vwCl [(h0, .inr (4, [.ref h1, .ref h2, .ref h3, .ref h4, .ref h5, .ref h6, .ref h7, .ref h8, .ref h9, .ref h10, .ref h11, hv0, hv1, hv2, hv3, hv4])), (h1, .inl (cy 1, 4, .inl (upd (upd (upd (upd fc (0 : Int32).toNatClampNeg 0) (1 : Int32).toNatClampNeg 0) (2 : Int32).toNatClampNeg 0) (3 : Int32).toNatClampNeg 0))), (h7, .inl (cy 1, 48, .inl (fa1_1))), (h9, .inr (3, [.ref h9a, .ref h9b, y2b, y3b])), (h10, .inr (3, [.ref h10a, .ref h10b, y2l, y3l])), (h11, .inr (3, [.ref h11a, .ref h11b, y2t, y3t]))] H → va_D A [(h0, .inr (4, [.ref h1, .ref h2, .ref h3, .ref h4, .ref h5, .ref h6, .ref h7, .ref h8, .ref h9, .ref h10, .ref h11, hv0, hv1, hv2, hv3, hv4])), (h1, .inl (cy 1, 4, .inl (upd (upd (upd (upd fc (0 : Int32).toNatClampNeg 0) (1 : Int32).toNatClampNeg 0) (2 : Int32).toNatClampNeg 0) (3 : Int32).toNatClampNeg 0))), (h7, .inl (cy 1, 48, .inl (fa1_1))), (h9, .inr (3, [.ref h9a, .ref h9b, y2b, y3b])), (h10, .inr (3, [.ref h10a, .ref h10b, y2l, y3l])), (h11, .inr (3, [.ref h11a, .ref h11b, y2t, y3t]))] → va_S A s.heap H locs → ∀ ls : Array Slot, lv_has ls 2 [(1, .int (nI i1)), (0, .ref h0)] → W p l e (rmk 1 0 0) s m args below meth c H locs 0 0 Q (F0 m 26 ls []) := by
    intro zn
    induction zn with
    | zero => intro i1 fa1_1 _ _ hz; exact absurd hz (by omega)
    | succ zn ih1 =>
      intro i1 fa1_1 hf0_1 hf1_1 hmu1 H locs hP hD hS ls hl
      refine lv_iload_n hx hb dX4_clear_26 rfl (lv_at hl 0 rfl) ?_
      refine lv_aload_n hx hb dX4_clear_27 rfl (lv_at hl 1 rfl) ?_
      refine va_get (D := D) (ci := 4) (v := .ref h7) (C := RX4) (T := TX4) (N := 16) hx hb hg i_X4 hown hK hP 0 rfl rfl 6 (by decide) (hg _ m_354) (fun _ h9 => h9) rfl dX4_clear_28 ?_
      refine va_alen (v := 48) hx hb hK hP 2 1 rfl rfl rfl dX4_clear_31 ?_
      refine lv_icmp_ge (tgt := 48) hx hb dX4_clear_32 (by decide) (fun c_2 => ?_) (fun c_2 => ?_)
      · have q_3 : 48 ≤ i1 := q_le (a := 48) (b := i1) rfl rfl (by omega) (by omega) c_2
        refine lv_aload_n hx hb dX4_clear_48 rfl (lv_at hl 1 rfl) ?_
        refine va_get (D := D) (ci := 4) (v := .ref h9) (C := RX4) (T := TX4) (N := 16) hx hb hg i_X4 hown hK hP 0 rfl rfl 8 (by decide) (hg _ m_360) (fun _ h9 => h9) rfl dX4_clear_49 ?_
        refine x_callVv (q := (RX3, TX3, 4)) (ci := 3) (q0 := 0) (wr := [(h0, .inr (4, [.ref h1, .ref h2, .ref h3, .ref h4, .ref h5, .ref h6, .ref h7, .ref h8, .ref h9, .ref h10, .ref h11, hv0, hv1, hv2, hv3, hv4])), (h1, .inl (cy 1, 4, .inl (upd (upd (upd (upd fc (0 : Int32).toNatClampNeg 0) (1 : Int32).toNatClampNeg 0) (2 : Int32).toNatClampNeg 0) (3 : Int32).toNatClampNeg 0))), (h7, .inl (cy 1, 48, .inl (fa1_1))), (h10, .inr (3, [.ref h10a, .ref h10b, y2l, y3l])), (h11, .inr (3, [.ref h11a, .ref h11b, y2t, y3t]))]) (rest := []) ⟨hx, hb, hml, hown, hg, hl.1⟩ k_X4_55 (s_fclear l D cy h9 h9a h9b y2b y3b) E0_blind hK hP hD hS hA [3] [0, 1, 2, 4, 5] ⟨rfl, rfl, by decide, by decide, by decide⟩ rfl rfl (fun _ _ _ => trivial) dX4_clear_52 rfl rfl (Nat.le_of_ble_eq_true rfl) ⟨Nat.le_of_ble_eq_true rfl, Nat.le_of_ble_eq_true rfl⟩ ⟨Nat.le_of_ble_eq_true rfl, Nat.le_of_ble_eq_true rfl⟩ (fun zu4 H locs hw4 hP hD hS => ?_)
        have hP : va_P D vwCl [(h0, .inr (4, [.ref h1, .ref h2, .ref h3, .ref h4, .ref h5, .ref h6, .ref h7, .ref h8, .ref h9, .ref h10, .ref h11, hv0, hv1, hv2, hv3, hv4])), (h1, .inl (cy 1, 4, .inl (upd (upd (upd (upd fc (0 : Int32).toNatClampNeg 0) (1 : Int32).toNatClampNeg 0) (2 : Int32).toNatClampNeg 0) (3 : Int32).toNatClampNeg 0))), (h7, .inl (cy 1, 48, .inl (fa1_1))), (h10, .inr (3, [.ref h10a, .ref h10b, y2l, y3l])), (h11, .inr (3, [.ref h11a, .ref h11b, y2t, y3t])), (h9, .inr (3, [.ref h9a, .ref h9b, .int 0, .int 0]))] H := hP
        have hD : va_D A [(h0, .inr (4, [.ref h1, .ref h2, .ref h3, .ref h4, .ref h5, .ref h6, .ref h7, .ref h8, .ref h9, .ref h10, .ref h11, hv0, hv1, hv2, hv3, hv4])), (h1, .inl (cy 1, 4, .inl (upd (upd (upd (upd fc (0 : Int32).toNatClampNeg 0) (1 : Int32).toNatClampNeg 0) (2 : Int32).toNatClampNeg 0) (3 : Int32).toNatClampNeg 0))), (h7, .inl (cy 1, 48, .inl (fa1_1))), (h10, .inr (3, [.ref h10a, .ref h10b, y2l, y3l])), (h11, .inr (3, [.ref h11a, .ref h11b, y2t, y3t])), (h9, .inr (3, [.ref h9a, .ref h9b, .int 0, .int 0]))] := hD
        refine W.widen (k := 0) (n := 0) (Nat.le_of_ble_eq_true rfl) (Nat.le_of_ble_eq_true rfl) ?_
        refine lv_aload_n hx hb dX4_clear_55 rfl (lv_at hl 1 rfl) ?_
        refine va_get (D := D) (ci := 4) (v := .ref h10) (C := RX4) (T := TX4) (N := 16) hx hb hg i_X4 hown hK hP 0 rfl rfl 9 (by decide) (hg _ m_362) (fun _ h9 => h9) rfl dX4_clear_56 ?_
        refine x_callVv (q := (RX3, TX3, 4)) (ci := 3) (q0 := 0) (wr := [(h0, .inr (4, [.ref h1, .ref h2, .ref h3, .ref h4, .ref h5, .ref h6, .ref h7, .ref h8, .ref h9, .ref h10, .ref h11, hv0, hv1, hv2, hv3, hv4])), (h1, .inl (cy 1, 4, .inl (upd (upd (upd (upd fc (0 : Int32).toNatClampNeg 0) (1 : Int32).toNatClampNeg 0) (2 : Int32).toNatClampNeg 0) (3 : Int32).toNatClampNeg 0))), (h7, .inl (cy 1, 48, .inl (fa1_1))), (h11, .inr (3, [.ref h11a, .ref h11b, y2t, y3t])), (h9, .inr (3, [.ref h9a, .ref h9b, .int 0, .int 0]))]) (rest := []) ⟨hx, hb, hml, hown, hg, hl.1⟩ k_X4_55 (s_fclear l D cy h10 h10a h10b y2l y3l) E0_blind hK hP hD hS hA [3] [0, 1, 2, 4, 5] ⟨rfl, rfl, by decide, by decide, by decide⟩ rfl rfl (fun _ _ _ => trivial) dX4_clear_59 rfl rfl (Nat.le_of_ble_eq_true rfl) ⟨Nat.le_of_ble_eq_true rfl, Nat.le_of_ble_eq_true rfl⟩ ⟨Nat.le_of_ble_eq_true rfl, Nat.le_of_ble_eq_true rfl⟩ (fun zu5 H locs hw5 hP hD hS => ?_)
        have hP : va_P D vwCl [(h0, .inr (4, [.ref h1, .ref h2, .ref h3, .ref h4, .ref h5, .ref h6, .ref h7, .ref h8, .ref h9, .ref h10, .ref h11, hv0, hv1, hv2, hv3, hv4])), (h1, .inl (cy 1, 4, .inl (upd (upd (upd (upd fc (0 : Int32).toNatClampNeg 0) (1 : Int32).toNatClampNeg 0) (2 : Int32).toNatClampNeg 0) (3 : Int32).toNatClampNeg 0))), (h7, .inl (cy 1, 48, .inl (fa1_1))), (h11, .inr (3, [.ref h11a, .ref h11b, y2t, y3t])), (h9, .inr (3, [.ref h9a, .ref h9b, .int 0, .int 0])), (h10, .inr (3, [.ref h10a, .ref h10b, .int 0, .int 0]))] H := hP
        have hD : va_D A [(h0, .inr (4, [.ref h1, .ref h2, .ref h3, .ref h4, .ref h5, .ref h6, .ref h7, .ref h8, .ref h9, .ref h10, .ref h11, hv0, hv1, hv2, hv3, hv4])), (h1, .inl (cy 1, 4, .inl (upd (upd (upd (upd fc (0 : Int32).toNatClampNeg 0) (1 : Int32).toNatClampNeg 0) (2 : Int32).toNatClampNeg 0) (3 : Int32).toNatClampNeg 0))), (h7, .inl (cy 1, 48, .inl (fa1_1))), (h11, .inr (3, [.ref h11a, .ref h11b, y2t, y3t])), (h9, .inr (3, [.ref h9a, .ref h9b, .int 0, .int 0])), (h10, .inr (3, [.ref h10a, .ref h10b, .int 0, .int 0]))] := hD
        refine W.widen (k := 0) (n := 0) (Nat.le_of_ble_eq_true rfl) (Nat.le_of_ble_eq_true rfl) ?_
        refine lv_aload_n hx hb dX4_clear_62 rfl (lv_at hl 1 rfl) ?_
        refine va_get (D := D) (ci := 4) (v := .ref h11) (C := RX4) (T := TX4) (N := 16) hx hb hg i_X4 hown hK hP 0 rfl rfl 10 (by decide) (hg _ m_365) (fun _ h9 => h9) rfl dX4_clear_63 ?_
        refine x_callVv (q := (RX3, TX3, 4)) (ci := 3) (q0 := 0) (wr := [(h0, .inr (4, [.ref h1, .ref h2, .ref h3, .ref h4, .ref h5, .ref h6, .ref h7, .ref h8, .ref h9, .ref h10, .ref h11, hv0, hv1, hv2, hv3, hv4])), (h1, .inl (cy 1, 4, .inl (upd (upd (upd (upd fc (0 : Int32).toNatClampNeg 0) (1 : Int32).toNatClampNeg 0) (2 : Int32).toNatClampNeg 0) (3 : Int32).toNatClampNeg 0))), (h7, .inl (cy 1, 48, .inl (fa1_1))), (h9, .inr (3, [.ref h9a, .ref h9b, .int 0, .int 0])), (h10, .inr (3, [.ref h10a, .ref h10b, .int 0, .int 0]))]) (rest := []) ⟨hx, hb, hml, hown, hg, hl.1⟩ k_X4_55 (s_fclear l D cy h11 h11a h11b y2t y3t) E0_blind hK hP hD hS hA [3] [0, 1, 2, 4, 5] ⟨rfl, rfl, by decide, by decide, by decide⟩ rfl rfl (fun _ _ _ => trivial) dX4_clear_66 rfl rfl (Nat.le_of_ble_eq_true rfl) ⟨Nat.le_of_ble_eq_true rfl, Nat.le_of_ble_eq_true rfl⟩ ⟨Nat.le_of_ble_eq_true rfl, Nat.le_of_ble_eq_true rfl⟩ (fun zu6 H locs hw6 hP hD hS => ?_)
        have hP : va_P D vwCl [(h0, .inr (4, [.ref h1, .ref h2, .ref h3, .ref h4, .ref h5, .ref h6, .ref h7, .ref h8, .ref h9, .ref h10, .ref h11, hv0, hv1, hv2, hv3, hv4])), (h1, .inl (cy 1, 4, .inl (upd (upd (upd (upd fc (0 : Int32).toNatClampNeg 0) (1 : Int32).toNatClampNeg 0) (2 : Int32).toNatClampNeg 0) (3 : Int32).toNatClampNeg 0))), (h7, .inl (cy 1, 48, .inl (fa1_1))), (h9, .inr (3, [.ref h9a, .ref h9b, .int 0, .int 0])), (h10, .inr (3, [.ref h10a, .ref h10b, .int 0, .int 0])), (h11, .inr (3, [.ref h11a, .ref h11b, .int 0, .int 0]))] H := hP
        have hD : va_D A [(h0, .inr (4, [.ref h1, .ref h2, .ref h3, .ref h4, .ref h5, .ref h6, .ref h7, .ref h8, .ref h9, .ref h10, .ref h11, hv0, hv1, hv2, hv3, hv4])), (h1, .inl (cy 1, 4, .inl (upd (upd (upd (upd fc (0 : Int32).toNatClampNeg 0) (1 : Int32).toNatClampNeg 0) (2 : Int32).toNatClampNeg 0) (3 : Int32).toNatClampNeg 0))), (h7, .inl (cy 1, 48, .inl (fa1_1))), (h9, .inr (3, [.ref h9a, .ref h9b, .int 0, .int 0])), (h10, .inr (3, [.ref h10a, .ref h10b, .int 0, .int 0])), (h11, .inr (3, [.ref h11a, .ref h11b, .int 0, .int 0]))] := hD
        refine W.widen (k := 0) (n := 0) (Nat.le_of_ble_eq_true rfl) (Nat.le_of_ble_eq_true rfl) ?_
        refine lv_aload_n hx hb dX4_clear_69 rfl (lv_at hl 1 rfl) ?_
        refine lv_iconst (v := 0) hx hb dX4_clear_70 (by decide) ?_
        refine va_put (D := D) (ci := 4) (v := .int 0) (ty := .int) (C := RX4) (T := TX4) (N := 16) hx hb hg i_X4 tyX4 tyX4_ok nmX4 hown hK hP hD hS 0 rfl rfl 11 (by decide) (hg _ m_368) (fun _ h9 => h9) rfl (by decide +kernel) rfl rfl (Nat.le_of_ble_eq_true rfl) dX4_clear_71 (fun H locs hP hD hS => ?_)
        have hP : va_P D vwCl [(h0, .inr (4, [.ref h1, .ref h2, .ref h3, .ref h4, .ref h5, .ref h6, .ref h7, .ref h8, .ref h9, .ref h10, .ref h11, .int 0, hv1, hv2, hv3, hv4])), (h1, .inl (cy 1, 4, .inl (upd (upd (upd (upd fc (0 : Int32).toNatClampNeg 0) (1 : Int32).toNatClampNeg 0) (2 : Int32).toNatClampNeg 0) (3 : Int32).toNatClampNeg 0))), (h7, .inl (cy 1, 48, .inl (fa1_1))), (h9, .inr (3, [.ref h9a, .ref h9b, .int 0, .int 0])), (h10, .inr (3, [.ref h10a, .ref h10b, .int 0, .int 0])), (h11, .inr (3, [.ref h11a, .ref h11b, .int 0, .int 0]))] H := hP
        have hD : va_D A [(h0, .inr (4, [.ref h1, .ref h2, .ref h3, .ref h4, .ref h5, .ref h6, .ref h7, .ref h8, .ref h9, .ref h10, .ref h11, .int 0, hv1, hv2, hv3, hv4])), (h1, .inl (cy 1, 4, .inl (upd (upd (upd (upd fc (0 : Int32).toNatClampNeg 0) (1 : Int32).toNatClampNeg 0) (2 : Int32).toNatClampNeg 0) (3 : Int32).toNatClampNeg 0))), (h7, .inl (cy 1, 48, .inl (fa1_1))), (h9, .inr (3, [.ref h9a, .ref h9b, .int 0, .int 0])), (h10, .inr (3, [.ref h10a, .ref h10b, .int 0, .int 0])), (h11, .inr (3, [.ref h11a, .ref h11b, .int 0, .int 0]))] := hD
        refine lv_aload_n hx hb dX4_clear_74 rfl (lv_at hl 1 rfl) ?_
        refine lv_iconst (v := 0) hx hb dX4_clear_75 (by decide) ?_
        refine va_put (D := D) (ci := 4) (v := .int 0) (ty := .int) (C := RX4) (T := TX4) (N := 16) hx hb hg i_X4 tyX4 tyX4_ok nmX4 hown hK hP hD hS 0 rfl rfl 12 (by decide) (hg _ m_371) (fun _ h9 => h9) rfl (by decide +kernel) rfl rfl (Nat.le_of_ble_eq_true rfl) dX4_clear_76 (fun H locs hP hD hS => ?_)
        have hP : va_P D vwCl [(h0, .inr (4, [.ref h1, .ref h2, .ref h3, .ref h4, .ref h5, .ref h6, .ref h7, .ref h8, .ref h9, .ref h10, .ref h11, .int 0, .int 0, hv2, hv3, hv4])), (h1, .inl (cy 1, 4, .inl (upd (upd (upd (upd fc (0 : Int32).toNatClampNeg 0) (1 : Int32).toNatClampNeg 0) (2 : Int32).toNatClampNeg 0) (3 : Int32).toNatClampNeg 0))), (h7, .inl (cy 1, 48, .inl (fa1_1))), (h9, .inr (3, [.ref h9a, .ref h9b, .int 0, .int 0])), (h10, .inr (3, [.ref h10a, .ref h10b, .int 0, .int 0])), (h11, .inr (3, [.ref h11a, .ref h11b, .int 0, .int 0]))] H := hP
        have hD : va_D A [(h0, .inr (4, [.ref h1, .ref h2, .ref h3, .ref h4, .ref h5, .ref h6, .ref h7, .ref h8, .ref h9, .ref h10, .ref h11, .int 0, .int 0, hv2, hv3, hv4])), (h1, .inl (cy 1, 4, .inl (upd (upd (upd (upd fc (0 : Int32).toNatClampNeg 0) (1 : Int32).toNatClampNeg 0) (2 : Int32).toNatClampNeg 0) (3 : Int32).toNatClampNeg 0))), (h7, .inl (cy 1, 48, .inl (fa1_1))), (h9, .inr (3, [.ref h9a, .ref h9b, .int 0, .int 0])), (h10, .inr (3, [.ref h10a, .ref h10b, .int 0, .int 0])), (h11, .inr (3, [.ref h11a, .ref h11b, .int 0, .int 0]))] := hD
        refine lv_aload_n hx hb dX4_clear_79 rfl (lv_at hl 1 rfl) ?_
        refine lv_iconst (v := 0) hx hb dX4_clear_80 (by decide) ?_
        refine va_put (D := D) (ci := 4) (v := .int 0) (ty := .int) (C := RX4) (T := TX4) (N := 16) hx hb hg i_X4 tyX4 tyX4_ok nmX4 hown hK hP hD hS 0 rfl rfl 13 (by decide) (hg _ m_375) (fun _ h9 => h9) rfl (by decide +kernel) rfl rfl (Nat.le_of_ble_eq_true rfl) dX4_clear_81 (fun H locs hP hD hS => ?_)
        have hP : va_P D vwCl [(h0, .inr (4, [.ref h1, .ref h2, .ref h3, .ref h4, .ref h5, .ref h6, .ref h7, .ref h8, .ref h9, .ref h10, .ref h11, .int 0, .int 0, .int 0, hv3, hv4])), (h1, .inl (cy 1, 4, .inl (upd (upd (upd (upd fc (0 : Int32).toNatClampNeg 0) (1 : Int32).toNatClampNeg 0) (2 : Int32).toNatClampNeg 0) (3 : Int32).toNatClampNeg 0))), (h7, .inl (cy 1, 48, .inl (fa1_1))), (h9, .inr (3, [.ref h9a, .ref h9b, .int 0, .int 0])), (h10, .inr (3, [.ref h10a, .ref h10b, .int 0, .int 0])), (h11, .inr (3, [.ref h11a, .ref h11b, .int 0, .int 0]))] H := hP
        have hD : va_D A [(h0, .inr (4, [.ref h1, .ref h2, .ref h3, .ref h4, .ref h5, .ref h6, .ref h7, .ref h8, .ref h9, .ref h10, .ref h11, .int 0, .int 0, .int 0, hv3, hv4])), (h1, .inl (cy 1, 4, .inl (upd (upd (upd (upd fc (0 : Int32).toNatClampNeg 0) (1 : Int32).toNatClampNeg 0) (2 : Int32).toNatClampNeg 0) (3 : Int32).toNatClampNeg 0))), (h7, .inl (cy 1, 48, .inl (fa1_1))), (h9, .inr (3, [.ref h9a, .ref h9b, .int 0, .int 0])), (h10, .inr (3, [.ref h10a, .ref h10b, .int 0, .int 0])), (h11, .inr (3, [.ref h11a, .ref h11b, .int 0, .int 0]))] := hD
        refine lv_aload_n hx hb dX4_clear_84 rfl (lv_at hl 1 rfl) ?_
        refine lv_iconst (v := 0) hx hb dX4_clear_85 (by decide) ?_
        refine va_put (D := D) (ci := 4) (v := .int 0) (ty := .int) (C := RX4) (T := TX4) (N := 16) hx hb hg i_X4 tyX4 tyX4_ok nmX4 hown hK hP hD hS 0 rfl rfl 14 (by decide) (hg _ m_379) (fun _ h9 => h9) rfl (by decide +kernel) rfl rfl (Nat.le_of_ble_eq_true rfl) dX4_clear_86 (fun H locs hP hD hS => ?_)
        have hP : va_P D vwCl [(h0, .inr (4, [.ref h1, .ref h2, .ref h3, .ref h4, .ref h5, .ref h6, .ref h7, .ref h8, .ref h9, .ref h10, .ref h11, .int 0, .int 0, .int 0, .int 0, hv4])), (h1, .inl (cy 1, 4, .inl (upd (upd (upd (upd fc (0 : Int32).toNatClampNeg 0) (1 : Int32).toNatClampNeg 0) (2 : Int32).toNatClampNeg 0) (3 : Int32).toNatClampNeg 0))), (h7, .inl (cy 1, 48, .inl (fa1_1))), (h9, .inr (3, [.ref h9a, .ref h9b, .int 0, .int 0])), (h10, .inr (3, [.ref h10a, .ref h10b, .int 0, .int 0])), (h11, .inr (3, [.ref h11a, .ref h11b, .int 0, .int 0]))] H := hP
        have hD : va_D A [(h0, .inr (4, [.ref h1, .ref h2, .ref h3, .ref h4, .ref h5, .ref h6, .ref h7, .ref h8, .ref h9, .ref h10, .ref h11, .int 0, .int 0, .int 0, .int 0, hv4])), (h1, .inl (cy 1, 4, .inl (upd (upd (upd (upd fc (0 : Int32).toNatClampNeg 0) (1 : Int32).toNatClampNeg 0) (2 : Int32).toNatClampNeg 0) (3 : Int32).toNatClampNeg 0))), (h7, .inl (cy 1, 48, .inl (fa1_1))), (h9, .inr (3, [.ref h9a, .ref h9b, .int 0, .int 0])), (h10, .inr (3, [.ref h10a, .ref h10b, .int 0, .int 0])), (h11, .inr (3, [.ref h11a, .ref h11b, .int 0, .int 0]))] := hD
        refine lv_aload_n hx hb dX4_clear_89 rfl (lv_at hl 1 rfl) ?_
        refine lv_iconst (v := 0) hx hb dX4_clear_90 (by decide) ?_
        refine va_put (D := D) (ci := 4) (v := .int 0) (ty := .int) (C := RX4) (T := TX4) (N := 16) hx hb hg i_X4 tyX4 tyX4_ok nmX4 hown hK hP hD hS 0 rfl rfl 15 (by decide) (hg _ m_381) (fun _ h9 => h9) rfl (by decide +kernel) rfl rfl (Nat.le_of_ble_eq_true rfl) dX4_clear_91 (fun H locs hP hD hS => ?_)
        have hP : va_P D vwCl [(h0, .inr (4, [.ref h1, .ref h2, .ref h3, .ref h4, .ref h5, .ref h6, .ref h7, .ref h8, .ref h9, .ref h10, .ref h11, .int 0, .int 0, .int 0, .int 0, .int 0])), (h1, .inl (cy 1, 4, .inl (upd (upd (upd (upd fc (0 : Int32).toNatClampNeg 0) (1 : Int32).toNatClampNeg 0) (2 : Int32).toNatClampNeg 0) (3 : Int32).toNatClampNeg 0))), (h7, .inl (cy 1, 48, .inl (fa1_1))), (h9, .inr (3, [.ref h9a, .ref h9b, .int 0, .int 0])), (h10, .inr (3, [.ref h10a, .ref h10b, .int 0, .int 0])), (h11, .inr (3, [.ref h11a, .ref h11b, .int 0, .int 0]))] H := hP
        have hD : va_D A [(h0, .inr (4, [.ref h1, .ref h2, .ref h3, .ref h4, .ref h5, .ref h6, .ref h7, .ref h8, .ref h9, .ref h10, .ref h11, .int 0, .int 0, .int 0, .int 0, .int 0])), (h1, .inl (cy 1, 4, .inl (upd (upd (upd (upd fc (0 : Int32).toNatClampNeg 0) (1 : Int32).toNatClampNeg 0) (2 : Int32).toNatClampNeg 0) (3 : Int32).toNatClampNeg 0))), (h7, .inl (cy 1, 48, .inl (fa1_1))), (h9, .inr (3, [.ref h9a, .ref h9b, .int 0, .int 0])), (h10, .inr (3, [.ref h10a, .ref h10b, .int 0, .int 0])), (h11, .inr (3, [.ref h11a, .ref h11b, .int 0, .int 0]))] := hD
        exact x_vret hQ hx hb hr hlocks hK hP hD hS dX4_clear_94 (upd (upd (upd (upd fc (0 : Int32).toNatClampNeg 0) (1 : Int32).toNatClampNeg 0) (2 : Int32).toNatClampNeg 0) (3 : Int32).toNatClampNeg 0, fa1_1) (⟨clr4, mTo_nx hf1_1 (by omega)⟩) [0, 1, 2, 3, 4, 5] (by decide) rfl (Nat.le_of_ble_eq_true rfl) (Nat.le_of_ble_eq_true rfl)
      · have q_3 : i1 < 48 := q_nle (a := 48) (b := i1) rfl rfl (by omega) (by omega) c_2
        refine lv_aload_n hx hb dX4_clear_35 rfl (lv_at hl 1 rfl) ?_
        refine va_get (D := D) (ci := 4) (v := .ref h7) (C := RX4) (T := TX4) (N := 16) hx hb hg i_X4 hown hK hP 0 rfl rfl 6 (by decide) (hg _ m_354) (fun _ h9 => h9) rfl dX4_clear_36 ?_
        refine lv_iload_n hx hb dX4_clear_39 rfl (lv_at hl 0 rfl) ?_
        refine lv_iconst (v := -1) hx hb dX4_clear_40 (by decide) ?_
        refine va_iast hx hb hK hP hD hS 2 1 rfl rfl (vp_in_nI (by omega) (by decide)) dX4_clear_41 (fun H locs hP hD hS => ?_)
        obtain ⟨g_7, eg_7⟩ : ∃ y, upd fa1_1 (nI i1 : Int32).toNatClampNeg (-1) = y := ⟨_, rfl⟩
        rw [eg_7] at hP hD
        have hP : va_P D vwCl [(h0, .inr (4, [.ref h1, .ref h2, .ref h3, .ref h4, .ref h5, .ref h6, .ref h7, .ref h8, .ref h9, .ref h10, .ref h11, hv0, hv1, hv2, hv3, hv4])), (h1, .inl (cy 1, 4, .inl (upd (upd (upd (upd fc (0 : Int32).toNatClampNeg 0) (1 : Int32).toNatClampNeg 0) (2 : Int32).toNatClampNeg 0) (3 : Int32).toNatClampNeg 0))), (h7, .inl (cy 1, 48, .inl (g_7))), (h9, .inr (3, [.ref h9a, .ref h9b, y2b, y3b])), (h10, .inr (3, [.ref h10a, .ref h10b, y2l, y3l])), (h11, .inr (3, [.ref h11a, .ref h11b, y2t, y3t]))] H := hP
        have hD : va_D A [(h0, .inr (4, [.ref h1, .ref h2, .ref h3, .ref h4, .ref h5, .ref h6, .ref h7, .ref h8, .ref h9, .ref h10, .ref h11, hv0, hv1, hv2, hv3, hv4])), (h1, .inl (cy 1, 4, .inl (upd (upd (upd (upd fc (0 : Int32).toNatClampNeg 0) (1 : Int32).toNatClampNeg 0) (2 : Int32).toNatClampNeg 0) (3 : Int32).toNatClampNeg 0))), (h7, .inl (cy 1, 48, .inl (g_7))), (h9, .inr (3, [.ref h9a, .ref h9b, y2b, y3b])), (h10, .inr (3, [.ref h10a, .ref h10b, y2l, y3l])), (h11, .inr (3, [.ref h11a, .ref h11b, y2t, y3t]))] := hD
        have hm_8 : mTo g_7 (i1 + 1) := eg_7 ▸ mTo_put hf1_1 (by omega)
        refine lv_iinc (v := nI (i1 + 1)) (lv' := [(1, .int (nI (i1 + 1))), (0, .ref h0)]) hx hb dX4_clear_42 hl (k := 0) rfl (nI_add i1 1) (by decide) rfl (fun ls hl => ?_)
        refine lv_goto (tgt := 26) hx hb dX4_clear_45 (by decide) ?_
        exact ih1  ((i1 + 1)) g_7 (by omega) (hm_8) (by omega) _ _ (hP.sub [0, 1, 2, 3, 4, 5] rfl) (hD.sub [0, 1, 2, 3, 4, 5] (by decide) rfl) hS ls (lv_sub hl [0, 1] rfl)
  exact loop1 _ 0 fx (by omega) (fun k hk => absurd hk (by omega)) (Nat.le_refl _) _ _ (hP.sub [0, 1, 2, 3, 4, 5] rfl) (hD.sub [0, 1, 2, 3, 4, 5] (by decide) rfl) hS ls (lv_sub hl [0, 1] rfl)
theorem dX4_settle_0 : decode cX4_settle 0 = .ok (.iconst 0, 1) := by decide +kernel
theorem dX4_settle_1 : decode cX4_settle 1 = .ok (.istore_n 1, 1) := by decide +kernel
theorem dX4_settle_2 : decode cX4_settle 2 = .ok (.iload_n 1, 1) := by decide +kernel
theorem dX4_settle_3 : decode cX4_settle 3 = .ok (.aload_n 0, 1) := by decide +kernel
theorem dX4_settle_4 : decode cX4_settle 4 = .ok (.getfield 30, 3) := by decide +kernel
theorem dX4_settle_7 : decode cX4_settle 7 = .ok (.arraylength, 1) := by decide +kernel
theorem dX4_settle_8 : decode cX4_settle 8 = .ok (.if_icmp .ge 29, 3) := by decide +kernel
theorem dX4_settle_37 : decode cX4_settle 37 = .ok (.return_, 1) := by decide +kernel
theorem dX4_settle_11 : decode cX4_settle 11 = .ok (.aload_n 0, 1) := by decide +kernel
theorem dX4_settle_12 : decode cX4_settle 12 = .ok (.getfield 30, 3) := by decide +kernel
theorem dX4_settle_15 : decode cX4_settle 15 = .ok (.iload_n 1, 1) := by decide +kernel
theorem dX4_settle_16 : decode cX4_settle 16 = .ok (.iaload, 1) := by decide +kernel
theorem dX4_settle_17 : decode cX4_settle 17 = .ok (.iconst (-1), 1) := by decide +kernel
theorem dX4_settle_18 : decode cX4_settle 18 = .ok (.if_icmp .ne 13, 3) := by decide +kernel
theorem dX4_settle_31 : decode cX4_settle 31 = .ok (.iinc 1 1, 3) := by decide +kernel
theorem dX4_settle_34 : decode cX4_settle 34 = .ok (.goto (-32), 3) := by decide +kernel
theorem dX4_settle_21 : decode cX4_settle 21 = .ok (.aload_n 0, 1) := by decide +kernel
theorem dX4_settle_22 : decode cX4_settle 22 = .ok (.getfield 30, 3) := by decide +kernel
theorem dX4_settle_25 : decode cX4_settle 25 = .ok (.iload_n 1, 1) := by decide +kernel
theorem dX4_settle_26 : decode cX4_settle 26 = .ok (.iload_n 1, 1) := by decide +kernel
theorem dX4_settle_27 : decode cX4_settle 27 = .ok (.bipush 8, 2) := by decide +kernel
theorem dX4_settle_29 : decode cX4_settle 29 = .ok (.idiv, 1) := by decide +kernel
theorem dX4_settle_30 : decode cX4_settle 30 = .ok (.iastore, 1) := by decide +kernel
set_option maxHeartbeats 1000000 in
set_option maxRecDepth 100000 in
theorem s_settle (l : Launch) (D : va_G) (cy : Nat → ClassId) (h0 : Nat) (h1 : Nat) (h2 : Nat) (h3 : Nat) (h4 : Nat) (h5 : Nat) (h6 : Nat) (h7 : Nat) (h8 : Nat) (h9 : Nat) (h10 : Nat) (h11 : Nat) (hv0 : Value) (hv1 : Value) (hv2 : Value) (hv3 : Value) (hv4 : Value) (fx : Nat → Int32) (hnx : nxT fx) : XMv l D (tyL cy) E0 yX4_settle cX4_settle 2 none (rmk 0 0 0) [.ref h0] [(h0, .inr (4, [.ref h1, .ref h2, .ref h3, .ref h4, .ref h5, .ref h6, .ref h7, .ref h8, .ref h9, .ref h10, .ref h11, hv0, hv1, hv2, hv3, hv4])), (h7, .inl (cy 1, 48, .inl (fx)))] (fun (fx2 : Nat → Int32) => (rng fx2 48 5)) (fun (fx2 : Nat → Int32) => [(h0, .inr (4, [.ref h1, .ref h2, .ref h3, .ref h4, .ref h5, .ref h6, .ref h7, .ref h8, .ref h9, .ref h10, .ref h11, hv0, hv1, hv2, hv3, hv4])), (h7, .inl (cy 1, 48, .inl (fx2)))]) := by
  refine XMv.start (by decide) (Nat.le_of_ble_eq_true rfl) ?_
  intro p e s m below meth c args A ls Q hat hQ
  obtain ⟨hx, hb, hr, hml, hown, hg, hlocks, hin, hK, hA, hP, hD, hS, hE, hl⟩ := hat
  have hown : s.vm.findClass RX4 = some m.cls := hown
  have hl : lv_has ls 2 [(0, .ref h0)] := hl
  have hs0 := stTo_0 hnx
  refine lv_iconst (v := 0) hx hb dX4_settle_0 (by decide) ?_
  refine lv_istore_n (lv' := [(1, .int 0), (0, .ref h0)]) hx hb dX4_settle_1 rfl hl (by decide) rfl (fun ls hl => ?_)
  have loop1 : ∀ (zn : Nat) (i1 : Nat) (fa1_1 : Nat → Int32), (stTo fa1_1 i1) → (i1 ≤ 48) → 48 - i1 + 1 ≤ zn → ∀ (H : Heap) (locs : List Loc), va_P D vwCl [(h0, .inr (4, [.ref h1, .ref h2, .ref h3, .ref h4, .ref h5, .ref h6, .ref h7, .ref h8, .ref h9, .ref h10, .ref h11, hv0, hv1, hv2, hv3, hv4])), (h7, .inl (cy 1, 48, .inl (fa1_1)))] H → va_D A [(h0, .inr (4, [.ref h1, .ref h2, .ref h3, .ref h4, .ref h5, .ref h6, .ref h7, .ref h8, .ref h9, .ref h10, .ref h11, hv0, hv1, hv2, hv3, hv4])), (h7, .inl (cy 1, 48, .inl (fa1_1)))] → va_S A s.heap H locs → ∀ ls : Array Slot, lv_has ls 2 [(1, .int (nI i1)), (0, .ref h0)] → W p l e (rmk 0 0 0) s m args below meth c H locs 0 0 Q (F0 m 2 ls []) := by
    intro zn
    induction zn with
    | zero => intro i1 fa1_1 _ _ hz; exact absurd hz (by omega)
    | succ zn ih1 =>
      intro i1 fa1_1 ha2_1 hf0_1 hmu1 H locs hP hD hS ls hl
      refine lv_iload_n hx hb dX4_settle_2 rfl (lv_at hl 0 rfl) ?_
      refine lv_aload_n hx hb dX4_settle_3 rfl (lv_at hl 1 rfl) ?_
      refine va_get (D := D) (ci := 4) (v := .ref h7) (C := RX4) (T := TX4) (N := 16) hx hb hg i_X4 hown hK hP 0 rfl rfl 6 (by decide) (hg _ m_354) (fun _ h9 => h9) rfl dX4_settle_4 ?_
      refine va_alen (v := 48) hx hb hK hP 1 1 rfl rfl rfl dX4_settle_7 ?_
      refine lv_icmp_ge (tgt := 37) hx hb dX4_settle_8 (by decide) (fun c_2 => ?_) (fun c_2 => ?_)
      · have q_3 : 48 ≤ i1 := q_le (a := 48) (b := i1) rfl rfl (by omega) (by omega) c_2
        exact x_vret hQ hx hb hr hlocks hK hP hD hS dX4_settle_37 fa1_1 ((show rng fa1_1 48 5 from stTo_rng ha2_1 (by omega))) [0, 1] (by decide) rfl (Nat.le_of_ble_eq_true rfl) (Nat.le_of_ble_eq_true rfl)
      · have q_3 : i1 < 48 := q_nle (a := 48) (b := i1) rfl rfl (by omega) (by omega) c_2
        refine lv_aload_n hx hb dX4_settle_11 rfl (lv_at hl 1 rfl) ?_
        refine va_get (D := D) (ci := 4) (v := .ref h7) (C := RX4) (T := TX4) (N := 16) hx hb hg i_X4 hown hK hP 0 rfl rfl 6 (by decide) (hg _ m_354) (fun _ h9 => h9) rfl dX4_settle_12 ?_
        refine lv_iload_n hx hb dX4_settle_15 rfl (lv_at hl 0 rfl) ?_
        refine va_iald hx hb hK hP 1 1 rfl rfl (vp_in_nI (by omega) (by decide)) dX4_settle_16 ?_
        refine lv_topi (fun x_4 ex_4 => ?_)
        refine lv_iconst (v := -1) hx hb dX4_settle_17 (by decide) ?_
        refine lv_icmp_ne (tgt := 31) hx hb dX4_settle_18 (by decide) (fun c_18 => ?_) (fun c_18 => ?_)
        · have hk_5 : stTo fa1_1 (i1 + 1) := stTo_keep ha2_1 (by omega) ex_4 c_18
          refine lv_iinc (v := nI (i1 + 1)) (lv' := [(1, .int (nI (i1 + 1))), (0, .ref h0)]) hx hb dX4_settle_31 hl (k := 0) rfl (nI_add i1 1) (by decide) rfl (fun ls hl => ?_)
          refine lv_goto (tgt := 2) hx hb dX4_settle_34 (by decide) ?_
          exact ih1  ((i1 + 1)) fa1_1 hk_5 (by omega) (by omega) _ _ (hP.sub [0, 1] rfl) (hD.sub [0, 1] (by decide) rfl) hS ls (lv_sub hl [0, 1] rfl)
        · refine lv_aload_n hx hb dX4_settle_21 rfl (lv_at hl 1 rfl) ?_
          refine va_get (D := D) (ci := 4) (v := .ref h7) (C := RX4) (T := TX4) (N := 16) hx hb hg i_X4 hown hK hP 0 rfl rfl 6 (by decide) (hg _ m_354) (fun _ h9 => h9) rfl dX4_settle_22 ?_
          refine lv_iload_n hx hb dX4_settle_25 rfl (lv_at hl 0 rfl) ?_
          refine lv_iload_n hx hb dX4_settle_26 rfl (lv_at hl 0 rfl) ?_
          refine lv_bipush (v := 8) hx hb dX4_settle_27 (by decide) ?_
          refine lv_idiv hx hb dX4_settle_29 (by decide) ?_
          refine lv_topi (fun y_6 hy_6 => ?_)
          obtain rfl : y_6 = nI (i1 / 8) := hy_6.trans (pk_div (a := i1) (d := 8) (by omega) (by decide) (by decide))
          refine va_iast hx hb hK hP hD hS 1 1 rfl rfl (vp_in_nI (by omega) (by decide)) dX4_settle_30 (fun H locs hP hD hS => ?_)
          obtain ⟨g_7, eg_7⟩ : ∃ y, upd fa1_1 (nI i1 : Int32).toNatClampNeg (nI (i1 / 8)) = y := ⟨_, rfl⟩
          rw [eg_7] at hP hD
          have hr_8 : stTo g_7 (i1 + 1) := eg_7 ▸ stTo_put ha2_1 (by omega) (by omega)
          have hP : va_P D vwCl [(h0, .inr (4, [.ref h1, .ref h2, .ref h3, .ref h4, .ref h5, .ref h6, .ref h7, .ref h8, .ref h9, .ref h10, .ref h11, hv0, hv1, hv2, hv3, hv4])), (h7, .inl (cy 1, 48, .inl (g_7)))] H := hP
          have hD : va_D A [(h0, .inr (4, [.ref h1, .ref h2, .ref h3, .ref h4, .ref h5, .ref h6, .ref h7, .ref h8, .ref h9, .ref h10, .ref h11, hv0, hv1, hv2, hv3, hv4])), (h7, .inl (cy 1, 48, .inl (g_7)))] := hD
          refine lv_iinc (v := nI (i1 + 1)) (lv' := [(1, .int (nI (i1 + 1))), (0, .ref h0)]) hx hb dX4_settle_31 hl (k := 0) rfl (nI_add i1 1) (by decide) rfl (fun ls hl => ?_)
          refine lv_goto (tgt := 2) hx hb dX4_settle_34 (by decide) ?_
          exact ih1  ((i1 + 1)) g_7 hr_8 (by omega) (by omega) _ _ (hP.sub [0, 1] rfl) (hD.sub [0, 1] (by decide) rfl) hS ls (lv_sub hl [0, 1] rfl)
  exact loop1 _ 0 fx hs0 (by omega) (Nat.le_refl _) _ _ (hP.sub [0, 1] rfl) (hD.sub [0, 1] (by decide) rfl) hS ls (lv_sub hl [0, 1] rfl)
theorem dX10_tellWord_0 : decode cX10_tellWord 0 = .ok (.aload_n 0, 1) := by decide +kernel
theorem dX10_tellWord_1 : decode cX10_tellWord 1 = .ok (.getfield 24, 3) := by decide +kernel
theorem dX10_tellWord_4 : decode cX10_tellWord 4 = .ok (.getfield 114, 3) := by decide +kernel
theorem dX10_tellWord_7 : decode cX10_tellWord 7 = .ok (.iconst 0, 1) := by decide +kernel
theorem dX10_tellWord_8 : decode cX10_tellWord 8 = .ok (.iaload, 1) := by decide +kernel
theorem dX10_tellWord_9 : decode cX10_tellWord 9 = .ok (.istore_n 1, 1) := by decide +kernel
theorem dX10_tellWord_10 : decode cX10_tellWord 10 = .ok (.aload_n 0, 1) := by decide +kernel
theorem dX10_tellWord_11 : decode cX10_tellWord 11 = .ok (.iconst 0, 1) := by decide +kernel
theorem dX10_tellWord_12 : decode cX10_tellWord 12 = .ok (.bipush 8, 2) := by decide +kernel
theorem dX10_tellWord_14 : decode cX10_tellWord 14 = .ok (.invokevirtual 117, 3) := by decide +kernel
set_option maxRecDepth 100000 in
theorem m_818 : (Cond.methodLink RX10 117 yX10_takeNew) ∈ gT := gm 818 rfl rfl
set_option maxRecDepth 100000 in
theorem m_820 : (Cond.instanceMethod yX10_takeNew) ∈ gT := gm 820 rfl rfl
set_option maxRecDepth 100000 in
theorem m_7 : (Cond.selects RX10 yX10_takeNew yX10_takeNew) ∈ gT := gm 7 rfl rfl
set_option maxRecDepth 100000 in
theorem m_821 : (Cond.code yX10_takeNew cX10_takeNew 4 (some .boolean)) ∈ gT := gm 821 rfl rfl
theorem k_X10_117 : xV RX10 RX10 117 yX10_takeNew cX10_takeNew 4 (some .boolean) 2 := ⟨⟨m_818, m_820, m_7, m_136, m_821⟩, rfl, by decide, by decide, by decide +kernel⟩
theorem dX10_tellWord_17 : decode cX10_tellWord 17 = .ok (.ifCond .eq 33, 3) := by decide +kernel
theorem dX10_tellWord_50 : decode cX10_tellWord 50 = .ok (.iconst 0, 1) := by decide +kernel
theorem dX10_tellWord_51 : decode cX10_tellWord 51 = .ok (.ireturn, 1) := by decide +kernel
theorem dX10_tellWord_20 : decode cX10_tellWord 20 = .ok (.aload_n 0, 1) := by decide +kernel
theorem dX10_tellWord_21 : decode cX10_tellWord 21 = .ok (.bipush 121, 2) := by decide +kernel
theorem dX10_tellWord_23 : decode cX10_tellWord 23 = .ok (.aload_n 0, 1) := by decide +kernel
theorem dX10_tellWord_24 : decode cX10_tellWord 24 = .ok (.getfield 24, 3) := by decide +kernel
theorem dX10_tellWord_27 : decode cX10_tellWord 27 = .ok (.getfield 121, 3) := by decide +kernel
set_option maxRecDepth 100000 in
theorem m_340 : (Cond.fieldLink RX10 121 "CliffJudges$Hills" "loud" "[I") ∈ gT := gm 340 rfl rfl
theorem dX10_tellWord_30 : decode cX10_tellWord 30 = .ok (.iload_n 1, 1) := by decide +kernel
theorem dX10_tellWord_31 : decode cX10_tellWord 31 = .ok (.invokevirtual 124, 3) := by decide +kernel
set_option maxRecDepth 100000 in
theorem m_831 : (Cond.methodLink RX10 124 yX10_takeOption) ∈ gT := gm 831 rfl rfl
set_option maxRecDepth 100000 in
theorem m_833 : (Cond.instanceMethod yX10_takeOption) ∈ gT := gm 833 rfl rfl
set_option maxRecDepth 100000 in
theorem m_10 : (Cond.selects RX10 yX10_takeOption yX10_takeOption) ∈ gT := gm 10 rfl rfl
set_option maxRecDepth 100000 in
theorem m_834 : (Cond.code yX10_takeOption cX10_takeOption 4 (some .boolean)) ∈ gT := gm 834 rfl rfl
theorem k_X10_124 : xV RX10 RX10 124 yX10_takeOption cX10_takeOption 4 (some .boolean) 3 := ⟨⟨m_831, m_833, m_10, m_136, m_834⟩, rfl, by decide, by decide, by decide +kernel⟩
theorem dX10_tellWord_34 : decode cX10_tellWord 34 = .ok (.ifCond .eq 16, 3) := by decide +kernel
theorem dX10_tellWord_37 : decode cX10_tellWord 37 = .ok (.aload_n 0, 1) := by decide +kernel
theorem dX10_tellWord_38 : decode cX10_tellWord 38 = .ok (.bipush 59, 2) := by decide +kernel
theorem dX10_tellWord_40 : decode cX10_tellWord 40 = .ok (.invokevirtual 128, 3) := by decide +kernel
theorem dX10_tellWord_43 : decode cX10_tellWord 43 = .ok (.ifCond .eq 7, 3) := by decide +kernel
theorem dX10_tellWord_46 : decode cX10_tellWord 46 = .ok (.iconst 1, 1) := by decide +kernel
theorem dX10_tellWord_47 : decode cX10_tellWord 47 = .ok (.goto 4, 3) := by decide +kernel
set_option maxHeartbeats 1000000 in
set_option maxRecDepth 100000 in
theorem s_tellWord (l : Launch) (D : va_G) (cy : Nat → ClassId) (adK : Nat → Nat) (adV : Nat → Nat) (d0 : Nat) (d1 : Nat) (uh : Int32) (wt : Int32) (dt : Int32) (vv : Int32) (fq : Int32) (pq : Int32) (yf : Value) (t0 : Nat) (t1 : Nat) (t2 : Nat) (tn : Nat) (ta : Nat) (ts : Nat) (tk : Nat) (tm : Int64) (tr : Int32) (fby : Nat → Int32) (fky : Nat → Int64) (h0 : Nat) (h1 : Nat) (h2 : Nat) (h3 : Nat) (h4 : Nat) (h5 : Nat) (h6 : Nat) (h7 : Nat) (h8 : Nat) (h9 : Nat) (h10 : Nat) (h11 : Nat) (hv0 : Value) (hv1 : Value) (hv2 : Value) (hv3 : Value) (hv4 : Value) (fc : Nat → Int32) (c0 : Nat) (c1 : Nat) (c2 : Nat) (c3 : Nat) (flo : Nat → Int32) (d2 : Nat) (d3 : Nat) (d4 : Nat) (d5 : Nat) (fd0 : Nat → Int64) (hcn : cntOK fc c0 c1 c2 c3) (hc0 : c0 ≤ 8) (hc1 : c1 ≤ 4) (hc2 : c2 ≤ 4) (hc3 : c3 ≤ 6) (htn : tn ≤ 1600) (hta : ta ≤ tn) (htk : tk ≤ 255) (hnu : nuOK tk tr) : XMi l D (tyL cy) (EV adK adV) yX10_tellWord cX10_tellWord 2 (some .boolean) (rmk 9 0 0) [.ref d0] [(d0, .inr (10, [.ref t0, .ref d1, .ref h0, yf, .int uh, .int wt, .int dt, .int vv, .int fq, .int pq])), (t0, .inr (9, [.ref t1, .ref t2, .int (nI tn), .int (nI ta), .int (nI ts), .int (nI tk), .long tm, .int tr])), (t1, .inl (cy 0, 1600, .inl (fby))), (t2, .inl (cy 2, 24, .inr (.inl (fky)))), (h0, .inr (4, [.ref h1, .ref h2, .ref h3, .ref h4, .ref h5, .ref h6, .ref h7, .ref h8, .ref h9, .ref h10, .ref h11, hv0, hv1, hv2, hv3, hv4])), (h1, .inl (cy 1, 4, .inl (fc))), (h2, .inl (cy 1, 8, .inl (flo))), (d1, .inl (cy 5, 4, .inr (.inr (.inr (.inr (eF d2 d3 d4 d5)))))), (d2, .inl (cy 2, 8, .inr (.inl (fd0))))] (fun (r : Int32) (u : Nat × Nat × Nat × Int64 × Int32 × Int32 × Int32 × Int32 × Nat × (Nat → Int32) × (Nat → Int64) × (Nat → Int32)) => (r = 0 ∨ r = 1) ∧ (u.1 ≤ tn) ∧ (u.2.2.1 ≤ 255) ∧ (nuOK u.2.2.1 u.2.2.2.2.1) ∧ (cntOK u.2.2.2.2.2.2.2.2.2.1 u.2.2.2.2.2.2.2.2.1 c1 c2 c3) ∧ (u.2.2.2.2.2.2.2.2.1 ≤ 8)) (fun (u : Nat × Nat × Nat × Int64 × Int32 × Int32 × Int32 × Int32 × Nat × (Nat → Int32) × (Nat → Int64) × (Nat → Int32)) => [(d0, .inr (10, [.ref t0, .ref d1, .ref h0, yf, .int uh, .int wt, .int dt, .int u.2.2.2.2.2.2.2.1, .int u.2.2.2.2.2.1, .int u.2.2.2.2.2.2.1])), (t0, .inr (9, [.ref t1, .ref t2, .int (nI tn), .int (nI u.1), .int (nI u.2.1), .int (nI u.2.2.1), .long u.2.2.2.1, .int u.2.2.2.2.1])), (t1, .inl (cy 0, 1600, .inl (fby))), (t2, .inl (cy 2, 24, .inr (.inl (fky)))), (h0, .inr (4, [.ref h1, .ref h2, .ref h3, .ref h4, .ref h5, .ref h6, .ref h7, .ref h8, .ref h9, .ref h10, .ref h11, hv0, hv1, hv2, hv3, hv4])), (h1, .inl (cy 1, 4, .inl (u.2.2.2.2.2.2.2.2.2.1))), (h2, .inl (cy 1, 8, .inl (u.2.2.2.2.2.2.2.2.2.2.2))), (d1, .inl (cy 5, 4, .inr (.inr (.inr (.inr (eF d2 d3 d4 d5)))))), (d2, .inl (cy 2, 8, .inr (.inl (u.2.2.2.2.2.2.2.2.2.2.1))))]) := by
  refine XMi.start (by decide) (Nat.le_of_ble_eq_true rfl) ?_
  intro p e s m below meth c args A ls Q hat hQ
  obtain ⟨hx, hb, hr, hml, hown, hg, hlocks, hin, hK, hA, hP, hD, hS, hE, hl⟩ := hat
  have hown : s.vm.findClass RX10 = some m.cls := hown
  have hl : lv_has ls 2 [(0, .ref d0)] := hl
  refine lv_aload_n hx hb dX10_tellWord_0 rfl (lv_at hl 0 rfl) ?_
  refine va_get (D := D) (ci := 10) (v := .ref h0) (C := RX10) (T := TX10) (N := 10) hx hb hg i_X10 hown hK hP 0 rfl rfl 2 (by decide) (hg _ m_257) (fun _ h9 => h9) rfl dX10_tellWord_1 ?_
  refine va_get (D := D) (ci := 4) (v := .ref h1) (C := RX4) (T := TX4) (N := 16) hx hb hg i_X4 hown hK hP 4 rfl rfl 0 (by decide) (hg _ m_336) (fun _ h9 => h9) rfl dX10_tellWord_4 ?_
  refine lv_iconst (v := 0) hx hb dX10_tellWord_7 (by decide) ?_
  refine va_iald hx hb hK hP 5 1 rfl rfl (by unfold vp_in; decide) dX10_tellWord_8 ?_
  refine lv_topi (fun y_1 hy_1 => ?_)
  obtain rfl : y_1 = nI c0 := hy_1.trans hcn.1
  refine lv_istore_n (lv' := [(1, .int (nI c0)), (0, .ref d0)]) hx hb dX10_tellWord_9 rfl hl (by decide) rfl (fun ls hl => ?_)
  refine lv_aload_n hx hb dX10_tellWord_10 rfl (lv_at hl 1 rfl) ?_
  refine lv_iconst (v := 0) hx hb dX10_tellWord_11 (by decide) ?_
  refine lv_bipush (v := 8) hx hb dX10_tellWord_12 (by decide) ?_
  refine x_callVi (q := (RX10, TX10, 10)) (ci := 10) (q0 := 0) (wr := [(h2, .inl (cy 1, 8, .inl (flo)))]) (rest := []) ⟨hx, hb, hml, hown, hg, hl.1⟩ k_X10_117 (s_takeNew0 l D cy adK adV d0 d1 uh wt dt vv fq pq yf t0 t1 t2 tn ta ts tk tm tr fby fky h0 h1 h2 h3 h4 h5 h6 h7 h8 h9 h10 h11 hv0 hv1 hv2 hv3 hv4 fc c0 c1 c2 c3 d2 d3 d4 d5 fd0 (hcn) (by omega) (by omega) (by omega) (by omega) (by omega) (by omega) (by omega) (hnu)) EV_blind hK hP hD hS hA [0, 1, 2, 3, 4, 5, 7, 8] [6] ⟨rfl, rfl, by decide, by decide, by decide⟩ rfl rfl (fun U hU hW => EV_pass hE hS (va_free hD hS hA [0, 1, 2, 3, 4, 5, 7, 8] rfl) hU hW) dX10_tellWord_14 rfl rfl (Nat.le_of_ble_eq_true rfl) ⟨Nat.le_of_ble_eq_true rfl, Nat.le_of_ble_eq_true rfl⟩ ⟨Nat.le_of_ble_eq_true rfl, Nat.le_of_ble_eq_true rfl⟩ (fun zr2 zu2 H locs hw2 hP hD hS => ?_)
  obtain ⟨ta2_3, ts2_4, tk2_5, tm2_6, tr2_7, fq2_8, pq2_9, k2_10, fc2_11, fd2_12⟩ := zu2
  have hP : va_P D vwCl [(h2, .inl (cy 1, 8, .inl (flo))), (d0, .inr (10, [.ref t0, .ref d1, .ref h0, yf, .int uh, .int wt, .int dt, .int vv, .int fq2_8, .int pq2_9])), (t0, .inr (9, [.ref t1, .ref t2, .int (nI tn), .int (nI ta2_3), .int (nI ts2_4), .int (nI tk2_5), .long tm2_6, .int tr2_7])), (t1, .inl (cy 0, 1600, .inl (fby))), (t2, .inl (cy 2, 24, .inr (.inl (fky)))), (h0, .inr (4, [.ref h1, .ref h2, .ref h3, .ref h4, .ref h5, .ref h6, .ref h7, .ref h8, .ref h9, .ref h10, .ref h11, hv0, hv1, hv2, hv3, hv4])), (h1, .inl (cy 1, 4, .inl (fc2_11))), (d1, .inl (cy 5, 4, .inr (.inr (.inr (.inr (eF d2 d3 d4 d5)))))), (d2, .inl (cy 2, 8, .inr (.inl (fd2_12))))] H := hP
  have hD : va_D A [(h2, .inl (cy 1, 8, .inl (flo))), (d0, .inr (10, [.ref t0, .ref d1, .ref h0, yf, .int uh, .int wt, .int dt, .int vv, .int fq2_8, .int pq2_9])), (t0, .inr (9, [.ref t1, .ref t2, .int (nI tn), .int (nI ta2_3), .int (nI ts2_4), .int (nI tk2_5), .long tm2_6, .int tr2_7])), (t1, .inl (cy 0, 1600, .inl (fby))), (t2, .inl (cy 2, 24, .inr (.inl (fky)))), (h0, .inr (4, [.ref h1, .ref h2, .ref h3, .ref h4, .ref h5, .ref h6, .ref h7, .ref h8, .ref h9, .ref h10, .ref h11, hv0, hv1, hv2, hv3, hv4])), (h1, .inl (cy 1, 4, .inl (fc2_11))), (d1, .inl (cy 5, 4, .inr (.inr (.inr (.inr (eF d2 d3 d4 d5)))))), (d2, .inl (cy 2, 8, .inr (.inl (fd2_12))))] := hD
  refine W.widen (k := 0) (n := 0) (Nat.le_of_ble_eq_true rfl) (Nat.le_of_ble_eq_true rfl) ?_
  have hw2 : (zr2 = 0 ∨ zr2 = 1) ∧ (ta2_3 ≤ tn) ∧ (tk2_5 ≤ 255) ∧ (nuOK tk2_5 tr2_7) ∧ (cntOK fc2_11 k2_10 c1 c2 c3) ∧ (k2_10 ≤ 8) ∧ (zr2 = 1 → c0 < 8) := hw2
  obtain ⟨f_13, f_14, f_15, f_16, f_17, f_18, f_19⟩ := hw2
  refine lv_if_eq (tgt := 50) hx hb dX10_tellWord_17 (by decide) (fun c_17 => ?_) (fun c_17 => ?_)
  · refine lv_iconst (v := 0) hx hb dX10_tellWord_50 (by decide) ?_
    exact x_zret hQ hx hb hr hlocks hK hP hD hS rfl dX10_tellWord_51 (ta2_3, ts2_4, tk2_5, tm2_6, tr2_7, fq2_8, pq2_9, vv, k2_10, fc2_11, fd2_12, flo) (⟨(Or.inl rfl), (show ta2_3 ≤ tn from by omega), (show tk2_5 ≤ 255 from by omega), f_16, f_17, (show k2_10 ≤ 8 from by omega)⟩) [1, 2, 3, 4, 5, 6, 0, 7, 8] (by decide) rfl (Nat.le_of_ble_eq_true rfl) (Nat.le_of_ble_eq_true rfl)
  · have hlt9 : c0 < 8 := f_19 (f_13.resolve_left c_17)
    refine lv_aload_n hx hb dX10_tellWord_20 rfl (lv_at hl 1 rfl) ?_
    refine lv_bipush (v := 121) hx hb dX10_tellWord_21 (by decide) ?_
    refine lv_aload_n hx hb dX10_tellWord_23 rfl (lv_at hl 1 rfl) ?_
    refine va_get (D := D) (ci := 10) (v := .ref h0) (C := RX10) (T := TX10) (N := 10) hx hb hg i_X10 hown hK hP 1 rfl rfl 2 (by decide) (hg _ m_257) (fun _ h9 => h9) rfl dX10_tellWord_24 ?_
    refine va_get (D := D) (ci := 4) (v := .ref h2) (C := RX4) (T := TX4) (N := 16) hx hb hg i_X4 hown hK hP 5 rfl rfl 1 (by decide) (hg _ m_340) (fun _ h9 => h9) rfl dX10_tellWord_27 ?_
    refine lv_iload_n hx hb dX10_tellWord_30 rfl (lv_at hl 0 rfl) ?_
    refine x_callVi (q := (RX10, TX10, 10)) (ci := 10) (q0 := 0) (wr := [(h0, .inr (4, [.ref h1, .ref h2, .ref h3, .ref h4, .ref h5, .ref h6, .ref h7, .ref h8, .ref h9, .ref h10, .ref h11, hv0, hv1, hv2, hv3, hv4])), (h1, .inl (cy 1, 4, .inl (fc2_11))), (d1, .inl (cy 5, 4, .inr (.inr (.inr (.inr (eF d2 d3 d4 d5)))))), (d2, .inl (cy 2, 8, .inr (.inl (fd2_12))))]) (rest := []) ⟨hx, hb, hml, hown, hg, hl.1⟩ k_X10_124 (s_takeOption8 l D cy adK adV d0 d1 uh wt dt vv fq2_8 pq2_9 ((.ref h0)) yf t0 t1 t2 tn ta2_3 ts2_4 tk2_5 tm2_6 tr2_7 fby fky h2 flo 121 c0 (by omega) (by omega) (by omega) (f_16) (by omega) (by omega)) EV_blind hK hP hD hS hA [1, 2, 3, 4, 0] [5, 6, 7, 8] ⟨rfl, rfl, by decide, by decide, by decide⟩ rfl rfl (fun U hU hW => EV_pass hE hS (va_free hD hS hA [1, 2, 3, 4, 0] rfl) hU hW) dX10_tellWord_31 rfl rfl (Nat.le_of_ble_eq_true rfl) ⟨Nat.le_of_ble_eq_true rfl, Nat.le_of_ble_eq_true rfl⟩ ⟨Nat.le_of_ble_eq_true rfl, Nat.le_of_ble_eq_true rfl⟩ (fun zr20 zu20 H locs hw20 hP hD hS => ?_)
    obtain ⟨ta2_21, ts2_22, tk2_23, tm2_24, tr2_25, fq2_26, pq2_27, vv2_28, fam2_29⟩ := zu20
    have hP : va_P D vwCl [(h0, .inr (4, [.ref h1, .ref h2, .ref h3, .ref h4, .ref h5, .ref h6, .ref h7, .ref h8, .ref h9, .ref h10, .ref h11, hv0, hv1, hv2, hv3, hv4])), (h1, .inl (cy 1, 4, .inl (fc2_11))), (d1, .inl (cy 5, 4, .inr (.inr (.inr (.inr (eF d2 d3 d4 d5)))))), (d2, .inl (cy 2, 8, .inr (.inl (fd2_12)))), (d0, .inr (10, [.ref t0, .ref d1, .ref h0, yf, .int uh, .int wt, .int dt, .int vv2_28, .int fq2_26, .int pq2_27])), (t0, .inr (9, [.ref t1, .ref t2, .int (nI tn), .int (nI ta2_21), .int (nI ts2_22), .int (nI tk2_23), .long tm2_24, .int tr2_25])), (t1, .inl (cy 0, 1600, .inl (fby))), (t2, .inl (cy 2, 24, .inr (.inl (fky)))), (h2, .inl (cy 1, 8, .inl (fam2_29)))] H := hP
    have hD : va_D A [(h0, .inr (4, [.ref h1, .ref h2, .ref h3, .ref h4, .ref h5, .ref h6, .ref h7, .ref h8, .ref h9, .ref h10, .ref h11, hv0, hv1, hv2, hv3, hv4])), (h1, .inl (cy 1, 4, .inl (fc2_11))), (d1, .inl (cy 5, 4, .inr (.inr (.inr (.inr (eF d2 d3 d4 d5)))))), (d2, .inl (cy 2, 8, .inr (.inl (fd2_12)))), (d0, .inr (10, [.ref t0, .ref d1, .ref h0, yf, .int uh, .int wt, .int dt, .int vv2_28, .int fq2_26, .int pq2_27])), (t0, .inr (9, [.ref t1, .ref t2, .int (nI tn), .int (nI ta2_21), .int (nI ts2_22), .int (nI tk2_23), .long tm2_24, .int tr2_25])), (t1, .inl (cy 0, 1600, .inl (fby))), (t2, .inl (cy 2, 24, .inr (.inl (fky)))), (h2, .inl (cy 1, 8, .inl (fam2_29)))] := hD
    refine W.widen (k := 0) (n := 0) (Nat.le_of_ble_eq_true rfl) (Nat.le_of_ble_eq_true rfl) ?_
    have hw20 : (zr20 = 0 ∨ zr20 = 1) ∧ (ta2_21 ≤ tn) ∧ (tk2_23 ≤ 255) ∧ (nuOK tk2_23 tr2_25) := hw20
    obtain ⟨f_30, f_31, f_32, f_33⟩ := hw20
    refine lv_if_eq (tgt := 50) hx hb dX10_tellWord_34 (by decide) (fun c_34 => ?_) (fun c_34 => ?_)
    · refine lv_iconst (v := 0) hx hb dX10_tellWord_50 (by decide) ?_
      exact x_zret hQ hx hb hr hlocks hK hP hD hS rfl dX10_tellWord_51 (ta2_21, ts2_22, tk2_23, tm2_24, tr2_25, fq2_26, pq2_27, vv2_28, k2_10, fc2_11, fd2_12, fam2_29) (⟨(Or.inl rfl), (show ta2_21 ≤ tn from by omega), (show tk2_23 ≤ 255 from by omega), f_33, f_17, (show k2_10 ≤ 8 from by omega)⟩) [4, 5, 6, 7, 0, 1, 8, 2, 3] (by decide) rfl (Nat.le_of_ble_eq_true rfl) (Nat.le_of_ble_eq_true rfl)
    · refine lv_aload_n hx hb dX10_tellWord_37 rfl (lv_at hl 1 rfl) ?_
      refine lv_bipush (v := 59) hx hb dX10_tellWord_38 (by decide) ?_
      refine x_callVi (q := (RX10, TX10, 10)) (ci := 10) (q0 := 0) (wr := [(h0, .inr (4, [.ref h1, .ref h2, .ref h3, .ref h4, .ref h5, .ref h6, .ref h7, .ref h8, .ref h9, .ref h10, .ref h11, hv0, hv1, hv2, hv3, hv4])), (h1, .inl (cy 1, 4, .inl (fc2_11))), (d1, .inl (cy 5, 4, .inr (.inr (.inr (.inr (eF d2 d3 d4 d5)))))), (d2, .inl (cy 2, 8, .inr (.inl (fd2_12)))), (h2, .inl (cy 1, 8, .inl (fam2_29)))]) (rest := []) ⟨hx, hb, hml, hown, hg, hl.1⟩ k_X10_128 (s_take l D cy adK adV d0 d1 uh wt dt vv2_28 fq2_26 pq2_27 ((.ref h0)) yf t0 t1 t2 tn ta2_21 ts2_22 tk2_23 tm2_24 tr2_25 fby fky 59 (by omega) (by omega) (by omega) (f_33) (by omega)) EV_blind hK hP hD hS hA [4, 5, 6, 7] [0, 1, 2, 3, 8] ⟨rfl, rfl, by decide, by decide, by decide⟩ rfl rfl (fun U hU hW => EV_pass hE hS (va_free hD hS hA [4, 5, 6, 7] rfl) hU hW) dX10_tellWord_40 rfl rfl (Nat.le_of_ble_eq_true rfl) ⟨Nat.le_of_ble_eq_true rfl, Nat.le_of_ble_eq_true rfl⟩ ⟨Nat.le_of_ble_eq_true rfl, Nat.le_of_ble_eq_true rfl⟩ (fun zr34 zu34 H locs hw34 hP hD hS => ?_)
      obtain ⟨ta2_35, ts2_36, tk2_37, tm2_38, tr2_39, fq2_40, pq2_41⟩ := zu34
      have hP : va_P D vwCl [(h0, .inr (4, [.ref h1, .ref h2, .ref h3, .ref h4, .ref h5, .ref h6, .ref h7, .ref h8, .ref h9, .ref h10, .ref h11, hv0, hv1, hv2, hv3, hv4])), (h1, .inl (cy 1, 4, .inl (fc2_11))), (d1, .inl (cy 5, 4, .inr (.inr (.inr (.inr (eF d2 d3 d4 d5)))))), (d2, .inl (cy 2, 8, .inr (.inl (fd2_12)))), (h2, .inl (cy 1, 8, .inl (fam2_29))), (d0, .inr (10, [.ref t0, .ref d1, .ref h0, yf, .int uh, .int wt, .int dt, .int vv2_28, .int fq2_40, .int pq2_41])), (t0, .inr (9, [.ref t1, .ref t2, .int (nI tn), .int (nI ta2_35), .int (nI ts2_36), .int (nI tk2_37), .long tm2_38, .int tr2_39])), (t1, .inl (cy 0, 1600, .inl (fby))), (t2, .inl (cy 2, 24, .inr (.inl (fky))))] H := hP
      have hD : va_D A [(h0, .inr (4, [.ref h1, .ref h2, .ref h3, .ref h4, .ref h5, .ref h6, .ref h7, .ref h8, .ref h9, .ref h10, .ref h11, hv0, hv1, hv2, hv3, hv4])), (h1, .inl (cy 1, 4, .inl (fc2_11))), (d1, .inl (cy 5, 4, .inr (.inr (.inr (.inr (eF d2 d3 d4 d5)))))), (d2, .inl (cy 2, 8, .inr (.inl (fd2_12)))), (h2, .inl (cy 1, 8, .inl (fam2_29))), (d0, .inr (10, [.ref t0, .ref d1, .ref h0, yf, .int uh, .int wt, .int dt, .int vv2_28, .int fq2_40, .int pq2_41])), (t0, .inr (9, [.ref t1, .ref t2, .int (nI tn), .int (nI ta2_35), .int (nI ts2_36), .int (nI tk2_37), .long tm2_38, .int tr2_39])), (t1, .inl (cy 0, 1600, .inl (fby))), (t2, .inl (cy 2, 24, .inr (.inl (fky))))] := hD
      refine W.widen (k := 0) (n := 0) (Nat.le_of_ble_eq_true rfl) (Nat.le_of_ble_eq_true rfl) ?_
      have hw34 : (zr34 = 0 ∨ zr34 = 1) ∧ (ta2_35 ≤ tn) ∧ (tk2_37 ≤ 255) ∧ (nuOK tk2_37 tr2_39) := hw34
      obtain ⟨f_42, f_43, f_44, f_45⟩ := hw34
      refine lv_if_eq (tgt := 50) hx hb dX10_tellWord_43 (by decide) (fun c_43 => ?_) (fun c_43 => ?_)
      · refine lv_iconst (v := 0) hx hb dX10_tellWord_50 (by decide) ?_
        exact x_zret hQ hx hb hr hlocks hK hP hD hS rfl dX10_tellWord_51 (ta2_35, ts2_36, tk2_37, tm2_38, tr2_39, fq2_40, pq2_41, vv2_28, k2_10, fc2_11, fd2_12, fam2_29) (⟨(Or.inl rfl), (show ta2_35 ≤ tn from by omega), (show tk2_37 ≤ 255 from by omega), f_45, f_17, (show k2_10 ≤ 8 from by omega)⟩) [5, 6, 7, 8, 0, 1, 4, 2, 3] (by decide) rfl (Nat.le_of_ble_eq_true rfl) (Nat.le_of_ble_eq_true rfl)
      · refine lv_iconst (v := 1) hx hb dX10_tellWord_46 (by decide) ?_
        refine lv_goto (tgt := 51) hx hb dX10_tellWord_47 (by decide) ?_
        exact x_zret hQ hx hb hr hlocks hK hP hD hS rfl dX10_tellWord_51 (ta2_35, ts2_36, tk2_37, tm2_38, tr2_39, fq2_40, pq2_41, vv2_28, k2_10, fc2_11, fd2_12, fam2_29) (⟨(Or.inr rfl), (show ta2_35 ≤ tn from by omega), (show tk2_37 ≤ 255 from by omega), f_45, f_17, (show k2_10 ≤ 8 from by omega)⟩) [5, 6, 7, 8, 0, 1, 4, 2, 3] (by decide) rfl (Nat.le_of_ble_eq_true rfl) (Nat.le_of_ble_eq_true rfl)
theorem dX10_tellPlaced_0 : decode cX10_tellPlaced 0 = .ok (.aload_n 0, 1) := by decide +kernel
theorem dX10_tellPlaced_1 : decode cX10_tellPlaced 1 = .ok (.getfield 24, 3) := by decide +kernel
theorem dX10_tellPlaced_4 : decode cX10_tellPlaced 4 = .ok (.getfield 114, 3) := by decide +kernel
theorem dX10_tellPlaced_7 : decode cX10_tellPlaced 7 = .ok (.iload_n 1, 1) := by decide +kernel
theorem dX10_tellPlaced_8 : decode cX10_tellPlaced 8 = .ok (.iaload, 1) := by decide +kernel
theorem dX10_tellPlaced_9 : decode cX10_tellPlaced 9 = .ok (.istore 5, 2) := by decide +kernel
theorem dX10_tellPlaced_11 : decode cX10_tellPlaced 11 = .ok (.aload_n 0, 1) := by decide +kernel
theorem dX10_tellPlaced_12 : decode cX10_tellPlaced 12 = .ok (.iload_n 1, 1) := by decide +kernel
theorem dX10_tellPlaced_13 : decode cX10_tellPlaced 13 = .ok (.aload_n 2, 1) := by decide +kernel
theorem dX10_tellPlaced_14 : decode cX10_tellPlaced 14 = .ok (.arraylength, 1) := by decide +kernel
theorem dX10_tellPlaced_15 : decode cX10_tellPlaced 15 = .ok (.invokevirtual 117, 3) := by decide +kernel
theorem dX10_tellPlaced_18 : decode cX10_tellPlaced 18 = .ok (.ifCond .eq 21, 3) := by decide +kernel
theorem dX10_tellPlaced_39 : decode cX10_tellPlaced 39 = .ok (.iconst 0, 1) := by decide +kernel
theorem dX10_tellPlaced_40 : decode cX10_tellPlaced 40 = .ok (.ireturn, 1) := by decide +kernel
theorem dX10_tellPlaced_21 : decode cX10_tellPlaced 21 = .ok (.aload_n 0, 1) := by decide +kernel
theorem dX10_tellPlaced_22 : decode cX10_tellPlaced 22 = .ok (.bipush 110, 2) := by decide +kernel
theorem dX10_tellPlaced_24 : decode cX10_tellPlaced 24 = .ok (.invokevirtual 128, 3) := by decide +kernel
theorem dX10_tellPlaced_27 : decode cX10_tellPlaced 27 = .ok (.ifCond .eq 12, 3) := by decide +kernel
theorem dX10_tellPlaced_30 : decode cX10_tellPlaced 30 = .ok (.aload_n 0, 1) := by decide +kernel
theorem dX10_tellPlaced_31 : decode cX10_tellPlaced 31 = .ok (.bipush 99, 2) := by decide +kernel
theorem dX10_tellPlaced_33 : decode cX10_tellPlaced 33 = .ok (.invokevirtual 131, 3) := by decide +kernel
theorem dX10_tellPlaced_36 : decode cX10_tellPlaced 36 = .ok (.ifCond .ne 5, 3) := by decide +kernel
theorem dX10_tellPlaced_41 : decode cX10_tellPlaced 41 = .ok (.aload_n 2, 1) := by decide +kernel
theorem dX10_tellPlaced_42 : decode cX10_tellPlaced 42 = .ok (.iload 5, 2) := by decide +kernel
theorem dX10_tellPlaced_44 : decode cX10_tellPlaced 44 = .ok (.aload_n 0, 1) := by decide +kernel
theorem dX10_tellPlaced_45 : decode cX10_tellPlaced 45 = .ok (.getfield 134, 3) := by decide +kernel
theorem dX10_tellPlaced_48 : decode cX10_tellPlaced 48 = .ok (.iastore, 1) := by decide +kernel
theorem dX10_tellPlaced_49 : decode cX10_tellPlaced 49 = .ok (.aload_n 0, 1) := by decide +kernel
theorem dX10_tellPlaced_50 : decode cX10_tellPlaced 50 = .ok (.iload_n 3, 1) := by decide +kernel
theorem dX10_tellPlaced_51 : decode cX10_tellPlaced 51 = .ok (.aload 4, 2) := by decide +kernel
theorem dX10_tellPlaced_53 : decode cX10_tellPlaced 53 = .ok (.iload 5, 2) := by decide +kernel
theorem dX10_tellPlaced_55 : decode cX10_tellPlaced 55 = .ok (.invokevirtual 124, 3) := by decide +kernel
theorem dX10_tellPlaced_58 : decode cX10_tellPlaced 58 = .ok (.ifCond .eq 16, 3) := by decide +kernel
theorem dX10_tellPlaced_74 : decode cX10_tellPlaced 74 = .ok (.iconst 0, 1) := by decide +kernel
theorem dX10_tellPlaced_75 : decode cX10_tellPlaced 75 = .ok (.ireturn, 1) := by decide +kernel
theorem dX10_tellPlaced_61 : decode cX10_tellPlaced 61 = .ok (.aload_n 0, 1) := by decide +kernel
theorem dX10_tellPlaced_62 : decode cX10_tellPlaced 62 = .ok (.bipush 59, 2) := by decide +kernel
theorem dX10_tellPlaced_64 : decode cX10_tellPlaced 64 = .ok (.invokevirtual 128, 3) := by decide +kernel
theorem dX10_tellPlaced_67 : decode cX10_tellPlaced 67 = .ok (.ifCond .eq 7, 3) := by decide +kernel
theorem dX10_tellPlaced_70 : decode cX10_tellPlaced 70 = .ok (.iconst 1, 1) := by decide +kernel
theorem dX10_tellPlaced_71 : decode cX10_tellPlaced 71 = .ok (.goto 4, 3) := by decide +kernel
set_option maxHeartbeats 1000000 in
set_option maxRecDepth 100000 in
theorem s_tellPlaced1 (l : Launch) (D : va_G) (cy : Nat → ClassId) (adK : Nat → Nat) (adV : Nat → Nat) (d0 : Nat) (d1 : Nat) (uh : Int32) (wt : Int32) (dt : Int32) (vv : Int32) (fq : Int32) (pq : Int32) (yf : Value) (t0 : Nat) (t1 : Nat) (t2 : Nat) (tn : Nat) (ta : Nat) (ts : Nat) (tk : Nat) (tm : Int64) (tr : Int32) (fby : Nat → Int32) (fky : Nat → Int64) (h0 : Nat) (h1 : Nat) (h2 : Nat) (h3 : Nat) (h4 : Nat) (h5 : Nat) (h6 : Nat) (h7 : Nat) (h8 : Nat) (h9 : Nat) (h10 : Nat) (h11 : Nat) (hv0 : Value) (hv1 : Value) (hv2 : Value) (hv3 : Value) (hv4 : Value) (fc : Nat → Int32) (c0 : Nat) (c1 : Nat) (c2 : Nat) (c3 : Nat) (fpa : Nat → Int32) (fpb : Nat → Int32) (d2 : Nat) (d3 : Nat) (d4 : Nat) (d5 : Nat) (fd1 : Nat → Int64) (hcn : cntOK fc c0 c1 c2 c3) (hc0 : c0 ≤ 8) (hc1 : c1 ≤ 4) (hc2 : c2 ≤ 4) (hc3 : c3 ≤ 6) (htn : tn ≤ 1600) (hta : ta ≤ tn) (htk : tk ≤ 255) (hnu : nuOK tk tr) : XMi l D (tyL cy) (EV adK adV) yX10_tellPlaced cX10_tellPlaced 6 (some .boolean) (rmk 9 0 0) [.ref d0, .int 1, .ref h3, .int 119, .ref h4] [(d0, .inr (10, [.ref t0, .ref d1, .ref h0, yf, .int uh, .int wt, .int dt, .int vv, .int fq, .int pq])), (t0, .inr (9, [.ref t1, .ref t2, .int (nI tn), .int (nI ta), .int (nI ts), .int (nI tk), .long tm, .int tr])), (t1, .inl (cy 0, 1600, .inl (fby))), (t2, .inl (cy 2, 24, .inr (.inl (fky)))), (h0, .inr (4, [.ref h1, .ref h2, .ref h3, .ref h4, .ref h5, .ref h6, .ref h7, .ref h8, .ref h9, .ref h10, .ref h11, hv0, hv1, hv2, hv3, hv4])), (h1, .inl (cy 1, 4, .inl (fc))), (h3, .inl (cy 1, 4, .inl (fpa))), (h4, .inl (cy 1, 4, .inl (fpb))), (d1, .inl (cy 5, 4, .inr (.inr (.inr (.inr (eF d2 d3 d4 d5)))))), (d3, .inl (cy 2, 8, .inr (.inl (fd1))))] (fun (r : Int32) (u : Nat × Nat × Nat × Int64 × Int32 × Int32 × Int32 × Int32 × Nat × (Nat → Int32) × (Nat → Int64) × (Nat → Int32) × (Nat → Int32)) => (r = 0 ∨ r = 1) ∧ (u.1 ≤ tn) ∧ (u.2.2.1 ≤ 255) ∧ (nuOK u.2.2.1 u.2.2.2.2.1) ∧ (cntOK u.2.2.2.2.2.2.2.2.2.1 c0 u.2.2.2.2.2.2.2.2.1 c2 c3) ∧ (u.2.2.2.2.2.2.2.2.1 ≤ 4)) (fun (u : Nat × Nat × Nat × Int64 × Int32 × Int32 × Int32 × Int32 × Nat × (Nat → Int32) × (Nat → Int64) × (Nat → Int32) × (Nat → Int32)) => [(d0, .inr (10, [.ref t0, .ref d1, .ref h0, yf, .int uh, .int wt, .int dt, .int u.2.2.2.2.2.2.2.1, .int u.2.2.2.2.2.1, .int u.2.2.2.2.2.2.1])), (t0, .inr (9, [.ref t1, .ref t2, .int (nI tn), .int (nI u.1), .int (nI u.2.1), .int (nI u.2.2.1), .long u.2.2.2.1, .int u.2.2.2.2.1])), (t1, .inl (cy 0, 1600, .inl (fby))), (t2, .inl (cy 2, 24, .inr (.inl (fky)))), (h0, .inr (4, [.ref h1, .ref h2, .ref h3, .ref h4, .ref h5, .ref h6, .ref h7, .ref h8, .ref h9, .ref h10, .ref h11, hv0, hv1, hv2, hv3, hv4])), (h1, .inl (cy 1, 4, .inl (u.2.2.2.2.2.2.2.2.2.1))), (h3, .inl (cy 1, 4, .inl (u.2.2.2.2.2.2.2.2.2.2.2.1))), (h4, .inl (cy 1, 4, .inl (u.2.2.2.2.2.2.2.2.2.2.2.2))), (d1, .inl (cy 5, 4, .inr (.inr (.inr (.inr (eF d2 d3 d4 d5)))))), (d3, .inl (cy 2, 8, .inr (.inl (u.2.2.2.2.2.2.2.2.2.2.1))))]) := by
  refine XMi.start (by decide) (Nat.le_of_ble_eq_true rfl) ?_
  intro p e s m below meth c args A ls Q hat hQ
  obtain ⟨hx, hb, hr, hml, hown, hg, hlocks, hin, hK, hA, hP, hD, hS, hE, hl⟩ := hat
  have hown : s.vm.findClass RX10 = some m.cls := hown
  have hl : lv_has ls 6 [(0, .ref d0), (1, .int 1), (2, .ref h3), (3, .int 119), (4, .ref h4)] := hl
  refine lv_aload_n hx hb dX10_tellPlaced_0 rfl (lv_at hl 0 rfl) ?_
  refine va_get (D := D) (ci := 10) (v := .ref h0) (C := RX10) (T := TX10) (N := 10) hx hb hg i_X10 hown hK hP 0 rfl rfl 2 (by decide) (hg _ m_257) (fun _ h9 => h9) rfl dX10_tellPlaced_1 ?_
  refine va_get (D := D) (ci := 4) (v := .ref h1) (C := RX4) (T := TX4) (N := 16) hx hb hg i_X4 hown hK hP 4 rfl rfl 0 (by decide) (hg _ m_336) (fun _ h9 => h9) rfl dX10_tellPlaced_4 ?_
  refine lv_iload_n hx hb dX10_tellPlaced_7 rfl (lv_at hl 1 rfl) ?_
  refine va_iald hx hb hK hP 5 1 rfl rfl (by unfold vp_in; decide) dX10_tellPlaced_8 ?_
  refine lv_topi (fun y_1 hy_1 => ?_)
  obtain rfl : y_1 = nI c1 := hy_1.trans hcn.2.1
  refine lv_istore (lv' := [(5, .int (nI c1)), (0, .ref d0), (1, .int 1), (2, .ref h3), (3, .int 119), (4, .ref h4)]) hx hb dX10_tellPlaced_9 hl (by decide) rfl (fun ls hl => ?_)
  refine lv_aload_n hx hb dX10_tellPlaced_11 rfl (lv_at hl 1 rfl) ?_
  refine lv_iload_n hx hb dX10_tellPlaced_12 rfl (lv_at hl 2 rfl) ?_
  refine lv_aload_n hx hb dX10_tellPlaced_13 rfl (lv_at hl 3 rfl) ?_
  refine va_alen (v := 4) hx hb hK hP 6 1 rfl rfl rfl dX10_tellPlaced_14 ?_
  refine x_callVi (q := (RX10, TX10, 10)) (ci := 10) (q0 := 0) (wr := [(h3, .inl (cy 1, 4, .inl (fpa))), (h4, .inl (cy 1, 4, .inl (fpb)))]) (rest := []) ⟨hx, hb, hml, hown, hg, hl.1⟩ k_X10_117 (s_takeNew1 l D cy adK adV d0 d1 uh wt dt vv fq pq yf t0 t1 t2 tn ta ts tk tm tr fby fky h0 h1 h2 h3 h4 h5 h6 h7 h8 h9 h10 h11 hv0 hv1 hv2 hv3 hv4 fc c0 c1 c2 c3 d2 d3 d4 d5 fd1 (hcn) (by omega) (by omega) (by omega) (by omega) (by omega) (by omega) (by omega) (hnu)) EV_blind hK hP hD hS hA [0, 1, 2, 3, 4, 5, 8, 9] [6, 7] ⟨rfl, rfl, by decide, by decide, by decide⟩ rfl rfl (fun U hU hW => EV_pass hE hS (va_free hD hS hA [0, 1, 2, 3, 4, 5, 8, 9] rfl) hU hW) dX10_tellPlaced_15 rfl rfl (Nat.le_of_ble_eq_true rfl) ⟨Nat.le_of_ble_eq_true rfl, Nat.le_of_ble_eq_true rfl⟩ ⟨Nat.le_of_ble_eq_true rfl, Nat.le_of_ble_eq_true rfl⟩ (fun zr2 zu2 H locs hw2 hP hD hS => ?_)
  obtain ⟨ta2_3, ts2_4, tk2_5, tm2_6, tr2_7, fq2_8, pq2_9, k2_10, fc2_11, fd2_12⟩ := zu2
  have hP : va_P D vwCl [(h3, .inl (cy 1, 4, .inl (fpa))), (h4, .inl (cy 1, 4, .inl (fpb))), (d0, .inr (10, [.ref t0, .ref d1, .ref h0, yf, .int uh, .int wt, .int dt, .int vv, .int fq2_8, .int pq2_9])), (t0, .inr (9, [.ref t1, .ref t2, .int (nI tn), .int (nI ta2_3), .int (nI ts2_4), .int (nI tk2_5), .long tm2_6, .int tr2_7])), (t1, .inl (cy 0, 1600, .inl (fby))), (t2, .inl (cy 2, 24, .inr (.inl (fky)))), (h0, .inr (4, [.ref h1, .ref h2, .ref h3, .ref h4, .ref h5, .ref h6, .ref h7, .ref h8, .ref h9, .ref h10, .ref h11, hv0, hv1, hv2, hv3, hv4])), (h1, .inl (cy 1, 4, .inl (fc2_11))), (d1, .inl (cy 5, 4, .inr (.inr (.inr (.inr (eF d2 d3 d4 d5)))))), (d3, .inl (cy 2, 8, .inr (.inl (fd2_12))))] H := hP
  have hD : va_D A [(h3, .inl (cy 1, 4, .inl (fpa))), (h4, .inl (cy 1, 4, .inl (fpb))), (d0, .inr (10, [.ref t0, .ref d1, .ref h0, yf, .int uh, .int wt, .int dt, .int vv, .int fq2_8, .int pq2_9])), (t0, .inr (9, [.ref t1, .ref t2, .int (nI tn), .int (nI ta2_3), .int (nI ts2_4), .int (nI tk2_5), .long tm2_6, .int tr2_7])), (t1, .inl (cy 0, 1600, .inl (fby))), (t2, .inl (cy 2, 24, .inr (.inl (fky)))), (h0, .inr (4, [.ref h1, .ref h2, .ref h3, .ref h4, .ref h5, .ref h6, .ref h7, .ref h8, .ref h9, .ref h10, .ref h11, hv0, hv1, hv2, hv3, hv4])), (h1, .inl (cy 1, 4, .inl (fc2_11))), (d1, .inl (cy 5, 4, .inr (.inr (.inr (.inr (eF d2 d3 d4 d5)))))), (d3, .inl (cy 2, 8, .inr (.inl (fd2_12))))] := hD
  refine W.widen (k := 0) (n := 0) (Nat.le_of_ble_eq_true rfl) (Nat.le_of_ble_eq_true rfl) ?_
  have hw2 : (zr2 = 0 ∨ zr2 = 1) ∧ (ta2_3 ≤ tn) ∧ (tk2_5 ≤ 255) ∧ (nuOK tk2_5 tr2_7) ∧ (cntOK fc2_11 c0 k2_10 c2 c3) ∧ (k2_10 ≤ 4) ∧ (zr2 = 1 → c1 < 4) := hw2
  obtain ⟨f_13, f_14, f_15, f_16, f_17, f_18, f_19⟩ := hw2
  refine lv_if_eq (tgt := 39) hx hb dX10_tellPlaced_18 (by decide) (fun c_18 => ?_) (fun c_18 => ?_)
  · refine lv_iconst (v := 0) hx hb dX10_tellPlaced_39 (by decide) ?_
    exact x_zret hQ hx hb hr hlocks hK hP hD hS rfl dX10_tellPlaced_40 (ta2_3, ts2_4, tk2_5, tm2_6, tr2_7, fq2_8, pq2_9, vv, k2_10, fc2_11, fd2_12, fpa, fpb) (⟨(Or.inl rfl), (show ta2_3 ≤ tn from by omega), (show tk2_5 ≤ 255 from by omega), f_16, f_17, (show k2_10 ≤ 4 from by omega)⟩) [2, 3, 4, 5, 6, 7, 0, 1, 8, 9] (by decide) rfl (Nat.le_of_ble_eq_true rfl) (Nat.le_of_ble_eq_true rfl)
  · have hlt9 : c1 < 4 := f_19 (f_13.resolve_left c_18)
    refine lv_aload_n hx hb dX10_tellPlaced_21 rfl (lv_at hl 1 rfl) ?_
    refine lv_bipush (v := 110) hx hb dX10_tellPlaced_22 (by decide) ?_
    refine x_callVi (q := (RX10, TX10, 10)) (ci := 10) (q0 := 0) (wr := [(h3, .inl (cy 1, 4, .inl (fpa))), (h4, .inl (cy 1, 4, .inl (fpb))), (h0, .inr (4, [.ref h1, .ref h2, .ref h3, .ref h4, .ref h5, .ref h6, .ref h7, .ref h8, .ref h9, .ref h10, .ref h11, hv0, hv1, hv2, hv3, hv4])), (h1, .inl (cy 1, 4, .inl (fc2_11))), (d1, .inl (cy 5, 4, .inr (.inr (.inr (.inr (eF d2 d3 d4 d5)))))), (d3, .inl (cy 2, 8, .inr (.inl (fd2_12))))]) (rest := []) ⟨hx, hb, hml, hown, hg, hl.1⟩ k_X10_128 (s_take l D cy adK adV d0 d1 uh wt dt vv fq2_8 pq2_9 ((.ref h0)) yf t0 t1 t2 tn ta2_3 ts2_4 tk2_5 tm2_6 tr2_7 fby fky 110 (by omega) (by omega) (by omega) (f_16) (by omega)) EV_blind hK hP hD hS hA [2, 3, 4, 5] [0, 1, 6, 7, 8, 9] ⟨rfl, rfl, by decide, by decide, by decide⟩ rfl rfl (fun U hU hW => EV_pass hE hS (va_free hD hS hA [2, 3, 4, 5] rfl) hU hW) dX10_tellPlaced_24 rfl rfl (Nat.le_of_ble_eq_true rfl) ⟨Nat.le_of_ble_eq_true rfl, Nat.le_of_ble_eq_true rfl⟩ ⟨Nat.le_of_ble_eq_true rfl, Nat.le_of_ble_eq_true rfl⟩ (fun zr20 zu20 H locs hw20 hP hD hS => ?_)
    obtain ⟨ta2_21, ts2_22, tk2_23, tm2_24, tr2_25, fq2_26, pq2_27⟩ := zu20
    have hP : va_P D vwCl [(h3, .inl (cy 1, 4, .inl (fpa))), (h4, .inl (cy 1, 4, .inl (fpb))), (h0, .inr (4, [.ref h1, .ref h2, .ref h3, .ref h4, .ref h5, .ref h6, .ref h7, .ref h8, .ref h9, .ref h10, .ref h11, hv0, hv1, hv2, hv3, hv4])), (h1, .inl (cy 1, 4, .inl (fc2_11))), (d1, .inl (cy 5, 4, .inr (.inr (.inr (.inr (eF d2 d3 d4 d5)))))), (d3, .inl (cy 2, 8, .inr (.inl (fd2_12)))), (d0, .inr (10, [.ref t0, .ref d1, .ref h0, yf, .int uh, .int wt, .int dt, .int vv, .int fq2_26, .int pq2_27])), (t0, .inr (9, [.ref t1, .ref t2, .int (nI tn), .int (nI ta2_21), .int (nI ts2_22), .int (nI tk2_23), .long tm2_24, .int tr2_25])), (t1, .inl (cy 0, 1600, .inl (fby))), (t2, .inl (cy 2, 24, .inr (.inl (fky))))] H := hP
    have hD : va_D A [(h3, .inl (cy 1, 4, .inl (fpa))), (h4, .inl (cy 1, 4, .inl (fpb))), (h0, .inr (4, [.ref h1, .ref h2, .ref h3, .ref h4, .ref h5, .ref h6, .ref h7, .ref h8, .ref h9, .ref h10, .ref h11, hv0, hv1, hv2, hv3, hv4])), (h1, .inl (cy 1, 4, .inl (fc2_11))), (d1, .inl (cy 5, 4, .inr (.inr (.inr (.inr (eF d2 d3 d4 d5)))))), (d3, .inl (cy 2, 8, .inr (.inl (fd2_12)))), (d0, .inr (10, [.ref t0, .ref d1, .ref h0, yf, .int uh, .int wt, .int dt, .int vv, .int fq2_26, .int pq2_27])), (t0, .inr (9, [.ref t1, .ref t2, .int (nI tn), .int (nI ta2_21), .int (nI ts2_22), .int (nI tk2_23), .long tm2_24, .int tr2_25])), (t1, .inl (cy 0, 1600, .inl (fby))), (t2, .inl (cy 2, 24, .inr (.inl (fky))))] := hD
    refine W.widen (k := 0) (n := 0) (Nat.le_of_ble_eq_true rfl) (Nat.le_of_ble_eq_true rfl) ?_
    have hw20 : (zr20 = 0 ∨ zr20 = 1) ∧ (ta2_21 ≤ tn) ∧ (tk2_23 ≤ 255) ∧ (nuOK tk2_23 tr2_25) := hw20
    obtain ⟨f_28, f_29, f_30, f_31⟩ := hw20
    refine lv_if_eq (tgt := 39) hx hb dX10_tellPlaced_27 (by decide) (fun c_27 => ?_) (fun c_27 => ?_)
    · refine lv_iconst (v := 0) hx hb dX10_tellPlaced_39 (by decide) ?_
      exact x_zret hQ hx hb hr hlocks hK hP hD hS rfl dX10_tellPlaced_40 (ta2_21, ts2_22, tk2_23, tm2_24, tr2_25, fq2_26, pq2_27, vv, k2_10, fc2_11, fd2_12, fpa, fpb) (⟨(Or.inl rfl), (show ta2_21 ≤ tn from by omega), (show tk2_23 ≤ 255 from by omega), f_31, f_17, (show k2_10 ≤ 4 from by omega)⟩) [6, 7, 8, 9, 2, 3, 0, 1, 4, 5] (by decide) rfl (Nat.le_of_ble_eq_true rfl) (Nat.le_of_ble_eq_true rfl)
    · refine lv_aload_n hx hb dX10_tellPlaced_30 rfl (lv_at hl 1 rfl) ?_
      refine lv_bipush (v := 99) hx hb dX10_tellPlaced_31 (by decide) ?_
      refine x_callVi (q := (RX10, TX10, 10)) (ci := 10) (q0 := 0) (wr := [(h3, .inl (cy 1, 4, .inl (fpa))), (h4, .inl (cy 1, 4, .inl (fpb))), (h0, .inr (4, [.ref h1, .ref h2, .ref h3, .ref h4, .ref h5, .ref h6, .ref h7, .ref h8, .ref h9, .ref h10, .ref h11, hv0, hv1, hv2, hv3, hv4])), (h1, .inl (cy 1, 4, .inl (fc2_11))), (d1, .inl (cy 5, 4, .inr (.inr (.inr (.inr (eF d2 d3 d4 d5)))))), (d3, .inl (cy 2, 8, .inr (.inl (fd2_12))))]) (rest := []) ⟨hx, hb, hml, hown, hg, hl.1⟩ k_X10_131 (s_takeNumber l D cy adK adV d0 d1 uh wt dt vv fq2_26 pq2_27 ((.ref h0)) yf t0 t1 t2 tn ta2_21 ts2_22 tk2_23 tm2_24 tr2_25 fby fky 99 (by omega) (by omega) (by omega) (f_31)) EV_blind hK hP hD hS hA [6, 7, 8, 9] [0, 1, 2, 3, 4, 5] ⟨rfl, rfl, by decide, by decide, by decide⟩ rfl rfl (fun U hU hW => EV_pass hE hS (va_free hD hS hA [6, 7, 8, 9] rfl) hU hW) dX10_tellPlaced_33 rfl rfl (Nat.le_of_ble_eq_true rfl) ⟨Nat.le_of_ble_eq_true rfl, Nat.le_of_ble_eq_true rfl⟩ ⟨Nat.le_of_ble_eq_true rfl, Nat.le_of_ble_eq_true rfl⟩ (fun zr32 zu32 H locs hw32 hP hD hS => ?_)
      obtain ⟨ta2_33, ts2_34, tk2_35, tm2_36, tr2_37, fq2_38, pq2_39, vv2_40⟩ := zu32
      have hP : va_P D vwCl [(h3, .inl (cy 1, 4, .inl (fpa))), (h4, .inl (cy 1, 4, .inl (fpb))), (h0, .inr (4, [.ref h1, .ref h2, .ref h3, .ref h4, .ref h5, .ref h6, .ref h7, .ref h8, .ref h9, .ref h10, .ref h11, hv0, hv1, hv2, hv3, hv4])), (h1, .inl (cy 1, 4, .inl (fc2_11))), (d1, .inl (cy 5, 4, .inr (.inr (.inr (.inr (eF d2 d3 d4 d5)))))), (d3, .inl (cy 2, 8, .inr (.inl (fd2_12)))), (d0, .inr (10, [.ref t0, .ref d1, .ref h0, yf, .int uh, .int wt, .int dt, .int vv2_40, .int fq2_38, .int pq2_39])), (t0, .inr (9, [.ref t1, .ref t2, .int (nI tn), .int (nI ta2_33), .int (nI ts2_34), .int (nI tk2_35), .long tm2_36, .int tr2_37])), (t1, .inl (cy 0, 1600, .inl (fby))), (t2, .inl (cy 2, 24, .inr (.inl (fky))))] H := hP
      have hD : va_D A [(h3, .inl (cy 1, 4, .inl (fpa))), (h4, .inl (cy 1, 4, .inl (fpb))), (h0, .inr (4, [.ref h1, .ref h2, .ref h3, .ref h4, .ref h5, .ref h6, .ref h7, .ref h8, .ref h9, .ref h10, .ref h11, hv0, hv1, hv2, hv3, hv4])), (h1, .inl (cy 1, 4, .inl (fc2_11))), (d1, .inl (cy 5, 4, .inr (.inr (.inr (.inr (eF d2 d3 d4 d5)))))), (d3, .inl (cy 2, 8, .inr (.inl (fd2_12)))), (d0, .inr (10, [.ref t0, .ref d1, .ref h0, yf, .int uh, .int wt, .int dt, .int vv2_40, .int fq2_38, .int pq2_39])), (t0, .inr (9, [.ref t1, .ref t2, .int (nI tn), .int (nI ta2_33), .int (nI ts2_34), .int (nI tk2_35), .long tm2_36, .int tr2_37])), (t1, .inl (cy 0, 1600, .inl (fby))), (t2, .inl (cy 2, 24, .inr (.inl (fky))))] := hD
      refine W.widen (k := 0) (n := 0) (Nat.le_of_ble_eq_true rfl) (Nat.le_of_ble_eq_true rfl) ?_
      have hw32 : (zr32 = 0 ∨ zr32 = 1) ∧ (ta2_33 ≤ tn) ∧ (tk2_35 ≤ 255) ∧ (nuOK tk2_35 tr2_37) := hw32
      obtain ⟨f_41, f_42, f_43, f_44⟩ := hw32
      refine lv_if_ne (tgt := 41) hx hb dX10_tellPlaced_36 (by decide) (fun c_36 => ?_) (fun c_36 => ?_)
      · refine lv_aload_n hx hb dX10_tellPlaced_41 rfl (lv_at hl 3 rfl) ?_
        refine lv_iload hx hb dX10_tellPlaced_42 (lv_at hl 0 rfl) ?_
        refine lv_aload_n hx hb dX10_tellPlaced_44 rfl (lv_at hl 1 rfl) ?_
        refine va_get (D := D) (ci := 10) (v := .int vv2_40) (C := RX10) (T := TX10) (N := 10) hx hb hg i_X10 hown hK hP 6 rfl rfl 7 (by decide) (hg _ m_262) (fun _ h9 => h9) rfl dX10_tellPlaced_45 ?_
        refine va_iast hx hb hK hP hD hS 0 1 rfl rfl (vp_in_nI (by omega) (by decide)) dX10_tellPlaced_48 (fun H locs hP hD hS => ?_)
        obtain ⟨g_45, eg_45⟩ : ∃ y, upd fpa (nI c1 : Int32).toNatClampNeg vv2_40 = y := ⟨_, rfl⟩
        rw [eg_45] at hP hD
        have hP : va_P D vwCl [(h3, .inl (cy 1, 4, .inl (g_45))), (h4, .inl (cy 1, 4, .inl (fpb))), (h0, .inr (4, [.ref h1, .ref h2, .ref h3, .ref h4, .ref h5, .ref h6, .ref h7, .ref h8, .ref h9, .ref h10, .ref h11, hv0, hv1, hv2, hv3, hv4])), (h1, .inl (cy 1, 4, .inl (fc2_11))), (d1, .inl (cy 5, 4, .inr (.inr (.inr (.inr (eF d2 d3 d4 d5)))))), (d3, .inl (cy 2, 8, .inr (.inl (fd2_12)))), (d0, .inr (10, [.ref t0, .ref d1, .ref h0, yf, .int uh, .int wt, .int dt, .int vv2_40, .int fq2_38, .int pq2_39])), (t0, .inr (9, [.ref t1, .ref t2, .int (nI tn), .int (nI ta2_33), .int (nI ts2_34), .int (nI tk2_35), .long tm2_36, .int tr2_37])), (t1, .inl (cy 0, 1600, .inl (fby))), (t2, .inl (cy 2, 24, .inr (.inl (fky))))] H := hP
        have hD : va_D A [(h3, .inl (cy 1, 4, .inl (g_45))), (h4, .inl (cy 1, 4, .inl (fpb))), (h0, .inr (4, [.ref h1, .ref h2, .ref h3, .ref h4, .ref h5, .ref h6, .ref h7, .ref h8, .ref h9, .ref h10, .ref h11, hv0, hv1, hv2, hv3, hv4])), (h1, .inl (cy 1, 4, .inl (fc2_11))), (d1, .inl (cy 5, 4, .inr (.inr (.inr (.inr (eF d2 d3 d4 d5)))))), (d3, .inl (cy 2, 8, .inr (.inl (fd2_12)))), (d0, .inr (10, [.ref t0, .ref d1, .ref h0, yf, .int uh, .int wt, .int dt, .int vv2_40, .int fq2_38, .int pq2_39])), (t0, .inr (9, [.ref t1, .ref t2, .int (nI tn), .int (nI ta2_33), .int (nI ts2_34), .int (nI tk2_35), .long tm2_36, .int tr2_37])), (t1, .inl (cy 0, 1600, .inl (fby))), (t2, .inl (cy 2, 24, .inr (.inl (fky))))] := hD
        refine lv_aload_n hx hb dX10_tellPlaced_49 rfl (lv_at hl 1 rfl) ?_
        refine lv_iload_n hx hb dX10_tellPlaced_50 rfl (lv_at hl 4 rfl) ?_
        refine lv_aload hx hb dX10_tellPlaced_51 (lv_at hl 5 rfl) ?_
        refine lv_iload hx hb dX10_tellPlaced_53 (lv_at hl 0 rfl) ?_
        refine x_callVi (q := (RX10, TX10, 10)) (ci := 10) (q0 := 0) (wr := [(h3, .inl (cy 1, 4, .inl (g_45))), (h0, .inr (4, [.ref h1, .ref h2, .ref h3, .ref h4, .ref h5, .ref h6, .ref h7, .ref h8, .ref h9, .ref h10, .ref h11, hv0, hv1, hv2, hv3, hv4])), (h1, .inl (cy 1, 4, .inl (fc2_11))), (d1, .inl (cy 5, 4, .inr (.inr (.inr (.inr (eF d2 d3 d4 d5)))))), (d3, .inl (cy 2, 8, .inr (.inl (fd2_12))))]) (rest := []) ⟨hx, hb, hml, hown, hg, hl.1⟩ k_X10_124 (s_takeOption4 l D cy adK adV d0 d1 uh wt dt vv2_40 fq2_38 pq2_39 ((.ref h0)) yf t0 t1 t2 tn ta2_33 ts2_34 tk2_35 tm2_36 tr2_37 fby fky h4 fpb 119 c1 (by omega) (by omega) (by omega) (f_44) (by omega) (by omega)) EV_blind hK hP hD hS hA [6, 7, 8, 9, 1] [0, 2, 3, 4, 5] ⟨rfl, rfl, by decide, by decide, by decide⟩ rfl rfl (fun U hU hW => EV_pass hE hS (va_free hD hS hA [6, 7, 8, 9, 1] rfl) hU hW) dX10_tellPlaced_55 rfl rfl (Nat.le_of_ble_eq_true rfl) ⟨Nat.le_of_ble_eq_true rfl, Nat.le_of_ble_eq_true rfl⟩ ⟨Nat.le_of_ble_eq_true rfl, Nat.le_of_ble_eq_true rfl⟩ (fun zr46 zu46 H locs hw46 hP hD hS => ?_)
        obtain ⟨ta2_47, ts2_48, tk2_49, tm2_50, tr2_51, fq2_52, pq2_53, vv2_54, fam2_55⟩ := zu46
        have hP : va_P D vwCl [(h3, .inl (cy 1, 4, .inl (g_45))), (h0, .inr (4, [.ref h1, .ref h2, .ref h3, .ref h4, .ref h5, .ref h6, .ref h7, .ref h8, .ref h9, .ref h10, .ref h11, hv0, hv1, hv2, hv3, hv4])), (h1, .inl (cy 1, 4, .inl (fc2_11))), (d1, .inl (cy 5, 4, .inr (.inr (.inr (.inr (eF d2 d3 d4 d5)))))), (d3, .inl (cy 2, 8, .inr (.inl (fd2_12)))), (d0, .inr (10, [.ref t0, .ref d1, .ref h0, yf, .int uh, .int wt, .int dt, .int vv2_54, .int fq2_52, .int pq2_53])), (t0, .inr (9, [.ref t1, .ref t2, .int (nI tn), .int (nI ta2_47), .int (nI ts2_48), .int (nI tk2_49), .long tm2_50, .int tr2_51])), (t1, .inl (cy 0, 1600, .inl (fby))), (t2, .inl (cy 2, 24, .inr (.inl (fky)))), (h4, .inl (cy 1, 4, .inl (fam2_55)))] H := hP
        have hD : va_D A [(h3, .inl (cy 1, 4, .inl (g_45))), (h0, .inr (4, [.ref h1, .ref h2, .ref h3, .ref h4, .ref h5, .ref h6, .ref h7, .ref h8, .ref h9, .ref h10, .ref h11, hv0, hv1, hv2, hv3, hv4])), (h1, .inl (cy 1, 4, .inl (fc2_11))), (d1, .inl (cy 5, 4, .inr (.inr (.inr (.inr (eF d2 d3 d4 d5)))))), (d3, .inl (cy 2, 8, .inr (.inl (fd2_12)))), (d0, .inr (10, [.ref t0, .ref d1, .ref h0, yf, .int uh, .int wt, .int dt, .int vv2_54, .int fq2_52, .int pq2_53])), (t0, .inr (9, [.ref t1, .ref t2, .int (nI tn), .int (nI ta2_47), .int (nI ts2_48), .int (nI tk2_49), .long tm2_50, .int tr2_51])), (t1, .inl (cy 0, 1600, .inl (fby))), (t2, .inl (cy 2, 24, .inr (.inl (fky)))), (h4, .inl (cy 1, 4, .inl (fam2_55)))] := hD
        refine W.widen (k := 0) (n := 0) (Nat.le_of_ble_eq_true rfl) (Nat.le_of_ble_eq_true rfl) ?_
        have hw46 : (zr46 = 0 ∨ zr46 = 1) ∧ (ta2_47 ≤ tn) ∧ (tk2_49 ≤ 255) ∧ (nuOK tk2_49 tr2_51) := hw46
        obtain ⟨f_56, f_57, f_58, f_59⟩ := hw46
        refine lv_if_eq (tgt := 74) hx hb dX10_tellPlaced_58 (by decide) (fun c_58 => ?_) (fun c_58 => ?_)
        · refine lv_iconst (v := 0) hx hb dX10_tellPlaced_74 (by decide) ?_
          exact x_zret hQ hx hb hr hlocks hK hP hD hS rfl dX10_tellPlaced_75 (ta2_47, ts2_48, tk2_49, tm2_50, tr2_51, fq2_52, pq2_53, vv2_54, k2_10, fc2_11, fd2_12, g_45, fam2_55) (⟨(Or.inl rfl), (show ta2_47 ≤ tn from by omega), (show tk2_49 ≤ 255 from by omega), f_59, f_17, (show k2_10 ≤ 4 from by omega)⟩) [5, 6, 7, 8, 1, 2, 0, 9, 3, 4] (by decide) rfl (Nat.le_of_ble_eq_true rfl) (Nat.le_of_ble_eq_true rfl)
        · refine lv_aload_n hx hb dX10_tellPlaced_61 rfl (lv_at hl 1 rfl) ?_
          refine lv_bipush (v := 59) hx hb dX10_tellPlaced_62 (by decide) ?_
          refine x_callVi (q := (RX10, TX10, 10)) (ci := 10) (q0 := 0) (wr := [(h3, .inl (cy 1, 4, .inl (g_45))), (h0, .inr (4, [.ref h1, .ref h2, .ref h3, .ref h4, .ref h5, .ref h6, .ref h7, .ref h8, .ref h9, .ref h10, .ref h11, hv0, hv1, hv2, hv3, hv4])), (h1, .inl (cy 1, 4, .inl (fc2_11))), (d1, .inl (cy 5, 4, .inr (.inr (.inr (.inr (eF d2 d3 d4 d5)))))), (d3, .inl (cy 2, 8, .inr (.inl (fd2_12)))), (h4, .inl (cy 1, 4, .inl (fam2_55)))]) (rest := []) ⟨hx, hb, hml, hown, hg, hl.1⟩ k_X10_128 (s_take l D cy adK adV d0 d1 uh wt dt vv2_54 fq2_52 pq2_53 ((.ref h0)) yf t0 t1 t2 tn ta2_47 ts2_48 tk2_49 tm2_50 tr2_51 fby fky 59 (by omega) (by omega) (by omega) (f_59) (by omega)) EV_blind hK hP hD hS hA [5, 6, 7, 8] [0, 1, 2, 3, 4, 9] ⟨rfl, rfl, by decide, by decide, by decide⟩ rfl rfl (fun U hU hW => EV_pass hE hS (va_free hD hS hA [5, 6, 7, 8] rfl) hU hW) dX10_tellPlaced_64 rfl rfl (Nat.le_of_ble_eq_true rfl) ⟨Nat.le_of_ble_eq_true rfl, Nat.le_of_ble_eq_true rfl⟩ ⟨Nat.le_of_ble_eq_true rfl, Nat.le_of_ble_eq_true rfl⟩ (fun zr60 zu60 H locs hw60 hP hD hS => ?_)
          obtain ⟨ta2_61, ts2_62, tk2_63, tm2_64, tr2_65, fq2_66, pq2_67⟩ := zu60
          have hP : va_P D vwCl [(h3, .inl (cy 1, 4, .inl (g_45))), (h0, .inr (4, [.ref h1, .ref h2, .ref h3, .ref h4, .ref h5, .ref h6, .ref h7, .ref h8, .ref h9, .ref h10, .ref h11, hv0, hv1, hv2, hv3, hv4])), (h1, .inl (cy 1, 4, .inl (fc2_11))), (d1, .inl (cy 5, 4, .inr (.inr (.inr (.inr (eF d2 d3 d4 d5)))))), (d3, .inl (cy 2, 8, .inr (.inl (fd2_12)))), (h4, .inl (cy 1, 4, .inl (fam2_55))), (d0, .inr (10, [.ref t0, .ref d1, .ref h0, yf, .int uh, .int wt, .int dt, .int vv2_54, .int fq2_66, .int pq2_67])), (t0, .inr (9, [.ref t1, .ref t2, .int (nI tn), .int (nI ta2_61), .int (nI ts2_62), .int (nI tk2_63), .long tm2_64, .int tr2_65])), (t1, .inl (cy 0, 1600, .inl (fby))), (t2, .inl (cy 2, 24, .inr (.inl (fky))))] H := hP
          have hD : va_D A [(h3, .inl (cy 1, 4, .inl (g_45))), (h0, .inr (4, [.ref h1, .ref h2, .ref h3, .ref h4, .ref h5, .ref h6, .ref h7, .ref h8, .ref h9, .ref h10, .ref h11, hv0, hv1, hv2, hv3, hv4])), (h1, .inl (cy 1, 4, .inl (fc2_11))), (d1, .inl (cy 5, 4, .inr (.inr (.inr (.inr (eF d2 d3 d4 d5)))))), (d3, .inl (cy 2, 8, .inr (.inl (fd2_12)))), (h4, .inl (cy 1, 4, .inl (fam2_55))), (d0, .inr (10, [.ref t0, .ref d1, .ref h0, yf, .int uh, .int wt, .int dt, .int vv2_54, .int fq2_66, .int pq2_67])), (t0, .inr (9, [.ref t1, .ref t2, .int (nI tn), .int (nI ta2_61), .int (nI ts2_62), .int (nI tk2_63), .long tm2_64, .int tr2_65])), (t1, .inl (cy 0, 1600, .inl (fby))), (t2, .inl (cy 2, 24, .inr (.inl (fky))))] := hD
          refine W.widen (k := 0) (n := 0) (Nat.le_of_ble_eq_true rfl) (Nat.le_of_ble_eq_true rfl) ?_
          have hw60 : (zr60 = 0 ∨ zr60 = 1) ∧ (ta2_61 ≤ tn) ∧ (tk2_63 ≤ 255) ∧ (nuOK tk2_63 tr2_65) := hw60
          obtain ⟨f_68, f_69, f_70, f_71⟩ := hw60
          refine lv_if_eq (tgt := 74) hx hb dX10_tellPlaced_67 (by decide) (fun c_67 => ?_) (fun c_67 => ?_)
          · refine lv_iconst (v := 0) hx hb dX10_tellPlaced_74 (by decide) ?_
            exact x_zret hQ hx hb hr hlocks hK hP hD hS rfl dX10_tellPlaced_75 (ta2_61, ts2_62, tk2_63, tm2_64, tr2_65, fq2_66, pq2_67, vv2_54, k2_10, fc2_11, fd2_12, g_45, fam2_55) (⟨(Or.inl rfl), (show ta2_61 ≤ tn from by omega), (show tk2_63 ≤ 255 from by omega), f_71, f_17, (show k2_10 ≤ 4 from by omega)⟩) [6, 7, 8, 9, 1, 2, 0, 5, 3, 4] (by decide) rfl (Nat.le_of_ble_eq_true rfl) (Nat.le_of_ble_eq_true rfl)
          · refine lv_iconst (v := 1) hx hb dX10_tellPlaced_70 (by decide) ?_
            refine lv_goto (tgt := 75) hx hb dX10_tellPlaced_71 (by decide) ?_
            exact x_zret hQ hx hb hr hlocks hK hP hD hS rfl dX10_tellPlaced_75 (ta2_61, ts2_62, tk2_63, tm2_64, tr2_65, fq2_66, pq2_67, vv2_54, k2_10, fc2_11, fd2_12, g_45, fam2_55) (⟨(Or.inr rfl), (show ta2_61 ≤ tn from by omega), (show tk2_63 ≤ 255 from by omega), f_71, f_17, (show k2_10 ≤ 4 from by omega)⟩) [6, 7, 8, 9, 1, 2, 0, 5, 3, 4] (by decide) rfl (Nat.le_of_ble_eq_true rfl) (Nat.le_of_ble_eq_true rfl)
      · refine lv_iconst (v := 0) hx hb dX10_tellPlaced_39 (by decide) ?_
        exact x_zret hQ hx hb hr hlocks hK hP hD hS rfl dX10_tellPlaced_40 (ta2_33, ts2_34, tk2_35, tm2_36, tr2_37, fq2_38, pq2_39, vv2_40, k2_10, fc2_11, fd2_12, fpa, fpb) (⟨(Or.inl rfl), (show ta2_33 ≤ tn from by omega), (show tk2_35 ≤ 255 from by omega), f_44, f_17, (show k2_10 ≤ 4 from by omega)⟩) [6, 7, 8, 9, 2, 3, 0, 1, 4, 5] (by decide) rfl (Nat.le_of_ble_eq_true rfl) (Nat.le_of_ble_eq_true rfl)
set_option maxHeartbeats 1000000 in
set_option maxRecDepth 100000 in
theorem s_tellPlaced2 (l : Launch) (D : va_G) (cy : Nat → ClassId) (adK : Nat → Nat) (adV : Nat → Nat) (d0 : Nat) (d1 : Nat) (uh : Int32) (wt : Int32) (dt : Int32) (vv : Int32) (fq : Int32) (pq : Int32) (yf : Value) (t0 : Nat) (t1 : Nat) (t2 : Nat) (tn : Nat) (ta : Nat) (ts : Nat) (tk : Nat) (tm : Int64) (tr : Int32) (fby : Nat → Int32) (fky : Nat → Int64) (h0 : Nat) (h1 : Nat) (h2 : Nat) (h3 : Nat) (h4 : Nat) (h5 : Nat) (h6 : Nat) (h7 : Nat) (h8 : Nat) (h9 : Nat) (h10 : Nat) (h11 : Nat) (hv0 : Value) (hv1 : Value) (hv2 : Value) (hv3 : Value) (hv4 : Value) (fc : Nat → Int32) (c0 : Nat) (c1 : Nat) (c2 : Nat) (c3 : Nat) (fpa : Nat → Int32) (fpb : Nat → Int32) (d2 : Nat) (d3 : Nat) (d4 : Nat) (d5 : Nat) (fd2 : Nat → Int64) (hcn : cntOK fc c0 c1 c2 c3) (hc0 : c0 ≤ 8) (hc1 : c1 ≤ 4) (hc2 : c2 ≤ 4) (hc3 : c3 ≤ 6) (htn : tn ≤ 1600) (hta : ta ≤ tn) (htk : tk ≤ 255) (hnu : nuOK tk tr) : XMi l D (tyL cy) (EV adK adV) yX10_tellPlaced cX10_tellPlaced 6 (some .boolean) (rmk 9 0 0) [.ref d0, .int 2, .ref h5, .int 111, .ref h6] [(d0, .inr (10, [.ref t0, .ref d1, .ref h0, yf, .int uh, .int wt, .int dt, .int vv, .int fq, .int pq])), (t0, .inr (9, [.ref t1, .ref t2, .int (nI tn), .int (nI ta), .int (nI ts), .int (nI tk), .long tm, .int tr])), (t1, .inl (cy 0, 1600, .inl (fby))), (t2, .inl (cy 2, 24, .inr (.inl (fky)))), (h0, .inr (4, [.ref h1, .ref h2, .ref h3, .ref h4, .ref h5, .ref h6, .ref h7, .ref h8, .ref h9, .ref h10, .ref h11, hv0, hv1, hv2, hv3, hv4])), (h1, .inl (cy 1, 4, .inl (fc))), (h5, .inl (cy 1, 4, .inl (fpa))), (h6, .inl (cy 1, 4, .inl (fpb))), (d1, .inl (cy 5, 4, .inr (.inr (.inr (.inr (eF d2 d3 d4 d5)))))), (d4, .inl (cy 2, 8, .inr (.inl (fd2))))] (fun (r : Int32) (u : Nat × Nat × Nat × Int64 × Int32 × Int32 × Int32 × Int32 × Nat × (Nat → Int32) × (Nat → Int64) × (Nat → Int32) × (Nat → Int32)) => (r = 0 ∨ r = 1) ∧ (u.1 ≤ tn) ∧ (u.2.2.1 ≤ 255) ∧ (nuOK u.2.2.1 u.2.2.2.2.1) ∧ (cntOK u.2.2.2.2.2.2.2.2.2.1 c0 c1 u.2.2.2.2.2.2.2.2.1 c3) ∧ (u.2.2.2.2.2.2.2.2.1 ≤ 4)) (fun (u : Nat × Nat × Nat × Int64 × Int32 × Int32 × Int32 × Int32 × Nat × (Nat → Int32) × (Nat → Int64) × (Nat → Int32) × (Nat → Int32)) => [(d0, .inr (10, [.ref t0, .ref d1, .ref h0, yf, .int uh, .int wt, .int dt, .int u.2.2.2.2.2.2.2.1, .int u.2.2.2.2.2.1, .int u.2.2.2.2.2.2.1])), (t0, .inr (9, [.ref t1, .ref t2, .int (nI tn), .int (nI u.1), .int (nI u.2.1), .int (nI u.2.2.1), .long u.2.2.2.1, .int u.2.2.2.2.1])), (t1, .inl (cy 0, 1600, .inl (fby))), (t2, .inl (cy 2, 24, .inr (.inl (fky)))), (h0, .inr (4, [.ref h1, .ref h2, .ref h3, .ref h4, .ref h5, .ref h6, .ref h7, .ref h8, .ref h9, .ref h10, .ref h11, hv0, hv1, hv2, hv3, hv4])), (h1, .inl (cy 1, 4, .inl (u.2.2.2.2.2.2.2.2.2.1))), (h5, .inl (cy 1, 4, .inl (u.2.2.2.2.2.2.2.2.2.2.2.1))), (h6, .inl (cy 1, 4, .inl (u.2.2.2.2.2.2.2.2.2.2.2.2))), (d1, .inl (cy 5, 4, .inr (.inr (.inr (.inr (eF d2 d3 d4 d5)))))), (d4, .inl (cy 2, 8, .inr (.inl (u.2.2.2.2.2.2.2.2.2.2.1))))]) := by
  refine XMi.start (by decide) (Nat.le_of_ble_eq_true rfl) ?_
  intro p e s m below meth c args A ls Q hat hQ
  obtain ⟨hx, hb, hr, hml, hown, hg, hlocks, hin, hK, hA, hP, hD, hS, hE, hl⟩ := hat
  have hown : s.vm.findClass RX10 = some m.cls := hown
  have hl : lv_has ls 6 [(0, .ref d0), (1, .int 2), (2, .ref h5), (3, .int 111), (4, .ref h6)] := hl
  refine lv_aload_n hx hb dX10_tellPlaced_0 rfl (lv_at hl 0 rfl) ?_
  refine va_get (D := D) (ci := 10) (v := .ref h0) (C := RX10) (T := TX10) (N := 10) hx hb hg i_X10 hown hK hP 0 rfl rfl 2 (by decide) (hg _ m_257) (fun _ h9 => h9) rfl dX10_tellPlaced_1 ?_
  refine va_get (D := D) (ci := 4) (v := .ref h1) (C := RX4) (T := TX4) (N := 16) hx hb hg i_X4 hown hK hP 4 rfl rfl 0 (by decide) (hg _ m_336) (fun _ h9 => h9) rfl dX10_tellPlaced_4 ?_
  refine lv_iload_n hx hb dX10_tellPlaced_7 rfl (lv_at hl 1 rfl) ?_
  refine va_iald hx hb hK hP 5 1 rfl rfl (by unfold vp_in; decide) dX10_tellPlaced_8 ?_
  refine lv_topi (fun y_1 hy_1 => ?_)
  obtain rfl : y_1 = nI c2 := hy_1.trans hcn.2.2.1
  refine lv_istore (lv' := [(5, .int (nI c2)), (0, .ref d0), (1, .int 2), (2, .ref h5), (3, .int 111), (4, .ref h6)]) hx hb dX10_tellPlaced_9 hl (by decide) rfl (fun ls hl => ?_)
  refine lv_aload_n hx hb dX10_tellPlaced_11 rfl (lv_at hl 1 rfl) ?_
  refine lv_iload_n hx hb dX10_tellPlaced_12 rfl (lv_at hl 2 rfl) ?_
  refine lv_aload_n hx hb dX10_tellPlaced_13 rfl (lv_at hl 3 rfl) ?_
  refine va_alen (v := 4) hx hb hK hP 6 1 rfl rfl rfl dX10_tellPlaced_14 ?_
  refine x_callVi (q := (RX10, TX10, 10)) (ci := 10) (q0 := 0) (wr := [(h5, .inl (cy 1, 4, .inl (fpa))), (h6, .inl (cy 1, 4, .inl (fpb)))]) (rest := []) ⟨hx, hb, hml, hown, hg, hl.1⟩ k_X10_117 (s_takeNew2 l D cy adK adV d0 d1 uh wt dt vv fq pq yf t0 t1 t2 tn ta ts tk tm tr fby fky h0 h1 h2 h3 h4 h5 h6 h7 h8 h9 h10 h11 hv0 hv1 hv2 hv3 hv4 fc c0 c1 c2 c3 d2 d3 d4 d5 fd2 (hcn) (by omega) (by omega) (by omega) (by omega) (by omega) (by omega) (by omega) (hnu)) EV_blind hK hP hD hS hA [0, 1, 2, 3, 4, 5, 8, 9] [6, 7] ⟨rfl, rfl, by decide, by decide, by decide⟩ rfl rfl (fun U hU hW => EV_pass hE hS (va_free hD hS hA [0, 1, 2, 3, 4, 5, 8, 9] rfl) hU hW) dX10_tellPlaced_15 rfl rfl (Nat.le_of_ble_eq_true rfl) ⟨Nat.le_of_ble_eq_true rfl, Nat.le_of_ble_eq_true rfl⟩ ⟨Nat.le_of_ble_eq_true rfl, Nat.le_of_ble_eq_true rfl⟩ (fun zr2 zu2 H locs hw2 hP hD hS => ?_)
  obtain ⟨ta2_3, ts2_4, tk2_5, tm2_6, tr2_7, fq2_8, pq2_9, k2_10, fc2_11, fd2_12⟩ := zu2
  have hP : va_P D vwCl [(h5, .inl (cy 1, 4, .inl (fpa))), (h6, .inl (cy 1, 4, .inl (fpb))), (d0, .inr (10, [.ref t0, .ref d1, .ref h0, yf, .int uh, .int wt, .int dt, .int vv, .int fq2_8, .int pq2_9])), (t0, .inr (9, [.ref t1, .ref t2, .int (nI tn), .int (nI ta2_3), .int (nI ts2_4), .int (nI tk2_5), .long tm2_6, .int tr2_7])), (t1, .inl (cy 0, 1600, .inl (fby))), (t2, .inl (cy 2, 24, .inr (.inl (fky)))), (h0, .inr (4, [.ref h1, .ref h2, .ref h3, .ref h4, .ref h5, .ref h6, .ref h7, .ref h8, .ref h9, .ref h10, .ref h11, hv0, hv1, hv2, hv3, hv4])), (h1, .inl (cy 1, 4, .inl (fc2_11))), (d1, .inl (cy 5, 4, .inr (.inr (.inr (.inr (eF d2 d3 d4 d5)))))), (d4, .inl (cy 2, 8, .inr (.inl (fd2_12))))] H := hP
  have hD : va_D A [(h5, .inl (cy 1, 4, .inl (fpa))), (h6, .inl (cy 1, 4, .inl (fpb))), (d0, .inr (10, [.ref t0, .ref d1, .ref h0, yf, .int uh, .int wt, .int dt, .int vv, .int fq2_8, .int pq2_9])), (t0, .inr (9, [.ref t1, .ref t2, .int (nI tn), .int (nI ta2_3), .int (nI ts2_4), .int (nI tk2_5), .long tm2_6, .int tr2_7])), (t1, .inl (cy 0, 1600, .inl (fby))), (t2, .inl (cy 2, 24, .inr (.inl (fky)))), (h0, .inr (4, [.ref h1, .ref h2, .ref h3, .ref h4, .ref h5, .ref h6, .ref h7, .ref h8, .ref h9, .ref h10, .ref h11, hv0, hv1, hv2, hv3, hv4])), (h1, .inl (cy 1, 4, .inl (fc2_11))), (d1, .inl (cy 5, 4, .inr (.inr (.inr (.inr (eF d2 d3 d4 d5)))))), (d4, .inl (cy 2, 8, .inr (.inl (fd2_12))))] := hD
  refine W.widen (k := 0) (n := 0) (Nat.le_of_ble_eq_true rfl) (Nat.le_of_ble_eq_true rfl) ?_
  have hw2 : (zr2 = 0 ∨ zr2 = 1) ∧ (ta2_3 ≤ tn) ∧ (tk2_5 ≤ 255) ∧ (nuOK tk2_5 tr2_7) ∧ (cntOK fc2_11 c0 c1 k2_10 c3) ∧ (k2_10 ≤ 4) ∧ (zr2 = 1 → c2 < 4) := hw2
  obtain ⟨f_13, f_14, f_15, f_16, f_17, f_18, f_19⟩ := hw2
  refine lv_if_eq (tgt := 39) hx hb dX10_tellPlaced_18 (by decide) (fun c_18 => ?_) (fun c_18 => ?_)
  · refine lv_iconst (v := 0) hx hb dX10_tellPlaced_39 (by decide) ?_
    exact x_zret hQ hx hb hr hlocks hK hP hD hS rfl dX10_tellPlaced_40 (ta2_3, ts2_4, tk2_5, tm2_6, tr2_7, fq2_8, pq2_9, vv, k2_10, fc2_11, fd2_12, fpa, fpb) (⟨(Or.inl rfl), (show ta2_3 ≤ tn from by omega), (show tk2_5 ≤ 255 from by omega), f_16, f_17, (show k2_10 ≤ 4 from by omega)⟩) [2, 3, 4, 5, 6, 7, 0, 1, 8, 9] (by decide) rfl (Nat.le_of_ble_eq_true rfl) (Nat.le_of_ble_eq_true rfl)
  · have hlt9 : c2 < 4 := f_19 (f_13.resolve_left c_18)
    refine lv_aload_n hx hb dX10_tellPlaced_21 rfl (lv_at hl 1 rfl) ?_
    refine lv_bipush (v := 110) hx hb dX10_tellPlaced_22 (by decide) ?_
    refine x_callVi (q := (RX10, TX10, 10)) (ci := 10) (q0 := 0) (wr := [(h5, .inl (cy 1, 4, .inl (fpa))), (h6, .inl (cy 1, 4, .inl (fpb))), (h0, .inr (4, [.ref h1, .ref h2, .ref h3, .ref h4, .ref h5, .ref h6, .ref h7, .ref h8, .ref h9, .ref h10, .ref h11, hv0, hv1, hv2, hv3, hv4])), (h1, .inl (cy 1, 4, .inl (fc2_11))), (d1, .inl (cy 5, 4, .inr (.inr (.inr (.inr (eF d2 d3 d4 d5)))))), (d4, .inl (cy 2, 8, .inr (.inl (fd2_12))))]) (rest := []) ⟨hx, hb, hml, hown, hg, hl.1⟩ k_X10_128 (s_take l D cy adK adV d0 d1 uh wt dt vv fq2_8 pq2_9 ((.ref h0)) yf t0 t1 t2 tn ta2_3 ts2_4 tk2_5 tm2_6 tr2_7 fby fky 110 (by omega) (by omega) (by omega) (f_16) (by omega)) EV_blind hK hP hD hS hA [2, 3, 4, 5] [0, 1, 6, 7, 8, 9] ⟨rfl, rfl, by decide, by decide, by decide⟩ rfl rfl (fun U hU hW => EV_pass hE hS (va_free hD hS hA [2, 3, 4, 5] rfl) hU hW) dX10_tellPlaced_24 rfl rfl (Nat.le_of_ble_eq_true rfl) ⟨Nat.le_of_ble_eq_true rfl, Nat.le_of_ble_eq_true rfl⟩ ⟨Nat.le_of_ble_eq_true rfl, Nat.le_of_ble_eq_true rfl⟩ (fun zr20 zu20 H locs hw20 hP hD hS => ?_)
    obtain ⟨ta2_21, ts2_22, tk2_23, tm2_24, tr2_25, fq2_26, pq2_27⟩ := zu20
    have hP : va_P D vwCl [(h5, .inl (cy 1, 4, .inl (fpa))), (h6, .inl (cy 1, 4, .inl (fpb))), (h0, .inr (4, [.ref h1, .ref h2, .ref h3, .ref h4, .ref h5, .ref h6, .ref h7, .ref h8, .ref h9, .ref h10, .ref h11, hv0, hv1, hv2, hv3, hv4])), (h1, .inl (cy 1, 4, .inl (fc2_11))), (d1, .inl (cy 5, 4, .inr (.inr (.inr (.inr (eF d2 d3 d4 d5)))))), (d4, .inl (cy 2, 8, .inr (.inl (fd2_12)))), (d0, .inr (10, [.ref t0, .ref d1, .ref h0, yf, .int uh, .int wt, .int dt, .int vv, .int fq2_26, .int pq2_27])), (t0, .inr (9, [.ref t1, .ref t2, .int (nI tn), .int (nI ta2_21), .int (nI ts2_22), .int (nI tk2_23), .long tm2_24, .int tr2_25])), (t1, .inl (cy 0, 1600, .inl (fby))), (t2, .inl (cy 2, 24, .inr (.inl (fky))))] H := hP
    have hD : va_D A [(h5, .inl (cy 1, 4, .inl (fpa))), (h6, .inl (cy 1, 4, .inl (fpb))), (h0, .inr (4, [.ref h1, .ref h2, .ref h3, .ref h4, .ref h5, .ref h6, .ref h7, .ref h8, .ref h9, .ref h10, .ref h11, hv0, hv1, hv2, hv3, hv4])), (h1, .inl (cy 1, 4, .inl (fc2_11))), (d1, .inl (cy 5, 4, .inr (.inr (.inr (.inr (eF d2 d3 d4 d5)))))), (d4, .inl (cy 2, 8, .inr (.inl (fd2_12)))), (d0, .inr (10, [.ref t0, .ref d1, .ref h0, yf, .int uh, .int wt, .int dt, .int vv, .int fq2_26, .int pq2_27])), (t0, .inr (9, [.ref t1, .ref t2, .int (nI tn), .int (nI ta2_21), .int (nI ts2_22), .int (nI tk2_23), .long tm2_24, .int tr2_25])), (t1, .inl (cy 0, 1600, .inl (fby))), (t2, .inl (cy 2, 24, .inr (.inl (fky))))] := hD
    refine W.widen (k := 0) (n := 0) (Nat.le_of_ble_eq_true rfl) (Nat.le_of_ble_eq_true rfl) ?_
    have hw20 : (zr20 = 0 ∨ zr20 = 1) ∧ (ta2_21 ≤ tn) ∧ (tk2_23 ≤ 255) ∧ (nuOK tk2_23 tr2_25) := hw20
    obtain ⟨f_28, f_29, f_30, f_31⟩ := hw20
    refine lv_if_eq (tgt := 39) hx hb dX10_tellPlaced_27 (by decide) (fun c_27 => ?_) (fun c_27 => ?_)
    · refine lv_iconst (v := 0) hx hb dX10_tellPlaced_39 (by decide) ?_
      exact x_zret hQ hx hb hr hlocks hK hP hD hS rfl dX10_tellPlaced_40 (ta2_21, ts2_22, tk2_23, tm2_24, tr2_25, fq2_26, pq2_27, vv, k2_10, fc2_11, fd2_12, fpa, fpb) (⟨(Or.inl rfl), (show ta2_21 ≤ tn from by omega), (show tk2_23 ≤ 255 from by omega), f_31, f_17, (show k2_10 ≤ 4 from by omega)⟩) [6, 7, 8, 9, 2, 3, 0, 1, 4, 5] (by decide) rfl (Nat.le_of_ble_eq_true rfl) (Nat.le_of_ble_eq_true rfl)
    · refine lv_aload_n hx hb dX10_tellPlaced_30 rfl (lv_at hl 1 rfl) ?_
      refine lv_bipush (v := 99) hx hb dX10_tellPlaced_31 (by decide) ?_
      refine x_callVi (q := (RX10, TX10, 10)) (ci := 10) (q0 := 0) (wr := [(h5, .inl (cy 1, 4, .inl (fpa))), (h6, .inl (cy 1, 4, .inl (fpb))), (h0, .inr (4, [.ref h1, .ref h2, .ref h3, .ref h4, .ref h5, .ref h6, .ref h7, .ref h8, .ref h9, .ref h10, .ref h11, hv0, hv1, hv2, hv3, hv4])), (h1, .inl (cy 1, 4, .inl (fc2_11))), (d1, .inl (cy 5, 4, .inr (.inr (.inr (.inr (eF d2 d3 d4 d5)))))), (d4, .inl (cy 2, 8, .inr (.inl (fd2_12))))]) (rest := []) ⟨hx, hb, hml, hown, hg, hl.1⟩ k_X10_131 (s_takeNumber l D cy adK adV d0 d1 uh wt dt vv fq2_26 pq2_27 ((.ref h0)) yf t0 t1 t2 tn ta2_21 ts2_22 tk2_23 tm2_24 tr2_25 fby fky 99 (by omega) (by omega) (by omega) (f_31)) EV_blind hK hP hD hS hA [6, 7, 8, 9] [0, 1, 2, 3, 4, 5] ⟨rfl, rfl, by decide, by decide, by decide⟩ rfl rfl (fun U hU hW => EV_pass hE hS (va_free hD hS hA [6, 7, 8, 9] rfl) hU hW) dX10_tellPlaced_33 rfl rfl (Nat.le_of_ble_eq_true rfl) ⟨Nat.le_of_ble_eq_true rfl, Nat.le_of_ble_eq_true rfl⟩ ⟨Nat.le_of_ble_eq_true rfl, Nat.le_of_ble_eq_true rfl⟩ (fun zr32 zu32 H locs hw32 hP hD hS => ?_)
      obtain ⟨ta2_33, ts2_34, tk2_35, tm2_36, tr2_37, fq2_38, pq2_39, vv2_40⟩ := zu32
      have hP : va_P D vwCl [(h5, .inl (cy 1, 4, .inl (fpa))), (h6, .inl (cy 1, 4, .inl (fpb))), (h0, .inr (4, [.ref h1, .ref h2, .ref h3, .ref h4, .ref h5, .ref h6, .ref h7, .ref h8, .ref h9, .ref h10, .ref h11, hv0, hv1, hv2, hv3, hv4])), (h1, .inl (cy 1, 4, .inl (fc2_11))), (d1, .inl (cy 5, 4, .inr (.inr (.inr (.inr (eF d2 d3 d4 d5)))))), (d4, .inl (cy 2, 8, .inr (.inl (fd2_12)))), (d0, .inr (10, [.ref t0, .ref d1, .ref h0, yf, .int uh, .int wt, .int dt, .int vv2_40, .int fq2_38, .int pq2_39])), (t0, .inr (9, [.ref t1, .ref t2, .int (nI tn), .int (nI ta2_33), .int (nI ts2_34), .int (nI tk2_35), .long tm2_36, .int tr2_37])), (t1, .inl (cy 0, 1600, .inl (fby))), (t2, .inl (cy 2, 24, .inr (.inl (fky))))] H := hP
      have hD : va_D A [(h5, .inl (cy 1, 4, .inl (fpa))), (h6, .inl (cy 1, 4, .inl (fpb))), (h0, .inr (4, [.ref h1, .ref h2, .ref h3, .ref h4, .ref h5, .ref h6, .ref h7, .ref h8, .ref h9, .ref h10, .ref h11, hv0, hv1, hv2, hv3, hv4])), (h1, .inl (cy 1, 4, .inl (fc2_11))), (d1, .inl (cy 5, 4, .inr (.inr (.inr (.inr (eF d2 d3 d4 d5)))))), (d4, .inl (cy 2, 8, .inr (.inl (fd2_12)))), (d0, .inr (10, [.ref t0, .ref d1, .ref h0, yf, .int uh, .int wt, .int dt, .int vv2_40, .int fq2_38, .int pq2_39])), (t0, .inr (9, [.ref t1, .ref t2, .int (nI tn), .int (nI ta2_33), .int (nI ts2_34), .int (nI tk2_35), .long tm2_36, .int tr2_37])), (t1, .inl (cy 0, 1600, .inl (fby))), (t2, .inl (cy 2, 24, .inr (.inl (fky))))] := hD
      refine W.widen (k := 0) (n := 0) (Nat.le_of_ble_eq_true rfl) (Nat.le_of_ble_eq_true rfl) ?_
      have hw32 : (zr32 = 0 ∨ zr32 = 1) ∧ (ta2_33 ≤ tn) ∧ (tk2_35 ≤ 255) ∧ (nuOK tk2_35 tr2_37) := hw32
      obtain ⟨f_41, f_42, f_43, f_44⟩ := hw32
      refine lv_if_ne (tgt := 41) hx hb dX10_tellPlaced_36 (by decide) (fun c_36 => ?_) (fun c_36 => ?_)
      · refine lv_aload_n hx hb dX10_tellPlaced_41 rfl (lv_at hl 3 rfl) ?_
        refine lv_iload hx hb dX10_tellPlaced_42 (lv_at hl 0 rfl) ?_
        refine lv_aload_n hx hb dX10_tellPlaced_44 rfl (lv_at hl 1 rfl) ?_
        refine va_get (D := D) (ci := 10) (v := .int vv2_40) (C := RX10) (T := TX10) (N := 10) hx hb hg i_X10 hown hK hP 6 rfl rfl 7 (by decide) (hg _ m_262) (fun _ h9 => h9) rfl dX10_tellPlaced_45 ?_
        refine va_iast hx hb hK hP hD hS 0 1 rfl rfl (vp_in_nI (by omega) (by decide)) dX10_tellPlaced_48 (fun H locs hP hD hS => ?_)
        obtain ⟨g_45, eg_45⟩ : ∃ y, upd fpa (nI c2 : Int32).toNatClampNeg vv2_40 = y := ⟨_, rfl⟩
        rw [eg_45] at hP hD
        have hP : va_P D vwCl [(h5, .inl (cy 1, 4, .inl (g_45))), (h6, .inl (cy 1, 4, .inl (fpb))), (h0, .inr (4, [.ref h1, .ref h2, .ref h3, .ref h4, .ref h5, .ref h6, .ref h7, .ref h8, .ref h9, .ref h10, .ref h11, hv0, hv1, hv2, hv3, hv4])), (h1, .inl (cy 1, 4, .inl (fc2_11))), (d1, .inl (cy 5, 4, .inr (.inr (.inr (.inr (eF d2 d3 d4 d5)))))), (d4, .inl (cy 2, 8, .inr (.inl (fd2_12)))), (d0, .inr (10, [.ref t0, .ref d1, .ref h0, yf, .int uh, .int wt, .int dt, .int vv2_40, .int fq2_38, .int pq2_39])), (t0, .inr (9, [.ref t1, .ref t2, .int (nI tn), .int (nI ta2_33), .int (nI ts2_34), .int (nI tk2_35), .long tm2_36, .int tr2_37])), (t1, .inl (cy 0, 1600, .inl (fby))), (t2, .inl (cy 2, 24, .inr (.inl (fky))))] H := hP
        have hD : va_D A [(h5, .inl (cy 1, 4, .inl (g_45))), (h6, .inl (cy 1, 4, .inl (fpb))), (h0, .inr (4, [.ref h1, .ref h2, .ref h3, .ref h4, .ref h5, .ref h6, .ref h7, .ref h8, .ref h9, .ref h10, .ref h11, hv0, hv1, hv2, hv3, hv4])), (h1, .inl (cy 1, 4, .inl (fc2_11))), (d1, .inl (cy 5, 4, .inr (.inr (.inr (.inr (eF d2 d3 d4 d5)))))), (d4, .inl (cy 2, 8, .inr (.inl (fd2_12)))), (d0, .inr (10, [.ref t0, .ref d1, .ref h0, yf, .int uh, .int wt, .int dt, .int vv2_40, .int fq2_38, .int pq2_39])), (t0, .inr (9, [.ref t1, .ref t2, .int (nI tn), .int (nI ta2_33), .int (nI ts2_34), .int (nI tk2_35), .long tm2_36, .int tr2_37])), (t1, .inl (cy 0, 1600, .inl (fby))), (t2, .inl (cy 2, 24, .inr (.inl (fky))))] := hD
        refine lv_aload_n hx hb dX10_tellPlaced_49 rfl (lv_at hl 1 rfl) ?_
        refine lv_iload_n hx hb dX10_tellPlaced_50 rfl (lv_at hl 4 rfl) ?_
        refine lv_aload hx hb dX10_tellPlaced_51 (lv_at hl 5 rfl) ?_
        refine lv_iload hx hb dX10_tellPlaced_53 (lv_at hl 0 rfl) ?_
        refine x_callVi (q := (RX10, TX10, 10)) (ci := 10) (q0 := 0) (wr := [(h5, .inl (cy 1, 4, .inl (g_45))), (h0, .inr (4, [.ref h1, .ref h2, .ref h3, .ref h4, .ref h5, .ref h6, .ref h7, .ref h8, .ref h9, .ref h10, .ref h11, hv0, hv1, hv2, hv3, hv4])), (h1, .inl (cy 1, 4, .inl (fc2_11))), (d1, .inl (cy 5, 4, .inr (.inr (.inr (.inr (eF d2 d3 d4 d5)))))), (d4, .inl (cy 2, 8, .inr (.inl (fd2_12))))]) (rest := []) ⟨hx, hb, hml, hown, hg, hl.1⟩ k_X10_124 (s_takeOption4 l D cy adK adV d0 d1 uh wt dt vv2_40 fq2_38 pq2_39 ((.ref h0)) yf t0 t1 t2 tn ta2_33 ts2_34 tk2_35 tm2_36 tr2_37 fby fky h6 fpb 111 c2 (by omega) (by omega) (by omega) (f_44) (by omega) (by omega)) EV_blind hK hP hD hS hA [6, 7, 8, 9, 1] [0, 2, 3, 4, 5] ⟨rfl, rfl, by decide, by decide, by decide⟩ rfl rfl (fun U hU hW => EV_pass hE hS (va_free hD hS hA [6, 7, 8, 9, 1] rfl) hU hW) dX10_tellPlaced_55 rfl rfl (Nat.le_of_ble_eq_true rfl) ⟨Nat.le_of_ble_eq_true rfl, Nat.le_of_ble_eq_true rfl⟩ ⟨Nat.le_of_ble_eq_true rfl, Nat.le_of_ble_eq_true rfl⟩ (fun zr46 zu46 H locs hw46 hP hD hS => ?_)
        obtain ⟨ta2_47, ts2_48, tk2_49, tm2_50, tr2_51, fq2_52, pq2_53, vv2_54, fam2_55⟩ := zu46
        have hP : va_P D vwCl [(h5, .inl (cy 1, 4, .inl (g_45))), (h0, .inr (4, [.ref h1, .ref h2, .ref h3, .ref h4, .ref h5, .ref h6, .ref h7, .ref h8, .ref h9, .ref h10, .ref h11, hv0, hv1, hv2, hv3, hv4])), (h1, .inl (cy 1, 4, .inl (fc2_11))), (d1, .inl (cy 5, 4, .inr (.inr (.inr (.inr (eF d2 d3 d4 d5)))))), (d4, .inl (cy 2, 8, .inr (.inl (fd2_12)))), (d0, .inr (10, [.ref t0, .ref d1, .ref h0, yf, .int uh, .int wt, .int dt, .int vv2_54, .int fq2_52, .int pq2_53])), (t0, .inr (9, [.ref t1, .ref t2, .int (nI tn), .int (nI ta2_47), .int (nI ts2_48), .int (nI tk2_49), .long tm2_50, .int tr2_51])), (t1, .inl (cy 0, 1600, .inl (fby))), (t2, .inl (cy 2, 24, .inr (.inl (fky)))), (h6, .inl (cy 1, 4, .inl (fam2_55)))] H := hP
        have hD : va_D A [(h5, .inl (cy 1, 4, .inl (g_45))), (h0, .inr (4, [.ref h1, .ref h2, .ref h3, .ref h4, .ref h5, .ref h6, .ref h7, .ref h8, .ref h9, .ref h10, .ref h11, hv0, hv1, hv2, hv3, hv4])), (h1, .inl (cy 1, 4, .inl (fc2_11))), (d1, .inl (cy 5, 4, .inr (.inr (.inr (.inr (eF d2 d3 d4 d5)))))), (d4, .inl (cy 2, 8, .inr (.inl (fd2_12)))), (d0, .inr (10, [.ref t0, .ref d1, .ref h0, yf, .int uh, .int wt, .int dt, .int vv2_54, .int fq2_52, .int pq2_53])), (t0, .inr (9, [.ref t1, .ref t2, .int (nI tn), .int (nI ta2_47), .int (nI ts2_48), .int (nI tk2_49), .long tm2_50, .int tr2_51])), (t1, .inl (cy 0, 1600, .inl (fby))), (t2, .inl (cy 2, 24, .inr (.inl (fky)))), (h6, .inl (cy 1, 4, .inl (fam2_55)))] := hD
        refine W.widen (k := 0) (n := 0) (Nat.le_of_ble_eq_true rfl) (Nat.le_of_ble_eq_true rfl) ?_
        have hw46 : (zr46 = 0 ∨ zr46 = 1) ∧ (ta2_47 ≤ tn) ∧ (tk2_49 ≤ 255) ∧ (nuOK tk2_49 tr2_51) := hw46
        obtain ⟨f_56, f_57, f_58, f_59⟩ := hw46
        refine lv_if_eq (tgt := 74) hx hb dX10_tellPlaced_58 (by decide) (fun c_58 => ?_) (fun c_58 => ?_)
        · refine lv_iconst (v := 0) hx hb dX10_tellPlaced_74 (by decide) ?_
          exact x_zret hQ hx hb hr hlocks hK hP hD hS rfl dX10_tellPlaced_75 (ta2_47, ts2_48, tk2_49, tm2_50, tr2_51, fq2_52, pq2_53, vv2_54, k2_10, fc2_11, fd2_12, g_45, fam2_55) (⟨(Or.inl rfl), (show ta2_47 ≤ tn from by omega), (show tk2_49 ≤ 255 from by omega), f_59, f_17, (show k2_10 ≤ 4 from by omega)⟩) [5, 6, 7, 8, 1, 2, 0, 9, 3, 4] (by decide) rfl (Nat.le_of_ble_eq_true rfl) (Nat.le_of_ble_eq_true rfl)
        · refine lv_aload_n hx hb dX10_tellPlaced_61 rfl (lv_at hl 1 rfl) ?_
          refine lv_bipush (v := 59) hx hb dX10_tellPlaced_62 (by decide) ?_
          refine x_callVi (q := (RX10, TX10, 10)) (ci := 10) (q0 := 0) (wr := [(h5, .inl (cy 1, 4, .inl (g_45))), (h0, .inr (4, [.ref h1, .ref h2, .ref h3, .ref h4, .ref h5, .ref h6, .ref h7, .ref h8, .ref h9, .ref h10, .ref h11, hv0, hv1, hv2, hv3, hv4])), (h1, .inl (cy 1, 4, .inl (fc2_11))), (d1, .inl (cy 5, 4, .inr (.inr (.inr (.inr (eF d2 d3 d4 d5)))))), (d4, .inl (cy 2, 8, .inr (.inl (fd2_12)))), (h6, .inl (cy 1, 4, .inl (fam2_55)))]) (rest := []) ⟨hx, hb, hml, hown, hg, hl.1⟩ k_X10_128 (s_take l D cy adK adV d0 d1 uh wt dt vv2_54 fq2_52 pq2_53 ((.ref h0)) yf t0 t1 t2 tn ta2_47 ts2_48 tk2_49 tm2_50 tr2_51 fby fky 59 (by omega) (by omega) (by omega) (f_59) (by omega)) EV_blind hK hP hD hS hA [5, 6, 7, 8] [0, 1, 2, 3, 4, 9] ⟨rfl, rfl, by decide, by decide, by decide⟩ rfl rfl (fun U hU hW => EV_pass hE hS (va_free hD hS hA [5, 6, 7, 8] rfl) hU hW) dX10_tellPlaced_64 rfl rfl (Nat.le_of_ble_eq_true rfl) ⟨Nat.le_of_ble_eq_true rfl, Nat.le_of_ble_eq_true rfl⟩ ⟨Nat.le_of_ble_eq_true rfl, Nat.le_of_ble_eq_true rfl⟩ (fun zr60 zu60 H locs hw60 hP hD hS => ?_)
          obtain ⟨ta2_61, ts2_62, tk2_63, tm2_64, tr2_65, fq2_66, pq2_67⟩ := zu60
          have hP : va_P D vwCl [(h5, .inl (cy 1, 4, .inl (g_45))), (h0, .inr (4, [.ref h1, .ref h2, .ref h3, .ref h4, .ref h5, .ref h6, .ref h7, .ref h8, .ref h9, .ref h10, .ref h11, hv0, hv1, hv2, hv3, hv4])), (h1, .inl (cy 1, 4, .inl (fc2_11))), (d1, .inl (cy 5, 4, .inr (.inr (.inr (.inr (eF d2 d3 d4 d5)))))), (d4, .inl (cy 2, 8, .inr (.inl (fd2_12)))), (h6, .inl (cy 1, 4, .inl (fam2_55))), (d0, .inr (10, [.ref t0, .ref d1, .ref h0, yf, .int uh, .int wt, .int dt, .int vv2_54, .int fq2_66, .int pq2_67])), (t0, .inr (9, [.ref t1, .ref t2, .int (nI tn), .int (nI ta2_61), .int (nI ts2_62), .int (nI tk2_63), .long tm2_64, .int tr2_65])), (t1, .inl (cy 0, 1600, .inl (fby))), (t2, .inl (cy 2, 24, .inr (.inl (fky))))] H := hP
          have hD : va_D A [(h5, .inl (cy 1, 4, .inl (g_45))), (h0, .inr (4, [.ref h1, .ref h2, .ref h3, .ref h4, .ref h5, .ref h6, .ref h7, .ref h8, .ref h9, .ref h10, .ref h11, hv0, hv1, hv2, hv3, hv4])), (h1, .inl (cy 1, 4, .inl (fc2_11))), (d1, .inl (cy 5, 4, .inr (.inr (.inr (.inr (eF d2 d3 d4 d5)))))), (d4, .inl (cy 2, 8, .inr (.inl (fd2_12)))), (h6, .inl (cy 1, 4, .inl (fam2_55))), (d0, .inr (10, [.ref t0, .ref d1, .ref h0, yf, .int uh, .int wt, .int dt, .int vv2_54, .int fq2_66, .int pq2_67])), (t0, .inr (9, [.ref t1, .ref t2, .int (nI tn), .int (nI ta2_61), .int (nI ts2_62), .int (nI tk2_63), .long tm2_64, .int tr2_65])), (t1, .inl (cy 0, 1600, .inl (fby))), (t2, .inl (cy 2, 24, .inr (.inl (fky))))] := hD
          refine W.widen (k := 0) (n := 0) (Nat.le_of_ble_eq_true rfl) (Nat.le_of_ble_eq_true rfl) ?_
          have hw60 : (zr60 = 0 ∨ zr60 = 1) ∧ (ta2_61 ≤ tn) ∧ (tk2_63 ≤ 255) ∧ (nuOK tk2_63 tr2_65) := hw60
          obtain ⟨f_68, f_69, f_70, f_71⟩ := hw60
          refine lv_if_eq (tgt := 74) hx hb dX10_tellPlaced_67 (by decide) (fun c_67 => ?_) (fun c_67 => ?_)
          · refine lv_iconst (v := 0) hx hb dX10_tellPlaced_74 (by decide) ?_
            exact x_zret hQ hx hb hr hlocks hK hP hD hS rfl dX10_tellPlaced_75 (ta2_61, ts2_62, tk2_63, tm2_64, tr2_65, fq2_66, pq2_67, vv2_54, k2_10, fc2_11, fd2_12, g_45, fam2_55) (⟨(Or.inl rfl), (show ta2_61 ≤ tn from by omega), (show tk2_63 ≤ 255 from by omega), f_71, f_17, (show k2_10 ≤ 4 from by omega)⟩) [6, 7, 8, 9, 1, 2, 0, 5, 3, 4] (by decide) rfl (Nat.le_of_ble_eq_true rfl) (Nat.le_of_ble_eq_true rfl)
          · refine lv_iconst (v := 1) hx hb dX10_tellPlaced_70 (by decide) ?_
            refine lv_goto (tgt := 75) hx hb dX10_tellPlaced_71 (by decide) ?_
            exact x_zret hQ hx hb hr hlocks hK hP hD hS rfl dX10_tellPlaced_75 (ta2_61, ts2_62, tk2_63, tm2_64, tr2_65, fq2_66, pq2_67, vv2_54, k2_10, fc2_11, fd2_12, g_45, fam2_55) (⟨(Or.inr rfl), (show ta2_61 ≤ tn from by omega), (show tk2_63 ≤ 255 from by omega), f_71, f_17, (show k2_10 ≤ 4 from by omega)⟩) [6, 7, 8, 9, 1, 2, 0, 5, 3, 4] (by decide) rfl (Nat.le_of_ble_eq_true rfl) (Nat.le_of_ble_eq_true rfl)
      · refine lv_iconst (v := 0) hx hb dX10_tellPlaced_39 (by decide) ?_
        exact x_zret hQ hx hb hr hlocks hK hP hD hS rfl dX10_tellPlaced_40 (ta2_33, ts2_34, tk2_35, tm2_36, tr2_37, fq2_38, pq2_39, vv2_40, k2_10, fc2_11, fd2_12, fpa, fpb) (⟨(Or.inl rfl), (show ta2_33 ≤ tn from by omega), (show tk2_35 ≤ 255 from by omega), f_44, f_17, (show k2_10 ≤ 4 from by omega)⟩) [6, 7, 8, 9, 2, 3, 0, 1, 4, 5] (by decide) rfl (Nat.le_of_ble_eq_true rfl) (Nat.le_of_ble_eq_true rfl)
theorem dX10_tellState_0 : decode cX10_tellState 0 = .ok (.aload_n 0, 1) := by decide +kernel
theorem dX10_tellState_1 : decode cX10_tellState 1 = .ok (.getfield 24, 3) := by decide +kernel
theorem dX10_tellState_4 : decode cX10_tellState 4 = .ok (.getfield 114, 3) := by decide +kernel
theorem dX10_tellState_7 : decode cX10_tellState 7 = .ok (.iconst 3, 1) := by decide +kernel
theorem dX10_tellState_8 : decode cX10_tellState 8 = .ok (.iaload, 1) := by decide +kernel
theorem dX10_tellState_9 : decode cX10_tellState 9 = .ok (.istore_n 1, 1) := by decide +kernel
theorem dX10_tellState_10 : decode cX10_tellState 10 = .ok (.aload_n 0, 1) := by decide +kernel
theorem dX10_tellState_11 : decode cX10_tellState 11 = .ok (.iconst 3, 1) := by decide +kernel
theorem dX10_tellState_12 : decode cX10_tellState 12 = .ok (.bipush 6, 2) := by decide +kernel
theorem dX10_tellState_14 : decode cX10_tellState 14 = .ok (.invokevirtual 117, 3) := by decide +kernel
theorem dX10_tellState_17 : decode cX10_tellState 17 = .ok (.ifCond .ne 5, 3) := by decide +kernel
theorem dX10_tellState_22 : decode cX10_tellState 22 = .ok (.aload_n 0, 1) := by decide +kernel
theorem dX10_tellState_23 : decode cX10_tellState 23 = .ok (.getfield 16, 3) := by decide +kernel
theorem dX10_tellState_26 : decode cX10_tellState 26 = .ok (.getfield 55, 3) := by decide +kernel
theorem dX10_tellState_29 : decode cX10_tellState 29 = .ok (.bipush 112, 2) := by decide +kernel
theorem dX10_tellState_31 : decode cX10_tellState 31 = .ok (.if_icmp .ne 25, 3) := by decide +kernel
theorem dX10_tellState_56 : decode cX10_tellState 56 = .ok (.aload_n 0, 1) := by decide +kernel
theorem dX10_tellState_57 : decode cX10_tellState 57 = .ok (.bipush 59, 2) := by decide +kernel
theorem dX10_tellState_59 : decode cX10_tellState 59 = .ok (.invokevirtual 128, 3) := by decide +kernel
theorem dX10_tellState_62 : decode cX10_tellState 62 = .ok (.ireturn, 1) := by decide +kernel
theorem dX10_tellState_34 : decode cX10_tellState 34 = .ok (.aload_n 0, 1) := by decide +kernel
theorem dX10_tellState_35 : decode cX10_tellState 35 = .ok (.getfield 24, 3) := by decide +kernel
theorem dX10_tellState_38 : decode cX10_tellState 38 = .ok (.dup, 1) := by decide +kernel
theorem dX10_tellState_39 : decode cX10_tellState 39 = .ok (.getfield 137, 3) := by decide +kernel
set_option maxRecDepth 100000 in
theorem m_369 : (Cond.fieldLink RX10 137 "CliffJudges$Hills" "yesStates" "I") ∈ gT := gm 369 rfl rfl
theorem dX10_tellState_42 : decode cX10_tellState 42 = .ok (.iconst 1, 1) := by decide +kernel
theorem dX10_tellState_43 : decode cX10_tellState 43 = .ok (.iload_n 1, 1) := by decide +kernel
theorem dX10_tellState_44 : decode cX10_tellState 44 = .ok (.ishl, 1) := by decide +kernel
theorem dX10_tellState_45 : decode cX10_tellState 45 = .ok (.ior, 1) := by decide +kernel
theorem dX10_tellState_46 : decode cX10_tellState 46 = .ok (.putfield 137, 3) := by decide +kernel
theorem dX10_tellState_49 : decode cX10_tellState 49 = .ok (.aload_n 0, 1) := by decide +kernel
theorem dX10_tellState_50 : decode cX10_tellState 50 = .ok (.getfield 16, 3) := by decide +kernel
theorem dX10_tellState_53 : decode cX10_tellState 53 = .ok (.invokevirtual 140, 3) := by decide +kernel
theorem dX10_tellState_20 : decode cX10_tellState 20 = .ok (.iconst 0, 1) := by decide +kernel
theorem dX10_tellState_21 : decode cX10_tellState 21 = .ok (.ireturn, 1) := by decide +kernel
set_option maxHeartbeats 1000000 in
set_option maxRecDepth 100000 in
theorem s_tellState (l : Launch) (D : va_G) (cy : Nat → ClassId) (adK : Nat → Nat) (adV : Nat → Nat) (d0 : Nat) (d1 : Nat) (uh : Int32) (wt : Int32) (dt : Int32) (vv : Int32) (fq : Int32) (pq : Int32) (yf : Value) (t0 : Nat) (t1 : Nat) (t2 : Nat) (tn : Nat) (ta : Nat) (ts : Nat) (tk : Nat) (tm : Int64) (tr : Int32) (fby : Nat → Int32) (fky : Nat → Int64) (h0 : Nat) (h1 : Nat) (h2 : Nat) (h3 : Nat) (h4 : Nat) (h5 : Nat) (h6 : Nat) (h7 : Nat) (h8 : Nat) (h9 : Nat) (h10 : Nat) (h11 : Nat) (hv1 : Value) (hv2 : Value) (hv3 : Value) (hv4 : Value) (ys : Int32) (fc : Nat → Int32) (c0 : Nat) (c1 : Nat) (c2 : Nat) (c3 : Nat) (d2 : Nat) (d3 : Nat) (d4 : Nat) (d5 : Nat) (fd3 : Nat → Int64) (hcn : cntOK fc c0 c1 c2 c3) (hc0 : c0 ≤ 8) (hc1 : c1 ≤ 4) (hc2 : c2 ≤ 4) (hc3 : c3 ≤ 6) (htn : tn ≤ 1600) (hta : ta ≤ tn) (htk : tk ≤ 255) (hnu : nuOK tk tr) : XMi l D (tyL cy) (EV adK adV) yX10_tellState cX10_tellState 2 (some .boolean) (rmk 8 0 0) [.ref d0] [(d0, .inr (10, [.ref t0, .ref d1, .ref h0, yf, .int uh, .int wt, .int dt, .int vv, .int fq, .int pq])), (t0, .inr (9, [.ref t1, .ref t2, .int (nI tn), .int (nI ta), .int (nI ts), .int (nI tk), .long tm, .int tr])), (t1, .inl (cy 0, 1600, .inl (fby))), (t2, .inl (cy 2, 24, .inr (.inl (fky)))), (h0, .inr (4, [.ref h1, .ref h2, .ref h3, .ref h4, .ref h5, .ref h6, .ref h7, .ref h8, .ref h9, .ref h10, .ref h11, .int ys, hv1, hv2, hv3, hv4])), (h1, .inl (cy 1, 4, .inl (fc))), (d1, .inl (cy 5, 4, .inr (.inr (.inr (.inr (eF d2 d3 d4 d5)))))), (d5, .inl (cy 2, 8, .inr (.inl (fd3))))] (fun (r : Int32) (u : Nat × Nat × Nat × Int64 × Int32 × Int32 × Int32 × Nat × (Nat → Int32) × (Nat → Int64) × Int32) => (r = 0 ∨ r = 1) ∧ (u.1 ≤ tn) ∧ (u.2.2.1 ≤ 255) ∧ (nuOK u.2.2.1 u.2.2.2.2.1) ∧ (cntOK u.2.2.2.2.2.2.2.2.1 c0 c1 c2 u.2.2.2.2.2.2.2.1) ∧ (u.2.2.2.2.2.2.2.1 ≤ 6)) (fun (u : Nat × Nat × Nat × Int64 × Int32 × Int32 × Int32 × Nat × (Nat → Int32) × (Nat → Int64) × Int32) => [(d0, .inr (10, [.ref t0, .ref d1, .ref h0, yf, .int uh, .int wt, .int dt, .int vv, .int u.2.2.2.2.2.1, .int u.2.2.2.2.2.2.1])), (t0, .inr (9, [.ref t1, .ref t2, .int (nI tn), .int (nI u.1), .int (nI u.2.1), .int (nI u.2.2.1), .long u.2.2.2.1, .int u.2.2.2.2.1])), (t1, .inl (cy 0, 1600, .inl (fby))), (t2, .inl (cy 2, 24, .inr (.inl (fky)))), (h0, .inr (4, [.ref h1, .ref h2, .ref h3, .ref h4, .ref h5, .ref h6, .ref h7, .ref h8, .ref h9, .ref h10, .ref h11, .int u.2.2.2.2.2.2.2.2.2.2, hv1, hv2, hv3, hv4])), (h1, .inl (cy 1, 4, .inl (u.2.2.2.2.2.2.2.2.1))), (d1, .inl (cy 5, 4, .inr (.inr (.inr (.inr (eF d2 d3 d4 d5)))))), (d5, .inl (cy 2, 8, .inr (.inl (u.2.2.2.2.2.2.2.2.2.1))))]) := by
  refine XMi.start (by decide) (Nat.le_of_ble_eq_true rfl) ?_
  intro p e s m below meth c args A ls Q hat hQ
  obtain ⟨hx, hb, hr, hml, hown, hg, hlocks, hin, hK, hA, hP, hD, hS, hE, hl⟩ := hat
  have hown : s.vm.findClass RX10 = some m.cls := hown
  have hl : lv_has ls 2 [(0, .ref d0)] := hl
  refine lv_aload_n hx hb dX10_tellState_0 rfl (lv_at hl 0 rfl) ?_
  refine va_get (D := D) (ci := 10) (v := .ref h0) (C := RX10) (T := TX10) (N := 10) hx hb hg i_X10 hown hK hP 0 rfl rfl 2 (by decide) (hg _ m_257) (fun _ h9 => h9) rfl dX10_tellState_1 ?_
  refine va_get (D := D) (ci := 4) (v := .ref h1) (C := RX4) (T := TX4) (N := 16) hx hb hg i_X4 hown hK hP 4 rfl rfl 0 (by decide) (hg _ m_336) (fun _ h9 => h9) rfl dX10_tellState_4 ?_
  refine lv_iconst (v := 3) hx hb dX10_tellState_7 (by decide) ?_
  refine va_iald hx hb hK hP 5 1 rfl rfl (by unfold vp_in; decide) dX10_tellState_8 ?_
  refine lv_topi (fun y_1 hy_1 => ?_)
  obtain rfl : y_1 = nI c3 := hy_1.trans hcn.2.2.2
  refine lv_istore_n (lv' := [(1, .int (nI c3)), (0, .ref d0)]) hx hb dX10_tellState_9 rfl hl (by decide) rfl (fun ls hl => ?_)
  refine lv_aload_n hx hb dX10_tellState_10 rfl (lv_at hl 1 rfl) ?_
  refine lv_iconst (v := 3) hx hb dX10_tellState_11 (by decide) ?_
  refine lv_bipush (v := 6) hx hb dX10_tellState_12 (by decide) ?_
  refine x_callVi (q := (RX10, TX10, 10)) (ci := 10) (q0 := 0) (wr := []) (rest := []) ⟨hx, hb, hml, hown, hg, hl.1⟩ k_X10_117 (s_takeNew3 l D cy adK adV d0 d1 uh wt dt vv fq pq yf t0 t1 t2 tn ta ts tk tm tr fby fky h0 h1 h2 h3 h4 h5 h6 h7 h8 h9 h10 h11 ((.int ys)) hv1 hv2 hv3 hv4 fc c0 c1 c2 c3 d2 d3 d4 d5 fd3 (hcn) (by omega) (by omega) (by omega) (by omega) (by omega) (by omega) (by omega) (hnu)) EV_blind hK hP hD hS hA [0, 1, 2, 3, 4, 5, 6, 7] [] ⟨rfl, rfl, by decide, by decide, by decide⟩ rfl rfl (fun U hU hW => EV_pass hE hS (va_free hD hS hA [0, 1, 2, 3, 4, 5, 6, 7] rfl) hU hW) dX10_tellState_14 rfl rfl (Nat.le_of_ble_eq_true rfl) ⟨Nat.le_of_ble_eq_true rfl, Nat.le_of_ble_eq_true rfl⟩ ⟨Nat.le_of_ble_eq_true rfl, Nat.le_of_ble_eq_true rfl⟩ (fun zr2 zu2 H locs hw2 hP hD hS => ?_)
  obtain ⟨ta2_3, ts2_4, tk2_5, tm2_6, tr2_7, fq2_8, pq2_9, k2_10, fc2_11, fd2_12⟩ := zu2
  have hP : va_P D vwCl [(d0, .inr (10, [.ref t0, .ref d1, .ref h0, yf, .int uh, .int wt, .int dt, .int vv, .int fq2_8, .int pq2_9])), (t0, .inr (9, [.ref t1, .ref t2, .int (nI tn), .int (nI ta2_3), .int (nI ts2_4), .int (nI tk2_5), .long tm2_6, .int tr2_7])), (t1, .inl (cy 0, 1600, .inl (fby))), (t2, .inl (cy 2, 24, .inr (.inl (fky)))), (h0, .inr (4, [.ref h1, .ref h2, .ref h3, .ref h4, .ref h5, .ref h6, .ref h7, .ref h8, .ref h9, .ref h10, .ref h11, .int ys, hv1, hv2, hv3, hv4])), (h1, .inl (cy 1, 4, .inl (fc2_11))), (d1, .inl (cy 5, 4, .inr (.inr (.inr (.inr (eF d2 d3 d4 d5)))))), (d5, .inl (cy 2, 8, .inr (.inl (fd2_12))))] H := hP
  have hD : va_D A [(d0, .inr (10, [.ref t0, .ref d1, .ref h0, yf, .int uh, .int wt, .int dt, .int vv, .int fq2_8, .int pq2_9])), (t0, .inr (9, [.ref t1, .ref t2, .int (nI tn), .int (nI ta2_3), .int (nI ts2_4), .int (nI tk2_5), .long tm2_6, .int tr2_7])), (t1, .inl (cy 0, 1600, .inl (fby))), (t2, .inl (cy 2, 24, .inr (.inl (fky)))), (h0, .inr (4, [.ref h1, .ref h2, .ref h3, .ref h4, .ref h5, .ref h6, .ref h7, .ref h8, .ref h9, .ref h10, .ref h11, .int ys, hv1, hv2, hv3, hv4])), (h1, .inl (cy 1, 4, .inl (fc2_11))), (d1, .inl (cy 5, 4, .inr (.inr (.inr (.inr (eF d2 d3 d4 d5)))))), (d5, .inl (cy 2, 8, .inr (.inl (fd2_12))))] := hD
  refine W.widen (k := 0) (n := 0) (Nat.le_of_ble_eq_true rfl) (Nat.le_of_ble_eq_true rfl) ?_
  have hw2 : (zr2 = 0 ∨ zr2 = 1) ∧ (ta2_3 ≤ tn) ∧ (tk2_5 ≤ 255) ∧ (nuOK tk2_5 tr2_7) ∧ (cntOK fc2_11 c0 c1 c2 k2_10) ∧ (k2_10 ≤ 6) ∧ (zr2 = 1 → c3 < 6) := hw2
  obtain ⟨f_13, f_14, f_15, f_16, f_17, f_18, f_19⟩ := hw2
  refine lv_if_ne (tgt := 22) hx hb dX10_tellState_17 (by decide) (fun c_17 => ?_) (fun c_17 => ?_)
  · refine lv_aload_n hx hb dX10_tellState_22 rfl (lv_at hl 1 rfl) ?_
    refine va_get (D := D) (ci := 10) (v := .ref t0) (C := RX10) (T := TX10) (N := 10) hx hb hg i_X10 hown hK hP 0 rfl rfl 0 (by decide) (hg _ m_255) (fun _ h9 => h9) rfl dX10_tellState_23 ?_
    refine va_get (D := D) (ci := 9) (v := .int (nI tk2_5)) (C := RX9) (T := TX9) (N := 8) hx hb hg i_X9 hown hK hP 1 rfl rfl 5 (by decide) (hg _ m_222) (fun _ h9 => h9) rfl dX10_tellState_26 ?_
    refine lv_bipush (v := 112) hx hb dX10_tellState_29 (by decide) ?_
    refine lv_icmp_ne (tgt := 56) hx hb dX10_tellState_31 (by decide) (fun c_20 => ?_) (fun c_20 => ?_)
    · have q_21 : ¬ tk2_5 = 112 := q_ne (a := tk2_5) (b := 112) rfl rfl (by omega) (by omega) c_20
      refine lv_aload_n hx hb dX10_tellState_56 rfl (lv_at hl 1 rfl) ?_
      refine lv_bipush (v := 59) hx hb dX10_tellState_57 (by decide) ?_
      refine x_callVi (q := (RX10, TX10, 10)) (ci := 10) (q0 := 0) (wr := [(h0, .inr (4, [.ref h1, .ref h2, .ref h3, .ref h4, .ref h5, .ref h6, .ref h7, .ref h8, .ref h9, .ref h10, .ref h11, .int ys, hv1, hv2, hv3, hv4])), (h1, .inl (cy 1, 4, .inl (fc2_11))), (d1, .inl (cy 5, 4, .inr (.inr (.inr (.inr (eF d2 d3 d4 d5)))))), (d5, .inl (cy 2, 8, .inr (.inl (fd2_12))))]) (rest := []) ⟨hx, hb, hml, hown, hg, hl.1⟩ k_X10_128 (s_take l D cy adK adV d0 d1 uh wt dt vv fq2_8 pq2_9 ((.ref h0)) yf t0 t1 t2 tn ta2_3 ts2_4 tk2_5 tm2_6 tr2_7 fby fky 59 (by omega) (by omega) (by omega) (f_16) (by omega)) EV_blind hK hP hD hS hA [0, 1, 2, 3] [4, 5, 6, 7] ⟨rfl, rfl, by decide, by decide, by decide⟩ rfl rfl (fun U hU hW => EV_pass hE hS (va_free hD hS hA [0, 1, 2, 3] rfl) hU hW) dX10_tellState_59 rfl rfl (Nat.le_of_ble_eq_true rfl) ⟨Nat.le_of_ble_eq_true rfl, Nat.le_of_ble_eq_true rfl⟩ ⟨Nat.le_of_ble_eq_true rfl, Nat.le_of_ble_eq_true rfl⟩ (fun zr22 zu22 H locs hw22 hP hD hS => ?_)
      obtain ⟨ta2_23, ts2_24, tk2_25, tm2_26, tr2_27, fq2_28, pq2_29⟩ := zu22
      have hP : va_P D vwCl [(h0, .inr (4, [.ref h1, .ref h2, .ref h3, .ref h4, .ref h5, .ref h6, .ref h7, .ref h8, .ref h9, .ref h10, .ref h11, .int ys, hv1, hv2, hv3, hv4])), (h1, .inl (cy 1, 4, .inl (fc2_11))), (d1, .inl (cy 5, 4, .inr (.inr (.inr (.inr (eF d2 d3 d4 d5)))))), (d5, .inl (cy 2, 8, .inr (.inl (fd2_12)))), (d0, .inr (10, [.ref t0, .ref d1, .ref h0, yf, .int uh, .int wt, .int dt, .int vv, .int fq2_28, .int pq2_29])), (t0, .inr (9, [.ref t1, .ref t2, .int (nI tn), .int (nI ta2_23), .int (nI ts2_24), .int (nI tk2_25), .long tm2_26, .int tr2_27])), (t1, .inl (cy 0, 1600, .inl (fby))), (t2, .inl (cy 2, 24, .inr (.inl (fky))))] H := hP
      have hD : va_D A [(h0, .inr (4, [.ref h1, .ref h2, .ref h3, .ref h4, .ref h5, .ref h6, .ref h7, .ref h8, .ref h9, .ref h10, .ref h11, .int ys, hv1, hv2, hv3, hv4])), (h1, .inl (cy 1, 4, .inl (fc2_11))), (d1, .inl (cy 5, 4, .inr (.inr (.inr (.inr (eF d2 d3 d4 d5)))))), (d5, .inl (cy 2, 8, .inr (.inl (fd2_12)))), (d0, .inr (10, [.ref t0, .ref d1, .ref h0, yf, .int uh, .int wt, .int dt, .int vv, .int fq2_28, .int pq2_29])), (t0, .inr (9, [.ref t1, .ref t2, .int (nI tn), .int (nI ta2_23), .int (nI ts2_24), .int (nI tk2_25), .long tm2_26, .int tr2_27])), (t1, .inl (cy 0, 1600, .inl (fby))), (t2, .inl (cy 2, 24, .inr (.inl (fky))))] := hD
      refine W.widen (k := 0) (n := 0) (Nat.le_of_ble_eq_true rfl) (Nat.le_of_ble_eq_true rfl) ?_
      have hw22 : (zr22 = 0 ∨ zr22 = 1) ∧ (ta2_23 ≤ tn) ∧ (tk2_25 ≤ 255) ∧ (nuOK tk2_25 tr2_27) := hw22
      obtain ⟨f_30, f_31, f_32, f_33⟩ := hw22
      exact x_zret hQ hx hb hr hlocks hK hP hD hS (narB f_30) dX10_tellState_62 (ta2_23, ts2_24, tk2_25, tm2_26, tr2_27, fq2_28, pq2_29, k2_10, fc2_11, fd2_12, ys) (⟨f_30, (show ta2_23 ≤ tn from by omega), (show tk2_25 ≤ 255 from by omega), f_33, f_17, (show k2_10 ≤ 6 from by omega)⟩) [4, 5, 6, 7, 0, 1, 2, 3] (by decide) rfl (Nat.le_of_ble_eq_true rfl) (Nat.le_of_ble_eq_true rfl)
    · have q_21 : tk2_5 = 112 := q_eq (a := tk2_5) (b := 112) rfl rfl (by omega) (by omega) c_20
      refine lv_aload_n hx hb dX10_tellState_34 rfl (lv_at hl 1 rfl) ?_
      refine va_get (D := D) (ci := 10) (v := .ref h0) (C := RX10) (T := TX10) (N := 10) hx hb hg i_X10 hown hK hP 0 rfl rfl 2 (by decide) (hg _ m_257) (fun _ h9 => h9) rfl dX10_tellState_35 ?_
      refine lv_dup hx hb dX10_tellState_38 rfl ?_
      refine va_get (D := D) (ci := 4) (v := .int ys) (C := RX4) (T := TX4) (N := 16) hx hb hg i_X4 hown hK hP 4 rfl rfl 11 (by decide) (hg _ m_369) (fun _ h9 => h9) rfl dX10_tellState_39 ?_
      refine lv_iconst (v := 1) hx hb dX10_tellState_42 (by decide) ?_
      refine lv_iload_n hx hb dX10_tellState_43 rfl (lv_at hl 0 rfl) ?_
      refine lv_ishl hx hb dX10_tellState_44 ?_
      refine lv_topi (fun x_34 ex_34 => ?_)
      refine lv_ior hx hb dX10_tellState_45 ?_
      refine lv_topi (fun x_35 ex_35 => ?_)
      refine va_put (D := D) (ci := 4) (v := .int x_35) (ty := .int) (C := RX4) (T := TX4) (N := 16) hx hb hg i_X4 tyX4 tyX4_ok nmX4 hown hK hP hD hS 4 rfl rfl 11 (by decide) (hg _ m_369) (fun _ h9 => h9) rfl (by decide +kernel) rfl rfl (Nat.le_of_ble_eq_true rfl) dX10_tellState_46 (fun H locs hP hD hS => ?_)
      have hP : va_P D vwCl [(d0, .inr (10, [.ref t0, .ref d1, .ref h0, yf, .int uh, .int wt, .int dt, .int vv, .int fq2_8, .int pq2_9])), (t0, .inr (9, [.ref t1, .ref t2, .int (nI tn), .int (nI ta2_3), .int (nI ts2_4), .int (nI tk2_5), .long tm2_6, .int tr2_7])), (t1, .inl (cy 0, 1600, .inl (fby))), (t2, .inl (cy 2, 24, .inr (.inl (fky)))), (h0, .inr (4, [.ref h1, .ref h2, .ref h3, .ref h4, .ref h5, .ref h6, .ref h7, .ref h8, .ref h9, .ref h10, .ref h11, .int x_35, hv1, hv2, hv3, hv4])), (h1, .inl (cy 1, 4, .inl (fc2_11))), (d1, .inl (cy 5, 4, .inr (.inr (.inr (.inr (eF d2 d3 d4 d5)))))), (d5, .inl (cy 2, 8, .inr (.inl (fd2_12))))] H := hP
      have hD : va_D A [(d0, .inr (10, [.ref t0, .ref d1, .ref h0, yf, .int uh, .int wt, .int dt, .int vv, .int fq2_8, .int pq2_9])), (t0, .inr (9, [.ref t1, .ref t2, .int (nI tn), .int (nI ta2_3), .int (nI ts2_4), .int (nI tk2_5), .long tm2_6, .int tr2_7])), (t1, .inl (cy 0, 1600, .inl (fby))), (t2, .inl (cy 2, 24, .inr (.inl (fky)))), (h0, .inr (4, [.ref h1, .ref h2, .ref h3, .ref h4, .ref h5, .ref h6, .ref h7, .ref h8, .ref h9, .ref h10, .ref h11, .int x_35, hv1, hv2, hv3, hv4])), (h1, .inl (cy 1, 4, .inl (fc2_11))), (d1, .inl (cy 5, 4, .inr (.inr (.inr (.inr (eF d2 d3 d4 d5)))))), (d5, .inl (cy 2, 8, .inr (.inl (fd2_12))))] := hD
      refine lv_aload_n hx hb dX10_tellState_49 rfl (lv_at hl 1 rfl) ?_
      refine va_get (D := D) (ci := 10) (v := .ref t0) (C := RX10) (T := TX10) (N := 10) hx hb hg i_X10 hown hK hP 0 rfl rfl 0 (by decide) (hg _ m_255) (fun _ h9 => h9) rfl dX10_tellState_50 ?_
      refine x_callVv (q := (RX9, TX9, 8)) (ci := 9) (q0 := 0) (wr := [(d0, .inr (10, [.ref t0, .ref d1, .ref h0, yf, .int uh, .int wt, .int dt, .int vv, .int fq2_8, .int pq2_9])), (h0, .inr (4, [.ref h1, .ref h2, .ref h3, .ref h4, .ref h5, .ref h6, .ref h7, .ref h8, .ref h9, .ref h10, .ref h11, .int x_35, hv1, hv2, hv3, hv4])), (h1, .inl (cy 1, 4, .inl (fc2_11))), (d1, .inl (cy 5, 4, .inr (.inr (.inr (.inr (eF d2 d3 d4 d5)))))), (d5, .inl (cy 2, 8, .inr (.inl (fd2_12))))]) (rest := []) ⟨hx, hb, hml, hown, hg, hl.1⟩ k_X10_140 (s_next l D cy adK adV t0 t1 t2 tn ta2_3 ts2_4 tk2_5 tm2_6 tr2_7 fby fky (by omega) (by omega)) EV_blind hK hP hD hS hA [1, 2, 3] [0, 4, 5, 6, 7] ⟨rfl, rfl, by decide, by decide, by decide⟩ rfl rfl (fun U hU hW => EV_pass hE hS (va_free hD hS hA [1, 2, 3] rfl) hU hW) dX10_tellState_53 rfl rfl (Nat.le_of_ble_eq_true rfl) ⟨Nat.le_of_ble_eq_true rfl, Nat.le_of_ble_eq_true rfl⟩ ⟨Nat.le_of_ble_eq_true rfl, Nat.le_of_ble_eq_true rfl⟩ (fun zu36 H locs hw36 hP hD hS => ?_)
      obtain ⟨ta2_37, ts2_38, tk2_39, tm2_40, tr2_41⟩ := zu36
      have hP : va_P D vwCl [(d0, .inr (10, [.ref t0, .ref d1, .ref h0, yf, .int uh, .int wt, .int dt, .int vv, .int fq2_8, .int pq2_9])), (h0, .inr (4, [.ref h1, .ref h2, .ref h3, .ref h4, .ref h5, .ref h6, .ref h7, .ref h8, .ref h9, .ref h10, .ref h11, .int x_35, hv1, hv2, hv3, hv4])), (h1, .inl (cy 1, 4, .inl (fc2_11))), (d1, .inl (cy 5, 4, .inr (.inr (.inr (.inr (eF d2 d3 d4 d5)))))), (d5, .inl (cy 2, 8, .inr (.inl (fd2_12)))), (t0, .inr (9, [.ref t1, .ref t2, .int (nI tn), .int (nI ta2_37), .int (nI ts2_38), .int (nI tk2_39), .long tm2_40, .int tr2_41])), (t1, .inl (cy 0, 1600, .inl (fby))), (t2, .inl (cy 2, 24, .inr (.inl (fky))))] H := hP
      have hD : va_D A [(d0, .inr (10, [.ref t0, .ref d1, .ref h0, yf, .int uh, .int wt, .int dt, .int vv, .int fq2_8, .int pq2_9])), (h0, .inr (4, [.ref h1, .ref h2, .ref h3, .ref h4, .ref h5, .ref h6, .ref h7, .ref h8, .ref h9, .ref h10, .ref h11, .int x_35, hv1, hv2, hv3, hv4])), (h1, .inl (cy 1, 4, .inl (fc2_11))), (d1, .inl (cy 5, 4, .inr (.inr (.inr (.inr (eF d2 d3 d4 d5)))))), (d5, .inl (cy 2, 8, .inr (.inl (fd2_12)))), (t0, .inr (9, [.ref t1, .ref t2, .int (nI tn), .int (nI ta2_37), .int (nI ts2_38), .int (nI tk2_39), .long tm2_40, .int tr2_41])), (t1, .inl (cy 0, 1600, .inl (fby))), (t2, .inl (cy 2, 24, .inr (.inl (fky))))] := hD
      refine W.widen (k := 0) (n := 0) (Nat.le_of_ble_eq_true rfl) (Nat.le_of_ble_eq_true rfl) ?_
      have hw36 : (ta2_37 ≤ tn) ∧ (tk2_39 ≤ 255) ∧ (nuOK tk2_39 tr2_41) := hw36
      obtain ⟨f_42, f_43, f_44⟩ := hw36
      refine lv_aload_n hx hb dX10_tellState_56 rfl (lv_at hl 1 rfl) ?_
      refine lv_bipush (v := 59) hx hb dX10_tellState_57 (by decide) ?_
      refine x_callVi (q := (RX10, TX10, 10)) (ci := 10) (q0 := 0) (wr := [(h0, .inr (4, [.ref h1, .ref h2, .ref h3, .ref h4, .ref h5, .ref h6, .ref h7, .ref h8, .ref h9, .ref h10, .ref h11, .int x_35, hv1, hv2, hv3, hv4])), (h1, .inl (cy 1, 4, .inl (fc2_11))), (d1, .inl (cy 5, 4, .inr (.inr (.inr (.inr (eF d2 d3 d4 d5)))))), (d5, .inl (cy 2, 8, .inr (.inl (fd2_12))))]) (rest := []) ⟨hx, hb, hml, hown, hg, hl.1⟩ k_X10_128 (s_take l D cy adK adV d0 d1 uh wt dt vv fq2_8 pq2_9 ((.ref h0)) yf t0 t1 t2 tn ta2_37 ts2_38 tk2_39 tm2_40 tr2_41 fby fky 59 (by omega) (by omega) (by omega) (f_44) (by omega)) EV_blind hK hP hD hS hA [0, 5, 6, 7] [1, 2, 3, 4] ⟨rfl, rfl, by decide, by decide, by decide⟩ rfl rfl (fun U hU hW => EV_pass hE hS (va_free hD hS hA [0, 5, 6, 7] rfl) hU hW) dX10_tellState_59 rfl rfl (Nat.le_of_ble_eq_true rfl) ⟨Nat.le_of_ble_eq_true rfl, Nat.le_of_ble_eq_true rfl⟩ ⟨Nat.le_of_ble_eq_true rfl, Nat.le_of_ble_eq_true rfl⟩ (fun zr45 zu45 H locs hw45 hP hD hS => ?_)
      obtain ⟨ta2_46, ts2_47, tk2_48, tm2_49, tr2_50, fq2_51, pq2_52⟩ := zu45
      have hP : va_P D vwCl [(h0, .inr (4, [.ref h1, .ref h2, .ref h3, .ref h4, .ref h5, .ref h6, .ref h7, .ref h8, .ref h9, .ref h10, .ref h11, .int x_35, hv1, hv2, hv3, hv4])), (h1, .inl (cy 1, 4, .inl (fc2_11))), (d1, .inl (cy 5, 4, .inr (.inr (.inr (.inr (eF d2 d3 d4 d5)))))), (d5, .inl (cy 2, 8, .inr (.inl (fd2_12)))), (d0, .inr (10, [.ref t0, .ref d1, .ref h0, yf, .int uh, .int wt, .int dt, .int vv, .int fq2_51, .int pq2_52])), (t0, .inr (9, [.ref t1, .ref t2, .int (nI tn), .int (nI ta2_46), .int (nI ts2_47), .int (nI tk2_48), .long tm2_49, .int tr2_50])), (t1, .inl (cy 0, 1600, .inl (fby))), (t2, .inl (cy 2, 24, .inr (.inl (fky))))] H := hP
      have hD : va_D A [(h0, .inr (4, [.ref h1, .ref h2, .ref h3, .ref h4, .ref h5, .ref h6, .ref h7, .ref h8, .ref h9, .ref h10, .ref h11, .int x_35, hv1, hv2, hv3, hv4])), (h1, .inl (cy 1, 4, .inl (fc2_11))), (d1, .inl (cy 5, 4, .inr (.inr (.inr (.inr (eF d2 d3 d4 d5)))))), (d5, .inl (cy 2, 8, .inr (.inl (fd2_12)))), (d0, .inr (10, [.ref t0, .ref d1, .ref h0, yf, .int uh, .int wt, .int dt, .int vv, .int fq2_51, .int pq2_52])), (t0, .inr (9, [.ref t1, .ref t2, .int (nI tn), .int (nI ta2_46), .int (nI ts2_47), .int (nI tk2_48), .long tm2_49, .int tr2_50])), (t1, .inl (cy 0, 1600, .inl (fby))), (t2, .inl (cy 2, 24, .inr (.inl (fky))))] := hD
      refine W.widen (k := 0) (n := 0) (Nat.le_of_ble_eq_true rfl) (Nat.le_of_ble_eq_true rfl) ?_
      have hw45 : (zr45 = 0 ∨ zr45 = 1) ∧ (ta2_46 ≤ tn) ∧ (tk2_48 ≤ 255) ∧ (nuOK tk2_48 tr2_50) := hw45
      obtain ⟨f_53, f_54, f_55, f_56⟩ := hw45
      exact x_zret hQ hx hb hr hlocks hK hP hD hS (narB f_53) dX10_tellState_62 (ta2_46, ts2_47, tk2_48, tm2_49, tr2_50, fq2_51, pq2_52, k2_10, fc2_11, fd2_12, x_35) (⟨f_53, (show ta2_46 ≤ tn from by omega), (show tk2_48 ≤ 255 from by omega), f_56, f_17, (show k2_10 ≤ 6 from by omega)⟩) [4, 5, 6, 7, 0, 1, 2, 3] (by decide) rfl (Nat.le_of_ble_eq_true rfl) (Nat.le_of_ble_eq_true rfl)
  · refine lv_iconst (v := 0) hx hb dX10_tellState_20 (by decide) ?_
    exact x_zret hQ hx hb hr hlocks hK hP hD hS rfl dX10_tellState_21 (ta2_3, ts2_4, tk2_5, tm2_6, tr2_7, fq2_8, pq2_9, k2_10, fc2_11, fd2_12, ys) (⟨(Or.inl rfl), (show ta2_3 ≤ tn from by omega), (show tk2_5 ≤ 255 from by omega), f_16, f_17, (show k2_10 ≤ 6 from by omega)⟩) [0, 1, 2, 3, 4, 5, 6, 7] (by decide) rfl (Nat.le_of_ble_eq_true rfl) (Nat.le_of_ble_eq_true rfl)
theorem dX10_tellOn_0 : decode cX10_tellOn 0 = .ok (.aload_n 0, 1) := by decide +kernel
theorem dX10_tellOn_1 : decode cX10_tellOn 1 = .ok (.getfield 24, 3) := by decide +kernel
theorem dX10_tellOn_4 : decode cX10_tellOn 4 = .ok (.getfield 143, 3) := by decide +kernel
set_option maxRecDepth 100000 in
theorem m_372 : (Cond.fieldLink RX10 143 "CliffJudges$Hills" "ons" "I") ∈ gT := gm 372 rfl rfl
theorem dX10_tellOn_7 : decode cX10_tellOn 7 = .ok (.bipush 30, 2) := by decide +kernel
theorem dX10_tellOn_9 : decode cX10_tellOn 9 = .ok (.if_icmp .lt 9, 3) := by decide +kernel
theorem dX10_tellOn_18 : decode cX10_tellOn 18 = .ok (.aload_n 0, 1) := by decide +kernel
theorem dX10_tellOn_19 : decode cX10_tellOn 19 = .ok (.getfield 16, 3) := by decide +kernel
theorem dX10_tellOn_22 : decode cX10_tellOn 22 = .ok (.invokevirtual 140, 3) := by decide +kernel
theorem dX10_tellOn_25 : decode cX10_tellOn 25 = .ok (.aload_n 0, 1) := by decide +kernel
theorem dX10_tellOn_26 : decode cX10_tellOn 26 = .ok (.iconst 3, 1) := by decide +kernel
theorem dX10_tellOn_27 : decode cX10_tellOn 27 = .ok (.invokevirtual 146, 3) := by decide +kernel
set_option maxRecDepth 100000 in
theorem m_855 : (Cond.methodLink RX10 146 yX10_known) ∈ gT := gm 855 rfl rfl
set_option maxRecDepth 100000 in
theorem m_857 : (Cond.instanceMethod yX10_known) ∈ gT := gm 857 rfl rfl
set_option maxRecDepth 100000 in
theorem m_16 : (Cond.selects RX10 yX10_known yX10_known) ∈ gT := gm 16 rfl rfl
set_option maxRecDepth 100000 in
theorem m_858 : (Cond.code yX10_known cX10_known 3 (some .int)) ∈ gT := gm 858 rfl rfl
theorem k_X10_146 : xV RX10 RX10 146 yX10_known cX10_known 3 (some .int) 1 := ⟨⟨m_855, m_857, m_16, m_136, m_858⟩, rfl, by decide, by decide, by decide +kernel⟩
theorem dX10_tellOn_30 : decode cX10_tellOn 30 = .ok (.istore_n 1, 1) := by decide +kernel
theorem dX10_tellOn_31 : decode cX10_tellOn 31 = .ok (.iload_n 1, 1) := by decide +kernel
theorem dX10_tellOn_32 : decode cX10_tellOn 32 = .ok (.iconst (-1), 1) := by decide +kernel
theorem dX10_tellOn_33 : decode cX10_tellOn 33 = .ok (.if_icmp .ne 5, 3) := by decide +kernel
theorem dX10_tellOn_38 : decode cX10_tellOn 38 = .ok (.aload_n 0, 1) := by decide +kernel
theorem dX10_tellOn_39 : decode cX10_tellOn 39 = .ok (.getfield 16, 3) := by decide +kernel
theorem dX10_tellOn_42 : decode cX10_tellOn 42 = .ok (.invokevirtual 140, 3) := by decide +kernel
theorem dX10_tellOn_45 : decode cX10_tellOn 45 = .ok (.aload_n 0, 1) := by decide +kernel
theorem dX10_tellOn_46 : decode cX10_tellOn 46 = .ok (.iconst 0, 1) := by decide +kernel
theorem dX10_tellOn_47 : decode cX10_tellOn 47 = .ok (.invokevirtual 146, 3) := by decide +kernel
theorem dX10_tellOn_50 : decode cX10_tellOn 50 = .ok (.istore_n 2, 1) := by decide +kernel
theorem dX10_tellOn_51 : decode cX10_tellOn 51 = .ok (.iload_n 2, 1) := by decide +kernel
theorem dX10_tellOn_52 : decode cX10_tellOn 52 = .ok (.iconst (-1), 1) := by decide +kernel
theorem dX10_tellOn_53 : decode cX10_tellOn 53 = .ok (.if_icmp .ne 5, 3) := by decide +kernel
theorem dX10_tellOn_58 : decode cX10_tellOn 58 = .ok (.iload_n 1, 1) := by decide +kernel
theorem dX10_tellOn_59 : decode cX10_tellOn 59 = .ok (.bipush 8, 2) := by decide +kernel
theorem dX10_tellOn_61 : decode cX10_tellOn 61 = .ok (.imul, 1) := by decide +kernel
theorem dX10_tellOn_62 : decode cX10_tellOn 62 = .ok (.iload_n 2, 1) := by decide +kernel
theorem dX10_tellOn_63 : decode cX10_tellOn 63 = .ok (.iadd, 1) := by decide +kernel
theorem dX10_tellOn_64 : decode cX10_tellOn 64 = .ok (.istore_n 3, 1) := by decide +kernel
theorem dX10_tellOn_65 : decode cX10_tellOn 65 = .ok (.aload_n 0, 1) := by decide +kernel
theorem dX10_tellOn_66 : decode cX10_tellOn 66 = .ok (.getfield 24, 3) := by decide +kernel
theorem dX10_tellOn_69 : decode cX10_tellOn 69 = .ok (.getfield 150, 3) := by decide +kernel
set_option maxRecDepth 100000 in
theorem m_357 : (Cond.fieldLink RX10 150 "CliffJudges$Hills" "next" "[I") ∈ gT := gm 357 rfl rfl
theorem dX10_tellOn_72 : decode cX10_tellOn 72 = .ok (.iload_n 3, 1) := by decide +kernel
theorem dX10_tellOn_73 : decode cX10_tellOn 73 = .ok (.iaload, 1) := by decide +kernel
theorem dX10_tellOn_74 : decode cX10_tellOn 74 = .ok (.iconst (-1), 1) := by decide +kernel
theorem dX10_tellOn_75 : decode cX10_tellOn 75 = .ok (.if_icmp .eq 9, 3) := by decide +kernel
theorem dX10_tellOn_84 : decode cX10_tellOn 84 = .ok (.aload_n 0, 1) := by decide +kernel
theorem dX10_tellOn_85 : decode cX10_tellOn 85 = .ok (.getfield 16, 3) := by decide +kernel
theorem dX10_tellOn_88 : decode cX10_tellOn 88 = .ok (.invokevirtual 140, 3) := by decide +kernel
theorem dX10_tellOn_91 : decode cX10_tellOn 91 = .ok (.aload_n 0, 1) := by decide +kernel
theorem dX10_tellOn_92 : decode cX10_tellOn 92 = .ok (.bipush 113, 2) := by decide +kernel
theorem dX10_tellOn_94 : decode cX10_tellOn 94 = .ok (.invokevirtual 128, 3) := by decide +kernel
theorem dX10_tellOn_97 : decode cX10_tellOn 97 = .ok (.ifCond .ne 5, 3) := by decide +kernel
theorem dX10_tellOn_102 : decode cX10_tellOn 102 = .ok (.aload_n 0, 1) := by decide +kernel
theorem dX10_tellOn_103 : decode cX10_tellOn 103 = .ok (.iconst 3, 1) := by decide +kernel
theorem dX10_tellOn_104 : decode cX10_tellOn 104 = .ok (.invokevirtual 146, 3) := by decide +kernel
theorem dX10_tellOn_107 : decode cX10_tellOn 107 = .ok (.istore 4, 2) := by decide +kernel
theorem dX10_tellOn_109 : decode cX10_tellOn 109 = .ok (.iload 4, 2) := by decide +kernel
theorem dX10_tellOn_111 : decode cX10_tellOn 111 = .ok (.iconst (-1), 1) := by decide +kernel
theorem dX10_tellOn_112 : decode cX10_tellOn 112 = .ok (.if_icmp .ne 5, 3) := by decide +kernel
theorem dX10_tellOn_117 : decode cX10_tellOn 117 = .ok (.aload_n 0, 1) := by decide +kernel
theorem dX10_tellOn_118 : decode cX10_tellOn 118 = .ok (.getfield 24, 3) := by decide +kernel
theorem dX10_tellOn_121 : decode cX10_tellOn 121 = .ok (.getfield 150, 3) := by decide +kernel
theorem dX10_tellOn_124 : decode cX10_tellOn 124 = .ok (.iload_n 3, 1) := by decide +kernel
theorem dX10_tellOn_125 : decode cX10_tellOn 125 = .ok (.iload 4, 2) := by decide +kernel
theorem dX10_tellOn_127 : decode cX10_tellOn 127 = .ok (.iastore, 1) := by decide +kernel
theorem dX10_tellOn_128 : decode cX10_tellOn 128 = .ok (.aload_n 0, 1) := by decide +kernel
theorem dX10_tellOn_129 : decode cX10_tellOn 129 = .ok (.getfield 24, 3) := by decide +kernel
theorem dX10_tellOn_132 : decode cX10_tellOn 132 = .ok (.dup, 1) := by decide +kernel
theorem dX10_tellOn_133 : decode cX10_tellOn 133 = .ok (.getfield 143, 3) := by decide +kernel
theorem dX10_tellOn_136 : decode cX10_tellOn 136 = .ok (.iconst 1, 1) := by decide +kernel
theorem dX10_tellOn_137 : decode cX10_tellOn 137 = .ok (.iadd, 1) := by decide +kernel
theorem dX10_tellOn_138 : decode cX10_tellOn 138 = .ok (.putfield 143, 3) := by decide +kernel
theorem dX10_tellOn_141 : decode cX10_tellOn 141 = .ok (.aload_n 0, 1) := by decide +kernel
theorem dX10_tellOn_142 : decode cX10_tellOn 142 = .ok (.getfield 16, 3) := by decide +kernel
theorem dX10_tellOn_145 : decode cX10_tellOn 145 = .ok (.invokevirtual 140, 3) := by decide +kernel
theorem dX10_tellOn_148 : decode cX10_tellOn 148 = .ok (.aload_n 0, 1) := by decide +kernel
theorem dX10_tellOn_149 : decode cX10_tellOn 149 = .ok (.bipush 59, 2) := by decide +kernel
theorem dX10_tellOn_151 : decode cX10_tellOn 151 = .ok (.invokevirtual 128, 3) := by decide +kernel
theorem dX10_tellOn_154 : decode cX10_tellOn 154 = .ok (.ireturn, 1) := by decide +kernel
theorem dX10_tellOn_115 : decode cX10_tellOn 115 = .ok (.iconst 0, 1) := by decide +kernel
theorem dX10_tellOn_116 : decode cX10_tellOn 116 = .ok (.ireturn, 1) := by decide +kernel
theorem dX10_tellOn_100 : decode cX10_tellOn 100 = .ok (.iconst 0, 1) := by decide +kernel
theorem dX10_tellOn_101 : decode cX10_tellOn 101 = .ok (.ireturn, 1) := by decide +kernel
theorem dX10_tellOn_78 : decode cX10_tellOn 78 = .ok (.aload_n 0, 1) := by decide +kernel
theorem dX10_tellOn_79 : decode cX10_tellOn 79 = .ok (.iconst 3, 1) := by decide +kernel
theorem dX10_tellOn_80 : decode cX10_tellOn 80 = .ok (.invokevirtual 110, 3) := by decide +kernel
theorem dX10_tellOn_83 : decode cX10_tellOn 83 = .ok (.ireturn, 1) := by decide +kernel
theorem dX10_tellOn_56 : decode cX10_tellOn 56 = .ok (.iconst 0, 1) := by decide +kernel
theorem dX10_tellOn_57 : decode cX10_tellOn 57 = .ok (.ireturn, 1) := by decide +kernel
theorem dX10_tellOn_36 : decode cX10_tellOn 36 = .ok (.iconst 0, 1) := by decide +kernel
theorem dX10_tellOn_37 : decode cX10_tellOn 37 = .ok (.ireturn, 1) := by decide +kernel
theorem dX10_tellOn_12 : decode cX10_tellOn 12 = .ok (.aload_n 0, 1) := by decide +kernel
theorem dX10_tellOn_13 : decode cX10_tellOn 13 = .ok (.iconst 2, 1) := by decide +kernel
theorem dX10_tellOn_14 : decode cX10_tellOn 14 = .ok (.invokevirtual 110, 3) := by decide +kernel
theorem dX10_tellOn_17 : decode cX10_tellOn 17 = .ok (.ireturn, 1) := by decide +kernel
set_option maxHeartbeats 1000000 in
set_option maxRecDepth 100000 in
theorem s_tellOn (l : Launch) (D : va_G) (cy : Nat → ClassId) (adK : Nat → Nat) (adV : Nat → Nat) (d0 : Nat) (d1 : Nat) (uh : Int32) (wt : Int32) (dt : Int32) (vv : Int32) (fq : Int32) (pq : Int32) (yf : Value) (t0 : Nat) (t1 : Nat) (t2 : Nat) (tn : Nat) (ta : Nat) (ts : Nat) (tk : Nat) (tm : Int64) (tr : Int32) (fby : Nat → Int32) (fky : Nat → Int64) (h0 : Nat) (h1 : Nat) (h2 : Nat) (h3 : Nat) (h4 : Nat) (h5 : Nat) (h6 : Nat) (h7 : Nat) (h8 : Nat) (h9 : Nat) (h10 : Nat) (h11 : Nat) (hv0 : Value) (hv2 : Value) (hv3 : Value) (hv4 : Value) (hon : Int32) (fc : Nat → Int32) (c0 : Nat) (c1 : Nat) (c2 : Nat) (c3 : Nat) (fx : Nat → Int32) (d2 : Nat) (d3 : Nat) (d4 : Nat) (d5 : Nat) (fd0 : Nat → Int64) (fd3 : Nat → Int64) (hcn : cntOK fc c0 c1 c2 c3) (hc0 : c0 ≤ 8) (hc1 : c1 ≤ 4) (hc2 : c2 ≤ 4) (hc3 : c3 ≤ 6) (htn : tn ≤ 1600) (hta : ta ≤ tn) (htk : tk ≤ 255) (hnu : nuOK tk tr) (hnx : nxT fx) : XMi l D (tyL cy) (EV adK adV) yX10_tellOn cX10_tellOn 5 (some .boolean) (rmk 8 0 0) [.ref d0] [(d0, .inr (10, [.ref t0, .ref d1, .ref h0, yf, .int uh, .int wt, .int dt, .int vv, .int fq, .int pq])), (t0, .inr (9, [.ref t1, .ref t2, .int (nI tn), .int (nI ta), .int (nI ts), .int (nI tk), .long tm, .int tr])), (t1, .inl (cy 0, 1600, .inl (fby))), (t2, .inl (cy 2, 24, .inr (.inl (fky)))), (h0, .inr (4, [.ref h1, .ref h2, .ref h3, .ref h4, .ref h5, .ref h6, .ref h7, .ref h8, .ref h9, .ref h10, .ref h11, hv0, .int hon, hv2, hv3, hv4])), (h1, .inl (cy 1, 4, .inl (fc))), (h7, .inl (cy 1, 48, .inl (fx))), (d1, .inl (cy 5, 4, .inr (.inr (.inr (.inr (eF d2 d3 d4 d5)))))), (d2, .inl (cy 2, 8, .inr (.inl (fd0)))), (d5, .inl (cy 2, 8, .inr (.inl (fd3))))] (fun (r : Int32) (u : Nat × Nat × Nat × Int64 × Int32 × Int32 × Int32 × Int32 × (Nat → Int32)) => (r = 0 ∨ r = 1) ∧ (u.1 ≤ tn) ∧ (u.2.2.1 ≤ 255) ∧ (nuOK u.2.2.1 u.2.2.2.2.1) ∧ (nxT u.2.2.2.2.2.2.2.2)) (fun (u : Nat × Nat × Nat × Int64 × Int32 × Int32 × Int32 × Int32 × (Nat → Int32)) => [(d0, .inr (10, [.ref t0, .ref d1, .ref h0, yf, .int uh, .int wt, .int dt, .int vv, .int u.2.2.2.2.2.1, .int u.2.2.2.2.2.2.1])), (t0, .inr (9, [.ref t1, .ref t2, .int (nI tn), .int (nI u.1), .int (nI u.2.1), .int (nI u.2.2.1), .long u.2.2.2.1, .int u.2.2.2.2.1])), (t1, .inl (cy 0, 1600, .inl (fby))), (t2, .inl (cy 2, 24, .inr (.inl (fky)))), (h0, .inr (4, [.ref h1, .ref h2, .ref h3, .ref h4, .ref h5, .ref h6, .ref h7, .ref h8, .ref h9, .ref h10, .ref h11, hv0, .int u.2.2.2.2.2.2.2.1, hv2, hv3, hv4])), (h1, .inl (cy 1, 4, .inl (fc))), (h7, .inl (cy 1, 48, .inl (u.2.2.2.2.2.2.2.2))), (d1, .inl (cy 5, 4, .inr (.inr (.inr (.inr (eF d2 d3 d4 d5)))))), (d2, .inl (cy 2, 8, .inr (.inl (fd0)))), (d5, .inl (cy 2, 8, .inr (.inl (fd3))))]) := by
  refine XMi.start (by decide) (Nat.le_of_ble_eq_true rfl) ?_
  intro p e s m below meth c args A ls Q hat hQ
  obtain ⟨hx, hb, hr, hml, hown, hg, hlocks, hin, hK, hA, hP, hD, hS, hE, hl⟩ := hat
  have hown : s.vm.findClass RX10 = some m.cls := hown
  have hl : lv_has ls 5 [(0, .ref d0)] := hl
  refine lv_aload_n hx hb dX10_tellOn_0 rfl (lv_at hl 0 rfl) ?_
  refine va_get (D := D) (ci := 10) (v := .ref h0) (C := RX10) (T := TX10) (N := 10) hx hb hg i_X10 hown hK hP 0 rfl rfl 2 (by decide) (hg _ m_257) (fun _ h9 => h9) rfl dX10_tellOn_1 ?_
  refine va_get (D := D) (ci := 4) (v := .int hon) (C := RX4) (T := TX4) (N := 16) hx hb hg i_X4 hown hK hP 4 rfl rfl 12 (by decide) (hg _ m_372) (fun _ h9 => h9) rfl dX10_tellOn_4 ?_
  refine lv_bipush (v := 30) hx hb dX10_tellOn_7 (by decide) ?_
  refine lv_icmp_lt (tgt := 18) hx hb dX10_tellOn_9 (by decide) (fun c_9 => ?_) (fun c_9 => ?_)
  · refine lv_aload_n hx hb dX10_tellOn_18 rfl (lv_at hl 0 rfl) ?_
    refine va_get (D := D) (ci := 10) (v := .ref t0) (C := RX10) (T := TX10) (N := 10) hx hb hg i_X10 hown hK hP 0 rfl rfl 0 (by decide) (hg _ m_255) (fun _ h9 => h9) rfl dX10_tellOn_19 ?_
    refine x_callVv (q := (RX9, TX9, 8)) (ci := 9) (q0 := 0) (wr := [(d0, .inr (10, [.ref t0, .ref d1, .ref h0, yf, .int uh, .int wt, .int dt, .int vv, .int fq, .int pq])), (h0, .inr (4, [.ref h1, .ref h2, .ref h3, .ref h4, .ref h5, .ref h6, .ref h7, .ref h8, .ref h9, .ref h10, .ref h11, hv0, .int hon, hv2, hv3, hv4])), (h1, .inl (cy 1, 4, .inl (fc))), (h7, .inl (cy 1, 48, .inl (fx))), (d1, .inl (cy 5, 4, .inr (.inr (.inr (.inr (eF d2 d3 d4 d5)))))), (d2, .inl (cy 2, 8, .inr (.inl (fd0)))), (d5, .inl (cy 2, 8, .inr (.inl (fd3))))]) (rest := []) ⟨hx, hb, hml, hown, hg, hl.1⟩ k_X10_140 (s_next l D cy adK adV t0 t1 t2 tn ta ts tk tm tr fby fky (by omega) (by omega)) EV_blind hK hP hD hS hA [1, 2, 3] [0, 4, 5, 6, 7, 8, 9] ⟨rfl, rfl, by decide, by decide, by decide⟩ rfl rfl (fun U hU hW => EV_pass hE hS (va_free hD hS hA [1, 2, 3] rfl) hU hW) dX10_tellOn_22 rfl rfl (Nat.le_of_ble_eq_true rfl) ⟨Nat.le_of_ble_eq_true rfl, Nat.le_of_ble_eq_true rfl⟩ ⟨Nat.le_of_ble_eq_true rfl, Nat.le_of_ble_eq_true rfl⟩ (fun zu1 H locs hw1 hP hD hS => ?_)
    obtain ⟨ta2_2, ts2_3, tk2_4, tm2_5, tr2_6⟩ := zu1
    have hP : va_P D vwCl [(d0, .inr (10, [.ref t0, .ref d1, .ref h0, yf, .int uh, .int wt, .int dt, .int vv, .int fq, .int pq])), (h0, .inr (4, [.ref h1, .ref h2, .ref h3, .ref h4, .ref h5, .ref h6, .ref h7, .ref h8, .ref h9, .ref h10, .ref h11, hv0, .int hon, hv2, hv3, hv4])), (h1, .inl (cy 1, 4, .inl (fc))), (h7, .inl (cy 1, 48, .inl (fx))), (d1, .inl (cy 5, 4, .inr (.inr (.inr (.inr (eF d2 d3 d4 d5)))))), (d2, .inl (cy 2, 8, .inr (.inl (fd0)))), (d5, .inl (cy 2, 8, .inr (.inl (fd3)))), (t0, .inr (9, [.ref t1, .ref t2, .int (nI tn), .int (nI ta2_2), .int (nI ts2_3), .int (nI tk2_4), .long tm2_5, .int tr2_6])), (t1, .inl (cy 0, 1600, .inl (fby))), (t2, .inl (cy 2, 24, .inr (.inl (fky))))] H := hP
    have hD : va_D A [(d0, .inr (10, [.ref t0, .ref d1, .ref h0, yf, .int uh, .int wt, .int dt, .int vv, .int fq, .int pq])), (h0, .inr (4, [.ref h1, .ref h2, .ref h3, .ref h4, .ref h5, .ref h6, .ref h7, .ref h8, .ref h9, .ref h10, .ref h11, hv0, .int hon, hv2, hv3, hv4])), (h1, .inl (cy 1, 4, .inl (fc))), (h7, .inl (cy 1, 48, .inl (fx))), (d1, .inl (cy 5, 4, .inr (.inr (.inr (.inr (eF d2 d3 d4 d5)))))), (d2, .inl (cy 2, 8, .inr (.inl (fd0)))), (d5, .inl (cy 2, 8, .inr (.inl (fd3)))), (t0, .inr (9, [.ref t1, .ref t2, .int (nI tn), .int (nI ta2_2), .int (nI ts2_3), .int (nI tk2_4), .long tm2_5, .int tr2_6])), (t1, .inl (cy 0, 1600, .inl (fby))), (t2, .inl (cy 2, 24, .inr (.inl (fky))))] := hD
    refine W.widen (k := 0) (n := 0) (Nat.le_of_ble_eq_true rfl) (Nat.le_of_ble_eq_true rfl) ?_
    have hw1 : (ta2_2 ≤ tn) ∧ (tk2_4 ≤ 255) ∧ (nuOK tk2_4 tr2_6) := hw1
    obtain ⟨f_7, f_8, f_9⟩ := hw1
    refine lv_aload_n hx hb dX10_tellOn_25 rfl (lv_at hl 0 rfl) ?_
    refine lv_iconst (v := 3) hx hb dX10_tellOn_26 (by decide) ?_
    refine x_callVi (q := (RX10, TX10, 10)) (ci := 10) (q0 := 0) (wr := [(h7, .inl (cy 1, 48, .inl (fx))), (d2, .inl (cy 2, 8, .inr (.inl (fd0)))), (t1, .inl (cy 0, 1600, .inl (fby))), (t2, .inl (cy 2, 24, .inr (.inl (fky))))]) (rest := []) ⟨hx, hb, hml, hown, hg, hl.1⟩ k_X10_146 (s_known3 l D cy d0 d1 uh wt dt vv fq pq yf t0 t1 t2 tn ta2_2 ts2_3 tk2_4 tm2_5 tr2_6 h0 h1 h2 h3 h4 h5 h6 h7 h8 h9 h10 h11 hv0 ((.int hon)) hv2 hv3 hv4 fc c0 c1 c2 c3 d2 d3 d4 d5 fd3 (hcn) (by omega) (by omega) (by omega) (by omega) (by omega)) E0_blind hK hP hD hS hA [0, 7, 1, 2, 4, 6] [3, 5, 8, 9] ⟨rfl, rfl, by decide, by decide, by decide⟩ rfl rfl (fun _ _ _ => trivial) dX10_tellOn_27 rfl rfl (Nat.le_of_ble_eq_true rfl) ⟨Nat.le_of_ble_eq_true rfl, Nat.le_of_ble_eq_true rfl⟩ ⟨Nat.le_of_ble_eq_true rfl, Nat.le_of_ble_eq_true rfl⟩ (fun zr10 zu10 H locs hw10 hP hD hS => ?_)
    obtain ⟨fq2_11, pq2_12⟩ := zu10
    have hP : va_P D vwCl [(h7, .inl (cy 1, 48, .inl (fx))), (d2, .inl (cy 2, 8, .inr (.inl (fd0)))), (t1, .inl (cy 0, 1600, .inl (fby))), (t2, .inl (cy 2, 24, .inr (.inl (fky)))), (d0, .inr (10, [.ref t0, .ref d1, .ref h0, yf, .int uh, .int wt, .int dt, .int vv, .int fq2_11, .int pq2_12])), (t0, .inr (9, [.ref t1, .ref t2, .int (nI tn), .int (nI ta2_2), .int (nI ts2_3), .int (nI tk2_4), .long tm2_5, .int tr2_6])), (h0, .inr (4, [.ref h1, .ref h2, .ref h3, .ref h4, .ref h5, .ref h6, .ref h7, .ref h8, .ref h9, .ref h10, .ref h11, hv0, .int hon, hv2, hv3, hv4])), (h1, .inl (cy 1, 4, .inl (fc))), (d1, .inl (cy 5, 4, .inr (.inr (.inr (.inr (eF d2 d3 d4 d5)))))), (d5, .inl (cy 2, 8, .inr (.inl (fd3))))] H := hP
    have hD : va_D A [(h7, .inl (cy 1, 48, .inl (fx))), (d2, .inl (cy 2, 8, .inr (.inl (fd0)))), (t1, .inl (cy 0, 1600, .inl (fby))), (t2, .inl (cy 2, 24, .inr (.inl (fky)))), (d0, .inr (10, [.ref t0, .ref d1, .ref h0, yf, .int uh, .int wt, .int dt, .int vv, .int fq2_11, .int pq2_12])), (t0, .inr (9, [.ref t1, .ref t2, .int (nI tn), .int (nI ta2_2), .int (nI ts2_3), .int (nI tk2_4), .long tm2_5, .int tr2_6])), (h0, .inr (4, [.ref h1, .ref h2, .ref h3, .ref h4, .ref h5, .ref h6, .ref h7, .ref h8, .ref h9, .ref h10, .ref h11, hv0, .int hon, hv2, hv3, hv4])), (h1, .inl (cy 1, 4, .inl (fc))), (d1, .inl (cy 5, 4, .inr (.inr (.inr (.inr (eF d2 d3 d4 d5)))))), (d5, .inl (cy 2, 8, .inr (.inl (fd3))))] := hD
    refine W.widen (k := 0) (n := 0) (Nat.le_of_ble_eq_true rfl) (Nat.le_of_ble_eq_true rfl) ?_
    have hw10 : (zr10 = -1 ∨ ∃ j9 : Nat, j9 < c3 ∧ zr10 = nI j9) := hw10
    have f_13 := hw10
    refine lv_istore_n (lv' := [(1, .int zr10), (0, .ref d0)]) hx hb dX10_tellOn_30 rfl hl (by decide) rfl (fun ls hl => ?_)
    refine lv_iload_n hx hb dX10_tellOn_31 rfl (lv_at hl 0 rfl) ?_
    refine lv_iconst (v := -1) hx hb dX10_tellOn_32 (by decide) ?_
    refine lv_icmp_ne (tgt := 38) hx hb dX10_tellOn_33 (by decide) (fun c_33 => ?_) (fun c_33 => ?_)
    · obtain ⟨j_14, hj_14, ej_14⟩ := f_13.resolve_left c_33
      subst ej_14
      refine lv_aload_n hx hb dX10_tellOn_38 rfl (lv_at hl 1 rfl) ?_
      refine va_get (D := D) (ci := 10) (v := .ref t0) (C := RX10) (T := TX10) (N := 10) hx hb hg i_X10 hown hK hP 4 rfl rfl 0 (by decide) (hg _ m_255) (fun _ h9 => h9) rfl dX10_tellOn_39 ?_
      refine x_callVv (q := (RX9, TX9, 8)) (ci := 9) (q0 := 0) (wr := [(h7, .inl (cy 1, 48, .inl (fx))), (d2, .inl (cy 2, 8, .inr (.inl (fd0)))), (d0, .inr (10, [.ref t0, .ref d1, .ref h0, yf, .int uh, .int wt, .int dt, .int vv, .int fq2_11, .int pq2_12])), (h0, .inr (4, [.ref h1, .ref h2, .ref h3, .ref h4, .ref h5, .ref h6, .ref h7, .ref h8, .ref h9, .ref h10, .ref h11, hv0, .int hon, hv2, hv3, hv4])), (h1, .inl (cy 1, 4, .inl (fc))), (d1, .inl (cy 5, 4, .inr (.inr (.inr (.inr (eF d2 d3 d4 d5)))))), (d5, .inl (cy 2, 8, .inr (.inl (fd3))))]) (rest := []) ⟨hx, hb, hml, hown, hg, hl.1⟩ k_X10_140 (s_next l D cy adK adV t0 t1 t2 tn ta2_2 ts2_3 tk2_4 tm2_5 tr2_6 fby fky (by omega) (by omega)) EV_blind hK hP hD hS hA [5, 2, 3] [0, 1, 4, 6, 7, 8, 9] ⟨rfl, rfl, by decide, by decide, by decide⟩ rfl rfl (fun U hU hW => EV_pass hE hS (va_free hD hS hA [5, 2, 3] rfl) hU hW) dX10_tellOn_42 rfl rfl (Nat.le_of_ble_eq_true rfl) ⟨Nat.le_of_ble_eq_true rfl, Nat.le_of_ble_eq_true rfl⟩ ⟨Nat.le_of_ble_eq_true rfl, Nat.le_of_ble_eq_true rfl⟩ (fun zu15 H locs hw15 hP hD hS => ?_)
      obtain ⟨ta2_16, ts2_17, tk2_18, tm2_19, tr2_20⟩ := zu15
      have hP : va_P D vwCl [(h7, .inl (cy 1, 48, .inl (fx))), (d2, .inl (cy 2, 8, .inr (.inl (fd0)))), (d0, .inr (10, [.ref t0, .ref d1, .ref h0, yf, .int uh, .int wt, .int dt, .int vv, .int fq2_11, .int pq2_12])), (h0, .inr (4, [.ref h1, .ref h2, .ref h3, .ref h4, .ref h5, .ref h6, .ref h7, .ref h8, .ref h9, .ref h10, .ref h11, hv0, .int hon, hv2, hv3, hv4])), (h1, .inl (cy 1, 4, .inl (fc))), (d1, .inl (cy 5, 4, .inr (.inr (.inr (.inr (eF d2 d3 d4 d5)))))), (d5, .inl (cy 2, 8, .inr (.inl (fd3)))), (t0, .inr (9, [.ref t1, .ref t2, .int (nI tn), .int (nI ta2_16), .int (nI ts2_17), .int (nI tk2_18), .long tm2_19, .int tr2_20])), (t1, .inl (cy 0, 1600, .inl (fby))), (t2, .inl (cy 2, 24, .inr (.inl (fky))))] H := hP
      have hD : va_D A [(h7, .inl (cy 1, 48, .inl (fx))), (d2, .inl (cy 2, 8, .inr (.inl (fd0)))), (d0, .inr (10, [.ref t0, .ref d1, .ref h0, yf, .int uh, .int wt, .int dt, .int vv, .int fq2_11, .int pq2_12])), (h0, .inr (4, [.ref h1, .ref h2, .ref h3, .ref h4, .ref h5, .ref h6, .ref h7, .ref h8, .ref h9, .ref h10, .ref h11, hv0, .int hon, hv2, hv3, hv4])), (h1, .inl (cy 1, 4, .inl (fc))), (d1, .inl (cy 5, 4, .inr (.inr (.inr (.inr (eF d2 d3 d4 d5)))))), (d5, .inl (cy 2, 8, .inr (.inl (fd3)))), (t0, .inr (9, [.ref t1, .ref t2, .int (nI tn), .int (nI ta2_16), .int (nI ts2_17), .int (nI tk2_18), .long tm2_19, .int tr2_20])), (t1, .inl (cy 0, 1600, .inl (fby))), (t2, .inl (cy 2, 24, .inr (.inl (fky))))] := hD
      refine W.widen (k := 0) (n := 0) (Nat.le_of_ble_eq_true rfl) (Nat.le_of_ble_eq_true rfl) ?_
      have hw15 : (ta2_16 ≤ tn) ∧ (tk2_18 ≤ 255) ∧ (nuOK tk2_18 tr2_20) := hw15
      obtain ⟨f_21, f_22, f_23⟩ := hw15
      refine lv_aload_n hx hb dX10_tellOn_45 rfl (lv_at hl 1 rfl) ?_
      refine lv_iconst (v := 0) hx hb dX10_tellOn_46 (by decide) ?_
      refine x_callVi (q := (RX10, TX10, 10)) (ci := 10) (q0 := 0) (wr := [(h7, .inl (cy 1, 48, .inl (fx))), (d5, .inl (cy 2, 8, .inr (.inl (fd3)))), (t1, .inl (cy 0, 1600, .inl (fby))), (t2, .inl (cy 2, 24, .inr (.inl (fky))))]) (rest := []) ⟨hx, hb, hml, hown, hg, hl.1⟩ k_X10_146 (s_known0 l D cy d0 d1 uh wt dt vv fq2_11 pq2_12 yf t0 t1 t2 tn ta2_16 ts2_17 tk2_18 tm2_19 tr2_20 h0 h1 h2 h3 h4 h5 h6 h7 h8 h9 h10 h11 hv0 ((.int hon)) hv2 hv3 hv4 fc c0 c1 c2 c3 d2 d3 d4 d5 fd0 (hcn) (by omega) (by omega) (by omega) (by omega) (by omega)) E0_blind hK hP hD hS hA [2, 7, 3, 4, 5, 1] [0, 6, 8, 9] ⟨rfl, rfl, by decide, by decide, by decide⟩ rfl rfl (fun _ _ _ => trivial) dX10_tellOn_47 rfl rfl (Nat.le_of_ble_eq_true rfl) ⟨Nat.le_of_ble_eq_true rfl, Nat.le_of_ble_eq_true rfl⟩ ⟨Nat.le_of_ble_eq_true rfl, Nat.le_of_ble_eq_true rfl⟩ (fun zr24 zu24 H locs hw24 hP hD hS => ?_)
      obtain ⟨fq2_25, pq2_26⟩ := zu24
      have hP : va_P D vwCl [(h7, .inl (cy 1, 48, .inl (fx))), (d5, .inl (cy 2, 8, .inr (.inl (fd3)))), (t1, .inl (cy 0, 1600, .inl (fby))), (t2, .inl (cy 2, 24, .inr (.inl (fky)))), (d0, .inr (10, [.ref t0, .ref d1, .ref h0, yf, .int uh, .int wt, .int dt, .int vv, .int fq2_25, .int pq2_26])), (t0, .inr (9, [.ref t1, .ref t2, .int (nI tn), .int (nI ta2_16), .int (nI ts2_17), .int (nI tk2_18), .long tm2_19, .int tr2_20])), (h0, .inr (4, [.ref h1, .ref h2, .ref h3, .ref h4, .ref h5, .ref h6, .ref h7, .ref h8, .ref h9, .ref h10, .ref h11, hv0, .int hon, hv2, hv3, hv4])), (h1, .inl (cy 1, 4, .inl (fc))), (d1, .inl (cy 5, 4, .inr (.inr (.inr (.inr (eF d2 d3 d4 d5)))))), (d2, .inl (cy 2, 8, .inr (.inl (fd0))))] H := hP
      have hD : va_D A [(h7, .inl (cy 1, 48, .inl (fx))), (d5, .inl (cy 2, 8, .inr (.inl (fd3)))), (t1, .inl (cy 0, 1600, .inl (fby))), (t2, .inl (cy 2, 24, .inr (.inl (fky)))), (d0, .inr (10, [.ref t0, .ref d1, .ref h0, yf, .int uh, .int wt, .int dt, .int vv, .int fq2_25, .int pq2_26])), (t0, .inr (9, [.ref t1, .ref t2, .int (nI tn), .int (nI ta2_16), .int (nI ts2_17), .int (nI tk2_18), .long tm2_19, .int tr2_20])), (h0, .inr (4, [.ref h1, .ref h2, .ref h3, .ref h4, .ref h5, .ref h6, .ref h7, .ref h8, .ref h9, .ref h10, .ref h11, hv0, .int hon, hv2, hv3, hv4])), (h1, .inl (cy 1, 4, .inl (fc))), (d1, .inl (cy 5, 4, .inr (.inr (.inr (.inr (eF d2 d3 d4 d5)))))), (d2, .inl (cy 2, 8, .inr (.inl (fd0))))] := hD
      refine W.widen (k := 0) (n := 0) (Nat.le_of_ble_eq_true rfl) (Nat.le_of_ble_eq_true rfl) ?_
      have hw24 : (zr24 = -1 ∨ ∃ j9 : Nat, j9 < c0 ∧ zr24 = nI j9) := hw24
      have f_27 := hw24
      refine lv_istore_n (lv' := [(2, .int zr24), (1, .int (nI j_14)), (0, .ref d0)]) hx hb dX10_tellOn_50 rfl hl (by decide) rfl (fun ls hl => ?_)
      refine lv_iload_n hx hb dX10_tellOn_51 rfl (lv_at hl 0 rfl) ?_
      refine lv_iconst (v := -1) hx hb dX10_tellOn_52 (by decide) ?_
      refine lv_icmp_ne (tgt := 58) hx hb dX10_tellOn_53 (by decide) (fun c_53 => ?_) (fun c_53 => ?_)
      · obtain ⟨j_28, hj_28, ej_28⟩ := f_27.resolve_left c_53
        subst ej_28
        refine lv_iload_n hx hb dX10_tellOn_58 rfl (lv_at hl 1 rfl) ?_
        refine lv_bipush (v := 8) hx hb dX10_tellOn_59 (by decide) ?_
        refine lv_imul hx hb dX10_tellOn_61 ?_
        refine lv_topi (fun y_29 hy_29 => ?_)
        obtain rfl : y_29 = nI (j_14 * 8) := hy_29.trans (pk_mul j_14 8)
        refine lv_iload_n hx hb dX10_tellOn_62 rfl (lv_at hl 0 rfl) ?_
        refine lv_iadd hx hb dX10_tellOn_63 ?_
        refine lv_topi (fun y_30 hy_30 => ?_)
        obtain rfl : y_30 = nI ((j_14 * 8) + j_28) := hy_30.trans (nI_add ((j_14 * 8)) j_28)
        refine lv_istore_n (lv' := [(3, .int (nI ((j_14 * 8) + j_28))), (2, .int (nI j_28)), (1, .int (nI j_14)), (0, .ref d0)]) hx hb dX10_tellOn_64 rfl hl (by decide) rfl (fun ls hl => ?_)
        refine lv_aload_n hx hb dX10_tellOn_65 rfl (lv_at hl 3 rfl) ?_
        refine va_get (D := D) (ci := 10) (v := .ref h0) (C := RX10) (T := TX10) (N := 10) hx hb hg i_X10 hown hK hP 4 rfl rfl 2 (by decide) (hg _ m_257) (fun _ h9 => h9) rfl dX10_tellOn_66 ?_
        refine va_get (D := D) (ci := 4) (v := .ref h7) (C := RX4) (T := TX4) (N := 16) hx hb hg i_X4 hown hK hP 6 rfl rfl 6 (by decide) (hg _ m_357) (fun _ h9 => h9) rfl dX10_tellOn_69 ?_
        refine lv_iload_n hx hb dX10_tellOn_72 rfl (lv_at hl 0 rfl) ?_
        refine va_iald hx hb hK hP 0 1 rfl rfl (vp_in_nI (by omega) (by decide)) dX10_tellOn_73 ?_
        refine lv_topi (fun x_31 ex_31 => ?_)
        refine lv_iconst (v := -1) hx hb dX10_tellOn_74 (by decide) ?_
        refine lv_icmp_eq (tgt := 84) hx hb dX10_tellOn_75 (by decide) (fun c_75 => ?_) (fun c_75 => ?_)
        · refine lv_aload_n hx hb dX10_tellOn_84 rfl (lv_at hl 3 rfl) ?_
          refine va_get (D := D) (ci := 10) (v := .ref t0) (C := RX10) (T := TX10) (N := 10) hx hb hg i_X10 hown hK hP 4 rfl rfl 0 (by decide) (hg _ m_255) (fun _ h9 => h9) rfl dX10_tellOn_85 ?_
          refine x_callVv (q := (RX9, TX9, 8)) (ci := 9) (q0 := 0) (wr := [(h7, .inl (cy 1, 48, .inl (fx))), (d5, .inl (cy 2, 8, .inr (.inl (fd3)))), (d0, .inr (10, [.ref t0, .ref d1, .ref h0, yf, .int uh, .int wt, .int dt, .int vv, .int fq2_25, .int pq2_26])), (h0, .inr (4, [.ref h1, .ref h2, .ref h3, .ref h4, .ref h5, .ref h6, .ref h7, .ref h8, .ref h9, .ref h10, .ref h11, hv0, .int hon, hv2, hv3, hv4])), (h1, .inl (cy 1, 4, .inl (fc))), (d1, .inl (cy 5, 4, .inr (.inr (.inr (.inr (eF d2 d3 d4 d5)))))), (d2, .inl (cy 2, 8, .inr (.inl (fd0))))]) (rest := []) ⟨hx, hb, hml, hown, hg, hl.1⟩ k_X10_140 (s_next l D cy adK adV t0 t1 t2 tn ta2_16 ts2_17 tk2_18 tm2_19 tr2_20 fby fky (by omega) (by omega)) EV_blind hK hP hD hS hA [5, 2, 3] [0, 1, 4, 6, 7, 8, 9] ⟨rfl, rfl, by decide, by decide, by decide⟩ rfl rfl (fun U hU hW => EV_pass hE hS (va_free hD hS hA [5, 2, 3] rfl) hU hW) dX10_tellOn_88 rfl rfl (Nat.le_of_ble_eq_true rfl) ⟨Nat.le_of_ble_eq_true rfl, Nat.le_of_ble_eq_true rfl⟩ ⟨Nat.le_of_ble_eq_true rfl, Nat.le_of_ble_eq_true rfl⟩ (fun zu32 H locs hw32 hP hD hS => ?_)
          obtain ⟨ta2_33, ts2_34, tk2_35, tm2_36, tr2_37⟩ := zu32
          have hP : va_P D vwCl [(h7, .inl (cy 1, 48, .inl (fx))), (d5, .inl (cy 2, 8, .inr (.inl (fd3)))), (d0, .inr (10, [.ref t0, .ref d1, .ref h0, yf, .int uh, .int wt, .int dt, .int vv, .int fq2_25, .int pq2_26])), (h0, .inr (4, [.ref h1, .ref h2, .ref h3, .ref h4, .ref h5, .ref h6, .ref h7, .ref h8, .ref h9, .ref h10, .ref h11, hv0, .int hon, hv2, hv3, hv4])), (h1, .inl (cy 1, 4, .inl (fc))), (d1, .inl (cy 5, 4, .inr (.inr (.inr (.inr (eF d2 d3 d4 d5)))))), (d2, .inl (cy 2, 8, .inr (.inl (fd0)))), (t0, .inr (9, [.ref t1, .ref t2, .int (nI tn), .int (nI ta2_33), .int (nI ts2_34), .int (nI tk2_35), .long tm2_36, .int tr2_37])), (t1, .inl (cy 0, 1600, .inl (fby))), (t2, .inl (cy 2, 24, .inr (.inl (fky))))] H := hP
          have hD : va_D A [(h7, .inl (cy 1, 48, .inl (fx))), (d5, .inl (cy 2, 8, .inr (.inl (fd3)))), (d0, .inr (10, [.ref t0, .ref d1, .ref h0, yf, .int uh, .int wt, .int dt, .int vv, .int fq2_25, .int pq2_26])), (h0, .inr (4, [.ref h1, .ref h2, .ref h3, .ref h4, .ref h5, .ref h6, .ref h7, .ref h8, .ref h9, .ref h10, .ref h11, hv0, .int hon, hv2, hv3, hv4])), (h1, .inl (cy 1, 4, .inl (fc))), (d1, .inl (cy 5, 4, .inr (.inr (.inr (.inr (eF d2 d3 d4 d5)))))), (d2, .inl (cy 2, 8, .inr (.inl (fd0)))), (t0, .inr (9, [.ref t1, .ref t2, .int (nI tn), .int (nI ta2_33), .int (nI ts2_34), .int (nI tk2_35), .long tm2_36, .int tr2_37])), (t1, .inl (cy 0, 1600, .inl (fby))), (t2, .inl (cy 2, 24, .inr (.inl (fky))))] := hD
          refine W.widen (k := 0) (n := 0) (Nat.le_of_ble_eq_true rfl) (Nat.le_of_ble_eq_true rfl) ?_
          have hw32 : (ta2_33 ≤ tn) ∧ (tk2_35 ≤ 255) ∧ (nuOK tk2_35 tr2_37) := hw32
          obtain ⟨f_38, f_39, f_40⟩ := hw32
          refine lv_aload_n hx hb dX10_tellOn_91 rfl (lv_at hl 3 rfl) ?_
          refine lv_bipush (v := 113) hx hb dX10_tellOn_92 (by decide) ?_
          refine x_callVi (q := (RX10, TX10, 10)) (ci := 10) (q0 := 0) (wr := [(h7, .inl (cy 1, 48, .inl (fx))), (d5, .inl (cy 2, 8, .inr (.inl (fd3)))), (h0, .inr (4, [.ref h1, .ref h2, .ref h3, .ref h4, .ref h5, .ref h6, .ref h7, .ref h8, .ref h9, .ref h10, .ref h11, hv0, .int hon, hv2, hv3, hv4])), (h1, .inl (cy 1, 4, .inl (fc))), (d1, .inl (cy 5, 4, .inr (.inr (.inr (.inr (eF d2 d3 d4 d5)))))), (d2, .inl (cy 2, 8, .inr (.inl (fd0))))]) (rest := []) ⟨hx, hb, hml, hown, hg, hl.1⟩ k_X10_128 (s_take l D cy adK adV d0 d1 uh wt dt vv fq2_25 pq2_26 ((.ref h0)) yf t0 t1 t2 tn ta2_33 ts2_34 tk2_35 tm2_36 tr2_37 fby fky 113 (by omega) (by omega) (by omega) (f_40) (by omega)) EV_blind hK hP hD hS hA [2, 7, 8, 9] [0, 1, 3, 4, 5, 6] ⟨rfl, rfl, by decide, by decide, by decide⟩ rfl rfl (fun U hU hW => EV_pass hE hS (va_free hD hS hA [2, 7, 8, 9] rfl) hU hW) dX10_tellOn_94 rfl rfl (Nat.le_of_ble_eq_true rfl) ⟨Nat.le_of_ble_eq_true rfl, Nat.le_of_ble_eq_true rfl⟩ ⟨Nat.le_of_ble_eq_true rfl, Nat.le_of_ble_eq_true rfl⟩ (fun zr41 zu41 H locs hw41 hP hD hS => ?_)
          obtain ⟨ta2_42, ts2_43, tk2_44, tm2_45, tr2_46, fq2_47, pq2_48⟩ := zu41
          have hP : va_P D vwCl [(h7, .inl (cy 1, 48, .inl (fx))), (d5, .inl (cy 2, 8, .inr (.inl (fd3)))), (h0, .inr (4, [.ref h1, .ref h2, .ref h3, .ref h4, .ref h5, .ref h6, .ref h7, .ref h8, .ref h9, .ref h10, .ref h11, hv0, .int hon, hv2, hv3, hv4])), (h1, .inl (cy 1, 4, .inl (fc))), (d1, .inl (cy 5, 4, .inr (.inr (.inr (.inr (eF d2 d3 d4 d5)))))), (d2, .inl (cy 2, 8, .inr (.inl (fd0)))), (d0, .inr (10, [.ref t0, .ref d1, .ref h0, yf, .int uh, .int wt, .int dt, .int vv, .int fq2_47, .int pq2_48])), (t0, .inr (9, [.ref t1, .ref t2, .int (nI tn), .int (nI ta2_42), .int (nI ts2_43), .int (nI tk2_44), .long tm2_45, .int tr2_46])), (t1, .inl (cy 0, 1600, .inl (fby))), (t2, .inl (cy 2, 24, .inr (.inl (fky))))] H := hP
          have hD : va_D A [(h7, .inl (cy 1, 48, .inl (fx))), (d5, .inl (cy 2, 8, .inr (.inl (fd3)))), (h0, .inr (4, [.ref h1, .ref h2, .ref h3, .ref h4, .ref h5, .ref h6, .ref h7, .ref h8, .ref h9, .ref h10, .ref h11, hv0, .int hon, hv2, hv3, hv4])), (h1, .inl (cy 1, 4, .inl (fc))), (d1, .inl (cy 5, 4, .inr (.inr (.inr (.inr (eF d2 d3 d4 d5)))))), (d2, .inl (cy 2, 8, .inr (.inl (fd0)))), (d0, .inr (10, [.ref t0, .ref d1, .ref h0, yf, .int uh, .int wt, .int dt, .int vv, .int fq2_47, .int pq2_48])), (t0, .inr (9, [.ref t1, .ref t2, .int (nI tn), .int (nI ta2_42), .int (nI ts2_43), .int (nI tk2_44), .long tm2_45, .int tr2_46])), (t1, .inl (cy 0, 1600, .inl (fby))), (t2, .inl (cy 2, 24, .inr (.inl (fky))))] := hD
          refine W.widen (k := 0) (n := 0) (Nat.le_of_ble_eq_true rfl) (Nat.le_of_ble_eq_true rfl) ?_
          have hw41 : (zr41 = 0 ∨ zr41 = 1) ∧ (ta2_42 ≤ tn) ∧ (tk2_44 ≤ 255) ∧ (nuOK tk2_44 tr2_46) := hw41
          obtain ⟨f_49, f_50, f_51, f_52⟩ := hw41
          refine lv_if_ne (tgt := 102) hx hb dX10_tellOn_97 (by decide) (fun c_97 => ?_) (fun c_97 => ?_)
          · refine lv_aload_n hx hb dX10_tellOn_102 rfl (lv_at hl 3 rfl) ?_
            refine lv_iconst (v := 3) hx hb dX10_tellOn_103 (by decide) ?_
            refine x_callVi (q := (RX10, TX10, 10)) (ci := 10) (q0 := 0) (wr := [(h7, .inl (cy 1, 48, .inl (fx))), (d2, .inl (cy 2, 8, .inr (.inl (fd0)))), (t1, .inl (cy 0, 1600, .inl (fby))), (t2, .inl (cy 2, 24, .inr (.inl (fky))))]) (rest := []) ⟨hx, hb, hml, hown, hg, hl.1⟩ k_X10_146 (s_known3 l D cy d0 d1 uh wt dt vv fq2_47 pq2_48 yf t0 t1 t2 tn ta2_42 ts2_43 tk2_44 tm2_45 tr2_46 h0 h1 h2 h3 h4 h5 h6 h7 h8 h9 h10 h11 hv0 ((.int hon)) hv2 hv3 hv4 fc c0 c1 c2 c3 d2 d3 d4 d5 fd3 (hcn) (by omega) (by omega) (by omega) (by omega) (by omega)) E0_blind hK hP hD hS hA [6, 7, 2, 3, 4, 1] [0, 5, 8, 9] ⟨rfl, rfl, by decide, by decide, by decide⟩ rfl rfl (fun _ _ _ => trivial) dX10_tellOn_104 rfl rfl (Nat.le_of_ble_eq_true rfl) ⟨Nat.le_of_ble_eq_true rfl, Nat.le_of_ble_eq_true rfl⟩ ⟨Nat.le_of_ble_eq_true rfl, Nat.le_of_ble_eq_true rfl⟩ (fun zr53 zu53 H locs hw53 hP hD hS => ?_)
            obtain ⟨fq2_54, pq2_55⟩ := zu53
            have hP : va_P D vwCl [(h7, .inl (cy 1, 48, .inl (fx))), (d2, .inl (cy 2, 8, .inr (.inl (fd0)))), (t1, .inl (cy 0, 1600, .inl (fby))), (t2, .inl (cy 2, 24, .inr (.inl (fky)))), (d0, .inr (10, [.ref t0, .ref d1, .ref h0, yf, .int uh, .int wt, .int dt, .int vv, .int fq2_54, .int pq2_55])), (t0, .inr (9, [.ref t1, .ref t2, .int (nI tn), .int (nI ta2_42), .int (nI ts2_43), .int (nI tk2_44), .long tm2_45, .int tr2_46])), (h0, .inr (4, [.ref h1, .ref h2, .ref h3, .ref h4, .ref h5, .ref h6, .ref h7, .ref h8, .ref h9, .ref h10, .ref h11, hv0, .int hon, hv2, hv3, hv4])), (h1, .inl (cy 1, 4, .inl (fc))), (d1, .inl (cy 5, 4, .inr (.inr (.inr (.inr (eF d2 d3 d4 d5)))))), (d5, .inl (cy 2, 8, .inr (.inl (fd3))))] H := hP
            have hD : va_D A [(h7, .inl (cy 1, 48, .inl (fx))), (d2, .inl (cy 2, 8, .inr (.inl (fd0)))), (t1, .inl (cy 0, 1600, .inl (fby))), (t2, .inl (cy 2, 24, .inr (.inl (fky)))), (d0, .inr (10, [.ref t0, .ref d1, .ref h0, yf, .int uh, .int wt, .int dt, .int vv, .int fq2_54, .int pq2_55])), (t0, .inr (9, [.ref t1, .ref t2, .int (nI tn), .int (nI ta2_42), .int (nI ts2_43), .int (nI tk2_44), .long tm2_45, .int tr2_46])), (h0, .inr (4, [.ref h1, .ref h2, .ref h3, .ref h4, .ref h5, .ref h6, .ref h7, .ref h8, .ref h9, .ref h10, .ref h11, hv0, .int hon, hv2, hv3, hv4])), (h1, .inl (cy 1, 4, .inl (fc))), (d1, .inl (cy 5, 4, .inr (.inr (.inr (.inr (eF d2 d3 d4 d5)))))), (d5, .inl (cy 2, 8, .inr (.inl (fd3))))] := hD
            refine W.widen (k := 0) (n := 0) (Nat.le_of_ble_eq_true rfl) (Nat.le_of_ble_eq_true rfl) ?_
            have hw53 : (zr53 = -1 ∨ ∃ j9 : Nat, j9 < c3 ∧ zr53 = nI j9) := hw53
            have f_56 := hw53
            refine lv_istore (lv' := [(4, .int zr53), (3, .int (nI ((j_14 * 8) + j_28))), (2, .int (nI j_28)), (1, .int (nI j_14)), (0, .ref d0)]) hx hb dX10_tellOn_107 hl (by decide) rfl (fun ls hl => ?_)
            refine lv_iload hx hb dX10_tellOn_109 (lv_at hl 0 rfl) ?_
            refine lv_iconst (v := -1) hx hb dX10_tellOn_111 (by decide) ?_
            refine lv_icmp_ne (tgt := 117) hx hb dX10_tellOn_112 (by decide) (fun c_112 => ?_) (fun c_112 => ?_)
            · obtain ⟨j_57, hj_57, ej_57⟩ := f_56.resolve_left c_112
              subst ej_57
              refine lv_aload_n hx hb dX10_tellOn_117 rfl (lv_at hl 4 rfl) ?_
              refine va_get (D := D) (ci := 10) (v := .ref h0) (C := RX10) (T := TX10) (N := 10) hx hb hg i_X10 hown hK hP 4 rfl rfl 2 (by decide) (hg _ m_257) (fun _ h9 => h9) rfl dX10_tellOn_118 ?_
              refine va_get (D := D) (ci := 4) (v := .ref h7) (C := RX4) (T := TX4) (N := 16) hx hb hg i_X4 hown hK hP 6 rfl rfl 6 (by decide) (hg _ m_357) (fun _ h9 => h9) rfl dX10_tellOn_121 ?_
              refine lv_iload_n hx hb dX10_tellOn_124 rfl (lv_at hl 1 rfl) ?_
              refine lv_iload hx hb dX10_tellOn_125 (lv_at hl 0 rfl) ?_
              refine va_iast hx hb hK hP hD hS 0 1 rfl rfl (vp_in_nI (by omega) (by decide)) dX10_tellOn_127 (fun H locs hP hD hS => ?_)
              obtain ⟨g_58, eg_58⟩ : ∃ y, upd fx (nI ((j_14 * 8) + j_28) : Int32).toNatClampNeg (nI j_57) = y := ⟨_, rfl⟩
              rw [eg_58] at hP hD
              have hr_59 : nxT g_58 := eg_58 ▸ nxT_put hnx (by omega)
              have hP : va_P D vwCl [(h7, .inl (cy 1, 48, .inl (g_58))), (d2, .inl (cy 2, 8, .inr (.inl (fd0)))), (t1, .inl (cy 0, 1600, .inl (fby))), (t2, .inl (cy 2, 24, .inr (.inl (fky)))), (d0, .inr (10, [.ref t0, .ref d1, .ref h0, yf, .int uh, .int wt, .int dt, .int vv, .int fq2_54, .int pq2_55])), (t0, .inr (9, [.ref t1, .ref t2, .int (nI tn), .int (nI ta2_42), .int (nI ts2_43), .int (nI tk2_44), .long tm2_45, .int tr2_46])), (h0, .inr (4, [.ref h1, .ref h2, .ref h3, .ref h4, .ref h5, .ref h6, .ref h7, .ref h8, .ref h9, .ref h10, .ref h11, hv0, .int hon, hv2, hv3, hv4])), (h1, .inl (cy 1, 4, .inl (fc))), (d1, .inl (cy 5, 4, .inr (.inr (.inr (.inr (eF d2 d3 d4 d5)))))), (d5, .inl (cy 2, 8, .inr (.inl (fd3))))] H := hP
              have hD : va_D A [(h7, .inl (cy 1, 48, .inl (g_58))), (d2, .inl (cy 2, 8, .inr (.inl (fd0)))), (t1, .inl (cy 0, 1600, .inl (fby))), (t2, .inl (cy 2, 24, .inr (.inl (fky)))), (d0, .inr (10, [.ref t0, .ref d1, .ref h0, yf, .int uh, .int wt, .int dt, .int vv, .int fq2_54, .int pq2_55])), (t0, .inr (9, [.ref t1, .ref t2, .int (nI tn), .int (nI ta2_42), .int (nI ts2_43), .int (nI tk2_44), .long tm2_45, .int tr2_46])), (h0, .inr (4, [.ref h1, .ref h2, .ref h3, .ref h4, .ref h5, .ref h6, .ref h7, .ref h8, .ref h9, .ref h10, .ref h11, hv0, .int hon, hv2, hv3, hv4])), (h1, .inl (cy 1, 4, .inl (fc))), (d1, .inl (cy 5, 4, .inr (.inr (.inr (.inr (eF d2 d3 d4 d5)))))), (d5, .inl (cy 2, 8, .inr (.inl (fd3))))] := hD
              refine lv_aload_n hx hb dX10_tellOn_128 rfl (lv_at hl 4 rfl) ?_
              refine va_get (D := D) (ci := 10) (v := .ref h0) (C := RX10) (T := TX10) (N := 10) hx hb hg i_X10 hown hK hP 4 rfl rfl 2 (by decide) (hg _ m_257) (fun _ h9 => h9) rfl dX10_tellOn_129 ?_
              refine lv_dup hx hb dX10_tellOn_132 rfl ?_
              refine va_get (D := D) (ci := 4) (v := .int hon) (C := RX4) (T := TX4) (N := 16) hx hb hg i_X4 hown hK hP 6 rfl rfl 12 (by decide) (hg _ m_372) (fun _ h9 => h9) rfl dX10_tellOn_133 ?_
              refine lv_iconst (v := 1) hx hb dX10_tellOn_136 (by decide) ?_
              refine lv_iadd hx hb dX10_tellOn_137 ?_
              refine lv_topi (fun x_60 ex_60 => ?_)
              refine va_put (D := D) (ci := 4) (v := .int x_60) (ty := .int) (C := RX4) (T := TX4) (N := 16) hx hb hg i_X4 tyX4 tyX4_ok nmX4 hown hK hP hD hS 6 rfl rfl 12 (by decide) (hg _ m_372) (fun _ h9 => h9) rfl (by decide +kernel) rfl rfl (Nat.le_of_ble_eq_true rfl) dX10_tellOn_138 (fun H locs hP hD hS => ?_)
              have hP : va_P D vwCl [(h7, .inl (cy 1, 48, .inl (g_58))), (d2, .inl (cy 2, 8, .inr (.inl (fd0)))), (t1, .inl (cy 0, 1600, .inl (fby))), (t2, .inl (cy 2, 24, .inr (.inl (fky)))), (d0, .inr (10, [.ref t0, .ref d1, .ref h0, yf, .int uh, .int wt, .int dt, .int vv, .int fq2_54, .int pq2_55])), (t0, .inr (9, [.ref t1, .ref t2, .int (nI tn), .int (nI ta2_42), .int (nI ts2_43), .int (nI tk2_44), .long tm2_45, .int tr2_46])), (h0, .inr (4, [.ref h1, .ref h2, .ref h3, .ref h4, .ref h5, .ref h6, .ref h7, .ref h8, .ref h9, .ref h10, .ref h11, hv0, .int x_60, hv2, hv3, hv4])), (h1, .inl (cy 1, 4, .inl (fc))), (d1, .inl (cy 5, 4, .inr (.inr (.inr (.inr (eF d2 d3 d4 d5)))))), (d5, .inl (cy 2, 8, .inr (.inl (fd3))))] H := hP
              have hD : va_D A [(h7, .inl (cy 1, 48, .inl (g_58))), (d2, .inl (cy 2, 8, .inr (.inl (fd0)))), (t1, .inl (cy 0, 1600, .inl (fby))), (t2, .inl (cy 2, 24, .inr (.inl (fky)))), (d0, .inr (10, [.ref t0, .ref d1, .ref h0, yf, .int uh, .int wt, .int dt, .int vv, .int fq2_54, .int pq2_55])), (t0, .inr (9, [.ref t1, .ref t2, .int (nI tn), .int (nI ta2_42), .int (nI ts2_43), .int (nI tk2_44), .long tm2_45, .int tr2_46])), (h0, .inr (4, [.ref h1, .ref h2, .ref h3, .ref h4, .ref h5, .ref h6, .ref h7, .ref h8, .ref h9, .ref h10, .ref h11, hv0, .int x_60, hv2, hv3, hv4])), (h1, .inl (cy 1, 4, .inl (fc))), (d1, .inl (cy 5, 4, .inr (.inr (.inr (.inr (eF d2 d3 d4 d5)))))), (d5, .inl (cy 2, 8, .inr (.inl (fd3))))] := hD
              refine lv_aload_n hx hb dX10_tellOn_141 rfl (lv_at hl 4 rfl) ?_
              refine va_get (D := D) (ci := 10) (v := .ref t0) (C := RX10) (T := TX10) (N := 10) hx hb hg i_X10 hown hK hP 4 rfl rfl 0 (by decide) (hg _ m_255) (fun _ h9 => h9) rfl dX10_tellOn_142 ?_
              refine x_callVv (q := (RX9, TX9, 8)) (ci := 9) (q0 := 0) (wr := [(h7, .inl (cy 1, 48, .inl (g_58))), (d2, .inl (cy 2, 8, .inr (.inl (fd0)))), (d0, .inr (10, [.ref t0, .ref d1, .ref h0, yf, .int uh, .int wt, .int dt, .int vv, .int fq2_54, .int pq2_55])), (h0, .inr (4, [.ref h1, .ref h2, .ref h3, .ref h4, .ref h5, .ref h6, .ref h7, .ref h8, .ref h9, .ref h10, .ref h11, hv0, .int x_60, hv2, hv3, hv4])), (h1, .inl (cy 1, 4, .inl (fc))), (d1, .inl (cy 5, 4, .inr (.inr (.inr (.inr (eF d2 d3 d4 d5)))))), (d5, .inl (cy 2, 8, .inr (.inl (fd3))))]) (rest := []) ⟨hx, hb, hml, hown, hg, hl.1⟩ k_X10_140 (s_next l D cy adK adV t0 t1 t2 tn ta2_42 ts2_43 tk2_44 tm2_45 tr2_46 fby fky (by omega) (by omega)) EV_blind hK hP hD hS hA [5, 2, 3] [0, 1, 4, 6, 7, 8, 9] ⟨rfl, rfl, by decide, by decide, by decide⟩ rfl rfl (fun U hU hW => EV_pass hE hS (va_free hD hS hA [5, 2, 3] rfl) hU hW) dX10_tellOn_145 rfl rfl (Nat.le_of_ble_eq_true rfl) ⟨Nat.le_of_ble_eq_true rfl, Nat.le_of_ble_eq_true rfl⟩ ⟨Nat.le_of_ble_eq_true rfl, Nat.le_of_ble_eq_true rfl⟩ (fun zu61 H locs hw61 hP hD hS => ?_)
              obtain ⟨ta2_62, ts2_63, tk2_64, tm2_65, tr2_66⟩ := zu61
              have hP : va_P D vwCl [(h7, .inl (cy 1, 48, .inl (g_58))), (d2, .inl (cy 2, 8, .inr (.inl (fd0)))), (d0, .inr (10, [.ref t0, .ref d1, .ref h0, yf, .int uh, .int wt, .int dt, .int vv, .int fq2_54, .int pq2_55])), (h0, .inr (4, [.ref h1, .ref h2, .ref h3, .ref h4, .ref h5, .ref h6, .ref h7, .ref h8, .ref h9, .ref h10, .ref h11, hv0, .int x_60, hv2, hv3, hv4])), (h1, .inl (cy 1, 4, .inl (fc))), (d1, .inl (cy 5, 4, .inr (.inr (.inr (.inr (eF d2 d3 d4 d5)))))), (d5, .inl (cy 2, 8, .inr (.inl (fd3)))), (t0, .inr (9, [.ref t1, .ref t2, .int (nI tn), .int (nI ta2_62), .int (nI ts2_63), .int (nI tk2_64), .long tm2_65, .int tr2_66])), (t1, .inl (cy 0, 1600, .inl (fby))), (t2, .inl (cy 2, 24, .inr (.inl (fky))))] H := hP
              have hD : va_D A [(h7, .inl (cy 1, 48, .inl (g_58))), (d2, .inl (cy 2, 8, .inr (.inl (fd0)))), (d0, .inr (10, [.ref t0, .ref d1, .ref h0, yf, .int uh, .int wt, .int dt, .int vv, .int fq2_54, .int pq2_55])), (h0, .inr (4, [.ref h1, .ref h2, .ref h3, .ref h4, .ref h5, .ref h6, .ref h7, .ref h8, .ref h9, .ref h10, .ref h11, hv0, .int x_60, hv2, hv3, hv4])), (h1, .inl (cy 1, 4, .inl (fc))), (d1, .inl (cy 5, 4, .inr (.inr (.inr (.inr (eF d2 d3 d4 d5)))))), (d5, .inl (cy 2, 8, .inr (.inl (fd3)))), (t0, .inr (9, [.ref t1, .ref t2, .int (nI tn), .int (nI ta2_62), .int (nI ts2_63), .int (nI tk2_64), .long tm2_65, .int tr2_66])), (t1, .inl (cy 0, 1600, .inl (fby))), (t2, .inl (cy 2, 24, .inr (.inl (fky))))] := hD
              refine W.widen (k := 0) (n := 0) (Nat.le_of_ble_eq_true rfl) (Nat.le_of_ble_eq_true rfl) ?_
              have hw61 : (ta2_62 ≤ tn) ∧ (tk2_64 ≤ 255) ∧ (nuOK tk2_64 tr2_66) := hw61
              obtain ⟨f_67, f_68, f_69⟩ := hw61
              refine lv_aload_n hx hb dX10_tellOn_148 rfl (lv_at hl 4 rfl) ?_
              refine lv_bipush (v := 59) hx hb dX10_tellOn_149 (by decide) ?_
              refine x_callVi (q := (RX10, TX10, 10)) (ci := 10) (q0 := 0) (wr := [(h7, .inl (cy 1, 48, .inl (g_58))), (d2, .inl (cy 2, 8, .inr (.inl (fd0)))), (h0, .inr (4, [.ref h1, .ref h2, .ref h3, .ref h4, .ref h5, .ref h6, .ref h7, .ref h8, .ref h9, .ref h10, .ref h11, hv0, .int x_60, hv2, hv3, hv4])), (h1, .inl (cy 1, 4, .inl (fc))), (d1, .inl (cy 5, 4, .inr (.inr (.inr (.inr (eF d2 d3 d4 d5)))))), (d5, .inl (cy 2, 8, .inr (.inl (fd3))))]) (rest := []) ⟨hx, hb, hml, hown, hg, hl.1⟩ k_X10_128 (s_take l D cy adK adV d0 d1 uh wt dt vv fq2_54 pq2_55 ((.ref h0)) yf t0 t1 t2 tn ta2_62 ts2_63 tk2_64 tm2_65 tr2_66 fby fky 59 (by omega) (by omega) (by omega) (f_69) (by omega)) EV_blind hK hP hD hS hA [2, 7, 8, 9] [0, 1, 3, 4, 5, 6] ⟨rfl, rfl, by decide, by decide, by decide⟩ rfl rfl (fun U hU hW => EV_pass hE hS (va_free hD hS hA [2, 7, 8, 9] rfl) hU hW) dX10_tellOn_151 rfl rfl (Nat.le_of_ble_eq_true rfl) ⟨Nat.le_of_ble_eq_true rfl, Nat.le_of_ble_eq_true rfl⟩ ⟨Nat.le_of_ble_eq_true rfl, Nat.le_of_ble_eq_true rfl⟩ (fun zr70 zu70 H locs hw70 hP hD hS => ?_)
              obtain ⟨ta2_71, ts2_72, tk2_73, tm2_74, tr2_75, fq2_76, pq2_77⟩ := zu70
              have hP : va_P D vwCl [(h7, .inl (cy 1, 48, .inl (g_58))), (d2, .inl (cy 2, 8, .inr (.inl (fd0)))), (h0, .inr (4, [.ref h1, .ref h2, .ref h3, .ref h4, .ref h5, .ref h6, .ref h7, .ref h8, .ref h9, .ref h10, .ref h11, hv0, .int x_60, hv2, hv3, hv4])), (h1, .inl (cy 1, 4, .inl (fc))), (d1, .inl (cy 5, 4, .inr (.inr (.inr (.inr (eF d2 d3 d4 d5)))))), (d5, .inl (cy 2, 8, .inr (.inl (fd3)))), (d0, .inr (10, [.ref t0, .ref d1, .ref h0, yf, .int uh, .int wt, .int dt, .int vv, .int fq2_76, .int pq2_77])), (t0, .inr (9, [.ref t1, .ref t2, .int (nI tn), .int (nI ta2_71), .int (nI ts2_72), .int (nI tk2_73), .long tm2_74, .int tr2_75])), (t1, .inl (cy 0, 1600, .inl (fby))), (t2, .inl (cy 2, 24, .inr (.inl (fky))))] H := hP
              have hD : va_D A [(h7, .inl (cy 1, 48, .inl (g_58))), (d2, .inl (cy 2, 8, .inr (.inl (fd0)))), (h0, .inr (4, [.ref h1, .ref h2, .ref h3, .ref h4, .ref h5, .ref h6, .ref h7, .ref h8, .ref h9, .ref h10, .ref h11, hv0, .int x_60, hv2, hv3, hv4])), (h1, .inl (cy 1, 4, .inl (fc))), (d1, .inl (cy 5, 4, .inr (.inr (.inr (.inr (eF d2 d3 d4 d5)))))), (d5, .inl (cy 2, 8, .inr (.inl (fd3)))), (d0, .inr (10, [.ref t0, .ref d1, .ref h0, yf, .int uh, .int wt, .int dt, .int vv, .int fq2_76, .int pq2_77])), (t0, .inr (9, [.ref t1, .ref t2, .int (nI tn), .int (nI ta2_71), .int (nI ts2_72), .int (nI tk2_73), .long tm2_74, .int tr2_75])), (t1, .inl (cy 0, 1600, .inl (fby))), (t2, .inl (cy 2, 24, .inr (.inl (fky))))] := hD
              refine W.widen (k := 0) (n := 0) (Nat.le_of_ble_eq_true rfl) (Nat.le_of_ble_eq_true rfl) ?_
              have hw70 : (zr70 = 0 ∨ zr70 = 1) ∧ (ta2_71 ≤ tn) ∧ (tk2_73 ≤ 255) ∧ (nuOK tk2_73 tr2_75) := hw70
              obtain ⟨f_78, f_79, f_80, f_81⟩ := hw70
              exact x_zret hQ hx hb hr hlocks hK hP hD hS (narB f_78) dX10_tellOn_154 (ta2_71, ts2_72, tk2_73, tm2_74, tr2_75, fq2_76, pq2_77, x_60, g_58) (⟨f_78, (show ta2_71 ≤ tn from by omega), (show tk2_73 ≤ 255 from by omega), f_81, hr_59⟩) [6, 7, 8, 9, 2, 3, 0, 4, 1, 5] (by decide) rfl (Nat.le_of_ble_eq_true rfl) (Nat.le_of_ble_eq_true rfl)
            · refine lv_iconst (v := 0) hx hb dX10_tellOn_115 (by decide) ?_
              exact x_zret hQ hx hb hr hlocks hK hP hD hS rfl dX10_tellOn_116 (ta2_42, ts2_43, tk2_44, tm2_45, tr2_46, fq2_54, pq2_55, hon, fx) (⟨(Or.inl rfl), (show ta2_42 ≤ tn from by omega), (show tk2_44 ≤ 255 from by omega), f_52, hnx⟩) [4, 5, 2, 3, 6, 7, 0, 8, 1, 9] (by decide) rfl (Nat.le_of_ble_eq_true rfl) (Nat.le_of_ble_eq_true rfl)
          · refine lv_iconst (v := 0) hx hb dX10_tellOn_100 (by decide) ?_
            exact x_zret hQ hx hb hr hlocks hK hP hD hS rfl dX10_tellOn_101 (ta2_42, ts2_43, tk2_44, tm2_45, tr2_46, fq2_47, pq2_48, hon, fx) (⟨(Or.inl rfl), (show ta2_42 ≤ tn from by omega), (show tk2_44 ≤ 255 from by omega), f_52, hnx⟩) [6, 7, 8, 9, 2, 3, 0, 4, 5, 1] (by decide) rfl (Nat.le_of_ble_eq_true rfl) (Nat.le_of_ble_eq_true rfl)
        · refine lv_aload_n hx hb dX10_tellOn_78 rfl (lv_at hl 3 rfl) ?_
          refine lv_iconst (v := 3) hx hb dX10_tellOn_79 (by decide) ?_
          refine x_callVi (q := (RX10, TX10, 10)) (ci := 10) (q0 := 0) (wr := [(h7, .inl (cy 1, 48, .inl (fx))), (d5, .inl (cy 2, 8, .inr (.inl (fd3)))), (t1, .inl (cy 0, 1600, .inl (fby))), (t2, .inl (cy 2, 24, .inr (.inl (fky)))), (h0, .inr (4, [.ref h1, .ref h2, .ref h3, .ref h4, .ref h5, .ref h6, .ref h7, .ref h8, .ref h9, .ref h10, .ref h11, hv0, .int hon, hv2, hv3, hv4])), (h1, .inl (cy 1, 4, .inl (fc))), (d1, .inl (cy 5, 4, .inr (.inr (.inr (.inr (eF d2 d3 d4 d5)))))), (d2, .inl (cy 2, 8, .inr (.inl (fd0))))]) (rest := []) ⟨hx, hb, hml, hown, hg, hl.1⟩ k_X10_110 (s_fail l D cy d0 d1 uh wt dt vv fq2_25 pq2_26 ((.ref h0)) yf t0 t1 t2 tn ta2_16 ts2_17 tk2_18 tm2_19 tr2_20 3 (by omega)) E0_blind hK hP hD hS hA [4, 5] [0, 1, 2, 3, 6, 7, 8, 9] ⟨rfl, rfl, by decide, by decide, by decide⟩ rfl rfl (fun _ _ _ => trivial) dX10_tellOn_80 rfl rfl (Nat.le_of_ble_eq_true rfl) ⟨Nat.le_of_ble_eq_true rfl, Nat.le_of_ble_eq_true rfl⟩ ⟨Nat.le_of_ble_eq_true rfl, Nat.le_of_ble_eq_true rfl⟩ (fun zr82 zu82 H locs hw82 hP hD hS => ?_)
          obtain ⟨fq2_83, pq2_84⟩ := zu82
          have hP : va_P D vwCl [(h7, .inl (cy 1, 48, .inl (fx))), (d5, .inl (cy 2, 8, .inr (.inl (fd3)))), (t1, .inl (cy 0, 1600, .inl (fby))), (t2, .inl (cy 2, 24, .inr (.inl (fky)))), (h0, .inr (4, [.ref h1, .ref h2, .ref h3, .ref h4, .ref h5, .ref h6, .ref h7, .ref h8, .ref h9, .ref h10, .ref h11, hv0, .int hon, hv2, hv3, hv4])), (h1, .inl (cy 1, 4, .inl (fc))), (d1, .inl (cy 5, 4, .inr (.inr (.inr (.inr (eF d2 d3 d4 d5)))))), (d2, .inl (cy 2, 8, .inr (.inl (fd0)))), (d0, .inr (10, [.ref t0, .ref d1, .ref h0, yf, .int uh, .int wt, .int dt, .int vv, .int fq2_83, .int pq2_84])), (t0, .inr (9, [.ref t1, .ref t2, .int (nI tn), .int (nI ta2_16), .int (nI ts2_17), .int (nI tk2_18), .long tm2_19, .int tr2_20]))] H := hP
          have hD : va_D A [(h7, .inl (cy 1, 48, .inl (fx))), (d5, .inl (cy 2, 8, .inr (.inl (fd3)))), (t1, .inl (cy 0, 1600, .inl (fby))), (t2, .inl (cy 2, 24, .inr (.inl (fky)))), (h0, .inr (4, [.ref h1, .ref h2, .ref h3, .ref h4, .ref h5, .ref h6, .ref h7, .ref h8, .ref h9, .ref h10, .ref h11, hv0, .int hon, hv2, hv3, hv4])), (h1, .inl (cy 1, 4, .inl (fc))), (d1, .inl (cy 5, 4, .inr (.inr (.inr (.inr (eF d2 d3 d4 d5)))))), (d2, .inl (cy 2, 8, .inr (.inl (fd0)))), (d0, .inr (10, [.ref t0, .ref d1, .ref h0, yf, .int uh, .int wt, .int dt, .int vv, .int fq2_83, .int pq2_84])), (t0, .inr (9, [.ref t1, .ref t2, .int (nI tn), .int (nI ta2_16), .int (nI ts2_17), .int (nI tk2_18), .long tm2_19, .int tr2_20]))] := hD
          refine W.widen (k := 0) (n := 0) (Nat.le_of_ble_eq_true rfl) (Nat.le_of_ble_eq_true rfl) ?_
          have hw82 : zr82 = 0 := hw82
          subst hw82
          exact x_zret hQ hx hb hr hlocks hK hP hD hS rfl dX10_tellOn_83 (ta2_16, ts2_17, tk2_18, tm2_19, tr2_20, fq2_83, pq2_84, hon, fx) (⟨(Or.inl rfl), (show ta2_16 ≤ tn from by omega), (show tk2_18 ≤ 255 from by omega), f_23, hnx⟩) [8, 9, 2, 3, 4, 5, 0, 6, 7, 1] (by decide) rfl (Nat.le_of_ble_eq_true rfl) (Nat.le_of_ble_eq_true rfl)
      · refine lv_iconst (v := 0) hx hb dX10_tellOn_56 (by decide) ?_
        exact x_zret hQ hx hb hr hlocks hK hP hD hS rfl dX10_tellOn_57 (ta2_16, ts2_17, tk2_18, tm2_19, tr2_20, fq2_25, pq2_26, hon, fx) (⟨(Or.inl rfl), (show ta2_16 ≤ tn from by omega), (show tk2_18 ≤ 255 from by omega), f_23, hnx⟩) [4, 5, 2, 3, 6, 7, 0, 8, 9, 1] (by decide) rfl (Nat.le_of_ble_eq_true rfl) (Nat.le_of_ble_eq_true rfl)
    · refine lv_iconst (v := 0) hx hb dX10_tellOn_36 (by decide) ?_
      exact x_zret hQ hx hb hr hlocks hK hP hD hS rfl dX10_tellOn_37 (ta2_2, ts2_3, tk2_4, tm2_5, tr2_6, fq2_11, pq2_12, hon, fx) (⟨(Or.inl rfl), (show ta2_2 ≤ tn from by omega), (show tk2_4 ≤ 255 from by omega), f_9, hnx⟩) [4, 5, 2, 3, 6, 7, 0, 8, 1, 9] (by decide) rfl (Nat.le_of_ble_eq_true rfl) (Nat.le_of_ble_eq_true rfl)
  · refine lv_aload_n hx hb dX10_tellOn_12 rfl (lv_at hl 0 rfl) ?_
    refine lv_iconst (v := 2) hx hb dX10_tellOn_13 (by decide) ?_
    refine x_callVi (q := (RX10, TX10, 10)) (ci := 10) (q0 := 0) (wr := [(t1, .inl (cy 0, 1600, .inl (fby))), (t2, .inl (cy 2, 24, .inr (.inl (fky)))), (h0, .inr (4, [.ref h1, .ref h2, .ref h3, .ref h4, .ref h5, .ref h6, .ref h7, .ref h8, .ref h9, .ref h10, .ref h11, hv0, .int hon, hv2, hv3, hv4])), (h1, .inl (cy 1, 4, .inl (fc))), (h7, .inl (cy 1, 48, .inl (fx))), (d1, .inl (cy 5, 4, .inr (.inr (.inr (.inr (eF d2 d3 d4 d5)))))), (d2, .inl (cy 2, 8, .inr (.inl (fd0)))), (d5, .inl (cy 2, 8, .inr (.inl (fd3))))]) (rest := []) ⟨hx, hb, hml, hown, hg, hl.1⟩ k_X10_110 (s_fail l D cy d0 d1 uh wt dt vv fq pq ((.ref h0)) yf t0 t1 t2 tn ta ts tk tm tr 2 (by omega)) E0_blind hK hP hD hS hA [0, 1] [2, 3, 4, 5, 6, 7, 8, 9] ⟨rfl, rfl, by decide, by decide, by decide⟩ rfl rfl (fun _ _ _ => trivial) dX10_tellOn_14 rfl rfl (Nat.le_of_ble_eq_true rfl) ⟨Nat.le_of_ble_eq_true rfl, Nat.le_of_ble_eq_true rfl⟩ ⟨Nat.le_of_ble_eq_true rfl, Nat.le_of_ble_eq_true rfl⟩ (fun zr85 zu85 H locs hw85 hP hD hS => ?_)
    obtain ⟨fq2_86, pq2_87⟩ := zu85
    have hP : va_P D vwCl [(t1, .inl (cy 0, 1600, .inl (fby))), (t2, .inl (cy 2, 24, .inr (.inl (fky)))), (h0, .inr (4, [.ref h1, .ref h2, .ref h3, .ref h4, .ref h5, .ref h6, .ref h7, .ref h8, .ref h9, .ref h10, .ref h11, hv0, .int hon, hv2, hv3, hv4])), (h1, .inl (cy 1, 4, .inl (fc))), (h7, .inl (cy 1, 48, .inl (fx))), (d1, .inl (cy 5, 4, .inr (.inr (.inr (.inr (eF d2 d3 d4 d5)))))), (d2, .inl (cy 2, 8, .inr (.inl (fd0)))), (d5, .inl (cy 2, 8, .inr (.inl (fd3)))), (d0, .inr (10, [.ref t0, .ref d1, .ref h0, yf, .int uh, .int wt, .int dt, .int vv, .int fq2_86, .int pq2_87])), (t0, .inr (9, [.ref t1, .ref t2, .int (nI tn), .int (nI ta), .int (nI ts), .int (nI tk), .long tm, .int tr]))] H := hP
    have hD : va_D A [(t1, .inl (cy 0, 1600, .inl (fby))), (t2, .inl (cy 2, 24, .inr (.inl (fky)))), (h0, .inr (4, [.ref h1, .ref h2, .ref h3, .ref h4, .ref h5, .ref h6, .ref h7, .ref h8, .ref h9, .ref h10, .ref h11, hv0, .int hon, hv2, hv3, hv4])), (h1, .inl (cy 1, 4, .inl (fc))), (h7, .inl (cy 1, 48, .inl (fx))), (d1, .inl (cy 5, 4, .inr (.inr (.inr (.inr (eF d2 d3 d4 d5)))))), (d2, .inl (cy 2, 8, .inr (.inl (fd0)))), (d5, .inl (cy 2, 8, .inr (.inl (fd3)))), (d0, .inr (10, [.ref t0, .ref d1, .ref h0, yf, .int uh, .int wt, .int dt, .int vv, .int fq2_86, .int pq2_87])), (t0, .inr (9, [.ref t1, .ref t2, .int (nI tn), .int (nI ta), .int (nI ts), .int (nI tk), .long tm, .int tr]))] := hD
    refine W.widen (k := 0) (n := 0) (Nat.le_of_ble_eq_true rfl) (Nat.le_of_ble_eq_true rfl) ?_
    have hw85 : zr85 = 0 := hw85
    subst hw85
    exact x_zret hQ hx hb hr hlocks hK hP hD hS rfl dX10_tellOn_17 (ta, ts, tk, tm, tr, fq2_86, pq2_87, hon, fx) (⟨(Or.inl rfl), (show ta ≤ tn from by omega), (show tk ≤ 255 from by omega), hnu, hnx⟩) [8, 9, 0, 1, 2, 3, 4, 5, 6, 7] (by decide) rfl (Nat.le_of_ble_eq_true rfl) (Nat.le_of_ble_eq_true rfl)
theorem dX10_tellWind_0 : decode cX10_tellWind 0 = .ok (.aload_n 0, 1) := by decide +kernel
theorem dX10_tellWind_1 : decode cX10_tellWind 1 = .ok (.getfield 40, 3) := by decide +kernel
set_option maxRecDepth 100000 in
theorem m_260 : (Cond.fieldLink RX10 40 "CliffJudges$Teller" "windTold" "Z") ∈ gT := gm 260 rfl rfl
theorem dX10_tellWind_4 : decode cX10_tellWind 4 = .ok (.ifCond .eq 9, 3) := by decide +kernel
theorem dX10_tellWind_13 : decode cX10_tellWind 13 = .ok (.aload_n 0, 1) := by decide +kernel
theorem dX10_tellWind_14 : decode cX10_tellWind 14 = .ok (.iconst 1, 1) := by decide +kernel
theorem dX10_tellWind_15 : decode cX10_tellWind 15 = .ok (.putfield 40, 3) := by decide +kernel
theorem dX10_tellWind_18 : decode cX10_tellWind 18 = .ok (.aload_n 0, 1) := by decide +kernel
theorem dX10_tellWind_19 : decode cX10_tellWind 19 = .ok (.getfield 16, 3) := by decide +kernel
theorem dX10_tellWind_22 : decode cX10_tellWind 22 = .ok (.invokevirtual 140, 3) := by decide +kernel
theorem dX10_tellWind_25 : decode cX10_tellWind 25 = .ok (.aload_n 0, 1) := by decide +kernel
theorem dX10_tellWind_26 : decode cX10_tellWind 26 = .ok (.bipush 9, 2) := by decide +kernel
theorem dX10_tellWind_28 : decode cX10_tellWind 28 = .ok (.invokevirtual 131, 3) := by decide +kernel
theorem dX10_tellWind_31 : decode cX10_tellWind 31 = .ok (.ifCond .ne 5, 3) := by decide +kernel
theorem dX10_tellWind_36 : decode cX10_tellWind 36 = .ok (.aload_n 0, 1) := by decide +kernel
theorem dX10_tellWind_37 : decode cX10_tellWind 37 = .ok (.getfield 24, 3) := by decide +kernel
theorem dX10_tellWind_40 : decode cX10_tellWind 40 = .ok (.aload_n 0, 1) := by decide +kernel
theorem dX10_tellWind_41 : decode cX10_tellWind 41 = .ok (.getfield 134, 3) := by decide +kernel
theorem dX10_tellWind_44 : decode cX10_tellWind 44 = .ok (.putfield 152, 3) := by decide +kernel
set_option maxRecDepth 100000 in
theorem m_377 : (Cond.fieldLink RX10 152 "CliffJudges$Hills" "wind" "I") ∈ gT := gm 377 rfl rfl
theorem dX10_tellWind_47 : decode cX10_tellWind 47 = .ok (.aload_n 0, 1) := by decide +kernel
theorem dX10_tellWind_48 : decode cX10_tellWind 48 = .ok (.bipush 59, 2) := by decide +kernel
theorem dX10_tellWind_50 : decode cX10_tellWind 50 = .ok (.invokevirtual 128, 3) := by decide +kernel
theorem dX10_tellWind_53 : decode cX10_tellWind 53 = .ok (.ireturn, 1) := by decide +kernel
theorem dX10_tellWind_34 : decode cX10_tellWind 34 = .ok (.iconst 0, 1) := by decide +kernel
theorem dX10_tellWind_35 : decode cX10_tellWind 35 = .ok (.ireturn, 1) := by decide +kernel
theorem dX10_tellWind_7 : decode cX10_tellWind 7 = .ok (.aload_n 0, 1) := by decide +kernel
theorem dX10_tellWind_8 : decode cX10_tellWind 8 = .ok (.iconst 2, 1) := by decide +kernel
theorem dX10_tellWind_9 : decode cX10_tellWind 9 = .ok (.invokevirtual 110, 3) := by decide +kernel
theorem dX10_tellWind_12 : decode cX10_tellWind 12 = .ok (.ireturn, 1) := by decide +kernel
set_option maxHeartbeats 1000000 in
set_option maxRecDepth 100000 in
theorem s_tellWind (l : Launch) (D : va_G) (cy : Nat → ClassId) (adK : Nat → Nat) (adV : Nat → Nat) (d0 : Nat) (d1 : Nat) (uh : Int32) (wt : Int32) (dt : Int32) (vv : Int32) (fq : Int32) (pq : Int32) (yf : Value) (t0 : Nat) (t1 : Nat) (t2 : Nat) (tn : Nat) (ta : Nat) (ts : Nat) (tk : Nat) (tm : Int64) (tr : Int32) (fby : Nat → Int32) (fky : Nat → Int64) (h0 : Nat) (h1 : Nat) (h2 : Nat) (h3 : Nat) (h4 : Nat) (h5 : Nat) (h6 : Nat) (h7 : Nat) (h8 : Nat) (h9 : Nat) (h10 : Nat) (h11 : Nat) (hv0 : Value) (hv1 : Value) (hv3 : Value) (hv4 : Value) (hwi : Int32) (htn : tn ≤ 1600) (hta : ta ≤ tn) (htk : tk ≤ 255) (hnu : nuOK tk tr) : XMi l D (tyL cy) (EV adK adV) yX10_tellWind cX10_tellWind 1 (some .boolean) (rmk 8 0 0) [.ref d0] [(d0, .inr (10, [.ref t0, .ref d1, .ref h0, yf, .int uh, .int wt, .int dt, .int vv, .int fq, .int pq])), (t0, .inr (9, [.ref t1, .ref t2, .int (nI tn), .int (nI ta), .int (nI ts), .int (nI tk), .long tm, .int tr])), (t1, .inl (cy 0, 1600, .inl (fby))), (t2, .inl (cy 2, 24, .inr (.inl (fky)))), (h0, .inr (4, [.ref h1, .ref h2, .ref h3, .ref h4, .ref h5, .ref h6, .ref h7, .ref h8, .ref h9, .ref h10, .ref h11, hv0, hv1, .int hwi, hv3, hv4]))] (fun (r : Int32) (u : Nat × Nat × Nat × Int64 × Int32 × Int32 × Int32 × Int32 × Int32 × Int32) => (r = 0 ∨ r = 1) ∧ (u.1 ≤ tn) ∧ (u.2.2.1 ≤ 255) ∧ (nuOK u.2.2.1 u.2.2.2.2.1)) (fun (u : Nat × Nat × Nat × Int64 × Int32 × Int32 × Int32 × Int32 × Int32 × Int32) => [(d0, .inr (10, [.ref t0, .ref d1, .ref h0, yf, .int uh, .int u.2.2.2.2.2.2.2.2.1, .int dt, .int u.2.2.2.2.2.2.2.1, .int u.2.2.2.2.2.1, .int u.2.2.2.2.2.2.1])), (t0, .inr (9, [.ref t1, .ref t2, .int (nI tn), .int (nI u.1), .int (nI u.2.1), .int (nI u.2.2.1), .long u.2.2.2.1, .int u.2.2.2.2.1])), (t1, .inl (cy 0, 1600, .inl (fby))), (t2, .inl (cy 2, 24, .inr (.inl (fky)))), (h0, .inr (4, [.ref h1, .ref h2, .ref h3, .ref h4, .ref h5, .ref h6, .ref h7, .ref h8, .ref h9, .ref h10, .ref h11, hv0, hv1, .int u.2.2.2.2.2.2.2.2.2, hv3, hv4]))]) := by
  refine XMi.start (by decide) (Nat.le_of_ble_eq_true rfl) ?_
  intro p e s m below meth c args A ls Q hat hQ
  obtain ⟨hx, hb, hr, hml, hown, hg, hlocks, hin, hK, hA, hP, hD, hS, hE, hl⟩ := hat
  have hown : s.vm.findClass RX10 = some m.cls := hown
  have hl : lv_has ls 1 [(0, .ref d0)] := hl
  refine lv_aload_n hx hb dX10_tellWind_0 rfl (lv_at hl 0 rfl) ?_
  refine va_get (D := D) (ci := 10) (v := .int wt) (C := RX10) (T := TX10) (N := 10) hx hb hg i_X10 hown hK hP 0 rfl rfl 5 (by decide) (hg _ m_260) (fun _ h9 => h9) rfl dX10_tellWind_1 ?_
  refine lv_if_eq (tgt := 13) hx hb dX10_tellWind_4 (by decide) (fun c_4 => ?_) (fun c_4 => ?_)
  · refine lv_aload_n hx hb dX10_tellWind_13 rfl (lv_at hl 0 rfl) ?_
    refine lv_iconst (v := 1) hx hb dX10_tellWind_14 (by decide) ?_
    refine va_put (D := D) (ci := 10) (v := .int 1) (ty := .boolean) (C := RX10) (T := TX10) (N := 10) hx hb hg i_X10 tyX10 tyX10_ok nmX10 hown hK hP hD hS 0 rfl rfl 5 (by decide) (hg _ m_260) (fun _ h9 => h9) rfl (by decide +kernel) rfl rfl (Nat.le_of_ble_eq_true rfl) dX10_tellWind_15 (fun H locs hP hD hS => ?_)
    have hP : va_P D vwCl [(d0, .inr (10, [.ref t0, .ref d1, .ref h0, yf, .int uh, .int 1, .int dt, .int vv, .int fq, .int pq])), (t0, .inr (9, [.ref t1, .ref t2, .int (nI tn), .int (nI ta), .int (nI ts), .int (nI tk), .long tm, .int tr])), (t1, .inl (cy 0, 1600, .inl (fby))), (t2, .inl (cy 2, 24, .inr (.inl (fky)))), (h0, .inr (4, [.ref h1, .ref h2, .ref h3, .ref h4, .ref h5, .ref h6, .ref h7, .ref h8, .ref h9, .ref h10, .ref h11, hv0, hv1, .int hwi, hv3, hv4]))] H := hP
    have hD : va_D A [(d0, .inr (10, [.ref t0, .ref d1, .ref h0, yf, .int uh, .int 1, .int dt, .int vv, .int fq, .int pq])), (t0, .inr (9, [.ref t1, .ref t2, .int (nI tn), .int (nI ta), .int (nI ts), .int (nI tk), .long tm, .int tr])), (t1, .inl (cy 0, 1600, .inl (fby))), (t2, .inl (cy 2, 24, .inr (.inl (fky)))), (h0, .inr (4, [.ref h1, .ref h2, .ref h3, .ref h4, .ref h5, .ref h6, .ref h7, .ref h8, .ref h9, .ref h10, .ref h11, hv0, hv1, .int hwi, hv3, hv4]))] := hD
    refine lv_aload_n hx hb dX10_tellWind_18 rfl (lv_at hl 0 rfl) ?_
    refine va_get (D := D) (ci := 10) (v := .ref t0) (C := RX10) (T := TX10) (N := 10) hx hb hg i_X10 hown hK hP 0 rfl rfl 0 (by decide) (hg _ m_255) (fun _ h9 => h9) rfl dX10_tellWind_19 ?_
    refine x_callVv (q := (RX9, TX9, 8)) (ci := 9) (q0 := 0) (wr := [(d0, .inr (10, [.ref t0, .ref d1, .ref h0, yf, .int uh, .int 1, .int dt, .int vv, .int fq, .int pq])), (h0, .inr (4, [.ref h1, .ref h2, .ref h3, .ref h4, .ref h5, .ref h6, .ref h7, .ref h8, .ref h9, .ref h10, .ref h11, hv0, hv1, .int hwi, hv3, hv4]))]) (rest := []) ⟨hx, hb, hml, hown, hg, hl.1⟩ k_X10_140 (s_next l D cy adK adV t0 t1 t2 tn ta ts tk tm tr fby fky (by omega) (by omega)) EV_blind hK hP hD hS hA [1, 2, 3] [0, 4] ⟨rfl, rfl, by decide, by decide, by decide⟩ rfl rfl (fun U hU hW => EV_pass hE hS (va_free hD hS hA [1, 2, 3] rfl) hU hW) dX10_tellWind_22 rfl rfl (Nat.le_of_ble_eq_true rfl) ⟨Nat.le_of_ble_eq_true rfl, Nat.le_of_ble_eq_true rfl⟩ ⟨Nat.le_of_ble_eq_true rfl, Nat.le_of_ble_eq_true rfl⟩ (fun zu1 H locs hw1 hP hD hS => ?_)
    obtain ⟨ta2_2, ts2_3, tk2_4, tm2_5, tr2_6⟩ := zu1
    have hP : va_P D vwCl [(d0, .inr (10, [.ref t0, .ref d1, .ref h0, yf, .int uh, .int 1, .int dt, .int vv, .int fq, .int pq])), (h0, .inr (4, [.ref h1, .ref h2, .ref h3, .ref h4, .ref h5, .ref h6, .ref h7, .ref h8, .ref h9, .ref h10, .ref h11, hv0, hv1, .int hwi, hv3, hv4])), (t0, .inr (9, [.ref t1, .ref t2, .int (nI tn), .int (nI ta2_2), .int (nI ts2_3), .int (nI tk2_4), .long tm2_5, .int tr2_6])), (t1, .inl (cy 0, 1600, .inl (fby))), (t2, .inl (cy 2, 24, .inr (.inl (fky))))] H := hP
    have hD : va_D A [(d0, .inr (10, [.ref t0, .ref d1, .ref h0, yf, .int uh, .int 1, .int dt, .int vv, .int fq, .int pq])), (h0, .inr (4, [.ref h1, .ref h2, .ref h3, .ref h4, .ref h5, .ref h6, .ref h7, .ref h8, .ref h9, .ref h10, .ref h11, hv0, hv1, .int hwi, hv3, hv4])), (t0, .inr (9, [.ref t1, .ref t2, .int (nI tn), .int (nI ta2_2), .int (nI ts2_3), .int (nI tk2_4), .long tm2_5, .int tr2_6])), (t1, .inl (cy 0, 1600, .inl (fby))), (t2, .inl (cy 2, 24, .inr (.inl (fky))))] := hD
    refine W.widen (k := 0) (n := 0) (Nat.le_of_ble_eq_true rfl) (Nat.le_of_ble_eq_true rfl) ?_
    have hw1 : (ta2_2 ≤ tn) ∧ (tk2_4 ≤ 255) ∧ (nuOK tk2_4 tr2_6) := hw1
    obtain ⟨f_7, f_8, f_9⟩ := hw1
    refine lv_aload_n hx hb dX10_tellWind_25 rfl (lv_at hl 0 rfl) ?_
    refine lv_bipush (v := 9) hx hb dX10_tellWind_26 (by decide) ?_
    refine x_callVi (q := (RX10, TX10, 10)) (ci := 10) (q0 := 0) (wr := [(h0, .inr (4, [.ref h1, .ref h2, .ref h3, .ref h4, .ref h5, .ref h6, .ref h7, .ref h8, .ref h9, .ref h10, .ref h11, hv0, hv1, .int hwi, hv3, hv4]))]) (rest := []) ⟨hx, hb, hml, hown, hg, hl.1⟩ k_X10_131 (s_takeNumber l D cy adK adV d0 d1 uh 1 dt vv fq pq ((.ref h0)) yf t0 t1 t2 tn ta2_2 ts2_3 tk2_4 tm2_5 tr2_6 fby fky 9 (by omega) (by omega) (by omega) (f_9)) EV_blind hK hP hD hS hA [0, 2, 3, 4] [1] ⟨rfl, rfl, by decide, by decide, by decide⟩ rfl rfl (fun U hU hW => EV_pass hE hS (va_free hD hS hA [0, 2, 3, 4] rfl) hU hW) dX10_tellWind_28 rfl rfl (Nat.le_of_ble_eq_true rfl) ⟨Nat.le_of_ble_eq_true rfl, Nat.le_of_ble_eq_true rfl⟩ ⟨Nat.le_of_ble_eq_true rfl, Nat.le_of_ble_eq_true rfl⟩ (fun zr10 zu10 H locs hw10 hP hD hS => ?_)
    obtain ⟨ta2_11, ts2_12, tk2_13, tm2_14, tr2_15, fq2_16, pq2_17, vv2_18⟩ := zu10
    have hP : va_P D vwCl [(h0, .inr (4, [.ref h1, .ref h2, .ref h3, .ref h4, .ref h5, .ref h6, .ref h7, .ref h8, .ref h9, .ref h10, .ref h11, hv0, hv1, .int hwi, hv3, hv4])), (d0, .inr (10, [.ref t0, .ref d1, .ref h0, yf, .int uh, .int 1, .int dt, .int vv2_18, .int fq2_16, .int pq2_17])), (t0, .inr (9, [.ref t1, .ref t2, .int (nI tn), .int (nI ta2_11), .int (nI ts2_12), .int (nI tk2_13), .long tm2_14, .int tr2_15])), (t1, .inl (cy 0, 1600, .inl (fby))), (t2, .inl (cy 2, 24, .inr (.inl (fky))))] H := hP
    have hD : va_D A [(h0, .inr (4, [.ref h1, .ref h2, .ref h3, .ref h4, .ref h5, .ref h6, .ref h7, .ref h8, .ref h9, .ref h10, .ref h11, hv0, hv1, .int hwi, hv3, hv4])), (d0, .inr (10, [.ref t0, .ref d1, .ref h0, yf, .int uh, .int 1, .int dt, .int vv2_18, .int fq2_16, .int pq2_17])), (t0, .inr (9, [.ref t1, .ref t2, .int (nI tn), .int (nI ta2_11), .int (nI ts2_12), .int (nI tk2_13), .long tm2_14, .int tr2_15])), (t1, .inl (cy 0, 1600, .inl (fby))), (t2, .inl (cy 2, 24, .inr (.inl (fky))))] := hD
    refine W.widen (k := 0) (n := 0) (Nat.le_of_ble_eq_true rfl) (Nat.le_of_ble_eq_true rfl) ?_
    have hw10 : (zr10 = 0 ∨ zr10 = 1) ∧ (ta2_11 ≤ tn) ∧ (tk2_13 ≤ 255) ∧ (nuOK tk2_13 tr2_15) := hw10
    obtain ⟨f_19, f_20, f_21, f_22⟩ := hw10
    refine lv_if_ne (tgt := 36) hx hb dX10_tellWind_31 (by decide) (fun c_31 => ?_) (fun c_31 => ?_)
    · refine lv_aload_n hx hb dX10_tellWind_36 rfl (lv_at hl 0 rfl) ?_
      refine va_get (D := D) (ci := 10) (v := .ref h0) (C := RX10) (T := TX10) (N := 10) hx hb hg i_X10 hown hK hP 1 rfl rfl 2 (by decide) (hg _ m_257) (fun _ h9 => h9) rfl dX10_tellWind_37 ?_
      refine lv_aload_n hx hb dX10_tellWind_40 rfl (lv_at hl 0 rfl) ?_
      refine va_get (D := D) (ci := 10) (v := .int vv2_18) (C := RX10) (T := TX10) (N := 10) hx hb hg i_X10 hown hK hP 1 rfl rfl 7 (by decide) (hg _ m_262) (fun _ h9 => h9) rfl dX10_tellWind_41 ?_
      refine va_put (D := D) (ci := 4) (v := .int vv2_18) (ty := .int) (C := RX4) (T := TX4) (N := 16) hx hb hg i_X4 tyX4 tyX4_ok nmX4 hown hK hP hD hS 0 rfl rfl 13 (by decide) (hg _ m_377) (fun _ h9 => h9) rfl (by decide +kernel) rfl rfl (Nat.le_of_ble_eq_true rfl) dX10_tellWind_44 (fun H locs hP hD hS => ?_)
      have hP : va_P D vwCl [(h0, .inr (4, [.ref h1, .ref h2, .ref h3, .ref h4, .ref h5, .ref h6, .ref h7, .ref h8, .ref h9, .ref h10, .ref h11, hv0, hv1, .int vv2_18, hv3, hv4])), (d0, .inr (10, [.ref t0, .ref d1, .ref h0, yf, .int uh, .int 1, .int dt, .int vv2_18, .int fq2_16, .int pq2_17])), (t0, .inr (9, [.ref t1, .ref t2, .int (nI tn), .int (nI ta2_11), .int (nI ts2_12), .int (nI tk2_13), .long tm2_14, .int tr2_15])), (t1, .inl (cy 0, 1600, .inl (fby))), (t2, .inl (cy 2, 24, .inr (.inl (fky))))] H := hP
      have hD : va_D A [(h0, .inr (4, [.ref h1, .ref h2, .ref h3, .ref h4, .ref h5, .ref h6, .ref h7, .ref h8, .ref h9, .ref h10, .ref h11, hv0, hv1, .int vv2_18, hv3, hv4])), (d0, .inr (10, [.ref t0, .ref d1, .ref h0, yf, .int uh, .int 1, .int dt, .int vv2_18, .int fq2_16, .int pq2_17])), (t0, .inr (9, [.ref t1, .ref t2, .int (nI tn), .int (nI ta2_11), .int (nI ts2_12), .int (nI tk2_13), .long tm2_14, .int tr2_15])), (t1, .inl (cy 0, 1600, .inl (fby))), (t2, .inl (cy 2, 24, .inr (.inl (fky))))] := hD
      refine lv_aload_n hx hb dX10_tellWind_47 rfl (lv_at hl 0 rfl) ?_
      refine lv_bipush (v := 59) hx hb dX10_tellWind_48 (by decide) ?_
      refine x_callVi (q := (RX10, TX10, 10)) (ci := 10) (q0 := 0) (wr := [(h0, .inr (4, [.ref h1, .ref h2, .ref h3, .ref h4, .ref h5, .ref h6, .ref h7, .ref h8, .ref h9, .ref h10, .ref h11, hv0, hv1, .int vv2_18, hv3, hv4]))]) (rest := []) ⟨hx, hb, hml, hown, hg, hl.1⟩ k_X10_128 (s_take l D cy adK adV d0 d1 uh 1 dt vv2_18 fq2_16 pq2_17 ((.ref h0)) yf t0 t1 t2 tn ta2_11 ts2_12 tk2_13 tm2_14 tr2_15 fby fky 59 (by omega) (by omega) (by omega) (f_22) (by omega)) EV_blind hK hP hD hS hA [1, 2, 3, 4] [0] ⟨rfl, rfl, by decide, by decide, by decide⟩ rfl rfl (fun U hU hW => EV_pass hE hS (va_free hD hS hA [1, 2, 3, 4] rfl) hU hW) dX10_tellWind_50 rfl rfl (Nat.le_of_ble_eq_true rfl) ⟨Nat.le_of_ble_eq_true rfl, Nat.le_of_ble_eq_true rfl⟩ ⟨Nat.le_of_ble_eq_true rfl, Nat.le_of_ble_eq_true rfl⟩ (fun zr23 zu23 H locs hw23 hP hD hS => ?_)
      obtain ⟨ta2_24, ts2_25, tk2_26, tm2_27, tr2_28, fq2_29, pq2_30⟩ := zu23
      have hP : va_P D vwCl [(h0, .inr (4, [.ref h1, .ref h2, .ref h3, .ref h4, .ref h5, .ref h6, .ref h7, .ref h8, .ref h9, .ref h10, .ref h11, hv0, hv1, .int vv2_18, hv3, hv4])), (d0, .inr (10, [.ref t0, .ref d1, .ref h0, yf, .int uh, .int 1, .int dt, .int vv2_18, .int fq2_29, .int pq2_30])), (t0, .inr (9, [.ref t1, .ref t2, .int (nI tn), .int (nI ta2_24), .int (nI ts2_25), .int (nI tk2_26), .long tm2_27, .int tr2_28])), (t1, .inl (cy 0, 1600, .inl (fby))), (t2, .inl (cy 2, 24, .inr (.inl (fky))))] H := hP
      have hD : va_D A [(h0, .inr (4, [.ref h1, .ref h2, .ref h3, .ref h4, .ref h5, .ref h6, .ref h7, .ref h8, .ref h9, .ref h10, .ref h11, hv0, hv1, .int vv2_18, hv3, hv4])), (d0, .inr (10, [.ref t0, .ref d1, .ref h0, yf, .int uh, .int 1, .int dt, .int vv2_18, .int fq2_29, .int pq2_30])), (t0, .inr (9, [.ref t1, .ref t2, .int (nI tn), .int (nI ta2_24), .int (nI ts2_25), .int (nI tk2_26), .long tm2_27, .int tr2_28])), (t1, .inl (cy 0, 1600, .inl (fby))), (t2, .inl (cy 2, 24, .inr (.inl (fky))))] := hD
      refine W.widen (k := 0) (n := 0) (Nat.le_of_ble_eq_true rfl) (Nat.le_of_ble_eq_true rfl) ?_
      have hw23 : (zr23 = 0 ∨ zr23 = 1) ∧ (ta2_24 ≤ tn) ∧ (tk2_26 ≤ 255) ∧ (nuOK tk2_26 tr2_28) := hw23
      obtain ⟨f_31, f_32, f_33, f_34⟩ := hw23
      exact x_zret hQ hx hb hr hlocks hK hP hD hS (narB f_31) dX10_tellWind_53 (ta2_24, ts2_25, tk2_26, tm2_27, tr2_28, fq2_29, pq2_30, vv2_18, 1, vv2_18) (⟨f_31, (show ta2_24 ≤ tn from by omega), (show tk2_26 ≤ 255 from by omega), f_34⟩) [1, 2, 3, 4, 0] (by decide) rfl (Nat.le_of_ble_eq_true rfl) (Nat.le_of_ble_eq_true rfl)
    · refine lv_iconst (v := 0) hx hb dX10_tellWind_34 (by decide) ?_
      exact x_zret hQ hx hb hr hlocks hK hP hD hS rfl dX10_tellWind_35 (ta2_11, ts2_12, tk2_13, tm2_14, tr2_15, fq2_16, pq2_17, vv2_18, 1, hwi) (⟨(Or.inl rfl), (show ta2_11 ≤ tn from by omega), (show tk2_13 ≤ 255 from by omega), f_22⟩) [1, 2, 3, 4, 0] (by decide) rfl (Nat.le_of_ble_eq_true rfl) (Nat.le_of_ble_eq_true rfl)
  · refine lv_aload_n hx hb dX10_tellWind_7 rfl (lv_at hl 0 rfl) ?_
    refine lv_iconst (v := 2) hx hb dX10_tellWind_8 (by decide) ?_
    refine x_callVi (q := (RX10, TX10, 10)) (ci := 10) (q0 := 0) (wr := [(t1, .inl (cy 0, 1600, .inl (fby))), (t2, .inl (cy 2, 24, .inr (.inl (fky)))), (h0, .inr (4, [.ref h1, .ref h2, .ref h3, .ref h4, .ref h5, .ref h6, .ref h7, .ref h8, .ref h9, .ref h10, .ref h11, hv0, hv1, .int hwi, hv3, hv4]))]) (rest := []) ⟨hx, hb, hml, hown, hg, hl.1⟩ k_X10_110 (s_fail l D cy d0 d1 uh wt dt vv fq pq ((.ref h0)) yf t0 t1 t2 tn ta ts tk tm tr 2 (by omega)) E0_blind hK hP hD hS hA [0, 1] [2, 3, 4] ⟨rfl, rfl, by decide, by decide, by decide⟩ rfl rfl (fun _ _ _ => trivial) dX10_tellWind_9 rfl rfl (Nat.le_of_ble_eq_true rfl) ⟨Nat.le_of_ble_eq_true rfl, Nat.le_of_ble_eq_true rfl⟩ ⟨Nat.le_of_ble_eq_true rfl, Nat.le_of_ble_eq_true rfl⟩ (fun zr35 zu35 H locs hw35 hP hD hS => ?_)
    obtain ⟨fq2_36, pq2_37⟩ := zu35
    have hP : va_P D vwCl [(t1, .inl (cy 0, 1600, .inl (fby))), (t2, .inl (cy 2, 24, .inr (.inl (fky)))), (h0, .inr (4, [.ref h1, .ref h2, .ref h3, .ref h4, .ref h5, .ref h6, .ref h7, .ref h8, .ref h9, .ref h10, .ref h11, hv0, hv1, .int hwi, hv3, hv4])), (d0, .inr (10, [.ref t0, .ref d1, .ref h0, yf, .int uh, .int wt, .int dt, .int vv, .int fq2_36, .int pq2_37])), (t0, .inr (9, [.ref t1, .ref t2, .int (nI tn), .int (nI ta), .int (nI ts), .int (nI tk), .long tm, .int tr]))] H := hP
    have hD : va_D A [(t1, .inl (cy 0, 1600, .inl (fby))), (t2, .inl (cy 2, 24, .inr (.inl (fky)))), (h0, .inr (4, [.ref h1, .ref h2, .ref h3, .ref h4, .ref h5, .ref h6, .ref h7, .ref h8, .ref h9, .ref h10, .ref h11, hv0, hv1, .int hwi, hv3, hv4])), (d0, .inr (10, [.ref t0, .ref d1, .ref h0, yf, .int uh, .int wt, .int dt, .int vv, .int fq2_36, .int pq2_37])), (t0, .inr (9, [.ref t1, .ref t2, .int (nI tn), .int (nI ta), .int (nI ts), .int (nI tk), .long tm, .int tr]))] := hD
    refine W.widen (k := 0) (n := 0) (Nat.le_of_ble_eq_true rfl) (Nat.le_of_ble_eq_true rfl) ?_
    have hw35 : zr35 = 0 := hw35
    subst hw35
    exact x_zret hQ hx hb hr hlocks hK hP hD hS rfl dX10_tellWind_12 (ta, ts, tk, tm, tr, fq2_36, pq2_37, vv, wt, hwi) (⟨(Or.inl rfl), (show ta ≤ tn from by omega), (show tk ≤ 255 from by omega), hnu⟩) [3, 4, 0, 1, 2] (by decide) rfl (Nat.le_of_ble_eq_true rfl) (Nat.le_of_ble_eq_true rfl)
theorem dX10_tellDraw_0 : decode cX10_tellDraw 0 = .ok (.aload_n 0, 1) := by decide +kernel
theorem dX10_tellDraw_1 : decode cX10_tellDraw 1 = .ok (.getfield 44, 3) := by decide +kernel
set_option maxRecDepth 100000 in
theorem m_261 : (Cond.fieldLink RX10 44 "CliffJudges$Teller" "drawTold" "Z") ∈ gT := gm 261 rfl rfl
theorem dX10_tellDraw_4 : decode cX10_tellDraw 4 = .ok (.ifCond .eq 9, 3) := by decide +kernel
theorem dX10_tellDraw_13 : decode cX10_tellDraw 13 = .ok (.aload_n 0, 1) := by decide +kernel
theorem dX10_tellDraw_14 : decode cX10_tellDraw 14 = .ok (.iconst 1, 1) := by decide +kernel
theorem dX10_tellDraw_15 : decode cX10_tellDraw 15 = .ok (.putfield 44, 3) := by decide +kernel
theorem dX10_tellDraw_18 : decode cX10_tellDraw 18 = .ok (.aload_n 0, 1) := by decide +kernel
theorem dX10_tellDraw_19 : decode cX10_tellDraw 19 = .ok (.getfield 16, 3) := by decide +kernel
theorem dX10_tellDraw_22 : decode cX10_tellDraw 22 = .ok (.invokevirtual 140, 3) := by decide +kernel
theorem dX10_tellDraw_25 : decode cX10_tellDraw 25 = .ok (.aload_n 0, 1) := by decide +kernel
theorem dX10_tellDraw_26 : decode cX10_tellDraw 26 = .ok (.sipush 999, 3) := by decide +kernel
theorem dX10_tellDraw_29 : decode cX10_tellDraw 29 = .ok (.invokevirtual 131, 3) := by decide +kernel
theorem dX10_tellDraw_32 : decode cX10_tellDraw 32 = .ok (.ifCond .ne 5, 3) := by decide +kernel
theorem dX10_tellDraw_37 : decode cX10_tellDraw 37 = .ok (.aload_n 0, 1) := by decide +kernel
theorem dX10_tellDraw_38 : decode cX10_tellDraw 38 = .ok (.getfield 24, 3) := by decide +kernel
theorem dX10_tellDraw_41 : decode cX10_tellDraw 41 = .ok (.aload_n 0, 1) := by decide +kernel
theorem dX10_tellDraw_42 : decode cX10_tellDraw 42 = .ok (.getfield 134, 3) := by decide +kernel
theorem dX10_tellDraw_45 : decode cX10_tellDraw 45 = .ok (.putfield 155, 3) := by decide +kernel
set_option maxRecDepth 100000 in
theorem m_380 : (Cond.fieldLink RX10 155 "CliffJudges$Hills" "draw" "I") ∈ gT := gm 380 rfl rfl
theorem dX10_tellDraw_48 : decode cX10_tellDraw 48 = .ok (.aload_n 0, 1) := by decide +kernel
theorem dX10_tellDraw_49 : decode cX10_tellDraw 49 = .ok (.bipush 59, 2) := by decide +kernel
theorem dX10_tellDraw_51 : decode cX10_tellDraw 51 = .ok (.invokevirtual 128, 3) := by decide +kernel
theorem dX10_tellDraw_54 : decode cX10_tellDraw 54 = .ok (.ireturn, 1) := by decide +kernel
theorem dX10_tellDraw_35 : decode cX10_tellDraw 35 = .ok (.iconst 0, 1) := by decide +kernel
theorem dX10_tellDraw_36 : decode cX10_tellDraw 36 = .ok (.ireturn, 1) := by decide +kernel
theorem dX10_tellDraw_7 : decode cX10_tellDraw 7 = .ok (.aload_n 0, 1) := by decide +kernel
theorem dX10_tellDraw_8 : decode cX10_tellDraw 8 = .ok (.iconst 2, 1) := by decide +kernel
theorem dX10_tellDraw_9 : decode cX10_tellDraw 9 = .ok (.invokevirtual 110, 3) := by decide +kernel
theorem dX10_tellDraw_12 : decode cX10_tellDraw 12 = .ok (.ireturn, 1) := by decide +kernel
set_option maxHeartbeats 1000000 in
set_option maxRecDepth 100000 in
theorem s_tellDraw (l : Launch) (D : va_G) (cy : Nat → ClassId) (adK : Nat → Nat) (adV : Nat → Nat) (d0 : Nat) (d1 : Nat) (uh : Int32) (wt : Int32) (dt : Int32) (vv : Int32) (fq : Int32) (pq : Int32) (yf : Value) (t0 : Nat) (t1 : Nat) (t2 : Nat) (tn : Nat) (ta : Nat) (ts : Nat) (tk : Nat) (tm : Int64) (tr : Int32) (fby : Nat → Int32) (fky : Nat → Int64) (h0 : Nat) (h1 : Nat) (h2 : Nat) (h3 : Nat) (h4 : Nat) (h5 : Nat) (h6 : Nat) (h7 : Nat) (h8 : Nat) (h9 : Nat) (h10 : Nat) (h11 : Nat) (hv0 : Value) (hv1 : Value) (hv2 : Value) (hv4 : Value) (hdr : Int32) (htn : tn ≤ 1600) (hta : ta ≤ tn) (htk : tk ≤ 255) (hnu : nuOK tk tr) : XMi l D (tyL cy) (EV adK adV) yX10_tellDraw cX10_tellDraw 1 (some .boolean) (rmk 8 0 0) [.ref d0] [(d0, .inr (10, [.ref t0, .ref d1, .ref h0, yf, .int uh, .int wt, .int dt, .int vv, .int fq, .int pq])), (t0, .inr (9, [.ref t1, .ref t2, .int (nI tn), .int (nI ta), .int (nI ts), .int (nI tk), .long tm, .int tr])), (t1, .inl (cy 0, 1600, .inl (fby))), (t2, .inl (cy 2, 24, .inr (.inl (fky)))), (h0, .inr (4, [.ref h1, .ref h2, .ref h3, .ref h4, .ref h5, .ref h6, .ref h7, .ref h8, .ref h9, .ref h10, .ref h11, hv0, hv1, hv2, .int hdr, hv4]))] (fun (r : Int32) (u : Nat × Nat × Nat × Int64 × Int32 × Int32 × Int32 × Int32 × Int32 × Int32) => (r = 0 ∨ r = 1) ∧ (u.1 ≤ tn) ∧ (u.2.2.1 ≤ 255) ∧ (nuOK u.2.2.1 u.2.2.2.2.1)) (fun (u : Nat × Nat × Nat × Int64 × Int32 × Int32 × Int32 × Int32 × Int32 × Int32) => [(d0, .inr (10, [.ref t0, .ref d1, .ref h0, yf, .int uh, .int wt, .int u.2.2.2.2.2.2.2.2.1, .int u.2.2.2.2.2.2.2.1, .int u.2.2.2.2.2.1, .int u.2.2.2.2.2.2.1])), (t0, .inr (9, [.ref t1, .ref t2, .int (nI tn), .int (nI u.1), .int (nI u.2.1), .int (nI u.2.2.1), .long u.2.2.2.1, .int u.2.2.2.2.1])), (t1, .inl (cy 0, 1600, .inl (fby))), (t2, .inl (cy 2, 24, .inr (.inl (fky)))), (h0, .inr (4, [.ref h1, .ref h2, .ref h3, .ref h4, .ref h5, .ref h6, .ref h7, .ref h8, .ref h9, .ref h10, .ref h11, hv0, hv1, hv2, .int u.2.2.2.2.2.2.2.2.2, hv4]))]) := by
  refine XMi.start (by decide) (Nat.le_of_ble_eq_true rfl) ?_
  intro p e s m below meth c args A ls Q hat hQ
  obtain ⟨hx, hb, hr, hml, hown, hg, hlocks, hin, hK, hA, hP, hD, hS, hE, hl⟩ := hat
  have hown : s.vm.findClass RX10 = some m.cls := hown
  have hl : lv_has ls 1 [(0, .ref d0)] := hl
  refine lv_aload_n hx hb dX10_tellDraw_0 rfl (lv_at hl 0 rfl) ?_
  refine va_get (D := D) (ci := 10) (v := .int dt) (C := RX10) (T := TX10) (N := 10) hx hb hg i_X10 hown hK hP 0 rfl rfl 6 (by decide) (hg _ m_261) (fun _ h9 => h9) rfl dX10_tellDraw_1 ?_
  refine lv_if_eq (tgt := 13) hx hb dX10_tellDraw_4 (by decide) (fun c_4 => ?_) (fun c_4 => ?_)
  · refine lv_aload_n hx hb dX10_tellDraw_13 rfl (lv_at hl 0 rfl) ?_
    refine lv_iconst (v := 1) hx hb dX10_tellDraw_14 (by decide) ?_
    refine va_put (D := D) (ci := 10) (v := .int 1) (ty := .boolean) (C := RX10) (T := TX10) (N := 10) hx hb hg i_X10 tyX10 tyX10_ok nmX10 hown hK hP hD hS 0 rfl rfl 6 (by decide) (hg _ m_261) (fun _ h9 => h9) rfl (by decide +kernel) rfl rfl (Nat.le_of_ble_eq_true rfl) dX10_tellDraw_15 (fun H locs hP hD hS => ?_)
    have hP : va_P D vwCl [(d0, .inr (10, [.ref t0, .ref d1, .ref h0, yf, .int uh, .int wt, .int 1, .int vv, .int fq, .int pq])), (t0, .inr (9, [.ref t1, .ref t2, .int (nI tn), .int (nI ta), .int (nI ts), .int (nI tk), .long tm, .int tr])), (t1, .inl (cy 0, 1600, .inl (fby))), (t2, .inl (cy 2, 24, .inr (.inl (fky)))), (h0, .inr (4, [.ref h1, .ref h2, .ref h3, .ref h4, .ref h5, .ref h6, .ref h7, .ref h8, .ref h9, .ref h10, .ref h11, hv0, hv1, hv2, .int hdr, hv4]))] H := hP
    have hD : va_D A [(d0, .inr (10, [.ref t0, .ref d1, .ref h0, yf, .int uh, .int wt, .int 1, .int vv, .int fq, .int pq])), (t0, .inr (9, [.ref t1, .ref t2, .int (nI tn), .int (nI ta), .int (nI ts), .int (nI tk), .long tm, .int tr])), (t1, .inl (cy 0, 1600, .inl (fby))), (t2, .inl (cy 2, 24, .inr (.inl (fky)))), (h0, .inr (4, [.ref h1, .ref h2, .ref h3, .ref h4, .ref h5, .ref h6, .ref h7, .ref h8, .ref h9, .ref h10, .ref h11, hv0, hv1, hv2, .int hdr, hv4]))] := hD
    refine lv_aload_n hx hb dX10_tellDraw_18 rfl (lv_at hl 0 rfl) ?_
    refine va_get (D := D) (ci := 10) (v := .ref t0) (C := RX10) (T := TX10) (N := 10) hx hb hg i_X10 hown hK hP 0 rfl rfl 0 (by decide) (hg _ m_255) (fun _ h9 => h9) rfl dX10_tellDraw_19 ?_
    refine x_callVv (q := (RX9, TX9, 8)) (ci := 9) (q0 := 0) (wr := [(d0, .inr (10, [.ref t0, .ref d1, .ref h0, yf, .int uh, .int wt, .int 1, .int vv, .int fq, .int pq])), (h0, .inr (4, [.ref h1, .ref h2, .ref h3, .ref h4, .ref h5, .ref h6, .ref h7, .ref h8, .ref h9, .ref h10, .ref h11, hv0, hv1, hv2, .int hdr, hv4]))]) (rest := []) ⟨hx, hb, hml, hown, hg, hl.1⟩ k_X10_140 (s_next l D cy adK adV t0 t1 t2 tn ta ts tk tm tr fby fky (by omega) (by omega)) EV_blind hK hP hD hS hA [1, 2, 3] [0, 4] ⟨rfl, rfl, by decide, by decide, by decide⟩ rfl rfl (fun U hU hW => EV_pass hE hS (va_free hD hS hA [1, 2, 3] rfl) hU hW) dX10_tellDraw_22 rfl rfl (Nat.le_of_ble_eq_true rfl) ⟨Nat.le_of_ble_eq_true rfl, Nat.le_of_ble_eq_true rfl⟩ ⟨Nat.le_of_ble_eq_true rfl, Nat.le_of_ble_eq_true rfl⟩ (fun zu1 H locs hw1 hP hD hS => ?_)
    obtain ⟨ta2_2, ts2_3, tk2_4, tm2_5, tr2_6⟩ := zu1
    have hP : va_P D vwCl [(d0, .inr (10, [.ref t0, .ref d1, .ref h0, yf, .int uh, .int wt, .int 1, .int vv, .int fq, .int pq])), (h0, .inr (4, [.ref h1, .ref h2, .ref h3, .ref h4, .ref h5, .ref h6, .ref h7, .ref h8, .ref h9, .ref h10, .ref h11, hv0, hv1, hv2, .int hdr, hv4])), (t0, .inr (9, [.ref t1, .ref t2, .int (nI tn), .int (nI ta2_2), .int (nI ts2_3), .int (nI tk2_4), .long tm2_5, .int tr2_6])), (t1, .inl (cy 0, 1600, .inl (fby))), (t2, .inl (cy 2, 24, .inr (.inl (fky))))] H := hP
    have hD : va_D A [(d0, .inr (10, [.ref t0, .ref d1, .ref h0, yf, .int uh, .int wt, .int 1, .int vv, .int fq, .int pq])), (h0, .inr (4, [.ref h1, .ref h2, .ref h3, .ref h4, .ref h5, .ref h6, .ref h7, .ref h8, .ref h9, .ref h10, .ref h11, hv0, hv1, hv2, .int hdr, hv4])), (t0, .inr (9, [.ref t1, .ref t2, .int (nI tn), .int (nI ta2_2), .int (nI ts2_3), .int (nI tk2_4), .long tm2_5, .int tr2_6])), (t1, .inl (cy 0, 1600, .inl (fby))), (t2, .inl (cy 2, 24, .inr (.inl (fky))))] := hD
    refine W.widen (k := 0) (n := 0) (Nat.le_of_ble_eq_true rfl) (Nat.le_of_ble_eq_true rfl) ?_
    have hw1 : (ta2_2 ≤ tn) ∧ (tk2_4 ≤ 255) ∧ (nuOK tk2_4 tr2_6) := hw1
    obtain ⟨f_7, f_8, f_9⟩ := hw1
    refine lv_aload_n hx hb dX10_tellDraw_25 rfl (lv_at hl 0 rfl) ?_
    refine lv_sipush (v := 999) hx hb dX10_tellDraw_26 (by decide) ?_
    refine x_callVi (q := (RX10, TX10, 10)) (ci := 10) (q0 := 0) (wr := [(h0, .inr (4, [.ref h1, .ref h2, .ref h3, .ref h4, .ref h5, .ref h6, .ref h7, .ref h8, .ref h9, .ref h10, .ref h11, hv0, hv1, hv2, .int hdr, hv4]))]) (rest := []) ⟨hx, hb, hml, hown, hg, hl.1⟩ k_X10_131 (s_takeNumber l D cy adK adV d0 d1 uh wt 1 vv fq pq ((.ref h0)) yf t0 t1 t2 tn ta2_2 ts2_3 tk2_4 tm2_5 tr2_6 fby fky 999 (by omega) (by omega) (by omega) (f_9)) EV_blind hK hP hD hS hA [0, 2, 3, 4] [1] ⟨rfl, rfl, by decide, by decide, by decide⟩ rfl rfl (fun U hU hW => EV_pass hE hS (va_free hD hS hA [0, 2, 3, 4] rfl) hU hW) dX10_tellDraw_29 rfl rfl (Nat.le_of_ble_eq_true rfl) ⟨Nat.le_of_ble_eq_true rfl, Nat.le_of_ble_eq_true rfl⟩ ⟨Nat.le_of_ble_eq_true rfl, Nat.le_of_ble_eq_true rfl⟩ (fun zr10 zu10 H locs hw10 hP hD hS => ?_)
    obtain ⟨ta2_11, ts2_12, tk2_13, tm2_14, tr2_15, fq2_16, pq2_17, vv2_18⟩ := zu10
    have hP : va_P D vwCl [(h0, .inr (4, [.ref h1, .ref h2, .ref h3, .ref h4, .ref h5, .ref h6, .ref h7, .ref h8, .ref h9, .ref h10, .ref h11, hv0, hv1, hv2, .int hdr, hv4])), (d0, .inr (10, [.ref t0, .ref d1, .ref h0, yf, .int uh, .int wt, .int 1, .int vv2_18, .int fq2_16, .int pq2_17])), (t0, .inr (9, [.ref t1, .ref t2, .int (nI tn), .int (nI ta2_11), .int (nI ts2_12), .int (nI tk2_13), .long tm2_14, .int tr2_15])), (t1, .inl (cy 0, 1600, .inl (fby))), (t2, .inl (cy 2, 24, .inr (.inl (fky))))] H := hP
    have hD : va_D A [(h0, .inr (4, [.ref h1, .ref h2, .ref h3, .ref h4, .ref h5, .ref h6, .ref h7, .ref h8, .ref h9, .ref h10, .ref h11, hv0, hv1, hv2, .int hdr, hv4])), (d0, .inr (10, [.ref t0, .ref d1, .ref h0, yf, .int uh, .int wt, .int 1, .int vv2_18, .int fq2_16, .int pq2_17])), (t0, .inr (9, [.ref t1, .ref t2, .int (nI tn), .int (nI ta2_11), .int (nI ts2_12), .int (nI tk2_13), .long tm2_14, .int tr2_15])), (t1, .inl (cy 0, 1600, .inl (fby))), (t2, .inl (cy 2, 24, .inr (.inl (fky))))] := hD
    refine W.widen (k := 0) (n := 0) (Nat.le_of_ble_eq_true rfl) (Nat.le_of_ble_eq_true rfl) ?_
    have hw10 : (zr10 = 0 ∨ zr10 = 1) ∧ (ta2_11 ≤ tn) ∧ (tk2_13 ≤ 255) ∧ (nuOK tk2_13 tr2_15) := hw10
    obtain ⟨f_19, f_20, f_21, f_22⟩ := hw10
    refine lv_if_ne (tgt := 37) hx hb dX10_tellDraw_32 (by decide) (fun c_32 => ?_) (fun c_32 => ?_)
    · refine lv_aload_n hx hb dX10_tellDraw_37 rfl (lv_at hl 0 rfl) ?_
      refine va_get (D := D) (ci := 10) (v := .ref h0) (C := RX10) (T := TX10) (N := 10) hx hb hg i_X10 hown hK hP 1 rfl rfl 2 (by decide) (hg _ m_257) (fun _ h9 => h9) rfl dX10_tellDraw_38 ?_
      refine lv_aload_n hx hb dX10_tellDraw_41 rfl (lv_at hl 0 rfl) ?_
      refine va_get (D := D) (ci := 10) (v := .int vv2_18) (C := RX10) (T := TX10) (N := 10) hx hb hg i_X10 hown hK hP 1 rfl rfl 7 (by decide) (hg _ m_262) (fun _ h9 => h9) rfl dX10_tellDraw_42 ?_
      refine va_put (D := D) (ci := 4) (v := .int vv2_18) (ty := .int) (C := RX4) (T := TX4) (N := 16) hx hb hg i_X4 tyX4 tyX4_ok nmX4 hown hK hP hD hS 0 rfl rfl 14 (by decide) (hg _ m_380) (fun _ h9 => h9) rfl (by decide +kernel) rfl rfl (Nat.le_of_ble_eq_true rfl) dX10_tellDraw_45 (fun H locs hP hD hS => ?_)
      have hP : va_P D vwCl [(h0, .inr (4, [.ref h1, .ref h2, .ref h3, .ref h4, .ref h5, .ref h6, .ref h7, .ref h8, .ref h9, .ref h10, .ref h11, hv0, hv1, hv2, .int vv2_18, hv4])), (d0, .inr (10, [.ref t0, .ref d1, .ref h0, yf, .int uh, .int wt, .int 1, .int vv2_18, .int fq2_16, .int pq2_17])), (t0, .inr (9, [.ref t1, .ref t2, .int (nI tn), .int (nI ta2_11), .int (nI ts2_12), .int (nI tk2_13), .long tm2_14, .int tr2_15])), (t1, .inl (cy 0, 1600, .inl (fby))), (t2, .inl (cy 2, 24, .inr (.inl (fky))))] H := hP
      have hD : va_D A [(h0, .inr (4, [.ref h1, .ref h2, .ref h3, .ref h4, .ref h5, .ref h6, .ref h7, .ref h8, .ref h9, .ref h10, .ref h11, hv0, hv1, hv2, .int vv2_18, hv4])), (d0, .inr (10, [.ref t0, .ref d1, .ref h0, yf, .int uh, .int wt, .int 1, .int vv2_18, .int fq2_16, .int pq2_17])), (t0, .inr (9, [.ref t1, .ref t2, .int (nI tn), .int (nI ta2_11), .int (nI ts2_12), .int (nI tk2_13), .long tm2_14, .int tr2_15])), (t1, .inl (cy 0, 1600, .inl (fby))), (t2, .inl (cy 2, 24, .inr (.inl (fky))))] := hD
      refine lv_aload_n hx hb dX10_tellDraw_48 rfl (lv_at hl 0 rfl) ?_
      refine lv_bipush (v := 59) hx hb dX10_tellDraw_49 (by decide) ?_
      refine x_callVi (q := (RX10, TX10, 10)) (ci := 10) (q0 := 0) (wr := [(h0, .inr (4, [.ref h1, .ref h2, .ref h3, .ref h4, .ref h5, .ref h6, .ref h7, .ref h8, .ref h9, .ref h10, .ref h11, hv0, hv1, hv2, .int vv2_18, hv4]))]) (rest := []) ⟨hx, hb, hml, hown, hg, hl.1⟩ k_X10_128 (s_take l D cy adK adV d0 d1 uh wt 1 vv2_18 fq2_16 pq2_17 ((.ref h0)) yf t0 t1 t2 tn ta2_11 ts2_12 tk2_13 tm2_14 tr2_15 fby fky 59 (by omega) (by omega) (by omega) (f_22) (by omega)) EV_blind hK hP hD hS hA [1, 2, 3, 4] [0] ⟨rfl, rfl, by decide, by decide, by decide⟩ rfl rfl (fun U hU hW => EV_pass hE hS (va_free hD hS hA [1, 2, 3, 4] rfl) hU hW) dX10_tellDraw_51 rfl rfl (Nat.le_of_ble_eq_true rfl) ⟨Nat.le_of_ble_eq_true rfl, Nat.le_of_ble_eq_true rfl⟩ ⟨Nat.le_of_ble_eq_true rfl, Nat.le_of_ble_eq_true rfl⟩ (fun zr23 zu23 H locs hw23 hP hD hS => ?_)
      obtain ⟨ta2_24, ts2_25, tk2_26, tm2_27, tr2_28, fq2_29, pq2_30⟩ := zu23
      have hP : va_P D vwCl [(h0, .inr (4, [.ref h1, .ref h2, .ref h3, .ref h4, .ref h5, .ref h6, .ref h7, .ref h8, .ref h9, .ref h10, .ref h11, hv0, hv1, hv2, .int vv2_18, hv4])), (d0, .inr (10, [.ref t0, .ref d1, .ref h0, yf, .int uh, .int wt, .int 1, .int vv2_18, .int fq2_29, .int pq2_30])), (t0, .inr (9, [.ref t1, .ref t2, .int (nI tn), .int (nI ta2_24), .int (nI ts2_25), .int (nI tk2_26), .long tm2_27, .int tr2_28])), (t1, .inl (cy 0, 1600, .inl (fby))), (t2, .inl (cy 2, 24, .inr (.inl (fky))))] H := hP
      have hD : va_D A [(h0, .inr (4, [.ref h1, .ref h2, .ref h3, .ref h4, .ref h5, .ref h6, .ref h7, .ref h8, .ref h9, .ref h10, .ref h11, hv0, hv1, hv2, .int vv2_18, hv4])), (d0, .inr (10, [.ref t0, .ref d1, .ref h0, yf, .int uh, .int wt, .int 1, .int vv2_18, .int fq2_29, .int pq2_30])), (t0, .inr (9, [.ref t1, .ref t2, .int (nI tn), .int (nI ta2_24), .int (nI ts2_25), .int (nI tk2_26), .long tm2_27, .int tr2_28])), (t1, .inl (cy 0, 1600, .inl (fby))), (t2, .inl (cy 2, 24, .inr (.inl (fky))))] := hD
      refine W.widen (k := 0) (n := 0) (Nat.le_of_ble_eq_true rfl) (Nat.le_of_ble_eq_true rfl) ?_
      have hw23 : (zr23 = 0 ∨ zr23 = 1) ∧ (ta2_24 ≤ tn) ∧ (tk2_26 ≤ 255) ∧ (nuOK tk2_26 tr2_28) := hw23
      obtain ⟨f_31, f_32, f_33, f_34⟩ := hw23
      exact x_zret hQ hx hb hr hlocks hK hP hD hS (narB f_31) dX10_tellDraw_54 (ta2_24, ts2_25, tk2_26, tm2_27, tr2_28, fq2_29, pq2_30, vv2_18, 1, vv2_18) (⟨f_31, (show ta2_24 ≤ tn from by omega), (show tk2_26 ≤ 255 from by omega), f_34⟩) [1, 2, 3, 4, 0] (by decide) rfl (Nat.le_of_ble_eq_true rfl) (Nat.le_of_ble_eq_true rfl)
    · refine lv_iconst (v := 0) hx hb dX10_tellDraw_35 (by decide) ?_
      exact x_zret hQ hx hb hr hlocks hK hP hD hS rfl dX10_tellDraw_36 (ta2_11, ts2_12, tk2_13, tm2_14, tr2_15, fq2_16, pq2_17, vv2_18, 1, hdr) (⟨(Or.inl rfl), (show ta2_11 ≤ tn from by omega), (show tk2_13 ≤ 255 from by omega), f_22⟩) [1, 2, 3, 4, 0] (by decide) rfl (Nat.le_of_ble_eq_true rfl) (Nat.le_of_ble_eq_true rfl)
  · refine lv_aload_n hx hb dX10_tellDraw_7 rfl (lv_at hl 0 rfl) ?_
    refine lv_iconst (v := 2) hx hb dX10_tellDraw_8 (by decide) ?_
    refine x_callVi (q := (RX10, TX10, 10)) (ci := 10) (q0 := 0) (wr := [(t1, .inl (cy 0, 1600, .inl (fby))), (t2, .inl (cy 2, 24, .inr (.inl (fky)))), (h0, .inr (4, [.ref h1, .ref h2, .ref h3, .ref h4, .ref h5, .ref h6, .ref h7, .ref h8, .ref h9, .ref h10, .ref h11, hv0, hv1, hv2, .int hdr, hv4]))]) (rest := []) ⟨hx, hb, hml, hown, hg, hl.1⟩ k_X10_110 (s_fail l D cy d0 d1 uh wt dt vv fq pq ((.ref h0)) yf t0 t1 t2 tn ta ts tk tm tr 2 (by omega)) E0_blind hK hP hD hS hA [0, 1] [2, 3, 4] ⟨rfl, rfl, by decide, by decide, by decide⟩ rfl rfl (fun _ _ _ => trivial) dX10_tellDraw_9 rfl rfl (Nat.le_of_ble_eq_true rfl) ⟨Nat.le_of_ble_eq_true rfl, Nat.le_of_ble_eq_true rfl⟩ ⟨Nat.le_of_ble_eq_true rfl, Nat.le_of_ble_eq_true rfl⟩ (fun zr35 zu35 H locs hw35 hP hD hS => ?_)
    obtain ⟨fq2_36, pq2_37⟩ := zu35
    have hP : va_P D vwCl [(t1, .inl (cy 0, 1600, .inl (fby))), (t2, .inl (cy 2, 24, .inr (.inl (fky)))), (h0, .inr (4, [.ref h1, .ref h2, .ref h3, .ref h4, .ref h5, .ref h6, .ref h7, .ref h8, .ref h9, .ref h10, .ref h11, hv0, hv1, hv2, .int hdr, hv4])), (d0, .inr (10, [.ref t0, .ref d1, .ref h0, yf, .int uh, .int wt, .int dt, .int vv, .int fq2_36, .int pq2_37])), (t0, .inr (9, [.ref t1, .ref t2, .int (nI tn), .int (nI ta), .int (nI ts), .int (nI tk), .long tm, .int tr]))] H := hP
    have hD : va_D A [(t1, .inl (cy 0, 1600, .inl (fby))), (t2, .inl (cy 2, 24, .inr (.inl (fky)))), (h0, .inr (4, [.ref h1, .ref h2, .ref h3, .ref h4, .ref h5, .ref h6, .ref h7, .ref h8, .ref h9, .ref h10, .ref h11, hv0, hv1, hv2, .int hdr, hv4])), (d0, .inr (10, [.ref t0, .ref d1, .ref h0, yf, .int uh, .int wt, .int dt, .int vv, .int fq2_36, .int pq2_37])), (t0, .inr (9, [.ref t1, .ref t2, .int (nI tn), .int (nI ta), .int (nI ts), .int (nI tk), .long tm, .int tr]))] := hD
    refine W.widen (k := 0) (n := 0) (Nat.le_of_ble_eq_true rfl) (Nat.le_of_ble_eq_true rfl) ?_
    have hw35 : zr35 = 0 := hw35
    subst hw35
    exact x_zret hQ hx hb hr hlocks hK hP hD hS rfl dX10_tellDraw_12 (ta, ts, tk, tm, tr, fq2_36, pq2_37, vv, dt, hdr) (⟨(Or.inl rfl), (show ta ≤ tn from by omega), (show tk ≤ 255 from by omega), hnu⟩) [3, 4, 0, 1, 2] (by decide) rfl (Nat.le_of_ble_eq_true rfl) (Nat.le_of_ble_eq_true rfl)
theorem dX10_tellFormula_0 : decode cX10_tellFormula 0 = .ok (.aload_n 1, 1) := by decide +kernel
theorem dX10_tellFormula_1 : decode cX10_tellFormula 1 = .ok (.getfield 158, 3) := by decide +kernel
set_option maxRecDepth 100000 in
theorem m_306 : (Cond.fieldLink RX10 158 "CliffJudges$Formula" "told" "Z") ∈ gT := gm 306 rfl rfl
theorem dX10_tellFormula_4 : decode cX10_tellFormula 4 = .ok (.ifCond .eq 9, 3) := by decide +kernel
theorem dX10_tellFormula_13 : decode cX10_tellFormula 13 = .ok (.aload_n 1, 1) := by decide +kernel
theorem dX10_tellFormula_14 : decode cX10_tellFormula 14 = .ok (.iconst 1, 1) := by decide +kernel
theorem dX10_tellFormula_15 : decode cX10_tellFormula 15 = .ok (.putfield 158, 3) := by decide +kernel
theorem dX10_tellFormula_18 : decode cX10_tellFormula 18 = .ok (.aload_n 0, 1) := by decide +kernel
theorem dX10_tellFormula_19 : decode cX10_tellFormula 19 = .ok (.aload_n 1, 1) := by decide +kernel
theorem dX10_tellFormula_20 : decode cX10_tellFormula 20 = .ok (.putfield 34, 3) := by decide +kernel
theorem dX10_tellFormula_23 : decode cX10_tellFormula 23 = .ok (.aload_n 0, 1) := by decide +kernel
theorem dX10_tellFormula_24 : decode cX10_tellFormula 24 = .ok (.iconst 0, 1) := by decide +kernel
theorem dX10_tellFormula_25 : decode cX10_tellFormula 25 = .ok (.putfield 163, 3) := by decide +kernel
theorem dX10_tellFormula_28 : decode cX10_tellFormula 28 = .ok (.aload_n 0, 1) := by decide +kernel
theorem dX10_tellFormula_29 : decode cX10_tellFormula 29 = .ok (.getfield 16, 3) := by decide +kernel
theorem dX10_tellFormula_32 : decode cX10_tellFormula 32 = .ok (.invokevirtual 140, 3) := by decide +kernel
theorem dX10_tellFormula_35 : decode cX10_tellFormula 35 = .ok (.aload_n 0, 1) := by decide +kernel
theorem dX10_tellFormula_36 : decode cX10_tellFormula 36 = .ok (.iconst 0, 1) := by decide +kernel
theorem dX10_tellFormula_37 : decode cX10_tellFormula 37 = .ok (.invokevirtual 166, 3) := by decide +kernel
theorem dX10_tellFormula_40 : decode cX10_tellFormula 40 = .ok (.ifCond .eq 16, 3) := by decide +kernel
theorem dX10_tellFormula_56 : decode cX10_tellFormula 56 = .ok (.iconst 0, 1) := by decide +kernel
theorem dX10_tellFormula_57 : decode cX10_tellFormula 57 = .ok (.ireturn, 1) := by decide +kernel
theorem dX10_tellFormula_43 : decode cX10_tellFormula 43 = .ok (.aload_n 0, 1) := by decide +kernel
theorem dX10_tellFormula_44 : decode cX10_tellFormula 44 = .ok (.bipush 59, 2) := by decide +kernel
theorem dX10_tellFormula_46 : decode cX10_tellFormula 46 = .ok (.invokevirtual 128, 3) := by decide +kernel
theorem dX10_tellFormula_49 : decode cX10_tellFormula 49 = .ok (.ifCond .eq 7, 3) := by decide +kernel
theorem dX10_tellFormula_52 : decode cX10_tellFormula 52 = .ok (.iconst 1, 1) := by decide +kernel
theorem dX10_tellFormula_53 : decode cX10_tellFormula 53 = .ok (.goto 4, 3) := by decide +kernel
theorem dX10_tellFormula_7 : decode cX10_tellFormula 7 = .ok (.aload_n 0, 1) := by decide +kernel
theorem dX10_tellFormula_8 : decode cX10_tellFormula 8 = .ok (.iconst 2, 1) := by decide +kernel
theorem dX10_tellFormula_9 : decode cX10_tellFormula 9 = .ok (.invokevirtual 110, 3) := by decide +kernel
theorem dX10_tellFormula_12 : decode cX10_tellFormula 12 = .ok (.ireturn, 1) := by decide +kernel
set_option maxHeartbeats 1000000 in
set_option maxRecDepth 100000 in
theorem s_tellFormula (l : Launch) (D : va_G) (cy : Nat → ClassId) (adK : Nat → Nat) (adV : Nat → Nat) (d0 : Nat) (d1 : Nat) (uh : Int32) (wt : Int32) (dt : Int32) (vv : Int32) (fq : Int32) (pq : Int32) (yf : Value) (t0 : Nat) (t1 : Nat) (t2 : Nat) (tn : Nat) (ta : Nat) (ts : Nat) (tk : Nat) (tm : Int64) (tr : Int32) (fby : Nat → Int32) (fky : Nat → Int64) (h0 : Nat) (h1 : Nat) (h2 : Nat) (h3 : Nat) (h4 : Nat) (h5 : Nat) (h6 : Nat) (h7 : Nat) (h8 : Nat) (h9 : Nat) (h10 : Nat) (h11 : Nat) (hv0 : Value) (hv1 : Value) (hv2 : Value) (hv3 : Value) (hu : Int32) (f0 : Nat) (f1 : Nat) (f2 : Nat) (nf : Nat) (fco : Nat → Int32) (tt : Int32) (htn : tn ≤ 1600) (hta : ta ≤ tn) (htk : tk ≤ 255) (hnu : nuOK tk tr) (hnf : nf ≤ 280) (hfc : cOK fco nf) : XMi l D (tyL cy) (EV adK adV) yX10_tellFormula cX10_tellFormula 2 (some .boolean) (rmk 62 0 0) [.ref d0, .ref f0] [(d0, .inr (10, [.ref t0, .ref d1, .ref h0, yf, .int uh, .int wt, .int dt, .int vv, .int fq, .int pq])), (t0, .inr (9, [.ref t1, .ref t2, .int (nI tn), .int (nI ta), .int (nI ts), .int (nI tk), .long tm, .int tr])), (t1, .inl (cy 0, 1600, .inl (fby))), (t2, .inl (cy 2, 24, .inr (.inl (fky)))), (h0, .inr (4, [.ref h1, .ref h2, .ref h3, .ref h4, .ref h5, .ref h6, .ref h7, .ref h8, .ref h9, .ref h10, .ref h11, hv0, hv1, hv2, hv3, .int hu])), (f0, .inr (3, [.ref f1, .ref f2, .int (nI nf), .int tt])), (f1, .inl (cy 1, 280, .inl (fco)))] (fun (r : Int32) (u : Nat × Nat × Nat × Int64 × Int32 × Int32 × Int32 × Int32 × Int32 × Nat × (Nat → Int32) × Int32 × Value) => (r = 0 ∨ r = 1) ∧ (u.1 ≤ tn) ∧ (u.2.2.1 ≤ 255) ∧ (nuOK u.2.2.1 u.2.2.2.2.1) ∧ (u.2.2.2.2.2.2.2.2.2.1 ≤ 280) ∧ (cOK u.2.2.2.2.2.2.2.2.2.2.1 u.2.2.2.2.2.2.2.2.2.1)) (fun (u : Nat × Nat × Nat × Int64 × Int32 × Int32 × Int32 × Int32 × Int32 × Nat × (Nat → Int32) × Int32 × Value) => [(d0, .inr (10, [.ref t0, .ref d1, .ref h0, u.2.2.2.2.2.2.2.2.2.2.2.2, .int u.2.2.2.2.2.2.2.1, .int wt, .int dt, .int vv, .int u.2.2.2.2.2.1, .int u.2.2.2.2.2.2.1])), (t0, .inr (9, [.ref t1, .ref t2, .int (nI tn), .int (nI u.1), .int (nI u.2.1), .int (nI u.2.2.1), .long u.2.2.2.1, .int u.2.2.2.2.1])), (t1, .inl (cy 0, 1600, .inl (fby))), (t2, .inl (cy 2, 24, .inr (.inl (fky)))), (h0, .inr (4, [.ref h1, .ref h2, .ref h3, .ref h4, .ref h5, .ref h6, .ref h7, .ref h8, .ref h9, .ref h10, .ref h11, hv0, hv1, hv2, hv3, .int u.2.2.2.2.2.2.2.2.1])), (f0, .inr (3, [.ref f1, .ref f2, .int (nI u.2.2.2.2.2.2.2.2.2.1), .int u.2.2.2.2.2.2.2.2.2.2.2.1])), (f1, .inl (cy 1, 280, .inl (u.2.2.2.2.2.2.2.2.2.2.1)))]) := by
  refine XMi.start (by decide) (Nat.le_of_ble_eq_true rfl) ?_
  intro p e s m below meth c args A ls Q hat hQ
  obtain ⟨hx, hb, hr, hml, hown, hg, hlocks, hin, hK, hA, hP, hD, hS, hE, hl⟩ := hat
  have hown : s.vm.findClass RX10 = some m.cls := hown
  have hl : lv_has ls 2 [(0, .ref d0), (1, .ref f0)] := hl
  refine lv_aload_n hx hb dX10_tellFormula_0 rfl (lv_at hl 1 rfl) ?_
  refine va_get (D := D) (ci := 3) (v := .int tt) (C := RX3) (T := TX3) (N := 4) hx hb hg i_X3 hown hK hP 5 rfl rfl 3 (by decide) (hg _ m_306) (fun _ h9 => h9) rfl dX10_tellFormula_1 ?_
  refine lv_if_eq (tgt := 13) hx hb dX10_tellFormula_4 (by decide) (fun c_4 => ?_) (fun c_4 => ?_)
  · refine lv_aload_n hx hb dX10_tellFormula_13 rfl (lv_at hl 1 rfl) ?_
    refine lv_iconst (v := 1) hx hb dX10_tellFormula_14 (by decide) ?_
    refine va_put (D := D) (ci := 3) (v := .int 1) (ty := .boolean) (C := RX3) (T := TX3) (N := 4) hx hb hg i_X3 tyX3 tyX3_ok nmX3 hown hK hP hD hS 5 rfl rfl 3 (by decide) (hg _ m_306) (fun _ h9 => h9) rfl (by decide +kernel) rfl rfl (Nat.le_of_ble_eq_true rfl) dX10_tellFormula_15 (fun H locs hP hD hS => ?_)
    have hP : va_P D vwCl [(d0, .inr (10, [.ref t0, .ref d1, .ref h0, yf, .int uh, .int wt, .int dt, .int vv, .int fq, .int pq])), (t0, .inr (9, [.ref t1, .ref t2, .int (nI tn), .int (nI ta), .int (nI ts), .int (nI tk), .long tm, .int tr])), (t1, .inl (cy 0, 1600, .inl (fby))), (t2, .inl (cy 2, 24, .inr (.inl (fky)))), (h0, .inr (4, [.ref h1, .ref h2, .ref h3, .ref h4, .ref h5, .ref h6, .ref h7, .ref h8, .ref h9, .ref h10, .ref h11, hv0, hv1, hv2, hv3, .int hu])), (f0, .inr (3, [.ref f1, .ref f2, .int (nI nf), .int 1])), (f1, .inl (cy 1, 280, .inl (fco)))] H := hP
    have hD : va_D A [(d0, .inr (10, [.ref t0, .ref d1, .ref h0, yf, .int uh, .int wt, .int dt, .int vv, .int fq, .int pq])), (t0, .inr (9, [.ref t1, .ref t2, .int (nI tn), .int (nI ta), .int (nI ts), .int (nI tk), .long tm, .int tr])), (t1, .inl (cy 0, 1600, .inl (fby))), (t2, .inl (cy 2, 24, .inr (.inl (fky)))), (h0, .inr (4, [.ref h1, .ref h2, .ref h3, .ref h4, .ref h5, .ref h6, .ref h7, .ref h8, .ref h9, .ref h10, .ref h11, hv0, hv1, hv2, hv3, .int hu])), (f0, .inr (3, [.ref f1, .ref f2, .int (nI nf), .int 1])), (f1, .inl (cy 1, 280, .inl (fco)))] := hD
    refine lv_aload_n hx hb dX10_tellFormula_18 rfl (lv_at hl 0 rfl) ?_
    refine lv_aload_n hx hb dX10_tellFormula_19 rfl (lv_at hl 1 rfl) ?_
    refine va_put (D := D) (ci := 10) (v := .ref f0) (ty := .object "CliffJudges$Formula") (C := RX10) (T := TX10) (N := 10) hx hb hg i_X10 tyX10 tyX10_ok nmX10 hown hK hP hD hS 0 rfl rfl 3 (by decide) (hg _ m_258) (fun _ h9 => h9) rfl (by decide +kernel) rfl rfl (Nat.le_of_ble_eq_true rfl) dX10_tellFormula_20 (fun H locs hP hD hS => ?_)
    have hP : va_P D vwCl [(d0, .inr (10, [.ref t0, .ref d1, .ref h0, .ref f0, .int uh, .int wt, .int dt, .int vv, .int fq, .int pq])), (t0, .inr (9, [.ref t1, .ref t2, .int (nI tn), .int (nI ta), .int (nI ts), .int (nI tk), .long tm, .int tr])), (t1, .inl (cy 0, 1600, .inl (fby))), (t2, .inl (cy 2, 24, .inr (.inl (fky)))), (h0, .inr (4, [.ref h1, .ref h2, .ref h3, .ref h4, .ref h5, .ref h6, .ref h7, .ref h8, .ref h9, .ref h10, .ref h11, hv0, hv1, hv2, hv3, .int hu])), (f0, .inr (3, [.ref f1, .ref f2, .int (nI nf), .int 1])), (f1, .inl (cy 1, 280, .inl (fco)))] H := hP
    have hD : va_D A [(d0, .inr (10, [.ref t0, .ref d1, .ref h0, .ref f0, .int uh, .int wt, .int dt, .int vv, .int fq, .int pq])), (t0, .inr (9, [.ref t1, .ref t2, .int (nI tn), .int (nI ta), .int (nI ts), .int (nI tk), .long tm, .int tr])), (t1, .inl (cy 0, 1600, .inl (fby))), (t2, .inl (cy 2, 24, .inr (.inl (fky)))), (h0, .inr (4, [.ref h1, .ref h2, .ref h3, .ref h4, .ref h5, .ref h6, .ref h7, .ref h8, .ref h9, .ref h10, .ref h11, hv0, hv1, hv2, hv3, .int hu])), (f0, .inr (3, [.ref f1, .ref f2, .int (nI nf), .int 1])), (f1, .inl (cy 1, 280, .inl (fco)))] := hD
    refine lv_aload_n hx hb dX10_tellFormula_23 rfl (lv_at hl 0 rfl) ?_
    refine lv_iconst (v := 0) hx hb dX10_tellFormula_24 (by decide) ?_
    refine va_put (D := D) (ci := 10) (v := .int 0) (ty := .int) (C := RX10) (T := TX10) (N := 10) hx hb hg i_X10 tyX10 tyX10_ok nmX10 hown hK hP hD hS 0 rfl rfl 4 (by decide) (hg _ m_259) (fun _ h9 => h9) rfl (by decide +kernel) rfl rfl (Nat.le_of_ble_eq_true rfl) dX10_tellFormula_25 (fun H locs hP hD hS => ?_)
    have hP : va_P D vwCl [(d0, .inr (10, [.ref t0, .ref d1, .ref h0, .ref f0, .int 0, .int wt, .int dt, .int vv, .int fq, .int pq])), (t0, .inr (9, [.ref t1, .ref t2, .int (nI tn), .int (nI ta), .int (nI ts), .int (nI tk), .long tm, .int tr])), (t1, .inl (cy 0, 1600, .inl (fby))), (t2, .inl (cy 2, 24, .inr (.inl (fky)))), (h0, .inr (4, [.ref h1, .ref h2, .ref h3, .ref h4, .ref h5, .ref h6, .ref h7, .ref h8, .ref h9, .ref h10, .ref h11, hv0, hv1, hv2, hv3, .int hu])), (f0, .inr (3, [.ref f1, .ref f2, .int (nI nf), .int 1])), (f1, .inl (cy 1, 280, .inl (fco)))] H := hP
    have hD : va_D A [(d0, .inr (10, [.ref t0, .ref d1, .ref h0, .ref f0, .int 0, .int wt, .int dt, .int vv, .int fq, .int pq])), (t0, .inr (9, [.ref t1, .ref t2, .int (nI tn), .int (nI ta), .int (nI ts), .int (nI tk), .long tm, .int tr])), (t1, .inl (cy 0, 1600, .inl (fby))), (t2, .inl (cy 2, 24, .inr (.inl (fky)))), (h0, .inr (4, [.ref h1, .ref h2, .ref h3, .ref h4, .ref h5, .ref h6, .ref h7, .ref h8, .ref h9, .ref h10, .ref h11, hv0, hv1, hv2, hv3, .int hu])), (f0, .inr (3, [.ref f1, .ref f2, .int (nI nf), .int 1])), (f1, .inl (cy 1, 280, .inl (fco)))] := hD
    refine lv_aload_n hx hb dX10_tellFormula_28 rfl (lv_at hl 0 rfl) ?_
    refine va_get (D := D) (ci := 10) (v := .ref t0) (C := RX10) (T := TX10) (N := 10) hx hb hg i_X10 hown hK hP 0 rfl rfl 0 (by decide) (hg _ m_255) (fun _ h9 => h9) rfl dX10_tellFormula_29 ?_
    refine x_callVv (q := (RX9, TX9, 8)) (ci := 9) (q0 := 0) (wr := [(d0, .inr (10, [.ref t0, .ref d1, .ref h0, .ref f0, .int 0, .int wt, .int dt, .int vv, .int fq, .int pq])), (h0, .inr (4, [.ref h1, .ref h2, .ref h3, .ref h4, .ref h5, .ref h6, .ref h7, .ref h8, .ref h9, .ref h10, .ref h11, hv0, hv1, hv2, hv3, .int hu])), (f0, .inr (3, [.ref f1, .ref f2, .int (nI nf), .int 1])), (f1, .inl (cy 1, 280, .inl (fco)))]) (rest := []) ⟨hx, hb, hml, hown, hg, hl.1⟩ k_X10_140 (s_next l D cy adK adV t0 t1 t2 tn ta ts tk tm tr fby fky (by omega) (by omega)) EV_blind hK hP hD hS hA [1, 2, 3] [0, 4, 5, 6] ⟨rfl, rfl, by decide, by decide, by decide⟩ rfl rfl (fun U hU hW => EV_pass hE hS (va_free hD hS hA [1, 2, 3] rfl) hU hW) dX10_tellFormula_32 rfl rfl (Nat.le_of_ble_eq_true rfl) ⟨Nat.le_of_ble_eq_true rfl, Nat.le_of_ble_eq_true rfl⟩ ⟨Nat.le_of_ble_eq_true rfl, Nat.le_of_ble_eq_true rfl⟩ (fun zu1 H locs hw1 hP hD hS => ?_)
    obtain ⟨ta2_2, ts2_3, tk2_4, tm2_5, tr2_6⟩ := zu1
    have hP : va_P D vwCl [(d0, .inr (10, [.ref t0, .ref d1, .ref h0, .ref f0, .int 0, .int wt, .int dt, .int vv, .int fq, .int pq])), (h0, .inr (4, [.ref h1, .ref h2, .ref h3, .ref h4, .ref h5, .ref h6, .ref h7, .ref h8, .ref h9, .ref h10, .ref h11, hv0, hv1, hv2, hv3, .int hu])), (f0, .inr (3, [.ref f1, .ref f2, .int (nI nf), .int 1])), (f1, .inl (cy 1, 280, .inl (fco))), (t0, .inr (9, [.ref t1, .ref t2, .int (nI tn), .int (nI ta2_2), .int (nI ts2_3), .int (nI tk2_4), .long tm2_5, .int tr2_6])), (t1, .inl (cy 0, 1600, .inl (fby))), (t2, .inl (cy 2, 24, .inr (.inl (fky))))] H := hP
    have hD : va_D A [(d0, .inr (10, [.ref t0, .ref d1, .ref h0, .ref f0, .int 0, .int wt, .int dt, .int vv, .int fq, .int pq])), (h0, .inr (4, [.ref h1, .ref h2, .ref h3, .ref h4, .ref h5, .ref h6, .ref h7, .ref h8, .ref h9, .ref h10, .ref h11, hv0, hv1, hv2, hv3, .int hu])), (f0, .inr (3, [.ref f1, .ref f2, .int (nI nf), .int 1])), (f1, .inl (cy 1, 280, .inl (fco))), (t0, .inr (9, [.ref t1, .ref t2, .int (nI tn), .int (nI ta2_2), .int (nI ts2_3), .int (nI tk2_4), .long tm2_5, .int tr2_6])), (t1, .inl (cy 0, 1600, .inl (fby))), (t2, .inl (cy 2, 24, .inr (.inl (fky))))] := hD
    refine W.widen (k := 0) (n := 0) (Nat.le_of_ble_eq_true rfl) (Nat.le_of_ble_eq_true rfl) ?_
    have hw1 : (ta2_2 ≤ tn) ∧ (tk2_4 ≤ 255) ∧ (nuOK tk2_4 tr2_6) := hw1
    obtain ⟨f_7, f_8, f_9⟩ := hw1
    refine lv_aload_n hx hb dX10_tellFormula_35 rfl (lv_at hl 0 rfl) ?_
    refine lv_iconst (v := 0) hx hb dX10_tellFormula_36 (by decide) ?_
    refine x_callVi (q := (RX10, TX10, 10)) (ci := 10) (q0 := 0) (wr := []) (rest := []) ⟨hx, hb, hml, hown, hg, hl.1⟩ k_X10_166 (s_takeEither0 l D cy adK adV d0 d1 0 wt dt vv fq pq t0 t1 t2 tn ta2_2 ts2_3 tk2_4 tm2_5 tr2_6 fby fky h0 h1 h2 h3 h4 h5 h6 h7 h8 h9 h10 h11 hv0 hv1 hv2 hv3 hu f0 f1 f2 nf ((.int 1)) fco (by omega) (by omega) (by omega) (f_9) (by omega) (hfc)) EV_blind hK hP hD hS hA [0, 4, 5, 6, 1, 2, 3] [] ⟨rfl, rfl, by decide, by decide, by decide⟩ rfl rfl (fun U hU hW => EV_pass hE hS (va_free hD hS hA [0, 4, 5, 6, 1, 2, 3] rfl) hU hW) dX10_tellFormula_37 rfl rfl (Nat.le_of_ble_eq_true rfl) ⟨Nat.le_of_ble_eq_true rfl, Nat.le_of_ble_eq_true rfl⟩ ⟨Nat.le_of_ble_eq_true rfl, Nat.le_of_ble_eq_true rfl⟩ (fun zr10 zu10 H locs hw10 hP hD hS => ?_)
    obtain ⟨ta2_11, ts2_12, tk2_13, tm2_14, tr2_15, fq2_16, pq2_17, uh2_18, hu2_19, nf2_20, fco2_21⟩ := zu10
    have hP : va_P D vwCl [(d0, .inr (10, [.ref t0, .ref d1, .ref h0, .ref f0, .int uh2_18, .int wt, .int dt, .int vv, .int fq2_16, .int pq2_17])), (t0, .inr (9, [.ref t1, .ref t2, .int (nI tn), .int (nI ta2_11), .int (nI ts2_12), .int (nI tk2_13), .long tm2_14, .int tr2_15])), (t1, .inl (cy 0, 1600, .inl (fby))), (t2, .inl (cy 2, 24, .inr (.inl (fky)))), (h0, .inr (4, [.ref h1, .ref h2, .ref h3, .ref h4, .ref h5, .ref h6, .ref h7, .ref h8, .ref h9, .ref h10, .ref h11, hv0, hv1, hv2, hv3, .int hu2_19])), (f0, .inr (3, [.ref f1, .ref f2, .int (nI nf2_20), .int 1])), (f1, .inl (cy 1, 280, .inl (fco2_21)))] H := hP
    have hD : va_D A [(d0, .inr (10, [.ref t0, .ref d1, .ref h0, .ref f0, .int uh2_18, .int wt, .int dt, .int vv, .int fq2_16, .int pq2_17])), (t0, .inr (9, [.ref t1, .ref t2, .int (nI tn), .int (nI ta2_11), .int (nI ts2_12), .int (nI tk2_13), .long tm2_14, .int tr2_15])), (t1, .inl (cy 0, 1600, .inl (fby))), (t2, .inl (cy 2, 24, .inr (.inl (fky)))), (h0, .inr (4, [.ref h1, .ref h2, .ref h3, .ref h4, .ref h5, .ref h6, .ref h7, .ref h8, .ref h9, .ref h10, .ref h11, hv0, hv1, hv2, hv3, .int hu2_19])), (f0, .inr (3, [.ref f1, .ref f2, .int (nI nf2_20), .int 1])), (f1, .inl (cy 1, 280, .inl (fco2_21)))] := hD
    refine W.widen (k := 0) (n := 0) (Nat.le_of_ble_eq_true rfl) (Nat.le_of_ble_eq_true rfl) ?_
    have hw10 : (zr10 = 0 ∨ zr10 = 1) ∧ (ta2_11 ≤ tn) ∧ (tk2_13 ≤ 255) ∧ (nuOK tk2_13 tr2_15) ∧ (nf2_20 ≤ 280) ∧ (cOK fco2_21 nf2_20) := hw10
    obtain ⟨f_22, f_23, f_24, f_25, f_26, f_27⟩ := hw10
    refine lv_if_eq (tgt := 56) hx hb dX10_tellFormula_40 (by decide) (fun c_40 => ?_) (fun c_40 => ?_)
    · refine lv_iconst (v := 0) hx hb dX10_tellFormula_56 (by decide) ?_
      exact x_zret hQ hx hb hr hlocks hK hP hD hS rfl dX10_tellFormula_57 (ta2_11, ts2_12, tk2_13, tm2_14, tr2_15, fq2_16, pq2_17, uh2_18, hu2_19, nf2_20, fco2_21, 1, .ref f0) (⟨(Or.inl rfl), (show ta2_11 ≤ tn from by omega), (show tk2_13 ≤ 255 from by omega), f_25, (show nf2_20 ≤ 280 from by omega), f_27⟩) [0, 1, 2, 3, 4, 5, 6] (by decide) rfl (Nat.le_of_ble_eq_true rfl) (Nat.le_of_ble_eq_true rfl)
    · refine lv_aload_n hx hb dX10_tellFormula_43 rfl (lv_at hl 0 rfl) ?_
      refine lv_bipush (v := 59) hx hb dX10_tellFormula_44 (by decide) ?_
      refine x_callVi (q := (RX10, TX10, 10)) (ci := 10) (q0 := 0) (wr := [(h0, .inr (4, [.ref h1, .ref h2, .ref h3, .ref h4, .ref h5, .ref h6, .ref h7, .ref h8, .ref h9, .ref h10, .ref h11, hv0, hv1, hv2, hv3, .int hu2_19])), (f0, .inr (3, [.ref f1, .ref f2, .int (nI nf2_20), .int 1])), (f1, .inl (cy 1, 280, .inl (fco2_21)))]) (rest := []) ⟨hx, hb, hml, hown, hg, hl.1⟩ k_X10_128 (s_take l D cy adK adV d0 d1 uh2_18 wt dt vv fq2_16 pq2_17 ((.ref h0)) ((.ref f0)) t0 t1 t2 tn ta2_11 ts2_12 tk2_13 tm2_14 tr2_15 fby fky 59 (by omega) (by omega) (by omega) (f_25) (by omega)) EV_blind hK hP hD hS hA [0, 1, 2, 3] [4, 5, 6] ⟨rfl, rfl, by decide, by decide, by decide⟩ rfl rfl (fun U hU hW => EV_pass hE hS (va_free hD hS hA [0, 1, 2, 3] rfl) hU hW) dX10_tellFormula_46 rfl rfl (Nat.le_of_ble_eq_true rfl) ⟨Nat.le_of_ble_eq_true rfl, Nat.le_of_ble_eq_true rfl⟩ ⟨Nat.le_of_ble_eq_true rfl, Nat.le_of_ble_eq_true rfl⟩ (fun zr28 zu28 H locs hw28 hP hD hS => ?_)
      obtain ⟨ta2_29, ts2_30, tk2_31, tm2_32, tr2_33, fq2_34, pq2_35⟩ := zu28
      have hP : va_P D vwCl [(h0, .inr (4, [.ref h1, .ref h2, .ref h3, .ref h4, .ref h5, .ref h6, .ref h7, .ref h8, .ref h9, .ref h10, .ref h11, hv0, hv1, hv2, hv3, .int hu2_19])), (f0, .inr (3, [.ref f1, .ref f2, .int (nI nf2_20), .int 1])), (f1, .inl (cy 1, 280, .inl (fco2_21))), (d0, .inr (10, [.ref t0, .ref d1, .ref h0, .ref f0, .int uh2_18, .int wt, .int dt, .int vv, .int fq2_34, .int pq2_35])), (t0, .inr (9, [.ref t1, .ref t2, .int (nI tn), .int (nI ta2_29), .int (nI ts2_30), .int (nI tk2_31), .long tm2_32, .int tr2_33])), (t1, .inl (cy 0, 1600, .inl (fby))), (t2, .inl (cy 2, 24, .inr (.inl (fky))))] H := hP
      have hD : va_D A [(h0, .inr (4, [.ref h1, .ref h2, .ref h3, .ref h4, .ref h5, .ref h6, .ref h7, .ref h8, .ref h9, .ref h10, .ref h11, hv0, hv1, hv2, hv3, .int hu2_19])), (f0, .inr (3, [.ref f1, .ref f2, .int (nI nf2_20), .int 1])), (f1, .inl (cy 1, 280, .inl (fco2_21))), (d0, .inr (10, [.ref t0, .ref d1, .ref h0, .ref f0, .int uh2_18, .int wt, .int dt, .int vv, .int fq2_34, .int pq2_35])), (t0, .inr (9, [.ref t1, .ref t2, .int (nI tn), .int (nI ta2_29), .int (nI ts2_30), .int (nI tk2_31), .long tm2_32, .int tr2_33])), (t1, .inl (cy 0, 1600, .inl (fby))), (t2, .inl (cy 2, 24, .inr (.inl (fky))))] := hD
      refine W.widen (k := 0) (n := 0) (Nat.le_of_ble_eq_true rfl) (Nat.le_of_ble_eq_true rfl) ?_
      have hw28 : (zr28 = 0 ∨ zr28 = 1) ∧ (ta2_29 ≤ tn) ∧ (tk2_31 ≤ 255) ∧ (nuOK tk2_31 tr2_33) := hw28
      obtain ⟨f_36, f_37, f_38, f_39⟩ := hw28
      refine lv_if_eq (tgt := 56) hx hb dX10_tellFormula_49 (by decide) (fun c_49 => ?_) (fun c_49 => ?_)
      · refine lv_iconst (v := 0) hx hb dX10_tellFormula_56 (by decide) ?_
        exact x_zret hQ hx hb hr hlocks hK hP hD hS rfl dX10_tellFormula_57 (ta2_29, ts2_30, tk2_31, tm2_32, tr2_33, fq2_34, pq2_35, uh2_18, hu2_19, nf2_20, fco2_21, 1, .ref f0) (⟨(Or.inl rfl), (show ta2_29 ≤ tn from by omega), (show tk2_31 ≤ 255 from by omega), f_39, (show nf2_20 ≤ 280 from by omega), f_27⟩) [3, 4, 5, 6, 0, 1, 2] (by decide) rfl (Nat.le_of_ble_eq_true rfl) (Nat.le_of_ble_eq_true rfl)
      · refine lv_iconst (v := 1) hx hb dX10_tellFormula_52 (by decide) ?_
        refine lv_goto (tgt := 57) hx hb dX10_tellFormula_53 (by decide) ?_
        exact x_zret hQ hx hb hr hlocks hK hP hD hS rfl dX10_tellFormula_57 (ta2_29, ts2_30, tk2_31, tm2_32, tr2_33, fq2_34, pq2_35, uh2_18, hu2_19, nf2_20, fco2_21, 1, .ref f0) (⟨(Or.inr rfl), (show ta2_29 ≤ tn from by omega), (show tk2_31 ≤ 255 from by omega), f_39, (show nf2_20 ≤ 280 from by omega), f_27⟩) [3, 4, 5, 6, 0, 1, 2] (by decide) rfl (Nat.le_of_ble_eq_true rfl) (Nat.le_of_ble_eq_true rfl)
  · refine lv_aload_n hx hb dX10_tellFormula_7 rfl (lv_at hl 0 rfl) ?_
    refine lv_iconst (v := 2) hx hb dX10_tellFormula_8 (by decide) ?_
    refine x_callVi (q := (RX10, TX10, 10)) (ci := 10) (q0 := 0) (wr := [(t1, .inl (cy 0, 1600, .inl (fby))), (t2, .inl (cy 2, 24, .inr (.inl (fky)))), (h0, .inr (4, [.ref h1, .ref h2, .ref h3, .ref h4, .ref h5, .ref h6, .ref h7, .ref h8, .ref h9, .ref h10, .ref h11, hv0, hv1, hv2, hv3, .int hu])), (f0, .inr (3, [.ref f1, .ref f2, .int (nI nf), .int tt])), (f1, .inl (cy 1, 280, .inl (fco)))]) (rest := []) ⟨hx, hb, hml, hown, hg, hl.1⟩ k_X10_110 (s_fail l D cy d0 d1 uh wt dt vv fq pq ((.ref h0)) yf t0 t1 t2 tn ta ts tk tm tr 2 (by omega)) E0_blind hK hP hD hS hA [0, 1] [2, 3, 4, 5, 6] ⟨rfl, rfl, by decide, by decide, by decide⟩ rfl rfl (fun _ _ _ => trivial) dX10_tellFormula_9 rfl rfl (Nat.le_of_ble_eq_true rfl) ⟨Nat.le_of_ble_eq_true rfl, Nat.le_of_ble_eq_true rfl⟩ ⟨Nat.le_of_ble_eq_true rfl, Nat.le_of_ble_eq_true rfl⟩ (fun zr40 zu40 H locs hw40 hP hD hS => ?_)
    obtain ⟨fq2_41, pq2_42⟩ := zu40
    have hP : va_P D vwCl [(t1, .inl (cy 0, 1600, .inl (fby))), (t2, .inl (cy 2, 24, .inr (.inl (fky)))), (h0, .inr (4, [.ref h1, .ref h2, .ref h3, .ref h4, .ref h5, .ref h6, .ref h7, .ref h8, .ref h9, .ref h10, .ref h11, hv0, hv1, hv2, hv3, .int hu])), (f0, .inr (3, [.ref f1, .ref f2, .int (nI nf), .int tt])), (f1, .inl (cy 1, 280, .inl (fco))), (d0, .inr (10, [.ref t0, .ref d1, .ref h0, yf, .int uh, .int wt, .int dt, .int vv, .int fq2_41, .int pq2_42])), (t0, .inr (9, [.ref t1, .ref t2, .int (nI tn), .int (nI ta), .int (nI ts), .int (nI tk), .long tm, .int tr]))] H := hP
    have hD : va_D A [(t1, .inl (cy 0, 1600, .inl (fby))), (t2, .inl (cy 2, 24, .inr (.inl (fky)))), (h0, .inr (4, [.ref h1, .ref h2, .ref h3, .ref h4, .ref h5, .ref h6, .ref h7, .ref h8, .ref h9, .ref h10, .ref h11, hv0, hv1, hv2, hv3, .int hu])), (f0, .inr (3, [.ref f1, .ref f2, .int (nI nf), .int tt])), (f1, .inl (cy 1, 280, .inl (fco))), (d0, .inr (10, [.ref t0, .ref d1, .ref h0, yf, .int uh, .int wt, .int dt, .int vv, .int fq2_41, .int pq2_42])), (t0, .inr (9, [.ref t1, .ref t2, .int (nI tn), .int (nI ta), .int (nI ts), .int (nI tk), .long tm, .int tr]))] := hD
    refine W.widen (k := 0) (n := 0) (Nat.le_of_ble_eq_true rfl) (Nat.le_of_ble_eq_true rfl) ?_
    have hw40 : zr40 = 0 := hw40
    subst hw40
    exact x_zret hQ hx hb hr hlocks hK hP hD hS rfl dX10_tellFormula_12 (ta, ts, tk, tm, tr, fq2_41, pq2_42, uh, hu, nf, fco, tt, yf) (⟨(Or.inl rfl), (show ta ≤ tn from by omega), (show tk ≤ 255 from by omega), hnu, (show nf ≤ 280 from by omega), hfc⟩) [5, 6, 0, 1, 2, 3, 4] (by decide) rfl (Nat.le_of_ble_eq_true rfl) (Nat.le_of_ble_eq_true rfl)
