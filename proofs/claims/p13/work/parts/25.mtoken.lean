def mL25 : List (Option Cond) := [some (Cond.selects RX12 yX12_four yX12_four), some (Cond.selects RX12 yX12_here yX12_here), some (Cond.initialized RX12), some (Cond.fieldLink RX12 7 "CliffJudgesModel" "tape" "[I"), some (Cond.fieldLink RX12 157 "CliffJudgesModel" "taped" "I"), some (Cond.fieldLink RX12 164 "CliffJudgesModel" "at" "I"), some (Cond.fieldLink RX12 167 "CliffJudgesModel" "size" "I"), some (Cond.fieldLink RX12 184 "CliffJudgesModel" "sort" "I"), some (Cond.fieldLink RX12 174 "CliffJudgesModel" "place" "I"), some (Cond.fieldLink RX12 181 "CliffJudgesModel" "number" "I"), some (Cond.fieldLink RX12 177 "CliffJudgesModel" "word" "J"), some (Cond.methodLink RX12 160 yX12_four), some (Cond.instanceMethod yX12_four), some (Cond.code yX12_four cX12_four 3 none), some (Cond.methodLink RX12 170 yX12_here), some (Cond.instanceMethod yX12_here), some (Cond.code yX12_here cX12_here 2 (some .int)), some (Cond.methodLink RX12 187 yX12_isLetter), some (Cond.static yX12_isLetter), some (Cond.code yX12_isLetter cX12_isLetter 1 (some .boolean)), some (Cond.methodLink RX12 191 yX12_isDigit), some (Cond.static yX12_isDigit), some (Cond.code yX12_isDigit cX12_isDigit 1 (some .boolean)), some (Cond.methodLink RX12 194 yX12_isSign), some (Cond.static yX12_isSign), some (Cond.code yX12_isSign cX12_isSign 1 (some .boolean))]
set_option maxRecDepth 100000 in
theorem mP25 : pick [63, 3, 80, 1267, 1, 3, 1, 1, 1, 1, 1, 264, 2, 1, 17, 2, 1, 1, 1, 1, 1, 1, 1, 1, 1, 1] lw_tbl = mL25 := rfl
set_option maxRecDepth 100000 in
theorem mG25 : mL25.all (fun o => o.all goodWord) = true := rfl
theorem m_63 : (Cond.selects RX12 yX12_four yX12_four) ∈ gT := gp mP25 mG25 0 rfl
theorem m_66 : (Cond.selects RX12 yX12_here yX12_here) ∈ gT := gp mP25 mG25 1 rfl
theorem m_146 : (Cond.initialized RX12) ∈ gT := gp mP25 mG25 2 rfl
theorem m_1413 : (Cond.fieldLink RX12 7 "CliffJudgesModel" "tape" "[I") ∈ gT := gp mP25 mG25 3 rfl
theorem m_1414 : (Cond.fieldLink RX12 157 "CliffJudgesModel" "taped" "I") ∈ gT := gp mP25 mG25 4 rfl
theorem m_1417 : (Cond.fieldLink RX12 164 "CliffJudgesModel" "at" "I") ∈ gT := gp mP25 mG25 5 rfl
theorem m_1418 : (Cond.fieldLink RX12 167 "CliffJudgesModel" "size" "I") ∈ gT := gp mP25 mG25 6 rfl
theorem m_1419 : (Cond.fieldLink RX12 184 "CliffJudgesModel" "sort" "I") ∈ gT := gp mP25 mG25 7 rfl
theorem m_1420 : (Cond.fieldLink RX12 174 "CliffJudgesModel" "place" "I") ∈ gT := gp mP25 mG25 8 rfl
theorem m_1421 : (Cond.fieldLink RX12 181 "CliffJudgesModel" "number" "I") ∈ gT := gp mP25 mG25 9 rfl
theorem m_1422 : (Cond.fieldLink RX12 177 "CliffJudgesModel" "word" "J") ∈ gT := gp mP25 mG25 10 rfl
theorem m_1686 : (Cond.methodLink RX12 160 yX12_four) ∈ gT := gp mP25 mG25 11 rfl
theorem m_1688 : (Cond.instanceMethod yX12_four) ∈ gT := gp mP25 mG25 12 rfl
theorem m_1689 : (Cond.code yX12_four cX12_four 3 none) ∈ gT := gp mP25 mG25 13 rfl
theorem m_1706 : (Cond.methodLink RX12 170 yX12_here) ∈ gT := gp mP25 mG25 14 rfl
theorem m_1708 : (Cond.instanceMethod yX12_here) ∈ gT := gp mP25 mG25 15 rfl
theorem m_1709 : (Cond.code yX12_here cX12_here 2 (some .int)) ∈ gT := gp mP25 mG25 16 rfl
theorem m_1710 : (Cond.methodLink RX12 187 yX12_isLetter) ∈ gT := gp mP25 mG25 17 rfl
theorem m_1711 : (Cond.static yX12_isLetter) ∈ gT := gp mP25 mG25 18 rfl
theorem m_1712 : (Cond.code yX12_isLetter cX12_isLetter 1 (some .boolean)) ∈ gT := gp mP25 mG25 19 rfl
theorem m_1713 : (Cond.methodLink RX12 191 yX12_isDigit) ∈ gT := gp mP25 mG25 20 rfl
theorem m_1714 : (Cond.static yX12_isDigit) ∈ gT := gp mP25 mG25 21 rfl
theorem m_1715 : (Cond.code yX12_isDigit cX12_isDigit 1 (some .boolean)) ∈ gT := gp mP25 mG25 22 rfl
theorem m_1716 : (Cond.methodLink RX12 194 yX12_isSign) ∈ gT := gp mP25 mG25 23 rfl
theorem m_1717 : (Cond.static yX12_isSign) ∈ gT := gp mP25 mG25 24 rfl
theorem m_1718 : (Cond.code yX12_isSign cX12_isSign 1 (some .boolean)) ∈ gT := gp mP25 mG25 25 rfl
/-- the byte k behind the place a, or none -/
def hrF (f : Nat → Int32) (a s k : Nat) : Int32 := if a + k < s then f (a + k) else -1
def inF (a b c : Int32) : Int32 := if c < a then 0 else if b < c then 0 else 1
theorem inF_a {a b c : Int32} (h : c < a) : 0 = inF a b c := by unfold inF; rw [if_pos h]
theorem inF_b {a b c : Int32} (h : ¬ c < a) (h2 : b < c) : 0 = inF a b c := by unfold inF; rw [if_neg h, if_pos h2]
theorem inF_1 {a b c : Int32} (h : ¬ c < a) (h2 : ¬ b < c) : 1 = inF a b c := by unfold inF; rw [if_neg h, if_neg h2]
theorem hr_lt {f : Nat → Int32} {a s k : Nat} {x : Int32} (e : x = hrF f a s k) (h : ¬ x = -1) : a + k < s := by
  unfold hrF at e
  by_cases h9 : a + k < s
  · exact h9
  · rw [if_neg h9] at e; exact absurd e h
theorem hr_in {f : Nat → Int32} {a s k : Nat} {x y p q : Int32} (e : x = hrF f a s k) (e2 : y = inF p q x) (hp : inF p q (-1) = 0) (h : ¬ y = 0) : a + k < s :=
  hr_lt e (fun h9 => h (by rw [e2, h9, hp]))
theorem hr_pos {f : Nat → Int32} {a s k : Nat} {x y x0 y0 p q : Int32} (d : x0 = hrF f a s 0) (d2 : y0 = inF p q x0) (h0 : ¬ y0 = 0) (e : x = hrF f a s k) (e2 : y = inF p q x) (h : y = 0) : 1 ≤ k := by
  rcases Nat.eq_zero_or_pos k with h9 | h9
  · subst h9
    exact absurd (by rw [d2, d, ← e, ← e2]; exact h) h0
  · exact h9
/-- the last place of a name -/
def fndF (f : Nat → Int64) (w : Int64) (fr : Nat) : Nat → Int32
  | 0 => -1
  | k + 1 => if f (fr + k) = w then nI k else fndF f w fr k
theorem fnd_in (f : Nat → Int64) (w : Int64) (fr n : Nat) : fndF f w fr n = -1 ∨ ∃ j : Nat, j < n ∧ fndF f w fr n = nI j := by
  induction n with
  | zero => exact Or.inl rfl
  | succ n ih =>
    by_cases h : f (fr + n) = w
    · exact Or.inr ⟨n, by omega, by show (if _ then _ else _) = _; rw [if_pos h]⟩
    · have e : fndF f w fr (n + 1) = fndF f w fr n := by show (if _ then _ else _) = _; rw [if_neg h]
      rw [e]
      rcases ih with ih | ⟨j, hj, ej⟩
      · exact Or.inl ih
      · exact Or.inr ⟨j, by omega, ej⟩
theorem fnd_y {f : Nat → Int64} {w x : Int64} {fr k : Nat} {v : Int32} (hk : fr + k < 2 ^ 31) (ex : x = f (nI (fr + k)).toNatClampNeg) (h : v = 0 ↔ x = w) (hv : v = 0) : nI k = fndF f w fr (k + 1) := by
  rw [nI_clamp hk] at ex
  show _ = (if _ then _ else _)
  rw [if_pos (ex.symm.trans (h.mp hv))]
theorem fnd_n {f : Nat → Int64} {w x : Int64} {fr k : Nat} {v r : Int32} (hk : fr + k < 2 ^ 31) (ex : x = f (nI (fr + k)).toNatClampNeg) (h : v = 0 ↔ x = w) (hv : ¬ v = 0) (er : r = fndF f w fr k) : r = fndF f w fr (k + 1) := by
  rw [nI_clamp hk] at ex
  show _ = (if _ then _ else _)
  rw [if_neg (fun h9 => hv (h.mpr (ex.trans h9)))]
  exact er
theorem fnd_pos {f : Nat → Int64} {w : Int64} {fr n : Nat} {x r : Int32} (ex : x = fndF f w fr n) (h : ¬ x < 0) (er : r = fndF f w fr n) : ∃ j : Nat, j < n ∧ r = nI j := by
  rcases fnd_in f w fr n with h9 | ⟨j, hj, ej⟩
  · exact absurd (by rw [ex, h9]; decide) h
  · exact ⟨j, hj, er.trans ej⟩

/-! the reference's TOKENS -/
def byN (g : Nat → Int32) : Prop := ∀ i, i < 1600 → ¬ g i < 0 ∧ g i ≤ 255
theorem hr_at {f : Nat → Int32} {a n k : Nat} {x : Int32} (e : x = hrF f a n k) (h : ¬ x = -1) : a + k < n ∧ x = f (a + k) := by
  unfold hrF at e
  by_cases h9 : a + k < n
  · rw [if_pos h9] at e; exact ⟨h9, e⟩
  · rw [if_neg h9] at e; exact absurd e h
theorem hr_bl {f : Nat → Int32} {a n : Nat} {x : Int32} (e : x = hrF f a n 0) (h : x = 32 ∨ x = 10) : a < n ∧ isBl (f a) := by
  obtain ⟨h1, h2⟩ := hr_at e (by rcases h with h | h <;> (rw [h]; decide))
  have h3 : x = f a := h2
  exact ⟨h1, by rw [← h3]; exact h⟩
theorem hr_nb {f : Nat → Int32} {a n : Nat} {x y : Int32} (e : x = hrF f a n 0) (e2 : y = hrF f a n 0) (h : ¬ x = 32) (h2 : ¬ y = 10) : n ≤ a ∨ ¬ isBl (f a) := by
  rcases Nat.lt_or_ge a n with h9 | h9
  · right
    have h8 : hrF f a n 0 = f a := if_pos h9
    rw [h8] at e e2
    exact fun h7 => h7.elim (fun h6 => h (e.trans h6)) (fun h6 => h2 (e2.trans h6))
  · exact Or.inl h9
theorem hr_no {f : Nat → Int32} {a n : Nat} {x : Int32} (e : x = hrF f a n 0) (hb : byN f) (hn : n ≤ 1600) (h : x < 0) : n ≤ a := by
  rcases Nat.lt_or_ge a n with h9 | h9
  · have h8 : hrF f a n 0 = f a := if_pos h9
    rw [h8] at e
    exact absurd (e ▸ h) (hb a (by omega)).1
  · exact h9
theorem hr_ok {f : Nat → Int32} {a n : Nat} {x : Int32} (e : x = hrF f a n 0) (h : ¬ x < 0) : a < n ∧ x = f a := hr_at e (fun h9 => h (by rw [h9]; decide))
theorem ge_nlt {x : Int32} (h : 0 ≤ x) : ¬ x < 0 := by
  rw [fa_le] at h; rw [fa_lt]; omega
theorem nge_lt {x : Int32} (h : ¬ 0 ≤ x) : x < 0 := by
  rw [fa_le] at h; rw [fa_lt]; omega
theorem inF_iff {a b c : Int32} : inF a b c = 0 ↔ ¬ (¬ c < a ∧ ¬ b < c) := by
  unfold inF
  by_cases h : c < a
  · rw [if_pos h]; exact ⟨fun _ h9 => h9.1 h, fun _ => rfl⟩
  · rw [if_neg h]
    by_cases h2 : b < c
    · rw [if_pos h2]; exact ⟨fun _ h9 => h9.2 h2, fun _ => rfl⟩
    · rw [if_neg h2]; exact ⟨fun h9 => absurd h9 (by decide), fun h9 => absurd ⟨h, h2⟩ h9⟩
theorem hr_l {f : Nat → Int32} {a n k : Nat} {x y p q : Int32} (e : x = hrF f a n k) (e2 : y = inF p q x) (hp : inF p q (-1) = 0) (h : ¬ y = 0) : a + k < n ∧ x = f (a + k) ∧ (¬ f (a + k) < p ∧ ¬ q < f (a + k)) := by
  obtain ⟨h1, h2⟩ := hr_at e (fun h9 => h (by rw [e2, h9, hp]))
  refine ⟨h1, h2, ?_⟩
  rw [← h2]
  by_cases h9 : ¬ x < p ∧ ¬ q < x
  · exact h9
  · exact absurd (by rw [e2]; exact inF_iff.mpr h9) h
theorem hr_nl {f : Nat → Int32} {a n k : Nat} {x y p q : Int32} (e : x = hrF f a n k) (e2 : y = inF p q x) (h : y = 0) : n ≤ a + k ∨ ¬ (¬ f (a + k) < p ∧ ¬ q < f (a + k)) := by
  rcases Nat.lt_or_ge (a + k) n with h9 | h9
  · right
    have h8 : hrF f a n k = f (a + k) := if_pos h9
    rw [← h8, ← e]
    exact inF_iff.mp (e2.symm.trans h)
  · exact Or.inl h9
theorem c56_go {f : Nat → Int32} {s k : Nat} {w z1 z2 : Int64} {x : Int32} (hw : w = c56 f s k) (hx : x = f (s + k)) (e1 : (w : Int64) <<< ((8 : Int32).toInt64 &&& 63) = z1) (e2 : (x : Int32).toInt64 = z2) : z1 ||| z2 = c56 f s (k + 1) := by
  rw [← e1, ← e2, hw, hx]; rfl
theorem dec_go2 {f : Nat → Int32} {s k : Nat} {w x : Int32} (hw : w = dec10 f s k) (hx : x = f (s + k)) : 10 * w + x - 48 = dec10 f s (k + 1) := by
  rw [hw, hx]
  show _ = dec10 f s k * 10 + (f (s + k) - 48)
  rw [Int32.mul_comm, Int32.sub_eq_add_neg, Int32.sub_eq_add_neg, Int32.add_assoc]
section TR
variable {f : Nat → Int32} {n a s : Nat} {wo : Int64} {nu : Int32}
theorem srt_lt {k : Nat} (h : k < 100) : srt k = k := if_neg (by omega)
theorem tr_end (hs : stt f n a = s) (h : n ≤ s) : tkR f n a s 0 (nI s) nu wo := by
  have hk : knd f n a = 0 := by unfold knd kndS; rw [hs, if_pos h]
  refine ⟨by rw [hs], by rw [hk]; rfl, fun _ => ?_, fun h9 => absurd h9 (by decide), fun h9 => absurd h9 (by decide)⟩
  unfold fin finS; rw [hs, if_pos h]
theorem tr_long {m at9 : Nat} (hs : stt f n a = s) (hl : s < n ∧ isLt (f s)) (hw : wen f n s = s + m) (h8 : 8 < m) : tkR f n a at9 3 (nI s) nu wo := by
  have hk : knd f n a = 3 := by unfold knd kndS; rw [hs, if_neg (by omega), if_pos hl.2, if_pos (by omega)]
  exact ⟨by rw [hs], by rw [hk]; rfl, fun h9 => absurd hk h9, fun h9 => absurd h9 (by decide), fun h9 => absurd h9 (by decide)⟩
theorem tr_word {m : Nat} (hs : stt f n a = s) (hl : s < n ∧ isLt (f s)) (hw : wen f n s = s + m) (h8 : m ≤ 8) (hwo : wo = c56 f s m) : tkR f n a (s + m) 1 (nI s) nu wo := by
  have hk : knd f n a = kof (c27 f s m) := by unfold knd kndS; rw [hs, if_neg (by omega), if_pos hl.2, hw, if_neg (by omega), show s + m - s = m by omega]
  have h1 : srt (knd f n a) = 1 := by
    rw [hk]; unfold srt
    rcases kof_or (c27 f s m) with h | h
    · rw [if_neg (by omega), h]
    · rw [if_pos h.1]
  refine ⟨by rw [hs], by rw [h1]; rfl, fun _ => ?_, fun _ => ?_, fun h9 => absurd h9 (by decide)⟩
  · unfold fin finS; rw [hs, if_neg (by omega), if_pos hl.2, hw]
  · unfold wrd; rw [hs, hw, show s + m - s = m by omega, hwo]
theorem tr_badn {m at9 : Nat} (hs : stt f n a = s) (hl : ¬ isLt (f s)) (hd : s < n ∧ isDg (f s)) (hw : den f n s = s + m) (h8 : 4 < m ∨ (s + m < n ∧ isLt (f (s + m)))) : tkR f n a at9 3 (nI s) nu wo := by
  have hk : knd f n a = 3 := by unfold knd kndS; rw [hs, if_neg (by omega), if_neg hl, if_pos hd.2, hw, if_pos (h8.imp (fun h => by omega) id)]
  exact ⟨by rw [hs], by rw [hk]; rfl, fun h9 => absurd hk h9, fun h9 => absurd h9 (by decide), fun h9 => absurd h9 (by decide)⟩
theorem tr_num {m : Nat} (hs : stt f n a = s) (hl : ¬ isLt (f s)) (hd : s < n ∧ isDg (f s)) (hw : den f n s = s + m) (h4 : m ≤ 4) (h8 : n ≤ s + m ∨ ¬ isLt (f (s + m))) (hnu : nu = dec10 f s m) : tkR f n a (s + m) 2 (nI s) nu wo := by
  have hk : knd f n a = 2 := by unfold knd kndS; rw [hs, if_neg (by omega), if_neg hl, if_pos hd.2, hw, if_neg (fun h9 => h9.elim (fun h => by omega) (fun h => h8.elim (fun h7 => by omega) (fun h7 => h7 h.2)))]
  refine ⟨by rw [hs], by rw [hk]; rfl, fun _ => ?_, fun h9 => absurd h9 (by decide), fun _ => ?_⟩
  · unfold fin finS; rw [hs, if_neg (by omega), if_neg hl, if_pos hd.2, hw]
  · rw [hnu, ← (num_le hk).2, hs, hw, show s + m - s = m by omega]
abbrev sgP (x : Int32) : Prop := x = 59 ∨ x = 40 ∨ x = 41 ∨ x = 60 ∨ x = 62 ∨ x = 61 ∨ x = 43 ∨ x = 45 ∨ x = 42 ∨ x = 47 ∨ x = 37
theorem byU_id {x : Int32} (h : ¬ x < 0 ∧ x ≤ 255) : ∃ j : Nat, j ≤ 255 ∧ x = nI j ∧ byU x = j := by
  obtain ⟨j, hj, e⟩ := nI_of2 (x := x) (M := 255) (n := 255) (by decide) h.1 h.2
  refine ⟨j, hj, e, ?_⟩
  unfold byU
  rw [e, pk_andN (by omega) (m := 255) 8 (by decide), nI_clamp (by omega), Nat.mod_eq_of_lt (by omega)]
theorem sg_dec (j : Nat) (h : j ≤ 255) : (sgP (nI j) → sgK j = j ∧ 37 ≤ j ∧ j ≤ 62) ∧ (¬ sgP (nI j) → sgK j = 3) := by
  have h1 : (List.range 256).all (fun j => decide ((sgP (nI j) → sgK j = j ∧ 37 ≤ j ∧ j ≤ 62) ∧ (¬ sgP (nI j) → sgK j = 3))) = true := by decide +kernel
  exact of_decide_eq_true (List.all_eq_true.mp h1 j (List.mem_range.mpr (by omega)))
theorem tr_sgn {c : Int32} (hs : stt f n a = s) (h : s < n) (hn : n ≤ 1600) (hb : byN f) (hc : c = f s) (hl : ¬ isLt (f s)) (hd : ¬ isDg (f s)) (hg : sgP c) : tkR f n a (s + 1) c (nI s) nu wo := by
  obtain ⟨j, hj, e, hu⟩ := byU_id (hb s (by omega))
  have hg2 := (sg_dec j hj).1 (by rw [← e, ← hc]; exact hg)
  have hk : knd f n a = j := by unfold knd kndS; rw [hs, if_neg (by omega), if_neg hl, if_neg hd, hu, hg2.1]
  refine ⟨by rw [hs], by rw [hk, srt_lt (by omega), hc, e], fun _ => ?_, fun h9 => ?_, fun h9 => ?_⟩
  · unfold fin finS; rw [hs, if_neg (by omega), if_neg hl, if_neg hd]
  · rw [h9] at hg; exact absurd hg (by decide)
  · rw [h9] at hg; exact absurd hg (by decide)
theorem tr_sgb {c : Int32} {at9 : Nat} (hs : stt f n a = s) (h : s < n) (hn : n ≤ 1600) (hb : byN f) (hc : c = f s) (hl : ¬ isLt (f s)) (hd : ¬ isDg (f s)) (hg : ¬ sgP c) : tkR f n a at9 3 (nI s) nu wo := by
  obtain ⟨j, hj, e, hu⟩ := byU_id (hb s (by omega))
  have hk : knd f n a = 3 := by unfold knd kndS; rw [hs, if_neg (by omega), if_neg hl, if_neg hd, hu, (sg_dec j hj).2 (by rw [← e, ← hc]; exact hg)]
  exact ⟨by rw [hs], by rw [hk]; rfl, fun h9 => absurd hk h9, fun h9 => absurd h9 (by decide), fun h9 => absurd h9 (by decide)⟩
end TR
section TS
variable {f : Nat → Int32} {n a at9 : Nat} {so pl nu : Int32} {wo : Int64}
theorem so_eq {k : Nat} (h : tkR f n a at9 so pl nu wo) (hk : k < 100) (h1 : ¬ k = 1) : so = nI k ↔ knd f n a = k := by
  have h9 := knd_le f n a
  rw [h.2.1]
  unfold srt
  split
  · next h8 =>
    rw [nI_eq (by omega) (by omega)]; omega
  · rw [nI_eq (by omega) (by omega)]
theorem so_word (h : tkR f n a at9 so pl nu wo) : so = 1 ↔ (knd f n a = 1 ∨ 100 ≤ knd f n a) := by
  have h9 := knd_le f n a
  rw [h.2.1]
  unfold srt
  split
  · next h8 => exact ⟨fun _ => Or.inr h8, fun _ => rfl⟩
  · next h8 =>
    rw [show (1 : Int32) = nI 1 from rfl, nI_eq (by omega) (by omega)]; omega
theorem isw_1 {k : Nat} {lw : Int64} {v : Int32} (h : tkR f n a at9 so pl nu wo) (hk : k < 24) (hs : so = 1) (hl : lw = owC k) (ev : v = 0 ↔ wo = lw) (hv : v = 0) : knd f n a = 100 + k :=
  (own_wrd hk ((so_word h).mp hs)).mpr (by rw [← h.2.2.2.1 hs, ev.mp hv, hl])
theorem isw_0 {k : Nat} {lw : Int64} {v : Int32} (h : tkR f n a at9 so pl nu wo) (hk : k < 24) (hl : lw = owC k) (ev : v = 0 ↔ wo = lw) (hv : ¬ v = 0) : ¬ knd f n a = 100 + k := by
  intro h9
  have hs : so = 1 := (so_word h).mpr (Or.inr (by omega))
  exact hv (ev.mpr (by rw [h.2.2.2.1 hs, hl]; exact (own_wrd hk (Or.inr (by omega))).mp h9))
theorem isw_n {k : Nat} (h : tkR f n a at9 so pl nu wo) (hs : ¬ so = 1) : ¬ knd f n a = 100 + k := fun h9 => hs ((so_word h).mpr (Or.inr (by omega)))
theorem own_no (h : tkR f n a at9 so pl nu wo) (hs : so = 1) (hn : ∀ k, k < 24 → ¬ wo = owC k) : knd f n a = 1 := by
  rcases (so_word h).mp hs with h9 | h9
  · exact h9
  · have h8 := knd_le f n a
    exact absurd (by rw [h.2.2.2.1 hs]; exact (own_wrd (k := knd f n a - 100) (by omega) (Or.inr h9)).mp (by omega)) (hn (knd f n a - 100) (by omega))
theorem own_yes {k : Nat} {lw : Int64} {v : Int32} (h : tkR f n a at9 so pl nu wo) (hs : so = 1) (hk : k < 24) (hl : lw = owC k) (ev : v = 0 ↔ wo = lw) (hv : v = 0) : ¬ knd f n a = 1 := by
  have := isw_1 h hk hs hl ev hv
  omega
theorem own_nn (h : tkR f n a at9 so pl nu wo) (hs : ¬ so = 1) : ¬ knd f n a = 1 := fun h9 => hs ((so_word h).mpr (Or.inl h9))
theorem flt_ofR {co fa : Nat} {p2 : Int32} (h : tkR f n a at9 so pl nu wo) (h1 : fa = if so = 3 then 1 else co) (h2 : p2 = pl) : flt f n a co (nI fa) p2 := by
  unfold flt
  refine ⟨?_, by rw [h2, h.1]⟩
  rw [h1]
  by_cases e : so = 3
  · rw [if_pos e, if_pos ((so_eq h (k := 3) (by decide) (by decide)).mp e)]
  · rw [if_neg e, if_neg (fun h9 => e ((so_eq h (k := 3) (by decide) (by decide)).mpr h9))]
end TS
/-- the names, as the reference holds them -/
def nmR (f : Nat → Int32) (n : Nat) (np : Nat → Nat) (c fr : Nat) (gn : Nat → Int64) : Prop := (∀ j, j < c → gn (fr + j) = wrd f n (np j) ∧ knd f n (np j) = 1) ∧ ∀ i j, i < j → j < c → ¬ nam f n (np i) = nam f n (np j)
theorem fndF_eq {f : Nat → Int32} {n a fr c : Nat} {np : Nat → Nat} {gn : Nat → Int64} {w : Int64} (h : nmR f n np c fr gn) (hk : knd f n a = 1) (hw : w = wrd f n a) : (fnd f n np c a < c ∧ fndF gn w fr c = nI (fnd f n np c a)) ∨ (¬ fnd f n np c a < c ∧ fndF gn w fr c = -1) := by
  have key : ∀ j, j < c → (gn (fr + j) = w ↔ nam f n (np j) = nam f n a) := by
    intro j hj
    rw [(h.1 j hj).1, hw]
    exact (nam_wrd (Or.inl (h.1 j hj).2) (Or.inl hk)).symm
  have hnone : ∀ m, m ≤ c → (∀ j, j < m → ¬ nam f n (np j) = nam f n a) → fndF gn w fr m = -1 := by
    intro m
    induction m with
    | zero => intro _ _; rfl
    | succ m ih =>
      intro hm hn
      show (if _ then _ else _) = _
      rw [if_neg (fun h9 => hn m (by omega) ((key m (by omega)).mp h9))]
      exact ih (by omega) (fun j hj => hn j (by omega))
  rcases fdF_in f n np a c 0 with ⟨h1, h2⟩ | ⟨h1, h2, h3, h4⟩
  · right
    refine ⟨by unfold fnd; omega, hnone c (Nat.le_refl _) (fun j hj => h2 j (Nat.zero_le _) (by omega))⟩
  · left
    have hj : fnd f n np c a < c := by unfold fnd; omega
    refine ⟨hj, ?_⟩
    have hat : nam f n (np (fnd f n np c a)) = nam f n a := h3
    generalize fnd f n np c a = q at hj hat
    have : ∀ m, q < m → m ≤ c → fndF gn w fr m = nI q := by
      intro m
      induction m with
      | zero => intro h9; omega
      | succ m ih =>
        intro h9 hm
        show (if _ then _ else _) = _
        by_cases e : q = m
        · subst e
          rw [if_pos ((key q (by omega)).mpr hat)]
        · rw [if_neg (fun h8 => h.2 q m (by omega) (by omega) (hat.trans ((key m (by omega)).mp h8).symm))]
          exact ih (by omega) (by omega)
    exact this c hj (Nat.le_refl _)
theorem nmR_put {f : Nat → Int32} {n c b fr : Nat} {np : Nat → Nat} {fd g : Nat → Int64} {x : Int64} (hc : fr + c < 2 ^ 31) (h : nmR f n np c fr fd) (hx : x = wrd f n b) (hk : knd f n b = 1) (hnew : ¬ fnd f n np c b < c) (e : vp_updL fd (nI (fr + c)).toNatClampNeg x = g) : nmR f n (updN np c b) (c + 1) fr g := by
  rw [nI_clamp hc] at e
  subst e
  have h5 : ∀ j, j < c → ¬ nam f n (np j) = nam f n b := by
    intro j hj
    rcases fdF_in f n np b c 0 with ⟨h1, h2⟩ | ⟨h1, h2, h3, h4⟩
    · exact h2 j (Nat.zero_le _) (by omega)
    · exact absurd (show fnd f n np c b < c by unfold fnd; omega) hnew
  refine ⟨fun j hj => ?_, fun i j hij hj => ?_⟩
  · by_cases q : j = c
    · subst q
      have e1 : updN np j b j = b := if_pos rfl
      rw [e1]
      refine ⟨?_, hk⟩
      show (if _ then _ else _) = _
      rw [if_pos rfl, hx]
    · have e1 : updN np c b j = np j := if_neg q
      rw [e1]
      have e2 : vp_updL fd (fr + c) x (fr + j) = fd (fr + j) := if_neg (by omega)
      rw [e2]
      exact h.1 j (by omega)
  · have e1 : updN np c b i = np i := if_neg (by omega)
    rw [e1]
    by_cases q : j = c
    · subst q
      have e2 : updN np j b j = b := if_pos rfl
      rw [e2]; exact h5 i hij
    · have e2 : updN np c b j = np j := if_neg q
      rw [e2]; exact h.2 i j hij (by omega)
/-- other names in the one row stay -/
theorem nmR_other {f : Nat → Int32} {n c fr k : Nat} {np : Nat → Nat} {fd g : Nat → Int64} {x : Int64} (hk : k < 2 ^ 31) (h : nmR f n np c fr fd) (ho : k < fr ∨ fr + c ≤ k) (e : vp_updL fd (nI k).toNatClampNeg x = g) : nmR f n np c fr g := by
  rw [nI_clamp hk] at e
  subst e
  refine ⟨fun j hj => ?_, h.2⟩
  have e2 : vp_updL fd k x (fr + j) = fd (fr + j) := if_neg (by omega)
  rw [e2]; exact h.1 j hj
def tolS (f : Nat → Int32) (n k mo a : Nat) : ER (Nat × Nat) := bnd (takS f n k a) fun b => numS f n mo b
theorem apR_mk {f g1 g2 g3 g4 : Nat → Int32} {n : Nat} {x x1 x2 x3 x4 y1 y2 y3 y4 : Int32} (hn : n + 4 ≤ 1600) (e1 : x1 = y1 &&& 255) (d1 : y1 = x >>> 24) (g1e : upd f (nI n).toNatClampNeg x1 = g1) (e2 : x2 = y2 &&& 255) (d2 : y2 = x >>> 16) (g2e : upd g1 (nI (n + 1)).toNatClampNeg x2 = g2) (e3 : x3 = y3 &&& 255) (d3 : y3 = x >>> 8) (g3e : upd g2 (nI (n + 1 + 1)).toNatClampNeg x3 = g3) (e4 : x4 = y4 &&& 255) (d4 : y4 = x >>> 0) (g4e : upd g3 (nI (n + 1 + 1 + 1)).toNatClampNeg x4 = g4) : g4 = apR f n x := by
  subst e1 e2 e3 e4
  rw [nI_clamp (by omega)] at g1e g2e g3e g4e
  unfold apR u8
  rw [← d1, ← d2, ← d3, ← d4, g1e, g2e, g3e, g4e]
theorem ow_0 : (2003792484 : Int64) = owC 0 := by decide +kernel
theorem ow_1 : (427020609126 : Int64) = owC 1 := by decide +kernel
theorem ow_2 : (7168366 : Int64) = owC 2 := by decide +kernel
theorem ow_3 : (495873782885 : Int64) = owC 3 := by decide +kernel
theorem ow_4 : (28526 : Int64) = owC 4 := by decide +kernel
theorem ow_5 : (1650549611 : Int64) = owC 5 := by decide +kernel
theorem ow_6 : (1819243380 : Int64) = owC 6 := by decide +kernel
theorem ow_7 : (1953854062 : Int64) = owC 7 := by decide +kernel
theorem ow_8 : (2003398244 : Int64) = owC 8 := by decide +kernel
theorem ow_9 : (1685217655 : Int64) = owC 9 := by decide +kernel
theorem ow_10 : (24948 : Int64) = owC 10 := by decide +kernel
theorem ow_11 : (508675318629 : Int64) = owC 11 := by decide +kernel
theorem ow_12 : (7955827 : Int64) = owC 12 := by decide +kernel
theorem ow_13 : (29807 : Int64) = owC 13 := by decide +kernel
theorem ow_14 : (28530 : Int64) = owC 14 := by decide +kernel
theorem ow_15 : (6385252 : Int64) = owC 15 := by decide +kernel
theorem ow_16 : (7237492 : Int64) = owC 16 := by decide +kernel
theorem ow_17 : (6709618 : Int64) = owC 17 := by decide +kernel
theorem ow_18 : (422726039411 : Int64) = owC 18 := by decide +kernel
theorem ow_19 : (1936617335 : Int64) = owC 19 := by decide +kernel
theorem ow_20 : (1819242087 : Int64) = owC 20 := by decide +kernel
theorem ow_21 : (1819243876 : Int64) = owC 21 := by decide +kernel
theorem ow_22 : (108187682958948 : Int64) = owC 22 := by decide +kernel
theorem ow_23 : (109299962372965 : Int64) = owC 23 := by decide +kernel
theorem own_all {w : Int64} (h0 : ¬ w = owC 0) (h1 : ¬ w = owC 1) (h2 : ¬ w = owC 2) (h3 : ¬ w = owC 3) (h4 : ¬ w = owC 4) (h5 : ¬ w = owC 5) (h6 : ¬ w = owC 6) (h7 : ¬ w = owC 7) (h8 : ¬ w = owC 8) (h9 : ¬ w = owC 9) (h10 : ¬ w = owC 10) (h11 : ¬ w = owC 11) (h12 : ¬ w = owC 12) (h13 : ¬ w = owC 13) (h14 : ¬ w = owC 14) (h15 : ¬ w = owC 15) (h16 : ¬ w = owC 16) (h17 : ¬ w = owC 17) (h18 : ¬ w = owC 18) (h19 : ¬ w = owC 19) (h20 : ¬ w = owC 20) (h21 : ¬ w = owC 21) (h22 : ¬ w = owC 22) (h23 : ¬ w = owC 23) : ∀ k, k < 24 → ¬ w = owC k := by
  intro k hk
  rcases (show k = 0 ∨ k = 1 ∨ k = 2 ∨ k = 3 ∨ k = 4 ∨ k = 5 ∨ k = 6 ∨ k = 7 ∨ k = 8 ∨ k = 9 ∨ k = 10 ∨ k = 11 ∨ k = 12 ∨ k = 13 ∨ k = 14 ∨ k = 15 ∨ k = 16 ∨ k = 17 ∨ k = 18 ∨ k = 19 ∨ k = 20 ∨ k = 21 ∨ k = 22 ∨ k = 23 by omega) with rfl | rfl | rfl | rfl | rfl | rfl | rfl | rfl | rfl | rfl | rfl | rfl | rfl | rfl | rfl | rfl | rfl | rfl | rfl | rfl | rfl | rfl | rfl | rfl <;> assumption
theorem byN_put {g h : Nat → Int32} {k : Nat} {x y : Int32} (hb : byN g) (ex : x = y &&& 255) (e : upd g (nI k).toNatClampNeg x = h) : byN h := by
  subst e
  intro i hi
  by_cases q : i = (nI k).toNatClampNeg
  · rw [q, pk_us, ex]
    obtain ⟨j, hj, e2⟩ := pk_andE y (m := 255) 8 (by decide)
    rw [e2]
    have h8 : (2 : Nat) ^ 8 = 256 := rfl
    exact ⟨nI_pos (by omega), nI_le (b := 255) (by omega) (by decide)⟩
  · rw [pk_un q]; exact hb i hi
theorem gdX12_four_0 : decode cX12_four 0 = .ok (.bipush 24, 2) ∧ decode cX12_four 2 = .ok (.istore_n 2, 1) ∧ decode cX12_four 3 = .ok (.iload_n 2, 1) ∧ decode cX12_four 4 = .ok (.ifCond .lt 35, 3) ∧ decode cX12_four 7 = .ok (.aload_n 0, 1) ∧ decode cX12_four 8 = .ok (.getfield 7, 3) := by decide +kernel
theorem dX12_four_0 : decode cX12_four 0 = .ok (.bipush 24, 2) := gdX12_four_0.1
theorem dX12_four_2 : decode cX12_four 2 = .ok (.istore_n 2, 1) := gdX12_four_0.2.1
theorem dX12_four_3 : decode cX12_four 3 = .ok (.iload_n 2, 1) := gdX12_four_0.2.2.1
theorem dX12_four_4 : decode cX12_four 4 = .ok (.ifCond .lt 35, 3) := gdX12_four_0.2.2.2.1
theorem dX12_four_7 : decode cX12_four 7 = .ok (.aload_n 0, 1) := gdX12_four_0.2.2.2.2.1
theorem dX12_four_8 : decode cX12_four 8 = .ok (.getfield 7, 3) := gdX12_four_0.2.2.2.2.2
set_option maxRecDepth 20000 in
theorem i_X12 : ∀ w ∈ u_ws RX12 TX12 89, w ∈ gT := gin [1502, 1504, 1506, 1508, 1510, 1512, 1514, 1516, 1518, 1520, 1522, 1524, 1526, 1528, 1530, 1532, 1534, 1536, 1538, 1540, 1542, 1544, 1546, 1548, 1550, 1552, 1554, 1556, 1558, 1560, 1562, 1564, 1566, 1568, 1570, 1572, 1574, 1576, 1578, 1580, 1582, 1584, 1586, 1588, 1590, 1592, 1594, 1596, 1598, 1600, 1602, 1604, 1606, 1608, 1610, 1612, 1614, 1616, 1618, 1620, 1622, 1624, 1626, 1628, 1630, 1632, 1634, 1636, 1638, 1640, 1642, 1644, 1646, 1648, 1650, 1652, 1654, 1656, 1658, 1660, 1662, 1664, 1666, 1668, 1670, 1672, 1674, 1676, 1678] (by decide +kernel) (by decide +kernel)
theorem gdX12_four_11 : decode cX12_four 11 = .ok (.aload_n 0, 1) ∧ decode cX12_four 12 = .ok (.getfield 157, 3) ∧ decode cX12_four 15 = .ok (.iload_n 1, 1) ∧ decode cX12_four 16 = .ok (.iload_n 2, 1) ∧ decode cX12_four 17 = .ok (.ishr, 1) ∧ decode cX12_four 18 = .ok (.sipush 255, 3) ∧ decode cX12_four 21 = .ok (.iand, 1) ∧ decode cX12_four 22 = .ok (.iastore, 1) ∧ decode cX12_four 23 = .ok (.aload_n 0, 1) ∧ decode cX12_four 24 = .ok (.dup, 1) ∧ decode cX12_four 25 = .ok (.getfield 157, 3) ∧ decode cX12_four 28 = .ok (.iconst 1, 1) := by decide +kernel
theorem dX12_four_11 : decode cX12_four 11 = .ok (.aload_n 0, 1) := gdX12_four_11.1
theorem dX12_four_12 : decode cX12_four 12 = .ok (.getfield 157, 3) := gdX12_four_11.2.1
theorem dX12_four_15 : decode cX12_four 15 = .ok (.iload_n 1, 1) := gdX12_four_11.2.2.1
theorem dX12_four_16 : decode cX12_four 16 = .ok (.iload_n 2, 1) := gdX12_four_11.2.2.2.1
theorem dX12_four_17 : decode cX12_four 17 = .ok (.ishr, 1) := gdX12_four_11.2.2.2.2.1
theorem dX12_four_18 : decode cX12_four 18 = .ok (.sipush 255, 3) := gdX12_four_11.2.2.2.2.2.1
theorem dX12_four_21 : decode cX12_four 21 = .ok (.iand, 1) := gdX12_four_11.2.2.2.2.2.2.1
theorem dX12_four_22 : decode cX12_four 22 = .ok (.iastore, 1) := gdX12_four_11.2.2.2.2.2.2.2.1
theorem dX12_four_23 : decode cX12_four 23 = .ok (.aload_n 0, 1) := gdX12_four_11.2.2.2.2.2.2.2.2.1
theorem dX12_four_24 : decode cX12_four 24 = .ok (.dup, 1) := gdX12_four_11.2.2.2.2.2.2.2.2.2.1
theorem dX12_four_25 : decode cX12_four 25 = .ok (.getfield 157, 3) := gdX12_four_11.2.2.2.2.2.2.2.2.2.2.1
theorem dX12_four_28 : decode cX12_four 28 = .ok (.iconst 1, 1) := gdX12_four_11.2.2.2.2.2.2.2.2.2.2.2
theorem gdX12_four_29 : decode cX12_four 29 = .ok (.iadd, 1) ∧ decode cX12_four 30 = .ok (.putfield 157, 3) ∧ decode cX12_four 33 = .ok (.iinc 2 (-8), 3) ∧ decode cX12_four 36 = .ok (.goto (-33), 3) ∧ decode cX12_four 39 = .ok (.return_, 1) := by decide +kernel
theorem dX12_four_29 : decode cX12_four 29 = .ok (.iadd, 1) := gdX12_four_29.1
theorem dX12_four_30 : decode cX12_four 30 = .ok (.putfield 157, 3) := gdX12_four_29.2.1
theorem dX12_four_33 : decode cX12_four 33 = .ok (.iinc 2 (-8), 3) := gdX12_four_29.2.2.1
theorem dX12_four_36 : decode cX12_four 36 = .ok (.goto (-33), 3) := gdX12_four_29.2.2.2.1
theorem dX12_four_39 : decode cX12_four 39 = .ok (.return_, 1) := gdX12_four_29.2.2.2.2
set_option maxHeartbeats 1000000 in
set_option maxRecDepth 100000 in
theorem r_four (l : Launch) (D : va_G) (cy : Nat → ClassId) (m0 : Nat) (Mtape : Nat) (MnName : Nat) (MnStep : Nat) (MnArg : Nat) (MnMany : Nat) (Mstep : Nat) (Marg : Nat) (Mmany : Nat) (Mopen : Nat) (Mvalues : Nat) (MnHasForm : Nat) (MhasForm : Nat) (Masks : Nat) (MnLoud : Nat) (MnCliffAt : Nat) (MnSnow : Nat) (MnManAt : Nat) (MnVoice : Nat) (MnOn : Nat) (Mloud : Nat) (McliffAt : Nat) (MsnowTold : Nat) (MmanAt : Nat) (Mvoice : Nat) (Mon : Nat) (MnYes : Nat) (Myes : Nat) (Mnow : Nat) (Mcry : Nat) (Msnow : Nat) (Mecho : Nat) (Mwere : Nat) (Mlies : Nat) (Mspots : Nat) (Msteps : Nat) (MfromState : Nat) (MbyWord : Nat) (Mqueue : Nat) (MsoundCliff : Nat) (MsoundLong : Nat) (MsoundCame : Nat) (MsoundTold : Nat) (MsoundUntold : Nat) (Mstands : Nat) (Mtally : Nat) (MhasBox : Nat) (Mboxes : Nat) (Gtape : Nat → Int32) (Itaped : Nat) (Ifault : Nat) (IfaultPlace : Int32) (Iat : Nat) (Isize : Nat) (Isort : Int32) (Iplace : Int32) (Inumber : Int32) (Iword : Int64) (Iform : Nat) (Iopens : Nat) (InUnits : Nat) (Iunits : Int32) (IownUnits : Nat) (Ideep : Nat) (InWords : Nat) (InCliffs : Nat) (InMen : Nat) (InStates : Nat) (InOns : Nat) (InWind : Int32) (InDraw : Int32) (Iwords : Nat) (Icliffs : Nat) (Imen : Nat) (Istates : Nat) (Ions : Int32) (IwindTold : Int32) (InHasWind : Int32) (InHasDraw : Int32) (IcryMany : Nat) (IcallPlace : Int32) (IcallVoice : Int32) (Iwind : Int32) (Ichance : Int32) (IechoMany : Nat) (Iacts : Nat) (Iundone : Nat) (Ilain : Nat) (Isounds : Nat) (Itime : Int32) (IstandMany : Int32) (xa : Int32) (gtp : Itaped ≤ 1600) (gat : Iat ≤ Isize) (gsz : Isize ≤ 1600) (gfl : Ifault ≤ 5) (gfo : Iform ≤ 2) (gnw : InWords ≤ 8) (gnc : InCliffs ≤ 4) (gnm : InMen ≤ 4) (gns : InStates ≤ 6) (gw : Iwords ≤ 8) (gc9 : Icliffs ≤ 4) (gm : Imen ≤ 4) (gs : Istates ≤ 6) (gcm : IcryMany ≤ 10) (gem : IechoMany ≤ 20) (gau : Iacts + Iundone ≤ 40) (gla : Ilain ≤ 20) (gso : Isounds ≤ 30) (gop : Iopens ≤ 40) (gde : Ideep ≤ 8) (gou : IownUnits ≤ 31) (gnu : InUnits ≤ 61) (gno : InOns ≤ 30) (gby : byN Gtape) (h4 : Itaped + 4 ≤ 1600) : XMv l D (tyL cy) E0 yX12_four cX12_four 3 none (rmk 0 0 0) [.ref m0, .int xa] [wO m0 12 [.ref Mtape, .int (nI Itaped), .int (nI Ifault), .int IfaultPlace, .int (nI Iat), .int (nI Isize), .int Isort, .int Iplace, .int Inumber, .long Iword, .ref MnName, .ref MnStep, .ref MnArg, .ref MnMany, .ref Mstep, .ref Marg, .ref Mmany, .ref Mopen, .ref Mvalues, .ref MnHasForm, .ref MhasForm, .int (nI Iform), .int (nI Iopens), .int (nI InUnits), .int Iunits, .int (nI IownUnits), .int (nI Ideep), .ref Masks, .ref MnLoud, .ref MnCliffAt, .ref MnSnow, .ref MnManAt, .ref MnVoice, .ref MnOn, .ref Mloud, .ref McliffAt, .ref MsnowTold, .ref MmanAt, .ref Mvoice, .ref Mon, .ref MnYes, .ref Myes, .int (nI InWords), .int (nI InCliffs), .int (nI InMen), .int (nI InStates), .int (nI InOns), .int InWind, .int InDraw, .int (nI Iwords), .int (nI Icliffs), .int (nI Imen), .int (nI Istates), .int Ions, .int IwindTold, .int InHasWind, .int InHasDraw, .ref Mnow, .ref Mcry, .ref Msnow, .ref Mecho, .int (nI IcryMany), .int IcallPlace, .int IcallVoice, .int Iwind, .int Ichance, .int (nI IechoMany), .ref Mwere, .int (nI Iacts), .int (nI Iundone), .ref Mlies, .int (nI Ilain), .ref Mspots, .ref Msteps, .ref MfromState, .ref MbyWord, .ref Mqueue, .ref MsoundCliff, .ref MsoundLong, .ref MsoundCame, .ref MsoundTold, .ref MsoundUntold, .int (nI Isounds), .int Itime, .ref Mstands, .int IstandMany, .ref Mtally, .ref MhasBox, .ref Mboxes], wI (cy 1) Mtape 1600 (Gtape)] (fun (u : (Nat → Int32) × Nat) => (u.2 ≤ 1600) ∧ (byN u.1) ∧ (u.2 = Itaped + 4) ∧ (u.1 = apR Gtape Itaped xa)) (fun (u : (Nat → Int32) × Nat) => [wO m0 12 [.ref Mtape, .int (nI u.2), .int (nI Ifault), .int IfaultPlace, .int (nI Iat), .int (nI Isize), .int Isort, .int Iplace, .int Inumber, .long Iword, .ref MnName, .ref MnStep, .ref MnArg, .ref MnMany, .ref Mstep, .ref Marg, .ref Mmany, .ref Mopen, .ref Mvalues, .ref MnHasForm, .ref MhasForm, .int (nI Iform), .int (nI Iopens), .int (nI InUnits), .int Iunits, .int (nI IownUnits), .int (nI Ideep), .ref Masks, .ref MnLoud, .ref MnCliffAt, .ref MnSnow, .ref MnManAt, .ref MnVoice, .ref MnOn, .ref Mloud, .ref McliffAt, .ref MsnowTold, .ref MmanAt, .ref Mvoice, .ref Mon, .ref MnYes, .ref Myes, .int (nI InWords), .int (nI InCliffs), .int (nI InMen), .int (nI InStates), .int (nI InOns), .int InWind, .int InDraw, .int (nI Iwords), .int (nI Icliffs), .int (nI Imen), .int (nI Istates), .int Ions, .int IwindTold, .int InHasWind, .int InHasDraw, .ref Mnow, .ref Mcry, .ref Msnow, .ref Mecho, .int (nI IcryMany), .int IcallPlace, .int IcallVoice, .int Iwind, .int Ichance, .int (nI IechoMany), .ref Mwere, .int (nI Iacts), .int (nI Iundone), .ref Mlies, .int (nI Ilain), .ref Mspots, .ref Msteps, .ref MfromState, .ref MbyWord, .ref Mqueue, .ref MsoundCliff, .ref MsoundLong, .ref MsoundCame, .ref MsoundTold, .ref MsoundUntold, .int (nI Isounds), .int Itime, .ref Mstands, .int IstandMany, .ref Mtally, .ref MhasBox, .ref Mboxes], wI (cy 1) Mtape 1600 (u.1)]) := by
  refine XMv.start (by decide) (Nat.le_of_ble_eq_true rfl) ?_
  intro p e s m below meth c args A ls Q hat hQ
  obtain ⟨hx, hb, hr, hml, hown, hg, hlocks, hin, hK, hA, hP, hD, hS, hE, hl⟩ := hat
  have hown : s.vm.findClass RX12 = some m.cls := hown
  have hl : lv_has ls 3 [(0, .ref m0), (1, .int xa)] := hl
  refine lv_bipush (v := 24) hx hb dX12_four_0 (by decide) ?_
  refine lv_istore_n (lv' := [(2, .int 24), (0, .ref m0), (1, .int xa)]) hx hb dX12_four_2 rfl hl (by decide) rfl (fun ls hl => ?_)
  refine lv_iload_n hx hb dX12_four_3 rfl (lv_at hl 0 rfl) ?_
  refine lv_if_lt (tgt := 39) hx hb dX12_four_4 (by decide) (fun h => absurd h (by decide)) (fun _ => ?_)
  refine lv_aload_n hx hb dX12_four_7 rfl (lv_at hl 1 rfl) ?_
  refine va_get (D := D) (ci := 12) (v := .ref Mtape) (C := RX12) (T := TX12) (N := 89) hx hb hg i_X12 hown hK hP 0 rfl rfl 0 (by decide) (hg _ m_1413) (fun _ h9 => h9) rfl dX12_four_8 ?_
  refine lv_aload_n hx hb dX12_four_11 rfl (lv_at hl 1 rfl) ?_
  refine va_get (D := D) (ci := 12) (v := .int (nI Itaped)) (C := RX12) (T := TX12) (N := 89) hx hb hg i_X12 hown hK hP 0 rfl rfl 1 (by decide) (hg _ m_1414) (fun _ h9 => h9) rfl dX12_four_12 ?_
  refine lv_iload_n hx hb dX12_four_15 rfl (lv_at hl 2 rfl) ?_
  refine lv_iload_n hx hb dX12_four_16 rfl (lv_at hl 0 rfl) ?_
  refine lv_ishr hx hb dX12_four_17 ?_
  refine lv_topi (fun x_1 ex_1 => ?_)
  refine lv_sipush (v := 255) hx hb dX12_four_18 (by decide) ?_
  refine lv_iand hx hb dX12_four_21 ?_
  refine lv_topi (fun x_2 ex_2 => ?_)
  refine va_iast hx hb hK hP hD hS 1 1 rfl rfl (vp_in_nI (by omega) (by decide)) dX12_four_22 (fun H locs hP9 hD9 hS9 => ?_)
  clear hP hD hS
  obtain ⟨g_3, eg_3⟩ : ∃ y, upd Gtape (nI Itaped : Int32).toNatClampNeg x_2 = y := ⟨_, rfl⟩
  rw [eg_3] at hP9 hD9
  refine reW [wO m0 12 [.ref Mtape, .int (nI Itaped), .int (nI Ifault), .int IfaultPlace, .int (nI Iat), .int (nI Isize), .int Isort, .int Iplace, .int Inumber, .long Iword, .ref MnName, .ref MnStep, .ref MnArg, .ref MnMany, .ref Mstep, .ref Marg, .ref Mmany, .ref Mopen, .ref Mvalues, .ref MnHasForm, .ref MhasForm, .int (nI Iform), .int (nI Iopens), .int (nI InUnits), .int Iunits, .int (nI IownUnits), .int (nI Ideep), .ref Masks, .ref MnLoud, .ref MnCliffAt, .ref MnSnow, .ref MnManAt, .ref MnVoice, .ref MnOn, .ref Mloud, .ref McliffAt, .ref MsnowTold, .ref MmanAt, .ref Mvoice, .ref Mon, .ref MnYes, .ref Myes, .int (nI InWords), .int (nI InCliffs), .int (nI InMen), .int (nI InStates), .int (nI InOns), .int InWind, .int InDraw, .int (nI Iwords), .int (nI Icliffs), .int (nI Imen), .int (nI Istates), .int Ions, .int IwindTold, .int InHasWind, .int InHasDraw, .ref Mnow, .ref Mcry, .ref Msnow, .ref Mecho, .int (nI IcryMany), .int IcallPlace, .int IcallVoice, .int Iwind, .int Ichance, .int (nI IechoMany), .ref Mwere, .int (nI Iacts), .int (nI Iundone), .ref Mlies, .int (nI Ilain), .ref Mspots, .ref Msteps, .ref MfromState, .ref MbyWord, .ref Mqueue, .ref MsoundCliff, .ref MsoundLong, .ref MsoundCame, .ref MsoundTold, .ref MsoundUntold, .int (nI Isounds), .int Itime, .ref Mstands, .int IstandMany, .ref Mtally, .ref MhasBox, .ref Mboxes], wI (cy 1) Mtape 1600 (g_3)] hP9 hD9 hS9 (fun hP hD hS => ?_)
  clear hP9 hD9 hS9
  refine lv_aload_n hx hb dX12_four_23 rfl (lv_at hl 1 rfl) ?_
  refine lv_dup hx hb dX12_four_24 rfl ?_
  refine va_get (D := D) (ci := 12) (v := .int (nI Itaped)) (C := RX12) (T := TX12) (N := 89) hx hb hg i_X12 hown hK hP 0 rfl rfl 1 (by decide) (hg _ m_1414) (fun _ h9 => h9) rfl dX12_four_25 ?_
  refine lv_iconst (v := 1) hx hb dX12_four_28 (by decide) ?_
  refine lv_iadd hx hb dX12_four_29 ?_
  refine lv_topi (fun y_4 hy_4 => ?_)
  obtain rfl : y_4 = nI (Itaped + 1) := hy_4.trans (nI_add Itaped 1)
  refine va_put (D := D) (ci := 12) (v := .int (nI (Itaped + 1))) (ty := .int) (C := RX12) (T := TX12) (N := 89) hx hb hg i_X12 tyX12 tyX12_ok nmX12 hown hK hP hD hS 0 rfl rfl 1 (by decide) (hg _ m_1414) (fun _ h9 => h9) rfl (by decide +kernel) rfl rfl (Nat.le_of_ble_eq_true rfl) dX12_four_30 (fun H locs hP9 hD9 hS9 => ?_)
  clear hP hD hS
  refine reW [wO m0 12 [.ref Mtape, .int (nI (Itaped + 1)), .int (nI Ifault), .int IfaultPlace, .int (nI Iat), .int (nI Isize), .int Isort, .int Iplace, .int Inumber, .long Iword, .ref MnName, .ref MnStep, .ref MnArg, .ref MnMany, .ref Mstep, .ref Marg, .ref Mmany, .ref Mopen, .ref Mvalues, .ref MnHasForm, .ref MhasForm, .int (nI Iform), .int (nI Iopens), .int (nI InUnits), .int Iunits, .int (nI IownUnits), .int (nI Ideep), .ref Masks, .ref MnLoud, .ref MnCliffAt, .ref MnSnow, .ref MnManAt, .ref MnVoice, .ref MnOn, .ref Mloud, .ref McliffAt, .ref MsnowTold, .ref MmanAt, .ref Mvoice, .ref Mon, .ref MnYes, .ref Myes, .int (nI InWords), .int (nI InCliffs), .int (nI InMen), .int (nI InStates), .int (nI InOns), .int InWind, .int InDraw, .int (nI Iwords), .int (nI Icliffs), .int (nI Imen), .int (nI Istates), .int Ions, .int IwindTold, .int InHasWind, .int InHasDraw, .ref Mnow, .ref Mcry, .ref Msnow, .ref Mecho, .int (nI IcryMany), .int IcallPlace, .int IcallVoice, .int Iwind, .int Ichance, .int (nI IechoMany), .ref Mwere, .int (nI Iacts), .int (nI Iundone), .ref Mlies, .int (nI Ilain), .ref Mspots, .ref Msteps, .ref MfromState, .ref MbyWord, .ref Mqueue, .ref MsoundCliff, .ref MsoundLong, .ref MsoundCame, .ref MsoundTold, .ref MsoundUntold, .int (nI Isounds), .int Itime, .ref Mstands, .int IstandMany, .ref Mtally, .ref MhasBox, .ref Mboxes], wI (cy 1) Mtape 1600 (g_3)] hP9 hD9 hS9 (fun hP hD hS => ?_)
  clear hP9 hD9 hS9
  refine lv_iinc (v := 16) (lv' := [(2, .int 16), (0, .ref m0), (1, .int xa)]) hx hb dX12_four_33 hl (k := 0) rfl (by decide) (by decide) rfl (fun ls hl => ?_)
  refine lv_goto (tgt := 3) hx hb dX12_four_36 (by decide) ?_
  refine lv_iload_n hx hb dX12_four_3 rfl (lv_at hl 0 rfl) ?_
  refine lv_if_lt (tgt := 39) hx hb dX12_four_4 (by decide) (fun h => absurd h (by decide)) (fun _ => ?_)
  refine lv_aload_n hx hb dX12_four_7 rfl (lv_at hl 1 rfl) ?_
  refine va_get (D := D) (ci := 12) (v := .ref Mtape) (C := RX12) (T := TX12) (N := 89) hx hb hg i_X12 hown hK hP 0 rfl rfl 0 (by decide) (hg _ m_1413) (fun _ h9 => h9) rfl dX12_four_8 ?_
  refine lv_aload_n hx hb dX12_four_11 rfl (lv_at hl 1 rfl) ?_
  refine va_get (D := D) (ci := 12) (v := .int (nI (Itaped + 1))) (C := RX12) (T := TX12) (N := 89) hx hb hg i_X12 hown hK hP 0 rfl rfl 1 (by decide) (hg _ m_1414) (fun _ h9 => h9) rfl dX12_four_12 ?_
  refine lv_iload_n hx hb dX12_four_15 rfl (lv_at hl 2 rfl) ?_
  refine lv_iload_n hx hb dX12_four_16 rfl (lv_at hl 0 rfl) ?_
  refine lv_ishr hx hb dX12_four_17 ?_
  refine lv_topi (fun x_5 ex_5 => ?_)
  refine lv_sipush (v := 255) hx hb dX12_four_18 (by decide) ?_
  refine lv_iand hx hb dX12_four_21 ?_
  refine lv_topi (fun x_6 ex_6 => ?_)
  refine va_iast hx hb hK hP hD hS 1 1 rfl rfl (vp_in_nI (by omega) (by decide)) dX12_four_22 (fun H locs hP9 hD9 hS9 => ?_)
  clear hP hD hS
  obtain ⟨g_7, eg_7⟩ : ∃ y, upd g_3 (nI (Itaped + 1) : Int32).toNatClampNeg x_6 = y := ⟨_, rfl⟩
  rw [eg_7] at hP9 hD9
  refine reW [wO m0 12 [.ref Mtape, .int (nI (Itaped + 1)), .int (nI Ifault), .int IfaultPlace, .int (nI Iat), .int (nI Isize), .int Isort, .int Iplace, .int Inumber, .long Iword, .ref MnName, .ref MnStep, .ref MnArg, .ref MnMany, .ref Mstep, .ref Marg, .ref Mmany, .ref Mopen, .ref Mvalues, .ref MnHasForm, .ref MhasForm, .int (nI Iform), .int (nI Iopens), .int (nI InUnits), .int Iunits, .int (nI IownUnits), .int (nI Ideep), .ref Masks, .ref MnLoud, .ref MnCliffAt, .ref MnSnow, .ref MnManAt, .ref MnVoice, .ref MnOn, .ref Mloud, .ref McliffAt, .ref MsnowTold, .ref MmanAt, .ref Mvoice, .ref Mon, .ref MnYes, .ref Myes, .int (nI InWords), .int (nI InCliffs), .int (nI InMen), .int (nI InStates), .int (nI InOns), .int InWind, .int InDraw, .int (nI Iwords), .int (nI Icliffs), .int (nI Imen), .int (nI Istates), .int Ions, .int IwindTold, .int InHasWind, .int InHasDraw, .ref Mnow, .ref Mcry, .ref Msnow, .ref Mecho, .int (nI IcryMany), .int IcallPlace, .int IcallVoice, .int Iwind, .int Ichance, .int (nI IechoMany), .ref Mwere, .int (nI Iacts), .int (nI Iundone), .ref Mlies, .int (nI Ilain), .ref Mspots, .ref Msteps, .ref MfromState, .ref MbyWord, .ref Mqueue, .ref MsoundCliff, .ref MsoundLong, .ref MsoundCame, .ref MsoundTold, .ref MsoundUntold, .int (nI Isounds), .int Itime, .ref Mstands, .int IstandMany, .ref Mtally, .ref MhasBox, .ref Mboxes], wI (cy 1) Mtape 1600 (g_7)] hP9 hD9 hS9 (fun hP hD hS => ?_)
  clear hP9 hD9 hS9
  refine lv_aload_n hx hb dX12_four_23 rfl (lv_at hl 1 rfl) ?_
  refine lv_dup hx hb dX12_four_24 rfl ?_
  refine va_get (D := D) (ci := 12) (v := .int (nI (Itaped + 1))) (C := RX12) (T := TX12) (N := 89) hx hb hg i_X12 hown hK hP 0 rfl rfl 1 (by decide) (hg _ m_1414) (fun _ h9 => h9) rfl dX12_four_25 ?_
  refine lv_iconst (v := 1) hx hb dX12_four_28 (by decide) ?_
  refine lv_iadd hx hb dX12_four_29 ?_
  refine lv_topi (fun y_8 hy_8 => ?_)
  obtain rfl : y_8 = nI ((Itaped + 1) + 1) := hy_8.trans (nI_add ((Itaped + 1)) 1)
  refine va_put (D := D) (ci := 12) (v := .int (nI ((Itaped + 1) + 1))) (ty := .int) (C := RX12) (T := TX12) (N := 89) hx hb hg i_X12 tyX12 tyX12_ok nmX12 hown hK hP hD hS 0 rfl rfl 1 (by decide) (hg _ m_1414) (fun _ h9 => h9) rfl (by decide +kernel) rfl rfl (Nat.le_of_ble_eq_true rfl) dX12_four_30 (fun H locs hP9 hD9 hS9 => ?_)
  clear hP hD hS
  refine reW [wO m0 12 [.ref Mtape, .int (nI ((Itaped + 1) + 1)), .int (nI Ifault), .int IfaultPlace, .int (nI Iat), .int (nI Isize), .int Isort, .int Iplace, .int Inumber, .long Iword, .ref MnName, .ref MnStep, .ref MnArg, .ref MnMany, .ref Mstep, .ref Marg, .ref Mmany, .ref Mopen, .ref Mvalues, .ref MnHasForm, .ref MhasForm, .int (nI Iform), .int (nI Iopens), .int (nI InUnits), .int Iunits, .int (nI IownUnits), .int (nI Ideep), .ref Masks, .ref MnLoud, .ref MnCliffAt, .ref MnSnow, .ref MnManAt, .ref MnVoice, .ref MnOn, .ref Mloud, .ref McliffAt, .ref MsnowTold, .ref MmanAt, .ref Mvoice, .ref Mon, .ref MnYes, .ref Myes, .int (nI InWords), .int (nI InCliffs), .int (nI InMen), .int (nI InStates), .int (nI InOns), .int InWind, .int InDraw, .int (nI Iwords), .int (nI Icliffs), .int (nI Imen), .int (nI Istates), .int Ions, .int IwindTold, .int InHasWind, .int InHasDraw, .ref Mnow, .ref Mcry, .ref Msnow, .ref Mecho, .int (nI IcryMany), .int IcallPlace, .int IcallVoice, .int Iwind, .int Ichance, .int (nI IechoMany), .ref Mwere, .int (nI Iacts), .int (nI Iundone), .ref Mlies, .int (nI Ilain), .ref Mspots, .ref Msteps, .ref MfromState, .ref MbyWord, .ref Mqueue, .ref MsoundCliff, .ref MsoundLong, .ref MsoundCame, .ref MsoundTold, .ref MsoundUntold, .int (nI Isounds), .int Itime, .ref Mstands, .int IstandMany, .ref Mtally, .ref MhasBox, .ref Mboxes], wI (cy 1) Mtape 1600 (g_7)] hP9 hD9 hS9 (fun hP hD hS => ?_)
  clear hP9 hD9 hS9
  refine lv_iinc (v := 8) (lv' := [(2, .int 8), (0, .ref m0), (1, .int xa)]) hx hb dX12_four_33 hl (k := 0) rfl (by decide) (by decide) rfl (fun ls hl => ?_)
  refine lv_goto (tgt := 3) hx hb dX12_four_36 (by decide) ?_
  refine lv_iload_n hx hb dX12_four_3 rfl (lv_at hl 0 rfl) ?_
  refine lv_if_lt (tgt := 39) hx hb dX12_four_4 (by decide) (fun h => absurd h (by decide)) (fun _ => ?_)
  refine lv_aload_n hx hb dX12_four_7 rfl (lv_at hl 1 rfl) ?_
  refine va_get (D := D) (ci := 12) (v := .ref Mtape) (C := RX12) (T := TX12) (N := 89) hx hb hg i_X12 hown hK hP 0 rfl rfl 0 (by decide) (hg _ m_1413) (fun _ h9 => h9) rfl dX12_four_8 ?_
  refine lv_aload_n hx hb dX12_four_11 rfl (lv_at hl 1 rfl) ?_
  refine va_get (D := D) (ci := 12) (v := .int (nI ((Itaped + 1) + 1))) (C := RX12) (T := TX12) (N := 89) hx hb hg i_X12 hown hK hP 0 rfl rfl 1 (by decide) (hg _ m_1414) (fun _ h9 => h9) rfl dX12_four_12 ?_
  refine lv_iload_n hx hb dX12_four_15 rfl (lv_at hl 2 rfl) ?_
  refine lv_iload_n hx hb dX12_four_16 rfl (lv_at hl 0 rfl) ?_
  refine lv_ishr hx hb dX12_four_17 ?_
  refine lv_topi (fun x_9 ex_9 => ?_)
  refine lv_sipush (v := 255) hx hb dX12_four_18 (by decide) ?_
  refine lv_iand hx hb dX12_four_21 ?_
  refine lv_topi (fun x_10 ex_10 => ?_)
  refine va_iast hx hb hK hP hD hS 1 1 rfl rfl (vp_in_nI (by omega) (by decide)) dX12_four_22 (fun H locs hP9 hD9 hS9 => ?_)
  clear hP hD hS
  obtain ⟨g_11, eg_11⟩ : ∃ y, upd g_7 (nI ((Itaped + 1) + 1) : Int32).toNatClampNeg x_10 = y := ⟨_, rfl⟩
  rw [eg_11] at hP9 hD9
  refine reW [wO m0 12 [.ref Mtape, .int (nI ((Itaped + 1) + 1)), .int (nI Ifault), .int IfaultPlace, .int (nI Iat), .int (nI Isize), .int Isort, .int Iplace, .int Inumber, .long Iword, .ref MnName, .ref MnStep, .ref MnArg, .ref MnMany, .ref Mstep, .ref Marg, .ref Mmany, .ref Mopen, .ref Mvalues, .ref MnHasForm, .ref MhasForm, .int (nI Iform), .int (nI Iopens), .int (nI InUnits), .int Iunits, .int (nI IownUnits), .int (nI Ideep), .ref Masks, .ref MnLoud, .ref MnCliffAt, .ref MnSnow, .ref MnManAt, .ref MnVoice, .ref MnOn, .ref Mloud, .ref McliffAt, .ref MsnowTold, .ref MmanAt, .ref Mvoice, .ref Mon, .ref MnYes, .ref Myes, .int (nI InWords), .int (nI InCliffs), .int (nI InMen), .int (nI InStates), .int (nI InOns), .int InWind, .int InDraw, .int (nI Iwords), .int (nI Icliffs), .int (nI Imen), .int (nI Istates), .int Ions, .int IwindTold, .int InHasWind, .int InHasDraw, .ref Mnow, .ref Mcry, .ref Msnow, .ref Mecho, .int (nI IcryMany), .int IcallPlace, .int IcallVoice, .int Iwind, .int Ichance, .int (nI IechoMany), .ref Mwere, .int (nI Iacts), .int (nI Iundone), .ref Mlies, .int (nI Ilain), .ref Mspots, .ref Msteps, .ref MfromState, .ref MbyWord, .ref Mqueue, .ref MsoundCliff, .ref MsoundLong, .ref MsoundCame, .ref MsoundTold, .ref MsoundUntold, .int (nI Isounds), .int Itime, .ref Mstands, .int IstandMany, .ref Mtally, .ref MhasBox, .ref Mboxes], wI (cy 1) Mtape 1600 (g_11)] hP9 hD9 hS9 (fun hP hD hS => ?_)
  clear hP9 hD9 hS9
  refine lv_aload_n hx hb dX12_four_23 rfl (lv_at hl 1 rfl) ?_
  refine lv_dup hx hb dX12_four_24 rfl ?_
  refine va_get (D := D) (ci := 12) (v := .int (nI ((Itaped + 1) + 1))) (C := RX12) (T := TX12) (N := 89) hx hb hg i_X12 hown hK hP 0 rfl rfl 1 (by decide) (hg _ m_1414) (fun _ h9 => h9) rfl dX12_four_25 ?_
  refine lv_iconst (v := 1) hx hb dX12_four_28 (by decide) ?_
  refine lv_iadd hx hb dX12_four_29 ?_
  refine lv_topi (fun y_12 hy_12 => ?_)
  obtain rfl : y_12 = nI (((Itaped + 1) + 1) + 1) := hy_12.trans (nI_add (((Itaped + 1) + 1)) 1)
  refine va_put (D := D) (ci := 12) (v := .int (nI (((Itaped + 1) + 1) + 1))) (ty := .int) (C := RX12) (T := TX12) (N := 89) hx hb hg i_X12 tyX12 tyX12_ok nmX12 hown hK hP hD hS 0 rfl rfl 1 (by decide) (hg _ m_1414) (fun _ h9 => h9) rfl (by decide +kernel) rfl rfl (Nat.le_of_ble_eq_true rfl) dX12_four_30 (fun H locs hP9 hD9 hS9 => ?_)
  clear hP hD hS
  refine reW [wO m0 12 [.ref Mtape, .int (nI (((Itaped + 1) + 1) + 1)), .int (nI Ifault), .int IfaultPlace, .int (nI Iat), .int (nI Isize), .int Isort, .int Iplace, .int Inumber, .long Iword, .ref MnName, .ref MnStep, .ref MnArg, .ref MnMany, .ref Mstep, .ref Marg, .ref Mmany, .ref Mopen, .ref Mvalues, .ref MnHasForm, .ref MhasForm, .int (nI Iform), .int (nI Iopens), .int (nI InUnits), .int Iunits, .int (nI IownUnits), .int (nI Ideep), .ref Masks, .ref MnLoud, .ref MnCliffAt, .ref MnSnow, .ref MnManAt, .ref MnVoice, .ref MnOn, .ref Mloud, .ref McliffAt, .ref MsnowTold, .ref MmanAt, .ref Mvoice, .ref Mon, .ref MnYes, .ref Myes, .int (nI InWords), .int (nI InCliffs), .int (nI InMen), .int (nI InStates), .int (nI InOns), .int InWind, .int InDraw, .int (nI Iwords), .int (nI Icliffs), .int (nI Imen), .int (nI Istates), .int Ions, .int IwindTold, .int InHasWind, .int InHasDraw, .ref Mnow, .ref Mcry, .ref Msnow, .ref Mecho, .int (nI IcryMany), .int IcallPlace, .int IcallVoice, .int Iwind, .int Ichance, .int (nI IechoMany), .ref Mwere, .int (nI Iacts), .int (nI Iundone), .ref Mlies, .int (nI Ilain), .ref Mspots, .ref Msteps, .ref MfromState, .ref MbyWord, .ref Mqueue, .ref MsoundCliff, .ref MsoundLong, .ref MsoundCame, .ref MsoundTold, .ref MsoundUntold, .int (nI Isounds), .int Itime, .ref Mstands, .int IstandMany, .ref Mtally, .ref MhasBox, .ref Mboxes], wI (cy 1) Mtape 1600 (g_11)] hP9 hD9 hS9 (fun hP hD hS => ?_)
  clear hP9 hD9 hS9
  refine lv_iinc (v := 0) (lv' := [(2, .int 0), (0, .ref m0), (1, .int xa)]) hx hb dX12_four_33 hl (k := 0) rfl (by decide) (by decide) rfl (fun ls hl => ?_)
  refine lv_goto (tgt := 3) hx hb dX12_four_36 (by decide) ?_
  refine lv_iload_n hx hb dX12_four_3 rfl (lv_at hl 0 rfl) ?_
  refine lv_if_lt (tgt := 39) hx hb dX12_four_4 (by decide) (fun h => absurd h (by decide)) (fun _ => ?_)
  refine lv_aload_n hx hb dX12_four_7 rfl (lv_at hl 1 rfl) ?_
  refine va_get (D := D) (ci := 12) (v := .ref Mtape) (C := RX12) (T := TX12) (N := 89) hx hb hg i_X12 hown hK hP 0 rfl rfl 0 (by decide) (hg _ m_1413) (fun _ h9 => h9) rfl dX12_four_8 ?_
  refine lv_aload_n hx hb dX12_four_11 rfl (lv_at hl 1 rfl) ?_
  refine va_get (D := D) (ci := 12) (v := .int (nI (((Itaped + 1) + 1) + 1))) (C := RX12) (T := TX12) (N := 89) hx hb hg i_X12 hown hK hP 0 rfl rfl 1 (by decide) (hg _ m_1414) (fun _ h9 => h9) rfl dX12_four_12 ?_
  refine lv_iload_n hx hb dX12_four_15 rfl (lv_at hl 2 rfl) ?_
  refine lv_iload_n hx hb dX12_four_16 rfl (lv_at hl 0 rfl) ?_
  refine lv_ishr hx hb dX12_four_17 ?_
  refine lv_topi (fun x_13 ex_13 => ?_)
  refine lv_sipush (v := 255) hx hb dX12_four_18 (by decide) ?_
  refine lv_iand hx hb dX12_four_21 ?_
  refine lv_topi (fun x_14 ex_14 => ?_)
  refine va_iast hx hb hK hP hD hS 1 1 rfl rfl (vp_in_nI (by omega) (by decide)) dX12_four_22 (fun H locs hP9 hD9 hS9 => ?_)
  clear hP hD hS
  obtain ⟨g_15, eg_15⟩ : ∃ y, upd g_11 (nI (((Itaped + 1) + 1) + 1) : Int32).toNatClampNeg x_14 = y := ⟨_, rfl⟩
  rw [eg_15] at hP9 hD9
  refine reW [wO m0 12 [.ref Mtape, .int (nI (((Itaped + 1) + 1) + 1)), .int (nI Ifault), .int IfaultPlace, .int (nI Iat), .int (nI Isize), .int Isort, .int Iplace, .int Inumber, .long Iword, .ref MnName, .ref MnStep, .ref MnArg, .ref MnMany, .ref Mstep, .ref Marg, .ref Mmany, .ref Mopen, .ref Mvalues, .ref MnHasForm, .ref MhasForm, .int (nI Iform), .int (nI Iopens), .int (nI InUnits), .int Iunits, .int (nI IownUnits), .int (nI Ideep), .ref Masks, .ref MnLoud, .ref MnCliffAt, .ref MnSnow, .ref MnManAt, .ref MnVoice, .ref MnOn, .ref Mloud, .ref McliffAt, .ref MsnowTold, .ref MmanAt, .ref Mvoice, .ref Mon, .ref MnYes, .ref Myes, .int (nI InWords), .int (nI InCliffs), .int (nI InMen), .int (nI InStates), .int (nI InOns), .int InWind, .int InDraw, .int (nI Iwords), .int (nI Icliffs), .int (nI Imen), .int (nI Istates), .int Ions, .int IwindTold, .int InHasWind, .int InHasDraw, .ref Mnow, .ref Mcry, .ref Msnow, .ref Mecho, .int (nI IcryMany), .int IcallPlace, .int IcallVoice, .int Iwind, .int Ichance, .int (nI IechoMany), .ref Mwere, .int (nI Iacts), .int (nI Iundone), .ref Mlies, .int (nI Ilain), .ref Mspots, .ref Msteps, .ref MfromState, .ref MbyWord, .ref Mqueue, .ref MsoundCliff, .ref MsoundLong, .ref MsoundCame, .ref MsoundTold, .ref MsoundUntold, .int (nI Isounds), .int Itime, .ref Mstands, .int IstandMany, .ref Mtally, .ref MhasBox, .ref Mboxes], wI (cy 1) Mtape 1600 (g_15)] hP9 hD9 hS9 (fun hP hD hS => ?_)
  clear hP9 hD9 hS9
  refine lv_aload_n hx hb dX12_four_23 rfl (lv_at hl 1 rfl) ?_
  refine lv_dup hx hb dX12_four_24 rfl ?_
  refine va_get (D := D) (ci := 12) (v := .int (nI (((Itaped + 1) + 1) + 1))) (C := RX12) (T := TX12) (N := 89) hx hb hg i_X12 hown hK hP 0 rfl rfl 1 (by decide) (hg _ m_1414) (fun _ h9 => h9) rfl dX12_four_25 ?_
  refine lv_iconst (v := 1) hx hb dX12_four_28 (by decide) ?_
  refine lv_iadd hx hb dX12_four_29 ?_
  refine lv_topi (fun y_16 hy_16 => ?_)
  obtain rfl : y_16 = nI ((((Itaped + 1) + 1) + 1) + 1) := hy_16.trans (nI_add ((((Itaped + 1) + 1) + 1)) 1)
  refine va_put (D := D) (ci := 12) (v := .int (nI ((((Itaped + 1) + 1) + 1) + 1))) (ty := .int) (C := RX12) (T := TX12) (N := 89) hx hb hg i_X12 tyX12 tyX12_ok nmX12 hown hK hP hD hS 0 rfl rfl 1 (by decide) (hg _ m_1414) (fun _ h9 => h9) rfl (by decide +kernel) rfl rfl (Nat.le_of_ble_eq_true rfl) dX12_four_30 (fun H locs hP9 hD9 hS9 => ?_)
  clear hP hD hS
  refine reW [wO m0 12 [.ref Mtape, .int (nI ((((Itaped + 1) + 1) + 1) + 1)), .int (nI Ifault), .int IfaultPlace, .int (nI Iat), .int (nI Isize), .int Isort, .int Iplace, .int Inumber, .long Iword, .ref MnName, .ref MnStep, .ref MnArg, .ref MnMany, .ref Mstep, .ref Marg, .ref Mmany, .ref Mopen, .ref Mvalues, .ref MnHasForm, .ref MhasForm, .int (nI Iform), .int (nI Iopens), .int (nI InUnits), .int Iunits, .int (nI IownUnits), .int (nI Ideep), .ref Masks, .ref MnLoud, .ref MnCliffAt, .ref MnSnow, .ref MnManAt, .ref MnVoice, .ref MnOn, .ref Mloud, .ref McliffAt, .ref MsnowTold, .ref MmanAt, .ref Mvoice, .ref Mon, .ref MnYes, .ref Myes, .int (nI InWords), .int (nI InCliffs), .int (nI InMen), .int (nI InStates), .int (nI InOns), .int InWind, .int InDraw, .int (nI Iwords), .int (nI Icliffs), .int (nI Imen), .int (nI Istates), .int Ions, .int IwindTold, .int InHasWind, .int InHasDraw, .ref Mnow, .ref Mcry, .ref Msnow, .ref Mecho, .int (nI IcryMany), .int IcallPlace, .int IcallVoice, .int Iwind, .int Ichance, .int (nI IechoMany), .ref Mwere, .int (nI Iacts), .int (nI Iundone), .ref Mlies, .int (nI Ilain), .ref Mspots, .ref Msteps, .ref MfromState, .ref MbyWord, .ref Mqueue, .ref MsoundCliff, .ref MsoundLong, .ref MsoundCame, .ref MsoundTold, .ref MsoundUntold, .int (nI Isounds), .int Itime, .ref Mstands, .int IstandMany, .ref Mtally, .ref MhasBox, .ref Mboxes], wI (cy 1) Mtape 1600 (g_15)] hP9 hD9 hS9 (fun hP hD hS => ?_)
  clear hP9 hD9 hS9
  refine lv_iinc (v := -8) (lv' := [(2, .int (-8)), (0, .ref m0), (1, .int xa)]) hx hb dX12_four_33 hl (k := 0) rfl (by decide) (by decide) rfl (fun ls hl => ?_)
  refine lv_goto (tgt := 3) hx hb dX12_four_36 (by decide) ?_
  refine lv_iload_n hx hb dX12_four_3 rfl (lv_at hl 0 rfl) ?_
  refine lv_if_lt (tgt := 39) hx hb dX12_four_4 (by decide) (fun _ => ?_) (fun h => absurd (by decide) h)
  exact x_vret hQ hx hb hr hlocks hK hP hD hS dX12_four_39 (g_15, ((((Itaped + 1) + 1) + 1) + 1)) (⟨(show (((((Itaped + 1) + 1) + 1) + 1)) ≤ 1600 from by omega), (show byN g_15 from byN_put (byN_put (byN_put (byN_put (gby) ex_2 eg_3) ex_6 eg_7) ex_10 eg_11) ex_14 eg_15), (show (((((Itaped + 1) + 1) + 1) + 1)) = Itaped + 4 from by omega), (show g_15 = apR Gtape Itaped xa from apR_mk (by omega) ex_2 ex_1 eg_3 ex_6 ex_5 eg_7 ex_10 ex_9 eg_11 ex_14 ex_13 eg_15)⟩) [0, 1] (by decide +kernel) rfl (Nat.le_of_ble_eq_true rfl) (Nat.le_of_ble_eq_true rfl)
def feR (f : Nat → Int32) (n : Nat) (a b c d e : Int32) : Nat → Int32 := apR (apR (apR (apR (apR f n a) (n + 4) b) (n + 4 + 4) c) (n + 4 + 4 + 4) d) (n + 4 + 4 + 4 + 4) e
theorem feR_mk {f g1 g2 g3 g4 g5 : Nat → Int32} {n n1 n2 n3 n4 : Nat} {a b c d e : Int32} (h1 : g1 = apR f n a) (m1 : n1 = n + 4) (h2 : g2 = apR g1 n1 b) (m2 : n2 = n1 + 4) (h3 : g3 = apR g2 n2 c) (m3 : n3 = n2 + 4) (h4 : g4 = apR g3 n3 d) (m4 : n4 = n3 + 4) (h5 : g5 = apR g4 n4 e) : g5 = feR f n a b c d e := by
  subst m1 m2 m3 m4
  rw [h5, h4, h3, h2, h1]; rfl
theorem gdX12_feed_0 : decode cX12_feed 0 = .ok (.aload_n 0, 1) ∧ decode cX12_feed 1 = .ok (.getfield 157, 3) ∧ decode cX12_feed 4 = .ok (.bipush 20, 2) ∧ decode cX12_feed 6 = .ok (.iadd, 1) ∧ decode cX12_feed 7 = .ok (.sipush 1600, 3) ∧ decode cX12_feed 10 = .ok (.if_icmp .le 5, 3) ∧ decode cX12_feed 15 = .ok (.aload_n 0, 1) ∧ decode cX12_feed 16 = .ok (.iload_n 1, 1) ∧ decode cX12_feed 17 = .ok (.invokevirtual 160, 3) := by decide +kernel
theorem dX12_feed_0 : decode cX12_feed 0 = .ok (.aload_n 0, 1) := gdX12_feed_0.1
theorem dX12_feed_1 : decode cX12_feed 1 = .ok (.getfield 157, 3) := gdX12_feed_0.2.1
theorem dX12_feed_4 : decode cX12_feed 4 = .ok (.bipush 20, 2) := gdX12_feed_0.2.2.1
theorem dX12_feed_6 : decode cX12_feed 6 = .ok (.iadd, 1) := gdX12_feed_0.2.2.2.1
theorem dX12_feed_7 : decode cX12_feed 7 = .ok (.sipush 1600, 3) := gdX12_feed_0.2.2.2.2.1
theorem dX12_feed_10 : decode cX12_feed 10 = .ok (.if_icmp .le 5, 3) := gdX12_feed_0.2.2.2.2.2.1
theorem dX12_feed_15 : decode cX12_feed 15 = .ok (.aload_n 0, 1) := gdX12_feed_0.2.2.2.2.2.2.1
theorem dX12_feed_16 : decode cX12_feed 16 = .ok (.iload_n 1, 1) := gdX12_feed_0.2.2.2.2.2.2.2.1
theorem dX12_feed_17 : decode cX12_feed 17 = .ok (.invokevirtual 160, 3) := gdX12_feed_0.2.2.2.2.2.2.2.2
theorem k_X12_160 : xV RX12 RX12 160 yX12_four cX12_four 3 none 1 := ⟨⟨m_1686, m_1688, m_63, m_146, m_1689⟩, rfl, by decide, by decide, by decide +kernel⟩
theorem gdX12_feed_20 : decode cX12_feed 20 = .ok (.aload_n 0, 1) ∧ decode cX12_feed 21 = .ok (.iload_n 2, 1) ∧ decode cX12_feed 22 = .ok (.invokevirtual 160, 3) ∧ decode cX12_feed 25 = .ok (.aload_n 0, 1) ∧ decode cX12_feed 26 = .ok (.iload_n 3, 1) ∧ decode cX12_feed 27 = .ok (.invokevirtual 160, 3) ∧ decode cX12_feed 30 = .ok (.aload_n 0, 1) ∧ decode cX12_feed 31 = .ok (.iload 4, 2) ∧ decode cX12_feed 33 = .ok (.invokevirtual 160, 3) ∧ decode cX12_feed 36 = .ok (.aload_n 0, 1) ∧ decode cX12_feed 37 = .ok (.iload 5, 2) ∧ decode cX12_feed 39 = .ok (.invokevirtual 160, 3) := by decide +kernel
theorem dX12_feed_20 : decode cX12_feed 20 = .ok (.aload_n 0, 1) := gdX12_feed_20.1
theorem dX12_feed_21 : decode cX12_feed 21 = .ok (.iload_n 2, 1) := gdX12_feed_20.2.1
theorem dX12_feed_22 : decode cX12_feed 22 = .ok (.invokevirtual 160, 3) := gdX12_feed_20.2.2.1
theorem dX12_feed_25 : decode cX12_feed 25 = .ok (.aload_n 0, 1) := gdX12_feed_20.2.2.2.1
theorem dX12_feed_26 : decode cX12_feed 26 = .ok (.iload_n 3, 1) := gdX12_feed_20.2.2.2.2.1
theorem dX12_feed_27 : decode cX12_feed 27 = .ok (.invokevirtual 160, 3) := gdX12_feed_20.2.2.2.2.2.1
theorem dX12_feed_30 : decode cX12_feed 30 = .ok (.aload_n 0, 1) := gdX12_feed_20.2.2.2.2.2.2.1
theorem dX12_feed_31 : decode cX12_feed 31 = .ok (.iload 4, 2) := gdX12_feed_20.2.2.2.2.2.2.2.1
theorem dX12_feed_33 : decode cX12_feed 33 = .ok (.invokevirtual 160, 3) := gdX12_feed_20.2.2.2.2.2.2.2.2.1
theorem dX12_feed_36 : decode cX12_feed 36 = .ok (.aload_n 0, 1) := gdX12_feed_20.2.2.2.2.2.2.2.2.2.1
theorem dX12_feed_37 : decode cX12_feed 37 = .ok (.iload 5, 2) := gdX12_feed_20.2.2.2.2.2.2.2.2.2.2.1
theorem dX12_feed_39 : decode cX12_feed 39 = .ok (.invokevirtual 160, 3) := gdX12_feed_20.2.2.2.2.2.2.2.2.2.2.2
theorem gdX12_feed_42 : decode cX12_feed 42 = .ok (.aload_n 0, 1) ∧ decode cX12_feed 43 = .ok (.getfield 157, 3) ∧ decode cX12_feed 46 = .ok (.ireturn, 1) ∧ decode cX12_feed 13 = .ok (.iconst (-1), 1) ∧ decode cX12_feed 14 = .ok (.ireturn, 1) := by decide +kernel
theorem dX12_feed_42 : decode cX12_feed 42 = .ok (.aload_n 0, 1) := gdX12_feed_42.1
theorem dX12_feed_43 : decode cX12_feed 43 = .ok (.getfield 157, 3) := gdX12_feed_42.2.1
theorem dX12_feed_46 : decode cX12_feed 46 = .ok (.ireturn, 1) := gdX12_feed_42.2.2.1
theorem dX12_feed_13 : decode cX12_feed 13 = .ok (.iconst (-1), 1) := gdX12_feed_42.2.2.2.1
theorem dX12_feed_14 : decode cX12_feed 14 = .ok (.ireturn, 1) := gdX12_feed_42.2.2.2.2
set_option maxHeartbeats 1000000 in
set_option maxRecDepth 100000 in
theorem r_feed (l : Launch) (D : va_G) (cy : Nat → ClassId) (m0 : Nat) (Mtape : Nat) (MnName : Nat) (MnStep : Nat) (MnArg : Nat) (MnMany : Nat) (Mstep : Nat) (Marg : Nat) (Mmany : Nat) (Mopen : Nat) (Mvalues : Nat) (MnHasForm : Nat) (MhasForm : Nat) (Masks : Nat) (MnLoud : Nat) (MnCliffAt : Nat) (MnSnow : Nat) (MnManAt : Nat) (MnVoice : Nat) (MnOn : Nat) (Mloud : Nat) (McliffAt : Nat) (MsnowTold : Nat) (MmanAt : Nat) (Mvoice : Nat) (Mon : Nat) (MnYes : Nat) (Myes : Nat) (Mnow : Nat) (Mcry : Nat) (Msnow : Nat) (Mecho : Nat) (Mwere : Nat) (Mlies : Nat) (Mspots : Nat) (Msteps : Nat) (MfromState : Nat) (MbyWord : Nat) (Mqueue : Nat) (MsoundCliff : Nat) (MsoundLong : Nat) (MsoundCame : Nat) (MsoundTold : Nat) (MsoundUntold : Nat) (Mstands : Nat) (Mtally : Nat) (MhasBox : Nat) (Mboxes : Nat) (Gtape : Nat → Int32) (Itaped : Nat) (Ifault : Nat) (IfaultPlace : Int32) (Iat : Nat) (Isize : Nat) (Isort : Int32) (Iplace : Int32) (Inumber : Int32) (Iword : Int64) (Iform : Nat) (Iopens : Nat) (InUnits : Nat) (Iunits : Int32) (IownUnits : Nat) (Ideep : Nat) (InWords : Nat) (InCliffs : Nat) (InMen : Nat) (InStates : Nat) (InOns : Nat) (InWind : Int32) (InDraw : Int32) (Iwords : Nat) (Icliffs : Nat) (Imen : Nat) (Istates : Nat) (Ions : Int32) (IwindTold : Int32) (InHasWind : Int32) (InHasDraw : Int32) (IcryMany : Nat) (IcallPlace : Int32) (IcallVoice : Int32) (Iwind : Int32) (Ichance : Int32) (IechoMany : Nat) (Iacts : Nat) (Iundone : Nat) (Ilain : Nat) (Isounds : Nat) (Itime : Int32) (IstandMany : Int32) (xa : Int32) (xb : Int32) (xc9 : Int32) (xd : Int32) (xe : Int32) (gtp : Itaped ≤ 1600) (gat : Iat ≤ Isize) (gsz : Isize ≤ 1600) (gfl : Ifault ≤ 5) (gfo : Iform ≤ 2) (gnw : InWords ≤ 8) (gnc : InCliffs ≤ 4) (gnm : InMen ≤ 4) (gns : InStates ≤ 6) (gw : Iwords ≤ 8) (gc9 : Icliffs ≤ 4) (gm : Imen ≤ 4) (gs : Istates ≤ 6) (gcm : IcryMany ≤ 10) (gem : IechoMany ≤ 20) (gau : Iacts + Iundone ≤ 40) (gla : Ilain ≤ 20) (gso : Isounds ≤ 30) (gop : Iopens ≤ 40) (gde : Ideep ≤ 8) (gou : IownUnits ≤ 31) (gnu : InUnits ≤ 61) (gno : InOns ≤ 30) (gby : byN Gtape) : XMi l D (tyL cy) E0 yX12_feed cX12_feed 6 (some .int) (rmk 1 0 0) [.ref m0, .int xa, .int xb, .int xc9, .int xd, .int xe] [wO m0 12 [.ref Mtape, .int (nI Itaped), .int (nI Ifault), .int IfaultPlace, .int (nI Iat), .int (nI Isize), .int Isort, .int Iplace, .int Inumber, .long Iword, .ref MnName, .ref MnStep, .ref MnArg, .ref MnMany, .ref Mstep, .ref Marg, .ref Mmany, .ref Mopen, .ref Mvalues, .ref MnHasForm, .ref MhasForm, .int (nI Iform), .int (nI Iopens), .int (nI InUnits), .int Iunits, .int (nI IownUnits), .int (nI Ideep), .ref Masks, .ref MnLoud, .ref MnCliffAt, .ref MnSnow, .ref MnManAt, .ref MnVoice, .ref MnOn, .ref Mloud, .ref McliffAt, .ref MsnowTold, .ref MmanAt, .ref Mvoice, .ref Mon, .ref MnYes, .ref Myes, .int (nI InWords), .int (nI InCliffs), .int (nI InMen), .int (nI InStates), .int (nI InOns), .int InWind, .int InDraw, .int (nI Iwords), .int (nI Icliffs), .int (nI Imen), .int (nI Istates), .int Ions, .int IwindTold, .int InHasWind, .int InHasDraw, .ref Mnow, .ref Mcry, .ref Msnow, .ref Mecho, .int (nI IcryMany), .int IcallPlace, .int IcallVoice, .int Iwind, .int Ichance, .int (nI IechoMany), .ref Mwere, .int (nI Iacts), .int (nI Iundone), .ref Mlies, .int (nI Ilain), .ref Mspots, .ref Msteps, .ref MfromState, .ref MbyWord, .ref Mqueue, .ref MsoundCliff, .ref MsoundLong, .ref MsoundCame, .ref MsoundTold, .ref MsoundUntold, .int (nI Isounds), .int Itime, .ref Mstands, .int IstandMany, .ref Mtally, .ref MhasBox, .ref Mboxes], wI (cy 1) Mtape 1600 (Gtape)] (fun (r : Int32) (u : (Nat → Int32) × Nat) => (u.2 ≤ 1600) ∧ (byN u.1) ∧ ((u.2 = Itaped + 20 ∧ Itaped + 20 ≤ 1600 ∧ r = nI u.2 ∧ u.1 = feR Gtape Itaped xa xb xc9 xd xe) ∨ (u.2 = Itaped ∧ 1600 < Itaped + 20 ∧ r = -1 ∧ u.1 = Gtape))) (fun (u : (Nat → Int32) × Nat) => [wO m0 12 [.ref Mtape, .int (nI u.2), .int (nI Ifault), .int IfaultPlace, .int (nI Iat), .int (nI Isize), .int Isort, .int Iplace, .int Inumber, .long Iword, .ref MnName, .ref MnStep, .ref MnArg, .ref MnMany, .ref Mstep, .ref Marg, .ref Mmany, .ref Mopen, .ref Mvalues, .ref MnHasForm, .ref MhasForm, .int (nI Iform), .int (nI Iopens), .int (nI InUnits), .int Iunits, .int (nI IownUnits), .int (nI Ideep), .ref Masks, .ref MnLoud, .ref MnCliffAt, .ref MnSnow, .ref MnManAt, .ref MnVoice, .ref MnOn, .ref Mloud, .ref McliffAt, .ref MsnowTold, .ref MmanAt, .ref Mvoice, .ref Mon, .ref MnYes, .ref Myes, .int (nI InWords), .int (nI InCliffs), .int (nI InMen), .int (nI InStates), .int (nI InOns), .int InWind, .int InDraw, .int (nI Iwords), .int (nI Icliffs), .int (nI Imen), .int (nI Istates), .int Ions, .int IwindTold, .int InHasWind, .int InHasDraw, .ref Mnow, .ref Mcry, .ref Msnow, .ref Mecho, .int (nI IcryMany), .int IcallPlace, .int IcallVoice, .int Iwind, .int Ichance, .int (nI IechoMany), .ref Mwere, .int (nI Iacts), .int (nI Iundone), .ref Mlies, .int (nI Ilain), .ref Mspots, .ref Msteps, .ref MfromState, .ref MbyWord, .ref Mqueue, .ref MsoundCliff, .ref MsoundLong, .ref MsoundCame, .ref MsoundTold, .ref MsoundUntold, .int (nI Isounds), .int Itime, .ref Mstands, .int IstandMany, .ref Mtally, .ref MhasBox, .ref Mboxes], wI (cy 1) Mtape 1600 (u.1)]) := by
  refine XMi.start (by decide) (Nat.le_of_ble_eq_true rfl) ?_
  intro p e s m below meth c args A ls Q hat hQ
  obtain ⟨hx, hb, hr, hml, hown, hg, hlocks, hin, hK, hA, hP, hD, hS, hE, hl⟩ := hat
  have hown : s.vm.findClass RX12 = some m.cls := hown
  have hl : lv_has ls 6 [(0, .ref m0), (1, .int xa), (2, .int xb), (3, .int xc9), (4, .int xd), (5, .int xe)] := hl
  refine lv_aload_n hx hb dX12_feed_0 rfl (lv_at hl 0 rfl) ?_
  refine va_get (D := D) (ci := 12) (v := .int (nI Itaped)) (C := RX12) (T := TX12) (N := 89) hx hb hg i_X12 hown hK hP 0 rfl rfl 1 (by decide) (hg _ m_1414) (fun _ h9 => h9) rfl dX12_feed_1 ?_
  refine lv_bipush (v := 20) hx hb dX12_feed_4 (by decide) ?_
  refine lv_iadd hx hb dX12_feed_6 ?_
  refine lv_topi (fun y_1 hy_1 => ?_)
  obtain rfl : y_1 = nI (Itaped + 20) := hy_1.trans (nI_add Itaped 20)
  refine lv_sipush (v := 1600) hx hb dX12_feed_7 (by decide) ?_
  refine lv_icmp_le (tgt := 15) hx hb dX12_feed_10 (by decide) (fun c_2 => ?_) (fun c_2 => ?_)
  · have q_3 : (Itaped + 20) ≤ 1600 := q_le (a := (Itaped + 20)) (b := 1600) rfl rfl (by omega) (by omega) c_2
    refine lv_aload_n hx hb dX12_feed_15 rfl (lv_at hl 0 rfl) ?_
    refine lv_iload_n hx hb dX12_feed_16 rfl (lv_at hl 1 rfl) ?_
    refine x_callVv (q := (RX12, TX12, 89)) (ci := 12) (q0 := 0) (wr := []) (rest := []) ⟨hx, hb, hml, hown, hg, hl.1⟩ k_X12_160 (r_four l D cy m0 Mtape MnName MnStep MnArg MnMany Mstep Marg Mmany Mopen Mvalues MnHasForm MhasForm Masks MnLoud MnCliffAt MnSnow MnManAt MnVoice MnOn Mloud McliffAt MsnowTold MmanAt Mvoice Mon MnYes Myes Mnow Mcry Msnow Mecho Mwere Mlies Mspots Msteps MfromState MbyWord Mqueue MsoundCliff MsoundLong MsoundCame MsoundTold MsoundUntold Mstands Mtally MhasBox Mboxes Gtape Itaped Ifault IfaultPlace Iat Isize Isort Iplace Inumber Iword Iform Iopens InUnits Iunits IownUnits Ideep InWords InCliffs InMen InStates InOns InWind InDraw Iwords Icliffs Imen Istates Ions IwindTold InHasWind InHasDraw IcryMany IcallPlace IcallVoice Iwind Ichance IechoMany Iacts Iundone Ilain Isounds Itime IstandMany xa (by omega) (by omega) (by omega) (by omega) (by omega) (by omega) (by omega) (by omega) (by omega) (by omega) (by omega) (by omega) (by omega) (by omega) (by omega) (by omega) (by omega) (by omega) (by omega) (by omega) (by omega) (by omega) (by omega) (gby) (by omega)) E0_blind hK hP hD hS hA [0, 1] [] ⟨rfl, rfl, by decide +kernel, by decide +kernel, by decide +kernel⟩ rfl rfl (fun _ _ _ => trivial) dX12_feed_17 rfl rfl (Nat.le_of_ble_eq_true rfl) ⟨Nat.le_of_ble_eq_true rfl, Nat.le_of_ble_eq_true rfl⟩ ⟨Nat.le_of_ble_eq_true rfl, Nat.le_of_ble_eq_true rfl⟩ (fun zu4 H locs hw4 hP9 hD9 hS9 => ?_)
    clear hP hD hS
    obtain ⟨Gtape2_5, Itaped2_6⟩ := zu4
    refine reW [wO m0 12 [.ref Mtape, .int (nI Itaped2_6), .int (nI Ifault), .int IfaultPlace, .int (nI Iat), .int (nI Isize), .int Isort, .int Iplace, .int Inumber, .long Iword, .ref MnName, .ref MnStep, .ref MnArg, .ref MnMany, .ref Mstep, .ref Marg, .ref Mmany, .ref Mopen, .ref Mvalues, .ref MnHasForm, .ref MhasForm, .int (nI Iform), .int (nI Iopens), .int (nI InUnits), .int Iunits, .int (nI IownUnits), .int (nI Ideep), .ref Masks, .ref MnLoud, .ref MnCliffAt, .ref MnSnow, .ref MnManAt, .ref MnVoice, .ref MnOn, .ref Mloud, .ref McliffAt, .ref MsnowTold, .ref MmanAt, .ref Mvoice, .ref Mon, .ref MnYes, .ref Myes, .int (nI InWords), .int (nI InCliffs), .int (nI InMen), .int (nI InStates), .int (nI InOns), .int InWind, .int InDraw, .int (nI Iwords), .int (nI Icliffs), .int (nI Imen), .int (nI Istates), .int Ions, .int IwindTold, .int InHasWind, .int InHasDraw, .ref Mnow, .ref Mcry, .ref Msnow, .ref Mecho, .int (nI IcryMany), .int IcallPlace, .int IcallVoice, .int Iwind, .int Ichance, .int (nI IechoMany), .ref Mwere, .int (nI Iacts), .int (nI Iundone), .ref Mlies, .int (nI Ilain), .ref Mspots, .ref Msteps, .ref MfromState, .ref MbyWord, .ref Mqueue, .ref MsoundCliff, .ref MsoundLong, .ref MsoundCame, .ref MsoundTold, .ref MsoundUntold, .int (nI Isounds), .int Itime, .ref Mstands, .int IstandMany, .ref Mtally, .ref MhasBox, .ref Mboxes], wI (cy 1) Mtape 1600 (Gtape2_5)] hP9 hD9 hS9 (fun hP hD hS => ?_)
    clear hP9 hD9 hS9
    refine W.widen (k := 0) (n := 0) (Nat.le_of_ble_eq_true rfl) (Nat.le_of_ble_eq_true rfl) ?_
    replace hw4 : (Itaped2_6 ≤ 1600) ∧ (byN Gtape2_5) ∧ (Itaped2_6 = Itaped + 4) ∧ (Gtape2_5 = apR Gtape Itaped xa) := hw4
    obtain ⟨f_7, f_8, f_9, f_10⟩ := hw4
    refine lv_aload_n hx hb dX12_feed_20 rfl (lv_at hl 0 rfl) ?_
    refine lv_iload_n hx hb dX12_feed_21 rfl (lv_at hl 2 rfl) ?_
    refine x_callVv (q := (RX12, TX12, 89)) (ci := 12) (q0 := 0) (wr := []) (rest := []) ⟨hx, hb, hml, hown, hg, hl.1⟩ k_X12_160 (r_four l D cy m0 Mtape MnName MnStep MnArg MnMany Mstep Marg Mmany Mopen Mvalues MnHasForm MhasForm Masks MnLoud MnCliffAt MnSnow MnManAt MnVoice MnOn Mloud McliffAt MsnowTold MmanAt Mvoice Mon MnYes Myes Mnow Mcry Msnow Mecho Mwere Mlies Mspots Msteps MfromState MbyWord Mqueue MsoundCliff MsoundLong MsoundCame MsoundTold MsoundUntold Mstands Mtally MhasBox Mboxes Gtape2_5 Itaped2_6 Ifault IfaultPlace Iat Isize Isort Iplace Inumber Iword Iform Iopens InUnits Iunits IownUnits Ideep InWords InCliffs InMen InStates InOns InWind InDraw Iwords Icliffs Imen Istates Ions IwindTold InHasWind InHasDraw IcryMany IcallPlace IcallVoice Iwind Ichance IechoMany Iacts Iundone Ilain Isounds Itime IstandMany xb (by omega) (by omega) (by omega) (by omega) (by omega) (by omega) (by omega) (by omega) (by omega) (by omega) (by omega) (by omega) (by omega) (by omega) (by omega) (by omega) (by omega) (by omega) (by omega) (by omega) (by omega) (by omega) (by omega) (f_8) (by omega)) E0_blind hK hP hD hS hA [0, 1] [] ⟨rfl, rfl, by decide +kernel, by decide +kernel, by decide +kernel⟩ rfl rfl (fun _ _ _ => trivial) dX12_feed_22 rfl rfl (Nat.le_of_ble_eq_true rfl) ⟨Nat.le_of_ble_eq_true rfl, Nat.le_of_ble_eq_true rfl⟩ ⟨Nat.le_of_ble_eq_true rfl, Nat.le_of_ble_eq_true rfl⟩ (fun zu11 H locs hw11 hP9 hD9 hS9 => ?_)
    clear hP hD hS
    obtain ⟨Gtape2_12, Itaped2_13⟩ := zu11
    refine reW [wO m0 12 [.ref Mtape, .int (nI Itaped2_13), .int (nI Ifault), .int IfaultPlace, .int (nI Iat), .int (nI Isize), .int Isort, .int Iplace, .int Inumber, .long Iword, .ref MnName, .ref MnStep, .ref MnArg, .ref MnMany, .ref Mstep, .ref Marg, .ref Mmany, .ref Mopen, .ref Mvalues, .ref MnHasForm, .ref MhasForm, .int (nI Iform), .int (nI Iopens), .int (nI InUnits), .int Iunits, .int (nI IownUnits), .int (nI Ideep), .ref Masks, .ref MnLoud, .ref MnCliffAt, .ref MnSnow, .ref MnManAt, .ref MnVoice, .ref MnOn, .ref Mloud, .ref McliffAt, .ref MsnowTold, .ref MmanAt, .ref Mvoice, .ref Mon, .ref MnYes, .ref Myes, .int (nI InWords), .int (nI InCliffs), .int (nI InMen), .int (nI InStates), .int (nI InOns), .int InWind, .int InDraw, .int (nI Iwords), .int (nI Icliffs), .int (nI Imen), .int (nI Istates), .int Ions, .int IwindTold, .int InHasWind, .int InHasDraw, .ref Mnow, .ref Mcry, .ref Msnow, .ref Mecho, .int (nI IcryMany), .int IcallPlace, .int IcallVoice, .int Iwind, .int Ichance, .int (nI IechoMany), .ref Mwere, .int (nI Iacts), .int (nI Iundone), .ref Mlies, .int (nI Ilain), .ref Mspots, .ref Msteps, .ref MfromState, .ref MbyWord, .ref Mqueue, .ref MsoundCliff, .ref MsoundLong, .ref MsoundCame, .ref MsoundTold, .ref MsoundUntold, .int (nI Isounds), .int Itime, .ref Mstands, .int IstandMany, .ref Mtally, .ref MhasBox, .ref Mboxes], wI (cy 1) Mtape 1600 (Gtape2_12)] hP9 hD9 hS9 (fun hP hD hS => ?_)
    clear hP9 hD9 hS9
    refine W.widen (k := 0) (n := 0) (Nat.le_of_ble_eq_true rfl) (Nat.le_of_ble_eq_true rfl) ?_
    replace hw11 : (Itaped2_13 ≤ 1600) ∧ (byN Gtape2_12) ∧ (Itaped2_13 = Itaped2_6 + 4) ∧ (Gtape2_12 = apR Gtape2_5 Itaped2_6 xb) := hw11
    obtain ⟨f_14, f_15, f_16, f_17⟩ := hw11
    refine lv_aload_n hx hb dX12_feed_25 rfl (lv_at hl 0 rfl) ?_
    refine lv_iload_n hx hb dX12_feed_26 rfl (lv_at hl 3 rfl) ?_
    refine x_callVv (q := (RX12, TX12, 89)) (ci := 12) (q0 := 0) (wr := []) (rest := []) ⟨hx, hb, hml, hown, hg, hl.1⟩ k_X12_160 (r_four l D cy m0 Mtape MnName MnStep MnArg MnMany Mstep Marg Mmany Mopen Mvalues MnHasForm MhasForm Masks MnLoud MnCliffAt MnSnow MnManAt MnVoice MnOn Mloud McliffAt MsnowTold MmanAt Mvoice Mon MnYes Myes Mnow Mcry Msnow Mecho Mwere Mlies Mspots Msteps MfromState MbyWord Mqueue MsoundCliff MsoundLong MsoundCame MsoundTold MsoundUntold Mstands Mtally MhasBox Mboxes Gtape2_12 Itaped2_13 Ifault IfaultPlace Iat Isize Isort Iplace Inumber Iword Iform Iopens InUnits Iunits IownUnits Ideep InWords InCliffs InMen InStates InOns InWind InDraw Iwords Icliffs Imen Istates Ions IwindTold InHasWind InHasDraw IcryMany IcallPlace IcallVoice Iwind Ichance IechoMany Iacts Iundone Ilain Isounds Itime IstandMany xc9 (by omega) (by omega) (by omega) (by omega) (by omega) (by omega) (by omega) (by omega) (by omega) (by omega) (by omega) (by omega) (by omega) (by omega) (by omega) (by omega) (by omega) (by omega) (by omega) (by omega) (by omega) (by omega) (by omega) (f_15) (by omega)) E0_blind hK hP hD hS hA [0, 1] [] ⟨rfl, rfl, by decide +kernel, by decide +kernel, by decide +kernel⟩ rfl rfl (fun _ _ _ => trivial) dX12_feed_27 rfl rfl (Nat.le_of_ble_eq_true rfl) ⟨Nat.le_of_ble_eq_true rfl, Nat.le_of_ble_eq_true rfl⟩ ⟨Nat.le_of_ble_eq_true rfl, Nat.le_of_ble_eq_true rfl⟩ (fun zu18 H locs hw18 hP9 hD9 hS9 => ?_)
    clear hP hD hS
    obtain ⟨Gtape2_19, Itaped2_20⟩ := zu18
    refine reW [wO m0 12 [.ref Mtape, .int (nI Itaped2_20), .int (nI Ifault), .int IfaultPlace, .int (nI Iat), .int (nI Isize), .int Isort, .int Iplace, .int Inumber, .long Iword, .ref MnName, .ref MnStep, .ref MnArg, .ref MnMany, .ref Mstep, .ref Marg, .ref Mmany, .ref Mopen, .ref Mvalues, .ref MnHasForm, .ref MhasForm, .int (nI Iform), .int (nI Iopens), .int (nI InUnits), .int Iunits, .int (nI IownUnits), .int (nI Ideep), .ref Masks, .ref MnLoud, .ref MnCliffAt, .ref MnSnow, .ref MnManAt, .ref MnVoice, .ref MnOn, .ref Mloud, .ref McliffAt, .ref MsnowTold, .ref MmanAt, .ref Mvoice, .ref Mon, .ref MnYes, .ref Myes, .int (nI InWords), .int (nI InCliffs), .int (nI InMen), .int (nI InStates), .int (nI InOns), .int InWind, .int InDraw, .int (nI Iwords), .int (nI Icliffs), .int (nI Imen), .int (nI Istates), .int Ions, .int IwindTold, .int InHasWind, .int InHasDraw, .ref Mnow, .ref Mcry, .ref Msnow, .ref Mecho, .int (nI IcryMany), .int IcallPlace, .int IcallVoice, .int Iwind, .int Ichance, .int (nI IechoMany), .ref Mwere, .int (nI Iacts), .int (nI Iundone), .ref Mlies, .int (nI Ilain), .ref Mspots, .ref Msteps, .ref MfromState, .ref MbyWord, .ref Mqueue, .ref MsoundCliff, .ref MsoundLong, .ref MsoundCame, .ref MsoundTold, .ref MsoundUntold, .int (nI Isounds), .int Itime, .ref Mstands, .int IstandMany, .ref Mtally, .ref MhasBox, .ref Mboxes], wI (cy 1) Mtape 1600 (Gtape2_19)] hP9 hD9 hS9 (fun hP hD hS => ?_)
    clear hP9 hD9 hS9
    refine W.widen (k := 0) (n := 0) (Nat.le_of_ble_eq_true rfl) (Nat.le_of_ble_eq_true rfl) ?_
    replace hw18 : (Itaped2_20 ≤ 1600) ∧ (byN Gtape2_19) ∧ (Itaped2_20 = Itaped2_13 + 4) ∧ (Gtape2_19 = apR Gtape2_12 Itaped2_13 xc9) := hw18
    obtain ⟨f_21, f_22, f_23, f_24⟩ := hw18
    refine lv_aload_n hx hb dX12_feed_30 rfl (lv_at hl 0 rfl) ?_
    refine lv_iload hx hb dX12_feed_31 (lv_at hl 4 rfl) ?_
    refine x_callVv (q := (RX12, TX12, 89)) (ci := 12) (q0 := 0) (wr := []) (rest := []) ⟨hx, hb, hml, hown, hg, hl.1⟩ k_X12_160 (r_four l D cy m0 Mtape MnName MnStep MnArg MnMany Mstep Marg Mmany Mopen Mvalues MnHasForm MhasForm Masks MnLoud MnCliffAt MnSnow MnManAt MnVoice MnOn Mloud McliffAt MsnowTold MmanAt Mvoice Mon MnYes Myes Mnow Mcry Msnow Mecho Mwere Mlies Mspots Msteps MfromState MbyWord Mqueue MsoundCliff MsoundLong MsoundCame MsoundTold MsoundUntold Mstands Mtally MhasBox Mboxes Gtape2_19 Itaped2_20 Ifault IfaultPlace Iat Isize Isort Iplace Inumber Iword Iform Iopens InUnits Iunits IownUnits Ideep InWords InCliffs InMen InStates InOns InWind InDraw Iwords Icliffs Imen Istates Ions IwindTold InHasWind InHasDraw IcryMany IcallPlace IcallVoice Iwind Ichance IechoMany Iacts Iundone Ilain Isounds Itime IstandMany xd (by omega) (by omega) (by omega) (by omega) (by omega) (by omega) (by omega) (by omega) (by omega) (by omega) (by omega) (by omega) (by omega) (by omega) (by omega) (by omega) (by omega) (by omega) (by omega) (by omega) (by omega) (by omega) (by omega) (f_22) (by omega)) E0_blind hK hP hD hS hA [0, 1] [] ⟨rfl, rfl, by decide +kernel, by decide +kernel, by decide +kernel⟩ rfl rfl (fun _ _ _ => trivial) dX12_feed_33 rfl rfl (Nat.le_of_ble_eq_true rfl) ⟨Nat.le_of_ble_eq_true rfl, Nat.le_of_ble_eq_true rfl⟩ ⟨Nat.le_of_ble_eq_true rfl, Nat.le_of_ble_eq_true rfl⟩ (fun zu25 H locs hw25 hP9 hD9 hS9 => ?_)
    clear hP hD hS
    obtain ⟨Gtape2_26, Itaped2_27⟩ := zu25
    refine reW [wO m0 12 [.ref Mtape, .int (nI Itaped2_27), .int (nI Ifault), .int IfaultPlace, .int (nI Iat), .int (nI Isize), .int Isort, .int Iplace, .int Inumber, .long Iword, .ref MnName, .ref MnStep, .ref MnArg, .ref MnMany, .ref Mstep, .ref Marg, .ref Mmany, .ref Mopen, .ref Mvalues, .ref MnHasForm, .ref MhasForm, .int (nI Iform), .int (nI Iopens), .int (nI InUnits), .int Iunits, .int (nI IownUnits), .int (nI Ideep), .ref Masks, .ref MnLoud, .ref MnCliffAt, .ref MnSnow, .ref MnManAt, .ref MnVoice, .ref MnOn, .ref Mloud, .ref McliffAt, .ref MsnowTold, .ref MmanAt, .ref Mvoice, .ref Mon, .ref MnYes, .ref Myes, .int (nI InWords), .int (nI InCliffs), .int (nI InMen), .int (nI InStates), .int (nI InOns), .int InWind, .int InDraw, .int (nI Iwords), .int (nI Icliffs), .int (nI Imen), .int (nI Istates), .int Ions, .int IwindTold, .int InHasWind, .int InHasDraw, .ref Mnow, .ref Mcry, .ref Msnow, .ref Mecho, .int (nI IcryMany), .int IcallPlace, .int IcallVoice, .int Iwind, .int Ichance, .int (nI IechoMany), .ref Mwere, .int (nI Iacts), .int (nI Iundone), .ref Mlies, .int (nI Ilain), .ref Mspots, .ref Msteps, .ref MfromState, .ref MbyWord, .ref Mqueue, .ref MsoundCliff, .ref MsoundLong, .ref MsoundCame, .ref MsoundTold, .ref MsoundUntold, .int (nI Isounds), .int Itime, .ref Mstands, .int IstandMany, .ref Mtally, .ref MhasBox, .ref Mboxes], wI (cy 1) Mtape 1600 (Gtape2_26)] hP9 hD9 hS9 (fun hP hD hS => ?_)
    clear hP9 hD9 hS9
    refine W.widen (k := 0) (n := 0) (Nat.le_of_ble_eq_true rfl) (Nat.le_of_ble_eq_true rfl) ?_
    replace hw25 : (Itaped2_27 ≤ 1600) ∧ (byN Gtape2_26) ∧ (Itaped2_27 = Itaped2_20 + 4) ∧ (Gtape2_26 = apR Gtape2_19 Itaped2_20 xd) := hw25
    obtain ⟨f_28, f_29, f_30, f_31⟩ := hw25
    refine lv_aload_n hx hb dX12_feed_36 rfl (lv_at hl 0 rfl) ?_
    refine lv_iload hx hb dX12_feed_37 (lv_at hl 5 rfl) ?_
    refine x_callVv (q := (RX12, TX12, 89)) (ci := 12) (q0 := 0) (wr := []) (rest := []) ⟨hx, hb, hml, hown, hg, hl.1⟩ k_X12_160 (r_four l D cy m0 Mtape MnName MnStep MnArg MnMany Mstep Marg Mmany Mopen Mvalues MnHasForm MhasForm Masks MnLoud MnCliffAt MnSnow MnManAt MnVoice MnOn Mloud McliffAt MsnowTold MmanAt Mvoice Mon MnYes Myes Mnow Mcry Msnow Mecho Mwere Mlies Mspots Msteps MfromState MbyWord Mqueue MsoundCliff MsoundLong MsoundCame MsoundTold MsoundUntold Mstands Mtally MhasBox Mboxes Gtape2_26 Itaped2_27 Ifault IfaultPlace Iat Isize Isort Iplace Inumber Iword Iform Iopens InUnits Iunits IownUnits Ideep InWords InCliffs InMen InStates InOns InWind InDraw Iwords Icliffs Imen Istates Ions IwindTold InHasWind InHasDraw IcryMany IcallPlace IcallVoice Iwind Ichance IechoMany Iacts Iundone Ilain Isounds Itime IstandMany xe (by omega) (by omega) (by omega) (by omega) (by omega) (by omega) (by omega) (by omega) (by omega) (by omega) (by omega) (by omega) (by omega) (by omega) (by omega) (by omega) (by omega) (by omega) (by omega) (by omega) (by omega) (by omega) (by omega) (f_29) (by omega)) E0_blind hK hP hD hS hA [0, 1] [] ⟨rfl, rfl, by decide +kernel, by decide +kernel, by decide +kernel⟩ rfl rfl (fun _ _ _ => trivial) dX12_feed_39 rfl rfl (Nat.le_of_ble_eq_true rfl) ⟨Nat.le_of_ble_eq_true rfl, Nat.le_of_ble_eq_true rfl⟩ ⟨Nat.le_of_ble_eq_true rfl, Nat.le_of_ble_eq_true rfl⟩ (fun zu32 H locs hw32 hP9 hD9 hS9 => ?_)
    clear hP hD hS
    obtain ⟨Gtape2_33, Itaped2_34⟩ := zu32
    refine reW [wO m0 12 [.ref Mtape, .int (nI Itaped2_34), .int (nI Ifault), .int IfaultPlace, .int (nI Iat), .int (nI Isize), .int Isort, .int Iplace, .int Inumber, .long Iword, .ref MnName, .ref MnStep, .ref MnArg, .ref MnMany, .ref Mstep, .ref Marg, .ref Mmany, .ref Mopen, .ref Mvalues, .ref MnHasForm, .ref MhasForm, .int (nI Iform), .int (nI Iopens), .int (nI InUnits), .int Iunits, .int (nI IownUnits), .int (nI Ideep), .ref Masks, .ref MnLoud, .ref MnCliffAt, .ref MnSnow, .ref MnManAt, .ref MnVoice, .ref MnOn, .ref Mloud, .ref McliffAt, .ref MsnowTold, .ref MmanAt, .ref Mvoice, .ref Mon, .ref MnYes, .ref Myes, .int (nI InWords), .int (nI InCliffs), .int (nI InMen), .int (nI InStates), .int (nI InOns), .int InWind, .int InDraw, .int (nI Iwords), .int (nI Icliffs), .int (nI Imen), .int (nI Istates), .int Ions, .int IwindTold, .int InHasWind, .int InHasDraw, .ref Mnow, .ref Mcry, .ref Msnow, .ref Mecho, .int (nI IcryMany), .int IcallPlace, .int IcallVoice, .int Iwind, .int Ichance, .int (nI IechoMany), .ref Mwere, .int (nI Iacts), .int (nI Iundone), .ref Mlies, .int (nI Ilain), .ref Mspots, .ref Msteps, .ref MfromState, .ref MbyWord, .ref Mqueue, .ref MsoundCliff, .ref MsoundLong, .ref MsoundCame, .ref MsoundTold, .ref MsoundUntold, .int (nI Isounds), .int Itime, .ref Mstands, .int IstandMany, .ref Mtally, .ref MhasBox, .ref Mboxes], wI (cy 1) Mtape 1600 (Gtape2_33)] hP9 hD9 hS9 (fun hP hD hS => ?_)
    clear hP9 hD9 hS9
    refine W.widen (k := 0) (n := 0) (Nat.le_of_ble_eq_true rfl) (Nat.le_of_ble_eq_true rfl) ?_
    replace hw32 : (Itaped2_34 ≤ 1600) ∧ (byN Gtape2_33) ∧ (Itaped2_34 = Itaped2_27 + 4) ∧ (Gtape2_33 = apR Gtape2_26 Itaped2_27 xe) := hw32
    obtain ⟨f_35, f_36, f_37, f_38⟩ := hw32
    refine lv_aload_n hx hb dX12_feed_42 rfl (lv_at hl 0 rfl) ?_
    refine va_get (D := D) (ci := 12) (v := .int (nI Itaped2_34)) (C := RX12) (T := TX12) (N := 89) hx hb hg i_X12 hown hK hP 0 rfl rfl 1 (by decide) (hg _ m_1414) (fun _ h9 => h9) rfl dX12_feed_43 ?_
    exact x_iret hQ hx hb hr hlocks hK hP hD hS dX12_feed_46 (Gtape2_33, Itaped2_34) (⟨(show Itaped2_34 ≤ 1600 from by omega), (show byN Gtape2_33 from f_36), (show (Itaped2_34 = Itaped + 20 ∧ Itaped + 20 ≤ 1600 ∧ (nI Itaped2_34 : Int32) = nI Itaped2_34 ∧ Gtape2_33 = feR Gtape Itaped xa xb xc9 xd xe) ∨ (Itaped2_34 = Itaped ∧ 1600 < Itaped + 20 ∧ (nI Itaped2_34 : Int32) = -1 ∧ Gtape2_33 = Gtape) from Or.inl ⟨by omega, by omega, rfl, feR_mk f_10 f_9 f_17 f_16 f_24 f_23 f_31 f_30 f_38⟩)⟩) [0, 1] (by decide +kernel) rfl (Nat.le_of_ble_eq_true rfl) (Nat.le_of_ble_eq_true rfl)
  · have q_3 : 1600 < (Itaped + 20) := q_nle (a := (Itaped + 20)) (b := 1600) rfl rfl (by omega) (by omega) c_2
    refine lv_iconst (v := -1) hx hb dX12_feed_13 (by decide) ?_
    exact x_iret hQ hx hb hr hlocks hK hP hD hS dX12_feed_14 (Gtape, Itaped) (⟨(show Itaped ≤ 1600 from by omega), (show byN Gtape from gby), (show (Itaped = Itaped + 20 ∧ Itaped + 20 ≤ 1600 ∧ (-1 : Int32) = nI Itaped ∧ Gtape = feR Gtape Itaped xa xb xc9 xd xe) ∨ (Itaped = Itaped ∧ 1600 < Itaped + 20 ∧ (-1 : Int32) = -1 ∧ Gtape = Gtape) from Or.inr ⟨rfl, by omega, rfl, rfl⟩)⟩) [0, 1] (by decide +kernel) rfl (Nat.le_of_ble_eq_true rfl) (Nat.le_of_ble_eq_true rfl)
theorem gdX12_end_0 : decode cX12_end 0 = .ok (.iload_n 1, 1) ∧ decode cX12_end 1 = .ok (.ifCond .lt 11, 3) ∧ decode cX12_end 12 = .ok (.iconst (-1), 1) ∧ decode cX12_end 13 = .ok (.ireturn, 1) ∧ decode cX12_end 4 = .ok (.iload_n 1, 1) ∧ decode cX12_end 5 = .ok (.aload_n 0, 1) ∧ decode cX12_end 6 = .ok (.getfield 157, 3) ∧ decode cX12_end 9 = .ok (.if_icmp .le 5, 3) ∧ decode cX12_end 14 = .ok (.aload_n 0, 1) ∧ decode cX12_end 15 = .ok (.iload_n 1, 1) ∧ decode cX12_end 16 = .ok (.putfield 157, 3) ∧ decode cX12_end 19 = .ok (.iload_n 1, 1) := by decide +kernel
theorem dX12_end_0 : decode cX12_end 0 = .ok (.iload_n 1, 1) := gdX12_end_0.1
theorem dX12_end_1 : decode cX12_end 1 = .ok (.ifCond .lt 11, 3) := gdX12_end_0.2.1
theorem dX12_end_12 : decode cX12_end 12 = .ok (.iconst (-1), 1) := gdX12_end_0.2.2.1
theorem dX12_end_13 : decode cX12_end 13 = .ok (.ireturn, 1) := gdX12_end_0.2.2.2.1
theorem dX12_end_4 : decode cX12_end 4 = .ok (.iload_n 1, 1) := gdX12_end_0.2.2.2.2.1
theorem dX12_end_5 : decode cX12_end 5 = .ok (.aload_n 0, 1) := gdX12_end_0.2.2.2.2.2.1
theorem dX12_end_6 : decode cX12_end 6 = .ok (.getfield 157, 3) := gdX12_end_0.2.2.2.2.2.2.1
theorem dX12_end_9 : decode cX12_end 9 = .ok (.if_icmp .le 5, 3) := gdX12_end_0.2.2.2.2.2.2.2.1
theorem dX12_end_14 : decode cX12_end 14 = .ok (.aload_n 0, 1) := gdX12_end_0.2.2.2.2.2.2.2.2.1
theorem dX12_end_15 : decode cX12_end 15 = .ok (.iload_n 1, 1) := gdX12_end_0.2.2.2.2.2.2.2.2.2.1
theorem dX12_end_16 : decode cX12_end 16 = .ok (.putfield 157, 3) := gdX12_end_0.2.2.2.2.2.2.2.2.2.2.1
theorem dX12_end_19 : decode cX12_end 19 = .ok (.iload_n 1, 1) := gdX12_end_0.2.2.2.2.2.2.2.2.2.2.2
theorem dX12_end_20 : decode cX12_end 20 = .ok (.ireturn, 1) := by decide +kernel
set_option maxHeartbeats 1000000 in
set_option maxRecDepth 100000 in
theorem r_end (l : Launch) (D : va_G) (cy : Nat → ClassId) (m0 : Nat) (Mtape : Nat) (MnName : Nat) (MnStep : Nat) (MnArg : Nat) (MnMany : Nat) (Mstep : Nat) (Marg : Nat) (Mmany : Nat) (Mopen : Nat) (Mvalues : Nat) (MnHasForm : Nat) (MhasForm : Nat) (Masks : Nat) (MnLoud : Nat) (MnCliffAt : Nat) (MnSnow : Nat) (MnManAt : Nat) (MnVoice : Nat) (MnOn : Nat) (Mloud : Nat) (McliffAt : Nat) (MsnowTold : Nat) (MmanAt : Nat) (Mvoice : Nat) (Mon : Nat) (MnYes : Nat) (Myes : Nat) (Mnow : Nat) (Mcry : Nat) (Msnow : Nat) (Mecho : Nat) (Mwere : Nat) (Mlies : Nat) (Mspots : Nat) (Msteps : Nat) (MfromState : Nat) (MbyWord : Nat) (Mqueue : Nat) (MsoundCliff : Nat) (MsoundLong : Nat) (MsoundCame : Nat) (MsoundTold : Nat) (MsoundUntold : Nat) (Mstands : Nat) (Mtally : Nat) (MhasBox : Nat) (Mboxes : Nat) (Itaped : Nat) (Ifault : Nat) (IfaultPlace : Int32) (Iat : Nat) (Isize : Nat) (Isort : Int32) (Iplace : Int32) (Inumber : Int32) (Iword : Int64) (Iform : Nat) (Iopens : Nat) (InUnits : Nat) (Iunits : Int32) (IownUnits : Nat) (Ideep : Nat) (InWords : Nat) (InCliffs : Nat) (InMen : Nat) (InStates : Nat) (InOns : Nat) (InWind : Int32) (InDraw : Int32) (Iwords : Nat) (Icliffs : Nat) (Imen : Nat) (Istates : Nat) (Ions : Int32) (IwindTold : Int32) (InHasWind : Int32) (InHasDraw : Int32) (IcryMany : Nat) (IcallPlace : Int32) (IcallVoice : Int32) (Iwind : Int32) (Ichance : Int32) (IechoMany : Nat) (Iacts : Nat) (Iundone : Nat) (Ilain : Nat) (Isounds : Nat) (Itime : Int32) (IstandMany : Int32) (xn : Int32) (gtp : Itaped ≤ 1600) (gat : Iat ≤ Isize) (gsz : Isize ≤ 1600) (gfl : Ifault ≤ 5) (gfo : Iform ≤ 2) (gnw : InWords ≤ 8) (gnc : InCliffs ≤ 4) (gnm : InMen ≤ 4) (gns : InStates ≤ 6) (gw : Iwords ≤ 8) (gc9 : Icliffs ≤ 4) (gm : Imen ≤ 4) (gs : Istates ≤ 6) (gcm : IcryMany ≤ 10) (gem : IechoMany ≤ 20) (gau : Iacts + Iundone ≤ 40) (gla : Ilain ≤ 20) (gso : Isounds ≤ 30) (gop : Iopens ≤ 40) (gde : Ideep ≤ 8) (gou : IownUnits ≤ 31) (gnu : InUnits ≤ 61) (gno : InOns ≤ 30) : XMi l D (tyL cy) E0 yX12_end cX12_end 2 (some .int) (rmk 1 0 0) [.ref m0, .int xn] [wO m0 12 [.ref Mtape, .int (nI Itaped), .int (nI Ifault), .int IfaultPlace, .int (nI Iat), .int (nI Isize), .int Isort, .int Iplace, .int Inumber, .long Iword, .ref MnName, .ref MnStep, .ref MnArg, .ref MnMany, .ref Mstep, .ref Marg, .ref Mmany, .ref Mopen, .ref Mvalues, .ref MnHasForm, .ref MhasForm, .int (nI Iform), .int (nI Iopens), .int (nI InUnits), .int Iunits, .int (nI IownUnits), .int (nI Ideep), .ref Masks, .ref MnLoud, .ref MnCliffAt, .ref MnSnow, .ref MnManAt, .ref MnVoice, .ref MnOn, .ref Mloud, .ref McliffAt, .ref MsnowTold, .ref MmanAt, .ref Mvoice, .ref Mon, .ref MnYes, .ref Myes, .int (nI InWords), .int (nI InCliffs), .int (nI InMen), .int (nI InStates), .int (nI InOns), .int InWind, .int InDraw, .int (nI Iwords), .int (nI Icliffs), .int (nI Imen), .int (nI Istates), .int Ions, .int IwindTold, .int InHasWind, .int InHasDraw, .ref Mnow, .ref Mcry, .ref Msnow, .ref Mecho, .int (nI IcryMany), .int IcallPlace, .int IcallVoice, .int Iwind, .int Ichance, .int (nI IechoMany), .ref Mwere, .int (nI Iacts), .int (nI Iundone), .ref Mlies, .int (nI Ilain), .ref Mspots, .ref Msteps, .ref MfromState, .ref MbyWord, .ref Mqueue, .ref MsoundCliff, .ref MsoundLong, .ref MsoundCame, .ref MsoundTold, .ref MsoundUntold, .int (nI Isounds), .int Itime, .ref Mstands, .int IstandMany, .ref Mtally, .ref MhasBox, .ref Mboxes]] (fun (r : Int32) (Itaped2 : Nat) => (Itaped2 ≤ 1600) ∧ ((∃ j9 : Nat, j9 ≤ Itaped ∧ xn = nI j9 ∧ Itaped2 = j9 ∧ r = xn) ∨ ((∀ j9 : Nat, j9 ≤ Itaped → xn = nI j9 → False) ∧ Itaped2 = Itaped ∧ r = -1))) (fun (Itaped2 : Nat) => [wO m0 12 [.ref Mtape, .int (nI Itaped2), .int (nI Ifault), .int IfaultPlace, .int (nI Iat), .int (nI Isize), .int Isort, .int Iplace, .int Inumber, .long Iword, .ref MnName, .ref MnStep, .ref MnArg, .ref MnMany, .ref Mstep, .ref Marg, .ref Mmany, .ref Mopen, .ref Mvalues, .ref MnHasForm, .ref MhasForm, .int (nI Iform), .int (nI Iopens), .int (nI InUnits), .int Iunits, .int (nI IownUnits), .int (nI Ideep), .ref Masks, .ref MnLoud, .ref MnCliffAt, .ref MnSnow, .ref MnManAt, .ref MnVoice, .ref MnOn, .ref Mloud, .ref McliffAt, .ref MsnowTold, .ref MmanAt, .ref Mvoice, .ref Mon, .ref MnYes, .ref Myes, .int (nI InWords), .int (nI InCliffs), .int (nI InMen), .int (nI InStates), .int (nI InOns), .int InWind, .int InDraw, .int (nI Iwords), .int (nI Icliffs), .int (nI Imen), .int (nI Istates), .int Ions, .int IwindTold, .int InHasWind, .int InHasDraw, .ref Mnow, .ref Mcry, .ref Msnow, .ref Mecho, .int (nI IcryMany), .int IcallPlace, .int IcallVoice, .int Iwind, .int Ichance, .int (nI IechoMany), .ref Mwere, .int (nI Iacts), .int (nI Iundone), .ref Mlies, .int (nI Ilain), .ref Mspots, .ref Msteps, .ref MfromState, .ref MbyWord, .ref Mqueue, .ref MsoundCliff, .ref MsoundLong, .ref MsoundCame, .ref MsoundTold, .ref MsoundUntold, .int (nI Isounds), .int Itime, .ref Mstands, .int IstandMany, .ref Mtally, .ref MhasBox, .ref Mboxes]]) := by
  refine XMi.start (by decide) (Nat.le_of_ble_eq_true rfl) ?_
  intro p e s m below meth c args A ls Q hat hQ
  obtain ⟨hx, hb, hr, hml, hown, hg, hlocks, hin, hK, hA, hP, hD, hS, hE, hl⟩ := hat
  have hown : s.vm.findClass RX12 = some m.cls := hown
  have hl : lv_has ls 2 [(0, .ref m0), (1, .int xn)] := hl
  refine lv_iload_n hx hb dX12_end_0 rfl (lv_at hl 1 rfl) ?_
  refine lv_if_lt (tgt := 12) hx hb dX12_end_1 (by decide) (fun c_1 => ?_) (fun c_1 => ?_)
  · refine lv_iconst (v := -1) hx hb dX12_end_12 (by decide) ?_
    exact x_iret hQ hx hb hr hlocks hK hP hD hS dX12_end_13 Itaped (⟨(show Itaped ≤ 1600 from by omega), Or.inr ⟨fun j9 h9 e9 => nI_pos (n := j9) (by omega) (e9 ▸ c_1), rfl, rfl⟩⟩) [0] (by decide +kernel) rfl (Nat.le_of_ble_eq_true rfl) (Nat.le_of_ble_eq_true rfl)
  · refine lv_iload_n hx hb dX12_end_4 rfl (lv_at hl 1 rfl) ?_
    refine lv_aload_n hx hb dX12_end_5 rfl (lv_at hl 0 rfl) ?_
    refine va_get (D := D) (ci := 12) (v := .int (nI Itaped)) (C := RX12) (T := TX12) (N := 89) hx hb hg i_X12 hown hK hP 0 rfl rfl 1 (by decide) (hg _ m_1414) (fun _ h9 => h9) rfl dX12_end_6 ?_
    refine lv_icmp_le (tgt := 14) hx hb dX12_end_9 (by decide) (fun c_9 => ?_) (fun c_9 => ?_)
    · obtain ⟨j_1, hj_1, ej_1⟩ := hasle (by omega) c_1 c_9
      subst ej_1
      refine lv_aload_n hx hb dX12_end_14 rfl (lv_at hl 0 rfl) ?_
      refine lv_iload_n hx hb dX12_end_15 rfl (lv_at hl 1 rfl) ?_
      refine va_put (D := D) (ci := 12) (v := .int (nI j_1)) (ty := .int) (C := RX12) (T := TX12) (N := 89) hx hb hg i_X12 tyX12 tyX12_ok nmX12 hown hK hP hD hS 0 rfl rfl 1 (by decide) (hg _ m_1414) (fun _ h9 => h9) rfl (by decide +kernel) rfl rfl (Nat.le_of_ble_eq_true rfl) dX12_end_16 (fun H locs hP9 hD9 hS9 => ?_)
      clear hP hD hS
      refine reW [wO m0 12 [.ref Mtape, .int (nI j_1), .int (nI Ifault), .int IfaultPlace, .int (nI Iat), .int (nI Isize), .int Isort, .int Iplace, .int Inumber, .long Iword, .ref MnName, .ref MnStep, .ref MnArg, .ref MnMany, .ref Mstep, .ref Marg, .ref Mmany, .ref Mopen, .ref Mvalues, .ref MnHasForm, .ref MhasForm, .int (nI Iform), .int (nI Iopens), .int (nI InUnits), .int Iunits, .int (nI IownUnits), .int (nI Ideep), .ref Masks, .ref MnLoud, .ref MnCliffAt, .ref MnSnow, .ref MnManAt, .ref MnVoice, .ref MnOn, .ref Mloud, .ref McliffAt, .ref MsnowTold, .ref MmanAt, .ref Mvoice, .ref Mon, .ref MnYes, .ref Myes, .int (nI InWords), .int (nI InCliffs), .int (nI InMen), .int (nI InStates), .int (nI InOns), .int InWind, .int InDraw, .int (nI Iwords), .int (nI Icliffs), .int (nI Imen), .int (nI Istates), .int Ions, .int IwindTold, .int InHasWind, .int InHasDraw, .ref Mnow, .ref Mcry, .ref Msnow, .ref Mecho, .int (nI IcryMany), .int IcallPlace, .int IcallVoice, .int Iwind, .int Ichance, .int (nI IechoMany), .ref Mwere, .int (nI Iacts), .int (nI Iundone), .ref Mlies, .int (nI Ilain), .ref Mspots, .ref Msteps, .ref MfromState, .ref MbyWord, .ref Mqueue, .ref MsoundCliff, .ref MsoundLong, .ref MsoundCame, .ref MsoundTold, .ref MsoundUntold, .int (nI Isounds), .int Itime, .ref Mstands, .int IstandMany, .ref Mtally, .ref MhasBox, .ref Mboxes]] hP9 hD9 hS9 (fun hP hD hS => ?_)
      clear hP9 hD9 hS9
      refine lv_iload_n hx hb dX12_end_19 rfl (lv_at hl 1 rfl) ?_
      exact x_iret hQ hx hb hr hlocks hK hP hD hS dX12_end_20 j_1 (⟨(show j_1 ≤ 1600 from by omega), Or.inl ⟨j_1, by omega, rfl, rfl, rfl⟩⟩) [0] (by decide +kernel) rfl (Nat.le_of_ble_eq_true rfl) (Nat.le_of_ble_eq_true rfl)
    · refine lv_iconst (v := -1) hx hb dX12_end_12 (by decide) ?_
      exact x_iret hQ hx hb hr hlocks hK hP hD hS dX12_end_13 Itaped (⟨(show Itaped ≤ 1600 from by omega), Or.inr ⟨fun j9 h9 e9 => c_9 (by rw [e9]; exact nI_le (by omega) (by omega)), rfl, rfl⟩⟩) [0] (by decide +kernel) rfl (Nat.le_of_ble_eq_true rfl) (Nat.le_of_ble_eq_true rfl)
theorem gdX12_here_0 : decode cX12_here 0 = .ok (.aload_n 0, 1) ∧ decode cX12_here 1 = .ok (.getfield 164, 3) ∧ decode cX12_here 4 = .ok (.iload_n 1, 1) ∧ decode cX12_here 5 = .ok (.iadd, 1) ∧ decode cX12_here 6 = .ok (.aload_n 0, 1) ∧ decode cX12_here 7 = .ok (.getfield 167, 3) ∧ decode cX12_here 10 = .ok (.if_icmp .ge 17, 3) ∧ decode cX12_here 27 = .ok (.iconst (-1), 1) ∧ decode cX12_here 28 = .ok (.ireturn, 1) ∧ decode cX12_here 13 = .ok (.aload_n 0, 1) ∧ decode cX12_here 14 = .ok (.getfield 7, 3) ∧ decode cX12_here 17 = .ok (.aload_n 0, 1) := by decide +kernel
theorem dX12_here_0 : decode cX12_here 0 = .ok (.aload_n 0, 1) := gdX12_here_0.1
theorem dX12_here_1 : decode cX12_here 1 = .ok (.getfield 164, 3) := gdX12_here_0.2.1
theorem dX12_here_4 : decode cX12_here 4 = .ok (.iload_n 1, 1) := gdX12_here_0.2.2.1
theorem dX12_here_5 : decode cX12_here 5 = .ok (.iadd, 1) := gdX12_here_0.2.2.2.1
theorem dX12_here_6 : decode cX12_here 6 = .ok (.aload_n 0, 1) := gdX12_here_0.2.2.2.2.1
theorem dX12_here_7 : decode cX12_here 7 = .ok (.getfield 167, 3) := gdX12_here_0.2.2.2.2.2.1
theorem dX12_here_10 : decode cX12_here 10 = .ok (.if_icmp .ge 17, 3) := gdX12_here_0.2.2.2.2.2.2.1
theorem dX12_here_27 : decode cX12_here 27 = .ok (.iconst (-1), 1) := gdX12_here_0.2.2.2.2.2.2.2.1
theorem dX12_here_28 : decode cX12_here 28 = .ok (.ireturn, 1) := gdX12_here_0.2.2.2.2.2.2.2.2.1
theorem dX12_here_13 : decode cX12_here 13 = .ok (.aload_n 0, 1) := gdX12_here_0.2.2.2.2.2.2.2.2.2.1
theorem dX12_here_14 : decode cX12_here 14 = .ok (.getfield 7, 3) := gdX12_here_0.2.2.2.2.2.2.2.2.2.2.1
theorem dX12_here_17 : decode cX12_here 17 = .ok (.aload_n 0, 1) := gdX12_here_0.2.2.2.2.2.2.2.2.2.2.2
theorem gdX12_here_18 : decode cX12_here 18 = .ok (.getfield 164, 3) ∧ decode cX12_here 21 = .ok (.iload_n 1, 1) ∧ decode cX12_here 22 = .ok (.iadd, 1) ∧ decode cX12_here 23 = .ok (.iaload, 1) ∧ decode cX12_here 24 = .ok (.goto 4, 3) := by decide +kernel
theorem dX12_here_18 : decode cX12_here 18 = .ok (.getfield 164, 3) := gdX12_here_18.1
theorem dX12_here_21 : decode cX12_here 21 = .ok (.iload_n 1, 1) := gdX12_here_18.2.1
theorem dX12_here_22 : decode cX12_here 22 = .ok (.iadd, 1) := gdX12_here_18.2.2.1
theorem dX12_here_23 : decode cX12_here 23 = .ok (.iaload, 1) := gdX12_here_18.2.2.2.1
theorem dX12_here_24 : decode cX12_here 24 = .ok (.goto 4, 3) := gdX12_here_18.2.2.2.2
set_option maxHeartbeats 1000000 in
set_option maxRecDepth 100000 in
theorem r_here (l : Launch) (D : va_G) (cy : Nat → ClassId) (m0 : Nat) (Mtape : Nat) (MnName : Nat) (MnStep : Nat) (MnArg : Nat) (MnMany : Nat) (Mstep : Nat) (Marg : Nat) (Mmany : Nat) (Mopen : Nat) (Mvalues : Nat) (MnHasForm : Nat) (MhasForm : Nat) (Masks : Nat) (MnLoud : Nat) (MnCliffAt : Nat) (MnSnow : Nat) (MnManAt : Nat) (MnVoice : Nat) (MnOn : Nat) (Mloud : Nat) (McliffAt : Nat) (MsnowTold : Nat) (MmanAt : Nat) (Mvoice : Nat) (Mon : Nat) (MnYes : Nat) (Myes : Nat) (Mnow : Nat) (Mcry : Nat) (Msnow : Nat) (Mecho : Nat) (Mwere : Nat) (Mlies : Nat) (Mspots : Nat) (Msteps : Nat) (MfromState : Nat) (MbyWord : Nat) (Mqueue : Nat) (MsoundCliff : Nat) (MsoundLong : Nat) (MsoundCame : Nat) (MsoundTold : Nat) (MsoundUntold : Nat) (Mstands : Nat) (Mtally : Nat) (MhasBox : Nat) (Mboxes : Nat) (Gtape : Nat → Int32) (Itaped : Nat) (Ifault : Nat) (IfaultPlace : Int32) (Iat : Nat) (Isize : Nat) (Isort : Int32) (Iplace : Int32) (Inumber : Int32) (Iword : Int64) (Iform : Nat) (Iopens : Nat) (InUnits : Nat) (Iunits : Int32) (IownUnits : Nat) (Ideep : Nat) (InWords : Nat) (InCliffs : Nat) (InMen : Nat) (InStates : Nat) (InOns : Nat) (InWind : Int32) (InDraw : Int32) (Iwords : Nat) (Icliffs : Nat) (Imen : Nat) (Istates : Nat) (Ions : Int32) (IwindTold : Int32) (InHasWind : Int32) (InHasDraw : Int32) (IcryMany : Nat) (IcallPlace : Int32) (IcallVoice : Int32) (Iwind : Int32) (Ichance : Int32) (IechoMany : Nat) (Iacts : Nat) (Iundone : Nat) (Ilain : Nat) (Isounds : Nat) (Itime : Int32) (IstandMany : Int32) (kx : Nat) (gtp : Itaped ≤ 1600) (gat : Iat ≤ Isize) (gsz : Isize ≤ 1600) (gfl : Ifault ≤ 5) (gfo : Iform ≤ 2) (gnw : InWords ≤ 8) (gnc : InCliffs ≤ 4) (gnm : InMen ≤ 4) (gns : InStates ≤ 6) (gw : Iwords ≤ 8) (gc9 : Icliffs ≤ 4) (gm : Imen ≤ 4) (gs : Istates ≤ 6) (gcm : IcryMany ≤ 10) (gem : IechoMany ≤ 20) (gau : Iacts + Iundone ≤ 40) (gla : Ilain ≤ 20) (gso : Isounds ≤ 30) (gop : Iopens ≤ 40) (gde : Ideep ≤ 8) (gou : IownUnits ≤ 31) (gnu : InUnits ≤ 61) (gno : InOns ≤ 30) (gby : byN Gtape) (hkx : kx ≤ 1600) : XMi l D (tyL cy) E0 yX12_here cX12_here 2 (some .int) (rmk 0 0 0) [.ref m0, .int (nI kx)] [wO m0 12 [.ref Mtape, .int (nI Itaped), .int (nI Ifault), .int IfaultPlace, .int (nI Iat), .int (nI Isize), .int Isort, .int Iplace, .int Inumber, .long Iword, .ref MnName, .ref MnStep, .ref MnArg, .ref MnMany, .ref Mstep, .ref Marg, .ref Mmany, .ref Mopen, .ref Mvalues, .ref MnHasForm, .ref MhasForm, .int (nI Iform), .int (nI Iopens), .int (nI InUnits), .int Iunits, .int (nI IownUnits), .int (nI Ideep), .ref Masks, .ref MnLoud, .ref MnCliffAt, .ref MnSnow, .ref MnManAt, .ref MnVoice, .ref MnOn, .ref Mloud, .ref McliffAt, .ref MsnowTold, .ref MmanAt, .ref Mvoice, .ref Mon, .ref MnYes, .ref Myes, .int (nI InWords), .int (nI InCliffs), .int (nI InMen), .int (nI InStates), .int (nI InOns), .int InWind, .int InDraw, .int (nI Iwords), .int (nI Icliffs), .int (nI Imen), .int (nI Istates), .int Ions, .int IwindTold, .int InHasWind, .int InHasDraw, .ref Mnow, .ref Mcry, .ref Msnow, .ref Mecho, .int (nI IcryMany), .int IcallPlace, .int IcallVoice, .int Iwind, .int Ichance, .int (nI IechoMany), .ref Mwere, .int (nI Iacts), .int (nI Iundone), .ref Mlies, .int (nI Ilain), .ref Mspots, .ref Msteps, .ref MfromState, .ref MbyWord, .ref Mqueue, .ref MsoundCliff, .ref MsoundLong, .ref MsoundCame, .ref MsoundTold, .ref MsoundUntold, .int (nI Isounds), .int Itime, .ref Mstands, .int IstandMany, .ref Mtally, .ref MhasBox, .ref Mboxes], wI (cy 1) Mtape 1600 (Gtape)] (fun (r : Int32) (_ : Unit) => (r = hrF Gtape Iat Isize kx)) (fun (_ : Unit) => [wO m0 12 [.ref Mtape, .int (nI Itaped), .int (nI Ifault), .int IfaultPlace, .int (nI Iat), .int (nI Isize), .int Isort, .int Iplace, .int Inumber, .long Iword, .ref MnName, .ref MnStep, .ref MnArg, .ref MnMany, .ref Mstep, .ref Marg, .ref Mmany, .ref Mopen, .ref Mvalues, .ref MnHasForm, .ref MhasForm, .int (nI Iform), .int (nI Iopens), .int (nI InUnits), .int Iunits, .int (nI IownUnits), .int (nI Ideep), .ref Masks, .ref MnLoud, .ref MnCliffAt, .ref MnSnow, .ref MnManAt, .ref MnVoice, .ref MnOn, .ref Mloud, .ref McliffAt, .ref MsnowTold, .ref MmanAt, .ref Mvoice, .ref Mon, .ref MnYes, .ref Myes, .int (nI InWords), .int (nI InCliffs), .int (nI InMen), .int (nI InStates), .int (nI InOns), .int InWind, .int InDraw, .int (nI Iwords), .int (nI Icliffs), .int (nI Imen), .int (nI Istates), .int Ions, .int IwindTold, .int InHasWind, .int InHasDraw, .ref Mnow, .ref Mcry, .ref Msnow, .ref Mecho, .int (nI IcryMany), .int IcallPlace, .int IcallVoice, .int Iwind, .int Ichance, .int (nI IechoMany), .ref Mwere, .int (nI Iacts), .int (nI Iundone), .ref Mlies, .int (nI Ilain), .ref Mspots, .ref Msteps, .ref MfromState, .ref MbyWord, .ref Mqueue, .ref MsoundCliff, .ref MsoundLong, .ref MsoundCame, .ref MsoundTold, .ref MsoundUntold, .int (nI Isounds), .int Itime, .ref Mstands, .int IstandMany, .ref Mtally, .ref MhasBox, .ref Mboxes], wI (cy 1) Mtape 1600 (Gtape)]) := by
  refine XMi.start (by decide) (Nat.le_of_ble_eq_true rfl) ?_
  intro p e s m below meth c args A ls Q hat hQ
  obtain ⟨hx, hb, hr, hml, hown, hg, hlocks, hin, hK, hA, hP, hD, hS, hE, hl⟩ := hat
  have hown : s.vm.findClass RX12 = some m.cls := hown
  have hl : lv_has ls 2 [(0, .ref m0), (1, .int (nI kx))] := hl
  refine lv_aload_n hx hb dX12_here_0 rfl (lv_at hl 0 rfl) ?_
  refine va_get (D := D) (ci := 12) (v := .int (nI Iat)) (C := RX12) (T := TX12) (N := 89) hx hb hg i_X12 hown hK hP 0 rfl rfl 4 (by decide) (hg _ m_1417) (fun _ h9 => h9) rfl dX12_here_1 ?_
  refine lv_iload_n hx hb dX12_here_4 rfl (lv_at hl 1 rfl) ?_
  refine lv_iadd hx hb dX12_here_5 ?_
  refine lv_topi (fun y_1 hy_1 => ?_)
  obtain rfl : y_1 = nI (Iat + kx) := hy_1.trans (nI_add Iat kx)
  refine lv_aload_n hx hb dX12_here_6 rfl (lv_at hl 0 rfl) ?_
  refine va_get (D := D) (ci := 12) (v := .int (nI Isize)) (C := RX12) (T := TX12) (N := 89) hx hb hg i_X12 hown hK hP 0 rfl rfl 5 (by decide) (hg _ m_1418) (fun _ h9 => h9) rfl dX12_here_7 ?_
  refine lv_icmp_ge (tgt := 27) hx hb dX12_here_10 (by decide) (fun c_2 => ?_) (fun c_2 => ?_)
  · have q_3 : Isize ≤ (Iat + kx) := q_le (a := Isize) (b := (Iat + kx)) rfl rfl (by omega) (by omega) c_2
    refine lv_iconst (v := -1) hx hb dX12_here_27 (by decide) ?_
    exact x_iret hQ hx hb hr hlocks hK hP hD hS dX12_here_28 () ((show (-1 : Int32) = hrF Gtape Iat Isize kx from (if_neg (by omega)).symm)) [0, 1] (by decide +kernel) rfl (Nat.le_of_ble_eq_true rfl) (Nat.le_of_ble_eq_true rfl)
  · have q_3 : (Iat + kx) < Isize := q_nle (a := Isize) (b := (Iat + kx)) rfl rfl (by omega) (by omega) c_2
    refine lv_aload_n hx hb dX12_here_13 rfl (lv_at hl 0 rfl) ?_
    refine va_get (D := D) (ci := 12) (v := .ref Mtape) (C := RX12) (T := TX12) (N := 89) hx hb hg i_X12 hown hK hP 0 rfl rfl 0 (by decide) (hg _ m_1413) (fun _ h9 => h9) rfl dX12_here_14 ?_
    refine lv_aload_n hx hb dX12_here_17 rfl (lv_at hl 0 rfl) ?_
    refine va_get (D := D) (ci := 12) (v := .int (nI Iat)) (C := RX12) (T := TX12) (N := 89) hx hb hg i_X12 hown hK hP 0 rfl rfl 4 (by decide) (hg _ m_1417) (fun _ h9 => h9) rfl dX12_here_18 ?_
    refine lv_iload_n hx hb dX12_here_21 rfl (lv_at hl 1 rfl) ?_
    refine lv_iadd hx hb dX12_here_22 ?_
    refine lv_topi (fun y_4 hy_4 => ?_)
    obtain rfl : y_4 = nI (Iat + kx) := hy_4.trans (nI_add Iat kx)
    refine va_iald hx hb hK hP 1 1 rfl rfl (vp_in_nI (by omega) (by decide)) dX12_here_23 ?_
    refine lv_topi (fun x_5 ex_5 => ?_)
    refine lv_goto (tgt := 28) hx hb dX12_here_24 (by decide) ?_
    exact x_iret hQ hx hb hr hlocks hK hP hD hS dX12_here_28 () ((show (x_5 : Int32) = hrF Gtape Iat Isize kx from by unfold hrF; rw [if_pos (by omega), ex_5, nI_clamp (by omega)])) [0, 1] (by decide +kernel) rfl (Nat.le_of_ble_eq_true rfl) (Nat.le_of_ble_eq_true rfl)
theorem gdX12_isLetter_0 : decode cX12_isLetter 0 = .ok (.iload_n 0, 1) ∧ decode cX12_isLetter 1 = .ok (.bipush 97, 2) ∧ decode cX12_isLetter 3 = .ok (.if_icmp .lt 13, 3) ∧ decode cX12_isLetter 16 = .ok (.iconst 0, 1) ∧ decode cX12_isLetter 17 = .ok (.ireturn, 1) ∧ decode cX12_isLetter 6 = .ok (.iload_n 0, 1) ∧ decode cX12_isLetter 7 = .ok (.bipush 122, 2) ∧ decode cX12_isLetter 9 = .ok (.if_icmp .gt 7, 3) ∧ decode cX12_isLetter 12 = .ok (.iconst 1, 1) ∧ decode cX12_isLetter 13 = .ok (.goto 4, 3) := by decide +kernel
theorem dX12_isLetter_0 : decode cX12_isLetter 0 = .ok (.iload_n 0, 1) := gdX12_isLetter_0.1
theorem dX12_isLetter_1 : decode cX12_isLetter 1 = .ok (.bipush 97, 2) := gdX12_isLetter_0.2.1
theorem dX12_isLetter_3 : decode cX12_isLetter 3 = .ok (.if_icmp .lt 13, 3) := gdX12_isLetter_0.2.2.1
theorem dX12_isLetter_16 : decode cX12_isLetter 16 = .ok (.iconst 0, 1) := gdX12_isLetter_0.2.2.2.1
theorem dX12_isLetter_17 : decode cX12_isLetter 17 = .ok (.ireturn, 1) := gdX12_isLetter_0.2.2.2.2.1
theorem dX12_isLetter_6 : decode cX12_isLetter 6 = .ok (.iload_n 0, 1) := gdX12_isLetter_0.2.2.2.2.2.1
theorem dX12_isLetter_7 : decode cX12_isLetter 7 = .ok (.bipush 122, 2) := gdX12_isLetter_0.2.2.2.2.2.2.1
theorem dX12_isLetter_9 : decode cX12_isLetter 9 = .ok (.if_icmp .gt 7, 3) := gdX12_isLetter_0.2.2.2.2.2.2.2.1
theorem dX12_isLetter_12 : decode cX12_isLetter 12 = .ok (.iconst 1, 1) := gdX12_isLetter_0.2.2.2.2.2.2.2.2.1
theorem dX12_isLetter_13 : decode cX12_isLetter 13 = .ok (.goto 4, 3) := gdX12_isLetter_0.2.2.2.2.2.2.2.2.2
set_option maxHeartbeats 1000000 in
set_option maxRecDepth 100000 in
theorem r_isLetter (l : Launch) (D : va_G) (cy : Nat → ClassId) (ix : Int32)  : XMi l D (tyL cy) E0 yX12_isLetter cX12_isLetter 1 (some .boolean) (rmk 0 0 0) [.int ix] [] (fun (r : Int32) (_ : Unit) => (r = 0 ∨ r = 1) ∧ (r = inF 97 122 ix)) (fun (_ : Unit) => []) := by
  refine XMi.start (by decide) (Nat.le_of_ble_eq_true rfl) ?_
  intro p e s m below meth c args A ls Q hat hQ
  obtain ⟨hx, hb, hr, hml, hown, hg, hlocks, hin, hK, hA, hP, hD, hS, hE, hl⟩ := hat
  have hown : s.vm.findClass RX12 = some m.cls := hown
  have hl : lv_has ls 1 [(0, .int ix)] := hl
  refine lv_iload_n hx hb dX12_isLetter_0 rfl (lv_at hl 0 rfl) ?_
  refine lv_bipush (v := 97) hx hb dX12_isLetter_1 (by decide) ?_
  refine lv_icmp_lt (tgt := 16) hx hb dX12_isLetter_3 (by decide) (fun c_3 => ?_) (fun c_3 => ?_)
  · refine lv_iconst (v := 0) hx hb dX12_isLetter_16 (by decide) ?_
    exact x_zret hQ hx hb hr hlocks hK hP hD hS rfl dX12_isLetter_17 () (⟨(Or.inl rfl), (show (0 : Int32) = inF 97 122 ix from inF_a c_3)⟩) [] (by decide +kernel) rfl (Nat.le_of_ble_eq_true rfl) (Nat.le_of_ble_eq_true rfl)
  · refine lv_iload_n hx hb dX12_isLetter_6 rfl (lv_at hl 0 rfl) ?_
    refine lv_bipush (v := 122) hx hb dX12_isLetter_7 (by decide) ?_
    refine lv_icmp_gt (tgt := 16) hx hb dX12_isLetter_9 (by decide) (fun c_9 => ?_) (fun c_9 => ?_)
    · refine lv_iconst (v := 0) hx hb dX12_isLetter_16 (by decide) ?_
      exact x_zret hQ hx hb hr hlocks hK hP hD hS rfl dX12_isLetter_17 () (⟨(Or.inl rfl), (show (0 : Int32) = inF 97 122 ix from inF_b c_3 c_9)⟩) [] (by decide +kernel) rfl (Nat.le_of_ble_eq_true rfl) (Nat.le_of_ble_eq_true rfl)
    · refine lv_iconst (v := 1) hx hb dX12_isLetter_12 (by decide) ?_
      refine lv_goto (tgt := 17) hx hb dX12_isLetter_13 (by decide) ?_
      exact x_zret hQ hx hb hr hlocks hK hP hD hS rfl dX12_isLetter_17 () (⟨(Or.inr rfl), (show (1 : Int32) = inF 97 122 ix from inF_1 c_3 c_9)⟩) [] (by decide +kernel) rfl (Nat.le_of_ble_eq_true rfl) (Nat.le_of_ble_eq_true rfl)
theorem gdX12_isDigit_0 : decode cX12_isDigit 0 = .ok (.iload_n 0, 1) ∧ decode cX12_isDigit 1 = .ok (.bipush 48, 2) ∧ decode cX12_isDigit 3 = .ok (.if_icmp .lt 13, 3) ∧ decode cX12_isDigit 16 = .ok (.iconst 0, 1) ∧ decode cX12_isDigit 17 = .ok (.ireturn, 1) ∧ decode cX12_isDigit 6 = .ok (.iload_n 0, 1) ∧ decode cX12_isDigit 7 = .ok (.bipush 57, 2) ∧ decode cX12_isDigit 9 = .ok (.if_icmp .gt 7, 3) ∧ decode cX12_isDigit 12 = .ok (.iconst 1, 1) ∧ decode cX12_isDigit 13 = .ok (.goto 4, 3) := by decide +kernel
theorem dX12_isDigit_0 : decode cX12_isDigit 0 = .ok (.iload_n 0, 1) := gdX12_isDigit_0.1
theorem dX12_isDigit_1 : decode cX12_isDigit 1 = .ok (.bipush 48, 2) := gdX12_isDigit_0.2.1
theorem dX12_isDigit_3 : decode cX12_isDigit 3 = .ok (.if_icmp .lt 13, 3) := gdX12_isDigit_0.2.2.1
theorem dX12_isDigit_16 : decode cX12_isDigit 16 = .ok (.iconst 0, 1) := gdX12_isDigit_0.2.2.2.1
theorem dX12_isDigit_17 : decode cX12_isDigit 17 = .ok (.ireturn, 1) := gdX12_isDigit_0.2.2.2.2.1
theorem dX12_isDigit_6 : decode cX12_isDigit 6 = .ok (.iload_n 0, 1) := gdX12_isDigit_0.2.2.2.2.2.1
theorem dX12_isDigit_7 : decode cX12_isDigit 7 = .ok (.bipush 57, 2) := gdX12_isDigit_0.2.2.2.2.2.2.1
theorem dX12_isDigit_9 : decode cX12_isDigit 9 = .ok (.if_icmp .gt 7, 3) := gdX12_isDigit_0.2.2.2.2.2.2.2.1
theorem dX12_isDigit_12 : decode cX12_isDigit 12 = .ok (.iconst 1, 1) := gdX12_isDigit_0.2.2.2.2.2.2.2.2.1
theorem dX12_isDigit_13 : decode cX12_isDigit 13 = .ok (.goto 4, 3) := gdX12_isDigit_0.2.2.2.2.2.2.2.2.2
set_option maxHeartbeats 1000000 in
set_option maxRecDepth 100000 in
theorem r_isDigit (l : Launch) (D : va_G) (cy : Nat → ClassId) (ix : Int32)  : XMi l D (tyL cy) E0 yX12_isDigit cX12_isDigit 1 (some .boolean) (rmk 0 0 0) [.int ix] [] (fun (r : Int32) (_ : Unit) => (r = 0 ∨ r = 1) ∧ (r = inF 48 57 ix)) (fun (_ : Unit) => []) := by
  refine XMi.start (by decide) (Nat.le_of_ble_eq_true rfl) ?_
  intro p e s m below meth c args A ls Q hat hQ
  obtain ⟨hx, hb, hr, hml, hown, hg, hlocks, hin, hK, hA, hP, hD, hS, hE, hl⟩ := hat
  have hown : s.vm.findClass RX12 = some m.cls := hown
  have hl : lv_has ls 1 [(0, .int ix)] := hl
  refine lv_iload_n hx hb dX12_isDigit_0 rfl (lv_at hl 0 rfl) ?_
  refine lv_bipush (v := 48) hx hb dX12_isDigit_1 (by decide) ?_
  refine lv_icmp_lt (tgt := 16) hx hb dX12_isDigit_3 (by decide) (fun c_3 => ?_) (fun c_3 => ?_)
  · refine lv_iconst (v := 0) hx hb dX12_isDigit_16 (by decide) ?_
    exact x_zret hQ hx hb hr hlocks hK hP hD hS rfl dX12_isDigit_17 () (⟨(Or.inl rfl), (show (0 : Int32) = inF 48 57 ix from inF_a c_3)⟩) [] (by decide +kernel) rfl (Nat.le_of_ble_eq_true rfl) (Nat.le_of_ble_eq_true rfl)
  · refine lv_iload_n hx hb dX12_isDigit_6 rfl (lv_at hl 0 rfl) ?_
    refine lv_bipush (v := 57) hx hb dX12_isDigit_7 (by decide) ?_
    refine lv_icmp_gt (tgt := 16) hx hb dX12_isDigit_9 (by decide) (fun c_9 => ?_) (fun c_9 => ?_)
    · refine lv_iconst (v := 0) hx hb dX12_isDigit_16 (by decide) ?_
      exact x_zret hQ hx hb hr hlocks hK hP hD hS rfl dX12_isDigit_17 () (⟨(Or.inl rfl), (show (0 : Int32) = inF 48 57 ix from inF_b c_3 c_9)⟩) [] (by decide +kernel) rfl (Nat.le_of_ble_eq_true rfl) (Nat.le_of_ble_eq_true rfl)
    · refine lv_iconst (v := 1) hx hb dX12_isDigit_12 (by decide) ?_
      refine lv_goto (tgt := 17) hx hb dX12_isDigit_13 (by decide) ?_
      exact x_zret hQ hx hb hr hlocks hK hP hD hS rfl dX12_isDigit_17 () (⟨(Or.inr rfl), (show (1 : Int32) = inF 48 57 ix from inF_1 c_3 c_9)⟩) [] (by decide +kernel) rfl (Nat.le_of_ble_eq_true rfl) (Nat.le_of_ble_eq_true rfl)
theorem gdX12_isSign_0 : decode cX12_isSign 0 = .ok (.iload_n 0, 1) ∧ decode cX12_isSign 1 = .ok (.bipush 59, 2) ∧ decode cX12_isSign 3 = .ok (.if_icmp .eq 63, 3) ∧ decode cX12_isSign 66 = .ok (.iconst 1, 1) ∧ decode cX12_isSign 67 = .ok (.goto 4, 3) ∧ decode cX12_isSign 71 = .ok (.ireturn, 1) ∧ decode cX12_isSign 6 = .ok (.iload_n 0, 1) ∧ decode cX12_isSign 7 = .ok (.bipush 40, 2) ∧ decode cX12_isSign 9 = .ok (.if_icmp .eq 57, 3) ∧ decode cX12_isSign 12 = .ok (.iload_n 0, 1) ∧ decode cX12_isSign 13 = .ok (.bipush 41, 2) ∧ decode cX12_isSign 15 = .ok (.if_icmp .eq 51, 3) := by decide +kernel
theorem dX12_isSign_0 : decode cX12_isSign 0 = .ok (.iload_n 0, 1) := gdX12_isSign_0.1
theorem dX12_isSign_1 : decode cX12_isSign 1 = .ok (.bipush 59, 2) := gdX12_isSign_0.2.1
theorem dX12_isSign_3 : decode cX12_isSign 3 = .ok (.if_icmp .eq 63, 3) := gdX12_isSign_0.2.2.1
theorem dX12_isSign_66 : decode cX12_isSign 66 = .ok (.iconst 1, 1) := gdX12_isSign_0.2.2.2.1
theorem dX12_isSign_67 : decode cX12_isSign 67 = .ok (.goto 4, 3) := gdX12_isSign_0.2.2.2.2.1
theorem dX12_isSign_71 : decode cX12_isSign 71 = .ok (.ireturn, 1) := gdX12_isSign_0.2.2.2.2.2.1
theorem dX12_isSign_6 : decode cX12_isSign 6 = .ok (.iload_n 0, 1) := gdX12_isSign_0.2.2.2.2.2.2.1
theorem dX12_isSign_7 : decode cX12_isSign 7 = .ok (.bipush 40, 2) := gdX12_isSign_0.2.2.2.2.2.2.2.1
theorem dX12_isSign_9 : decode cX12_isSign 9 = .ok (.if_icmp .eq 57, 3) := gdX12_isSign_0.2.2.2.2.2.2.2.2.1
theorem dX12_isSign_12 : decode cX12_isSign 12 = .ok (.iload_n 0, 1) := gdX12_isSign_0.2.2.2.2.2.2.2.2.2.1
theorem dX12_isSign_13 : decode cX12_isSign 13 = .ok (.bipush 41, 2) := gdX12_isSign_0.2.2.2.2.2.2.2.2.2.2.1
theorem dX12_isSign_15 : decode cX12_isSign 15 = .ok (.if_icmp .eq 51, 3) := gdX12_isSign_0.2.2.2.2.2.2.2.2.2.2.2
theorem gdX12_isSign_18 : decode cX12_isSign 18 = .ok (.iload_n 0, 1) ∧ decode cX12_isSign 19 = .ok (.bipush 60, 2) ∧ decode cX12_isSign 21 = .ok (.if_icmp .eq 45, 3) ∧ decode cX12_isSign 24 = .ok (.iload_n 0, 1) ∧ decode cX12_isSign 25 = .ok (.bipush 62, 2) ∧ decode cX12_isSign 27 = .ok (.if_icmp .eq 39, 3) ∧ decode cX12_isSign 30 = .ok (.iload_n 0, 1) ∧ decode cX12_isSign 31 = .ok (.bipush 61, 2) ∧ decode cX12_isSign 33 = .ok (.if_icmp .eq 33, 3) ∧ decode cX12_isSign 36 = .ok (.iload_n 0, 1) ∧ decode cX12_isSign 37 = .ok (.bipush 43, 2) ∧ decode cX12_isSign 39 = .ok (.if_icmp .eq 27, 3) := by decide +kernel
theorem dX12_isSign_18 : decode cX12_isSign 18 = .ok (.iload_n 0, 1) := gdX12_isSign_18.1
theorem dX12_isSign_19 : decode cX12_isSign 19 = .ok (.bipush 60, 2) := gdX12_isSign_18.2.1
theorem dX12_isSign_21 : decode cX12_isSign 21 = .ok (.if_icmp .eq 45, 3) := gdX12_isSign_18.2.2.1
theorem dX12_isSign_24 : decode cX12_isSign 24 = .ok (.iload_n 0, 1) := gdX12_isSign_18.2.2.2.1
theorem dX12_isSign_25 : decode cX12_isSign 25 = .ok (.bipush 62, 2) := gdX12_isSign_18.2.2.2.2.1
theorem dX12_isSign_27 : decode cX12_isSign 27 = .ok (.if_icmp .eq 39, 3) := gdX12_isSign_18.2.2.2.2.2.1
theorem dX12_isSign_30 : decode cX12_isSign 30 = .ok (.iload_n 0, 1) := gdX12_isSign_18.2.2.2.2.2.2.1
theorem dX12_isSign_31 : decode cX12_isSign 31 = .ok (.bipush 61, 2) := gdX12_isSign_18.2.2.2.2.2.2.2.1
theorem dX12_isSign_33 : decode cX12_isSign 33 = .ok (.if_icmp .eq 33, 3) := gdX12_isSign_18.2.2.2.2.2.2.2.2.1
theorem dX12_isSign_36 : decode cX12_isSign 36 = .ok (.iload_n 0, 1) := gdX12_isSign_18.2.2.2.2.2.2.2.2.2.1
theorem dX12_isSign_37 : decode cX12_isSign 37 = .ok (.bipush 43, 2) := gdX12_isSign_18.2.2.2.2.2.2.2.2.2.2.1
theorem dX12_isSign_39 : decode cX12_isSign 39 = .ok (.if_icmp .eq 27, 3) := gdX12_isSign_18.2.2.2.2.2.2.2.2.2.2.2
theorem gdX12_isSign_42 : decode cX12_isSign 42 = .ok (.iload_n 0, 1) ∧ decode cX12_isSign 43 = .ok (.bipush 45, 2) ∧ decode cX12_isSign 45 = .ok (.if_icmp .eq 21, 3) ∧ decode cX12_isSign 48 = .ok (.iload_n 0, 1) ∧ decode cX12_isSign 49 = .ok (.bipush 42, 2) ∧ decode cX12_isSign 51 = .ok (.if_icmp .eq 15, 3) ∧ decode cX12_isSign 54 = .ok (.iload_n 0, 1) ∧ decode cX12_isSign 55 = .ok (.bipush 47, 2) ∧ decode cX12_isSign 57 = .ok (.if_icmp .eq 9, 3) ∧ decode cX12_isSign 60 = .ok (.iload_n 0, 1) ∧ decode cX12_isSign 61 = .ok (.bipush 37, 2) ∧ decode cX12_isSign 63 = .ok (.if_icmp .ne 7, 3) := by decide +kernel
theorem dX12_isSign_42 : decode cX12_isSign 42 = .ok (.iload_n 0, 1) := gdX12_isSign_42.1
theorem dX12_isSign_43 : decode cX12_isSign 43 = .ok (.bipush 45, 2) := gdX12_isSign_42.2.1
theorem dX12_isSign_45 : decode cX12_isSign 45 = .ok (.if_icmp .eq 21, 3) := gdX12_isSign_42.2.2.1
theorem dX12_isSign_48 : decode cX12_isSign 48 = .ok (.iload_n 0, 1) := gdX12_isSign_42.2.2.2.1
theorem dX12_isSign_49 : decode cX12_isSign 49 = .ok (.bipush 42, 2) := gdX12_isSign_42.2.2.2.2.1
theorem dX12_isSign_51 : decode cX12_isSign 51 = .ok (.if_icmp .eq 15, 3) := gdX12_isSign_42.2.2.2.2.2.1
theorem dX12_isSign_54 : decode cX12_isSign 54 = .ok (.iload_n 0, 1) := gdX12_isSign_42.2.2.2.2.2.2.1
theorem dX12_isSign_55 : decode cX12_isSign 55 = .ok (.bipush 47, 2) := gdX12_isSign_42.2.2.2.2.2.2.2.1
theorem dX12_isSign_57 : decode cX12_isSign 57 = .ok (.if_icmp .eq 9, 3) := gdX12_isSign_42.2.2.2.2.2.2.2.2.1
theorem dX12_isSign_60 : decode cX12_isSign 60 = .ok (.iload_n 0, 1) := gdX12_isSign_42.2.2.2.2.2.2.2.2.2.1
theorem dX12_isSign_61 : decode cX12_isSign 61 = .ok (.bipush 37, 2) := gdX12_isSign_42.2.2.2.2.2.2.2.2.2.2.1
theorem dX12_isSign_63 : decode cX12_isSign 63 = .ok (.if_icmp .ne 7, 3) := gdX12_isSign_42.2.2.2.2.2.2.2.2.2.2.2
theorem dX12_isSign_70 : decode cX12_isSign 70 = .ok (.iconst 0, 1) := by decide +kernel
set_option maxHeartbeats 1000000 in
set_option maxRecDepth 100000 in
theorem r_isSign (l : Launch) (D : va_G) (cy : Nat → ClassId) (ix : Int32)  : XMi l D (tyL cy) E0 yX12_isSign cX12_isSign 1 (some .boolean) (rmk 0 0 0) [.int ix] [] (fun (r : Int32) (_ : Unit) => ((r = 1 ∧ (sgP ix)) ∨ (r = 0 ∧ (¬ sgP ix)))) (fun (_ : Unit) => []) := by
  refine XMi.start (by decide) (Nat.le_of_ble_eq_true rfl) ?_
  intro p e s m below meth c args A ls Q hat hQ
  obtain ⟨hx, hb, hr, hml, hown, hg, hlocks, hin, hK, hA, hP, hD, hS, hE, hl⟩ := hat
  have hown : s.vm.findClass RX12 = some m.cls := hown
  have hl : lv_has ls 1 [(0, .int ix)] := hl
  refine lv_iload_n hx hb dX12_isSign_0 rfl (lv_at hl 0 rfl) ?_
  refine lv_bipush (v := 59) hx hb dX12_isSign_1 (by decide) ?_
  refine lv_icmp_eq (tgt := 66) hx hb dX12_isSign_3 (by decide) (fun c_3 => ?_) (fun c_3 => ?_)
  · refine lv_iconst (v := 1) hx hb dX12_isSign_66 (by decide) ?_
    refine lv_goto (tgt := 71) hx hb dX12_isSign_67 (by decide) ?_
    exact x_zret hQ hx hb hr hlocks hK hP hD hS rfl dX12_isSign_71 () ((show ((1 : Int32) = 1 ∧ (sgP ix)) ∨ ((1 : Int32) = 0 ∧ (¬ sgP ix)) from Or.inl ⟨rfl, (Or.inl c_3)⟩)) [] (by decide +kernel) rfl (Nat.le_of_ble_eq_true rfl) (Nat.le_of_ble_eq_true rfl)
  · refine lv_iload_n hx hb dX12_isSign_6 rfl (lv_at hl 0 rfl) ?_
    refine lv_bipush (v := 40) hx hb dX12_isSign_7 (by decide) ?_
    refine lv_icmp_eq (tgt := 66) hx hb dX12_isSign_9 (by decide) (fun c_9 => ?_) (fun c_9 => ?_)
    · refine lv_iconst (v := 1) hx hb dX12_isSign_66 (by decide) ?_
      refine lv_goto (tgt := 71) hx hb dX12_isSign_67 (by decide) ?_
      exact x_zret hQ hx hb hr hlocks hK hP hD hS rfl dX12_isSign_71 () ((show ((1 : Int32) = 1 ∧ (sgP ix)) ∨ ((1 : Int32) = 0 ∧ (¬ sgP ix)) from Or.inl ⟨rfl, (Or.inr (Or.inl c_9))⟩)) [] (by decide +kernel) rfl (Nat.le_of_ble_eq_true rfl) (Nat.le_of_ble_eq_true rfl)
    · refine lv_iload_n hx hb dX12_isSign_12 rfl (lv_at hl 0 rfl) ?_
      refine lv_bipush (v := 41) hx hb dX12_isSign_13 (by decide) ?_
      refine lv_icmp_eq (tgt := 66) hx hb dX12_isSign_15 (by decide) (fun c_15 => ?_) (fun c_15 => ?_)
      · refine lv_iconst (v := 1) hx hb dX12_isSign_66 (by decide) ?_
        refine lv_goto (tgt := 71) hx hb dX12_isSign_67 (by decide) ?_
        exact x_zret hQ hx hb hr hlocks hK hP hD hS rfl dX12_isSign_71 () ((show ((1 : Int32) = 1 ∧ (sgP ix)) ∨ ((1 : Int32) = 0 ∧ (¬ sgP ix)) from Or.inl ⟨rfl, (Or.inr (Or.inr (Or.inl c_15)))⟩)) [] (by decide +kernel) rfl (Nat.le_of_ble_eq_true rfl) (Nat.le_of_ble_eq_true rfl)
      · refine lv_iload_n hx hb dX12_isSign_18 rfl (lv_at hl 0 rfl) ?_
        refine lv_bipush (v := 60) hx hb dX12_isSign_19 (by decide) ?_
        refine lv_icmp_eq (tgt := 66) hx hb dX12_isSign_21 (by decide) (fun c_21 => ?_) (fun c_21 => ?_)
        · refine lv_iconst (v := 1) hx hb dX12_isSign_66 (by decide) ?_
          refine lv_goto (tgt := 71) hx hb dX12_isSign_67 (by decide) ?_
          exact x_zret hQ hx hb hr hlocks hK hP hD hS rfl dX12_isSign_71 () ((show ((1 : Int32) = 1 ∧ (sgP ix)) ∨ ((1 : Int32) = 0 ∧ (¬ sgP ix)) from Or.inl ⟨rfl, (Or.inr (Or.inr (Or.inr (Or.inl c_21))))⟩)) [] (by decide +kernel) rfl (Nat.le_of_ble_eq_true rfl) (Nat.le_of_ble_eq_true rfl)
        · refine lv_iload_n hx hb dX12_isSign_24 rfl (lv_at hl 0 rfl) ?_
          refine lv_bipush (v := 62) hx hb dX12_isSign_25 (by decide) ?_
          refine lv_icmp_eq (tgt := 66) hx hb dX12_isSign_27 (by decide) (fun c_27 => ?_) (fun c_27 => ?_)
          · refine lv_iconst (v := 1) hx hb dX12_isSign_66 (by decide) ?_
            refine lv_goto (tgt := 71) hx hb dX12_isSign_67 (by decide) ?_
            exact x_zret hQ hx hb hr hlocks hK hP hD hS rfl dX12_isSign_71 () ((show ((1 : Int32) = 1 ∧ (sgP ix)) ∨ ((1 : Int32) = 0 ∧ (¬ sgP ix)) from Or.inl ⟨rfl, (Or.inr (Or.inr (Or.inr (Or.inr (Or.inl c_27)))))⟩)) [] (by decide +kernel) rfl (Nat.le_of_ble_eq_true rfl) (Nat.le_of_ble_eq_true rfl)
          · refine lv_iload_n hx hb dX12_isSign_30 rfl (lv_at hl 0 rfl) ?_
            refine lv_bipush (v := 61) hx hb dX12_isSign_31 (by decide) ?_
            refine lv_icmp_eq (tgt := 66) hx hb dX12_isSign_33 (by decide) (fun c_33 => ?_) (fun c_33 => ?_)
            · refine lv_iconst (v := 1) hx hb dX12_isSign_66 (by decide) ?_
              refine lv_goto (tgt := 71) hx hb dX12_isSign_67 (by decide) ?_
              exact x_zret hQ hx hb hr hlocks hK hP hD hS rfl dX12_isSign_71 () ((show ((1 : Int32) = 1 ∧ (sgP ix)) ∨ ((1 : Int32) = 0 ∧ (¬ sgP ix)) from Or.inl ⟨rfl, (Or.inr (Or.inr (Or.inr (Or.inr (Or.inr (Or.inl c_33))))))⟩)) [] (by decide +kernel) rfl (Nat.le_of_ble_eq_true rfl) (Nat.le_of_ble_eq_true rfl)
            · refine lv_iload_n hx hb dX12_isSign_36 rfl (lv_at hl 0 rfl) ?_
              refine lv_bipush (v := 43) hx hb dX12_isSign_37 (by decide) ?_
              refine lv_icmp_eq (tgt := 66) hx hb dX12_isSign_39 (by decide) (fun c_39 => ?_) (fun c_39 => ?_)
              · refine lv_iconst (v := 1) hx hb dX12_isSign_66 (by decide) ?_
                refine lv_goto (tgt := 71) hx hb dX12_isSign_67 (by decide) ?_
                exact x_zret hQ hx hb hr hlocks hK hP hD hS rfl dX12_isSign_71 () ((show ((1 : Int32) = 1 ∧ (sgP ix)) ∨ ((1 : Int32) = 0 ∧ (¬ sgP ix)) from Or.inl ⟨rfl, (Or.inr (Or.inr (Or.inr (Or.inr (Or.inr (Or.inr (Or.inl c_39)))))))⟩)) [] (by decide +kernel) rfl (Nat.le_of_ble_eq_true rfl) (Nat.le_of_ble_eq_true rfl)
              · refine lv_iload_n hx hb dX12_isSign_42 rfl (lv_at hl 0 rfl) ?_
                refine lv_bipush (v := 45) hx hb dX12_isSign_43 (by decide) ?_
                refine lv_icmp_eq (tgt := 66) hx hb dX12_isSign_45 (by decide) (fun c_45 => ?_) (fun c_45 => ?_)
                · refine lv_iconst (v := 1) hx hb dX12_isSign_66 (by decide) ?_
                  refine lv_goto (tgt := 71) hx hb dX12_isSign_67 (by decide) ?_
                  exact x_zret hQ hx hb hr hlocks hK hP hD hS rfl dX12_isSign_71 () ((show ((1 : Int32) = 1 ∧ (sgP ix)) ∨ ((1 : Int32) = 0 ∧ (¬ sgP ix)) from Or.inl ⟨rfl, (Or.inr (Or.inr (Or.inr (Or.inr (Or.inr (Or.inr (Or.inr (Or.inl c_45))))))))⟩)) [] (by decide +kernel) rfl (Nat.le_of_ble_eq_true rfl) (Nat.le_of_ble_eq_true rfl)
                · refine lv_iload_n hx hb dX12_isSign_48 rfl (lv_at hl 0 rfl) ?_
                  refine lv_bipush (v := 42) hx hb dX12_isSign_49 (by decide) ?_
                  refine lv_icmp_eq (tgt := 66) hx hb dX12_isSign_51 (by decide) (fun c_51 => ?_) (fun c_51 => ?_)
                  · refine lv_iconst (v := 1) hx hb dX12_isSign_66 (by decide) ?_
                    refine lv_goto (tgt := 71) hx hb dX12_isSign_67 (by decide) ?_
                    exact x_zret hQ hx hb hr hlocks hK hP hD hS rfl dX12_isSign_71 () ((show ((1 : Int32) = 1 ∧ (sgP ix)) ∨ ((1 : Int32) = 0 ∧ (¬ sgP ix)) from Or.inl ⟨rfl, (Or.inr (Or.inr (Or.inr (Or.inr (Or.inr (Or.inr (Or.inr (Or.inr (Or.inl c_51)))))))))⟩)) [] (by decide +kernel) rfl (Nat.le_of_ble_eq_true rfl) (Nat.le_of_ble_eq_true rfl)
                  · refine lv_iload_n hx hb dX12_isSign_54 rfl (lv_at hl 0 rfl) ?_
                    refine lv_bipush (v := 47) hx hb dX12_isSign_55 (by decide) ?_
                    refine lv_icmp_eq (tgt := 66) hx hb dX12_isSign_57 (by decide) (fun c_57 => ?_) (fun c_57 => ?_)
                    · refine lv_iconst (v := 1) hx hb dX12_isSign_66 (by decide) ?_
                      refine lv_goto (tgt := 71) hx hb dX12_isSign_67 (by decide) ?_
                      exact x_zret hQ hx hb hr hlocks hK hP hD hS rfl dX12_isSign_71 () ((show ((1 : Int32) = 1 ∧ (sgP ix)) ∨ ((1 : Int32) = 0 ∧ (¬ sgP ix)) from Or.inl ⟨rfl, (Or.inr (Or.inr (Or.inr (Or.inr (Or.inr (Or.inr (Or.inr (Or.inr (Or.inr (Or.inl c_57))))))))))⟩)) [] (by decide +kernel) rfl (Nat.le_of_ble_eq_true rfl) (Nat.le_of_ble_eq_true rfl)
                    · refine lv_iload_n hx hb dX12_isSign_60 rfl (lv_at hl 0 rfl) ?_
                      refine lv_bipush (v := 37) hx hb dX12_isSign_61 (by decide) ?_
                      refine lv_icmp_ne (tgt := 70) hx hb dX12_isSign_63 (by decide) (fun c_63 => ?_) (fun c_63 => ?_)
                      · refine lv_iconst (v := 0) hx hb dX12_isSign_70 (by decide) ?_
                        exact x_zret hQ hx hb hr hlocks hK hP hD hS rfl dX12_isSign_71 () ((show ((0 : Int32) = 1 ∧ (sgP ix)) ∨ ((0 : Int32) = 0 ∧ (¬ sgP ix)) from Or.inr (⟨rfl, (fun h9 => by rcases h9 with h9 | h9 | h9 | h9 | h9 | h9 | h9 | h9 | h9 | h9 | h9 <;> first | exact c_3 h9 | exact c_9 h9 | exact c_15 h9 | exact c_21 h9 | exact c_27 h9 | exact c_33 h9 | exact c_39 h9 | exact c_45 h9 | exact c_51 h9 | exact c_57 h9 | exact c_63 h9)⟩))) [] (by decide +kernel) rfl (Nat.le_of_ble_eq_true rfl) (Nat.le_of_ble_eq_true rfl)
                      · refine lv_iconst (v := 1) hx hb dX12_isSign_66 (by decide) ?_
                        refine lv_goto (tgt := 71) hx hb dX12_isSign_67 (by decide) ?_
                        exact x_zret hQ hx hb hr hlocks hK hP hD hS rfl dX12_isSign_71 () ((show ((1 : Int32) = 1 ∧ (sgP ix)) ∨ ((1 : Int32) = 0 ∧ (¬ sgP ix)) from Or.inl ⟨rfl, (Or.inr (Or.inr (Or.inr (Or.inr (Or.inr (Or.inr (Or.inr (Or.inr (Or.inr (Or.inr (c_63)))))))))))⟩)) [] (by decide +kernel) rfl (Nat.le_of_ble_eq_true rfl) (Nat.le_of_ble_eq_true rfl)
theorem in_1 {p q x y : Int32} (e : y = inF p q x) (h : ¬ y = 0) : ¬ x < p ∧ ¬ q < x := by
  by_cases h9 : ¬ x < p ∧ ¬ q < x
  · exact h9
  · exact absurd (by rw [e]; exact inF_iff.mpr h9) h
theorem in_0 {p q x y : Int32} (e : y = inF p q x) (h : y = 0) : ¬ (¬ x < p ∧ ¬ q < x) := inF_iff.mp (e.symm.trans h)
theorem sg_n3 {x : Int32} (h : sgP x) : ¬ x = 3 := by
  intro h9
  rw [h9] at h
  exact absurd h (by decide)
theorem gdX12_token_0 : decode cX12_token 0 = .ok (.aload_n 0, 1) ∧ decode cX12_token 1 = .ok (.iconst 0, 1) ∧ decode cX12_token 2 = .ok (.invokevirtual 170, 3) := by decide +kernel
theorem dX12_token_0 : decode cX12_token 0 = .ok (.aload_n 0, 1) := gdX12_token_0.1
theorem dX12_token_1 : decode cX12_token 1 = .ok (.iconst 0, 1) := gdX12_token_0.2.1
theorem dX12_token_2 : decode cX12_token 2 = .ok (.invokevirtual 170, 3) := gdX12_token_0.2.2
theorem k_X12_170 : xV RX12 RX12 170 yX12_here cX12_here 2 (some .int) 1 := ⟨⟨m_1706, m_1708, m_66, m_146, m_1709⟩, rfl, by decide, by decide, by decide +kernel⟩
theorem gdX12_token_5 : decode cX12_token 5 = .ok (.bipush 32, 2) ∧ decode cX12_token 7 = .ok (.if_icmp .eq 13, 3) ∧ decode cX12_token 20 = .ok (.aload_n 0, 1) ∧ decode cX12_token 21 = .ok (.dup, 1) ∧ decode cX12_token 22 = .ok (.getfield 164, 3) ∧ decode cX12_token 25 = .ok (.iconst 1, 1) ∧ decode cX12_token 26 = .ok (.iadd, 1) ∧ decode cX12_token 27 = .ok (.putfield 164, 3) ∧ decode cX12_token 30 = .ok (.goto (-30), 3) ∧ decode cX12_token 10 = .ok (.aload_n 0, 1) ∧ decode cX12_token 11 = .ok (.iconst 0, 1) ∧ decode cX12_token 12 = .ok (.invokevirtual 170, 3) := by decide +kernel
theorem dX12_token_5 : decode cX12_token 5 = .ok (.bipush 32, 2) := gdX12_token_5.1
theorem dX12_token_7 : decode cX12_token 7 = .ok (.if_icmp .eq 13, 3) := gdX12_token_5.2.1
theorem dX12_token_20 : decode cX12_token 20 = .ok (.aload_n 0, 1) := gdX12_token_5.2.2.1
theorem dX12_token_21 : decode cX12_token 21 = .ok (.dup, 1) := gdX12_token_5.2.2.2.1
theorem dX12_token_22 : decode cX12_token 22 = .ok (.getfield 164, 3) := gdX12_token_5.2.2.2.2.1
theorem dX12_token_25 : decode cX12_token 25 = .ok (.iconst 1, 1) := gdX12_token_5.2.2.2.2.2.1
theorem dX12_token_26 : decode cX12_token 26 = .ok (.iadd, 1) := gdX12_token_5.2.2.2.2.2.2.1
theorem dX12_token_27 : decode cX12_token 27 = .ok (.putfield 164, 3) := gdX12_token_5.2.2.2.2.2.2.2.1
theorem dX12_token_30 : decode cX12_token 30 = .ok (.goto (-30), 3) := gdX12_token_5.2.2.2.2.2.2.2.2.1
theorem dX12_token_10 : decode cX12_token 10 = .ok (.aload_n 0, 1) := gdX12_token_5.2.2.2.2.2.2.2.2.2.1
theorem dX12_token_11 : decode cX12_token 11 = .ok (.iconst 0, 1) := gdX12_token_5.2.2.2.2.2.2.2.2.2.2.1
theorem dX12_token_12 : decode cX12_token 12 = .ok (.invokevirtual 170, 3) := gdX12_token_5.2.2.2.2.2.2.2.2.2.2.2
theorem gdX12_token_15 : decode cX12_token 15 = .ok (.bipush 10, 2) ∧ decode cX12_token 17 = .ok (.if_icmp .ne 16, 3) ∧ decode cX12_token 33 = .ok (.aload_n 0, 1) ∧ decode cX12_token 34 = .ok (.aload_n 0, 1) ∧ decode cX12_token 35 = .ok (.getfield 164, 3) ∧ decode cX12_token 38 = .ok (.putfield 174, 3) ∧ decode cX12_token 41 = .ok (.aload_n 0, 1) ∧ decode cX12_token 42 = .ok (.iconst 0, 1) ∧ decode cX12_token 43 = .ok (.invokevirtual 170, 3) ∧ decode cX12_token 46 = .ok (.istore_n 1, 1) ∧ decode cX12_token 47 = .ok (.iconst 0, 1) ∧ decode cX12_token 48 = .ok (.istore_n 2, 1) := by decide +kernel
theorem dX12_token_15 : decode cX12_token 15 = .ok (.bipush 10, 2) := gdX12_token_15.1
theorem dX12_token_17 : decode cX12_token 17 = .ok (.if_icmp .ne 16, 3) := gdX12_token_15.2.1
theorem dX12_token_33 : decode cX12_token 33 = .ok (.aload_n 0, 1) := gdX12_token_15.2.2.1
theorem dX12_token_34 : decode cX12_token 34 = .ok (.aload_n 0, 1) := gdX12_token_15.2.2.2.1
theorem dX12_token_35 : decode cX12_token 35 = .ok (.getfield 164, 3) := gdX12_token_15.2.2.2.2.1
theorem dX12_token_38 : decode cX12_token 38 = .ok (.putfield 174, 3) := gdX12_token_15.2.2.2.2.2.1
theorem dX12_token_41 : decode cX12_token 41 = .ok (.aload_n 0, 1) := gdX12_token_15.2.2.2.2.2.2.1
theorem dX12_token_42 : decode cX12_token 42 = .ok (.iconst 0, 1) := gdX12_token_15.2.2.2.2.2.2.2.1
theorem dX12_token_43 : decode cX12_token 43 = .ok (.invokevirtual 170, 3) := gdX12_token_15.2.2.2.2.2.2.2.2.1
theorem dX12_token_46 : decode cX12_token 46 = .ok (.istore_n 1, 1) := gdX12_token_15.2.2.2.2.2.2.2.2.2.1
theorem dX12_token_47 : decode cX12_token 47 = .ok (.iconst 0, 1) := gdX12_token_15.2.2.2.2.2.2.2.2.2.2.1
theorem dX12_token_48 : decode cX12_token 48 = .ok (.istore_n 2, 1) := gdX12_token_15.2.2.2.2.2.2.2.2.2.2.2
theorem gdX12_token_49 : decode cX12_token 49 = .ok (.aload_n 0, 1) ∧ decode cX12_token 50 = .ok (.lconst 0, 1) ∧ decode cX12_token 51 = .ok (.putfield 177, 3) ∧ decode cX12_token 54 = .ok (.aload_n 0, 1) ∧ decode cX12_token 55 = .ok (.iconst 0, 1) ∧ decode cX12_token 56 = .ok (.putfield 181, 3) ∧ decode cX12_token 59 = .ok (.iload_n 1, 1) ∧ decode cX12_token 60 = .ok (.ifCond .ge 11, 3) ∧ decode cX12_token 71 = .ok (.iload_n 1, 1) ∧ decode cX12_token 72 = .ok (.invokestatic 187, 3) := by decide +kernel
theorem dX12_token_49 : decode cX12_token 49 = .ok (.aload_n 0, 1) := gdX12_token_49.1
theorem dX12_token_50 : decode cX12_token 50 = .ok (.lconst 0, 1) := gdX12_token_49.2.1
theorem dX12_token_51 : decode cX12_token 51 = .ok (.putfield 177, 3) := gdX12_token_49.2.2.1
theorem dX12_token_54 : decode cX12_token 54 = .ok (.aload_n 0, 1) := gdX12_token_49.2.2.2.1
theorem dX12_token_55 : decode cX12_token 55 = .ok (.iconst 0, 1) := gdX12_token_49.2.2.2.2.1
theorem dX12_token_56 : decode cX12_token 56 = .ok (.putfield 181, 3) := gdX12_token_49.2.2.2.2.2.1
theorem dX12_token_59 : decode cX12_token 59 = .ok (.iload_n 1, 1) := gdX12_token_49.2.2.2.2.2.2.1
theorem dX12_token_60 : decode cX12_token 60 = .ok (.ifCond .ge 11, 3) := gdX12_token_49.2.2.2.2.2.2.2.1
theorem dX12_token_71 : decode cX12_token 71 = .ok (.iload_n 1, 1) := gdX12_token_49.2.2.2.2.2.2.2.2.1
theorem dX12_token_72 : decode cX12_token 72 = .ok (.invokestatic 187, 3) := gdX12_token_49.2.2.2.2.2.2.2.2.2
theorem k_X12_187 : xS RX12 187 yX12_isLetter cX12_isLetter 1 (some .boolean) 1 := ⟨⟨m_1710, m_1711, m_146, m_1712⟩, by decide, by decide, by decide +kernel⟩
theorem gdX12_token_75 : decode cX12_token 75 = .ok (.ifCond .eq 62, 3) ∧ decode cX12_token 137 = .ok (.iload_n 1, 1) ∧ decode cX12_token 138 = .ok (.invokestatic 191, 3) := by decide +kernel
theorem dX12_token_75 : decode cX12_token 75 = .ok (.ifCond .eq 62, 3) := gdX12_token_75.1
theorem dX12_token_137 : decode cX12_token 137 = .ok (.iload_n 1, 1) := gdX12_token_75.2.1
theorem dX12_token_138 : decode cX12_token 138 = .ok (.invokestatic 191, 3) := gdX12_token_75.2.2
theorem k_X12_191 : xS RX12 191 yX12_isDigit cX12_isDigit 1 (some .boolean) 1 := ⟨⟨m_1713, m_1714, m_146, m_1715⟩, by decide, by decide, by decide +kernel⟩
theorem gdX12_token_141 : decode cX12_token 141 = .ok (.ifCond .eq 73, 3) ∧ decode cX12_token 214 = .ok (.iconst 1, 1) ∧ decode cX12_token 215 = .ok (.istore_n 2, 1) ∧ decode cX12_token 216 = .ok (.aload_n 0, 1) ∧ decode cX12_token 217 = .ok (.iload_n 1, 1) ∧ decode cX12_token 218 = .ok (.invokestatic 194, 3) := by decide +kernel
theorem dX12_token_141 : decode cX12_token 141 = .ok (.ifCond .eq 73, 3) := gdX12_token_141.1
theorem dX12_token_214 : decode cX12_token 214 = .ok (.iconst 1, 1) := gdX12_token_141.2.1
theorem dX12_token_215 : decode cX12_token 215 = .ok (.istore_n 2, 1) := gdX12_token_141.2.2.1
theorem dX12_token_216 : decode cX12_token 216 = .ok (.aload_n 0, 1) := gdX12_token_141.2.2.2.1
theorem dX12_token_217 : decode cX12_token 217 = .ok (.iload_n 1, 1) := gdX12_token_141.2.2.2.2.1
theorem dX12_token_218 : decode cX12_token 218 = .ok (.invokestatic 194, 3) := gdX12_token_141.2.2.2.2.2
theorem k_X12_194 : xS RX12 194 yX12_isSign cX12_isSign 1 (some .boolean) 1 := ⟨⟨m_1716, m_1717, m_146, m_1718⟩, by decide, by decide, by decide +kernel⟩
theorem gdX12_token_221 : decode cX12_token 221 = .ok (.ifCond .eq 7, 3) ∧ decode cX12_token 224 = .ok (.iload_n 1, 1) ∧ decode cX12_token 225 = .ok (.goto 4, 3) ∧ decode cX12_token 229 = .ok (.putfield 184, 3) ∧ decode cX12_token 232 = .ok (.aload_n 0, 1) ∧ decode cX12_token 233 = .ok (.getfield 184, 3) ∧ decode cX12_token 236 = .ok (.iconst 3, 1) ∧ decode cX12_token 237 = .ok (.if_icmp .eq 13, 3) ∧ decode cX12_token 240 = .ok (.aload_n 0, 1) ∧ decode cX12_token 241 = .ok (.dup, 1) ∧ decode cX12_token 242 = .ok (.getfield 164, 3) ∧ decode cX12_token 245 = .ok (.iload_n 2, 1) := by decide +kernel
theorem dX12_token_221 : decode cX12_token 221 = .ok (.ifCond .eq 7, 3) := gdX12_token_221.1
theorem dX12_token_224 : decode cX12_token 224 = .ok (.iload_n 1, 1) := gdX12_token_221.2.1
theorem dX12_token_225 : decode cX12_token 225 = .ok (.goto 4, 3) := gdX12_token_221.2.2.1
theorem dX12_token_229 : decode cX12_token 229 = .ok (.putfield 184, 3) := gdX12_token_221.2.2.2.1
theorem dX12_token_232 : decode cX12_token 232 = .ok (.aload_n 0, 1) := gdX12_token_221.2.2.2.2.1
theorem dX12_token_233 : decode cX12_token 233 = .ok (.getfield 184, 3) := gdX12_token_221.2.2.2.2.2.1
theorem dX12_token_236 : decode cX12_token 236 = .ok (.iconst 3, 1) := gdX12_token_221.2.2.2.2.2.2.1
theorem dX12_token_237 : decode cX12_token 237 = .ok (.if_icmp .eq 13, 3) := gdX12_token_221.2.2.2.2.2.2.2.1
theorem dX12_token_240 : decode cX12_token 240 = .ok (.aload_n 0, 1) := gdX12_token_221.2.2.2.2.2.2.2.2.1
theorem dX12_token_241 : decode cX12_token 241 = .ok (.dup, 1) := gdX12_token_221.2.2.2.2.2.2.2.2.2.1
theorem dX12_token_242 : decode cX12_token 242 = .ok (.getfield 164, 3) := gdX12_token_221.2.2.2.2.2.2.2.2.2.2.1
theorem dX12_token_245 : decode cX12_token 245 = .ok (.iload_n 2, 1) := gdX12_token_221.2.2.2.2.2.2.2.2.2.2.2
theorem gdX12_token_246 : decode cX12_token 246 = .ok (.iadd, 1) ∧ decode cX12_token 247 = .ok (.putfield 164, 3) ∧ decode cX12_token 250 = .ok (.return_, 1) ∧ decode cX12_token 228 = .ok (.iconst 3, 1) ∧ decode cX12_token 144 = .ok (.aload_n 0, 1) ∧ decode cX12_token 145 = .ok (.iload_n 2, 1) ∧ decode cX12_token 146 = .ok (.invokevirtual 170, 3) ∧ decode cX12_token 149 = .ok (.invokestatic 191, 3) ∧ decode cX12_token 152 = .ok (.ifCond .eq 34, 3) ∧ decode cX12_token 186 = .ok (.aload_n 0, 1) ∧ decode cX12_token 187 = .ok (.iload_n 2, 1) ∧ decode cX12_token 188 = .ok (.iconst 4, 1) := by decide +kernel
theorem dX12_token_246 : decode cX12_token 246 = .ok (.iadd, 1) := gdX12_token_246.1
theorem dX12_token_247 : decode cX12_token 247 = .ok (.putfield 164, 3) := gdX12_token_246.2.1
theorem dX12_token_250 : decode cX12_token 250 = .ok (.return_, 1) := gdX12_token_246.2.2.1
theorem dX12_token_228 : decode cX12_token 228 = .ok (.iconst 3, 1) := gdX12_token_246.2.2.2.1
theorem dX12_token_144 : decode cX12_token 144 = .ok (.aload_n 0, 1) := gdX12_token_246.2.2.2.2.1
theorem dX12_token_145 : decode cX12_token 145 = .ok (.iload_n 2, 1) := gdX12_token_246.2.2.2.2.2.1
theorem dX12_token_146 : decode cX12_token 146 = .ok (.invokevirtual 170, 3) := gdX12_token_246.2.2.2.2.2.2.1
theorem dX12_token_149 : decode cX12_token 149 = .ok (.invokestatic 191, 3) := gdX12_token_246.2.2.2.2.2.2.2.1
theorem dX12_token_152 : decode cX12_token 152 = .ok (.ifCond .eq 34, 3) := gdX12_token_246.2.2.2.2.2.2.2.2.1
theorem dX12_token_186 : decode cX12_token 186 = .ok (.aload_n 0, 1) := gdX12_token_246.2.2.2.2.2.2.2.2.2.1
theorem dX12_token_187 : decode cX12_token 187 = .ok (.iload_n 2, 1) := gdX12_token_246.2.2.2.2.2.2.2.2.2.2.1
theorem dX12_token_188 : decode cX12_token 188 = .ok (.iconst 4, 1) := gdX12_token_246.2.2.2.2.2.2.2.2.2.2.2
theorem gdX12_token_189 : decode cX12_token 189 = .ok (.if_icmp .gt 14, 3) ∧ decode cX12_token 203 = .ok (.iconst 3, 1) ∧ decode cX12_token 204 = .ok (.goto 4, 3) ∧ decode cX12_token 208 = .ok (.putfield 184, 3) ∧ decode cX12_token 211 = .ok (.goto 21, 3) ∧ decode cX12_token 192 = .ok (.aload_n 0, 1) ∧ decode cX12_token 193 = .ok (.iload_n 2, 1) ∧ decode cX12_token 194 = .ok (.invokevirtual 170, 3) ∧ decode cX12_token 197 = .ok (.invokestatic 187, 3) ∧ decode cX12_token 200 = .ok (.ifCond .eq 7, 3) ∧ decode cX12_token 207 = .ok (.iconst 2, 1) ∧ decode cX12_token 155 = .ok (.iload_n 2, 1) := by decide +kernel
theorem dX12_token_189 : decode cX12_token 189 = .ok (.if_icmp .gt 14, 3) := gdX12_token_189.1
theorem dX12_token_203 : decode cX12_token 203 = .ok (.iconst 3, 1) := gdX12_token_189.2.1
theorem dX12_token_204 : decode cX12_token 204 = .ok (.goto 4, 3) := gdX12_token_189.2.2.1
theorem dX12_token_208 : decode cX12_token 208 = .ok (.putfield 184, 3) := gdX12_token_189.2.2.2.1
theorem dX12_token_211 : decode cX12_token 211 = .ok (.goto 21, 3) := gdX12_token_189.2.2.2.2.1
theorem dX12_token_192 : decode cX12_token 192 = .ok (.aload_n 0, 1) := gdX12_token_189.2.2.2.2.2.1
theorem dX12_token_193 : decode cX12_token 193 = .ok (.iload_n 2, 1) := gdX12_token_189.2.2.2.2.2.2.1
theorem dX12_token_194 : decode cX12_token 194 = .ok (.invokevirtual 170, 3) := gdX12_token_189.2.2.2.2.2.2.2.1
theorem dX12_token_197 : decode cX12_token 197 = .ok (.invokestatic 187, 3) := gdX12_token_189.2.2.2.2.2.2.2.2.1
theorem dX12_token_200 : decode cX12_token 200 = .ok (.ifCond .eq 7, 3) := gdX12_token_189.2.2.2.2.2.2.2.2.2.1
theorem dX12_token_207 : decode cX12_token 207 = .ok (.iconst 2, 1) := gdX12_token_189.2.2.2.2.2.2.2.2.2.2.1
theorem dX12_token_155 : decode cX12_token 155 = .ok (.iload_n 2, 1) := gdX12_token_189.2.2.2.2.2.2.2.2.2.2.2
theorem gdX12_token_156 : decode cX12_token 156 = .ok (.iconst 4, 1) ∧ decode cX12_token 157 = .ok (.if_icmp .ge 23, 3) ∧ decode cX12_token 180 = .ok (.iinc 2 1, 3) ∧ decode cX12_token 183 = .ok (.goto (-39), 3) ∧ decode cX12_token 160 = .ok (.aload_n 0, 1) ∧ decode cX12_token 161 = .ok (.bipush 10, 2) ∧ decode cX12_token 163 = .ok (.aload_n 0, 1) ∧ decode cX12_token 164 = .ok (.getfield 181, 3) ∧ decode cX12_token 167 = .ok (.imul, 1) ∧ decode cX12_token 168 = .ok (.aload_n 0, 1) ∧ decode cX12_token 169 = .ok (.iload_n 2, 1) ∧ decode cX12_token 170 = .ok (.invokevirtual 170, 3) := by decide +kernel
theorem dX12_token_156 : decode cX12_token 156 = .ok (.iconst 4, 1) := gdX12_token_156.1
theorem dX12_token_157 : decode cX12_token 157 = .ok (.if_icmp .ge 23, 3) := gdX12_token_156.2.1
theorem dX12_token_180 : decode cX12_token 180 = .ok (.iinc 2 1, 3) := gdX12_token_156.2.2.1
theorem dX12_token_183 : decode cX12_token 183 = .ok (.goto (-39), 3) := gdX12_token_156.2.2.2.1
theorem dX12_token_160 : decode cX12_token 160 = .ok (.aload_n 0, 1) := gdX12_token_156.2.2.2.2.1
theorem dX12_token_161 : decode cX12_token 161 = .ok (.bipush 10, 2) := gdX12_token_156.2.2.2.2.2.1
theorem dX12_token_163 : decode cX12_token 163 = .ok (.aload_n 0, 1) := gdX12_token_156.2.2.2.2.2.2.1
theorem dX12_token_164 : decode cX12_token 164 = .ok (.getfield 181, 3) := gdX12_token_156.2.2.2.2.2.2.2.1
theorem dX12_token_167 : decode cX12_token 167 = .ok (.imul, 1) := gdX12_token_156.2.2.2.2.2.2.2.2.1
theorem dX12_token_168 : decode cX12_token 168 = .ok (.aload_n 0, 1) := gdX12_token_156.2.2.2.2.2.2.2.2.2.1
theorem dX12_token_169 : decode cX12_token 169 = .ok (.iload_n 2, 1) := gdX12_token_156.2.2.2.2.2.2.2.2.2.2.1
theorem dX12_token_170 : decode cX12_token 170 = .ok (.invokevirtual 170, 3) := gdX12_token_156.2.2.2.2.2.2.2.2.2.2.2
theorem gdX12_token_173 : decode cX12_token 173 = .ok (.iadd, 1) ∧ decode cX12_token 174 = .ok (.bipush 48, 2) ∧ decode cX12_token 176 = .ok (.isub, 1) ∧ decode cX12_token 177 = .ok (.putfield 181, 3) ∧ decode cX12_token 78 = .ok (.aload_n 0, 1) ∧ decode cX12_token 79 = .ok (.iload_n 2, 1) ∧ decode cX12_token 80 = .ok (.invokevirtual 170, 3) ∧ decode cX12_token 83 = .ok (.invokestatic 187, 3) ∧ decode cX12_token 86 = .ok (.ifCond .eq 33, 3) ∧ decode cX12_token 119 = .ok (.aload_n 0, 1) ∧ decode cX12_token 120 = .ok (.iload_n 2, 1) ∧ decode cX12_token 121 = .ok (.bipush 8, 2) := by decide +kernel
theorem dX12_token_173 : decode cX12_token 173 = .ok (.iadd, 1) := gdX12_token_173.1
theorem dX12_token_174 : decode cX12_token 174 = .ok (.bipush 48, 2) := gdX12_token_173.2.1
theorem dX12_token_176 : decode cX12_token 176 = .ok (.isub, 1) := gdX12_token_173.2.2.1
theorem dX12_token_177 : decode cX12_token 177 = .ok (.putfield 181, 3) := gdX12_token_173.2.2.2.1
theorem dX12_token_78 : decode cX12_token 78 = .ok (.aload_n 0, 1) := gdX12_token_173.2.2.2.2.1
theorem dX12_token_79 : decode cX12_token 79 = .ok (.iload_n 2, 1) := gdX12_token_173.2.2.2.2.2.1
theorem dX12_token_80 : decode cX12_token 80 = .ok (.invokevirtual 170, 3) := gdX12_token_173.2.2.2.2.2.2.1
theorem dX12_token_83 : decode cX12_token 83 = .ok (.invokestatic 187, 3) := gdX12_token_173.2.2.2.2.2.2.2.1
theorem dX12_token_86 : decode cX12_token 86 = .ok (.ifCond .eq 33, 3) := gdX12_token_173.2.2.2.2.2.2.2.2.1
theorem dX12_token_119 : decode cX12_token 119 = .ok (.aload_n 0, 1) := gdX12_token_173.2.2.2.2.2.2.2.2.2.1
theorem dX12_token_120 : decode cX12_token 120 = .ok (.iload_n 2, 1) := gdX12_token_173.2.2.2.2.2.2.2.2.2.2.1
theorem dX12_token_121 : decode cX12_token 121 = .ok (.bipush 8, 2) := gdX12_token_173.2.2.2.2.2.2.2.2.2.2.2
theorem gdX12_token_123 : decode cX12_token 123 = .ok (.if_icmp .le 7, 3) ∧ decode cX12_token 130 = .ok (.iconst 1, 1) ∧ decode cX12_token 131 = .ok (.putfield 184, 3) ∧ decode cX12_token 134 = .ok (.goto 98, 3) ∧ decode cX12_token 126 = .ok (.iconst 3, 1) ∧ decode cX12_token 127 = .ok (.goto 4, 3) ∧ decode cX12_token 89 = .ok (.iload_n 2, 1) ∧ decode cX12_token 90 = .ok (.bipush 8, 2) ∧ decode cX12_token 92 = .ok (.if_icmp .ge 21, 3) ∧ decode cX12_token 113 = .ok (.iinc 2 1, 3) ∧ decode cX12_token 116 = .ok (.goto (-38), 3) ∧ decode cX12_token 95 = .ok (.aload_n 0, 1) := by decide +kernel
theorem dX12_token_123 : decode cX12_token 123 = .ok (.if_icmp .le 7, 3) := gdX12_token_123.1
theorem dX12_token_130 : decode cX12_token 130 = .ok (.iconst 1, 1) := gdX12_token_123.2.1
theorem dX12_token_131 : decode cX12_token 131 = .ok (.putfield 184, 3) := gdX12_token_123.2.2.1
theorem dX12_token_134 : decode cX12_token 134 = .ok (.goto 98, 3) := gdX12_token_123.2.2.2.1
theorem dX12_token_126 : decode cX12_token 126 = .ok (.iconst 3, 1) := gdX12_token_123.2.2.2.2.1
theorem dX12_token_127 : decode cX12_token 127 = .ok (.goto 4, 3) := gdX12_token_123.2.2.2.2.2.1
theorem dX12_token_89 : decode cX12_token 89 = .ok (.iload_n 2, 1) := gdX12_token_123.2.2.2.2.2.2.1
theorem dX12_token_90 : decode cX12_token 90 = .ok (.bipush 8, 2) := gdX12_token_123.2.2.2.2.2.2.2.1
theorem dX12_token_92 : decode cX12_token 92 = .ok (.if_icmp .ge 21, 3) := gdX12_token_123.2.2.2.2.2.2.2.2.1
theorem dX12_token_113 : decode cX12_token 113 = .ok (.iinc 2 1, 3) := gdX12_token_123.2.2.2.2.2.2.2.2.2.1
theorem dX12_token_116 : decode cX12_token 116 = .ok (.goto (-38), 3) := gdX12_token_123.2.2.2.2.2.2.2.2.2.2.1
theorem dX12_token_95 : decode cX12_token 95 = .ok (.aload_n 0, 1) := gdX12_token_123.2.2.2.2.2.2.2.2.2.2.2
theorem gdX12_token_96 : decode cX12_token 96 = .ok (.aload_n 0, 1) ∧ decode cX12_token 97 = .ok (.getfield 177, 3) ∧ decode cX12_token 100 = .ok (.bipush 8, 2) ∧ decode cX12_token 102 = .ok (.lshl, 1) ∧ decode cX12_token 103 = .ok (.aload_n 0, 1) ∧ decode cX12_token 104 = .ok (.iload_n 2, 1) ∧ decode cX12_token 105 = .ok (.invokevirtual 170, 3) ∧ decode cX12_token 108 = .ok (.i2l, 1) ∧ decode cX12_token 109 = .ok (.lor, 1) ∧ decode cX12_token 110 = .ok (.putfield 177, 3) ∧ decode cX12_token 63 = .ok (.aload_n 0, 1) ∧ decode cX12_token 64 = .ok (.iconst 0, 1) := by decide +kernel
theorem dX12_token_96 : decode cX12_token 96 = .ok (.aload_n 0, 1) := gdX12_token_96.1
theorem dX12_token_97 : decode cX12_token 97 = .ok (.getfield 177, 3) := gdX12_token_96.2.1
theorem dX12_token_100 : decode cX12_token 100 = .ok (.bipush 8, 2) := gdX12_token_96.2.2.1
theorem dX12_token_102 : decode cX12_token 102 = .ok (.lshl, 1) := gdX12_token_96.2.2.2.1
theorem dX12_token_103 : decode cX12_token 103 = .ok (.aload_n 0, 1) := gdX12_token_96.2.2.2.2.1
theorem dX12_token_104 : decode cX12_token 104 = .ok (.iload_n 2, 1) := gdX12_token_96.2.2.2.2.2.1
theorem dX12_token_105 : decode cX12_token 105 = .ok (.invokevirtual 170, 3) := gdX12_token_96.2.2.2.2.2.2.1
theorem dX12_token_108 : decode cX12_token 108 = .ok (.i2l, 1) := gdX12_token_96.2.2.2.2.2.2.2.1
theorem dX12_token_109 : decode cX12_token 109 = .ok (.lor, 1) := gdX12_token_96.2.2.2.2.2.2.2.2.1
theorem dX12_token_110 : decode cX12_token 110 = .ok (.putfield 177, 3) := gdX12_token_96.2.2.2.2.2.2.2.2.2.1
theorem dX12_token_63 : decode cX12_token 63 = .ok (.aload_n 0, 1) := gdX12_token_96.2.2.2.2.2.2.2.2.2.2.1
theorem dX12_token_64 : decode cX12_token 64 = .ok (.iconst 0, 1) := gdX12_token_96.2.2.2.2.2.2.2.2.2.2.2
theorem dX12_token_65 : decode cX12_token 65 = .ok (.putfield 184, 3) := by decide +kernel
theorem dX12_token_68 : decode cX12_token 68 = .ok (.goto 164, 3) := by decide +kernel
set_option maxHeartbeats 1000000 in
set_option maxRecDepth 100000 in
theorem r_token (l : Launch) (D : va_G) (cy : Nat → ClassId) (m0 : Nat) (Mtape : Nat) (MnName : Nat) (MnStep : Nat) (MnArg : Nat) (MnMany : Nat) (Mstep : Nat) (Marg : Nat) (Mmany : Nat) (Mopen : Nat) (Mvalues : Nat) (MnHasForm : Nat) (MhasForm : Nat) (Masks : Nat) (MnLoud : Nat) (MnCliffAt : Nat) (MnSnow : Nat) (MnManAt : Nat) (MnVoice : Nat) (MnOn : Nat) (Mloud : Nat) (McliffAt : Nat) (MsnowTold : Nat) (MmanAt : Nat) (Mvoice : Nat) (Mon : Nat) (MnYes : Nat) (Myes : Nat) (Mnow : Nat) (Mcry : Nat) (Msnow : Nat) (Mecho : Nat) (Mwere : Nat) (Mlies : Nat) (Mspots : Nat) (Msteps : Nat) (MfromState : Nat) (MbyWord : Nat) (Mqueue : Nat) (MsoundCliff : Nat) (MsoundLong : Nat) (MsoundCame : Nat) (MsoundTold : Nat) (MsoundUntold : Nat) (Mstands : Nat) (Mtally : Nat) (MhasBox : Nat) (Mboxes : Nat) (Gtape : Nat → Int32) (Itaped : Nat) (Ifault : Nat) (IfaultPlace : Int32) (Iat : Nat) (Isize : Nat) (Isort : Int32) (Iplace : Int32) (Inumber : Int32) (Iword : Int64) (Iform : Nat) (Iopens : Nat) (InUnits : Nat) (Iunits : Int32) (IownUnits : Nat) (Ideep : Nat) (InWords : Nat) (InCliffs : Nat) (InMen : Nat) (InStates : Nat) (InOns : Nat) (InWind : Int32) (InDraw : Int32) (Iwords : Nat) (Icliffs : Nat) (Imen : Nat) (Istates : Nat) (Ions : Int32) (IwindTold : Int32) (InHasWind : Int32) (InHasDraw : Int32) (IcryMany : Nat) (IcallPlace : Int32) (IcallVoice : Int32) (Iwind : Int32) (Ichance : Int32) (IechoMany : Nat) (Iacts : Nat) (Iundone : Nat) (Ilain : Nat) (Isounds : Nat) (Itime : Int32) (IstandMany : Int32) (gn : Nat) (gtp : Itaped ≤ 1600) (gat : Iat ≤ Isize) (gsz : Isize ≤ 1600) (gfl : Ifault ≤ 5) (gfo : Iform ≤ 2) (gnw : InWords ≤ 8) (gnc : InCliffs ≤ 4) (gnm : InMen ≤ 4) (gns : InStates ≤ 6) (gw : Iwords ≤ 8) (gc9 : Icliffs ≤ 4) (gm : Imen ≤ 4) (gs : Istates ≤ 6) (gcm : IcryMany ≤ 10) (gem : IechoMany ≤ 20) (gau : Iacts + Iundone ≤ 40) (gla : Ilain ≤ 20) (gso : Isounds ≤ 30) (gop : Iopens ≤ 40) (gde : Ideep ≤ 8) (gou : IownUnits ≤ 31) (gnu : InUnits ≤ 61) (gno : InOns ≤ 30) (gby : byN Gtape) (hgn : Iat = gn) : XMv l D (tyL cy) E0 yX12_token cX12_token 3 none (rmk 1 0 0) [.ref m0] [wO m0 12 [.ref Mtape, .int (nI Itaped), .int (nI Ifault), .int IfaultPlace, .int (nI Iat), .int (nI Isize), .int Isort, .int Iplace, .int Inumber, .long Iword, .ref MnName, .ref MnStep, .ref MnArg, .ref MnMany, .ref Mstep, .ref Marg, .ref Mmany, .ref Mopen, .ref Mvalues, .ref MnHasForm, .ref MhasForm, .int (nI Iform), .int (nI Iopens), .int (nI InUnits), .int Iunits, .int (nI IownUnits), .int (nI Ideep), .ref Masks, .ref MnLoud, .ref MnCliffAt, .ref MnSnow, .ref MnManAt, .ref MnVoice, .ref MnOn, .ref Mloud, .ref McliffAt, .ref MsnowTold, .ref MmanAt, .ref Mvoice, .ref Mon, .ref MnYes, .ref Myes, .int (nI InWords), .int (nI InCliffs), .int (nI InMen), .int (nI InStates), .int (nI InOns), .int InWind, .int InDraw, .int (nI Iwords), .int (nI Icliffs), .int (nI Imen), .int (nI Istates), .int Ions, .int IwindTold, .int InHasWind, .int InHasDraw, .ref Mnow, .ref Mcry, .ref Msnow, .ref Mecho, .int (nI IcryMany), .int IcallPlace, .int IcallVoice, .int Iwind, .int Ichance, .int (nI IechoMany), .ref Mwere, .int (nI Iacts), .int (nI Iundone), .ref Mlies, .int (nI Ilain), .ref Mspots, .ref Msteps, .ref MfromState, .ref MbyWord, .ref Mqueue, .ref MsoundCliff, .ref MsoundLong, .ref MsoundCame, .ref MsoundTold, .ref MsoundUntold, .int (nI Isounds), .int Itime, .ref Mstands, .int IstandMany, .ref Mtally, .ref MhasBox, .ref Mboxes], wI (cy 1) Mtape 1600 (Gtape)] (fun (u : Nat × Int32 × Int32 × Int32 × Int64) => (u.1 ≤ Isize) ∧ (Iat ≤ u.1) ∧ (tkR Gtape Isize gn u.1 u.2.1 u.2.2.1 u.2.2.2.1 u.2.2.2.2)) (fun (u : Nat × Int32 × Int32 × Int32 × Int64) => [wO m0 12 [.ref Mtape, .int (nI Itaped), .int (nI Ifault), .int IfaultPlace, .int (nI u.1), .int (nI Isize), .int u.2.1, .int u.2.2.1, .int u.2.2.2.1, .long u.2.2.2.2, .ref MnName, .ref MnStep, .ref MnArg, .ref MnMany, .ref Mstep, .ref Marg, .ref Mmany, .ref Mopen, .ref Mvalues, .ref MnHasForm, .ref MhasForm, .int (nI Iform), .int (nI Iopens), .int (nI InUnits), .int Iunits, .int (nI IownUnits), .int (nI Ideep), .ref Masks, .ref MnLoud, .ref MnCliffAt, .ref MnSnow, .ref MnManAt, .ref MnVoice, .ref MnOn, .ref Mloud, .ref McliffAt, .ref MsnowTold, .ref MmanAt, .ref Mvoice, .ref Mon, .ref MnYes, .ref Myes, .int (nI InWords), .int (nI InCliffs), .int (nI InMen), .int (nI InStates), .int (nI InOns), .int InWind, .int InDraw, .int (nI Iwords), .int (nI Icliffs), .int (nI Imen), .int (nI Istates), .int Ions, .int IwindTold, .int InHasWind, .int InHasDraw, .ref Mnow, .ref Mcry, .ref Msnow, .ref Mecho, .int (nI IcryMany), .int IcallPlace, .int IcallVoice, .int Iwind, .int Ichance, .int (nI IechoMany), .ref Mwere, .int (nI Iacts), .int (nI Iundone), .ref Mlies, .int (nI Ilain), .ref Mspots, .ref Msteps, .ref MfromState, .ref MbyWord, .ref Mqueue, .ref MsoundCliff, .ref MsoundLong, .ref MsoundCame, .ref MsoundTold, .ref MsoundUntold, .int (nI Isounds), .int Itime, .ref Mstands, .int IstandMany, .ref Mtally, .ref MhasBox, .ref Mboxes], wI (cy 1) Mtape 1600 (Gtape)]) := by
  refine XMv.start (by decide) (Nat.le_of_ble_eq_true rfl) ?_
  intro p e s m below meth c args A ls Q hat hQ
  obtain ⟨hx, hb, hr, hml, hown, hg, hlocks, hin, hK, hA, hP, hD, hS, hE, hl⟩ := hat
  have hown : s.vm.findClass RX12 = some m.cls := hown
  have hl : lv_has ls 3 [(0, .ref m0)] := hl
  have loop1 : ∀ (zn : Nat) (aq1 : Nat), (aq1 ≤ Isize) → (Iat ≤ aq1) → (stt Gtape Isize aq1 = stt Gtape Isize gn) → Isize - aq1 + 1 ≤ zn → ∀ (H : Heap) (locs : List Loc), va_P D vwCl [wO m0 12 [.ref Mtape, .int (nI Itaped), .int (nI Ifault), .int IfaultPlace, .int (nI aq1), .int (nI Isize), .int Isort, .int Iplace, .int Inumber, .long Iword, .ref MnName, .ref MnStep, .ref MnArg, .ref MnMany, .ref Mstep, .ref Marg, .ref Mmany, .ref Mopen, .ref Mvalues, .ref MnHasForm, .ref MhasForm, .int (nI Iform), .int (nI Iopens), .int (nI InUnits), .int Iunits, .int (nI IownUnits), .int (nI Ideep), .ref Masks, .ref MnLoud, .ref MnCliffAt, .ref MnSnow, .ref MnManAt, .ref MnVoice, .ref MnOn, .ref Mloud, .ref McliffAt, .ref MsnowTold, .ref MmanAt, .ref Mvoice, .ref Mon, .ref MnYes, .ref Myes, .int (nI InWords), .int (nI InCliffs), .int (nI InMen), .int (nI InStates), .int (nI InOns), .int InWind, .int InDraw, .int (nI Iwords), .int (nI Icliffs), .int (nI Imen), .int (nI Istates), .int Ions, .int IwindTold, .int InHasWind, .int InHasDraw, .ref Mnow, .ref Mcry, .ref Msnow, .ref Mecho, .int (nI IcryMany), .int IcallPlace, .int IcallVoice, .int Iwind, .int Ichance, .int (nI IechoMany), .ref Mwere, .int (nI Iacts), .int (nI Iundone), .ref Mlies, .int (nI Ilain), .ref Mspots, .ref Msteps, .ref MfromState, .ref MbyWord, .ref Mqueue, .ref MsoundCliff, .ref MsoundLong, .ref MsoundCame, .ref MsoundTold, .ref MsoundUntold, .int (nI Isounds), .int Itime, .ref Mstands, .int IstandMany, .ref Mtally, .ref MhasBox, .ref Mboxes], wI (cy 1) Mtape 1600 (Gtape)] H → va_D A [wO m0 12 [.ref Mtape, .int (nI Itaped), .int (nI Ifault), .int IfaultPlace, .int (nI aq1), .int (nI Isize), .int Isort, .int Iplace, .int Inumber, .long Iword, .ref MnName, .ref MnStep, .ref MnArg, .ref MnMany, .ref Mstep, .ref Marg, .ref Mmany, .ref Mopen, .ref Mvalues, .ref MnHasForm, .ref MhasForm, .int (nI Iform), .int (nI Iopens), .int (nI InUnits), .int Iunits, .int (nI IownUnits), .int (nI Ideep), .ref Masks, .ref MnLoud, .ref MnCliffAt, .ref MnSnow, .ref MnManAt, .ref MnVoice, .ref MnOn, .ref Mloud, .ref McliffAt, .ref MsnowTold, .ref MmanAt, .ref Mvoice, .ref Mon, .ref MnYes, .ref Myes, .int (nI InWords), .int (nI InCliffs), .int (nI InMen), .int (nI InStates), .int (nI InOns), .int InWind, .int InDraw, .int (nI Iwords), .int (nI Icliffs), .int (nI Imen), .int (nI Istates), .int Ions, .int IwindTold, .int InHasWind, .int InHasDraw, .ref Mnow, .ref Mcry, .ref Msnow, .ref Mecho, .int (nI IcryMany), .int IcallPlace, .int IcallVoice, .int Iwind, .int Ichance, .int (nI IechoMany), .ref Mwere, .int (nI Iacts), .int (nI Iundone), .ref Mlies, .int (nI Ilain), .ref Mspots, .ref Msteps, .ref MfromState, .ref MbyWord, .ref Mqueue, .ref MsoundCliff, .ref MsoundLong, .ref MsoundCame, .ref MsoundTold, .ref MsoundUntold, .int (nI Isounds), .int Itime, .ref Mstands, .int IstandMany, .ref Mtally, .ref MhasBox, .ref Mboxes], wI (cy 1) Mtape 1600 (Gtape)] → va_S A s.heap H locs → ∀ ls : Array Slot, lv_has ls 3 [(0, .ref m0)] → W p l e (rmk 1 0 0) s m args below meth c H locs 0 0 Q (F0 m 0 ls []) := by
    try clear hP hD hS
    intro zn
    induction zn with
    | zero => intro aq1 _ _ _ hz; exact absurd hz (by omega)
    | succ zn ih1 =>
      intro aq1 hf0_1 hf1_1 hf2_1 hmu1 H locs hP hD hS ls hl
      refine lv_aload_n hx hb dX12_token_0 rfl (lv_at hl 0 rfl) ?_
      refine lv_iconst (v := 0) hx hb dX12_token_1 (by decide) ?_
      refine x_callVi (q := (RX12, TX12, 89)) (ci := 12) (q0 := 0) (wr := []) (rest := []) ⟨hx, hb, hml, hown, hg, hl.1⟩ k_X12_170 (r_here l D cy m0 Mtape MnName MnStep MnArg MnMany Mstep Marg Mmany Mopen Mvalues MnHasForm MhasForm Masks MnLoud MnCliffAt MnSnow MnManAt MnVoice MnOn Mloud McliffAt MsnowTold MmanAt Mvoice Mon MnYes Myes Mnow Mcry Msnow Mecho Mwere Mlies Mspots Msteps MfromState MbyWord Mqueue MsoundCliff MsoundLong MsoundCame MsoundTold MsoundUntold Mstands Mtally MhasBox Mboxes Gtape Itaped Ifault IfaultPlace aq1 Isize Isort Iplace Inumber Iword Iform Iopens InUnits Iunits IownUnits Ideep InWords InCliffs InMen InStates InOns InWind InDraw Iwords Icliffs Imen Istates Ions IwindTold InHasWind InHasDraw IcryMany IcallPlace IcallVoice Iwind Ichance IechoMany Iacts Iundone Ilain Isounds Itime IstandMany 0 (by omega) (by omega) (by omega) (by omega) (by omega) (by omega) (by omega) (by omega) (by omega) (by omega) (by omega) (by omega) (by omega) (by omega) (by omega) (by omega) (by omega) (by omega) (by omega) (by omega) (by omega) (by omega) (by omega) (gby) (by omega)) E0_blind hK hP hD hS hA [0, 1] [] ⟨rfl, rfl, by decide +kernel, by decide +kernel, by decide +kernel⟩ rfl rfl (fun _ _ _ => trivial) dX12_token_2 rfl rfl (Nat.le_of_ble_eq_true rfl) ⟨Nat.le_of_ble_eq_true rfl, Nat.le_of_ble_eq_true rfl⟩ ⟨Nat.le_of_ble_eq_true rfl, Nat.le_of_ble_eq_true rfl⟩ (fun zr2 zu2 H locs hw2 hP9 hD9 hS9 => ?_)
      clear hP hD hS
      refine reW [wO m0 12 [.ref Mtape, .int (nI Itaped), .int (nI Ifault), .int IfaultPlace, .int (nI aq1), .int (nI Isize), .int Isort, .int Iplace, .int Inumber, .long Iword, .ref MnName, .ref MnStep, .ref MnArg, .ref MnMany, .ref Mstep, .ref Marg, .ref Mmany, .ref Mopen, .ref Mvalues, .ref MnHasForm, .ref MhasForm, .int (nI Iform), .int (nI Iopens), .int (nI InUnits), .int Iunits, .int (nI IownUnits), .int (nI Ideep), .ref Masks, .ref MnLoud, .ref MnCliffAt, .ref MnSnow, .ref MnManAt, .ref MnVoice, .ref MnOn, .ref Mloud, .ref McliffAt, .ref MsnowTold, .ref MmanAt, .ref Mvoice, .ref Mon, .ref MnYes, .ref Myes, .int (nI InWords), .int (nI InCliffs), .int (nI InMen), .int (nI InStates), .int (nI InOns), .int InWind, .int InDraw, .int (nI Iwords), .int (nI Icliffs), .int (nI Imen), .int (nI Istates), .int Ions, .int IwindTold, .int InHasWind, .int InHasDraw, .ref Mnow, .ref Mcry, .ref Msnow, .ref Mecho, .int (nI IcryMany), .int IcallPlace, .int IcallVoice, .int Iwind, .int Ichance, .int (nI IechoMany), .ref Mwere, .int (nI Iacts), .int (nI Iundone), .ref Mlies, .int (nI Ilain), .ref Mspots, .ref Msteps, .ref MfromState, .ref MbyWord, .ref Mqueue, .ref MsoundCliff, .ref MsoundLong, .ref MsoundCame, .ref MsoundTold, .ref MsoundUntold, .int (nI Isounds), .int Itime, .ref Mstands, .int IstandMany, .ref Mtally, .ref MhasBox, .ref Mboxes], wI (cy 1) Mtape 1600 (Gtape)] hP9 hD9 hS9 (fun hP hD hS => ?_)
      clear hP9 hD9 hS9
      refine W.widen (k := 0) (n := 0) (Nat.le_of_ble_eq_true rfl) (Nat.le_of_ble_eq_true rfl) ?_
      replace hw2 : (zr2 = hrF Gtape aq1 Isize 0) := hw2
      have f_3 := hw2
      refine lv_bipush (v := 32) hx hb dX12_token_5 (by decide) ?_
      refine lv_icmp_eq (tgt := 20) hx hb dX12_token_7 (by decide) (fun c_7 => ?_) (fun c_7 => ?_)
      · have hbl9 := hr_bl f_3 (Or.inl c_7)
        refine lv_aload_n hx hb dX12_token_20 rfl (lv_at hl 0 rfl) ?_
        refine lv_dup hx hb dX12_token_21 rfl ?_
        refine va_get (D := D) (ci := 12) (v := .int (nI aq1)) (C := RX12) (T := TX12) (N := 89) hx hb hg i_X12 hown hK hP 0 rfl rfl 4 (by decide) (hg _ m_1417) (fun _ h9 => h9) rfl dX12_token_22 ?_
        refine lv_iconst (v := 1) hx hb dX12_token_25 (by decide) ?_
        refine lv_iadd hx hb dX12_token_26 ?_
        refine lv_topi (fun y_4 hy_4 => ?_)
        obtain rfl : y_4 = nI (aq1 + 1) := hy_4.trans (nI_add aq1 1)
        refine va_put (D := D) (ci := 12) (v := .int (nI (aq1 + 1))) (ty := .int) (C := RX12) (T := TX12) (N := 89) hx hb hg i_X12 tyX12 tyX12_ok nmX12 hown hK hP hD hS 0 rfl rfl 4 (by decide) (hg _ m_1417) (fun _ h9 => h9) rfl (by decide +kernel) rfl rfl (Nat.le_of_ble_eq_true rfl) dX12_token_27 (fun H locs hP9 hD9 hS9 => ?_)
        clear hP hD hS
        refine reW [wO m0 12 [.ref Mtape, .int (nI Itaped), .int (nI Ifault), .int IfaultPlace, .int (nI (aq1 + 1)), .int (nI Isize), .int Isort, .int Iplace, .int Inumber, .long Iword, .ref MnName, .ref MnStep, .ref MnArg, .ref MnMany, .ref Mstep, .ref Marg, .ref Mmany, .ref Mopen, .ref Mvalues, .ref MnHasForm, .ref MhasForm, .int (nI Iform), .int (nI Iopens), .int (nI InUnits), .int Iunits, .int (nI IownUnits), .int (nI Ideep), .ref Masks, .ref MnLoud, .ref MnCliffAt, .ref MnSnow, .ref MnManAt, .ref MnVoice, .ref MnOn, .ref Mloud, .ref McliffAt, .ref MsnowTold, .ref MmanAt, .ref Mvoice, .ref Mon, .ref MnYes, .ref Myes, .int (nI InWords), .int (nI InCliffs), .int (nI InMen), .int (nI InStates), .int (nI InOns), .int InWind, .int InDraw, .int (nI Iwords), .int (nI Icliffs), .int (nI Imen), .int (nI Istates), .int Ions, .int IwindTold, .int InHasWind, .int InHasDraw, .ref Mnow, .ref Mcry, .ref Msnow, .ref Mecho, .int (nI IcryMany), .int IcallPlace, .int IcallVoice, .int Iwind, .int Ichance, .int (nI IechoMany), .ref Mwere, .int (nI Iacts), .int (nI Iundone), .ref Mlies, .int (nI Ilain), .ref Mspots, .ref Msteps, .ref MfromState, .ref MbyWord, .ref Mqueue, .ref MsoundCliff, .ref MsoundLong, .ref MsoundCame, .ref MsoundTold, .ref MsoundUntold, .int (nI Isounds), .int Itime, .ref Mstands, .int IstandMany, .ref Mtally, .ref MhasBox, .ref Mboxes], wI (cy 1) Mtape 1600 (Gtape)] hP9 hD9 hS9 (fun hP hD hS => ?_)
        clear hP9 hD9 hS9
        refine lv_goto (tgt := 0) hx hb dX12_token_30 (by decide) ?_
        exact ih1  ((aq1 + 1)) (by omega) (by omega) ((stt_go hbl9.1 hbl9.2).symm.trans hf2_1) (by omega) _ _ (hP.sub [0, 1] rfl) (hD.sub [0, 1] (by decide +kernel) rfl) hS ls (lv_sub hl [0] rfl)
      · refine lv_aload_n hx hb dX12_token_10 rfl (lv_at hl 0 rfl) ?_
        refine lv_iconst (v := 0) hx hb dX12_token_11 (by decide) ?_
        refine x_callVi (q := (RX12, TX12, 89)) (ci := 12) (q0 := 0) (wr := []) (rest := []) ⟨hx, hb, hml, hown, hg, hl.1⟩ k_X12_170 (r_here l D cy m0 Mtape MnName MnStep MnArg MnMany Mstep Marg Mmany Mopen Mvalues MnHasForm MhasForm Masks MnLoud MnCliffAt MnSnow MnManAt MnVoice MnOn Mloud McliffAt MsnowTold MmanAt Mvoice Mon MnYes Myes Mnow Mcry Msnow Mecho Mwere Mlies Mspots Msteps MfromState MbyWord Mqueue MsoundCliff MsoundLong MsoundCame MsoundTold MsoundUntold Mstands Mtally MhasBox Mboxes Gtape Itaped Ifault IfaultPlace aq1 Isize Isort Iplace Inumber Iword Iform Iopens InUnits Iunits IownUnits Ideep InWords InCliffs InMen InStates InOns InWind InDraw Iwords Icliffs Imen Istates Ions IwindTold InHasWind InHasDraw IcryMany IcallPlace IcallVoice Iwind Ichance IechoMany Iacts Iundone Ilain Isounds Itime IstandMany 0 (by omega) (by omega) (by omega) (by omega) (by omega) (by omega) (by omega) (by omega) (by omega) (by omega) (by omega) (by omega) (by omega) (by omega) (by omega) (by omega) (by omega) (by omega) (by omega) (by omega) (by omega) (by omega) (by omega) (gby) (by omega)) E0_blind hK hP hD hS hA [0, 1] [] ⟨rfl, rfl, by decide +kernel, by decide +kernel, by decide +kernel⟩ rfl rfl (fun _ _ _ => trivial) dX12_token_12 rfl rfl (Nat.le_of_ble_eq_true rfl) ⟨Nat.le_of_ble_eq_true rfl, Nat.le_of_ble_eq_true rfl⟩ ⟨Nat.le_of_ble_eq_true rfl, Nat.le_of_ble_eq_true rfl⟩ (fun zr5 zu5 H locs hw5 hP9 hD9 hS9 => ?_)
        clear hP hD hS
        refine reW [wO m0 12 [.ref Mtape, .int (nI Itaped), .int (nI Ifault), .int IfaultPlace, .int (nI aq1), .int (nI Isize), .int Isort, .int Iplace, .int Inumber, .long Iword, .ref MnName, .ref MnStep, .ref MnArg, .ref MnMany, .ref Mstep, .ref Marg, .ref Mmany, .ref Mopen, .ref Mvalues, .ref MnHasForm, .ref MhasForm, .int (nI Iform), .int (nI Iopens), .int (nI InUnits), .int Iunits, .int (nI IownUnits), .int (nI Ideep), .ref Masks, .ref MnLoud, .ref MnCliffAt, .ref MnSnow, .ref MnManAt, .ref MnVoice, .ref MnOn, .ref Mloud, .ref McliffAt, .ref MsnowTold, .ref MmanAt, .ref Mvoice, .ref Mon, .ref MnYes, .ref Myes, .int (nI InWords), .int (nI InCliffs), .int (nI InMen), .int (nI InStates), .int (nI InOns), .int InWind, .int InDraw, .int (nI Iwords), .int (nI Icliffs), .int (nI Imen), .int (nI Istates), .int Ions, .int IwindTold, .int InHasWind, .int InHasDraw, .ref Mnow, .ref Mcry, .ref Msnow, .ref Mecho, .int (nI IcryMany), .int IcallPlace, .int IcallVoice, .int Iwind, .int Ichance, .int (nI IechoMany), .ref Mwere, .int (nI Iacts), .int (nI Iundone), .ref Mlies, .int (nI Ilain), .ref Mspots, .ref Msteps, .ref MfromState, .ref MbyWord, .ref Mqueue, .ref MsoundCliff, .ref MsoundLong, .ref MsoundCame, .ref MsoundTold, .ref MsoundUntold, .int (nI Isounds), .int Itime, .ref Mstands, .int IstandMany, .ref Mtally, .ref MhasBox, .ref Mboxes], wI (cy 1) Mtape 1600 (Gtape)] hP9 hD9 hS9 (fun hP hD hS => ?_)
        clear hP9 hD9 hS9
        refine W.widen (k := 0) (n := 0) (Nat.le_of_ble_eq_true rfl) (Nat.le_of_ble_eq_true rfl) ?_
        replace hw5 : (zr5 = hrF Gtape aq1 Isize 0) := hw5
        have f_6 := hw5
        refine lv_bipush (v := 10) hx hb dX12_token_15 (by decide) ?_
        refine lv_icmp_ne (tgt := 33) hx hb dX12_token_17 (by decide) (fun c_17 => ?_) (fun c_17 => ?_)
        · have hss : stt Gtape Isize gn = aq1 := hf2_1.symm.trans (stt_no (hr_nb f_3 f_6 c_7 c_17))
          refine lv_aload_n hx hb dX12_token_33 rfl (lv_at hl 0 rfl) ?_
          refine lv_aload_n hx hb dX12_token_34 rfl (lv_at hl 0 rfl) ?_
          refine va_get (D := D) (ci := 12) (v := .int (nI aq1)) (C := RX12) (T := TX12) (N := 89) hx hb hg i_X12 hown hK hP 0 rfl rfl 4 (by decide) (hg _ m_1417) (fun _ h9 => h9) rfl dX12_token_35 ?_
          refine va_put (D := D) (ci := 12) (v := .int (nI aq1)) (ty := .int) (C := RX12) (T := TX12) (N := 89) hx hb hg i_X12 tyX12 tyX12_ok nmX12 hown hK hP hD hS 0 rfl rfl 7 (by decide) (hg _ m_1420) (fun _ h9 => h9) rfl (by decide +kernel) rfl rfl (Nat.le_of_ble_eq_true rfl) dX12_token_38 (fun H locs hP9 hD9 hS9 => ?_)
          clear hP hD hS
          refine reW [wO m0 12 [.ref Mtape, .int (nI Itaped), .int (nI Ifault), .int IfaultPlace, .int (nI aq1), .int (nI Isize), .int Isort, .int (nI aq1), .int Inumber, .long Iword, .ref MnName, .ref MnStep, .ref MnArg, .ref MnMany, .ref Mstep, .ref Marg, .ref Mmany, .ref Mopen, .ref Mvalues, .ref MnHasForm, .ref MhasForm, .int (nI Iform), .int (nI Iopens), .int (nI InUnits), .int Iunits, .int (nI IownUnits), .int (nI Ideep), .ref Masks, .ref MnLoud, .ref MnCliffAt, .ref MnSnow, .ref MnManAt, .ref MnVoice, .ref MnOn, .ref Mloud, .ref McliffAt, .ref MsnowTold, .ref MmanAt, .ref Mvoice, .ref Mon, .ref MnYes, .ref Myes, .int (nI InWords), .int (nI InCliffs), .int (nI InMen), .int (nI InStates), .int (nI InOns), .int InWind, .int InDraw, .int (nI Iwords), .int (nI Icliffs), .int (nI Imen), .int (nI Istates), .int Ions, .int IwindTold, .int InHasWind, .int InHasDraw, .ref Mnow, .ref Mcry, .ref Msnow, .ref Mecho, .int (nI IcryMany), .int IcallPlace, .int IcallVoice, .int Iwind, .int Ichance, .int (nI IechoMany), .ref Mwere, .int (nI Iacts), .int (nI Iundone), .ref Mlies, .int (nI Ilain), .ref Mspots, .ref Msteps, .ref MfromState, .ref MbyWord, .ref Mqueue, .ref MsoundCliff, .ref MsoundLong, .ref MsoundCame, .ref MsoundTold, .ref MsoundUntold, .int (nI Isounds), .int Itime, .ref Mstands, .int IstandMany, .ref Mtally, .ref MhasBox, .ref Mboxes], wI (cy 1) Mtape 1600 (Gtape)] hP9 hD9 hS9 (fun hP hD hS => ?_)
          clear hP9 hD9 hS9
          refine lv_aload_n hx hb dX12_token_41 rfl (lv_at hl 0 rfl) ?_
          refine lv_iconst (v := 0) hx hb dX12_token_42 (by decide) ?_
          refine x_callVi (q := (RX12, TX12, 89)) (ci := 12) (q0 := 0) (wr := []) (rest := []) ⟨hx, hb, hml, hown, hg, hl.1⟩ k_X12_170 (r_here l D cy m0 Mtape MnName MnStep MnArg MnMany Mstep Marg Mmany Mopen Mvalues MnHasForm MhasForm Masks MnLoud MnCliffAt MnSnow MnManAt MnVoice MnOn Mloud McliffAt MsnowTold MmanAt Mvoice Mon MnYes Myes Mnow Mcry Msnow Mecho Mwere Mlies Mspots Msteps MfromState MbyWord Mqueue MsoundCliff MsoundLong MsoundCame MsoundTold MsoundUntold Mstands Mtally MhasBox Mboxes Gtape Itaped Ifault IfaultPlace aq1 Isize Isort (nI aq1) Inumber Iword Iform Iopens InUnits Iunits IownUnits Ideep InWords InCliffs InMen InStates InOns InWind InDraw Iwords Icliffs Imen Istates Ions IwindTold InHasWind InHasDraw IcryMany IcallPlace IcallVoice Iwind Ichance IechoMany Iacts Iundone Ilain Isounds Itime IstandMany 0 (by omega) (by omega) (by omega) (by omega) (by omega) (by omega) (by omega) (by omega) (by omega) (by omega) (by omega) (by omega) (by omega) (by omega) (by omega) (by omega) (by omega) (by omega) (by omega) (by omega) (by omega) (by omega) (by omega) (gby) (by omega)) E0_blind hK hP hD hS hA [0, 1] [] ⟨rfl, rfl, by decide +kernel, by decide +kernel, by decide +kernel⟩ rfl rfl (fun _ _ _ => trivial) dX12_token_43 rfl rfl (Nat.le_of_ble_eq_true rfl) ⟨Nat.le_of_ble_eq_true rfl, Nat.le_of_ble_eq_true rfl⟩ ⟨Nat.le_of_ble_eq_true rfl, Nat.le_of_ble_eq_true rfl⟩ (fun zr7 zu7 H locs hw7 hP9 hD9 hS9 => ?_)
          clear hP hD hS
          refine reW [wO m0 12 [.ref Mtape, .int (nI Itaped), .int (nI Ifault), .int IfaultPlace, .int (nI aq1), .int (nI Isize), .int Isort, .int (nI aq1), .int Inumber, .long Iword, .ref MnName, .ref MnStep, .ref MnArg, .ref MnMany, .ref Mstep, .ref Marg, .ref Mmany, .ref Mopen, .ref Mvalues, .ref MnHasForm, .ref MhasForm, .int (nI Iform), .int (nI Iopens), .int (nI InUnits), .int Iunits, .int (nI IownUnits), .int (nI Ideep), .ref Masks, .ref MnLoud, .ref MnCliffAt, .ref MnSnow, .ref MnManAt, .ref MnVoice, .ref MnOn, .ref Mloud, .ref McliffAt, .ref MsnowTold, .ref MmanAt, .ref Mvoice, .ref Mon, .ref MnYes, .ref Myes, .int (nI InWords), .int (nI InCliffs), .int (nI InMen), .int (nI InStates), .int (nI InOns), .int InWind, .int InDraw, .int (nI Iwords), .int (nI Icliffs), .int (nI Imen), .int (nI Istates), .int Ions, .int IwindTold, .int InHasWind, .int InHasDraw, .ref Mnow, .ref Mcry, .ref Msnow, .ref Mecho, .int (nI IcryMany), .int IcallPlace, .int IcallVoice, .int Iwind, .int Ichance, .int (nI IechoMany), .ref Mwere, .int (nI Iacts), .int (nI Iundone), .ref Mlies, .int (nI Ilain), .ref Mspots, .ref Msteps, .ref MfromState, .ref MbyWord, .ref Mqueue, .ref MsoundCliff, .ref MsoundLong, .ref MsoundCame, .ref MsoundTold, .ref MsoundUntold, .int (nI Isounds), .int Itime, .ref Mstands, .int IstandMany, .ref Mtally, .ref MhasBox, .ref Mboxes], wI (cy 1) Mtape 1600 (Gtape)] hP9 hD9 hS9 (fun hP hD hS => ?_)
          clear hP9 hD9 hS9
          refine W.widen (k := 0) (n := 0) (Nat.le_of_ble_eq_true rfl) (Nat.le_of_ble_eq_true rfl) ?_
          replace hw7 : (zr7 = hrF Gtape aq1 Isize 0) := hw7
          have f_8 := hw7
          refine lv_istore_n (lv' := [(1, .int zr7), (0, .ref m0)]) hx hb dX12_token_46 rfl hl (by decide) rfl (fun ls hl => ?_)
          refine lv_iconst (v := 0) hx hb dX12_token_47 (by decide) ?_
          refine lv_istore_n (lv' := [(2, .int 0), (1, .int zr7), (0, .ref m0)]) hx hb dX12_token_48 rfl hl (by decide) rfl (fun ls hl => ?_)
          refine lv_aload_n hx hb dX12_token_49 rfl (lv_at hl 2 rfl) ?_
          refine lv_lconst (v := 0) hx hb dX12_token_50 (by decide) ?_
          refine va_put (D := D) (ci := 12) (v := .long 0) (ty := .long) (C := RX12) (T := TX12) (N := 89) hx hb hg i_X12 tyX12 tyX12_ok nmX12 hown hK hP hD hS 0 rfl rfl 9 (by decide) (hg _ m_1422) (fun _ h9 => h9) rfl (by decide +kernel) rfl rfl (Nat.le_of_ble_eq_true rfl) dX12_token_51 (fun H locs hP9 hD9 hS9 => ?_)
          clear hP hD hS
          refine reW [wO m0 12 [.ref Mtape, .int (nI Itaped), .int (nI Ifault), .int IfaultPlace, .int (nI aq1), .int (nI Isize), .int Isort, .int (nI aq1), .int Inumber, .long 0, .ref MnName, .ref MnStep, .ref MnArg, .ref MnMany, .ref Mstep, .ref Marg, .ref Mmany, .ref Mopen, .ref Mvalues, .ref MnHasForm, .ref MhasForm, .int (nI Iform), .int (nI Iopens), .int (nI InUnits), .int Iunits, .int (nI IownUnits), .int (nI Ideep), .ref Masks, .ref MnLoud, .ref MnCliffAt, .ref MnSnow, .ref MnManAt, .ref MnVoice, .ref MnOn, .ref Mloud, .ref McliffAt, .ref MsnowTold, .ref MmanAt, .ref Mvoice, .ref Mon, .ref MnYes, .ref Myes, .int (nI InWords), .int (nI InCliffs), .int (nI InMen), .int (nI InStates), .int (nI InOns), .int InWind, .int InDraw, .int (nI Iwords), .int (nI Icliffs), .int (nI Imen), .int (nI Istates), .int Ions, .int IwindTold, .int InHasWind, .int InHasDraw, .ref Mnow, .ref Mcry, .ref Msnow, .ref Mecho, .int (nI IcryMany), .int IcallPlace, .int IcallVoice, .int Iwind, .int Ichance, .int (nI IechoMany), .ref Mwere, .int (nI Iacts), .int (nI Iundone), .ref Mlies, .int (nI Ilain), .ref Mspots, .ref Msteps, .ref MfromState, .ref MbyWord, .ref Mqueue, .ref MsoundCliff, .ref MsoundLong, .ref MsoundCame, .ref MsoundTold, .ref MsoundUntold, .int (nI Isounds), .int Itime, .ref Mstands, .int IstandMany, .ref Mtally, .ref MhasBox, .ref Mboxes], wI (cy 1) Mtape 1600 (Gtape)] hP9 hD9 hS9 (fun hP hD hS => ?_)
          clear hP9 hD9 hS9
          refine lv_aload_n hx hb dX12_token_54 rfl (lv_at hl 2 rfl) ?_
          refine lv_iconst (v := 0) hx hb dX12_token_55 (by decide) ?_
          refine va_put (D := D) (ci := 12) (v := .int 0) (ty := .int) (C := RX12) (T := TX12) (N := 89) hx hb hg i_X12 tyX12 tyX12_ok nmX12 hown hK hP hD hS 0 rfl rfl 8 (by decide) (hg _ m_1421) (fun _ h9 => h9) rfl (by decide +kernel) rfl rfl (Nat.le_of_ble_eq_true rfl) dX12_token_56 (fun H locs hP9 hD9 hS9 => ?_)
          clear hP hD hS
          refine reW [wO m0 12 [.ref Mtape, .int (nI Itaped), .int (nI Ifault), .int IfaultPlace, .int (nI aq1), .int (nI Isize), .int Isort, .int (nI aq1), .int 0, .long 0, .ref MnName, .ref MnStep, .ref MnArg, .ref MnMany, .ref Mstep, .ref Marg, .ref Mmany, .ref Mopen, .ref Mvalues, .ref MnHasForm, .ref MhasForm, .int (nI Iform), .int (nI Iopens), .int (nI InUnits), .int Iunits, .int (nI IownUnits), .int (nI Ideep), .ref Masks, .ref MnLoud, .ref MnCliffAt, .ref MnSnow, .ref MnManAt, .ref MnVoice, .ref MnOn, .ref Mloud, .ref McliffAt, .ref MsnowTold, .ref MmanAt, .ref Mvoice, .ref Mon, .ref MnYes, .ref Myes, .int (nI InWords), .int (nI InCliffs), .int (nI InMen), .int (nI InStates), .int (nI InOns), .int InWind, .int InDraw, .int (nI Iwords), .int (nI Icliffs), .int (nI Imen), .int (nI Istates), .int Ions, .int IwindTold, .int InHasWind, .int InHasDraw, .ref Mnow, .ref Mcry, .ref Msnow, .ref Mecho, .int (nI IcryMany), .int IcallPlace, .int IcallVoice, .int Iwind, .int Ichance, .int (nI IechoMany), .ref Mwere, .int (nI Iacts), .int (nI Iundone), .ref Mlies, .int (nI Ilain), .ref Mspots, .ref Msteps, .ref MfromState, .ref MbyWord, .ref Mqueue, .ref MsoundCliff, .ref MsoundLong, .ref MsoundCame, .ref MsoundTold, .ref MsoundUntold, .int (nI Isounds), .int Itime, .ref Mstands, .int IstandMany, .ref Mtally, .ref MhasBox, .ref Mboxes], wI (cy 1) Mtape 1600 (Gtape)] hP9 hD9 hS9 (fun hP hD hS => ?_)
          clear hP9 hD9 hS9
          refine lv_iload_n hx hb dX12_token_59 rfl (lv_at hl 1 rfl) ?_
          refine lv_if_ge (tgt := 71) hx hb dX12_token_60 (by decide) (fun c_60 => ?_) (fun c_60 => ?_)
          · have hgo9 := hr_ok f_8 (ge_nlt c_60)
            refine lv_iload_n hx hb dX12_token_71 rfl (lv_at hl 1 rfl) ?_
            refine x_callSi (wr := [wO m0 12 [.ref Mtape, .int (nI Itaped), .int (nI Ifault), .int IfaultPlace, .int (nI aq1), .int (nI Isize), .int Isort, .int (nI aq1), .int 0, .long 0, .ref MnName, .ref MnStep, .ref MnArg, .ref MnMany, .ref Mstep, .ref Marg, .ref Mmany, .ref Mopen, .ref Mvalues, .ref MnHasForm, .ref MhasForm, .int (nI Iform), .int (nI Iopens), .int (nI InUnits), .int Iunits, .int (nI IownUnits), .int (nI Ideep), .ref Masks, .ref MnLoud, .ref MnCliffAt, .ref MnSnow, .ref MnManAt, .ref MnVoice, .ref MnOn, .ref Mloud, .ref McliffAt, .ref MsnowTold, .ref MmanAt, .ref Mvoice, .ref Mon, .ref MnYes, .ref Myes, .int (nI InWords), .int (nI InCliffs), .int (nI InMen), .int (nI InStates), .int (nI InOns), .int InWind, .int InDraw, .int (nI Iwords), .int (nI Icliffs), .int (nI Imen), .int (nI Istates), .int Ions, .int IwindTold, .int InHasWind, .int InHasDraw, .ref Mnow, .ref Mcry, .ref Msnow, .ref Mecho, .int (nI IcryMany), .int IcallPlace, .int IcallVoice, .int Iwind, .int Ichance, .int (nI IechoMany), .ref Mwere, .int (nI Iacts), .int (nI Iundone), .ref Mlies, .int (nI Ilain), .ref Mspots, .ref Msteps, .ref MfromState, .ref MbyWord, .ref Mqueue, .ref MsoundCliff, .ref MsoundLong, .ref MsoundCame, .ref MsoundTold, .ref MsoundUntold, .int (nI Isounds), .int Itime, .ref Mstands, .int IstandMany, .ref Mtally, .ref MhasBox, .ref Mboxes], wI (cy 1) Mtape 1600 (Gtape)]) (rest := []) ⟨hx, hb, hml, hown, hg, hl.1⟩ k_X12_187 (r_isLetter l D cy zr7) E0_blind hK hP hD hS hA [] [0, 1] ⟨rfl, rfl, by decide +kernel, by decide +kernel, by decide +kernel⟩ (fun _ _ _ => trivial) dX12_token_72 rfl rfl (Nat.le_of_ble_eq_true rfl) ⟨Nat.le_of_ble_eq_true rfl, Nat.le_of_ble_eq_true rfl⟩ ⟨Nat.le_of_ble_eq_true rfl, Nat.le_of_ble_eq_true rfl⟩ (fun zr9 zu9 H locs hw9 hP9 hD9 hS9 => ?_)
            clear hP hD hS
            refine reW [wO m0 12 [.ref Mtape, .int (nI Itaped), .int (nI Ifault), .int IfaultPlace, .int (nI aq1), .int (nI Isize), .int Isort, .int (nI aq1), .int 0, .long 0, .ref MnName, .ref MnStep, .ref MnArg, .ref MnMany, .ref Mstep, .ref Marg, .ref Mmany, .ref Mopen, .ref Mvalues, .ref MnHasForm, .ref MhasForm, .int (nI Iform), .int (nI Iopens), .int (nI InUnits), .int Iunits, .int (nI IownUnits), .int (nI Ideep), .ref Masks, .ref MnLoud, .ref MnCliffAt, .ref MnSnow, .ref MnManAt, .ref MnVoice, .ref MnOn, .ref Mloud, .ref McliffAt, .ref MsnowTold, .ref MmanAt, .ref Mvoice, .ref Mon, .ref MnYes, .ref Myes, .int (nI InWords), .int (nI InCliffs), .int (nI InMen), .int (nI InStates), .int (nI InOns), .int InWind, .int InDraw, .int (nI Iwords), .int (nI Icliffs), .int (nI Imen), .int (nI Istates), .int Ions, .int IwindTold, .int InHasWind, .int InHasDraw, .ref Mnow, .ref Mcry, .ref Msnow, .ref Mecho, .int (nI IcryMany), .int IcallPlace, .int IcallVoice, .int Iwind, .int Ichance, .int (nI IechoMany), .ref Mwere, .int (nI Iacts), .int (nI Iundone), .ref Mlies, .int (nI Ilain), .ref Mspots, .ref Msteps, .ref MfromState, .ref MbyWord, .ref Mqueue, .ref MsoundCliff, .ref MsoundLong, .ref MsoundCame, .ref MsoundTold, .ref MsoundUntold, .int (nI Isounds), .int Itime, .ref Mstands, .int IstandMany, .ref Mtally, .ref MhasBox, .ref Mboxes], wI (cy 1) Mtape 1600 (Gtape)] hP9 hD9 hS9 (fun hP hD hS => ?_)
            clear hP9 hD9 hS9
            refine W.widen (k := 0) (n := 0) (Nat.le_of_ble_eq_true rfl) (Nat.le_of_ble_eq_true rfl) ?_
            replace hw9 : (zr9 = 0 ∨ zr9 = 1) ∧ (zr9 = inF 97 122 zr7) := hw9
            obtain ⟨f_10, f_11⟩ := hw9
            refine lv_if_eq (tgt := 137) hx hb dX12_token_75 (by decide) (fun c_75 => ?_) (fun c_75 => ?_)
            · have hn75 : ¬ isLt (Gtape aq1) := by rw [← hgo9.2]; exact in_0 f_11 c_75
              refine lv_iload_n hx hb dX12_token_137 rfl (lv_at hl 1 rfl) ?_
              refine x_callSi (wr := [wO m0 12 [.ref Mtape, .int (nI Itaped), .int (nI Ifault), .int IfaultPlace, .int (nI aq1), .int (nI Isize), .int Isort, .int (nI aq1), .int 0, .long 0, .ref MnName, .ref MnStep, .ref MnArg, .ref MnMany, .ref Mstep, .ref Marg, .ref Mmany, .ref Mopen, .ref Mvalues, .ref MnHasForm, .ref MhasForm, .int (nI Iform), .int (nI Iopens), .int (nI InUnits), .int Iunits, .int (nI IownUnits), .int (nI Ideep), .ref Masks, .ref MnLoud, .ref MnCliffAt, .ref MnSnow, .ref MnManAt, .ref MnVoice, .ref MnOn, .ref Mloud, .ref McliffAt, .ref MsnowTold, .ref MmanAt, .ref Mvoice, .ref Mon, .ref MnYes, .ref Myes, .int (nI InWords), .int (nI InCliffs), .int (nI InMen), .int (nI InStates), .int (nI InOns), .int InWind, .int InDraw, .int (nI Iwords), .int (nI Icliffs), .int (nI Imen), .int (nI Istates), .int Ions, .int IwindTold, .int InHasWind, .int InHasDraw, .ref Mnow, .ref Mcry, .ref Msnow, .ref Mecho, .int (nI IcryMany), .int IcallPlace, .int IcallVoice, .int Iwind, .int Ichance, .int (nI IechoMany), .ref Mwere, .int (nI Iacts), .int (nI Iundone), .ref Mlies, .int (nI Ilain), .ref Mspots, .ref Msteps, .ref MfromState, .ref MbyWord, .ref Mqueue, .ref MsoundCliff, .ref MsoundLong, .ref MsoundCame, .ref MsoundTold, .ref MsoundUntold, .int (nI Isounds), .int Itime, .ref Mstands, .int IstandMany, .ref Mtally, .ref MhasBox, .ref Mboxes], wI (cy 1) Mtape 1600 (Gtape)]) (rest := []) ⟨hx, hb, hml, hown, hg, hl.1⟩ k_X12_191 (r_isDigit l D cy zr7) E0_blind hK hP hD hS hA [] [0, 1] ⟨rfl, rfl, by decide +kernel, by decide +kernel, by decide +kernel⟩ (fun _ _ _ => trivial) dX12_token_138 rfl rfl (Nat.le_of_ble_eq_true rfl) ⟨Nat.le_of_ble_eq_true rfl, Nat.le_of_ble_eq_true rfl⟩ ⟨Nat.le_of_ble_eq_true rfl, Nat.le_of_ble_eq_true rfl⟩ (fun zr12 zu12 H locs hw12 hP9 hD9 hS9 => ?_)
              clear hP hD hS
              refine reW [wO m0 12 [.ref Mtape, .int (nI Itaped), .int (nI Ifault), .int IfaultPlace, .int (nI aq1), .int (nI Isize), .int Isort, .int (nI aq1), .int 0, .long 0, .ref MnName, .ref MnStep, .ref MnArg, .ref MnMany, .ref Mstep, .ref Marg, .ref Mmany, .ref Mopen, .ref Mvalues, .ref MnHasForm, .ref MhasForm, .int (nI Iform), .int (nI Iopens), .int (nI InUnits), .int Iunits, .int (nI IownUnits), .int (nI Ideep), .ref Masks, .ref MnLoud, .ref MnCliffAt, .ref MnSnow, .ref MnManAt, .ref MnVoice, .ref MnOn, .ref Mloud, .ref McliffAt, .ref MsnowTold, .ref MmanAt, .ref Mvoice, .ref Mon, .ref MnYes, .ref Myes, .int (nI InWords), .int (nI InCliffs), .int (nI InMen), .int (nI InStates), .int (nI InOns), .int InWind, .int InDraw, .int (nI Iwords), .int (nI Icliffs), .int (nI Imen), .int (nI Istates), .int Ions, .int IwindTold, .int InHasWind, .int InHasDraw, .ref Mnow, .ref Mcry, .ref Msnow, .ref Mecho, .int (nI IcryMany), .int IcallPlace, .int IcallVoice, .int Iwind, .int Ichance, .int (nI IechoMany), .ref Mwere, .int (nI Iacts), .int (nI Iundone), .ref Mlies, .int (nI Ilain), .ref Mspots, .ref Msteps, .ref MfromState, .ref MbyWord, .ref Mqueue, .ref MsoundCliff, .ref MsoundLong, .ref MsoundCame, .ref MsoundTold, .ref MsoundUntold, .int (nI Isounds), .int Itime, .ref Mstands, .int IstandMany, .ref Mtally, .ref MhasBox, .ref Mboxes], wI (cy 1) Mtape 1600 (Gtape)] hP9 hD9 hS9 (fun hP hD hS => ?_)
              clear hP9 hD9 hS9
              refine W.widen (k := 0) (n := 0) (Nat.le_of_ble_eq_true rfl) (Nat.le_of_ble_eq_true rfl) ?_
              replace hw12 : (zr12 = 0 ∨ zr12 = 1) ∧ (zr12 = inF 48 57 zr7) := hw12
              obtain ⟨f_13, f_14⟩ := hw12
              refine lv_if_eq (tgt := 214) hx hb dX12_token_141 (by decide) (fun c_141 => ?_) (fun c_141 => ?_)
              · have hn141 : ¬ isDg (Gtape aq1) := by rw [← hgo9.2]; exact in_0 f_14 c_141
                refine lv_iconst (v := 1) hx hb dX12_token_214 (by decide) ?_
                refine lv_istore_n (lv' := [(2, .int 1), (1, .int zr7), (0, .ref m0)]) hx hb dX12_token_215 rfl hl (by decide) rfl (fun ls hl => ?_)
                refine lv_aload_n hx hb dX12_token_216 rfl (lv_at hl 2 rfl) ?_
                refine lv_iload_n hx hb dX12_token_217 rfl (lv_at hl 1 rfl) ?_
                refine x_callSi (wr := [wO m0 12 [.ref Mtape, .int (nI Itaped), .int (nI Ifault), .int IfaultPlace, .int (nI aq1), .int (nI Isize), .int Isort, .int (nI aq1), .int 0, .long 0, .ref MnName, .ref MnStep, .ref MnArg, .ref MnMany, .ref Mstep, .ref Marg, .ref Mmany, .ref Mopen, .ref Mvalues, .ref MnHasForm, .ref MhasForm, .int (nI Iform), .int (nI Iopens), .int (nI InUnits), .int Iunits, .int (nI IownUnits), .int (nI Ideep), .ref Masks, .ref MnLoud, .ref MnCliffAt, .ref MnSnow, .ref MnManAt, .ref MnVoice, .ref MnOn, .ref Mloud, .ref McliffAt, .ref MsnowTold, .ref MmanAt, .ref Mvoice, .ref Mon, .ref MnYes, .ref Myes, .int (nI InWords), .int (nI InCliffs), .int (nI InMen), .int (nI InStates), .int (nI InOns), .int InWind, .int InDraw, .int (nI Iwords), .int (nI Icliffs), .int (nI Imen), .int (nI Istates), .int Ions, .int IwindTold, .int InHasWind, .int InHasDraw, .ref Mnow, .ref Mcry, .ref Msnow, .ref Mecho, .int (nI IcryMany), .int IcallPlace, .int IcallVoice, .int Iwind, .int Ichance, .int (nI IechoMany), .ref Mwere, .int (nI Iacts), .int (nI Iundone), .ref Mlies, .int (nI Ilain), .ref Mspots, .ref Msteps, .ref MfromState, .ref MbyWord, .ref Mqueue, .ref MsoundCliff, .ref MsoundLong, .ref MsoundCame, .ref MsoundTold, .ref MsoundUntold, .int (nI Isounds), .int Itime, .ref Mstands, .int IstandMany, .ref Mtally, .ref MhasBox, .ref Mboxes], wI (cy 1) Mtape 1600 (Gtape)]) (rest := [.ref m0]) ⟨hx, hb, hml, hown, hg, hl.1⟩ k_X12_194 (r_isSign l D cy zr7) E0_blind hK hP hD hS hA [] [0, 1] ⟨rfl, rfl, by decide +kernel, by decide +kernel, by decide +kernel⟩ (fun _ _ _ => trivial) dX12_token_218 rfl rfl (Nat.le_of_ble_eq_true rfl) ⟨Nat.le_of_ble_eq_true rfl, Nat.le_of_ble_eq_true rfl⟩ ⟨Nat.le_of_ble_eq_true rfl, Nat.le_of_ble_eq_true rfl⟩ (fun zr15 zu15 H locs hw15 hP9 hD9 hS9 => ?_)
                clear hP hD hS
                refine reW [wO m0 12 [.ref Mtape, .int (nI Itaped), .int (nI Ifault), .int IfaultPlace, .int (nI aq1), .int (nI Isize), .int Isort, .int (nI aq1), .int 0, .long 0, .ref MnName, .ref MnStep, .ref MnArg, .ref MnMany, .ref Mstep, .ref Marg, .ref Mmany, .ref Mopen, .ref Mvalues, .ref MnHasForm, .ref MhasForm, .int (nI Iform), .int (nI Iopens), .int (nI InUnits), .int Iunits, .int (nI IownUnits), .int (nI Ideep), .ref Masks, .ref MnLoud, .ref MnCliffAt, .ref MnSnow, .ref MnManAt, .ref MnVoice, .ref MnOn, .ref Mloud, .ref McliffAt, .ref MsnowTold, .ref MmanAt, .ref Mvoice, .ref Mon, .ref MnYes, .ref Myes, .int (nI InWords), .int (nI InCliffs), .int (nI InMen), .int (nI InStates), .int (nI InOns), .int InWind, .int InDraw, .int (nI Iwords), .int (nI Icliffs), .int (nI Imen), .int (nI Istates), .int Ions, .int IwindTold, .int InHasWind, .int InHasDraw, .ref Mnow, .ref Mcry, .ref Msnow, .ref Mecho, .int (nI IcryMany), .int IcallPlace, .int IcallVoice, .int Iwind, .int Ichance, .int (nI IechoMany), .ref Mwere, .int (nI Iacts), .int (nI Iundone), .ref Mlies, .int (nI Ilain), .ref Mspots, .ref Msteps, .ref MfromState, .ref MbyWord, .ref Mqueue, .ref MsoundCliff, .ref MsoundLong, .ref MsoundCame, .ref MsoundTold, .ref MsoundUntold, .int (nI Isounds), .int Itime, .ref Mstands, .int IstandMany, .ref Mtally, .ref MhasBox, .ref Mboxes], wI (cy 1) Mtape 1600 (Gtape)] hP9 hD9 hS9 (fun hP hD hS => ?_)
                clear hP9 hD9 hS9
                refine W.widen (k := 0) (n := 0) (Nat.le_of_ble_eq_true rfl) (Nat.le_of_ble_eq_true rfl) ?_
                replace hw15 : ((zr15 = 1 ∧ (sgP zr7)) ∨ (zr15 = 0 ∧ (¬ sgP zr7))) := hw15
                have f_16 := hw15
                rcases f_16 with ⟨hz_18, a_17⟩ | ⟨hz_20, a_19⟩
                · subst hz_18
                  refine lv_if_eq (tgt := 228) hx hb dX12_token_221 (by decide) (fun h => absurd h (by decide)) (fun _ => ?_)
                  refine lv_iload_n hx hb dX12_token_224 rfl (lv_at hl 1 rfl) ?_
                  refine lv_goto (tgt := 229) hx hb dX12_token_225 (by decide) ?_
                  refine va_put (D := D) (ci := 12) (v := .int zr7) (ty := .int) (C := RX12) (T := TX12) (N := 89) hx hb hg i_X12 tyX12 tyX12_ok nmX12 hown hK hP hD hS 0 rfl rfl 6 (by decide) (hg _ m_1419) (fun _ h9 => h9) rfl (by decide +kernel) rfl rfl (Nat.le_of_ble_eq_true rfl) dX12_token_229 (fun H locs hP9 hD9 hS9 => ?_)
                  clear hP hD hS
                  refine reW [wO m0 12 [.ref Mtape, .int (nI Itaped), .int (nI Ifault), .int IfaultPlace, .int (nI aq1), .int (nI Isize), .int zr7, .int (nI aq1), .int 0, .long 0, .ref MnName, .ref MnStep, .ref MnArg, .ref MnMany, .ref Mstep, .ref Marg, .ref Mmany, .ref Mopen, .ref Mvalues, .ref MnHasForm, .ref MhasForm, .int (nI Iform), .int (nI Iopens), .int (nI InUnits), .int Iunits, .int (nI IownUnits), .int (nI Ideep), .ref Masks, .ref MnLoud, .ref MnCliffAt, .ref MnSnow, .ref MnManAt, .ref MnVoice, .ref MnOn, .ref Mloud, .ref McliffAt, .ref MsnowTold, .ref MmanAt, .ref Mvoice, .ref Mon, .ref MnYes, .ref Myes, .int (nI InWords), .int (nI InCliffs), .int (nI InMen), .int (nI InStates), .int (nI InOns), .int InWind, .int InDraw, .int (nI Iwords), .int (nI Icliffs), .int (nI Imen), .int (nI Istates), .int Ions, .int IwindTold, .int InHasWind, .int InHasDraw, .ref Mnow, .ref Mcry, .ref Msnow, .ref Mecho, .int (nI IcryMany), .int IcallPlace, .int IcallVoice, .int Iwind, .int Ichance, .int (nI IechoMany), .ref Mwere, .int (nI Iacts), .int (nI Iundone), .ref Mlies, .int (nI Ilain), .ref Mspots, .ref Msteps, .ref MfromState, .ref MbyWord, .ref Mqueue, .ref MsoundCliff, .ref MsoundLong, .ref MsoundCame, .ref MsoundTold, .ref MsoundUntold, .int (nI Isounds), .int Itime, .ref Mstands, .int IstandMany, .ref Mtally, .ref MhasBox, .ref Mboxes], wI (cy 1) Mtape 1600 (Gtape)] hP9 hD9 hS9 (fun hP hD hS => ?_)
                  clear hP9 hD9 hS9
                  refine lv_aload_n hx hb dX12_token_232 rfl (lv_at hl 2 rfl) ?_
                  refine va_get (D := D) (ci := 12) (v := .int zr7) (C := RX12) (T := TX12) (N := 89) hx hb hg i_X12 hown hK hP 0 rfl rfl 6 (by decide) (hg _ m_1419) (fun _ h9 => h9) rfl dX12_token_233 ?_
                  refine lv_iconst (v := 3) hx hb dX12_token_236 (by decide) ?_
                  refine lv_icmp_eq (tgt := 250) hx hb dX12_token_237 (by decide) (fun h => absurd h (sg_n3 a_17)) (fun _ => ?_)
                  refine lv_aload_n hx hb dX12_token_240 rfl (lv_at hl 2 rfl) ?_
                  refine lv_dup hx hb dX12_token_241 rfl ?_
                  refine va_get (D := D) (ci := 12) (v := .int (nI aq1)) (C := RX12) (T := TX12) (N := 89) hx hb hg i_X12 hown hK hP 0 rfl rfl 4 (by decide) (hg _ m_1417) (fun _ h9 => h9) rfl dX12_token_242 ?_
                  refine lv_iload_n hx hb dX12_token_245 rfl (lv_at hl 0 rfl) ?_
                  refine lv_iadd hx hb dX12_token_246 ?_
                  refine lv_topi (fun y_21 hy_21 => ?_)
                  obtain rfl : y_21 = nI (aq1 + 1) := hy_21.trans (nI_add aq1 1)
                  refine va_put (D := D) (ci := 12) (v := .int (nI (aq1 + 1))) (ty := .int) (C := RX12) (T := TX12) (N := 89) hx hb hg i_X12 tyX12 tyX12_ok nmX12 hown hK hP hD hS 0 rfl rfl 4 (by decide) (hg _ m_1417) (fun _ h9 => h9) rfl (by decide +kernel) rfl rfl (Nat.le_of_ble_eq_true rfl) dX12_token_247 (fun H locs hP9 hD9 hS9 => ?_)
                  clear hP hD hS
                  refine reW [wO m0 12 [.ref Mtape, .int (nI Itaped), .int (nI Ifault), .int IfaultPlace, .int (nI (aq1 + 1)), .int (nI Isize), .int zr7, .int (nI aq1), .int 0, .long 0, .ref MnName, .ref MnStep, .ref MnArg, .ref MnMany, .ref Mstep, .ref Marg, .ref Mmany, .ref Mopen, .ref Mvalues, .ref MnHasForm, .ref MhasForm, .int (nI Iform), .int (nI Iopens), .int (nI InUnits), .int Iunits, .int (nI IownUnits), .int (nI Ideep), .ref Masks, .ref MnLoud, .ref MnCliffAt, .ref MnSnow, .ref MnManAt, .ref MnVoice, .ref MnOn, .ref Mloud, .ref McliffAt, .ref MsnowTold, .ref MmanAt, .ref Mvoice, .ref Mon, .ref MnYes, .ref Myes, .int (nI InWords), .int (nI InCliffs), .int (nI InMen), .int (nI InStates), .int (nI InOns), .int InWind, .int InDraw, .int (nI Iwords), .int (nI Icliffs), .int (nI Imen), .int (nI Istates), .int Ions, .int IwindTold, .int InHasWind, .int InHasDraw, .ref Mnow, .ref Mcry, .ref Msnow, .ref Mecho, .int (nI IcryMany), .int IcallPlace, .int IcallVoice, .int Iwind, .int Ichance, .int (nI IechoMany), .ref Mwere, .int (nI Iacts), .int (nI Iundone), .ref Mlies, .int (nI Ilain), .ref Mspots, .ref Msteps, .ref MfromState, .ref MbyWord, .ref Mqueue, .ref MsoundCliff, .ref MsoundLong, .ref MsoundCame, .ref MsoundTold, .ref MsoundUntold, .int (nI Isounds), .int Itime, .ref Mstands, .int IstandMany, .ref Mtally, .ref MhasBox, .ref Mboxes], wI (cy 1) Mtape 1600 (Gtape)] hP9 hD9 hS9 (fun hP hD hS => ?_)
                  clear hP9 hD9 hS9
                  exact x_vret hQ hx hb hr hlocks hK hP hD hS dX12_token_250 ((aq1 + 1), zr7, nI aq1, 0, 0) (⟨(show ((aq1 + 1)) ≤ Isize from by omega), (show Iat ≤ ((aq1 + 1)) from by omega), (show tkR Gtape Isize gn ((aq1 + 1)) zr7 (nI aq1) 0 0 from tr_sgn hss hgo9.1 (by omega) gby hgo9.2 hn75 hn141 a_17)⟩) [0, 1] (by decide +kernel) rfl (Nat.le_of_ble_eq_true rfl) (Nat.le_of_ble_eq_true rfl)
                · subst hz_20
                  refine lv_if_eq (tgt := 228) hx hb dX12_token_221 (by decide) (fun _ => ?_) (fun h => absurd (by decide) h)
                  refine lv_iconst (v := 3) hx hb dX12_token_228 (by decide) ?_
                  refine va_put (D := D) (ci := 12) (v := .int 3) (ty := .int) (C := RX12) (T := TX12) (N := 89) hx hb hg i_X12 tyX12 tyX12_ok nmX12 hown hK hP hD hS 0 rfl rfl 6 (by decide) (hg _ m_1419) (fun _ h9 => h9) rfl (by decide +kernel) rfl rfl (Nat.le_of_ble_eq_true rfl) dX12_token_229 (fun H locs hP9 hD9 hS9 => ?_)
                  clear hP hD hS
                  refine reW [wO m0 12 [.ref Mtape, .int (nI Itaped), .int (nI Ifault), .int IfaultPlace, .int (nI aq1), .int (nI Isize), .int 3, .int (nI aq1), .int 0, .long 0, .ref MnName, .ref MnStep, .ref MnArg, .ref MnMany, .ref Mstep, .ref Marg, .ref Mmany, .ref Mopen, .ref Mvalues, .ref MnHasForm, .ref MhasForm, .int (nI Iform), .int (nI Iopens), .int (nI InUnits), .int Iunits, .int (nI IownUnits), .int (nI Ideep), .ref Masks, .ref MnLoud, .ref MnCliffAt, .ref MnSnow, .ref MnManAt, .ref MnVoice, .ref MnOn, .ref Mloud, .ref McliffAt, .ref MsnowTold, .ref MmanAt, .ref Mvoice, .ref Mon, .ref MnYes, .ref Myes, .int (nI InWords), .int (nI InCliffs), .int (nI InMen), .int (nI InStates), .int (nI InOns), .int InWind, .int InDraw, .int (nI Iwords), .int (nI Icliffs), .int (nI Imen), .int (nI Istates), .int Ions, .int IwindTold, .int InHasWind, .int InHasDraw, .ref Mnow, .ref Mcry, .ref Msnow, .ref Mecho, .int (nI IcryMany), .int IcallPlace, .int IcallVoice, .int Iwind, .int Ichance, .int (nI IechoMany), .ref Mwere, .int (nI Iacts), .int (nI Iundone), .ref Mlies, .int (nI Ilain), .ref Mspots, .ref Msteps, .ref MfromState, .ref MbyWord, .ref Mqueue, .ref MsoundCliff, .ref MsoundLong, .ref MsoundCame, .ref MsoundTold, .ref MsoundUntold, .int (nI Isounds), .int Itime, .ref Mstands, .int IstandMany, .ref Mtally, .ref MhasBox, .ref Mboxes], wI (cy 1) Mtape 1600 (Gtape)] hP9 hD9 hS9 (fun hP hD hS => ?_)
                  clear hP9 hD9 hS9
                  refine lv_aload_n hx hb dX12_token_232 rfl (lv_at hl 2 rfl) ?_
                  refine va_get (D := D) (ci := 12) (v := .int 3) (C := RX12) (T := TX12) (N := 89) hx hb hg i_X12 hown hK hP 0 rfl rfl 6 (by decide) (hg _ m_1419) (fun _ h9 => h9) rfl dX12_token_233 ?_
                  refine lv_iconst (v := 3) hx hb dX12_token_236 (by decide) ?_
                  refine lv_icmp_eq (tgt := 250) hx hb dX12_token_237 (by decide) (fun _ => ?_) (fun h => absurd (by decide) h)
                  exact x_vret hQ hx hb hr hlocks hK hP hD hS dX12_token_250 (aq1, 3, nI aq1, 0, 0) (⟨(show aq1 ≤ Isize from by omega), (show Iat ≤ aq1 from by omega), (show tkR Gtape Isize gn aq1 3 (nI aq1) 0 0 from tr_sgb hss hgo9.1 (by omega) gby hgo9.2 hn75 hn141 a_19)⟩) [0, 1] (by decide +kernel) rfl (Nat.le_of_ble_eq_true rfl) (Nat.le_of_ble_eq_true rfl)
              · have hl141 : aq1 < Isize ∧ isDg (Gtape aq1) := ⟨hgo9.1, by rw [← hgo9.2]; exact in_1 f_14 c_141⟩
                have loop22 : ∀ (zn : Nat) (nn22 : Nat) (nq22 : Int32), (aq1 + nn22 ≤ Isize) → (den Gtape Isize (aq1 + nn22) = den Gtape Isize aq1) → (nq22 = dec10 Gtape aq1 (min nn22 4)) → Isize - nn22 + 1 ≤ zn → ∀ (H : Heap) (locs : List Loc), va_P D vwCl [wO m0 12 [.ref Mtape, .int (nI Itaped), .int (nI Ifault), .int IfaultPlace, .int (nI aq1), .int (nI Isize), .int Isort, .int (nI aq1), .int nq22, .long 0, .ref MnName, .ref MnStep, .ref MnArg, .ref MnMany, .ref Mstep, .ref Marg, .ref Mmany, .ref Mopen, .ref Mvalues, .ref MnHasForm, .ref MhasForm, .int (nI Iform), .int (nI Iopens), .int (nI InUnits), .int Iunits, .int (nI IownUnits), .int (nI Ideep), .ref Masks, .ref MnLoud, .ref MnCliffAt, .ref MnSnow, .ref MnManAt, .ref MnVoice, .ref MnOn, .ref Mloud, .ref McliffAt, .ref MsnowTold, .ref MmanAt, .ref Mvoice, .ref Mon, .ref MnYes, .ref Myes, .int (nI InWords), .int (nI InCliffs), .int (nI InMen), .int (nI InStates), .int (nI InOns), .int InWind, .int InDraw, .int (nI Iwords), .int (nI Icliffs), .int (nI Imen), .int (nI Istates), .int Ions, .int IwindTold, .int InHasWind, .int InHasDraw, .ref Mnow, .ref Mcry, .ref Msnow, .ref Mecho, .int (nI IcryMany), .int IcallPlace, .int IcallVoice, .int Iwind, .int Ichance, .int (nI IechoMany), .ref Mwere, .int (nI Iacts), .int (nI Iundone), .ref Mlies, .int (nI Ilain), .ref Mspots, .ref Msteps, .ref MfromState, .ref MbyWord, .ref Mqueue, .ref MsoundCliff, .ref MsoundLong, .ref MsoundCame, .ref MsoundTold, .ref MsoundUntold, .int (nI Isounds), .int Itime, .ref Mstands, .int IstandMany, .ref Mtally, .ref MhasBox, .ref Mboxes], wI (cy 1) Mtape 1600 (Gtape)] H → va_D A [wO m0 12 [.ref Mtape, .int (nI Itaped), .int (nI Ifault), .int IfaultPlace, .int (nI aq1), .int (nI Isize), .int Isort, .int (nI aq1), .int nq22, .long 0, .ref MnName, .ref MnStep, .ref MnArg, .ref MnMany, .ref Mstep, .ref Marg, .ref Mmany, .ref Mopen, .ref Mvalues, .ref MnHasForm, .ref MhasForm, .int (nI Iform), .int (nI Iopens), .int (nI InUnits), .int Iunits, .int (nI IownUnits), .int (nI Ideep), .ref Masks, .ref MnLoud, .ref MnCliffAt, .ref MnSnow, .ref MnManAt, .ref MnVoice, .ref MnOn, .ref Mloud, .ref McliffAt, .ref MsnowTold, .ref MmanAt, .ref Mvoice, .ref Mon, .ref MnYes, .ref Myes, .int (nI InWords), .int (nI InCliffs), .int (nI InMen), .int (nI InStates), .int (nI InOns), .int InWind, .int InDraw, .int (nI Iwords), .int (nI Icliffs), .int (nI Imen), .int (nI Istates), .int Ions, .int IwindTold, .int InHasWind, .int InHasDraw, .ref Mnow, .ref Mcry, .ref Msnow, .ref Mecho, .int (nI IcryMany), .int IcallPlace, .int IcallVoice, .int Iwind, .int Ichance, .int (nI IechoMany), .ref Mwere, .int (nI Iacts), .int (nI Iundone), .ref Mlies, .int (nI Ilain), .ref Mspots, .ref Msteps, .ref MfromState, .ref MbyWord, .ref Mqueue, .ref MsoundCliff, .ref MsoundLong, .ref MsoundCame, .ref MsoundTold, .ref MsoundUntold, .int (nI Isounds), .int Itime, .ref Mstands, .int IstandMany, .ref Mtally, .ref MhasBox, .ref Mboxes], wI (cy 1) Mtape 1600 (Gtape)] → va_S A s.heap H locs → ∀ ls : Array Slot, lv_has ls 3 [(2, .int (nI nn22)), (1, .int zr7), (0, .ref m0)] → W p l e (rmk 1 0 0) s m args below meth c H locs 0 0 Q (F0 m 144 ls []) := by
                  try clear hP hD hS
                  intro zn
                  induction zn with
                  | zero => intro nn22 nq22 _ _ _ hz; exact absurd hz (by omega)
                  | succ zn ih22 =>
                    intro nn22 nq22 hf0_22 hf1_22 hf2_22 hmu22 H locs hP hD hS ls hl
                    refine lv_aload_n hx hb dX12_token_144 rfl (lv_at hl 2 rfl) ?_
                    refine lv_iload_n hx hb dX12_token_145 rfl (lv_at hl 0 rfl) ?_
                    refine x_callVi (q := (RX12, TX12, 89)) (ci := 12) (q0 := 0) (wr := []) (rest := []) ⟨hx, hb, hml, hown, hg, hl.1⟩ k_X12_170 (r_here l D cy m0 Mtape MnName MnStep MnArg MnMany Mstep Marg Mmany Mopen Mvalues MnHasForm MhasForm Masks MnLoud MnCliffAt MnSnow MnManAt MnVoice MnOn Mloud McliffAt MsnowTold MmanAt Mvoice Mon MnYes Myes Mnow Mcry Msnow Mecho Mwere Mlies Mspots Msteps MfromState MbyWord Mqueue MsoundCliff MsoundLong MsoundCame MsoundTold MsoundUntold Mstands Mtally MhasBox Mboxes Gtape Itaped Ifault IfaultPlace aq1 Isize Isort (nI aq1) nq22 0 Iform Iopens InUnits Iunits IownUnits Ideep InWords InCliffs InMen InStates InOns InWind InDraw Iwords Icliffs Imen Istates Ions IwindTold InHasWind InHasDraw IcryMany IcallPlace IcallVoice Iwind Ichance IechoMany Iacts Iundone Ilain Isounds Itime IstandMany nn22 (by omega) (by omega) (by omega) (by omega) (by omega) (by omega) (by omega) (by omega) (by omega) (by omega) (by omega) (by omega) (by omega) (by omega) (by omega) (by omega) (by omega) (by omega) (by omega) (by omega) (by omega) (by omega) (by omega) (gby) (by omega)) E0_blind hK hP hD hS hA [0, 1] [] ⟨rfl, rfl, by decide +kernel, by decide +kernel, by decide +kernel⟩ rfl rfl (fun _ _ _ => trivial) dX12_token_146 rfl rfl (Nat.le_of_ble_eq_true rfl) ⟨Nat.le_of_ble_eq_true rfl, Nat.le_of_ble_eq_true rfl⟩ ⟨Nat.le_of_ble_eq_true rfl, Nat.le_of_ble_eq_true rfl⟩ (fun zr23 zu23 H locs hw23 hP9 hD9 hS9 => ?_)
                    clear hP hD hS
                    refine reW [wO m0 12 [.ref Mtape, .int (nI Itaped), .int (nI Ifault), .int IfaultPlace, .int (nI aq1), .int (nI Isize), .int Isort, .int (nI aq1), .int nq22, .long 0, .ref MnName, .ref MnStep, .ref MnArg, .ref MnMany, .ref Mstep, .ref Marg, .ref Mmany, .ref Mopen, .ref Mvalues, .ref MnHasForm, .ref MhasForm, .int (nI Iform), .int (nI Iopens), .int (nI InUnits), .int Iunits, .int (nI IownUnits), .int (nI Ideep), .ref Masks, .ref MnLoud, .ref MnCliffAt, .ref MnSnow, .ref MnManAt, .ref MnVoice, .ref MnOn, .ref Mloud, .ref McliffAt, .ref MsnowTold, .ref MmanAt, .ref Mvoice, .ref Mon, .ref MnYes, .ref Myes, .int (nI InWords), .int (nI InCliffs), .int (nI InMen), .int (nI InStates), .int (nI InOns), .int InWind, .int InDraw, .int (nI Iwords), .int (nI Icliffs), .int (nI Imen), .int (nI Istates), .int Ions, .int IwindTold, .int InHasWind, .int InHasDraw, .ref Mnow, .ref Mcry, .ref Msnow, .ref Mecho, .int (nI IcryMany), .int IcallPlace, .int IcallVoice, .int Iwind, .int Ichance, .int (nI IechoMany), .ref Mwere, .int (nI Iacts), .int (nI Iundone), .ref Mlies, .int (nI Ilain), .ref Mspots, .ref Msteps, .ref MfromState, .ref MbyWord, .ref Mqueue, .ref MsoundCliff, .ref MsoundLong, .ref MsoundCame, .ref MsoundTold, .ref MsoundUntold, .int (nI Isounds), .int Itime, .ref Mstands, .int IstandMany, .ref Mtally, .ref MhasBox, .ref Mboxes], wI (cy 1) Mtape 1600 (Gtape)] hP9 hD9 hS9 (fun hP hD hS => ?_)
                    clear hP9 hD9 hS9
                    refine W.widen (k := 0) (n := 0) (Nat.le_of_ble_eq_true rfl) (Nat.le_of_ble_eq_true rfl) ?_
                    replace hw23 : (zr23 = hrF Gtape aq1 Isize nn22) := hw23
                    have f_24 := hw23
                    refine x_callSi (wr := [wO m0 12 [.ref Mtape, .int (nI Itaped), .int (nI Ifault), .int IfaultPlace, .int (nI aq1), .int (nI Isize), .int Isort, .int (nI aq1), .int nq22, .long 0, .ref MnName, .ref MnStep, .ref MnArg, .ref MnMany, .ref Mstep, .ref Marg, .ref Mmany, .ref Mopen, .ref Mvalues, .ref MnHasForm, .ref MhasForm, .int (nI Iform), .int (nI Iopens), .int (nI InUnits), .int Iunits, .int (nI IownUnits), .int (nI Ideep), .ref Masks, .ref MnLoud, .ref MnCliffAt, .ref MnSnow, .ref MnManAt, .ref MnVoice, .ref MnOn, .ref Mloud, .ref McliffAt, .ref MsnowTold, .ref MmanAt, .ref Mvoice, .ref Mon, .ref MnYes, .ref Myes, .int (nI InWords), .int (nI InCliffs), .int (nI InMen), .int (nI InStates), .int (nI InOns), .int InWind, .int InDraw, .int (nI Iwords), .int (nI Icliffs), .int (nI Imen), .int (nI Istates), .int Ions, .int IwindTold, .int InHasWind, .int InHasDraw, .ref Mnow, .ref Mcry, .ref Msnow, .ref Mecho, .int (nI IcryMany), .int IcallPlace, .int IcallVoice, .int Iwind, .int Ichance, .int (nI IechoMany), .ref Mwere, .int (nI Iacts), .int (nI Iundone), .ref Mlies, .int (nI Ilain), .ref Mspots, .ref Msteps, .ref MfromState, .ref MbyWord, .ref Mqueue, .ref MsoundCliff, .ref MsoundLong, .ref MsoundCame, .ref MsoundTold, .ref MsoundUntold, .int (nI Isounds), .int Itime, .ref Mstands, .int IstandMany, .ref Mtally, .ref MhasBox, .ref Mboxes], wI (cy 1) Mtape 1600 (Gtape)]) (rest := []) ⟨hx, hb, hml, hown, hg, hl.1⟩ k_X12_191 (r_isDigit l D cy zr23) E0_blind hK hP hD hS hA [] [0, 1] ⟨rfl, rfl, by decide +kernel, by decide +kernel, by decide +kernel⟩ (fun _ _ _ => trivial) dX12_token_149 rfl rfl (Nat.le_of_ble_eq_true rfl) ⟨Nat.le_of_ble_eq_true rfl, Nat.le_of_ble_eq_true rfl⟩ ⟨Nat.le_of_ble_eq_true rfl, Nat.le_of_ble_eq_true rfl⟩ (fun zr25 zu25 H locs hw25 hP9 hD9 hS9 => ?_)
                    clear hP hD hS
                    refine reW [wO m0 12 [.ref Mtape, .int (nI Itaped), .int (nI Ifault), .int IfaultPlace, .int (nI aq1), .int (nI Isize), .int Isort, .int (nI aq1), .int nq22, .long 0, .ref MnName, .ref MnStep, .ref MnArg, .ref MnMany, .ref Mstep, .ref Marg, .ref Mmany, .ref Mopen, .ref Mvalues, .ref MnHasForm, .ref MhasForm, .int (nI Iform), .int (nI Iopens), .int (nI InUnits), .int Iunits, .int (nI IownUnits), .int (nI Ideep), .ref Masks, .ref MnLoud, .ref MnCliffAt, .ref MnSnow, .ref MnManAt, .ref MnVoice, .ref MnOn, .ref Mloud, .ref McliffAt, .ref MsnowTold, .ref MmanAt, .ref Mvoice, .ref Mon, .ref MnYes, .ref Myes, .int (nI InWords), .int (nI InCliffs), .int (nI InMen), .int (nI InStates), .int (nI InOns), .int InWind, .int InDraw, .int (nI Iwords), .int (nI Icliffs), .int (nI Imen), .int (nI Istates), .int Ions, .int IwindTold, .int InHasWind, .int InHasDraw, .ref Mnow, .ref Mcry, .ref Msnow, .ref Mecho, .int (nI IcryMany), .int IcallPlace, .int IcallVoice, .int Iwind, .int Ichance, .int (nI IechoMany), .ref Mwere, .int (nI Iacts), .int (nI Iundone), .ref Mlies, .int (nI Ilain), .ref Mspots, .ref Msteps, .ref MfromState, .ref MbyWord, .ref Mqueue, .ref MsoundCliff, .ref MsoundLong, .ref MsoundCame, .ref MsoundTold, .ref MsoundUntold, .int (nI Isounds), .int Itime, .ref Mstands, .int IstandMany, .ref Mtally, .ref MhasBox, .ref Mboxes], wI (cy 1) Mtape 1600 (Gtape)] hP9 hD9 hS9 (fun hP hD hS => ?_)
                    clear hP9 hD9 hS9
                    refine W.widen (k := 0) (n := 0) (Nat.le_of_ble_eq_true rfl) (Nat.le_of_ble_eq_true rfl) ?_
                    replace hw25 : (zr25 = 0 ∨ zr25 = 1) ∧ (zr25 = inF 48 57 zr23) := hw25
                    obtain ⟨f_26, f_27⟩ := hw25
                    refine lv_if_eq (tgt := 186) hx hb dX12_token_152 (by decide) (fun c_152 => ?_) (fun c_152 => ?_)
                    · have hwn : den Gtape Isize aq1 = aq1 + nn22 := hf1_22.symm.trans (den_no (hr_nl f_24 f_27 c_152))
                      have hpo : 1 ≤ nn22 := by have h9 := den_lt hl141.1 hl141.2; omega
                      refine lv_aload_n hx hb dX12_token_186 rfl (lv_at hl 2 rfl) ?_
                      refine lv_iload_n hx hb dX12_token_187 rfl (lv_at hl 0 rfl) ?_
                      refine lv_iconst (v := 4) hx hb dX12_token_188 (by decide) ?_
                      refine lv_icmp_gt (tgt := 203) hx hb dX12_token_189 (by decide) (fun c_28 => ?_) (fun c_28 => ?_)
                      · have q_29 : 4 < nn22 := q_lt (a := 4) (b := nn22) rfl rfl (by omega) (by omega) c_28
                        refine lv_iconst (v := 3) hx hb dX12_token_203 (by decide) ?_
                        refine lv_goto (tgt := 208) hx hb dX12_token_204 (by decide) ?_
                        refine va_put (D := D) (ci := 12) (v := .int 3) (ty := .int) (C := RX12) (T := TX12) (N := 89) hx hb hg i_X12 tyX12 tyX12_ok nmX12 hown hK hP hD hS 0 rfl rfl 6 (by decide) (hg _ m_1419) (fun _ h9 => h9) rfl (by decide +kernel) rfl rfl (Nat.le_of_ble_eq_true rfl) dX12_token_208 (fun H locs hP9 hD9 hS9 => ?_)
                        clear hP hD hS
                        refine reW [wO m0 12 [.ref Mtape, .int (nI Itaped), .int (nI Ifault), .int IfaultPlace, .int (nI aq1), .int (nI Isize), .int 3, .int (nI aq1), .int nq22, .long 0, .ref MnName, .ref MnStep, .ref MnArg, .ref MnMany, .ref Mstep, .ref Marg, .ref Mmany, .ref Mopen, .ref Mvalues, .ref MnHasForm, .ref MhasForm, .int (nI Iform), .int (nI Iopens), .int (nI InUnits), .int Iunits, .int (nI IownUnits), .int (nI Ideep), .ref Masks, .ref MnLoud, .ref MnCliffAt, .ref MnSnow, .ref MnManAt, .ref MnVoice, .ref MnOn, .ref Mloud, .ref McliffAt, .ref MsnowTold, .ref MmanAt, .ref Mvoice, .ref Mon, .ref MnYes, .ref Myes, .int (nI InWords), .int (nI InCliffs), .int (nI InMen), .int (nI InStates), .int (nI InOns), .int InWind, .int InDraw, .int (nI Iwords), .int (nI Icliffs), .int (nI Imen), .int (nI Istates), .int Ions, .int IwindTold, .int InHasWind, .int InHasDraw, .ref Mnow, .ref Mcry, .ref Msnow, .ref Mecho, .int (nI IcryMany), .int IcallPlace, .int IcallVoice, .int Iwind, .int Ichance, .int (nI IechoMany), .ref Mwere, .int (nI Iacts), .int (nI Iundone), .ref Mlies, .int (nI Ilain), .ref Mspots, .ref Msteps, .ref MfromState, .ref MbyWord, .ref Mqueue, .ref MsoundCliff, .ref MsoundLong, .ref MsoundCame, .ref MsoundTold, .ref MsoundUntold, .int (nI Isounds), .int Itime, .ref Mstands, .int IstandMany, .ref Mtally, .ref MhasBox, .ref Mboxes], wI (cy 1) Mtape 1600 (Gtape)] hP9 hD9 hS9 (fun hP hD hS => ?_)
                        clear hP9 hD9 hS9
                        refine lv_goto (tgt := 232) hx hb dX12_token_211 (by decide) ?_
                        refine lv_aload_n hx hb dX12_token_232 rfl (lv_at hl 2 rfl) ?_
                        refine va_get (D := D) (ci := 12) (v := .int 3) (C := RX12) (T := TX12) (N := 89) hx hb hg i_X12 hown hK hP 0 rfl rfl 6 (by decide) (hg _ m_1419) (fun _ h9 => h9) rfl dX12_token_233 ?_
                        refine lv_iconst (v := 3) hx hb dX12_token_236 (by decide) ?_
                        refine lv_icmp_eq (tgt := 250) hx hb dX12_token_237 (by decide) (fun _ => ?_) (fun h => absurd (by decide) h)
                        exact x_vret hQ hx hb hr hlocks hK hP hD hS dX12_token_250 (aq1, 3, nI aq1, nq22, 0) (⟨(show aq1 ≤ Isize from by omega), (show Iat ≤ aq1 from by omega), (show tkR Gtape Isize gn aq1 3 (nI aq1) nq22 0 from tr_badn hss hn75 hl141 hwn (Or.inl (by omega)))⟩) [0, 1] (by decide +kernel) rfl (Nat.le_of_ble_eq_true rfl) (Nat.le_of_ble_eq_true rfl)
                      · have q_29 : nn22 ≤ 4 := q_nlt (a := 4) (b := nn22) rfl rfl (by omega) (by omega) c_28
                        refine lv_aload_n hx hb dX12_token_192 rfl (lv_at hl 2 rfl) ?_
                        refine lv_iload_n hx hb dX12_token_193 rfl (lv_at hl 0 rfl) ?_
                        refine x_callVi (q := (RX12, TX12, 89)) (ci := 12) (q0 := 0) (wr := []) (rest := [.ref m0]) ⟨hx, hb, hml, hown, hg, hl.1⟩ k_X12_170 (r_here l D cy m0 Mtape MnName MnStep MnArg MnMany Mstep Marg Mmany Mopen Mvalues MnHasForm MhasForm Masks MnLoud MnCliffAt MnSnow MnManAt MnVoice MnOn Mloud McliffAt MsnowTold MmanAt Mvoice Mon MnYes Myes Mnow Mcry Msnow Mecho Mwere Mlies Mspots Msteps MfromState MbyWord Mqueue MsoundCliff MsoundLong MsoundCame MsoundTold MsoundUntold Mstands Mtally MhasBox Mboxes Gtape Itaped Ifault IfaultPlace aq1 Isize Isort (nI aq1) nq22 0 Iform Iopens InUnits Iunits IownUnits Ideep InWords InCliffs InMen InStates InOns InWind InDraw Iwords Icliffs Imen Istates Ions IwindTold InHasWind InHasDraw IcryMany IcallPlace IcallVoice Iwind Ichance IechoMany Iacts Iundone Ilain Isounds Itime IstandMany nn22 (by omega) (by omega) (by omega) (by omega) (by omega) (by omega) (by omega) (by omega) (by omega) (by omega) (by omega) (by omega) (by omega) (by omega) (by omega) (by omega) (by omega) (by omega) (by omega) (by omega) (by omega) (by omega) (by omega) (gby) (by omega)) E0_blind hK hP hD hS hA [0, 1] [] ⟨rfl, rfl, by decide +kernel, by decide +kernel, by decide +kernel⟩ rfl rfl (fun _ _ _ => trivial) dX12_token_194 rfl rfl (Nat.le_of_ble_eq_true rfl) ⟨Nat.le_of_ble_eq_true rfl, Nat.le_of_ble_eq_true rfl⟩ ⟨Nat.le_of_ble_eq_true rfl, Nat.le_of_ble_eq_true rfl⟩ (fun zr30 zu30 H locs hw30 hP9 hD9 hS9 => ?_)
                        clear hP hD hS
                        refine reW [wO m0 12 [.ref Mtape, .int (nI Itaped), .int (nI Ifault), .int IfaultPlace, .int (nI aq1), .int (nI Isize), .int Isort, .int (nI aq1), .int nq22, .long 0, .ref MnName, .ref MnStep, .ref MnArg, .ref MnMany, .ref Mstep, .ref Marg, .ref Mmany, .ref Mopen, .ref Mvalues, .ref MnHasForm, .ref MhasForm, .int (nI Iform), .int (nI Iopens), .int (nI InUnits), .int Iunits, .int (nI IownUnits), .int (nI Ideep), .ref Masks, .ref MnLoud, .ref MnCliffAt, .ref MnSnow, .ref MnManAt, .ref MnVoice, .ref MnOn, .ref Mloud, .ref McliffAt, .ref MsnowTold, .ref MmanAt, .ref Mvoice, .ref Mon, .ref MnYes, .ref Myes, .int (nI InWords), .int (nI InCliffs), .int (nI InMen), .int (nI InStates), .int (nI InOns), .int InWind, .int InDraw, .int (nI Iwords), .int (nI Icliffs), .int (nI Imen), .int (nI Istates), .int Ions, .int IwindTold, .int InHasWind, .int InHasDraw, .ref Mnow, .ref Mcry, .ref Msnow, .ref Mecho, .int (nI IcryMany), .int IcallPlace, .int IcallVoice, .int Iwind, .int Ichance, .int (nI IechoMany), .ref Mwere, .int (nI Iacts), .int (nI Iundone), .ref Mlies, .int (nI Ilain), .ref Mspots, .ref Msteps, .ref MfromState, .ref MbyWord, .ref Mqueue, .ref MsoundCliff, .ref MsoundLong, .ref MsoundCame, .ref MsoundTold, .ref MsoundUntold, .int (nI Isounds), .int Itime, .ref Mstands, .int IstandMany, .ref Mtally, .ref MhasBox, .ref Mboxes], wI (cy 1) Mtape 1600 (Gtape)] hP9 hD9 hS9 (fun hP hD hS => ?_)
                        clear hP9 hD9 hS9
                        refine W.widen (k := 0) (n := 0) (Nat.le_of_ble_eq_true rfl) (Nat.le_of_ble_eq_true rfl) ?_
                        replace hw30 : (zr30 = hrF Gtape aq1 Isize nn22) := hw30
                        have f_31 := hw30
                        refine x_callSi (wr := [wO m0 12 [.ref Mtape, .int (nI Itaped), .int (nI Ifault), .int IfaultPlace, .int (nI aq1), .int (nI Isize), .int Isort, .int (nI aq1), .int nq22, .long 0, .ref MnName, .ref MnStep, .ref MnArg, .ref MnMany, .ref Mstep, .ref Marg, .ref Mmany, .ref Mopen, .ref Mvalues, .ref MnHasForm, .ref MhasForm, .int (nI Iform), .int (nI Iopens), .int (nI InUnits), .int Iunits, .int (nI IownUnits), .int (nI Ideep), .ref Masks, .ref MnLoud, .ref MnCliffAt, .ref MnSnow, .ref MnManAt, .ref MnVoice, .ref MnOn, .ref Mloud, .ref McliffAt, .ref MsnowTold, .ref MmanAt, .ref Mvoice, .ref Mon, .ref MnYes, .ref Myes, .int (nI InWords), .int (nI InCliffs), .int (nI InMen), .int (nI InStates), .int (nI InOns), .int InWind, .int InDraw, .int (nI Iwords), .int (nI Icliffs), .int (nI Imen), .int (nI Istates), .int Ions, .int IwindTold, .int InHasWind, .int InHasDraw, .ref Mnow, .ref Mcry, .ref Msnow, .ref Mecho, .int (nI IcryMany), .int IcallPlace, .int IcallVoice, .int Iwind, .int Ichance, .int (nI IechoMany), .ref Mwere, .int (nI Iacts), .int (nI Iundone), .ref Mlies, .int (nI Ilain), .ref Mspots, .ref Msteps, .ref MfromState, .ref MbyWord, .ref Mqueue, .ref MsoundCliff, .ref MsoundLong, .ref MsoundCame, .ref MsoundTold, .ref MsoundUntold, .int (nI Isounds), .int Itime, .ref Mstands, .int IstandMany, .ref Mtally, .ref MhasBox, .ref Mboxes], wI (cy 1) Mtape 1600 (Gtape)]) (rest := [.ref m0]) ⟨hx, hb, hml, hown, hg, hl.1⟩ k_X12_187 (r_isLetter l D cy zr30) E0_blind hK hP hD hS hA [] [0, 1] ⟨rfl, rfl, by decide +kernel, by decide +kernel, by decide +kernel⟩ (fun _ _ _ => trivial) dX12_token_197 rfl rfl (Nat.le_of_ble_eq_true rfl) ⟨Nat.le_of_ble_eq_true rfl, Nat.le_of_ble_eq_true rfl⟩ ⟨Nat.le_of_ble_eq_true rfl, Nat.le_of_ble_eq_true rfl⟩ (fun zr32 zu32 H locs hw32 hP9 hD9 hS9 => ?_)
                        clear hP hD hS
                        refine reW [wO m0 12 [.ref Mtape, .int (nI Itaped), .int (nI Ifault), .int IfaultPlace, .int (nI aq1), .int (nI Isize), .int Isort, .int (nI aq1), .int nq22, .long 0, .ref MnName, .ref MnStep, .ref MnArg, .ref MnMany, .ref Mstep, .ref Marg, .ref Mmany, .ref Mopen, .ref Mvalues, .ref MnHasForm, .ref MhasForm, .int (nI Iform), .int (nI Iopens), .int (nI InUnits), .int Iunits, .int (nI IownUnits), .int (nI Ideep), .ref Masks, .ref MnLoud, .ref MnCliffAt, .ref MnSnow, .ref MnManAt, .ref MnVoice, .ref MnOn, .ref Mloud, .ref McliffAt, .ref MsnowTold, .ref MmanAt, .ref Mvoice, .ref Mon, .ref MnYes, .ref Myes, .int (nI InWords), .int (nI InCliffs), .int (nI InMen), .int (nI InStates), .int (nI InOns), .int InWind, .int InDraw, .int (nI Iwords), .int (nI Icliffs), .int (nI Imen), .int (nI Istates), .int Ions, .int IwindTold, .int InHasWind, .int InHasDraw, .ref Mnow, .ref Mcry, .ref Msnow, .ref Mecho, .int (nI IcryMany), .int IcallPlace, .int IcallVoice, .int Iwind, .int Ichance, .int (nI IechoMany), .ref Mwere, .int (nI Iacts), .int (nI Iundone), .ref Mlies, .int (nI Ilain), .ref Mspots, .ref Msteps, .ref MfromState, .ref MbyWord, .ref Mqueue, .ref MsoundCliff, .ref MsoundLong, .ref MsoundCame, .ref MsoundTold, .ref MsoundUntold, .int (nI Isounds), .int Itime, .ref Mstands, .int IstandMany, .ref Mtally, .ref MhasBox, .ref Mboxes], wI (cy 1) Mtape 1600 (Gtape)] hP9 hD9 hS9 (fun hP hD hS => ?_)
                        clear hP9 hD9 hS9
                        refine W.widen (k := 0) (n := 0) (Nat.le_of_ble_eq_true rfl) (Nat.le_of_ble_eq_true rfl) ?_
                        replace hw32 : (zr32 = 0 ∨ zr32 = 1) ∧ (zr32 = inF 97 122 zr30) := hw32
                        obtain ⟨f_33, f_34⟩ := hw32
                        refine lv_if_eq (tgt := 207) hx hb dX12_token_200 (by decide) (fun c_200 => ?_) (fun c_200 => ?_)
                        · refine lv_iconst (v := 2) hx hb dX12_token_207 (by decide) ?_
                          refine va_put (D := D) (ci := 12) (v := .int 2) (ty := .int) (C := RX12) (T := TX12) (N := 89) hx hb hg i_X12 tyX12 tyX12_ok nmX12 hown hK hP hD hS 0 rfl rfl 6 (by decide) (hg _ m_1419) (fun _ h9 => h9) rfl (by decide +kernel) rfl rfl (Nat.le_of_ble_eq_true rfl) dX12_token_208 (fun H locs hP9 hD9 hS9 => ?_)
                          clear hP hD hS
                          refine reW [wO m0 12 [.ref Mtape, .int (nI Itaped), .int (nI Ifault), .int IfaultPlace, .int (nI aq1), .int (nI Isize), .int 2, .int (nI aq1), .int nq22, .long 0, .ref MnName, .ref MnStep, .ref MnArg, .ref MnMany, .ref Mstep, .ref Marg, .ref Mmany, .ref Mopen, .ref Mvalues, .ref MnHasForm, .ref MhasForm, .int (nI Iform), .int (nI Iopens), .int (nI InUnits), .int Iunits, .int (nI IownUnits), .int (nI Ideep), .ref Masks, .ref MnLoud, .ref MnCliffAt, .ref MnSnow, .ref MnManAt, .ref MnVoice, .ref MnOn, .ref Mloud, .ref McliffAt, .ref MsnowTold, .ref MmanAt, .ref Mvoice, .ref Mon, .ref MnYes, .ref Myes, .int (nI InWords), .int (nI InCliffs), .int (nI InMen), .int (nI InStates), .int (nI InOns), .int InWind, .int InDraw, .int (nI Iwords), .int (nI Icliffs), .int (nI Imen), .int (nI Istates), .int Ions, .int IwindTold, .int InHasWind, .int InHasDraw, .ref Mnow, .ref Mcry, .ref Msnow, .ref Mecho, .int (nI IcryMany), .int IcallPlace, .int IcallVoice, .int Iwind, .int Ichance, .int (nI IechoMany), .ref Mwere, .int (nI Iacts), .int (nI Iundone), .ref Mlies, .int (nI Ilain), .ref Mspots, .ref Msteps, .ref MfromState, .ref MbyWord, .ref Mqueue, .ref MsoundCliff, .ref MsoundLong, .ref MsoundCame, .ref MsoundTold, .ref MsoundUntold, .int (nI Isounds), .int Itime, .ref Mstands, .int IstandMany, .ref Mtally, .ref MhasBox, .ref Mboxes], wI (cy 1) Mtape 1600 (Gtape)] hP9 hD9 hS9 (fun hP hD hS => ?_)
                          clear hP9 hD9 hS9
                          refine lv_goto (tgt := 232) hx hb dX12_token_211 (by decide) ?_
                          refine lv_aload_n hx hb dX12_token_232 rfl (lv_at hl 2 rfl) ?_
                          refine va_get (D := D) (ci := 12) (v := .int 2) (C := RX12) (T := TX12) (N := 89) hx hb hg i_X12 hown hK hP 0 rfl rfl 6 (by decide) (hg _ m_1419) (fun _ h9 => h9) rfl dX12_token_233 ?_
                          refine lv_iconst (v := 3) hx hb dX12_token_236 (by decide) ?_
                          refine lv_icmp_eq (tgt := 250) hx hb dX12_token_237 (by decide) (fun h => absurd h (by decide)) (fun _ => ?_)
                          refine lv_aload_n hx hb dX12_token_240 rfl (lv_at hl 2 rfl) ?_
                          refine lv_dup hx hb dX12_token_241 rfl ?_
                          refine va_get (D := D) (ci := 12) (v := .int (nI aq1)) (C := RX12) (T := TX12) (N := 89) hx hb hg i_X12 hown hK hP 0 rfl rfl 4 (by decide) (hg _ m_1417) (fun _ h9 => h9) rfl dX12_token_242 ?_
                          refine lv_iload_n hx hb dX12_token_245 rfl (lv_at hl 0 rfl) ?_
                          refine lv_iadd hx hb dX12_token_246 ?_
                          refine lv_topi (fun y_35 hy_35 => ?_)
                          obtain rfl : y_35 = nI (aq1 + nn22) := hy_35.trans (nI_add aq1 nn22)
                          refine va_put (D := D) (ci := 12) (v := .int (nI (aq1 + nn22))) (ty := .int) (C := RX12) (T := TX12) (N := 89) hx hb hg i_X12 tyX12 tyX12_ok nmX12 hown hK hP hD hS 0 rfl rfl 4 (by decide) (hg _ m_1417) (fun _ h9 => h9) rfl (by decide +kernel) rfl rfl (Nat.le_of_ble_eq_true rfl) dX12_token_247 (fun H locs hP9 hD9 hS9 => ?_)
                          clear hP hD hS
                          refine reW [wO m0 12 [.ref Mtape, .int (nI Itaped), .int (nI Ifault), .int IfaultPlace, .int (nI (aq1 + nn22)), .int (nI Isize), .int 2, .int (nI aq1), .int nq22, .long 0, .ref MnName, .ref MnStep, .ref MnArg, .ref MnMany, .ref Mstep, .ref Marg, .ref Mmany, .ref Mopen, .ref Mvalues, .ref MnHasForm, .ref MhasForm, .int (nI Iform), .int (nI Iopens), .int (nI InUnits), .int Iunits, .int (nI IownUnits), .int (nI Ideep), .ref Masks, .ref MnLoud, .ref MnCliffAt, .ref MnSnow, .ref MnManAt, .ref MnVoice, .ref MnOn, .ref Mloud, .ref McliffAt, .ref MsnowTold, .ref MmanAt, .ref Mvoice, .ref Mon, .ref MnYes, .ref Myes, .int (nI InWords), .int (nI InCliffs), .int (nI InMen), .int (nI InStates), .int (nI InOns), .int InWind, .int InDraw, .int (nI Iwords), .int (nI Icliffs), .int (nI Imen), .int (nI Istates), .int Ions, .int IwindTold, .int InHasWind, .int InHasDraw, .ref Mnow, .ref Mcry, .ref Msnow, .ref Mecho, .int (nI IcryMany), .int IcallPlace, .int IcallVoice, .int Iwind, .int Ichance, .int (nI IechoMany), .ref Mwere, .int (nI Iacts), .int (nI Iundone), .ref Mlies, .int (nI Ilain), .ref Mspots, .ref Msteps, .ref MfromState, .ref MbyWord, .ref Mqueue, .ref MsoundCliff, .ref MsoundLong, .ref MsoundCame, .ref MsoundTold, .ref MsoundUntold, .int (nI Isounds), .int Itime, .ref Mstands, .int IstandMany, .ref Mtally, .ref MhasBox, .ref Mboxes], wI (cy 1) Mtape 1600 (Gtape)] hP9 hD9 hS9 (fun hP hD hS => ?_)
                          clear hP9 hD9 hS9
                          exact x_vret hQ hx hb hr hlocks hK hP hD hS dX12_token_250 ((aq1 + nn22), 2, nI aq1, nq22, 0) (⟨(show ((aq1 + nn22)) ≤ Isize from by omega), (show Iat ≤ ((aq1 + nn22)) from by omega), (show tkR Gtape Isize gn ((aq1 + nn22)) 2 (nI aq1) nq22 0 from tr_num hss hn75 hl141 hwn (by omega) (hr_nl f_31 f_34 c_200) (by have h9 := hf2_22; rwa [show min nn22 4 = nn22 by omega] at h9))⟩) [0, 1] (by decide +kernel) rfl (Nat.le_of_ble_eq_true rfl) (Nat.le_of_ble_eq_true rfl)
                        · refine lv_iconst (v := 3) hx hb dX12_token_203 (by decide) ?_
                          refine lv_goto (tgt := 208) hx hb dX12_token_204 (by decide) ?_
                          refine va_put (D := D) (ci := 12) (v := .int 3) (ty := .int) (C := RX12) (T := TX12) (N := 89) hx hb hg i_X12 tyX12 tyX12_ok nmX12 hown hK hP hD hS 0 rfl rfl 6 (by decide) (hg _ m_1419) (fun _ h9 => h9) rfl (by decide +kernel) rfl rfl (Nat.le_of_ble_eq_true rfl) dX12_token_208 (fun H locs hP9 hD9 hS9 => ?_)
                          clear hP hD hS
                          refine reW [wO m0 12 [.ref Mtape, .int (nI Itaped), .int (nI Ifault), .int IfaultPlace, .int (nI aq1), .int (nI Isize), .int 3, .int (nI aq1), .int nq22, .long 0, .ref MnName, .ref MnStep, .ref MnArg, .ref MnMany, .ref Mstep, .ref Marg, .ref Mmany, .ref Mopen, .ref Mvalues, .ref MnHasForm, .ref MhasForm, .int (nI Iform), .int (nI Iopens), .int (nI InUnits), .int Iunits, .int (nI IownUnits), .int (nI Ideep), .ref Masks, .ref MnLoud, .ref MnCliffAt, .ref MnSnow, .ref MnManAt, .ref MnVoice, .ref MnOn, .ref Mloud, .ref McliffAt, .ref MsnowTold, .ref MmanAt, .ref Mvoice, .ref Mon, .ref MnYes, .ref Myes, .int (nI InWords), .int (nI InCliffs), .int (nI InMen), .int (nI InStates), .int (nI InOns), .int InWind, .int InDraw, .int (nI Iwords), .int (nI Icliffs), .int (nI Imen), .int (nI Istates), .int Ions, .int IwindTold, .int InHasWind, .int InHasDraw, .ref Mnow, .ref Mcry, .ref Msnow, .ref Mecho, .int (nI IcryMany), .int IcallPlace, .int IcallVoice, .int Iwind, .int Ichance, .int (nI IechoMany), .ref Mwere, .int (nI Iacts), .int (nI Iundone), .ref Mlies, .int (nI Ilain), .ref Mspots, .ref Msteps, .ref MfromState, .ref MbyWord, .ref Mqueue, .ref MsoundCliff, .ref MsoundLong, .ref MsoundCame, .ref MsoundTold, .ref MsoundUntold, .int (nI Isounds), .int Itime, .ref Mstands, .int IstandMany, .ref Mtally, .ref MhasBox, .ref Mboxes], wI (cy 1) Mtape 1600 (Gtape)] hP9 hD9 hS9 (fun hP hD hS => ?_)
                          clear hP9 hD9 hS9
                          refine lv_goto (tgt := 232) hx hb dX12_token_211 (by decide) ?_
                          refine lv_aload_n hx hb dX12_token_232 rfl (lv_at hl 2 rfl) ?_
                          refine va_get (D := D) (ci := 12) (v := .int 3) (C := RX12) (T := TX12) (N := 89) hx hb hg i_X12 hown hK hP 0 rfl rfl 6 (by decide) (hg _ m_1419) (fun _ h9 => h9) rfl dX12_token_233 ?_
                          refine lv_iconst (v := 3) hx hb dX12_token_236 (by decide) ?_
                          refine lv_icmp_eq (tgt := 250) hx hb dX12_token_237 (by decide) (fun _ => ?_) (fun h => absurd (by decide) h)
                          exact x_vret hQ hx hb hr hlocks hK hP hD hS dX12_token_250 (aq1, 3, nI aq1, nq22, 0) (⟨(show aq1 ≤ Isize from by omega), (show Iat ≤ aq1 from by omega), (show tkR Gtape Isize gn aq1 3 (nI aq1) nq22 0 from tr_badn hss hn75 hl141 hwn (Or.inr ⟨(hr_l f_31 f_34 (by decide) c_200).1, (hr_l f_31 f_34 (by decide) c_200).2.2⟩))⟩) [0, 1] (by decide +kernel) rfl (Nat.le_of_ble_eq_true rfl) (Nat.le_of_ble_eq_true rfl)
                    · have hl89 := hr_l f_24 f_27 (by decide) c_152
                      refine lv_iload_n hx hb dX12_token_155 rfl (lv_at hl 0 rfl) ?_
                      refine lv_iconst (v := 4) hx hb dX12_token_156 (by decide) ?_
                      refine lv_icmp_ge (tgt := 180) hx hb dX12_token_157 (by decide) (fun c_36 => ?_) (fun c_36 => ?_)
                      · have q_37 : 4 ≤ nn22 := q_le (a := 4) (b := nn22) rfl rfl (by omega) (by omega) c_36
                        refine lv_iinc (v := nI (nn22 + 1)) (lv' := [(2, .int (nI (nn22 + 1))), (1, .int zr7), (0, .ref m0)]) hx hb dX12_token_180 hl (k := 0) rfl (nI_add nn22 1) (by decide) rfl (fun ls hl => ?_)
                        refine lv_goto (tgt := 144) hx hb dX12_token_183 (by decide) ?_
                        exact ih22  ((nn22 + 1)) nq22 (by omega) ((den_go hl89.1 hl89.2.2).symm.trans hf1_22) (by rw [show min (nn22 + 1) 4 = min nn22 4 by omega]; exact hf2_22) (by omega) _ _ (hP.sub [0, 1] rfl) (hD.sub [0, 1] (by decide +kernel) rfl) hS ls (lv_sub hl [0, 1, 2] rfl)
                      · have q_37 : nn22 < 4 := q_nle (a := 4) (b := nn22) rfl rfl (by omega) (by omega) c_36
                        refine lv_aload_n hx hb dX12_token_160 rfl (lv_at hl 2 rfl) ?_
                        refine lv_bipush (v := 10) hx hb dX12_token_161 (by decide) ?_
                        refine lv_aload_n hx hb dX12_token_163 rfl (lv_at hl 2 rfl) ?_
                        refine va_get (D := D) (ci := 12) (v := .int nq22) (C := RX12) (T := TX12) (N := 89) hx hb hg i_X12 hown hK hP 0 rfl rfl 8 (by decide) (hg _ m_1421) (fun _ h9 => h9) rfl dX12_token_164 ?_
                        refine lv_imul hx hb dX12_token_167 ?_
                        refine lv_topi (fun x_38 ex_38 => ?_)
                        refine lv_aload_n hx hb dX12_token_168 rfl (lv_at hl 2 rfl) ?_
                        refine lv_iload_n hx hb dX12_token_169 rfl (lv_at hl 0 rfl) ?_
                        refine x_callVi (q := (RX12, TX12, 89)) (ci := 12) (q0 := 0) (wr := []) (rest := [.int x_38, .ref m0]) ⟨hx, hb, hml, hown, hg, hl.1⟩ k_X12_170 (r_here l D cy m0 Mtape MnName MnStep MnArg MnMany Mstep Marg Mmany Mopen Mvalues MnHasForm MhasForm Masks MnLoud MnCliffAt MnSnow MnManAt MnVoice MnOn Mloud McliffAt MsnowTold MmanAt Mvoice Mon MnYes Myes Mnow Mcry Msnow Mecho Mwere Mlies Mspots Msteps MfromState MbyWord Mqueue MsoundCliff MsoundLong MsoundCame MsoundTold MsoundUntold Mstands Mtally MhasBox Mboxes Gtape Itaped Ifault IfaultPlace aq1 Isize Isort (nI aq1) nq22 0 Iform Iopens InUnits Iunits IownUnits Ideep InWords InCliffs InMen InStates InOns InWind InDraw Iwords Icliffs Imen Istates Ions IwindTold InHasWind InHasDraw IcryMany IcallPlace IcallVoice Iwind Ichance IechoMany Iacts Iundone Ilain Isounds Itime IstandMany nn22 (by omega) (by omega) (by omega) (by omega) (by omega) (by omega) (by omega) (by omega) (by omega) (by omega) (by omega) (by omega) (by omega) (by omega) (by omega) (by omega) (by omega) (by omega) (by omega) (by omega) (by omega) (by omega) (by omega) (gby) (by omega)) E0_blind hK hP hD hS hA [0, 1] [] ⟨rfl, rfl, by decide +kernel, by decide +kernel, by decide +kernel⟩ rfl rfl (fun _ _ _ => trivial) dX12_token_170 rfl rfl (Nat.le_of_ble_eq_true rfl) ⟨Nat.le_of_ble_eq_true rfl, Nat.le_of_ble_eq_true rfl⟩ ⟨Nat.le_of_ble_eq_true rfl, Nat.le_of_ble_eq_true rfl⟩ (fun zr39 zu39 H locs hw39 hP9 hD9 hS9 => ?_)
                        clear hP hD hS
                        refine reW [wO m0 12 [.ref Mtape, .int (nI Itaped), .int (nI Ifault), .int IfaultPlace, .int (nI aq1), .int (nI Isize), .int Isort, .int (nI aq1), .int nq22, .long 0, .ref MnName, .ref MnStep, .ref MnArg, .ref MnMany, .ref Mstep, .ref Marg, .ref Mmany, .ref Mopen, .ref Mvalues, .ref MnHasForm, .ref MhasForm, .int (nI Iform), .int (nI Iopens), .int (nI InUnits), .int Iunits, .int (nI IownUnits), .int (nI Ideep), .ref Masks, .ref MnLoud, .ref MnCliffAt, .ref MnSnow, .ref MnManAt, .ref MnVoice, .ref MnOn, .ref Mloud, .ref McliffAt, .ref MsnowTold, .ref MmanAt, .ref Mvoice, .ref Mon, .ref MnYes, .ref Myes, .int (nI InWords), .int (nI InCliffs), .int (nI InMen), .int (nI InStates), .int (nI InOns), .int InWind, .int InDraw, .int (nI Iwords), .int (nI Icliffs), .int (nI Imen), .int (nI Istates), .int Ions, .int IwindTold, .int InHasWind, .int InHasDraw, .ref Mnow, .ref Mcry, .ref Msnow, .ref Mecho, .int (nI IcryMany), .int IcallPlace, .int IcallVoice, .int Iwind, .int Ichance, .int (nI IechoMany), .ref Mwere, .int (nI Iacts), .int (nI Iundone), .ref Mlies, .int (nI Ilain), .ref Mspots, .ref Msteps, .ref MfromState, .ref MbyWord, .ref Mqueue, .ref MsoundCliff, .ref MsoundLong, .ref MsoundCame, .ref MsoundTold, .ref MsoundUntold, .int (nI Isounds), .int Itime, .ref Mstands, .int IstandMany, .ref Mtally, .ref MhasBox, .ref Mboxes], wI (cy 1) Mtape 1600 (Gtape)] hP9 hD9 hS9 (fun hP hD hS => ?_)
                        clear hP9 hD9 hS9
                        refine W.widen (k := 0) (n := 0) (Nat.le_of_ble_eq_true rfl) (Nat.le_of_ble_eq_true rfl) ?_
                        replace hw39 : (zr39 = hrF Gtape aq1 Isize nn22) := hw39
                        have f_40 := hw39
                        refine lv_iadd hx hb dX12_token_173 ?_
                        refine lv_topi (fun x_41 ex_41 => ?_)
                        refine lv_bipush (v := 48) hx hb dX12_token_174 (by decide) ?_
                        refine lv_isub hx hb dX12_token_176 ?_
                        refine lv_topi (fun x_42 ex_42 => ?_)
                        refine va_put (D := D) (ci := 12) (v := .int x_42) (ty := .int) (C := RX12) (T := TX12) (N := 89) hx hb hg i_X12 tyX12 tyX12_ok nmX12 hown hK hP hD hS 0 rfl rfl 8 (by decide) (hg _ m_1421) (fun _ h9 => h9) rfl (by decide +kernel) rfl rfl (Nat.le_of_ble_eq_true rfl) dX12_token_177 (fun H locs hP9 hD9 hS9 => ?_)
                        clear hP hD hS
                        refine reW [wO m0 12 [.ref Mtape, .int (nI Itaped), .int (nI Ifault), .int IfaultPlace, .int (nI aq1), .int (nI Isize), .int Isort, .int (nI aq1), .int x_42, .long 0, .ref MnName, .ref MnStep, .ref MnArg, .ref MnMany, .ref Mstep, .ref Marg, .ref Mmany, .ref Mopen, .ref Mvalues, .ref MnHasForm, .ref MhasForm, .int (nI Iform), .int (nI Iopens), .int (nI InUnits), .int Iunits, .int (nI IownUnits), .int (nI Ideep), .ref Masks, .ref MnLoud, .ref MnCliffAt, .ref MnSnow, .ref MnManAt, .ref MnVoice, .ref MnOn, .ref Mloud, .ref McliffAt, .ref MsnowTold, .ref MmanAt, .ref Mvoice, .ref Mon, .ref MnYes, .ref Myes, .int (nI InWords), .int (nI InCliffs), .int (nI InMen), .int (nI InStates), .int (nI InOns), .int InWind, .int InDraw, .int (nI Iwords), .int (nI Icliffs), .int (nI Imen), .int (nI Istates), .int Ions, .int IwindTold, .int InHasWind, .int InHasDraw, .ref Mnow, .ref Mcry, .ref Msnow, .ref Mecho, .int (nI IcryMany), .int IcallPlace, .int IcallVoice, .int Iwind, .int Ichance, .int (nI IechoMany), .ref Mwere, .int (nI Iacts), .int (nI Iundone), .ref Mlies, .int (nI Ilain), .ref Mspots, .ref Msteps, .ref MfromState, .ref MbyWord, .ref Mqueue, .ref MsoundCliff, .ref MsoundLong, .ref MsoundCame, .ref MsoundTold, .ref MsoundUntold, .int (nI Isounds), .int Itime, .ref Mstands, .int IstandMany, .ref Mtally, .ref MhasBox, .ref Mboxes], wI (cy 1) Mtape 1600 (Gtape)] hP9 hD9 hS9 (fun hP hD hS => ?_)
                        clear hP9 hD9 hS9
                        refine lv_iinc (v := nI (nn22 + 1)) (lv' := [(2, .int (nI (nn22 + 1))), (1, .int zr7), (0, .ref m0)]) hx hb dX12_token_180 hl (k := 0) rfl (nI_add nn22 1) (by decide) rfl (fun ls hl => ?_)
                        refine lv_goto (tgt := 144) hx hb dX12_token_183 (by decide) ?_
                        exact ih22  ((nn22 + 1)) x_42 (by omega) ((den_go hl89.1 hl89.2.2).symm.trans hf1_22) (by rw [show min (nn22 + 1) 4 = nn22 + 1 by omega, ex_42, ex_41, ex_38]; exact dec_go2 (by rw [hf2_22, show min nn22 4 = nn22 by omega]) (f_40.trans (if_pos hl89.1))) (by omega) _ _ (hP.sub [0, 1] rfl) (hD.sub [0, 1] (by decide +kernel) rfl) hS ls (lv_sub hl [0, 1, 2] rfl)
                exact loop22 _ 0 0 (by omega) (rfl) (rfl) (Nat.le_refl _) _ _ (hP.sub [0, 1] rfl) (hD.sub [0, 1] (by decide +kernel) rfl) hS ls (lv_sub hl [0, 1, 2] rfl)
            · have hl75 : aq1 < Isize ∧ isLt (Gtape aq1) := ⟨hgo9.1, by rw [← hgo9.2]; exact in_1 f_11 c_75⟩
              have loop43 : ∀ (zn : Nat) (nn43 : Nat) (fl1_43 : Int64), (aq1 + nn43 ≤ Isize) → (wen Gtape Isize (aq1 + nn43) = wen Gtape Isize aq1) → (fl1_43 = c56 Gtape aq1 (min nn43 8)) → Isize - nn43 + 1 ≤ zn → ∀ (H : Heap) (locs : List Loc), va_P D vwCl [wO m0 12 [.ref Mtape, .int (nI Itaped), .int (nI Ifault), .int IfaultPlace, .int (nI aq1), .int (nI Isize), .int Isort, .int (nI aq1), .int 0, .long fl1_43, .ref MnName, .ref MnStep, .ref MnArg, .ref MnMany, .ref Mstep, .ref Marg, .ref Mmany, .ref Mopen, .ref Mvalues, .ref MnHasForm, .ref MhasForm, .int (nI Iform), .int (nI Iopens), .int (nI InUnits), .int Iunits, .int (nI IownUnits), .int (nI Ideep), .ref Masks, .ref MnLoud, .ref MnCliffAt, .ref MnSnow, .ref MnManAt, .ref MnVoice, .ref MnOn, .ref Mloud, .ref McliffAt, .ref MsnowTold, .ref MmanAt, .ref Mvoice, .ref Mon, .ref MnYes, .ref Myes, .int (nI InWords), .int (nI InCliffs), .int (nI InMen), .int (nI InStates), .int (nI InOns), .int InWind, .int InDraw, .int (nI Iwords), .int (nI Icliffs), .int (nI Imen), .int (nI Istates), .int Ions, .int IwindTold, .int InHasWind, .int InHasDraw, .ref Mnow, .ref Mcry, .ref Msnow, .ref Mecho, .int (nI IcryMany), .int IcallPlace, .int IcallVoice, .int Iwind, .int Ichance, .int (nI IechoMany), .ref Mwere, .int (nI Iacts), .int (nI Iundone), .ref Mlies, .int (nI Ilain), .ref Mspots, .ref Msteps, .ref MfromState, .ref MbyWord, .ref Mqueue, .ref MsoundCliff, .ref MsoundLong, .ref MsoundCame, .ref MsoundTold, .ref MsoundUntold, .int (nI Isounds), .int Itime, .ref Mstands, .int IstandMany, .ref Mtally, .ref MhasBox, .ref Mboxes], wI (cy 1) Mtape 1600 (Gtape)] H → va_D A [wO m0 12 [.ref Mtape, .int (nI Itaped), .int (nI Ifault), .int IfaultPlace, .int (nI aq1), .int (nI Isize), .int Isort, .int (nI aq1), .int 0, .long fl1_43, .ref MnName, .ref MnStep, .ref MnArg, .ref MnMany, .ref Mstep, .ref Marg, .ref Mmany, .ref Mopen, .ref Mvalues, .ref MnHasForm, .ref MhasForm, .int (nI Iform), .int (nI Iopens), .int (nI InUnits), .int Iunits, .int (nI IownUnits), .int (nI Ideep), .ref Masks, .ref MnLoud, .ref MnCliffAt, .ref MnSnow, .ref MnManAt, .ref MnVoice, .ref MnOn, .ref Mloud, .ref McliffAt, .ref MsnowTold, .ref MmanAt, .ref Mvoice, .ref Mon, .ref MnYes, .ref Myes, .int (nI InWords), .int (nI InCliffs), .int (nI InMen), .int (nI InStates), .int (nI InOns), .int InWind, .int InDraw, .int (nI Iwords), .int (nI Icliffs), .int (nI Imen), .int (nI Istates), .int Ions, .int IwindTold, .int InHasWind, .int InHasDraw, .ref Mnow, .ref Mcry, .ref Msnow, .ref Mecho, .int (nI IcryMany), .int IcallPlace, .int IcallVoice, .int Iwind, .int Ichance, .int (nI IechoMany), .ref Mwere, .int (nI Iacts), .int (nI Iundone), .ref Mlies, .int (nI Ilain), .ref Mspots, .ref Msteps, .ref MfromState, .ref MbyWord, .ref Mqueue, .ref MsoundCliff, .ref MsoundLong, .ref MsoundCame, .ref MsoundTold, .ref MsoundUntold, .int (nI Isounds), .int Itime, .ref Mstands, .int IstandMany, .ref Mtally, .ref MhasBox, .ref Mboxes], wI (cy 1) Mtape 1600 (Gtape)] → va_S A s.heap H locs → ∀ ls : Array Slot, lv_has ls 3 [(2, .int (nI nn43)), (1, .int zr7), (0, .ref m0)] → W p l e (rmk 1 0 0) s m args below meth c H locs 0 0 Q (F0 m 78 ls []) := by
                try clear hP hD hS
                intro zn
                induction zn with
                | zero => intro nn43 fl1_43 _ _ _ hz; exact absurd hz (by omega)
                | succ zn ih43 =>
                  intro nn43 fl1_43 hf0_43 hf1_43 hf2_43 hmu43 H locs hP hD hS ls hl
                  refine lv_aload_n hx hb dX12_token_78 rfl (lv_at hl 2 rfl) ?_
                  refine lv_iload_n hx hb dX12_token_79 rfl (lv_at hl 0 rfl) ?_
                  refine x_callVi (q := (RX12, TX12, 89)) (ci := 12) (q0 := 0) (wr := []) (rest := []) ⟨hx, hb, hml, hown, hg, hl.1⟩ k_X12_170 (r_here l D cy m0 Mtape MnName MnStep MnArg MnMany Mstep Marg Mmany Mopen Mvalues MnHasForm MhasForm Masks MnLoud MnCliffAt MnSnow MnManAt MnVoice MnOn Mloud McliffAt MsnowTold MmanAt Mvoice Mon MnYes Myes Mnow Mcry Msnow Mecho Mwere Mlies Mspots Msteps MfromState MbyWord Mqueue MsoundCliff MsoundLong MsoundCame MsoundTold MsoundUntold Mstands Mtally MhasBox Mboxes Gtape Itaped Ifault IfaultPlace aq1 Isize Isort (nI aq1) 0 fl1_43 Iform Iopens InUnits Iunits IownUnits Ideep InWords InCliffs InMen InStates InOns InWind InDraw Iwords Icliffs Imen Istates Ions IwindTold InHasWind InHasDraw IcryMany IcallPlace IcallVoice Iwind Ichance IechoMany Iacts Iundone Ilain Isounds Itime IstandMany nn43 (by omega) (by omega) (by omega) (by omega) (by omega) (by omega) (by omega) (by omega) (by omega) (by omega) (by omega) (by omega) (by omega) (by omega) (by omega) (by omega) (by omega) (by omega) (by omega) (by omega) (by omega) (by omega) (by omega) (gby) (by omega)) E0_blind hK hP hD hS hA [0, 1] [] ⟨rfl, rfl, by decide +kernel, by decide +kernel, by decide +kernel⟩ rfl rfl (fun _ _ _ => trivial) dX12_token_80 rfl rfl (Nat.le_of_ble_eq_true rfl) ⟨Nat.le_of_ble_eq_true rfl, Nat.le_of_ble_eq_true rfl⟩ ⟨Nat.le_of_ble_eq_true rfl, Nat.le_of_ble_eq_true rfl⟩ (fun zr44 zu44 H locs hw44 hP9 hD9 hS9 => ?_)
                  clear hP hD hS
                  refine reW [wO m0 12 [.ref Mtape, .int (nI Itaped), .int (nI Ifault), .int IfaultPlace, .int (nI aq1), .int (nI Isize), .int Isort, .int (nI aq1), .int 0, .long fl1_43, .ref MnName, .ref MnStep, .ref MnArg, .ref MnMany, .ref Mstep, .ref Marg, .ref Mmany, .ref Mopen, .ref Mvalues, .ref MnHasForm, .ref MhasForm, .int (nI Iform), .int (nI Iopens), .int (nI InUnits), .int Iunits, .int (nI IownUnits), .int (nI Ideep), .ref Masks, .ref MnLoud, .ref MnCliffAt, .ref MnSnow, .ref MnManAt, .ref MnVoice, .ref MnOn, .ref Mloud, .ref McliffAt, .ref MsnowTold, .ref MmanAt, .ref Mvoice, .ref Mon, .ref MnYes, .ref Myes, .int (nI InWords), .int (nI InCliffs), .int (nI InMen), .int (nI InStates), .int (nI InOns), .int InWind, .int InDraw, .int (nI Iwords), .int (nI Icliffs), .int (nI Imen), .int (nI Istates), .int Ions, .int IwindTold, .int InHasWind, .int InHasDraw, .ref Mnow, .ref Mcry, .ref Msnow, .ref Mecho, .int (nI IcryMany), .int IcallPlace, .int IcallVoice, .int Iwind, .int Ichance, .int (nI IechoMany), .ref Mwere, .int (nI Iacts), .int (nI Iundone), .ref Mlies, .int (nI Ilain), .ref Mspots, .ref Msteps, .ref MfromState, .ref MbyWord, .ref Mqueue, .ref MsoundCliff, .ref MsoundLong, .ref MsoundCame, .ref MsoundTold, .ref MsoundUntold, .int (nI Isounds), .int Itime, .ref Mstands, .int IstandMany, .ref Mtally, .ref MhasBox, .ref Mboxes], wI (cy 1) Mtape 1600 (Gtape)] hP9 hD9 hS9 (fun hP hD hS => ?_)
                  clear hP9 hD9 hS9
                  refine W.widen (k := 0) (n := 0) (Nat.le_of_ble_eq_true rfl) (Nat.le_of_ble_eq_true rfl) ?_
                  replace hw44 : (zr44 = hrF Gtape aq1 Isize nn43) := hw44
                  have f_45 := hw44
                  refine x_callSi (wr := [wO m0 12 [.ref Mtape, .int (nI Itaped), .int (nI Ifault), .int IfaultPlace, .int (nI aq1), .int (nI Isize), .int Isort, .int (nI aq1), .int 0, .long fl1_43, .ref MnName, .ref MnStep, .ref MnArg, .ref MnMany, .ref Mstep, .ref Marg, .ref Mmany, .ref Mopen, .ref Mvalues, .ref MnHasForm, .ref MhasForm, .int (nI Iform), .int (nI Iopens), .int (nI InUnits), .int Iunits, .int (nI IownUnits), .int (nI Ideep), .ref Masks, .ref MnLoud, .ref MnCliffAt, .ref MnSnow, .ref MnManAt, .ref MnVoice, .ref MnOn, .ref Mloud, .ref McliffAt, .ref MsnowTold, .ref MmanAt, .ref Mvoice, .ref Mon, .ref MnYes, .ref Myes, .int (nI InWords), .int (nI InCliffs), .int (nI InMen), .int (nI InStates), .int (nI InOns), .int InWind, .int InDraw, .int (nI Iwords), .int (nI Icliffs), .int (nI Imen), .int (nI Istates), .int Ions, .int IwindTold, .int InHasWind, .int InHasDraw, .ref Mnow, .ref Mcry, .ref Msnow, .ref Mecho, .int (nI IcryMany), .int IcallPlace, .int IcallVoice, .int Iwind, .int Ichance, .int (nI IechoMany), .ref Mwere, .int (nI Iacts), .int (nI Iundone), .ref Mlies, .int (nI Ilain), .ref Mspots, .ref Msteps, .ref MfromState, .ref MbyWord, .ref Mqueue, .ref MsoundCliff, .ref MsoundLong, .ref MsoundCame, .ref MsoundTold, .ref MsoundUntold, .int (nI Isounds), .int Itime, .ref Mstands, .int IstandMany, .ref Mtally, .ref MhasBox, .ref Mboxes], wI (cy 1) Mtape 1600 (Gtape)]) (rest := []) ⟨hx, hb, hml, hown, hg, hl.1⟩ k_X12_187 (r_isLetter l D cy zr44) E0_blind hK hP hD hS hA [] [0, 1] ⟨rfl, rfl, by decide +kernel, by decide +kernel, by decide +kernel⟩ (fun _ _ _ => trivial) dX12_token_83 rfl rfl (Nat.le_of_ble_eq_true rfl) ⟨Nat.le_of_ble_eq_true rfl, Nat.le_of_ble_eq_true rfl⟩ ⟨Nat.le_of_ble_eq_true rfl, Nat.le_of_ble_eq_true rfl⟩ (fun zr46 zu46 H locs hw46 hP9 hD9 hS9 => ?_)
                  clear hP hD hS
                  refine reW [wO m0 12 [.ref Mtape, .int (nI Itaped), .int (nI Ifault), .int IfaultPlace, .int (nI aq1), .int (nI Isize), .int Isort, .int (nI aq1), .int 0, .long fl1_43, .ref MnName, .ref MnStep, .ref MnArg, .ref MnMany, .ref Mstep, .ref Marg, .ref Mmany, .ref Mopen, .ref Mvalues, .ref MnHasForm, .ref MhasForm, .int (nI Iform), .int (nI Iopens), .int (nI InUnits), .int Iunits, .int (nI IownUnits), .int (nI Ideep), .ref Masks, .ref MnLoud, .ref MnCliffAt, .ref MnSnow, .ref MnManAt, .ref MnVoice, .ref MnOn, .ref Mloud, .ref McliffAt, .ref MsnowTold, .ref MmanAt, .ref Mvoice, .ref Mon, .ref MnYes, .ref Myes, .int (nI InWords), .int (nI InCliffs), .int (nI InMen), .int (nI InStates), .int (nI InOns), .int InWind, .int InDraw, .int (nI Iwords), .int (nI Icliffs), .int (nI Imen), .int (nI Istates), .int Ions, .int IwindTold, .int InHasWind, .int InHasDraw, .ref Mnow, .ref Mcry, .ref Msnow, .ref Mecho, .int (nI IcryMany), .int IcallPlace, .int IcallVoice, .int Iwind, .int Ichance, .int (nI IechoMany), .ref Mwere, .int (nI Iacts), .int (nI Iundone), .ref Mlies, .int (nI Ilain), .ref Mspots, .ref Msteps, .ref MfromState, .ref MbyWord, .ref Mqueue, .ref MsoundCliff, .ref MsoundLong, .ref MsoundCame, .ref MsoundTold, .ref MsoundUntold, .int (nI Isounds), .int Itime, .ref Mstands, .int IstandMany, .ref Mtally, .ref MhasBox, .ref Mboxes], wI (cy 1) Mtape 1600 (Gtape)] hP9 hD9 hS9 (fun hP hD hS => ?_)
                  clear hP9 hD9 hS9
                  refine W.widen (k := 0) (n := 0) (Nat.le_of_ble_eq_true rfl) (Nat.le_of_ble_eq_true rfl) ?_
                  replace hw46 : (zr46 = 0 ∨ zr46 = 1) ∧ (zr46 = inF 97 122 zr44) := hw46
                  obtain ⟨f_47, f_48⟩ := hw46
                  refine lv_if_eq (tgt := 119) hx hb dX12_token_86 (by decide) (fun c_86 => ?_) (fun c_86 => ?_)
                  · have hwn : wen Gtape Isize aq1 = aq1 + nn43 := hf1_43.symm.trans (wen_no (hr_nl f_45 f_48 c_86))
                    have hla := hl75
                    have hpo : 1 ≤ nn43 := by have h9 := wen_lt hl75.1 hl75.2; omega
                    refine lv_aload_n hx hb dX12_token_119 rfl (lv_at hl 2 rfl) ?_
                    refine lv_iload_n hx hb dX12_token_120 rfl (lv_at hl 0 rfl) ?_
                    refine lv_bipush (v := 8) hx hb dX12_token_121 (by decide) ?_
                    refine lv_icmp_le (tgt := 130) hx hb dX12_token_123 (by decide) (fun c_49 => ?_) (fun c_49 => ?_)
                    · have q_50 : nn43 ≤ 8 := q_le (a := nn43) (b := 8) rfl rfl (by omega) (by omega) c_49
                      refine lv_iconst (v := 1) hx hb dX12_token_130 (by decide) ?_
                      refine va_put (D := D) (ci := 12) (v := .int 1) (ty := .int) (C := RX12) (T := TX12) (N := 89) hx hb hg i_X12 tyX12 tyX12_ok nmX12 hown hK hP hD hS 0 rfl rfl 6 (by decide) (hg _ m_1419) (fun _ h9 => h9) rfl (by decide +kernel) rfl rfl (Nat.le_of_ble_eq_true rfl) dX12_token_131 (fun H locs hP9 hD9 hS9 => ?_)
                      clear hP hD hS
                      refine reW [wO m0 12 [.ref Mtape, .int (nI Itaped), .int (nI Ifault), .int IfaultPlace, .int (nI aq1), .int (nI Isize), .int 1, .int (nI aq1), .int 0, .long fl1_43, .ref MnName, .ref MnStep, .ref MnArg, .ref MnMany, .ref Mstep, .ref Marg, .ref Mmany, .ref Mopen, .ref Mvalues, .ref MnHasForm, .ref MhasForm, .int (nI Iform), .int (nI Iopens), .int (nI InUnits), .int Iunits, .int (nI IownUnits), .int (nI Ideep), .ref Masks, .ref MnLoud, .ref MnCliffAt, .ref MnSnow, .ref MnManAt, .ref MnVoice, .ref MnOn, .ref Mloud, .ref McliffAt, .ref MsnowTold, .ref MmanAt, .ref Mvoice, .ref Mon, .ref MnYes, .ref Myes, .int (nI InWords), .int (nI InCliffs), .int (nI InMen), .int (nI InStates), .int (nI InOns), .int InWind, .int InDraw, .int (nI Iwords), .int (nI Icliffs), .int (nI Imen), .int (nI Istates), .int Ions, .int IwindTold, .int InHasWind, .int InHasDraw, .ref Mnow, .ref Mcry, .ref Msnow, .ref Mecho, .int (nI IcryMany), .int IcallPlace, .int IcallVoice, .int Iwind, .int Ichance, .int (nI IechoMany), .ref Mwere, .int (nI Iacts), .int (nI Iundone), .ref Mlies, .int (nI Ilain), .ref Mspots, .ref Msteps, .ref MfromState, .ref MbyWord, .ref Mqueue, .ref MsoundCliff, .ref MsoundLong, .ref MsoundCame, .ref MsoundTold, .ref MsoundUntold, .int (nI Isounds), .int Itime, .ref Mstands, .int IstandMany, .ref Mtally, .ref MhasBox, .ref Mboxes], wI (cy 1) Mtape 1600 (Gtape)] hP9 hD9 hS9 (fun hP hD hS => ?_)
                      clear hP9 hD9 hS9
                      refine lv_goto (tgt := 232) hx hb dX12_token_134 (by decide) ?_
                      refine lv_aload_n hx hb dX12_token_232 rfl (lv_at hl 2 rfl) ?_
                      refine va_get (D := D) (ci := 12) (v := .int 1) (C := RX12) (T := TX12) (N := 89) hx hb hg i_X12 hown hK hP 0 rfl rfl 6 (by decide) (hg _ m_1419) (fun _ h9 => h9) rfl dX12_token_233 ?_
                      refine lv_iconst (v := 3) hx hb dX12_token_236 (by decide) ?_
                      refine lv_icmp_eq (tgt := 250) hx hb dX12_token_237 (by decide) (fun h => absurd h (by decide)) (fun _ => ?_)
                      refine lv_aload_n hx hb dX12_token_240 rfl (lv_at hl 2 rfl) ?_
                      refine lv_dup hx hb dX12_token_241 rfl ?_
                      refine va_get (D := D) (ci := 12) (v := .int (nI aq1)) (C := RX12) (T := TX12) (N := 89) hx hb hg i_X12 hown hK hP 0 rfl rfl 4 (by decide) (hg _ m_1417) (fun _ h9 => h9) rfl dX12_token_242 ?_
                      refine lv_iload_n hx hb dX12_token_245 rfl (lv_at hl 0 rfl) ?_
                      refine lv_iadd hx hb dX12_token_246 ?_
                      refine lv_topi (fun y_51 hy_51 => ?_)
                      obtain rfl : y_51 = nI (aq1 + nn43) := hy_51.trans (nI_add aq1 nn43)
                      refine va_put (D := D) (ci := 12) (v := .int (nI (aq1 + nn43))) (ty := .int) (C := RX12) (T := TX12) (N := 89) hx hb hg i_X12 tyX12 tyX12_ok nmX12 hown hK hP hD hS 0 rfl rfl 4 (by decide) (hg _ m_1417) (fun _ h9 => h9) rfl (by decide +kernel) rfl rfl (Nat.le_of_ble_eq_true rfl) dX12_token_247 (fun H locs hP9 hD9 hS9 => ?_)
                      clear hP hD hS
                      refine reW [wO m0 12 [.ref Mtape, .int (nI Itaped), .int (nI Ifault), .int IfaultPlace, .int (nI (aq1 + nn43)), .int (nI Isize), .int 1, .int (nI aq1), .int 0, .long fl1_43, .ref MnName, .ref MnStep, .ref MnArg, .ref MnMany, .ref Mstep, .ref Marg, .ref Mmany, .ref Mopen, .ref Mvalues, .ref MnHasForm, .ref MhasForm, .int (nI Iform), .int (nI Iopens), .int (nI InUnits), .int Iunits, .int (nI IownUnits), .int (nI Ideep), .ref Masks, .ref MnLoud, .ref MnCliffAt, .ref MnSnow, .ref MnManAt, .ref MnVoice, .ref MnOn, .ref Mloud, .ref McliffAt, .ref MsnowTold, .ref MmanAt, .ref Mvoice, .ref Mon, .ref MnYes, .ref Myes, .int (nI InWords), .int (nI InCliffs), .int (nI InMen), .int (nI InStates), .int (nI InOns), .int InWind, .int InDraw, .int (nI Iwords), .int (nI Icliffs), .int (nI Imen), .int (nI Istates), .int Ions, .int IwindTold, .int InHasWind, .int InHasDraw, .ref Mnow, .ref Mcry, .ref Msnow, .ref Mecho, .int (nI IcryMany), .int IcallPlace, .int IcallVoice, .int Iwind, .int Ichance, .int (nI IechoMany), .ref Mwere, .int (nI Iacts), .int (nI Iundone), .ref Mlies, .int (nI Ilain), .ref Mspots, .ref Msteps, .ref MfromState, .ref MbyWord, .ref Mqueue, .ref MsoundCliff, .ref MsoundLong, .ref MsoundCame, .ref MsoundTold, .ref MsoundUntold, .int (nI Isounds), .int Itime, .ref Mstands, .int IstandMany, .ref Mtally, .ref MhasBox, .ref Mboxes], wI (cy 1) Mtape 1600 (Gtape)] hP9 hD9 hS9 (fun hP hD hS => ?_)
                      clear hP9 hD9 hS9
                      exact x_vret hQ hx hb hr hlocks hK hP hD hS dX12_token_250 ((aq1 + nn43), 1, nI aq1, 0, fl1_43) (⟨(show ((aq1 + nn43)) ≤ Isize from by omega), (show Iat ≤ ((aq1 + nn43)) from by omega), (show tkR Gtape Isize gn ((aq1 + nn43)) 1 (nI aq1) 0 fl1_43 from tr_word hss hl75 hwn (by omega) (by have h9 := hf2_43; rwa [show min nn43 8 = nn43 by omega] at h9))⟩) [0, 1] (by decide +kernel) rfl (Nat.le_of_ble_eq_true rfl) (Nat.le_of_ble_eq_true rfl)
                    · have q_50 : 8 < nn43 := q_nle (a := nn43) (b := 8) rfl rfl (by omega) (by omega) c_49
                      refine lv_iconst (v := 3) hx hb dX12_token_126 (by decide) ?_
                      refine lv_goto (tgt := 131) hx hb dX12_token_127 (by decide) ?_
                      refine va_put (D := D) (ci := 12) (v := .int 3) (ty := .int) (C := RX12) (T := TX12) (N := 89) hx hb hg i_X12 tyX12 tyX12_ok nmX12 hown hK hP hD hS 0 rfl rfl 6 (by decide) (hg _ m_1419) (fun _ h9 => h9) rfl (by decide +kernel) rfl rfl (Nat.le_of_ble_eq_true rfl) dX12_token_131 (fun H locs hP9 hD9 hS9 => ?_)
                      clear hP hD hS
                      refine reW [wO m0 12 [.ref Mtape, .int (nI Itaped), .int (nI Ifault), .int IfaultPlace, .int (nI aq1), .int (nI Isize), .int 3, .int (nI aq1), .int 0, .long fl1_43, .ref MnName, .ref MnStep, .ref MnArg, .ref MnMany, .ref Mstep, .ref Marg, .ref Mmany, .ref Mopen, .ref Mvalues, .ref MnHasForm, .ref MhasForm, .int (nI Iform), .int (nI Iopens), .int (nI InUnits), .int Iunits, .int (nI IownUnits), .int (nI Ideep), .ref Masks, .ref MnLoud, .ref MnCliffAt, .ref MnSnow, .ref MnManAt, .ref MnVoice, .ref MnOn, .ref Mloud, .ref McliffAt, .ref MsnowTold, .ref MmanAt, .ref Mvoice, .ref Mon, .ref MnYes, .ref Myes, .int (nI InWords), .int (nI InCliffs), .int (nI InMen), .int (nI InStates), .int (nI InOns), .int InWind, .int InDraw, .int (nI Iwords), .int (nI Icliffs), .int (nI Imen), .int (nI Istates), .int Ions, .int IwindTold, .int InHasWind, .int InHasDraw, .ref Mnow, .ref Mcry, .ref Msnow, .ref Mecho, .int (nI IcryMany), .int IcallPlace, .int IcallVoice, .int Iwind, .int Ichance, .int (nI IechoMany), .ref Mwere, .int (nI Iacts), .int (nI Iundone), .ref Mlies, .int (nI Ilain), .ref Mspots, .ref Msteps, .ref MfromState, .ref MbyWord, .ref Mqueue, .ref MsoundCliff, .ref MsoundLong, .ref MsoundCame, .ref MsoundTold, .ref MsoundUntold, .int (nI Isounds), .int Itime, .ref Mstands, .int IstandMany, .ref Mtally, .ref MhasBox, .ref Mboxes], wI (cy 1) Mtape 1600 (Gtape)] hP9 hD9 hS9 (fun hP hD hS => ?_)
                      clear hP9 hD9 hS9
                      refine lv_goto (tgt := 232) hx hb dX12_token_134 (by decide) ?_
                      refine lv_aload_n hx hb dX12_token_232 rfl (lv_at hl 2 rfl) ?_
                      refine va_get (D := D) (ci := 12) (v := .int 3) (C := RX12) (T := TX12) (N := 89) hx hb hg i_X12 hown hK hP 0 rfl rfl 6 (by decide) (hg _ m_1419) (fun _ h9 => h9) rfl dX12_token_233 ?_
                      refine lv_iconst (v := 3) hx hb dX12_token_236 (by decide) ?_
                      refine lv_icmp_eq (tgt := 250) hx hb dX12_token_237 (by decide) (fun _ => ?_) (fun h => absurd (by decide) h)
                      exact x_vret hQ hx hb hr hlocks hK hP hD hS dX12_token_250 (aq1, 3, nI aq1, 0, fl1_43) (⟨(show aq1 ≤ Isize from by omega), (show Iat ≤ aq1 from by omega), (show tkR Gtape Isize gn aq1 3 (nI aq1) 0 fl1_43 from tr_long hss hl75 hwn (by omega))⟩) [0, 1] (by decide +kernel) rfl (Nat.le_of_ble_eq_true rfl) (Nat.le_of_ble_eq_true rfl)
                  · have hl89 := hr_l f_45 f_48 (by decide) c_86
                    refine lv_iload_n hx hb dX12_token_89 rfl (lv_at hl 0 rfl) ?_
                    refine lv_bipush (v := 8) hx hb dX12_token_90 (by decide) ?_
                    refine lv_icmp_ge (tgt := 113) hx hb dX12_token_92 (by decide) (fun c_52 => ?_) (fun c_52 => ?_)
                    · have q_53 : 8 ≤ nn43 := q_le (a := 8) (b := nn43) rfl rfl (by omega) (by omega) c_52
                      refine lv_iinc (v := nI (nn43 + 1)) (lv' := [(2, .int (nI (nn43 + 1))), (1, .int zr7), (0, .ref m0)]) hx hb dX12_token_113 hl (k := 0) rfl (nI_add nn43 1) (by decide) rfl (fun ls hl => ?_)
                      refine lv_goto (tgt := 78) hx hb dX12_token_116 (by decide) ?_
                      exact ih43  ((nn43 + 1)) fl1_43 (by omega) ((wen_go hl89.1 hl89.2.2).symm.trans hf1_43) (by rw [show min (nn43 + 1) 8 = min nn43 8 by omega]; exact hf2_43) (by omega) _ _ (hP.sub [0, 1] rfl) (hD.sub [0, 1] (by decide +kernel) rfl) hS ls (lv_sub hl [0, 1, 2] rfl)
                    · have q_53 : nn43 < 8 := q_nle (a := 8) (b := nn43) rfl rfl (by omega) (by omega) c_52
                      refine lv_aload_n hx hb dX12_token_95 rfl (lv_at hl 2 rfl) ?_
                      refine lv_aload_n hx hb dX12_token_96 rfl (lv_at hl 2 rfl) ?_
                      refine va_get (D := D) (ci := 12) (v := .long fl1_43) (C := RX12) (T := TX12) (N := 89) hx hb hg i_X12 hown hK hP 0 rfl rfl 9 (by decide) (hg _ m_1422) (fun _ h9 => h9) rfl dX12_token_97 ?_
                      refine lv_bipush (v := 8) hx hb dX12_token_100 (by decide) ?_
                      obtain ⟨z_54, ez_54⟩ : ∃ v : Int64, (fl1_43 : Int64) <<< ((8 : Int32).toInt64 &&& 63) = v := ⟨_, rfl⟩
                      refine lv_lshl (v := z_54) hx hb dX12_token_102 ez_54 ?_
                      refine lv_aload_n hx hb dX12_token_103 rfl (lv_at hl 2 rfl) ?_
                      refine lv_iload_n hx hb dX12_token_104 rfl (lv_at hl 0 rfl) ?_
                      refine x_callVi (q := (RX12, TX12, 89)) (ci := 12) (q0 := 0) (wr := []) (rest := [.long z_54, .ref m0]) ⟨hx, hb, hml, hown, hg, hl.1⟩ k_X12_170 (r_here l D cy m0 Mtape MnName MnStep MnArg MnMany Mstep Marg Mmany Mopen Mvalues MnHasForm MhasForm Masks MnLoud MnCliffAt MnSnow MnManAt MnVoice MnOn Mloud McliffAt MsnowTold MmanAt Mvoice Mon MnYes Myes Mnow Mcry Msnow Mecho Mwere Mlies Mspots Msteps MfromState MbyWord Mqueue MsoundCliff MsoundLong MsoundCame MsoundTold MsoundUntold Mstands Mtally MhasBox Mboxes Gtape Itaped Ifault IfaultPlace aq1 Isize Isort (nI aq1) 0 fl1_43 Iform Iopens InUnits Iunits IownUnits Ideep InWords InCliffs InMen InStates InOns InWind InDraw Iwords Icliffs Imen Istates Ions IwindTold InHasWind InHasDraw IcryMany IcallPlace IcallVoice Iwind Ichance IechoMany Iacts Iundone Ilain Isounds Itime IstandMany nn43 (by omega) (by omega) (by omega) (by omega) (by omega) (by omega) (by omega) (by omega) (by omega) (by omega) (by omega) (by omega) (by omega) (by omega) (by omega) (by omega) (by omega) (by omega) (by omega) (by omega) (by omega) (by omega) (by omega) (gby) (by omega)) E0_blind hK hP hD hS hA [0, 1] [] ⟨rfl, rfl, by decide +kernel, by decide +kernel, by decide +kernel⟩ rfl rfl (fun _ _ _ => trivial) dX12_token_105 rfl rfl (Nat.le_of_ble_eq_true rfl) ⟨Nat.le_of_ble_eq_true rfl, Nat.le_of_ble_eq_true rfl⟩ ⟨Nat.le_of_ble_eq_true rfl, Nat.le_of_ble_eq_true rfl⟩ (fun zr55 zu55 H locs hw55 hP9 hD9 hS9 => ?_)
                      clear hP hD hS
                      refine reW [wO m0 12 [.ref Mtape, .int (nI Itaped), .int (nI Ifault), .int IfaultPlace, .int (nI aq1), .int (nI Isize), .int Isort, .int (nI aq1), .int 0, .long fl1_43, .ref MnName, .ref MnStep, .ref MnArg, .ref MnMany, .ref Mstep, .ref Marg, .ref Mmany, .ref Mopen, .ref Mvalues, .ref MnHasForm, .ref MhasForm, .int (nI Iform), .int (nI Iopens), .int (nI InUnits), .int Iunits, .int (nI IownUnits), .int (nI Ideep), .ref Masks, .ref MnLoud, .ref MnCliffAt, .ref MnSnow, .ref MnManAt, .ref MnVoice, .ref MnOn, .ref Mloud, .ref McliffAt, .ref MsnowTold, .ref MmanAt, .ref Mvoice, .ref Mon, .ref MnYes, .ref Myes, .int (nI InWords), .int (nI InCliffs), .int (nI InMen), .int (nI InStates), .int (nI InOns), .int InWind, .int InDraw, .int (nI Iwords), .int (nI Icliffs), .int (nI Imen), .int (nI Istates), .int Ions, .int IwindTold, .int InHasWind, .int InHasDraw, .ref Mnow, .ref Mcry, .ref Msnow, .ref Mecho, .int (nI IcryMany), .int IcallPlace, .int IcallVoice, .int Iwind, .int Ichance, .int (nI IechoMany), .ref Mwere, .int (nI Iacts), .int (nI Iundone), .ref Mlies, .int (nI Ilain), .ref Mspots, .ref Msteps, .ref MfromState, .ref MbyWord, .ref Mqueue, .ref MsoundCliff, .ref MsoundLong, .ref MsoundCame, .ref MsoundTold, .ref MsoundUntold, .int (nI Isounds), .int Itime, .ref Mstands, .int IstandMany, .ref Mtally, .ref MhasBox, .ref Mboxes], wI (cy 1) Mtape 1600 (Gtape)] hP9 hD9 hS9 (fun hP hD hS => ?_)
                      clear hP9 hD9 hS9
                      refine W.widen (k := 0) (n := 0) (Nat.le_of_ble_eq_true rfl) (Nat.le_of_ble_eq_true rfl) ?_
                      replace hw55 : (zr55 = hrF Gtape aq1 Isize nn43) := hw55
                      have f_56 := hw55
                      obtain ⟨z_57, ez_57⟩ : ∃ y : Int64, (zr55 : Int32).toInt64 = y := ⟨_, rfl⟩
                      refine lv_i2l (v := z_57) hx hb dX12_token_108 ez_57 ?_
                      refine lv_lor hx hb dX12_token_109 ?_
                      refine lv_topl (fun z_58 ez_58 => ?_)
                      refine va_put (D := D) (ci := 12) (v := .long z_58) (ty := .long) (C := RX12) (T := TX12) (N := 89) hx hb hg i_X12 tyX12 tyX12_ok nmX12 hown hK hP hD hS 0 rfl rfl 9 (by decide) (hg _ m_1422) (fun _ h9 => h9) rfl (by decide +kernel) rfl rfl (Nat.le_of_ble_eq_true rfl) dX12_token_110 (fun H locs hP9 hD9 hS9 => ?_)
                      clear hP hD hS
                      refine reW [wO m0 12 [.ref Mtape, .int (nI Itaped), .int (nI Ifault), .int IfaultPlace, .int (nI aq1), .int (nI Isize), .int Isort, .int (nI aq1), .int 0, .long z_58, .ref MnName, .ref MnStep, .ref MnArg, .ref MnMany, .ref Mstep, .ref Marg, .ref Mmany, .ref Mopen, .ref Mvalues, .ref MnHasForm, .ref MhasForm, .int (nI Iform), .int (nI Iopens), .int (nI InUnits), .int Iunits, .int (nI IownUnits), .int (nI Ideep), .ref Masks, .ref MnLoud, .ref MnCliffAt, .ref MnSnow, .ref MnManAt, .ref MnVoice, .ref MnOn, .ref Mloud, .ref McliffAt, .ref MsnowTold, .ref MmanAt, .ref Mvoice, .ref Mon, .ref MnYes, .ref Myes, .int (nI InWords), .int (nI InCliffs), .int (nI InMen), .int (nI InStates), .int (nI InOns), .int InWind, .int InDraw, .int (nI Iwords), .int (nI Icliffs), .int (nI Imen), .int (nI Istates), .int Ions, .int IwindTold, .int InHasWind, .int InHasDraw, .ref Mnow, .ref Mcry, .ref Msnow, .ref Mecho, .int (nI IcryMany), .int IcallPlace, .int IcallVoice, .int Iwind, .int Ichance, .int (nI IechoMany), .ref Mwere, .int (nI Iacts), .int (nI Iundone), .ref Mlies, .int (nI Ilain), .ref Mspots, .ref Msteps, .ref MfromState, .ref MbyWord, .ref Mqueue, .ref MsoundCliff, .ref MsoundLong, .ref MsoundCame, .ref MsoundTold, .ref MsoundUntold, .int (nI Isounds), .int Itime, .ref Mstands, .int IstandMany, .ref Mtally, .ref MhasBox, .ref Mboxes], wI (cy 1) Mtape 1600 (Gtape)] hP9 hD9 hS9 (fun hP hD hS => ?_)
                      clear hP9 hD9 hS9
                      refine lv_iinc (v := nI (nn43 + 1)) (lv' := [(2, .int (nI (nn43 + 1))), (1, .int zr7), (0, .ref m0)]) hx hb dX12_token_113 hl (k := 0) rfl (nI_add nn43 1) (by decide) rfl (fun ls hl => ?_)
                      refine lv_goto (tgt := 78) hx hb dX12_token_116 (by decide) ?_
                      exact ih43  ((nn43 + 1)) z_58 (by omega) ((wen_go hl89.1 hl89.2.2).symm.trans hf1_43) (by rw [show min (nn43 + 1) 8 = nn43 + 1 by omega, ez_58]; exact c56_go (by rw [hf2_43, show min nn43 8 = nn43 by omega]) (f_56.trans (if_pos hl89.1)) ez_54 ez_57) (by omega) _ _ (hP.sub [0, 1] rfl) (hD.sub [0, 1] (by decide +kernel) rfl) hS ls (lv_sub hl [0, 1, 2] rfl)
              exact loop43 _ 0 0 (by omega) (rfl) (rfl) (Nat.le_refl _) _ _ (hP.sub [0, 1] rfl) (hD.sub [0, 1] (by decide +kernel) rfl) hS ls (lv_sub hl [0, 1, 2] rfl)
          · have hend9 := hr_no f_8 gby (by omega) (nge_lt c_60)
            refine lv_aload_n hx hb dX12_token_63 rfl (lv_at hl 2 rfl) ?_
            refine lv_iconst (v := 0) hx hb dX12_token_64 (by decide) ?_
            refine va_put (D := D) (ci := 12) (v := .int 0) (ty := .int) (C := RX12) (T := TX12) (N := 89) hx hb hg i_X12 tyX12 tyX12_ok nmX12 hown hK hP hD hS 0 rfl rfl 6 (by decide) (hg _ m_1419) (fun _ h9 => h9) rfl (by decide +kernel) rfl rfl (Nat.le_of_ble_eq_true rfl) dX12_token_65 (fun H locs hP9 hD9 hS9 => ?_)
            clear hP hD hS
            refine reW [wO m0 12 [.ref Mtape, .int (nI Itaped), .int (nI Ifault), .int IfaultPlace, .int (nI aq1), .int (nI Isize), .int 0, .int (nI aq1), .int 0, .long 0, .ref MnName, .ref MnStep, .ref MnArg, .ref MnMany, .ref Mstep, .ref Marg, .ref Mmany, .ref Mopen, .ref Mvalues, .ref MnHasForm, .ref MhasForm, .int (nI Iform), .int (nI Iopens), .int (nI InUnits), .int Iunits, .int (nI IownUnits), .int (nI Ideep), .ref Masks, .ref MnLoud, .ref MnCliffAt, .ref MnSnow, .ref MnManAt, .ref MnVoice, .ref MnOn, .ref Mloud, .ref McliffAt, .ref MsnowTold, .ref MmanAt, .ref Mvoice, .ref Mon, .ref MnYes, .ref Myes, .int (nI InWords), .int (nI InCliffs), .int (nI InMen), .int (nI InStates), .int (nI InOns), .int InWind, .int InDraw, .int (nI Iwords), .int (nI Icliffs), .int (nI Imen), .int (nI Istates), .int Ions, .int IwindTold, .int InHasWind, .int InHasDraw, .ref Mnow, .ref Mcry, .ref Msnow, .ref Mecho, .int (nI IcryMany), .int IcallPlace, .int IcallVoice, .int Iwind, .int Ichance, .int (nI IechoMany), .ref Mwere, .int (nI Iacts), .int (nI Iundone), .ref Mlies, .int (nI Ilain), .ref Mspots, .ref Msteps, .ref MfromState, .ref MbyWord, .ref Mqueue, .ref MsoundCliff, .ref MsoundLong, .ref MsoundCame, .ref MsoundTold, .ref MsoundUntold, .int (nI Isounds), .int Itime, .ref Mstands, .int IstandMany, .ref Mtally, .ref MhasBox, .ref Mboxes], wI (cy 1) Mtape 1600 (Gtape)] hP9 hD9 hS9 (fun hP hD hS => ?_)
            clear hP9 hD9 hS9
            refine lv_goto (tgt := 232) hx hb dX12_token_68 (by decide) ?_
            refine lv_aload_n hx hb dX12_token_232 rfl (lv_at hl 2 rfl) ?_
            refine va_get (D := D) (ci := 12) (v := .int 0) (C := RX12) (T := TX12) (N := 89) hx hb hg i_X12 hown hK hP 0 rfl rfl 6 (by decide) (hg _ m_1419) (fun _ h9 => h9) rfl dX12_token_233 ?_
            refine lv_iconst (v := 3) hx hb dX12_token_236 (by decide) ?_
            refine lv_icmp_eq (tgt := 250) hx hb dX12_token_237 (by decide) (fun h => absurd h (by decide)) (fun _ => ?_)
            refine lv_aload_n hx hb dX12_token_240 rfl (lv_at hl 2 rfl) ?_
            refine lv_dup hx hb dX12_token_241 rfl ?_
            refine va_get (D := D) (ci := 12) (v := .int (nI aq1)) (C := RX12) (T := TX12) (N := 89) hx hb hg i_X12 hown hK hP 0 rfl rfl 4 (by decide) (hg _ m_1417) (fun _ h9 => h9) rfl dX12_token_242 ?_
            refine lv_iload_n hx hb dX12_token_245 rfl (lv_at hl 0 rfl) ?_
            refine lv_iadd hx hb dX12_token_246 ?_
            refine lv_topi (fun y_59 hy_59 => ?_)
            obtain rfl : y_59 = nI (aq1 + 0) := hy_59.trans (nI_add aq1 0)
            refine va_put (D := D) (ci := 12) (v := .int (nI (aq1 + 0))) (ty := .int) (C := RX12) (T := TX12) (N := 89) hx hb hg i_X12 tyX12 tyX12_ok nmX12 hown hK hP hD hS 0 rfl rfl 4 (by decide) (hg _ m_1417) (fun _ h9 => h9) rfl (by decide +kernel) rfl rfl (Nat.le_of_ble_eq_true rfl) dX12_token_247 (fun H locs hP9 hD9 hS9 => ?_)
            clear hP hD hS
            refine reW [wO m0 12 [.ref Mtape, .int (nI Itaped), .int (nI Ifault), .int IfaultPlace, .int (nI (aq1 + 0)), .int (nI Isize), .int 0, .int (nI aq1), .int 0, .long 0, .ref MnName, .ref MnStep, .ref MnArg, .ref MnMany, .ref Mstep, .ref Marg, .ref Mmany, .ref Mopen, .ref Mvalues, .ref MnHasForm, .ref MhasForm, .int (nI Iform), .int (nI Iopens), .int (nI InUnits), .int Iunits, .int (nI IownUnits), .int (nI Ideep), .ref Masks, .ref MnLoud, .ref MnCliffAt, .ref MnSnow, .ref MnManAt, .ref MnVoice, .ref MnOn, .ref Mloud, .ref McliffAt, .ref MsnowTold, .ref MmanAt, .ref Mvoice, .ref Mon, .ref MnYes, .ref Myes, .int (nI InWords), .int (nI InCliffs), .int (nI InMen), .int (nI InStates), .int (nI InOns), .int InWind, .int InDraw, .int (nI Iwords), .int (nI Icliffs), .int (nI Imen), .int (nI Istates), .int Ions, .int IwindTold, .int InHasWind, .int InHasDraw, .ref Mnow, .ref Mcry, .ref Msnow, .ref Mecho, .int (nI IcryMany), .int IcallPlace, .int IcallVoice, .int Iwind, .int Ichance, .int (nI IechoMany), .ref Mwere, .int (nI Iacts), .int (nI Iundone), .ref Mlies, .int (nI Ilain), .ref Mspots, .ref Msteps, .ref MfromState, .ref MbyWord, .ref Mqueue, .ref MsoundCliff, .ref MsoundLong, .ref MsoundCame, .ref MsoundTold, .ref MsoundUntold, .int (nI Isounds), .int Itime, .ref Mstands, .int IstandMany, .ref Mtally, .ref MhasBox, .ref Mboxes], wI (cy 1) Mtape 1600 (Gtape)] hP9 hD9 hS9 (fun hP hD hS => ?_)
            clear hP9 hD9 hS9
            exact x_vret hQ hx hb hr hlocks hK hP hD hS dX12_token_250 ((aq1 + 0), 0, nI aq1, 0, 0) (⟨(show ((aq1 + 0)) ≤ Isize from by omega), (show Iat ≤ ((aq1 + 0)) from by omega), (show tkR Gtape Isize gn ((aq1 + 0)) 0 (nI aq1) 0 0 from tr_end hss hend9)⟩) [0, 1] (by decide +kernel) rfl (Nat.le_of_ble_eq_true rfl) (Nat.le_of_ble_eq_true rfl)
        · have hbl9 := hr_bl f_6 (Or.inr c_17)
          refine lv_aload_n hx hb dX12_token_20 rfl (lv_at hl 0 rfl) ?_
          refine lv_dup hx hb dX12_token_21 rfl ?_
          refine va_get (D := D) (ci := 12) (v := .int (nI aq1)) (C := RX12) (T := TX12) (N := 89) hx hb hg i_X12 hown hK hP 0 rfl rfl 4 (by decide) (hg _ m_1417) (fun _ h9 => h9) rfl dX12_token_22 ?_
          refine lv_iconst (v := 1) hx hb dX12_token_25 (by decide) ?_
          refine lv_iadd hx hb dX12_token_26 ?_
          refine lv_topi (fun y_60 hy_60 => ?_)
          obtain rfl : y_60 = nI (aq1 + 1) := hy_60.trans (nI_add aq1 1)
          refine va_put (D := D) (ci := 12) (v := .int (nI (aq1 + 1))) (ty := .int) (C := RX12) (T := TX12) (N := 89) hx hb hg i_X12 tyX12 tyX12_ok nmX12 hown hK hP hD hS 0 rfl rfl 4 (by decide) (hg _ m_1417) (fun _ h9 => h9) rfl (by decide +kernel) rfl rfl (Nat.le_of_ble_eq_true rfl) dX12_token_27 (fun H locs hP9 hD9 hS9 => ?_)
          clear hP hD hS
          refine reW [wO m0 12 [.ref Mtape, .int (nI Itaped), .int (nI Ifault), .int IfaultPlace, .int (nI (aq1 + 1)), .int (nI Isize), .int Isort, .int Iplace, .int Inumber, .long Iword, .ref MnName, .ref MnStep, .ref MnArg, .ref MnMany, .ref Mstep, .ref Marg, .ref Mmany, .ref Mopen, .ref Mvalues, .ref MnHasForm, .ref MhasForm, .int (nI Iform), .int (nI Iopens), .int (nI InUnits), .int Iunits, .int (nI IownUnits), .int (nI Ideep), .ref Masks, .ref MnLoud, .ref MnCliffAt, .ref MnSnow, .ref MnManAt, .ref MnVoice, .ref MnOn, .ref Mloud, .ref McliffAt, .ref MsnowTold, .ref MmanAt, .ref Mvoice, .ref Mon, .ref MnYes, .ref Myes, .int (nI InWords), .int (nI InCliffs), .int (nI InMen), .int (nI InStates), .int (nI InOns), .int InWind, .int InDraw, .int (nI Iwords), .int (nI Icliffs), .int (nI Imen), .int (nI Istates), .int Ions, .int IwindTold, .int InHasWind, .int InHasDraw, .ref Mnow, .ref Mcry, .ref Msnow, .ref Mecho, .int (nI IcryMany), .int IcallPlace, .int IcallVoice, .int Iwind, .int Ichance, .int (nI IechoMany), .ref Mwere, .int (nI Iacts), .int (nI Iundone), .ref Mlies, .int (nI Ilain), .ref Mspots, .ref Msteps, .ref MfromState, .ref MbyWord, .ref Mqueue, .ref MsoundCliff, .ref MsoundLong, .ref MsoundCame, .ref MsoundTold, .ref MsoundUntold, .int (nI Isounds), .int Itime, .ref Mstands, .int IstandMany, .ref Mtally, .ref MhasBox, .ref Mboxes], wI (cy 1) Mtape 1600 (Gtape)] hP9 hD9 hS9 (fun hP hD hS => ?_)
          clear hP9 hD9 hS9
          refine lv_goto (tgt := 0) hx hb dX12_token_30 (by decide) ?_
          exact ih1  ((aq1 + 1)) (by omega) (by omega) ((stt_go hbl9.1 hbl9.2).symm.trans hf2_1) (by omega) _ _ (hP.sub [0, 1] rfl) (hD.sub [0, 1] (by decide +kernel) rfl) hS ls (lv_sub hl [0] rfl)
  exact loop1 _ Iat (by omega) (by omega) (by rw [hgn]) (Nat.le_refl _) _ _ (hP.sub [0, 1] rfl) (hD.sub [0, 1] (by decide +kernel) rfl) hS ls (lv_sub hl [0] rfl)
