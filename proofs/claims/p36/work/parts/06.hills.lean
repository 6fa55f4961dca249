def mL06 : List (Option Cond) := [some (Cond.selects RX4 yX4_countStepsTo yX4_countStepsTo), some (Cond.selects RX4 yX4_leadsToOneAt yX4_leadsToOneAt), some (Cond.selects RX4 yX4_firstWordNearer yX4_firstWordNearer), some (Cond.initialized RX4), some (Cond.initialized RJ9), some (Cond.fieldLink RX4 78 "CliffJudges$Formula" "told" "Z"), some (Cond.fieldLink RX4 9 "CliffJudges$Hills" "counts" "[I"), some (Cond.fieldLink RX4 18 "CliffJudges$Hills" "cliffPlace" "[I"), some (Cond.fieldLink RX4 30 "CliffJudges$Hills" "next" "[I"), some (Cond.fieldLink RX4 33 "CliffJudges$Hills" "stepsLeft" "[I"), some (Cond.fieldLink RX4 39 "CliffJudges$Hills" "back" "LCliffJudges$Formula;"), some (Cond.fieldLink RX4 56 "CliffJudges$Hills" "yesStates" "I"), some (Cond.static yJ9_max_7cf53), some (Cond.code yJ9_max_7cf53 cJ9_max_7cf53 2 (some .int)), some (Cond.static yJ9_min_7cf53), some (Cond.code yJ9_min_7cf53 cJ9_min_7cf53 2 (some .int)), some (Cond.methodLink RX4 72 yJ9_abs_0f7a4), some (Cond.static yJ9_abs_0f7a4), some (Cond.code yJ9_abs_0f7a4 cJ9_abs_0f7a4 1 (some .int)), some (Cond.methodLink RX4 82 yX3_value), some (Cond.instanceMethod yX3_value), some (Cond.selects RX3 yX3_value yX3_value), some (Cond.code yX3_value cX3_value 6 (some .int)), some (Cond.methodLink RX4 86 yJ9_min_7cf53), some (Cond.methodLink RX4 90 yJ9_max_7cf53), some (Cond.methodLink RX4 93 yX4_isYesState), some (Cond.instanceMethod yX4_isYesState), some (Cond.selects RX4 yX4_isYesState yX4_isYesState), some (Cond.code yX4_isYesState cX4_isYesState 2 (some .boolean)), some (Cond.methodLink RX4 97 yX4_countStepsTo), some (Cond.instanceMethod yX4_countStepsTo), some (Cond.code yX4_countStepsTo cX4_countStepsTo 4 none), some (Cond.methodLink RX4 104 yX4_leadsToOneAt), some (Cond.instanceMethod yX4_leadsToOneAt), some (Cond.code yX4_leadsToOneAt cX4_leadsToOneAt 4 (some .boolean)), some (Cond.methodLink RX4 101 yX4_firstWordNearer), some (Cond.instanceMethod yX4_firstWordNearer), some (Cond.code yX4_firstWordNearer cX4_firstWordNearer 3 (some .int))]
set_option maxRecDepth 100000 in
theorem mP06 : pick [56, 1, 1, 79, 10, 158, 24, 12, 13, 5, 1, 8, 399, 1, 2, 1, 255, 1, 1, 18, 1, 1, 1, 4, 1, 22, 1, 1, 1, 225, 2, 1, 1, 2, 1, 1, 2, 1] lw_tbl = mL06 := rfl
set_option maxRecDepth 100000 in
theorem mG06 : mL06.all (fun o => o.all goodWord) = true := rfl
theorem m_56 : (Cond.selects RX4 yX4_countStepsTo yX4_countStepsTo) ∈ gT := gp mP06 mG06 0 rfl
theorem m_57 : (Cond.selects RX4 yX4_leadsToOneAt yX4_leadsToOneAt) ∈ gT := gp mP06 mG06 1 rfl
theorem m_58 : (Cond.selects RX4 yX4_firstWordNearer yX4_firstWordNearer) ∈ gT := gp mP06 mG06 2 rfl
theorem m_137 : (Cond.initialized RX4) ∈ gT := gp mP06 mG06 3 rfl
theorem m_147 : (Cond.initialized RJ9) ∈ gT := gp mP06 mG06 4 rfl
theorem m_305 : (Cond.fieldLink RX4 78 "CliffJudges$Formula" "told" "Z") ∈ gT := gp mP06 mG06 5 rfl
theorem m_329 : (Cond.fieldLink RX4 9 "CliffJudges$Hills" "counts" "[I") ∈ gT := gp mP06 mG06 6 rfl
theorem m_341 : (Cond.fieldLink RX4 18 "CliffJudges$Hills" "cliffPlace" "[I") ∈ gT := gp mP06 mG06 7 rfl
theorem m_354 : (Cond.fieldLink RX4 30 "CliffJudges$Hills" "next" "[I") ∈ gT := gp mP06 mG06 8 rfl
theorem m_359 : (Cond.fieldLink RX4 33 "CliffJudges$Hills" "stepsLeft" "[I") ∈ gT := gp mP06 mG06 9 rfl
theorem m_360 : (Cond.fieldLink RX4 39 "CliffJudges$Hills" "back" "LCliffJudges$Formula;") ∈ gT := gp mP06 mG06 10 rfl
theorem m_368 : (Cond.fieldLink RX4 56 "CliffJudges$Hills" "yesStates" "I") ∈ gT := gp mP06 mG06 11 rfl
theorem m_767 : (Cond.static yJ9_max_7cf53) ∈ gT := gp mP06 mG06 12 rfl
theorem m_768 : (Cond.code yJ9_max_7cf53 cJ9_max_7cf53 2 (some .int)) ∈ gT := gp mP06 mG06 13 rfl
theorem m_770 : (Cond.static yJ9_min_7cf53) ∈ gT := gp mP06 mG06 14 rfl
theorem m_771 : (Cond.code yJ9_min_7cf53 cJ9_min_7cf53 2 (some .int)) ∈ gT := gp mP06 mG06 15 rfl
theorem m_1026 : (Cond.methodLink RX4 72 yJ9_abs_0f7a4) ∈ gT := gp mP06 mG06 16 rfl
theorem m_1027 : (Cond.static yJ9_abs_0f7a4) ∈ gT := gp mP06 mG06 17 rfl
theorem m_1028 : (Cond.code yJ9_abs_0f7a4 cJ9_abs_0f7a4 1 (some .int)) ∈ gT := gp mP06 mG06 18 rfl
theorem m_1046 : (Cond.methodLink RX4 82 yX3_value) ∈ gT := gp mP06 mG06 19 rfl
theorem m_1047 : (Cond.instanceMethod yX3_value) ∈ gT := gp mP06 mG06 20 rfl
theorem m_1048 : (Cond.selects RX3 yX3_value yX3_value) ∈ gT := gp mP06 mG06 21 rfl
theorem m_1049 : (Cond.code yX3_value cX3_value 6 (some .int)) ∈ gT := gp mP06 mG06 22 rfl
theorem m_1053 : (Cond.methodLink RX4 86 yJ9_min_7cf53) ∈ gT := gp mP06 mG06 23 rfl
theorem m_1054 : (Cond.methodLink RX4 90 yJ9_max_7cf53) ∈ gT := gp mP06 mG06 24 rfl
theorem m_1076 : (Cond.methodLink RX4 93 yX4_isYesState) ∈ gT := gp mP06 mG06 25 rfl
theorem m_1077 : (Cond.instanceMethod yX4_isYesState) ∈ gT := gp mP06 mG06 26 rfl
theorem m_1078 : (Cond.selects RX4 yX4_isYesState yX4_isYesState) ∈ gT := gp mP06 mG06 27 rfl
theorem m_1079 : (Cond.code yX4_isYesState cX4_isYesState 2 (some .boolean)) ∈ gT := gp mP06 mG06 28 rfl
theorem m_1304 : (Cond.methodLink RX4 97 yX4_countStepsTo) ∈ gT := gp mP06 mG06 29 rfl
theorem m_1306 : (Cond.instanceMethod yX4_countStepsTo) ∈ gT := gp mP06 mG06 30 rfl
theorem m_1307 : (Cond.code yX4_countStepsTo cX4_countStepsTo 4 none) ∈ gT := gp mP06 mG06 31 rfl
theorem m_1308 : (Cond.methodLink RX4 104 yX4_leadsToOneAt) ∈ gT := gp mP06 mG06 32 rfl
theorem m_1310 : (Cond.instanceMethod yX4_leadsToOneAt) ∈ gT := gp mP06 mG06 33 rfl
theorem m_1311 : (Cond.code yX4_leadsToOneAt cX4_leadsToOneAt 4 (some .boolean)) ∈ gT := gp mP06 mG06 34 rfl
theorem m_1312 : (Cond.methodLink RX4 101 yX4_firstWordNearer) ∈ gT := gp mP06 mG06 35 rfl
theorem m_1314 : (Cond.instanceMethod yX4_firstWordNearer) ∈ gT := gp mP06 mG06 36 rfl
theorem m_1315 : (Cond.code yX4_firstWordNearer cX4_firstWordNearer 3 (some .int)) ∈ gT := gp mP06 mG06 37 rfl
/-! what a CLIFF sends back: values of formulas, rows of WORDS -/
/-- how many come of a value, of n at most -/
def clN (v : Int32) (n : Nat) : Nat := if v < 0 then 0 else if v < nI n then v.toNatClampNeg else n
theorem clN_le {v : Int32} {n : Nat} (hn : n < 2 ^ 31) : clN v n ≤ n := by
  unfold clN
  by_cases h : v < 0
  · rw [if_pos h]; exact Nat.zero_le _
  rw [if_neg h]
  by_cases h2 : v < nI n
  · rw [if_pos h2]
    obtain ⟨j, hj, e⟩ := nI_of h
    rw [e, nI_clamp hj]
    rw [e] at h2
    exact Nat.le_of_lt ((nI_ltI hj hn).mp h2)
  · rw [if_neg h2]; exact Nat.le_refl _
theorem clN_C (v : Int32) {n : Nat} (hn : n < 2 ^ 31) : (if (0 : Int32) < (if v < nI n then v else nI n) then (if v < nI n then v else nI n) else 0) = nI (clN v n) := by
  unfold clN
  by_cases h : v < 0
  · have h1 : v < nI n := by
      rw [fa_lt] at h ⊢
      rw [nI_toInt hn]
      have z0 : (0 : Int32).toInt = 0 := by decide
      omega
    rw [if_pos h1, if_pos h, if_neg]
    · rfl
    · rw [fa_lt] at h ⊢
      omega
  rw [if_neg h]
  obtain ⟨j, hj, e⟩ := nI_of h
  subst e
  by_cases h2 : nI j < nI n
  · rw [if_pos h2, if_pos h2, nI_clamp hj]
    by_cases h3 : (0 : Int32) < nI j
    · rw [if_pos h3]
    · rw [if_neg h3]
      have h4 : ¬ 0 < j := fun h5 => h3 ((nI_ltI (a := 0) (by decide) hj).mpr h5)
      rw [show j = 0 by omega]
      rfl
  · rw [if_neg h2, if_neg h2]
    by_cases h3 : (0 : Int32) < nI n
    · rw [if_pos h3]
    · rw [if_neg h3]
      have h4 : ¬ 0 < n := fun h5 => h3 ((nI_ltI (a := 0) (by decide) hn).mpr h5)
      rw [show n = 0 by omega]
      rfl
theorem clN_0 {v : Int32} {n : Nat} (h : v < 0) : 0 = clN v n := (if_pos h).symm
theorem clN_n {v : Int32} {n : Nat} (hn : n < 2 ^ 31) (h : ¬ v < 0) (h2 : nI n < v) : n = clN v n := by
  unfold clN
  rw [if_neg h, if_neg]
  rw [fa_lt] at h2 ⊢
  omega
theorem clN_v {v : Int32} {n : Nat} (hn : n < 2 ^ 31) (h : ¬ v < 0) (h2 : ¬ nI n < v) : v = nI (clN v n) := by
  unfold clN
  rw [if_neg h]
  obtain ⟨j, hj, e⟩ := nI_of h
  subst e
  by_cases h3 : nI j < nI n
  · rw [if_pos h3, nI_clamp hj]
  · rw [if_neg h3]
    have h4 : ¬ j < n := fun h5 => h3 ((nI_ltI hj hn).mpr h5)
    have h5 : ¬ n < j := fun h5 => h2 ((nI_ltI hn hj).mpr h5)
    rw [show j = n by omega]
/-- a row of facts -/
def fk7 (a b c d e f g : Int32) : Nat → Int32 := fun k => if k = 0 then a else if k = 1 then b else if k = 2 then c else if k = 3 then d else if k = 4 then e else if k = 5 then f else g
theorem fk7_mk {ff : Nat → Int32} {z A b x C d : Int32} (h : z = A) (h2 : x = C) : ∀ k, k < 7 → upd (upd (upd (upd (upd (upd (upd ff (0 : Int32).toNatClampNeg z) (1 : Int32).toNatClampNeg b) (2 : Int32).toNatClampNeg x) (3 : Int32).toNatClampNeg d) (4 : Int32).toNatClampNeg 0) (5 : Int32).toNatClampNeg 0) (6 : Int32).toNatClampNeg 0 k = fk7 A b C d 0 0 0 k := by
  subst h h2
  rw [show (0 : Int32).toNatClampNeg = 0 by decide, show (1 : Int32).toNatClampNeg = 1 by decide, show (2 : Int32).toNatClampNeg = 2 by decide, show (3 : Int32).toNatClampNeg = 3 by decide, show (4 : Int32).toNatClampNeg = 4 by decide, show (5 : Int32).toNatClampNeg = 5 by decide, show (6 : Int32).toNatClampNeg = 6 by decide]
  intro k hk
  rcases (show k = 0 ∨ k = 1 ∨ k = 2 ∨ k = 3 ∨ k = 4 ∨ k = 5 ∨ k = 6 by omega) with e | e | e | e | e | e | e <;> subst e <;> rfl
theorem cv1_cg {ff gg : Nat → Int32} {x : Int32} {S : List Int32} (h : ∀ k, k < 7 → ff k = gg k) (hx : x.toInt < 10007 ∨ 20000 ≤ x.toInt) : cv1 ff x S = cv1 gg x S := by
  unfold cv1
  by_cases c1 : x = 20116
  · rw [if_pos c1, if_pos c1]
  rw [if_neg c1, if_neg c1]
  by_cases c2 : 20000 ≤ x
  · rw [if_pos c2, if_pos c2]
  rw [if_neg c2, if_neg c2]
  by_cases c3 : x < 10000
  · rw [if_pos c3, if_pos c3]
  rw [if_neg c3, if_neg c3]
  have z1 : (20000 : Int32).toInt = 20000 := by decide
  have z2 : (10000 : Int32).toInt = 10000 := by decide
  have z0 : (0 : Int32).toInt = 0 := by decide
  rw [fa_le] at c2
  rw [fa_lt] at c3
  obtain ⟨j, hj, ex⟩ := nI_of (x := x) (by rw [fa_lt]; omega)
  subst ex
  rw [nI_toInt hj] at hx c2 c3
  rw [show (10000 : Int32) = nI 10000 by decide, pk_sub (by omega), nI_clamp (by omega), h (j - 10000) (by omega)]
theorem evA_cg {ff gg fc : Nat → Int32} {n : Nat} (h : ∀ k, k < 7 → ff k = gg k) (hc : cOK fc n) (j : Nat) : ∀ (i : Nat) (S : List Int32), i + j ≤ n → evA ff fc j i S = evA gg fc j i S := by
  induction j with
  | zero => intro i S _; rfl
  | succ j ih =>
    intro i S hi
    show evA ff fc j (i + 1) (cv1 ff (fc i) S) = evA gg fc j (i + 1) (cv1 gg (fc i) S)
    rw [cv1_cg h (hc i (by omega))]
    exact ih (i + 1) _ (by omega)
/-- the value of a formula, z where none is told -/
def vlC (t : Int32) (fc : Nat → Int32) (n : Nat) (z : Int32) (ff : Nat → Int32) : Int32 := if t = 0 then z else (evA ff fc n 0 []).headD 0
def fmW (t : Int32) (fc : Nat → Int32) (n : Nat) : Prop := ¬ t = 0 → chA fc n 0 0 = some 1
theorem vlC_cg {t : Int32} {fc ff gg : Nat → Int32} {n : Nat} {z : Int32} (hc : cOK fc n) (h : ∀ k, k < 7 → ff k = gg k) : vlC t fc n z ff = vlC t fc n z gg := by
  unfold vlC
  rw [evA_cg h hc n 0 [] (by omega)]
theorem vlC_1 {t : Int32} {fc ff : Nat → Int32} {n : Nat} {z r : Int32} (h : ¬ t = 0) (hr : r = (evA ff fc n 0 []).headD 0) : r = vlC t fc n z ff := by
  unfold vlC
  rw [if_neg h, hr]
theorem vlC_0 {t : Int32} {fc ff : Nat → Int32} {n : Nat} {z : Int32} (h : t = 0) : z = vlC t fc n z ff := by
  unfold vlC
  rw [if_pos h]
abbrev FE : Type := (Nat → Int32) → Int32
def bkS (bE : FE) (far wi sn : Int32) (n : Nat) : Nat := clN (bE (fk7 far wi sn (nI n) 0 0 0)) n
def loS (lE : FE) (lo : Nat → Int32) (far wi sn voc cha : Int32) (n : Nat) (wd : Int32) (i : Nat) : Bool := decide (¬ lE (fk7 far wi sn (nI n) (lo wd.toNatClampNeg + voc) (nI (n - 1 - i)) cha) = 0)
def tuS (tE : FE) (far wi sn : Int32) (n : Nat) : Bool := decide (¬ tE (fk7 far wi sn (nI n) 0 0 0) = 0)
def coS (bE lE : FE) (lo : Nat → Int32) (far wi sn voc cha : Int32) (n : Nat) (fw : Nat → Int32) (i : Nat) : Bool := decide (n ≤ i + bkS bE far wi sn n) && !(loS lE lo far wi sn voc cha n (fw i) i)
/-- the entries fw (pl k) of those k below m for which c says so -/
def sdL (c : Nat → Bool) (fw : Nat → Int32) (pl : Nat → Nat) : Nat → List Int32
  | 0 => []
  | k + 1 => sdL c fw pl k ++ (if c (pl k) = true then [fw (pl k)] else [])
def plS (t : Int32) (n : Nat) : Nat → Nat := fun k => if t = 0 then k else n - 1 - k
def ecS (bE lE tE : FE) (lo : Nat → Int32) (far wi sn voc cha : Int32) (fw : Nat → Int32) (n : Nat) : List Int32 := sdL (coS bE lE lo far wi sn voc cha n fw) fw (fun k => if tuS tE far wi sn n = true then n - 1 - k else k) n
theorem sdL_cg {c c2 : Nat → Bool} {fw : Nat → Int32} {pl pl2 : Nat → Nat} {m : Nat} (h : ∀ k, k < m → pl k = pl2 k ∧ c (pl k) = c2 (pl2 k)) : sdL c fw pl m = sdL c2 fw pl2 m := by
  induction m with
  | zero => rfl
  | succ m ih =>
    show sdL c fw pl m ++ _ = sdL c2 fw pl2 m ++ _
    have h9 := h m (by omega)
    rw [ih (fun k hk => h k (by omega)), h9.2, h9.1]
theorem sdL_no {c : Nat → Bool} {fw : Nat → Int32} {pl : Nat → Nat} {m : Nat} (h : ∀ k, k < m → c (pl k) = false) : sdL c fw pl m = [] := by
  induction m with
  | zero => rfl
  | succ m ih =>
    show sdL c fw pl m ++ _ = []
    rw [ih (fun k hk => h k (by omega)), h m (by omega)]
    rfl
theorem sdL_len {c : Nat → Bool} {fw : Nat → Int32} {pl : Nat → Nat} {m : Nat} : (sdL c fw pl m).length ≤ m := by
  induction m with
  | zero => exact Nat.le_refl 0
  | succ m ih =>
    show (sdL c fw pl m ++ _).length ≤ m + 1
    rw [List.length_append]
    split
    · show _ + 1 ≤ _; omega
    · show _ + 0 ≤ _; omega
theorem sdL_y {c : Nat → Bool} {fw : Nat → Int32} {pl : Nat → Nat} {k p : Nat} (hp : p = pl k) (h : c p = true) : sdL c fw pl k ++ [fw p] = sdL c fw pl (k + 1) := by
  subst hp
  show _ = sdL c fw pl k ++ (if _ then _ else _)
  rw [if_pos h]
theorem sdL_n {c : Nat → Bool} {fw : Nat → Int32} {pl : Nat → Nat} {k p : Nat} (hp : p = pl k) (h : ¬ c p = true) : sdL c fw pl k = sdL c fw pl (k + 1) := by
  subst hp
  show _ = sdL c fw pl k ++ (if _ then _ else _)
  rw [if_neg h, List.append_nil]
/-- whether a WORD is not among those that are gone -/
def gB (g w : Int32) : Bool := decide ((g >>> (w &&& 31)) &&& 1 = 0)
theorem gB_all {w : Nat} (h : w ≤ 7) : gB 255 (nI w) = false := by
  have h9 : (List.range 8).all (fun w => gB 255 (nI w) == false) = true := by decide +kernel
  exact eq_of_beq (List.all_eq_true.mp h9 w (List.mem_range.mpr (by omega)))
theorem gB_one {w : Nat} (h : w ≤ 7) : gB ((1 : Int32) <<< (nI w &&& 31)) (nI w) = false := by
  have h9 : (List.range 8).all (fun w => gB ((1 : Int32) <<< (nI w &&& 31)) (nI w) == false) = true := by decide +kernel
  exact eq_of_beq (List.all_eq_true.mp h9 w (List.mem_range.mpr (by omega)))
theorem gB_no {w : Nat} (h : w ≤ 7) : gB 0 (nI w) = true := by
  have h9 : (List.range 8).all (fun w => gB 0 (nI w) == true) = true := by decide +kernel
  exact eq_of_beq (List.all_eq_true.mp h9 w (List.mem_range.mpr (by omega)))
theorem exC_0 {f : Nat → Int32} {n : Nat} : exC f n f n [] := ⟨rfl, fun _ _ => rfl, fun i hi => absurd hi (Nat.not_lt_zero i)⟩
theorem exC_eq {f g : Nat → Int32} {n m : Nat} {v w : List Int32} (h : exC f n g m v) (e : v = w) : exC f n g m w := e ▸ h
/-- how far -/
def farC (pl cp : Int32) : Int32 := if 0 ≤ pl - cp then pl - cp else 0 - (pl - cp)
/-- a STATE that is led to by a row of WORDS -/
def stL (fx : Nat → Int32) (s : Nat) (L : List Int32) : Nat := L.foldl (fun s x => (fx (s * 8 + x.toNatClampNeg)).toNatClampNeg) s
def stA (fx fr : Nat → Int32) : Nat → Nat
  | 0 => 0
  | k + 1 => (fx (stA fx fr k * 8 + (fr k).toNatClampNeg)).toNatClampNeg
theorem stA_go {fx fr : Nat → Int32} {i s j k : Nat} (hi : i < 2 ^ 31) (hs : s = stA fx fr i) (ej : fr (nI i).toNatClampNeg = nI j) (hj : j ≤ 7) (hs5 : s ≤ 5) (ek : fx (nI (s * 8 + j)).toNatClampNeg = nI k) (hk : k ≤ 5) : k = stA fx fr (i + 1) := by
  show k = (fx (stA fx fr i * 8 + (fr i).toNatClampNeg)).toNatClampNeg
  rw [nI_clamp hi] at ej
  rw [nI_clamp (by omega)] at ek
  rw [← hs, ej, nI_clamp (by omega), ek, nI_clamp (by omega)]
theorem stL_app (fx : Nat → Int32) (s : Nat) (v w : List Int32) : stL fx s (v ++ w) = stL fx (stL fx s v) w := List.foldl_append
theorem stA_take {fx fr : Nat → Int32} {L : List Int32} (h : ∀ i, i < L.length → fr i = L.getD i 0) (k : Nat) (hk : k ≤ L.length) : stA fx fr k = stL fx 0 (L.take k) := by
  induction k with
  | zero => rfl
  | succ k ih =>
    have h9 : L.take (k + 1) = L.take k ++ [L.getD k 0] := by
      rw [List.take_add_one, List.getElem?_eq_getElem (by omega), List.getD_eq_getElem?_getD, List.getElem?_eq_getElem (by omega)]
      rfl
    rw [h9, stL_app, ← ih (by omega), ← h k (by omega)]
    rfl
theorem stA_ex {fx f g : Nat → Int32} {m : Nat} {L : List Int32} (h : exC f 0 g m L) : stA fx g m = stL fx 0 L := by
  obtain ⟨h1, h2, h3⟩ := h
  have e : m = L.length := by omega
  subst e
  rw [stA_take (fun i hi => by have := h3 i hi; rwa [Nat.zero_add] at this) L.length (Nat.le_refl _), List.take_length]
/-- whether a STATE is yes, by bits -/
def ysB (ys : Int32) (s : Nat) : Bool := decide (¬ (ys >>> (nI s &&& 31)) &&& 1 = 0)
def yeC (fx : Nat → Int32) (ys : Int32) (L : List Int32) : Bool := ysB ys (stL fx 0 L)
/-- the CLIFF that BINDS, of so many, and the VERDICT -/
def bdS (E : Nat → List Int32) (far : Nat → Int32) : Nat → Int32
  | 0 => -1
  | c + 1 => if (bdS E far c = -1 ∨ far c < far (bdS E far c).toNatClampNeg) ∧ ¬ E c = [] then nI c else bdS E far c
def vdS (E : Nat → List Int32) (far : Nat → Int32) (Y : List Int32 → Bool) (c : Nat) : Nat := if bdS E far c = -1 then 0 else if Y (E (bdS E far c).toNatClampNeg) = true then 2 else 1
section BD
variable {E : Nat → List Int32} {far : Nat → Int32} {Y : List Int32 → Bool} {c : Nat}
theorem bdS_no (h : ¬ ((bdS E far c = -1 ∨ far c < far (bdS E far c).toNatClampNeg) ∧ ¬ E c = [])) : bdS E far (c + 1) = bdS E far c := if_neg h
theorem bdS_y (h : (bdS E far c = -1 ∨ far c < far (bdS E far c).toNatClampNeg) ∧ ¬ E c = []) : bdS E far (c + 1) = nI c := if_pos h
theorem vdS_no (h : ¬ ((bdS E far c = -1 ∨ far c < far (bdS E far c).toNatClampNeg) ∧ ¬ E c = [])) : vdS E far Y (c + 1) = vdS E far Y c := by
  unfold vdS
  rw [bdS_no h]
theorem vdS_y (hc : c < 2 ^ 31) (h : (bdS E far c = -1 ∨ far c < far (bdS E far c).toNatClampNeg) ∧ ¬ E c = []) : vdS E far Y (c + 1) = if Y (E c) = true then 2 else 1 := by
  unfold vdS
  rw [bdS_y h, if_neg (nI_nneg hc (by decide)), nI_clamp hc]
theorem bdS_rng (hc : c < 2 ^ 31) : bdS E far c = -1 ∨ ∃ j, j < c ∧ bdS E far c = nI j ∧ ¬ E j = [] := by
  induction c with
  | zero => exact Or.inl rfl
  | succ c ih =>
    by_cases h : (bdS E far c = -1 ∨ far c < far (bdS E far c).toNatClampNeg) ∧ ¬ E c = []
    · exact Or.inr ⟨c, Nat.lt_succ_self c, bdS_y h, h.2⟩
    · rw [bdS_no h]
      rcases ih (by omega) with h9 | ⟨j, h1, h2, h3⟩
      · exact Or.inl h9
      · exact Or.inr ⟨j, by omega, h2, h3⟩
end BD
theorem bdS_cg {E E2 : Nat → List Int32} {far far2 : Nat → Int32} {c : Nat} (hc : c < 2 ^ 31) (h : ∀ j, j < c → E j = E2 j ∧ far j = far2 j) : bdS E far c = bdS E2 far2 c := by
  induction c with
  | zero => rfl
  | succ c ih =>
    have h1 := ih (by omega) (fun j hj => h j (by omega))
    have h2 := h c (by omega)
    show (if _ then _ else _) = (if _ then _ else _)
    rw [← h1, ← h2.1, ← h2.2]
    rcases bdS_rng (E := E) (far := far) (c := c) (by omega) with h9 | ⟨j, h3, h4, _⟩
    · rw [h9]
      by_cases q : E c = []
      · rw [if_neg (fun h8 => h8.2 q), if_neg (fun h8 => h8.2 q)]
      · rw [if_pos ⟨Or.inl rfl, q⟩, if_pos ⟨Or.inl rfl, q⟩]
    · rw [h4, nI_clamp (by omega), (h j (by omega)).2]
theorem vdS_cg {E E2 : Nat → List Int32} {far far2 : Nat → Int32} {Y Y2 : List Int32 → Bool} {c : Nat} (hc : c < 2 ^ 31) (h : ∀ j, j < c → E j = E2 j ∧ far j = far2 j) (hY : ∀ j, j < c → Y (E j) = Y2 (E2 j)) : vdS E far Y c = vdS E2 far2 Y2 c := by
  unfold vdS
  rw [← bdS_cg hc h]
  rcases bdS_rng (E := E) (far := far) (c := c) hc with h9 | ⟨j, h3, h4, _⟩
  · rw [h9, if_pos rfl, if_pos rfl]
  · rw [h4, nI_clamp (by omega), hY j h3]
/-- an answer of yes or no -/
def bR (r : Int32) (b : Bool) : Prop := (r = 1 ∧ b = true) ∨ (r = 0 ∧ b = false)
theorem bR_1 {b : Bool} (h : b = true) : bR 1 b := Or.inl ⟨rfl, h⟩
theorem bR_0 {b : Bool} (h : b = false) : bR 0 b := Or.inr ⟨rfl, h⟩
theorem bR_t {r : Int32} {b : Bool} (h : bR r b) (hr : ¬ r = 0) : b = true := h.elim (fun h => h.2) (fun h => absurd h.1 hr)
theorem bR_f {r : Int32} {b : Bool} (h : bR r b) (hr : r = 0) : b = false := h.elim (fun h => absurd (h.1.symm.trans hr) (by decide)) (fun h => h.2)
theorem bR_o {r : Int32} {b : Bool} (h : bR r b) : r = 0 ∨ r = 1 := h.elim (fun h => Or.inr h.1) (fun h => Or.inl h.1)
theorem far_mk {fp : Nat → Int32} {j : Nat} {pl x y r : Int32} (hj : j < 2 ^ 31) (ey : y = fp (nI j).toNatClampNeg) (ex : x = pl - y) (er : r = if 0 ≤ x then x else 0 - x) : r = farC pl (fp j) := by
  rw [nI_clamp hj] at ey
  unfold farC
  rw [er, ex, ey]
theorem ys_1 {ys sx x y : Int32} (ex : x = ys >>> (sx &&& 31)) (ey : y = x &&& 1) (h : ¬ y = 0) : decide (¬ (ys >>> (sx &&& 31)) &&& 1 = 0) = true := by
  subst ex ey
  exact decide_eq_true h
theorem ys_0 {ys sx x y : Int32} (ex : x = ys >>> (sx &&& 31)) (ey : y = x &&& 1) (h : y = 0) : decide (¬ (ys >>> (sx &&& 31)) &&& 1 = 0) = false := by
  subst ex ey
  exact decide_eq_false (fun h9 => h9 h)
theorem gb_1 {fg : Nat → Int32} {i : Nat} {w z x y : Int32} (hi : i < 2 ^ 31) (ez : z = fg (nI i).toNatClampNeg) (ex : x = z >>> (w &&& 31)) (ey : y = x &&& 1) (h : y = 0) : gB (fg i) w = true := by
  rw [nI_clamp hi] at ez
  subst ez ex ey
  exact decide_eq_true h
theorem gb_0 {fg : Nat → Int32} {i : Nat} {w z x y : Int32} (hi : i < 2 ^ 31) (ez : z = fg (nI i).toNatClampNeg) (ex : x = z >>> (w &&& 31)) (ey : y = x &&& 1) (h : ¬ y = 0) : gB (fg i) w = false := by
  rw [nI_clamp hi] at ez
  subst ez ex ey
  exact decide_eq_false h
theorem sdL_fm {c : Nat → Bool} {fw : Nat → Int32} {pl : Nat → Nat} {m : Nat} : sdL c fw pl m = ((List.range m).map pl).filterMap (fun p => if c p = true then some (fw p) else none) := by
  induction m with
  | zero => rfl
  | succ m ih =>
    rw [List.range_succ, List.map_append, List.filterMap_append, ← ih]
    show _ ++ (if c (pl m) = true then [fw (pl m)] else []) = _ ++ List.filterMap _ [pl m]
    congr 1
    by_cases h : c (pl m) = true
    · rw [if_pos h, List.filterMap_cons, if_pos h]; rfl
    · rw [if_neg h, List.filterMap_cons, if_neg h]; rfl
theorem rg_rev (n : Nat) : (List.range n).map (fun k => n - 1 - k) = (List.range n).reverse := by
  apply List.ext_getElem
  · simp
  · intro i h1 h2
    simp
theorem sdL_rev {c : Nat → Bool} {fw : Nat → Int32} {n : Nat} : sdL c fw (fun k => n - 1 - k) n = (sdL c fw (fun k => k) n).reverse := by
  rw [sdL_fm, sdL_fm, rg_rev, List.filterMap_reverse, show (fun k : Nat => k) = id from rfl, List.map_id]
/-- one of the first c -/
def inR (ix : Int32) (c : Nat) : Prop := ∃ j : Nat, j < c ∧ ix = nI j
theorem inR_neg {ix : Int32} {c : Nat} (hc : c < 2 ^ 31) (h : ix < 0) : ¬ inR ix c := fun ⟨j, hj, e⟩ => nI_pos (n := j) (by omega) (e ▸ h)
theorem inR_ge {ix : Int32} {c : Nat} (hc : c < 2 ^ 31) (h : nI c ≤ ix) : ¬ inR ix c := fun ⟨j, hj, e⟩ => by
  rw [e] at h
  have := (nI_leI hc (by omega)).mp h
  omega
theorem nI_inj {a b : Nat} (ha : a < 2 ^ 31) (hb : b < 2 ^ 31) (h : nI a = nI b) : a = b := (nI_eq ha hb).mp h
theorem i_nlt {a b : Int32} (h : a ≤ b) : ¬ b < a := by
  rw [fa_le] at h
  rw [fa_lt]
  omega
theorem i_lt {a b : Int32} (h : ¬ a ≤ b) : b < a := by
  rw [fa_le] at h
  rw [fa_lt]
  omega
theorem gdX4_has_0 : decode cX4_has 0 = .ok (.iload_n 2, 1) ∧ decode cX4_has 1 = .ok (.ifCond .lt 17, 3) ∧ decode cX4_has 18 = .ok (.iconst 0, 1) ∧ decode cX4_has 19 = .ok (.ireturn, 1) ∧ decode cX4_has 4 = .ok (.iload_n 2, 1) ∧ decode cX4_has 5 = .ok (.aload_n 0, 1) ∧ decode cX4_has 6 = .ok (.getfield 9, 3) := by decide +kernel
theorem dX4_has_0 : decode cX4_has 0 = .ok (.iload_n 2, 1) := gdX4_has_0.1
theorem dX4_has_1 : decode cX4_has 1 = .ok (.ifCond .lt 17, 3) := gdX4_has_0.2.1
theorem dX4_has_18 : decode cX4_has 18 = .ok (.iconst 0, 1) := gdX4_has_0.2.2.1
theorem dX4_has_19 : decode cX4_has 19 = .ok (.ireturn, 1) := gdX4_has_0.2.2.2.1
theorem dX4_has_4 : decode cX4_has 4 = .ok (.iload_n 2, 1) := gdX4_has_0.2.2.2.2.1
theorem dX4_has_5 : decode cX4_has 5 = .ok (.aload_n 0, 1) := gdX4_has_0.2.2.2.2.2.1
theorem dX4_has_6 : decode cX4_has 6 = .ok (.getfield 9, 3) := gdX4_has_0.2.2.2.2.2.2
set_option maxRecDepth 20000 in
theorem i_X4 : ∀ w ∈ u_ws RX4 TX4 16, w ∈ gT := gin [384, 386, 388, 390, 392, 394, 396, 398, 400, 402, 404, 406, 408, 410, 412, 414] (by decide +kernel) (by decide +kernel)
theorem gdX4_has_9 : decode cX4_has 9 = .ok (.iload_n 1, 1) ∧ decode cX4_has 10 = .ok (.iaload, 1) ∧ decode cX4_has 11 = .ok (.if_icmp .ge 7, 3) ∧ decode cX4_has 14 = .ok (.iconst 1, 1) ∧ decode cX4_has 15 = .ok (.goto 4, 3) := by decide +kernel
theorem dX4_has_9 : decode cX4_has 9 = .ok (.iload_n 1, 1) := gdX4_has_9.1
theorem dX4_has_10 : decode cX4_has 10 = .ok (.iaload, 1) := gdX4_has_9.2.1
theorem dX4_has_11 : decode cX4_has 11 = .ok (.if_icmp .ge 7, 3) := gdX4_has_9.2.2.1
theorem dX4_has_14 : decode cX4_has 14 = .ok (.iconst 1, 1) := gdX4_has_9.2.2.2.1
theorem dX4_has_15 : decode cX4_has 15 = .ok (.goto 4, 3) := gdX4_has_9.2.2.2.2
set_option maxHeartbeats 1000000 in
set_option maxRecDepth 100000 in
theorem s_has0 (l : Launch) (D : va_G) (cy : Nat → ClassId) (h0 : Nat) (h1 : Nat) (h2 : Nat) (h3 : Nat) (h4 : Nat) (h5 : Nat) (h6 : Nat) (h7 : Nat) (h8 : Nat) (h9 : Nat) (h10 : Nat) (h11 : Nat) (hv0 : Value) (hv1 : Value) (hv2 : Value) (hv3 : Value) (hv4 : Value) (fc : Nat → Int32) (c0 : Nat) (c1 : Nat) (c2 : Nat) (c3 : Nat) (ix : Int32) (hcn : cntOK fc c0 c1 c2 c3) (hc0 : c0 ≤ 8) (hc1 : c1 ≤ 4) (hc2 : c2 ≤ 4) (hc3 : c3 ≤ 6) : XMi l D (tyL cy) E0 yX4_has cX4_has 3 (some .boolean) (rmk 0 0 0) [.ref h0, .int 0, .int ix] [wO h0 4 [.ref h1, .ref h2, .ref h3, .ref h4, .ref h5, .ref h6, .ref h7, .ref h8, .ref h9, .ref h10, .ref h11, hv0, hv1, hv2, hv3, hv4], wI (cy 1) h1 4 (fc)] (fun (r : Int32) (_ : Unit) => (r = 0 ∨ (r = 1 ∧ ∃ j : Nat, j < c0 ∧ ix = nI j)) ∧ (r = 0 → ¬ inR ix c0)) (fun (_ : Unit) => [wO h0 4 [.ref h1, .ref h2, .ref h3, .ref h4, .ref h5, .ref h6, .ref h7, .ref h8, .ref h9, .ref h10, .ref h11, hv0, hv1, hv2, hv3, hv4], wI (cy 1) h1 4 (fc)]) := by
  refine XMi.start (by decide) (Nat.le_of_ble_eq_true rfl) ?_
  intro p e s m below meth c args A ls Q hat hQ
  obtain ⟨hx, hb, hr, hml, hown, hg, hlocks, hin, hK, hA, hP, hD, hS, hE, hl⟩ := hat
  have hown : s.vm.findClass RX4 = some m.cls := hown
  have hl : lv_has ls 3 [(0, .ref h0), (1, .int 0), (2, .int ix)] := hl
  refine lv_iload_n hx hb dX4_has_0 rfl (lv_at hl 2 rfl) ?_
  refine lv_if_lt (tgt := 18) hx hb dX4_has_1 (by decide) (fun c_1 => ?_) (fun c_1 => ?_)
  · refine lv_iconst (v := 0) hx hb dX4_has_18 (by decide) ?_
    exact x_zret hQ hx hb hr hlocks hK hP hD hS rfl dX4_has_19 () (⟨Or.inl rfl, fun _ => inR_neg (by omega) c_1⟩) [0, 1] (by decide +kernel) rfl (Nat.le_of_ble_eq_true rfl) (Nat.le_of_ble_eq_true rfl)
  · refine lv_iload_n hx hb dX4_has_4 rfl (lv_at hl 2 rfl) ?_
    refine lv_aload_n hx hb dX4_has_5 rfl (lv_at hl 0 rfl) ?_
    refine va_get (D := D) (ci := 4) (v := .ref h1) (C := RX4) (T := TX4) (N := 16) hx hb hg i_X4 hown hK hP 0 rfl rfl 0 (by decide) (hg _ m_329) (fun _ h9 => h9) rfl dX4_has_6 ?_
    refine lv_iload_n hx hb dX4_has_9 rfl (lv_at hl 1 rfl) ?_
    refine va_iald hx hb hK hP 1 1 rfl rfl (by unfold vp_in; decide) dX4_has_10 ?_
    refine lv_topi (fun y_1 hy_1 => ?_)
    obtain rfl : y_1 = nI c0 := hy_1.trans hcn.1
    refine lv_icmp_ge (tgt := 18) hx hb dX4_has_11 (by decide) (fun c_11 => ?_) (fun c_11 => ?_)
    · refine lv_iconst (v := 0) hx hb dX4_has_18 (by decide) ?_
      exact x_zret hQ hx hb hr hlocks hK hP hD hS rfl dX4_has_19 () (⟨Or.inl rfl, fun _ => inR_ge (by omega) c_11⟩) [0, 1] (by decide +kernel) rfl (Nat.le_of_ble_eq_true rfl) (Nat.le_of_ble_eq_true rfl)
    · refine lv_iconst (v := 1) hx hb dX4_has_14 (by decide) ?_
      refine lv_goto (tgt := 19) hx hb dX4_has_15 (by decide) ?_
      exact x_zret hQ hx hb hr hlocks hK hP hD hS rfl dX4_has_19 () (⟨Or.inr ⟨rfl, has_in (by omega) c_1 c_11⟩, fun h9 => absurd h9 (by decide)⟩) [0, 1] (by decide +kernel) rfl (Nat.le_of_ble_eq_true rfl) (Nat.le_of_ble_eq_true rfl)
set_option maxHeartbeats 1000000 in
set_option maxRecDepth 100000 in
theorem s_has1 (l : Launch) (D : va_G) (cy : Nat → ClassId) (h0 : Nat) (h1 : Nat) (h2 : Nat) (h3 : Nat) (h4 : Nat) (h5 : Nat) (h6 : Nat) (h7 : Nat) (h8 : Nat) (h9 : Nat) (h10 : Nat) (h11 : Nat) (hv0 : Value) (hv1 : Value) (hv2 : Value) (hv3 : Value) (hv4 : Value) (fc : Nat → Int32) (c0 : Nat) (c1 : Nat) (c2 : Nat) (c3 : Nat) (ix : Int32) (hcn : cntOK fc c0 c1 c2 c3) (hc0 : c0 ≤ 8) (hc1 : c1 ≤ 4) (hc2 : c2 ≤ 4) (hc3 : c3 ≤ 6) : XMi l D (tyL cy) E0 yX4_has cX4_has 3 (some .boolean) (rmk 0 0 0) [.ref h0, .int 1, .int ix] [wO h0 4 [.ref h1, .ref h2, .ref h3, .ref h4, .ref h5, .ref h6, .ref h7, .ref h8, .ref h9, .ref h10, .ref h11, hv0, hv1, hv2, hv3, hv4], wI (cy 1) h1 4 (fc)] (fun (r : Int32) (_ : Unit) => (r = 0 ∨ (r = 1 ∧ ∃ j : Nat, j < c1 ∧ ix = nI j)) ∧ (r = 0 → ¬ inR ix c1)) (fun (_ : Unit) => [wO h0 4 [.ref h1, .ref h2, .ref h3, .ref h4, .ref h5, .ref h6, .ref h7, .ref h8, .ref h9, .ref h10, .ref h11, hv0, hv1, hv2, hv3, hv4], wI (cy 1) h1 4 (fc)]) := by
  refine XMi.start (by decide) (Nat.le_of_ble_eq_true rfl) ?_
  intro p e s m below meth c args A ls Q hat hQ
  obtain ⟨hx, hb, hr, hml, hown, hg, hlocks, hin, hK, hA, hP, hD, hS, hE, hl⟩ := hat
  have hown : s.vm.findClass RX4 = some m.cls := hown
  have hl : lv_has ls 3 [(0, .ref h0), (1, .int 1), (2, .int ix)] := hl
  refine lv_iload_n hx hb dX4_has_0 rfl (lv_at hl 2 rfl) ?_
  refine lv_if_lt (tgt := 18) hx hb dX4_has_1 (by decide) (fun c_1 => ?_) (fun c_1 => ?_)
  · refine lv_iconst (v := 0) hx hb dX4_has_18 (by decide) ?_
    exact x_zret hQ hx hb hr hlocks hK hP hD hS rfl dX4_has_19 () (⟨Or.inl rfl, fun _ => inR_neg (by omega) c_1⟩) [0, 1] (by decide +kernel) rfl (Nat.le_of_ble_eq_true rfl) (Nat.le_of_ble_eq_true rfl)
  · refine lv_iload_n hx hb dX4_has_4 rfl (lv_at hl 2 rfl) ?_
    refine lv_aload_n hx hb dX4_has_5 rfl (lv_at hl 0 rfl) ?_
    refine va_get (D := D) (ci := 4) (v := .ref h1) (C := RX4) (T := TX4) (N := 16) hx hb hg i_X4 hown hK hP 0 rfl rfl 0 (by decide) (hg _ m_329) (fun _ h9 => h9) rfl dX4_has_6 ?_
    refine lv_iload_n hx hb dX4_has_9 rfl (lv_at hl 1 rfl) ?_
    refine va_iald hx hb hK hP 1 1 rfl rfl (by unfold vp_in; decide) dX4_has_10 ?_
    refine lv_topi (fun y_1 hy_1 => ?_)
    obtain rfl : y_1 = nI c1 := hy_1.trans hcn.2.1
    refine lv_icmp_ge (tgt := 18) hx hb dX4_has_11 (by decide) (fun c_11 => ?_) (fun c_11 => ?_)
    · refine lv_iconst (v := 0) hx hb dX4_has_18 (by decide) ?_
      exact x_zret hQ hx hb hr hlocks hK hP hD hS rfl dX4_has_19 () (⟨Or.inl rfl, fun _ => inR_ge (by omega) c_11⟩) [0, 1] (by decide +kernel) rfl (Nat.le_of_ble_eq_true rfl) (Nat.le_of_ble_eq_true rfl)
    · refine lv_iconst (v := 1) hx hb dX4_has_14 (by decide) ?_
      refine lv_goto (tgt := 19) hx hb dX4_has_15 (by decide) ?_
      exact x_zret hQ hx hb hr hlocks hK hP hD hS rfl dX4_has_19 () (⟨Or.inr ⟨rfl, has_in (by omega) c_1 c_11⟩, fun h9 => absurd h9 (by decide)⟩) [0, 1] (by decide +kernel) rfl (Nat.le_of_ble_eq_true rfl) (Nat.le_of_ble_eq_true rfl)
set_option maxHeartbeats 1000000 in
set_option maxRecDepth 100000 in
theorem s_has2 (l : Launch) (D : va_G) (cy : Nat → ClassId) (h0 : Nat) (h1 : Nat) (h2 : Nat) (h3 : Nat) (h4 : Nat) (h5 : Nat) (h6 : Nat) (h7 : Nat) (h8 : Nat) (h9 : Nat) (h10 : Nat) (h11 : Nat) (hv0 : Value) (hv1 : Value) (hv2 : Value) (hv3 : Value) (hv4 : Value) (fc : Nat → Int32) (c0 : Nat) (c1 : Nat) (c2 : Nat) (c3 : Nat) (ix : Int32) (hcn : cntOK fc c0 c1 c2 c3) (hc0 : c0 ≤ 8) (hc1 : c1 ≤ 4) (hc2 : c2 ≤ 4) (hc3 : c3 ≤ 6) : XMi l D (tyL cy) E0 yX4_has cX4_has 3 (some .boolean) (rmk 0 0 0) [.ref h0, .int 2, .int ix] [wO h0 4 [.ref h1, .ref h2, .ref h3, .ref h4, .ref h5, .ref h6, .ref h7, .ref h8, .ref h9, .ref h10, .ref h11, hv0, hv1, hv2, hv3, hv4], wI (cy 1) h1 4 (fc)] (fun (r : Int32) (_ : Unit) => (r = 0 ∨ (r = 1 ∧ ∃ j : Nat, j < c2 ∧ ix = nI j)) ∧ (r = 0 → ¬ inR ix c2)) (fun (_ : Unit) => [wO h0 4 [.ref h1, .ref h2, .ref h3, .ref h4, .ref h5, .ref h6, .ref h7, .ref h8, .ref h9, .ref h10, .ref h11, hv0, hv1, hv2, hv3, hv4], wI (cy 1) h1 4 (fc)]) := by
  refine XMi.start (by decide) (Nat.le_of_ble_eq_true rfl) ?_
  intro p e s m below meth c args A ls Q hat hQ
  obtain ⟨hx, hb, hr, hml, hown, hg, hlocks, hin, hK, hA, hP, hD, hS, hE, hl⟩ := hat
  have hown : s.vm.findClass RX4 = some m.cls := hown
  have hl : lv_has ls 3 [(0, .ref h0), (1, .int 2), (2, .int ix)] := hl
  refine lv_iload_n hx hb dX4_has_0 rfl (lv_at hl 2 rfl) ?_
  refine lv_if_lt (tgt := 18) hx hb dX4_has_1 (by decide) (fun c_1 => ?_) (fun c_1 => ?_)
  · refine lv_iconst (v := 0) hx hb dX4_has_18 (by decide) ?_
    exact x_zret hQ hx hb hr hlocks hK hP hD hS rfl dX4_has_19 () (⟨Or.inl rfl, fun _ => inR_neg (by omega) c_1⟩) [0, 1] (by decide +kernel) rfl (Nat.le_of_ble_eq_true rfl) (Nat.le_of_ble_eq_true rfl)
  · refine lv_iload_n hx hb dX4_has_4 rfl (lv_at hl 2 rfl) ?_
    refine lv_aload_n hx hb dX4_has_5 rfl (lv_at hl 0 rfl) ?_
    refine va_get (D := D) (ci := 4) (v := .ref h1) (C := RX4) (T := TX4) (N := 16) hx hb hg i_X4 hown hK hP 0 rfl rfl 0 (by decide) (hg _ m_329) (fun _ h9 => h9) rfl dX4_has_6 ?_
    refine lv_iload_n hx hb dX4_has_9 rfl (lv_at hl 1 rfl) ?_
    refine va_iald hx hb hK hP 1 1 rfl rfl (by unfold vp_in; decide) dX4_has_10 ?_
    refine lv_topi (fun y_1 hy_1 => ?_)
    obtain rfl : y_1 = nI c2 := hy_1.trans hcn.2.2.1
    refine lv_icmp_ge (tgt := 18) hx hb dX4_has_11 (by decide) (fun c_11 => ?_) (fun c_11 => ?_)
    · refine lv_iconst (v := 0) hx hb dX4_has_18 (by decide) ?_
      exact x_zret hQ hx hb hr hlocks hK hP hD hS rfl dX4_has_19 () (⟨Or.inl rfl, fun _ => inR_ge (by omega) c_11⟩) [0, 1] (by decide +kernel) rfl (Nat.le_of_ble_eq_true rfl) (Nat.le_of_ble_eq_true rfl)
    · refine lv_iconst (v := 1) hx hb dX4_has_14 (by decide) ?_
      refine lv_goto (tgt := 19) hx hb dX4_has_15 (by decide) ?_
      exact x_zret hQ hx hb hr hlocks hK hP hD hS rfl dX4_has_19 () (⟨Or.inr ⟨rfl, has_in (by omega) c_1 c_11⟩, fun h9 => absurd h9 (by decide)⟩) [0, 1] (by decide +kernel) rfl (Nat.le_of_ble_eq_true rfl) (Nat.le_of_ble_eq_true rfl)
set_option maxHeartbeats 1000000 in
set_option maxRecDepth 100000 in
theorem s_has3 (l : Launch) (D : va_G) (cy : Nat → ClassId) (h0 : Nat) (h1 : Nat) (h2 : Nat) (h3 : Nat) (h4 : Nat) (h5 : Nat) (h6 : Nat) (h7 : Nat) (h8 : Nat) (h9 : Nat) (h10 : Nat) (h11 : Nat) (hv0 : Value) (hv1 : Value) (hv2 : Value) (hv3 : Value) (hv4 : Value) (fc : Nat → Int32) (c0 : Nat) (c1 : Nat) (c2 : Nat) (c3 : Nat) (ix : Int32) (hcn : cntOK fc c0 c1 c2 c3) (hc0 : c0 ≤ 8) (hc1 : c1 ≤ 4) (hc2 : c2 ≤ 4) (hc3 : c3 ≤ 6) : XMi l D (tyL cy) E0 yX4_has cX4_has 3 (some .boolean) (rmk 0 0 0) [.ref h0, .int 3, .int ix] [wO h0 4 [.ref h1, .ref h2, .ref h3, .ref h4, .ref h5, .ref h6, .ref h7, .ref h8, .ref h9, .ref h10, .ref h11, hv0, hv1, hv2, hv3, hv4], wI (cy 1) h1 4 (fc)] (fun (r : Int32) (_ : Unit) => (r = 0 ∨ (r = 1 ∧ ∃ j : Nat, j < c3 ∧ ix = nI j)) ∧ (r = 0 → ¬ inR ix c3)) (fun (_ : Unit) => [wO h0 4 [.ref h1, .ref h2, .ref h3, .ref h4, .ref h5, .ref h6, .ref h7, .ref h8, .ref h9, .ref h10, .ref h11, hv0, hv1, hv2, hv3, hv4], wI (cy 1) h1 4 (fc)]) := by
  refine XMi.start (by decide) (Nat.le_of_ble_eq_true rfl) ?_
  intro p e s m below meth c args A ls Q hat hQ
  obtain ⟨hx, hb, hr, hml, hown, hg, hlocks, hin, hK, hA, hP, hD, hS, hE, hl⟩ := hat
  have hown : s.vm.findClass RX4 = some m.cls := hown
  have hl : lv_has ls 3 [(0, .ref h0), (1, .int 3), (2, .int ix)] := hl
  refine lv_iload_n hx hb dX4_has_0 rfl (lv_at hl 2 rfl) ?_
  refine lv_if_lt (tgt := 18) hx hb dX4_has_1 (by decide) (fun c_1 => ?_) (fun c_1 => ?_)
  · refine lv_iconst (v := 0) hx hb dX4_has_18 (by decide) ?_
    exact x_zret hQ hx hb hr hlocks hK hP hD hS rfl dX4_has_19 () (⟨Or.inl rfl, fun _ => inR_neg (by omega) c_1⟩) [0, 1] (by decide +kernel) rfl (Nat.le_of_ble_eq_true rfl) (Nat.le_of_ble_eq_true rfl)
  · refine lv_iload_n hx hb dX4_has_4 rfl (lv_at hl 2 rfl) ?_
    refine lv_aload_n hx hb dX4_has_5 rfl (lv_at hl 0 rfl) ?_
    refine va_get (D := D) (ci := 4) (v := .ref h1) (C := RX4) (T := TX4) (N := 16) hx hb hg i_X4 hown hK hP 0 rfl rfl 0 (by decide) (hg _ m_329) (fun _ h9 => h9) rfl dX4_has_6 ?_
    refine lv_iload_n hx hb dX4_has_9 rfl (lv_at hl 1 rfl) ?_
    refine va_iald hx hb hK hP 1 1 rfl rfl (by unfold vp_in; decide) dX4_has_10 ?_
    refine lv_topi (fun y_1 hy_1 => ?_)
    obtain rfl : y_1 = nI c3 := hy_1.trans hcn.2.2.2
    refine lv_icmp_ge (tgt := 18) hx hb dX4_has_11 (by decide) (fun c_11 => ?_) (fun c_11 => ?_)
    · refine lv_iconst (v := 0) hx hb dX4_has_18 (by decide) ?_
      exact x_zret hQ hx hb hr hlocks hK hP hD hS rfl dX4_has_19 () (⟨Or.inl rfl, fun _ => inR_ge (by omega) c_11⟩) [0, 1] (by decide +kernel) rfl (Nat.le_of_ble_eq_true rfl) (Nat.le_of_ble_eq_true rfl)
    · refine lv_iconst (v := 1) hx hb dX4_has_14 (by decide) ?_
      refine lv_goto (tgt := 19) hx hb dX4_has_15 (by decide) ?_
      exact x_zret hQ hx hb hr hlocks hK hP hD hS rfl dX4_has_19 () (⟨Or.inr ⟨rfl, has_in (by omega) c_1 c_11⟩, fun h9 => absurd h9 (by decide)⟩) [0, 1] (by decide +kernel) rfl (Nat.le_of_ble_eq_true rfl) (Nat.le_of_ble_eq_true rfl)
theorem gdX4_far_0 : decode cX4_far 0 = .ok (.iload_n 2, 1) ∧ decode cX4_far 1 = .ok (.aload_n 0, 1) ∧ decode cX4_far 2 = .ok (.getfield 18, 3) ∧ decode cX4_far 5 = .ok (.iload_n 1, 1) ∧ decode cX4_far 6 = .ok (.iaload, 1) ∧ decode cX4_far 7 = .ok (.isub, 1) ∧ decode cX4_far 8 = .ok (.invokestatic 72, 3) ∧ decode cX4_far 11 = .ok (.ireturn, 1) := by decide +kernel
theorem dX4_far_0 : decode cX4_far 0 = .ok (.iload_n 2, 1) := gdX4_far_0.1
theorem dX4_far_1 : decode cX4_far 1 = .ok (.aload_n 0, 1) := gdX4_far_0.2.1
theorem dX4_far_2 : decode cX4_far 2 = .ok (.getfield 18, 3) := gdX4_far_0.2.2.1
theorem dX4_far_5 : decode cX4_far 5 = .ok (.iload_n 1, 1) := gdX4_far_0.2.2.2.1
theorem dX4_far_6 : decode cX4_far 6 = .ok (.iaload, 1) := gdX4_far_0.2.2.2.2.1
theorem dX4_far_7 : decode cX4_far 7 = .ok (.isub, 1) := gdX4_far_0.2.2.2.2.2.1
theorem dX4_far_8 : decode cX4_far 8 = .ok (.invokestatic 72, 3) := gdX4_far_0.2.2.2.2.2.2.1
theorem dX4_far_11 : decode cX4_far 11 = .ok (.ireturn, 1) := gdX4_far_0.2.2.2.2.2.2.2
set_option maxHeartbeats 1000000 in
set_option maxRecDepth 100000 in
theorem s_far (l : Launch) (D : va_G) (cy : Nat → ClassId) (h0 : Nat) (h1 : Nat) (h2 : Nat) (h3 : Nat) (h4 : Nat) (h5 : Nat) (h6 : Nat) (h7 : Nat) (h8 : Nat) (h9 : Nat) (h10 : Nat) (h11 : Nat) (hv0 : Value) (hv1 : Value) (hv2 : Value) (hv3 : Value) (hv4 : Value) (fp : Nat → Int32) (j : Nat) (pl : Int32) (hj : j < 4) : XMi l D (tyL cy) E0 yX4_far cX4_far 3 (some .int) (rmk 1 0 0) [.ref h0, .int (nI j), .int pl] [wO h0 4 [.ref h1, .ref h2, .ref h3, .ref h4, .ref h5, .ref h6, .ref h7, .ref h8, .ref h9, .ref h10, .ref h11, hv0, hv1, hv2, hv3, hv4], wI (cy 1) h3 4 (fp)] (fun (r : Int32) (_ : Unit) => r = farC pl (fp j)) (fun (_ : Unit) => [wO h0 4 [.ref h1, .ref h2, .ref h3, .ref h4, .ref h5, .ref h6, .ref h7, .ref h8, .ref h9, .ref h10, .ref h11, hv0, hv1, hv2, hv3, hv4], wI (cy 1) h3 4 (fp)]) := by
  refine XMi.start (by decide) (Nat.le_of_ble_eq_true rfl) ?_
  intro p e s m below meth c args A ls Q hat hQ
  obtain ⟨hx, hb, hr, hml, hown, hg, hlocks, hin, hK, hA, hP, hD, hS, hE, hl⟩ := hat
  have hown : s.vm.findClass RX4 = some m.cls := hown
  have hl : lv_has ls 3 [(0, .ref h0), (1, .int (nI j)), (2, .int pl)] := hl
  refine lv_iload_n hx hb dX4_far_0 rfl (lv_at hl 2 rfl) ?_
  refine lv_aload_n hx hb dX4_far_1 rfl (lv_at hl 0 rfl) ?_
  refine va_get (D := D) (ci := 4) (v := .ref h3) (C := RX4) (T := TX4) (N := 16) hx hb hg i_X4 hown hK hP 0 rfl rfl 2 (by decide) (hg _ m_341) (fun _ h9 => h9) rfl dX4_far_2 ?_
  refine lv_iload_n hx hb dX4_far_5 rfl (lv_at hl 1 rfl) ?_
  refine va_iald hx hb hK hP 1 1 rfl rfl (vp_in_nI (by omega) (by decide)) dX4_far_6 ?_
  refine lv_topi (fun x_1 ex_1 => ?_)
  refine lv_isub hx hb dX4_far_7 ?_
  refine lv_topi (fun x_2 ex_2 => ?_)
  refine va_mabs hx hb (hml.trans hl.1.symm) hown (hg _ m_1026) (hg _ m_1027) (hg _ m_147) (hg _ m_1028) (by decide) (Nat.le_of_ble_eq_true rfl) (by decide) (by decide) dX4_far_8 ?_
  refine lv_topi (fun x_3 ex_3 => ?_)
  exact x_iret hQ hx hb hr hlocks hK hP hD hS dX4_far_11 () (far_mk (by omega) ex_1 ex_2 ex_3) [0, 1] (by decide +kernel) rfl (Nat.le_of_ble_eq_true rfl) (Nat.le_of_ble_eq_true rfl)
theorem gdX4_comes_0 : decode cX4_comes 0 = .ok (.aload_n 1, 1) ∧ decode cX4_comes 1 = .ok (.iconst 3, 1) ∧ decode cX4_comes 2 = .ok (.iaload, 1) ∧ decode cX4_comes 3 = .ok (.istore_n 2, 1) ∧ decode cX4_comes 4 = .ok (.aload_n 0, 1) ∧ decode cX4_comes 5 = .ok (.getfield 39, 3) ∧ decode cX4_comes 8 = .ok (.getfield 78, 3) ∧ decode cX4_comes 11 = .ok (.ifCond .eq 14, 3) ∧ decode cX4_comes 25 = .ok (.iconst 3, 1) ∧ decode cX4_comes 26 = .ok (.istore_n 3, 1) ∧ decode cX4_comes 27 = .ok (.iconst 0, 1) ∧ decode cX4_comes 28 = .ok (.iload_n 2, 1) := by decide +kernel
theorem dX4_comes_0 : decode cX4_comes 0 = .ok (.aload_n 1, 1) := gdX4_comes_0.1
theorem dX4_comes_1 : decode cX4_comes 1 = .ok (.iconst 3, 1) := gdX4_comes_0.2.1
theorem dX4_comes_2 : decode cX4_comes 2 = .ok (.iaload, 1) := gdX4_comes_0.2.2.1
theorem dX4_comes_3 : decode cX4_comes 3 = .ok (.istore_n 2, 1) := gdX4_comes_0.2.2.2.1
theorem dX4_comes_4 : decode cX4_comes 4 = .ok (.aload_n 0, 1) := gdX4_comes_0.2.2.2.2.1
theorem dX4_comes_5 : decode cX4_comes 5 = .ok (.getfield 39, 3) := gdX4_comes_0.2.2.2.2.2.1
theorem dX4_comes_8 : decode cX4_comes 8 = .ok (.getfield 78, 3) := gdX4_comes_0.2.2.2.2.2.2.1
theorem dX4_comes_11 : decode cX4_comes 11 = .ok (.ifCond .eq 14, 3) := gdX4_comes_0.2.2.2.2.2.2.2.1
theorem dX4_comes_25 : decode cX4_comes 25 = .ok (.iconst 3, 1) := gdX4_comes_0.2.2.2.2.2.2.2.2.1
theorem dX4_comes_26 : decode cX4_comes 26 = .ok (.istore_n 3, 1) := gdX4_comes_0.2.2.2.2.2.2.2.2.2.1
theorem dX4_comes_27 : decode cX4_comes 27 = .ok (.iconst 0, 1) := gdX4_comes_0.2.2.2.2.2.2.2.2.2.2.1
theorem dX4_comes_28 : decode cX4_comes 28 = .ok (.iload_n 2, 1) := gdX4_comes_0.2.2.2.2.2.2.2.2.2.2.2
theorem gdX4_comes_29 : decode cX4_comes 29 = .ok (.iload_n 3, 1) ∧ decode cX4_comes 30 = .ok (.invokestatic 86, 3) ∧ decode cX4_comes 33 = .ok (.invokestatic 90, 3) ∧ decode cX4_comes 36 = .ok (.ireturn, 1) ∧ decode cX4_comes 14 = .ok (.aload_n 0, 1) ∧ decode cX4_comes 15 = .ok (.getfield 39, 3) ∧ decode cX4_comes 18 = .ok (.aload_n 1, 1) ∧ decode cX4_comes 19 = .ok (.invokevirtual 82, 3) := by decide +kernel
theorem dX4_comes_29 : decode cX4_comes 29 = .ok (.iload_n 3, 1) := gdX4_comes_29.1
theorem dX4_comes_30 : decode cX4_comes 30 = .ok (.invokestatic 86, 3) := gdX4_comes_29.2.1
theorem dX4_comes_33 : decode cX4_comes 33 = .ok (.invokestatic 90, 3) := gdX4_comes_29.2.2.1
theorem dX4_comes_36 : decode cX4_comes 36 = .ok (.ireturn, 1) := gdX4_comes_29.2.2.2.1
theorem dX4_comes_14 : decode cX4_comes 14 = .ok (.aload_n 0, 1) := gdX4_comes_29.2.2.2.2.1
theorem dX4_comes_15 : decode cX4_comes 15 = .ok (.getfield 39, 3) := gdX4_comes_29.2.2.2.2.2.1
theorem dX4_comes_18 : decode cX4_comes 18 = .ok (.aload_n 1, 1) := gdX4_comes_29.2.2.2.2.2.2.1
theorem dX4_comes_19 : decode cX4_comes 19 = .ok (.invokevirtual 82, 3) := gdX4_comes_29.2.2.2.2.2.2.2
theorem k_X4_82 : xV RX4 RX3 82 yX3_value cX3_value 6 (some .int) 1 := ⟨⟨m_1046, m_1047, m_1048, m_138, m_1049⟩, rfl, by decide, by decide, by decide +kernel⟩
theorem dX4_comes_22 : decode cX4_comes 22 = .ok (.goto 4, 3) := by decide +kernel
set_option maxHeartbeats 1000000 in
set_option maxRecDepth 100000 in
theorem s_comes (l : Launch) (D : va_G) (cy : Nat → ClassId) (h0 : Nat) (h1 : Nat) (h2 : Nat) (h3 : Nat) (h4 : Nat) (h5 : Nat) (h6 : Nat) (h7 : Nat) (h8 : Nat) (h9 : Nat) (h10 : Nat) (h11 : Nat) (hv0 : Value) (hv1 : Value) (hv2 : Value) (hv3 : Value) (hv4 : Value) (h9a : Nat) (h9b : Nat) (nb : Nat) (tb : Int32) (fcb : Nat → Int32) (fsb : Nat → Int32) (fa0 : Nat) (ff : Nat → Int32) (n : Nat) (hnb : nb ≤ 280) (hcb : cOK fcb nb) (hwb : fmW tb fcb nb) (hff : ff 3 = nI n) (hn : n ≤ 10) : XMi l D (tyL cy) E0 yX4_comes cX4_comes 4 (some .int) (rmk 2 0 0) [.ref h0, .ref fa0] [wO h0 4 [.ref h1, .ref h2, .ref h3, .ref h4, .ref h5, .ref h6, .ref h7, .ref h8, .ref h9, .ref h10, .ref h11, hv0, hv1, hv2, hv3, hv4], wO h9 3 [.ref h9a, .ref h9b, .int (nI nb), .int tb], wI (cy 1) h9a 280 (fcb), wI (cy 1) h9b 31 (fsb), wI (cy 1) fa0 7 (ff)] (fun (r : Int32) (u : (Nat → Int32) × Nat) => (r = nI u.2) ∧ (u.2 ≤ n) ∧ (u.2 = clN (vlC tb fcb nb 3 ff) n)) (fun (u : (Nat → Int32) × Nat) => [wO h0 4 [.ref h1, .ref h2, .ref h3, .ref h4, .ref h5, .ref h6, .ref h7, .ref h8, .ref h9, .ref h10, .ref h11, hv0, hv1, hv2, hv3, hv4], wO h9 3 [.ref h9a, .ref h9b, .int (nI nb), .int tb], wI (cy 1) h9a 280 (fcb), wI (cy 1) h9b 31 (u.1), wI (cy 1) fa0 7 (ff)]) := by
  refine XMi.start (by decide) (Nat.le_of_ble_eq_true rfl) ?_
  intro p e s m below meth c args A ls Q hat hQ
  obtain ⟨hx, hb, hr, hml, hown, hg, hlocks, hin, hK, hA, hP, hD, hS, hE, hl⟩ := hat
  have hown : s.vm.findClass RX4 = some m.cls := hown
  have hl : lv_has ls 4 [(0, .ref h0), (1, .ref fa0)] := hl
  refine lv_aload_n hx hb dX4_comes_0 rfl (lv_at hl 1 rfl) ?_
  refine lv_iconst (v := 3) hx hb dX4_comes_1 (by decide) ?_
  refine va_iald hx hb hK hP 4 1 rfl rfl (by unfold vp_in; decide) dX4_comes_2 ?_
  refine lv_topi (fun x_1 ex_1 => ?_)
  obtain rfl : x_1 = nI n := ex_1.trans hff
  refine lv_istore_n (lv' := [(2, .int (nI n)), (0, .ref h0), (1, .ref fa0)]) hx hb dX4_comes_3 rfl hl (by decide) rfl (fun ls hl => ?_)
  refine lv_aload_n hx hb dX4_comes_4 rfl (lv_at hl 1 rfl) ?_
  refine va_get (D := D) (ci := 4) (v := .ref h9) (C := RX4) (T := TX4) (N := 16) hx hb hg i_X4 hown hK hP 0 rfl rfl 8 (by decide) (hg _ m_360) (fun _ h9 => h9) rfl dX4_comes_5 ?_
  refine va_get (D := D) (ci := 3) (v := .int tb) (C := RX3) (T := TX3) (N := 4) hx hb hg i_X3 hown hK hP 1 rfl rfl 3 (by decide) (hg _ m_305) (fun _ h9 => h9) rfl dX4_comes_8 ?_
  refine lv_if_eq (tgt := 25) hx hb dX4_comes_11 (by decide) (fun c_11 => ?_) (fun c_11 => ?_)
  · refine lv_iconst (v := 3) hx hb dX4_comes_25 (by decide) ?_
    refine lv_istore_n (lv' := [(3, .int 3), (2, .int (nI n)), (0, .ref h0), (1, .ref fa0)]) hx hb dX4_comes_26 rfl hl (by decide) rfl (fun ls hl => ?_)
    refine lv_iconst (v := 0) hx hb dX4_comes_27 (by decide) ?_
    refine lv_iload_n hx hb dX4_comes_28 rfl (lv_at hl 1 rfl) ?_
    refine lv_iload_n hx hb dX4_comes_29 rfl (lv_at hl 0 rfl) ?_
    refine va_mmin hx hb (hml.trans hl.1.symm) hown (hg _ m_1053) (hg _ m_770) (hg _ m_147) (hg _ m_771) (by decide) (Nat.le_of_ble_eq_true rfl) (by decide) (by decide) dX4_comes_30 ?_
    refine lv_topi (fun x_2 ex_2 => ?_)
    refine va_mmax hx hb (hml.trans hl.1.symm) hown (hg _ m_1054) (hg _ m_767) (hg _ m_147) (hg _ m_768) (by decide) (Nat.le_of_ble_eq_true rfl) (by decide) (by decide) dX4_comes_33 ?_
    refine lv_topi (fun x_3 ex_3 => ?_)
    have hkk : clN 3 n ≤ n := clN_le (by omega)
    obtain rfl : x_3 = nI (clN 3 n) := by rw [ex_3, ex_2]; exact clN_C 3 (by omega)
    exact x_iret hQ hx hb hr hlocks hK hP hD hS dX4_comes_36 (fsb, (clN 3 n)) (⟨rfl, (show ((clN 3 n)) ≤ n from by omega), (show ((clN 3 n)) = clN (vlC tb fcb nb 3 ff) n from congrArg (fun z9 => clN z9 n) (vlC_0 c_11))⟩) [0, 1, 2, 3, 4] (by decide +kernel) rfl (Nat.le_of_ble_eq_true rfl) (Nat.le_of_ble_eq_true rfl)
  · refine lv_aload_n hx hb dX4_comes_14 rfl (lv_at hl 1 rfl) ?_
    refine va_get (D := D) (ci := 4) (v := .ref h9) (C := RX4) (T := TX4) (N := 16) hx hb hg i_X4 hown hK hP 0 rfl rfl 8 (by decide) (hg _ m_360) (fun _ h9 => h9) rfl dX4_comes_15 ?_
    refine lv_aload_n hx hb dX4_comes_18 rfl (lv_at hl 2 rfl) ?_
    refine x_callVi (q := (RX3, TX3, 4)) (ci := 3) (q0 := 0) (wr := [wO h0 4 [.ref h1, .ref h2, .ref h3, .ref h4, .ref h5, .ref h6, .ref h7, .ref h8, .ref h9, .ref h10, .ref h11, hv0, hv1, hv2, hv3, hv4]]) (rest := []) ⟨hx, hb, hml, hown, hg, hl.1⟩ k_X4_82 (s_value l D cy h9 h9a h9b nb ((.int tb)) fcb fsb fa0 ff (by omega) (hcb) (hwb c_11)) E0_blind hK hP hD hS hA [1, 2, 3, 4] [0] ⟨rfl, rfl, by decide +kernel, by decide +kernel, by decide +kernel⟩ rfl rfl (fun _ _ _ => trivial) dX4_comes_19 rfl rfl (Nat.le_of_ble_eq_true rfl) ⟨Nat.le_of_ble_eq_true rfl, Nat.le_of_ble_eq_true rfl⟩ ⟨Nat.le_of_ble_eq_true rfl, Nat.le_of_ble_eq_true rfl⟩ (fun zr4 zu4 H locs hw4 hP9 hD9 hS9 => ?_)
    clear hP hD hS
    obtain ⟨fs2_5, rfl⟩ : ∃ z, z = zu4 := ⟨_, rfl⟩
    refine reW [wO h0 4 [.ref h1, .ref h2, .ref h3, .ref h4, .ref h5, .ref h6, .ref h7, .ref h8, .ref h9, .ref h10, .ref h11, hv0, hv1, hv2, hv3, hv4], wO h9 3 [.ref h9a, .ref h9b, .int (nI nb), .int tb], wI (cy 1) h9a 280 (fcb), wI (cy 1) h9b 31 (fs2_5), wI (cy 1) fa0 7 (ff)] hP9 hD9 hS9 (fun hP hD hS => ?_)
    clear hP9 hD9 hS9
    refine W.widen (k := 0) (n := 0) (Nat.le_of_ble_eq_true rfl) (Nat.le_of_ble_eq_true rfl) ?_
    replace hw4 : (zr4 = (evA ff fcb nb 0 []).headD 0) := hw4
    have f_6 := hw4
    refine lv_goto (tgt := 26) hx hb dX4_comes_22 (by decide) ?_
    refine lv_istore_n (lv' := [(3, .int zr4), (2, .int (nI n)), (0, .ref h0), (1, .ref fa0)]) hx hb dX4_comes_26 rfl hl (by decide) rfl (fun ls hl => ?_)
    refine lv_iconst (v := 0) hx hb dX4_comes_27 (by decide) ?_
    refine lv_iload_n hx hb dX4_comes_28 rfl (lv_at hl 1 rfl) ?_
    refine lv_iload_n hx hb dX4_comes_29 rfl (lv_at hl 0 rfl) ?_
    refine va_mmin hx hb (hml.trans hl.1.symm) hown (hg _ m_1053) (hg _ m_770) (hg _ m_147) (hg _ m_771) (by decide) (Nat.le_of_ble_eq_true rfl) (by decide) (by decide) dX4_comes_30 ?_
    refine lv_topi (fun x_7 ex_7 => ?_)
    refine va_mmax hx hb (hml.trans hl.1.symm) hown (hg _ m_1054) (hg _ m_767) (hg _ m_147) (hg _ m_768) (by decide) (Nat.le_of_ble_eq_true rfl) (by decide) (by decide) dX4_comes_33 ?_
    refine lv_topi (fun x_8 ex_8 => ?_)
    have hkk : clN zr4 n ≤ n := clN_le (by omega)
    obtain rfl : x_8 = nI (clN zr4 n) := by rw [ex_8, ex_7]; exact clN_C zr4 (by omega)
    exact x_iret hQ hx hb hr hlocks hK hP hD hS dX4_comes_36 (fs2_5, (clN zr4 n)) (⟨rfl, (show ((clN zr4 n)) ≤ n from by omega), (show ((clN zr4 n)) = clN (vlC tb fcb nb 3 ff) n from congrArg (fun z9 => clN z9 n) (vlC_1 c_11 f_6))⟩) [0, 1, 2, 3, 4] (by decide +kernel) rfl (Nat.le_of_ble_eq_true rfl) (Nat.le_of_ble_eq_true rfl)
theorem gdX4_isYesState_0 : decode cX4_isYesState 0 = .ok (.aload_n 0, 1) ∧ decode cX4_isYesState 1 = .ok (.getfield 56, 3) ∧ decode cX4_isYesState 4 = .ok (.iload_n 1, 1) ∧ decode cX4_isYesState 5 = .ok (.ishr, 1) ∧ decode cX4_isYesState 6 = .ok (.iconst 1, 1) ∧ decode cX4_isYesState 7 = .ok (.iand, 1) ∧ decode cX4_isYesState 8 = .ok (.ifCond .eq 7, 3) ∧ decode cX4_isYesState 15 = .ok (.iconst 0, 1) ∧ decode cX4_isYesState 16 = .ok (.ireturn, 1) ∧ decode cX4_isYesState 11 = .ok (.iconst 1, 1) ∧ decode cX4_isYesState 12 = .ok (.goto 4, 3) := by decide +kernel
theorem dX4_isYesState_0 : decode cX4_isYesState 0 = .ok (.aload_n 0, 1) := gdX4_isYesState_0.1
theorem dX4_isYesState_1 : decode cX4_isYesState 1 = .ok (.getfield 56, 3) := gdX4_isYesState_0.2.1
theorem dX4_isYesState_4 : decode cX4_isYesState 4 = .ok (.iload_n 1, 1) := gdX4_isYesState_0.2.2.1
theorem dX4_isYesState_5 : decode cX4_isYesState 5 = .ok (.ishr, 1) := gdX4_isYesState_0.2.2.2.1
theorem dX4_isYesState_6 : decode cX4_isYesState 6 = .ok (.iconst 1, 1) := gdX4_isYesState_0.2.2.2.2.1
theorem dX4_isYesState_7 : decode cX4_isYesState 7 = .ok (.iand, 1) := gdX4_isYesState_0.2.2.2.2.2.1
theorem dX4_isYesState_8 : decode cX4_isYesState 8 = .ok (.ifCond .eq 7, 3) := gdX4_isYesState_0.2.2.2.2.2.2.1
theorem dX4_isYesState_15 : decode cX4_isYesState 15 = .ok (.iconst 0, 1) := gdX4_isYesState_0.2.2.2.2.2.2.2.1
theorem dX4_isYesState_16 : decode cX4_isYesState 16 = .ok (.ireturn, 1) := gdX4_isYesState_0.2.2.2.2.2.2.2.2.1
theorem dX4_isYesState_11 : decode cX4_isYesState 11 = .ok (.iconst 1, 1) := gdX4_isYesState_0.2.2.2.2.2.2.2.2.2.1
theorem dX4_isYesState_12 : decode cX4_isYesState 12 = .ok (.goto 4, 3) := gdX4_isYesState_0.2.2.2.2.2.2.2.2.2.2
set_option maxHeartbeats 1000000 in
set_option maxRecDepth 100000 in
theorem s_isYesState (l : Launch) (D : va_G) (cy : Nat → ClassId) (h0 : Nat) (h1 : Nat) (h2 : Nat) (h3 : Nat) (h4 : Nat) (h5 : Nat) (h6 : Nat) (h7 : Nat) (h8 : Nat) (h9 : Nat) (h10 : Nat) (h11 : Nat) (hv1 : Value) (hv2 : Value) (hv3 : Value) (hv4 : Value) (ys : Int32) (sx : Int32)  : XMi l D (tyL cy) E0 yX4_isYesState cX4_isYesState 2 (some .boolean) (rmk 0 0 0) [.ref h0, .int sx] [wO h0 4 [.ref h1, .ref h2, .ref h3, .ref h4, .ref h5, .ref h6, .ref h7, .ref h8, .ref h9, .ref h10, .ref h11, .int ys, hv1, hv2, hv3, hv4]] (fun (r : Int32) (_ : Unit) => (r = 0 ∨ r = 1) ∧ (bR r (decide (¬ (ys >>> (sx &&& 31)) &&& 1 = 0)))) (fun (_ : Unit) => [wO h0 4 [.ref h1, .ref h2, .ref h3, .ref h4, .ref h5, .ref h6, .ref h7, .ref h8, .ref h9, .ref h10, .ref h11, .int ys, hv1, hv2, hv3, hv4]]) := by
  refine XMi.start (by decide) (Nat.le_of_ble_eq_true rfl) ?_
  intro p e s m below meth c args A ls Q hat hQ
  obtain ⟨hx, hb, hr, hml, hown, hg, hlocks, hin, hK, hA, hP, hD, hS, hE, hl⟩ := hat
  have hown : s.vm.findClass RX4 = some m.cls := hown
  have hl : lv_has ls 2 [(0, .ref h0), (1, .int sx)] := hl
  refine lv_aload_n hx hb dX4_isYesState_0 rfl (lv_at hl 0 rfl) ?_
  refine va_get (D := D) (ci := 4) (v := .int ys) (C := RX4) (T := TX4) (N := 16) hx hb hg i_X4 hown hK hP 0 rfl rfl 11 (by decide) (hg _ m_368) (fun _ h9 => h9) rfl dX4_isYesState_1 ?_
  refine lv_iload_n hx hb dX4_isYesState_4 rfl (lv_at hl 1 rfl) ?_
  refine lv_ishr hx hb dX4_isYesState_5 ?_
  refine lv_topi (fun x_1 ex_1 => ?_)
  refine lv_iconst (v := 1) hx hb dX4_isYesState_6 (by decide) ?_
  refine lv_iand hx hb dX4_isYesState_7 ?_
  refine lv_topi (fun x_2 ex_2 => ?_)
  refine lv_if_eq (tgt := 15) hx hb dX4_isYesState_8 (by decide) (fun c_8 => ?_) (fun c_8 => ?_)
  · refine lv_iconst (v := 0) hx hb dX4_isYesState_15 (by decide) ?_
    exact x_zret hQ hx hb hr hlocks hK hP hD hS rfl dX4_isYesState_16 () (⟨(Or.inl rfl), bR_0 (ys_0 ex_1 ex_2 c_8)⟩) [0] (by decide +kernel) rfl (Nat.le_of_ble_eq_true rfl) (Nat.le_of_ble_eq_true rfl)
  · refine lv_iconst (v := 1) hx hb dX4_isYesState_11 (by decide) ?_
    refine lv_goto (tgt := 16) hx hb dX4_isYesState_12 (by decide) ?_
    exact x_zret hQ hx hb hr hlocks hK hP hD hS rfl dX4_isYesState_16 () (⟨(Or.inr rfl), bR_1 (ys_1 ex_1 ex_2 c_8)⟩) [0] (by decide +kernel) rfl (Nat.le_of_ble_eq_true rfl) (Nat.le_of_ble_eq_true rfl)
theorem gdX4_isYes_0 : decode cX4_isYes 0 = .ok (.iconst 0, 1) ∧ decode cX4_isYes 1 = .ok (.istore_n 3, 1) ∧ decode cX4_isYes 2 = .ok (.iconst 0, 1) ∧ decode cX4_isYes 3 = .ok (.istore 4, 2) ∧ decode cX4_isYes 5 = .ok (.iload 4, 2) ∧ decode cX4_isYes 7 = .ok (.iload_n 2, 1) ∧ decode cX4_isYes 8 = .ok (.if_icmp .ge 24, 3) ∧ decode cX4_isYes 32 = .ok (.aload_n 0, 1) ∧ decode cX4_isYes 33 = .ok (.iload_n 3, 1) ∧ decode cX4_isYes 34 = .ok (.invokevirtual 93, 3) := by decide +kernel
theorem dX4_isYes_0 : decode cX4_isYes 0 = .ok (.iconst 0, 1) := gdX4_isYes_0.1
theorem dX4_isYes_1 : decode cX4_isYes 1 = .ok (.istore_n 3, 1) := gdX4_isYes_0.2.1
theorem dX4_isYes_2 : decode cX4_isYes 2 = .ok (.iconst 0, 1) := gdX4_isYes_0.2.2.1
theorem dX4_isYes_3 : decode cX4_isYes 3 = .ok (.istore 4, 2) := gdX4_isYes_0.2.2.2.1
theorem dX4_isYes_5 : decode cX4_isYes 5 = .ok (.iload 4, 2) := gdX4_isYes_0.2.2.2.2.1
theorem dX4_isYes_7 : decode cX4_isYes 7 = .ok (.iload_n 2, 1) := gdX4_isYes_0.2.2.2.2.2.1
theorem dX4_isYes_8 : decode cX4_isYes 8 = .ok (.if_icmp .ge 24, 3) := gdX4_isYes_0.2.2.2.2.2.2.1
theorem dX4_isYes_32 : decode cX4_isYes 32 = .ok (.aload_n 0, 1) := gdX4_isYes_0.2.2.2.2.2.2.2.1
theorem dX4_isYes_33 : decode cX4_isYes 33 = .ok (.iload_n 3, 1) := gdX4_isYes_0.2.2.2.2.2.2.2.2.1
theorem dX4_isYes_34 : decode cX4_isYes 34 = .ok (.invokevirtual 93, 3) := gdX4_isYes_0.2.2.2.2.2.2.2.2.2
theorem k_X4_93 : xV RX4 RX4 93 yX4_isYesState cX4_isYesState 2 (some .boolean) 1 := ⟨⟨m_1076, m_1077, m_1078, m_137, m_1079⟩, rfl, by decide, by decide, by decide +kernel⟩
theorem gdX4_isYes_37 : decode cX4_isYes 37 = .ok (.ireturn, 1) ∧ decode cX4_isYes 11 = .ok (.aload_n 0, 1) ∧ decode cX4_isYes 12 = .ok (.getfield 30, 3) ∧ decode cX4_isYes 15 = .ok (.iload_n 3, 1) ∧ decode cX4_isYes 16 = .ok (.bipush 8, 2) ∧ decode cX4_isYes 18 = .ok (.imul, 1) ∧ decode cX4_isYes 19 = .ok (.aload_n 1, 1) ∧ decode cX4_isYes 20 = .ok (.iload 4, 2) ∧ decode cX4_isYes 22 = .ok (.iaload, 1) ∧ decode cX4_isYes 23 = .ok (.iadd, 1) ∧ decode cX4_isYes 24 = .ok (.iaload, 1) ∧ decode cX4_isYes 25 = .ok (.istore_n 3, 1) := by decide +kernel
theorem dX4_isYes_37 : decode cX4_isYes 37 = .ok (.ireturn, 1) := gdX4_isYes_37.1
theorem dX4_isYes_11 : decode cX4_isYes 11 = .ok (.aload_n 0, 1) := gdX4_isYes_37.2.1
theorem dX4_isYes_12 : decode cX4_isYes 12 = .ok (.getfield 30, 3) := gdX4_isYes_37.2.2.1
theorem dX4_isYes_15 : decode cX4_isYes 15 = .ok (.iload_n 3, 1) := gdX4_isYes_37.2.2.2.1
theorem dX4_isYes_16 : decode cX4_isYes 16 = .ok (.bipush 8, 2) := gdX4_isYes_37.2.2.2.2.1
theorem dX4_isYes_18 : decode cX4_isYes 18 = .ok (.imul, 1) := gdX4_isYes_37.2.2.2.2.2.1
theorem dX4_isYes_19 : decode cX4_isYes 19 = .ok (.aload_n 1, 1) := gdX4_isYes_37.2.2.2.2.2.2.1
theorem dX4_isYes_20 : decode cX4_isYes 20 = .ok (.iload 4, 2) := gdX4_isYes_37.2.2.2.2.2.2.2.1
theorem dX4_isYes_22 : decode cX4_isYes 22 = .ok (.iaload, 1) := gdX4_isYes_37.2.2.2.2.2.2.2.2.1
theorem dX4_isYes_23 : decode cX4_isYes 23 = .ok (.iadd, 1) := gdX4_isYes_37.2.2.2.2.2.2.2.2.2.1
theorem dX4_isYes_24 : decode cX4_isYes 24 = .ok (.iaload, 1) := gdX4_isYes_37.2.2.2.2.2.2.2.2.2.2.1
theorem dX4_isYes_25 : decode cX4_isYes 25 = .ok (.istore_n 3, 1) := gdX4_isYes_37.2.2.2.2.2.2.2.2.2.2.2
theorem dX4_isYes_26 : decode cX4_isYes 26 = .ok (.iinc 4 1, 3) := by decide +kernel
theorem dX4_isYes_29 : decode cX4_isYes 29 = .ok (.goto (-24), 3) := by decide +kernel
set_option maxHeartbeats 1000000 in
set_option maxRecDepth 100000 in
theorem s_isYes (l : Launch) (D : va_G) (cy : Nat → ClassId) (h0 : Nat) (h1 : Nat) (h2 : Nat) (h3 : Nat) (h4 : Nat) (h5 : Nat) (h6 : Nat) (h7 : Nat) (h8 : Nat) (h9 : Nat) (h10 : Nat) (h11 : Nat) (hv1 : Value) (hv2 : Value) (hv3 : Value) (hv4 : Value) (ys : Int32) (fx : Nat → Int32) (ro : Nat) (fr : Nat → Int32) (cn : Nat) (hnx : rng fx 48 5) (hrw : rng fr 20 7) (hcn : cn ≤ 20) : XMi l D (tyL cy) E0 yX4_isYes cX4_isYes 5 (some .boolean) (rmk 1 0 0) [.ref h0, .ref ro, .int (nI cn)] [wO h0 4 [.ref h1, .ref h2, .ref h3, .ref h4, .ref h5, .ref h6, .ref h7, .ref h8, .ref h9, .ref h10, .ref h11, .int ys, hv1, hv2, hv3, hv4], wI (cy 1) h7 48 (fx), wI (cy 1) ro 20 (fr)] (fun (r : Int32) (_ : Unit) => (r = 0 ∨ r = 1) ∧ (bR r (ysB ys (stA fx fr cn)))) (fun (_ : Unit) => [wO h0 4 [.ref h1, .ref h2, .ref h3, .ref h4, .ref h5, .ref h6, .ref h7, .ref h8, .ref h9, .ref h10, .ref h11, .int ys, hv1, hv2, hv3, hv4], wI (cy 1) h7 48 (fx), wI (cy 1) ro 20 (fr)]) := by
  refine XMi.start (by decide) (Nat.le_of_ble_eq_true rfl) ?_
  intro p e s m below meth c args A ls Q hat hQ
  obtain ⟨hx, hb, hr, hml, hown, hg, hlocks, hin, hK, hA, hP, hD, hS, hE, hl⟩ := hat
  have hown : s.vm.findClass RX4 = some m.cls := hown
  have hl : lv_has ls 5 [(0, .ref h0), (1, .ref ro), (2, .int (nI cn))] := hl
  refine lv_iconst (v := 0) hx hb dX4_isYes_0 (by decide) ?_
  refine lv_istore_n (lv' := [(3, .int 0), (0, .ref h0), (1, .ref ro), (2, .int (nI cn))]) hx hb dX4_isYes_1 rfl hl (by decide) rfl (fun ls hl => ?_)
  refine lv_iconst (v := 0) hx hb dX4_isYes_2 (by decide) ?_
  refine lv_istore (lv' := [(4, .int 0), (3, .int 0), (0, .ref h0), (1, .ref ro), (2, .int (nI cn))]) hx hb dX4_isYes_3 hl (by decide) rfl (fun ls hl => ?_)
  have loop1 : ∀ (zn : Nat) (st1 : Nat) (i1 : Nat), (i1 ≤ cn) → (st1 ≤ 5) → (st1 = stA fx fr i1) → cn - i1 + 1 ≤ zn → ∀ (H : Heap) (locs : List Loc), va_P D vwCl [wO h0 4 [.ref h1, .ref h2, .ref h3, .ref h4, .ref h5, .ref h6, .ref h7, .ref h8, .ref h9, .ref h10, .ref h11, .int ys, hv1, hv2, hv3, hv4], wI (cy 1) h7 48 (fx), wI (cy 1) ro 20 (fr)] H → va_D A [wO h0 4 [.ref h1, .ref h2, .ref h3, .ref h4, .ref h5, .ref h6, .ref h7, .ref h8, .ref h9, .ref h10, .ref h11, .int ys, hv1, hv2, hv3, hv4], wI (cy 1) h7 48 (fx), wI (cy 1) ro 20 (fr)] → va_S A s.heap H locs → ∀ ls : Array Slot, lv_has ls 5 [(4, .int (nI i1)), (3, .int (nI st1)), (0, .ref h0), (1, .ref ro), (2, .int (nI cn))] → W p l e (rmk 1 0 0) s m args below meth c H locs 0 0 Q (F0 m 5 ls []) := by
    try clear hP hD hS
    intro zn
    induction zn with
    | zero => intro st1 i1 _ _ _ hz; exact absurd hz (by omega)
    | succ zn ih1 =>
      intro st1 i1 hf0_1 hf1_1 hf2_1 hmu1 H locs hP hD hS ls hl
      refine lv_iload hx hb dX4_isYes_5 (lv_at hl 0 rfl) ?_
      refine lv_iload_n hx hb dX4_isYes_7 rfl (lv_at hl 4 rfl) ?_
      refine lv_icmp_ge (tgt := 32) hx hb dX4_isYes_8 (by decide) (fun c_2 => ?_) (fun c_2 => ?_)
      · have q_3 : cn ≤ i1 := q_le (a := cn) (b := i1) rfl rfl (by omega) (by omega) c_2
        refine lv_aload_n hx hb dX4_isYes_32 rfl (lv_at hl 2 rfl) ?_
        refine lv_iload_n hx hb dX4_isYes_33 rfl (lv_at hl 1 rfl) ?_
        refine x_callVi (q := (RX4, TX4, 16)) (ci := 4) (q0 := 0) (wr := [wI (cy 1) h7 48 (fx), wI (cy 1) ro 20 (fr)]) (rest := []) ⟨hx, hb, hml, hown, hg, hl.1⟩ k_X4_93 (s_isYesState l D cy h0 h1 h2 h3 h4 h5 h6 h7 h8 h9 h10 h11 hv1 hv2 hv3 hv4 ys (nI st1)) E0_blind hK hP hD hS hA [0] [1, 2] ⟨rfl, rfl, by decide +kernel, by decide +kernel, by decide +kernel⟩ rfl rfl (fun _ _ _ => trivial) dX4_isYes_34 rfl rfl (Nat.le_of_ble_eq_true rfl) ⟨Nat.le_of_ble_eq_true rfl, Nat.le_of_ble_eq_true rfl⟩ ⟨Nat.le_of_ble_eq_true rfl, Nat.le_of_ble_eq_true rfl⟩ (fun zr4 zu4 H locs hw4 hP9 hD9 hS9 => ?_)
        clear hP hD hS
        refine reW [wI (cy 1) h7 48 (fx), wI (cy 1) ro 20 (fr), wO h0 4 [.ref h1, .ref h2, .ref h3, .ref h4, .ref h5, .ref h6, .ref h7, .ref h8, .ref h9, .ref h10, .ref h11, .int ys, hv1, hv2, hv3, hv4]] hP9 hD9 hS9 (fun hP hD hS => ?_)
        clear hP9 hD9 hS9
        refine W.widen (k := 0) (n := 0) (Nat.le_of_ble_eq_true rfl) (Nat.le_of_ble_eq_true rfl) ?_
        replace hw4 : (zr4 = 0 ∨ zr4 = 1) ∧ (bR zr4 (decide (¬ (ys >>> ((nI st1) &&& 31)) &&& 1 = 0))) := hw4
        obtain ⟨f_5, f_6⟩ := hw4
        exact x_zret hQ hx hb hr hlocks hK hP hD hS (narB f_5) dX4_isYes_37 () (⟨f_5, (by have h8 := hf2_1; rw [show i1 = cn by omega] at h8; rw [← h8]; exact f_6)⟩) [2, 0, 1] (by decide +kernel) rfl (Nat.le_of_ble_eq_true rfl) (Nat.le_of_ble_eq_true rfl)
      · have q_3 : i1 < cn := q_nle (a := cn) (b := i1) rfl rfl (by omega) (by omega) c_2
        refine lv_aload_n hx hb dX4_isYes_11 rfl (lv_at hl 2 rfl) ?_
        refine va_get (D := D) (ci := 4) (v := .ref h7) (C := RX4) (T := TX4) (N := 16) hx hb hg i_X4 hown hK hP 0 rfl rfl 6 (by decide) (hg _ m_354) (fun _ h9 => h9) rfl dX4_isYes_12 ?_
        refine lv_iload_n hx hb dX4_isYes_15 rfl (lv_at hl 1 rfl) ?_
        refine lv_bipush (v := 8) hx hb dX4_isYes_16 (by decide) ?_
        refine lv_imul hx hb dX4_isYes_18 ?_
        refine lv_topi (fun y_7 hy_7 => ?_)
        obtain rfl : y_7 = nI (st1 * 8) := hy_7.trans (pk_mul st1 8)
        refine lv_aload_n hx hb dX4_isYes_19 rfl (lv_at hl 3 rfl) ?_
        refine lv_iload hx hb dX4_isYes_20 (lv_at hl 0 rfl) ?_
        refine va_iald hx hb hK hP 2 1 rfl rfl (vp_in_nI (by omega) (by decide)) dX4_isYes_22 ?_
        obtain ⟨j_8, hj_8, ej_8⟩ := rng_at hrw (i := i1) (by omega) (by decide)
        refine lv_topi (fun y_9 hy_9 => ?_)
        obtain rfl : y_9 = nI j_8 := hy_9.trans ej_8
        refine lv_iadd hx hb dX4_isYes_23 ?_
        refine lv_topi (fun y_10 hy_10 => ?_)
        obtain rfl : y_10 = nI ((st1 * 8) + j_8) := hy_10.trans (nI_add ((st1 * 8)) j_8)
        refine va_iald hx hb hK hP 1 1 rfl rfl (vp_in_nI (by omega) (by decide)) dX4_isYes_24 ?_
        obtain ⟨j_11, hj_11, ej_11⟩ := rng_at hnx (i := ((st1 * 8) + j_8)) (by omega) (by decide)
        refine lv_topi (fun y_12 hy_12 => ?_)
        obtain rfl : y_12 = nI j_11 := hy_12.trans ej_11
        refine lv_istore_n (lv' := [(3, .int (nI j_11)), (4, .int (nI i1)), (0, .ref h0), (1, .ref ro), (2, .int (nI cn))]) hx hb dX4_isYes_25 rfl hl (by decide) rfl (fun ls hl => ?_)
        refine lv_iinc (v := nI (i1 + 1)) (lv' := [(4, .int (nI (i1 + 1))), (3, .int (nI j_11)), (0, .ref h0), (1, .ref ro), (2, .int (nI cn))]) hx hb dX4_isYes_26 hl (k := 1) rfl (nI_add i1 1) (by decide) rfl (fun ls hl => ?_)
        refine lv_goto (tgt := 5) hx hb dX4_isYes_29 (by decide) ?_
        exact ih1  j_11 ((i1 + 1)) (by omega) (by omega) (stA_go (by omega) hf2_1 ej_8 (by omega) (by omega) ej_11 (by omega)) (by omega) _ _ (hP.sub [0, 1, 2] rfl) (hD.sub [0, 1, 2] (by decide +kernel) rfl) hS ls (lv_sub hl [0, 1, 2, 3, 4] rfl)
  exact loop1 _ 0 0 (by omega) (by omega) (rfl) (Nat.le_refl _) _ _ (hP.sub [0, 1, 2] rfl) (hD.sub [0, 1, 2] (by decide +kernel) rfl) hS ls (lv_sub hl [0, 1, 2, 3, 4] rfl)
/-! ways: rows of WORDS that lead from STATE to STATE -/
/-- by n of the first c0 WORDS from s to t, by STATES below m alone -/
def RcB (nx : Nat → Nat → Nat) (c0 m : Nat) : Nat → Nat → Nat → Prop
  | 0, s, t => s = t
  | n + 1, s, t => ∃ w, w < c0 ∧ nx s w < m ∧ RcB nx c0 m n (nx s w) t
def nC9 (fx : Nat → Int32) (s w : Nat) : Nat := (fx (s * 8 + w)).toNatClampNeg
theorem nC9_of {fx : Nat → Int32} {s w j : Nat} (hs : s ≤ 5) (hw : w ≤ 7) (hj : j ≤ 5) (e : fx (nI (s * 8 + w)).toNatClampNeg = nI j) : nC9 fx s w = j := by
  rw [nI_clamp (by omega)] at e
  unfold nC9
  rw [e, nI_clamp (by omega)]
/-- one of the first WORDS leads to an entry x -/
def leB (fx fl : Nat → Int32) (s : Nat) (x : Int32) : Nat → Bool
  | 0 => false
  | w + 1 => leB fx fl s x w || decide (fl (nC9 fx s w) = x)
section LEB
variable {fx fl : Nat → Int32} {s w w2 k j : Nat} {x y : Int32}
theorem leB_n (h : leB fx fl s x w = false) (hk : nC9 fx s w = k) (hy : fl (nI k).toNatClampNeg = y) (hk5 : k < 2 ^ 31) (hne : ¬ y = x) : leB fx fl s x (w + 1) = false := by
  rw [nI_clamp hk5] at hy
  show (leB fx fl s x w || decide (fl (nC9 fx s w) = x)) = false
  rw [h, hk, hy, decide_eq_false hne]
  rfl
theorem leB_y (hk : nC9 fx s w = k) (hy : fl (nI k).toNatClampNeg = y) (hk5 : k < 2 ^ 31) (he : y = x) (hw : w < w2) : leB fx fl s x w2 = true := by
  rw [nI_clamp hk5] at hy
  induction w2 with
  | zero => omega
  | succ w2 ih =>
    show (leB fx fl s x w2 || decide (fl (nC9 fx s w2) = x)) = true
    by_cases q : w = w2
    · rw [← q, hk, hy, decide_eq_true he, Bool.or_true]
    · rw [ih (by omega)]
      rfl
theorem leB_t (h : leB fx fl s x w2 = true) : ∃ w, w < w2 ∧ fl (nC9 fx s w) = x := by
  induction w2 with
  | zero => exact absurd (show (false : Bool) = true from h) (by decide)
  | succ w2 ih =>
    have h9 : (leB fx fl s x w2 || decide (fl (nC9 fx s w2) = x)) = true := h
    by_cases q : fl (nC9 fx s w2) = x
    · exact ⟨w2, by omega, q⟩
    · rw [decide_eq_false q, Bool.or_false] at h9
      obtain ⟨w, h1, h2⟩ := ih h9
      exact ⟨w, by omega, h2⟩
theorem leB_f (h : leB fx fl s x w2 = false) (hw : w < w2) : ¬ fl (nC9 fx s w) = x := by
  induction w2 with
  | zero => omega
  | succ w2 ih =>
    have h9 : (leB fx fl s x w2 || decide (fl (nC9 fx s w2) = x)) = false := h
    by_cases q : w = w2
    · intro h8
      rw [q] at h8
      rw [decide_eq_true h8, Bool.or_true] at h9
      exact absurd h9 (by decide)
    · refine ih ?_ (by omega)
      cases hb : leB fx fl s x w2 with
      | false => rfl
      | true =>
        rw [hb] at h9
        exact absurd h9 (by simp)
end LEB
/-- how far it is from s to g, of ways shorter than r -/
def slE (nx : Nat → Nat → Nat) (c0 c3 g : Nat) (x : Int32) (s r : Nat) : Prop := (∃ d, d < r ∧ x = nI d ∧ RcB nx c0 c3 d s g ∧ ∀ e, e < d → ¬ RcB nx c0 c3 e s g) ∨ (x = 99 ∧ ∀ e, e < r → ¬ RcB nx c0 c3 e s g)
/-- the row of steps: of the first i STATES ways shorter than r + 1, of the others shorter than r -/
def slJ (nx : Nat → Nat → Nat) (c0 c3 g : Nat) (fl : Nat → Int32) (r i : Nat) : Prop := ∀ s, s < 6 → (s < c3 → slE nx c0 c3 g (fl s) s (if s < i then r + 1 else r)) ∧ (c3 ≤ s → fl s = 99)
section SLJ
variable {nx : Nat → Nat → Nat} {c0 c3 g i r : Nat} {fl f2 : Nat → Int32} {x y v : Int32}
/-- the row at first -/
def slS (g : Nat) (fl : Nat → Int32) (i : Nat) : Prop := ∀ k, k < i → fl k = if k = g then 0 else 99
theorem slS_0 : slS g fl 0 := fun k hk => absurd hk (Nat.not_lt_zero k)
theorem slS_put (hi : i < 2 ^ 31) (h : slS g fl i) (hv : v = if i = g then 0 else 99) (e : upd fl (nI i).toNatClampNeg v = f2) : slS g f2 (i + 1) := by
  rw [nI_clamp hi] at e
  subst e
  intro k hk
  by_cases q : k = i
  · rw [q, pk_us, hv]
  · rw [pk_un q]; exact h k (by omega)
theorem slS_ok (h : slS g fl 6) : slOK fl := by
  intro k hk
  rw [h k hk]
  by_cases q : k = g
  · rw [if_pos q]; exact ⟨0, Or.inl (by decide), rfl⟩
  · rw [if_neg q]; exact ⟨99, Or.inr rfl, by decide⟩
theorem slS_J (h : slS g fl 6) (hg : g < c3) : slJ nx c0 c3 g fl 1 0 := by
  intro s hs
  rw [h s hs]
  refine ⟨fun hc => ?_, fun hc => if_neg (by omega)⟩
  rw [if_neg (Nat.not_lt_zero s)]
  by_cases q : s = g
  · rw [if_pos q]
    exact Or.inl ⟨0, by decide, rfl, q, fun e he => absurd he (Nat.not_lt_zero e)⟩
  · rw [if_neg q]
    refine Or.inr ⟨rfl, fun e he => ?_⟩
    have h0 : e = 0 := by omega
    subst h0
    exact q
theorem slE_at {s a b : Nat} (h : slE nx c0 c3 g x s a) (hx : x = nI b) (hb : b < a) (ha : a ≤ 7) : RcB nx c0 c3 b s g ∧ ∀ e, e < b → ¬ RcB nx c0 c3 e s g := by
  rcases h with ⟨d, h1, h2, h3, h4⟩ | ⟨h1, h2⟩
  · have e := nI_inj (a := d) (b := b) (by omega) (by omega) (h2.symm.trans hx)
    subst e
    exact ⟨h3, h4⟩
  · have h9 : nI 99 = nI b := (show nI 99 = 99 by decide).trans (h1.symm.trans hx)
    have := nI_inj (a := 99) (b := b) (by decide) (by omega) h9
    omega
theorem slE_of {s a b : Nat} (h : slE nx c0 c3 g x s a) (hb : b < a) (h1 : RcB nx c0 c3 b s g) (h2 : ∀ e, e < b → ¬ RcB nx c0 c3 e s g) : x = nI b := by
  rcases h with ⟨d, k1, k2, k3, k4⟩ | ⟨k1, k2⟩
  · have : d = b := by
      rcases Nat.lt_trichotomy d b with q | q | q
      · exact absurd k3 (h2 d q)
      · exact q
      · exact absurd h1 (k4 b q)
    rw [k2, this]
  · exact absurd h1 (k2 b hb)
/-- an entry that is told stays -/
theorem slJ_keep (h : slJ nx c0 c3 g fl r i) (hi : i < c3) (hc : c3 ≤ 6) (ex : x = fl (nI i).toNatClampNeg) (hx : ¬ x = 99) : slJ nx c0 c3 g fl r (i + 1) := by
  rw [nI_clamp (by omega)] at ex
  intro s hs
  obtain ⟨h1, h2⟩ := h s hs
  refine ⟨fun hc => ?_, h2⟩
  have h9 := h1 hc
  by_cases q : s = i
  · subst q
    rw [if_neg (Nat.lt_irrefl s)] at h9
    rw [if_pos (Nat.lt_succ_self s)]
    rcases h9 with ⟨d, k1, k2, k3, k4⟩ | ⟨k1, k2⟩
    · exact Or.inl ⟨d, by omega, k2, k3, k4⟩
    · exact absurd (ex.trans k1) hx
  · by_cases q2 : s < i
    · rw [if_pos q2] at h9
      rw [if_pos (by omega)]
      exact h9
    · rw [if_neg q2] at h9
      rw [if_neg (by omega)]
      exact h9
theorem slJ_none (h : slJ nx c0 c3 g fl r i) (hi : i < c3) (hc : c3 ≤ 6) (ex : x = fl (nI i).toNatClampNeg) (hx : x = 99) (hr : 1 ≤ r) (hno : ¬ RcB nx c0 c3 r i g) : slJ nx c0 c3 g fl r (i + 1) := by
  rw [nI_clamp (by omega)] at ex
  intro s hs
  obtain ⟨h1, h2⟩ := h s hs
  refine ⟨fun hc => ?_, h2⟩
  have h9 := h1 hc
  by_cases q : s = i
  · subst q
    rw [if_neg (Nat.lt_irrefl s)] at h9
    rw [if_pos (Nat.lt_succ_self s)]
    rcases h9 with ⟨d, k1, k2, k3, k4⟩ | ⟨k1, k2⟩
    · exact Or.inl ⟨d, by omega, k2, k3, k4⟩
    · refine Or.inr ⟨k1, fun e he => ?_⟩
      by_cases q3 : e = r
      · rw [q3]; exact hno
      · exact k2 e (by omega)
  · by_cases q2 : s < i
    · rw [if_pos q2] at h9
      rw [if_pos (by omega)]
      exact h9
    · rw [if_neg q2] at h9
      rw [if_neg (by omega)]
      exact h9
theorem slJ_put (h : slJ nx c0 c3 g fl r i) (hi : i < c3) (hc : c3 ≤ 6) (ex : x = fl (nI i).toNatClampNeg) (hx : x = 99) (hr : r ≤ 6) (hy : RcB nx c0 c3 r i g) (e : upd fl (nI i).toNatClampNeg (nI r) = f2) : slJ nx c0 c3 g f2 r (i + 1) := by
  rw [nI_clamp (by omega)] at ex e
  subst e
  intro s hs
  obtain ⟨h1, h2⟩ := h s hs
  by_cases q : s = i
  · subst q
    refine ⟨fun hc => ?_, fun hc => absurd hi (by omega)⟩
    have h9 := h1 hc
    rw [if_neg (Nat.lt_irrefl s)] at h9
    rw [if_pos (Nat.lt_succ_self s), pk_us]
    rcases h9 with ⟨d, k1, k2, k3, k4⟩ | ⟨k1, k2⟩
    · have h8 : nI 99 = nI d := (show nI 99 = 99 by decide).trans (hx.symm.trans (ex.trans k2))
      have := nI_inj (a := 99) (b := d) (by decide) (by omega) h8
      omega
    · exact Or.inl ⟨r, by omega, rfl, hy, k2⟩
  · rw [pk_un q]
    refine ⟨fun hc => ?_, h2⟩
    have h9 := h1 hc
    by_cases q2 : s < i
    · rw [if_pos q2] at h9
      rw [if_pos (by omega)]
      exact h9
    · rw [if_neg q2] at h9
      rw [if_neg (by omega)]
      exact h9
theorem slJ_next (h : slJ nx c0 c3 g fl r i) (hi : c3 ≤ i) : slJ nx c0 c3 g fl (r + 1) 0 := by
  intro s hs
  obtain ⟨h1, h2⟩ := h s hs
  refine ⟨fun hc => ?_, h2⟩
  have h9 := h1 hc
  rw [if_pos (by omega)] at h9
  rw [if_neg (Nat.not_lt_zero s)]
  exact h9
end SLJ
section SLK
variable {fx fl : Nat → Int32} {c0 c3 g i r : Nat} {x : Int32}
/-- an entry is r - 1 just where the STATE is so far -/
theorem slJ_iff {s : Nat} (h : slJ (nC9 fx) c0 c3 g fl r i) (hs : s < c3) (hc : c3 ≤ 6) (hr : 1 ≤ r) (hr6 : r ≤ 6) : fl s = nI (r - 1) ↔ (RcB (nC9 fx) c0 c3 (r - 1) s g ∧ ∀ e, e < r - 1 → ¬ RcB (nC9 fx) c0 c3 e s g) := by
  have h9 := (h s (by omega)).1 hs
  constructor
  · intro hx
    exact slE_at h9 hx (by split <;> omega) (by split <;> omega)
  · intro ⟨h1, h2⟩
    exact slE_of h9 (by split <;> omega) h1 h2
theorem sl_yes (h : slJ (nC9 fx) c0 c3 g fl r i) (hf : rng fx 48 5) (h0 : c0 ≤ 8) (hi : i < c3) (hc : c3 ≤ 6) (hr : 1 ≤ r) (hr6 : r ≤ 6) (hl : leB fx fl i (nI (r - 1)) c0 = true) : RcB (nC9 fx) c0 c3 r i g := by
  obtain ⟨w, hw, e⟩ := leB_t hl
  obtain ⟨j, hj, ej⟩ := hf (i * 8 + w) (by omega)
  have ek : nC9 fx i w = j := by
    unfold nC9
    rw [ej, nI_clamp (by omega)]
  have hlt : nC9 fx i w < c3 := by
    rcases Nat.lt_or_ge (nC9 fx i w) c3 with q | q
    · exact q
    · have h9 := (h (nC9 fx i w) (by omega)).2 q
      have h8 : nI 99 = nI (r - 1) := (show nI 99 = 99 by decide).trans (h9.symm.trans e)
      have := nI_inj (a := 99) (b := r - 1) (by decide) (by omega) h8
      omega
  have h9 := (slJ_iff h hlt hc hr hr6).mp e
  rw [show r = (r - 1) + 1 by omega]
  exact ⟨w, hw, hlt, h9.1⟩
theorem sl_no (h : slJ (nC9 fx) c0 c3 g fl r i) (hi : i < c3) (hc : c3 ≤ 6) (hr : 1 ≤ r) (hr6 : r ≤ 6) (ex : x = fl (nI i).toNatClampNeg) (hx : x = 99) (hl : leB fx fl i (nI (r - 1)) c0 = false) : ¬ RcB (nC9 fx) c0 c3 r i g := by
  rw [nI_clamp (by omega)] at ex
  intro hR
  rw [show r = (r - 1) + 1 by omega] at hR
  obtain ⟨w, hw, hlt, h1⟩ := hR
  have hi9 := (h i (by omega)).1 hi
  rw [if_neg (Nat.lt_irrefl i)] at hi9
  have hno : ∀ e, e < r → ¬ RcB (nC9 fx) c0 c3 e i g := by
    rcases hi9 with ⟨d, k1, k2, _⟩ | ⟨_, k2⟩
    · have h8 : nI 99 = nI d := (show nI 99 = 99 by decide).trans (hx.symm.trans (ex.trans k2))
      have := nI_inj (a := 99) (b := d) (by decide) (by omega) h8
      omega
    · exact k2
  refine leB_f hl hw ((slJ_iff h hlt hc hr hr6).mpr ⟨h1, fun e he h2 => ?_⟩)
  exact hno (e + 1) (by omega) ⟨w, hw, hlt, h2⟩
end SLK
/-- what comes of a search for a way from STATE 0 -/
def wyC (nx : Nat → Nat → Nat) (c0 c3 g : Nat) (r : Int32) : Prop := (r = -1 ∧ ∀ e, e < c3 → ¬ RcB nx c0 c3 e 0 g) ∨ ∃ d, d < c3 ∧ r = nI d ∧ RcB nx c0 c3 d 0 g ∧ ∀ e, e < d → ¬ RcB nx c0 c3 e 0 g
theorem wy_no {nx : Nat → Nat → Nat} {c0 c3 g j : Nat} {fl : Nat → Int32} (h : slJ nx c0 c3 g fl c3 0) (hc : 0 < c3) (h6 : c3 ≤ 6) (ej : fl (0 : Int32).toNatClampNeg = nI j) (hj : j = 99) : wyC nx c0 c3 g (-1) := by
  rw [show (0 : Int32).toNatClampNeg = 0 by decide] at ej
  have h9 := (h 0 (by decide)).1 hc
  rw [if_neg (Nat.not_lt_zero 0)] at h9
  rcases h9 with ⟨d, k1, k2, _⟩ | ⟨_, k2⟩
  · have := nI_inj (a := j) (b := d) (by omega) (by omega) (ej.symm.trans k2)
    omega
  · exact Or.inl ⟨rfl, k2⟩
theorem wy_yes {nx : Nat → Nat → Nat} {c0 c3 g j : Nat} {fl : Nat → Int32} (h : slJ nx c0 c3 g fl c3 0) (hc : 0 < c3) (h6 : c3 ≤ 6) (ej : fl (0 : Int32).toNatClampNeg = nI j) (hj : j ≤ 5) : wyC nx c0 c3 g (nI j) := by
  rw [show (0 : Int32).toNatClampNeg = 0 by decide] at ej
  have h9 := (h 0 (by decide)).1 hc
  rw [if_neg (Nat.not_lt_zero 0)] at h9
  rcases h9 with ⟨d, k1, k2, k3, k4⟩ | ⟨k1, k2⟩
  · have e := nI_inj (a := j) (b := d) (by omega) (by omega) (ej.symm.trans k2)
    subst e
    exact Or.inr ⟨j, k1, rfl, k3, k4⟩
  · have h8 : nI 99 = nI j := (show nI 99 = 99 by decide).trans (k1.symm.trans ej)
    have := nI_inj (a := 99) (b := j) (by decide) (by omega) h8
    omega
theorem gdX4_leadsToOneAt_0 : decode cX4_leadsToOneAt 0 = .ok (.iconst 0, 1) ∧ decode cX4_leadsToOneAt 1 = .ok (.istore_n 3, 1) ∧ decode cX4_leadsToOneAt 2 = .ok (.iload_n 3, 1) ∧ decode cX4_leadsToOneAt 3 = .ok (.aload_n 0, 1) ∧ decode cX4_leadsToOneAt 4 = .ok (.getfield 9, 3) ∧ decode cX4_leadsToOneAt 7 = .ok (.iconst 0, 1) ∧ decode cX4_leadsToOneAt 8 = .ok (.iaload, 1) ∧ decode cX4_leadsToOneAt 9 = .ok (.if_icmp .ge 31, 3) ∧ decode cX4_leadsToOneAt 40 = .ok (.iconst 0, 1) ∧ decode cX4_leadsToOneAt 41 = .ok (.ireturn, 1) ∧ decode cX4_leadsToOneAt 12 = .ok (.aload_n 0, 1) ∧ decode cX4_leadsToOneAt 13 = .ok (.getfield 33, 3) := by decide +kernel
theorem dX4_leadsToOneAt_0 : decode cX4_leadsToOneAt 0 = .ok (.iconst 0, 1) := gdX4_leadsToOneAt_0.1
theorem dX4_leadsToOneAt_1 : decode cX4_leadsToOneAt 1 = .ok (.istore_n 3, 1) := gdX4_leadsToOneAt_0.2.1
theorem dX4_leadsToOneAt_2 : decode cX4_leadsToOneAt 2 = .ok (.iload_n 3, 1) := gdX4_leadsToOneAt_0.2.2.1
theorem dX4_leadsToOneAt_3 : decode cX4_leadsToOneAt 3 = .ok (.aload_n 0, 1) := gdX4_leadsToOneAt_0.2.2.2.1
theorem dX4_leadsToOneAt_4 : decode cX4_leadsToOneAt 4 = .ok (.getfield 9, 3) := gdX4_leadsToOneAt_0.2.2.2.2.1
theorem dX4_leadsToOneAt_7 : decode cX4_leadsToOneAt 7 = .ok (.iconst 0, 1) := gdX4_leadsToOneAt_0.2.2.2.2.2.1
theorem dX4_leadsToOneAt_8 : decode cX4_leadsToOneAt 8 = .ok (.iaload, 1) := gdX4_leadsToOneAt_0.2.2.2.2.2.2.1
theorem dX4_leadsToOneAt_9 : decode cX4_leadsToOneAt 9 = .ok (.if_icmp .ge 31, 3) := gdX4_leadsToOneAt_0.2.2.2.2.2.2.2.1
theorem dX4_leadsToOneAt_40 : decode cX4_leadsToOneAt 40 = .ok (.iconst 0, 1) := gdX4_leadsToOneAt_0.2.2.2.2.2.2.2.2.1
theorem dX4_leadsToOneAt_41 : decode cX4_leadsToOneAt 41 = .ok (.ireturn, 1) := gdX4_leadsToOneAt_0.2.2.2.2.2.2.2.2.2.1
theorem dX4_leadsToOneAt_12 : decode cX4_leadsToOneAt 12 = .ok (.aload_n 0, 1) := gdX4_leadsToOneAt_0.2.2.2.2.2.2.2.2.2.2.1
theorem dX4_leadsToOneAt_13 : decode cX4_leadsToOneAt 13 = .ok (.getfield 33, 3) := gdX4_leadsToOneAt_0.2.2.2.2.2.2.2.2.2.2.2
theorem gdX4_leadsToOneAt_16 : decode cX4_leadsToOneAt 16 = .ok (.aload_n 0, 1) ∧ decode cX4_leadsToOneAt 17 = .ok (.getfield 30, 3) ∧ decode cX4_leadsToOneAt 20 = .ok (.iload_n 1, 1) ∧ decode cX4_leadsToOneAt 21 = .ok (.bipush 8, 2) ∧ decode cX4_leadsToOneAt 23 = .ok (.imul, 1) ∧ decode cX4_leadsToOneAt 24 = .ok (.iload_n 3, 1) ∧ decode cX4_leadsToOneAt 25 = .ok (.iadd, 1) ∧ decode cX4_leadsToOneAt 26 = .ok (.iaload, 1) ∧ decode cX4_leadsToOneAt 27 = .ok (.iaload, 1) ∧ decode cX4_leadsToOneAt 28 = .ok (.iload_n 2, 1) ∧ decode cX4_leadsToOneAt 29 = .ok (.if_icmp .ne 5, 3) ∧ decode cX4_leadsToOneAt 34 = .ok (.iinc 3 1, 3) := by decide +kernel
theorem dX4_leadsToOneAt_16 : decode cX4_leadsToOneAt 16 = .ok (.aload_n 0, 1) := gdX4_leadsToOneAt_16.1
theorem dX4_leadsToOneAt_17 : decode cX4_leadsToOneAt 17 = .ok (.getfield 30, 3) := gdX4_leadsToOneAt_16.2.1
theorem dX4_leadsToOneAt_20 : decode cX4_leadsToOneAt 20 = .ok (.iload_n 1, 1) := gdX4_leadsToOneAt_16.2.2.1
theorem dX4_leadsToOneAt_21 : decode cX4_leadsToOneAt 21 = .ok (.bipush 8, 2) := gdX4_leadsToOneAt_16.2.2.2.1
theorem dX4_leadsToOneAt_23 : decode cX4_leadsToOneAt 23 = .ok (.imul, 1) := gdX4_leadsToOneAt_16.2.2.2.2.1
theorem dX4_leadsToOneAt_24 : decode cX4_leadsToOneAt 24 = .ok (.iload_n 3, 1) := gdX4_leadsToOneAt_16.2.2.2.2.2.1
theorem dX4_leadsToOneAt_25 : decode cX4_leadsToOneAt 25 = .ok (.iadd, 1) := gdX4_leadsToOneAt_16.2.2.2.2.2.2.1
theorem dX4_leadsToOneAt_26 : decode cX4_leadsToOneAt 26 = .ok (.iaload, 1) := gdX4_leadsToOneAt_16.2.2.2.2.2.2.2.1
theorem dX4_leadsToOneAt_27 : decode cX4_leadsToOneAt 27 = .ok (.iaload, 1) := gdX4_leadsToOneAt_16.2.2.2.2.2.2.2.2.1
theorem dX4_leadsToOneAt_28 : decode cX4_leadsToOneAt 28 = .ok (.iload_n 2, 1) := gdX4_leadsToOneAt_16.2.2.2.2.2.2.2.2.2.1
theorem dX4_leadsToOneAt_29 : decode cX4_leadsToOneAt 29 = .ok (.if_icmp .ne 5, 3) := gdX4_leadsToOneAt_16.2.2.2.2.2.2.2.2.2.2.1
theorem dX4_leadsToOneAt_34 : decode cX4_leadsToOneAt 34 = .ok (.iinc 3 1, 3) := gdX4_leadsToOneAt_16.2.2.2.2.2.2.2.2.2.2.2
theorem gdX4_leadsToOneAt_37 : decode cX4_leadsToOneAt 37 = .ok (.goto (-35), 3) ∧ decode cX4_leadsToOneAt 32 = .ok (.iconst 1, 1) ∧ decode cX4_leadsToOneAt 33 = .ok (.ireturn, 1) := by decide +kernel
theorem dX4_leadsToOneAt_37 : decode cX4_leadsToOneAt 37 = .ok (.goto (-35), 3) := gdX4_leadsToOneAt_37.1
theorem dX4_leadsToOneAt_32 : decode cX4_leadsToOneAt 32 = .ok (.iconst 1, 1) := gdX4_leadsToOneAt_37.2.1
theorem dX4_leadsToOneAt_33 : decode cX4_leadsToOneAt 33 = .ok (.ireturn, 1) := gdX4_leadsToOneAt_37.2.2
set_option maxHeartbeats 1000000 in
set_option maxRecDepth 100000 in
theorem s_leadsToOneAt (l : Launch) (D : va_G) (cy : Nat → ClassId) (h0 : Nat) (h1 : Nat) (h2 : Nat) (h3 : Nat) (h4 : Nat) (h5 : Nat) (h6 : Nat) (h7 : Nat) (h8 : Nat) (h9 : Nat) (h10 : Nat) (h11 : Nat) (hv0 : Value) (hv1 : Value) (hv2 : Value) (hv3 : Value) (hv4 : Value) (fc : Nat → Int32) (c0 : Nat) (c1 : Nat) (c2 : Nat) (c3 : Nat) (fx : Nat → Int32) (fl : Nat → Int32) (sx : Nat) (tx : Int32) (hcn : cntOK fc c0 c1 c2 c3) (hc0 : c0 ≤ 8) (hc1 : c1 ≤ 4) (hc2 : c2 ≤ 4) (hc3 : c3 ≤ 6) (hnx : rng fx 48 5) (hsl : slOK fl) (hsx : sx ≤ 5) : XMi l D (tyL cy) E0 yX4_leadsToOneAt cX4_leadsToOneAt 4 (some .boolean) (rmk 0 0 0) [.ref h0, .int (nI sx), .int tx] [wO h0 4 [.ref h1, .ref h2, .ref h3, .ref h4, .ref h5, .ref h6, .ref h7, .ref h8, .ref h9, .ref h10, .ref h11, hv0, hv1, hv2, hv3, hv4], wI (cy 1) h1 4 (fc), wI (cy 1) h7 48 (fx), wI (cy 1) h8 6 (fl)] (fun (r : Int32) (_ : Unit) => (r = 0 ∨ r = 1) ∧ (bR r (leB fx fl sx tx c0))) (fun (_ : Unit) => [wO h0 4 [.ref h1, .ref h2, .ref h3, .ref h4, .ref h5, .ref h6, .ref h7, .ref h8, .ref h9, .ref h10, .ref h11, hv0, hv1, hv2, hv3, hv4], wI (cy 1) h1 4 (fc), wI (cy 1) h7 48 (fx), wI (cy 1) h8 6 (fl)]) := by
  refine XMi.start (by decide) (Nat.le_of_ble_eq_true rfl) ?_
  intro p e s m below meth c args A ls Q hat hQ
  obtain ⟨hx, hb, hr, hml, hown, hg, hlocks, hin, hK, hA, hP, hD, hS, hE, hl⟩ := hat
  have hown : s.vm.findClass RX4 = some m.cls := hown
  have hl : lv_has ls 4 [(0, .ref h0), (1, .int (nI sx)), (2, .int tx)] := hl
  refine lv_iconst (v := 0) hx hb dX4_leadsToOneAt_0 (by decide) ?_
  refine lv_istore_n (lv' := [(3, .int 0), (0, .ref h0), (1, .int (nI sx)), (2, .int tx)]) hx hb dX4_leadsToOneAt_1 rfl hl (by decide) rfl (fun ls hl => ?_)
  have loop1 : ∀ (zn : Nat) (i1 : Nat), (i1 ≤ c0) → (leB fx fl sx tx i1 = false) → c0 - i1 + 1 ≤ zn → ∀ (H : Heap) (locs : List Loc), va_P D vwCl [wO h0 4 [.ref h1, .ref h2, .ref h3, .ref h4, .ref h5, .ref h6, .ref h7, .ref h8, .ref h9, .ref h10, .ref h11, hv0, hv1, hv2, hv3, hv4], wI (cy 1) h1 4 (fc), wI (cy 1) h7 48 (fx), wI (cy 1) h8 6 (fl)] H → va_D A [wO h0 4 [.ref h1, .ref h2, .ref h3, .ref h4, .ref h5, .ref h6, .ref h7, .ref h8, .ref h9, .ref h10, .ref h11, hv0, hv1, hv2, hv3, hv4], wI (cy 1) h1 4 (fc), wI (cy 1) h7 48 (fx), wI (cy 1) h8 6 (fl)] → va_S A s.heap H locs → ∀ ls : Array Slot, lv_has ls 4 [(3, .int (nI i1)), (0, .ref h0), (1, .int (nI sx)), (2, .int tx)] → W p l e (rmk 0 0 0) s m args below meth c H locs 0 0 Q (F0 m 2 ls []) := by
    try clear hP hD hS
    intro zn
    induction zn with
    | zero => intro i1 _ _ hz; exact absurd hz (by omega)
    | succ zn ih1 =>
      intro i1 hf0_1 hf1_1 hmu1 H locs hP hD hS ls hl
      refine lv_iload_n hx hb dX4_leadsToOneAt_2 rfl (lv_at hl 0 rfl) ?_
      refine lv_aload_n hx hb dX4_leadsToOneAt_3 rfl (lv_at hl 1 rfl) ?_
      refine va_get (D := D) (ci := 4) (v := .ref h1) (C := RX4) (T := TX4) (N := 16) hx hb hg i_X4 hown hK hP 0 rfl rfl 0 (by decide) (hg _ m_329) (fun _ h9 => h9) rfl dX4_leadsToOneAt_4 ?_
      refine lv_iconst (v := 0) hx hb dX4_leadsToOneAt_7 (by decide) ?_
      refine va_iald hx hb hK hP 1 1 rfl rfl (by unfold vp_in; decide) dX4_leadsToOneAt_8 ?_
      refine lv_topi (fun y_2 hy_2 => ?_)
      obtain rfl : y_2 = nI c0 := hy_2.trans hcn.1
      refine lv_icmp_ge (tgt := 40) hx hb dX4_leadsToOneAt_9 (by decide) (fun c_3 => ?_) (fun c_3 => ?_)
      · have q_4 : c0 ≤ i1 := q_le (a := c0) (b := i1) rfl rfl (by omega) (by omega) c_3
        refine lv_iconst (v := 0) hx hb dX4_leadsToOneAt_40 (by decide) ?_
        exact x_zret hQ hx hb hr hlocks hK hP hD hS rfl dX4_leadsToOneAt_41 () (⟨(Or.inl rfl), bR_0 (by have h9 := hf1_1; rwa [show i1 = c0 by omega] at h9)⟩) [0, 1, 2, 3] (by decide +kernel) rfl (Nat.le_of_ble_eq_true rfl) (Nat.le_of_ble_eq_true rfl)
      · have q_4 : i1 < c0 := q_nle (a := c0) (b := i1) rfl rfl (by omega) (by omega) c_3
        refine lv_aload_n hx hb dX4_leadsToOneAt_12 rfl (lv_at hl 1 rfl) ?_
        refine va_get (D := D) (ci := 4) (v := .ref h8) (C := RX4) (T := TX4) (N := 16) hx hb hg i_X4 hown hK hP 0 rfl rfl 7 (by decide) (hg _ m_359) (fun _ h9 => h9) rfl dX4_leadsToOneAt_13 ?_
        refine lv_aload_n hx hb dX4_leadsToOneAt_16 rfl (lv_at hl 1 rfl) ?_
        refine va_get (D := D) (ci := 4) (v := .ref h7) (C := RX4) (T := TX4) (N := 16) hx hb hg i_X4 hown hK hP 0 rfl rfl 6 (by decide) (hg _ m_354) (fun _ h9 => h9) rfl dX4_leadsToOneAt_17 ?_
        refine lv_iload_n hx hb dX4_leadsToOneAt_20 rfl (lv_at hl 2 rfl) ?_
        refine lv_bipush (v := 8) hx hb dX4_leadsToOneAt_21 (by decide) ?_
        refine lv_imul hx hb dX4_leadsToOneAt_23 ?_
        refine lv_topi (fun y_5 hy_5 => ?_)
        obtain rfl : y_5 = nI (sx * 8) := hy_5.trans (pk_mul sx 8)
        refine lv_iload_n hx hb dX4_leadsToOneAt_24 rfl (lv_at hl 0 rfl) ?_
        refine lv_iadd hx hb dX4_leadsToOneAt_25 ?_
        refine lv_topi (fun y_6 hy_6 => ?_)
        obtain rfl : y_6 = nI ((sx * 8) + i1) := hy_6.trans (nI_add ((sx * 8)) i1)
        refine va_iald hx hb hK hP 2 1 rfl rfl (vp_in_nI (by omega) (by decide)) dX4_leadsToOneAt_26 ?_
        obtain ⟨j_7, hj_7, ej_7⟩ := rng_at hnx (i := ((sx * 8) + i1)) (by omega) (by decide)
        refine lv_topi (fun y_8 hy_8 => ?_)
        obtain rfl : y_8 = nI j_7 := hy_8.trans ej_7
        refine va_iald hx hb hK hP 3 1 rfl rfl (vp_in_nI (by omega) (by decide)) dX4_leadsToOneAt_27 ?_
        obtain ⟨j_9, hj_9, ej_9⟩ := sl_at hsl (i := j_7) (by omega)
        refine lv_topi (fun y_10 hy_10 => ?_)
        obtain rfl : y_10 = nI j_9 := hy_10.trans ej_9
        refine lv_iload_n hx hb dX4_leadsToOneAt_28 rfl (lv_at hl 3 rfl) ?_
        refine lv_icmp_ne (tgt := 34) hx hb dX4_leadsToOneAt_29 (by decide) (fun c_29 => ?_) (fun c_29 => ?_)
        · refine lv_iinc (v := nI (i1 + 1)) (lv' := [(3, .int (nI (i1 + 1))), (0, .ref h0), (1, .int (nI sx)), (2, .int tx)]) hx hb dX4_leadsToOneAt_34 hl (k := 0) rfl (nI_add i1 1) (by decide) rfl (fun ls hl => ?_)
          refine lv_goto (tgt := 2) hx hb dX4_leadsToOneAt_37 (by decide) ?_
          exact ih1  ((i1 + 1)) (by omega) (leB_n hf1_1 (nC9_of (by omega) (by omega) (by omega) ej_7) ej_9 (by omega) c_29) (by omega) _ _ (hP.sub [0, 1, 2, 3] rfl) (hD.sub [0, 1, 2, 3] (by decide +kernel) rfl) hS ls (lv_sub hl [0, 1, 2, 3] rfl)
        · refine lv_iconst (v := 1) hx hb dX4_leadsToOneAt_32 (by decide) ?_
          exact x_zret hQ hx hb hr hlocks hK hP hD hS rfl dX4_leadsToOneAt_33 () (⟨(Or.inr rfl), bR_1 (leB_y (nC9_of (by omega) (by omega) (by omega) ej_7) ej_9 (by omega) c_29 (by omega))⟩) [0, 1, 2, 3] (by decide +kernel) rfl (Nat.le_of_ble_eq_true rfl) (Nat.le_of_ble_eq_true rfl)
  exact loop1 _ 0 (by omega) (rfl) (Nat.le_refl _) _ _ (hP.sub [0, 1, 2, 3] rfl) (hD.sub [0, 1, 2, 3] (by decide +kernel) rfl) hS ls (lv_sub hl [0, 1, 2, 3] rfl)
theorem gdX4_firstWordNearer_0 : decode cX4_firstWordNearer 0 = .ok (.iconst 0, 1) ∧ decode cX4_firstWordNearer 1 = .ok (.istore_n 2, 1) ∧ decode cX4_firstWordNearer 2 = .ok (.iload_n 2, 1) ∧ decode cX4_firstWordNearer 3 = .ok (.aload_n 0, 1) ∧ decode cX4_firstWordNearer 4 = .ok (.getfield 9, 3) ∧ decode cX4_firstWordNearer 7 = .ok (.iconst 0, 1) ∧ decode cX4_firstWordNearer 8 = .ok (.iaload, 1) ∧ decode cX4_firstWordNearer 9 = .ok (.if_icmp .ge 38, 3) ∧ decode cX4_firstWordNearer 47 = .ok (.iconst 0, 1) ∧ decode cX4_firstWordNearer 48 = .ok (.ireturn, 1) ∧ decode cX4_firstWordNearer 12 = .ok (.aload_n 0, 1) ∧ decode cX4_firstWordNearer 13 = .ok (.getfield 33, 3) := by decide +kernel
theorem dX4_firstWordNearer_0 : decode cX4_firstWordNearer 0 = .ok (.iconst 0, 1) := gdX4_firstWordNearer_0.1
theorem dX4_firstWordNearer_1 : decode cX4_firstWordNearer 1 = .ok (.istore_n 2, 1) := gdX4_firstWordNearer_0.2.1
theorem dX4_firstWordNearer_2 : decode cX4_firstWordNearer 2 = .ok (.iload_n 2, 1) := gdX4_firstWordNearer_0.2.2.1
theorem dX4_firstWordNearer_3 : decode cX4_firstWordNearer 3 = .ok (.aload_n 0, 1) := gdX4_firstWordNearer_0.2.2.2.1
theorem dX4_firstWordNearer_4 : decode cX4_firstWordNearer 4 = .ok (.getfield 9, 3) := gdX4_firstWordNearer_0.2.2.2.2.1
theorem dX4_firstWordNearer_7 : decode cX4_firstWordNearer 7 = .ok (.iconst 0, 1) := gdX4_firstWordNearer_0.2.2.2.2.2.1
theorem dX4_firstWordNearer_8 : decode cX4_firstWordNearer 8 = .ok (.iaload, 1) := gdX4_firstWordNearer_0.2.2.2.2.2.2.1
theorem dX4_firstWordNearer_9 : decode cX4_firstWordNearer 9 = .ok (.if_icmp .ge 38, 3) := gdX4_firstWordNearer_0.2.2.2.2.2.2.2.1
theorem dX4_firstWordNearer_47 : decode cX4_firstWordNearer 47 = .ok (.iconst 0, 1) := gdX4_firstWordNearer_0.2.2.2.2.2.2.2.2.1
theorem dX4_firstWordNearer_48 : decode cX4_firstWordNearer 48 = .ok (.ireturn, 1) := gdX4_firstWordNearer_0.2.2.2.2.2.2.2.2.2.1
theorem dX4_firstWordNearer_12 : decode cX4_firstWordNearer 12 = .ok (.aload_n 0, 1) := gdX4_firstWordNearer_0.2.2.2.2.2.2.2.2.2.2.1
theorem dX4_firstWordNearer_13 : decode cX4_firstWordNearer 13 = .ok (.getfield 33, 3) := gdX4_firstWordNearer_0.2.2.2.2.2.2.2.2.2.2.2
theorem gdX4_firstWordNearer_16 : decode cX4_firstWordNearer 16 = .ok (.aload_n 0, 1) ∧ decode cX4_firstWordNearer 17 = .ok (.getfield 30, 3) ∧ decode cX4_firstWordNearer 20 = .ok (.iload_n 1, 1) ∧ decode cX4_firstWordNearer 21 = .ok (.bipush 8, 2) ∧ decode cX4_firstWordNearer 23 = .ok (.imul, 1) ∧ decode cX4_firstWordNearer 24 = .ok (.iload_n 2, 1) ∧ decode cX4_firstWordNearer 25 = .ok (.iadd, 1) ∧ decode cX4_firstWordNearer 26 = .ok (.iaload, 1) ∧ decode cX4_firstWordNearer 27 = .ok (.iaload, 1) ∧ decode cX4_firstWordNearer 28 = .ok (.aload_n 0, 1) ∧ decode cX4_firstWordNearer 29 = .ok (.getfield 33, 3) ∧ decode cX4_firstWordNearer 32 = .ok (.iload_n 1, 1) := by decide +kernel
theorem dX4_firstWordNearer_16 : decode cX4_firstWordNearer 16 = .ok (.aload_n 0, 1) := gdX4_firstWordNearer_16.1
theorem dX4_firstWordNearer_17 : decode cX4_firstWordNearer 17 = .ok (.getfield 30, 3) := gdX4_firstWordNearer_16.2.1
theorem dX4_firstWordNearer_20 : decode cX4_firstWordNearer 20 = .ok (.iload_n 1, 1) := gdX4_firstWordNearer_16.2.2.1
theorem dX4_firstWordNearer_21 : decode cX4_firstWordNearer 21 = .ok (.bipush 8, 2) := gdX4_firstWordNearer_16.2.2.2.1
theorem dX4_firstWordNearer_23 : decode cX4_firstWordNearer 23 = .ok (.imul, 1) := gdX4_firstWordNearer_16.2.2.2.2.1
theorem dX4_firstWordNearer_24 : decode cX4_firstWordNearer 24 = .ok (.iload_n 2, 1) := gdX4_firstWordNearer_16.2.2.2.2.2.1
theorem dX4_firstWordNearer_25 : decode cX4_firstWordNearer 25 = .ok (.iadd, 1) := gdX4_firstWordNearer_16.2.2.2.2.2.2.1
theorem dX4_firstWordNearer_26 : decode cX4_firstWordNearer 26 = .ok (.iaload, 1) := gdX4_firstWordNearer_16.2.2.2.2.2.2.2.1
theorem dX4_firstWordNearer_27 : decode cX4_firstWordNearer 27 = .ok (.iaload, 1) := gdX4_firstWordNearer_16.2.2.2.2.2.2.2.2.1
theorem dX4_firstWordNearer_28 : decode cX4_firstWordNearer 28 = .ok (.aload_n 0, 1) := gdX4_firstWordNearer_16.2.2.2.2.2.2.2.2.2.1
theorem dX4_firstWordNearer_29 : decode cX4_firstWordNearer 29 = .ok (.getfield 33, 3) := gdX4_firstWordNearer_16.2.2.2.2.2.2.2.2.2.2.1
theorem dX4_firstWordNearer_32 : decode cX4_firstWordNearer 32 = .ok (.iload_n 1, 1) := gdX4_firstWordNearer_16.2.2.2.2.2.2.2.2.2.2.2
theorem gdX4_firstWordNearer_33 : decode cX4_firstWordNearer 33 = .ok (.iaload, 1) ∧ decode cX4_firstWordNearer 34 = .ok (.iconst 1, 1) ∧ decode cX4_firstWordNearer 35 = .ok (.isub, 1) ∧ decode cX4_firstWordNearer 36 = .ok (.if_icmp .ne 5, 3) ∧ decode cX4_firstWordNearer 41 = .ok (.iinc 2 1, 3) ∧ decode cX4_firstWordNearer 44 = .ok (.goto (-42), 3) ∧ decode cX4_firstWordNearer 39 = .ok (.iload_n 2, 1) ∧ decode cX4_firstWordNearer 40 = .ok (.ireturn, 1) := by decide +kernel
theorem dX4_firstWordNearer_33 : decode cX4_firstWordNearer 33 = .ok (.iaload, 1) := gdX4_firstWordNearer_33.1
theorem dX4_firstWordNearer_34 : decode cX4_firstWordNearer 34 = .ok (.iconst 1, 1) := gdX4_firstWordNearer_33.2.1
theorem dX4_firstWordNearer_35 : decode cX4_firstWordNearer 35 = .ok (.isub, 1) := gdX4_firstWordNearer_33.2.2.1
theorem dX4_firstWordNearer_36 : decode cX4_firstWordNearer 36 = .ok (.if_icmp .ne 5, 3) := gdX4_firstWordNearer_33.2.2.2.1
theorem dX4_firstWordNearer_41 : decode cX4_firstWordNearer 41 = .ok (.iinc 2 1, 3) := gdX4_firstWordNearer_33.2.2.2.2.1
theorem dX4_firstWordNearer_44 : decode cX4_firstWordNearer 44 = .ok (.goto (-42), 3) := gdX4_firstWordNearer_33.2.2.2.2.2.1
theorem dX4_firstWordNearer_39 : decode cX4_firstWordNearer 39 = .ok (.iload_n 2, 1) := gdX4_firstWordNearer_33.2.2.2.2.2.2.1
theorem dX4_firstWordNearer_40 : decode cX4_firstWordNearer 40 = .ok (.ireturn, 1) := gdX4_firstWordNearer_33.2.2.2.2.2.2.2
set_option maxHeartbeats 1000000 in
set_option maxRecDepth 100000 in
theorem s_firstWordNearer (l : Launch) (D : va_G) (cy : Nat → ClassId) (h0 : Nat) (h1 : Nat) (h2 : Nat) (h3 : Nat) (h4 : Nat) (h5 : Nat) (h6 : Nat) (h7 : Nat) (h8 : Nat) (h9 : Nat) (h10 : Nat) (h11 : Nat) (hv0 : Value) (hv1 : Value) (hv2 : Value) (hv3 : Value) (hv4 : Value) (fc : Nat → Int32) (c0 : Nat) (c1 : Nat) (c2 : Nat) (c3 : Nat) (fx : Nat → Int32) (fl : Nat → Int32) (sx : Nat) (hcn : cntOK fc c0 c1 c2 c3) (hc0 : c0 ≤ 8) (hc1 : c1 ≤ 4) (hc2 : c2 ≤ 4) (hc3 : c3 ≤ 6) (hnx : rng fx 48 5) (hsl : slOK fl) (hsx : sx ≤ 5) : XMi l D (tyL cy) E0 yX4_firstWordNearer cX4_firstWordNearer 3 (some .int) (rmk 0 0 0) [.ref h0, .int (nI sx)] [wO h0 4 [.ref h1, .ref h2, .ref h3, .ref h4, .ref h5, .ref h6, .ref h7, .ref h8, .ref h9, .ref h10, .ref h11, hv0, hv1, hv2, hv3, hv4], wI (cy 1) h1 4 (fc), wI (cy 1) h7 48 (fx), wI (cy 1) h8 6 (fl)] (fun (r : Int32) (k : Nat) => (r = nI k) ∧ (k ≤ 7)) (fun (k : Nat) => [wO h0 4 [.ref h1, .ref h2, .ref h3, .ref h4, .ref h5, .ref h6, .ref h7, .ref h8, .ref h9, .ref h10, .ref h11, hv0, hv1, hv2, hv3, hv4], wI (cy 1) h1 4 (fc), wI (cy 1) h7 48 (fx), wI (cy 1) h8 6 (fl)]) := by
  refine XMi.start (by decide) (Nat.le_of_ble_eq_true rfl) ?_
  intro p e s m below meth c args A ls Q hat hQ
  obtain ⟨hx, hb, hr, hml, hown, hg, hlocks, hin, hK, hA, hP, hD, hS, hE, hl⟩ := hat
  have hown : s.vm.findClass RX4 = some m.cls := hown
  have hl : lv_has ls 3 [(0, .ref h0), (1, .int (nI sx))] := hl
  refine lv_iconst (v := 0) hx hb dX4_firstWordNearer_0 (by decide) ?_
  refine lv_istore_n (lv' := [(2, .int 0), (0, .ref h0), (1, .int (nI sx))]) hx hb dX4_firstWordNearer_1 rfl hl (by decide) rfl (fun ls hl => ?_)
  have loop1 : ∀ (zn : Nat) (i1 : Nat), (i1 ≤ c0) → c0 - i1 + 1 ≤ zn → ∀ (H : Heap) (locs : List Loc), va_P D vwCl [wO h0 4 [.ref h1, .ref h2, .ref h3, .ref h4, .ref h5, .ref h6, .ref h7, .ref h8, .ref h9, .ref h10, .ref h11, hv0, hv1, hv2, hv3, hv4], wI (cy 1) h1 4 (fc), wI (cy 1) h7 48 (fx), wI (cy 1) h8 6 (fl)] H → va_D A [wO h0 4 [.ref h1, .ref h2, .ref h3, .ref h4, .ref h5, .ref h6, .ref h7, .ref h8, .ref h9, .ref h10, .ref h11, hv0, hv1, hv2, hv3, hv4], wI (cy 1) h1 4 (fc), wI (cy 1) h7 48 (fx), wI (cy 1) h8 6 (fl)] → va_S A s.heap H locs → ∀ ls : Array Slot, lv_has ls 3 [(2, .int (nI i1)), (0, .ref h0), (1, .int (nI sx))] → W p l e (rmk 0 0 0) s m args below meth c H locs 0 0 Q (F0 m 2 ls []) := by
    try clear hP hD hS
    intro zn
    induction zn with
    | zero => intro i1 _ hz; exact absurd hz (by omega)
    | succ zn ih1 =>
      intro i1 hf0_1 hmu1 H locs hP hD hS ls hl
      refine lv_iload_n hx hb dX4_firstWordNearer_2 rfl (lv_at hl 0 rfl) ?_
      refine lv_aload_n hx hb dX4_firstWordNearer_3 rfl (lv_at hl 1 rfl) ?_
      refine va_get (D := D) (ci := 4) (v := .ref h1) (C := RX4) (T := TX4) (N := 16) hx hb hg i_X4 hown hK hP 0 rfl rfl 0 (by decide) (hg _ m_329) (fun _ h9 => h9) rfl dX4_firstWordNearer_4 ?_
      refine lv_iconst (v := 0) hx hb dX4_firstWordNearer_7 (by decide) ?_
      refine va_iald hx hb hK hP 1 1 rfl rfl (by unfold vp_in; decide) dX4_firstWordNearer_8 ?_
      refine lv_topi (fun y_2 hy_2 => ?_)
      obtain rfl : y_2 = nI c0 := hy_2.trans hcn.1
      refine lv_icmp_ge (tgt := 47) hx hb dX4_firstWordNearer_9 (by decide) (fun c_3 => ?_) (fun c_3 => ?_)
      · have q_4 : c0 ≤ i1 := q_le (a := c0) (b := i1) rfl rfl (by omega) (by omega) c_3
        refine lv_iconst (v := 0) hx hb dX4_firstWordNearer_47 (by decide) ?_
        exact x_iret hQ hx hb hr hlocks hK hP hD hS dX4_firstWordNearer_48 0 (⟨rfl, (show 0 ≤ 7 from by omega)⟩) [0, 1, 2, 3] (by decide +kernel) rfl (Nat.le_of_ble_eq_true rfl) (Nat.le_of_ble_eq_true rfl)
      · have q_4 : i1 < c0 := q_nle (a := c0) (b := i1) rfl rfl (by omega) (by omega) c_3
        refine lv_aload_n hx hb dX4_firstWordNearer_12 rfl (lv_at hl 1 rfl) ?_
        refine va_get (D := D) (ci := 4) (v := .ref h8) (C := RX4) (T := TX4) (N := 16) hx hb hg i_X4 hown hK hP 0 rfl rfl 7 (by decide) (hg _ m_359) (fun _ h9 => h9) rfl dX4_firstWordNearer_13 ?_
        refine lv_aload_n hx hb dX4_firstWordNearer_16 rfl (lv_at hl 1 rfl) ?_
        refine va_get (D := D) (ci := 4) (v := .ref h7) (C := RX4) (T := TX4) (N := 16) hx hb hg i_X4 hown hK hP 0 rfl rfl 6 (by decide) (hg _ m_354) (fun _ h9 => h9) rfl dX4_firstWordNearer_17 ?_
        refine lv_iload_n hx hb dX4_firstWordNearer_20 rfl (lv_at hl 2 rfl) ?_
        refine lv_bipush (v := 8) hx hb dX4_firstWordNearer_21 (by decide) ?_
        refine lv_imul hx hb dX4_firstWordNearer_23 ?_
        refine lv_topi (fun y_5 hy_5 => ?_)
        obtain rfl : y_5 = nI (sx * 8) := hy_5.trans (pk_mul sx 8)
        refine lv_iload_n hx hb dX4_firstWordNearer_24 rfl (lv_at hl 0 rfl) ?_
        refine lv_iadd hx hb dX4_firstWordNearer_25 ?_
        refine lv_topi (fun y_6 hy_6 => ?_)
        obtain rfl : y_6 = nI ((sx * 8) + i1) := hy_6.trans (nI_add ((sx * 8)) i1)
        refine va_iald hx hb hK hP 2 1 rfl rfl (vp_in_nI (by omega) (by decide)) dX4_firstWordNearer_26 ?_
        obtain ⟨j_7, hj_7, ej_7⟩ := rng_at hnx (i := ((sx * 8) + i1)) (by omega) (by decide)
        refine lv_topi (fun y_8 hy_8 => ?_)
        obtain rfl : y_8 = nI j_7 := hy_8.trans ej_7
        refine va_iald hx hb hK hP 3 1 rfl rfl (vp_in_nI (by omega) (by decide)) dX4_firstWordNearer_27 ?_
        obtain ⟨j_9, hj_9, ej_9⟩ := sl_at hsl (i := j_7) (by omega)
        refine lv_topi (fun y_10 hy_10 => ?_)
        obtain rfl : y_10 = nI j_9 := hy_10.trans ej_9
        refine lv_aload_n hx hb dX4_firstWordNearer_28 rfl (lv_at hl 1 rfl) ?_
        refine va_get (D := D) (ci := 4) (v := .ref h8) (C := RX4) (T := TX4) (N := 16) hx hb hg i_X4 hown hK hP 0 rfl rfl 7 (by decide) (hg _ m_359) (fun _ h9 => h9) rfl dX4_firstWordNearer_29 ?_
        refine lv_iload_n hx hb dX4_firstWordNearer_32 rfl (lv_at hl 2 rfl) ?_
        refine va_iald hx hb hK hP 3 1 rfl rfl (vp_in_nI (by omega) (by decide)) dX4_firstWordNearer_33 ?_
        obtain ⟨j_11, hj_11, ej_11⟩ := sl_at hsl (i := sx) (by omega)
        refine lv_topi (fun y_12 hy_12 => ?_)
        obtain rfl : y_12 = nI j_11 := hy_12.trans ej_11
        refine lv_iconst (v := 1) hx hb dX4_firstWordNearer_34 (by decide) ?_
        refine lv_isub hx hb dX4_firstWordNearer_35 ?_
        refine lv_topi (fun x_13 ex_13 => ?_)
        refine lv_icmp_ne (tgt := 41) hx hb dX4_firstWordNearer_36 (by decide) (fun c_36 => ?_) (fun c_36 => ?_)
        · refine lv_iinc (v := nI (i1 + 1)) (lv' := [(2, .int (nI (i1 + 1))), (0, .ref h0), (1, .int (nI sx))]) hx hb dX4_firstWordNearer_41 hl (k := 0) rfl (nI_add i1 1) (by decide) rfl (fun ls hl => ?_)
          refine lv_goto (tgt := 2) hx hb dX4_firstWordNearer_44 (by decide) ?_
          exact ih1  ((i1 + 1)) (by omega) (by omega) _ _ (hP.sub [0, 1, 2, 3] rfl) (hD.sub [0, 1, 2, 3] (by decide +kernel) rfl) hS ls (lv_sub hl [0, 1, 2] rfl)
        · refine lv_iload_n hx hb dX4_firstWordNearer_39 rfl (lv_at hl 0 rfl) ?_
          exact x_iret hQ hx hb hr hlocks hK hP hD hS dX4_firstWordNearer_40 i1 (⟨rfl, (show i1 ≤ 7 from by omega)⟩) [0, 1, 2, 3] (by decide +kernel) rfl (Nat.le_of_ble_eq_true rfl) (Nat.le_of_ble_eq_true rfl)
  exact loop1 _ 0 (by omega) (Nat.le_refl _) _ _ (hP.sub [0, 1, 2, 3] rfl) (hD.sub [0, 1, 2, 3] (by decide +kernel) rfl) hS ls (lv_sub hl [0, 1, 2] rfl)
theorem sl_full {f : Nat → Int32} (h : ∀ k, k < 6 → ∃ j : Nat, (j ≤ 5 ∨ j = 99) ∧ f k = nI j) : slOK f := h
def slTo (f : Nat → Int32) (i : Nat) : Prop := ∀ k, k < i → ∃ j : Nat, (j ≤ 5 ∨ j = 99) ∧ f k = nI j
theorem slTo_put {f : Nat → Int32} {i j : Nat} (hi : i < 2 ^ 31) (h : slTo f i) (hj : j ≤ 5 ∨ j = 99) : slTo (upd f (nI i).toNatClampNeg (nI j)) (i + 1) := by
  intro k hk
  rw [nI_clamp hi]
  by_cases e : k = i
  · exact ⟨j, hj, by rw [e]; exact pk_us⟩
  · rw [pk_un e]; exact h k (by omega)
theorem n99 {j : Nat} (hj : j < 2 ^ 31) (h : ¬ j = 99) : ¬ nI j = 99 := fun e => h (nI_inj hj (by decide) (e.trans (show (99 : Int32) = nI 99 by decide)))
theorem y99 {j : Nat} (h : j = 99) : nI j = 99 := by
  rw [h]
  decide
theorem gdX4_countStepsTo_0 : decode cX4_countStepsTo 0 = .ok (.iconst 0, 1) ∧ decode cX4_countStepsTo 1 = .ok (.istore_n 2, 1) ∧ decode cX4_countStepsTo 2 = .ok (.iload_n 2, 1) ∧ decode cX4_countStepsTo 3 = .ok (.bipush 6, 2) ∧ decode cX4_countStepsTo 5 = .ok (.if_icmp .ge 26, 3) ∧ decode cX4_countStepsTo 31 = .ok (.iconst 1, 1) ∧ decode cX4_countStepsTo 32 = .ok (.istore_n 2, 1) ∧ decode cX4_countStepsTo 33 = .ok (.iload_n 2, 1) ∧ decode cX4_countStepsTo 34 = .ok (.aload_n 0, 1) ∧ decode cX4_countStepsTo 35 = .ok (.getfield 9, 3) ∧ decode cX4_countStepsTo 38 = .ok (.iconst 3, 1) ∧ decode cX4_countStepsTo 39 = .ok (.iaload, 1) := by decide +kernel
theorem dX4_countStepsTo_0 : decode cX4_countStepsTo 0 = .ok (.iconst 0, 1) := gdX4_countStepsTo_0.1
theorem dX4_countStepsTo_1 : decode cX4_countStepsTo 1 = .ok (.istore_n 2, 1) := gdX4_countStepsTo_0.2.1
theorem dX4_countStepsTo_2 : decode cX4_countStepsTo 2 = .ok (.iload_n 2, 1) := gdX4_countStepsTo_0.2.2.1
theorem dX4_countStepsTo_3 : decode cX4_countStepsTo 3 = .ok (.bipush 6, 2) := gdX4_countStepsTo_0.2.2.2.1
theorem dX4_countStepsTo_5 : decode cX4_countStepsTo 5 = .ok (.if_icmp .ge 26, 3) := gdX4_countStepsTo_0.2.2.2.2.1
theorem dX4_countStepsTo_31 : decode cX4_countStepsTo 31 = .ok (.iconst 1, 1) := gdX4_countStepsTo_0.2.2.2.2.2.1
theorem dX4_countStepsTo_32 : decode cX4_countStepsTo 32 = .ok (.istore_n 2, 1) := gdX4_countStepsTo_0.2.2.2.2.2.2.1
theorem dX4_countStepsTo_33 : decode cX4_countStepsTo 33 = .ok (.iload_n 2, 1) := gdX4_countStepsTo_0.2.2.2.2.2.2.2.1
theorem dX4_countStepsTo_34 : decode cX4_countStepsTo 34 = .ok (.aload_n 0, 1) := gdX4_countStepsTo_0.2.2.2.2.2.2.2.2.1
theorem dX4_countStepsTo_35 : decode cX4_countStepsTo 35 = .ok (.getfield 9, 3) := gdX4_countStepsTo_0.2.2.2.2.2.2.2.2.2.1
theorem dX4_countStepsTo_38 : decode cX4_countStepsTo 38 = .ok (.iconst 3, 1) := gdX4_countStepsTo_0.2.2.2.2.2.2.2.2.2.2.1
theorem dX4_countStepsTo_39 : decode cX4_countStepsTo 39 = .ok (.iaload, 1) := gdX4_countStepsTo_0.2.2.2.2.2.2.2.2.2.2.2
theorem gdX4_countStepsTo_40 : decode cX4_countStepsTo 40 = .ok (.if_icmp .ge 56, 3) ∧ decode cX4_countStepsTo 96 = .ok (.return_, 1) ∧ decode cX4_countStepsTo 43 = .ok (.iconst 0, 1) ∧ decode cX4_countStepsTo 44 = .ok (.istore_n 3, 1) ∧ decode cX4_countStepsTo 45 = .ok (.iload_n 3, 1) ∧ decode cX4_countStepsTo 46 = .ok (.aload_n 0, 1) ∧ decode cX4_countStepsTo 47 = .ok (.getfield 9, 3) ∧ decode cX4_countStepsTo 50 = .ok (.iconst 3, 1) ∧ decode cX4_countStepsTo 51 = .ok (.iaload, 1) ∧ decode cX4_countStepsTo 52 = .ok (.if_icmp .ge 38, 3) ∧ decode cX4_countStepsTo 90 = .ok (.iinc 2 1, 3) ∧ decode cX4_countStepsTo 93 = .ok (.goto (-60), 3) := by decide +kernel
theorem dX4_countStepsTo_40 : decode cX4_countStepsTo 40 = .ok (.if_icmp .ge 56, 3) := gdX4_countStepsTo_40.1
theorem dX4_countStepsTo_96 : decode cX4_countStepsTo 96 = .ok (.return_, 1) := gdX4_countStepsTo_40.2.1
theorem dX4_countStepsTo_43 : decode cX4_countStepsTo 43 = .ok (.iconst 0, 1) := gdX4_countStepsTo_40.2.2.1
theorem dX4_countStepsTo_44 : decode cX4_countStepsTo 44 = .ok (.istore_n 3, 1) := gdX4_countStepsTo_40.2.2.2.1
theorem dX4_countStepsTo_45 : decode cX4_countStepsTo 45 = .ok (.iload_n 3, 1) := gdX4_countStepsTo_40.2.2.2.2.1
theorem dX4_countStepsTo_46 : decode cX4_countStepsTo 46 = .ok (.aload_n 0, 1) := gdX4_countStepsTo_40.2.2.2.2.2.1
theorem dX4_countStepsTo_47 : decode cX4_countStepsTo 47 = .ok (.getfield 9, 3) := gdX4_countStepsTo_40.2.2.2.2.2.2.1
theorem dX4_countStepsTo_50 : decode cX4_countStepsTo 50 = .ok (.iconst 3, 1) := gdX4_countStepsTo_40.2.2.2.2.2.2.2.1
theorem dX4_countStepsTo_51 : decode cX4_countStepsTo 51 = .ok (.iaload, 1) := gdX4_countStepsTo_40.2.2.2.2.2.2.2.2.1
theorem dX4_countStepsTo_52 : decode cX4_countStepsTo 52 = .ok (.if_icmp .ge 38, 3) := gdX4_countStepsTo_40.2.2.2.2.2.2.2.2.2.1
theorem dX4_countStepsTo_90 : decode cX4_countStepsTo 90 = .ok (.iinc 2 1, 3) := gdX4_countStepsTo_40.2.2.2.2.2.2.2.2.2.2.1
theorem dX4_countStepsTo_93 : decode cX4_countStepsTo 93 = .ok (.goto (-60), 3) := gdX4_countStepsTo_40.2.2.2.2.2.2.2.2.2.2.2
theorem gdX4_countStepsTo_55 : decode cX4_countStepsTo 55 = .ok (.aload_n 0, 1) ∧ decode cX4_countStepsTo 56 = .ok (.getfield 33, 3) ∧ decode cX4_countStepsTo 59 = .ok (.iload_n 3, 1) ∧ decode cX4_countStepsTo 60 = .ok (.iaload, 1) ∧ decode cX4_countStepsTo 61 = .ok (.bipush 99, 2) ∧ decode cX4_countStepsTo 63 = .ok (.if_icmp .ne 21, 3) ∧ decode cX4_countStepsTo 84 = .ok (.iinc 3 1, 3) ∧ decode cX4_countStepsTo 87 = .ok (.goto (-42), 3) ∧ decode cX4_countStepsTo 66 = .ok (.aload_n 0, 1) ∧ decode cX4_countStepsTo 67 = .ok (.iload_n 3, 1) ∧ decode cX4_countStepsTo 68 = .ok (.iload_n 2, 1) ∧ decode cX4_countStepsTo 69 = .ok (.iconst 1, 1) := by decide +kernel
theorem dX4_countStepsTo_55 : decode cX4_countStepsTo 55 = .ok (.aload_n 0, 1) := gdX4_countStepsTo_55.1
theorem dX4_countStepsTo_56 : decode cX4_countStepsTo 56 = .ok (.getfield 33, 3) := gdX4_countStepsTo_55.2.1
theorem dX4_countStepsTo_59 : decode cX4_countStepsTo 59 = .ok (.iload_n 3, 1) := gdX4_countStepsTo_55.2.2.1
theorem dX4_countStepsTo_60 : decode cX4_countStepsTo 60 = .ok (.iaload, 1) := gdX4_countStepsTo_55.2.2.2.1
theorem dX4_countStepsTo_61 : decode cX4_countStepsTo 61 = .ok (.bipush 99, 2) := gdX4_countStepsTo_55.2.2.2.2.1
theorem dX4_countStepsTo_63 : decode cX4_countStepsTo 63 = .ok (.if_icmp .ne 21, 3) := gdX4_countStepsTo_55.2.2.2.2.2.1
theorem dX4_countStepsTo_84 : decode cX4_countStepsTo 84 = .ok (.iinc 3 1, 3) := gdX4_countStepsTo_55.2.2.2.2.2.2.1
theorem dX4_countStepsTo_87 : decode cX4_countStepsTo 87 = .ok (.goto (-42), 3) := gdX4_countStepsTo_55.2.2.2.2.2.2.2.1
theorem dX4_countStepsTo_66 : decode cX4_countStepsTo 66 = .ok (.aload_n 0, 1) := gdX4_countStepsTo_55.2.2.2.2.2.2.2.2.1
theorem dX4_countStepsTo_67 : decode cX4_countStepsTo 67 = .ok (.iload_n 3, 1) := gdX4_countStepsTo_55.2.2.2.2.2.2.2.2.2.1
theorem dX4_countStepsTo_68 : decode cX4_countStepsTo 68 = .ok (.iload_n 2, 1) := gdX4_countStepsTo_55.2.2.2.2.2.2.2.2.2.2.1
theorem dX4_countStepsTo_69 : decode cX4_countStepsTo 69 = .ok (.iconst 1, 1) := gdX4_countStepsTo_55.2.2.2.2.2.2.2.2.2.2.2
theorem dX4_countStepsTo_70 : decode cX4_countStepsTo 70 = .ok (.isub, 1) := by decide +kernel
theorem dX4_countStepsTo_71 : decode cX4_countStepsTo 71 = .ok (.invokevirtual 104, 3) := by decide +kernel
theorem k_X4_104 : xV RX4 RX4 104 yX4_leadsToOneAt cX4_leadsToOneAt 4 (some .boolean) 2 := ⟨⟨m_1308, m_1310, m_57, m_137, m_1311⟩, rfl, by decide, by decide, by decide +kernel⟩
theorem gdX4_countStepsTo_74 : decode cX4_countStepsTo 74 = .ok (.ifCond .eq 10, 3) ∧ decode cX4_countStepsTo 77 = .ok (.aload_n 0, 1) ∧ decode cX4_countStepsTo 78 = .ok (.getfield 33, 3) ∧ decode cX4_countStepsTo 81 = .ok (.iload_n 3, 1) ∧ decode cX4_countStepsTo 82 = .ok (.iload_n 2, 1) ∧ decode cX4_countStepsTo 83 = .ok (.iastore, 1) ∧ decode cX4_countStepsTo 8 = .ok (.aload_n 0, 1) ∧ decode cX4_countStepsTo 9 = .ok (.getfield 33, 3) ∧ decode cX4_countStepsTo 12 = .ok (.iload_n 2, 1) ∧ decode cX4_countStepsTo 13 = .ok (.iload_n 2, 1) ∧ decode cX4_countStepsTo 14 = .ok (.iload_n 1, 1) ∧ decode cX4_countStepsTo 15 = .ok (.if_icmp .ne 7, 3) := by decide +kernel
theorem dX4_countStepsTo_74 : decode cX4_countStepsTo 74 = .ok (.ifCond .eq 10, 3) := gdX4_countStepsTo_74.1
theorem dX4_countStepsTo_77 : decode cX4_countStepsTo 77 = .ok (.aload_n 0, 1) := gdX4_countStepsTo_74.2.1
theorem dX4_countStepsTo_78 : decode cX4_countStepsTo 78 = .ok (.getfield 33, 3) := gdX4_countStepsTo_74.2.2.1
theorem dX4_countStepsTo_81 : decode cX4_countStepsTo 81 = .ok (.iload_n 3, 1) := gdX4_countStepsTo_74.2.2.2.1
theorem dX4_countStepsTo_82 : decode cX4_countStepsTo 82 = .ok (.iload_n 2, 1) := gdX4_countStepsTo_74.2.2.2.2.1
theorem dX4_countStepsTo_83 : decode cX4_countStepsTo 83 = .ok (.iastore, 1) := gdX4_countStepsTo_74.2.2.2.2.2.1
theorem dX4_countStepsTo_8 : decode cX4_countStepsTo 8 = .ok (.aload_n 0, 1) := gdX4_countStepsTo_74.2.2.2.2.2.2.1
theorem dX4_countStepsTo_9 : decode cX4_countStepsTo 9 = .ok (.getfield 33, 3) := gdX4_countStepsTo_74.2.2.2.2.2.2.2.1
theorem dX4_countStepsTo_12 : decode cX4_countStepsTo 12 = .ok (.iload_n 2, 1) := gdX4_countStepsTo_74.2.2.2.2.2.2.2.2.1
theorem dX4_countStepsTo_13 : decode cX4_countStepsTo 13 = .ok (.iload_n 2, 1) := gdX4_countStepsTo_74.2.2.2.2.2.2.2.2.2.1
theorem dX4_countStepsTo_14 : decode cX4_countStepsTo 14 = .ok (.iload_n 1, 1) := gdX4_countStepsTo_74.2.2.2.2.2.2.2.2.2.2.1
theorem dX4_countStepsTo_15 : decode cX4_countStepsTo 15 = .ok (.if_icmp .ne 7, 3) := gdX4_countStepsTo_74.2.2.2.2.2.2.2.2.2.2.2
theorem gdX4_countStepsTo_22 : decode cX4_countStepsTo 22 = .ok (.bipush 99, 2) ∧ decode cX4_countStepsTo 24 = .ok (.iastore, 1) ∧ decode cX4_countStepsTo 25 = .ok (.iinc 2 1, 3) ∧ decode cX4_countStepsTo 28 = .ok (.goto (-26), 3) ∧ decode cX4_countStepsTo 18 = .ok (.iconst 0, 1) ∧ decode cX4_countStepsTo 19 = .ok (.goto 5, 3) := by decide +kernel
theorem dX4_countStepsTo_22 : decode cX4_countStepsTo 22 = .ok (.bipush 99, 2) := gdX4_countStepsTo_22.1
theorem dX4_countStepsTo_24 : decode cX4_countStepsTo 24 = .ok (.iastore, 1) := gdX4_countStepsTo_22.2.1
theorem dX4_countStepsTo_25 : decode cX4_countStepsTo 25 = .ok (.iinc 2 1, 3) := gdX4_countStepsTo_22.2.2.1
theorem dX4_countStepsTo_28 : decode cX4_countStepsTo 28 = .ok (.goto (-26), 3) := gdX4_countStepsTo_22.2.2.2.1
theorem dX4_countStepsTo_18 : decode cX4_countStepsTo 18 = .ok (.iconst 0, 1) := gdX4_countStepsTo_22.2.2.2.2.1
theorem dX4_countStepsTo_19 : decode cX4_countStepsTo 19 = .ok (.goto 5, 3) := gdX4_countStepsTo_22.2.2.2.2.2
set_option maxHeartbeats 1000000 in
set_option maxRecDepth 100000 in
theorem s_countStepsTo (l : Launch) (D : va_G) (cy : Nat → ClassId) (h0 : Nat) (h1 : Nat) (h2 : Nat) (h3 : Nat) (h4 : Nat) (h5 : Nat) (h6 : Nat) (h7 : Nat) (h8 : Nat) (h9 : Nat) (h10 : Nat) (h11 : Nat) (hv0 : Value) (hv1 : Value) (hv2 : Value) (hv3 : Value) (hv4 : Value) (fc : Nat → Int32) (c0 : Nat) (c1 : Nat) (c2 : Nat) (c3 : Nat) (fx : Nat → Int32) (fl : Nat → Int32) (gg : Nat) (hcn : cntOK fc c0 c1 c2 c3) (hc0 : c0 ≤ 8) (hc1 : c1 ≤ 4) (hc2 : c2 ≤ 4) (hc3 : c3 ≤ 6) (hnx : rng fx 48 5) (hgg : gg < c3) : XMv l D (tyL cy) E0 yX4_countStepsTo cX4_countStepsTo 4 none (rmk 1 0 0) [.ref h0, .int (nI gg)] [wO h0 4 [.ref h1, .ref h2, .ref h3, .ref h4, .ref h5, .ref h6, .ref h7, .ref h8, .ref h9, .ref h10, .ref h11, hv0, hv1, hv2, hv3, hv4], wI (cy 1) h1 4 (fc), wI (cy 1) h7 48 (fx), wI (cy 1) h8 6 (fl)] (fun (fl2 : Nat → Int32) => (slOK fl2) ∧ (slJ (nC9 fx) c0 c3 gg fl2 c3 0)) (fun (fl2 : Nat → Int32) => [wO h0 4 [.ref h1, .ref h2, .ref h3, .ref h4, .ref h5, .ref h6, .ref h7, .ref h8, .ref h9, .ref h10, .ref h11, hv0, hv1, hv2, hv3, hv4], wI (cy 1) h1 4 (fc), wI (cy 1) h7 48 (fx), wI (cy 1) h8 6 (fl2)]) := by
  refine XMv.start (by decide) (Nat.le_of_ble_eq_true rfl) ?_
  intro p e s m below meth c args A ls Q hat hQ
  obtain ⟨hx, hb, hr, hml, hown, hg, hlocks, hin, hK, hA, hP, hD, hS, hE, hl⟩ := hat
  have hown : s.vm.findClass RX4 = some m.cls := hown
  have hl : lv_has ls 4 [(0, .ref h0), (1, .int (nI gg))] := hl
  refine lv_iconst (v := 0) hx hb dX4_countStepsTo_0 (by decide) ?_
  refine lv_istore_n (lv' := [(2, .int 0), (0, .ref h0), (1, .int (nI gg))]) hx hb dX4_countStepsTo_1 rfl hl (by decide) rfl (fun ls hl => ?_)
  have loop1 : ∀ (zn : Nat) (i1 : Nat) (fa1_1 : Nat → Int32), (i1 ≤ 6) → (slS gg fa1_1 i1) → 6 - i1 + 1 ≤ zn → ∀ (H : Heap) (locs : List Loc), va_P D vwCl [wO h0 4 [.ref h1, .ref h2, .ref h3, .ref h4, .ref h5, .ref h6, .ref h7, .ref h8, .ref h9, .ref h10, .ref h11, hv0, hv1, hv2, hv3, hv4], wI (cy 1) h1 4 (fc), wI (cy 1) h7 48 (fx), wI (cy 1) h8 6 (fa1_1)] H → va_D A [wO h0 4 [.ref h1, .ref h2, .ref h3, .ref h4, .ref h5, .ref h6, .ref h7, .ref h8, .ref h9, .ref h10, .ref h11, hv0, hv1, hv2, hv3, hv4], wI (cy 1) h1 4 (fc), wI (cy 1) h7 48 (fx), wI (cy 1) h8 6 (fa1_1)] → va_S A s.heap H locs → ∀ ls : Array Slot, lv_has ls 4 [(2, .int (nI i1)), (0, .ref h0), (1, .int (nI gg))] → W p l e (rmk 1 0 0) s m args below meth c H locs 0 0 Q (F0 m 2 ls []) := by
    try clear hP hD hS
    intro zn
    induction zn with
    | zero => intro i1 fa1_1 _ _ hz; exact absurd hz (by omega)
    | succ zn ih1 =>
      intro i1 fa1_1 hf0_1 hf1_1 hmu1 H locs hP hD hS ls hl
      refine lv_iload_n hx hb dX4_countStepsTo_2 rfl (lv_at hl 0 rfl) ?_
      refine lv_bipush (v := 6) hx hb dX4_countStepsTo_3 (by decide) ?_
      refine lv_icmp_ge (tgt := 31) hx hb dX4_countStepsTo_5 (by decide) (fun c_2 => ?_) (fun c_2 => ?_)
      · have q_3 : 6 ≤ i1 := q_le (a := 6) (b := i1) rfl rfl (by omega) (by omega) c_2
        have hs6 : slS gg fa1_1 6 := by have h9 := hf1_1; rwa [show i1 = 6 by omega] at h9
        have hs0 : slOK fa1_1 := slS_ok hs6
        have hJ0 : slJ (nC9 fx) c0 c3 gg fa1_1 1 0 := slS_J hs6 hgg
        refine lv_iconst (v := 1) hx hb dX4_countStepsTo_31 (by decide) ?_
        refine lv_istore_n (lv' := [(2, .int 1), (0, .ref h0), (1, .int (nI gg))]) hx hb dX4_countStepsTo_32 rfl hl (by decide) rfl (fun ls hl => ?_)
        have loop4 : ∀ (zn : Nat) (rd4 : Nat) (fa1_4 : Nat → Int32), (slOK fa1_4) → (1 ≤ rd4) → (rd4 ≤ 6) → (rd4 ≤ c3) → (slJ (nC9 fx) c0 c3 gg fa1_4 rd4 0) → 6 - rd4 + 1 ≤ zn → ∀ (H : Heap) (locs : List Loc), va_P D vwCl [wO h0 4 [.ref h1, .ref h2, .ref h3, .ref h4, .ref h5, .ref h6, .ref h7, .ref h8, .ref h9, .ref h10, .ref h11, hv0, hv1, hv2, hv3, hv4], wI (cy 1) h1 4 (fc), wI (cy 1) h7 48 (fx), wI (cy 1) h8 6 (fa1_4)] H → va_D A [wO h0 4 [.ref h1, .ref h2, .ref h3, .ref h4, .ref h5, .ref h6, .ref h7, .ref h8, .ref h9, .ref h10, .ref h11, hv0, hv1, hv2, hv3, hv4], wI (cy 1) h1 4 (fc), wI (cy 1) h7 48 (fx), wI (cy 1) h8 6 (fa1_4)] → va_S A s.heap H locs → ∀ ls : Array Slot, lv_has ls 4 [(2, .int (nI rd4)), (0, .ref h0), (1, .int (nI gg))] → W p l e (rmk 1 0 0) s m args below meth c H locs 0 0 Q (F0 m 33 ls []) := by
          try clear hP hD hS
          intro zn
          induction zn with
          | zero => intro rd4 fa1_4 _ _ _ _ _ hz; exact absurd hz (by omega)
          | succ zn ih4 =>
            intro rd4 fa1_4 ha2_4 hf0_4 hf1_4 hf2_4 hf3_4 hmu4 H locs hP hD hS ls hl
            refine lv_iload_n hx hb dX4_countStepsTo_33 rfl (lv_at hl 0 rfl) ?_
            refine lv_aload_n hx hb dX4_countStepsTo_34 rfl (lv_at hl 1 rfl) ?_
            refine va_get (D := D) (ci := 4) (v := .ref h1) (C := RX4) (T := TX4) (N := 16) hx hb hg i_X4 hown hK hP 0 rfl rfl 0 (by decide) (hg _ m_329) (fun _ h9 => h9) rfl dX4_countStepsTo_35 ?_
            refine lv_iconst (v := 3) hx hb dX4_countStepsTo_38 (by decide) ?_
            refine va_iald hx hb hK hP 1 1 rfl rfl (by unfold vp_in; decide) dX4_countStepsTo_39 ?_
            refine lv_topi (fun y_5 hy_5 => ?_)
            obtain rfl : y_5 = nI c3 := hy_5.trans hcn.2.2.2
            refine lv_icmp_ge (tgt := 96) hx hb dX4_countStepsTo_40 (by decide) (fun c_6 => ?_) (fun c_6 => ?_)
            · have q_7 : c3 ≤ rd4 := q_le (a := c3) (b := rd4) rfl rfl (by omega) (by omega) c_6
              exact x_vret hQ hx hb hr hlocks hK hP hD hS dX4_countStepsTo_96 fa1_4 (⟨ha2_4, (by have h9 := hf3_4; rwa [show rd4 = c3 by omega] at h9)⟩) [0, 1, 2, 3] (by decide +kernel) rfl (Nat.le_of_ble_eq_true rfl) (Nat.le_of_ble_eq_true rfl)
            · have q_7 : rd4 < c3 := q_nle (a := c3) (b := rd4) rfl rfl (by omega) (by omega) c_6
              refine lv_iconst (v := 0) hx hb dX4_countStepsTo_43 (by decide) ?_
              refine lv_istore_n (lv' := [(3, .int 0), (2, .int (nI rd4)), (0, .ref h0), (1, .int (nI gg))]) hx hb dX4_countStepsTo_44 rfl hl (by decide) rfl (fun ls hl => ?_)
              have loop8 : ∀ (zn : Nat) (sx8 : Nat) (fa1_8 : Nat → Int32), (slOK fa1_8) → (sx8 ≤ c3) → (slJ (nC9 fx) c0 c3 gg fa1_8 rd4 sx8) → c3 - sx8 + 1 ≤ zn → ∀ (H : Heap) (locs : List Loc), va_P D vwCl [wO h0 4 [.ref h1, .ref h2, .ref h3, .ref h4, .ref h5, .ref h6, .ref h7, .ref h8, .ref h9, .ref h10, .ref h11, hv0, hv1, hv2, hv3, hv4], wI (cy 1) h1 4 (fc), wI (cy 1) h7 48 (fx), wI (cy 1) h8 6 (fa1_8)] H → va_D A [wO h0 4 [.ref h1, .ref h2, .ref h3, .ref h4, .ref h5, .ref h6, .ref h7, .ref h8, .ref h9, .ref h10, .ref h11, hv0, hv1, hv2, hv3, hv4], wI (cy 1) h1 4 (fc), wI (cy 1) h7 48 (fx), wI (cy 1) h8 6 (fa1_8)] → va_S A s.heap H locs → ∀ ls : Array Slot, lv_has ls 4 [(3, .int (nI sx8)), (2, .int (nI rd4)), (0, .ref h0), (1, .int (nI gg))] → W p l e (rmk 1 0 0) s m args below meth c H locs 0 0 Q (F0 m 45 ls []) := by
                try clear hP hD hS
                intro zn
                induction zn with
                | zero => intro sx8 fa1_8 _ _ _ hz; exact absurd hz (by omega)
                | succ zn ih8 =>
                  intro sx8 fa1_8 ha2_8 hf0_8 hf1_8 hmu8 H locs hP hD hS ls hl
                  refine lv_iload_n hx hb dX4_countStepsTo_45 rfl (lv_at hl 0 rfl) ?_
                  refine lv_aload_n hx hb dX4_countStepsTo_46 rfl (lv_at hl 2 rfl) ?_
                  refine va_get (D := D) (ci := 4) (v := .ref h1) (C := RX4) (T := TX4) (N := 16) hx hb hg i_X4 hown hK hP 0 rfl rfl 0 (by decide) (hg _ m_329) (fun _ h9 => h9) rfl dX4_countStepsTo_47 ?_
                  refine lv_iconst (v := 3) hx hb dX4_countStepsTo_50 (by decide) ?_
                  refine va_iald hx hb hK hP 1 1 rfl rfl (by unfold vp_in; decide) dX4_countStepsTo_51 ?_
                  refine lv_topi (fun y_9 hy_9 => ?_)
                  obtain rfl : y_9 = nI c3 := hy_9.trans hcn.2.2.2
                  refine lv_icmp_ge (tgt := 90) hx hb dX4_countStepsTo_52 (by decide) (fun c_10 => ?_) (fun c_10 => ?_)
                  · have q_11 : c3 ≤ sx8 := q_le (a := c3) (b := sx8) rfl rfl (by omega) (by omega) c_10
                    refine lv_iinc (v := nI (rd4 + 1)) (lv' := [(2, .int (nI (rd4 + 1))), (3, .int (nI sx8)), (0, .ref h0), (1, .int (nI gg))]) hx hb dX4_countStepsTo_90 hl (k := 1) rfl (nI_add rd4 1) (by decide) rfl (fun ls hl => ?_)
                    refine lv_goto (tgt := 33) hx hb dX4_countStepsTo_93 (by decide) ?_
                    exact ih4  ((rd4 + 1)) fa1_8 ha2_8 (by omega) (by omega) (by omega) (slJ_next hf1_8 (by omega)) (by omega) _ _ (hP.sub [0, 1, 2, 3] rfl) (hD.sub [0, 1, 2, 3] (by decide +kernel) rfl) hS ls (lv_sub hl [0, 2, 3] rfl)
                  · have q_11 : sx8 < c3 := q_nle (a := c3) (b := sx8) rfl rfl (by omega) (by omega) c_10
                    refine lv_aload_n hx hb dX4_countStepsTo_55 rfl (lv_at hl 2 rfl) ?_
                    refine va_get (D := D) (ci := 4) (v := .ref h8) (C := RX4) (T := TX4) (N := 16) hx hb hg i_X4 hown hK hP 0 rfl rfl 7 (by decide) (hg _ m_359) (fun _ h9 => h9) rfl dX4_countStepsTo_56 ?_
                    refine lv_iload_n hx hb dX4_countStepsTo_59 rfl (lv_at hl 0 rfl) ?_
                    refine va_iald hx hb hK hP 3 1 rfl rfl (vp_in_nI (by omega) (by decide)) dX4_countStepsTo_60 ?_
                    obtain ⟨j_12, hj_12, ej_12⟩ := sl_at ha2_8 (i := sx8) (by omega)
                    refine lv_topi (fun y_13 hy_13 => ?_)
                    obtain rfl : y_13 = nI j_12 := hy_13.trans ej_12
                    refine lv_bipush (v := 99) hx hb dX4_countStepsTo_61 (by decide) ?_
                    refine lv_icmp_ne (tgt := 84) hx hb dX4_countStepsTo_63 (by decide) (fun c_14 => ?_) (fun c_14 => ?_)
                    · have q_15 : ¬ j_12 = 99 := q_ne (a := j_12) (b := 99) rfl rfl (by omega) (by omega) c_14
                      refine lv_iinc (v := nI (sx8 + 1)) (lv' := [(3, .int (nI (sx8 + 1))), (2, .int (nI rd4)), (0, .ref h0), (1, .int (nI gg))]) hx hb dX4_countStepsTo_84 hl (k := 0) rfl (nI_add sx8 1) (by decide) rfl (fun ls hl => ?_)
                      refine lv_goto (tgt := 45) hx hb dX4_countStepsTo_87 (by decide) ?_
                      exact ih8  ((sx8 + 1)) fa1_8 ha2_8 (by omega) (slJ_keep hf1_8 (by omega) (by omega) ej_12.symm (n99 (by omega) (by omega))) (by omega) _ _ (hP.sub [0, 1, 2, 3] rfl) (hD.sub [0, 1, 2, 3] (by decide +kernel) rfl) hS ls (lv_sub hl [0, 1, 2, 3] rfl)
                    · have q_15 : j_12 = 99 := q_eq (a := j_12) (b := 99) rfl rfl (by omega) (by omega) c_14
                      refine lv_aload_n hx hb dX4_countStepsTo_66 rfl (lv_at hl 2 rfl) ?_
                      refine lv_iload_n hx hb dX4_countStepsTo_67 rfl (lv_at hl 0 rfl) ?_
                      refine lv_iload_n hx hb dX4_countStepsTo_68 rfl (lv_at hl 1 rfl) ?_
                      refine lv_iconst (v := 1) hx hb dX4_countStepsTo_69 (by decide) ?_
                      refine lv_isub hx hb dX4_countStepsTo_70 ?_
                      refine lv_topi (fun y_16 hy_16 => ?_)
                      obtain rfl : y_16 = nI (rd4 - 1) := hy_16.trans (pk_sub (a := rd4) (b := 1) (by omega))
                      refine x_callVi (q := (RX4, TX4, 16)) (ci := 4) (q0 := 0) (wr := []) (rest := []) ⟨hx, hb, hml, hown, hg, hl.1⟩ k_X4_104 (s_leadsToOneAt l D cy h0 h1 h2 h3 h4 h5 h6 h7 h8 h9 h10 h11 hv0 hv1 hv2 hv3 hv4 fc c0 c1 c2 c3 fx fa1_8 sx8 (nI (rd4 - 1)) (hcn) (by omega) (by omega) (by omega) (by omega) (hnx) (ha2_8) (by omega)) E0_blind hK hP hD hS hA [0, 1, 2, 3] [] ⟨rfl, rfl, by decide +kernel, by decide +kernel, by decide +kernel⟩ rfl rfl (fun _ _ _ => trivial) dX4_countStepsTo_71 rfl rfl (Nat.le_of_ble_eq_true rfl) ⟨Nat.le_of_ble_eq_true rfl, Nat.le_of_ble_eq_true rfl⟩ ⟨Nat.le_of_ble_eq_true rfl, Nat.le_of_ble_eq_true rfl⟩ (fun zr17 zu17 H locs hw17 hP9 hD9 hS9 => ?_)
                      clear hP hD hS
                      refine reW [wO h0 4 [.ref h1, .ref h2, .ref h3, .ref h4, .ref h5, .ref h6, .ref h7, .ref h8, .ref h9, .ref h10, .ref h11, hv0, hv1, hv2, hv3, hv4], wI (cy 1) h1 4 (fc), wI (cy 1) h7 48 (fx), wI (cy 1) h8 6 (fa1_8)] hP9 hD9 hS9 (fun hP hD hS => ?_)
                      clear hP9 hD9 hS9
                      refine W.widen (k := 0) (n := 0) (Nat.le_of_ble_eq_true rfl) (Nat.le_of_ble_eq_true rfl) ?_
                      replace hw17 : (zr17 = 0 ∨ zr17 = 1) ∧ (bR zr17 (leB fx fa1_8 sx8 (nI (rd4 - 1)) c0)) := hw17
                      obtain ⟨f_18, f_19⟩ := hw17
                      refine lv_if_eq (tgt := 84) hx hb dX4_countStepsTo_74 (by decide) (fun c_74 => ?_) (fun c_74 => ?_)
                      · refine lv_iinc (v := nI (sx8 + 1)) (lv' := [(3, .int (nI (sx8 + 1))), (2, .int (nI rd4)), (0, .ref h0), (1, .int (nI gg))]) hx hb dX4_countStepsTo_84 hl (k := 0) rfl (nI_add sx8 1) (by decide) rfl (fun ls hl => ?_)
                        refine lv_goto (tgt := 45) hx hb dX4_countStepsTo_87 (by decide) ?_
                        exact ih8  ((sx8 + 1)) fa1_8 ha2_8 (by omega) (slJ_none hf1_8 (by omega) (by omega) ej_12.symm (y99 (by omega)) (by omega) (sl_no hf1_8 (by omega) (by omega) (by omega) (by omega) ej_12.symm (y99 (by omega)) (bR_f f_19 c_74))) (by omega) _ _ (hP.sub [0, 1, 2, 3] rfl) (hD.sub [0, 1, 2, 3] (by decide +kernel) rfl) hS ls (lv_sub hl [0, 1, 2, 3] rfl)
                      · refine lv_aload_n hx hb dX4_countStepsTo_77 rfl (lv_at hl 2 rfl) ?_
                        refine va_get (D := D) (ci := 4) (v := .ref h8) (C := RX4) (T := TX4) (N := 16) hx hb hg i_X4 hown hK hP 0 rfl rfl 7 (by decide) (hg _ m_359) (fun _ h9 => h9) rfl dX4_countStepsTo_78 ?_
                        refine lv_iload_n hx hb dX4_countStepsTo_81 rfl (lv_at hl 0 rfl) ?_
                        refine lv_iload_n hx hb dX4_countStepsTo_82 rfl (lv_at hl 1 rfl) ?_
                        refine va_iast hx hb hK hP hD hS 3 1 rfl rfl (vp_in_nI (by omega) (by decide)) dX4_countStepsTo_83 (fun H locs hP9 hD9 hS9 => ?_)
                        clear hP hD hS
                        have hP := hP9
                        have hD := hD9
                        have hS := hS9
                        clear hP9 hD9 hS9
                        obtain ⟨g_20, eg_20⟩ : ∃ y, upd fa1_8 (nI sx8 : Int32).toNatClampNeg (nI rd4) = y := ⟨_, rfl⟩
                        rw [eg_20] at hP hD
                        have hr_21 : slOK g_20 := eg_20 ▸ sl_put ha2_8 (j := rd4) (by omega)
                        replace hP : va_P D vwCl [wO h0 4 [.ref h1, .ref h2, .ref h3, .ref h4, .ref h5, .ref h6, .ref h7, .ref h8, .ref h9, .ref h10, .ref h11, hv0, hv1, hv2, hv3, hv4], wI (cy 1) h1 4 (fc), wI (cy 1) h7 48 (fx), wI (cy 1) h8 6 (g_20)] H := hP
                        replace hD : va_D A [wO h0 4 [.ref h1, .ref h2, .ref h3, .ref h4, .ref h5, .ref h6, .ref h7, .ref h8, .ref h9, .ref h10, .ref h11, hv0, hv1, hv2, hv3, hv4], wI (cy 1) h1 4 (fc), wI (cy 1) h7 48 (fx), wI (cy 1) h8 6 (g_20)] := hD
                        refine lv_iinc (v := nI (sx8 + 1)) (lv' := [(3, .int (nI (sx8 + 1))), (2, .int (nI rd4)), (0, .ref h0), (1, .int (nI gg))]) hx hb dX4_countStepsTo_84 hl (k := 0) rfl (nI_add sx8 1) (by decide) rfl (fun ls hl => ?_)
                        refine lv_goto (tgt := 45) hx hb dX4_countStepsTo_87 (by decide) ?_
                        exact ih8  ((sx8 + 1)) g_20 hr_21 (by omega) (slJ_put hf1_8 (by omega) (by omega) ej_12.symm (y99 (by omega)) (by omega) (sl_yes hf1_8 hnx (by omega) (by omega) (by omega) (by omega) (by omega) (bR_t f_19 c_74)) eg_20) (by omega) _ _ (hP.sub [0, 1, 2, 3] rfl) (hD.sub [0, 1, 2, 3] (by decide +kernel) rfl) hS ls (lv_sub hl [0, 1, 2, 3] rfl)
              exact loop8 _ 0 fa1_4 ha2_4 (by omega) (hf3_4) (Nat.le_refl _) _ _ (hP.sub [0, 1, 2, 3] rfl) (hD.sub [0, 1, 2, 3] (by decide +kernel) rfl) hS ls (lv_sub hl [0, 1, 2, 3] rfl)
        exact loop4 _ 1 fa1_1 hs0 (by omega) (by omega) (by omega) (hJ0) (Nat.le_refl _) _ _ (hP.sub [0, 1, 2, 3] rfl) (hD.sub [0, 1, 2, 3] (by decide +kernel) rfl) hS ls (lv_sub hl [0, 1, 2] rfl)
      · have q_3 : i1 < 6 := q_nle (a := 6) (b := i1) rfl rfl (by omega) (by omega) c_2
        refine lv_aload_n hx hb dX4_countStepsTo_8 rfl (lv_at hl 1 rfl) ?_
        refine va_get (D := D) (ci := 4) (v := .ref h8) (C := RX4) (T := TX4) (N := 16) hx hb hg i_X4 hown hK hP 0 rfl rfl 7 (by decide) (hg _ m_359) (fun _ h9 => h9) rfl dX4_countStepsTo_9 ?_
        refine lv_iload_n hx hb dX4_countStepsTo_12 rfl (lv_at hl 0 rfl) ?_
        refine lv_iload_n hx hb dX4_countStepsTo_13 rfl (lv_at hl 0 rfl) ?_
        refine lv_iload_n hx hb dX4_countStepsTo_14 rfl (lv_at hl 2 rfl) ?_
        refine lv_icmp_ne (tgt := 22) hx hb dX4_countStepsTo_15 (by decide) (fun c_22 => ?_) (fun c_22 => ?_)
        · have q_23 : ¬ i1 = gg := q_ne (a := i1) (b := gg) rfl rfl (by omega) (by omega) c_22
          refine lv_bipush (v := 99) hx hb dX4_countStepsTo_22 (by decide) ?_
          refine va_iast hx hb hK hP hD hS 3 1 rfl rfl (vp_in_nI (by omega) (by decide)) dX4_countStepsTo_24 (fun H locs hP9 hD9 hS9 => ?_)
          clear hP hD hS
          obtain ⟨g_24, eg_24⟩ : ∃ y, upd fa1_1 (nI i1 : Int32).toNatClampNeg 99 = y := ⟨_, rfl⟩
          rw [eg_24] at hP9 hD9
          refine reW [wO h0 4 [.ref h1, .ref h2, .ref h3, .ref h4, .ref h5, .ref h6, .ref h7, .ref h8, .ref h9, .ref h10, .ref h11, hv0, hv1, hv2, hv3, hv4], wI (cy 1) h1 4 (fc), wI (cy 1) h7 48 (fx), wI (cy 1) h8 6 (g_24)] hP9 hD9 hS9 (fun hP hD hS => ?_)
          clear hP9 hD9 hS9
          refine lv_iinc (v := nI (i1 + 1)) (lv' := [(2, .int (nI (i1 + 1))), (0, .ref h0), (1, .int (nI gg))]) hx hb dX4_countStepsTo_25 hl (k := 0) rfl (nI_add i1 1) (by decide) rfl (fun ls hl => ?_)
          refine lv_goto (tgt := 2) hx hb dX4_countStepsTo_28 (by decide) ?_
          exact ih1  ((i1 + 1)) g_24 (by omega) (slS_put (by omega) hf1_1 (if_neg (by omega)).symm eg_24) (by omega) _ _ (hP.sub [0, 1, 2, 3] rfl) (hD.sub [0, 1, 2, 3] (by decide +kernel) rfl) hS ls (lv_sub hl [0, 1, 2] rfl)
        · have q_23 : i1 = gg := q_eq (a := i1) (b := gg) rfl rfl (by omega) (by omega) c_22
          refine lv_iconst (v := 0) hx hb dX4_countStepsTo_18 (by decide) ?_
          refine lv_goto (tgt := 24) hx hb dX4_countStepsTo_19 (by decide) ?_
          refine va_iast hx hb hK hP hD hS 3 1 rfl rfl (vp_in_nI (by omega) (by decide)) dX4_countStepsTo_24 (fun H locs hP9 hD9 hS9 => ?_)
          clear hP hD hS
          obtain ⟨g_25, eg_25⟩ : ∃ y, upd fa1_1 (nI i1 : Int32).toNatClampNeg 0 = y := ⟨_, rfl⟩
          rw [eg_25] at hP9 hD9
          refine reW [wO h0 4 [.ref h1, .ref h2, .ref h3, .ref h4, .ref h5, .ref h6, .ref h7, .ref h8, .ref h9, .ref h10, .ref h11, hv0, hv1, hv2, hv3, hv4], wI (cy 1) h1 4 (fc), wI (cy 1) h7 48 (fx), wI (cy 1) h8 6 (g_25)] hP9 hD9 hS9 (fun hP hD hS => ?_)
          clear hP9 hD9 hS9
          refine lv_iinc (v := nI (i1 + 1)) (lv' := [(2, .int (nI (i1 + 1))), (0, .ref h0), (1, .int (nI gg))]) hx hb dX4_countStepsTo_25 hl (k := 0) rfl (nI_add i1 1) (by decide) rfl (fun ls hl => ?_)
          refine lv_goto (tgt := 2) hx hb dX4_countStepsTo_28 (by decide) ?_
          exact ih1  ((i1 + 1)) g_25 (by omega) (slS_put (by omega) hf1_1 (if_pos (by omega)).symm eg_25) (by omega) _ _ (hP.sub [0, 1, 2, 3] rfl) (hD.sub [0, 1, 2, 3] (by decide +kernel) rfl) hS ls (lv_sub hl [0, 1, 2] rfl)
  exact loop1 _ 0 fl (by omega) (slS_0) (Nat.le_refl _) _ _ (hP.sub [0, 1, 2, 3] rfl) (hD.sub [0, 1, 2, 3] (by decide +kernel) rfl) hS ls (lv_sub hl [0, 1, 2] rfl)
theorem gdX4_pathTo_0 : decode cX4_pathTo 0 = .ok (.aload_n 0, 1) ∧ decode cX4_pathTo 1 = .ok (.iload_n 1, 1) ∧ decode cX4_pathTo 2 = .ok (.invokevirtual 97, 3) := by decide +kernel
theorem dX4_pathTo_0 : decode cX4_pathTo 0 = .ok (.aload_n 0, 1) := gdX4_pathTo_0.1
theorem dX4_pathTo_1 : decode cX4_pathTo 1 = .ok (.iload_n 1, 1) := gdX4_pathTo_0.2.1
theorem dX4_pathTo_2 : decode cX4_pathTo 2 = .ok (.invokevirtual 97, 3) := gdX4_pathTo_0.2.2
theorem k_X4_97 : xV RX4 RX4 97 yX4_countStepsTo cX4_countStepsTo 4 none 1 := ⟨⟨m_1304, m_1306, m_56, m_137, m_1307⟩, rfl, by decide, by decide, by decide +kernel⟩
theorem gdX4_pathTo_5 : decode cX4_pathTo 5 = .ok (.aload_n 0, 1) ∧ decode cX4_pathTo 6 = .ok (.getfield 33, 3) ∧ decode cX4_pathTo 9 = .ok (.iconst 0, 1) ∧ decode cX4_pathTo 10 = .ok (.iaload, 1) ∧ decode cX4_pathTo 11 = .ok (.istore_n 3, 1) ∧ decode cX4_pathTo 12 = .ok (.iload_n 3, 1) ∧ decode cX4_pathTo 13 = .ok (.bipush 99, 2) ∧ decode cX4_pathTo 15 = .ok (.if_icmp .ne 5, 3) ∧ decode cX4_pathTo 20 = .ok (.iconst 0, 1) ∧ decode cX4_pathTo 21 = .ok (.istore 4, 2) ∧ decode cX4_pathTo 23 = .ok (.iconst 0, 1) ∧ decode cX4_pathTo 24 = .ok (.istore 5, 2) := by decide +kernel
theorem dX4_pathTo_5 : decode cX4_pathTo 5 = .ok (.aload_n 0, 1) := gdX4_pathTo_5.1
theorem dX4_pathTo_6 : decode cX4_pathTo 6 = .ok (.getfield 33, 3) := gdX4_pathTo_5.2.1
theorem dX4_pathTo_9 : decode cX4_pathTo 9 = .ok (.iconst 0, 1) := gdX4_pathTo_5.2.2.1
theorem dX4_pathTo_10 : decode cX4_pathTo 10 = .ok (.iaload, 1) := gdX4_pathTo_5.2.2.2.1
theorem dX4_pathTo_11 : decode cX4_pathTo 11 = .ok (.istore_n 3, 1) := gdX4_pathTo_5.2.2.2.2.1
theorem dX4_pathTo_12 : decode cX4_pathTo 12 = .ok (.iload_n 3, 1) := gdX4_pathTo_5.2.2.2.2.2.1
theorem dX4_pathTo_13 : decode cX4_pathTo 13 = .ok (.bipush 99, 2) := gdX4_pathTo_5.2.2.2.2.2.2.1
theorem dX4_pathTo_15 : decode cX4_pathTo 15 = .ok (.if_icmp .ne 5, 3) := gdX4_pathTo_5.2.2.2.2.2.2.2.1
theorem dX4_pathTo_20 : decode cX4_pathTo 20 = .ok (.iconst 0, 1) := gdX4_pathTo_5.2.2.2.2.2.2.2.2.1
theorem dX4_pathTo_21 : decode cX4_pathTo 21 = .ok (.istore 4, 2) := gdX4_pathTo_5.2.2.2.2.2.2.2.2.2.1
theorem dX4_pathTo_23 : decode cX4_pathTo 23 = .ok (.iconst 0, 1) := gdX4_pathTo_5.2.2.2.2.2.2.2.2.2.2.1
theorem dX4_pathTo_24 : decode cX4_pathTo 24 = .ok (.istore 5, 2) := gdX4_pathTo_5.2.2.2.2.2.2.2.2.2.2.2
theorem gdX4_pathTo_26 : decode cX4_pathTo 26 = .ok (.iload 5, 2) ∧ decode cX4_pathTo 28 = .ok (.iload_n 3, 1) ∧ decode cX4_pathTo 29 = .ok (.if_icmp .ge 38, 3) ∧ decode cX4_pathTo 67 = .ok (.iload_n 3, 1) ∧ decode cX4_pathTo 68 = .ok (.ireturn, 1) ∧ decode cX4_pathTo 32 = .ok (.aload_n 0, 1) ∧ decode cX4_pathTo 33 = .ok (.iload 4, 2) ∧ decode cX4_pathTo 35 = .ok (.invokevirtual 101, 3) := by decide +kernel
theorem dX4_pathTo_26 : decode cX4_pathTo 26 = .ok (.iload 5, 2) := gdX4_pathTo_26.1
theorem dX4_pathTo_28 : decode cX4_pathTo 28 = .ok (.iload_n 3, 1) := gdX4_pathTo_26.2.1
theorem dX4_pathTo_29 : decode cX4_pathTo 29 = .ok (.if_icmp .ge 38, 3) := gdX4_pathTo_26.2.2.1
theorem dX4_pathTo_67 : decode cX4_pathTo 67 = .ok (.iload_n 3, 1) := gdX4_pathTo_26.2.2.2.1
theorem dX4_pathTo_68 : decode cX4_pathTo 68 = .ok (.ireturn, 1) := gdX4_pathTo_26.2.2.2.2.1
theorem dX4_pathTo_32 : decode cX4_pathTo 32 = .ok (.aload_n 0, 1) := gdX4_pathTo_26.2.2.2.2.2.1
theorem dX4_pathTo_33 : decode cX4_pathTo 33 = .ok (.iload 4, 2) := gdX4_pathTo_26.2.2.2.2.2.2.1
theorem dX4_pathTo_35 : decode cX4_pathTo 35 = .ok (.invokevirtual 101, 3) := gdX4_pathTo_26.2.2.2.2.2.2.2
theorem k_X4_101 : xV RX4 RX4 101 yX4_firstWordNearer cX4_firstWordNearer 3 (some .int) 1 := ⟨⟨m_1312, m_1314, m_58, m_137, m_1315⟩, rfl, by decide, by decide, by decide +kernel⟩
theorem gdX4_pathTo_38 : decode cX4_pathTo 38 = .ok (.istore 6, 2) ∧ decode cX4_pathTo 40 = .ok (.aload_n 2, 1) ∧ decode cX4_pathTo 41 = .ok (.iload 5, 2) ∧ decode cX4_pathTo 43 = .ok (.iload 6, 2) ∧ decode cX4_pathTo 45 = .ok (.iastore, 1) ∧ decode cX4_pathTo 46 = .ok (.aload_n 0, 1) ∧ decode cX4_pathTo 47 = .ok (.getfield 30, 3) ∧ decode cX4_pathTo 50 = .ok (.iload 4, 2) ∧ decode cX4_pathTo 52 = .ok (.bipush 8, 2) ∧ decode cX4_pathTo 54 = .ok (.imul, 1) ∧ decode cX4_pathTo 55 = .ok (.iload 6, 2) ∧ decode cX4_pathTo 57 = .ok (.iadd, 1) := by decide +kernel
theorem dX4_pathTo_38 : decode cX4_pathTo 38 = .ok (.istore 6, 2) := gdX4_pathTo_38.1
theorem dX4_pathTo_40 : decode cX4_pathTo 40 = .ok (.aload_n 2, 1) := gdX4_pathTo_38.2.1
theorem dX4_pathTo_41 : decode cX4_pathTo 41 = .ok (.iload 5, 2) := gdX4_pathTo_38.2.2.1
theorem dX4_pathTo_43 : decode cX4_pathTo 43 = .ok (.iload 6, 2) := gdX4_pathTo_38.2.2.2.1
theorem dX4_pathTo_45 : decode cX4_pathTo 45 = .ok (.iastore, 1) := gdX4_pathTo_38.2.2.2.2.1
theorem dX4_pathTo_46 : decode cX4_pathTo 46 = .ok (.aload_n 0, 1) := gdX4_pathTo_38.2.2.2.2.2.1
theorem dX4_pathTo_47 : decode cX4_pathTo 47 = .ok (.getfield 30, 3) := gdX4_pathTo_38.2.2.2.2.2.2.1
theorem dX4_pathTo_50 : decode cX4_pathTo 50 = .ok (.iload 4, 2) := gdX4_pathTo_38.2.2.2.2.2.2.2.1
theorem dX4_pathTo_52 : decode cX4_pathTo 52 = .ok (.bipush 8, 2) := gdX4_pathTo_38.2.2.2.2.2.2.2.2.1
theorem dX4_pathTo_54 : decode cX4_pathTo 54 = .ok (.imul, 1) := gdX4_pathTo_38.2.2.2.2.2.2.2.2.2.1
theorem dX4_pathTo_55 : decode cX4_pathTo 55 = .ok (.iload 6, 2) := gdX4_pathTo_38.2.2.2.2.2.2.2.2.2.2.1
theorem dX4_pathTo_57 : decode cX4_pathTo 57 = .ok (.iadd, 1) := gdX4_pathTo_38.2.2.2.2.2.2.2.2.2.2.2
theorem gdX4_pathTo_58 : decode cX4_pathTo 58 = .ok (.iaload, 1) ∧ decode cX4_pathTo 59 = .ok (.istore 4, 2) ∧ decode cX4_pathTo 61 = .ok (.iinc 5 1, 3) ∧ decode cX4_pathTo 64 = .ok (.goto (-38), 3) ∧ decode cX4_pathTo 18 = .ok (.iconst (-1), 1) ∧ decode cX4_pathTo 19 = .ok (.ireturn, 1) := by decide +kernel
theorem dX4_pathTo_58 : decode cX4_pathTo 58 = .ok (.iaload, 1) := gdX4_pathTo_58.1
theorem dX4_pathTo_59 : decode cX4_pathTo 59 = .ok (.istore 4, 2) := gdX4_pathTo_58.2.1
theorem dX4_pathTo_61 : decode cX4_pathTo 61 = .ok (.iinc 5 1, 3) := gdX4_pathTo_58.2.2.1
theorem dX4_pathTo_64 : decode cX4_pathTo 64 = .ok (.goto (-38), 3) := gdX4_pathTo_58.2.2.2.1
theorem dX4_pathTo_18 : decode cX4_pathTo 18 = .ok (.iconst (-1), 1) := gdX4_pathTo_58.2.2.2.2.1
theorem dX4_pathTo_19 : decode cX4_pathTo 19 = .ok (.ireturn, 1) := gdX4_pathTo_58.2.2.2.2.2
set_option maxHeartbeats 1000000 in
set_option maxRecDepth 100000 in
theorem s_pathTo (l : Launch) (D : va_G) (cy : Nat → ClassId) (h0 : Nat) (h1 : Nat) (h2 : Nat) (h3 : Nat) (h4 : Nat) (h5 : Nat) (h6 : Nat) (h7 : Nat) (h8 : Nat) (h9 : Nat) (h10 : Nat) (h11 : Nat) (hv0 : Value) (hv1 : Value) (hv2 : Value) (hv3 : Value) (hv4 : Value) (fc : Nat → Int32) (c0 : Nat) (c1 : Nat) (c2 : Nat) (c3 : Nat) (fx : Nat → Int32) (fl : Nat → Int32) (gg : Nat) (ly : Nat) (fy : Nat → Int32) (hcn : cntOK fc c0 c1 c2 c3) (hc0 : c0 ≤ 8) (hc1 : c1 ≤ 4) (hc2 : c2 ≤ 4) (hc3 : c3 ≤ 6) (hnx : rng fx 48 5) (hgg : gg < c3) : XMi l D (tyL cy) E0 yX4_pathTo cX4_pathTo 7 (some .int) (rmk 2 0 0) [.ref h0, .int (nI gg), .ref ly] [wO h0 4 [.ref h1, .ref h2, .ref h3, .ref h4, .ref h5, .ref h6, .ref h7, .ref h8, .ref h9, .ref h10, .ref h11, hv0, hv1, hv2, hv3, hv4], wI (cy 1) h1 4 (fc), wI (cy 1) h7 48 (fx), wI (cy 1) h8 6 (fl), wI (cy 1) ly 10 (fy)] (fun (r : Int32) (u : (Nat → Int32) × (Nat → Int32)) => (r = -1 ∨ ∃ k : Nat, k ≤ 5 ∧ r = nI k) ∧ (wyC (nC9 fx) c0 c3 gg r)) (fun (u : (Nat → Int32) × (Nat → Int32)) => [wO h0 4 [.ref h1, .ref h2, .ref h3, .ref h4, .ref h5, .ref h6, .ref h7, .ref h8, .ref h9, .ref h10, .ref h11, hv0, hv1, hv2, hv3, hv4], wI (cy 1) h1 4 (fc), wI (cy 1) h7 48 (fx), wI (cy 1) h8 6 (u.1), wI (cy 1) ly 10 (u.2)]) := by
  refine XMi.start (by decide) (Nat.le_of_ble_eq_true rfl) ?_
  intro p e s m below meth c args A ls Q hat hQ
  obtain ⟨hx, hb, hr, hml, hown, hg, hlocks, hin, hK, hA, hP, hD, hS, hE, hl⟩ := hat
  have hown : s.vm.findClass RX4 = some m.cls := hown
  have hl : lv_has ls 7 [(0, .ref h0), (1, .int (nI gg)), (2, .ref ly)] := hl
  refine lv_aload_n hx hb dX4_pathTo_0 rfl (lv_at hl 0 rfl) ?_
  refine lv_iload_n hx hb dX4_pathTo_1 rfl (lv_at hl 1 rfl) ?_
  refine x_callVv (q := (RX4, TX4, 16)) (ci := 4) (q0 := 0) (wr := [wI (cy 1) ly 10 (fy)]) (rest := []) ⟨hx, hb, hml, hown, hg, hl.1⟩ k_X4_97 (s_countStepsTo l D cy h0 h1 h2 h3 h4 h5 h6 h7 h8 h9 h10 h11 hv0 hv1 hv2 hv3 hv4 fc c0 c1 c2 c3 fx fl gg (hcn) (by omega) (by omega) (by omega) (by omega) (hnx) (by omega)) E0_blind hK hP hD hS hA [0, 1, 2, 3] [4] ⟨rfl, rfl, by decide +kernel, by decide +kernel, by decide +kernel⟩ rfl rfl (fun _ _ _ => trivial) dX4_pathTo_2 rfl rfl (Nat.le_of_ble_eq_true rfl) ⟨Nat.le_of_ble_eq_true rfl, Nat.le_of_ble_eq_true rfl⟩ ⟨Nat.le_of_ble_eq_true rfl, Nat.le_of_ble_eq_true rfl⟩ (fun zu1 H locs hw1 hP9 hD9 hS9 => ?_)
  clear hP hD hS
  obtain ⟨fl2_2, rfl⟩ : ∃ z, z = zu1 := ⟨_, rfl⟩
  refine reW [wI (cy 1) ly 10 (fy), wO h0 4 [.ref h1, .ref h2, .ref h3, .ref h4, .ref h5, .ref h6, .ref h7, .ref h8, .ref h9, .ref h10, .ref h11, hv0, hv1, hv2, hv3, hv4], wI (cy 1) h1 4 (fc), wI (cy 1) h7 48 (fx), wI (cy 1) h8 6 (fl2_2)] hP9 hD9 hS9 (fun hP hD hS => ?_)
  clear hP9 hD9 hS9
  refine W.widen (k := 0) (n := 0) (Nat.le_of_ble_eq_true rfl) (Nat.le_of_ble_eq_true rfl) ?_
  replace hw1 : (slOK fl2_2) ∧ (slJ (nC9 fx) c0 c3 gg fl2_2 c3 0) := hw1
  obtain ⟨f_3, f_4⟩ := hw1
  refine lv_aload_n hx hb dX4_pathTo_5 rfl (lv_at hl 0 rfl) ?_
  refine va_get (D := D) (ci := 4) (v := .ref h8) (C := RX4) (T := TX4) (N := 16) hx hb hg i_X4 hown hK hP 1 rfl rfl 7 (by decide) (hg _ m_359) (fun _ h9 => h9) rfl dX4_pathTo_6 ?_
  refine lv_iconst (v := 0) hx hb dX4_pathTo_9 (by decide) ?_
  refine va_iald hx hb hK hP 4 1 rfl rfl (by unfold vp_in; decide) dX4_pathTo_10 ?_
  obtain ⟨j_5, hj_5, ej_5⟩ := sl_at f_3 (i := 0) (by omega)
  refine lv_topi (fun y_6 hy_6 => ?_)
  obtain rfl : y_6 = nI j_5 := hy_6.trans ej_5
  refine lv_istore_n (lv' := [(3, .int (nI j_5)), (0, .ref h0), (1, .int (nI gg)), (2, .ref ly)]) hx hb dX4_pathTo_11 rfl hl (by decide) rfl (fun ls hl => ?_)
  refine lv_iload_n hx hb dX4_pathTo_12 rfl (lv_at hl 0 rfl) ?_
  refine lv_bipush (v := 99) hx hb dX4_pathTo_13 (by decide) ?_
  refine lv_icmp_ne (tgt := 20) hx hb dX4_pathTo_15 (by decide) (fun c_7 => ?_) (fun c_7 => ?_)
  · have q_8 : ¬ j_5 = 99 := q_ne (a := j_5) (b := 99) rfl rfl (by omega) (by omega) c_7
    refine lv_iconst (v := 0) hx hb dX4_pathTo_20 (by decide) ?_
    refine lv_istore (lv' := [(4, .int 0), (3, .int (nI j_5)), (0, .ref h0), (1, .int (nI gg)), (2, .ref ly)]) hx hb dX4_pathTo_21 hl (by decide) rfl (fun ls hl => ?_)
    refine lv_iconst (v := 0) hx hb dX4_pathTo_23 (by decide) ?_
    refine lv_istore (lv' := [(5, .int 0), (4, .int 0), (3, .int (nI j_5)), (0, .ref h0), (1, .int (nI gg)), (2, .ref ly)]) hx hb dX4_pathTo_24 hl (by decide) rfl (fun ls hl => ?_)
    have loop9 : ∀ (zn : Nat) (st9 : Nat) (i9 : Nat) (fa2_9 : Nat → Int32) (fa3_9 : Nat → Int32), (slOK fa2_9) → (i9 ≤ 5) → (st9 ≤ 5) → 5 - i9 + 1 ≤ zn → ∀ (H : Heap) (locs : List Loc), va_P D vwCl [wI (cy 1) ly 10 (fa3_9), wO h0 4 [.ref h1, .ref h2, .ref h3, .ref h4, .ref h5, .ref h6, .ref h7, .ref h8, .ref h9, .ref h10, .ref h11, hv0, hv1, hv2, hv3, hv4], wI (cy 1) h1 4 (fc), wI (cy 1) h7 48 (fx), wI (cy 1) h8 6 (fa2_9)] H → va_D A [wI (cy 1) ly 10 (fa3_9), wO h0 4 [.ref h1, .ref h2, .ref h3, .ref h4, .ref h5, .ref h6, .ref h7, .ref h8, .ref h9, .ref h10, .ref h11, hv0, hv1, hv2, hv3, hv4], wI (cy 1) h1 4 (fc), wI (cy 1) h7 48 (fx), wI (cy 1) h8 6 (fa2_9)] → va_S A s.heap H locs → ∀ ls : Array Slot, lv_has ls 7 [(5, .int (nI i9)), (4, .int (nI st9)), (3, .int (nI j_5)), (0, .ref h0), (1, .int (nI gg)), (2, .ref ly)] → W p l e (rmk 2 0 0) s m args below meth c H locs 0 0 Q (F0 m 26 ls []) := by
      try clear hP hD hS
      intro zn
      induction zn with
      | zero => intro st9 i9 fa2_9 fa3_9 _ _ _ hz; exact absurd hz (by omega)
      | succ zn ih9 =>
        intro st9 i9 fa2_9 fa3_9 ha3_9 hf0_9 hf1_9 hmu9 H locs hP hD hS ls hl
        refine lv_iload hx hb dX4_pathTo_26 (lv_at hl 0 rfl) ?_
        refine lv_iload_n hx hb dX4_pathTo_28 rfl (lv_at hl 2 rfl) ?_
        refine lv_icmp_ge (tgt := 67) hx hb dX4_pathTo_29 (by decide) (fun c_10 => ?_) (fun c_10 => ?_)
        · have q_11 : j_5 ≤ i9 := q_le (a := j_5) (b := i9) rfl rfl (by omega) (by omega) c_10
          refine lv_iload_n hx hb dX4_pathTo_67 rfl (lv_at hl 2 rfl) ?_
          exact x_iret hQ hx hb hr hlocks hK hP hD hS dX4_pathTo_68 (fa2_9, fa3_9) (⟨Or.inr ⟨j_5, by omega, rfl⟩, wy_yes f_4 (by omega) (by omega) ej_5 (by omega)⟩) [1, 2, 3, 4, 0] (by decide +kernel) rfl (Nat.le_of_ble_eq_true rfl) (Nat.le_of_ble_eq_true rfl)
        · have q_11 : i9 < j_5 := q_nle (a := j_5) (b := i9) rfl rfl (by omega) (by omega) c_10
          refine lv_aload_n hx hb dX4_pathTo_32 rfl (lv_at hl 3 rfl) ?_
          refine lv_iload hx hb dX4_pathTo_33 (lv_at hl 1 rfl) ?_
          refine x_callVi (q := (RX4, TX4, 16)) (ci := 4) (q0 := 0) (wr := [wI (cy 1) ly 10 (fa3_9)]) (rest := []) ⟨hx, hb, hml, hown, hg, hl.1⟩ k_X4_101 (s_firstWordNearer l D cy h0 h1 h2 h3 h4 h5 h6 h7 h8 h9 h10 h11 hv0 hv1 hv2 hv3 hv4 fc c0 c1 c2 c3 fx fa2_9 st9 (hcn) (by omega) (by omega) (by omega) (by omega) (hnx) (ha3_9) (by omega)) E0_blind hK hP hD hS hA [1, 2, 3, 4] [0] ⟨rfl, rfl, by decide +kernel, by decide +kernel, by decide +kernel⟩ rfl rfl (fun _ _ _ => trivial) dX4_pathTo_35 rfl rfl (Nat.le_of_ble_eq_true rfl) ⟨Nat.le_of_ble_eq_true rfl, Nat.le_of_ble_eq_true rfl⟩ ⟨Nat.le_of_ble_eq_true rfl, Nat.le_of_ble_eq_true rfl⟩ (fun zr12 zu12 H locs hw12 hP9 hD9 hS9 => ?_)
          clear hP hD hS
          obtain ⟨k_13, rfl⟩ : ∃ z, z = zu12 := ⟨_, rfl⟩
          refine reW [wI (cy 1) ly 10 (fa3_9), wO h0 4 [.ref h1, .ref h2, .ref h3, .ref h4, .ref h5, .ref h6, .ref h7, .ref h8, .ref h9, .ref h10, .ref h11, hv0, hv1, hv2, hv3, hv4], wI (cy 1) h1 4 (fc), wI (cy 1) h7 48 (fx), wI (cy 1) h8 6 (fa2_9)] hP9 hD9 hS9 (fun hP hD hS => ?_)
          clear hP9 hD9 hS9
          refine W.widen (k := 0) (n := 0) (Nat.le_of_ble_eq_true rfl) (Nat.le_of_ble_eq_true rfl) ?_
          replace hw12 : (zr12 = nI k_13) ∧ (k_13 ≤ 7) := hw12
          obtain ⟨f_14, f_15⟩ := hw12
          subst f_14
          refine lv_istore (lv' := [(6, .int (nI k_13)), (5, .int (nI i9)), (4, .int (nI st9)), (3, .int (nI j_5)), (0, .ref h0), (1, .int (nI gg)), (2, .ref ly)]) hx hb dX4_pathTo_38 hl (by decide) rfl (fun ls hl => ?_)
          refine lv_aload_n hx hb dX4_pathTo_40 rfl (lv_at hl 6 rfl) ?_
          refine lv_iload hx hb dX4_pathTo_41 (lv_at hl 1 rfl) ?_
          refine lv_iload hx hb dX4_pathTo_43 (lv_at hl 0 rfl) ?_
          refine va_iast hx hb hK hP hD hS 0 1 rfl rfl (vp_in_nI (by omega) (by decide)) dX4_pathTo_45 (fun H locs hP9 hD9 hS9 => ?_)
          clear hP hD hS
          obtain ⟨g_16, eg_16⟩ : ∃ y, upd fa3_9 (nI i9 : Int32).toNatClampNeg (nI k_13) = y := ⟨_, rfl⟩
          rw [eg_16] at hP9 hD9
          refine reW [wI (cy 1) ly 10 (g_16), wO h0 4 [.ref h1, .ref h2, .ref h3, .ref h4, .ref h5, .ref h6, .ref h7, .ref h8, .ref h9, .ref h10, .ref h11, hv0, hv1, hv2, hv3, hv4], wI (cy 1) h1 4 (fc), wI (cy 1) h7 48 (fx), wI (cy 1) h8 6 (fa2_9)] hP9 hD9 hS9 (fun hP hD hS => ?_)
          clear hP9 hD9 hS9
          refine lv_aload_n hx hb dX4_pathTo_46 rfl (lv_at hl 4 rfl) ?_
          refine va_get (D := D) (ci := 4) (v := .ref h7) (C := RX4) (T := TX4) (N := 16) hx hb hg i_X4 hown hK hP 1 rfl rfl 6 (by decide) (hg _ m_354) (fun _ h9 => h9) rfl dX4_pathTo_47 ?_
          refine lv_iload hx hb dX4_pathTo_50 (lv_at hl 2 rfl) ?_
          refine lv_bipush (v := 8) hx hb dX4_pathTo_52 (by decide) ?_
          refine lv_imul hx hb dX4_pathTo_54 ?_
          refine lv_topi (fun y_17 hy_17 => ?_)
          obtain rfl : y_17 = nI (st9 * 8) := hy_17.trans (pk_mul st9 8)
          refine lv_iload hx hb dX4_pathTo_55 (lv_at hl 0 rfl) ?_
          refine lv_iadd hx hb dX4_pathTo_57 ?_
          refine lv_topi (fun y_18 hy_18 => ?_)
          obtain rfl : y_18 = nI ((st9 * 8) + k_13) := hy_18.trans (nI_add ((st9 * 8)) k_13)
          refine va_iald hx hb hK hP 3 1 rfl rfl (vp_in_nI (by omega) (by decide)) dX4_pathTo_58 ?_
          obtain ⟨j_19, hj_19, ej_19⟩ := rng_at hnx (i := ((st9 * 8) + k_13)) (by omega) (by decide)
          refine lv_topi (fun y_20 hy_20 => ?_)
          obtain rfl : y_20 = nI j_19 := hy_20.trans ej_19
          refine lv_istore (lv' := [(4, .int (nI j_19)), (6, .int (nI k_13)), (5, .int (nI i9)), (3, .int (nI j_5)), (0, .ref h0), (1, .int (nI gg)), (2, .ref ly)]) hx hb dX4_pathTo_59 hl (by decide) rfl (fun ls hl => ?_)
          refine lv_iinc (v := nI (i9 + 1)) (lv' := [(5, .int (nI (i9 + 1))), (4, .int (nI j_19)), (6, .int (nI k_13)), (3, .int (nI j_5)), (0, .ref h0), (1, .int (nI gg)), (2, .ref ly)]) hx hb dX4_pathTo_61 hl (k := 2) rfl (nI_add i9 1) (by decide) rfl (fun ls hl => ?_)
          refine lv_goto (tgt := 26) hx hb dX4_pathTo_64 (by decide) ?_
          exact ih9  j_19 ((i9 + 1)) fa2_9 g_16 ha3_9 (by omega) (by omega) (by omega) _ _ (hP.sub [0, 1, 2, 3, 4] rfl) (hD.sub [0, 1, 2, 3, 4] (by decide +kernel) rfl) hS ls (lv_sub hl [0, 1, 3, 4, 5, 6] rfl)
    exact loop9 _ 0 0 fl2_2 fy f_3 (by omega) (by omega) (Nat.le_refl _) _ _ (hP.sub [0, 1, 2, 3, 4] rfl) (hD.sub [0, 1, 2, 3, 4] (by decide +kernel) rfl) hS ls (lv_sub hl [0, 1, 2, 3, 4, 5] rfl)
  · have q_8 : j_5 = 99 := q_eq (a := j_5) (b := 99) rfl rfl (by omega) (by omega) c_7
    refine lv_iconst (v := -1) hx hb dX4_pathTo_18 (by decide) ?_
    exact x_iret hQ hx hb hr hlocks hK hP hD hS dX4_pathTo_19 (fl2_2, fy) (⟨Or.inl rfl, wy_no f_4 (by omega) (by omega) ej_5 (by omega)⟩) [1, 2, 3, 4, 0] (by decide +kernel) rfl (Nat.le_of_ble_eq_true rfl) (Nat.le_of_ble_eq_true rfl)
