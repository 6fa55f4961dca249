def mL12 : List (Option Cond) := [some (Cond.selects RX1 yX1_straightPath yX1_straightPath), some (Cond.initialized RX1), some (Cond.fieldLink RX1 43 "CliffJudges$Hills" "counts" "[I"), some (Cond.fieldLink RX1 84 "CliffJudges$Hills" "next" "[I"), some (Cond.fieldLink RX1 74 "CliffJudges$Ear" "turned" "Z"), some (Cond.fieldLink RX1 31 "CliffJudges$Cries" "hills" "LCliffJudges$Hills;"), some (Cond.methodLink RX1 87 yX1_stateOf), some (Cond.static yX1_stateOf), some (Cond.code yX1_stateOf cX1_stateOf 2 (some .int)), some (Cond.methodLink RX1 81 yX1_straightPath), some (Cond.instanceMethod yX1_straightPath), some (Cond.code yX1_straightPath cX1_straightPath 3 (some .int)), some (Cond.constant RJ6 265 (1431655765)), some (Cond.constant RJ6 266 (858993459)), some (Cond.constant RJ6 267 (252645135))]
set_option maxRecDepth 100000 in
theorem mP12 : pick [41, 102, 188, 24, 162, 41, 609, 1, 1, 1, 2, 1, 35, 1, 1] lw_tbl = mL12 := rfl
set_option maxRecDepth 100000 in
theorem mG12 : mL12.all (fun o => o.all goodWord) = true := rfl
theorem m_41 : (Cond.selects RX1 yX1_straightPath yX1_straightPath) ∈ gT := gp mP12 mG12 0 rfl
theorem m_143 : (Cond.initialized RX1) ∈ gT := gp mP12 mG12 1 rfl
theorem m_331 : (Cond.fieldLink RX1 43 "CliffJudges$Hills" "counts" "[I") ∈ gT := gp mP12 mG12 2 rfl
theorem m_355 : (Cond.fieldLink RX1 84 "CliffJudges$Hills" "next" "[I") ∈ gT := gp mP12 mG12 3 rfl
theorem m_517 : (Cond.fieldLink RX1 74 "CliffJudges$Ear" "turned" "Z") ∈ gT := gp mP12 mG12 4 rfl
theorem m_558 : (Cond.fieldLink RX1 31 "CliffJudges$Cries" "hills" "LCliffJudges$Hills;") ∈ gT := gp mP12 mG12 5 rfl
theorem m_1167 : (Cond.methodLink RX1 87 yX1_stateOf) ∈ gT := gp mP12 mG12 6 rfl
theorem m_1168 : (Cond.static yX1_stateOf) ∈ gT := gp mP12 mG12 7 rfl
theorem m_1169 : (Cond.code yX1_stateOf cX1_stateOf 2 (some .int)) ∈ gT := gp mP12 mG12 8 rfl
theorem m_1170 : (Cond.methodLink RX1 81 yX1_straightPath) ∈ gT := gp mP12 mG12 9 rfl
theorem m_1172 : (Cond.instanceMethod yX1_straightPath) ∈ gT := gp mP12 mG12 10 rfl
theorem m_1173 : (Cond.code yX1_straightPath cX1_straightPath 3 (some .int)) ∈ gT := gp mP12 mG12 11 rfl
theorem m_1208 : (Cond.constant RJ6 265 (1431655765)) ∈ gT := gp mP12 mG12 12 rfl
theorem m_1209 : (Cond.constant RJ6 266 (858993459)) ∈ gT := gp mP12 mG12 13 rfl
theorem m_1210 : (Cond.constant RJ6 267 (252645135)) ∈ gT := gp mP12 mG12 14 rfl
theorem s31 : ∀ n, n < 32 → ((nI n &&& 31).toBitVec.smod 32).toNat = n := by decide +kernel
/-- what the WORDS so far do at one CLIFF: of each of six STATES, in three bits, a STATE of six -/
def pOK (v : Nat) : Prop := v < 524288 ∧ v % 8 ≤ 5 ∧ v / 8 % 8 ≤ 5 ∧ v / 64 % 8 ≤ 5 ∧ v / 512 % 8 ≤ 5 ∧ v / 4096 % 8 ≤ 5 ∧ v / 32768 % 8 ≤ 5
theorem pOK_dig {v i : Nat} (h : pOK v) (hi : i ≤ 5) : v / 2 ^ (3 * i) % 2 ^ 3 ≤ 5 := by
  obtain ⟨h0, h1, h2, h3, h4, h5, h6⟩ := h
  rcases (show i = 0 ∨ i = 1 ∨ i = 2 ∨ i = 3 ∨ i = 4 ∨ i = 5 by omega) with rfl | rfl | rfl | rfl | rfl | rfl <;> simp <;> omega
theorem st_of {v i : Nat} (hv : v < 2 ^ 31) (hi : i ≤ 5) : (nI v >>> (nI (3 * i) &&& 31)) &&& 7 = nI (v / 2 ^ (3 * i) % 2 ^ 3) := by
  rw [pk_shrN hv _ (3 * i) (s31 _ (by omega)), pk_andN (Nat.lt_of_le_of_lt (Nat.div_le_self _ _) (by omega)) 3 (by decide)]
theorem fa_or (a b : Nat) : nI a ||| nI b = nI (a ||| b) := by
  apply Int32.toBitVec_inj.1
  show BitVec.ofNat 32 a ||| BitVec.ofNat 32 b = BitVec.ofNat 32 (a ||| b)
  apply BitVec.eq_of_getLsbD_eq
  intro i hi
  simp [hi]
theorem or_pow {a b k : Nat} (h : a < 2 ^ k) : nI a ||| nI (b * 2 ^ k) = nI (b * 2 ^ k + a) := by
  rw [fa_or, Nat.or_comm, Nat.mul_comm, Nat.two_pow_add_eq_or_of_lt h]
theorem pOK_up {v : Nat} (h : pOK v) (h2 : v < 262144) : pOK (262144 + v) := by
  obtain ⟨h0, h1, h2, h3, h4, h5, h6⟩ := h
  refine ⟨by omega, ?_, ?_, ?_, ?_, ?_, ?_⟩ <;> omega
theorem pOK_small {k : Nat} (h : k ≤ 5) : pOK k := by
  refine ⟨by omega, ?_, ?_, ?_, ?_, ?_, ?_⟩ <;> omega
/-- the first i states told -/
def pTo (v i : Nat) : Prop := v < 8 ^ i ∧ pOK v
theorem pTo_0 : pTo 0 0 := ⟨by decide, pOK_small (by decide)⟩
theorem pTo_put {v i a : Nat} (hi : i ≤ 5) (ha : a ≤ 5) (h : pTo v i) : pTo (a * 2 ^ (3 * i) + v) (i + 1) := by
  obtain ⟨h, h0, h1, h2, h3, h4, h5, h6⟩ := h
  rcases (show i = 0 ∨ i = 1 ∨ i = 2 ∨ i = 3 ∨ i = 4 ∨ i = 5 by omega) with rfl | rfl | rfl | rfl | rfl | rfl <;> simp at h ⊢ <;> (refine ⟨by omega, by omega, ?_, ?_, ?_, ?_, ?_, ?_⟩ <;> omega)
def pRow (f : Nat → Int32) : Prop := ∀ k, k < 24 → ∃ v : Nat, pOK v ∧ f k = nI v
theorem pRow_at {f : Nat → Int32} (h : pRow f) {i : Nat} (hi : i < 24) : ∃ v : Nat, pOK v ∧ f (nI i).toNatClampNeg = nI v := by
  rw [nI_clamp (by omega)]; exact h i hi
theorem pRow_put {f : Nat → Int32} (h : pRow f) {k v : Nat} (hv : pOK v) : pRow (upd f k (nI v)) := by
  intro i hi
  by_cases e : i = k
  · exact ⟨v, hv, by rw [e]; exact pk_us⟩
  · rw [pk_un e]; exact h i hi
/-- counting, first, last and bits of a row of answers -/
def ctF (p : Nat → Bool) : Nat → Nat
  | 0 => 0
  | k + 1 => if p k = true then ctF p k + 1 else ctF p k
def fsF (p : Nat → Bool) : Nat → Int32
  | 0 => -1
  | k + 1 => if p k = true then (if fsF p k = -1 then nI k else fsF p k) else fsF p k
def lsF (p : Nat → Bool) : Nat → Int32
  | 0 => -1
  | k + 1 => if p k = true then nI k else lsF p k
def btF (p : Nat → Bool) : Nat → Int32
  | 0 => 0
  | k + 1 => if p k = true then btF p k ||| ((1 : Int32) <<< (nI k &&& 31)) else btF p k
theorem ctF_cg {p q : Nat → Bool} {n : Nat} (h : ∀ k, k < n → p k = q k) : ctF p n = ctF q n := by
  induction n with
  | zero => rfl
  | succ n ih =>
    show (if _ then _ else _) = (if _ then _ else _)
    rw [ih (fun k hk => h k (by omega)), h n (by omega)]
theorem fsF_cg {p q : Nat → Bool} {n : Nat} (h : ∀ k, k < n → p k = q k) : fsF p n = fsF q n := by
  induction n with
  | zero => rfl
  | succ n ih =>
    show (if _ then _ else _) = (if _ then _ else _)
    rw [ih (fun k hk => h k (by omega)), h n (by omega)]
theorem lsF_cg {p q : Nat → Bool} {n : Nat} (h : ∀ k, k < n → p k = q k) : lsF p n = lsF q n := by
  induction n with
  | zero => rfl
  | succ n ih =>
    show (if _ then _ else _) = (if _ then _ else _)
    rw [ih (fun k hk => h k (by omega)), h n (by omega)]
theorem btF_cg {p q : Nat → Bool} {n : Nat} (h : ∀ k, k < n → p k = q k) : btF p n = btF q n := by
  induction n with
  | zero => rfl
  | succ n ih =>
    show (if _ then _ else _) = (if _ then _ else _)
    rw [ih (fun k hk => h k (by omega)), h n (by omega)]
theorem ct_y {p : Nat → Bool} {k x : Nat} (h : x = ctF p k) (hp : p k = true) : x + 1 = ctF p (k + 1) := by
  show _ = if _ then _ else _
  rw [if_pos hp, h]
theorem ct_n {p : Nat → Bool} {k x : Nat} (h : x = ctF p k) (hp : p k = false) : x = ctF p (k + 1) := by
  show _ = if _ then _ else _
  rw [if_neg (by rw [hp]; decide), h]
theorem bt_y {p : Nat → Bool} {k : Nat} {x : Int32} (h : x = btF p k) (hp : p k = true) : x ||| ((1 : Int32) <<< (nI k &&& 31)) = btF p (k + 1) := by
  show _ = if _ then _ else _
  rw [if_pos hp, h]
theorem bt_n {p : Nat → Bool} {k : Nat} {x : Int32} (h : x = btF p k) (hp : p k = false) : x = btF p (k + 1) := by
  show _ = if _ then _ else _
  rw [if_neg (by rw [hp]; decide), h]
theorem fs_y {p : Nat → Bool} {k : Nat} {x : Int32} (h : x = fsF p k) (hp : p k = true) (hx : x = -1) : nI k = fsF p (k + 1) := by
  show _ = if _ then _ else _
  rw [if_pos hp, ← h, if_pos hx]
theorem fs_o {p : Nat → Bool} {k : Nat} {x : Int32} (h : x = fsF p k) (hp : p k = true) (hx : ¬ x = -1) : x = fsF p (k + 1) := by
  show _ = if _ then _ else _
  rw [if_pos hp, ← h, if_neg hx]
theorem fs_n {p : Nat → Bool} {k : Nat} {x : Int32} (h : x = fsF p k) (hp : p k = false) : x = fsF p (k + 1) := by
  show _ = if _ then _ else _
  rw [if_neg (by rw [hp]; decide), h]
theorem ls_y {p : Nat → Bool} {k : Nat} (hp : p k = true) : nI k = lsF p (k + 1) := by
  show _ = if _ then _ else _
  rw [if_pos hp]
theorem ls_n {p : Nat → Bool} {k : Nat} {x : Int32} (h : x = lsF p k) (hp : p k = false) : x = lsF p (k + 1) := by
  show _ = if _ then _ else _
  rw [if_neg (by rw [hp]; decide), h]
theorem ctF_le {p : Nat → Bool} {n : Nat} : ctF p n ≤ n := by
  induction n with
  | zero => exact Nat.le_refl 0
  | succ n ih =>
    show (if p n = true then ctF p n + 1 else ctF p n) ≤ n + 1
    by_cases h : p n = true
    · rw [if_pos h]; omega
    · rw [if_neg h]; omega
/-! all rows of n of the first c0 WORDS -/
def smF (g : Nat → Nat) : Nat → Nat
  | 0 => 0
  | k + 1 => smF g k + g k
theorem smF_cg {g h : Nat → Nat} {n : Nat} (e : ∀ k, k < n → g k = h k) : smF g n = smF h n := by
  induction n with
  | zero => rfl
  | succ n ih =>
    show smF g n + g n = smF h n + h n
    rw [ih (fun k hk => e k (by omega)), e n (by omega)]
theorem smF_le {g : Nat → Nat} {n b : Nat} (h : ∀ k, k < n → g k ≤ b) : smF g n ≤ n * b := by
  induction n with
  | zero => exact Nat.zero_le _
  | succ n ih =>
    have h1 := ih (fun k hk => h k (by omega))
    have h2 := h n (by omega)
    show smF g n + g n ≤ (n + 1) * b
    rw [Nat.succ_mul]
    omega
/-- the first of some -/
def foF {β : Type} (k : Nat → Option β) : Nat → Option β
  | 0 => none
  | w + 1 => match foF k w with
    | some x => some x
    | none => k w
theorem foF_cg {β : Type} {g h : Nat → Option β} {n : Nat} (e : ∀ k, k < n → g k = h k) : foF g n = foF h n := by
  induction n with
  | zero => rfl
  | succ n ih =>
    have e1 : foF g n = foF h n := ih (fun k hk => e k (by omega))
    show (match foF g n with | some x => some x | none => g n) = (match foF h n with | some x => some x | none => h n)
    rw [e1, e n (by omega)]
theorem foF_n {β : Type} {g : Nat → Option β} {n : Nat} (h : foF g n = none) (h2 : g n = none) : foF g (n + 1) = none := by
  show (match foF g n with | some x => some x | none => g n) = none
  rw [h]
  exact h2
theorem foF_y {β : Type} {g : Nat → Option β} {n m : Nat} {x : β} (h : foF g n = none) (h2 : g n = some x) (hm : n < m) : foF g m = some x := by
  induction m with
  | zero => omega
  | succ m ih =>
    show (match foF g m with | some x => some x | none => g m) = some x
    by_cases q : n = m
    · subst q
      rw [h]
      exact h2
    · rw [ih (by omega)]
theorem foF_all {β : Type} {g : Nat → Option β} {n : Nat} (h : ∀ k, k < n → g k = none) : foF g n = none := by
  induction n with
  | zero => rfl
  | succ n ih => exact foF_n (ih (fun k hk => h k (by omega))) (h n (by omega))
theorem foF_add {β : Type} {k : Nat → Option β} {a : Nat} (b : Nat) : foF k (a + b) = match foF k a with | some x => some x | none => foF (fun j => k (a + j)) b := by
  induction b with
  | zero =>
    rw [Nat.add_zero]
    cases foF k a <;> rfl
  | succ b ih =>
    show (match foF k (a + b) with | some x => some x | none => k (a + b)) = _
    rw [ih]
    cases h : foF k a with
    | some x => rfl
    | none => rfl
theorem foF_blk {β : Type} {k : Nat → Option β} {b : Nat} (a : Nat) : foF k (a * b) = foF (fun i => foF (fun j => k (i * b + j)) b) a := by
  induction a with
  | zero => rw [Nat.zero_mul]; rfl
  | succ a ih =>
    rw [Nat.succ_mul, foF_add, ih]
    rfl
theorem ctF_add {p : Nat → Bool} {a : Nat} (b : Nat) : ctF p (a + b) = ctF p a + ctF (fun j => p (a + j)) b := by
  induction b with
  | zero => rfl
  | succ b ih =>
    show (if p (a + b) = true then ctF p (a + b) + 1 else ctF p (a + b)) = ctF p a + (if p (a + b) = true then ctF (fun j => p (a + j)) b + 1 else ctF (fun j => p (a + j)) b)
    rw [ih]
    split <;> omega
theorem ctF_blk {p : Nat → Bool} {b : Nat} (a : Nat) : ctF p (a * b) = smF (fun i => ctF (fun j => p (i * b + j)) b) a := by
  induction a with
  | zero => rw [Nat.zero_mul]; rfl
  | succ a ih =>
    rw [Nat.succ_mul, ctF_add, ih]
    rfl
abbrev FNW : Type := Nat → Int32
def cnP (P : FNW → Bool) (c0 n : Nat) : Nat → FNW → Nat
  | 0, fw => if P fw = true then 1 else 0
  | m + 1, fw => smF (fun w => cnP P c0 n m (upd fw (n - (m + 1)) (nI w))) c0
def tr9 (n : Nat) (fw : FNW) : FNW := fun k => if k < n then fw k else 0
def fdP (P : FNW → Bool) (c0 n : Nat) : Nat → FNW → Option FNW
  | 0, fw => if P fw = true then some (tr9 n fw) else none
  | m + 1, fw => foF (fun w => fdP P c0 n m (upd fw (n - (m + 1)) (nI w))) c0
/-- the last m places of n are those of the number v -/
def mxD (c0 n m : Nat) (fw : FNW) (v : Nat) : FNW := fun k => if n - m ≤ k ∧ k < n then nI (v / c0 ^ (n - 1 - k) % c0) else fw k
theorem mxD_0 {c0 n : Nat} {fw : FNW} {v : Nat} : mxD c0 n 0 fw v = fw := by
  funext k
  unfold mxD
  rw [if_neg (by omega)]
theorem mxD_s {c0 n m w u : Nat} {fw : FNW} (hm : m + 1 ≤ n) (hw : w < c0) (hu : u < c0 ^ m) : mxD c0 n (m + 1) fw (w * c0 ^ m + u) = mxD c0 n m (upd fw (n - (m + 1)) (nI w)) u := by
  have hc : 0 < c0 := by omega
  funext k
  unfold mxD
  by_cases h1 : n - (m + 1) ≤ k ∧ k < n
  · rw [if_pos h1]
    by_cases h2 : n - m ≤ k ∧ k < n
    · rw [if_pos h2]
      congr 1
      have hp : c0 ^ m = c0 ^ (n - 1 - k) * (c0 * c0 ^ (m - (n - 1 - k) - 1)) := by
        rw [← Nat.pow_succ', ← Nat.pow_add]
        congr 1
        omega
      have hpos : 0 < c0 ^ (n - 1 - k) := Nat.pow_pos hc
      rw [hp, Nat.mul_left_comm, Nat.add_comm (c0 ^ (n - 1 - k) * _) u, Nat.add_mul_div_left _ _ hpos, ← Nat.mul_assoc, Nat.mul_comm w c0, Nat.mul_assoc, Nat.add_mul_mod_self_left]
    · have hk : k = n - (m + 1) := by omega
      rw [if_neg h2, hk, pk_us]
      congr 1
      rw [show n - 1 - (n - (m + 1)) = m by omega, Nat.add_comm, Nat.add_mul_div_right _ _ (Nat.pow_pos hc), Nat.div_eq_of_lt hu, Nat.zero_add, Nat.mod_eq_of_lt hw]
  · rw [if_neg h1, if_neg (by omega), pk_un (by omega)]
theorem cnP_ct {P : FNW → Bool} {c0 n : Nat} (m : Nat) : ∀ fw : FNW, m ≤ n → cnP P c0 n m fw = ctF (fun v => P (mxD c0 n m fw v)) (c0 ^ m) := by
  induction m with
  | zero =>
    intro fw _
    show (if P fw = true then 1 else 0) = if P (mxD c0 n 0 fw 0) = true then 0 + 1 else 0
    rw [mxD_0]
  | succ m ih =>
    intro fw hm
    rw [Nat.pow_succ', ctF_blk]
    show smF (fun w => cnP P c0 n m (upd fw (n - (m + 1)) (nI w))) c0 = _
    refine smF_cg (fun w hw => ?_)
    rw [ih _ (by omega)]
    refine ctF_cg (fun u hu => ?_)
    rw [mxD_s hm hw hu]
theorem fdP_fo {P : FNW → Bool} {c0 n : Nat} (m : Nat) : ∀ fw : FNW, m ≤ n → fdP P c0 n m fw = foF (fun v => if P (mxD c0 n m fw v) = true then some (tr9 n (mxD c0 n m fw v)) else none) (c0 ^ m) := by
  induction m with
  | zero =>
    intro fw _
    show (if P fw = true then some (tr9 n fw) else none) = (if P (mxD c0 n 0 fw 0) = true then some (tr9 n (mxD c0 n 0 fw 0)) else none)
    rw [mxD_0]
  | succ m ih =>
    intro fw hm
    rw [Nat.pow_succ', foF_blk]
    show foF (fun w => fdP P c0 n m (upd fw (n - (m + 1)) (nI w))) c0 = _
    refine foF_cg (fun w hw => ?_)
    rw [ih _ (by omega)]
    refine foF_cg (fun u hu => ?_)
    rw [mxD_s hm hw hu]
/-- the entries are WORDS -/
def okW (c0 : Nat) (fw : FNW) (d : Nat) : Prop := ∀ i, i < d → ∃ w : Nat, w < c0 ∧ fw i = nI w
theorem okW_put {c0 d w : Nat} {fw : FNW} (h : okW c0 fw d) (hw : w < c0) : okW c0 (upd fw d (nI w)) (d + 1) := by
  intro i hi
  by_cases q : i = d
  · rw [q, pk_us]; exact ⟨w, hw, rfl⟩
  · rw [pk_un q]; exact h i (by omega)
theorem cnP_cg {P Q : FNW → Bool} {c0 n : Nat} (hP : ∀ fw, okW c0 fw n → P fw = Q fw) (m : Nat) : ∀ fw : FNW, m ≤ n → okW c0 fw (n - m) → cnP P c0 n m fw = cnP Q c0 n m fw := by
  induction m with
  | zero =>
    intro fw _ h
    show (if P fw = true then 1 else 0) = if Q fw = true then 1 else 0
    rw [hP fw h]
  | succ m ih =>
    intro fw hm h
    refine smF_cg (fun w hw => ih _ (by omega) ?_)
    have h9 := okW_put h hw
    rwa [show n - (m + 1) + 1 = n - m by omega] at h9
theorem fdP_cg {P Q : FNW → Bool} {c0 n : Nat} (hP : ∀ fw, okW c0 fw n → P fw = Q fw) (m : Nat) : ∀ fw : FNW, m ≤ n → okW c0 fw (n - m) → fdP P c0 n m fw = fdP Q c0 n m fw := by
  induction m with
  | zero =>
    intro fw _ h
    show (if P fw = true then some (tr9 n fw) else none) = if Q fw = true then some (tr9 n fw) else none
    rw [hP fw h]
  | succ m ih =>
    intro fw hm h
    refine foF_cg (fun w hw => ih _ (by omega) ?_)
    have h9 := okW_put h hw
    rwa [show n - (m + 1) + 1 = n - m by omega] at h9
theorem cnP_le {P : FNW → Bool} {c0 n : Nat} (m : Nat) : ∀ fw : FNW, cnP P c0 n m fw ≤ c0 ^ m := by
  induction m with
  | zero =>
    intro fw
    show (if P fw = true then 1 else 0) ≤ 1
    split <;> omega
  | succ m ih =>
    intro fw
    have h9 := smF_le (g := fun w => cnP P c0 n m (upd fw (n - (m + 1)) (nI w))) (n := c0) (b := c0 ^ m) (fun w _ => ih _)
    rw [Nat.pow_succ']
    exact h9
/-- what stands ahead of the places that are chosen -/
def exN (P : FNW → Bool) (n : Nat) : Prop := ∀ f g : FNW, (∀ i, i < n → f i = g i) → P f = P g
theorem ag_put {f g : FNW} {d : Nat} {x : Int32} (h : ∀ i, i < d → f i = g i) : ∀ i, i < d + 1 → upd f d x i = upd g d x i := by
  intro i hi
  by_cases q : i = d
  · rw [q, pk_us, pk_us]
  · rw [pk_un q, pk_un q]; exact h i (by omega)
theorem tr_ag {f g : FNW} {n : Nat} (h : ∀ i, i < n → f i = g i) : tr9 n f = tr9 n g := by
  funext k
  unfold tr9
  by_cases q : k < n
  · rw [if_pos q, if_pos q, h k q]
  · rw [if_neg q, if_neg q]
theorem cnP_ag {P : FNW → Bool} {c0 n : Nat} (hP : exN P n) (m : Nat) : ∀ f g : FNW, m ≤ n → (∀ i, i < n - m → f i = g i) → cnP P c0 n m f = cnP P c0 n m g := by
  induction m with
  | zero =>
    intro f g _ h
    show (if P f = true then 1 else 0) = if P g = true then 1 else 0
    rw [hP f g h]
  | succ m ih =>
    intro f g hm h
    refine smF_cg (fun w hw => ih _ _ (by omega) ?_)
    have h9 := ag_put (x := nI w) h
    rwa [show n - (m + 1) + 1 = n - m by omega] at h9
theorem fdP_ag {P : FNW → Bool} {c0 n : Nat} (hP : exN P n) (m : Nat) : ∀ f g : FNW, m ≤ n → (∀ i, i < n - m → f i = g i) → fdP P c0 n m f = fdP P c0 n m g := by
  induction m with
  | zero =>
    intro f g _ h
    show (if P f = true then some (tr9 n f) else none) = if P g = true then some (tr9 n g) else none
    rw [hP f g h, tr_ag (f := f) (g := g) (n := n) h]
  | succ m ih =>
    intro f g hm h
    refine foF_cg (fun w hw => ih _ _ (by omega) ?_)
    have h9 := ag_put (x := nI w) h
    rwa [show n - (m + 1) + 1 = n - m by omega] at h9
theorem cn_s {P : FNW → Bool} {c0 n d : Nat} {fw : FNW} (hd : d < n) : cnP P c0 n (n - d) fw = smF (fun w => cnP P c0 n (n - (d + 1)) (upd fw d (nI w))) c0 := by
  rw [show n - d = (n - (d + 1)) + 1 by omega]
  show smF (fun w => cnP P c0 n (n - (d + 1)) (upd fw (n - (n - (d + 1) + 1)) (nI w))) c0 = _
  rw [show n - (n - (d + 1) + 1) = d by omega]
theorem fd_s {P : FNW → Bool} {c0 n d : Nat} {fw : FNW} (hd : d < n) : fdP P c0 n (n - d) fw = foF (fun w => fdP P c0 n (n - (d + 1)) (upd fw d (nI w))) c0 := by
  rw [show n - d = (n - (d + 1)) + 1 by omega]
  show foF (fun w => fdP P c0 n (n - (d + 1)) (upd fw (n - (n - (d + 1) + 1)) (nI w))) c0 = _
  rw [show n - (n - (d + 1) + 1) = d by omega]
/-- the number v as a row of n WORDS -/
def dgW (c0 n v : Nat) : FNW := mxD c0 n n (fun _ => 0) v
theorem dgW_at {c0 n v k : Nat} (hk : k < n) : dgW c0 n v k = nI (v / c0 ^ (n - 1 - k) % c0) := by
  unfold dgW mxD
  rw [if_pos ⟨by omega, hk⟩]
theorem mxD_dg {c0 n v : Nat} {fw : FNW} : ∀ i, i < n → mxD c0 n n fw v i = dgW c0 n v i := by
  intro i hi
  rw [dgW_at hi]
  unfold mxD
  rw [if_pos ⟨by omega, hi⟩]
theorem dgW_ok {c0 n v : Nat} (hc : 0 < c0) : okW c0 (dgW c0 n v) n := fun i hi => ⟨v / c0 ^ (n - 1 - i) % c0, Nat.mod_lt _ hc, dgW_at hi⟩
theorem tr_dg {c0 n v : Nat} {fw : FNW} : tr9 n (mxD c0 n n fw v) = dgW c0 n v := by
  funext k
  unfold tr9
  by_cases q : k < n
  · rw [if_pos q, mxD_dg k q]
  · rw [if_neg q]
    unfold dgW mxD
    rw [if_neg (by omega)]
theorem cnP_all {P : FNW → Bool} {c0 n : Nat} {fw : FNW} (hP : exN P n) : cnP P c0 n n fw = ctF (fun v => P (dgW c0 n v)) (c0 ^ n) := by
  rw [cnP_ct n fw (Nat.le_refl n)]
  exact ctF_cg (fun v _ => hP _ _ mxD_dg)
theorem fdP_all {P : FNW → Bool} {c0 n : Nat} {fw : FNW} (hP : exN P n) : fdP P c0 n n fw = foF (fun v => if P (dgW c0 n v) = true then some (dgW c0 n v) else none) (c0 ^ n) := by
  rw [fdP_fo n fw (Nat.le_refl n)]
  refine foF_cg (fun v _ => ?_)
  rw [tr_dg, hP _ _ mxD_dg]
/-! what the WORDS so far do -/
theorem stL_n0 {fx : Nat → Int32} {s : Nat} : stL fx s [] = s := rfl
theorem st_in9 {fx : Nat → Int32} (hr : rng fx 48 5) (L : List Int32) : ∀ s : Nat, s < 6 → (∀ x, x ∈ L → ∃ j : Nat, j ≤ 7 ∧ x = nI j) → stL fx s L < 6 := by
  induction L with
  | nil => intro s hs h; exact hs
  | cons x r ih =>
    intro s hs h
    obtain ⟨j, hj7, ej⟩ := h x (List.mem_cons_self ..)
    obtain ⟨q, hq, eq⟩ := hr (s * 8 + j) (by omega)
    show stL fx (fx (s * 8 + x.toNatClampNeg)).toNatClampNeg r < 6
    rw [ej, nI_clamp (by omega), eq, nI_clamp (by omega)]
    exact ih q (by omega) (fun y hy => h y (List.mem_cons_of_mem _ hy))
theorem sdL_memP {c : Nat → Bool} {fw : Nat → Int32} {pl : Nat → Nat} {m : Nat} {x : Int32} (h : x ∈ sdL c fw pl m) : ∃ k, k < m ∧ x = fw (pl k) := by
  induction m with
  | zero => exact absurd h List.not_mem_nil
  | succ m ih =>
    have h9 : x ∈ sdL c fw pl m ++ (if c (pl m) = true then [fw (pl m)] else []) := h
    rcases List.mem_append.mp h9 with h1 | h1
    · obtain ⟨k, hk, e⟩ := ih h1
      exact ⟨k, by omega, e⟩
    · by_cases q : c (pl m) = true
      · rw [if_pos q] at h1
        exact ⟨m, by omega, List.mem_singleton.mp h1⟩
      · rw [if_neg q] at h1
        exact absurd h1 List.not_mem_nil
theorem sdL_c9 {c c2 : Nat → Bool} {fw fw2 : Nat → Int32} {pl pl2 : Nat → Nat} {m : Nat} (h : ∀ k, k < m → pl k = pl2 k ∧ c (pl k) = c2 (pl2 k) ∧ fw (pl k) = fw2 (pl2 k)) : sdL c fw pl m = sdL c2 fw2 pl2 m := by
  induction m with
  | zero => rfl
  | succ m ih =>
    show sdL c fw pl m ++ _ = sdL c2 fw2 pl2 m ++ _
    have h9 := h m (by omega)
    rw [ih (fun k hk => h k (by omega)), h9.2.1, h9.2.2]
/-- the digit of a STATE -/
abbrev dg9 (v s : Nat) : Nat := v / 2 ^ (3 * s) % 2 ^ 3
theorem dg_up {k s : Nat} (hs : s ≤ 5) : dg9 (262144 + k) s = dg9 k s := by
  unfold dg9
  rcases (show s = 0 ∨ s = 1 ∨ s = 2 ∨ s = 3 ∨ s = 4 ∨ s = 5 by omega) with h | h | h | h | h | h <;> subst h <;> simp <;> omega
theorem dg_sm {k : Nat} (hk : k ≤ 5) : dg9 k 0 = k := by
  unfold dg9
  simp
  omega
theorem dg_put {v a i s : Nat} (hi : i ≤ 5) (ha : a ≤ 5) (hv : v < 8 ^ i) (hs : s ≤ i) : dg9 (a * 2 ^ (3 * i) + v) s = if s = i then a else dg9 v s := by
  unfold dg9
  rcases (show i = 0 ∨ i = 1 ∨ i = 2 ∨ i = 3 ∨ i = 4 ∨ i = 5 by omega) with h | h | h | h | h | h <;> subst h <;> rcases (show s = 0 ∨ s = 1 ∨ s = 2 ∨ s = 3 ∨ s = 4 ∨ s = 5 by omega) with h | h | h | h | h | h <;> subst h <;> simp at hv hs ⊢ <;> omega
/-- so far L came back: what the path v says of it -/
def ptR (fx : Nat → Int32) (c3 : Nat) (t : Int32) (L : List Int32) (v : Nat) : Prop := v < 524288 ∧ ((L = [] ∧ v < 262144) ∨ (¬ L = [] ∧ 262144 ≤ v)) ∧ (t = 0 → dg9 v 0 = stL fx 0 L) ∧ (¬ t = 0 → ∀ s, s < c3 → dg9 v s = stL fx s L.reverse)
/-- STATES lead to STATES; without STATES nothing is yes -/
def clA (fx : Nat → Int32) (c3 : Nat) : Prop := 0 < c3 → ∀ k, k < 8 * c3 → ∃ j : Nat, j < c3 ∧ fx k = nI j
def cl9 (fx : Nat → Int32) (ys : Int32) (c3 : Nat) : Prop := clA fx c3 ∧ (c3 = 0 → ∀ s, s < 6 → ysB ys s = false)
theorem cl9_nx {fx : Nat → Int32} {c3 s w : Nat} (h : clA fx c3) (h6 : c3 ≤ 6) (hs : s < c3) (hw : w ≤ 7) : nC9 fx s w < c3 := by
  obtain ⟨j, hj, e⟩ := h (by omega) (s * 8 + w) (by omega)
  unfold nC9
  rw [e, nI_clamp (by omega)]
  exact hj
theorem pt_0 {fx : Nat → Int32} {c3 : Nat} {t : Int32} (h : c3 ≤ 6) : ptR fx c3 t [] 181896 := by
  refine ⟨by decide, Or.inl ⟨rfl, by decide⟩, fun _ => (show dg9 181896 0 = 0 by decide +kernel).trans stL_n0.symm, fun _ s hs => ?_⟩
  have h9 : ∀ s, s < 6 → dg9 181896 s = s := by decide +kernel
  rw [h9 s (by omega)]
  rfl
theorem stL_snoc {fx : Nat → Int32} {s w : Nat} {L : List Int32} (hw : w ≤ 7) : stL fx s (L ++ [nI w]) = nC9 fx (stL fx s L) w := by
  rw [stL_app]
  show (fx (stL fx s L * 8 + (nI w).toNatClampNeg)).toNatClampNeg = _
  rw [nI_clamp (by omega)]
  rfl
theorem stL_con {fx : Nat → Int32} {s w : Nat} {L : List Int32} (hw : w ≤ 7) : stL fx s (nI w :: L) = stL fx (nC9 fx s w) L := by
  show stL fx (fx (s * 8 + (nI w).toNatClampNeg)).toNatClampNeg L = _
  rw [nI_clamp (by omega)]
  rfl
section PTG
variable {fx : Nat → Int32} {ys t : Int32} {c3 v w k : Nat} {L : List Int32}
theorem pt_ne {x : Int32} : ¬ L ++ [x] = [] := fun h => absurd (List.append_eq_nil_iff.mp h).2 (List.cons_ne_nil _ _)
theorem pt_s (h : ptR fx c3 t L v) (ht : t = 0) (hw : w ≤ 7) (hk : k = nC9 fx (dg9 v 0) w) (hk5 : k ≤ 5) : ptR fx c3 t (L ++ [nI w]) (262144 + k) := by
  refine ⟨by omega, Or.inr ⟨pt_ne, by omega⟩, fun _ => ?_, fun h9 => absurd ht h9⟩
  rw [dg_up (by decide), dg_sm hk5, stL_snoc hw, ← h.2.2.1 ht]
  exact hk
theorem pt_t (h : ptR fx c3 t L v) (ht : ¬ t = 0) (hc : clA fx c3) (h6 : c3 ≤ 6) (hw : w ≤ 7) (hk : ∀ s, s < c3 → dg9 k s = dg9 v (nC9 fx s w)) (hk2 : k < 262144) : ptR fx c3 t (L ++ [nI w]) (262144 + k) := by
  refine ⟨by omega, Or.inr ⟨pt_ne, by omega⟩, fun h9 => absurd h9 ht, fun _ s hs => ?_⟩
  rw [dg_up (by omega), hk s hs, List.reverse_append, h.2.2.2 ht _ (cl9_nx hc h6 hs hw)]
  exact (stL_con hw).symm
/-- what the last WORD makes of it -/
def pdL (fx : Nat → Int32) (ys t : Int32) (L : List Int32) : Bool := decide (¬ L = []) && yeC fx ys (if t = 0 then L else L.reverse)
theorem pd_none (h : ptR fx c3 t L v) (hv : v < 262144) : pdL fx ys t L = false := by
  rcases h.2.1 with ⟨e, _⟩ | ⟨_, e⟩
  · unfold pdL
    rw [decide_eq_false (fun h9 => h9 e)]
    rfl
  · omega
theorem pd_z {b : Bool} {s : Nat} (hc : cl9 fx ys c3) (h0 : c3 = 0) (hs : s < 6) (hb : b = ysB ys s) (hr : rng fx 48 5) (hL : ∀ x, x ∈ L → ∃ j : Nat, j ≤ 7 ∧ x = nI j) : pdL fx ys t L = false ∧ b = false := by
  refine ⟨?_, hb.trans (hc.2 h0 s hs)⟩
  have h9 : yeC fx ys (if t = 0 then L else L.reverse) = false := by
    unfold yeC
    refine hc.2 h0 _ (st_in9 hr _ 0 (by decide) (fun x hx => ?_))
    split at hx
    · exact hL x hx
    · exact hL x (List.mem_reverse.mp hx)
  unfold pdL
  rw [h9, Bool.and_false]
/-- nothing comes of the last one, but something came -/
theorem pd_old {b : Bool} {s : Nat} (h : ptR fx c3 t L v) (hv : 262144 ≤ v) (hc : cl9 fx ys c3) (hs : s = dg9 v 0) (hs5 : s < 6) (hb : b = ysB ys s) (hr : rng fx 48 5) (hL : ∀ x, x ∈ L → ∃ j : Nat, j ≤ 7 ∧ x = nI j) : b = pdL fx ys t L := by
  have hne : ¬ L = [] := by
    rcases h.2.1 with ⟨_, e⟩ | ⟨e, _⟩
    · omega
    · exact e
  rcases Nat.eq_zero_or_pos c3 with h0 | h0
  · have h9 := pd_z (t := t) hc h0 hs5 hb hr hL
    rw [h9.1, h9.2]
  · unfold pdL yeC
    rw [decide_eq_true hne, hb, hs]
    by_cases q : t = 0
    · rw [if_pos q, h.2.2.1 q]
      rfl
    · rw [if_neg q, h.2.2.2 q 0 h0]
      rfl
theorem pd_new {b : Bool} {s : Nat} (h : ptR fx c3 t L v) (hc : cl9 fx ys c3) (h6 : c3 ≤ 6) (hw : w ≤ 7) (hs : s = if t = 0 then nC9 fx (dg9 v 0) w else dg9 v (nC9 fx 0 w)) (hs5 : s < 6) (hb : b = ysB ys s) (hr : rng fx 48 5) (hL : ∀ x, x ∈ L → ∃ j : Nat, j ≤ 7 ∧ x = nI j) : b = pdL fx ys t (L ++ [nI w]) := by
  rcases Nat.eq_zero_or_pos c3 with h0 | h0
  · have h9 := pd_z (t := t) (L := L ++ [nI w]) hc h0 hs5 hb hr (fun x hx => by
      rcases List.mem_append.mp hx with h9 | h9
      · exact hL x h9
      · exact ⟨w, hw, List.mem_singleton.mp h9⟩)
    rw [h9.1, h9.2]
  · unfold pdL yeC
    rw [decide_eq_true pt_ne, hb, hs]
    by_cases q : t = 0
    · rw [if_pos q, if_pos q, stL_snoc hw, ← h.2.2.1 q]
      rfl
    · rw [if_neg q, if_neg q, List.reverse_append]
      rw [h.2.2.2 q _ (cl9_nx hc.1 h6 h0 hw)]
      show ysB ys _ = (true && ysB ys (stL fx 0 (nI w :: L.reverse)))
      rw [stL_con hw]
      rfl
end PTG
/-- of the first d WORDS those that come back -/
abbrev pre9 (g : Nat → Int32) (fw : Nat → Int32) (d : Nat) : List Int32 := sdL (fun i => gB (g i) (fw i)) fw (fun k => k) d
theorem pre_cg {g fw f2 : Nat → Int32} {d : Nat} (h : ∀ i, i < d → fw i = f2 i) : pre9 g fw d = pre9 g f2 d := sdL_c9 (fun k hk => ⟨rfl, by (try dsimp only); rw [h k hk], h k hk⟩)
theorem pre_mem {g fw : Nat → Int32} {d c0 : Nat} {x : Int32} (h : okW c0 fw d) (h8 : c0 ≤ 8) (hx : x ∈ pre9 g fw d) : ∃ j : Nat, j ≤ 7 ∧ x = nI j := by
  obtain ⟨k, hk, e⟩ := sdL_memP hx
  obtain ⟨w, hw, ew⟩ := h k hk
  exact ⟨w, by omega, e.trans ew⟩
/-- with one WORD more -/
def nxL (g : Nat → Int32) (d w : Nat) (L : List Int32) : List Int32 := if gB (g d) (nI w) = true then L ++ [nI w] else L
theorem pre_s {g fw f2 : Nat → Int32} {d w : Nat} (h : ∀ i, i < d → f2 i = fw i) (hw : f2 d = nI w) : pre9 g f2 (d + 1) = nxL g d w (pre9 g fw d) := by
  show pre9 g f2 d ++ (if gB (g d) (f2 d) = true then [f2 d] else []) = _
  rw [pre_cg h, hw]
  unfold nxL
  by_cases q : gB (g d) (nI w) = true
  · rw [if_pos q, if_pos q]
  · rw [if_neg q, if_neg q, List.append_nil]
/-- a PARDON, by ears that are tuned for n WORDS -/
def pdA (fx : Nat → Int32) (ys : Int32) (et : Nat → Int32) (gc : Nat → Nat → Int32) (c1 n : Nat) (fw : FNW) : Bool := alF (fun c => pdL fx ys (et c) (pre9 (gc c) fw n)) c1
theorem nx_1 {g : Nat → Int32} {d w : Nat} {L : List Int32} (h : gB (g d) (nI w) = true) : nxL g d w L = L ++ [nI w] := if_pos h
theorem nx_0 {g : Nat → Int32} {d w : Nat} {L : List Int32} (h : gB (g d) (nI w) = false) : nxL g d w L = L := if_neg (by rw [h]; decide)
section PTP
variable {fx : Nat → Int32} {ys t : Int32} {c3 c1 v w k i dp wd n c0 : Nat} {L : List Int32} {fph fa g fy f2 : Nat → Int32} {et : Nat → Int32} {gc : Nat → Nat → Int32} {Lp : Nat → List Int32} {x : Int32}
theorem pt_at (h : ptR fx c3 t L (fph k).toNatClampNeg) (hk : fa k = fph k) (e : fa (nI k).toNatClampNeg = nI v) (hv : v < 524288) (hkk : k < 2 ^ 31) : ptR fx c3 t L v := by
  rw [nI_clamp hkk, hk] at e
  rw [e, nI_clamp (by omega)] at h
  exact h
theorem pt_put {b : Nat} (h : ∀ c9 : Nat, c9 < i → ptR fx c3 (et c9) (Lp c9) (fa (b + c9)).toNatClampNeg) (hb : b ≤ 20) (hi : i < 4) (hn : ptR fx c3 (et i) (Lp i) v) (e : upd fa (nI (b + i)).toNatClampNeg (nI v) = g) : ∀ c9 : Nat, c9 < i + 1 → ptR fx c3 (et c9) (Lp c9) (g (b + c9)).toNatClampNeg := by
  rw [nI_clamp (by omega)] at e
  subst e
  intro c9 h9
  by_cases q : c9 = i
  · have hv := hn.1
    rw [q, pk_us, nI_clamp (by omega)]
    exact hn
  · rw [pk_un (by omega)]
    exact h c9 (by omega)
theorem pt_keep {b m : Nat} (h : ∀ k9 : Nat, k9 < m → fa k9 = fph k9) (hb : m ≤ b + i) (hi : b + i < 2 ^ 31) (e : upd fa (nI (b + i)).toNatClampNeg x = g) : ∀ k9 : Nat, k9 < m → g k9 = fph k9 := by
  rw [nI_clamp hi] at e
  subst e
  intro k9 h9
  rw [pk_un (by omega)]
  exact h k9 h9
theorem fa_and (a b : Nat) : nI a &&& nI b = nI (a &&& b) := by
  apply Int32.toBitVec_inj.1
  show BitVec.ofNat 32 a &&& BitVec.ofNat 32 b = BitVec.ofNat 32 (a &&& b)
  apply BitVec.eq_of_getLsbD_eq
  intro i hi
  simp [hi]
theorem an_w {v9 : Nat} (hv : v9 < 524288) : v9 &&& 2 ^ 18 = if 262144 ≤ v9 then 262144 else 0 := by
  apply Nat.eq_of_testBit_eq
  intro i
  rw [Nat.testBit_and, Nat.testBit_two_pow]
  by_cases h : 262144 ≤ v9
  · rw [if_pos h]
    by_cases q : 18 = i
    · subst q
      rw [show v9 = 2 ^ 18 + (v9 - 262144) by omega, Nat.testBit_two_pow_add_eq, Nat.testBit_lt_two_pow (by omega)]
      decide
    · rw [decide_eq_false q, Bool.and_false, show (262144 : Nat) = 2 ^ 18 by rfl, Nat.testBit_two_pow, decide_eq_false q]
  · rw [if_neg h, Nat.zero_testBit]
    by_cases q : 18 = i
    · subst q
      rw [Nat.testBit_lt_two_pow (by omega), Bool.false_and]
    · rw [decide_eq_false q, Bool.and_false]
theorem an_v (hv : v < 524288) : nI v &&& 262144 = nI (if 262144 ≤ v then 262144 else 0) := by
  rw [show (262144 : Int32) = nI (2 ^ 18) by decide, fa_and, an_w hv]
theorem an_0 (hv : v < 524288) (ex : x = nI v &&& 262144) (h : x = 0) : v < 262144 := by
  rw [ex, an_v hv] at h
  by_cases q : 262144 ≤ v
  · rw [if_pos q] at h
    exact absurd h (by decide)
  · omega
theorem an_1 (hv : v < 524288) (ex : x = nI v &&& 262144) (h : ¬ x = 0) : 262144 ≤ v := by
  rw [ex, an_v hv] at h
  by_cases q : 262144 ≤ v
  · exact q
  · rw [if_neg q] at h
    exact absurd rfl h
theorem td_put {a j tq : Nat} (hi : i ≤ 5) (ha : a ≤ 5) (ht : tq < 8 ^ i) (h : ∀ s9 : Nat, s9 < i → dg9 tq s9 = dg9 v (nC9 fx s9 wd)) (hk : a = dg9 v j) (hj : nC9 fx i wd = j) : ∀ s9 : Nat, s9 < i + 1 → dg9 (a * 2 ^ (3 * i) + tq) s9 = dg9 v (nC9 fx s9 wd) := by
  intro s hs
  rw [dg_put hi ha ht (by omega)]
  by_cases q : s = i
  · rw [if_pos q, q, hj]; exact hk
  · rw [if_neg q]; exact h s (by omega)
theorem nC9_0 {j : Nat} (hw : w ≤ 7) (hj : j ≤ 5) (e : fx (nI w).toNatClampNeg = nI j) : nC9 fx 0 w = j := by
  rw [nI_clamp (by omega)] at e
  unfold nC9
  rw [Nat.zero_mul, Nat.zero_add, e, nI_clamp (by omega)]
theorem pdA_ex : exN (pdA fx ys et gc c1 n) n := fun f g h => alF_cg (fun c _ => by rw [pre_cg h])
theorem pdA_s (h : dp + 1 = n) : pdA fx ys et gc c1 n (upd fy dp (nI wd)) = alF (fun c9 => pdL fx ys (et c9) (nxL (gc c9) dp wd (pre9 (gc c9) fy dp))) c1 := by
  subst h
  refine alF_cg (fun c _ => ?_)
  (try dsimp only)
  rw [pre_s (fw := fy) (f2 := upd fy dp (nI wd)) (fun i hi => pk_un (by omega)) pk_us]
end PTP
section CNF
variable {P Q : FNW → Bool} {c0 n d k wd : Nat} {fw f g fy : FNW} {z x : Int32}
theorem cn_l1 (h : d = n) (hp : P fw = true) : 1 = cnP P c0 n (n - d) fw := by
  subst h
  rw [Nat.sub_self]
  exact (if_pos hp).symm
theorem cn_l0 (h : d = n) (hp : P fw = false) : 0 = cnP P c0 n (n - d) fw := by
  subst h
  rw [Nat.sub_self]
  exact (if_neg (by rw [hp]; decide)).symm
theorem fd_l1 (h : d = n) (hp : P fw = true) : fdP P c0 n (n - d) fw = some (tr9 n fw) := by
  subst h
  rw [Nat.sub_self]
  exact if_pos hp
theorem fd_l0 (h : d = n) (hp : P fw = false) : fdP P c0 n (n - d) fw = none := by
  subst h
  rw [Nat.sub_self]
  exact if_neg (by rw [hp]; decide)
theorem sm_s {G : Nat → Nat} {ct x w : Nat} (h : ct = smF G w) (e : x = G w) : ct + x = smF G (w + 1) := by
  rw [h, e]
  rfl
theorem cf_at (hz : z.toNatClampNeg = k) (e : upd f z.toNatClampNeg x = g) : g k = x := by
  rw [hz] at e
  rw [← e, pk_us]
theorem cf_kp (hz : z.toNatClampNeg = k) (h : ∀ i, i < k → f i = fy i) (e : upd f z.toNatClampNeg x = g) : ∀ i, i < k → g i = fy i := by
  rw [hz] at e
  intro i hi
  rw [← e, pk_un (by omega)]
  exact h i hi
theorem cf_ag (h1 : g k = x) (h2 : ∀ i, i < k → g i = fy i) (hk : k < n) : ∀ i, i < n - (n - (k + 1)) → g i = upd fy k x i := by
  intro i hi
  by_cases q : i = k
  · rw [q, pk_us]; exact h1
  · rw [pk_un q]; exact h2 i (by omega)
theorem cf_tr (h1 : g k = x) (h2 : ∀ i, i < k → g i = fy i) (hk : k + 1 = n) : ∀ i, i < n → g i = tr9 n (upd fy k x) i := by
  intro i hi
  unfold tr9
  rw [if_pos hi]
  exact cf_ag h1 h2 (show k < n by omega) i (by omega)
theorem cf_ok (h : okW c0 fy k) (h1 : g k = nI wd) (h2 : ∀ i, i < k → g i = fy i) (hw : wd < c0) : okW c0 g (k + 1) := by
  intro i hi
  by_cases q : i = k
  · rw [q]; exact ⟨wd, hw, h1⟩
  · rw [h2 i (by omega)]; exact h i (by omega)
theorem po_0 {k : Nat} (h : k = cnP P c0 n (n - 0) fy) (hPQ : ∀ fw, okW c0 fw n → P fw = Q fw) (hQ : exN Q n) : k = ctF (fun v => Q (dgW c0 n v)) (c0 ^ n) := by
  rw [h, Nat.sub_zero, cnP_cg hPQ n fy (Nat.le_refl n) (fun i hi => absurd hi (by omega)), cnP_all hQ]
theorem po_1 {o : Option FNW} (h : fdP P c0 n (n - 0) fy = o) (hPQ : ∀ fw, okW c0 fw n → P fw = Q fw) (hQ : exN Q n) : foF (fun v => if Q (dgW c0 n v) = true then some (dgW c0 n v) else none) (c0 ^ n) = o := by
  rw [← h, Nat.sub_zero, fdP_cg hPQ n fy (Nat.le_refl n) (fun i hi => absurd hi (by omega)), fdP_all hQ]
end CNF
section CFP
variable {fx : Nat → Int32} {ys t : Int32} {c3 c1 b m k : Nat} {fph fa : Nat → Int32} {et : Nat → Int32} {L : Nat → List Int32}
theorem cf_pt (h : ∀ c9 : Nat, c9 < c1 → ptR fx c3 (et c9) (L c9) (fph (b + c9)).toNatClampNeg) (hk : ∀ k9 : Nat, k9 < m → fa k9 = fph k9) (hm : b + 4 ≤ m) (hc : c1 ≤ 4) : ∀ c9 : Nat, c9 < c1 → ptR fx c3 (et c9) (L c9) (fa (b + c9)).toNatClampNeg := by
  intro c9 h9
  rw [hk (b + c9) (by omega)]
  exact h c9 h9
theorem pt_i (h6 : c3 ≤ 6) (e : fa k = nI 181896) : ptR fx c3 t [] (fa (0 * 4 + k)).toNatClampNeg := by
  rw [Nat.zero_mul, Nat.zero_add, e, nI_clamp (by decide)]
  exact pt_0 h6
end CFP
/-- whether all CLIFFS send a YES -/
def pdE (E : Nat → FNW → List Int32) (Y : List Int32 → Bool) (c1 : Nat) (fw : FNW) : Bool := alF (fun c => decide (¬ E c fw = []) && Y (E c fw)) c1
theorem ne_cg {L M : List Int32} {Y : List Int32 → Bool} (h : L = M) : (decide (¬ L = []) && Y L) = (decide (¬ M = []) && Y M) := by
  subst h
  rfl
theorem pd_ec {fx : Nat → Int32} {ys : Int32} {bE lE tE : FE} {lo : Nat → Int32} {F sn : Nat → Int32} {wi voc cha : Int32} {c0 c1 n : Nat} {et : Nat → Int32} {ei : Nat → Nat} {gc : Nat → Nat → Int32} (hE : ∀ c, c < c1 → eaO bE lE tE lo (F c) wi (sn c) voc cha c0 n (et c) (ei c) (gc c)) (fw : FNW) (hf : okW c0 fw n) : pdA fx ys et gc c1 n fw = pdE (fun c f => ecS bE lE tE lo (F c) wi (sn c) voc cha f n) (yeC fx ys) c1 fw := by
  refine alF_cg (fun c hc => ?_)
  obtain ⟨h1, h2, h3⟩ := hE c hc
  have hg : ∀ i, i < n → gB (gc c i) (fw i) = coS bE lE lo (F c) wi (sn c) voc cha n fw i := fun i hi => by
    obtain ⟨w, hw, e⟩ := hf i hi
    rw [e, h3 i w hi hw]
    unfold coS
    rw [e]
  have h9 := sd_ec h1 h2 hg
  have h8 : sdL (fun i9 => gB (gc c i9) (fw i9)) fw (plS (et c) n) n = (if et c = 0 then pre9 (gc c) fw n else (pre9 (gc c) fw n).reverse) := by
    by_cases q : et c = 0
    · rw [if_pos q]
      refine sdL_cg (fun k hk => ?_)
      have e : plS (et c) n k = k := if_pos q
      rw [e]
      exact ⟨rfl, rfl⟩
    · rw [if_neg q, ← sdL_rev]
      refine sdL_cg (fun k hk => ?_)
      have e : plS (et c) n k = n - 1 - k := if_neg q
      rw [e]
      exact ⟨rfl, rfl⟩
  refine Eq.trans ?_ (ne_cg (Y := yeC fx ys) (h8.symm.trans h9))
  unfold pdL
  congr 1
  by_cases q : et c = 0
  · rw [if_pos q]
  · rw [if_neg q]
    by_cases q2 : pre9 (gc c) fw n = []
    · rw [q2]
      rfl
    · rw [decide_eq_true q2]
      exact (decide_eq_true (p := ¬ (pre9 (gc c) fw n).reverse = []) (fun h7 => q2 (List.reverse_eq_nil_iff.mp h7))).symm
theorem ecS_ag {bE lE tE : FE} {lo : Nat → Int32} {far wi sn voc cha : Int32} {f g : FNW} {n : Nat} (h : ∀ i, i < n → f i = g i) : ecS bE lE tE lo far wi sn voc cha f n = ecS bE lE tE lo far wi sn voc cha g n := by
  unfold ecS
  refine sdL_c9 (fun k hk => ?_)
  have hp : (if tuS tE far wi sn n = true then n - 1 - k else k) < n := by
    split <;> omega
  refine ⟨rfl, ?_, h _ hp⟩
  generalize (if tuS tE far wi sn n = true then n - 1 - k else k) = p at hp
  unfold coS
  rw [← h p hp]
theorem pdE_ex {bE lE tE : FE} {lo F sn : Nat → Int32} {wi voc cha : Int32} {Y : List Int32 → Bool} {c1 n : Nat} : exN (pdE (fun c f => ecS bE lE tE lo (F c) wi (sn c) voc cha f n) Y c1) n := fun f g h => alF_cg (fun c _ => ne_cg (ecS_ag h))
theorem get4P {c1 : Nat} {P : Nat → Prop} (h0 : 0 < c1 → P 0) (h1 : 1 < c1 → P 1) (h2 : 2 < c1 → P 2) (h3 : 3 < c1 → P 3) (hc : c1 ≤ 4) : ∀ c, c < c1 → P c := by
  intro c h
  rcases (show c = 0 ∨ c = 1 ∨ c = 2 ∨ c = 3 by omega) with e | e | e | e <;> subst e
  · exact h0 h
  · exact h1 h
  · exact h2 h
  · exact h3 h
theorem gdX1_unmoved_0 : decode cX1_unmoved 0 = .ok (.iconst 0, 1) ∧ decode cX1_unmoved 1 = .ok (.istore_n 0, 1) ∧ decode cX1_unmoved 2 = .ok (.iconst 0, 1) ∧ decode cX1_unmoved 3 = .ok (.istore_n 1, 1) ∧ decode cX1_unmoved 4 = .ok (.iload_n 1, 1) ∧ decode cX1_unmoved 5 = .ok (.bipush 6, 2) ∧ decode cX1_unmoved 7 = .ok (.if_icmp .ge 17, 3) ∧ decode cX1_unmoved 10 = .ok (.iload_n 0, 1) ∧ decode cX1_unmoved 11 = .ok (.iload_n 1, 1) ∧ decode cX1_unmoved 12 = .ok (.iconst 3, 1) ∧ decode cX1_unmoved 13 = .ok (.iload_n 1, 1) ∧ decode cX1_unmoved 14 = .ok (.imul, 1) := by decide +kernel
theorem dX1_unmoved_0 : decode cX1_unmoved 0 = .ok (.iconst 0, 1) := gdX1_unmoved_0.1
theorem dX1_unmoved_1 : decode cX1_unmoved 1 = .ok (.istore_n 0, 1) := gdX1_unmoved_0.2.1
theorem dX1_unmoved_2 : decode cX1_unmoved 2 = .ok (.iconst 0, 1) := gdX1_unmoved_0.2.2.1
theorem dX1_unmoved_3 : decode cX1_unmoved 3 = .ok (.istore_n 1, 1) := gdX1_unmoved_0.2.2.2.1
theorem dX1_unmoved_4 : decode cX1_unmoved 4 = .ok (.iload_n 1, 1) := gdX1_unmoved_0.2.2.2.2.1
theorem dX1_unmoved_5 : decode cX1_unmoved 5 = .ok (.bipush 6, 2) := gdX1_unmoved_0.2.2.2.2.2.1
theorem dX1_unmoved_7 : decode cX1_unmoved 7 = .ok (.if_icmp .ge 17, 3) := gdX1_unmoved_0.2.2.2.2.2.2.1
theorem dX1_unmoved_10 : decode cX1_unmoved 10 = .ok (.iload_n 0, 1) := gdX1_unmoved_0.2.2.2.2.2.2.2.1
theorem dX1_unmoved_11 : decode cX1_unmoved 11 = .ok (.iload_n 1, 1) := gdX1_unmoved_0.2.2.2.2.2.2.2.2.1
theorem dX1_unmoved_12 : decode cX1_unmoved 12 = .ok (.iconst 3, 1) := gdX1_unmoved_0.2.2.2.2.2.2.2.2.2.1
theorem dX1_unmoved_13 : decode cX1_unmoved 13 = .ok (.iload_n 1, 1) := gdX1_unmoved_0.2.2.2.2.2.2.2.2.2.2.1
theorem dX1_unmoved_14 : decode cX1_unmoved 14 = .ok (.imul, 1) := gdX1_unmoved_0.2.2.2.2.2.2.2.2.2.2.2
theorem gdX1_unmoved_15 : decode cX1_unmoved 15 = .ok (.ishl, 1) ∧ decode cX1_unmoved 16 = .ok (.ior, 1) ∧ decode cX1_unmoved 17 = .ok (.istore_n 0, 1) ∧ decode cX1_unmoved 18 = .ok (.iinc 1 1, 3) ∧ decode cX1_unmoved 21 = .ok (.goto (-17), 3) ∧ decode cX1_unmoved 24 = .ok (.iload_n 0, 1) ∧ decode cX1_unmoved 25 = .ok (.ireturn, 1) := by decide +kernel
theorem dX1_unmoved_15 : decode cX1_unmoved 15 = .ok (.ishl, 1) := gdX1_unmoved_15.1
theorem dX1_unmoved_16 : decode cX1_unmoved 16 = .ok (.ior, 1) := gdX1_unmoved_15.2.1
theorem dX1_unmoved_17 : decode cX1_unmoved 17 = .ok (.istore_n 0, 1) := gdX1_unmoved_15.2.2.1
theorem dX1_unmoved_18 : decode cX1_unmoved 18 = .ok (.iinc 1 1, 3) := gdX1_unmoved_15.2.2.2.1
theorem dX1_unmoved_21 : decode cX1_unmoved 21 = .ok (.goto (-17), 3) := gdX1_unmoved_15.2.2.2.2.1
theorem dX1_unmoved_24 : decode cX1_unmoved 24 = .ok (.iload_n 0, 1) := gdX1_unmoved_15.2.2.2.2.2.1
theorem dX1_unmoved_25 : decode cX1_unmoved 25 = .ok (.ireturn, 1) := gdX1_unmoved_15.2.2.2.2.2.2
set_option maxHeartbeats 1000000 in
set_option maxRecDepth 100000 in
theorem s_unmoved (l : Launch) (D : va_G) (cy : Nat → ClassId)   : XMi l D (tyL cy) E0 yX1_unmoved cX1_unmoved 2 (some .int) (rmk 0 0 0) [] [] (fun (r : Int32) (_ : Unit) => r = 181896) (fun (_ : Unit) => []) := by
  refine XMi.start (by decide) (Nat.le_of_ble_eq_true rfl) ?_
  intro p e s m below meth c args A ls Q hat hQ
  obtain ⟨hx, hb, hr, hml, hown, hg, hlocks, hin, hK, hA, hP, hD, hS, hE, hl⟩ := hat
  have hown : s.vm.findClass RX1 = some m.cls := hown
  have hl : lv_has ls 2 [] := hl
  refine lv_iconst (v := 0) hx hb dX1_unmoved_0 (by decide) ?_
  refine lv_istore_n (lv' := [(0, .int 0)]) hx hb dX1_unmoved_1 rfl hl (by decide) rfl (fun ls hl => ?_)
  refine lv_iconst (v := 0) hx hb dX1_unmoved_2 (by decide) ?_
  refine lv_istore_n (lv' := [(1, .int 0), (0, .int 0)]) hx hb dX1_unmoved_3 rfl hl (by decide) rfl (fun ls hl => ?_)
  refine lv_iload_n hx hb dX1_unmoved_4 rfl (lv_at hl 0 rfl) ?_
  refine lv_bipush (v := 6) hx hb dX1_unmoved_5 (by decide) ?_
  refine lv_icmp_ge (tgt := 24) hx hb dX1_unmoved_7 (by decide) (fun h => absurd h (by decide)) (fun _ => ?_)
  refine lv_iload_n hx hb dX1_unmoved_10 rfl (lv_at hl 1 rfl) ?_
  refine lv_iload_n hx hb dX1_unmoved_11 rfl (lv_at hl 0 rfl) ?_
  refine lv_iconst (v := 3) hx hb dX1_unmoved_12 (by decide) ?_
  refine lv_iload_n hx hb dX1_unmoved_13 rfl (lv_at hl 0 rfl) ?_
  refine lv_imul hx hb dX1_unmoved_14 ?_
  refine lv_topi (fun y_1 hy_1 => ?_)
  obtain rfl : y_1 = 0 := hy_1.trans (by decide +kernel)
  refine lv_ishl hx hb dX1_unmoved_15 ?_
  refine lv_topi (fun y_2 hy_2 => ?_)
  obtain rfl : y_2 = 0 := hy_2.trans (by decide +kernel)
  refine lv_ior hx hb dX1_unmoved_16 ?_
  refine lv_topi (fun y_3 hy_3 => ?_)
  obtain rfl : y_3 = 0 := hy_3.trans (by decide +kernel)
  refine lv_istore_n (lv' := [(0, .int 0), (1, .int 0)]) hx hb dX1_unmoved_17 rfl hl (by decide) rfl (fun ls hl => ?_)
  refine lv_iinc (v := 1) (lv' := [(1, .int 1), (0, .int 0)]) hx hb dX1_unmoved_18 hl (k := 1) rfl (by decide) (by decide) rfl (fun ls hl => ?_)
  refine lv_goto (tgt := 4) hx hb dX1_unmoved_21 (by decide) ?_
  refine lv_iload_n hx hb dX1_unmoved_4 rfl (lv_at hl 0 rfl) ?_
  refine lv_bipush (v := 6) hx hb dX1_unmoved_5 (by decide) ?_
  refine lv_icmp_ge (tgt := 24) hx hb dX1_unmoved_7 (by decide) (fun h => absurd h (by decide)) (fun _ => ?_)
  refine lv_iload_n hx hb dX1_unmoved_10 rfl (lv_at hl 1 rfl) ?_
  refine lv_iload_n hx hb dX1_unmoved_11 rfl (lv_at hl 0 rfl) ?_
  refine lv_iconst (v := 3) hx hb dX1_unmoved_12 (by decide) ?_
  refine lv_iload_n hx hb dX1_unmoved_13 rfl (lv_at hl 0 rfl) ?_
  refine lv_imul hx hb dX1_unmoved_14 ?_
  refine lv_topi (fun y_4 hy_4 => ?_)
  obtain rfl : y_4 = 3 := hy_4.trans (by decide +kernel)
  refine lv_ishl hx hb dX1_unmoved_15 ?_
  refine lv_topi (fun y_5 hy_5 => ?_)
  obtain rfl : y_5 = 8 := hy_5.trans (by decide +kernel)
  refine lv_ior hx hb dX1_unmoved_16 ?_
  refine lv_topi (fun y_6 hy_6 => ?_)
  obtain rfl : y_6 = 8 := hy_6.trans (by decide +kernel)
  refine lv_istore_n (lv' := [(0, .int 8), (1, .int 1)]) hx hb dX1_unmoved_17 rfl hl (by decide) rfl (fun ls hl => ?_)
  refine lv_iinc (v := 2) (lv' := [(1, .int 2), (0, .int 8)]) hx hb dX1_unmoved_18 hl (k := 1) rfl (by decide) (by decide) rfl (fun ls hl => ?_)
  refine lv_goto (tgt := 4) hx hb dX1_unmoved_21 (by decide) ?_
  refine lv_iload_n hx hb dX1_unmoved_4 rfl (lv_at hl 0 rfl) ?_
  refine lv_bipush (v := 6) hx hb dX1_unmoved_5 (by decide) ?_
  refine lv_icmp_ge (tgt := 24) hx hb dX1_unmoved_7 (by decide) (fun h => absurd h (by decide)) (fun _ => ?_)
  refine lv_iload_n hx hb dX1_unmoved_10 rfl (lv_at hl 1 rfl) ?_
  refine lv_iload_n hx hb dX1_unmoved_11 rfl (lv_at hl 0 rfl) ?_
  refine lv_iconst (v := 3) hx hb dX1_unmoved_12 (by decide) ?_
  refine lv_iload_n hx hb dX1_unmoved_13 rfl (lv_at hl 0 rfl) ?_
  refine lv_imul hx hb dX1_unmoved_14 ?_
  refine lv_topi (fun y_7 hy_7 => ?_)
  obtain rfl : y_7 = 6 := hy_7.trans (by decide +kernel)
  refine lv_ishl hx hb dX1_unmoved_15 ?_
  refine lv_topi (fun y_8 hy_8 => ?_)
  obtain rfl : y_8 = 128 := hy_8.trans (by decide +kernel)
  refine lv_ior hx hb dX1_unmoved_16 ?_
  refine lv_topi (fun y_9 hy_9 => ?_)
  obtain rfl : y_9 = 136 := hy_9.trans (by decide +kernel)
  refine lv_istore_n (lv' := [(0, .int 136), (1, .int 2)]) hx hb dX1_unmoved_17 rfl hl (by decide) rfl (fun ls hl => ?_)
  refine lv_iinc (v := 3) (lv' := [(1, .int 3), (0, .int 136)]) hx hb dX1_unmoved_18 hl (k := 1) rfl (by decide) (by decide) rfl (fun ls hl => ?_)
  refine lv_goto (tgt := 4) hx hb dX1_unmoved_21 (by decide) ?_
  refine lv_iload_n hx hb dX1_unmoved_4 rfl (lv_at hl 0 rfl) ?_
  refine lv_bipush (v := 6) hx hb dX1_unmoved_5 (by decide) ?_
  refine lv_icmp_ge (tgt := 24) hx hb dX1_unmoved_7 (by decide) (fun h => absurd h (by decide)) (fun _ => ?_)
  refine lv_iload_n hx hb dX1_unmoved_10 rfl (lv_at hl 1 rfl) ?_
  refine lv_iload_n hx hb dX1_unmoved_11 rfl (lv_at hl 0 rfl) ?_
  refine lv_iconst (v := 3) hx hb dX1_unmoved_12 (by decide) ?_
  refine lv_iload_n hx hb dX1_unmoved_13 rfl (lv_at hl 0 rfl) ?_
  refine lv_imul hx hb dX1_unmoved_14 ?_
  refine lv_topi (fun y_10 hy_10 => ?_)
  obtain rfl : y_10 = 9 := hy_10.trans (by decide +kernel)
  refine lv_ishl hx hb dX1_unmoved_15 ?_
  refine lv_topi (fun y_11 hy_11 => ?_)
  obtain rfl : y_11 = 1536 := hy_11.trans (by decide +kernel)
  refine lv_ior hx hb dX1_unmoved_16 ?_
  refine lv_topi (fun y_12 hy_12 => ?_)
  obtain rfl : y_12 = 1672 := hy_12.trans (by decide +kernel)
  refine lv_istore_n (lv' := [(0, .int 1672), (1, .int 3)]) hx hb dX1_unmoved_17 rfl hl (by decide) rfl (fun ls hl => ?_)
  refine lv_iinc (v := 4) (lv' := [(1, .int 4), (0, .int 1672)]) hx hb dX1_unmoved_18 hl (k := 1) rfl (by decide) (by decide) rfl (fun ls hl => ?_)
  refine lv_goto (tgt := 4) hx hb dX1_unmoved_21 (by decide) ?_
  refine lv_iload_n hx hb dX1_unmoved_4 rfl (lv_at hl 0 rfl) ?_
  refine lv_bipush (v := 6) hx hb dX1_unmoved_5 (by decide) ?_
  refine lv_icmp_ge (tgt := 24) hx hb dX1_unmoved_7 (by decide) (fun h => absurd h (by decide)) (fun _ => ?_)
  refine lv_iload_n hx hb dX1_unmoved_10 rfl (lv_at hl 1 rfl) ?_
  refine lv_iload_n hx hb dX1_unmoved_11 rfl (lv_at hl 0 rfl) ?_
  refine lv_iconst (v := 3) hx hb dX1_unmoved_12 (by decide) ?_
  refine lv_iload_n hx hb dX1_unmoved_13 rfl (lv_at hl 0 rfl) ?_
  refine lv_imul hx hb dX1_unmoved_14 ?_
  refine lv_topi (fun y_13 hy_13 => ?_)
  obtain rfl : y_13 = 12 := hy_13.trans (by decide +kernel)
  refine lv_ishl hx hb dX1_unmoved_15 ?_
  refine lv_topi (fun y_14 hy_14 => ?_)
  obtain rfl : y_14 = 16384 := hy_14.trans (by decide +kernel)
  refine lv_ior hx hb dX1_unmoved_16 ?_
  refine lv_topi (fun y_15 hy_15 => ?_)
  obtain rfl : y_15 = 18056 := hy_15.trans (by decide +kernel)
  refine lv_istore_n (lv' := [(0, .int 18056), (1, .int 4)]) hx hb dX1_unmoved_17 rfl hl (by decide) rfl (fun ls hl => ?_)
  refine lv_iinc (v := 5) (lv' := [(1, .int 5), (0, .int 18056)]) hx hb dX1_unmoved_18 hl (k := 1) rfl (by decide) (by decide) rfl (fun ls hl => ?_)
  refine lv_goto (tgt := 4) hx hb dX1_unmoved_21 (by decide) ?_
  refine lv_iload_n hx hb dX1_unmoved_4 rfl (lv_at hl 0 rfl) ?_
  refine lv_bipush (v := 6) hx hb dX1_unmoved_5 (by decide) ?_
  refine lv_icmp_ge (tgt := 24) hx hb dX1_unmoved_7 (by decide) (fun h => absurd h (by decide)) (fun _ => ?_)
  refine lv_iload_n hx hb dX1_unmoved_10 rfl (lv_at hl 1 rfl) ?_
  refine lv_iload_n hx hb dX1_unmoved_11 rfl (lv_at hl 0 rfl) ?_
  refine lv_iconst (v := 3) hx hb dX1_unmoved_12 (by decide) ?_
  refine lv_iload_n hx hb dX1_unmoved_13 rfl (lv_at hl 0 rfl) ?_
  refine lv_imul hx hb dX1_unmoved_14 ?_
  refine lv_topi (fun y_16 hy_16 => ?_)
  obtain rfl : y_16 = 15 := hy_16.trans (by decide +kernel)
  refine lv_ishl hx hb dX1_unmoved_15 ?_
  refine lv_topi (fun y_17 hy_17 => ?_)
  obtain rfl : y_17 = 163840 := hy_17.trans (by decide +kernel)
  refine lv_ior hx hb dX1_unmoved_16 ?_
  refine lv_topi (fun y_18 hy_18 => ?_)
  obtain rfl : y_18 = 181896 := hy_18.trans (by decide +kernel)
  refine lv_istore_n (lv' := [(0, .int 181896), (1, .int 5)]) hx hb dX1_unmoved_17 rfl hl (by decide) rfl (fun ls hl => ?_)
  refine lv_iinc (v := 6) (lv' := [(1, .int 6), (0, .int 181896)]) hx hb dX1_unmoved_18 hl (k := 1) rfl (by decide) (by decide) rfl (fun ls hl => ?_)
  refine lv_goto (tgt := 4) hx hb dX1_unmoved_21 (by decide) ?_
  refine lv_iload_n hx hb dX1_unmoved_4 rfl (lv_at hl 0 rfl) ?_
  refine lv_bipush (v := 6) hx hb dX1_unmoved_5 (by decide) ?_
  refine lv_icmp_ge (tgt := 24) hx hb dX1_unmoved_7 (by decide) (fun _ => ?_) (fun h => absurd (by decide) h)
  refine lv_iload_n hx hb dX1_unmoved_24 rfl (lv_at hl 1 rfl) ?_
  exact x_iret hQ hx hb hr hlocks hK hP hD hS dX1_unmoved_25 () (rfl) [] (by decide +kernel) rfl (Nat.le_of_ble_eq_true rfl) (Nat.le_of_ble_eq_true rfl)
theorem gdX1_stateOf_0 : decode cX1_stateOf 0 = .ok (.iload_n 0, 1) ∧ decode cX1_stateOf 1 = .ok (.iconst 3, 1) ∧ decode cX1_stateOf 2 = .ok (.iload_n 1, 1) ∧ decode cX1_stateOf 3 = .ok (.imul, 1) ∧ decode cX1_stateOf 4 = .ok (.ishr, 1) ∧ decode cX1_stateOf 5 = .ok (.bipush 7, 2) ∧ decode cX1_stateOf 7 = .ok (.iand, 1) ∧ decode cX1_stateOf 8 = .ok (.ireturn, 1) := by decide +kernel
theorem dX1_stateOf_0 : decode cX1_stateOf 0 = .ok (.iload_n 0, 1) := gdX1_stateOf_0.1
theorem dX1_stateOf_1 : decode cX1_stateOf 1 = .ok (.iconst 3, 1) := gdX1_stateOf_0.2.1
theorem dX1_stateOf_2 : decode cX1_stateOf 2 = .ok (.iload_n 1, 1) := gdX1_stateOf_0.2.2.1
theorem dX1_stateOf_3 : decode cX1_stateOf 3 = .ok (.imul, 1) := gdX1_stateOf_0.2.2.2.1
theorem dX1_stateOf_4 : decode cX1_stateOf 4 = .ok (.ishr, 1) := gdX1_stateOf_0.2.2.2.2.1
theorem dX1_stateOf_5 : decode cX1_stateOf 5 = .ok (.bipush 7, 2) := gdX1_stateOf_0.2.2.2.2.2.1
theorem dX1_stateOf_7 : decode cX1_stateOf 7 = .ok (.iand, 1) := gdX1_stateOf_0.2.2.2.2.2.2.1
theorem dX1_stateOf_8 : decode cX1_stateOf 8 = .ok (.ireturn, 1) := gdX1_stateOf_0.2.2.2.2.2.2.2
set_option maxHeartbeats 1000000 in
set_option maxRecDepth 100000 in
theorem s_stateOf (l : Launch) (D : va_G) (cy : Nat → ClassId) (v : Nat) (i : Nat) (hv : pOK v) (hi : i ≤ 5) : XMi l D (tyL cy) E0 yX1_stateOf cX1_stateOf 2 (some .int) (rmk 0 0 0) [.int (nI v), .int (nI i)] [] (fun (r : Int32) (k : Nat) => (r = nI k) ∧ (k ≤ 5) ∧ (k = dg9 v i)) (fun (k : Nat) => []) := by
  refine XMi.start (by decide) (Nat.le_of_ble_eq_true rfl) ?_
  intro p e s m below meth c args A ls Q hat hQ
  obtain ⟨hx, hb, hr, hml, hown, hg, hlocks, hin, hK, hA, hP, hD, hS, hE, hl⟩ := hat
  have hown : s.vm.findClass RX1 = some m.cls := hown
  have hl : lv_has ls 2 [(0, .int (nI v)), (1, .int (nI i))] := hl
  refine lv_iload_n hx hb dX1_stateOf_0 rfl (lv_at hl 0 rfl) ?_
  refine lv_iconst (v := 3) hx hb dX1_stateOf_1 (by decide) ?_
  refine lv_iload_n hx hb dX1_stateOf_2 rfl (lv_at hl 1 rfl) ?_
  refine lv_imul hx hb dX1_stateOf_3 ?_
  refine lv_topi (fun y_1 hy_1 => ?_)
  obtain rfl : y_1 = nI (3 * i) := hy_1.trans (pk_mul 3 i)
  refine lv_ishr hx hb dX1_stateOf_4 ?_
  refine lv_topi (fun x_2 ex_2 => ?_)
  refine lv_bipush (v := 7) hx hb dX1_stateOf_5 (by decide) ?_
  refine lv_iand hx hb dX1_stateOf_7 ?_
  refine lv_topi (fun x_3 ex_3 => ?_)
  have hdig := pOK_dig hv hi
  obtain rfl : x_3 = nI (v / 2 ^ (3 * i) % 2 ^ 3) := by rw [ex_3, ex_2]; exact st_of (Nat.lt_trans hv.1 (by decide)) hi
  exact x_iret hQ hx hb hr hlocks hK hP hD hS dX1_stateOf_8 ((v / 2 ^ (3 * i) % 2 ^ 3)) (⟨rfl, hdig, rfl⟩) [] (by decide +kernel) rfl (Nat.le_of_ble_eq_true rfl) (Nat.le_of_ble_eq_true rfl)
theorem dX1_straightPath_0 : decode cX1_straightPath 0 = .ok (.aload_n 0, 1) := by decide +kernel
theorem dX1_straightPath_1 : decode cX1_straightPath 1 = .ok (.getfield 31, 3) := by decide +kernel
set_option maxRecDepth 20000 in
theorem i_X1 : ∀ w ∈ u_ws RX1 TX1 8, w ∈ gT := gin [561, 563, 565, 567, 569, 571, 573, 575] (by decide +kernel) (by decide +kernel)
theorem gdX1_straightPath_4 : decode cX1_straightPath 4 = .ok (.getfield 84, 3) ∧ decode cX1_straightPath 7 = .ok (.iload_n 1, 1) ∧ decode cX1_straightPath 8 = .ok (.iconst 0, 1) ∧ decode cX1_straightPath 9 = .ok (.invokestatic 87, 3) := by decide +kernel
theorem dX1_straightPath_4 : decode cX1_straightPath 4 = .ok (.getfield 84, 3) := gdX1_straightPath_4.1
theorem dX1_straightPath_7 : decode cX1_straightPath 7 = .ok (.iload_n 1, 1) := gdX1_straightPath_4.2.1
theorem dX1_straightPath_8 : decode cX1_straightPath 8 = .ok (.iconst 0, 1) := gdX1_straightPath_4.2.2.1
theorem dX1_straightPath_9 : decode cX1_straightPath 9 = .ok (.invokestatic 87, 3) := gdX1_straightPath_4.2.2.2
theorem k_X1_87 : xS RX1 87 yX1_stateOf cX1_stateOf 2 (some .int) 2 := ⟨⟨m_1167, m_1168, m_143, m_1169⟩, by decide, by decide, by decide +kernel⟩
theorem gdX1_straightPath_12 : decode cX1_straightPath 12 = .ok (.bipush 8, 2) ∧ decode cX1_straightPath 14 = .ok (.imul, 1) ∧ decode cX1_straightPath 15 = .ok (.iload_n 2, 1) ∧ decode cX1_straightPath 16 = .ok (.iadd, 1) ∧ decode cX1_straightPath 17 = .ok (.iaload, 1) ∧ decode cX1_straightPath 18 = .ok (.ireturn, 1) := by decide +kernel
theorem dX1_straightPath_12 : decode cX1_straightPath 12 = .ok (.bipush 8, 2) := gdX1_straightPath_12.1
theorem dX1_straightPath_14 : decode cX1_straightPath 14 = .ok (.imul, 1) := gdX1_straightPath_12.2.1
theorem dX1_straightPath_15 : decode cX1_straightPath 15 = .ok (.iload_n 2, 1) := gdX1_straightPath_12.2.2.1
theorem dX1_straightPath_16 : decode cX1_straightPath 16 = .ok (.iadd, 1) := gdX1_straightPath_12.2.2.2.1
theorem dX1_straightPath_17 : decode cX1_straightPath 17 = .ok (.iaload, 1) := gdX1_straightPath_12.2.2.2.2.1
theorem dX1_straightPath_18 : decode cX1_straightPath 18 = .ok (.ireturn, 1) := gdX1_straightPath_12.2.2.2.2.2
set_option maxHeartbeats 1000000 in
set_option maxRecDepth 100000 in
theorem s_straightPath (l : Launch) (D : va_G) (cy : Nat → ClassId) (q0 : Nat) (q1 : Nat) (q2 : Nat) (q3 : Nat) (q4 : Nat) (er : Nat) (ql : Nat) (qo : Int32) (h0 : Nat) (h1 : Nat) (h2 : Nat) (h3 : Nat) (h4 : Nat) (h5 : Nat) (h6 : Nat) (h7 : Nat) (h8 : Nat) (h9 : Nat) (h10 : Nat) (h11 : Nat) (hv0 : Value) (hv1 : Value) (hv2 : Value) (hv3 : Value) (hv4 : Value) (fx : Nat → Int32) (v : Nat) (wd : Nat) (hnx : rng fx 48 5) (hv : pOK v) (hwd : wd ≤ 7) : XMi l D (tyL cy) E0 yX1_straightPath cX1_straightPath 3 (some .int) (rmk 1 0 0) [.ref q0, .int (nI v), .int (nI wd)] [wO q0 1 [.ref q1, .ref er, .ref q2, .ref q3, .ref q4, .ref h0, .int (nI ql), .int qo], wO h0 4 [.ref h1, .ref h2, .ref h3, .ref h4, .ref h5, .ref h6, .ref h7, .ref h8, .ref h9, .ref h10, .ref h11, hv0, hv1, hv2, hv3, hv4], wI (cy 1) h7 48 (fx)] (fun (r : Int32) (k : Nat) => (r = nI k) ∧ (k ≤ 5) ∧ (k = nC9 fx (dg9 v 0) wd)) (fun (k : Nat) => [wO q0 1 [.ref q1, .ref er, .ref q2, .ref q3, .ref q4, .ref h0, .int (nI ql), .int qo], wO h0 4 [.ref h1, .ref h2, .ref h3, .ref h4, .ref h5, .ref h6, .ref h7, .ref h8, .ref h9, .ref h10, .ref h11, hv0, hv1, hv2, hv3, hv4], wI (cy 1) h7 48 (fx)]) := by
  refine XMi.start (by decide) (Nat.le_of_ble_eq_true rfl) ?_
  intro p e s m below meth c args A ls Q hat hQ
  obtain ⟨hx, hb, hr, hml, hown, hg, hlocks, hin, hK, hA, hP, hD, hS, hE, hl⟩ := hat
  have hown : s.vm.findClass RX1 = some m.cls := hown
  have hl : lv_has ls 3 [(0, .ref q0), (1, .int (nI v)), (2, .int (nI wd))] := hl
  refine lv_aload_n hx hb dX1_straightPath_0 rfl (lv_at hl 0 rfl) ?_
  refine va_get (D := D) (ci := 1) (v := .ref h0) (C := RX1) (T := TX1) (N := 8) hx hb hg i_X1 hown hK hP 0 rfl rfl 5 (by decide) (hg _ m_558) (fun _ h9 => h9) rfl dX1_straightPath_1 ?_
  refine va_get (D := D) (ci := 4) (v := .ref h7) (C := RX4) (T := TX4) (N := 16) hx hb hg i_X4 hown hK hP 1 rfl rfl 6 (by decide) (hg _ m_355) (fun _ h9 => h9) rfl dX1_straightPath_4 ?_
  refine lv_iload_n hx hb dX1_straightPath_7 rfl (lv_at hl 1 rfl) ?_
  refine lv_iconst (v := 0) hx hb dX1_straightPath_8 (by decide) ?_
  refine x_callSi (wr := [wO q0 1 [.ref q1, .ref er, .ref q2, .ref q3, .ref q4, .ref h0, .int (nI ql), .int qo], wO h0 4 [.ref h1, .ref h2, .ref h3, .ref h4, .ref h5, .ref h6, .ref h7, .ref h8, .ref h9, .ref h10, .ref h11, hv0, hv1, hv2, hv3, hv4], wI (cy 1) h7 48 (fx)]) (rest := [.ref h7]) ⟨hx, hb, hml, hown, hg, hl.1⟩ k_X1_87 (s_stateOf l D cy v 0 (hv) (by omega)) E0_blind hK hP hD hS hA [] [0, 1, 2] ⟨rfl, rfl, by decide +kernel, by decide +kernel, by decide +kernel⟩ (fun _ _ _ => trivial) dX1_straightPath_9 rfl rfl (Nat.le_of_ble_eq_true rfl) ⟨Nat.le_of_ble_eq_true rfl, Nat.le_of_ble_eq_true rfl⟩ ⟨Nat.le_of_ble_eq_true rfl, Nat.le_of_ble_eq_true rfl⟩ (fun zr1 zu1 H locs hw1 hP9 hD9 hS9 => ?_)
  clear hP hD hS
  obtain ⟨k_2, rfl⟩ : ∃ z, z = zu1 := ⟨_, rfl⟩
  refine reW [wO q0 1 [.ref q1, .ref er, .ref q2, .ref q3, .ref q4, .ref h0, .int (nI ql), .int qo], wO h0 4 [.ref h1, .ref h2, .ref h3, .ref h4, .ref h5, .ref h6, .ref h7, .ref h8, .ref h9, .ref h10, .ref h11, hv0, hv1, hv2, hv3, hv4], wI (cy 1) h7 48 (fx)] hP9 hD9 hS9 (fun hP hD hS => ?_)
  clear hP9 hD9 hS9
  refine W.widen (k := 0) (n := 0) (Nat.le_of_ble_eq_true rfl) (Nat.le_of_ble_eq_true rfl) ?_
  replace hw1 : (zr1 = nI k_2) ∧ (k_2 ≤ 5) ∧ (k_2 = dg9 v 0) := hw1
  obtain ⟨f_3, f_4, f_5⟩ := hw1
  subst f_3
  refine lv_bipush (v := 8) hx hb dX1_straightPath_12 (by decide) ?_
  refine lv_imul hx hb dX1_straightPath_14 ?_
  refine lv_topi (fun y_6 hy_6 => ?_)
  obtain rfl : y_6 = nI (k_2 * 8) := hy_6.trans (pk_mul k_2 8)
  refine lv_iload_n hx hb dX1_straightPath_15 rfl (lv_at hl 2 rfl) ?_
  refine lv_iadd hx hb dX1_straightPath_16 ?_
  refine lv_topi (fun y_7 hy_7 => ?_)
  obtain rfl : y_7 = nI ((k_2 * 8) + wd) := hy_7.trans (nI_add ((k_2 * 8)) wd)
  refine va_iald hx hb hK hP 2 1 rfl rfl (vp_in_nI (by omega) (by decide)) dX1_straightPath_17 ?_
  obtain ⟨j_8, hj_8, ej_8⟩ := rng_at hnx (i := ((k_2 * 8) + wd)) (by omega) (by decide)
  refine lv_topi (fun y_9 hy_9 => ?_)
  obtain rfl : y_9 = nI j_8 := hy_9.trans ej_8
  exact x_iret hQ hx hb hr hlocks hK hP hD hS dX1_straightPath_18 j_8 (⟨rfl, (show j_8 ≤ 5 from by omega), (by rw [← f_5]; exact (nC9_of (by omega) (by omega) (by omega) ej_8).symm)⟩) [0, 1, 2] (by decide +kernel) rfl (Nat.le_of_ble_eq_true rfl) (Nat.le_of_ble_eq_true rfl)
theorem pTo_lt {v i : Nat} (hi : i ≤ 6) (h : pTo v i) : v < 262144 := by
  have := h.1
  rcases (show i = 0 ∨ i = 1 ∨ i = 2 ∨ i = 3 ∨ i = 4 ∨ i = 5 ∨ i = 6 by omega) with rfl | rfl | rfl | rfl | rfl | rfl | rfl <;> simp at this <;> omega
theorem gdX1_turnedPath_0 : decode cX1_turnedPath 0 = .ok (.iconst 0, 1) ∧ decode cX1_turnedPath 1 = .ok (.istore_n 3, 1) ∧ decode cX1_turnedPath 2 = .ok (.iconst 0, 1) ∧ decode cX1_turnedPath 3 = .ok (.istore 4, 2) ∧ decode cX1_turnedPath 5 = .ok (.iload 4, 2) ∧ decode cX1_turnedPath 7 = .ok (.aload_n 0, 1) ∧ decode cX1_turnedPath 8 = .ok (.getfield 31, 3) ∧ decode cX1_turnedPath 11 = .ok (.getfield 43, 3) ∧ decode cX1_turnedPath 14 = .ok (.iconst 3, 1) ∧ decode cX1_turnedPath 15 = .ok (.iaload, 1) ∧ decode cX1_turnedPath 16 = .ok (.if_icmp .ge 40, 3) ∧ decode cX1_turnedPath 56 = .ok (.iload_n 3, 1) := by decide +kernel
theorem dX1_turnedPath_0 : decode cX1_turnedPath 0 = .ok (.iconst 0, 1) := gdX1_turnedPath_0.1
theorem dX1_turnedPath_1 : decode cX1_turnedPath 1 = .ok (.istore_n 3, 1) := gdX1_turnedPath_0.2.1
theorem dX1_turnedPath_2 : decode cX1_turnedPath 2 = .ok (.iconst 0, 1) := gdX1_turnedPath_0.2.2.1
theorem dX1_turnedPath_3 : decode cX1_turnedPath 3 = .ok (.istore 4, 2) := gdX1_turnedPath_0.2.2.2.1
theorem dX1_turnedPath_5 : decode cX1_turnedPath 5 = .ok (.iload 4, 2) := gdX1_turnedPath_0.2.2.2.2.1
theorem dX1_turnedPath_7 : decode cX1_turnedPath 7 = .ok (.aload_n 0, 1) := gdX1_turnedPath_0.2.2.2.2.2.1
theorem dX1_turnedPath_8 : decode cX1_turnedPath 8 = .ok (.getfield 31, 3) := gdX1_turnedPath_0.2.2.2.2.2.2.1
theorem dX1_turnedPath_11 : decode cX1_turnedPath 11 = .ok (.getfield 43, 3) := gdX1_turnedPath_0.2.2.2.2.2.2.2.1
theorem dX1_turnedPath_14 : decode cX1_turnedPath 14 = .ok (.iconst 3, 1) := gdX1_turnedPath_0.2.2.2.2.2.2.2.2.1
theorem dX1_turnedPath_15 : decode cX1_turnedPath 15 = .ok (.iaload, 1) := gdX1_turnedPath_0.2.2.2.2.2.2.2.2.2.1
theorem dX1_turnedPath_16 : decode cX1_turnedPath 16 = .ok (.if_icmp .ge 40, 3) := gdX1_turnedPath_0.2.2.2.2.2.2.2.2.2.2.1
theorem dX1_turnedPath_56 : decode cX1_turnedPath 56 = .ok (.iload_n 3, 1) := gdX1_turnedPath_0.2.2.2.2.2.2.2.2.2.2.2
theorem gdX1_turnedPath_57 : decode cX1_turnedPath 57 = .ok (.ireturn, 1) ∧ decode cX1_turnedPath 19 = .ok (.iload_n 1, 1) ∧ decode cX1_turnedPath 20 = .ok (.aload_n 0, 1) ∧ decode cX1_turnedPath 21 = .ok (.getfield 31, 3) ∧ decode cX1_turnedPath 24 = .ok (.getfield 84, 3) ∧ decode cX1_turnedPath 27 = .ok (.iload 4, 2) ∧ decode cX1_turnedPath 29 = .ok (.bipush 8, 2) ∧ decode cX1_turnedPath 31 = .ok (.imul, 1) ∧ decode cX1_turnedPath 32 = .ok (.iload_n 2, 1) ∧ decode cX1_turnedPath 33 = .ok (.iadd, 1) ∧ decode cX1_turnedPath 34 = .ok (.iaload, 1) ∧ decode cX1_turnedPath 35 = .ok (.invokestatic 87, 3) := by decide +kernel
theorem dX1_turnedPath_57 : decode cX1_turnedPath 57 = .ok (.ireturn, 1) := gdX1_turnedPath_57.1
theorem dX1_turnedPath_19 : decode cX1_turnedPath 19 = .ok (.iload_n 1, 1) := gdX1_turnedPath_57.2.1
theorem dX1_turnedPath_20 : decode cX1_turnedPath 20 = .ok (.aload_n 0, 1) := gdX1_turnedPath_57.2.2.1
theorem dX1_turnedPath_21 : decode cX1_turnedPath 21 = .ok (.getfield 31, 3) := gdX1_turnedPath_57.2.2.2.1
theorem dX1_turnedPath_24 : decode cX1_turnedPath 24 = .ok (.getfield 84, 3) := gdX1_turnedPath_57.2.2.2.2.1
theorem dX1_turnedPath_27 : decode cX1_turnedPath 27 = .ok (.iload 4, 2) := gdX1_turnedPath_57.2.2.2.2.2.1
theorem dX1_turnedPath_29 : decode cX1_turnedPath 29 = .ok (.bipush 8, 2) := gdX1_turnedPath_57.2.2.2.2.2.2.1
theorem dX1_turnedPath_31 : decode cX1_turnedPath 31 = .ok (.imul, 1) := gdX1_turnedPath_57.2.2.2.2.2.2.2.1
theorem dX1_turnedPath_32 : decode cX1_turnedPath 32 = .ok (.iload_n 2, 1) := gdX1_turnedPath_57.2.2.2.2.2.2.2.2.1
theorem dX1_turnedPath_33 : decode cX1_turnedPath 33 = .ok (.iadd, 1) := gdX1_turnedPath_57.2.2.2.2.2.2.2.2.2.1
theorem dX1_turnedPath_34 : decode cX1_turnedPath 34 = .ok (.iaload, 1) := gdX1_turnedPath_57.2.2.2.2.2.2.2.2.2.2.1
theorem dX1_turnedPath_35 : decode cX1_turnedPath 35 = .ok (.invokestatic 87, 3) := gdX1_turnedPath_57.2.2.2.2.2.2.2.2.2.2.2
theorem gdX1_turnedPath_38 : decode cX1_turnedPath 38 = .ok (.istore 5, 2) ∧ decode cX1_turnedPath 40 = .ok (.iload_n 3, 1) ∧ decode cX1_turnedPath 41 = .ok (.iload 5, 2) ∧ decode cX1_turnedPath 43 = .ok (.iconst 3, 1) ∧ decode cX1_turnedPath 44 = .ok (.iload 4, 2) ∧ decode cX1_turnedPath 46 = .ok (.imul, 1) ∧ decode cX1_turnedPath 47 = .ok (.ishl, 1) ∧ decode cX1_turnedPath 48 = .ok (.ior, 1) ∧ decode cX1_turnedPath 49 = .ok (.istore_n 3, 1) ∧ decode cX1_turnedPath 50 = .ok (.iinc 4 1, 3) ∧ decode cX1_turnedPath 53 = .ok (.goto (-48), 3) := by decide +kernel
theorem dX1_turnedPath_38 : decode cX1_turnedPath 38 = .ok (.istore 5, 2) := gdX1_turnedPath_38.1
theorem dX1_turnedPath_40 : decode cX1_turnedPath 40 = .ok (.iload_n 3, 1) := gdX1_turnedPath_38.2.1
theorem dX1_turnedPath_41 : decode cX1_turnedPath 41 = .ok (.iload 5, 2) := gdX1_turnedPath_38.2.2.1
theorem dX1_turnedPath_43 : decode cX1_turnedPath 43 = .ok (.iconst 3, 1) := gdX1_turnedPath_38.2.2.2.1
theorem dX1_turnedPath_44 : decode cX1_turnedPath 44 = .ok (.iload 4, 2) := gdX1_turnedPath_38.2.2.2.2.1
theorem dX1_turnedPath_46 : decode cX1_turnedPath 46 = .ok (.imul, 1) := gdX1_turnedPath_38.2.2.2.2.2.1
theorem dX1_turnedPath_47 : decode cX1_turnedPath 47 = .ok (.ishl, 1) := gdX1_turnedPath_38.2.2.2.2.2.2.1
theorem dX1_turnedPath_48 : decode cX1_turnedPath 48 = .ok (.ior, 1) := gdX1_turnedPath_38.2.2.2.2.2.2.2.1
theorem dX1_turnedPath_49 : decode cX1_turnedPath 49 = .ok (.istore_n 3, 1) := gdX1_turnedPath_38.2.2.2.2.2.2.2.2.1
theorem dX1_turnedPath_50 : decode cX1_turnedPath 50 = .ok (.iinc 4 1, 3) := gdX1_turnedPath_38.2.2.2.2.2.2.2.2.2.1
theorem dX1_turnedPath_53 : decode cX1_turnedPath 53 = .ok (.goto (-48), 3) := gdX1_turnedPath_38.2.2.2.2.2.2.2.2.2.2
set_option maxHeartbeats 1000000 in
set_option maxRecDepth 100000 in
theorem s_turnedPath (l : Launch) (D : va_G) (cy : Nat → ClassId) (q0 : Nat) (q1 : Nat) (q2 : Nat) (q3 : Nat) (q4 : Nat) (er : Nat) (ql : Nat) (qo : Int32) (h0 : Nat) (h1 : Nat) (h2 : Nat) (h3 : Nat) (h4 : Nat) (h5 : Nat) (h6 : Nat) (h7 : Nat) (h8 : Nat) (h9 : Nat) (h10 : Nat) (h11 : Nat) (hv0 : Value) (hv1 : Value) (hv2 : Value) (hv3 : Value) (hv4 : Value) (fx : Nat → Int32) (fc : Nat → Int32) (c0 : Nat) (c1 : Nat) (c2 : Nat) (c3 : Nat) (v : Nat) (wd : Nat) (hnx : rng fx 48 5) (hcn : cntOK fc c0 c1 c2 c3) (hc0 : c0 ≤ 8) (hc1 : c1 ≤ 4) (hc2 : c2 ≤ 4) (hc3 : c3 ≤ 6) (hv : pOK v) (hwd : wd ≤ 7) : XMi l D (tyL cy) E0 yX1_turnedPath cX1_turnedPath 6 (some .int) (rmk 1 0 0) [.ref q0, .int (nI v), .int (nI wd)] [wO q0 1 [.ref q1, .ref er, .ref q2, .ref q3, .ref q4, .ref h0, .int (nI ql), .int qo], wO h0 4 [.ref h1, .ref h2, .ref h3, .ref h4, .ref h5, .ref h6, .ref h7, .ref h8, .ref h9, .ref h10, .ref h11, hv0, hv1, hv2, hv3, hv4], wI (cy 1) h7 48 (fx), wI (cy 1) h1 4 (fc)] (fun (r : Int32) (k : Nat) => (r = nI k) ∧ (pOK k) ∧ (k < 262144) ∧ (∀ s9 : Nat, s9 < c3 → dg9 k s9 = dg9 v (nC9 fx s9 wd))) (fun (k : Nat) => [wO q0 1 [.ref q1, .ref er, .ref q2, .ref q3, .ref q4, .ref h0, .int (nI ql), .int qo], wO h0 4 [.ref h1, .ref h2, .ref h3, .ref h4, .ref h5, .ref h6, .ref h7, .ref h8, .ref h9, .ref h10, .ref h11, hv0, hv1, hv2, hv3, hv4], wI (cy 1) h7 48 (fx), wI (cy 1) h1 4 (fc)]) := by
  refine XMi.start (by decide) (Nat.le_of_ble_eq_true rfl) ?_
  intro p e s m below meth c args A ls Q hat hQ
  obtain ⟨hx, hb, hr, hml, hown, hg, hlocks, hin, hK, hA, hP, hD, hS, hE, hl⟩ := hat
  have hown : s.vm.findClass RX1 = some m.cls := hown
  have hl : lv_has ls 6 [(0, .ref q0), (1, .int (nI v)), (2, .int (nI wd))] := hl
  refine lv_iconst (v := 0) hx hb dX1_turnedPath_0 (by decide) ?_
  refine lv_istore_n (lv' := [(3, .int 0), (0, .ref q0), (1, .int (nI v)), (2, .int (nI wd))]) hx hb dX1_turnedPath_1 rfl hl (by decide) rfl (fun ls hl => ?_)
  refine lv_iconst (v := 0) hx hb dX1_turnedPath_2 (by decide) ?_
  refine lv_istore (lv' := [(4, .int 0), (3, .int 0), (0, .ref q0), (1, .int (nI v)), (2, .int (nI wd))]) hx hb dX1_turnedPath_3 hl (by decide) rfl (fun ls hl => ?_)
  have loop1 : ∀ (zn : Nat) (tq1 : Nat) (i1 : Nat), (i1 ≤ c3) → (pTo tq1 i1) → (∀ s9 : Nat, s9 < i1 → dg9 tq1 s9 = dg9 v (nC9 fx s9 wd)) → c3 - i1 + 1 ≤ zn → ∀ (H : Heap) (locs : List Loc), va_P D vwCl [wO q0 1 [.ref q1, .ref er, .ref q2, .ref q3, .ref q4, .ref h0, .int (nI ql), .int qo], wO h0 4 [.ref h1, .ref h2, .ref h3, .ref h4, .ref h5, .ref h6, .ref h7, .ref h8, .ref h9, .ref h10, .ref h11, hv0, hv1, hv2, hv3, hv4], wI (cy 1) h7 48 (fx), wI (cy 1) h1 4 (fc)] H → va_D A [wO q0 1 [.ref q1, .ref er, .ref q2, .ref q3, .ref q4, .ref h0, .int (nI ql), .int qo], wO h0 4 [.ref h1, .ref h2, .ref h3, .ref h4, .ref h5, .ref h6, .ref h7, .ref h8, .ref h9, .ref h10, .ref h11, hv0, hv1, hv2, hv3, hv4], wI (cy 1) h7 48 (fx), wI (cy 1) h1 4 (fc)] → va_S A s.heap H locs → ∀ ls : Array Slot, lv_has ls 6 [(4, .int (nI i1)), (3, .int (nI tq1)), (0, .ref q0), (1, .int (nI v)), (2, .int (nI wd))] → W p l e (rmk 1 0 0) s m args below meth c H locs 0 0 Q (F0 m 5 ls []) := by
    try clear hP hD hS
    intro zn
    induction zn with
    | zero => intro tq1 i1 _ _ _ hz; exact absurd hz (by omega)
    | succ zn ih1 =>
      intro tq1 i1 hf0_1 hf1_1 hf2_1 hmu1 H locs hP hD hS ls hl
      refine lv_iload hx hb dX1_turnedPath_5 (lv_at hl 0 rfl) ?_
      refine lv_aload_n hx hb dX1_turnedPath_7 rfl (lv_at hl 2 rfl) ?_
      refine va_get (D := D) (ci := 1) (v := .ref h0) (C := RX1) (T := TX1) (N := 8) hx hb hg i_X1 hown hK hP 0 rfl rfl 5 (by decide) (hg _ m_558) (fun _ h9 => h9) rfl dX1_turnedPath_8 ?_
      refine va_get (D := D) (ci := 4) (v := .ref h1) (C := RX4) (T := TX4) (N := 16) hx hb hg i_X4 hown hK hP 1 rfl rfl 0 (by decide) (hg _ m_331) (fun _ h9 => h9) rfl dX1_turnedPath_11 ?_
      refine lv_iconst (v := 3) hx hb dX1_turnedPath_14 (by decide) ?_
      refine va_iald hx hb hK hP 3 1 rfl rfl (by unfold vp_in; decide) dX1_turnedPath_15 ?_
      refine lv_topi (fun y_2 hy_2 => ?_)
      obtain rfl : y_2 = nI c3 := hy_2.trans hcn.2.2.2
      refine lv_icmp_ge (tgt := 56) hx hb dX1_turnedPath_16 (by decide) (fun c_3 => ?_) (fun c_3 => ?_)
      · have q_4 : c3 ≤ i1 := q_le (a := c3) (b := i1) rfl rfl (by omega) (by omega) c_3
        refine lv_iload_n hx hb dX1_turnedPath_56 rfl (lv_at hl 1 rfl) ?_
        exact x_iret hQ hx hb hr hlocks hK hP hD hS dX1_turnedPath_57 tq1 (⟨rfl, hf1_1.2, pTo_lt (by omega) hf1_1, (fun s9 h9 => hf2_1 s9 (by omega))⟩) [0, 1, 2, 3] (by decide +kernel) rfl (Nat.le_of_ble_eq_true rfl) (Nat.le_of_ble_eq_true rfl)
      · have q_4 : i1 < c3 := q_nle (a := c3) (b := i1) rfl rfl (by omega) (by omega) c_3
        refine lv_iload_n hx hb dX1_turnedPath_19 rfl (lv_at hl 3 rfl) ?_
        refine lv_aload_n hx hb dX1_turnedPath_20 rfl (lv_at hl 2 rfl) ?_
        refine va_get (D := D) (ci := 1) (v := .ref h0) (C := RX1) (T := TX1) (N := 8) hx hb hg i_X1 hown hK hP 0 rfl rfl 5 (by decide) (hg _ m_558) (fun _ h9 => h9) rfl dX1_turnedPath_21 ?_
        refine va_get (D := D) (ci := 4) (v := .ref h7) (C := RX4) (T := TX4) (N := 16) hx hb hg i_X4 hown hK hP 1 rfl rfl 6 (by decide) (hg _ m_355) (fun _ h9 => h9) rfl dX1_turnedPath_24 ?_
        refine lv_iload hx hb dX1_turnedPath_27 (lv_at hl 0 rfl) ?_
        refine lv_bipush (v := 8) hx hb dX1_turnedPath_29 (by decide) ?_
        refine lv_imul hx hb dX1_turnedPath_31 ?_
        refine lv_topi (fun y_5 hy_5 => ?_)
        obtain rfl : y_5 = nI (i1 * 8) := hy_5.trans (pk_mul i1 8)
        refine lv_iload_n hx hb dX1_turnedPath_32 rfl (lv_at hl 4 rfl) ?_
        refine lv_iadd hx hb dX1_turnedPath_33 ?_
        refine lv_topi (fun y_6 hy_6 => ?_)
        obtain rfl : y_6 = nI ((i1 * 8) + wd) := hy_6.trans (nI_add ((i1 * 8)) wd)
        refine va_iald hx hb hK hP 2 1 rfl rfl (vp_in_nI (by omega) (by decide)) dX1_turnedPath_34 ?_
        obtain ⟨j_7, hj_7, ej_7⟩ := rng_at hnx (i := ((i1 * 8) + wd)) (by omega) (by decide)
        refine lv_topi (fun y_8 hy_8 => ?_)
        obtain rfl : y_8 = nI j_7 := hy_8.trans ej_7
        refine x_callSi (wr := [wO q0 1 [.ref q1, .ref er, .ref q2, .ref q3, .ref q4, .ref h0, .int (nI ql), .int qo], wO h0 4 [.ref h1, .ref h2, .ref h3, .ref h4, .ref h5, .ref h6, .ref h7, .ref h8, .ref h9, .ref h10, .ref h11, hv0, hv1, hv2, hv3, hv4], wI (cy 1) h7 48 (fx), wI (cy 1) h1 4 (fc)]) (rest := []) ⟨hx, hb, hml, hown, hg, hl.1⟩ k_X1_87 (s_stateOf l D cy v j_7 (hv) (by omega)) E0_blind hK hP hD hS hA [] [0, 1, 2, 3] ⟨rfl, rfl, by decide +kernel, by decide +kernel, by decide +kernel⟩ (fun _ _ _ => trivial) dX1_turnedPath_35 rfl rfl (Nat.le_of_ble_eq_true rfl) ⟨Nat.le_of_ble_eq_true rfl, Nat.le_of_ble_eq_true rfl⟩ ⟨Nat.le_of_ble_eq_true rfl, Nat.le_of_ble_eq_true rfl⟩ (fun zr9 zu9 H locs hw9 hP9 hD9 hS9 => ?_)
        clear hP hD hS
        obtain ⟨k_10, rfl⟩ : ∃ z, z = zu9 := ⟨_, rfl⟩
        refine reW [wO q0 1 [.ref q1, .ref er, .ref q2, .ref q3, .ref q4, .ref h0, .int (nI ql), .int qo], wO h0 4 [.ref h1, .ref h2, .ref h3, .ref h4, .ref h5, .ref h6, .ref h7, .ref h8, .ref h9, .ref h10, .ref h11, hv0, hv1, hv2, hv3, hv4], wI (cy 1) h7 48 (fx), wI (cy 1) h1 4 (fc)] hP9 hD9 hS9 (fun hP hD hS => ?_)
        clear hP9 hD9 hS9
        refine W.widen (k := 0) (n := 0) (Nat.le_of_ble_eq_true rfl) (Nat.le_of_ble_eq_true rfl) ?_
        replace hw9 : (zr9 = nI k_10) ∧ (k_10 ≤ 5) ∧ (k_10 = dg9 v j_7) := hw9
        obtain ⟨f_11, f_12, f_13⟩ := hw9
        subst f_11
        refine lv_istore (lv' := [(5, .int (nI k_10)), (4, .int (nI i1)), (3, .int (nI tq1)), (0, .ref q0), (1, .int (nI v)), (2, .int (nI wd))]) hx hb dX1_turnedPath_38 hl (by decide) rfl (fun ls hl => ?_)
        refine lv_iload_n hx hb dX1_turnedPath_40 rfl (lv_at hl 2 rfl) ?_
        refine lv_iload hx hb dX1_turnedPath_41 (lv_at hl 0 rfl) ?_
        refine lv_iconst (v := 3) hx hb dX1_turnedPath_43 (by decide) ?_
        refine lv_iload hx hb dX1_turnedPath_44 (lv_at hl 1 rfl) ?_
        refine lv_imul hx hb dX1_turnedPath_46 ?_
        refine lv_topi (fun y_14 hy_14 => ?_)
        obtain rfl : y_14 = nI (3 * i1) := hy_14.trans (pk_mul 3 i1)
        refine lv_ishl hx hb dX1_turnedPath_47 ?_
        refine lv_topi (fun x_15 ex_15 => ?_)
        refine lv_ior hx hb dX1_turnedPath_48 ?_
        refine lv_topi (fun x_16 ex_16 => ?_)
        have hp8 : tq1 < 2 ^ (3 * i1) := by have h9 := hf1_1.1; rw [show 8 = 2 ^ 3 from rfl, ← Nat.pow_mul] at h9; exact h9
        have hsm : k_10 * 2 ^ (3 * i1) < 2 ^ 32 := by rcases (show i1 = 0 ∨ i1 = 1 ∨ i1 = 2 ∨ i1 = 3 ∨ i1 = 4 ∨ i1 = 5 by omega) with h | h | h | h | h | h <;> (rw [h]; simp; omega)
        obtain rfl : x_16 = nI (k_10 * 2 ^ (3 * i1) + tq1) := by rw [ex_16, ex_15, pk_shlN _ (3 * i1) (s31 _ (by omega)) hsm]; exact or_pow hp8
        have hput := pTo_put (i := i1) (a := k_10) (by omega) (by omega) hf1_1
        refine lv_istore_n (lv' := [(3, .int (nI (k_10 * 2 ^ (3 * i1) + tq1))), (5, .int (nI k_10)), (4, .int (nI i1)), (0, .ref q0), (1, .int (nI v)), (2, .int (nI wd))]) hx hb dX1_turnedPath_49 rfl hl (by decide) rfl (fun ls hl => ?_)
        refine lv_iinc (v := nI (i1 + 1)) (lv' := [(4, .int (nI (i1 + 1))), (3, .int (nI (k_10 * 2 ^ (3 * i1) + tq1))), (5, .int (nI k_10)), (0, .ref q0), (1, .int (nI v)), (2, .int (nI wd))]) hx hb dX1_turnedPath_50 hl (k := 2) rfl (nI_add i1 1) (by decide) rfl (fun ls hl => ?_)
        refine lv_goto (tgt := 5) hx hb dX1_turnedPath_53 (by decide) ?_
        exact ih1  ((k_10 * 2 ^ (3 * i1) + tq1)) ((i1 + 1)) (by omega) (hput) (td_put (by omega) (by omega) hf1_1.1 hf2_1 f_13 (nC9_of (by omega) (by omega) (by omega) ej_7)) (by omega) _ _ (hP.sub [0, 1, 2, 3] rfl) (hD.sub [0, 1, 2, 3] (by decide +kernel) rfl) hS ls (lv_sub hl [0, 1, 3, 4, 5] rfl)
  exact loop1 _ 0 0 (by omega) (pTo_0) (fun s9 h9 => absurd h9 (Nat.not_lt_zero s9)) (Nat.le_refl _) _ _ (hP.sub [0, 1, 2, 3] rfl) (hD.sub [0, 1, 2, 3] (by decide +kernel) rfl) hS ls (lv_sub hl [0, 1, 2, 3, 4] rfl)
theorem gdX1_endState_0 : decode cX1_endState 0 = .ok (.aload_n 1, 1) ∧ decode cX1_endState 1 = .ok (.getfield 74, 3) ∧ decode cX1_endState 4 = .ok (.ifCond .eq 19, 3) ∧ decode cX1_endState 23 = .ok (.aload_n 0, 1) ∧ decode cX1_endState 24 = .ok (.iload_n 2, 1) ∧ decode cX1_endState 25 = .ok (.iload_n 3, 1) ∧ decode cX1_endState 26 = .ok (.invokevirtual 81, 3) := by decide +kernel
theorem dX1_endState_0 : decode cX1_endState 0 = .ok (.aload_n 1, 1) := gdX1_endState_0.1
theorem dX1_endState_1 : decode cX1_endState 1 = .ok (.getfield 74, 3) := gdX1_endState_0.2.1
theorem dX1_endState_4 : decode cX1_endState 4 = .ok (.ifCond .eq 19, 3) := gdX1_endState_0.2.2.1
theorem dX1_endState_23 : decode cX1_endState 23 = .ok (.aload_n 0, 1) := gdX1_endState_0.2.2.2.1
theorem dX1_endState_24 : decode cX1_endState 24 = .ok (.iload_n 2, 1) := gdX1_endState_0.2.2.2.2.1
theorem dX1_endState_25 : decode cX1_endState 25 = .ok (.iload_n 3, 1) := gdX1_endState_0.2.2.2.2.2.1
theorem dX1_endState_26 : decode cX1_endState 26 = .ok (.invokevirtual 81, 3) := gdX1_endState_0.2.2.2.2.2.2
theorem k_X1_81 : xV RX1 RX1 81 yX1_straightPath cX1_straightPath 3 (some .int) 2 := ⟨⟨m_1170, m_1172, m_41, m_143, m_1173⟩, rfl, by decide, by decide, by decide +kernel⟩
theorem gdX1_endState_29 : decode cX1_endState 29 = .ok (.ireturn, 1) ∧ decode cX1_endState 7 = .ok (.iload_n 2, 1) ∧ decode cX1_endState 8 = .ok (.aload_n 0, 1) ∧ decode cX1_endState 9 = .ok (.getfield 31, 3) ∧ decode cX1_endState 12 = .ok (.getfield 84, 3) ∧ decode cX1_endState 15 = .ok (.iload_n 3, 1) ∧ decode cX1_endState 16 = .ok (.iaload, 1) ∧ decode cX1_endState 17 = .ok (.invokestatic 87, 3) ∧ decode cX1_endState 20 = .ok (.goto 9, 3) := by decide +kernel
theorem dX1_endState_29 : decode cX1_endState 29 = .ok (.ireturn, 1) := gdX1_endState_29.1
theorem dX1_endState_7 : decode cX1_endState 7 = .ok (.iload_n 2, 1) := gdX1_endState_29.2.1
theorem dX1_endState_8 : decode cX1_endState 8 = .ok (.aload_n 0, 1) := gdX1_endState_29.2.2.1
theorem dX1_endState_9 : decode cX1_endState 9 = .ok (.getfield 31, 3) := gdX1_endState_29.2.2.2.1
theorem dX1_endState_12 : decode cX1_endState 12 = .ok (.getfield 84, 3) := gdX1_endState_29.2.2.2.2.1
theorem dX1_endState_15 : decode cX1_endState 15 = .ok (.iload_n 3, 1) := gdX1_endState_29.2.2.2.2.2.1
theorem dX1_endState_16 : decode cX1_endState 16 = .ok (.iaload, 1) := gdX1_endState_29.2.2.2.2.2.2.1
theorem dX1_endState_17 : decode cX1_endState 17 = .ok (.invokestatic 87, 3) := gdX1_endState_29.2.2.2.2.2.2.2.1
theorem dX1_endState_20 : decode cX1_endState 20 = .ok (.goto 9, 3) := gdX1_endState_29.2.2.2.2.2.2.2.2
set_option maxHeartbeats 1000000 in
set_option maxRecDepth 100000 in
theorem s_endState (l : Launch) (D : va_G) (cy : Nat → ClassId) (q0 : Nat) (q1 : Nat) (q2 : Nat) (q3 : Nat) (q4 : Nat) (er : Nat) (ql : Nat) (qo : Int32) (h0 : Nat) (h1 : Nat) (h2 : Nat) (h3 : Nat) (h4 : Nat) (h5 : Nat) (h6 : Nat) (h7 : Nat) (h8 : Nat) (h9 : Nat) (h10 : Nat) (h11 : Nat) (hv0 : Value) (hv1 : Value) (hv2 : Value) (hv3 : Value) (hv4 : Value) (fx : Nat → Int32) (e0 : Nat) (e1 : Nat) (e2 : Nat) (et : Int32) (el : Nat) (ef : Nat) (v : Nat) (wd : Nat) (hnx : rng fx 48 5) (hv : pOK v) (hwd : wd ≤ 7) : XMi l D (tyL cy) E0 yX1_endState cX1_endState 4 (some .int) (rmk 2 0 0) [.ref q0, .ref e0, .int (nI v), .int (nI wd)] [wO q0 1 [.ref q1, .ref er, .ref q2, .ref q3, .ref q4, .ref h0, .int (nI ql), .int qo], wO h0 4 [.ref h1, .ref h2, .ref h3, .ref h4, .ref h5, .ref h6, .ref h7, .ref h8, .ref h9, .ref h10, .ref h11, hv0, hv1, hv2, hv3, hv4], wI (cy 1) h7 48 (fx), wO e0 2 [.ref e1, .ref e2, .int et, .int (nI el), .int (nI ef)]] (fun (r : Int32) (k : Nat) => (r = nI k) ∧ (k ≤ 5) ∧ (k = if et = 0 then nC9 fx (dg9 v 0) wd else dg9 v (nC9 fx 0 wd))) (fun (k : Nat) => [wO q0 1 [.ref q1, .ref er, .ref q2, .ref q3, .ref q4, .ref h0, .int (nI ql), .int qo], wO h0 4 [.ref h1, .ref h2, .ref h3, .ref h4, .ref h5, .ref h6, .ref h7, .ref h8, .ref h9, .ref h10, .ref h11, hv0, hv1, hv2, hv3, hv4], wI (cy 1) h7 48 (fx), wO e0 2 [.ref e1, .ref e2, .int et, .int (nI el), .int (nI ef)]]) := by
  refine XMi.start (by decide) (Nat.le_of_ble_eq_true rfl) ?_
  intro p e s m below meth c args A ls Q hat hQ
  obtain ⟨hx, hb, hr, hml, hown, hg, hlocks, hin, hK, hA, hP, hD, hS, hE, hl⟩ := hat
  have hown : s.vm.findClass RX1 = some m.cls := hown
  have hl : lv_has ls 4 [(0, .ref q0), (1, .ref e0), (2, .int (nI v)), (3, .int (nI wd))] := hl
  refine lv_aload_n hx hb dX1_endState_0 rfl (lv_at hl 1 rfl) ?_
  refine va_get (D := D) (ci := 2) (v := .int et) (C := RX2) (T := TX2) (N := 5) hx hb hg i_X2 hown hK hP 3 rfl rfl 2 (by decide) (hg _ m_517) (fun _ h9 => h9) rfl dX1_endState_1 ?_
  refine lv_if_eq (tgt := 23) hx hb dX1_endState_4 (by decide) (fun c_4 => ?_) (fun c_4 => ?_)
  · refine lv_aload_n hx hb dX1_endState_23 rfl (lv_at hl 0 rfl) ?_
    refine lv_iload_n hx hb dX1_endState_24 rfl (lv_at hl 2 rfl) ?_
    refine lv_iload_n hx hb dX1_endState_25 rfl (lv_at hl 3 rfl) ?_
    refine x_callVi (q := (RX1, TX1, 8)) (ci := 1) (q0 := 0) (wr := [wO e0 2 [.ref e1, .ref e2, .int et, .int (nI el), .int (nI ef)]]) (rest := []) ⟨hx, hb, hml, hown, hg, hl.1⟩ k_X1_81 (s_straightPath l D cy q0 q1 q2 q3 q4 er ql qo h0 h1 h2 h3 h4 h5 h6 h7 h8 h9 h10 h11 hv0 hv1 hv2 hv3 hv4 fx v wd (hnx) (hv) (by omega)) E0_blind hK hP hD hS hA [0, 1, 2] [3] ⟨rfl, rfl, by decide +kernel, by decide +kernel, by decide +kernel⟩ rfl rfl (fun _ _ _ => trivial) dX1_endState_26 rfl rfl (Nat.le_of_ble_eq_true rfl) ⟨Nat.le_of_ble_eq_true rfl, Nat.le_of_ble_eq_true rfl⟩ ⟨Nat.le_of_ble_eq_true rfl, Nat.le_of_ble_eq_true rfl⟩ (fun zr1 zu1 H locs hw1 hP9 hD9 hS9 => ?_)
    clear hP hD hS
    obtain ⟨k_2, rfl⟩ : ∃ z, z = zu1 := ⟨_, rfl⟩
    refine reW [wO e0 2 [.ref e1, .ref e2, .int et, .int (nI el), .int (nI ef)], wO q0 1 [.ref q1, .ref er, .ref q2, .ref q3, .ref q4, .ref h0, .int (nI ql), .int qo], wO h0 4 [.ref h1, .ref h2, .ref h3, .ref h4, .ref h5, .ref h6, .ref h7, .ref h8, .ref h9, .ref h10, .ref h11, hv0, hv1, hv2, hv3, hv4], wI (cy 1) h7 48 (fx)] hP9 hD9 hS9 (fun hP hD hS => ?_)
    clear hP9 hD9 hS9
    refine W.widen (k := 0) (n := 0) (Nat.le_of_ble_eq_true rfl) (Nat.le_of_ble_eq_true rfl) ?_
    replace hw1 : (zr1 = nI k_2) ∧ (k_2 ≤ 5) ∧ (k_2 = nC9 fx (dg9 v 0) wd) := hw1
    obtain ⟨f_3, f_4, f_5⟩ := hw1
    subst f_3
    exact x_iret hQ hx hb hr hlocks hK hP hD hS dX1_endState_29 k_2 (⟨rfl, (show k_2 ≤ 5 from by omega), (by rw [if_pos c_4]; exact f_5)⟩) [1, 2, 3, 0] (by decide +kernel) rfl (Nat.le_of_ble_eq_true rfl) (Nat.le_of_ble_eq_true rfl)
  · refine lv_iload_n hx hb dX1_endState_7 rfl (lv_at hl 2 rfl) ?_
    refine lv_aload_n hx hb dX1_endState_8 rfl (lv_at hl 0 rfl) ?_
    refine va_get (D := D) (ci := 1) (v := .ref h0) (C := RX1) (T := TX1) (N := 8) hx hb hg i_X1 hown hK hP 0 rfl rfl 5 (by decide) (hg _ m_558) (fun _ h9 => h9) rfl dX1_endState_9 ?_
    refine va_get (D := D) (ci := 4) (v := .ref h7) (C := RX4) (T := TX4) (N := 16) hx hb hg i_X4 hown hK hP 1 rfl rfl 6 (by decide) (hg _ m_355) (fun _ h9 => h9) rfl dX1_endState_12 ?_
    refine lv_iload_n hx hb dX1_endState_15 rfl (lv_at hl 3 rfl) ?_
    refine va_iald hx hb hK hP 2 1 rfl rfl (vp_in_nI (by omega) (by decide)) dX1_endState_16 ?_
    obtain ⟨j_6, hj_6, ej_6⟩ := rng_at hnx (i := wd) (by omega) (by decide)
    refine lv_topi (fun y_7 hy_7 => ?_)
    obtain rfl : y_7 = nI j_6 := hy_7.trans ej_6
    refine x_callSi (wr := [wO q0 1 [.ref q1, .ref er, .ref q2, .ref q3, .ref q4, .ref h0, .int (nI ql), .int qo], wO h0 4 [.ref h1, .ref h2, .ref h3, .ref h4, .ref h5, .ref h6, .ref h7, .ref h8, .ref h9, .ref h10, .ref h11, hv0, hv1, hv2, hv3, hv4], wI (cy 1) h7 48 (fx), wO e0 2 [.ref e1, .ref e2, .int et, .int (nI el), .int (nI ef)]]) (rest := []) ⟨hx, hb, hml, hown, hg, hl.1⟩ k_X1_87 (s_stateOf l D cy v j_6 (hv) (by omega)) E0_blind hK hP hD hS hA [] [0, 1, 2, 3] ⟨rfl, rfl, by decide +kernel, by decide +kernel, by decide +kernel⟩ (fun _ _ _ => trivial) dX1_endState_17 rfl rfl (Nat.le_of_ble_eq_true rfl) ⟨Nat.le_of_ble_eq_true rfl, Nat.le_of_ble_eq_true rfl⟩ ⟨Nat.le_of_ble_eq_true rfl, Nat.le_of_ble_eq_true rfl⟩ (fun zr8 zu8 H locs hw8 hP9 hD9 hS9 => ?_)
    clear hP hD hS
    obtain ⟨k_9, rfl⟩ : ∃ z, z = zu8 := ⟨_, rfl⟩
    refine reW [wO q0 1 [.ref q1, .ref er, .ref q2, .ref q3, .ref q4, .ref h0, .int (nI ql), .int qo], wO h0 4 [.ref h1, .ref h2, .ref h3, .ref h4, .ref h5, .ref h6, .ref h7, .ref h8, .ref h9, .ref h10, .ref h11, hv0, hv1, hv2, hv3, hv4], wI (cy 1) h7 48 (fx), wO e0 2 [.ref e1, .ref e2, .int et, .int (nI el), .int (nI ef)]] hP9 hD9 hS9 (fun hP hD hS => ?_)
    clear hP9 hD9 hS9
    refine W.widen (k := 0) (n := 0) (Nat.le_of_ble_eq_true rfl) (Nat.le_of_ble_eq_true rfl) ?_
    replace hw8 : (zr8 = nI k_9) ∧ (k_9 ≤ 5) ∧ (k_9 = dg9 v j_6) := hw8
    obtain ⟨f_10, f_11, f_12⟩ := hw8
    subst f_10
    refine lv_goto (tgt := 29) hx hb dX1_endState_20 (by decide) ?_
    exact x_iret hQ hx hb hr hlocks hK hP hD hS dX1_endState_29 k_9 (⟨rfl, (show k_9 ≤ 5 from by omega), (by rw [if_neg c_4, nC9_0 (by omega) (by omega) ej_6]; exact f_12)⟩) [0, 1, 2, 3] (by decide +kernel) rfl (Nat.le_of_ble_eq_true rfl) (Nat.le_of_ble_eq_true rfl)
theorem gdX1_wayIndex_0 : decode cX1_wayIndex 0 = .ok (.iload_n 0, 1) ∧ decode cX1_wayIndex 1 = .ok (.bipush 11, 2) ∧ decode cX1_wayIndex 3 = .ok (.imul, 1) ∧ decode cX1_wayIndex 4 = .ok (.iload_n 1, 1) ∧ decode cX1_wayIndex 5 = .ok (.iadd, 1) ∧ decode cX1_wayIndex 6 = .ok (.ireturn, 1) := by decide +kernel
theorem dX1_wayIndex_0 : decode cX1_wayIndex 0 = .ok (.iload_n 0, 1) := gdX1_wayIndex_0.1
theorem dX1_wayIndex_1 : decode cX1_wayIndex 1 = .ok (.bipush 11, 2) := gdX1_wayIndex_0.2.1
theorem dX1_wayIndex_3 : decode cX1_wayIndex 3 = .ok (.imul, 1) := gdX1_wayIndex_0.2.2.1
theorem dX1_wayIndex_4 : decode cX1_wayIndex 4 = .ok (.iload_n 1, 1) := gdX1_wayIndex_0.2.2.2.1
theorem dX1_wayIndex_5 : decode cX1_wayIndex 5 = .ok (.iadd, 1) := gdX1_wayIndex_0.2.2.2.2.1
theorem dX1_wayIndex_6 : decode cX1_wayIndex 6 = .ok (.ireturn, 1) := gdX1_wayIndex_0.2.2.2.2.2
set_option maxHeartbeats 1000000 in
set_option maxRecDepth 100000 in
theorem s_wayIndex (l : Launch) (D : va_G) (cy : Nat → ClassId) (i : Nat) (j : Nat) (hi : i ≤ 1000) (hj : j ≤ 1000) : XMi l D (tyL cy) E0 yX1_wayIndex cX1_wayIndex 2 (some .int) (rmk 0 0 0) [.int (nI i), .int (nI j)] [] (fun (r : Int32) (k : Nat) => (r = nI k) ∧ (k = i * 11 + j)) (fun (k : Nat) => []) := by
  refine XMi.start (by decide) (Nat.le_of_ble_eq_true rfl) ?_
  intro p e s m below meth c args A ls Q hat hQ
  obtain ⟨hx, hb, hr, hml, hown, hg, hlocks, hin, hK, hA, hP, hD, hS, hE, hl⟩ := hat
  have hown : s.vm.findClass RX1 = some m.cls := hown
  have hl : lv_has ls 2 [(0, .int (nI i)), (1, .int (nI j))] := hl
  refine lv_iload_n hx hb dX1_wayIndex_0 rfl (lv_at hl 0 rfl) ?_
  refine lv_bipush (v := 11) hx hb dX1_wayIndex_1 (by decide) ?_
  refine lv_imul hx hb dX1_wayIndex_3 ?_
  refine lv_topi (fun y_1 hy_1 => ?_)
  obtain rfl : y_1 = nI (i * 11) := hy_1.trans (pk_mul i 11)
  refine lv_iload_n hx hb dX1_wayIndex_4 rfl (lv_at hl 1 rfl) ?_
  refine lv_iadd hx hb dX1_wayIndex_5 ?_
  refine lv_topi (fun y_2 hy_2 => ?_)
  obtain rfl : y_2 = nI ((i * 11) + j) := hy_2.trans (nI_add ((i * 11)) j)
  exact x_iret hQ hx hb hr hlocks hK hP hD hS dX1_wayIndex_6 (((i * 11) + j)) (⟨rfl, (show (((i * 11) + j)) = i * 11 + j from by omega)⟩) [] (by decide +kernel) rfl (Nat.le_of_ble_eq_true rfl) (Nat.le_of_ble_eq_true rfl)
/-- how many bits a number has, as it is counted -/
def ushE (x k : Int32) : Int32 := ((x : Int32).toUInt32 >>> ((k : Int32).toUInt32 &&& Int32.toUInt32 31)).toInt32
def bcE (x : Int32) : Int32 :=
  let a := x - (ushE x 1 &&& 1431655765)
  let b := (a &&& 858993459) + (ushE a 2 &&& 858993459)
  let c := (b + ushE b 4) &&& 252645135
  let d := c + ushE c 8
  let e := d + ushE d 16
  e &&& 63
theorem gdJ6_bitCount_0f7a4_0 : decode cJ6_bitCount_0f7a4 0 = .ok (.iload_n 0, 1) ∧ decode cJ6_bitCount_0f7a4 1 = .ok (.iload_n 0, 1) ∧ decode cJ6_bitCount_0f7a4 2 = .ok (.iconst 1, 1) ∧ decode cJ6_bitCount_0f7a4 3 = .ok (.iushr, 1) ∧ decode cJ6_bitCount_0f7a4 4 = .ok (.ldc_w 265, 3) ∧ decode cJ6_bitCount_0f7a4 7 = .ok (.iand, 1) ∧ decode cJ6_bitCount_0f7a4 8 = .ok (.isub, 1) ∧ decode cJ6_bitCount_0f7a4 9 = .ok (.istore_n 0, 1) ∧ decode cJ6_bitCount_0f7a4 10 = .ok (.iload_n 0, 1) ∧ decode cJ6_bitCount_0f7a4 11 = .ok (.ldc_w 266, 3) ∧ decode cJ6_bitCount_0f7a4 14 = .ok (.iand, 1) ∧ decode cJ6_bitCount_0f7a4 15 = .ok (.iload_n 0, 1) := by decide +kernel
theorem dJ6_bitCount_0f7a4_0 : decode cJ6_bitCount_0f7a4 0 = .ok (.iload_n 0, 1) := gdJ6_bitCount_0f7a4_0.1
theorem dJ6_bitCount_0f7a4_1 : decode cJ6_bitCount_0f7a4 1 = .ok (.iload_n 0, 1) := gdJ6_bitCount_0f7a4_0.2.1
theorem dJ6_bitCount_0f7a4_2 : decode cJ6_bitCount_0f7a4 2 = .ok (.iconst 1, 1) := gdJ6_bitCount_0f7a4_0.2.2.1
theorem dJ6_bitCount_0f7a4_3 : decode cJ6_bitCount_0f7a4 3 = .ok (.iushr, 1) := gdJ6_bitCount_0f7a4_0.2.2.2.1
theorem dJ6_bitCount_0f7a4_4 : decode cJ6_bitCount_0f7a4 4 = .ok (.ldc_w 265, 3) := gdJ6_bitCount_0f7a4_0.2.2.2.2.1
theorem dJ6_bitCount_0f7a4_7 : decode cJ6_bitCount_0f7a4 7 = .ok (.iand, 1) := gdJ6_bitCount_0f7a4_0.2.2.2.2.2.1
theorem dJ6_bitCount_0f7a4_8 : decode cJ6_bitCount_0f7a4 8 = .ok (.isub, 1) := gdJ6_bitCount_0f7a4_0.2.2.2.2.2.2.1
theorem dJ6_bitCount_0f7a4_9 : decode cJ6_bitCount_0f7a4 9 = .ok (.istore_n 0, 1) := gdJ6_bitCount_0f7a4_0.2.2.2.2.2.2.2.1
theorem dJ6_bitCount_0f7a4_10 : decode cJ6_bitCount_0f7a4 10 = .ok (.iload_n 0, 1) := gdJ6_bitCount_0f7a4_0.2.2.2.2.2.2.2.2.1
theorem dJ6_bitCount_0f7a4_11 : decode cJ6_bitCount_0f7a4 11 = .ok (.ldc_w 266, 3) := gdJ6_bitCount_0f7a4_0.2.2.2.2.2.2.2.2.2.1
theorem dJ6_bitCount_0f7a4_14 : decode cJ6_bitCount_0f7a4 14 = .ok (.iand, 1) := gdJ6_bitCount_0f7a4_0.2.2.2.2.2.2.2.2.2.2.1
theorem dJ6_bitCount_0f7a4_15 : decode cJ6_bitCount_0f7a4 15 = .ok (.iload_n 0, 1) := gdJ6_bitCount_0f7a4_0.2.2.2.2.2.2.2.2.2.2.2
theorem gdJ6_bitCount_0f7a4_16 : decode cJ6_bitCount_0f7a4 16 = .ok (.iconst 2, 1) ∧ decode cJ6_bitCount_0f7a4 17 = .ok (.iushr, 1) ∧ decode cJ6_bitCount_0f7a4 18 = .ok (.ldc_w 266, 3) ∧ decode cJ6_bitCount_0f7a4 21 = .ok (.iand, 1) ∧ decode cJ6_bitCount_0f7a4 22 = .ok (.iadd, 1) ∧ decode cJ6_bitCount_0f7a4 23 = .ok (.istore_n 0, 1) ∧ decode cJ6_bitCount_0f7a4 24 = .ok (.iload_n 0, 1) ∧ decode cJ6_bitCount_0f7a4 25 = .ok (.iload_n 0, 1) ∧ decode cJ6_bitCount_0f7a4 26 = .ok (.iconst 4, 1) ∧ decode cJ6_bitCount_0f7a4 27 = .ok (.iushr, 1) ∧ decode cJ6_bitCount_0f7a4 28 = .ok (.iadd, 1) ∧ decode cJ6_bitCount_0f7a4 29 = .ok (.ldc_w 267, 3) := by decide +kernel
theorem dJ6_bitCount_0f7a4_16 : decode cJ6_bitCount_0f7a4 16 = .ok (.iconst 2, 1) := gdJ6_bitCount_0f7a4_16.1
theorem dJ6_bitCount_0f7a4_17 : decode cJ6_bitCount_0f7a4 17 = .ok (.iushr, 1) := gdJ6_bitCount_0f7a4_16.2.1
theorem dJ6_bitCount_0f7a4_18 : decode cJ6_bitCount_0f7a4 18 = .ok (.ldc_w 266, 3) := gdJ6_bitCount_0f7a4_16.2.2.1
theorem dJ6_bitCount_0f7a4_21 : decode cJ6_bitCount_0f7a4 21 = .ok (.iand, 1) := gdJ6_bitCount_0f7a4_16.2.2.2.1
theorem dJ6_bitCount_0f7a4_22 : decode cJ6_bitCount_0f7a4 22 = .ok (.iadd, 1) := gdJ6_bitCount_0f7a4_16.2.2.2.2.1
theorem dJ6_bitCount_0f7a4_23 : decode cJ6_bitCount_0f7a4 23 = .ok (.istore_n 0, 1) := gdJ6_bitCount_0f7a4_16.2.2.2.2.2.1
theorem dJ6_bitCount_0f7a4_24 : decode cJ6_bitCount_0f7a4 24 = .ok (.iload_n 0, 1) := gdJ6_bitCount_0f7a4_16.2.2.2.2.2.2.1
theorem dJ6_bitCount_0f7a4_25 : decode cJ6_bitCount_0f7a4 25 = .ok (.iload_n 0, 1) := gdJ6_bitCount_0f7a4_16.2.2.2.2.2.2.2.1
theorem dJ6_bitCount_0f7a4_26 : decode cJ6_bitCount_0f7a4 26 = .ok (.iconst 4, 1) := gdJ6_bitCount_0f7a4_16.2.2.2.2.2.2.2.2.1
theorem dJ6_bitCount_0f7a4_27 : decode cJ6_bitCount_0f7a4 27 = .ok (.iushr, 1) := gdJ6_bitCount_0f7a4_16.2.2.2.2.2.2.2.2.2.1
theorem dJ6_bitCount_0f7a4_28 : decode cJ6_bitCount_0f7a4 28 = .ok (.iadd, 1) := gdJ6_bitCount_0f7a4_16.2.2.2.2.2.2.2.2.2.2.1
theorem dJ6_bitCount_0f7a4_29 : decode cJ6_bitCount_0f7a4 29 = .ok (.ldc_w 267, 3) := gdJ6_bitCount_0f7a4_16.2.2.2.2.2.2.2.2.2.2.2
theorem gdJ6_bitCount_0f7a4_32 : decode cJ6_bitCount_0f7a4 32 = .ok (.iand, 1) ∧ decode cJ6_bitCount_0f7a4 33 = .ok (.istore_n 0, 1) ∧ decode cJ6_bitCount_0f7a4 34 = .ok (.iload_n 0, 1) ∧ decode cJ6_bitCount_0f7a4 35 = .ok (.iload_n 0, 1) ∧ decode cJ6_bitCount_0f7a4 36 = .ok (.bipush 8, 2) ∧ decode cJ6_bitCount_0f7a4 38 = .ok (.iushr, 1) ∧ decode cJ6_bitCount_0f7a4 39 = .ok (.iadd, 1) ∧ decode cJ6_bitCount_0f7a4 40 = .ok (.istore_n 0, 1) ∧ decode cJ6_bitCount_0f7a4 41 = .ok (.iload_n 0, 1) ∧ decode cJ6_bitCount_0f7a4 42 = .ok (.iload_n 0, 1) ∧ decode cJ6_bitCount_0f7a4 43 = .ok (.bipush 16, 2) ∧ decode cJ6_bitCount_0f7a4 45 = .ok (.iushr, 1) := by decide +kernel
theorem dJ6_bitCount_0f7a4_32 : decode cJ6_bitCount_0f7a4 32 = .ok (.iand, 1) := gdJ6_bitCount_0f7a4_32.1
theorem dJ6_bitCount_0f7a4_33 : decode cJ6_bitCount_0f7a4 33 = .ok (.istore_n 0, 1) := gdJ6_bitCount_0f7a4_32.2.1
theorem dJ6_bitCount_0f7a4_34 : decode cJ6_bitCount_0f7a4 34 = .ok (.iload_n 0, 1) := gdJ6_bitCount_0f7a4_32.2.2.1
theorem dJ6_bitCount_0f7a4_35 : decode cJ6_bitCount_0f7a4 35 = .ok (.iload_n 0, 1) := gdJ6_bitCount_0f7a4_32.2.2.2.1
theorem dJ6_bitCount_0f7a4_36 : decode cJ6_bitCount_0f7a4 36 = .ok (.bipush 8, 2) := gdJ6_bitCount_0f7a4_32.2.2.2.2.1
theorem dJ6_bitCount_0f7a4_38 : decode cJ6_bitCount_0f7a4 38 = .ok (.iushr, 1) := gdJ6_bitCount_0f7a4_32.2.2.2.2.2.1
theorem dJ6_bitCount_0f7a4_39 : decode cJ6_bitCount_0f7a4 39 = .ok (.iadd, 1) := gdJ6_bitCount_0f7a4_32.2.2.2.2.2.2.1
theorem dJ6_bitCount_0f7a4_40 : decode cJ6_bitCount_0f7a4 40 = .ok (.istore_n 0, 1) := gdJ6_bitCount_0f7a4_32.2.2.2.2.2.2.2.1
theorem dJ6_bitCount_0f7a4_41 : decode cJ6_bitCount_0f7a4 41 = .ok (.iload_n 0, 1) := gdJ6_bitCount_0f7a4_32.2.2.2.2.2.2.2.2.1
theorem dJ6_bitCount_0f7a4_42 : decode cJ6_bitCount_0f7a4 42 = .ok (.iload_n 0, 1) := gdJ6_bitCount_0f7a4_32.2.2.2.2.2.2.2.2.2.1
theorem dJ6_bitCount_0f7a4_43 : decode cJ6_bitCount_0f7a4 43 = .ok (.bipush 16, 2) := gdJ6_bitCount_0f7a4_32.2.2.2.2.2.2.2.2.2.2.1
theorem dJ6_bitCount_0f7a4_45 : decode cJ6_bitCount_0f7a4 45 = .ok (.iushr, 1) := gdJ6_bitCount_0f7a4_32.2.2.2.2.2.2.2.2.2.2.2
theorem gdJ6_bitCount_0f7a4_46 : decode cJ6_bitCount_0f7a4 46 = .ok (.iadd, 1) ∧ decode cJ6_bitCount_0f7a4 47 = .ok (.istore_n 0, 1) ∧ decode cJ6_bitCount_0f7a4 48 = .ok (.iload_n 0, 1) ∧ decode cJ6_bitCount_0f7a4 49 = .ok (.bipush 63, 2) ∧ decode cJ6_bitCount_0f7a4 51 = .ok (.iand, 1) ∧ decode cJ6_bitCount_0f7a4 52 = .ok (.ireturn, 1) := by decide +kernel
theorem dJ6_bitCount_0f7a4_46 : decode cJ6_bitCount_0f7a4 46 = .ok (.iadd, 1) := gdJ6_bitCount_0f7a4_46.1
theorem dJ6_bitCount_0f7a4_47 : decode cJ6_bitCount_0f7a4 47 = .ok (.istore_n 0, 1) := gdJ6_bitCount_0f7a4_46.2.1
theorem dJ6_bitCount_0f7a4_48 : decode cJ6_bitCount_0f7a4 48 = .ok (.iload_n 0, 1) := gdJ6_bitCount_0f7a4_46.2.2.1
theorem dJ6_bitCount_0f7a4_49 : decode cJ6_bitCount_0f7a4 49 = .ok (.bipush 63, 2) := gdJ6_bitCount_0f7a4_46.2.2.2.1
theorem dJ6_bitCount_0f7a4_51 : decode cJ6_bitCount_0f7a4 51 = .ok (.iand, 1) := gdJ6_bitCount_0f7a4_46.2.2.2.2.1
theorem dJ6_bitCount_0f7a4_52 : decode cJ6_bitCount_0f7a4 52 = .ok (.ireturn, 1) := gdJ6_bitCount_0f7a4_46.2.2.2.2.2
set_option maxHeartbeats 1000000 in
set_option maxRecDepth 100000 in
theorem s_bitCount (l : Launch) (D : va_G) (cy : Nat → ClassId) (bi : Int32)  : XMi l D (tyL cy) E0 yJ6_bitCount_0f7a4 cJ6_bitCount_0f7a4 1 (some .int) (rmk 0 0 0) [.int bi] [] (fun (r : Int32) (_ : Unit) => (r = bcE bi)) (fun (_ : Unit) => []) := by
  refine XMi.start (by decide) (Nat.le_of_ble_eq_true rfl) ?_
  intro p e s m below meth c args A ls Q hat hQ
  obtain ⟨hx, hb, hr, hml, hown, hg, hlocks, hin, hK, hA, hP, hD, hS, hE, hl⟩ := hat
  have hown : s.vm.findClass RJ6 = some m.cls := hown
  have hl : lv_has ls 1 [(0, .int bi)] := hl
  refine lv_iload_n hx hb dJ6_bitCount_0f7a4_0 rfl (lv_at hl 0 rfl) ?_
  refine lv_iload_n hx hb dJ6_bitCount_0f7a4_1 rfl (lv_at hl 0 rfl) ?_
  refine lv_iconst (v := 1) hx hb dJ6_bitCount_0f7a4_2 (by decide) ?_
  obtain ⟨x_1, ex_1⟩ : ∃ y : Int32, ((bi : Int32).toUInt32 >>> ((1 : Int32).toUInt32 &&& Int32.toUInt32 31)).toInt32 = y := ⟨_, rfl⟩
  refine lv_iushr (v := x_1) hx hb dJ6_bitCount_0f7a4_3 ex_1 ?_
  refine lv_ldcw (v := 1431655765) hx hb hown (hg _ m_1208) dJ6_bitCount_0f7a4_4 ?_
  refine lv_iand hx hb dJ6_bitCount_0f7a4_7 ?_
  refine lv_topi (fun x_2 ex_2 => ?_)
  refine lv_isub hx hb dJ6_bitCount_0f7a4_8 ?_
  refine lv_topi (fun x_3 ex_3 => ?_)
  refine lv_istore_n (lv' := [(0, .int x_3)]) hx hb dJ6_bitCount_0f7a4_9 rfl hl (by decide) rfl (fun ls hl => ?_)
  refine lv_iload_n hx hb dJ6_bitCount_0f7a4_10 rfl (lv_at hl 0 rfl) ?_
  refine lv_ldcw (v := 858993459) hx hb hown (hg _ m_1209) dJ6_bitCount_0f7a4_11 ?_
  refine lv_iand hx hb dJ6_bitCount_0f7a4_14 ?_
  refine lv_topi (fun x_4 ex_4 => ?_)
  refine lv_iload_n hx hb dJ6_bitCount_0f7a4_15 rfl (lv_at hl 0 rfl) ?_
  refine lv_iconst (v := 2) hx hb dJ6_bitCount_0f7a4_16 (by decide) ?_
  obtain ⟨x_5, ex_5⟩ : ∃ y : Int32, ((x_3 : Int32).toUInt32 >>> ((2 : Int32).toUInt32 &&& Int32.toUInt32 31)).toInt32 = y := ⟨_, rfl⟩
  refine lv_iushr (v := x_5) hx hb dJ6_bitCount_0f7a4_17 ex_5 ?_
  refine lv_ldcw (v := 858993459) hx hb hown (hg _ m_1209) dJ6_bitCount_0f7a4_18 ?_
  refine lv_iand hx hb dJ6_bitCount_0f7a4_21 ?_
  refine lv_topi (fun x_6 ex_6 => ?_)
  refine lv_iadd hx hb dJ6_bitCount_0f7a4_22 ?_
  refine lv_topi (fun x_7 ex_7 => ?_)
  refine lv_istore_n (lv' := [(0, .int x_7)]) hx hb dJ6_bitCount_0f7a4_23 rfl hl (by decide) rfl (fun ls hl => ?_)
  refine lv_iload_n hx hb dJ6_bitCount_0f7a4_24 rfl (lv_at hl 0 rfl) ?_
  refine lv_iload_n hx hb dJ6_bitCount_0f7a4_25 rfl (lv_at hl 0 rfl) ?_
  refine lv_iconst (v := 4) hx hb dJ6_bitCount_0f7a4_26 (by decide) ?_
  obtain ⟨x_8, ex_8⟩ : ∃ y : Int32, ((x_7 : Int32).toUInt32 >>> ((4 : Int32).toUInt32 &&& Int32.toUInt32 31)).toInt32 = y := ⟨_, rfl⟩
  refine lv_iushr (v := x_8) hx hb dJ6_bitCount_0f7a4_27 ex_8 ?_
  refine lv_iadd hx hb dJ6_bitCount_0f7a4_28 ?_
  refine lv_topi (fun x_9 ex_9 => ?_)
  refine lv_ldcw (v := 252645135) hx hb hown (hg _ m_1210) dJ6_bitCount_0f7a4_29 ?_
  refine lv_iand hx hb dJ6_bitCount_0f7a4_32 ?_
  refine lv_topi (fun x_10 ex_10 => ?_)
  refine lv_istore_n (lv' := [(0, .int x_10)]) hx hb dJ6_bitCount_0f7a4_33 rfl hl (by decide) rfl (fun ls hl => ?_)
  refine lv_iload_n hx hb dJ6_bitCount_0f7a4_34 rfl (lv_at hl 0 rfl) ?_
  refine lv_iload_n hx hb dJ6_bitCount_0f7a4_35 rfl (lv_at hl 0 rfl) ?_
  refine lv_bipush (v := 8) hx hb dJ6_bitCount_0f7a4_36 (by decide) ?_
  obtain ⟨x_11, ex_11⟩ : ∃ y : Int32, ((x_10 : Int32).toUInt32 >>> ((8 : Int32).toUInt32 &&& Int32.toUInt32 31)).toInt32 = y := ⟨_, rfl⟩
  refine lv_iushr (v := x_11) hx hb dJ6_bitCount_0f7a4_38 ex_11 ?_
  refine lv_iadd hx hb dJ6_bitCount_0f7a4_39 ?_
  refine lv_topi (fun x_12 ex_12 => ?_)
  refine lv_istore_n (lv' := [(0, .int x_12)]) hx hb dJ6_bitCount_0f7a4_40 rfl hl (by decide) rfl (fun ls hl => ?_)
  refine lv_iload_n hx hb dJ6_bitCount_0f7a4_41 rfl (lv_at hl 0 rfl) ?_
  refine lv_iload_n hx hb dJ6_bitCount_0f7a4_42 rfl (lv_at hl 0 rfl) ?_
  refine lv_bipush (v := 16) hx hb dJ6_bitCount_0f7a4_43 (by decide) ?_
  obtain ⟨x_13, ex_13⟩ : ∃ y : Int32, ((x_12 : Int32).toUInt32 >>> ((16 : Int32).toUInt32 &&& Int32.toUInt32 31)).toInt32 = y := ⟨_, rfl⟩
  refine lv_iushr (v := x_13) hx hb dJ6_bitCount_0f7a4_45 ex_13 ?_
  refine lv_iadd hx hb dJ6_bitCount_0f7a4_46 ?_
  refine lv_topi (fun x_14 ex_14 => ?_)
  refine lv_istore_n (lv' := [(0, .int x_14)]) hx hb dJ6_bitCount_0f7a4_47 rfl hl (by decide) rfl (fun ls hl => ?_)
  refine lv_iload_n hx hb dJ6_bitCount_0f7a4_48 rfl (lv_at hl 0 rfl) ?_
  refine lv_bipush (v := 63) hx hb dJ6_bitCount_0f7a4_49 (by decide) ?_
  refine lv_iand hx hb dJ6_bitCount_0f7a4_51 ?_
  refine lv_topi (fun x_15 ex_15 => ?_)
  exact x_iret hQ hx hb hr hlocks hK hP hD hS dJ6_bitCount_0f7a4_52 () ((by subst_vars; rfl)) [] (by decide +kernel) rfl (Nat.le_of_ble_eq_true rfl) (Nat.le_of_ble_eq_true rfl)
