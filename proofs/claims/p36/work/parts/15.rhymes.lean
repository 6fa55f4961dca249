def mL15 : List (Option Cond) := [some (Cond.fieldLink RX6 43 "CliffJudges$Hills" "counts" "[I"), some (Cond.fieldLink RX6 18 "CliffJudges$Rhymes" "nearest" "[I"), some (Cond.fieldLink RX6 35 "CliffJudges$Rhymes" "hills" "LCliffJudges$Hills;"), some (Cond.fieldLink RX6 39 "CliffJudges$Rhymes" "shout" "LCliffJudges$Shout;"), some (Cond.fieldLink RX6 77 "CliffJudges$Shout" "place" "I"), some (Cond.methodLink RX6 80 yX4_far)]
set_option maxRecDepth 100000 in
theorem mP15 : pick [330, 259, 2, 1, 41, 611] lw_tbl = mL15 := rfl
set_option maxRecDepth 100000 in
theorem mG15 : mL15.all (fun o => o.all goodWord) = true := rfl
theorem m_330 : (Cond.fieldLink RX6 43 "CliffJudges$Hills" "counts" "[I") ∈ gT := gp mP15 mG15 0 rfl
theorem m_589 : (Cond.fieldLink RX6 18 "CliffJudges$Rhymes" "nearest" "[I") ∈ gT := gp mP15 mG15 1 rfl
theorem m_591 : (Cond.fieldLink RX6 35 "CliffJudges$Rhymes" "hills" "LCliffJudges$Hills;") ∈ gT := gp mP15 mG15 2 rfl
theorem m_592 : (Cond.fieldLink RX6 39 "CliffJudges$Rhymes" "shout" "LCliffJudges$Shout;") ∈ gT := gp mP15 mG15 3 rfl
theorem m_633 : (Cond.fieldLink RX6 77 "CliffJudges$Shout" "place" "I") ∈ gT := gp mP15 mG15 4 rfl
theorem m_1244 : (Cond.methodLink RX6 80 yX4_far) ∈ gT := gp mP15 mG15 5 rfl
def nOK (f : Nat → Int32) (c : Nat) : Prop := ∀ k, k < c → ∃ j : Nat, j < c ∧ f k = nI j
def hOK (f : Nat → Int32) (i r : Nat) : Prop := ∀ k, k ≤ i → k ≠ r → ∃ j : Nat, j < i ∧ f k = nI j
theorem nOK_at {f : Nat → Int32} {c : Nat} (h : nOK f c) {i : Nat} (hi : i < c) (hc : c < 2 ^ 31) : ∃ j : Nat, j < c ∧ f (nI i).toNatClampNeg = nI j := by
  rw [nI_clamp (by omega)]; exact h i hi
theorem hOK_at {f : Nat → Int32} {i r : Nat} (h : hOK f i r) {k : Nat} (hk : k ≤ i) (hr : k ≠ r) (hc : i < 2 ^ 31) : ∃ j : Nat, j < i ∧ f (nI k).toNatClampNeg = nI j := by
  rw [nI_clamp (by omega)]; exact h k hk hr
theorem hOK_in {f : Nat → Int32} {i : Nat} (h : nOK f i) : hOK f i i := fun k hk hr => h k (by omega)
theorem hOK_mv {f : Nat → Int32} {i r j : Nat} (h : hOK f i r) (h1 : 1 ≤ r) (hr : r ≤ i) (hi : i < 2 ^ 31) (hj : j < i) : hOK (upd f (nI r).toNatClampNeg (nI j)) i (r - 1) := by
  intro k hk hk2
  rw [nI_clamp (by omega)]
  by_cases e : k = r
  · exact ⟨j, hj, by rw [e]; exact pk_us⟩
  · rw [pk_un e]; exact h k hk e
theorem hOK_fill {f : Nat → Int32} {i r : Nat} (h : hOK f i r) (hr : r ≤ i) (hi : i < 2 ^ 31) : nOK (upd f (nI r).toNatClampNeg (nI i)) (i + 1) := by
  intro k hk
  rw [nI_clamp (by omega)]
  by_cases e : k = r
  · exact ⟨i, by omega, by rw [e]; exact pk_us⟩
  · rw [pk_un e]; obtain ⟨j, hj, ej⟩ := h k (by omega) e; exact ⟨j, by omega, ej⟩
theorem alF_T {p : Nat → Bool} {n : Nat} (h : ∀ k, k < n → p k = true) : alF p n = true := by
  induction n with
  | zero => rfl
  | succ n ih =>
    show (alF p n && p n) = true
    rw [ih (fun k hk => h k (by omega)), h n (by omega)]
    rfl
theorem alF_all {p : Nat → Bool} {n : Nat} (h : alF p n = true) : ∀ k, k < n → p k = true := by
  intro k hk
  cases hp : p k with
  | true => rfl
  | false => exact absurd ((alF_f hp hk).symm.trans h) (by decide)
/-! RHYMES: the CLIFFS in their order, the nearest first -/
def ltF (far : Nat → Int32) (x y : Nat) : Prop := (far x).toInt < (far y).toInt ∨ ((far x).toInt = (far y).toInt ∧ x < y)
theorem ltF_irr {far : Nat → Int32} {x : Nat} (h : ltF far x x) : False := by
  rcases h with h | ⟨_, h⟩ <;> omega
theorem ltF_asy {far : Nat → Int32} {x y : Nat} (h : ltF far x y) (h2 : ltF far y x) : False := by
  rcases h with h | ⟨h, h3⟩ <;> rcases h2 with g | ⟨g, g3⟩ <;> omega
def ordR (fne far : Nat → Int32) (i : Nat) : Prop := (∀ k, k < i → ∃ j : Nat, j < i ∧ fne k = nI j) ∧ (∀ j, j < i → ∃ k, k < i ∧ fne k = nI j) ∧ ∀ a b, a < b → b < i → ltF far (fne a).toNatClampNeg (fne b).toNatClampNeg
theorem ord_0 {fne far : Nat → Int32} : ordR fne far 0 := ⟨fun k h => absurd h (Nat.not_lt_zero k), fun k h => absurd h (Nat.not_lt_zero k), fun _ b _ h => absurd h (Nat.not_lt_zero b)⟩
/-- while one is put in: the place r is free -/
def ordM (f O far : Nat → Int32) (i r : Nat) : Prop := (∀ k, k < r → f k = O k) ∧ (∀ k, r < k → k ≤ i → f k = O (k - 1)) ∧ ∀ k, r ≤ k → k < i → (far i).toInt < (far (O k).toNatClampNeg).toInt
theorem om_0 {f far : Nat → Int32} {i : Nat} : ordM f f far i i := ⟨fun _ _ => rfl, fun k h1 h2 => absurd h1 (by omega), fun k h1 h2 => absurd h1 (by omega)⟩
theorem om_mv {f O far g : Nat → Int32} {i r j j2 : Nat} (h : ordM f O far i r) (h1 : 1 ≤ r) (hr : r ≤ i) (hi : i < 1000) (ej : f (nI (r - 1)).toNatClampNeg = nI j) (hj : j < 1000) (hc : ¬ far j ≤ far i) (ej2 : f (nI (r - 1)).toNatClampNeg = nI j2) (e : upd f (nI r).toNatClampNeg (nI j2) = g) : ordM g O far i (r - 1) := by
  rw [nI_clamp (by omega)] at ej ej2 e
  obtain ⟨a, b, c⟩ := h
  subst e
  refine ⟨fun k hk => ?_, fun k h3 h4 => ?_, fun k h3 h4 => ?_⟩
  · rw [pk_un (by omega)]; exact a k (by omega)
  · by_cases q : k = r
    · rw [q, pk_us, ← ej2]; exact a (r - 1) (by omega)
    · rw [pk_un q]; exact b k (by omega) h4
  · by_cases q : k = r - 1
    · rw [q, ← a (r - 1) (by omega), ej, nI_clamp (by omega)]
      rw [fa_le] at hc
      omega
    · exact c k (by omega) h4
theorem om_fin {f O far g : Nat → Int32} {i r : Nat} (hO : ordR O far i) (h : ordM f O far i r) (hr : r ≤ i) (hi : i < 1000) (hx : r = 0 ∨ ∃ j : Nat, j < 1000 ∧ f (nI (r - 1)).toNatClampNeg = nI j ∧ far j ≤ far i) (e : upd f (nI r).toNatClampNeg (nI i) = g) : ordR g far (i + 1) := by
  rw [nI_clamp (by omega)] at e
  obtain ⟨o1, o2, o3⟩ := hO
  obtain ⟨a, b, c⟩ := h
  have g1 : ∀ k, k < r → g k = O k := fun k hk => by rw [← e, pk_un (by omega)]; exact a k hk
  have g2 : g r = nI i := by rw [← e, pk_us]
  have g3 : ∀ k, r < k → k ≤ i → g k = O (k - 1) := fun k h1 h2 => by rw [← e, pk_un (by omega)]; exact b k h1 h2
  have low : ∀ k, k < r → ltF far (O k).toNatClampNeg i := fun k hk => by
    rcases hx with z | ⟨j, hj, ej, hle⟩
    · omega
    · rw [nI_clamp (by omega), a (r - 1) (by omega)] at ej
      rw [fa_le] at hle
      obtain ⟨q, hq, eq⟩ := o1 k (by omega)
      have hk2 : (far (O k).toNatClampNeg).toInt ≤ (far (O (r - 1)).toNatClampNeg).toInt := by
        by_cases z : k = r - 1
        · rw [z]; exact Int.le_refl _
        · rcases o3 k (r - 1) (by omega) (by omega) with h | h
          · omega
          · omega
      rw [ej, nI_clamp (n := j) (by omega), eq, nI_clamp (n := q) (by omega)] at hk2
      unfold ltF
      rw [eq, nI_clamp (n := q) (by omega)]
      omega
  refine ⟨fun k hk => ?_, fun j hj => ?_, fun x y hxy hy => ?_⟩
  · rcases Nat.lt_trichotomy k r with z | z | z
    · obtain ⟨j, hj, ej⟩ := o1 k (by omega)
      exact ⟨j, by omega, by rw [g1 k z]; exact ej⟩
    · exact ⟨i, by omega, by rw [z]; exact g2⟩
    · obtain ⟨j, hj, ej⟩ := o1 (k - 1) (by omega)
      exact ⟨j, by omega, by rw [g3 k z (by omega)]; exact ej⟩
  · by_cases z : j = i
    · exact ⟨r, by omega, by rw [g2, z]⟩
    · obtain ⟨k, hk, ek⟩ := o2 j (by omega)
      by_cases q : k < r
      · exact ⟨k, by omega, by rw [g1 k q]; exact ek⟩
      · exact ⟨k + 1, by omega, by rw [g3 (k + 1) (by omega) (by omega), Nat.add_sub_cancel]; exact ek⟩
  · rcases Nat.lt_trichotomy y r with z | z | z
    · rw [g1 x (by omega), g1 y z]; exact o3 x y hxy (by omega)
    · rw [z, g2, nI_clamp (by omega), g1 x (by omega)]; exact low x (by omega)
    · rw [g3 y z (by omega)]
      rcases Nat.lt_trichotomy x r with w | w | w
      · rw [g1 x w]; exact o3 x (y - 1) (by omega) (by omega)
      · rw [w, g2, nI_clamp (by omega)]; exact Or.inl (c (y - 1) (by omega) (by omega))
      · rw [g3 x w (by omega)]; exact o3 (x - 1) (y - 1) (by omega) (by omega)
/-- the CLIFF that BINDS is the nearest, of those the first, of all that ANSWER -/
theorem bd_min {E : Nat → List Int32} {far : Nat → Int32} {c : Nat} (hc : c < 1000) : (bdS E far c = -1 ∧ ∀ j, j < c → E j = []) ∨ ∃ b : Nat, b < c ∧ bdS E far c = nI b ∧ ¬ E b = [] ∧ ∀ j, j < c → ¬ E j = [] → j = b ∨ ltF far b j := by
  induction c with
  | zero => exact Or.inl ⟨rfl, fun j h => absurd h (Nat.not_lt_zero j)⟩
  | succ c ih =>
    by_cases q : E c = []
    · have e : bdS E far (c + 1) = bdS E far c := bdS_no (fun h => h.2 q)
      rw [e]
      rcases ih (by omega) with ⟨h1, h2⟩ | ⟨b, h1, h2, h3, h4⟩
      · refine Or.inl ⟨h1, fun j hj => ?_⟩
        by_cases z : j = c
        · rw [z]; exact q
        · exact h2 j (by omega)
      · refine Or.inr ⟨b, by omega, h2, h3, fun j hj hne => ?_⟩
        by_cases z : j = c
        · exact absurd (by rw [z]; exact q) hne
        · exact h4 j (by omega) hne
    · rcases ih (by omega) with ⟨h1, h2⟩ | ⟨b, h1, h2, h3, h4⟩
      · have e := bdS_y (E := E) (far := far) (c := c) ⟨Or.inl h1, q⟩
        refine Or.inr ⟨c, by omega, e, q, fun j hj hne => ?_⟩
        by_cases z : j = c
        · exact Or.inl z
        · exact absurd (h2 j (by omega)) hne
      · by_cases l : far c < far b
        · have e := bdS_y (E := E) (far := far) (c := c) ⟨Or.inr (by rw [h2, nI_clamp (by omega)]; exact l), q⟩
          rw [fa_lt] at l
          refine Or.inr ⟨c, by omega, e, q, fun j hj hne => ?_⟩
          by_cases z : j = c
          · exact Or.inl z
          · refine Or.inr (Or.inl ?_)
            rcases h4 j (by omega) hne with y | y | y
            · rw [y]; exact l
            · omega
            · omega
        · have e : bdS E far (c + 1) = bdS E far c := bdS_no (fun h => by
            rcases h.1 with y | y
            · exact nI_nneg (a := b) (by omega) (by decide) (h2.symm.trans y)
            · rw [h2, nI_clamp (by omega)] at y; exact l y)
          rw [e]
          rw [fa_lt] at l
          refine Or.inr ⟨b, by omega, h2, h3, fun j hj hne => ?_⟩
          by_cases z : j = c
          · refine Or.inr ?_
            unfold ltF
            rw [z]
            omega
          · exact h4 j (by omega) hne
theorem vd_rank {E : Nat → List Int32} {far ne : Nat → Int32} {Y : List Int32 → Bool} {c : Nat} (hc : c < 1000) (ho : ordR ne far c) : vdS E far Y c = 2 ↔ ∃ r, r < c ∧ (∀ k, k < r → E (ne k).toNatClampNeg = []) ∧ ¬ E (ne r).toNatClampNeg = [] ∧ Y (E (ne r).toNatClampNeg) = true := by
  obtain ⟨o1, o2, o3⟩ := ho
  unfold vdS
  constructor
  · intro h
    rcases bd_min (E := E) (far := far) hc with ⟨h1, _⟩ | ⟨b, h1, h2, h3, h4⟩
    · rw [if_pos h1] at h; exact absurd h (by decide)
    · rw [if_neg (fun h9 => nI_nneg (a := b) (by omega) (by decide) (h2.symm.trans h9)), h2, nI_clamp (by omega)] at h
      obtain ⟨r, hr, er⟩ := o2 b h1
      refine ⟨r, hr, fun k hk => ?_, ?_, ?_⟩
      · by_cases q : E (ne k).toNatClampNeg = []
        · exact q
        · obtain ⟨j, hj, ej⟩ := o1 k (by omega)
          have h9 := o3 k r hk hr
          rw [ej, er, nI_clamp (n := j) (by omega), nI_clamp (n := b) (by omega)] at h9
          rw [ej, nI_clamp (by omega)] at q
          rcases h4 j hj q with z | z
          · rw [z] at h9; exact (ltF_irr h9).elim
          · exact (ltF_asy h9 z).elim
      · rw [er, nI_clamp (by omega)]; exact h3
      · rw [er, nI_clamp (by omega)]
        by_cases q : Y (E b) = true
        · exact q
        · rw [if_neg q] at h; exact absurd h (by decide)
  · rintro ⟨r, hr, hs, hn, hy⟩
    obtain ⟨q, hq, eq⟩ := o1 r hr
    rw [eq, nI_clamp (by omega)] at hn hy
    rcases bd_min (E := E) (far := far) hc with ⟨h1, h2⟩ | ⟨b, h1, h2, h3, h4⟩
    · exact absurd (h2 q hq) hn
    · have e : b = q := by
        rcases h4 q hq hn with z | z
        · exact z.symm
        · obtain ⟨k, hk, ek⟩ := o2 b h1
          rcases Nat.lt_trichotomy k r with w | w | w
          · have h9 := hs k w
            rw [ek, nI_clamp (by omega)] at h9
            exact absurd h9 h3
          · rw [w, eq] at ek
            exact (nI_inj (by omega) (by omega) ek).symm
          · have h9 := o3 r k w hk
            rw [eq, ek, nI_clamp (n := q) (by omega), nI_clamp (n := b) (by omega)] at h9
            exact (ltF_asy h9 z).elim
      rw [if_neg (fun h9 => nI_nneg (a := b) (by omega) (by decide) (h2.symm.trans h9)), h2, nI_clamp (by omega), e, if_pos hy]
/-- some of the first n -/
def orF (p : Nat → Bool) : Nat → Bool
  | 0 => false
  | k + 1 => orF p k || p k
theorem orF_iff {p : Nat → Bool} {n : Nat} : orF p n = true ↔ ∃ k, k < n ∧ p k = true := by
  induction n with
  | zero => exact ⟨fun h => (Bool.false_ne_true h).elim, fun ⟨k, h, _⟩ => absurd h (Nat.not_lt_zero k)⟩
  | succ n ih =>
    show (orF p n || p n) = true ↔ _
    rw [Bool.or_eq_true, ih]
    constructor
    · rintro (⟨k, h1, h2⟩ | h)
      · exact ⟨k, by omega, h2⟩
      · exact ⟨n, by omega, h⟩
    · rintro ⟨k, h1, h2⟩
      by_cases q : k = n
      · exact Or.inr (q ▸ h2)
      · exact Or.inl ⟨k, by omega, h2⟩
theorem bs_0 {v x y : Int32} {k : Nat} (hk : k < 32) (ex : x = v >>> (nI k &&& 31)) (ey : y = x &&& 1) (h : y = 0) : bt v k = false := (bt_shr v hk).mp (by rw [← ex, ← ey]; exact h)
theorem bs_1 {v x y : Int32} {k : Nat} (hk : k < 32) (ex : x = v >>> (nI k &&& 31)) (ey : y = x &&& 1) (h : ¬ y = 0) : bt v k = true := by
  cases hb : bt v k with
  | true => rfl
  | false => exact absurd (by rw [ey, ex]; exact (bt_shr v hk).mpr hb) h
theorem ysB_bt {ys : Int32} {s : Nat} (hs : s < 32) : ysB ys s = bt ys s := by
  unfold ysB
  cases hb : bt ys s with
  | true => exact decide_eq_true (fun h => by rw [(bt_shr ys hs).mp h] at hb; cases hb)
  | false => exact decide_eq_false (fun h => h ((bt_shr ys hs).mpr hb))
theorem bt_ext {x y : Int32} (h : ∀ s, s < 32 → bt x s = bt y s) : x = y := by
  apply Int32.toBitVec_inj.1
  exact BitVec.eq_of_getLsbD_eq (fun i hi => h i hi)
theorem and_nz {x y z : Int32} (ez : z = x &&& y) (h : ¬ z = 0) : ∃ s, s < 32 ∧ bt x s = true ∧ bt y s = true := by
  refine Classical.byContradiction (fun hn => h ?_)
  rw [ez]
  refine bt_ext (fun s hs => ?_)
  rw [bt_and, bt_0]
  cases hx : bt x s with
  | false => rfl
  | true =>
    cases hy : bt y s with
    | false => rfl
    | true => exact absurd ⟨s, hs, hx, hy⟩ hn
theorem and_z {x y z : Int32} (ez : z = x &&& y) (h : z = 0) {s : Nat} (hx : bt x s = true) : bt y s = false := by
  have h9 : bt (x &&& y) s = bt 0 s := by rw [← ez, h]
  rw [bt_and, bt_0, hx, Bool.true_and] at h9
  exact h9
/-! where WORDS lead, as bits of STATES -/
def ldI (fx : Nat → Int32) (sx : Int32) (s w z : Nat) : Bool := bt sx z && decide (nC9 fx z w = s)
def ldO (fx : Nat → Int32) (sx wx : Int32) (s w : Nat) : Bool := bt wx w && orF (ldI fx sx s w) 6
section LED
variable {fx : Nat → Int32} {sx wx th t2 : Int32} {i k j : Nat}
theorem leO_0 : ∀ s9 : Nat, s9 < 32 → bt 0 s9 = orF (ldO fx sx wx s9) 0 := fun s9 _ => bt_0 s9
theorem leI_0 (h : ∀ s9 : Nat, s9 < 32 → bt th s9 = orF (ldO fx sx wx s9) i) : ∀ s9 : Nat, s9 < 32 → bt th s9 = (orF (ldO fx sx wx s9) i || orF (ldI fx sx s9 i) 0) := fun s9 h9 => by
  rw [h s9 h9]
  exact (Bool.or_false _).symm
theorem leI_n (h : ∀ s9 : Nat, s9 < 32 → bt th s9 = (orF (ldO fx sx wx s9) i || orF (ldI fx sx s9 i) k)) (hb : bt sx k = false) : ∀ s9 : Nat, s9 < 32 → bt th s9 = (orF (ldO fx sx wx s9) i || orF (ldI fx sx s9 i) (k + 1)) := fun s9 h9 => by
  rw [h s9 h9]
  show _ = (orF (ldO fx sx wx s9) i || (orF (ldI fx sx s9 i) k || (bt sx k && decide (nC9 fx k i = s9))))
  rw [hb, Bool.false_and, Bool.or_false]
theorem leI_y {s2 : Int32} (h : ∀ s9 : Nat, s9 < 32 → bt th s9 = (orF (ldO fx sx wx s9) i || orF (ldI fx sx s9 i) k)) (hb : bt sx k = true) (hj : nC9 fx k i = j) (hj6 : j < 32) (es : s2 = (1 : Int32) <<< (nI j &&& 31)) (e : t2 = th ||| s2) : ∀ s9 : Nat, s9 < 32 → bt t2 s9 = (orF (ldO fx sx wx s9) i || orF (ldI fx sx s9 i) (k + 1)) := fun s9 h9 => by
  show _ = (orF (ldO fx sx wx s9) i || (orF (ldI fx sx s9 i) k || (bt sx k && decide (nC9 fx k i = s9))))
  rw [e, es, bt_or, h s9 h9, bt_one hj6 h9, hb, hj, Bool.true_and, Bool.or_assoc]
  congr 2
  exact decide_eq_decide.mpr eq_comm
theorem leO_y (h : ∀ s9 : Nat, s9 < 32 → bt th s9 = (orF (ldO fx sx wx s9) i || orF (ldI fx sx s9 i) k)) (hk : k = 6) (hb : bt wx i = true) : ∀ s9 : Nat, s9 < 32 → bt th s9 = orF (ldO fx sx wx s9) (i + 1) := fun s9 h9 => by
  rw [h s9 h9, hk]
  show _ = (orF (ldO fx sx wx s9) i || (bt wx i && orF (ldI fx sx s9 i) 6))
  rw [hb, Bool.true_and]
theorem leO_n (h : ∀ s9 : Nat, s9 < 32 → bt th s9 = orF (ldO fx sx wx s9) i) (hb : bt wx i = false) : ∀ s9 : Nat, s9 < 32 → bt th s9 = orF (ldO fx sx wx s9) (i + 1) := fun s9 h9 => by
  rw [h s9 h9]
  show _ = (orF (ldO fx sx wx s9) i || (bt wx i && orF (ldI fx sx s9 i) 6))
  rw [hb, Bool.false_and, Bool.or_false]
end LED
/-! what may be said at a place -/
/-- own: the WORD that stands there; cg: the places that are changed, as bits -/
def chB (c0 : Nat) (own : Nat → Int32) (cg : Int32) (i w : Nat) : Bool := if bt cg i = true then decide (w < c0) && !decide (own i = nI w) else decide (own i = nI w)
section CHO
variable {c0 i j : Nat} {own : Nat → Int32} {cg a b s d n v x y : Int32}
theorem ch_own (hj : own i = nI j) (hj7 : j ≤ 7) {w : Nat} (hw : w < 8) (ea : a = (1 : Int32) <<< (nI j &&& 31)) : bt a w = decide (own i = nI w) := by
  rw [ea, bt_one (by omega) (by omega), hj]
  refine decide_eq_decide.mpr ⟨fun h => by rw [h], fun h => (nI_inj (by omega) (by omega) h).symm⟩
theorem ch_1 (hj : own i = nI j) (hj7 : j ≤ 7) (ea : a = (1 : Int32) <<< (nI j &&& 31)) (hb : bt cg i = false) : ∀ w9 : Nat, w9 < 8 → bt a w9 = chB c0 own cg i w9 := fun w9 h9 => by
  rw [ch_own hj hj7 h9 ea]
  unfold chB
  rw [if_neg (by rw [hb]; decide)]
theorem ch_2 (h8 : c0 ≤ 8) (hj : own i = nI j) (hj7 : j ≤ 7) (ea : a = (1 : Int32) <<< (nI j &&& 31)) (es : s = (1 : Int32) <<< (nI c0 &&& 31)) (ed : d = s - 1) (en : n = a ^^^ -1) (ev : v = d &&& n) (hb : bt cg i = true) : ∀ w9 : Nat, w9 < 8 → bt v w9 = chB c0 own cg i w9 := fun w9 h9 => by
  have ha : ∀ c, c < 9 → ∀ w, w < 8 → bt ((1 : Int32) <<< (nI c &&& 31) - 1) w = decide (w < c) := by decide +kernel
  rw [ev, bt_and, en, bt_not _ (by omega), ch_own hj hj7 h9 ea, ed, es, ha c0 (by omega) w9 h9]
  unfold chB
  rw [if_pos hb]
theorem ch_8 (ea : a = (1 : Int32) <<< (nI j &&& 31)) (hj7 : j ≤ 7) : ∀ w9 : Nat, 8 ≤ w9 → w9 < 32 → bt a w9 = false := fun w9 h8 h9 => by
  rw [ea, bt_one (by omega) h9]
  exact decide_eq_false (by omega)
theorem ch_9 (h8 : c0 ≤ 8) (es : s = (1 : Int32) <<< (nI c0 &&& 31)) (ed : d = s - 1) (ev : v = d &&& n) : ∀ w9 : Nat, 8 ≤ w9 → w9 < 32 → bt v w9 = false := fun w9 h7 h9 => by
  have ha : ∀ c, c < 9 → ∀ w, w < 32 → 8 ≤ w → bt ((1 : Int32) <<< (nI c &&& 31) - 1) w = false := by decide +kernel
  rw [ev, bt_and, ed, es, ha c0 (by omega) w9 h9 h7, Bool.false_and]
end CHO
/-! all rows that may be said, followed at once -/
def byP (mv : Nat → Nat → Bool) (pl : Nat → Nat) (c0 : Nat) (f : FNW) (k : Nat) : Prop := ∀ j, j < k → ∃ w : Nat, w < c0 ∧ f (pl j) = nI w ∧ mv (pl j) w = true
abbrev byL (g : Nat → Int32) (f : FNW) (pl : Nat → Nat) (k : Nat) : List Int32 := sdL (fun i => gB (g i) (f i)) f pl k
theorem byL_y {g : Nat → Int32} {f : FNW} {pl : Nat → Nat} {k w : Nat} (hw : f (pl k) = nI w) (h : gB (g (pl k)) (nI w) = true) : byL g f pl (k + 1) = byL g f pl k ++ [nI w] := by
  show byL g f pl k ++ (if gB (g (pl k)) (f (pl k)) = true then [f (pl k)] else []) = _
  rw [hw, if_pos h]
theorem byL_n {g : Nat → Int32} {f : FNW} {pl : Nat → Nat} {k w : Nat} (hw : f (pl k) = nI w) (h : gB (g (pl k)) (nI w) = false) : byL g f pl (k + 1) = byL g f pl k := by
  show byL g f pl k ++ (if gB (g (pl k)) (f (pl k)) = true then [f (pl k)] else []) = _
  rw [hw, if_neg (by rw [h]; decide), List.append_nil]
theorem byL_u {g : Nat → Int32} {f : FNW} {pl : Nat → Nat} {k : Nat} {x : Int32} (hi : ∀ j, j < k → ¬ pl j = pl k) : byL g (upd f (pl k) x) pl k = byL g f pl k := sdL_c9 (fun j hj => ⟨rfl, by (try dsimp only); rw [pk_un (hi j hj)], pk_un (hi j hj)⟩)
theorem byP_u {mv : Nat → Nat → Bool} {pl : Nat → Nat} {c0 k w : Nat} {f : FNW} (hi : ∀ j, j < k → ¬ pl j = pl k) (h : byP mv pl c0 f k) (hw : w < c0) (hm : mv (pl k) w = true) : byP mv pl c0 (upd f (pl k) (nI w)) (k + 1) := fun j hj => by
  by_cases q : j = k
  · rw [q, pk_us]; exact ⟨w, hw, rfl, hm⟩
  · rw [pk_un (hi j (by omega))]; exact h j (by omega)
def byI (fx g : Nat → Int32) (mv : Nat → Nat → Bool) (pl : Nat → Nat) (c0 k : Nat) (S N : Int32) : Prop := (∀ s, s < 6 → (bt S s = true ↔ ∃ f : FNW, byP mv pl c0 f k ∧ ¬ byL g f pl k = [] ∧ stL fx 0 (byL g f pl k) = s)) ∧ (N = 1 ↔ ∃ f : FNW, byP mv pl c0 f k ∧ byL g f pl k = []) ∧ ∀ s, 6 ≤ s → s < 32 → bt S s = false
theorem by_0 {fx g : Nat → Int32} {mv : Nat → Nat → Bool} {pl : Nat → Nat} {c0 : Nat} : byI fx g mv pl c0 0 0 1 := by
  refine ⟨fun s _ => ⟨fun h => ?_, fun ⟨f, _, h, _⟩ => absurd rfl h⟩, ⟨fun _ => ⟨fun _ => 0, fun j h => absurd h (Nat.not_lt_zero j), rfl⟩, fun _ => rfl⟩, fun s _ _ => bt_0 s⟩
  rw [bt_0] at h
  exact (Bool.false_ne_true h).elim
theorem byL_mem {g : Nat → Int32} {mv : Nat → Nat → Bool} {pl : Nat → Nat} {c0 k : Nat} {f : FNW} (h8 : c0 ≤ 8) (h : byP mv pl c0 f k) {x : Int32} (hx : x ∈ byL g f pl k) : ∃ j : Nat, j ≤ 7 ∧ x = nI j := by
  obtain ⟨j, hj, e⟩ := sdL_memP hx
  obtain ⟨w, hw, ew, _⟩ := h j hj
  exact ⟨w, by omega, e.trans ew⟩
theorem nC9_le {fx : Nat → Int32} {z w : Nat} (hr : rng fx 48 5) (hz : z < 6) (hw : w < 8) : nC9 fx z w < 6 := by
  obtain ⟨q, hq, eq⟩ := hr (z * 8 + w) (by omega)
  unfold nC9
  rw [eq, nI_clamp (by omega)]
  omega
theorem by_s {fx g : Nat → Int32} {mv : Nat → Nat → Bool} {pl : Nat → Nat} {c0 k : Nat} {S N S1 S2 N2 m t : Int32} {sk n1 : Bool} (h8 : c0 ≤ 8) (hr : rng fx 48 5) (h : byI fx g mv pl c0 k S N) (hi : ∀ j, j < k → ¬ pl j = pl k) (hm : ∀ w, w < c0 → bt m w = mv (pl k) w)
    (hsk : sk = true ↔ ∃ w, w < c0 ∧ bt m w = true ∧ bt (g (pl k)) w = true) (hn : n1 = true ↔ N = 1) (hS1 : ∀ z, z < 6 → bt S1 z = (bt S z || (n1 && decide (z = 0))))
    (ht : ∀ s, s < 32 → bt t s = orF (ldO fx S1 (m &&& (g (pl k) ^^^ -1)) s) c0) (hS2 : ∀ s, s < 32 → bt S2 s = ((sk && bt S s) || bt t s)) (hN2 : (N2 = 1 ∧ (n1 && sk) = true) ∨ (N2 = 0 ∧ (n1 && sk) = false)) : byI fx g mv pl c0 (k + 1) S2 N2 := by
  obtain ⟨hA, hB, hC⟩ := h
  have gb : ∀ w, w < c0 → gB (g (pl k)) (nI w) = !bt (g (pl k)) w := fun w hw => gB_bt _ (by omega)
  have comp : ∀ s, s < 32 → (bt t s = true ↔ ∃ w, w < c0 ∧ mv (pl k) w = true ∧ gB (g (pl k)) (nI w) = true ∧ ∃ z, z < 6 ∧ (bt S z = true ∨ (N = 1 ∧ z = 0)) ∧ nC9 fx z w = s) := fun s hs => by
    rw [ht s hs, orF_iff]
    constructor
    · rintro ⟨w, hw, h1⟩
      have h1 : (bt (m &&& (g (pl k) ^^^ -1)) w && orF (ldI fx S1 s w) 6) = true := h1
      rw [Bool.and_eq_true, orF_iff, bt_and, bt_not _ (by omega), Bool.and_eq_true] at h1
      obtain ⟨⟨h2, h3⟩, z, hz, h4⟩ := h1
      have h4 : (bt S1 z && decide (nC9 fx z w = s)) = true := h4
      rw [Bool.and_eq_true, hS1 z hz, Bool.or_eq_true, Bool.and_eq_true] at h4
      refine ⟨w, hw, by rw [← hm w hw]; exact h2, by rw [gb w hw]; exact h3, z, hz, ?_, of_decide_eq_true h4.2⟩
      rcases h4.1 with h5 | h5
      · exact Or.inl h5
      · exact Or.inr ⟨hn.mp h5.1, of_decide_eq_true h5.2⟩
    · rintro ⟨w, hw, h2, h3, z, hz, h4, h5⟩
      refine ⟨w, hw, ?_⟩
      show (bt (m &&& (g (pl k) ^^^ -1)) w && orF (ldI fx S1 s w) 6) = true
      rw [Bool.and_eq_true, orF_iff, bt_and, bt_not _ (by omega), Bool.and_eq_true, hm w hw, ← gb w hw]
      refine ⟨⟨h2, h3⟩, z, hz, ?_⟩
      show (bt S1 z && decide (nC9 fx z w = s)) = true
      rw [Bool.and_eq_true, hS1 z hz, Bool.or_eq_true, Bool.and_eq_true]
      refine ⟨?_, decide_eq_true h5⟩
      rcases h4 with h6 | ⟨h6, h7⟩
      · exact Or.inl h6
      · exact Or.inr ⟨hn.mpr h6, decide_eq_true h7⟩
  have skw : sk = true → ∃ w, w < c0 ∧ mv (pl k) w = true ∧ gB (g (pl k)) (nI w) = false := fun h => by
    obtain ⟨w, hw, h1, h2⟩ := hsk.mp h
    exact ⟨w, hw, by rw [← hm w hw]; exact h1, by rw [gb w hw, h2]; rfl⟩
  have wsk : ∀ w, w < c0 → mv (pl k) w = true → gB (g (pl k)) (nI w) = false → sk = true := fun w hw h1 h2 => by
    refine hsk.mpr ⟨w, hw, by rw [hm w hw]; exact h1, ?_⟩
    rw [gb w hw] at h2
    cases hb : bt (g (pl k)) w with
    | true => rfl
    | false => rw [hb] at h2; cases h2
  have prv : ∀ f : FNW, byP mv pl c0 f (k + 1) → byP mv pl c0 f k := fun f hf j hj => hf j (by omega)
  refine ⟨fun s hs => ⟨fun hb => ?_, fun ⟨f, h1, h2, h3⟩ => ?_⟩, ⟨fun hb => ?_, fun ⟨f, h1, h2⟩ => ?_⟩, fun s h6 h9 => ?_⟩
  · rw [hS2 s (by omega), Bool.or_eq_true, Bool.and_eq_true] at hb
    rcases hb with ⟨hb1, hb2⟩ | hb
    · obtain ⟨f, h1, h2, h3⟩ := (hA s hs).mp hb2
      obtain ⟨w, hw, h4, h5⟩ := skw hb1
      have e : byL g (upd f (pl k) (nI w)) pl (k + 1) = byL g f pl k := (byL_n pk_us h5).trans (byL_u hi)
      exact ⟨upd f (pl k) (nI w), byP_u hi h1 hw h4, by rw [e]; exact h2, by rw [e]; exact h3⟩
    · obtain ⟨w, hw, h4, h5, z, hz, h6, h7⟩ := (comp s (by omega)).mp hb
      rcases h6 with h6 | ⟨h6, h9⟩
      · obtain ⟨f, h1, h2, h3⟩ := (hA z hz).mp h6
        have e : byL g (upd f (pl k) (nI w)) pl (k + 1) = byL g f pl k ++ [nI w] := by rw [byL_y pk_us h5, byL_u hi]
        refine ⟨upd f (pl k) (nI w), byP_u hi h1 hw h4, by rw [e]; exact pt_ne, ?_⟩
        rw [e, stL_snoc (by omega), h3]
        exact h7
      · obtain ⟨f, h1, h2⟩ := hB.mp h6
        have e : byL g (upd f (pl k) (nI w)) pl (k + 1) = [] ++ [nI w] := by rw [byL_y pk_us h5, byL_u hi, h2]
        refine ⟨upd f (pl k) (nI w), byP_u hi h1 hw h4, by rw [e]; exact pt_ne, ?_⟩
        rw [e, stL_snoc (by omega), stL_n0, ← h9]
        exact h7
  · obtain ⟨w, hw, ew, h4⟩ := h1 k (by omega)
    rw [hS2 s (by omega), Bool.or_eq_true, Bool.and_eq_true]
    cases hg : gB (g (pl k)) (nI w) with
    | true =>
      refine Or.inr ((comp s (by omega)).mpr ⟨w, hw, h4, hg, stL fx 0 (byL g f pl k), st_in9 hr _ 0 (by decide) (fun x hx => byL_mem h8 (prv f h1) hx), ?_, ?_⟩)
      · by_cases q : byL g f pl k = []
        · refine Or.inr ⟨hB.mpr ⟨f, prv f h1, q⟩, ?_⟩
          rw [q]
          rfl
        · exact Or.inl ((hA _ (st_in9 hr _ 0 (by decide) (fun x hx => byL_mem h8 (prv f h1) hx))).mpr ⟨f, prv f h1, q, rfl⟩)
      · rw [byL_y ew hg, stL_snoc (by omega)] at h3
        exact h3
    | false =>
      rw [byL_n ew hg] at h2 h3
      exact Or.inl ⟨wsk w hw h4 hg, (hA s hs).mpr ⟨f, prv f h1, h2, h3⟩⟩
  · rcases hN2 with ⟨_, h9⟩ | ⟨h9, _⟩
    · rw [Bool.and_eq_true] at h9
      obtain ⟨f, h1, h2⟩ := hB.mp (hn.mp h9.1)
      obtain ⟨w, hw, h4, h5⟩ := skw h9.2
      exact ⟨upd f (pl k) (nI w), byP_u hi h1 hw h4, (byL_n pk_us h5).trans ((byL_u hi).trans h2)⟩
    · exact absurd (h9.symm.trans hb) (by decide)
  · obtain ⟨w, hw, ew, h4⟩ := h1 k (by omega)
    cases hg : gB (g (pl k)) (nI w) with
    | true =>
      rw [byL_y ew hg] at h2
      exact absurd h2 pt_ne
    | false =>
      rw [byL_n ew hg] at h2
      have h9 : (n1 && sk) = true := by
        rw [Bool.and_eq_true]
        exact ⟨hn.mpr (hB.mpr ⟨f, prv f h1, h2⟩), wsk w hw h4 hg⟩
      rcases hN2 with ⟨e, _⟩ | ⟨_, e⟩
      · exact e
      · rw [h9] at e; cases e
  · rw [hS2 s h9, hC s h6 h9, Bool.and_false, Bool.false_or]
    cases hb : bt t s with
    | false => rfl
    | true =>
      obtain ⟨w, hw, _, _, z, hz, _, e⟩ := (comp s h9).mp hb
      have h5 := nC9_le hr hz (show w < 8 by omega)
      omega
/-- a row that may be said comes back as a YES -/
def byY (fx g : Nat → Int32) (ys : Int32) (mv : Nat → Nat → Bool) (pl : Nat → Nat) (c0 n : Nat) : Prop := ∃ f : FNW, byP mv pl c0 f n ∧ ¬ byL g f pl n = [] ∧ yeC fx ys (byL g f pl n) = true
theorem by_e1 {fx g : Nat → Int32} {mv : Nat → Nat → Bool} {pl : Nat → Nat} {c0 n : Nat} {S N ys z : Int32} (h8 : c0 ≤ 8) (hr : rng fx 48 5) (h : byI fx g mv pl c0 n S N) (ez : z = S &&& ys) (hz : ¬ z = 0) : byY fx g ys mv pl c0 n := by
  obtain ⟨s, hs, h1, h2⟩ := and_nz ez hz
  have h6 : s < 6 := by
    rcases Nat.lt_or_ge s 6 with q | q
    · exact q
    · rw [h.2.2 s q hs] at h1; cases h1
  obtain ⟨f, f1, f2, f3⟩ := (h.1 s h6).mp h1
  refine ⟨f, f1, f2, ?_⟩
  unfold yeC
  rw [f3, ysB_bt hs]
  exact h2
theorem by_e0 {fx g : Nat → Int32} {mv : Nat → Nat → Bool} {pl : Nat → Nat} {c0 n : Nat} {S N ys z : Int32} (h8 : c0 ≤ 8) (hr : rng fx 48 5) (h : byI fx g mv pl c0 n S N) (ez : z = S &&& ys) (hz : z = 0) : ¬ byY fx g ys mv pl c0 n := by
  rintro ⟨f, f1, f2, f3⟩
  have h6 : stL fx 0 (byL g f pl n) < 6 := st_in9 hr _ 0 (by decide) (fun x hx => byL_mem h8 f1 hx)
  have h1 := (h.1 _ h6).mpr ⟨f, f1, f2, rfl⟩
  have h2 := and_z ez hz h1
  unfold yeC at f3
  rw [ysB_bt (by omega), h2] at f3
  cases f3
theorem by_no {fx g : Nat → Int32} {mv : Nat → Nat → Bool} {pl : Nat → Nat} {c0 n k : Nat} {ys m : Int32} (hm : ∀ w, w < c0 → bt m w = mv (pl k) w) (hk : k < n) (h : m = 0) : ¬ byY fx g ys mv pl c0 n := by
  rintro ⟨f, f1, _⟩
  obtain ⟨w, hw, _, h4⟩ := f1 k hk
  rw [← hm w hw, h, bt_0] at h4
  cases h4
/-! what nearer CLIFFS don't send -/
def quQ (gc : Nat → Nat → Int32) (fne : Nat → Int32) (i w q : Nat) : Bool := bt (gc (fne q).toNatClampNeg i) w
section QUI
variable {gc : Nat → Nat → Int32} {fne fa g : Nat → Int32} {c1 i rk k : Nat} {mk x y : Int32}
theorem qu_A (hA : ∀ rk9 i9 w9 : Nat, rk9 < c1 → i9 < i → w9 < 8 → bt (fa (rk9 * 10 + i9)) w9 = alF (quQ gc fne i9 w9) rk9) (hi : i < 10) (hrk : rk < 4) (e : upd fa (nI (rk * 10 + i)).toNatClampNeg x = g) : ∀ rk9 i9 w9 : Nat, rk9 < c1 → i9 < i → w9 < 8 → bt (g (rk9 * 10 + i9)) w9 = alF (quQ gc fne i9 w9) rk9 := by
  rw [nI_clamp (by omega)] at e
  subst e
  intro rk9 i9 w9 h1 h2 h3
  rw [pk_un (by omega)]
  exact hA rk9 i9 w9 h1 h2 h3
theorem qu_B (hB : ∀ rk9 w9 : Nat, rk9 < rk → w9 < 8 → bt (fa (rk9 * 10 + i)) w9 = alF (quQ gc fne i w9) rk9) (hC : ∀ w9 : Nat, w9 < 8 → bt mk w9 = alF (quQ gc fne i w9) rk) (hi : i < 10) (hrk : rk < 4) (e : upd fa (nI (rk * 10 + i)).toNatClampNeg mk = g) : ∀ rk9 w9 : Nat, rk9 < rk + 1 → w9 < 8 → bt (g (rk9 * 10 + i)) w9 = alF (quQ gc fne i w9) rk9 := by
  rw [nI_clamp (by omega)] at e
  subst e
  intro rk9 w9 h1 h2
  by_cases q : rk9 = rk
  · rw [q, pk_us]; exact hC w9 h2
  · rw [pk_un (by omega)]; exact hB rk9 w9 (by omega) h2
theorem qu_0 : ∀ w9 : Nat, w9 < 8 → bt 255 w9 = alF (quQ gc fne i w9) 0 := by
  intro w9 h9
  have h : ∀ w, w < 8 → bt 255 w = true := by decide +kernel
  exact h w9 h9
theorem qu_C (hC : ∀ w9 : Nat, w9 < 8 → bt mk w9 = alF (quQ gc fne i w9) rk) (hi : i < 10) (hrk : rk < 4) (hk : k < 4) (ej : fne (nI rk).toNatClampNeg = nI k) (ex : x = gc k (nI i).toNatClampNeg) (ey : y = mk &&& x) : ∀ w9 : Nat, w9 < 8 → bt y w9 = alF (quQ gc fne i w9) (rk + 1) := by
  rw [nI_clamp (by omega)] at ej ex
  intro w9 h9
  show _ = (alF (quQ gc fne i w9) rk && bt (gc (fne rk).toNatClampNeg i) w9)
  rw [ey, bt_and, hC w9 h9, ej, nI_clamp (by omega), ex]
theorem qu_N (hA : ∀ rk9 i9 w9 : Nat, rk9 < c1 → i9 < i → w9 < 8 → bt (fa (rk9 * 10 + i9)) w9 = alF (quQ gc fne i9 w9) rk9) (hB : ∀ rk9 w9 : Nat, rk9 < rk → w9 < 8 → bt (fa (rk9 * 10 + i)) w9 = alF (quQ gc fne i w9) rk9) (hrk : c1 ≤ rk) : ∀ rk9 i9 w9 : Nat, rk9 < c1 → i9 < i + 1 → w9 < 8 → bt (fa (rk9 * 10 + i9)) w9 = alF (quQ gc fne i9 w9) rk9 := by
  intro rk9 i9 w9 h1 h2 h3
  by_cases q : i9 = i
  · rw [q]; exact hB rk9 w9 (by omega) h3
  · exact hA rk9 i9 w9 h1 (by omega) h3
end QUI
theorem at_cl {f : Nat → Int32} {k : Nat} {x : Int32} (hk : k < 2 ^ 31) (e : f (nI k).toNatClampNeg = x) : f k = x := by
  rw [nI_clamp hk] at e
  exact e
theorem pls_inj {t : Int32} {n k : Nat} (hk : k < n) : ∀ j, j < k → ¬ plS t n j = plS t n k := fun j hj h => by
  unfold plS at h
  by_cases q : t = 0
  · rw [if_pos q, if_pos q] at h; omega
  · rw [if_neg q, if_neg q] at h; omega
theorem pls_lt {t : Int32} {n k : Nat} (hk : k < n) : plS t n k < n := by
  unfold plS
  split <;> omega
/-- the WORDS that may be said at a place, so that CLIFFS nearer than rank rk are silent -/
def mvB (c0 : Nat) (own : Nat → Int32) (cg : Int32) (gc : Nat → Nat → Int32) (fne : Nat → Int32) (rk i w : Nat) : Bool := chB c0 own cg i w && alF (quQ gc fne i w) rk
theorem chB_lt {c0 n i w : Nat} {own : Nat → Int32} {cg : Int32} (ho : okW c0 own n) (h8 : c0 ≤ 8) (hi : i < n) (hw : w < 8) (h : chB c0 own cg i w = true) : w < c0 := by
  unfold chB at h
  by_cases q : bt cg i = true
  · rw [if_pos q, Bool.and_eq_true] at h
    exact of_decide_eq_true h.1
  · rw [if_neg q] at h
    obtain ⟨j, hj, e⟩ := ho i hi
    have h9 := nI_inj (by omega) (by omega) (e.symm.trans (of_decide_eq_true h))
    omega
theorem by_st {fx : Nat → Int32} {gc : Nat → Nat → Int32} {own fne : Nat → Int32} {c0 n k ix K rk : Nat} {t9 cg S N S1 S2 N2 m t cv qv gg y g5 n5 wx : Int32} {sk n1 : Bool} (ho : okW c0 own n) (h8 : c0 ≤ 8) (hr : rng fx 48 5)
    (h : byI fx (gc K) (mvB c0 own cg gc fne rk) (plS t9 n) c0 k S N) (hk : k < n) (hn : n ≤ 10) (epl : ix = plS t9 n k)
    (hcb : ∀ w9 : Nat, w9 < 8 → bt cv w9 = chB c0 own cg ix w9) (hc8 : ∀ w9 : Nat, 8 ≤ w9 → w9 < 32 → bt cv w9 = false) (hq : ∀ w9 : Nat, w9 < 8 → bt qv w9 = alF (quQ gc fne ix w9) rk) (em : m = cv &&& qv)
    (eg : gg = gc K (nI ix).toNatClampNeg) (ey : y = m &&& gg) (hsk0 : sk = decide (¬ y = 0)) (hn0 : n1 = decide (¬ N = 0)) (hN01 : N = 0 ∨ N = 1) (eS1 : S1 = if n1 = true then S ||| 1 else S)
    (e5 : g5 = gc K (nI ix).toNatClampNeg) (en5 : n5 = g5 ^^^ -1) (ewx : wx = m &&& n5) (ht : ∀ s9 : Nat, s9 < 32 → bt t s9 = orF (ldO fx S1 wx s9) c0) (eS2 : S2 = if sk = true then S ||| t else t) (eN2 : N2 = if (n1 && sk) = true then 1 else 0) : byI fx (gc K) (mvB c0 own cg gc fne rk) (plS t9 n) c0 (k + 1) S2 N2 := by
  have hix : ix < n := by rw [epl]; exact pls_lt hk
  rw [nI_clamp (by omega)] at eg e5
  have hmb : ∀ w, w < 8 → bt m w = mvB c0 own cg gc fne rk ix w := fun w hw => by
    rw [em, bt_and, hcb w hw, hq w hw]
    rfl
  have hmc : ∀ w, w < 32 → bt m w = true → w < c0 := fun w hw hb => by
    rcases Nat.lt_or_ge w 8 with q | q
    · rw [hmb w q] at hb
      unfold mvB at hb
      rw [Bool.and_eq_true] at hb
      exact chB_lt ho h8 hix q hb.1
    · rw [em, bt_and, hc8 w q hw] at hb
      exact (Bool.false_ne_true hb).elim
  have b1 : ∀ z, z < 6 → bt 1 z = decide (z = 0) := by decide +kernel
  subst epl
  refine by_s (m := m) (t := t) (S1 := S1) (sk := sk) (n1 := n1) h8 hr h (pls_inj hk) (fun w hw => hmb w (by omega)) ?_ ?_ (fun z hz => ?_) (fun s hs => ?_) (fun s hs => ?_) ?_
  · rw [hsk0, decide_eq_true_iff]
    constructor
    · intro hy
      obtain ⟨s, hs, h1, h2⟩ := and_nz ey hy
      exact ⟨s, hmc s hs h1, h1, by rw [← eg]; exact h2⟩
    · rintro ⟨w, hw, h1, h2⟩ hy
      have h3 := and_z ey hy h1
      rw [eg, h2] at h3
      cases h3
  · rw [hn0, decide_eq_true_iff]
    rcases hN01 with e | e
    · rw [e]; exact ⟨fun q => absurd rfl q, fun q => absurd q (by decide)⟩
    · rw [e]; exact ⟨fun _ => rfl, fun _ => by decide⟩
  · rw [eS1]
    cases n1 with
    | true => rw [if_pos rfl, bt_or, b1 z hz, Bool.true_and]
    | false => rw [if_neg (by decide), Bool.false_and, Bool.or_false]
  · rw [ht s hs, ewx, en5, e5]
  · rw [eS2]
    cases sk with
    | true => rw [if_pos rfl, bt_or, Bool.true_and]
    | false => rw [if_neg (by decide), Bool.false_and, Bool.false_or]
  · rw [eN2]
    cases hb : (n1 && sk) with
    | true => exact Or.inl ⟨if_pos rfl, rfl⟩
    | false => exact Or.inr ⟨if_neg (by decide), rfl⟩
theorem by_r0 {P : Prop} (h : ¬ P) : ((0 : Int32) = 1 ↔ P) := ⟨fun e => absurd e (by decide), fun q => absurd q h⟩
theorem by_r1 {P : Prop} (h : P) : ((1 : Int32) = 1 ↔ P) := ⟨fun _ => h, fun _ => rfl⟩
theorem by_m0 {fx : Nat → Int32} {gc : Nat → Nat → Int32} {own fne : Nat → Int32} {c0 n k ix K rk : Nat} {t9 cg ys m cv qv : Int32} (h8 : c0 ≤ 8) (hk : k < n) (epl : ix = plS t9 n k) (hcb : ∀ w9 : Nat, w9 < 8 → bt cv w9 = chB c0 own cg ix w9) (hq : ∀ w9 : Nat, w9 < 8 → bt qv w9 = alF (quQ gc fne ix w9) rk) (em : m = cv &&& qv) (hm : m = 0) : ¬ byY fx (gc K) ys (mvB c0 own cg gc fne rk) (plS t9 n) c0 n := by
  subst epl
  refine by_no (m := m) (k := k) (fun w hw => ?_) hk hm
  rw [em, bt_and, hcb w (by omega), hq w (by omega)]
  rfl
theorem gdX6_orderCliffs_0 : decode cX6_orderCliffs 0 = .ok (.iconst 0, 1) ∧ decode cX6_orderCliffs 1 = .ok (.istore_n 1, 1) ∧ decode cX6_orderCliffs 2 = .ok (.iload_n 1, 1) ∧ decode cX6_orderCliffs 3 = .ok (.aload_n 0, 1) ∧ decode cX6_orderCliffs 4 = .ok (.getfield 35, 3) := by decide +kernel
theorem dX6_orderCliffs_0 : decode cX6_orderCliffs 0 = .ok (.iconst 0, 1) := gdX6_orderCliffs_0.1
theorem dX6_orderCliffs_1 : decode cX6_orderCliffs 1 = .ok (.istore_n 1, 1) := gdX6_orderCliffs_0.2.1
theorem dX6_orderCliffs_2 : decode cX6_orderCliffs 2 = .ok (.iload_n 1, 1) := gdX6_orderCliffs_0.2.2.1
theorem dX6_orderCliffs_3 : decode cX6_orderCliffs 3 = .ok (.aload_n 0, 1) := gdX6_orderCliffs_0.2.2.2.1
theorem dX6_orderCliffs_4 : decode cX6_orderCliffs 4 = .ok (.getfield 35, 3) := gdX6_orderCliffs_0.2.2.2.2
set_option maxRecDepth 20000 in
theorem i_X6 : ∀ w ∈ u_ws RX6 TX6 9, w ∈ gT := gin [594, 596, 598, 600, 602, 604, 606, 608, 610] (by decide +kernel) (by decide +kernel)
theorem gdX6_orderCliffs_7 : decode cX6_orderCliffs 7 = .ok (.getfield 43, 3) ∧ decode cX6_orderCliffs 10 = .ok (.iconst 1, 1) ∧ decode cX6_orderCliffs 11 = .ok (.iaload, 1) ∧ decode cX6_orderCliffs 12 = .ok (.if_icmp .ge 84, 3) ∧ decode cX6_orderCliffs 96 = .ok (.return_, 1) ∧ decode cX6_orderCliffs 15 = .ok (.iload_n 1, 1) ∧ decode cX6_orderCliffs 16 = .ok (.istore_n 2, 1) ∧ decode cX6_orderCliffs 17 = .ok (.aload_n 0, 1) ∧ decode cX6_orderCliffs 18 = .ok (.getfield 35, 3) ∧ decode cX6_orderCliffs 21 = .ok (.iload_n 1, 1) ∧ decode cX6_orderCliffs 22 = .ok (.aload_n 0, 1) ∧ decode cX6_orderCliffs 23 = .ok (.getfield 39, 3) := by decide +kernel
theorem dX6_orderCliffs_7 : decode cX6_orderCliffs 7 = .ok (.getfield 43, 3) := gdX6_orderCliffs_7.1
theorem dX6_orderCliffs_10 : decode cX6_orderCliffs 10 = .ok (.iconst 1, 1) := gdX6_orderCliffs_7.2.1
theorem dX6_orderCliffs_11 : decode cX6_orderCliffs 11 = .ok (.iaload, 1) := gdX6_orderCliffs_7.2.2.1
theorem dX6_orderCliffs_12 : decode cX6_orderCliffs 12 = .ok (.if_icmp .ge 84, 3) := gdX6_orderCliffs_7.2.2.2.1
theorem dX6_orderCliffs_96 : decode cX6_orderCliffs 96 = .ok (.return_, 1) := gdX6_orderCliffs_7.2.2.2.2.1
theorem dX6_orderCliffs_15 : decode cX6_orderCliffs 15 = .ok (.iload_n 1, 1) := gdX6_orderCliffs_7.2.2.2.2.2.1
theorem dX6_orderCliffs_16 : decode cX6_orderCliffs 16 = .ok (.istore_n 2, 1) := gdX6_orderCliffs_7.2.2.2.2.2.2.1
theorem dX6_orderCliffs_17 : decode cX6_orderCliffs 17 = .ok (.aload_n 0, 1) := gdX6_orderCliffs_7.2.2.2.2.2.2.2.1
theorem dX6_orderCliffs_18 : decode cX6_orderCliffs 18 = .ok (.getfield 35, 3) := gdX6_orderCliffs_7.2.2.2.2.2.2.2.2.1
theorem dX6_orderCliffs_21 : decode cX6_orderCliffs 21 = .ok (.iload_n 1, 1) := gdX6_orderCliffs_7.2.2.2.2.2.2.2.2.2.1
theorem dX6_orderCliffs_22 : decode cX6_orderCliffs 22 = .ok (.aload_n 0, 1) := gdX6_orderCliffs_7.2.2.2.2.2.2.2.2.2.2.1
theorem dX6_orderCliffs_23 : decode cX6_orderCliffs 23 = .ok (.getfield 39, 3) := gdX6_orderCliffs_7.2.2.2.2.2.2.2.2.2.2.2
theorem dX6_orderCliffs_26 : decode cX6_orderCliffs 26 = .ok (.getfield 77, 3) := by decide +kernel
theorem dX6_orderCliffs_29 : decode cX6_orderCliffs 29 = .ok (.invokevirtual 80, 3) := by decide +kernel
theorem k_X6_80 : xV RX6 RX4 80 yX4_far cX4_far 3 (some .int) 2 := ⟨⟨m_1244, m_1023, m_1024, m_137, m_1025⟩, rfl, by decide, by decide, by decide +kernel⟩
theorem gdX6_orderCliffs_32 : decode cX6_orderCliffs 32 = .ok (.istore_n 3, 1) ∧ decode cX6_orderCliffs 33 = .ok (.iload_n 2, 1) ∧ decode cX6_orderCliffs 34 = .ok (.ifCond .le 49, 3) ∧ decode cX6_orderCliffs 83 = .ok (.aload_n 0, 1) ∧ decode cX6_orderCliffs 84 = .ok (.getfield 18, 3) ∧ decode cX6_orderCliffs 87 = .ok (.iload_n 2, 1) ∧ decode cX6_orderCliffs 88 = .ok (.iload_n 1, 1) ∧ decode cX6_orderCliffs 89 = .ok (.iastore, 1) ∧ decode cX6_orderCliffs 90 = .ok (.iinc 1 1, 3) ∧ decode cX6_orderCliffs 93 = .ok (.goto (-91), 3) ∧ decode cX6_orderCliffs 37 = .ok (.aload_n 0, 1) ∧ decode cX6_orderCliffs 38 = .ok (.getfield 35, 3) := by decide +kernel
theorem dX6_orderCliffs_32 : decode cX6_orderCliffs 32 = .ok (.istore_n 3, 1) := gdX6_orderCliffs_32.1
theorem dX6_orderCliffs_33 : decode cX6_orderCliffs 33 = .ok (.iload_n 2, 1) := gdX6_orderCliffs_32.2.1
theorem dX6_orderCliffs_34 : decode cX6_orderCliffs 34 = .ok (.ifCond .le 49, 3) := gdX6_orderCliffs_32.2.2.1
theorem dX6_orderCliffs_83 : decode cX6_orderCliffs 83 = .ok (.aload_n 0, 1) := gdX6_orderCliffs_32.2.2.2.1
theorem dX6_orderCliffs_84 : decode cX6_orderCliffs 84 = .ok (.getfield 18, 3) := gdX6_orderCliffs_32.2.2.2.2.1
theorem dX6_orderCliffs_87 : decode cX6_orderCliffs 87 = .ok (.iload_n 2, 1) := gdX6_orderCliffs_32.2.2.2.2.2.1
theorem dX6_orderCliffs_88 : decode cX6_orderCliffs 88 = .ok (.iload_n 1, 1) := gdX6_orderCliffs_32.2.2.2.2.2.2.1
theorem dX6_orderCliffs_89 : decode cX6_orderCliffs 89 = .ok (.iastore, 1) := gdX6_orderCliffs_32.2.2.2.2.2.2.2.1
theorem dX6_orderCliffs_90 : decode cX6_orderCliffs 90 = .ok (.iinc 1 1, 3) := gdX6_orderCliffs_32.2.2.2.2.2.2.2.2.1
theorem dX6_orderCliffs_93 : decode cX6_orderCliffs 93 = .ok (.goto (-91), 3) := gdX6_orderCliffs_32.2.2.2.2.2.2.2.2.2.1
theorem dX6_orderCliffs_37 : decode cX6_orderCliffs 37 = .ok (.aload_n 0, 1) := gdX6_orderCliffs_32.2.2.2.2.2.2.2.2.2.2.1
theorem dX6_orderCliffs_38 : decode cX6_orderCliffs 38 = .ok (.getfield 35, 3) := gdX6_orderCliffs_32.2.2.2.2.2.2.2.2.2.2.2
theorem gdX6_orderCliffs_41 : decode cX6_orderCliffs 41 = .ok (.aload_n 0, 1) ∧ decode cX6_orderCliffs 42 = .ok (.getfield 18, 3) ∧ decode cX6_orderCliffs 45 = .ok (.iload_n 2, 1) ∧ decode cX6_orderCliffs 46 = .ok (.iconst 1, 1) ∧ decode cX6_orderCliffs 47 = .ok (.isub, 1) ∧ decode cX6_orderCliffs 48 = .ok (.iaload, 1) ∧ decode cX6_orderCliffs 49 = .ok (.aload_n 0, 1) ∧ decode cX6_orderCliffs 50 = .ok (.getfield 39, 3) ∧ decode cX6_orderCliffs 53 = .ok (.getfield 77, 3) ∧ decode cX6_orderCliffs 56 = .ok (.invokevirtual 80, 3) ∧ decode cX6_orderCliffs 59 = .ok (.iload_n 3, 1) ∧ decode cX6_orderCliffs 60 = .ok (.if_icmp .le 23, 3) := by decide +kernel
theorem dX6_orderCliffs_41 : decode cX6_orderCliffs 41 = .ok (.aload_n 0, 1) := gdX6_orderCliffs_41.1
theorem dX6_orderCliffs_42 : decode cX6_orderCliffs 42 = .ok (.getfield 18, 3) := gdX6_orderCliffs_41.2.1
theorem dX6_orderCliffs_45 : decode cX6_orderCliffs 45 = .ok (.iload_n 2, 1) := gdX6_orderCliffs_41.2.2.1
theorem dX6_orderCliffs_46 : decode cX6_orderCliffs 46 = .ok (.iconst 1, 1) := gdX6_orderCliffs_41.2.2.2.1
theorem dX6_orderCliffs_47 : decode cX6_orderCliffs 47 = .ok (.isub, 1) := gdX6_orderCliffs_41.2.2.2.2.1
theorem dX6_orderCliffs_48 : decode cX6_orderCliffs 48 = .ok (.iaload, 1) := gdX6_orderCliffs_41.2.2.2.2.2.1
theorem dX6_orderCliffs_49 : decode cX6_orderCliffs 49 = .ok (.aload_n 0, 1) := gdX6_orderCliffs_41.2.2.2.2.2.2.1
theorem dX6_orderCliffs_50 : decode cX6_orderCliffs 50 = .ok (.getfield 39, 3) := gdX6_orderCliffs_41.2.2.2.2.2.2.2.1
theorem dX6_orderCliffs_53 : decode cX6_orderCliffs 53 = .ok (.getfield 77, 3) := gdX6_orderCliffs_41.2.2.2.2.2.2.2.2.1
theorem dX6_orderCliffs_56 : decode cX6_orderCliffs 56 = .ok (.invokevirtual 80, 3) := gdX6_orderCliffs_41.2.2.2.2.2.2.2.2.2.1
theorem dX6_orderCliffs_59 : decode cX6_orderCliffs 59 = .ok (.iload_n 3, 1) := gdX6_orderCliffs_41.2.2.2.2.2.2.2.2.2.2.1
theorem dX6_orderCliffs_60 : decode cX6_orderCliffs 60 = .ok (.if_icmp .le 23, 3) := gdX6_orderCliffs_41.2.2.2.2.2.2.2.2.2.2.2
theorem gdX6_orderCliffs_63 : decode cX6_orderCliffs 63 = .ok (.aload_n 0, 1) ∧ decode cX6_orderCliffs 64 = .ok (.getfield 18, 3) ∧ decode cX6_orderCliffs 67 = .ok (.iload_n 2, 1) ∧ decode cX6_orderCliffs 68 = .ok (.aload_n 0, 1) ∧ decode cX6_orderCliffs 69 = .ok (.getfield 18, 3) ∧ decode cX6_orderCliffs 72 = .ok (.iload_n 2, 1) ∧ decode cX6_orderCliffs 73 = .ok (.iconst 1, 1) ∧ decode cX6_orderCliffs 74 = .ok (.isub, 1) ∧ decode cX6_orderCliffs 75 = .ok (.iaload, 1) ∧ decode cX6_orderCliffs 76 = .ok (.iastore, 1) ∧ decode cX6_orderCliffs 77 = .ok (.iinc 2 (-1), 3) ∧ decode cX6_orderCliffs 80 = .ok (.goto (-47), 3) := by decide +kernel
theorem dX6_orderCliffs_63 : decode cX6_orderCliffs 63 = .ok (.aload_n 0, 1) := gdX6_orderCliffs_63.1
theorem dX6_orderCliffs_64 : decode cX6_orderCliffs 64 = .ok (.getfield 18, 3) := gdX6_orderCliffs_63.2.1
theorem dX6_orderCliffs_67 : decode cX6_orderCliffs 67 = .ok (.iload_n 2, 1) := gdX6_orderCliffs_63.2.2.1
theorem dX6_orderCliffs_68 : decode cX6_orderCliffs 68 = .ok (.aload_n 0, 1) := gdX6_orderCliffs_63.2.2.2.1
theorem dX6_orderCliffs_69 : decode cX6_orderCliffs 69 = .ok (.getfield 18, 3) := gdX6_orderCliffs_63.2.2.2.2.1
theorem dX6_orderCliffs_72 : decode cX6_orderCliffs 72 = .ok (.iload_n 2, 1) := gdX6_orderCliffs_63.2.2.2.2.2.1
theorem dX6_orderCliffs_73 : decode cX6_orderCliffs 73 = .ok (.iconst 1, 1) := gdX6_orderCliffs_63.2.2.2.2.2.2.1
theorem dX6_orderCliffs_74 : decode cX6_orderCliffs 74 = .ok (.isub, 1) := gdX6_orderCliffs_63.2.2.2.2.2.2.2.1
theorem dX6_orderCliffs_75 : decode cX6_orderCliffs 75 = .ok (.iaload, 1) := gdX6_orderCliffs_63.2.2.2.2.2.2.2.2.1
theorem dX6_orderCliffs_76 : decode cX6_orderCliffs 76 = .ok (.iastore, 1) := gdX6_orderCliffs_63.2.2.2.2.2.2.2.2.2.1
theorem dX6_orderCliffs_77 : decode cX6_orderCliffs 77 = .ok (.iinc 2 (-1), 3) := gdX6_orderCliffs_63.2.2.2.2.2.2.2.2.2.2.1
theorem dX6_orderCliffs_80 : decode cX6_orderCliffs 80 = .ok (.goto (-47), 3) := gdX6_orderCliffs_63.2.2.2.2.2.2.2.2.2.2.2
set_option maxHeartbeats 1000000 in
set_option maxRecDepth 100000 in
theorem s_orderCliffs (l : Launch) (D : va_G) (cy : Nat → ClassId) (p0 : Nat) (p1 : Nat) (p2 : Nat) (p3 : Nat) (p4 : Nat) (er : Nat) (ro : Nat) (ch : Nat) (fne : Nat → Int32) (h0 : Nat) (h1 : Nat) (h2 : Nat) (h3 : Nat) (h4 : Nat) (h5 : Nat) (h6 : Nat) (h7 : Nat) (h8 : Nat) (h9 : Nat) (h10 : Nat) (h11 : Nat) (hv0 : Value) (hv1 : Value) (hv2 : Value) (hv3 : Value) (hv4 : Value) (fc : Nat → Int32) (c0 : Nat) (c1 : Nat) (c2 : Nat) (c3 : Nat) (fp : Nat → Int32) (s0 : Nat) (s1 : Nat) (s2 : Nat) (sl : Nat) (spl : Int32) (svo : Int32) (swi : Int32) (sch : Int32) (hcn : cntOK fc c0 c1 c2 c3) (hc0 : c0 ≤ 8) (hc1 : c1 ≤ 4) (hc2 : c2 ≤ 4) (hc3 : c3 ≤ 6) : XMv l D (tyL cy) E0 yX6_orderCliffs cX6_orderCliffs 4 none (rmk 2 0 0) [.ref p0] [wO p0 6 [.ref p1, .ref er, .ref ro, .ref p2, .ref p3, .ref p4, .ref h0, .ref s0, .int (nI ch)], wI (cy 1) p3 4 (fne), wO h0 4 [.ref h1, .ref h2, .ref h3, .ref h4, .ref h5, .ref h6, .ref h7, .ref h8, .ref h9, .ref h10, .ref h11, hv0, hv1, hv2, hv3, hv4], wI (cy 1) h1 4 (fc), wI (cy 1) h3 4 (fp), wO s0 7 [.ref s1, .ref s2, .int (nI sl), .int spl, .int svo, .int swi, .int sch]] (fun (fne2 : Nat → Int32) => (nOK fne2 c1) ∧ (ordR fne2 (fun c9 => farC spl (fp c9)) c1)) (fun (fne2 : Nat → Int32) => [wO p0 6 [.ref p1, .ref er, .ref ro, .ref p2, .ref p3, .ref p4, .ref h0, .ref s0, .int (nI ch)], wI (cy 1) p3 4 (fne2), wO h0 4 [.ref h1, .ref h2, .ref h3, .ref h4, .ref h5, .ref h6, .ref h7, .ref h8, .ref h9, .ref h10, .ref h11, hv0, hv1, hv2, hv3, hv4], wI (cy 1) h1 4 (fc), wI (cy 1) h3 4 (fp), wO s0 7 [.ref s1, .ref s2, .int (nI sl), .int spl, .int svo, .int swi, .int sch]]) := by
  refine XMv.start (by decide) (Nat.le_of_ble_eq_true rfl) ?_
  intro p e s m below meth c args A ls Q hat hQ
  obtain ⟨hx, hb, hr, hml, hown, hg, hlocks, hin, hK, hA, hP, hD, hS, hE, hl⟩ := hat
  have hown : s.vm.findClass RX6 = some m.cls := hown
  have hl : lv_has ls 4 [(0, .ref p0)] := hl
  refine lv_iconst (v := 0) hx hb dX6_orderCliffs_0 (by decide) ?_
  refine lv_istore_n (lv' := [(1, .int 0), (0, .ref p0)]) hx hb dX6_orderCliffs_1 rfl hl (by decide) rfl (fun ls hl => ?_)
  have loop1 : ∀ (zn : Nat) (i1 : Nat) (fa1_1 : Nat → Int32), (i1 ≤ c1) → (nOK fa1_1 i1) → (ordR fa1_1 (fun c9 => farC spl (fp c9)) i1) → c1 - i1 + 1 ≤ zn → ∀ (H : Heap) (locs : List Loc), va_P D vwCl [wO p0 6 [.ref p1, .ref er, .ref ro, .ref p2, .ref p3, .ref p4, .ref h0, .ref s0, .int (nI ch)], wI (cy 1) p3 4 (fa1_1), wO h0 4 [.ref h1, .ref h2, .ref h3, .ref h4, .ref h5, .ref h6, .ref h7, .ref h8, .ref h9, .ref h10, .ref h11, hv0, hv1, hv2, hv3, hv4], wI (cy 1) h1 4 (fc), wI (cy 1) h3 4 (fp), wO s0 7 [.ref s1, .ref s2, .int (nI sl), .int spl, .int svo, .int swi, .int sch]] H → va_D A [wO p0 6 [.ref p1, .ref er, .ref ro, .ref p2, .ref p3, .ref p4, .ref h0, .ref s0, .int (nI ch)], wI (cy 1) p3 4 (fa1_1), wO h0 4 [.ref h1, .ref h2, .ref h3, .ref h4, .ref h5, .ref h6, .ref h7, .ref h8, .ref h9, .ref h10, .ref h11, hv0, hv1, hv2, hv3, hv4], wI (cy 1) h1 4 (fc), wI (cy 1) h3 4 (fp), wO s0 7 [.ref s1, .ref s2, .int (nI sl), .int spl, .int svo, .int swi, .int sch]] → va_S A s.heap H locs → ∀ ls : Array Slot, lv_has ls 4 [(1, .int (nI i1)), (0, .ref p0)] → W p l e (rmk 2 0 0) s m args below meth c H locs 0 0 Q (F0 m 2 ls []) := by
    try clear hP hD hS
    intro zn
    induction zn with
    | zero => intro i1 fa1_1 _ _ _ hz; exact absurd hz (by omega)
    | succ zn ih1 =>
      intro i1 fa1_1 hf0_1 hf1_1 hf2_1 hmu1 H locs hP hD hS ls hl
      refine lv_iload_n hx hb dX6_orderCliffs_2 rfl (lv_at hl 0 rfl) ?_
      refine lv_aload_n hx hb dX6_orderCliffs_3 rfl (lv_at hl 1 rfl) ?_
      refine va_get (D := D) (ci := 6) (v := .ref h0) (C := RX6) (T := TX6) (N := 9) hx hb hg i_X6 hown hK hP 0 rfl rfl 6 (by decide) (hg _ m_591) (fun _ h9 => h9) rfl dX6_orderCliffs_4 ?_
      refine va_get (D := D) (ci := 4) (v := .ref h1) (C := RX4) (T := TX4) (N := 16) hx hb hg i_X4 hown hK hP 2 rfl rfl 0 (by decide) (hg _ m_330) (fun _ h9 => h9) rfl dX6_orderCliffs_7 ?_
      refine lv_iconst (v := 1) hx hb dX6_orderCliffs_10 (by decide) ?_
      refine va_iald hx hb hK hP 3 1 rfl rfl (by unfold vp_in; decide) dX6_orderCliffs_11 ?_
      refine lv_topi (fun y_2 hy_2 => ?_)
      obtain rfl : y_2 = nI c1 := hy_2.trans hcn.2.1
      refine lv_icmp_ge (tgt := 96) hx hb dX6_orderCliffs_12 (by decide) (fun c_3 => ?_) (fun c_3 => ?_)
      · have q_4 : c1 ≤ i1 := q_le (a := c1) (b := i1) rfl rfl (by omega) (by omega) c_3
        exact x_vret hQ hx hb hr hlocks hK hP hD hS dX6_orderCliffs_96 fa1_1 (⟨(show nOK fa1_1 c1 from fun k hk => by obtain ⟨j, hj, ej⟩ := hf1_1 k (by omega); exact ⟨j, by omega, ej⟩), (by have h9 := hf2_1; rw [show i1 = c1 by omega] at h9; exact h9)⟩) [0, 1, 2, 3, 4, 5] (by decide +kernel) rfl (Nat.le_of_ble_eq_true rfl) (Nat.le_of_ble_eq_true rfl)
      · have q_4 : i1 < c1 := q_nle (a := c1) (b := i1) rfl rfl (by omega) (by omega) c_3
        have hn_1 := hf1_1
        refine lv_iload_n hx hb dX6_orderCliffs_15 rfl (lv_at hl 0 rfl) ?_
        refine lv_istore_n (lv' := [(2, .int (nI i1)), (1, .int (nI i1)), (0, .ref p0)]) hx hb dX6_orderCliffs_16 rfl hl (by decide) rfl (fun ls hl => ?_)
        refine lv_aload_n hx hb dX6_orderCliffs_17 rfl (lv_at hl 2 rfl) ?_
        refine va_get (D := D) (ci := 6) (v := .ref h0) (C := RX6) (T := TX6) (N := 9) hx hb hg i_X6 hown hK hP 0 rfl rfl 6 (by decide) (hg _ m_591) (fun _ h9 => h9) rfl dX6_orderCliffs_18 ?_
        refine lv_iload_n hx hb dX6_orderCliffs_21 rfl (lv_at hl 1 rfl) ?_
        refine lv_aload_n hx hb dX6_orderCliffs_22 rfl (lv_at hl 2 rfl) ?_
        refine va_get (D := D) (ci := 6) (v := .ref s0) (C := RX6) (T := TX6) (N := 9) hx hb hg i_X6 hown hK hP 0 rfl rfl 7 (by decide) (hg _ m_592) (fun _ h9 => h9) rfl dX6_orderCliffs_23 ?_
        refine va_get (D := D) (ci := 7) (v := .int spl) (C := RX7) (T := TX7) (N := 7) hx hb hg i_X7 hown hK hP 5 rfl rfl 3 (by decide) (hg _ m_633) (fun _ h9 => h9) rfl dX6_orderCliffs_26 ?_
        refine x_callVi (q := (RX4, TX4, 16)) (ci := 4) (q0 := 0) (wr := [wO p0 6 [.ref p1, .ref er, .ref ro, .ref p2, .ref p3, .ref p4, .ref h0, .ref s0, .int (nI ch)], wI (cy 1) p3 4 (fa1_1), wI (cy 1) h1 4 (fc), wO s0 7 [.ref s1, .ref s2, .int (nI sl), .int spl, .int svo, .int swi, .int sch]]) (rest := []) ⟨hx, hb, hml, hown, hg, hl.1⟩ k_X6_80 (s_far l D cy h0 h1 h2 h3 h4 h5 h6 h7 h8 h9 h10 h11 hv0 hv1 hv2 hv3 hv4 fp i1 spl (by omega)) E0_blind hK hP hD hS hA [2, 4] [0, 1, 3, 5] ⟨rfl, rfl, by decide +kernel, by decide +kernel, by decide +kernel⟩ rfl rfl (fun _ _ _ => trivial) dX6_orderCliffs_29 rfl rfl (Nat.le_of_ble_eq_true rfl) ⟨Nat.le_of_ble_eq_true rfl, Nat.le_of_ble_eq_true rfl⟩ ⟨Nat.le_of_ble_eq_true rfl, Nat.le_of_ble_eq_true rfl⟩ (fun zr5 zu5 H locs hw5 hP9 hD9 hS9 => ?_)
        clear hP hD hS
        refine reW [wO p0 6 [.ref p1, .ref er, .ref ro, .ref p2, .ref p3, .ref p4, .ref h0, .ref s0, .int (nI ch)], wI (cy 1) p3 4 (fa1_1), wI (cy 1) h1 4 (fc), wO s0 7 [.ref s1, .ref s2, .int (nI sl), .int spl, .int svo, .int swi, .int sch], wO h0 4 [.ref h1, .ref h2, .ref h3, .ref h4, .ref h5, .ref h6, .ref h7, .ref h8, .ref h9, .ref h10, .ref h11, hv0, hv1, hv2, hv3, hv4], wI (cy 1) h3 4 (fp)] hP9 hD9 hS9 (fun hP hD hS => ?_)
        clear hP9 hD9 hS9
        refine W.widen (k := 0) (n := 0) (Nat.le_of_ble_eq_true rfl) (Nat.le_of_ble_eq_true rfl) ?_
        replace hw5 : zr5 = farC spl (fp i1) := hw5
        subst hw5
        refine lv_istore_n (lv' := [(3, .int (farC spl (fp i1))), (2, .int (nI i1)), (1, .int (nI i1)), (0, .ref p0)]) hx hb dX6_orderCliffs_32 rfl hl (by decide) rfl (fun ls hl => ?_)
        have loop6 : ∀ (zn : Nat) (rk6 : Nat) (fa1_6 : Nat → Int32), (rk6 ≤ i1) → (hOK fa1_6 i1 rk6) → (ordM fa1_6 fa1_1 (fun c9 => farC spl (fp c9)) i1 rk6) → rk6 + 1 ≤ zn → ∀ (H : Heap) (locs : List Loc), va_P D vwCl [wO p0 6 [.ref p1, .ref er, .ref ro, .ref p2, .ref p3, .ref p4, .ref h0, .ref s0, .int (nI ch)], wI (cy 1) p3 4 (fa1_6), wI (cy 1) h1 4 (fc), wO s0 7 [.ref s1, .ref s2, .int (nI sl), .int spl, .int svo, .int swi, .int sch], wO h0 4 [.ref h1, .ref h2, .ref h3, .ref h4, .ref h5, .ref h6, .ref h7, .ref h8, .ref h9, .ref h10, .ref h11, hv0, hv1, hv2, hv3, hv4], wI (cy 1) h3 4 (fp)] H → va_D A [wO p0 6 [.ref p1, .ref er, .ref ro, .ref p2, .ref p3, .ref p4, .ref h0, .ref s0, .int (nI ch)], wI (cy 1) p3 4 (fa1_6), wI (cy 1) h1 4 (fc), wO s0 7 [.ref s1, .ref s2, .int (nI sl), .int spl, .int svo, .int swi, .int sch], wO h0 4 [.ref h1, .ref h2, .ref h3, .ref h4, .ref h5, .ref h6, .ref h7, .ref h8, .ref h9, .ref h10, .ref h11, hv0, hv1, hv2, hv3, hv4], wI (cy 1) h3 4 (fp)] → va_S A s.heap H locs → ∀ ls : Array Slot, lv_has ls 4 [(3, .int (farC spl (fp i1))), (2, .int (nI rk6)), (1, .int (nI i1)), (0, .ref p0)] → W p l e (rmk 2 0 0) s m args below meth c H locs 0 0 Q (F0 m 33 ls []) := by
          try clear hP hD hS
          intro zn
          induction zn with
          | zero => intro rk6 fa1_6 _ _ _ hz; exact absurd hz (by omega)
          | succ zn ih6 =>
            intro rk6 fa1_6 hf0_6 hf1_6 hf2_6 hmu6 H locs hP hD hS ls hl
            refine lv_iload_n hx hb dX6_orderCliffs_33 rfl (lv_at hl 1 rfl) ?_
            refine lv_if_le (tgt := 83) hx hb dX6_orderCliffs_34 (by decide) (fun c_7 => ?_) (fun c_7 => ?_)
            · have q_8 : rk6 ≤ 0 := q_le (a := rk6) (b := 0) rfl rfl (by omega) (by omega) c_7
              refine lv_aload_n hx hb dX6_orderCliffs_83 rfl (lv_at hl 3 rfl) ?_
              refine va_get (D := D) (ci := 6) (v := .ref p3) (C := RX6) (T := TX6) (N := 9) hx hb hg i_X6 hown hK hP 0 rfl rfl 4 (by decide) (hg _ m_589) (fun _ h9 => h9) rfl dX6_orderCliffs_84 ?_
              refine lv_iload_n hx hb dX6_orderCliffs_87 rfl (lv_at hl 1 rfl) ?_
              refine lv_iload_n hx hb dX6_orderCliffs_88 rfl (lv_at hl 2 rfl) ?_
              refine va_iast hx hb hK hP hD hS 1 1 rfl rfl (vp_in_nI (by omega) (by decide)) dX6_orderCliffs_89 (fun H locs hP9 hD9 hS9 => ?_)
              clear hP hD hS
              obtain ⟨g_9, eg_9⟩ : ∃ y, upd fa1_6 (nI rk6 : Int32).toNatClampNeg (nI i1) = y := ⟨_, rfl⟩
              rw [eg_9] at hP9 hD9
              refine reW [wO p0 6 [.ref p1, .ref er, .ref ro, .ref p2, .ref p3, .ref p4, .ref h0, .ref s0, .int (nI ch)], wI (cy 1) p3 4 (g_9), wI (cy 1) h1 4 (fc), wO s0 7 [.ref s1, .ref s2, .int (nI sl), .int spl, .int svo, .int swi, .int sch], wO h0 4 [.ref h1, .ref h2, .ref h3, .ref h4, .ref h5, .ref h6, .ref h7, .ref h8, .ref h9, .ref h10, .ref h11, hv0, hv1, hv2, hv3, hv4], wI (cy 1) h3 4 (fp)] hP9 hD9 hS9 (fun hP hD hS => ?_)
              clear hP9 hD9 hS9
              have hn_10 := hOK_fill (r := rk6) (i := i1) hf1_6 (by omega) (by omega)
              rw [eg_9] at hn_10
              refine lv_iinc (v := nI (i1 + 1)) (lv' := [(1, .int (nI (i1 + 1))), (3, .int (farC spl (fp i1))), (2, .int (nI rk6)), (0, .ref p0)]) hx hb dX6_orderCliffs_90 hl (k := 2) rfl (nI_add i1 1) (by decide) rfl (fun ls hl => ?_)
              refine lv_goto (tgt := 2) hx hb dX6_orderCliffs_93 (by decide) ?_
              exact ih1  ((i1 + 1)) g_9 (by omega) (hn_10) (om_fin hf2_1 hf2_6 (by omega) (by omega) (Or.inl (by omega)) eg_9) (by omega) _ _ (hP.sub [0, 1, 4, 2, 5, 3] rfl) (hD.sub [0, 1, 4, 2, 5, 3] (by decide +kernel) rfl) hS ls (lv_sub hl [0, 3] rfl)
            · have q_8 : 0 < rk6 := q_nle (a := rk6) (b := 0) rfl rfl (by omega) (by omega) c_7
              refine lv_aload_n hx hb dX6_orderCliffs_37 rfl (lv_at hl 3 rfl) ?_
              refine va_get (D := D) (ci := 6) (v := .ref h0) (C := RX6) (T := TX6) (N := 9) hx hb hg i_X6 hown hK hP 0 rfl rfl 6 (by decide) (hg _ m_591) (fun _ h9 => h9) rfl dX6_orderCliffs_38 ?_
              refine lv_aload_n hx hb dX6_orderCliffs_41 rfl (lv_at hl 3 rfl) ?_
              refine va_get (D := D) (ci := 6) (v := .ref p3) (C := RX6) (T := TX6) (N := 9) hx hb hg i_X6 hown hK hP 0 rfl rfl 4 (by decide) (hg _ m_589) (fun _ h9 => h9) rfl dX6_orderCliffs_42 ?_
              refine lv_iload_n hx hb dX6_orderCliffs_45 rfl (lv_at hl 1 rfl) ?_
              refine lv_iconst (v := 1) hx hb dX6_orderCliffs_46 (by decide) ?_
              refine lv_isub hx hb dX6_orderCliffs_47 ?_
              refine lv_topi (fun y_11 hy_11 => ?_)
              obtain rfl : y_11 = nI (rk6 - 1) := hy_11.trans (pk_sub (a := rk6) (b := 1) (by omega))
              refine va_iald hx hb hK hP 1 1 rfl rfl (vp_in_nI (by omega) (by decide)) dX6_orderCliffs_48 ?_
              obtain ⟨j_12, hj_12, ej_12⟩ := hOK_at hf1_6 (k := (rk6 - 1)) (by omega) (by omega) (by omega)
              refine lv_topi (fun y_13 hy_13 => ?_)
              obtain rfl : y_13 = nI j_12 := hy_13.trans ej_12
              refine lv_aload_n hx hb dX6_orderCliffs_49 rfl (lv_at hl 3 rfl) ?_
              refine va_get (D := D) (ci := 6) (v := .ref s0) (C := RX6) (T := TX6) (N := 9) hx hb hg i_X6 hown hK hP 0 rfl rfl 7 (by decide) (hg _ m_592) (fun _ h9 => h9) rfl dX6_orderCliffs_50 ?_
              refine va_get (D := D) (ci := 7) (v := .int spl) (C := RX7) (T := TX7) (N := 7) hx hb hg i_X7 hown hK hP 3 rfl rfl 3 (by decide) (hg _ m_633) (fun _ h9 => h9) rfl dX6_orderCliffs_53 ?_
              refine x_callVi (q := (RX4, TX4, 16)) (ci := 4) (q0 := 0) (wr := [wO p0 6 [.ref p1, .ref er, .ref ro, .ref p2, .ref p3, .ref p4, .ref h0, .ref s0, .int (nI ch)], wI (cy 1) p3 4 (fa1_6), wI (cy 1) h1 4 (fc), wO s0 7 [.ref s1, .ref s2, .int (nI sl), .int spl, .int svo, .int swi, .int sch]]) (rest := []) ⟨hx, hb, hml, hown, hg, hl.1⟩ k_X6_80 (s_far l D cy h0 h1 h2 h3 h4 h5 h6 h7 h8 h9 h10 h11 hv0 hv1 hv2 hv3 hv4 fp j_12 spl (by omega)) E0_blind hK hP hD hS hA [4, 5] [0, 1, 2, 3] ⟨rfl, rfl, by decide +kernel, by decide +kernel, by decide +kernel⟩ rfl rfl (fun _ _ _ => trivial) dX6_orderCliffs_56 rfl rfl (Nat.le_of_ble_eq_true rfl) ⟨Nat.le_of_ble_eq_true rfl, Nat.le_of_ble_eq_true rfl⟩ ⟨Nat.le_of_ble_eq_true rfl, Nat.le_of_ble_eq_true rfl⟩ (fun zr14 zu14 H locs hw14 hP9 hD9 hS9 => ?_)
              clear hP hD hS
              refine reW [wO p0 6 [.ref p1, .ref er, .ref ro, .ref p2, .ref p3, .ref p4, .ref h0, .ref s0, .int (nI ch)], wI (cy 1) p3 4 (fa1_6), wI (cy 1) h1 4 (fc), wO s0 7 [.ref s1, .ref s2, .int (nI sl), .int spl, .int svo, .int swi, .int sch], wO h0 4 [.ref h1, .ref h2, .ref h3, .ref h4, .ref h5, .ref h6, .ref h7, .ref h8, .ref h9, .ref h10, .ref h11, hv0, hv1, hv2, hv3, hv4], wI (cy 1) h3 4 (fp)] hP9 hD9 hS9 (fun hP hD hS => ?_)
              clear hP9 hD9 hS9
              refine W.widen (k := 0) (n := 0) (Nat.le_of_ble_eq_true rfl) (Nat.le_of_ble_eq_true rfl) ?_
              replace hw14 : zr14 = farC spl (fp j_12) := hw14
              subst hw14
              refine lv_iload_n hx hb dX6_orderCliffs_59 rfl (lv_at hl 0 rfl) ?_
              refine lv_icmp_le (tgt := 83) hx hb dX6_orderCliffs_60 (by decide) (fun c_60 => ?_) (fun c_60 => ?_)
              · refine lv_aload_n hx hb dX6_orderCliffs_83 rfl (lv_at hl 3 rfl) ?_
                refine va_get (D := D) (ci := 6) (v := .ref p3) (C := RX6) (T := TX6) (N := 9) hx hb hg i_X6 hown hK hP 0 rfl rfl 4 (by decide) (hg _ m_589) (fun _ h9 => h9) rfl dX6_orderCliffs_84 ?_
                refine lv_iload_n hx hb dX6_orderCliffs_87 rfl (lv_at hl 1 rfl) ?_
                refine lv_iload_n hx hb dX6_orderCliffs_88 rfl (lv_at hl 2 rfl) ?_
                refine va_iast hx hb hK hP hD hS 1 1 rfl rfl (vp_in_nI (by omega) (by decide)) dX6_orderCliffs_89 (fun H locs hP9 hD9 hS9 => ?_)
                clear hP hD hS
                obtain ⟨g_15, eg_15⟩ : ∃ y, upd fa1_6 (nI rk6 : Int32).toNatClampNeg (nI i1) = y := ⟨_, rfl⟩
                rw [eg_15] at hP9 hD9
                refine reW [wO p0 6 [.ref p1, .ref er, .ref ro, .ref p2, .ref p3, .ref p4, .ref h0, .ref s0, .int (nI ch)], wI (cy 1) p3 4 (g_15), wI (cy 1) h1 4 (fc), wO s0 7 [.ref s1, .ref s2, .int (nI sl), .int spl, .int svo, .int swi, .int sch], wO h0 4 [.ref h1, .ref h2, .ref h3, .ref h4, .ref h5, .ref h6, .ref h7, .ref h8, .ref h9, .ref h10, .ref h11, hv0, hv1, hv2, hv3, hv4], wI (cy 1) h3 4 (fp)] hP9 hD9 hS9 (fun hP hD hS => ?_)
                clear hP9 hD9 hS9
                have hn_16 := hOK_fill (r := rk6) (i := i1) hf1_6 (by omega) (by omega)
                rw [eg_15] at hn_16
                refine lv_iinc (v := nI (i1 + 1)) (lv' := [(1, .int (nI (i1 + 1))), (3, .int (farC spl (fp i1))), (2, .int (nI rk6)), (0, .ref p0)]) hx hb dX6_orderCliffs_90 hl (k := 2) rfl (nI_add i1 1) (by decide) rfl (fun ls hl => ?_)
                refine lv_goto (tgt := 2) hx hb dX6_orderCliffs_93 (by decide) ?_
                exact ih1  ((i1 + 1)) g_15 (by omega) (hn_16) (om_fin hf2_1 hf2_6 (by omega) (by omega) (Or.inr ⟨j_12, by omega, ej_12, c_60⟩) eg_15) (by omega) _ _ (hP.sub [0, 1, 4, 2, 5, 3] rfl) (hD.sub [0, 1, 4, 2, 5, 3] (by decide +kernel) rfl) hS ls (lv_sub hl [0, 3] rfl)
              · refine lv_aload_n hx hb dX6_orderCliffs_63 rfl (lv_at hl 3 rfl) ?_
                refine va_get (D := D) (ci := 6) (v := .ref p3) (C := RX6) (T := TX6) (N := 9) hx hb hg i_X6 hown hK hP 0 rfl rfl 4 (by decide) (hg _ m_589) (fun _ h9 => h9) rfl dX6_orderCliffs_64 ?_
                refine lv_iload_n hx hb dX6_orderCliffs_67 rfl (lv_at hl 1 rfl) ?_
                refine lv_aload_n hx hb dX6_orderCliffs_68 rfl (lv_at hl 3 rfl) ?_
                refine va_get (D := D) (ci := 6) (v := .ref p3) (C := RX6) (T := TX6) (N := 9) hx hb hg i_X6 hown hK hP 0 rfl rfl 4 (by decide) (hg _ m_589) (fun _ h9 => h9) rfl dX6_orderCliffs_69 ?_
                refine lv_iload_n hx hb dX6_orderCliffs_72 rfl (lv_at hl 1 rfl) ?_
                refine lv_iconst (v := 1) hx hb dX6_orderCliffs_73 (by decide) ?_
                refine lv_isub hx hb dX6_orderCliffs_74 ?_
                refine lv_topi (fun y_17 hy_17 => ?_)
                obtain rfl : y_17 = nI (rk6 - 1) := hy_17.trans (pk_sub (a := rk6) (b := 1) (by omega))
                refine va_iald hx hb hK hP 1 1 rfl rfl (vp_in_nI (by omega) (by decide)) dX6_orderCliffs_75 ?_
                obtain ⟨j_18, hj_18, ej_18⟩ := hOK_at hf1_6 (k := (rk6 - 1)) (by omega) (by omega) (by omega)
                refine lv_topi (fun y_19 hy_19 => ?_)
                obtain rfl : y_19 = nI j_18 := hy_19.trans ej_18
                refine va_iast hx hb hK hP hD hS 1 1 rfl rfl (vp_in_nI (by omega) (by decide)) dX6_orderCliffs_76 (fun H locs hP9 hD9 hS9 => ?_)
                clear hP hD hS
                obtain ⟨g_20, eg_20⟩ : ∃ y, upd fa1_6 (nI rk6 : Int32).toNatClampNeg (nI j_18) = y := ⟨_, rfl⟩
                rw [eg_20] at hP9 hD9
                refine reW [wO p0 6 [.ref p1, .ref er, .ref ro, .ref p2, .ref p3, .ref p4, .ref h0, .ref s0, .int (nI ch)], wI (cy 1) p3 4 (g_20), wI (cy 1) h1 4 (fc), wO s0 7 [.ref s1, .ref s2, .int (nI sl), .int spl, .int svo, .int swi, .int sch], wO h0 4 [.ref h1, .ref h2, .ref h3, .ref h4, .ref h5, .ref h6, .ref h7, .ref h8, .ref h9, .ref h10, .ref h11, hv0, hv1, hv2, hv3, hv4], wI (cy 1) h3 4 (fp)] hP9 hD9 hS9 (fun hP hD hS => ?_)
                clear hP9 hD9 hS9
                have hh_21 := hOK_mv (r := rk6) (j := j_18) hf1_6 (by omega) (by omega) (by omega) (by omega)
                rw [eg_20] at hh_21
                refine lv_iinc (v := nI (rk6 - 1)) (lv' := [(2, .int (nI (rk6 - 1))), (3, .int (farC spl (fp i1))), (1, .int (nI i1)), (0, .ref p0)]) hx hb dX6_orderCliffs_77 hl (k := 1) rfl (sb_m1 (by omega)) (by decide) rfl (fun ls hl => ?_)
                refine lv_goto (tgt := 33) hx hb dX6_orderCliffs_80 (by decide) ?_
                exact ih6  ((rk6 - 1)) g_20 (by omega) (hh_21) (om_mv hf2_6 (by omega) (by omega) (by omega) ej_12 (by omega) c_60 ej_18 eg_20) (by omega) _ _ (hP.sub [0, 1, 2, 3, 4, 5] rfl) (hD.sub [0, 1, 2, 3, 4, 5] (by decide +kernel) rfl) hS ls (lv_sub hl [1, 0, 2, 3] rfl)
        exact loop6 _ i1 fa1_1 (by omega) (hOK_in hn_1) (om_0) (Nat.le_refl _) _ _ (hP.sub [0, 1, 2, 3, 4, 5] rfl) (hD.sub [0, 1, 2, 3, 4, 5] (by decide +kernel) rfl) hS ls (lv_sub hl [0, 1, 2, 3] rfl)
  exact loop1 _ 0 fne (by omega) (fun k hk => absurd hk (by omega)) (ord_0) (Nat.le_refl _) _ _ (hP.sub [0, 1, 2, 3, 4, 5] rfl) (hD.sub [0, 1, 2, 3, 4, 5] (by decide +kernel) rfl) hS ls (lv_sub hl [0, 1] rfl)
