/-! TOKENS of a row f of n bytes, read from the place a on -/
abbrev isLt (x : Int32) : Prop := ¬ x < 97 ∧ ¬ 122 < x
abbrev isDg (x : Int32) : Prop := ¬ x < 48 ∧ ¬ 57 < x
abbrev isBl (x : Int32) : Prop := x = 32 ∨ x = 10
def skp (f : Nat → Int32) (n : Nat) : Nat → Nat → Nat
  | 0, a => a
  | k + 1, a => if a < n ∧ isBl (f a) then skp f n k (a + 1) else a
def ren (lo hi : Int32) (f : Nat → Int32) (n : Nat) : Nat → Nat → Nat
  | 0, a => a
  | k + 1, a => if a < n ∧ (¬ f a < lo ∧ ¬ hi < f a) then ren lo hi f n k (a + 1) else a
def stt (f : Nat → Int32) (n a : Nat) : Nat := skp f n (n - a) a
def wen (f : Nat → Int32) (n s : Nat) : Nat := ren 97 122 f n (n - s) s
def den (f : Nat → Int32) (n s : Nat) : Nat := ren 48 57 f n (n - s) s
theorem skp_ge (f : Nat → Int32) (n k a : Nat) : a ≤ skp f n k a := by
  induction k generalizing a with
  | zero => exact Nat.le_refl _
  | succ k ih =>
    show _ ≤ (if _ then _ else _)
    split
    · exact Nat.le_trans (Nat.le_succ a) (ih (a + 1))
    · exact Nat.le_refl _
theorem skp_le (f : Nat → Int32) (n k a : Nat) (h : a ≤ n) : skp f n k a ≤ n := by
  induction k generalizing a with
  | zero => exact h
  | succ k ih =>
    show (if _ then _ else _) ≤ _
    split
    · next h9 => exact ih (a + 1) h9.1
    · exact h
theorem ren_ge (lo hi : Int32) (f : Nat → Int32) (n k a : Nat) : a ≤ ren lo hi f n k a := by
  induction k generalizing a with
  | zero => exact Nat.le_refl _
  | succ k ih =>
    show _ ≤ (if _ then _ else _)
    split
    · exact Nat.le_trans (Nat.le_succ a) (ih (a + 1))
    · exact Nat.le_refl _
theorem ren_le (lo hi : Int32) (f : Nat → Int32) (n k a : Nat) (h : a ≤ n) : ren lo hi f n k a ≤ n := by
  induction k generalizing a with
  | zero => exact h
  | succ k ih =>
    show (if _ then _ else _) ≤ _
    split
    · next h9 => exact ih (a + 1) h9.1
    · exact h
theorem ren_all (lo hi : Int32) (f : Nat → Int32) (n k a i : Nat) (h1 : a ≤ i) (h2 : i < ren lo hi f n k a) : ¬ f i < lo ∧ ¬ hi < f i := by
  induction k generalizing a with
  | zero => exact absurd h2 (by show ¬ i < a; omega)
  | succ k ih =>
    have h3 : i < (if a < n ∧ (¬ f a < lo ∧ ¬ hi < f a) then ren lo hi f n k (a + 1) else a) := h2
    split at h3
    · next h9 =>
      by_cases e : i = a
      · rw [e]; exact h9.2
      · exact ih (a + 1) (by omega) h3
    · omega
theorem stt_go {f : Nat → Int32} {n a : Nat} (h : a < n) (hb : isBl (f a)) : stt f n a = stt f n (a + 1) := by
  unfold stt
  rw [show n - a = (n - (a + 1)) + 1 by omega]
  show (if _ then _ else _) = _
  rw [if_pos ⟨h, hb⟩]
theorem stt_no {f : Nat → Int32} {n a : Nat} (h : n ≤ a ∨ ¬ isBl (f a)) : stt f n a = a := by
  unfold stt
  cases e : n - a with
  | zero => rfl
  | succ k =>
    show (if _ then _ else _) = _
    rw [if_neg (fun h9 => h.elim (fun h => absurd h9.1 (by omega)) (fun h => h h9.2))]
theorem wen_go {f : Nat → Int32} {n a : Nat} (h : a < n) (hb : isLt (f a)) : wen f n a = wen f n (a + 1) := by
  unfold wen
  rw [show n - a = (n - (a + 1)) + 1 by omega]
  show (if _ then _ else _) = _
  rw [if_pos ⟨h, hb⟩]
theorem wen_no {f : Nat → Int32} {n a : Nat} (h : n ≤ a ∨ ¬ isLt (f a)) : wen f n a = a := by
  unfold wen
  cases e : n - a with
  | zero => rfl
  | succ k =>
    show (if _ then _ else _) = _
    rw [if_neg (fun h9 => h.elim (fun h => absurd h9.1 (by omega)) (fun h => h h9.2))]
theorem den_go {f : Nat → Int32} {n a : Nat} (h : a < n) (hb : isDg (f a)) : den f n a = den f n (a + 1) := by
  unfold den
  rw [show n - a = (n - (a + 1)) + 1 by omega]
  show (if _ then _ else _) = _
  rw [if_pos ⟨h, hb⟩]
theorem den_no {f : Nat → Int32} {n a : Nat} (h : n ≤ a ∨ ¬ isDg (f a)) : den f n a = a := by
  unfold den
  cases e : n - a with
  | zero => rfl
  | succ k =>
    show (if _ then _ else _) = _
    rw [if_neg (fun h9 => h.elim (fun h => absurd h9.1 (by omega)) (fun h => h h9.2))]
theorem wen_lt {f : Nat → Int32} {n a : Nat} (h : a < n) (hb : isLt (f a)) : a < wen f n a := by
  rw [wen_go h hb]; exact ren_ge _ _ _ _ _ _
theorem den_lt {f : Nat → Int32} {n a : Nat} (h : a < n) (hb : isDg (f a)) : a < den f n a := by
  rw [den_go h hb]; exact ren_ge _ _ _ _ _ _
/-- a word as a number, as the one and as the other holds it, and a number -/
def c27 (f : Nat → Int32) (s : Nat) : Nat → Int64
  | 0 => 0
  | k + 1 => c27 f s k * 27 + (f (s + k) - 96).toInt64
def c56 (f : Nat → Int32) (s : Nat) : Nat → Int64
  | 0 => 0
  | k + 1 => (c56 f s k <<< ((8 : Int32).toInt64 &&& 63)) ||| (f (s + k)).toInt64
def dec10 (f : Nat → Int32) (s : Nat) : Nat → Int32
  | 0 => 0
  | k + 1 => dec10 f s k * 10 + (f (s + k) - 48)
def dB (b : Nat) (g : Nat → Nat) : Nat → Nat
  | 0 => 0
  | k + 1 => dB b g k * b + g k
theorem dB_lt {b : Nat} {g : Nat → Nat} {m : Nat} (h : ∀ i, i < m → g i < b) : dB b g m < b ^ m := by
  induction m with
  | zero => exact Nat.one_pos
  | succ m ih =>
    have h1 := ih (fun i hi => h i (by omega))
    have h2 := h m (by omega)
    show dB b g m * b + g m < b ^ (m + 1)
    rw [Nat.pow_succ]
    have h3 : dB b g m + 1 ≤ b ^ m := h1
    have h4 : (dB b g m + 1) * b ≤ b ^ m * b := Nat.mul_le_mul_right b h3
    rw [Nat.add_mul, Nat.one_mul] at h4
    omega
theorem dB_pos {b : Nat} {g : Nat → Nat} {m : Nat} (h : ∀ i, i < m + 1 → 0 < g i) : 0 < dB b g (m + 1) := by
  show 0 < dB b g m * b + g m
  have := h m (by omega)
  omega
theorem dB_inj {b : Nat} {g g' : Nat → Nat} (m : Nat) : ∀ m' : Nat, (∀ i, i < m → 0 < g i ∧ g i < b) → (∀ i, i < m' → 0 < g' i ∧ g' i < b) → dB b g m = dB b g' m' → m = m' ∧ ∀ i, i < m → g i = g' i := by
  induction m with
  | zero =>
    intro m' h1 h2 h
    cases m' with
    | zero => exact ⟨rfl, fun i hi => absurd hi (Nat.not_lt_zero i)⟩
    | succ m' =>
      have h9 := dB_pos (b := b) (fun i hi => (h2 i hi).1)
      rw [← h] at h9
      exact absurd h9 (Nat.lt_irrefl 0)
  | succ m ih =>
    intro m' h1 h2 h
    cases m' with
    | zero =>
      have h9 := dB_pos (b := b) (fun i hi => (h1 i hi).1)
      rw [h] at h9
      exact absurd h9 (Nat.lt_irrefl 0)
    | succ m' =>
      have h3 : dB b g m * b + g m = dB b g' m' * b + g' m' := h
      have h4 := h1 m (by omega)
      have h5 := h2 m' (by omega)
      have h6 : g m = g' m' := by
        have e1 := congrArg (· % b) h3
        simp only [Nat.mul_add_mod_self_right] at e1
        rwa [Nat.mod_eq_of_lt h4.2, Nat.mod_eq_of_lt h5.2] at e1
      have h7 : dB b g m = dB b g' m' := by
        have e2 : dB b g m * b = dB b g' m' * b := by omega
        exact Nat.eq_of_mul_eq_mul_right (by omega) e2
      obtain ⟨e3, e4⟩ := ih m' (fun i hi => h1 i (by omega)) (fun i hi => h2 i (by omega)) h7
      subst e3
      refine ⟨rfl, fun i hi => ?_⟩
      by_cases e : i = m
      · rw [e]; exact h6
      · exact e4 i (by omega)
theorem dB_cong {b : Nat} {g g' : Nat → Nat} {m : Nat} (h : ∀ i, i < m → g i = g' i) : dB b g m = dB b g' m := by
  induction m with
  | zero => rfl
  | succ m ih =>
    show dB b g m * b + g m = dB b g' m * b + g' m
    rw [ih (fun i hi => h i (by omega)), h m (by omega)]
theorem lt_nat {x : Int32} (h : isLt x) : ∃ v : Nat, 97 ≤ v ∧ v ≤ 122 ∧ x = nI v := by
  obtain ⟨h1, h2⟩ := h
  rw [fa_lt] at h1 h2
  have z1 : (97 : Int32).toInt = 97 := by decide
  have z2 : (122 : Int32).toInt = 122 := by decide
  have z0 : (0 : Int32).toInt = 0 := by decide
  obtain ⟨j, hj, e⟩ := nI_of (x := x) (by rw [fa_lt]; omega)
  have := nI_toInt hj
  rw [e] at h1 h2
  exact ⟨j, by omega, by omega, e⟩
theorem dg_nat {x : Int32} (h : isDg x) : ∃ v : Nat, 48 ≤ v ∧ v ≤ 57 ∧ x = nI v := by
  obtain ⟨h1, h2⟩ := h
  rw [fa_lt] at h1 h2
  have z1 : (48 : Int32).toInt = 48 := by decide
  have z2 : (57 : Int32).toInt = 57 := by decide
  have z0 : (0 : Int32).toInt = 0 := by decide
  obtain ⟨j, hj, e⟩ := nI_of (x := x) (by rw [fa_lt]; omega)
  have := nI_toInt hj
  rw [e] at h1 h2
  exact ⟨j, by omega, by omega, e⟩
/-- what a letter is worth -/
def lv1 (f : Nat → Int32) (s i : Nat) : Nat := (f (s + i)).toNatClampNeg - 96
def lv2 (f : Nat → Int32) (s i : Nat) : Nat := (f (s + i)).toNatClampNeg
def lts (f : Nat → Int32) (s m : Nat) : Prop := ∀ i, i < m → isLt (f (s + i))
theorem lv_eq {f : Nat → Int32} {s i : Nat} (h : isLt (f (s + i))) : f (s + i) = nI (lv2 f s i) ∧ 97 ≤ lv2 f s i ∧ lv2 f s i ≤ 122 := by
  obtain ⟨v, h1, h2, e⟩ := lt_nat h
  have e2 : lv2 f s i = v := by unfold lv2; rw [e, nI_clamp (by omega)]
  rw [e2]; exact ⟨e, h1, h2⟩
theorem lv_1 {f : Nat → Int32} {s i : Nat} : lv1 f s i = lv2 f s i - 96 := rfl
theorem c27_nat {f : Nat → Int32} {s m : Nat} (h : lts f s m) : c27 f s m = lN (dB 27 (lv1 f s) m) := by
  induction m with
  | zero => rfl
  | succ m ih =>
    obtain ⟨e, h1, h2⟩ := lv_eq (h m (by omega))
    show c27 f s m * 27 + (f (s + m) - 96).toInt64 = lN (dB 27 (lv1 f s) m * 27 + lv1 f s m)
    rw [ih (fun i hi => h i (by omega)), e, show (96 : Int32) = nI 96 from rfl, pk_sub (by omega), nI_l (by omega), ← lv_1]
    show Int64.ofNat _ * Int64.ofNat 27 + Int64.ofNat _ = Int64.ofNat _
    rw [← Int64.ofNat_mul, ← Int64.ofNat_add]
theorem shl8 {x y : Nat} (hx : x < 2 ^ 55) (hy : y < 256) : (lN x <<< ((8 : Int32).toInt64 &&& 63)) ||| lN y = lN (x * 256 + y) := by
  have e8 : ((8 : Int32).toInt64 &&& 63) = (8 : Int64) := by decide
  rw [e8]
  apply Int64.toBitVec_inj.mp
  apply BitVec.eq_of_toNat_eq
  rw [Int64.toBitVec_or, BitVec.toNat_or, Int64.toBitVec_shiftLeft]
  have e9 : ((8 : Int64).toBitVec.smod 64) = (8 : BitVec 64) := by decide
  rw [e9]
  have t1 : (lN x).toBitVec.toNat = x := by
    show (BitVec.ofNat 64 x).toNat = x
    rw [BitVec.toNat_ofNat]; omega
  have t2 : (lN y).toBitVec.toNat = y := by
    show (BitVec.ofNat 64 y).toNat = y
    rw [BitVec.toNat_ofNat]; omega
  have t3 : (lN (x * 256 + y)).toBitVec.toNat = x * 256 + y := by
    show (BitVec.ofNat 64 _).toNat = _
    rw [BitVec.toNat_ofNat]; omega
  rw [t3, t2]
  have e10 : ((lN x).toBitVec <<< (8 : BitVec 64)).toNat = x <<< 8 := by
    show ((lN x).toBitVec <<< 8).toNat = _
    rw [BitVec.toNat_shiftLeft, t1, Nat.shiftLeft_eq]; omega
  rw [e10, ← Nat.shiftLeft_add_eq_or_of_lt (i := 8) (by omega), Nat.shiftLeft_eq]
theorem c56_nat {f : Nat → Int32} {s m : Nat} (hm : m ≤ 8) (h : lts f s m) : c56 f s m = lN (dB 256 (lv2 f s) m) := by
  induction m with
  | zero => rfl
  | succ m ih =>
    obtain ⟨e, h1, h2⟩ := lv_eq (h m (by omega))
    show (c56 f s m <<< ((8 : Int32).toInt64 &&& 63)) ||| (f (s + m)).toInt64 = lN (dB 256 (lv2 f s) m * 256 + lv2 f s m)
    have hb : dB 256 (lv2 f s) m < 2 ^ 55 ∨ m = 7 := by
      rcases Nat.lt_or_ge m 7 with h7 | h7
      · left
        have := dB_lt (b := 256) (g := lv2 f s) (m := m) (fun i hi => by have := (lv_eq (h i (by omega))).2; omega)
        have h9 : 256 ^ m ≤ 256 ^ 6 := Nat.pow_le_pow_right (by decide) (by omega)
        have h10 : (256 : Nat) ^ 6 < 2 ^ 55 := by decide
        omega
      · right; omega
    have hb2 : dB 256 (lv2 f s) m < 2 ^ 55 := by
      rcases hb with hb | hb
      · exact hb
      · subst hb
        have h6 := (lv_eq (h 0 (by omega))).2
        have hd : ∀ k, k ≤ 7 → dB 256 (lv2 f s) k ≤ 122 * ((256 ^ k - 1) / 255) := by
          intro k
          induction k with
          | zero => intro _; exact Nat.zero_le _
          | succ k ihk =>
            intro hk
            have q1 := ihk (by omega)
            have q2 := (lv_eq (h k (by omega))).2
            show dB 256 (lv2 f s) k * 256 + lv2 f s k ≤ _
            rcases (show k = 0 ∨ k = 1 ∨ k = 2 ∨ k = 3 ∨ k = 4 ∨ k = 5 ∨ k = 6 by omega) with e | e | e | e | e | e | e <;> subst e <;> simp at q1 ⊢ <;> omega
        have := hd 7 (by omega)
        simp at this
        omega
    rw [ih (by omega) (fun i hi => h i (by omega)), e, nI_l (by omega)]
    exact shl8 hb2 (by omega)
theorem dB27_63 {f : Nat → Int32} {s m : Nat} (hm : m ≤ 8) (h : lts f s m) : dB 27 (lv1 f s) m < 2 ^ 63 := by
  have h1 := dB_lt (b := 27) (g := lv1 f s) (m := m) (fun i hi => by have := (lv_eq (h i hi)).2; rw [lv_1]; omega)
  have h9 : 27 ^ m ≤ 27 ^ 8 := Nat.pow_le_pow_right (by decide) hm
  have h10 : (27 : Nat) ^ 8 < 2 ^ 63 := by decide
  omega
theorem dB56_63 {f : Nat → Int32} {s m : Nat} (hm : m ≤ 8) (h : lts f s m) : dB 256 (lv2 f s) m < 2 ^ 63 := by
  cases m with
  | zero => show 0 < 2 ^ 63; decide
  | succ m =>
    have hd : ∀ k, k ≤ m + 1 → dB 256 (lv2 f s) k ≤ 122 * ((256 ^ k - 1) / 255) := by
      intro k
      induction k with
      | zero => intro _; exact Nat.zero_le _
      | succ k ihk =>
        intro hk
        have q1 := ihk (by omega)
        have q2 := (lv_eq (h k (by omega))).2
        show dB 256 (lv2 f s) k * 256 + lv2 f s k ≤ _
        rcases (show k = 0 ∨ k = 1 ∨ k = 2 ∨ k = 3 ∨ k = 4 ∨ k = 5 ∨ k = 6 ∨ k = 7 by omega) with e | e | e | e | e | e | e | e <;> subst e <;> simp at q1 ⊢ <;> omega
    have h8 := hd (m + 1) (Nat.le_refl _)
    have h9 : 122 * ((256 ^ (m + 1) - 1) / 255) ≤ 122 * ((256 ^ 8 - 1) / 255) := Nat.mul_le_mul_left _ (Nat.div_le_div_right (Nat.sub_le_sub_right (Nat.pow_le_pow_right (by decide) hm) 1))
    have h10 : 122 * ((256 ^ 8 - 1) / 255) < 2 ^ 63 := by decide
    omega
def sameL (f : Nat → Int32) (s m : Nat) (f' : Nat → Int32) (s' m' : Nat) : Prop := m = m' ∧ ∀ i, i < m → f (s + i) = f' (s' + i)
theorem c27_same {f f' : Nat → Int32} {s s' m m' : Nat} (hm : m ≤ 8) (hm' : m' ≤ 8) (h : lts f s m) (h' : lts f' s' m') : c27 f s m = c27 f' s' m' ↔ sameL f s m f' s' m' := by
  rw [c27_nat h, c27_nat h', pk_lEQ (dB27_63 hm h) (dB27_63 hm' h')]
  constructor
  · intro e
    obtain ⟨e1, e2⟩ := dB_inj m m' (fun i hi => by have := (lv_eq (h i hi)).2; rw [lv_1]; omega) (fun i hi => by have := (lv_eq (h' i hi)).2; rw [lv_1]; omega) e
    refine ⟨e1, fun i hi => ?_⟩
    have h3 := e2 i hi
    rw [lv_1, lv_1] at h3
    have q := lv_eq (h i hi)
    have q' := lv_eq (h' i (by omega))
    rw [q.1, q'.1]
    exact congrArg nI (by omega)
  · intro e
    obtain ⟨e1, e2⟩ := e
    subst e1
    exact dB_cong (fun i hi => by unfold lv1; rw [e2 i hi])
theorem c56_same {f f' : Nat → Int32} {s s' m m' : Nat} (hm : m ≤ 8) (hm' : m' ≤ 8) (h : lts f s m) (h' : lts f' s' m') : c56 f s m = c56 f' s' m' ↔ sameL f s m f' s' m' := by
  rw [c56_nat hm h, c56_nat hm' h', pk_lEQ (dB56_63 hm h) (dB56_63 hm' h')]
  constructor
  · intro e
    obtain ⟨e1, e2⟩ := dB_inj m m' (fun i hi => by have := (lv_eq (h i hi)).2; omega) (fun i hi => by have := (lv_eq (h' i hi)).2; omega) e
    refine ⟨e1, fun i hi => ?_⟩
    have h3 := e2 i hi
    have q := lv_eq (h i hi)
    have q' := lv_eq (h' i (by omega))
    rw [q.1, q'.1, h3]
  · intro e
    obtain ⟨e1, e2⟩ := e
    subst e1
    exact dB_cong (fun i hi => by unfold lv2; rw [e2 i hi])
theorem c27_c56 {f f' : Nat → Int32} {s s' m m' : Nat} (hm : m ≤ 8) (hm' : m' ≤ 8) (h : lts f s m) (h' : lts f' s' m') : c27 f s m = c27 f' s' m' ↔ c56 f s m = c56 f' s' m' :=
  (c27_same hm hm' h h').trans (c56_same hm hm' h h').symm
theorem dec10_nat {f : Nat → Int32} {s m : Nat} (hm : m ≤ 4) (h : ∀ i, i < m → isDg (f (s + i))) : ∃ j : Nat, j < 10 ^ m ∧ dec10 f s m = nI j := by
  induction m with
  | zero => exact ⟨0, by decide, rfl⟩
  | succ m ih =>
    obtain ⟨j, hj, e⟩ := ih (by omega) (fun i hi => h i (by omega))
    obtain ⟨v, h1, h2, ev⟩ := dg_nat (h m (by omega))
    refine ⟨j * 10 + (v - 48), ?_, ?_⟩
    · rw [Nat.pow_succ]; omega
    · show dec10 f s m * 10 + (f (s + m) - 48) = _
      rw [e, ev, show (10 : Int32) = nI 10 from rfl, show (48 : Int32) = nI 48 from rfl, pk_mul, pk_sub h1, nI_add]
/-! the keys, the signs, and a TOKEN's kind, end, name and number -/
def kBf (i : Nat) : Int32 := kB.getD i 0
def kOff : List Nat := [0, 5, 11, 15, 21, 24, 29, 34, 39, 44, 49, 52, 58, 62, 65, 68, 72, 76, 80, 86, 91, 96, 101, 108]
def kLen : List Nat := [4, 5, 3, 5, 2, 4, 4, 4, 4, 4, 2, 5, 3, 2, 2, 3, 3, 3, 5, 4, 4, 4, 6, 6]
def kyC (k : Nat) : Int64 := c27 kBf (kOff.getD k 0) (kLen.getD k 0)
def owC (k : Nat) : Int64 := c56 kBf (kOff.getD k 0) (kLen.getD k 0)
theorem kB_lts : ∀ k, k < 24 → (∀ i, i < kLen.getD k 0 → isLt (kBf (kOff.getD k 0 + i))) ∧ kLen.getD k 0 ≤ 8 := by
  intro k hk
  have h : (List.range 24).all (fun k => (List.range (kLen.getD k 0)).all (fun i => decide (isLt (kBf (kOff.getD k 0 + i)))) && decide (kLen.getD k 0 ≤ 8)) = true := by decide +kernel
  have h1 := List.all_eq_true.mp h k (List.mem_range.mpr hk)
  rw [Bool.and_eq_true] at h1
  refine ⟨fun i hi => ?_, of_decide_eq_true h1.2⟩
  exact of_decide_eq_true (List.all_eq_true.mp h1.1 i (List.mem_range.mpr hi))
theorem kyC_inj : ∀ j k, j < 24 → k < 24 → kyC j = kyC k → j = k := by
  intro j k hj hk e
  have h : (List.range 24).all (fun j => (List.range 24).all (fun k => decide (kyC j = kyC k → j = k))) = true := by decide +kernel
  exact of_decide_eq_true (List.all_eq_true.mp (List.all_eq_true.mp h j (List.mem_range.mpr hj)) k (List.mem_range.mpr hk)) e
/-- the first key from k on, of j, that a word is -/
def kofF (ky : Nat → Int64) (c : Int64) : Nat → Nat → Nat
  | 0, _ => 1
  | j + 1, k => if ky k = c then 100 + k else kofF ky c j (k + 1)
def kof (c : Int64) : Nat := kofF kyC c 24 0
theorem kofF_in (ky : Nat → Int64) (c : Int64) (j k : Nat) : (kofF ky c j k = 1 ∧ ∀ i, k ≤ i → i < k + j → ¬ ky i = c) ∨ ∃ i, k ≤ i ∧ i < k + j ∧ ky i = c ∧ kofF ky c j k = 100 + i := by
  induction j generalizing k with
  | zero => exact Or.inl ⟨rfl, fun i h1 h2 => by omega⟩
  | succ j ih =>
    by_cases h : ky k = c
    · exact Or.inr ⟨k, Nat.le_refl _, by omega, h, if_pos h⟩
    · have e : kofF ky c (j + 1) k = kofF ky c j (k + 1) := if_neg h
      rw [e]
      rcases ih (k + 1) with ⟨h1, h2⟩ | ⟨i, h1, h2, h3, h4⟩
      · refine Or.inl ⟨h1, fun i h3 h4 => ?_⟩
        by_cases q : i = k
        · rw [q]; exact h
        · exact h2 i (by omega) (by omega)
      · exact Or.inr ⟨i, by omega, by omega, h3, h4⟩
theorem kof_key {c : Int64} {k : Nat} (hk : k < 24) : kof c = 100 + k ↔ c = kyC k := by
  unfold kof
  rcases kofF_in kyC c 24 0 with ⟨h1, h2⟩ | ⟨i, h1, h2, h3, h4⟩
  · rw [h1]
    exact ⟨fun h => by omega, fun h => absurd h.symm (h2 k (Nat.zero_le _) (by omega))⟩
  · rw [h4]
    constructor
    · intro h
      have : i = k := by omega
      rw [← this]; exact h3.symm
    · intro h
      have := kyC_inj i k (by omega) hk (h3.trans h)
      omega
theorem kof_or (c : Int64) : kof c = 1 ∨ (100 ≤ kof c ∧ kof c ≤ 123) := by
  unfold kof
  rcases kofF_in kyC c 24 0 with ⟨h1, h2⟩ | ⟨i, h1, h2, h3, h4⟩
  · exact Or.inl h1
  · exact Or.inr (by omega)
def sgK (b : Nat) : Nat := if b = 59 ∨ b = 40 ∨ b = 41 ∨ b = 60 ∨ b = 62 ∨ b = 61 ∨ b = 43 ∨ b = 45 ∨ b = 42 ∨ b = 47 ∨ b = 37 then b else 3
def byU (x : Int32) : Nat := (x &&& 255).toNatClampNeg
def kndS (f : Nat → Int32) (n s : Nat) : Nat :=
  if n ≤ s then 0 else if isLt (f s) then (if 8 < wen f n s - s then 3 else kof (c27 f s (wen f n s - s))) else if isDg (f s) then (if 4 < den f n s - s ∨ (den f n s < n ∧ isLt (f (den f n s))) then 3 else 2) else sgK (byU (f s))
def finS (f : Nat → Int32) (n s : Nat) : Nat :=
  if n ≤ s then s else if isLt (f s) then wen f n s else if isDg (f s) then den f n s else s + 1
def knd (f : Nat → Int32) (n a : Nat) : Nat := kndS f n (stt f n a)
def fin (f : Nat → Int32) (n a : Nat) : Nat := finS f n (stt f n a)
def nam (f : Nat → Int32) (n a : Nat) : Int64 := c27 f (stt f n a) (wen f n (stt f n a) - stt f n a)
def wrd (f : Nat → Int32) (n a : Nat) : Int64 := c56 f (stt f n a) (wen f n (stt f n a) - stt f n a)
def num (f : Nat → Int32) (n a : Nat) : Nat := (dec10 f (stt f n a) (den f n (stt f n a) - stt f n a)).toNatClampNeg
theorem sgK_or (b : Nat) : sgK b = 3 ∨ (37 ≤ sgK b ∧ sgK b ≤ 62) := by
  unfold sgK
  split
  · next h => exact Or.inr (by omega)
  · exact Or.inl rfl
theorem knd_cases (f : Nat → Int32) (n a : Nat) : (knd f n a = 0 ∧ n ≤ stt f n a ∧ fin f n a = stt f n a) ∨ (stt f n a < n ∧ isLt (f (stt f n a)) ∧ fin f n a = wen f n (stt f n a) ∧ ((knd f n a = 3 ∧ 8 < wen f n (stt f n a) - stt f n a) ∨ (wen f n (stt f n a) - stt f n a ≤ 8 ∧ knd f n a = kof (nam f n a)))) ∨ (stt f n a < n ∧ ¬ isLt (f (stt f n a)) ∧ isDg (f (stt f n a)) ∧ fin f n a = den f n (stt f n a) ∧ (knd f n a = 3 ∨ (knd f n a = 2 ∧ den f n (stt f n a) - stt f n a ≤ 4))) ∨ (stt f n a < n ∧ ¬ isLt (f (stt f n a)) ∧ ¬ isDg (f (stt f n a)) ∧ fin f n a = stt f n a + 1 ∧ knd f n a = sgK (byU (f (stt f n a)))) := by
  unfold knd kndS fin finS nam
  generalize stt f n a = s
  by_cases h1 : n ≤ s
  · rw [if_pos h1, if_pos h1]; exact Or.inl ⟨rfl, h1, rfl⟩
  · rw [if_neg h1, if_neg h1]
    by_cases h2 : isLt (f s)
    · rw [if_pos h2, if_pos h2]
      refine Or.inr (Or.inl ⟨by omega, h2, rfl, ?_⟩)
      by_cases h3 : 8 < wen f n s - s
      · rw [if_pos h3]; exact Or.inl ⟨rfl, h3⟩
      · rw [if_neg h3]; exact Or.inr ⟨by omega, rfl⟩
    · rw [if_neg h2, if_neg h2]
      by_cases h3 : isDg (f s)
      · rw [if_pos h3, if_pos h3]
        refine Or.inr (Or.inr (Or.inl ⟨by omega, h2, h3, rfl, ?_⟩))
        split
        · exact Or.inl rfl
        · next h4 => exact Or.inr ⟨rfl, by omega⟩
      · rw [if_neg h3, if_neg h3]
        exact Or.inr (Or.inr (Or.inr ⟨by omega, h2, h3, rfl, rfl⟩))
theorem stt_ge (f : Nat → Int32) (n a : Nat) : a ≤ stt f n a := skp_ge _ _ _ _
theorem stt_le {f : Nat → Int32} {n a : Nat} (h : a ≤ n) : stt f n a ≤ n := skp_le _ _ _ _ h
theorem fin_le {f : Nat → Int32} {n a : Nat} (h : a ≤ n) : fin f n a ≤ n := by
  have h1 := stt_le (f := f) h
  rcases knd_cases f n a with ⟨_, _, e⟩ | ⟨h2, _, e, _⟩ | ⟨h2, _, _, e, _⟩ | ⟨h2, _, _, e, _⟩
  · omega
  · rw [e]; exact ren_le _ _ _ _ _ _ h1
  · rw [e]; exact ren_le _ _ _ _ _ _ h1
  · omega
theorem fin_ge (f : Nat → Int32) (n a : Nat) : a ≤ fin f n a := by
  have h1 := stt_ge f n a
  rcases knd_cases f n a with ⟨_, _, e⟩ | ⟨h2, h3, e, _⟩ | ⟨h2, _, h3, e, _⟩ | ⟨h2, _, _, e, _⟩
  · omega
  · have := wen_lt h2 h3; omega
  · have := den_lt h2 h3; omega
  · omega
theorem fin_gt {f : Nat → Int32} {n a : Nat} (h : ¬ knd f n a = 0) : a < fin f n a := by
  have h1 := stt_ge f n a
  rcases knd_cases f n a with ⟨h9, _, e⟩ | ⟨h2, h3, e, _⟩ | ⟨h2, _, h3, e, _⟩ | ⟨h2, _, _, e, _⟩
  · exact absurd h9 h
  · have := wen_lt h2 h3; omega
  · have := den_lt h2 h3; omega
  · omega
theorem knd_le (f : Nat → Int32) (n a : Nat) : knd f n a ≤ 123 := by
  rcases knd_cases f n a with ⟨h9, _, e⟩ | ⟨h2, h3, e, h4 | ⟨_, h4⟩⟩ | ⟨h2, _, h3, e, h4 | h4⟩ | ⟨h2, _, _, e, h4⟩
  · omega
  · omega
  · rcases kof_or (nam f n a) with h | h <;> omega
  · omega
  · omega
  · rcases sgK_or (byU (f (stt f n a))) with h | h <;> omega
/-- a TOKEN that is a word of at most eight letters -/
theorem word_lts {f : Nat → Int32} {n a : Nat} (h : knd f n a = 1 ∨ 100 ≤ knd f n a) : lts f (stt f n a) (wen f n (stt f n a) - stt f n a) ∧ wen f n (stt f n a) - stt f n a ≤ 8 ∧ knd f n a = kof (nam f n a) := by
  rcases knd_cases f n a with ⟨h9, _, e⟩ | ⟨h2, h3, e, h4 | ⟨h5, h4⟩⟩ | ⟨h2, _, h3, e, h4 | h4⟩ | ⟨h2, _, _, e, h4⟩
  · omega
  · omega
  · exact ⟨fun i hi => ren_all _ _ _ _ _ _ _ (by omega) (show stt f n a + i < wen f n (stt f n a) by omega), h5, h4⟩
  · omega
  · omega
  · rcases sgK_or (byU (f (stt f n a))) with h | h <;> omega
theorem nam_wrd {f : Nat → Int32} {n a b : Nat} (ha : knd f n a = 1 ∨ 100 ≤ knd f n a) (hb : knd f n b = 1 ∨ 100 ≤ knd f n b) : nam f n a = nam f n b ↔ wrd f n a = wrd f n b := by
  obtain ⟨h1, h2, _⟩ := word_lts ha
  obtain ⟨h3, h4, _⟩ := word_lts hb
  exact c27_c56 h2 h4 h1 h3
theorem own_wrd {f : Nat → Int32} {n a k : Nat} (hk : k < 24) (ha : knd f n a = 1 ∨ 100 ≤ knd f n a) : knd f n a = 100 + k ↔ wrd f n a = owC k := by
  obtain ⟨h1, h2, h3⟩ := word_lts ha
  obtain ⟨h4, h5⟩ := kB_lts k hk
  rw [h3, kof_key hk]
  exact c27_c56 h2 h5 h1 h4
theorem num_le {f : Nat → Int32} {n a : Nat} (h : knd f n a = 2) : num f n a ≤ 9999 ∧ dec10 f (stt f n a) (den f n (stt f n a) - stt f n a) = nI (num f n a) := by
  rcases knd_cases f n a with ⟨h9, _, e⟩ | ⟨h2, h3, e, h4 | ⟨h5, h4⟩⟩ | ⟨h2, _, h3, e, h4 | ⟨_, h4⟩⟩ | ⟨h2, _, _, e, h4⟩
  · omega
  · omega
  · rcases kof_or (nam f n a) with h | h <;> omega
  · omega
  · obtain ⟨j, hj, e⟩ := dec10_nat (f := f) (s := stt f n a) h4 (fun i hi => ren_all _ _ _ _ _ _ _ (by omega) (show stt f n a + i < den f n (stt f n a) by omega))
    have h9 : 10 ^ (den f n (stt f n a) - stt f n a) ≤ 10 ^ 4 := Nat.pow_le_pow_right (by decide) h4
    unfold num
    rw [e, nI_clamp (by omega)]
    exact ⟨by omega, rfl⟩
  · rcases sgK_or (byU (f (stt f n a))) with h | h <;> omega
/-- what both hold of the TOKEN at the place a -/
def tkC (f : Nat → Int32) (n a ta ts tk : Nat) (tm : Int64) (tr : Int32) : Prop := ts = stt f n a ∧ ta = fin f n a ∧ tk = knd f n a ∧ (tk = 1 → tm = nam f n a) ∧ (tk = 2 → tr = nI (num f n a))
def srt (k : Nat) : Nat := if 100 ≤ k then 1 else k
def tkR (f : Nat → Int32) (n a : Nat) (at9 : Nat) (so pl nu : Int32) (wo : Int64) : Prop := pl = nI (stt f n a) ∧ so = nI (srt (knd f n a)) ∧ (¬ knd f n a = 3 → at9 = fin f n a) ∧ (so = 1 → wo = wrd f n a) ∧ (so = 2 → nu = nI (num f n a))
/-- a FAULT, of the code co, at the TOKEN at the place a -/
def flt (f : Nat → Int32) (n a co : Nat) (fq pq : Int32) : Prop := fq = nI (if knd f n a = 3 then 1 else co) ∧ pq = nI (stt f n a)
/-- bytes as the one and as the other holds them -/
def byR (x y : Int32) : Prop := (x.toInt = y.toInt ∧ 0 ≤ y.toInt ∧ y.toInt < 128) ∨ (x.toInt + 256 = y.toInt ∧ 128 ≤ y.toInt ∧ y.toInt < 256)
def tpR (f g : Nat → Int32) (n : Nat) : Prop := ∀ i, i < n → byR (f i) (g i)
theorem byR_iff {x y : Int32} (h : byR x y) : (isLt x ↔ isLt y) ∧ (isDg x ↔ isDg y) ∧ (isBl x ↔ isBl y) := by
  have z1 : (97 : Int32).toInt = 97 := by decide
  have z2 : (122 : Int32).toInt = 122 := by decide
  have z3 : (48 : Int32).toInt = 48 := by decide
  have z4 : (57 : Int32).toInt = 57 := by decide
  have z5 : (32 : Int32).toInt = 32 := by decide
  have z6 : (10 : Int32).toInt = 10 := by decide
  unfold isLt isDg isBl
  rw [fa_lt, fa_lt, fa_lt, fa_lt, fa_lt, fa_lt, fa_lt, fa_lt, fa_eq, fa_eq, fa_eq, fa_eq, z1, z2, z3, z4, z5, z6]
  unfold byR at h
  omega
theorem byR_eq {x y : Int32} (h : byR x y) (hl : isLt x ∨ isDg x) : x = y := by
  have z1 : (97 : Int32).toInt = 97 := by decide
  have z3 : (48 : Int32).toInt = 48 := by decide
  unfold isLt isDg at hl
  rw [fa_lt, fa_lt, fa_lt, fa_lt, z1, z3] at hl
  rw [fa_eq]
  unfold byR at h
  omega
def kyOK (fky : Nat → Int64) : Prop := ∀ k, k < 24 → fky k = kyC k
theorem kof_go {fky : Nat → Int64} {lc z : Int64} {i : Nat} {v : Int32} (hi : i < 24) (h : kofF kyC lc (24 - i) i = kof lc) (hk : kyOK fky) (ez : z = fky (nI i).toNatClampNeg) (ev : v = 0 ↔ z = lc) (hv : ¬ v = 0) : kofF kyC lc (24 - (i + 1)) (i + 1) = kof lc := by
  rw [nI_clamp (by omega), hk i hi] at ez
  rw [show 24 - i = (24 - (i + 1)) + 1 by omega] at h
  rw [← h]
  show _ = (if _ then _ else _)
  rw [if_neg (fun h9 => hv (ev.mpr (ez.trans h9)))]
theorem kof_hit {fky : Nat → Int64} {lc z : Int64} {i : Nat} {v : Int32} (hi : i < 24) (h : kofF kyC lc (24 - i) i = kof lc) (hk : kyOK fky) (ez : z = fky (nI i).toNatClampNeg) (ev : v = 0 ↔ z = lc) (hv : v = 0) : 100 + i = kof lc := by
  rw [nI_clamp (by omega), hk i hi] at ez
  rw [show 24 - i = (24 - (i + 1)) + 1 by omega] at h
  rw [← h]
  show _ = (if _ then _ else _)
  rw [if_pos (ez.symm.trans (ev.mp hv))]
theorem kof_end {lc : Int64} {i : Nat} (hi : 24 ≤ i) (h : kofF kyC lc (24 - i) i = kof lc) : 1 = kof lc := by
  rw [show 24 - i = 0 by omega] at h
  exact h
theorem c27_go {f : Nat → Int32} {s a : Nat} {x : Int64} (h : s ≤ a) (hx : x = c27 f s (a - s)) : x * 27 + (f a - 96).toInt64 = c27 f s (a + 1 - s) := by
  rw [show a + 1 - s = (a - s) + 1 by omega, hx]
  show _ = c27 f s (a - s) * 27 + (f (s + (a - s)) - 96).toInt64
  rw [show s + (a - s) = a by omega]
theorem dec_go {f : Nat → Int32} {s a : Nat} {x : Int32} (h : s ≤ a) (hx : x = dec10 f s (a - s)) : x * 10 + (f a - 48) = dec10 f s (a + 1 - s) := by
  rw [show a + 1 - s = (a - s) + 1 by omega, hx]
  show _ = dec10 f s (a - s) * 10 + (f (s + (a - s)) - 48)
  rw [show s + (a - s) = a by omega]
theorem byU_of (x : Int32) : ∃ j : Nat, j < 256 ∧ (x &&& 255 = nI j ∧ byU x = j) := by
  obtain ⟨j, hj, e⟩ := pk_andE x (m := 255) 8 (by decide)
  exact ⟨j, hj, e, by unfold byU; rw [e, nI_clamp (by have : (2 : Nat) ^ 8 = 256 := rfl; omega)]⟩
theorem not_and_right {p q : Prop} (h : ¬ (p ∧ q)) (hp : p) : ¬ q := fun hq => h ⟨hp, hq⟩
theorem tk_end {f : Nat → Int32} {n a s : Nat} {tm : Int64} {tr : Int32} (hs : stt f n a = s) (h : n ≤ s) : tkC f n a s s 0 tm tr := by
  refine ⟨hs.symm, ?_, ?_, fun h9 => absurd h9 (by decide), fun h9 => absurd h9 (by decide)⟩
  · unfold fin finS; rw [hs, if_pos h]
  · unfold knd kndS; rw [hs, if_pos h]
theorem tk_long {f : Nat → Int32} {n a s ta : Nat} {tm : Int64} {tr : Int32} (hs : stt f n a = s) (hl : s < n ∧ isLt (f s)) (ht : ta = wen f n s) (h8 : 8 < ta - s) : tkC f n a ta s 3 tm tr := by
  refine ⟨hs.symm, ?_, ?_, fun h9 => absurd h9 (by decide), fun h9 => absurd h9 (by decide)⟩
  · unfold fin finS; rw [hs, if_neg (by omega), if_pos hl.2, ht]
  · unfold knd kndS; rw [hs, if_neg (by omega), if_pos hl.2, ← ht, if_pos h8]
theorem tk_word {f : Nat → Int32} {n a s ta tk : Nat} {tm : Int64} {tr : Int32} (hs : stt f n a = s) (hl : s < n ∧ isLt (f s)) (ht : ta = wen f n s) (hm : tm = c27 f s (ta - s)) (hk : tk = kof tm) (h8 : ta - s ≤ 8) : tkC f n a ta s tk tm tr := by
  refine ⟨hs.symm, ?_, ?_, fun h9 => ?_, fun h9 => ?_⟩
  · unfold fin finS; rw [hs, if_neg (by omega), if_pos hl.2, ht]
  · unfold knd kndS; rw [hs, if_neg (by omega), if_pos hl.2, ← ht, if_neg (by omega), hk, hm]
  · unfold nam; rw [hs, ← ht, hm]
  · rcases kof_or tm with h | h <;> omega
theorem tk_badn {f : Nat → Int32} {n a s ta : Nat} {tm : Int64} {tr : Int32} (hs : stt f n a = s) (hl : ¬ isLt (f s)) (hd : s < n ∧ isDg (f s)) (ht : ta = den f n s) (h8 : 4 < ta - s ∨ (ta < n ∧ isLt (f ta))) : tkC f n a ta s 3 tm tr := by
  refine ⟨hs.symm, ?_, ?_, fun h9 => absurd h9 (by decide), fun h9 => absurd h9 (by decide)⟩
  · unfold fin finS; rw [hs, if_neg (by omega), if_neg hl, if_pos hd.2, ht]
  · unfold knd kndS; rw [hs, if_neg (by omega), if_neg hl, if_pos hd.2, ← ht, if_pos h8]
theorem tk_num {f : Nat → Int32} {n a s ta : Nat} {tm : Int64} {tr : Int32} (hs : stt f n a = s) (hl : ¬ isLt (f s)) (hd : s < n ∧ isDg (f s)) (ht : ta = den f n s) (hr : tr = dec10 f s (ta - s)) (h4 : ta - s ≤ 4) (h8 : ¬ (ta < n ∧ isLt (f ta))) : tkC f n a ta s 2 tm tr := by
  have hk : knd f n a = 2 := by
    unfold knd kndS; rw [hs, if_neg (by omega), if_neg hl, if_pos hd.2, ← ht, if_neg (fun h9 => h9.elim (fun h => by omega) h8)]
  refine ⟨hs.symm, ?_, hk.symm, fun h9 => absurd h9 (by decide), fun _ => ?_⟩
  · unfold fin finS; rw [hs, if_neg (by omega), if_neg hl, if_pos hd.2, ht]
  · rw [← (num_le hk).2, hs, ← ht, hr]
theorem tk_sgn {f : Nat → Int32} {n a s j : Nat} {tm : Int64} {tr : Int32} (hs : stt f n a = s) (h : s < n) (hl : ¬ isLt (f s)) (hd : ¬ isDg (f s)) (hj : f s &&& 255 = nI j ∧ byU (f s) = j) (hg : sgK j = j) : tkC f n a (s + 1) s j tm tr := by
  have hk : knd f n a = j := by
    unfold knd kndS; rw [hs, if_neg (by omega), if_neg hl, if_neg hd, hj.2, hg]
  have h9 := sgK_or j
  rw [hg] at h9
  refine ⟨hs.symm, ?_, hk.symm, fun h8 => ?_, fun h8 => ?_⟩
  · unfold fin finS; rw [hs, if_neg (by omega), if_neg hl, if_neg hd]
  · omega
  · omega
theorem tk_sgb {f : Nat → Int32} {n a s j : Nat} {tm : Int64} {tr : Int32} (hs : stt f n a = s) (h : s < n) (hl : ¬ isLt (f s)) (hd : ¬ isDg (f s)) (hj : f s &&& 255 = nI j ∧ byU (f s) = j) (hg : sgK j = 3) : tkC f n a (s + 1) s 3 tm tr := by
  refine ⟨hs.symm, ?_, ?_, fun h9 => absurd h9 (by decide), fun h9 => absurd h9 (by decide)⟩
  · unfold fin finS; rw [hs, if_neg (by omega), if_neg hl, if_neg hd]
  · unfold knd kndS; rw [hs, if_neg (by omega), if_neg hl, if_neg hd, hj.2, hg]
/-- four bytes more -/
def s8 (x k : Int32) : Int32 := (x >>> k).toInt8.toInt32
def apC (f : Nat → Int32) (n : Nat) (x : Int32) : Nat → Int32 := upd (upd (upd (upd f n (s8 x 24)) (n + 1) (s8 x 16)) (n + 1 + 1) (s8 x 8)) (n + 1 + 1 + 1) (s8 x 0)
def u8 (x k : Int32) : Int32 := (x >>> k) &&& 255
def apR (f : Nat → Int32) (n : Nat) (x : Int32) : Nat → Int32 := upd (upd (upd (upd f n (u8 x 24)) (n + 1) (u8 x 16)) (n + 1 + 1) (u8 x 8)) (n + 1 + 1 + 1) (u8 x 0)
theorem apC_mk {f g1 g2 g3 g4 : Nat → Int32} {n : Nat} {x x1 x2 x3 x4 y1 y2 y3 y4 : Int32} (hn : n + 4 ≤ 1600) (e1 : y1.toInt8.toInt32 = x1) (d1 : y1 = x >>> 24) (g1e : upd f (nI n).toNatClampNeg (vp_nar .byte x1) = g1) (e2 : y2.toInt8.toInt32 = x2) (d2 : y2 = x >>> 16) (g2e : upd g1 (nI (n + 1)).toNatClampNeg (vp_nar .byte x2) = g2) (e3 : y3.toInt8.toInt32 = x3) (d3 : y3 = x >>> 8) (g3e : upd g2 (nI (n + 1 + 1)).toNatClampNeg (vp_nar .byte x3) = g3) (e4 : y4.toInt8.toInt32 = x4) (d4 : y4 = x >>> 0) (g4e : upd g3 (nI (n + 1 + 1 + 1)).toNatClampNeg (vp_nar .byte x4) = g4) : g4 = apC f n x := by
  have hv : ∀ z : Int32, vp_nar .byte z.toInt8.toInt32 = z.toInt8.toInt32 := fun z => by
    have h := pk_nb z
    unfold vp_nar
    rw [h]
  subst e1 e2 e3 e4
  rw [hv, nI_clamp (by omega)] at g1e g2e g3e g4e
  unfold apC s8
  rw [← d1, ← d2, ← d3, ← d4, g1e, g2e, g3e, g4e]
