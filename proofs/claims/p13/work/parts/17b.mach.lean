/-! the formulas' machine: mode (0 a unit is wanted, 1 a sign, 2 good, 3 not), place, signs that wait, own units, units in all -/
abbrev MS : Type := Nat × Nat × List Int32 × Nat × Nat
def tgt (s : Int32) : Nat := if s = 124 then 1 else if s = 38 then 2 else if s = 21 then 3 else if s = 60 ∨ s = 62 ∨ s = 61 then 4 else if s = 43 ∨ s = 45 then 5 else 6
def dpt : List Int32 → Nat
  | [] => 0
  | s :: r => dpt r + (if s = 20 ∨ s = 21 then 1 else 0)
def clo (t : Nat) : List Int32 → List Int32
  | [] => []
  | s :: r => if ¬ s = 20 ∧ t ≤ tgt s then clo t r else s :: r
def hrl : List Int32 → Bool
  | [] => false
  | s :: r => if s = 20 then false else if 4 < tgt s then hrl r else decide (tgt s = 4)
def low (t : Nat) : List Int32 → Bool
  | [] => true
  | s :: _ => decide (s = 20 ∨ tgt s < t)
def hbk : List Int32 → Bool
  | [] => false
  | s :: r => if s = 20 then true else hbk r
def sgM (k : Nat) : Int32 := if k = 115 then 38 else if k = 114 then 124 else if k = 60 ∨ k = 62 ∨ k = 61 ∨ k = 43 ∨ k = 45 ∨ k = 42 ∨ k = 47 ∨ k = 37 then nI k else 0
theorem sgM_cases (k : Nat) : (sgM k = 0) ∨ (k = 115 ∧ sgM k = 38 ∧ tgt (sgM k) = 2) ∨ (k = 114 ∧ sgM k = 124 ∧ tgt (sgM k) = 1) ∨ ((k = 60 ∨ k = 62 ∨ k = 61) ∧ sgM k = nI k ∧ tgt (sgM k) = 4) ∨ ((k = 43 ∨ k = 45) ∧ sgM k = nI k ∧ tgt (sgM k) = 5) ∨ ((k = 42 ∨ k = 47 ∨ k = 37) ∧ sgM k = nI k ∧ tgt (sgM k) = 6) := by
  by_cases h : k = 115 ∨ k = 114 ∨ k = 60 ∨ k = 62 ∨ k = 61 ∨ k = 43 ∨ k = 45 ∨ k = 42 ∨ k = 47 ∨ k = 37
  · rcases h with h | h | h | h | h | h | h | h | h | h <;> subst h <;> decide
  · left
    unfold sgM
    rw [if_neg (by omega), if_neg (by omega), if_neg (by omega)]
theorem sgM_not {k : Nat} (h : ¬ sgM k = 0) : ¬ sgM k = 20 ∧ ¬ sgM k = 21 ∧ ¬ k = 41 ∧ ¬ k = 59 ∧ ¬ tgt (sgM k) = 3 ∧ ¬ k = 0 ∧ ¬ k = 3 := by
  rcases sgM_cases k with h1 | h1 | h1 | h1 | h1 | h1
  · exact absurd h1 h
  all_goals
    first
    | (obtain ⟨e, _⟩ := h1; subst e; decide)
    | (obtain ⟨e, _⟩ := h1; rcases e with e | e | e <;> subst e <;> decide)
    | (obtain ⟨e, _⟩ := h1; rcases e with e | e <;> subst e <;> decide)
theorem tgt0 : tgt 0 = 6 := by decide
theorem low_up {t t' : Nat} {st : List Int32} (h : t ≤ t') (hl : low t st = true) : low t' st = true := by
  cases st with
  | nil => rfl
  | cons s r =>
    have h1 : s = 20 ∨ tgt s < t := of_decide_eq_true hl
    exact decide_eq_true (h1.elim Or.inl (fun h9 => Or.inr (by omega)))
theorem clo_low {t : Nat} {st : List Int32} (hl : low t st = true) : clo t st = st := by
  cases st with
  | nil => rfl
  | cons s r =>
    have h1 : s = 20 ∨ tgt s < t := of_decide_eq_true hl
    show (if _ then _ else _) = _
    rw [if_neg]
    intro h
    rcases h1 with h9 | h9
    · exact h.1 h9
    · omega
theorem hrl_low {st : List Int32} (hl : low 4 st = true) : hrl st = false := by
  cases st with
  | nil => rfl
  | cons s r =>
    have h1 : s = 20 ∨ tgt s < 4 := of_decide_eq_true hl
    show (if _ then _ else if _ then _ else _) = _
    rcases h1 with h9 | h9
    · rw [if_pos h9]
    · by_cases e : s = 20
      · rw [if_pos e]
      · rw [if_neg e, if_neg (by omega)]; exact decide_eq_false (by omega)
section FM
variable (K nx : Nat → Nat)
def stp : MS → MS
  | (0, a, st, o, u) =>
    if K a = 116 ∧ low 4 st = true then (if 6 < dpt st then (3, a, [], 0, 0) else (0, nx a, 21 :: st, o, u))
    else if K a = 40 then (if (u = 60 ∨ o = 30) ∨ 6 < dpt st then (3, a, [], 0, 0) else (0, nx a, 20 :: st, o + 1, u + 1))
    else if (K a = 2 ∨ 117 ≤ K a) ∧ ¬ (u = 60 ∨ o = 30) then (1, nx a, st, o + 1, u + 1)
    else (3, a, [], 0, 0)
  | (1, a, st, o, u) =>
    if K a = 41 ∧ hbk st = true then (1, nx a, (clo 0 st).tail, o, u)
    else if ¬ sgM (K a) = 0 ∧ ¬ (tgt (sgM (K a)) = 4 ∧ hrl st = true) then (0, nx a, sgM (K a) :: clo (tgt (sgM (K a))) st, o, u)
    else if K a = 59 ∧ ¬ hbk st = true then (2, a, [], 0, u) else (3, a, [], 0, 0)
  | s => s
def itr : Nat → MS → MS
  | 0, s => s
  | k + 1, s => itr k (stp K nx s)
def Rch (s t : MS) : Prop := 2 ≤ t.1 ∧ ∃ k, itr K nx k s = t
variable {K nx}
theorem Rch.go {s s' t : MS} (e : stp K nx s = s') (h : Rch K nx s' t) : Rch K nx s t := by
  obtain ⟨h1, k, h2⟩ := h
  exact ⟨h1, k + 1, by show itr K nx k (stp K nx s) = t; rw [e]; exact h2⟩
theorem Rch.back {s s' t : MS} (e : stp K nx s = s') (h1 : s.1 < 2) (h : Rch K nx s t) : Rch K nx s' t := by
  obtain ⟨h2, k, h3⟩ := h
  cases k with
  | zero =>
    have h4 : s = t := h3
    rw [h4] at h1; omega
  | succ k => exact ⟨h2, k, by rw [← e]; exact h3⟩
theorem Rch.end {t : MS} (h : 2 ≤ t.1) : Rch K nx t t := ⟨h, 0, rfl⟩
theorem Rch.bad (a : Nat) : Rch K nx (3, a, [], 0, 0) (3, a, [], 0, 0) := Rch.end (show 2 ≤ 3 by decide)
theorem Rch.same {s s' t : MS} (e : stp K nx s = stp K nx s') (h1 : s'.1 < 2) (h : Rch K nx s' t) : Rch K nx s t := Rch.go e (Rch.back rfl h1 h)
theorem stp_end {t : MS} (h : 2 ≤ t.1) : stp K nx t = t := by
  obtain ⟨m, a, st, o, u⟩ := t
  match m, h with
  | m + 2, _ => rfl
theorem itr_end {t : MS} (h : 2 ≤ t.1) (k : Nat) : itr K nx k t = t := by
  induction k with
  | zero => rfl
  | succ k ih => show itr K nx k (stp K nx t) = t; rw [stp_end h]; exact ih
theorem itr_add (s : MS) (j k : Nat) : itr K nx (j + k) s = itr K nx k (itr K nx j s) := by
  induction j generalizing s with
  | zero => rw [Nat.zero_add]; rfl
  | succ j ih => rw [Nat.succ_add]; exact ih (stp K nx s)
theorem Rch.det {s t t' : MS} (h : Rch K nx s t) (h' : Rch K nx s t') : t = t' := by
  obtain ⟨h1, k, h2⟩ := h
  obtain ⟨h3, j, h4⟩ := h'
  have e1 : itr K nx (k + j) s = t := by rw [itr_add, h2, itr_end h1]
  have e2 : itr K nx (j + k) s = t' := by rw [itr_add, h4, itr_end h3]
  rw [← e1, ← e2, Nat.add_comm]
/-- a sign that waits and that the next one closes may as well be closed at once -/
theorem stp_drop {a o u : Nat} {s : Int32} {st : List Int32} (hs : ¬ s = 20) (h : ¬ sgM (K a) = 0 → tgt (sgM (K a)) ≤ tgt s) (h4 : tgt s ≤ 4 → ¬ sgM (K a) = 0 → ¬ tgt (sgM (K a)) = 4) : stp K nx (1, a, s :: st, o, u) = stp K nx (1, a, st, o, u) := by
  have e1 : hbk (s :: st) = hbk st := if_neg hs
  have e2 : clo 0 (s :: st) = clo 0 st := if_pos ⟨hs, Nat.zero_le _⟩
  show (if _ then _ else if _ then _ else if _ then _ else _) = (if _ then _ else if _ then _ else if _ then _ else _)
  rw [e1, e2]
  by_cases h0 : sgM (K a) = 0
  · rw [if_neg (c := ¬ sgM (K a) = 0 ∧ _) (fun h9 => h9.1 h0), if_neg (c := ¬ sgM (K a) = 0 ∧ _) (fun h9 => h9.1 h0)]
  · have e3 : clo (tgt (sgM (K a))) (s :: st) = clo (tgt (sgM (K a))) st := if_pos ⟨hs, h h0⟩
    rw [e3]
    rcases Nat.lt_or_ge 4 (tgt s) with h5 | h5
    · have e4 : hrl (s :: st) = hrl st := by
        show (if _ then _ else if _ then _ else _) = _
        rw [if_neg hs, if_pos h5]
      rw [e4]
    · have h6 := h4 h5 h0
      have c1 : ∀ b : Bool, (¬ sgM (K a) = 0 ∧ ¬ (tgt (sgM (K a)) = 4 ∧ b = true)) := fun b => ⟨h0, fun h9 => h6 h9.1⟩
      rw [if_pos (c1 _), if_pos (c1 _)]
/-- the sign is pushed -/
theorem stp_sign {a o u : Nat} {st : List Int32} (h0 : ¬ sgM (K a) = 0) (hl : low (tgt (sgM (K a))) st = true) : stp K nx (1, a, st, o, u) = (0, nx a, sgM (K a) :: st, o, u) := by
  have h := sgM_not h0
  show (if _ then _ else if _ then _ else if _ then _ else _) = _
  rw [if_neg (fun h9 => h.2.2.1 h9.1), if_pos, clo_low hl]
  refine ⟨h0, fun h9 => ?_⟩
  rw [h9.1] at hl
  rw [hrl_low hl] at h9
  exact absurd h9.2 (by decide)
variable (K nx)
def okS (lv dp a o u a2 o2 u2 : Nat) : Prop := (¬ sgM (K a2) = 0 → tgt (sgM (K a2)) < lv ∨ (lv ≤ 4 ∧ tgt (sgM (K a2)) = 4)) ∧ ∀ st, dpt st = dp → low lv st = true → (5 ≤ lv → K a = 116 → ¬ low 4 st = true) → ((lv ≤ 4 ∧ tgt (sgM (K a2)) = 4 → Rch K nx (0, a, st, o, u) (3, a2, [], 0, 0)) ∧ (¬ (lv ≤ 4 ∧ tgt (sgM (K a2)) = 4) → ∀ t, Rch K nx (1, a2, st, o2, u2) t → Rch K nx (0, a, st, o, u) t))
def noS (lv dp a o u a2 : Nat) : Prop := ∀ st, dpt st = dp → low lv st = true → (5 ≤ lv → K a = 116 → ¬ low 4 st = true) → Rch K nx (0, a, st, o, u) (3, a2, [], 0, 0)
/-- the loop of the level lv over what the level lv' reads -/
def inS (lv lv' dp a o u a2 o2 u2 : Nat) : Prop := (¬ sgM (K a2) = 0 → tgt (sgM (K a2)) < lv' ∨ (lv' ≤ 4 ∧ tgt (sgM (K a2)) = 4)) ∧ ∀ st, dpt st = dp → low lv st = true → (5 ≤ lv → K a = 116 → ¬ low 4 st = true) → ((lv' ≤ 4 ∧ tgt (sgM (K a2)) = 4 → Rch K nx (0, a, st, o, u) (3, a2, [], 0, 0)) ∧ (¬ (lv' ≤ 4 ∧ tgt (sgM (K a2)) = 4) → ∀ t, Rch K nx (1, a2, st, o2, u2) t → Rch K nx (0, a, st, o, u) t))
/-- the pairs of levels: a term of units, a sum of terms, ands of ones, ors of ands -/
def lvP (lv lv' : Nat) : Prop := (lv = 6 ∧ lv' = 7) ∨ (lv = 5 ∧ lv' = 6) ∨ (lv = 2 ∧ lv' = 4) ∨ (lv = 1 ∧ lv' = 2)
variable {K nx}
theorem inS_0 {lv lv' dp a o u a2 o2 u2 : Nat} (hp : lvP lv lv') (h : okS K nx lv' dp a o u a2 o2 u2) : inS K nx lv lv' dp a o u a2 o2 u2 := by
  unfold lvP at hp
  exact ⟨h.1, fun st h1 h2 h3 => h.2 st h1 (low_up (by omega) h2) (fun h4 => h3 (by omega))⟩
theorem noS_0 {lv lv' dp a o u a2 : Nat} (hp : lvP lv lv') (h : noS K nx lv' dp a o u a2) : noS K nx lv dp a o u a2 := by
  unfold lvP at hp
  exact fun st h1 h2 h3 => h st h1 (low_up (by omega) h2) (fun h4 => h3 (by omega))
theorem inS_end {lv lv' dp a o u a2 o2 u2 : Nat} (hp : lvP lv lv') (h : inS K nx lv lv' dp a o u a2 o2 u2) (he : ¬ sgM (K a2) = 0 → ¬ tgt (sgM (K a2)) = lv) : okS K nx lv dp a o u a2 o2 u2 := by
  unfold lvP at hp
  refine ⟨fun h0 => ?_, fun st h1 h2 h3 => ⟨fun h4 => (h.2 st h1 h2 h3).1 ⟨by omega, h4.2⟩, fun h4 => (h.2 st h1 h2 h3).2 (fun h5 => h4 ⟨by omega, h5.2⟩)⟩⟩
  have h5 := h.1 h0
  have h6 := he h0
  have h7 := (sgM_not h0).2.2.2.2.1
  omega
theorem dpt_cons {s : Int32} {st : List Int32} (h1 : ¬ s = 20) (h2 : ¬ s = 21) : dpt (s :: st) = dpt st := by
  show _ + (if _ then _ else _) = _
  rw [if_neg (fun h => h.elim h1 h2)]
  rfl
theorem low_cons {s : Int32} {st : List Int32} {t : Nat} (h : tgt s < t) : low t (s :: st) = true := decide_eq_true (Or.inr h)
theorem low4_cons {s : Int32} {st : List Int32} (hs : ¬ s = 20) (h : 4 ≤ tgt s) : ¬ low 4 (s :: st) = true := fun h9 => (of_decide_eq_true h9 : s = 20 ∨ tgt s < 4).elim hs (fun h8 => by omega)
/-- one round of a loop -/
theorem inS_step {lv lv' dp a o u a2 o2 u2 a3 o3 u3 : Nat} (hp : lvP lv lv') (h : inS K nx lv lv' dp a o u a2 o2 u2) (h0 : ¬ sgM (K a2) = 0) (ht : tgt (sgM (K a2)) = lv) (hs : okS K nx lv' dp (nx a2) o2 u2 a3 o3 u3) : inS K nx lv lv' dp a o u a3 o3 u3 := by
  unfold lvP at hp
  have hn := sgM_not h0
  refine ⟨hs.1, fun st h1 h2 h3 => ?_⟩
  have hd : dpt (sgM (K a2) :: st) = dp := by rw [dpt_cons hn.1 hn.2.1]; exact h1
  have hsub := hs.2 (sgM (K a2) :: st) hd (low_cons (by omega)) (fun h5 _ => low4_cons hn.1 (by omega))
  have hup : ∀ t, Rch K nx (0, nx a2, sgM (K a2) :: st, o2, u2) t → Rch K nx (0, a, st, o, u) t := fun t hr => (h.2 st h1 h2 h3).2 (fun h9 => by omega) t (Rch.go (stp_sign h0 (by rw [ht]; exact h2)) hr)
  refine ⟨fun h9 => hup _ (hsub.1 h9), fun h9 t hr => hup t (hsub.2 h9 t ?_)⟩
  refine Rch.same (stp_drop hn.1 (fun h8 => ?_) (fun h7 h8 h6 => ?_)) (show 1 < 2 by decide) hr
  · have := hs.1 h8
    have h7 := (sgM_not h8).2.2.2.2.1
    omega
  · omega
theorem inS_bad {lv lv' dp a o u a2 o2 u2 a3 : Nat} (hp : lvP lv lv') (h : inS K nx lv lv' dp a o u a2 o2 u2) (h0 : ¬ sgM (K a2) = 0) (ht : tgt (sgM (K a2)) = lv) (hs : noS K nx lv' dp (nx a2) o2 u2 a3) : noS K nx lv dp a o u a3 := by
  unfold lvP at hp
  have hn := sgM_not h0
  intro st h1 h2 h3
  have hd : dpt (sgM (K a2) :: st) = dp := by rw [dpt_cons hn.1 hn.2.1]; exact h1
  exact (h.2 st h1 h2 h3).2 (fun h9 => by omega) _ (Rch.go (stp_sign h0 (by rw [ht]; exact h2)) (hs (sgM (K a2) :: st) hd (low_cons (by omega)) (fun h5 _ => low4_cons hn.1 (by omega))))
/-- one: a sum alone -/
theorem one_sum {dp a o u a2 o2 u2 : Nat} (hn : ¬ K a = 116) (h : okS K nx 5 dp a o u a2 o2 u2) (hr : ¬ (¬ sgM (K a2) = 0 ∧ tgt (sgM (K a2)) = 4)) : okS K nx 4 dp a o u a2 o2 u2 := by
  have h5 : ¬ tgt (sgM (K a2)) = 4 := by
    intro h9
    by_cases h0 : sgM (K a2) = 0
    · rw [h0, tgt0] at h9; omega
    · exact hr ⟨h0, h9⟩
  refine ⟨fun h0 => ?_, fun st h1 h2 h3 => ⟨fun h9 => absurd h9.2 h5, fun _ => (h.2 st h1 (low_up (by decide) h2) (fun _ h9 => absurd h9 hn)).2 (fun h9 => by omega)⟩⟩
  have := h.1 h0
  omega
theorem one_sumN {dp a o u a2 : Nat} (hn : ¬ K a = 116) (h : noS K nx 5 dp a o u a2) : noS K nx 4 dp a o u a2 :=
  fun st h1 h2 h3 => h st h1 (low_up (by decide) h2) (fun _ h9 => absurd h9 hn)
/-- one: two sums and what is between them -/
theorem one_rel {dp a o u a2 o2 u2 a3 o3 u3 : Nat} (hn : ¬ K a = 116) (h : okS K nx 5 dp a o u a2 o2 u2) (h0 : ¬ sgM (K a2) = 0) (ht : tgt (sgM (K a2)) = 4) (hs : okS K nx 5 dp (nx a2) o2 u2 a3 o3 u3) : okS K nx 4 dp a o u a3 o3 u3 := by
  have hq := sgM_not h0
  refine ⟨fun h9 => by have := hs.1 h9; omega, fun st h1 h2 h3 => ?_⟩
  have hd : dpt (sgM (K a2) :: st) = dp := by rw [dpt_cons hq.1 hq.2.1]; exact h1
  have hsub := (hs.2 (sgM (K a2) :: st) hd (low_cons (by omega)) (fun h5 _ => low4_cons hq.1 (by omega))).2 (fun h9 => by omega)
  have hup : ∀ t, Rch K nx (0, nx a2, sgM (K a2) :: st, o2, u2) t → Rch K nx (0, a, st, o, u) t := fun t hr => (h.2 st h1 (low_up (by decide) h2) (fun _ h9 => absurd h9 hn)).2 (fun h9 => by omega) t (Rch.go (stp_sign h0 (by rw [ht]; exact h2)) hr)
  refine ⟨fun h9 => hup _ (hsub _ ?_), fun h9 t hr => hup t (hsub t ?_)⟩
  · have h3' : ¬ sgM (K a3) = 0 := by
      intro h8
      have h7 := h9.2
      rw [h8, tgt0] at h7; omega
    have hq3 := sgM_not h3'
    refine Rch.go (s' := (3, a3, [], 0, 0)) ?_ (Rch.bad a3)
    show (if _ then _ else if _ then _ else if _ then _ else _) = _
    have e4 : hrl (sgM (K a2) :: st) = true := by
      show (if _ then _ else if _ then _ else _) = _
      rw [if_neg hq.1, if_neg (by omega)]; exact decide_eq_true ht
    rw [if_neg (fun h8 => hq3.2.2.1 h8.1), if_neg (fun h8 => h8.2 ⟨h9.2, e4⟩), if_neg (fun h8 => hq3.2.2.2.1 h8.1)]
  · refine Rch.same (stp_drop hq.1 (fun h8 => ?_) (fun h7 h8 h6 => ?_)) (show 1 < 2 by decide) hr
    · have := hs.1 h8; omega
    · omega
theorem one_relN {dp a o u a2 o2 u2 a3 : Nat} (hn : ¬ K a = 116) (h : okS K nx 5 dp a o u a2 o2 u2) (h0 : ¬ sgM (K a2) = 0) (ht : tgt (sgM (K a2)) = 4) (hs : noS K nx 5 dp (nx a2) o2 u2 a3) : noS K nx 4 dp a o u a3 := by
  have hq := sgM_not h0
  intro st h1 h2 h3
  have hd : dpt (sgM (K a2) :: st) = dp := by rw [dpt_cons hq.1 hq.2.1]; exact h1
  exact (h.2 st h1 (low_up (by decide) h2) (fun _ h9 => absurd h9 hn)).2 (fun h9 => by omega) _ (Rch.go (stp_sign h0 (by rw [ht]; exact h2)) (hs (sgM (K a2) :: st) hd (low_cons (by omega)) (fun h5 _ => low4_cons hq.1 (by omega))))
/-- not -/
theorem not_deep {dp a o u : Nat} (hn : K a = 116) (hd : 7 ≤ dp) : noS K nx 4 dp a o u a := by
  intro st h1 h2 h3
  refine Rch.go (s' := (3, a, [], 0, 0)) ?_ (Rch.bad a)
  show (if _ then _ else if _ then _ else if _ then _ else _) = _
  rw [if_pos ⟨hn, h2⟩, if_pos (by omega)]
theorem not_go {dp a o u : Nat} {st : List Int32} (hn : K a = 116) (hd : ¬ 7 ≤ dp) (h1 : dpt st = dp) (h2 : low 4 st = true) : stp K nx (0, a, st, o, u) = (0, nx a, 21 :: st, o, u) := by
  show (if _ then _ else if _ then _ else if _ then _ else _) = _
  rw [if_pos ⟨hn, h2⟩, if_neg (by omega)]
theorem low_21 {st : List Int32} : low 4 (21 :: st) = true := by
  show decide ((21 : Int32) = 20 ∨ tgt 21 < 4) = true
  exact decide_eq_true (Or.inr (by decide))
theorem low_20 {t : Nat} {st : List Int32} : low t (20 :: st) = true := by
  show decide ((20 : Int32) = 20 ∨ tgt 20 < t) = true
  exact decide_eq_true (Or.inl rfl)
theorem dpt_21 {st : List Int32} : dpt (21 :: st) = dpt st + 1 := rfl
theorem dpt_20 {st : List Int32} : dpt (20 :: st) = dpt st + 1 := rfl
theorem not_ok {dp a o u a2 o2 u2 : Nat} (hn : K a = 116) (hd : ¬ 7 ≤ dp) (h : okS K nx 4 (dp + 1) (nx a) o u a2 o2 u2) : okS K nx 4 dp a o u a2 o2 u2 := by
  refine ⟨h.1, fun st h1 h2 h3 => ?_⟩
  have hsub := h.2 (21 :: st) (by rw [dpt_21, h1]) low_21 (fun h9 => absurd h9 (by decide))
  have hg := not_go (K := K) (nx := nx) (o := o) (u := u) hn hd h1 h2
  refine ⟨fun h9 => Rch.go hg (hsub.1 h9), fun h9 t hr => Rch.go hg (hsub.2 h9 t ?_)⟩
  have e3 : tgt 21 = 3 := by decide
  refine Rch.same (stp_drop (by decide) (fun h8 => ?_) (fun h7 h8 h6 => h9 ⟨by decide, h6⟩)) (show 1 < 2 by decide) hr
  have := h.1 h8
  omega
theorem not_bad {dp a o u a2 : Nat} (hn : K a = 116) (hd : ¬ 7 ≤ dp) (h : noS K nx 4 (dp + 1) (nx a) o u a2) : noS K nx 4 dp a o u a2 :=
  fun st h1 h2 h3 => Rch.go (not_go hn hd h1 h2) (h (21 :: st) (by rw [dpt_21, h1]) low_21 (fun h9 => absurd h9 (by decide)))
/-- a unit -/
theorem unit_full {dp a o u : Nat} (hf : u = 60 ∨ o = 30) : noS K nx 7 dp a o u a := by
  intro st h1 h2 h3
  refine Rch.go (s' := (3, a, [], 0, 0)) ?_ (Rch.bad a)
  show (if _ then _ else if _ then _ else if _ then _ else _) = _
  rw [if_neg (fun h9 => h3 (by decide) h9.1 h9.2)]
  by_cases h4 : K a = 40
  · rw [if_pos h4, if_pos (Or.inl hf)]
  · rw [if_neg h4, if_neg (fun h9 => h9.2 hf)]
theorem unit_deep {dp a o u : Nat} (h4 : K a = 40) (hd : 7 ≤ dp) : noS K nx 7 dp a o u a := by
  intro st h1 h2 h3
  refine Rch.go (s' := (3, a, [], 0, 0)) ?_ (Rch.bad a)
  show (if _ then _ else if _ then _ else if _ then _ else _) = _
  rw [if_neg (fun h9 => h3 (by decide) h9.1 h9.2), if_pos h4, if_pos (Or.inr (by omega))]
theorem unit_one {dp a o u : Nat} (hf : ¬ (u = 60 ∨ o = 30)) (h : K a = 2 ∨ 117 ≤ K a) : okS K nx 7 dp a o u (nx a) (o + 1) (u + 1) := by
  refine ⟨fun h0 => Or.inl ?_, fun st h1 h2 h3 => ⟨fun h9 => absurd h9.1 (by decide), fun _ t hr => Rch.go ?_ hr⟩⟩
  · rcases sgM_cases (K (nx a)) with h9 | h9 | h9 | h9 | h9 | h9
    · exact absurd h9 h0
    all_goals omega
  · show (if _ then _ else if _ then _ else if _ then _ else _) = _
    rw [if_neg (fun h9 => h3 (by decide) h9.1 h9.2), if_neg (by omega), if_pos ⟨h, hf⟩]
theorem unit_none {dp a o u : Nat} (h4 : ¬ K a = 40) (h : ¬ (K a = 2 ∨ 117 ≤ K a)) : noS K nx 7 dp a o u a := by
  intro st h1 h2 h3
  refine Rch.go (s' := (3, a, [], 0, 0)) ?_ (Rch.bad a)
  show (if _ then _ else if _ then _ else if _ then _ else _) = _
  rw [if_neg (fun h9 => h3 (by decide) h9.1 h9.2), if_neg h4, if_neg (fun h9 => h h9.1)]
theorem unit_go {dp a o u : Nat} {st : List Int32} (h4 : K a = 40) (hf : ¬ (u = 60 ∨ o = 30)) (hd : ¬ 7 ≤ dp) (h1 : dpt st = dp) : stp K nx (0, a, st, o, u) = (0, nx a, 20 :: st, o + 1, u + 1) := by
  show (if _ then _ else if _ then _ else if _ then _ else _) = _
  rw [if_neg (fun h9 => by omega), if_pos h4, if_neg (by omega)]
theorem unit_inN {dp a o u a2 : Nat} (h4 : K a = 40) (hf : ¬ (u = 60 ∨ o = 30)) (hd : ¬ 7 ≤ dp) (h : noS K nx 1 (dp + 1) (nx a) (o + 1) (u + 1) a2) : noS K nx 7 dp a o u a2 :=
  fun st h1 h2 h3 => Rch.go (unit_go h4 hf hd h1) (h (20 :: st) (by rw [dpt_20, h1]) low_20 (fun h9 => absurd h9 (by decide)))
theorem unit_in {dp a o u a2 o2 u2 : Nat} (h4 : K a = 40) (hf : ¬ (u = 60 ∨ o = 30)) (hd : ¬ 7 ≤ dp) (h : okS K nx 1 (dp + 1) (nx a) (o + 1) (u + 1) a2 o2 u2) (hc : K a2 = 41) : okS K nx 7 dp a o u (nx a2) o2 u2 := by
  refine ⟨fun h0 => Or.inl ?_, fun st h1 h2 h3 => ⟨fun h9 => absurd h9.1 (by decide), fun _ t hr => Rch.go (unit_go h4 hf hd h1) ?_⟩⟩
  · rcases sgM_cases (K (nx a2)) with h9 | h9 | h9 | h9 | h9 | h9
    · exact absurd h9 h0
    all_goals omega
  · have e : sgM (K a2) = 0 := by rw [hc]; decide
    refine (h.2 (20 :: st) (by rw [dpt_20, h1]) low_20 (fun h9 => absurd h9 (by decide))).2 (fun h9 => by rw [e, tgt0] at h9; omega) t (Rch.go ?_ hr)
    show (if _ then _ else if _ then _ else if _ then _ else _) = _
    rw [if_pos ⟨hc, rfl⟩]
    rfl
theorem unit_inB {dp a o u a2 o2 u2 : Nat} (h4 : K a = 40) (hf : ¬ (u = 60 ∨ o = 30)) (hd : ¬ 7 ≤ dp) (h : okS K nx 1 (dp + 1) (nx a) (o + 1) (u + 1) a2 o2 u2) (hc : ¬ K a2 = 41) : noS K nx 7 dp a o u a2 := by
  intro st h1 h2 h3
  refine Rch.go (unit_go h4 hf hd h1) ?_
  have hs := h.2 (20 :: st) (by rw [dpt_20, h1]) low_20 (fun h9 => absurd h9 (by decide))
  by_cases hr : 1 ≤ 4 ∧ tgt (sgM (K a2)) = 4
  · exact hs.1 hr
  · refine hs.2 hr _ (Rch.go (s' := (3, a2, [], 0, 0)) ?_ (Rch.bad a2))
    have h0 : sgM (K a2) = 0 := by
      by_cases h9 : sgM (K a2) = 0
      · exact h9
      · have h8 := h.1 h9
        rcases sgM_cases (K a2) with h7 | h7 | h7 | h7 | h7 | h7
        · exact h7
        all_goals omega
    show (if _ then _ else if _ then _ else if _ then _ else _) = _
    rw [if_neg (fun h9 => hc h9.1), if_neg (fun h9 => h9.1 h0), if_neg (fun h9 => h9.2 rfl)]
/-- a whole formula, with the sign that ends it -/
theorem form_ok {a u a2 o2 u2 : Nat} (h : okS K nx 1 0 a 0 u a2 o2 u2) (hc : K a2 = 59) : Rch K nx (0, a, [], 0, u) (2, a2, [], 0, u2) := by
  have e : sgM (K a2) = 0 := by rw [hc]; decide
  refine (h.2 [] rfl rfl (fun h9 => absurd h9 (by decide))).2 (fun h9 => by rw [e, tgt0] at h9; omega) _ (Rch.go (s' := (2, a2, [], 0, u2)) ?_ (Rch.end (show 2 ≤ 2 by decide)))
  show (if _ then _ else if _ then _ else if _ then _ else _) = _
  rw [if_neg (fun h9 => by omega), if_neg (fun h9 => h9.1 e), if_pos ⟨hc, by decide⟩]
theorem form_bad {a u a2 o2 u2 : Nat} (h : okS K nx 1 0 a 0 u a2 o2 u2) (hc : ¬ K a2 = 59) : Rch K nx (0, a, [], 0, u) (3, a2, [], 0, 0) := by
  have hs := h.2 [] rfl rfl (fun h9 => absurd h9 (by decide))
  by_cases hr : 1 ≤ 4 ∧ tgt (sgM (K a2)) = 4
  · exact hs.1 hr
  · refine hs.2 hr _ (Rch.go (s' := (3, a2, [], 0, 0)) ?_ (Rch.bad a2))
    have h0 : sgM (K a2) = 0 := by
      by_cases h9 : sgM (K a2) = 0
      · exact h9
      · have h8 := h.1 h9
        rcases sgM_cases (K a2) with h7 | h7 | h7 | h7 | h7 | h7
        · exact h7
        all_goals omega
    show (if _ then _ else if _ then _ else if _ then _ else _) = _
    rw [if_neg (fun h9 => by have := h9.2; exact absurd this (by decide)), if_neg (fun h9 => h9.1 h0), if_neg (fun h9 => hc h9.1)]
theorem form_no {a u a2 : Nat} (h : noS K nx 1 0 a 0 u a2) : Rch K nx (0, a, [], 0, u) (3, a2, [], 0, 0) := h [] rfl rfl (fun h9 => absurd h9 (by decide))
end FM
