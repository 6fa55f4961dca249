theorem nlt_le {a b : Int32} (h : ¬ a < b) : b ≤ a := by
  rw [fa_le]
  rw [fa_lt] at h
  omega
theorem nle_lt {a b : Int32} (h : ¬ a ≤ b) : b < a := by
  rw [fa_lt]
  rw [fa_le] at h
  omega
theorem sw_split (x : Int32) (n : Nat) (hn : n < 2 ^ 31) : (x.toInt < 0 ∨ (n : Int) ≤ x.toInt) ∨ ∃ j : Nat, j < n ∧ x = nI j := by
  by_cases h : x < 0
  · exact Or.inl (Or.inl ((fa_lt _ _).mp h))
  · obtain ⟨j, hj, e⟩ := nI_of h
    by_cases hjn : j < n
    · exact Or.inr ⟨j, hjn, e⟩
    · refine Or.inl (Or.inr ?_)
      rw [e, nI_toInt hj]
      omega
theorem upd_z (k : Nat) : upd (fun _ => (0 : Int32)) k 0 = fun _ => 0 := by
  funext j
  unfold upd
  split <;> rfl
theorem cntOK_mk : True := trivial
def slOK (f : Nat → Int32) : Prop := ∀ k, k < 6 → ∃ j : Nat, (j ≤ 5 ∨ j = 99) ∧ f k = nI j
theorem sl_at {f : Nat → Int32} (h : slOK f) {i : Nat} (hi : i < 6) : ∃ j : Nat, (j ≤ 5 ∨ j = 99) ∧ f (nI i).toNatClampNeg = nI j := by
  rw [nI_clamp (by omega)]
  exact h i hi
theorem sl_put {f : Nat → Int32} (h : slOK f) {k j : Nat} (hj : j ≤ 5 ∨ j = 99) : slOK (upd f k (nI j)) := by
  intro i hi
  by_cases e : i = k
  · exact ⟨j, hj, by rw [e]; exact pk_us⟩
  · rw [pk_un e]; exact h i hi
theorem clampN (v : Int32) {n : Nat} (hn : n < 2 ^ 31) : ∃ k : Nat, k ≤ n ∧ (if (0 : Int32) < (if v < nI n then v else nI n) then (if v < nI n then v else nI n) else 0) = nI k := by
  by_cases h : v < nI n
  · rw [if_pos h]
    by_cases h0 : (0 : Int32) < v
    · rw [if_pos h0]
      obtain ⟨j, hj, e⟩ := nI_of (x := v) (by rw [fa_lt] at *; omega)
      rw [e] at h ⊢
      exact ⟨j, Nat.le_of_lt ((nI_ltI hj hn).mp h), rfl⟩
    · rw [if_neg h0]; exact ⟨0, Nat.zero_le _, rfl⟩
  · rw [if_neg h]
    by_cases h0 : (0 : Int32) < nI n
    · rw [if_pos h0]; exact ⟨n, Nat.le_refl _, rfl⟩
    · rw [if_neg h0]; exact ⟨0, Nat.zero_le _, rfl⟩
def cntOK (f : Nat → Int32) (c0 c1 c2 c3 : Nat) : Prop := f 0 = nI c0 ∧ f 1 = nI c1 ∧ f 2 = nI c2 ∧ f 3 = nI c3
theorem has_in {ix : Int32} {c : Nat} (hc : c < 2 ^ 31) (h0 : ¬ ix < 0) (h : ¬ nI c ≤ ix) : ∃ j : Nat, j < c ∧ ix = nI j := by
  obtain ⟨j, hj, e⟩ := nI_of h0
  refine ⟨j, ?_, e⟩
  rw [e] at h
  rcases Nat.lt_or_ge j c with q | q
  · exact q
  · exact absurd (nI_le q hj) h
/-- the code of a formula: a number, a fact, or a deed -/
def cOK (f : Nat → Int32) (n : Nat) : Prop := ∀ k, k < n → (f k).toInt < 10007 ∨ 20000 ≤ (f k).toInt
theorem cOK_put {f : Nat → Int32} {n : Nat} {x : Int32} (hn : n < 2 ^ 31) (h : cOK f n) (hx : x.toInt < 10007 ∨ 20000 ≤ x.toInt) : cOK (upd f (nI n).toNatClampNeg x) (n + 1) := by
  intro k hk
  rw [nI_clamp hn]
  by_cases e : k = n
  · rw [e, pk_us]; exact hx
  · rw [pk_un e]; exact h k (by omega)
theorem fact_in {x y : Int32} (h1 : x.toInt < 10007 ∨ 20000 ≤ x.toInt) (h2 : ¬ 20000 ≤ x) (h3 : ¬ x < 10000) (e : y = x - 10000) : vp_in y 7 := by
  rw [fa_le] at h2
  rw [fa_lt] at h3
  have z1 : (20000 : Int32).toInt = 20000 := by decide
  have z2 : (10000 : Int32).toInt = 10000 := by decide
  obtain ⟨j, hj, ex⟩ := nI_of (x := x) (by rw [fa_lt]; have z0 : (0 : Int32).toInt = 0 := by decide
                                           omega)
  have hx := nI_toInt hj
  rw [ex] at h1 h2 h3
  rw [e, ex, show (10000 : Int32) = nI 10000 by decide, pk_sub (by omega)]
  exact vp_in_nI (by omega) (by decide)
/-- the frame and consequence rules of contracts -/
theorem Met.mono {l : Launch} {y : MethodName} {ws : List Cond} {rm : Room} {P P' : Array Value → State → Prop} {Q Q' : Array Value → State → Outcome → State → Prop} {mc ms : Nat} {free free' : Addr → Prop} (h : Met l y ws rm P Q mc ms free) (hP : ∀ a s, P' a s → P a s) (hQ : ∀ a s o t, P' a s → Q a s o t → Q' a s o t) (hf : ∀ q, free q → free' q) : Met l y ws rm P' Q' mc ms free' := by
  intro p e ha hc hk s m args below hfr happ hp hK
  obtain ⟨n, o, h1, h2, h3, hq, L, hL, hfree⟩ := h p e ha hc hk s m args below hfr happ (hP _ _ hp) hK
  exact ⟨n, o, h1, h2, h3, hQ _ _ _ _ hp hq, L, hL, fun q hq => hf _ (hfree q hq)⟩
/-- a row whose entries are all between 0 and B -/
def rng (f : Nat → Int32) (n B : Nat) : Prop := ∀ k, k < n → ∃ j : Nat, j ≤ B ∧ f k = nI j
theorem rng_at {f : Nat → Int32} {n B : Nat} (h : rng f n B) {i : Nat} (hi : i < n) (hn : n < 2 ^ 31) : ∃ j : Nat, j ≤ B ∧ f (nI i).toNatClampNeg = nI j := by
  rw [nI_clamp (Nat.lt_trans hi hn)]
  exact h i hi
theorem rng_put {f : Nat → Int32} {n B : Nat} (h : rng f n B) {k j : Nat} (hj : j ≤ B) : rng (upd f k (nI j)) n B := by
  intro i hi
  by_cases e : i = k
  · exact ⟨j, hj, by rw [e]; exact pk_us⟩
  · rw [pk_un e]; exact h i hi
theorem rng_0 {n B : Nat} : rng (fun _ => 0) n B := fun _ _ => ⟨0, Nat.zero_le _, rfl⟩
theorem rng_up {f : Nat → Int32} {n B B' : Nat} (h : rng f n B) (hb : B ≤ B') : rng f n B' := fun k hk => by
  obtain ⟨j, hj, e⟩ := h k hk
  exact ⟨j, Nat.le_trans hj hb, e⟩
theorem q_eq {x y : Int32} {a b : Nat} (hx : x = nI a) (hy : y = nI b) (ha : a < 2 ^ 31) (hb : b < 2 ^ 31) (h : x = y) : a = b := by
  rw [hx, hy] at h; exact (nI_eq ha hb).mp h
theorem q_ne {x y : Int32} {a b : Nat} (hx : x = nI a) (hy : y = nI b) (ha : a < 2 ^ 31) (hb : b < 2 ^ 31) (h : ¬ x = y) : ¬ a = b := by
  rw [hx, hy] at h; exact fun e => h (by rw [e])
theorem q_lt {x y : Int32} {a b : Nat} (hx : x = nI a) (hy : y = nI b) (ha : a < 2 ^ 31) (hb : b < 2 ^ 31) (h : x < y) : a < b := by
  rw [hx, hy] at h; exact (nI_ltI ha hb).mp h
theorem q_nlt {x y : Int32} {a b : Nat} (hx : x = nI a) (hy : y = nI b) (ha : a < 2 ^ 31) (hb : b < 2 ^ 31) (h : ¬ x < y) : b ≤ a := by
  rw [hx, hy, nI_ltI ha hb] at h; omega
theorem q_le {x y : Int32} {a b : Nat} (hx : x = nI a) (hy : y = nI b) (ha : a < 2 ^ 31) (hb : b < 2 ^ 31) (h : x ≤ y) : a ≤ b := by
  rw [hx, hy] at h; exact (nI_leI ha hb).mp h
theorem q_nle {x y : Int32} {a b : Nat} (hx : x = nI a) (hy : y = nI b) (ha : a < 2 ^ 31) (hb : b < 2 ^ 31) (h : ¬ x ≤ y) : b < a := by
  rw [hx, hy, nI_leI ha hb] at h; omega
theorem nI_nneg {a : Nat} {y : Int32} (ha : a < 2 ^ 31) (hy : y < 0) : ¬ nI a = y := fun h => nI_pos ha (h ▸ hy)
theorem narB {r : Int32} (h : r = 0 ∨ r = 1) : narrow .boolean (.int r) = .int r := by
  rcases h with h | h <;> (rw [h]; rfl)
theorem gp {gs : List Nat} {L : List (Option Cond)} (h : pick gs lw_tbl = L) (hg : L.all (fun o => o.all goodWord) = true) {w : Cond} (j : Nat) (hj : L[j]? = some (some w)) : w ∈ gT := by
  have h1 : some w ∈ L := List.mem_of_getElem? hj
  have h2 := List.all_eq_true.mp hg _ h1
  exact List.mem_filter.mpr ⟨pick_mem w gs lw_tbl (h ▸ h1), h2⟩
abbrev wO (a ci : Nat) (fs : List Value) : Nat × va_E := (a, .inr (ci, fs))
abbrev wI (cy : ClassId) (a n : Nat) (f : Nat → Int32) : Nat × va_E := (a, .inl (cy, n, .inl f))
theorem reW {D : va_G} {A : Nat → Prop} {H0 H : Heap} {locs : List Loc} {goal : Prop} (ws : va_W) (hP : va_P D vwCl ws H) (hD : va_D A ws) (hS : va_S A H0 H locs) (k : va_P D vwCl ws H → va_D A ws → va_S A H0 H locs → goal) : goal := k hP hD hS
