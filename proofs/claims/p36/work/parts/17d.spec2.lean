/-! all that a text told so far: place, counts, names (their places), ons, how many ons, what is told already, units, values -/
abbrev AS : Type := Nat × (Nat → Nat) × (Nat → Nat → Nat) × (Nat → Int32) × Nat × (Nat → Int32) × Nat × (Nat → Nat → Int32) × (Nat → List Int32)
def upA {α : Type} (f : Nat → α) (k : Nat) (v : α) : Nat → α := fun j => if j = k then v else f j
abbrev sA (s : AS) : Nat := s.1
abbrev sC (s : AS) : Nat → Nat := s.2.1
abbrev sN (s : AS) : Nat → Nat → Nat := s.2.2.1
abbrev sO (s : AS) : Nat → Int32 := s.2.2.2.1
abbrev sK (s : AS) : Nat := s.2.2.2.2.1
abbrev sF (s : AS) : Nat → Int32 := s.2.2.2.2.2.1
abbrev sU (s : AS) : Nat := s.2.2.2.2.2.2.1
abbrev sV (s : AS) : Nat → Nat → Int32 := s.2.2.2.2.2.2.2.1
abbrev sL (s : AS) : Nat → List Int32 := s.2.2.2.2.2.2.2.2
def aS0 : AS := (0, fun _ => 0, fun _ _ => 0, fun _ => -1, 0, fun _ => 0, 0, fun _ _ => 0, fun _ => [])
def tlW (f : Nat → Int32) (n : Nat) (s : AS) (x : Nat × Nat) : AS := (x.2, upA (sC s) 0 (sC s 0 + 1), upA (sN s) 0 (updN (sN s 0) (sC s 0) (fin f n (sA s))), sO s, sK s, sF s, sU s, upA (sV s) 0 (upd (sV s 0) (sC s 0) (nI x.1)), sL s)
def stP (f : Nat → Int32) (n k v w : Nat) (s : AS) (x : Nat × Nat × Nat) : AS := (x.2.2, upA (sC s) k (sC s k + 1), upA (sN s) k (updN (sN s k) (sC s k) (fin f n (sA s))), sO s, sK s, sF s, sU s, upA (upA (sV s) v (upd (sV s v) (sC s k) (nI x.1))) w (upd (sV s w) (sC s k) (nI x.2.1)), sL s)
def stS (f : Nat → Int32) (n : Nat) (s : AS) (x : Nat × Nat) : AS := (x.2, upA (sC s) 3 (sC s 3 + 1), upA (sN s) 3 (updN (sN s 3) (sC s 3) (fin f n (sA s))), sO s, sK s, sF s, sU s, upA (sV s) 5 (upd (sV s 5) (sC s 3) (nI x.1)), sL s)
def stO (s : AS) (x : Nat × Nat × Nat) : AS := (x.2.2, sC s, sN s, upd (sO s) x.1 (nI x.2.1), sK s + 1, sF s, sU s, sV s, sL s)
def stF (k : Nat) (s : AS) (x : Nat × Nat × List Int32) : AS := (x.2.1, sC s, sN s, sO s, sK s, upA (sF s) k 1, x.1, sV s, upA (sL s) k x.2.2)
def stD (k v : Nat) (s : AS) (x : Nat × Nat) : AS := (x.2, sC s, sN s, sO s, sK s, upA (sF s) k 1, sU s, upA (sV s) 6 (upd (sV s 6) v (nI x.1)), sL s)
def linR (f : Nat → Int32) (n : Nat) (s : AS) (r : ER AS) : Prop :=
  (knd f n (sA s) = 100 ∧ r = bnd (worS f n (sC s 0) (sN s 0) (sA s)) fun x => .inr (tlW f n s x)) ∨
  (knd f n (sA s) = 101 ∧ r = bnd (plaS f n (sC s 1) (sN s 1) 119 (sA s)) fun x => .inr (stP f n 1 1 2 s x)) ∨
  (knd f n (sA s) = 102 ∧ r = bnd (plaS f n (sC s 2) (sN s 2) 111 (sA s)) fun x => .inr (stP f n 2 3 4 s x)) ∨
  (knd f n (sA s) = 103 ∧ r = bnd (staS f n (sC s 3) (sN s 3) (sA s)) fun x => .inr (stS f n s x)) ∨
  (knd f n (sA s) = 104 ∧ r = bnd (onnS f n (sK s) (sC s 3) (sN s 3) (sC s 0) (sN s 0) (sO s) (sA s)) fun x => .inr (stO s x)) ∨
  (∃ k q, k < 3 ∧ knd f n (sA s) = 105 + k ∧ frmR f n (sF s k) (sU s) (sA s) q ∧ r = bnd q fun x => .inr (stF k s x)) ∨
  (knd f n (sA s) = 108 ∧ r = bnd (wndS f n (sF s 3) 9 (sA s)) fun x => .inr (stD 3 0 s x)) ∨
  (knd f n (sA s) = 109 ∧ r = bnd (wndS f n (sF s 4) 999 (sA s)) fun x => .inr (stD 4 1 s x)) ∨
  (¬ (100 ≤ knd f n (sA s) ∧ knd f n (sA s) ≤ 109) ∧ r = .inl (2, sA s))
theorem linR_det {f : Nat → Int32} {n : Nat} {s : AS} {r r' : ER AS} (h : linR f n s r) (h' : linR f n s r') : r = r' := by
  unfold linR at h h'
  rcases h with h | h | h | h | h | ⟨k, q, h1, h2, h3, h4⟩ | h | h | h <;> rcases h' with h' | h' | h' | h' | h' | ⟨k', q', h1', h2', h3', h4'⟩ | h' | h' | h' <;>
    first
    | exact h.2.trans h'.2.symm
    | (exfalso; omega)
    | skip
  have e : k = k' := by omega
  subst e
  rw [h4, h4', frmR_det h3 h3']
def prs (f : Nat → Int32) (n : Nat) : Nat → AS → ER AS → Prop
  | 0, _, _ => False
  | k + 1, s, r => (knd f n (sA s) = 0 ∧ r = .inr s) ∨ (¬ knd f n (sA s) = 0 ∧ ((∃ e, linR f n s (.inl e) ∧ r = .inl e) ∨ (∃ s2, linR f n s (.inr s2) ∧ prs f n k s2 r)))
def PR (f : Nat → Int32) (n : Nat) (s : AS) (r : ER AS) : Prop := ∃ k, prs f n k s r
theorem prs_det {f : Nat → Int32} {n : Nat} (k : Nat) : ∀ (k' : Nat) (s : AS) (r r' : ER AS), prs f n k s r → prs f n k' s r' → r = r' := by
  induction k with
  | zero => intro k' s r r' h; exact h.elim
  | succ k ih =>
    intro k' s r r' h h'
    cases k' with
    | zero => exact h'.elim
    | succ k' =>
      rcases h with ⟨a1, a2⟩ | ⟨a1, ⟨e, a2, a3⟩ | ⟨s2, a2, a3⟩⟩ <;> rcases h' with ⟨b1, b2⟩ | ⟨b1, ⟨e', b2, b3⟩ | ⟨s3, b2, b3⟩⟩
      · rw [a2, b2]
      · exact absurd a1 b1
      · exact absurd a1 b1
      · exact absurd b1 a1
      · have h9 := linR_det a2 b2
        rw [a3, b3, h9]
      · have h9 := linR_det a2 b2; cases h9
      · exact absurd b1 a1
      · have h9 := linR_det a2 b2; cases h9
      · have h9 := linR_det a2 b2
        cases h9
        exact ih k' s2 r r' a3 b3
theorem PR.det {f : Nat → Int32} {n : Nat} {s : AS} {r r' : ER AS} (h : PR f n s r) (h' : PR f n s r') : r = r' := by
  obtain ⟨k, h⟩ := h
  obtain ⟨k', h'⟩ := h'
  exact prs_det k k' s r r' h h'
theorem PR.end {f : Nat → Int32} {n : Nat} {s : AS} (h : knd f n (sA s) = 0) : PR f n s (.inr s) := ⟨1, Or.inl ⟨h, rfl⟩⟩
theorem PR.bad {f : Nat → Int32} {n : Nat} {s : AS} {e : Nat × Nat} (h : ¬ knd f n (sA s) = 0) (hl : linR f n s (.inl e)) : PR f n s (.inl e) := ⟨1, Or.inr ⟨h, Or.inl ⟨e, hl, rfl⟩⟩⟩
theorem PR.go {f : Nat → Int32} {n : Nat} {s s2 : AS} {r : ER AS} (h : ¬ knd f n (sA s) = 0) (hl : linR f n s (.inr s2)) (hp : PR f n s2 r) : PR f n s r := by
  obtain ⟨k, hp⟩ := hp
  exact ⟨k + 1, Or.inr ⟨h, Or.inr ⟨s2, hl, hp⟩⟩⟩
theorem knd_at_end {f : Nat → Int32} {n a : Nat} (h : n ≤ a) : knd f n a = 0 := by
  unfold knd kndS
  rw [if_pos (Nat.le_trans h (stt_ge f n a))]
/-- rows that agree on what is told -/
def rowR (f g : Nat → Int32) (c : Nat) : Prop := ∀ i, i < c → f i = g i
theorem rowR_put {f g : Nat → Int32} {c : Nat} (h : rowR f g c) (x : Int32) : rowR (upd f c x) (upd g c x) (c + 1) := by
  intro i hi
  by_cases e : i = c
  · rw [e, pk_us, pk_us]
  · rw [pk_un e, pk_un e]; exact h i (by omega)
theorem rowR_upd {f g : Nat → Int32} {c k : Nat} (h : rowR f g c) (x : Int32) : rowR (upd f k x) (upd g k x) c := by
  intro i hi
  by_cases e : i = k
  · rw [e, pk_us, pk_us]
  · rw [pk_un e, pk_un e]; exact h i hi
theorem upA_s {α : Type} {f : Nat → α} {k : Nat} {v : α} : upA f k v k = v := if_pos rfl
theorem upA_n {α : Type} {f : Nat → α} {k j : Nat} {v : α} (h : ¬ j = k) : upA f k v j = f j := if_neg h
/-- what the class holds of it -/
def relC (f : Nat → Int32) (n : Nat) (s : AS) (ga c0 c1 c2 c3 : Nat) (fx : Nat → Int32) (on9 : Nat) (tb tl tt wt dt : Int32) (un : Nat) (flo fp fcs fmp fmv : Nat → Int32) (hwi hdr : Int32) (fd0 fd1 fd2 fd3 : Nat → Int64) : Prop :=
  sA s = ga ∧ (sC s 0 = c0 ∧ sC s 1 = c1 ∧ sC s 2 = c2 ∧ sC s 3 = c3) ∧ rowR fx (sO s) 48 ∧ sK s = on9 ∧ (sF s 0 = tb ∧ sF s 1 = tl ∧ sF s 2 = tt ∧ sF s 3 = wt ∧ sF s 4 = dt) ∧ sU s = un ∧ (rowR flo (sV s 0) c0 ∧ rowR fp (sV s 1) c1 ∧ rowR fcs (sV s 2) c1 ∧ rowR fmp (sV s 3) c2 ∧ rowR fmv (sV s 4) c2) ∧ (hwi = sV s 6 0 ∧ hdr = sV s 6 1) ∧ (nmC f n (sN s 0) c0 fd0 ∧ nmC f n (sN s 1) c1 fd1 ∧ nmC f n (sN s 2) c2 fd2 ∧ nmC f n (sN s 3) c3 fd3)
section RC
variable {f : Nat → Int32} {n : Nat} {s : AS} {ga c0 c1 c2 c3 : Nat} {fx : Nat → Int32} {on9 : Nat} {tb tl tt wt dt : Int32} {un : Nat} {flo fp fcs fmp fmv : Nat → Int32} {hwi hdr : Int32} {fd0 fd1 fd2 fd3 : Nat → Int64}
theorem rel_W {va ga2 : Nat} {fl2 : Nat → Int32} {fd : Nat → Int64} (h : relC f n s ga c0 c1 c2 c3 fx on9 tb tl tt wt dt un flo fp fcs fmp fmv hwi hdr fd0 fd1 fd2 fd3) (hn : nmC f n (updN (sN s 0) c0 (fin f n ga)) (c0 + 1) fd) (hf : fl2 = upd flo c0 (nI va)) : relC f n (tlW f n s (va, ga2)) ga2 (c0 + 1) c1 c2 c3 fx on9 tb tl tt wt dt un fl2 fp fcs fmp fmv hwi hdr fd fd1 fd2 fd3 := by
  obtain ⟨e0, ⟨e1, e2, e3, e4⟩, e5, e6, e7, e8, ⟨r0, r1, r2, r3, r4⟩, ⟨v0, v1⟩, n0, n1, n2, n3⟩ := h
  subst e0 e1 hf
  exact ⟨rfl, ⟨rfl, e2, e3, e4⟩, e5, e6, e7, e8, ⟨rowR_put r0 _, r1, r2, r3, r4⟩, ⟨v0, v1⟩, hn, n1, n2, n3⟩
theorem rel_P1 {pv va ga2 : Nat} {fa fb : Nat → Int32} {fd : Nat → Int64} (h : relC f n s ga c0 c1 c2 c3 fx on9 tb tl tt wt dt un flo fp fcs fmp fmv hwi hdr fd0 fd1 fd2 fd3) (hn : nmC f n (updN (sN s 1) c1 (fin f n ga)) (c1 + 1) fd) (ha : fa = upd fp c1 (nI pv)) (hb : fb = upd fcs c1 (nI va)) : relC f n (stP f n 1 1 2 s (pv, va, ga2)) ga2 c0 (c1 + 1) c2 c3 fx on9 tb tl tt wt dt un flo fa fb fmp fmv hwi hdr fd0 fd fd2 fd3 := by
  obtain ⟨e0, ⟨e1, e2, e3, e4⟩, e5, e6, e7, e8, ⟨r0, r1, r2, r3, r4⟩, ⟨v0, v1⟩, n0, n1, n2, n3⟩ := h
  subst e0 e2 ha hb
  exact ⟨rfl, ⟨e1, rfl, e3, e4⟩, e5, e6, e7, e8, ⟨r0, rowR_put r1 _, rowR_put r2 _, r3, r4⟩, ⟨v0, v1⟩, n0, hn, n2, n3⟩
theorem rel_P2 {pv va ga2 : Nat} {fa fb : Nat → Int32} {fd : Nat → Int64} (h : relC f n s ga c0 c1 c2 c3 fx on9 tb tl tt wt dt un flo fp fcs fmp fmv hwi hdr fd0 fd1 fd2 fd3) (hn : nmC f n (updN (sN s 2) c2 (fin f n ga)) (c2 + 1) fd) (ha : fa = upd fmp c2 (nI pv)) (hb : fb = upd fmv c2 (nI va)) : relC f n (stP f n 2 3 4 s (pv, va, ga2)) ga2 c0 c1 (c2 + 1) c3 fx on9 tb tl tt wt dt un flo fp fcs fa fb hwi hdr fd0 fd1 fd fd3 := by
  obtain ⟨e0, ⟨e1, e2, e3, e4⟩, e5, e6, e7, e8, ⟨r0, r1, r2, r3, r4⟩, ⟨v0, v1⟩, n0, n1, n2, n3⟩ := h
  subst e0 e3 ha hb
  exact ⟨rfl, ⟨e1, e2, rfl, e4⟩, e5, e6, e7, e8, ⟨r0, r1, r2, rowR_put r3 _, rowR_put r4 _⟩, ⟨v0, v1⟩, n0, n1, hn, n3⟩
theorem rel_S {va ga2 : Nat} {fd : Nat → Int64} (h : relC f n s ga c0 c1 c2 c3 fx on9 tb tl tt wt dt un flo fp fcs fmp fmv hwi hdr fd0 fd1 fd2 fd3) (hn : nmC f n (updN (sN s 3) c3 (fin f n ga)) (c3 + 1) fd) : relC f n (stS f n s (va, ga2)) ga2 c0 c1 c2 (c3 + 1) fx on9 tb tl tt wt dt un flo fp fcs fmp fmv hwi hdr fd0 fd1 fd2 fd := by
  obtain ⟨e0, ⟨e1, e2, e3, e4⟩, e5, e6, e7, e8, ⟨r0, r1, r2, r3, r4⟩, ⟨v0, v1⟩, n0, n1, n2, n3⟩ := h
  subst e0 e4
  exact ⟨rfl, ⟨e1, e2, e3, rfl⟩, e5, e6, e7, e8, ⟨r0, r1, r2, r3, r4⟩, ⟨v0, v1⟩, n0, n1, n2, hn⟩
theorem rel_O {ix to ga2 : Nat} {gx : Nat → Int32} (h : relC f n s ga c0 c1 c2 c3 fx on9 tb tl tt wt dt un flo fp fcs fmp fmv hwi hdr fd0 fd1 fd2 fd3) (hx : gx = upd fx ix (nI to)) : relC f n (stO s (ix, to, ga2)) ga2 c0 c1 c2 c3 gx (on9 + 1) tb tl tt wt dt un flo fp fcs fmp fmv hwi hdr fd0 fd1 fd2 fd3 := by
  obtain ⟨e0, e1, e5, e6, e7, e8, e9, e10, e11⟩ := h
  subst e6 hx
  exact ⟨rfl, e1, rowR_upd e5 _, rfl, e7, e8, e9, e10, e11⟩
theorem rel_F0 {u2 ga2 : Nat} {w9 : List Int32} (h : relC f n s ga c0 c1 c2 c3 fx on9 tb tl tt wt dt un flo fp fcs fmp fmv hwi hdr fd0 fd1 fd2 fd3) : relC f n (stF 0 s (u2, ga2, w9)) ga2 c0 c1 c2 c3 fx on9 1 tl tt wt dt u2 flo fp fcs fmp fmv hwi hdr fd0 fd1 fd2 fd3 := by
  obtain ⟨e0, e1, e5, e6, ⟨t0, t1, t2, t3, t4⟩, e8, e9, e10, e11⟩ := h
  exact ⟨rfl, e1, e5, e6, ⟨rfl, t1, t2, t3, t4⟩, rfl, e9, e10, e11⟩
theorem rel_F1 {u2 ga2 : Nat} {w9 : List Int32} (h : relC f n s ga c0 c1 c2 c3 fx on9 tb tl tt wt dt un flo fp fcs fmp fmv hwi hdr fd0 fd1 fd2 fd3) : relC f n (stF 1 s (u2, ga2, w9)) ga2 c0 c1 c2 c3 fx on9 tb 1 tt wt dt u2 flo fp fcs fmp fmv hwi hdr fd0 fd1 fd2 fd3 := by
  obtain ⟨e0, e1, e5, e6, ⟨t0, t1, t2, t3, t4⟩, e8, e9, e10, e11⟩ := h
  exact ⟨rfl, e1, e5, e6, ⟨t0, rfl, t2, t3, t4⟩, rfl, e9, e10, e11⟩
theorem rel_F2 {u2 ga2 : Nat} {w9 : List Int32} (h : relC f n s ga c0 c1 c2 c3 fx on9 tb tl tt wt dt un flo fp fcs fmp fmv hwi hdr fd0 fd1 fd2 fd3) : relC f n (stF 2 s (u2, ga2, w9)) ga2 c0 c1 c2 c3 fx on9 tb tl 1 wt dt u2 flo fp fcs fmp fmv hwi hdr fd0 fd1 fd2 fd3 := by
  obtain ⟨e0, e1, e5, e6, ⟨t0, t1, t2, t3, t4⟩, e8, e9, e10, e11⟩ := h
  exact ⟨rfl, e1, e5, e6, ⟨t0, t1, rfl, t3, t4⟩, rfl, e9, e10, e11⟩
theorem rel_D3 {va ga2 : Nat} (h : relC f n s ga c0 c1 c2 c3 fx on9 tb tl tt wt dt un flo fp fcs fmp fmv hwi hdr fd0 fd1 fd2 fd3) : relC f n (stD 3 0 s (va, ga2)) ga2 c0 c1 c2 c3 fx on9 tb tl tt 1 dt un flo fp fcs fmp fmv (nI va) hdr fd0 fd1 fd2 fd3 := by
  obtain ⟨e0, e1, e5, e6, ⟨t0, t1, t2, t3, t4⟩, e8, e9, e10, e11⟩ := h
  exact ⟨rfl, e1, e5, e6, ⟨t0, t1, t2, rfl, t4⟩, e8, e9, ⟨rfl, e10.2⟩, e11⟩
theorem rel_D4 {va ga2 : Nat} (h : relC f n s ga c0 c1 c2 c3 fx on9 tb tl tt wt dt un flo fp fcs fmp fmv hwi hdr fd0 fd1 fd2 fd3) : relC f n (stD 4 1 s (va, ga2)) ga2 c0 c1 c2 c3 fx on9 tb tl tt wt 1 un flo fp fcs fmp fmv hwi (nI va) fd0 fd1 fd2 fd3 := by
  obtain ⟨e0, e1, e5, e6, ⟨t0, t1, t2, t3, t4⟩, e8, e9, e10, e11⟩ := h
  exact ⟨rfl, e1, e5, e6, ⟨t0, t1, t2, t3, rfl⟩, e8, e9, ⟨e10.1, rfl⟩, e11⟩
end RC
/-- what kind of line a result speaks of -/
theorem lin_W {f : Nat → Int32} {n : Nat} {s : AS} {q : ER (Nat × Nat)} (hk : knd f n (sA s) = 100) (h : worS f n (sC s 0) (sN s 0) (sA s) = q) : linR f n s (bnd q fun x => .inr (tlW f n s x)) := Or.inl ⟨hk, by rw [h]⟩
theorem lin_P1 {f : Nat → Int32} {n : Nat} {s : AS} {q : ER (Nat × Nat × Nat)} (hk : knd f n (sA s) = 101) (h : plaS f n (sC s 1) (sN s 1) 119 (sA s) = q) : linR f n s (bnd q fun x => .inr (stP f n 1 1 2 s x)) := Or.inr (Or.inl ⟨hk, by rw [h]⟩)
theorem lin_P2 {f : Nat → Int32} {n : Nat} {s : AS} {q : ER (Nat × Nat × Nat)} (hk : knd f n (sA s) = 102) (h : plaS f n (sC s 2) (sN s 2) 111 (sA s) = q) : linR f n s (bnd q fun x => .inr (stP f n 2 3 4 s x)) := Or.inr (Or.inr (Or.inl ⟨hk, by rw [h]⟩))
theorem lin_S {f : Nat → Int32} {n : Nat} {s : AS} {q : ER (Nat × Nat)} (hk : knd f n (sA s) = 103) (h : staS f n (sC s 3) (sN s 3) (sA s) = q) : linR f n s (bnd q fun x => .inr (stS f n s x)) := Or.inr (Or.inr (Or.inr (Or.inl ⟨hk, by rw [h]⟩)))
theorem lin_O {f : Nat → Int32} {n : Nat} {s : AS} {q : ER (Nat × Nat × Nat)} (hk : knd f n (sA s) = 104) (h : onnS f n (sK s) (sC s 3) (sN s 3) (sC s 0) (sN s 0) (sO s) (sA s) = q) : linR f n s (bnd q fun x => .inr (stO s x)) := Or.inr (Or.inr (Or.inr (Or.inr (Or.inl ⟨hk, by rw [h]⟩))))
theorem lin_F {f : Nat → Int32} {n : Nat} {s : AS} {q : ER (Nat × Nat × List Int32)} (k : Nat) (h3 : k < 3) (hk : knd f n (sA s) = 105 + k) (h : frmR f n (sF s k) (sU s) (sA s) q) : linR f n s (bnd q fun x => .inr (stF k s x)) := Or.inr (Or.inr (Or.inr (Or.inr (Or.inr (Or.inl ⟨k, q, h3, hk, h, rfl⟩)))))
theorem lin_D3 {f : Nat → Int32} {n : Nat} {s : AS} {q : ER (Nat × Nat)} (hk : knd f n (sA s) = 108) (h : wndS f n (sF s 3) 9 (sA s) = q) : linR f n s (bnd q fun x => .inr (stD 3 0 s x)) := Or.inr (Or.inr (Or.inr (Or.inr (Or.inr (Or.inr (Or.inl ⟨hk, by rw [h]⟩))))))
theorem lin_D4 {f : Nat → Int32} {n : Nat} {s : AS} {q : ER (Nat × Nat)} (hk : knd f n (sA s) = 109) (h : wndS f n (sF s 4) 999 (sA s) = q) : linR f n s (bnd q fun x => .inr (stD 4 1 s x)) := Or.inr (Or.inr (Or.inr (Or.inr (Or.inr (Or.inr (Or.inr (Or.inl ⟨hk, by rw [h]⟩)))))))
theorem lin_N {f : Nat → Int32} {n : Nat} {s : AS} (hk : ¬ (100 ≤ knd f n (sA s) ∧ knd f n (sA s) ≤ 109)) : linR f n s (.inl (2, sA s)) := Or.inr (Or.inr (Or.inr (Or.inr (Or.inr (Or.inr (Or.inr (Or.inr ⟨hk, rfl⟩)))))))
/-- the class's NEXT and the ons of it: where one looks, they are the same -/
theorem onnS_row {f : Nat → Int32} {n ons cs cw a : Nat} {nps npw : Nat → Nat} {on on' : Nat → Int32} (hs : cs ≤ 6) (hw : cw ≤ 8) (h : rowR on on' (8 * cs)) : onnS f n ons cs nps cw npw on a = onnS f n ons cs nps cw npw on' a := by
  unfold onnS
  by_cases h30 : 30 ≤ ons
  · rw [if_pos h30, if_pos h30]
  · rw [if_neg h30, if_neg h30]
    have hk : ∀ c np b, (∃ e, knoS f n c np b = .inl e) ∨ (∃ j, j < c ∧ knoS f n c np b = .inr j) := by
      intro c np b
      unfold knoS
      by_cases h1 : knd f n b = 1
      · rw [if_pos h1]
        by_cases h2 : fnd f n np c b < c
        · rw [if_pos h2]; exact Or.inr ⟨_, h2, rfl⟩
        · rw [if_neg h2]; exact Or.inl ⟨_, rfl⟩
      · rw [if_neg h1]; exact Or.inl ⟨_, rfl⟩
    rcases hk cs nps (fin f n a) with ⟨e, h1⟩ | ⟨j, hj, h1⟩
    · rw [bnd_l _ h1, bnd_l _ h1]
    · rw [bnd_r _ h1, bnd_r _ h1]
      rcases hk cw npw (fin f n (fin f n a)) with ⟨e, h2⟩ | ⟨i, hi, h2⟩
      · rw [bnd_l _ h2, bnd_l _ h2]
      · rw [bnd_r _ h2, bnd_r _ h2]
        show (if on (j * 8 + i) = -1 then _ else _) = (if on' (j * 8 + i) = -1 then _ else _)
        rw [h (j * 8 + i) (by omega)]
section RC2
variable {f : Nat → Int32} {n : Nat} {s : AS} {ga c0 c1 c2 c3 : Nat} {fx : Nat → Int32} {on9 : Nat} {tb tl tt wt dt : Int32} {un : Nat} {flo fp fcs fmp fmv : Nat → Int32} {hwi hdr : Int32} {fd0 fd1 fd2 fd3 : Nat → Int64}
theorem lc_W {q : ER (Nat × Nat)} (h : relC f n s ga c0 c1 c2 c3 fx on9 tb tl tt wt dt un flo fp fcs fmp fmv hwi hdr fd0 fd1 fd2 fd3) (hk : knd f n ga = 100) (he : worS f n c0 (sN s 0) ga = q) : linR f n s (bnd q fun x => .inr (tlW f n s x)) := by
  obtain ⟨e0, ⟨e1, e2, e3, e4⟩, -⟩ := h
  subst e0 e1; exact lin_W hk he
theorem lc_P1 {q : ER (Nat × Nat × Nat)} (h : relC f n s ga c0 c1 c2 c3 fx on9 tb tl tt wt dt un flo fp fcs fmp fmv hwi hdr fd0 fd1 fd2 fd3) (hk : knd f n ga = 101) (he : plaS f n c1 (sN s 1) 119 ga = q) : linR f n s (bnd q fun x => .inr (stP f n 1 1 2 s x)) := by
  obtain ⟨e0, ⟨e1, e2, e3, e4⟩, -⟩ := h
  subst e0 e2; exact lin_P1 hk he
theorem lc_P2 {q : ER (Nat × Nat × Nat)} (h : relC f n s ga c0 c1 c2 c3 fx on9 tb tl tt wt dt un flo fp fcs fmp fmv hwi hdr fd0 fd1 fd2 fd3) (hk : knd f n ga = 102) (he : plaS f n c2 (sN s 2) 111 ga = q) : linR f n s (bnd q fun x => .inr (stP f n 2 3 4 s x)) := by
  obtain ⟨e0, ⟨e1, e2, e3, e4⟩, -⟩ := h
  subst e0 e3; exact lin_P2 hk he
theorem lc_S {q : ER (Nat × Nat)} (h : relC f n s ga c0 c1 c2 c3 fx on9 tb tl tt wt dt un flo fp fcs fmp fmv hwi hdr fd0 fd1 fd2 fd3) (hk : knd f n ga = 103) (he : staS f n c3 (sN s 3) ga = q) : linR f n s (bnd q fun x => .inr (stS f n s x)) := by
  obtain ⟨e0, ⟨e1, e2, e3, e4⟩, -⟩ := h
  subst e0 e4; exact lin_S hk he
theorem lc_O {q : ER (Nat × Nat × Nat)} (h : relC f n s ga c0 c1 c2 c3 fx on9 tb tl tt wt dt un flo fp fcs fmp fmv hwi hdr fd0 fd1 fd2 fd3) (h0 : c0 ≤ 8) (h3 : c3 ≤ 6) (hk : knd f n ga = 104) (he : onnS f n on9 c3 (sN s 3) c0 (sN s 0) fx ga = q) : linR f n s (bnd q fun x => .inr (stO s x)) := by
  obtain ⟨e0, ⟨e1, e2, e3, e4⟩, e5, e6, -⟩ := h
  subst e0 e1 e4 e6
  rw [onnS_row h3 h0 (fun i hi => e5 i (by omega))] at he
  exact lin_O hk he
theorem lc_F0 {q : ER (Nat × Nat × List Int32)} (h : relC f n s ga c0 c1 c2 c3 fx on9 tb tl tt wt dt un flo fp fcs fmp fmv hwi hdr fd0 fd1 fd2 fd3) (hk : knd f n ga = 105) (he : frmR f n tb un ga q) : linR f n s (bnd q fun x => .inr (stF 0 s x)) := by
  obtain ⟨e0, e1, e5, e6, ⟨t0, t1, t2, t3, t4⟩, e8, -⟩ := h
  subst e0 t0 e8; exact lin_F 0 (by decide) hk he
theorem lc_F1 {q : ER (Nat × Nat × List Int32)} (h : relC f n s ga c0 c1 c2 c3 fx on9 tb tl tt wt dt un flo fp fcs fmp fmv hwi hdr fd0 fd1 fd2 fd3) (hk : knd f n ga = 106) (he : frmR f n tl un ga q) : linR f n s (bnd q fun x => .inr (stF 1 s x)) := by
  obtain ⟨e0, e1, e5, e6, ⟨t0, t1, t2, t3, t4⟩, e8, -⟩ := h
  subst e0 t1 e8; exact lin_F 1 (by decide) hk he
theorem lc_F2 {q : ER (Nat × Nat × List Int32)} (h : relC f n s ga c0 c1 c2 c3 fx on9 tb tl tt wt dt un flo fp fcs fmp fmv hwi hdr fd0 fd1 fd2 fd3) (hk : knd f n ga = 107) (he : frmR f n tt un ga q) : linR f n s (bnd q fun x => .inr (stF 2 s x)) := by
  obtain ⟨e0, e1, e5, e6, ⟨t0, t1, t2, t3, t4⟩, e8, -⟩ := h
  subst e0 t2 e8; exact lin_F 2 (by decide) hk he
theorem lc_D3 {q : ER (Nat × Nat)} (h : relC f n s ga c0 c1 c2 c3 fx on9 tb tl tt wt dt un flo fp fcs fmp fmv hwi hdr fd0 fd1 fd2 fd3) (hk : knd f n ga = 108) (he : wndS f n wt 9 ga = q) : linR f n s (bnd q fun x => .inr (stD 3 0 s x)) := by
  obtain ⟨e0, e1, e5, e6, ⟨t0, t1, t2, t3, t4⟩, e8, -⟩ := h
  subst e0 t3; exact lin_D3 hk he
theorem lc_D4 {q : ER (Nat × Nat)} (h : relC f n s ga c0 c1 c2 c3 fx on9 tb tl tt wt dt un flo fp fcs fmp fmv hwi hdr fd0 fd1 fd2 fd3) (hk : knd f n ga = 109) (he : wndS f n dt 999 ga = q) : linR f n s (bnd q fun x => .inr (stD 4 1 s x)) := by
  obtain ⟨e0, e1, e5, e6, ⟨t0, t1, t2, t3, t4⟩, e8, -⟩ := h
  subst e0 t4; exact lin_D4 hk he
theorem lc_N (h : relC f n s ga c0 c1 c2 c3 fx on9 tb tl tt wt dt un flo fp fcs fmp fmv hwi hdr fd0 fd1 fd2 fd3) (hk : ¬ (100 ≤ knd f n ga ∧ knd f n ga ≤ 109)) : linR f n s (.inl (2, ga)) := by
  obtain ⟨e0, -⟩ := h
  subst e0; exact lin_N hk
theorem relC_0 {f : Nat → Int32} {n : Nat} {fx flo fp fcs fmp fmv : Nat → Int32} {fd0 fd1 fd2 fd3 : Nat → Int64} (hx : ∀ k, k < 48 → fx k = -1) : relC f n aS0 0 0 0 0 0 fx 0 0 0 0 0 0 0 flo fp fcs fmp fmv 0 0 fd0 fd1 fd2 fd3 :=
  ⟨rfl, ⟨rfl, rfl, rfl, rfl⟩, hx, rfl, ⟨rfl, rfl, rfl, rfl, rfl⟩, rfl, ⟨fun i h => absurd h (Nat.not_lt_zero i), fun i h => absurd h (Nat.not_lt_zero i), fun i h => absurd h (Nat.not_lt_zero i), fun i h => absurd h (Nat.not_lt_zero i), fun i h => absurd h (Nat.not_lt_zero i)⟩, ⟨rfl, rfl⟩, fun i h => absurd h (Nat.not_lt_zero i), fun i h => absurd h (Nat.not_lt_zero i), fun i h => absurd h (Nat.not_lt_zero i), fun i h => absurd h (Nat.not_lt_zero i)⟩
theorem relC_at (h : relC f n s ga c0 c1 c2 c3 fx on9 tb tl tt wt dt un flo fp fcs fmp fmv hwi hdr fd0 fd1 fd2 fd3) : sA s = ga := h.1
theorem relC_nm (h : relC f n s ga c0 c1 c2 c3 fx on9 tb tl tt wt dt un flo fp fcs fmp fmv hwi hdr fd0 fd1 fd2 fd3) : nmC f n (sN s 0) c0 fd0 ∧ nmC f n (sN s 1) c1 fd1 ∧ nmC f n (sN s 2) c2 fd2 ∧ nmC f n (sN s 3) c3 fd3 := h.2.2.2.2.2.2.2.2
end RC2
/-! what the class holds of formulas and of yes -/
theorem chA_L {fc : Nat → Int32} (L : List Int32) : ∀ (i d : Nat), (∀ k, k < L.length → fc (i + k) = L.getD k 0) → chA fc L.length i d = chk L d := by
  induction L with
  | nil => intro i d _; rfl
  | cons x r ih =>
    intro i d h
    have h0 : fc i = x := h 0 (by rw [List.length_cons]; omega)
    have hr : ∀ e, chA fc r.length (i + 1) e = chk r e := fun e => ih (i + 1) e (fun k hk => by
      have h9 := h (k + 1) (by rw [List.length_cons]; omega)
      rw [show i + 1 + k = i + (k + 1) by omega, h9]
      rfl)
    show (if fc i = 20116 then (if 1 ≤ d then chA fc r.length (i + 1) d else none) else if 20000 ≤ fc i then (if 2 ≤ d then chA fc r.length (i + 1) (d - 1) else none) else (if d < 31 then chA fc r.length (i + 1) (d + 1) else none)) = (if x = 20116 then (if 1 ≤ d then chk r d else none) else if 20000 ≤ x then (if 2 ≤ d then chk r (d - 1) else none) else (if d < 31 then chk r (d + 1) else none))
    rw [h0, hr d, hr (d - 1), hr (d + 1)]
theorem chA_ex {f fc : Nat → Int32} {n : Nat} {L : List Int32} {d : Nat} (h : exC f 0 fc n L) : chA fc n 0 d = chk L d := by
  obtain ⟨h1, h2, h3⟩ := h
  have e : n = L.length := by omega
  subst e
  exact chA_L L 0 d h3
/-- a formula's code is the row L, which can be worked -/
def fmC (t : Int32) (fc : Nat → Int32) (nf : Nat) (L : List Int32) : Prop := (t = 0 → nf = 0) ∧ (¬ t = 0 → exC fc 0 fc nf L ∧ chk L 0 = some 1)
theorem fmC_W {t : Int32} {fc : Nat → Int32} {nf : Nat} {L : List Int32} (h : fmC t fc nf L) : fmW t fc nf := fun ht => (chA_ex (h.2 ht).1).trans (h.2 ht).2
theorem fmC_0 {fc : Nat → Int32} {L : List Int32} : fmC 0 fc 0 L := ⟨fun _ => rfl, fun h => absurd rfl h⟩
theorem fmC_mk {K nx : Nat → Nat} {cd : Nat → Int32} {f fc : Nat → Int32} {t : Int32} {n nf a u a2 o2 u2 : Nat} {L L0 : List Int32} (h0 : fmC t f n L0) (ht : t = 0) (h : exC f n fc nf L) (hk : okS K nx cd 1 0 a 0 u a2 o2 u2 L) (ho : o2 ≤ 30) : fmC 1 fc nf L := by
  have hn := h0.1 ht
  subst hn
  refine ⟨fun h9 => absurd h9 (by decide), fun _ => ⟨⟨h.1, fun i hi => absurd hi (Nat.not_lt_zero i), h.2.2⟩, ?_⟩⟩
  exact hk.1.2.2 0 (by omega)
/-- the STATES that are yes, as bits -/
def ysR (ys : Int32) (c : Nat) (f : Nat → Int32) : Prop := (∃ m : Nat, m < 64 ∧ ys = nI m) ∧ ∀ i, i < 6 → ((ys >>> (nI i &&& 31)) &&& 1) = (if i < c then f i else 0)
def ysN (v : Nat) (c : Nat) (ys : Int32) : Int32 := if v = 0 then ys else ys ||| (1 <<< (nI c &&& 31))
theorem ysR_0 {f : Nat → Int32} : ysR 0 0 f := by
  refine ⟨⟨0, by decide, rfl⟩, fun i hi => ?_⟩
  rw [if_neg (Nat.not_lt_zero i)]
  have h9 : (List.range 6).all (fun i => decide (((0 : Int32) >>> (nI i &&& 31)) &&& 1 = 0)) = true := by decide +kernel
  exact of_decide_eq_true (List.all_eq_true.mp h9 i (List.mem_range.mpr hi))
theorem ys_or {m c i : Nat} (hm : m < 64) (hc : c < 6) (hi : i < 6) : (∃ k : Nat, k < 64 ∧ nI m ||| (1 <<< (nI c &&& 31)) = nI k) ∧ (((nI m ||| (1 <<< (nI c &&& 31))) >>> (nI i &&& 31)) &&& 1) = (if i = c then 1 else (nI m >>> (nI i &&& 31)) &&& 1) := by
  have h : (List.range 64).all (fun m => (List.range 6).all (fun c => (List.range 6).all (fun i => decide (nI m ||| (1 <<< (nI c &&& 31)) = nI (if m / 2 ^ c % 2 = 1 then m else m + 2 ^ c) ∧ (if m / 2 ^ c % 2 = 1 then m else m + 2 ^ c) < 64 ∧ (((nI m ||| (1 <<< (nI c &&& 31))) >>> (nI i &&& 31)) &&& 1) = (if i = c then 1 else (nI m >>> (nI i &&& 31)) &&& 1))))) = true := by decide +kernel
  have h9 := of_decide_eq_true (List.all_eq_true.mp (List.all_eq_true.mp (List.all_eq_true.mp h m (List.mem_range.mpr hm)) c (List.mem_range.mpr hc)) i (List.mem_range.mpr hi))
  exact ⟨⟨_, h9.2.1, h9.1⟩, h9.2.2⟩
theorem ysR_put {ys : Int32} {c v : Nat} {f : Nat → Int32} (h : ysR ys c f) (hc : c < 6) (hv : v ≤ 1) : ysR (ysN v c ys) (c + 1) (upd f c (nI v)) := by
  obtain ⟨⟨m, hm, em⟩, hb⟩ := h
  rcases (show v = 0 ∨ v = 1 by omega) with e | e <;> subst e
  · refine ⟨⟨m, hm, em⟩, fun i hi => ?_⟩
    show (ys >>> (nI i &&& 31)) &&& 1 = _
    rw [hb i hi]
    by_cases q : i = c
    · rw [q, pk_us, if_neg (Nat.lt_irrefl c), if_pos (Nat.lt_succ_self c)]; rfl
    · rw [pk_un q]
      by_cases q2 : i < c
      · rw [if_pos q2, if_pos (by omega)]
      · rw [if_neg q2, if_neg (by omega)]
  · have e1 : ysN 1 c ys = nI m ||| (1 <<< (nI c &&& 31)) := by rw [em]; rfl
    rw [e1]
    refine ⟨(ys_or hm hc hc).1, fun i hi => ?_⟩
    rw [(ys_or hm hc hi).2]
    by_cases q : i = c
    · rw [q, pk_us, if_pos rfl, if_pos (Nat.lt_succ_self c)]; rfl
    · rw [pk_un q, if_neg q, ← em, hb i hi]
      by_cases q2 : i < c
      · rw [if_pos q2, if_pos (by omega)]
      · rw [if_neg q2, if_neg (by omega)]
/-- what the class holds of formulas and of yes, in one -/
def relL (s : AS) (ys : Int32) (c3 : Nat) (tb : Int32) (cb : Nat → Int32) (nb : Nat) (tl : Int32) (cl : Nat → Int32) (nl : Nat) (tt : Int32) (ct : Nat → Int32) (nt : Nat) : Prop := fmC tb cb nb (sL s 0) ∧ fmC tl cl nl (sL s 1) ∧ fmC tt ct nt (sL s 2) ∧ ysR ys c3 (sV s 5)
section RL
variable {f : Nat → Int32} {n : Nat} {s : AS} {ys : Int32} {c3 : Nat} {tb tl tt : Int32} {cb cl ct : Nat → Int32} {nb nl nt : Nat}
theorem rlL_W {x : Nat × Nat} (h : relL s ys c3 tb cb nb tl cl nl tt ct nt) : relL (tlW f n s x) ys c3 tb cb nb tl cl nl tt ct nt := h
theorem rlL_P1 {x : Nat × Nat × Nat} (h : relL s ys c3 tb cb nb tl cl nl tt ct nt) : relL (stP f n 1 1 2 s x) ys c3 tb cb nb tl cl nl tt ct nt := h
theorem rlL_P2 {x : Nat × Nat × Nat} (h : relL s ys c3 tb cb nb tl cl nl tt ct nt) : relL (stP f n 2 3 4 s x) ys c3 tb cb nb tl cl nl tt ct nt := h
theorem rlL_O {x : Nat × Nat × Nat} (h : relL s ys c3 tb cb nb tl cl nl tt ct nt) : relL (stO s x) ys c3 tb cb nb tl cl nl tt ct nt := h
theorem rlL_D3 {x : Nat × Nat} (h : relL s ys c3 tb cb nb tl cl nl tt ct nt) : relL (stD 3 0 s x) ys c3 tb cb nb tl cl nl tt ct nt := h
theorem rlL_D4 {x : Nat × Nat} (h : relL s ys c3 tb cb nb tl cl nl tt ct nt) : relL (stD 4 1 s x) ys c3 tb cb nb tl cl nl tt ct nt := h
theorem rlL_S {v g : Nat} {ys2 : Int32} (h : relL s ys c3 tb cb nb tl cl nl tt ct nt) (hc : sC s 3 = c3) (h6 : c3 < 6) (hv : v ≤ 1) (hy : ys2 = ysN v c3 ys) : relL (stS f n s (v, g)) ys2 (c3 + 1) tb cb nb tl cl nl tt ct nt := by
  obtain ⟨h1, h2, h3, h4⟩ := h
  refine ⟨h1, h2, h3, ?_⟩
  rw [hy]
  show ysR _ _ (upd (sV s 5) (sC s 3) (nI v))
  rw [hc]
  exact ysR_put h4 h6 hv
theorem rlL_F0 {u g : Nat} {w : List Int32} {cb2 : Nat → Int32} {nb2 : Nat} (h : relL s ys c3 tb cb nb tl cl nl tt ct nt) (hf : fmC 1 cb2 nb2 w) : relL (stF 0 s (u, g, w)) ys c3 1 cb2 nb2 tl cl nl tt ct nt := ⟨hf, h.2.1, h.2.2.1, h.2.2.2⟩
theorem rlL_F1 {u g : Nat} {w : List Int32} {cl2 : Nat → Int32} {nl2 : Nat} (h : relL s ys c3 tb cb nb tl cl nl tt ct nt) (hf : fmC 1 cl2 nl2 w) : relL (stF 1 s (u, g, w)) ys c3 tb cb nb 1 cl2 nl2 tt ct nt := ⟨h.1, hf, h.2.2.1, h.2.2.2⟩
theorem rlL_F2 {u g : Nat} {w : List Int32} {ct2 : Nat → Int32} {nt2 : Nat} (h : relL s ys c3 tb cb nb tl cl nl tt ct nt) (hf : fmC 1 ct2 nt2 w) : relL (stF 2 s (u, g, w)) ys c3 tb cb nb tl cl nl 1 ct2 nt2 := ⟨h.1, h.2.1, hf, h.2.2.2⟩
theorem relL_0 {cb cl ct : Nat → Int32} : relL aS0 0 0 0 cb 0 0 cl 0 0 ct 0 := ⟨fmC_0, fmC_0, fmC_0, ysR_0⟩
theorem relL_W (h : relL s ys c3 tb cb nb tl cl nl tt ct nt) : fmW tb cb nb ∧ fmW tl cl nl ∧ fmW tt ct nt := ⟨fmC_W h.1, fmC_W h.2.1, fmC_W h.2.2.1⟩
end RL
/-! what is so of all that a text told: yes is 0 or 1, places are at most 99, what is told already is 0 or 1 -/
def okA (s : AS) : Prop := (∀ i, i < sC s 3 → sV s 5 i = 0 ∨ sV s 5 i = 1) ∧ (∀ i, i < sC s 1 → ∃ j : Nat, j ≤ 99 ∧ sV s 1 i = nI j) ∧ (∀ i, i < sC s 2 → ∃ j : Nat, j ≤ 99 ∧ sV s 3 i = nI j) ∧ (∀ k, sF s k = 0 ∨ sF s k = 1) ∧ (∀ k, k < 3 → ¬ sF s k = 0 → ¬ sL s k = []) ∧ ∀ k, sO s k = -1 ∨ ∃ j : Nat, j < sC s 3 ∧ sO s k = nI j
theorem okA_0 : okA aS0 := ⟨fun i h => absurd h (Nat.not_lt_zero i), fun i h => absurd h (Nat.not_lt_zero i), fun i h => absurd h (Nat.not_lt_zero i), fun _ => Or.inl rfl, fun _ _ h => absurd rfl h, fun _ => Or.inl rfl⟩
theorem numS_le {f : Nat → Int32} {n mo a : Nat} {x : Nat × Nat} (h : numS f n mo a = .inr x) : x.1 ≤ mo := by
  unfold numS at h
  by_cases e : knd f n a = 2
  · rw [if_pos e] at h
    by_cases q : mo < num f n a
    · rw [if_pos q] at h; cases h
    · rw [if_neg q] at h; cases h; exact Nat.le_of_not_lt q
  · rw [if_neg e] at h; cases h
theorem bnd_inv {α β : Type} {x : ER α} {g : α → ER β} {b : β} (h : bnd x g = .inr b) : ∃ a, x = .inr a ∧ g a = .inr b := by
  cases x with
  | inl e => cases h
  | inr a => exact ⟨a, rfl, h⟩
theorem plaS_le {f : Nat → Int32} {n c key a : Nat} {np : Nat → Nat} {x : Nat × Nat × Nat} (h : plaS f n c np key a = .inr x) : x.1 ≤ 99 := by
  unfold plaS at h
  obtain ⟨b, _, h⟩ := bnd_inv h
  obtain ⟨b2, _, h⟩ := bnd_inv h
  obtain ⟨y, hy, h⟩ := bnd_inv h
  obtain ⟨z, _, h⟩ := bnd_inv h
  obtain ⟨e, _, h⟩ := bnd_inv h
  cases h
  exact numS_le hy
theorem staS_01 {f : Nat → Int32} {n c a : Nat} {np : Nat → Nat} {x : Nat × Nat} (h : staS f n c np a = .inr x) : nI x.1 = 0 ∨ nI x.1 = 1 := by
  unfold staS at h
  obtain ⟨b, _, h⟩ := bnd_inv h
  by_cases e : knd f n b = 112
  · rw [if_pos e] at h
    obtain ⟨b2, _, h⟩ := bnd_inv h
    cases h
    exact Or.inr rfl
  · rw [if_neg e] at h
    obtain ⟨b2, _, h⟩ := bnd_inv h
    cases h
    exact Or.inl rfl
theorem rg_put {P : Int32 → Prop} {g : Nat → Int32} {c : Nat} {x : Int32} (h : ∀ i, i < c → P (g i)) (hx : P x) : ∀ i, i < c + 1 → P (upd g c x i) := by
  intro i hi
  by_cases e : i = c
  · rw [e, pk_us]; exact hx
  · rw [pk_un e]; exact h i (by omega)
theorem fl_put {g : Nat → Int32} {k : Nat} (h : ∀ j, g j = 0 ∨ g j = 1) : ∀ j, upA g k 1 j = 0 ∨ upA g k 1 j = 1 := by
  intro j
  by_cases e : j = k
  · rw [e, upA_s]; exact Or.inr rfl
  · rw [upA_n e]; exact h j
theorem frmR_ne {f : Nat → Int32} {n u a : Nat} {told : Int32} {x : Nat × Nat × List Int32} (h : frmR f n told u a (.inr x)) : ¬ x.2.2 = [] := by
  unfold frmR at h
  by_cases ht : told = 0
  · rw [if_pos ht] at h
    rcases h with ⟨b, u2, w, h1, h2⟩ | ⟨b, _, h2⟩
    · cases h2
      exact h1.ne
    · cases h2
  · rw [if_neg ht] at h
    cases h
theorem tl_put {g : Nat → Int32} {L : Nat → List Int32} {k : Nat} {w : List Int32} (h : ∀ j, j < 3 → ¬ g j = 0 → ¬ L j = []) (hw : ¬ w = []) : ∀ j, j < 3 → ¬ upA g k 1 j = 0 → ¬ upA L k w j = [] := by
  intro j hj h1
  by_cases e : j = k
  · rw [e, upA_s]; exact hw
  · rw [upA_n e] at h1 ⊢
    exact h j hj h1
theorem tl_keep {g : Nat → Int32} {L : Nat → List Int32} {k : Nat} (hk : 3 ≤ k) (h : ∀ j, j < 3 → ¬ g j = 0 → ¬ L j = []) : ∀ j, j < 3 → ¬ upA g k 1 j = 0 → ¬ L j = [] := by
  intro j hj h1
  rw [upA_n (by omega)] at h1
  exact h j hj h1
theorem knoS_lt {f : Nat → Int32} {n c a x : Nat} {np : Nat → Nat} (h : knoS f n c np a = .inr x) : x < c := by
  unfold knoS at h
  by_cases c1 : knd f n a = 1
  · rw [if_pos c1] at h
    by_cases c2 : fnd f n np c a < c
    · rw [if_pos c2] at h; cases h; exact c2
    · rw [if_neg c2] at h; cases h
  · rw [if_neg c1] at h; cases h
theorem onnS_lt {f : Nat → Int32} {n ons cs cw a : Nat} {nps npw : Nat → Nat} {on : Nat → Int32} {x : Nat × Nat × Nat} (h : onnS f n ons cs nps cw npw on a = .inr x) : x.2.1 < cs := by
  unfold onnS at h
  by_cases c : 30 ≤ ons
  · rw [if_pos c] at h; cases h
  · rw [if_neg c] at h
    obtain ⟨s, _, h⟩ := bnd_inv h
    obtain ⟨w, _, h⟩ := bnd_inv h
    by_cases c2 : on (s * 8 + w) = -1
    · rw [if_pos c2] at h
      obtain ⟨b, _, h⟩ := bnd_inv h
      obtain ⟨to, ht, h⟩ := bnd_inv h
      obtain ⟨e, _, h⟩ := bnd_inv h
      cases h
      exact knoS_lt ht
    · rw [if_neg c2] at h; cases h
theorem on_put {g : Nat → Int32} {c k j : Nat} (h : ∀ q, g q = -1 ∨ ∃ i : Nat, i < c ∧ g q = nI i) (hj : j < c) : ∀ q, upd g k (nI j) q = -1 ∨ ∃ i : Nat, i < c ∧ upd g k (nI j) q = nI i := by
  intro q
  by_cases e : q = k
  · rw [e, pk_us]; exact Or.inr ⟨j, hj, rfl⟩
  · rw [pk_un e]; exact h q
theorem linR_ok {f : Nat → Int32} {n : Nat} {s s2 : AS} (h : linR f n s (.inr s2)) (o : okA s) : okA s2 := by
  obtain ⟨o1, o2, o3, o4, o5, o6⟩ := o
  unfold linR at h
  rcases h with ⟨_, h⟩ | ⟨_, h⟩ | ⟨_, h⟩ | ⟨_, h⟩ | ⟨_, h⟩ | ⟨k, q, hk, _, hq, h⟩ | ⟨_, h⟩ | ⟨_, h⟩ | ⟨_, h⟩
  · obtain ⟨x, hx, h⟩ := bnd_inv h.symm
    cases h
    exact ⟨o1, o2, o3, o4, o5, o6⟩
  · obtain ⟨x, hx, h⟩ := bnd_inv h.symm
    cases h
    refine ⟨o1, ?_, o3, o4, o5, o6⟩
    exact rg_put (P := fun y => ∃ j : Nat, j ≤ 99 ∧ y = nI j) o2 ⟨x.1, plaS_le hx, rfl⟩
  · obtain ⟨x, hx, h⟩ := bnd_inv h.symm
    cases h
    refine ⟨o1, o2, ?_, o4, o5, o6⟩
    exact rg_put (P := fun y => ∃ j : Nat, j ≤ 99 ∧ y = nI j) o3 ⟨x.1, plaS_le hx, rfl⟩
  · obtain ⟨x, hx, h⟩ := bnd_inv h.symm
    cases h
    refine ⟨?_, o2, o3, o4, o5, fun k => (o6 k).imp id (fun ⟨j, h1, h2⟩ => ⟨j, Nat.lt_succ_of_lt h1, h2⟩)⟩
    exact rg_put (P := fun y => y = 0 ∨ y = 1) o1 (staS_01 hx)
  · obtain ⟨x, hx, h⟩ := bnd_inv h.symm
    cases h
    exact ⟨o1, o2, o3, o4, o5, on_put o6 (onnS_lt hx)⟩
  · obtain ⟨x, hx, h⟩ := bnd_inv h.symm
    cases h
    exact ⟨o1, o2, o3, fl_put o4, tl_put o5 (frmR_ne (hx ▸ hq)), o6⟩
  · obtain ⟨x, hx, h⟩ := bnd_inv h.symm
    cases h
    exact ⟨o1, o2, o3, fl_put o4, tl_keep (by decide) o5, o6⟩
  · obtain ⟨x, hx, h⟩ := bnd_inv h.symm
    cases h
    exact ⟨o1, o2, o3, fl_put o4, tl_keep (by decide) o5, o6⟩
  · cases h
theorem prs_ok {f : Nat → Int32} {n : Nat} (k : Nat) : ∀ (s s2 : AS), prs f n k s (.inr s2) → okA s → okA s2 := by
  induction k with
  | zero => intro s s2 h; exact h.elim
  | succ k ih =>
    intro s s2 h o
    rcases h with ⟨_, h⟩ | ⟨_, ⟨e, _, h⟩ | ⟨s3, h1, h2⟩⟩
    · cases h; exact o
    · cases h
    · exact ih s3 s2 h2 (linR_ok h1 o)
theorem PR_ok {f : Nat → Int32} {n : Nat} {s s2 : AS} (h : PR f n s (.inr s2)) (o : okA s) : okA s2 := h.elim fun k hk => prs_ok k s s2 hk o
