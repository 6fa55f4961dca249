/-! all that a text told so far: place, counts, names (their places), ons, how many ons, what is told already, units, values -/
abbrev AS : Type := Nat × (Nat → Nat) × (Nat → Nat → Nat) × (Nat → Int32) × Nat × (Nat → Int32) × Nat × (Nat → Nat → Int32)
def upA {α : Type} (f : Nat → α) (k : Nat) (v : α) : Nat → α := fun j => if j = k then v else f j
abbrev sA (s : AS) : Nat := s.1
abbrev sC (s : AS) : Nat → Nat := s.2.1
abbrev sN (s : AS) : Nat → Nat → Nat := s.2.2.1
abbrev sO (s : AS) : Nat → Int32 := s.2.2.2.1
abbrev sK (s : AS) : Nat := s.2.2.2.2.1
abbrev sF (s : AS) : Nat → Int32 := s.2.2.2.2.2.1
abbrev sU (s : AS) : Nat := s.2.2.2.2.2.2.1
abbrev sV (s : AS) : Nat → Nat → Int32 := s.2.2.2.2.2.2.2
def aS0 : AS := (0, fun _ => 0, fun _ _ => 0, fun _ => -1, 0, fun _ => 0, 0, fun _ _ => 0)
def tlW (f : Nat → Int32) (n : Nat) (s : AS) (x : Nat × Nat) : AS := (x.2, upA (sC s) 0 (sC s 0 + 1), upA (sN s) 0 (updN (sN s 0) (sC s 0) (fin f n (sA s))), sO s, sK s, sF s, sU s, upA (sV s) 0 (upd (sV s 0) (sC s 0) (nI x.1)))
def stP (f : Nat → Int32) (n k v w : Nat) (s : AS) (x : Nat × Nat × Nat) : AS := (x.2.2, upA (sC s) k (sC s k + 1), upA (sN s) k (updN (sN s k) (sC s k) (fin f n (sA s))), sO s, sK s, sF s, sU s, upA (upA (sV s) v (upd (sV s v) (sC s k) (nI x.1))) w (upd (sV s w) (sC s k) (nI x.2.1)))
def stS (f : Nat → Int32) (n : Nat) (s : AS) (x : Nat × Nat) : AS := (x.2, upA (sC s) 3 (sC s 3 + 1), upA (sN s) 3 (updN (sN s 3) (sC s 3) (fin f n (sA s))), sO s, sK s, sF s, sU s, upA (sV s) 5 (upd (sV s 5) (sC s 3) (nI x.1)))
def stO (s : AS) (x : Nat × Nat × Nat) : AS := (x.2.2, sC s, sN s, upd (sO s) x.1 (nI x.2.1), sK s + 1, sF s, sU s, sV s)
def stF (k : Nat) (s : AS) (x : Nat × Nat) : AS := (x.2, sC s, sN s, sO s, sK s, upA (sF s) k 1, x.1, sV s)
def stD (k v : Nat) (s : AS) (x : Nat × Nat) : AS := (x.2, sC s, sN s, sO s, sK s, upA (sF s) k 1, sU s, upA (sV s) 6 (upd (sV s 6) v (nI x.1)))
def linR (f : Nat → Int32) (n : Nat) (s : AS) (r : ER AS) : Prop :=
  (knd f n (sA s) = 100 ∧ r = bnd (worS f n (sC s 0) (sN s 0) (sA s)) fun x => .inr (tlW f n s x)) ∨
  (knd f n (sA s) = 101 ∧ r = bnd (plaS f n (sC s 1) (sN s 1) 119 (sA s)) fun x => .inr (stP f n 1 1 2 s x)) ∨
  (knd f n (sA s) = 102 ∧ r = bnd (plaS f n (sC s 2) (sN s 2) 111 (sA s)) fun x => .inr (stP f n 2 3 4 s x)) ∨
  (knd f n (sA s) = 103 ∧ r = bnd (staS f n (sC s 3) (sN s 3) (sA s)) fun x => .inr (stS f n s x)) ∨
  (knd f n (sA s) = 104 ∧ r = bnd (onnS f n (sK s) (sC s 3) (sN s 3) (sC s 0) (sN s 0) (sO s) (sA s)) fun x => .inr (stO s x)) ∨
  (∃ k q, k < 3 ∧ knd f n (sA s) = 105 + k ∧ frmR f n (sF s k) (sU s) (sA s) q ∧ r = bnd q fun x => .inr (stF k s x)) ∨
  (knd f n (sA s) = 108 ∧ r = bnd (wndS f n (sF s 3) 9 (sA s)) fun x => .inr (stD 3 0 s x)) ∨
  (knd f n (sA s) = 109 ∧ r = bnd (wndS f n (sF s 4) 999 (sA s)) fun x => .inr (stD 4 1 s x)) ∨
  (¬ (100 ≤ knd f n (sA s) ∧ knd f n (sA s) ≤ 109) ∧ r = .inl (2, sA s))
theorem linR_det {f : Nat → Int32} {n : Nat} {s : AS} {r r' : ER AS} (h : linR f n s r) (h' : linR f n s r') : r = r' := by
  unfold linR at h h'
  rcases h with h | h | h | h | h | ⟨k, q, h1, h2, h3, h4⟩ | h | h | h <;> rcases h' with h' | h' | h' | h' | h' | ⟨k', q', h1', h2', h3', h4'⟩ | h' | h' | h' <;>
    first
    | exact h.2.trans h'.2.symm
    | (exfalso; omega)
    | skip
  have e : k = k' := by omega
  subst e
  rw [h4, h4', frmR_det h3 h3']
def prs (f : Nat → Int32) (n : Nat) : Nat → AS → ER AS → Prop
  | 0, _, _ => False
  | k + 1, s, r => (knd f n (sA s) = 0 ∧ r = .inr s) ∨ (¬ knd f n (sA s) = 0 ∧ ((∃ e, linR f n s (.inl e) ∧ r = .inl e) ∨ (∃ s2, linR f n s (.inr s2) ∧ prs f n k s2 r)))
def PR (f : Nat → Int32) (n : Nat) (s : AS) (r : ER AS) : Prop := ∃ k, prs f n k s r
theorem prs_det {f : Nat → Int32} {n : Nat} (k : Nat) : ∀ (k' : Nat) (s : AS) (r r' : ER AS), prs f n k s r → prs f n k' s r' → r = r' := by
  induction k with
  | zero => intro k' s r r' h; exact h.elim
  | succ k ih =>
    intro k' s r r' h h'
    cases k' with
    | zero => exact h'.elim
    | succ k' =>
      rcases h with ⟨a1, a2⟩ | ⟨a1, ⟨e, a2, a3⟩ | ⟨s2, a2, a3⟩⟩ <;> rcases h' with ⟨b1, b2⟩ | ⟨b1, ⟨e', b2, b3⟩ | ⟨s3, b2, b3⟩⟩
      · rw [a2, b2]
      · exact absurd a1 b1
      · exact absurd a1 b1
      · exact absurd b1 a1
      · have h9 := linR_det a2 b2
        rw [a3, b3, h9]
      · have h9 := linR_det a2 b2; cases h9
      · exact absurd b1 a1
      · have h9 := linR_det a2 b2; cases h9
      · have h9 := linR_det a2 b2
        cases h9
        exact ih k' s2 r r' a3 b3
theorem PR.det {f : Nat → Int32} {n : Nat} {s : AS} {r r' : ER AS} (h : PR f n s r) (h' : PR f n s r') : r = r' := by
  obtain ⟨k, h⟩ := h
  obtain ⟨k', h'⟩ := h'
  exact prs_det k k' s r r' h h'
theorem PR.end {f : Nat → Int32} {n : Nat} {s : AS} (h : knd f n (sA s) = 0) : PR f n s (.inr s) := ⟨1, Or.inl ⟨h, rfl⟩⟩
theorem PR.bad {f : Nat → Int32} {n : Nat} {s : AS} {e : Nat × Nat} (h : ¬ knd f n (sA s) = 0) (hl : linR f n s (.inl e)) : PR f n s (.inl e) := ⟨1, Or.inr ⟨h, Or.inl ⟨e, hl, rfl⟩⟩⟩
theorem PR.go {f : Nat → Int32} {n : Nat} {s s2 : AS} {r : ER AS} (h : ¬ knd f n (sA s) = 0) (hl : linR f n s (.inr s2)) (hp : PR f n s2 r) : PR f n s r := by
  obtain ⟨k, hp⟩ := hp
  exact ⟨k + 1, Or.inr ⟨h, Or.inr ⟨s2, hl, hp⟩⟩⟩
theorem knd_at_end {f : Nat → Int32} {n a : Nat} (h : n ≤ a) : knd f n a = 0 := by
  unfold knd kndS
  rw [if_pos (Nat.le_trans h (stt_ge f n a))]
/-- rows that agree on what is told -/
def rowR (f g : Nat → Int32) (c : Nat) : Prop := ∀ i, i < c → f i = g i
theorem rowR_put {f g : Nat → Int32} {c : Nat} (h : rowR f g c) (x : Int32) : rowR (upd f c x) (upd g c x) (c + 1) := by
  intro i hi
  by_cases e : i = c
  · rw [e, pk_us, pk_us]
  · rw [pk_un e, pk_un e]; exact h i (by omega)
theorem rowR_upd {f g : Nat → Int32} {c k : Nat} (h : rowR f g c) (x : Int32) : rowR (upd f k x) (upd g k x) c := by
  intro i hi
  by_cases e : i = k
  · rw [e, pk_us, pk_us]
  · rw [pk_un e, pk_un e]; exact h i hi
theorem upA_s {α : Type} {f : Nat → α} {k : Nat} {v : α} : upA f k v k = v := if_pos rfl
theorem upA_n {α : Type} {f : Nat → α} {k j : Nat} {v : α} (h : ¬ j = k) : upA f k v j = f j := if_neg h
/-- what the class holds of it -/
def relC (f : Nat → Int32) (n : Nat) (s : AS) (ga c0 c1 c2 c3 : Nat) (fx : Nat → Int32) (on9 : Nat) (tb tl tt wt dt : Int32) (un : Nat) (flo fp fcs fmp fmv : Nat → Int32) (hwi hdr : Int32) (fd0 fd1 fd2 fd3 : Nat → Int64) : Prop :=
  sA s = ga ∧ (sC s 0 = c0 ∧ sC s 1 = c1 ∧ sC s 2 = c2 ∧ sC s 3 = c3) ∧ rowR fx (sO s) 48 ∧ sK s = on9 ∧ (sF s 0 = tb ∧ sF s 1 = tl ∧ sF s 2 = tt ∧ sF s 3 = wt ∧ sF s 4 = dt) ∧ sU s = un ∧ (rowR flo (sV s 0) c0 ∧ rowR fp (sV s 1) c1 ∧ rowR fcs (sV s 2) c1 ∧ rowR fmp (sV s 3) c2 ∧ rowR fmv (sV s 4) c2) ∧ (hwi = sV s 6 0 ∧ hdr = sV s 6 1) ∧ (nmC f n (sN s 0) c0 fd0 ∧ nmC f n (sN s 1) c1 fd1 ∧ nmC f n (sN s 2) c2 fd2 ∧ nmC f n (sN s 3) c3 fd3)
section RC
variable {f : Nat → Int32} {n : Nat} {s : AS} {ga c0 c1 c2 c3 : Nat} {fx : Nat → Int32} {on9 : Nat} {tb tl tt wt dt : Int32} {un : Nat} {flo fp fcs fmp fmv : Nat → Int32} {hwi hdr : Int32} {fd0 fd1 fd2 fd3 : Nat → Int64}
theorem rel_W {va ga2 : Nat} {fl2 : Nat → Int32} {fd : Nat → Int64} (h : relC f n s ga c0 c1 c2 c3 fx on9 tb tl tt wt dt un flo fp fcs fmp fmv hwi hdr fd0 fd1 fd2 fd3) (hn : nmC f n (updN (sN s 0) c0 (fin f n ga)) (c0 + 1) fd) (hf : fl2 = upd flo c0 (nI va)) : relC f n (tlW f n s (va, ga2)) ga2 (c0 + 1) c1 c2 c3 fx on9 tb tl tt wt dt un fl2 fp fcs fmp fmv hwi hdr fd fd1 fd2 fd3 := by
  obtain ⟨e0, ⟨e1, e2, e3, e4⟩, e5, e6, e7, e8, ⟨r0, r1, r2, r3, r4⟩, ⟨v0, v1⟩, n0, n1, n2, n3⟩ := h
  subst e0 e1 hf
  exact ⟨rfl, ⟨rfl, e2, e3, e4⟩, e5, e6, e7, e8, ⟨rowR_put r0 _, r1, r2, r3, r4⟩, ⟨v0, v1⟩, hn, n1, n2, n3⟩
theorem rel_P1 {pv va ga2 : Nat} {fa fb : Nat → Int32} {fd : Nat → Int64} (h : relC f n s ga c0 c1 c2 c3 fx on9 tb tl tt wt dt un flo fp fcs fmp fmv hwi hdr fd0 fd1 fd2 fd3) (hn : nmC f n (updN (sN s 1) c1 (fin f n ga)) (c1 + 1) fd) (ha : fa = upd fp c1 (nI pv)) (hb : fb = upd fcs c1 (nI va)) : relC f n (stP f n 1 1 2 s (pv, va, ga2)) ga2 c0 (c1 + 1) c2 c3 fx on9 tb tl tt wt dt un flo fa fb fmp fmv hwi hdr fd0 fd fd2 fd3 := by
  obtain ⟨e0, ⟨e1, e2, e3, e4⟩, e5, e6, e7, e8, ⟨r0, r1, r2, r3, r4⟩, ⟨v0, v1⟩, n0, n1, n2, n3⟩ := h
  subst e0 e2 ha hb
  exact ⟨rfl, ⟨e1, rfl, e3, e4⟩, e5, e6, e7, e8, ⟨r0, rowR_put r1 _, rowR_put r2 _, r3, r4⟩, ⟨v0, v1⟩, n0, hn, n2, n3⟩
theorem rel_P2 {pv va ga2 : Nat} {fa fb : Nat → Int32} {fd : Nat → Int64} (h : relC f n s ga c0 c1 c2 c3 fx on9 tb tl tt wt dt un flo fp fcs fmp fmv hwi hdr fd0 fd1 fd2 fd3) (hn : nmC f n (updN (sN s 2) c2 (fin f n ga)) (c2 + 1) fd) (ha : fa = upd fmp c2 (nI pv)) (hb : fb = upd fmv c2 (nI va)) : relC f n (stP f n 2 3 4 s (pv, va, ga2)) ga2 c0 c1 (c2 + 1) c3 fx on9 tb tl tt wt dt un flo fp fcs fa fb hwi hdr fd0 fd1 fd fd3 := by
  obtain ⟨e0, ⟨e1, e2, e3, e4⟩, e5, e6, e7, e8, ⟨r0, r1, r2, r3, r4⟩, ⟨v0, v1⟩, n0, n1, n2, n3⟩ := h
  subst e0 e3 ha hb
  exact ⟨rfl, ⟨e1, e2, rfl, e4⟩, e5, e6, e7, e8, ⟨r0, r1, r2, rowR_put r3 _, rowR_put r4 _⟩, ⟨v0, v1⟩, n0, n1, hn, n3⟩
theorem rel_S {va ga2 : Nat} {fd : Nat → Int64} (h : relC f n s ga c0 c1 c2 c3 fx on9 tb tl tt wt dt un flo fp fcs fmp fmv hwi hdr fd0 fd1 fd2 fd3) (hn : nmC f n (updN (sN s 3) c3 (fin f n ga)) (c3 + 1) fd) : relC f n (stS f n s (va, ga2)) ga2 c0 c1 c2 (c3 + 1) fx on9 tb tl tt wt dt un flo fp fcs fmp fmv hwi hdr fd0 fd1 fd2 fd := by
  obtain ⟨e0, ⟨e1, e2, e3, e4⟩, e5, e6, e7, e8, ⟨r0, r1, r2, r3, r4⟩, ⟨v0, v1⟩, n0, n1, n2, n3⟩ := h
  subst e0 e4
  exact ⟨rfl, ⟨e1, e2, e3, rfl⟩, e5, e6, e7, e8, ⟨r0, r1, r2, r3, r4⟩, ⟨v0, v1⟩, n0, n1, n2, hn⟩
theorem rel_O {ix to ga2 : Nat} {gx : Nat → Int32} (h : relC f n s ga c0 c1 c2 c3 fx on9 tb tl tt wt dt un flo fp fcs fmp fmv hwi hdr fd0 fd1 fd2 fd3) (hx : gx = upd fx ix (nI to)) : relC f n (stO s (ix, to, ga2)) ga2 c0 c1 c2 c3 gx (on9 + 1) tb tl tt wt dt un flo fp fcs fmp fmv hwi hdr fd0 fd1 fd2 fd3 := by
  obtain ⟨e0, e1, e5, e6, e7, e8, e9, e10, e11⟩ := h
  subst e6 hx
  exact ⟨rfl, e1, rowR_upd e5 _, rfl, e7, e8, e9, e10, e11⟩
theorem rel_F0 {u2 ga2 : Nat} (h : relC f n s ga c0 c1 c2 c3 fx on9 tb tl tt wt dt un flo fp fcs fmp fmv hwi hdr fd0 fd1 fd2 fd3) : relC f n (stF 0 s (u2, ga2)) ga2 c0 c1 c2 c3 fx on9 1 tl tt wt dt u2 flo fp fcs fmp fmv hwi hdr fd0 fd1 fd2 fd3 := by
  obtain ⟨e0, e1, e5, e6, ⟨t0, t1, t2, t3, t4⟩, e8, e9, e10, e11⟩ := h
  exact ⟨rfl, e1, e5, e6, ⟨rfl, t1, t2, t3, t4⟩, rfl, e9, e10, e11⟩
theorem rel_F1 {u2 ga2 : Nat} (h : relC f n s ga c0 c1 c2 c3 fx on9 tb tl tt wt dt un flo fp fcs fmp fmv hwi hdr fd0 fd1 fd2 fd3) : relC f n (stF 1 s (u2, ga2)) ga2 c0 c1 c2 c3 fx on9 tb 1 tt wt dt u2 flo fp fcs fmp fmv hwi hdr fd0 fd1 fd2 fd3 := by
  obtain ⟨e0, e1, e5, e6, ⟨t0, t1, t2, t3, t4⟩, e8, e9, e10, e11⟩ := h
  exact ⟨rfl, e1, e5, e6, ⟨t0, rfl, t2, t3, t4⟩, rfl, e9, e10, e11⟩
theorem rel_F2 {u2 ga2 : Nat} (h : relC f n s ga c0 c1 c2 c3 fx on9 tb tl tt wt dt un flo fp fcs fmp fmv hwi hdr fd0 fd1 fd2 fd3) : relC f n (stF 2 s (u2, ga2)) ga2 c0 c1 c2 c3 fx on9 tb tl 1 wt dt u2 flo fp fcs fmp fmv hwi hdr fd0 fd1 fd2 fd3 := by
  obtain ⟨e0, e1, e5, e6, ⟨t0, t1, t2, t3, t4⟩, e8, e9, e10, e11⟩ := h
  exact ⟨rfl, e1, e5, e6, ⟨t0, t1, rfl, t3, t4⟩, rfl, e9, e10, e11⟩
theorem rel_D3 {va ga2 : Nat} (h : relC f n s ga c0 c1 c2 c3 fx on9 tb tl tt wt dt un flo fp fcs fmp fmv hwi hdr fd0 fd1 fd2 fd3) : relC f n (stD 3 0 s (va, ga2)) ga2 c0 c1 c2 c3 fx on9 tb tl tt 1 dt un flo fp fcs fmp fmv (nI va) hdr fd0 fd1 fd2 fd3 := by
  obtain ⟨e0, e1, e5, e6, ⟨t0, t1, t2, t3, t4⟩, e8, e9, e10, e11⟩ := h
  exact ⟨rfl, e1, e5, e6, ⟨t0, t1, t2, rfl, t4⟩, e8, e9, ⟨rfl, e10.2⟩, e11⟩
theorem rel_D4 {va ga2 : Nat} (h : relC f n s ga c0 c1 c2 c3 fx on9 tb tl tt wt dt un flo fp fcs fmp fmv hwi hdr fd0 fd1 fd2 fd3) : relC f n (stD 4 1 s (va, ga2)) ga2 c0 c1 c2 c3 fx on9 tb tl tt wt 1 un flo fp fcs fmp fmv hwi (nI va) fd0 fd1 fd2 fd3 := by
  obtain ⟨e0, e1, e5, e6, ⟨t0, t1, t2, t3, t4⟩, e8, e9, e10, e11⟩ := h
  exact ⟨rfl, e1, e5, e6, ⟨t0, t1, t2, t3, rfl⟩, e8, e9, ⟨e10.1, rfl⟩, e11⟩
end RC
/-- what kind of line a result speaks of -/
theorem lin_W {f : Nat → Int32} {n : Nat} {s : AS} {q : ER (Nat × Nat)} (hk : knd f n (sA s) = 100) (h : worS f n (sC s 0) (sN s 0) (sA s) = q) : linR f n s (bnd q fun x => .inr (tlW f n s x)) := Or.inl ⟨hk, by rw [h]⟩
theorem lin_P1 {f : Nat → Int32} {n : Nat} {s : AS} {q : ER (Nat × Nat × Nat)} (hk : knd f n (sA s) = 101) (h : plaS f n (sC s 1) (sN s 1) 119 (sA s) = q) : linR f n s (bnd q fun x => .inr (stP f n 1 1 2 s x)) := Or.inr (Or.inl ⟨hk, by rw [h]⟩)
theorem lin_P2 {f : Nat → Int32} {n : Nat} {s : AS} {q : ER (Nat × Nat × Nat)} (hk : knd f n (sA s) = 102) (h : plaS f n (sC s 2) (sN s 2) 111 (sA s) = q) : linR f n s (bnd q fun x => .inr (stP f n 2 3 4 s x)) := Or.inr (Or.inr (Or.inl ⟨hk, by rw [h]⟩))
theorem lin_S {f : Nat → Int32} {n : Nat} {s : AS} {q : ER (Nat × Nat)} (hk : knd f n (sA s) = 103) (h : staS f n (sC s 3) (sN s 3) (sA s) = q) : linR f n s (bnd q fun x => .inr (stS f n s x)) := Or.inr (Or.inr (Or.inr (Or.inl ⟨hk, by rw [h]⟩)))
theorem lin_O {f : Nat → Int32} {n : Nat} {s : AS} {q : ER (Nat × Nat × Nat)} (hk : knd f n (sA s) = 104) (h : onnS f n (sK s) (sC s 3) (sN s 3) (sC s 0) (sN s 0) (sO s) (sA s) = q) : linR f n s (bnd q fun x => .inr (stO s x)) := Or.inr (Or.inr (Or.inr (Or.inr (Or.inl ⟨hk, by rw [h]⟩))))
theorem lin_F {f : Nat → Int32} {n : Nat} {s : AS} {q : ER (Nat × Nat)} (k : Nat) (h3 : k < 3) (hk : knd f n (sA s) = 105 + k) (h : frmR f n (sF s k) (sU s) (sA s) q) : linR f n s (bnd q fun x => .inr (stF k s x)) := Or.inr (Or.inr (Or.inr (Or.inr (Or.inr (Or.inl ⟨k, q, h3, hk, h, rfl⟩)))))
theorem lin_D3 {f : Nat → Int32} {n : Nat} {s : AS} {q : ER (Nat × Nat)} (hk : knd f n (sA s) = 108) (h : wndS f n (sF s 3) 9 (sA s) = q) : linR f n s (bnd q fun x => .inr (stD 3 0 s x)) := Or.inr (Or.inr (Or.inr (Or.inr (Or.inr (Or.inr (Or.inl ⟨hk, by rw [h]⟩))))))
theorem lin_D4 {f : Nat → Int32} {n : Nat} {s : AS} {q : ER (Nat × Nat)} (hk : knd f n (sA s) = 109) (h : wndS f n (sF s 4) 999 (sA s) = q) : linR f n s (bnd q fun x => .inr (stD 4 1 s x)) := Or.inr (Or.inr (Or.inr (Or.inr (Or.inr (Or.inr (Or.inr (Or.inl ⟨hk, by rw [h]⟩)))))))
theorem lin_N {f : Nat → Int32} {n : Nat} {s : AS} (hk : ¬ (100 ≤ knd f n (sA s) ∧ knd f n (sA s) ≤ 109)) : linR f n s (.inl (2, sA s)) := Or.inr (Or.inr (Or.inr (Or.inr (Or.inr (Or.inr (Or.inr (Or.inr ⟨hk, rfl⟩)))))))
/-- the class's NEXT and the ons of it: where one looks, they are the same -/
theorem onnS_row {f : Nat → Int32} {n ons cs cw a : Nat} {nps npw : Nat → Nat} {on on' : Nat → Int32} (hs : cs ≤ 6) (hw : cw ≤ 8) (h : rowR on on' (8 * cs)) : onnS f n ons cs nps cw npw on a = onnS f n ons cs nps cw npw on' a := by
  unfold onnS
  by_cases h30 : 30 ≤ ons
  · rw [if_pos h30, if_pos h30]
  · rw [if_neg h30, if_neg h30]
    have hk : ∀ c np b, (∃ e, knoS f n c np b = .inl e) ∨ (∃ j, j < c ∧ knoS f n c np b = .inr j) := by
      intro c np b
      unfold knoS
      by_cases h1 : knd f n b = 1
      · rw [if_pos h1]
        by_cases h2 : fnd f n np c b < c
        · rw [if_pos h2]; exact Or.inr ⟨_, h2, rfl⟩
        · rw [if_neg h2]; exact Or.inl ⟨_, rfl⟩
      · rw [if_neg h1]; exact Or.inl ⟨_, rfl⟩
    rcases hk cs nps (fin f n a) with ⟨e, h1⟩ | ⟨j, hj, h1⟩
    · rw [bnd_l _ h1, bnd_l _ h1]
    · rw [bnd_r _ h1, bnd_r _ h1]
      rcases hk cw npw (fin f n (fin f n a)) with ⟨e, h2⟩ | ⟨i, hi, h2⟩
      · rw [bnd_l _ h2, bnd_l _ h2]
      · rw [bnd_r _ h2, bnd_r _ h2]
        show (if on (j * 8 + i) = -1 then _ else _) = (if on' (j * 8 + i) = -1 then _ else _)
        rw [h (j * 8 + i) (by omega)]
section RC2
variable {f : Nat → Int32} {n : Nat} {s : AS} {ga c0 c1 c2 c3 : Nat} {fx : Nat → Int32} {on9 : Nat} {tb tl tt wt dt : Int32} {un : Nat} {flo fp fcs fmp fmv : Nat → Int32} {hwi hdr : Int32} {fd0 fd1 fd2 fd3 : Nat → Int64}
theorem lc_W {q : ER (Nat × Nat)} (h : relC f n s ga c0 c1 c2 c3 fx on9 tb tl tt wt dt un flo fp fcs fmp fmv hwi hdr fd0 fd1 fd2 fd3) (hk : knd f n ga = 100) (he : worS f n c0 (sN s 0) ga = q) : linR f n s (bnd q fun x => .inr (tlW f n s x)) := by
  obtain ⟨e0, ⟨e1, e2, e3, e4⟩, -⟩ := h
  subst e0 e1; exact lin_W hk he
theorem lc_P1 {q : ER (Nat × Nat × Nat)} (h : relC f n s ga c0 c1 c2 c3 fx on9 tb tl tt wt dt un flo fp fcs fmp fmv hwi hdr fd0 fd1 fd2 fd3) (hk : knd f n ga = 101) (he : plaS f n c1 (sN s 1) 119 ga = q) : linR f n s (bnd q fun x => .inr (stP f n 1 1 2 s x)) := by
  obtain ⟨e0, ⟨e1, e2, e3, e4⟩, -⟩ := h
  subst e0 e2; exact lin_P1 hk he
theorem lc_P2 {q : ER (Nat × Nat × Nat)} (h : relC f n s ga c0 c1 c2 c3 fx on9 tb tl tt wt dt un flo fp fcs fmp fmv hwi hdr fd0 fd1 fd2 fd3) (hk : knd f n ga = 102) (he : plaS f n c2 (sN s 2) 111 ga = q) : linR f n s (bnd q fun x => .inr (stP f n 2 3 4 s x)) := by
  obtain ⟨e0, ⟨e1, e2, e3, e4⟩, -⟩ := h
  subst e0 e3; exact lin_P2 hk he
theorem lc_S {q : ER (Nat × Nat)} (h : relC f n s ga c0 c1 c2 c3 fx on9 tb tl tt wt dt un flo fp fcs fmp fmv hwi hdr fd0 fd1 fd2 fd3) (hk : knd f n ga = 103) (he : staS f n c3 (sN s 3) ga = q) : linR f n s (bnd q fun x => .inr (stS f n s x)) := by
  obtain ⟨e0, ⟨e1, e2, e3, e4⟩, -⟩ := h
  subst e0 e4; exact lin_S hk he
theorem lc_O {q : ER (Nat × Nat × Nat)} (h : relC f n s ga c0 c1 c2 c3 fx on9 tb tl tt wt dt un flo fp fcs fmp fmv hwi hdr fd0 fd1 fd2 fd3) (h0 : c0 ≤ 8) (h3 : c3 ≤ 6) (hk : knd f n ga = 104) (he : onnS f n on9 c3 (sN s 3) c0 (sN s 0) fx ga = q) : linR f n s (bnd q fun x => .inr (stO s x)) := by
  obtain ⟨e0, ⟨e1, e2, e3, e4⟩, e5, e6, -⟩ := h
  subst e0 e1 e4 e6
  rw [onnS_row h3 h0 (fun i hi => e5 i (by omega))] at he
  exact lin_O hk he
theorem lc_F0 {q : ER (Nat × Nat)} (h : relC f n s ga c0 c1 c2 c3 fx on9 tb tl tt wt dt un flo fp fcs fmp fmv hwi hdr fd0 fd1 fd2 fd3) (hk : knd f n ga = 105) (he : frmR f n tb un ga q) : linR f n s (bnd q fun x => .inr (stF 0 s x)) := by
  obtain ⟨e0, e1, e5, e6, ⟨t0, t1, t2, t3, t4⟩, e8, -⟩ := h
  subst e0 t0 e8; exact lin_F 0 (by decide) hk he
theorem lc_F1 {q : ER (Nat × Nat)} (h : relC f n s ga c0 c1 c2 c3 fx on9 tb tl tt wt dt un flo fp fcs fmp fmv hwi hdr fd0 fd1 fd2 fd3) (hk : knd f n ga = 106) (he : frmR f n tl un ga q) : linR f n s (bnd q fun x => .inr (stF 1 s x)) := by
  obtain ⟨e0, e1, e5, e6, ⟨t0, t1, t2, t3, t4⟩, e8, -⟩ := h
  subst e0 t1 e8; exact lin_F 1 (by decide) hk he
theorem lc_F2 {q : ER (Nat × Nat)} (h : relC f n s ga c0 c1 c2 c3 fx on9 tb tl tt wt dt un flo fp fcs fmp fmv hwi hdr fd0 fd1 fd2 fd3) (hk : knd f n ga = 107) (he : frmR f n tt un ga q) : linR f n s (bnd q fun x => .inr (stF 2 s x)) := by
  obtain ⟨e0, e1, e5, e6, ⟨t0, t1, t2, t3, t4⟩, e8, -⟩ := h
  subst e0 t2 e8; exact lin_F 2 (by decide) hk he
theorem lc_D3 {q : ER (Nat × Nat)} (h : relC f n s ga c0 c1 c2 c3 fx on9 tb tl tt wt dt un flo fp fcs fmp fmv hwi hdr fd0 fd1 fd2 fd3) (hk : knd f n ga = 108) (he : wndS f n wt 9 ga = q) : linR f n s (bnd q fun x => .inr (stD 3 0 s x)) := by
  obtain ⟨e0, e1, e5, e6, ⟨t0, t1, t2, t3, t4⟩, e8, -⟩ := h
  subst e0 t3; exact lin_D3 hk he
theorem lc_D4 {q : ER (Nat × Nat)} (h : relC f n s ga c0 c1 c2 c3 fx on9 tb tl tt wt dt un flo fp fcs fmp fmv hwi hdr fd0 fd1 fd2 fd3) (hk : knd f n ga = 109) (he : wndS f n dt 999 ga = q) : linR f n s (bnd q fun x => .inr (stD 4 1 s x)) := by
  obtain ⟨e0, e1, e5, e6, ⟨t0, t1, t2, t3, t4⟩, e8, -⟩ := h
  subst e0 t4; exact lin_D4 hk he
theorem lc_N (h : relC f n s ga c0 c1 c2 c3 fx on9 tb tl tt wt dt un flo fp fcs fmp fmv hwi hdr fd0 fd1 fd2 fd3) (hk : ¬ (100 ≤ knd f n ga ∧ knd f n ga ≤ 109)) : linR f n s (.inl (2, ga)) := by
  obtain ⟨e0, -⟩ := h
  subst e0; exact lin_N hk
theorem relC_0 {f : Nat → Int32} {n : Nat} {fx flo fp fcs fmp fmv : Nat → Int32} {fd0 fd1 fd2 fd3 : Nat → Int64} (hx : ∀ k, k < 48 → fx k = -1) : relC f n aS0 0 0 0 0 0 fx 0 0 0 0 0 0 0 flo fp fcs fmp fmv 0 0 fd0 fd1 fd2 fd3 :=
  ⟨rfl, ⟨rfl, rfl, rfl, rfl⟩, hx, rfl, ⟨rfl, rfl, rfl, rfl, rfl⟩, rfl, ⟨fun i h => absurd h (Nat.not_lt_zero i), fun i h => absurd h (Nat.not_lt_zero i), fun i h => absurd h (Nat.not_lt_zero i), fun i h => absurd h (Nat.not_lt_zero i), fun i h => absurd h (Nat.not_lt_zero i)⟩, ⟨rfl, rfl⟩, fun i h => absurd h (Nat.not_lt_zero i), fun i h => absurd h (Nat.not_lt_zero i), fun i h => absurd h (Nat.not_lt_zero i), fun i h => absurd h (Nat.not_lt_zero i)⟩
theorem relC_at (h : relC f n s ga c0 c1 c2 c3 fx on9 tb tl tt wt dt un flo fp fcs fmp fmv hwi hdr fd0 fd1 fd2 fd3) : sA s = ga := h.1
theorem relC_nm (h : relC f n s ga c0 c1 c2 c3 fx on9 tb tl tt wt dt un flo fp fcs fmp fmv hwi hdr fd0 fd1 fd2 fd3) : nmC f n (sN s 0) c0 fd0 ∧ nmC f n (sN s 1) c1 fd1 ∧ nmC f n (sN s 2) c2 fd2 ∧ nmC f n (sN s 3) c3 fd3 := h.2.2.2.2.2.2.2.2
end RC2
