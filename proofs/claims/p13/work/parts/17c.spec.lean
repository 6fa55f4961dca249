/-! what the lines of a text say: an error (its code and place) or what was told and the place behind it -/
abbrev ER (α : Type) : Type := (Nat × Nat) ⊕ α
def bnd {α β : Type} (x : ER α) (g : α → ER β) : ER β := match x with
  | .inl e => .inl e
  | .inr a => g a
theorem bnd_r {α β : Type} {x : ER α} {a : α} (g : α → ER β) (h : x = .inr a) : bnd x g = g a := by rw [h]; rfl
theorem bnd_l {α β : Type} {x : ER α} {e : Nat × Nat} (g : α → ER β) (h : x = .inl e) : bnd x g = .inl e := by rw [h]; rfl
def takS (f : Nat → Int32) (n k a : Nat) : ER Nat := if knd f n a = k then .inr (fin f n a) else .inl (2, a)
def numS (f : Nat → Int32) (n mo a : Nat) : ER (Nat × Nat) := if knd f n a = 2 then (if mo < num f n a then .inl (4, a) else .inr (num f n a, fin f n a)) else .inl (2, a)
def optS (f : Nat → Int32) (n k a : Nat) : ER (Nat × Nat) := if knd f n a = k then numS f n 9 (fin f n a) else .inr (0, a)
/-- the first of the names from the k-th on, j of them, that is the one at a -/
def fdF (f : Nat → Int32) (n : Nat) (np : Nat → Nat) (a : Nat) : Nat → Nat → Nat
  | 0, k => k
  | j + 1, k => if nam f n (np k) = nam f n a then k else fdF f n np a j (k + 1)
def fnd (f : Nat → Int32) (n : Nat) (np : Nat → Nat) (c a : Nat) : Nat := fdF f n np a c 0
def newS (f : Nat → Int32) (n mx c : Nat) (np : Nat → Nat) (a : Nat) : ER Nat :=
  if mx ≤ c then .inl (2, a) else if knd f n (fin f n a) = 1 then (if fnd f n np c (fin f n a) < c then .inl (3, fin f n a) else .inr (fin f n (fin f n a))) else .inl (2, fin f n a)
def knoS (f : Nat → Int32) (n c : Nat) (np : Nat → Nat) (a : Nat) : ER Nat :=
  if knd f n a = 1 then (if fnd f n np c a < c then .inr (fnd f n np c a) else .inl (5, a)) else .inl (2, a)
def worS (f : Nat → Int32) (n c : Nat) (np : Nat → Nat) (a : Nat) : ER (Nat × Nat) :=
  bnd (newS f n 8 c np a) fun b => bnd (optS f n 121 b) fun x => bnd (takS f n 59 x.2) fun e => .inr (x.1, e)
def plaS (f : Nat → Int32) (n c : Nat) (np : Nat → Nat) (key a : Nat) : ER (Nat × Nat × Nat) :=
  bnd (newS f n 4 c np a) fun b => bnd (takS f n 110 b) fun b2 => bnd (numS f n 99 b2) fun x => bnd (optS f n key x.2) fun y => bnd (takS f n 59 y.2) fun e => .inr (x.1, y.1, e)
def staS (f : Nat → Int32) (n c : Nat) (np : Nat → Nat) (a : Nat) : ER (Nat × Nat) :=
  bnd (newS f n 6 c np a) fun b => if knd f n b = 112 then bnd (takS f n 59 (fin f n b)) fun e => .inr (1, e) else bnd (takS f n 59 b) fun e => .inr (0, e)
def onnS (f : Nat → Int32) (n ons cs : Nat) (nps : Nat → Nat) (cw : Nat) (npw : Nat → Nat) (on : Nat → Int32) (a : Nat) : ER (Nat × Nat × Nat) :=
  if 30 ≤ ons then .inl (2, a) else bnd (knoS f n cs nps (fin f n a)) fun s => bnd (knoS f n cw npw (fin f n (fin f n a))) fun w => if on (s * 8 + w) = -1 then bnd (takS f n 113 (fin f n (fin f n (fin f n a)))) fun b => bnd (knoS f n cs nps b) fun to => bnd (takS f n 59 (fin f n b)) fun e => .inr (s * 8 + w, to, e) else .inl (3, fin f n (fin f n a))
def wndS (f : Nat → Int32) (n : Nat) (told : Int32) (mx a : Nat) : ER (Nat × Nat) :=
  if told = 0 then bnd (numS f n mx (fin f n a)) fun x => bnd (takS f n 59 x.2) fun e => .inr (x.1, e) else .inl (2, a)
def frmR (f : Nat → Int32) (n : Nat) (told : Int32) (u a : Nat) (r : ER (Nat × Nat)) : Prop :=
  if told = 0 then (∃ b u2, Rch (knd f n) (fin f n) (0, fin f n a, [], 0, u) (2, b, [], 0, u2) ∧ r = .inr (u2, fin f n b)) ∨ (∃ b, Rch (knd f n) (fin f n) (0, fin f n a, [], 0, u) (3, b, [], 0, 0) ∧ r = .inl (2, b)) else r = .inl (2, a)
theorem frmR_det {f : Nat → Int32} {n u a : Nat} {told : Int32} {r r' : ER (Nat × Nat)} (h : frmR f n told u a r) (h' : frmR f n told u a r') : r = r' := by
  unfold frmR at h h'
  by_cases ht : told = 0
  · rw [if_pos ht] at h h'
    rcases h with ⟨b, u2, h1, h2⟩ | ⟨b, h1, h2⟩ <;> rcases h' with ⟨c, u3, h3, h4⟩ | ⟨c, h3, h4⟩ <;> have e := Rch.det h1 h3 <;> simp only [Prod.mk.injEq] at e
    · rw [h2, h4, e.2.1, e.2.2.2.2]
    · omega
    · omega
    · rw [h2, h4, e.2.1]
  · rw [if_neg ht] at h h'
    rw [h, h']
theorem fdF_in (f : Nat → Int32) (n : Nat) (np : Nat → Nat) (a j k : Nat) : (fdF f n np a j k = k + j ∧ ∀ i, k ≤ i → i < k + j → ¬ nam f n (np i) = nam f n a) ∨ (k ≤ fdF f n np a j k ∧ fdF f n np a j k < k + j ∧ nam f n (np (fdF f n np a j k)) = nam f n a ∧ ∀ i, k ≤ i → i < fdF f n np a j k → ¬ nam f n (np i) = nam f n a) := by
  induction j generalizing k with
  | zero => exact Or.inl ⟨rfl, fun i h1 h2 => by omega⟩
  | succ j ih =>
    by_cases h : nam f n (np k) = nam f n a
    · have e : fdF f n np a (j + 1) k = k := if_pos h
      rw [e]
      exact Or.inr ⟨Nat.le_refl _, by omega, h, fun i h1 h2 => by omega⟩
    · have e : fdF f n np a (j + 1) k = fdF f n np a j (k + 1) := if_neg h
      rw [e]
      rcases ih (k + 1) with ⟨h1, h2⟩ | ⟨h1, h2, h3, h4⟩
      · refine Or.inl ⟨by omega, fun i h3 h4 => ?_⟩
        by_cases q : i = k
        · rw [q]; exact h
        · exact h2 i (by omega) (by omega)
      · refine Or.inr ⟨by omega, by omega, h3, fun i h5 h6 => ?_⟩
        by_cases q : i = k
        · rw [q]; exact h
        · exact h4 i (by omega) h6
/-- the names that are told, as the class holds them -/
def nmC (f : Nat → Int32) (n : Nat) (np : Nat → Nat) (c : Nat) (fd : Nat → Int64) : Prop := ∀ j, j < c → fd j = nam f n (np j) ∧ knd f n (np j) = 1
def updN (np : Nat → Nat) (c b : Nat) : Nat → Nat := fun j => if j = c then b else np j
theorem fd_go {f : Nat → Int32} {n c a i : Nat} {np : Nat → Nat} {fd : Nat → Int64} {z tm : Int64} {v : Int32} (hi : i < c) (hc : c ≤ 8) (h : fdF f n np a (c - i) i = fnd f n np c a) (hm : nmC f n np c fd) (ez : z = fd (nI i).toNatClampNeg) (et : tm = nam f n a) (ev : v = 0 ↔ z = tm) (hv : ¬ v = 0) : fdF f n np a (c - (i + 1)) (i + 1) = fnd f n np c a := by
  rw [nI_clamp (by omega), (hm i hi).1] at ez
  rw [show c - i = (c - (i + 1)) + 1 by omega] at h
  rw [← h]
  show _ = (if _ then _ else _)
  rw [if_neg (fun h9 => hv (ev.mpr (by rw [ez, et, h9])))]
theorem fd_hit {f : Nat → Int32} {n c a i : Nat} {np : Nat → Nat} {fd : Nat → Int64} {z tm : Int64} {v : Int32} (hi : i < c) (hc : c ≤ 8) (h : fdF f n np a (c - i) i = fnd f n np c a) (hm : nmC f n np c fd) (ez : z = fd (nI i).toNatClampNeg) (et : tm = nam f n a) (ev : v = 0 ↔ z = tm) (hv : v = 0) : i = fnd f n np c a := by
  rw [nI_clamp (by omega), (hm i hi).1] at ez
  rw [show c - i = (c - (i + 1)) + 1 by omega] at h
  rw [← h]
  show _ = (if _ then _ else _)
  rw [if_pos (by rw [← ez, ← et]; exact ev.mp hv)]
theorem fd_end {f : Nat → Int32} {n c a i : Nat} {np : Nat → Nat} (hi : i ≤ c) (hi2 : c ≤ i) (h : fdF f n np a (c - i) i = fnd f n np c a) : ¬ fnd f n np c a < c := by
  rw [show c - i = 0 by omega] at h
  have : i = fnd f n np c a := h
  omega
theorem flt_of {f : Nat → Int32} {n a ta ts tk co : Nat} {tm : Int64} {tr fq pq : Int32} (h : tkC f n a ta ts tk tm tr) (h1 : fq = nI (if tk = 3 then 1 else co)) (h2 : pq = nI ts) : flt f n a co fq pq := by
  unfold flt
  rw [h1, h2, h.2.2.1, h.1]
  exact ⟨rfl, rfl⟩
theorem nmC_put {f : Nat → Int32} {n c b : Nat} {np : Nat → Nat} {fd g : Nat → Int64} {x : Int64} (hc : c ≤ 8) (h : nmC f n np c fd) (hx : x = nam f n b) (hk : knd f n b = 1) (e : vp_updL fd (nI c).toNatClampNeg x = g) : nmC f n (updN np c b) (c + 1) g := by
  rw [nI_clamp (by omega)] at e
  subst e
  intro j hj
  by_cases q : j = c
  · subst q
    have e1 : updN np j b j = b := if_pos rfl
    rw [e1]
    refine ⟨?_, hk⟩
    show (if _ then _ else _) = _
    rw [if_pos rfl, hx]
  · have e1 : updN np c b j = np j := if_neg q
    rw [e1]
    have e2 : vp_updL fd c x j = fd j := if_neg q
    rw [e2]
    exact h j (by omega)
theorem numS_k {f : Nat → Int32} {n mo a : Nat} {x : Nat × Nat} (h : numS f n mo a = .inr x) : knd f n a = 2 := by
  unfold numS at h
  by_cases e : knd f n a = 2
  · exact e
  · rw [if_neg e] at h; cases h
theorem takS_f {f : Nat → Int32} {n k a co b : Nat} {fq pq : Int32} (h : takS f n k a = .inl (co, b)) (hf : flt f n b co fq pq) : flt f n a 2 fq pq := by
  unfold takS at h
  by_cases e : knd f n a = k
  · rw [if_pos e] at h; cases h
  · rw [if_neg e] at h; cases h; exact hf
