def mL10 : List (Option Cond) := [some (Cond.selects RX5 yX5_forgetActs yX5_forgetActs), some (Cond.selects RX5 yX5_keepAct yX5_keepAct), some (Cond.selects RX5 yX5_goTo yX5_goTo), some (Cond.initialized RX5), some (Cond.initialized RJ10), some (Cond.fieldLink RX5 30 "CliffJudges$Hills" "counts" "[I"), some (Cond.fieldLink RX5 33 "CliffJudges$Hills" "cliffSnow" "[I"), some (Cond.fieldLink RX5 21 "CliffJudges$Hills" "wind" "I"), some (Cond.fieldLink RX5 27 "CliffJudges$Hills" "draw" "I"), some (Cond.fieldLink RX5 11 "CliffJudges$Moments" "now" "[I"), some (Cond.fieldLink RX5 15 "CliffJudges$Moments" "rows" "[I"), some (Cond.fieldLink RX5 18 "CliffJudges$Moments" "boxes" "[I"), some (Cond.fieldLink RX5 36 "CliffJudges$Moments" "fullBoxes" "I"), some (Cond.fieldLink RX5 42 "CliffJudges$Moments" "current" "I"), some (Cond.fieldLink RX5 45 "CliffJudges$Moments" "undoable" "I"), some (Cond.fieldLink RX5 48 "CliffJudges$Moments" "redoable" "I"), some (Cond.methodLink RX5 39 yX5_forgetActs), some (Cond.instanceMethod yX5_forgetActs), some (Cond.code yX5_forgetActs cX5_forgetActs 1 none), some (Cond.methodLink RX5 51 ⟨"java/lang/System", "arraycopy", "(Ljava/lang/Object;ILjava/lang/Object;II)V"⟩), some (Cond.static ⟨"java/lang/System", "arraycopy", "(Ljava/lang/Object;ILjava/lang/Object;II)V"⟩), some (Cond.native ⟨"java/lang/System", "arraycopy", "(Ljava/lang/Object;ILjava/lang/Object;II)V"⟩), some (Cond.methodLink RX5 67 yX5_keepAct), some (Cond.instanceMethod yX5_keepAct), some (Cond.code yX5_keepAct cX5_keepAct 1 none), some (Cond.methodLink RX5 57 yJ9_min_7cf53), some (Cond.methodLink RX5 63 yX5_goTo), some (Cond.instanceMethod yX5_goTo), some (Cond.code yX5_goTo cX5_goTo 2 none)]
set_option maxRecDepth 100000 in
theorem mP10 : pick [29, 1, 6, 103, 10, 183, 13, 29, 4, 45, 2, 1, 1, 1, 1, 2, 499, 2, 1, 1, 1, 1, 44, 2, 1, 1, 124, 2, 1] lw_tbl = mL10 := rfl
set_option maxRecDepth 100000 in
theorem mG10 : mL10.all (fun o => o.all goodWord) = true := rfl
theorem m_29 : (Cond.selects RX5 yX5_forgetActs yX5_forgetActs) ∈ gT := gp mP10 mG10 0 rfl
theorem m_30 : (Cond.selects RX5 yX5_keepAct yX5_keepAct) ∈ gT := gp mP10 mG10 1 rfl
theorem m_36 : (Cond.selects RX5 yX5_goTo yX5_goTo) ∈ gT := gp mP10 mG10 2 rfl
theorem m_139 : (Cond.initialized RX5) ∈ gT := gp mP10 mG10 3 rfl
theorem m_149 : (Cond.initialized RJ10) ∈ gT := gp mP10 mG10 4 rfl
theorem m_332 : (Cond.fieldLink RX5 30 "CliffJudges$Hills" "counts" "[I") ∈ gT := gp mP10 mG10 5 rfl
theorem m_345 : (Cond.fieldLink RX5 33 "CliffJudges$Hills" "cliffSnow" "[I") ∈ gT := gp mP10 mG10 6 rfl
theorem m_374 : (Cond.fieldLink RX5 21 "CliffJudges$Hills" "wind" "I") ∈ gT := gp mP10 mG10 7 rfl
theorem m_378 : (Cond.fieldLink RX5 27 "CliffJudges$Hills" "draw" "I") ∈ gT := gp mP10 mG10 8 rfl
theorem m_423 : (Cond.fieldLink RX5 11 "CliffJudges$Moments" "now" "[I") ∈ gT := gp mP10 mG10 9 rfl
theorem m_425 : (Cond.fieldLink RX5 15 "CliffJudges$Moments" "rows" "[I") ∈ gT := gp mP10 mG10 10 rfl
theorem m_426 : (Cond.fieldLink RX5 18 "CliffJudges$Moments" "boxes" "[I") ∈ gT := gp mP10 mG10 11 rfl
theorem m_427 : (Cond.fieldLink RX5 36 "CliffJudges$Moments" "fullBoxes" "I") ∈ gT := gp mP10 mG10 12 rfl
theorem m_428 : (Cond.fieldLink RX5 42 "CliffJudges$Moments" "current" "I") ∈ gT := gp mP10 mG10 13 rfl
theorem m_429 : (Cond.fieldLink RX5 45 "CliffJudges$Moments" "undoable" "I") ∈ gT := gp mP10 mG10 14 rfl
theorem m_431 : (Cond.fieldLink RX5 48 "CliffJudges$Moments" "redoable" "I") ∈ gT := gp mP10 mG10 15 rfl
theorem m_930 : (Cond.methodLink RX5 39 yX5_forgetActs) ∈ gT := gp mP10 mG10 16 rfl
theorem m_932 : (Cond.instanceMethod yX5_forgetActs) ∈ gT := gp mP10 mG10 17 rfl
theorem m_933 : (Cond.code yX5_forgetActs cX5_forgetActs 1 none) ∈ gT := gp mP10 mG10 18 rfl
theorem m_934 : (Cond.methodLink RX5 51 ⟨"java/lang/System", "arraycopy", "(Ljava/lang/Object;ILjava/lang/Object;II)V"⟩) ∈ gT := gp mP10 mG10 19 rfl
theorem m_935 : (Cond.static ⟨"java/lang/System", "arraycopy", "(Ljava/lang/Object;ILjava/lang/Object;II)V"⟩) ∈ gT := gp mP10 mG10 20 rfl
theorem m_936 : (Cond.native ⟨"java/lang/System", "arraycopy", "(Ljava/lang/Object;ILjava/lang/Object;II)V"⟩) ∈ gT := gp mP10 mG10 21 rfl
theorem m_980 : (Cond.methodLink RX5 67 yX5_keepAct) ∈ gT := gp mP10 mG10 22 rfl
theorem m_982 : (Cond.instanceMethod yX5_keepAct) ∈ gT := gp mP10 mG10 23 rfl
theorem m_983 : (Cond.code yX5_keepAct cX5_keepAct 1 none) ∈ gT := gp mP10 mG10 24 rfl
theorem m_984 : (Cond.methodLink RX5 57 yJ9_min_7cf53) ∈ gT := gp mP10 mG10 25 rfl
theorem m_1108 : (Cond.methodLink RX5 63 yX5_goTo) ∈ gT := gp mP10 mG10 26 rfl
theorem m_1110 : (Cond.instanceMethod yX5_goTo) ∈ gT := gp mP10 mG10 27 rfl
theorem m_1111 : (Cond.code yX5_goTo cX5_goTo 2 none) ∈ gT := gp mP10 mG10 28 rfl
/-- one moment at the place o of a row: two CRIES of at most 10 WORDS, each at most 7 -/
def mOK (f : Nat → Int32) (o : Nat) : Prop := (∃ a : Nat, a ≤ 10 ∧ f o = nI a) ∧ (∃ a : Nat, a ≤ 10 ∧ f (o + 11) = nI a) ∧ ∀ k : Nat, (1 ≤ k ∧ k ≤ 10 ∨ 12 ≤ k ∧ k ≤ 21) → ∃ j : Nat, j ≤ 7 ∧ f (o + k) = nI j
def mRows (f : Nat → Int32) (n : Nat) : Prop := ∀ k, k < n → mOK f (41 * k)
theorem mOK_ext {f g : Nat → Int32} {o p : Nat} (h : mOK f o) (e : ∀ k, k < 41 → g (p + k) = f (o + k)) : mOK g p := by
  obtain ⟨⟨a, ha, ea⟩, ⟨b, hb, eb⟩, hw⟩ := h
  refine ⟨⟨a, ha, (e 0 (by omega)).trans ea⟩, ⟨b, hb, (e 11 (by omega)).trans eb⟩, fun k hk => ?_⟩
  obtain ⟨j, hj, ej⟩ := hw k hk
  exact ⟨j, hj, (e k (by omega)).trans ej⟩
theorem mRows_cpy {f g : Nat → Int32} {a b i j sp dp nn : Nat} (hf : mRows f a) (hg : mRows g b) (hi : i < a) (es : sp = 41 * i) (ed : dp = 41 * j) (en : nn = 41) : mRows (va_cpy f g sp dp nn) b := by
  subst es; subst ed; subst en
  intro k hk
  by_cases e : k = j
  · subst e
    refine mOK_ext (hf i hi) (fun x hx => ?_)
    rw [pk_cpy_in (by omega) (by omega)]
    congr 1
    omega
  · refine mOK_ext (hg k hk) (fun x hx => ?_)
    exact pk_cpy_out (by omega)
theorem mOK_put {f : Nat → Int32} {k : Nat} {x : Int32} (h : mOK f 0) (h0 : (k = 0 ∨ k = 11) → ∃ a : Nat, a ≤ 10 ∧ x = nI a) (h1 : (1 ≤ k ∧ k ≤ 10 ∨ 12 ≤ k ∧ k ≤ 21) → ∃ a : Nat, a ≤ 7 ∧ x = nI a) : mOK (upd f k x) 0 := by
  obtain ⟨ha, hb, hw⟩ := h
  refine ⟨?_, ?_, fun q hq => ?_⟩
  · by_cases e : 0 = k
    · obtain ⟨a, h2, e2⟩ := h0 (by omega); exact ⟨a, h2, by rw [← e]; exact e2 ▸ pk_us⟩
    · rw [pk_un e]; exact ha
  · by_cases e : 0 + 11 = k
    · obtain ⟨a, h2, e2⟩ := h0 (by omega); exact ⟨a, h2, by rw [← e]; exact e2 ▸ pk_us⟩
    · rw [pk_un e]; exact hb
  · by_cases e : 0 + q = k
    · obtain ⟨a, h2, e2⟩ := h1 (by omega); exact ⟨a, h2, by rw [← e]; exact e2 ▸ pk_us⟩
    · rw [pk_un e]; exact hw q hq
theorem m1 {f : Nat → Int32} (h : mRows f 1) : mOK f 0 := h 0 (by omega)
theorem m1m {f : Nat → Int32} (h : mOK f 0) : mRows f 1 := fun k hk => by rw [show k = 0 by omega]; exact h
theorem m_zero {f : Nat → Int32} {k : Nat} (h : mRows f 1) : mRows (upd f k 0) 1 := m1m (mOK_put (m1 h) (fun _ => ⟨0, by omega, rfl⟩) (fun _ => ⟨0, by omega, rfl⟩))
theorem m_rest {f : Nat → Int32} {k : Nat} {x : Int32} (h : mRows f 1) (hk : 22 ≤ k) : mRows (upd f k x) 1 := m1m (mOK_put (m1 h) (fun e => absurd e (by omega)) (fun e => absurd e (by omega)))
theorem m_restN {f : Nat → Int32} {k : Nat} {x : Int32} (h : mRows f 1) (hk : 22 ≤ k) (h2 : k < 2 ^ 31) : mRows (upd f (nI k).toNatClampNeg x) 1 := by rw [nI_clamp h2]; exact m_rest h hk
theorem m_len {f : Nat → Int32} {k a : Nat} (h : mRows f 1) (hk : k = 0 ∨ k = 11) (ha : a ≤ 10) : mRows (upd f k (nI a)) 1 := m1m (mOK_put (m1 h) (fun _ => ⟨a, ha, rfl⟩) (fun e => absurd e (by omega)))
theorem m_word {f : Nat → Int32} {k a : Nat} (h : mRows f 1) (hk : 1 ≤ k ∧ k ≤ 10 ∨ 12 ≤ k ∧ k ≤ 21) (ha : a ≤ 7) : mRows (upd f (nI k).toNatClampNeg (nI a)) 1 := by
  rw [nI_clamp (by omega)]
  exact m1m (mOK_put (m1 h) (fun e => absurd e (by omega)) (fun _ => ⟨a, ha, rfl⟩))
theorem m_z {n : Nat} : mRows (fun _ => 0) n := fun _ _ => ⟨⟨0, by omega, rfl⟩, ⟨0, by omega, rfl⟩, fun _ _ => ⟨0, by omega, rfl⟩⟩
theorem m_lenAt {f : Nat → Int32} (h : mRows f 1) : (∃ a : Nat, a ≤ 10 ∧ f 0 = nI a) ∧ ∃ a : Nat, a ≤ 10 ∧ f 11 = nI a := ⟨(m1 h).1, (m1 h).2.1⟩
theorem m_wordAt {f : Nat → Int32} (h : mRows f 1) {k : Nat} (hk : 1 ≤ k ∧ k ≤ 10 ∨ 12 ≤ k ∧ k ≤ 21) : ∃ a : Nat, a ≤ 7 ∧ f (nI k).toNatClampNeg = nI a := by
  rw [nI_clamp (by omega)]
  have := (m1 h).2.2 k hk
  rwa [Nat.zero_add] at this
abbrev FN9 : Type := Nat → Int32
theorem cl0 : (0 : Int32).toNatClampNeg = 0 := by decide
theorem cl41 : (41 : Int32).toNatClampNeg = 41 := by decide
theorem cpy_fa {f g h : FN9} (e : va_cpy f g (0 : Int32).toNatClampNeg (0 : Int32).toNatClampNeg (41 : Int32).toNatClampNeg = h) : h = va_cpy f g 0 0 41 := by
  rw [cl0, cl41] at e; exact e.symm
theorem cpy_to {f g h : FN9} {c : Nat} (hc : c ≤ 40) (e : va_cpy f g (0 : Int32).toNatClampNeg (nI (c * 41)).toNatClampNeg (41 : Int32).toNatClampNeg = h) : h = va_cpy f g 0 (41 * c) 41 := by
  rw [cl0, cl41, nI_clamp (by omega), Nat.mul_comm c 41] at e; exact e.symm
theorem cpy_from {f g h : FN9} {c : Nat} (hc : c ≤ 40) (e : va_cpy f g (nI (c * 41)).toNatClampNeg (0 : Int32).toNatClampNeg (41 : Int32).toNatClampNeg = h) : h = va_cpy f g (41 * c) 0 41 := by
  rw [cl0, cl41, nI_clamp (by omega), Nat.mul_comm c 41] at e; exact e.symm
/-- an ACT is kept, by the class -/
def actC (fn2 fq : FN9) (cu un : Nat) (fq2 : FN9) (cu2 un2 re2 : Nat) : Prop := cu2 = (cu + 1) % 41 ∧ un2 = min (un + 1) 40 ∧ re2 = 0 ∧ fq2 = va_cpy fn2 fq 0 (41 * cu2) 41
/-- an ACT is kept, by the reference -/
def actR (gn gw : FN9) (ac : Nat) (gw2 : FN9) (ac2 ud2 : Nat) : Prop := ac2 = min (ac + 1) 40 ∧ ud2 = 0 ∧ (∀ d, 2 ≤ d → d ≤ ac2 → ∀ k, k < 41 → gw2 (42 * (ac2 - d) + k) = gw (42 * (ac + 1 - d) + k)) ∧ ∀ k, k < 41 → gw2 (42 * (ac2 - 1) + k) = gn k
/-- the reference takes a row for now -/
def exR (gn gw : FN9) (o : Nat) (gn2 gw2 : FN9) : Prop := (∀ k, k < 41 → gn2 k = gw (o + k)) ∧ (∀ k, k < 41 → gw2 (o + k) = gn k) ∧ ∀ q, (q < o ∨ o + 41 ≤ q) → gw2 q = gw q
def sbC (r : Int32) (fn fq : FN9) (cu un re : Nat) (fn2 : FN9) (cu2 un2 re2 : Nat) : Prop := (r = 0 ∧ un = 0 ∧ fn2 = fn ∧ cu2 = cu ∧ un2 = un ∧ re2 = re) ∨ (r = 1 ∧ 1 ≤ un ∧ fn2 = va_cpy fq fn (41 * ((cu + 41 - 1) % 41)) 0 41 ∧ cu2 = (cu + 41 - 1) % 41 ∧ un2 = un - 1 ∧ re2 = re + 1)
def snC (r : Int32) (fn fq : FN9) (cu un re : Nat) (fn2 : FN9) (cu2 un2 re2 : Nat) : Prop := (r = 0 ∧ re = 0 ∧ fn2 = fn ∧ cu2 = cu ∧ un2 = un ∧ re2 = re) ∨ (r = 1 ∧ 1 ≤ re ∧ fn2 = va_cpy fq fn (41 * ((cu + 1) % 41)) 0 41 ∧ cu2 = (cu + 1) % 41 ∧ un2 = un + 1 ∧ re2 = re - 1)
def kiC (b : Nat) (fn fb : FN9) (fu : Int32) (fb2 : FN9) (fu2 : Int32) : Prop := fb2 = va_cpy fn fb 0 (41 * b) 41 ∧ fu2 = fu ||| ((1 : Int32) <<< (nI b &&& 31))
def gbC (r : Int32) (b : Nat) (fn fq fb : FN9) (fu : Int32) (cu un re : Nat) (fn2 fq2 : FN9) (cu2 un2 re2 : Nat) : Prop := (r = 0 ∧ (fu >>> (nI b &&& 31)) &&& 1 = 0 ∧ fn2 = fn ∧ fq2 = fq ∧ cu2 = cu ∧ un2 = un ∧ re2 = re) ∨ (r = 1 ∧ ¬ (fu >>> (nI b &&& 31)) &&& 1 = 0 ∧ (fn2 = va_cpy fb fn (41 * b) 0 41 ∧ fq2 = va_cpy fn2 fq 0 0 41) ∧ cu2 = 0 ∧ un2 = 0 ∧ re2 = 0)
theorem upd_at {f g : FN9} {k : Nat} {x : Int32} (hk : k < 2 ^ 31) (e : upd f (nI k).toNatClampNeg x = g) : g = upd f k x := by rw [nI_clamp hk] at e; exact e.symm
theorem ld_at {f : FN9} {k : Nat} {x : Int32} (hk : k < 2 ^ 31) (e : x = f (nI k).toNatClampNeg) : x = f k := by rw [nI_clamp hk] at e; exact e
/-- the draw of the next NOON, and what comes of it -/
def sdF (x : Int32) : Int32 := (x * 137 + 71) - (x * 137 + 71) / 1000 * 1000
def wiF (s : Int32) : Int32 := s - s / 10 * 10
def dyF (s : Int32) : Int32 := s / 10 - s / 10 / 2 * 2
def nnC (fn : FN9) (cl : Nat) (fn2 : FN9) : Prop := fn2 23 = sdF (fn 23) ∧ fn2 22 = wiF (sdF (fn 23)) ∧ fn2 24 = fn 24 + 1 ∧ (∀ c, c < 4 → fn2 (25 + c) = if c < cl ∧ dyF (sdF (fn 23)) = 0 then (if 9 < fn (25 + c) + 1 then 9 else fn (25 + c) + 1) else fn (25 + c)) ∧ ∀ k, (k < 22 ∨ 29 ≤ k) → fn2 k = fn k
/-- the snow of the first i CLIFFS has fallen -/
def snT (fn : FN9) (i : Nat) (f : FN9) : Prop := (∀ c, c < 4 → f (25 + c) = if c < i then (if 9 < fn (25 + c) + 1 then 9 else fn (25 + c) + 1) else fn (25 + c)) ∧ ∀ k, (k < 25 ∨ 29 ≤ k) → f k = fn k
theorem snT_0 {fn : FN9} : snT fn 0 fn := ⟨fun c _ => by rw [if_neg (Nat.not_lt_zero c)], fun _ _ => rfl⟩
theorem snT_put {fn f g : FN9} {i : Nat} {x y z : Int32} (h : snT fn i f) (hi : i < 4) (ex : x = f (nI (25 + i)).toNatClampNeg) (ey : y = x + 1) (ez : z = if (9 : Int32) < y then 9 else y) (e : upd f (nI (25 + i)).toNatClampNeg z = g) : snT fn (i + 1) g := by
  rw [nI_clamp (by omega)] at ex e
  have hx : x = fn (25 + i) := by rw [ex, h.1 i hi, if_neg (by omega)]
  subst e
  refine ⟨fun c hc => ?_, fun k hk => ?_⟩
  · by_cases e : c = i
    · subst e
      rw [pk_us, if_pos (by omega), ez, ey, hx]
    · rw [pk_un (by omega), h.1 c hc]
      by_cases h9 : c < i
      · rw [if_pos h9, if_pos (show c < i + 1 by omega)]
      · rw [if_neg h9, if_neg (show ¬ c < i + 1 by omega)]
  · rw [pk_un (by omega)]; exact h.2 k hk
/-- the first moment of new HILLS, by the class -/
def bgT (hwi hdr : Int32) (fcs : FN9) (i : Nat) (f : FN9) : Prop := ∀ k, k < 41 → f k = if k = 22 then hwi else if k = 23 then hdr else if 25 ≤ k ∧ k < 25 + i then fcs (k - 25) else 0
def zrT (i : Nat) (f : FN9) : Prop := ∀ k, k < i → f k = 0
theorem zrT_0 {f : FN9} : zrT 0 f := fun k hk => absurd hk (Nat.not_lt_zero k)
theorem zrT_put {f g : FN9} {i : Nat} (h : zrT i f) (hi : i < 41) (e : upd f (nI i).toNatClampNeg 0 = g) : zrT (i + 1) g := by
  rw [nI_clamp (by omega)] at e
  subst e
  intro k hk
  by_cases e : k = i
  · rw [e, pk_us]
  · rw [pk_un e]; exact h k (by omega)
theorem bgT_0 {hwi hdr : Int32} {fcs f g h : FN9} {i : Nat} (hz : zrT i f) (hi : 41 ≤ i) (e1 : upd f (22 : Int32).toNatClampNeg hwi = g) (e2 : upd g (23 : Int32).toNatClampNeg hdr = h) : bgT hwi hdr fcs 0 h := by
  rw [show (22 : Int32).toNatClampNeg = 22 by decide] at e1
  rw [show (23 : Int32).toNatClampNeg = 23 by decide] at e2
  subst e1 e2
  intro k hk
  by_cases h3 : k = 23
  · rw [h3, pk_us, if_neg (by omega), if_pos rfl]
  · rw [pk_un h3]
    by_cases h2 : k = 22
    · rw [h2, pk_us, if_pos rfl]
    · rw [pk_un h2, if_neg h2, if_neg h3, if_neg (by omega)]
      exact hz k (by omega)
theorem bgT_put {hwi hdr : Int32} {fcs f g : FN9} {i : Nat} {x : Int32} (h : bgT hwi hdr fcs i f) (hi : i < 4) (ex : x = fcs (nI i).toNatClampNeg) (e : upd f (nI (25 + i)).toNatClampNeg x = g) : bgT hwi hdr fcs (i + 1) g := by
  rw [nI_clamp (by omega)] at ex e
  subst e
  intro k hk
  by_cases h9 : k = 25 + i
  · rw [h9, pk_us, if_neg (by omega), if_neg (by omega), if_pos (by omega), ex]
    congr 1
    omega
  · rw [pk_un h9, h k hk]
    by_cases h2 : k = 22
    · rw [if_pos h2, if_pos h2]
    · rw [if_neg h2, if_neg h2]
      by_cases h3 : k = 23
      · rw [if_pos h3, if_pos h3]
      · rw [if_neg h3, if_neg h3]
        by_cases h8 : 25 ≤ k ∧ k < 25 + i
        · rw [if_pos h8, if_pos (by omega)]
        · rw [if_neg h8, if_neg (by omega)]
theorem nn_of {fn g1 g2 g3 : FN9} {x m a sd w n n1 : Int32} (ex : x = fn (23 : Int32).toNatClampNeg) (em : m = x * 137) (ea : a = m + 71) (es : sd = a - a / 1000 * 1000) (e1 : upd fn (23 : Int32).toNatClampNeg sd = g1) (ew : w = sd - sd / 10 * 10) (e2 : upd g1 (22 : Int32).toNatClampNeg w = g2) (en : n = g2 (24 : Int32).toNatClampNeg) (en1 : n1 = n + 1) (e3 : upd g2 (24 : Int32).toNatClampNeg n1 = g3) : sd = sdF (fn 23) ∧ g3 23 = sd ∧ g3 22 = wiF sd ∧ g3 24 = fn 24 + 1 ∧ ∀ k, (k < 22 ∨ 25 ≤ k) → g3 k = fn k := by
  rw [show (23 : Int32).toNatClampNeg = 23 by decide] at ex e1
  rw [show (22 : Int32).toNatClampNeg = 22 by decide] at e2
  rw [show (24 : Int32).toNatClampNeg = 24 by decide] at en e3
  subst e1 e2 e3
  rw [pk_un (by decide), pk_un (by decide)] at en
  refine ⟨by rw [es, ea, em, ex]; rfl, ?_, ?_, ?_, fun k hk => ?_⟩
  · rw [pk_un (by decide), pk_un (by decide), pk_us]
  · rw [pk_un (by decide), pk_us, ew]; rfl
  · rw [pk_us, en1, en]
  · rw [pk_un (by omega), pk_un (by omega), pk_un (by omega)]
theorem nn_dry {fn g : FN9} {cl : Nat} {sd y z : Int32} (h : sd = sdF (fn 23) ∧ g 23 = sd ∧ g 22 = wiF sd ∧ g 24 = fn 24 + 1 ∧ ∀ k, (k < 22 ∨ 25 ≤ k) → g k = fn k) (ey : y = sd / 10) (ez : z = y - y / 2 * 2) (hz : ¬ z = 0) : nnC fn cl g := by
  obtain ⟨h1, h2, h3, h4, h5⟩ := h
  have hd : ¬ dyF (sdF (fn 23)) = 0 := fun h9 => hz (by rw [ez, ey, h1]; exact h9)
  refine ⟨by rw [h2, h1], by rw [h3, h1], h4, fun c hc => ?_, fun k hk => h5 k (by omega)⟩
  rw [if_neg (fun h9 => hd h9.2)]
  exact h5 _ (by omega)
theorem nn_snow {fn g f : FN9} {cl i : Nat} {sd y z : Int32} (h : sd = sdF (fn 23) ∧ g 23 = sd ∧ g 22 = wiF sd ∧ g 24 = fn 24 + 1 ∧ ∀ k, (k < 22 ∨ 25 ≤ k) → g k = fn k) (ey : y = sd / 10) (ez : z = y - y / 2 * 2) (hz : z = 0) (hs : snT g i f) (hi : i = cl) : nnC fn cl f := by
  subst hi
  obtain ⟨h1, h2, h3, h4, h5⟩ := h
  have hd : dyF (sdF (fn 23)) = 0 := by rw [← h1]; rw [ey] at ez; exact ez.symm.trans hz
  refine ⟨by rw [hs.2 23 (by omega), h2, h1], by rw [hs.2 22 (by omega), h3, h1], by rw [hs.2 24 (by omega), h4], fun c hc => ?_, fun k hk => ?_⟩
  · rw [hs.1 c hc, h5 (25 + c) (by omega)]
    by_cases h9 : c < i
    · rw [if_pos h9, if_pos (show c < i ∧ dyF (sdF (fn 23)) = 0 from ⟨h9, hd⟩)]
    · rw [if_neg h9, if_neg (show ¬ (c < i ∧ dyF (sdF (fn 23)) = 0) from fun h8 => h9 h8.1)]
  · rw [hs.2 k (by omega)]; exact h5 k (by omega)
theorem gdX5_forgetActs_0 : decode cX5_forgetActs 0 = .ok (.aload_n 0, 1) ∧ decode cX5_forgetActs 1 = .ok (.iconst 0, 1) ∧ decode cX5_forgetActs 2 = .ok (.putfield 42, 3) := by decide +kernel
theorem dX5_forgetActs_0 : decode cX5_forgetActs 0 = .ok (.aload_n 0, 1) := gdX5_forgetActs_0.1
theorem dX5_forgetActs_1 : decode cX5_forgetActs 1 = .ok (.iconst 0, 1) := gdX5_forgetActs_0.2.1
theorem dX5_forgetActs_2 : decode cX5_forgetActs 2 = .ok (.putfield 42, 3) := gdX5_forgetActs_0.2.2
set_option maxRecDepth 20000 in
theorem i_X5 : ∀ w ∈ u_ws RX5 TX5 7, w ∈ gT := gin [433, 435, 437, 439, 441, 443, 445] (by decide +kernel) (by decide +kernel)
theorem gdX5_forgetActs_5 : decode cX5_forgetActs 5 = .ok (.aload_n 0, 1) ∧ decode cX5_forgetActs 6 = .ok (.iconst 0, 1) ∧ decode cX5_forgetActs 7 = .ok (.putfield 45, 3) ∧ decode cX5_forgetActs 10 = .ok (.aload_n 0, 1) ∧ decode cX5_forgetActs 11 = .ok (.iconst 0, 1) ∧ decode cX5_forgetActs 12 = .ok (.putfield 48, 3) ∧ decode cX5_forgetActs 15 = .ok (.aload_n 0, 1) ∧ decode cX5_forgetActs 16 = .ok (.getfield 11, 3) ∧ decode cX5_forgetActs 19 = .ok (.iconst 0, 1) ∧ decode cX5_forgetActs 20 = .ok (.aload_n 0, 1) ∧ decode cX5_forgetActs 21 = .ok (.getfield 15, 3) ∧ decode cX5_forgetActs 24 = .ok (.iconst 0, 1) := by decide +kernel
theorem dX5_forgetActs_5 : decode cX5_forgetActs 5 = .ok (.aload_n 0, 1) := gdX5_forgetActs_5.1
theorem dX5_forgetActs_6 : decode cX5_forgetActs 6 = .ok (.iconst 0, 1) := gdX5_forgetActs_5.2.1
theorem dX5_forgetActs_7 : decode cX5_forgetActs 7 = .ok (.putfield 45, 3) := gdX5_forgetActs_5.2.2.1
theorem dX5_forgetActs_10 : decode cX5_forgetActs 10 = .ok (.aload_n 0, 1) := gdX5_forgetActs_5.2.2.2.1
theorem dX5_forgetActs_11 : decode cX5_forgetActs 11 = .ok (.iconst 0, 1) := gdX5_forgetActs_5.2.2.2.2.1
theorem dX5_forgetActs_12 : decode cX5_forgetActs 12 = .ok (.putfield 48, 3) := gdX5_forgetActs_5.2.2.2.2.2.1
theorem dX5_forgetActs_15 : decode cX5_forgetActs 15 = .ok (.aload_n 0, 1) := gdX5_forgetActs_5.2.2.2.2.2.2.1
theorem dX5_forgetActs_16 : decode cX5_forgetActs 16 = .ok (.getfield 11, 3) := gdX5_forgetActs_5.2.2.2.2.2.2.2.1
theorem dX5_forgetActs_19 : decode cX5_forgetActs 19 = .ok (.iconst 0, 1) := gdX5_forgetActs_5.2.2.2.2.2.2.2.2.1
theorem dX5_forgetActs_20 : decode cX5_forgetActs 20 = .ok (.aload_n 0, 1) := gdX5_forgetActs_5.2.2.2.2.2.2.2.2.2.1
theorem dX5_forgetActs_21 : decode cX5_forgetActs 21 = .ok (.getfield 15, 3) := gdX5_forgetActs_5.2.2.2.2.2.2.2.2.2.2.1
theorem dX5_forgetActs_24 : decode cX5_forgetActs 24 = .ok (.iconst 0, 1) := gdX5_forgetActs_5.2.2.2.2.2.2.2.2.2.2.2
theorem gdX5_forgetActs_25 : decode cX5_forgetActs 25 = .ok (.bipush 41, 2) ∧ decode cX5_forgetActs 27 = .ok (.invokestatic 51, 3) ∧ decode cX5_forgetActs 30 = .ok (.return_, 1) := by decide +kernel
theorem dX5_forgetActs_25 : decode cX5_forgetActs 25 = .ok (.bipush 41, 2) := gdX5_forgetActs_25.1
theorem dX5_forgetActs_27 : decode cX5_forgetActs 27 = .ok (.invokestatic 51, 3) := gdX5_forgetActs_25.2.1
theorem dX5_forgetActs_30 : decode cX5_forgetActs 30 = .ok (.return_, 1) := gdX5_forgetActs_25.2.2
set_option maxHeartbeats 1000000 in
set_option maxRecDepth 100000 in
theorem s_forgetActs (l : Launch) (D : va_G) (cy : Nat → ClassId) (n0 : Nat) (n1 : Nat) (n2 : Nat) (n3 : Nat) (fu : Int32) (cu : Nat) (un : Nat) (re : Nat) (fn : Nat → Int32) (fq : Nat → Int32) (hcu : cu ≤ 40) (hur : un + re ≤ 40) (hno : mRows fn 1) (hro : mRows fq 41) : XMv l D (tyL cy) E0 yX5_forgetActs cX5_forgetActs 1 none (rmk 1 0 0) [.ref n0] [wO n0 5 [.ref n1, .ref n2, .ref n3, .int fu, .int (nI cu), .int (nI un), .int (nI re)], wI (cy 1) n1 41 (fn), wI (cy 1) n2 1681 (fq)] (fun (fq2 : Nat → Int32) => (mRows fq2 41) ∧ (fq2 = va_cpy fn fq 0 0 41)) (fun (fq2 : Nat → Int32) => [wO n0 5 [.ref n1, .ref n2, .ref n3, .int fu, .int 0, .int 0, .int 0], wI (cy 1) n1 41 (fn), wI (cy 1) n2 1681 (fq2)]) := by
  refine XMv.start (by decide) (Nat.le_of_ble_eq_true rfl) ?_
  intro p e s m below meth c args A ls Q hat hQ
  obtain ⟨hx, hb, hr, hml, hown, hg, hlocks, hin, hK, hA, hP, hD, hS, hE, hl⟩ := hat
  have hown : s.vm.findClass RX5 = some m.cls := hown
  have hl : lv_has ls 1 [(0, .ref n0)] := hl
  refine lv_aload_n hx hb dX5_forgetActs_0 rfl (lv_at hl 0 rfl) ?_
  refine lv_iconst (v := 0) hx hb dX5_forgetActs_1 (by decide) ?_
  refine va_put (D := D) (ci := 5) (v := .int 0) (ty := .int) (C := RX5) (T := TX5) (N := 7) hx hb hg i_X5 tyX5 tyX5_ok nmX5 hown hK hP hD hS 0 rfl rfl 4 (by decide) (hg _ m_428) (fun _ h9 => h9) rfl (by decide +kernel) rfl rfl (Nat.le_of_ble_eq_true rfl) dX5_forgetActs_2 (fun H locs hP9 hD9 hS9 => ?_)
  clear hP hD hS
  refine reW [wO n0 5 [.ref n1, .ref n2, .ref n3, .int fu, .int 0, .int (nI un), .int (nI re)], wI (cy 1) n1 41 (fn), wI (cy 1) n2 1681 (fq)] hP9 hD9 hS9 (fun hP hD hS => ?_)
  clear hP9 hD9 hS9
  refine lv_aload_n hx hb dX5_forgetActs_5 rfl (lv_at hl 0 rfl) ?_
  refine lv_iconst (v := 0) hx hb dX5_forgetActs_6 (by decide) ?_
  refine va_put (D := D) (ci := 5) (v := .int 0) (ty := .int) (C := RX5) (T := TX5) (N := 7) hx hb hg i_X5 tyX5 tyX5_ok nmX5 hown hK hP hD hS 0 rfl rfl 5 (by decide) (hg _ m_429) (fun _ h9 => h9) rfl (by decide +kernel) rfl rfl (Nat.le_of_ble_eq_true rfl) dX5_forgetActs_7 (fun H locs hP9 hD9 hS9 => ?_)
  clear hP hD hS
  refine reW [wO n0 5 [.ref n1, .ref n2, .ref n3, .int fu, .int 0, .int 0, .int (nI re)], wI (cy 1) n1 41 (fn), wI (cy 1) n2 1681 (fq)] hP9 hD9 hS9 (fun hP hD hS => ?_)
  clear hP9 hD9 hS9
  refine lv_aload_n hx hb dX5_forgetActs_10 rfl (lv_at hl 0 rfl) ?_
  refine lv_iconst (v := 0) hx hb dX5_forgetActs_11 (by decide) ?_
  refine va_put (D := D) (ci := 5) (v := .int 0) (ty := .int) (C := RX5) (T := TX5) (N := 7) hx hb hg i_X5 tyX5 tyX5_ok nmX5 hown hK hP hD hS 0 rfl rfl 6 (by decide) (hg _ m_431) (fun _ h9 => h9) rfl (by decide +kernel) rfl rfl (Nat.le_of_ble_eq_true rfl) dX5_forgetActs_12 (fun H locs hP9 hD9 hS9 => ?_)
  clear hP hD hS
  refine reW [wO n0 5 [.ref n1, .ref n2, .ref n3, .int fu, .int 0, .int 0, .int 0], wI (cy 1) n1 41 (fn), wI (cy 1) n2 1681 (fq)] hP9 hD9 hS9 (fun hP hD hS => ?_)
  clear hP9 hD9 hS9
  refine lv_aload_n hx hb dX5_forgetActs_15 rfl (lv_at hl 0 rfl) ?_
  refine va_get (D := D) (ci := 5) (v := .ref n1) (C := RX5) (T := TX5) (N := 7) hx hb hg i_X5 hown hK hP 0 rfl rfl 0 (by decide) (hg _ m_423) (fun _ h9 => h9) rfl dX5_forgetActs_16 ?_
  refine lv_iconst (v := 0) hx hb dX5_forgetActs_19 (by decide) ?_
  refine lv_aload_n hx hb dX5_forgetActs_20 rfl (lv_at hl 0 rfl) ?_
  refine va_get (D := D) (ci := 5) (v := .ref n2) (C := RX5) (T := TX5) (N := 7) hx hb hg i_X5 hown hK hP 0 rfl rfl 1 (by decide) (hg _ m_425) (fun _ h9 => h9) rfl dX5_forgetActs_21 ?_
  refine lv_iconst (v := 0) hx hb dX5_forgetActs_24 (by decide) ?_
  refine lv_bipush (v := 41) hx hb dX5_forgetActs_25 (by decide) ?_
  refine va_copyi hx hb (hml.trans hl.1.symm) hown (hg _ m_934) (hg _ m_936) (hg _ m_935) (hg _ m_149) hK hP hD hS 1 2 1 1 rfl rfl rfl rfl rfl (by decide) (by decide) (by decide) (by decide) (by decide) (fun _ _ => rfl) (by decide) (Nat.le_of_ble_eq_true rfl) dX5_forgetActs_27 (fun H locs hP9 hD9 hS9 => ?_)
  clear hP hD hS
  obtain ⟨g_1, eg_1⟩ : ∃ y, va_cpy (fn) (fq) (0 : Int32).toNatClampNeg (0 : Int32).toNatClampNeg (41 : Int32).toNatClampNeg = y := ⟨_, rfl⟩
  rw [eg_1] at hP9 hD9
  refine reW [wO n0 5 [.ref n1, .ref n2, .ref n3, .int fu, .int 0, .int 0, .int 0], wI (cy 1) n1 41 (fn), wI (cy 1) n2 1681 (g_1)] hP9 hD9 hS9 (fun hP hD hS => ?_)
  clear hP9 hD9 hS9
  have hm_2 : mRows g_1 41 := eg_1 ▸ mRows_cpy (i := 0) (j := 0) hno hro (by omega) rfl rfl rfl
  exact x_vret hQ hx hb hr hlocks hK hP hD hS dX5_forgetActs_30 g_1 (⟨hm_2, cpy_fa eg_1⟩) [0, 1, 2] (by decide +kernel) rfl (Nat.le_of_ble_eq_true rfl) (Nat.le_of_ble_eq_true rfl)
theorem min40 {n : Nat} (hn : n < 2 ^ 31) : (if (40 : Int32) < nI n then (40 : Int32) else nI n) = nI (min n 40) := by
  by_cases h : (40 : Int32) < nI n
  · rw [if_pos h]
    have := q_lt (a := 40) (b := n) rfl rfl (by omega) hn h
    rw [Nat.min_eq_right (by omega)]; rfl
  · rw [if_neg h]
    have := q_nlt (a := 40) (b := n) rfl rfl (by omega) hn h
    rw [Nat.min_eq_left (by omega)]
theorem gdX5_keepAct_0 : decode cX5_keepAct 0 = .ok (.aload_n 0, 1) ∧ decode cX5_keepAct 1 = .ok (.aload_n 0, 1) ∧ decode cX5_keepAct 2 = .ok (.getfield 42, 3) ∧ decode cX5_keepAct 5 = .ok (.iconst 1, 1) ∧ decode cX5_keepAct 6 = .ok (.iadd, 1) ∧ decode cX5_keepAct 7 = .ok (.bipush 41, 2) ∧ decode cX5_keepAct 9 = .ok (.irem, 1) ∧ decode cX5_keepAct 10 = .ok (.putfield 42, 3) ∧ decode cX5_keepAct 13 = .ok (.aload_n 0, 1) ∧ decode cX5_keepAct 14 = .ok (.aload_n 0, 1) ∧ decode cX5_keepAct 15 = .ok (.getfield 45, 3) ∧ decode cX5_keepAct 18 = .ok (.iconst 1, 1) := by decide +kernel
theorem dX5_keepAct_0 : decode cX5_keepAct 0 = .ok (.aload_n 0, 1) := gdX5_keepAct_0.1
theorem dX5_keepAct_1 : decode cX5_keepAct 1 = .ok (.aload_n 0, 1) := gdX5_keepAct_0.2.1
theorem dX5_keepAct_2 : decode cX5_keepAct 2 = .ok (.getfield 42, 3) := gdX5_keepAct_0.2.2.1
theorem dX5_keepAct_5 : decode cX5_keepAct 5 = .ok (.iconst 1, 1) := gdX5_keepAct_0.2.2.2.1
theorem dX5_keepAct_6 : decode cX5_keepAct 6 = .ok (.iadd, 1) := gdX5_keepAct_0.2.2.2.2.1
theorem dX5_keepAct_7 : decode cX5_keepAct 7 = .ok (.bipush 41, 2) := gdX5_keepAct_0.2.2.2.2.2.1
theorem dX5_keepAct_9 : decode cX5_keepAct 9 = .ok (.irem, 1) := gdX5_keepAct_0.2.2.2.2.2.2.1
theorem dX5_keepAct_10 : decode cX5_keepAct 10 = .ok (.putfield 42, 3) := gdX5_keepAct_0.2.2.2.2.2.2.2.1
theorem dX5_keepAct_13 : decode cX5_keepAct 13 = .ok (.aload_n 0, 1) := gdX5_keepAct_0.2.2.2.2.2.2.2.2.1
theorem dX5_keepAct_14 : decode cX5_keepAct 14 = .ok (.aload_n 0, 1) := gdX5_keepAct_0.2.2.2.2.2.2.2.2.2.1
theorem dX5_keepAct_15 : decode cX5_keepAct 15 = .ok (.getfield 45, 3) := gdX5_keepAct_0.2.2.2.2.2.2.2.2.2.2.1
theorem dX5_keepAct_18 : decode cX5_keepAct 18 = .ok (.iconst 1, 1) := gdX5_keepAct_0.2.2.2.2.2.2.2.2.2.2.2
theorem gdX5_keepAct_19 : decode cX5_keepAct 19 = .ok (.iadd, 1) ∧ decode cX5_keepAct 20 = .ok (.bipush 40, 2) ∧ decode cX5_keepAct 22 = .ok (.invokestatic 57, 3) ∧ decode cX5_keepAct 25 = .ok (.putfield 45, 3) ∧ decode cX5_keepAct 28 = .ok (.aload_n 0, 1) ∧ decode cX5_keepAct 29 = .ok (.iconst 0, 1) ∧ decode cX5_keepAct 30 = .ok (.putfield 48, 3) ∧ decode cX5_keepAct 33 = .ok (.aload_n 0, 1) ∧ decode cX5_keepAct 34 = .ok (.getfield 11, 3) ∧ decode cX5_keepAct 37 = .ok (.iconst 0, 1) ∧ decode cX5_keepAct 38 = .ok (.aload_n 0, 1) ∧ decode cX5_keepAct 39 = .ok (.getfield 15, 3) := by decide +kernel
theorem dX5_keepAct_19 : decode cX5_keepAct 19 = .ok (.iadd, 1) := gdX5_keepAct_19.1
theorem dX5_keepAct_20 : decode cX5_keepAct 20 = .ok (.bipush 40, 2) := gdX5_keepAct_19.2.1
theorem dX5_keepAct_22 : decode cX5_keepAct 22 = .ok (.invokestatic 57, 3) := gdX5_keepAct_19.2.2.1
theorem dX5_keepAct_25 : decode cX5_keepAct 25 = .ok (.putfield 45, 3) := gdX5_keepAct_19.2.2.2.1
theorem dX5_keepAct_28 : decode cX5_keepAct 28 = .ok (.aload_n 0, 1) := gdX5_keepAct_19.2.2.2.2.1
theorem dX5_keepAct_29 : decode cX5_keepAct 29 = .ok (.iconst 0, 1) := gdX5_keepAct_19.2.2.2.2.2.1
theorem dX5_keepAct_30 : decode cX5_keepAct 30 = .ok (.putfield 48, 3) := gdX5_keepAct_19.2.2.2.2.2.2.1
theorem dX5_keepAct_33 : decode cX5_keepAct 33 = .ok (.aload_n 0, 1) := gdX5_keepAct_19.2.2.2.2.2.2.2.1
theorem dX5_keepAct_34 : decode cX5_keepAct 34 = .ok (.getfield 11, 3) := gdX5_keepAct_19.2.2.2.2.2.2.2.2.1
theorem dX5_keepAct_37 : decode cX5_keepAct 37 = .ok (.iconst 0, 1) := gdX5_keepAct_19.2.2.2.2.2.2.2.2.2.1
theorem dX5_keepAct_38 : decode cX5_keepAct 38 = .ok (.aload_n 0, 1) := gdX5_keepAct_19.2.2.2.2.2.2.2.2.2.2.1
theorem dX5_keepAct_39 : decode cX5_keepAct 39 = .ok (.getfield 15, 3) := gdX5_keepAct_19.2.2.2.2.2.2.2.2.2.2.2
theorem gdX5_keepAct_42 : decode cX5_keepAct 42 = .ok (.aload_n 0, 1) ∧ decode cX5_keepAct 43 = .ok (.getfield 42, 3) ∧ decode cX5_keepAct 46 = .ok (.bipush 41, 2) ∧ decode cX5_keepAct 48 = .ok (.imul, 1) ∧ decode cX5_keepAct 49 = .ok (.bipush 41, 2) ∧ decode cX5_keepAct 51 = .ok (.invokestatic 51, 3) ∧ decode cX5_keepAct 54 = .ok (.return_, 1) := by decide +kernel
theorem dX5_keepAct_42 : decode cX5_keepAct 42 = .ok (.aload_n 0, 1) := gdX5_keepAct_42.1
theorem dX5_keepAct_43 : decode cX5_keepAct 43 = .ok (.getfield 42, 3) := gdX5_keepAct_42.2.1
theorem dX5_keepAct_46 : decode cX5_keepAct 46 = .ok (.bipush 41, 2) := gdX5_keepAct_42.2.2.1
theorem dX5_keepAct_48 : decode cX5_keepAct 48 = .ok (.imul, 1) := gdX5_keepAct_42.2.2.2.1
theorem dX5_keepAct_49 : decode cX5_keepAct 49 = .ok (.bipush 41, 2) := gdX5_keepAct_42.2.2.2.2.1
theorem dX5_keepAct_51 : decode cX5_keepAct 51 = .ok (.invokestatic 51, 3) := gdX5_keepAct_42.2.2.2.2.2.1
theorem dX5_keepAct_54 : decode cX5_keepAct 54 = .ok (.return_, 1) := gdX5_keepAct_42.2.2.2.2.2.2
set_option maxHeartbeats 1000000 in
set_option maxRecDepth 100000 in
theorem s_keepAct (l : Launch) (D : va_G) (cy : Nat → ClassId) (n0 : Nat) (n1 : Nat) (n2 : Nat) (n3 : Nat) (fu : Int32) (cu : Nat) (un : Nat) (re : Nat) (fn : Nat → Int32) (fq : Nat → Int32) (hcu : cu ≤ 40) (hur : un + re ≤ 40) (hno : mRows fn 1) (hro : mRows fq 41) : XMv l D (tyL cy) E0 yX5_keepAct cX5_keepAct 1 none (rmk 1 0 0) [.ref n0] [wO n0 5 [.ref n1, .ref n2, .ref n3, .int fu, .int (nI cu), .int (nI un), .int (nI re)], wI (cy 1) n1 41 (fn), wI (cy 1) n2 1681 (fq)] (fun (u : Nat × Nat × Nat × (Nat → Int32)) => (u.1 ≤ 40) ∧ (u.2.1 + u.2.2.1 ≤ 40) ∧ (mRows u.2.2.2 41) ∧ (actC fn fq cu un u.2.2.2 u.1 u.2.1 u.2.2.1)) (fun (u : Nat × Nat × Nat × (Nat → Int32)) => [wO n0 5 [.ref n1, .ref n2, .ref n3, .int fu, .int (nI u.1), .int (nI u.2.1), .int (nI u.2.2.1)], wI (cy 1) n1 41 (fn), wI (cy 1) n2 1681 (u.2.2.2)]) := by
  refine XMv.start (by decide) (Nat.le_of_ble_eq_true rfl) ?_
  intro p e s m below meth c args A ls Q hat hQ
  obtain ⟨hx, hb, hr, hml, hown, hg, hlocks, hin, hK, hA, hP, hD, hS, hE, hl⟩ := hat
  have hown : s.vm.findClass RX5 = some m.cls := hown
  have hl : lv_has ls 1 [(0, .ref n0)] := hl
  refine lv_aload_n hx hb dX5_keepAct_0 rfl (lv_at hl 0 rfl) ?_
  refine lv_aload_n hx hb dX5_keepAct_1 rfl (lv_at hl 0 rfl) ?_
  refine va_get (D := D) (ci := 5) (v := .int (nI cu)) (C := RX5) (T := TX5) (N := 7) hx hb hg i_X5 hown hK hP 0 rfl rfl 4 (by decide) (hg _ m_428) (fun _ h9 => h9) rfl dX5_keepAct_2 ?_
  refine lv_iconst (v := 1) hx hb dX5_keepAct_5 (by decide) ?_
  refine lv_iadd hx hb dX5_keepAct_6 ?_
  refine lv_topi (fun y_1 hy_1 => ?_)
  obtain rfl : y_1 = nI (cu + 1) := hy_1.trans (nI_add cu 1)
  refine lv_bipush (v := 41) hx hb dX5_keepAct_7 (by decide) ?_
  refine lv_irem hx hb dX5_keepAct_9 (by decide) ?_
  refine lv_topi (fun y_2 hy_2 => ?_)
  obtain rfl : y_2 = nI ((cu + 1) % 41) := hy_2.trans (pk_rem (a := (cu + 1)) (d := 41) (by omega) (by decide) (by decide))
  refine va_put (D := D) (ci := 5) (v := .int (nI ((cu + 1) % 41))) (ty := .int) (C := RX5) (T := TX5) (N := 7) hx hb hg i_X5 tyX5 tyX5_ok nmX5 hown hK hP hD hS 0 rfl rfl 4 (by decide) (hg _ m_428) (fun _ h9 => h9) rfl (by decide +kernel) rfl rfl (Nat.le_of_ble_eq_true rfl) dX5_keepAct_10 (fun H locs hP9 hD9 hS9 => ?_)
  clear hP hD hS
  refine reW [wO n0 5 [.ref n1, .ref n2, .ref n3, .int fu, .int (nI ((cu + 1) % 41)), .int (nI un), .int (nI re)], wI (cy 1) n1 41 (fn), wI (cy 1) n2 1681 (fq)] hP9 hD9 hS9 (fun hP hD hS => ?_)
  clear hP9 hD9 hS9
  refine lv_aload_n hx hb dX5_keepAct_13 rfl (lv_at hl 0 rfl) ?_
  refine lv_aload_n hx hb dX5_keepAct_14 rfl (lv_at hl 0 rfl) ?_
  refine va_get (D := D) (ci := 5) (v := .int (nI un)) (C := RX5) (T := TX5) (N := 7) hx hb hg i_X5 hown hK hP 0 rfl rfl 5 (by decide) (hg _ m_429) (fun _ h9 => h9) rfl dX5_keepAct_15 ?_
  refine lv_iconst (v := 1) hx hb dX5_keepAct_18 (by decide) ?_
  refine lv_iadd hx hb dX5_keepAct_19 ?_
  refine lv_topi (fun y_3 hy_3 => ?_)
  obtain rfl : y_3 = nI (un + 1) := hy_3.trans (nI_add un 1)
  refine lv_bipush (v := 40) hx hb dX5_keepAct_20 (by decide) ?_
  refine va_mmin hx hb (hml.trans hl.1.symm) hown (hg _ m_984) (hg _ m_770) (hg _ m_147) (hg _ m_771) (by decide) (Nat.le_of_ble_eq_true rfl) (by decide) (by decide) dX5_keepAct_22 ?_
  refine lv_topi (fun x_4 ex_4 => ?_)
  obtain rfl : x_4 = nI (min (un + 1) 40) := ex_4.trans (min40 (by omega))
  refine va_put (D := D) (ci := 5) (v := .int (nI (min (un + 1) 40))) (ty := .int) (C := RX5) (T := TX5) (N := 7) hx hb hg i_X5 tyX5 tyX5_ok nmX5 hown hK hP hD hS 0 rfl rfl 5 (by decide) (hg _ m_429) (fun _ h9 => h9) rfl (by decide +kernel) rfl rfl (Nat.le_of_ble_eq_true rfl) dX5_keepAct_25 (fun H locs hP9 hD9 hS9 => ?_)
  clear hP hD hS
  refine reW [wO n0 5 [.ref n1, .ref n2, .ref n3, .int fu, .int (nI ((cu + 1) % 41)), .int (nI (min (un + 1) 40)), .int (nI re)], wI (cy 1) n1 41 (fn), wI (cy 1) n2 1681 (fq)] hP9 hD9 hS9 (fun hP hD hS => ?_)
  clear hP9 hD9 hS9
  refine lv_aload_n hx hb dX5_keepAct_28 rfl (lv_at hl 0 rfl) ?_
  refine lv_iconst (v := 0) hx hb dX5_keepAct_29 (by decide) ?_
  refine va_put (D := D) (ci := 5) (v := .int 0) (ty := .int) (C := RX5) (T := TX5) (N := 7) hx hb hg i_X5 tyX5 tyX5_ok nmX5 hown hK hP hD hS 0 rfl rfl 6 (by decide) (hg _ m_431) (fun _ h9 => h9) rfl (by decide +kernel) rfl rfl (Nat.le_of_ble_eq_true rfl) dX5_keepAct_30 (fun H locs hP9 hD9 hS9 => ?_)
  clear hP hD hS
  refine reW [wO n0 5 [.ref n1, .ref n2, .ref n3, .int fu, .int (nI ((cu + 1) % 41)), .int (nI (min (un + 1) 40)), .int 0], wI (cy 1) n1 41 (fn), wI (cy 1) n2 1681 (fq)] hP9 hD9 hS9 (fun hP hD hS => ?_)
  clear hP9 hD9 hS9
  refine lv_aload_n hx hb dX5_keepAct_33 rfl (lv_at hl 0 rfl) ?_
  refine va_get (D := D) (ci := 5) (v := .ref n1) (C := RX5) (T := TX5) (N := 7) hx hb hg i_X5 hown hK hP 0 rfl rfl 0 (by decide) (hg _ m_423) (fun _ h9 => h9) rfl dX5_keepAct_34 ?_
  refine lv_iconst (v := 0) hx hb dX5_keepAct_37 (by decide) ?_
  refine lv_aload_n hx hb dX5_keepAct_38 rfl (lv_at hl 0 rfl) ?_
  refine va_get (D := D) (ci := 5) (v := .ref n2) (C := RX5) (T := TX5) (N := 7) hx hb hg i_X5 hown hK hP 0 rfl rfl 1 (by decide) (hg _ m_425) (fun _ h9 => h9) rfl dX5_keepAct_39 ?_
  refine lv_aload_n hx hb dX5_keepAct_42 rfl (lv_at hl 0 rfl) ?_
  refine va_get (D := D) (ci := 5) (v := .int (nI ((cu + 1) % 41))) (C := RX5) (T := TX5) (N := 7) hx hb hg i_X5 hown hK hP 0 rfl rfl 4 (by decide) (hg _ m_428) (fun _ h9 => h9) rfl dX5_keepAct_43 ?_
  refine lv_bipush (v := 41) hx hb dX5_keepAct_46 (by decide) ?_
  refine lv_imul hx hb dX5_keepAct_48 ?_
  refine lv_topi (fun y_5 hy_5 => ?_)
  obtain rfl : y_5 = nI (((cu + 1) % 41) * 41) := hy_5.trans (pk_mul (((cu + 1) % 41)) 41)
  refine lv_bipush (v := 41) hx hb dX5_keepAct_49 (by decide) ?_
  refine va_copyi hx hb (hml.trans hl.1.symm) hown (hg _ m_934) (hg _ m_936) (hg _ m_935) (hg _ m_149) hK hP hD hS 1 2 1 1 rfl rfl rfl rfl rfl (by decide) (nI_pos (by omega)) (by decide) (by decide) (by rw [nI_clamp (by omega)]; show _ + 41 ≤ 1681; omega) (fun _ _ => rfl) (by decide) (Nat.le_of_ble_eq_true rfl) dX5_keepAct_51 (fun H locs hP9 hD9 hS9 => ?_)
  clear hP hD hS
  obtain ⟨g_6, eg_6⟩ : ∃ y, va_cpy (fn) (fq) (0 : Int32).toNatClampNeg (nI (((cu + 1) % 41) * 41) : Int32).toNatClampNeg (41 : Int32).toNatClampNeg = y := ⟨_, rfl⟩
  rw [eg_6] at hP9 hD9
  refine reW [wO n0 5 [.ref n1, .ref n2, .ref n3, .int fu, .int (nI ((cu + 1) % 41)), .int (nI (min (un + 1) 40)), .int 0], wI (cy 1) n1 41 (fn), wI (cy 1) n2 1681 (g_6)] hP9 hD9 hS9 (fun hP hD hS => ?_)
  clear hP9 hD9 hS9
  have hm_7 : mRows g_6 41 := eg_6 ▸ mRows_cpy (i := 0) (j := ((cu + 1) % 41)) hno hro (by omega) rfl (by rw [nI_clamp (by omega)]; omega) rfl
  exact x_vret hQ hx hb hr hlocks hK hP hD hS dX5_keepAct_54 (((cu + 1) % 41), (min (un + 1) 40), 0, g_6) (⟨(show (((cu + 1) % 41)) ≤ 40 from by omega), (show ((min (un + 1) 40)) + 0 ≤ 40 from by omega), hm_7, ⟨rfl, rfl, rfl, cpy_to (by omega) eg_6⟩⟩) [0, 1, 2] (by decide +kernel) rfl (Nat.le_of_ble_eq_true rfl) (Nat.le_of_ble_eq_true rfl)
theorem gdX5_goTo_0 : decode cX5_goTo 0 = .ok (.aload_n 0, 1) ∧ decode cX5_goTo 1 = .ok (.iload_n 1, 1) ∧ decode cX5_goTo 2 = .ok (.putfield 42, 3) ∧ decode cX5_goTo 5 = .ok (.aload_n 0, 1) ∧ decode cX5_goTo 6 = .ok (.getfield 15, 3) ∧ decode cX5_goTo 9 = .ok (.iload_n 1, 1) ∧ decode cX5_goTo 10 = .ok (.bipush 41, 2) ∧ decode cX5_goTo 12 = .ok (.imul, 1) ∧ decode cX5_goTo 13 = .ok (.aload_n 0, 1) ∧ decode cX5_goTo 14 = .ok (.getfield 11, 3) ∧ decode cX5_goTo 17 = .ok (.iconst 0, 1) ∧ decode cX5_goTo 18 = .ok (.bipush 41, 2) := by decide +kernel
theorem dX5_goTo_0 : decode cX5_goTo 0 = .ok (.aload_n 0, 1) := gdX5_goTo_0.1
theorem dX5_goTo_1 : decode cX5_goTo 1 = .ok (.iload_n 1, 1) := gdX5_goTo_0.2.1
theorem dX5_goTo_2 : decode cX5_goTo 2 = .ok (.putfield 42, 3) := gdX5_goTo_0.2.2.1
theorem dX5_goTo_5 : decode cX5_goTo 5 = .ok (.aload_n 0, 1) := gdX5_goTo_0.2.2.2.1
theorem dX5_goTo_6 : decode cX5_goTo 6 = .ok (.getfield 15, 3) := gdX5_goTo_0.2.2.2.2.1
theorem dX5_goTo_9 : decode cX5_goTo 9 = .ok (.iload_n 1, 1) := gdX5_goTo_0.2.2.2.2.2.1
theorem dX5_goTo_10 : decode cX5_goTo 10 = .ok (.bipush 41, 2) := gdX5_goTo_0.2.2.2.2.2.2.1
theorem dX5_goTo_12 : decode cX5_goTo 12 = .ok (.imul, 1) := gdX5_goTo_0.2.2.2.2.2.2.2.1
theorem dX5_goTo_13 : decode cX5_goTo 13 = .ok (.aload_n 0, 1) := gdX5_goTo_0.2.2.2.2.2.2.2.2.1
theorem dX5_goTo_14 : decode cX5_goTo 14 = .ok (.getfield 11, 3) := gdX5_goTo_0.2.2.2.2.2.2.2.2.2.1
theorem dX5_goTo_17 : decode cX5_goTo 17 = .ok (.iconst 0, 1) := gdX5_goTo_0.2.2.2.2.2.2.2.2.2.2.1
theorem dX5_goTo_18 : decode cX5_goTo 18 = .ok (.bipush 41, 2) := gdX5_goTo_0.2.2.2.2.2.2.2.2.2.2.2
theorem dX5_goTo_20 : decode cX5_goTo 20 = .ok (.invokestatic 51, 3) := by decide +kernel
theorem dX5_goTo_23 : decode cX5_goTo 23 = .ok (.return_, 1) := by decide +kernel
set_option maxHeartbeats 1000000 in
set_option maxRecDepth 100000 in
theorem s_goTo (l : Launch) (D : va_G) (cy : Nat → ClassId) (n0 : Nat) (n1 : Nat) (n2 : Nat) (n3 : Nat) (fu : Int32) (cu : Nat) (un : Nat) (re : Nat) (fn : Nat → Int32) (fq : Nat → Int32) (rw : Nat) (hcu : cu ≤ 40) (hur : un + re ≤ 40) (hno : mRows fn 1) (hro : mRows fq 41) (hrw : rw ≤ 40) : XMv l D (tyL cy) E0 yX5_goTo cX5_goTo 2 none (rmk 1 0 0) [.ref n0, .int (nI rw)] [wO n0 5 [.ref n1, .ref n2, .ref n3, .int fu, .int (nI cu), .int (nI un), .int (nI re)], wI (cy 1) n1 41 (fn), wI (cy 1) n2 1681 (fq)] (fun (fn2 : Nat → Int32) => (mRows fn2 1) ∧ (fn2 = va_cpy fq fn (41 * rw) 0 41)) (fun (fn2 : Nat → Int32) => [wO n0 5 [.ref n1, .ref n2, .ref n3, .int fu, .int (nI rw), .int (nI un), .int (nI re)], wI (cy 1) n1 41 (fn2), wI (cy 1) n2 1681 (fq)]) := by
  refine XMv.start (by decide) (Nat.le_of_ble_eq_true rfl) ?_
  intro p e s m below meth c args A ls Q hat hQ
  obtain ⟨hx, hb, hr, hml, hown, hg, hlocks, hin, hK, hA, hP, hD, hS, hE, hl⟩ := hat
  have hown : s.vm.findClass RX5 = some m.cls := hown
  have hl : lv_has ls 2 [(0, .ref n0), (1, .int (nI rw))] := hl
  refine lv_aload_n hx hb dX5_goTo_0 rfl (lv_at hl 0 rfl) ?_
  refine lv_iload_n hx hb dX5_goTo_1 rfl (lv_at hl 1 rfl) ?_
  refine va_put (D := D) (ci := 5) (v := .int (nI rw)) (ty := .int) (C := RX5) (T := TX5) (N := 7) hx hb hg i_X5 tyX5 tyX5_ok nmX5 hown hK hP hD hS 0 rfl rfl 4 (by decide) (hg _ m_428) (fun _ h9 => h9) rfl (by decide +kernel) rfl rfl (Nat.le_of_ble_eq_true rfl) dX5_goTo_2 (fun H locs hP9 hD9 hS9 => ?_)
  clear hP hD hS
  refine reW [wO n0 5 [.ref n1, .ref n2, .ref n3, .int fu, .int (nI rw), .int (nI un), .int (nI re)], wI (cy 1) n1 41 (fn), wI (cy 1) n2 1681 (fq)] hP9 hD9 hS9 (fun hP hD hS => ?_)
  clear hP9 hD9 hS9
  refine lv_aload_n hx hb dX5_goTo_5 rfl (lv_at hl 0 rfl) ?_
  refine va_get (D := D) (ci := 5) (v := .ref n2) (C := RX5) (T := TX5) (N := 7) hx hb hg i_X5 hown hK hP 0 rfl rfl 1 (by decide) (hg _ m_425) (fun _ h9 => h9) rfl dX5_goTo_6 ?_
  refine lv_iload_n hx hb dX5_goTo_9 rfl (lv_at hl 1 rfl) ?_
  refine lv_bipush (v := 41) hx hb dX5_goTo_10 (by decide) ?_
  refine lv_imul hx hb dX5_goTo_12 ?_
  refine lv_topi (fun y_1 hy_1 => ?_)
  obtain rfl : y_1 = nI (rw * 41) := hy_1.trans (pk_mul rw 41)
  refine lv_aload_n hx hb dX5_goTo_13 rfl (lv_at hl 0 rfl) ?_
  refine va_get (D := D) (ci := 5) (v := .ref n1) (C := RX5) (T := TX5) (N := 7) hx hb hg i_X5 hown hK hP 0 rfl rfl 0 (by decide) (hg _ m_423) (fun _ h9 => h9) rfl dX5_goTo_14 ?_
  refine lv_iconst (v := 0) hx hb dX5_goTo_17 (by decide) ?_
  refine lv_bipush (v := 41) hx hb dX5_goTo_18 (by decide) ?_
  refine va_copyi hx hb (hml.trans hl.1.symm) hown (hg _ m_934) (hg _ m_936) (hg _ m_935) (hg _ m_149) hK hP hD hS 2 1 1 1 rfl rfl rfl rfl rfl (nI_pos (by omega)) (by decide) (by decide) (by rw [nI_clamp (by omega)]; show _ + 41 ≤ 1681; omega) (by decide) (fun _ _ => rfl) (by decide) (Nat.le_of_ble_eq_true rfl) dX5_goTo_20 (fun H locs hP9 hD9 hS9 => ?_)
  clear hP hD hS
  obtain ⟨g_2, eg_2⟩ : ∃ y, va_cpy (fq) (fn) (nI (rw * 41) : Int32).toNatClampNeg (0 : Int32).toNatClampNeg (41 : Int32).toNatClampNeg = y := ⟨_, rfl⟩
  rw [eg_2] at hP9 hD9
  refine reW [wO n0 5 [.ref n1, .ref n2, .ref n3, .int fu, .int (nI rw), .int (nI un), .int (nI re)], wI (cy 1) n1 41 (g_2), wI (cy 1) n2 1681 (fq)] hP9 hD9 hS9 (fun hP hD hS => ?_)
  clear hP9 hD9 hS9
  have hm_3 : mRows g_2 1 := eg_2 ▸ mRows_cpy (i := rw) (j := 0) hro hno (by omega) (by rw [nI_clamp (by omega)]; omega) rfl rfl
  exact x_vret hQ hx hb hr hlocks hK hP hD hS dX5_goTo_23 g_2 (⟨hm_3, cpy_from (by omega) eg_2⟩) [0, 1, 2] (by decide +kernel) rfl (Nat.le_of_ble_eq_true rfl) (Nat.le_of_ble_eq_true rfl)
theorem gdX5_stepBack_0 : decode cX5_stepBack 0 = .ok (.aload_n 0, 1) ∧ decode cX5_stepBack 1 = .ok (.getfield 45, 3) ∧ decode cX5_stepBack 4 = .ok (.ifCond .ne 5, 3) ∧ decode cX5_stepBack 9 = .ok (.aload_n 0, 1) ∧ decode cX5_stepBack 10 = .ok (.dup, 1) ∧ decode cX5_stepBack 11 = .ok (.getfield 45, 3) ∧ decode cX5_stepBack 14 = .ok (.iconst 1, 1) ∧ decode cX5_stepBack 15 = .ok (.isub, 1) ∧ decode cX5_stepBack 16 = .ok (.putfield 45, 3) ∧ decode cX5_stepBack 19 = .ok (.aload_n 0, 1) ∧ decode cX5_stepBack 20 = .ok (.dup, 1) ∧ decode cX5_stepBack 21 = .ok (.getfield 48, 3) := by decide +kernel
theorem dX5_stepBack_0 : decode cX5_stepBack 0 = .ok (.aload_n 0, 1) := gdX5_stepBack_0.1
theorem dX5_stepBack_1 : decode cX5_stepBack 1 = .ok (.getfield 45, 3) := gdX5_stepBack_0.2.1
theorem dX5_stepBack_4 : decode cX5_stepBack 4 = .ok (.ifCond .ne 5, 3) := gdX5_stepBack_0.2.2.1
theorem dX5_stepBack_9 : decode cX5_stepBack 9 = .ok (.aload_n 0, 1) := gdX5_stepBack_0.2.2.2.1
theorem dX5_stepBack_10 : decode cX5_stepBack 10 = .ok (.dup, 1) := gdX5_stepBack_0.2.2.2.2.1
theorem dX5_stepBack_11 : decode cX5_stepBack 11 = .ok (.getfield 45, 3) := gdX5_stepBack_0.2.2.2.2.2.1
theorem dX5_stepBack_14 : decode cX5_stepBack 14 = .ok (.iconst 1, 1) := gdX5_stepBack_0.2.2.2.2.2.2.1
theorem dX5_stepBack_15 : decode cX5_stepBack 15 = .ok (.isub, 1) := gdX5_stepBack_0.2.2.2.2.2.2.2.1
theorem dX5_stepBack_16 : decode cX5_stepBack 16 = .ok (.putfield 45, 3) := gdX5_stepBack_0.2.2.2.2.2.2.2.2.1
theorem dX5_stepBack_19 : decode cX5_stepBack 19 = .ok (.aload_n 0, 1) := gdX5_stepBack_0.2.2.2.2.2.2.2.2.2.1
theorem dX5_stepBack_20 : decode cX5_stepBack 20 = .ok (.dup, 1) := gdX5_stepBack_0.2.2.2.2.2.2.2.2.2.2.1
theorem dX5_stepBack_21 : decode cX5_stepBack 21 = .ok (.getfield 48, 3) := gdX5_stepBack_0.2.2.2.2.2.2.2.2.2.2.2
theorem gdX5_stepBack_24 : decode cX5_stepBack 24 = .ok (.iconst 1, 1) ∧ decode cX5_stepBack 25 = .ok (.iadd, 1) ∧ decode cX5_stepBack 26 = .ok (.putfield 48, 3) ∧ decode cX5_stepBack 29 = .ok (.aload_n 0, 1) ∧ decode cX5_stepBack 30 = .ok (.aload_n 0, 1) ∧ decode cX5_stepBack 31 = .ok (.getfield 42, 3) ∧ decode cX5_stepBack 34 = .ok (.bipush 41, 2) ∧ decode cX5_stepBack 36 = .ok (.iadd, 1) ∧ decode cX5_stepBack 37 = .ok (.iconst 1, 1) ∧ decode cX5_stepBack 38 = .ok (.isub, 1) ∧ decode cX5_stepBack 39 = .ok (.bipush 41, 2) ∧ decode cX5_stepBack 41 = .ok (.irem, 1) := by decide +kernel
theorem dX5_stepBack_24 : decode cX5_stepBack 24 = .ok (.iconst 1, 1) := gdX5_stepBack_24.1
theorem dX5_stepBack_25 : decode cX5_stepBack 25 = .ok (.iadd, 1) := gdX5_stepBack_24.2.1
theorem dX5_stepBack_26 : decode cX5_stepBack 26 = .ok (.putfield 48, 3) := gdX5_stepBack_24.2.2.1
theorem dX5_stepBack_29 : decode cX5_stepBack 29 = .ok (.aload_n 0, 1) := gdX5_stepBack_24.2.2.2.1
theorem dX5_stepBack_30 : decode cX5_stepBack 30 = .ok (.aload_n 0, 1) := gdX5_stepBack_24.2.2.2.2.1
theorem dX5_stepBack_31 : decode cX5_stepBack 31 = .ok (.getfield 42, 3) := gdX5_stepBack_24.2.2.2.2.2.1
theorem dX5_stepBack_34 : decode cX5_stepBack 34 = .ok (.bipush 41, 2) := gdX5_stepBack_24.2.2.2.2.2.2.1
theorem dX5_stepBack_36 : decode cX5_stepBack 36 = .ok (.iadd, 1) := gdX5_stepBack_24.2.2.2.2.2.2.2.1
theorem dX5_stepBack_37 : decode cX5_stepBack 37 = .ok (.iconst 1, 1) := gdX5_stepBack_24.2.2.2.2.2.2.2.2.1
theorem dX5_stepBack_38 : decode cX5_stepBack 38 = .ok (.isub, 1) := gdX5_stepBack_24.2.2.2.2.2.2.2.2.2.1
theorem dX5_stepBack_39 : decode cX5_stepBack 39 = .ok (.bipush 41, 2) := gdX5_stepBack_24.2.2.2.2.2.2.2.2.2.2.1
theorem dX5_stepBack_41 : decode cX5_stepBack 41 = .ok (.irem, 1) := gdX5_stepBack_24.2.2.2.2.2.2.2.2.2.2.2
theorem dX5_stepBack_42 : decode cX5_stepBack 42 = .ok (.invokevirtual 63, 3) := by decide +kernel
theorem k_X5_63 : xV RX5 RX5 63 yX5_goTo cX5_goTo 2 none 1 := ⟨⟨m_1108, m_1110, m_36, m_139, m_1111⟩, rfl, by decide, by decide, by decide +kernel⟩
theorem gdX5_stepBack_45 : decode cX5_stepBack 45 = .ok (.iconst 1, 1) ∧ decode cX5_stepBack 46 = .ok (.ireturn, 1) ∧ decode cX5_stepBack 7 = .ok (.iconst 0, 1) ∧ decode cX5_stepBack 8 = .ok (.ireturn, 1) := by decide +kernel
theorem dX5_stepBack_45 : decode cX5_stepBack 45 = .ok (.iconst 1, 1) := gdX5_stepBack_45.1
theorem dX5_stepBack_46 : decode cX5_stepBack 46 = .ok (.ireturn, 1) := gdX5_stepBack_45.2.1
theorem dX5_stepBack_7 : decode cX5_stepBack 7 = .ok (.iconst 0, 1) := gdX5_stepBack_45.2.2.1
theorem dX5_stepBack_8 : decode cX5_stepBack 8 = .ok (.ireturn, 1) := gdX5_stepBack_45.2.2.2
set_option maxHeartbeats 1000000 in
set_option maxRecDepth 100000 in
theorem s_stepBack (l : Launch) (D : va_G) (cy : Nat → ClassId) (n0 : Nat) (n1 : Nat) (n2 : Nat) (n3 : Nat) (fu : Int32) (cu : Nat) (un : Nat) (re : Nat) (fn : Nat → Int32) (fq : Nat → Int32) (hcu : cu ≤ 40) (hur : un + re ≤ 40) (hno : mRows fn 1) (hro : mRows fq 41) : XMi l D (tyL cy) E0 yX5_stepBack cX5_stepBack 1 (some .boolean) (rmk 2 0 0) [.ref n0] [wO n0 5 [.ref n1, .ref n2, .ref n3, .int fu, .int (nI cu), .int (nI un), .int (nI re)], wI (cy 1) n1 41 (fn), wI (cy 1) n2 1681 (fq)] (fun (r : Int32) (u : Nat × Nat × Nat × (Nat → Int32)) => (r = 0 ∨ r = 1) ∧ (u.1 ≤ 40) ∧ (u.2.1 + u.2.2.1 ≤ 40) ∧ (mRows u.2.2.2 1) ∧ (sbC r fn fq cu un re u.2.2.2 u.1 u.2.1 u.2.2.1)) (fun (u : Nat × Nat × Nat × (Nat → Int32)) => [wO n0 5 [.ref n1, .ref n2, .ref n3, .int fu, .int (nI u.1), .int (nI u.2.1), .int (nI u.2.2.1)], wI (cy 1) n1 41 (u.2.2.2), wI (cy 1) n2 1681 (fq)]) := by
  refine XMi.start (by decide) (Nat.le_of_ble_eq_true rfl) ?_
  intro p e s m below meth c args A ls Q hat hQ
  obtain ⟨hx, hb, hr, hml, hown, hg, hlocks, hin, hK, hA, hP, hD, hS, hE, hl⟩ := hat
  have hown : s.vm.findClass RX5 = some m.cls := hown
  have hl : lv_has ls 1 [(0, .ref n0)] := hl
  refine lv_aload_n hx hb dX5_stepBack_0 rfl (lv_at hl 0 rfl) ?_
  refine va_get (D := D) (ci := 5) (v := .int (nI un)) (C := RX5) (T := TX5) (N := 7) hx hb hg i_X5 hown hK hP 0 rfl rfl 5 (by decide) (hg _ m_429) (fun _ h9 => h9) rfl dX5_stepBack_1 ?_
  refine lv_if_ne (tgt := 9) hx hb dX5_stepBack_4 (by decide) (fun c_1 => ?_) (fun c_1 => ?_)
  · have q_2 : ¬ un = 0 := q_ne (a := un) (b := 0) rfl rfl (by omega) (by omega) c_1
    refine lv_aload_n hx hb dX5_stepBack_9 rfl (lv_at hl 0 rfl) ?_
    refine lv_dup hx hb dX5_stepBack_10 rfl ?_
    refine va_get (D := D) (ci := 5) (v := .int (nI un)) (C := RX5) (T := TX5) (N := 7) hx hb hg i_X5 hown hK hP 0 rfl rfl 5 (by decide) (hg _ m_429) (fun _ h9 => h9) rfl dX5_stepBack_11 ?_
    refine lv_iconst (v := 1) hx hb dX5_stepBack_14 (by decide) ?_
    refine lv_isub hx hb dX5_stepBack_15 ?_
    refine lv_topi (fun y_3 hy_3 => ?_)
    obtain rfl : y_3 = nI (un - 1) := hy_3.trans (pk_sub (a := un) (b := 1) (by omega))
    refine va_put (D := D) (ci := 5) (v := .int (nI (un - 1))) (ty := .int) (C := RX5) (T := TX5) (N := 7) hx hb hg i_X5 tyX5 tyX5_ok nmX5 hown hK hP hD hS 0 rfl rfl 5 (by decide) (hg _ m_429) (fun _ h9 => h9) rfl (by decide +kernel) rfl rfl (Nat.le_of_ble_eq_true rfl) dX5_stepBack_16 (fun H locs hP9 hD9 hS9 => ?_)
    clear hP hD hS
    refine reW [wO n0 5 [.ref n1, .ref n2, .ref n3, .int fu, .int (nI cu), .int (nI (un - 1)), .int (nI re)], wI (cy 1) n1 41 (fn), wI (cy 1) n2 1681 (fq)] hP9 hD9 hS9 (fun hP hD hS => ?_)
    clear hP9 hD9 hS9
    refine lv_aload_n hx hb dX5_stepBack_19 rfl (lv_at hl 0 rfl) ?_
    refine lv_dup hx hb dX5_stepBack_20 rfl ?_
    refine va_get (D := D) (ci := 5) (v := .int (nI re)) (C := RX5) (T := TX5) (N := 7) hx hb hg i_X5 hown hK hP 0 rfl rfl 6 (by decide) (hg _ m_431) (fun _ h9 => h9) rfl dX5_stepBack_21 ?_
    refine lv_iconst (v := 1) hx hb dX5_stepBack_24 (by decide) ?_
    refine lv_iadd hx hb dX5_stepBack_25 ?_
    refine lv_topi (fun y_4 hy_4 => ?_)
    obtain rfl : y_4 = nI (re + 1) := hy_4.trans (nI_add re 1)
    refine va_put (D := D) (ci := 5) (v := .int (nI (re + 1))) (ty := .int) (C := RX5) (T := TX5) (N := 7) hx hb hg i_X5 tyX5 tyX5_ok nmX5 hown hK hP hD hS 0 rfl rfl 6 (by decide) (hg _ m_431) (fun _ h9 => h9) rfl (by decide +kernel) rfl rfl (Nat.le_of_ble_eq_true rfl) dX5_stepBack_26 (fun H locs hP9 hD9 hS9 => ?_)
    clear hP hD hS
    refine reW [wO n0 5 [.ref n1, .ref n2, .ref n3, .int fu, .int (nI cu), .int (nI (un - 1)), .int (nI (re + 1))], wI (cy 1) n1 41 (fn), wI (cy 1) n2 1681 (fq)] hP9 hD9 hS9 (fun hP hD hS => ?_)
    clear hP9 hD9 hS9
    refine lv_aload_n hx hb dX5_stepBack_29 rfl (lv_at hl 0 rfl) ?_
    refine lv_aload_n hx hb dX5_stepBack_30 rfl (lv_at hl 0 rfl) ?_
    refine va_get (D := D) (ci := 5) (v := .int (nI cu)) (C := RX5) (T := TX5) (N := 7) hx hb hg i_X5 hown hK hP 0 rfl rfl 4 (by decide) (hg _ m_428) (fun _ h9 => h9) rfl dX5_stepBack_31 ?_
    refine lv_bipush (v := 41) hx hb dX5_stepBack_34 (by decide) ?_
    refine lv_iadd hx hb dX5_stepBack_36 ?_
    refine lv_topi (fun y_5 hy_5 => ?_)
    obtain rfl : y_5 = nI (cu + 41) := hy_5.trans (nI_add cu 41)
    refine lv_iconst (v := 1) hx hb dX5_stepBack_37 (by decide) ?_
    refine lv_isub hx hb dX5_stepBack_38 ?_
    refine lv_topi (fun y_6 hy_6 => ?_)
    obtain rfl : y_6 = nI ((cu + 41) - 1) := hy_6.trans (pk_sub (a := (cu + 41)) (b := 1) (by omega))
    refine lv_bipush (v := 41) hx hb dX5_stepBack_39 (by decide) ?_
    refine lv_irem hx hb dX5_stepBack_41 (by decide) ?_
    refine lv_topi (fun y_7 hy_7 => ?_)
    obtain rfl : y_7 = nI (((cu + 41) - 1) % 41) := hy_7.trans (pk_rem (a := ((cu + 41) - 1)) (d := 41) (by omega) (by decide) (by decide))
    refine x_callVv (q := (RX5, TX5, 7)) (ci := 5) (q0 := 0) (wr := []) (rest := []) ⟨hx, hb, hml, hown, hg, hl.1⟩ k_X5_63 (s_goTo l D cy n0 n1 n2 n3 fu cu ((un - 1)) ((re + 1)) fn fq ((((cu + 41) - 1) % 41)) (by omega) (by omega) (hno) (hro) (by omega)) E0_blind hK hP hD hS hA [0, 1, 2] [] ⟨rfl, rfl, by decide +kernel, by decide +kernel, by decide +kernel⟩ rfl rfl (fun _ _ _ => trivial) dX5_stepBack_42 rfl rfl (Nat.le_of_ble_eq_true rfl) ⟨Nat.le_of_ble_eq_true rfl, Nat.le_of_ble_eq_true rfl⟩ ⟨Nat.le_of_ble_eq_true rfl, Nat.le_of_ble_eq_true rfl⟩ (fun zu8 H locs hw8 hP9 hD9 hS9 => ?_)
    clear hP hD hS
    obtain ⟨fn2_9, rfl⟩ : ∃ z, z = zu8 := ⟨_, rfl⟩
    refine reW [wO n0 5 [.ref n1, .ref n2, .ref n3, .int fu, .int (nI ((((cu + 41) - 1) % 41))), .int (nI ((un - 1))), .int (nI ((re + 1)))], wI (cy 1) n1 41 (fn2_9), wI (cy 1) n2 1681 (fq)] hP9 hD9 hS9 (fun hP hD hS => ?_)
    clear hP9 hD9 hS9
    refine W.widen (k := 0) (n := 0) (Nat.le_of_ble_eq_true rfl) (Nat.le_of_ble_eq_true rfl) ?_
    replace hw8 : (mRows fn2_9 1) ∧ (fn2_9 = va_cpy fq fn (41 * ((((cu + 41) - 1) % 41))) 0 41) := hw8
    obtain ⟨f_10, f_11⟩ := hw8
    refine lv_iconst (v := 1) hx hb dX5_stepBack_45 (by decide) ?_
    exact x_zret hQ hx hb hr hlocks hK hP hD hS rfl dX5_stepBack_46 (((((cu + 41) - 1) % 41)), ((un - 1)), ((re + 1)), fn2_9) (⟨(Or.inr rfl), (show (((((cu + 41) - 1) % 41))) ≤ 40 from by omega), (show (((un - 1))) + (((re + 1))) ≤ 40 from by omega), f_10, Or.inr ⟨rfl, by omega, f_11, rfl, rfl, rfl⟩⟩) [0, 1, 2] (by decide +kernel) rfl (Nat.le_of_ble_eq_true rfl) (Nat.le_of_ble_eq_true rfl)
  · have q_2 : un = 0 := q_eq (a := un) (b := 0) rfl rfl (by omega) (by omega) c_1
    refine lv_iconst (v := 0) hx hb dX5_stepBack_7 (by decide) ?_
    exact x_zret hQ hx hb hr hlocks hK hP hD hS rfl dX5_stepBack_8 (cu, un, re, fn) (⟨(Or.inl rfl), (show cu ≤ 40 from by omega), (show un + re ≤ 40 from by omega), hno, Or.inl ⟨rfl, by omega, rfl, rfl, rfl, rfl⟩⟩) [0, 1, 2] (by decide +kernel) rfl (Nat.le_of_ble_eq_true rfl) (Nat.le_of_ble_eq_true rfl)
theorem gdX5_stepOn_0 : decode cX5_stepOn 0 = .ok (.aload_n 0, 1) ∧ decode cX5_stepOn 1 = .ok (.getfield 48, 3) ∧ decode cX5_stepOn 4 = .ok (.ifCond .ne 5, 3) ∧ decode cX5_stepOn 9 = .ok (.aload_n 0, 1) ∧ decode cX5_stepOn 10 = .ok (.dup, 1) ∧ decode cX5_stepOn 11 = .ok (.getfield 45, 3) ∧ decode cX5_stepOn 14 = .ok (.iconst 1, 1) ∧ decode cX5_stepOn 15 = .ok (.iadd, 1) ∧ decode cX5_stepOn 16 = .ok (.putfield 45, 3) ∧ decode cX5_stepOn 19 = .ok (.aload_n 0, 1) ∧ decode cX5_stepOn 20 = .ok (.dup, 1) ∧ decode cX5_stepOn 21 = .ok (.getfield 48, 3) := by decide +kernel
theorem dX5_stepOn_0 : decode cX5_stepOn 0 = .ok (.aload_n 0, 1) := gdX5_stepOn_0.1
theorem dX5_stepOn_1 : decode cX5_stepOn 1 = .ok (.getfield 48, 3) := gdX5_stepOn_0.2.1
theorem dX5_stepOn_4 : decode cX5_stepOn 4 = .ok (.ifCond .ne 5, 3) := gdX5_stepOn_0.2.2.1
theorem dX5_stepOn_9 : decode cX5_stepOn 9 = .ok (.aload_n 0, 1) := gdX5_stepOn_0.2.2.2.1
theorem dX5_stepOn_10 : decode cX5_stepOn 10 = .ok (.dup, 1) := gdX5_stepOn_0.2.2.2.2.1
theorem dX5_stepOn_11 : decode cX5_stepOn 11 = .ok (.getfield 45, 3) := gdX5_stepOn_0.2.2.2.2.2.1
theorem dX5_stepOn_14 : decode cX5_stepOn 14 = .ok (.iconst 1, 1) := gdX5_stepOn_0.2.2.2.2.2.2.1
theorem dX5_stepOn_15 : decode cX5_stepOn 15 = .ok (.iadd, 1) := gdX5_stepOn_0.2.2.2.2.2.2.2.1
theorem dX5_stepOn_16 : decode cX5_stepOn 16 = .ok (.putfield 45, 3) := gdX5_stepOn_0.2.2.2.2.2.2.2.2.1
theorem dX5_stepOn_19 : decode cX5_stepOn 19 = .ok (.aload_n 0, 1) := gdX5_stepOn_0.2.2.2.2.2.2.2.2.2.1
theorem dX5_stepOn_20 : decode cX5_stepOn 20 = .ok (.dup, 1) := gdX5_stepOn_0.2.2.2.2.2.2.2.2.2.2.1
theorem dX5_stepOn_21 : decode cX5_stepOn 21 = .ok (.getfield 48, 3) := gdX5_stepOn_0.2.2.2.2.2.2.2.2.2.2.2
theorem gdX5_stepOn_24 : decode cX5_stepOn 24 = .ok (.iconst 1, 1) ∧ decode cX5_stepOn 25 = .ok (.isub, 1) ∧ decode cX5_stepOn 26 = .ok (.putfield 48, 3) ∧ decode cX5_stepOn 29 = .ok (.aload_n 0, 1) ∧ decode cX5_stepOn 30 = .ok (.aload_n 0, 1) ∧ decode cX5_stepOn 31 = .ok (.getfield 42, 3) ∧ decode cX5_stepOn 34 = .ok (.iconst 1, 1) ∧ decode cX5_stepOn 35 = .ok (.iadd, 1) ∧ decode cX5_stepOn 36 = .ok (.bipush 41, 2) ∧ decode cX5_stepOn 38 = .ok (.irem, 1) ∧ decode cX5_stepOn 39 = .ok (.invokevirtual 63, 3) ∧ decode cX5_stepOn 42 = .ok (.iconst 1, 1) := by decide +kernel
theorem dX5_stepOn_24 : decode cX5_stepOn 24 = .ok (.iconst 1, 1) := gdX5_stepOn_24.1
theorem dX5_stepOn_25 : decode cX5_stepOn 25 = .ok (.isub, 1) := gdX5_stepOn_24.2.1
theorem dX5_stepOn_26 : decode cX5_stepOn 26 = .ok (.putfield 48, 3) := gdX5_stepOn_24.2.2.1
theorem dX5_stepOn_29 : decode cX5_stepOn 29 = .ok (.aload_n 0, 1) := gdX5_stepOn_24.2.2.2.1
theorem dX5_stepOn_30 : decode cX5_stepOn 30 = .ok (.aload_n 0, 1) := gdX5_stepOn_24.2.2.2.2.1
theorem dX5_stepOn_31 : decode cX5_stepOn 31 = .ok (.getfield 42, 3) := gdX5_stepOn_24.2.2.2.2.2.1
theorem dX5_stepOn_34 : decode cX5_stepOn 34 = .ok (.iconst 1, 1) := gdX5_stepOn_24.2.2.2.2.2.2.1
theorem dX5_stepOn_35 : decode cX5_stepOn 35 = .ok (.iadd, 1) := gdX5_stepOn_24.2.2.2.2.2.2.2.1
theorem dX5_stepOn_36 : decode cX5_stepOn 36 = .ok (.bipush 41, 2) := gdX5_stepOn_24.2.2.2.2.2.2.2.2.1
theorem dX5_stepOn_38 : decode cX5_stepOn 38 = .ok (.irem, 1) := gdX5_stepOn_24.2.2.2.2.2.2.2.2.2.1
theorem dX5_stepOn_39 : decode cX5_stepOn 39 = .ok (.invokevirtual 63, 3) := gdX5_stepOn_24.2.2.2.2.2.2.2.2.2.2.1
theorem dX5_stepOn_42 : decode cX5_stepOn 42 = .ok (.iconst 1, 1) := gdX5_stepOn_24.2.2.2.2.2.2.2.2.2.2.2
theorem gdX5_stepOn_43 : decode cX5_stepOn 43 = .ok (.ireturn, 1) ∧ decode cX5_stepOn 7 = .ok (.iconst 0, 1) ∧ decode cX5_stepOn 8 = .ok (.ireturn, 1) := by decide +kernel
theorem dX5_stepOn_43 : decode cX5_stepOn 43 = .ok (.ireturn, 1) := gdX5_stepOn_43.1
theorem dX5_stepOn_7 : decode cX5_stepOn 7 = .ok (.iconst 0, 1) := gdX5_stepOn_43.2.1
theorem dX5_stepOn_8 : decode cX5_stepOn 8 = .ok (.ireturn, 1) := gdX5_stepOn_43.2.2
set_option maxHeartbeats 1000000 in
set_option maxRecDepth 100000 in
theorem s_stepOn (l : Launch) (D : va_G) (cy : Nat → ClassId) (n0 : Nat) (n1 : Nat) (n2 : Nat) (n3 : Nat) (fu : Int32) (cu : Nat) (un : Nat) (re : Nat) (fn : Nat → Int32) (fq : Nat → Int32) (hcu : cu ≤ 40) (hur : un + re ≤ 40) (hno : mRows fn 1) (hro : mRows fq 41) : XMi l D (tyL cy) E0 yX5_stepOn cX5_stepOn 1 (some .boolean) (rmk 2 0 0) [.ref n0] [wO n0 5 [.ref n1, .ref n2, .ref n3, .int fu, .int (nI cu), .int (nI un), .int (nI re)], wI (cy 1) n1 41 (fn), wI (cy 1) n2 1681 (fq)] (fun (r : Int32) (u : Nat × Nat × Nat × (Nat → Int32)) => (r = 0 ∨ r = 1) ∧ (u.1 ≤ 40) ∧ (u.2.1 + u.2.2.1 ≤ 40) ∧ (mRows u.2.2.2 1) ∧ (snC r fn fq cu un re u.2.2.2 u.1 u.2.1 u.2.2.1)) (fun (u : Nat × Nat × Nat × (Nat → Int32)) => [wO n0 5 [.ref n1, .ref n2, .ref n3, .int fu, .int (nI u.1), .int (nI u.2.1), .int (nI u.2.2.1)], wI (cy 1) n1 41 (u.2.2.2), wI (cy 1) n2 1681 (fq)]) := by
  refine XMi.start (by decide) (Nat.le_of_ble_eq_true rfl) ?_
  intro p e s m below meth c args A ls Q hat hQ
  obtain ⟨hx, hb, hr, hml, hown, hg, hlocks, hin, hK, hA, hP, hD, hS, hE, hl⟩ := hat
  have hown : s.vm.findClass RX5 = some m.cls := hown
  have hl : lv_has ls 1 [(0, .ref n0)] := hl
  refine lv_aload_n hx hb dX5_stepOn_0 rfl (lv_at hl 0 rfl) ?_
  refine va_get (D := D) (ci := 5) (v := .int (nI re)) (C := RX5) (T := TX5) (N := 7) hx hb hg i_X5 hown hK hP 0 rfl rfl 6 (by decide) (hg _ m_431) (fun _ h9 => h9) rfl dX5_stepOn_1 ?_
  refine lv_if_ne (tgt := 9) hx hb dX5_stepOn_4 (by decide) (fun c_1 => ?_) (fun c_1 => ?_)
  · have q_2 : ¬ re = 0 := q_ne (a := re) (b := 0) rfl rfl (by omega) (by omega) c_1
    refine lv_aload_n hx hb dX5_stepOn_9 rfl (lv_at hl 0 rfl) ?_
    refine lv_dup hx hb dX5_stepOn_10 rfl ?_
    refine va_get (D := D) (ci := 5) (v := .int (nI un)) (C := RX5) (T := TX5) (N := 7) hx hb hg i_X5 hown hK hP 0 rfl rfl 5 (by decide) (hg _ m_429) (fun _ h9 => h9) rfl dX5_stepOn_11 ?_
    refine lv_iconst (v := 1) hx hb dX5_stepOn_14 (by decide) ?_
    refine lv_iadd hx hb dX5_stepOn_15 ?_
    refine lv_topi (fun y_3 hy_3 => ?_)
    obtain rfl : y_3 = nI (un + 1) := hy_3.trans (nI_add un 1)
    refine va_put (D := D) (ci := 5) (v := .int (nI (un + 1))) (ty := .int) (C := RX5) (T := TX5) (N := 7) hx hb hg i_X5 tyX5 tyX5_ok nmX5 hown hK hP hD hS 0 rfl rfl 5 (by decide) (hg _ m_429) (fun _ h9 => h9) rfl (by decide +kernel) rfl rfl (Nat.le_of_ble_eq_true rfl) dX5_stepOn_16 (fun H locs hP9 hD9 hS9 => ?_)
    clear hP hD hS
    refine reW [wO n0 5 [.ref n1, .ref n2, .ref n3, .int fu, .int (nI cu), .int (nI (un + 1)), .int (nI re)], wI (cy 1) n1 41 (fn), wI (cy 1) n2 1681 (fq)] hP9 hD9 hS9 (fun hP hD hS => ?_)
    clear hP9 hD9 hS9
    refine lv_aload_n hx hb dX5_stepOn_19 rfl (lv_at hl 0 rfl) ?_
    refine lv_dup hx hb dX5_stepOn_20 rfl ?_
    refine va_get (D := D) (ci := 5) (v := .int (nI re)) (C := RX5) (T := TX5) (N := 7) hx hb hg i_X5 hown hK hP 0 rfl rfl 6 (by decide) (hg _ m_431) (fun _ h9 => h9) rfl dX5_stepOn_21 ?_
    refine lv_iconst (v := 1) hx hb dX5_stepOn_24 (by decide) ?_
    refine lv_isub hx hb dX5_stepOn_25 ?_
    refine lv_topi (fun y_4 hy_4 => ?_)
    obtain rfl : y_4 = nI (re - 1) := hy_4.trans (pk_sub (a := re) (b := 1) (by omega))
    refine va_put (D := D) (ci := 5) (v := .int (nI (re - 1))) (ty := .int) (C := RX5) (T := TX5) (N := 7) hx hb hg i_X5 tyX5 tyX5_ok nmX5 hown hK hP hD hS 0 rfl rfl 6 (by decide) (hg _ m_431) (fun _ h9 => h9) rfl (by decide +kernel) rfl rfl (Nat.le_of_ble_eq_true rfl) dX5_stepOn_26 (fun H locs hP9 hD9 hS9 => ?_)
    clear hP hD hS
    refine reW [wO n0 5 [.ref n1, .ref n2, .ref n3, .int fu, .int (nI cu), .int (nI (un + 1)), .int (nI (re - 1))], wI (cy 1) n1 41 (fn), wI (cy 1) n2 1681 (fq)] hP9 hD9 hS9 (fun hP hD hS => ?_)
    clear hP9 hD9 hS9
    refine lv_aload_n hx hb dX5_stepOn_29 rfl (lv_at hl 0 rfl) ?_
    refine lv_aload_n hx hb dX5_stepOn_30 rfl (lv_at hl 0 rfl) ?_
    refine va_get (D := D) (ci := 5) (v := .int (nI cu)) (C := RX5) (T := TX5) (N := 7) hx hb hg i_X5 hown hK hP 0 rfl rfl 4 (by decide) (hg _ m_428) (fun _ h9 => h9) rfl dX5_stepOn_31 ?_
    refine lv_iconst (v := 1) hx hb dX5_stepOn_34 (by decide) ?_
    refine lv_iadd hx hb dX5_stepOn_35 ?_
    refine lv_topi (fun y_5 hy_5 => ?_)
    obtain rfl : y_5 = nI (cu + 1) := hy_5.trans (nI_add cu 1)
    refine lv_bipush (v := 41) hx hb dX5_stepOn_36 (by decide) ?_
    refine lv_irem hx hb dX5_stepOn_38 (by decide) ?_
    refine lv_topi (fun y_6 hy_6 => ?_)
    obtain rfl : y_6 = nI ((cu + 1) % 41) := hy_6.trans (pk_rem (a := (cu + 1)) (d := 41) (by omega) (by decide) (by decide))
    refine x_callVv (q := (RX5, TX5, 7)) (ci := 5) (q0 := 0) (wr := []) (rest := []) ⟨hx, hb, hml, hown, hg, hl.1⟩ k_X5_63 (s_goTo l D cy n0 n1 n2 n3 fu cu ((un + 1)) ((re - 1)) fn fq (((cu + 1) % 41)) (by omega) (by omega) (hno) (hro) (by omega)) E0_blind hK hP hD hS hA [0, 1, 2] [] ⟨rfl, rfl, by decide +kernel, by decide +kernel, by decide +kernel⟩ rfl rfl (fun _ _ _ => trivial) dX5_stepOn_39 rfl rfl (Nat.le_of_ble_eq_true rfl) ⟨Nat.le_of_ble_eq_true rfl, Nat.le_of_ble_eq_true rfl⟩ ⟨Nat.le_of_ble_eq_true rfl, Nat.le_of_ble_eq_true rfl⟩ (fun zu7 H locs hw7 hP9 hD9 hS9 => ?_)
    clear hP hD hS
    obtain ⟨fn2_8, rfl⟩ : ∃ z, z = zu7 := ⟨_, rfl⟩
    refine reW [wO n0 5 [.ref n1, .ref n2, .ref n3, .int fu, .int (nI (((cu + 1) % 41))), .int (nI ((un + 1))), .int (nI ((re - 1)))], wI (cy 1) n1 41 (fn2_8), wI (cy 1) n2 1681 (fq)] hP9 hD9 hS9 (fun hP hD hS => ?_)
    clear hP9 hD9 hS9
    refine W.widen (k := 0) (n := 0) (Nat.le_of_ble_eq_true rfl) (Nat.le_of_ble_eq_true rfl) ?_
    replace hw7 : (mRows fn2_8 1) ∧ (fn2_8 = va_cpy fq fn (41 * (((cu + 1) % 41))) 0 41) := hw7
    obtain ⟨f_9, f_10⟩ := hw7
    refine lv_iconst (v := 1) hx hb dX5_stepOn_42 (by decide) ?_
    exact x_zret hQ hx hb hr hlocks hK hP hD hS rfl dX5_stepOn_43 ((((cu + 1) % 41)), ((un + 1)), ((re - 1)), fn2_8) (⟨(Or.inr rfl), (show ((((cu + 1) % 41))) ≤ 40 from by omega), (show (((un + 1))) + (((re - 1))) ≤ 40 from by omega), f_9, Or.inr ⟨rfl, by omega, f_10, rfl, rfl, rfl⟩⟩) [0, 1, 2] (by decide +kernel) rfl (Nat.le_of_ble_eq_true rfl) (Nat.le_of_ble_eq_true rfl)
  · have q_2 : re = 0 := q_eq (a := re) (b := 0) rfl rfl (by omega) (by omega) c_1
    refine lv_iconst (v := 0) hx hb dX5_stepOn_7 (by decide) ?_
    exact x_zret hQ hx hb hr hlocks hK hP hD hS rfl dX5_stepOn_8 (cu, un, re, fn) (⟨(Or.inl rfl), (show cu ≤ 40 from by omega), (show un + re ≤ 40 from by omega), hno, Or.inl ⟨rfl, by omega, rfl, rfl, rfl, rfl⟩⟩) [0, 1, 2] (by decide +kernel) rfl (Nat.le_of_ble_eq_true rfl) (Nat.le_of_ble_eq_true rfl)
theorem gdX5_keepIn_0 : decode cX5_keepIn 0 = .ok (.aload_n 0, 1) ∧ decode cX5_keepIn 1 = .ok (.getfield 11, 3) ∧ decode cX5_keepIn 4 = .ok (.iconst 0, 1) ∧ decode cX5_keepIn 5 = .ok (.aload_n 0, 1) ∧ decode cX5_keepIn 6 = .ok (.getfield 18, 3) ∧ decode cX5_keepIn 9 = .ok (.iload_n 1, 1) ∧ decode cX5_keepIn 10 = .ok (.bipush 41, 2) ∧ decode cX5_keepIn 12 = .ok (.imul, 1) ∧ decode cX5_keepIn 13 = .ok (.bipush 41, 2) ∧ decode cX5_keepIn 15 = .ok (.invokestatic 51, 3) ∧ decode cX5_keepIn 18 = .ok (.aload_n 0, 1) ∧ decode cX5_keepIn 19 = .ok (.dup, 1) := by decide +kernel
theorem dX5_keepIn_0 : decode cX5_keepIn 0 = .ok (.aload_n 0, 1) := gdX5_keepIn_0.1
theorem dX5_keepIn_1 : decode cX5_keepIn 1 = .ok (.getfield 11, 3) := gdX5_keepIn_0.2.1
theorem dX5_keepIn_4 : decode cX5_keepIn 4 = .ok (.iconst 0, 1) := gdX5_keepIn_0.2.2.1
theorem dX5_keepIn_5 : decode cX5_keepIn 5 = .ok (.aload_n 0, 1) := gdX5_keepIn_0.2.2.2.1
theorem dX5_keepIn_6 : decode cX5_keepIn 6 = .ok (.getfield 18, 3) := gdX5_keepIn_0.2.2.2.2.1
theorem dX5_keepIn_9 : decode cX5_keepIn 9 = .ok (.iload_n 1, 1) := gdX5_keepIn_0.2.2.2.2.2.1
theorem dX5_keepIn_10 : decode cX5_keepIn 10 = .ok (.bipush 41, 2) := gdX5_keepIn_0.2.2.2.2.2.2.1
theorem dX5_keepIn_12 : decode cX5_keepIn 12 = .ok (.imul, 1) := gdX5_keepIn_0.2.2.2.2.2.2.2.1
theorem dX5_keepIn_13 : decode cX5_keepIn 13 = .ok (.bipush 41, 2) := gdX5_keepIn_0.2.2.2.2.2.2.2.2.1
theorem dX5_keepIn_15 : decode cX5_keepIn 15 = .ok (.invokestatic 51, 3) := gdX5_keepIn_0.2.2.2.2.2.2.2.2.2.1
theorem dX5_keepIn_18 : decode cX5_keepIn 18 = .ok (.aload_n 0, 1) := gdX5_keepIn_0.2.2.2.2.2.2.2.2.2.2.1
theorem dX5_keepIn_19 : decode cX5_keepIn 19 = .ok (.dup, 1) := gdX5_keepIn_0.2.2.2.2.2.2.2.2.2.2.2
theorem gdX5_keepIn_20 : decode cX5_keepIn 20 = .ok (.getfield 36, 3) ∧ decode cX5_keepIn 23 = .ok (.iconst 1, 1) ∧ decode cX5_keepIn 24 = .ok (.iload_n 1, 1) ∧ decode cX5_keepIn 25 = .ok (.ishl, 1) ∧ decode cX5_keepIn 26 = .ok (.ior, 1) ∧ decode cX5_keepIn 27 = .ok (.putfield 36, 3) ∧ decode cX5_keepIn 30 = .ok (.return_, 1) := by decide +kernel
theorem dX5_keepIn_20 : decode cX5_keepIn 20 = .ok (.getfield 36, 3) := gdX5_keepIn_20.1
theorem dX5_keepIn_23 : decode cX5_keepIn 23 = .ok (.iconst 1, 1) := gdX5_keepIn_20.2.1
theorem dX5_keepIn_24 : decode cX5_keepIn 24 = .ok (.iload_n 1, 1) := gdX5_keepIn_20.2.2.1
theorem dX5_keepIn_25 : decode cX5_keepIn 25 = .ok (.ishl, 1) := gdX5_keepIn_20.2.2.2.1
theorem dX5_keepIn_26 : decode cX5_keepIn 26 = .ok (.ior, 1) := gdX5_keepIn_20.2.2.2.2.1
theorem dX5_keepIn_27 : decode cX5_keepIn 27 = .ok (.putfield 36, 3) := gdX5_keepIn_20.2.2.2.2.2.1
theorem dX5_keepIn_30 : decode cX5_keepIn 30 = .ok (.return_, 1) := gdX5_keepIn_20.2.2.2.2.2.2
set_option maxHeartbeats 1000000 in
set_option maxRecDepth 100000 in
theorem s_keepIn (l : Launch) (D : va_G) (cy : Nat → ClassId) (n0 : Nat) (n1 : Nat) (n2 : Nat) (n3 : Nat) (fu : Int32) (cu : Nat) (un : Nat) (re : Nat) (fn : Nat → Int32) (fb : Nat → Int32) (bx : Nat) (hcu : cu ≤ 40) (hur : un + re ≤ 40) (hno : mRows fn 1) (hbx : mRows fb 3) (hbxx : bx < 3) : XMv l D (tyL cy) E0 yX5_keepIn cX5_keepIn 2 none (rmk 1 0 0) [.ref n0, .int (nI bx)] [wO n0 5 [.ref n1, .ref n2, .ref n3, .int fu, .int (nI cu), .int (nI un), .int (nI re)], wI (cy 1) n1 41 (fn), wI (cy 1) n3 123 (fb)] (fun (u : Int32 × (Nat → Int32)) => (mRows u.2 3) ∧ (kiC bx fn fb fu u.2 u.1)) (fun (u : Int32 × (Nat → Int32)) => [wO n0 5 [.ref n1, .ref n2, .ref n3, .int u.1, .int (nI cu), .int (nI un), .int (nI re)], wI (cy 1) n1 41 (fn), wI (cy 1) n3 123 (u.2)]) := by
  refine XMv.start (by decide) (Nat.le_of_ble_eq_true rfl) ?_
  intro p e s m below meth c args A ls Q hat hQ
  obtain ⟨hx, hb, hr, hml, hown, hg, hlocks, hin, hK, hA, hP, hD, hS, hE, hl⟩ := hat
  have hown : s.vm.findClass RX5 = some m.cls := hown
  have hl : lv_has ls 2 [(0, .ref n0), (1, .int (nI bx))] := hl
  refine lv_aload_n hx hb dX5_keepIn_0 rfl (lv_at hl 0 rfl) ?_
  refine va_get (D := D) (ci := 5) (v := .ref n1) (C := RX5) (T := TX5) (N := 7) hx hb hg i_X5 hown hK hP 0 rfl rfl 0 (by decide) (hg _ m_423) (fun _ h9 => h9) rfl dX5_keepIn_1 ?_
  refine lv_iconst (v := 0) hx hb dX5_keepIn_4 (by decide) ?_
  refine lv_aload_n hx hb dX5_keepIn_5 rfl (lv_at hl 0 rfl) ?_
  refine va_get (D := D) (ci := 5) (v := .ref n3) (C := RX5) (T := TX5) (N := 7) hx hb hg i_X5 hown hK hP 0 rfl rfl 2 (by decide) (hg _ m_426) (fun _ h9 => h9) rfl dX5_keepIn_6 ?_
  refine lv_iload_n hx hb dX5_keepIn_9 rfl (lv_at hl 1 rfl) ?_
  refine lv_bipush (v := 41) hx hb dX5_keepIn_10 (by decide) ?_
  refine lv_imul hx hb dX5_keepIn_12 ?_
  refine lv_topi (fun y_1 hy_1 => ?_)
  obtain rfl : y_1 = nI (bx * 41) := hy_1.trans (pk_mul bx 41)
  refine lv_bipush (v := 41) hx hb dX5_keepIn_13 (by decide) ?_
  refine va_copyi hx hb (hml.trans hl.1.symm) hown (hg _ m_934) (hg _ m_936) (hg _ m_935) (hg _ m_149) hK hP hD hS 1 2 1 1 rfl rfl rfl rfl rfl (by decide) (nI_pos (by omega)) (by decide) (by decide) (by rw [nI_clamp (by omega)]; show _ + 41 ≤ 123; omega) (fun _ _ => rfl) (by decide) (Nat.le_of_ble_eq_true rfl) dX5_keepIn_15 (fun H locs hP9 hD9 hS9 => ?_)
  clear hP hD hS
  obtain ⟨g_2, eg_2⟩ : ∃ y, va_cpy (fn) (fb) (0 : Int32).toNatClampNeg (nI (bx * 41) : Int32).toNatClampNeg (41 : Int32).toNatClampNeg = y := ⟨_, rfl⟩
  rw [eg_2] at hP9 hD9
  refine reW [wO n0 5 [.ref n1, .ref n2, .ref n3, .int fu, .int (nI cu), .int (nI un), .int (nI re)], wI (cy 1) n1 41 (fn), wI (cy 1) n3 123 (g_2)] hP9 hD9 hS9 (fun hP hD hS => ?_)
  clear hP9 hD9 hS9
  have hm_3 : mRows g_2 3 := eg_2 ▸ mRows_cpy (i := 0) (j := bx) hno hbx (by omega) rfl (by rw [nI_clamp (by omega)]; omega) rfl
  refine lv_aload_n hx hb dX5_keepIn_18 rfl (lv_at hl 0 rfl) ?_
  refine lv_dup hx hb dX5_keepIn_19 rfl ?_
  refine va_get (D := D) (ci := 5) (v := .int fu) (C := RX5) (T := TX5) (N := 7) hx hb hg i_X5 hown hK hP 0 rfl rfl 3 (by decide) (hg _ m_427) (fun _ h9 => h9) rfl dX5_keepIn_20 ?_
  refine lv_iconst (v := 1) hx hb dX5_keepIn_23 (by decide) ?_
  refine lv_iload_n hx hb dX5_keepIn_24 rfl (lv_at hl 1 rfl) ?_
  refine lv_ishl hx hb dX5_keepIn_25 ?_
  refine lv_topi (fun x_4 ex_4 => ?_)
  refine lv_ior hx hb dX5_keepIn_26 ?_
  refine lv_topi (fun x_5 ex_5 => ?_)
  refine va_put (D := D) (ci := 5) (v := .int x_5) (ty := .int) (C := RX5) (T := TX5) (N := 7) hx hb hg i_X5 tyX5 tyX5_ok nmX5 hown hK hP hD hS 0 rfl rfl 3 (by decide) (hg _ m_427) (fun _ h9 => h9) rfl (by decide +kernel) rfl rfl (Nat.le_of_ble_eq_true rfl) dX5_keepIn_27 (fun H locs hP9 hD9 hS9 => ?_)
  clear hP hD hS
  refine reW [wO n0 5 [.ref n1, .ref n2, .ref n3, .int x_5, .int (nI cu), .int (nI un), .int (nI re)], wI (cy 1) n1 41 (fn), wI (cy 1) n3 123 (g_2)] hP9 hD9 hS9 (fun hP hD hS => ?_)
  clear hP9 hD9 hS9
  exact x_vret hQ hx hb hr hlocks hK hP hD hS dX5_keepIn_30 (x_5, g_2) (⟨hm_3, ⟨cpy_to (by omega) eg_2, ex_5.trans (by rw [ex_4])⟩⟩) [0, 1, 2] (by decide +kernel) rfl (Nat.le_of_ble_eq_true rfl) (Nat.le_of_ble_eq_true rfl)
theorem gdX5_goBackTo_0 : decode cX5_goBackTo 0 = .ok (.aload_n 0, 1) ∧ decode cX5_goBackTo 1 = .ok (.getfield 36, 3) ∧ decode cX5_goBackTo 4 = .ok (.iload_n 1, 1) ∧ decode cX5_goBackTo 5 = .ok (.ishr, 1) ∧ decode cX5_goBackTo 6 = .ok (.iconst 1, 1) ∧ decode cX5_goBackTo 7 = .ok (.iand, 1) ∧ decode cX5_goBackTo 8 = .ok (.ifCond .ne 5, 3) ∧ decode cX5_goBackTo 13 = .ok (.aload_n 0, 1) ∧ decode cX5_goBackTo 14 = .ok (.getfield 18, 3) ∧ decode cX5_goBackTo 17 = .ok (.iload_n 1, 1) ∧ decode cX5_goBackTo 18 = .ok (.bipush 41, 2) ∧ decode cX5_goBackTo 20 = .ok (.imul, 1) := by decide +kernel
theorem dX5_goBackTo_0 : decode cX5_goBackTo 0 = .ok (.aload_n 0, 1) := gdX5_goBackTo_0.1
theorem dX5_goBackTo_1 : decode cX5_goBackTo 1 = .ok (.getfield 36, 3) := gdX5_goBackTo_0.2.1
theorem dX5_goBackTo_4 : decode cX5_goBackTo 4 = .ok (.iload_n 1, 1) := gdX5_goBackTo_0.2.2.1
theorem dX5_goBackTo_5 : decode cX5_goBackTo 5 = .ok (.ishr, 1) := gdX5_goBackTo_0.2.2.2.1
theorem dX5_goBackTo_6 : decode cX5_goBackTo 6 = .ok (.iconst 1, 1) := gdX5_goBackTo_0.2.2.2.2.1
theorem dX5_goBackTo_7 : decode cX5_goBackTo 7 = .ok (.iand, 1) := gdX5_goBackTo_0.2.2.2.2.2.1
theorem dX5_goBackTo_8 : decode cX5_goBackTo 8 = .ok (.ifCond .ne 5, 3) := gdX5_goBackTo_0.2.2.2.2.2.2.1
theorem dX5_goBackTo_13 : decode cX5_goBackTo 13 = .ok (.aload_n 0, 1) := gdX5_goBackTo_0.2.2.2.2.2.2.2.1
theorem dX5_goBackTo_14 : decode cX5_goBackTo 14 = .ok (.getfield 18, 3) := gdX5_goBackTo_0.2.2.2.2.2.2.2.2.1
theorem dX5_goBackTo_17 : decode cX5_goBackTo 17 = .ok (.iload_n 1, 1) := gdX5_goBackTo_0.2.2.2.2.2.2.2.2.2.1
theorem dX5_goBackTo_18 : decode cX5_goBackTo 18 = .ok (.bipush 41, 2) := gdX5_goBackTo_0.2.2.2.2.2.2.2.2.2.2.1
theorem dX5_goBackTo_20 : decode cX5_goBackTo 20 = .ok (.imul, 1) := gdX5_goBackTo_0.2.2.2.2.2.2.2.2.2.2.2
theorem gdX5_goBackTo_21 : decode cX5_goBackTo 21 = .ok (.aload_n 0, 1) ∧ decode cX5_goBackTo 22 = .ok (.getfield 11, 3) ∧ decode cX5_goBackTo 25 = .ok (.iconst 0, 1) ∧ decode cX5_goBackTo 26 = .ok (.bipush 41, 2) ∧ decode cX5_goBackTo 28 = .ok (.invokestatic 51, 3) ∧ decode cX5_goBackTo 31 = .ok (.aload_n 0, 1) ∧ decode cX5_goBackTo 32 = .ok (.invokevirtual 39, 3) := by decide +kernel
theorem dX5_goBackTo_21 : decode cX5_goBackTo 21 = .ok (.aload_n 0, 1) := gdX5_goBackTo_21.1
theorem dX5_goBackTo_22 : decode cX5_goBackTo 22 = .ok (.getfield 11, 3) := gdX5_goBackTo_21.2.1
theorem dX5_goBackTo_25 : decode cX5_goBackTo 25 = .ok (.iconst 0, 1) := gdX5_goBackTo_21.2.2.1
theorem dX5_goBackTo_26 : decode cX5_goBackTo 26 = .ok (.bipush 41, 2) := gdX5_goBackTo_21.2.2.2.1
theorem dX5_goBackTo_28 : decode cX5_goBackTo 28 = .ok (.invokestatic 51, 3) := gdX5_goBackTo_21.2.2.2.2.1
theorem dX5_goBackTo_31 : decode cX5_goBackTo 31 = .ok (.aload_n 0, 1) := gdX5_goBackTo_21.2.2.2.2.2.1
theorem dX5_goBackTo_32 : decode cX5_goBackTo 32 = .ok (.invokevirtual 39, 3) := gdX5_goBackTo_21.2.2.2.2.2.2
theorem k_X5_39 : xV RX5 RX5 39 yX5_forgetActs cX5_forgetActs 1 none 0 := ⟨⟨m_930, m_932, m_29, m_139, m_933⟩, rfl, by decide, by decide, by decide +kernel⟩
theorem gdX5_goBackTo_35 : decode cX5_goBackTo 35 = .ok (.iconst 1, 1) ∧ decode cX5_goBackTo 36 = .ok (.ireturn, 1) ∧ decode cX5_goBackTo 11 = .ok (.iconst 0, 1) ∧ decode cX5_goBackTo 12 = .ok (.ireturn, 1) := by decide +kernel
theorem dX5_goBackTo_35 : decode cX5_goBackTo 35 = .ok (.iconst 1, 1) := gdX5_goBackTo_35.1
theorem dX5_goBackTo_36 : decode cX5_goBackTo 36 = .ok (.ireturn, 1) := gdX5_goBackTo_35.2.1
theorem dX5_goBackTo_11 : decode cX5_goBackTo 11 = .ok (.iconst 0, 1) := gdX5_goBackTo_35.2.2.1
theorem dX5_goBackTo_12 : decode cX5_goBackTo 12 = .ok (.ireturn, 1) := gdX5_goBackTo_35.2.2.2
set_option maxHeartbeats 1000000 in
set_option maxRecDepth 100000 in
theorem s_goBackTo (l : Launch) (D : va_G) (cy : Nat → ClassId) (n0 : Nat) (n1 : Nat) (n2 : Nat) (n3 : Nat) (fu : Int32) (cu : Nat) (un : Nat) (re : Nat) (fn : Nat → Int32) (fq : Nat → Int32) (fb : Nat → Int32) (bx : Nat) (hcu : cu ≤ 40) (hur : un + re ≤ 40) (hno : mRows fn 1) (hro : mRows fq 41) (hbx : mRows fb 3) (hbxx : bx < 3) : XMi l D (tyL cy) E0 yX5_goBackTo cX5_goBackTo 2 (some .boolean) (rmk 2 0 0) [.ref n0, .int (nI bx)] [wO n0 5 [.ref n1, .ref n2, .ref n3, .int fu, .int (nI cu), .int (nI un), .int (nI re)], wI (cy 1) n1 41 (fn), wI (cy 1) n2 1681 (fq), wI (cy 1) n3 123 (fb)] (fun (r : Int32) (u : Nat × Nat × Nat × (Nat → Int32) × (Nat → Int32)) => (r = 0 ∨ r = 1) ∧ (u.1 ≤ 40) ∧ (u.2.1 + u.2.2.1 ≤ 40) ∧ (mRows u.2.2.2.1 41) ∧ (mRows u.2.2.2.2 1) ∧ (gbC r bx fn fq fb fu cu un re u.2.2.2.2 u.2.2.2.1 u.1 u.2.1 u.2.2.1)) (fun (u : Nat × Nat × Nat × (Nat → Int32) × (Nat → Int32)) => [wO n0 5 [.ref n1, .ref n2, .ref n3, .int fu, .int (nI u.1), .int (nI u.2.1), .int (nI u.2.2.1)], wI (cy 1) n1 41 (u.2.2.2.2), wI (cy 1) n2 1681 (u.2.2.2.1), wI (cy 1) n3 123 (fb)]) := by
  refine XMi.start (by decide) (Nat.le_of_ble_eq_true rfl) ?_
  intro p e s m below meth c args A ls Q hat hQ
  obtain ⟨hx, hb, hr, hml, hown, hg, hlocks, hin, hK, hA, hP, hD, hS, hE, hl⟩ := hat
  have hown : s.vm.findClass RX5 = some m.cls := hown
  have hl : lv_has ls 2 [(0, .ref n0), (1, .int (nI bx))] := hl
  refine lv_aload_n hx hb dX5_goBackTo_0 rfl (lv_at hl 0 rfl) ?_
  refine va_get (D := D) (ci := 5) (v := .int fu) (C := RX5) (T := TX5) (N := 7) hx hb hg i_X5 hown hK hP 0 rfl rfl 3 (by decide) (hg _ m_427) (fun _ h9 => h9) rfl dX5_goBackTo_1 ?_
  refine lv_iload_n hx hb dX5_goBackTo_4 rfl (lv_at hl 1 rfl) ?_
  refine lv_ishr hx hb dX5_goBackTo_5 ?_
  refine lv_topi (fun x_1 ex_1 => ?_)
  refine lv_iconst (v := 1) hx hb dX5_goBackTo_6 (by decide) ?_
  refine lv_iand hx hb dX5_goBackTo_7 ?_
  refine lv_topi (fun x_2 ex_2 => ?_)
  refine lv_if_ne (tgt := 13) hx hb dX5_goBackTo_8 (by decide) (fun c_8 => ?_) (fun c_8 => ?_)
  · refine lv_aload_n hx hb dX5_goBackTo_13 rfl (lv_at hl 0 rfl) ?_
    refine va_get (D := D) (ci := 5) (v := .ref n3) (C := RX5) (T := TX5) (N := 7) hx hb hg i_X5 hown hK hP 0 rfl rfl 2 (by decide) (hg _ m_426) (fun _ h9 => h9) rfl dX5_goBackTo_14 ?_
    refine lv_iload_n hx hb dX5_goBackTo_17 rfl (lv_at hl 1 rfl) ?_
    refine lv_bipush (v := 41) hx hb dX5_goBackTo_18 (by decide) ?_
    refine lv_imul hx hb dX5_goBackTo_20 ?_
    refine lv_topi (fun y_3 hy_3 => ?_)
    obtain rfl : y_3 = nI (bx * 41) := hy_3.trans (pk_mul bx 41)
    refine lv_aload_n hx hb dX5_goBackTo_21 rfl (lv_at hl 0 rfl) ?_
    refine va_get (D := D) (ci := 5) (v := .ref n1) (C := RX5) (T := TX5) (N := 7) hx hb hg i_X5 hown hK hP 0 rfl rfl 0 (by decide) (hg _ m_423) (fun _ h9 => h9) rfl dX5_goBackTo_22 ?_
    refine lv_iconst (v := 0) hx hb dX5_goBackTo_25 (by decide) ?_
    refine lv_bipush (v := 41) hx hb dX5_goBackTo_26 (by decide) ?_
    refine va_copyi hx hb (hml.trans hl.1.symm) hown (hg _ m_934) (hg _ m_936) (hg _ m_935) (hg _ m_149) hK hP hD hS 3 1 1 1 rfl rfl rfl rfl rfl (nI_pos (by omega)) (by decide) (by decide) (by rw [nI_clamp (by omega)]; show _ + 41 ≤ 123; omega) (by decide) (fun _ _ => rfl) (by decide) (Nat.le_of_ble_eq_true rfl) dX5_goBackTo_28 (fun H locs hP9 hD9 hS9 => ?_)
    clear hP hD hS
    obtain ⟨g_4, eg_4⟩ : ∃ y, va_cpy (fb) (fn) (nI (bx * 41) : Int32).toNatClampNeg (0 : Int32).toNatClampNeg (41 : Int32).toNatClampNeg = y := ⟨_, rfl⟩
    rw [eg_4] at hP9 hD9
    refine reW [wO n0 5 [.ref n1, .ref n2, .ref n3, .int fu, .int (nI cu), .int (nI un), .int (nI re)], wI (cy 1) n1 41 (g_4), wI (cy 1) n2 1681 (fq), wI (cy 1) n3 123 (fb)] hP9 hD9 hS9 (fun hP hD hS => ?_)
    clear hP9 hD9 hS9
    have hm_5 : mRows g_4 1 := eg_4 ▸ mRows_cpy (i := bx) (j := 0) hbx hno (by omega) (by rw [nI_clamp (by omega)]; omega) rfl rfl
    refine lv_aload_n hx hb dX5_goBackTo_31 rfl (lv_at hl 0 rfl) ?_
    refine x_callVv (q := (RX5, TX5, 7)) (ci := 5) (q0 := 0) (wr := [wI (cy 1) n3 123 (fb)]) (rest := []) ⟨hx, hb, hml, hown, hg, hl.1⟩ k_X5_39 (s_forgetActs l D cy n0 n1 n2 n3 fu cu un re g_4 fq (by omega) (by omega) (hm_5) (hro)) E0_blind hK hP hD hS hA [0, 1, 2] [3] ⟨rfl, rfl, by decide +kernel, by decide +kernel, by decide +kernel⟩ rfl rfl (fun _ _ _ => trivial) dX5_goBackTo_32 rfl rfl (Nat.le_of_ble_eq_true rfl) ⟨Nat.le_of_ble_eq_true rfl, Nat.le_of_ble_eq_true rfl⟩ ⟨Nat.le_of_ble_eq_true rfl, Nat.le_of_ble_eq_true rfl⟩ (fun zu6 H locs hw6 hP9 hD9 hS9 => ?_)
    clear hP hD hS
    obtain ⟨fq2_7, rfl⟩ : ∃ z, z = zu6 := ⟨_, rfl⟩
    refine reW [wI (cy 1) n3 123 (fb), wO n0 5 [.ref n1, .ref n2, .ref n3, .int fu, .int 0, .int 0, .int 0], wI (cy 1) n1 41 (g_4), wI (cy 1) n2 1681 (fq2_7)] hP9 hD9 hS9 (fun hP hD hS => ?_)
    clear hP9 hD9 hS9
    refine W.widen (k := 0) (n := 0) (Nat.le_of_ble_eq_true rfl) (Nat.le_of_ble_eq_true rfl) ?_
    replace hw6 : (mRows fq2_7 41) ∧ (fq2_7 = va_cpy g_4 fq 0 0 41) := hw6
    obtain ⟨f_8, f_9⟩ := hw6
    refine lv_iconst (v := 1) hx hb dX5_goBackTo_35 (by decide) ?_
    exact x_zret hQ hx hb hr hlocks hK hP hD hS rfl dX5_goBackTo_36 (0, 0, 0, fq2_7, g_4) (⟨(Or.inr rfl), (show 0 ≤ 40 from by omega), (show 0 + 0 ≤ 40 from by omega), f_8, hm_5, Or.inr ⟨rfl, (by rw [← ex_1, ← ex_2]; exact c_8), ⟨cpy_from (by omega) eg_4, f_9⟩, rfl, rfl, rfl⟩⟩) [1, 2, 3, 0] (by decide +kernel) rfl (Nat.le_of_ble_eq_true rfl) (Nat.le_of_ble_eq_true rfl)
  · refine lv_iconst (v := 0) hx hb dX5_goBackTo_11 (by decide) ?_
    exact x_zret hQ hx hb hr hlocks hK hP hD hS rfl dX5_goBackTo_12 (cu, un, re, fq, fn) (⟨(Or.inl rfl), (show cu ≤ 40 from by omega), (show un + re ≤ 40 from by omega), hro, hno, Or.inl ⟨rfl, (by rw [← ex_1, ← ex_2]; exact c_8), rfl, rfl, rfl, rfl, rfl⟩⟩) [0, 1, 2, 3] (by decide +kernel) rfl (Nat.le_of_ble_eq_true rfl) (Nat.le_of_ble_eq_true rfl)
theorem gdX5_cryLength_0 : decode cX5_cryLength 0 = .ok (.aload_n 0, 1) ∧ decode cX5_cryLength 1 = .ok (.getfield 11, 3) ∧ decode cX5_cryLength 4 = .ok (.iload_n 1, 1) ∧ decode cX5_cryLength 5 = .ok (.bipush 11, 2) ∧ decode cX5_cryLength 7 = .ok (.imul, 1) ∧ decode cX5_cryLength 8 = .ok (.iaload, 1) ∧ decode cX5_cryLength 9 = .ok (.ireturn, 1) := by decide +kernel
theorem dX5_cryLength_0 : decode cX5_cryLength 0 = .ok (.aload_n 0, 1) := gdX5_cryLength_0.1
theorem dX5_cryLength_1 : decode cX5_cryLength 1 = .ok (.getfield 11, 3) := gdX5_cryLength_0.2.1
theorem dX5_cryLength_4 : decode cX5_cryLength 4 = .ok (.iload_n 1, 1) := gdX5_cryLength_0.2.2.1
theorem dX5_cryLength_5 : decode cX5_cryLength 5 = .ok (.bipush 11, 2) := gdX5_cryLength_0.2.2.2.1
theorem dX5_cryLength_7 : decode cX5_cryLength 7 = .ok (.imul, 1) := gdX5_cryLength_0.2.2.2.2.1
theorem dX5_cryLength_8 : decode cX5_cryLength 8 = .ok (.iaload, 1) := gdX5_cryLength_0.2.2.2.2.2.1
theorem dX5_cryLength_9 : decode cX5_cryLength 9 = .ok (.ireturn, 1) := gdX5_cryLength_0.2.2.2.2.2.2
set_option maxHeartbeats 1000000 in
set_option maxRecDepth 100000 in
theorem s_cryLength0 (l : Launch) (D : va_G) (cy : Nat → ClassId) (n0 : Nat) (n1 : Nat) (n2 : Nat) (n3 : Nat) (fu : Int32) (cu : Nat) (un : Nat) (re : Nat) (fn : Nat → Int32) (hno : mRows fn 1) : XMi l D (tyL cy) E0 yX5_cryLength cX5_cryLength 2 (some .int) (rmk 0 0 0) [.ref n0, .int 0] [wO n0 5 [.ref n1, .ref n2, .ref n3, .int fu, .int (nI cu), .int (nI un), .int (nI re)], wI (cy 1) n1 41 (fn)] (fun (r : Int32) (k : Nat) => (r = nI k) ∧ (k ≤ 10)) (fun (k : Nat) => [wO n0 5 [.ref n1, .ref n2, .ref n3, .int fu, .int (nI cu), .int (nI un), .int (nI re)], wI (cy 1) n1 41 (fn)]) := by
  refine XMi.start (by decide) (Nat.le_of_ble_eq_true rfl) ?_
  intro p e s m below meth c args A ls Q hat hQ
  obtain ⟨hx, hb, hr, hml, hown, hg, hlocks, hin, hK, hA, hP, hD, hS, hE, hl⟩ := hat
  have hown : s.vm.findClass RX5 = some m.cls := hown
  have hl : lv_has ls 2 [(0, .ref n0), (1, .int 0)] := hl
  refine lv_aload_n hx hb dX5_cryLength_0 rfl (lv_at hl 0 rfl) ?_
  refine va_get (D := D) (ci := 5) (v := .ref n1) (C := RX5) (T := TX5) (N := 7) hx hb hg i_X5 hown hK hP 0 rfl rfl 0 (by decide) (hg _ m_423) (fun _ h9 => h9) rfl dX5_cryLength_1 ?_
  refine lv_iload_n hx hb dX5_cryLength_4 rfl (lv_at hl 1 rfl) ?_
  refine lv_bipush (v := 11) hx hb dX5_cryLength_5 (by decide) ?_
  refine lv_imul hx hb dX5_cryLength_7 ?_
  refine lv_topi (fun y_1 hy_1 => ?_)
  obtain rfl : y_1 = 0 := hy_1.trans (by decide +kernel)
  refine va_iald hx hb hK hP 1 1 rfl rfl (by unfold vp_in; decide) dX5_cryLength_8 ?_
  obtain ⟨j_2, hj_2, ej_2⟩ := (m_lenAt hno).1
  refine lv_topi (fun y_3 hy_3 => ?_)
  obtain rfl : y_3 = nI j_2 := hy_3.trans ej_2
  exact x_iret hQ hx hb hr hlocks hK hP hD hS dX5_cryLength_9 j_2 (⟨rfl, (show j_2 ≤ 10 from by omega)⟩) [0, 1] (by decide +kernel) rfl (Nat.le_of_ble_eq_true rfl) (Nat.le_of_ble_eq_true rfl)
theorem gdX5_wordAt_0 : decode cX5_wordAt 0 = .ok (.aload_n 0, 1) ∧ decode cX5_wordAt 1 = .ok (.getfield 11, 3) ∧ decode cX5_wordAt 4 = .ok (.iload_n 1, 1) ∧ decode cX5_wordAt 5 = .ok (.bipush 11, 2) ∧ decode cX5_wordAt 7 = .ok (.imul, 1) ∧ decode cX5_wordAt 8 = .ok (.iconst 1, 1) ∧ decode cX5_wordAt 9 = .ok (.iadd, 1) ∧ decode cX5_wordAt 10 = .ok (.iload_n 2, 1) ∧ decode cX5_wordAt 11 = .ok (.iadd, 1) ∧ decode cX5_wordAt 12 = .ok (.iaload, 1) ∧ decode cX5_wordAt 13 = .ok (.ireturn, 1) := by decide +kernel
theorem dX5_wordAt_0 : decode cX5_wordAt 0 = .ok (.aload_n 0, 1) := gdX5_wordAt_0.1
theorem dX5_wordAt_1 : decode cX5_wordAt 1 = .ok (.getfield 11, 3) := gdX5_wordAt_0.2.1
theorem dX5_wordAt_4 : decode cX5_wordAt 4 = .ok (.iload_n 1, 1) := gdX5_wordAt_0.2.2.1
theorem dX5_wordAt_5 : decode cX5_wordAt 5 = .ok (.bipush 11, 2) := gdX5_wordAt_0.2.2.2.1
theorem dX5_wordAt_7 : decode cX5_wordAt 7 = .ok (.imul, 1) := gdX5_wordAt_0.2.2.2.2.1
theorem dX5_wordAt_8 : decode cX5_wordAt 8 = .ok (.iconst 1, 1) := gdX5_wordAt_0.2.2.2.2.2.1
theorem dX5_wordAt_9 : decode cX5_wordAt 9 = .ok (.iadd, 1) := gdX5_wordAt_0.2.2.2.2.2.2.1
theorem dX5_wordAt_10 : decode cX5_wordAt 10 = .ok (.iload_n 2, 1) := gdX5_wordAt_0.2.2.2.2.2.2.2.1
theorem dX5_wordAt_11 : decode cX5_wordAt 11 = .ok (.iadd, 1) := gdX5_wordAt_0.2.2.2.2.2.2.2.2.1
theorem dX5_wordAt_12 : decode cX5_wordAt 12 = .ok (.iaload, 1) := gdX5_wordAt_0.2.2.2.2.2.2.2.2.2.1
theorem dX5_wordAt_13 : decode cX5_wordAt 13 = .ok (.ireturn, 1) := gdX5_wordAt_0.2.2.2.2.2.2.2.2.2.2
set_option maxHeartbeats 1000000 in
set_option maxRecDepth 100000 in
theorem s_wordAt0 (l : Launch) (D : va_G) (cy : Nat → ClassId) (n0 : Nat) (n1 : Nat) (n2 : Nat) (n3 : Nat) (fu : Int32) (cu : Nat) (un : Nat) (re : Nat) (fn : Nat → Int32) (ix : Nat) (hno : mRows fn 1) (hix : ix < 10) : XMi l D (tyL cy) E0 yX5_wordAt cX5_wordAt 3 (some .int) (rmk 0 0 0) [.ref n0, .int 0, .int (nI ix)] [wO n0 5 [.ref n1, .ref n2, .ref n3, .int fu, .int (nI cu), .int (nI un), .int (nI re)], wI (cy 1) n1 41 (fn)] (fun (r : Int32) (k : Nat) => (r = nI k) ∧ (k ≤ 7) ∧ (nI k = fn (1 + ix))) (fun (k : Nat) => [wO n0 5 [.ref n1, .ref n2, .ref n3, .int fu, .int (nI cu), .int (nI un), .int (nI re)], wI (cy 1) n1 41 (fn)]) := by
  refine XMi.start (by decide) (Nat.le_of_ble_eq_true rfl) ?_
  intro p e s m below meth c args A ls Q hat hQ
  obtain ⟨hx, hb, hr, hml, hown, hg, hlocks, hin, hK, hA, hP, hD, hS, hE, hl⟩ := hat
  have hown : s.vm.findClass RX5 = some m.cls := hown
  have hl : lv_has ls 3 [(0, .ref n0), (1, .int 0), (2, .int (nI ix))] := hl
  refine lv_aload_n hx hb dX5_wordAt_0 rfl (lv_at hl 0 rfl) ?_
  refine va_get (D := D) (ci := 5) (v := .ref n1) (C := RX5) (T := TX5) (N := 7) hx hb hg i_X5 hown hK hP 0 rfl rfl 0 (by decide) (hg _ m_423) (fun _ h9 => h9) rfl dX5_wordAt_1 ?_
  refine lv_iload_n hx hb dX5_wordAt_4 rfl (lv_at hl 1 rfl) ?_
  refine lv_bipush (v := 11) hx hb dX5_wordAt_5 (by decide) ?_
  refine lv_imul hx hb dX5_wordAt_7 ?_
  refine lv_topi (fun y_1 hy_1 => ?_)
  obtain rfl : y_1 = 0 := hy_1.trans (by decide +kernel)
  refine lv_iconst (v := 1) hx hb dX5_wordAt_8 (by decide) ?_
  refine lv_iadd hx hb dX5_wordAt_9 ?_
  refine lv_topi (fun y_2 hy_2 => ?_)
  obtain rfl : y_2 = 1 := hy_2.trans (by decide +kernel)
  refine lv_iload_n hx hb dX5_wordAt_10 rfl (lv_at hl 2 rfl) ?_
  refine lv_iadd hx hb dX5_wordAt_11 ?_
  refine lv_topi (fun y_3 hy_3 => ?_)
  obtain rfl : y_3 = nI (1 + ix) := hy_3.trans (nI_add 1 ix)
  refine va_iald hx hb hK hP 1 1 rfl rfl (vp_in_nI (by omega) (by decide)) dX5_wordAt_12 ?_
  obtain ⟨j_4, hj_4, ej_4⟩ := m_wordAt hno (k := (1 + ix)) (by omega)
  refine lv_topi (fun y_5 hy_5 => ?_)
  obtain rfl : y_5 = nI j_4 := hy_5.trans ej_4
  exact x_iret hQ hx hb hr hlocks hK hP hD hS dX5_wordAt_13 j_4 (⟨rfl, (show j_4 ≤ 7 from by omega), ld_at (by omega) ej_4.symm⟩) [0, 1] (by decide +kernel) rfl (Nat.le_of_ble_eq_true rfl) (Nat.le_of_ble_eq_true rfl)
theorem gdX5_addWord_0 : decode cX5_addWord 0 = .ok (.aload_n 0, 1) ∧ decode cX5_addWord 1 = .ok (.getfield 11, 3) ∧ decode cX5_addWord 4 = .ok (.iload_n 1, 1) ∧ decode cX5_addWord 5 = .ok (.bipush 11, 2) ∧ decode cX5_addWord 7 = .ok (.imul, 1) ∧ decode cX5_addWord 8 = .ok (.iaload, 1) ∧ decode cX5_addWord 9 = .ok (.iconst 1, 1) ∧ decode cX5_addWord 10 = .ok (.iadd, 1) ∧ decode cX5_addWord 11 = .ok (.istore_n 3, 1) ∧ decode cX5_addWord 12 = .ok (.aload_n 0, 1) ∧ decode cX5_addWord 13 = .ok (.getfield 11, 3) ∧ decode cX5_addWord 16 = .ok (.iload_n 1, 1) := by decide +kernel
theorem dX5_addWord_0 : decode cX5_addWord 0 = .ok (.aload_n 0, 1) := gdX5_addWord_0.1
theorem dX5_addWord_1 : decode cX5_addWord 1 = .ok (.getfield 11, 3) := gdX5_addWord_0.2.1
theorem dX5_addWord_4 : decode cX5_addWord 4 = .ok (.iload_n 1, 1) := gdX5_addWord_0.2.2.1
theorem dX5_addWord_5 : decode cX5_addWord 5 = .ok (.bipush 11, 2) := gdX5_addWord_0.2.2.2.1
theorem dX5_addWord_7 : decode cX5_addWord 7 = .ok (.imul, 1) := gdX5_addWord_0.2.2.2.2.1
theorem dX5_addWord_8 : decode cX5_addWord 8 = .ok (.iaload, 1) := gdX5_addWord_0.2.2.2.2.2.1
theorem dX5_addWord_9 : decode cX5_addWord 9 = .ok (.iconst 1, 1) := gdX5_addWord_0.2.2.2.2.2.2.1
theorem dX5_addWord_10 : decode cX5_addWord 10 = .ok (.iadd, 1) := gdX5_addWord_0.2.2.2.2.2.2.2.1
theorem dX5_addWord_11 : decode cX5_addWord 11 = .ok (.istore_n 3, 1) := gdX5_addWord_0.2.2.2.2.2.2.2.2.1
theorem dX5_addWord_12 : decode cX5_addWord 12 = .ok (.aload_n 0, 1) := gdX5_addWord_0.2.2.2.2.2.2.2.2.2.1
theorem dX5_addWord_13 : decode cX5_addWord 13 = .ok (.getfield 11, 3) := gdX5_addWord_0.2.2.2.2.2.2.2.2.2.2.1
theorem dX5_addWord_16 : decode cX5_addWord 16 = .ok (.iload_n 1, 1) := gdX5_addWord_0.2.2.2.2.2.2.2.2.2.2.2
theorem gdX5_addWord_17 : decode cX5_addWord 17 = .ok (.bipush 11, 2) ∧ decode cX5_addWord 19 = .ok (.imul, 1) ∧ decode cX5_addWord 20 = .ok (.iload_n 3, 1) ∧ decode cX5_addWord 21 = .ok (.iastore, 1) ∧ decode cX5_addWord 22 = .ok (.aload_n 0, 1) ∧ decode cX5_addWord 23 = .ok (.getfield 11, 3) ∧ decode cX5_addWord 26 = .ok (.iload_n 1, 1) ∧ decode cX5_addWord 27 = .ok (.bipush 11, 2) ∧ decode cX5_addWord 29 = .ok (.imul, 1) ∧ decode cX5_addWord 30 = .ok (.iload_n 3, 1) ∧ decode cX5_addWord 31 = .ok (.iadd, 1) ∧ decode cX5_addWord 32 = .ok (.iload_n 2, 1) := by decide +kernel
theorem dX5_addWord_17 : decode cX5_addWord 17 = .ok (.bipush 11, 2) := gdX5_addWord_17.1
theorem dX5_addWord_19 : decode cX5_addWord 19 = .ok (.imul, 1) := gdX5_addWord_17.2.1
theorem dX5_addWord_20 : decode cX5_addWord 20 = .ok (.iload_n 3, 1) := gdX5_addWord_17.2.2.1
theorem dX5_addWord_21 : decode cX5_addWord 21 = .ok (.iastore, 1) := gdX5_addWord_17.2.2.2.1
theorem dX5_addWord_22 : decode cX5_addWord 22 = .ok (.aload_n 0, 1) := gdX5_addWord_17.2.2.2.2.1
theorem dX5_addWord_23 : decode cX5_addWord 23 = .ok (.getfield 11, 3) := gdX5_addWord_17.2.2.2.2.2.1
theorem dX5_addWord_26 : decode cX5_addWord 26 = .ok (.iload_n 1, 1) := gdX5_addWord_17.2.2.2.2.2.2.1
theorem dX5_addWord_27 : decode cX5_addWord 27 = .ok (.bipush 11, 2) := gdX5_addWord_17.2.2.2.2.2.2.2.1
theorem dX5_addWord_29 : decode cX5_addWord 29 = .ok (.imul, 1) := gdX5_addWord_17.2.2.2.2.2.2.2.2.1
theorem dX5_addWord_30 : decode cX5_addWord 30 = .ok (.iload_n 3, 1) := gdX5_addWord_17.2.2.2.2.2.2.2.2.2.1
theorem dX5_addWord_31 : decode cX5_addWord 31 = .ok (.iadd, 1) := gdX5_addWord_17.2.2.2.2.2.2.2.2.2.2.1
theorem dX5_addWord_32 : decode cX5_addWord 32 = .ok (.iload_n 2, 1) := gdX5_addWord_17.2.2.2.2.2.2.2.2.2.2.2
theorem gdX5_addWord_33 : decode cX5_addWord 33 = .ok (.iastore, 1) ∧ decode cX5_addWord 34 = .ok (.aload_n 0, 1) ∧ decode cX5_addWord 35 = .ok (.invokevirtual 67, 3) := by decide +kernel
theorem dX5_addWord_33 : decode cX5_addWord 33 = .ok (.iastore, 1) := gdX5_addWord_33.1
theorem dX5_addWord_34 : decode cX5_addWord 34 = .ok (.aload_n 0, 1) := gdX5_addWord_33.2.1
theorem dX5_addWord_35 : decode cX5_addWord 35 = .ok (.invokevirtual 67, 3) := gdX5_addWord_33.2.2
theorem k_X5_67 : xV RX5 RX5 67 yX5_keepAct cX5_keepAct 1 none 0 := ⟨⟨m_980, m_982, m_30, m_139, m_983⟩, rfl, by decide, by decide, by decide +kernel⟩
theorem dX5_addWord_38 : decode cX5_addWord 38 = .ok (.return_, 1) := by decide +kernel
set_option maxHeartbeats 1000000 in
set_option maxRecDepth 100000 in
theorem s_addWord0 (l : Launch) (D : va_G) (cy : Nat → ClassId) (n0 : Nat) (n1 : Nat) (n2 : Nat) (n3 : Nat) (fu : Int32) (cu : Nat) (un : Nat) (re : Nat) (fn : Nat → Int32) (fq : Nat → Int32) (wd : Nat) (le : Nat) (hcu : cu ≤ 40) (hur : un + re ≤ 40) (hno : mRows fn 1) (hro : mRows fq 41) (hwd : wd ≤ 7) (hle : fn 0 = nI le) (hle9 : le ≤ 9) : XMv l D (tyL cy) E0 yX5_addWord cX5_addWord 4 none (rmk 2 0 0) [.ref n0, .int 0, .int (nI wd)] [wO n0 5 [.ref n1, .ref n2, .ref n3, .int fu, .int (nI cu), .int (nI un), .int (nI re)], wI (cy 1) n1 41 (fn), wI (cy 1) n2 1681 (fq)] (fun (u : Nat × Nat × Nat × (Nat → Int32) × (Nat → Int32)) => (u.1 ≤ 40) ∧ (u.2.1 + u.2.2.1 ≤ 40) ∧ (mRows u.2.2.2.1 41) ∧ (mRows u.2.2.2.2 1) ∧ (actC u.2.2.2.2 fq cu un u.2.2.2.1 u.1 u.2.1 u.2.2.1) ∧ (u.2.2.2.2 = upd (upd fn 0 (nI (le + 1))) (0 + (le + 1)) (nI wd))) (fun (u : Nat × Nat × Nat × (Nat → Int32) × (Nat → Int32)) => [wO n0 5 [.ref n1, .ref n2, .ref n3, .int fu, .int (nI u.1), .int (nI u.2.1), .int (nI u.2.2.1)], wI (cy 1) n1 41 (u.2.2.2.2), wI (cy 1) n2 1681 (u.2.2.2.1)]) := by
  refine XMv.start (by decide) (Nat.le_of_ble_eq_true rfl) ?_
  intro p e s m below meth c args A ls Q hat hQ
  obtain ⟨hx, hb, hr, hml, hown, hg, hlocks, hin, hK, hA, hP, hD, hS, hE, hl⟩ := hat
  have hown : s.vm.findClass RX5 = some m.cls := hown
  have hl : lv_has ls 4 [(0, .ref n0), (1, .int 0), (2, .int (nI wd))] := hl
  refine lv_aload_n hx hb dX5_addWord_0 rfl (lv_at hl 0 rfl) ?_
  refine va_get (D := D) (ci := 5) (v := .ref n1) (C := RX5) (T := TX5) (N := 7) hx hb hg i_X5 hown hK hP 0 rfl rfl 0 (by decide) (hg _ m_423) (fun _ h9 => h9) rfl dX5_addWord_1 ?_
  refine lv_iload_n hx hb dX5_addWord_4 rfl (lv_at hl 1 rfl) ?_
  refine lv_bipush (v := 11) hx hb dX5_addWord_5 (by decide) ?_
  refine lv_imul hx hb dX5_addWord_7 ?_
  refine lv_topi (fun y_1 hy_1 => ?_)
  obtain rfl : y_1 = 0 := hy_1.trans (by decide +kernel)
  refine va_iald hx hb hK hP 1 1 rfl rfl (by unfold vp_in; decide) dX5_addWord_8 ?_
  refine lv_topi (fun y_2 hy_2 => ?_)
  obtain rfl : y_2 = nI le := hy_2.trans hle
  refine lv_iconst (v := 1) hx hb dX5_addWord_9 (by decide) ?_
  refine lv_iadd hx hb dX5_addWord_10 ?_
  refine lv_topi (fun y_3 hy_3 => ?_)
  obtain rfl : y_3 = nI (le + 1) := hy_3.trans (nI_add le 1)
  refine lv_istore_n (lv' := [(3, .int (nI (le + 1))), (0, .ref n0), (1, .int 0), (2, .int (nI wd))]) hx hb dX5_addWord_11 rfl hl (by decide) rfl (fun ls hl => ?_)
  refine lv_aload_n hx hb dX5_addWord_12 rfl (lv_at hl 1 rfl) ?_
  refine va_get (D := D) (ci := 5) (v := .ref n1) (C := RX5) (T := TX5) (N := 7) hx hb hg i_X5 hown hK hP 0 rfl rfl 0 (by decide) (hg _ m_423) (fun _ h9 => h9) rfl dX5_addWord_13 ?_
  refine lv_iload_n hx hb dX5_addWord_16 rfl (lv_at hl 2 rfl) ?_
  refine lv_bipush (v := 11) hx hb dX5_addWord_17 (by decide) ?_
  refine lv_imul hx hb dX5_addWord_19 ?_
  refine lv_topi (fun y_4 hy_4 => ?_)
  obtain rfl : y_4 = 0 := hy_4.trans (by decide +kernel)
  refine lv_iload_n hx hb dX5_addWord_20 rfl (lv_at hl 0 rfl) ?_
  refine va_iast hx hb hK hP hD hS 1 1 rfl rfl (by unfold vp_in; decide) dX5_addWord_21 (fun H locs hP9 hD9 hS9 => ?_)
  clear hP hD hS
  have hP := hP9
  have hD := hD9
  have hS := hS9
  clear hP9 hD9 hS9
  obtain ⟨g_5, eg_5⟩ : ∃ y, upd fn (0 : Int32).toNatClampNeg (nI (le + 1)) = y := ⟨_, rfl⟩
  rw [eg_5] at hP hD
  have hr_6 : mRows g_5 1 := eg_5 ▸ m_len (k := 0) (a := (le + 1)) hno (by omega) (by omega)
  replace hP : va_P D vwCl [wO n0 5 [.ref n1, .ref n2, .ref n3, .int fu, .int (nI cu), .int (nI un), .int (nI re)], wI (cy 1) n1 41 (g_5), wI (cy 1) n2 1681 (fq)] H := hP
  replace hD : va_D A [wO n0 5 [.ref n1, .ref n2, .ref n3, .int fu, .int (nI cu), .int (nI un), .int (nI re)], wI (cy 1) n1 41 (g_5), wI (cy 1) n2 1681 (fq)] := hD
  refine lv_aload_n hx hb dX5_addWord_22 rfl (lv_at hl 1 rfl) ?_
  refine va_get (D := D) (ci := 5) (v := .ref n1) (C := RX5) (T := TX5) (N := 7) hx hb hg i_X5 hown hK hP 0 rfl rfl 0 (by decide) (hg _ m_423) (fun _ h9 => h9) rfl dX5_addWord_23 ?_
  refine lv_iload_n hx hb dX5_addWord_26 rfl (lv_at hl 2 rfl) ?_
  refine lv_bipush (v := 11) hx hb dX5_addWord_27 (by decide) ?_
  refine lv_imul hx hb dX5_addWord_29 ?_
  refine lv_topi (fun y_7 hy_7 => ?_)
  obtain rfl : y_7 = 0 := hy_7.trans (by decide +kernel)
  refine lv_iload_n hx hb dX5_addWord_30 rfl (lv_at hl 0 rfl) ?_
  refine lv_iadd hx hb dX5_addWord_31 ?_
  refine lv_topi (fun y_8 hy_8 => ?_)
  obtain rfl : y_8 = nI (0 + (le + 1)) := hy_8.trans (nI_add 0 ((le + 1)))
  refine lv_iload_n hx hb dX5_addWord_32 rfl (lv_at hl 3 rfl) ?_
  refine va_iast hx hb hK hP hD hS 1 1 rfl rfl (vp_in_nI (by omega) (by decide)) dX5_addWord_33 (fun H locs hP9 hD9 hS9 => ?_)
  clear hP hD hS
  have hP := hP9
  have hD := hD9
  have hS := hS9
  clear hP9 hD9 hS9
  obtain ⟨g_9, eg_9⟩ : ∃ y, upd g_5 (nI (0 + (le + 1)) : Int32).toNatClampNeg (nI wd) = y := ⟨_, rfl⟩
  rw [eg_9] at hP hD
  have hr_10 : mRows g_9 1 := eg_9 ▸ m_word (k := (0 + (le + 1))) (a := wd) hr_6 (by omega) (by omega)
  replace hP : va_P D vwCl [wO n0 5 [.ref n1, .ref n2, .ref n3, .int fu, .int (nI cu), .int (nI un), .int (nI re)], wI (cy 1) n1 41 (g_9), wI (cy 1) n2 1681 (fq)] H := hP
  replace hD : va_D A [wO n0 5 [.ref n1, .ref n2, .ref n3, .int fu, .int (nI cu), .int (nI un), .int (nI re)], wI (cy 1) n1 41 (g_9), wI (cy 1) n2 1681 (fq)] := hD
  refine lv_aload_n hx hb dX5_addWord_34 rfl (lv_at hl 1 rfl) ?_
  refine x_callVv (q := (RX5, TX5, 7)) (ci := 5) (q0 := 0) (wr := []) (rest := []) ⟨hx, hb, hml, hown, hg, hl.1⟩ k_X5_67 (s_keepAct l D cy n0 n1 n2 n3 fu cu un re g_9 fq (by omega) (by omega) (hr_10) (hro)) E0_blind hK hP hD hS hA [0, 1, 2] [] ⟨rfl, rfl, by decide +kernel, by decide +kernel, by decide +kernel⟩ rfl rfl (fun _ _ _ => trivial) dX5_addWord_35 rfl rfl (Nat.le_of_ble_eq_true rfl) ⟨Nat.le_of_ble_eq_true rfl, Nat.le_of_ble_eq_true rfl⟩ ⟨Nat.le_of_ble_eq_true rfl, Nat.le_of_ble_eq_true rfl⟩ (fun zu11 H locs hw11 hP9 hD9 hS9 => ?_)
  clear hP hD hS
  obtain ⟨cu2_12, un2_13, re2_14, fq2_15⟩ := zu11
  refine reW [wO n0 5 [.ref n1, .ref n2, .ref n3, .int fu, .int (nI cu2_12), .int (nI un2_13), .int (nI re2_14)], wI (cy 1) n1 41 (g_9), wI (cy 1) n2 1681 (fq2_15)] hP9 hD9 hS9 (fun hP hD hS => ?_)
  clear hP9 hD9 hS9
  refine W.widen (k := 0) (n := 0) (Nat.le_of_ble_eq_true rfl) (Nat.le_of_ble_eq_true rfl) ?_
  replace hw11 : (cu2_12 ≤ 40) ∧ (un2_13 + re2_14 ≤ 40) ∧ (mRows fq2_15 41) ∧ (actC g_9 fq cu un fq2_15 cu2_12 un2_13 re2_14) := hw11
  obtain ⟨f_16, f_17, f_18, f_19⟩ := hw11
  exact x_vret hQ hx hb hr hlocks hK hP hD hS dX5_addWord_38 (cu2_12, un2_13, re2_14, fq2_15, g_9) (⟨(show cu2_12 ≤ 40 from by omega), (show un2_13 + re2_14 ≤ 40 from by omega), f_18, hr_10, f_19, upd_at (by omega) (by rw [show upd fn 0 (nI (le + 1)) = g_5 from eg_5]; exact eg_9)⟩) [0, 1, 2] (by decide +kernel) rfl (Nat.le_of_ble_eq_true rfl) (Nat.le_of_ble_eq_true rfl)
theorem gdX5_dropWord_0 : decode cX5_dropWord 0 = .ok (.aload_n 0, 1) ∧ decode cX5_dropWord 1 = .ok (.getfield 11, 3) ∧ decode cX5_dropWord 4 = .ok (.iload_n 1, 1) ∧ decode cX5_dropWord 5 = .ok (.bipush 11, 2) ∧ decode cX5_dropWord 7 = .ok (.imul, 1) ∧ decode cX5_dropWord 8 = .ok (.iaload, 1) ∧ decode cX5_dropWord 9 = .ok (.istore_n 2, 1) ∧ decode cX5_dropWord 10 = .ok (.aload_n 0, 1) ∧ decode cX5_dropWord 11 = .ok (.getfield 11, 3) ∧ decode cX5_dropWord 14 = .ok (.iload_n 1, 1) ∧ decode cX5_dropWord 15 = .ok (.bipush 11, 2) ∧ decode cX5_dropWord 17 = .ok (.imul, 1) := by decide +kernel
theorem dX5_dropWord_0 : decode cX5_dropWord 0 = .ok (.aload_n 0, 1) := gdX5_dropWord_0.1
theorem dX5_dropWord_1 : decode cX5_dropWord 1 = .ok (.getfield 11, 3) := gdX5_dropWord_0.2.1
theorem dX5_dropWord_4 : decode cX5_dropWord 4 = .ok (.iload_n 1, 1) := gdX5_dropWord_0.2.2.1
theorem dX5_dropWord_5 : decode cX5_dropWord 5 = .ok (.bipush 11, 2) := gdX5_dropWord_0.2.2.2.1
theorem dX5_dropWord_7 : decode cX5_dropWord 7 = .ok (.imul, 1) := gdX5_dropWord_0.2.2.2.2.1
theorem dX5_dropWord_8 : decode cX5_dropWord 8 = .ok (.iaload, 1) := gdX5_dropWord_0.2.2.2.2.2.1
theorem dX5_dropWord_9 : decode cX5_dropWord 9 = .ok (.istore_n 2, 1) := gdX5_dropWord_0.2.2.2.2.2.2.1
theorem dX5_dropWord_10 : decode cX5_dropWord 10 = .ok (.aload_n 0, 1) := gdX5_dropWord_0.2.2.2.2.2.2.2.1
theorem dX5_dropWord_11 : decode cX5_dropWord 11 = .ok (.getfield 11, 3) := gdX5_dropWord_0.2.2.2.2.2.2.2.2.1
theorem dX5_dropWord_14 : decode cX5_dropWord 14 = .ok (.iload_n 1, 1) := gdX5_dropWord_0.2.2.2.2.2.2.2.2.2.1
theorem dX5_dropWord_15 : decode cX5_dropWord 15 = .ok (.bipush 11, 2) := gdX5_dropWord_0.2.2.2.2.2.2.2.2.2.2.1
theorem dX5_dropWord_17 : decode cX5_dropWord 17 = .ok (.imul, 1) := gdX5_dropWord_0.2.2.2.2.2.2.2.2.2.2.2
theorem gdX5_dropWord_18 : decode cX5_dropWord 18 = .ok (.iload_n 2, 1) ∧ decode cX5_dropWord 19 = .ok (.iadd, 1) ∧ decode cX5_dropWord 20 = .ok (.iaload, 1) ∧ decode cX5_dropWord 21 = .ok (.istore_n 3, 1) ∧ decode cX5_dropWord 22 = .ok (.aload_n 0, 1) ∧ decode cX5_dropWord 23 = .ok (.getfield 11, 3) ∧ decode cX5_dropWord 26 = .ok (.iload_n 1, 1) ∧ decode cX5_dropWord 27 = .ok (.bipush 11, 2) ∧ decode cX5_dropWord 29 = .ok (.imul, 1) ∧ decode cX5_dropWord 30 = .ok (.iload_n 2, 1) ∧ decode cX5_dropWord 31 = .ok (.iconst 1, 1) ∧ decode cX5_dropWord 32 = .ok (.isub, 1) := by decide +kernel
theorem dX5_dropWord_18 : decode cX5_dropWord 18 = .ok (.iload_n 2, 1) := gdX5_dropWord_18.1
theorem dX5_dropWord_19 : decode cX5_dropWord 19 = .ok (.iadd, 1) := gdX5_dropWord_18.2.1
theorem dX5_dropWord_20 : decode cX5_dropWord 20 = .ok (.iaload, 1) := gdX5_dropWord_18.2.2.1
theorem dX5_dropWord_21 : decode cX5_dropWord 21 = .ok (.istore_n 3, 1) := gdX5_dropWord_18.2.2.2.1
theorem dX5_dropWord_22 : decode cX5_dropWord 22 = .ok (.aload_n 0, 1) := gdX5_dropWord_18.2.2.2.2.1
theorem dX5_dropWord_23 : decode cX5_dropWord 23 = .ok (.getfield 11, 3) := gdX5_dropWord_18.2.2.2.2.2.1
theorem dX5_dropWord_26 : decode cX5_dropWord 26 = .ok (.iload_n 1, 1) := gdX5_dropWord_18.2.2.2.2.2.2.1
theorem dX5_dropWord_27 : decode cX5_dropWord 27 = .ok (.bipush 11, 2) := gdX5_dropWord_18.2.2.2.2.2.2.2.1
theorem dX5_dropWord_29 : decode cX5_dropWord 29 = .ok (.imul, 1) := gdX5_dropWord_18.2.2.2.2.2.2.2.2.1
theorem dX5_dropWord_30 : decode cX5_dropWord 30 = .ok (.iload_n 2, 1) := gdX5_dropWord_18.2.2.2.2.2.2.2.2.2.1
theorem dX5_dropWord_31 : decode cX5_dropWord 31 = .ok (.iconst 1, 1) := gdX5_dropWord_18.2.2.2.2.2.2.2.2.2.2.1
theorem dX5_dropWord_32 : decode cX5_dropWord 32 = .ok (.isub, 1) := gdX5_dropWord_18.2.2.2.2.2.2.2.2.2.2.2
theorem gdX5_dropWord_33 : decode cX5_dropWord 33 = .ok (.iastore, 1) ∧ decode cX5_dropWord 34 = .ok (.aload_n 0, 1) ∧ decode cX5_dropWord 35 = .ok (.invokevirtual 67, 3) ∧ decode cX5_dropWord 38 = .ok (.iload_n 3, 1) ∧ decode cX5_dropWord 39 = .ok (.ireturn, 1) := by decide +kernel
theorem dX5_dropWord_33 : decode cX5_dropWord 33 = .ok (.iastore, 1) := gdX5_dropWord_33.1
theorem dX5_dropWord_34 : decode cX5_dropWord 34 = .ok (.aload_n 0, 1) := gdX5_dropWord_33.2.1
theorem dX5_dropWord_35 : decode cX5_dropWord 35 = .ok (.invokevirtual 67, 3) := gdX5_dropWord_33.2.2.1
theorem dX5_dropWord_38 : decode cX5_dropWord 38 = .ok (.iload_n 3, 1) := gdX5_dropWord_33.2.2.2.1
theorem dX5_dropWord_39 : decode cX5_dropWord 39 = .ok (.ireturn, 1) := gdX5_dropWord_33.2.2.2.2
set_option maxHeartbeats 1000000 in
set_option maxRecDepth 100000 in
theorem s_dropWord0 (l : Launch) (D : va_G) (cy : Nat → ClassId) (n0 : Nat) (n1 : Nat) (n2 : Nat) (n3 : Nat) (fu : Int32) (cu : Nat) (un : Nat) (re : Nat) (fn : Nat → Int32) (fq : Nat → Int32) (le : Nat) (hcu : cu ≤ 40) (hur : un + re ≤ 40) (hno : mRows fn 1) (hro : mRows fq 41) (hle : fn 0 = nI le) (hle1 : 1 ≤ le) (hle10 : le ≤ 10) : XMi l D (tyL cy) E0 yX5_dropWord cX5_dropWord 4 (some .int) (rmk 2 0 0) [.ref n0, .int 0] [wO n0 5 [.ref n1, .ref n2, .ref n3, .int fu, .int (nI cu), .int (nI un), .int (nI re)], wI (cy 1) n1 41 (fn), wI (cy 1) n2 1681 (fq)] (fun (r : Int32) (u : Nat × Nat × Nat × (Nat → Int32) × (Nat → Int32) × Nat) => (r = nI u.2.2.2.2.2) ∧ (u.2.2.2.2.2 ≤ 7) ∧ (u.1 ≤ 40) ∧ (u.2.1 + u.2.2.1 ≤ 40) ∧ (mRows u.2.2.2.1 41) ∧ (mRows u.2.2.2.2.1 1) ∧ (actC u.2.2.2.2.1 fq cu un u.2.2.2.1 u.1 u.2.1 u.2.2.1) ∧ (u.2.2.2.2.1 = upd fn 0 (nI (le - 1)) ∧ nI u.2.2.2.2.2 = fn (0 + le))) (fun (u : Nat × Nat × Nat × (Nat → Int32) × (Nat → Int32) × Nat) => [wO n0 5 [.ref n1, .ref n2, .ref n3, .int fu, .int (nI u.1), .int (nI u.2.1), .int (nI u.2.2.1)], wI (cy 1) n1 41 (u.2.2.2.2.1), wI (cy 1) n2 1681 (u.2.2.2.1)]) := by
  refine XMi.start (by decide) (Nat.le_of_ble_eq_true rfl) ?_
  intro p e s m below meth c args A ls Q hat hQ
  obtain ⟨hx, hb, hr, hml, hown, hg, hlocks, hin, hK, hA, hP, hD, hS, hE, hl⟩ := hat
  have hown : s.vm.findClass RX5 = some m.cls := hown
  have hl : lv_has ls 4 [(0, .ref n0), (1, .int 0)] := hl
  refine lv_aload_n hx hb dX5_dropWord_0 rfl (lv_at hl 0 rfl) ?_
  refine va_get (D := D) (ci := 5) (v := .ref n1) (C := RX5) (T := TX5) (N := 7) hx hb hg i_X5 hown hK hP 0 rfl rfl 0 (by decide) (hg _ m_423) (fun _ h9 => h9) rfl dX5_dropWord_1 ?_
  refine lv_iload_n hx hb dX5_dropWord_4 rfl (lv_at hl 1 rfl) ?_
  refine lv_bipush (v := 11) hx hb dX5_dropWord_5 (by decide) ?_
  refine lv_imul hx hb dX5_dropWord_7 ?_
  refine lv_topi (fun y_1 hy_1 => ?_)
  obtain rfl : y_1 = 0 := hy_1.trans (by decide +kernel)
  refine va_iald hx hb hK hP 1 1 rfl rfl (by unfold vp_in; decide) dX5_dropWord_8 ?_
  refine lv_topi (fun y_2 hy_2 => ?_)
  obtain rfl : y_2 = nI le := hy_2.trans hle
  refine lv_istore_n (lv' := [(2, .int (nI le)), (0, .ref n0), (1, .int 0)]) hx hb dX5_dropWord_9 rfl hl (by decide) rfl (fun ls hl => ?_)
  refine lv_aload_n hx hb dX5_dropWord_10 rfl (lv_at hl 1 rfl) ?_
  refine va_get (D := D) (ci := 5) (v := .ref n1) (C := RX5) (T := TX5) (N := 7) hx hb hg i_X5 hown hK hP 0 rfl rfl 0 (by decide) (hg _ m_423) (fun _ h9 => h9) rfl dX5_dropWord_11 ?_
  refine lv_iload_n hx hb dX5_dropWord_14 rfl (lv_at hl 2 rfl) ?_
  refine lv_bipush (v := 11) hx hb dX5_dropWord_15 (by decide) ?_
  refine lv_imul hx hb dX5_dropWord_17 ?_
  refine lv_topi (fun y_3 hy_3 => ?_)
  obtain rfl : y_3 = 0 := hy_3.trans (by decide +kernel)
  refine lv_iload_n hx hb dX5_dropWord_18 rfl (lv_at hl 0 rfl) ?_
  refine lv_iadd hx hb dX5_dropWord_19 ?_
  refine lv_topi (fun y_4 hy_4 => ?_)
  obtain rfl : y_4 = nI (0 + le) := hy_4.trans (nI_add 0 le)
  refine va_iald hx hb hK hP 1 1 rfl rfl (vp_in_nI (by omega) (by decide)) dX5_dropWord_20 ?_
  obtain ⟨j_5, hj_5, ej_5⟩ := m_wordAt hno (k := (0 + le)) (by omega)
  refine lv_topi (fun y_6 hy_6 => ?_)
  obtain rfl : y_6 = nI j_5 := hy_6.trans ej_5
  refine lv_istore_n (lv' := [(3, .int (nI j_5)), (2, .int (nI le)), (0, .ref n0), (1, .int 0)]) hx hb dX5_dropWord_21 rfl hl (by decide) rfl (fun ls hl => ?_)
  refine lv_aload_n hx hb dX5_dropWord_22 rfl (lv_at hl 2 rfl) ?_
  refine va_get (D := D) (ci := 5) (v := .ref n1) (C := RX5) (T := TX5) (N := 7) hx hb hg i_X5 hown hK hP 0 rfl rfl 0 (by decide) (hg _ m_423) (fun _ h9 => h9) rfl dX5_dropWord_23 ?_
  refine lv_iload_n hx hb dX5_dropWord_26 rfl (lv_at hl 3 rfl) ?_
  refine lv_bipush (v := 11) hx hb dX5_dropWord_27 (by decide) ?_
  refine lv_imul hx hb dX5_dropWord_29 ?_
  refine lv_topi (fun y_7 hy_7 => ?_)
  obtain rfl : y_7 = 0 := hy_7.trans (by decide +kernel)
  refine lv_iload_n hx hb dX5_dropWord_30 rfl (lv_at hl 1 rfl) ?_
  refine lv_iconst (v := 1) hx hb dX5_dropWord_31 (by decide) ?_
  refine lv_isub hx hb dX5_dropWord_32 ?_
  refine lv_topi (fun y_8 hy_8 => ?_)
  obtain rfl : y_8 = nI (le - 1) := hy_8.trans (pk_sub (a := le) (b := 1) (by omega))
  refine va_iast hx hb hK hP hD hS 1 1 rfl rfl (by unfold vp_in; decide) dX5_dropWord_33 (fun H locs hP9 hD9 hS9 => ?_)
  clear hP hD hS
  have hP := hP9
  have hD := hD9
  have hS := hS9
  clear hP9 hD9 hS9
  obtain ⟨g_9, eg_9⟩ : ∃ y, upd fn (0 : Int32).toNatClampNeg (nI (le - 1)) = y := ⟨_, rfl⟩
  rw [eg_9] at hP hD
  have hr_10 : mRows g_9 1 := eg_9 ▸ m_len (k := 0) (a := (le - 1)) hno (by omega) (by omega)
  replace hP : va_P D vwCl [wO n0 5 [.ref n1, .ref n2, .ref n3, .int fu, .int (nI cu), .int (nI un), .int (nI re)], wI (cy 1) n1 41 (g_9), wI (cy 1) n2 1681 (fq)] H := hP
  replace hD : va_D A [wO n0 5 [.ref n1, .ref n2, .ref n3, .int fu, .int (nI cu), .int (nI un), .int (nI re)], wI (cy 1) n1 41 (g_9), wI (cy 1) n2 1681 (fq)] := hD
  refine lv_aload_n hx hb dX5_dropWord_34 rfl (lv_at hl 2 rfl) ?_
  refine x_callVv (q := (RX5, TX5, 7)) (ci := 5) (q0 := 0) (wr := []) (rest := []) ⟨hx, hb, hml, hown, hg, hl.1⟩ k_X5_67 (s_keepAct l D cy n0 n1 n2 n3 fu cu un re g_9 fq (by omega) (by omega) (hr_10) (hro)) E0_blind hK hP hD hS hA [0, 1, 2] [] ⟨rfl, rfl, by decide +kernel, by decide +kernel, by decide +kernel⟩ rfl rfl (fun _ _ _ => trivial) dX5_dropWord_35 rfl rfl (Nat.le_of_ble_eq_true rfl) ⟨Nat.le_of_ble_eq_true rfl, Nat.le_of_ble_eq_true rfl⟩ ⟨Nat.le_of_ble_eq_true rfl, Nat.le_of_ble_eq_true rfl⟩ (fun zu11 H locs hw11 hP9 hD9 hS9 => ?_)
  clear hP hD hS
  obtain ⟨cu2_12, un2_13, re2_14, fq2_15⟩ := zu11
  refine reW [wO n0 5 [.ref n1, .ref n2, .ref n3, .int fu, .int (nI cu2_12), .int (nI un2_13), .int (nI re2_14)], wI (cy 1) n1 41 (g_9), wI (cy 1) n2 1681 (fq2_15)] hP9 hD9 hS9 (fun hP hD hS => ?_)
  clear hP9 hD9 hS9
  refine W.widen (k := 0) (n := 0) (Nat.le_of_ble_eq_true rfl) (Nat.le_of_ble_eq_true rfl) ?_
  replace hw11 : (cu2_12 ≤ 40) ∧ (un2_13 + re2_14 ≤ 40) ∧ (mRows fq2_15 41) ∧ (actC g_9 fq cu un fq2_15 cu2_12 un2_13 re2_14) := hw11
  obtain ⟨f_16, f_17, f_18, f_19⟩ := hw11
  refine lv_iload_n hx hb dX5_dropWord_38 rfl (lv_at hl 0 rfl) ?_
  exact x_iret hQ hx hb hr hlocks hK hP hD hS dX5_dropWord_39 (cu2_12, un2_13, re2_14, fq2_15, g_9, j_5) (⟨rfl, (show j_5 ≤ 7 from by omega), (show cu2_12 ≤ 40 from by omega), (show un2_13 + re2_14 ≤ 40 from by omega), f_18, hr_10, f_19, ⟨eg_9.symm, ld_at (by omega) ej_5.symm⟩⟩) [0, 1, 2] (by decide +kernel) rfl (Nat.le_of_ble_eq_true rfl) (Nat.le_of_ble_eq_true rfl)
set_option maxHeartbeats 1000000 in
set_option maxRecDepth 100000 in
theorem s_cryLength1 (l : Launch) (D : va_G) (cy : Nat → ClassId) (n0 : Nat) (n1 : Nat) (n2 : Nat) (n3 : Nat) (fu : Int32) (cu : Nat) (un : Nat) (re : Nat) (fn : Nat → Int32) (hno : mRows fn 1) : XMi l D (tyL cy) E0 yX5_cryLength cX5_cryLength 2 (some .int) (rmk 0 0 0) [.ref n0, .int 1] [wO n0 5 [.ref n1, .ref n2, .ref n3, .int fu, .int (nI cu), .int (nI un), .int (nI re)], wI (cy 1) n1 41 (fn)] (fun (r : Int32) (k : Nat) => (r = nI k) ∧ (k ≤ 10)) (fun (k : Nat) => [wO n0 5 [.ref n1, .ref n2, .ref n3, .int fu, .int (nI cu), .int (nI un), .int (nI re)], wI (cy 1) n1 41 (fn)]) := by
  refine XMi.start (by decide) (Nat.le_of_ble_eq_true rfl) ?_
  intro p e s m below meth c args A ls Q hat hQ
  obtain ⟨hx, hb, hr, hml, hown, hg, hlocks, hin, hK, hA, hP, hD, hS, hE, hl⟩ := hat
  have hown : s.vm.findClass RX5 = some m.cls := hown
  have hl : lv_has ls 2 [(0, .ref n0), (1, .int 1)] := hl
  refine lv_aload_n hx hb dX5_cryLength_0 rfl (lv_at hl 0 rfl) ?_
  refine va_get (D := D) (ci := 5) (v := .ref n1) (C := RX5) (T := TX5) (N := 7) hx hb hg i_X5 hown hK hP 0 rfl rfl 0 (by decide) (hg _ m_423) (fun _ h9 => h9) rfl dX5_cryLength_1 ?_
  refine lv_iload_n hx hb dX5_cryLength_4 rfl (lv_at hl 1 rfl) ?_
  refine lv_bipush (v := 11) hx hb dX5_cryLength_5 (by decide) ?_
  refine lv_imul hx hb dX5_cryLength_7 ?_
  refine lv_topi (fun y_1 hy_1 => ?_)
  obtain rfl : y_1 = 11 := hy_1.trans (by decide +kernel)
  refine va_iald hx hb hK hP 1 1 rfl rfl (by unfold vp_in; decide) dX5_cryLength_8 ?_
  obtain ⟨j_2, hj_2, ej_2⟩ := (m_lenAt hno).2
  refine lv_topi (fun y_3 hy_3 => ?_)
  obtain rfl : y_3 = nI j_2 := hy_3.trans ej_2
  exact x_iret hQ hx hb hr hlocks hK hP hD hS dX5_cryLength_9 j_2 (⟨rfl, (show j_2 ≤ 10 from by omega)⟩) [0, 1] (by decide +kernel) rfl (Nat.le_of_ble_eq_true rfl) (Nat.le_of_ble_eq_true rfl)
set_option maxHeartbeats 1000000 in
set_option maxRecDepth 100000 in
theorem s_wordAt1 (l : Launch) (D : va_G) (cy : Nat → ClassId) (n0 : Nat) (n1 : Nat) (n2 : Nat) (n3 : Nat) (fu : Int32) (cu : Nat) (un : Nat) (re : Nat) (fn : Nat → Int32) (ix : Nat) (hno : mRows fn 1) (hix : ix < 10) : XMi l D (tyL cy) E0 yX5_wordAt cX5_wordAt 3 (some .int) (rmk 0 0 0) [.ref n0, .int 1, .int (nI ix)] [wO n0 5 [.ref n1, .ref n2, .ref n3, .int fu, .int (nI cu), .int (nI un), .int (nI re)], wI (cy 1) n1 41 (fn)] (fun (r : Int32) (k : Nat) => (r = nI k) ∧ (k ≤ 7) ∧ (nI k = fn (12 + ix))) (fun (k : Nat) => [wO n0 5 [.ref n1, .ref n2, .ref n3, .int fu, .int (nI cu), .int (nI un), .int (nI re)], wI (cy 1) n1 41 (fn)]) := by
  refine XMi.start (by decide) (Nat.le_of_ble_eq_true rfl) ?_
  intro p e s m below meth c args A ls Q hat hQ
  obtain ⟨hx, hb, hr, hml, hown, hg, hlocks, hin, hK, hA, hP, hD, hS, hE, hl⟩ := hat
  have hown : s.vm.findClass RX5 = some m.cls := hown
  have hl : lv_has ls 3 [(0, .ref n0), (1, .int 1), (2, .int (nI ix))] := hl
  refine lv_aload_n hx hb dX5_wordAt_0 rfl (lv_at hl 0 rfl) ?_
  refine va_get (D := D) (ci := 5) (v := .ref n1) (C := RX5) (T := TX5) (N := 7) hx hb hg i_X5 hown hK hP 0 rfl rfl 0 (by decide) (hg _ m_423) (fun _ h9 => h9) rfl dX5_wordAt_1 ?_
  refine lv_iload_n hx hb dX5_wordAt_4 rfl (lv_at hl 1 rfl) ?_
  refine lv_bipush (v := 11) hx hb dX5_wordAt_5 (by decide) ?_
  refine lv_imul hx hb dX5_wordAt_7 ?_
  refine lv_topi (fun y_1 hy_1 => ?_)
  obtain rfl : y_1 = 11 := hy_1.trans (by decide +kernel)
  refine lv_iconst (v := 1) hx hb dX5_wordAt_8 (by decide) ?_
  refine lv_iadd hx hb dX5_wordAt_9 ?_
  refine lv_topi (fun y_2 hy_2 => ?_)
  obtain rfl : y_2 = 12 := hy_2.trans (by decide +kernel)
  refine lv_iload_n hx hb dX5_wordAt_10 rfl (lv_at hl 2 rfl) ?_
  refine lv_iadd hx hb dX5_wordAt_11 ?_
  refine lv_topi (fun y_3 hy_3 => ?_)
  obtain rfl : y_3 = nI (12 + ix) := hy_3.trans (nI_add 12 ix)
  refine va_iald hx hb hK hP 1 1 rfl rfl (vp_in_nI (by omega) (by decide)) dX5_wordAt_12 ?_
  obtain ⟨j_4, hj_4, ej_4⟩ := m_wordAt hno (k := (12 + ix)) (by omega)
  refine lv_topi (fun y_5 hy_5 => ?_)
  obtain rfl : y_5 = nI j_4 := hy_5.trans ej_4
  exact x_iret hQ hx hb hr hlocks hK hP hD hS dX5_wordAt_13 j_4 (⟨rfl, (show j_4 ≤ 7 from by omega), ld_at (by omega) ej_4.symm⟩) [0, 1] (by decide +kernel) rfl (Nat.le_of_ble_eq_true rfl) (Nat.le_of_ble_eq_true rfl)
set_option maxHeartbeats 1000000 in
set_option maxRecDepth 100000 in
theorem s_addWord1 (l : Launch) (D : va_G) (cy : Nat → ClassId) (n0 : Nat) (n1 : Nat) (n2 : Nat) (n3 : Nat) (fu : Int32) (cu : Nat) (un : Nat) (re : Nat) (fn : Nat → Int32) (fq : Nat → Int32) (wd : Nat) (le : Nat) (hcu : cu ≤ 40) (hur : un + re ≤ 40) (hno : mRows fn 1) (hro : mRows fq 41) (hwd : wd ≤ 7) (hle : fn 11 = nI le) (hle9 : le ≤ 9) : XMv l D (tyL cy) E0 yX5_addWord cX5_addWord 4 none (rmk 2 0 0) [.ref n0, .int 1, .int (nI wd)] [wO n0 5 [.ref n1, .ref n2, .ref n3, .int fu, .int (nI cu), .int (nI un), .int (nI re)], wI (cy 1) n1 41 (fn), wI (cy 1) n2 1681 (fq)] (fun (u : Nat × Nat × Nat × (Nat → Int32) × (Nat → Int32)) => (u.1 ≤ 40) ∧ (u.2.1 + u.2.2.1 ≤ 40) ∧ (mRows u.2.2.2.1 41) ∧ (mRows u.2.2.2.2 1) ∧ (actC u.2.2.2.2 fq cu un u.2.2.2.1 u.1 u.2.1 u.2.2.1) ∧ (u.2.2.2.2 = upd (upd fn 11 (nI (le + 1))) (11 + (le + 1)) (nI wd))) (fun (u : Nat × Nat × Nat × (Nat → Int32) × (Nat → Int32)) => [wO n0 5 [.ref n1, .ref n2, .ref n3, .int fu, .int (nI u.1), .int (nI u.2.1), .int (nI u.2.2.1)], wI (cy 1) n1 41 (u.2.2.2.2), wI (cy 1) n2 1681 (u.2.2.2.1)]) := by
  refine XMv.start (by decide) (Nat.le_of_ble_eq_true rfl) ?_
  intro p e s m below meth c args A ls Q hat hQ
  obtain ⟨hx, hb, hr, hml, hown, hg, hlocks, hin, hK, hA, hP, hD, hS, hE, hl⟩ := hat
  have hown : s.vm.findClass RX5 = some m.cls := hown
  have hl : lv_has ls 4 [(0, .ref n0), (1, .int 1), (2, .int (nI wd))] := hl
  refine lv_aload_n hx hb dX5_addWord_0 rfl (lv_at hl 0 rfl) ?_
  refine va_get (D := D) (ci := 5) (v := .ref n1) (C := RX5) (T := TX5) (N := 7) hx hb hg i_X5 hown hK hP 0 rfl rfl 0 (by decide) (hg _ m_423) (fun _ h9 => h9) rfl dX5_addWord_1 ?_
  refine lv_iload_n hx hb dX5_addWord_4 rfl (lv_at hl 1 rfl) ?_
  refine lv_bipush (v := 11) hx hb dX5_addWord_5 (by decide) ?_
  refine lv_imul hx hb dX5_addWord_7 ?_
  refine lv_topi (fun y_1 hy_1 => ?_)
  obtain rfl : y_1 = 11 := hy_1.trans (by decide +kernel)
  refine va_iald hx hb hK hP 1 1 rfl rfl (by unfold vp_in; decide) dX5_addWord_8 ?_
  refine lv_topi (fun y_2 hy_2 => ?_)
  obtain rfl : y_2 = nI le := hy_2.trans hle
  refine lv_iconst (v := 1) hx hb dX5_addWord_9 (by decide) ?_
  refine lv_iadd hx hb dX5_addWord_10 ?_
  refine lv_topi (fun y_3 hy_3 => ?_)
  obtain rfl : y_3 = nI (le + 1) := hy_3.trans (nI_add le 1)
  refine lv_istore_n (lv' := [(3, .int (nI (le + 1))), (0, .ref n0), (1, .int 1), (2, .int (nI wd))]) hx hb dX5_addWord_11 rfl hl (by decide) rfl (fun ls hl => ?_)
  refine lv_aload_n hx hb dX5_addWord_12 rfl (lv_at hl 1 rfl) ?_
  refine va_get (D := D) (ci := 5) (v := .ref n1) (C := RX5) (T := TX5) (N := 7) hx hb hg i_X5 hown hK hP 0 rfl rfl 0 (by decide) (hg _ m_423) (fun _ h9 => h9) rfl dX5_addWord_13 ?_
  refine lv_iload_n hx hb dX5_addWord_16 rfl (lv_at hl 2 rfl) ?_
  refine lv_bipush (v := 11) hx hb dX5_addWord_17 (by decide) ?_
  refine lv_imul hx hb dX5_addWord_19 ?_
  refine lv_topi (fun y_4 hy_4 => ?_)
  obtain rfl : y_4 = 11 := hy_4.trans (by decide +kernel)
  refine lv_iload_n hx hb dX5_addWord_20 rfl (lv_at hl 0 rfl) ?_
  refine va_iast hx hb hK hP hD hS 1 1 rfl rfl (by unfold vp_in; decide) dX5_addWord_21 (fun H locs hP9 hD9 hS9 => ?_)
  clear hP hD hS
  have hP := hP9
  have hD := hD9
  have hS := hS9
  clear hP9 hD9 hS9
  obtain ⟨g_5, eg_5⟩ : ∃ y, upd fn (11 : Int32).toNatClampNeg (nI (le + 1)) = y := ⟨_, rfl⟩
  rw [eg_5] at hP hD
  have hr_6 : mRows g_5 1 := eg_5 ▸ m_len (k := 11) (a := (le + 1)) hno (by omega) (by omega)
  replace hP : va_P D vwCl [wO n0 5 [.ref n1, .ref n2, .ref n3, .int fu, .int (nI cu), .int (nI un), .int (nI re)], wI (cy 1) n1 41 (g_5), wI (cy 1) n2 1681 (fq)] H := hP
  replace hD : va_D A [wO n0 5 [.ref n1, .ref n2, .ref n3, .int fu, .int (nI cu), .int (nI un), .int (nI re)], wI (cy 1) n1 41 (g_5), wI (cy 1) n2 1681 (fq)] := hD
  refine lv_aload_n hx hb dX5_addWord_22 rfl (lv_at hl 1 rfl) ?_
  refine va_get (D := D) (ci := 5) (v := .ref n1) (C := RX5) (T := TX5) (N := 7) hx hb hg i_X5 hown hK hP 0 rfl rfl 0 (by decide) (hg _ m_423) (fun _ h9 => h9) rfl dX5_addWord_23 ?_
  refine lv_iload_n hx hb dX5_addWord_26 rfl (lv_at hl 2 rfl) ?_
  refine lv_bipush (v := 11) hx hb dX5_addWord_27 (by decide) ?_
  refine lv_imul hx hb dX5_addWord_29 ?_
  refine lv_topi (fun y_7 hy_7 => ?_)
  obtain rfl : y_7 = 11 := hy_7.trans (by decide +kernel)
  refine lv_iload_n hx hb dX5_addWord_30 rfl (lv_at hl 0 rfl) ?_
  refine lv_iadd hx hb dX5_addWord_31 ?_
  refine lv_topi (fun y_8 hy_8 => ?_)
  obtain rfl : y_8 = nI (11 + (le + 1)) := hy_8.trans (nI_add 11 ((le + 1)))
  refine lv_iload_n hx hb dX5_addWord_32 rfl (lv_at hl 3 rfl) ?_
  refine va_iast hx hb hK hP hD hS 1 1 rfl rfl (vp_in_nI (by omega) (by decide)) dX5_addWord_33 (fun H locs hP9 hD9 hS9 => ?_)
  clear hP hD hS
  have hP := hP9
  have hD := hD9
  have hS := hS9
  clear hP9 hD9 hS9
  obtain ⟨g_9, eg_9⟩ : ∃ y, upd g_5 (nI (11 + (le + 1)) : Int32).toNatClampNeg (nI wd) = y := ⟨_, rfl⟩
  rw [eg_9] at hP hD
  have hr_10 : mRows g_9 1 := eg_9 ▸ m_word (k := (11 + (le + 1))) (a := wd) hr_6 (by omega) (by omega)
  replace hP : va_P D vwCl [wO n0 5 [.ref n1, .ref n2, .ref n3, .int fu, .int (nI cu), .int (nI un), .int (nI re)], wI (cy 1) n1 41 (g_9), wI (cy 1) n2 1681 (fq)] H := hP
  replace hD : va_D A [wO n0 5 [.ref n1, .ref n2, .ref n3, .int fu, .int (nI cu), .int (nI un), .int (nI re)], wI (cy 1) n1 41 (g_9), wI (cy 1) n2 1681 (fq)] := hD
  refine lv_aload_n hx hb dX5_addWord_34 rfl (lv_at hl 1 rfl) ?_
  refine x_callVv (q := (RX5, TX5, 7)) (ci := 5) (q0 := 0) (wr := []) (rest := []) ⟨hx, hb, hml, hown, hg, hl.1⟩ k_X5_67 (s_keepAct l D cy n0 n1 n2 n3 fu cu un re g_9 fq (by omega) (by omega) (hr_10) (hro)) E0_blind hK hP hD hS hA [0, 1, 2] [] ⟨rfl, rfl, by decide +kernel, by decide +kernel, by decide +kernel⟩ rfl rfl (fun _ _ _ => trivial) dX5_addWord_35 rfl rfl (Nat.le_of_ble_eq_true rfl) ⟨Nat.le_of_ble_eq_true rfl, Nat.le_of_ble_eq_true rfl⟩ ⟨Nat.le_of_ble_eq_true rfl, Nat.le_of_ble_eq_true rfl⟩ (fun zu11 H locs hw11 hP9 hD9 hS9 => ?_)
  clear hP hD hS
  obtain ⟨cu2_12, un2_13, re2_14, fq2_15⟩ := zu11
  refine reW [wO n0 5 [.ref n1, .ref n2, .ref n3, .int fu, .int (nI cu2_12), .int (nI un2_13), .int (nI re2_14)], wI (cy 1) n1 41 (g_9), wI (cy 1) n2 1681 (fq2_15)] hP9 hD9 hS9 (fun hP hD hS => ?_)
  clear hP9 hD9 hS9
  refine W.widen (k := 0) (n := 0) (Nat.le_of_ble_eq_true rfl) (Nat.le_of_ble_eq_true rfl) ?_
  replace hw11 : (cu2_12 ≤ 40) ∧ (un2_13 + re2_14 ≤ 40) ∧ (mRows fq2_15 41) ∧ (actC g_9 fq cu un fq2_15 cu2_12 un2_13 re2_14) := hw11
  obtain ⟨f_16, f_17, f_18, f_19⟩ := hw11
  exact x_vret hQ hx hb hr hlocks hK hP hD hS dX5_addWord_38 (cu2_12, un2_13, re2_14, fq2_15, g_9) (⟨(show cu2_12 ≤ 40 from by omega), (show un2_13 + re2_14 ≤ 40 from by omega), f_18, hr_10, f_19, upd_at (by omega) (by rw [show upd fn 11 (nI (le + 1)) = g_5 from eg_5]; exact eg_9)⟩) [0, 1, 2] (by decide +kernel) rfl (Nat.le_of_ble_eq_true rfl) (Nat.le_of_ble_eq_true rfl)
set_option maxHeartbeats 1000000 in
set_option maxRecDepth 100000 in
theorem s_dropWord1 (l : Launch) (D : va_G) (cy : Nat → ClassId) (n0 : Nat) (n1 : Nat) (n2 : Nat) (n3 : Nat) (fu : Int32) (cu : Nat) (un : Nat) (re : Nat) (fn : Nat → Int32) (fq : Nat → Int32) (le : Nat) (hcu : cu ≤ 40) (hur : un + re ≤ 40) (hno : mRows fn 1) (hro : mRows fq 41) (hle : fn 11 = nI le) (hle1 : 1 ≤ le) (hle10 : le ≤ 10) : XMi l D (tyL cy) E0 yX5_dropWord cX5_dropWord 4 (some .int) (rmk 2 0 0) [.ref n0, .int 1] [wO n0 5 [.ref n1, .ref n2, .ref n3, .int fu, .int (nI cu), .int (nI un), .int (nI re)], wI (cy 1) n1 41 (fn), wI (cy 1) n2 1681 (fq)] (fun (r : Int32) (u : Nat × Nat × Nat × (Nat → Int32) × (Nat → Int32) × Nat) => (r = nI u.2.2.2.2.2) ∧ (u.2.2.2.2.2 ≤ 7) ∧ (u.1 ≤ 40) ∧ (u.2.1 + u.2.2.1 ≤ 40) ∧ (mRows u.2.2.2.1 41) ∧ (mRows u.2.2.2.2.1 1) ∧ (actC u.2.2.2.2.1 fq cu un u.2.2.2.1 u.1 u.2.1 u.2.2.1) ∧ (u.2.2.2.2.1 = upd fn 11 (nI (le - 1)) ∧ nI u.2.2.2.2.2 = fn (11 + le))) (fun (u : Nat × Nat × Nat × (Nat → Int32) × (Nat → Int32) × Nat) => [wO n0 5 [.ref n1, .ref n2, .ref n3, .int fu, .int (nI u.1), .int (nI u.2.1), .int (nI u.2.2.1)], wI (cy 1) n1 41 (u.2.2.2.2.1), wI (cy 1) n2 1681 (u.2.2.2.1)]) := by
  refine XMi.start (by decide) (Nat.le_of_ble_eq_true rfl) ?_
  intro p e s m below meth c args A ls Q hat hQ
  obtain ⟨hx, hb, hr, hml, hown, hg, hlocks, hin, hK, hA, hP, hD, hS, hE, hl⟩ := hat
  have hown : s.vm.findClass RX5 = some m.cls := hown
  have hl : lv_has ls 4 [(0, .ref n0), (1, .int 1)] := hl
  refine lv_aload_n hx hb dX5_dropWord_0 rfl (lv_at hl 0 rfl) ?_
  refine va_get (D := D) (ci := 5) (v := .ref n1) (C := RX5) (T := TX5) (N := 7) hx hb hg i_X5 hown hK hP 0 rfl rfl 0 (by decide) (hg _ m_423) (fun _ h9 => h9) rfl dX5_dropWord_1 ?_
  refine lv_iload_n hx hb dX5_dropWord_4 rfl (lv_at hl 1 rfl) ?_
  refine lv_bipush (v := 11) hx hb dX5_dropWord_5 (by decide) ?_
  refine lv_imul hx hb dX5_dropWord_7 ?_
  refine lv_topi (fun y_1 hy_1 => ?_)
  obtain rfl : y_1 = 11 := hy_1.trans (by decide +kernel)
  refine va_iald hx hb hK hP 1 1 rfl rfl (by unfold vp_in; decide) dX5_dropWord_8 ?_
  refine lv_topi (fun y_2 hy_2 => ?_)
  obtain rfl : y_2 = nI le := hy_2.trans hle
  refine lv_istore_n (lv' := [(2, .int (nI le)), (0, .ref n0), (1, .int 1)]) hx hb dX5_dropWord_9 rfl hl (by decide) rfl (fun ls hl => ?_)
  refine lv_aload_n hx hb dX5_dropWord_10 rfl (lv_at hl 1 rfl) ?_
  refine va_get (D := D) (ci := 5) (v := .ref n1) (C := RX5) (T := TX5) (N := 7) hx hb hg i_X5 hown hK hP 0 rfl rfl 0 (by decide) (hg _ m_423) (fun _ h9 => h9) rfl dX5_dropWord_11 ?_
  refine lv_iload_n hx hb dX5_dropWord_14 rfl (lv_at hl 2 rfl) ?_
  refine lv_bipush (v := 11) hx hb dX5_dropWord_15 (by decide) ?_
  refine lv_imul hx hb dX5_dropWord_17 ?_
  refine lv_topi (fun y_3 hy_3 => ?_)
  obtain rfl : y_3 = 11 := hy_3.trans (by decide +kernel)
  refine lv_iload_n hx hb dX5_dropWord_18 rfl (lv_at hl 0 rfl) ?_
  refine lv_iadd hx hb dX5_dropWord_19 ?_
  refine lv_topi (fun y_4 hy_4 => ?_)
  obtain rfl : y_4 = nI (11 + le) := hy_4.trans (nI_add 11 le)
  refine va_iald hx hb hK hP 1 1 rfl rfl (vp_in_nI (by omega) (by decide)) dX5_dropWord_20 ?_
  obtain ⟨j_5, hj_5, ej_5⟩ := m_wordAt hno (k := (11 + le)) (by omega)
  refine lv_topi (fun y_6 hy_6 => ?_)
  obtain rfl : y_6 = nI j_5 := hy_6.trans ej_5
  refine lv_istore_n (lv' := [(3, .int (nI j_5)), (2, .int (nI le)), (0, .ref n0), (1, .int 1)]) hx hb dX5_dropWord_21 rfl hl (by decide) rfl (fun ls hl => ?_)
  refine lv_aload_n hx hb dX5_dropWord_22 rfl (lv_at hl 2 rfl) ?_
  refine va_get (D := D) (ci := 5) (v := .ref n1) (C := RX5) (T := TX5) (N := 7) hx hb hg i_X5 hown hK hP 0 rfl rfl 0 (by decide) (hg _ m_423) (fun _ h9 => h9) rfl dX5_dropWord_23 ?_
  refine lv_iload_n hx hb dX5_dropWord_26 rfl (lv_at hl 3 rfl) ?_
  refine lv_bipush (v := 11) hx hb dX5_dropWord_27 (by decide) ?_
  refine lv_imul hx hb dX5_dropWord_29 ?_
  refine lv_topi (fun y_7 hy_7 => ?_)
  obtain rfl : y_7 = 11 := hy_7.trans (by decide +kernel)
  refine lv_iload_n hx hb dX5_dropWord_30 rfl (lv_at hl 1 rfl) ?_
  refine lv_iconst (v := 1) hx hb dX5_dropWord_31 (by decide) ?_
  refine lv_isub hx hb dX5_dropWord_32 ?_
  refine lv_topi (fun y_8 hy_8 => ?_)
  obtain rfl : y_8 = nI (le - 1) := hy_8.trans (pk_sub (a := le) (b := 1) (by omega))
  refine va_iast hx hb hK hP hD hS 1 1 rfl rfl (by unfold vp_in; decide) dX5_dropWord_33 (fun H locs hP9 hD9 hS9 => ?_)
  clear hP hD hS
  have hP := hP9
  have hD := hD9
  have hS := hS9
  clear hP9 hD9 hS9
  obtain ⟨g_9, eg_9⟩ : ∃ y, upd fn (11 : Int32).toNatClampNeg (nI (le - 1)) = y := ⟨_, rfl⟩
  rw [eg_9] at hP hD
  have hr_10 : mRows g_9 1 := eg_9 ▸ m_len (k := 11) (a := (le - 1)) hno (by omega) (by omega)
  replace hP : va_P D vwCl [wO n0 5 [.ref n1, .ref n2, .ref n3, .int fu, .int (nI cu), .int (nI un), .int (nI re)], wI (cy 1) n1 41 (g_9), wI (cy 1) n2 1681 (fq)] H := hP
  replace hD : va_D A [wO n0 5 [.ref n1, .ref n2, .ref n3, .int fu, .int (nI cu), .int (nI un), .int (nI re)], wI (cy 1) n1 41 (g_9), wI (cy 1) n2 1681 (fq)] := hD
  refine lv_aload_n hx hb dX5_dropWord_34 rfl (lv_at hl 2 rfl) ?_
  refine x_callVv (q := (RX5, TX5, 7)) (ci := 5) (q0 := 0) (wr := []) (rest := []) ⟨hx, hb, hml, hown, hg, hl.1⟩ k_X5_67 (s_keepAct l D cy n0 n1 n2 n3 fu cu un re g_9 fq (by omega) (by omega) (hr_10) (hro)) E0_blind hK hP hD hS hA [0, 1, 2] [] ⟨rfl, rfl, by decide +kernel, by decide +kernel, by decide +kernel⟩ rfl rfl (fun _ _ _ => trivial) dX5_dropWord_35 rfl rfl (Nat.le_of_ble_eq_true rfl) ⟨Nat.le_of_ble_eq_true rfl, Nat.le_of_ble_eq_true rfl⟩ ⟨Nat.le_of_ble_eq_true rfl, Nat.le_of_ble_eq_true rfl⟩ (fun zu11 H locs hw11 hP9 hD9 hS9 => ?_)
  clear hP hD hS
  obtain ⟨cu2_12, un2_13, re2_14, fq2_15⟩ := zu11
  refine reW [wO n0 5 [.ref n1, .ref n2, .ref n3, .int fu, .int (nI cu2_12), .int (nI un2_13), .int (nI re2_14)], wI (cy 1) n1 41 (g_9), wI (cy 1) n2 1681 (fq2_15)] hP9 hD9 hS9 (fun hP hD hS => ?_)
  clear hP9 hD9 hS9
  refine W.widen (k := 0) (n := 0) (Nat.le_of_ble_eq_true rfl) (Nat.le_of_ble_eq_true rfl) ?_
  replace hw11 : (cu2_12 ≤ 40) ∧ (un2_13 + re2_14 ≤ 40) ∧ (mRows fq2_15 41) ∧ (actC g_9 fq cu un fq2_15 cu2_12 un2_13 re2_14) := hw11
  obtain ⟨f_16, f_17, f_18, f_19⟩ := hw11
  refine lv_iload_n hx hb dX5_dropWord_38 rfl (lv_at hl 0 rfl) ?_
  exact x_iret hQ hx hb hr hlocks hK hP hD hS dX5_dropWord_39 (cu2_12, un2_13, re2_14, fq2_15, g_9, j_5) (⟨rfl, (show j_5 ≤ 7 from by omega), (show cu2_12 ≤ 40 from by omega), (show un2_13 + re2_14 ≤ 40 from by omega), f_18, hr_10, f_19, ⟨eg_9.symm, ld_at (by omega) ej_5.symm⟩⟩) [0, 1, 2] (by decide +kernel) rfl (Nat.le_of_ble_eq_true rfl) (Nat.le_of_ble_eq_true rfl)
theorem gdX5_verdicts_0 : decode cX5_verdicts 0 = .ok (.aload_n 0, 1) ∧ decode cX5_verdicts 1 = .ok (.getfield 11, 3) ∧ decode cX5_verdicts 4 = .ok (.bipush 29, 2) ∧ decode cX5_verdicts 6 = .ok (.iconst 3, 1) ∧ decode cX5_verdicts 7 = .ok (.iload_n 1, 1) ∧ decode cX5_verdicts 8 = .ok (.imul, 1) ∧ decode cX5_verdicts 9 = .ok (.iadd, 1) ∧ decode cX5_verdicts 10 = .ok (.iload_n 2, 1) ∧ decode cX5_verdicts 11 = .ok (.iadd, 1) ∧ decode cX5_verdicts 12 = .ok (.iaload, 1) ∧ decode cX5_verdicts 13 = .ok (.ireturn, 1) := by decide +kernel
theorem dX5_verdicts_0 : decode cX5_verdicts 0 = .ok (.aload_n 0, 1) := gdX5_verdicts_0.1
theorem dX5_verdicts_1 : decode cX5_verdicts 1 = .ok (.getfield 11, 3) := gdX5_verdicts_0.2.1
theorem dX5_verdicts_4 : decode cX5_verdicts 4 = .ok (.bipush 29, 2) := gdX5_verdicts_0.2.2.1
theorem dX5_verdicts_6 : decode cX5_verdicts 6 = .ok (.iconst 3, 1) := gdX5_verdicts_0.2.2.2.1
theorem dX5_verdicts_7 : decode cX5_verdicts 7 = .ok (.iload_n 1, 1) := gdX5_verdicts_0.2.2.2.2.1
theorem dX5_verdicts_8 : decode cX5_verdicts 8 = .ok (.imul, 1) := gdX5_verdicts_0.2.2.2.2.2.1
theorem dX5_verdicts_9 : decode cX5_verdicts 9 = .ok (.iadd, 1) := gdX5_verdicts_0.2.2.2.2.2.2.1
theorem dX5_verdicts_10 : decode cX5_verdicts 10 = .ok (.iload_n 2, 1) := gdX5_verdicts_0.2.2.2.2.2.2.2.1
theorem dX5_verdicts_11 : decode cX5_verdicts 11 = .ok (.iadd, 1) := gdX5_verdicts_0.2.2.2.2.2.2.2.2.1
theorem dX5_verdicts_12 : decode cX5_verdicts 12 = .ok (.iaload, 1) := gdX5_verdicts_0.2.2.2.2.2.2.2.2.2.1
theorem dX5_verdicts_13 : decode cX5_verdicts 13 = .ok (.ireturn, 1) := gdX5_verdicts_0.2.2.2.2.2.2.2.2.2.2
set_option maxHeartbeats 1000000 in
set_option maxRecDepth 100000 in
theorem s_verdicts0 (l : Launch) (D : va_G) (cy : Nat → ClassId) (n0 : Nat) (n1 : Nat) (n2 : Nat) (n3 : Nat) (fu : Int32) (cu : Nat) (un : Nat) (re : Nat) (fn : Nat → Int32) (j : Nat) (hj : j < 4) : XMi l D (tyL cy) E0 yX5_verdicts cX5_verdicts 3 (some .int) (rmk 0 0 0) [.ref n0, .int (nI j), .int 0] [wO n0 5 [.ref n1, .ref n2, .ref n3, .int fu, .int (nI cu), .int (nI un), .int (nI re)], wI (cy 1) n1 41 (fn)] (fun (r : Int32) (_ : Unit) => True) (fun (_ : Unit) => [wO n0 5 [.ref n1, .ref n2, .ref n3, .int fu, .int (nI cu), .int (nI un), .int (nI re)], wI (cy 1) n1 41 (fn)]) := by
  refine XMi.start (by decide) (Nat.le_of_ble_eq_true rfl) ?_
  intro p e s m below meth c args A ls Q hat hQ
  obtain ⟨hx, hb, hr, hml, hown, hg, hlocks, hin, hK, hA, hP, hD, hS, hE, hl⟩ := hat
  have hown : s.vm.findClass RX5 = some m.cls := hown
  have hl : lv_has ls 3 [(0, .ref n0), (1, .int (nI j)), (2, .int 0)] := hl
  refine lv_aload_n hx hb dX5_verdicts_0 rfl (lv_at hl 0 rfl) ?_
  refine va_get (D := D) (ci := 5) (v := .ref n1) (C := RX5) (T := TX5) (N := 7) hx hb hg i_X5 hown hK hP 0 rfl rfl 0 (by decide) (hg _ m_423) (fun _ h9 => h9) rfl dX5_verdicts_1 ?_
  refine lv_bipush (v := 29) hx hb dX5_verdicts_4 (by decide) ?_
  refine lv_iconst (v := 3) hx hb dX5_verdicts_6 (by decide) ?_
  refine lv_iload_n hx hb dX5_verdicts_7 rfl (lv_at hl 1 rfl) ?_
  refine lv_imul hx hb dX5_verdicts_8 ?_
  refine lv_topi (fun y_1 hy_1 => ?_)
  obtain rfl : y_1 = nI (3 * j) := hy_1.trans (pk_mul 3 j)
  refine lv_iadd hx hb dX5_verdicts_9 ?_
  refine lv_topi (fun y_2 hy_2 => ?_)
  obtain rfl : y_2 = nI (29 + (3 * j)) := hy_2.trans (nI_add 29 ((3 * j)))
  refine lv_iload_n hx hb dX5_verdicts_10 rfl (lv_at hl 2 rfl) ?_
  refine lv_iadd hx hb dX5_verdicts_11 ?_
  refine lv_topi (fun y_3 hy_3 => ?_)
  obtain rfl : y_3 = nI ((29 + (3 * j)) + 0) := hy_3.trans (nI_add ((29 + (3 * j))) 0)
  refine va_iald hx hb hK hP 1 1 rfl rfl (vp_in_nI (by omega) (by decide)) dX5_verdicts_12 ?_
  refine lv_topi (fun x_4 ex_4 => ?_)
  exact x_iret hQ hx hb hr hlocks hK hP hD hS dX5_verdicts_13 () (trivial) [0, 1] (by decide +kernel) rfl (Nat.le_of_ble_eq_true rfl) (Nat.le_of_ble_eq_true rfl)
set_option maxHeartbeats 1000000 in
set_option maxRecDepth 100000 in
theorem s_verdicts1 (l : Launch) (D : va_G) (cy : Nat → ClassId) (n0 : Nat) (n1 : Nat) (n2 : Nat) (n3 : Nat) (fu : Int32) (cu : Nat) (un : Nat) (re : Nat) (fn : Nat → Int32) (j : Nat) (hj : j < 4) : XMi l D (tyL cy) E0 yX5_verdicts cX5_verdicts 3 (some .int) (rmk 0 0 0) [.ref n0, .int (nI j), .int 1] [wO n0 5 [.ref n1, .ref n2, .ref n3, .int fu, .int (nI cu), .int (nI un), .int (nI re)], wI (cy 1) n1 41 (fn)] (fun (r : Int32) (_ : Unit) => True) (fun (_ : Unit) => [wO n0 5 [.ref n1, .ref n2, .ref n3, .int fu, .int (nI cu), .int (nI un), .int (nI re)], wI (cy 1) n1 41 (fn)]) := by
  refine XMi.start (by decide) (Nat.le_of_ble_eq_true rfl) ?_
  intro p e s m below meth c args A ls Q hat hQ
  obtain ⟨hx, hb, hr, hml, hown, hg, hlocks, hin, hK, hA, hP, hD, hS, hE, hl⟩ := hat
  have hown : s.vm.findClass RX5 = some m.cls := hown
  have hl : lv_has ls 3 [(0, .ref n0), (1, .int (nI j)), (2, .int 1)] := hl
  refine lv_aload_n hx hb dX5_verdicts_0 rfl (lv_at hl 0 rfl) ?_
  refine va_get (D := D) (ci := 5) (v := .ref n1) (C := RX5) (T := TX5) (N := 7) hx hb hg i_X5 hown hK hP 0 rfl rfl 0 (by decide) (hg _ m_423) (fun _ h9 => h9) rfl dX5_verdicts_1 ?_
  refine lv_bipush (v := 29) hx hb dX5_verdicts_4 (by decide) ?_
  refine lv_iconst (v := 3) hx hb dX5_verdicts_6 (by decide) ?_
  refine lv_iload_n hx hb dX5_verdicts_7 rfl (lv_at hl 1 rfl) ?_
  refine lv_imul hx hb dX5_verdicts_8 ?_
  refine lv_topi (fun y_1 hy_1 => ?_)
  obtain rfl : y_1 = nI (3 * j) := hy_1.trans (pk_mul 3 j)
  refine lv_iadd hx hb dX5_verdicts_9 ?_
  refine lv_topi (fun y_2 hy_2 => ?_)
  obtain rfl : y_2 = nI (29 + (3 * j)) := hy_2.trans (nI_add 29 ((3 * j)))
  refine lv_iload_n hx hb dX5_verdicts_10 rfl (lv_at hl 2 rfl) ?_
  refine lv_iadd hx hb dX5_verdicts_11 ?_
  refine lv_topi (fun y_3 hy_3 => ?_)
  obtain rfl : y_3 = nI ((29 + (3 * j)) + 1) := hy_3.trans (nI_add ((29 + (3 * j))) 1)
  refine va_iald hx hb hK hP 1 1 rfl rfl (vp_in_nI (by omega) (by decide)) dX5_verdicts_12 ?_
  refine lv_topi (fun x_4 ex_4 => ?_)
  exact x_iret hQ hx hb hr hlocks hK hP hD hS dX5_verdicts_13 () (trivial) [0, 1] (by decide +kernel) rfl (Nat.le_of_ble_eq_true rfl) (Nat.le_of_ble_eq_true rfl)
set_option maxHeartbeats 1000000 in
set_option maxRecDepth 100000 in
theorem s_verdicts2 (l : Launch) (D : va_G) (cy : Nat → ClassId) (n0 : Nat) (n1 : Nat) (n2 : Nat) (n3 : Nat) (fu : Int32) (cu : Nat) (un : Nat) (re : Nat) (fn : Nat → Int32) (j : Nat) (hj : j < 4) : XMi l D (tyL cy) E0 yX5_verdicts cX5_verdicts 3 (some .int) (rmk 0 0 0) [.ref n0, .int (nI j), .int 2] [wO n0 5 [.ref n1, .ref n2, .ref n3, .int fu, .int (nI cu), .int (nI un), .int (nI re)], wI (cy 1) n1 41 (fn)] (fun (r : Int32) (_ : Unit) => True) (fun (_ : Unit) => [wO n0 5 [.ref n1, .ref n2, .ref n3, .int fu, .int (nI cu), .int (nI un), .int (nI re)], wI (cy 1) n1 41 (fn)]) := by
  refine XMi.start (by decide) (Nat.le_of_ble_eq_true rfl) ?_
  intro p e s m below meth c args A ls Q hat hQ
  obtain ⟨hx, hb, hr, hml, hown, hg, hlocks, hin, hK, hA, hP, hD, hS, hE, hl⟩ := hat
  have hown : s.vm.findClass RX5 = some m.cls := hown
  have hl : lv_has ls 3 [(0, .ref n0), (1, .int (nI j)), (2, .int 2)] := hl
  refine lv_aload_n hx hb dX5_verdicts_0 rfl (lv_at hl 0 rfl) ?_
  refine va_get (D := D) (ci := 5) (v := .ref n1) (C := RX5) (T := TX5) (N := 7) hx hb hg i_X5 hown hK hP 0 rfl rfl 0 (by decide) (hg _ m_423) (fun _ h9 => h9) rfl dX5_verdicts_1 ?_
  refine lv_bipush (v := 29) hx hb dX5_verdicts_4 (by decide) ?_
  refine lv_iconst (v := 3) hx hb dX5_verdicts_6 (by decide) ?_
  refine lv_iload_n hx hb dX5_verdicts_7 rfl (lv_at hl 1 rfl) ?_
  refine lv_imul hx hb dX5_verdicts_8 ?_
  refine lv_topi (fun y_1 hy_1 => ?_)
  obtain rfl : y_1 = nI (3 * j) := hy_1.trans (pk_mul 3 j)
  refine lv_iadd hx hb dX5_verdicts_9 ?_
  refine lv_topi (fun y_2 hy_2 => ?_)
  obtain rfl : y_2 = nI (29 + (3 * j)) := hy_2.trans (nI_add 29 ((3 * j)))
  refine lv_iload_n hx hb dX5_verdicts_10 rfl (lv_at hl 2 rfl) ?_
  refine lv_iadd hx hb dX5_verdicts_11 ?_
  refine lv_topi (fun y_3 hy_3 => ?_)
  obtain rfl : y_3 = nI ((29 + (3 * j)) + 2) := hy_3.trans (nI_add ((29 + (3 * j))) 2)
  refine va_iald hx hb hK hP 1 1 rfl rfl (vp_in_nI (by omega) (by decide)) dX5_verdicts_12 ?_
  refine lv_topi (fun x_4 ex_4 => ?_)
  exact x_iret hQ hx hb hr hlocks hK hP hD hS dX5_verdicts_13 () (trivial) [0, 1] (by decide +kernel) rfl (Nat.le_of_ble_eq_true rfl) (Nat.le_of_ble_eq_true rfl)
theorem gdX5_countVerdict_0 : decode cX5_countVerdict 0 = .ok (.aload_n 0, 1) ∧ decode cX5_countVerdict 1 = .ok (.getfield 11, 3) ∧ decode cX5_countVerdict 4 = .ok (.bipush 29, 2) ∧ decode cX5_countVerdict 6 = .ok (.iconst 3, 1) ∧ decode cX5_countVerdict 7 = .ok (.iload_n 1, 1) ∧ decode cX5_countVerdict 8 = .ok (.imul, 1) ∧ decode cX5_countVerdict 9 = .ok (.iadd, 1) ∧ decode cX5_countVerdict 10 = .ok (.iload_n 2, 1) ∧ decode cX5_countVerdict 11 = .ok (.iadd, 1) ∧ decode cX5_countVerdict 12 = .ok (.dup2, 1) ∧ decode cX5_countVerdict 13 = .ok (.iaload, 1) ∧ decode cX5_countVerdict 14 = .ok (.iconst 1, 1) := by decide +kernel
theorem dX5_countVerdict_0 : decode cX5_countVerdict 0 = .ok (.aload_n 0, 1) := gdX5_countVerdict_0.1
theorem dX5_countVerdict_1 : decode cX5_countVerdict 1 = .ok (.getfield 11, 3) := gdX5_countVerdict_0.2.1
theorem dX5_countVerdict_4 : decode cX5_countVerdict 4 = .ok (.bipush 29, 2) := gdX5_countVerdict_0.2.2.1
theorem dX5_countVerdict_6 : decode cX5_countVerdict 6 = .ok (.iconst 3, 1) := gdX5_countVerdict_0.2.2.2.1
theorem dX5_countVerdict_7 : decode cX5_countVerdict 7 = .ok (.iload_n 1, 1) := gdX5_countVerdict_0.2.2.2.2.1
theorem dX5_countVerdict_8 : decode cX5_countVerdict 8 = .ok (.imul, 1) := gdX5_countVerdict_0.2.2.2.2.2.1
theorem dX5_countVerdict_9 : decode cX5_countVerdict 9 = .ok (.iadd, 1) := gdX5_countVerdict_0.2.2.2.2.2.2.1
theorem dX5_countVerdict_10 : decode cX5_countVerdict 10 = .ok (.iload_n 2, 1) := gdX5_countVerdict_0.2.2.2.2.2.2.2.1
theorem dX5_countVerdict_11 : decode cX5_countVerdict 11 = .ok (.iadd, 1) := gdX5_countVerdict_0.2.2.2.2.2.2.2.2.1
theorem dX5_countVerdict_12 : decode cX5_countVerdict 12 = .ok (.dup2, 1) := gdX5_countVerdict_0.2.2.2.2.2.2.2.2.2.1
theorem dX5_countVerdict_13 : decode cX5_countVerdict 13 = .ok (.iaload, 1) := gdX5_countVerdict_0.2.2.2.2.2.2.2.2.2.2.1
theorem dX5_countVerdict_14 : decode cX5_countVerdict 14 = .ok (.iconst 1, 1) := gdX5_countVerdict_0.2.2.2.2.2.2.2.2.2.2.2
theorem gdX5_countVerdict_15 : decode cX5_countVerdict 15 = .ok (.iadd, 1) ∧ decode cX5_countVerdict 16 = .ok (.iastore, 1) ∧ decode cX5_countVerdict 17 = .ok (.aload_n 0, 1) ∧ decode cX5_countVerdict 18 = .ok (.invokevirtual 67, 3) ∧ decode cX5_countVerdict 21 = .ok (.return_, 1) := by decide +kernel
theorem dX5_countVerdict_15 : decode cX5_countVerdict 15 = .ok (.iadd, 1) := gdX5_countVerdict_15.1
theorem dX5_countVerdict_16 : decode cX5_countVerdict 16 = .ok (.iastore, 1) := gdX5_countVerdict_15.2.1
theorem dX5_countVerdict_17 : decode cX5_countVerdict 17 = .ok (.aload_n 0, 1) := gdX5_countVerdict_15.2.2.1
theorem dX5_countVerdict_18 : decode cX5_countVerdict 18 = .ok (.invokevirtual 67, 3) := gdX5_countVerdict_15.2.2.2.1
theorem dX5_countVerdict_21 : decode cX5_countVerdict 21 = .ok (.return_, 1) := gdX5_countVerdict_15.2.2.2.2
set_option maxHeartbeats 1000000 in
set_option maxRecDepth 100000 in
theorem s_countVerdict (l : Launch) (D : va_G) (cy : Nat → ClassId) (n0 : Nat) (n1 : Nat) (n2 : Nat) (n3 : Nat) (fu : Int32) (cu : Nat) (un : Nat) (re : Nat) (fn : Nat → Int32) (fq : Nat → Int32) (j : Nat) (vd : Nat) (hcu : cu ≤ 40) (hur : un + re ≤ 40) (hno : mRows fn 1) (hro : mRows fq 41) (hj : j < 4) (hvd : vd ≤ 2) : XMv l D (tyL cy) E0 yX5_countVerdict cX5_countVerdict 3 none (rmk 2 0 0) [.ref n0, .int (nI j), .int (nI vd)] [wO n0 5 [.ref n1, .ref n2, .ref n3, .int fu, .int (nI cu), .int (nI un), .int (nI re)], wI (cy 1) n1 41 (fn), wI (cy 1) n2 1681 (fq)] (fun (u : Nat × Nat × Nat × (Nat → Int32) × (Nat → Int32)) => (u.1 ≤ 40) ∧ (u.2.1 + u.2.2.1 ≤ 40) ∧ (mRows u.2.2.2.1 41) ∧ (mRows u.2.2.2.2 1) ∧ (actC u.2.2.2.2 fq cu un u.2.2.2.1 u.1 u.2.1 u.2.2.1) ∧ (∃ x9 : Int32, u.2.2.2.2 = upd fn (29 + 3 * j + vd) x9)) (fun (u : Nat × Nat × Nat × (Nat → Int32) × (Nat → Int32)) => [wO n0 5 [.ref n1, .ref n2, .ref n3, .int fu, .int (nI u.1), .int (nI u.2.1), .int (nI u.2.2.1)], wI (cy 1) n1 41 (u.2.2.2.2), wI (cy 1) n2 1681 (u.2.2.2.1)]) := by
  refine XMv.start (by decide) (Nat.le_of_ble_eq_true rfl) ?_
  intro p e s m below meth c args A ls Q hat hQ
  obtain ⟨hx, hb, hr, hml, hown, hg, hlocks, hin, hK, hA, hP, hD, hS, hE, hl⟩ := hat
  have hown : s.vm.findClass RX5 = some m.cls := hown
  have hl : lv_has ls 3 [(0, .ref n0), (1, .int (nI j)), (2, .int (nI vd))] := hl
  refine lv_aload_n hx hb dX5_countVerdict_0 rfl (lv_at hl 0 rfl) ?_
  refine va_get (D := D) (ci := 5) (v := .ref n1) (C := RX5) (T := TX5) (N := 7) hx hb hg i_X5 hown hK hP 0 rfl rfl 0 (by decide) (hg _ m_423) (fun _ h9 => h9) rfl dX5_countVerdict_1 ?_
  refine lv_bipush (v := 29) hx hb dX5_countVerdict_4 (by decide) ?_
  refine lv_iconst (v := 3) hx hb dX5_countVerdict_6 (by decide) ?_
  refine lv_iload_n hx hb dX5_countVerdict_7 rfl (lv_at hl 1 rfl) ?_
  refine lv_imul hx hb dX5_countVerdict_8 ?_
  refine lv_topi (fun y_1 hy_1 => ?_)
  obtain rfl : y_1 = nI (3 * j) := hy_1.trans (pk_mul 3 j)
  refine lv_iadd hx hb dX5_countVerdict_9 ?_
  refine lv_topi (fun y_2 hy_2 => ?_)
  obtain rfl : y_2 = nI (29 + (3 * j)) := hy_2.trans (nI_add 29 ((3 * j)))
  refine lv_iload_n hx hb dX5_countVerdict_10 rfl (lv_at hl 2 rfl) ?_
  refine lv_iadd hx hb dX5_countVerdict_11 ?_
  refine lv_topi (fun y_3 hy_3 => ?_)
  obtain rfl : y_3 = nI ((29 + (3 * j)) + vd) := hy_3.trans (nI_add ((29 + (3 * j))) vd)
  refine lv_dup2_11 hx hb dX5_countVerdict_12 rfl rfl ?_
  refine va_iald hx hb hK hP 1 1 rfl rfl (vp_in_nI (by omega) (by decide)) dX5_countVerdict_13 ?_
  refine lv_topi (fun x_4 ex_4 => ?_)
  refine lv_iconst (v := 1) hx hb dX5_countVerdict_14 (by decide) ?_
  refine lv_iadd hx hb dX5_countVerdict_15 ?_
  refine lv_topi (fun x_5 ex_5 => ?_)
  refine va_iast hx hb hK hP hD hS 1 1 rfl rfl (vp_in_nI (by omega) (by decide)) dX5_countVerdict_16 (fun H locs hP9 hD9 hS9 => ?_)
  clear hP hD hS
  have hP := hP9
  have hD := hD9
  have hS := hS9
  clear hP9 hD9 hS9
  obtain ⟨g_6, eg_6⟩ : ∃ y, upd fn (nI ((29 + (3 * j)) + vd) : Int32).toNatClampNeg x_5 = y := ⟨_, rfl⟩
  rw [eg_6] at hP hD
  have hr_7 : mRows g_6 1 := eg_6 ▸ m_restN hno (by omega) (by omega)
  replace hP : va_P D vwCl [wO n0 5 [.ref n1, .ref n2, .ref n3, .int fu, .int (nI cu), .int (nI un), .int (nI re)], wI (cy 1) n1 41 (g_6), wI (cy 1) n2 1681 (fq)] H := hP
  replace hD : va_D A [wO n0 5 [.ref n1, .ref n2, .ref n3, .int fu, .int (nI cu), .int (nI un), .int (nI re)], wI (cy 1) n1 41 (g_6), wI (cy 1) n2 1681 (fq)] := hD
  refine lv_aload_n hx hb dX5_countVerdict_17 rfl (lv_at hl 0 rfl) ?_
  refine x_callVv (q := (RX5, TX5, 7)) (ci := 5) (q0 := 0) (wr := []) (rest := []) ⟨hx, hb, hml, hown, hg, hl.1⟩ k_X5_67 (s_keepAct l D cy n0 n1 n2 n3 fu cu un re g_6 fq (by omega) (by omega) (hr_7) (hro)) E0_blind hK hP hD hS hA [0, 1, 2] [] ⟨rfl, rfl, by decide +kernel, by decide +kernel, by decide +kernel⟩ rfl rfl (fun _ _ _ => trivial) dX5_countVerdict_18 rfl rfl (Nat.le_of_ble_eq_true rfl) ⟨Nat.le_of_ble_eq_true rfl, Nat.le_of_ble_eq_true rfl⟩ ⟨Nat.le_of_ble_eq_true rfl, Nat.le_of_ble_eq_true rfl⟩ (fun zu8 H locs hw8 hP9 hD9 hS9 => ?_)
  clear hP hD hS
  obtain ⟨cu2_9, un2_10, re2_11, fq2_12⟩ := zu8
  refine reW [wO n0 5 [.ref n1, .ref n2, .ref n3, .int fu, .int (nI cu2_9), .int (nI un2_10), .int (nI re2_11)], wI (cy 1) n1 41 (g_6), wI (cy 1) n2 1681 (fq2_12)] hP9 hD9 hS9 (fun hP hD hS => ?_)
  clear hP9 hD9 hS9
  refine W.widen (k := 0) (n := 0) (Nat.le_of_ble_eq_true rfl) (Nat.le_of_ble_eq_true rfl) ?_
  replace hw8 : (cu2_9 ≤ 40) ∧ (un2_10 + re2_11 ≤ 40) ∧ (mRows fq2_12 41) ∧ (actC g_6 fq cu un fq2_12 cu2_9 un2_10 re2_11) := hw8
  obtain ⟨f_13, f_14, f_15, f_16⟩ := hw8
  exact x_vret hQ hx hb hr hlocks hK hP hD hS dX5_countVerdict_21 (cu2_9, un2_10, re2_11, fq2_12, g_6) (⟨(show cu2_9 ≤ 40 from by omega), (show un2_10 + re2_11 ≤ 40 from by omega), f_15, hr_7, f_16, ⟨_, upd_at (by omega) eg_6⟩⟩) [0, 1, 2] (by decide +kernel) rfl (Nat.le_of_ble_eq_true rfl) (Nat.le_of_ble_eq_true rfl)
theorem gdX5_clearLedge_0 : decode cX5_clearLedge 0 = .ok (.aload_n 0, 1) ∧ decode cX5_clearLedge 1 = .ok (.getfield 11, 3) ∧ decode cX5_clearLedge 4 = .ok (.bipush 25, 2) ∧ decode cX5_clearLedge 6 = .ok (.iload_n 1, 1) ∧ decode cX5_clearLedge 7 = .ok (.iadd, 1) ∧ decode cX5_clearLedge 8 = .ok (.iaload, 1) ∧ decode cX5_clearLedge 9 = .ok (.istore_n 2, 1) ∧ decode cX5_clearLedge 10 = .ok (.aload_n 0, 1) ∧ decode cX5_clearLedge 11 = .ok (.getfield 11, 3) ∧ decode cX5_clearLedge 14 = .ok (.bipush 25, 2) ∧ decode cX5_clearLedge 16 = .ok (.iload_n 1, 1) ∧ decode cX5_clearLedge 17 = .ok (.iadd, 1) := by decide +kernel
theorem dX5_clearLedge_0 : decode cX5_clearLedge 0 = .ok (.aload_n 0, 1) := gdX5_clearLedge_0.1
theorem dX5_clearLedge_1 : decode cX5_clearLedge 1 = .ok (.getfield 11, 3) := gdX5_clearLedge_0.2.1
theorem dX5_clearLedge_4 : decode cX5_clearLedge 4 = .ok (.bipush 25, 2) := gdX5_clearLedge_0.2.2.1
theorem dX5_clearLedge_6 : decode cX5_clearLedge 6 = .ok (.iload_n 1, 1) := gdX5_clearLedge_0.2.2.2.1
theorem dX5_clearLedge_7 : decode cX5_clearLedge 7 = .ok (.iadd, 1) := gdX5_clearLedge_0.2.2.2.2.1
theorem dX5_clearLedge_8 : decode cX5_clearLedge 8 = .ok (.iaload, 1) := gdX5_clearLedge_0.2.2.2.2.2.1
theorem dX5_clearLedge_9 : decode cX5_clearLedge 9 = .ok (.istore_n 2, 1) := gdX5_clearLedge_0.2.2.2.2.2.2.1
theorem dX5_clearLedge_10 : decode cX5_clearLedge 10 = .ok (.aload_n 0, 1) := gdX5_clearLedge_0.2.2.2.2.2.2.2.1
theorem dX5_clearLedge_11 : decode cX5_clearLedge 11 = .ok (.getfield 11, 3) := gdX5_clearLedge_0.2.2.2.2.2.2.2.2.1
theorem dX5_clearLedge_14 : decode cX5_clearLedge 14 = .ok (.bipush 25, 2) := gdX5_clearLedge_0.2.2.2.2.2.2.2.2.2.1
theorem dX5_clearLedge_16 : decode cX5_clearLedge 16 = .ok (.iload_n 1, 1) := gdX5_clearLedge_0.2.2.2.2.2.2.2.2.2.2.1
theorem dX5_clearLedge_17 : decode cX5_clearLedge 17 = .ok (.iadd, 1) := gdX5_clearLedge_0.2.2.2.2.2.2.2.2.2.2.2
theorem gdX5_clearLedge_18 : decode cX5_clearLedge 18 = .ok (.iconst 0, 1) ∧ decode cX5_clearLedge 19 = .ok (.iastore, 1) ∧ decode cX5_clearLedge 20 = .ok (.aload_n 0, 1) ∧ decode cX5_clearLedge 21 = .ok (.invokevirtual 67, 3) ∧ decode cX5_clearLedge 24 = .ok (.iload_n 2, 1) ∧ decode cX5_clearLedge 25 = .ok (.ireturn, 1) := by decide +kernel
theorem dX5_clearLedge_18 : decode cX5_clearLedge 18 = .ok (.iconst 0, 1) := gdX5_clearLedge_18.1
theorem dX5_clearLedge_19 : decode cX5_clearLedge 19 = .ok (.iastore, 1) := gdX5_clearLedge_18.2.1
theorem dX5_clearLedge_20 : decode cX5_clearLedge 20 = .ok (.aload_n 0, 1) := gdX5_clearLedge_18.2.2.1
theorem dX5_clearLedge_21 : decode cX5_clearLedge 21 = .ok (.invokevirtual 67, 3) := gdX5_clearLedge_18.2.2.2.1
theorem dX5_clearLedge_24 : decode cX5_clearLedge 24 = .ok (.iload_n 2, 1) := gdX5_clearLedge_18.2.2.2.2.1
theorem dX5_clearLedge_25 : decode cX5_clearLedge 25 = .ok (.ireturn, 1) := gdX5_clearLedge_18.2.2.2.2.2
set_option maxHeartbeats 1000000 in
set_option maxRecDepth 100000 in
theorem s_clearLedge (l : Launch) (D : va_G) (cy : Nat → ClassId) (n0 : Nat) (n1 : Nat) (n2 : Nat) (n3 : Nat) (fu : Int32) (cu : Nat) (un : Nat) (re : Nat) (fn : Nat → Int32) (fq : Nat → Int32) (j : Nat) (hcu : cu ≤ 40) (hur : un + re ≤ 40) (hno : mRows fn 1) (hro : mRows fq 41) (hj : j < 4) : XMi l D (tyL cy) E0 yX5_clearLedge cX5_clearLedge 3 (some .int) (rmk 2 0 0) [.ref n0, .int (nI j)] [wO n0 5 [.ref n1, .ref n2, .ref n3, .int fu, .int (nI cu), .int (nI un), .int (nI re)], wI (cy 1) n1 41 (fn), wI (cy 1) n2 1681 (fq)] (fun (r : Int32) (u : Nat × Nat × Nat × (Nat → Int32) × (Nat → Int32)) => (u.1 ≤ 40) ∧ (u.2.1 + u.2.2.1 ≤ 40) ∧ (mRows u.2.2.2.1 41) ∧ (mRows u.2.2.2.2 1) ∧ (actC u.2.2.2.2 fq cu un u.2.2.2.1 u.1 u.2.1 u.2.2.1) ∧ (u.2.2.2.2 = upd fn (25 + j) 0 ∧ r = fn (25 + j))) (fun (u : Nat × Nat × Nat × (Nat → Int32) × (Nat → Int32)) => [wO n0 5 [.ref n1, .ref n2, .ref n3, .int fu, .int (nI u.1), .int (nI u.2.1), .int (nI u.2.2.1)], wI (cy 1) n1 41 (u.2.2.2.2), wI (cy 1) n2 1681 (u.2.2.2.1)]) := by
  refine XMi.start (by decide) (Nat.le_of_ble_eq_true rfl) ?_
  intro p e s m below meth c args A ls Q hat hQ
  obtain ⟨hx, hb, hr, hml, hown, hg, hlocks, hin, hK, hA, hP, hD, hS, hE, hl⟩ := hat
  have hown : s.vm.findClass RX5 = some m.cls := hown
  have hl : lv_has ls 3 [(0, .ref n0), (1, .int (nI j))] := hl
  refine lv_aload_n hx hb dX5_clearLedge_0 rfl (lv_at hl 0 rfl) ?_
  refine va_get (D := D) (ci := 5) (v := .ref n1) (C := RX5) (T := TX5) (N := 7) hx hb hg i_X5 hown hK hP 0 rfl rfl 0 (by decide) (hg _ m_423) (fun _ h9 => h9) rfl dX5_clearLedge_1 ?_
  refine lv_bipush (v := 25) hx hb dX5_clearLedge_4 (by decide) ?_
  refine lv_iload_n hx hb dX5_clearLedge_6 rfl (lv_at hl 1 rfl) ?_
  refine lv_iadd hx hb dX5_clearLedge_7 ?_
  refine lv_topi (fun y_1 hy_1 => ?_)
  obtain rfl : y_1 = nI (25 + j) := hy_1.trans (nI_add 25 j)
  refine va_iald hx hb hK hP 1 1 rfl rfl (vp_in_nI (by omega) (by decide)) dX5_clearLedge_8 ?_
  refine lv_topi (fun x_2 ex_2 => ?_)
  refine lv_istore_n (lv' := [(2, .int x_2), (0, .ref n0), (1, .int (nI j))]) hx hb dX5_clearLedge_9 rfl hl (by decide) rfl (fun ls hl => ?_)
  refine lv_aload_n hx hb dX5_clearLedge_10 rfl (lv_at hl 1 rfl) ?_
  refine va_get (D := D) (ci := 5) (v := .ref n1) (C := RX5) (T := TX5) (N := 7) hx hb hg i_X5 hown hK hP 0 rfl rfl 0 (by decide) (hg _ m_423) (fun _ h9 => h9) rfl dX5_clearLedge_11 ?_
  refine lv_bipush (v := 25) hx hb dX5_clearLedge_14 (by decide) ?_
  refine lv_iload_n hx hb dX5_clearLedge_16 rfl (lv_at hl 2 rfl) ?_
  refine lv_iadd hx hb dX5_clearLedge_17 ?_
  refine lv_topi (fun y_3 hy_3 => ?_)
  obtain rfl : y_3 = nI (25 + j) := hy_3.trans (nI_add 25 j)
  refine lv_iconst (v := 0) hx hb dX5_clearLedge_18 (by decide) ?_
  refine va_iast hx hb hK hP hD hS 1 1 rfl rfl (vp_in_nI (by omega) (by decide)) dX5_clearLedge_19 (fun H locs hP9 hD9 hS9 => ?_)
  clear hP hD hS
  have hP := hP9
  have hD := hD9
  have hS := hS9
  clear hP9 hD9 hS9
  obtain ⟨g_4, eg_4⟩ : ∃ y, upd fn (nI (25 + j) : Int32).toNatClampNeg 0 = y := ⟨_, rfl⟩
  rw [eg_4] at hP hD
  have hr_5 : mRows g_4 1 := eg_4 ▸ m_restN hno (by omega) (by omega)
  replace hP : va_P D vwCl [wO n0 5 [.ref n1, .ref n2, .ref n3, .int fu, .int (nI cu), .int (nI un), .int (nI re)], wI (cy 1) n1 41 (g_4), wI (cy 1) n2 1681 (fq)] H := hP
  replace hD : va_D A [wO n0 5 [.ref n1, .ref n2, .ref n3, .int fu, .int (nI cu), .int (nI un), .int (nI re)], wI (cy 1) n1 41 (g_4), wI (cy 1) n2 1681 (fq)] := hD
  refine lv_aload_n hx hb dX5_clearLedge_20 rfl (lv_at hl 1 rfl) ?_
  refine x_callVv (q := (RX5, TX5, 7)) (ci := 5) (q0 := 0) (wr := []) (rest := []) ⟨hx, hb, hml, hown, hg, hl.1⟩ k_X5_67 (s_keepAct l D cy n0 n1 n2 n3 fu cu un re g_4 fq (by omega) (by omega) (hr_5) (hro)) E0_blind hK hP hD hS hA [0, 1, 2] [] ⟨rfl, rfl, by decide +kernel, by decide +kernel, by decide +kernel⟩ rfl rfl (fun _ _ _ => trivial) dX5_clearLedge_21 rfl rfl (Nat.le_of_ble_eq_true rfl) ⟨Nat.le_of_ble_eq_true rfl, Nat.le_of_ble_eq_true rfl⟩ ⟨Nat.le_of_ble_eq_true rfl, Nat.le_of_ble_eq_true rfl⟩ (fun zu6 H locs hw6 hP9 hD9 hS9 => ?_)
  clear hP hD hS
  obtain ⟨cu2_7, un2_8, re2_9, fq2_10⟩ := zu6
  refine reW [wO n0 5 [.ref n1, .ref n2, .ref n3, .int fu, .int (nI cu2_7), .int (nI un2_8), .int (nI re2_9)], wI (cy 1) n1 41 (g_4), wI (cy 1) n2 1681 (fq2_10)] hP9 hD9 hS9 (fun hP hD hS => ?_)
  clear hP9 hD9 hS9
  refine W.widen (k := 0) (n := 0) (Nat.le_of_ble_eq_true rfl) (Nat.le_of_ble_eq_true rfl) ?_
  replace hw6 : (cu2_7 ≤ 40) ∧ (un2_8 + re2_9 ≤ 40) ∧ (mRows fq2_10 41) ∧ (actC g_4 fq cu un fq2_10 cu2_7 un2_8 re2_9) := hw6
  obtain ⟨f_11, f_12, f_13, f_14⟩ := hw6
  refine lv_iload_n hx hb dX5_clearLedge_24 rfl (lv_at hl 0 rfl) ?_
  exact x_iret hQ hx hb hr hlocks hK hP hD hS dX5_clearLedge_25 (cu2_7, un2_8, re2_9, fq2_10, g_4) (⟨(show cu2_7 ≤ 40 from by omega), (show un2_8 + re2_9 ≤ 40 from by omega), f_13, hr_5, f_14, ⟨upd_at (by omega) eg_4, ld_at (by omega) ex_2⟩⟩) [0, 1, 2] (by decide +kernel) rfl (Nat.le_of_ble_eq_true rfl) (Nat.le_of_ble_eq_true rfl)
theorem gdX5_passNoon_0 : decode cX5_passNoon 0 = .ok (.aload_n 0, 1) ∧ decode cX5_passNoon 1 = .ok (.getfield 11, 3) ∧ decode cX5_passNoon 4 = .ok (.bipush 23, 2) ∧ decode cX5_passNoon 6 = .ok (.iaload, 1) ∧ decode cX5_passNoon 7 = .ok (.sipush 137, 3) ∧ decode cX5_passNoon 10 = .ok (.imul, 1) ∧ decode cX5_passNoon 11 = .ok (.bipush 71, 2) ∧ decode cX5_passNoon 13 = .ok (.iadd, 1) ∧ decode cX5_passNoon 14 = .ok (.sipush 1000, 3) ∧ decode cX5_passNoon 17 = .ok (.irem, 1) ∧ decode cX5_passNoon 18 = .ok (.istore_n 2, 1) ∧ decode cX5_passNoon 19 = .ok (.aload_n 0, 1) := by decide +kernel
theorem dX5_passNoon_0 : decode cX5_passNoon 0 = .ok (.aload_n 0, 1) := gdX5_passNoon_0.1
theorem dX5_passNoon_1 : decode cX5_passNoon 1 = .ok (.getfield 11, 3) := gdX5_passNoon_0.2.1
theorem dX5_passNoon_4 : decode cX5_passNoon 4 = .ok (.bipush 23, 2) := gdX5_passNoon_0.2.2.1
theorem dX5_passNoon_6 : decode cX5_passNoon 6 = .ok (.iaload, 1) := gdX5_passNoon_0.2.2.2.1
theorem dX5_passNoon_7 : decode cX5_passNoon 7 = .ok (.sipush 137, 3) := gdX5_passNoon_0.2.2.2.2.1
theorem dX5_passNoon_10 : decode cX5_passNoon 10 = .ok (.imul, 1) := gdX5_passNoon_0.2.2.2.2.2.1
theorem dX5_passNoon_11 : decode cX5_passNoon 11 = .ok (.bipush 71, 2) := gdX5_passNoon_0.2.2.2.2.2.2.1
theorem dX5_passNoon_13 : decode cX5_passNoon 13 = .ok (.iadd, 1) := gdX5_passNoon_0.2.2.2.2.2.2.2.1
theorem dX5_passNoon_14 : decode cX5_passNoon 14 = .ok (.sipush 1000, 3) := gdX5_passNoon_0.2.2.2.2.2.2.2.2.1
theorem dX5_passNoon_17 : decode cX5_passNoon 17 = .ok (.irem, 1) := gdX5_passNoon_0.2.2.2.2.2.2.2.2.2.1
theorem dX5_passNoon_18 : decode cX5_passNoon 18 = .ok (.istore_n 2, 1) := gdX5_passNoon_0.2.2.2.2.2.2.2.2.2.2.1
theorem dX5_passNoon_19 : decode cX5_passNoon 19 = .ok (.aload_n 0, 1) := gdX5_passNoon_0.2.2.2.2.2.2.2.2.2.2.2
theorem gdX5_passNoon_20 : decode cX5_passNoon 20 = .ok (.getfield 11, 3) ∧ decode cX5_passNoon 23 = .ok (.bipush 23, 2) ∧ decode cX5_passNoon 25 = .ok (.iload_n 2, 1) ∧ decode cX5_passNoon 26 = .ok (.iastore, 1) ∧ decode cX5_passNoon 27 = .ok (.aload_n 0, 1) ∧ decode cX5_passNoon 28 = .ok (.getfield 11, 3) ∧ decode cX5_passNoon 31 = .ok (.bipush 22, 2) ∧ decode cX5_passNoon 33 = .ok (.iload_n 2, 1) ∧ decode cX5_passNoon 34 = .ok (.bipush 10, 2) ∧ decode cX5_passNoon 36 = .ok (.irem, 1) ∧ decode cX5_passNoon 37 = .ok (.iastore, 1) ∧ decode cX5_passNoon 38 = .ok (.aload_n 0, 1) := by decide +kernel
theorem dX5_passNoon_20 : decode cX5_passNoon 20 = .ok (.getfield 11, 3) := gdX5_passNoon_20.1
theorem dX5_passNoon_23 : decode cX5_passNoon 23 = .ok (.bipush 23, 2) := gdX5_passNoon_20.2.1
theorem dX5_passNoon_25 : decode cX5_passNoon 25 = .ok (.iload_n 2, 1) := gdX5_passNoon_20.2.2.1
theorem dX5_passNoon_26 : decode cX5_passNoon 26 = .ok (.iastore, 1) := gdX5_passNoon_20.2.2.2.1
theorem dX5_passNoon_27 : decode cX5_passNoon 27 = .ok (.aload_n 0, 1) := gdX5_passNoon_20.2.2.2.2.1
theorem dX5_passNoon_28 : decode cX5_passNoon 28 = .ok (.getfield 11, 3) := gdX5_passNoon_20.2.2.2.2.2.1
theorem dX5_passNoon_31 : decode cX5_passNoon 31 = .ok (.bipush 22, 2) := gdX5_passNoon_20.2.2.2.2.2.2.1
theorem dX5_passNoon_33 : decode cX5_passNoon 33 = .ok (.iload_n 2, 1) := gdX5_passNoon_20.2.2.2.2.2.2.2.1
theorem dX5_passNoon_34 : decode cX5_passNoon 34 = .ok (.bipush 10, 2) := gdX5_passNoon_20.2.2.2.2.2.2.2.2.1
theorem dX5_passNoon_36 : decode cX5_passNoon 36 = .ok (.irem, 1) := gdX5_passNoon_20.2.2.2.2.2.2.2.2.2.1
theorem dX5_passNoon_37 : decode cX5_passNoon 37 = .ok (.iastore, 1) := gdX5_passNoon_20.2.2.2.2.2.2.2.2.2.2.1
theorem dX5_passNoon_38 : decode cX5_passNoon 38 = .ok (.aload_n 0, 1) := gdX5_passNoon_20.2.2.2.2.2.2.2.2.2.2.2
theorem gdX5_passNoon_39 : decode cX5_passNoon 39 = .ok (.getfield 11, 3) ∧ decode cX5_passNoon 42 = .ok (.bipush 24, 2) ∧ decode cX5_passNoon 44 = .ok (.dup2, 1) ∧ decode cX5_passNoon 45 = .ok (.iaload, 1) ∧ decode cX5_passNoon 46 = .ok (.iconst 1, 1) ∧ decode cX5_passNoon 47 = .ok (.iadd, 1) ∧ decode cX5_passNoon 48 = .ok (.iastore, 1) ∧ decode cX5_passNoon 49 = .ok (.iload_n 2, 1) ∧ decode cX5_passNoon 50 = .ok (.bipush 10, 2) ∧ decode cX5_passNoon 52 = .ok (.idiv, 1) ∧ decode cX5_passNoon 53 = .ok (.iconst 2, 1) ∧ decode cX5_passNoon 54 = .ok (.irem, 1) := by decide +kernel
theorem dX5_passNoon_39 : decode cX5_passNoon 39 = .ok (.getfield 11, 3) := gdX5_passNoon_39.1
theorem dX5_passNoon_42 : decode cX5_passNoon 42 = .ok (.bipush 24, 2) := gdX5_passNoon_39.2.1
theorem dX5_passNoon_44 : decode cX5_passNoon 44 = .ok (.dup2, 1) := gdX5_passNoon_39.2.2.1
theorem dX5_passNoon_45 : decode cX5_passNoon 45 = .ok (.iaload, 1) := gdX5_passNoon_39.2.2.2.1
theorem dX5_passNoon_46 : decode cX5_passNoon 46 = .ok (.iconst 1, 1) := gdX5_passNoon_39.2.2.2.2.1
theorem dX5_passNoon_47 : decode cX5_passNoon 47 = .ok (.iadd, 1) := gdX5_passNoon_39.2.2.2.2.2.1
theorem dX5_passNoon_48 : decode cX5_passNoon 48 = .ok (.iastore, 1) := gdX5_passNoon_39.2.2.2.2.2.2.1
theorem dX5_passNoon_49 : decode cX5_passNoon 49 = .ok (.iload_n 2, 1) := gdX5_passNoon_39.2.2.2.2.2.2.2.1
theorem dX5_passNoon_50 : decode cX5_passNoon 50 = .ok (.bipush 10, 2) := gdX5_passNoon_39.2.2.2.2.2.2.2.2.1
theorem dX5_passNoon_52 : decode cX5_passNoon 52 = .ok (.idiv, 1) := gdX5_passNoon_39.2.2.2.2.2.2.2.2.2.1
theorem dX5_passNoon_53 : decode cX5_passNoon 53 = .ok (.iconst 2, 1) := gdX5_passNoon_39.2.2.2.2.2.2.2.2.2.2.1
theorem dX5_passNoon_54 : decode cX5_passNoon 54 = .ok (.irem, 1) := gdX5_passNoon_39.2.2.2.2.2.2.2.2.2.2.2
theorem gdX5_passNoon_55 : decode cX5_passNoon 55 = .ok (.ifCond .ne 41, 3) ∧ decode cX5_passNoon 96 = .ok (.aload_n 0, 1) ∧ decode cX5_passNoon 97 = .ok (.invokevirtual 67, 3) ∧ decode cX5_passNoon 100 = .ok (.return_, 1) ∧ decode cX5_passNoon 58 = .ok (.iconst 0, 1) ∧ decode cX5_passNoon 59 = .ok (.istore_n 3, 1) ∧ decode cX5_passNoon 60 = .ok (.iload_n 3, 1) ∧ decode cX5_passNoon 61 = .ok (.iload_n 1, 1) ∧ decode cX5_passNoon 62 = .ok (.if_icmp .ge 34, 3) ∧ decode cX5_passNoon 65 = .ok (.aload_n 0, 1) ∧ decode cX5_passNoon 66 = .ok (.getfield 11, 3) ∧ decode cX5_passNoon 69 = .ok (.bipush 25, 2) := by decide +kernel
theorem dX5_passNoon_55 : decode cX5_passNoon 55 = .ok (.ifCond .ne 41, 3) := gdX5_passNoon_55.1
theorem dX5_passNoon_96 : decode cX5_passNoon 96 = .ok (.aload_n 0, 1) := gdX5_passNoon_55.2.1
theorem dX5_passNoon_97 : decode cX5_passNoon 97 = .ok (.invokevirtual 67, 3) := gdX5_passNoon_55.2.2.1
theorem dX5_passNoon_100 : decode cX5_passNoon 100 = .ok (.return_, 1) := gdX5_passNoon_55.2.2.2.1
theorem dX5_passNoon_58 : decode cX5_passNoon 58 = .ok (.iconst 0, 1) := gdX5_passNoon_55.2.2.2.2.1
theorem dX5_passNoon_59 : decode cX5_passNoon 59 = .ok (.istore_n 3, 1) := gdX5_passNoon_55.2.2.2.2.2.1
theorem dX5_passNoon_60 : decode cX5_passNoon 60 = .ok (.iload_n 3, 1) := gdX5_passNoon_55.2.2.2.2.2.2.1
theorem dX5_passNoon_61 : decode cX5_passNoon 61 = .ok (.iload_n 1, 1) := gdX5_passNoon_55.2.2.2.2.2.2.2.1
theorem dX5_passNoon_62 : decode cX5_passNoon 62 = .ok (.if_icmp .ge 34, 3) := gdX5_passNoon_55.2.2.2.2.2.2.2.2.1
theorem dX5_passNoon_65 : decode cX5_passNoon 65 = .ok (.aload_n 0, 1) := gdX5_passNoon_55.2.2.2.2.2.2.2.2.2.1
theorem dX5_passNoon_66 : decode cX5_passNoon 66 = .ok (.getfield 11, 3) := gdX5_passNoon_55.2.2.2.2.2.2.2.2.2.2.1
theorem dX5_passNoon_69 : decode cX5_passNoon 69 = .ok (.bipush 25, 2) := gdX5_passNoon_55.2.2.2.2.2.2.2.2.2.2.2
theorem gdX5_passNoon_71 : decode cX5_passNoon 71 = .ok (.iload_n 3, 1) ∧ decode cX5_passNoon 72 = .ok (.iadd, 1) ∧ decode cX5_passNoon 73 = .ok (.aload_n 0, 1) ∧ decode cX5_passNoon 74 = .ok (.getfield 11, 3) ∧ decode cX5_passNoon 77 = .ok (.bipush 25, 2) ∧ decode cX5_passNoon 79 = .ok (.iload_n 3, 1) ∧ decode cX5_passNoon 80 = .ok (.iadd, 1) ∧ decode cX5_passNoon 81 = .ok (.iaload, 1) ∧ decode cX5_passNoon 82 = .ok (.iconst 1, 1) ∧ decode cX5_passNoon 83 = .ok (.iadd, 1) ∧ decode cX5_passNoon 84 = .ok (.bipush 9, 2) ∧ decode cX5_passNoon 86 = .ok (.invokestatic 57, 3) := by decide +kernel
theorem dX5_passNoon_71 : decode cX5_passNoon 71 = .ok (.iload_n 3, 1) := gdX5_passNoon_71.1
theorem dX5_passNoon_72 : decode cX5_passNoon 72 = .ok (.iadd, 1) := gdX5_passNoon_71.2.1
theorem dX5_passNoon_73 : decode cX5_passNoon 73 = .ok (.aload_n 0, 1) := gdX5_passNoon_71.2.2.1
theorem dX5_passNoon_74 : decode cX5_passNoon 74 = .ok (.getfield 11, 3) := gdX5_passNoon_71.2.2.2.1
theorem dX5_passNoon_77 : decode cX5_passNoon 77 = .ok (.bipush 25, 2) := gdX5_passNoon_71.2.2.2.2.1
theorem dX5_passNoon_79 : decode cX5_passNoon 79 = .ok (.iload_n 3, 1) := gdX5_passNoon_71.2.2.2.2.2.1
theorem dX5_passNoon_80 : decode cX5_passNoon 80 = .ok (.iadd, 1) := gdX5_passNoon_71.2.2.2.2.2.2.1
theorem dX5_passNoon_81 : decode cX5_passNoon 81 = .ok (.iaload, 1) := gdX5_passNoon_71.2.2.2.2.2.2.2.1
theorem dX5_passNoon_82 : decode cX5_passNoon 82 = .ok (.iconst 1, 1) := gdX5_passNoon_71.2.2.2.2.2.2.2.2.1
theorem dX5_passNoon_83 : decode cX5_passNoon 83 = .ok (.iadd, 1) := gdX5_passNoon_71.2.2.2.2.2.2.2.2.2.1
theorem dX5_passNoon_84 : decode cX5_passNoon 84 = .ok (.bipush 9, 2) := gdX5_passNoon_71.2.2.2.2.2.2.2.2.2.2.1
theorem dX5_passNoon_86 : decode cX5_passNoon 86 = .ok (.invokestatic 57, 3) := gdX5_passNoon_71.2.2.2.2.2.2.2.2.2.2.2
theorem gdX5_passNoon_89 : decode cX5_passNoon 89 = .ok (.iastore, 1) ∧ decode cX5_passNoon 90 = .ok (.iinc 3 1, 3) ∧ decode cX5_passNoon 93 = .ok (.goto (-33), 3) := by decide +kernel
theorem dX5_passNoon_89 : decode cX5_passNoon 89 = .ok (.iastore, 1) := gdX5_passNoon_89.1
theorem dX5_passNoon_90 : decode cX5_passNoon 90 = .ok (.iinc 3 1, 3) := gdX5_passNoon_89.2.1
theorem dX5_passNoon_93 : decode cX5_passNoon 93 = .ok (.goto (-33), 3) := gdX5_passNoon_89.2.2
set_option maxHeartbeats 1000000 in
set_option maxRecDepth 100000 in
theorem s_passNoon (l : Launch) (D : va_G) (cy : Nat → ClassId) (n0 : Nat) (n1 : Nat) (n2 : Nat) (n3 : Nat) (fu : Int32) (cu : Nat) (un : Nat) (re : Nat) (fn : Nat → Int32) (fq : Nat → Int32) (cl : Nat) (hcu : cu ≤ 40) (hur : un + re ≤ 40) (hno : mRows fn 1) (hro : mRows fq 41) (hcl : cl ≤ 4) : XMv l D (tyL cy) E0 yX5_passNoon cX5_passNoon 4 none (rmk 2 0 0) [.ref n0, .int (nI cl)] [wO n0 5 [.ref n1, .ref n2, .ref n3, .int fu, .int (nI cu), .int (nI un), .int (nI re)], wI (cy 1) n1 41 (fn), wI (cy 1) n2 1681 (fq)] (fun (u : Nat × Nat × Nat × (Nat → Int32) × (Nat → Int32)) => (u.1 ≤ 40) ∧ (u.2.1 + u.2.2.1 ≤ 40) ∧ (mRows u.2.2.2.1 41) ∧ (mRows u.2.2.2.2 1) ∧ (actC u.2.2.2.2 fq cu un u.2.2.2.1 u.1 u.2.1 u.2.2.1) ∧ (nnC fn cl u.2.2.2.2)) (fun (u : Nat × Nat × Nat × (Nat → Int32) × (Nat → Int32)) => [wO n0 5 [.ref n1, .ref n2, .ref n3, .int fu, .int (nI u.1), .int (nI u.2.1), .int (nI u.2.2.1)], wI (cy 1) n1 41 (u.2.2.2.2), wI (cy 1) n2 1681 (u.2.2.2.1)]) := by
  refine XMv.start (by decide) (Nat.le_of_ble_eq_true rfl) ?_
  intro p e s m below meth c args A ls Q hat hQ
  obtain ⟨hx, hb, hr, hml, hown, hg, hlocks, hin, hK, hA, hP, hD, hS, hE, hl⟩ := hat
  have hown : s.vm.findClass RX5 = some m.cls := hown
  have hl : lv_has ls 4 [(0, .ref n0), (1, .int (nI cl))] := hl
  refine lv_aload_n hx hb dX5_passNoon_0 rfl (lv_at hl 0 rfl) ?_
  refine va_get (D := D) (ci := 5) (v := .ref n1) (C := RX5) (T := TX5) (N := 7) hx hb hg i_X5 hown hK hP 0 rfl rfl 0 (by decide) (hg _ m_423) (fun _ h9 => h9) rfl dX5_passNoon_1 ?_
  refine lv_bipush (v := 23) hx hb dX5_passNoon_4 (by decide) ?_
  refine va_iald hx hb hK hP 1 1 rfl rfl (by unfold vp_in; decide) dX5_passNoon_6 ?_
  refine lv_topi (fun x_1 ex_1 => ?_)
  refine lv_sipush (v := 137) hx hb dX5_passNoon_7 (by decide) ?_
  refine lv_imul hx hb dX5_passNoon_10 ?_
  refine lv_topi (fun x_2 ex_2 => ?_)
  refine lv_bipush (v := 71) hx hb dX5_passNoon_11 (by decide) ?_
  refine lv_iadd hx hb dX5_passNoon_13 ?_
  refine lv_topi (fun x_3 ex_3 => ?_)
  refine lv_sipush (v := 1000) hx hb dX5_passNoon_14 (by decide) ?_
  refine lv_irem hx hb dX5_passNoon_17 (by decide) ?_
  refine lv_topi (fun x_4 ex_4 => ?_)
  refine lv_istore_n (lv' := [(2, .int x_4), (0, .ref n0), (1, .int (nI cl))]) hx hb dX5_passNoon_18 rfl hl (by decide) rfl (fun ls hl => ?_)
  refine lv_aload_n hx hb dX5_passNoon_19 rfl (lv_at hl 1 rfl) ?_
  refine va_get (D := D) (ci := 5) (v := .ref n1) (C := RX5) (T := TX5) (N := 7) hx hb hg i_X5 hown hK hP 0 rfl rfl 0 (by decide) (hg _ m_423) (fun _ h9 => h9) rfl dX5_passNoon_20 ?_
  refine lv_bipush (v := 23) hx hb dX5_passNoon_23 (by decide) ?_
  refine lv_iload_n hx hb dX5_passNoon_25 rfl (lv_at hl 0 rfl) ?_
  refine va_iast hx hb hK hP hD hS 1 1 rfl rfl (by unfold vp_in; decide) dX5_passNoon_26 (fun H locs hP9 hD9 hS9 => ?_)
  clear hP hD hS
  have hP := hP9
  have hD := hD9
  have hS := hS9
  clear hP9 hD9 hS9
  obtain ⟨g_5, eg_5⟩ : ∃ y, upd fn (23 : Int32).toNatClampNeg x_4 = y := ⟨_, rfl⟩
  rw [eg_5] at hP hD
  have hr_6 : mRows g_5 1 := eg_5 ▸ m_rest hno (by decide)
  replace hP : va_P D vwCl [wO n0 5 [.ref n1, .ref n2, .ref n3, .int fu, .int (nI cu), .int (nI un), .int (nI re)], wI (cy 1) n1 41 (g_5), wI (cy 1) n2 1681 (fq)] H := hP
  replace hD : va_D A [wO n0 5 [.ref n1, .ref n2, .ref n3, .int fu, .int (nI cu), .int (nI un), .int (nI re)], wI (cy 1) n1 41 (g_5), wI (cy 1) n2 1681 (fq)] := hD
  refine lv_aload_n hx hb dX5_passNoon_27 rfl (lv_at hl 1 rfl) ?_
  refine va_get (D := D) (ci := 5) (v := .ref n1) (C := RX5) (T := TX5) (N := 7) hx hb hg i_X5 hown hK hP 0 rfl rfl 0 (by decide) (hg _ m_423) (fun _ h9 => h9) rfl dX5_passNoon_28 ?_
  refine lv_bipush (v := 22) hx hb dX5_passNoon_31 (by decide) ?_
  refine lv_iload_n hx hb dX5_passNoon_33 rfl (lv_at hl 0 rfl) ?_
  refine lv_bipush (v := 10) hx hb dX5_passNoon_34 (by decide) ?_
  refine lv_irem hx hb dX5_passNoon_36 (by decide) ?_
  refine lv_topi (fun x_7 ex_7 => ?_)
  refine va_iast hx hb hK hP hD hS 1 1 rfl rfl (by unfold vp_in; decide) dX5_passNoon_37 (fun H locs hP9 hD9 hS9 => ?_)
  clear hP hD hS
  have hP := hP9
  have hD := hD9
  have hS := hS9
  clear hP9 hD9 hS9
  obtain ⟨g_8, eg_8⟩ : ∃ y, upd g_5 (22 : Int32).toNatClampNeg x_7 = y := ⟨_, rfl⟩
  rw [eg_8] at hP hD
  have hr_9 : mRows g_8 1 := eg_8 ▸ m_rest hr_6 (by decide)
  replace hP : va_P D vwCl [wO n0 5 [.ref n1, .ref n2, .ref n3, .int fu, .int (nI cu), .int (nI un), .int (nI re)], wI (cy 1) n1 41 (g_8), wI (cy 1) n2 1681 (fq)] H := hP
  replace hD : va_D A [wO n0 5 [.ref n1, .ref n2, .ref n3, .int fu, .int (nI cu), .int (nI un), .int (nI re)], wI (cy 1) n1 41 (g_8), wI (cy 1) n2 1681 (fq)] := hD
  refine lv_aload_n hx hb dX5_passNoon_38 rfl (lv_at hl 1 rfl) ?_
  refine va_get (D := D) (ci := 5) (v := .ref n1) (C := RX5) (T := TX5) (N := 7) hx hb hg i_X5 hown hK hP 0 rfl rfl 0 (by decide) (hg _ m_423) (fun _ h9 => h9) rfl dX5_passNoon_39 ?_
  refine lv_bipush (v := 24) hx hb dX5_passNoon_42 (by decide) ?_
  refine lv_dup2_11 hx hb dX5_passNoon_44 rfl rfl ?_
  refine va_iald hx hb hK hP 1 1 rfl rfl (by unfold vp_in; decide) dX5_passNoon_45 ?_
  refine lv_topi (fun x_10 ex_10 => ?_)
  refine lv_iconst (v := 1) hx hb dX5_passNoon_46 (by decide) ?_
  refine lv_iadd hx hb dX5_passNoon_47 ?_
  refine lv_topi (fun x_11 ex_11 => ?_)
  refine va_iast hx hb hK hP hD hS 1 1 rfl rfl (by unfold vp_in; decide) dX5_passNoon_48 (fun H locs hP9 hD9 hS9 => ?_)
  clear hP hD hS
  have hP := hP9
  have hD := hD9
  have hS := hS9
  clear hP9 hD9 hS9
  obtain ⟨g_12, eg_12⟩ : ∃ y, upd g_8 (24 : Int32).toNatClampNeg x_11 = y := ⟨_, rfl⟩
  rw [eg_12] at hP hD
  have hr_13 : mRows g_12 1 := eg_12 ▸ m_rest hr_9 (by decide)
  replace hP : va_P D vwCl [wO n0 5 [.ref n1, .ref n2, .ref n3, .int fu, .int (nI cu), .int (nI un), .int (nI re)], wI (cy 1) n1 41 (g_12), wI (cy 1) n2 1681 (fq)] H := hP
  replace hD : va_D A [wO n0 5 [.ref n1, .ref n2, .ref n3, .int fu, .int (nI cu), .int (nI un), .int (nI re)], wI (cy 1) n1 41 (g_12), wI (cy 1) n2 1681 (fq)] := hD
  refine lv_iload_n hx hb dX5_passNoon_49 rfl (lv_at hl 0 rfl) ?_
  refine lv_bipush (v := 10) hx hb dX5_passNoon_50 (by decide) ?_
  refine lv_idiv hx hb dX5_passNoon_52 (by decide) ?_
  refine lv_topi (fun x_14 ex_14 => ?_)
  refine lv_iconst (v := 2) hx hb dX5_passNoon_53 (by decide) ?_
  refine lv_irem hx hb dX5_passNoon_54 (by decide) ?_
  refine lv_topi (fun x_15 ex_15 => ?_)
  refine lv_if_ne (tgt := 96) hx hb dX5_passNoon_55 (by decide) (fun c_55 => ?_) (fun c_55 => ?_)
  · refine lv_aload_n hx hb dX5_passNoon_96 rfl (lv_at hl 1 rfl) ?_
    refine x_callVv (q := (RX5, TX5, 7)) (ci := 5) (q0 := 0) (wr := []) (rest := []) ⟨hx, hb, hml, hown, hg, hl.1⟩ k_X5_67 (s_keepAct l D cy n0 n1 n2 n3 fu cu un re g_12 fq (by omega) (by omega) (hr_13) (hro)) E0_blind hK hP hD hS hA [0, 1, 2] [] ⟨rfl, rfl, by decide +kernel, by decide +kernel, by decide +kernel⟩ rfl rfl (fun _ _ _ => trivial) dX5_passNoon_97 rfl rfl (Nat.le_of_ble_eq_true rfl) ⟨Nat.le_of_ble_eq_true rfl, Nat.le_of_ble_eq_true rfl⟩ ⟨Nat.le_of_ble_eq_true rfl, Nat.le_of_ble_eq_true rfl⟩ (fun zu16 H locs hw16 hP9 hD9 hS9 => ?_)
    clear hP hD hS
    obtain ⟨cu2_17, un2_18, re2_19, fq2_20⟩ := zu16
    refine reW [wO n0 5 [.ref n1, .ref n2, .ref n3, .int fu, .int (nI cu2_17), .int (nI un2_18), .int (nI re2_19)], wI (cy 1) n1 41 (g_12), wI (cy 1) n2 1681 (fq2_20)] hP9 hD9 hS9 (fun hP hD hS => ?_)
    clear hP9 hD9 hS9
    refine W.widen (k := 0) (n := 0) (Nat.le_of_ble_eq_true rfl) (Nat.le_of_ble_eq_true rfl) ?_
    replace hw16 : (cu2_17 ≤ 40) ∧ (un2_18 + re2_19 ≤ 40) ∧ (mRows fq2_20 41) ∧ (actC g_12 fq cu un fq2_20 cu2_17 un2_18 re2_19) := hw16
    obtain ⟨f_21, f_22, f_23, f_24⟩ := hw16
    exact x_vret hQ hx hb hr hlocks hK hP hD hS dX5_passNoon_100 (cu2_17, un2_18, re2_19, fq2_20, g_12) (⟨(show cu2_17 ≤ 40 from by omega), (show un2_18 + re2_19 ≤ 40 from by omega), f_23, hr_13, f_24, nn_dry (nn_of ex_1 ex_2 ex_3 ex_4 eg_5 ex_7 eg_8 ex_10 ex_11 eg_12) ex_14 ex_15 c_55⟩) [0, 1, 2] (by decide +kernel) rfl (Nat.le_of_ble_eq_true rfl) (Nat.le_of_ble_eq_true rfl)
  · refine lv_iconst (v := 0) hx hb dX5_passNoon_58 (by decide) ?_
    refine lv_istore_n (lv' := [(3, .int 0), (2, .int x_4), (0, .ref n0), (1, .int (nI cl))]) hx hb dX5_passNoon_59 rfl hl (by decide) rfl (fun ls hl => ?_)
    have loop25 : ∀ (zn : Nat) (i25 : Nat) (fa1_25 : Nat → Int32), (mRows fa1_25 1) → (i25 ≤ cl) → (snT g_12 i25 fa1_25) → cl - i25 + 1 ≤ zn → ∀ (H : Heap) (locs : List Loc), va_P D vwCl [wO n0 5 [.ref n1, .ref n2, .ref n3, .int fu, .int (nI cu), .int (nI un), .int (nI re)], wI (cy 1) n1 41 (fa1_25), wI (cy 1) n2 1681 (fq)] H → va_D A [wO n0 5 [.ref n1, .ref n2, .ref n3, .int fu, .int (nI cu), .int (nI un), .int (nI re)], wI (cy 1) n1 41 (fa1_25), wI (cy 1) n2 1681 (fq)] → va_S A s.heap H locs → ∀ ls : Array Slot, lv_has ls 4 [(3, .int (nI i25)), (2, .int x_4), (0, .ref n0), (1, .int (nI cl))] → W p l e (rmk 2 0 0) s m args below meth c H locs 0 0 Q (F0 m 60 ls []) := by
      try clear hP hD hS
      intro zn
      induction zn with
      | zero => intro i25 fa1_25 _ _ _ hz; exact absurd hz (by omega)
      | succ zn ih25 =>
        intro i25 fa1_25 ha2_25 hf0_25 hf1_25 hmu25 H locs hP hD hS ls hl
        refine lv_iload_n hx hb dX5_passNoon_60 rfl (lv_at hl 0 rfl) ?_
        refine lv_iload_n hx hb dX5_passNoon_61 rfl (lv_at hl 3 rfl) ?_
        refine lv_icmp_ge (tgt := 96) hx hb dX5_passNoon_62 (by decide) (fun c_26 => ?_) (fun c_26 => ?_)
        · have q_27 : cl ≤ i25 := q_le (a := cl) (b := i25) rfl rfl (by omega) (by omega) c_26
          refine lv_aload_n hx hb dX5_passNoon_96 rfl (lv_at hl 2 rfl) ?_
          refine x_callVv (q := (RX5, TX5, 7)) (ci := 5) (q0 := 0) (wr := []) (rest := []) ⟨hx, hb, hml, hown, hg, hl.1⟩ k_X5_67 (s_keepAct l D cy n0 n1 n2 n3 fu cu un re fa1_25 fq (by omega) (by omega) (ha2_25) (hro)) E0_blind hK hP hD hS hA [0, 1, 2] [] ⟨rfl, rfl, by decide +kernel, by decide +kernel, by decide +kernel⟩ rfl rfl (fun _ _ _ => trivial) dX5_passNoon_97 rfl rfl (Nat.le_of_ble_eq_true rfl) ⟨Nat.le_of_ble_eq_true rfl, Nat.le_of_ble_eq_true rfl⟩ ⟨Nat.le_of_ble_eq_true rfl, Nat.le_of_ble_eq_true rfl⟩ (fun zu28 H locs hw28 hP9 hD9 hS9 => ?_)
          clear hP hD hS
          obtain ⟨cu2_29, un2_30, re2_31, fq2_32⟩ := zu28
          refine reW [wO n0 5 [.ref n1, .ref n2, .ref n3, .int fu, .int (nI cu2_29), .int (nI un2_30), .int (nI re2_31)], wI (cy 1) n1 41 (fa1_25), wI (cy 1) n2 1681 (fq2_32)] hP9 hD9 hS9 (fun hP hD hS => ?_)
          clear hP9 hD9 hS9
          refine W.widen (k := 0) (n := 0) (Nat.le_of_ble_eq_true rfl) (Nat.le_of_ble_eq_true rfl) ?_
          replace hw28 : (cu2_29 ≤ 40) ∧ (un2_30 + re2_31 ≤ 40) ∧ (mRows fq2_32 41) ∧ (actC fa1_25 fq cu un fq2_32 cu2_29 un2_30 re2_31) := hw28
          obtain ⟨f_33, f_34, f_35, f_36⟩ := hw28
          exact x_vret hQ hx hb hr hlocks hK hP hD hS dX5_passNoon_100 (cu2_29, un2_30, re2_31, fq2_32, fa1_25) (⟨(show cu2_29 ≤ 40 from by omega), (show un2_30 + re2_31 ≤ 40 from by omega), f_35, ha2_25, f_36, nn_snow (nn_of ex_1 ex_2 ex_3 ex_4 eg_5 ex_7 eg_8 ex_10 ex_11 eg_12) ex_14 ex_15 c_55 hf1_25 (by omega)⟩) [0, 1, 2] (by decide +kernel) rfl (Nat.le_of_ble_eq_true rfl) (Nat.le_of_ble_eq_true rfl)
        · have q_27 : i25 < cl := q_nle (a := cl) (b := i25) rfl rfl (by omega) (by omega) c_26
          refine lv_aload_n hx hb dX5_passNoon_65 rfl (lv_at hl 2 rfl) ?_
          refine va_get (D := D) (ci := 5) (v := .ref n1) (C := RX5) (T := TX5) (N := 7) hx hb hg i_X5 hown hK hP 0 rfl rfl 0 (by decide) (hg _ m_423) (fun _ h9 => h9) rfl dX5_passNoon_66 ?_
          refine lv_bipush (v := 25) hx hb dX5_passNoon_69 (by decide) ?_
          refine lv_iload_n hx hb dX5_passNoon_71 rfl (lv_at hl 0 rfl) ?_
          refine lv_iadd hx hb dX5_passNoon_72 ?_
          refine lv_topi (fun y_37 hy_37 => ?_)
          obtain rfl : y_37 = nI (25 + i25) := hy_37.trans (nI_add 25 i25)
          refine lv_aload_n hx hb dX5_passNoon_73 rfl (lv_at hl 2 rfl) ?_
          refine va_get (D := D) (ci := 5) (v := .ref n1) (C := RX5) (T := TX5) (N := 7) hx hb hg i_X5 hown hK hP 0 rfl rfl 0 (by decide) (hg _ m_423) (fun _ h9 => h9) rfl dX5_passNoon_74 ?_
          refine lv_bipush (v := 25) hx hb dX5_passNoon_77 (by decide) ?_
          refine lv_iload_n hx hb dX5_passNoon_79 rfl (lv_at hl 0 rfl) ?_
          refine lv_iadd hx hb dX5_passNoon_80 ?_
          refine lv_topi (fun y_38 hy_38 => ?_)
          obtain rfl : y_38 = nI (25 + i25) := hy_38.trans (nI_add 25 i25)
          refine va_iald hx hb hK hP 1 1 rfl rfl (vp_in_nI (by omega) (by decide)) dX5_passNoon_81 ?_
          refine lv_topi (fun x_39 ex_39 => ?_)
          refine lv_iconst (v := 1) hx hb dX5_passNoon_82 (by decide) ?_
          refine lv_iadd hx hb dX5_passNoon_83 ?_
          refine lv_topi (fun x_40 ex_40 => ?_)
          refine lv_bipush (v := 9) hx hb dX5_passNoon_84 (by decide) ?_
          refine va_mmin hx hb (hml.trans hl.1.symm) hown (hg _ m_984) (hg _ m_770) (hg _ m_147) (hg _ m_771) (by decide) (Nat.le_of_ble_eq_true rfl) (by decide) (by decide) dX5_passNoon_86 ?_
          refine lv_topi (fun x_41 ex_41 => ?_)
          refine va_iast hx hb hK hP hD hS 1 1 rfl rfl (vp_in_nI (by omega) (by decide)) dX5_passNoon_89 (fun H locs hP9 hD9 hS9 => ?_)
          clear hP hD hS
          have hP := hP9
          have hD := hD9
          have hS := hS9
          clear hP9 hD9 hS9
          obtain ⟨g_42, eg_42⟩ : ∃ y, upd fa1_25 (nI (25 + i25) : Int32).toNatClampNeg x_41 = y := ⟨_, rfl⟩
          rw [eg_42] at hP hD
          have hr_43 : mRows g_42 1 := eg_42 ▸ m_restN ha2_25 (by omega) (by omega)
          replace hP : va_P D vwCl [wO n0 5 [.ref n1, .ref n2, .ref n3, .int fu, .int (nI cu), .int (nI un), .int (nI re)], wI (cy 1) n1 41 (g_42), wI (cy 1) n2 1681 (fq)] H := hP
          replace hD : va_D A [wO n0 5 [.ref n1, .ref n2, .ref n3, .int fu, .int (nI cu), .int (nI un), .int (nI re)], wI (cy 1) n1 41 (g_42), wI (cy 1) n2 1681 (fq)] := hD
          refine lv_iinc (v := nI (i25 + 1)) (lv' := [(3, .int (nI (i25 + 1))), (2, .int x_4), (0, .ref n0), (1, .int (nI cl))]) hx hb dX5_passNoon_90 hl (k := 0) rfl (nI_add i25 1) (by decide) rfl (fun ls hl => ?_)
          refine lv_goto (tgt := 60) hx hb dX5_passNoon_93 (by decide) ?_
          exact ih25  ((i25 + 1)) g_42 hr_43 (by omega) (snT_put hf1_25 (by omega) ex_39 ex_40 ex_41 eg_42) (by omega) _ _ (hP.sub [0, 1, 2] rfl) (hD.sub [0, 1, 2] (by decide +kernel) rfl) hS ls (lv_sub hl [0, 1, 2, 3] rfl)
    exact loop25 _ 0 g_12 hr_13 (by omega) (snT_0) (Nat.le_refl _) _ _ (hP.sub [0, 1, 2] rfl) (hD.sub [0, 1, 2] (by decide +kernel) rfl) hS ls (lv_sub hl [0, 1, 2, 3] rfl)
theorem gdX5_begin_0 : decode cX5_begin 0 = .ok (.iconst 0, 1) ∧ decode cX5_begin 1 = .ok (.istore_n 2, 1) ∧ decode cX5_begin 2 = .ok (.iload_n 2, 1) ∧ decode cX5_begin 3 = .ok (.bipush 41, 2) ∧ decode cX5_begin 5 = .ok (.if_icmp .ge 16, 3) ∧ decode cX5_begin 21 = .ok (.aload_n 0, 1) ∧ decode cX5_begin 22 = .ok (.getfield 11, 3) ∧ decode cX5_begin 25 = .ok (.bipush 22, 2) ∧ decode cX5_begin 27 = .ok (.aload_n 1, 1) ∧ decode cX5_begin 28 = .ok (.getfield 21, 3) ∧ decode cX5_begin 31 = .ok (.iastore, 1) ∧ decode cX5_begin 32 = .ok (.aload_n 0, 1) := by decide +kernel
theorem dX5_begin_0 : decode cX5_begin 0 = .ok (.iconst 0, 1) := gdX5_begin_0.1
theorem dX5_begin_1 : decode cX5_begin 1 = .ok (.istore_n 2, 1) := gdX5_begin_0.2.1
theorem dX5_begin_2 : decode cX5_begin 2 = .ok (.iload_n 2, 1) := gdX5_begin_0.2.2.1
theorem dX5_begin_3 : decode cX5_begin 3 = .ok (.bipush 41, 2) := gdX5_begin_0.2.2.2.1
theorem dX5_begin_5 : decode cX5_begin 5 = .ok (.if_icmp .ge 16, 3) := gdX5_begin_0.2.2.2.2.1
theorem dX5_begin_21 : decode cX5_begin 21 = .ok (.aload_n 0, 1) := gdX5_begin_0.2.2.2.2.2.1
theorem dX5_begin_22 : decode cX5_begin 22 = .ok (.getfield 11, 3) := gdX5_begin_0.2.2.2.2.2.2.1
theorem dX5_begin_25 : decode cX5_begin 25 = .ok (.bipush 22, 2) := gdX5_begin_0.2.2.2.2.2.2.2.1
theorem dX5_begin_27 : decode cX5_begin 27 = .ok (.aload_n 1, 1) := gdX5_begin_0.2.2.2.2.2.2.2.2.1
theorem dX5_begin_28 : decode cX5_begin 28 = .ok (.getfield 21, 3) := gdX5_begin_0.2.2.2.2.2.2.2.2.2.1
theorem dX5_begin_31 : decode cX5_begin 31 = .ok (.iastore, 1) := gdX5_begin_0.2.2.2.2.2.2.2.2.2.2.1
theorem dX5_begin_32 : decode cX5_begin 32 = .ok (.aload_n 0, 1) := gdX5_begin_0.2.2.2.2.2.2.2.2.2.2.2
theorem gdX5_begin_33 : decode cX5_begin 33 = .ok (.getfield 11, 3) ∧ decode cX5_begin 36 = .ok (.bipush 23, 2) ∧ decode cX5_begin 38 = .ok (.aload_n 1, 1) ∧ decode cX5_begin 39 = .ok (.getfield 27, 3) ∧ decode cX5_begin 42 = .ok (.iastore, 1) ∧ decode cX5_begin 43 = .ok (.iconst 0, 1) ∧ decode cX5_begin 44 = .ok (.istore_n 2, 1) ∧ decode cX5_begin 45 = .ok (.iload_n 2, 1) ∧ decode cX5_begin 46 = .ok (.aload_n 1, 1) ∧ decode cX5_begin 47 = .ok (.getfield 30, 3) ∧ decode cX5_begin 50 = .ok (.iconst 1, 1) ∧ decode cX5_begin 51 = .ok (.iaload, 1) := by decide +kernel
theorem dX5_begin_33 : decode cX5_begin 33 = .ok (.getfield 11, 3) := gdX5_begin_33.1
theorem dX5_begin_36 : decode cX5_begin 36 = .ok (.bipush 23, 2) := gdX5_begin_33.2.1
theorem dX5_begin_38 : decode cX5_begin 38 = .ok (.aload_n 1, 1) := gdX5_begin_33.2.2.1
theorem dX5_begin_39 : decode cX5_begin 39 = .ok (.getfield 27, 3) := gdX5_begin_33.2.2.2.1
theorem dX5_begin_42 : decode cX5_begin 42 = .ok (.iastore, 1) := gdX5_begin_33.2.2.2.2.1
theorem dX5_begin_43 : decode cX5_begin 43 = .ok (.iconst 0, 1) := gdX5_begin_33.2.2.2.2.2.1
theorem dX5_begin_44 : decode cX5_begin 44 = .ok (.istore_n 2, 1) := gdX5_begin_33.2.2.2.2.2.2.1
theorem dX5_begin_45 : decode cX5_begin 45 = .ok (.iload_n 2, 1) := gdX5_begin_33.2.2.2.2.2.2.2.1
theorem dX5_begin_46 : decode cX5_begin 46 = .ok (.aload_n 1, 1) := gdX5_begin_33.2.2.2.2.2.2.2.2.1
theorem dX5_begin_47 : decode cX5_begin 47 = .ok (.getfield 30, 3) := gdX5_begin_33.2.2.2.2.2.2.2.2.2.1
theorem dX5_begin_50 : decode cX5_begin 50 = .ok (.iconst 1, 1) := gdX5_begin_33.2.2.2.2.2.2.2.2.2.2.1
theorem dX5_begin_51 : decode cX5_begin 51 = .ok (.iaload, 1) := gdX5_begin_33.2.2.2.2.2.2.2.2.2.2.2
theorem gdX5_begin_52 : decode cX5_begin 52 = .ok (.if_icmp .ge 24, 3) ∧ decode cX5_begin 76 = .ok (.aload_n 0, 1) ∧ decode cX5_begin 77 = .ok (.iconst 0, 1) ∧ decode cX5_begin 78 = .ok (.putfield 36, 3) ∧ decode cX5_begin 81 = .ok (.aload_n 0, 1) ∧ decode cX5_begin 82 = .ok (.invokevirtual 39, 3) ∧ decode cX5_begin 85 = .ok (.return_, 1) ∧ decode cX5_begin 55 = .ok (.aload_n 0, 1) ∧ decode cX5_begin 56 = .ok (.getfield 11, 3) ∧ decode cX5_begin 59 = .ok (.bipush 25, 2) ∧ decode cX5_begin 61 = .ok (.iload_n 2, 1) ∧ decode cX5_begin 62 = .ok (.iadd, 1) := by decide +kernel
theorem dX5_begin_52 : decode cX5_begin 52 = .ok (.if_icmp .ge 24, 3) := gdX5_begin_52.1
theorem dX5_begin_76 : decode cX5_begin 76 = .ok (.aload_n 0, 1) := gdX5_begin_52.2.1
theorem dX5_begin_77 : decode cX5_begin 77 = .ok (.iconst 0, 1) := gdX5_begin_52.2.2.1
theorem dX5_begin_78 : decode cX5_begin 78 = .ok (.putfield 36, 3) := gdX5_begin_52.2.2.2.1
theorem dX5_begin_81 : decode cX5_begin 81 = .ok (.aload_n 0, 1) := gdX5_begin_52.2.2.2.2.1
theorem dX5_begin_82 : decode cX5_begin 82 = .ok (.invokevirtual 39, 3) := gdX5_begin_52.2.2.2.2.2.1
theorem dX5_begin_85 : decode cX5_begin 85 = .ok (.return_, 1) := gdX5_begin_52.2.2.2.2.2.2.1
theorem dX5_begin_55 : decode cX5_begin 55 = .ok (.aload_n 0, 1) := gdX5_begin_52.2.2.2.2.2.2.2.1
theorem dX5_begin_56 : decode cX5_begin 56 = .ok (.getfield 11, 3) := gdX5_begin_52.2.2.2.2.2.2.2.2.1
theorem dX5_begin_59 : decode cX5_begin 59 = .ok (.bipush 25, 2) := gdX5_begin_52.2.2.2.2.2.2.2.2.2.1
theorem dX5_begin_61 : decode cX5_begin 61 = .ok (.iload_n 2, 1) := gdX5_begin_52.2.2.2.2.2.2.2.2.2.2.1
theorem dX5_begin_62 : decode cX5_begin 62 = .ok (.iadd, 1) := gdX5_begin_52.2.2.2.2.2.2.2.2.2.2.2
theorem gdX5_begin_63 : decode cX5_begin 63 = .ok (.aload_n 1, 1) ∧ decode cX5_begin 64 = .ok (.getfield 33, 3) ∧ decode cX5_begin 67 = .ok (.iload_n 2, 1) ∧ decode cX5_begin 68 = .ok (.iaload, 1) ∧ decode cX5_begin 69 = .ok (.iastore, 1) ∧ decode cX5_begin 70 = .ok (.iinc 2 1, 3) ∧ decode cX5_begin 73 = .ok (.goto (-28), 3) ∧ decode cX5_begin 8 = .ok (.aload_n 0, 1) ∧ decode cX5_begin 9 = .ok (.getfield 11, 3) ∧ decode cX5_begin 12 = .ok (.iload_n 2, 1) ∧ decode cX5_begin 13 = .ok (.iconst 0, 1) ∧ decode cX5_begin 14 = .ok (.iastore, 1) := by decide +kernel
theorem dX5_begin_63 : decode cX5_begin 63 = .ok (.aload_n 1, 1) := gdX5_begin_63.1
theorem dX5_begin_64 : decode cX5_begin 64 = .ok (.getfield 33, 3) := gdX5_begin_63.2.1
theorem dX5_begin_67 : decode cX5_begin 67 = .ok (.iload_n 2, 1) := gdX5_begin_63.2.2.1
theorem dX5_begin_68 : decode cX5_begin 68 = .ok (.iaload, 1) := gdX5_begin_63.2.2.2.1
theorem dX5_begin_69 : decode cX5_begin 69 = .ok (.iastore, 1) := gdX5_begin_63.2.2.2.2.1
theorem dX5_begin_70 : decode cX5_begin 70 = .ok (.iinc 2 1, 3) := gdX5_begin_63.2.2.2.2.2.1
theorem dX5_begin_73 : decode cX5_begin 73 = .ok (.goto (-28), 3) := gdX5_begin_63.2.2.2.2.2.2.1
theorem dX5_begin_8 : decode cX5_begin 8 = .ok (.aload_n 0, 1) := gdX5_begin_63.2.2.2.2.2.2.2.1
theorem dX5_begin_9 : decode cX5_begin 9 = .ok (.getfield 11, 3) := gdX5_begin_63.2.2.2.2.2.2.2.2.1
theorem dX5_begin_12 : decode cX5_begin 12 = .ok (.iload_n 2, 1) := gdX5_begin_63.2.2.2.2.2.2.2.2.2.1
theorem dX5_begin_13 : decode cX5_begin 13 = .ok (.iconst 0, 1) := gdX5_begin_63.2.2.2.2.2.2.2.2.2.2.1
theorem dX5_begin_14 : decode cX5_begin 14 = .ok (.iastore, 1) := gdX5_begin_63.2.2.2.2.2.2.2.2.2.2.2
theorem dX5_begin_15 : decode cX5_begin 15 = .ok (.iinc 2 1, 3) := by decide +kernel
theorem dX5_begin_18 : decode cX5_begin 18 = .ok (.goto (-16), 3) := by decide +kernel
set_option maxHeartbeats 1000000 in
set_option maxRecDepth 100000 in
theorem s_begin (l : Launch) (D : va_G) (cy : Nat → ClassId) (n0 : Nat) (n1 : Nat) (n2 : Nat) (n3 : Nat) (fu : Int32) (cu : Nat) (un : Nat) (re : Nat) (fn : Nat → Int32) (fq : Nat → Int32) (h0 : Nat) (h1 : Nat) (h2 : Nat) (h3 : Nat) (h4 : Nat) (h5 : Nat) (h6 : Nat) (h7 : Nat) (h8 : Nat) (h9 : Nat) (h10 : Nat) (h11 : Nat) (hv0 : Value) (hv1 : Value) (hv4 : Value) (hwi : Int32) (hdr : Int32) (fcs : Nat → Int32) (fc : Nat → Int32) (c0 : Nat) (c1 : Nat) (c2 : Nat) (c3 : Nat) (hcu : cu ≤ 40) (hur : un + re ≤ 40) (hno : mRows fn 1) (hro : mRows fq 41) (hcn : cntOK fc c0 c1 c2 c3) (hc0 : c0 ≤ 8) (hc1 : c1 ≤ 4) (hc2 : c2 ≤ 4) (hc3 : c3 ≤ 6) : XMv l D (tyL cy) E0 yX5_begin cX5_begin 3 none (rmk 2 0 0) [.ref n0, .ref h0] [wO n0 5 [.ref n1, .ref n2, .ref n3, .int fu, .int (nI cu), .int (nI un), .int (nI re)], wI (cy 1) n1 41 (fn), wI (cy 1) n2 1681 (fq), wO h0 4 [.ref h1, .ref h2, .ref h3, .ref h4, .ref h5, .ref h6, .ref h7, .ref h8, .ref h9, .ref h10, .ref h11, hv0, hv1, .int hwi, .int hdr, hv4], wI (cy 1) h1 4 (fc), wI (cy 1) h4 4 (fcs)] (fun (u : (Nat → Int32) × (Nat → Int32)) => (mRows u.1 1) ∧ (mRows u.2 41) ∧ (bgT hwi hdr fcs c1 u.1 ∧ u.2 = va_cpy u.1 fq 0 0 41)) (fun (u : (Nat → Int32) × (Nat → Int32)) => [wO n0 5 [.ref n1, .ref n2, .ref n3, .int 0, .int 0, .int 0, .int 0], wI (cy 1) n1 41 (u.1), wI (cy 1) n2 1681 (u.2), wO h0 4 [.ref h1, .ref h2, .ref h3, .ref h4, .ref h5, .ref h6, .ref h7, .ref h8, .ref h9, .ref h10, .ref h11, hv0, hv1, .int hwi, .int hdr, hv4], wI (cy 1) h1 4 (fc), wI (cy 1) h4 4 (fcs)]) := by
  refine XMv.start (by decide) (Nat.le_of_ble_eq_true rfl) ?_
  intro p e s m below meth c args A ls Q hat hQ
  obtain ⟨hx, hb, hr, hml, hown, hg, hlocks, hin, hK, hA, hP, hD, hS, hE, hl⟩ := hat
  have hown : s.vm.findClass RX5 = some m.cls := hown
  have hl : lv_has ls 3 [(0, .ref n0), (1, .ref h0)] := hl
  refine lv_iconst (v := 0) hx hb dX5_begin_0 (by decide) ?_
  refine lv_istore_n (lv' := [(2, .int 0), (0, .ref n0), (1, .ref h0)]) hx hb dX5_begin_1 rfl hl (by decide) rfl (fun ls hl => ?_)
  have loop1 : ∀ (zn : Nat) (i1 : Nat) (fa1_1 : Nat → Int32), (mRows fa1_1 1) → (i1 ≤ 41) → (zrT i1 fa1_1) → 41 - i1 + 1 ≤ zn → ∀ (H : Heap) (locs : List Loc), va_P D vwCl [wO n0 5 [.ref n1, .ref n2, .ref n3, .int fu, .int (nI cu), .int (nI un), .int (nI re)], wI (cy 1) n1 41 (fa1_1), wI (cy 1) n2 1681 (fq), wO h0 4 [.ref h1, .ref h2, .ref h3, .ref h4, .ref h5, .ref h6, .ref h7, .ref h8, .ref h9, .ref h10, .ref h11, hv0, hv1, .int hwi, .int hdr, hv4], wI (cy 1) h1 4 (fc), wI (cy 1) h4 4 (fcs)] H → va_D A [wO n0 5 [.ref n1, .ref n2, .ref n3, .int fu, .int (nI cu), .int (nI un), .int (nI re)], wI (cy 1) n1 41 (fa1_1), wI (cy 1) n2 1681 (fq), wO h0 4 [.ref h1, .ref h2, .ref h3, .ref h4, .ref h5, .ref h6, .ref h7, .ref h8, .ref h9, .ref h10, .ref h11, hv0, hv1, .int hwi, .int hdr, hv4], wI (cy 1) h1 4 (fc), wI (cy 1) h4 4 (fcs)] → va_S A s.heap H locs → ∀ ls : Array Slot, lv_has ls 3 [(2, .int (nI i1)), (0, .ref n0), (1, .ref h0)] → W p l e (rmk 2 0 0) s m args below meth c H locs 0 0 Q (F0 m 2 ls []) := by
    try clear hP hD hS
    intro zn
    induction zn with
    | zero => intro i1 fa1_1 _ _ _ hz; exact absurd hz (by omega)
    | succ zn ih1 =>
      intro i1 fa1_1 ha2_1 hf0_1 hf1_1 hmu1 H locs hP hD hS ls hl
      refine lv_iload_n hx hb dX5_begin_2 rfl (lv_at hl 0 rfl) ?_
      refine lv_bipush (v := 41) hx hb dX5_begin_3 (by decide) ?_
      refine lv_icmp_ge (tgt := 21) hx hb dX5_begin_5 (by decide) (fun c_2 => ?_) (fun c_2 => ?_)
      · have q_3 : 41 ≤ i1 := q_le (a := 41) (b := i1) rfl rfl (by omega) (by omega) c_2
        refine lv_aload_n hx hb dX5_begin_21 rfl (lv_at hl 1 rfl) ?_
        refine va_get (D := D) (ci := 5) (v := .ref n1) (C := RX5) (T := TX5) (N := 7) hx hb hg i_X5 hown hK hP 0 rfl rfl 0 (by decide) (hg _ m_423) (fun _ h9 => h9) rfl dX5_begin_22 ?_
        refine lv_bipush (v := 22) hx hb dX5_begin_25 (by decide) ?_
        refine lv_aload_n hx hb dX5_begin_27 rfl (lv_at hl 2 rfl) ?_
        refine va_get (D := D) (ci := 4) (v := .int hwi) (C := RX4) (T := TX4) (N := 16) hx hb hg i_X4 hown hK hP 3 rfl rfl 13 (by decide) (hg _ m_374) (fun _ h9 => h9) rfl dX5_begin_28 ?_
        refine va_iast hx hb hK hP hD hS 1 1 rfl rfl (by unfold vp_in; decide) dX5_begin_31 (fun H locs hP9 hD9 hS9 => ?_)
        clear hP hD hS
        have hP := hP9
        have hD := hD9
        have hS := hS9
        clear hP9 hD9 hS9
        obtain ⟨g_4, eg_4⟩ : ∃ y, upd fa1_1 (22 : Int32).toNatClampNeg hwi = y := ⟨_, rfl⟩
        rw [eg_4] at hP hD
        have hr_5 : mRows g_4 1 := eg_4 ▸ m_rest ha2_1 (by decide)
        replace hP : va_P D vwCl [wO n0 5 [.ref n1, .ref n2, .ref n3, .int fu, .int (nI cu), .int (nI un), .int (nI re)], wI (cy 1) n1 41 (g_4), wI (cy 1) n2 1681 (fq), wO h0 4 [.ref h1, .ref h2, .ref h3, .ref h4, .ref h5, .ref h6, .ref h7, .ref h8, .ref h9, .ref h10, .ref h11, hv0, hv1, .int hwi, .int hdr, hv4], wI (cy 1) h1 4 (fc), wI (cy 1) h4 4 (fcs)] H := hP
        replace hD : va_D A [wO n0 5 [.ref n1, .ref n2, .ref n3, .int fu, .int (nI cu), .int (nI un), .int (nI re)], wI (cy 1) n1 41 (g_4), wI (cy 1) n2 1681 (fq), wO h0 4 [.ref h1, .ref h2, .ref h3, .ref h4, .ref h5, .ref h6, .ref h7, .ref h8, .ref h9, .ref h10, .ref h11, hv0, hv1, .int hwi, .int hdr, hv4], wI (cy 1) h1 4 (fc), wI (cy 1) h4 4 (fcs)] := hD
        refine lv_aload_n hx hb dX5_begin_32 rfl (lv_at hl 1 rfl) ?_
        refine va_get (D := D) (ci := 5) (v := .ref n1) (C := RX5) (T := TX5) (N := 7) hx hb hg i_X5 hown hK hP 0 rfl rfl 0 (by decide) (hg _ m_423) (fun _ h9 => h9) rfl dX5_begin_33 ?_
        refine lv_bipush (v := 23) hx hb dX5_begin_36 (by decide) ?_
        refine lv_aload_n hx hb dX5_begin_38 rfl (lv_at hl 2 rfl) ?_
        refine va_get (D := D) (ci := 4) (v := .int hdr) (C := RX4) (T := TX4) (N := 16) hx hb hg i_X4 hown hK hP 3 rfl rfl 14 (by decide) (hg _ m_378) (fun _ h9 => h9) rfl dX5_begin_39 ?_
        refine va_iast hx hb hK hP hD hS 1 1 rfl rfl (by unfold vp_in; decide) dX5_begin_42 (fun H locs hP9 hD9 hS9 => ?_)
        clear hP hD hS
        have hP := hP9
        have hD := hD9
        have hS := hS9
        clear hP9 hD9 hS9
        obtain ⟨g_6, eg_6⟩ : ∃ y, upd g_4 (23 : Int32).toNatClampNeg hdr = y := ⟨_, rfl⟩
        rw [eg_6] at hP hD
        have hr_7 : mRows g_6 1 := eg_6 ▸ m_rest hr_5 (by decide)
        replace hP : va_P D vwCl [wO n0 5 [.ref n1, .ref n2, .ref n3, .int fu, .int (nI cu), .int (nI un), .int (nI re)], wI (cy 1) n1 41 (g_6), wI (cy 1) n2 1681 (fq), wO h0 4 [.ref h1, .ref h2, .ref h3, .ref h4, .ref h5, .ref h6, .ref h7, .ref h8, .ref h9, .ref h10, .ref h11, hv0, hv1, .int hwi, .int hdr, hv4], wI (cy 1) h1 4 (fc), wI (cy 1) h4 4 (fcs)] H := hP
        replace hD : va_D A [wO n0 5 [.ref n1, .ref n2, .ref n3, .int fu, .int (nI cu), .int (nI un), .int (nI re)], wI (cy 1) n1 41 (g_6), wI (cy 1) n2 1681 (fq), wO h0 4 [.ref h1, .ref h2, .ref h3, .ref h4, .ref h5, .ref h6, .ref h7, .ref h8, .ref h9, .ref h10, .ref h11, hv0, hv1, .int hwi, .int hdr, hv4], wI (cy 1) h1 4 (fc), wI (cy 1) h4 4 (fcs)] := hD
        refine lv_iconst (v := 0) hx hb dX5_begin_43 (by decide) ?_
        refine lv_istore_n (lv' := [(2, .int 0), (0, .ref n0), (1, .ref h0)]) hx hb dX5_begin_44 rfl hl (by decide) rfl (fun ls hl => ?_)
        have loop8 : ∀ (zn : Nat) (i8 : Nat) (fa1_8 : Nat → Int32), (mRows fa1_8 1) → (i8 ≤ c1) → (bgT hwi hdr fcs i8 fa1_8) → c1 - i8 + 1 ≤ zn → ∀ (H : Heap) (locs : List Loc), va_P D vwCl [wO n0 5 [.ref n1, .ref n2, .ref n3, .int fu, .int (nI cu), .int (nI un), .int (nI re)], wI (cy 1) n1 41 (fa1_8), wI (cy 1) n2 1681 (fq), wO h0 4 [.ref h1, .ref h2, .ref h3, .ref h4, .ref h5, .ref h6, .ref h7, .ref h8, .ref h9, .ref h10, .ref h11, hv0, hv1, .int hwi, .int hdr, hv4], wI (cy 1) h1 4 (fc), wI (cy 1) h4 4 (fcs)] H → va_D A [wO n0 5 [.ref n1, .ref n2, .ref n3, .int fu, .int (nI cu), .int (nI un), .int (nI re)], wI (cy 1) n1 41 (fa1_8), wI (cy 1) n2 1681 (fq), wO h0 4 [.ref h1, .ref h2, .ref h3, .ref h4, .ref h5, .ref h6, .ref h7, .ref h8, .ref h9, .ref h10, .ref h11, hv0, hv1, .int hwi, .int hdr, hv4], wI (cy 1) h1 4 (fc), wI (cy 1) h4 4 (fcs)] → va_S A s.heap H locs → ∀ ls : Array Slot, lv_has ls 3 [(2, .int (nI i8)), (0, .ref n0), (1, .ref h0)] → W p l e (rmk 2 0 0) s m args below meth c H locs 0 0 Q (F0 m 45 ls []) := by
          try clear hP hD hS
          intro zn
          induction zn with
          | zero => intro i8 fa1_8 _ _ _ hz; exact absurd hz (by omega)
          | succ zn ih8 =>
            intro i8 fa1_8 ha2_8 hf0_8 hf1_8 hmu8 H locs hP hD hS ls hl
            refine lv_iload_n hx hb dX5_begin_45 rfl (lv_at hl 0 rfl) ?_
            refine lv_aload_n hx hb dX5_begin_46 rfl (lv_at hl 2 rfl) ?_
            refine va_get (D := D) (ci := 4) (v := .ref h1) (C := RX4) (T := TX4) (N := 16) hx hb hg i_X4 hown hK hP 3 rfl rfl 0 (by decide) (hg _ m_332) (fun _ h9 => h9) rfl dX5_begin_47 ?_
            refine lv_iconst (v := 1) hx hb dX5_begin_50 (by decide) ?_
            refine va_iald hx hb hK hP 4 1 rfl rfl (by unfold vp_in; decide) dX5_begin_51 ?_
            refine lv_topi (fun y_9 hy_9 => ?_)
            obtain rfl : y_9 = nI c1 := hy_9.trans hcn.2.1
            refine lv_icmp_ge (tgt := 76) hx hb dX5_begin_52 (by decide) (fun c_10 => ?_) (fun c_10 => ?_)
            · have q_11 : c1 ≤ i8 := q_le (a := c1) (b := i8) rfl rfl (by omega) (by omega) c_10
              refine lv_aload_n hx hb dX5_begin_76 rfl (lv_at hl 1 rfl) ?_
              refine lv_iconst (v := 0) hx hb dX5_begin_77 (by decide) ?_
              refine va_put (D := D) (ci := 5) (v := .int 0) (ty := .int) (C := RX5) (T := TX5) (N := 7) hx hb hg i_X5 tyX5 tyX5_ok nmX5 hown hK hP hD hS 0 rfl rfl 3 (by decide) (hg _ m_427) (fun _ h9 => h9) rfl (by decide +kernel) rfl rfl (Nat.le_of_ble_eq_true rfl) dX5_begin_78 (fun H locs hP9 hD9 hS9 => ?_)
              clear hP hD hS
              refine reW [wO n0 5 [.ref n1, .ref n2, .ref n3, .int 0, .int (nI cu), .int (nI un), .int (nI re)], wI (cy 1) n1 41 (fa1_8), wI (cy 1) n2 1681 (fq), wO h0 4 [.ref h1, .ref h2, .ref h3, .ref h4, .ref h5, .ref h6, .ref h7, .ref h8, .ref h9, .ref h10, .ref h11, hv0, hv1, .int hwi, .int hdr, hv4], wI (cy 1) h1 4 (fc), wI (cy 1) h4 4 (fcs)] hP9 hD9 hS9 (fun hP hD hS => ?_)
              clear hP9 hD9 hS9
              refine lv_aload_n hx hb dX5_begin_81 rfl (lv_at hl 1 rfl) ?_
              refine x_callVv (q := (RX5, TX5, 7)) (ci := 5) (q0 := 0) (wr := [wO h0 4 [.ref h1, .ref h2, .ref h3, .ref h4, .ref h5, .ref h6, .ref h7, .ref h8, .ref h9, .ref h10, .ref h11, hv0, hv1, .int hwi, .int hdr, hv4], wI (cy 1) h1 4 (fc), wI (cy 1) h4 4 (fcs)]) (rest := []) ⟨hx, hb, hml, hown, hg, hl.1⟩ k_X5_39 (s_forgetActs l D cy n0 n1 n2 n3 0 cu un re fa1_8 fq (by omega) (by omega) (ha2_8) (hro)) E0_blind hK hP hD hS hA [0, 1, 2] [3, 4, 5] ⟨rfl, rfl, by decide +kernel, by decide +kernel, by decide +kernel⟩ rfl rfl (fun _ _ _ => trivial) dX5_begin_82 rfl rfl (Nat.le_of_ble_eq_true rfl) ⟨Nat.le_of_ble_eq_true rfl, Nat.le_of_ble_eq_true rfl⟩ ⟨Nat.le_of_ble_eq_true rfl, Nat.le_of_ble_eq_true rfl⟩ (fun zu12 H locs hw12 hP9 hD9 hS9 => ?_)
              clear hP hD hS
              obtain ⟨fq2_13, rfl⟩ : ∃ z, z = zu12 := ⟨_, rfl⟩
              refine reW [wO h0 4 [.ref h1, .ref h2, .ref h3, .ref h4, .ref h5, .ref h6, .ref h7, .ref h8, .ref h9, .ref h10, .ref h11, hv0, hv1, .int hwi, .int hdr, hv4], wI (cy 1) h1 4 (fc), wI (cy 1) h4 4 (fcs), wO n0 5 [.ref n1, .ref n2, .ref n3, .int 0, .int 0, .int 0, .int 0], wI (cy 1) n1 41 (fa1_8), wI (cy 1) n2 1681 (fq2_13)] hP9 hD9 hS9 (fun hP hD hS => ?_)
              clear hP9 hD9 hS9
              refine W.widen (k := 0) (n := 0) (Nat.le_of_ble_eq_true rfl) (Nat.le_of_ble_eq_true rfl) ?_
              replace hw12 : (mRows fq2_13 41) ∧ (fq2_13 = va_cpy fa1_8 fq 0 0 41) := hw12
              obtain ⟨f_14, f_15⟩ := hw12
              exact x_vret hQ hx hb hr hlocks hK hP hD hS dX5_begin_85 (fa1_8, fq2_13) (⟨ha2_8, f_14, ⟨by have h9 := hf1_8; rwa [show i8 = c1 by omega] at h9, f_15⟩⟩) [3, 4, 5, 0, 1, 2] (by decide +kernel) rfl (Nat.le_of_ble_eq_true rfl) (Nat.le_of_ble_eq_true rfl)
            · have q_11 : i8 < c1 := q_nle (a := c1) (b := i8) rfl rfl (by omega) (by omega) c_10
              refine lv_aload_n hx hb dX5_begin_55 rfl (lv_at hl 1 rfl) ?_
              refine va_get (D := D) (ci := 5) (v := .ref n1) (C := RX5) (T := TX5) (N := 7) hx hb hg i_X5 hown hK hP 0 rfl rfl 0 (by decide) (hg _ m_423) (fun _ h9 => h9) rfl dX5_begin_56 ?_
              refine lv_bipush (v := 25) hx hb dX5_begin_59 (by decide) ?_
              refine lv_iload_n hx hb dX5_begin_61 rfl (lv_at hl 0 rfl) ?_
              refine lv_iadd hx hb dX5_begin_62 ?_
              refine lv_topi (fun y_16 hy_16 => ?_)
              obtain rfl : y_16 = nI (25 + i8) := hy_16.trans (nI_add 25 i8)
              refine lv_aload_n hx hb dX5_begin_63 rfl (lv_at hl 2 rfl) ?_
              refine va_get (D := D) (ci := 4) (v := .ref h4) (C := RX4) (T := TX4) (N := 16) hx hb hg i_X4 hown hK hP 3 rfl rfl 3 (by decide) (hg _ m_345) (fun _ h9 => h9) rfl dX5_begin_64 ?_
              refine lv_iload_n hx hb dX5_begin_67 rfl (lv_at hl 0 rfl) ?_
              refine va_iald hx hb hK hP 5 1 rfl rfl (vp_in_nI (by omega) (by decide)) dX5_begin_68 ?_
              refine lv_topi (fun x_17 ex_17 => ?_)
              refine va_iast hx hb hK hP hD hS 1 1 rfl rfl (vp_in_nI (by omega) (by decide)) dX5_begin_69 (fun H locs hP9 hD9 hS9 => ?_)
              clear hP hD hS
              have hP := hP9
              have hD := hD9
              have hS := hS9
              clear hP9 hD9 hS9
              obtain ⟨g_18, eg_18⟩ : ∃ y, upd fa1_8 (nI (25 + i8) : Int32).toNatClampNeg x_17 = y := ⟨_, rfl⟩
              rw [eg_18] at hP hD
              have hr_19 : mRows g_18 1 := eg_18 ▸ m_restN ha2_8 (by omega) (by omega)
              replace hP : va_P D vwCl [wO n0 5 [.ref n1, .ref n2, .ref n3, .int fu, .int (nI cu), .int (nI un), .int (nI re)], wI (cy 1) n1 41 (g_18), wI (cy 1) n2 1681 (fq), wO h0 4 [.ref h1, .ref h2, .ref h3, .ref h4, .ref h5, .ref h6, .ref h7, .ref h8, .ref h9, .ref h10, .ref h11, hv0, hv1, .int hwi, .int hdr, hv4], wI (cy 1) h1 4 (fc), wI (cy 1) h4 4 (fcs)] H := hP
              replace hD : va_D A [wO n0 5 [.ref n1, .ref n2, .ref n3, .int fu, .int (nI cu), .int (nI un), .int (nI re)], wI (cy 1) n1 41 (g_18), wI (cy 1) n2 1681 (fq), wO h0 4 [.ref h1, .ref h2, .ref h3, .ref h4, .ref h5, .ref h6, .ref h7, .ref h8, .ref h9, .ref h10, .ref h11, hv0, hv1, .int hwi, .int hdr, hv4], wI (cy 1) h1 4 (fc), wI (cy 1) h4 4 (fcs)] := hD
              refine lv_iinc (v := nI (i8 + 1)) (lv' := [(2, .int (nI (i8 + 1))), (0, .ref n0), (1, .ref h0)]) hx hb dX5_begin_70 hl (k := 0) rfl (nI_add i8 1) (by decide) rfl (fun ls hl => ?_)
              refine lv_goto (tgt := 45) hx hb dX5_begin_73 (by decide) ?_
              exact ih8  ((i8 + 1)) g_18 hr_19 (by omega) (bgT_put hf1_8 (by omega) ex_17 eg_18) (by omega) _ _ (hP.sub [0, 1, 2, 3, 4, 5] rfl) (hD.sub [0, 1, 2, 3, 4, 5] (by decide +kernel) rfl) hS ls (lv_sub hl [0, 1, 2] rfl)
        exact loop8 _ 0 g_6 hr_7 (by omega) (bgT_0 hf1_1 (by omega) eg_4 eg_6) (Nat.le_refl _) _ _ (hP.sub [0, 1, 2, 3, 4, 5] rfl) (hD.sub [0, 1, 2, 3, 4, 5] (by decide +kernel) rfl) hS ls (lv_sub hl [0, 1, 2] rfl)
      · have q_3 : i1 < 41 := q_nle (a := 41) (b := i1) rfl rfl (by omega) (by omega) c_2
        refine lv_aload_n hx hb dX5_begin_8 rfl (lv_at hl 1 rfl) ?_
        refine va_get (D := D) (ci := 5) (v := .ref n1) (C := RX5) (T := TX5) (N := 7) hx hb hg i_X5 hown hK hP 0 rfl rfl 0 (by decide) (hg _ m_423) (fun _ h9 => h9) rfl dX5_begin_9 ?_
        refine lv_iload_n hx hb dX5_begin_12 rfl (lv_at hl 0 rfl) ?_
        refine lv_iconst (v := 0) hx hb dX5_begin_13 (by decide) ?_
        refine va_iast hx hb hK hP hD hS 1 1 rfl rfl (vp_in_nI (by omega) (by decide)) dX5_begin_14 (fun H locs hP9 hD9 hS9 => ?_)
        clear hP hD hS
        have hP := hP9
        have hD := hD9
        have hS := hS9
        clear hP9 hD9 hS9
        obtain ⟨g_20, eg_20⟩ : ∃ y, upd fa1_1 (nI i1 : Int32).toNatClampNeg 0 = y := ⟨_, rfl⟩
        rw [eg_20] at hP hD
        have hr_21 : mRows g_20 1 := eg_20 ▸ m_zero ha2_1
        replace hP : va_P D vwCl [wO n0 5 [.ref n1, .ref n2, .ref n3, .int fu, .int (nI cu), .int (nI un), .int (nI re)], wI (cy 1) n1 41 (g_20), wI (cy 1) n2 1681 (fq), wO h0 4 [.ref h1, .ref h2, .ref h3, .ref h4, .ref h5, .ref h6, .ref h7, .ref h8, .ref h9, .ref h10, .ref h11, hv0, hv1, .int hwi, .int hdr, hv4], wI (cy 1) h1 4 (fc), wI (cy 1) h4 4 (fcs)] H := hP
        replace hD : va_D A [wO n0 5 [.ref n1, .ref n2, .ref n3, .int fu, .int (nI cu), .int (nI un), .int (nI re)], wI (cy 1) n1 41 (g_20), wI (cy 1) n2 1681 (fq), wO h0 4 [.ref h1, .ref h2, .ref h3, .ref h4, .ref h5, .ref h6, .ref h7, .ref h8, .ref h9, .ref h10, .ref h11, hv0, hv1, .int hwi, .int hdr, hv4], wI (cy 1) h1 4 (fc), wI (cy 1) h4 4 (fcs)] := hD
        refine lv_iinc (v := nI (i1 + 1)) (lv' := [(2, .int (nI (i1 + 1))), (0, .ref n0), (1, .ref h0)]) hx hb dX5_begin_15 hl (k := 0) rfl (nI_add i1 1) (by decide) rfl (fun ls hl => ?_)
        refine lv_goto (tgt := 2) hx hb dX5_begin_18 (by decide) ?_
        exact ih1  ((i1 + 1)) g_20 hr_21 (by omega) (zrT_put hf1_1 (by omega) eg_20) (by omega) _ _ (hP.sub [0, 1, 2, 3, 4, 5] rfl) (hD.sub [0, 1, 2, 3, 4, 5] (by decide +kernel) rfl) hS ls (lv_sub hl [0, 1, 2] rfl)
  exact loop1 _ 0 fn hno (by omega) (zrT_0) (Nat.le_refl _) _ _ (hP.sub [0, 1, 2, 3, 4, 5] rfl) (hD.sub [0, 1, 2, 3, 4, 5] (by decide +kernel) rfl) hS ls (lv_sub hl [0, 1, 2] rfl)
